/-! Calls: a callee that returns, a callee's exception passed on, a new exception thrown. -/
theorem zrun {p : Program} {l : Launch} {e : Env} {R : Room} {s : State} {m : MethodId} {args : Array Value} {below : List Frame} {meth : Method} {c : Code} {T : State} {locs : List Loc} {kc ks : Nat} (X : Stand p l e R s m args below meth c T locs kc ks)
    {y : MethodName} {ws : List Jvm.Cond} {nL' lev' gc gs : Nat} {rd' : Bool} {av : List Value} {w : zW} {res : zR} {D : va_G} {cI cJ : ClassId} {as : Nat → Nat}
    (hM : zC l y ws lev' rd' gc gs av w res) {g : JFrame} (hg : g.method = m) (hsize : g.locals.size = c.maxLocals) {ig : Instr} {len : Nat} (hdg : decode c.code g.pc = .ok (ig, len))
    (hW : 2 * g.monitorRoom + (g.stack.map fun v => v.category).sum ≤ 8) {mk : MethodId} {methY : Method} {cY : Code} (hn : T.methodNamed? y = some mk) (hmY : T.vm.method? mk = some methY) (hcY : methY.code = some cY) (hlY : cY.maxLocals = nL') {a : Array Value}
    (hts : ∀ x ∈ ws, x.before a T = true) (hini : (Jvm.Cond.initialized y.cls).before a T = true) (hP : zPc D cI cJ as av w T.heap.size a T)
    (hR : (zrm lev').frames + 1 ≤ R.frames ∧ 8 + (nL' + 11) + (zrm lev').locals ≤ R.locals) (hf : kc + 1 ≤ R.cells ∧ ks + 6 ≤ R.slots) :
    ∃ (o : Outcome) (t : State) (L : List Loc) (B : State), zEnd res D cI cJ as (zA as T.heap.size) T o t ∧ (∀ q ∈ L, zF rd' as T.heap.size q.base) ∧ B.heap = t.heap ∧ Stand p l e R s m args below meth c B (locs ++ L) (kc + zg1 gc res) (ks + zg2 gs res) ∧
      (∀ v, o = .returned v → Steps p.tables e below (doInvoke e (T.setTop g) [] mk a).1 (B.setTop { g with pc := g.pc + len, stack := v.toList ++ g.stack })) ∧
      (∀ x, o = .threw x → Steps p.tables e below (doInvoke e (T.setTop g) [] mk a).1 ((B.setTop g).pushFrame (.throwing x))) := by
  obtain ⟨kY, hkY, -⟩ := className_of_methodNamed hn
  have hiY : kY.init = .initialized := Cond.initialized_spec (findClass_of_methodNamed hn) hkY hini
  have h : At T g.method c below := by rw [hg]; exact X.here
  have hroom := X.room_calling (g := g) (m' := mk) (args' := a) (R' := zrm lev') hsize hmY hcY hR.1 (by rw [hlY]; have := hR.2; omega) hf.1 hf.2
  have happ : (headSpec ws (zrm lev')).appliesLoose y e.platform (T.calling g mk a) = true := Spec.appliesLoose_calling (g := g) h hdg hn hkY hiY hroom (atoms_intro hts)
  obtain ⟨mid, hmid⟩ := h.above
  have hfr : (T.setTop g).frames = (.java g :: mid) ++ below := by rw [State.frames_setTop' g h.top, hmid]; rfl
  obtain ⟨o, u, hsteps, -, hend, hq, L, hfe, hL⟩ := Steps.callFree (hM D cI cJ as T.heap.size) p X.admits X.cas X.clock (acts := []) hfr happ (zPc_blind a T g mk hP) trivial
  rw [State.frames_setTop' g h.top] at hend
  obtain ⟨hWu, hU, q2, q3, q4, q5, q6⟩ := hfe
  have hWT : T.WarmedH u.vm := hWu
  obtain ⟨g₀, hg0⟩ := Option.isSome_iff_exists.mp h.top
  obtain ⟨r, hr⟩ := State.topJava?_eq_some.mp hg0
  obtain ⟨t0, ht0, -⟩ := State.frames_cons hr
  have hr' : (({ T with heap := u.heap, slotsUsed := u.slotsUsed } : State).setVm u.vm).frames = .java g₀ :: r := hr
  have e1 : u = ({ (T.calling g mk a).setFrames u.frames with heap := u.heap, slotsUsed := u.slotsUsed } : State).setVm u.vm := by
    have e0 : u = ({ u with vm := (T.calling g mk a).vm } : State).setVm u.vm := rfl
    have e2 : ({ u with vm := (T.calling g mk a).vm } : State) = { (T.calling g mk a).setFrames u.frames with heap := u.heap, slotsUsed := u.slotsUsed } := hU
    rw [e2] at e0
    exact e0
  have hsame : T.sameButNew ({ T with heap := u.heap, slotsUsed := u.slotsUsed } : State) L (zg1 gc res) (zg2 gs res) := by
    refine ⟨?_, q2, q3, q4, q5, q6⟩
    show ({ T with heap := u.heap, slotsUsed := u.slotsUsed } : State) = { T.setFrames T.frames with heap := u.heap, slotsUsed := u.slotsUsed }
    rw [State.setFrames_self ht0]
  have hend' : zEnd res D cI cJ as (zA as T.heap.size) T o u := by
    cases res with
    | inl q => exact ⟨hq.1, hq.2.1, hq.2.2.1, hq.2.2.2⟩
    | inr q =>
      obtain ⟨x, z1, z2, z3, z4⟩ := hq
      exact ⟨x, z1, z2, z3, z4.1, z4.2⟩
  subst hg
  refine ⟨o, u, L, (({ T with heap := u.heap, slotsUsed := u.slotsUsed } : State).setVm u.vm), hend', hL, rfl,
    ⟨X.admits, X.cas, X.clock, X.frames, X.room, X.hears, X.method, X.code, (X.here.setHeapUsed u.heap u.slotsUsed).setVm hWT.alike, X.tail, State.WarmedH.trans X.warmed hWT, X.limits, X.bytes, X.same.trans (hsame.setVm s.vm)⟩, fun v hv => ?_, fun x hx => ?_⟩
  · subst hv
    obtain ⟨c₂, i₂, len₂, hc₂, hd₂, hf₂⟩ := hend
    have hcc : c₂ = c := by
      have h1 : u.code? g.method = T.code? g.method := by rw [State.code?_eq, State.code?_eq, hWT.alike.method?]
      exact Option.some.inj (hc₂.symm.trans (h1.trans h.code))
    subst hcc
    have hlen : len₂ = len := by rw [hdg] at hd₂; cases hd₂; rfl
    subst hlen
    have hB : u = (({ T with heap := u.heap, slotsUsed := u.slotsUsed } : State).setVm u.vm).setTop { g with pc := g.pc + len₂, stack := v.toList ++ g.stack } := by
      refine e1.trans ?_
      rw [hf₂, State.calling_eq h.top, State.setFrames_setFrames, State.setTop_of_frames _ hr', hr]
      rfl
    rw [← hB]
    exact hsteps
  · subst hx
    have hend2 : u.frames = .throwing x :: .java g :: T.frames.tail := hend
    have hB : u = ((({ T with heap := u.heap, slotsUsed := u.slotsUsed } : State).setVm u.vm).setTop g).pushFrame (.throwing x) := by
      refine e1.trans ?_
      rw [hend2, State.calling_eq h.top, State.setFrames_setFrames, State.pushFrame, State.frames_setTop _ hr', State.setTop_of_frames _ hr', State.setFrames_setFrames, hr]
      rfl
    rw [← hB]
    exact hsteps
section ZT
variable {p : Program} {l : Launch} {e : Env} {R : Room} {s : State} {m : MethodId} {args : Array Value} {below : List Frame} {meth : Method} {c : Code} {cc : ByteArray} {nL : Nat} {own : String} {D : va_G} {cI cJ : ClassId} {as : Nat → Nat} {rd : Bool} {kc ks : Nat} {Q : State → Prop} {pc : Nat} {lv : List (Option Value)} {st : List Value} {w : zW} {res : zR} {gc gs : Nat}
/-- what an invoke of y does, by its contract -/
def zInv (p : Program) (l : Launch) (e : Env) (R : Room) (s : State) (m : MethodId) (args : Array Value) (below : List Frame) (meth : Method) (c : Code) (D : va_G) (cI cJ : ClassId) (as : Nat → Nat) (V : State) (locs : List Loc) (kc ks : Nat) (g : JFrame) (rest : List Value) (rd' : Bool) (gc gs : Nat) (res : zR) : Prop :=
  ∃ (o : Outcome) (t : State) (L : List Loc) (B U : State), s.vm.Alike U.vm ∧ U.heap = V.heap ∧ zEnd res D cI cJ as (zA as V.heap.size) U o t ∧ (∀ q ∈ L, zF rd' as V.heap.size q.base) ∧ B.heap = t.heap ∧ Stand p l e R s m args below meth c B (locs ++ L) (kc + zg1 gc res) (ks + zg2 gs res) ∧
    (∀ v, o = .returned v → ∀ tg, Steps p.tables e below (B.setTop { g with pc := g.pc + 3, stack := v.toList ++ rest }) tg → Steps p.tables e below (V.setTop g) tg) ∧
    (∀ x, o = .threw x → Steps p.tables e below (V.setTop g) ((B.setTop { g with stack := rest }).pushFrame (.throwing x)))
theorem zinvV (G : zok p s m args meth c cc nL own D cI cJ as) {y : MethodName} {cc' : ByteArray} {nL' lev' gc' gs' idx n k ci N : Nat} {ret' : Option FieldType} {rd' : Bool} {T : u_T} {As rest : List Value} {res' : zR} {fs : List Value} {ls : Array Slot} {H : Heap} {locs : List Loc} {V : State}
    (hM : zC l y (Jvm.Cond.code y cc' nL' ret' :: Tw) lev' rd' gc' gs' (.ref k :: As) w res') (hc : zcV own idx y cc' nL' ret' n) (hd : decode cc pc = .ok (.invokevirtual idx, 3)) (hw : w[k]? = some (.inr (ci, fs))) (hcl : vwCl[ci]? = some (y.cls, T, N)) (hn : As.length = n)
    (hst : st = As.reverse ++ .ref k :: rest) (hwt : (rest.map fun v => v.category).sum ≤ 8) (hR : (zrm lev').frames + 1 ≤ R.frames ∧ 8 + (nL' + 11) + (zrm lev').locals ≤ R.locals) (hf : kc + 1 ≤ R.cells ∧ ks + 6 ≤ R.slots)
    (hl : zL as ls nL lv) (hP : zH D cI cJ as w H) (hS : va_S (zA as s.heap.size) s.heap H locs) (hV : V.heap = H) (X : Stand p l e R s m args below meth c V locs kc ks) :
    zInv p l e R s m args below meth c D cI cJ as V locs kc ks (F0 m pc ls (st.map (zv as))) (rest.map (zv as)) rd' gc' gs' res' := by
  subst hV
  obtain ⟨mk, methM, hnamed, hmethM, hstM, habM⟩ := Cond.instanceMethod_spec (G.2.1 _ hc.2.1)
  obtain ⟨methM', cM, hmethM', hcM, -, hlM, -, -, -, hsigM⟩ := Cond.code_spec hnamed (G.2.1 _ hc.1.1)
  cases hmethM.symm.trans hmethM'
  obtain ⟨cellB, hcB, hoB, hclB⟩ := va_recv G.2.2.1 hP.2 hcl (zat hw)
  obtain ⟨c2, r2, m2, q1, q2, q3, q4, kP, hkP, hkPi⟩ := Cond.selects_spec (G.2.1 _ hc.2.2)
  have hclB' : s.vm.findClass y.cls = some cellB.cls := hclB
  cases hclB'.symm.trans q1
  cases (State.methodFound?_of_named hnamed hc.1.2.2.2.1).symm.trans q2
  cases hnamed.symm.trans q3
  have hselP : selectMethod e.platform s.vm cellB.cls mk = .method mk := by rw [Launch.admits_selectMethod X.admits]; exact q4
  have hlen : (As.map (zv as)).length = methM.sig.parameters.length := by
    have h5 := hc.1.2.2.2.2
    rw [hsigM] at h5
    rw [List.length_map, hn]
    exact (Option.some.inj h5).symm
  obtain ⟨vm₁, X₁, hstep⟩ := X.invokevirtual G.1.1 G.1.2.2.2.1 (G.2.1 _ hc.1.2.1) hnamed hmethM hstM hkP hkPi hc.1.2.2.2.1 (a := as k) (cell := cellB) hcB (fun z h => by rw [h] at hoB; cases hoB) hselP hmethM habM hkP hkPi
    (g := F0 m pc ls (st.map (zv as))) rfl (argsL := As.map (zv as)) (rest := rest.map (zv as)) hlen (by subst hst; simp [zv]) (by rw [G.1.2.1]; exact hd)
  obtain ⟨o, t, L, B, h1, h2, h3, h4, h5, h6⟩ := zrun X₁ hM (nL' := nL') (g := { F0 m pc ls (st.map (zv as)) with stack := rest.map (zv as) }) rfl (hl.2.1.trans G.1.2.2.1.symm) (by rw [G.1.2.1]; exact hd) (lv_room (by rw [zsum]; exact hwt)) (X₁.named hnamed)
    (by rw [X₁.warmed.alike.method?]; exact hmethM) hcM hlM (fun x hx => zws G.2.1 hc.1.1 x hx _ _ X₁.warmed) (zword X₁.warmed (Tw_good _ hc.1.2.2.1) (G.2.1 _ hc.1.2.2.1)) (zPc_at (av := .ref k :: As) G hP hS (V.setVm vm₁) rfl X₁.warmed) hR hf
  refine ⟨o, t, L, B, V.setVm vm₁, X₁.warmed.alike, rfl, h1, h2, h3, h4, fun v hv tg htg => ?_, fun x hx => ?_⟩
  · refine hstep _ (fun acts => ?_)
    rw [doInvoke_state]
    exact (h5 v hv).trans htg
  · refine hstep _ (fun acts => ?_)
    rw [doInvoke_state]
    exact h6 x hx
theorem zinvS (G : zok p s m args meth c cc nL own D cI cJ as) {y : MethodName} {cc' : ByteArray} {nL' lev' gc' gs' idx n : Nat} {ret' : Option FieldType} {rd' : Bool} {As rest : List Value} {res' : zR} {ls : Array Slot} {H : Heap} {locs : List Loc} {V : State}
    (hM : zC l y (Jvm.Cond.code y cc' nL' ret' :: Tw) lev' rd' gc' gs' As w res') (hc : zcS own idx y cc' nL' ret' n) (hd : decode cc pc = .ok (.invokestatic idx, 3)) (hn : As.length = n)
    (hst : st = As.reverse ++ rest) (hwt : (rest.map fun v => v.category).sum ≤ 8) (hR : (zrm lev').frames + 1 ≤ R.frames ∧ 8 + (nL' + 11) + (zrm lev').locals ≤ R.locals) (hf : kc + 1 ≤ R.cells ∧ ks + 6 ≤ R.slots)
    (hl : zL as ls nL lv) (hP : zH D cI cJ as w H) (hS : va_S (zA as s.heap.size) s.heap H locs) (hV : V.heap = H) (X : Stand p l e R s m args below meth c V locs kc ks) :
    zInv p l e R s m args below meth c D cI cJ as V locs kc ks (F0 m pc ls (st.map (zv as))) (rest.map (zv as)) rd' gc' gs' res' := by
  subst hV
  obtain ⟨mk, hnamed⟩ := Cond.code_named (G.2.1 _ hc.1.1)
  obtain ⟨methM, cM, hmethM, hcM, -, hlM, -, -, -, hsigM⟩ := Cond.code_spec hnamed (G.2.1 _ hc.1.1)
  have hstatic : methM.isStatic = true := Cond.static_spec hnamed hmethM (G.2.1 _ hc.2)
  obtain ⟨kP, hkP, -⟩ := className_of_methodNamed hnamed
  have hinitP : kP.init = .initialized := Cond.initialized_spec (findClass_of_methodNamed hnamed) hkP (G.2.1 _ hc.1.2.2.1)
  have hlen : (As.map (zv as)).length = methM.sig.parameters.length := by
    have h5 := hc.1.2.2.2.2
    rw [hsigM] at h5
    rw [List.length_map, hn]
    exact (Option.some.inj h5).symm
  obtain ⟨vm₁, X₁, hstep⟩ := X.invokestatic G.1.1 G.1.2.2.2.1 (G.2.1 _ hc.1.2.1) hnamed hmethM hstatic hkP hinitP hc.1.2.2.2.1
    (g := F0 m pc ls (st.map (zv as))) rfl (argsL := As.map (zv as)) (rest := rest.map (zv as)) hlen (by subst hst; simp) (by rw [G.1.2.1]; exact hd)
  obtain ⟨o, t, L, B, h1, h2, h3, h4, h5, h6⟩ := zrun X₁ hM (nL' := nL') (g := { F0 m pc ls (st.map (zv as)) with stack := rest.map (zv as) }) rfl (hl.2.1.trans G.1.2.2.1.symm) (by rw [G.1.2.1]; exact hd) (lv_room (by rw [zsum]; exact hwt)) (X₁.named hnamed)
    (by rw [X₁.warmed.alike.method?]; exact hmethM) hcM hlM (fun x hx => zws G.2.1 hc.1.1 x hx _ _ X₁.warmed) (zword X₁.warmed (Tw_good _ hc.1.2.2.1) (G.2.1 _ hc.1.2.2.1)) (zPc_at (av := As) G hP hS (V.setVm vm₁) rfl X₁.warmed) hR hf
  refine ⟨o, t, L, B, V.setVm vm₁, X₁.warmed.alike, rfl, h1, h2, h3, h4, fun v hv tg htg => ?_, fun x hx => ?_⟩
  · refine hstep _ (fun acts => ?_)
    rw [doInvoke_state]
    exact (h5 v hv).trans htg
  · refine hstep _ (fun acts => ?_)
    rw [doInvoke_state]
    exact h6 x hx
/-- behind a call that returned -/
theorem zgo {V : State} {locs : List Loc} {ls : Array Slot} {rest : List Value} {rd' : Bool} {gc' gs' : Nat} {r : Option Value} {w' : zW} (hI : zInv p l e R s m args below meth c D cI cJ as V locs kc ks (F0 m pc ls (st.map (zv as))) (rest.map (zv as)) rd' gc' gs' (.inl (r, w')))
    (hl : zL as ls nL lv) (hS : va_S (zA as s.heap.size) s.heap V.heap locs) (hr : rd = true → locs = []) (hrd : rd = true → rd' = true)
    (kk : Z p l e R s m args below meth c nL D cI cJ as rd (kc + gc') (ks + gs') Q (pc + 3) lv (r.toList ++ rest) w') : ∃ t, Steps p.tables e below (V.setTop (F0 m pc ls (st.map (zv as)))) t ∧ Q t := by
  obtain ⟨o, t, L, B, U, hU1, hU2, ⟨ho, hH, hF⟩, hL, e1, XB, hs, -⟩ := hI
  rw [← hU2] at hS hL
  have hS' : va_S (zA as s.heap.size) s.heap t.heap (locs ++ L) := zS_app hS hF.1 (by rw [hU2]; exact fun q z1 z2 => hF.2 q (by rw [hU2]; exact z1) z2 |>.trans (by rw [hU2])) hL
  obtain ⟨t2, a1, b1⟩ := kk ls B.heap (locs ++ L) hl (by rw [e1]; exact hH) (by rw [e1]; exact hS') (zr_app hr hrd hL) B rfl XB
  refine ⟨t2, hs _ ho t2 ?_, b1⟩
  cases r with
  | none => exact a1
  | some v => exact a1
theorem zz_callV (G : zok p s m args meth c cc nL own D cI cJ as) {y : MethodName} {cc' : ByteArray} {nL' lev' gc' gs' idx n k ci N : Nat} {ret' : Option FieldType} {rd' : Bool} {T : u_T} {As rest : List Value} {r : Option Value} {w' : zW} {fs : List Value}
    (hM : zC l y (Jvm.Cond.code y cc' nL' ret' :: Tw) lev' rd' gc' gs' (.ref k :: As) w (.inl (r, w'))) (hc : zcV own idx y cc' nL' ret' n) (hd : decode cc pc = .ok (.invokevirtual idx, 3)) (hw : w[k]? = some (.inr (ci, fs))) (hcl : vwCl[ci]? = some (y.cls, T, N)) (hn : As.length = n)
    (hst : st = As.reverse ++ .ref k :: rest) (hwt : (rest.map fun v => v.category).sum ≤ 8) (hrd : rd = true → rd' = true) (hR : (zrm lev').frames + 1 ≤ R.frames ∧ 8 + (nL' + 11) + (zrm lev').locals ≤ R.locals) (hf : kc + 1 ≤ R.cells ∧ ks + 6 ≤ R.slots)
    (kk : Z p l e R s m args below meth c nL D cI cJ as rd (kc + gc') (ks + gs') Q (pc + 3) lv (r.toList ++ rest) w') : Z p l e R s m args below meth c nL D cI cJ as rd kc ks Q pc lv st w := by
  intro ls H locs hl hP hS hr V hV X
  have hI := zinvV G hM hc hd hw hcl hn hst hwt hR hf hl hP hS hV X
  exact zgo hI hl (by rw [hV]; exact hS) hr hrd kk
theorem zz_callS (G : zok p s m args meth c cc nL own D cI cJ as) {y : MethodName} {cc' : ByteArray} {nL' lev' gc' gs' idx n : Nat} {ret' : Option FieldType} {rd' : Bool} {As rest : List Value} {r : Option Value} {w' : zW}
    (hM : zC l y (Jvm.Cond.code y cc' nL' ret' :: Tw) lev' rd' gc' gs' As w (.inl (r, w'))) (hc : zcS own idx y cc' nL' ret' n) (hd : decode cc pc = .ok (.invokestatic idx, 3)) (hn : As.length = n)
    (hst : st = As.reverse ++ rest) (hwt : (rest.map fun v => v.category).sum ≤ 8) (hrd : rd = true → rd' = true) (hR : (zrm lev').frames + 1 ≤ R.frames ∧ 8 + (nL' + 11) + (zrm lev').locals ≤ R.locals) (hf : kc + 1 ≤ R.cells ∧ ks + 6 ≤ R.slots)
    (kk : Z p l e R s m args below meth c nL D cI cJ as rd (kc + gc') (ks + gs') Q (pc + 3) lv (r.toList ++ rest) w') : Z p l e R s m args below meth c nL D cI cJ as rd kc ks Q pc lv st w := by
  intro ls H locs hl hP hS hr V hV X
  have hI := zinvS G hM hc hd hn hst hwt hR hf hl hP hS hV X
  exact zgo hI hl (by rw [hV]; exact hS) hr hrd kk
/-- the exception leaves this method too -/
theorem zleave {V : State} {locs : List Loc} {ls : Array Slot} {rest : List Value} {rd' : Bool} {gc' gs' : Nat} {Xn : String} {w' : zW} (G : zok p s m args meth c cc nL own D cI cJ as) (hI : zInv p l e R s m args below meth c D cI cJ as V locs kc ks (F0 m pc ls (st.map (zv as))) (rest.map (zv as)) rd' gc' gs' (.inr (Xn, w')))
    (hex : c.exceptionTable.toList = []) (hS : va_S (zA as s.heap.size) s.heap V.heap locs) (hr : rd = true → locs = []) (hrd : rd = true → rd' = true) (hres : res = .inr (Xn, w')) (hkc : kc = 0) (hks : ks = 0) :
    ∃ u, Steps p.tables e below (V.setTop (F0 m pc ls (st.map (zv as)))) u ∧ zMQ below res D cI cJ as rd s gc gs u := by
  obtain ⟨o, t, L, B, U, hU1, hU2, ⟨x, ho, hX, hH, hF⟩, hL, e1, XB, -, hs⟩ := hI
  subst hkc
  subst hks
  rw [← hU2] at hS hL
  have hS' : va_S (zA as s.heap.size) s.heap t.heap (locs ++ L) := zS_app hS hF.1 (by rw [hU2]; exact fun q z1 z2 => hF.2 q (by rw [hU2]; exact z1) z2 |>.trans (by rw [hU2])) hL
  have XB' : Stand p l e R s m args below meth c B (locs ++ L) 1 6 := stand_widen XB (by show 0 + 1 ≤ 1; omega) (by show 0 + 6 ≤ 6; omega)
  obtain ⟨hwalk, hrun, hended, hWU, hsame⟩ := XB'.leaveThrown x (g := { F0 m pc ls (st.map (zv as)) with stack := rest.map (zv as) }) rfl rfl rfl (by rw [hex]; intro _ h; cases h) (hlocks := G.1.2.2.2.2)
  subst hres
  refine ⟨_, (hs x ho).trans hwalk, .threw x, hrun, hended, ?_, locs ++ L, ⟨hWU, hsame⟩, zfree hS' (zr_app hr hrd hL)⟩
  obtain ⟨ce, k1, k2, k3⟩ := hX
  refine ⟨x, rfl, ⟨ce, ?_, k2, ?_⟩, ?_, hS'.F e1⟩
  · show B.heap[x]? = some ce
    rw [e1]; exact k1
  · rw [← hU1.findClass]; exact k3
  · show zH D cI cJ as w' B.heap
    rw [e1]; exact hH
theorem zz_thrV (G : zok p s m args meth c cc nL own D cI cJ as) {y : MethodName} {cc' : ByteArray} {nL' lev' gc' gs' idx n k ci N : Nat} {ret' : Option FieldType} {rd' : Bool} {T : u_T} {As rest : List Value} {w' : zW} {Xn : String} {fs : List Value}
    (hM : zC l y (Jvm.Cond.code y cc' nL' ret' :: Tw) lev' rd' gc' gs' (.ref k :: As) w (.inr (Xn, w'))) (hc : zcV own idx y cc' nL' ret' n) (hd : decode cc pc = .ok (.invokevirtual idx, 3)) (hw : w[k]? = some (.inr (ci, fs))) (hcl : vwCl[ci]? = some (y.cls, T, N)) (hn : As.length = n)
    (hst : st = As.reverse ++ .ref k :: rest) (hwt : (rest.map fun v => v.category).sum ≤ 8) (hrd : rd = true → rd' = true) (hR : (zrm lev').frames + 1 ≤ R.frames ∧ 8 + (nL' + 11) + (zrm lev').locals ≤ R.locals) (hf : kc + 1 ≤ R.cells ∧ ks + 6 ≤ R.slots)
    (hex : c.exceptionTable.toList = []) (hres : res = .inr (Xn, w')) (hkc : kc = 0) (hks : ks = 0) : Z p l e R s m args below meth c nL D cI cJ as rd kc ks (zMQ below res D cI cJ as rd s gc gs) pc lv st w := by
  intro ls H locs hl hP hS hr V hV X
  exact zleave G (zinvV G hM hc hd hw hcl hn hst hwt hR hf hl hP hS hV X) hex (by rw [hV]; exact hS) hr hrd hres hkc hks
theorem zz_thrS (G : zok p s m args meth c cc nL own D cI cJ as) {y : MethodName} {cc' : ByteArray} {nL' lev' gc' gs' idx n : Nat} {ret' : Option FieldType} {rd' : Bool} {As rest : List Value} {w' : zW} {Xn : String}
    (hM : zC l y (Jvm.Cond.code y cc' nL' ret' :: Tw) lev' rd' gc' gs' As w (.inr (Xn, w'))) (hc : zcS own idx y cc' nL' ret' n) (hd : decode cc pc = .ok (.invokestatic idx, 3)) (hn : As.length = n)
    (hst : st = As.reverse ++ rest) (hwt : (rest.map fun v => v.category).sum ≤ 8) (hrd : rd = true → rd' = true) (hR : (zrm lev').frames + 1 ≤ R.frames ∧ 8 + (nL' + 11) + (zrm lev').locals ≤ R.locals) (hf : kc + 1 ≤ R.cells ∧ ks + 6 ≤ R.slots)
    (hex : c.exceptionTable.toList = []) (hres : res = .inr (Xn, w')) (hkc : kc = 0) (hks : ks = 0) : Z p l e R s m args below meth c nL D cI cJ as rd kc ks (zMQ below res D cI cJ as rd s gc gs) pc lv st w := by
  intro ls H locs hl hP hS hr V hV X
  exact zleave G (zinvS G hM hc hd hn hst hwt hR hf hl hP hS hV X) hex (by rw [hV]; exact hS) hr hrd hres hkc hks
end ZT
/-! the same, by what is answered; nothing is made -/
section ZV
variable {p : Program} {l : Launch} {e : Env} {R : Room} {s : State} {m : MethodId} {args : Array Value} {below : List Frame} {meth : Method} {c : Code} {cc : ByteArray} {nL : Nat} {own : String} {D : va_G} {cI cJ : ClassId} {as : Nat → Nat} {rd : Bool} {kc ks : Nat} {Q : State → Prop} {pc : Nat} {lv : List (Option Value)} {st : List Value} {w : zW}
theorem zz_callVi (G : zok p s m args meth c cc nL own D cI cJ as) {y : MethodName} {cc' : ByteArray} {nL' lev' idx n k ci N : Nat} {ret' : Option FieldType} {rd' : Bool} {T : u_T} {As rest : List Value} {v : Int32} {w' : zW} {fs : List Value}
    (hM : zC l y (Jvm.Cond.code y cc' nL' ret' :: Tw) lev' rd' 0 0 (.ref k :: As) w (.inl (some (.int v), w'))) (hc : zcV own idx y cc' nL' ret' n) (hd : decode cc pc = .ok (.invokevirtual idx, 3)) (hw : w[k]? = some (.inr (ci, fs))) (hcl : vwCl[ci]? = some (y.cls, T, N)) (hn : As.length = n)
    (hst : st = As.reverse ++ .ref k :: rest) (hwt : (rest.map fun v => v.category).sum ≤ 8) (hrd : rd = true → rd' = true) (hR : (zrm lev').frames + 1 ≤ R.frames ∧ 8 + (nL' + 11) + (zrm lev').locals ≤ R.locals) (hf : kc + 1 ≤ R.cells ∧ ks + 6 ≤ R.slots)
    (kk : Z p l e R s m args below meth c nL D cI cJ as rd kc ks Q (pc + 3) lv (.int v :: rest) w') : Z p l e R s m args below meth c nL D cI cJ as rd kc ks Q pc lv st w :=
  zz_callV G hM hc hd hw hcl hn hst hwt hrd hR hf kk
theorem zz_callVl (G : zok p s m args meth c cc nL own D cI cJ as) {y : MethodName} {cc' : ByteArray} {nL' lev' idx n k ci N : Nat} {ret' : Option FieldType} {rd' : Bool} {T : u_T} {As rest : List Value} {v : Int64} {w' : zW} {fs : List Value}
    (hM : zC l y (Jvm.Cond.code y cc' nL' ret' :: Tw) lev' rd' 0 0 (.ref k :: As) w (.inl (some (.long v), w'))) (hc : zcV own idx y cc' nL' ret' n) (hd : decode cc pc = .ok (.invokevirtual idx, 3)) (hw : w[k]? = some (.inr (ci, fs))) (hcl : vwCl[ci]? = some (y.cls, T, N)) (hn : As.length = n)
    (hst : st = As.reverse ++ .ref k :: rest) (hwt : (rest.map fun v => v.category).sum ≤ 8) (hrd : rd = true → rd' = true) (hR : (zrm lev').frames + 1 ≤ R.frames ∧ 8 + (nL' + 11) + (zrm lev').locals ≤ R.locals) (hf : kc + 1 ≤ R.cells ∧ ks + 6 ≤ R.slots)
    (kk : Z p l e R s m args below meth c nL D cI cJ as rd kc ks Q (pc + 3) lv (.long v :: rest) w') : Z p l e R s m args below meth c nL D cI cJ as rd kc ks Q pc lv st w :=
  zz_callV G hM hc hd hw hcl hn hst hwt hrd hR hf kk
theorem zz_callVv (G : zok p s m args meth c cc nL own D cI cJ as) {y : MethodName} {cc' : ByteArray} {nL' lev' idx n k ci N : Nat} {ret' : Option FieldType} {rd' : Bool} {T : u_T} {As rest : List Value} {w' : zW} {fs : List Value}
    (hM : zC l y (Jvm.Cond.code y cc' nL' ret' :: Tw) lev' rd' 0 0 (.ref k :: As) w (.inl (none, w'))) (hc : zcV own idx y cc' nL' ret' n) (hd : decode cc pc = .ok (.invokevirtual idx, 3)) (hw : w[k]? = some (.inr (ci, fs))) (hcl : vwCl[ci]? = some (y.cls, T, N)) (hn : As.length = n)
    (hst : st = As.reverse ++ .ref k :: rest) (hwt : (rest.map fun v => v.category).sum ≤ 8) (hrd : rd = true → rd' = true) (hR : (zrm lev').frames + 1 ≤ R.frames ∧ 8 + (nL' + 11) + (zrm lev').locals ≤ R.locals) (hf : kc + 1 ≤ R.cells ∧ ks + 6 ≤ R.slots)
    (kk : Z p l e R s m args below meth c nL D cI cJ as rd kc ks Q (pc + 3) lv (rest) w') : Z p l e R s m args below meth c nL D cI cJ as rd kc ks Q pc lv st w :=
  zz_callV G hM hc hd hw hcl hn hst hwt hrd hR hf kk
theorem zz_callSi (G : zok p s m args meth c cc nL own D cI cJ as) {y : MethodName} {cc' : ByteArray} {nL' lev' idx n : Nat} {ret' : Option FieldType} {rd' : Bool} {As rest : List Value} {v : Int32} {w' : zW}
    (hM : zC l y (Jvm.Cond.code y cc' nL' ret' :: Tw) lev' rd' 0 0 As w (.inl (some (.int v), w'))) (hc : zcS own idx y cc' nL' ret' n) (hd : decode cc pc = .ok (.invokestatic idx, 3)) (hn : As.length = n)
    (hst : st = As.reverse ++ rest) (hwt : (rest.map fun v => v.category).sum ≤ 8) (hrd : rd = true → rd' = true) (hR : (zrm lev').frames + 1 ≤ R.frames ∧ 8 + (nL' + 11) + (zrm lev').locals ≤ R.locals) (hf : kc + 1 ≤ R.cells ∧ ks + 6 ≤ R.slots)
    (kk : Z p l e R s m args below meth c nL D cI cJ as rd kc ks Q (pc + 3) lv (.int v :: rest) w') : Z p l e R s m args below meth c nL D cI cJ as rd kc ks Q pc lv st w :=
  zz_callS G hM hc hd hn hst hwt hrd hR hf kk
theorem zz_callSl (G : zok p s m args meth c cc nL own D cI cJ as) {y : MethodName} {cc' : ByteArray} {nL' lev' idx n : Nat} {ret' : Option FieldType} {rd' : Bool} {As rest : List Value} {v : Int64} {w' : zW}
    (hM : zC l y (Jvm.Cond.code y cc' nL' ret' :: Tw) lev' rd' 0 0 As w (.inl (some (.long v), w'))) (hc : zcS own idx y cc' nL' ret' n) (hd : decode cc pc = .ok (.invokestatic idx, 3)) (hn : As.length = n)
    (hst : st = As.reverse ++ rest) (hwt : (rest.map fun v => v.category).sum ≤ 8) (hrd : rd = true → rd' = true) (hR : (zrm lev').frames + 1 ≤ R.frames ∧ 8 + (nL' + 11) + (zrm lev').locals ≤ R.locals) (hf : kc + 1 ≤ R.cells ∧ ks + 6 ≤ R.slots)
    (kk : Z p l e R s m args below meth c nL D cI cJ as rd kc ks Q (pc + 3) lv (.long v :: rest) w') : Z p l e R s m args below meth c nL D cI cJ as rd kc ks Q pc lv st w :=
  zz_callS G hM hc hd hn hst hwt hrd hR hf kk
theorem zz_callSv (G : zok p s m args meth c cc nL own D cI cJ as) {y : MethodName} {cc' : ByteArray} {nL' lev' idx n : Nat} {ret' : Option FieldType} {rd' : Bool} {As rest : List Value} {w' : zW}
    (hM : zC l y (Jvm.Cond.code y cc' nL' ret' :: Tw) lev' rd' 0 0 As w (.inl (none, w'))) (hc : zcS own idx y cc' nL' ret' n) (hd : decode cc pc = .ok (.invokestatic idx, 3)) (hn : As.length = n)
    (hst : st = As.reverse ++ rest) (hwt : (rest.map fun v => v.category).sum ≤ 8) (hrd : rd = true → rd' = true) (hR : (zrm lev').frames + 1 ≤ R.frames ∧ 8 + (nL' + 11) + (zrm lev').locals ≤ R.locals) (hf : kc + 1 ≤ R.cells ∧ ks + 6 ≤ R.slots)
    (kk : Z p l e R s m args below meth c nL D cI cJ as rd kc ks Q (pc + 3) lv (rest) w') : Z p l e R s m args below meth c nL D cI cJ as rd kc ks Q pc lv st w :=
  zz_callS G hM hc hd hn hst hwt hrd hR hf kk
end ZV
