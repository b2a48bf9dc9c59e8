/-! An exception that comes out of a call, caught by this method's table; the catch types need not have been resolved. -/
def zhPass (pl : Platform) (s0 : State) (d : ClassId) (pc : Nat) (th : ClassId) (y : ExceptionTableEntry) : Prop :=
  covers y pc = true → y.catchType ≠ 0 ∧ ∃ k, s0.vm.ClassLinks pl d y.catchType k ∧ s0.vm.assignable th k = false
theorem zh_row {Q : Handler → Pre} {E : CtlPost} {e : Env} {d : Bool} {acts : List Action} {s : State} {f : JFrame} {a : Addr} {x : ExceptionTableEntry} {t : List ExceptionTableEntry} {k : ClassId} {cell : Cell} (hx : covers x f.pc = true) (h0 : x.catchType ≠ 0)
    (hl : s.vm.ClassLinks e.platform f.method.cls x.catchType k) (hcell : s.heap[a]? = some cell) (hobj : ∀ z, cell.vm ≠ .statics z) (hk : ∃ z, s.vm.classes[cell.cls]? = some z) (hc : ∃ z, s.vm.classes[k]? = some z) :
    wp (findHandler.go f a (x :: t)) Q E e d acts s ↔ if s.vm.assignable cell.cls k = true then Q (.found x.handlerPc) d acts (s.setVm (s.vm.noted f.method.cls x.catchType (.cls k))) else wp (findHandler.go f a t) Q E e d acts (s.setVm (s.vm.noted f.method.cls x.catchType (.cls k))) := by
  simp only [covers] at hx
  obtain ⟨ha, ht⟩ := (resolveClass_links e.toSetting hl).op (op := VmOp.resolveClass f.method.cls x.catchType) rfl
  have hal : s.vm.Alike (s.vm.noted f.method.cls x.catchType (.cls k)) := (Vm.Alike.refl s.vm).noted _ _ _
  obtain ⟨k1, hk1⟩ := hk
  obtain ⟨k2, hk2⟩ := hc
  obtain ⟨k1', hk1', -⟩ := hal.2.2 _ _ hk1
  obtain ⟨k2', hk2', -⟩ := hal.2.2 _ _ hk2
  cases hfit : s.vm.assignable cell.cls k with
  | true =>
    have hfit' : (s.vm.noted f.method.cls x.catchType (.cls k)).assignable cell.cls k = true := by rw [hal.assignable]; exact hfit
    simp [findHandler.go, hx, h0, ha, ht, hcell, hobj, hk1', hk2', hfit', VmOp.dirties, VmOp.acts]
  | false =>
    have hfit' : (s.vm.noted f.method.cls x.catchType (.cls k)).assignable cell.cls k = false := by rw [hal.assignable]; exact hfit
    simp [findHandler.go, hx, h0, ha, ht, hcell, hobj, hk1', hk2', hfit', VmOp.dirties, VmOp.acts]
theorem zh_go {e : Env} {s0 : State} {f : JFrame} {a : Addr} {cell : Cell} (hobj : ∀ z, cell.vm ≠ .statics z) (hk0 : ∃ z, s0.vm.classes[cell.cls]? = some z) (x : ExceptionTableEntry) (rest : List ExceptionTableEntry) (hx : covers x f.pc = true) (h0 : x.catchType ≠ 0)
    {k : ClassId} (hlk : s0.vm.ClassLinks e.platform f.method.cls x.catchType k) (hfit : s0.vm.assignable cell.cls k = true) :
    ∀ (pre : List ExceptionTableEntry) (S : State), s0.WarmedH S.vm → S.heap[a]? = some cell → (∀ y ∈ pre, zhPass e.platform s0 f.method.cls f.pc cell.cls y) →
      ∃ vm', s0.WarmedH vm' ∧ ∀ (Q : Handler → Pre) (E : CtlPost) (d : Bool) (acts : List Action), wp (findHandler.go f a (pre ++ x :: rest)) Q E e d acts S ↔ Q (.found x.handlerPc) d acts (S.setVm vm')
  | [], S, hW, hcell, _ => by
    obtain ⟨k0, hk0⟩ := hk0
    obtain ⟨k0', hk0', -⟩ := hW.alike.2.2 _ _ hk0
    obtain ⟨dk, _, _, kt, hd, _, _, _, _, hkt, _, hopen⟩ := hlk.here
    obtain ⟨kt', hkt', -⟩ := hW.alike.2.2 _ _ hkt
    refine ⟨_, hW.noted hd hopen (State.rightAt_cls hlk), fun Q E d acts => ?_⟩
    rw [List.nil_append, zh_row hx h0 (hW.classLinks hlk) hcell hobj ⟨k0', hk0'⟩ ⟨kt', hkt'⟩, if_pos (by rw [hW.alike.assignable]; exact hfit)]
  | y :: ys, S, hW, hcell, hp => by
    have hps : ∀ z ∈ ys, zhPass e.platform s0 f.method.cls f.pc cell.cls z := fun z hz => hp z (List.mem_cons_of_mem _ hz)
    by_cases hcov : covers y f.pc = true
    · obtain ⟨g0, j, hl, hno⟩ := hp y List.mem_cons_self hcov
      have hk9 := hk0
      obtain ⟨k0, hk8⟩ := hk9
      obtain ⟨k0', hk0', -⟩ := hW.alike.2.2 _ _ hk8
      obtain ⟨dk, _, _, kt, hd, _, _, _, _, hkt, _, hopen⟩ := hl.here
      obtain ⟨kt', hkt', -⟩ := hW.alike.2.2 _ _ hkt
      obtain ⟨vm', hW', hq⟩ := zh_go hobj hk0 x rest hx h0 hlk hfit ys (S.setVm (S.vm.noted f.method.cls y.catchType (.cls j))) (hW.noted hd hopen (State.rightAt_cls hl)) hcell hps
      refine ⟨vm', hW', fun Q E d acts => ?_⟩
      rw [List.cons_append, zh_row hcov g0 (hW.classLinks hl) hcell hobj ⟨k0', hk0'⟩ ⟨kt', hkt'⟩, if_neg (by rw [hW.alike.assignable, hno]; decide)]
      exact hq Q E d acts
    · obtain ⟨vm', hW', hq⟩ := zh_go hobj hk0 x rest hx h0 hlk hfit ys S hW hcell hps
      refine ⟨vm', hW', fun Q E d acts => ?_⟩
      rw [List.cons_append, Jvm.W.findHandler_go_skip (by simpa using hcov)]
      exact hq Q E d acts
theorem zh_caught {p : Program} {l : Launch} {e : Env} {R : Room} {s : State} {m : MethodId} {args : Array Value} {below : List Frame} {meth : Method} {c : Code} {T : State} {locs : List Loc} {cells slots : Nat} (X : Stand p l e R s m args below meth c T locs cells slots) (a : Addr) {g : JFrame} (hg : g.method = m)
    {cell : Cell} (hcell : T.heap[a]? = some cell) (hobj : cell.vm.isStatics = false) (hk0 : ∃ z, s.vm.classes[cell.cls]? = some z) (pre : List ExceptionTableEntry) (x : ExceptionTableEntry) (rest : List ExceptionTableEntry) (hsplit : c.exceptionTable.toList = pre ++ x :: rest)
    (hpass : ∀ y ∈ pre, zhPass e.platform s m.cls g.pc cell.cls y) (hx : covers x g.pc = true) (h0 : x.catchType ≠ 0) {k : ClassId} (hlk : s.vm.ClassLinks e.platform m.cls x.catchType k) (hfit : s.vm.assignable cell.cls k = true) :
    ∃ vm', Stand p l e R s m args below meth c (T.setVm vm') locs cells slots ∧ Steps p.tables e below ((T.setTop g).pushFrame (.throwing a)) ((T.setVm vm').setTop { g with pc := x.handlerPc, stack := [.ref a] }) := by
  subst hg
  obtain ⟨vm', hW', hq⟩ := zh_go (e := e) (s0 := s) (f := g) (a := a) (VmData.ne_statics_of hobj) hk0 x rest hx h0 hlk hfit pre ((T.setTop g).pushFrame (.throwing a)) X.warmed hcell hpass
  refine ⟨vm', X.noted hW', ?_⟩
  have hfind : ∀ (Q : Handler → Pre) (E : CtlPost) (d : Bool) (acts : List Action), wp (findHandler g a) Q E e d acts ((T.setTop g).pushFrame (.throwing a)) ↔ Q (.found x.handlerPc) d acts (((T.setTop g).pushFrame (.throwing a)).setVm vm') := fun Q E d acts => by
    refine (Jvm.W.findHandler_eq (s := (T.setTop g).pushFrame (.throwing a)) (meth := meth) (code := c) X.method' X.code).trans ?_
    rw [hsplit]
    exact hq Q E d acts
  obtain ⟨hgo, hw⟩ := X.here.throwing a
  refine Steps.head hgo hw ?_
  obtain ⟨g₀, hg0⟩ := Option.isSome_iff_exists.mp X.here.top
  obtain ⟨r, hr⟩ := State.topJava?_eq_some.mp hg0
  have hr' : (T.setVm vm').frames = .java g₀ :: r := hr
  have hst : (stepThrowing e ((T.setTop g).pushFrame (.throwing a)) a (.java g :: T.frames.tail)).Is ((((T.setTop g).pushFrame (.throwing a)).setVm vm').setFrames (.java { g with pc := x.handlerPc, stack := [.ref a] } :: T.frames.tail)) [] := by
    simp only [stepThrowing, searchFrame, vmDo]
    generalize hres : Sem.go _ e false [] _ = res
    obtain ⟨as, rfl, ha⟩ := Sem.eq_ok_of hres (a := Handler.found x.handlerPc) (s' := ((T.setTop g).pushFrame (.throwing a)).setVm vm') (acts' := []) (by simp [hfind _ _ _ _])
    exact ⟨rfl, ha⟩
  have e1 : ∀ (u : State) (F G : List Frame), ((u.setFrames F).setVm vm').setFrames G = (u.setVm vm').setFrames G := fun u F G => by
    have h1 : (u.setFrames F).setVm vm' = (u.setVm vm').setFrames F := rfl
    rw [h1, State.setFrames_setFrames]
  rw [stepThread_throwing (frames_entered X.here.top _), hst.1, hr, List.tail_cons, State.pushFrame, e1, State.setTop_of_frames _ hr, e1, State.setTop_of_frames _ hr']
  exact Steps.refl _
theorem zC_ofW {l : Launch} {y : MethodName} {cc : ByteArray} {nL : Nat} {ret : Option FieldType} {hh : List (Nat × Nat × Nat × Nat)} {lev : Nat} {rd : Bool} {gc gs : Nat} {av : List Value} {w : zW} {res : zR}
    (lv0 : List (Option Value)) (hy : plainName y.cls = true) (h0 : zlv av ++ List.replicate (nL - (zlv av).length) none = lv0) (hn : (zlv av).length ≤ nL)
    (body : ∀ (p : Program) (e : Env) (s : State) (m : MethodId) (args : Array Value) (below : List Frame) (meth : Method) (c : Code) (D : va_G) (cI cJ : ClassId) (as : Nat → Nat), zok p s m args meth c cc nL y.cls D cI cJ as → meth.sig.returnType = ret → c.exceptionTable.toList.map (fun h => (h.startPc, h.endPc, h.handlerPc, h.catchType)) = hh → (∀ k, k < 11 → as k < s.heap.size) →
      Z p l e (zrm lev) s m args below meth c nL D cI cJ as rd 0 0 (zMQ below res D cI cJ as rd s gc gs) 0 lv0 [] w) : zC l y (Jvm.Cond.codeWith y cc nL ret hh :: Tw) lev rd gc gs av w res := by
  intro D cI cJ as sz
  refine MetFree.of_bodyS (code := cc) (maxLocals := nL) (ret := ret) hy ?_ ?_
  · intro args s m h hn
    obtain ⟨m9, meth, c, hn9, h1, h2, h3, h4, -, h5, h6, -⟩ := Cond.codeWith_spec (atoms_spec (ws := Jvm.Cond.codeWith y cc nL ret hh :: Tw) h _ List.mem_cons_self)
    cases hn.symm.trans hn9
    exact ⟨meth, c, h1, h2, h3, h4, h5, h6⟩
  · intro p e s m args below meth c s₁ B hml hv _
    obtain ⟨rfl, rfl, hinj, hP, hK, henv⟩ := hv
    have hts := atoms_spec (ws := Jvm.Cond.codeWith y cc nL ret hh :: Tw) B.pre
    have hown : s.vm.findClass y.cls = some m.cls := findClass_of_methodNamed B.named
    have hh0 : s₁.heap = s.heap := by rw [B.state]; rfl
    have hex : c.exceptionTable.toList.map (fun h => (h.startPc, h.endPc, h.handlerPc, h.catchType)) = hh := by
      obtain ⟨m9, meth9, c9, hn9, h1, h2, -, -, h6, -⟩ := Cond.codeWith_spec (hts _ List.mem_cons_self)
      cases Option.some.inj (B.named.symm.trans hn9)
      cases Option.some.inj (B.method.symm.trans h1)
      cases Option.some.inj ((Stand.of_body B).code.symm.trans h2)
      exact h6
    have hb := body p e s m _ below meth c D cI cJ as ⟨⟨B.exec, B.bytes, hml, hown, B.notSynchronized⟩, fun x hx => hts x (List.mem_cons_of_mem _ hx), hK, hinj, henv⟩ B.returns hex (zH_lt hP) _ _ [] (zL_entry as av h0 hn) hP va_S.rf (fun _ => rfl)
    rw [lg_entry_eq]
    obtain ⟨t, a1, o, b1, b2, b3, L, b4, b5⟩ := hb s₁ hh0 (Stand.of_body B)
    exact ⟨t, o, a1, b1, b2, b3, L, b4, b5⟩
def zcSW (own : String) (idx : Nat) (y : MethodName) (cc : ByteArray) (nL : Nat) (ret : Option FieldType) (hh : List (Nat × Nat × Nat × Nat)) (n : Nat) : Prop :=
  Jvm.Cond.codeWith y cc nL ret hh ∈ Tw ∧ Jvm.Cond.methodLink own idx y ∈ Tw ∧ Jvm.Cond.initialized y.cls ∈ Tw ∧ (y.cls ≠ "java/lang/invoke/MethodHandle" ∧ y.cls ≠ "java/lang/invoke/VarHandle") ∧ (parseMethodDescriptor y.desc).map (fun d => d.parameters.length) = some n ∧ Jvm.Cond.static y ∈ Tw
section ZK
variable {p : Program} {l : Launch} {e : Env} {R : Room} {s : State} {m : MethodId} {args : Array Value} {below : List Frame} {meth : Method} {c : Code} {cc : ByteArray} {nL : Nat} {own : String} {D : va_G} {cI cJ : ClassId} {as : Nat → Nat} {rd : Bool} {kc ks : Nat} {Q : State → Prop} {pc : Nat} {lv : List (Option Value)} {st : List Value} {w : zW}
theorem zz_callSW (G : zok p s m args meth c cc nL own D cI cJ as) {y : MethodName} {cc' : ByteArray} {nL' lev' idx n gc' gs' : Nat} {hh : List (Nat × Nat × Nat × Nat)} {ret' : Option FieldType} {rd' : Bool} {As rest : List Value} {r : Option Value} {w' : zW}
    (hM : zC l y (Jvm.Cond.codeWith y cc' nL' ret' hh :: Tw) lev' rd' gc' gs' As w (.inl (r, w'))) (hc : zcSW own idx y cc' nL' ret' hh n) (hd : decode cc pc = .ok (.invokestatic idx, 3)) (hn : As.length = n)
    (hst : st = As.reverse ++ rest) (hwt : (rest.map fun v => v.category).sum ≤ 8) (hrd : rd = true → rd' = true) (hR : (zrm lev').frames + 1 ≤ R.frames ∧ 8 + (nL' + 11) + (zrm lev').locals ≤ R.locals) (hf : kc + 1 ≤ R.cells ∧ ks + 6 ≤ R.slots)
    (kk : Z p l e R s m args below meth c nL D cI cJ as rd (kc + gc') (ks + gs') Q (pc + 3) lv (r.toList ++ rest) w') : Z p l e R s m args below meth c nL D cI cJ as rd kc ks Q pc lv st w := by
  intro ls H locs hl hP hS hr V hV X
  subst hV
  obtain ⟨mk, methM, cM, hnamed, hmethM, hcM, -, hlM, -, -, -, hsigM⟩ := Cond.codeWith_spec (G.2.1 _ hc.1)
  have hstatic : methM.isStatic = true := Cond.static_spec hnamed hmethM (G.2.1 _ hc.2.2.2.2.2)
  obtain ⟨kP, hkP, -⟩ := className_of_methodNamed hnamed
  have hinitP : kP.init = .initialized := Cond.initialized_spec (findClass_of_methodNamed hnamed) hkP (G.2.1 _ hc.2.2.1)
  have hlen : (As.map (zv as)).length = methM.sig.parameters.length := by
    have h5 := hc.2.2.2.2.1
    rw [hsigM] at h5
    rw [List.length_map, hn]
    exact (Option.some.inj h5).symm
  obtain ⟨vm₁, X₁, hstep⟩ := X.invokestatic G.1.1 G.1.2.2.2.1 (G.2.1 _ hc.2.1) hnamed hmethM hstatic hkP hinitP hc.2.2.2.1
    (g := F0 m pc ls (st.map (zv as))) rfl (argsL := As.map (zv as)) (rest := rest.map (zv as)) hlen (by subst hst; simp) (by rw [G.1.2.1]; exact hd)
  have hI : zInv p l e R s m args below meth c D cI cJ as V locs kc ks (F0 m pc ls (st.map (zv as))) (rest.map (zv as)) rd' gc' gs' (.inl (r, w')) := by
    obtain ⟨o, t, L, B, h1, h2, h3, h4, h5, h6⟩ := zrun X₁ hM (nL' := nL') (g := { F0 m pc ls (st.map (zv as)) with stack := rest.map (zv as) }) rfl (hl.2.1.trans G.1.2.2.1.symm) (by rw [G.1.2.1]; exact hd) (lv_room (by rw [zsum]; exact hwt)) (X₁.named hnamed)
      (by rw [X₁.warmed.alike.method?]; exact hmethM) hcM hlM (fun x hx => zws G.2.1 hc.1 x hx _ _ X₁.warmed) (zword X₁.warmed (Tw_good _ hc.2.2.1) (G.2.1 _ hc.2.2.1)) (zPc_at (av := As) G hP hS (V.setVm vm₁) rfl X₁.warmed) hR hf
    refine ⟨o, t, L, B, V.setVm vm₁, X₁.warmed.alike, rfl, h1, h2, h3, h4, fun v hv tg htg => ?_, fun x hx => ?_⟩
    · refine hstep _ (fun acts => ?_)
      rw [doInvoke_state]
      exact (h5 v hv).trans htg
    · refine hstep _ (fun acts => ?_)
      rw [doInvoke_state]
      exact h6 x hx
  exact zgo hI hl hS hr hrd kk
/-- the call throws, the row q of the table takes it -/
theorem zcatch (G : zok p s m args meth c cc nL own D cI cJ as) {y : MethodName} {cc' : ByteArray} {nL' lev' gc' gs' idx n k ci N : Nat} {ret' : Option FieldType} {rd' : Bool} {T : u_T} {As rest : List Value} {w' : zW} {Xn : String} {fs : List Value}
    (hM : zC l y (Jvm.Cond.code y cc' nL' ret' :: Tw) lev' rd' gc' gs' (.ref k :: As) w (.inr (Xn, w'))) (hc : zcV own idx y cc' nL' ret' n) (hd : decode cc pc = .ok (.invokevirtual idx, 3)) (hw : w[k]? = some (.inr (ci, fs))) (hcl : vwCl[ci]? = some (y.cls, T, N)) (hn : As.length = n)
    (hst : st = As.reverse ++ .ref k :: rest) (hwt : (rest.map fun v => v.category).sum ≤ 8) (hrd : rd = true → rd' = true) (hR : (zrm lev').frames + 1 ≤ R.frames ∧ 8 + (nL' + 11) + (zrm lev').locals ≤ R.locals) (hf : kc + 1 ≤ R.cells ∧ ks + 6 ≤ R.slots)
    (hpre hsuf : List (Nat × Nat × Nat × Nat)) {q : Nat × Nat × Nat × Nat} (hex : c.exceptionTable.toList.map (fun h => (h.startPc, h.endPc, h.handlerPc, h.catchType)) = hpre ++ q :: hsuf) (hcov : q.1 ≤ pc ∧ pc < q.2.1) (h0 : q.2.2.2 ≠ 0) (hlink : Jvm.Cond.classLink own q.2.2.2 Xn ∈ Tw) (hcast : Jvm.Cond.castable Xn Xn ∈ Tw)
    (hpass : ∀ z ∈ hpre, z.2.2.2 ≠ 0 ∧ ∃ nm, Jvm.Cond.classLink own z.2.2.2 nm ∈ Tw ∧ Jvm.Cond.not (.castable Xn nm) ∈ Tw)
    (kk : ∀ (ls : Array Slot) (H : Heap) (locs : List Loc) (a : Nat), zL as ls nL lv → zH D cI cJ as w' H → va_S (zA as s.heap.size) s.heap H locs → (rd = true → locs = []) → W p l e R s m args below meth c H locs (kc + 1) (ks + 6) Q (F0 m q.2.2.1 ls [.ref a])) : Z p l e R s m args below meth c nL D cI cJ as rd kc ks Q pc lv st w := by
  intro ls H locs hl hP hS hr V hV X
  have hI := zinvV G hM hc hd hw hcl hn hst hwt hR hf hl hP hS hV X
  subst hV
  obtain ⟨o, t, L, B, U, hU1, hU2, ⟨x, ho, hX, hH, hF⟩, hL, e1, XB, -, hs⟩ := hI
  rw [← hU2] at hS hL
  have hS' : va_S (zA as s.heap.size) s.heap t.heap (locs ++ L) := zS_app hS hF.1 (by rw [hU2]; exact fun q z1 z2 => hF.2 q (by rw [hU2]; exact z1) z2 |>.trans (by rw [hU2])) hL
  obtain ⟨ce, k1, k2, k3⟩ := hX
  have hclX : s.vm.findClass Xn = some ce.cls := by rw [← hU1.findClass]; exact k3
  have hpl : e.platform.magicAccessors = ({} : Platform).magicAccessors := by rw [X.admits.platform]
  obtain ⟨c3, c4, hc3, hc4, hasg⟩ := Cond.castable_spec (G.2.1 _ hcast)
  cases Option.some.inj (hc3.symm.trans hclX)
  obtain ⟨c5, hc5, hcl5⟩ := Cond.classLink_spec G.1.2.2.2.1 (G.2.1 _ hlink) e.platform hpl
  cases Option.some.inj (hc4.symm.trans hc5)
  obtain ⟨pre, r1, t1, t2, t3⟩ := List.map_eq_append_iff.mp hex
  obtain ⟨x0, suf, t4, t5, t6⟩ := List.map_eq_cons_iff.mp t3
  subst t4
  subst t2
  subst t5
  obtain ⟨vm', X', st'⟩ := zh_caught XB x (g := { F0 m pc ls (st.map (zv as)) with stack := rest.map (zv as) }) rfl (cell := ce) (by rw [e1]; exact k1) k2 (by obtain ⟨k9, h9, -⟩ := Vm.findClass_spec hclX; exact ⟨k9, h9⟩) pre x0 suf t1
    (fun z hz _ => by
      obtain ⟨g0, nm, g1, g2⟩ := hpass _ (List.mem_map.mpr ⟨z, hz, rfl⟩)
      obtain ⟨c6, hc6, hcl6⟩ := Cond.classLink_spec G.1.2.2.2.1 (G.2.1 _ g1) e.platform hpl
      have hv := Cond.holds_not_iff.mp (G.2.1 _ g2)
      simp only [Cond.value, hclX, hc6] at hv
      exact ⟨g0, c6, hcl6, Option.some.inj hv⟩) (by simp only [covers, Bool.and_eq_true, decide_eq_true_eq]; exact hcov) h0 hcl5 hasg
  obtain ⟨tt, a1, b1⟩ := kk ls B.heap (locs ++ L) x hl (by rw [e1]; exact hH) (by rw [e1]; exact hS') (zr_app hr hrd hL) (B.setVm vm') rfl X'
  exact ⟨tt, ((hs x ho).trans st').trans a1, b1⟩
theorem zL_none {ls : Array Slot} {nL : Nat} {lv : List (Nat × Value)} (h : lv_has ls nL lv) : zL as ls nL (List.replicate nL none) :=
  ⟨by simp, h.1, h.2.1, fun q hq => by rw [zas_rep] at hq; cases hq⟩
theorem zz_catch2 (G : zok p s m args meth c cc nL own D cI cJ as) {y : MethodName} {cc' : ByteArray} {nL' lev' gc' gs' idx n k ci N : Nat} {ret' : Option FieldType} {rd' : Bool} {T : u_T} {As rest : List Value} {w' : zW} {Xn : String} {fs : List Value}
    (hM : zC l y (Jvm.Cond.code y cc' nL' ret' :: Tw) lev' rd' gc' gs' (.ref k :: As) w (.inr (Xn, w'))) (hc : zcV own idx y cc' nL' ret' n) (hd : decode cc pc = .ok (.invokevirtual idx, 3)) (hw : w[k]? = some (.inr (ci, fs))) (hcl : vwCl[ci]? = some (y.cls, T, N)) (hn : As.length = n)
    (hst : st = As.reverse ++ .ref k :: rest) (hwt : (rest.map fun v => v.category).sum ≤ 8) (hrd : rd = true → rd' = true) (hR : (zrm lev').frames + 1 ≤ R.frames ∧ 8 + (nL' + 11) + (zrm lev').locals ≤ R.locals) (hf : kc + 1 ≤ R.cells ∧ ks + 6 ≤ R.slots)
    (hpre hsuf : List (Nat × Nat × Nat × Nat)) {q : Nat × Nat × Nat × Nat} (hex : c.exceptionTable.toList.map (fun h => (h.startPc, h.endPc, h.handlerPc, h.catchType)) = hpre ++ q :: hsuf) (hcov : q.1 ≤ pc ∧ pc < q.2.1) (h0 : q.2.2.2 ≠ 0) (hlink : Jvm.Cond.classLink own q.2.2.2 Xn ∈ Tw) (hcast : Jvm.Cond.castable Xn Xn ∈ Tw)
    (hpass : ∀ z ∈ hpre, z.2.2.2 ≠ 0 ∧ ∃ nm, Jvm.Cond.classLink own z.2.2.2 nm ∈ Tw ∧ Jvm.Cond.not (.castable Xn nm) ∈ Tw) {i : Nat} (hda : decode cc q.2.2.1 = .ok (.astore i, 2)) (hi : i < nL)
    (kk : Z p l e R s m args below meth c nL D cI cJ as rd (kc + 1) (ks + 6) Q (q.2.2.1 + 2) (List.replicate nL none) [] w') : Z p l e R s m args below meth c nL D cI cJ as rd kc ks Q pc lv st w :=
  zcatch G hM hc hd hw hcl hn hst hwt hrd hR hf hpre hsuf hex hcov h0 hlink hcast hpass (fun ls H locs a hl hP hS hr => lv_astore G.1.1 G.1.2.1 hda hl.2 hi rfl (fun ls' hl' => kk ls' H locs (zL_none hl') hP hS hr))
theorem zz_catch1 (G : zok p s m args meth c cc nL own D cI cJ as) {y : MethodName} {cc' : ByteArray} {nL' lev' gc' gs' idx n k ci N : Nat} {ret' : Option FieldType} {rd' : Bool} {T : u_T} {As rest : List Value} {w' : zW} {Xn : String} {fs : List Value}
    (hM : zC l y (Jvm.Cond.code y cc' nL' ret' :: Tw) lev' rd' gc' gs' (.ref k :: As) w (.inr (Xn, w'))) (hc : zcV own idx y cc' nL' ret' n) (hd : decode cc pc = .ok (.invokevirtual idx, 3)) (hw : w[k]? = some (.inr (ci, fs))) (hcl : vwCl[ci]? = some (y.cls, T, N)) (hn : As.length = n)
    (hst : st = As.reverse ++ .ref k :: rest) (hwt : (rest.map fun v => v.category).sum ≤ 8) (hrd : rd = true → rd' = true) (hR : (zrm lev').frames + 1 ≤ R.frames ∧ 8 + (nL' + 11) + (zrm lev').locals ≤ R.locals) (hf : kc + 1 ≤ R.cells ∧ ks + 6 ≤ R.slots)
    (hpre hsuf : List (Nat × Nat × Nat × Nat)) {q : Nat × Nat × Nat × Nat} (hex : c.exceptionTable.toList.map (fun h => (h.startPc, h.endPc, h.handlerPc, h.catchType)) = hpre ++ q :: hsuf) (hcov : q.1 ≤ pc ∧ pc < q.2.1) (h0 : q.2.2.2 ≠ 0) (hlink : Jvm.Cond.classLink own q.2.2.2 Xn ∈ Tw) (hcast : Jvm.Cond.castable Xn Xn ∈ Tw)
    (hpass : ∀ z ∈ hpre, z.2.2.2 ≠ 0 ∧ ∃ nm, Jvm.Cond.classLink own z.2.2.2 nm ∈ Tw ∧ Jvm.Cond.not (.castable Xn nm) ∈ Tw) {i : Fin 4} (hda : decode cc q.2.2.1 = .ok (.astore_n i, 1)) (hi : (i : Nat) < nL)
    (kk : Z p l e R s m args below meth c nL D cI cJ as rd (kc + 1) (ks + 6) Q (q.2.2.1 + 1) (List.replicate nL none) [] w') : Z p l e R s m args below meth c nL D cI cJ as rd kc ks Q pc lv st w :=
  zcatch G hM hc hd hw hcl hn hst hwt hrd hR hf hpre hsuf hex hcov h0 hlink hcast hpass (fun ls H locs a hl hP hS hr => lv_astore_n G.1.1 G.1.2.1 hda rfl hl.2 hi rfl (fun ls' hl' => kk ls' H locs (zL_none hl') hP hS hr))
end ZK
