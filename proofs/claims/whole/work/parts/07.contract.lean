/-! Contracts over the Z layer: a method's arguments and world, and how it ends: an answer and a world, or an exception's class and a world. -/
def zrm (lev : Nat) : Room := { frames := 4 + lev, cells := 1, slots := 6, locals := 100 + 40 * lev }
abbrev zR : Type := (Option Value × zW) ⊕ (String × zW)
def zPc (D : va_G) (cI cJ : ClassId) (as : Nat → Nat) (av : List Value) (w : zW) (sz : Nat) : Array Value → State → Prop := fun v U =>
  v = (av.map (zv as)).toArray ∧ U.heap.size = sz ∧ zinj as ∧ zH D cI cJ as w U.heap ∧ va_K D vwCl [(cI, .int), (cJ, .long)] U ∧ zenv as sz U
def zX (X : String) (q : Addr) (st t : State) : Prop := ∃ ce : Cell, t.heap[q]? = some ce ∧ ce.vm.isStatics = false ∧ st.vm.findClass X = some ce.cls
def zEnd (res : zR) (D : va_G) (cI cJ : ClassId) (as : Nat → Nat) (A : Nat → Prop) (st : State) (o : Outcome) (t : State) : Prop := match res with
  | .inl (r, w') => o = .returned (r.map (zv as)) ∧ zH D cI cJ as w' t.heap ∧ va_F A st t
  | .inr (X, w') => ∃ q : Addr, o = .threw q ∧ zX X q st t ∧ zH D cI cJ as w' t.heap ∧ va_F A st t
def zFE (st t : State) (L : List Loc) (k n : Nat) : Prop := st.WarmedH t.vm ∧ st.sameButNew ({ t with vm := st.vm } : State) L k n
def zF (rd : Bool) (as : Nat → Nat) (sz : Nat) : Nat → Prop := fun q => rd = false ∧ zA as sz q
/-- how many cells and slots are new: gc, gs where it returns; an exception's cell where it throws -/
def zg1 (gc : Nat) : zR → Nat
  | .inl _ => gc
  | .inr _ => 1
def zg2 (gs : Nat) : zR → Nat
  | .inl _ => gs
  | .inr _ => 6
def zMQ (below : List Frame) (res : zR) (D : va_G) (cI cJ : ClassId) (as : Nat → Nat) (rd : Bool) (s : State) (gc gs : Nat) : State → Prop := fun t =>
  ∃ o, t.status = .running ∧ Ended t below o ∧ zEnd res D cI cJ as (zA as s.heap.size) s o t ∧ ∃ L, zFE s t L (zg1 gc res) (zg2 gs res) ∧ ∀ q ∈ L, zF rd as s.heap.size q.base
def zC (l : Launch) (y : MethodName) (ws : List Jvm.Cond) (lev : Nat) (rd : Bool) (gc gs : Nat) (av : List Value) (w : zW) (res : zR) : Prop :=
  ∀ (D : va_G) (cI cJ : ClassId) (as : Nat → Nat) (sz : Nat), MetFree l y (headSpec ws (zrm lev)) (zPc D cI cJ as av w sz) (fun _ _ _ _ _ => True)
    (fun _ st o t => zEnd res D cI cJ as (zA as sz) st o t ∧ ∃ L, zFE st t L (zg1 gc res) (zg2 gs res) ∧ ∀ q ∈ L, zF rd as sz q.base)
def zQ (D : va_G) (cI cJ : ClassId) (as : Nat → Nat) (r : Option Value) (w' : zW) (A : Nat → Prop) : Array Value → State → Outcome → State → Prop := fun _ st oc t =>
  oc = .returned (r.map (zv as)) ∧ zH D cI cJ as w' t.heap ∧ va_F A st t
theorem zH_lt {D : va_G} {cI cJ : ClassId} {as : Nat → Nat} {w : zW} {H : Heap} (h : zH D cI cJ as w H) : ∀ k, k < 11 → as k < H.size := by
  intro k hk
  have hl : k < w.length := by rw [h.1]; exact hk
  have h1 : w[k]? = some w[k] := List.getElem?_eq_getElem hl
  exact (h.2 k _ (zat h1)).lt
/-- a contract by a walk: the method has no exception table -/
theorem zC_of {l : Launch} {y : MethodName} {cc : ByteArray} {nL : Nat} {ret : Option FieldType} {lev : Nat} {rd : Bool} {gc gs : Nat} {av : List Value} {w : zW} {res : zR}
    (lv0 : List (Option Value)) (hy : plainName y.cls = true) (h0 : zlv av ++ List.replicate (nL - (zlv av).length) none = lv0) (hn : (zlv av).length ≤ nL)
    (body : ∀ (p : Program) (e : Env) (s : State) (m : MethodId) (args : Array Value) (below : List Frame) (meth : Method) (c : Code) (D : va_G) (cI cJ : ClassId) (as : Nat → Nat), zok p s m args meth c cc nL y.cls D cI cJ as → meth.sig.returnType = ret → c.exceptionTable.toList = [] → (∀ k, k < 11 → as k < s.heap.size) →
      Z p l e (zrm lev) s m args below meth c nL D cI cJ as rd 0 0 (zMQ below res D cI cJ as rd s gc gs) 0 lv0 [] w) : zC l y (Jvm.Cond.code y cc nL ret :: Tw) lev rd gc gs av w res := by
  intro D cI cJ as sz
  refine MetFree.of_bodyS (code := cc) (maxLocals := nL) (ret := ret) hy ?_ ?_
  · intro args s m h hn
    obtain ⟨meth, c, h1, h2, h3, h4, h5, h6, -, -⟩ := Cond.code_spec hn (atoms_spec (ws := Jvm.Cond.code y cc nL ret :: Tw) h _ List.mem_cons_self)
    exact ⟨meth, c, h1, h2, h3, h4, h5, h6⟩
  · intro p e s m args below meth c s₁ B hml hv _
    obtain ⟨rfl, rfl, hinj, hP, hK, henv⟩ := hv
    have hts := atoms_spec (ws := Jvm.Cond.code y cc nL ret :: Tw) B.pre
    have hown : s.vm.findClass y.cls = some m.cls := findClass_of_methodNamed B.named
    have hh0 : s₁.heap = s.heap := by rw [B.state]; rfl
    have hex : c.exceptionTable.toList = [] := by
      have h1 := BodyLoose.noHandlers B (hts _ List.mem_cons_self)
      simpa using h1
    have hb := body p e s m _ below meth c D cI cJ as ⟨⟨B.exec, B.bytes, hml, hown, B.notSynchronized⟩, fun x hx => hts x (List.mem_cons_of_mem _ hx), hK, hinj, henv⟩ B.returns hex (zH_lt hP) _ _ [] (zL_entry as av h0 hn) hP va_S.rf (fun _ => rfl)
    rw [lg_entry_eq]
    obtain ⟨t, a1, o, b1, b2, b3, L, b4, b5⟩ := hb s₁ hh0 (Stand.of_body B)
    exact ⟨t, o, a1, b1, b2, b3, L, b4, b5⟩
def zcB (own : String) (idx : Nat) (y : MethodName) (cc : ByteArray) (nL : Nat) (ret : Option FieldType) (n : Nat) : Prop :=
  Jvm.Cond.code y cc nL ret ∈ Tw ∧ Jvm.Cond.methodLink own idx y ∈ Tw ∧ Jvm.Cond.initialized y.cls ∈ Tw ∧ (y.cls ≠ "java/lang/invoke/MethodHandle" ∧ y.cls ≠ "java/lang/invoke/VarHandle") ∧ (parseMethodDescriptor y.desc).map (fun d => d.parameters.length) = some n
def zcV (own : String) (idx : Nat) (y : MethodName) (cc : ByteArray) (nL : Nat) (ret : Option FieldType) (n : Nat) : Prop := zcB own idx y cc nL ret n ∧ Jvm.Cond.instanceMethod y ∈ Tw ∧ Jvm.Cond.selects y.cls y y ∈ Tw
def zcS (own : String) (idx : Nat) (y : MethodName) (cc : ByteArray) (nL : Nat) (ret : Option FieldType) (n : Nat) : Prop := zcB own idx y cc nL ret n ∧ Jvm.Cond.static y ∈ Tw
theorem zws {args : Array Value} {s : State} {x0 : Jvm.Cond} (hts : ∀ x ∈ Tw, x.before args s = true) (h1 : x0 ∈ Tw) :
    ∀ w ∈ (x0 :: Tw), ∀ (a' : Array Value) (U : State), s.WarmedH U.vm → w.before a' U = true := by
  intro x hx a' U hW
  rcases List.mem_cons.mp hx with rfl | hx
  · exact zword hW (Tw_good _ h1) (hts _ h1)
  · exact zword hW (Tw_good _ hx) (hts _ hx)
theorem zPc_blind {D : va_G} {cI cJ : ClassId} {as : Nat → Nat} {av : List Value} {w : zW} {sz : Nat} : FrameBlind (zPc D cI cJ as av w sz) := fun a U g mk h =>
  ⟨h.1, h.2.1, h.2.2.1, h.2.2.2.1, va_K.moved (u := U) (U := U.calling g mk a) (Vm.Alike.refl U.vm) h.2.2.2.2.1, zenv_calling h.2.2.2.2.2⟩
theorem zsum (as : Nat → Nat) : ∀ rest : List Value, ((rest.map (zv as)).map fun v => v.category).sum = (rest.map fun v => v.category).sum
  | [] => rfl
  | v :: r => by simp only [List.map_cons, List.sum_cons, zv_cat, zsum as r]
section ZC
variable {p : Program} {l : Launch} {e : Env} {R : Room} {s : State} {m : MethodId} {args : Array Value} {below : List Frame} {meth : Method} {c : Code} {cc : ByteArray} {nL : Nat} {own : String} {D : va_G} {cI cJ : ClassId} {as : Nat → Nat} {rd : Bool} {kc ks : Nat} {Q : State → Prop} {pc : Nat} {lv : List (Option Value)} {st : List Value} {w : zW}
theorem zPc_at (G : zok p s m args meth c cc nL own D cI cJ as) {H : Heap} {locs : List Loc} {av : List Value} (hP : zH D cI cJ as w H) (hS : va_S (zA as s.heap.size) s.heap H locs) (U : State) (hU : U.heap = H) (hW : s.WarmedH U.vm) : zPc D cI cJ as av w H.size (av.map (zv as)).toArray U :=
  ⟨rfl, by rw [hU], G.2.2.2.1, by rw [hU]; exact hP, va_K.moved hW.alike G.2.2.1, zenv_at G.2.2.2.2 hS hU hW⟩
theorem zS_app {H H' : Heap} {locs L : List Loc} {rd' : Bool} (hS : va_S (zA as s.heap.size) s.heap H locs) (hz : H.size ≤ H'.size) (hk : ∀ q : Nat, q < H.size → ¬ zA as H.size q → H'[q]? = H[q]?) (hL : ∀ q ∈ L, zF rd' as H.size q.base) : va_S (zA as s.heap.size) s.heap H' (locs ++ L) := by
  have hA := zA_mono (as := as) hS.1
  refine ⟨Nat.le_trans hS.1 hz, fun q h1 h2 => ?_, fun q hq => ?_⟩
  · rw [hk q (Nat.lt_of_lt_of_le h1 hS.1) (fun z => h2 (hA q z))]
    exact hS.2.1 q h1 h2
  · rcases List.mem_append.mp hq with h | h
    · exact hS.2.2 q h
    · exact hA _ (hL q h).2
theorem zr_app {H : Heap} {locs L : List Loc} {rd' : Bool} (hr : rd = true → locs = []) (hrd : rd = true → rd' = true) (hL : ∀ q ∈ L, zF rd' as H.size q.base) : rd = true → locs ++ L = [] := by
  intro z
  rw [hr z, List.nil_append]
  cases L with
  | nil => rfl
  | cons q L =>
    have h1 := (hL q List.mem_cons_self).1
    rw [hrd z] at h1
    cases h1
variable {res : zR} {gc gs : Nat}
theorem zfree {H : Heap} {locs : List Loc} (hS : va_S (zA as s.heap.size) s.heap H locs) (hr : rd = true → locs = []) : ∀ q ∈ locs, zF rd as s.heap.size q.base := by
  intro q hq
  cases rd with
  | false => exact ⟨rfl, hS.2.2 q hq⟩
  | true =>
    rw [hr rfl] at hq
    cases hq
theorem zW_mono {H : Heap} {locs : List Loc} {Q1 Q2 : State → Prop} {g : JFrame} (h : ∀ t, Q1 t → Q2 t) (k : W p l e R s m args below meth c H locs kc ks Q1 g) : W p l e R s m args below meth c H locs kc ks Q2 g := fun T hT X => by
  obtain ⟨t, a, b⟩ := k T hT X
  exact ⟨t, a, h t b⟩
theorem zMQ_of {r : Option Value} {w' : zW} (t : State) (h : MQ below (zQ D cI cJ as r w' (zA as s.heap.size)) args s gc gs (zF rd as s.heap.size) t) : zMQ below (.inl (r, w')) D cI cJ as rd s gc gs t := by
  obtain ⟨o, h1, h2, h3, L, h4, h5⟩ := h
  exact ⟨o, h1, h2, h3, L, ⟨h4.2.1, h4.2.2⟩, h5⟩
theorem zz_iret (G : zok p s m args meth c cc nL own D cI cJ as) (ht : meth.sig.returnType = some .int) {v : Int32} (hd : decode cc pc = .ok (.ireturn, 1)) (hv : res = .inl (some (.int v), w)) (hc : kc ≤ gc) (hs : ks ≤ gs) :
    Z p l e R s m args below meth c nL D cI cJ as rd kc ks (zMQ below res D cI cJ as rd s gc gs) pc lv [.int v] w := by
  intro ls H locs hl hP hS hr
  subst hv
  refine W.widen hc hs (zW_mono (fun t h => zMQ_of (args := args) t h) ?_)
  exact W.iret G.1.1 G.1.2.1 ht (fun t h _ => ⟨rfl, by rw [h]; exact hP, hS.F h⟩) (zfree hS hr) hd (hlocks := G.1.2.2.2.2)
theorem zz_zret (G : zok p s m args meth c cc nL own D cI cJ as) {ty : FieldType} (ht : meth.sig.returnType = some ty) {v : Int32} (hd : decode cc pc = .ok (.ireturn, 1)) (hn : narrow ty (.int v) = .int v) (hv : res = .inl (some (.int v), w)) (hc : kc ≤ gc) (hs : ks ≤ gs) :
    Z p l e R s m args below meth c nL D cI cJ as rd kc ks (zMQ below res D cI cJ as rd s gc gs) pc lv [.int v] w := by
  intro ls H locs hl hP hS hr
  subst hv
  refine W.widen hc hs (zW_mono (fun t h => zMQ_of (args := args) t h) ?_)
  exact W.zret G.1.1 G.1.2.1 ht hn (fun t h _ => ⟨rfl, by rw [h]; exact hP, hS.F h⟩) (zfree hS hr) hd (hlocks := G.1.2.2.2.2)
theorem zz_lret (G : zok p s m args meth c cc nL own D cI cJ as) (ht : meth.sig.returnType = some .long) {v : Int64} (hd : decode cc pc = .ok (.lreturn, 1)) (hv : res = .inl (some (.long v), w)) (hc : kc ≤ gc) (hs : ks ≤ gs) :
    Z p l e R s m args below meth c nL D cI cJ as rd kc ks (zMQ below res D cI cJ as rd s gc gs) pc lv [.long v] w := by
  intro ls H locs hl hP hS hr
  subst hv
  refine W.widen hc hs (zW_mono (fun t h => zMQ_of (args := args) t h) ?_)
  exact W.lret G.1.1 G.1.2.1 ht (fun t h _ => ⟨rfl, by rw [h]; exact hP, hS.F h⟩) (zfree hS hr) hd (hlocks := G.1.2.2.2.2)
theorem zz_vret (G : zok p s m args meth c cc nL own D cI cJ as) (ht : meth.sig.returnType = none) (hd : decode cc pc = .ok (.return_, 1)) (hv : res = .inl (none, w)) (hc : kc ≤ gc) (hs : ks ≤ gs) :
    Z p l e R s m args below meth c nL D cI cJ as rd kc ks (zMQ below res D cI cJ as rd s gc gs) pc lv [] w := by
  intro ls H locs hl hP hS hr
  subst hv
  refine W.widen hc hs (zW_mono (fun t h => zMQ_of (args := args) t h) ?_)
  exact W.vret G.1.1 G.1.2.1 ht (fun t h _ => ⟨rfl, by rw [h]; exact hP, hS.F h⟩) (zfree hS hr) hd (hlocks := G.1.2.2.2.2)
end ZC
