/-! The same for a class whose constructor hands the text on by another place of its pool than 7. -/
def zxAtoms (own : String) (ic : Nat) (X Y : String) (ix : Nat) (rx : ByteArray) (names : List String) : List Jvm.Cond :=
  Jvm.Bundle.throwableAtoms ++ (Jvm.Bundle.throwableSAtoms ++ (Jvm.Bundle.passSAtoms X Y ix rx ++ (Jvm.Bundle.chainSAtoms Y names ++
  [.methodLink own ic (Jvm.Bundle.initS X), .instantiable X 6, .selects X Jvm.Bundle.tFill0 Jvm.Bundle.tFill0, .selects X Jvm.Bundle.tFill Jvm.Bundle.tFill,
   .lays X Jvm.Bundle.tN "cause" "Ljava/lang/Throwable;", .lays X Jvm.Bundle.tN "stackTrace" Jvm.Bundle.steD, .lays X Jvm.Bundle.tN "suppressedExceptions" Jvm.Bundle.listD, .lays X Jvm.Bundle.tN "detailMessage" "Ljava/lang/String;",
   .isRef (.static Jvm.Bundle.tN "UNASSIGNED_STACK" Jvm.Bundle.steD), .isRef (.static Jvm.Bundle.tN "SUPPRESSED_SENTINEL" Jvm.Bundle.listD),
   .fieldLink Jvm.Bundle.tN 198 Jvm.Bundle.tN "backtrace" "Ljava/lang/Object;", .lays Jvm.Bundle.tN Jvm.Bundle.tN "backtrace" "Ljava/lang/Object;", .lays X Jvm.Bundle.tN "backtrace" "Ljava/lang/Object;"])))
theorem zx_ctor {p : Program} {l : Launch} {e : Env} {R : Room} {s : State} {m₀ : MethodId} {args : Array Value} {below : List Frame} {meth : Method} {c : Code} {V : State} {cells slots : Nat} (X : Stand p l e R s m₀ args below meth c V [] cells slots) (hexec : p.tables.exec = Jvm.exec) (htr : e.platform.stackTraces = false)
    {own cls Y : String} {names : List String} {ic ix : Nat} {rx : ByteArray} (x0 : decode rx 0 = .ok (.aload_n 0, 1)) (x1 : decode rx 1 = .ok (.aload_n 1, 1)) (x2 : decode rx 2 = .ok (.invokespecial ix, 3)) (x5 : decode rx 5 = .ok (.return_, 1))
    (hown : s.vm.findClass own = some m₀.cls) (hcls : Jvm.Bundle.fit cls = true) (hY : Jvm.Bundle.fit Y = true) (hnames : ∀ n ∈ names, Jvm.Bundle.fit n = true) (h : ∀ a ∈ zxAtoms own ic cls Y ix rx names, a.before args s = true)
    {a : Addr} {cX : ClassId} {kX : Class} (hfoundX : s.vm.findClass cls = some cX) (hkX : s.vm.classes[cX]? = some kX) (hcell : V.heap[a]? = some (freshCell cX kX)) (hnew : s.heap.size ≤ a) {msg : Value} (hmsg : msg.isRef = true)
    {g : JFrame} (hg : g.method = m₀) (hsize : g.locals.size = c.maxLocals) (hlocked : g.locked = none) (hentered : g.entered = []) {rest : List Value} (hstack : g.stack = msg :: .ref a :: .ref a :: rest)
    (hd6 : decode c.code g.pc = .ok (.invokespecial ic, 3)) (hd9 : decode c.code (g.pc + 3) = .ok (.athrow, 1)) (hout : ∀ x ∈ c.exceptionTable.toList, covers x (g.pc + 3) = false)
    (hRf : names.length + 4 < R.frames) (hRl : 2 * g.monitorRoom + ((Value.ref a :: rest).map fun v => v.category).sum + (13 * (names.length + 2) + 42) ≤ R.locals) (hlocks : meth.locks = false) :
    ∃ U : State, Steps p.tables e below (V.setTop g) U ∧ U.status = .running ∧ Ended U below (.threw a) ∧ s.WarmedH U.vm ∧ s.sameButNew ({ U with vm := s.vm } : State) [] cells slots ∧
      ∃ ce, U.heap[a]? = some ce ∧ s.vm.findClass cls = some ce.cls ∧ ce.vm = .none := by
  have hpl : e.platform.magicAccessors = ({} : Platform).magicAccessors := by rw [X.admits.platform]
  have hin : ∀ x, x ∈ zxAtoms own ic cls Y ix rx names → x.holds args s none s [] = true := fun x hx => h x hx
  obtain ⟨T, Z0, L, -, K⟩ := ThrowableC.of_atoms (args := args) (by rw [X.admits.platform]) (by rw [X.admits.platform]) hpl (fun x hx => h x (by simp [zxAtoms, hx]))
  obtain ⟨Z1, M, LZ, LM, hnZ⟩ := Init0T.ofS_atoms (args := args) hpl L K (fun x hx => h x (by simp [zxAtoms, hx]))
  obtain ⟨P1, L1, hP1m, hP1s⟩ := PassC.ofS_atoms (args := args) (s := s) hpl (X := cls) (Y := Y) (Jvm.Bundle.fit_spec hcls).1 (Jvm.Bundle.fit_spec hY).2 x0 x1 x2 x5 (fun x hx => h x (by simp [zxAtoms, hx]))
  obtain ⟨P2, Ps, hlen, L2, hL, hP2m, hlink1, hlink⟩ := Jvm.Bundle.chainS (args := args) hpl hnZ names Y hY hnames (fun x hx => h x (by simp [zxAtoms, hx]))
  have hsup : P1.sup = P2.m := Option.some.inj (hP1s.symm.trans hP2m)
  have hfound : s.vm.findClass cls = some P1.m.cls := findClass_of_methodNamed hP1m
  cases Option.some.inj (hfoundX.symm.trans hfound)
  obtain ⟨c1, kX', hc1, hk, hord, -, -, -⟩ := Cond.instantiable_spec (hin (.instantiable cls 6) (by simp [zxAtoms]))
  cases Option.some.inj (hc1.symm.trans hfound)
  cases Option.some.inj (hkX.symm.trans hk)
  have hsel : ∀ (tm : MethodName) (mk : MethodId), s.methodNamed? tm = some mk → (tm.cls ≠ "java/lang/invoke/MethodHandle" ∧ tm.cls ≠ "java/lang/invoke/VarHandle") → (Jvm.Cond.selects cls tm tm).holds args s none s [] = true → selectMethod e.platform s.vm P1.m.cls mk = .method mk := by
    intro tm mk g1 g2 g3
    obtain ⟨c2, r2, m2, q1, q2, q3, q4, -⟩ := Cond.selects_spec g3
    cases Option.some.inj (q1.symm.trans hfound)
    cases Option.some.inj (q2.symm.trans (State.methodFound?_of_named g1 g2))
    cases Option.some.inj (q3.symm.trans g1)
    rw [Launch.admits_selectMethod X.admits]; exact q4
  obtain ⟨cellS0, hcS0, hiss⟩ := K.statics
  obtain ⟨u0, hu0⟩ := Cond.staticRefV K.unassigned L.unassignedStatic L.statics hcS0 hiss (hin (.isRef (.static Jvm.Bundle.tN "UNASSIGNED_STACK" Jvm.Bundle.steD)) (by simp [zxAtoms]))
  obtain ⟨sen, hsen⟩ := Cond.staticRefV K.sentinel L.sentinelStatic L.statics hcS0 hiss (hin (.isRef (.static Jvm.Bundle.tN "SUPPRESSED_SENTINEL" Jvm.Bundle.listD)) (by simp [zxAtoms]))
  obtain ⟨ci198, i198, fB, hk198, hg198, ha198, hsB, -, hnB, htB, hffB⟩ := Cond.ownField (t := .object "java/lang/Object") K.found L.cls (by decide +kernel) (hin (.fieldLink Jvm.Bundle.tN 198 Jvm.Bundle.tN "backtrace" "Ljava/lang/Object;") (by simp [zxAtoms])) (hin (.lays Jvm.Bundle.tN Jvm.Bundle.tN "backtrace" "Ljava/lang/Object;") (by simp [zxAtoms])) e.platform hpl
  obtain ⟨cellS, hcS', heS, -, hkeep⟩ := X.same.2.2.2.2.2 T.aS cellS0 hcS0
  have hcellS : V.heap[T.aS]? = some cellS := hcS'
  have hout' : ∀ i, (⟨T.aS, i⟩ : Loc) ∉ ([] : List Loc) := fun i hmem => by cases hmem
  have hknownS : cellS.vm ≠ .unknown := by
    rw [heS]; intro hu
    rw [show cellS0.vm = .unknown from hu] at hiss
    cases hiss
  have hneS : T.aS ≠ a := Nat.ne_of_lt (Nat.lt_of_lt_of_le (Array.getElem?_eq_some_iff.mp hcS0).1 hnew)
  obtain ⟨iM, hffM⟩ := K.msg
  obtain ⟨tyC, dC, hdC, hdnC⟩ := Cond.laysAt hfound hk K.cause (hin (.lays cls Jvm.Bundle.tN "cause" "Ljava/lang/Throwable;") (by simp [zxAtoms]))
  obtain ⟨tyS, dS, hdS, hdnS⟩ := Cond.laysAt hfound hk K.stack (hin (.lays cls Jvm.Bundle.tN "stackTrace" Jvm.Bundle.steD) (by simp [zxAtoms]))
  obtain ⟨tyP, dP, hdP, hdnP⟩ := Cond.laysAt hfound hk K.supp (hin (.lays cls Jvm.Bundle.tN "suppressedExceptions" Jvm.Bundle.listD) (by simp [zxAtoms]))
  obtain ⟨tyM, dM, hdM, hdnM⟩ := Cond.laysAt hfound hk hffM (hin (.lays cls Jvm.Bundle.tN "detailMessage" "Ljava/lang/String;") (by simp [zxAtoms]))
  obtain ⟨tyB, dB, hdB, hdnB⟩ := Cond.laysAt hfound hk hffB (hin (.lays cls Jvm.Bundle.tN "backtrace" "Ljava/lang/Object;") (by simp [zxAtoms]))
  have bC := Cond.laysApart hdB hdC hdnB hdnC (by rw [hnB, K.causeName]; decide)
  have bS := Cond.laysApart hdB hdS hdnB hdnS (by rw [hnB, K.stackName]; decide)
  have bP := Cond.laysApart hdB hdP hdnB hdnP (by rw [hnB, K.suppName]; decide)
  have hskip : SkipFacts T e.platform s (fun u => u) u0 ((preparedCellV T.toThrowableT (freshCell P1.m.cls kX) a u0 sen).withEntry V.cur) :=
    ⟨{ ci198 := ci198, i198 := i198, fBack := fB }, ⟨hk198, hg198, ha198, hsB⟩, by
      have := fresh_default (c := P1.m.cls) tyB
      rw [htB] at this
      simpa [preparedCellV, Cell.setSlot, Cell.withEntry, Array.getElem?_setIfInBounds, bC, bS, bP, bC.symm, bS.symm, bP.symm, defaultValue] using this, fun _ _ => rfl⟩
  obtain ⟨tm, methC, cdC, kC, vm₁, hnC, -, -, -, -, -, -, -, hW₁, st1⟩ := Steps.initColdS (tb := p.tables) (e := e) (below := below) (s := s) (U := V) X.here hexec X.warmed hpl hown (t := Jvm.Bundle.initS cls) rfl rfl (Jvm.Bundle.fit_spec hcls).2
    (hin (.methodLink own ic (Jvm.Bundle.initS cls)) (by simp [zxAtoms])) (h (.instanceMethod (Jvm.Bundle.initS cls)) (by simp [zxAtoms, Jvm.Bundle.passSAtoms])) (bytes := rx) (maxL := 2) (h (.code (Jvm.Bundle.initS cls) rx 2 none) (by simp [zxAtoms, Jvm.Bundle.passSAtoms]))
    (f := g) hg (a := a) (msg := msg) (rest := .ref a :: rest) hstack hd6
  cases Option.some.inj (hnC.symm.trans hP1m)
  have X₁ := X.noted hW₁
  obtain ⟨vm₂, X₂, st2⟩ := X₁.ctorMessageOffV hexec (g := { g with stack := .ref a :: rest }) hg hsize T L Z1 LZ M LM (P1 :: P2 :: Ps)
    (fun P hP => by
      rcases List.mem_cons.mp hP with rfl | hP
      · exact L1
      · rcases List.mem_cons.mp hP with rfl | hP
        · exact L2
        · exact hL P hP) ⟨hsup, hlink1, hlink⟩ (u0 := u0) (sen := sen) (self := a) hmsg (cell := freshCell P1.m.cls kX) (cellS := cellS)
    hcell (fun _ => by simp) (by simp) rfl rfl (hsel _ _ K.fill0 (by decide) (hin (.selects cls Jvm.Bundle.tFill0 Jvm.Bundle.tFill0) (by simp [zxAtoms]))) (hsel _ _ K.fill (by decide) (hin (.selects cls Jvm.Bundle.tFill Jvm.Bundle.tFill) (by simp [zxAtoms]))) hcellS hneS hknownS (by rw [hkeep _ (hout' _)]; exact hu0) (by rw [hkeep _ (hout' _)]; exact hsen)
    (Takes.of_laid hk hord tyC (by rw [K.causeType]; rfl)) (Takes.of_laid hk hord tyS (by rw [K.stackType]; exact fits_refV_array _ u0)) (Takes.of_laid hk hord tyP (by rw [K.suppType]; exact fits_refV_object _ sen))
    (Takes.of_laid hk hord tyM (by rw [K.msgType]; exact fits_refV_object _ ⟨msg, hmsg⟩)) K.objLocals hskip htr [] hd6
    (by simp only [List.length_cons, hlen]; omega) (by simp only [List.length_cons, hlen]; exact hRl)
  obtain ⟨hwalk, hrun, hended, hWU, hsame⟩ := X₂.athrowLeaves hexec (g := { g with stack := .ref a :: rest, pc := g.pc + 3 }) hg hlocked hentered hout (a := a) (rest := rest) rfl hd9 (hlocks := hlocks)
  have hlt : a < ((V.setVm vm₁).setVm vm₂).heap.size := (Array.getElem?_eq_some_iff.mp hcell).1
  have hU := heapAt_setCell_self (s := (V.setVm vm₁).setVm vm₂) (plainBareV T.toThrowableT (freshCell P1.m.cls kX) a u0 sen msg) hlt
  refine ⟨_, st1 _ (fun acts => ?_), hrun, hended, hWU, hsame.weaken (fun z hz hlt' => ?_) (Nat.le_refl _) (Nat.le_refl _), _, hU, hfound, rfl⟩
  · rw [doInvoke_state]
    exact st2 _ hwalk
  · rcases List.mem_append.mp hz with h1 | h1
    · exact h1
    · exfalso
      have hb : z.base = a := by
        simp only [List.mem_cons, List.not_mem_nil, or_false] at h1
        rcases h1 with rfl | rfl | rfl | rfl | rfl <;> rfl
      rw [hb] at hlt'
      exact Nat.not_lt.mpr hnew hlt'
def zownN (own : String) (i0 i1 i2 : Nat) (Xn tx Y : String) (ix : Nat) (rx : ByteArray) (names : List String) : Prop :=
  Jvm.Cond.classLink own i0 Xn ∈ Tw ∧ Jvm.Cond.instantiable Xn 6 ∈ Tw ∧ Jvm.Cond.initialized Xn ∈ Tw ∧ (own, i1, tx) ∈ zstr ∧ Jvm.Bundle.fit Xn = true ∧ (∀ n ∈ names, Jvm.Bundle.fit n = true) ∧ Jvm.Bundle.fit Y = true ∧
  (decode rx 0 = .ok (.aload_n 0, 1) ∧ decode rx 1 = .ok (.aload_n 1, 1) ∧ decode rx 2 = .ok (.invokespecial ix, 3) ∧ decode rx 5 = .ok (.return_, 1)) ∧
  ∀ a ∈ zxAtoms own i2 Xn Y ix rx names, a ∈ Tw ∨ a = .laysStatic Jvm.Bundle.tN "UNASSIGNED_STACK" Jvm.Bundle.steD ∨ a = .laysStatic Jvm.Bundle.tN "SUPPRESSED_SENTINEL" Jvm.Bundle.listD ∨ a = .isRef (.static Jvm.Bundle.tN "UNASSIGNED_STACK" Jvm.Bundle.steD) ∨ a = .isRef (.static Jvm.Bundle.tN "SUPPRESSED_SENTINEL" Jvm.Bundle.listD)
section ZN
variable {p : Program} {l : Launch} {e : Env} {R : Room} {s : State} {m : MethodId} {args : Array Value} {below : List Frame} {meth : Method} {c : Code} {cc : ByteArray} {nL : Nat} {own : String} {D : va_G} {cI cJ : ClassId} {as : Nat → Nat} {rd : Bool} {kc ks : Nat} {pc : Nat} {lv : List (Option Value)} {w : zW} {res : zR} {gc gs : Nat}
theorem zz_throwN (hfl : l.flags = Jvm.pinnedFlags ++ [Jvm.noTraceFlag]) (G : zok p s m args meth c cc nL own D cI cJ as) {i0 i1 i2 ix : Nat} {Xn tx Y : String} {rx : ByteArray} {names : List String} (hd0 : decode cc pc = .ok (.new i0, 3)) (hd3 : decode cc (pc + 3) = .ok (.dup, 1)) (hd4 : decode cc (pc + 4) = .ok (.ldc i1, 2)) (hd6 : decode cc (pc + 6) = .ok (.invokespecial i2, 3)) (hd9 : decode cc (pc + 9) = .ok (.athrow, 1))
    (ho : zownN own i0 i1 i2 Xn tx Y ix rx names) (hrd : rd = true) (hbd : ∀ k, k < 11 → as k < s.heap.size) (hex : c.exceptionTable.toList = []) (hR : names.length + 4 < R.frames ∧ 13 * (names.length + 2) + 50 ≤ R.locals) (hf : kc + 1 ≤ R.cells ∧ ks + 6 ≤ R.slots) (hres : res = .inr (Xn, w)) (hkc : kc = 0) (hks : ks = 0) :
    Z p l e R s m args below meth c nL D cI cJ as rd kc ks (zMQ below res D cI cJ as rd s gc gs) pc lv [] w := by
  intro ls H locs hl hP hS hr
  have hlocs : locs = [] := hr hrd
  subst hlocs
  subst hkc
  subst hks
  obtain ⟨o1, o2, o3, o4, o5, o6, o8, ⟨x0, x1, x2, x5⟩, o7⟩ := ho
  obtain ⟨q, hq⟩ := G.2.2.2.2.2.2 _ o4
  refine W.newc G.1.1 G.1.2.1 G.1.2.2.2.1 (G.2.1 _ o1) (G.2.1 _ o2) (G.2.1 _ o3) rfl hd0 hf.1 hf.2 (fun cC kC h1 h2 h3 h4 => ?_)
  refine lv_dup (va := .ref H.size) G.1.1 G.1.2.1 hd3 rfl ?_
  refine va_ldcS G.1.1 G.1.2.1 G.1.2.2.2.1 hq hd4 ?_
  intro T hT X
  have hat : ∀ a ∈ zxAtoms own i2 Xn Y ix rx names, a.before args s = true := by
    intro a ha
    rcases o7 a ha with z | z | z | z | z
    · exact G.2.1 _ z
    · rw [z]; exact zst_lays G.2.2.2.2.1
    · rw [z]; exact zst_lays G.2.2.2.2.2.1
    · rw [z]; exact zst_ref G.2.2.2.2.1
    · rw [z]; exact zst_ref G.2.2.2.2.2.1
  have htr : e.platform.stackTraces = false := Launch.traces_off hfl X.admits
  obtain ⟨U, hst, hrun, hend, hWU, hsame, ce, hce, hcl, hvm⟩ := zx_ctor X G.1.1 htr (own := own) (cls := Xn) (Y := Y) (names := names) (ic := i2) x0 x1 x2 x5 G.1.2.2.2.1 o5 o8 o6 hat (a := H.size) h1 h2
    (by rw [hT, Array.getElem?_push_size]) hS.1 (msg := .ref q) rfl (g := F0 m (pc + 3 + 1 + 2) ls [.ref q, .ref H.size, .ref H.size]) rfl (hl.2.1.trans G.1.2.2.1.symm) rfl rfl (rest := []) rfl (by rw [G.1.2.1]; exact hd6) (by rw [G.1.2.1]; exact hd9) (by rw [hex]; intro _ h; cases h)
    hR.1 (by simp [Value.category, JFrame.monitorRoom]; have := hR.2; omega) G.1.2.2.2.2
  subst hres
  obtain ⟨z1, z2⟩ := z_same hsame
  obtain ⟨-, y2⟩ := z_same (U := T) X.same
  refine ⟨U, hst, .threw H.size, hrun, hend, ⟨H.size, rfl, ⟨ce, hce, ?_, hcl⟩, ⟨hP.1, ?_⟩, z1, fun q h1 _ => z2 q h1⟩, [], ⟨hWU, ?_⟩, fun q hq => by cases hq⟩
  · rw [hvm]; rfl
  · refine hP.2.kept (fun k x hx => ?_)
    rw [zwi_get] at hx
    obtain ⟨e1, k1, k2⟩ := Option.map_eq_some_iff.mp hx
    subst k2
    have hk11 : k < 11 := by have := (List.getElem?_eq_some_iff.mp k1).1; rw [hP.1] at this; exact this
    have hlt : as (0 + k) < s.heap.size := by rw [Nat.zero_add]; exact hbd k hk11
    show U.heap[as (0 + k)]? = H[as (0 + k)]?
    rw [z2 _ hlt]
    have h5 := y2 _ hlt
    rw [hT, Array.getElem?_push, if_neg (Nat.ne_of_lt (Nat.lt_of_lt_of_le hlt hS.1))] at h5
    exact h5.symm
  · exact hsame
end ZN
theorem zownN_of {own : String} {i0 i1 i2 ix : Nat} {Xn tx Y : String} {rx : ByteArray} {names : List String} (h0 : (decide (Jvm.Cond.classLink own i0 Xn ∈ lw_tbl) && decide (Jvm.Cond.instantiable Xn 6 ∈ lw_tbl) && decide (Jvm.Cond.initialized Xn ∈ lw_tbl) && decide ((own, i1, tx) ∈ zstr) && Jvm.Bundle.fit Xn && names.all Jvm.Bundle.fit && Jvm.Bundle.fit Y) = true)
    (hx : decode rx 0 = .ok (.aload_n 0, 1) ∧ decode rx 1 = .ok (.aload_n 1, 1) ∧ decode rx 2 = .ok (.invokespecial ix, 3) ∧ decode rx 5 = .ok (.return_, 1))
    (h1 : (zxAtoms own i2 Xn Y ix rx names).all (fun a => (decide (a ∈ lw_tbl) && zgood a) || decide (a = .laysStatic Jvm.Bundle.tN "UNASSIGNED_STACK" Jvm.Bundle.steD) || decide (a = .laysStatic Jvm.Bundle.tN "SUPPRESSED_SENTINEL" Jvm.Bundle.listD) || decide (a = .isRef (.static Jvm.Bundle.tN "UNASSIGNED_STACK" Jvm.Bundle.steD)) || decide (a = .isRef (.static Jvm.Bundle.tN "SUPPRESSED_SENTINEL" Jvm.Bundle.listD))) = true) : zownN own i0 i1 i2 Xn tx Y ix rx names := by
  simp only [Bool.and_eq_true, decide_eq_true_eq] at h0
  obtain ⟨⟨⟨⟨⟨⟨a1, a2⟩, a3⟩, a4⟩, a5⟩, a6⟩, a7⟩ := h0
  refine ⟨Tw_in a1 rfl, Tw_in a2 rfl, Tw_in a3 rfl, a4, a5, List.all_eq_true.mp a6, a7, hx, fun a ha => ?_⟩
  have q := List.all_eq_true.mp h1 a ha
  simp only [Bool.or_eq_true, Bool.and_eq_true, decide_eq_true_eq] at q
  rcases q with (((q | q) | q) | q) | q
  · exact Or.inl (Tw_in q.1 q.2)
  · exact Or.inr (Or.inl q)
  · exact Or.inr (Or.inr (Or.inl q))
  · exact Or.inr (Or.inr (Or.inr (Or.inl q)))
  · exact Or.inr (Or.inr (Or.inr (Or.inr q)))
set_option maxRecDepth 100000 in
set_option maxHeartbeats 4000000 in
theorem ow_146 : zownN "AsOfLedger" 146 148 150 "java/util/NoSuchElementException" "there is no such entry, or it is void" "java/lang/RuntimeException" 13 prog_13_method_4_code ["java/lang/Exception"] := zownN_of (by decide +kernel) (by decide +kernel) (by decide +kernel)
