/-! locals -/
def zas (as : Nat → Nat) : Nat → List (Option Value) → List (Nat × Value)
  | _, [] => []
  | i, none :: r => zas as (i + 1) r
  | i, some v :: r => (i, zv as v) :: zas as (i + 1) r
theorem zas_in (as : Nat → Nat) : ∀ (lv : List (Option Value)) (i j : Nat) (v : Value), lv[j]? = some (some v) → (i + j, zv as v) ∈ zas as i lv
  | [], _, _, _, h => by simp at h
  | none :: r, i, 0, v, h => by simp at h
  | some x :: r, i, 0, v, h => by
    have : x = v := by simpa using h
    subst this
    exact List.mem_cons_self
  | none :: r, i, j + 1, v, h => by
    have := zas_in as r (i + 1) j v (by simpa using h)
    rw [show i + (j + 1) = i + 1 + j by omega]
    exact this
  | some x :: r, i, j + 1, v, h => by
    have := zas_in as r (i + 1) j v (by simpa using h)
    rw [show i + (j + 1) = i + 1 + j by omega]
    exact List.mem_cons_of_mem _ this
theorem zas_of (as : Nat → Nat) : ∀ (lv : List (Option Value)) (i : Nat) (q : Nat × Value), q ∈ zas as i lv → ∃ (j : Nat) (v : Value), lv[j]? = some (some v) ∧ q = (i + j, zv as v)
  | [], _, _, h => by cases h
  | none :: r, i, q, h => by
    obtain ⟨j, v, h1, h2⟩ := zas_of as r (i + 1) q h
    exact ⟨j + 1, v, by simpa using h1, by rw [h2, show i + (j + 1) = i + 1 + j by omega]⟩
  | some x :: r, i, q, h => by
    rcases List.mem_cons.mp h with h | h
    · exact ⟨0, x, by simp, h⟩
    · obtain ⟨j, v, h1, h2⟩ := zas_of as r (i + 1) q h
      exact ⟨j + 1, v, by simpa using h1, by rw [h2, show i + (j + 1) = i + 1 + j by omega]⟩
def zL (as : Nat → Nat) (ls : Array Slot) (nL : Nat) (lv : List (Option Value)) : Prop := lv.length = nL ∧ lv_has ls nL (zas as 0 lv)
theorem zL_at {as : Nat → Nat} {ls : Array Slot} {nL : Nat} {lv : List (Option Value)} (h : zL as ls nL lv) {i : Nat} {v : Value} (hi : lv[i]? = some (some v)) : ls[i]? = some (.val (zv as v)) := by
  have h1 := zas_in as lv 0 i v hi
  rw [Nat.zero_add] at h1
  exact h.2.2.2 _ h1
theorem zL_lt {as : Nat → Nat} {ls : Array Slot} {nL : Nat} {lv : List (Option Value)} (h : zL as ls nL lv) {i : Nat} (hi : i < lv.length) : i < nL := h.1 ▸ hi
def zk (i : Nat) (o : Option Value) : Option Value := match i, o with
  | 0, some v => if v.category = 2 then none else some v
  | _, o => o
theorem zk_some {i : Nat} {o : Option Value} {v : Value} (h : zk i o = some v) : o = some v ∧ ¬ (i = 0 ∧ v.category = 2) := by
  cases i with
  | zero =>
    cases o with
    | none => cases h
    | some x =>
      simp only [zk] at h
      by_cases hc : x.category = 2
      · rw [if_pos hc] at h; cases h
      · rw [if_neg hc] at h
        cases h
        exact ⟨rfl, fun z => hc z.2⟩
  | succ i => exact ⟨h, fun z => by cases z.1⟩
def zst1 : List (Option Value) → Nat → Value → List (Option Value)
  | [], _, _ => []
  | _ :: r, 0, x => some x :: r
  | o :: r, i + 1, x => zk i o :: zst1 r i x
def zst2 : List (Option Value) → Nat → Value → List (Option Value)
  | [], _, _ => []
  | _ :: [], 0, x => some x :: []
  | _ :: _ :: r, 0, x => some x :: none :: r
  | o :: r, i + 1, x => zk i o :: zst2 r i x
theorem zst1_len : ∀ (lv : List (Option Value)) (i : Nat) (x : Value), (zst1 lv i x).length = lv.length
  | [], _, _ => rfl
  | _ :: r, 0, x => rfl
  | o :: r, i + 1, x => by simp [zst1, zst1_len r i x]
theorem zst2_len : ∀ (lv : List (Option Value)) (i : Nat) (x : Value), (zst2 lv i x).length = lv.length
  | [], _, _ => by simp [zst2]
  | _ :: [], 0, x => by simp [zst2]
  | _ :: _ :: r, 0, x => by simp [zst2]
  | o :: r, i + 1, x => by simp [zst2, zst2_len r i x]
theorem zst1_of : ∀ (lv : List (Option Value)) (i : Nat) (x : Value) (j : Nat) (v : Value), (zst1 lv i x)[j]? = some (some v) → (j = i ∧ v = x) ∨ (j ≠ i ∧ lv[j]? = some (some v) ∧ ¬ (j + 1 = i ∧ v.category = 2))
  | [], _, _, j, v, h => by simp [zst1] at h
  | o :: r, 0, x, 0, v, h => by
    simp [zst1] at h
    exact Or.inl ⟨rfl, h.symm⟩
  | o :: r, 0, x, j + 1, v, h => by
    simp [zst1] at h
    exact Or.inr ⟨by omega, by simpa using h, fun z => by omega⟩
  | o :: r, i + 1, x, 0, v, h => by
    simp [zst1] at h
    obtain ⟨h1, h2⟩ := zk_some h
    exact Or.inr ⟨by omega, by simpa using h1, fun z => h2 ⟨by omega, z.2⟩⟩
  | o :: r, i + 1, x, j + 1, v, h => by
    simp [zst1] at h
    rcases zst1_of r i x j v h with ⟨h1, h2⟩ | ⟨h1, h2, h3⟩
    · exact Or.inl ⟨by omega, h2⟩
    · exact Or.inr ⟨by omega, by simpa using h2, fun z => h3 ⟨by omega, z.2⟩⟩
theorem zst2_of : ∀ (lv : List (Option Value)) (i : Nat) (x : Value) (j : Nat) (v : Value), (zst2 lv i x)[j]? = some (some v) → (j = i ∧ v = x) ∨ (j ≠ i ∧ j ≠ i + 1 ∧ lv[j]? = some (some v) ∧ ¬ (j + 1 = i ∧ v.category = 2))
  | [], _, _, j, v, h => by simp [zst2] at h
  | [o], 0, x, 0, v, h => by
    simp [zst2] at h
    exact Or.inl ⟨rfl, h.symm⟩
  | [o], 0, x, j + 1, v, h => by simp [zst2] at h
  | o :: o2 :: r, 0, x, 0, v, h => by
    simp [zst2] at h
    exact Or.inl ⟨rfl, h.symm⟩
  | o :: o2 :: r, 0, x, 1, v, h => by simp [zst2] at h
  | o :: o2 :: r, 0, x, j + 2, v, h => by
    simp [zst2] at h
    exact Or.inr ⟨by omega, by omega, by simpa using h, fun z => by omega⟩
  | o :: r, i + 1, x, 0, v, h => by
    simp [zst2] at h
    obtain ⟨h1, h2⟩ := zk_some h
    exact Or.inr ⟨by omega, by omega, by simpa using h1, fun z => h2 ⟨by omega, z.2⟩⟩
  | o :: r, i + 1, x, j + 1, v, h => by
    simp [zst2] at h
    rcases zst2_of r i x j v h with ⟨h1, h2⟩ | ⟨h1, h1', h2, h3⟩
    · exact Or.inl ⟨by omega, h2⟩
    · exact Or.inr ⟨by omega, by omega, by simpa using h2, fun z => h3 ⟨by omega, z.2⟩⟩
theorem zL_st1 {as : Nat → Nat} {ls' : Array Slot} {nL : Nat} {lv : List (Option Value)} {i : Nat} {x : Value} (hl : lv.length = nL)
    (h : lv_has ls' nL ((i, zv as x) :: (zas as 0 lv).filter (fun q => !(q.1 == i) && !(q.1 + 1 == i && q.2.category == 2)))) : zL as ls' nL (zst1 lv i x) := by
  refine ⟨(zst1_len lv i x).trans hl, h.1, h.2.1, fun q hq => h.2.2 q ?_⟩
  obtain ⟨j, v, h1, h2⟩ := zas_of as _ 0 q hq
  rw [Nat.zero_add] at h2
  subst h2
  rcases zst1_of lv i x j v h1 with ⟨e1, e2⟩ | ⟨e1, e2, e3⟩
  · subst e1
    subst e2
    exact List.mem_cons_self
  · refine List.mem_cons_of_mem _ (List.mem_filter.mpr ⟨by have := zas_in as lv 0 j v e2; rwa [Nat.zero_add] at this, ?_⟩)
    simp only [zv_cat, Bool.and_eq_true, Bool.not_eq_true', beq_eq_false_iff_ne, ne_eq, Bool.and_eq_false_iff]
    refine ⟨e1, ?_⟩
    by_cases q : j + 1 = i
    · exact Or.inr fun z => e3 ⟨q, z⟩
    · exact Or.inl q
theorem zL_st2 {as : Nat → Nat} {ls' : Array Slot} {nL : Nat} {lv : List (Option Value)} {i : Nat} {x : Value} (hl : lv.length = nL)
    (h : lv_has ls' nL ((i, zv as x) :: (zas as 0 lv).filter (fun q => !(q.1 == i) && (!(q.1 == i + 1) && !(q.1 + 1 == i && q.2.category == 2))))) : zL as ls' nL (zst2 lv i x) := by
  refine ⟨(zst2_len lv i x).trans hl, h.1, h.2.1, fun q hq => h.2.2 q ?_⟩
  obtain ⟨j, v, h1, h2⟩ := zas_of as _ 0 q hq
  rw [Nat.zero_add] at h2
  subst h2
  rcases zst2_of lv i x j v h1 with ⟨e1, e2⟩ | ⟨e1, e1', e2, e3⟩
  · subst e1
    subst e2
    exact List.mem_cons_self
  · refine List.mem_cons_of_mem _ (List.mem_filter.mpr ⟨by have := zas_in as lv 0 j v e2; rwa [Nat.zero_add] at this, ?_⟩)
    simp only [zv_cat, Bool.and_eq_true, Bool.not_eq_true', beq_eq_false_iff_ne, ne_eq, Bool.and_eq_false_iff]
    refine ⟨e1, e1', ?_⟩
    by_cases q : j + 1 = i
    · exact Or.inr fun z => e3 ⟨q, z⟩
    · exact Or.inl q
/-- fewer known locals -/
def zfew : List (Option Value) → List (Option Value) → Prop
  | [], [] => True
  | _ :: r, none :: r' => zfew r r'
  | o :: r, some v :: r' => o = some v ∧ zfew r r'
  | _, _ => False
theorem zfew_len : ∀ (a b : List (Option Value)), zfew a b → b.length = a.length
  | [], [], _ => rfl
  | _ :: r, none :: r', h => by simp [zfew_len r r' h]
  | o :: r, some v :: r', h => by simp [zfew_len r r' h.2]
  | [], _ :: _, h => h.elim
  | _ :: _, [], h => h.elim
theorem zfew_at : ∀ (a b : List (Option Value)), zfew a b → ∀ (j : Nat) (v : Value), b[j]? = some (some v) → a[j]? = some (some v)
  | [], [], _, j, v, h => by simp at h
  | _ :: r, none :: r', _, 0, v, h => by simp at h
  | _ :: r, none :: r', hf, j + 1, v, h => by simpa using zfew_at r r' hf j v (by simpa using h)
  | o :: r, some x :: r', hf, 0, v, h => by
    have : x = v := by simpa using h
    subst this
    simpa using hf.1
  | o :: r, some x :: r', hf, j + 1, v, h => by simpa using zfew_at r r' hf.2 j v (by simpa using h)
  | [], _ :: _, hf, _, _, _ => hf.elim
  | _ :: _, [], hf, _, _, _ => hf.elim
theorem zL_few {as : Nat → Nat} {ls : Array Slot} {nL : Nat} {lv lv' : List (Option Value)} (hf : zfew lv lv') (h : zL as ls nL lv) : zL as ls nL lv' := by
  refine ⟨(zfew_len _ _ hf).trans h.1, h.2.1, h.2.2.1, fun q hq => ?_⟩
  obtain ⟨j, v, h1, h2⟩ := zas_of as _ 0 q hq
  rw [Nat.zero_add] at h2
  subst h2
  exact zL_at h (zfew_at _ _ hf j v h1)
/-- the locals at the entry -/
def zlv : List Value → List (Option Value)
  | [] => []
  | v :: r => if v.category = 2 then some v :: none :: zlv r else some v :: zlv r
theorem zas_rep (as : Nat → Nat) : ∀ (n i : Nat), zas as i (List.replicate n none) = []
  | 0, _ => rfl
  | n + 1, i => by
    rw [List.replicate_succ]
    exact zas_rep as n (i + 1)
theorem zlv_as (as : Nat → Nat) (n : Nat) : ∀ (vs : List Value) (i : Nat), zas as i (zlv vs ++ List.replicate n none) = lv_args i (vs.map (zv as))
  | [], i => zas_rep as n i
  | v :: r, i => by
    by_cases hc : v.category = 2
    · simp only [zlv, hc, if_true, List.cons_append, List.map_cons, lv_args, zv_cat]
      show (i, zv as v) :: zas as (i + 1 + 1) (zlv r ++ List.replicate n none) = _
      rw [zlv_as as n r (i + 1 + 1)]
    · simp only [zlv, hc, if_false, List.cons_append, List.map_cons, lv_args, zv_cat]
      show (i, zv as v) :: zas as (i + 1) (zlv r ++ List.replicate n none) = _
      rw [zlv_as as n r (i + 1)]
theorem zlv_len (as : Nat → Nat) : ∀ vs : List Value, (zlv vs).length = (lg_sl (vs.map (zv as))).length
  | [] => rfl
  | v :: r => by
    by_cases hc : v.category = 2
    · simp [zlv, hc, lg_sl, zv_cat] at *
      have := zlv_len as r
      simp [lg_sl] at this
      omega
    · simp [zlv, hc, lg_sl, zv_cat] at *
      have := zlv_len as r
      simp [lg_sl] at this
      omega
theorem zL_entry (as : Nat → Nat) (av : List Value) {nL : Nat} {lv : List (Option Value)} (h : zlv av ++ List.replicate (nL - (zlv av).length) none = lv) (hn : (zlv av).length ≤ nL) :
    zL as ((lg_sl (av.map (zv as)) ++ List.replicate (nL - (lg_sl (av.map (zv as))).length) Slot.unset).toArray) nL lv := by
  subst h
  have hn2 : (lg_sl (av.map (zv as))).length ≤ nL := by rw [← zlv_len]; exact hn
  refine ⟨by simp; omega, ?_⟩
  rw [zlv_as]
  exact lv_entry _ hn2

/-- the machine, from this abstract state, comes to a state with Q -/
def Z (p : Program) (l : Launch) (e : Env) (R : Room) (s : State) (m : MethodId) (args : Array Value) (below : List Frame) (meth : Method) (c : Code) (nL : Nat) (D : va_G) (cI cJ : ClassId) (as : Nat → Nat) (rd : Bool) (kc ks : Nat) (Q : State → Prop) (pc : Nat) (lv : List (Option Value)) (st : List Value) (w : zW) : Prop :=
  ∀ (ls : Array Slot) (H : Heap) (locs : List Loc), zL as ls nL lv → zH D cI cJ as w H → va_S (zA as s.heap.size) s.heap H locs → (rd = true → locs = []) → W p l e R s m args below meth c H locs kc ks Q (F0 m pc ls (st.map (zv as)))
/-- what holds all through a method's walk -/
def zok (p : Program) (s : State) (m : MethodId) (args : Array Value) (meth : Method) (c : Code) (cc : ByteArray) (nL : Nat) (own : String) (D : va_G) (cI cJ : ClassId) (as : Nat → Nat) : Prop :=
  (p.tables.exec = Jvm.exec ∧ c.code = cc ∧ c.maxLocals = nL ∧ s.vm.findClass own = some m.cls ∧ meth.locks = false) ∧ (∀ x ∈ Tw, x.before args s = true) ∧ va_K D vwCl [(cI, .int), (cJ, .long)] s ∧ zinj as ∧ zenv as s.heap.size s
section ZI
variable {p : Program} {l : Launch} {e : Env} {R : Room} {s : State} {m : MethodId} {args : Array Value} {below : List Frame} {meth : Method} {c : Code} {cc : ByteArray} {nL : Nat} {own : String} {D : va_G} {cI cJ : ClassId} {as : Nat → Nat} {rd : Bool} {kc ks : Nat} {Q : State → Prop} {pc : Nat} {lv : List (Option Value)} {st : List Value} {w : zW}
theorem zz_iconst (G : zok p s m args meth c cc nL own D cI cJ as) {n : Int} {v : Int32} (hd : decode cc pc = .ok (.iconst n, 1)) (hv : Int32.ofInt n = v) (k : Z p l e R s m args below meth c nL D cI cJ as rd kc ks Q (pc + 1) lv (.int v :: st) w) : Z p l e R s m args below meth c nL D cI cJ as rd kc ks Q pc lv (st) w :=
  fun ls H locs hl hP hS hr => lv_iconst G.1.1 G.1.2.1 hd hv (k ls H locs hl hP hS hr)
theorem zz_bipush (G : zok p s m args meth c cc nL own D cI cJ as) {n : Int} {v : Int32} (hd : decode cc pc = .ok (.bipush n, 2)) (hv : (Int8.ofInt n).toInt32 = v) (k : Z p l e R s m args below meth c nL D cI cJ as rd kc ks Q (pc + 2) lv (.int v :: st) w) : Z p l e R s m args below meth c nL D cI cJ as rd kc ks Q pc lv (st) w :=
  fun ls H locs hl hP hS hr => lv_bipush G.1.1 G.1.2.1 hd hv (k ls H locs hl hP hS hr)
theorem zz_sipush (G : zok p s m args meth c cc nL own D cI cJ as) {n : Int} {v : Int32} (hd : decode cc pc = .ok (.sipush n, 3)) (hv : (Int16.ofInt n).toInt32 = v) (k : Z p l e R s m args below meth c nL D cI cJ as rd kc ks Q (pc + 3) lv (.int v :: st) w) : Z p l e R s m args below meth c nL D cI cJ as rd kc ks Q pc lv (st) w :=
  fun ls H locs hl hP hS hr => lv_sipush G.1.1 G.1.2.1 hd hv (k ls H locs hl hP hS hr)
theorem zz_lconst (G : zok p s m args meth c cc nL own D cI cJ as) {n : Fin 2} {v : Int64} (hd : decode cc pc = .ok (.lconst n, 1)) (hv : Int64.ofNat (n : Nat) = v) (k : Z p l e R s m args below meth c nL D cI cJ as rd kc ks Q (pc + 1) lv (.long v :: st) w) : Z p l e R s m args below meth c nL D cI cJ as rd kc ks Q pc lv (st) w :=
  fun ls H locs hl hP hS hr => lv_lconst G.1.1 G.1.2.1 hd hv (k ls H locs hl hP hS hr)
theorem zz_iload_n (G : zok p s m args meth c cc nL own D cI cJ as) {i : Fin 4} {x : Int32} (hd : decode cc pc = .ok (.iload_n i, 1)) (hx : lv[(i : Nat)]? = some (some (.int x))) (k : Z p l e R s m args below meth c nL D cI cJ as rd kc ks Q (pc + 1) lv (.int x :: st) w) : Z p l e R s m args below meth c nL D cI cJ as rd kc ks Q pc lv (st) w :=
  fun ls H locs hl hP hS hr => lv_iload_n G.1.1 G.1.2.1 hd rfl (zL_at hl hx) (k ls H locs hl hP hS hr)
theorem zz_iload (G : zok p s m args meth c cc nL own D cI cJ as) {i : Nat} {x : Int32} (hd : decode cc pc = .ok (.iload i, 2)) (hx : lv[i]? = some (some (.int x))) (k : Z p l e R s m args below meth c nL D cI cJ as rd kc ks Q (pc + 2) lv (.int x :: st) w) : Z p l e R s m args below meth c nL D cI cJ as rd kc ks Q pc lv (st) w :=
  fun ls H locs hl hP hS hr => lv_iload G.1.1 G.1.2.1 hd (zL_at hl hx) (k ls H locs hl hP hS hr)
theorem zz_lload_n (G : zok p s m args meth c cc nL own D cI cJ as) {i : Fin 4} {x : Int64} (hd : decode cc pc = .ok (.lload_n i, 1)) (hx : lv[(i : Nat)]? = some (some (.long x))) (k : Z p l e R s m args below meth c nL D cI cJ as rd kc ks Q (pc + 1) lv (.long x :: st) w) : Z p l e R s m args below meth c nL D cI cJ as rd kc ks Q pc lv (st) w :=
  fun ls H locs hl hP hS hr => lv_lload_n G.1.1 G.1.2.1 hd rfl (zL_at hl hx) (k ls H locs hl hP hS hr)
theorem zz_lload (G : zok p s m args meth c cc nL own D cI cJ as) {i : Nat} {x : Int64} (hd : decode cc pc = .ok (.lload i, 2)) (hx : lv[i]? = some (some (.long x))) (k : Z p l e R s m args below meth c nL D cI cJ as rd kc ks Q (pc + 2) lv (.long x :: st) w) : Z p l e R s m args below meth c nL D cI cJ as rd kc ks Q pc lv (st) w :=
  fun ls H locs hl hP hS hr => lv_lload G.1.1 G.1.2.1 hd (zL_at hl hx) (k ls H locs hl hP hS hr)
theorem zz_aload_n (G : zok p s m args meth c cc nL own D cI cJ as) {i : Fin 4} {x : Nat} (hd : decode cc pc = .ok (.aload_n i, 1)) (hx : lv[(i : Nat)]? = some (some (.ref x))) (k : Z p l e R s m args below meth c nL D cI cJ as rd kc ks Q (pc + 1) lv (.ref x :: st) w) : Z p l e R s m args below meth c nL D cI cJ as rd kc ks Q pc lv (st) w :=
  fun ls H locs hl hP hS hr => lv_aload_n G.1.1 G.1.2.1 hd rfl (zL_at hl hx) (k ls H locs hl hP hS hr)
theorem zz_aload (G : zok p s m args meth c cc nL own D cI cJ as) {i : Nat} {x : Nat} (hd : decode cc pc = .ok (.aload i, 2)) (hx : lv[i]? = some (some (.ref x))) (k : Z p l e R s m args below meth c nL D cI cJ as rd kc ks Q (pc + 2) lv (.ref x :: st) w) : Z p l e R s m args below meth c nL D cI cJ as rd kc ks Q pc lv (st) w :=
  fun ls H locs hl hP hS hr => lv_aload G.1.1 G.1.2.1 hd (zL_at hl hx) (k ls H locs hl hP hS hr)
theorem zz_istore_n (G : zok p s m args meth c cc nL own D cI cJ as) {i : Fin 4} {x : Int32} {lv' : List (Option Value)} (hd : decode cc pc = .ok (.istore_n i, 1)) (hn : ((i : Nat)) < lv.length) (hl' : zst1 lv (i : Nat) (.int x) = lv') (k : Z p l e R s m args below meth c nL D cI cJ as rd kc ks Q (pc + 1) lv' st w) : Z p l e R s m args below meth c nL D cI cJ as rd kc ks Q pc lv (.int x :: st) w :=
  by subst hl'; exact fun ls H locs hl hP hS hr => lv_istore_n G.1.1 G.1.2.1 hd rfl hl.2 (zL_lt hl hn) rfl (fun ls' h' => k ls' H locs (zL_st1 (x := .int x) hl.1 h') hP hS hr)
theorem zz_istore (G : zok p s m args meth c cc nL own D cI cJ as) {i : Nat} {x : Int32} {lv' : List (Option Value)} (hd : decode cc pc = .ok (.istore i, 2)) (hn : i < lv.length) (hl' : zst1 lv i (.int x) = lv') (k : Z p l e R s m args below meth c nL D cI cJ as rd kc ks Q (pc + 2) lv' st w) : Z p l e R s m args below meth c nL D cI cJ as rd kc ks Q pc lv (.int x :: st) w :=
  by subst hl'; exact fun ls H locs hl hP hS hr => lv_istore G.1.1 G.1.2.1 hd hl.2 (zL_lt hl hn) rfl (fun ls' h' => k ls' H locs (zL_st1 (x := .int x) hl.1 h') hP hS hr)
theorem zz_lstore_n (G : zok p s m args meth c cc nL own D cI cJ as) {i : Fin 4} {x : Int64} {lv' : List (Option Value)} (hd : decode cc pc = .ok (.lstore_n i, 1)) (hn : ((i : Nat) + 1) < lv.length) (hl' : zst2 lv (i : Nat) (.long x) = lv') (k : Z p l e R s m args below meth c nL D cI cJ as rd kc ks Q (pc + 1) lv' st w) : Z p l e R s m args below meth c nL D cI cJ as rd kc ks Q pc lv (.long x :: st) w :=
  by subst hl'; exact fun ls H locs hl hP hS hr => lv_lstore_n G.1.1 G.1.2.1 hd rfl hl.2 (zL_lt hl hn) rfl (fun ls' h' => k ls' H locs (zL_st2 (x := .long x) hl.1 h') hP hS hr)
theorem zz_lstore (G : zok p s m args meth c cc nL own D cI cJ as) {i : Nat} {x : Int64} {lv' : List (Option Value)} (hd : decode cc pc = .ok (.lstore i, 2)) (hn : i + 1 < lv.length) (hl' : zst2 lv i (.long x) = lv') (k : Z p l e R s m args below meth c nL D cI cJ as rd kc ks Q (pc + 2) lv' st w) : Z p l e R s m args below meth c nL D cI cJ as rd kc ks Q pc lv (.long x :: st) w :=
  by subst hl'; exact fun ls H locs hl hP hS hr => lv_lstore G.1.1 G.1.2.1 hd hl.2 (zL_lt hl hn) rfl (fun ls' h' => k ls' H locs (zL_st2 (x := .long x) hl.1 h') hP hS hr)
theorem zz_astore_n (G : zok p s m args meth c cc nL own D cI cJ as) {i : Fin 4} {x : Nat} {lv' : List (Option Value)} (hd : decode cc pc = .ok (.astore_n i, 1)) (hn : ((i : Nat)) < lv.length) (hl' : zst1 lv (i : Nat) (.ref x) = lv') (k : Z p l e R s m args below meth c nL D cI cJ as rd kc ks Q (pc + 1) lv' st w) : Z p l e R s m args below meth c nL D cI cJ as rd kc ks Q pc lv (.ref x :: st) w :=
  by subst hl'; exact fun ls H locs hl hP hS hr => lv_astore_n G.1.1 G.1.2.1 hd rfl hl.2 (zL_lt hl hn) rfl (fun ls' h' => k ls' H locs (zL_st1 (x := .ref x) hl.1 h') hP hS hr)
theorem zz_astore (G : zok p s m args meth c cc nL own D cI cJ as) {i : Nat} {x : Nat} {lv' : List (Option Value)} (hd : decode cc pc = .ok (.astore i, 2)) (hn : i < lv.length) (hl' : zst1 lv i (.ref x) = lv') (k : Z p l e R s m args below meth c nL D cI cJ as rd kc ks Q (pc + 2) lv' st w) : Z p l e R s m args below meth c nL D cI cJ as rd kc ks Q pc lv (.ref x :: st) w :=
  by subst hl'; exact fun ls H locs hl hP hS hr => lv_astore G.1.1 G.1.2.1 hd hl.2 (zL_lt hl hn) rfl (fun ls' h' => k ls' H locs (zL_st1 (x := .ref x) hl.1 h') hP hS hr)
theorem zz_iinc (G : zok p s m args meth c cc nL own D cI cJ as) {i : Nat} {n : Int} {x v : Int32} {lv' : List (Option Value)} (hd : decode cc pc = .ok (.iinc i n, 3)) (hx : lv[i]? = some (some (.int x))) (hv : x + Int32.ofInt n = v) (hl' : zst1 lv i (.int v) = lv') (k : Z p l e R s m args below meth c nL D cI cJ as rd kc ks Q (pc + 3) lv' st w) : Z p l e R s m args below meth c nL D cI cJ as rd kc ks Q pc lv st w := by
  subst hl'
  intro ls H locs hl hP hS hr
  have h1 := zas_in as lv 0 i _ hx
  rw [Nat.zero_add] at h1
  obtain ⟨q, hq⟩ := List.getElem?_of_mem h1
  exact lv_iinc G.1.1 G.1.2.1 hd hl.2 hq hv (zL_lt hl (List.getElem?_eq_some_iff.mp hx).1) rfl (fun ls' h' => k ls' H locs (zL_st1 (x := .int v) hl.1 h') hP hS hr)
theorem zz_iadd (G : zok p s m args meth c cc nL own D cI cJ as) {x y : Int32} (hd : decode cc pc = .ok (.iadd, 1)) (k : Z p l e R s m args below meth c nL D cI cJ as rd kc ks Q (pc + 1) lv (.int (x + y) :: st) w) : Z p l e R s m args below meth c nL D cI cJ as rd kc ks Q pc lv (.int y :: .int x :: st) w :=
  fun ls H locs hl hP hS hr => lv_iadd G.1.1 G.1.2.1 hd (k ls H locs hl hP hS hr)
theorem zz_isub (G : zok p s m args meth c cc nL own D cI cJ as) {x y : Int32} (hd : decode cc pc = .ok (.isub, 1)) (k : Z p l e R s m args below meth c nL D cI cJ as rd kc ks Q (pc + 1) lv (.int (x - y) :: st) w) : Z p l e R s m args below meth c nL D cI cJ as rd kc ks Q pc lv (.int y :: .int x :: st) w :=
  fun ls H locs hl hP hS hr => lv_isub G.1.1 G.1.2.1 hd (k ls H locs hl hP hS hr)
theorem zz_imul (G : zok p s m args meth c cc nL own D cI cJ as) {x y : Int32} (hd : decode cc pc = .ok (.imul, 1)) (k : Z p l e R s m args below meth c nL D cI cJ as rd kc ks Q (pc + 1) lv (.int (x * y) :: st) w) : Z p l e R s m args below meth c nL D cI cJ as rd kc ks Q pc lv (.int y :: .int x :: st) w :=
  fun ls H locs hl hP hS hr => lv_imul G.1.1 G.1.2.1 hd (k ls H locs hl hP hS hr)
theorem zz_iand (G : zok p s m args meth c cc nL own D cI cJ as) {x y : Int32} (hd : decode cc pc = .ok (.iand, 1)) (k : Z p l e R s m args below meth c nL D cI cJ as rd kc ks Q (pc + 1) lv (.int (x &&& y) :: st) w) : Z p l e R s m args below meth c nL D cI cJ as rd kc ks Q pc lv (.int y :: .int x :: st) w :=
  fun ls H locs hl hP hS hr => lv_iand G.1.1 G.1.2.1 hd (k ls H locs hl hP hS hr)
theorem zz_ladd (G : zok p s m args meth c cc nL own D cI cJ as) {x y : Int64} (hd : decode cc pc = .ok (.ladd, 1)) (k : Z p l e R s m args below meth c nL D cI cJ as rd kc ks Q (pc + 1) lv (.long (x + y) :: st) w) : Z p l e R s m args below meth c nL D cI cJ as rd kc ks Q pc lv (.long y :: .long x :: st) w :=
  fun ls H locs hl hP hS hr => lv_ladd G.1.1 G.1.2.1 hd (k ls H locs hl hP hS hr)
theorem zz_lsub (G : zok p s m args meth c cc nL own D cI cJ as) {x y : Int64} (hd : decode cc pc = .ok (.lsub, 1)) (k : Z p l e R s m args below meth c nL D cI cJ as rd kc ks Q (pc + 1) lv (.long (x - y) :: st) w) : Z p l e R s m args below meth c nL D cI cJ as rd kc ks Q pc lv (.long y :: .long x :: st) w :=
  fun ls H locs hl hP hS hr => lv_lsub G.1.1 G.1.2.1 hd (k ls H locs hl hP hS hr)
theorem zz_lmul (G : zok p s m args meth c cc nL own D cI cJ as) {x y : Int64} (hd : decode cc pc = .ok (.lmul, 1)) (k : Z p l e R s m args below meth c nL D cI cJ as rd kc ks Q (pc + 1) lv (.long (x * y) :: st) w) : Z p l e R s m args below meth c nL D cI cJ as rd kc ks Q pc lv (.long y :: .long x :: st) w :=
  fun ls H locs hl hP hS hr => lv_lmul G.1.1 G.1.2.1 hd (k ls H locs hl hP hS hr)
theorem zz_lxor (G : zok p s m args meth c cc nL own D cI cJ as) {x y : Int64} (hd : decode cc pc = .ok (.lxor, 1)) (k : Z p l e R s m args below meth c nL D cI cJ as rd kc ks Q (pc + 1) lv (.long (x ^^^ y) :: st) w) : Z p l e R s m args below meth c nL D cI cJ as rd kc ks Q pc lv (.long y :: .long x :: st) w :=
  fun ls H locs hl hP hS hr => lv_lxor G.1.1 G.1.2.1 hd (k ls H locs hl hP hS hr)
theorem zz_ineg (G : zok p s m args meth c cc nL own D cI cJ as) {x : Int32} (hd : decode cc pc = .ok (.ineg, 1)) (k : Z p l e R s m args below meth c nL D cI cJ as rd kc ks Q (pc + 1) lv (.int (-x) :: st) w) : Z p l e R s m args below meth c nL D cI cJ as rd kc ks Q pc lv (.int x :: st) w :=
  fun ls H locs hl hP hS hr => lv_ineg G.1.1 G.1.2.1 hd (k ls H locs hl hP hS hr)
theorem zz_lushr (G : zok p s m args meth c cc nL own D cI cJ as) {x v : Int64} {y : Int32} (hd : decode cc pc = .ok (.lushr, 1)) (hv : (x.toUInt64 >>> (y.toInt64.toUInt64 &&& Int64.toUInt64 63)).toInt64 = v) (k : Z p l e R s m args below meth c nL D cI cJ as rd kc ks Q (pc + 1) lv (.long v :: st) w) : Z p l e R s m args below meth c nL D cI cJ as rd kc ks Q pc lv (.int y :: .long x :: st) w :=
  fun ls H locs hl hP hS hr => lv_lushr G.1.1 G.1.2.1 hd hv (k ls H locs hl hP hS hr)
theorem zz_i2l (G : zok p s m args meth c cc nL own D cI cJ as) {x : Int32} (hd : decode cc pc = .ok (.i2l, 1)) (k : Z p l e R s m args below meth c nL D cI cJ as rd kc ks Q (pc + 1) lv (.long x.toInt64 :: st) w) : Z p l e R s m args below meth c nL D cI cJ as rd kc ks Q pc lv (.int x :: st) w :=
  fun ls H locs hl hP hS hr => lv_i2l G.1.1 G.1.2.1 hd rfl (k ls H locs hl hP hS hr)
theorem zz_l2i (G : zok p s m args meth c cc nL own D cI cJ as) {x : Int64} (hd : decode cc pc = .ok (.l2i, 1)) (k : Z p l e R s m args below meth c nL D cI cJ as rd kc ks Q (pc + 1) lv (.int x.toInt32 :: st) w) : Z p l e R s m args below meth c nL D cI cJ as rd kc ks Q pc lv (.long x :: st) w :=
  fun ls H locs hl hP hS hr => lv_l2i G.1.1 G.1.2.1 hd rfl (k ls H locs hl hP hS hr)
theorem zz_lcmp (G : zok p s m args meth c cc nL own D cI cJ as) {x y : Int64} (hd : decode cc pc = .ok (.lcmp, 1)) (k : Z p l e R s m args below meth c nL D cI cJ as rd kc ks Q (pc + 1) lv (.int (lg_cmp x y) :: st) w) : Z p l e R s m args below meth c nL D cI cJ as rd kc ks Q pc lv (.long y :: .long x :: st) w :=
  fun ls H locs hl hP hS hr => W.lcmp G.1.1 G.1.2.1 hd (k ls H locs hl hP hS hr)
theorem zz_dupi (G : zok p s m args meth c cc nL own D cI cJ as) {x : Int32} (hd : decode cc pc = .ok (.dup, 1)) (k : Z p l e R s m args below meth c nL D cI cJ as rd kc ks Q (pc + 1) lv (.int x :: .int x :: st) w) : Z p l e R s m args below meth c nL D cI cJ as rd kc ks Q pc lv (.int x :: st) w :=
  fun ls H locs hl hP hS hr => lv_dup G.1.1 G.1.2.1 hd rfl (k ls H locs hl hP hS hr)
theorem zz_dupa (G : zok p s m args meth c cc nL own D cI cJ as) {x : Nat} (hd : decode cc pc = .ok (.dup, 1)) (k : Z p l e R s m args below meth c nL D cI cJ as rd kc ks Q (pc + 1) lv (.ref x :: .ref x :: st) w) : Z p l e R s m args below meth c nL D cI cJ as rd kc ks Q pc lv (.ref x :: st) w :=
  fun ls H locs hl hP hS hr => lv_dup G.1.1 G.1.2.1 hd rfl (k ls H locs hl hP hS hr)
theorem zz_popi (G : zok p s m args meth c cc nL own D cI cJ as) {x : Int32} (hd : decode cc pc = .ok (.pop, 1)) (k : Z p l e R s m args below meth c nL D cI cJ as rd kc ks Q (pc + 1) lv (st) w) : Z p l e R s m args below meth c nL D cI cJ as rd kc ks Q pc lv (.int x :: st) w :=
  fun ls H locs hl hP hS hr => lv_pop G.1.1 G.1.2.1 hd rfl (k ls H locs hl hP hS hr)
theorem zz_ldc2 (G : zok p s m args meth c cc nL own D cI cJ as) {idx : Nat} {v : Int64} (hd : decode cc pc = .ok (.ldc2_w idx, 3)) (hc : Jvm.Cond.constantLong own idx v ∈ Tw) (k : Z p l e R s m args below meth c nL D cI cJ as rd kc ks Q (pc + 3) lv (.long v :: st) w) : Z p l e R s m args below meth c nL D cI cJ as rd kc ks Q pc lv (st) w :=
  fun ls H locs hl hP hS hr => lv_ldc2 G.1.1 G.1.2.1 G.1.2.2.2.1 (G.2.1 _ hc) hd (k ls H locs hl hP hS hr)
theorem zz_goto (G : zok p s m args meth c cc nL own D cI cJ as) {off : Int} {tgt : Nat} (hd : decode cc pc = .ok (.goto off, 3)) (ht : (pc : Int) + off = (tgt : Int)) (k : Z p l e R s m args below meth c nL D cI cJ as rd kc ks Q tgt lv st w) : Z p l e R s m args below meth c nL D cI cJ as rd kc ks Q pc lv st w :=
  fun ls H locs hl hP hS hr => lv_goto G.1.1 G.1.2.1 hd ht (k ls H locs hl hP hS hr)
theorem zz_if_eq (G : zok p s m args meth c cc nL own D cI cJ as) {x : Int32} {off : Int} {tgt : Nat} (hd : decode cc pc = .ok (.ifCond .eq off, 3)) (ht : (pc : Int) + off = (tgt : Int)) (kt : x = 0 → Z p l e R s m args below meth c nL D cI cJ as rd kc ks Q tgt lv st w) (kf : ¬ x = 0 → Z p l e R s m args below meth c nL D cI cJ as rd kc ks Q (pc + 3) lv st w) : Z p l e R s m args below meth c nL D cI cJ as rd kc ks Q pc lv (.int x :: st) w :=
  fun ls H locs hl hP hS hr => lv_if_eq G.1.1 G.1.2.1 hd ht (fun h => kt h ls H locs hl hP hS hr) (fun h => kf h ls H locs hl hP hS hr)
theorem zz_icmp_eq (G : zok p s m args meth c cc nL own D cI cJ as) {x y : Int32} {off : Int} {tgt : Nat} (hd : decode cc pc = .ok (.if_icmp .eq off, 3)) (ht : (pc : Int) + off = (tgt : Int)) (kt : x = y → Z p l e R s m args below meth c nL D cI cJ as rd kc ks Q tgt lv st w) (kf : ¬ x = y → Z p l e R s m args below meth c nL D cI cJ as rd kc ks Q (pc + 3) lv st w) : Z p l e R s m args below meth c nL D cI cJ as rd kc ks Q pc lv (.int y :: .int x :: st) w :=
  fun ls H locs hl hP hS hr => lv_icmp_eq G.1.1 G.1.2.1 hd ht (fun h => kt h ls H locs hl hP hS hr) (fun h => kf h ls H locs hl hP hS hr)
theorem zz_if_ne (G : zok p s m args meth c cc nL own D cI cJ as) {x : Int32} {off : Int} {tgt : Nat} (hd : decode cc pc = .ok (.ifCond .ne off, 3)) (ht : (pc : Int) + off = (tgt : Int)) (kt : ¬ x = 0 → Z p l e R s m args below meth c nL D cI cJ as rd kc ks Q tgt lv st w) (kf : x = 0 → Z p l e R s m args below meth c nL D cI cJ as rd kc ks Q (pc + 3) lv st w) : Z p l e R s m args below meth c nL D cI cJ as rd kc ks Q pc lv (.int x :: st) w :=
  fun ls H locs hl hP hS hr => lv_if_ne G.1.1 G.1.2.1 hd ht (fun h => kt h ls H locs hl hP hS hr) (fun h => kf h ls H locs hl hP hS hr)
theorem zz_icmp_ne (G : zok p s m args meth c cc nL own D cI cJ as) {x y : Int32} {off : Int} {tgt : Nat} (hd : decode cc pc = .ok (.if_icmp .ne off, 3)) (ht : (pc : Int) + off = (tgt : Int)) (kt : ¬ x = y → Z p l e R s m args below meth c nL D cI cJ as rd kc ks Q tgt lv st w) (kf : x = y → Z p l e R s m args below meth c nL D cI cJ as rd kc ks Q (pc + 3) lv st w) : Z p l e R s m args below meth c nL D cI cJ as rd kc ks Q pc lv (.int y :: .int x :: st) w :=
  fun ls H locs hl hP hS hr => lv_icmp_ne G.1.1 G.1.2.1 hd ht (fun h => kt h ls H locs hl hP hS hr) (fun h => kf h ls H locs hl hP hS hr)
theorem zz_if_lt (G : zok p s m args meth c cc nL own D cI cJ as) {x : Int32} {off : Int} {tgt : Nat} (hd : decode cc pc = .ok (.ifCond .lt off, 3)) (ht : (pc : Int) + off = (tgt : Int)) (kt : x < 0 → Z p l e R s m args below meth c nL D cI cJ as rd kc ks Q tgt lv st w) (kf : ¬ x < 0 → Z p l e R s m args below meth c nL D cI cJ as rd kc ks Q (pc + 3) lv st w) : Z p l e R s m args below meth c nL D cI cJ as rd kc ks Q pc lv (.int x :: st) w :=
  fun ls H locs hl hP hS hr => lv_if_lt G.1.1 G.1.2.1 hd ht (fun h => kt h ls H locs hl hP hS hr) (fun h => kf h ls H locs hl hP hS hr)
theorem zz_icmp_lt (G : zok p s m args meth c cc nL own D cI cJ as) {x y : Int32} {off : Int} {tgt : Nat} (hd : decode cc pc = .ok (.if_icmp .lt off, 3)) (ht : (pc : Int) + off = (tgt : Int)) (kt : x < y → Z p l e R s m args below meth c nL D cI cJ as rd kc ks Q tgt lv st w) (kf : ¬ x < y → Z p l e R s m args below meth c nL D cI cJ as rd kc ks Q (pc + 3) lv st w) : Z p l e R s m args below meth c nL D cI cJ as rd kc ks Q pc lv (.int y :: .int x :: st) w :=
  fun ls H locs hl hP hS hr => lv_icmp_lt G.1.1 G.1.2.1 hd ht (fun h => kt h ls H locs hl hP hS hr) (fun h => kf h ls H locs hl hP hS hr)
theorem zz_if_ge (G : zok p s m args meth c cc nL own D cI cJ as) {x : Int32} {off : Int} {tgt : Nat} (hd : decode cc pc = .ok (.ifCond .ge off, 3)) (ht : (pc : Int) + off = (tgt : Int)) (kt : 0 ≤ x → Z p l e R s m args below meth c nL D cI cJ as rd kc ks Q tgt lv st w) (kf : ¬ 0 ≤ x → Z p l e R s m args below meth c nL D cI cJ as rd kc ks Q (pc + 3) lv st w) : Z p l e R s m args below meth c nL D cI cJ as rd kc ks Q pc lv (.int x :: st) w :=
  fun ls H locs hl hP hS hr => lv_if_ge G.1.1 G.1.2.1 hd ht (fun h => kt h ls H locs hl hP hS hr) (fun h => kf h ls H locs hl hP hS hr)
theorem zz_icmp_ge (G : zok p s m args meth c cc nL own D cI cJ as) {x y : Int32} {off : Int} {tgt : Nat} (hd : decode cc pc = .ok (.if_icmp .ge off, 3)) (ht : (pc : Int) + off = (tgt : Int)) (kt : y ≤ x → Z p l e R s m args below meth c nL D cI cJ as rd kc ks Q tgt lv st w) (kf : ¬ y ≤ x → Z p l e R s m args below meth c nL D cI cJ as rd kc ks Q (pc + 3) lv st w) : Z p l e R s m args below meth c nL D cI cJ as rd kc ks Q pc lv (.int y :: .int x :: st) w :=
  fun ls H locs hl hP hS hr => lv_icmp_ge G.1.1 G.1.2.1 hd ht (fun h => kt h ls H locs hl hP hS hr) (fun h => kf h ls H locs hl hP hS hr)
theorem zz_if_gt (G : zok p s m args meth c cc nL own D cI cJ as) {x : Int32} {off : Int} {tgt : Nat} (hd : decode cc pc = .ok (.ifCond .gt off, 3)) (ht : (pc : Int) + off = (tgt : Int)) (kt : 0 < x → Z p l e R s m args below meth c nL D cI cJ as rd kc ks Q tgt lv st w) (kf : ¬ 0 < x → Z p l e R s m args below meth c nL D cI cJ as rd kc ks Q (pc + 3) lv st w) : Z p l e R s m args below meth c nL D cI cJ as rd kc ks Q pc lv (.int x :: st) w :=
  fun ls H locs hl hP hS hr => lv_if_gt G.1.1 G.1.2.1 hd ht (fun h => kt h ls H locs hl hP hS hr) (fun h => kf h ls H locs hl hP hS hr)
theorem zz_icmp_gt (G : zok p s m args meth c cc nL own D cI cJ as) {x y : Int32} {off : Int} {tgt : Nat} (hd : decode cc pc = .ok (.if_icmp .gt off, 3)) (ht : (pc : Int) + off = (tgt : Int)) (kt : y < x → Z p l e R s m args below meth c nL D cI cJ as rd kc ks Q tgt lv st w) (kf : ¬ y < x → Z p l e R s m args below meth c nL D cI cJ as rd kc ks Q (pc + 3) lv st w) : Z p l e R s m args below meth c nL D cI cJ as rd kc ks Q pc lv (.int y :: .int x :: st) w :=
  fun ls H locs hl hP hS hr => lv_icmp_gt G.1.1 G.1.2.1 hd ht (fun h => kt h ls H locs hl hP hS hr) (fun h => kf h ls H locs hl hP hS hr)
theorem zz_if_le (G : zok p s m args meth c cc nL own D cI cJ as) {x : Int32} {off : Int} {tgt : Nat} (hd : decode cc pc = .ok (.ifCond .le off, 3)) (ht : (pc : Int) + off = (tgt : Int)) (kt : x ≤ 0 → Z p l e R s m args below meth c nL D cI cJ as rd kc ks Q tgt lv st w) (kf : ¬ x ≤ 0 → Z p l e R s m args below meth c nL D cI cJ as rd kc ks Q (pc + 3) lv st w) : Z p l e R s m args below meth c nL D cI cJ as rd kc ks Q pc lv (.int x :: st) w :=
  fun ls H locs hl hP hS hr => lv_if_le G.1.1 G.1.2.1 hd ht (fun h => kt h ls H locs hl hP hS hr) (fun h => kf h ls H locs hl hP hS hr)
theorem zz_icmp_le (G : zok p s m args meth c cc nL own D cI cJ as) {x y : Int32} {off : Int} {tgt : Nat} (hd : decode cc pc = .ok (.if_icmp .le off, 3)) (ht : (pc : Int) + off = (tgt : Int)) (kt : x ≤ y → Z p l e R s m args below meth c nL D cI cJ as rd kc ks Q tgt lv st w) (kf : ¬ x ≤ y → Z p l e R s m args below meth c nL D cI cJ as rd kc ks Q (pc + 3) lv st w) : Z p l e R s m args below meth c nL D cI cJ as rd kc ks Q pc lv (.int y :: .int x :: st) w :=
  fun ls H locs hl hP hS hr => lv_icmp_le G.1.1 G.1.2.1 hd ht (fun h => kt h ls H locs hl hP hS hr) (fun h => kf h ls H locs hl hP hS hr)
theorem zz_few {lv' : List (Option Value)} (hf : zfew lv lv') (k : Z p l e R s m args below meth c nL D cI cJ as rd kc ks Q pc lv' st w) : Z p l e R s m args below meth c nL D cI cJ as rd kc ks Q pc lv st w :=
  fun ls H locs hl hP hS hr => k ls H locs (zL_few hf hl) hP hS hr
theorem zz_eq {lv' : List (Option Value)} {st' : List Value} {w' : zW} {pc' : Nat} (h0 : pc = pc') (h1 : lv = lv') (h2 : st = st') (h3 : w = w') (k : Z p l e R s m args below meth c nL D cI cJ as rd kc ks Q pc' lv' st' w') : Z p l e R s m args below meth c nL D cI cJ as rd kc ks Q pc lv st w := by
  subst h0; subst h1; subst h2; subst h3; exact k
theorem zz_widen {kc' ks' : Nat} (h1 : kc ≤ kc') (h2 : ks ≤ ks') (k : Z p l e R s m args below meth c nL D cI cJ as rd kc' ks' Q pc lv st w) : Z p l e R s m args below meth c nL D cI cJ as rd kc ks Q pc lv st w :=
  fun ls H locs hl hP hS hr => W.widen h1 h2 (k ls H locs hl hP hS hr)
theorem zz_iald (G : zok p s m args meth c cc nL own D cI cJ as) {q n : Nat} {f : Nat → Int32} {i : Int32} {v : Int32} (hd : decode cc pc = .ok (.iaload, 1)) (hw : w[q]? = some (.inl (n, .inl f))) (hin : vp_in i n) (hv : f i.toNatClampNeg = v) (k : Z p l e R s m args below meth c nL D cI cJ as rd kc ks Q (pc + 1) lv (.int v :: st) w) : Z p l e R s m args below meth c nL D cI cJ as rd kc ks Q pc lv (.int i :: .ref q :: st) w := by
  intro ls H locs hl hP hS hr
  subst hv
  exact va_iald G.1.1 G.1.2.1 G.2.2.1 hP.2 q 0 (zat hw) rfl hin hd (k ls H locs hl hP hS hr)
theorem zz_lald (G : zok p s m args meth c cc nL own D cI cJ as) {q n : Nat} {f : Nat → Int64} {i : Int32} {v : Int64} (hd : decode cc pc = .ok (.laload, 1)) (hw : w[q]? = some (.inl (n, .inr f))) (hin : vp_in i n) (hv : f i.toNatClampNeg = v) (k : Z p l e R s m args below meth c nL D cI cJ as rd kc ks Q (pc + 1) lv (.long v :: st) w) : Z p l e R s m args below meth c nL D cI cJ as rd kc ks Q pc lv (.int i :: .ref q :: st) w := by
  intro ls H locs hl hP hS hr
  subst hv
  exact va_lald G.1.1 G.1.2.1 G.2.2.1 hP.2 q 1 (zat hw) rfl hin hd (k ls H locs hl hP hS hr)
theorem zz_iast (hrd : rd = false) (G : zok p s m args meth c cc nL own D cI cJ as) {q n : Nat} {f : Nat → Int32} {i x : Int32} {w' : zW} (hd : decode cc pc = .ok (.iastore, 1)) (hw : w[q]? = some (.inl (n, .inl f))) (hin : vp_in i n) (hw' : w.set q (.inl (n, .inl (upd f i.toNatClampNeg x))) = w') (k : Z p l e R s m args below meth c nL D cI cJ as rd kc ks Q (pc + 1) lv st w') : Z p l e R s m args below meth c nL D cI cJ as rd kc ks Q pc lv (.int x :: .int i :: .ref q :: st) w := by
  intro ls H locs hl hP hS hr
  subst hw'
  refine va_iast G.1.1 G.1.2.1 G.2.2.1 hP.2 (zD G.2.2.2.1 hP.1) hS q 0 (zat hw) rfl hin hd (fun H1 locs1 h1 h2 h3 => k ls H1 locs1 hl ⟨by rw [List.length_set]; exact hP.1, ?_⟩ h3 (fun z => by rw [hrd] at z; cases z))
  have e := zset (cI := cI) (cJ := cJ) (as := as) (w := w) (k := q) (e := .inl (n, .inl (upd f i.toNatClampNeg x)))
  rw [← e]; exact h1
theorem zz_last (hrd : rd = false) (G : zok p s m args meth c cc nL own D cI cJ as) {q n : Nat} {f : Nat → Int64} {i : Int32} {x : Int64} {w' : zW} (hd : decode cc pc = .ok (.lastore, 1)) (hw : w[q]? = some (.inl (n, .inr f))) (hin : vp_in i n) (hw' : w.set q (.inl (n, .inr (vp_updL f i.toNatClampNeg x))) = w') (k : Z p l e R s m args below meth c nL D cI cJ as rd kc ks Q (pc + 1) lv st w') : Z p l e R s m args below meth c nL D cI cJ as rd kc ks Q pc lv (.long x :: .int i :: .ref q :: st) w := by
  intro ls H locs hl hP hS hr
  subst hw'
  refine va_last G.1.1 G.1.2.1 G.2.2.1 hP.2 (zD G.2.2.2.1 hP.1) hS q 1 (zat hw) rfl hin hd (fun H1 locs1 h1 h2 h3 => k ls H1 locs1 hl ⟨by rw [List.length_set]; exact hP.1, ?_⟩ h3 (fun z => by rw [hrd] at z; cases z))
  have e := zset (cI := cI) (cJ := cJ) (as := as) (w := w) (k := q) (e := .inl (n, .inr (vp_updL f i.toNatClampNeg x)))
  rw [← e]; exact h1
theorem zz_get {ty : FieldType} {fin : Bool} (G : zok p s m args meth c cc nL own D cI cJ as) {q k ci idx : Nat} {fs : List Value} {v : Value} (hd : decode cc pc = .ok (.getfield idx, 3)) (hf : zfld own idx ci k ty fin) (hw : w[q]? = some (.inr (ci, fs))) (hv : fs[k]? = some v) (kk : Z p l e R s m args below meth c nL D cI cJ as rd kc ks Q (pc + 3) lv (v :: st) w) : Z p l e R s m args below meth c nL D cI cJ as rd kc ks Q pc lv (.ref q :: st) w := by
  intro ls H locs hl hP hS hr
  obtain ⟨C, T, N, ty0, ⟨hc, hin, -, -⟩, hk, hlink, -, -⟩ := hf
  exact va_get G.1.1 G.1.2.1 G.2.1 hin G.1.2.2.2.1 G.2.2.1 hP.2 q (zat hw) hc k hk (G.2.1 _ hlink) (fun _ h => h) (v := zv as v) (by rw [List.getElem?_map, hv]; rfl) hd (kk ls H locs hl hP hS hr)
theorem zz_put {ty : FieldType} (hrd : rd = false) (G : zok p s m args meth c cc nL own D cI cJ as) {q k ci idx : Nat} {fs : List Value} {x : Int32} {w' : zW} (hd : decode cc pc = .ok (.putfield idx, 3)) (hf : zfld own idx ci k ty false) (hn : narrow ty (.int x) = .int x) (hfit : fits ty (.int x) = true) (hw : w[q]? = some (.inr (ci, fs))) (hl0 : k < fs.length) (hw' : w.set q (.inr (ci, fs.set k (.int x))) = w') (kk : Z p l e R s m args below meth c nL D cI cJ as rd kc ks Q (pc + 3) lv st w') : Z p l e R s m args below meth c nL D cI cJ as rd kc ks Q pc lv (.int x :: .ref q :: st) w := by
  intro ls H locs hl hP hS hr
  subst hw'
  obtain ⟨C, T, N, ty0, ⟨hc, hin, hty, hnm⟩, hk, hlink, hte, hfin⟩ := hf
  refine va_put G.1.1 G.1.2.1 G.2.1 hin ty0 hty hnm G.1.2.2.2.1 G.2.2.1 hP.2 (zD G.2.2.2.1 hP.1) hS q (zat hw) hc k hk (G.2.1 _ hlink) (fun _ h => h) hfin (v := .int x) (by rw [hty k hk, hte]) hn hfit (by rw [List.length_map]; exact hl0) hd (fun H1 locs1 h1 h2 h3 => kk ls H1 locs1 hl ⟨by rw [List.length_set]; exact hP.1, ?_⟩ h3 (fun z => by rw [hrd] at z; cases z))
  have e := zset (cI := cI) (cJ := cJ) (as := as) (w := w) (k := q) (e := .inr (ci, fs.set k (.int x)))
  rw [← e]
  have e2 : zce cI cJ as (.inr (ci, fs.set k (.int x))) = .inr (ci, (fs.map (zv as)).set k (.int x)) := by
    show (Sum.inr (ci, (fs.set k (.int x)).map (zv as)) : va_E) = _
    rw [List.map_set]; rfl
  rw [e2]; exact h1
end ZI
