/-! The cursor: the class inserts versions in order of day and entry, the reference walks the days, then the entries. -/
def kLt (wd : Nat → Int32) (u v : Nat) : Prop := wd (6 * u + 5) < wd (6 * v + 5) ∨ (wd (6 * u + 5) = wd (6 * v + 5) ∧ fE wd u < fE wd v)
def sCmp (x y : Int32) : Int32 := if x < y then -1 else if x = y then 0 else 1
def sBfr (wd : Nat → Int32) (u v : Nat) : Int32 := if wd (6 * u + 5) < wd (6 * v + 5) then 1 else if wd (6 * u + 5) = wd (6 * v + 5) then (if wd (6 * u + 1) < wd (6 * v + 1) then 1 else 0) else 0
theorem i32_irr (a : Int32) : ¬ a < a := by
  rw [Int32.lt_iff_toInt_lt]; omega
theorem i32_tr {a b c : Int32} (h1 : a < b) (h2 : b < c) : a < c := by
  rw [Int32.lt_iff_toInt_lt] at *; omega
theorem i32_tri (a b : Int32) : a < b ∨ a = b ∨ b < a := by
  rcases Int.lt_trichotomy a.toInt b.toInt with h | h | h
  · exact Or.inl (Int32.lt_iff_toInt_lt.mpr h)
  · exact Or.inr (Or.inl (Int32.toInt_inj.mp h))
  · exact Or.inr (Or.inr (Int32.lt_iff_toInt_lt.mpr h))
theorem kLt_irr (wd : Nat → Int32) (u : Nat) : ¬ kLt wd u u := by
  rintro (h | ⟨-, h⟩)
  · exact i32_irr _ h
  · exact i32_irr _ h
theorem kLt_tr (wd : Nat → Int32) (u v x : Nat) (h1 : kLt wd u v) (h2 : kLt wd v x) : kLt wd u x := by
  rcases h1 with h1 | ⟨e1, h1⟩ <;> rcases h2 with h2 | ⟨e2, h2⟩
  · exact Or.inl (i32_tr h1 h2)
  · exact Or.inl (e2 ▸ h1)
  · exact Or.inl (e1 ▸ h2)
  · exact Or.inr ⟨e1.trans e2, i32_tr h1 h2⟩
theorem kLt_tri {wd : Nat → Int32} {u v : Nat} (h : fE wd u ≠ fE wd v) (h2 : ¬ kLt wd u v) : kLt wd v u := by
  rcases i32_tri (wd (6 * u + 5)) (wd (6 * v + 5)) with g | g | g
  · exact absurd (Or.inl g) h2
  · rcases i32_tri (fE wd u) (fE wd v) with z | z | z
    · exact absurd (Or.inr ⟨g, z⟩) h2
    · exact absurd z h
    · exact Or.inr ⟨g.symm, z⟩
  · exact Or.inl g
theorem sBfr_iff (wd : Nat → Int32) (u v : Nat) : sBfr wd u v = 0 ↔ ¬ kLt wd u v := by
  unfold sBfr kLt fE
  by_cases h1 : wd (6 * u + 5) < wd (6 * v + 5)
  · simp [h1]
  · by_cases h2 : wd (6 * u + 5) = wd (6 * v + 5)
    · by_cases h3 : wd (6 * u + 1) < wd (6 * v + 1)
      · simp [h1, h2, h3]
      · simp [h1, h2, h3]
    · simp [h1, h2]
/-- the class's insertion: places are moved up as long as the new version comes before -/
def insL (wd : Nat → Int32) (u : Nat) : Nat → (Nat → Int32) → Nat × (Nat → Int32)
  | 0, cv => (0, cv)
  | p + 1, cv => if sBfr wd u (cv p).toNatClampNeg = 0 then (p + 1, cv) else insL wd u p (upd cv (p + 1) (cv p))
def insA (wd : Nat → Int32) (u s : Nat) (cv : Nat → Int32) : Nat → Int32 := upd (insL wd u s cv).2 (insL wd u s cv).1 (nI u)
def cHas (cv : Nat → Int32) (l : List Nat) : Prop := ∀ k w, l[k]? = some w → cv k = nI w
theorem insL_spec (wd : Nat → Int32) (u : Nat) (l : List Nat) (hl : ∀ w ∈ l, w < 64) : ∀ (p : Nat) (cv : Nat → Int32), p ≤ l.length →
    (∀ k w, k < p → l[k]? = some w → cv k = nI w) → (∀ k w, p ≤ k → l[k]? = some w → cv (k + 1) = nI w ∧ kLt wd u w) →
    (insL wd u p cv).1 ≤ l.length ∧ (∀ k w, k < (insL wd u p cv).1 → l[k]? = some w → (insL wd u p cv).2 k = nI w) ∧
      (∀ k w, (insL wd u p cv).1 ≤ k → l[k]? = some w → (insL wd u p cv).2 (k + 1) = nI w ∧ kLt wd u w) ∧
      (∀ k w, k + 1 = (insL wd u p cv).1 → l[k]? = some w → ¬ kLt wd u w)
  | 0, cv, hp, h1, h2 => ⟨hp, h1, h2, fun k w hk _ => absurd hk (Nat.succ_ne_zero k)⟩
  | p + 1, cv, hp, h1, h2 => by
    have hpl : p < l.length := by omega
    have hget : l[p]? = some l[p] := List.getElem?_eq_getElem hpl
    have hcv : cv p = nI l[p] := h1 p _ (by omega) hget
    have hlt : l[p] < 64 := hl _ (List.getElem_mem hpl)
    have hcl : (cv p).toNatClampNeg = l[p] := by rw [hcv]; exact nI_clamp (by omega)
    by_cases q : sBfr wd u (cv p).toNatClampNeg = 0
    · have e1 : insL wd u (p + 1) cv = (p + 1, cv) := by
        show (if sBfr wd u (cv p).toNatClampNeg = 0 then (p + 1, cv) else _) = _
        rw [if_pos q]
      rw [e1]
      refine ⟨hp, h1, h2, fun k w hk hw => ?_⟩
      have : k = p := by
        have : k + 1 = p + 1 := hk
        omega
      subst this
      rw [hget] at hw
      cases hw
      rw [hcl] at q
      exact (sBfr_iff wd u _).mp q
    · have e1 : insL wd u (p + 1) cv = insL wd u p (upd cv (p + 1) (cv p)) := by
        show (if sBfr wd u (cv p).toNatClampNeg = 0 then (p + 1, cv) else _) = _
        rw [if_neg q]
      rw [e1]
      refine insL_spec wd u l hl p _ (by omega) (fun k w hk hw => ?_) (fun k w hk hw => ?_)
      · rw [show upd cv (p + 1) (cv p) k = cv k from if_neg (by omega)]
        exact h1 k w (by omega) hw
      · by_cases z : k = p
        · subst z
          rw [hget] at hw
          cases hw
          refine ⟨by rw [show upd cv (k + 1) (cv k) (k + 1) = cv k from if_pos rfl]; exact hcv, ?_⟩
          rw [hcl] at q
          exact Classical.byContradiction fun z2 => q ((sBfr_iff wd u _).mpr z2)
        · rw [show upd cv (p + 1) (cv p) (k + 1) = cv (k + 1) from if_neg (by omega)]
          exact h2 k w (by omega) hw
theorem ins_spec {wd : Nat → Int32} {u : Nat} {l : List Nat} {cv : Nat → Int32} (hl : ∀ w ∈ l, w < 64) (hc : cHas cv l) (hs : l.Pairwise (kLt wd)) (hd : ∀ w ∈ l, fE wd u ≠ fE wd w) :
    ∃ l' : List Nat, l'.length = l.length + 1 ∧ cHas (insA wd u l.length cv) l' ∧ l'.Pairwise (kLt wd) ∧ ∀ x, x ∈ l' ↔ x = u ∨ x ∈ l := by
  obtain ⟨g1, g2, g3, g4⟩ := insL_spec wd u l hl l.length cv (Nat.le_refl _) (fun k w _ hw => hc k w hw) (fun k w hk hw => by
    have := (List.getElem?_eq_some_iff.mp hw).1
    omega)
  generalize hq : (insL wd u l.length cv).1 = q at g1 g2 g3 g4
  have hA : insA wd u l.length cv = upd (insL wd u l.length cv).2 q (nI u) := by unfold insA; rw [hq]
  generalize hcv : (insL wd u l.length cv).2 = cv' at g2 g3 hA
  have before : ∀ w ∈ l.take q, kLt wd w u := by
    intro w hw
    obtain ⟨k, hk⟩ := List.getElem?_of_mem hw
    rw [List.getElem?_take] at hk
    split at hk
    · rename_i hkq
      have hq1 : q - 1 < l.length := by omega
      have hlast : l[q - 1]? = some l[q - 1] := List.getElem?_eq_getElem hq1
      have hnot := g4 (q - 1) _ (by omega) hlast
      have hz : kLt wd l[q - 1] u := kLt_tri (hd _ (List.getElem_mem hq1)) hnot
      by_cases e : k = q - 1
      · subst e
        rw [hlast] at hk
        cases hk
        exact hz
      · have hkl : k < l.length := (List.getElem?_eq_some_iff.mp hk).1
        have e2 : l[k] = w := (List.getElem?_eq_some_iff.mp hk).2
        have := List.pairwise_iff_getElem.mp hs k (q - 1) hkl hq1 (by omega)
        rw [e2] at this
        exact kLt_tr wd _ _ _ this hz
    · cases hk
  have after : ∀ w ∈ l.drop q, kLt wd u w := by
    intro w hw
    obtain ⟨k, hk⟩ := List.getElem?_of_mem hw
    rw [List.getElem?_drop] at hk
    exact (g3 (q + k) w (by omega) hk).2
  refine ⟨l.take q ++ u :: l.drop q, ?_, fun k w hk => ?_, ?_, fun x => ?_⟩
  · simp only [List.length_append, List.length_cons, List.length_take, List.length_drop]
    omega
  · rw [hA]
    have ht : (l.take q).length = q := by rw [List.length_take]; omega
    by_cases h1 : k < q
    · rw [List.getElem?_append_left (by omega), List.getElem?_take, if_pos h1] at hk
      rw [show upd cv' q (nI u) k = cv' k from if_neg (by omega)]
      exact g2 k w h1 hk
    · rw [List.getElem?_append_right (by omega), ht] at hk
      by_cases h2 : k = q
      · subst h2
        rw [Nat.sub_self] at hk
        have : u = w := by simpa using hk
        subst this
        exact if_pos rfl
      · obtain ⟨z, hz⟩ : ∃ z, k - q = z + 1 := ⟨k - q - 1, by omega⟩
        rw [hz, List.getElem?_cons_succ, List.getElem?_drop] at hk
        have h3 := (g3 (q + z) w (by omega) hk).1
        rw [show upd cv' q (nI u) k = cv' k from if_neg h2, show k = q + z + 1 by omega]
        exact h3
  · refine List.pairwise_append.mpr ⟨hs.sublist (List.take_sublist q l), List.pairwise_cons.mpr ⟨after, hs.sublist (List.drop_sublist q l)⟩, fun a ha b hb => ?_⟩
    rcases List.mem_cons.mp hb with rfl | hb
    · exact before a ha
    · exact kLt_tr wd _ _ _ (before a ha) (after b hb)
  · constructor
    · intro h
      rcases List.mem_append.mp h with h | h
      · exact Or.inr (List.mem_of_mem_take h)
      · rcases List.mem_cons.mp h with h | h
        · exact Or.inl h
        · exact Or.inr (List.mem_of_mem_drop h)
    · intro h
      rcases h with h | h
      · subst h
        exact List.mem_append_right _ List.mem_cons_self
      · rw [← List.take_append_drop q l] at h
        rcases List.mem_append.mp h with h | h
        · exact List.mem_append_left _ h
        · exact List.mem_append_right _ (List.mem_cons_of_mem _ h)
/-- which versions the class's cursor takes -/
abbrev sSkip (wd rp : Nat → Int32) (a f g t : Int32) (v : Nat) : Prop := sCur rp v t = 0 ∨ wd (6 * v + 0) = 2 ∨ sTouch wd v a = 0 ∨ wd (6 * v + 5) < f ∨ g < wd (6 * v + 5)
/-- an array whose first places hold a list -/
def aPut (f : Nat → Int32) (l : List Int32) : Nat → Int32 := fun k => (l[k]?).getD (f k)
theorem aPut_nil (f : Nat → Int32) : aPut f [] = f := by
  funext k
  simp [aPut]
theorem aPut_app (f : Nat → Int32) (l : List Int32) (x : Int32) : upd (aPut f l) l.length x = aPut f (l ++ [x]) := by
  funext k
  unfold upd aPut
  by_cases h : k = l.length
  · subst h
    simp
  · rw [if_neg h]
    by_cases h2 : k < l.length
    · rw [List.getElem?_append_left h2]
    · rw [List.getElem?_append_right (by omega), List.getElem?_eq_none (by omega)]
      obtain ⟨z, hz⟩ : ∃ z, k - l.length = z + 1 := ⟨k - l.length - 1, by omega⟩
      rw [hz]
      simp
/-- the reference's list of versions: of one day, entries 0 to j - 1; of the days from f on, k of them -/
def mTake (wd : Nat → Int32) (a y : Int32) (t j : Nat) : List Nat := match sLast wd (nI j) t with
  | none => []
  | some v => if wd (6 * v + 0) = 2 then [] else if sTouch wd v a = 0 then [] else if wd (6 * v + 5) = y then [v] else []
def mIn (wd : Nat → Int32) (a y : Int32) (t : Nat) : Nat → List Nat
  | 0 => []
  | j + 1 => mIn wd a y t j ++ mTake wd a y t j
def mOut (wd : Nat → Int32) (a : Int32) (t e f : Nat) : Nat → List Nat
  | 0 => []
  | k + 1 => mOut wd a t e f k ++ mIn wd a (nI (f + k)) t e
theorem mTake_mem {wd : Nat → Int32} {a y : Int32} {t j v : Nat} : v ∈ mTake wd a y t j ↔ sLast wd (nI j) t = some v ∧ wd (6 * v + 0) ≠ 2 ∧ sTouch wd v a ≠ 0 ∧ wd (6 * v + 5) = y := by
  unfold mTake
  cases h : sLast wd (nI j) t with
  | none => simp
  | some u =>
    simp only
    by_cases h1 : wd (6 * u + 0) = 2
    · rw [if_pos h1]
      constructor
      · intro z; cases z
      · rintro ⟨e, z, -⟩
        cases e
        exact absurd h1 z
    · rw [if_neg h1]
      by_cases h2 : sTouch wd u a = 0
      · rw [if_pos h2]
        constructor
        · intro z; cases z
        · rintro ⟨e, -, z, -⟩
          cases e
          exact absurd h2 z
      · rw [if_neg h2]
        by_cases h3 : wd (6 * u + 5) = y
        · rw [if_pos h3]
          constructor
          · intro z
            rw [List.mem_singleton] at z
            subst z
            exact ⟨rfl, h1, h2, h3⟩
          · rintro ⟨e, -⟩
            cases e
            exact List.mem_singleton.mpr rfl
        · rw [if_neg h3]
          constructor
          · intro z; cases z
          · rintro ⟨e, -, -, z⟩
            cases e
            exact absurd z h3
theorem mIn_mem {wd : Nat → Int32} {a y : Int32} {t v : Nat} : ∀ j : Nat, v ∈ mIn wd a y t j ↔ ∃ i, i < j ∧ v ∈ mTake wd a y t i
  | 0 => by simp [mIn]
  | j + 1 => by
    rw [show mIn wd a y t (j + 1) = mIn wd a y t j ++ mTake wd a y t j from rfl, List.mem_append, mIn_mem j]
    constructor
    · rintro (⟨i, h1, h2⟩ | h)
      · exact ⟨i, by omega, h2⟩
      · exact ⟨j, by omega, h⟩
    · rintro ⟨i, h1, h2⟩
      by_cases e : i = j
      · subst e; exact Or.inr h2
      · exact Or.inl ⟨i, by omega, h2⟩
theorem mOut_mem {wd : Nat → Int32} {a : Int32} {t e f v : Nat} : ∀ k : Nat, v ∈ mOut wd a t e f k ↔ ∃ i, i < k ∧ v ∈ mIn wd a (nI (f + i)) t e
  | 0 => by simp [mOut]
  | k + 1 => by
    rw [show mOut wd a t e f (k + 1) = mOut wd a t e f k ++ mIn wd a (nI (f + k)) t e from rfl, List.mem_append, mOut_mem k]
    constructor
    · rintro (⟨i, h1, h2⟩ | h)
      · exact ⟨i, by omega, h2⟩
      · exact ⟨k, by omega, h⟩
    · rintro ⟨i, h1, h2⟩
      by_cases z : i = k
      · subst z; exact Or.inr h2
      · exact Or.inl ⟨i, by omega, h2⟩
theorem mTake_sorted {wd : Nat → Int32} {a y : Int32} {t j : Nat} : (mTake wd a y t j).Pairwise (kLt wd) := by
  unfold mTake
  cases sLast wd (nI j) t with
  | none => exact List.Pairwise.nil
  | some v =>
    simp only
    split
    · exact List.Pairwise.nil
    · split
      · exact List.Pairwise.nil
      · split
        · exact List.pairwise_singleton _ _
        · exact List.Pairwise.nil
theorem mIn_sorted {wd : Nat → Int32} {a y : Int32} {t : Nat} : ∀ j : Nat, j < 2 ^ 31 → (mIn wd a y t j).Pairwise (kLt wd)
  | 0, _ => List.Pairwise.nil
  | j + 1, hj => by
    refine List.pairwise_append.mpr ⟨mIn_sorted j (by omega), mTake_sorted, fun x hx z hz => ?_⟩
    obtain ⟨i, h1, h2⟩ := (mIn_mem j).mp hx
    obtain ⟨g1, -, -, g4⟩ := mTake_mem.mp h2
    obtain ⟨k1, -, -, k4⟩ := mTake_mem.mp hz
    refine Or.inr ⟨g4.trans k4.symm, ?_⟩
    rw [(mL_lt t g1).2, (mL_lt t k1).2]
    exact nI_lt h1 (by omega)
theorem mOut_sorted {wd : Nat → Int32} {a : Int32} {t e f : Nat} (he : e < 2 ^ 31) (j : Nat) (hj : j ≤ e) : ∀ k : Nat, f + k < 2 ^ 31 → (mOut wd a t e f k ++ mIn wd a (nI (f + k)) t j).Pairwise (kLt wd)
  | 0, _ => by
    show ([] ++ mIn wd a (nI (f + 0)) t j).Pairwise (kLt wd)
    rw [List.nil_append]
    exact mIn_sorted j (by omega)
  | k + 1, hk => by
    have ih := mOut_sorted (wd := wd) (a := a) (t := t) (f := f) he e (Nat.le_refl e) k (by omega)
    refine List.pairwise_append.mpr ⟨ih, mIn_sorted j (by omega), fun x hx z hz => ?_⟩
    obtain ⟨i, h1, h2⟩ := (mOut_mem (k + 1)).mp hx
    obtain ⟨i2, h3, h4⟩ := (mIn_mem e).mp h2
    obtain ⟨i3, h5, h6⟩ := (mIn_mem j).mp hz
    obtain ⟨-, -, -, g4⟩ := mTake_mem.mp h4
    obtain ⟨-, -, -, k4⟩ := mTake_mem.mp h6
    refine Or.inl ?_
    rw [g4, k4]
    exact nI_lt (by omega) hk
/-- a list without repetition, below n, has at most n members -/
theorem nd_len : ∀ (n : Nat) (l : List Nat), l.Nodup → (∀ x ∈ l, x < n) → l.length ≤ n
  | 0, l, _, h => by
    cases l with
    | nil => exact Nat.le_refl 0
    | cons a l => exact absurd (h a List.mem_cons_self) (Nat.not_lt_zero a)
  | n + 1, l, hd, h => by
    by_cases hm : n ∈ l
    · have h1 := nd_len n (l.erase n) (hd.erase n) (fun x hx => by
        have h2 := (List.Nodup.mem_erase_iff hd).mp hx
        have h3 := h x h2.2
        have h4 := h2.1
        omega)
      rw [List.length_erase_of_mem hm] at h1
      omega
    · have h1 := nd_len n l hd (fun x hx => by
        have h3 := h x hx
        have h4 : x ≠ n := fun e => hm (e ▸ hx)
        omega)
      omega
theorem mOut_len {wd : Nat → Int32} {a : Int32} {t e f j k : Nat} (he : e < 2 ^ 31) (hj : j ≤ e) (hk : f + k < 2 ^ 31) (ht : t ≤ 64) : (mOut wd a t e f k ++ mIn wd a (nI (f + k)) t j).length ≤ 64 := by
  have hs := mOut_sorted (wd := wd) (a := a) (t := t) (f := f) he j hj k hk
  refine Nat.le_trans (nd_len t _ (hs.imp (fun {x y} h (e : x = y) => by subst e; exact kLt_irr wd x h)) (fun x hx => ?_)) ht
  rcases List.mem_append.mp hx with hx | hx
  · obtain ⟨i, -, h2⟩ := (mOut_mem k).mp hx
    obtain ⟨i2, -, h4⟩ := (mIn_mem e).mp h2
    exact (mL_lt t (mTake_mem.mp h4).1).1
  · obtain ⟨i2, -, h4⟩ := (mIn_mem j).mp hx
    exact (mL_lt t (mTake_mem.mp h4).1).1
