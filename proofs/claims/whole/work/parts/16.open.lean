/-! The class's cursor and the reference's are one list. -/
def cOpn (wd rp : Nat → Int32) (a f g t : Int32) (cv : Nat → Int32) : Nat → Nat × (Nat → Int32)
  | 0 => (0, cv)
  | v + 1 => if sSkip wd rp a f g t v then cOpn wd rp a f g t cv v else ((cOpn wd rp a f g t cv v).1 + 1, insA wd v (cOpn wd rp a f g t cv v).1 (cOpn wd rp a f g t cv v).2)
theorem cOpn_skip {wd rp : Nat → Int32} {a f g t : Int32} {cv : Nat → Int32} {v : Nat} (h : sSkip wd rp a f g t v) : cOpn wd rp a f g t cv (v + 1) = cOpn wd rp a f g t cv v := by
  show (if sSkip wd rp a f g t v then _ else _) = _
  rw [if_pos h]
theorem cOpn_take {wd rp : Nat → Int32} {a f g t : Int32} {cv : Nat → Int32} {v : Nat} (h : ¬ sSkip wd rp a f g t v) : cOpn wd rp a f g t cv (v + 1) = ((cOpn wd rp a f g t cv v).1 + 1, insA wd v (cOpn wd rp a f g t cv v).1 (cOpn wd rp a f g t cv v).2) := by
  show (if sSkip wd rp a f g t v then _ else _) = _
  rw [if_neg h]
theorem cOpn_le {wd rp : Nat → Int32} {a f g t : Int32} {cv : Nat → Int32} : ∀ v : Nat, (cOpn wd rp a f g t cv v).1 ≤ v
  | 0 => Nat.le_refl 0
  | v + 1 => by
    have ih := cOpn_le (wd := wd) (rp := rp) (a := a) (f := f) (g := g) (t := t) (cv := cv) v
    by_cases h : sSkip wd rp a f g t v
    · rw [cOpn_skip h]; omega
    · rw [cOpn_take h]
      show (cOpn wd rp a f g t cv v).1 + 1 ≤ v + 1
      omega
theorem o_live {wd rp : Nat → Int32} {n e t v : Nat} {a f g : Int32} (h : Inv wd rp n e) (ht : t ≤ n) (hv : v < t) (hs : ¬ sSkip wd rp a f g (nI t) v) : mL (fE wd) (fE wd v) t = some v := by
  have h1 := i_cur h hv ht
  by_cases q : mL (fE wd) (fE wd v) t = some v
  · exact q
  · rw [if_neg q] at h1
    exact absurd (Or.inl h1) hs
theorem cOpn_spec {wd rp : Nat → Int32} {n e t : Nat} (a f g : Int32) (cv : Nat → Int32) (h : Inv wd rp n e) (ht : t ≤ n) : ∀ v : Nat, v ≤ t →
    ∃ l : List Nat, l.length = (cOpn wd rp a f g (nI t) cv v).1 ∧ cHas (cOpn wd rp a f g (nI t) cv v).2 l ∧ l.Pairwise (kLt wd) ∧ ∀ x, x ∈ l ↔ x < v ∧ ¬ sSkip wd rp a f g (nI t) x
  | 0, _ => ⟨[], rfl, fun k w hk => by simp at hk, List.Pairwise.nil, fun x => by simp⟩
  | v + 1, hv => by
    obtain ⟨l, h1, h2, h3, h4⟩ := cOpn_spec a f g cv h ht v (by omega)
    have hn := h.1
    by_cases q : sSkip wd rp a f g (nI t) v
    · rw [cOpn_skip q]
      refine ⟨l, h1, h2, h3, fun x => ?_⟩
      rw [h4 x]
      constructor
      · rintro ⟨g1, g2⟩
        exact ⟨by omega, g2⟩
      · rintro ⟨g1, g2⟩
        by_cases e1 : x = v
        · subst e1; exact absurd q g2
        · exact ⟨by omega, g2⟩
    · rw [cOpn_take q]
      obtain ⟨l', k1, k2, k3, k4⟩ := ins_spec (wd := wd) (u := v) (l := l) (cv := (cOpn wd rp a f g (nI t) cv v).2) (fun w hw => by have := ((h4 w).mp hw).1; omega) h2 h3 (fun w hw => by
        obtain ⟨g1, g2⟩ := (h4 w).mp hw
        intro e1
        have m1 := o_live h ht (show v < t by omega) q
        have m2 := o_live h ht (show w < t by omega) g2
        rw [e1, m2] at m1
        have := Option.some.inj m1
        omega)
      rw [h1] at k1 k2
      refine ⟨l', k1, k2, k3, fun x => ?_⟩
      rw [k4 x, h4 x]
      constructor
      · rintro (rfl | ⟨g1, g2⟩)
        · exact ⟨by omega, q⟩
        · exact ⟨by omega, g2⟩
      · rintro ⟨g1, g2⟩
        by_cases e1 : x = v
        · exact Or.inl e1
        · exact Or.inr ⟨by omega, g2⟩
theorem nI_between {x : Int32} {f g : Nat} (hf : f < 2 ^ 31) (hg : g < 2 ^ 31) (h1 : ¬ x < nI f) (h2 : ¬ nI g < x) : ∃ i, f ≤ i ∧ i ≤ g ∧ x = nI i := by
  rw [Int32.lt_iff_toInt_lt, nI_toInt hf] at h1
  rw [Int32.lt_iff_toInt_lt, nI_toInt hg] at h2
  refine ⟨x.toInt.toNat, by omega, by omega, ?_⟩
  rw [← Int32.toInt_inj, nI_toInt (by omega)]
  omega
theorem o_eq {wd rp : Nat → Int32} {n e t f g : Nat} {a : Int32} {l : List Nat} (h : Inv wd rp n e) (ht : t ≤ n) (hf : f < 2 ^ 30) (hg : g < 2 ^ 30) (hs : l.Pairwise (kLt wd)) (hm : ∀ x, x ∈ l ↔ x < t ∧ ¬ sSkip wd rp a (nI f) (nI g) (nI t) x) :
    l = mOut wd a t e f (g + 1 - f) := by
  have hn := h.1
  have he := h.2.1
  have hs2 : (mOut wd a t e f (g + 1 - f)).Pairwise (kLt wd) := by
    have := mOut_sorted (wd := wd) (a := a) (t := t) (e := e) (f := f) (by omega) 0 (by omega) (g + 1 - f) (by omega)
    simpa [mIn] using this
  refine m_sorted (kLt_irr wd) (kLt_tr wd) l _ hs hs2 (fun x => ?_)
  rw [hm x, mOut_mem]
  constructor
  · rintro ⟨g1, g2⟩
    have hl := o_live h ht g1 g2
    obtain ⟨j, j1, j2⟩ := h.2.2.1 x (by omega)
    rw [j2] at hl
    obtain ⟨i, i1, i2, i3⟩ := nI_between (by omega) (by omega) (fun z => g2 (Or.inr (Or.inr (Or.inr (Or.inl z))))) (fun z => g2 (Or.inr (Or.inr (Or.inr (Or.inr z)))))
    refine ⟨i - f, by omega, (mIn_mem e).mpr ⟨j, j1, mTake_mem.mpr ⟨hl, fun z => g2 (Or.inr (Or.inl z)), fun z => g2 (Or.inr (Or.inr (Or.inl z))), ?_⟩⟩⟩
    rw [i3, show f + (i - f) = i by omega]
  · rintro ⟨i, i1, i2⟩
    obtain ⟨j, j1, j2⟩ := (mIn_mem e).mp i2
    obtain ⟨g1, g2, g3, g4⟩ := mTake_mem.mp j2
    obtain ⟨v1, v2⟩ := mL_lt t g1
    refine ⟨v1, ?_⟩
    have hcur := i_cur h v1 ht
    rw [v2, show mL (fE wd) (nI j) t = some x from g1, if_pos rfl] at hcur
    rintro (z | z | z | z | z)
    · rw [z] at hcur
      exact absurd hcur (by decide)
    · exact g2 z
    · exact g3 z
    · rw [g4] at z
      exact absurd z (nI_nlt (by omega) (by omega))
    · rw [g4] at z
      exact absurd z (nI_nlt (by omega) (by omega))
