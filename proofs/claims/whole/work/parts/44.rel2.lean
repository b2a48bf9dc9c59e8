/-! The relation, kept by the cursor's calls, field, entries, tamper. -/
section Mts2
variable {n e p : Nat} {l : List Nat} {x : XS} {m : MS}
theorem mt_open (h : RelN n e p l x m) (a f g it : Int32) : Mt ["java/lang/IllegalStateException", "java/lang/IllegalArgumentException"] x m (fun m0 o => rOpen x m0 o a f g it) (fun x0 o => qOpen x0 m o e a f g it) := by
  have hR : Rel x m := ⟨n, e, p, l, h⟩
  obtain ⟨⟨hn, he, hvc, hec, hcl, hen⟩, ⟨htm, hw, hk, hI⟩, -, -, -⟩ := h
  by_cases ht : fx_tam x = 0
  · have ht2 : fm_touched m = 0 := by rw [← htm]; exact ht
    have hI' := hI ht
    by_cases h1 : sAcc a = 0
    · exact mt_no hR 1 _ 2 rfl rfl (fun m0 o => by simp only [rOpen]; rw [if_pos ht, if_pos h1]; rfl) (fun x0 o => by simp only [qOpen]; rw [if_pos ht2, if_pos h1])
    by_cases h2 : sDay f = 0
    · exact mt_no hR 1 _ 2 rfl rfl (fun m0 o => by simp only [rOpen]; rw [if_pos ht, if_neg h1, if_pos h2]; rfl) (fun x0 o => by simp only [qOpen]; rw [if_pos ht2, if_neg h1, if_pos h2])
    by_cases h4 : sDay g = 0
    · exact mt_no hR 1 _ 2 rfl rfl (fun m0 o => by simp only [rOpen]; rw [if_pos ht, if_neg h1, if_neg h2, if_pos h4]; rfl) (fun x0 o => by simp only [qOpen]; rw [if_pos ht2, if_neg h1, if_neg h2, if_pos h4])
    by_cases h3 : sTime (nI n) it = 0
    · exact mt_no hR 1 _ 2 rfl rfl (fun m0 o => by simp only [rOpen]; rw [if_pos ht, if_neg h1, if_neg h2, if_neg h4, hvc, if_pos h3]; rfl) (fun x0 o => by simp only [qOpen]; rw [if_pos ht2, if_neg h1, if_neg h2, if_neg h4, hcl, if_pos h3])
    obtain ⟨t, ht3, rfl⟩ := sTime_of hn h3
    obtain ⟨f, hf, rfl⟩ := sDay_of h2
    obtain ⟨g, hg, rfl⟩ := sDay_of h4
    obtain ⟨lc, l1, l2, l3, l4⟩ := cOpn_spec a (nI f) (nI g) (fx_cur x) hI' ht3 t (Nat.le_refl t)
    have hle := cOpn_le (wd := fx_words x) (rp := fx_rep x) (a := a) (f := nI f) (g := nI g) (t := nI t) (cv := fx_cur x) t
    have heq : lc = mOut (fm_words m) a t e f (g + 1 - f) := by
      rw [← hw]
      exact o_eq hI' ht3 (by omega) (by omega) l3 l4
    refine mt_ok (nI lc.length) (x1 := xOpn x a (nI f) (nI g) (nI t) t) (m1 := mOpn m a lc) (fun m0 o => ?_) (fun x0 o => ?_) rfl ?_
    · simp only [rOpen]
      rw [if_pos ht, if_neg h1, if_neg h2, if_neg h4, hvc, if_neg h3, nI_clamp (show t < 2 ^ 31 by omega), l1]
    · simp only [qOpen]
      rw [if_pos ht2, if_neg h1, if_neg h2, if_neg h4, hcl, if_neg h3, nI_clamp (show t < 2 ^ 31 by omega), nI_clamp (show f < 2 ^ 31 by omega), nI_clamp (show g < 2 ^ 31 by omega), ← heq]
    · refine ⟨n, e, 0, lc, ⟨hn, he, hvc, hec, hcl, hen⟩, ⟨htm, hw, hk, hI⟩, ⟨by omega, Nat.zero_le _, fun u hu => ?_, ?_, l2, rfl, rfl, rfl⟩, Or.inl ⟨rfl, rfl⟩, fun _ k u hu => ?_⟩
      · have := ((l4 u).mp hu).1
        omega
      · show nI (cOpn (fx_words x) (fx_rep x) a (nI f) (nI g) (nI t) (fx_cur x) t).1 = nI lc.length
        rw [l1]
      · have hs := ((l4 u).mp (List.mem_of_getElem? hu)).2
        refine ⟨?_, ?_, fun z => hs (Or.inr (Or.inr (Or.inl z)))⟩
        · show aPut (fm_list m) (lc.map (fE (fm_words m))) k = fE (fx_words x) u
          unfold aPut
          rw [List.getElem?_map, hu, hw]
          rfl
        · show aPut (fm_puts m) (lc.map (sPut (fm_words m) a)) k = sPut (fx_words x) a u
          unfold aPut
          rw [List.getElem?_map, hu, hw]
          rfl
  · have ht2 : ¬ fm_touched m = 0 := by rw [← htm]; exact ht
    exact mt_no hR 0 _ 1 rfl rfl (fun m0 o => by simp only [rOpen]; rw [if_neg ht]; rfl) (fun x0 o => by simp only [qOpen]; rw [if_neg ht2])
theorem mt_next (h : RelN n e p l x m) : Mt ["java/lang/IllegalStateException"] x m (fun m0 o => rNext x m0 o) (fun x0 o => qNext x0 m o) := by
  have hR : Rel x m := ⟨n, e, p, l, h⟩
  obtain ⟨hA, ⟨htm, hw, hk, hI⟩, ⟨hl64, hpl, hln, hsz, hch, hpc, hct, hat⟩, hlast, hcur⟩ := h
  have hn := hA.1
  by_cases ht : fx_tam x = 0
  · have ht2 : fm_touched m = 0 := by rw [← htm]; exact ht
    by_cases hp : p < l.length
    · have hu : l[p]? = some l[p] := List.getElem?_eq_getElem hp
      generalize l[p] = u at hu
      have hu64 : u < n := hln u (List.mem_of_getElem? hu)
      have hcu : fx_cur x p = nI u := hch p u hu
      have e1 : (fx_place x).toNatClampNeg = p := by rw [hpc]; exact nI_clamp (by omega)
      have e2 : (fm_at m + 1 - 1).toNatClampNeg = p := by rw [hat, ← nI_succ, nI_pred]; exact nI_clamp (by omega)
      have c1 : fx_place x < fx_size x := by rw [hpc, hsz]; exact nI_lt hp (by omega)
      have c2 : ¬ fm_count m ≤ fm_at m := by rw [hct, hat]; exact nI_ge hp (by omega)
      obtain ⟨g1, g2, g3⟩ := hcur ht p u hu
      refine mt_ok (fE (fx_words x) u) (x1 := sx_place (sx_last x (nI u)) (nI (p + 1))) (m1 := sm_at (sm_ans (sm_code m 0) 1) (nI (p + 1))) (fun m0 o => ?_) (fun x0 o => ?_) rfl ?_
      · simp only [rNext]
        rw [if_pos ht, if_pos c1, e1, hcu, nI_clamp (show u < 2 ^ 31 by omega), hpc, ← nI_succ]
        rfl
      · simp only [qNext]
        rw [if_pos ht2, if_neg c2, e2, g1, hat, ← nI_succ]
      · exact ⟨n, e, p + 1, l, hA, ⟨htm, hw, hk, hI⟩, ⟨hl64, hp, hln, hsz, hch, rfl, hct, rfl⟩, Or.inr ⟨p, u, rfl, hu, (by decide : ¬ (1 : Int32) = 0), rfl⟩, hcur⟩
    · have c1 : ¬ fx_place x < fx_size x := by rw [hpc, hsz]; exact nI_nlt (by omega) (by omega)
      have c2 : fm_count m ≤ fm_at m := by rw [hct, hat]; exact nI_le (by omega) (by omega)
      refine mt_ok (-1) (x1 := sx_last x (-1)) (m1 := sm_at (sm_ans (sm_code m 0) 0) (fm_at m)) (fun m0 o => ?_) (fun x0 o => ?_) rfl ?_
      · simp only [rNext]
        rw [if_pos ht, if_neg c1]
      · simp only [qNext]
        rw [if_pos ht2, if_pos c2]
      · exact ⟨n, e, p, l, hA, ⟨htm, hw, hk, hI⟩, ⟨hl64, hpl, hln, hsz, hch, hpc, hct, hat⟩, Or.inl ⟨rfl, rfl⟩, hcur⟩
  · have ht2 : ¬ fm_touched m = 0 := by rw [← htm]; exact ht
    exact mt_no hR 0 _ 1 rfl rfl (fun m0 o => by simp only [rNext]; rw [if_neg ht]; rfl) (fun x0 o => by simp only [qNext]; rw [if_neg ht2])
theorem moved_put {wd : Nat → Int32} {u : Nat} {a : Int32} (h : ¬ sTouch wd u a = 0) : sMoved wd u a = sPut wd a u := by
  unfold sTouch at h
  unfold sMoved sPut
  by_cases h1 : wd (6 * u + 2) = a
  · rw [if_pos h1, if_pos h1]
  · rw [if_neg h1] at h
    rw [if_neg h1, if_neg h1]
    by_cases h2 : wd (6 * u + 3) = a
    · rw [if_pos h2]
    · rw [if_neg h2] at h
      exact absurd rfl h
theorem mt_moved (h : RelN n e p l x m) : Mt ["java/lang/IllegalStateException"] x m (fun m0 o => rMoved x m0 o) (fun x0 o => qMoved x0 m o) := by
  have hR : Rel x m := ⟨n, e, p, l, h⟩
  obtain ⟨hA, ⟨htm, hw, hk, hI⟩, ⟨hl64, hpl, hln, hsz, hch, hpc, hct, hat⟩, hlast, hcur⟩ := h
  have hn := hA.1
  by_cases ht : fx_tam x = 0
  · have ht2 : fm_touched m = 0 := by rw [← htm]; exact ht
    rcases hlast with ⟨a1, a2⟩ | ⟨k, u, b1, b2, b3, b4⟩
    · refine mt_ok 0 (x1 := x) (m1 := sm_code m 0) (fun m0 o => ?_) (fun x0 o => ?_) rfl (rel_code hR 0)
      · simp only [rMoved]
        rw [if_pos ht, if_pos a1]
      · simp only [qMoved]
        rw [if_pos ht2, if_pos a2]
        rfl
    · have hu : u < n := hln u (List.mem_of_getElem? b2)
      obtain ⟨g1, g2, g3⟩ := hcur ht k u b2
      refine mt_ok (sPut (fx_words x) (fx_acct x) u) (x1 := x) (m1 := sm_code m 0) (fun m0 o => ?_) (fun x0 o => ?_) rfl (rel_code hR 0)
      · simp only [rMoved]
        rw [if_pos ht, if_neg (by rw [b4]; exact nI_m1 (by omega)), b4, nI_clamp (show u < 2 ^ 31 by omega), moved_put g3]
      · simp only [qMoved]
        rw [if_pos ht2, if_neg b3, hat, b1, nI_pred, nI_clamp (show k < 2 ^ 31 by omega), g2]
  · have ht2 : ¬ fm_touched m = 0 := by rw [← htm]; exact ht
    exact mt_no hR 0 _ 1 rfl rfl (fun m0 o => by simp only [rMoved]; rw [if_neg ht]; rfl) (fun x0 o => by simp only [qMoved]; rw [if_neg ht2])
theorem last_out {wd rp : Nat → Int32} (hI : Inv wd rp n e) {en : Int32} {t : Nat} (ht : t ≤ n) (h : en < 0 ∨ nI e ≤ en) : sLast wd en t = none := by
  have hn := hI.1
  have he := hI.2.1
  cases q : sLast wd en t with
  | none => rfl
  | some u =>
    exfalso
    obtain ⟨g1, g2⟩ := mL_lt t q
    obtain ⟨j, j1, j2⟩ := hI.2.2.1 u (by omega)
    rw [j2] at g2
    subst g2
    rcases h with h | h
    · exact nI_pos (by omega) h
    · exact nI_ge j1 (by omega) h
theorem wrd_neg {k : Int32} (h : k < 0) : sWrd k = 0 := by
  unfold sWrd
  rw [if_pos h]
theorem wrd_six {k : Int32} (h0 : ¬ k < 0) (h : 6 ≤ k) : sWrd k = 0 := by
  unfold sWrd
  rw [if_neg h0, if_pos h]
theorem wrd_in {k : Int32} (h0 : ¬ k < 0) (h : ¬ 6 ≤ k) : ¬ sWrd k = 0 := by
  unfold sWrd
  rw [if_neg h0, if_neg h]
  decide
theorem mt_field (h : RelN n e p l x m) (en k it : Int32) : Mt ["java/lang/IllegalStateException"] x m (fun m0 o => rField x m0 o en k it) (fun x0 o => qField x0 m o en k it) := by
  have hR : Rel x m := ⟨n, e, p, l, h⟩
  obtain ⟨⟨hn, he, hvc, hec, hcl, hen⟩, ⟨htm, hw, hk, hI⟩, -, -, -⟩ := h
  by_cases ht : fx_tam x = 0
  · have ht2 : fm_touched m = 0 := by rw [← htm]; exact ht
    have hI' := hI ht
    have none_ : ∀ (hr : ∀ m0 o, rField x m0 o en k it = .inl (some (.int (-1)), wx x m0 o)) (hq : ∀ x0 o, qField x0 m o en k it = qN x0 m o), Mt ["java/lang/IllegalStateException"] x m (fun m0 o => rField x m0 o en k it) (fun x0 o => qField x0 m o en k it) := fun hr hq => mt_ok (-1) (x1 := x) (m1 := sm_code m 0) hr hq rfl (rel_code hR 0)
    by_cases h1 : sWrd k = 0
    · refine none_ (fun m0 o => by simp only [rField]; rw [if_pos ht, if_pos h1]) (fun x0 o => ?_)
      simp only [qField]
      rw [if_pos ht2]
      by_cases g1 : en < 0
      · rw [if_pos g1]
      rw [if_neg g1]
      by_cases g2 : fm_entries m ≤ en
      · rw [if_pos g2]
      rw [if_neg g2]
      by_cases g3 : k < 0
      · rw [if_pos g3]
      rw [if_neg g3]
      by_cases g4 : 6 ≤ k
      · rw [if_pos g4]
      · exact absurd h1 (wrd_in g3 g4)
    have k0 : ¬ k < 0 := fun z => h1 (wrd_neg z)
    have k6 : ¬ 6 ≤ k := fun z => h1 (wrd_six k0 z)
    by_cases h3 : sTime (nI n) it = 0
    · refine none_ (fun m0 o => by simp only [rField]; rw [if_pos ht, if_neg h1, hvc, if_pos h3]) (fun x0 o => ?_)
      simp only [qField]
      rw [if_pos ht2]
      by_cases g1 : en < 0
      · rw [if_pos g1]
      rw [if_neg g1]
      by_cases g2 : fm_entries m ≤ en
      · rw [if_pos g2]
      rw [if_neg g2, if_neg k0, if_neg k6, hcl, if_pos h3]
    obtain ⟨t, ht3, rfl⟩ := sTime_of hn h3
    have ct : (nI t).toNatClampNeg = t := nI_clamp (by omega)
    by_cases g1 : en < 0
    · refine none_ (fun m0 o => ?_) (fun x0 o => by simp only [qField]; rw [if_pos ht2, if_pos g1])
      simp only [rField]
      rw [if_pos ht, if_neg h1, hvc, if_neg h3, ct, last_out hI' ht3 (Or.inl g1)]
    by_cases g2 : nI e ≤ en
    · refine none_ (fun m0 o => ?_) (fun x0 o => by simp only [qField]; rw [if_pos ht2, if_neg g1, hen, if_pos g2])
      simp only [rField]
      rw [if_pos ht, if_neg h1, hvc, if_neg h3, ct, last_out hI' ht3 (Or.inr g2)]
    rcases hu : sLast (fx_words x) en t with _ | u
    · refine none_ (fun m0 o => ?_) (fun x0 o => ?_)
      · simp only [rField]
        rw [if_pos ht, if_neg h1, hvc, if_neg h3, ct, hu]
      · simp only [qField]
        rw [if_pos ht2, if_neg g1, hen, if_neg g2, if_neg k0, if_neg k6, hcl, if_neg h3, ct, ← hw, hu]
    · refine mt_ok (fm_words m (6 * u + k.toNatClampNeg)) (x1 := x) (m1 := sm_code m 0) (fun m0 o => ?_) (fun x0 o => ?_) rfl (rel_code hR 0)
      · simp only [rField]
        rw [if_pos ht, if_neg h1, hvc, if_neg h3, ct, hu]
        show Sum.inl (some (Value.int (fx_words x (6 * u + k.toNatClampNeg))), wx x m0 o) = _
        rw [hw]
      · simp only [qField]
        rw [if_pos ht2, if_neg g1, hen, if_neg g2, if_neg k0, if_neg k6, hcl, if_neg h3, ct, show sLast (fm_words m) en t = some u from by rw [← hw]; exact hu]
  · have ht2 : ¬ fm_touched m = 0 := by rw [← htm]; exact ht
    exact mt_no hR 0 _ 1 rfl rfl (fun m0 o => by simp only [rField]; rw [if_neg ht]; rfl) (fun x0 o => by simp only [qField]; rw [if_neg ht2])
theorem mt_entries (h : RelN n e p l x m) : Mt ["java/lang/IllegalStateException"] x m (fun m0 o => rEnt x m0 o) (fun x0 o => qEnt x0 m o) := by
  have hR : Rel x m := ⟨n, e, p, l, h⟩
  obtain ⟨⟨hn, he, hvc, hec, hcl, hen⟩, ⟨htm, hw, hk, hI⟩, -, -, -⟩ := h
  by_cases ht : fx_tam x = 0
  · have ht2 : fm_touched m = 0 := by rw [← htm]; exact ht
    exact mt_ok (nI e) (x1 := x) (m1 := sm_code m 0) (fun m0 o => by simp only [rEnt]; rw [if_pos ht, hec]) (fun x0 o => by simp only [qEnt]; rw [if_pos ht2, hen]) rfl (rel_code hR 0)
  · have ht2 : ¬ fm_touched m = 0 := by rw [← htm]; exact ht
    exact mt_no hR 0 _ 1 rfl rfl (fun m0 o => by simp only [rEnt]; rw [if_neg ht]; rfl) (fun x0 o => by simp only [qEnt]; rw [if_neg ht2])
theorem mt_tamper (h : RelN n e p l x m) (v k b : Int32) : ∃ r x1 m1, (∀ m0 o, rTamp x m0 o v k b = .inl (some (.int r), wx x1 m0 o)) ∧ (∀ x0 o, qTamp x0 m o v k b = .inl (some (.int r), wx x0 m1 o)) ∧ Rel x1 m1 := by
  have hR : Rel x m := ⟨n, e, p, l, h⟩
  obtain ⟨hA, ⟨htm, hw, hk, hI⟩, hC, hlast, hcur⟩ := h
  have hvc := hA.2.2.1
  have hcl := hA.2.2.2.2.1
  have no : (∀ m0 o, rTamp x m0 o v k b = .inl (some (.int 0), wx x m0 o)) → (∀ x0 o, qTamp x0 m o v k b = qC x0 m o 0) → ∃ r x1 m1, (∀ m0 o, rTamp x m0 o v k b = .inl (some (.int r), wx x1 m0 o)) ∧ (∀ x0 o, qTamp x0 m o v k b = .inl (some (.int r), wx x0 m1 o)) ∧ Rel x1 m1 := fun h1 h2 => ⟨0, x, sm_code m 0, h1, h2, rel_code hR 0⟩
  by_cases g1 : v < 0
  · have s1 : sVer (fx_vc x) v = 0 := by unfold sVer; rw [if_pos g1]
    exact no (fun m0 o => by simp only [rTamp]; rw [if_pos s1]) (fun x0 o => by simp only [qTamp]; rw [if_pos g1])
  by_cases g2 : nI n ≤ v
  · have s1 : sVer (fx_vc x) v = 0 := by unfold sVer; rw [if_neg g1, hvc, if_pos g2]
    exact no (fun m0 o => by simp only [rTamp]; rw [if_pos s1]) (fun x0 o => by simp only [qTamp]; rw [if_neg g1, hcl, if_pos g2])
  have s1 : ¬ sVer (fx_vc x) v = 0 := by
    unfold sVer
    rw [if_neg g1, hvc, if_neg g2]
    decide
  by_cases g3 : k < 0
  · exact no (fun m0 o => by simp only [rTamp]; rw [if_neg s1, if_pos (wrd_neg g3)]) (fun x0 o => by simp only [qTamp]; rw [if_neg g1, hcl, if_neg g2, if_pos g3])
  by_cases g4 : k ≤ 5
  · have s2 : ¬ sWrd k = 0 := wrd_in g3 (six g4)
    refine ⟨1, sx_tam (sx_words x (upd (fx_words x) (6 * v.toNatClampNeg + k.toNatClampNeg) b)) 1, sm_touched (sm_words (sm_code m 0) (upd (fm_words m) (6 * v.toNatClampNeg + k.toNatClampNeg) b)) 1, fun m0 o => by simp only [rTamp]; rw [if_neg s1, if_neg s2], fun x0 o => by simp only [qTamp]; rw [if_neg g1, hcl, if_neg g2, if_neg g3, if_pos g4], n, e, p, l, hA, ⟨rfl, ?_, hk, fun z => absurd z (by decide : ¬ (1 : Int32) = 0)⟩, hC, hlast, fun z => absurd z (by decide : ¬ (1 : Int32) = 0)⟩
    show upd (fx_words x) (6 * v.toNatClampNeg + k.toNatClampNeg) b = upd (fm_words m) (6 * v.toNatClampNeg + k.toNatClampNeg) b
    rw [hw]
  · have g6 : 6 ≤ k := by
      rw [Int32.le_iff_toInt_le] at *
      have c5 : (5 : Int32).toInt = 5 := by decide
      have c6 : (6 : Int32).toInt = 6 := by decide
      omega
    exact no (fun m0 o => by simp only [rTamp]; rw [if_neg s1, if_pos (wrd_six g3 g6)]) (fun x0 o => by simp only [qTamp]; rw [if_neg g1, hcl, if_neg g2, if_neg g3, if_neg g4])
end Mts2
