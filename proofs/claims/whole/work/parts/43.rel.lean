/-! What ties the class's state to the reference's, and that each call keeps it. -/
def RelN (n e p : Nat) (l : List Nat) (x : XS) (m : MS) : Prop :=
  (n ≤ 64 ∧ e ≤ n ∧ fx_vc x = nI n ∧ fx_ec x = nI e ∧ fm_clock m = nI n ∧ fm_entries m = nI e) ∧
  (fx_tam x = fm_touched m ∧ fx_words x = fm_words m ∧ fx_links x = fm_links m ∧ (fx_tam x = 0 → Inv (fx_words x) (fx_rep x) n e)) ∧
  (l.length ≤ 64 ∧ p ≤ l.length ∧ (∀ u ∈ l, u < n) ∧ fx_size x = nI l.length ∧ cHas (fx_cur x) l ∧ fx_place x = nI p ∧ fm_count m = nI l.length ∧ fm_at m = nI p) ∧
  ((fx_last x = -1 ∧ fm_ans m = 0) ∨ ∃ k u, p = k + 1 ∧ l[k]? = some u ∧ ¬ fm_ans m = 0 ∧ fx_last x = nI u) ∧
  (fx_tam x = 0 → ∀ k u, l[k]? = some u → fm_list m k = fE (fx_words x) u ∧ fm_puts m k = sPut (fx_words x) (fx_acct x) u ∧ ¬ sTouch (fx_words x) u (fx_acct x) = 0)
def Rel (x : XS) (m : MS) : Prop := ∃ (n e p : Nat) (l : List Nat), RelN n e p l x m
theorem rel_code {x : XS} {m : MS} (h : Rel x m) (k : Int32) : Rel x (sm_code m k) := h
def Mt (Xs : List String) (x : XS) (m : MS) (r : MS → (Nat → Int64) → zR) (q : XS → (Nat → Int64) → zR) : Prop :=
  (∃ v x1 m1, (∀ m0 o, r m0 o = .inl (some (.int v), wx x1 m0 o)) ∧ (∀ x0 o, q x0 o = .inl (some (.int v), wx x0 m1 o)) ∧ fm_code m1 = 0 ∧ Rel x1 m1) ∨
  (∃ k X v m1, Xs[k]? = some X ∧ (∀ m0 o, r m0 o = .inr (X, wx x m0 o)) ∧ (∀ x0 o, q x0 o = .inl (some (.int v), wx x0 m1 o)) ∧ fm_code m1 = nI (k + 1) ∧ Rel x m1)
theorem mt_no {Xs : List String} {x : XS} {m : MS} {r : MS → (Nat → Int64) → zR} {q : XS → (Nat → Int64) → zR} (h : Rel x m) (k : Nat) (X : String) (c : Int32) (hX : Xs[k]? = some X) (hc : c = nI (k + 1)) (hr : ∀ m0 o, r m0 o = .inr (X, wx x m0 o)) (hq : ∀ x0 o, q x0 o = qC x0 m o c) : Mt Xs x m r q :=
  Or.inr ⟨k, X, 0, sm_code m c, hX, hr, hq, hc, rel_code h c⟩
theorem mt_ok {Xs : List String} {x x1 : XS} {m m1 : MS} {r : MS → (Nat → Int64) → zR} {q : XS → (Nat → Int64) → zR} (v : Int32) (hr : ∀ m0 o, r m0 o = .inl (some (.int v), wx x1 m0 o)) (hq : ∀ x0 o, q x0 o = .inl (some (.int v), wx x0 m1 o)) (hc : fm_code m1 = 0) (h : Rel x1 m1) : Mt Xs x m r q :=
  Or.inl ⟨v, x1, m1, hr, hq, hc, h⟩
theorem lt1 {a : Int32} : a < 1 ↔ a ≤ 0 := by
  rw [Int32.lt_iff_toInt_lt, Int32.le_iff_toInt_le]
  have h1 : (1 : Int32).toInt = 1 := by decide
  have h0 : (0 : Int32).toInt = 0 := by decide
  omega
theorem le1 {a : Int32} : 1 ≤ a ↔ ¬ a < 1 := by
  rw [Int32.lt_iff_toInt_lt, Int32.le_iff_toInt_le]
  omega
theorem full_iff {n : Nat} {c : Int32} (hc : c = nI n) (hn : n ≤ 64) : c < 64 ↔ ¬ n = 64 := by
  rw [hc, show (64 : Int32) = nI 64 from rfl, nI_ltI (by omega) (by omega)]
  omega
theorem eq64_iff {n : Nat} {c : Int32} (hc : c = nI n) (hn : n ≤ 64) : c = 64 ↔ n = 64 := by
  rw [hc, show (64 : Int32) = nI 64 from rfl, nI_eq (by omega) (by omega)]
theorem amt_pos {a : Int32} (h : ¬ a < 1) : 0 ≤ a.toInt := by
  rw [Int32.lt_iff_toInt_lt] at h
  have h1 : (1 : Int32).toInt = 1 := by decide
  omega
theorem over_much {x : XS} {n e : Nat} (hI : Inv (fx_words x) (fx_rep x) n e) (d b a : Int32) : sOver x n d b a ≤ 0 ↔ sMuch (fx_words x) d n e (a.toInt64 - b.toInt64) = 0 := by
  unfold sOver sMuch
  rw [(i_turn hI d).1]
  have e1 : mTurn (fx_words x) d n e - b.toInt64 + a.toInt64 = mTurn (fx_words x) d n e + (a.toInt64 - b.toInt64) := by
    rw [Int64.sub_eq_add_neg, Int64.sub_eq_add_neg, Int64.add_assoc, Int64.add_comm (-b.toInt64)]
  rw [e1]
  by_cases h : lg_cmp (mTurn (fx_words x) d n e + (a.toInt64 - b.toInt64)) 2147483647 ≤ 0
  · rw [if_pos h]
    exact ⟨fun _ => rfl, fun _ => h⟩
  · rw [if_neg h]
    exact ⟨fun z => absurd z h, fun z => absurd z (by decide)⟩
theorem over_bound {x : XS} {n e : Nat} (hI : Inv (fx_words x) (fx_rep x) n e) {d b a : Int32} (ha : 0 ≤ a.toInt) (hb : 0 ≤ b.toInt) (h : sOver x n d b a ≤ 0) : gT (fx_words x) d n e - b.toInt + a.toInt ≤ 2147483647 := by
  unfold sOver at h
  rw [(i_turn hI d).1, lg_cmp_le, Int64.le_iff_toInt_le] at h
  have h0 := i_gT0 hI d
  have h1 := hI.2.2.2.2.2.2 d
  have h2 := (i_turn hI d).2.2
  have ha2 := Int32.toInt_lt a
  have hb2 := Int32.toInt_lt b
  have c1 : (2147483647 : Int64).toInt = 2147483647 := by decide
  have s1 : (mTurn (fx_words x) d n e - b.toInt64).toInt = gT (fx_words x) d n e - b.toInt := by
    rw [Int64.toInt_sub, h2, Int32.toInt_toInt64]
    exact Int.bmod_eq_of_le (by omega) (by omega)
  have s2 : (mTurn (fx_words x) d n e - b.toInt64 + a.toInt64).toInt = gT (fx_words x) d n e - b.toInt + a.toInt := by
    rw [Int64.toInt_add, s1, Int32.toInt_toInt64]
    exact Int.bmod_eq_of_le (by omega) (by omega)
  rw [s2, c1] at h
  exact h
theorem cur_app {wd : Nat → Int32} {n : Nat} {k0 e0 d c a y ac : Int32} {l : List Nat} {A B : Nat → Int32} (hl : ∀ u ∈ l, u < n) (h : ∀ k u, l[k]? = some u → A k = fE wd u ∧ B k = sPut wd ac u ∧ ¬ sTouch wd u ac = 0) :
    ∀ k u, l[k]? = some u → A k = fE (wApp wd n k0 e0 d c a y) u ∧ B k = sPut (wApp wd n k0 e0 d c a y) ac u ∧ ¬ sTouch (wApp wd n k0 e0 d c a y) u ac = 0 := by
  intro k u hu
  have hlt := hl u (List.mem_of_getElem? hu)
  obtain ⟨h1, h2, h3⟩ := h k u hu
  refine ⟨?_, ?_, ?_⟩
  · rw [a_fE hlt]; exact h1
  · rw [h2]
    unfold sPut
    rw [wApp_old (by omega), wApp_old (by omega)]
  · rw [a_touch hlt]; exact h3
section Mts
variable {n e p : Nat} {l : List Nat} {x : XS} {m : MS}
theorem mt_post (h : RelN n e p l x m) (d c a y : Int32) : Mt ["java/lang/IllegalStateException", "java/lang/IllegalArgumentException", "java/lang/UnsupportedOperationException", "java/lang/ArithmeticException"] x m (fun m0 o => rPost x m0 o n e d c a y) (fun x0 o => qPost x0 m o n e d c a y) := by
  have hR : Rel x m := ⟨n, e, p, l, h⟩
  obtain ⟨⟨hn, he, hvc, hec, hcl, hen⟩, ⟨htm, hw, hk, hI⟩, ⟨hl64, hpl, hln, hsz, hch, hpc, hct, hat⟩, hlast, hcur⟩ := h
  by_cases ht : fx_tam x = 0
  · have ht2 : fm_touched m = 0 := by rw [← htm]; exact ht
    have hI := hI ht
    by_cases h1 : sAcc d = 0
    · exact mt_no hR 1 _ 2 rfl rfl (fun m0 o => by simp only [rPost]; rw [if_pos ht, if_pos h1]; rfl) (fun x0 o => by simp only [qPost]; rw [if_pos ht2, if_pos h1])
    by_cases h2 : sAcc c = 0
    · exact mt_no hR 1 _ 2 rfl rfl (fun m0 o => by simp only [rPost]; rw [if_pos ht, if_neg h1, if_pos h2]; rfl) (fun x0 o => by simp only [qPost]; rw [if_pos ht2, if_neg h1, if_pos h2])
    by_cases h3 : d = c
    · exact mt_no hR 1 _ 2 rfl rfl (fun m0 o => by simp only [rPost]; rw [if_pos ht, if_neg h1, if_neg h2, if_pos h3]; rfl) (fun x0 o => by simp only [qPost]; rw [if_pos ht2, if_neg h1, if_neg h2, if_pos h3])
    by_cases h4 : sDay y = 0
    · refine mt_no hR 1 _ 2 rfl rfl (fun m0 o => by simp only [rPost]; rw [if_pos ht, if_neg h1, if_neg h2, if_neg h3, if_pos h4]; rfl) (fun x0 o => ?_)
      simp only [qPost]
      rw [if_pos ht2, if_neg h1, if_neg h2, if_neg h3]
      by_cases h5 : a ≤ 0
      · rw [if_pos h5]
      · rw [if_neg h5, if_pos h4]
    by_cases h5 : a < 1
    · exact mt_no hR 1 _ 2 rfl rfl (fun m0 o => by simp only [rPost]; rw [if_pos ht, if_neg h1, if_neg h2, if_neg h3, if_neg h4, if_pos h5]; rfl) (fun x0 o => by simp only [qPost]; rw [if_pos ht2, if_neg h1, if_neg h2, if_neg h3, if_pos (lt1.mp h5)])
    have h5' : ¬ a ≤ 0 := fun z => h5 (lt1.mpr z)
    by_cases h6 : n = 64
    · exact mt_no hR 2 _ 3 rfl rfl (fun m0 o => by simp only [rPost]; rw [if_pos ht, if_neg h1, if_neg h2, if_neg h3, if_neg h4, if_neg h5, if_neg (fun z => (full_iff hvc hn).mp z h6)]; rfl) (fun x0 o => by simp only [qPost]; rw [if_pos ht2, if_neg h1, if_neg h2, if_neg h3, if_neg h5', if_neg h4, if_pos ((eq64_iff hcl hn).mpr h6)])
    have h6a : fx_vc x < 64 := (full_iff hvc hn).mpr h6
    have h6b : ¬ fm_clock m = 64 := fun z => h6 ((eq64_iff hcl hn).mp z)
    have z0 : a.toInt64 - (0 : Int32).toInt64 = a.toInt64 := by rw [show (0 : Int32).toInt64 = 0 from rfl, Int64.sub_zero]
    have q7 := over_much hI d 0 a
    have q8 := over_much hI c 0 a
    rw [z0, hw] at q7 q8
    by_cases h7 : sOver x n d 0 a ≤ 0
    · by_cases h8 : sOver x n c 0 a ≤ 0
      · refine mt_ok (nI e) (x1 := sx_ec (xApp x n 0 (nI e) d c a y) (nI e + 1)) (m1 := sm_entries (mApp (sm_code m 0) n 0 (nI e) d c a y) (nI e + 1)) (fun m0 o => by simp only [rPost]; rw [if_pos ht, if_neg h1, if_neg h2, if_neg h3, if_neg h4, if_neg h5, if_pos h6a, if_pos h7, if_pos h8]) (fun x0 o => ?_) rfl ?_
        · simp only [qPost]
          rw [if_pos ht2, if_neg h1, if_neg h2, if_neg h3, if_neg h5', if_neg h4, if_neg h6b, if_pos (q7.mp h7), if_pos (q8.mp h8), ← nI_succ, nI_pred]
        · have ha := amt_pos h5
          have b7 := over_bound hI ha (by decide) h7
          have b8 := over_bound hI ha (by decide) h8
          have c0 : (0 : Int32).toInt = 0 := by decide
          rw [c0] at b7 b8
          have hI2 := i_post (k := 0) (y := y) hI (show n < 64 by omega) ha (show gT (fx_words x) d n e + a.toInt ≤ 2147483647 by omega) (show gT (fx_words x) c n e + a.toInt ≤ 2147483647 by omega)
          refine ⟨n + 1, e + 1, p, l, ⟨by omega, by omega, (nI_succ n).symm, (nI_succ e).symm, (nI_succ n).symm, (nI_succ e).symm⟩, ⟨htm, ?_, ?_, fun _ => hI2⟩, ⟨hl64, hpl, fun u hu => Nat.lt_succ_of_lt (hln u hu), hsz, hch, hpc, hct, hat⟩, hlast, fun _ => cur_app hln (hcur ht)⟩
          · show wApp (fx_words x) n 0 (nI e) d c a y = wApp (fm_words m) n 0 (nI e) d c a y
            rw [hw]
          · show kApp (wApp (fx_words x) n 0 (nI e) d c a y) (fx_links x) n = kApp (wApp (fm_words m) n 0 (nI e) d c a y) (fm_links m) n
            rw [hw, hk]
      · exact mt_no hR 3 _ 4 rfl rfl (fun m0 o => by simp only [rPost]; rw [if_pos ht, if_neg h1, if_neg h2, if_neg h3, if_neg h4, if_neg h5, if_pos h6a, if_pos h7, if_neg h8]; rfl) (fun x0 o => by simp only [qPost]; rw [if_pos ht2, if_neg h1, if_neg h2, if_neg h3, if_neg h5', if_neg h4, if_neg h6b, if_pos (q7.mp h7), if_neg (fun z => h8 (q8.mpr z))])
    · exact mt_no hR 3 _ 4 rfl rfl (fun m0 o => by simp only [rPost]; rw [if_pos ht, if_neg h1, if_neg h2, if_neg h3, if_neg h4, if_neg h5, if_pos h6a, if_neg h7]; rfl) (fun x0 o => by simp only [qPost]; rw [if_pos ht2, if_neg h1, if_neg h2, if_neg h3, if_neg h5', if_neg h4, if_neg h6b, if_neg (fun z => h7 (q7.mpr z))])
  · have ht2 : ¬ fm_touched m = 0 := by rw [← htm]; exact ht
    exact mt_no hR 0 _ 1 rfl rfl (fun m0 o => by simp only [rPost]; rw [if_neg ht]; rfl) (fun x0 o => by simp only [qPost]; rw [if_neg ht2])
/-- the reference's search for a living entry -/
theorem liv_none {wd rp : Nat → Int32} {en : Int32} (h : sLast wd en n = none) : sLiv wd n e en = none := by
  unfold sLiv
  split
  · rfl
  · split
    · rfl
    · rw [h]
theorem liv_some {wd rp : Nat → Int32} (hI : Inv wd rp n e) {en : Int32} {u : Nat} (h : sLast wd en n = some u) : sLiv wd n e en = if wd (6 * u + 0) = 2 then none else some u := by
  obtain ⟨g1, g2⟩ := mL_lt n h
  obtain ⟨j, j1, j2⟩ := hI.2.2.1 u g1
  have hn := hI.1
  have he := hI.2.1
  rw [j2] at g2
  subst g2
  unfold sLiv
  rw [if_neg (nI_pos (by omega)), if_neg (nI_ge j1 (by omega)), h]
theorem rep_rel (h : RelN n e p l x m) (ht : fx_tam x = 0) (hn64 : n < 64) {en : Int32} {u : Nat} (hu : sLast (fx_words x) en n = some u) (k a : Int32) (ha : 0 ≤ a.toInt)
    (hd : gT (fx_words x) (fx_words x (6 * u + 2)) n e - (fx_words x (6 * u + 4)).toInt + a.toInt ≤ 2147483647) (hc : gT (fx_words x) (fx_words x (6 * u + 3)) n e - (fx_words x (6 * u + 4)).toInt + a.toInt ≤ 2147483647) :
    Rel (xRep x n u k a) (mApp (sm_code m 0) n k en (fm_words m (6 * u + 2)) (fm_words m (6 * u + 3)) a (fm_words m (6 * u + 5))) := by
  obtain ⟨⟨hn, he, hvc, hec, hcl, hen⟩, ⟨htm, hw, hk, hI⟩, ⟨hl64, hpl, hln, hsz, hch, hpc, hct, hat⟩, hlast, hcur⟩ := h
  obtain ⟨g1, g2⟩ := mL_lt n hu
  have hu2 := hu
  rw [← g2] at hu2
  have hI2 := i_repl (k := k) (y := fx_words x (6 * u + 5)) (hI ht) hn64 g1 hu2 ha hd hc
  have e1 : fx_words (xRep x n u k a) = wApp (fx_words x) n k (fE (fx_words x) u) (fx_words x (6 * u + 2)) (fx_words x (6 * u + 3)) a (fx_words x (6 * u + 5)) := rfl
  refine ⟨n + 1, e, p, l, ⟨by omega, by omega, (nI_succ n).symm, hec, (nI_succ n).symm, hen⟩, ⟨htm, ?_, ?_, fun _ => hI2⟩, ⟨hl64, hpl, fun z hz => Nat.lt_succ_of_lt (hln z hz), hsz, hch, hpc, hct, hat⟩, hlast, fun _ => cur_app hln (hcur ht)⟩
  · rw [e1, g2, hw]
    rfl
  · show kApp (wApp (fx_words x) n k (fE (fx_words x) u) (fx_words x (6 * u + 2)) (fx_words x (6 * u + 3)) a (fx_words x (6 * u + 5))) (fx_links x) n = kApp (wApp (fm_words m) n k en (fm_words m (6 * u + 2)) (fm_words m (6 * u + 3)) a (fm_words m (6 * u + 5))) (fm_links m) n
    rw [g2, hw, hk]
theorem mt_correct (h : RelN n e p l x m) (en a : Int32) : Mt ["java/lang/IllegalStateException", "java/util/NoSuchElementException", "java/lang/IllegalArgumentException", "java/lang/UnsupportedOperationException", "java/lang/ArithmeticException"] x m (fun m0 o => rCorr x m0 o n en a) (fun x0 o => qCorr x0 m o n e en a) := by
  have hR : Rel x m := ⟨n, e, p, l, h⟩
  have hRN := h
  obtain ⟨⟨hn, he, hvc, hec, hcl, hen⟩, ⟨htm, hw, hk, hI⟩, -, -, -⟩ := h
  by_cases ht : fx_tam x = 0
  · have ht2 : fm_touched m = 0 := by rw [← htm]; exact ht
    have hI := hI ht
    rcases hu : sLast (fx_words x) en n with _ | u
    · have q0 := liv_none (n := n) (e := e) (rp := fx_rep x) hu
      rw [hw] at q0
      exact mt_no hR 1 _ 2 rfl rfl (fun m0 o => by simp only [rCorr]; rw [if_pos ht, hu]; rfl) (fun x0 o => by simp only [qCorr]; rw [if_pos ht2, q0])
    have q0 := liv_some hI hu
    by_cases hk2 : fx_words x (6 * u + 0) = 2
    · rw [if_pos hk2, hw] at q0
      exact mt_no hR 1 _ 2 rfl rfl (fun m0 o => by simp only [rCorr]; rw [if_pos ht, hu]; simp only [hk2, if_true]; rfl) (fun x0 o => by simp only [qCorr]; rw [if_pos ht2, q0])
    rw [if_neg hk2, hw] at q0
    have rC : ∀ m0 o, rCorr x m0 o n en a = if a < 1 then xIAE (wx x m0 o) else if fx_vc x < 64 then if sOver x n (fx_words x (6 * u + 2)) (fx_words x (6 * u + 4)) a ≤ 0 then if sOver x n (fx_words x (6 * u + 3)) (fx_words x (6 * u + 4)) a ≤ 0 then .inl (some (.int (nI n)), wx (xRep x n u 1 a) m0 o) else xAE (wx x m0 o) else xAE (wx x m0 o) else xUOE (wx x m0 o) := by
      intro m0 o
      unfold rCorr
      rw [if_pos ht, hu]
      show (if fx_words x (6 * u + 0) = 2 then _ else _) = _
      rw [if_neg hk2]
    have qC' : ∀ x0 o, qCorr x0 m o n e en a = if 1 ≤ a then if fm_clock m = 64 then qC x0 m o 4 else if sMuch (fm_words m) (fm_words m (6 * u + 2)) n e (a.toInt64 - (fm_words m (6 * u + 4)).toInt64) = 0 then if sMuch (fm_words m) (fm_words m (6 * u + 3)) n e (a.toInt64 - (fm_words m (6 * u + 4)).toInt64) = 0 then .inl (some (.int (nI n)), wx x0 (mApp (sm_code m 0) n 1 en (fm_words m (6 * u + 2)) (fm_words m (6 * u + 3)) a (fm_words m (6 * u + 5))) o) else qC x0 m o 5 else qC x0 m o 5 else qC x0 m o 3 := by
      intro x0 o
      unfold qCorr
      rw [if_pos ht2, q0]
    by_cases h5 : a < 1
    · exact mt_no hR 2 _ 3 rfl rfl (fun m0 o => by rw [rC, if_pos h5]; rfl) (fun x0 o => by rw [qC', if_neg (fun z => le1.mp z h5)])
    by_cases h6 : n = 64
    · exact mt_no hR 3 _ 4 rfl rfl (fun m0 o => by rw [rC, if_neg h5, if_neg (fun z => (full_iff hvc hn).mp z h6)]; rfl) (fun x0 o => by rw [qC', if_pos (le1.mpr h5), if_pos ((eq64_iff hcl hn).mpr h6)])
    have h6a : fx_vc x < 64 := (full_iff hvc hn).mpr h6
    have h6b : ¬ fm_clock m = 64 := fun z => h6 ((eq64_iff hcl hn).mp z)
    have q7 := over_much hI (fx_words x (6 * u + 2)) (fx_words x (6 * u + 4)) a
    have q8 := over_much hI (fx_words x (6 * u + 3)) (fx_words x (6 * u + 4)) a
    have ha := amt_pos h5
    have hb := hI.2.2.2.2.2.1 u (mL_lt n hu).1
    by_cases h7 : sOver x n (fx_words x (6 * u + 2)) (fx_words x (6 * u + 4)) a ≤ 0
    · have g7 := q7.mp h7
      rw [hw] at g7
      by_cases h8 : sOver x n (fx_words x (6 * u + 3)) (fx_words x (6 * u + 4)) a ≤ 0
      · have g8 := q8.mp h8
        rw [hw] at g8
        refine mt_ok (nI n) (x1 := xRep x n u 1 a) (fun m0 o => by rw [rC, if_neg h5, if_pos h6a, if_pos h7, if_pos h8]) (fun x0 o => by rw [qC', if_pos (le1.mpr h5), if_neg h6b, if_pos g7, if_pos g8]) rfl ?_
        exact rep_rel hRN ht (by omega) hu 1 a ha (over_bound hI ha hb h7) (over_bound hI ha hb h8)
      · have g8 : ¬ sMuch (fx_words x) (fx_words x (6 * u + 3)) n e (a.toInt64 - (fx_words x (6 * u + 4)).toInt64) = 0 := fun z => h8 (q8.mpr z)
        rw [hw] at g8
        exact mt_no hR 4 _ 5 rfl rfl (fun m0 o => by rw [rC, if_neg h5, if_pos h6a, if_pos h7, if_neg h8]; rfl) (fun x0 o => by rw [qC', if_pos (le1.mpr h5), if_neg h6b, if_pos g7, if_neg g8])
    · have g7 : ¬ sMuch (fx_words x) (fx_words x (6 * u + 2)) n e (a.toInt64 - (fx_words x (6 * u + 4)).toInt64) = 0 := fun z => h7 (q7.mpr z)
      rw [hw] at g7
      exact mt_no hR 4 _ 5 rfl rfl (fun m0 o => by rw [rC, if_neg h5, if_pos h6a, if_neg h7]; rfl) (fun x0 o => by rw [qC', if_pos (le1.mpr h5), if_neg h6b, if_neg g7])
  · have ht2 : ¬ fm_touched m = 0 := by rw [← htm]; exact ht
    exact mt_no hR 0 _ 1 rfl rfl (fun m0 o => by simp only [rCorr]; rw [if_neg ht]; rfl) (fun x0 o => by simp only [qCorr]; rw [if_neg ht2])
theorem mt_annul (h : RelN n e p l x m) (en : Int32) : Mt ["java/lang/IllegalStateException", "java/util/NoSuchElementException", "java/lang/UnsupportedOperationException"] x m (fun m0 o => rAnn x m0 o n en) (fun x0 o => qAnn x0 m o n e en) := by
  have hR : Rel x m := ⟨n, e, p, l, h⟩
  have hRN := h
  obtain ⟨⟨hn, he, hvc, hec, hcl, hen⟩, ⟨htm, hw, hk, hI⟩, -, -, -⟩ := h
  by_cases ht : fx_tam x = 0
  · have ht2 : fm_touched m = 0 := by rw [← htm]; exact ht
    have hI := hI ht
    rcases hu : sLast (fx_words x) en n with _ | u
    · have q0 := liv_none (n := n) (e := e) (rp := fx_rep x) hu
      rw [hw] at q0
      exact mt_no hR 1 _ 2 rfl rfl (fun m0 o => by simp only [rAnn]; rw [if_pos ht, hu]; rfl) (fun x0 o => by simp only [qAnn]; rw [if_pos ht2, q0])
    have q0 := liv_some hI hu
    by_cases hk2 : fx_words x (6 * u + 0) = 2
    · rw [if_pos hk2, hw] at q0
      exact mt_no hR 1 _ 2 rfl rfl (fun m0 o => by simp only [rAnn]; rw [if_pos ht, hu]; simp only [hk2, if_true]; rfl) (fun x0 o => by simp only [qAnn]; rw [if_pos ht2, q0])
    rw [if_neg hk2, hw] at q0
    have rC : ∀ m0 o, rAnn x m0 o n en = if fx_vc x < 64 then .inl (some (.int (nI n)), wx (xRep x n u 2 0) m0 o) else xUOE (wx x m0 o) := by
      intro m0 o
      unfold rAnn
      rw [if_pos ht, hu]
      show (if fx_words x (6 * u + 0) = 2 then _ else _) = _
      rw [if_neg hk2]
    have qC' : ∀ x0 o, qAnn x0 m o n e en = if fm_clock m = 64 then qC x0 m o 3 else .inl (some (.int (nI n)), wx x0 (mApp (sm_code m 0) n 2 en (fm_words m (6 * u + 2)) (fm_words m (6 * u + 3)) 0 (fm_words m (6 * u + 5))) o) := by
      intro x0 o
      unfold qAnn
      rw [if_pos ht2, q0]
    by_cases h6 : n = 64
    · exact mt_no hR 2 _ 3 rfl rfl (fun m0 o => by rw [rC, if_neg (fun z => (full_iff hvc hn).mp z h6)]; rfl) (fun x0 o => by rw [qC', if_pos ((eq64_iff hcl hn).mpr h6)])
    have h6a : fx_vc x < 64 := (full_iff hvc hn).mpr h6
    have h6b : ¬ fm_clock m = 64 := fun z => h6 ((eq64_iff hcl hn).mp z)
    have hb := hI.2.2.2.2.2.1 u (mL_lt n hu).1
    have b1 := hI.2.2.2.2.2.2 (fx_words x (6 * u + 2))
    have b2 := hI.2.2.2.2.2.2 (fx_words x (6 * u + 3))
    have c0 : (0 : Int32).toInt = 0 := by decide
    refine mt_ok (nI n) (x1 := xRep x n u 2 0) (fun m0 o => by rw [rC, if_pos h6a]) (fun x0 o => by rw [qC', if_neg h6b]) rfl ?_
    exact rep_rel hRN ht (by omega) hu 2 0 (by rw [c0]; omega) (by rw [c0]; omega) (by rw [c0]; omega)
  · have ht2 : ¬ fm_touched m = 0 := by rw [← htm]; exact ht
    exact mt_no hR 0 _ 1 rfl rfl (fun m0 o => by simp only [rAnn]; rw [if_neg ht]; rfl) (fun x0 o => by simp only [qAnn]; rw [if_neg ht2])
theorem mt_balance (h : RelN n e p l x m) (a d it : Int32) : Mt ["java/lang/IllegalStateException", "java/lang/IllegalArgumentException"] x m (fun m0 o => rBal x m0 o a d it) (fun x0 o => qBal x0 m o e a d it) := by
  have hR : Rel x m := ⟨n, e, p, l, h⟩
  obtain ⟨⟨hn, he, hvc, hec, hcl, hen⟩, ⟨htm, hw, hk, hI⟩, -, -, -⟩ := h
  by_cases ht : fx_tam x = 0
  · have ht2 : fm_touched m = 0 := by rw [← htm]; exact ht
    by_cases h1 : sAcc a = 0
    · exact mt_no hR 1 _ 2 rfl rfl (fun m0 o => by simp only [rBal]; rw [if_pos ht, if_pos h1]; rfl) (fun x0 o => by simp only [qBal]; rw [if_pos ht2, if_pos h1])
    by_cases h2 : sDay d = 0
    · exact mt_no hR 1 _ 2 rfl rfl (fun m0 o => by simp only [rBal]; rw [if_pos ht, if_neg h1, if_pos h2]; rfl) (fun x0 o => by simp only [qBal]; rw [if_pos ht2, if_neg h1, if_pos h2])
    by_cases h3 : sTime (nI n) it = 0
    · exact mt_no hR 1 _ 2 rfl rfl (fun m0 o => by simp only [rBal]; rw [if_pos ht, if_neg h1, if_neg h2, hvc, if_pos h3]; rfl) (fun x0 o => by simp only [qBal]; rw [if_pos ht2, if_neg h1, if_neg h2, hcl, if_pos h3])
    obtain ⟨t, ht3, rfl⟩ := sTime_of hn h3
    refine mt_ok (mBal (fm_words m) a d t e) (x1 := x) (m1 := sm_code m 0) (fun m0 o => ?_) (fun x0 o => ?_) rfl (rel_code hR 0)
    · simp only [rBal]
      rw [if_pos ht, if_neg h1, if_neg h2, hvc, if_neg h3, nI_clamp (show t < 2 ^ 31 by omega), i_bal (hI ht) ht3, hw]
    · simp only [qBal]
      rw [if_pos ht2, if_neg h1, if_neg h2, hcl, if_neg h3, nI_clamp (show t < 2 ^ 31 by omega)]
  · have ht2 : ¬ fm_touched m = 0 := by rw [← htm]; exact ht
    exact mt_no hR 0 _ 1 rfl rfl (fun m0 o => by simp only [rBal]; rw [if_neg ht]; rfl) (fun x0 o => by simp only [qBal]; rw [if_neg ht2])
theorem mt_trial (h : RelN n e p l x m) (d it : Int32) : Mt ["java/lang/IllegalStateException", "java/lang/IllegalArgumentException"] x m (fun m0 o => rTrial x m0 o d it) (fun x0 o => qTrial x0 m o e d it) := by
  have hR : Rel x m := ⟨n, e, p, l, h⟩
  obtain ⟨⟨hn, he, hvc, hec, hcl, hen⟩, ⟨htm, hw, hk, hI⟩, -, -, -⟩ := h
  by_cases ht : fx_tam x = 0
  · have ht2 : fm_touched m = 0 := by rw [← htm]; exact ht
    by_cases h2 : sDay d = 0
    · exact mt_no hR 1 _ 2 rfl rfl (fun m0 o => by simp only [rTrial]; rw [if_pos ht, if_pos h2]; rfl) (fun x0 o => by simp only [qTrial]; rw [if_pos ht2, if_pos h2])
    by_cases h3 : sTime (nI n) it = 0
    · exact mt_no hR 1 _ 2 rfl rfl (fun m0 o => by simp only [rTrial]; rw [if_pos ht, if_neg h2, hvc, if_pos h3]; rfl) (fun x0 o => by simp only [qTrial]; rw [if_pos ht2, if_neg h2, hcl, if_pos h3])
    obtain ⟨t, ht3, rfl⟩ := sTime_of hn h3
    refine mt_ok (mTrial (fm_words m) d t e 16) (x1 := x) (m1 := sm_code m 0) (fun m0 o => ?_) (fun x0 o => ?_) rfl (rel_code hR 0)
    · simp only [rTrial]
      rw [if_pos ht, if_neg h2, hvc, if_neg h3, nI_clamp (show t < 2 ^ 31 by omega), i_trial (hI ht) ht3, hw]
    · simp only [qTrial]
      rw [if_pos ht2, if_neg h2, hcl, if_neg h3, nI_clamp (show t < 2 ^ 31 by omega)]
  · have ht2 : ¬ fm_touched m = 0 := by rw [← htm]; exact ht
    exact mt_no hR 0 _ 1 rfl rfl (fun m0 o => by simp only [rTrial]; rw [if_neg ht]; rfl) (fun x0 o => by simp only [qTrial]; rw [if_neg ht2])
theorem mt_turnover (h : RelN n e p l x m) (a : Int32) : Mt ["java/lang/IllegalStateException", "java/lang/IllegalArgumentException"] x m (fun m0 o => rTurn x m0 o n a) (fun x0 o => qTurn x0 m o n e a) := by
  have hR : Rel x m := ⟨n, e, p, l, h⟩
  obtain ⟨⟨hn, he, hvc, hec, hcl, hen⟩, ⟨htm, hw, hk, hI⟩, -, -, -⟩ := h
  by_cases ht : fx_tam x = 0
  · have ht2 : fm_touched m = 0 := by rw [← htm]; exact ht
    by_cases h1 : sAcc a = 0
    · exact mt_no hR 1 _ 2 rfl rfl (fun m0 o => by simp only [rTurn]; rw [if_pos ht, if_neg (fun z => z h1)]; rfl) (fun x0 o => by simp only [qTurn]; rw [if_pos ht2, if_pos h1])
    refine mt_ok (mTurn (fm_words m) a n e).toInt32 (x1 := x) (m1 := sm_code m 0) (fun m0 o => ?_) (fun x0 o => ?_) rfl (rel_code hR 0)
    · simp only [rTurn]
      rw [if_pos ht, if_pos h1, ← hw, ← (i_turn (hI ht) a).1, Int32.toInt32_toInt64]
    · simp only [qTurn]
      rw [if_pos ht2, if_neg h1]
  · have ht2 : ¬ fm_touched m = 0 := by rw [← htm]; exact ht
    exact mt_no hR 0 _ 1 rfl rfl (fun m0 o => by simp only [rTurn]; rw [if_neg ht]; rfl) (fun x0 o => by simp only [qTurn]; rw [if_neg ht2])
end Mts
