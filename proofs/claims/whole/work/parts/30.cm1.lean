set_option maxRecDepth 100000 in
set_option maxHeartbeats 4000000 in
theorem cm_isAccount (l : Launch) (x : XS) (m : MS) (o : Nat → Int64) (a : Int32) : zC l yM_isAccount (Jvm.Cond.code yM_isAccount bM_isAccount 1 (some .boolean) :: Tw) 0 true 0 0 [.int a] (wx x m o) (.inl (some (.int (sAcc a)), wx x m o)) := by
  refine zC_of [some (.int a)] (by decide) rfl (Nat.le_of_ble_eq_true rfl) ?_
  intro p e s mm args below meth c D cI cJ as G hret hex hbd
  refine zz_iload_n G dM_isAccount_0 rfl ?_
  refine zz_if_lt (tgt := 14) G dM_isAccount_1 rfl (fun h1 => ?_) (fun h1 => ?_)
  · refine zz_iconst (v := 0) G dM_isAccount_14 (by decide) ?_
    exact zz_zret G hret dM_isAccount_15 rfl (by rw [show sAcc a = 0 from by rw [sAcc, if_pos h1]]) (Nat.le_of_ble_eq_true rfl) (Nat.le_of_ble_eq_true rfl)
  · refine zz_iload_n G dM_isAccount_4 rfl ?_
    refine zz_bipush (v := 16) G dM_isAccount_5 (by decide) ?_
    refine zz_icmp_ge (tgt := 14) G dM_isAccount_7 rfl (fun h7 => ?_) (fun h7 => ?_)
    · refine zz_iconst (v := 0) G dM_isAccount_14 (by decide) ?_
      exact zz_zret G hret dM_isAccount_15 rfl (by rw [show sAcc a = 0 from by rw [sAcc, if_neg h1, if_pos h7]]) (Nat.le_of_ble_eq_true rfl) (Nat.le_of_ble_eq_true rfl)
    · refine zz_iconst (v := 1) G dM_isAccount_10 (by decide) ?_
      refine zz_goto (tgt := 15) G dM_isAccount_11 rfl ?_
      exact zz_zret G hret dM_isAccount_15 rfl (by rw [show sAcc a = 1 from by rw [sAcc, if_neg h1, if_neg h7]]) (Nat.le_of_ble_eq_true rfl) (Nat.le_of_ble_eq_true rfl)
set_option maxRecDepth 100000 in
set_option maxHeartbeats 4000000 in
theorem cm_isDay (l : Launch) (x : XS) (m : MS) (o : Nat → Int64) (a : Int32) : zC l yM_isDay (Jvm.Cond.code yM_isDay bM_isDay 1 (some .boolean) :: Tw) 0 true 0 0 [.int a] (wx x m o) (.inl (some (.int (sDay a)), wx x m o)) := by
  refine zC_of [some (.int a)] (by decide) rfl (Nat.le_of_ble_eq_true rfl) ?_
  intro p e s mm args below meth c D cI cJ as G hret hex hbd
  refine zz_iload_n G dM_isDay_0 rfl ?_
  refine zz_if_lt (tgt := 15) G dM_isDay_1 rfl (fun h1 => ?_) (fun h1 => ?_)
  · refine zz_iconst (v := 0) G dM_isDay_15 (by decide) ?_
    exact zz_zret G hret dM_isDay_16 rfl (by rw [show sDay a = 0 from by rw [sDay, if_pos h1]]) (Nat.le_of_ble_eq_true rfl) (Nat.le_of_ble_eq_true rfl)
  · refine zz_iload_n G dM_isDay_4 rfl ?_
    refine zz_sipush (v := 1000) G dM_isDay_5 (by decide) ?_
    refine zz_icmp_ge (tgt := 15) G dM_isDay_8 rfl (fun h8 => ?_) (fun h8 => ?_)
    · refine zz_iconst (v := 0) G dM_isDay_15 (by decide) ?_
      exact zz_zret G hret dM_isDay_16 rfl (by rw [show sDay a = 0 from by rw [sDay, if_neg h1, if_pos h8]]) (Nat.le_of_ble_eq_true rfl) (Nat.le_of_ble_eq_true rfl)
    · refine zz_iconst (v := 1) G dM_isDay_11 (by decide) ?_
      refine zz_goto (tgt := 16) G dM_isDay_12 rfl ?_
      exact zz_zret G hret dM_isDay_16 rfl (by rw [show sDay a = 1 from by rw [sDay, if_neg h1, if_neg h8]]) (Nat.le_of_ble_eq_true rfl) (Nat.le_of_ble_eq_true rfl)
set_option maxRecDepth 100000 in
set_option maxHeartbeats 4000000 in
theorem cm_isTime (l : Launch) (x : XS) (m : MS) (o : Nat → Int64) (a : Int32) : zC l yM_isTime (Jvm.Cond.code yM_isTime bM_isTime 2 (some .boolean) :: Tw) 0 true 0 0 [.ref 5, .int a] (wx x m o) (.inl (some (.int (sTime (fm_clock m) a)), wx x m o)) := by
  refine zC_of [some (.ref 5), some (.int a)] (by decide) rfl (Nat.le_of_ble_eq_true rfl) ?_
  intro p e s mm args below meth c D cI cJ as G hret hex hbd
  refine zz_iload_n G dM_isTime_0 rfl ?_
  refine zz_if_lt (tgt := 16) G dM_isTime_1 rfl (fun h1 => ?_) (fun h1 => ?_)
  · refine zz_iconst (v := 0) G dM_isTime_16 (by decide) ?_
    exact zz_zret G hret dM_isTime_17 rfl (by rw [show sTime (fm_clock m) a = 0 from by rw [sTime, if_pos h1]]) (Nat.le_of_ble_eq_true rfl) (Nat.le_of_ble_eq_true rfl)
  · refine zz_iload_n G dM_isTime_4 rfl ?_
    refine zz_aload_n G dM_isTime_5 rfl ?_
    refine zz_get (v := .int (fm_clock m)) G dM_isTime_6 flM_27 rfl rfl ?_
    refine zz_icmp_gt (tgt := 16) G dM_isTime_9 rfl (fun h9 => ?_) (fun h9 => ?_)
    · refine zz_iconst (v := 0) G dM_isTime_16 (by decide) ?_
      exact zz_zret G hret dM_isTime_17 rfl (by rw [show sTime (fm_clock m) a = 0 from by rw [sTime, if_neg h1, if_pos h9]]) (Nat.le_of_ble_eq_true rfl) (Nat.le_of_ble_eq_true rfl)
    · refine zz_iconst (v := 1) G dM_isTime_12 (by decide) ?_
      refine zz_goto (tgt := 17) G dM_isTime_13 rfl ?_
      exact zz_zret G hret dM_isTime_17 rfl (by rw [show sTime (fm_clock m) a = 1 from by rw [sTime, if_neg h1, if_neg h9]]) (Nat.le_of_ble_eq_true rfl) (Nat.le_of_ble_eq_true rfl)
set_option maxRecDepth 100000 in
set_option maxHeartbeats 4000000 in
theorem cm_word (l : Launch) (x : XS) (m : MS) (o : Nat → Int64) (a k : Nat) (iv ik : Int32) (hv : iv = nI a) (hk : ik = nI k) (ha : a < 64) (hk6 : k < 6) : zC l yM_word (Jvm.Cond.code yM_word bM_word 3 (some .int) :: Tw) 0 true 0 0 [.ref 5, .int iv, .int ik] (wx x m o) (.inl (some (.int (fm_words m (6 * a + k))), wx x m o)) := by
  subst hv
  subst hk
  refine zC_of [some (.ref 5), some (.int (nI a)), some (.int (nI k))] (by decide) rfl (Nat.le_of_ble_eq_true rfl) ?_
  intro p e s mm args below meth c D cI cJ as G hret hex hbd
  refine zz_aload_n G dM_word_0 rfl ?_
  refine zz_get (v := .ref 6) G dM_word_1 flM_7 rfl rfl ?_
  refine zz_bipush (v := 6) G dM_word_4 (by decide) ?_
  refine zz_iload_n G dM_word_6 rfl ?_
  refine zz_imul G dM_word_7 ?_
  refine zz_iload_n G dM_word_8 rfl ?_
  refine zz_iadd G dM_word_9 ?_
  refine zz_iald (v := fm_words m (6 * a + k)) G dM_word_10 rfl (iy_in ha hk6) (by rw [iy_at ha hk6]) ?_
  exact zz_iret G hret dM_word_11 (rfl) (Nat.le_of_ble_eq_true rfl) (Nat.le_of_ble_eq_true rfl)
set_option maxRecDepth 100000 in
set_option maxHeartbeats 4000000 in
theorem cm_thrown (l : Launch) (x : XS) (m : MS) (o : Nat → Int64)  : zC l yM_thrown (Jvm.Cond.code yM_thrown bM_thrown 1 (some .int) :: Tw) 0 true 0 0 [.ref 5] (wx x m o) (.inl (some (.int (fm_code m)), wx x m o)) := by
  refine zC_of [some (.ref 5)] (by decide) rfl (Nat.le_of_ble_eq_true rfl) ?_
  intro p e s mm args below meth c D cI cJ as G hret hex hbd
  refine zz_aload_n G dM_thrown_0 rfl ?_
  refine zz_get (v := .int (fm_code m)) G dM_thrown_1 flM_23 rfl rfl ?_
  exact zz_iret G hret dM_thrown_4 (rfl) (Nat.le_of_ble_eq_true rfl) (Nat.le_of_ble_eq_true rfl)
set_option maxRecDepth 100000 in
set_option maxHeartbeats 4000000 in
theorem cm_currentAt (l : Launch) (x : XS) (m : MS) (o : Nat → Int64) (en it : Int32) (t : Nat) (hit : it = nI t) (ht : t ≤ 64) : zC l yM_currentAt (Jvm.Cond.code yM_currentAt bM_currentAt 4 (some .int) :: Tw) 1 true 0 0 [.ref 5, .int en, .int it] (wx x m o) (.inl (some (.int (sCv (sLast (fm_words m) en t))), wx x m o)) := by
  subst hit
  refine zC_of [some (.ref 5), some (.int en), some (.int (nI t)), none] (by decide) rfl (Nat.le_of_ble_eq_true rfl) ?_
  intro p e s mm args below meth c D cI cJ as G hret hex hbd
  have loop : ∀ v : Nat, v ≤ 64 → sLast (fm_words m) en v = sLast (fm_words m) en t → Z p l e (zrm 1) s mm args below meth c 4 D cI cJ as true 0 0 (zMQ below (.inl (some (.int (sCv (sLast (fm_words m) en t))), wx x m o)) D cI cJ as true s 0 0) 4 [some (.ref 5), some (.int en), some (.int (nI t)), some (.int (nI v - 1))] [] (wx x m o) := by
    intro v
    induction v with
    | zero =>
      intro hv hq
      refine zz_iload_n G dM_currentAt_4 rfl ?_
      refine zz_if_lt (tgt := 25) G dM_currentAt_5 rfl (fun h5 => ?_) (fun h5 => (h5 (by decide)).elim)
      refine zz_iload_n G dM_currentAt_25 rfl ?_
      exact zz_iret G hret dM_currentAt_26 (by rw [← hq] <;> rfl) (Nat.le_of_ble_eq_true rfl) (Nat.le_of_ble_eq_true rfl)
    | succ v ih =>
      intro hv hq
      refine zz_eq (lv' := [some (.ref 5), some (.int en), some (.int (nI t)), some (.int (nI v))]) rfl (by rw [nI_pred]) rfl rfl ?_
      refine zz_iload_n G dM_currentAt_4 rfl ?_
      refine zz_if_lt (tgt := 25) G dM_currentAt_5 rfl (fun h5 => (nI_pos (by omega) h5).elim) (fun h5 => ?_)
      refine zz_aload_n G dM_currentAt_8 rfl ?_
      refine zz_iload_n G dM_currentAt_9 rfl ?_
      refine zz_iconst (v := 1) G dM_currentAt_10 (by decide) ?_
      refine zz_callVi (v := fm_words m (6 * v + 1)) (w' := (wx x m o)) (As := [.int (nI v), .int 1]) (rest := []) G (cm_word l x m o v 1 _ _ rfl rfl (by omega) (by decide)) kM_30 dM_currentAt_11 rfl rfl rfl rfl (Nat.le_of_ble_eq_true rfl) (fun _ => rfl) ⟨Nat.le_of_ble_eq_true rfl, Nat.le_of_ble_eq_true rfl⟩ ⟨Nat.le_of_ble_eq_true rfl, Nat.le_of_ble_eq_true rfl⟩ ?_
      refine zz_iload_n G dM_currentAt_14 rfl ?_
      refine zz_icmp_eq (tgt := 25) G dM_currentAt_15 rfl (fun h15 => ?_) (fun h15 => ?_)
      · refine zz_iload_n G dM_currentAt_25 rfl ?_
        exact zz_iret G hret dM_currentAt_26 (by rw [← hq, show sLast (fm_words m) en (v + 1) = some v from by show mL _ _ (v + 1) = _; rw [mL_s, if_pos (show fE (fm_words m) v = en from h15)]] <;> rfl) (Nat.le_of_ble_eq_true rfl) (Nat.le_of_ble_eq_true rfl)
      · refine zz_iload_n G dM_currentAt_18 rfl ?_
        refine zz_iconst (v := 1) G dM_currentAt_19 (by decide) ?_
        refine zz_isub G dM_currentAt_20 ?_
        refine zz_istore_n (lv' := [some (.ref 5), some (.int en), some (.int (nI t)), some (.int ((nI v) - 1))]) G dM_currentAt_21 (Nat.le_of_ble_eq_true rfl) rfl ?_
        refine zz_goto (tgt := 4) G dM_currentAt_22 rfl ?_
        refine ih (by omega) ?_
        rw [← hq]
        show _ = mL _ _ (v + 1)
        rw [mL_s, if_neg (show ¬ fE (fm_words m) v = en from h15)]
        rfl
  refine zz_iload_n G dM_currentAt_0 rfl ?_
  refine zz_iconst (v := 1) G dM_currentAt_1 (by decide) ?_
  refine zz_isub G dM_currentAt_2 ?_
  refine zz_istore_n (lv' := [some (.ref 5), some (.int en), some (.int (nI t)), some (.int ((nI t) - 1))]) G dM_currentAt_3 (Nat.le_of_ble_eq_true rfl) rfl ?_
  exact loop t ht rfl
set_option maxRecDepth 100000 in
set_option maxHeartbeats 4000000 in
theorem cm_follow (l : Launch) (x : XS) (m : MS) (o : Nat → Int64) (h : Int64) (b : Int32) : zC l yM_follow (Jvm.Cond.code yM_follow bM_follow 3 (some .long) :: Tw) 0 true 0 0 [.long h, .int b] (wx x m o) (.inl (some (.long (sFol h b)), wx x m o)) := by
  refine zC_of [some (.long h), none, some (.int b)] (by decide) rfl (Nat.le_of_ble_eq_true rfl) ?_
  intro p e s mm args below meth c D cI cJ as G hret hex hbd
  refine zz_lload_n G dM_follow_0 rfl ?_
  refine zz_lload_n G dM_follow_1 rfl ?_
  refine zz_bipush (v := 27) G dM_follow_2 (by decide) ?_
  refine zz_lushr (v := sUsr h) G dM_follow_4 rfl ?_
  refine zz_lxor G dM_follow_5 ?_
  refine zz_ldc2 (v := 2685821657736338717) G dM_follow_6 tw_505 ?_
  refine zz_lmul G dM_follow_9 ?_
  refine zz_iload_n G dM_follow_10 rfl ?_
  refine zz_i2l G dM_follow_11 ?_
  refine zz_ladd G dM_follow_12 ?_
  exact zz_lret G hret dM_follow_13 (rfl) (Nat.le_of_ble_eq_true rfl) (Nat.le_of_ble_eq_true rfl)
set_option maxRecDepth 100000 in
set_option maxHeartbeats 4000000 in
theorem cm_linkOf (l : Launch) (x : XS) (m : MS) (o : Nat → Int64) (a : Nat) (iv : Int32) (h : Int64) (hiv : iv = nI a) (ha : a < 64) : zC l yM_linkOf (Jvm.Cond.code yM_linkOf bM_linkOf 7 (some .long) :: Tw) 1 true 0 0 [.ref 5, .int iv, .long h] (wx x m o) (.inl (some (.long (sLnk (fm_words m) a h 6)), wx x m o)) := by
  subst hiv
  refine zC_of [some (.ref 5), some (.int (nI a)), some (.long h), none, none, none, none] (by decide) rfl (Nat.le_of_ble_eq_true rfl) ?_
  intro p e s mm args below meth c D cI cJ as G hret hex hbd
  have loop : ∀ (d k : Nat), k + d = 6 → Z p l e (zrm 1) s mm args below meth c 7 D cI cJ as true 0 0 (zMQ below (.inl (some (.long (sLnk (fm_words m) a h 6)), wx x m o)) D cI cJ as true s 0 0) 6 [some (.ref 5), some (.int (nI a)), some (.long h), none, some (.long (sLnk (fm_words m) a h k)), none, some (.int (nI k))] [] (wx x m o) := by
    intro d
    induction d with
    | zero =>
      intro k hk
      have hk : k = 6 := by omega
      subst hk
      refine zz_iload G dM_linkOf_6 rfl ?_
      refine zz_bipush (v := 6) G dM_linkOf_8 (by decide) ?_
      refine zz_icmp_ge (tgt := 33) G dM_linkOf_10 rfl (fun h10 => ?_) (fun h10 => (h10 (by decide)).elim)
      refine zz_lload G dM_linkOf_33 rfl ?_
      exact zz_lret G hret dM_linkOf_35 (rfl) (Nat.le_of_ble_eq_true rfl) (Nat.le_of_ble_eq_true rfl)
    | succ d ih =>
      intro k hk
      refine zz_iload G dM_linkOf_6 rfl ?_
      refine zz_bipush (v := 6) G dM_linkOf_8 (by decide) ?_
      refine zz_icmp_ge (tgt := 33) G dM_linkOf_10 rfl (fun h10 => (nI_ge (show k < 6 by omega) (by decide) h10).elim) (fun h10 => ?_)
      refine zz_lload G dM_linkOf_13 rfl ?_
      refine zz_aload_n G dM_linkOf_15 rfl ?_
      refine zz_iload_n G dM_linkOf_16 rfl ?_
      refine zz_iload G dM_linkOf_17 rfl ?_
      refine zz_callVi (v := fm_words m (6 * a + k)) (w' := (wx x m o)) (As := [.int (nI a), .int (nI k)]) (rest := [.long (sLnk (fm_words m) a h k)]) G (cm_word l x m o a k _ _ rfl rfl (ha) (by omega)) kM_30 dM_linkOf_19 rfl rfl rfl rfl (Nat.le_of_ble_eq_true rfl) (fun _ => rfl) ⟨Nat.le_of_ble_eq_true rfl, Nat.le_of_ble_eq_true rfl⟩ ⟨Nat.le_of_ble_eq_true rfl, Nat.le_of_ble_eq_true rfl⟩ ?_
      refine zz_callSl (v := sFol (sLnk (fm_words m) a h k) (fm_words m (6 * a + k))) (w' := (wx x m o)) (As := [.long (sLnk (fm_words m) a h k), .int (fm_words m (6 * a + k))]) (rest := []) G (cm_follow l x m o (sLnk (fm_words m) a h k) (fm_words m (6 * a + k))) kM_36 dM_linkOf_22 rfl rfl (Nat.le_of_ble_eq_true rfl) (fun _ => rfl) ⟨Nat.le_of_ble_eq_true rfl, Nat.le_of_ble_eq_true rfl⟩ ⟨Nat.le_of_ble_eq_true rfl, Nat.le_of_ble_eq_true rfl⟩ ?_
      refine zz_lstore (lv' := [some (.ref 5), some (.int (nI a)), some (.long h), none, some (.long (sFol (sLnk (fm_words m) a h k) (fm_words m (6 * a + k)))), none, some (.int (nI k))]) G dM_linkOf_25 (Nat.le_of_ble_eq_true rfl) rfl ?_
      refine zz_iinc (v := nI (k + 1)) (lv' := [some (.ref 5), some (.int (nI a)), some (.long h), none, some (.long (sFol (sLnk (fm_words m) a h k) (fm_words m (6 * a + k)))), none, some (.int (nI (k + 1)))]) G dM_linkOf_27 rfl (by rw [nI_succ] <;> rfl) rfl ?_
      refine zz_goto (tgt := 6) G dM_linkOf_30 rfl ?_
      refine zz_eq (lv' := [some (.ref 5), some (.int (nI a)), some (.long h), none, some (.long (sLnk (fm_words m) a h (k + 1))), none, some (.int (nI (k + 1)))]) rfl rfl rfl rfl ?_
      exact ih (k + 1) (by omega)
  refine zz_lload_n G dM_linkOf_0 rfl ?_
  refine zz_lstore (lv' := [some (.ref 5), some (.int (nI a)), some (.long h), none, some (.long h), none, none]) G dM_linkOf_1 (Nat.le_of_ble_eq_true rfl) rfl ?_
  refine zz_iconst (v := 0) G dM_linkOf_3 (by decide) ?_
  refine zz_istore (lv' := [some (.ref 5), some (.int (nI a)), some (.long h), none, some (.long h), none, some (.int 0)]) G dM_linkOf_4 (Nat.le_of_ble_eq_true rfl) rfl ?_
  exact loop 6 0 (by omega)
set_option maxRecDepth 100000 in
set_option maxHeartbeats 4000000 in
theorem cm_linkBefore (l : Launch) (x : XS) (m : MS) (o : Nat → Int64) (a : Nat) (iv : Int32) (hiv : iv = nI a) (ha : a ≤ 64) : zC l yM_linkBefore (Jvm.Cond.code yM_linkBefore bM_linkBefore 2 (some .long) :: Tw) 0 true 0 0 [.ref 5, .int iv] (wx x m o) (.inl (some (.long (sBef (fm_links m) a)), wx x m o)) := by
  subst hiv
  refine zC_of [some (.ref 5), some (.int (nI a))] (by decide) rfl (Nat.le_of_ble_eq_true rfl) ?_
  intro p e s mm args below meth c D cI cJ as G hret hex hbd
  cases a with
  | zero =>
    refine zz_iload_n G dM_linkBefore_0 rfl ?_
    refine zz_if_ne (tgt := 10) G dM_linkBefore_1 rfl (fun h1 => (h1 rfl).elim) (fun h1 => ?_)
    refine zz_ldc2 (v := 1469598103) G dM_linkBefore_4 tw_497 ?_
    refine zz_goto (tgt := 18) G dM_linkBefore_7 rfl ?_
    exact zz_lret G hret dM_linkBefore_18 (rfl) (Nat.le_of_ble_eq_true rfl) (Nat.le_of_ble_eq_true rfl)
  | succ a =>
    refine zz_iload_n G dM_linkBefore_0 rfl ?_
    refine zz_if_ne (tgt := 10) G dM_linkBefore_1 rfl (fun h1 => ?_) (fun h1 => (nI_ne0 (by omega) (by omega) h1).elim)
    refine zz_aload_n G dM_linkBefore_10 rfl ?_
    refine zz_get (v := .ref 7) G dM_linkBefore_11 flM_13 rfl rfl ?_
    refine zz_iload_n G dM_linkBefore_14 rfl ?_
    refine zz_iconst (v := 1) G dM_linkBefore_15 (by decide) ?_
    refine zz_isub G dM_linkBefore_16 ?_
    refine zz_lald (v := fm_links m a) G dM_linkBefore_17 rfl (by rw [nI_pred]; exact i1_in (by omega)) (by rw [nI_pred, i1_at (by omega)]) ?_
    exact zz_lret G hret dM_linkBefore_18 (rfl) (Nat.le_of_ble_eq_true rfl) (Nat.le_of_ble_eq_true rfl)
set_option maxRecDepth 100000 in
set_option maxHeartbeats 4000000 in
theorem cm_turnoverNow (l : Launch) (x : XS) (m : MS) (o : Nat → Int64) (a : Int32) (n e1 : Nat) (hcl : fm_clock m = nI n) (hn : n ≤ 64) (hen : fm_entries m = nI e1) (he64 : e1 ≤ 64) (hlv : ∀ j, j < e1 → ∃ v, sLast (fm_words m) (nI j) n = some v) : zC l yM_turnoverNow (Jvm.Cond.code yM_turnoverNow bM_turnoverNow 7 (some .long) :: Tw) 2 true 0 0 [.ref 5, .int a] (wx x m o) (.inl (some (.long (mTurn (fm_words m) a n e1)), wx x m o)) := by
  refine zC_of [some (.ref 5), some (.int a), none, none, none, none, none] (by decide) rfl (Nat.le_of_ble_eq_true rfl) ?_
  intro p e s mm args below meth c D cI cJ as G hret hex hbd
  have loop : ∀ (d j : Nat), j + d = e1 → Z p l e (zrm 2) s mm args below meth c 7 D cI cJ as true 0 0 (zMQ below (.inl (some (.long (mTurn (fm_words m) a n e1)), wx x m o)) D cI cJ as true s 0 0) 5 [some (.ref 5), some (.int a), some (.long (mTurn (fm_words m) a n j)), none, some (.int (nI j)), none, none] [] (wx x m o) := by
    intro d
    induction d with
    | zero =>
      intro j hj
      have hj : e1 = j := by omega
      subst hj
      refine zz_iload G dM_turnoverNow_5 rfl ?_
      refine zz_aload_n G dM_turnoverNow_7 rfl ?_
      refine zz_get (v := .int (nI e1)) G dM_turnoverNow_8 flM_42 rfl (by rw [← hen]; rfl) ?_
      refine zz_icmp_ge (tgt := 81) G dM_turnoverNow_11 rfl (fun h11 => ?_) (fun h11 => (h11 (nI_le (Nat.le_refl _) (by omega))).elim)
      refine zz_lload_n G dM_turnoverNow_81 rfl ?_
      exact zz_lret G hret dM_turnoverNow_82 (rfl) (Nat.le_of_ble_eq_true rfl) (Nat.le_of_ble_eq_true rfl)
    | succ d ih =>
      intro j hj
      obtain ⟨v, hv⟩ := hlv j (by omega)
      have hvn : v < n := (mL_lt n hv).1
      refine zz_iload G dM_turnoverNow_5 rfl ?_
      refine zz_aload_n G dM_turnoverNow_7 rfl ?_
      refine zz_get (v := .int (nI e1)) G dM_turnoverNow_8 flM_42 rfl (by rw [← hen]; rfl) ?_
      refine zz_icmp_ge (tgt := 81) G dM_turnoverNow_11 rfl (fun h11 => (nI_ge (by omega) (by omega) h11).elim) (fun h11 => ?_)
      refine zz_aload_n G dM_turnoverNow_14 rfl ?_
      refine zz_iload G dM_turnoverNow_15 rfl ?_
      refine zz_aload_n G dM_turnoverNow_17 rfl ?_
      refine zz_get (v := .int (nI n)) G dM_turnoverNow_18 flM_27 rfl (by rw [← hcl]; rfl) ?_
      refine zz_callVi (v := nI v) (w' := (wx x m o)) (As := [.int (nI j), .int (nI n)]) (rest := []) G (by have q := cm_currentAt l x m o (nI j) _ n rfl (hn); rw [show sLast (fm_words m) (nI j) n = _ from hv] at q; exact q) kM_45 dM_turnoverNow_21 rfl rfl rfl rfl (Nat.le_of_ble_eq_true rfl) (fun _ => rfl) ⟨Nat.le_of_ble_eq_true rfl, Nat.le_of_ble_eq_true rfl⟩ ⟨Nat.le_of_ble_eq_true rfl, Nat.le_of_ble_eq_true rfl⟩ ?_
      refine zz_istore (lv' := [some (.ref 5), some (.int a), some (.long (mTurn (fm_words m) a n j)), none, some (.int (nI j)), some (.int (nI v)), none]) G dM_turnoverNow_24 (Nat.le_of_ble_eq_true rfl) rfl ?_
      refine zz_aload_n G dM_turnoverNow_26 rfl ?_
      refine zz_iload G dM_turnoverNow_27 rfl ?_
      refine zz_iconst (v := 2) G dM_turnoverNow_29 (by decide) ?_
      refine zz_callVi (v := fm_words m (6 * v + 2)) (w' := (wx x m o)) (As := [.int (nI v), .int 2]) (rest := []) G (cm_word l x m o v 2 _ _ rfl rfl (by omega) (by decide)) kM_30 dM_turnoverNow_30 rfl rfl rfl rfl (Nat.le_of_ble_eq_true rfl) (fun _ => rfl) ⟨Nat.le_of_ble_eq_true rfl, Nat.le_of_ble_eq_true rfl⟩ ⟨Nat.le_of_ble_eq_true rfl, Nat.le_of_ble_eq_true rfl⟩ ?_
      refine zz_iload_n G dM_turnoverNow_33 rfl ?_
      refine zz_icmp_eq (tgt := 48) G dM_turnoverNow_34 rfl (fun h34 => ?_) (fun h34 => ?_)
      · refine zz_iconst (v := 1) G dM_turnoverNow_48 (by decide) ?_
        refine zz_goto (tgt := 53) G dM_turnoverNow_49 rfl ?_
        refine zz_istore (lv' := [some (.ref 5), some (.int a), some (.long (mTurn (fm_words m) a n j)), none, some (.int (nI j)), some (.int (nI v)), some (.int 1)]) G dM_turnoverNow_53 (Nat.le_of_ble_eq_true rfl) rfl ?_
        refine zz_iload G dM_turnoverNow_55 rfl ?_
        refine zz_if_eq (tgt := 73) G dM_turnoverNow_57 rfl (fun h57 => ((absurd h57 (by decide) : False)).elim) (fun h57 => ?_)
        refine zz_lload_n G dM_turnoverNow_60 rfl ?_
        refine zz_aload_n G dM_turnoverNow_61 rfl ?_
        refine zz_iload G dM_turnoverNow_62 rfl ?_
        refine zz_iconst (v := 4) G dM_turnoverNow_64 (by decide) ?_
        refine zz_callVi (v := fm_words m (6 * v + 4)) (w' := (wx x m o)) (As := [.int (nI v), .int 4]) (rest := [.long (mTurn (fm_words m) a n j)]) G (cm_word l x m o v 4 _ _ rfl rfl (by omega) (by decide)) kM_30 dM_turnoverNow_65 rfl rfl rfl rfl (Nat.le_of_ble_eq_true rfl) (fun _ => rfl) ⟨Nat.le_of_ble_eq_true rfl, Nat.le_of_ble_eq_true rfl⟩ ⟨Nat.le_of_ble_eq_true rfl, Nat.le_of_ble_eq_true rfl⟩ ?_
        refine zz_i2l G dM_turnoverNow_68 ?_
        refine zz_ladd G dM_turnoverNow_69 ?_
        refine zz_goto (tgt := 74) G dM_turnoverNow_70 rfl ?_
        refine zz_lstore_n (lv' := [some (.ref 5), some (.int a), some (.long ((mTurn (fm_words m) a n j) + ((fm_words m (6 * v + 4)).toInt64))), none, some (.int (nI j)), some (.int (nI v)), some (.int 1)]) G dM_turnoverNow_74 (Nat.le_of_ble_eq_true rfl) rfl ?_
        refine zz_iinc (v := nI (j + 1)) (lv' := [some (.ref 5), some (.int a), some (.long ((mTurn (fm_words m) a n j) + ((fm_words m (6 * v + 4)).toInt64))), none, some (.int (nI (j + 1))), some (.int (nI v)), some (.int 1)]) G dM_turnoverNow_75 rfl (by rw [nI_succ] <;> rfl) rfl ?_
        refine zz_goto (tgt := 5) G dM_turnoverNow_78 rfl ?_
        refine zz_few (lv' := [some (.ref 5), some (.int a), some (.long ((mTurn (fm_words m) a n j) + ((fm_words m (6 * v + 4)).toInt64))), none, some (.int (nI (j + 1))), none, none]) (by exact ⟨rfl, rfl, rfl, rfl, trivial⟩) ?_
        refine zz_eq (lv' := [some (.ref 5), some (.int a), some (.long (mTurn (fm_words m) a n (j + 1))), none, some (.int (nI (j + 1))), none, none]) rfl (by rw [show mTurn (fm_words m) a n (j + 1) = (mTurn (fm_words m) a n j) + ((fm_words m (6 * v + 4)).toInt64) from by show (match sLast (fm_words m) (nI j) n with | none => _ | some v => if sTouch (fm_words m) v a = 0 then _ else _) = _; rw [hv]; show (if sTouch (fm_words m) v a = 0 then _ else _) = _; rw [if_neg (show ¬ sTouch (fm_words m) v a = 0 from by unfold sTouch; rw [if_pos h34]; decide)]]) rfl rfl ?_
        exact ih (j + 1) (by omega)
      · refine zz_aload_n G dM_turnoverNow_37 rfl ?_
        refine zz_iload G dM_turnoverNow_38 rfl ?_
        refine zz_iconst (v := 3) G dM_turnoverNow_40 (by decide) ?_
        refine zz_callVi (v := fm_words m (6 * v + 3)) (w' := (wx x m o)) (As := [.int (nI v), .int 3]) (rest := []) G (cm_word l x m o v 3 _ _ rfl rfl (by omega) (by decide)) kM_30 dM_turnoverNow_41 rfl rfl rfl rfl (Nat.le_of_ble_eq_true rfl) (fun _ => rfl) ⟨Nat.le_of_ble_eq_true rfl, Nat.le_of_ble_eq_true rfl⟩ ⟨Nat.le_of_ble_eq_true rfl, Nat.le_of_ble_eq_true rfl⟩ ?_
        refine zz_iload_n G dM_turnoverNow_44 rfl ?_
        refine zz_icmp_ne (tgt := 52) G dM_turnoverNow_45 rfl (fun h45 => ?_) (fun h45 => ?_)
        · refine zz_iconst (v := 0) G dM_turnoverNow_52 (by decide) ?_
          refine zz_istore (lv' := [some (.ref 5), some (.int a), some (.long (mTurn (fm_words m) a n j)), none, some (.int (nI j)), some (.int (nI v)), some (.int 0)]) G dM_turnoverNow_53 (Nat.le_of_ble_eq_true rfl) rfl ?_
          refine zz_iload G dM_turnoverNow_55 rfl ?_
          refine zz_if_eq (tgt := 73) G dM_turnoverNow_57 rfl (fun h57 => ?_) (fun h57 => ((absurd h57 (by decide) : False)).elim)
          refine zz_lload_n G dM_turnoverNow_73 rfl ?_
          refine zz_lstore_n (lv' := [some (.ref 5), some (.int a), some (.long (mTurn (fm_words m) a n j)), none, some (.int (nI j)), some (.int (nI v)), some (.int 0)]) G dM_turnoverNow_74 (Nat.le_of_ble_eq_true rfl) rfl ?_
          refine zz_iinc (v := nI (j + 1)) (lv' := [some (.ref 5), some (.int a), some (.long (mTurn (fm_words m) a n j)), none, some (.int (nI (j + 1))), some (.int (nI v)), some (.int 0)]) G dM_turnoverNow_75 rfl (by rw [nI_succ] <;> rfl) rfl ?_
          refine zz_goto (tgt := 5) G dM_turnoverNow_78 rfl ?_
          refine zz_few (lv' := [some (.ref 5), some (.int a), some (.long (mTurn (fm_words m) a n j)), none, some (.int (nI (j + 1))), none, none]) (by exact ⟨rfl, rfl, rfl, rfl, trivial⟩) ?_
          refine zz_eq (lv' := [some (.ref 5), some (.int a), some (.long (mTurn (fm_words m) a n (j + 1))), none, some (.int (nI (j + 1))), none, none]) rfl (by rw [show mTurn (fm_words m) a n (j + 1) = mTurn (fm_words m) a n j from by show (match sLast (fm_words m) (nI j) n with | none => _ | some v => if sTouch (fm_words m) v a = 0 then _ else _) = _; rw [hv]; show (if sTouch (fm_words m) v a = 0 then _ else _) = _; rw [if_pos (show sTouch (fm_words m) v a = 0 from by unfold sTouch; rw [if_neg h34, if_neg h45])]]) rfl rfl ?_
          exact ih (j + 1) (by omega)
        · refine zz_iconst (v := 1) G dM_turnoverNow_48 (by decide) ?_
          refine zz_goto (tgt := 53) G dM_turnoverNow_49 rfl ?_
          refine zz_istore (lv' := [some (.ref 5), some (.int a), some (.long (mTurn (fm_words m) a n j)), none, some (.int (nI j)), some (.int (nI v)), some (.int 1)]) G dM_turnoverNow_53 (Nat.le_of_ble_eq_true rfl) rfl ?_
          refine zz_iload G dM_turnoverNow_55 rfl ?_
          refine zz_if_eq (tgt := 73) G dM_turnoverNow_57 rfl (fun h57 => ((absurd h57 (by decide) : False)).elim) (fun h57 => ?_)
          refine zz_lload_n G dM_turnoverNow_60 rfl ?_
          refine zz_aload_n G dM_turnoverNow_61 rfl ?_
          refine zz_iload G dM_turnoverNow_62 rfl ?_
          refine zz_iconst (v := 4) G dM_turnoverNow_64 (by decide) ?_
          refine zz_callVi (v := fm_words m (6 * v + 4)) (w' := (wx x m o)) (As := [.int (nI v), .int 4]) (rest := [.long (mTurn (fm_words m) a n j)]) G (cm_word l x m o v 4 _ _ rfl rfl (by omega) (by decide)) kM_30 dM_turnoverNow_65 rfl rfl rfl rfl (Nat.le_of_ble_eq_true rfl) (fun _ => rfl) ⟨Nat.le_of_ble_eq_true rfl, Nat.le_of_ble_eq_true rfl⟩ ⟨Nat.le_of_ble_eq_true rfl, Nat.le_of_ble_eq_true rfl⟩ ?_
          refine zz_i2l G dM_turnoverNow_68 ?_
          refine zz_ladd G dM_turnoverNow_69 ?_
          refine zz_goto (tgt := 74) G dM_turnoverNow_70 rfl ?_
          refine zz_lstore_n (lv' := [some (.ref 5), some (.int a), some (.long ((mTurn (fm_words m) a n j) + ((fm_words m (6 * v + 4)).toInt64))), none, some (.int (nI j)), some (.int (nI v)), some (.int 1)]) G dM_turnoverNow_74 (Nat.le_of_ble_eq_true rfl) rfl ?_
          refine zz_iinc (v := nI (j + 1)) (lv' := [some (.ref 5), some (.int a), some (.long ((mTurn (fm_words m) a n j) + ((fm_words m (6 * v + 4)).toInt64))), none, some (.int (nI (j + 1))), some (.int (nI v)), some (.int 1)]) G dM_turnoverNow_75 rfl (by rw [nI_succ] <;> rfl) rfl ?_
          refine zz_goto (tgt := 5) G dM_turnoverNow_78 rfl ?_
          refine zz_few (lv' := [some (.ref 5), some (.int a), some (.long ((mTurn (fm_words m) a n j) + ((fm_words m (6 * v + 4)).toInt64))), none, some (.int (nI (j + 1))), none, none]) (by exact ⟨rfl, rfl, rfl, rfl, trivial⟩) ?_
          refine zz_eq (lv' := [some (.ref 5), some (.int a), some (.long (mTurn (fm_words m) a n (j + 1))), none, some (.int (nI (j + 1))), none, none]) rfl (by rw [show mTurn (fm_words m) a n (j + 1) = (mTurn (fm_words m) a n j) + ((fm_words m (6 * v + 4)).toInt64) from by show (match sLast (fm_words m) (nI j) n with | none => _ | some v => if sTouch (fm_words m) v a = 0 then _ else _) = _; rw [hv]; show (if sTouch (fm_words m) v a = 0 then _ else _) = _; rw [if_neg (show ¬ sTouch (fm_words m) v a = 0 from by unfold sTouch; rw [if_neg h34, if_pos h45]; decide)]]) rfl rfl ?_
          exact ih (j + 1) (by omega)
  refine zz_lconst (v := 0) G dM_turnoverNow_0 (by decide) ?_
  refine zz_lstore_n (lv' := [some (.ref 5), some (.int a), some (.long 0), none, none, none, none]) G dM_turnoverNow_1 (Nat.le_of_ble_eq_true rfl) rfl ?_
  refine zz_iconst (v := 0) G dM_turnoverNow_2 (by decide) ?_
  refine zz_istore (lv' := [some (.ref 5), some (.int a), some (.long 0), none, some (.int 0), none, none]) G dM_turnoverNow_3 (Nat.le_of_ble_eq_true rfl) rfl ?_
  exact loop e1 0 (by omega)
set_option maxRecDepth 100000 in
set_option maxHeartbeats 4000000 in
theorem cm_tooMuch (l : Launch) (x : XS) (m : MS) (o : Nat → Int64) (a : Int32) (b : Int64) (n e1 : Nat) (hcl : fm_clock m = nI n) (hn : n ≤ 64) (hen : fm_entries m = nI e1) (he64 : e1 ≤ 64) (hlv : ∀ j, j < e1 → ∃ v, sLast (fm_words m) (nI j) n = some v) : zC l yM_tooMuch (Jvm.Cond.code yM_tooMuch bM_tooMuch 4 (some .boolean) :: Tw) 3 true 0 0 [.ref 5, .int a, .long b] (wx x m o) (.inl (some (.int (sMuch (fm_words m) a n e1 b)), wx x m o)) := by
  refine zC_of [some (.ref 5), some (.int a), some (.long b), none] (by decide) rfl (Nat.le_of_ble_eq_true rfl) ?_
  intro p e s mm args below meth c D cI cJ as G hret hex hbd
  refine zz_aload_n G dM_tooMuch_0 rfl ?_
  refine zz_iload_n G dM_tooMuch_1 rfl ?_
  refine zz_callVl (v := mTurn (fm_words m) a n e1) (w' := (wx x m o)) (As := [.int a]) (rest := []) G (cm_turnoverNow l x m o a n e1 hcl hn hen he64 hlv) kM_48 dM_tooMuch_2 rfl rfl rfl rfl (Nat.le_of_ble_eq_true rfl) (fun _ => rfl) ⟨Nat.le_of_ble_eq_true rfl, Nat.le_of_ble_eq_true rfl⟩ ⟨Nat.le_of_ble_eq_true rfl, Nat.le_of_ble_eq_true rfl⟩ ?_
  refine zz_lload_n G dM_tooMuch_5 rfl ?_
  refine zz_ladd G dM_tooMuch_6 ?_
  refine zz_ldc2 (v := 2147483647) G dM_tooMuch_7 tw_484 ?_
  refine zz_lcmp G dM_tooMuch_10 ?_
  refine zz_if_le (tgt := 18) G dM_tooMuch_11 rfl (fun h11 => ?_) (fun h11 => ?_)
  · refine zz_iconst (v := 0) G dM_tooMuch_18 (by decide) ?_
    exact zz_zret G hret dM_tooMuch_19 rfl (by rw [show sMuch (fm_words m) a n e1 b = 0 from by rw [sMuch, if_pos h11]]) (Nat.le_of_ble_eq_true rfl) (Nat.le_of_ble_eq_true rfl)
  · refine zz_iconst (v := 1) G dM_tooMuch_14 (by decide) ?_
    refine zz_goto (tgt := 19) G dM_tooMuch_15 rfl ?_
    exact zz_zret G hret dM_tooMuch_19 rfl (by rw [show sMuch (fm_words m) a n e1 b = 1 from by rw [sMuch, if_neg h11]]) (Nat.le_of_ble_eq_true rfl) (Nat.le_of_ble_eq_true rfl)
set_option maxRecDepth 100000 in
set_option maxHeartbeats 4000000 in
theorem cm_write (l : Launch) (x : XS) (m : MS) (o : Nat → Int64) (n k : Nat) (ik b : Int32) (hik : ik = nI k) (hcl : fm_clock m = nI n) (hn : n < 64) (hk : k < 6) : zC l yM_write (Jvm.Cond.code yM_write bM_write 3 none :: Tw) 0 false 0 0 [.ref 5, .int ik, .int b] (wx x m o) (.inl (none, wx x (sm_words m (upd (fm_words m) (6 * n + k) b)) o)) := by
  subst hik
  refine zC_of [some (.ref 5), some (.int (nI k)), some (.int b)] (by decide) rfl (Nat.le_of_ble_eq_true rfl) ?_
  intro p e s mm args below meth c D cI cJ as G hret hex hbd
  refine zz_aload_n G dM_write_0 rfl ?_
  refine zz_get (v := .ref 6) G dM_write_1 flM_7 rfl rfl ?_
  refine zz_bipush (v := 6) G dM_write_4 (by decide) ?_
  refine zz_aload_n G dM_write_6 rfl ?_
  refine zz_get (v := .int (nI n)) G dM_write_7 flM_27 rfl (by rw [← hcl]; rfl) ?_
  refine zz_imul G dM_write_10 ?_
  refine zz_iload_n G dM_write_11 rfl ?_
  refine zz_iadd G dM_write_12 ?_
  refine zz_iload_n G dM_write_13 rfl ?_
  refine zz_iast (w' := (wx x (sm_words m (upd (fm_words m) (6 * n + k) b)) o)) rfl G dM_write_14 rfl (iy_in hn hk) (by rw [iy_at hn hk] <;> rfl) ?_
  exact zz_vret G hret dM_write_15 (rfl) (Nat.le_of_ble_eq_true rfl) (Nat.le_of_ble_eq_true rfl)
set_option maxRecDepth 100000 in
set_option maxHeartbeats 4000000 in
theorem cm_add (l : Launch) (x : XS) (m : MS) (o : Nat → Int64) (n : Nat) (k e2 d c1 a y : Int32) (hcl : fm_clock m = nI n) (hn : n < 64) : zC l yM_add (Jvm.Cond.code yM_add bM_add 7 (some .int) :: Tw) 2 false 0 0 [.ref 5, .int k, .int e2, .int d, .int c1, .int a, .int y] (wx x m o) (.inl (some (.int (nI n)), wx x (mApp m n k e2 d c1 a y) o)) := by
  refine zC_of [some (.ref 5), some (.int k), some (.int e2), some (.int d), some (.int c1), some (.int a), some (.int y)] (by decide) rfl (Nat.le_of_ble_eq_true rfl) ?_
  intro p e s mm args below meth c D cI cJ as G hret hex hbd
  refine zz_aload_n G dM_add_0 rfl ?_
  refine zz_iconst (v := 0) G dM_add_1 (by decide) ?_
  refine zz_iload_n G dM_add_2 rfl ?_
  refine zz_callVv (w' := (wx x (sm_words m (upd (fm_words m) (6 * n + 0) k)) o)) (As := [.int 0, .int k]) (rest := []) G (cm_write l x m o n 0 _ k rfl hcl hn (by decide)) kM_54 dM_add_3 rfl rfl rfl rfl (Nat.le_of_ble_eq_true rfl) (fun h => by cases h) ⟨Nat.le_of_ble_eq_true rfl, Nat.le_of_ble_eq_true rfl⟩ ⟨Nat.le_of_ble_eq_true rfl, Nat.le_of_ble_eq_true rfl⟩ ?_
  refine zz_aload_n G dM_add_6 rfl ?_
  refine zz_iconst (v := 1) G dM_add_7 (by decide) ?_
  refine zz_iload_n G dM_add_8 rfl ?_
  refine zz_callVv (w' := (wx x (sm_words m (upd (upd (fm_words m) (6 * n + 0) k) (6 * n + 1) e2)) o)) (As := [.int 1, .int e2]) (rest := []) G (cm_write l x (sm_words m (upd (fm_words m) (6 * n + 0) k)) o n 1 _ e2 rfl hcl hn (by decide)) kM_54 dM_add_9 rfl rfl rfl rfl (Nat.le_of_ble_eq_true rfl) (fun h => by cases h) ⟨Nat.le_of_ble_eq_true rfl, Nat.le_of_ble_eq_true rfl⟩ ⟨Nat.le_of_ble_eq_true rfl, Nat.le_of_ble_eq_true rfl⟩ ?_
  refine zz_aload_n G dM_add_12 rfl ?_
  refine zz_iconst (v := 2) G dM_add_13 (by decide) ?_
  refine zz_iload_n G dM_add_14 rfl ?_
  refine zz_callVv (w' := (wx x (sm_words m (upd (upd (upd (fm_words m) (6 * n + 0) k) (6 * n + 1) e2) (6 * n + 2) d)) o)) (As := [.int 2, .int d]) (rest := []) G (cm_write l x (sm_words m (upd (upd (fm_words m) (6 * n + 0) k) (6 * n + 1) e2)) o n 2 _ d rfl hcl hn (by decide)) kM_54 dM_add_15 rfl rfl rfl rfl (Nat.le_of_ble_eq_true rfl) (fun h => by cases h) ⟨Nat.le_of_ble_eq_true rfl, Nat.le_of_ble_eq_true rfl⟩ ⟨Nat.le_of_ble_eq_true rfl, Nat.le_of_ble_eq_true rfl⟩ ?_
  refine zz_aload_n G dM_add_18 rfl ?_
  refine zz_iconst (v := 3) G dM_add_19 (by decide) ?_
  refine zz_iload G dM_add_20 rfl ?_
  refine zz_callVv (w' := (wx x (sm_words m (upd (upd (upd (upd (fm_words m) (6 * n + 0) k) (6 * n + 1) e2) (6 * n + 2) d) (6 * n + 3) c1)) o)) (As := [.int 3, .int c1]) (rest := []) G (cm_write l x (sm_words m (upd (upd (upd (fm_words m) (6 * n + 0) k) (6 * n + 1) e2) (6 * n + 2) d)) o n 3 _ c1 rfl hcl hn (by decide)) kM_54 dM_add_22 rfl rfl rfl rfl (Nat.le_of_ble_eq_true rfl) (fun h => by cases h) ⟨Nat.le_of_ble_eq_true rfl, Nat.le_of_ble_eq_true rfl⟩ ⟨Nat.le_of_ble_eq_true rfl, Nat.le_of_ble_eq_true rfl⟩ ?_
  refine zz_aload_n G dM_add_25 rfl ?_
  refine zz_iconst (v := 4) G dM_add_26 (by decide) ?_
  refine zz_iload G dM_add_27 rfl ?_
  refine zz_callVv (w' := (wx x (sm_words m (upd (upd (upd (upd (upd (fm_words m) (6 * n + 0) k) (6 * n + 1) e2) (6 * n + 2) d) (6 * n + 3) c1) (6 * n + 4) a)) o)) (As := [.int 4, .int a]) (rest := []) G (cm_write l x (sm_words m (upd (upd (upd (upd (fm_words m) (6 * n + 0) k) (6 * n + 1) e2) (6 * n + 2) d) (6 * n + 3) c1)) o n 4 _ a rfl hcl hn (by decide)) kM_54 dM_add_29 rfl rfl rfl rfl (Nat.le_of_ble_eq_true rfl) (fun h => by cases h) ⟨Nat.le_of_ble_eq_true rfl, Nat.le_of_ble_eq_true rfl⟩ ⟨Nat.le_of_ble_eq_true rfl, Nat.le_of_ble_eq_true rfl⟩ ?_
  refine zz_aload_n G dM_add_32 rfl ?_
  refine zz_iconst (v := 5) G dM_add_33 (by decide) ?_
  refine zz_iload G dM_add_34 rfl ?_
  refine zz_callVv (w' := (wx x (sm_words m (upd (upd (upd (upd (upd (upd (fm_words m) (6 * n + 0) k) (6 * n + 1) e2) (6 * n + 2) d) (6 * n + 3) c1) (6 * n + 4) a) (6 * n + 5) y)) o)) (As := [.int 5, .int y]) (rest := []) G (cm_write l x (sm_words m (upd (upd (upd (upd (upd (fm_words m) (6 * n + 0) k) (6 * n + 1) e2) (6 * n + 2) d) (6 * n + 3) c1) (6 * n + 4) a)) o n 5 _ y rfl hcl hn (by decide)) kM_54 dM_add_36 rfl rfl rfl rfl (Nat.le_of_ble_eq_true rfl) (fun h => by cases h) ⟨Nat.le_of_ble_eq_true rfl, Nat.le_of_ble_eq_true rfl⟩ ⟨Nat.le_of_ble_eq_true rfl, Nat.le_of_ble_eq_true rfl⟩ ?_
  refine zz_aload_n G dM_add_39 rfl ?_
  refine zz_get (v := .ref 7) G dM_add_40 flM_13 rfl rfl ?_
  refine zz_aload_n G dM_add_43 rfl ?_
  refine zz_get (v := .int (nI n)) G dM_add_44 flM_27 rfl (by rw [← hcl]; rfl) ?_
  refine zz_aload_n G dM_add_47 rfl ?_
  refine zz_aload_n G dM_add_48 rfl ?_
  refine zz_get (v := .int (nI n)) G dM_add_49 flM_27 rfl (by rw [← hcl]; rfl) ?_
  refine zz_aload_n G dM_add_52 rfl ?_
  refine zz_aload_n G dM_add_53 rfl ?_
  refine zz_get (v := .int (nI n)) G dM_add_54 flM_27 rfl (by rw [← hcl]; rfl) ?_
  refine zz_callVl (v := sBef (fm_links m) n) (w' := (wx x (sm_words m (upd (upd (upd (upd (upd (upd (fm_words m) (6 * n + 0) k) (6 * n + 1) e2) (6 * n + 2) d) (6 * n + 3) c1) (6 * n + 4) a) (6 * n + 5) y)) o)) (As := [.int (nI n)]) (rest := [.int (nI n), .ref 5, .int (nI n), .ref 7]) G (cm_linkBefore l x (sm_words m (upd (upd (upd (upd (upd (upd (fm_words m) (6 * n + 0) k) (6 * n + 1) e2) (6 * n + 2) d) (6 * n + 3) c1) (6 * n + 4) a) (6 * n + 5) y)) o n _ rfl (by omega)) kM_58 dM_add_57 rfl rfl rfl rfl (Nat.le_of_ble_eq_true rfl) (fun _ => rfl) ⟨Nat.le_of_ble_eq_true rfl, Nat.le_of_ble_eq_true rfl⟩ ⟨Nat.le_of_ble_eq_true rfl, Nat.le_of_ble_eq_true rfl⟩ ?_
  refine zz_callVl (v := sLnk ((upd (upd (upd (upd (upd (upd (fm_words m) (6 * n + 0) k) (6 * n + 1) e2) (6 * n + 2) d) (6 * n + 3) c1) (6 * n + 4) a) (6 * n + 5) y)) n (sBef (fm_links m) n) 6) (w' := (wx x (sm_words m (upd (upd (upd (upd (upd (upd (fm_words m) (6 * n + 0) k) (6 * n + 1) e2) (6 * n + 2) d) (6 * n + 3) c1) (6 * n + 4) a) (6 * n + 5) y)) o)) (As := [.int (nI n), .long (sBef (fm_links m) n)]) (rest := [.int (nI n), .ref 7]) G (cm_linkOf l x (sm_words m (upd (upd (upd (upd (upd (upd (fm_words m) (6 * n + 0) k) (6 * n + 1) e2) (6 * n + 2) d) (6 * n + 3) c1) (6 * n + 4) a) (6 * n + 5) y)) o n _ (sBef (fm_links m) n) rfl (hn)) kM_61 dM_add_60 rfl rfl rfl rfl (Nat.le_of_ble_eq_true rfl) (fun _ => rfl) ⟨Nat.le_of_ble_eq_true rfl, Nat.le_of_ble_eq_true rfl⟩ ⟨Nat.le_of_ble_eq_true rfl, Nat.le_of_ble_eq_true rfl⟩ ?_
  refine zz_last (w' := (wx x (sm_links (sm_words m (upd (upd (upd (upd (upd (upd (fm_words m) (6 * n + 0) k) (6 * n + 1) e2) (6 * n + 2) d) (6 * n + 3) c1) (6 * n + 4) a) (6 * n + 5) y)) (vp_updL (fm_links m) n (sLnk ((upd (upd (upd (upd (upd (upd (fm_words m) (6 * n + 0) k) (6 * n + 1) e2) (6 * n + 2) d) (6 * n + 3) c1) (6 * n + 4) a) (6 * n + 5) y)) n (sBef (fm_links m) n) 6))) o)) rfl G dM_add_63 rfl (i1_in hn) (by rw [i1_at hn] <;> rfl) ?_
  refine zz_aload_n G dM_add_64 rfl ?_
  refine zz_aload_n G dM_add_65 rfl ?_
  refine zz_get (v := .int (nI n)) G dM_add_66 flM_27 rfl (by rw [← hcl]; rfl) ?_
  refine zz_iconst (v := 1) G dM_add_69 (by decide) ?_
  refine zz_iadd G dM_add_70 ?_
  refine zz_put (w' := (wx x (sm_clock (sm_links (sm_words m (upd (upd (upd (upd (upd (upd (fm_words m) (6 * n + 0) k) (6 * n + 1) e2) (6 * n + 2) d) (6 * n + 3) c1) (6 * n + 4) a) (6 * n + 5) y)) (vp_updL (fm_links m) n (sLnk ((upd (upd (upd (upd (upd (upd (fm_words m) (6 * n + 0) k) (6 * n + 1) e2) (6 * n + 2) d) (6 * n + 3) c1) (6 * n + 4) a) (6 * n + 5) y)) n (sBef (fm_links m) n) 6))) ((nI n) + 1)) o)) rfl G dM_add_71 flM_27 rfl rfl rfl (Nat.le_of_ble_eq_true rfl) rfl ?_
  refine zz_aload_n G dM_add_74 rfl ?_
  refine zz_get (v := .int ((nI n) + 1)) G dM_add_75 flM_27 rfl rfl ?_
  refine zz_iconst (v := 1) G dM_add_78 (by decide) ?_
  refine zz_isub G dM_add_79 ?_
  exact zz_iret G hret dM_add_80 (by rw [show nI n + 1 - 1 = nI n from by rw [← nI_succ, nI_pred]] <;> rfl) (Nat.le_of_ble_eq_true rfl) (Nat.le_of_ble_eq_true rfl)
set_option maxRecDepth 100000 in
set_option maxHeartbeats 4000000 in
theorem cm_living (l : Launch) (x : XS) (m : MS) (o : Nat → Int64) (en : Int32) (n e1 : Nat) (hcl : fm_clock m = nI n) (hn : n ≤ 64) (hen : fm_entries m = nI e1) (he64 : e1 ≤ 64) : zC l yM_living (Jvm.Cond.code yM_living bM_living 3 (some .int) :: Tw) 2 true 0 0 [.ref 5, .int en] (wx x m o) (.inl (some (.int (sCv (sLiv (fm_words m) n e1 en))), wx x m o)) := by
  refine zC_of [some (.ref 5), some (.int en), none] (by decide) rfl (Nat.le_of_ble_eq_true rfl) ?_
  intro p e s mm args below meth c D cI cJ as G hret hex hbd
  rcases hq : sLast (fm_words m) en n with _ | u
  · refine zz_iload_n G dM_living_0 rfl ?_
    refine zz_if_lt (tgt := 24) G dM_living_1 rfl (fun h1 => ?_) (fun h1 => ?_)
    · refine zz_iconst (v := -1) G dM_living_24 (by decide) ?_
      refine zz_istore_n (lv' := [some (.ref 5), some (.int en), some (.int (-1))]) G dM_living_25 (Nat.le_of_ble_eq_true rfl) rfl ?_
      refine zz_iload_n G dM_living_26 rfl ?_
      refine zz_if_lt (tgt := 44) G dM_living_27 rfl (fun h27 => ?_) (fun h27 => ((absurd h27 (by decide) : False)).elim)
      refine zz_iload_n G dM_living_44 rfl ?_
      exact zz_iret G hret dM_living_45 (by rw [show sLiv (fm_words m) n e1 en = none from by rw [sLiv, if_pos h1]] <;> rfl) (Nat.le_of_ble_eq_true rfl) (Nat.le_of_ble_eq_true rfl)
    · refine zz_iload_n G dM_living_4 rfl ?_
      refine zz_aload_n G dM_living_5 rfl ?_
      refine zz_get (v := .int (nI e1)) G dM_living_6 flM_42 rfl (by rw [← hen]; rfl) ?_
      refine zz_icmp_ge (tgt := 24) G dM_living_9 rfl (fun h9 => ?_) (fun h9 => ?_)
      · refine zz_iconst (v := -1) G dM_living_24 (by decide) ?_
        refine zz_istore_n (lv' := [some (.ref 5), some (.int en), some (.int (-1))]) G dM_living_25 (Nat.le_of_ble_eq_true rfl) rfl ?_
        refine zz_iload_n G dM_living_26 rfl ?_
        refine zz_if_lt (tgt := 44) G dM_living_27 rfl (fun h27 => ?_) (fun h27 => ((absurd h27 (by decide) : False)).elim)
        refine zz_iload_n G dM_living_44 rfl ?_
        exact zz_iret G hret dM_living_45 (by rw [show sLiv (fm_words m) n e1 en = none from by rw [sLiv, if_neg h1, if_pos h9]] <;> rfl) (Nat.le_of_ble_eq_true rfl) (Nat.le_of_ble_eq_true rfl)
      · refine zz_aload_n G dM_living_12 rfl ?_
        refine zz_iload_n G dM_living_13 rfl ?_
        refine zz_aload_n G dM_living_14 rfl ?_
        refine zz_get (v := .int (nI n)) G dM_living_15 flM_27 rfl (by rw [← hcl]; rfl) ?_
        refine zz_callVi (v := (-1)) (w' := (wx x m o)) (As := [.int en, .int (nI n)]) (rest := []) G (by have q := cm_currentAt l x m o en _ n rfl (hn); rw [show sLast (fm_words m) en n = _ from hq] at q; exact q) kM_45 dM_living_18 rfl rfl rfl rfl (Nat.le_of_ble_eq_true rfl) (fun _ => rfl) ⟨Nat.le_of_ble_eq_true rfl, Nat.le_of_ble_eq_true rfl⟩ ⟨Nat.le_of_ble_eq_true rfl, Nat.le_of_ble_eq_true rfl⟩ ?_
        refine zz_goto (tgt := 25) G dM_living_21 rfl ?_
        refine zz_istore_n (lv' := [some (.ref 5), some (.int en), some (.int (-1))]) G dM_living_25 (Nat.le_of_ble_eq_true rfl) rfl ?_
        refine zz_iload_n G dM_living_26 rfl ?_
        refine zz_if_lt (tgt := 44) G dM_living_27 rfl (fun h27 => ?_) (fun h27 => ((absurd h27 (by decide) : False)).elim)
        refine zz_iload_n G dM_living_44 rfl ?_
        exact zz_iret G hret dM_living_45 (by rw [show sLiv (fm_words m) n e1 en = none from by rw [sLiv, if_neg h1, if_neg h9, hq]] <;> rfl) (Nat.le_of_ble_eq_true rfl) (Nat.le_of_ble_eq_true rfl)
  · have hu : u < n := (mL_lt n hq).1
    refine zz_iload_n G dM_living_0 rfl ?_
    refine zz_if_lt (tgt := 24) G dM_living_1 rfl (fun h1 => ?_) (fun h1 => ?_)
    · refine zz_iconst (v := -1) G dM_living_24 (by decide) ?_
      refine zz_istore_n (lv' := [some (.ref 5), some (.int en), some (.int (-1))]) G dM_living_25 (Nat.le_of_ble_eq_true rfl) rfl ?_
      refine zz_iload_n G dM_living_26 rfl ?_
      refine zz_if_lt (tgt := 44) G dM_living_27 rfl (fun h27 => ?_) (fun h27 => ((absurd h27 (by decide) : False)).elim)
      refine zz_iload_n G dM_living_44 rfl ?_
      exact zz_iret G hret dM_living_45 (by rw [show sLiv (fm_words m) n e1 en = none from by rw [sLiv, if_pos h1]] <;> rfl) (Nat.le_of_ble_eq_true rfl) (Nat.le_of_ble_eq_true rfl)
    · refine zz_iload_n G dM_living_4 rfl ?_
      refine zz_aload_n G dM_living_5 rfl ?_
      refine zz_get (v := .int (nI e1)) G dM_living_6 flM_42 rfl (by rw [← hen]; rfl) ?_
      refine zz_icmp_ge (tgt := 24) G dM_living_9 rfl (fun h9 => ?_) (fun h9 => ?_)
      · refine zz_iconst (v := -1) G dM_living_24 (by decide) ?_
        refine zz_istore_n (lv' := [some (.ref 5), some (.int en), some (.int (-1))]) G dM_living_25 (Nat.le_of_ble_eq_true rfl) rfl ?_
        refine zz_iload_n G dM_living_26 rfl ?_
        refine zz_if_lt (tgt := 44) G dM_living_27 rfl (fun h27 => ?_) (fun h27 => ((absurd h27 (by decide) : False)).elim)
        refine zz_iload_n G dM_living_44 rfl ?_
        exact zz_iret G hret dM_living_45 (by rw [show sLiv (fm_words m) n e1 en = none from by rw [sLiv, if_neg h1, if_pos h9]] <;> rfl) (Nat.le_of_ble_eq_true rfl) (Nat.le_of_ble_eq_true rfl)
      · refine zz_aload_n G dM_living_12 rfl ?_
        refine zz_iload_n G dM_living_13 rfl ?_
        refine zz_aload_n G dM_living_14 rfl ?_
        refine zz_get (v := .int (nI n)) G dM_living_15 flM_27 rfl (by rw [← hcl]; rfl) ?_
        refine zz_callVi (v := nI u) (w' := (wx x m o)) (As := [.int en, .int (nI n)]) (rest := []) G (by have q := cm_currentAt l x m o en _ n rfl (hn); rw [show sLast (fm_words m) en n = _ from hq] at q; exact q) kM_45 dM_living_18 rfl rfl rfl rfl (Nat.le_of_ble_eq_true rfl) (fun _ => rfl) ⟨Nat.le_of_ble_eq_true rfl, Nat.le_of_ble_eq_true rfl⟩ ⟨Nat.le_of_ble_eq_true rfl, Nat.le_of_ble_eq_true rfl⟩ ?_
        refine zz_goto (tgt := 25) G dM_living_21 rfl ?_
        refine zz_istore_n (lv' := [some (.ref 5), some (.int en), some (.int (nI u))]) G dM_living_25 (Nat.le_of_ble_eq_true rfl) rfl ?_
        refine zz_iload_n G dM_living_26 rfl ?_
        refine zz_if_lt (tgt := 44) G dM_living_27 rfl (fun h27 => (nI_pos (show u < 2 ^ 31 by omega) h27).elim) (fun h27 => ?_)
        refine zz_aload_n G dM_living_30 rfl ?_
        refine zz_iload_n G dM_living_31 rfl ?_
        refine zz_iconst (v := 0) G dM_living_32 (by decide) ?_
        refine zz_callVi (v := fm_words m (6 * u + 0)) (w' := (wx x m o)) (As := [.int (nI u), .int 0]) (rest := []) G (cm_word l x m o u 0 _ _ rfl rfl (by omega) (by decide)) kM_30 dM_living_33 rfl rfl rfl rfl (Nat.le_of_ble_eq_true rfl) (fun _ => rfl) ⟨Nat.le_of_ble_eq_true rfl, Nat.le_of_ble_eq_true rfl⟩ ⟨Nat.le_of_ble_eq_true rfl, Nat.le_of_ble_eq_true rfl⟩ ?_
        refine zz_iconst (v := 2) G dM_living_36 (by decide) ?_
        refine zz_icmp_ne (tgt := 44) G dM_living_37 rfl (fun h37 => ?_) (fun h37 => ?_)
        · refine zz_iload_n G dM_living_44 rfl ?_
          exact zz_iret G hret dM_living_45 (by rw [show sLiv (fm_words m) n e1 en = some u from by rw [sLiv, if_neg h1, if_neg h9, hq]; show (if fm_words m (6 * u + 0) = 2 then _ else _) = _; rw [if_neg h37]] <;> rfl) (Nat.le_of_ble_eq_true rfl) (Nat.le_of_ble_eq_true rfl)
        · refine zz_iconst (v := -1) G dM_living_40 (by decide) ?_
          refine zz_goto (tgt := 45) G dM_living_41 rfl ?_
          exact zz_iret G hret dM_living_45 (by rw [show sLiv (fm_words m) n e1 en = none from by rw [sLiv, if_neg h1, if_neg h9, hq]; show (if fm_words m (6 * u + 0) = 2 then _ else _) = _; rw [if_pos h37]] <;> rfl) (Nat.le_of_ble_eq_true rfl) (Nat.le_of_ble_eq_true rfl)
set_option maxRecDepth 100000 in
set_option maxHeartbeats 4000000 in
theorem cm_balanceAt (l : Launch) (x : XS) (m : MS) (o : Nat → Int64) (a d it : Int32) (t e1 : Nat) (hit : it = nI t) (ht : t ≤ 64) (hen : fm_entries m = nI e1) (he64 : e1 ≤ 64) : zC l yM_balanceAt (Jvm.Cond.code yM_balanceAt bM_balanceAt 8 (some .int) :: Tw) 2 true 0 0 [.ref 5, .int a, .int d, .int it] (wx x m o) (.inl (some (.int (mBal (fm_words m) a d t e1)), wx x m o)) := by
  subst hit
  refine zC_of [some (.ref 5), some (.int a), some (.int d), some (.int (nI t)), none, none, none, none] (by decide) rfl (Nat.le_of_ble_eq_true rfl) ?_
  intro p e s mm args below meth c D cI cJ as G hret hex hbd
  have loop : ∀ (q j : Nat), j + q = e1 → Z p l e (zrm 2) s mm args below meth c 8 D cI cJ as true 0 0 (zMQ below (.inl (some (.int (mBal (fm_words m) a d t e1)), wx x m o)) D cI cJ as true s 0 0) 6 [some (.ref 5), some (.int a), some (.int d), some (.int (nI t)), some (.int (mBal (fm_words m) a d t j)), some (.int (nI j)), none, none] [] (wx x m o) := by
    intro q
    induction q with
    | zero =>
      intro j hj
      have hj : e1 = j := by omega
      subst hj
      refine zz_iload G dM_balanceAt_6 rfl ?_
      refine zz_aload_n G dM_balanceAt_8 rfl ?_
      refine zz_get (v := .int (nI e1)) G dM_balanceAt_9 flM_42 rfl (by rw [← hen]; rfl) ?_
      refine zz_icmp_ge (tgt := 97) G dM_balanceAt_12 rfl (fun h12 => ?_) (fun h12 => (h12 (nI_le (Nat.le_refl _) (by omega))).elim)
      refine zz_iload G dM_balanceAt_97 rfl ?_
      exact zz_iret G hret dM_balanceAt_99 (rfl) (Nat.le_of_ble_eq_true rfl) (Nat.le_of_ble_eq_true rfl)
    | succ q ih =>
      intro j hj
      rcases hv : sLast (fm_words m) (nI j) t with _ | v
      · refine zz_iload G dM_balanceAt_6 rfl ?_
        refine zz_aload_n G dM_balanceAt_8 rfl ?_
        refine zz_get (v := .int (nI e1)) G dM_balanceAt_9 flM_42 rfl (by rw [← hen]; rfl) ?_
        refine zz_icmp_ge (tgt := 97) G dM_balanceAt_12 rfl (fun h12 => (nI_ge (by omega) (by omega) h12).elim) (fun h12 => ?_)
        refine zz_aload_n G dM_balanceAt_15 rfl ?_
        refine zz_iload G dM_balanceAt_16 rfl ?_
        refine zz_iload_n G dM_balanceAt_18 rfl ?_
        refine zz_callVi (v := (-1)) (w' := (wx x m o)) (As := [.int (nI j), .int (nI t)]) (rest := []) G (by have q := cm_currentAt l x m o (nI j) _ t rfl (ht); rw [show sLast (fm_words m) (nI j) t = _ from hv] at q; exact q) kM_45 dM_balanceAt_19 rfl rfl rfl rfl (Nat.le_of_ble_eq_true rfl) (fun _ => rfl) ⟨Nat.le_of_ble_eq_true rfl, Nat.le_of_ble_eq_true rfl⟩ ⟨Nat.le_of_ble_eq_true rfl, Nat.le_of_ble_eq_true rfl⟩ ?_
        refine zz_istore (lv' := [some (.ref 5), some (.int a), some (.int d), some (.int (nI t)), some (.int (mBal (fm_words m) a d t j)), some (.int (nI j)), some (.int (-1)), none]) G dM_balanceAt_22 (Nat.le_of_ble_eq_true rfl) rfl ?_
        refine zz_iload G dM_balanceAt_24 rfl ?_
        refine zz_if_lt (tgt := 91) G dM_balanceAt_26 rfl (fun h26 => ?_) (fun h26 => ((absurd h26 (by decide) : False)).elim)
        refine zz_iinc (v := nI (j + 1)) (lv' := [some (.ref 5), some (.int a), some (.int d), some (.int (nI t)), some (.int (mBal (fm_words m) a d t j)), some (.int (nI (j + 1))), some (.int (-1)), none]) G dM_balanceAt_91 rfl (by rw [nI_succ] <;> rfl) rfl ?_
        refine zz_goto (tgt := 6) G dM_balanceAt_94 rfl ?_
        refine zz_few (lv' := [some (.ref 5), some (.int a), some (.int d), some (.int (nI t)), some (.int (mBal (fm_words m) a d t j)), some (.int (nI (j + 1))), none, none]) (by exact ⟨rfl, rfl, rfl, rfl, rfl, rfl, trivial⟩) ?_
        refine zz_eq (lv' := [some (.ref 5), some (.int a), some (.int d), some (.int (nI t)), some (.int (mBal (fm_words m) a d t (j + 1))), some (.int (nI (j + 1))), none, none]) rfl (by rw [show mBal (fm_words m) a d t (j + 1) = mBal (fm_words m) a d t j from by show (match sLast (fm_words m) (nI j) t with | none => _ | some v => _) = _; rw [hv]]) rfl rfl ?_
        exact ih (j + 1) (by omega)
      · have hvt : v < t := (mL_lt t hv).1
        refine zz_iload G dM_balanceAt_6 rfl ?_
        refine zz_aload_n G dM_balanceAt_8 rfl ?_
        refine zz_get (v := .int (nI e1)) G dM_balanceAt_9 flM_42 rfl (by rw [← hen]; rfl) ?_
        refine zz_icmp_ge (tgt := 97) G dM_balanceAt_12 rfl (fun h12 => (nI_ge (by omega) (by omega) h12).elim) (fun h12 => ?_)
        refine zz_aload_n G dM_balanceAt_15 rfl ?_
        refine zz_iload G dM_balanceAt_16 rfl ?_
        refine zz_iload_n G dM_balanceAt_18 rfl ?_
        refine zz_callVi (v := nI v) (w' := (wx x m o)) (As := [.int (nI j), .int (nI t)]) (rest := []) G (by have q := cm_currentAt l x m o (nI j) _ t rfl (ht); rw [show sLast (fm_words m) (nI j) t = _ from hv] at q; exact q) kM_45 dM_balanceAt_19 rfl rfl rfl rfl (Nat.le_of_ble_eq_true rfl) (fun _ => rfl) ⟨Nat.le_of_ble_eq_true rfl, Nat.le_of_ble_eq_true rfl⟩ ⟨Nat.le_of_ble_eq_true rfl, Nat.le_of_ble_eq_true rfl⟩ ?_
        refine zz_istore (lv' := [some (.ref 5), some (.int a), some (.int d), some (.int (nI t)), some (.int (mBal (fm_words m) a d t j)), some (.int (nI j)), some (.int (nI v)), none]) G dM_balanceAt_22 (Nat.le_of_ble_eq_true rfl) rfl ?_
        refine zz_iload G dM_balanceAt_24 rfl ?_
        refine zz_if_lt (tgt := 91) G dM_balanceAt_26 rfl (fun h26 => (nI_pos (show v < 2 ^ 31 by omega) h26).elim) (fun h26 => ?_)
        refine zz_aload_n G dM_balanceAt_29 rfl ?_
        refine zz_iload G dM_balanceAt_30 rfl ?_
        refine zz_iconst (v := 5) G dM_balanceAt_32 (by decide) ?_
        refine zz_callVi (v := fm_words m (6 * v + 5)) (w' := (wx x m o)) (As := [.int (nI v), .int 5]) (rest := []) G (cm_word l x m o v 5 _ _ rfl rfl (by omega) (by decide)) kM_30 dM_balanceAt_33 rfl rfl rfl rfl (Nat.le_of_ble_eq_true rfl) (fun _ => rfl) ⟨Nat.le_of_ble_eq_true rfl, Nat.le_of_ble_eq_true rfl⟩ ⟨Nat.le_of_ble_eq_true rfl, Nat.le_of_ble_eq_true rfl⟩ ?_
        refine zz_iload_n G dM_balanceAt_36 rfl ?_
        refine zz_icmp_gt (tgt := 91) G dM_balanceAt_37 rfl (fun h37 => ?_) (fun h37 => ?_)
        · refine zz_iinc (v := nI (j + 1)) (lv' := [some (.ref 5), some (.int a), some (.int d), some (.int (nI t)), some (.int (mBal (fm_words m) a d t j)), some (.int (nI (j + 1))), some (.int (nI v)), none]) G dM_balanceAt_91 rfl (by rw [nI_succ] <;> rfl) rfl ?_
          refine zz_goto (tgt := 6) G dM_balanceAt_94 rfl ?_
          refine zz_few (lv' := [some (.ref 5), some (.int a), some (.int d), some (.int (nI t)), some (.int (mBal (fm_words m) a d t j)), some (.int (nI (j + 1))), none, none]) (by exact ⟨rfl, rfl, rfl, rfl, rfl, rfl, trivial⟩) ?_
          refine zz_eq (lv' := [some (.ref 5), some (.int a), some (.int d), some (.int (nI t)), some (.int (mBal (fm_words m) a d t (j + 1))), some (.int (nI (j + 1))), none, none]) rfl (by rw [show mBal (fm_words m) a d t (j + 1) = mBal (fm_words m) a d t j from by show (match sLast (fm_words m) (nI j) t with | none => _ | some v => _) = _; rw [hv]; show (if d < fm_words m (6 * v + 5) then _ else _) = _; rw [if_pos h37]]) rfl rfl ?_
          exact ih (j + 1) (by omega)
        · refine zz_aload_n G dM_balanceAt_40 rfl ?_
          refine zz_iload G dM_balanceAt_41 rfl ?_
          refine zz_iconst (v := 4) G dM_balanceAt_43 (by decide) ?_
          refine zz_callVi (v := fm_words m (6 * v + 4)) (w' := (wx x m o)) (As := [.int (nI v), .int 4]) (rest := []) G (cm_word l x m o v 4 _ _ rfl rfl (by omega) (by decide)) kM_30 dM_balanceAt_44 rfl rfl rfl rfl (Nat.le_of_ble_eq_true rfl) (fun _ => rfl) ⟨Nat.le_of_ble_eq_true rfl, Nat.le_of_ble_eq_true rfl⟩ ⟨Nat.le_of_ble_eq_true rfl, Nat.le_of_ble_eq_true rfl⟩ ?_
          refine zz_istore (lv' := [some (.ref 5), some (.int a), some (.int d), some (.int (nI t)), some (.int (mBal (fm_words m) a d t j)), some (.int (nI j)), some (.int (nI v)), some (.int (fm_words m (6 * v + 4)))]) G dM_balanceAt_47 (Nat.le_of_ble_eq_true rfl) rfl ?_
          refine zz_aload_n G dM_balanceAt_49 rfl ?_
          refine zz_iload G dM_balanceAt_50 rfl ?_
          refine zz_iconst (v := 2) G dM_balanceAt_52 (by decide) ?_
          refine zz_callVi (v := fm_words m (6 * v + 2)) (w' := (wx x m o)) (As := [.int (nI v), .int 2]) (rest := []) G (cm_word l x m o v 2 _ _ rfl rfl (by omega) (by decide)) kM_30 dM_balanceAt_53 rfl rfl rfl rfl (Nat.le_of_ble_eq_true rfl) (fun _ => rfl) ⟨Nat.le_of_ble_eq_true rfl, Nat.le_of_ble_eq_true rfl⟩ ⟨Nat.le_of_ble_eq_true rfl, Nat.le_of_ble_eq_true rfl⟩ ?_
          refine zz_iload_n G dM_balanceAt_56 rfl ?_
          refine zz_icmp_ne (tgt := 68) G dM_balanceAt_57 rfl (fun h57 => ?_) (fun h57 => ?_)
          · refine zz_aload_n G dM_balanceAt_68 rfl ?_
            refine zz_iload G dM_balanceAt_69 rfl ?_
            refine zz_iconst (v := 3) G dM_balanceAt_71 (by decide) ?_
            refine zz_callVi (v := fm_words m (6 * v + 3)) (w' := (wx x m o)) (As := [.int (nI v), .int 3]) (rest := []) G (cm_word l x m o v 3 _ _ rfl rfl (by omega) (by decide)) kM_30 dM_balanceAt_72 rfl rfl rfl rfl (Nat.le_of_ble_eq_true rfl) (fun _ => rfl) ⟨Nat.le_of_ble_eq_true rfl, Nat.le_of_ble_eq_true rfl⟩ ⟨Nat.le_of_ble_eq_true rfl, Nat.le_of_ble_eq_true rfl⟩ ?_
            refine zz_iload_n G dM_balanceAt_75 rfl ?_
            refine zz_icmp_ne (tgt := 87) G dM_balanceAt_76 rfl (fun h76 => ?_) (fun h76 => ?_)
            · refine zz_iload G dM_balanceAt_87 rfl ?_
              refine zz_istore (lv' := [some (.ref 5), some (.int a), some (.int d), some (.int (nI t)), some (.int (mBal (fm_words m) a d t j)), some (.int (nI j)), some (.int (nI v)), some (.int (fm_words m (6 * v + 4)))]) G dM_balanceAt_89 (Nat.le_of_ble_eq_true rfl) rfl ?_
              refine zz_iinc (v := nI (j + 1)) (lv' := [some (.ref 5), some (.int a), some (.int d), some (.int (nI t)), some (.int (mBal (fm_words m) a d t j)), some (.int (nI (j + 1))), some (.int (nI v)), some (.int (fm_words m (6 * v + 4)))]) G dM_balanceAt_91 rfl (by rw [nI_succ] <;> rfl) rfl ?_
              refine zz_goto (tgt := 6) G dM_balanceAt_94 rfl ?_
              refine zz_few (lv' := [some (.ref 5), some (.int a), some (.int d), some (.int (nI t)), some (.int (mBal (fm_words m) a d t j)), some (.int (nI (j + 1))), none, none]) (by exact ⟨rfl, rfl, rfl, rfl, rfl, rfl, trivial⟩) ?_
              refine zz_eq (lv' := [some (.ref 5), some (.int a), some (.int d), some (.int (nI t)), some (.int (mBal (fm_words m) a d t (j + 1))), some (.int (nI (j + 1))), none, none]) rfl (by rw [show mBal (fm_words m) a d t (j + 1) = mBal (fm_words m) a d t j from by show (match sLast (fm_words m) (nI j) t with | none => _ | some v => _) = _; rw [hv]; show (if d < fm_words m (6 * v + 5) then _ else _) = _; rw [if_neg h37, if_neg h57, if_neg h76]]) rfl rfl ?_
              exact ih (j + 1) (by omega)
            · refine zz_iload G dM_balanceAt_79 rfl ?_
              refine zz_iload G dM_balanceAt_81 rfl ?_
              refine zz_isub G dM_balanceAt_83 ?_
              refine zz_goto (tgt := 89) G dM_balanceAt_84 rfl ?_
              refine zz_istore (lv' := [some (.ref 5), some (.int a), some (.int d), some (.int (nI t)), some (.int ((mBal (fm_words m) a d t j) - (fm_words m (6 * v + 4)))), some (.int (nI j)), some (.int (nI v)), some (.int (fm_words m (6 * v + 4)))]) G dM_balanceAt_89 (Nat.le_of_ble_eq_true rfl) rfl ?_
              refine zz_iinc (v := nI (j + 1)) (lv' := [some (.ref 5), some (.int a), some (.int d), some (.int (nI t)), some (.int ((mBal (fm_words m) a d t j) - (fm_words m (6 * v + 4)))), some (.int (nI (j + 1))), some (.int (nI v)), some (.int (fm_words m (6 * v + 4)))]) G dM_balanceAt_91 rfl (by rw [nI_succ] <;> rfl) rfl ?_
              refine zz_goto (tgt := 6) G dM_balanceAt_94 rfl ?_
              refine zz_few (lv' := [some (.ref 5), some (.int a), some (.int d), some (.int (nI t)), some (.int ((mBal (fm_words m) a d t j) - (fm_words m (6 * v + 4)))), some (.int (nI (j + 1))), none, none]) (by exact ⟨rfl, rfl, rfl, rfl, rfl, rfl, trivial⟩) ?_
              refine zz_eq (lv' := [some (.ref 5), some (.int a), some (.int d), some (.int (nI t)), some (.int (mBal (fm_words m) a d t (j + 1))), some (.int (nI (j + 1))), none, none]) rfl (by rw [show mBal (fm_words m) a d t (j + 1) = (mBal (fm_words m) a d t j) - (fm_words m (6 * v + 4)) from by show (match sLast (fm_words m) (nI j) t with | none => _ | some v => _) = _; rw [hv]; show (if d < fm_words m (6 * v + 5) then _ else _) = _; rw [if_neg h37, if_neg h57, if_pos h76]]) rfl rfl ?_
              exact ih (j + 1) (by omega)
          · refine zz_iload G dM_balanceAt_60 rfl ?_
            refine zz_iload G dM_balanceAt_62 rfl ?_
            refine zz_iadd G dM_balanceAt_64 ?_
            refine zz_goto (tgt := 89) G dM_balanceAt_65 rfl ?_
            refine zz_istore (lv' := [some (.ref 5), some (.int a), some (.int d), some (.int (nI t)), some (.int ((mBal (fm_words m) a d t j) + (fm_words m (6 * v + 4)))), some (.int (nI j)), some (.int (nI v)), some (.int (fm_words m (6 * v + 4)))]) G dM_balanceAt_89 (Nat.le_of_ble_eq_true rfl) rfl ?_
            refine zz_iinc (v := nI (j + 1)) (lv' := [some (.ref 5), some (.int a), some (.int d), some (.int (nI t)), some (.int ((mBal (fm_words m) a d t j) + (fm_words m (6 * v + 4)))), some (.int (nI (j + 1))), some (.int (nI v)), some (.int (fm_words m (6 * v + 4)))]) G dM_balanceAt_91 rfl (by rw [nI_succ] <;> rfl) rfl ?_
            refine zz_goto (tgt := 6) G dM_balanceAt_94 rfl ?_
            refine zz_few (lv' := [some (.ref 5), some (.int a), some (.int d), some (.int (nI t)), some (.int ((mBal (fm_words m) a d t j) + (fm_words m (6 * v + 4)))), some (.int (nI (j + 1))), none, none]) (by exact ⟨rfl, rfl, rfl, rfl, rfl, rfl, trivial⟩) ?_
            refine zz_eq (lv' := [some (.ref 5), some (.int a), some (.int d), some (.int (nI t)), some (.int (mBal (fm_words m) a d t (j + 1))), some (.int (nI (j + 1))), none, none]) rfl (by rw [show mBal (fm_words m) a d t (j + 1) = (mBal (fm_words m) a d t j) + (fm_words m (6 * v + 4)) from by show (match sLast (fm_words m) (nI j) t with | none => _ | some v => _) = _; rw [hv]; show (if d < fm_words m (6 * v + 5) then _ else _) = _; rw [if_neg h37, if_pos h57]]) rfl rfl ?_
            exact ih (j + 1) (by omega)
  refine zz_iconst (v := 0) G dM_balanceAt_0 (by decide) ?_
  refine zz_istore (lv' := [some (.ref 5), some (.int a), some (.int d), some (.int (nI t)), some (.int 0), none, none, none]) G dM_balanceAt_1 (Nat.le_of_ble_eq_true rfl) rfl ?_
  refine zz_iconst (v := 0) G dM_balanceAt_3 (by decide) ?_
  refine zz_istore (lv' := [some (.ref 5), some (.int a), some (.int d), some (.int (nI t)), some (.int 0), some (.int 0), none, none]) G dM_balanceAt_4 (Nat.le_of_ble_eq_true rfl) rfl ?_
  exact loop e1 0 (by omega)
set_option maxRecDepth 100000 in
set_option maxHeartbeats 4000000 in
theorem cm_belongs (l : Launch) (x : XS) (m : MS) (o : Nat → Int64) (v : Nat) (iv a : Int32) (hiv : iv = nI v) (hv : v < 64) : zC l yM_belongs (Jvm.Cond.code yM_belongs bM_belongs 3 (some .boolean) :: Tw) 1 true 0 0 [.ref 5, .int iv, .int a] (wx x m o) (.inl (some (.int (sBel (fm_words m) v a)), wx x m o)) := by
  subst hiv
  refine zC_of [some (.ref 5), some (.int (nI v)), some (.int a)] (by decide) rfl (Nat.le_of_ble_eq_true rfl) ?_
  intro p e s mm args below meth c D cI cJ as G hret hex hbd
  refine zz_iload_n G dM_belongs_0 rfl ?_
  refine zz_if_lt (tgt := 38) G dM_belongs_1 rfl (fun h1 => (nI_pos (show v < 2 ^ 31 by omega) h1).elim) (fun h1 => ?_)
  refine zz_aload_n G dM_belongs_4 rfl ?_
  refine zz_iload_n G dM_belongs_5 rfl ?_
  refine zz_iconst (v := 0) G dM_belongs_6 (by decide) ?_
  refine zz_callVi (v := fm_words m (6 * v + 0)) (w' := (wx x m o)) (As := [.int (nI v), .int 0]) (rest := []) G (cm_word l x m o v 0 _ _ rfl rfl (hv) (by decide)) kM_30 dM_belongs_7 rfl rfl rfl rfl (Nat.le_of_ble_eq_true rfl) (fun _ => rfl) ⟨Nat.le_of_ble_eq_true rfl, Nat.le_of_ble_eq_true rfl⟩ ⟨Nat.le_of_ble_eq_true rfl, Nat.le_of_ble_eq_true rfl⟩ ?_
  refine zz_iconst (v := 2) G dM_belongs_10 (by decide) ?_
  refine zz_icmp_eq (tgt := 38) G dM_belongs_11 rfl (fun h11 => ?_) (fun h11 => ?_)
  · refine zz_iconst (v := 0) G dM_belongs_38 (by decide) ?_
    exact zz_zret G hret dM_belongs_39 rfl (by rw [show sBel (fm_words m) v a = 0 from by rw [sBel, if_pos h11]]) (Nat.le_of_ble_eq_true rfl) (Nat.le_of_ble_eq_true rfl)
  · refine zz_aload_n G dM_belongs_14 rfl ?_
    refine zz_iload_n G dM_belongs_15 rfl ?_
    refine zz_iconst (v := 2) G dM_belongs_16 (by decide) ?_
    refine zz_callVi (v := fm_words m (6 * v + 2)) (w' := (wx x m o)) (As := [.int (nI v), .int 2]) (rest := []) G (cm_word l x m o v 2 _ _ rfl rfl (hv) (by decide)) kM_30 dM_belongs_17 rfl rfl rfl rfl (Nat.le_of_ble_eq_true rfl) (fun _ => rfl) ⟨Nat.le_of_ble_eq_true rfl, Nat.le_of_ble_eq_true rfl⟩ ⟨Nat.le_of_ble_eq_true rfl, Nat.le_of_ble_eq_true rfl⟩ ?_
    refine zz_iload_n G dM_belongs_20 rfl ?_
    refine zz_icmp_eq (tgt := 34) G dM_belongs_21 rfl (fun h21 => ?_) (fun h21 => ?_)
    · refine zz_iconst (v := 1) G dM_belongs_34 (by decide) ?_
      refine zz_goto (tgt := 39) G dM_belongs_35 rfl ?_
      exact zz_zret G hret dM_belongs_39 rfl (by rw [show sBel (fm_words m) v a = 1 from by rw [sBel, if_neg h11, if_pos h21]]) (Nat.le_of_ble_eq_true rfl) (Nat.le_of_ble_eq_true rfl)
    · refine zz_aload_n G dM_belongs_24 rfl ?_
      refine zz_iload_n G dM_belongs_25 rfl ?_
      refine zz_iconst (v := 3) G dM_belongs_26 (by decide) ?_
      refine zz_callVi (v := fm_words m (6 * v + 3)) (w' := (wx x m o)) (As := [.int (nI v), .int 3]) (rest := []) G (cm_word l x m o v 3 _ _ rfl rfl (hv) (by decide)) kM_30 dM_belongs_27 rfl rfl rfl rfl (Nat.le_of_ble_eq_true rfl) (fun _ => rfl) ⟨Nat.le_of_ble_eq_true rfl, Nat.le_of_ble_eq_true rfl⟩ ⟨Nat.le_of_ble_eq_true rfl, Nat.le_of_ble_eq_true rfl⟩ ?_
      refine zz_iload_n G dM_belongs_30 rfl ?_
      refine zz_icmp_ne (tgt := 38) G dM_belongs_31 rfl (fun h31 => ?_) (fun h31 => ?_)
      · refine zz_iconst (v := 0) G dM_belongs_38 (by decide) ?_
        exact zz_zret G hret dM_belongs_39 rfl (by rw [show sBel (fm_words m) v a = 0 from by rw [sBel, if_neg h11, if_neg h21, if_neg h31]]) (Nat.le_of_ble_eq_true rfl) (Nat.le_of_ble_eq_true rfl)
      · refine zz_iconst (v := 1) G dM_belongs_34 (by decide) ?_
        refine zz_goto (tgt := 39) G dM_belongs_35 rfl ?_
        exact zz_zret G hret dM_belongs_39 rfl (by rw [show sBel (fm_words m) v a = 1 from by rw [sBel, if_neg h11, if_neg h21, if_pos h31]]) (Nat.le_of_ble_eq_true rfl) (Nat.le_of_ble_eq_true rfl)
set_option maxRecDepth 100000 in
set_option maxHeartbeats 4000000 in
theorem cm_belongs0 (l : Launch) (x : XS) (m : MS) (o : Nat → Int64) (a : Int32) : zC l yM_belongs (Jvm.Cond.code yM_belongs bM_belongs 3 (some .boolean) :: Tw) 1 true 0 0 [.ref 5, .int (-1), .int a] (wx x m o) (.inl (some (.int 0), wx x m o)) := by
  refine zC_of [some (.ref 5), some (.int (-1)), some (.int a)] (by decide) rfl (Nat.le_of_ble_eq_true rfl) ?_
  intro p e s mm args below meth c D cI cJ as G hret hex hbd
  refine zz_iload_n G dM_belongs_0 rfl ?_
  refine zz_if_lt (tgt := 38) G dM_belongs_1 rfl (fun h1 => ?_) (fun h1 => ((absurd h1 (by decide) : False)).elim)
  refine zz_iconst (v := 0) G dM_belongs_38 (by decide) ?_
  exact zz_zret G hret dM_belongs_39 rfl (rfl) (Nat.le_of_ble_eq_true rfl) (Nat.le_of_ble_eq_true rfl)
