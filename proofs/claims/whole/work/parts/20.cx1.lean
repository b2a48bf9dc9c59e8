set_option maxRecDepth 100000 in
set_option maxHeartbeats 4000000 in
theorem ci_compare (l : Launch) (x : XS) (m : MS) (o : Nat → Int64) (a b : Int32) : zC l yI_compare (Jvm.Cond.code yI_compare bI_compare 2 (some .int) :: Tw) 0 true 0 0 [.int a, .int b] (wx x m o) (.inl (some (.int (sCmp a b)), wx x m o)) := by
  refine zC_of [some (.int a), some (.int b)] (by decide) rfl (Nat.le_of_ble_eq_true rfl) ?_
  intro p e s mm args below meth c D cI cJ as G hret hex hbd
  refine zz_iload_n G dI_compare_0 rfl ?_
  refine zz_iload_n G dI_compare_1 rfl ?_
  refine zz_icmp_ge (tgt := 9) G dI_compare_2 rfl (fun h2 => ?_) (fun h2 => ?_)
  · refine zz_iload_n G dI_compare_9 rfl ?_
    refine zz_iload_n G dI_compare_10 rfl ?_
    refine zz_icmp_ne (tgt := 18) G dI_compare_11 rfl (fun h11 => ?_) (fun h11 => ?_)
    · refine zz_iconst (v := 1) G dI_compare_18 (by decide) ?_
      exact zz_iret G hret dI_compare_19 (by rw [show sCmp a b = 1 from by rw [sCmp, if_neg (i32_nlt h2), if_neg h11]]) (Nat.le_of_ble_eq_true rfl) (Nat.le_of_ble_eq_true rfl)
    · refine zz_iconst (v := 0) G dI_compare_14 (by decide) ?_
      refine zz_goto (tgt := 19) G dI_compare_15 rfl ?_
      exact zz_iret G hret dI_compare_19 (by rw [show sCmp a b = 0 from by rw [sCmp, if_neg (i32_nlt h2), if_pos h11]]) (Nat.le_of_ble_eq_true rfl) (Nat.le_of_ble_eq_true rfl)
  · refine zz_iconst (v := -1) G dI_compare_5 (by decide) ?_
    refine zz_goto (tgt := 19) G dI_compare_6 rfl ?_
    exact zz_iret G hret dI_compare_19 (by rw [show sCmp a b = (-1) from by rw [sCmp, if_pos (i32_lt h2)]]) (Nat.le_of_ble_eq_true rfl) (Nat.le_of_ble_eq_true rfl)
set_option maxRecDepth 100000 in
set_option maxHeartbeats 4000000 in
theorem cx_isAccount (l : Launch) (x : XS) (m : MS) (o : Nat → Int64) (a : Int32) : zC l yX_isAccount (Jvm.Cond.code yX_isAccount bX_isAccount 1 (some .boolean) :: Tw) 0 true 0 0 [.int a] (wx x m o) (.inl (some (.int (sAcc a)), wx x m o)) := by
  refine zC_of [some (.int a)] (by decide) rfl (Nat.le_of_ble_eq_true rfl) ?_
  intro p e s mm args below meth c D cI cJ as G hret hex hbd
  refine zz_iload_n G dX_isAccount_0 rfl ?_
  refine zz_if_lt (tgt := 14) G dX_isAccount_1 rfl (fun h1 => ?_) (fun h1 => ?_)
  · refine zz_iconst (v := 0) G dX_isAccount_14 (by decide) ?_
    exact zz_zret G hret dX_isAccount_15 rfl (by rw [show sAcc a = 0 from by rw [sAcc, if_pos h1]]) (Nat.le_of_ble_eq_true rfl) (Nat.le_of_ble_eq_true rfl)
  · refine zz_iload_n G dX_isAccount_4 rfl ?_
    refine zz_bipush (v := 16) G dX_isAccount_5 (by decide) ?_
    refine zz_icmp_ge (tgt := 14) G dX_isAccount_7 rfl (fun h7 => ?_) (fun h7 => ?_)
    · refine zz_iconst (v := 0) G dX_isAccount_14 (by decide) ?_
      exact zz_zret G hret dX_isAccount_15 rfl (by rw [show sAcc a = 0 from by rw [sAcc, if_neg h1, if_pos h7]]) (Nat.le_of_ble_eq_true rfl) (Nat.le_of_ble_eq_true rfl)
    · refine zz_iconst (v := 1) G dX_isAccount_10 (by decide) ?_
      refine zz_goto (tgt := 15) G dX_isAccount_11 rfl ?_
      exact zz_zret G hret dX_isAccount_15 rfl (by rw [show sAcc a = 1 from by rw [sAcc, if_neg h1, if_neg h7]]) (Nat.le_of_ble_eq_true rfl) (Nat.le_of_ble_eq_true rfl)
set_option maxRecDepth 100000 in
set_option maxHeartbeats 4000000 in
theorem cx_isDay (l : Launch) (x : XS) (m : MS) (o : Nat → Int64) (a : Int32) : zC l yX_isDay (Jvm.Cond.code yX_isDay bX_isDay 1 (some .boolean) :: Tw) 0 true 0 0 [.int a] (wx x m o) (.inl (some (.int (sDay a)), wx x m o)) := by
  refine zC_of [some (.int a)] (by decide) rfl (Nat.le_of_ble_eq_true rfl) ?_
  intro p e s mm args below meth c D cI cJ as G hret hex hbd
  refine zz_iload_n G dX_isDay_0 rfl ?_
  refine zz_if_lt (tgt := 15) G dX_isDay_1 rfl (fun h1 => ?_) (fun h1 => ?_)
  · refine zz_iconst (v := 0) G dX_isDay_15 (by decide) ?_
    exact zz_zret G hret dX_isDay_16 rfl (by rw [show sDay a = 0 from by rw [sDay, if_pos h1]]) (Nat.le_of_ble_eq_true rfl) (Nat.le_of_ble_eq_true rfl)
  · refine zz_iload_n G dX_isDay_4 rfl ?_
    refine zz_sipush (v := 1000) G dX_isDay_5 (by decide) ?_
    refine zz_icmp_ge (tgt := 15) G dX_isDay_8 rfl (fun h8 => ?_) (fun h8 => ?_)
    · refine zz_iconst (v := 0) G dX_isDay_15 (by decide) ?_
      exact zz_zret G hret dX_isDay_16 rfl (by rw [show sDay a = 0 from by rw [sDay, if_neg h1, if_pos h8]]) (Nat.le_of_ble_eq_true rfl) (Nat.le_of_ble_eq_true rfl)
    · refine zz_iconst (v := 1) G dX_isDay_11 (by decide) ?_
      refine zz_goto (tgt := 16) G dX_isDay_12 rfl ?_
      exact zz_zret G hret dX_isDay_16 rfl (by rw [show sDay a = 1 from by rw [sDay, if_neg h1, if_neg h8]]) (Nat.le_of_ble_eq_true rfl) (Nat.le_of_ble_eq_true rfl)
set_option maxRecDepth 100000 in
set_option maxHeartbeats 4000000 in
theorem cx_isWord (l : Launch) (x : XS) (m : MS) (o : Nat → Int64) (a : Int32) : zC l yX_isWord (Jvm.Cond.code yX_isWord bX_isWord 1 (some .boolean) :: Tw) 0 true 0 0 [.int a] (wx x m o) (.inl (some (.int (sWrd a)), wx x m o)) := by
  refine zC_of [some (.int a)] (by decide) rfl (Nat.le_of_ble_eq_true rfl) ?_
  intro p e s mm args below meth c D cI cJ as G hret hex hbd
  refine zz_iload_n G dX_isWord_0 rfl ?_
  refine zz_if_lt (tgt := 14) G dX_isWord_1 rfl (fun h1 => ?_) (fun h1 => ?_)
  · refine zz_iconst (v := 0) G dX_isWord_14 (by decide) ?_
    exact zz_zret G hret dX_isWord_15 rfl (by rw [show sWrd a = 0 from by rw [sWrd, if_pos h1]]) (Nat.le_of_ble_eq_true rfl) (Nat.le_of_ble_eq_true rfl)
  · refine zz_iload_n G dX_isWord_4 rfl ?_
    refine zz_bipush (v := 6) G dX_isWord_5 (by decide) ?_
    refine zz_icmp_ge (tgt := 14) G dX_isWord_7 rfl (fun h7 => ?_) (fun h7 => ?_)
    · refine zz_iconst (v := 0) G dX_isWord_14 (by decide) ?_
      exact zz_zret G hret dX_isWord_15 rfl (by rw [show sWrd a = 0 from by rw [sWrd, if_neg h1, if_pos h7]]) (Nat.le_of_ble_eq_true rfl) (Nat.le_of_ble_eq_true rfl)
    · refine zz_iconst (v := 1) G dX_isWord_10 (by decide) ?_
      refine zz_goto (tgt := 15) G dX_isWord_11 rfl ?_
      exact zz_zret G hret dX_isWord_15 rfl (by rw [show sWrd a = 1 from by rw [sWrd, if_neg h1, if_neg h7]]) (Nat.le_of_ble_eq_true rfl) (Nat.le_of_ble_eq_true rfl)
set_option maxRecDepth 100000 in
set_option maxHeartbeats 4000000 in
theorem cx_isTime (l : Launch) (x : XS) (m : MS) (o : Nat → Int64) (a : Int32) : zC l yX_isTime (Jvm.Cond.code yX_isTime bX_isTime 2 (some .boolean) :: Tw) 0 true 0 0 [.ref 0, .int a] (wx x m o) (.inl (some (.int (sTime (fx_vc x) a)), wx x m o)) := by
  refine zC_of [some (.ref 0), some (.int a)] (by decide) rfl (Nat.le_of_ble_eq_true rfl) ?_
  intro p e s mm args below meth c D cI cJ as G hret hex hbd
  refine zz_iload_n G dX_isTime_0 rfl ?_
  refine zz_if_lt (tgt := 16) G dX_isTime_1 rfl (fun h1 => ?_) (fun h1 => ?_)
  · refine zz_iconst (v := 0) G dX_isTime_16 (by decide) ?_
    exact zz_zret G hret dX_isTime_17 rfl (by rw [show sTime (fx_vc x) a = 0 from by rw [sTime, if_pos h1]]) (Nat.le_of_ble_eq_true rfl) (Nat.le_of_ble_eq_true rfl)
  · refine zz_iload_n G dX_isTime_4 rfl ?_
    refine zz_aload_n G dX_isTime_5 rfl ?_
    refine zz_get (v := .int (fx_vc x)) G dX_isTime_6 flX_105 rfl rfl ?_
    refine zz_icmp_gt (tgt := 16) G dX_isTime_9 rfl (fun h9 => ?_) (fun h9 => ?_)
    · refine zz_iconst (v := 0) G dX_isTime_16 (by decide) ?_
      exact zz_zret G hret dX_isTime_17 rfl (by rw [show sTime (fx_vc x) a = 0 from by rw [sTime, if_neg h1, if_pos h9]]) (Nat.le_of_ble_eq_true rfl) (Nat.le_of_ble_eq_true rfl)
    · refine zz_iconst (v := 1) G dX_isTime_12 (by decide) ?_
      refine zz_goto (tgt := 17) G dX_isTime_13 rfl ?_
      exact zz_zret G hret dX_isTime_17 rfl (by rw [show sTime (fx_vc x) a = 1 from by rw [sTime, if_neg h1, if_neg h9]]) (Nat.le_of_ble_eq_true rfl) (Nat.le_of_ble_eq_true rfl)
set_option maxRecDepth 100000 in
set_option maxHeartbeats 4000000 in
theorem cx_isVersion (l : Launch) (x : XS) (m : MS) (o : Nat → Int64) (a : Int32) : zC l yX_isVersion (Jvm.Cond.code yX_isVersion bX_isVersion 2 (some .boolean) :: Tw) 0 true 0 0 [.ref 0, .int a] (wx x m o) (.inl (some (.int (sVer (fx_vc x) a)), wx x m o)) := by
  refine zC_of [some (.ref 0), some (.int a)] (by decide) rfl (Nat.le_of_ble_eq_true rfl) ?_
  intro p e s mm args below meth c D cI cJ as G hret hex hbd
  refine zz_iload_n G dX_isVersion_0 rfl ?_
  refine zz_if_lt (tgt := 16) G dX_isVersion_1 rfl (fun h1 => ?_) (fun h1 => ?_)
  · refine zz_iconst (v := 0) G dX_isVersion_16 (by decide) ?_
    exact zz_zret G hret dX_isVersion_17 rfl (by rw [show sVer (fx_vc x) a = 0 from by rw [sVer, if_pos h1]]) (Nat.le_of_ble_eq_true rfl) (Nat.le_of_ble_eq_true rfl)
  · refine zz_iload_n G dX_isVersion_4 rfl ?_
    refine zz_aload_n G dX_isVersion_5 rfl ?_
    refine zz_get (v := .int (fx_vc x)) G dX_isVersion_6 flX_105 rfl rfl ?_
    refine zz_icmp_ge (tgt := 16) G dX_isVersion_9 rfl (fun h9 => ?_) (fun h9 => ?_)
    · refine zz_iconst (v := 0) G dX_isVersion_16 (by decide) ?_
      exact zz_zret G hret dX_isVersion_17 rfl (by rw [show sVer (fx_vc x) a = 0 from by rw [sVer, if_neg h1, if_pos h9]]) (Nat.le_of_ble_eq_true rfl) (Nat.le_of_ble_eq_true rfl)
    · refine zz_iconst (v := 1) G dX_isVersion_12 (by decide) ?_
      refine zz_goto (tgt := 17) G dX_isVersion_13 rfl ?_
      exact zz_zret G hret dX_isVersion_17 rfl (by rw [show sVer (fx_vc x) a = 1 from by rw [sVer, if_neg h1, if_neg h9]]) (Nat.le_of_ble_eq_true rfl) (Nat.le_of_ble_eq_true rfl)
set_option maxRecDepth 100000 in
set_option maxHeartbeats 4000000 in
theorem cx_word (l : Launch) (x : XS) (m : MS) (o : Nat → Int64) (a k : Nat) (iv ik : Int32) (hv : iv = nI a) (hk : ik = nI k) (ha : a < 64) (hk6 : k < 6) : zC l yX_word (Jvm.Cond.code yX_word bX_word 3 (some .int) :: Tw) 0 true 0 0 [.ref 0, .int iv, .int ik] (wx x m o) (.inl (some (.int (fx_words x (6 * a + k))), wx x m o)) := by
  subst hv
  subst hk
  refine zC_of [some (.ref 0), some (.int (nI a)), some (.int (nI k))] (by decide) rfl (Nat.le_of_ble_eq_true rfl) ?_
  intro p e s mm args below meth c D cI cJ as G hret hex hbd
  refine zz_aload_n G dX_word_0 rfl ?_
  refine zz_get (v := .ref 1) G dX_word_1 flX_9 rfl rfl ?_
  refine zz_iload_n G dX_word_4 rfl ?_
  refine zz_bipush (v := 6) G dX_word_5 (by decide) ?_
  refine zz_imul G dX_word_7 ?_
  refine zz_iload_n G dX_word_8 rfl ?_
  refine zz_iadd G dX_word_9 ?_
  refine zz_iald (v := fx_words x (6 * a + k)) G dX_word_10 rfl (ix_in ha hk6) (by rw [ix_at ha hk6]) ?_
  exact zz_iret G hret dX_word_11 (rfl) (Nat.le_of_ble_eq_true rfl) (Nat.le_of_ble_eq_true rfl)
set_option maxRecDepth 100000 in
set_option maxHeartbeats 4000000 in
theorem cx_isCurrent (l : Launch) (x : XS) (m : MS) (o : Nat → Int64) (v : Nat) (iv t : Int32) (hiv : iv = nI v) (hv : v < 64) : zC l yX_isCurrent (Jvm.Cond.code yX_isCurrent bX_isCurrent 3 (some .boolean) :: Tw) 0 true 0 0 [.ref 0, .int iv, .int t] (wx x m o) (.inl (some (.int (sCur (fx_rep x) v t)), wx x m o)) := by
  subst hiv
  refine zC_of [some (.ref 0), some (.int (nI v)), some (.int t)] (by decide) rfl (Nat.le_of_ble_eq_true rfl) ?_
  intro p e s mm args below meth c D cI cJ as G hret hex hbd
  refine zz_iload_n G dX_isCurrent_0 rfl ?_
  refine zz_iload_n G dX_isCurrent_1 rfl ?_
  refine zz_icmp_ge (tgt := 19) G dX_isCurrent_2 rfl (fun h2 => ?_) (fun h2 => ?_)
  · refine zz_iconst (v := 0) G dX_isCurrent_19 (by decide) ?_
    exact zz_zret G hret dX_isCurrent_20 rfl (by rw [show sCur (fx_rep x) v t = 0 from by rw [sCur, if_pos h2]]) (Nat.le_of_ble_eq_true rfl) (Nat.le_of_ble_eq_true rfl)
  · refine zz_aload_n G dX_isCurrent_5 rfl ?_
    refine zz_get (v := .ref 3) G dX_isCurrent_6 flX_17 rfl rfl ?_
    refine zz_iload_n G dX_isCurrent_9 rfl ?_
    refine zz_iald (v := fx_rep x v) G dX_isCurrent_10 rfl (i1_in hv) (by rw [i1_at hv]) ?_
    refine zz_iload_n G dX_isCurrent_11 rfl ?_
    refine zz_icmp_lt (tgt := 19) G dX_isCurrent_12 rfl (fun h12 => ?_) (fun h12 => ?_)
    · refine zz_iconst (v := 0) G dX_isCurrent_19 (by decide) ?_
      exact zz_zret G hret dX_isCurrent_20 rfl (by rw [show sCur (fx_rep x) v t = 0 from by rw [sCur, if_neg h2, if_pos h12]]) (Nat.le_of_ble_eq_true rfl) (Nat.le_of_ble_eq_true rfl)
    · refine zz_iconst (v := 1) G dX_isCurrent_15 (by decide) ?_
      refine zz_goto (tgt := 20) G dX_isCurrent_16 rfl ?_
      exact zz_zret G hret dX_isCurrent_20 rfl (by rw [show sCur (fx_rep x) v t = 1 from by rw [sCur, if_neg h2, if_neg h12]]) (Nat.le_of_ble_eq_true rfl) (Nat.le_of_ble_eq_true rfl)
set_option maxRecDepth 100000 in
set_option maxHeartbeats 4000000 in
theorem cx_touches (l : Launch) (x : XS) (m : MS) (o : Nat → Int64) (v : Nat) (iv a : Int32) (hiv : iv = nI v) (hv : v < 64) : zC l yX_touches (Jvm.Cond.code yX_touches bX_touches 3 (some .boolean) :: Tw) 1 true 0 0 [.ref 0, .int iv, .int a] (wx x m o) (.inl (some (.int (sTouch (fx_words x) v a)), wx x m o)) := by
  subst hiv
  refine zC_of [some (.ref 0), some (.int (nI v)), some (.int a)] (by decide) rfl (Nat.le_of_ble_eq_true rfl) ?_
  intro p e s mm args below meth c D cI cJ as G hret hex hbd
  refine zz_aload_n G dX_touches_0 rfl ?_
  refine zz_iload_n G dX_touches_1 rfl ?_
  refine zz_iconst (v := 2) G dX_touches_2 (by decide) ?_
  refine zz_callVi (v := fx_words x (6 * v + 2)) (w' := (wx x m o)) (As := [.int (nI v), .int 2]) (rest := []) G (cx_word l x m o v 2 _ _ rfl rfl (hv) (by decide)) kX_59 dX_touches_3 rfl rfl rfl rfl (Nat.le_of_ble_eq_true rfl) (fun _ => rfl) ⟨Nat.le_of_ble_eq_true rfl, Nat.le_of_ble_eq_true rfl⟩ ⟨Nat.le_of_ble_eq_true rfl, Nat.le_of_ble_eq_true rfl⟩ ?_
  refine zz_iload_n G dX_touches_6 rfl ?_
  refine zz_icmp_eq (tgt := 20) G dX_touches_7 rfl (fun h7 => ?_) (fun h7 => ?_)
  · refine zz_iconst (v := 1) G dX_touches_20 (by decide) ?_
    refine zz_goto (tgt := 25) G dX_touches_21 rfl ?_
    exact zz_zret G hret dX_touches_25 rfl (by rw [show sTouch (fx_words x) v a = 1 from by rw [sTouch, if_pos h7]]) (Nat.le_of_ble_eq_true rfl) (Nat.le_of_ble_eq_true rfl)
  · refine zz_aload_n G dX_touches_10 rfl ?_
    refine zz_iload_n G dX_touches_11 rfl ?_
    refine zz_iconst (v := 3) G dX_touches_12 (by decide) ?_
    refine zz_callVi (v := fx_words x (6 * v + 3)) (w' := (wx x m o)) (As := [.int (nI v), .int 3]) (rest := []) G (cx_word l x m o v 3 _ _ rfl rfl (hv) (by decide)) kX_59 dX_touches_13 rfl rfl rfl rfl (Nat.le_of_ble_eq_true rfl) (fun _ => rfl) ⟨Nat.le_of_ble_eq_true rfl, Nat.le_of_ble_eq_true rfl⟩ ⟨Nat.le_of_ble_eq_true rfl, Nat.le_of_ble_eq_true rfl⟩ ?_
    refine zz_iload_n G dX_touches_16 rfl ?_
    refine zz_icmp_ne (tgt := 24) G dX_touches_17 rfl (fun h17 => ?_) (fun h17 => ?_)
    · refine zz_iconst (v := 0) G dX_touches_24 (by decide) ?_
      exact zz_zret G hret dX_touches_25 rfl (by rw [show sTouch (fx_words x) v a = 0 from by rw [sTouch, if_neg h7, if_neg h17]]) (Nat.le_of_ble_eq_true rfl) (Nat.le_of_ble_eq_true rfl)
    · refine zz_iconst (v := 1) G dX_touches_20 (by decide) ?_
      refine zz_goto (tgt := 25) G dX_touches_21 rfl ?_
      exact zz_zret G hret dX_touches_25 rfl (by rw [show sTouch (fx_words x) v a = 1 from by rw [sTouch, if_neg h7, if_pos h17]]) (Nat.le_of_ble_eq_true rfl) (Nat.le_of_ble_eq_true rfl)
set_option maxRecDepth 100000 in
set_option maxHeartbeats 4000000 in
theorem cx_movedBy (l : Launch) (x : XS) (m : MS) (o : Nat → Int64) (v : Nat) (iv a : Int32) (hiv : iv = nI v) (hv : v < 64) : zC l yX_movedBy (Jvm.Cond.code yX_movedBy bX_movedBy 3 (some .int) :: Tw) 1 true 0 0 [.ref 0, .int iv, .int a] (wx x m o) (.inl (some (.int (sMoved (fx_words x) v a)), wx x m o)) := by
  subst hiv
  refine zC_of [some (.ref 0), some (.int (nI v)), some (.int a)] (by decide) rfl (Nat.le_of_ble_eq_true rfl) ?_
  intro p e s mm args below meth c D cI cJ as G hret hex hbd
  refine zz_aload_n G dX_movedBy_0 rfl ?_
  refine zz_iload_n G dX_movedBy_1 rfl ?_
  refine zz_iconst (v := 2) G dX_movedBy_2 (by decide) ?_
  refine zz_callVi (v := fx_words x (6 * v + 2)) (w' := (wx x m o)) (As := [.int (nI v), .int 2]) (rest := []) G (cx_word l x m o v 2 _ _ rfl rfl (hv) (by decide)) kX_59 dX_movedBy_3 rfl rfl rfl rfl (Nat.le_of_ble_eq_true rfl) (fun _ => rfl) ⟨Nat.le_of_ble_eq_true rfl, Nat.le_of_ble_eq_true rfl⟩ ⟨Nat.le_of_ble_eq_true rfl, Nat.le_of_ble_eq_true rfl⟩ ?_
  refine zz_iload_n G dX_movedBy_6 rfl ?_
  refine zz_icmp_ne (tgt := 17) G dX_movedBy_7 rfl (fun h7 => ?_) (fun h7 => ?_)
  · refine zz_aload_n G dX_movedBy_17 rfl ?_
    refine zz_iload_n G dX_movedBy_18 rfl ?_
    refine zz_iconst (v := 3) G dX_movedBy_19 (by decide) ?_
    refine zz_callVi (v := fx_words x (6 * v + 3)) (w' := (wx x m o)) (As := [.int (nI v), .int 3]) (rest := []) G (cx_word l x m o v 3 _ _ rfl rfl (hv) (by decide)) kX_59 dX_movedBy_20 rfl rfl rfl rfl (Nat.le_of_ble_eq_true rfl) (fun _ => rfl) ⟨Nat.le_of_ble_eq_true rfl, Nat.le_of_ble_eq_true rfl⟩ ⟨Nat.le_of_ble_eq_true rfl, Nat.le_of_ble_eq_true rfl⟩ ?_
    refine zz_iload_n G dX_movedBy_23 rfl ?_
    refine zz_icmp_ne (tgt := 37) G dX_movedBy_24 rfl (fun h24 => ?_) (fun h24 => ?_)
    · refine zz_iconst (v := 0) G dX_movedBy_37 (by decide) ?_
      exact zz_iret G hret dX_movedBy_38 (by rw [show sMoved (fx_words x) v a = 0 from by rw [sMoved, if_neg h7, if_neg h24]]) (Nat.le_of_ble_eq_true rfl) (Nat.le_of_ble_eq_true rfl)
    · refine zz_aload_n G dX_movedBy_27 rfl ?_
      refine zz_iload_n G dX_movedBy_28 rfl ?_
      refine zz_iconst (v := 4) G dX_movedBy_29 (by decide) ?_
      refine zz_callVi (v := fx_words x (6 * v + 4)) (w' := (wx x m o)) (As := [.int (nI v), .int 4]) (rest := []) G (cx_word l x m o v 4 _ _ rfl rfl (hv) (by decide)) kX_59 dX_movedBy_30 rfl rfl rfl rfl (Nat.le_of_ble_eq_true rfl) (fun _ => rfl) ⟨Nat.le_of_ble_eq_true rfl, Nat.le_of_ble_eq_true rfl⟩ ⟨Nat.le_of_ble_eq_true rfl, Nat.le_of_ble_eq_true rfl⟩ ?_
      refine zz_ineg G dX_movedBy_33 ?_
      refine zz_goto (tgt := 38) G dX_movedBy_34 rfl ?_
      exact zz_iret G hret dX_movedBy_38 (by rw [show sMoved (fx_words x) v a = -(fx_words x (6 * v + 4)) from by rw [sMoved, if_neg h7, if_pos h24]]) (Nat.le_of_ble_eq_true rfl) (Nat.le_of_ble_eq_true rfl)
  · refine zz_aload_n G dX_movedBy_10 rfl ?_
    refine zz_iload_n G dX_movedBy_11 rfl ?_
    refine zz_iconst (v := 4) G dX_movedBy_12 (by decide) ?_
    refine zz_callVi (v := fx_words x (6 * v + 4)) (w' := (wx x m o)) (As := [.int (nI v), .int 4]) (rest := []) G (cx_word l x m o v 4 _ _ rfl rfl (hv) (by decide)) kX_59 dX_movedBy_13 rfl rfl rfl rfl (Nat.le_of_ble_eq_true rfl) (fun _ => rfl) ⟨Nat.le_of_ble_eq_true rfl, Nat.le_of_ble_eq_true rfl⟩ ⟨Nat.le_of_ble_eq_true rfl, Nat.le_of_ble_eq_true rfl⟩ ?_
    exact zz_iret G hret dX_movedBy_16 (by rw [show sMoved (fx_words x) v a = fx_words x (6 * v + 4) from by rw [sMoved, if_pos h7]]) (Nat.le_of_ble_eq_true rfl) (Nat.le_of_ble_eq_true rfl)
set_option maxRecDepth 100000 in
set_option maxHeartbeats 4000000 in
theorem cx_currentVersion (l : Launch) (x : XS) (m : MS) (o : Nat → Int64) (en it : Int32) (t : Nat) (hit : it = nI t) (ht : t ≤ 64) : zC l yX_currentVersion (Jvm.Cond.code yX_currentVersion bX_currentVersion 4 (some .int) :: Tw) 1 true 0 0 [.ref 0, .int en, .int it] (wx x m o) (.inl (some (.int (sCv (sLast (fx_words x) en t))), wx x m o)) := by
  subst hit
  refine zC_of [some (.ref 0), some (.int en), some (.int (nI t)), none] (by decide) rfl (Nat.le_of_ble_eq_true rfl) ?_
  intro p e s mm args below meth c D cI cJ as G hret hex hbd
  have loop : ∀ v : Nat, v ≤ 64 → sLast (fx_words x) en v = sLast (fx_words x) en t → Z p l e (zrm 1) s mm args below meth c 4 D cI cJ as true 0 0 (zMQ below (.inl (some (.int (sCv (sLast (fx_words x) en t))), wx x m o)) D cI cJ as true s 0 0) 4 [some (.ref 0), some (.int en), some (.int (nI t)), some (.int (nI v - 1))] [] (wx x m o) := by
    intro v
    induction v with
    | zero =>
      intro hv hq
      refine zz_iload_n G dX_currentVersion_4 rfl ?_
      refine zz_if_lt (tgt := 26) G dX_currentVersion_5 rfl (fun h5 => ?_) (fun h5 => (h5 (by decide)).elim)
      refine zz_iconst (v := -1) G dX_currentVersion_26 (by decide) ?_
      exact zz_iret G hret dX_currentVersion_27 (by rw [← hq]; rfl) (Nat.le_of_ble_eq_true rfl) (Nat.le_of_ble_eq_true rfl)
    | succ v ih =>
      intro hv hq
      refine zz_eq (lv' := [some (.ref 0), some (.int en), some (.int (nI t)), some (.int (nI v))]) rfl (by rw [nI_pred]) rfl rfl ?_
      refine zz_iload_n G dX_currentVersion_4 rfl ?_
      refine zz_if_lt (tgt := 26) G dX_currentVersion_5 rfl (fun h5 => (nI_pos (by omega) h5).elim) (fun h5 => ?_)
      refine zz_aload_n G dX_currentVersion_8 rfl ?_
      refine zz_iload_n G dX_currentVersion_9 rfl ?_
      refine zz_iconst (v := 1) G dX_currentVersion_10 (by decide) ?_
      refine zz_callVi (v := fx_words x (6 * v + 1)) (w' := (wx x m o)) (As := [.int (nI v), .int 1]) (rest := []) G (cx_word l x m o v 1 _ _ rfl rfl (by omega) (by decide)) kX_59 dX_currentVersion_11 rfl rfl rfl rfl (Nat.le_of_ble_eq_true rfl) (fun _ => rfl) ⟨Nat.le_of_ble_eq_true rfl, Nat.le_of_ble_eq_true rfl⟩ ⟨Nat.le_of_ble_eq_true rfl, Nat.le_of_ble_eq_true rfl⟩ ?_
      refine zz_iload_n G dX_currentVersion_14 rfl ?_
      refine zz_icmp_ne (tgt := 20) G dX_currentVersion_15 rfl (fun h15 => ?_) (fun h15 => ?_)
      · refine zz_iinc (v := nI v - 1) (lv' := [some (.ref 0), some (.int en), some (.int (nI t)), some (.int (nI v - 1))]) G dX_currentVersion_20 rfl (by rw [Int32.sub_eq_add_neg]; rfl) rfl ?_
        refine zz_goto (tgt := 4) G dX_currentVersion_23 rfl ?_
        refine ih (by omega) ?_
        rw [← hq]
        show _ = mL _ _ (v + 1)
        rw [mL_s, if_neg (show ¬ fE (fx_words x) v = en from h15)]
        rfl
      · refine zz_iload_n G dX_currentVersion_18 rfl ?_
        exact zz_iret G hret dX_currentVersion_19 (by rw [← hq, show sLast (fx_words x) en (v + 1) = some v from by show mL _ _ (v + 1) = _; rw [mL_s, if_pos (show fE (fx_words x) v = en from h15)]]; rfl) (Nat.le_of_ble_eq_true rfl) (Nat.le_of_ble_eq_true rfl)
  refine zz_iload_n G dX_currentVersion_0 rfl ?_
  refine zz_iconst (v := 1) G dX_currentVersion_1 (by decide) ?_
  refine zz_isub G dX_currentVersion_2 ?_
  refine zz_istore_n (lv' := [some (.ref 0), some (.int en), some (.int (nI t)), some (.int ((nI t) - 1))]) G dX_currentVersion_3 (Nat.le_of_ble_eq_true rfl) rfl ?_
  exact loop t ht rfl
set_option maxRecDepth 100000 in
set_option maxHeartbeats 4000000 in
theorem cx_balanceOf (l : Launch) (x : XS) (m : MS) (o : Nat → Int64) (a d it : Int32) (t : Nat) (hit : it = nI t) (ht : t ≤ 64) : zC l yX_balanceOf (Jvm.Cond.code yX_balanceOf bX_balanceOf 6 (some .int) :: Tw) 2 true 0 0 [.ref 0, .int a, .int d, .int it] (wx x m o) (.inl (some (.int (cBal (fx_words x) (fx_rep x) a d (nI t) t)), wx x m o)) := by
  subst hit
  refine zC_of [some (.ref 0), some (.int a), some (.int d), some (.int (nI t)), none, none] (by decide) rfl (Nat.le_of_ble_eq_true rfl) ?_
  intro p e s mm args below meth c D cI cJ as G hret hex hbd
  have loop : ∀ (j0 v : Nat), v + j0 = t → Z p l e (zrm 2) s mm args below meth c 6 D cI cJ as true 0 0 (zMQ below (.inl (some (.int (cBal (fx_words x) (fx_rep x) a d (nI t) t)), wx x m o)) D cI cJ as true s 0 0) 6 [some (.ref 0), some (.int a), some (.int d), some (.int (nI t)), some (.int (cBal (fx_words x) (fx_rep x) a d (nI t) v)), some (.int (nI v))] [] (wx x m o) := by
    intro j0
    induction j0 with
    | zero =>
      intro v hv
      have hv : t = v := by omega
      subst hv
      refine zz_iload G dX_balanceOf_6 rfl ?_
      refine zz_iload_n G dX_balanceOf_8 rfl ?_
      refine zz_icmp_ge (tgt := 51) G dX_balanceOf_9 rfl (fun h9 => ?_) (fun h9 => (h9 (nI_le (Nat.le_refl _) (by omega))).elim)
      refine zz_iload G dX_balanceOf_51 rfl ?_
      exact zz_iret G hret dX_balanceOf_53 (rfl) (Nat.le_of_ble_eq_true rfl) (Nat.le_of_ble_eq_true rfl)
    | succ j0 ih =>
      intro v hv
      refine zz_iload G dX_balanceOf_6 rfl ?_
      refine zz_iload_n G dX_balanceOf_8 rfl ?_
      refine zz_icmp_ge (tgt := 51) G dX_balanceOf_9 rfl (fun h9 => (nI_ge (by omega) (by omega) h9).elim) (fun h9 => ?_)
      refine zz_aload_n G dX_balanceOf_12 rfl ?_
      refine zz_iload G dX_balanceOf_13 rfl ?_
      refine zz_iload_n G dX_balanceOf_15 rfl ?_
      refine zz_callVi (v := sCur (fx_rep x) v (nI t)) (w' := (wx x m o)) (As := [.int (nI v), .int (nI t)]) (rest := []) G (cx_isCurrent l x m o v _ (nI t) rfl (by omega)) kX_85 dX_balanceOf_16 rfl rfl rfl rfl (Nat.le_of_ble_eq_true rfl) (fun _ => rfl) ⟨Nat.le_of_ble_eq_true rfl, Nat.le_of_ble_eq_true rfl⟩ ⟨Nat.le_of_ble_eq_true rfl, Nat.le_of_ble_eq_true rfl⟩ ?_
      refine zz_if_eq (tgt := 45) G dX_balanceOf_19 rfl (fun h19 => ?_) (fun h19 => ?_)
      · refine zz_iinc (v := nI (v + 1)) (lv' := [some (.ref 0), some (.int a), some (.int d), some (.int (nI t)), some (.int (cBal (fx_words x) (fx_rep x) a d (nI t) v)), some (.int (nI (v + 1)))]) G dX_balanceOf_45 rfl (by rw [nI_succ]; rfl) rfl ?_
        refine zz_goto (tgt := 6) G dX_balanceOf_48 rfl ?_
        refine zz_eq (lv' := [some (.ref 0), some (.int a), some (.int d), some (.int (nI t)), some (.int (cBal (fx_words x) (fx_rep x) a d (nI t) (v + 1))), some (.int (nI (v + 1)))]) rfl (by rw [show cBal (fx_words x) (fx_rep x) a d (nI t) (v + 1) = cBal (fx_words x) (fx_rep x) a d (nI t) v from by rw [cBal, if_pos h19]]) rfl rfl ?_
        exact ih (v + 1) (by omega)
      · refine zz_aload_n G dX_balanceOf_22 rfl ?_
        refine zz_iload G dX_balanceOf_23 rfl ?_
        refine zz_iconst (v := 5) G dX_balanceOf_25 (by decide) ?_
        refine zz_callVi (v := fx_words x (6 * v + 5)) (w' := (wx x m o)) (As := [.int (nI v), .int 5]) (rest := []) G (cx_word l x m o v 5 _ _ rfl rfl (by omega) (by decide)) kX_59 dX_balanceOf_26 rfl rfl rfl rfl (Nat.le_of_ble_eq_true rfl) (fun _ => rfl) ⟨Nat.le_of_ble_eq_true rfl, Nat.le_of_ble_eq_true rfl⟩ ⟨Nat.le_of_ble_eq_true rfl, Nat.le_of_ble_eq_true rfl⟩ ?_
        refine zz_iload_n G dX_balanceOf_29 rfl ?_
        refine zz_icmp_gt (tgt := 45) G dX_balanceOf_30 rfl (fun h30 => ?_) (fun h30 => ?_)
        · refine zz_iinc (v := nI (v + 1)) (lv' := [some (.ref 0), some (.int a), some (.int d), some (.int (nI t)), some (.int (cBal (fx_words x) (fx_rep x) a d (nI t) v)), some (.int (nI (v + 1)))]) G dX_balanceOf_45 rfl (by rw [nI_succ]; rfl) rfl ?_
          refine zz_goto (tgt := 6) G dX_balanceOf_48 rfl ?_
          refine zz_eq (lv' := [some (.ref 0), some (.int a), some (.int d), some (.int (nI t)), some (.int (cBal (fx_words x) (fx_rep x) a d (nI t) (v + 1))), some (.int (nI (v + 1)))]) rfl (by rw [show cBal (fx_words x) (fx_rep x) a d (nI t) (v + 1) = cBal (fx_words x) (fx_rep x) a d (nI t) v from by rw [cBal, if_neg h19, if_pos h30]]) rfl rfl ?_
          exact ih (v + 1) (by omega)
        · refine zz_iload G dX_balanceOf_33 rfl ?_
          refine zz_aload_n G dX_balanceOf_35 rfl ?_
          refine zz_iload G dX_balanceOf_36 rfl ?_
          refine zz_iload_n G dX_balanceOf_38 rfl ?_
          refine zz_callVi (v := sMoved (fx_words x) v a) (w' := (wx x m o)) (As := [.int (nI v), .int a]) (rest := [.int (cBal (fx_words x) (fx_rep x) a d (nI t) v)]) G (cx_movedBy l x m o v _ a rfl (by omega)) kX_96 dX_balanceOf_39 rfl rfl rfl rfl (Nat.le_of_ble_eq_true rfl) (fun _ => rfl) ⟨Nat.le_of_ble_eq_true rfl, Nat.le_of_ble_eq_true rfl⟩ ⟨Nat.le_of_ble_eq_true rfl, Nat.le_of_ble_eq_true rfl⟩ ?_
          refine zz_iadd G dX_balanceOf_42 ?_
          refine zz_istore (lv' := [some (.ref 0), some (.int a), some (.int d), some (.int (nI t)), some (.int ((cBal (fx_words x) (fx_rep x) a d (nI t) v) + (sMoved (fx_words x) v a))), some (.int (nI v))]) G dX_balanceOf_43 (Nat.le_of_ble_eq_true rfl) rfl ?_
          refine zz_iinc (v := nI (v + 1)) (lv' := [some (.ref 0), some (.int a), some (.int d), some (.int (nI t)), some (.int ((cBal (fx_words x) (fx_rep x) a d (nI t) v) + (sMoved (fx_words x) v a))), some (.int (nI (v + 1)))]) G dX_balanceOf_45 rfl (by rw [nI_succ]; rfl) rfl ?_
          refine zz_goto (tgt := 6) G dX_balanceOf_48 rfl ?_
          refine zz_eq (lv' := [some (.ref 0), some (.int a), some (.int d), some (.int (nI t)), some (.int (cBal (fx_words x) (fx_rep x) a d (nI t) (v + 1))), some (.int (nI (v + 1)))]) rfl (by rw [show cBal (fx_words x) (fx_rep x) a d (nI t) (v + 1) = (cBal (fx_words x) (fx_rep x) a d (nI t) v) + (sMoved (fx_words x) v a) from by rw [cBal, if_neg h19, if_neg h30]]) rfl rfl ?_
          exact ih (v + 1) (by omega)
  refine zz_iconst (v := 0) G dX_balanceOf_0 (by decide) ?_
  refine zz_istore (lv' := [some (.ref 0), some (.int a), some (.int d), some (.int (nI t)), some (.int 0), none]) G dX_balanceOf_1 (Nat.le_of_ble_eq_true rfl) rfl ?_
  refine zz_iconst (v := 0) G dX_balanceOf_3 (by decide) ?_
  refine zz_istore (lv' := [some (.ref 0), some (.int a), some (.int d), some (.int (nI t)), some (.int 0), some (.int 0)]) G dX_balanceOf_4 (Nat.le_of_ble_eq_true rfl) rfl ?_
  exact loop t 0 (by omega)
set_option maxRecDepth 100000 in
set_option maxHeartbeats 4000000 in
theorem cx_turnoverOf (l : Launch) (x : XS) (m : MS) (o : Nat → Int64) (a : Int32) (n : Nat) (hvc : fx_vc x = nI n) (hn : n ≤ 64) : zC l yX_turnoverOf (Jvm.Cond.code yX_turnoverOf bX_turnoverOf 4 (some .int) :: Tw) 2 true 0 0 [.ref 0, .int a] (wx x m o) (.inl (some (.int (cTurn (fx_words x) (fx_rep x) a (nI n) n)), wx x m o)) := by
  refine zC_of [some (.ref 0), some (.int a), none, none] (by decide) rfl (Nat.le_of_ble_eq_true rfl) ?_
  intro p e s mm args below meth c D cI cJ as G hret hex hbd
  have loop : ∀ (j0 v : Nat), v + j0 = n → Z p l e (zrm 2) s mm args below meth c 4 D cI cJ as true 0 0 (zMQ below (.inl (some (.int (cTurn (fx_words x) (fx_rep x) a (nI n) n)), wx x m o)) D cI cJ as true s 0 0) 4 [some (.ref 0), some (.int a), some (.int (cTurn (fx_words x) (fx_rep x) a (nI n) v)), some (.int (nI v))] [] (wx x m o) := by
    intro j0
    induction j0 with
    | zero =>
      intro v hv
      have hv : n = v := by omega
      subst hv
      refine zz_iload_n G dX_turnoverOf_4 rfl ?_
      refine zz_aload_n G dX_turnoverOf_5 rfl ?_
      refine zz_get (v := .int (nI n)) G dX_turnoverOf_6 flX_105 rfl (by rw [← hvc]; rfl) ?_
      refine zz_icmp_ge (tgt := 48) G dX_turnoverOf_9 rfl (fun h9 => ?_) (fun h9 => (h9 (nI_le (Nat.le_refl _) (by omega))).elim)
      refine zz_iload_n G dX_turnoverOf_48 rfl ?_
      exact zz_iret G hret dX_turnoverOf_49 (rfl) (Nat.le_of_ble_eq_true rfl) (Nat.le_of_ble_eq_true rfl)
    | succ j0 ih =>
      intro v hv
      refine zz_iload_n G dX_turnoverOf_4 rfl ?_
      refine zz_aload_n G dX_turnoverOf_5 rfl ?_
      refine zz_get (v := .int (nI n)) G dX_turnoverOf_6 flX_105 rfl (by rw [← hvc]; rfl) ?_
      refine zz_icmp_ge (tgt := 48) G dX_turnoverOf_9 rfl (fun h9 => (nI_ge (by omega) (by omega) h9).elim) (fun h9 => ?_)
      refine zz_aload_n G dX_turnoverOf_12 rfl ?_
      refine zz_iload_n G dX_turnoverOf_13 rfl ?_
      refine zz_aload_n G dX_turnoverOf_14 rfl ?_
      refine zz_get (v := .int (nI n)) G dX_turnoverOf_15 flX_105 rfl (by rw [← hvc]; rfl) ?_
      refine zz_callVi (v := sCur (fx_rep x) v (nI n)) (w' := (wx x m o)) (As := [.int (nI v), .int (nI n)]) (rest := []) G (cx_isCurrent l x m o v _ (nI n) rfl (by omega)) kX_85 dX_turnoverOf_18 rfl rfl rfl rfl (Nat.le_of_ble_eq_true rfl) (fun _ => rfl) ⟨Nat.le_of_ble_eq_true rfl, Nat.le_of_ble_eq_true rfl⟩ ⟨Nat.le_of_ble_eq_true rfl, Nat.le_of_ble_eq_true rfl⟩ ?_
      refine zz_if_eq (tgt := 42) G dX_turnoverOf_21 rfl (fun h21 => ?_) (fun h21 => ?_)
      · refine zz_iinc (v := nI (v + 1)) (lv' := [some (.ref 0), some (.int a), some (.int (cTurn (fx_words x) (fx_rep x) a (nI n) v)), some (.int (nI (v + 1)))]) G dX_turnoverOf_42 rfl (by rw [nI_succ]; rfl) rfl ?_
        refine zz_goto (tgt := 4) G dX_turnoverOf_45 rfl ?_
        refine zz_eq (lv' := [some (.ref 0), some (.int a), some (.int (cTurn (fx_words x) (fx_rep x) a (nI n) (v + 1))), some (.int (nI (v + 1)))]) rfl (by rw [show cTurn (fx_words x) (fx_rep x) a (nI n) (v + 1) = cTurn (fx_words x) (fx_rep x) a (nI n) v from by rw [cTurn, if_pos h21]]) rfl rfl ?_
        exact ih (v + 1) (by omega)
      · refine zz_aload_n G dX_turnoverOf_24 rfl ?_
        refine zz_iload_n G dX_turnoverOf_25 rfl ?_
        refine zz_iload_n G dX_turnoverOf_26 rfl ?_
        refine zz_callVi (v := sTouch (fx_words x) v a) (w' := (wx x m o)) (As := [.int (nI v), .int a]) (rest := []) G (cx_touches l x m o v _ a rfl (by omega)) kX_89 dX_turnoverOf_27 rfl rfl rfl rfl (Nat.le_of_ble_eq_true rfl) (fun _ => rfl) ⟨Nat.le_of_ble_eq_true rfl, Nat.le_of_ble_eq_true rfl⟩ ⟨Nat.le_of_ble_eq_true rfl, Nat.le_of_ble_eq_true rfl⟩ ?_
        refine zz_if_eq (tgt := 42) G dX_turnoverOf_30 rfl (fun h30 => ?_) (fun h30 => ?_)
        · refine zz_iinc (v := nI (v + 1)) (lv' := [some (.ref 0), some (.int a), some (.int (cTurn (fx_words x) (fx_rep x) a (nI n) v)), some (.int (nI (v + 1)))]) G dX_turnoverOf_42 rfl (by rw [nI_succ]; rfl) rfl ?_
          refine zz_goto (tgt := 4) G dX_turnoverOf_45 rfl ?_
          refine zz_eq (lv' := [some (.ref 0), some (.int a), some (.int (cTurn (fx_words x) (fx_rep x) a (nI n) (v + 1))), some (.int (nI (v + 1)))]) rfl (by rw [show cTurn (fx_words x) (fx_rep x) a (nI n) (v + 1) = cTurn (fx_words x) (fx_rep x) a (nI n) v from by rw [cTurn, if_neg h21, if_pos h30]]) rfl rfl ?_
          exact ih (v + 1) (by omega)
        · refine zz_iload_n G dX_turnoverOf_33 rfl ?_
          refine zz_aload_n G dX_turnoverOf_34 rfl ?_
          refine zz_iload_n G dX_turnoverOf_35 rfl ?_
          refine zz_iconst (v := 4) G dX_turnoverOf_36 (by decide) ?_
          refine zz_callVi (v := fx_words x (6 * v + 4)) (w' := (wx x m o)) (As := [.int (nI v), .int 4]) (rest := [.int (cTurn (fx_words x) (fx_rep x) a (nI n) v)]) G (cx_word l x m o v 4 _ _ rfl rfl (by omega) (by decide)) kX_59 dX_turnoverOf_37 rfl rfl rfl rfl (Nat.le_of_ble_eq_true rfl) (fun _ => rfl) ⟨Nat.le_of_ble_eq_true rfl, Nat.le_of_ble_eq_true rfl⟩ ⟨Nat.le_of_ble_eq_true rfl, Nat.le_of_ble_eq_true rfl⟩ ?_
          refine zz_iadd G dX_turnoverOf_40 ?_
          refine zz_istore_n (lv' := [some (.ref 0), some (.int a), some (.int ((cTurn (fx_words x) (fx_rep x) a (nI n) v) + (fx_words x (6 * v + 4)))), some (.int (nI v))]) G dX_turnoverOf_41 (Nat.le_of_ble_eq_true rfl) rfl ?_
          refine zz_iinc (v := nI (v + 1)) (lv' := [some (.ref 0), some (.int a), some (.int ((cTurn (fx_words x) (fx_rep x) a (nI n) v) + (fx_words x (6 * v + 4)))), some (.int (nI (v + 1)))]) G dX_turnoverOf_42 rfl (by rw [nI_succ]; rfl) rfl ?_
          refine zz_goto (tgt := 4) G dX_turnoverOf_45 rfl ?_
          refine zz_eq (lv' := [some (.ref 0), some (.int a), some (.int (cTurn (fx_words x) (fx_rep x) a (nI n) (v + 1))), some (.int (nI (v + 1)))]) rfl (by rw [show cTurn (fx_words x) (fx_rep x) a (nI n) (v + 1) = (cTurn (fx_words x) (fx_rep x) a (nI n) v) + (fx_words x (6 * v + 4)) from by rw [cTurn, if_neg h21, if_neg h30]]) rfl rfl ?_
          exact ih (v + 1) (by omega)
  refine zz_iconst (v := 0) G dX_turnoverOf_0 (by decide) ?_
  refine zz_istore_n (lv' := [some (.ref 0), some (.int a), some (.int 0), none]) G dX_turnoverOf_1 (Nat.le_of_ble_eq_true rfl) rfl ?_
  refine zz_iconst (v := 0) G dX_turnoverOf_2 (by decide) ?_
  refine zz_istore_n (lv' := [some (.ref 0), some (.int a), some (.int 0), some (.int 0)]) G dX_turnoverOf_3 (Nat.le_of_ble_eq_true rfl) rfl ?_
  exact loop n 0 (by omega)
set_option maxRecDepth 100000 in
set_option maxHeartbeats 4000000 in
theorem cx_linkBefore (l : Launch) (x : XS) (m : MS) (o : Nat → Int64) (a : Nat) (iv : Int32) (hiv : iv = nI a) (ha : a ≤ 64) : zC l yX_linkBefore (Jvm.Cond.code yX_linkBefore bX_linkBefore 2 (some .long) :: Tw) 0 true 0 0 [.ref 0, .int iv] (wx x m o) (.inl (some (.long (sBef (fx_links x) a)), wx x m o)) := by
  subst hiv
  refine zC_of [some (.ref 0), some (.int (nI a))] (by decide) rfl (Nat.le_of_ble_eq_true rfl) ?_
  intro p e s mm args below meth c D cI cJ as G hret hex hbd
  cases a with
  | zero =>
    refine zz_iload_n G dX_linkBefore_0 rfl ?_
    refine zz_if_ne (tgt := 10) G dX_linkBefore_1 rfl (fun h1 => (h1 rfl).elim) (fun h1 => ?_)
    refine zz_ldc2 (v := 1469598103) G dX_linkBefore_4 tw_100 ?_
    refine zz_goto (tgt := 18) G dX_linkBefore_7 rfl ?_
    exact zz_lret G hret dX_linkBefore_18 (rfl) (Nat.le_of_ble_eq_true rfl) (Nat.le_of_ble_eq_true rfl)
  | succ a =>
    refine zz_iload_n G dX_linkBefore_0 rfl ?_
    refine zz_if_ne (tgt := 10) G dX_linkBefore_1 rfl (fun h1 => ?_) (fun h1 => (nI_ne0 (by omega) (by omega) h1).elim)
    refine zz_aload_n G dX_linkBefore_10 rfl ?_
    refine zz_get (v := .ref 2) G dX_linkBefore_11 flX_13 rfl rfl ?_
    refine zz_iload_n G dX_linkBefore_14 rfl ?_
    refine zz_iconst (v := 1) G dX_linkBefore_15 (by decide) ?_
    refine zz_isub G dX_linkBefore_16 ?_
    refine zz_lald (v := fx_links x a) G dX_linkBefore_17 rfl (by rw [nI_pred]; exact i1_in (by omega)) (by rw [nI_pred, i1_at (by omega)]) ?_
    exact zz_lret G hret dX_linkBefore_18 (rfl) (Nat.le_of_ble_eq_true rfl) (Nat.le_of_ble_eq_true rfl)
set_option maxRecDepth 100000 in
set_option maxHeartbeats 4000000 in
theorem cx_linkOfWords (l : Launch) (x : XS) (m : MS) (o : Nat → Int64) (a : Nat) (iv : Int32) (hiv : iv = nI a) (ha : a < 64) : zC l yX_linkOfWords (Jvm.Cond.code yX_linkOfWords bX_linkOfWords 5 (some .long) :: Tw) 1 true 0 0 [.ref 0, .int iv] (wx x m o) (.inl (some (.long (sLnk (fx_words x) a (sBef (fx_links x) a) 6)), wx x m o)) := by
  subst hiv
  refine zC_of [some (.ref 0), some (.int (nI a)), none, none, none] (by decide) rfl (Nat.le_of_ble_eq_true rfl) ?_
  intro p e s mm args below meth c D cI cJ as G hret hex hbd
  have loop : ∀ (d k : Nat), k + d = 6 → Z p l e (zrm 1) s mm args below meth c 5 D cI cJ as true 0 0 (zMQ below (.inl (some (.long (sLnk (fx_words x) a (sBef (fx_links x) a) 6)), wx x m o)) D cI cJ as true s 0 0) 9 [some (.ref 0), some (.int (nI a)), some (.long (sLnk (fx_words x) a (sBef (fx_links x) a) k)), none, some (.int (nI k))] [] (wx x m o) := by
    intro d
    induction d with
    | zero =>
      intro k hk
      have hk : k = 6 := by omega
      subst hk
      refine zz_iload G dX_linkOfWords_9 rfl ?_
      refine zz_bipush (v := 6) G dX_linkOfWords_11 (by decide) ?_
      refine zz_icmp_ge (tgt := 42) G dX_linkOfWords_13 rfl (fun h13 => ?_) (fun h13 => (h13 (by decide)).elim)
      refine zz_lload_n G dX_linkOfWords_42 rfl ?_
      exact zz_lret G hret dX_linkOfWords_43 (rfl) (Nat.le_of_ble_eq_true rfl) (Nat.le_of_ble_eq_true rfl)
    | succ d ih =>
      intro k hk
      refine zz_iload G dX_linkOfWords_9 rfl ?_
      refine zz_bipush (v := 6) G dX_linkOfWords_11 (by decide) ?_
      refine zz_icmp_ge (tgt := 42) G dX_linkOfWords_13 rfl (fun h13 => (nI_ge (show k < 6 by omega) (by decide) h13).elim) (fun h13 => ?_)
      refine zz_lload_n G dX_linkOfWords_16 rfl ?_
      refine zz_lload_n G dX_linkOfWords_17 rfl ?_
      refine zz_bipush (v := 27) G dX_linkOfWords_18 (by decide) ?_
      refine zz_lushr (v := sUsr (sLnk (fx_words x) a (sBef (fx_links x) a) k)) G dX_linkOfWords_20 rfl ?_
      refine zz_lxor G dX_linkOfWords_21 ?_
      refine zz_ldc2 (v := 2685821657736338717) G dX_linkOfWords_22 tw_109 ?_
      refine zz_lmul G dX_linkOfWords_25 ?_
      refine zz_aload_n G dX_linkOfWords_26 rfl ?_
      refine zz_iload_n G dX_linkOfWords_27 rfl ?_
      refine zz_iload G dX_linkOfWords_28 rfl ?_
      refine zz_callVi (v := fx_words x (6 * a + k)) (w' := (wx x m o)) (As := [.int (nI a), .int (nI k)]) (rest := [.long (((sLnk (fx_words x) a (sBef (fx_links x) a) k) ^^^ (sUsr (sLnk (fx_words x) a (sBef (fx_links x) a) k))) * 2685821657736338717)]) G (cx_word l x m o a k _ _ rfl rfl (ha) (by omega)) kX_59 dX_linkOfWords_30 rfl rfl rfl rfl (Nat.le_of_ble_eq_true rfl) (fun _ => rfl) ⟨Nat.le_of_ble_eq_true rfl, Nat.le_of_ble_eq_true rfl⟩ ⟨Nat.le_of_ble_eq_true rfl, Nat.le_of_ble_eq_true rfl⟩ ?_
      refine zz_i2l G dX_linkOfWords_33 ?_
      refine zz_ladd G dX_linkOfWords_34 ?_
      refine zz_lstore_n (lv' := [some (.ref 0), some (.int (nI a)), some (.long ((((sLnk (fx_words x) a (sBef (fx_links x) a) k) ^^^ (sUsr (sLnk (fx_words x) a (sBef (fx_links x) a) k))) * 2685821657736338717) + ((fx_words x (6 * a + k)).toInt64))), none, some (.int (nI k))]) G dX_linkOfWords_35 (Nat.le_of_ble_eq_true rfl) rfl ?_
      refine zz_iinc (v := nI (k + 1)) (lv' := [some (.ref 0), some (.int (nI a)), some (.long ((((sLnk (fx_words x) a (sBef (fx_links x) a) k) ^^^ (sUsr (sLnk (fx_words x) a (sBef (fx_links x) a) k))) * 2685821657736338717) + ((fx_words x (6 * a + k)).toInt64))), none, some (.int (nI (k + 1)))]) G dX_linkOfWords_36 rfl (by rw [nI_succ]; rfl) rfl ?_
      refine zz_goto (tgt := 9) G dX_linkOfWords_39 rfl ?_
      refine zz_eq (lv' := [some (.ref 0), some (.int (nI a)), some (.long (sLnk (fx_words x) a (sBef (fx_links x) a) (k + 1))), none, some (.int (nI (k + 1)))]) rfl rfl rfl rfl ?_
      exact ih (k + 1) (by omega)
  refine zz_aload_n G dX_linkOfWords_0 rfl ?_
  refine zz_iload_n G dX_linkOfWords_1 rfl ?_
  refine zz_callVl (v := sBef (fx_links x) a) (w' := (wx x m o)) (As := [.int (nI a)]) (rest := []) G (cx_linkBefore l x m o a _ rfl (by omega)) kX_108 dX_linkOfWords_2 rfl rfl rfl rfl (Nat.le_of_ble_eq_true rfl) (fun _ => rfl) ⟨Nat.le_of_ble_eq_true rfl, Nat.le_of_ble_eq_true rfl⟩ ⟨Nat.le_of_ble_eq_true rfl, Nat.le_of_ble_eq_true rfl⟩ ?_
  refine zz_lstore_n (lv' := [some (.ref 0), some (.int (nI a)), some (.long (sBef (fx_links x) a)), none, none]) G dX_linkOfWords_5 (Nat.le_of_ble_eq_true rfl) rfl ?_
  refine zz_iconst (v := 0) G dX_linkOfWords_6 (by decide) ?_
  refine zz_istore (lv' := [some (.ref 0), some (.int (nI a)), some (.long (sBef (fx_links x) a)), none, some (.int 0)]) G dX_linkOfWords_7 (Nat.le_of_ble_eq_true rfl) rfl ?_
  exact loop 6 0 (by omega)
set_option maxRecDepth 100000 in
set_option maxHeartbeats 4000000 in
theorem cx_comesBefore (l : Launch) (x : XS) (m : MS) (o : Nat → Int64) (u v : Nat) (iu iv : Int32) (hiu : iu = nI u) (hiv : iv = nI v) (hu : u < 64) (hv : v < 64) : zC l yX_comesBefore (Jvm.Cond.code yX_comesBefore bX_comesBefore 4 (some .boolean) :: Tw) 1 true 0 0 [.ref 0, .int iu, .int iv] (wx x m o) (.inl (some (.int (sBfr (fx_words x) u v)), wx x m o)) := by
  subst hiu
  subst hiv
  refine zC_of [some (.ref 0), some (.int (nI u)), some (.int (nI v)), none] (by decide) rfl (Nat.le_of_ble_eq_true rfl) ?_
  intro p e s mm args below meth c D cI cJ as G hret hex hbd
  refine zz_aload_n G dX_comesBefore_0 rfl ?_
  refine zz_iload_n G dX_comesBefore_1 rfl ?_
  refine zz_iconst (v := 5) G dX_comesBefore_2 (by decide) ?_
  refine zz_callVi (v := fx_words x (6 * u + 5)) (w' := (wx x m o)) (As := [.int (nI u), .int 5]) (rest := []) G (cx_word l x m o u 5 _ _ rfl rfl (hu) (by decide)) kX_59 dX_comesBefore_3 rfl rfl rfl rfl (Nat.le_of_ble_eq_true rfl) (fun _ => rfl) ⟨Nat.le_of_ble_eq_true rfl, Nat.le_of_ble_eq_true rfl⟩ ⟨Nat.le_of_ble_eq_true rfl, Nat.le_of_ble_eq_true rfl⟩ ?_
  refine zz_aload_n G dX_comesBefore_6 rfl ?_
  refine zz_iload_n G dX_comesBefore_7 rfl ?_
  refine zz_iconst (v := 5) G dX_comesBefore_8 (by decide) ?_
  refine zz_callVi (v := fx_words x (6 * v + 5)) (w' := (wx x m o)) (As := [.int (nI v), .int 5]) (rest := [.int (fx_words x (6 * u + 5))]) G (cx_word l x m o v 5 _ _ rfl rfl (hv) (by decide)) kX_59 dX_comesBefore_9 rfl rfl rfl rfl (Nat.le_of_ble_eq_true rfl) (fun _ => rfl) ⟨Nat.le_of_ble_eq_true rfl, Nat.le_of_ble_eq_true rfl⟩ ⟨Nat.le_of_ble_eq_true rfl, Nat.le_of_ble_eq_true rfl⟩ ?_
  refine zz_callSi (v := sCmp (fx_words x (6 * u + 5)) (fx_words x (6 * v + 5))) (w' := (wx x m o)) (As := [.int (fx_words x (6 * u + 5)), .int (fx_words x (6 * v + 5))]) (rest := []) G (ci_compare l x m o (fx_words x (6 * u + 5)) (fx_words x (6 * v + 5))) kX_158 dX_comesBefore_12 rfl rfl (Nat.le_of_ble_eq_true rfl) (fun _ => rfl) ⟨Nat.le_of_ble_eq_true rfl, Nat.le_of_ble_eq_true rfl⟩ ⟨Nat.le_of_ble_eq_true rfl, Nat.le_of_ble_eq_true rfl⟩ ?_
  refine zz_istore_n (lv' := [some (.ref 0), some (.int (nI u)), some (.int (nI v)), some (.int (sCmp (fx_words x (6 * u + 5)) (fx_words x (6 * v + 5))))]) G dX_comesBefore_15 (Nat.le_of_ble_eq_true rfl) rfl ?_
  refine zz_iload_n G dX_comesBefore_16 rfl ?_
  refine zz_if_lt (tgt := 39) G dX_comesBefore_17 rfl (fun h17 => ?_) (fun h17 => ?_)
  · refine zz_iconst (v := 1) G dX_comesBefore_39 (by decide) ?_
    refine zz_goto (tgt := 44) G dX_comesBefore_40 rfl ?_
    exact zz_zret G hret dX_comesBefore_44 rfl (by rw [show sBfr (fx_words x) u v = 1 from by rw [sBfr, if_pos (sCmp_lt h17)]]) (Nat.le_of_ble_eq_true rfl) (Nat.le_of_ble_eq_true rfl)
  · refine zz_iload_n G dX_comesBefore_20 rfl ?_
    refine zz_if_ne (tgt := 43) G dX_comesBefore_21 rfl (fun h21 => ?_) (fun h21 => ?_)
    · refine zz_iconst (v := 0) G dX_comesBefore_43 (by decide) ?_
      exact zz_zret G hret dX_comesBefore_44 rfl (by rw [show sBfr (fx_words x) u v = 0 from by rw [sBfr, if_neg (sCmp_nlt h17), if_neg (sCmp_ne h21)]]) (Nat.le_of_ble_eq_true rfl) (Nat.le_of_ble_eq_true rfl)
    · refine zz_aload_n G dX_comesBefore_24 rfl ?_
      refine zz_iload_n G dX_comesBefore_25 rfl ?_
      refine zz_iconst (v := 1) G dX_comesBefore_26 (by decide) ?_
      refine zz_callVi (v := fx_words x (6 * u + 1)) (w' := (wx x m o)) (As := [.int (nI u), .int 1]) (rest := []) G (cx_word l x m o u 1 _ _ rfl rfl (hu) (by decide)) kX_59 dX_comesBefore_27 rfl rfl rfl rfl (Nat.le_of_ble_eq_true rfl) (fun _ => rfl) ⟨Nat.le_of_ble_eq_true rfl, Nat.le_of_ble_eq_true rfl⟩ ⟨Nat.le_of_ble_eq_true rfl, Nat.le_of_ble_eq_true rfl⟩ ?_
      refine zz_aload_n G dX_comesBefore_30 rfl ?_
      refine zz_iload_n G dX_comesBefore_31 rfl ?_
      refine zz_iconst (v := 1) G dX_comesBefore_32 (by decide) ?_
      refine zz_callVi (v := fx_words x (6 * v + 1)) (w' := (wx x m o)) (As := [.int (nI v), .int 1]) (rest := [.int (fx_words x (6 * u + 1))]) G (cx_word l x m o v 1 _ _ rfl rfl (hv) (by decide)) kX_59 dX_comesBefore_33 rfl rfl rfl rfl (Nat.le_of_ble_eq_true rfl) (fun _ => rfl) ⟨Nat.le_of_ble_eq_true rfl, Nat.le_of_ble_eq_true rfl⟩ ⟨Nat.le_of_ble_eq_true rfl, Nat.le_of_ble_eq_true rfl⟩ ?_
      refine zz_icmp_ge (tgt := 43) G dX_comesBefore_36 rfl (fun h36 => ?_) (fun h36 => ?_)
      · refine zz_iconst (v := 0) G dX_comesBefore_43 (by decide) ?_
        exact zz_zret G hret dX_comesBefore_44 rfl (by rw [show sBfr (fx_words x) u v = 0 from by rw [sBfr, if_neg (sCmp_nlt h17), if_pos (sCmp_eq h21), if_neg (i32_nlt h36)]]) (Nat.le_of_ble_eq_true rfl) (Nat.le_of_ble_eq_true rfl)
      · refine zz_iconst (v := 1) G dX_comesBefore_39 (by decide) ?_
        refine zz_goto (tgt := 44) G dX_comesBefore_40 rfl ?_
        exact zz_zret G hret dX_comesBefore_44 rfl (by rw [show sBfr (fx_words x) u v = 1 from by rw [sBfr, if_neg (sCmp_nlt h17), if_pos (sCmp_eq h21), if_pos (i32_lt h36)]]) (Nat.le_of_ble_eq_true rfl) (Nat.le_of_ble_eq_true rfl)
