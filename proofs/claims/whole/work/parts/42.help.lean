theorem tl_32 : Jvm.Cond.initialized "AsOfLedgerLaw" ∈ Tw := Tw_in (List.mem_of_getElem? (i := 32) (by decide +kernel)) (by decide +kernel)
theorem tl_125 : Jvm.Cond.methodLink "AsOfLedgerLaw" 61 yL_post ∈ Tw := Tw_in (List.mem_of_getElem? (i := 125) (by decide +kernel)) (by decide +kernel)
theorem tl_126 : Jvm.Cond.static yL_post ∈ Tw := Tw_in (List.mem_of_getElem? (i := 126) (by decide +kernel)) (by decide +kernel)
theorem tl_127 : Jvm.Cond.codeWith yL_post bL_post 7 (some .int) [(0, 14, 17, 13), (0, 14, 21, 15), (0, 14, 25, 17), (0, 14, 29, 19)] ∈ Tw := Tw_in (List.mem_of_getElem? (i := 127) (by decide +kernel)) (by decide +kernel)
theorem tl_128 : Jvm.Cond.classLink "AsOfLedgerLaw" 13 "java/lang/IllegalStateException" ∈ Tw := Tw_in (List.mem_of_getElem? (i := 128) (by decide +kernel)) (by decide +kernel)
theorem tl_129 : Jvm.Cond.classLink "AsOfLedgerLaw" 15 "java/lang/IllegalArgumentException" ∈ Tw := Tw_in (List.mem_of_getElem? (i := 129) (by decide +kernel)) (by decide +kernel)
theorem tl_130 : Jvm.Cond.classLink "AsOfLedgerLaw" 17 "java/lang/UnsupportedOperationException" ∈ Tw := Tw_in (List.mem_of_getElem? (i := 130) (by decide +kernel)) (by decide +kernel)
theorem tl_131 : Jvm.Cond.classLink "AsOfLedgerLaw" 19 "java/lang/ArithmeticException" ∈ Tw := Tw_in (List.mem_of_getElem? (i := 131) (by decide +kernel)) (by decide +kernel)
theorem tl_142 : Jvm.Cond.castable "java/lang/IllegalStateException" "java/lang/IllegalStateException" ∈ Tw := Tw_in (List.mem_of_getElem? (i := 142) (by decide +kernel)) (by decide +kernel)
theorem tl_221 : Jvm.Cond.castable "java/lang/IllegalArgumentException" "java/lang/IllegalArgumentException" ∈ Tw := Tw_in (List.mem_of_getElem? (i := 221) (by decide +kernel)) (by decide +kernel)
theorem tl_241 : Jvm.Cond.castable "java/lang/UnsupportedOperationException" "java/lang/UnsupportedOperationException" ∈ Tw := Tw_in (List.mem_of_getElem? (i := 241) (by decide +kernel)) (by decide +kernel)
theorem tl_274 : Jvm.Cond.castable "java/lang/ArithmeticException" "java/lang/ArithmeticException" ∈ Tw := Tw_in (List.mem_of_getElem? (i := 274) (by decide +kernel)) (by decide +kernel)
theorem tl_292 : Jvm.Cond.methodLink "AsOfLedgerLaw" 70 yL_correct ∈ Tw := Tw_in (List.mem_of_getElem? (i := 292) (by decide +kernel)) (by decide +kernel)
theorem tl_293 : Jvm.Cond.static yL_correct ∈ Tw := Tw_in (List.mem_of_getElem? (i := 293) (by decide +kernel)) (by decide +kernel)
theorem tl_294 : Jvm.Cond.codeWith yL_correct bL_correct 5 (some .int) [(0, 10, 13, 13), (0, 10, 17, 25), (0, 10, 21, 15), (0, 10, 25, 17), (0, 10, 29, 19)] ∈ Tw := Tw_in (List.mem_of_getElem? (i := 294) (by decide +kernel)) (by decide +kernel)
theorem tl_295 : Jvm.Cond.classLink "AsOfLedgerLaw" 25 "java/util/NoSuchElementException" ∈ Tw := Tw_in (List.mem_of_getElem? (i := 295) (by decide +kernel)) (by decide +kernel)
theorem tl_310 : Jvm.Cond.castable "java/util/NoSuchElementException" "java/util/NoSuchElementException" ∈ Tw := Tw_in (List.mem_of_getElem? (i := 310) (by decide +kernel)) (by decide +kernel)
theorem tl_328 : Jvm.Cond.methodLink "AsOfLedgerLaw" 74 yL_annul ∈ Tw := Tw_in (List.mem_of_getElem? (i := 328) (by decide +kernel)) (by decide +kernel)
theorem tl_329 : Jvm.Cond.static yL_annul ∈ Tw := Tw_in (List.mem_of_getElem? (i := 329) (by decide +kernel)) (by decide +kernel)
theorem tl_330 : Jvm.Cond.codeWith yL_annul bL_annul 4 (some .int) [(0, 9, 12, 13), (0, 9, 15, 25), (0, 9, 18, 17)] ∈ Tw := Tw_in (List.mem_of_getElem? (i := 330) (by decide +kernel)) (by decide +kernel)
theorem tl_335 : Jvm.Cond.methodLink "AsOfLedgerLaw" 78 yL_balance ∈ Tw := Tw_in (List.mem_of_getElem? (i := 335) (by decide +kernel)) (by decide +kernel)
theorem tl_336 : Jvm.Cond.static yL_balance ∈ Tw := Tw_in (List.mem_of_getElem? (i := 336) (by decide +kernel)) (by decide +kernel)
theorem tl_337 : Jvm.Cond.codeWith yL_balance bL_balance 6 (some .int) [(0, 12, 15, 13), (0, 12, 19, 15)] ∈ Tw := Tw_in (List.mem_of_getElem? (i := 337) (by decide +kernel)) (by decide +kernel)
theorem tl_354 : Jvm.Cond.methodLink "AsOfLedgerLaw" 82 yL_trial ∈ Tw := Tw_in (List.mem_of_getElem? (i := 354) (by decide +kernel)) (by decide +kernel)
theorem tl_355 : Jvm.Cond.static yL_trial ∈ Tw := Tw_in (List.mem_of_getElem? (i := 355) (by decide +kernel)) (by decide +kernel)
theorem tl_356 : Jvm.Cond.codeWith yL_trial bL_trial 5 (some .int) [(0, 10, 13, 13), (0, 10, 17, 15)] ∈ Tw := Tw_in (List.mem_of_getElem? (i := 356) (by decide +kernel)) (by decide +kernel)
theorem tl_361 : Jvm.Cond.methodLink "AsOfLedgerLaw" 85 yL_turnover ∈ Tw := Tw_in (List.mem_of_getElem? (i := 361) (by decide +kernel)) (by decide +kernel)
theorem tl_362 : Jvm.Cond.static yL_turnover ∈ Tw := Tw_in (List.mem_of_getElem? (i := 362) (by decide +kernel)) (by decide +kernel)
theorem tl_363 : Jvm.Cond.codeWith yL_turnover bL_turnover 4 (some .int) [(0, 9, 12, 13), (0, 9, 15, 15)] ∈ Tw := Tw_in (List.mem_of_getElem? (i := 363) (by decide +kernel)) (by decide +kernel)
theorem tl_368 : Jvm.Cond.methodLink "AsOfLedgerLaw" 88 yL_open ∈ Tw := Tw_in (List.mem_of_getElem? (i := 368) (by decide +kernel)) (by decide +kernel)
theorem tl_369 : Jvm.Cond.static yL_open ∈ Tw := Tw_in (List.mem_of_getElem? (i := 369) (by decide +kernel)) (by decide +kernel)
theorem tl_370 : Jvm.Cond.codeWith yL_open bL_open 7 (some .int) [(0, 14, 17, 13), (0, 14, 21, 15)] ∈ Tw := Tw_in (List.mem_of_getElem? (i := 370) (by decide +kernel)) (by decide +kernel)
theorem tl_386 : Jvm.Cond.methodLink "AsOfLedgerLaw" 91 yL_next ∈ Tw := Tw_in (List.mem_of_getElem? (i := 386) (by decide +kernel)) (by decide +kernel)
theorem tl_387 : Jvm.Cond.static yL_next ∈ Tw := Tw_in (List.mem_of_getElem? (i := 387) (by decide +kernel)) (by decide +kernel)
theorem tl_388 : Jvm.Cond.codeWith yL_next bL_next 3 (some .int) [(0, 8, 11, 13)] ∈ Tw := Tw_in (List.mem_of_getElem? (i := 388) (by decide +kernel)) (by decide +kernel)
theorem tl_393 : Jvm.Cond.methodLink "AsOfLedgerLaw" 95 yL_moved ∈ Tw := Tw_in (List.mem_of_getElem? (i := 393) (by decide +kernel)) (by decide +kernel)
theorem tl_394 : Jvm.Cond.static yL_moved ∈ Tw := Tw_in (List.mem_of_getElem? (i := 394) (by decide +kernel)) (by decide +kernel)
theorem tl_395 : Jvm.Cond.codeWith yL_moved bL_moved 3 (some .int) [(0, 8, 11, 13)] ∈ Tw := Tw_in (List.mem_of_getElem? (i := 395) (by decide +kernel)) (by decide +kernel)
theorem tl_400 : Jvm.Cond.methodLink "AsOfLedgerLaw" 98 yL_field ∈ Tw := Tw_in (List.mem_of_getElem? (i := 400) (by decide +kernel)) (by decide +kernel)
theorem tl_401 : Jvm.Cond.static yL_field ∈ Tw := Tw_in (List.mem_of_getElem? (i := 401) (by decide +kernel)) (by decide +kernel)
theorem tl_402 : Jvm.Cond.codeWith yL_field bL_field 6 (some .int) [(0, 12, 15, 13)] ∈ Tw := Tw_in (List.mem_of_getElem? (i := 402) (by decide +kernel)) (by decide +kernel)
theorem tl_407 : Jvm.Cond.methodLink "AsOfLedgerLaw" 101 yL_entries ∈ Tw := Tw_in (List.mem_of_getElem? (i := 407) (by decide +kernel)) (by decide +kernel)
theorem tl_408 : Jvm.Cond.static yL_entries ∈ Tw := Tw_in (List.mem_of_getElem? (i := 408) (by decide +kernel)) (by decide +kernel)
theorem tl_409 : Jvm.Cond.codeWith yL_entries bL_entries 3 (some .int) [(0, 8, 11, 13)] ∈ Tw := Tw_in (List.mem_of_getElem? (i := 409) (by decide +kernel)) (by decide +kernel)
theorem tn_ISE_NSE : Jvm.Cond.not (.castable "java/lang/IllegalStateException" "java/util/NoSuchElementException") ∈ Tw := List.mem_append_right _ (List.mem_of_getElem? (i := 0) rfl)
theorem tn_ISE_IAE : Jvm.Cond.not (.castable "java/lang/IllegalStateException" "java/lang/IllegalArgumentException") ∈ Tw := List.mem_append_right _ (List.mem_of_getElem? (i := 1) rfl)
theorem tn_ISE_UOE : Jvm.Cond.not (.castable "java/lang/IllegalStateException" "java/lang/UnsupportedOperationException") ∈ Tw := List.mem_append_right _ (List.mem_of_getElem? (i := 2) rfl)
theorem tn_ISE_AE : Jvm.Cond.not (.castable "java/lang/IllegalStateException" "java/lang/ArithmeticException") ∈ Tw := List.mem_append_right _ (List.mem_of_getElem? (i := 3) rfl)
theorem tn_NSE_ISE : Jvm.Cond.not (.castable "java/util/NoSuchElementException" "java/lang/IllegalStateException") ∈ Tw := List.mem_append_right _ (List.mem_of_getElem? (i := 4) rfl)
theorem tn_NSE_IAE : Jvm.Cond.not (.castable "java/util/NoSuchElementException" "java/lang/IllegalArgumentException") ∈ Tw := List.mem_append_right _ (List.mem_of_getElem? (i := 5) rfl)
theorem tn_NSE_UOE : Jvm.Cond.not (.castable "java/util/NoSuchElementException" "java/lang/UnsupportedOperationException") ∈ Tw := List.mem_append_right _ (List.mem_of_getElem? (i := 6) rfl)
theorem tn_NSE_AE : Jvm.Cond.not (.castable "java/util/NoSuchElementException" "java/lang/ArithmeticException") ∈ Tw := List.mem_append_right _ (List.mem_of_getElem? (i := 7) rfl)
theorem tn_IAE_ISE : Jvm.Cond.not (.castable "java/lang/IllegalArgumentException" "java/lang/IllegalStateException") ∈ Tw := List.mem_append_right _ (List.mem_of_getElem? (i := 8) rfl)
theorem tn_IAE_NSE : Jvm.Cond.not (.castable "java/lang/IllegalArgumentException" "java/util/NoSuchElementException") ∈ Tw := List.mem_append_right _ (List.mem_of_getElem? (i := 9) rfl)
theorem tn_IAE_UOE : Jvm.Cond.not (.castable "java/lang/IllegalArgumentException" "java/lang/UnsupportedOperationException") ∈ Tw := List.mem_append_right _ (List.mem_of_getElem? (i := 10) rfl)
theorem tn_IAE_AE : Jvm.Cond.not (.castable "java/lang/IllegalArgumentException" "java/lang/ArithmeticException") ∈ Tw := List.mem_append_right _ (List.mem_of_getElem? (i := 11) rfl)
theorem tn_UOE_ISE : Jvm.Cond.not (.castable "java/lang/UnsupportedOperationException" "java/lang/IllegalStateException") ∈ Tw := List.mem_append_right _ (List.mem_of_getElem? (i := 12) rfl)
theorem tn_UOE_NSE : Jvm.Cond.not (.castable "java/lang/UnsupportedOperationException" "java/util/NoSuchElementException") ∈ Tw := List.mem_append_right _ (List.mem_of_getElem? (i := 13) rfl)
theorem tn_UOE_IAE : Jvm.Cond.not (.castable "java/lang/UnsupportedOperationException" "java/lang/IllegalArgumentException") ∈ Tw := List.mem_append_right _ (List.mem_of_getElem? (i := 14) rfl)
theorem tn_UOE_AE : Jvm.Cond.not (.castable "java/lang/UnsupportedOperationException" "java/lang/ArithmeticException") ∈ Tw := List.mem_append_right _ (List.mem_of_getElem? (i := 15) rfl)
theorem tn_AE_ISE : Jvm.Cond.not (.castable "java/lang/ArithmeticException" "java/lang/IllegalStateException") ∈ Tw := List.mem_append_right _ (List.mem_of_getElem? (i := 16) rfl)
theorem tn_AE_NSE : Jvm.Cond.not (.castable "java/lang/ArithmeticException" "java/util/NoSuchElementException") ∈ Tw := List.mem_append_right _ (List.mem_of_getElem? (i := 17) rfl)
theorem tn_AE_IAE : Jvm.Cond.not (.castable "java/lang/ArithmeticException" "java/lang/IllegalArgumentException") ∈ Tw := List.mem_append_right _ (List.mem_of_getElem? (i := 18) rfl)
theorem tn_AE_UOE : Jvm.Cond.not (.castable "java/lang/ArithmeticException" "java/lang/UnsupportedOperationException") ∈ Tw := List.mem_append_right _ (List.mem_of_getElem? (i := 19) rfl)
set_option maxRecDepth 100000 in
set_option maxHeartbeats 4000000 in
theorem ch_post_ok (l : Launch) (hfl : l.flags = Jvm.pinnedFlags ++ [Jvm.noTraceFlag]) (x : XS) (m : MS) (o : Nat → Int64) (n e1 : Nat) (d c1 a y : Int32) (hvc : fx_vc x = nI n) (hn : n ≤ 64) (hec : fx_ec x = nI e1) (v : Int32) (x1 : XS) (hr : rPost x m o n e1 d c1 a y = .inl (some (.int v), wx x1 m o)) : zC l yL_post (Jvm.Cond.codeWith yL_post bL_post 7 (some .int) [(0, 14, 17, 13), (0, 14, 21, 15), (0, 14, 25, 17), (0, 14, 29, 19)] :: Tw) 5 false 1 6 [.ref 0, .int d, .int c1, .int a, .int y, .ref 10] (wx x m o) (.inl (some (.int 0), wx x1 m (vp_updL o 0 v.toInt64))) := by
  refine zC_ofW [some (.ref 0), some (.int d), some (.int c1), some (.int a), some (.int y), some (.ref 10), none] (by decide) rfl (Nat.le_of_ble_eq_true rfl) ?_
  intro p e s mm args below meth c D cI cJ as G hret hex hbd
  refine zz_aload G dL_post_0 rfl ?_
  refine zz_iconst (v := 0) G dL_post_2 (by decide) ?_
  refine zz_aload_n G dL_post_3 rfl ?_
  refine zz_iload_n G dL_post_4 rfl ?_
  refine zz_iload_n G dL_post_5 rfl ?_
  refine zz_iload_n G dL_post_6 rfl ?_
  refine zz_iload G dL_post_7 rfl ?_
  refine zz_callVi (v := v) (w' := (wx x1 m o)) (As := [.int d, .int c1, .int a, .int y]) (rest := [.int 0, .ref 10]) G (by have q := cx_post l hfl x m o n e1 d c1 a y hvc hn hec; rw [hr] at q; exact q) kL_7 dL_post_9 rfl rfl rfl rfl (Nat.le_of_ble_eq_true rfl) (fun h => by cases h) ⟨Nat.le_of_ble_eq_true rfl, Nat.le_of_ble_eq_true rfl⟩ ⟨Nat.le_of_ble_eq_true rfl, Nat.le_of_ble_eq_true rfl⟩ ?_
  refine zz_i2l G dL_post_12 ?_
  refine zz_last (w' := (wx x1 m (vp_updL o 0 v.toInt64))) rfl G dL_post_13 rfl (by rw [← nI_0]; exact vp_in_nI (by omega) (by omega)) (rfl) ?_
  refine zz_goto (tgt := 33) G dL_post_14 rfl ?_
  refine zz_iconst (v := 0) G dL_post_33 (by decide) ?_
  exact zz_iret G hret dL_post_34 (rfl) (Nat.le_of_ble_eq_true rfl) (Nat.le_of_ble_eq_true rfl)
set_option maxRecDepth 100000 in
set_option maxHeartbeats 4000000 in
theorem ch_post_ISE (l : Launch) (hfl : l.flags = Jvm.pinnedFlags ++ [Jvm.noTraceFlag]) (x : XS) (m : MS) (o : Nat → Int64) (n e1 : Nat) (d c1 a y : Int32) (hvc : fx_vc x = nI n) (hn : n ≤ 64) (hec : fx_ec x = nI e1) (hr : rPost x m o n e1 d c1 a y = .inr ("java/lang/IllegalStateException", wx x m o)) : zC l yL_post (Jvm.Cond.codeWith yL_post bL_post 7 (some .int) [(0, 14, 17, 13), (0, 14, 21, 15), (0, 14, 25, 17), (0, 14, 29, 19)] :: Tw) 5 false 1 6 [.ref 0, .int d, .int c1, .int a, .int y, .ref 10] (wx x m o) (.inl (some (.int 1), wx x m o)) := by
  refine zC_ofW [some (.ref 0), some (.int d), some (.int c1), some (.int a), some (.int y), some (.ref 10), none] (by decide) rfl (Nat.le_of_ble_eq_true rfl) ?_
  intro p e s mm args below meth c D cI cJ as G hret hex hbd
  refine zz_aload G dL_post_0 rfl ?_
  refine zz_iconst (v := 0) G dL_post_2 (by decide) ?_
  refine zz_aload_n G dL_post_3 rfl ?_
  refine zz_iload_n G dL_post_4 rfl ?_
  refine zz_iload_n G dL_post_5 rfl ?_
  refine zz_iload_n G dL_post_6 rfl ?_
  refine zz_iload G dL_post_7 rfl ?_
  refine zz_catch2 (As := [.int d, .int c1, .int a, .int y]) (rest := [.int 0, .ref 10]) (w' := (wx x m o)) (Xn := "java/lang/IllegalStateException") G (by have q := cx_post l hfl x m o n e1 d c1 a y hvc hn hec; rw [hr] at q; exact q) kL_7 dL_post_9 rfl rfl rfl rfl (Nat.le_of_ble_eq_true rfl) (fun h => by cases h) ⟨Nat.le_of_ble_eq_true rfl, Nat.le_of_ble_eq_true rfl⟩ ⟨Nat.le_of_ble_eq_true rfl, Nat.le_of_ble_eq_true rfl⟩ [] [(0, 14, 21, 15), (0, 14, 25, 17), (0, 14, 29, 19)] (q := (0, 14, 17, 13)) hex ⟨Nat.le_of_ble_eq_true rfl, Nat.le_of_ble_eq_true rfl⟩ (by decide) tl_128 tl_142 (fun _ h => absurd h List.not_mem_nil) dL_post_17 (Nat.le_of_ble_eq_true rfl) ?_
  refine zz_iconst (v := 1) G dL_post_19 (by decide) ?_
  exact zz_iret G hret dL_post_20 rfl (Nat.le_of_ble_eq_true rfl) (Nat.le_of_ble_eq_true rfl)
set_option maxRecDepth 100000 in
set_option maxHeartbeats 4000000 in
theorem ch_post_IAE (l : Launch) (hfl : l.flags = Jvm.pinnedFlags ++ [Jvm.noTraceFlag]) (x : XS) (m : MS) (o : Nat → Int64) (n e1 : Nat) (d c1 a y : Int32) (hvc : fx_vc x = nI n) (hn : n ≤ 64) (hec : fx_ec x = nI e1) (hr : rPost x m o n e1 d c1 a y = .inr ("java/lang/IllegalArgumentException", wx x m o)) : zC l yL_post (Jvm.Cond.codeWith yL_post bL_post 7 (some .int) [(0, 14, 17, 13), (0, 14, 21, 15), (0, 14, 25, 17), (0, 14, 29, 19)] :: Tw) 5 false 1 6 [.ref 0, .int d, .int c1, .int a, .int y, .ref 10] (wx x m o) (.inl (some (.int 2), wx x m o)) := by
  refine zC_ofW [some (.ref 0), some (.int d), some (.int c1), some (.int a), some (.int y), some (.ref 10), none] (by decide) rfl (Nat.le_of_ble_eq_true rfl) ?_
  intro p e s mm args below meth c D cI cJ as G hret hex hbd
  refine zz_aload G dL_post_0 rfl ?_
  refine zz_iconst (v := 0) G dL_post_2 (by decide) ?_
  refine zz_aload_n G dL_post_3 rfl ?_
  refine zz_iload_n G dL_post_4 rfl ?_
  refine zz_iload_n G dL_post_5 rfl ?_
  refine zz_iload_n G dL_post_6 rfl ?_
  refine zz_iload G dL_post_7 rfl ?_
  refine zz_catch2 (As := [.int d, .int c1, .int a, .int y]) (rest := [.int 0, .ref 10]) (w' := (wx x m o)) (Xn := "java/lang/IllegalArgumentException") G (by have q := cx_post l hfl x m o n e1 d c1 a y hvc hn hec; rw [hr] at q; exact q) kL_7 dL_post_9 rfl rfl rfl rfl (Nat.le_of_ble_eq_true rfl) (fun h => by cases h) ⟨Nat.le_of_ble_eq_true rfl, Nat.le_of_ble_eq_true rfl⟩ ⟨Nat.le_of_ble_eq_true rfl, Nat.le_of_ble_eq_true rfl⟩ [(0, 14, 17, 13)] [(0, 14, 25, 17), (0, 14, 29, 19)] (q := (0, 14, 21, 15)) hex ⟨Nat.le_of_ble_eq_true rfl, Nat.le_of_ble_eq_true rfl⟩ (by decide) tl_129 tl_221 (List.forall_mem_cons.mpr ⟨⟨by decide, "java/lang/IllegalStateException", tl_128, tn_IAE_ISE⟩, (fun _ h => absurd h List.not_mem_nil)⟩) dL_post_21 (Nat.le_of_ble_eq_true rfl) ?_
  refine zz_iconst (v := 2) G dL_post_23 (by decide) ?_
  exact zz_iret G hret dL_post_24 rfl (Nat.le_of_ble_eq_true rfl) (Nat.le_of_ble_eq_true rfl)
set_option maxRecDepth 100000 in
set_option maxHeartbeats 4000000 in
theorem ch_post_UOE (l : Launch) (hfl : l.flags = Jvm.pinnedFlags ++ [Jvm.noTraceFlag]) (x : XS) (m : MS) (o : Nat → Int64) (n e1 : Nat) (d c1 a y : Int32) (hvc : fx_vc x = nI n) (hn : n ≤ 64) (hec : fx_ec x = nI e1) (hr : rPost x m o n e1 d c1 a y = .inr ("java/lang/UnsupportedOperationException", wx x m o)) : zC l yL_post (Jvm.Cond.codeWith yL_post bL_post 7 (some .int) [(0, 14, 17, 13), (0, 14, 21, 15), (0, 14, 25, 17), (0, 14, 29, 19)] :: Tw) 5 false 1 6 [.ref 0, .int d, .int c1, .int a, .int y, .ref 10] (wx x m o) (.inl (some (.int 3), wx x m o)) := by
  refine zC_ofW [some (.ref 0), some (.int d), some (.int c1), some (.int a), some (.int y), some (.ref 10), none] (by decide) rfl (Nat.le_of_ble_eq_true rfl) ?_
  intro p e s mm args below meth c D cI cJ as G hret hex hbd
  refine zz_aload G dL_post_0 rfl ?_
  refine zz_iconst (v := 0) G dL_post_2 (by decide) ?_
  refine zz_aload_n G dL_post_3 rfl ?_
  refine zz_iload_n G dL_post_4 rfl ?_
  refine zz_iload_n G dL_post_5 rfl ?_
  refine zz_iload_n G dL_post_6 rfl ?_
  refine zz_iload G dL_post_7 rfl ?_
  refine zz_catch2 (As := [.int d, .int c1, .int a, .int y]) (rest := [.int 0, .ref 10]) (w' := (wx x m o)) (Xn := "java/lang/UnsupportedOperationException") G (by have q := cx_post l hfl x m o n e1 d c1 a y hvc hn hec; rw [hr] at q; exact q) kL_7 dL_post_9 rfl rfl rfl rfl (Nat.le_of_ble_eq_true rfl) (fun h => by cases h) ⟨Nat.le_of_ble_eq_true rfl, Nat.le_of_ble_eq_true rfl⟩ ⟨Nat.le_of_ble_eq_true rfl, Nat.le_of_ble_eq_true rfl⟩ [(0, 14, 17, 13), (0, 14, 21, 15)] [(0, 14, 29, 19)] (q := (0, 14, 25, 17)) hex ⟨Nat.le_of_ble_eq_true rfl, Nat.le_of_ble_eq_true rfl⟩ (by decide) tl_130 tl_241 (List.forall_mem_cons.mpr ⟨⟨by decide, "java/lang/IllegalStateException", tl_128, tn_UOE_ISE⟩, (List.forall_mem_cons.mpr ⟨⟨by decide, "java/lang/IllegalArgumentException", tl_129, tn_UOE_IAE⟩, (fun _ h => absurd h List.not_mem_nil)⟩)⟩) dL_post_25 (Nat.le_of_ble_eq_true rfl) ?_
  refine zz_iconst (v := 3) G dL_post_27 (by decide) ?_
  exact zz_iret G hret dL_post_28 rfl (Nat.le_of_ble_eq_true rfl) (Nat.le_of_ble_eq_true rfl)
set_option maxRecDepth 100000 in
set_option maxHeartbeats 4000000 in
theorem ch_post_AE (l : Launch) (hfl : l.flags = Jvm.pinnedFlags ++ [Jvm.noTraceFlag]) (x : XS) (m : MS) (o : Nat → Int64) (n e1 : Nat) (d c1 a y : Int32) (hvc : fx_vc x = nI n) (hn : n ≤ 64) (hec : fx_ec x = nI e1) (hr : rPost x m o n e1 d c1 a y = .inr ("java/lang/ArithmeticException", wx x m o)) : zC l yL_post (Jvm.Cond.codeWith yL_post bL_post 7 (some .int) [(0, 14, 17, 13), (0, 14, 21, 15), (0, 14, 25, 17), (0, 14, 29, 19)] :: Tw) 5 false 1 6 [.ref 0, .int d, .int c1, .int a, .int y, .ref 10] (wx x m o) (.inl (some (.int 4), wx x m o)) := by
  refine zC_ofW [some (.ref 0), some (.int d), some (.int c1), some (.int a), some (.int y), some (.ref 10), none] (by decide) rfl (Nat.le_of_ble_eq_true rfl) ?_
  intro p e s mm args below meth c D cI cJ as G hret hex hbd
  refine zz_aload G dL_post_0 rfl ?_
  refine zz_iconst (v := 0) G dL_post_2 (by decide) ?_
  refine zz_aload_n G dL_post_3 rfl ?_
  refine zz_iload_n G dL_post_4 rfl ?_
  refine zz_iload_n G dL_post_5 rfl ?_
  refine zz_iload_n G dL_post_6 rfl ?_
  refine zz_iload G dL_post_7 rfl ?_
  refine zz_catch2 (As := [.int d, .int c1, .int a, .int y]) (rest := [.int 0, .ref 10]) (w' := (wx x m o)) (Xn := "java/lang/ArithmeticException") G (by have q := cx_post l hfl x m o n e1 d c1 a y hvc hn hec; rw [hr] at q; exact q) kL_7 dL_post_9 rfl rfl rfl rfl (Nat.le_of_ble_eq_true rfl) (fun h => by cases h) ⟨Nat.le_of_ble_eq_true rfl, Nat.le_of_ble_eq_true rfl⟩ ⟨Nat.le_of_ble_eq_true rfl, Nat.le_of_ble_eq_true rfl⟩ [(0, 14, 17, 13), (0, 14, 21, 15), (0, 14, 25, 17)] [] (q := (0, 14, 29, 19)) hex ⟨Nat.le_of_ble_eq_true rfl, Nat.le_of_ble_eq_true rfl⟩ (by decide) tl_131 tl_274 (List.forall_mem_cons.mpr ⟨⟨by decide, "java/lang/IllegalStateException", tl_128, tn_AE_ISE⟩, (List.forall_mem_cons.mpr ⟨⟨by decide, "java/lang/IllegalArgumentException", tl_129, tn_AE_IAE⟩, (List.forall_mem_cons.mpr ⟨⟨by decide, "java/lang/UnsupportedOperationException", tl_130, tn_AE_UOE⟩, (fun _ h => absurd h List.not_mem_nil)⟩)⟩)⟩) dL_post_29 (Nat.le_of_ble_eq_true rfl) ?_
  refine zz_iconst (v := 4) G dL_post_31 (by decide) ?_
  exact zz_iret G hret dL_post_32 rfl (Nat.le_of_ble_eq_true rfl) (Nat.le_of_ble_eq_true rfl)
set_option maxRecDepth 100000 in
set_option maxHeartbeats 4000000 in
theorem ch_correct_ok (l : Launch) (hfl : l.flags = Jvm.pinnedFlags ++ [Jvm.noTraceFlag]) (x : XS) (m : MS) (o : Nat → Int64) (n : Nat) (en a : Int32) (hvc : fx_vc x = nI n) (hn : n ≤ 64) (v : Int32) (x1 : XS) (hr : rCorr x m o n en a = .inl (some (.int v), wx x1 m o)) : zC l yL_correct (Jvm.Cond.codeWith yL_correct bL_correct 5 (some .int) [(0, 10, 13, 13), (0, 10, 17, 25), (0, 10, 21, 15), (0, 10, 25, 17), (0, 10, 29, 19)] :: Tw) 5 false 1 6 [.ref 0, .int en, .int a, .ref 10] (wx x m o) (.inl (some (.int 0), wx x1 m (vp_updL o 0 v.toInt64))) := by
  refine zC_ofW [some (.ref 0), some (.int en), some (.int a), some (.ref 10), none] (by decide) rfl (Nat.le_of_ble_eq_true rfl) ?_
  intro p e s mm args below meth c D cI cJ as G hret hex hbd
  refine zz_aload_n G dL_correct_0 rfl ?_
  refine zz_iconst (v := 0) G dL_correct_1 (by decide) ?_
  refine zz_aload_n G dL_correct_2 rfl ?_
  refine zz_iload_n G dL_correct_3 rfl ?_
  refine zz_iload_n G dL_correct_4 rfl ?_
  refine zz_callVi (v := v) (w' := (wx x1 m o)) (As := [.int en, .int a]) (rest := [.int 0, .ref 10]) G (by have q := cx_correct l hfl x m o n en a hvc hn; rw [hr] at q; exact q) kL_21 dL_correct_5 rfl rfl rfl rfl (Nat.le_of_ble_eq_true rfl) (fun h => by cases h) ⟨Nat.le_of_ble_eq_true rfl, Nat.le_of_ble_eq_true rfl⟩ ⟨Nat.le_of_ble_eq_true rfl, Nat.le_of_ble_eq_true rfl⟩ ?_
  refine zz_i2l G dL_correct_8 ?_
  refine zz_last (w' := (wx x1 m (vp_updL o 0 v.toInt64))) rfl G dL_correct_9 rfl (by rw [← nI_0]; exact vp_in_nI (by omega) (by omega)) (rfl) ?_
  refine zz_goto (tgt := 33) G dL_correct_10 rfl ?_
  refine zz_iconst (v := 0) G dL_correct_33 (by decide) ?_
  exact zz_iret G hret dL_correct_34 (rfl) (Nat.le_of_ble_eq_true rfl) (Nat.le_of_ble_eq_true rfl)
set_option maxRecDepth 100000 in
set_option maxHeartbeats 4000000 in
theorem ch_correct_ISE (l : Launch) (hfl : l.flags = Jvm.pinnedFlags ++ [Jvm.noTraceFlag]) (x : XS) (m : MS) (o : Nat → Int64) (n : Nat) (en a : Int32) (hvc : fx_vc x = nI n) (hn : n ≤ 64) (hr : rCorr x m o n en a = .inr ("java/lang/IllegalStateException", wx x m o)) : zC l yL_correct (Jvm.Cond.codeWith yL_correct bL_correct 5 (some .int) [(0, 10, 13, 13), (0, 10, 17, 25), (0, 10, 21, 15), (0, 10, 25, 17), (0, 10, 29, 19)] :: Tw) 5 false 1 6 [.ref 0, .int en, .int a, .ref 10] (wx x m o) (.inl (some (.int 1), wx x m o)) := by
  refine zC_ofW [some (.ref 0), some (.int en), some (.int a), some (.ref 10), none] (by decide) rfl (Nat.le_of_ble_eq_true rfl) ?_
  intro p e s mm args below meth c D cI cJ as G hret hex hbd
  refine zz_aload_n G dL_correct_0 rfl ?_
  refine zz_iconst (v := 0) G dL_correct_1 (by decide) ?_
  refine zz_aload_n G dL_correct_2 rfl ?_
  refine zz_iload_n G dL_correct_3 rfl ?_
  refine zz_iload_n G dL_correct_4 rfl ?_
  refine zz_catch2 (As := [.int en, .int a]) (rest := [.int 0, .ref 10]) (w' := (wx x m o)) (Xn := "java/lang/IllegalStateException") G (by have q := cx_correct l hfl x m o n en a hvc hn; rw [hr] at q; exact q) kL_21 dL_correct_5 rfl rfl rfl rfl (Nat.le_of_ble_eq_true rfl) (fun h => by cases h) ⟨Nat.le_of_ble_eq_true rfl, Nat.le_of_ble_eq_true rfl⟩ ⟨Nat.le_of_ble_eq_true rfl, Nat.le_of_ble_eq_true rfl⟩ [] [(0, 10, 17, 25), (0, 10, 21, 15), (0, 10, 25, 17), (0, 10, 29, 19)] (q := (0, 10, 13, 13)) hex ⟨Nat.le_of_ble_eq_true rfl, Nat.le_of_ble_eq_true rfl⟩ (by decide) tl_128 tl_142 (fun _ h => absurd h List.not_mem_nil) dL_correct_13 (Nat.le_of_ble_eq_true rfl) ?_
  refine zz_iconst (v := 1) G dL_correct_15 (by decide) ?_
  exact zz_iret G hret dL_correct_16 rfl (Nat.le_of_ble_eq_true rfl) (Nat.le_of_ble_eq_true rfl)
set_option maxRecDepth 100000 in
set_option maxHeartbeats 4000000 in
theorem ch_correct_NSE (l : Launch) (hfl : l.flags = Jvm.pinnedFlags ++ [Jvm.noTraceFlag]) (x : XS) (m : MS) (o : Nat → Int64) (n : Nat) (en a : Int32) (hvc : fx_vc x = nI n) (hn : n ≤ 64) (hr : rCorr x m o n en a = .inr ("java/util/NoSuchElementException", wx x m o)) : zC l yL_correct (Jvm.Cond.codeWith yL_correct bL_correct 5 (some .int) [(0, 10, 13, 13), (0, 10, 17, 25), (0, 10, 21, 15), (0, 10, 25, 17), (0, 10, 29, 19)] :: Tw) 5 false 1 6 [.ref 0, .int en, .int a, .ref 10] (wx x m o) (.inl (some (.int 2), wx x m o)) := by
  refine zC_ofW [some (.ref 0), some (.int en), some (.int a), some (.ref 10), none] (by decide) rfl (Nat.le_of_ble_eq_true rfl) ?_
  intro p e s mm args below meth c D cI cJ as G hret hex hbd
  refine zz_aload_n G dL_correct_0 rfl ?_
  refine zz_iconst (v := 0) G dL_correct_1 (by decide) ?_
  refine zz_aload_n G dL_correct_2 rfl ?_
  refine zz_iload_n G dL_correct_3 rfl ?_
  refine zz_iload_n G dL_correct_4 rfl ?_
  refine zz_catch2 (As := [.int en, .int a]) (rest := [.int 0, .ref 10]) (w' := (wx x m o)) (Xn := "java/util/NoSuchElementException") G (by have q := cx_correct l hfl x m o n en a hvc hn; rw [hr] at q; exact q) kL_21 dL_correct_5 rfl rfl rfl rfl (Nat.le_of_ble_eq_true rfl) (fun h => by cases h) ⟨Nat.le_of_ble_eq_true rfl, Nat.le_of_ble_eq_true rfl⟩ ⟨Nat.le_of_ble_eq_true rfl, Nat.le_of_ble_eq_true rfl⟩ [(0, 10, 13, 13)] [(0, 10, 21, 15), (0, 10, 25, 17), (0, 10, 29, 19)] (q := (0, 10, 17, 25)) hex ⟨Nat.le_of_ble_eq_true rfl, Nat.le_of_ble_eq_true rfl⟩ (by decide) tl_295 tl_310 (List.forall_mem_cons.mpr ⟨⟨by decide, "java/lang/IllegalStateException", tl_128, tn_NSE_ISE⟩, (fun _ h => absurd h List.not_mem_nil)⟩) dL_correct_17 (Nat.le_of_ble_eq_true rfl) ?_
  refine zz_iconst (v := 2) G dL_correct_19 (by decide) ?_
  exact zz_iret G hret dL_correct_20 rfl (Nat.le_of_ble_eq_true rfl) (Nat.le_of_ble_eq_true rfl)
set_option maxRecDepth 100000 in
set_option maxHeartbeats 4000000 in
theorem ch_correct_IAE (l : Launch) (hfl : l.flags = Jvm.pinnedFlags ++ [Jvm.noTraceFlag]) (x : XS) (m : MS) (o : Nat → Int64) (n : Nat) (en a : Int32) (hvc : fx_vc x = nI n) (hn : n ≤ 64) (hr : rCorr x m o n en a = .inr ("java/lang/IllegalArgumentException", wx x m o)) : zC l yL_correct (Jvm.Cond.codeWith yL_correct bL_correct 5 (some .int) [(0, 10, 13, 13), (0, 10, 17, 25), (0, 10, 21, 15), (0, 10, 25, 17), (0, 10, 29, 19)] :: Tw) 5 false 1 6 [.ref 0, .int en, .int a, .ref 10] (wx x m o) (.inl (some (.int 3), wx x m o)) := by
  refine zC_ofW [some (.ref 0), some (.int en), some (.int a), some (.ref 10), none] (by decide) rfl (Nat.le_of_ble_eq_true rfl) ?_
  intro p e s mm args below meth c D cI cJ as G hret hex hbd
  refine zz_aload_n G dL_correct_0 rfl ?_
  refine zz_iconst (v := 0) G dL_correct_1 (by decide) ?_
  refine zz_aload_n G dL_correct_2 rfl ?_
  refine zz_iload_n G dL_correct_3 rfl ?_
  refine zz_iload_n G dL_correct_4 rfl ?_
  refine zz_catch2 (As := [.int en, .int a]) (rest := [.int 0, .ref 10]) (w' := (wx x m o)) (Xn := "java/lang/IllegalArgumentException") G (by have q := cx_correct l hfl x m o n en a hvc hn; rw [hr] at q; exact q) kL_21 dL_correct_5 rfl rfl rfl rfl (Nat.le_of_ble_eq_true rfl) (fun h => by cases h) ⟨Nat.le_of_ble_eq_true rfl, Nat.le_of_ble_eq_true rfl⟩ ⟨Nat.le_of_ble_eq_true rfl, Nat.le_of_ble_eq_true rfl⟩ [(0, 10, 13, 13), (0, 10, 17, 25)] [(0, 10, 25, 17), (0, 10, 29, 19)] (q := (0, 10, 21, 15)) hex ⟨Nat.le_of_ble_eq_true rfl, Nat.le_of_ble_eq_true rfl⟩ (by decide) tl_129 tl_221 (List.forall_mem_cons.mpr ⟨⟨by decide, "java/lang/IllegalStateException", tl_128, tn_IAE_ISE⟩, (List.forall_mem_cons.mpr ⟨⟨by decide, "java/util/NoSuchElementException", tl_295, tn_IAE_NSE⟩, (fun _ h => absurd h List.not_mem_nil)⟩)⟩) dL_correct_21 (Nat.le_of_ble_eq_true rfl) ?_
  refine zz_iconst (v := 3) G dL_correct_23 (by decide) ?_
  exact zz_iret G hret dL_correct_24 rfl (Nat.le_of_ble_eq_true rfl) (Nat.le_of_ble_eq_true rfl)
set_option maxRecDepth 100000 in
set_option maxHeartbeats 4000000 in
theorem ch_correct_UOE (l : Launch) (hfl : l.flags = Jvm.pinnedFlags ++ [Jvm.noTraceFlag]) (x : XS) (m : MS) (o : Nat → Int64) (n : Nat) (en a : Int32) (hvc : fx_vc x = nI n) (hn : n ≤ 64) (hr : rCorr x m o n en a = .inr ("java/lang/UnsupportedOperationException", wx x m o)) : zC l yL_correct (Jvm.Cond.codeWith yL_correct bL_correct 5 (some .int) [(0, 10, 13, 13), (0, 10, 17, 25), (0, 10, 21, 15), (0, 10, 25, 17), (0, 10, 29, 19)] :: Tw) 5 false 1 6 [.ref 0, .int en, .int a, .ref 10] (wx x m o) (.inl (some (.int 4), wx x m o)) := by
  refine zC_ofW [some (.ref 0), some (.int en), some (.int a), some (.ref 10), none] (by decide) rfl (Nat.le_of_ble_eq_true rfl) ?_
  intro p e s mm args below meth c D cI cJ as G hret hex hbd
  refine zz_aload_n G dL_correct_0 rfl ?_
  refine zz_iconst (v := 0) G dL_correct_1 (by decide) ?_
  refine zz_aload_n G dL_correct_2 rfl ?_
  refine zz_iload_n G dL_correct_3 rfl ?_
  refine zz_iload_n G dL_correct_4 rfl ?_
  refine zz_catch2 (As := [.int en, .int a]) (rest := [.int 0, .ref 10]) (w' := (wx x m o)) (Xn := "java/lang/UnsupportedOperationException") G (by have q := cx_correct l hfl x m o n en a hvc hn; rw [hr] at q; exact q) kL_21 dL_correct_5 rfl rfl rfl rfl (Nat.le_of_ble_eq_true rfl) (fun h => by cases h) ⟨Nat.le_of_ble_eq_true rfl, Nat.le_of_ble_eq_true rfl⟩ ⟨Nat.le_of_ble_eq_true rfl, Nat.le_of_ble_eq_true rfl⟩ [(0, 10, 13, 13), (0, 10, 17, 25), (0, 10, 21, 15)] [(0, 10, 29, 19)] (q := (0, 10, 25, 17)) hex ⟨Nat.le_of_ble_eq_true rfl, Nat.le_of_ble_eq_true rfl⟩ (by decide) tl_130 tl_241 (List.forall_mem_cons.mpr ⟨⟨by decide, "java/lang/IllegalStateException", tl_128, tn_UOE_ISE⟩, (List.forall_mem_cons.mpr ⟨⟨by decide, "java/util/NoSuchElementException", tl_295, tn_UOE_NSE⟩, (List.forall_mem_cons.mpr ⟨⟨by decide, "java/lang/IllegalArgumentException", tl_129, tn_UOE_IAE⟩, (fun _ h => absurd h List.not_mem_nil)⟩)⟩)⟩) dL_correct_25 (Nat.le_of_ble_eq_true rfl) ?_
  refine zz_iconst (v := 4) G dL_correct_27 (by decide) ?_
  exact zz_iret G hret dL_correct_28 rfl (Nat.le_of_ble_eq_true rfl) (Nat.le_of_ble_eq_true rfl)
set_option maxRecDepth 100000 in
set_option maxHeartbeats 4000000 in
theorem ch_correct_AE (l : Launch) (hfl : l.flags = Jvm.pinnedFlags ++ [Jvm.noTraceFlag]) (x : XS) (m : MS) (o : Nat → Int64) (n : Nat) (en a : Int32) (hvc : fx_vc x = nI n) (hn : n ≤ 64) (hr : rCorr x m o n en a = .inr ("java/lang/ArithmeticException", wx x m o)) : zC l yL_correct (Jvm.Cond.codeWith yL_correct bL_correct 5 (some .int) [(0, 10, 13, 13), (0, 10, 17, 25), (0, 10, 21, 15), (0, 10, 25, 17), (0, 10, 29, 19)] :: Tw) 5 false 1 6 [.ref 0, .int en, .int a, .ref 10] (wx x m o) (.inl (some (.int 5), wx x m o)) := by
  refine zC_ofW [some (.ref 0), some (.int en), some (.int a), some (.ref 10), none] (by decide) rfl (Nat.le_of_ble_eq_true rfl) ?_
  intro p e s mm args below meth c D cI cJ as G hret hex hbd
  refine zz_aload_n G dL_correct_0 rfl ?_
  refine zz_iconst (v := 0) G dL_correct_1 (by decide) ?_
  refine zz_aload_n G dL_correct_2 rfl ?_
  refine zz_iload_n G dL_correct_3 rfl ?_
  refine zz_iload_n G dL_correct_4 rfl ?_
  refine zz_catch2 (As := [.int en, .int a]) (rest := [.int 0, .ref 10]) (w' := (wx x m o)) (Xn := "java/lang/ArithmeticException") G (by have q := cx_correct l hfl x m o n en a hvc hn; rw [hr] at q; exact q) kL_21 dL_correct_5 rfl rfl rfl rfl (Nat.le_of_ble_eq_true rfl) (fun h => by cases h) ⟨Nat.le_of_ble_eq_true rfl, Nat.le_of_ble_eq_true rfl⟩ ⟨Nat.le_of_ble_eq_true rfl, Nat.le_of_ble_eq_true rfl⟩ [(0, 10, 13, 13), (0, 10, 17, 25), (0, 10, 21, 15), (0, 10, 25, 17)] [] (q := (0, 10, 29, 19)) hex ⟨Nat.le_of_ble_eq_true rfl, Nat.le_of_ble_eq_true rfl⟩ (by decide) tl_131 tl_274 (List.forall_mem_cons.mpr ⟨⟨by decide, "java/lang/IllegalStateException", tl_128, tn_AE_ISE⟩, (List.forall_mem_cons.mpr ⟨⟨by decide, "java/util/NoSuchElementException", tl_295, tn_AE_NSE⟩, (List.forall_mem_cons.mpr ⟨⟨by decide, "java/lang/IllegalArgumentException", tl_129, tn_AE_IAE⟩, (List.forall_mem_cons.mpr ⟨⟨by decide, "java/lang/UnsupportedOperationException", tl_130, tn_AE_UOE⟩, (fun _ h => absurd h List.not_mem_nil)⟩)⟩)⟩)⟩) dL_correct_29 (Nat.le_of_ble_eq_true rfl) ?_
  refine zz_iconst (v := 5) G dL_correct_31 (by decide) ?_
  exact zz_iret G hret dL_correct_32 rfl (Nat.le_of_ble_eq_true rfl) (Nat.le_of_ble_eq_true rfl)
set_option maxRecDepth 100000 in
set_option maxHeartbeats 4000000 in
theorem ch_annul_ok (l : Launch) (hfl : l.flags = Jvm.pinnedFlags ++ [Jvm.noTraceFlag]) (x : XS) (m : MS) (o : Nat → Int64) (n : Nat) (en : Int32) (hvc : fx_vc x = nI n) (hn : n ≤ 64) (v : Int32) (x1 : XS) (hr : rAnn x m o n en = .inl (some (.int v), wx x1 m o)) : zC l yL_annul (Jvm.Cond.codeWith yL_annul bL_annul 4 (some .int) [(0, 9, 12, 13), (0, 9, 15, 25), (0, 9, 18, 17)] :: Tw) 5 false 1 6 [.ref 0, .int en, .ref 10] (wx x m o) (.inl (some (.int 0), wx x1 m (vp_updL o 0 v.toInt64))) := by
  refine zC_ofW [some (.ref 0), some (.int en), some (.ref 10), none] (by decide) rfl (Nat.le_of_ble_eq_true rfl) ?_
  intro p e s mm args below meth c D cI cJ as G hret hex hbd
  refine zz_aload_n G dL_annul_0 rfl ?_
  refine zz_iconst (v := 0) G dL_annul_1 (by decide) ?_
  refine zz_aload_n G dL_annul_2 rfl ?_
  refine zz_iload_n G dL_annul_3 rfl ?_
  refine zz_callVi (v := v) (w' := (wx x1 m o)) (As := [.int en]) (rest := [.int 0, .ref 10]) G (by have q := cx_annul l hfl x m o n en hvc hn; rw [hr] at q; exact q) kL_27 dL_annul_4 rfl rfl rfl rfl (Nat.le_of_ble_eq_true rfl) (fun h => by cases h) ⟨Nat.le_of_ble_eq_true rfl, Nat.le_of_ble_eq_true rfl⟩ ⟨Nat.le_of_ble_eq_true rfl, Nat.le_of_ble_eq_true rfl⟩ ?_
  refine zz_i2l G dL_annul_7 ?_
  refine zz_last (w' := (wx x1 m (vp_updL o 0 v.toInt64))) rfl G dL_annul_8 rfl (by rw [← nI_0]; exact vp_in_nI (by omega) (by omega)) (rfl) ?_
  refine zz_goto (tgt := 21) G dL_annul_9 rfl ?_
  refine zz_iconst (v := 0) G dL_annul_21 (by decide) ?_
  exact zz_iret G hret dL_annul_22 (rfl) (Nat.le_of_ble_eq_true rfl) (Nat.le_of_ble_eq_true rfl)
set_option maxRecDepth 100000 in
set_option maxHeartbeats 4000000 in
theorem ch_annul_ISE (l : Launch) (hfl : l.flags = Jvm.pinnedFlags ++ [Jvm.noTraceFlag]) (x : XS) (m : MS) (o : Nat → Int64) (n : Nat) (en : Int32) (hvc : fx_vc x = nI n) (hn : n ≤ 64) (hr : rAnn x m o n en = .inr ("java/lang/IllegalStateException", wx x m o)) : zC l yL_annul (Jvm.Cond.codeWith yL_annul bL_annul 4 (some .int) [(0, 9, 12, 13), (0, 9, 15, 25), (0, 9, 18, 17)] :: Tw) 5 false 1 6 [.ref 0, .int en, .ref 10] (wx x m o) (.inl (some (.int 1), wx x m o)) := by
  refine zC_ofW [some (.ref 0), some (.int en), some (.ref 10), none] (by decide) rfl (Nat.le_of_ble_eq_true rfl) ?_
  intro p e s mm args below meth c D cI cJ as G hret hex hbd
  refine zz_aload_n G dL_annul_0 rfl ?_
  refine zz_iconst (v := 0) G dL_annul_1 (by decide) ?_
  refine zz_aload_n G dL_annul_2 rfl ?_
  refine zz_iload_n G dL_annul_3 rfl ?_
  refine zz_catch1 (As := [.int en]) (rest := [.int 0, .ref 10]) (w' := (wx x m o)) (Xn := "java/lang/IllegalStateException") G (by have q := cx_annul l hfl x m o n en hvc hn; rw [hr] at q; exact q) kL_27 dL_annul_4 rfl rfl rfl rfl (Nat.le_of_ble_eq_true rfl) (fun h => by cases h) ⟨Nat.le_of_ble_eq_true rfl, Nat.le_of_ble_eq_true rfl⟩ ⟨Nat.le_of_ble_eq_true rfl, Nat.le_of_ble_eq_true rfl⟩ [] [(0, 9, 15, 25), (0, 9, 18, 17)] (q := (0, 9, 12, 13)) hex ⟨Nat.le_of_ble_eq_true rfl, Nat.le_of_ble_eq_true rfl⟩ (by decide) tl_128 tl_142 (fun _ h => absurd h List.not_mem_nil) dL_annul_12 (Nat.le_of_ble_eq_true rfl) ?_
  refine zz_iconst (v := 1) G dL_annul_13 (by decide) ?_
  exact zz_iret G hret dL_annul_14 rfl (Nat.le_of_ble_eq_true rfl) (Nat.le_of_ble_eq_true rfl)
set_option maxRecDepth 100000 in
set_option maxHeartbeats 4000000 in
theorem ch_annul_NSE (l : Launch) (hfl : l.flags = Jvm.pinnedFlags ++ [Jvm.noTraceFlag]) (x : XS) (m : MS) (o : Nat → Int64) (n : Nat) (en : Int32) (hvc : fx_vc x = nI n) (hn : n ≤ 64) (hr : rAnn x m o n en = .inr ("java/util/NoSuchElementException", wx x m o)) : zC l yL_annul (Jvm.Cond.codeWith yL_annul bL_annul 4 (some .int) [(0, 9, 12, 13), (0, 9, 15, 25), (0, 9, 18, 17)] :: Tw) 5 false 1 6 [.ref 0, .int en, .ref 10] (wx x m o) (.inl (some (.int 2), wx x m o)) := by
  refine zC_ofW [some (.ref 0), some (.int en), some (.ref 10), none] (by decide) rfl (Nat.le_of_ble_eq_true rfl) ?_
  intro p e s mm args below meth c D cI cJ as G hret hex hbd
  refine zz_aload_n G dL_annul_0 rfl ?_
  refine zz_iconst (v := 0) G dL_annul_1 (by decide) ?_
  refine zz_aload_n G dL_annul_2 rfl ?_
  refine zz_iload_n G dL_annul_3 rfl ?_
  refine zz_catch1 (As := [.int en]) (rest := [.int 0, .ref 10]) (w' := (wx x m o)) (Xn := "java/util/NoSuchElementException") G (by have q := cx_annul l hfl x m o n en hvc hn; rw [hr] at q; exact q) kL_27 dL_annul_4 rfl rfl rfl rfl (Nat.le_of_ble_eq_true rfl) (fun h => by cases h) ⟨Nat.le_of_ble_eq_true rfl, Nat.le_of_ble_eq_true rfl⟩ ⟨Nat.le_of_ble_eq_true rfl, Nat.le_of_ble_eq_true rfl⟩ [(0, 9, 12, 13)] [(0, 9, 18, 17)] (q := (0, 9, 15, 25)) hex ⟨Nat.le_of_ble_eq_true rfl, Nat.le_of_ble_eq_true rfl⟩ (by decide) tl_295 tl_310 (List.forall_mem_cons.mpr ⟨⟨by decide, "java/lang/IllegalStateException", tl_128, tn_NSE_ISE⟩, (fun _ h => absurd h List.not_mem_nil)⟩) dL_annul_15 (Nat.le_of_ble_eq_true rfl) ?_
  refine zz_iconst (v := 2) G dL_annul_16 (by decide) ?_
  exact zz_iret G hret dL_annul_17 rfl (Nat.le_of_ble_eq_true rfl) (Nat.le_of_ble_eq_true rfl)
set_option maxRecDepth 100000 in
set_option maxHeartbeats 4000000 in
theorem ch_annul_UOE (l : Launch) (hfl : l.flags = Jvm.pinnedFlags ++ [Jvm.noTraceFlag]) (x : XS) (m : MS) (o : Nat → Int64) (n : Nat) (en : Int32) (hvc : fx_vc x = nI n) (hn : n ≤ 64) (hr : rAnn x m o n en = .inr ("java/lang/UnsupportedOperationException", wx x m o)) : zC l yL_annul (Jvm.Cond.codeWith yL_annul bL_annul 4 (some .int) [(0, 9, 12, 13), (0, 9, 15, 25), (0, 9, 18, 17)] :: Tw) 5 false 1 6 [.ref 0, .int en, .ref 10] (wx x m o) (.inl (some (.int 3), wx x m o)) := by
  refine zC_ofW [some (.ref 0), some (.int en), some (.ref 10), none] (by decide) rfl (Nat.le_of_ble_eq_true rfl) ?_
  intro p e s mm args below meth c D cI cJ as G hret hex hbd
  refine zz_aload_n G dL_annul_0 rfl ?_
  refine zz_iconst (v := 0) G dL_annul_1 (by decide) ?_
  refine zz_aload_n G dL_annul_2 rfl ?_
  refine zz_iload_n G dL_annul_3 rfl ?_
  refine zz_catch1 (As := [.int en]) (rest := [.int 0, .ref 10]) (w' := (wx x m o)) (Xn := "java/lang/UnsupportedOperationException") G (by have q := cx_annul l hfl x m o n en hvc hn; rw [hr] at q; exact q) kL_27 dL_annul_4 rfl rfl rfl rfl (Nat.le_of_ble_eq_true rfl) (fun h => by cases h) ⟨Nat.le_of_ble_eq_true rfl, Nat.le_of_ble_eq_true rfl⟩ ⟨Nat.le_of_ble_eq_true rfl, Nat.le_of_ble_eq_true rfl⟩ [(0, 9, 12, 13), (0, 9, 15, 25)] [] (q := (0, 9, 18, 17)) hex ⟨Nat.le_of_ble_eq_true rfl, Nat.le_of_ble_eq_true rfl⟩ (by decide) tl_130 tl_241 (List.forall_mem_cons.mpr ⟨⟨by decide, "java/lang/IllegalStateException", tl_128, tn_UOE_ISE⟩, (List.forall_mem_cons.mpr ⟨⟨by decide, "java/util/NoSuchElementException", tl_295, tn_UOE_NSE⟩, (fun _ h => absurd h List.not_mem_nil)⟩)⟩) dL_annul_18 (Nat.le_of_ble_eq_true rfl) ?_
  refine zz_iconst (v := 3) G dL_annul_19 (by decide) ?_
  exact zz_iret G hret dL_annul_20 rfl (Nat.le_of_ble_eq_true rfl) (Nat.le_of_ble_eq_true rfl)
set_option maxRecDepth 100000 in
set_option maxHeartbeats 4000000 in
theorem ch_balance_ok (l : Launch) (hfl : l.flags = Jvm.pinnedFlags ++ [Jvm.noTraceFlag]) (x : XS) (m : MS) (o : Nat → Int64) (n : Nat) (a d it : Int32) (hvc : fx_vc x = nI n) (hn : n ≤ 64) (v : Int32) (x1 : XS) (hr : rBal x m o a d it = .inl (some (.int v), wx x1 m o)) : zC l yL_balance (Jvm.Cond.codeWith yL_balance bL_balance 6 (some .int) [(0, 12, 15, 13), (0, 12, 19, 15)] :: Tw) 5 false 1 6 [.ref 0, .int a, .int d, .int it, .ref 10] (wx x m o) (.inl (some (.int 0), wx x1 m (vp_updL o 0 v.toInt64))) := by
  refine zC_ofW [some (.ref 0), some (.int a), some (.int d), some (.int it), some (.ref 10), none] (by decide) rfl (Nat.le_of_ble_eq_true rfl) ?_
  intro p e s mm args below meth c D cI cJ as G hret hex hbd
  refine zz_aload G dL_balance_0 rfl ?_
  refine zz_iconst (v := 0) G dL_balance_2 (by decide) ?_
  refine zz_aload_n G dL_balance_3 rfl ?_
  refine zz_iload_n G dL_balance_4 rfl ?_
  refine zz_iload_n G dL_balance_5 rfl ?_
  refine zz_iload_n G dL_balance_6 rfl ?_
  refine zz_callVi (v := v) (w' := (wx x1 m o)) (As := [.int a, .int d, .int it]) (rest := [.int 0, .ref 10]) G (by have q := cx_balance l hfl x m o n a d it hvc hn; rw [hr] at q; exact q) kL_31 dL_balance_7 rfl rfl rfl rfl (Nat.le_of_ble_eq_true rfl) (fun h => by cases h) ⟨Nat.le_of_ble_eq_true rfl, Nat.le_of_ble_eq_true rfl⟩ ⟨Nat.le_of_ble_eq_true rfl, Nat.le_of_ble_eq_true rfl⟩ ?_
  refine zz_i2l G dL_balance_10 ?_
  refine zz_last (w' := (wx x1 m (vp_updL o 0 v.toInt64))) rfl G dL_balance_11 rfl (by rw [← nI_0]; exact vp_in_nI (by omega) (by omega)) (rfl) ?_
  refine zz_goto (tgt := 23) G dL_balance_12 rfl ?_
  refine zz_iconst (v := 0) G dL_balance_23 (by decide) ?_
  exact zz_iret G hret dL_balance_24 (rfl) (Nat.le_of_ble_eq_true rfl) (Nat.le_of_ble_eq_true rfl)
set_option maxRecDepth 100000 in
set_option maxHeartbeats 4000000 in
theorem ch_balance_ISE (l : Launch) (hfl : l.flags = Jvm.pinnedFlags ++ [Jvm.noTraceFlag]) (x : XS) (m : MS) (o : Nat → Int64) (n : Nat) (a d it : Int32) (hvc : fx_vc x = nI n) (hn : n ≤ 64) (hr : rBal x m o a d it = .inr ("java/lang/IllegalStateException", wx x m o)) : zC l yL_balance (Jvm.Cond.codeWith yL_balance bL_balance 6 (some .int) [(0, 12, 15, 13), (0, 12, 19, 15)] :: Tw) 5 false 1 6 [.ref 0, .int a, .int d, .int it, .ref 10] (wx x m o) (.inl (some (.int 1), wx x m o)) := by
  refine zC_ofW [some (.ref 0), some (.int a), some (.int d), some (.int it), some (.ref 10), none] (by decide) rfl (Nat.le_of_ble_eq_true rfl) ?_
  intro p e s mm args below meth c D cI cJ as G hret hex hbd
  refine zz_aload G dL_balance_0 rfl ?_
  refine zz_iconst (v := 0) G dL_balance_2 (by decide) ?_
  refine zz_aload_n G dL_balance_3 rfl ?_
  refine zz_iload_n G dL_balance_4 rfl ?_
  refine zz_iload_n G dL_balance_5 rfl ?_
  refine zz_iload_n G dL_balance_6 rfl ?_
  refine zz_catch2 (As := [.int a, .int d, .int it]) (rest := [.int 0, .ref 10]) (w' := (wx x m o)) (Xn := "java/lang/IllegalStateException") G (by have q := cx_balance l hfl x m o n a d it hvc hn; rw [hr] at q; exact q) kL_31 dL_balance_7 rfl rfl rfl rfl (Nat.le_of_ble_eq_true rfl) (fun h => by cases h) ⟨Nat.le_of_ble_eq_true rfl, Nat.le_of_ble_eq_true rfl⟩ ⟨Nat.le_of_ble_eq_true rfl, Nat.le_of_ble_eq_true rfl⟩ [] [(0, 12, 19, 15)] (q := (0, 12, 15, 13)) hex ⟨Nat.le_of_ble_eq_true rfl, Nat.le_of_ble_eq_true rfl⟩ (by decide) tl_128 tl_142 (fun _ h => absurd h List.not_mem_nil) dL_balance_15 (Nat.le_of_ble_eq_true rfl) ?_
  refine zz_iconst (v := 1) G dL_balance_17 (by decide) ?_
  exact zz_iret G hret dL_balance_18 rfl (Nat.le_of_ble_eq_true rfl) (Nat.le_of_ble_eq_true rfl)
set_option maxRecDepth 100000 in
set_option maxHeartbeats 4000000 in
theorem ch_balance_IAE (l : Launch) (hfl : l.flags = Jvm.pinnedFlags ++ [Jvm.noTraceFlag]) (x : XS) (m : MS) (o : Nat → Int64) (n : Nat) (a d it : Int32) (hvc : fx_vc x = nI n) (hn : n ≤ 64) (hr : rBal x m o a d it = .inr ("java/lang/IllegalArgumentException", wx x m o)) : zC l yL_balance (Jvm.Cond.codeWith yL_balance bL_balance 6 (some .int) [(0, 12, 15, 13), (0, 12, 19, 15)] :: Tw) 5 false 1 6 [.ref 0, .int a, .int d, .int it, .ref 10] (wx x m o) (.inl (some (.int 2), wx x m o)) := by
  refine zC_ofW [some (.ref 0), some (.int a), some (.int d), some (.int it), some (.ref 10), none] (by decide) rfl (Nat.le_of_ble_eq_true rfl) ?_
  intro p e s mm args below meth c D cI cJ as G hret hex hbd
  refine zz_aload G dL_balance_0 rfl ?_
  refine zz_iconst (v := 0) G dL_balance_2 (by decide) ?_
  refine zz_aload_n G dL_balance_3 rfl ?_
  refine zz_iload_n G dL_balance_4 rfl ?_
  refine zz_iload_n G dL_balance_5 rfl ?_
  refine zz_iload_n G dL_balance_6 rfl ?_
  refine zz_catch2 (As := [.int a, .int d, .int it]) (rest := [.int 0, .ref 10]) (w' := (wx x m o)) (Xn := "java/lang/IllegalArgumentException") G (by have q := cx_balance l hfl x m o n a d it hvc hn; rw [hr] at q; exact q) kL_31 dL_balance_7 rfl rfl rfl rfl (Nat.le_of_ble_eq_true rfl) (fun h => by cases h) ⟨Nat.le_of_ble_eq_true rfl, Nat.le_of_ble_eq_true rfl⟩ ⟨Nat.le_of_ble_eq_true rfl, Nat.le_of_ble_eq_true rfl⟩ [(0, 12, 15, 13)] [] (q := (0, 12, 19, 15)) hex ⟨Nat.le_of_ble_eq_true rfl, Nat.le_of_ble_eq_true rfl⟩ (by decide) tl_129 tl_221 (List.forall_mem_cons.mpr ⟨⟨by decide, "java/lang/IllegalStateException", tl_128, tn_IAE_ISE⟩, (fun _ h => absurd h List.not_mem_nil)⟩) dL_balance_19 (Nat.le_of_ble_eq_true rfl) ?_
  refine zz_iconst (v := 2) G dL_balance_21 (by decide) ?_
  exact zz_iret G hret dL_balance_22 rfl (Nat.le_of_ble_eq_true rfl) (Nat.le_of_ble_eq_true rfl)
set_option maxRecDepth 100000 in
set_option maxHeartbeats 4000000 in
theorem ch_trial_ok (l : Launch) (hfl : l.flags = Jvm.pinnedFlags ++ [Jvm.noTraceFlag]) (x : XS) (m : MS) (o : Nat → Int64) (n : Nat) (d it : Int32) (hvc : fx_vc x = nI n) (hn : n ≤ 64) (v : Int32) (x1 : XS) (hr : rTrial x m o d it = .inl (some (.int v), wx x1 m o)) : zC l yL_trial (Jvm.Cond.codeWith yL_trial bL_trial 5 (some .int) [(0, 10, 13, 13), (0, 10, 17, 15)] :: Tw) 5 false 1 6 [.ref 0, .int d, .int it, .ref 10] (wx x m o) (.inl (some (.int 0), wx x1 m (vp_updL o 0 v.toInt64))) := by
  refine zC_ofW [some (.ref 0), some (.int d), some (.int it), some (.ref 10), none] (by decide) rfl (Nat.le_of_ble_eq_true rfl) ?_
  intro p e s mm args below meth c D cI cJ as G hret hex hbd
  refine zz_aload_n G dL_trial_0 rfl ?_
  refine zz_iconst (v := 0) G dL_trial_1 (by decide) ?_
  refine zz_aload_n G dL_trial_2 rfl ?_
  refine zz_iload_n G dL_trial_3 rfl ?_
  refine zz_iload_n G dL_trial_4 rfl ?_
  refine zz_callVi (v := v) (w' := (wx x1 m o)) (As := [.int d, .int it]) (rest := [.int 0, .ref 10]) G (by have q := cx_trial l hfl x m o n d it hvc hn; rw [hr] at q; exact q) kL_35 dL_trial_5 rfl rfl rfl rfl (Nat.le_of_ble_eq_true rfl) (fun h => by cases h) ⟨Nat.le_of_ble_eq_true rfl, Nat.le_of_ble_eq_true rfl⟩ ⟨Nat.le_of_ble_eq_true rfl, Nat.le_of_ble_eq_true rfl⟩ ?_
  refine zz_i2l G dL_trial_8 ?_
  refine zz_last (w' := (wx x1 m (vp_updL o 0 v.toInt64))) rfl G dL_trial_9 rfl (by rw [← nI_0]; exact vp_in_nI (by omega) (by omega)) (rfl) ?_
  refine zz_goto (tgt := 21) G dL_trial_10 rfl ?_
  refine zz_iconst (v := 0) G dL_trial_21 (by decide) ?_
  exact zz_iret G hret dL_trial_22 (rfl) (Nat.le_of_ble_eq_true rfl) (Nat.le_of_ble_eq_true rfl)
set_option maxRecDepth 100000 in
set_option maxHeartbeats 4000000 in
theorem ch_trial_ISE (l : Launch) (hfl : l.flags = Jvm.pinnedFlags ++ [Jvm.noTraceFlag]) (x : XS) (m : MS) (o : Nat → Int64) (n : Nat) (d it : Int32) (hvc : fx_vc x = nI n) (hn : n ≤ 64) (hr : rTrial x m o d it = .inr ("java/lang/IllegalStateException", wx x m o)) : zC l yL_trial (Jvm.Cond.codeWith yL_trial bL_trial 5 (some .int) [(0, 10, 13, 13), (0, 10, 17, 15)] :: Tw) 5 false 1 6 [.ref 0, .int d, .int it, .ref 10] (wx x m o) (.inl (some (.int 1), wx x m o)) := by
  refine zC_ofW [some (.ref 0), some (.int d), some (.int it), some (.ref 10), none] (by decide) rfl (Nat.le_of_ble_eq_true rfl) ?_
  intro p e s mm args below meth c D cI cJ as G hret hex hbd
  refine zz_aload_n G dL_trial_0 rfl ?_
  refine zz_iconst (v := 0) G dL_trial_1 (by decide) ?_
  refine zz_aload_n G dL_trial_2 rfl ?_
  refine zz_iload_n G dL_trial_3 rfl ?_
  refine zz_iload_n G dL_trial_4 rfl ?_
  refine zz_catch2 (As := [.int d, .int it]) (rest := [.int 0, .ref 10]) (w' := (wx x m o)) (Xn := "java/lang/IllegalStateException") G (by have q := cx_trial l hfl x m o n d it hvc hn; rw [hr] at q; exact q) kL_35 dL_trial_5 rfl rfl rfl rfl (Nat.le_of_ble_eq_true rfl) (fun h => by cases h) ⟨Nat.le_of_ble_eq_true rfl, Nat.le_of_ble_eq_true rfl⟩ ⟨Nat.le_of_ble_eq_true rfl, Nat.le_of_ble_eq_true rfl⟩ [] [(0, 10, 17, 15)] (q := (0, 10, 13, 13)) hex ⟨Nat.le_of_ble_eq_true rfl, Nat.le_of_ble_eq_true rfl⟩ (by decide) tl_128 tl_142 (fun _ h => absurd h List.not_mem_nil) dL_trial_13 (Nat.le_of_ble_eq_true rfl) ?_
  refine zz_iconst (v := 1) G dL_trial_15 (by decide) ?_
  exact zz_iret G hret dL_trial_16 rfl (Nat.le_of_ble_eq_true rfl) (Nat.le_of_ble_eq_true rfl)
set_option maxRecDepth 100000 in
set_option maxHeartbeats 4000000 in
theorem ch_trial_IAE (l : Launch) (hfl : l.flags = Jvm.pinnedFlags ++ [Jvm.noTraceFlag]) (x : XS) (m : MS) (o : Nat → Int64) (n : Nat) (d it : Int32) (hvc : fx_vc x = nI n) (hn : n ≤ 64) (hr : rTrial x m o d it = .inr ("java/lang/IllegalArgumentException", wx x m o)) : zC l yL_trial (Jvm.Cond.codeWith yL_trial bL_trial 5 (some .int) [(0, 10, 13, 13), (0, 10, 17, 15)] :: Tw) 5 false 1 6 [.ref 0, .int d, .int it, .ref 10] (wx x m o) (.inl (some (.int 2), wx x m o)) := by
  refine zC_ofW [some (.ref 0), some (.int d), some (.int it), some (.ref 10), none] (by decide) rfl (Nat.le_of_ble_eq_true rfl) ?_
  intro p e s mm args below meth c D cI cJ as G hret hex hbd
  refine zz_aload_n G dL_trial_0 rfl ?_
  refine zz_iconst (v := 0) G dL_trial_1 (by decide) ?_
  refine zz_aload_n G dL_trial_2 rfl ?_
  refine zz_iload_n G dL_trial_3 rfl ?_
  refine zz_iload_n G dL_trial_4 rfl ?_
  refine zz_catch2 (As := [.int d, .int it]) (rest := [.int 0, .ref 10]) (w' := (wx x m o)) (Xn := "java/lang/IllegalArgumentException") G (by have q := cx_trial l hfl x m o n d it hvc hn; rw [hr] at q; exact q) kL_35 dL_trial_5 rfl rfl rfl rfl (Nat.le_of_ble_eq_true rfl) (fun h => by cases h) ⟨Nat.le_of_ble_eq_true rfl, Nat.le_of_ble_eq_true rfl⟩ ⟨Nat.le_of_ble_eq_true rfl, Nat.le_of_ble_eq_true rfl⟩ [(0, 10, 13, 13)] [] (q := (0, 10, 17, 15)) hex ⟨Nat.le_of_ble_eq_true rfl, Nat.le_of_ble_eq_true rfl⟩ (by decide) tl_129 tl_221 (List.forall_mem_cons.mpr ⟨⟨by decide, "java/lang/IllegalStateException", tl_128, tn_IAE_ISE⟩, (fun _ h => absurd h List.not_mem_nil)⟩) dL_trial_17 (Nat.le_of_ble_eq_true rfl) ?_
  refine zz_iconst (v := 2) G dL_trial_19 (by decide) ?_
  exact zz_iret G hret dL_trial_20 rfl (Nat.le_of_ble_eq_true rfl) (Nat.le_of_ble_eq_true rfl)
set_option maxRecDepth 100000 in
set_option maxHeartbeats 4000000 in
theorem ch_turnover_ok (l : Launch) (hfl : l.flags = Jvm.pinnedFlags ++ [Jvm.noTraceFlag]) (x : XS) (m : MS) (o : Nat → Int64) (n : Nat) (a : Int32) (hvc : fx_vc x = nI n) (hn : n ≤ 64) (v : Int32) (x1 : XS) (hr : rTurn x m o n a = .inl (some (.int v), wx x1 m o)) : zC l yL_turnover (Jvm.Cond.codeWith yL_turnover bL_turnover 4 (some .int) [(0, 9, 12, 13), (0, 9, 15, 15)] :: Tw) 5 false 1 6 [.ref 0, .int a, .ref 10] (wx x m o) (.inl (some (.int 0), wx x1 m (vp_updL o 0 v.toInt64))) := by
  refine zC_ofW [some (.ref 0), some (.int a), some (.ref 10), none] (by decide) rfl (Nat.le_of_ble_eq_true rfl) ?_
  intro p e s mm args below meth c D cI cJ as G hret hex hbd
  refine zz_aload_n G dL_turnover_0 rfl ?_
  refine zz_iconst (v := 0) G dL_turnover_1 (by decide) ?_
  refine zz_aload_n G dL_turnover_2 rfl ?_
  refine zz_iload_n G dL_turnover_3 rfl ?_
  refine zz_callVi (v := v) (w' := (wx x1 m o)) (As := [.int a]) (rest := [.int 0, .ref 10]) G (by have q := cx_turnover l hfl x m o n a hvc hn; rw [hr] at q; exact q) kL_38 dL_turnover_4 rfl rfl rfl rfl (Nat.le_of_ble_eq_true rfl) (fun h => by cases h) ⟨Nat.le_of_ble_eq_true rfl, Nat.le_of_ble_eq_true rfl⟩ ⟨Nat.le_of_ble_eq_true rfl, Nat.le_of_ble_eq_true rfl⟩ ?_
  refine zz_i2l G dL_turnover_7 ?_
  refine zz_last (w' := (wx x1 m (vp_updL o 0 v.toInt64))) rfl G dL_turnover_8 rfl (by rw [← nI_0]; exact vp_in_nI (by omega) (by omega)) (rfl) ?_
  refine zz_goto (tgt := 18) G dL_turnover_9 rfl ?_
  refine zz_iconst (v := 0) G dL_turnover_18 (by decide) ?_
  exact zz_iret G hret dL_turnover_19 (rfl) (Nat.le_of_ble_eq_true rfl) (Nat.le_of_ble_eq_true rfl)
set_option maxRecDepth 100000 in
set_option maxHeartbeats 4000000 in
theorem ch_turnover_ISE (l : Launch) (hfl : l.flags = Jvm.pinnedFlags ++ [Jvm.noTraceFlag]) (x : XS) (m : MS) (o : Nat → Int64) (n : Nat) (a : Int32) (hvc : fx_vc x = nI n) (hn : n ≤ 64) (hr : rTurn x m o n a = .inr ("java/lang/IllegalStateException", wx x m o)) : zC l yL_turnover (Jvm.Cond.codeWith yL_turnover bL_turnover 4 (some .int) [(0, 9, 12, 13), (0, 9, 15, 15)] :: Tw) 5 false 1 6 [.ref 0, .int a, .ref 10] (wx x m o) (.inl (some (.int 1), wx x m o)) := by
  refine zC_ofW [some (.ref 0), some (.int a), some (.ref 10), none] (by decide) rfl (Nat.le_of_ble_eq_true rfl) ?_
  intro p e s mm args below meth c D cI cJ as G hret hex hbd
  refine zz_aload_n G dL_turnover_0 rfl ?_
  refine zz_iconst (v := 0) G dL_turnover_1 (by decide) ?_
  refine zz_aload_n G dL_turnover_2 rfl ?_
  refine zz_iload_n G dL_turnover_3 rfl ?_
  refine zz_catch1 (As := [.int a]) (rest := [.int 0, .ref 10]) (w' := (wx x m o)) (Xn := "java/lang/IllegalStateException") G (by have q := cx_turnover l hfl x m o n a hvc hn; rw [hr] at q; exact q) kL_38 dL_turnover_4 rfl rfl rfl rfl (Nat.le_of_ble_eq_true rfl) (fun h => by cases h) ⟨Nat.le_of_ble_eq_true rfl, Nat.le_of_ble_eq_true rfl⟩ ⟨Nat.le_of_ble_eq_true rfl, Nat.le_of_ble_eq_true rfl⟩ [] [(0, 9, 15, 15)] (q := (0, 9, 12, 13)) hex ⟨Nat.le_of_ble_eq_true rfl, Nat.le_of_ble_eq_true rfl⟩ (by decide) tl_128 tl_142 (fun _ h => absurd h List.not_mem_nil) dL_turnover_12 (Nat.le_of_ble_eq_true rfl) ?_
  refine zz_iconst (v := 1) G dL_turnover_13 (by decide) ?_
  exact zz_iret G hret dL_turnover_14 rfl (Nat.le_of_ble_eq_true rfl) (Nat.le_of_ble_eq_true rfl)
set_option maxRecDepth 100000 in
set_option maxHeartbeats 4000000 in
theorem ch_turnover_IAE (l : Launch) (hfl : l.flags = Jvm.pinnedFlags ++ [Jvm.noTraceFlag]) (x : XS) (m : MS) (o : Nat → Int64) (n : Nat) (a : Int32) (hvc : fx_vc x = nI n) (hn : n ≤ 64) (hr : rTurn x m o n a = .inr ("java/lang/IllegalArgumentException", wx x m o)) : zC l yL_turnover (Jvm.Cond.codeWith yL_turnover bL_turnover 4 (some .int) [(0, 9, 12, 13), (0, 9, 15, 15)] :: Tw) 5 false 1 6 [.ref 0, .int a, .ref 10] (wx x m o) (.inl (some (.int 2), wx x m o)) := by
  refine zC_ofW [some (.ref 0), some (.int a), some (.ref 10), none] (by decide) rfl (Nat.le_of_ble_eq_true rfl) ?_
  intro p e s mm args below meth c D cI cJ as G hret hex hbd
  refine zz_aload_n G dL_turnover_0 rfl ?_
  refine zz_iconst (v := 0) G dL_turnover_1 (by decide) ?_
  refine zz_aload_n G dL_turnover_2 rfl ?_
  refine zz_iload_n G dL_turnover_3 rfl ?_
  refine zz_catch1 (As := [.int a]) (rest := [.int 0, .ref 10]) (w' := (wx x m o)) (Xn := "java/lang/IllegalArgumentException") G (by have q := cx_turnover l hfl x m o n a hvc hn; rw [hr] at q; exact q) kL_38 dL_turnover_4 rfl rfl rfl rfl (Nat.le_of_ble_eq_true rfl) (fun h => by cases h) ⟨Nat.le_of_ble_eq_true rfl, Nat.le_of_ble_eq_true rfl⟩ ⟨Nat.le_of_ble_eq_true rfl, Nat.le_of_ble_eq_true rfl⟩ [(0, 9, 12, 13)] [] (q := (0, 9, 15, 15)) hex ⟨Nat.le_of_ble_eq_true rfl, Nat.le_of_ble_eq_true rfl⟩ (by decide) tl_129 tl_221 (List.forall_mem_cons.mpr ⟨⟨by decide, "java/lang/IllegalStateException", tl_128, tn_IAE_ISE⟩, (fun _ h => absurd h List.not_mem_nil)⟩) dL_turnover_15 (Nat.le_of_ble_eq_true rfl) ?_
  refine zz_iconst (v := 2) G dL_turnover_16 (by decide) ?_
  exact zz_iret G hret dL_turnover_17 rfl (Nat.le_of_ble_eq_true rfl) (Nat.le_of_ble_eq_true rfl)
set_option maxRecDepth 100000 in
set_option maxHeartbeats 4000000 in
theorem ch_open_ok (l : Launch) (hfl : l.flags = Jvm.pinnedFlags ++ [Jvm.noTraceFlag]) (x : XS) (m : MS) (o : Nat → Int64) (n e1 : Nat) (a f g it : Int32) (hvc : fx_vc x = nI n) (hn : n ≤ 64) (hI : fx_tam x = 0 → Inv (fx_words x) (fx_rep x) n e1) (v : Int32) (x1 : XS) (hr : rOpen x m o a f g it = .inl (some (.int v), wx x1 m o)) : zC l yL_open (Jvm.Cond.codeWith yL_open bL_open 7 (some .int) [(0, 14, 17, 13), (0, 14, 21, 15)] :: Tw) 5 false 1 6 [.ref 0, .int a, .int f, .int g, .int it, .ref 10] (wx x m o) (.inl (some (.int 0), wx x1 m (vp_updL o 0 v.toInt64))) := by
  refine zC_ofW [some (.ref 0), some (.int a), some (.int f), some (.int g), some (.int it), some (.ref 10), none] (by decide) rfl (Nat.le_of_ble_eq_true rfl) ?_
  intro p e s mm args below meth c D cI cJ as G hret hex hbd
  refine zz_aload G dL_open_0 rfl ?_
  refine zz_iconst (v := 0) G dL_open_2 (by decide) ?_
  refine zz_aload_n G dL_open_3 rfl ?_
  refine zz_iload_n G dL_open_4 rfl ?_
  refine zz_iload_n G dL_open_5 rfl ?_
  refine zz_iload_n G dL_open_6 rfl ?_
  refine zz_iload G dL_open_7 rfl ?_
  refine zz_callVi (v := v) (w' := (wx x1 m o)) (As := [.int a, .int f, .int g, .int it]) (rest := [.int 0, .ref 10]) G (by have q := cx_open l hfl x m o n e1 a f g it hvc hn hI; rw [hr] at q; exact q) kL_41 dL_open_9 rfl rfl rfl rfl (Nat.le_of_ble_eq_true rfl) (fun h => by cases h) ⟨Nat.le_of_ble_eq_true rfl, Nat.le_of_ble_eq_true rfl⟩ ⟨Nat.le_of_ble_eq_true rfl, Nat.le_of_ble_eq_true rfl⟩ ?_
  refine zz_i2l G dL_open_12 ?_
  refine zz_last (w' := (wx x1 m (vp_updL o 0 v.toInt64))) rfl G dL_open_13 rfl (by rw [← nI_0]; exact vp_in_nI (by omega) (by omega)) (rfl) ?_
  refine zz_goto (tgt := 25) G dL_open_14 rfl ?_
  refine zz_iconst (v := 0) G dL_open_25 (by decide) ?_
  exact zz_iret G hret dL_open_26 (rfl) (Nat.le_of_ble_eq_true rfl) (Nat.le_of_ble_eq_true rfl)
set_option maxRecDepth 100000 in
set_option maxHeartbeats 4000000 in
theorem ch_open_ISE (l : Launch) (hfl : l.flags = Jvm.pinnedFlags ++ [Jvm.noTraceFlag]) (x : XS) (m : MS) (o : Nat → Int64) (n e1 : Nat) (a f g it : Int32) (hvc : fx_vc x = nI n) (hn : n ≤ 64) (hI : fx_tam x = 0 → Inv (fx_words x) (fx_rep x) n e1) (hr : rOpen x m o a f g it = .inr ("java/lang/IllegalStateException", wx x m o)) : zC l yL_open (Jvm.Cond.codeWith yL_open bL_open 7 (some .int) [(0, 14, 17, 13), (0, 14, 21, 15)] :: Tw) 5 false 1 6 [.ref 0, .int a, .int f, .int g, .int it, .ref 10] (wx x m o) (.inl (some (.int 1), wx x m o)) := by
  refine zC_ofW [some (.ref 0), some (.int a), some (.int f), some (.int g), some (.int it), some (.ref 10), none] (by decide) rfl (Nat.le_of_ble_eq_true rfl) ?_
  intro p e s mm args below meth c D cI cJ as G hret hex hbd
  refine zz_aload G dL_open_0 rfl ?_
  refine zz_iconst (v := 0) G dL_open_2 (by decide) ?_
  refine zz_aload_n G dL_open_3 rfl ?_
  refine zz_iload_n G dL_open_4 rfl ?_
  refine zz_iload_n G dL_open_5 rfl ?_
  refine zz_iload_n G dL_open_6 rfl ?_
  refine zz_iload G dL_open_7 rfl ?_
  refine zz_catch2 (As := [.int a, .int f, .int g, .int it]) (rest := [.int 0, .ref 10]) (w' := (wx x m o)) (Xn := "java/lang/IllegalStateException") G (by have q := cx_open l hfl x m o n e1 a f g it hvc hn hI; rw [hr] at q; exact q) kL_41 dL_open_9 rfl rfl rfl rfl (Nat.le_of_ble_eq_true rfl) (fun h => by cases h) ⟨Nat.le_of_ble_eq_true rfl, Nat.le_of_ble_eq_true rfl⟩ ⟨Nat.le_of_ble_eq_true rfl, Nat.le_of_ble_eq_true rfl⟩ [] [(0, 14, 21, 15)] (q := (0, 14, 17, 13)) hex ⟨Nat.le_of_ble_eq_true rfl, Nat.le_of_ble_eq_true rfl⟩ (by decide) tl_128 tl_142 (fun _ h => absurd h List.not_mem_nil) dL_open_17 (Nat.le_of_ble_eq_true rfl) ?_
  refine zz_iconst (v := 1) G dL_open_19 (by decide) ?_
  exact zz_iret G hret dL_open_20 rfl (Nat.le_of_ble_eq_true rfl) (Nat.le_of_ble_eq_true rfl)
set_option maxRecDepth 100000 in
set_option maxHeartbeats 4000000 in
theorem ch_open_IAE (l : Launch) (hfl : l.flags = Jvm.pinnedFlags ++ [Jvm.noTraceFlag]) (x : XS) (m : MS) (o : Nat → Int64) (n e1 : Nat) (a f g it : Int32) (hvc : fx_vc x = nI n) (hn : n ≤ 64) (hI : fx_tam x = 0 → Inv (fx_words x) (fx_rep x) n e1) (hr : rOpen x m o a f g it = .inr ("java/lang/IllegalArgumentException", wx x m o)) : zC l yL_open (Jvm.Cond.codeWith yL_open bL_open 7 (some .int) [(0, 14, 17, 13), (0, 14, 21, 15)] :: Tw) 5 false 1 6 [.ref 0, .int a, .int f, .int g, .int it, .ref 10] (wx x m o) (.inl (some (.int 2), wx x m o)) := by
  refine zC_ofW [some (.ref 0), some (.int a), some (.int f), some (.int g), some (.int it), some (.ref 10), none] (by decide) rfl (Nat.le_of_ble_eq_true rfl) ?_
  intro p e s mm args below meth c D cI cJ as G hret hex hbd
  refine zz_aload G dL_open_0 rfl ?_
  refine zz_iconst (v := 0) G dL_open_2 (by decide) ?_
  refine zz_aload_n G dL_open_3 rfl ?_
  refine zz_iload_n G dL_open_4 rfl ?_
  refine zz_iload_n G dL_open_5 rfl ?_
  refine zz_iload_n G dL_open_6 rfl ?_
  refine zz_iload G dL_open_7 rfl ?_
  refine zz_catch2 (As := [.int a, .int f, .int g, .int it]) (rest := [.int 0, .ref 10]) (w' := (wx x m o)) (Xn := "java/lang/IllegalArgumentException") G (by have q := cx_open l hfl x m o n e1 a f g it hvc hn hI; rw [hr] at q; exact q) kL_41 dL_open_9 rfl rfl rfl rfl (Nat.le_of_ble_eq_true rfl) (fun h => by cases h) ⟨Nat.le_of_ble_eq_true rfl, Nat.le_of_ble_eq_true rfl⟩ ⟨Nat.le_of_ble_eq_true rfl, Nat.le_of_ble_eq_true rfl⟩ [(0, 14, 17, 13)] [] (q := (0, 14, 21, 15)) hex ⟨Nat.le_of_ble_eq_true rfl, Nat.le_of_ble_eq_true rfl⟩ (by decide) tl_129 tl_221 (List.forall_mem_cons.mpr ⟨⟨by decide, "java/lang/IllegalStateException", tl_128, tn_IAE_ISE⟩, (fun _ h => absurd h List.not_mem_nil)⟩) dL_open_21 (Nat.le_of_ble_eq_true rfl) ?_
  refine zz_iconst (v := 2) G dL_open_23 (by decide) ?_
  exact zz_iret G hret dL_open_24 rfl (Nat.le_of_ble_eq_true rfl) (Nat.le_of_ble_eq_true rfl)
set_option maxRecDepth 100000 in
set_option maxHeartbeats 4000000 in
theorem ch_next_ok (l : Launch) (hfl : l.flags = Jvm.pinnedFlags ++ [Jvm.noTraceFlag]) (x : XS) (m : MS) (o : Nat → Int64) (q z : Nat) (hq31 : q < 2 ^ 31) (hp : fx_place x = nI q) (hz : fx_size x = nI z) (hz64 : z ≤ 64) (hb : ∀ k, k < z → ∃ u, u < 64 ∧ fx_cur x k = nI u) (v : Int32) (x1 : XS) (hr : rNext x m o = .inl (some (.int v), wx x1 m o)) : zC l yL_next (Jvm.Cond.codeWith yL_next bL_next 3 (some .int) [(0, 8, 11, 13)] :: Tw) 5 false 1 6 [.ref 0, .ref 10] (wx x m o) (.inl (some (.int 0), wx x1 m (vp_updL o 0 v.toInt64))) := by
  refine zC_ofW [some (.ref 0), some (.ref 10), none] (by decide) rfl (Nat.le_of_ble_eq_true rfl) ?_
  intro p e s mm args below meth c D cI cJ as G hret hex hbd
  refine zz_aload_n G dL_next_0 rfl ?_
  refine zz_iconst (v := 0) G dL_next_1 (by decide) ?_
  refine zz_aload_n G dL_next_2 rfl ?_
  refine zz_callVi (v := v) (w' := (wx x1 m o)) (As := []) (rest := [.int 0, .ref 10]) G (by have q := cx_next l hfl x m o q z hq31 hp hz hz64 hb; rw [hr] at q; exact q) kL_44 dL_next_3 rfl rfl rfl rfl (Nat.le_of_ble_eq_true rfl) (fun h => by cases h) ⟨Nat.le_of_ble_eq_true rfl, Nat.le_of_ble_eq_true rfl⟩ ⟨Nat.le_of_ble_eq_true rfl, Nat.le_of_ble_eq_true rfl⟩ ?_
  refine zz_i2l G dL_next_6 ?_
  refine zz_last (w' := (wx x1 m (vp_updL o 0 v.toInt64))) rfl G dL_next_7 rfl (by rw [← nI_0]; exact vp_in_nI (by omega) (by omega)) (rfl) ?_
  refine zz_goto (tgt := 14) G dL_next_8 rfl ?_
  refine zz_iconst (v := 0) G dL_next_14 (by decide) ?_
  exact zz_iret G hret dL_next_15 (rfl) (Nat.le_of_ble_eq_true rfl) (Nat.le_of_ble_eq_true rfl)
set_option maxRecDepth 100000 in
set_option maxHeartbeats 4000000 in
theorem ch_next_ISE (l : Launch) (hfl : l.flags = Jvm.pinnedFlags ++ [Jvm.noTraceFlag]) (x : XS) (m : MS) (o : Nat → Int64) (q z : Nat) (hq31 : q < 2 ^ 31) (hp : fx_place x = nI q) (hz : fx_size x = nI z) (hz64 : z ≤ 64) (hb : ∀ k, k < z → ∃ u, u < 64 ∧ fx_cur x k = nI u) (hr : rNext x m o = .inr ("java/lang/IllegalStateException", wx x m o)) : zC l yL_next (Jvm.Cond.codeWith yL_next bL_next 3 (some .int) [(0, 8, 11, 13)] :: Tw) 5 false 1 6 [.ref 0, .ref 10] (wx x m o) (.inl (some (.int 1), wx x m o)) := by
  refine zC_ofW [some (.ref 0), some (.ref 10), none] (by decide) rfl (Nat.le_of_ble_eq_true rfl) ?_
  intro p e s mm args below meth c D cI cJ as G hret hex hbd
  refine zz_aload_n G dL_next_0 rfl ?_
  refine zz_iconst (v := 0) G dL_next_1 (by decide) ?_
  refine zz_aload_n G dL_next_2 rfl ?_
  refine zz_catch1 (As := []) (rest := [.int 0, .ref 10]) (w' := (wx x m o)) (Xn := "java/lang/IllegalStateException") G (by have q := cx_next l hfl x m o q z hq31 hp hz hz64 hb; rw [hr] at q; exact q) kL_44 dL_next_3 rfl rfl rfl rfl (Nat.le_of_ble_eq_true rfl) (fun h => by cases h) ⟨Nat.le_of_ble_eq_true rfl, Nat.le_of_ble_eq_true rfl⟩ ⟨Nat.le_of_ble_eq_true rfl, Nat.le_of_ble_eq_true rfl⟩ [] [] (q := (0, 8, 11, 13)) hex ⟨Nat.le_of_ble_eq_true rfl, Nat.le_of_ble_eq_true rfl⟩ (by decide) tl_128 tl_142 (fun _ h => absurd h List.not_mem_nil) dL_next_11 (Nat.le_of_ble_eq_true rfl) ?_
  refine zz_iconst (v := 1) G dL_next_12 (by decide) ?_
  exact zz_iret G hret dL_next_13 rfl (Nat.le_of_ble_eq_true rfl) (Nat.le_of_ble_eq_true rfl)
set_option maxRecDepth 100000 in
set_option maxHeartbeats 4000000 in
theorem ch_moved_ok (l : Launch) (hfl : l.flags = Jvm.pinnedFlags ++ [Jvm.noTraceFlag]) (x : XS) (m : MS) (o : Nat → Int64) (hl : fx_last x = -1 ∨ ∃ u, u < 64 ∧ fx_last x = nI u) (v : Int32) (x1 : XS) (hr : rMoved x m o = .inl (some (.int v), wx x1 m o)) : zC l yL_moved (Jvm.Cond.codeWith yL_moved bL_moved 3 (some .int) [(0, 8, 11, 13)] :: Tw) 5 false 1 6 [.ref 0, .ref 10] (wx x m o) (.inl (some (.int 0), wx x1 m (vp_updL o 0 v.toInt64))) := by
  refine zC_ofW [some (.ref 0), some (.ref 10), none] (by decide) rfl (Nat.le_of_ble_eq_true rfl) ?_
  intro p e s mm args below meth c D cI cJ as G hret hex hbd
  refine zz_aload_n G dL_moved_0 rfl ?_
  refine zz_iconst (v := 0) G dL_moved_1 (by decide) ?_
  refine zz_aload_n G dL_moved_2 rfl ?_
  refine zz_callVi (v := v) (w' := (wx x1 m o)) (As := []) (rest := [.int 0, .ref 10]) G (by have q := cx_moved l hfl x m o hl; rw [hr] at q; exact q) kL_48 dL_moved_3 rfl rfl rfl rfl (Nat.le_of_ble_eq_true rfl) (fun h => by cases h) ⟨Nat.le_of_ble_eq_true rfl, Nat.le_of_ble_eq_true rfl⟩ ⟨Nat.le_of_ble_eq_true rfl, Nat.le_of_ble_eq_true rfl⟩ ?_
  refine zz_i2l G dL_moved_6 ?_
  refine zz_last (w' := (wx x1 m (vp_updL o 0 v.toInt64))) rfl G dL_moved_7 rfl (by rw [← nI_0]; exact vp_in_nI (by omega) (by omega)) (rfl) ?_
  refine zz_goto (tgt := 14) G dL_moved_8 rfl ?_
  refine zz_iconst (v := 0) G dL_moved_14 (by decide) ?_
  exact zz_iret G hret dL_moved_15 (rfl) (Nat.le_of_ble_eq_true rfl) (Nat.le_of_ble_eq_true rfl)
set_option maxRecDepth 100000 in
set_option maxHeartbeats 4000000 in
theorem ch_moved_ISE (l : Launch) (hfl : l.flags = Jvm.pinnedFlags ++ [Jvm.noTraceFlag]) (x : XS) (m : MS) (o : Nat → Int64) (hl : fx_last x = -1 ∨ ∃ u, u < 64 ∧ fx_last x = nI u) (hr : rMoved x m o = .inr ("java/lang/IllegalStateException", wx x m o)) : zC l yL_moved (Jvm.Cond.codeWith yL_moved bL_moved 3 (some .int) [(0, 8, 11, 13)] :: Tw) 5 false 1 6 [.ref 0, .ref 10] (wx x m o) (.inl (some (.int 1), wx x m o)) := by
  refine zC_ofW [some (.ref 0), some (.ref 10), none] (by decide) rfl (Nat.le_of_ble_eq_true rfl) ?_
  intro p e s mm args below meth c D cI cJ as G hret hex hbd
  refine zz_aload_n G dL_moved_0 rfl ?_
  refine zz_iconst (v := 0) G dL_moved_1 (by decide) ?_
  refine zz_aload_n G dL_moved_2 rfl ?_
  refine zz_catch1 (As := []) (rest := [.int 0, .ref 10]) (w' := (wx x m o)) (Xn := "java/lang/IllegalStateException") G (by have q := cx_moved l hfl x m o hl; rw [hr] at q; exact q) kL_48 dL_moved_3 rfl rfl rfl rfl (Nat.le_of_ble_eq_true rfl) (fun h => by cases h) ⟨Nat.le_of_ble_eq_true rfl, Nat.le_of_ble_eq_true rfl⟩ ⟨Nat.le_of_ble_eq_true rfl, Nat.le_of_ble_eq_true rfl⟩ [] [] (q := (0, 8, 11, 13)) hex ⟨Nat.le_of_ble_eq_true rfl, Nat.le_of_ble_eq_true rfl⟩ (by decide) tl_128 tl_142 (fun _ h => absurd h List.not_mem_nil) dL_moved_11 (Nat.le_of_ble_eq_true rfl) ?_
  refine zz_iconst (v := 1) G dL_moved_12 (by decide) ?_
  exact zz_iret G hret dL_moved_13 rfl (Nat.le_of_ble_eq_true rfl) (Nat.le_of_ble_eq_true rfl)
set_option maxRecDepth 100000 in
set_option maxHeartbeats 4000000 in
theorem ch_field_ok (l : Launch) (hfl : l.flags = Jvm.pinnedFlags ++ [Jvm.noTraceFlag]) (x : XS) (m : MS) (o : Nat → Int64) (n : Nat) (en k it : Int32) (hvc : fx_vc x = nI n) (hn : n ≤ 64) (v : Int32) (x1 : XS) (hr : rField x m o en k it = .inl (some (.int v), wx x1 m o)) : zC l yL_field (Jvm.Cond.codeWith yL_field bL_field 6 (some .int) [(0, 12, 15, 13)] :: Tw) 5 false 1 6 [.ref 0, .int en, .int k, .int it, .ref 10] (wx x m o) (.inl (some (.int 0), wx x1 m (vp_updL o 0 v.toInt64))) := by
  refine zC_ofW [some (.ref 0), some (.int en), some (.int k), some (.int it), some (.ref 10), none] (by decide) rfl (Nat.le_of_ble_eq_true rfl) ?_
  intro p e s mm args below meth c D cI cJ as G hret hex hbd
  refine zz_aload G dL_field_0 rfl ?_
  refine zz_iconst (v := 0) G dL_field_2 (by decide) ?_
  refine zz_aload_n G dL_field_3 rfl ?_
  refine zz_iload_n G dL_field_4 rfl ?_
  refine zz_iload_n G dL_field_5 rfl ?_
  refine zz_iload_n G dL_field_6 rfl ?_
  refine zz_callVi (v := v) (w' := (wx x1 m o)) (As := [.int en, .int k, .int it]) (rest := [.int 0, .ref 10]) G (by have q := cx_field l hfl x m o n en k it hvc hn; rw [hr] at q; exact q) kL_51 dL_field_7 rfl rfl rfl rfl (Nat.le_of_ble_eq_true rfl) (fun h => by cases h) ⟨Nat.le_of_ble_eq_true rfl, Nat.le_of_ble_eq_true rfl⟩ ⟨Nat.le_of_ble_eq_true rfl, Nat.le_of_ble_eq_true rfl⟩ ?_
  refine zz_i2l G dL_field_10 ?_
  refine zz_last (w' := (wx x1 m (vp_updL o 0 v.toInt64))) rfl G dL_field_11 rfl (by rw [← nI_0]; exact vp_in_nI (by omega) (by omega)) (rfl) ?_
  refine zz_goto (tgt := 19) G dL_field_12 rfl ?_
  refine zz_iconst (v := 0) G dL_field_19 (by decide) ?_
  exact zz_iret G hret dL_field_20 (rfl) (Nat.le_of_ble_eq_true rfl) (Nat.le_of_ble_eq_true rfl)
set_option maxRecDepth 100000 in
set_option maxHeartbeats 4000000 in
theorem ch_field_ISE (l : Launch) (hfl : l.flags = Jvm.pinnedFlags ++ [Jvm.noTraceFlag]) (x : XS) (m : MS) (o : Nat → Int64) (n : Nat) (en k it : Int32) (hvc : fx_vc x = nI n) (hn : n ≤ 64) (hr : rField x m o en k it = .inr ("java/lang/IllegalStateException", wx x m o)) : zC l yL_field (Jvm.Cond.codeWith yL_field bL_field 6 (some .int) [(0, 12, 15, 13)] :: Tw) 5 false 1 6 [.ref 0, .int en, .int k, .int it, .ref 10] (wx x m o) (.inl (some (.int 1), wx x m o)) := by
  refine zC_ofW [some (.ref 0), some (.int en), some (.int k), some (.int it), some (.ref 10), none] (by decide) rfl (Nat.le_of_ble_eq_true rfl) ?_
  intro p e s mm args below meth c D cI cJ as G hret hex hbd
  refine zz_aload G dL_field_0 rfl ?_
  refine zz_iconst (v := 0) G dL_field_2 (by decide) ?_
  refine zz_aload_n G dL_field_3 rfl ?_
  refine zz_iload_n G dL_field_4 rfl ?_
  refine zz_iload_n G dL_field_5 rfl ?_
  refine zz_iload_n G dL_field_6 rfl ?_
  refine zz_catch2 (As := [.int en, .int k, .int it]) (rest := [.int 0, .ref 10]) (w' := (wx x m o)) (Xn := "java/lang/IllegalStateException") G (by have q := cx_field l hfl x m o n en k it hvc hn; rw [hr] at q; exact q) kL_51 dL_field_7 rfl rfl rfl rfl (Nat.le_of_ble_eq_true rfl) (fun h => by cases h) ⟨Nat.le_of_ble_eq_true rfl, Nat.le_of_ble_eq_true rfl⟩ ⟨Nat.le_of_ble_eq_true rfl, Nat.le_of_ble_eq_true rfl⟩ [] [] (q := (0, 12, 15, 13)) hex ⟨Nat.le_of_ble_eq_true rfl, Nat.le_of_ble_eq_true rfl⟩ (by decide) tl_128 tl_142 (fun _ h => absurd h List.not_mem_nil) dL_field_15 (Nat.le_of_ble_eq_true rfl) ?_
  refine zz_iconst (v := 1) G dL_field_17 (by decide) ?_
  exact zz_iret G hret dL_field_18 rfl (Nat.le_of_ble_eq_true rfl) (Nat.le_of_ble_eq_true rfl)
set_option maxRecDepth 100000 in
set_option maxHeartbeats 4000000 in
theorem ch_entries_ok (l : Launch) (hfl : l.flags = Jvm.pinnedFlags ++ [Jvm.noTraceFlag]) (x : XS) (m : MS) (o : Nat → Int64)  (v : Int32) (x1 : XS) (hr : rEnt x m o = .inl (some (.int v), wx x1 m o)) : zC l yL_entries (Jvm.Cond.codeWith yL_entries bL_entries 3 (some .int) [(0, 8, 11, 13)] :: Tw) 5 false 1 6 [.ref 0, .ref 10] (wx x m o) (.inl (some (.int 0), wx x1 m (vp_updL o 0 v.toInt64))) := by
  refine zC_ofW [some (.ref 0), some (.ref 10), none] (by decide) rfl (Nat.le_of_ble_eq_true rfl) ?_
  intro p e s mm args below meth c D cI cJ as G hret hex hbd
  refine zz_aload_n G dL_entries_0 rfl ?_
  refine zz_iconst (v := 0) G dL_entries_1 (by decide) ?_
  refine zz_aload_n G dL_entries_2 rfl ?_
  refine zz_callVi (v := v) (w' := (wx x1 m o)) (As := []) (rest := [.int 0, .ref 10]) G (by have q := cx_entries l hfl x m o ; rw [hr] at q; exact q) kL_54 dL_entries_3 rfl rfl rfl rfl (Nat.le_of_ble_eq_true rfl) (fun h => by cases h) ⟨Nat.le_of_ble_eq_true rfl, Nat.le_of_ble_eq_true rfl⟩ ⟨Nat.le_of_ble_eq_true rfl, Nat.le_of_ble_eq_true rfl⟩ ?_
  refine zz_i2l G dL_entries_6 ?_
  refine zz_last (w' := (wx x1 m (vp_updL o 0 v.toInt64))) rfl G dL_entries_7 rfl (by rw [← nI_0]; exact vp_in_nI (by omega) (by omega)) (rfl) ?_
  refine zz_goto (tgt := 14) G dL_entries_8 rfl ?_
  refine zz_iconst (v := 0) G dL_entries_14 (by decide) ?_
  exact zz_iret G hret dL_entries_15 (rfl) (Nat.le_of_ble_eq_true rfl) (Nat.le_of_ble_eq_true rfl)
set_option maxRecDepth 100000 in
set_option maxHeartbeats 4000000 in
theorem ch_entries_ISE (l : Launch) (hfl : l.flags = Jvm.pinnedFlags ++ [Jvm.noTraceFlag]) (x : XS) (m : MS) (o : Nat → Int64)  (hr : rEnt x m o = .inr ("java/lang/IllegalStateException", wx x m o)) : zC l yL_entries (Jvm.Cond.codeWith yL_entries bL_entries 3 (some .int) [(0, 8, 11, 13)] :: Tw) 5 false 1 6 [.ref 0, .ref 10] (wx x m o) (.inl (some (.int 1), wx x m o)) := by
  refine zC_ofW [some (.ref 0), some (.ref 10), none] (by decide) rfl (Nat.le_of_ble_eq_true rfl) ?_
  intro p e s mm args below meth c D cI cJ as G hret hex hbd
  refine zz_aload_n G dL_entries_0 rfl ?_
  refine zz_iconst (v := 0) G dL_entries_1 (by decide) ?_
  refine zz_aload_n G dL_entries_2 rfl ?_
  refine zz_catch1 (As := []) (rest := [.int 0, .ref 10]) (w' := (wx x m o)) (Xn := "java/lang/IllegalStateException") G (by have q := cx_entries l hfl x m o ; rw [hr] at q; exact q) kL_54 dL_entries_3 rfl rfl rfl rfl (Nat.le_of_ble_eq_true rfl) (fun h => by cases h) ⟨Nat.le_of_ble_eq_true rfl, Nat.le_of_ble_eq_true rfl⟩ ⟨Nat.le_of_ble_eq_true rfl, Nat.le_of_ble_eq_true rfl⟩ [] [] (q := (0, 8, 11, 13)) hex ⟨Nat.le_of_ble_eq_true rfl, Nat.le_of_ble_eq_true rfl⟩ (by decide) tl_128 tl_142 (fun _ h => absurd h List.not_mem_nil) dL_entries_11 (Nat.le_of_ble_eq_true rfl) ?_
  refine zz_iconst (v := 1) G dL_entries_12 (by decide) ?_
  exact zz_iret G hret dL_entries_13 rfl (Nat.le_of_ble_eq_true rfl) (Nat.le_of_ble_eq_true rfl)
theorem kH_post : zcSW "AsOfLedgerLaw" 61 yL_post bL_post 7 (some .int) [(0, 14, 17, 13), (0, 14, 21, 15), (0, 14, 25, 17), (0, 14, 29, 19)] 6 := ⟨tl_127, tl_125, tl_32, ⟨by decide, by decide⟩, by decide +kernel, tl_126⟩
theorem kH_correct : zcSW "AsOfLedgerLaw" 70 yL_correct bL_correct 5 (some .int) [(0, 10, 13, 13), (0, 10, 17, 25), (0, 10, 21, 15), (0, 10, 25, 17), (0, 10, 29, 19)] 4 := ⟨tl_294, tl_292, tl_32, ⟨by decide, by decide⟩, by decide +kernel, tl_293⟩
theorem kH_annul : zcSW "AsOfLedgerLaw" 74 yL_annul bL_annul 4 (some .int) [(0, 9, 12, 13), (0, 9, 15, 25), (0, 9, 18, 17)] 3 := ⟨tl_330, tl_328, tl_32, ⟨by decide, by decide⟩, by decide +kernel, tl_329⟩
theorem kH_balance : zcSW "AsOfLedgerLaw" 78 yL_balance bL_balance 6 (some .int) [(0, 12, 15, 13), (0, 12, 19, 15)] 5 := ⟨tl_337, tl_335, tl_32, ⟨by decide, by decide⟩, by decide +kernel, tl_336⟩
theorem kH_trial : zcSW "AsOfLedgerLaw" 82 yL_trial bL_trial 5 (some .int) [(0, 10, 13, 13), (0, 10, 17, 15)] 4 := ⟨tl_356, tl_354, tl_32, ⟨by decide, by decide⟩, by decide +kernel, tl_355⟩
theorem kH_turnover : zcSW "AsOfLedgerLaw" 85 yL_turnover bL_turnover 4 (some .int) [(0, 9, 12, 13), (0, 9, 15, 15)] 3 := ⟨tl_363, tl_361, tl_32, ⟨by decide, by decide⟩, by decide +kernel, tl_362⟩
theorem kH_open : zcSW "AsOfLedgerLaw" 88 yL_open bL_open 7 (some .int) [(0, 14, 17, 13), (0, 14, 21, 15)] 6 := ⟨tl_370, tl_368, tl_32, ⟨by decide, by decide⟩, by decide +kernel, tl_369⟩
theorem kH_next : zcSW "AsOfLedgerLaw" 91 yL_next bL_next 3 (some .int) [(0, 8, 11, 13)] 2 := ⟨tl_388, tl_386, tl_32, ⟨by decide, by decide⟩, by decide +kernel, tl_387⟩
theorem kH_moved : zcSW "AsOfLedgerLaw" 95 yL_moved bL_moved 3 (some .int) [(0, 8, 11, 13)] 2 := ⟨tl_395, tl_393, tl_32, ⟨by decide, by decide⟩, by decide +kernel, tl_394⟩
theorem kH_field : zcSW "AsOfLedgerLaw" 98 yL_field bL_field 6 (some .int) [(0, 12, 15, 13)] 5 := ⟨tl_402, tl_400, tl_32, ⟨by decide, by decide⟩, by decide +kernel, tl_401⟩
theorem kH_entries : zcSW "AsOfLedgerLaw" 101 yL_entries bL_entries 3 (some .int) [(0, 8, 11, 13)] 2 := ⟨tl_409, tl_407, tl_32, ⟨by decide, by decide⟩, by decide +kernel, tl_408⟩
