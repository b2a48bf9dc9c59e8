set_option maxRecDepth 100000 in
set_option maxHeartbeats 4000000 in
theorem cx_post (l : Launch) (hfl : l.flags = Jvm.pinnedFlags ++ [Jvm.noTraceFlag]) (x : XS) (m : MS) (o : Nat → Int64) (n e1 : Nat) (d c1 a y : Int32) (hvc : fx_vc x = nI n) (hn : n ≤ 64) (hec : fx_ec x = nI e1) : zC l yX_post (Jvm.Cond.code yX_post bX_post 6 (some .int) :: Tw) 4 false 0 0 [.ref 0, .int d, .int c1, .int a, .int y] (wx x m o) (rPost x m o n e1 d c1 a y) := by
  refine zC_of [some (.ref 0), some (.int d), some (.int c1), some (.int a), some (.int y), none] (by decide) rfl (Nat.le_of_ble_eq_true rfl) ?_
  intro p e s mm args below meth c D cI cJ as G hret hex hbd
  refine zz_aload_n G dX_post_0 rfl ?_
  by_cases h1 : fx_tam x = 0
  rotate_left
  · exact zz_thrV (As := []) (rest := []) G (cx_refuseIfTampered_no l hfl x m o h1) kX_27 dX_post_1 rfl rfl rfl rfl (Nat.le_of_ble_eq_true rfl) (fun _ => rfl) ⟨Nat.le_of_ble_eq_true rfl, Nat.le_of_ble_eq_true rfl⟩ ⟨Nat.le_of_ble_eq_true rfl, Nat.le_of_ble_eq_true rfl⟩ hex (by rw [rPost, if_neg h1]; rfl) rfl rfl
  refine zz_callVv (w' := (wx x m o)) (As := []) (rest := []) G (cx_refuseIfTampered_ok l hfl x m o h1) kX_27 dX_post_1 rfl rfl rfl rfl (Nat.le_of_ble_eq_true rfl) (fun _ => rfl) ⟨Nat.le_of_ble_eq_true rfl, Nat.le_of_ble_eq_true rfl⟩ ⟨Nat.le_of_ble_eq_true rfl, Nat.le_of_ble_eq_true rfl⟩ ?_
  refine zz_iload_n G dX_post_4 rfl ?_
  refine zz_callSi (v := sAcc d) (w' := (wx x m o)) (As := [.int d]) (rest := []) G (cx_isAccount l x m o d) kX_30 dX_post_5 rfl rfl (Nat.le_of_ble_eq_true rfl) (fun _ => rfl) ⟨Nat.le_of_ble_eq_true rfl, Nat.le_of_ble_eq_true rfl⟩ ⟨Nat.le_of_ble_eq_true rfl, Nat.le_of_ble_eq_true rfl⟩ ?_
  refine zz_if_eq (tgt := 40) G dX_post_8 rfl (fun h8 => ?_) (fun h8 => ?_)
  · refine zz_iconst (v := 0) G dX_post_40 (by decide) ?_
    exact zz_thrS (As := [.int 0]) (rest := []) G (cx_refuseArgumentsUnless_no l hfl x m o 0 (fun z => z rfl)) kX_37 dX_post_41 rfl rfl (Nat.le_of_ble_eq_true rfl) (fun _ => rfl) ⟨Nat.le_of_ble_eq_true rfl, Nat.le_of_ble_eq_true rfl⟩ ⟨Nat.le_of_ble_eq_true rfl, Nat.le_of_ble_eq_true rfl⟩ hex (by rw [rPost, if_pos h1, if_pos h8]; rfl) rfl rfl
  · refine zz_iload_n G dX_post_11 rfl ?_
    refine zz_callSi (v := sAcc c1) (w' := (wx x m o)) (As := [.int c1]) (rest := []) G (cx_isAccount l x m o c1) kX_30 dX_post_12 rfl rfl (Nat.le_of_ble_eq_true rfl) (fun _ => rfl) ⟨Nat.le_of_ble_eq_true rfl, Nat.le_of_ble_eq_true rfl⟩ ⟨Nat.le_of_ble_eq_true rfl, Nat.le_of_ble_eq_true rfl⟩ ?_
    refine zz_if_eq (tgt := 40) G dX_post_15 rfl (fun h15 => ?_) (fun h15 => ?_)
    · refine zz_iconst (v := 0) G dX_post_40 (by decide) ?_
      exact zz_thrS (As := [.int 0]) (rest := []) G (cx_refuseArgumentsUnless_no l hfl x m o 0 (fun z => z rfl)) kX_37 dX_post_41 rfl rfl (Nat.le_of_ble_eq_true rfl) (fun _ => rfl) ⟨Nat.le_of_ble_eq_true rfl, Nat.le_of_ble_eq_true rfl⟩ ⟨Nat.le_of_ble_eq_true rfl, Nat.le_of_ble_eq_true rfl⟩ hex (by rw [rPost, if_pos h1, if_neg h8, if_pos h15]; rfl) rfl rfl
    · refine zz_iload_n G dX_post_18 rfl ?_
      refine zz_iload_n G dX_post_19 rfl ?_
      refine zz_icmp_eq (tgt := 40) G dX_post_20 rfl (fun h20 => ?_) (fun h20 => ?_)
      · refine zz_iconst (v := 0) G dX_post_40 (by decide) ?_
        exact zz_thrS (As := [.int 0]) (rest := []) G (cx_refuseArgumentsUnless_no l hfl x m o 0 (fun z => z rfl)) kX_37 dX_post_41 rfl rfl (Nat.le_of_ble_eq_true rfl) (fun _ => rfl) ⟨Nat.le_of_ble_eq_true rfl, Nat.le_of_ble_eq_true rfl⟩ ⟨Nat.le_of_ble_eq_true rfl, Nat.le_of_ble_eq_true rfl⟩ hex (by rw [rPost, if_pos h1, if_neg h8, if_neg h15, if_pos h20]; rfl) rfl rfl
      · refine zz_iload G dX_post_23 rfl ?_
        refine zz_callSi (v := sDay y) (w' := (wx x m o)) (As := [.int y]) (rest := []) G (cx_isDay l x m o y) kX_34 dX_post_25 rfl rfl (Nat.le_of_ble_eq_true rfl) (fun _ => rfl) ⟨Nat.le_of_ble_eq_true rfl, Nat.le_of_ble_eq_true rfl⟩ ⟨Nat.le_of_ble_eq_true rfl, Nat.le_of_ble_eq_true rfl⟩ ?_
        refine zz_if_eq (tgt := 40) G dX_post_28 rfl (fun h28 => ?_) (fun h28 => ?_)
        · refine zz_iconst (v := 0) G dX_post_40 (by decide) ?_
          exact zz_thrS (As := [.int 0]) (rest := []) G (cx_refuseArgumentsUnless_no l hfl x m o 0 (fun z => z rfl)) kX_37 dX_post_41 rfl rfl (Nat.le_of_ble_eq_true rfl) (fun _ => rfl) ⟨Nat.le_of_ble_eq_true rfl, Nat.le_of_ble_eq_true rfl⟩ ⟨Nat.le_of_ble_eq_true rfl, Nat.le_of_ble_eq_true rfl⟩ hex (by rw [rPost, if_pos h1, if_neg h8, if_neg h15, if_neg h20, if_pos h28]; rfl) rfl rfl
        · refine zz_iload_n G dX_post_31 rfl ?_
          refine zz_iconst (v := 1) G dX_post_32 (by decide) ?_
          refine zz_icmp_lt (tgt := 40) G dX_post_33 rfl (fun h33 => ?_) (fun h33 => ?_)
          · refine zz_iconst (v := 0) G dX_post_40 (by decide) ?_
            exact zz_thrS (As := [.int 0]) (rest := []) G (cx_refuseArgumentsUnless_no l hfl x m o 0 (fun z => z rfl)) kX_37 dX_post_41 rfl rfl (Nat.le_of_ble_eq_true rfl) (fun _ => rfl) ⟨Nat.le_of_ble_eq_true rfl, Nat.le_of_ble_eq_true rfl⟩ ⟨Nat.le_of_ble_eq_true rfl, Nat.le_of_ble_eq_true rfl⟩ hex (by rw [rPost, if_pos h1, if_neg h8, if_neg h15, if_neg h20, if_neg h28, if_pos h33]; rfl) rfl rfl
          · refine zz_iconst (v := 1) G dX_post_36 (by decide) ?_
            refine zz_goto (tgt := 41) G dX_post_37 rfl ?_
            refine zz_callSv (w' := (wx x m o)) (As := [.int 1]) (rest := []) G (cx_refuseArgumentsUnless_ok l hfl x m o 1 (by decide)) kX_37 dX_post_41 rfl rfl (Nat.le_of_ble_eq_true rfl) (fun _ => rfl) ⟨Nat.le_of_ble_eq_true rfl, Nat.le_of_ble_eq_true rfl⟩ ⟨Nat.le_of_ble_eq_true rfl, Nat.le_of_ble_eq_true rfl⟩ ?_
            refine zz_aload_n G dX_post_44 rfl ?_
            by_cases h45 : fx_vc x < 64
            rotate_left
            · exact zz_thrV (As := []) (rest := []) G (cx_refuseIfFull_no l hfl x m o h45) kX_41 dX_post_45 rfl rfl rfl rfl (Nat.le_of_ble_eq_true rfl) (fun _ => rfl) ⟨Nat.le_of_ble_eq_true rfl, Nat.le_of_ble_eq_true rfl⟩ ⟨Nat.le_of_ble_eq_true rfl, Nat.le_of_ble_eq_true rfl⟩ hex (by rw [rPost, if_pos h1, if_neg h8, if_neg h15, if_neg h20, if_neg h28, if_neg h33, if_neg h45]; rfl) rfl rfl
            refine zz_callVv (w' := (wx x m o)) (As := []) (rest := []) G (cx_refuseIfFull_ok l hfl x m o h45) kX_41 dX_post_45 rfl rfl rfl rfl (Nat.le_of_ble_eq_true rfl) (fun _ => rfl) ⟨Nat.le_of_ble_eq_true rfl, Nat.le_of_ble_eq_true rfl⟩ ⟨Nat.le_of_ble_eq_true rfl, Nat.le_of_ble_eq_true rfl⟩ ?_
            refine zz_aload_n G dX_post_48 rfl ?_
            refine zz_iload_n G dX_post_49 rfl ?_
            refine zz_iconst (v := 0) G dX_post_50 (by decide) ?_
            refine zz_iload_n G dX_post_51 rfl ?_
            by_cases h52 : sOver x n d 0 a ≤ 0
            rotate_left
            · exact zz_thrV (As := [.int d, .int 0, .int a]) (rest := []) G (cx_refuseIfTurnoverTooHigh_no l hfl x m o n d 0 a hvc (hn) h52) kX_44 dX_post_52 rfl rfl rfl rfl (Nat.le_of_ble_eq_true rfl) (fun _ => rfl) ⟨Nat.le_of_ble_eq_true rfl, Nat.le_of_ble_eq_true rfl⟩ ⟨Nat.le_of_ble_eq_true rfl, Nat.le_of_ble_eq_true rfl⟩ hex (by rw [rPost, if_pos h1, if_neg h8, if_neg h15, if_neg h20, if_neg h28, if_neg h33, if_pos h45, if_neg h52]; rfl) rfl rfl
            refine zz_callVv (w' := (wx x m o)) (As := [.int d, .int 0, .int a]) (rest := []) G (cx_refuseIfTurnoverTooHigh_ok l hfl x m o n d 0 a hvc (hn) h52) kX_44 dX_post_52 rfl rfl rfl rfl (Nat.le_of_ble_eq_true rfl) (fun _ => rfl) ⟨Nat.le_of_ble_eq_true rfl, Nat.le_of_ble_eq_true rfl⟩ ⟨Nat.le_of_ble_eq_true rfl, Nat.le_of_ble_eq_true rfl⟩ ?_
            refine zz_aload_n G dX_post_55 rfl ?_
            refine zz_iload_n G dX_post_56 rfl ?_
            refine zz_iconst (v := 0) G dX_post_57 (by decide) ?_
            refine zz_iload_n G dX_post_58 rfl ?_
            by_cases h59 : sOver x n c1 0 a ≤ 0
            rotate_left
            · exact zz_thrV (As := [.int c1, .int 0, .int a]) (rest := []) G (cx_refuseIfTurnoverTooHigh_no l hfl x m o n c1 0 a hvc (hn) h59) kX_44 dX_post_59 rfl rfl rfl rfl (Nat.le_of_ble_eq_true rfl) (fun _ => rfl) ⟨Nat.le_of_ble_eq_true rfl, Nat.le_of_ble_eq_true rfl⟩ ⟨Nat.le_of_ble_eq_true rfl, Nat.le_of_ble_eq_true rfl⟩ hex (by rw [rPost, if_pos h1, if_neg h8, if_neg h15, if_neg h20, if_neg h28, if_neg h33, if_pos h45, if_pos h52, if_neg h59]; rfl) rfl rfl
            refine zz_callVv (w' := (wx x m o)) (As := [.int c1, .int 0, .int a]) (rest := []) G (cx_refuseIfTurnoverTooHigh_ok l hfl x m o n c1 0 a hvc (hn) h59) kX_44 dX_post_59 rfl rfl rfl rfl (Nat.le_of_ble_eq_true rfl) (fun _ => rfl) ⟨Nat.le_of_ble_eq_true rfl, Nat.le_of_ble_eq_true rfl⟩ ⟨Nat.le_of_ble_eq_true rfl, Nat.le_of_ble_eq_true rfl⟩ ?_
            refine zz_aload_n G dX_post_62 rfl ?_
            refine zz_get (v := .int (nI e1)) G dX_post_63 flX_48 rfl (by rw [← hec]; rfl) ?_
            refine zz_istore (lv' := [some (.ref 0), some (.int d), some (.int c1), some (.int a), some (.int y), some (.int (nI e1))]) G dX_post_66 (Nat.le_of_ble_eq_true rfl) rfl ?_
            refine zz_aload_n G dX_post_68 rfl ?_
            refine zz_iconst (v := 0) G dX_post_69 (by decide) ?_
            refine zz_iload G dX_post_70 rfl ?_
            refine zz_iload_n G dX_post_72 rfl ?_
            refine zz_iload_n G dX_post_73 rfl ?_
            refine zz_iload_n G dX_post_74 rfl ?_
            refine zz_iload G dX_post_75 rfl ?_
            refine zz_callVi (v := nI n) (w' := (wx (xApp x n 0 (nI e1) d c1 a y) m o)) (As := [.int 0, .int (nI e1), .int d, .int c1, .int a, .int y]) (rest := []) G (cx_append l x m o n 0 (nI e1) d c1 a y hvc (lt64 hvc hn h45)) kX_51 dX_post_77 rfl rfl rfl rfl (Nat.le_of_ble_eq_true rfl) (fun h => by cases h) ⟨Nat.le_of_ble_eq_true rfl, Nat.le_of_ble_eq_true rfl⟩ ⟨Nat.le_of_ble_eq_true rfl, Nat.le_of_ble_eq_true rfl⟩ ?_
            refine zz_popi G dX_post_80 ?_
            refine zz_aload_n G dX_post_81 rfl ?_
            refine zz_dupa G dX_post_82 ?_
            refine zz_get (v := .int (nI e1)) G dX_post_83 flX_48 rfl (by rw [← hec]; rfl) ?_
            refine zz_iconst (v := 1) G dX_post_86 (by decide) ?_
            refine zz_iadd G dX_post_87 ?_
            refine zz_put (w' := (wx (sx_ec (xApp x n 0 (nI e1) d c1 a y) ((nI e1) + 1)) m o)) rfl G dX_post_88 flX_48 rfl rfl rfl (Nat.le_of_ble_eq_true rfl) rfl ?_
            refine zz_iload G dX_post_91 rfl ?_
            exact zz_iret G hret dX_post_93 (by rw [rPost, if_pos h1, if_neg h8, if_neg h15, if_neg h20, if_neg h28, if_neg h33, if_pos h45, if_pos h52, if_pos h59]) (Nat.le_of_ble_eq_true rfl) (Nat.le_of_ble_eq_true rfl)
set_option maxRecDepth 100000 in
set_option maxHeartbeats 4000000 in
theorem cx_correct (l : Launch) (hfl : l.flags = Jvm.pinnedFlags ++ [Jvm.noTraceFlag]) (x : XS) (m : MS) (o : Nat → Int64) (n : Nat) (en a : Int32) (hvc : fx_vc x = nI n) (hn : n ≤ 64) : zC l yX_correct (Jvm.Cond.code yX_correct bX_correct 4 (some .int) :: Tw) 4 false 0 0 [.ref 0, .int en, .int a] (wx x m o) (rCorr x m o n en a) := by
  refine zC_of [some (.ref 0), some (.int en), some (.int a), none] (by decide) rfl (Nat.le_of_ble_eq_true rfl) ?_
  intro p e s mm args below meth c D cI cJ as G hret hex hbd
  refine zz_aload_n G dX_correct_0 rfl ?_
  by_cases h1 : fx_tam x = 0
  rotate_left
  · exact zz_thrV (As := []) (rest := []) G (cx_refuseIfTampered_no l hfl x m o h1) kX_27 dX_correct_1 rfl rfl rfl rfl (Nat.le_of_ble_eq_true rfl) (fun _ => rfl) ⟨Nat.le_of_ble_eq_true rfl, Nat.le_of_ble_eq_true rfl⟩ ⟨Nat.le_of_ble_eq_true rfl, Nat.le_of_ble_eq_true rfl⟩ hex (by rw [rCorr, if_neg h1]; rfl) rfl rfl
  refine zz_callVv (w' := (wx x m o)) (As := []) (rest := []) G (cx_refuseIfTampered_ok l hfl x m o h1) kX_27 dX_correct_1 rfl rfl rfl rfl (Nat.le_of_ble_eq_true rfl) (fun _ => rfl) ⟨Nat.le_of_ble_eq_true rfl, Nat.le_of_ble_eq_true rfl⟩ ⟨Nat.le_of_ble_eq_true rfl, Nat.le_of_ble_eq_true rfl⟩ ?_
  refine zz_aload_n G dX_correct_4 rfl ?_
  refine zz_iload_n G dX_correct_5 rfl ?_
  rcases hq : sLast (fx_words x) en n with _ | u
  · exact zz_thrV (As := [.int en]) (rest := []) G (cx_vtr_no1 l hfl x m o n en hvc (hn) hq) kX_55 dX_correct_6 rfl rfl rfl rfl (Nat.le_of_ble_eq_true rfl) (fun _ => rfl) ⟨Nat.le_of_ble_eq_true rfl, Nat.le_of_ble_eq_true rfl⟩ ⟨Nat.le_of_ble_eq_true rfl, Nat.le_of_ble_eq_true rfl⟩ hex (by rw [rCorr, if_pos h1, hq]; rfl) rfl rfl
  by_cases hk2 : fx_words x (6 * u + 0) = 2
  · exact zz_thrV (As := [.int en]) (rest := []) G (cx_vtr_no2 l hfl x m o n en hvc (hn) hq hk2) kX_55 dX_correct_6 rfl rfl rfl rfl (Nat.le_of_ble_eq_true rfl) (fun _ => rfl) ⟨Nat.le_of_ble_eq_true rfl, Nat.le_of_ble_eq_true rfl⟩ ⟨Nat.le_of_ble_eq_true rfl, Nat.le_of_ble_eq_true rfl⟩ hex (by rw [rCorr, if_pos h1, hq]; show (if fx_words x (6 * u + 0) = 2 then _ else _) = _; rw [if_pos hk2]; rfl) rfl rfl
  refine zz_callVi (v := nI u) (w' := (wx x m o)) (As := [.int en]) (rest := []) G (cx_vtr_ok l hfl x m o n en hvc (hn) hq hk2) kX_55 dX_correct_6 rfl rfl rfl rfl (Nat.le_of_ble_eq_true rfl) (fun _ => rfl) ⟨Nat.le_of_ble_eq_true rfl, Nat.le_of_ble_eq_true rfl⟩ ⟨Nat.le_of_ble_eq_true rfl, Nat.le_of_ble_eq_true rfl⟩ ?_
  have hu : u < n := (mL_lt n hq).1
  refine zz_istore_n (lv' := [some (.ref 0), some (.int en), some (.int a), some (.int (nI u))]) G dX_correct_9 (Nat.le_of_ble_eq_true rfl) rfl ?_
  refine zz_iload_n G dX_correct_10 rfl ?_
  refine zz_iconst (v := 1) G dX_correct_11 (by decide) ?_
  refine zz_icmp_lt (tgt := 19) G dX_correct_12 rfl (fun h12 => ?_) (fun h12 => ?_)
  · refine zz_iconst (v := 0) G dX_correct_19 (by decide) ?_
    exact zz_thrS (As := [.int 0]) (rest := []) G (cx_refuseArgumentsUnless_no l hfl x m o 0 (fun z => z rfl)) kX_37 dX_correct_20 rfl rfl (Nat.le_of_ble_eq_true rfl) (fun _ => rfl) ⟨Nat.le_of_ble_eq_true rfl, Nat.le_of_ble_eq_true rfl⟩ ⟨Nat.le_of_ble_eq_true rfl, Nat.le_of_ble_eq_true rfl⟩ hex (by rw [rCorr, if_pos h1, hq]; show (if fx_words x (6 * u + 0) = 2 then _ else _) = _; rw [if_neg hk2, if_pos h12]; rfl) rfl rfl
  · refine zz_iconst (v := 1) G dX_correct_15 (by decide) ?_
    refine zz_goto (tgt := 20) G dX_correct_16 rfl ?_
    refine zz_callSv (w' := (wx x m o)) (As := [.int 1]) (rest := []) G (cx_refuseArgumentsUnless_ok l hfl x m o 1 (by decide)) kX_37 dX_correct_20 rfl rfl (Nat.le_of_ble_eq_true rfl) (fun _ => rfl) ⟨Nat.le_of_ble_eq_true rfl, Nat.le_of_ble_eq_true rfl⟩ ⟨Nat.le_of_ble_eq_true rfl, Nat.le_of_ble_eq_true rfl⟩ ?_
    refine zz_aload_n G dX_correct_23 rfl ?_
    by_cases h24 : fx_vc x < 64
    rotate_left
    · exact zz_thrV (As := []) (rest := []) G (cx_refuseIfFull_no l hfl x m o h24) kX_41 dX_correct_24 rfl rfl rfl rfl (Nat.le_of_ble_eq_true rfl) (fun _ => rfl) ⟨Nat.le_of_ble_eq_true rfl, Nat.le_of_ble_eq_true rfl⟩ ⟨Nat.le_of_ble_eq_true rfl, Nat.le_of_ble_eq_true rfl⟩ hex (by rw [rCorr, if_pos h1, hq]; show (if fx_words x (6 * u + 0) = 2 then _ else _) = _; rw [if_neg hk2, if_neg h12, if_neg h24]; rfl) rfl rfl
    refine zz_callVv (w' := (wx x m o)) (As := []) (rest := []) G (cx_refuseIfFull_ok l hfl x m o h24) kX_41 dX_correct_24 rfl rfl rfl rfl (Nat.le_of_ble_eq_true rfl) (fun _ => rfl) ⟨Nat.le_of_ble_eq_true rfl, Nat.le_of_ble_eq_true rfl⟩ ⟨Nat.le_of_ble_eq_true rfl, Nat.le_of_ble_eq_true rfl⟩ ?_
    refine zz_aload_n G dX_correct_27 rfl ?_
    refine zz_aload_n G dX_correct_28 rfl ?_
    refine zz_iload_n G dX_correct_29 rfl ?_
    refine zz_iconst (v := 2) G dX_correct_30 (by decide) ?_
    refine zz_callVi (v := fx_words x (6 * u + 2)) (w' := (wx x m o)) (As := [.int (nI u), .int 2]) (rest := [.ref 0]) G (cx_word l x m o u 2 _ _ rfl rfl (by omega) (by decide)) kX_59 dX_correct_31 rfl rfl rfl rfl (Nat.le_of_ble_eq_true rfl) (fun _ => rfl) ⟨Nat.le_of_ble_eq_true rfl, Nat.le_of_ble_eq_true rfl⟩ ⟨Nat.le_of_ble_eq_true rfl, Nat.le_of_ble_eq_true rfl⟩ ?_
    refine zz_aload_n G dX_correct_34 rfl ?_
    refine zz_iload_n G dX_correct_35 rfl ?_
    refine zz_iconst (v := 4) G dX_correct_36 (by decide) ?_
    refine zz_callVi (v := fx_words x (6 * u + 4)) (w' := (wx x m o)) (As := [.int (nI u), .int 4]) (rest := [.int (fx_words x (6 * u + 2)), .ref 0]) G (cx_word l x m o u 4 _ _ rfl rfl (by omega) (by decide)) kX_59 dX_correct_37 rfl rfl rfl rfl (Nat.le_of_ble_eq_true rfl) (fun _ => rfl) ⟨Nat.le_of_ble_eq_true rfl, Nat.le_of_ble_eq_true rfl⟩ ⟨Nat.le_of_ble_eq_true rfl, Nat.le_of_ble_eq_true rfl⟩ ?_
    refine zz_iload_n G dX_correct_40 rfl ?_
    by_cases h41 : sOver x n (fx_words x (6 * u + 2)) (fx_words x (6 * u + 4)) a ≤ 0
    rotate_left
    · exact zz_thrV (As := [.int (fx_words x (6 * u + 2)), .int (fx_words x (6 * u + 4)), .int a]) (rest := []) G (cx_refuseIfTurnoverTooHigh_no l hfl x m o n (fx_words x (6 * u + 2)) (fx_words x (6 * u + 4)) a hvc (hn) h41) kX_44 dX_correct_41 rfl rfl rfl rfl (Nat.le_of_ble_eq_true rfl) (fun _ => rfl) ⟨Nat.le_of_ble_eq_true rfl, Nat.le_of_ble_eq_true rfl⟩ ⟨Nat.le_of_ble_eq_true rfl, Nat.le_of_ble_eq_true rfl⟩ hex (by rw [rCorr, if_pos h1, hq]; show (if fx_words x (6 * u + 0) = 2 then _ else _) = _; rw [if_neg hk2, if_neg h12, if_pos h24, if_neg h41]; rfl) rfl rfl
    refine zz_callVv (w' := (wx x m o)) (As := [.int (fx_words x (6 * u + 2)), .int (fx_words x (6 * u + 4)), .int a]) (rest := []) G (cx_refuseIfTurnoverTooHigh_ok l hfl x m o n (fx_words x (6 * u + 2)) (fx_words x (6 * u + 4)) a hvc (hn) h41) kX_44 dX_correct_41 rfl rfl rfl rfl (Nat.le_of_ble_eq_true rfl) (fun _ => rfl) ⟨Nat.le_of_ble_eq_true rfl, Nat.le_of_ble_eq_true rfl⟩ ⟨Nat.le_of_ble_eq_true rfl, Nat.le_of_ble_eq_true rfl⟩ ?_
    refine zz_aload_n G dX_correct_44 rfl ?_
    refine zz_aload_n G dX_correct_45 rfl ?_
    refine zz_iload_n G dX_correct_46 rfl ?_
    refine zz_iconst (v := 3) G dX_correct_47 (by decide) ?_
    refine zz_callVi (v := fx_words x (6 * u + 3)) (w' := (wx x m o)) (As := [.int (nI u), .int 3]) (rest := [.ref 0]) G (cx_word l x m o u 3 _ _ rfl rfl (by omega) (by decide)) kX_59 dX_correct_48 rfl rfl rfl rfl (Nat.le_of_ble_eq_true rfl) (fun _ => rfl) ⟨Nat.le_of_ble_eq_true rfl, Nat.le_of_ble_eq_true rfl⟩ ⟨Nat.le_of_ble_eq_true rfl, Nat.le_of_ble_eq_true rfl⟩ ?_
    refine zz_aload_n G dX_correct_51 rfl ?_
    refine zz_iload_n G dX_correct_52 rfl ?_
    refine zz_iconst (v := 4) G dX_correct_53 (by decide) ?_
    refine zz_callVi (v := fx_words x (6 * u + 4)) (w' := (wx x m o)) (As := [.int (nI u), .int 4]) (rest := [.int (fx_words x (6 * u + 3)), .ref 0]) G (cx_word l x m o u 4 _ _ rfl rfl (by omega) (by decide)) kX_59 dX_correct_54 rfl rfl rfl rfl (Nat.le_of_ble_eq_true rfl) (fun _ => rfl) ⟨Nat.le_of_ble_eq_true rfl, Nat.le_of_ble_eq_true rfl⟩ ⟨Nat.le_of_ble_eq_true rfl, Nat.le_of_ble_eq_true rfl⟩ ?_
    refine zz_iload_n G dX_correct_57 rfl ?_
    by_cases h58 : sOver x n (fx_words x (6 * u + 3)) (fx_words x (6 * u + 4)) a ≤ 0
    rotate_left
    · exact zz_thrV (As := [.int (fx_words x (6 * u + 3)), .int (fx_words x (6 * u + 4)), .int a]) (rest := []) G (cx_refuseIfTurnoverTooHigh_no l hfl x m o n (fx_words x (6 * u + 3)) (fx_words x (6 * u + 4)) a hvc (hn) h58) kX_44 dX_correct_58 rfl rfl rfl rfl (Nat.le_of_ble_eq_true rfl) (fun _ => rfl) ⟨Nat.le_of_ble_eq_true rfl, Nat.le_of_ble_eq_true rfl⟩ ⟨Nat.le_of_ble_eq_true rfl, Nat.le_of_ble_eq_true rfl⟩ hex (by rw [rCorr, if_pos h1, hq]; show (if fx_words x (6 * u + 0) = 2 then _ else _) = _; rw [if_neg hk2, if_neg h12, if_pos h24, if_pos h41, if_neg h58]; rfl) rfl rfl
    refine zz_callVv (w' := (wx x m o)) (As := [.int (fx_words x (6 * u + 3)), .int (fx_words x (6 * u + 4)), .int a]) (rest := []) G (cx_refuseIfTurnoverTooHigh_ok l hfl x m o n (fx_words x (6 * u + 3)) (fx_words x (6 * u + 4)) a hvc (hn) h58) kX_44 dX_correct_58 rfl rfl rfl rfl (Nat.le_of_ble_eq_true rfl) (fun _ => rfl) ⟨Nat.le_of_ble_eq_true rfl, Nat.le_of_ble_eq_true rfl⟩ ⟨Nat.le_of_ble_eq_true rfl, Nat.le_of_ble_eq_true rfl⟩ ?_
    refine zz_aload_n G dX_correct_61 rfl ?_
    refine zz_iload_n G dX_correct_62 rfl ?_
    refine zz_iconst (v := 1) G dX_correct_63 (by decide) ?_
    refine zz_iload_n G dX_correct_64 rfl ?_
    refine zz_callVi (v := nI n) (w' := (wx (xRep x n u 1 a) m o)) (As := [.int (nI u), .int 1, .int a]) (rest := []) G (cx_replace l x m o n u _ 1 a rfl (by omega) hvc (lt64 hvc hn h24)) kX_63 dX_correct_65 rfl rfl rfl rfl (Nat.le_of_ble_eq_true rfl) (fun h => by cases h) ⟨Nat.le_of_ble_eq_true rfl, Nat.le_of_ble_eq_true rfl⟩ ⟨Nat.le_of_ble_eq_true rfl, Nat.le_of_ble_eq_true rfl⟩ ?_
    exact zz_iret G hret dX_correct_68 (by rw [rCorr, if_pos h1, hq]; show (if fx_words x (6 * u + 0) = 2 then _ else _) = _; rw [if_neg hk2, if_neg h12, if_pos h24, if_pos h41, if_pos h58]) (Nat.le_of_ble_eq_true rfl) (Nat.le_of_ble_eq_true rfl)
set_option maxRecDepth 100000 in
set_option maxHeartbeats 4000000 in
theorem cx_annul (l : Launch) (hfl : l.flags = Jvm.pinnedFlags ++ [Jvm.noTraceFlag]) (x : XS) (m : MS) (o : Nat → Int64) (n : Nat) (en : Int32) (hvc : fx_vc x = nI n) (hn : n ≤ 64) : zC l yX_annul (Jvm.Cond.code yX_annul bX_annul 3 (some .int) :: Tw) 4 false 0 0 [.ref 0, .int en] (wx x m o) (rAnn x m o n en) := by
  refine zC_of [some (.ref 0), some (.int en), none] (by decide) rfl (Nat.le_of_ble_eq_true rfl) ?_
  intro p e s mm args below meth c D cI cJ as G hret hex hbd
  refine zz_aload_n G dX_annul_0 rfl ?_
  by_cases h1 : fx_tam x = 0
  rotate_left
  · exact zz_thrV (As := []) (rest := []) G (cx_refuseIfTampered_no l hfl x m o h1) kX_27 dX_annul_1 rfl rfl rfl rfl (Nat.le_of_ble_eq_true rfl) (fun _ => rfl) ⟨Nat.le_of_ble_eq_true rfl, Nat.le_of_ble_eq_true rfl⟩ ⟨Nat.le_of_ble_eq_true rfl, Nat.le_of_ble_eq_true rfl⟩ hex (by rw [rAnn, if_neg h1]; rfl) rfl rfl
  refine zz_callVv (w' := (wx x m o)) (As := []) (rest := []) G (cx_refuseIfTampered_ok l hfl x m o h1) kX_27 dX_annul_1 rfl rfl rfl rfl (Nat.le_of_ble_eq_true rfl) (fun _ => rfl) ⟨Nat.le_of_ble_eq_true rfl, Nat.le_of_ble_eq_true rfl⟩ ⟨Nat.le_of_ble_eq_true rfl, Nat.le_of_ble_eq_true rfl⟩ ?_
  refine zz_aload_n G dX_annul_4 rfl ?_
  refine zz_iload_n G dX_annul_5 rfl ?_
  rcases hq : sLast (fx_words x) en n with _ | u
  · exact zz_thrV (As := [.int en]) (rest := []) G (cx_vtr_no1 l hfl x m o n en hvc (hn) hq) kX_55 dX_annul_6 rfl rfl rfl rfl (Nat.le_of_ble_eq_true rfl) (fun _ => rfl) ⟨Nat.le_of_ble_eq_true rfl, Nat.le_of_ble_eq_true rfl⟩ ⟨Nat.le_of_ble_eq_true rfl, Nat.le_of_ble_eq_true rfl⟩ hex (by rw [rAnn, if_pos h1, hq]; rfl) rfl rfl
  by_cases hk2 : fx_words x (6 * u + 0) = 2
  · exact zz_thrV (As := [.int en]) (rest := []) G (cx_vtr_no2 l hfl x m o n en hvc (hn) hq hk2) kX_55 dX_annul_6 rfl rfl rfl rfl (Nat.le_of_ble_eq_true rfl) (fun _ => rfl) ⟨Nat.le_of_ble_eq_true rfl, Nat.le_of_ble_eq_true rfl⟩ ⟨Nat.le_of_ble_eq_true rfl, Nat.le_of_ble_eq_true rfl⟩ hex (by rw [rAnn, if_pos h1, hq]; show (if fx_words x (6 * u + 0) = 2 then _ else _) = _; rw [if_pos hk2]; rfl) rfl rfl
  refine zz_callVi (v := nI u) (w' := (wx x m o)) (As := [.int en]) (rest := []) G (cx_vtr_ok l hfl x m o n en hvc (hn) hq hk2) kX_55 dX_annul_6 rfl rfl rfl rfl (Nat.le_of_ble_eq_true rfl) (fun _ => rfl) ⟨Nat.le_of_ble_eq_true rfl, Nat.le_of_ble_eq_true rfl⟩ ⟨Nat.le_of_ble_eq_true rfl, Nat.le_of_ble_eq_true rfl⟩ ?_
  have hu : u < n := (mL_lt n hq).1
  refine zz_istore_n (lv' := [some (.ref 0), some (.int en), some (.int (nI u))]) G dX_annul_9 (Nat.le_of_ble_eq_true rfl) rfl ?_
  refine zz_aload_n G dX_annul_10 rfl ?_
  by_cases h11 : fx_vc x < 64
  rotate_left
  · exact zz_thrV (As := []) (rest := []) G (cx_refuseIfFull_no l hfl x m o h11) kX_41 dX_annul_11 rfl rfl rfl rfl (Nat.le_of_ble_eq_true rfl) (fun _ => rfl) ⟨Nat.le_of_ble_eq_true rfl, Nat.le_of_ble_eq_true rfl⟩ ⟨Nat.le_of_ble_eq_true rfl, Nat.le_of_ble_eq_true rfl⟩ hex (by rw [rAnn, if_pos h1, hq]; show (if fx_words x (6 * u + 0) = 2 then _ else _) = _; rw [if_neg hk2, if_neg h11]; rfl) rfl rfl
  refine zz_callVv (w' := (wx x m o)) (As := []) (rest := []) G (cx_refuseIfFull_ok l hfl x m o h11) kX_41 dX_annul_11 rfl rfl rfl rfl (Nat.le_of_ble_eq_true rfl) (fun _ => rfl) ⟨Nat.le_of_ble_eq_true rfl, Nat.le_of_ble_eq_true rfl⟩ ⟨Nat.le_of_ble_eq_true rfl, Nat.le_of_ble_eq_true rfl⟩ ?_
  refine zz_aload_n G dX_annul_14 rfl ?_
  refine zz_iload_n G dX_annul_15 rfl ?_
  refine zz_iconst (v := 2) G dX_annul_16 (by decide) ?_
  refine zz_iconst (v := 0) G dX_annul_17 (by decide) ?_
  refine zz_callVi (v := nI n) (w' := (wx (xRep x n u 2 0) m o)) (As := [.int (nI u), .int 2, .int 0]) (rest := []) G (cx_replace l x m o n u _ 2 0 rfl (by omega) hvc (lt64 hvc hn h11)) kX_63 dX_annul_18 rfl rfl rfl rfl (Nat.le_of_ble_eq_true rfl) (fun h => by cases h) ⟨Nat.le_of_ble_eq_true rfl, Nat.le_of_ble_eq_true rfl⟩ ⟨Nat.le_of_ble_eq_true rfl, Nat.le_of_ble_eq_true rfl⟩ ?_
  exact zz_iret G hret dX_annul_21 (by rw [rAnn, if_pos h1, hq]; show (if fx_words x (6 * u + 0) = 2 then _ else _) = _; rw [if_neg hk2, if_pos h11]) (Nat.le_of_ble_eq_true rfl) (Nat.le_of_ble_eq_true rfl)
set_option maxRecDepth 100000 in
set_option maxHeartbeats 4000000 in
theorem cx_balance (l : Launch) (hfl : l.flags = Jvm.pinnedFlags ++ [Jvm.noTraceFlag]) (x : XS) (m : MS) (o : Nat → Int64) (n : Nat) (a d it : Int32) (hvc : fx_vc x = nI n) (hn : n ≤ 64) : zC l yX_balance (Jvm.Cond.code yX_balance bX_balance 4 (some .int) :: Tw) 3 true 0 0 [.ref 0, .int a, .int d, .int it] (wx x m o) (rBal x m o a d it) := by
  refine zC_of [some (.ref 0), some (.int a), some (.int d), some (.int it)] (by decide) rfl (Nat.le_of_ble_eq_true rfl) ?_
  intro p e s mm args below meth c D cI cJ as G hret hex hbd
  refine zz_aload_n G dX_balance_0 rfl ?_
  by_cases h1 : fx_tam x = 0
  rotate_left
  · exact zz_thrV (As := []) (rest := []) G (cx_refuseIfTampered_no l hfl x m o h1) kX_27 dX_balance_1 rfl rfl rfl rfl (Nat.le_of_ble_eq_true rfl) (fun _ => rfl) ⟨Nat.le_of_ble_eq_true rfl, Nat.le_of_ble_eq_true rfl⟩ ⟨Nat.le_of_ble_eq_true rfl, Nat.le_of_ble_eq_true rfl⟩ hex (by rw [rBal, if_neg h1]; rfl) rfl rfl
  refine zz_callVv (w' := (wx x m o)) (As := []) (rest := []) G (cx_refuseIfTampered_ok l hfl x m o h1) kX_27 dX_balance_1 rfl rfl rfl rfl (Nat.le_of_ble_eq_true rfl) (fun _ => rfl) ⟨Nat.le_of_ble_eq_true rfl, Nat.le_of_ble_eq_true rfl⟩ ⟨Nat.le_of_ble_eq_true rfl, Nat.le_of_ble_eq_true rfl⟩ ?_
  refine zz_iload_n G dX_balance_4 rfl ?_
  refine zz_callSi (v := sAcc a) (w' := (wx x m o)) (As := [.int a]) (rest := []) G (cx_isAccount l x m o a) kX_30 dX_balance_5 rfl rfl (Nat.le_of_ble_eq_true rfl) (fun _ => rfl) ⟨Nat.le_of_ble_eq_true rfl, Nat.le_of_ble_eq_true rfl⟩ ⟨Nat.le_of_ble_eq_true rfl, Nat.le_of_ble_eq_true rfl⟩ ?_
  refine zz_if_eq (tgt := 30) G dX_balance_8 rfl (fun h8 => ?_) (fun h8 => ?_)
  · refine zz_iconst (v := 0) G dX_balance_30 (by decide) ?_
    exact zz_thrS (As := [.int 0]) (rest := []) G (cx_refuseArgumentsUnless_no l hfl x m o 0 (fun z => z rfl)) kX_37 dX_balance_31 rfl rfl (Nat.le_of_ble_eq_true rfl) (fun _ => rfl) ⟨Nat.le_of_ble_eq_true rfl, Nat.le_of_ble_eq_true rfl⟩ ⟨Nat.le_of_ble_eq_true rfl, Nat.le_of_ble_eq_true rfl⟩ hex (by rw [rBal, if_pos h1, if_pos h8]; rfl) rfl rfl
  · refine zz_iload_n G dX_balance_11 rfl ?_
    refine zz_callSi (v := sDay d) (w' := (wx x m o)) (As := [.int d]) (rest := []) G (cx_isDay l x m o d) kX_34 dX_balance_12 rfl rfl (Nat.le_of_ble_eq_true rfl) (fun _ => rfl) ⟨Nat.le_of_ble_eq_true rfl, Nat.le_of_ble_eq_true rfl⟩ ⟨Nat.le_of_ble_eq_true rfl, Nat.le_of_ble_eq_true rfl⟩ ?_
    refine zz_if_eq (tgt := 30) G dX_balance_15 rfl (fun h15 => ?_) (fun h15 => ?_)
    · refine zz_iconst (v := 0) G dX_balance_30 (by decide) ?_
      exact zz_thrS (As := [.int 0]) (rest := []) G (cx_refuseArgumentsUnless_no l hfl x m o 0 (fun z => z rfl)) kX_37 dX_balance_31 rfl rfl (Nat.le_of_ble_eq_true rfl) (fun _ => rfl) ⟨Nat.le_of_ble_eq_true rfl, Nat.le_of_ble_eq_true rfl⟩ ⟨Nat.le_of_ble_eq_true rfl, Nat.le_of_ble_eq_true rfl⟩ hex (by rw [rBal, if_pos h1, if_neg h8, if_pos h15]; rfl) rfl rfl
    · refine zz_aload_n G dX_balance_18 rfl ?_
      refine zz_iload_n G dX_balance_19 rfl ?_
      refine zz_callVi (v := sTime (fx_vc x) it) (w' := (wx x m o)) (As := [.int it]) (rest := []) G (cx_isTime l x m o it) kX_67 dX_balance_20 rfl rfl rfl rfl (Nat.le_of_ble_eq_true rfl) (fun _ => rfl) ⟨Nat.le_of_ble_eq_true rfl, Nat.le_of_ble_eq_true rfl⟩ ⟨Nat.le_of_ble_eq_true rfl, Nat.le_of_ble_eq_true rfl⟩ ?_
      refine zz_if_eq (tgt := 30) G dX_balance_23 rfl (fun h23 => ?_) (fun h23 => ?_)
      · refine zz_iconst (v := 0) G dX_balance_30 (by decide) ?_
        exact zz_thrS (As := [.int 0]) (rest := []) G (cx_refuseArgumentsUnless_no l hfl x m o 0 (fun z => z rfl)) kX_37 dX_balance_31 rfl rfl (Nat.le_of_ble_eq_true rfl) (fun _ => rfl) ⟨Nat.le_of_ble_eq_true rfl, Nat.le_of_ble_eq_true rfl⟩ ⟨Nat.le_of_ble_eq_true rfl, Nat.le_of_ble_eq_true rfl⟩ hex (by rw [rBal, if_pos h1, if_neg h8, if_neg h15, if_pos h23]; rfl) rfl rfl
      · obtain ⟨t, ht, rfl⟩ := sTime_of hn (by rw [← hvc]; exact h23)
        refine zz_iconst (v := 1) G dX_balance_26 (by decide) ?_
        refine zz_goto (tgt := 31) G dX_balance_27 rfl ?_
        refine zz_callSv (w' := (wx x m o)) (As := [.int 1]) (rest := []) G (cx_refuseArgumentsUnless_ok l hfl x m o 1 (by decide)) kX_37 dX_balance_31 rfl rfl (Nat.le_of_ble_eq_true rfl) (fun _ => rfl) ⟨Nat.le_of_ble_eq_true rfl, Nat.le_of_ble_eq_true rfl⟩ ⟨Nat.le_of_ble_eq_true rfl, Nat.le_of_ble_eq_true rfl⟩ ?_
        refine zz_aload_n G dX_balance_34 rfl ?_
        refine zz_iload_n G dX_balance_35 rfl ?_
        refine zz_iload_n G dX_balance_36 rfl ?_
        refine zz_iload_n G dX_balance_37 rfl ?_
        refine zz_callVi (v := cBal (fx_words x) (fx_rep x) a d (nI t) t) (w' := (wx x m o)) (As := [.int a, .int d, .int (nI t)]) (rest := []) G (cx_balanceOf l x m o a d _ t rfl (by omega)) kX_70 dX_balance_38 rfl rfl rfl rfl (Nat.le_of_ble_eq_true rfl) (fun _ => rfl) ⟨Nat.le_of_ble_eq_true rfl, Nat.le_of_ble_eq_true rfl⟩ ⟨Nat.le_of_ble_eq_true rfl, Nat.le_of_ble_eq_true rfl⟩ ?_
        exact zz_iret G hret dX_balance_41 (by rw [rBal, if_pos h1, if_neg h8, if_neg h15, if_neg h23, nI_clamp (show t < 2 ^ 31 by omega)]) (Nat.le_of_ble_eq_true rfl) (Nat.le_of_ble_eq_true rfl)
set_option maxRecDepth 100000 in
set_option maxHeartbeats 4000000 in
theorem cx_trial (l : Launch) (hfl : l.flags = Jvm.pinnedFlags ++ [Jvm.noTraceFlag]) (x : XS) (m : MS) (o : Nat → Int64) (n : Nat) (d it : Int32) (hvc : fx_vc x = nI n) (hn : n ≤ 64) : zC l yX_trial (Jvm.Cond.code yX_trial bX_trial 5 (some .int) :: Tw) 3 true 0 0 [.ref 0, .int d, .int it] (wx x m o) (rTrial x m o d it) := by
  refine zC_of [some (.ref 0), some (.int d), some (.int it), none, none] (by decide) rfl (Nat.le_of_ble_eq_true rfl) ?_
  intro p e s mm args below meth c D cI cJ as G hret hex hbd
  refine zz_aload_n G dX_trial_0 rfl ?_
  by_cases h1 : fx_tam x = 0
  rotate_left
  · exact zz_thrV (As := []) (rest := []) G (cx_refuseIfTampered_no l hfl x m o h1) kX_27 dX_trial_1 rfl rfl rfl rfl (Nat.le_of_ble_eq_true rfl) (fun _ => rfl) ⟨Nat.le_of_ble_eq_true rfl, Nat.le_of_ble_eq_true rfl⟩ ⟨Nat.le_of_ble_eq_true rfl, Nat.le_of_ble_eq_true rfl⟩ hex (by rw [rTrial, if_neg h1]; rfl) rfl rfl
  refine zz_callVv (w' := (wx x m o)) (As := []) (rest := []) G (cx_refuseIfTampered_ok l hfl x m o h1) kX_27 dX_trial_1 rfl rfl rfl rfl (Nat.le_of_ble_eq_true rfl) (fun _ => rfl) ⟨Nat.le_of_ble_eq_true rfl, Nat.le_of_ble_eq_true rfl⟩ ⟨Nat.le_of_ble_eq_true rfl, Nat.le_of_ble_eq_true rfl⟩ ?_
  refine zz_iload_n G dX_trial_4 rfl ?_
  refine zz_callSi (v := sDay d) (w' := (wx x m o)) (As := [.int d]) (rest := []) G (cx_isDay l x m o d) kX_34 dX_trial_5 rfl rfl (Nat.le_of_ble_eq_true rfl) (fun _ => rfl) ⟨Nat.le_of_ble_eq_true rfl, Nat.le_of_ble_eq_true rfl⟩ ⟨Nat.le_of_ble_eq_true rfl, Nat.le_of_ble_eq_true rfl⟩ ?_
  refine zz_if_eq (tgt := 23) G dX_trial_8 rfl (fun h8 => ?_) (fun h8 => ?_)
  · refine zz_iconst (v := 0) G dX_trial_23 (by decide) ?_
    exact zz_thrS (As := [.int 0]) (rest := []) G (cx_refuseArgumentsUnless_no l hfl x m o 0 (fun z => z rfl)) kX_37 dX_trial_24 rfl rfl (Nat.le_of_ble_eq_true rfl) (fun _ => rfl) ⟨Nat.le_of_ble_eq_true rfl, Nat.le_of_ble_eq_true rfl⟩ ⟨Nat.le_of_ble_eq_true rfl, Nat.le_of_ble_eq_true rfl⟩ hex (by rw [rTrial, if_pos h1, if_pos h8]; rfl) rfl rfl
  · refine zz_aload_n G dX_trial_11 rfl ?_
    refine zz_iload_n G dX_trial_12 rfl ?_
    refine zz_callVi (v := sTime (fx_vc x) it) (w' := (wx x m o)) (As := [.int it]) (rest := []) G (cx_isTime l x m o it) kX_67 dX_trial_13 rfl rfl rfl rfl (Nat.le_of_ble_eq_true rfl) (fun _ => rfl) ⟨Nat.le_of_ble_eq_true rfl, Nat.le_of_ble_eq_true rfl⟩ ⟨Nat.le_of_ble_eq_true rfl, Nat.le_of_ble_eq_true rfl⟩ ?_
    refine zz_if_eq (tgt := 23) G dX_trial_16 rfl (fun h16 => ?_) (fun h16 => ?_)
    · refine zz_iconst (v := 0) G dX_trial_23 (by decide) ?_
      exact zz_thrS (As := [.int 0]) (rest := []) G (cx_refuseArgumentsUnless_no l hfl x m o 0 (fun z => z rfl)) kX_37 dX_trial_24 rfl rfl (Nat.le_of_ble_eq_true rfl) (fun _ => rfl) ⟨Nat.le_of_ble_eq_true rfl, Nat.le_of_ble_eq_true rfl⟩ ⟨Nat.le_of_ble_eq_true rfl, Nat.le_of_ble_eq_true rfl⟩ hex (by rw [rTrial, if_pos h1, if_neg h8, if_pos h16]; rfl) rfl rfl
    · obtain ⟨t, ht, rfl⟩ := sTime_of hn (by rw [← hvc]; exact h16)
      have loop : ∀ (j k : Nat), k + j = 16 → Z p l e (zrm 3) s mm args below meth c 5 D cI cJ as true 0 0 (zMQ below (rTrial x m o d (nI t)) D cI cJ as true s 0 0) 32 [some (.ref 0), some (.int d), some (.int (nI t)), some (.int (cTrial (fx_words x) (fx_rep x) d t k)), some (.int (nI k))] [] (wx x m o) := by
        intro j
        induction j with
        | zero =>
          intro k hk
          have hk : k = 16 := by omega
          subst hk
          refine zz_iload G dX_trial_32 rfl ?_
          refine zz_bipush (v := 16) G dX_trial_34 (by decide) ?_
          refine zz_icmp_ge (tgt := 56) G dX_trial_36 rfl (fun h36 => ?_) (fun h36 => (h36 (by decide)).elim)
          refine zz_iload_n G dX_trial_56 rfl ?_
          exact zz_iret G hret dX_trial_57 (by rw [rTrial, if_pos h1, if_neg h8, if_neg h16, nI_clamp (show t < 2 ^ 31 by omega)]) (Nat.le_of_ble_eq_true rfl) (Nat.le_of_ble_eq_true rfl)
        | succ j ih =>
          intro k hk
          refine zz_iload G dX_trial_32 rfl ?_
          refine zz_bipush (v := 16) G dX_trial_34 (by decide) ?_
          refine zz_icmp_ge (tgt := 56) G dX_trial_36 rfl (fun h36 => (nI_ge (show k < 16 by omega) (by decide) h36).elim) (fun h36 => ?_)
          refine zz_iload_n G dX_trial_39 rfl ?_
          refine zz_aload_n G dX_trial_40 rfl ?_
          refine zz_iload G dX_trial_41 rfl ?_
          refine zz_iload_n G dX_trial_43 rfl ?_
          refine zz_iload_n G dX_trial_44 rfl ?_
          refine zz_callVi (v := cBal (fx_words x) (fx_rep x) (nI k) d (nI t) t) (w' := (wx x m o)) (As := [.int (nI k), .int d, .int (nI t)]) (rest := [.int (cTrial (fx_words x) (fx_rep x) d t k)]) G (cx_balanceOf l x m o (nI k) d _ t rfl (by omega)) kX_70 dX_trial_45 rfl rfl rfl rfl (Nat.le_of_ble_eq_true rfl) (fun _ => rfl) ⟨Nat.le_of_ble_eq_true rfl, Nat.le_of_ble_eq_true rfl⟩ ⟨Nat.le_of_ble_eq_true rfl, Nat.le_of_ble_eq_true rfl⟩ ?_
          refine zz_iadd G dX_trial_48 ?_
          refine zz_istore_n (lv' := [some (.ref 0), some (.int d), some (.int (nI t)), some (.int ((cTrial (fx_words x) (fx_rep x) d t k) + (cBal (fx_words x) (fx_rep x) (nI k) d (nI t) t))), some (.int (nI k))]) G dX_trial_49 (Nat.le_of_ble_eq_true rfl) rfl ?_
          refine zz_iinc (v := nI (k + 1)) (lv' := [some (.ref 0), some (.int d), some (.int (nI t)), some (.int ((cTrial (fx_words x) (fx_rep x) d t k) + (cBal (fx_words x) (fx_rep x) (nI k) d (nI t) t))), some (.int (nI (k + 1)))]) G dX_trial_50 rfl (by rw [nI_succ]; rfl) rfl ?_
          refine zz_goto (tgt := 32) G dX_trial_53 rfl ?_
          refine zz_eq (lv' := [some (.ref 0), some (.int d), some (.int (nI t)), some (.int (cTrial (fx_words x) (fx_rep x) d t (k + 1))), some (.int (nI (k + 1)))]) rfl rfl rfl rfl ?_
          exact ih (k + 1) (by omega)
      refine zz_iconst (v := 1) G dX_trial_19 (by decide) ?_
      refine zz_goto (tgt := 24) G dX_trial_20 rfl ?_
      refine zz_callSv (w' := (wx x m o)) (As := [.int 1]) (rest := []) G (cx_refuseArgumentsUnless_ok l hfl x m o 1 (by decide)) kX_37 dX_trial_24 rfl rfl (Nat.le_of_ble_eq_true rfl) (fun _ => rfl) ⟨Nat.le_of_ble_eq_true rfl, Nat.le_of_ble_eq_true rfl⟩ ⟨Nat.le_of_ble_eq_true rfl, Nat.le_of_ble_eq_true rfl⟩ ?_
      refine zz_iconst (v := 0) G dX_trial_27 (by decide) ?_
      refine zz_istore_n (lv' := [some (.ref 0), some (.int d), some (.int (nI t)), some (.int 0), none]) G dX_trial_28 (Nat.le_of_ble_eq_true rfl) rfl ?_
      refine zz_iconst (v := 0) G dX_trial_29 (by decide) ?_
      refine zz_istore (lv' := [some (.ref 0), some (.int d), some (.int (nI t)), some (.int 0), some (.int 0)]) G dX_trial_30 (Nat.le_of_ble_eq_true rfl) rfl ?_
      exact loop 16 0 (by omega)
set_option maxRecDepth 100000 in
set_option maxHeartbeats 4000000 in
theorem cx_turnover (l : Launch) (hfl : l.flags = Jvm.pinnedFlags ++ [Jvm.noTraceFlag]) (x : XS) (m : MS) (o : Nat → Int64) (n : Nat) (a : Int32) (hvc : fx_vc x = nI n) (hn : n ≤ 64) : zC l yX_turnover (Jvm.Cond.code yX_turnover bX_turnover 2 (some .int) :: Tw) 3 true 0 0 [.ref 0, .int a] (wx x m o) (rTurn x m o n a) := by
  refine zC_of [some (.ref 0), some (.int a)] (by decide) rfl (Nat.le_of_ble_eq_true rfl) ?_
  intro p e s mm args below meth c D cI cJ as G hret hex hbd
  refine zz_aload_n G dX_turnover_0 rfl ?_
  by_cases h1 : fx_tam x = 0
  rotate_left
  · exact zz_thrV (As := []) (rest := []) G (cx_refuseIfTampered_no l hfl x m o h1) kX_27 dX_turnover_1 rfl rfl rfl rfl (Nat.le_of_ble_eq_true rfl) (fun _ => rfl) ⟨Nat.le_of_ble_eq_true rfl, Nat.le_of_ble_eq_true rfl⟩ ⟨Nat.le_of_ble_eq_true rfl, Nat.le_of_ble_eq_true rfl⟩ hex (by rw [rTurn, if_neg h1]; rfl) rfl rfl
  refine zz_callVv (w' := (wx x m o)) (As := []) (rest := []) G (cx_refuseIfTampered_ok l hfl x m o h1) kX_27 dX_turnover_1 rfl rfl rfl rfl (Nat.le_of_ble_eq_true rfl) (fun _ => rfl) ⟨Nat.le_of_ble_eq_true rfl, Nat.le_of_ble_eq_true rfl⟩ ⟨Nat.le_of_ble_eq_true rfl, Nat.le_of_ble_eq_true rfl⟩ ?_
  refine zz_iload_n G dX_turnover_4 rfl ?_
  refine zz_callSi (v := sAcc a) (w' := (wx x m o)) (As := [.int a]) (rest := []) G (cx_isAccount l x m o a) kX_30 dX_turnover_5 rfl rfl (Nat.le_of_ble_eq_true rfl) (fun _ => rfl) ⟨Nat.le_of_ble_eq_true rfl, Nat.le_of_ble_eq_true rfl⟩ ⟨Nat.le_of_ble_eq_true rfl, Nat.le_of_ble_eq_true rfl⟩ ?_
  by_cases h8 : ¬ sAcc a = 0
  rotate_left
  · exact zz_thrS (As := [.int (sAcc a)]) (rest := []) G (cx_refuseArgumentsUnless_no l hfl x m o (sAcc a) h8) kX_37 dX_turnover_8 rfl rfl (Nat.le_of_ble_eq_true rfl) (fun _ => rfl) ⟨Nat.le_of_ble_eq_true rfl, Nat.le_of_ble_eq_true rfl⟩ ⟨Nat.le_of_ble_eq_true rfl, Nat.le_of_ble_eq_true rfl⟩ hex (by rw [rTurn, if_pos h1, if_neg h8]; rfl) rfl rfl
  refine zz_callSv (w' := (wx x m o)) (As := [.int (sAcc a)]) (rest := []) G (cx_refuseArgumentsUnless_ok l hfl x m o (sAcc a) h8) kX_37 dX_turnover_8 rfl rfl (Nat.le_of_ble_eq_true rfl) (fun _ => rfl) ⟨Nat.le_of_ble_eq_true rfl, Nat.le_of_ble_eq_true rfl⟩ ⟨Nat.le_of_ble_eq_true rfl, Nat.le_of_ble_eq_true rfl⟩ ?_
  refine zz_aload_n G dX_turnover_11 rfl ?_
  refine zz_iload_n G dX_turnover_12 rfl ?_
  refine zz_callVi (v := cTurn (fx_words x) (fx_rep x) a (nI n) n) (w' := (wx x m o)) (As := [.int a]) (rest := []) G (cx_turnoverOf l x m o a n hvc hn) kX_73 dX_turnover_13 rfl rfl rfl rfl (Nat.le_of_ble_eq_true rfl) (fun _ => rfl) ⟨Nat.le_of_ble_eq_true rfl, Nat.le_of_ble_eq_true rfl⟩ ⟨Nat.le_of_ble_eq_true rfl, Nat.le_of_ble_eq_true rfl⟩ ?_
  exact zz_iret G hret dX_turnover_16 (by rw [rTurn, if_pos h1, if_pos h8]) (Nat.le_of_ble_eq_true rfl) (Nat.le_of_ble_eq_true rfl)
set_option maxRecDepth 100000 in
set_option maxHeartbeats 4000000 in
theorem cx_open (l : Launch) (hfl : l.flags = Jvm.pinnedFlags ++ [Jvm.noTraceFlag]) (x : XS) (m : MS) (o : Nat → Int64) (n e1 : Nat) (a f g it : Int32) (hvc : fx_vc x = nI n) (hn : n ≤ 64) (hI : fx_tam x = 0 → Inv (fx_words x) (fx_rep x) n e1) : zC l yX_open (Jvm.Cond.code yX_open bX_open 7 (some .int) :: Tw) 3 false 0 0 [.ref 0, .int a, .int f, .int g, .int it] (wx x m o) (rOpen x m o a f g it) := by
  refine zC_of [some (.ref 0), some (.int a), some (.int f), some (.int g), some (.int it), none, none] (by decide) rfl (Nat.le_of_ble_eq_true rfl) ?_
  intro p e s mm args below meth c D cI cJ as G hret hex hbd
  refine zz_aload_n G dX_open_0 rfl ?_
  by_cases h1 : fx_tam x = 0
  rotate_left
  · exact zz_thrV (As := []) (rest := []) G (cx_refuseIfTampered_no l hfl x m o h1) kX_27 dX_open_1 rfl rfl rfl rfl (Nat.le_of_ble_eq_true rfl) (fun _ => rfl) ⟨Nat.le_of_ble_eq_true rfl, Nat.le_of_ble_eq_true rfl⟩ ⟨Nat.le_of_ble_eq_true rfl, Nat.le_of_ble_eq_true rfl⟩ hex (by rw [rOpen, if_neg h1]; rfl) rfl rfl
  refine zz_callVv (w' := (wx x m o)) (As := []) (rest := []) G (cx_refuseIfTampered_ok l hfl x m o h1) kX_27 dX_open_1 rfl rfl rfl rfl (Nat.le_of_ble_eq_true rfl) (fun _ => rfl) ⟨Nat.le_of_ble_eq_true rfl, Nat.le_of_ble_eq_true rfl⟩ ⟨Nat.le_of_ble_eq_true rfl, Nat.le_of_ble_eq_true rfl⟩ ?_
  refine zz_iload_n G dX_open_4 rfl ?_
  refine zz_callSi (v := sAcc a) (w' := (wx x m o)) (As := [.int a]) (rest := []) G (cx_isAccount l x m o a) kX_30 dX_open_5 rfl rfl (Nat.le_of_ble_eq_true rfl) (fun _ => rfl) ⟨Nat.le_of_ble_eq_true rfl, Nat.le_of_ble_eq_true rfl⟩ ⟨Nat.le_of_ble_eq_true rfl, Nat.le_of_ble_eq_true rfl⟩ ?_
  refine zz_if_eq (tgt := 38) G dX_open_8 rfl (fun h8 => ?_) (fun h8 => ?_)
  · refine zz_iconst (v := 0) G dX_open_38 (by decide) ?_
    exact zz_thrS (As := [.int 0]) (rest := []) G (cx_refuseArgumentsUnless_no l hfl x m o 0 (fun z => z rfl)) kX_37 dX_open_39 rfl rfl (Nat.le_of_ble_eq_true rfl) (fun _ => rfl) ⟨Nat.le_of_ble_eq_true rfl, Nat.le_of_ble_eq_true rfl⟩ ⟨Nat.le_of_ble_eq_true rfl, Nat.le_of_ble_eq_true rfl⟩ hex (by rw [rOpen, if_pos h1, if_pos h8]; rfl) rfl rfl
  · refine zz_iload_n G dX_open_11 rfl ?_
    refine zz_callSi (v := sDay f) (w' := (wx x m o)) (As := [.int f]) (rest := []) G (cx_isDay l x m o f) kX_34 dX_open_12 rfl rfl (Nat.le_of_ble_eq_true rfl) (fun _ => rfl) ⟨Nat.le_of_ble_eq_true rfl, Nat.le_of_ble_eq_true rfl⟩ ⟨Nat.le_of_ble_eq_true rfl, Nat.le_of_ble_eq_true rfl⟩ ?_
    refine zz_if_eq (tgt := 38) G dX_open_15 rfl (fun h15 => ?_) (fun h15 => ?_)
    · refine zz_iconst (v := 0) G dX_open_38 (by decide) ?_
      exact zz_thrS (As := [.int 0]) (rest := []) G (cx_refuseArgumentsUnless_no l hfl x m o 0 (fun z => z rfl)) kX_37 dX_open_39 rfl rfl (Nat.le_of_ble_eq_true rfl) (fun _ => rfl) ⟨Nat.le_of_ble_eq_true rfl, Nat.le_of_ble_eq_true rfl⟩ ⟨Nat.le_of_ble_eq_true rfl, Nat.le_of_ble_eq_true rfl⟩ hex (by rw [rOpen, if_pos h1, if_neg h8, if_pos h15]; rfl) rfl rfl
    · refine zz_iload_n G dX_open_18 rfl ?_
      refine zz_callSi (v := sDay g) (w' := (wx x m o)) (As := [.int g]) (rest := []) G (cx_isDay l x m o g) kX_34 dX_open_19 rfl rfl (Nat.le_of_ble_eq_true rfl) (fun _ => rfl) ⟨Nat.le_of_ble_eq_true rfl, Nat.le_of_ble_eq_true rfl⟩ ⟨Nat.le_of_ble_eq_true rfl, Nat.le_of_ble_eq_true rfl⟩ ?_
      refine zz_if_eq (tgt := 38) G dX_open_22 rfl (fun h22 => ?_) (fun h22 => ?_)
      · refine zz_iconst (v := 0) G dX_open_38 (by decide) ?_
        exact zz_thrS (As := [.int 0]) (rest := []) G (cx_refuseArgumentsUnless_no l hfl x m o 0 (fun z => z rfl)) kX_37 dX_open_39 rfl rfl (Nat.le_of_ble_eq_true rfl) (fun _ => rfl) ⟨Nat.le_of_ble_eq_true rfl, Nat.le_of_ble_eq_true rfl⟩ ⟨Nat.le_of_ble_eq_true rfl, Nat.le_of_ble_eq_true rfl⟩ hex (by rw [rOpen, if_pos h1, if_neg h8, if_neg h15, if_pos h22]; rfl) rfl rfl
      · refine zz_aload_n G dX_open_25 rfl ?_
        refine zz_iload G dX_open_26 rfl ?_
        refine zz_callVi (v := sTime (fx_vc x) it) (w' := (wx x m o)) (As := [.int it]) (rest := []) G (cx_isTime l x m o it) kX_67 dX_open_28 rfl rfl rfl rfl (Nat.le_of_ble_eq_true rfl) (fun _ => rfl) ⟨Nat.le_of_ble_eq_true rfl, Nat.le_of_ble_eq_true rfl⟩ ⟨Nat.le_of_ble_eq_true rfl, Nat.le_of_ble_eq_true rfl⟩ ?_
        refine zz_if_eq (tgt := 38) G dX_open_31 rfl (fun h31 => ?_) (fun h31 => ?_)
        · refine zz_iconst (v := 0) G dX_open_38 (by decide) ?_
          exact zz_thrS (As := [.int 0]) (rest := []) G (cx_refuseArgumentsUnless_no l hfl x m o 0 (fun z => z rfl)) kX_37 dX_open_39 rfl rfl (Nat.le_of_ble_eq_true rfl) (fun _ => rfl) ⟨Nat.le_of_ble_eq_true rfl, Nat.le_of_ble_eq_true rfl⟩ ⟨Nat.le_of_ble_eq_true rfl, Nat.le_of_ble_eq_true rfl⟩ hex (by rw [rOpen, if_pos h1, if_neg h8, if_neg h15, if_neg h22, if_pos h31]; rfl) rfl rfl
        · obtain ⟨t, ht, rfl⟩ := sTime_of hn (by rw [← hvc]; exact h31)
          have loop : ∀ (j v : Nat), v + j = t → Z p l e (zrm 3) s mm args below meth c 7 D cI cJ as false 0 0 (zMQ below (rOpen x m o a f g (nI t)) D cI cJ as false s 0 0) 65 [some (.ref 0), some (.int a), some (.int f), some (.int g), some (.int (nI t)), some (.int (nI v)), none] [] (wx (sx_cur (sx_last (sx_acct (sx_place (sx_size x (nI (cOpn (fx_words x) (fx_rep x) a f g (nI t) (fx_cur x) v).1)) 0) a) ((-1))) ((cOpn (fx_words x) (fx_rep x) a f g (nI t) (fx_cur x) v).2)) m o) := by
            intro j
            induction j with
            | zero =>
              intro v hv
              have hv : t = v := by omega
              subst hv
              refine zz_iload G dX_open_65 rfl ?_
              refine zz_iload G dX_open_67 rfl ?_
              refine zz_icmp_ge (tgt := 137) G dX_open_69 rfl (fun h69 => ?_) (fun h69 => (h69 (nI_le (Nat.le_refl _) (by omega))).elim)
              refine zz_aload_n G dX_open_137 rfl ?_
              refine zz_get (v := .int (nI (cOpn (fx_words x) (fx_rep x) a f g (nI t) (fx_cur x) t).1)) G dX_open_138 flX_76 rfl rfl ?_
              exact zz_iret G hret dX_open_141 (by rw [rOpen, if_pos h1, if_neg h8, if_neg h15, if_neg h22, if_neg h31, nI_clamp (show t < 2 ^ 31 by omega)]; rfl) (Nat.le_of_ble_eq_true rfl) (Nat.le_of_ble_eq_true rfl)
            | succ j ih =>
              intro v hv
              obtain ⟨lc, l1, l2, l3, l4⟩ := cOpn_spec a f g (fx_cur x) (hI h1) ht v (by omega)
              have hb : ∀ k, k < (cOpn (fx_words x) (fx_rep x) a f g (nI t) (fx_cur x) v).1 → ∃ q, q < 64 ∧ (cOpn (fx_words x) (fx_rep x) a f g (nI t) (fx_cur x) v).2 k = nI q := by
                intro k hk
                have hk2 : k < lc.length := by omega
                have hg : lc[k]? = some lc[k] := List.getElem?_eq_getElem hk2
                have h64 := ((l4 _).mp (List.getElem_mem hk2)).1
                exact ⟨lc[k], by omega, l2 k _ hg⟩
              refine zz_iload G dX_open_65 rfl ?_
              refine zz_iload G dX_open_67 rfl ?_
              refine zz_icmp_ge (tgt := 137) G dX_open_69 rfl (fun h69 => (nI_ge (by omega) (by omega) h69).elim) (fun h69 => ?_)
              refine zz_aload_n G dX_open_72 rfl ?_
              refine zz_iload G dX_open_73 rfl ?_
              refine zz_iconst (v := 5) G dX_open_75 (by decide) ?_
              refine zz_callVi (v := fx_words x (6 * v + 5)) (w' := (wx (sx_cur (sx_last (sx_acct (sx_place (sx_size x (nI (cOpn (fx_words x) (fx_rep x) a f g (nI t) (fx_cur x) v).1)) 0) a) ((-1))) ((cOpn (fx_words x) (fx_rep x) a f g (nI t) (fx_cur x) v).2)) m o)) (As := [.int (nI v), .int 5]) (rest := []) G (cx_word l (sx_cur (sx_last (sx_acct (sx_place (sx_size x (nI (cOpn (fx_words x) (fx_rep x) a f g (nI t) (fx_cur x) v).1)) 0) a) ((-1))) ((cOpn (fx_words x) (fx_rep x) a f g (nI t) (fx_cur x) v).2)) m o v 5 _ _ rfl rfl (by omega) (by decide)) kX_59 dX_open_76 rfl rfl rfl rfl (Nat.le_of_ble_eq_true rfl) (fun _ => rfl) ⟨Nat.le_of_ble_eq_true rfl, Nat.le_of_ble_eq_true rfl⟩ ⟨Nat.le_of_ble_eq_true rfl, Nat.le_of_ble_eq_true rfl⟩ ?_
              refine zz_istore (lv' := [some (.ref 0), some (.int a), some (.int f), some (.int g), some (.int (nI t)), some (.int (nI v)), some (.int (fx_words x (6 * v + 5)))]) G dX_open_79 (Nat.le_of_ble_eq_true rfl) rfl ?_
              refine zz_aload_n G dX_open_81 rfl ?_
              refine zz_iload G dX_open_82 rfl ?_
              refine zz_iload G dX_open_84 rfl ?_
              refine zz_callVi (v := sCur (fx_rep x) v (nI t)) (w' := (wx (sx_cur (sx_last (sx_acct (sx_place (sx_size x (nI (cOpn (fx_words x) (fx_rep x) a f g (nI t) (fx_cur x) v).1)) 0) a) ((-1))) ((cOpn (fx_words x) (fx_rep x) a f g (nI t) (fx_cur x) v).2)) m o)) (As := [.int (nI v), .int (nI t)]) (rest := []) G (cx_isCurrent l (sx_cur (sx_last (sx_acct (sx_place (sx_size x (nI (cOpn (fx_words x) (fx_rep x) a f g (nI t) (fx_cur x) v).1)) 0) a) ((-1))) ((cOpn (fx_words x) (fx_rep x) a f g (nI t) (fx_cur x) v).2)) m o v _ (nI t) rfl (by omega)) kX_85 dX_open_86 rfl rfl rfl rfl (Nat.le_of_ble_eq_true rfl) (fun _ => rfl) ⟨Nat.le_of_ble_eq_true rfl, Nat.le_of_ble_eq_true rfl⟩ ⟨Nat.le_of_ble_eq_true rfl, Nat.le_of_ble_eq_true rfl⟩ ?_
              refine zz_if_eq (tgt := 131) G dX_open_89 rfl (fun h89 => ?_) (fun h89 => ?_)
              · refine zz_iinc (v := nI (v + 1)) (lv' := [some (.ref 0), some (.int a), some (.int f), some (.int g), some (.int (nI t)), some (.int (nI (v + 1))), some (.int (fx_words x (6 * v + 5)))]) G dX_open_131 rfl (by rw [nI_succ]; rfl) rfl ?_
                refine zz_goto (tgt := 65) G dX_open_134 rfl ?_
                refine zz_few (lv' := [some (.ref 0), some (.int a), some (.int f), some (.int g), some (.int (nI t)), some (.int (nI (v + 1))), none]) (by exact ⟨rfl, rfl, rfl, rfl, rfl, rfl, trivial⟩) ?_
                refine zz_eq (w' := (wx (sx_cur (sx_last (sx_acct (sx_place (sx_size x (nI (cOpn (fx_words x) (fx_rep x) a f g (nI t) (fx_cur x) (v + 1)).1)) 0) a) ((-1))) ((cOpn (fx_words x) (fx_rep x) a f g (nI t) (fx_cur x) (v + 1)).2)) m o)) rfl rfl rfl (by rw [show cOpn (fx_words x) (fx_rep x) a f g (nI t) (fx_cur x) (v + 1) = cOpn (fx_words x) (fx_rep x) a f g (nI t) (fx_cur x) v from cOpn_skip (Or.inl h89)]) ?_
                exact ih (v + 1) (by omega)
              · refine zz_aload_n G dX_open_92 rfl ?_
                refine zz_iload G dX_open_93 rfl ?_
                refine zz_iconst (v := 0) G dX_open_95 (by decide) ?_
                refine zz_callVi (v := fx_words x (6 * v + 0)) (w' := (wx (sx_cur (sx_last (sx_acct (sx_place (sx_size x (nI (cOpn (fx_words x) (fx_rep x) a f g (nI t) (fx_cur x) v).1)) 0) a) ((-1))) ((cOpn (fx_words x) (fx_rep x) a f g (nI t) (fx_cur x) v).2)) m o)) (As := [.int (nI v), .int 0]) (rest := []) G (cx_word l (sx_cur (sx_last (sx_acct (sx_place (sx_size x (nI (cOpn (fx_words x) (fx_rep x) a f g (nI t) (fx_cur x) v).1)) 0) a) ((-1))) ((cOpn (fx_words x) (fx_rep x) a f g (nI t) (fx_cur x) v).2)) m o v 0 _ _ rfl rfl (by omega) (by decide)) kX_59 dX_open_96 rfl rfl rfl rfl (Nat.le_of_ble_eq_true rfl) (fun _ => rfl) ⟨Nat.le_of_ble_eq_true rfl, Nat.le_of_ble_eq_true rfl⟩ ⟨Nat.le_of_ble_eq_true rfl, Nat.le_of_ble_eq_true rfl⟩ ?_
                refine zz_iconst (v := 2) G dX_open_99 (by decide) ?_
                refine zz_icmp_eq (tgt := 131) G dX_open_100 rfl (fun h100 => ?_) (fun h100 => ?_)
                · refine zz_iinc (v := nI (v + 1)) (lv' := [some (.ref 0), some (.int a), some (.int f), some (.int g), some (.int (nI t)), some (.int (nI (v + 1))), some (.int (fx_words x (6 * v + 5)))]) G dX_open_131 rfl (by rw [nI_succ]; rfl) rfl ?_
                  refine zz_goto (tgt := 65) G dX_open_134 rfl ?_
                  refine zz_few (lv' := [some (.ref 0), some (.int a), some (.int f), some (.int g), some (.int (nI t)), some (.int (nI (v + 1))), none]) (by exact ⟨rfl, rfl, rfl, rfl, rfl, rfl, trivial⟩) ?_
                  refine zz_eq (w' := (wx (sx_cur (sx_last (sx_acct (sx_place (sx_size x (nI (cOpn (fx_words x) (fx_rep x) a f g (nI t) (fx_cur x) (v + 1)).1)) 0) a) ((-1))) ((cOpn (fx_words x) (fx_rep x) a f g (nI t) (fx_cur x) (v + 1)).2)) m o)) rfl rfl rfl (by rw [show cOpn (fx_words x) (fx_rep x) a f g (nI t) (fx_cur x) (v + 1) = cOpn (fx_words x) (fx_rep x) a f g (nI t) (fx_cur x) v from cOpn_skip (Or.inr (Or.inl h100))]) ?_
                  exact ih (v + 1) (by omega)
                · refine zz_aload_n G dX_open_103 rfl ?_
                  refine zz_iload G dX_open_104 rfl ?_
                  refine zz_iload_n G dX_open_106 rfl ?_
                  refine zz_callVi (v := sTouch (fx_words x) v a) (w' := (wx (sx_cur (sx_last (sx_acct (sx_place (sx_size x (nI (cOpn (fx_words x) (fx_rep x) a f g (nI t) (fx_cur x) v).1)) 0) a) ((-1))) ((cOpn (fx_words x) (fx_rep x) a f g (nI t) (fx_cur x) v).2)) m o)) (As := [.int (nI v), .int a]) (rest := []) G (cx_touches l (sx_cur (sx_last (sx_acct (sx_place (sx_size x (nI (cOpn (fx_words x) (fx_rep x) a f g (nI t) (fx_cur x) v).1)) 0) a) ((-1))) ((cOpn (fx_words x) (fx_rep x) a f g (nI t) (fx_cur x) v).2)) m o v _ a rfl (by omega)) kX_89 dX_open_107 rfl rfl rfl rfl (Nat.le_of_ble_eq_true rfl) (fun _ => rfl) ⟨Nat.le_of_ble_eq_true rfl, Nat.le_of_ble_eq_true rfl⟩ ⟨Nat.le_of_ble_eq_true rfl, Nat.le_of_ble_eq_true rfl⟩ ?_
                  refine zz_if_eq (tgt := 131) G dX_open_110 rfl (fun h110 => ?_) (fun h110 => ?_)
                  · refine zz_iinc (v := nI (v + 1)) (lv' := [some (.ref 0), some (.int a), some (.int f), some (.int g), some (.int (nI t)), some (.int (nI (v + 1))), some (.int (fx_words x (6 * v + 5)))]) G dX_open_131 rfl (by rw [nI_succ]; rfl) rfl ?_
                    refine zz_goto (tgt := 65) G dX_open_134 rfl ?_
                    refine zz_few (lv' := [some (.ref 0), some (.int a), some (.int f), some (.int g), some (.int (nI t)), some (.int (nI (v + 1))), none]) (by exact ⟨rfl, rfl, rfl, rfl, rfl, rfl, trivial⟩) ?_
                    refine zz_eq (w' := (wx (sx_cur (sx_last (sx_acct (sx_place (sx_size x (nI (cOpn (fx_words x) (fx_rep x) a f g (nI t) (fx_cur x) (v + 1)).1)) 0) a) ((-1))) ((cOpn (fx_words x) (fx_rep x) a f g (nI t) (fx_cur x) (v + 1)).2)) m o)) rfl rfl rfl (by rw [show cOpn (fx_words x) (fx_rep x) a f g (nI t) (fx_cur x) (v + 1) = cOpn (fx_words x) (fx_rep x) a f g (nI t) (fx_cur x) v from cOpn_skip (Or.inr (Or.inr (Or.inl h110)))]) ?_
                    exact ih (v + 1) (by omega)
                  · refine zz_iload G dX_open_113 rfl ?_
                    refine zz_iload_n G dX_open_115 rfl ?_
                    refine zz_icmp_lt (tgt := 131) G dX_open_116 rfl (fun h116 => ?_) (fun h116 => ?_)
                    · refine zz_iinc (v := nI (v + 1)) (lv' := [some (.ref 0), some (.int a), some (.int f), some (.int g), some (.int (nI t)), some (.int (nI (v + 1))), some (.int (fx_words x (6 * v + 5)))]) G dX_open_131 rfl (by rw [nI_succ]; rfl) rfl ?_
                      refine zz_goto (tgt := 65) G dX_open_134 rfl ?_
                      refine zz_few (lv' := [some (.ref 0), some (.int a), some (.int f), some (.int g), some (.int (nI t)), some (.int (nI (v + 1))), none]) (by exact ⟨rfl, rfl, rfl, rfl, rfl, rfl, trivial⟩) ?_
                      refine zz_eq (w' := (wx (sx_cur (sx_last (sx_acct (sx_place (sx_size x (nI (cOpn (fx_words x) (fx_rep x) a f g (nI t) (fx_cur x) (v + 1)).1)) 0) a) ((-1))) ((cOpn (fx_words x) (fx_rep x) a f g (nI t) (fx_cur x) (v + 1)).2)) m o)) rfl rfl rfl (by rw [show cOpn (fx_words x) (fx_rep x) a f g (nI t) (fx_cur x) (v + 1) = cOpn (fx_words x) (fx_rep x) a f g (nI t) (fx_cur x) v from cOpn_skip (Or.inr (Or.inr (Or.inr (Or.inl h116))))]) ?_
                      exact ih (v + 1) (by omega)
                    · refine zz_iload G dX_open_119 rfl ?_
                      refine zz_iload_n G dX_open_121 rfl ?_
                      refine zz_icmp_gt (tgt := 131) G dX_open_122 rfl (fun h122 => ?_) (fun h122 => ?_)
                      · refine zz_iinc (v := nI (v + 1)) (lv' := [some (.ref 0), some (.int a), some (.int f), some (.int g), some (.int (nI t)), some (.int (nI (v + 1))), some (.int (fx_words x (6 * v + 5)))]) G dX_open_131 rfl (by rw [nI_succ]; rfl) rfl ?_
                        refine zz_goto (tgt := 65) G dX_open_134 rfl ?_
                        refine zz_few (lv' := [some (.ref 0), some (.int a), some (.int f), some (.int g), some (.int (nI t)), some (.int (nI (v + 1))), none]) (by exact ⟨rfl, rfl, rfl, rfl, rfl, rfl, trivial⟩) ?_
                        refine zz_eq (w' := (wx (sx_cur (sx_last (sx_acct (sx_place (sx_size x (nI (cOpn (fx_words x) (fx_rep x) a f g (nI t) (fx_cur x) (v + 1)).1)) 0) a) ((-1))) ((cOpn (fx_words x) (fx_rep x) a f g (nI t) (fx_cur x) (v + 1)).2)) m o)) rfl rfl rfl (by rw [show cOpn (fx_words x) (fx_rep x) a f g (nI t) (fx_cur x) (v + 1) = cOpn (fx_words x) (fx_rep x) a f g (nI t) (fx_cur x) v from cOpn_skip (Or.inr (Or.inr (Or.inr (Or.inr h122))))]) ?_
                        exact ih (v + 1) (by omega)
                      · refine zz_aload_n G dX_open_125 rfl ?_
                        refine zz_iload G dX_open_126 rfl ?_
                        refine zz_callVv (w' := (wx (sx_cur (sx_last (sx_acct (sx_place (sx_size x (nI ((cOpn (fx_words x) (fx_rep x) a f g (nI t) (fx_cur x) v).1) + 1)) 0) a) ((-1))) (insA (fx_words x) v ((cOpn (fx_words x) (fx_rep x) a f g (nI t) (fx_cur x) v).1) (((cOpn (fx_words x) (fx_rep x) a f g (nI t) (fx_cur x) v).2)))) m o)) (As := [.int (nI v)]) (rest := []) G (cx_insertIntoCursor l (sx_cur (sx_last (sx_acct (sx_place (sx_size x (nI (cOpn (fx_words x) (fx_rep x) a f g (nI t) (fx_cur x) v).1)) 0) a) ((-1))) ((cOpn (fx_words x) (fx_rep x) a f g (nI t) (fx_cur x) v).2)) m o v ((cOpn (fx_words x) (fx_rep x) a f g (nI t) (fx_cur x) v).1) _ rfl (by omega) (rfl) (by have := cOpn_le (wd := fx_words x) (rp := fx_rep x) (a := a) (f := f) (g := g) (t := nI t) (cv := fx_cur x) v; omega) (hb)) kX_92 dX_open_128 rfl rfl rfl rfl (Nat.le_of_ble_eq_true rfl) (fun h => by cases h) ⟨Nat.le_of_ble_eq_true rfl, Nat.le_of_ble_eq_true rfl⟩ ⟨Nat.le_of_ble_eq_true rfl, Nat.le_of_ble_eq_true rfl⟩ ?_
                        refine zz_iinc (v := nI (v + 1)) (lv' := [some (.ref 0), some (.int a), some (.int f), some (.int g), some (.int (nI t)), some (.int (nI (v + 1))), some (.int (fx_words x (6 * v + 5)))]) G dX_open_131 rfl (by rw [nI_succ]; rfl) rfl ?_
                        refine zz_goto (tgt := 65) G dX_open_134 rfl ?_
                        refine zz_few (lv' := [some (.ref 0), some (.int a), some (.int f), some (.int g), some (.int (nI t)), some (.int (nI (v + 1))), none]) (by exact ⟨rfl, rfl, rfl, rfl, rfl, rfl, trivial⟩) ?_
                        refine zz_eq (w' := (wx (sx_cur (sx_last (sx_acct (sx_place (sx_size x (nI (cOpn (fx_words x) (fx_rep x) a f g (nI t) (fx_cur x) (v + 1)).1)) 0) a) ((-1))) ((cOpn (fx_words x) (fx_rep x) a f g (nI t) (fx_cur x) (v + 1)).2)) m o)) rfl rfl rfl (by rw [show cOpn (fx_words x) (fx_rep x) a f g (nI t) (fx_cur x) (v + 1) = ((cOpn (fx_words x) (fx_rep x) a f g (nI t) (fx_cur x) v).1 + 1, insA (fx_words x) v (cOpn (fx_words x) (fx_rep x) a f g (nI t) (fx_cur x) v).1 (cOpn (fx_words x) (fx_rep x) a f g (nI t) (fx_cur x) v).2) from cOpn_take (by rintro (z | z | z | z | z); exact h89 z; exact h100 z; exact h110 z; exact h116 z; exact h122 z)]; show wx _ m o = wx _ m o; rw [nI_succ]) ?_
                        exact ih (v + 1) (by omega)
          refine zz_iconst (v := 1) G dX_open_34 (by decide) ?_
          refine zz_goto (tgt := 39) G dX_open_35 rfl ?_
          refine zz_callSv (w' := (wx x m o)) (As := [.int 1]) (rest := []) G (cx_refuseArgumentsUnless_ok l hfl x m o 1 (by decide)) kX_37 dX_open_39 rfl rfl (Nat.le_of_ble_eq_true rfl) (fun _ => rfl) ⟨Nat.le_of_ble_eq_true rfl, Nat.le_of_ble_eq_true rfl⟩ ⟨Nat.le_of_ble_eq_true rfl, Nat.le_of_ble_eq_true rfl⟩ ?_
          refine zz_aload_n G dX_open_42 rfl ?_
          refine zz_iconst (v := 0) G dX_open_43 (by decide) ?_
          refine zz_put (w' := (wx (sx_size x 0) m o)) rfl G dX_open_44 flX_76 rfl rfl rfl (Nat.le_of_ble_eq_true rfl) rfl ?_
          refine zz_aload_n G dX_open_47 rfl ?_
          refine zz_iconst (v := 0) G dX_open_48 (by decide) ?_
          refine zz_put (w' := (wx (sx_place (sx_size x 0) 0) m o)) rfl G dX_open_49 flX_79 rfl rfl rfl (Nat.le_of_ble_eq_true rfl) rfl ?_
          refine zz_aload_n G dX_open_52 rfl ?_
          refine zz_iload_n G dX_open_53 rfl ?_
          refine zz_put (w' := (wx (sx_acct (sx_place (sx_size x 0) 0) a) m o)) rfl G dX_open_54 flX_82 rfl rfl rfl (Nat.le_of_ble_eq_true rfl) rfl ?_
          refine zz_aload_n G dX_open_57 rfl ?_
          refine zz_iconst (v := -1) G dX_open_58 (by decide) ?_
          refine zz_put (w' := (wx (sx_last (sx_acct (sx_place (sx_size x 0) 0) a) ((-1))) m o)) rfl G dX_open_59 flX_23 rfl rfl rfl (Nat.le_of_ble_eq_true rfl) rfl ?_
          refine zz_iconst (v := 0) G dX_open_62 (by decide) ?_
          refine zz_istore (lv' := [some (.ref 0), some (.int a), some (.int f), some (.int g), some (.int (nI t)), some (.int 0), none]) G dX_open_63 (Nat.le_of_ble_eq_true rfl) rfl ?_
          exact loop t 0 (by omega)
set_option maxRecDepth 100000 in
set_option maxHeartbeats 4000000 in
theorem cx_next (l : Launch) (hfl : l.flags = Jvm.pinnedFlags ++ [Jvm.noTraceFlag]) (x : XS) (m : MS) (o : Nat → Int64) (q z : Nat) (hq31 : q < 2 ^ 31) (hp : fx_place x = nI q) (hz : fx_size x = nI z) (hz64 : z ≤ 64) (hb : ∀ k, k < z → ∃ u, u < 64 ∧ fx_cur x k = nI u) : zC l yX_next (Jvm.Cond.code yX_next bX_next 1 (some .int) :: Tw) 3 false 0 0 [.ref 0] (wx x m o) (rNext x m o) := by
  refine zC_of [some (.ref 0)] (by decide) rfl (Nat.le_of_ble_eq_true rfl) ?_
  intro p e s mm args below meth c D cI cJ as G hret hex hbd
  refine zz_aload_n G dX_next_0 rfl ?_
  by_cases h1 : fx_tam x = 0
  rotate_left
  · exact zz_thrV (As := []) (rest := []) G (cx_refuseIfTampered_no l hfl x m o h1) kX_27 dX_next_1 rfl rfl rfl rfl (Nat.le_of_ble_eq_true rfl) (fun _ => rfl) ⟨Nat.le_of_ble_eq_true rfl, Nat.le_of_ble_eq_true rfl⟩ ⟨Nat.le_of_ble_eq_true rfl, Nat.le_of_ble_eq_true rfl⟩ hex (by rw [rNext, if_neg h1]; rfl) rfl rfl
  refine zz_callVv (w' := (wx x m o)) (As := []) (rest := []) G (cx_refuseIfTampered_ok l hfl x m o h1) kX_27 dX_next_1 rfl rfl rfl rfl (Nat.le_of_ble_eq_true rfl) (fun _ => rfl) ⟨Nat.le_of_ble_eq_true rfl, Nat.le_of_ble_eq_true rfl⟩ ⟨Nat.le_of_ble_eq_true rfl, Nat.le_of_ble_eq_true rfl⟩ ?_
  refine zz_aload_n G dX_next_4 rfl ?_
  refine zz_get (v := .int (fx_place x)) G dX_next_5 flX_79 rfl rfl ?_
  refine zz_aload_n G dX_next_8 rfl ?_
  refine zz_get (v := .int (fx_size x)) G dX_next_9 flX_76 rfl rfl ?_
  refine zz_icmp_lt (tgt := 22) G dX_next_12 rfl (fun h12 => ?_) (fun h12 => ?_)
  · have hq : q < z := by rw [hp, hz] at h12; exact (nI_ltI_of h12 hq31 hz64)
    obtain ⟨u, hu, eu⟩ := hb q hq
    have ep : (fx_place x).toNatClampNeg = q := by rw [hp]; exact nI_clamp (by omega)
    refine zz_aload_n G dX_next_22 rfl ?_
    refine zz_aload_n G dX_next_23 rfl ?_
    refine zz_get (v := .ref 4) G dX_next_24 flX_20 rfl rfl ?_
    refine zz_aload_n G dX_next_27 rfl ?_
    refine zz_get (v := .int (fx_place x)) G dX_next_28 flX_79 rfl rfl ?_
    refine zz_iald (v := fx_cur x (fx_place x).toNatClampNeg) G dX_next_31 rfl (by rw [hp]; exact i1_in (by omega)) (rfl) ?_
    refine zz_put (w' := (wx (sx_last x (fx_cur x (fx_place x).toNatClampNeg)) m o)) rfl G dX_next_32 flX_23 rfl rfl rfl (Nat.le_of_ble_eq_true rfl) rfl ?_
    refine zz_aload_n G dX_next_35 rfl ?_
    refine zz_dupa G dX_next_36 ?_
    refine zz_get (v := .int (fx_place x)) G dX_next_37 flX_79 rfl rfl ?_
    refine zz_iconst (v := 1) G dX_next_40 (by decide) ?_
    refine zz_iadd G dX_next_41 ?_
    refine zz_put (w' := (wx (sx_place (sx_last x (fx_cur x (fx_place x).toNatClampNeg)) ((fx_place x) + 1)) m o)) rfl G dX_next_42 flX_79 rfl rfl rfl (Nat.le_of_ble_eq_true rfl) rfl ?_
    refine zz_aload_n G dX_next_45 rfl ?_
    refine zz_aload_n G dX_next_46 rfl ?_
    refine zz_get (v := .int (fx_cur x (fx_place x).toNatClampNeg)) G dX_next_47 flX_23 rfl rfl ?_
    refine zz_iconst (v := 1) G dX_next_50 (by decide) ?_
    refine zz_callVi (v := fx_words x (6 * ((fx_cur x (fx_place x).toNatClampNeg).toNatClampNeg) + 1)) (w' := (wx (sx_place (sx_last x (fx_cur x (fx_place x).toNatClampNeg)) ((fx_place x) + 1)) m o)) (As := [.int (fx_cur x (fx_place x).toNatClampNeg), .int 1]) (rest := []) G (cx_word l (sx_place (sx_last x (fx_cur x (fx_place x).toNatClampNeg)) ((fx_place x) + 1)) m o ((fx_cur x (fx_place x).toNatClampNeg).toNatClampNeg) 1 _ _ (by rw [ep, eu, nI_clamp (show u < 2 ^ 31 by omega)]) rfl (by rw [ep, eu, nI_clamp (show u < 2 ^ 31 by omega)]; exact hu) (by decide)) kX_59 dX_next_51 rfl rfl rfl rfl (Nat.le_of_ble_eq_true rfl) (fun _ => rfl) ⟨Nat.le_of_ble_eq_true rfl, Nat.le_of_ble_eq_true rfl⟩ ⟨Nat.le_of_ble_eq_true rfl, Nat.le_of_ble_eq_true rfl⟩ ?_
    exact zz_iret G hret dX_next_54 (by rw [rNext, if_pos h1, if_pos h12]) (Nat.le_of_ble_eq_true rfl) (Nat.le_of_ble_eq_true rfl)
  · refine zz_aload_n G dX_next_15 rfl ?_
    refine zz_iconst (v := -1) G dX_next_16 (by decide) ?_
    refine zz_put (w' := (wx (sx_last x ((-1))) m o)) rfl G dX_next_17 flX_23 rfl rfl rfl (Nat.le_of_ble_eq_true rfl) rfl ?_
    refine zz_iconst (v := -1) G dX_next_20 (by decide) ?_
    exact zz_iret G hret dX_next_21 (by rw [rNext, if_pos h1, if_neg h12]) (Nat.le_of_ble_eq_true rfl) (Nat.le_of_ble_eq_true rfl)
set_option maxRecDepth 100000 in
set_option maxHeartbeats 4000000 in
theorem cx_moved (l : Launch) (hfl : l.flags = Jvm.pinnedFlags ++ [Jvm.noTraceFlag]) (x : XS) (m : MS) (o : Nat → Int64) (hl : fx_last x = -1 ∨ ∃ u, u < 64 ∧ fx_last x = nI u) : zC l yX_moved (Jvm.Cond.code yX_moved bX_moved 1 (some .int) :: Tw) 3 true 0 0 [.ref 0] (wx x m o) (rMoved x m o) := by
  refine zC_of [some (.ref 0)] (by decide) rfl (Nat.le_of_ble_eq_true rfl) ?_
  intro p e s mm args below meth c D cI cJ as G hret hex hbd
  refine zz_aload_n G dX_moved_0 rfl ?_
  by_cases h1 : fx_tam x = 0
  rotate_left
  · exact zz_thrV (As := []) (rest := []) G (cx_refuseIfTampered_no l hfl x m o h1) kX_27 dX_moved_1 rfl rfl rfl rfl (Nat.le_of_ble_eq_true rfl) (fun _ => rfl) ⟨Nat.le_of_ble_eq_true rfl, Nat.le_of_ble_eq_true rfl⟩ ⟨Nat.le_of_ble_eq_true rfl, Nat.le_of_ble_eq_true rfl⟩ hex (by rw [rMoved, if_neg h1]; rfl) rfl rfl
  refine zz_callVv (w' := (wx x m o)) (As := []) (rest := []) G (cx_refuseIfTampered_ok l hfl x m o h1) kX_27 dX_moved_1 rfl rfl rfl rfl (Nat.le_of_ble_eq_true rfl) (fun _ => rfl) ⟨Nat.le_of_ble_eq_true rfl, Nat.le_of_ble_eq_true rfl⟩ ⟨Nat.le_of_ble_eq_true rfl, Nat.le_of_ble_eq_true rfl⟩ ?_
  refine zz_aload_n G dX_moved_4 rfl ?_
  refine zz_get (v := .int (fx_last x)) G dX_moved_5 flX_23 rfl rfl ?_
  refine zz_iconst (v := -1) G dX_moved_8 (by decide) ?_
  refine zz_icmp_ne (tgt := 16) G dX_moved_9 rfl (fun h9 => ?_) (fun h9 => ?_)
  · obtain ⟨u, hu, eu⟩ : ∃ u, u < 64 ∧ fx_last x = nI u := hl.resolve_left h9
    have ec : (fx_last x).toNatClampNeg = u := by rw [eu]; exact nI_clamp (by omega)
    refine zz_aload_n G dX_moved_16 rfl ?_
    refine zz_aload_n G dX_moved_17 rfl ?_
    refine zz_get (v := .int (fx_last x)) G dX_moved_18 flX_23 rfl rfl ?_
    refine zz_aload_n G dX_moved_21 rfl ?_
    refine zz_get (v := .int (fx_acct x)) G dX_moved_22 flX_82 rfl rfl ?_
    refine zz_callVi (v := sMoved (fx_words x) ((fx_last x).toNatClampNeg) (fx_acct x)) (w' := (wx x m o)) (As := [.int (fx_last x), .int (fx_acct x)]) (rest := []) G (cx_movedBy l x m o ((fx_last x).toNatClampNeg) _ (fx_acct x) (by rw [ec, eu]) (by rw [ec]; exact hu)) kX_96 dX_moved_25 rfl rfl rfl rfl (Nat.le_of_ble_eq_true rfl) (fun _ => rfl) ⟨Nat.le_of_ble_eq_true rfl, Nat.le_of_ble_eq_true rfl⟩ ⟨Nat.le_of_ble_eq_true rfl, Nat.le_of_ble_eq_true rfl⟩ ?_
    exact zz_iret G hret dX_moved_28 (by rw [rMoved, if_pos h1, if_neg h9]) (Nat.le_of_ble_eq_true rfl) (Nat.le_of_ble_eq_true rfl)
  · refine zz_iconst (v := 0) G dX_moved_12 (by decide) ?_
    refine zz_goto (tgt := 28) G dX_moved_13 rfl ?_
    exact zz_iret G hret dX_moved_28 (by rw [rMoved, if_pos h1, if_pos h9]) (Nat.le_of_ble_eq_true rfl) (Nat.le_of_ble_eq_true rfl)
set_option maxRecDepth 100000 in
set_option maxHeartbeats 4000000 in
theorem cx_field (l : Launch) (hfl : l.flags = Jvm.pinnedFlags ++ [Jvm.noTraceFlag]) (x : XS) (m : MS) (o : Nat → Int64) (n : Nat) (en k it : Int32) (hvc : fx_vc x = nI n) (hn : n ≤ 64) : zC l yX_field (Jvm.Cond.code yX_field bX_field 5 (some .int) :: Tw) 3 true 0 0 [.ref 0, .int en, .int k, .int it] (wx x m o) (rField x m o en k it) := by
  refine zC_of [some (.ref 0), some (.int en), some (.int k), some (.int it), none] (by decide) rfl (Nat.le_of_ble_eq_true rfl) ?_
  intro p e s mm args below meth c D cI cJ as G hret hex hbd
  refine zz_aload_n G dX_field_0 rfl ?_
  by_cases h1 : fx_tam x = 0
  rotate_left
  · exact zz_thrV (As := []) (rest := []) G (cx_refuseIfTampered_no l hfl x m o h1) kX_27 dX_field_1 rfl rfl rfl rfl (Nat.le_of_ble_eq_true rfl) (fun _ => rfl) ⟨Nat.le_of_ble_eq_true rfl, Nat.le_of_ble_eq_true rfl⟩ ⟨Nat.le_of_ble_eq_true rfl, Nat.le_of_ble_eq_true rfl⟩ hex (by rw [rField, if_neg h1]; rfl) rfl rfl
  refine zz_callVv (w' := (wx x m o)) (As := []) (rest := []) G (cx_refuseIfTampered_ok l hfl x m o h1) kX_27 dX_field_1 rfl rfl rfl rfl (Nat.le_of_ble_eq_true rfl) (fun _ => rfl) ⟨Nat.le_of_ble_eq_true rfl, Nat.le_of_ble_eq_true rfl⟩ ⟨Nat.le_of_ble_eq_true rfl, Nat.le_of_ble_eq_true rfl⟩ ?_
  refine zz_iload_n G dX_field_4 rfl ?_
  refine zz_callSi (v := sWrd k) (w' := (wx x m o)) (As := [.int k]) (rest := []) G (cx_isWord l x m o k) kX_99 dX_field_5 rfl rfl (Nat.le_of_ble_eq_true rfl) (fun _ => rfl) ⟨Nat.le_of_ble_eq_true rfl, Nat.le_of_ble_eq_true rfl⟩ ⟨Nat.le_of_ble_eq_true rfl, Nat.le_of_ble_eq_true rfl⟩ ?_
  refine zz_if_eq (tgt := 19) G dX_field_8 rfl (fun h8 => ?_) (fun h8 => ?_)
  · refine zz_iconst (v := -1) G dX_field_19 (by decide) ?_
    exact zz_iret G hret dX_field_20 (by rw [rField, if_pos h1, if_pos h8]) (Nat.le_of_ble_eq_true rfl) (Nat.le_of_ble_eq_true rfl)
  · refine zz_aload_n G dX_field_11 rfl ?_
    refine zz_iload_n G dX_field_12 rfl ?_
    refine zz_callVi (v := sTime (fx_vc x) it) (w' := (wx x m o)) (As := [.int it]) (rest := []) G (cx_isTime l x m o it) kX_67 dX_field_13 rfl rfl rfl rfl (Nat.le_of_ble_eq_true rfl) (fun _ => rfl) ⟨Nat.le_of_ble_eq_true rfl, Nat.le_of_ble_eq_true rfl⟩ ⟨Nat.le_of_ble_eq_true rfl, Nat.le_of_ble_eq_true rfl⟩ ?_
    refine zz_if_ne (tgt := 21) G dX_field_16 rfl (fun h16 => ?_) (fun h16 => ?_)
    · obtain ⟨t, ht, rfl⟩ := sTime_of hn (by rw [← hvc]; exact h16)
      obtain ⟨k, hk, rfl⟩ := sWrd_of h8
      rcases hq : sLast (fx_words x) en t with _ | u
      · refine zz_aload_n G dX_field_21 rfl ?_
        refine zz_iload_n G dX_field_22 rfl ?_
        refine zz_iload_n G dX_field_23 rfl ?_
        refine zz_callVi (v := (-1)) (w' := (wx x m o)) (As := [.int en, .int (nI t)]) (rest := []) G (by have q := cx_currentVersion l x m o en _ t rfl (by omega); rw [hq] at q; exact q) kX_102 dX_field_24 rfl rfl rfl rfl (Nat.le_of_ble_eq_true rfl) (fun _ => rfl) ⟨Nat.le_of_ble_eq_true rfl, Nat.le_of_ble_eq_true rfl⟩ ⟨Nat.le_of_ble_eq_true rfl, Nat.le_of_ble_eq_true rfl⟩ ?_
        refine zz_istore (lv' := [some (.ref 0), some (.int en), some (.int (nI k)), some (.int (nI t)), some (.int (-1))]) G dX_field_27 (Nat.le_of_ble_eq_true rfl) rfl ?_
        refine zz_iload G dX_field_29 rfl ?_
        refine zz_iconst (v := -1) G dX_field_31 (by decide) ?_
        refine zz_icmp_ne (tgt := 39) G dX_field_32 rfl (fun h32 => (h32 rfl).elim) (fun h32 => ?_)
        refine zz_iconst (v := -1) G dX_field_35 (by decide) ?_
        refine zz_goto (tgt := 46) G dX_field_36 rfl ?_
        exact zz_iret G hret dX_field_46 (by rw [rField, if_pos h1, if_neg h8, if_neg h16, nI_clamp (show t < 2 ^ 31 by omega), hq]) (Nat.le_of_ble_eq_true rfl) (Nat.le_of_ble_eq_true rfl)
      · have hu : u < t := (mL_lt t hq).1
        refine zz_aload_n G dX_field_21 rfl ?_
        refine zz_iload_n G dX_field_22 rfl ?_
        refine zz_iload_n G dX_field_23 rfl ?_
        refine zz_callVi (v := nI u) (w' := (wx x m o)) (As := [.int en, .int (nI t)]) (rest := []) G (by have q := cx_currentVersion l x m o en _ t rfl (by omega); rw [hq] at q; exact q) kX_102 dX_field_24 rfl rfl rfl rfl (Nat.le_of_ble_eq_true rfl) (fun _ => rfl) ⟨Nat.le_of_ble_eq_true rfl, Nat.le_of_ble_eq_true rfl⟩ ⟨Nat.le_of_ble_eq_true rfl, Nat.le_of_ble_eq_true rfl⟩ ?_
        refine zz_istore (lv' := [some (.ref 0), some (.int en), some (.int (nI k)), some (.int (nI t)), some (.int (nI u))]) G dX_field_27 (Nat.le_of_ble_eq_true rfl) rfl ?_
        refine zz_iload G dX_field_29 rfl ?_
        refine zz_iconst (v := -1) G dX_field_31 (by decide) ?_
        refine zz_icmp_ne (tgt := 39) G dX_field_32 rfl (fun h32 => ?_) (fun h32 => (nI_m1 (by omega) h32).elim)
        refine zz_aload_n G dX_field_39 rfl ?_
        refine zz_iload G dX_field_40 rfl ?_
        refine zz_iload_n G dX_field_42 rfl ?_
        refine zz_callVi (v := fx_words x (6 * u + k)) (w' := (wx x m o)) (As := [.int (nI u), .int (nI k)]) (rest := []) G (cx_word l x m o u k _ _ rfl rfl (by omega) (hk)) kX_59 dX_field_43 rfl rfl rfl rfl (Nat.le_of_ble_eq_true rfl) (fun _ => rfl) ⟨Nat.le_of_ble_eq_true rfl, Nat.le_of_ble_eq_true rfl⟩ ⟨Nat.le_of_ble_eq_true rfl, Nat.le_of_ble_eq_true rfl⟩ ?_
        exact zz_iret G hret dX_field_46 (by rw [rField, if_pos h1, if_neg h8, if_neg h16, nI_clamp (show t < 2 ^ 31 by omega), hq]; show Sum.inl (some (Value.int (fx_words x (6 * u + (nI k).toNatClampNeg))), wx x m o) = _; rw [nI_clamp (show k < 2 ^ 31 by omega)]) (Nat.le_of_ble_eq_true rfl) (Nat.le_of_ble_eq_true rfl)
    · refine zz_iconst (v := -1) G dX_field_19 (by decide) ?_
      exact zz_iret G hret dX_field_20 (by rw [rField, if_pos h1, if_neg h8, if_pos h16]) (Nat.le_of_ble_eq_true rfl) (Nat.le_of_ble_eq_true rfl)
set_option maxRecDepth 100000 in
set_option maxHeartbeats 4000000 in
theorem cx_entries (l : Launch) (hfl : l.flags = Jvm.pinnedFlags ++ [Jvm.noTraceFlag]) (x : XS) (m : MS) (o : Nat → Int64)  : zC l yX_entries (Jvm.Cond.code yX_entries bX_entries 1 (some .int) :: Tw) 3 true 0 0 [.ref 0] (wx x m o) (rEnt x m o) := by
  refine zC_of [some (.ref 0)] (by decide) rfl (Nat.le_of_ble_eq_true rfl) ?_
  intro p e s mm args below meth c D cI cJ as G hret hex hbd
  refine zz_aload_n G dX_entries_0 rfl ?_
  by_cases h1 : fx_tam x = 0
  rotate_left
  · exact zz_thrV (As := []) (rest := []) G (cx_refuseIfTampered_no l hfl x m o h1) kX_27 dX_entries_1 rfl rfl rfl rfl (Nat.le_of_ble_eq_true rfl) (fun _ => rfl) ⟨Nat.le_of_ble_eq_true rfl, Nat.le_of_ble_eq_true rfl⟩ ⟨Nat.le_of_ble_eq_true rfl, Nat.le_of_ble_eq_true rfl⟩ hex (by rw [rEnt, if_neg h1]; rfl) rfl rfl
  refine zz_callVv (w' := (wx x m o)) (As := []) (rest := []) G (cx_refuseIfTampered_ok l hfl x m o h1) kX_27 dX_entries_1 rfl rfl rfl rfl (Nat.le_of_ble_eq_true rfl) (fun _ => rfl) ⟨Nat.le_of_ble_eq_true rfl, Nat.le_of_ble_eq_true rfl⟩ ⟨Nat.le_of_ble_eq_true rfl, Nat.le_of_ble_eq_true rfl⟩ ?_
  refine zz_aload_n G dX_entries_4 rfl ?_
  refine zz_get (v := .int (fx_ec x)) G dX_entries_5 flX_48 rfl rfl ?_
  exact zz_iret G hret dX_entries_8 (by rw [rEnt, if_pos h1]) (Nat.le_of_ble_eq_true rfl) (Nat.le_of_ble_eq_true rfl)
set_option maxRecDepth 100000 in
set_option maxHeartbeats 4000000 in
theorem cx_clock (l : Launch) (x : XS) (m : MS) (o : Nat → Int64)  : zC l yX_clock (Jvm.Cond.code yX_clock bX_clock 1 (some .int) :: Tw) 0 true 0 0 [.ref 0] (wx x m o) (.inl (some (.int (fx_vc x)), wx x m o)) := by
  refine zC_of [some (.ref 0)] (by decide) rfl (Nat.le_of_ble_eq_true rfl) ?_
  intro p e s mm args below meth c D cI cJ as G hret hex hbd
  refine zz_aload_n G dX_clock_0 rfl ?_
  refine zz_get (v := .int (fx_vc x)) G dX_clock_1 flX_105 rfl rfl ?_
  exact zz_iret G hret dX_clock_4 (rfl) (Nat.le_of_ble_eq_true rfl) (Nat.le_of_ble_eq_true rfl)
set_option maxRecDepth 100000 in
set_option maxHeartbeats 4000000 in
theorem cx_head (l : Launch) (x : XS) (m : MS) (o : Nat → Int64) (n : Nat) (hvc : fx_vc x = nI n) (hn : n ≤ 64) : zC l yX_head (Jvm.Cond.code yX_head bX_head 1 (some .long) :: Tw) 1 true 0 0 [.ref 0] (wx x m o) (.inl (some (.long (sBef (fx_links x) n)), wx x m o)) := by
  refine zC_of [some (.ref 0)] (by decide) rfl (Nat.le_of_ble_eq_true rfl) ?_
  intro p e s mm args below meth c D cI cJ as G hret hex hbd
  refine zz_aload_n G dX_head_0 rfl ?_
  refine zz_aload_n G dX_head_1 rfl ?_
  refine zz_get (v := .int (nI n)) G dX_head_2 flX_105 rfl (by rw [← hvc]; rfl) ?_
  refine zz_callVl (v := sBef (fx_links x) n) (w' := (wx x m o)) (As := [.int (nI n)]) (rest := []) G (cx_linkBefore l x m o n _ rfl (hn)) kX_108 dX_head_5 rfl rfl rfl rfl (Nat.le_of_ble_eq_true rfl) (fun _ => rfl) ⟨Nat.le_of_ble_eq_true rfl, Nat.le_of_ble_eq_true rfl⟩ ⟨Nat.le_of_ble_eq_true rfl, Nat.le_of_ble_eq_true rfl⟩ ?_
  exact zz_lret G hret dX_head_8 (rfl) (Nat.le_of_ble_eq_true rfl) (Nat.le_of_ble_eq_true rfl)
set_option maxRecDepth 100000 in
set_option maxHeartbeats 4000000 in
theorem cx_verify (l : Launch) (x : XS) (m : MS) (o : Nat → Int64) (n : Nat) (hvc : fx_vc x = nI n) (hn : n ≤ 64) : zC l yX_verify (Jvm.Cond.code yX_verify bX_verify 2 (some .int) :: Tw) 2 true 0 0 [.ref 0] (wx x m o) (.inl (some (.int (sVfy (fx_words x) (fx_links x) 0 n)), wx x m o)) := by
  refine zC_of [some (.ref 0), none] (by decide) rfl (Nat.le_of_ble_eq_true rfl) ?_
  intro p e s mm args below meth c D cI cJ as G hret hex hbd
  have loop : ∀ (d v : Nat), v + d = n → sVfy (fx_words x) (fx_links x) v d = sVfy (fx_words x) (fx_links x) 0 n → Z p l e (zrm 2) s mm args below meth c 2 D cI cJ as true 0 0 (zMQ below (.inl (some (.int (sVfy (fx_words x) (fx_links x) 0 n)), wx x m o)) D cI cJ as true s 0 0) 2 [some (.ref 0), some (.int (nI v))] [] (wx x m o) := by
    intro d
    induction d with
    | zero =>
      intro v hv hq
      have hv : n = v := by omega
      subst hv
      refine zz_iload_n G dX_verify_2 rfl ?_
      refine zz_aload_n G dX_verify_3 rfl ?_
      refine zz_get (v := .int (nI n)) G dX_verify_4 flX_105 rfl (by rw [← hvc]; rfl) ?_
      refine zz_icmp_ge (tgt := 35) G dX_verify_7 rfl (fun h7 => ?_) (fun h7 => (h7 (nI_le (Nat.le_refl _) (by omega))).elim)
      refine zz_iconst (v := 0) G dX_verify_35 (by decide) ?_
      exact zz_iret G hret dX_verify_36 (by rw [← hq]; rfl) (Nat.le_of_ble_eq_true rfl) (Nat.le_of_ble_eq_true rfl)
    | succ d ih =>
      intro v hv hq
      refine zz_iload_n G dX_verify_2 rfl ?_
      refine zz_aload_n G dX_verify_3 rfl ?_
      refine zz_get (v := .int (nI n)) G dX_verify_4 flX_105 rfl (by rw [← hvc]; rfl) ?_
      refine zz_icmp_ge (tgt := 35) G dX_verify_7 rfl (fun h7 => (nI_ge (by omega) (by omega) h7).elim) (fun h7 => ?_)
      refine zz_aload_n G dX_verify_10 rfl ?_
      refine zz_iload_n G dX_verify_11 rfl ?_
      refine zz_callVl (v := sLnk (fx_words x) v (sBef (fx_links x) v) 6) (w' := (wx x m o)) (As := [.int (nI v)]) (rest := []) G (cx_linkOfWords l x m o v _ rfl (by omega)) kX_112 dX_verify_12 rfl rfl rfl rfl (Nat.le_of_ble_eq_true rfl) (fun _ => rfl) ⟨Nat.le_of_ble_eq_true rfl, Nat.le_of_ble_eq_true rfl⟩ ⟨Nat.le_of_ble_eq_true rfl, Nat.le_of_ble_eq_true rfl⟩ ?_
      refine zz_aload_n G dX_verify_15 rfl ?_
      refine zz_get (v := .ref 2) G dX_verify_16 flX_13 rfl rfl ?_
      refine zz_iload_n G dX_verify_19 rfl ?_
      refine zz_lald (v := fx_links x v) G dX_verify_20 rfl (i1_in (by omega)) (by rw [i1_at (by omega)]) ?_
      refine zz_lcmp G dX_verify_21 ?_
      refine zz_if_eq (tgt := 29) G dX_verify_22 rfl (fun h22 => ?_) (fun h22 => ?_)
      · refine zz_iinc (v := nI (v + 1)) (lv' := [some (.ref 0), some (.int (nI (v + 1)))]) G dX_verify_29 rfl (by rw [nI_succ]; rfl) rfl ?_
        refine zz_goto (tgt := 2) G dX_verify_32 rfl ?_
        refine ih (v + 1) (by omega) ?_
        rw [← hq]
        show _ = (if sLnk (fx_words x) v (sBef (fx_links x) v) 6 = fx_links x v then _ else _)
        rw [if_pos ((lg_cmp_eq _ _).mp h22)]
      · refine zz_iload_n G dX_verify_25 rfl ?_
        refine zz_iconst (v := 1) G dX_verify_26 (by decide) ?_
        refine zz_iadd G dX_verify_27 ?_
        exact zz_iret G hret dX_verify_28 (by rw [← hq, show sVfy (fx_words x) (fx_links x) v (d + 1) = nI v + 1 from by show (if sLnk (fx_words x) v (sBef (fx_links x) v) 6 = fx_links x v then _ else _) = _; rw [if_neg (fun z => h22 ((lg_cmp_eq _ _).mpr z))]]) (Nat.le_of_ble_eq_true rfl) (Nat.le_of_ble_eq_true rfl)
  refine zz_iconst (v := 0) G dX_verify_0 (by decide) ?_
  refine zz_istore_n (lv' := [some (.ref 0), some (.int 0)]) G dX_verify_1 (Nat.le_of_ble_eq_true rfl) rfl ?_
  exact loop n 0 (by omega) rfl
set_option maxRecDepth 100000 in
set_option maxHeartbeats 4000000 in
theorem cx_tamper (l : Launch) (x : XS) (m : MS) (o : Nat → Int64) (n : Nat) (v k b : Int32) (hvc : fx_vc x = nI n) (hn : n ≤ 64) : zC l yX_tamper (Jvm.Cond.code yX_tamper bX_tamper 4 (some .boolean) :: Tw) 1 false 0 0 [.ref 0, .int v, .int k, .int b] (wx x m o) (rTamp x m o v k b) := by
  refine zC_of [some (.ref 0), some (.int v), some (.int k), some (.int b)] (by decide) rfl (Nat.le_of_ble_eq_true rfl) ?_
  intro p e s mm args below meth c D cI cJ as G hret hex hbd
  refine zz_aload_n G dX_tamper_0 rfl ?_
  refine zz_iload_n G dX_tamper_1 rfl ?_
  refine zz_callVi (v := sVer (fx_vc x) v) (w' := (wx x m o)) (As := [.int v]) (rest := []) G (cx_isVersion l x m o v) kX_115 dX_tamper_2 rfl rfl rfl rfl (Nat.le_of_ble_eq_true rfl) (fun _ => rfl) ⟨Nat.le_of_ble_eq_true rfl, Nat.le_of_ble_eq_true rfl⟩ ⟨Nat.le_of_ble_eq_true rfl, Nat.le_of_ble_eq_true rfl⟩ ?_
  refine zz_if_eq (tgt := 15) G dX_tamper_5 rfl (fun h5 => ?_) (fun h5 => ?_)
  · refine zz_iconst (v := 0) G dX_tamper_15 (by decide) ?_
    exact zz_zret G hret dX_tamper_16 rfl (by rw [rTamp, if_pos h5]) (Nat.le_of_ble_eq_true rfl) (Nat.le_of_ble_eq_true rfl)
  · refine zz_iload_n G dX_tamper_8 rfl ?_
    refine zz_callSi (v := sWrd k) (w' := (wx x m o)) (As := [.int k]) (rest := []) G (cx_isWord l x m o k) kX_99 dX_tamper_9 rfl rfl (Nat.le_of_ble_eq_true rfl) (fun _ => rfl) ⟨Nat.le_of_ble_eq_true rfl, Nat.le_of_ble_eq_true rfl⟩ ⟨Nat.le_of_ble_eq_true rfl, Nat.le_of_ble_eq_true rfl⟩ ?_
    refine zz_if_ne (tgt := 17) G dX_tamper_12 rfl (fun h12 => ?_) (fun h12 => ?_)
    · obtain ⟨v, hv, rfl⟩ := sVer_of hn (by rw [← hvc]; exact h5)
      obtain ⟨k, hk, rfl⟩ := sWrd_of h12
      refine zz_aload_n G dX_tamper_17 rfl ?_
      refine zz_get (v := .ref 1) G dX_tamper_18 flX_9 rfl rfl ?_
      refine zz_iload_n G dX_tamper_21 rfl ?_
      refine zz_bipush (v := 6) G dX_tamper_22 (by decide) ?_
      refine zz_imul G dX_tamper_24 ?_
      refine zz_iload_n G dX_tamper_25 rfl ?_
      refine zz_iadd G dX_tamper_26 ?_
      refine zz_iload_n G dX_tamper_27 rfl ?_
      refine zz_iast (w' := (wx (sx_words x (upd (fx_words x) (6 * v + k) b)) m o)) rfl G dX_tamper_28 rfl (ix_in (by omega) hk) (by rw [ix_at (by omega) hk]; rfl) ?_
      refine zz_aload_n G dX_tamper_29 rfl ?_
      refine zz_iconst (v := 1) G dX_tamper_30 (by decide) ?_
      refine zz_put (w' := (wx (sx_tam (sx_words x (upd (fx_words x) (6 * v + k) b)) 1) m o)) rfl G dX_tamper_31 flX_118 rfl rfl rfl (Nat.le_of_ble_eq_true rfl) rfl ?_
      refine zz_iconst (v := 1) G dX_tamper_34 (by decide) ?_
      exact zz_zret G hret dX_tamper_35 rfl (by rw [rTamp, if_neg h5, if_neg h12, nI_clamp (show v < 2 ^ 31 by omega), nI_clamp (show k < 2 ^ 31 by omega)]) (Nat.le_of_ble_eq_true rfl) (Nat.le_of_ble_eq_true rfl)
    · refine zz_iconst (v := 0) G dX_tamper_15 (by decide) ?_
      exact zz_zret G hret dX_tamper_16 rfl (by rw [rTamp, if_neg h5, if_pos h12]) (Nat.le_of_ble_eq_true rfl) (Nat.le_of_ble_eq_true rfl)
