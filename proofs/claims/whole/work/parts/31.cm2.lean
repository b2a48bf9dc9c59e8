set_option maxRecDepth 100000 in
set_option maxHeartbeats 4000000 in
theorem cm_post (l : Launch) (x : XS) (m : MS) (o : Nat → Int64) (d c1 a y : Int32) (n e1 : Nat) (hcl : fm_clock m = nI n) (hn : n ≤ 64) (hen : fm_entries m = nI e1) (he64 : e1 ≤ 64) (hlv : fm_touched m = 0 → ∀ j, j < e1 → ∃ v, sLast (fm_words m) (nI j) n = some v) : zC l yM_post (Jvm.Cond.code yM_post bM_post 6 (some .int) :: Tw) 4 false 0 0 [.ref 5, .int d, .int c1, .int a, .int y] (wx x m o) (qPost x m o n e1 d c1 a y) := by
  refine zC_of [some (.ref 5), some (.int d), some (.int c1), some (.int a), some (.int y), none] (by decide) rfl (Nat.le_of_ble_eq_true rfl) ?_
  intro p e s mm args below meth c D cI cJ as G hret hex hbd
  refine zz_aload_n G dM_post_0 rfl ?_
  refine zz_aload_n G dM_post_1 rfl ?_
  refine zz_get (v := .int (fm_touched m)) G dM_post_2 flM_65 rfl rfl ?_
  refine zz_if_eq (tgt := 12) G dM_post_5 rfl (fun h5 => ?_) (fun h5 => ?_)
  · refine zz_iconst (v := 0) G dM_post_12 (by decide) ?_
    refine zz_put (w' := (wx x (sm_code m 0) o)) rfl G dM_post_13 flM_23 rfl rfl rfl (Nat.le_of_ble_eq_true rfl) rfl ?_
    refine zz_aload_n G dM_post_16 rfl ?_
    refine zz_get (v := .int 0) G dM_post_17 flM_23 rfl rfl ?_
    refine zz_if_ne (tgt := 112) G dM_post_20 rfl (fun h20 => ((absurd h20 (by decide) : False)).elim) (fun h20 => ?_)
    refine zz_iload_n G dM_post_23 rfl ?_
    refine zz_callSi (v := sAcc d) (w' := (wx x (sm_code m 0) o)) (As := [.int d]) (rest := []) G (cm_isAccount l x (sm_code m 0) o d) kM_69 dM_post_24 rfl rfl (Nat.le_of_ble_eq_true rfl) (fun _ => rfl) ⟨Nat.le_of_ble_eq_true rfl, Nat.le_of_ble_eq_true rfl⟩ ⟨Nat.le_of_ble_eq_true rfl, Nat.le_of_ble_eq_true rfl⟩ ?_
    refine zz_if_eq (tgt := 58) G dM_post_27 rfl (fun h27 => ?_) (fun h27 => ?_)
    · refine zz_iconst (v := 0) G dM_post_58 (by decide) ?_
      refine zz_istore (lv' := [some (.ref 5), some (.int d), some (.int c1), some (.int a), some (.int y), some (.int 0)]) G dM_post_59 (Nat.le_of_ble_eq_true rfl) rfl ?_
      refine zz_aload_n G dM_post_61 rfl ?_
      refine zz_iload G dM_post_62 rfl ?_
      refine zz_if_ne (tgt := 71) G dM_post_64 rfl (fun h64 => ((absurd h64 (by decide) : False)).elim) (fun h64 => ?_)
      refine zz_iconst (v := 2) G dM_post_67 (by decide) ?_
      refine zz_goto (tgt := 109) G dM_post_68 rfl ?_
      refine zz_put (w' := (wx x (sm_code m 2) o)) rfl G dM_post_109 flM_23 rfl rfl rfl (Nat.le_of_ble_eq_true rfl) rfl ?_
      refine zz_aload_n G dM_post_112 rfl ?_
      refine zz_get (v := .int 2) G dM_post_113 flM_23 rfl rfl ?_
      refine zz_if_le (tgt := 121) G dM_post_116 rfl (fun h116 => ((absurd h116 (by decide) : False)).elim) (fun h116 => ?_)
      refine zz_iconst (v := 0) G dM_post_119 (by decide) ?_
      exact zz_iret G hret dM_post_120 (by rw [qPost, if_pos h5, if_pos h27] <;> rfl) (Nat.le_of_ble_eq_true rfl) (Nat.le_of_ble_eq_true rfl)
    · refine zz_iload_n G dM_post_30 rfl ?_
      refine zz_callSi (v := sAcc c1) (w' := (wx x (sm_code m 0) o)) (As := [.int c1]) (rest := []) G (cm_isAccount l x (sm_code m 0) o c1) kM_69 dM_post_31 rfl rfl (Nat.le_of_ble_eq_true rfl) (fun _ => rfl) ⟨Nat.le_of_ble_eq_true rfl, Nat.le_of_ble_eq_true rfl⟩ ⟨Nat.le_of_ble_eq_true rfl, Nat.le_of_ble_eq_true rfl⟩ ?_
      refine zz_if_eq (tgt := 58) G dM_post_34 rfl (fun h34 => ?_) (fun h34 => ?_)
      · refine zz_iconst (v := 0) G dM_post_58 (by decide) ?_
        refine zz_istore (lv' := [some (.ref 5), some (.int d), some (.int c1), some (.int a), some (.int y), some (.int 0)]) G dM_post_59 (Nat.le_of_ble_eq_true rfl) rfl ?_
        refine zz_aload_n G dM_post_61 rfl ?_
        refine zz_iload G dM_post_62 rfl ?_
        refine zz_if_ne (tgt := 71) G dM_post_64 rfl (fun h64 => ((absurd h64 (by decide) : False)).elim) (fun h64 => ?_)
        refine zz_iconst (v := 2) G dM_post_67 (by decide) ?_
        refine zz_goto (tgt := 109) G dM_post_68 rfl ?_
        refine zz_put (w' := (wx x (sm_code m 2) o)) rfl G dM_post_109 flM_23 rfl rfl rfl (Nat.le_of_ble_eq_true rfl) rfl ?_
        refine zz_aload_n G dM_post_112 rfl ?_
        refine zz_get (v := .int 2) G dM_post_113 flM_23 rfl rfl ?_
        refine zz_if_le (tgt := 121) G dM_post_116 rfl (fun h116 => ((absurd h116 (by decide) : False)).elim) (fun h116 => ?_)
        refine zz_iconst (v := 0) G dM_post_119 (by decide) ?_
        exact zz_iret G hret dM_post_120 (by rw [qPost, if_pos h5, if_neg h27, if_pos h34] <;> rfl) (Nat.le_of_ble_eq_true rfl) (Nat.le_of_ble_eq_true rfl)
      · refine zz_iload_n G dM_post_37 rfl ?_
        refine zz_iload_n G dM_post_38 rfl ?_
        refine zz_icmp_eq (tgt := 58) G dM_post_39 rfl (fun h39 => ?_) (fun h39 => ?_)
        · refine zz_iconst (v := 0) G dM_post_58 (by decide) ?_
          refine zz_istore (lv' := [some (.ref 5), some (.int d), some (.int c1), some (.int a), some (.int y), some (.int 0)]) G dM_post_59 (Nat.le_of_ble_eq_true rfl) rfl ?_
          refine zz_aload_n G dM_post_61 rfl ?_
          refine zz_iload G dM_post_62 rfl ?_
          refine zz_if_ne (tgt := 71) G dM_post_64 rfl (fun h64 => ((absurd h64 (by decide) : False)).elim) (fun h64 => ?_)
          refine zz_iconst (v := 2) G dM_post_67 (by decide) ?_
          refine zz_goto (tgt := 109) G dM_post_68 rfl ?_
          refine zz_put (w' := (wx x (sm_code m 2) o)) rfl G dM_post_109 flM_23 rfl rfl rfl (Nat.le_of_ble_eq_true rfl) rfl ?_
          refine zz_aload_n G dM_post_112 rfl ?_
          refine zz_get (v := .int 2) G dM_post_113 flM_23 rfl rfl ?_
          refine zz_if_le (tgt := 121) G dM_post_116 rfl (fun h116 => ((absurd h116 (by decide) : False)).elim) (fun h116 => ?_)
          refine zz_iconst (v := 0) G dM_post_119 (by decide) ?_
          exact zz_iret G hret dM_post_120 (by rw [qPost, if_pos h5, if_neg h27, if_neg h34, if_pos h39] <;> rfl) (Nat.le_of_ble_eq_true rfl) (Nat.le_of_ble_eq_true rfl)
        · refine zz_iload_n G dM_post_42 rfl ?_
          refine zz_if_le (tgt := 58) G dM_post_43 rfl (fun h43 => ?_) (fun h43 => ?_)
          · refine zz_iconst (v := 0) G dM_post_58 (by decide) ?_
            refine zz_istore (lv' := [some (.ref 5), some (.int d), some (.int c1), some (.int a), some (.int y), some (.int 0)]) G dM_post_59 (Nat.le_of_ble_eq_true rfl) rfl ?_
            refine zz_aload_n G dM_post_61 rfl ?_
            refine zz_iload G dM_post_62 rfl ?_
            refine zz_if_ne (tgt := 71) G dM_post_64 rfl (fun h64 => ((absurd h64 (by decide) : False)).elim) (fun h64 => ?_)
            refine zz_iconst (v := 2) G dM_post_67 (by decide) ?_
            refine zz_goto (tgt := 109) G dM_post_68 rfl ?_
            refine zz_put (w' := (wx x (sm_code m 2) o)) rfl G dM_post_109 flM_23 rfl rfl rfl (Nat.le_of_ble_eq_true rfl) rfl ?_
            refine zz_aload_n G dM_post_112 rfl ?_
            refine zz_get (v := .int 2) G dM_post_113 flM_23 rfl rfl ?_
            refine zz_if_le (tgt := 121) G dM_post_116 rfl (fun h116 => ((absurd h116 (by decide) : False)).elim) (fun h116 => ?_)
            refine zz_iconst (v := 0) G dM_post_119 (by decide) ?_
            exact zz_iret G hret dM_post_120 (by rw [qPost, if_pos h5, if_neg h27, if_neg h34, if_neg h39, if_pos h43] <;> rfl) (Nat.le_of_ble_eq_true rfl) (Nat.le_of_ble_eq_true rfl)
          · refine zz_iload G dM_post_46 rfl ?_
            refine zz_callSi (v := sDay y) (w' := (wx x (sm_code m 0) o)) (As := [.int y]) (rest := []) G (cm_isDay l x (sm_code m 0) o y) kM_73 dM_post_48 rfl rfl (Nat.le_of_ble_eq_true rfl) (fun _ => rfl) ⟨Nat.le_of_ble_eq_true rfl, Nat.le_of_ble_eq_true rfl⟩ ⟨Nat.le_of_ble_eq_true rfl, Nat.le_of_ble_eq_true rfl⟩ ?_
            refine zz_if_eq (tgt := 58) G dM_post_51 rfl (fun h51 => ?_) (fun h51 => ?_)
            · refine zz_iconst (v := 0) G dM_post_58 (by decide) ?_
              refine zz_istore (lv' := [some (.ref 5), some (.int d), some (.int c1), some (.int a), some (.int y), some (.int 0)]) G dM_post_59 (Nat.le_of_ble_eq_true rfl) rfl ?_
              refine zz_aload_n G dM_post_61 rfl ?_
              refine zz_iload G dM_post_62 rfl ?_
              refine zz_if_ne (tgt := 71) G dM_post_64 rfl (fun h64 => ((absurd h64 (by decide) : False)).elim) (fun h64 => ?_)
              refine zz_iconst (v := 2) G dM_post_67 (by decide) ?_
              refine zz_goto (tgt := 109) G dM_post_68 rfl ?_
              refine zz_put (w' := (wx x (sm_code m 2) o)) rfl G dM_post_109 flM_23 rfl rfl rfl (Nat.le_of_ble_eq_true rfl) rfl ?_
              refine zz_aload_n G dM_post_112 rfl ?_
              refine zz_get (v := .int 2) G dM_post_113 flM_23 rfl rfl ?_
              refine zz_if_le (tgt := 121) G dM_post_116 rfl (fun h116 => ((absurd h116 (by decide) : False)).elim) (fun h116 => ?_)
              refine zz_iconst (v := 0) G dM_post_119 (by decide) ?_
              exact zz_iret G hret dM_post_120 (by rw [qPost, if_pos h5, if_neg h27, if_neg h34, if_neg h39, if_neg h43, if_pos h51] <;> rfl) (Nat.le_of_ble_eq_true rfl) (Nat.le_of_ble_eq_true rfl)
            · refine zz_iconst (v := 1) G dM_post_54 (by decide) ?_
              refine zz_goto (tgt := 59) G dM_post_55 rfl ?_
              refine zz_istore (lv' := [some (.ref 5), some (.int d), some (.int c1), some (.int a), some (.int y), some (.int 1)]) G dM_post_59 (Nat.le_of_ble_eq_true rfl) rfl ?_
              refine zz_aload_n G dM_post_61 rfl ?_
              refine zz_iload G dM_post_62 rfl ?_
              refine zz_if_ne (tgt := 71) G dM_post_64 rfl (fun h64 => ?_) (fun h64 => ((absurd h64 (by decide) : False)).elim)
              refine zz_aload_n G dM_post_71 rfl ?_
              refine zz_get (v := .int (fm_clock m)) G dM_post_72 flM_27 rfl rfl ?_
              refine zz_bipush (v := 64) G dM_post_75 (by decide) ?_
              refine zz_icmp_ne (tgt := 84) G dM_post_77 rfl (fun h77 => ?_) (fun h77 => ?_)
              · refine zz_aload_n G dM_post_84 rfl ?_
                refine zz_iload_n G dM_post_85 rfl ?_
                refine zz_iload_n G dM_post_86 rfl ?_
                refine zz_i2l G dM_post_87 ?_
                refine zz_callVi (v := sMuch (fm_words m) d n e1 a.toInt64) (w' := (wx x (sm_code m 0) o)) (As := [.int d, .long a.toInt64]) (rest := [.ref 5]) G (cm_tooMuch l x (sm_code m 0) o d a.toInt64 n e1 hcl hn hen he64 (hlv h5)) kM_76 dM_post_88 rfl rfl rfl rfl (Nat.le_of_ble_eq_true rfl) (fun _ => rfl) ⟨Nat.le_of_ble_eq_true rfl, Nat.le_of_ble_eq_true rfl⟩ ⟨Nat.le_of_ble_eq_true rfl, Nat.le_of_ble_eq_true rfl⟩ ?_
                refine zz_if_ne (tgt := 104) G dM_post_91 rfl (fun h91 => ?_) (fun h91 => ?_)
                · refine zz_iconst (v := 4) G dM_post_104 (by decide) ?_
                  refine zz_goto (tgt := 109) G dM_post_105 rfl ?_
                  refine zz_put (w' := (wx x (sm_code m 4) o)) rfl G dM_post_109 flM_23 rfl rfl rfl (Nat.le_of_ble_eq_true rfl) rfl ?_
                  refine zz_aload_n G dM_post_112 rfl ?_
                  refine zz_get (v := .int 4) G dM_post_113 flM_23 rfl rfl ?_
                  refine zz_if_le (tgt := 121) G dM_post_116 rfl (fun h116 => ((absurd h116 (by decide) : False)).elim) (fun h116 => ?_)
                  refine zz_iconst (v := 0) G dM_post_119 (by decide) ?_
                  exact zz_iret G hret dM_post_120 (by rw [qPost, if_pos h5, if_neg h27, if_neg h34, if_neg h39, if_neg h43, if_neg h51, if_neg h77, if_neg h91] <;> rfl) (Nat.le_of_ble_eq_true rfl) (Nat.le_of_ble_eq_true rfl)
                · refine zz_aload_n G dM_post_94 rfl ?_
                  refine zz_iload_n G dM_post_95 rfl ?_
                  refine zz_iload_n G dM_post_96 rfl ?_
                  refine zz_i2l G dM_post_97 ?_
                  refine zz_callVi (v := sMuch (fm_words m) c1 n e1 a.toInt64) (w' := (wx x (sm_code m 0) o)) (As := [.int c1, .long a.toInt64]) (rest := [.ref 5]) G (cm_tooMuch l x (sm_code m 0) o c1 a.toInt64 n e1 hcl hn hen he64 (hlv h5)) kM_76 dM_post_98 rfl rfl rfl rfl (Nat.le_of_ble_eq_true rfl) (fun _ => rfl) ⟨Nat.le_of_ble_eq_true rfl, Nat.le_of_ble_eq_true rfl⟩ ⟨Nat.le_of_ble_eq_true rfl, Nat.le_of_ble_eq_true rfl⟩ ?_
                  refine zz_if_eq (tgt := 108) G dM_post_101 rfl (fun h101 => ?_) (fun h101 => ?_)
                  · refine zz_iconst (v := 0) G dM_post_108 (by decide) ?_
                    refine zz_put (w' := (wx x (sm_code m 0) o)) rfl G dM_post_109 flM_23 rfl rfl rfl (Nat.le_of_ble_eq_true rfl) rfl ?_
                    refine zz_aload_n G dM_post_112 rfl ?_
                    refine zz_get (v := .int 0) G dM_post_113 flM_23 rfl rfl ?_
                    refine zz_if_le (tgt := 121) G dM_post_116 rfl (fun h116 => ?_) (fun h116 => ((absurd h116 (by decide) : False)).elim)
                    refine zz_aload_n G dM_post_121 rfl ?_
                    refine zz_iconst (v := 0) G dM_post_122 (by decide) ?_
                    refine zz_aload_n G dM_post_123 rfl ?_
                    refine zz_get (v := .int (nI e1)) G dM_post_124 flM_42 rfl (by rw [← hen]; rfl) ?_
                    refine zz_iload_n G dM_post_127 rfl ?_
                    refine zz_iload_n G dM_post_128 rfl ?_
                    refine zz_iload_n G dM_post_129 rfl ?_
                    refine zz_iload G dM_post_130 rfl ?_
                    refine zz_callVi (v := nI n) (w' := (wx x (mApp (sm_code m 0) n 0 (nI e1) d c1 a y) o)) (As := [.int 0, .int (nI e1), .int d, .int c1, .int a, .int y]) (rest := []) G (cm_add l x (sm_code m 0) o n 0 (nI e1) d c1 a y hcl (ne64 hcl hn h77)) kM_80 dM_post_132 rfl rfl rfl rfl (Nat.le_of_ble_eq_true rfl) (fun h => by cases h) ⟨Nat.le_of_ble_eq_true rfl, Nat.le_of_ble_eq_true rfl⟩ ⟨Nat.le_of_ble_eq_true rfl, Nat.le_of_ble_eq_true rfl⟩ ?_
                    refine zz_popi G dM_post_135 ?_
                    refine zz_aload_n G dM_post_136 rfl ?_
                    refine zz_aload_n G dM_post_137 rfl ?_
                    refine zz_get (v := .int (nI e1)) G dM_post_138 flM_42 rfl (by rw [← hen]; rfl) ?_
                    refine zz_iconst (v := 1) G dM_post_141 (by decide) ?_
                    refine zz_iadd G dM_post_142 ?_
                    refine zz_put (w' := (wx x (sm_entries (mApp (sm_code m 0) n 0 (nI e1) d c1 a y) ((nI e1) + 1)) o)) rfl G dM_post_143 flM_42 rfl rfl rfl (Nat.le_of_ble_eq_true rfl) rfl ?_
                    refine zz_aload_n G dM_post_146 rfl ?_
                    refine zz_get (v := .int ((nI e1) + 1)) G dM_post_147 flM_42 rfl rfl ?_
                    refine zz_iconst (v := 1) G dM_post_150 (by decide) ?_
                    refine zz_isub G dM_post_151 ?_
                    exact zz_iret G hret dM_post_152 (by rw [qPost, if_pos h5, if_neg h27, if_neg h34, if_neg h39, if_neg h43, if_neg h51, if_neg h77, if_pos h91, if_pos h101] <;> rfl) (Nat.le_of_ble_eq_true rfl) (Nat.le_of_ble_eq_true rfl)
                  · refine zz_iconst (v := 4) G dM_post_104 (by decide) ?_
                    refine zz_goto (tgt := 109) G dM_post_105 rfl ?_
                    refine zz_put (w' := (wx x (sm_code m 4) o)) rfl G dM_post_109 flM_23 rfl rfl rfl (Nat.le_of_ble_eq_true rfl) rfl ?_
                    refine zz_aload_n G dM_post_112 rfl ?_
                    refine zz_get (v := .int 4) G dM_post_113 flM_23 rfl rfl ?_
                    refine zz_if_le (tgt := 121) G dM_post_116 rfl (fun h116 => ((absurd h116 (by decide) : False)).elim) (fun h116 => ?_)
                    refine zz_iconst (v := 0) G dM_post_119 (by decide) ?_
                    exact zz_iret G hret dM_post_120 (by rw [qPost, if_pos h5, if_neg h27, if_neg h34, if_neg h39, if_neg h43, if_neg h51, if_neg h77, if_pos h91, if_neg h101] <;> rfl) (Nat.le_of_ble_eq_true rfl) (Nat.le_of_ble_eq_true rfl)
              · refine zz_iconst (v := 3) G dM_post_80 (by decide) ?_
                refine zz_goto (tgt := 109) G dM_post_81 rfl ?_
                refine zz_put (w' := (wx x (sm_code m 3) o)) rfl G dM_post_109 flM_23 rfl rfl rfl (Nat.le_of_ble_eq_true rfl) rfl ?_
                refine zz_aload_n G dM_post_112 rfl ?_
                refine zz_get (v := .int 3) G dM_post_113 flM_23 rfl rfl ?_
                refine zz_if_le (tgt := 121) G dM_post_116 rfl (fun h116 => ((absurd h116 (by decide) : False)).elim) (fun h116 => ?_)
                refine zz_iconst (v := 0) G dM_post_119 (by decide) ?_
                exact zz_iret G hret dM_post_120 (by rw [qPost, if_pos h5, if_neg h27, if_neg h34, if_neg h39, if_neg h43, if_neg h51, if_pos h77] <;> rfl) (Nat.le_of_ble_eq_true rfl) (Nat.le_of_ble_eq_true rfl)
  · refine zz_iconst (v := 1) G dM_post_8 (by decide) ?_
    refine zz_goto (tgt := 13) G dM_post_9 rfl ?_
    refine zz_put (w' := (wx x (sm_code m 1) o)) rfl G dM_post_13 flM_23 rfl rfl rfl (Nat.le_of_ble_eq_true rfl) rfl ?_
    refine zz_aload_n G dM_post_16 rfl ?_
    refine zz_get (v := .int 1) G dM_post_17 flM_23 rfl rfl ?_
    refine zz_if_ne (tgt := 112) G dM_post_20 rfl (fun h20 => ?_) (fun h20 => ((absurd h20 (by decide) : False)).elim)
    refine zz_aload_n G dM_post_112 rfl ?_
    refine zz_get (v := .int 1) G dM_post_113 flM_23 rfl rfl ?_
    refine zz_if_le (tgt := 121) G dM_post_116 rfl (fun h116 => ((absurd h116 (by decide) : False)).elim) (fun h116 => ?_)
    refine zz_iconst (v := 0) G dM_post_119 (by decide) ?_
    exact zz_iret G hret dM_post_120 (by rw [qPost, if_neg h5] <;> rfl) (Nat.le_of_ble_eq_true rfl) (Nat.le_of_ble_eq_true rfl)
set_option maxRecDepth 100000 in
set_option maxHeartbeats 4000000 in
theorem cm_correct (l : Launch) (x : XS) (m : MS) (o : Nat → Int64) (en a : Int32) (n e1 : Nat) (hcl : fm_clock m = nI n) (hn : n ≤ 64) (hen : fm_entries m = nI e1) (he64 : e1 ≤ 64) (hlv : fm_touched m = 0 → ∀ j, j < e1 → ∃ v, sLast (fm_words m) (nI j) n = some v) : zC l yM_correct (Jvm.Cond.code yM_correct bM_correct 6 (some .int) :: Tw) 4 false 0 0 [.ref 5, .int en, .int a] (wx x m o) (qCorr x m o n e1 en a) := by
  refine zC_of [some (.ref 5), some (.int en), some (.int a), none, none, none] (by decide) rfl (Nat.le_of_ble_eq_true rfl) ?_
  intro p e s mm args below meth c D cI cJ as G hret hex hbd
  rcases hq : sLiv (fm_words m) n e1 en with _ | u
  · refine zz_aload_n G dM_correct_0 rfl ?_
    refine zz_aload_n G dM_correct_1 rfl ?_
    refine zz_get (v := .int (fm_touched m)) G dM_correct_2 flM_65 rfl rfl ?_
    refine zz_if_eq (tgt := 12) G dM_correct_5 rfl (fun h5 => ?_) (fun h5 => ?_)
    · refine zz_aload_n G dM_correct_12 rfl ?_
      refine zz_iload_n G dM_correct_13 rfl ?_
      refine zz_callVi (v := (-1)) (w' := (wx x m o)) (As := [.int en]) (rest := [.ref 5]) G (by have q := cm_living l x m o en n e1 hcl hn hen he64; rw [show sLiv (fm_words m) n e1 en = _ from hq] at q; exact q) kM_84 dM_correct_14 rfl rfl rfl rfl (Nat.le_of_ble_eq_true rfl) (fun _ => rfl) ⟨Nat.le_of_ble_eq_true rfl, Nat.le_of_ble_eq_true rfl⟩ ⟨Nat.le_of_ble_eq_true rfl, Nat.le_of_ble_eq_true rfl⟩ ?_
      refine zz_if_ge (tgt := 24) G dM_correct_17 rfl (fun h17 => ((absurd h17 (by decide) : False)).elim) (fun h17 => ?_)
      refine zz_iconst (v := 2) G dM_correct_20 (by decide) ?_
      refine zz_goto (tgt := 47) G dM_correct_21 rfl ?_
      refine zz_put (w' := (wx x (sm_code m 2) o)) rfl G dM_correct_47 flM_23 rfl rfl rfl (Nat.le_of_ble_eq_true rfl) rfl ?_
      refine zz_aload_n G dM_correct_50 rfl ?_
      refine zz_get (v := .int 2) G dM_correct_51 flM_23 rfl rfl ?_
      refine zz_if_le (tgt := 59) G dM_correct_54 rfl (fun h54 => ((absurd h54 (by decide) : False)).elim) (fun h54 => ?_)
      refine zz_iconst (v := 0) G dM_correct_57 (by decide) ?_
      exact zz_iret G hret dM_correct_58 (by rw [qCorr, if_pos h5, hq] <;> rfl) (Nat.le_of_ble_eq_true rfl) (Nat.le_of_ble_eq_true rfl)
    · refine zz_iconst (v := 1) G dM_correct_8 (by decide) ?_
      refine zz_goto (tgt := 47) G dM_correct_9 rfl ?_
      refine zz_put (w' := (wx x (sm_code m 1) o)) rfl G dM_correct_47 flM_23 rfl rfl rfl (Nat.le_of_ble_eq_true rfl) rfl ?_
      refine zz_aload_n G dM_correct_50 rfl ?_
      refine zz_get (v := .int 1) G dM_correct_51 flM_23 rfl rfl ?_
      refine zz_if_le (tgt := 59) G dM_correct_54 rfl (fun h54 => ((absurd h54 (by decide) : False)).elim) (fun h54 => ?_)
      refine zz_iconst (v := 0) G dM_correct_57 (by decide) ?_
      exact zz_iret G hret dM_correct_58 (by rw [qCorr, if_neg h5] <;> rfl) (Nat.le_of_ble_eq_true rfl) (Nat.le_of_ble_eq_true rfl)
  · have hu : u < n := sLiv_lt hq
    refine zz_aload_n G dM_correct_0 rfl ?_
    refine zz_aload_n G dM_correct_1 rfl ?_
    refine zz_get (v := .int (fm_touched m)) G dM_correct_2 flM_65 rfl rfl ?_
    refine zz_if_eq (tgt := 12) G dM_correct_5 rfl (fun h5 => ?_) (fun h5 => ?_)
    · refine zz_aload_n G dM_correct_12 rfl ?_
      refine zz_iload_n G dM_correct_13 rfl ?_
      refine zz_callVi (v := nI u) (w' := (wx x m o)) (As := [.int en]) (rest := [.ref 5]) G (by have q := cm_living l x m o en n e1 hcl hn hen he64; rw [show sLiv (fm_words m) n e1 en = _ from hq] at q; exact q) kM_84 dM_correct_14 rfl rfl rfl rfl (Nat.le_of_ble_eq_true rfl) (fun _ => rfl) ⟨Nat.le_of_ble_eq_true rfl, Nat.le_of_ble_eq_true rfl⟩ ⟨Nat.le_of_ble_eq_true rfl, Nat.le_of_ble_eq_true rfl⟩ ?_
      refine zz_if_ge (tgt := 24) G dM_correct_17 rfl (fun h17 => ?_) (fun h17 => (h17 (i32_nn (nI_pos (show u < 2 ^ 31 by omega)))).elim)
      refine zz_iload_n G dM_correct_24 rfl ?_
      refine zz_iconst (v := 1) G dM_correct_25 (by decide) ?_
      refine zz_icmp_ge (tgt := 33) G dM_correct_26 rfl (fun h26 => ?_) (fun h26 => ?_)
      · refine zz_aload_n G dM_correct_33 rfl ?_
        refine zz_get (v := .int (fm_clock m)) G dM_correct_34 flM_27 rfl rfl ?_
        refine zz_bipush (v := 64) G dM_correct_37 (by decide) ?_
        refine zz_icmp_ne (tgt := 46) G dM_correct_39 rfl (fun h39 => ?_) (fun h39 => ?_)
        · refine zz_iconst (v := 0) G dM_correct_46 (by decide) ?_
          refine zz_put (w' := (wx x (sm_code m 0) o)) rfl G dM_correct_47 flM_23 rfl rfl rfl (Nat.le_of_ble_eq_true rfl) rfl ?_
          refine zz_aload_n G dM_correct_50 rfl ?_
          refine zz_get (v := .int 0) G dM_correct_51 flM_23 rfl rfl ?_
          refine zz_if_le (tgt := 59) G dM_correct_54 rfl (fun h54 => ?_) (fun h54 => ((absurd h54 (by decide) : False)).elim)
          refine zz_aload_n G dM_correct_59 rfl ?_
          refine zz_iload_n G dM_correct_60 rfl ?_
          refine zz_callVi (v := nI u) (w' := (wx x (sm_code m 0) o)) (As := [.int en]) (rest := []) G (by have q := cm_living l x (sm_code m 0) o en n e1 hcl hn hen he64; rw [show sLiv (fm_words (sm_code m 0)) n e1 en = _ from hq] at q; exact q) kM_84 dM_correct_61 rfl rfl rfl rfl (Nat.le_of_ble_eq_true rfl) (fun _ => rfl) ⟨Nat.le_of_ble_eq_true rfl, Nat.le_of_ble_eq_true rfl⟩ ⟨Nat.le_of_ble_eq_true rfl, Nat.le_of_ble_eq_true rfl⟩ ?_
          refine zz_istore_n (lv' := [some (.ref 5), some (.int en), some (.int a), some (.int (nI u)), none, none]) G dM_correct_64 (Nat.le_of_ble_eq_true rfl) rfl ?_
          refine zz_iload_n G dM_correct_65 rfl ?_
          refine zz_i2l G dM_correct_66 ?_
          refine zz_aload_n G dM_correct_67 rfl ?_
          refine zz_iload_n G dM_correct_68 rfl ?_
          refine zz_iconst (v := 4) G dM_correct_69 (by decide) ?_
          refine zz_callVi (v := fm_words m (6 * u + 4)) (w' := (wx x (sm_code m 0) o)) (As := [.int (nI u), .int 4]) (rest := [.long a.toInt64]) G (cm_word l x (sm_code m 0) o u 4 _ _ rfl rfl (by omega) (by decide)) kM_30 dM_correct_70 rfl rfl rfl rfl (Nat.le_of_ble_eq_true rfl) (fun _ => rfl) ⟨Nat.le_of_ble_eq_true rfl, Nat.le_of_ble_eq_true rfl⟩ ⟨Nat.le_of_ble_eq_true rfl, Nat.le_of_ble_eq_true rfl⟩ ?_
          refine zz_i2l G dM_correct_73 ?_
          refine zz_lsub G dM_correct_74 ?_
          refine zz_lstore (lv' := [some (.ref 5), some (.int en), some (.int a), some (.int (nI u)), some (.long (a.toInt64 - ((fm_words m (6 * u + 4)).toInt64))), none]) G dM_correct_75 (Nat.le_of_ble_eq_true rfl) rfl ?_
          refine zz_aload_n G dM_correct_77 rfl ?_
          refine zz_aload_n G dM_correct_78 rfl ?_
          refine zz_aload_n G dM_correct_79 rfl ?_
          refine zz_iload_n G dM_correct_80 rfl ?_
          refine zz_iconst (v := 2) G dM_correct_81 (by decide) ?_
          refine zz_callVi (v := fm_words m (6 * u + 2)) (w' := (wx x (sm_code m 0) o)) (As := [.int (nI u), .int 2]) (rest := [.ref 5, .ref 5]) G (cm_word l x (sm_code m 0) o u 2 _ _ rfl rfl (by omega) (by decide)) kM_30 dM_correct_82 rfl rfl rfl rfl (Nat.le_of_ble_eq_true rfl) (fun _ => rfl) ⟨Nat.le_of_ble_eq_true rfl, Nat.le_of_ble_eq_true rfl⟩ ⟨Nat.le_of_ble_eq_true rfl, Nat.le_of_ble_eq_true rfl⟩ ?_
          refine zz_lload G dM_correct_85 rfl ?_
          refine zz_callVi (v := sMuch (fm_words m) (fm_words m (6 * u + 2)) n e1 (a.toInt64 - ((fm_words m (6 * u + 4)).toInt64))) (w' := (wx x (sm_code m 0) o)) (As := [.int (fm_words m (6 * u + 2)), .long (a.toInt64 - ((fm_words m (6 * u + 4)).toInt64))]) (rest := [.ref 5]) G (cm_tooMuch l x (sm_code m 0) o (fm_words m (6 * u + 2)) (a.toInt64 - ((fm_words m (6 * u + 4)).toInt64)) n e1 hcl hn hen he64 (hlv h5)) kM_76 dM_correct_87 rfl rfl rfl rfl (Nat.le_of_ble_eq_true rfl) (fun _ => rfl) ⟨Nat.le_of_ble_eq_true rfl, Nat.le_of_ble_eq_true rfl⟩ ⟨Nat.le_of_ble_eq_true rfl, Nat.le_of_ble_eq_true rfl⟩ ?_
          refine zz_if_ne (tgt := 108) G dM_correct_90 rfl (fun h90 => ?_) (fun h90 => ?_)
          · refine zz_iconst (v := 5) G dM_correct_108 (by decide) ?_
            refine zz_goto (tgt := 113) G dM_correct_109 rfl ?_
            refine zz_put (w' := (wx x (sm_code m 5) o)) rfl G dM_correct_113 flM_23 rfl rfl rfl (Nat.le_of_ble_eq_true rfl) rfl ?_
            refine zz_aload_n G dM_correct_116 rfl ?_
            refine zz_get (v := .int 5) G dM_correct_117 flM_23 rfl rfl ?_
            refine zz_if_le (tgt := 127) G dM_correct_120 rfl (fun h120 => ((absurd h120 (by decide) : False)).elim) (fun h120 => ?_)
            refine zz_iconst (v := 0) G dM_correct_123 (by decide) ?_
            refine zz_goto (tgt := 152) G dM_correct_124 rfl ?_
            exact zz_iret G hret dM_correct_152 (by rw [qCorr, if_pos h5, hq]; show (if 1 ≤ a then _ else _) = _; rw [if_pos h26, if_neg h39, if_neg h90] <;> rfl) (Nat.le_of_ble_eq_true rfl) (Nat.le_of_ble_eq_true rfl)
          · refine zz_aload_n G dM_correct_93 rfl ?_
            refine zz_aload_n G dM_correct_94 rfl ?_
            refine zz_iload_n G dM_correct_95 rfl ?_
            refine zz_iconst (v := 3) G dM_correct_96 (by decide) ?_
            refine zz_callVi (v := fm_words m (6 * u + 3)) (w' := (wx x (sm_code m 0) o)) (As := [.int (nI u), .int 3]) (rest := [.ref 5, .ref 5]) G (cm_word l x (sm_code m 0) o u 3 _ _ rfl rfl (by omega) (by decide)) kM_30 dM_correct_97 rfl rfl rfl rfl (Nat.le_of_ble_eq_true rfl) (fun _ => rfl) ⟨Nat.le_of_ble_eq_true rfl, Nat.le_of_ble_eq_true rfl⟩ ⟨Nat.le_of_ble_eq_true rfl, Nat.le_of_ble_eq_true rfl⟩ ?_
            refine zz_lload G dM_correct_100 rfl ?_
            refine zz_callVi (v := sMuch (fm_words m) (fm_words m (6 * u + 3)) n e1 (a.toInt64 - ((fm_words m (6 * u + 4)).toInt64))) (w' := (wx x (sm_code m 0) o)) (As := [.int (fm_words m (6 * u + 3)), .long (a.toInt64 - ((fm_words m (6 * u + 4)).toInt64))]) (rest := [.ref 5]) G (cm_tooMuch l x (sm_code m 0) o (fm_words m (6 * u + 3)) (a.toInt64 - ((fm_words m (6 * u + 4)).toInt64)) n e1 hcl hn hen he64 (hlv h5)) kM_76 dM_correct_102 rfl rfl rfl rfl (Nat.le_of_ble_eq_true rfl) (fun _ => rfl) ⟨Nat.le_of_ble_eq_true rfl, Nat.le_of_ble_eq_true rfl⟩ ⟨Nat.le_of_ble_eq_true rfl, Nat.le_of_ble_eq_true rfl⟩ ?_
            refine zz_if_eq (tgt := 112) G dM_correct_105 rfl (fun h105 => ?_) (fun h105 => ?_)
            · refine zz_iconst (v := 0) G dM_correct_112 (by decide) ?_
              refine zz_put (w' := (wx x (sm_code m 0) o)) rfl G dM_correct_113 flM_23 rfl rfl rfl (Nat.le_of_ble_eq_true rfl) rfl ?_
              refine zz_aload_n G dM_correct_116 rfl ?_
              refine zz_get (v := .int 0) G dM_correct_117 flM_23 rfl rfl ?_
              refine zz_if_le (tgt := 127) G dM_correct_120 rfl (fun h120 => ?_) (fun h120 => ((absurd h120 (by decide) : False)).elim)
              refine zz_aload_n G dM_correct_127 rfl ?_
              refine zz_iconst (v := 1) G dM_correct_128 (by decide) ?_
              refine zz_iload_n G dM_correct_129 rfl ?_
              refine zz_aload_n G dM_correct_130 rfl ?_
              refine zz_iload_n G dM_correct_131 rfl ?_
              refine zz_iconst (v := 2) G dM_correct_132 (by decide) ?_
              refine zz_callVi (v := fm_words m (6 * u + 2)) (w' := (wx x (sm_code m 0) o)) (As := [.int (nI u), .int 2]) (rest := [.int en, .int 1, .ref 5]) G (cm_word l x (sm_code m 0) o u 2 _ _ rfl rfl (by omega) (by decide)) kM_30 dM_correct_133 rfl rfl rfl rfl (Nat.le_of_ble_eq_true rfl) (fun _ => rfl) ⟨Nat.le_of_ble_eq_true rfl, Nat.le_of_ble_eq_true rfl⟩ ⟨Nat.le_of_ble_eq_true rfl, Nat.le_of_ble_eq_true rfl⟩ ?_
              refine zz_aload_n G dM_correct_136 rfl ?_
              refine zz_iload_n G dM_correct_137 rfl ?_
              refine zz_iconst (v := 3) G dM_correct_138 (by decide) ?_
              refine zz_callVi (v := fm_words m (6 * u + 3)) (w' := (wx x (sm_code m 0) o)) (As := [.int (nI u), .int 3]) (rest := [.int (fm_words m (6 * u + 2)), .int en, .int 1, .ref 5]) G (cm_word l x (sm_code m 0) o u 3 _ _ rfl rfl (by omega) (by decide)) kM_30 dM_correct_139 rfl rfl rfl rfl (Nat.le_of_ble_eq_true rfl) (fun _ => rfl) ⟨Nat.le_of_ble_eq_true rfl, Nat.le_of_ble_eq_true rfl⟩ ⟨Nat.le_of_ble_eq_true rfl, Nat.le_of_ble_eq_true rfl⟩ ?_
              refine zz_iload_n G dM_correct_142 rfl ?_
              refine zz_aload_n G dM_correct_143 rfl ?_
              refine zz_iload_n G dM_correct_144 rfl ?_
              refine zz_iconst (v := 5) G dM_correct_145 (by decide) ?_
              refine zz_callVi (v := fm_words m (6 * u + 5)) (w' := (wx x (sm_code m 0) o)) (As := [.int (nI u), .int 5]) (rest := [.int a, .int (fm_words m (6 * u + 3)), .int (fm_words m (6 * u + 2)), .int en, .int 1, .ref 5]) G (cm_word l x (sm_code m 0) o u 5 _ _ rfl rfl (by omega) (by decide)) kM_30 dM_correct_146 rfl rfl rfl rfl (Nat.le_of_ble_eq_true rfl) (fun _ => rfl) ⟨Nat.le_of_ble_eq_true rfl, Nat.le_of_ble_eq_true rfl⟩ ⟨Nat.le_of_ble_eq_true rfl, Nat.le_of_ble_eq_true rfl⟩ ?_
              refine zz_callVi (v := nI n) (w' := (wx x (mApp (sm_code m 0) n 1 en (fm_words m (6 * u + 2)) (fm_words m (6 * u + 3)) a (fm_words m (6 * u + 5))) o)) (As := [.int 1, .int en, .int (fm_words m (6 * u + 2)), .int (fm_words m (6 * u + 3)), .int a, .int (fm_words m (6 * u + 5))]) (rest := []) G (cm_add l x (sm_code m 0) o n 1 en (fm_words m (6 * u + 2)) (fm_words m (6 * u + 3)) a (fm_words m (6 * u + 5)) hcl (ne64 hcl hn h39)) kM_80 dM_correct_149 rfl rfl rfl rfl (Nat.le_of_ble_eq_true rfl) (fun h => by cases h) ⟨Nat.le_of_ble_eq_true rfl, Nat.le_of_ble_eq_true rfl⟩ ⟨Nat.le_of_ble_eq_true rfl, Nat.le_of_ble_eq_true rfl⟩ ?_
              exact zz_iret G hret dM_correct_152 (by rw [qCorr, if_pos h5, hq]; show (if 1 ≤ a then _ else _) = _; rw [if_pos h26, if_neg h39, if_pos h90, if_pos h105] <;> rfl) (Nat.le_of_ble_eq_true rfl) (Nat.le_of_ble_eq_true rfl)
            · refine zz_iconst (v := 5) G dM_correct_108 (by decide) ?_
              refine zz_goto (tgt := 113) G dM_correct_109 rfl ?_
              refine zz_put (w' := (wx x (sm_code m 5) o)) rfl G dM_correct_113 flM_23 rfl rfl rfl (Nat.le_of_ble_eq_true rfl) rfl ?_
              refine zz_aload_n G dM_correct_116 rfl ?_
              refine zz_get (v := .int 5) G dM_correct_117 flM_23 rfl rfl ?_
              refine zz_if_le (tgt := 127) G dM_correct_120 rfl (fun h120 => ((absurd h120 (by decide) : False)).elim) (fun h120 => ?_)
              refine zz_iconst (v := 0) G dM_correct_123 (by decide) ?_
              refine zz_goto (tgt := 152) G dM_correct_124 rfl ?_
              exact zz_iret G hret dM_correct_152 (by rw [qCorr, if_pos h5, hq]; show (if 1 ≤ a then _ else _) = _; rw [if_pos h26, if_neg h39, if_pos h90, if_neg h105] <;> rfl) (Nat.le_of_ble_eq_true rfl) (Nat.le_of_ble_eq_true rfl)
        · refine zz_iconst (v := 4) G dM_correct_42 (by decide) ?_
          refine zz_goto (tgt := 47) G dM_correct_43 rfl ?_
          refine zz_put (w' := (wx x (sm_code m 4) o)) rfl G dM_correct_47 flM_23 rfl rfl rfl (Nat.le_of_ble_eq_true rfl) rfl ?_
          refine zz_aload_n G dM_correct_50 rfl ?_
          refine zz_get (v := .int 4) G dM_correct_51 flM_23 rfl rfl ?_
          refine zz_if_le (tgt := 59) G dM_correct_54 rfl (fun h54 => ((absurd h54 (by decide) : False)).elim) (fun h54 => ?_)
          refine zz_iconst (v := 0) G dM_correct_57 (by decide) ?_
          exact zz_iret G hret dM_correct_58 (by rw [qCorr, if_pos h5, hq]; show (if 1 ≤ a then _ else _) = _; rw [if_pos h26, if_pos h39] <;> rfl) (Nat.le_of_ble_eq_true rfl) (Nat.le_of_ble_eq_true rfl)
      · refine zz_iconst (v := 3) G dM_correct_29 (by decide) ?_
        refine zz_goto (tgt := 47) G dM_correct_30 rfl ?_
        refine zz_put (w' := (wx x (sm_code m 3) o)) rfl G dM_correct_47 flM_23 rfl rfl rfl (Nat.le_of_ble_eq_true rfl) rfl ?_
        refine zz_aload_n G dM_correct_50 rfl ?_
        refine zz_get (v := .int 3) G dM_correct_51 flM_23 rfl rfl ?_
        refine zz_if_le (tgt := 59) G dM_correct_54 rfl (fun h54 => ((absurd h54 (by decide) : False)).elim) (fun h54 => ?_)
        refine zz_iconst (v := 0) G dM_correct_57 (by decide) ?_
        exact zz_iret G hret dM_correct_58 (by rw [qCorr, if_pos h5, hq]; show (if 1 ≤ a then _ else _) = _; rw [if_neg h26] <;> rfl) (Nat.le_of_ble_eq_true rfl) (Nat.le_of_ble_eq_true rfl)
    · refine zz_iconst (v := 1) G dM_correct_8 (by decide) ?_
      refine zz_goto (tgt := 47) G dM_correct_9 rfl ?_
      refine zz_put (w' := (wx x (sm_code m 1) o)) rfl G dM_correct_47 flM_23 rfl rfl rfl (Nat.le_of_ble_eq_true rfl) rfl ?_
      refine zz_aload_n G dM_correct_50 rfl ?_
      refine zz_get (v := .int 1) G dM_correct_51 flM_23 rfl rfl ?_
      refine zz_if_le (tgt := 59) G dM_correct_54 rfl (fun h54 => ((absurd h54 (by decide) : False)).elim) (fun h54 => ?_)
      refine zz_iconst (v := 0) G dM_correct_57 (by decide) ?_
      exact zz_iret G hret dM_correct_58 (by rw [qCorr, if_neg h5] <;> rfl) (Nat.le_of_ble_eq_true rfl) (Nat.le_of_ble_eq_true rfl)
set_option maxRecDepth 100000 in
set_option maxHeartbeats 4000000 in
theorem cm_annul (l : Launch) (x : XS) (m : MS) (o : Nat → Int64) (en : Int32) (n e1 : Nat) (hcl : fm_clock m = nI n) (hn : n ≤ 64) (hen : fm_entries m = nI e1) (he64 : e1 ≤ 64) : zC l yM_annul (Jvm.Cond.code yM_annul bM_annul 3 (some .int) :: Tw) 4 false 0 0 [.ref 5, .int en] (wx x m o) (qAnn x m o n e1 en) := by
  refine zC_of [some (.ref 5), some (.int en), none] (by decide) rfl (Nat.le_of_ble_eq_true rfl) ?_
  intro p e s mm args below meth c D cI cJ as G hret hex hbd
  rcases hq : sLiv (fm_words m) n e1 en with _ | u
  · refine zz_aload_n G dM_annul_0 rfl ?_
    refine zz_aload_n G dM_annul_1 rfl ?_
    refine zz_get (v := .int (fm_touched m)) G dM_annul_2 flM_65 rfl rfl ?_
    refine zz_if_eq (tgt := 12) G dM_annul_5 rfl (fun h5 => ?_) (fun h5 => ?_)
    · refine zz_aload_n G dM_annul_12 rfl ?_
      refine zz_iload_n G dM_annul_13 rfl ?_
      refine zz_callVi (v := (-1)) (w' := (wx x m o)) (As := [.int en]) (rest := [.ref 5]) G (by have q := cm_living l x m o en n e1 hcl hn hen he64; rw [show sLiv (fm_words m) n e1 en = _ from hq] at q; exact q) kM_84 dM_annul_14 rfl rfl rfl rfl (Nat.le_of_ble_eq_true rfl) (fun _ => rfl) ⟨Nat.le_of_ble_eq_true rfl, Nat.le_of_ble_eq_true rfl⟩ ⟨Nat.le_of_ble_eq_true rfl, Nat.le_of_ble_eq_true rfl⟩ ?_
      refine zz_if_ge (tgt := 24) G dM_annul_17 rfl (fun h17 => ((absurd h17 (by decide) : False)).elim) (fun h17 => ?_)
      refine zz_iconst (v := 2) G dM_annul_20 (by decide) ?_
      refine zz_goto (tgt := 38) G dM_annul_21 rfl ?_
      refine zz_put (w' := (wx x (sm_code m 2) o)) rfl G dM_annul_38 flM_23 rfl rfl rfl (Nat.le_of_ble_eq_true rfl) rfl ?_
      refine zz_aload_n G dM_annul_41 rfl ?_
      refine zz_get (v := .int 2) G dM_annul_42 flM_23 rfl rfl ?_
      refine zz_if_le (tgt := 50) G dM_annul_45 rfl (fun h45 => ((absurd h45 (by decide) : False)).elim) (fun h45 => ?_)
      refine zz_iconst (v := 0) G dM_annul_48 (by decide) ?_
      exact zz_iret G hret dM_annul_49 (by rw [qAnn, if_pos h5, hq] <;> rfl) (Nat.le_of_ble_eq_true rfl) (Nat.le_of_ble_eq_true rfl)
    · refine zz_iconst (v := 1) G dM_annul_8 (by decide) ?_
      refine zz_goto (tgt := 38) G dM_annul_9 rfl ?_
      refine zz_put (w' := (wx x (sm_code m 1) o)) rfl G dM_annul_38 flM_23 rfl rfl rfl (Nat.le_of_ble_eq_true rfl) rfl ?_
      refine zz_aload_n G dM_annul_41 rfl ?_
      refine zz_get (v := .int 1) G dM_annul_42 flM_23 rfl rfl ?_
      refine zz_if_le (tgt := 50) G dM_annul_45 rfl (fun h45 => ((absurd h45 (by decide) : False)).elim) (fun h45 => ?_)
      refine zz_iconst (v := 0) G dM_annul_48 (by decide) ?_
      exact zz_iret G hret dM_annul_49 (by rw [qAnn, if_neg h5] <;> rfl) (Nat.le_of_ble_eq_true rfl) (Nat.le_of_ble_eq_true rfl)
  · have hu : u < n := sLiv_lt hq
    refine zz_aload_n G dM_annul_0 rfl ?_
    refine zz_aload_n G dM_annul_1 rfl ?_
    refine zz_get (v := .int (fm_touched m)) G dM_annul_2 flM_65 rfl rfl ?_
    refine zz_if_eq (tgt := 12) G dM_annul_5 rfl (fun h5 => ?_) (fun h5 => ?_)
    · refine zz_aload_n G dM_annul_12 rfl ?_
      refine zz_iload_n G dM_annul_13 rfl ?_
      refine zz_callVi (v := nI u) (w' := (wx x m o)) (As := [.int en]) (rest := [.ref 5]) G (by have q := cm_living l x m o en n e1 hcl hn hen he64; rw [show sLiv (fm_words m) n e1 en = _ from hq] at q; exact q) kM_84 dM_annul_14 rfl rfl rfl rfl (Nat.le_of_ble_eq_true rfl) (fun _ => rfl) ⟨Nat.le_of_ble_eq_true rfl, Nat.le_of_ble_eq_true rfl⟩ ⟨Nat.le_of_ble_eq_true rfl, Nat.le_of_ble_eq_true rfl⟩ ?_
      refine zz_if_ge (tgt := 24) G dM_annul_17 rfl (fun h17 => ?_) (fun h17 => (h17 (i32_nn (nI_pos (show u < 2 ^ 31 by omega)))).elim)
      refine zz_aload_n G dM_annul_24 rfl ?_
      refine zz_get (v := .int (fm_clock m)) G dM_annul_25 flM_27 rfl rfl ?_
      refine zz_bipush (v := 64) G dM_annul_28 (by decide) ?_
      refine zz_icmp_ne (tgt := 37) G dM_annul_30 rfl (fun h30 => ?_) (fun h30 => ?_)
      · refine zz_iconst (v := 0) G dM_annul_37 (by decide) ?_
        refine zz_put (w' := (wx x (sm_code m 0) o)) rfl G dM_annul_38 flM_23 rfl rfl rfl (Nat.le_of_ble_eq_true rfl) rfl ?_
        refine zz_aload_n G dM_annul_41 rfl ?_
        refine zz_get (v := .int 0) G dM_annul_42 flM_23 rfl rfl ?_
        refine zz_if_le (tgt := 50) G dM_annul_45 rfl (fun h45 => ?_) (fun h45 => ((absurd h45 (by decide) : False)).elim)
        refine zz_aload_n G dM_annul_50 rfl ?_
        refine zz_iload_n G dM_annul_51 rfl ?_
        refine zz_callVi (v := nI u) (w' := (wx x (sm_code m 0) o)) (As := [.int en]) (rest := []) G (by have q := cm_living l x (sm_code m 0) o en n e1 hcl hn hen he64; rw [show sLiv (fm_words (sm_code m 0)) n e1 en = _ from hq] at q; exact q) kM_84 dM_annul_52 rfl rfl rfl rfl (Nat.le_of_ble_eq_true rfl) (fun _ => rfl) ⟨Nat.le_of_ble_eq_true rfl, Nat.le_of_ble_eq_true rfl⟩ ⟨Nat.le_of_ble_eq_true rfl, Nat.le_of_ble_eq_true rfl⟩ ?_
        refine zz_istore_n (lv' := [some (.ref 5), some (.int en), some (.int (nI u))]) G dM_annul_55 (Nat.le_of_ble_eq_true rfl) rfl ?_
        refine zz_aload_n G dM_annul_56 rfl ?_
        refine zz_iconst (v := 2) G dM_annul_57 (by decide) ?_
        refine zz_iload_n G dM_annul_58 rfl ?_
        refine zz_aload_n G dM_annul_59 rfl ?_
        refine zz_iload_n G dM_annul_60 rfl ?_
        refine zz_iconst (v := 2) G dM_annul_61 (by decide) ?_
        refine zz_callVi (v := fm_words m (6 * u + 2)) (w' := (wx x (sm_code m 0) o)) (As := [.int (nI u), .int 2]) (rest := [.int en, .int 2, .ref 5]) G (cm_word l x (sm_code m 0) o u 2 _ _ rfl rfl (by omega) (by decide)) kM_30 dM_annul_62 rfl rfl rfl rfl (Nat.le_of_ble_eq_true rfl) (fun _ => rfl) ⟨Nat.le_of_ble_eq_true rfl, Nat.le_of_ble_eq_true rfl⟩ ⟨Nat.le_of_ble_eq_true rfl, Nat.le_of_ble_eq_true rfl⟩ ?_
        refine zz_aload_n G dM_annul_65 rfl ?_
        refine zz_iload_n G dM_annul_66 rfl ?_
        refine zz_iconst (v := 3) G dM_annul_67 (by decide) ?_
        refine zz_callVi (v := fm_words m (6 * u + 3)) (w' := (wx x (sm_code m 0) o)) (As := [.int (nI u), .int 3]) (rest := [.int (fm_words m (6 * u + 2)), .int en, .int 2, .ref 5]) G (cm_word l x (sm_code m 0) o u 3 _ _ rfl rfl (by omega) (by decide)) kM_30 dM_annul_68 rfl rfl rfl rfl (Nat.le_of_ble_eq_true rfl) (fun _ => rfl) ⟨Nat.le_of_ble_eq_true rfl, Nat.le_of_ble_eq_true rfl⟩ ⟨Nat.le_of_ble_eq_true rfl, Nat.le_of_ble_eq_true rfl⟩ ?_
        refine zz_iconst (v := 0) G dM_annul_71 (by decide) ?_
        refine zz_aload_n G dM_annul_72 rfl ?_
        refine zz_iload_n G dM_annul_73 rfl ?_
        refine zz_iconst (v := 5) G dM_annul_74 (by decide) ?_
        refine zz_callVi (v := fm_words m (6 * u + 5)) (w' := (wx x (sm_code m 0) o)) (As := [.int (nI u), .int 5]) (rest := [.int 0, .int (fm_words m (6 * u + 3)), .int (fm_words m (6 * u + 2)), .int en, .int 2, .ref 5]) G (cm_word l x (sm_code m 0) o u 5 _ _ rfl rfl (by omega) (by decide)) kM_30 dM_annul_75 rfl rfl rfl rfl (Nat.le_of_ble_eq_true rfl) (fun _ => rfl) ⟨Nat.le_of_ble_eq_true rfl, Nat.le_of_ble_eq_true rfl⟩ ⟨Nat.le_of_ble_eq_true rfl, Nat.le_of_ble_eq_true rfl⟩ ?_
        refine zz_callVi (v := nI n) (w' := (wx x (mApp (sm_code m 0) n 2 en (fm_words m (6 * u + 2)) (fm_words m (6 * u + 3)) 0 (fm_words m (6 * u + 5))) o)) (As := [.int 2, .int en, .int (fm_words m (6 * u + 2)), .int (fm_words m (6 * u + 3)), .int 0, .int (fm_words m (6 * u + 5))]) (rest := []) G (cm_add l x (sm_code m 0) o n 2 en (fm_words m (6 * u + 2)) (fm_words m (6 * u + 3)) 0 (fm_words m (6 * u + 5)) hcl (ne64 hcl hn h30)) kM_80 dM_annul_78 rfl rfl rfl rfl (Nat.le_of_ble_eq_true rfl) (fun h => by cases h) ⟨Nat.le_of_ble_eq_true rfl, Nat.le_of_ble_eq_true rfl⟩ ⟨Nat.le_of_ble_eq_true rfl, Nat.le_of_ble_eq_true rfl⟩ ?_
        exact zz_iret G hret dM_annul_81 (by rw [qAnn, if_pos h5, hq]; show (if fm_clock m = 64 then _ else _) = _; rw [if_neg h30] <;> rfl) (Nat.le_of_ble_eq_true rfl) (Nat.le_of_ble_eq_true rfl)
      · refine zz_iconst (v := 3) G dM_annul_33 (by decide) ?_
        refine zz_goto (tgt := 38) G dM_annul_34 rfl ?_
        refine zz_put (w' := (wx x (sm_code m 3) o)) rfl G dM_annul_38 flM_23 rfl rfl rfl (Nat.le_of_ble_eq_true rfl) rfl ?_
        refine zz_aload_n G dM_annul_41 rfl ?_
        refine zz_get (v := .int 3) G dM_annul_42 flM_23 rfl rfl ?_
        refine zz_if_le (tgt := 50) G dM_annul_45 rfl (fun h45 => ((absurd h45 (by decide) : False)).elim) (fun h45 => ?_)
        refine zz_iconst (v := 0) G dM_annul_48 (by decide) ?_
        exact zz_iret G hret dM_annul_49 (by rw [qAnn, if_pos h5, hq]; show (if fm_clock m = 64 then _ else _) = _; rw [if_pos h30] <;> rfl) (Nat.le_of_ble_eq_true rfl) (Nat.le_of_ble_eq_true rfl)
    · refine zz_iconst (v := 1) G dM_annul_8 (by decide) ?_
      refine zz_goto (tgt := 38) G dM_annul_9 rfl ?_
      refine zz_put (w' := (wx x (sm_code m 1) o)) rfl G dM_annul_38 flM_23 rfl rfl rfl (Nat.le_of_ble_eq_true rfl) rfl ?_
      refine zz_aload_n G dM_annul_41 rfl ?_
      refine zz_get (v := .int 1) G dM_annul_42 flM_23 rfl rfl ?_
      refine zz_if_le (tgt := 50) G dM_annul_45 rfl (fun h45 => ((absurd h45 (by decide) : False)).elim) (fun h45 => ?_)
      refine zz_iconst (v := 0) G dM_annul_48 (by decide) ?_
      exact zz_iret G hret dM_annul_49 (by rw [qAnn, if_neg h5] <;> rfl) (Nat.le_of_ble_eq_true rfl) (Nat.le_of_ble_eq_true rfl)
set_option maxRecDepth 100000 in
set_option maxHeartbeats 4000000 in
theorem cm_balance (l : Launch) (x : XS) (m : MS) (o : Nat → Int64) (a d it : Int32) (n e1 : Nat) (hcl : fm_clock m = nI n) (hn : n ≤ 64) (hen : fm_entries m = nI e1) (he64 : e1 ≤ 64) : zC l yM_balance (Jvm.Cond.code yM_balance bM_balance 4 (some .int) :: Tw) 3 false 0 0 [.ref 5, .int a, .int d, .int it] (wx x m o) (qBal x m o e1 a d it) := by
  refine zC_of [some (.ref 5), some (.int a), some (.int d), some (.int it)] (by decide) rfl (Nat.le_of_ble_eq_true rfl) ?_
  intro p e s mm args below meth c D cI cJ as G hret hex hbd
  refine zz_aload_n G dM_balance_0 rfl ?_
  refine zz_aload_n G dM_balance_1 rfl ?_
  refine zz_get (v := .int (fm_touched m)) G dM_balance_2 flM_65 rfl rfl ?_
  refine zz_if_eq (tgt := 12) G dM_balance_5 rfl (fun h5 => ?_) (fun h5 => ?_)
  · refine zz_iload_n G dM_balance_12 rfl ?_
    refine zz_callSi (v := sAcc a) (w' := (wx x m o)) (As := [.int a]) (rest := [.ref 5]) G (cm_isAccount l x m o a) kM_69 dM_balance_13 rfl rfl (Nat.le_of_ble_eq_true rfl) (fun _ => rfl) ⟨Nat.le_of_ble_eq_true rfl, Nat.le_of_ble_eq_true rfl⟩ ⟨Nat.le_of_ble_eq_true rfl, Nat.le_of_ble_eq_true rfl⟩ ?_
    refine zz_if_eq (tgt := 38) G dM_balance_16 rfl (fun h16 => ?_) (fun h16 => ?_)
    · refine zz_iconst (v := 2) G dM_balance_38 (by decide) ?_
      refine zz_put (w' := (wx x (sm_code m 2) o)) rfl G dM_balance_39 flM_23 rfl rfl rfl (Nat.le_of_ble_eq_true rfl) rfl ?_
      refine zz_aload_n G dM_balance_42 rfl ?_
      refine zz_get (v := .int 2) G dM_balance_43 flM_23 rfl rfl ?_
      refine zz_if_le (tgt := 53) G dM_balance_46 rfl (fun h46 => ((absurd h46 (by decide) : False)).elim) (fun h46 => ?_)
      refine zz_iconst (v := 0) G dM_balance_49 (by decide) ?_
      refine zz_goto (tgt := 60) G dM_balance_50 rfl ?_
      exact zz_iret G hret dM_balance_60 (by rw [qBal, if_pos h5, if_pos h16] <;> rfl) (Nat.le_of_ble_eq_true rfl) (Nat.le_of_ble_eq_true rfl)
    · refine zz_iload_n G dM_balance_19 rfl ?_
      refine zz_callSi (v := sDay d) (w' := (wx x m o)) (As := [.int d]) (rest := [.ref 5]) G (cm_isDay l x m o d) kM_73 dM_balance_20 rfl rfl (Nat.le_of_ble_eq_true rfl) (fun _ => rfl) ⟨Nat.le_of_ble_eq_true rfl, Nat.le_of_ble_eq_true rfl⟩ ⟨Nat.le_of_ble_eq_true rfl, Nat.le_of_ble_eq_true rfl⟩ ?_
      refine zz_if_eq (tgt := 38) G dM_balance_23 rfl (fun h23 => ?_) (fun h23 => ?_)
      · refine zz_iconst (v := 2) G dM_balance_38 (by decide) ?_
        refine zz_put (w' := (wx x (sm_code m 2) o)) rfl G dM_balance_39 flM_23 rfl rfl rfl (Nat.le_of_ble_eq_true rfl) rfl ?_
        refine zz_aload_n G dM_balance_42 rfl ?_
        refine zz_get (v := .int 2) G dM_balance_43 flM_23 rfl rfl ?_
        refine zz_if_le (tgt := 53) G dM_balance_46 rfl (fun h46 => ((absurd h46 (by decide) : False)).elim) (fun h46 => ?_)
        refine zz_iconst (v := 0) G dM_balance_49 (by decide) ?_
        refine zz_goto (tgt := 60) G dM_balance_50 rfl ?_
        exact zz_iret G hret dM_balance_60 (by rw [qBal, if_pos h5, if_neg h16, if_pos h23] <;> rfl) (Nat.le_of_ble_eq_true rfl) (Nat.le_of_ble_eq_true rfl)
      · refine zz_aload_n G dM_balance_26 rfl ?_
        refine zz_iload_n G dM_balance_27 rfl ?_
        refine zz_callVi (v := sTime (fm_clock m) it) (w' := (wx x m o)) (As := [.int it]) (rest := [.ref 5]) G (cm_isTime l x m o it) kM_88 dM_balance_28 rfl rfl rfl rfl (Nat.le_of_ble_eq_true rfl) (fun _ => rfl) ⟨Nat.le_of_ble_eq_true rfl, Nat.le_of_ble_eq_true rfl⟩ ⟨Nat.le_of_ble_eq_true rfl, Nat.le_of_ble_eq_true rfl⟩ ?_
        refine zz_if_eq (tgt := 38) G dM_balance_31 rfl (fun h31 => ?_) (fun h31 => ?_)
        · refine zz_iconst (v := 2) G dM_balance_38 (by decide) ?_
          refine zz_put (w' := (wx x (sm_code m 2) o)) rfl G dM_balance_39 flM_23 rfl rfl rfl (Nat.le_of_ble_eq_true rfl) rfl ?_
          refine zz_aload_n G dM_balance_42 rfl ?_
          refine zz_get (v := .int 2) G dM_balance_43 flM_23 rfl rfl ?_
          refine zz_if_le (tgt := 53) G dM_balance_46 rfl (fun h46 => ((absurd h46 (by decide) : False)).elim) (fun h46 => ?_)
          refine zz_iconst (v := 0) G dM_balance_49 (by decide) ?_
          refine zz_goto (tgt := 60) G dM_balance_50 rfl ?_
          exact zz_iret G hret dM_balance_60 (by rw [qBal, if_pos h5, if_neg h16, if_neg h23, if_pos h31] <;> rfl) (Nat.le_of_ble_eq_true rfl) (Nat.le_of_ble_eq_true rfl)
        · obtain ⟨t, ht, rfl⟩ := sTime_of hn (by rw [← hcl]; exact h31)
          refine zz_iconst (v := 0) G dM_balance_34 (by decide) ?_
          refine zz_goto (tgt := 39) G dM_balance_35 rfl ?_
          refine zz_put (w' := (wx x (sm_code m 0) o)) rfl G dM_balance_39 flM_23 rfl rfl rfl (Nat.le_of_ble_eq_true rfl) rfl ?_
          refine zz_aload_n G dM_balance_42 rfl ?_
          refine zz_get (v := .int 0) G dM_balance_43 flM_23 rfl rfl ?_
          refine zz_if_le (tgt := 53) G dM_balance_46 rfl (fun h46 => ?_) (fun h46 => ((absurd h46 (by decide) : False)).elim)
          refine zz_aload_n G dM_balance_53 rfl ?_
          refine zz_iload_n G dM_balance_54 rfl ?_
          refine zz_iload_n G dM_balance_55 rfl ?_
          refine zz_iload_n G dM_balance_56 rfl ?_
          refine zz_callVi (v := mBal (fm_words m) a d t e1) (w' := (wx x (sm_code m 0) o)) (As := [.int a, .int d, .int (nI t)]) (rest := []) G (cm_balanceAt l x (sm_code m 0) o a d _ t e1 rfl (by omega) hen he64) kM_91 dM_balance_57 rfl rfl rfl rfl (Nat.le_of_ble_eq_true rfl) (fun _ => rfl) ⟨Nat.le_of_ble_eq_true rfl, Nat.le_of_ble_eq_true rfl⟩ ⟨Nat.le_of_ble_eq_true rfl, Nat.le_of_ble_eq_true rfl⟩ ?_
          exact zz_iret G hret dM_balance_60 (by rw [qBal, if_pos h5, if_neg h16, if_neg h23, if_neg h31, nI_clamp (show t < 2 ^ 31 by omega)] <;> rfl) (Nat.le_of_ble_eq_true rfl) (Nat.le_of_ble_eq_true rfl)
  · refine zz_iconst (v := 1) G dM_balance_8 (by decide) ?_
    refine zz_goto (tgt := 39) G dM_balance_9 rfl ?_
    refine zz_put (w' := (wx x (sm_code m 1) o)) rfl G dM_balance_39 flM_23 rfl rfl rfl (Nat.le_of_ble_eq_true rfl) rfl ?_
    refine zz_aload_n G dM_balance_42 rfl ?_
    refine zz_get (v := .int 1) G dM_balance_43 flM_23 rfl rfl ?_
    refine zz_if_le (tgt := 53) G dM_balance_46 rfl (fun h46 => ((absurd h46 (by decide) : False)).elim) (fun h46 => ?_)
    refine zz_iconst (v := 0) G dM_balance_49 (by decide) ?_
    refine zz_goto (tgt := 60) G dM_balance_50 rfl ?_
    exact zz_iret G hret dM_balance_60 (by rw [qBal, if_neg h5] <;> rfl) (Nat.le_of_ble_eq_true rfl) (Nat.le_of_ble_eq_true rfl)
set_option maxRecDepth 100000 in
set_option maxHeartbeats 4000000 in
theorem cm_trial (l : Launch) (x : XS) (m : MS) (o : Nat → Int64) (d it : Int32) (n e1 : Nat) (hcl : fm_clock m = nI n) (hn : n ≤ 64) (hen : fm_entries m = nI e1) (he64 : e1 ≤ 64) : zC l yM_trial (Jvm.Cond.code yM_trial bM_trial 5 (some .int) :: Tw) 3 false 0 0 [.ref 5, .int d, .int it] (wx x m o) (qTrial x m o e1 d it) := by
  refine zC_of [some (.ref 5), some (.int d), some (.int it), none, none] (by decide) rfl (Nat.le_of_ble_eq_true rfl) ?_
  intro p e s mm args below meth c D cI cJ as G hret hex hbd
  refine zz_aload_n G dM_trial_0 rfl ?_
  refine zz_aload_n G dM_trial_1 rfl ?_
  refine zz_get (v := .int (fm_touched m)) G dM_trial_2 flM_65 rfl rfl ?_
  refine zz_if_eq (tgt := 12) G dM_trial_5 rfl (fun h5 => ?_) (fun h5 => ?_)
  · refine zz_iload_n G dM_trial_12 rfl ?_
    refine zz_callSi (v := sDay d) (w' := (wx x m o)) (As := [.int d]) (rest := [.ref 5]) G (cm_isDay l x m o d) kM_73 dM_trial_13 rfl rfl (Nat.le_of_ble_eq_true rfl) (fun _ => rfl) ⟨Nat.le_of_ble_eq_true rfl, Nat.le_of_ble_eq_true rfl⟩ ⟨Nat.le_of_ble_eq_true rfl, Nat.le_of_ble_eq_true rfl⟩ ?_
    refine zz_if_eq (tgt := 31) G dM_trial_16 rfl (fun h16 => ?_) (fun h16 => ?_)
    · refine zz_iconst (v := 2) G dM_trial_31 (by decide) ?_
      refine zz_put (w' := (wx x (sm_code m 2) o)) rfl G dM_trial_32 flM_23 rfl rfl rfl (Nat.le_of_ble_eq_true rfl) rfl ?_
      refine zz_iconst (v := 0) G dM_trial_35 (by decide) ?_
      refine zz_istore_n (lv' := [some (.ref 5), some (.int d), some (.int it), some (.int 0), none]) G dM_trial_36 (Nat.le_of_ble_eq_true rfl) rfl ?_
      refine zz_iconst (v := 0) G dM_trial_37 (by decide) ?_
      refine zz_istore (lv' := [some (.ref 5), some (.int d), some (.int it), some (.int 0), some (.int 0)]) G dM_trial_38 (Nat.le_of_ble_eq_true rfl) rfl ?_
      refine zz_iload G dM_trial_40 rfl ?_
      refine zz_bipush (v := 16) G dM_trial_42 (by decide) ?_
      refine zz_icmp_ge (tgt := 71) G dM_trial_44 rfl (fun h44 => ((absurd h44 (by decide) : False)).elim) (fun h44 => ?_)
      refine zz_aload_n G dM_trial_47 rfl ?_
      refine zz_get (v := .int 2) G dM_trial_48 flM_23 rfl rfl ?_
      refine zz_if_ne (tgt := 71) G dM_trial_51 rfl (fun h51 => ?_) (fun h51 => ((absurd h51 (by decide) : False)).elim)
      refine zz_iload_n G dM_trial_71 rfl ?_
      exact zz_iret G hret dM_trial_72 (by rw [qTrial, if_pos h5, if_pos h16] <;> rfl) (Nat.le_of_ble_eq_true rfl) (Nat.le_of_ble_eq_true rfl)
    · refine zz_aload_n G dM_trial_19 rfl ?_
      refine zz_iload_n G dM_trial_20 rfl ?_
      refine zz_callVi (v := sTime (fm_clock m) it) (w' := (wx x m o)) (As := [.int it]) (rest := [.ref 5]) G (cm_isTime l x m o it) kM_88 dM_trial_21 rfl rfl rfl rfl (Nat.le_of_ble_eq_true rfl) (fun _ => rfl) ⟨Nat.le_of_ble_eq_true rfl, Nat.le_of_ble_eq_true rfl⟩ ⟨Nat.le_of_ble_eq_true rfl, Nat.le_of_ble_eq_true rfl⟩ ?_
      refine zz_if_eq (tgt := 31) G dM_trial_24 rfl (fun h24 => ?_) (fun h24 => ?_)
      · refine zz_iconst (v := 2) G dM_trial_31 (by decide) ?_
        refine zz_put (w' := (wx x (sm_code m 2) o)) rfl G dM_trial_32 flM_23 rfl rfl rfl (Nat.le_of_ble_eq_true rfl) rfl ?_
        refine zz_iconst (v := 0) G dM_trial_35 (by decide) ?_
        refine zz_istore_n (lv' := [some (.ref 5), some (.int d), some (.int it), some (.int 0), none]) G dM_trial_36 (Nat.le_of_ble_eq_true rfl) rfl ?_
        refine zz_iconst (v := 0) G dM_trial_37 (by decide) ?_
        refine zz_istore (lv' := [some (.ref 5), some (.int d), some (.int it), some (.int 0), some (.int 0)]) G dM_trial_38 (Nat.le_of_ble_eq_true rfl) rfl ?_
        refine zz_iload G dM_trial_40 rfl ?_
        refine zz_bipush (v := 16) G dM_trial_42 (by decide) ?_
        refine zz_icmp_ge (tgt := 71) G dM_trial_44 rfl (fun h44 => ((absurd h44 (by decide) : False)).elim) (fun h44 => ?_)
        refine zz_aload_n G dM_trial_47 rfl ?_
        refine zz_get (v := .int 2) G dM_trial_48 flM_23 rfl rfl ?_
        refine zz_if_ne (tgt := 71) G dM_trial_51 rfl (fun h51 => ?_) (fun h51 => ((absurd h51 (by decide) : False)).elim)
        refine zz_iload_n G dM_trial_71 rfl ?_
        exact zz_iret G hret dM_trial_72 (by rw [qTrial, if_pos h5, if_neg h16, if_pos h24] <;> rfl) (Nat.le_of_ble_eq_true rfl) (Nat.le_of_ble_eq_true rfl)
      · obtain ⟨t, ht, rfl⟩ := sTime_of hn (by rw [← hcl]; exact h24)
        have loop : ∀ (j k : Nat), k + j = 16 → Z p l e (zrm 3) s mm args below meth c 5 D cI cJ as false 0 0 (zMQ below (qTrial x m o e1 d (nI t)) D cI cJ as false s 0 0) 40 [some (.ref 5), some (.int d), some (.int (nI t)), some (.int (mTrial (fm_words m) d t e1 k)), some (.int (nI k))] [] (wx x (sm_code m 0) o) := by
          intro j
          induction j with
          | zero =>
            intro k hk
            have hk : k = 16 := by omega
            subst hk
            refine zz_iload G dM_trial_40 rfl ?_
            refine zz_bipush (v := 16) G dM_trial_42 (by decide) ?_
            refine zz_icmp_ge (tgt := 71) G dM_trial_44 rfl (fun h44 => ?_) (fun h44 => (h44 (by decide)).elim)
            refine zz_iload_n G dM_trial_71 rfl ?_
            exact zz_iret G hret dM_trial_72 (by rw [qTrial, if_pos h5, if_neg h16, if_neg h24, nI_clamp (show t < 2 ^ 31 by omega)] <;> rfl) (Nat.le_of_ble_eq_true rfl) (Nat.le_of_ble_eq_true rfl)
          | succ j ih =>
            intro k hk
            refine zz_iload G dM_trial_40 rfl ?_
            refine zz_bipush (v := 16) G dM_trial_42 (by decide) ?_
            refine zz_icmp_ge (tgt := 71) G dM_trial_44 rfl (fun h44 => (nI_ge (show k < 16 by omega) (by decide) h44).elim) (fun h44 => ?_)
            refine zz_aload_n G dM_trial_47 rfl ?_
            refine zz_get (v := .int 0) G dM_trial_48 flM_23 rfl rfl ?_
            refine zz_if_ne (tgt := 71) G dM_trial_51 rfl (fun h51 => ((absurd h51 (by decide) : False)).elim) (fun h51 => ?_)
            refine zz_iload_n G dM_trial_54 rfl ?_
            refine zz_aload_n G dM_trial_55 rfl ?_
            refine zz_iload G dM_trial_56 rfl ?_
            refine zz_iload_n G dM_trial_58 rfl ?_
            refine zz_iload_n G dM_trial_59 rfl ?_
            refine zz_callVi (v := mBal (fm_words m) (nI k) d t e1) (w' := (wx x (sm_code m 0) o)) (As := [.int (nI k), .int d, .int (nI t)]) (rest := [.int (mTrial (fm_words m) d t e1 k)]) G (cm_balanceAt l x (sm_code m 0) o (nI k) d _ t e1 rfl (by omega) hen he64) kM_91 dM_trial_60 rfl rfl rfl rfl (Nat.le_of_ble_eq_true rfl) (fun _ => rfl) ⟨Nat.le_of_ble_eq_true rfl, Nat.le_of_ble_eq_true rfl⟩ ⟨Nat.le_of_ble_eq_true rfl, Nat.le_of_ble_eq_true rfl⟩ ?_
            refine zz_iadd G dM_trial_63 ?_
            refine zz_istore_n (lv' := [some (.ref 5), some (.int d), some (.int (nI t)), some (.int ((mTrial (fm_words m) d t e1 k) + (mBal (fm_words m) (nI k) d t e1))), some (.int (nI k))]) G dM_trial_64 (Nat.le_of_ble_eq_true rfl) rfl ?_
            refine zz_iinc (v := nI (k + 1)) (lv' := [some (.ref 5), some (.int d), some (.int (nI t)), some (.int ((mTrial (fm_words m) d t e1 k) + (mBal (fm_words m) (nI k) d t e1))), some (.int (nI (k + 1)))]) G dM_trial_65 rfl (by rw [nI_succ] <;> rfl) rfl ?_
            refine zz_goto (tgt := 40) G dM_trial_68 rfl ?_
            refine zz_eq (lv' := [some (.ref 5), some (.int d), some (.int (nI t)), some (.int (mTrial (fm_words m) d t e1 (k + 1))), some (.int (nI (k + 1)))]) rfl rfl rfl rfl ?_
            exact ih (k + 1) (by omega)
        refine zz_iconst (v := 0) G dM_trial_27 (by decide) ?_
        refine zz_goto (tgt := 32) G dM_trial_28 rfl ?_
        refine zz_put (w' := (wx x (sm_code m 0) o)) rfl G dM_trial_32 flM_23 rfl rfl rfl (Nat.le_of_ble_eq_true rfl) rfl ?_
        refine zz_iconst (v := 0) G dM_trial_35 (by decide) ?_
        refine zz_istore_n (lv' := [some (.ref 5), some (.int d), some (.int (nI t)), some (.int 0), none]) G dM_trial_36 (Nat.le_of_ble_eq_true rfl) rfl ?_
        refine zz_iconst (v := 0) G dM_trial_37 (by decide) ?_
        refine zz_istore (lv' := [some (.ref 5), some (.int d), some (.int (nI t)), some (.int 0), some (.int 0)]) G dM_trial_38 (Nat.le_of_ble_eq_true rfl) rfl ?_
        exact loop 16 0 (by omega)
  · refine zz_iconst (v := 1) G dM_trial_8 (by decide) ?_
    refine zz_goto (tgt := 32) G dM_trial_9 rfl ?_
    refine zz_put (w' := (wx x (sm_code m 1) o)) rfl G dM_trial_32 flM_23 rfl rfl rfl (Nat.le_of_ble_eq_true rfl) rfl ?_
    refine zz_iconst (v := 0) G dM_trial_35 (by decide) ?_
    refine zz_istore_n (lv' := [some (.ref 5), some (.int d), some (.int it), some (.int 0), none]) G dM_trial_36 (Nat.le_of_ble_eq_true rfl) rfl ?_
    refine zz_iconst (v := 0) G dM_trial_37 (by decide) ?_
    refine zz_istore (lv' := [some (.ref 5), some (.int d), some (.int it), some (.int 0), some (.int 0)]) G dM_trial_38 (Nat.le_of_ble_eq_true rfl) rfl ?_
    refine zz_iload G dM_trial_40 rfl ?_
    refine zz_bipush (v := 16) G dM_trial_42 (by decide) ?_
    refine zz_icmp_ge (tgt := 71) G dM_trial_44 rfl (fun h44 => ((absurd h44 (by decide) : False)).elim) (fun h44 => ?_)
    refine zz_aload_n G dM_trial_47 rfl ?_
    refine zz_get (v := .int 1) G dM_trial_48 flM_23 rfl rfl ?_
    refine zz_if_ne (tgt := 71) G dM_trial_51 rfl (fun h51 => ?_) (fun h51 => ((absurd h51 (by decide) : False)).elim)
    refine zz_iload_n G dM_trial_71 rfl ?_
    exact zz_iret G hret dM_trial_72 (by rw [qTrial, if_neg h5] <;> rfl) (Nat.le_of_ble_eq_true rfl) (Nat.le_of_ble_eq_true rfl)
set_option maxRecDepth 100000 in
set_option maxHeartbeats 4000000 in
theorem cm_turnover (l : Launch) (x : XS) (m : MS) (o : Nat → Int64) (a : Int32) (n e1 : Nat) (hcl : fm_clock m = nI n) (hn : n ≤ 64) (hen : fm_entries m = nI e1) (he64 : e1 ≤ 64) (hlv : fm_touched m = 0 → ∀ j, j < e1 → ∃ v, sLast (fm_words m) (nI j) n = some v) : zC l yM_turnover (Jvm.Cond.code yM_turnover bM_turnover 2 (some .int) :: Tw) 3 false 0 0 [.ref 5, .int a] (wx x m o) (qTurn x m o n e1 a) := by
  refine zC_of [some (.ref 5), some (.int a)] (by decide) rfl (Nat.le_of_ble_eq_true rfl) ?_
  intro p e s mm args below meth c D cI cJ as G hret hex hbd
  refine zz_aload_n G dM_turnover_0 rfl ?_
  refine zz_aload_n G dM_turnover_1 rfl ?_
  refine zz_get (v := .int (fm_touched m)) G dM_turnover_2 flM_65 rfl rfl ?_
  refine zz_if_eq (tgt := 12) G dM_turnover_5 rfl (fun h5 => ?_) (fun h5 => ?_)
  · refine zz_iload_n G dM_turnover_12 rfl ?_
    refine zz_callSi (v := sAcc a) (w' := (wx x m o)) (As := [.int a]) (rest := [.ref 5]) G (cm_isAccount l x m o a) kM_69 dM_turnover_13 rfl rfl (Nat.le_of_ble_eq_true rfl) (fun _ => rfl) ⟨Nat.le_of_ble_eq_true rfl, Nat.le_of_ble_eq_true rfl⟩ ⟨Nat.le_of_ble_eq_true rfl, Nat.le_of_ble_eq_true rfl⟩ ?_
    refine zz_if_eq (tgt := 23) G dM_turnover_16 rfl (fun h16 => ?_) (fun h16 => ?_)
    · refine zz_iconst (v := 2) G dM_turnover_23 (by decide) ?_
      refine zz_put (w' := (wx x (sm_code m 2) o)) rfl G dM_turnover_24 flM_23 rfl rfl rfl (Nat.le_of_ble_eq_true rfl) rfl ?_
      refine zz_aload_n G dM_turnover_27 rfl ?_
      refine zz_get (v := .int 2) G dM_turnover_28 flM_23 rfl rfl ?_
      refine zz_if_le (tgt := 38) G dM_turnover_31 rfl (fun h31 => ((absurd h31 (by decide) : False)).elim) (fun h31 => ?_)
      refine zz_iconst (v := 0) G dM_turnover_34 (by decide) ?_
      refine zz_goto (tgt := 44) G dM_turnover_35 rfl ?_
      exact zz_iret G hret dM_turnover_44 (by rw [qTurn, if_pos h5, if_pos h16] <;> rfl) (Nat.le_of_ble_eq_true rfl) (Nat.le_of_ble_eq_true rfl)
    · refine zz_iconst (v := 0) G dM_turnover_19 (by decide) ?_
      refine zz_goto (tgt := 24) G dM_turnover_20 rfl ?_
      refine zz_put (w' := (wx x (sm_code m 0) o)) rfl G dM_turnover_24 flM_23 rfl rfl rfl (Nat.le_of_ble_eq_true rfl) rfl ?_
      refine zz_aload_n G dM_turnover_27 rfl ?_
      refine zz_get (v := .int 0) G dM_turnover_28 flM_23 rfl rfl ?_
      refine zz_if_le (tgt := 38) G dM_turnover_31 rfl (fun h31 => ?_) (fun h31 => ((absurd h31 (by decide) : False)).elim)
      refine zz_aload_n G dM_turnover_38 rfl ?_
      refine zz_iload_n G dM_turnover_39 rfl ?_
      refine zz_callVl (v := mTurn (fm_words m) a n e1) (w' := (wx x (sm_code m 0) o)) (As := [.int a]) (rest := []) G (cm_turnoverNow l x (sm_code m 0) o a n e1 hcl hn hen he64 (hlv h5)) kM_48 dM_turnover_40 rfl rfl rfl rfl (Nat.le_of_ble_eq_true rfl) (fun _ => rfl) ⟨Nat.le_of_ble_eq_true rfl, Nat.le_of_ble_eq_true rfl⟩ ⟨Nat.le_of_ble_eq_true rfl, Nat.le_of_ble_eq_true rfl⟩ ?_
      refine zz_l2i G dM_turnover_43 ?_
      exact zz_iret G hret dM_turnover_44 (by rw [qTurn, if_pos h5, if_neg h16] <;> rfl) (Nat.le_of_ble_eq_true rfl) (Nat.le_of_ble_eq_true rfl)
  · refine zz_iconst (v := 1) G dM_turnover_8 (by decide) ?_
    refine zz_goto (tgt := 24) G dM_turnover_9 rfl ?_
    refine zz_put (w' := (wx x (sm_code m 1) o)) rfl G dM_turnover_24 flM_23 rfl rfl rfl (Nat.le_of_ble_eq_true rfl) rfl ?_
    refine zz_aload_n G dM_turnover_27 rfl ?_
    refine zz_get (v := .int 1) G dM_turnover_28 flM_23 rfl rfl ?_
    refine zz_if_le (tgt := 38) G dM_turnover_31 rfl (fun h31 => ((absurd h31 (by decide) : False)).elim) (fun h31 => ?_)
    refine zz_iconst (v := 0) G dM_turnover_34 (by decide) ?_
    refine zz_goto (tgt := 44) G dM_turnover_35 rfl ?_
    exact zz_iret G hret dM_turnover_44 (by rw [qTurn, if_neg h5] <;> rfl) (Nat.le_of_ble_eq_true rfl) (Nat.le_of_ble_eq_true rfl)
set_option maxRecDepth 100000 in
set_option maxHeartbeats 4000000 in
theorem cm_next (l : Launch) (x : XS) (m : MS) (o : Nat → Int64) (k z : Nat) (hk31 : k < 2 ^ 31) (hat : fm_at m = nI k) (hct : fm_count m = nI z) (hz : z ≤ 64) : zC l yM_next (Jvm.Cond.code yM_next bM_next 1 (some .int) :: Tw) 0 false 0 0 [.ref 5] (wx x m o) (qNext x m o) := by
  refine zC_of [some (.ref 5)] (by decide) rfl (Nat.le_of_ble_eq_true rfl) ?_
  intro p e s mm args below meth c D cI cJ as G hret hex hbd
  refine zz_aload_n G dM_next_0 rfl ?_
  refine zz_aload_n G dM_next_1 rfl ?_
  refine zz_get (v := .int (fm_touched m)) G dM_next_2 flM_65 rfl rfl ?_
  refine zz_if_eq (tgt := 12) G dM_next_5 rfl (fun h5 => ?_) (fun h5 => ?_)
  · refine zz_iconst (v := 0) G dM_next_12 (by decide) ?_
    refine zz_put (w' := (wx x (sm_code m 0) o)) rfl G dM_next_13 flM_23 rfl rfl rfl (Nat.le_of_ble_eq_true rfl) rfl ?_
    refine zz_aload_n G dM_next_16 rfl ?_
    refine zz_get (v := .int 0) G dM_next_17 flM_23 rfl rfl ?_
    refine zz_if_le (tgt := 25) G dM_next_20 rfl (fun h20 => ?_) (fun h20 => ((absurd h20 (by decide) : False)).elim)
    refine zz_aload_n G dM_next_25 rfl ?_
    refine zz_aload_n G dM_next_26 rfl ?_
    refine zz_get (v := .int (fm_at m)) G dM_next_27 flM_98 rfl rfl ?_
    refine zz_aload_n G dM_next_30 rfl ?_
    refine zz_get (v := .int (fm_count m)) G dM_next_31 flM_95 rfl rfl ?_
    refine zz_icmp_ge (tgt := 41) G dM_next_34 rfl (fun h34 => ?_) (fun h34 => ?_)
    · refine zz_iconst (v := 0) G dM_next_41 (by decide) ?_
      refine zz_put (w' := (wx x (sm_ans (sm_code m 0) 0) o)) rfl G dM_next_42 flM_101 rfl rfl rfl (Nat.le_of_ble_eq_true rfl) rfl ?_
      refine zz_aload_n G dM_next_45 rfl ?_
      refine zz_aload_n G dM_next_46 rfl ?_
      refine zz_get (v := .int 0) G dM_next_47 flM_101 rfl rfl ?_
      refine zz_if_eq (tgt := 62) G dM_next_50 rfl (fun h50 => ?_) (fun h50 => ((absurd h50 (by decide) : False)).elim)
      refine zz_aload_n G dM_next_62 rfl ?_
      refine zz_get (v := .int (fm_at m)) G dM_next_63 flM_98 rfl rfl ?_
      refine zz_put (w' := (wx x (sm_at (sm_ans (sm_code m 0) 0) (fm_at m)) o)) rfl G dM_next_66 flM_98 rfl rfl rfl (Nat.le_of_ble_eq_true rfl) rfl ?_
      refine zz_aload_n G dM_next_69 rfl ?_
      refine zz_get (v := .int 0) G dM_next_70 flM_101 rfl rfl ?_
      refine zz_if_eq (tgt := 90) G dM_next_73 rfl (fun h73 => ?_) (fun h73 => ((absurd h73 (by decide) : False)).elim)
      refine zz_iconst (v := -1) G dM_next_90 (by decide) ?_
      exact zz_iret G hret dM_next_91 (by rw [qNext, if_pos h5, if_pos h34] <;> rfl) (Nat.le_of_ble_eq_true rfl) (Nat.le_of_ble_eq_true rfl)
    · have hkz : k < z := by rw [hat, hct] at h34; exact nI_lt_of h34 hz hk31
      refine zz_iconst (v := 1) G dM_next_37 (by decide) ?_
      refine zz_goto (tgt := 42) G dM_next_38 rfl ?_
      refine zz_put (w' := (wx x (sm_ans (sm_code m 0) 1) o)) rfl G dM_next_42 flM_101 rfl rfl rfl (Nat.le_of_ble_eq_true rfl) rfl ?_
      refine zz_aload_n G dM_next_45 rfl ?_
      refine zz_aload_n G dM_next_46 rfl ?_
      refine zz_get (v := .int 1) G dM_next_47 flM_101 rfl rfl ?_
      refine zz_if_eq (tgt := 62) G dM_next_50 rfl (fun h50 => ((absurd h50 (by decide) : False)).elim) (fun h50 => ?_)
      refine zz_aload_n G dM_next_53 rfl ?_
      refine zz_get (v := .int (fm_at m)) G dM_next_54 flM_98 rfl rfl ?_
      refine zz_iconst (v := 1) G dM_next_57 (by decide) ?_
      refine zz_iadd G dM_next_58 ?_
      refine zz_goto (tgt := 66) G dM_next_59 rfl ?_
      refine zz_put (w' := (wx x (sm_at (sm_ans (sm_code m 0) 1) ((fm_at m) + 1)) o)) rfl G dM_next_66 flM_98 rfl rfl rfl (Nat.le_of_ble_eq_true rfl) rfl ?_
      refine zz_aload_n G dM_next_69 rfl ?_
      refine zz_get (v := .int 1) G dM_next_70 flM_101 rfl rfl ?_
      refine zz_if_eq (tgt := 90) G dM_next_73 rfl (fun h73 => ((absurd h73 (by decide) : False)).elim) (fun h73 => ?_)
      refine zz_aload_n G dM_next_76 rfl ?_
      refine zz_get (v := .ref 8) G dM_next_77 flM_17 rfl rfl ?_
      refine zz_aload_n G dM_next_80 rfl ?_
      refine zz_get (v := .int ((fm_at m) + 1)) G dM_next_81 flM_98 rfl rfl ?_
      refine zz_iconst (v := 1) G dM_next_84 (by decide) ?_
      refine zz_isub G dM_next_85 ?_
      refine zz_iald (v := fm_list m (fm_at m + 1 - 1).toNatClampNeg) G dM_next_86 rfl (by rw [hat, ← nI_succ, nI_pred]; exact i1_in (by omega)) (rfl) ?_
      refine zz_goto (tgt := 91) G dM_next_87 rfl ?_
      exact zz_iret G hret dM_next_91 (by rw [qNext, if_pos h5, if_neg h34] <;> rfl) (Nat.le_of_ble_eq_true rfl) (Nat.le_of_ble_eq_true rfl)
  · refine zz_iconst (v := 1) G dM_next_8 (by decide) ?_
    refine zz_goto (tgt := 13) G dM_next_9 rfl ?_
    refine zz_put (w' := (wx x (sm_code m 1) o)) rfl G dM_next_13 flM_23 rfl rfl rfl (Nat.le_of_ble_eq_true rfl) rfl ?_
    refine zz_aload_n G dM_next_16 rfl ?_
    refine zz_get (v := .int 1) G dM_next_17 flM_23 rfl rfl ?_
    refine zz_if_le (tgt := 25) G dM_next_20 rfl (fun h20 => ((absurd h20 (by decide) : False)).elim) (fun h20 => ?_)
    refine zz_iconst (v := 0) G dM_next_23 (by decide) ?_
    exact zz_iret G hret dM_next_24 (by rw [qNext, if_neg h5] <;> rfl) (Nat.le_of_ble_eq_true rfl) (Nat.le_of_ble_eq_true rfl)
set_option maxRecDepth 100000 in
set_option maxHeartbeats 4000000 in
theorem cm_moved (l : Launch) (x : XS) (m : MS) (o : Nat → Int64) (hp : ¬ fm_ans m = 0 → ∃ k, k < 64 ∧ fm_at m = nI (k + 1)) : zC l yM_moved (Jvm.Cond.code yM_moved bM_moved 1 (some .int) :: Tw) 0 false 0 0 [.ref 5] (wx x m o) (qMoved x m o) := by
  refine zC_of [some (.ref 5)] (by decide) rfl (Nat.le_of_ble_eq_true rfl) ?_
  intro p e s mm args below meth c D cI cJ as G hret hex hbd
  refine zz_aload_n G dM_moved_0 rfl ?_
  refine zz_aload_n G dM_moved_1 rfl ?_
  refine zz_get (v := .int (fm_touched m)) G dM_moved_2 flM_65 rfl rfl ?_
  refine zz_if_eq (tgt := 12) G dM_moved_5 rfl (fun h5 => ?_) (fun h5 => ?_)
  · refine zz_iconst (v := 0) G dM_moved_12 (by decide) ?_
    refine zz_put (w' := (wx x (sm_code m 0) o)) rfl G dM_moved_13 flM_23 rfl rfl rfl (Nat.le_of_ble_eq_true rfl) rfl ?_
    refine zz_aload_n G dM_moved_16 rfl ?_
    refine zz_get (v := .int 0) G dM_moved_17 flM_23 rfl rfl ?_
    refine zz_if_ne (tgt := 44) G dM_moved_20 rfl (fun h20 => ((absurd h20 (by decide) : False)).elim) (fun h20 => ?_)
    refine zz_aload_n G dM_moved_23 rfl ?_
    refine zz_get (v := .int (fm_ans m)) G dM_moved_24 flM_101 rfl rfl ?_
    refine zz_if_eq (tgt := 44) G dM_moved_27 rfl (fun h27 => ?_) (fun h27 => ?_)
    · refine zz_iconst (v := 0) G dM_moved_44 (by decide) ?_
      exact zz_iret G hret dM_moved_45 (by rw [qMoved, if_pos h5, if_pos h27] <;> rfl) (Nat.le_of_ble_eq_true rfl) (Nat.le_of_ble_eq_true rfl)
    · obtain ⟨k, hk, ek⟩ := hp h27
      refine zz_aload_n G dM_moved_30 rfl ?_
      refine zz_get (v := .ref 9) G dM_moved_31 flM_20 rfl rfl ?_
      refine zz_aload_n G dM_moved_34 rfl ?_
      refine zz_get (v := .int (fm_at m)) G dM_moved_35 flM_98 rfl rfl ?_
      refine zz_iconst (v := 1) G dM_moved_38 (by decide) ?_
      refine zz_isub G dM_moved_39 ?_
      refine zz_iald (v := fm_puts m (fm_at m - 1).toNatClampNeg) G dM_moved_40 rfl (by rw [ek, nI_pred]; exact i1_in hk) (rfl) ?_
      refine zz_goto (tgt := 45) G dM_moved_41 rfl ?_
      exact zz_iret G hret dM_moved_45 (by rw [qMoved, if_pos h5, if_neg h27] <;> rfl) (Nat.le_of_ble_eq_true rfl) (Nat.le_of_ble_eq_true rfl)
  · refine zz_iconst (v := 1) G dM_moved_8 (by decide) ?_
    refine zz_goto (tgt := 13) G dM_moved_9 rfl ?_
    refine zz_put (w' := (wx x (sm_code m 1) o)) rfl G dM_moved_13 flM_23 rfl rfl rfl (Nat.le_of_ble_eq_true rfl) rfl ?_
    refine zz_aload_n G dM_moved_16 rfl ?_
    refine zz_get (v := .int 1) G dM_moved_17 flM_23 rfl rfl ?_
    refine zz_if_ne (tgt := 44) G dM_moved_20 rfl (fun h20 => ?_) (fun h20 => ((absurd h20 (by decide) : False)).elim)
    refine zz_iconst (v := 0) G dM_moved_44 (by decide) ?_
    exact zz_iret G hret dM_moved_45 (by rw [qMoved, if_neg h5] <;> rfl) (Nat.le_of_ble_eq_true rfl) (Nat.le_of_ble_eq_true rfl)
set_option maxRecDepth 100000 in
set_option maxHeartbeats 4000000 in
theorem cm_field (l : Launch) (x : XS) (m : MS) (o : Nat → Int64) (en k it : Int32) (n e1 : Nat) (hcl : fm_clock m = nI n) (hn : n ≤ 64) (hen : fm_entries m = nI e1) (he64 : e1 ≤ 64) : zC l yM_field (Jvm.Cond.code yM_field bM_field 6 (some .int) :: Tw) 2 false 0 0 [.ref 5, .int en, .int k, .int it] (wx x m o) (qField x m o en k it) := by
  refine zC_of [some (.ref 5), some (.int en), some (.int k), some (.int it), none, none] (by decide) rfl (Nat.le_of_ble_eq_true rfl) ?_
  intro p e s mm args below meth c D cI cJ as G hret hex hbd
  refine zz_aload_n G dM_field_0 rfl ?_
  refine zz_aload_n G dM_field_1 rfl ?_
  refine zz_get (v := .int (fm_touched m)) G dM_field_2 flM_65 rfl rfl ?_
  refine zz_if_eq (tgt := 12) G dM_field_5 rfl (fun h5 => ?_) (fun h5 => ?_)
  · refine zz_iconst (v := 0) G dM_field_12 (by decide) ?_
    refine zz_put (w' := (wx x (sm_code m 0) o)) rfl G dM_field_13 flM_23 rfl rfl rfl (Nat.le_of_ble_eq_true rfl) rfl ?_
    refine zz_iload_n G dM_field_16 rfl ?_
    refine zz_if_lt (tgt := 50) G dM_field_17 rfl (fun h17 => ?_) (fun h17 => ?_)
    · refine zz_iconst (v := 0) G dM_field_50 (by decide) ?_
      refine zz_istore (lv' := [some (.ref 5), some (.int en), some (.int k), some (.int it), some (.int 0), none]) G dM_field_51 (Nat.le_of_ble_eq_true rfl) rfl ?_
      refine zz_aload_n G dM_field_53 rfl ?_
      refine zz_get (v := .int 0) G dM_field_54 flM_23 rfl rfl ?_
      refine zz_if_gt (tgt := 65) G dM_field_57 rfl (fun h57 => ((absurd h57 (by decide) : False)).elim) (fun h57 => ?_)
      refine zz_iload G dM_field_60 rfl ?_
      refine zz_if_ne (tgt := 78) G dM_field_62 rfl (fun h62 => ((absurd h62 (by decide) : False)).elim) (fun h62 => ?_)
      refine zz_aload_n G dM_field_65 rfl ?_
      refine zz_get (v := .int 0) G dM_field_66 flM_23 rfl rfl ?_
      refine zz_if_le (tgt := 76) G dM_field_69 rfl (fun h69 => ?_) (fun h69 => ((absurd h69 (by decide) : False)).elim)
      refine zz_iconst (v := -1) G dM_field_76 (by decide) ?_
      exact zz_iret G hret dM_field_77 (by rw [qField, if_pos h5, if_pos h17] <;> rfl) (Nat.le_of_ble_eq_true rfl) (Nat.le_of_ble_eq_true rfl)
    · refine zz_iload_n G dM_field_20 rfl ?_
      refine zz_aload_n G dM_field_21 rfl ?_
      refine zz_get (v := .int (fm_entries m)) G dM_field_22 flM_42 rfl rfl ?_
      refine zz_icmp_ge (tgt := 50) G dM_field_25 rfl (fun h25 => ?_) (fun h25 => ?_)
      · refine zz_iconst (v := 0) G dM_field_50 (by decide) ?_
        refine zz_istore (lv' := [some (.ref 5), some (.int en), some (.int k), some (.int it), some (.int 0), none]) G dM_field_51 (Nat.le_of_ble_eq_true rfl) rfl ?_
        refine zz_aload_n G dM_field_53 rfl ?_
        refine zz_get (v := .int 0) G dM_field_54 flM_23 rfl rfl ?_
        refine zz_if_gt (tgt := 65) G dM_field_57 rfl (fun h57 => ((absurd h57 (by decide) : False)).elim) (fun h57 => ?_)
        refine zz_iload G dM_field_60 rfl ?_
        refine zz_if_ne (tgt := 78) G dM_field_62 rfl (fun h62 => ((absurd h62 (by decide) : False)).elim) (fun h62 => ?_)
        refine zz_aload_n G dM_field_65 rfl ?_
        refine zz_get (v := .int 0) G dM_field_66 flM_23 rfl rfl ?_
        refine zz_if_le (tgt := 76) G dM_field_69 rfl (fun h69 => ?_) (fun h69 => ((absurd h69 (by decide) : False)).elim)
        refine zz_iconst (v := -1) G dM_field_76 (by decide) ?_
        exact zz_iret G hret dM_field_77 (by rw [qField, if_pos h5, if_neg h17, if_pos h25] <;> rfl) (Nat.le_of_ble_eq_true rfl) (Nat.le_of_ble_eq_true rfl)
      · refine zz_iload_n G dM_field_28 rfl ?_
        refine zz_if_lt (tgt := 50) G dM_field_29 rfl (fun h29 => ?_) (fun h29 => ?_)
        · refine zz_iconst (v := 0) G dM_field_50 (by decide) ?_
          refine zz_istore (lv' := [some (.ref 5), some (.int en), some (.int k), some (.int it), some (.int 0), none]) G dM_field_51 (Nat.le_of_ble_eq_true rfl) rfl ?_
          refine zz_aload_n G dM_field_53 rfl ?_
          refine zz_get (v := .int 0) G dM_field_54 flM_23 rfl rfl ?_
          refine zz_if_gt (tgt := 65) G dM_field_57 rfl (fun h57 => ((absurd h57 (by decide) : False)).elim) (fun h57 => ?_)
          refine zz_iload G dM_field_60 rfl ?_
          refine zz_if_ne (tgt := 78) G dM_field_62 rfl (fun h62 => ((absurd h62 (by decide) : False)).elim) (fun h62 => ?_)
          refine zz_aload_n G dM_field_65 rfl ?_
          refine zz_get (v := .int 0) G dM_field_66 flM_23 rfl rfl ?_
          refine zz_if_le (tgt := 76) G dM_field_69 rfl (fun h69 => ?_) (fun h69 => ((absurd h69 (by decide) : False)).elim)
          refine zz_iconst (v := -1) G dM_field_76 (by decide) ?_
          exact zz_iret G hret dM_field_77 (by rw [qField, if_pos h5, if_neg h17, if_neg h25, if_pos h29] <;> rfl) (Nat.le_of_ble_eq_true rfl) (Nat.le_of_ble_eq_true rfl)
        · refine zz_iload_n G dM_field_32 rfl ?_
          refine zz_bipush (v := 6) G dM_field_33 (by decide) ?_
          refine zz_icmp_ge (tgt := 50) G dM_field_35 rfl (fun h35 => ?_) (fun h35 => ?_)
          · refine zz_iconst (v := 0) G dM_field_50 (by decide) ?_
            refine zz_istore (lv' := [some (.ref 5), some (.int en), some (.int k), some (.int it), some (.int 0), none]) G dM_field_51 (Nat.le_of_ble_eq_true rfl) rfl ?_
            refine zz_aload_n G dM_field_53 rfl ?_
            refine zz_get (v := .int 0) G dM_field_54 flM_23 rfl rfl ?_
            refine zz_if_gt (tgt := 65) G dM_field_57 rfl (fun h57 => ((absurd h57 (by decide) : False)).elim) (fun h57 => ?_)
            refine zz_iload G dM_field_60 rfl ?_
            refine zz_if_ne (tgt := 78) G dM_field_62 rfl (fun h62 => ((absurd h62 (by decide) : False)).elim) (fun h62 => ?_)
            refine zz_aload_n G dM_field_65 rfl ?_
            refine zz_get (v := .int 0) G dM_field_66 flM_23 rfl rfl ?_
            refine zz_if_le (tgt := 76) G dM_field_69 rfl (fun h69 => ?_) (fun h69 => ((absurd h69 (by decide) : False)).elim)
            refine zz_iconst (v := -1) G dM_field_76 (by decide) ?_
            exact zz_iret G hret dM_field_77 (by rw [qField, if_pos h5, if_neg h17, if_neg h25, if_neg h29, if_pos h35] <;> rfl) (Nat.le_of_ble_eq_true rfl) (Nat.le_of_ble_eq_true rfl)
          · refine zz_aload_n G dM_field_38 rfl ?_
            refine zz_iload_n G dM_field_39 rfl ?_
            refine zz_callVi (v := sTime (fm_clock m) it) (w' := (wx x (sm_code m 0) o)) (As := [.int it]) (rest := []) G (cm_isTime l x (sm_code m 0) o it) kM_88 dM_field_40 rfl rfl rfl rfl (Nat.le_of_ble_eq_true rfl) (fun _ => rfl) ⟨Nat.le_of_ble_eq_true rfl, Nat.le_of_ble_eq_true rfl⟩ ⟨Nat.le_of_ble_eq_true rfl, Nat.le_of_ble_eq_true rfl⟩ ?_
            refine zz_if_eq (tgt := 50) G dM_field_43 rfl (fun h43 => ?_) (fun h43 => ?_)
            · refine zz_iconst (v := 0) G dM_field_50 (by decide) ?_
              refine zz_istore (lv' := [some (.ref 5), some (.int en), some (.int k), some (.int it), some (.int 0), none]) G dM_field_51 (Nat.le_of_ble_eq_true rfl) rfl ?_
              refine zz_aload_n G dM_field_53 rfl ?_
              refine zz_get (v := .int 0) G dM_field_54 flM_23 rfl rfl ?_
              refine zz_if_gt (tgt := 65) G dM_field_57 rfl (fun h57 => ((absurd h57 (by decide) : False)).elim) (fun h57 => ?_)
              refine zz_iload G dM_field_60 rfl ?_
              refine zz_if_ne (tgt := 78) G dM_field_62 rfl (fun h62 => ((absurd h62 (by decide) : False)).elim) (fun h62 => ?_)
              refine zz_aload_n G dM_field_65 rfl ?_
              refine zz_get (v := .int 0) G dM_field_66 flM_23 rfl rfl ?_
              refine zz_if_le (tgt := 76) G dM_field_69 rfl (fun h69 => ?_) (fun h69 => ((absurd h69 (by decide) : False)).elim)
              refine zz_iconst (v := -1) G dM_field_76 (by decide) ?_
              exact zz_iret G hret dM_field_77 (by rw [qField, if_pos h5, if_neg h17, if_neg h25, if_neg h29, if_neg h35, if_pos h43] <;> rfl) (Nat.le_of_ble_eq_true rfl) (Nat.le_of_ble_eq_true rfl)
            · refine zz_iconst (v := 1) G dM_field_46 (by decide) ?_
              refine zz_goto (tgt := 51) G dM_field_47 rfl ?_
              refine zz_istore (lv' := [some (.ref 5), some (.int en), some (.int k), some (.int it), some (.int 1), none]) G dM_field_51 (Nat.le_of_ble_eq_true rfl) rfl ?_
              refine zz_aload_n G dM_field_53 rfl ?_
              refine zz_get (v := .int 0) G dM_field_54 flM_23 rfl rfl ?_
              refine zz_if_gt (tgt := 65) G dM_field_57 rfl (fun h57 => ((absurd h57 (by decide) : False)).elim) (fun h57 => ?_)
              refine zz_iload G dM_field_60 rfl ?_
              refine zz_if_ne (tgt := 78) G dM_field_62 rfl (fun h62 => ?_) (fun h62 => ((absurd h62 (by decide) : False)).elim)
              skip
              obtain ⟨t, ht, rfl⟩ := sTime_of hn (by rw [← hcl]; exact h43)
              obtain ⟨k, hk, rfl⟩ := sWrd_of (show ¬ sWrd k = 0 by unfold sWrd; rw [if_neg h29, if_neg h35]; decide)
              rcases hq : sLast (fm_words m) en t with _ | u
              · refine zz_aload_n G dM_field_78 rfl ?_
                refine zz_iload_n G dM_field_79 rfl ?_
                refine zz_iload_n G dM_field_80 rfl ?_
                refine zz_callVi (v := (-1)) (w' := (wx x (sm_code m 0) o)) (As := [.int en, .int (nI t)]) (rest := []) G (by have q := cm_currentAt l x (sm_code m 0) o en _ t rfl (by omega); rw [show sLast (fm_words (sm_code m 0)) en t = _ from hq] at q; exact q) kM_45 dM_field_81 rfl rfl rfl rfl (Nat.le_of_ble_eq_true rfl) (fun _ => rfl) ⟨Nat.le_of_ble_eq_true rfl, Nat.le_of_ble_eq_true rfl⟩ ⟨Nat.le_of_ble_eq_true rfl, Nat.le_of_ble_eq_true rfl⟩ ?_
                refine zz_istore (lv' := [some (.ref 5), some (.int en), some (.int (nI k)), some (.int (nI t)), some (.int 1), some (.int (-1))]) G dM_field_84 (Nat.le_of_ble_eq_true rfl) rfl ?_
                refine zz_iload G dM_field_86 rfl ?_
                refine zz_if_ge (tgt := 95) G dM_field_88 rfl (fun h88 => ((absurd h88 (by decide) : False)).elim) (fun h88 => ?_)
                refine zz_iconst (v := -1) G dM_field_91 (by decide) ?_
                refine zz_goto (tgt := 102) G dM_field_92 rfl ?_
                exact zz_iret G hret dM_field_102 (by rw [qField, if_pos h5, if_neg h17, if_neg h25, if_neg h29, if_neg h35, if_neg h43, nI_clamp (show t < 2 ^ 31 by omega), hq] <;> rfl) (Nat.le_of_ble_eq_true rfl) (Nat.le_of_ble_eq_true rfl)
              · have hu : u < t := (mL_lt t hq).1
                refine zz_aload_n G dM_field_78 rfl ?_
                refine zz_iload_n G dM_field_79 rfl ?_
                refine zz_iload_n G dM_field_80 rfl ?_
                refine zz_callVi (v := nI u) (w' := (wx x (sm_code m 0) o)) (As := [.int en, .int (nI t)]) (rest := []) G (by have q := cm_currentAt l x (sm_code m 0) o en _ t rfl (by omega); rw [show sLast (fm_words (sm_code m 0)) en t = _ from hq] at q; exact q) kM_45 dM_field_81 rfl rfl rfl rfl (Nat.le_of_ble_eq_true rfl) (fun _ => rfl) ⟨Nat.le_of_ble_eq_true rfl, Nat.le_of_ble_eq_true rfl⟩ ⟨Nat.le_of_ble_eq_true rfl, Nat.le_of_ble_eq_true rfl⟩ ?_
                refine zz_istore (lv' := [some (.ref 5), some (.int en), some (.int (nI k)), some (.int (nI t)), some (.int 1), some (.int (nI u))]) G dM_field_84 (Nat.le_of_ble_eq_true rfl) rfl ?_
                refine zz_iload G dM_field_86 rfl ?_
                refine zz_if_ge (tgt := 95) G dM_field_88 rfl (fun h88 => ?_) (fun h88 => (h88 (i32_nn (nI_pos (show u < 2 ^ 31 by omega)))).elim)
                refine zz_aload_n G dM_field_95 rfl ?_
                refine zz_iload G dM_field_96 rfl ?_
                refine zz_iload_n G dM_field_98 rfl ?_
                refine zz_callVi (v := fm_words m (6 * u + k)) (w' := (wx x (sm_code m 0) o)) (As := [.int (nI u), .int (nI k)]) (rest := []) G (cm_word l x (sm_code m 0) o u k _ _ rfl rfl (by omega) (hk)) kM_30 dM_field_99 rfl rfl rfl rfl (Nat.le_of_ble_eq_true rfl) (fun _ => rfl) ⟨Nat.le_of_ble_eq_true rfl, Nat.le_of_ble_eq_true rfl⟩ ⟨Nat.le_of_ble_eq_true rfl, Nat.le_of_ble_eq_true rfl⟩ ?_
                exact zz_iret G hret dM_field_102 (by rw [qField, if_pos h5, if_neg h17, if_neg h25, if_neg h29, if_neg h35, if_neg h43, nI_clamp (show t < 2 ^ 31 by omega), hq]; show Sum.inl (some (Value.int (fm_words m (6 * u + (nI k).toNatClampNeg))), wx x (sm_code m 0) o) = _; rw [nI_clamp (show k < 2 ^ 31 by omega)]) (Nat.le_of_ble_eq_true rfl) (Nat.le_of_ble_eq_true rfl)
  · refine zz_iconst (v := 1) G dM_field_8 (by decide) ?_
    refine zz_goto (tgt := 13) G dM_field_9 rfl ?_
    refine zz_put (w' := (wx x (sm_code m 1) o)) rfl G dM_field_13 flM_23 rfl rfl rfl (Nat.le_of_ble_eq_true rfl) rfl ?_
    refine zz_iload_n G dM_field_16 rfl ?_
    refine zz_if_lt (tgt := 50) G dM_field_17 rfl (fun h17 => ?_) (fun h17 => ?_)
    · refine zz_iconst (v := 0) G dM_field_50 (by decide) ?_
      refine zz_istore (lv' := [some (.ref 5), some (.int en), some (.int k), some (.int it), some (.int 0), none]) G dM_field_51 (Nat.le_of_ble_eq_true rfl) rfl ?_
      refine zz_aload_n G dM_field_53 rfl ?_
      refine zz_get (v := .int 1) G dM_field_54 flM_23 rfl rfl ?_
      refine zz_if_gt (tgt := 65) G dM_field_57 rfl (fun h57 => ?_) (fun h57 => ((absurd h57 (by decide) : False)).elim)
      refine zz_aload_n G dM_field_65 rfl ?_
      refine zz_get (v := .int 1) G dM_field_66 flM_23 rfl rfl ?_
      refine zz_if_le (tgt := 76) G dM_field_69 rfl (fun h69 => ((absurd h69 (by decide) : False)).elim) (fun h69 => ?_)
      refine zz_iconst (v := 0) G dM_field_72 (by decide) ?_
      refine zz_goto (tgt := 77) G dM_field_73 rfl ?_
      exact zz_iret G hret dM_field_77 (by rw [qField, if_neg h5] <;> rfl) (Nat.le_of_ble_eq_true rfl) (Nat.le_of_ble_eq_true rfl)
    · refine zz_iload_n G dM_field_20 rfl ?_
      refine zz_aload_n G dM_field_21 rfl ?_
      refine zz_get (v := .int (fm_entries m)) G dM_field_22 flM_42 rfl rfl ?_
      refine zz_icmp_ge (tgt := 50) G dM_field_25 rfl (fun h25 => ?_) (fun h25 => ?_)
      · refine zz_iconst (v := 0) G dM_field_50 (by decide) ?_
        refine zz_istore (lv' := [some (.ref 5), some (.int en), some (.int k), some (.int it), some (.int 0), none]) G dM_field_51 (Nat.le_of_ble_eq_true rfl) rfl ?_
        refine zz_aload_n G dM_field_53 rfl ?_
        refine zz_get (v := .int 1) G dM_field_54 flM_23 rfl rfl ?_
        refine zz_if_gt (tgt := 65) G dM_field_57 rfl (fun h57 => ?_) (fun h57 => ((absurd h57 (by decide) : False)).elim)
        refine zz_aload_n G dM_field_65 rfl ?_
        refine zz_get (v := .int 1) G dM_field_66 flM_23 rfl rfl ?_
        refine zz_if_le (tgt := 76) G dM_field_69 rfl (fun h69 => ((absurd h69 (by decide) : False)).elim) (fun h69 => ?_)
        refine zz_iconst (v := 0) G dM_field_72 (by decide) ?_
        refine zz_goto (tgt := 77) G dM_field_73 rfl ?_
        exact zz_iret G hret dM_field_77 (by rw [qField, if_neg h5] <;> rfl) (Nat.le_of_ble_eq_true rfl) (Nat.le_of_ble_eq_true rfl)
      · refine zz_iload_n G dM_field_28 rfl ?_
        refine zz_if_lt (tgt := 50) G dM_field_29 rfl (fun h29 => ?_) (fun h29 => ?_)
        · refine zz_iconst (v := 0) G dM_field_50 (by decide) ?_
          refine zz_istore (lv' := [some (.ref 5), some (.int en), some (.int k), some (.int it), some (.int 0), none]) G dM_field_51 (Nat.le_of_ble_eq_true rfl) rfl ?_
          refine zz_aload_n G dM_field_53 rfl ?_
          refine zz_get (v := .int 1) G dM_field_54 flM_23 rfl rfl ?_
          refine zz_if_gt (tgt := 65) G dM_field_57 rfl (fun h57 => ?_) (fun h57 => ((absurd h57 (by decide) : False)).elim)
          refine zz_aload_n G dM_field_65 rfl ?_
          refine zz_get (v := .int 1) G dM_field_66 flM_23 rfl rfl ?_
          refine zz_if_le (tgt := 76) G dM_field_69 rfl (fun h69 => ((absurd h69 (by decide) : False)).elim) (fun h69 => ?_)
          refine zz_iconst (v := 0) G dM_field_72 (by decide) ?_
          refine zz_goto (tgt := 77) G dM_field_73 rfl ?_
          exact zz_iret G hret dM_field_77 (by rw [qField, if_neg h5] <;> rfl) (Nat.le_of_ble_eq_true rfl) (Nat.le_of_ble_eq_true rfl)
        · refine zz_iload_n G dM_field_32 rfl ?_
          refine zz_bipush (v := 6) G dM_field_33 (by decide) ?_
          refine zz_icmp_ge (tgt := 50) G dM_field_35 rfl (fun h35 => ?_) (fun h35 => ?_)
          · refine zz_iconst (v := 0) G dM_field_50 (by decide) ?_
            refine zz_istore (lv' := [some (.ref 5), some (.int en), some (.int k), some (.int it), some (.int 0), none]) G dM_field_51 (Nat.le_of_ble_eq_true rfl) rfl ?_
            refine zz_aload_n G dM_field_53 rfl ?_
            refine zz_get (v := .int 1) G dM_field_54 flM_23 rfl rfl ?_
            refine zz_if_gt (tgt := 65) G dM_field_57 rfl (fun h57 => ?_) (fun h57 => ((absurd h57 (by decide) : False)).elim)
            refine zz_aload_n G dM_field_65 rfl ?_
            refine zz_get (v := .int 1) G dM_field_66 flM_23 rfl rfl ?_
            refine zz_if_le (tgt := 76) G dM_field_69 rfl (fun h69 => ((absurd h69 (by decide) : False)).elim) (fun h69 => ?_)
            refine zz_iconst (v := 0) G dM_field_72 (by decide) ?_
            refine zz_goto (tgt := 77) G dM_field_73 rfl ?_
            exact zz_iret G hret dM_field_77 (by rw [qField, if_neg h5] <;> rfl) (Nat.le_of_ble_eq_true rfl) (Nat.le_of_ble_eq_true rfl)
          · refine zz_aload_n G dM_field_38 rfl ?_
            refine zz_iload_n G dM_field_39 rfl ?_
            refine zz_callVi (v := sTime (fm_clock m) it) (w' := (wx x (sm_code m 1) o)) (As := [.int it]) (rest := []) G (cm_isTime l x (sm_code m 1) o it) kM_88 dM_field_40 rfl rfl rfl rfl (Nat.le_of_ble_eq_true rfl) (fun _ => rfl) ⟨Nat.le_of_ble_eq_true rfl, Nat.le_of_ble_eq_true rfl⟩ ⟨Nat.le_of_ble_eq_true rfl, Nat.le_of_ble_eq_true rfl⟩ ?_
            refine zz_if_eq (tgt := 50) G dM_field_43 rfl (fun h43 => ?_) (fun h43 => ?_)
            · refine zz_iconst (v := 0) G dM_field_50 (by decide) ?_
              refine zz_istore (lv' := [some (.ref 5), some (.int en), some (.int k), some (.int it), some (.int 0), none]) G dM_field_51 (Nat.le_of_ble_eq_true rfl) rfl ?_
              refine zz_aload_n G dM_field_53 rfl ?_
              refine zz_get (v := .int 1) G dM_field_54 flM_23 rfl rfl ?_
              refine zz_if_gt (tgt := 65) G dM_field_57 rfl (fun h57 => ?_) (fun h57 => ((absurd h57 (by decide) : False)).elim)
              refine zz_aload_n G dM_field_65 rfl ?_
              refine zz_get (v := .int 1) G dM_field_66 flM_23 rfl rfl ?_
              refine zz_if_le (tgt := 76) G dM_field_69 rfl (fun h69 => ((absurd h69 (by decide) : False)).elim) (fun h69 => ?_)
              refine zz_iconst (v := 0) G dM_field_72 (by decide) ?_
              refine zz_goto (tgt := 77) G dM_field_73 rfl ?_
              exact zz_iret G hret dM_field_77 (by rw [qField, if_neg h5] <;> rfl) (Nat.le_of_ble_eq_true rfl) (Nat.le_of_ble_eq_true rfl)
            · refine zz_iconst (v := 1) G dM_field_46 (by decide) ?_
              refine zz_goto (tgt := 51) G dM_field_47 rfl ?_
              refine zz_istore (lv' := [some (.ref 5), some (.int en), some (.int k), some (.int it), some (.int 1), none]) G dM_field_51 (Nat.le_of_ble_eq_true rfl) rfl ?_
              refine zz_aload_n G dM_field_53 rfl ?_
              refine zz_get (v := .int 1) G dM_field_54 flM_23 rfl rfl ?_
              refine zz_if_gt (tgt := 65) G dM_field_57 rfl (fun h57 => ?_) (fun h57 => ((absurd h57 (by decide) : False)).elim)
              refine zz_aload_n G dM_field_65 rfl ?_
              refine zz_get (v := .int 1) G dM_field_66 flM_23 rfl rfl ?_
              refine zz_if_le (tgt := 76) G dM_field_69 rfl (fun h69 => ((absurd h69 (by decide) : False)).elim) (fun h69 => ?_)
              refine zz_iconst (v := 0) G dM_field_72 (by decide) ?_
              refine zz_goto (tgt := 77) G dM_field_73 rfl ?_
              exact zz_iret G hret dM_field_77 (by rw [qField, if_neg h5] <;> rfl) (Nat.le_of_ble_eq_true rfl) (Nat.le_of_ble_eq_true rfl)
set_option maxRecDepth 100000 in
set_option maxHeartbeats 4000000 in
theorem cm_entries (l : Launch) (x : XS) (m : MS) (o : Nat → Int64)  : zC l yM_entries (Jvm.Cond.code yM_entries bM_entries 1 (some .int) :: Tw) 0 false 0 0 [.ref 5] (wx x m o) (qEnt x m o) := by
  refine zC_of [some (.ref 5)] (by decide) rfl (Nat.le_of_ble_eq_true rfl) ?_
  intro p e s mm args below meth c D cI cJ as G hret hex hbd
  refine zz_aload_n G dM_entries_0 rfl ?_
  refine zz_aload_n G dM_entries_1 rfl ?_
  refine zz_get (v := .int (fm_touched m)) G dM_entries_2 flM_65 rfl rfl ?_
  refine zz_if_eq (tgt := 12) G dM_entries_5 rfl (fun h5 => ?_) (fun h5 => ?_)
  · refine zz_iconst (v := 0) G dM_entries_12 (by decide) ?_
    refine zz_put (w' := (wx x (sm_code m 0) o)) rfl G dM_entries_13 flM_23 rfl rfl rfl (Nat.le_of_ble_eq_true rfl) rfl ?_
    refine zz_aload_n G dM_entries_16 rfl ?_
    refine zz_get (v := .int 0) G dM_entries_17 flM_23 rfl rfl ?_
    refine zz_if_le (tgt := 27) G dM_entries_20 rfl (fun h20 => ?_) (fun h20 => ((absurd h20 (by decide) : False)).elim)
    refine zz_aload_n G dM_entries_27 rfl ?_
    refine zz_get (v := .int (fm_entries m)) G dM_entries_28 flM_42 rfl rfl ?_
    exact zz_iret G hret dM_entries_31 (by rw [qEnt, if_pos h5] <;> rfl) (Nat.le_of_ble_eq_true rfl) (Nat.le_of_ble_eq_true rfl)
  · refine zz_iconst (v := 1) G dM_entries_8 (by decide) ?_
    refine zz_goto (tgt := 13) G dM_entries_9 rfl ?_
    refine zz_put (w' := (wx x (sm_code m 1) o)) rfl G dM_entries_13 flM_23 rfl rfl rfl (Nat.le_of_ble_eq_true rfl) rfl ?_
    refine zz_aload_n G dM_entries_16 rfl ?_
    refine zz_get (v := .int 1) G dM_entries_17 flM_23 rfl rfl ?_
    refine zz_if_le (tgt := 27) G dM_entries_20 rfl (fun h20 => ((absurd h20 (by decide) : False)).elim) (fun h20 => ?_)
    refine zz_iconst (v := 0) G dM_entries_23 (by decide) ?_
    refine zz_goto (tgt := 31) G dM_entries_24 rfl ?_
    exact zz_iret G hret dM_entries_31 (by rw [qEnt, if_neg h5] <;> rfl) (Nat.le_of_ble_eq_true rfl) (Nat.le_of_ble_eq_true rfl)
set_option maxRecDepth 100000 in
set_option maxHeartbeats 4000000 in
theorem cm_clock (l : Launch) (x : XS) (m : MS) (o : Nat → Int64)  : zC l yM_clock (Jvm.Cond.code yM_clock bM_clock 1 (some .int) :: Tw) 0 false 0 0 [.ref 5] (wx x m o) (.inl (some (.int (fm_clock m)), wx x (sm_code m 0) o)) := by
  refine zC_of [some (.ref 5)] (by decide) rfl (Nat.le_of_ble_eq_true rfl) ?_
  intro p e s mm args below meth c D cI cJ as G hret hex hbd
  refine zz_aload_n G dM_clock_0 rfl ?_
  refine zz_iconst (v := 0) G dM_clock_1 (by decide) ?_
  refine zz_put (w' := (wx x (sm_code m 0) o)) rfl G dM_clock_2 flM_23 rfl rfl rfl (Nat.le_of_ble_eq_true rfl) rfl ?_
  refine zz_aload_n G dM_clock_5 rfl ?_
  refine zz_get (v := .int (fm_clock m)) G dM_clock_6 flM_27 rfl rfl ?_
  exact zz_iret G hret dM_clock_9 (rfl) (Nat.le_of_ble_eq_true rfl) (Nat.le_of_ble_eq_true rfl)
set_option maxRecDepth 100000 in
set_option maxHeartbeats 4000000 in
theorem cm_head (l : Launch) (x : XS) (m : MS) (o : Nat → Int64) (n : Nat) (hcl : fm_clock m = nI n) (hn : n ≤ 64) : zC l yM_head (Jvm.Cond.code yM_head bM_head 1 (some .long) :: Tw) 1 false 0 0 [.ref 5] (wx x m o) (.inl (some (.long (sBef (fm_links m) n)), wx x (sm_code m 0) o)) := by
  refine zC_of [some (.ref 5)] (by decide) rfl (Nat.le_of_ble_eq_true rfl) ?_
  intro p e s mm args below meth c D cI cJ as G hret hex hbd
  refine zz_aload_n G dM_head_0 rfl ?_
  refine zz_iconst (v := 0) G dM_head_1 (by decide) ?_
  refine zz_put (w' := (wx x (sm_code m 0) o)) rfl G dM_head_2 flM_23 rfl rfl rfl (Nat.le_of_ble_eq_true rfl) rfl ?_
  refine zz_aload_n G dM_head_5 rfl ?_
  refine zz_aload_n G dM_head_6 rfl ?_
  refine zz_get (v := .int (nI n)) G dM_head_7 flM_27 rfl (by rw [← hcl]; rfl) ?_
  refine zz_callVl (v := sBef (fm_links m) n) (w' := (wx x (sm_code m 0) o)) (As := [.int (nI n)]) (rest := []) G (cm_linkBefore l x (sm_code m 0) o n _ rfl (hn)) kM_58 dM_head_10 rfl rfl rfl rfl (Nat.le_of_ble_eq_true rfl) (fun _ => rfl) ⟨Nat.le_of_ble_eq_true rfl, Nat.le_of_ble_eq_true rfl⟩ ⟨Nat.le_of_ble_eq_true rfl, Nat.le_of_ble_eq_true rfl⟩ ?_
  exact zz_lret G hret dM_head_13 (rfl) (Nat.le_of_ble_eq_true rfl) (Nat.le_of_ble_eq_true rfl)
set_option maxRecDepth 100000 in
set_option maxHeartbeats 4000000 in
theorem cm_verify (l : Launch) (x : XS) (m : MS) (o : Nat → Int64) (n : Nat) (hcl : fm_clock m = nI n) (hn : n ≤ 64) : zC l yM_verify (Jvm.Cond.code yM_verify bM_verify 4 (some .int) :: Tw) 2 false 0 0 [.ref 5] (wx x m o) (.inl (some (.int (sVfy (fm_words m) (fm_links m) 0 n)), wx x (sm_code m 0) o)) := by
  refine zC_of [some (.ref 5), none, none, none] (by decide) rfl (Nat.le_of_ble_eq_true rfl) ?_
  intro p e s mm args below meth c D cI cJ as G hret hex hbd
  have loop : ∀ (d v : Nat), v + d = n → sVfy (fm_words m) (fm_links m) v d = sVfy (fm_words m) (fm_links m) 0 n → Z p l e (zrm 2) s mm args below meth c 4 D cI cJ as false 0 0 (zMQ below (.inl (some (.int (sVfy (fm_words m) (fm_links m) 0 n)), wx x (sm_code m 0) o)) D cI cJ as false s 0 0) 7 [some (.ref 5), some (.int (nI v)), none, none] [] (wx x (sm_code m 0) o) := by
    intro d
    induction d with
    | zero =>
      intro v hv hq
      have hv : n = v := by omega
      subst hv
      refine zz_iload_n G dM_verify_7 rfl ?_
      refine zz_aload_n G dM_verify_8 rfl ?_
      refine zz_get (v := .int (nI n)) G dM_verify_9 flM_27 rfl (by rw [← hcl]; rfl) ?_
      refine zz_icmp_ge (tgt := 47) G dM_verify_12 rfl (fun h12 => ?_) (fun h12 => (h12 (nI_le (Nat.le_refl _) (by omega))).elim)
      refine zz_iconst (v := 0) G dM_verify_47 (by decide) ?_
      exact zz_iret G hret dM_verify_48 (by rw [← hq] <;> rfl) (Nat.le_of_ble_eq_true rfl) (Nat.le_of_ble_eq_true rfl)
    | succ d ih =>
      intro v hv hq
      refine zz_iload_n G dM_verify_7 rfl ?_
      refine zz_aload_n G dM_verify_8 rfl ?_
      refine zz_get (v := .int (nI n)) G dM_verify_9 flM_27 rfl (by rw [← hcl]; rfl) ?_
      refine zz_icmp_ge (tgt := 47) G dM_verify_12 rfl (fun h12 => (nI_ge (by omega) (by omega) h12).elim) (fun h12 => ?_)
      refine zz_aload_n G dM_verify_15 rfl ?_
      refine zz_iload_n G dM_verify_16 rfl ?_
      refine zz_aload_n G dM_verify_17 rfl ?_
      refine zz_iload_n G dM_verify_18 rfl ?_
      refine zz_callVl (v := sBef (fm_links m) v) (w' := (wx x (sm_code m 0) o)) (As := [.int (nI v)]) (rest := [.int (nI v), .ref 5]) G (cm_linkBefore l x (sm_code m 0) o v _ rfl (by omega)) kM_58 dM_verify_19 rfl rfl rfl rfl (Nat.le_of_ble_eq_true rfl) (fun _ => rfl) ⟨Nat.le_of_ble_eq_true rfl, Nat.le_of_ble_eq_true rfl⟩ ⟨Nat.le_of_ble_eq_true rfl, Nat.le_of_ble_eq_true rfl⟩ ?_
      refine zz_callVl (v := sLnk (fm_words m) v (sBef (fm_links m) v) 6) (w' := (wx x (sm_code m 0) o)) (As := [.int (nI v), .long (sBef (fm_links m) v)]) (rest := []) G (cm_linkOf l x (sm_code m 0) o v _ (sBef (fm_links m) v) rfl (by omega)) kM_61 dM_verify_22 rfl rfl rfl rfl (Nat.le_of_ble_eq_true rfl) (fun _ => rfl) ⟨Nat.le_of_ble_eq_true rfl, Nat.le_of_ble_eq_true rfl⟩ ⟨Nat.le_of_ble_eq_true rfl, Nat.le_of_ble_eq_true rfl⟩ ?_
      refine zz_lstore_n (lv' := [some (.ref 5), some (.int (nI v)), some (.long (sLnk (fm_words m) v (sBef (fm_links m) v) 6)), none]) G dM_verify_25 (Nat.le_of_ble_eq_true rfl) rfl ?_
      refine zz_lload_n G dM_verify_26 rfl ?_
      refine zz_aload_n G dM_verify_27 rfl ?_
      refine zz_get (v := .ref 7) G dM_verify_28 flM_13 rfl rfl ?_
      refine zz_iload_n G dM_verify_31 rfl ?_
      refine zz_lald (v := fm_links m v) G dM_verify_32 rfl (i1_in (by omega)) (by rw [i1_at (by omega)] <;> rfl) ?_
      refine zz_lcmp G dM_verify_33 ?_
      refine zz_if_eq (tgt := 41) G dM_verify_34 rfl (fun h34 => ?_) (fun h34 => ?_)
      · refine zz_iinc (v := nI (v + 1)) (lv' := [some (.ref 5), some (.int (nI (v + 1))), some (.long (sLnk (fm_words m) v (sBef (fm_links m) v) 6)), none]) G dM_verify_41 rfl (by rw [nI_succ] <;> rfl) rfl ?_
        refine zz_goto (tgt := 7) G dM_verify_44 rfl ?_
        refine zz_few (lv' := [some (.ref 5), some (.int (nI (v + 1))), none, none]) (by exact ⟨rfl, rfl, trivial⟩) ?_
        refine ih (v + 1) (by omega) ?_
        rw [← hq]
        show _ = (if sLnk (fm_words m) v (sBef (fm_links m) v) 6 = fm_links m v then _ else _)
        rw [if_pos ((lg_cmp_eq _ _).mp h34)]
      · refine zz_iload_n G dM_verify_37 rfl ?_
        refine zz_iconst (v := 1) G dM_verify_38 (by decide) ?_
        refine zz_iadd G dM_verify_39 ?_
        exact zz_iret G hret dM_verify_40 (by rw [← hq, show sVfy (fm_words m) (fm_links m) v (d + 1) = nI v + 1 from by show (if sLnk (fm_words m) v (sBef (fm_links m) v) 6 = fm_links m v then _ else _) = _; rw [if_neg (fun z => h34 ((lg_cmp_eq _ _).mpr z))]]) (Nat.le_of_ble_eq_true rfl) (Nat.le_of_ble_eq_true rfl)
  refine zz_aload_n G dM_verify_0 rfl ?_
  refine zz_iconst (v := 0) G dM_verify_1 (by decide) ?_
  refine zz_put (w' := (wx x (sm_code m 0) o)) rfl G dM_verify_2 flM_23 rfl rfl rfl (Nat.le_of_ble_eq_true rfl) rfl ?_
  refine zz_iconst (v := 0) G dM_verify_5 (by decide) ?_
  refine zz_istore_n (lv' := [some (.ref 5), some (.int 0), none, none]) G dM_verify_6 (Nat.le_of_ble_eq_true rfl) rfl ?_
  exact loop n 0 (by omega) rfl
set_option maxRecDepth 100000 in
set_option maxHeartbeats 4000000 in
theorem cm_tamper (l : Launch) (x : XS) (m : MS) (o : Nat → Int64) (n : Nat) (v k b : Int32) (hcl : fm_clock m = nI n) (hn : n ≤ 64) : zC l yM_tamper (Jvm.Cond.code yM_tamper bM_tamper 4 (some .boolean) :: Tw) 0 false 0 0 [.ref 5, .int v, .int k, .int b] (wx x m o) (qTamp x m o v k b) := by
  refine zC_of [some (.ref 5), some (.int v), some (.int k), some (.int b)] (by decide) rfl (Nat.le_of_ble_eq_true rfl) ?_
  intro p e s mm args below meth c D cI cJ as G hret hex hbd
  refine zz_aload_n G dM_tamper_0 rfl ?_
  refine zz_iconst (v := 0) G dM_tamper_1 (by decide) ?_
  refine zz_put (w' := (wx x (sm_code m 0) o)) rfl G dM_tamper_2 flM_23 rfl rfl rfl (Nat.le_of_ble_eq_true rfl) rfl ?_
  refine zz_iload_n G dM_tamper_5 rfl ?_
  refine zz_if_lt (tgt := 26) G dM_tamper_6 rfl (fun h6 => ?_) (fun h6 => ?_)
  · refine zz_iconst (v := 0) G dM_tamper_26 (by decide) ?_
    exact zz_zret G hret dM_tamper_27 rfl (by rw [qTamp, if_pos h6] <;> rfl) (Nat.le_of_ble_eq_true rfl) (Nat.le_of_ble_eq_true rfl)
  · refine zz_iload_n G dM_tamper_9 rfl ?_
    refine zz_aload_n G dM_tamper_10 rfl ?_
    refine zz_get (v := .int (fm_clock m)) G dM_tamper_11 flM_27 rfl rfl ?_
    refine zz_icmp_ge (tgt := 26) G dM_tamper_14 rfl (fun h14 => ?_) (fun h14 => ?_)
    · refine zz_iconst (v := 0) G dM_tamper_26 (by decide) ?_
      exact zz_zret G hret dM_tamper_27 rfl (by rw [qTamp, if_neg h6, if_pos h14] <;> rfl) (Nat.le_of_ble_eq_true rfl) (Nat.le_of_ble_eq_true rfl)
    · refine zz_iload_n G dM_tamper_17 rfl ?_
      refine zz_if_lt (tgt := 26) G dM_tamper_18 rfl (fun h18 => ?_) (fun h18 => ?_)
      · refine zz_iconst (v := 0) G dM_tamper_26 (by decide) ?_
        exact zz_zret G hret dM_tamper_27 rfl (by rw [qTamp, if_neg h6, if_neg h14, if_pos h18] <;> rfl) (Nat.le_of_ble_eq_true rfl) (Nat.le_of_ble_eq_true rfl)
      · refine zz_iload_n G dM_tamper_21 rfl ?_
        refine zz_iconst (v := 5) G dM_tamper_22 (by decide) ?_
        refine zz_icmp_le (tgt := 28) G dM_tamper_23 rfl (fun h23 => ?_) (fun h23 => ?_)
        · obtain ⟨v, hv, rfl⟩ := sVer_of hn (show ¬ sVer (nI n) v = 0 by rw [← hcl]; unfold sVer; rw [if_neg h6, if_neg h14]; decide)
          obtain ⟨k, hk, rfl⟩ := sWrd_of (show ¬ sWrd k = 0 by unfold sWrd; rw [if_neg h18, if_neg (six h23)]; decide)
          refine zz_aload_n G dM_tamper_28 rfl ?_
          refine zz_get (v := .ref 6) G dM_tamper_29 flM_7 rfl rfl ?_
          refine zz_bipush (v := 6) G dM_tamper_32 (by decide) ?_
          refine zz_iload_n G dM_tamper_34 rfl ?_
          refine zz_imul G dM_tamper_35 ?_
          refine zz_iload_n G dM_tamper_36 rfl ?_
          refine zz_iadd G dM_tamper_37 ?_
          refine zz_iload_n G dM_tamper_38 rfl ?_
          refine zz_iast (w' := (wx x (sm_words (sm_code m 0) (upd (fm_words m) (6 * v + k) b)) o)) rfl G dM_tamper_39 rfl (iy_in (by omega) hk) (by rw [iy_at (by omega) hk] <;> rfl) ?_
          refine zz_aload_n G dM_tamper_40 rfl ?_
          refine zz_iconst (v := 1) G dM_tamper_41 (by decide) ?_
          refine zz_put (w' := (wx x (sm_touched (sm_words (sm_code m 0) (upd (fm_words m) (6 * v + k) b)) 1) o)) rfl G dM_tamper_42 flM_65 rfl rfl rfl (Nat.le_of_ble_eq_true rfl) rfl ?_
          refine zz_iconst (v := 1) G dM_tamper_45 (by decide) ?_
          exact zz_zret G hret dM_tamper_46 rfl (by rw [qTamp, if_neg h6, if_neg h14, if_neg h18, if_pos h23, nI_clamp (show v < 2 ^ 31 by omega), nI_clamp (show k < 2 ^ 31 by omega)] <;> rfl) (Nat.le_of_ble_eq_true rfl) (Nat.le_of_ble_eq_true rfl)
        · refine zz_iconst (v := 0) G dM_tamper_26 (by decide) ?_
          exact zz_zret G hret dM_tamper_27 rfl (by rw [qTamp, if_neg h6, if_neg h14, if_neg h18, if_neg h23] <;> rfl) (Nat.le_of_ble_eq_true rfl) (Nat.le_of_ble_eq_true rfl)
