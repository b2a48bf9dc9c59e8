set_option maxRecDepth 100000 in
set_option maxHeartbeats 4000000 in
theorem cm_open (l : Launch) (x : XS) (m : MS) (o : Nat → Int64) (a f g it : Int32) (n e1 : Nat) (hcl : fm_clock m = nI n) (hn : n ≤ 64) (hen : fm_entries m = nI e1) (he64 : e1 ≤ 64) : zC l yM_open (Jvm.Cond.code yM_open bM_open 8 (some .int) :: Tw) 3 false 0 0 [.ref 5, .int a, .int f, .int g, .int it] (wx x m o) (qOpen x m o e1 a f g it) := by
  refine zC_of [some (.ref 5), some (.int a), some (.int f), some (.int g), some (.int it), none, none, none] (by decide) rfl (Nat.le_of_ble_eq_true rfl) ?_
  intro p e s mm args below meth c D cI cJ as G hret hex hbd
  refine zz_aload_n G dM_open_0 rfl ?_
  refine zz_aload_n G dM_open_1 rfl ?_
  refine zz_get (v := .int (fm_touched m)) G dM_open_2 flM_65 rfl rfl ?_
  refine zz_if_eq (tgt := 12) G dM_open_5 rfl (fun h5 => ?_) (fun h5 => ?_)
  · refine zz_iload_n G dM_open_12 rfl ?_
    refine zz_callSi (v := sAcc a) (w' := (wx x m o)) (As := [.int a]) (rest := [.ref 5]) G (cm_isAccount l x m o a) kM_69 dM_open_13 rfl rfl (Nat.le_of_ble_eq_true rfl) (fun _ => rfl) ⟨Nat.le_of_ble_eq_true rfl, Nat.le_of_ble_eq_true rfl⟩ ⟨Nat.le_of_ble_eq_true rfl, Nat.le_of_ble_eq_true rfl⟩ ?_
    refine zz_if_eq (tgt := 46) G dM_open_16 rfl (fun h16 => ?_) (fun h16 => ?_)
    · refine zz_iconst (v := 2) G dM_open_46 (by decide) ?_
      refine zz_put (w' := (wx x (sm_code m 2) o)) rfl G dM_open_47 flM_23 rfl rfl rfl (Nat.le_of_ble_eq_true rfl) rfl ?_
      refine zz_aload_n G dM_open_50 rfl ?_
      refine zz_get (v := .int 2) G dM_open_51 flM_23 rfl rfl ?_
      refine zz_if_le (tgt := 59) G dM_open_54 rfl (fun h54 => ((absurd h54 (by decide) : False)).elim) (fun h54 => ?_)
      refine zz_iconst (v := 0) G dM_open_57 (by decide) ?_
      exact zz_iret G hret dM_open_58 (by rw [qOpen, if_pos h5, if_pos h16] <;> rfl) (Nat.le_of_ble_eq_true rfl) (Nat.le_of_ble_eq_true rfl)
    · refine zz_iload_n G dM_open_19 rfl ?_
      refine zz_callSi (v := sDay f) (w' := (wx x m o)) (As := [.int f]) (rest := [.ref 5]) G (cm_isDay l x m o f) kM_73 dM_open_20 rfl rfl (Nat.le_of_ble_eq_true rfl) (fun _ => rfl) ⟨Nat.le_of_ble_eq_true rfl, Nat.le_of_ble_eq_true rfl⟩ ⟨Nat.le_of_ble_eq_true rfl, Nat.le_of_ble_eq_true rfl⟩ ?_
      refine zz_if_eq (tgt := 46) G dM_open_23 rfl (fun h23 => ?_) (fun h23 => ?_)
      · refine zz_iconst (v := 2) G dM_open_46 (by decide) ?_
        refine zz_put (w' := (wx x (sm_code m 2) o)) rfl G dM_open_47 flM_23 rfl rfl rfl (Nat.le_of_ble_eq_true rfl) rfl ?_
        refine zz_aload_n G dM_open_50 rfl ?_
        refine zz_get (v := .int 2) G dM_open_51 flM_23 rfl rfl ?_
        refine zz_if_le (tgt := 59) G dM_open_54 rfl (fun h54 => ((absurd h54 (by decide) : False)).elim) (fun h54 => ?_)
        refine zz_iconst (v := 0) G dM_open_57 (by decide) ?_
        exact zz_iret G hret dM_open_58 (by rw [qOpen, if_pos h5, if_neg h16, if_pos h23] <;> rfl) (Nat.le_of_ble_eq_true rfl) (Nat.le_of_ble_eq_true rfl)
      · refine zz_iload_n G dM_open_26 rfl ?_
        refine zz_callSi (v := sDay g) (w' := (wx x m o)) (As := [.int g]) (rest := [.ref 5]) G (cm_isDay l x m o g) kM_73 dM_open_27 rfl rfl (Nat.le_of_ble_eq_true rfl) (fun _ => rfl) ⟨Nat.le_of_ble_eq_true rfl, Nat.le_of_ble_eq_true rfl⟩ ⟨Nat.le_of_ble_eq_true rfl, Nat.le_of_ble_eq_true rfl⟩ ?_
        refine zz_if_eq (tgt := 46) G dM_open_30 rfl (fun h30 => ?_) (fun h30 => ?_)
        · refine zz_iconst (v := 2) G dM_open_46 (by decide) ?_
          refine zz_put (w' := (wx x (sm_code m 2) o)) rfl G dM_open_47 flM_23 rfl rfl rfl (Nat.le_of_ble_eq_true rfl) rfl ?_
          refine zz_aload_n G dM_open_50 rfl ?_
          refine zz_get (v := .int 2) G dM_open_51 flM_23 rfl rfl ?_
          refine zz_if_le (tgt := 59) G dM_open_54 rfl (fun h54 => ((absurd h54 (by decide) : False)).elim) (fun h54 => ?_)
          refine zz_iconst (v := 0) G dM_open_57 (by decide) ?_
          exact zz_iret G hret dM_open_58 (by rw [qOpen, if_pos h5, if_neg h16, if_neg h23, if_pos h30] <;> rfl) (Nat.le_of_ble_eq_true rfl) (Nat.le_of_ble_eq_true rfl)
        · refine zz_aload_n G dM_open_33 rfl ?_
          refine zz_iload G dM_open_34 rfl ?_
          refine zz_callVi (v := sTime (fm_clock m) it) (w' := (wx x m o)) (As := [.int it]) (rest := [.ref 5]) G (cm_isTime l x m o it) kM_88 dM_open_36 rfl rfl rfl rfl (Nat.le_of_ble_eq_true rfl) (fun _ => rfl) ⟨Nat.le_of_ble_eq_true rfl, Nat.le_of_ble_eq_true rfl⟩ ⟨Nat.le_of_ble_eq_true rfl, Nat.le_of_ble_eq_true rfl⟩ ?_
          refine zz_if_eq (tgt := 46) G dM_open_39 rfl (fun h39 => ?_) (fun h39 => ?_)
          · refine zz_iconst (v := 2) G dM_open_46 (by decide) ?_
            refine zz_put (w' := (wx x (sm_code m 2) o)) rfl G dM_open_47 flM_23 rfl rfl rfl (Nat.le_of_ble_eq_true rfl) rfl ?_
            refine zz_aload_n G dM_open_50 rfl ?_
            refine zz_get (v := .int 2) G dM_open_51 flM_23 rfl rfl ?_
            refine zz_if_le (tgt := 59) G dM_open_54 rfl (fun h54 => ((absurd h54 (by decide) : False)).elim) (fun h54 => ?_)
            refine zz_iconst (v := 0) G dM_open_57 (by decide) ?_
            exact zz_iret G hret dM_open_58 (by rw [qOpen, if_pos h5, if_neg h16, if_neg h23, if_neg h30, if_pos h39] <;> rfl) (Nat.le_of_ble_eq_true rfl) (Nat.le_of_ble_eq_true rfl)
          · obtain ⟨t, ht, rfl⟩ := sTime_of hn (by rw [← hcl]; exact h39)
            obtain ⟨f, hf, rfl⟩ := sDay_of h23
            obtain ⟨g, hg, rfl⟩ := sDay_of h30
            have step : ∀ (ls : List Nat) (y : Int32) (j : Nat), j < e1 → (∀ v, sLast (fm_words m) (nI j) t = some v → ¬ sBel (fm_words m) v a = 0 → fm_words m (6 * v + 5) = y → ls.length < 64) → Z p l e (zrm 3) s mm args below meth c 8 D cI cJ as false 0 0 (zMQ below (qOpen x m o e1 a (nI f) (nI g) (nI t)) D cI cJ as false s 0 0) 86 [some (.ref 5), some (.int a), some (.int (nI f)), some (.int (nI g)), some (.int (nI t)), some (.int y), some (.int (nI (j + 1))), none] [] (wx x (mOpn m a (ls ++ mTake (fm_words m) a y t j)) o) → Z p l e (zrm 3) s mm args below meth c 8 D cI cJ as false 0 0 (zMQ below (qOpen x m o e1 a (nI f) (nI g) (nI t)) D cI cJ as false s 0 0) 86 [some (.ref 5), some (.int a), some (.int (nI f)), some (.int (nI g)), some (.int (nI t)), some (.int y), some (.int (nI j)), none] [] (wx x (mOpn m a (ls)) o) := by
              intro ls y j hj hlen kk
              rcases hv : sLast (fm_words m) (nI j) t with _ | v
              · refine zz_iload G dM_open_86 rfl ?_
                refine zz_aload_n G dM_open_88 rfl ?_
                refine zz_get (v := .int (nI e1)) G dM_open_89 flM_42 rfl (by rw [← hen]; rfl) ?_
                refine zz_icmp_ge (tgt := 192) G dM_open_92 rfl (fun h92 => (nI_ge (by omega) (by omega) h92).elim) (fun h92 => ?_)
                refine zz_aload_n G dM_open_95 rfl ?_
                refine zz_iload G dM_open_96 rfl ?_
                refine zz_iload G dM_open_98 rfl ?_
                refine zz_callVi (v := (-1)) (w' := (wx x (sm_puts (sm_list (sm_ans (sm_at (sm_count (sm_code m 0) (nI (ls).length)) 0) 0) (aPut (fm_list m) ((ls).map (fE (fm_words m))))) (aPut (fm_puts m) ((ls).map (sPut (fm_words m) a)))) o)) (As := [.int (nI j), .int (nI t)]) (rest := []) G (by have q := cm_currentAt l x (sm_puts (sm_list (sm_ans (sm_at (sm_count (sm_code m 0) (nI (ls).length)) 0) 0) (aPut (fm_list m) ((ls).map (fE (fm_words m))))) (aPut (fm_puts m) ((ls).map (sPut (fm_words m) a)))) o (nI j) _ t rfl (by omega); rw [show sLast (fm_words (sm_puts (sm_list (sm_ans (sm_at (sm_count (sm_code m 0) (nI (ls).length)) 0) 0) (aPut (fm_list m) ((ls).map (fE (fm_words m))))) (aPut (fm_puts m) ((ls).map (sPut (fm_words m) a))))) (nI j) t = _ from hv] at q; exact q) kM_45 dM_open_100 rfl rfl rfl rfl (Nat.le_of_ble_eq_true rfl) (fun _ => rfl) ⟨Nat.le_of_ble_eq_true rfl, Nat.le_of_ble_eq_true rfl⟩ ⟨Nat.le_of_ble_eq_true rfl, Nat.le_of_ble_eq_true rfl⟩ ?_
                refine zz_istore (lv' := [some (.ref 5), some (.int a), some (.int (nI f)), some (.int (nI g)), some (.int (nI t)), some (.int y), some (.int (nI j)), some (.int (-1))]) G dM_open_103 (Nat.le_of_ble_eq_true rfl) rfl ?_
                refine zz_aload_n G dM_open_105 rfl ?_
                refine zz_iload G dM_open_106 rfl ?_
                refine zz_iload_n G dM_open_108 rfl ?_
                refine zz_callVi (v := 0) (w' := (wx x (sm_puts (sm_list (sm_ans (sm_at (sm_count (sm_code m 0) (nI (ls).length)) 0) 0) (aPut (fm_list m) ((ls).map (fE (fm_words m))))) (aPut (fm_puts m) ((ls).map (sPut (fm_words m) a)))) o)) (As := [.int (-1), .int a]) (rest := []) G (cm_belongs0 l x (sm_puts (sm_list (sm_ans (sm_at (sm_count (sm_code m 0) (nI (ls).length)) 0) 0) (aPut (fm_list m) ((ls).map (fE (fm_words m))))) (aPut (fm_puts m) ((ls).map (sPut (fm_words m) a)))) o a) kM_104 dM_open_109 rfl rfl rfl rfl (Nat.le_of_ble_eq_true rfl) (fun _ => rfl) ⟨Nat.le_of_ble_eq_true rfl, Nat.le_of_ble_eq_true rfl⟩ ⟨Nat.le_of_ble_eq_true rfl, Nat.le_of_ble_eq_true rfl⟩ ?_
                refine zz_if_eq (tgt := 186) G dM_open_112 rfl (fun h112 => ?_) (fun h112 => ((absurd h112 (by decide) : False)).elim)
                refine zz_iinc (v := nI (j + 1)) (lv' := [some (.ref 5), some (.int a), some (.int (nI f)), some (.int (nI g)), some (.int (nI t)), some (.int y), some (.int (nI (j + 1))), some (.int (-1))]) G dM_open_186 rfl (by rw [nI_succ]; rfl) rfl ?_
                refine zz_goto (tgt := 86) G dM_open_189 rfl ?_
                refine zz_few (lv' := [some (.ref 5), some (.int a), some (.int (nI f)), some (.int (nI g)), some (.int (nI t)), some (.int y), some (.int (nI (j + 1))), none]) (by exact ⟨rfl, rfl, rfl, rfl, rfl, rfl, rfl, trivial⟩) ?_
                rw [mTake_none hv, List.append_nil] at kk
                exact kk
              · have hvt : v < t := (mL_lt t hv).1
                have hfv : fE (fm_words m) v = nI j := (mL_lt t hv).2
                refine zz_iload G dM_open_86 rfl ?_
                refine zz_aload_n G dM_open_88 rfl ?_
                refine zz_get (v := .int (nI e1)) G dM_open_89 flM_42 rfl (by rw [← hen]; rfl) ?_
                refine zz_icmp_ge (tgt := 192) G dM_open_92 rfl (fun h92 => (nI_ge (by omega) (by omega) h92).elim) (fun h92 => ?_)
                refine zz_aload_n G dM_open_95 rfl ?_
                refine zz_iload G dM_open_96 rfl ?_
                refine zz_iload G dM_open_98 rfl ?_
                refine zz_callVi (v := nI v) (w' := (wx x (sm_puts (sm_list (sm_ans (sm_at (sm_count (sm_code m 0) (nI (ls).length)) 0) 0) (aPut (fm_list m) ((ls).map (fE (fm_words m))))) (aPut (fm_puts m) ((ls).map (sPut (fm_words m) a)))) o)) (As := [.int (nI j), .int (nI t)]) (rest := []) G (by have q := cm_currentAt l x (sm_puts (sm_list (sm_ans (sm_at (sm_count (sm_code m 0) (nI (ls).length)) 0) 0) (aPut (fm_list m) ((ls).map (fE (fm_words m))))) (aPut (fm_puts m) ((ls).map (sPut (fm_words m) a)))) o (nI j) _ t rfl (by omega); rw [show sLast (fm_words (sm_puts (sm_list (sm_ans (sm_at (sm_count (sm_code m 0) (nI (ls).length)) 0) 0) (aPut (fm_list m) ((ls).map (fE (fm_words m))))) (aPut (fm_puts m) ((ls).map (sPut (fm_words m) a))))) (nI j) t = _ from hv] at q; exact q) kM_45 dM_open_100 rfl rfl rfl rfl (Nat.le_of_ble_eq_true rfl) (fun _ => rfl) ⟨Nat.le_of_ble_eq_true rfl, Nat.le_of_ble_eq_true rfl⟩ ⟨Nat.le_of_ble_eq_true rfl, Nat.le_of_ble_eq_true rfl⟩ ?_
                refine zz_istore (lv' := [some (.ref 5), some (.int a), some (.int (nI f)), some (.int (nI g)), some (.int (nI t)), some (.int y), some (.int (nI j)), some (.int (nI v))]) G dM_open_103 (Nat.le_of_ble_eq_true rfl) rfl ?_
                refine zz_aload_n G dM_open_105 rfl ?_
                refine zz_iload G dM_open_106 rfl ?_
                refine zz_iload_n G dM_open_108 rfl ?_
                refine zz_callVi (v := sBel (fm_words m) v a) (w' := (wx x (sm_puts (sm_list (sm_ans (sm_at (sm_count (sm_code m 0) (nI (ls).length)) 0) 0) (aPut (fm_list m) ((ls).map (fE (fm_words m))))) (aPut (fm_puts m) ((ls).map (sPut (fm_words m) a)))) o)) (As := [.int (nI v), .int a]) (rest := []) G (cm_belongs l x (sm_puts (sm_list (sm_ans (sm_at (sm_count (sm_code m 0) (nI (ls).length)) 0) 0) (aPut (fm_list m) ((ls).map (fE (fm_words m))))) (aPut (fm_puts m) ((ls).map (sPut (fm_words m) a)))) o v _ a rfl (by omega)) kM_104 dM_open_109 rfl rfl rfl rfl (Nat.le_of_ble_eq_true rfl) (fun _ => rfl) ⟨Nat.le_of_ble_eq_true rfl, Nat.le_of_ble_eq_true rfl⟩ ⟨Nat.le_of_ble_eq_true rfl, Nat.le_of_ble_eq_true rfl⟩ ?_
                refine zz_if_eq (tgt := 186) G dM_open_112 rfl (fun h112 => ?_) (fun h112 => ?_)
                · refine zz_iinc (v := nI (j + 1)) (lv' := [some (.ref 5), some (.int a), some (.int (nI f)), some (.int (nI g)), some (.int (nI t)), some (.int y), some (.int (nI (j + 1))), some (.int (nI v))]) G dM_open_186 rfl (by rw [nI_succ]; rfl) rfl ?_
                  refine zz_goto (tgt := 86) G dM_open_189 rfl ?_
                  refine zz_few (lv' := [some (.ref 5), some (.int a), some (.int (nI f)), some (.int (nI g)), some (.int (nI t)), some (.int y), some (.int (nI (j + 1))), none]) (by exact ⟨rfl, rfl, rfl, rfl, rfl, rfl, rfl, trivial⟩) ?_
                  rw [mTake_bel hv h112, List.append_nil] at kk
                  exact kk
                · refine zz_aload_n G dM_open_115 rfl ?_
                  refine zz_iload G dM_open_116 rfl ?_
                  refine zz_iconst (v := 5) G dM_open_118 (by decide) ?_
                  refine zz_callVi (v := fm_words m (6 * v + 5)) (w' := (wx x (sm_puts (sm_list (sm_ans (sm_at (sm_count (sm_code m 0) (nI (ls).length)) 0) 0) (aPut (fm_list m) ((ls).map (fE (fm_words m))))) (aPut (fm_puts m) ((ls).map (sPut (fm_words m) a)))) o)) (As := [.int (nI v), .int 5]) (rest := []) G (cm_word l x (sm_puts (sm_list (sm_ans (sm_at (sm_count (sm_code m 0) (nI (ls).length)) 0) 0) (aPut (fm_list m) ((ls).map (fE (fm_words m))))) (aPut (fm_puts m) ((ls).map (sPut (fm_words m) a)))) o v 5 _ _ rfl rfl (by omega) (by decide)) kM_30 dM_open_119 rfl rfl rfl rfl (Nat.le_of_ble_eq_true rfl) (fun _ => rfl) ⟨Nat.le_of_ble_eq_true rfl, Nat.le_of_ble_eq_true rfl⟩ ⟨Nat.le_of_ble_eq_true rfl, Nat.le_of_ble_eq_true rfl⟩ ?_
                  refine zz_iload G dM_open_122 rfl ?_
                  refine zz_icmp_ne (tgt := 186) G dM_open_124 rfl (fun h124 => ?_) (fun h124 => ?_)
                  · refine zz_iinc (v := nI (j + 1)) (lv' := [some (.ref 5), some (.int a), some (.int (nI f)), some (.int (nI g)), some (.int (nI t)), some (.int y), some (.int (nI (j + 1))), some (.int (nI v))]) G dM_open_186 rfl (by rw [nI_succ]; rfl) rfl ?_
                    refine zz_goto (tgt := 86) G dM_open_189 rfl ?_
                    refine zz_few (lv' := [some (.ref 5), some (.int a), some (.int (nI f)), some (.int (nI g)), some (.int (nI t)), some (.int y), some (.int (nI (j + 1))), none]) (by exact ⟨rfl, rfl, rfl, rfl, rfl, rfl, rfl, trivial⟩) ?_
                    rw [mTake_day hv h124, List.append_nil] at kk
                    exact kk
                  · refine zz_aload_n G dM_open_127 rfl ?_
                    refine zz_get (v := .ref 8) G dM_open_128 flM_17 rfl rfl ?_
                    refine zz_aload_n G dM_open_131 rfl ?_
                    refine zz_get (v := .int (nI (ls).length)) G dM_open_132 flM_95 rfl rfl ?_
                    refine zz_iload G dM_open_135 rfl ?_
                    refine zz_iast (w' := (wx x (sm_puts (sm_list (sm_ans (sm_at (sm_count (sm_code m 0) (nI (ls).length)) 0) 0) (upd (aPut (fm_list m) ((ls).map (fE (fm_words m)))) ls.length (nI j))) (aPut (fm_puts m) ((ls).map (sPut (fm_words m) a)))) o)) rfl G dM_open_137 rfl (i1_in (hlen v hv h112 h124)) (by rw [i1_at (hlen v hv h112 h124)]; rfl) ?_
                    refine zz_aload_n G dM_open_138 rfl ?_
                    refine zz_get (v := .ref 9) G dM_open_139 flM_20 rfl rfl ?_
                    refine zz_aload_n G dM_open_142 rfl ?_
                    refine zz_get (v := .int (nI (ls).length)) G dM_open_143 flM_95 rfl rfl ?_
                    refine zz_aload_n G dM_open_146 rfl ?_
                    refine zz_iload G dM_open_147 rfl ?_
                    refine zz_iconst (v := 2) G dM_open_149 (by decide) ?_
                    refine zz_callVi (v := fm_words m (6 * v + 2)) (w' := (wx x (sm_puts (sm_list (sm_ans (sm_at (sm_count (sm_code m 0) (nI (ls).length)) 0) 0) (upd (aPut (fm_list m) ((ls).map (fE (fm_words m)))) ls.length (nI j))) (aPut (fm_puts m) ((ls).map (sPut (fm_words m) a)))) o)) (As := [.int (nI v), .int 2]) (rest := [.int (nI (ls).length), .ref 9]) G (cm_word l x (sm_puts (sm_list (sm_ans (sm_at (sm_count (sm_code m 0) (nI (ls).length)) 0) 0) (upd (aPut (fm_list m) ((ls).map (fE (fm_words m)))) ls.length (nI j))) (aPut (fm_puts m) ((ls).map (sPut (fm_words m) a)))) o v 2 _ _ rfl rfl (by omega) (by decide)) kM_30 dM_open_150 rfl rfl rfl rfl (Nat.le_of_ble_eq_true rfl) (fun _ => rfl) ⟨Nat.le_of_ble_eq_true rfl, Nat.le_of_ble_eq_true rfl⟩ ⟨Nat.le_of_ble_eq_true rfl, Nat.le_of_ble_eq_true rfl⟩ ?_
                    refine zz_iload_n G dM_open_153 rfl ?_
                    refine zz_icmp_ne (tgt := 167) G dM_open_154 rfl (fun h154 => ?_) (fun h154 => ?_)
                    · refine zz_aload_n G dM_open_167 rfl ?_
                      refine zz_iload G dM_open_168 rfl ?_
                      refine zz_iconst (v := 4) G dM_open_170 (by decide) ?_
                      refine zz_callVi (v := fm_words m (6 * v + 4)) (w' := (wx x (sm_puts (sm_list (sm_ans (sm_at (sm_count (sm_code m 0) (nI (ls).length)) 0) 0) (upd (aPut (fm_list m) ((ls).map (fE (fm_words m)))) ls.length (nI j))) (aPut (fm_puts m) ((ls).map (sPut (fm_words m) a)))) o)) (As := [.int (nI v), .int 4]) (rest := [.int (nI (ls).length), .ref 9]) G (cm_word l x (sm_puts (sm_list (sm_ans (sm_at (sm_count (sm_code m 0) (nI (ls).length)) 0) 0) (upd (aPut (fm_list m) ((ls).map (fE (fm_words m)))) ls.length (nI j))) (aPut (fm_puts m) ((ls).map (sPut (fm_words m) a)))) o v 4 _ _ rfl rfl (by omega) (by decide)) kM_30 dM_open_171 rfl rfl rfl rfl (Nat.le_of_ble_eq_true rfl) (fun _ => rfl) ⟨Nat.le_of_ble_eq_true rfl, Nat.le_of_ble_eq_true rfl⟩ ⟨Nat.le_of_ble_eq_true rfl, Nat.le_of_ble_eq_true rfl⟩ ?_
                      refine zz_ineg G dM_open_174 ?_
                      refine zz_iast (w' := (wx x (sm_puts (sm_list (sm_ans (sm_at (sm_count (sm_code m 0) (nI (ls).length)) 0) 0) (upd (aPut (fm_list m) ((ls).map (fE (fm_words m)))) ls.length (nI j))) (upd (aPut (fm_puts m) ((ls).map (sPut (fm_words m) a))) ls.length (-(fm_words m (6 * v + 4))))) o)) rfl G dM_open_175 rfl (i1_in (hlen v hv h112 h124)) (by rw [i1_at (hlen v hv h112 h124)]; rfl) ?_
                      refine zz_aload_n G dM_open_176 rfl ?_
                      refine zz_aload_n G dM_open_177 rfl ?_
                      refine zz_get (v := .int (nI (ls).length)) G dM_open_178 flM_95 rfl rfl ?_
                      refine zz_iconst (v := 1) G dM_open_181 (by decide) ?_
                      refine zz_iadd G dM_open_182 ?_
                      obtain ⟨cN, cN_e⟩ : ∃ cz, cz = (nI (ls).length) + 1 := ⟨_, rfl⟩
                      refine zz_eq (st' := [.int cN, .ref 5]) rfl rfl (by rw [cN_e]) rfl ?_
                      refine zz_put (w' := (wx x (sm_puts (sm_list (sm_ans (sm_at (sm_count (sm_code m 0) cN) 0) 0) (upd (aPut (fm_list m) ((ls).map (fE (fm_words m)))) ls.length (nI j))) (upd (aPut (fm_puts m) ((ls).map (sPut (fm_words m) a))) ls.length (-(fm_words m (6 * v + 4))))) o)) rfl G dM_open_183 flM_95 rfl rfl rfl (Nat.le_of_ble_eq_true rfl) rfl ?_
                      refine zz_iinc (v := nI (j + 1)) (lv' := [some (.ref 5), some (.int a), some (.int (nI f)), some (.int (nI g)), some (.int (nI t)), some (.int y), some (.int (nI (j + 1))), some (.int (nI v))]) G dM_open_186 rfl (by rw [nI_succ]; rfl) rfl ?_
                      refine zz_goto (tgt := 86) G dM_open_189 rfl ?_
                      refine zz_few (lv' := [some (.ref 5), some (.int a), some (.int (nI f)), some (.int (nI g)), some (.int (nI t)), some (.int y), some (.int (nI (j + 1))), none]) (by exact ⟨rfl, rfl, rfl, rfl, rfl, rfl, rfl, trivial⟩) ?_
                      subst cN_e
                      rw [mTake_one hv h112 h124, ← mO_step (m := m) (a := a) (l := ls) (V := -(fm_words m (6 * v + 4))) hfv (by unfold sPut; rw [if_neg h154])] at kk
                      exact kk
                    · refine zz_aload_n G dM_open_157 rfl ?_
                      refine zz_iload G dM_open_158 rfl ?_
                      refine zz_iconst (v := 4) G dM_open_160 (by decide) ?_
                      refine zz_callVi (v := fm_words m (6 * v + 4)) (w' := (wx x (sm_puts (sm_list (sm_ans (sm_at (sm_count (sm_code m 0) (nI (ls).length)) 0) 0) (upd (aPut (fm_list m) ((ls).map (fE (fm_words m)))) ls.length (nI j))) (aPut (fm_puts m) ((ls).map (sPut (fm_words m) a)))) o)) (As := [.int (nI v), .int 4]) (rest := [.int (nI (ls).length), .ref 9]) G (cm_word l x (sm_puts (sm_list (sm_ans (sm_at (sm_count (sm_code m 0) (nI (ls).length)) 0) 0) (upd (aPut (fm_list m) ((ls).map (fE (fm_words m)))) ls.length (nI j))) (aPut (fm_puts m) ((ls).map (sPut (fm_words m) a)))) o v 4 _ _ rfl rfl (by omega) (by decide)) kM_30 dM_open_161 rfl rfl rfl rfl (Nat.le_of_ble_eq_true rfl) (fun _ => rfl) ⟨Nat.le_of_ble_eq_true rfl, Nat.le_of_ble_eq_true rfl⟩ ⟨Nat.le_of_ble_eq_true rfl, Nat.le_of_ble_eq_true rfl⟩ ?_
                      refine zz_goto (tgt := 175) G dM_open_164 rfl ?_
                      refine zz_iast (w' := (wx x (sm_puts (sm_list (sm_ans (sm_at (sm_count (sm_code m 0) (nI (ls).length)) 0) 0) (upd (aPut (fm_list m) ((ls).map (fE (fm_words m)))) ls.length (nI j))) (upd (aPut (fm_puts m) ((ls).map (sPut (fm_words m) a))) ls.length (fm_words m (6 * v + 4)))) o)) rfl G dM_open_175 rfl (i1_in (hlen v hv h112 h124)) (by rw [i1_at (hlen v hv h112 h124)]; rfl) ?_
                      refine zz_aload_n G dM_open_176 rfl ?_
                      refine zz_aload_n G dM_open_177 rfl ?_
                      refine zz_get (v := .int (nI (ls).length)) G dM_open_178 flM_95 rfl rfl ?_
                      refine zz_iconst (v := 1) G dM_open_181 (by decide) ?_
                      refine zz_iadd G dM_open_182 ?_
                      obtain ⟨cN, cN_e⟩ : ∃ cz, cz = (nI (ls).length) + 1 := ⟨_, rfl⟩
                      refine zz_eq (st' := [.int cN, .ref 5]) rfl rfl (by rw [cN_e]) rfl ?_
                      refine zz_put (w' := (wx x (sm_puts (sm_list (sm_ans (sm_at (sm_count (sm_code m 0) cN) 0) 0) (upd (aPut (fm_list m) ((ls).map (fE (fm_words m)))) ls.length (nI j))) (upd (aPut (fm_puts m) ((ls).map (sPut (fm_words m) a))) ls.length (fm_words m (6 * v + 4)))) o)) rfl G dM_open_183 flM_95 rfl rfl rfl (Nat.le_of_ble_eq_true rfl) rfl ?_
                      refine zz_iinc (v := nI (j + 1)) (lv' := [some (.ref 5), some (.int a), some (.int (nI f)), some (.int (nI g)), some (.int (nI t)), some (.int y), some (.int (nI (j + 1))), some (.int (nI v))]) G dM_open_186 rfl (by rw [nI_succ]; rfl) rfl ?_
                      refine zz_goto (tgt := 86) G dM_open_189 rfl ?_
                      refine zz_few (lv' := [some (.ref 5), some (.int a), some (.int (nI f)), some (.int (nI g)), some (.int (nI t)), some (.int y), some (.int (nI (j + 1))), none]) (by exact ⟨rfl, rfl, rfl, rfl, rfl, rfl, rfl, trivial⟩) ?_
                      subst cN_e
                      rw [mTake_one hv h112 h124, ← mO_step (m := m) (a := a) (l := ls) (V := fm_words m (6 * v + 4)) hfv (by unfold sPut; rw [if_pos h154])] at kk
                      exact kk
            have loop : ∀ (d k : Nat), k + d = g + 1 - f → Z p l e (zrm 3) s mm args below meth c 8 D cI cJ as false 0 0 (zMQ below (qOpen x m o e1 a (nI f) (nI g) (nI t)) D cI cJ as false s 0 0) 77 [some (.ref 5), some (.int a), some (.int (nI f)), some (.int (nI g)), some (.int (nI t)), some (.int (nI (f + k))), none, none] [] (wx x (mOpn m a (mOut (fm_words m) a t e1 f k)) o) := by
              intro d
              induction d with
              | zero =>
                intro k hk
                have hk : k = g + 1 - f := by omega
                subst hk
                refine zz_iload G dM_open_77 rfl ?_
                refine zz_iload_n G dM_open_79 rfl ?_
                refine zz_icmp_gt (tgt := 198) G dM_open_80 rfl (fun h80 => ?_) (fun h80 => (h80 (nI_lt (show g < f + (g + 1 - f) by omega) (by omega))).elim)
                refine zz_aload_n G dM_open_198 rfl ?_
                refine zz_get (v := .int (nI (mOut (fm_words m) a t e1 f (g + 1 - f)).length)) G dM_open_199 flM_95 rfl rfl ?_
                exact zz_iret G hret dM_open_202 (by rw [qOpen, if_pos h5, if_neg h16, if_neg h23, if_neg h30, if_neg h39, nI_clamp (show t < 2 ^ 31 by omega), nI_clamp (show f < 2 ^ 31 by omega), nI_clamp (show g < 2 ^ 31 by omega)] <;> rfl) (Nat.le_of_ble_eq_true rfl) (Nat.le_of_ble_eq_true rfl)
              | succ d ih =>
                intro k hk
                have inner : ∀ (q j : Nat), j + q = e1 → Z p l e (zrm 3) s mm args below meth c 8 D cI cJ as false 0 0 (zMQ below (qOpen x m o e1 a (nI f) (nI g) (nI t)) D cI cJ as false s 0 0) 86 [some (.ref 5), some (.int a), some (.int (nI f)), some (.int (nI g)), some (.int (nI t)), some (.int (nI (f + k))), some (.int (nI j)), none] [] (wx x (mOpn m a (mOut (fm_words m) a t e1 f k ++ mIn (fm_words m) a (nI (f + k)) t j)) o) := by
                  intro q
                  induction q with
                  | zero =>
                    intro j hj
                    have hj : e1 = j := by omega
                    subst hj
                    refine zz_iload G dM_open_86 rfl ?_
                    refine zz_aload_n G dM_open_88 rfl ?_
                    refine zz_get (v := .int (nI e1)) G dM_open_89 flM_42 rfl (by rw [← hen]; rfl) ?_
                    refine zz_icmp_ge (tgt := 192) G dM_open_92 rfl (fun h92 => ?_) (fun h92 => (h92 (nI_le (Nat.le_refl _) (by omega))).elim)
                    refine zz_iinc (v := nI (f + (k + 1))) (lv' := [some (.ref 5), some (.int a), some (.int (nI f)), some (.int (nI g)), some (.int (nI t)), some (.int (nI (f + (k + 1)))), some (.int (nI e1)), none]) G dM_open_192 rfl (by rw [show f + (k + 1) = f + k + 1 by omega, nI_succ]; rfl) rfl ?_
                    refine zz_goto (tgt := 77) G dM_open_195 rfl ?_
                    refine zz_few (lv' := [some (.ref 5), some (.int a), some (.int (nI f)), some (.int (nI g)), some (.int (nI t)), some (.int (nI (f + (k + 1)))), none, none]) (by exact ⟨rfl, rfl, rfl, rfl, rfl, rfl, trivial⟩) ?_
                    exact ih (k + 1) (by omega)
                  | succ q ihq =>
                    intro j hj
                    refine step (mOut (fm_words m) a t e1 f k ++ mIn (fm_words m) a (nI (f + k)) t j) (nI (f + k)) j (by omega) (fun v hv z1 z2 => ?_) ?_
                    · have q1 := mOut_len (wd := fm_words m) (a := a) (t := t) (e := e1) (f := f) (j := j + 1) (k := k) (by omega) (by omega) (by omega) (by omega)
                      rw [show mIn (fm_words m) a (nI (f + k)) t (j + 1) = mIn (fm_words m) a (nI (f + k)) t j ++ [v] from by show _ ++ mTake (fm_words m) a (nI (f + k)) t j = _; rw [mTake_one hv z1 z2], ← List.append_assoc, List.length_append] at q1
                      exact q1
                    · rw [List.append_assoc]
                      exact ihq (j + 1) (by omega)
                refine zz_iload G dM_open_77 rfl ?_
                refine zz_iload_n G dM_open_79 rfl ?_
                refine zz_icmp_gt (tgt := 198) G dM_open_80 rfl (fun h80 => (nI_nlt (show f + k ≤ g by omega) (by omega) h80).elim) (fun h80 => ?_)
                refine zz_iconst (v := 0) G dM_open_83 (by decide) ?_
                refine zz_istore (lv' := [some (.ref 5), some (.int a), some (.int (nI f)), some (.int (nI g)), some (.int (nI t)), some (.int (nI (f + k))), some (.int 0), none]) G dM_open_84 (Nat.le_of_ble_eq_true rfl) rfl ?_
                refine zz_eq (w' := (wx x (mOpn m a (mOut (fm_words m) a t e1 f k ++ mIn (fm_words m) a (nI (f + k)) t 0)) o)) rfl rfl rfl (by rw [show mIn (fm_words m) a (nI (f + k)) t 0 = [] from rfl, List.append_nil]) ?_
                exact inner e1 0 (by omega)
            refine zz_iconst (v := 0) G dM_open_42 (by decide) ?_
            refine zz_goto (tgt := 47) G dM_open_43 rfl ?_
            refine zz_put (w' := (wx x (sm_code m 0) o)) rfl G dM_open_47 flM_23 rfl rfl rfl (Nat.le_of_ble_eq_true rfl) rfl ?_
            refine zz_aload_n G dM_open_50 rfl ?_
            refine zz_get (v := .int 0) G dM_open_51 flM_23 rfl rfl ?_
            refine zz_if_le (tgt := 59) G dM_open_54 rfl (fun h54 => ?_) (fun h54 => ((absurd h54 (by decide) : False)).elim)
            refine zz_aload_n G dM_open_59 rfl ?_
            refine zz_iconst (v := 0) G dM_open_60 (by decide) ?_
            refine zz_put (w' := (wx x (sm_count (sm_code m 0) 0) o)) rfl G dM_open_61 flM_95 rfl rfl rfl (Nat.le_of_ble_eq_true rfl) rfl ?_
            refine zz_aload_n G dM_open_64 rfl ?_
            refine zz_iconst (v := 0) G dM_open_65 (by decide) ?_
            refine zz_put (w' := (wx x (sm_at (sm_count (sm_code m 0) 0) 0) o)) rfl G dM_open_66 flM_98 rfl rfl rfl (Nat.le_of_ble_eq_true rfl) rfl ?_
            refine zz_aload_n G dM_open_69 rfl ?_
            refine zz_iconst (v := 0) G dM_open_70 (by decide) ?_
            refine zz_put (w' := (wx x (sm_ans (sm_at (sm_count (sm_code m 0) 0) 0) 0) o)) rfl G dM_open_71 flM_101 rfl rfl rfl (Nat.le_of_ble_eq_true rfl) rfl ?_
            refine zz_iload_n G dM_open_74 rfl ?_
            refine zz_istore (lv' := [some (.ref 5), some (.int a), some (.int (nI f)), some (.int (nI g)), some (.int (nI t)), some (.int (nI f)), none, none]) G dM_open_75 (Nat.le_of_ble_eq_true rfl) rfl ?_
            refine zz_eq (lv' := [some (.ref 5), some (.int a), some (.int (nI f)), some (.int (nI g)), some (.int (nI t)), some (.int (nI (f + 0))), none, none]) (w' := (wx x (mOpn m a (mOut (fm_words m) a t e1 f 0)) o)) rfl rfl rfl (by show wx x _ o = wx x (mOpn m a []) o; unfold mOpn; rw [List.map_nil, List.map_nil, aPut_nil, aPut_nil]; rfl) ?_
            exact loop (g + 1 - f) 0 (by omega)
  · refine zz_iconst (v := 1) G dM_open_8 (by decide) ?_
    refine zz_goto (tgt := 47) G dM_open_9 rfl ?_
    refine zz_put (w' := (wx x (sm_code m 1) o)) rfl G dM_open_47 flM_23 rfl rfl rfl (Nat.le_of_ble_eq_true rfl) rfl ?_
    refine zz_aload_n G dM_open_50 rfl ?_
    refine zz_get (v := .int 1) G dM_open_51 flM_23 rfl rfl ?_
    refine zz_if_le (tgt := 59) G dM_open_54 rfl (fun h54 => ((absurd h54 (by decide) : False)).elim) (fun h54 => ?_)
    refine zz_iconst (v := 0) G dM_open_57 (by decide) ?_
    exact zz_iret G hret dM_open_58 (by rw [qOpen, if_neg h5] <;> rfl) (Nat.le_of_ble_eq_true rfl) (Nat.le_of_ble_eq_true rfl)
