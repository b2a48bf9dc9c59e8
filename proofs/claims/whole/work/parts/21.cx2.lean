set_option maxRecDepth 100000 in
set_option maxHeartbeats 4000000 in
theorem cx_insertIntoCursor (l : Launch) (x : XS) (m : MS) (o : Nat → Int64) (u z : Nat) (iu : Int32) (hiu : iu = nI u) (hu : u < 64) (hz : fx_size x = nI z) (hz64 : z < 64) (hb : ∀ k, k < z → ∃ q, q < 64 ∧ fx_cur x k = nI q) : zC l yX_insertIntoCursor (Jvm.Cond.code yX_insertIntoCursor bX_insertIntoCursor 3 none :: Tw) 2 false 0 0 [.ref 0, .int iu] (wx x m o) (.inl (none, wx (sx_size (sx_cur x (insA (fx_words x) u z (fx_cur x))) (nI z + 1)) m o)) := by
  subst hiu
  refine zC_of [some (.ref 0), some (.int (nI u)), none] (by decide) rfl (Nat.le_of_ble_eq_true rfl) ?_
  intro p e s mm args below meth c D cI cJ as G hret hex hbd
  have loop : ∀ (q : Nat) (cv : Nat → Int32), q ≤ z → insL (fx_words x) u z (fx_cur x) = insL (fx_words x) u q cv → (∀ k, k < q → ∃ v, v < 64 ∧ cv k = nI v) → Z p l e (zrm 2) s mm args below meth c 3 D cI cJ as false 0 0 (zMQ below (.inl (none, wx (sx_size (sx_cur x (insA (fx_words x) u z (fx_cur x))) (nI z + 1)) m o)) D cI cJ as false s 0 0) 5 [some (.ref 0), some (.int (nI u)), some (.int (nI q))] [] (wx (sx_cur x cv) m o) := by
    intro q
    induction q with
    | zero =>
      intro cv hq hL hbq
      refine zz_iload_n G dX_insertIntoCursor_5 rfl ?_
      refine zz_if_le (tgt := 45) G dX_insertIntoCursor_6 rfl (fun h6 => ?_) (fun h6 => (h6 (by decide)).elim)
      refine zz_aload_n G dX_insertIntoCursor_45 rfl ?_
      refine zz_get (v := .ref 4) G dX_insertIntoCursor_46 flX_20 rfl rfl ?_
      refine zz_iload_n G dX_insertIntoCursor_49 rfl ?_
      refine zz_iload_n G dX_insertIntoCursor_50 rfl ?_
      refine zz_iast (w' := (wx (sx_cur x (upd cv 0 (nI u))) m o)) rfl G dX_insertIntoCursor_51 rfl (i1_in (by omega)) (by rw [i1_at (show 0 < 64 by omega)]; rfl) ?_
      refine zz_aload_n G dX_insertIntoCursor_52 rfl ?_
      refine zz_dupa G dX_insertIntoCursor_53 ?_
      refine zz_get (v := .int (nI z)) G dX_insertIntoCursor_54 flX_76 rfl (by rw [← hz]; rfl) ?_
      refine zz_iconst (v := 1) G dX_insertIntoCursor_57 (by decide) ?_
      refine zz_iadd G dX_insertIntoCursor_58 ?_
      refine zz_put (w' := (wx (sx_size (sx_cur x (upd cv 0 (nI u))) ((nI z) + 1)) m o)) rfl G dX_insertIntoCursor_59 flX_76 rfl rfl rfl (Nat.le_of_ble_eq_true rfl) rfl ?_
      exact zz_vret G hret dX_insertIntoCursor_62 (by rw [show insA (fx_words x) u z (fx_cur x) = upd cv 0 (nI u) from by unfold insA; rw [hL]; rfl]) (Nat.le_of_ble_eq_true rfl) (Nat.le_of_ble_eq_true rfl)
    | succ q ih =>
      intro cv hq hL hbq
      obtain ⟨v, hv, ev⟩ := hbq q (by omega)
      refine zz_iload_n G dX_insertIntoCursor_5 rfl ?_
      refine zz_if_le (tgt := 45) G dX_insertIntoCursor_6 rfl (fun h6 => (nI_nle (by omega) (by omega) h6).elim) (fun h6 => ?_)
      refine zz_aload_n G dX_insertIntoCursor_9 rfl ?_
      refine zz_iload_n G dX_insertIntoCursor_10 rfl ?_
      refine zz_aload_n G dX_insertIntoCursor_11 rfl ?_
      refine zz_get (v := .ref 4) G dX_insertIntoCursor_12 flX_20 rfl rfl ?_
      refine zz_iload_n G dX_insertIntoCursor_15 rfl ?_
      refine zz_iconst (v := 1) G dX_insertIntoCursor_16 (by decide) ?_
      refine zz_isub G dX_insertIntoCursor_17 ?_
      refine zz_iald (v := cv q) G dX_insertIntoCursor_18 rfl (by rw [nI_pred]; exact i1_in (by omega)) (by rw [nI_pred, i1_at (by omega)]; rfl) ?_
      refine zz_callVi (v := sBfr (fx_words x) u v) (w' := (wx (sx_cur x cv) m o)) (As := [.int (nI u), .int (cv q)]) (rest := []) G (cx_comesBefore l (sx_cur x cv) m o u v _ _ rfl ev (hu) (hv)) kX_155 dX_insertIntoCursor_19 rfl rfl rfl rfl (Nat.le_of_ble_eq_true rfl) (fun _ => rfl) ⟨Nat.le_of_ble_eq_true rfl, Nat.le_of_ble_eq_true rfl⟩ ⟨Nat.le_of_ble_eq_true rfl, Nat.le_of_ble_eq_true rfl⟩ ?_
      refine zz_if_eq (tgt := 45) G dX_insertIntoCursor_22 rfl (fun h22 => ?_) (fun h22 => ?_)
      · refine zz_aload_n G dX_insertIntoCursor_45 rfl ?_
        refine zz_get (v := .ref 4) G dX_insertIntoCursor_46 flX_20 rfl rfl ?_
        refine zz_iload_n G dX_insertIntoCursor_49 rfl ?_
        refine zz_iload_n G dX_insertIntoCursor_50 rfl ?_
        refine zz_iast (w' := (wx (sx_cur x (upd cv (q + 1) (nI u))) m o)) rfl G dX_insertIntoCursor_51 rfl (i1_in (by omega)) (by rw [i1_at (show q + 1 < 64 by omega)]; rfl) ?_
        refine zz_aload_n G dX_insertIntoCursor_52 rfl ?_
        refine zz_dupa G dX_insertIntoCursor_53 ?_
        refine zz_get (v := .int (nI z)) G dX_insertIntoCursor_54 flX_76 rfl (by rw [← hz]; rfl) ?_
        refine zz_iconst (v := 1) G dX_insertIntoCursor_57 (by decide) ?_
        refine zz_iadd G dX_insertIntoCursor_58 ?_
        refine zz_put (w' := (wx (sx_size (sx_cur x (upd cv (q + 1) (nI u))) ((nI z) + 1)) m o)) rfl G dX_insertIntoCursor_59 flX_76 rfl rfl rfl (Nat.le_of_ble_eq_true rfl) rfl ?_
        exact zz_vret G hret dX_insertIntoCursor_62 (by rw [show insA (fx_words x) u z (fx_cur x) = upd cv (q + 1) (nI u) from by unfold insA; rw [hL, insL_stop (by rw [ev, i1_at hv]; exact h22)]]) (Nat.le_of_ble_eq_true rfl) (Nat.le_of_ble_eq_true rfl)
      · refine zz_aload_n G dX_insertIntoCursor_25 rfl ?_
        refine zz_get (v := .ref 4) G dX_insertIntoCursor_26 flX_20 rfl rfl ?_
        refine zz_iload_n G dX_insertIntoCursor_29 rfl ?_
        refine zz_aload_n G dX_insertIntoCursor_30 rfl ?_
        refine zz_get (v := .ref 4) G dX_insertIntoCursor_31 flX_20 rfl rfl ?_
        refine zz_iload_n G dX_insertIntoCursor_34 rfl ?_
        refine zz_iconst (v := 1) G dX_insertIntoCursor_35 (by decide) ?_
        refine zz_isub G dX_insertIntoCursor_36 ?_
        refine zz_iald (v := cv q) G dX_insertIntoCursor_37 rfl (by rw [nI_pred]; exact i1_in (by omega)) (by rw [nI_pred, i1_at (by omega)]; rfl) ?_
        refine zz_iast (w' := (wx (sx_cur x (upd cv (q + 1) (cv q))) m o)) rfl G dX_insertIntoCursor_38 rfl (i1_in (by omega)) (by rw [i1_at (show q + 1 < 64 by omega)]; rfl) ?_
        refine zz_iinc (v := nI q) (lv' := [some (.ref 0), some (.int (nI u)), some (.int (nI q))]) G dX_insertIntoCursor_39 rfl (by rw [show Int32.ofInt (-1) = -1 from rfl]; exact pk_m1 q) rfl ?_
        refine zz_goto (tgt := 5) G dX_insertIntoCursor_42 rfl ?_
        refine ih (upd cv (q + 1) (cv q)) (by omega) (by rw [hL, insL_on (by rw [ev, i1_at hv]; exact h22)]) ?_
        intro k hk
        rw [show upd cv (q + 1) (cv q) k = cv k from if_neg (by omega)]
        exact hbq k (by omega)
  refine zz_aload_n G dX_insertIntoCursor_0 rfl ?_
  refine zz_get (v := .int (nI z)) G dX_insertIntoCursor_1 flX_76 rfl (by rw [← hz]; rfl) ?_
  refine zz_istore_n (lv' := [some (.ref 0), some (.int (nI u)), some (.int (nI z))]) G dX_insertIntoCursor_4 (Nat.le_of_ble_eq_true rfl) rfl ?_
  exact loop z (fx_cur x) (Nat.le_refl z) rfl hb
set_option maxRecDepth 100000 in
set_option maxHeartbeats 4000000 in
theorem cx_append (l : Launch) (x : XS) (m : MS) (o : Nat → Int64) (n : Nat) (k e1 d c1 a y : Int32) (hvc : fx_vc x = nI n) (hn : n < 64) : zC l yX_append (Jvm.Cond.code yX_append bX_append 9 (some .int) :: Tw) 2 false 0 0 [.ref 0, .int k, .int e1, .int d, .int c1, .int a, .int y] (wx x m o) (.inl (some (.int (nI n)), wx (xApp x n k e1 d c1 a y) m o)) := by
  refine zC_of [some (.ref 0), some (.int k), some (.int e1), some (.int d), some (.int c1), some (.int a), some (.int y), none, none] (by decide) rfl (Nat.le_of_ble_eq_true rfl) ?_
  intro p e s mm args below meth c D cI cJ as G hret hex hbd
  refine zz_aload_n G dX_append_0 rfl ?_
  refine zz_get (v := .int (nI n)) G dX_append_1 flX_105 rfl (by rw [← hvc]; rfl) ?_
  refine zz_istore (lv' := [some (.ref 0), some (.int k), some (.int e1), some (.int d), some (.int c1), some (.int a), some (.int y), some (.int (nI n)), none]) G dX_append_4 (Nat.le_of_ble_eq_true rfl) rfl ?_
  refine zz_iload G dX_append_6 rfl ?_
  refine zz_bipush (v := 6) G dX_append_8 (by decide) ?_
  refine zz_imul G dX_append_10 ?_
  refine zz_istore (lv' := [some (.ref 0), some (.int k), some (.int e1), some (.int d), some (.int c1), some (.int a), some (.int y), some (.int (nI n)), some (.int ((nI n) * 6))]) G dX_append_11 (Nat.le_of_ble_eq_true rfl) rfl ?_
  refine zz_aload_n G dX_append_13 rfl ?_
  refine zz_get (v := .ref 1) G dX_append_14 flX_9 rfl rfl ?_
  refine zz_iload G dX_append_17 rfl ?_
  refine zz_iconst (v := 0) G dX_append_19 (by decide) ?_
  refine zz_iadd G dX_append_20 ?_
  refine zz_iload_n G dX_append_21 rfl ?_
  refine zz_iast (w' := (wx (sx_words x (upd (fx_words x) (6 * n + 0) k)) m o)) rfl G dX_append_22 rfl (ix_in (k := 0) hn (by decide)) (by rw [show (nI n * 6 + 0).toNatClampNeg = 6 * n + 0 from ix_at (k := 0) hn (by decide)]; rfl) ?_
  refine zz_aload_n G dX_append_23 rfl ?_
  refine zz_get (v := .ref 1) G dX_append_24 flX_9 rfl rfl ?_
  refine zz_iload G dX_append_27 rfl ?_
  refine zz_iconst (v := 1) G dX_append_29 (by decide) ?_
  refine zz_iadd G dX_append_30 ?_
  refine zz_iload_n G dX_append_31 rfl ?_
  refine zz_iast (w' := (wx (sx_words x (upd (upd (fx_words x) (6 * n + 0) k) (6 * n + 1) e1)) m o)) rfl G dX_append_32 rfl (ix_in (k := 1) hn (by decide)) (by rw [show (nI n * 6 + 1).toNatClampNeg = 6 * n + 1 from ix_at (k := 1) hn (by decide)]; rfl) ?_
  refine zz_aload_n G dX_append_33 rfl ?_
  refine zz_get (v := .ref 1) G dX_append_34 flX_9 rfl rfl ?_
  refine zz_iload G dX_append_37 rfl ?_
  refine zz_iconst (v := 2) G dX_append_39 (by decide) ?_
  refine zz_iadd G dX_append_40 ?_
  refine zz_iload_n G dX_append_41 rfl ?_
  refine zz_iast (w' := (wx (sx_words x (upd (upd (upd (fx_words x) (6 * n + 0) k) (6 * n + 1) e1) (6 * n + 2) d)) m o)) rfl G dX_append_42 rfl (ix_in (k := 2) hn (by decide)) (by rw [show (nI n * 6 + 2).toNatClampNeg = 6 * n + 2 from ix_at (k := 2) hn (by decide)]; rfl) ?_
  refine zz_aload_n G dX_append_43 rfl ?_
  refine zz_get (v := .ref 1) G dX_append_44 flX_9 rfl rfl ?_
  refine zz_iload G dX_append_47 rfl ?_
  refine zz_iconst (v := 3) G dX_append_49 (by decide) ?_
  refine zz_iadd G dX_append_50 ?_
  refine zz_iload G dX_append_51 rfl ?_
  refine zz_iast (w' := (wx (sx_words x (upd (upd (upd (upd (fx_words x) (6 * n + 0) k) (6 * n + 1) e1) (6 * n + 2) d) (6 * n + 3) c1)) m o)) rfl G dX_append_53 rfl (ix_in (k := 3) hn (by decide)) (by rw [show (nI n * 6 + 3).toNatClampNeg = 6 * n + 3 from ix_at (k := 3) hn (by decide)]; rfl) ?_
  refine zz_aload_n G dX_append_54 rfl ?_
  refine zz_get (v := .ref 1) G dX_append_55 flX_9 rfl rfl ?_
  refine zz_iload G dX_append_58 rfl ?_
  refine zz_iconst (v := 4) G dX_append_60 (by decide) ?_
  refine zz_iadd G dX_append_61 ?_
  refine zz_iload G dX_append_62 rfl ?_
  refine zz_iast (w' := (wx (sx_words x (upd (upd (upd (upd (upd (fx_words x) (6 * n + 0) k) (6 * n + 1) e1) (6 * n + 2) d) (6 * n + 3) c1) (6 * n + 4) a)) m o)) rfl G dX_append_64 rfl (ix_in (k := 4) hn (by decide)) (by rw [show (nI n * 6 + 4).toNatClampNeg = 6 * n + 4 from ix_at (k := 4) hn (by decide)]; rfl) ?_
  refine zz_aload_n G dX_append_65 rfl ?_
  refine zz_get (v := .ref 1) G dX_append_66 flX_9 rfl rfl ?_
  refine zz_iload G dX_append_69 rfl ?_
  refine zz_iconst (v := 5) G dX_append_71 (by decide) ?_
  refine zz_iadd G dX_append_72 ?_
  refine zz_iload G dX_append_73 rfl ?_
  refine zz_iast (w' := (wx (sx_words x (upd (upd (upd (upd (upd (upd (fx_words x) (6 * n + 0) k) (6 * n + 1) e1) (6 * n + 2) d) (6 * n + 3) c1) (6 * n + 4) a) (6 * n + 5) y)) m o)) rfl G dX_append_75 rfl (ix_in (k := 5) hn (by decide)) (by rw [show (nI n * 6 + 5).toNatClampNeg = 6 * n + 5 from ix_at (k := 5) hn (by decide)]; rfl) ?_
  refine zz_aload_n G dX_append_76 rfl ?_
  refine zz_get (v := .ref 2) G dX_append_77 flX_13 rfl rfl ?_
  refine zz_iload G dX_append_80 rfl ?_
  refine zz_aload_n G dX_append_82 rfl ?_
  refine zz_iload G dX_append_83 rfl ?_
  refine zz_callVl (v := sLnk ((upd (upd (upd (upd (upd (upd (fx_words x) (6 * n + 0) k) (6 * n + 1) e1) (6 * n + 2) d) (6 * n + 3) c1) (6 * n + 4) a) (6 * n + 5) y)) n (sBef (fx_links x) n) 6) (w' := (wx (sx_words x (upd (upd (upd (upd (upd (upd (fx_words x) (6 * n + 0) k) (6 * n + 1) e1) (6 * n + 2) d) (6 * n + 3) c1) (6 * n + 4) a) (6 * n + 5) y)) m o)) (As := [.int (nI n)]) (rest := [.int (nI n), .ref 2]) G (cx_linkOfWords l (sx_words x (upd (upd (upd (upd (upd (upd (fx_words x) (6 * n + 0) k) (6 * n + 1) e1) (6 * n + 2) d) (6 * n + 3) c1) (6 * n + 4) a) (6 * n + 5) y)) m o n _ rfl (hn)) kX_112 dX_append_85 rfl rfl rfl rfl (Nat.le_of_ble_eq_true rfl) (fun _ => rfl) ⟨Nat.le_of_ble_eq_true rfl, Nat.le_of_ble_eq_true rfl⟩ ⟨Nat.le_of_ble_eq_true rfl, Nat.le_of_ble_eq_true rfl⟩ ?_
  refine zz_last (w' := (wx (sx_links (sx_words x (upd (upd (upd (upd (upd (upd (fx_words x) (6 * n + 0) k) (6 * n + 1) e1) (6 * n + 2) d) (6 * n + 3) c1) (6 * n + 4) a) (6 * n + 5) y)) (vp_updL (fx_links x) n (sLnk ((upd (upd (upd (upd (upd (upd (fx_words x) (6 * n + 0) k) (6 * n + 1) e1) (6 * n + 2) d) (6 * n + 3) c1) (6 * n + 4) a) (6 * n + 5) y)) n (sBef (fx_links x) n) 6))) m o)) rfl G dX_append_88 rfl (i1_in hn) (by rw [i1_at hn]; rfl) ?_
  refine zz_aload_n G dX_append_89 rfl ?_
  refine zz_get (v := .ref 3) G dX_append_90 flX_17 rfl rfl ?_
  refine zz_iload G dX_append_93 rfl ?_
  refine zz_bipush (v := 64) G dX_append_95 (by decide) ?_
  refine zz_iast (w' := (wx (sx_rep (sx_links (sx_words x (upd (upd (upd (upd (upd (upd (fx_words x) (6 * n + 0) k) (6 * n + 1) e1) (6 * n + 2) d) (6 * n + 3) c1) (6 * n + 4) a) (6 * n + 5) y)) (vp_updL (fx_links x) n (sLnk ((upd (upd (upd (upd (upd (upd (fx_words x) (6 * n + 0) k) (6 * n + 1) e1) (6 * n + 2) d) (6 * n + 3) c1) (6 * n + 4) a) (6 * n + 5) y)) n (sBef (fx_links x) n) 6))) (upd (fx_rep x) n 64)) m o)) rfl G dX_append_97 rfl (i1_in hn) (by rw [i1_at hn]; rfl) ?_
  refine zz_aload_n G dX_append_98 rfl ?_
  refine zz_dupa G dX_append_99 ?_
  refine zz_get (v := .int (nI n)) G dX_append_100 flX_105 rfl (by rw [← hvc]; rfl) ?_
  refine zz_iconst (v := 1) G dX_append_103 (by decide) ?_
  refine zz_iadd G dX_append_104 ?_
  refine zz_put (w' := (wx (sx_vc (sx_rep (sx_links (sx_words x (upd (upd (upd (upd (upd (upd (fx_words x) (6 * n + 0) k) (6 * n + 1) e1) (6 * n + 2) d) (6 * n + 3) c1) (6 * n + 4) a) (6 * n + 5) y)) (vp_updL (fx_links x) n (sLnk ((upd (upd (upd (upd (upd (upd (fx_words x) (6 * n + 0) k) (6 * n + 1) e1) (6 * n + 2) d) (6 * n + 3) c1) (6 * n + 4) a) (6 * n + 5) y)) n (sBef (fx_links x) n) 6))) (upd (fx_rep x) n 64)) ((nI n) + 1)) m o)) rfl G dX_append_105 flX_105 rfl rfl rfl (Nat.le_of_ble_eq_true rfl) rfl ?_
  refine zz_iload G dX_append_108 rfl ?_
  exact zz_iret G hret dX_append_110 (rfl) (Nat.le_of_ble_eq_true rfl) (Nat.le_of_ble_eq_true rfl)
set_option maxRecDepth 100000 in
set_option maxHeartbeats 4000000 in
theorem cx_replace (l : Launch) (x : XS) (m : MS) (o : Nat → Int64) (n u : Nat) (iu k a : Int32) (hiu : iu = nI u) (hu : u < 64) (hvc : fx_vc x = nI n) (hn : n < 64) : zC l yX_replace (Jvm.Cond.code yX_replace bX_replace 5 (some .int) :: Tw) 3 false 0 0 [.ref 0, .int iu, .int k, .int a] (wx x m o) (.inl (some (.int (nI n)), wx (xRep x n u k a) m o)) := by
  subst hiu
  refine zC_of [some (.ref 0), some (.int (nI u)), some (.int k), some (.int a), none] (by decide) rfl (Nat.le_of_ble_eq_true rfl) ?_
  intro p e s mm args below meth c D cI cJ as G hret hex hbd
  refine zz_aload_n G dX_replace_0 rfl ?_
  refine zz_iload_n G dX_replace_1 rfl ?_
  refine zz_aload_n G dX_replace_2 rfl ?_
  refine zz_iload_n G dX_replace_3 rfl ?_
  refine zz_iconst (v := 1) G dX_replace_4 (by decide) ?_
  refine zz_callVi (v := fx_words x (6 * u + 1)) (w' := (wx x m o)) (As := [.int (nI u), .int 1]) (rest := [.int k, .ref 0]) G (cx_word l x m o u 1 _ _ rfl rfl (hu) (by decide)) kX_59 dX_replace_5 rfl rfl rfl rfl (Nat.le_of_ble_eq_true rfl) (fun _ => rfl) ⟨Nat.le_of_ble_eq_true rfl, Nat.le_of_ble_eq_true rfl⟩ ⟨Nat.le_of_ble_eq_true rfl, Nat.le_of_ble_eq_true rfl⟩ ?_
  refine zz_aload_n G dX_replace_8 rfl ?_
  refine zz_iload_n G dX_replace_9 rfl ?_
  refine zz_iconst (v := 2) G dX_replace_10 (by decide) ?_
  refine zz_callVi (v := fx_words x (6 * u + 2)) (w' := (wx x m o)) (As := [.int (nI u), .int 2]) (rest := [.int (fx_words x (6 * u + 1)), .int k, .ref 0]) G (cx_word l x m o u 2 _ _ rfl rfl (hu) (by decide)) kX_59 dX_replace_11 rfl rfl rfl rfl (Nat.le_of_ble_eq_true rfl) (fun _ => rfl) ⟨Nat.le_of_ble_eq_true rfl, Nat.le_of_ble_eq_true rfl⟩ ⟨Nat.le_of_ble_eq_true rfl, Nat.le_of_ble_eq_true rfl⟩ ?_
  refine zz_aload_n G dX_replace_14 rfl ?_
  refine zz_iload_n G dX_replace_15 rfl ?_
  refine zz_iconst (v := 3) G dX_replace_16 (by decide) ?_
  refine zz_callVi (v := fx_words x (6 * u + 3)) (w' := (wx x m o)) (As := [.int (nI u), .int 3]) (rest := [.int (fx_words x (6 * u + 2)), .int (fx_words x (6 * u + 1)), .int k, .ref 0]) G (cx_word l x m o u 3 _ _ rfl rfl (hu) (by decide)) kX_59 dX_replace_17 rfl rfl rfl rfl (Nat.le_of_ble_eq_true rfl) (fun _ => rfl) ⟨Nat.le_of_ble_eq_true rfl, Nat.le_of_ble_eq_true rfl⟩ ⟨Nat.le_of_ble_eq_true rfl, Nat.le_of_ble_eq_true rfl⟩ ?_
  refine zz_iload_n G dX_replace_20 rfl ?_
  refine zz_aload_n G dX_replace_21 rfl ?_
  refine zz_iload_n G dX_replace_22 rfl ?_
  refine zz_iconst (v := 5) G dX_replace_23 (by decide) ?_
  refine zz_callVi (v := fx_words x (6 * u + 5)) (w' := (wx x m o)) (As := [.int (nI u), .int 5]) (rest := [.int a, .int (fx_words x (6 * u + 3)), .int (fx_words x (6 * u + 2)), .int (fx_words x (6 * u + 1)), .int k, .ref 0]) G (cx_word l x m o u 5 _ _ rfl rfl (hu) (by decide)) kX_59 dX_replace_24 rfl rfl rfl rfl (Nat.le_of_ble_eq_true rfl) (fun _ => rfl) ⟨Nat.le_of_ble_eq_true rfl, Nat.le_of_ble_eq_true rfl⟩ ⟨Nat.le_of_ble_eq_true rfl, Nat.le_of_ble_eq_true rfl⟩ ?_
  refine zz_callVi (v := nI n) (w' := (wx (xApp x n k (fx_words x (6 * u + 1)) (fx_words x (6 * u + 2)) (fx_words x (6 * u + 3)) a (fx_words x (6 * u + 5))) m o)) (As := [.int k, .int (fx_words x (6 * u + 1)), .int (fx_words x (6 * u + 2)), .int (fx_words x (6 * u + 3)), .int a, .int (fx_words x (6 * u + 5))]) (rest := []) G (cx_append l x m o n k (fx_words x (6 * u + 1)) (fx_words x (6 * u + 2)) (fx_words x (6 * u + 3)) a (fx_words x (6 * u + 5)) hvc hn) kX_51 dX_replace_27 rfl rfl rfl rfl (Nat.le_of_ble_eq_true rfl) (fun h => by cases h) ⟨Nat.le_of_ble_eq_true rfl, Nat.le_of_ble_eq_true rfl⟩ ⟨Nat.le_of_ble_eq_true rfl, Nat.le_of_ble_eq_true rfl⟩ ?_
  refine zz_istore (lv' := [some (.ref 0), some (.int (nI u)), some (.int k), some (.int a), some (.int (nI n))]) G dX_replace_30 (Nat.le_of_ble_eq_true rfl) rfl ?_
  refine zz_aload_n G dX_replace_32 rfl ?_
  refine zz_get (v := .ref 3) G dX_replace_33 flX_17 rfl rfl ?_
  refine zz_iload_n G dX_replace_36 rfl ?_
  refine zz_iload G dX_replace_37 rfl ?_
  refine zz_iast (w' := (wx (sx_rep (xApp x n k (fx_words x (6 * u + 1)) (fx_words x (6 * u + 2)) (fx_words x (6 * u + 3)) a (fx_words x (6 * u + 5))) (upd (fx_rep (xApp x n k (fx_words x (6 * u + 1)) (fx_words x (6 * u + 2)) (fx_words x (6 * u + 3)) a (fx_words x (6 * u + 5)))) u (nI n))) m o)) rfl G dX_replace_39 rfl (i1_in hu) (by rw [i1_at hu]; rfl) ?_
  refine zz_iload G dX_replace_40 rfl ?_
  exact zz_iret G hret dX_replace_42 (rfl) (Nat.le_of_ble_eq_true rfl) (Nat.le_of_ble_eq_true rfl)
set_option maxRecDepth 100000 in
set_option maxHeartbeats 4000000 in
theorem cx_refuseIfTampered (l : Launch) (hfl : l.flags = Jvm.pinnedFlags ++ [Jvm.noTraceFlag]) (x : XS) (m : MS) (o : Nat → Int64)  : zC l yX_refuseIfTampered (Jvm.Cond.code yX_refuseIfTampered bX_refuseIfTampered 1 none :: Tw) 2 true 0 0 [.ref 0] (wx x m o) (if fx_tam x = 0 then .inl (none, wx x m o) else .inr ("java/lang/IllegalStateException", wx x m o)) := by
  refine zC_of [some (.ref 0)] (by decide) rfl (Nat.le_of_ble_eq_true rfl) ?_
  intro p e s mm args below meth c D cI cJ as G hret hex hbd
  refine zz_aload_n G dX_refuseIfTampered_0 rfl ?_
  refine zz_get (v := .int (fx_tam x)) G dX_refuseIfTampered_1 flX_118 rfl rfl ?_
  refine zz_if_eq (tgt := 17) G dX_refuseIfTampered_4 rfl (fun h4 => ?_) (fun h4 => ?_)
  · exact zz_vret G hret dX_refuseIfTampered_17 (if_pos h4) (Nat.le_of_ble_eq_true rfl) (Nat.le_of_ble_eq_true rfl)
  · exact zz_throw hfl G dX_refuseIfTampered_7 dX_refuseIfTampered_10 dX_refuseIfTampered_11 dX_refuseIfTampered_13 dX_refuseIfTampered_16 ow_122 rfl hbd hex ⟨Nat.le_of_ble_eq_true rfl, Nat.le_of_ble_eq_true rfl⟩ ⟨Nat.le_of_ble_eq_true rfl, Nat.le_of_ble_eq_true rfl⟩ (if_neg h4) rfl rfl
theorem cx_refuseIfTampered_ok (l : Launch) (hfl : l.flags = Jvm.pinnedFlags ++ [Jvm.noTraceFlag]) (x : XS) (m : MS) (o : Nat → Int64)  (h : fx_tam x = 0) : zC l yX_refuseIfTampered (Jvm.Cond.code yX_refuseIfTampered bX_refuseIfTampered 1 none :: Tw) 2 true 0 0 [.ref 0] (wx x m o) (.inl (none, wx x m o)) := by
  have q := cx_refuseIfTampered l hfl x m o 
  rwa [if_pos h] at q
theorem cx_refuseIfTampered_no (l : Launch) (hfl : l.flags = Jvm.pinnedFlags ++ [Jvm.noTraceFlag]) (x : XS) (m : MS) (o : Nat → Int64)  (h : ¬ (fx_tam x = 0)) : zC l yX_refuseIfTampered (Jvm.Cond.code yX_refuseIfTampered bX_refuseIfTampered 1 none :: Tw) 2 true 0 0 [.ref 0] (wx x m o) (.inr ("java/lang/IllegalStateException", wx x m o)) := by
  have q := cx_refuseIfTampered l hfl x m o 
  rwa [if_neg h] at q
set_option maxRecDepth 100000 in
set_option maxHeartbeats 4000000 in
theorem cx_refuseArgumentsUnless (l : Launch) (hfl : l.flags = Jvm.pinnedFlags ++ [Jvm.noTraceFlag]) (x : XS) (m : MS) (o : Nat → Int64) (b : Int32) : zC l yX_refuseArgumentsUnless (Jvm.Cond.code yX_refuseArgumentsUnless bX_refuseArgumentsUnless 1 none :: Tw) 2 true 0 0 [.int b] (wx x m o) (if ¬ b = 0 then .inl (none, wx x m o) else .inr ("java/lang/IllegalArgumentException", wx x m o)) := by
  refine zC_of [some (.int b)] (by decide) rfl (Nat.le_of_ble_eq_true rfl) ?_
  intro p e s mm args below meth c D cI cJ as G hret hex hbd
  refine zz_iload_n G dX_refuseArgumentsUnless_0 rfl ?_
  refine zz_if_ne (tgt := 14) G dX_refuseArgumentsUnless_1 rfl (fun h1 => ?_) (fun h1 => ?_)
  · exact zz_vret G hret dX_refuseArgumentsUnless_14 (if_pos h1) (Nat.le_of_ble_eq_true rfl) (Nat.le_of_ble_eq_true rfl)
  · exact zz_throw hfl G dX_refuseArgumentsUnless_4 dX_refuseArgumentsUnless_7 dX_refuseArgumentsUnless_8 dX_refuseArgumentsUnless_10 dX_refuseArgumentsUnless_13 ow_129 rfl hbd hex ⟨Nat.le_of_ble_eq_true rfl, Nat.le_of_ble_eq_true rfl⟩ ⟨Nat.le_of_ble_eq_true rfl, Nat.le_of_ble_eq_true rfl⟩ (if_neg (fun z => z h1)) rfl rfl
theorem cx_refuseArgumentsUnless_ok (l : Launch) (hfl : l.flags = Jvm.pinnedFlags ++ [Jvm.noTraceFlag]) (x : XS) (m : MS) (o : Nat → Int64) (b : Int32) (h : ¬ b = 0) : zC l yX_refuseArgumentsUnless (Jvm.Cond.code yX_refuseArgumentsUnless bX_refuseArgumentsUnless 1 none :: Tw) 2 true 0 0 [.int b] (wx x m o) (.inl (none, wx x m o)) := by
  have q := cx_refuseArgumentsUnless l hfl x m o b
  rwa [if_pos h] at q
theorem cx_refuseArgumentsUnless_no (l : Launch) (hfl : l.flags = Jvm.pinnedFlags ++ [Jvm.noTraceFlag]) (x : XS) (m : MS) (o : Nat → Int64) (b : Int32) (h : ¬ (¬ b = 0)) : zC l yX_refuseArgumentsUnless (Jvm.Cond.code yX_refuseArgumentsUnless bX_refuseArgumentsUnless 1 none :: Tw) 2 true 0 0 [.int b] (wx x m o) (.inr ("java/lang/IllegalArgumentException", wx x m o)) := by
  have q := cx_refuseArgumentsUnless l hfl x m o b
  rwa [if_neg h] at q
set_option maxRecDepth 100000 in
set_option maxHeartbeats 4000000 in
theorem cx_refuseIfFull (l : Launch) (hfl : l.flags = Jvm.pinnedFlags ++ [Jvm.noTraceFlag]) (x : XS) (m : MS) (o : Nat → Int64)  : zC l yX_refuseIfFull (Jvm.Cond.code yX_refuseIfFull bX_refuseIfFull 1 none :: Tw) 2 true 0 0 [.ref 0] (wx x m o) (if fx_vc x < 64 then .inl (none, wx x m o) else .inr ("java/lang/UnsupportedOperationException", wx x m o)) := by
  refine zC_of [some (.ref 0)] (by decide) rfl (Nat.le_of_ble_eq_true rfl) ?_
  intro p e s mm args below meth c D cI cJ as G hret hex hbd
  refine zz_aload_n G dX_refuseIfFull_0 rfl ?_
  refine zz_get (v := .int (fx_vc x)) G dX_refuseIfFull_1 flX_105 rfl rfl ?_
  refine zz_bipush (v := 64) G dX_refuseIfFull_4 (by decide) ?_
  refine zz_icmp_lt (tgt := 19) G dX_refuseIfFull_6 rfl (fun h6 => ?_) (fun h6 => ?_)
  · exact zz_vret G hret dX_refuseIfFull_19 (if_pos h6) (Nat.le_of_ble_eq_true rfl) (Nat.le_of_ble_eq_true rfl)
  · exact zz_throw hfl G dX_refuseIfFull_9 dX_refuseIfFull_12 dX_refuseIfFull_13 dX_refuseIfFull_15 dX_refuseIfFull_18 ow_134 rfl hbd hex ⟨Nat.le_of_ble_eq_true rfl, Nat.le_of_ble_eq_true rfl⟩ ⟨Nat.le_of_ble_eq_true rfl, Nat.le_of_ble_eq_true rfl⟩ (if_neg h6) rfl rfl
theorem cx_refuseIfFull_ok (l : Launch) (hfl : l.flags = Jvm.pinnedFlags ++ [Jvm.noTraceFlag]) (x : XS) (m : MS) (o : Nat → Int64)  (h : fx_vc x < 64) : zC l yX_refuseIfFull (Jvm.Cond.code yX_refuseIfFull bX_refuseIfFull 1 none :: Tw) 2 true 0 0 [.ref 0] (wx x m o) (.inl (none, wx x m o)) := by
  have q := cx_refuseIfFull l hfl x m o 
  rwa [if_pos h] at q
theorem cx_refuseIfFull_no (l : Launch) (hfl : l.flags = Jvm.pinnedFlags ++ [Jvm.noTraceFlag]) (x : XS) (m : MS) (o : Nat → Int64)  (h : ¬ (fx_vc x < 64)) : zC l yX_refuseIfFull (Jvm.Cond.code yX_refuseIfFull bX_refuseIfFull 1 none :: Tw) 2 true 0 0 [.ref 0] (wx x m o) (.inr ("java/lang/UnsupportedOperationException", wx x m o)) := by
  have q := cx_refuseIfFull l hfl x m o 
  rwa [if_neg h] at q
set_option maxRecDepth 100000 in
set_option maxHeartbeats 4000000 in
theorem cx_refuseIfTurnoverTooHigh (l : Launch) (hfl : l.flags = Jvm.pinnedFlags ++ [Jvm.noTraceFlag]) (x : XS) (m : MS) (o : Nat → Int64) (n : Nat) (a b1 b2 : Int32) (hvc : fx_vc x = nI n) (hn : n ≤ 64) : zC l yX_refuseIfTurnoverTooHigh (Jvm.Cond.code yX_refuseIfTurnoverTooHigh bX_refuseIfTurnoverTooHigh 6 none :: Tw) 3 true 0 0 [.ref 0, .int a, .int b1, .int b2] (wx x m o) (if sOver x n a b1 b2 ≤ 0 then .inl (none, wx x m o) else .inr ("java/lang/ArithmeticException", wx x m o)) := by
  refine zC_of [some (.ref 0), some (.int a), some (.int b1), some (.int b2), none, none] (by decide) rfl (Nat.le_of_ble_eq_true rfl) ?_
  intro p e s mm args below meth c D cI cJ as G hret hex hbd
  refine zz_aload_n G dX_refuseIfTurnoverTooHigh_0 rfl ?_
  refine zz_iload_n G dX_refuseIfTurnoverTooHigh_1 rfl ?_
  refine zz_callVi (v := cTurn (fx_words x) (fx_rep x) a (nI n) n) (w' := (wx x m o)) (As := [.int a]) (rest := []) G (cx_turnoverOf l x m o a n hvc hn) kX_73 dX_refuseIfTurnoverTooHigh_2 rfl rfl rfl rfl (Nat.le_of_ble_eq_true rfl) (fun _ => rfl) ⟨Nat.le_of_ble_eq_true rfl, Nat.le_of_ble_eq_true rfl⟩ ⟨Nat.le_of_ble_eq_true rfl, Nat.le_of_ble_eq_true rfl⟩ ?_
  refine zz_i2l G dX_refuseIfTurnoverTooHigh_5 ?_
  refine zz_iload_n G dX_refuseIfTurnoverTooHigh_6 rfl ?_
  refine zz_i2l G dX_refuseIfTurnoverTooHigh_7 ?_
  refine zz_lsub G dX_refuseIfTurnoverTooHigh_8 ?_
  refine zz_iload_n G dX_refuseIfTurnoverTooHigh_9 rfl ?_
  refine zz_i2l G dX_refuseIfTurnoverTooHigh_10 ?_
  refine zz_ladd G dX_refuseIfTurnoverTooHigh_11 ?_
  refine zz_lstore (lv' := [some (.ref 0), some (.int a), some (.int b1), some (.int b2), some (.long ((((cTurn (fx_words x) (fx_rep x) a (nI n) n).toInt64) - b1.toInt64) + b2.toInt64)), none]) G dX_refuseIfTurnoverTooHigh_12 (Nat.le_of_ble_eq_true rfl) rfl ?_
  refine zz_lload G dX_refuseIfTurnoverTooHigh_14 rfl ?_
  refine zz_ldc2 (v := 2147483647) G dX_refuseIfTurnoverTooHigh_16 tw_271 ?_
  refine zz_lcmp G dX_refuseIfTurnoverTooHigh_19 ?_
  refine zz_if_le (tgt := 33) G dX_refuseIfTurnoverTooHigh_20 rfl (fun h20 => ?_) (fun h20 => ?_)
  · exact zz_vret G hret dX_refuseIfTurnoverTooHigh_33 (if_pos h20) (Nat.le_of_ble_eq_true rfl) (Nat.le_of_ble_eq_true rfl)
  · exact zz_throw hfl G dX_refuseIfTurnoverTooHigh_23 dX_refuseIfTurnoverTooHigh_26 dX_refuseIfTurnoverTooHigh_27 dX_refuseIfTurnoverTooHigh_29 dX_refuseIfTurnoverTooHigh_32 ow_141 rfl hbd hex ⟨Nat.le_of_ble_eq_true rfl, Nat.le_of_ble_eq_true rfl⟩ ⟨Nat.le_of_ble_eq_true rfl, Nat.le_of_ble_eq_true rfl⟩ (if_neg h20) rfl rfl
theorem cx_refuseIfTurnoverTooHigh_ok (l : Launch) (hfl : l.flags = Jvm.pinnedFlags ++ [Jvm.noTraceFlag]) (x : XS) (m : MS) (o : Nat → Int64) (n : Nat) (a b1 b2 : Int32) (hvc : fx_vc x = nI n) (hn : n ≤ 64) (h : sOver x n a b1 b2 ≤ 0) : zC l yX_refuseIfTurnoverTooHigh (Jvm.Cond.code yX_refuseIfTurnoverTooHigh bX_refuseIfTurnoverTooHigh 6 none :: Tw) 3 true 0 0 [.ref 0, .int a, .int b1, .int b2] (wx x m o) (.inl (none, wx x m o)) := by
  have q := cx_refuseIfTurnoverTooHigh l hfl x m o n a b1 b2 hvc hn
  rwa [if_pos h] at q
theorem cx_refuseIfTurnoverTooHigh_no (l : Launch) (hfl : l.flags = Jvm.pinnedFlags ++ [Jvm.noTraceFlag]) (x : XS) (m : MS) (o : Nat → Int64) (n : Nat) (a b1 b2 : Int32) (hvc : fx_vc x = nI n) (hn : n ≤ 64) (h : ¬ (sOver x n a b1 b2 ≤ 0)) : zC l yX_refuseIfTurnoverTooHigh (Jvm.Cond.code yX_refuseIfTurnoverTooHigh bX_refuseIfTurnoverTooHigh 6 none :: Tw) 3 true 0 0 [.ref 0, .int a, .int b1, .int b2] (wx x m o) (.inr ("java/lang/ArithmeticException", wx x m o)) := by
  have q := cx_refuseIfTurnoverTooHigh l hfl x m o n a b1 b2 hvc hn
  rwa [if_neg h] at q
set_option maxRecDepth 100000 in
set_option maxHeartbeats 4000000 in
theorem cx_versionToReplace (l : Launch) (hfl : l.flags = Jvm.pinnedFlags ++ [Jvm.noTraceFlag]) (x : XS) (m : MS) (o : Nat → Int64) (n : Nat) (en : Int32) (hvc : fx_vc x = nI n) (hn : n ≤ 64) : zC l yX_versionToReplace (Jvm.Cond.code yX_versionToReplace bX_versionToReplace 3 (some .int) :: Tw) 2 true 0 0 [.ref 0, .int en] (wx x m o) (rVtr x m o n en) := by
  refine zC_of [some (.ref 0), some (.int en), none] (by decide) rfl (Nat.le_of_ble_eq_true rfl) ?_
  intro p e s mm args below meth c D cI cJ as G hret hex hbd
  rcases hq : sLast (fx_words x) en n with _ | u
  · refine zz_aload_n G dX_versionToReplace_0 rfl ?_
    refine zz_iload_n G dX_versionToReplace_1 rfl ?_
    refine zz_aload_n G dX_versionToReplace_2 rfl ?_
    refine zz_get (v := .int (nI n)) G dX_versionToReplace_3 flX_105 rfl (by rw [← hvc]; rfl) ?_
    refine zz_callVi (v := (-1)) (w' := (wx x m o)) (As := [.int en, .int (nI n)]) (rest := []) G (by have q := cx_currentVersion l x m o en _ n rfl hn; rw [hq] at q; exact q) kX_102 dX_versionToReplace_6 rfl rfl rfl rfl (Nat.le_of_ble_eq_true rfl) (fun _ => rfl) ⟨Nat.le_of_ble_eq_true rfl, Nat.le_of_ble_eq_true rfl⟩ ⟨Nat.le_of_ble_eq_true rfl, Nat.le_of_ble_eq_true rfl⟩ ?_
    refine zz_istore_n (lv' := [some (.ref 0), some (.int en), some (.int (-1))]) G dX_versionToReplace_9 (Nat.le_of_ble_eq_true rfl) rfl ?_
    refine zz_iload_n G dX_versionToReplace_10 rfl ?_
    refine zz_iconst (v := -1) G dX_versionToReplace_11 (by decide) ?_
    refine zz_icmp_eq (tgt := 25) G dX_versionToReplace_12 rfl (fun h12 => ?_) (fun h12 => (h12 rfl).elim)
    exact zz_throwN hfl G dX_versionToReplace_25 dX_versionToReplace_28 dX_versionToReplace_29 dX_versionToReplace_31 dX_versionToReplace_34 ow_146 rfl hbd hex ⟨Nat.le_of_ble_eq_true rfl, Nat.le_of_ble_eq_true rfl⟩ ⟨Nat.le_of_ble_eq_true rfl, Nat.le_of_ble_eq_true rfl⟩ (by unfold rVtr; rw [hq]; rfl) rfl rfl
  · have hu : u < n := (mL_lt n hq).1
    refine zz_aload_n G dX_versionToReplace_0 rfl ?_
    refine zz_iload_n G dX_versionToReplace_1 rfl ?_
    refine zz_aload_n G dX_versionToReplace_2 rfl ?_
    refine zz_get (v := .int (nI n)) G dX_versionToReplace_3 flX_105 rfl (by rw [← hvc]; rfl) ?_
    refine zz_callVi (v := nI u) (w' := (wx x m o)) (As := [.int en, .int (nI n)]) (rest := []) G (by have q := cx_currentVersion l x m o en _ n rfl hn; rw [hq] at q; exact q) kX_102 dX_versionToReplace_6 rfl rfl rfl rfl (Nat.le_of_ble_eq_true rfl) (fun _ => rfl) ⟨Nat.le_of_ble_eq_true rfl, Nat.le_of_ble_eq_true rfl⟩ ⟨Nat.le_of_ble_eq_true rfl, Nat.le_of_ble_eq_true rfl⟩ ?_
    refine zz_istore_n (lv' := [some (.ref 0), some (.int en), some (.int (nI u))]) G dX_versionToReplace_9 (Nat.le_of_ble_eq_true rfl) rfl ?_
    refine zz_iload_n G dX_versionToReplace_10 rfl ?_
    refine zz_iconst (v := -1) G dX_versionToReplace_11 (by decide) ?_
    refine zz_icmp_eq (tgt := 25) G dX_versionToReplace_12 rfl (fun h12 => (nI_m1 (by omega) h12).elim) (fun h12 => ?_)
    refine zz_aload_n G dX_versionToReplace_15 rfl ?_
    refine zz_iload_n G dX_versionToReplace_16 rfl ?_
    refine zz_iconst (v := 0) G dX_versionToReplace_17 (by decide) ?_
    refine zz_callVi (v := fx_words x (6 * u + 0)) (w' := (wx x m o)) (As := [.int (nI u), .int 0]) (rest := []) G (cx_word l x m o u 0 _ _ rfl rfl (by omega) (by decide)) kX_59 dX_versionToReplace_18 rfl rfl rfl rfl (Nat.le_of_ble_eq_true rfl) (fun _ => rfl) ⟨Nat.le_of_ble_eq_true rfl, Nat.le_of_ble_eq_true rfl⟩ ⟨Nat.le_of_ble_eq_true rfl, Nat.le_of_ble_eq_true rfl⟩ ?_
    refine zz_iconst (v := 2) G dX_versionToReplace_21 (by decide) ?_
    refine zz_icmp_ne (tgt := 35) G dX_versionToReplace_22 rfl (fun h22 => ?_) (fun h22 => ?_)
    · refine zz_iload_n G dX_versionToReplace_35 rfl ?_
      exact zz_iret G hret dX_versionToReplace_36 (by unfold rVtr; rw [hq]; show (if fx_words x (6 * u + 0) = 2 then _ else _) = _; rw [if_neg h22]) (Nat.le_of_ble_eq_true rfl) (Nat.le_of_ble_eq_true rfl)
    · exact zz_throwN hfl G dX_versionToReplace_25 dX_versionToReplace_28 dX_versionToReplace_29 dX_versionToReplace_31 dX_versionToReplace_34 ow_146 rfl hbd hex ⟨Nat.le_of_ble_eq_true rfl, Nat.le_of_ble_eq_true rfl⟩ ⟨Nat.le_of_ble_eq_true rfl, Nat.le_of_ble_eq_true rfl⟩ (by unfold rVtr; rw [hq]; show (if fx_words x (6 * u + 0) = 2 then _ else _) = _; rw [if_pos h22]; rfl) rfl rfl
theorem cx_vtr_no1 (l : Launch) (hfl : l.flags = Jvm.pinnedFlags ++ [Jvm.noTraceFlag]) (x : XS) (m : MS) (o : Nat → Int64) (n : Nat) (en : Int32) (hvc : fx_vc x = nI n) (hn : n ≤ 64) (h : sLast (fx_words x) en n = none) : zC l yX_versionToReplace (Jvm.Cond.code yX_versionToReplace bX_versionToReplace 3 (some .int) :: Tw) 2 true 0 0 [.ref 0, .int en] (wx x m o) (xNSE (wx x m o)) := by
  have q := cx_versionToReplace l hfl x m o n en hvc hn
  unfold rVtr at q
  rw [h] at q
  exact q
theorem cx_vtr_no2 (l : Launch) (hfl : l.flags = Jvm.pinnedFlags ++ [Jvm.noTraceFlag]) (x : XS) (m : MS) (o : Nat → Int64) (n : Nat) (en : Int32) (hvc : fx_vc x = nI n) (hn : n ≤ 64) {u : Nat} (h : sLast (fx_words x) en n = some u) (h2 : fx_words x (6 * u + 0) = 2) : zC l yX_versionToReplace (Jvm.Cond.code yX_versionToReplace bX_versionToReplace 3 (some .int) :: Tw) 2 true 0 0 [.ref 0, .int en] (wx x m o) (xNSE (wx x m o)) := by
  have q := cx_versionToReplace l hfl x m o n en hvc hn
  unfold rVtr at q
  rw [h] at q
  simp only [h2, if_true] at q
  exact q
theorem cx_vtr_ok (l : Launch) (hfl : l.flags = Jvm.pinnedFlags ++ [Jvm.noTraceFlag]) (x : XS) (m : MS) (o : Nat → Int64) (n : Nat) (en : Int32) (hvc : fx_vc x = nI n) (hn : n ≤ 64) {u : Nat} (h : sLast (fx_words x) en n = some u) (h2 : ¬ fx_words x (6 * u + 0) = 2) : zC l yX_versionToReplace (Jvm.Cond.code yX_versionToReplace bX_versionToReplace 3 (some .int) :: Tw) 2 true 0 0 [.ref 0, .int en] (wx x m o) (.inl (some (.int (nI u)), wx x m o)) := by
  have q := cx_versionToReplace l hfl x m o n en hvc hn
  unfold rVtr at q
  rw [h] at q
  simp only [h2, if_false] at q
  exact q
