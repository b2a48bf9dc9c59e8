set_option maxRecDepth 100000 in
set_option maxHeartbeats 4000000 in
theorem lc_post {p : Program} {l : Launch} {e0 : Env} {s : State} {mm : MethodId} {below : List Frame} {meth : Method} {c : Code} {b L : Nat} {xs : Nat → Int32} {D : va_G} {cI cJ : ClassId} {as : Nat → Nat} {Q : State → Prop} (hfl : l.flags = Jvm.pinnedFlags ++ [Jvm.noTraceFlag]) (G : zok p s mm #[Value.ref b] meth c bL_law 7 "AsOfLedgerLaw" D cI cJ as) (hL : L ≤ 2560) (hX : va_X b L xs s s.heap) (hbl : b < s.heap.size) (h11 : as 11 = b) (hbA : ¬ zA as s.heap.size b) {j : Nat} (hj : 5 * j + 5 ≤ L) (NX : ∀ (x : XS) (m : MS) (o : Nat → Int64), Rel x m → Z p l e0 room_1 s mm #[Value.ref b] below meth c 7 D cI cJ as false (11 + j + 1) (1175 + 6 * j + 6) Q 925 [some (.ref 11), some (.ref 0), some (.ref 5), some (.ref 10), some (.int (nI (5 * j))), none, none] [] (wx x m o)) (x : XS) (m : MS) (o : Nat → Int64) (hR : Rel x m) : Z p l e0 room_1 s mm #[Value.ref b] below meth c 7 D cI cJ as false (11 + j) (1175 + 6 * j) Q 112 [some (.ref 11), some (.ref 0), some (.ref 5), some (.ref 10), some (.int (nI (5 * j))), none, none] [] (wx x m o) := by
  obtain ⟨n, e, p1, l1, hN⟩ := hR
  have hM := mt_post hN (xs (5 * j + 1)) (xs (5 * j + 2)) (xs (5 * j + 3)) (xs (5 * j + 4))
  have hlv := rel_live hN
  have hb := rel_b hN
  have hlst := rel_last hN
  have hans := rel_ans hN
  obtain ⟨⟨hn, he, hvc, hec, hcl, hen⟩, ⟨htm, hw, hk, hI⟩, ⟨hl64, hpl, hln, hsz, hch, hpc, hct, hat⟩, hlast, hcur⟩ := hN
  have hk1 : 11 + j + 1 ≤ room_1.cells := by show 11 + j + 1 ≤ 1040; omega
  have hk2 : 1175 + 6 * j + 6 ≤ room_1.slots := by show 1175 + 6 * j + 6 ≤ 9397; omega
  have hk3 : 11 + j + 1 + 1 ≤ room_1.cells := by show 11 + j + 1 + 1 ≤ 1040; omega
  have hk4 : 1175 + 6 * j + 6 + 6 ≤ room_1.slots := by show 1175 + 6 * j + 6 + 6 ≤ 9397; omega
  rcases hM with ⟨v, x1, m1, hr, hq, hc0, hR1⟩ | ⟨kx, X, v, m1, hX1, hr, hq, hc0, hR1⟩
  · refine zz_aload_n G dL_law_112 rfl ?_
    refine zz_aload_n G dL_law_113 rfl ?_
    refine zz_iload G dL_law_114 rfl ?_
    refine zz_iconst (v := 1) G dL_law_116 (by decide) ?_
    refine zz_iadd G dL_law_117 ?_
    refine zz_sld (v := xs (5 * j + 1)) G hX hbl h11 hbA dL_law_118 (sc_in 1 hj hL (by decide)) (congrArg xs (sc_at 1 hj hL (by decide))) ?_
    refine zz_aload_n G dL_law_119 rfl ?_
    refine zz_iload G dL_law_120 rfl ?_
    refine zz_iconst (v := 2) G dL_law_122 (by decide) ?_
    refine zz_iadd G dL_law_123 ?_
    refine zz_sld (v := xs (5 * j + 2)) G hX hbl h11 hbA dL_law_124 (sc_in 2 hj hL (by decide)) (congrArg xs (sc_at 2 hj hL (by decide))) ?_
    refine zz_aload_n G dL_law_125 rfl ?_
    refine zz_iload G dL_law_126 rfl ?_
    refine zz_iconst (v := 3) G dL_law_128 (by decide) ?_
    refine zz_iadd G dL_law_129 ?_
    refine zz_sld (v := xs (5 * j + 3)) G hX hbl h11 hbA dL_law_130 (sc_in 3 hj hL (by decide)) (congrArg xs (sc_at 3 hj hL (by decide))) ?_
    refine zz_aload_n G dL_law_131 rfl ?_
    refine zz_iload G dL_law_132 rfl ?_
    refine zz_iconst (v := 4) G dL_law_134 (by decide) ?_
    refine zz_iadd G dL_law_135 ?_
    refine zz_sld (v := xs (5 * j + 4)) G hX hbl h11 hbA dL_law_136 (sc_in 4 hj hL (by decide)) (congrArg xs (sc_at 4 hj hL (by decide))) ?_
    refine zz_aload_n G dL_law_137 rfl ?_
    refine zz_callSWi (v := 0) (w' := (wx x1 m ((vp_updL o 0 v.toInt64)))) (As := [.ref 0, .int (xs (5 * j + 1)), .int (xs (5 * j + 2)), .int (xs (5 * j + 3)), .int (xs (5 * j + 4)), .ref 10]) (rest := []) G (ch_post_ok l hfl x m o n e (xs (5 * j + 1)) (xs (5 * j + 2)) (xs (5 * j + 3)) (xs (5 * j + 4)) hvc hn hec v x1 (hr m o)) kH_post dL_law_138 rfl rfl (Nat.le_of_ble_eq_true rfl) (fun h => by cases h) ⟨Nat.le_of_ble_eq_true rfl, Nat.le_of_ble_eq_true rfl⟩ ⟨hk1, hk2⟩ ?_
    refine zz_istore (lv' := [some (.ref 11), some (.ref 0), some (.ref 5), some (.ref 10), some (.int (nI (5 * j))), some (.int 0), none]) G dL_law_141 (Nat.le_of_ble_eq_true rfl) rfl ?_
    refine zz_aload_n G dL_law_143 rfl ?_
    refine zz_aload_n G dL_law_144 rfl ?_
    refine zz_iload G dL_law_145 rfl ?_
    refine zz_iconst (v := 1) G dL_law_147 (by decide) ?_
    refine zz_iadd G dL_law_148 ?_
    refine zz_sld (v := xs (5 * j + 1)) G hX hbl h11 hbA dL_law_149 (sc_in 1 hj hL (by decide)) (congrArg xs (sc_at 1 hj hL (by decide))) ?_
    refine zz_aload_n G dL_law_150 rfl ?_
    refine zz_iload G dL_law_151 rfl ?_
    refine zz_iconst (v := 2) G dL_law_153 (by decide) ?_
    refine zz_iadd G dL_law_154 ?_
    refine zz_sld (v := xs (5 * j + 2)) G hX hbl h11 hbA dL_law_155 (sc_in 2 hj hL (by decide)) (congrArg xs (sc_at 2 hj hL (by decide))) ?_
    refine zz_aload_n G dL_law_156 rfl ?_
    refine zz_iload G dL_law_157 rfl ?_
    refine zz_iconst (v := 3) G dL_law_159 (by decide) ?_
    refine zz_iadd G dL_law_160 ?_
    refine zz_sld (v := xs (5 * j + 3)) G hX hbl h11 hbA dL_law_161 (sc_in 3 hj hL (by decide)) (congrArg xs (sc_at 3 hj hL (by decide))) ?_
    refine zz_aload_n G dL_law_162 rfl ?_
    refine zz_iload G dL_law_163 rfl ?_
    refine zz_iconst (v := 4) G dL_law_165 (by decide) ?_
    refine zz_iadd G dL_law_166 ?_
    refine zz_sld (v := xs (5 * j + 4)) G hX hbl h11 hbA dL_law_167 (sc_in 4 hj hL (by decide)) (congrArg xs (sc_at 4 hj hL (by decide))) ?_
    refine zz_callVi (v := v) (w' := (wx x1 m1 ((vp_updL o 0 v.toInt64)))) (As := [.int (xs (5 * j + 1)), .int (xs (5 * j + 2)), .int (xs (5 * j + 3)), .int (xs (5 * j + 4))]) (rest := []) G (by have q := cm_post l x1 m (vp_updL o 0 v.toInt64) (xs (5 * j + 1)) (xs (5 * j + 2)) (xs (5 * j + 3)) (xs (5 * j + 4)) n e hcl hn hen (by omega) hlv; rw [show qPost x1 m (vp_updL o 0 v.toInt64) n e (xs (5 * j + 1)) (xs (5 * j + 2)) (xs (5 * j + 3)) (xs (5 * j + 4)) = _ from hq x1 (vp_updL o 0 v.toInt64)] at q; exact q) kL_66 dL_law_168 rfl rfl rfl rfl (Nat.le_of_ble_eq_true rfl) (fun h => by cases h) ⟨Nat.le_of_ble_eq_true rfl, Nat.le_of_ble_eq_true rfl⟩ ⟨hk3, hk4⟩ ?_
    refine zz_istore (lv' := [some (.ref 11), some (.ref 0), some (.ref 5), some (.ref 10), some (.int (nI (5 * j))), some (.int 0), some (.int v)]) G dL_law_171 (Nat.le_of_ble_eq_true rfl) rfl ?_
    refine zz_aload_n G dL_law_173 rfl ?_
    refine zz_callVi (v := 0) (w' := (wx x1 m1 ((vp_updL o 0 v.toInt64)))) (As := []) (rest := []) G (by have q := cm_thrown l x1 m1 (vp_updL o 0 v.toInt64); rw [hc0] at q; exact q) kL_67 dL_law_174 rfl rfl rfl rfl (Nat.le_of_ble_eq_true rfl) (fun _ => rfl) ⟨Nat.le_of_ble_eq_true rfl, Nat.le_of_ble_eq_true rfl⟩ ⟨hk3, hk4⟩ ?_
    refine zz_iload G dL_law_177 rfl ?_
    refine zz_icmp_eq (tgt := 184) G dL_law_179 rfl (fun h179 => ?_) (fun h179 => ((absurd h179 (by decide) : False)).elim)
    refine zz_iload G dL_law_184 rfl ?_
    refine zz_if_ne (tgt := 201) G dL_law_186 rfl (fun h186 => ((absurd h186 (by decide) : False)).elim) (fun h186 => ?_)
    refine zz_aload_n G dL_law_189 rfl ?_
    refine zz_iconst (v := 0) G dL_law_190 (by decide) ?_
    refine zz_lald (v := v.toInt64) G dL_law_191 rfl (by rw [← nI_0]; exact vp_in_nI (by omega) (by omega)) (if_pos rfl) ?_
    refine zz_iload G dL_law_192 rfl ?_
    refine zz_i2l G dL_law_194 ?_
    refine zz_lcmp G dL_law_195 ?_
    refine zz_if_eq (tgt := 201) G dL_law_196 rfl (fun h196 => ?_) (fun h196 => (h196 ((lg_cmp_eq _ _).mpr rfl)).elim)
    refine zz_goto (tgt := 925) G dL_law_201 rfl ?_
    refine zz_few (lv' := [some (.ref 11), some (.ref 0), some (.ref 5), some (.ref 10), some (.int (nI (5 * j))), none, none]) (by exact ⟨rfl, rfl, rfl, rfl, rfl, trivial⟩) ?_
    exact NX x1 m1 (vp_updL o 0 v.toInt64) hR1
  · rcases kx with _ | _ | _ | _ | kx
    · obtain rfl := Option.some.inj (show some "java/lang/IllegalStateException" = some X from hX1)
      have hc0 : fm_code m1 = 1 := hc0
      refine zz_aload_n G dL_law_112 rfl ?_
      refine zz_aload_n G dL_law_113 rfl ?_
      refine zz_iload G dL_law_114 rfl ?_
      refine zz_iconst (v := 1) G dL_law_116 (by decide) ?_
      refine zz_iadd G dL_law_117 ?_
      refine zz_sld (v := xs (5 * j + 1)) G hX hbl h11 hbA dL_law_118 (sc_in 1 hj hL (by decide)) (congrArg xs (sc_at 1 hj hL (by decide))) ?_
      refine zz_aload_n G dL_law_119 rfl ?_
      refine zz_iload G dL_law_120 rfl ?_
      refine zz_iconst (v := 2) G dL_law_122 (by decide) ?_
      refine zz_iadd G dL_law_123 ?_
      refine zz_sld (v := xs (5 * j + 2)) G hX hbl h11 hbA dL_law_124 (sc_in 2 hj hL (by decide)) (congrArg xs (sc_at 2 hj hL (by decide))) ?_
      refine zz_aload_n G dL_law_125 rfl ?_
      refine zz_iload G dL_law_126 rfl ?_
      refine zz_iconst (v := 3) G dL_law_128 (by decide) ?_
      refine zz_iadd G dL_law_129 ?_
      refine zz_sld (v := xs (5 * j + 3)) G hX hbl h11 hbA dL_law_130 (sc_in 3 hj hL (by decide)) (congrArg xs (sc_at 3 hj hL (by decide))) ?_
      refine zz_aload_n G dL_law_131 rfl ?_
      refine zz_iload G dL_law_132 rfl ?_
      refine zz_iconst (v := 4) G dL_law_134 (by decide) ?_
      refine zz_iadd G dL_law_135 ?_
      refine zz_sld (v := xs (5 * j + 4)) G hX hbl h11 hbA dL_law_136 (sc_in 4 hj hL (by decide)) (congrArg xs (sc_at 4 hj hL (by decide))) ?_
      refine zz_aload_n G dL_law_137 rfl ?_
      refine zz_callSWi (v := 1) (w' := (wx x m o)) (As := [.ref 0, .int (xs (5 * j + 1)), .int (xs (5 * j + 2)), .int (xs (5 * j + 3)), .int (xs (5 * j + 4)), .ref 10]) (rest := []) G (ch_post_ISE l hfl x m o n e (xs (5 * j + 1)) (xs (5 * j + 2)) (xs (5 * j + 3)) (xs (5 * j + 4)) hvc hn hec (hr m o)) kH_post dL_law_138 rfl rfl (Nat.le_of_ble_eq_true rfl) (fun h => by cases h) ⟨Nat.le_of_ble_eq_true rfl, Nat.le_of_ble_eq_true rfl⟩ ⟨hk1, hk2⟩ ?_
      refine zz_istore (lv' := [some (.ref 11), some (.ref 0), some (.ref 5), some (.ref 10), some (.int (nI (5 * j))), some (.int 1), none]) G dL_law_141 (Nat.le_of_ble_eq_true rfl) rfl ?_
      refine zz_aload_n G dL_law_143 rfl ?_
      refine zz_aload_n G dL_law_144 rfl ?_
      refine zz_iload G dL_law_145 rfl ?_
      refine zz_iconst (v := 1) G dL_law_147 (by decide) ?_
      refine zz_iadd G dL_law_148 ?_
      refine zz_sld (v := xs (5 * j + 1)) G hX hbl h11 hbA dL_law_149 (sc_in 1 hj hL (by decide)) (congrArg xs (sc_at 1 hj hL (by decide))) ?_
      refine zz_aload_n G dL_law_150 rfl ?_
      refine zz_iload G dL_law_151 rfl ?_
      refine zz_iconst (v := 2) G dL_law_153 (by decide) ?_
      refine zz_iadd G dL_law_154 ?_
      refine zz_sld (v := xs (5 * j + 2)) G hX hbl h11 hbA dL_law_155 (sc_in 2 hj hL (by decide)) (congrArg xs (sc_at 2 hj hL (by decide))) ?_
      refine zz_aload_n G dL_law_156 rfl ?_
      refine zz_iload G dL_law_157 rfl ?_
      refine zz_iconst (v := 3) G dL_law_159 (by decide) ?_
      refine zz_iadd G dL_law_160 ?_
      refine zz_sld (v := xs (5 * j + 3)) G hX hbl h11 hbA dL_law_161 (sc_in 3 hj hL (by decide)) (congrArg xs (sc_at 3 hj hL (by decide))) ?_
      refine zz_aload_n G dL_law_162 rfl ?_
      refine zz_iload G dL_law_163 rfl ?_
      refine zz_iconst (v := 4) G dL_law_165 (by decide) ?_
      refine zz_iadd G dL_law_166 ?_
      refine zz_sld (v := xs (5 * j + 4)) G hX hbl h11 hbA dL_law_167 (sc_in 4 hj hL (by decide)) (congrArg xs (sc_at 4 hj hL (by decide))) ?_
      refine zz_callVi (v := v) (w' := (wx x m1 o)) (As := [.int (xs (5 * j + 1)), .int (xs (5 * j + 2)), .int (xs (5 * j + 3)), .int (xs (5 * j + 4))]) (rest := []) G (by have q := cm_post l x m o (xs (5 * j + 1)) (xs (5 * j + 2)) (xs (5 * j + 3)) (xs (5 * j + 4)) n e hcl hn hen (by omega) hlv; rw [show qPost x m o n e (xs (5 * j + 1)) (xs (5 * j + 2)) (xs (5 * j + 3)) (xs (5 * j + 4)) = _ from hq x o] at q; exact q) kL_66 dL_law_168 rfl rfl rfl rfl (Nat.le_of_ble_eq_true rfl) (fun h => by cases h) ⟨Nat.le_of_ble_eq_true rfl, Nat.le_of_ble_eq_true rfl⟩ ⟨hk3, hk4⟩ ?_
      refine zz_istore (lv' := [some (.ref 11), some (.ref 0), some (.ref 5), some (.ref 10), some (.int (nI (5 * j))), some (.int 1), some (.int v)]) G dL_law_171 (Nat.le_of_ble_eq_true rfl) rfl ?_
      refine zz_aload_n G dL_law_173 rfl ?_
      refine zz_callVi (v := 1) (w' := (wx x m1 o)) (As := []) (rest := []) G (by have q := cm_thrown l x m1 o; rw [hc0] at q; exact q) kL_67 dL_law_174 rfl rfl rfl rfl (Nat.le_of_ble_eq_true rfl) (fun _ => rfl) ⟨Nat.le_of_ble_eq_true rfl, Nat.le_of_ble_eq_true rfl⟩ ⟨hk3, hk4⟩ ?_
      refine zz_iload G dL_law_177 rfl ?_
      refine zz_icmp_eq (tgt := 184) G dL_law_179 rfl (fun h179 => ?_) (fun h179 => ((absurd h179 (by decide) : False)).elim)
      refine zz_iload G dL_law_184 rfl ?_
      refine zz_if_ne (tgt := 201) G dL_law_186 rfl (fun h186 => ?_) (fun h186 => ((absurd h186 (by decide) : False)).elim)
      refine zz_goto (tgt := 925) G dL_law_201 rfl ?_
      refine zz_few (lv' := [some (.ref 11), some (.ref 0), some (.ref 5), some (.ref 10), some (.int (nI (5 * j))), none, none]) (by exact ⟨rfl, rfl, rfl, rfl, rfl, trivial⟩) ?_
      exact NX x m1 o hR1
    · obtain rfl := Option.some.inj (show some "java/lang/IllegalArgumentException" = some X from hX1)
      have hc0 : fm_code m1 = 2 := hc0
      refine zz_aload_n G dL_law_112 rfl ?_
      refine zz_aload_n G dL_law_113 rfl ?_
      refine zz_iload G dL_law_114 rfl ?_
      refine zz_iconst (v := 1) G dL_law_116 (by decide) ?_
      refine zz_iadd G dL_law_117 ?_
      refine zz_sld (v := xs (5 * j + 1)) G hX hbl h11 hbA dL_law_118 (sc_in 1 hj hL (by decide)) (congrArg xs (sc_at 1 hj hL (by decide))) ?_
      refine zz_aload_n G dL_law_119 rfl ?_
      refine zz_iload G dL_law_120 rfl ?_
      refine zz_iconst (v := 2) G dL_law_122 (by decide) ?_
      refine zz_iadd G dL_law_123 ?_
      refine zz_sld (v := xs (5 * j + 2)) G hX hbl h11 hbA dL_law_124 (sc_in 2 hj hL (by decide)) (congrArg xs (sc_at 2 hj hL (by decide))) ?_
      refine zz_aload_n G dL_law_125 rfl ?_
      refine zz_iload G dL_law_126 rfl ?_
      refine zz_iconst (v := 3) G dL_law_128 (by decide) ?_
      refine zz_iadd G dL_law_129 ?_
      refine zz_sld (v := xs (5 * j + 3)) G hX hbl h11 hbA dL_law_130 (sc_in 3 hj hL (by decide)) (congrArg xs (sc_at 3 hj hL (by decide))) ?_
      refine zz_aload_n G dL_law_131 rfl ?_
      refine zz_iload G dL_law_132 rfl ?_
      refine zz_iconst (v := 4) G dL_law_134 (by decide) ?_
      refine zz_iadd G dL_law_135 ?_
      refine zz_sld (v := xs (5 * j + 4)) G hX hbl h11 hbA dL_law_136 (sc_in 4 hj hL (by decide)) (congrArg xs (sc_at 4 hj hL (by decide))) ?_
      refine zz_aload_n G dL_law_137 rfl ?_
      refine zz_callSWi (v := 2) (w' := (wx x m o)) (As := [.ref 0, .int (xs (5 * j + 1)), .int (xs (5 * j + 2)), .int (xs (5 * j + 3)), .int (xs (5 * j + 4)), .ref 10]) (rest := []) G (ch_post_IAE l hfl x m o n e (xs (5 * j + 1)) (xs (5 * j + 2)) (xs (5 * j + 3)) (xs (5 * j + 4)) hvc hn hec (hr m o)) kH_post dL_law_138 rfl rfl (Nat.le_of_ble_eq_true rfl) (fun h => by cases h) ⟨Nat.le_of_ble_eq_true rfl, Nat.le_of_ble_eq_true rfl⟩ ⟨hk1, hk2⟩ ?_
      refine zz_istore (lv' := [some (.ref 11), some (.ref 0), some (.ref 5), some (.ref 10), some (.int (nI (5 * j))), some (.int 2), none]) G dL_law_141 (Nat.le_of_ble_eq_true rfl) rfl ?_
      refine zz_aload_n G dL_law_143 rfl ?_
      refine zz_aload_n G dL_law_144 rfl ?_
      refine zz_iload G dL_law_145 rfl ?_
      refine zz_iconst (v := 1) G dL_law_147 (by decide) ?_
      refine zz_iadd G dL_law_148 ?_
      refine zz_sld (v := xs (5 * j + 1)) G hX hbl h11 hbA dL_law_149 (sc_in 1 hj hL (by decide)) (congrArg xs (sc_at 1 hj hL (by decide))) ?_
      refine zz_aload_n G dL_law_150 rfl ?_
      refine zz_iload G dL_law_151 rfl ?_
      refine zz_iconst (v := 2) G dL_law_153 (by decide) ?_
      refine zz_iadd G dL_law_154 ?_
      refine zz_sld (v := xs (5 * j + 2)) G hX hbl h11 hbA dL_law_155 (sc_in 2 hj hL (by decide)) (congrArg xs (sc_at 2 hj hL (by decide))) ?_
      refine zz_aload_n G dL_law_156 rfl ?_
      refine zz_iload G dL_law_157 rfl ?_
      refine zz_iconst (v := 3) G dL_law_159 (by decide) ?_
      refine zz_iadd G dL_law_160 ?_
      refine zz_sld (v := xs (5 * j + 3)) G hX hbl h11 hbA dL_law_161 (sc_in 3 hj hL (by decide)) (congrArg xs (sc_at 3 hj hL (by decide))) ?_
      refine zz_aload_n G dL_law_162 rfl ?_
      refine zz_iload G dL_law_163 rfl ?_
      refine zz_iconst (v := 4) G dL_law_165 (by decide) ?_
      refine zz_iadd G dL_law_166 ?_
      refine zz_sld (v := xs (5 * j + 4)) G hX hbl h11 hbA dL_law_167 (sc_in 4 hj hL (by decide)) (congrArg xs (sc_at 4 hj hL (by decide))) ?_
      refine zz_callVi (v := v) (w' := (wx x m1 o)) (As := [.int (xs (5 * j + 1)), .int (xs (5 * j + 2)), .int (xs (5 * j + 3)), .int (xs (5 * j + 4))]) (rest := []) G (by have q := cm_post l x m o (xs (5 * j + 1)) (xs (5 * j + 2)) (xs (5 * j + 3)) (xs (5 * j + 4)) n e hcl hn hen (by omega) hlv; rw [show qPost x m o n e (xs (5 * j + 1)) (xs (5 * j + 2)) (xs (5 * j + 3)) (xs (5 * j + 4)) = _ from hq x o] at q; exact q) kL_66 dL_law_168 rfl rfl rfl rfl (Nat.le_of_ble_eq_true rfl) (fun h => by cases h) ⟨Nat.le_of_ble_eq_true rfl, Nat.le_of_ble_eq_true rfl⟩ ⟨hk3, hk4⟩ ?_
      refine zz_istore (lv' := [some (.ref 11), some (.ref 0), some (.ref 5), some (.ref 10), some (.int (nI (5 * j))), some (.int 2), some (.int v)]) G dL_law_171 (Nat.le_of_ble_eq_true rfl) rfl ?_
      refine zz_aload_n G dL_law_173 rfl ?_
      refine zz_callVi (v := 2) (w' := (wx x m1 o)) (As := []) (rest := []) G (by have q := cm_thrown l x m1 o; rw [hc0] at q; exact q) kL_67 dL_law_174 rfl rfl rfl rfl (Nat.le_of_ble_eq_true rfl) (fun _ => rfl) ⟨Nat.le_of_ble_eq_true rfl, Nat.le_of_ble_eq_true rfl⟩ ⟨hk3, hk4⟩ ?_
      refine zz_iload G dL_law_177 rfl ?_
      refine zz_icmp_eq (tgt := 184) G dL_law_179 rfl (fun h179 => ?_) (fun h179 => ((absurd h179 (by decide) : False)).elim)
      refine zz_iload G dL_law_184 rfl ?_
      refine zz_if_ne (tgt := 201) G dL_law_186 rfl (fun h186 => ?_) (fun h186 => ((absurd h186 (by decide) : False)).elim)
      refine zz_goto (tgt := 925) G dL_law_201 rfl ?_
      refine zz_few (lv' := [some (.ref 11), some (.ref 0), some (.ref 5), some (.ref 10), some (.int (nI (5 * j))), none, none]) (by exact ⟨rfl, rfl, rfl, rfl, rfl, trivial⟩) ?_
      exact NX x m1 o hR1
    · obtain rfl := Option.some.inj (show some "java/lang/UnsupportedOperationException" = some X from hX1)
      have hc0 : fm_code m1 = 3 := hc0
      refine zz_aload_n G dL_law_112 rfl ?_
      refine zz_aload_n G dL_law_113 rfl ?_
      refine zz_iload G dL_law_114 rfl ?_
      refine zz_iconst (v := 1) G dL_law_116 (by decide) ?_
      refine zz_iadd G dL_law_117 ?_
      refine zz_sld (v := xs (5 * j + 1)) G hX hbl h11 hbA dL_law_118 (sc_in 1 hj hL (by decide)) (congrArg xs (sc_at 1 hj hL (by decide))) ?_
      refine zz_aload_n G dL_law_119 rfl ?_
      refine zz_iload G dL_law_120 rfl ?_
      refine zz_iconst (v := 2) G dL_law_122 (by decide) ?_
      refine zz_iadd G dL_law_123 ?_
      refine zz_sld (v := xs (5 * j + 2)) G hX hbl h11 hbA dL_law_124 (sc_in 2 hj hL (by decide)) (congrArg xs (sc_at 2 hj hL (by decide))) ?_
      refine zz_aload_n G dL_law_125 rfl ?_
      refine zz_iload G dL_law_126 rfl ?_
      refine zz_iconst (v := 3) G dL_law_128 (by decide) ?_
      refine zz_iadd G dL_law_129 ?_
      refine zz_sld (v := xs (5 * j + 3)) G hX hbl h11 hbA dL_law_130 (sc_in 3 hj hL (by decide)) (congrArg xs (sc_at 3 hj hL (by decide))) ?_
      refine zz_aload_n G dL_law_131 rfl ?_
      refine zz_iload G dL_law_132 rfl ?_
      refine zz_iconst (v := 4) G dL_law_134 (by decide) ?_
      refine zz_iadd G dL_law_135 ?_
      refine zz_sld (v := xs (5 * j + 4)) G hX hbl h11 hbA dL_law_136 (sc_in 4 hj hL (by decide)) (congrArg xs (sc_at 4 hj hL (by decide))) ?_
      refine zz_aload_n G dL_law_137 rfl ?_
      refine zz_callSWi (v := 3) (w' := (wx x m o)) (As := [.ref 0, .int (xs (5 * j + 1)), .int (xs (5 * j + 2)), .int (xs (5 * j + 3)), .int (xs (5 * j + 4)), .ref 10]) (rest := []) G (ch_post_UOE l hfl x m o n e (xs (5 * j + 1)) (xs (5 * j + 2)) (xs (5 * j + 3)) (xs (5 * j + 4)) hvc hn hec (hr m o)) kH_post dL_law_138 rfl rfl (Nat.le_of_ble_eq_true rfl) (fun h => by cases h) ⟨Nat.le_of_ble_eq_true rfl, Nat.le_of_ble_eq_true rfl⟩ ⟨hk1, hk2⟩ ?_
      refine zz_istore (lv' := [some (.ref 11), some (.ref 0), some (.ref 5), some (.ref 10), some (.int (nI (5 * j))), some (.int 3), none]) G dL_law_141 (Nat.le_of_ble_eq_true rfl) rfl ?_
      refine zz_aload_n G dL_law_143 rfl ?_
      refine zz_aload_n G dL_law_144 rfl ?_
      refine zz_iload G dL_law_145 rfl ?_
      refine zz_iconst (v := 1) G dL_law_147 (by decide) ?_
      refine zz_iadd G dL_law_148 ?_
      refine zz_sld (v := xs (5 * j + 1)) G hX hbl h11 hbA dL_law_149 (sc_in 1 hj hL (by decide)) (congrArg xs (sc_at 1 hj hL (by decide))) ?_
      refine zz_aload_n G dL_law_150 rfl ?_
      refine zz_iload G dL_law_151 rfl ?_
      refine zz_iconst (v := 2) G dL_law_153 (by decide) ?_
      refine zz_iadd G dL_law_154 ?_
      refine zz_sld (v := xs (5 * j + 2)) G hX hbl h11 hbA dL_law_155 (sc_in 2 hj hL (by decide)) (congrArg xs (sc_at 2 hj hL (by decide))) ?_
      refine zz_aload_n G dL_law_156 rfl ?_
      refine zz_iload G dL_law_157 rfl ?_
      refine zz_iconst (v := 3) G dL_law_159 (by decide) ?_
      refine zz_iadd G dL_law_160 ?_
      refine zz_sld (v := xs (5 * j + 3)) G hX hbl h11 hbA dL_law_161 (sc_in 3 hj hL (by decide)) (congrArg xs (sc_at 3 hj hL (by decide))) ?_
      refine zz_aload_n G dL_law_162 rfl ?_
      refine zz_iload G dL_law_163 rfl ?_
      refine zz_iconst (v := 4) G dL_law_165 (by decide) ?_
      refine zz_iadd G dL_law_166 ?_
      refine zz_sld (v := xs (5 * j + 4)) G hX hbl h11 hbA dL_law_167 (sc_in 4 hj hL (by decide)) (congrArg xs (sc_at 4 hj hL (by decide))) ?_
      refine zz_callVi (v := v) (w' := (wx x m1 o)) (As := [.int (xs (5 * j + 1)), .int (xs (5 * j + 2)), .int (xs (5 * j + 3)), .int (xs (5 * j + 4))]) (rest := []) G (by have q := cm_post l x m o (xs (5 * j + 1)) (xs (5 * j + 2)) (xs (5 * j + 3)) (xs (5 * j + 4)) n e hcl hn hen (by omega) hlv; rw [show qPost x m o n e (xs (5 * j + 1)) (xs (5 * j + 2)) (xs (5 * j + 3)) (xs (5 * j + 4)) = _ from hq x o] at q; exact q) kL_66 dL_law_168 rfl rfl rfl rfl (Nat.le_of_ble_eq_true rfl) (fun h => by cases h) ⟨Nat.le_of_ble_eq_true rfl, Nat.le_of_ble_eq_true rfl⟩ ⟨hk3, hk4⟩ ?_
      refine zz_istore (lv' := [some (.ref 11), some (.ref 0), some (.ref 5), some (.ref 10), some (.int (nI (5 * j))), some (.int 3), some (.int v)]) G dL_law_171 (Nat.le_of_ble_eq_true rfl) rfl ?_
      refine zz_aload_n G dL_law_173 rfl ?_
      refine zz_callVi (v := 3) (w' := (wx x m1 o)) (As := []) (rest := []) G (by have q := cm_thrown l x m1 o; rw [hc0] at q; exact q) kL_67 dL_law_174 rfl rfl rfl rfl (Nat.le_of_ble_eq_true rfl) (fun _ => rfl) ⟨Nat.le_of_ble_eq_true rfl, Nat.le_of_ble_eq_true rfl⟩ ⟨hk3, hk4⟩ ?_
      refine zz_iload G dL_law_177 rfl ?_
      refine zz_icmp_eq (tgt := 184) G dL_law_179 rfl (fun h179 => ?_) (fun h179 => ((absurd h179 (by decide) : False)).elim)
      refine zz_iload G dL_law_184 rfl ?_
      refine zz_if_ne (tgt := 201) G dL_law_186 rfl (fun h186 => ?_) (fun h186 => ((absurd h186 (by decide) : False)).elim)
      refine zz_goto (tgt := 925) G dL_law_201 rfl ?_
      refine zz_few (lv' := [some (.ref 11), some (.ref 0), some (.ref 5), some (.ref 10), some (.int (nI (5 * j))), none, none]) (by exact ⟨rfl, rfl, rfl, rfl, rfl, trivial⟩) ?_
      exact NX x m1 o hR1
    · obtain rfl := Option.some.inj (show some "java/lang/ArithmeticException" = some X from hX1)
      have hc0 : fm_code m1 = 4 := hc0
      refine zz_aload_n G dL_law_112 rfl ?_
      refine zz_aload_n G dL_law_113 rfl ?_
      refine zz_iload G dL_law_114 rfl ?_
      refine zz_iconst (v := 1) G dL_law_116 (by decide) ?_
      refine zz_iadd G dL_law_117 ?_
      refine zz_sld (v := xs (5 * j + 1)) G hX hbl h11 hbA dL_law_118 (sc_in 1 hj hL (by decide)) (congrArg xs (sc_at 1 hj hL (by decide))) ?_
      refine zz_aload_n G dL_law_119 rfl ?_
      refine zz_iload G dL_law_120 rfl ?_
      refine zz_iconst (v := 2) G dL_law_122 (by decide) ?_
      refine zz_iadd G dL_law_123 ?_
      refine zz_sld (v := xs (5 * j + 2)) G hX hbl h11 hbA dL_law_124 (sc_in 2 hj hL (by decide)) (congrArg xs (sc_at 2 hj hL (by decide))) ?_
      refine zz_aload_n G dL_law_125 rfl ?_
      refine zz_iload G dL_law_126 rfl ?_
      refine zz_iconst (v := 3) G dL_law_128 (by decide) ?_
      refine zz_iadd G dL_law_129 ?_
      refine zz_sld (v := xs (5 * j + 3)) G hX hbl h11 hbA dL_law_130 (sc_in 3 hj hL (by decide)) (congrArg xs (sc_at 3 hj hL (by decide))) ?_
      refine zz_aload_n G dL_law_131 rfl ?_
      refine zz_iload G dL_law_132 rfl ?_
      refine zz_iconst (v := 4) G dL_law_134 (by decide) ?_
      refine zz_iadd G dL_law_135 ?_
      refine zz_sld (v := xs (5 * j + 4)) G hX hbl h11 hbA dL_law_136 (sc_in 4 hj hL (by decide)) (congrArg xs (sc_at 4 hj hL (by decide))) ?_
      refine zz_aload_n G dL_law_137 rfl ?_
      refine zz_callSWi (v := 4) (w' := (wx x m o)) (As := [.ref 0, .int (xs (5 * j + 1)), .int (xs (5 * j + 2)), .int (xs (5 * j + 3)), .int (xs (5 * j + 4)), .ref 10]) (rest := []) G (ch_post_AE l hfl x m o n e (xs (5 * j + 1)) (xs (5 * j + 2)) (xs (5 * j + 3)) (xs (5 * j + 4)) hvc hn hec (hr m o)) kH_post dL_law_138 rfl rfl (Nat.le_of_ble_eq_true rfl) (fun h => by cases h) ⟨Nat.le_of_ble_eq_true rfl, Nat.le_of_ble_eq_true rfl⟩ ⟨hk1, hk2⟩ ?_
      refine zz_istore (lv' := [some (.ref 11), some (.ref 0), some (.ref 5), some (.ref 10), some (.int (nI (5 * j))), some (.int 4), none]) G dL_law_141 (Nat.le_of_ble_eq_true rfl) rfl ?_
      refine zz_aload_n G dL_law_143 rfl ?_
      refine zz_aload_n G dL_law_144 rfl ?_
      refine zz_iload G dL_law_145 rfl ?_
      refine zz_iconst (v := 1) G dL_law_147 (by decide) ?_
      refine zz_iadd G dL_law_148 ?_
      refine zz_sld (v := xs (5 * j + 1)) G hX hbl h11 hbA dL_law_149 (sc_in 1 hj hL (by decide)) (congrArg xs (sc_at 1 hj hL (by decide))) ?_
      refine zz_aload_n G dL_law_150 rfl ?_
      refine zz_iload G dL_law_151 rfl ?_
      refine zz_iconst (v := 2) G dL_law_153 (by decide) ?_
      refine zz_iadd G dL_law_154 ?_
      refine zz_sld (v := xs (5 * j + 2)) G hX hbl h11 hbA dL_law_155 (sc_in 2 hj hL (by decide)) (congrArg xs (sc_at 2 hj hL (by decide))) ?_
      refine zz_aload_n G dL_law_156 rfl ?_
      refine zz_iload G dL_law_157 rfl ?_
      refine zz_iconst (v := 3) G dL_law_159 (by decide) ?_
      refine zz_iadd G dL_law_160 ?_
      refine zz_sld (v := xs (5 * j + 3)) G hX hbl h11 hbA dL_law_161 (sc_in 3 hj hL (by decide)) (congrArg xs (sc_at 3 hj hL (by decide))) ?_
      refine zz_aload_n G dL_law_162 rfl ?_
      refine zz_iload G dL_law_163 rfl ?_
      refine zz_iconst (v := 4) G dL_law_165 (by decide) ?_
      refine zz_iadd G dL_law_166 ?_
      refine zz_sld (v := xs (5 * j + 4)) G hX hbl h11 hbA dL_law_167 (sc_in 4 hj hL (by decide)) (congrArg xs (sc_at 4 hj hL (by decide))) ?_
      refine zz_callVi (v := v) (w' := (wx x m1 o)) (As := [.int (xs (5 * j + 1)), .int (xs (5 * j + 2)), .int (xs (5 * j + 3)), .int (xs (5 * j + 4))]) (rest := []) G (by have q := cm_post l x m o (xs (5 * j + 1)) (xs (5 * j + 2)) (xs (5 * j + 3)) (xs (5 * j + 4)) n e hcl hn hen (by omega) hlv; rw [show qPost x m o n e (xs (5 * j + 1)) (xs (5 * j + 2)) (xs (5 * j + 3)) (xs (5 * j + 4)) = _ from hq x o] at q; exact q) kL_66 dL_law_168 rfl rfl rfl rfl (Nat.le_of_ble_eq_true rfl) (fun h => by cases h) ⟨Nat.le_of_ble_eq_true rfl, Nat.le_of_ble_eq_true rfl⟩ ⟨hk3, hk4⟩ ?_
      refine zz_istore (lv' := [some (.ref 11), some (.ref 0), some (.ref 5), some (.ref 10), some (.int (nI (5 * j))), some (.int 4), some (.int v)]) G dL_law_171 (Nat.le_of_ble_eq_true rfl) rfl ?_
      refine zz_aload_n G dL_law_173 rfl ?_
      refine zz_callVi (v := 4) (w' := (wx x m1 o)) (As := []) (rest := []) G (by have q := cm_thrown l x m1 o; rw [hc0] at q; exact q) kL_67 dL_law_174 rfl rfl rfl rfl (Nat.le_of_ble_eq_true rfl) (fun _ => rfl) ⟨Nat.le_of_ble_eq_true rfl, Nat.le_of_ble_eq_true rfl⟩ ⟨hk3, hk4⟩ ?_
      refine zz_iload G dL_law_177 rfl ?_
      refine zz_icmp_eq (tgt := 184) G dL_law_179 rfl (fun h179 => ?_) (fun h179 => ((absurd h179 (by decide) : False)).elim)
      refine zz_iload G dL_law_184 rfl ?_
      refine zz_if_ne (tgt := 201) G dL_law_186 rfl (fun h186 => ?_) (fun h186 => ((absurd h186 (by decide) : False)).elim)
      refine zz_goto (tgt := 925) G dL_law_201 rfl ?_
      refine zz_few (lv' := [some (.ref 11), some (.ref 0), some (.ref 5), some (.ref 10), some (.int (nI (5 * j))), none, none]) (by exact ⟨rfl, rfl, rfl, rfl, rfl, trivial⟩) ?_
      exact NX x m1 o hR1
    · exact absurd hX1 (by simp)
set_option maxRecDepth 100000 in
set_option maxHeartbeats 4000000 in
theorem lc_correct {p : Program} {l : Launch} {e0 : Env} {s : State} {mm : MethodId} {below : List Frame} {meth : Method} {c : Code} {b L : Nat} {xs : Nat → Int32} {D : va_G} {cI cJ : ClassId} {as : Nat → Nat} {Q : State → Prop} (hfl : l.flags = Jvm.pinnedFlags ++ [Jvm.noTraceFlag]) (G : zok p s mm #[Value.ref b] meth c bL_law 7 "AsOfLedgerLaw" D cI cJ as) (hL : L ≤ 2560) (hX : va_X b L xs s s.heap) (hbl : b < s.heap.size) (h11 : as 11 = b) (hbA : ¬ zA as s.heap.size b) {j : Nat} (hj : 5 * j + 5 ≤ L) (NX : ∀ (x : XS) (m : MS) (o : Nat → Int64), Rel x m → Z p l e0 room_1 s mm #[Value.ref b] below meth c 7 D cI cJ as false (11 + j + 1) (1175 + 6 * j + 6) Q 925 [some (.ref 11), some (.ref 0), some (.ref 5), some (.ref 10), some (.int (nI (5 * j))), none, none] [] (wx x m o)) (x : XS) (m : MS) (o : Nat → Int64) (hR : Rel x m) : Z p l e0 room_1 s mm #[Value.ref b] below meth c 7 D cI cJ as false (11 + j) (1175 + 6 * j) Q 204 [some (.ref 11), some (.ref 0), some (.ref 5), some (.ref 10), some (.int (nI (5 * j))), none, none] [] (wx x m o) := by
  obtain ⟨n, e, p1, l1, hN⟩ := hR
  have hM := mt_correct hN (xs (5 * j + 1)) (xs (5 * j + 2))
  have hlv := rel_live hN
  have hb := rel_b hN
  have hlst := rel_last hN
  have hans := rel_ans hN
  obtain ⟨⟨hn, he, hvc, hec, hcl, hen⟩, ⟨htm, hw, hk, hI⟩, ⟨hl64, hpl, hln, hsz, hch, hpc, hct, hat⟩, hlast, hcur⟩ := hN
  have hk1 : 11 + j + 1 ≤ room_1.cells := by show 11 + j + 1 ≤ 1040; omega
  have hk2 : 1175 + 6 * j + 6 ≤ room_1.slots := by show 1175 + 6 * j + 6 ≤ 9397; omega
  have hk3 : 11 + j + 1 + 1 ≤ room_1.cells := by show 11 + j + 1 + 1 ≤ 1040; omega
  have hk4 : 1175 + 6 * j + 6 + 6 ≤ room_1.slots := by show 1175 + 6 * j + 6 + 6 ≤ 9397; omega
  rcases hM with ⟨v, x1, m1, hr, hq, hc0, hR1⟩ | ⟨kx, X, v, m1, hX1, hr, hq, hc0, hR1⟩
  · refine zz_aload_n G dL_law_204 rfl ?_
    refine zz_aload_n G dL_law_205 rfl ?_
    refine zz_iload G dL_law_206 rfl ?_
    refine zz_iconst (v := 1) G dL_law_208 (by decide) ?_
    refine zz_iadd G dL_law_209 ?_
    refine zz_sld (v := xs (5 * j + 1)) G hX hbl h11 hbA dL_law_210 (sc_in 1 hj hL (by decide)) (congrArg xs (sc_at 1 hj hL (by decide))) ?_
    refine zz_aload_n G dL_law_211 rfl ?_
    refine zz_iload G dL_law_212 rfl ?_
    refine zz_iconst (v := 2) G dL_law_214 (by decide) ?_
    refine zz_iadd G dL_law_215 ?_
    refine zz_sld (v := xs (5 * j + 2)) G hX hbl h11 hbA dL_law_216 (sc_in 2 hj hL (by decide)) (congrArg xs (sc_at 2 hj hL (by decide))) ?_
    refine zz_aload_n G dL_law_217 rfl ?_
    refine zz_callSWi (v := 0) (w' := (wx x1 m ((vp_updL o 0 v.toInt64)))) (As := [.ref 0, .int (xs (5 * j + 1)), .int (xs (5 * j + 2)), .ref 10]) (rest := []) G (ch_correct_ok l hfl x m o n (xs (5 * j + 1)) (xs (5 * j + 2)) hvc hn v x1 (hr m o)) kH_correct dL_law_218 rfl rfl (Nat.le_of_ble_eq_true rfl) (fun h => by cases h) ⟨Nat.le_of_ble_eq_true rfl, Nat.le_of_ble_eq_true rfl⟩ ⟨hk1, hk2⟩ ?_
    refine zz_istore (lv' := [some (.ref 11), some (.ref 0), some (.ref 5), some (.ref 10), some (.int (nI (5 * j))), some (.int 0), none]) G dL_law_221 (Nat.le_of_ble_eq_true rfl) rfl ?_
    refine zz_aload_n G dL_law_223 rfl ?_
    refine zz_aload_n G dL_law_224 rfl ?_
    refine zz_iload G dL_law_225 rfl ?_
    refine zz_iconst (v := 1) G dL_law_227 (by decide) ?_
    refine zz_iadd G dL_law_228 ?_
    refine zz_sld (v := xs (5 * j + 1)) G hX hbl h11 hbA dL_law_229 (sc_in 1 hj hL (by decide)) (congrArg xs (sc_at 1 hj hL (by decide))) ?_
    refine zz_aload_n G dL_law_230 rfl ?_
    refine zz_iload G dL_law_231 rfl ?_
    refine zz_iconst (v := 2) G dL_law_233 (by decide) ?_
    refine zz_iadd G dL_law_234 ?_
    refine zz_sld (v := xs (5 * j + 2)) G hX hbl h11 hbA dL_law_235 (sc_in 2 hj hL (by decide)) (congrArg xs (sc_at 2 hj hL (by decide))) ?_
    refine zz_callVi (v := v) (w' := (wx x1 m1 ((vp_updL o 0 v.toInt64)))) (As := [.int (xs (5 * j + 1)), .int (xs (5 * j + 2))]) (rest := []) G (by have q := cm_correct l x1 m (vp_updL o 0 v.toInt64) (xs (5 * j + 1)) (xs (5 * j + 2)) n e hcl hn hen (by omega) hlv; rw [show qCorr x1 m (vp_updL o 0 v.toInt64) n e (xs (5 * j + 1)) (xs (5 * j + 2)) = _ from hq x1 (vp_updL o 0 v.toInt64)] at q; exact q) kL_73 dL_law_236 rfl rfl rfl rfl (Nat.le_of_ble_eq_true rfl) (fun h => by cases h) ⟨Nat.le_of_ble_eq_true rfl, Nat.le_of_ble_eq_true rfl⟩ ⟨hk3, hk4⟩ ?_
    refine zz_istore (lv' := [some (.ref 11), some (.ref 0), some (.ref 5), some (.ref 10), some (.int (nI (5 * j))), some (.int 0), some (.int v)]) G dL_law_239 (Nat.le_of_ble_eq_true rfl) rfl ?_
    refine zz_aload_n G dL_law_241 rfl ?_
    refine zz_callVi (v := 0) (w' := (wx x1 m1 ((vp_updL o 0 v.toInt64)))) (As := []) (rest := []) G (by have q := cm_thrown l x1 m1 (vp_updL o 0 v.toInt64); rw [hc0] at q; exact q) kL_67 dL_law_242 rfl rfl rfl rfl (Nat.le_of_ble_eq_true rfl) (fun _ => rfl) ⟨Nat.le_of_ble_eq_true rfl, Nat.le_of_ble_eq_true rfl⟩ ⟨hk3, hk4⟩ ?_
    refine zz_iload G dL_law_245 rfl ?_
    refine zz_icmp_eq (tgt := 252) G dL_law_247 rfl (fun h247 => ?_) (fun h247 => ((absurd h247 (by decide) : False)).elim)
    refine zz_iload G dL_law_252 rfl ?_
    refine zz_if_ne (tgt := 269) G dL_law_254 rfl (fun h254 => ((absurd h254 (by decide) : False)).elim) (fun h254 => ?_)
    refine zz_aload_n G dL_law_257 rfl ?_
    refine zz_iconst (v := 0) G dL_law_258 (by decide) ?_
    refine zz_lald (v := v.toInt64) G dL_law_259 rfl (by rw [← nI_0]; exact vp_in_nI (by omega) (by omega)) (if_pos rfl) ?_
    refine zz_iload G dL_law_260 rfl ?_
    refine zz_i2l G dL_law_262 ?_
    refine zz_lcmp G dL_law_263 ?_
    refine zz_if_eq (tgt := 269) G dL_law_264 rfl (fun h264 => ?_) (fun h264 => (h264 ((lg_cmp_eq _ _).mpr rfl)).elim)
    refine zz_goto (tgt := 925) G dL_law_269 rfl ?_
    refine zz_few (lv' := [some (.ref 11), some (.ref 0), some (.ref 5), some (.ref 10), some (.int (nI (5 * j))), none, none]) (by exact ⟨rfl, rfl, rfl, rfl, rfl, trivial⟩) ?_
    exact NX x1 m1 (vp_updL o 0 v.toInt64) hR1
  · rcases kx with _ | _ | _ | _ | _ | kx
    · obtain rfl := Option.some.inj (show some "java/lang/IllegalStateException" = some X from hX1)
      have hc0 : fm_code m1 = 1 := hc0
      refine zz_aload_n G dL_law_204 rfl ?_
      refine zz_aload_n G dL_law_205 rfl ?_
      refine zz_iload G dL_law_206 rfl ?_
      refine zz_iconst (v := 1) G dL_law_208 (by decide) ?_
      refine zz_iadd G dL_law_209 ?_
      refine zz_sld (v := xs (5 * j + 1)) G hX hbl h11 hbA dL_law_210 (sc_in 1 hj hL (by decide)) (congrArg xs (sc_at 1 hj hL (by decide))) ?_
      refine zz_aload_n G dL_law_211 rfl ?_
      refine zz_iload G dL_law_212 rfl ?_
      refine zz_iconst (v := 2) G dL_law_214 (by decide) ?_
      refine zz_iadd G dL_law_215 ?_
      refine zz_sld (v := xs (5 * j + 2)) G hX hbl h11 hbA dL_law_216 (sc_in 2 hj hL (by decide)) (congrArg xs (sc_at 2 hj hL (by decide))) ?_
      refine zz_aload_n G dL_law_217 rfl ?_
      refine zz_callSWi (v := 1) (w' := (wx x m o)) (As := [.ref 0, .int (xs (5 * j + 1)), .int (xs (5 * j + 2)), .ref 10]) (rest := []) G (ch_correct_ISE l hfl x m o n (xs (5 * j + 1)) (xs (5 * j + 2)) hvc hn (hr m o)) kH_correct dL_law_218 rfl rfl (Nat.le_of_ble_eq_true rfl) (fun h => by cases h) ⟨Nat.le_of_ble_eq_true rfl, Nat.le_of_ble_eq_true rfl⟩ ⟨hk1, hk2⟩ ?_
      refine zz_istore (lv' := [some (.ref 11), some (.ref 0), some (.ref 5), some (.ref 10), some (.int (nI (5 * j))), some (.int 1), none]) G dL_law_221 (Nat.le_of_ble_eq_true rfl) rfl ?_
      refine zz_aload_n G dL_law_223 rfl ?_
      refine zz_aload_n G dL_law_224 rfl ?_
      refine zz_iload G dL_law_225 rfl ?_
      refine zz_iconst (v := 1) G dL_law_227 (by decide) ?_
      refine zz_iadd G dL_law_228 ?_
      refine zz_sld (v := xs (5 * j + 1)) G hX hbl h11 hbA dL_law_229 (sc_in 1 hj hL (by decide)) (congrArg xs (sc_at 1 hj hL (by decide))) ?_
      refine zz_aload_n G dL_law_230 rfl ?_
      refine zz_iload G dL_law_231 rfl ?_
      refine zz_iconst (v := 2) G dL_law_233 (by decide) ?_
      refine zz_iadd G dL_law_234 ?_
      refine zz_sld (v := xs (5 * j + 2)) G hX hbl h11 hbA dL_law_235 (sc_in 2 hj hL (by decide)) (congrArg xs (sc_at 2 hj hL (by decide))) ?_
      refine zz_callVi (v := v) (w' := (wx x m1 o)) (As := [.int (xs (5 * j + 1)), .int (xs (5 * j + 2))]) (rest := []) G (by have q := cm_correct l x m o (xs (5 * j + 1)) (xs (5 * j + 2)) n e hcl hn hen (by omega) hlv; rw [show qCorr x m o n e (xs (5 * j + 1)) (xs (5 * j + 2)) = _ from hq x o] at q; exact q) kL_73 dL_law_236 rfl rfl rfl rfl (Nat.le_of_ble_eq_true rfl) (fun h => by cases h) ⟨Nat.le_of_ble_eq_true rfl, Nat.le_of_ble_eq_true rfl⟩ ⟨hk3, hk4⟩ ?_
      refine zz_istore (lv' := [some (.ref 11), some (.ref 0), some (.ref 5), some (.ref 10), some (.int (nI (5 * j))), some (.int 1), some (.int v)]) G dL_law_239 (Nat.le_of_ble_eq_true rfl) rfl ?_
      refine zz_aload_n G dL_law_241 rfl ?_
      refine zz_callVi (v := 1) (w' := (wx x m1 o)) (As := []) (rest := []) G (by have q := cm_thrown l x m1 o; rw [hc0] at q; exact q) kL_67 dL_law_242 rfl rfl rfl rfl (Nat.le_of_ble_eq_true rfl) (fun _ => rfl) ⟨Nat.le_of_ble_eq_true rfl, Nat.le_of_ble_eq_true rfl⟩ ⟨hk3, hk4⟩ ?_
      refine zz_iload G dL_law_245 rfl ?_
      refine zz_icmp_eq (tgt := 252) G dL_law_247 rfl (fun h247 => ?_) (fun h247 => ((absurd h247 (by decide) : False)).elim)
      refine zz_iload G dL_law_252 rfl ?_
      refine zz_if_ne (tgt := 269) G dL_law_254 rfl (fun h254 => ?_) (fun h254 => ((absurd h254 (by decide) : False)).elim)
      refine zz_goto (tgt := 925) G dL_law_269 rfl ?_
      refine zz_few (lv' := [some (.ref 11), some (.ref 0), some (.ref 5), some (.ref 10), some (.int (nI (5 * j))), none, none]) (by exact ⟨rfl, rfl, rfl, rfl, rfl, trivial⟩) ?_
      exact NX x m1 o hR1
    · obtain rfl := Option.some.inj (show some "java/util/NoSuchElementException" = some X from hX1)
      have hc0 : fm_code m1 = 2 := hc0
      refine zz_aload_n G dL_law_204 rfl ?_
      refine zz_aload_n G dL_law_205 rfl ?_
      refine zz_iload G dL_law_206 rfl ?_
      refine zz_iconst (v := 1) G dL_law_208 (by decide) ?_
      refine zz_iadd G dL_law_209 ?_
      refine zz_sld (v := xs (5 * j + 1)) G hX hbl h11 hbA dL_law_210 (sc_in 1 hj hL (by decide)) (congrArg xs (sc_at 1 hj hL (by decide))) ?_
      refine zz_aload_n G dL_law_211 rfl ?_
      refine zz_iload G dL_law_212 rfl ?_
      refine zz_iconst (v := 2) G dL_law_214 (by decide) ?_
      refine zz_iadd G dL_law_215 ?_
      refine zz_sld (v := xs (5 * j + 2)) G hX hbl h11 hbA dL_law_216 (sc_in 2 hj hL (by decide)) (congrArg xs (sc_at 2 hj hL (by decide))) ?_
      refine zz_aload_n G dL_law_217 rfl ?_
      refine zz_callSWi (v := 2) (w' := (wx x m o)) (As := [.ref 0, .int (xs (5 * j + 1)), .int (xs (5 * j + 2)), .ref 10]) (rest := []) G (ch_correct_NSE l hfl x m o n (xs (5 * j + 1)) (xs (5 * j + 2)) hvc hn (hr m o)) kH_correct dL_law_218 rfl rfl (Nat.le_of_ble_eq_true rfl) (fun h => by cases h) ⟨Nat.le_of_ble_eq_true rfl, Nat.le_of_ble_eq_true rfl⟩ ⟨hk1, hk2⟩ ?_
      refine zz_istore (lv' := [some (.ref 11), some (.ref 0), some (.ref 5), some (.ref 10), some (.int (nI (5 * j))), some (.int 2), none]) G dL_law_221 (Nat.le_of_ble_eq_true rfl) rfl ?_
      refine zz_aload_n G dL_law_223 rfl ?_
      refine zz_aload_n G dL_law_224 rfl ?_
      refine zz_iload G dL_law_225 rfl ?_
      refine zz_iconst (v := 1) G dL_law_227 (by decide) ?_
      refine zz_iadd G dL_law_228 ?_
      refine zz_sld (v := xs (5 * j + 1)) G hX hbl h11 hbA dL_law_229 (sc_in 1 hj hL (by decide)) (congrArg xs (sc_at 1 hj hL (by decide))) ?_
      refine zz_aload_n G dL_law_230 rfl ?_
      refine zz_iload G dL_law_231 rfl ?_
      refine zz_iconst (v := 2) G dL_law_233 (by decide) ?_
      refine zz_iadd G dL_law_234 ?_
      refine zz_sld (v := xs (5 * j + 2)) G hX hbl h11 hbA dL_law_235 (sc_in 2 hj hL (by decide)) (congrArg xs (sc_at 2 hj hL (by decide))) ?_
      refine zz_callVi (v := v) (w' := (wx x m1 o)) (As := [.int (xs (5 * j + 1)), .int (xs (5 * j + 2))]) (rest := []) G (by have q := cm_correct l x m o (xs (5 * j + 1)) (xs (5 * j + 2)) n e hcl hn hen (by omega) hlv; rw [show qCorr x m o n e (xs (5 * j + 1)) (xs (5 * j + 2)) = _ from hq x o] at q; exact q) kL_73 dL_law_236 rfl rfl rfl rfl (Nat.le_of_ble_eq_true rfl) (fun h => by cases h) ⟨Nat.le_of_ble_eq_true rfl, Nat.le_of_ble_eq_true rfl⟩ ⟨hk3, hk4⟩ ?_
      refine zz_istore (lv' := [some (.ref 11), some (.ref 0), some (.ref 5), some (.ref 10), some (.int (nI (5 * j))), some (.int 2), some (.int v)]) G dL_law_239 (Nat.le_of_ble_eq_true rfl) rfl ?_
      refine zz_aload_n G dL_law_241 rfl ?_
      refine zz_callVi (v := 2) (w' := (wx x m1 o)) (As := []) (rest := []) G (by have q := cm_thrown l x m1 o; rw [hc0] at q; exact q) kL_67 dL_law_242 rfl rfl rfl rfl (Nat.le_of_ble_eq_true rfl) (fun _ => rfl) ⟨Nat.le_of_ble_eq_true rfl, Nat.le_of_ble_eq_true rfl⟩ ⟨hk3, hk4⟩ ?_
      refine zz_iload G dL_law_245 rfl ?_
      refine zz_icmp_eq (tgt := 252) G dL_law_247 rfl (fun h247 => ?_) (fun h247 => ((absurd h247 (by decide) : False)).elim)
      refine zz_iload G dL_law_252 rfl ?_
      refine zz_if_ne (tgt := 269) G dL_law_254 rfl (fun h254 => ?_) (fun h254 => ((absurd h254 (by decide) : False)).elim)
      refine zz_goto (tgt := 925) G dL_law_269 rfl ?_
      refine zz_few (lv' := [some (.ref 11), some (.ref 0), some (.ref 5), some (.ref 10), some (.int (nI (5 * j))), none, none]) (by exact ⟨rfl, rfl, rfl, rfl, rfl, trivial⟩) ?_
      exact NX x m1 o hR1
    · obtain rfl := Option.some.inj (show some "java/lang/IllegalArgumentException" = some X from hX1)
      have hc0 : fm_code m1 = 3 := hc0
      refine zz_aload_n G dL_law_204 rfl ?_
      refine zz_aload_n G dL_law_205 rfl ?_
      refine zz_iload G dL_law_206 rfl ?_
      refine zz_iconst (v := 1) G dL_law_208 (by decide) ?_
      refine zz_iadd G dL_law_209 ?_
      refine zz_sld (v := xs (5 * j + 1)) G hX hbl h11 hbA dL_law_210 (sc_in 1 hj hL (by decide)) (congrArg xs (sc_at 1 hj hL (by decide))) ?_
      refine zz_aload_n G dL_law_211 rfl ?_
      refine zz_iload G dL_law_212 rfl ?_
      refine zz_iconst (v := 2) G dL_law_214 (by decide) ?_
      refine zz_iadd G dL_law_215 ?_
      refine zz_sld (v := xs (5 * j + 2)) G hX hbl h11 hbA dL_law_216 (sc_in 2 hj hL (by decide)) (congrArg xs (sc_at 2 hj hL (by decide))) ?_
      refine zz_aload_n G dL_law_217 rfl ?_
      refine zz_callSWi (v := 3) (w' := (wx x m o)) (As := [.ref 0, .int (xs (5 * j + 1)), .int (xs (5 * j + 2)), .ref 10]) (rest := []) G (ch_correct_IAE l hfl x m o n (xs (5 * j + 1)) (xs (5 * j + 2)) hvc hn (hr m o)) kH_correct dL_law_218 rfl rfl (Nat.le_of_ble_eq_true rfl) (fun h => by cases h) ⟨Nat.le_of_ble_eq_true rfl, Nat.le_of_ble_eq_true rfl⟩ ⟨hk1, hk2⟩ ?_
      refine zz_istore (lv' := [some (.ref 11), some (.ref 0), some (.ref 5), some (.ref 10), some (.int (nI (5 * j))), some (.int 3), none]) G dL_law_221 (Nat.le_of_ble_eq_true rfl) rfl ?_
      refine zz_aload_n G dL_law_223 rfl ?_
      refine zz_aload_n G dL_law_224 rfl ?_
      refine zz_iload G dL_law_225 rfl ?_
      refine zz_iconst (v := 1) G dL_law_227 (by decide) ?_
      refine zz_iadd G dL_law_228 ?_
      refine zz_sld (v := xs (5 * j + 1)) G hX hbl h11 hbA dL_law_229 (sc_in 1 hj hL (by decide)) (congrArg xs (sc_at 1 hj hL (by decide))) ?_
      refine zz_aload_n G dL_law_230 rfl ?_
      refine zz_iload G dL_law_231 rfl ?_
      refine zz_iconst (v := 2) G dL_law_233 (by decide) ?_
      refine zz_iadd G dL_law_234 ?_
      refine zz_sld (v := xs (5 * j + 2)) G hX hbl h11 hbA dL_law_235 (sc_in 2 hj hL (by decide)) (congrArg xs (sc_at 2 hj hL (by decide))) ?_
      refine zz_callVi (v := v) (w' := (wx x m1 o)) (As := [.int (xs (5 * j + 1)), .int (xs (5 * j + 2))]) (rest := []) G (by have q := cm_correct l x m o (xs (5 * j + 1)) (xs (5 * j + 2)) n e hcl hn hen (by omega) hlv; rw [show qCorr x m o n e (xs (5 * j + 1)) (xs (5 * j + 2)) = _ from hq x o] at q; exact q) kL_73 dL_law_236 rfl rfl rfl rfl (Nat.le_of_ble_eq_true rfl) (fun h => by cases h) ⟨Nat.le_of_ble_eq_true rfl, Nat.le_of_ble_eq_true rfl⟩ ⟨hk3, hk4⟩ ?_
      refine zz_istore (lv' := [some (.ref 11), some (.ref 0), some (.ref 5), some (.ref 10), some (.int (nI (5 * j))), some (.int 3), some (.int v)]) G dL_law_239 (Nat.le_of_ble_eq_true rfl) rfl ?_
      refine zz_aload_n G dL_law_241 rfl ?_
      refine zz_callVi (v := 3) (w' := (wx x m1 o)) (As := []) (rest := []) G (by have q := cm_thrown l x m1 o; rw [hc0] at q; exact q) kL_67 dL_law_242 rfl rfl rfl rfl (Nat.le_of_ble_eq_true rfl) (fun _ => rfl) ⟨Nat.le_of_ble_eq_true rfl, Nat.le_of_ble_eq_true rfl⟩ ⟨hk3, hk4⟩ ?_
      refine zz_iload G dL_law_245 rfl ?_
      refine zz_icmp_eq (tgt := 252) G dL_law_247 rfl (fun h247 => ?_) (fun h247 => ((absurd h247 (by decide) : False)).elim)
      refine zz_iload G dL_law_252 rfl ?_
      refine zz_if_ne (tgt := 269) G dL_law_254 rfl (fun h254 => ?_) (fun h254 => ((absurd h254 (by decide) : False)).elim)
      refine zz_goto (tgt := 925) G dL_law_269 rfl ?_
      refine zz_few (lv' := [some (.ref 11), some (.ref 0), some (.ref 5), some (.ref 10), some (.int (nI (5 * j))), none, none]) (by exact ⟨rfl, rfl, rfl, rfl, rfl, trivial⟩) ?_
      exact NX x m1 o hR1
    · obtain rfl := Option.some.inj (show some "java/lang/UnsupportedOperationException" = some X from hX1)
      have hc0 : fm_code m1 = 4 := hc0
      refine zz_aload_n G dL_law_204 rfl ?_
      refine zz_aload_n G dL_law_205 rfl ?_
      refine zz_iload G dL_law_206 rfl ?_
      refine zz_iconst (v := 1) G dL_law_208 (by decide) ?_
      refine zz_iadd G dL_law_209 ?_
      refine zz_sld (v := xs (5 * j + 1)) G hX hbl h11 hbA dL_law_210 (sc_in 1 hj hL (by decide)) (congrArg xs (sc_at 1 hj hL (by decide))) ?_
      refine zz_aload_n G dL_law_211 rfl ?_
      refine zz_iload G dL_law_212 rfl ?_
      refine zz_iconst (v := 2) G dL_law_214 (by decide) ?_
      refine zz_iadd G dL_law_215 ?_
      refine zz_sld (v := xs (5 * j + 2)) G hX hbl h11 hbA dL_law_216 (sc_in 2 hj hL (by decide)) (congrArg xs (sc_at 2 hj hL (by decide))) ?_
      refine zz_aload_n G dL_law_217 rfl ?_
      refine zz_callSWi (v := 4) (w' := (wx x m o)) (As := [.ref 0, .int (xs (5 * j + 1)), .int (xs (5 * j + 2)), .ref 10]) (rest := []) G (ch_correct_UOE l hfl x m o n (xs (5 * j + 1)) (xs (5 * j + 2)) hvc hn (hr m o)) kH_correct dL_law_218 rfl rfl (Nat.le_of_ble_eq_true rfl) (fun h => by cases h) ⟨Nat.le_of_ble_eq_true rfl, Nat.le_of_ble_eq_true rfl⟩ ⟨hk1, hk2⟩ ?_
      refine zz_istore (lv' := [some (.ref 11), some (.ref 0), some (.ref 5), some (.ref 10), some (.int (nI (5 * j))), some (.int 4), none]) G dL_law_221 (Nat.le_of_ble_eq_true rfl) rfl ?_
      refine zz_aload_n G dL_law_223 rfl ?_
      refine zz_aload_n G dL_law_224 rfl ?_
      refine zz_iload G dL_law_225 rfl ?_
      refine zz_iconst (v := 1) G dL_law_227 (by decide) ?_
      refine zz_iadd G dL_law_228 ?_
      refine zz_sld (v := xs (5 * j + 1)) G hX hbl h11 hbA dL_law_229 (sc_in 1 hj hL (by decide)) (congrArg xs (sc_at 1 hj hL (by decide))) ?_
      refine zz_aload_n G dL_law_230 rfl ?_
      refine zz_iload G dL_law_231 rfl ?_
      refine zz_iconst (v := 2) G dL_law_233 (by decide) ?_
      refine zz_iadd G dL_law_234 ?_
      refine zz_sld (v := xs (5 * j + 2)) G hX hbl h11 hbA dL_law_235 (sc_in 2 hj hL (by decide)) (congrArg xs (sc_at 2 hj hL (by decide))) ?_
      refine zz_callVi (v := v) (w' := (wx x m1 o)) (As := [.int (xs (5 * j + 1)), .int (xs (5 * j + 2))]) (rest := []) G (by have q := cm_correct l x m o (xs (5 * j + 1)) (xs (5 * j + 2)) n e hcl hn hen (by omega) hlv; rw [show qCorr x m o n e (xs (5 * j + 1)) (xs (5 * j + 2)) = _ from hq x o] at q; exact q) kL_73 dL_law_236 rfl rfl rfl rfl (Nat.le_of_ble_eq_true rfl) (fun h => by cases h) ⟨Nat.le_of_ble_eq_true rfl, Nat.le_of_ble_eq_true rfl⟩ ⟨hk3, hk4⟩ ?_
      refine zz_istore (lv' := [some (.ref 11), some (.ref 0), some (.ref 5), some (.ref 10), some (.int (nI (5 * j))), some (.int 4), some (.int v)]) G dL_law_239 (Nat.le_of_ble_eq_true rfl) rfl ?_
      refine zz_aload_n G dL_law_241 rfl ?_
      refine zz_callVi (v := 4) (w' := (wx x m1 o)) (As := []) (rest := []) G (by have q := cm_thrown l x m1 o; rw [hc0] at q; exact q) kL_67 dL_law_242 rfl rfl rfl rfl (Nat.le_of_ble_eq_true rfl) (fun _ => rfl) ⟨Nat.le_of_ble_eq_true rfl, Nat.le_of_ble_eq_true rfl⟩ ⟨hk3, hk4⟩ ?_
      refine zz_iload G dL_law_245 rfl ?_
      refine zz_icmp_eq (tgt := 252) G dL_law_247 rfl (fun h247 => ?_) (fun h247 => ((absurd h247 (by decide) : False)).elim)
      refine zz_iload G dL_law_252 rfl ?_
      refine zz_if_ne (tgt := 269) G dL_law_254 rfl (fun h254 => ?_) (fun h254 => ((absurd h254 (by decide) : False)).elim)
      refine zz_goto (tgt := 925) G dL_law_269 rfl ?_
      refine zz_few (lv' := [some (.ref 11), some (.ref 0), some (.ref 5), some (.ref 10), some (.int (nI (5 * j))), none, none]) (by exact ⟨rfl, rfl, rfl, rfl, rfl, trivial⟩) ?_
      exact NX x m1 o hR1
    · obtain rfl := Option.some.inj (show some "java/lang/ArithmeticException" = some X from hX1)
      have hc0 : fm_code m1 = 5 := hc0
      refine zz_aload_n G dL_law_204 rfl ?_
      refine zz_aload_n G dL_law_205 rfl ?_
      refine zz_iload G dL_law_206 rfl ?_
      refine zz_iconst (v := 1) G dL_law_208 (by decide) ?_
      refine zz_iadd G dL_law_209 ?_
      refine zz_sld (v := xs (5 * j + 1)) G hX hbl h11 hbA dL_law_210 (sc_in 1 hj hL (by decide)) (congrArg xs (sc_at 1 hj hL (by decide))) ?_
      refine zz_aload_n G dL_law_211 rfl ?_
      refine zz_iload G dL_law_212 rfl ?_
      refine zz_iconst (v := 2) G dL_law_214 (by decide) ?_
      refine zz_iadd G dL_law_215 ?_
      refine zz_sld (v := xs (5 * j + 2)) G hX hbl h11 hbA dL_law_216 (sc_in 2 hj hL (by decide)) (congrArg xs (sc_at 2 hj hL (by decide))) ?_
      refine zz_aload_n G dL_law_217 rfl ?_
      refine zz_callSWi (v := 5) (w' := (wx x m o)) (As := [.ref 0, .int (xs (5 * j + 1)), .int (xs (5 * j + 2)), .ref 10]) (rest := []) G (ch_correct_AE l hfl x m o n (xs (5 * j + 1)) (xs (5 * j + 2)) hvc hn (hr m o)) kH_correct dL_law_218 rfl rfl (Nat.le_of_ble_eq_true rfl) (fun h => by cases h) ⟨Nat.le_of_ble_eq_true rfl, Nat.le_of_ble_eq_true rfl⟩ ⟨hk1, hk2⟩ ?_
      refine zz_istore (lv' := [some (.ref 11), some (.ref 0), some (.ref 5), some (.ref 10), some (.int (nI (5 * j))), some (.int 5), none]) G dL_law_221 (Nat.le_of_ble_eq_true rfl) rfl ?_
      refine zz_aload_n G dL_law_223 rfl ?_
      refine zz_aload_n G dL_law_224 rfl ?_
      refine zz_iload G dL_law_225 rfl ?_
      refine zz_iconst (v := 1) G dL_law_227 (by decide) ?_
      refine zz_iadd G dL_law_228 ?_
      refine zz_sld (v := xs (5 * j + 1)) G hX hbl h11 hbA dL_law_229 (sc_in 1 hj hL (by decide)) (congrArg xs (sc_at 1 hj hL (by decide))) ?_
      refine zz_aload_n G dL_law_230 rfl ?_
      refine zz_iload G dL_law_231 rfl ?_
      refine zz_iconst (v := 2) G dL_law_233 (by decide) ?_
      refine zz_iadd G dL_law_234 ?_
      refine zz_sld (v := xs (5 * j + 2)) G hX hbl h11 hbA dL_law_235 (sc_in 2 hj hL (by decide)) (congrArg xs (sc_at 2 hj hL (by decide))) ?_
      refine zz_callVi (v := v) (w' := (wx x m1 o)) (As := [.int (xs (5 * j + 1)), .int (xs (5 * j + 2))]) (rest := []) G (by have q := cm_correct l x m o (xs (5 * j + 1)) (xs (5 * j + 2)) n e hcl hn hen (by omega) hlv; rw [show qCorr x m o n e (xs (5 * j + 1)) (xs (5 * j + 2)) = _ from hq x o] at q; exact q) kL_73 dL_law_236 rfl rfl rfl rfl (Nat.le_of_ble_eq_true rfl) (fun h => by cases h) ⟨Nat.le_of_ble_eq_true rfl, Nat.le_of_ble_eq_true rfl⟩ ⟨hk3, hk4⟩ ?_
      refine zz_istore (lv' := [some (.ref 11), some (.ref 0), some (.ref 5), some (.ref 10), some (.int (nI (5 * j))), some (.int 5), some (.int v)]) G dL_law_239 (Nat.le_of_ble_eq_true rfl) rfl ?_
      refine zz_aload_n G dL_law_241 rfl ?_
      refine zz_callVi (v := 5) (w' := (wx x m1 o)) (As := []) (rest := []) G (by have q := cm_thrown l x m1 o; rw [hc0] at q; exact q) kL_67 dL_law_242 rfl rfl rfl rfl (Nat.le_of_ble_eq_true rfl) (fun _ => rfl) ⟨Nat.le_of_ble_eq_true rfl, Nat.le_of_ble_eq_true rfl⟩ ⟨hk3, hk4⟩ ?_
      refine zz_iload G dL_law_245 rfl ?_
      refine zz_icmp_eq (tgt := 252) G dL_law_247 rfl (fun h247 => ?_) (fun h247 => ((absurd h247 (by decide) : False)).elim)
      refine zz_iload G dL_law_252 rfl ?_
      refine zz_if_ne (tgt := 269) G dL_law_254 rfl (fun h254 => ?_) (fun h254 => ((absurd h254 (by decide) : False)).elim)
      refine zz_goto (tgt := 925) G dL_law_269 rfl ?_
      refine zz_few (lv' := [some (.ref 11), some (.ref 0), some (.ref 5), some (.ref 10), some (.int (nI (5 * j))), none, none]) (by exact ⟨rfl, rfl, rfl, rfl, rfl, trivial⟩) ?_
      exact NX x m1 o hR1
    · exact absurd hX1 (by simp)
set_option maxRecDepth 100000 in
set_option maxHeartbeats 4000000 in
theorem lc_annul {p : Program} {l : Launch} {e0 : Env} {s : State} {mm : MethodId} {below : List Frame} {meth : Method} {c : Code} {b L : Nat} {xs : Nat → Int32} {D : va_G} {cI cJ : ClassId} {as : Nat → Nat} {Q : State → Prop} (hfl : l.flags = Jvm.pinnedFlags ++ [Jvm.noTraceFlag]) (G : zok p s mm #[Value.ref b] meth c bL_law 7 "AsOfLedgerLaw" D cI cJ as) (hL : L ≤ 2560) (hX : va_X b L xs s s.heap) (hbl : b < s.heap.size) (h11 : as 11 = b) (hbA : ¬ zA as s.heap.size b) {j : Nat} (hj : 5 * j + 5 ≤ L) (NX : ∀ (x : XS) (m : MS) (o : Nat → Int64), Rel x m → Z p l e0 room_1 s mm #[Value.ref b] below meth c 7 D cI cJ as false (11 + j + 1) (1175 + 6 * j + 6) Q 925 [some (.ref 11), some (.ref 0), some (.ref 5), some (.ref 10), some (.int (nI (5 * j))), none, none] [] (wx x m o)) (x : XS) (m : MS) (o : Nat → Int64) (hR : Rel x m) : Z p l e0 room_1 s mm #[Value.ref b] below meth c 7 D cI cJ as false (11 + j) (1175 + 6 * j) Q 272 [some (.ref 11), some (.ref 0), some (.ref 5), some (.ref 10), some (.int (nI (5 * j))), none, none] [] (wx x m o) := by
  obtain ⟨n, e, p1, l1, hN⟩ := hR
  have hM := mt_annul hN (xs (5 * j + 1))
  have hlv := rel_live hN
  have hb := rel_b hN
  have hlst := rel_last hN
  have hans := rel_ans hN
  obtain ⟨⟨hn, he, hvc, hec, hcl, hen⟩, ⟨htm, hw, hk, hI⟩, ⟨hl64, hpl, hln, hsz, hch, hpc, hct, hat⟩, hlast, hcur⟩ := hN
  have hk1 : 11 + j + 1 ≤ room_1.cells := by show 11 + j + 1 ≤ 1040; omega
  have hk2 : 1175 + 6 * j + 6 ≤ room_1.slots := by show 1175 + 6 * j + 6 ≤ 9397; omega
  have hk3 : 11 + j + 1 + 1 ≤ room_1.cells := by show 11 + j + 1 + 1 ≤ 1040; omega
  have hk4 : 1175 + 6 * j + 6 + 6 ≤ room_1.slots := by show 1175 + 6 * j + 6 + 6 ≤ 9397; omega
  rcases hM with ⟨v, x1, m1, hr, hq, hc0, hR1⟩ | ⟨kx, X, v, m1, hX1, hr, hq, hc0, hR1⟩
  · refine zz_aload_n G dL_law_272 rfl ?_
    refine zz_aload_n G dL_law_273 rfl ?_
    refine zz_iload G dL_law_274 rfl ?_
    refine zz_iconst (v := 1) G dL_law_276 (by decide) ?_
    refine zz_iadd G dL_law_277 ?_
    refine zz_sld (v := xs (5 * j + 1)) G hX hbl h11 hbA dL_law_278 (sc_in 1 hj hL (by decide)) (congrArg xs (sc_at 1 hj hL (by decide))) ?_
    refine zz_aload_n G dL_law_279 rfl ?_
    refine zz_callSWi (v := 0) (w' := (wx x1 m ((vp_updL o 0 v.toInt64)))) (As := [.ref 0, .int (xs (5 * j + 1)), .ref 10]) (rest := []) G (ch_annul_ok l hfl x m o n (xs (5 * j + 1)) hvc hn v x1 (hr m o)) kH_annul dL_law_280 rfl rfl (Nat.le_of_ble_eq_true rfl) (fun h => by cases h) ⟨Nat.le_of_ble_eq_true rfl, Nat.le_of_ble_eq_true rfl⟩ ⟨hk1, hk2⟩ ?_
    refine zz_istore (lv' := [some (.ref 11), some (.ref 0), some (.ref 5), some (.ref 10), some (.int (nI (5 * j))), some (.int 0), none]) G dL_law_283 (Nat.le_of_ble_eq_true rfl) rfl ?_
    refine zz_aload_n G dL_law_285 rfl ?_
    refine zz_aload_n G dL_law_286 rfl ?_
    refine zz_iload G dL_law_287 rfl ?_
    refine zz_iconst (v := 1) G dL_law_289 (by decide) ?_
    refine zz_iadd G dL_law_290 ?_
    refine zz_sld (v := xs (5 * j + 1)) G hX hbl h11 hbA dL_law_291 (sc_in 1 hj hL (by decide)) (congrArg xs (sc_at 1 hj hL (by decide))) ?_
    refine zz_callVi (v := v) (w' := (wx x1 m1 ((vp_updL o 0 v.toInt64)))) (As := [.int (xs (5 * j + 1))]) (rest := []) G (by have q := cm_annul l x1 m (vp_updL o 0 v.toInt64) (xs (5 * j + 1)) n e hcl hn hen (by omega); rw [show qAnn x1 m (vp_updL o 0 v.toInt64) n e (xs (5 * j + 1)) = _ from hq x1 (vp_updL o 0 v.toInt64)] at q; exact q) kL_77 dL_law_292 rfl rfl rfl rfl (Nat.le_of_ble_eq_true rfl) (fun h => by cases h) ⟨Nat.le_of_ble_eq_true rfl, Nat.le_of_ble_eq_true rfl⟩ ⟨hk3, hk4⟩ ?_
    refine zz_istore (lv' := [some (.ref 11), some (.ref 0), some (.ref 5), some (.ref 10), some (.int (nI (5 * j))), some (.int 0), some (.int v)]) G dL_law_295 (Nat.le_of_ble_eq_true rfl) rfl ?_
    refine zz_aload_n G dL_law_297 rfl ?_
    refine zz_callVi (v := 0) (w' := (wx x1 m1 ((vp_updL o 0 v.toInt64)))) (As := []) (rest := []) G (by have q := cm_thrown l x1 m1 (vp_updL o 0 v.toInt64); rw [hc0] at q; exact q) kL_67 dL_law_298 rfl rfl rfl rfl (Nat.le_of_ble_eq_true rfl) (fun _ => rfl) ⟨Nat.le_of_ble_eq_true rfl, Nat.le_of_ble_eq_true rfl⟩ ⟨hk3, hk4⟩ ?_
    refine zz_iload G dL_law_301 rfl ?_
    refine zz_icmp_eq (tgt := 308) G dL_law_303 rfl (fun h303 => ?_) (fun h303 => ((absurd h303 (by decide) : False)).elim)
    refine zz_iload G dL_law_308 rfl ?_
    refine zz_if_ne (tgt := 325) G dL_law_310 rfl (fun h310 => ((absurd h310 (by decide) : False)).elim) (fun h310 => ?_)
    refine zz_aload_n G dL_law_313 rfl ?_
    refine zz_iconst (v := 0) G dL_law_314 (by decide) ?_
    refine zz_lald (v := v.toInt64) G dL_law_315 rfl (by rw [← nI_0]; exact vp_in_nI (by omega) (by omega)) (if_pos rfl) ?_
    refine zz_iload G dL_law_316 rfl ?_
    refine zz_i2l G dL_law_318 ?_
    refine zz_lcmp G dL_law_319 ?_
    refine zz_if_eq (tgt := 325) G dL_law_320 rfl (fun h320 => ?_) (fun h320 => (h320 ((lg_cmp_eq _ _).mpr rfl)).elim)
    refine zz_goto (tgt := 925) G dL_law_325 rfl ?_
    refine zz_few (lv' := [some (.ref 11), some (.ref 0), some (.ref 5), some (.ref 10), some (.int (nI (5 * j))), none, none]) (by exact ⟨rfl, rfl, rfl, rfl, rfl, trivial⟩) ?_
    exact NX x1 m1 (vp_updL o 0 v.toInt64) hR1
  · rcases kx with _ | _ | _ | kx
    · obtain rfl := Option.some.inj (show some "java/lang/IllegalStateException" = some X from hX1)
      have hc0 : fm_code m1 = 1 := hc0
      refine zz_aload_n G dL_law_272 rfl ?_
      refine zz_aload_n G dL_law_273 rfl ?_
      refine zz_iload G dL_law_274 rfl ?_
      refine zz_iconst (v := 1) G dL_law_276 (by decide) ?_
      refine zz_iadd G dL_law_277 ?_
      refine zz_sld (v := xs (5 * j + 1)) G hX hbl h11 hbA dL_law_278 (sc_in 1 hj hL (by decide)) (congrArg xs (sc_at 1 hj hL (by decide))) ?_
      refine zz_aload_n G dL_law_279 rfl ?_
      refine zz_callSWi (v := 1) (w' := (wx x m o)) (As := [.ref 0, .int (xs (5 * j + 1)), .ref 10]) (rest := []) G (ch_annul_ISE l hfl x m o n (xs (5 * j + 1)) hvc hn (hr m o)) kH_annul dL_law_280 rfl rfl (Nat.le_of_ble_eq_true rfl) (fun h => by cases h) ⟨Nat.le_of_ble_eq_true rfl, Nat.le_of_ble_eq_true rfl⟩ ⟨hk1, hk2⟩ ?_
      refine zz_istore (lv' := [some (.ref 11), some (.ref 0), some (.ref 5), some (.ref 10), some (.int (nI (5 * j))), some (.int 1), none]) G dL_law_283 (Nat.le_of_ble_eq_true rfl) rfl ?_
      refine zz_aload_n G dL_law_285 rfl ?_
      refine zz_aload_n G dL_law_286 rfl ?_
      refine zz_iload G dL_law_287 rfl ?_
      refine zz_iconst (v := 1) G dL_law_289 (by decide) ?_
      refine zz_iadd G dL_law_290 ?_
      refine zz_sld (v := xs (5 * j + 1)) G hX hbl h11 hbA dL_law_291 (sc_in 1 hj hL (by decide)) (congrArg xs (sc_at 1 hj hL (by decide))) ?_
      refine zz_callVi (v := v) (w' := (wx x m1 o)) (As := [.int (xs (5 * j + 1))]) (rest := []) G (by have q := cm_annul l x m o (xs (5 * j + 1)) n e hcl hn hen (by omega); rw [show qAnn x m o n e (xs (5 * j + 1)) = _ from hq x o] at q; exact q) kL_77 dL_law_292 rfl rfl rfl rfl (Nat.le_of_ble_eq_true rfl) (fun h => by cases h) ⟨Nat.le_of_ble_eq_true rfl, Nat.le_of_ble_eq_true rfl⟩ ⟨hk3, hk4⟩ ?_
      refine zz_istore (lv' := [some (.ref 11), some (.ref 0), some (.ref 5), some (.ref 10), some (.int (nI (5 * j))), some (.int 1), some (.int v)]) G dL_law_295 (Nat.le_of_ble_eq_true rfl) rfl ?_
      refine zz_aload_n G dL_law_297 rfl ?_
      refine zz_callVi (v := 1) (w' := (wx x m1 o)) (As := []) (rest := []) G (by have q := cm_thrown l x m1 o; rw [hc0] at q; exact q) kL_67 dL_law_298 rfl rfl rfl rfl (Nat.le_of_ble_eq_true rfl) (fun _ => rfl) ⟨Nat.le_of_ble_eq_true rfl, Nat.le_of_ble_eq_true rfl⟩ ⟨hk3, hk4⟩ ?_
      refine zz_iload G dL_law_301 rfl ?_
      refine zz_icmp_eq (tgt := 308) G dL_law_303 rfl (fun h303 => ?_) (fun h303 => ((absurd h303 (by decide) : False)).elim)
      refine zz_iload G dL_law_308 rfl ?_
      refine zz_if_ne (tgt := 325) G dL_law_310 rfl (fun h310 => ?_) (fun h310 => ((absurd h310 (by decide) : False)).elim)
      refine zz_goto (tgt := 925) G dL_law_325 rfl ?_
      refine zz_few (lv' := [some (.ref 11), some (.ref 0), some (.ref 5), some (.ref 10), some (.int (nI (5 * j))), none, none]) (by exact ⟨rfl, rfl, rfl, rfl, rfl, trivial⟩) ?_
      exact NX x m1 o hR1
    · obtain rfl := Option.some.inj (show some "java/util/NoSuchElementException" = some X from hX1)
      have hc0 : fm_code m1 = 2 := hc0
      refine zz_aload_n G dL_law_272 rfl ?_
      refine zz_aload_n G dL_law_273 rfl ?_
      refine zz_iload G dL_law_274 rfl ?_
      refine zz_iconst (v := 1) G dL_law_276 (by decide) ?_
      refine zz_iadd G dL_law_277 ?_
      refine zz_sld (v := xs (5 * j + 1)) G hX hbl h11 hbA dL_law_278 (sc_in 1 hj hL (by decide)) (congrArg xs (sc_at 1 hj hL (by decide))) ?_
      refine zz_aload_n G dL_law_279 rfl ?_
      refine zz_callSWi (v := 2) (w' := (wx x m o)) (As := [.ref 0, .int (xs (5 * j + 1)), .ref 10]) (rest := []) G (ch_annul_NSE l hfl x m o n (xs (5 * j + 1)) hvc hn (hr m o)) kH_annul dL_law_280 rfl rfl (Nat.le_of_ble_eq_true rfl) (fun h => by cases h) ⟨Nat.le_of_ble_eq_true rfl, Nat.le_of_ble_eq_true rfl⟩ ⟨hk1, hk2⟩ ?_
      refine zz_istore (lv' := [some (.ref 11), some (.ref 0), some (.ref 5), some (.ref 10), some (.int (nI (5 * j))), some (.int 2), none]) G dL_law_283 (Nat.le_of_ble_eq_true rfl) rfl ?_
      refine zz_aload_n G dL_law_285 rfl ?_
      refine zz_aload_n G dL_law_286 rfl ?_
      refine zz_iload G dL_law_287 rfl ?_
      refine zz_iconst (v := 1) G dL_law_289 (by decide) ?_
      refine zz_iadd G dL_law_290 ?_
      refine zz_sld (v := xs (5 * j + 1)) G hX hbl h11 hbA dL_law_291 (sc_in 1 hj hL (by decide)) (congrArg xs (sc_at 1 hj hL (by decide))) ?_
      refine zz_callVi (v := v) (w' := (wx x m1 o)) (As := [.int (xs (5 * j + 1))]) (rest := []) G (by have q := cm_annul l x m o (xs (5 * j + 1)) n e hcl hn hen (by omega); rw [show qAnn x m o n e (xs (5 * j + 1)) = _ from hq x o] at q; exact q) kL_77 dL_law_292 rfl rfl rfl rfl (Nat.le_of_ble_eq_true rfl) (fun h => by cases h) ⟨Nat.le_of_ble_eq_true rfl, Nat.le_of_ble_eq_true rfl⟩ ⟨hk3, hk4⟩ ?_
      refine zz_istore (lv' := [some (.ref 11), some (.ref 0), some (.ref 5), some (.ref 10), some (.int (nI (5 * j))), some (.int 2), some (.int v)]) G dL_law_295 (Nat.le_of_ble_eq_true rfl) rfl ?_
      refine zz_aload_n G dL_law_297 rfl ?_
      refine zz_callVi (v := 2) (w' := (wx x m1 o)) (As := []) (rest := []) G (by have q := cm_thrown l x m1 o; rw [hc0] at q; exact q) kL_67 dL_law_298 rfl rfl rfl rfl (Nat.le_of_ble_eq_true rfl) (fun _ => rfl) ⟨Nat.le_of_ble_eq_true rfl, Nat.le_of_ble_eq_true rfl⟩ ⟨hk3, hk4⟩ ?_
      refine zz_iload G dL_law_301 rfl ?_
      refine zz_icmp_eq (tgt := 308) G dL_law_303 rfl (fun h303 => ?_) (fun h303 => ((absurd h303 (by decide) : False)).elim)
      refine zz_iload G dL_law_308 rfl ?_
      refine zz_if_ne (tgt := 325) G dL_law_310 rfl (fun h310 => ?_) (fun h310 => ((absurd h310 (by decide) : False)).elim)
      refine zz_goto (tgt := 925) G dL_law_325 rfl ?_
      refine zz_few (lv' := [some (.ref 11), some (.ref 0), some (.ref 5), some (.ref 10), some (.int (nI (5 * j))), none, none]) (by exact ⟨rfl, rfl, rfl, rfl, rfl, trivial⟩) ?_
      exact NX x m1 o hR1
    · obtain rfl := Option.some.inj (show some "java/lang/UnsupportedOperationException" = some X from hX1)
      have hc0 : fm_code m1 = 3 := hc0
      refine zz_aload_n G dL_law_272 rfl ?_
      refine zz_aload_n G dL_law_273 rfl ?_
      refine zz_iload G dL_law_274 rfl ?_
      refine zz_iconst (v := 1) G dL_law_276 (by decide) ?_
      refine zz_iadd G dL_law_277 ?_
      refine zz_sld (v := xs (5 * j + 1)) G hX hbl h11 hbA dL_law_278 (sc_in 1 hj hL (by decide)) (congrArg xs (sc_at 1 hj hL (by decide))) ?_
      refine zz_aload_n G dL_law_279 rfl ?_
      refine zz_callSWi (v := 3) (w' := (wx x m o)) (As := [.ref 0, .int (xs (5 * j + 1)), .ref 10]) (rest := []) G (ch_annul_UOE l hfl x m o n (xs (5 * j + 1)) hvc hn (hr m o)) kH_annul dL_law_280 rfl rfl (Nat.le_of_ble_eq_true rfl) (fun h => by cases h) ⟨Nat.le_of_ble_eq_true rfl, Nat.le_of_ble_eq_true rfl⟩ ⟨hk1, hk2⟩ ?_
      refine zz_istore (lv' := [some (.ref 11), some (.ref 0), some (.ref 5), some (.ref 10), some (.int (nI (5 * j))), some (.int 3), none]) G dL_law_283 (Nat.le_of_ble_eq_true rfl) rfl ?_
      refine zz_aload_n G dL_law_285 rfl ?_
      refine zz_aload_n G dL_law_286 rfl ?_
      refine zz_iload G dL_law_287 rfl ?_
      refine zz_iconst (v := 1) G dL_law_289 (by decide) ?_
      refine zz_iadd G dL_law_290 ?_
      refine zz_sld (v := xs (5 * j + 1)) G hX hbl h11 hbA dL_law_291 (sc_in 1 hj hL (by decide)) (congrArg xs (sc_at 1 hj hL (by decide))) ?_
      refine zz_callVi (v := v) (w' := (wx x m1 o)) (As := [.int (xs (5 * j + 1))]) (rest := []) G (by have q := cm_annul l x m o (xs (5 * j + 1)) n e hcl hn hen (by omega); rw [show qAnn x m o n e (xs (5 * j + 1)) = _ from hq x o] at q; exact q) kL_77 dL_law_292 rfl rfl rfl rfl (Nat.le_of_ble_eq_true rfl) (fun h => by cases h) ⟨Nat.le_of_ble_eq_true rfl, Nat.le_of_ble_eq_true rfl⟩ ⟨hk3, hk4⟩ ?_
      refine zz_istore (lv' := [some (.ref 11), some (.ref 0), some (.ref 5), some (.ref 10), some (.int (nI (5 * j))), some (.int 3), some (.int v)]) G dL_law_295 (Nat.le_of_ble_eq_true rfl) rfl ?_
      refine zz_aload_n G dL_law_297 rfl ?_
      refine zz_callVi (v := 3) (w' := (wx x m1 o)) (As := []) (rest := []) G (by have q := cm_thrown l x m1 o; rw [hc0] at q; exact q) kL_67 dL_law_298 rfl rfl rfl rfl (Nat.le_of_ble_eq_true rfl) (fun _ => rfl) ⟨Nat.le_of_ble_eq_true rfl, Nat.le_of_ble_eq_true rfl⟩ ⟨hk3, hk4⟩ ?_
      refine zz_iload G dL_law_301 rfl ?_
      refine zz_icmp_eq (tgt := 308) G dL_law_303 rfl (fun h303 => ?_) (fun h303 => ((absurd h303 (by decide) : False)).elim)
      refine zz_iload G dL_law_308 rfl ?_
      refine zz_if_ne (tgt := 325) G dL_law_310 rfl (fun h310 => ?_) (fun h310 => ((absurd h310 (by decide) : False)).elim)
      refine zz_goto (tgt := 925) G dL_law_325 rfl ?_
      refine zz_few (lv' := [some (.ref 11), some (.ref 0), some (.ref 5), some (.ref 10), some (.int (nI (5 * j))), none, none]) (by exact ⟨rfl, rfl, rfl, rfl, rfl, trivial⟩) ?_
      exact NX x m1 o hR1
    · exact absurd hX1 (by simp)
set_option maxRecDepth 100000 in
set_option maxHeartbeats 4000000 in
theorem lc_balance {p : Program} {l : Launch} {e0 : Env} {s : State} {mm : MethodId} {below : List Frame} {meth : Method} {c : Code} {b L : Nat} {xs : Nat → Int32} {D : va_G} {cI cJ : ClassId} {as : Nat → Nat} {Q : State → Prop} (hfl : l.flags = Jvm.pinnedFlags ++ [Jvm.noTraceFlag]) (G : zok p s mm #[Value.ref b] meth c bL_law 7 "AsOfLedgerLaw" D cI cJ as) (hL : L ≤ 2560) (hX : va_X b L xs s s.heap) (hbl : b < s.heap.size) (h11 : as 11 = b) (hbA : ¬ zA as s.heap.size b) {j : Nat} (hj : 5 * j + 5 ≤ L) (NX : ∀ (x : XS) (m : MS) (o : Nat → Int64), Rel x m → Z p l e0 room_1 s mm #[Value.ref b] below meth c 7 D cI cJ as false (11 + j + 1) (1175 + 6 * j + 6) Q 925 [some (.ref 11), some (.ref 0), some (.ref 5), some (.ref 10), some (.int (nI (5 * j))), none, none] [] (wx x m o)) (x : XS) (m : MS) (o : Nat → Int64) (hR : Rel x m) : Z p l e0 room_1 s mm #[Value.ref b] below meth c 7 D cI cJ as false (11 + j) (1175 + 6 * j) Q 328 [some (.ref 11), some (.ref 0), some (.ref 5), some (.ref 10), some (.int (nI (5 * j))), none, none] [] (wx x m o) := by
  obtain ⟨n, e, p1, l1, hN⟩ := hR
  have hM := mt_balance hN (xs (5 * j + 1)) (xs (5 * j + 2)) (xs (5 * j + 3))
  have hlv := rel_live hN
  have hb := rel_b hN
  have hlst := rel_last hN
  have hans := rel_ans hN
  obtain ⟨⟨hn, he, hvc, hec, hcl, hen⟩, ⟨htm, hw, hk, hI⟩, ⟨hl64, hpl, hln, hsz, hch, hpc, hct, hat⟩, hlast, hcur⟩ := hN
  have hk1 : 11 + j + 1 ≤ room_1.cells := by show 11 + j + 1 ≤ 1040; omega
  have hk2 : 1175 + 6 * j + 6 ≤ room_1.slots := by show 1175 + 6 * j + 6 ≤ 9397; omega
  have hk3 : 11 + j + 1 + 1 ≤ room_1.cells := by show 11 + j + 1 + 1 ≤ 1040; omega
  have hk4 : 1175 + 6 * j + 6 + 6 ≤ room_1.slots := by show 1175 + 6 * j + 6 + 6 ≤ 9397; omega
  rcases hM with ⟨v, x1, m1, hr, hq, hc0, hR1⟩ | ⟨kx, X, v, m1, hX1, hr, hq, hc0, hR1⟩
  · refine zz_aload_n G dL_law_328 rfl ?_
    refine zz_aload_n G dL_law_329 rfl ?_
    refine zz_iload G dL_law_330 rfl ?_
    refine zz_iconst (v := 1) G dL_law_332 (by decide) ?_
    refine zz_iadd G dL_law_333 ?_
    refine zz_sld (v := xs (5 * j + 1)) G hX hbl h11 hbA dL_law_334 (sc_in 1 hj hL (by decide)) (congrArg xs (sc_at 1 hj hL (by decide))) ?_
    refine zz_aload_n G dL_law_335 rfl ?_
    refine zz_iload G dL_law_336 rfl ?_
    refine zz_iconst (v := 2) G dL_law_338 (by decide) ?_
    refine zz_iadd G dL_law_339 ?_
    refine zz_sld (v := xs (5 * j + 2)) G hX hbl h11 hbA dL_law_340 (sc_in 2 hj hL (by decide)) (congrArg xs (sc_at 2 hj hL (by decide))) ?_
    refine zz_aload_n G dL_law_341 rfl ?_
    refine zz_iload G dL_law_342 rfl ?_
    refine zz_iconst (v := 3) G dL_law_344 (by decide) ?_
    refine zz_iadd G dL_law_345 ?_
    refine zz_sld (v := xs (5 * j + 3)) G hX hbl h11 hbA dL_law_346 (sc_in 3 hj hL (by decide)) (congrArg xs (sc_at 3 hj hL (by decide))) ?_
    refine zz_aload_n G dL_law_347 rfl ?_
    refine zz_callSWi (v := 0) (w' := (wx x1 m ((vp_updL o 0 v.toInt64)))) (As := [.ref 0, .int (xs (5 * j + 1)), .int (xs (5 * j + 2)), .int (xs (5 * j + 3)), .ref 10]) (rest := []) G (ch_balance_ok l hfl x m o n (xs (5 * j + 1)) (xs (5 * j + 2)) (xs (5 * j + 3)) hvc hn v x1 (hr m o)) kH_balance dL_law_348 rfl rfl (Nat.le_of_ble_eq_true rfl) (fun h => by cases h) ⟨Nat.le_of_ble_eq_true rfl, Nat.le_of_ble_eq_true rfl⟩ ⟨hk1, hk2⟩ ?_
    refine zz_istore (lv' := [some (.ref 11), some (.ref 0), some (.ref 5), some (.ref 10), some (.int (nI (5 * j))), some (.int 0), none]) G dL_law_351 (Nat.le_of_ble_eq_true rfl) rfl ?_
    refine zz_aload_n G dL_law_353 rfl ?_
    refine zz_aload_n G dL_law_354 rfl ?_
    refine zz_iload G dL_law_355 rfl ?_
    refine zz_iconst (v := 1) G dL_law_357 (by decide) ?_
    refine zz_iadd G dL_law_358 ?_
    refine zz_sld (v := xs (5 * j + 1)) G hX hbl h11 hbA dL_law_359 (sc_in 1 hj hL (by decide)) (congrArg xs (sc_at 1 hj hL (by decide))) ?_
    refine zz_aload_n G dL_law_360 rfl ?_
    refine zz_iload G dL_law_361 rfl ?_
    refine zz_iconst (v := 2) G dL_law_363 (by decide) ?_
    refine zz_iadd G dL_law_364 ?_
    refine zz_sld (v := xs (5 * j + 2)) G hX hbl h11 hbA dL_law_365 (sc_in 2 hj hL (by decide)) (congrArg xs (sc_at 2 hj hL (by decide))) ?_
    refine zz_aload_n G dL_law_366 rfl ?_
    refine zz_iload G dL_law_367 rfl ?_
    refine zz_iconst (v := 3) G dL_law_369 (by decide) ?_
    refine zz_iadd G dL_law_370 ?_
    refine zz_sld (v := xs (5 * j + 3)) G hX hbl h11 hbA dL_law_371 (sc_in 3 hj hL (by decide)) (congrArg xs (sc_at 3 hj hL (by decide))) ?_
    refine zz_callVi (v := v) (w' := (wx x1 m1 ((vp_updL o 0 v.toInt64)))) (As := [.int (xs (5 * j + 1)), .int (xs (5 * j + 2)), .int (xs (5 * j + 3))]) (rest := []) G (by have q := cm_balance l x1 m (vp_updL o 0 v.toInt64) (xs (5 * j + 1)) (xs (5 * j + 2)) (xs (5 * j + 3)) n e hcl hn hen (by omega); rw [show qBal x1 m (vp_updL o 0 v.toInt64) e (xs (5 * j + 1)) (xs (5 * j + 2)) (xs (5 * j + 3)) = _ from hq x1 (vp_updL o 0 v.toInt64)] at q; exact q) kL_81 dL_law_372 rfl rfl rfl rfl (Nat.le_of_ble_eq_true rfl) (fun h => by cases h) ⟨Nat.le_of_ble_eq_true rfl, Nat.le_of_ble_eq_true rfl⟩ ⟨hk3, hk4⟩ ?_
    refine zz_istore (lv' := [some (.ref 11), some (.ref 0), some (.ref 5), some (.ref 10), some (.int (nI (5 * j))), some (.int 0), some (.int v)]) G dL_law_375 (Nat.le_of_ble_eq_true rfl) rfl ?_
    refine zz_aload_n G dL_law_377 rfl ?_
    refine zz_callVi (v := 0) (w' := (wx x1 m1 ((vp_updL o 0 v.toInt64)))) (As := []) (rest := []) G (by have q := cm_thrown l x1 m1 (vp_updL o 0 v.toInt64); rw [hc0] at q; exact q) kL_67 dL_law_378 rfl rfl rfl rfl (Nat.le_of_ble_eq_true rfl) (fun _ => rfl) ⟨Nat.le_of_ble_eq_true rfl, Nat.le_of_ble_eq_true rfl⟩ ⟨hk3, hk4⟩ ?_
    refine zz_iload G dL_law_381 rfl ?_
    refine zz_icmp_eq (tgt := 388) G dL_law_383 rfl (fun h383 => ?_) (fun h383 => ((absurd h383 (by decide) : False)).elim)
    refine zz_iload G dL_law_388 rfl ?_
    refine zz_if_ne (tgt := 405) G dL_law_390 rfl (fun h390 => ((absurd h390 (by decide) : False)).elim) (fun h390 => ?_)
    refine zz_aload_n G dL_law_393 rfl ?_
    refine zz_iconst (v := 0) G dL_law_394 (by decide) ?_
    refine zz_lald (v := v.toInt64) G dL_law_395 rfl (by rw [← nI_0]; exact vp_in_nI (by omega) (by omega)) (if_pos rfl) ?_
    refine zz_iload G dL_law_396 rfl ?_
    refine zz_i2l G dL_law_398 ?_
    refine zz_lcmp G dL_law_399 ?_
    refine zz_if_eq (tgt := 405) G dL_law_400 rfl (fun h400 => ?_) (fun h400 => (h400 ((lg_cmp_eq _ _).mpr rfl)).elim)
    refine zz_goto (tgt := 925) G dL_law_405 rfl ?_
    refine zz_few (lv' := [some (.ref 11), some (.ref 0), some (.ref 5), some (.ref 10), some (.int (nI (5 * j))), none, none]) (by exact ⟨rfl, rfl, rfl, rfl, rfl, trivial⟩) ?_
    exact NX x1 m1 (vp_updL o 0 v.toInt64) hR1
  · rcases kx with _ | _ | kx
    · obtain rfl := Option.some.inj (show some "java/lang/IllegalStateException" = some X from hX1)
      have hc0 : fm_code m1 = 1 := hc0
      refine zz_aload_n G dL_law_328 rfl ?_
      refine zz_aload_n G dL_law_329 rfl ?_
      refine zz_iload G dL_law_330 rfl ?_
      refine zz_iconst (v := 1) G dL_law_332 (by decide) ?_
      refine zz_iadd G dL_law_333 ?_
      refine zz_sld (v := xs (5 * j + 1)) G hX hbl h11 hbA dL_law_334 (sc_in 1 hj hL (by decide)) (congrArg xs (sc_at 1 hj hL (by decide))) ?_
      refine zz_aload_n G dL_law_335 rfl ?_
      refine zz_iload G dL_law_336 rfl ?_
      refine zz_iconst (v := 2) G dL_law_338 (by decide) ?_
      refine zz_iadd G dL_law_339 ?_
      refine zz_sld (v := xs (5 * j + 2)) G hX hbl h11 hbA dL_law_340 (sc_in 2 hj hL (by decide)) (congrArg xs (sc_at 2 hj hL (by decide))) ?_
      refine zz_aload_n G dL_law_341 rfl ?_
      refine zz_iload G dL_law_342 rfl ?_
      refine zz_iconst (v := 3) G dL_law_344 (by decide) ?_
      refine zz_iadd G dL_law_345 ?_
      refine zz_sld (v := xs (5 * j + 3)) G hX hbl h11 hbA dL_law_346 (sc_in 3 hj hL (by decide)) (congrArg xs (sc_at 3 hj hL (by decide))) ?_
      refine zz_aload_n G dL_law_347 rfl ?_
      refine zz_callSWi (v := 1) (w' := (wx x m o)) (As := [.ref 0, .int (xs (5 * j + 1)), .int (xs (5 * j + 2)), .int (xs (5 * j + 3)), .ref 10]) (rest := []) G (ch_balance_ISE l hfl x m o n (xs (5 * j + 1)) (xs (5 * j + 2)) (xs (5 * j + 3)) hvc hn (hr m o)) kH_balance dL_law_348 rfl rfl (Nat.le_of_ble_eq_true rfl) (fun h => by cases h) ⟨Nat.le_of_ble_eq_true rfl, Nat.le_of_ble_eq_true rfl⟩ ⟨hk1, hk2⟩ ?_
      refine zz_istore (lv' := [some (.ref 11), some (.ref 0), some (.ref 5), some (.ref 10), some (.int (nI (5 * j))), some (.int 1), none]) G dL_law_351 (Nat.le_of_ble_eq_true rfl) rfl ?_
      refine zz_aload_n G dL_law_353 rfl ?_
      refine zz_aload_n G dL_law_354 rfl ?_
      refine zz_iload G dL_law_355 rfl ?_
      refine zz_iconst (v := 1) G dL_law_357 (by decide) ?_
      refine zz_iadd G dL_law_358 ?_
      refine zz_sld (v := xs (5 * j + 1)) G hX hbl h11 hbA dL_law_359 (sc_in 1 hj hL (by decide)) (congrArg xs (sc_at 1 hj hL (by decide))) ?_
      refine zz_aload_n G dL_law_360 rfl ?_
      refine zz_iload G dL_law_361 rfl ?_
      refine zz_iconst (v := 2) G dL_law_363 (by decide) ?_
      refine zz_iadd G dL_law_364 ?_
      refine zz_sld (v := xs (5 * j + 2)) G hX hbl h11 hbA dL_law_365 (sc_in 2 hj hL (by decide)) (congrArg xs (sc_at 2 hj hL (by decide))) ?_
      refine zz_aload_n G dL_law_366 rfl ?_
      refine zz_iload G dL_law_367 rfl ?_
      refine zz_iconst (v := 3) G dL_law_369 (by decide) ?_
      refine zz_iadd G dL_law_370 ?_
      refine zz_sld (v := xs (5 * j + 3)) G hX hbl h11 hbA dL_law_371 (sc_in 3 hj hL (by decide)) (congrArg xs (sc_at 3 hj hL (by decide))) ?_
      refine zz_callVi (v := v) (w' := (wx x m1 o)) (As := [.int (xs (5 * j + 1)), .int (xs (5 * j + 2)), .int (xs (5 * j + 3))]) (rest := []) G (by have q := cm_balance l x m o (xs (5 * j + 1)) (xs (5 * j + 2)) (xs (5 * j + 3)) n e hcl hn hen (by omega); rw [show qBal x m o e (xs (5 * j + 1)) (xs (5 * j + 2)) (xs (5 * j + 3)) = _ from hq x o] at q; exact q) kL_81 dL_law_372 rfl rfl rfl rfl (Nat.le_of_ble_eq_true rfl) (fun h => by cases h) ⟨Nat.le_of_ble_eq_true rfl, Nat.le_of_ble_eq_true rfl⟩ ⟨hk3, hk4⟩ ?_
      refine zz_istore (lv' := [some (.ref 11), some (.ref 0), some (.ref 5), some (.ref 10), some (.int (nI (5 * j))), some (.int 1), some (.int v)]) G dL_law_375 (Nat.le_of_ble_eq_true rfl) rfl ?_
      refine zz_aload_n G dL_law_377 rfl ?_
      refine zz_callVi (v := 1) (w' := (wx x m1 o)) (As := []) (rest := []) G (by have q := cm_thrown l x m1 o; rw [hc0] at q; exact q) kL_67 dL_law_378 rfl rfl rfl rfl (Nat.le_of_ble_eq_true rfl) (fun _ => rfl) ⟨Nat.le_of_ble_eq_true rfl, Nat.le_of_ble_eq_true rfl⟩ ⟨hk3, hk4⟩ ?_
      refine zz_iload G dL_law_381 rfl ?_
      refine zz_icmp_eq (tgt := 388) G dL_law_383 rfl (fun h383 => ?_) (fun h383 => ((absurd h383 (by decide) : False)).elim)
      refine zz_iload G dL_law_388 rfl ?_
      refine zz_if_ne (tgt := 405) G dL_law_390 rfl (fun h390 => ?_) (fun h390 => ((absurd h390 (by decide) : False)).elim)
      refine zz_goto (tgt := 925) G dL_law_405 rfl ?_
      refine zz_few (lv' := [some (.ref 11), some (.ref 0), some (.ref 5), some (.ref 10), some (.int (nI (5 * j))), none, none]) (by exact ⟨rfl, rfl, rfl, rfl, rfl, trivial⟩) ?_
      exact NX x m1 o hR1
    · obtain rfl := Option.some.inj (show some "java/lang/IllegalArgumentException" = some X from hX1)
      have hc0 : fm_code m1 = 2 := hc0
      refine zz_aload_n G dL_law_328 rfl ?_
      refine zz_aload_n G dL_law_329 rfl ?_
      refine zz_iload G dL_law_330 rfl ?_
      refine zz_iconst (v := 1) G dL_law_332 (by decide) ?_
      refine zz_iadd G dL_law_333 ?_
      refine zz_sld (v := xs (5 * j + 1)) G hX hbl h11 hbA dL_law_334 (sc_in 1 hj hL (by decide)) (congrArg xs (sc_at 1 hj hL (by decide))) ?_
      refine zz_aload_n G dL_law_335 rfl ?_
      refine zz_iload G dL_law_336 rfl ?_
      refine zz_iconst (v := 2) G dL_law_338 (by decide) ?_
      refine zz_iadd G dL_law_339 ?_
      refine zz_sld (v := xs (5 * j + 2)) G hX hbl h11 hbA dL_law_340 (sc_in 2 hj hL (by decide)) (congrArg xs (sc_at 2 hj hL (by decide))) ?_
      refine zz_aload_n G dL_law_341 rfl ?_
      refine zz_iload G dL_law_342 rfl ?_
      refine zz_iconst (v := 3) G dL_law_344 (by decide) ?_
      refine zz_iadd G dL_law_345 ?_
      refine zz_sld (v := xs (5 * j + 3)) G hX hbl h11 hbA dL_law_346 (sc_in 3 hj hL (by decide)) (congrArg xs (sc_at 3 hj hL (by decide))) ?_
      refine zz_aload_n G dL_law_347 rfl ?_
      refine zz_callSWi (v := 2) (w' := (wx x m o)) (As := [.ref 0, .int (xs (5 * j + 1)), .int (xs (5 * j + 2)), .int (xs (5 * j + 3)), .ref 10]) (rest := []) G (ch_balance_IAE l hfl x m o n (xs (5 * j + 1)) (xs (5 * j + 2)) (xs (5 * j + 3)) hvc hn (hr m o)) kH_balance dL_law_348 rfl rfl (Nat.le_of_ble_eq_true rfl) (fun h => by cases h) ⟨Nat.le_of_ble_eq_true rfl, Nat.le_of_ble_eq_true rfl⟩ ⟨hk1, hk2⟩ ?_
      refine zz_istore (lv' := [some (.ref 11), some (.ref 0), some (.ref 5), some (.ref 10), some (.int (nI (5 * j))), some (.int 2), none]) G dL_law_351 (Nat.le_of_ble_eq_true rfl) rfl ?_
      refine zz_aload_n G dL_law_353 rfl ?_
      refine zz_aload_n G dL_law_354 rfl ?_
      refine zz_iload G dL_law_355 rfl ?_
      refine zz_iconst (v := 1) G dL_law_357 (by decide) ?_
      refine zz_iadd G dL_law_358 ?_
      refine zz_sld (v := xs (5 * j + 1)) G hX hbl h11 hbA dL_law_359 (sc_in 1 hj hL (by decide)) (congrArg xs (sc_at 1 hj hL (by decide))) ?_
      refine zz_aload_n G dL_law_360 rfl ?_
      refine zz_iload G dL_law_361 rfl ?_
      refine zz_iconst (v := 2) G dL_law_363 (by decide) ?_
      refine zz_iadd G dL_law_364 ?_
      refine zz_sld (v := xs (5 * j + 2)) G hX hbl h11 hbA dL_law_365 (sc_in 2 hj hL (by decide)) (congrArg xs (sc_at 2 hj hL (by decide))) ?_
      refine zz_aload_n G dL_law_366 rfl ?_
      refine zz_iload G dL_law_367 rfl ?_
      refine zz_iconst (v := 3) G dL_law_369 (by decide) ?_
      refine zz_iadd G dL_law_370 ?_
      refine zz_sld (v := xs (5 * j + 3)) G hX hbl h11 hbA dL_law_371 (sc_in 3 hj hL (by decide)) (congrArg xs (sc_at 3 hj hL (by decide))) ?_
      refine zz_callVi (v := v) (w' := (wx x m1 o)) (As := [.int (xs (5 * j + 1)), .int (xs (5 * j + 2)), .int (xs (5 * j + 3))]) (rest := []) G (by have q := cm_balance l x m o (xs (5 * j + 1)) (xs (5 * j + 2)) (xs (5 * j + 3)) n e hcl hn hen (by omega); rw [show qBal x m o e (xs (5 * j + 1)) (xs (5 * j + 2)) (xs (5 * j + 3)) = _ from hq x o] at q; exact q) kL_81 dL_law_372 rfl rfl rfl rfl (Nat.le_of_ble_eq_true rfl) (fun h => by cases h) ⟨Nat.le_of_ble_eq_true rfl, Nat.le_of_ble_eq_true rfl⟩ ⟨hk3, hk4⟩ ?_
      refine zz_istore (lv' := [some (.ref 11), some (.ref 0), some (.ref 5), some (.ref 10), some (.int (nI (5 * j))), some (.int 2), some (.int v)]) G dL_law_375 (Nat.le_of_ble_eq_true rfl) rfl ?_
      refine zz_aload_n G dL_law_377 rfl ?_
      refine zz_callVi (v := 2) (w' := (wx x m1 o)) (As := []) (rest := []) G (by have q := cm_thrown l x m1 o; rw [hc0] at q; exact q) kL_67 dL_law_378 rfl rfl rfl rfl (Nat.le_of_ble_eq_true rfl) (fun _ => rfl) ⟨Nat.le_of_ble_eq_true rfl, Nat.le_of_ble_eq_true rfl⟩ ⟨hk3, hk4⟩ ?_
      refine zz_iload G dL_law_381 rfl ?_
      refine zz_icmp_eq (tgt := 388) G dL_law_383 rfl (fun h383 => ?_) (fun h383 => ((absurd h383 (by decide) : False)).elim)
      refine zz_iload G dL_law_388 rfl ?_
      refine zz_if_ne (tgt := 405) G dL_law_390 rfl (fun h390 => ?_) (fun h390 => ((absurd h390 (by decide) : False)).elim)
      refine zz_goto (tgt := 925) G dL_law_405 rfl ?_
      refine zz_few (lv' := [some (.ref 11), some (.ref 0), some (.ref 5), some (.ref 10), some (.int (nI (5 * j))), none, none]) (by exact ⟨rfl, rfl, rfl, rfl, rfl, trivial⟩) ?_
      exact NX x m1 o hR1
    · exact absurd hX1 (by simp)
set_option maxRecDepth 100000 in
set_option maxHeartbeats 4000000 in
theorem lc_trial {p : Program} {l : Launch} {e0 : Env} {s : State} {mm : MethodId} {below : List Frame} {meth : Method} {c : Code} {b L : Nat} {xs : Nat → Int32} {D : va_G} {cI cJ : ClassId} {as : Nat → Nat} {Q : State → Prop} (hfl : l.flags = Jvm.pinnedFlags ++ [Jvm.noTraceFlag]) (G : zok p s mm #[Value.ref b] meth c bL_law 7 "AsOfLedgerLaw" D cI cJ as) (hL : L ≤ 2560) (hX : va_X b L xs s s.heap) (hbl : b < s.heap.size) (h11 : as 11 = b) (hbA : ¬ zA as s.heap.size b) {j : Nat} (hj : 5 * j + 5 ≤ L) (NX : ∀ (x : XS) (m : MS) (o : Nat → Int64), Rel x m → Z p l e0 room_1 s mm #[Value.ref b] below meth c 7 D cI cJ as false (11 + j + 1) (1175 + 6 * j + 6) Q 925 [some (.ref 11), some (.ref 0), some (.ref 5), some (.ref 10), some (.int (nI (5 * j))), none, none] [] (wx x m o)) (x : XS) (m : MS) (o : Nat → Int64) (hR : Rel x m) : Z p l e0 room_1 s mm #[Value.ref b] below meth c 7 D cI cJ as false (11 + j) (1175 + 6 * j) Q 408 [some (.ref 11), some (.ref 0), some (.ref 5), some (.ref 10), some (.int (nI (5 * j))), none, none] [] (wx x m o) := by
  obtain ⟨n, e, p1, l1, hN⟩ := hR
  have hM := mt_trial hN (xs (5 * j + 1)) (xs (5 * j + 2))
  have hlv := rel_live hN
  have hb := rel_b hN
  have hlst := rel_last hN
  have hans := rel_ans hN
  obtain ⟨⟨hn, he, hvc, hec, hcl, hen⟩, ⟨htm, hw, hk, hI⟩, ⟨hl64, hpl, hln, hsz, hch, hpc, hct, hat⟩, hlast, hcur⟩ := hN
  have hk1 : 11 + j + 1 ≤ room_1.cells := by show 11 + j + 1 ≤ 1040; omega
  have hk2 : 1175 + 6 * j + 6 ≤ room_1.slots := by show 1175 + 6 * j + 6 ≤ 9397; omega
  have hk3 : 11 + j + 1 + 1 ≤ room_1.cells := by show 11 + j + 1 + 1 ≤ 1040; omega
  have hk4 : 1175 + 6 * j + 6 + 6 ≤ room_1.slots := by show 1175 + 6 * j + 6 + 6 ≤ 9397; omega
  rcases hM with ⟨v, x1, m1, hr, hq, hc0, hR1⟩ | ⟨kx, X, v, m1, hX1, hr, hq, hc0, hR1⟩
  · refine zz_aload_n G dL_law_408 rfl ?_
    refine zz_aload_n G dL_law_409 rfl ?_
    refine zz_iload G dL_law_410 rfl ?_
    refine zz_iconst (v := 1) G dL_law_412 (by decide) ?_
    refine zz_iadd G dL_law_413 ?_
    refine zz_sld (v := xs (5 * j + 1)) G hX hbl h11 hbA dL_law_414 (sc_in 1 hj hL (by decide)) (congrArg xs (sc_at 1 hj hL (by decide))) ?_
    refine zz_aload_n G dL_law_415 rfl ?_
    refine zz_iload G dL_law_416 rfl ?_
    refine zz_iconst (v := 2) G dL_law_418 (by decide) ?_
    refine zz_iadd G dL_law_419 ?_
    refine zz_sld (v := xs (5 * j + 2)) G hX hbl h11 hbA dL_law_420 (sc_in 2 hj hL (by decide)) (congrArg xs (sc_at 2 hj hL (by decide))) ?_
    refine zz_aload_n G dL_law_421 rfl ?_
    refine zz_callSWi (v := 0) (w' := (wx x1 m ((vp_updL o 0 v.toInt64)))) (As := [.ref 0, .int (xs (5 * j + 1)), .int (xs (5 * j + 2)), .ref 10]) (rest := []) G (ch_trial_ok l hfl x m o n (xs (5 * j + 1)) (xs (5 * j + 2)) hvc hn v x1 (hr m o)) kH_trial dL_law_422 rfl rfl (Nat.le_of_ble_eq_true rfl) (fun h => by cases h) ⟨Nat.le_of_ble_eq_true rfl, Nat.le_of_ble_eq_true rfl⟩ ⟨hk1, hk2⟩ ?_
    refine zz_istore (lv' := [some (.ref 11), some (.ref 0), some (.ref 5), some (.ref 10), some (.int (nI (5 * j))), some (.int 0), none]) G dL_law_425 (Nat.le_of_ble_eq_true rfl) rfl ?_
    refine zz_aload_n G dL_law_427 rfl ?_
    refine zz_aload_n G dL_law_428 rfl ?_
    refine zz_iload G dL_law_429 rfl ?_
    refine zz_iconst (v := 1) G dL_law_431 (by decide) ?_
    refine zz_iadd G dL_law_432 ?_
    refine zz_sld (v := xs (5 * j + 1)) G hX hbl h11 hbA dL_law_433 (sc_in 1 hj hL (by decide)) (congrArg xs (sc_at 1 hj hL (by decide))) ?_
    refine zz_aload_n G dL_law_434 rfl ?_
    refine zz_iload G dL_law_435 rfl ?_
    refine zz_iconst (v := 2) G dL_law_437 (by decide) ?_
    refine zz_iadd G dL_law_438 ?_
    refine zz_sld (v := xs (5 * j + 2)) G hX hbl h11 hbA dL_law_439 (sc_in 2 hj hL (by decide)) (congrArg xs (sc_at 2 hj hL (by decide))) ?_
    refine zz_callVi (v := v) (w' := (wx x1 m1 ((vp_updL o 0 v.toInt64)))) (As := [.int (xs (5 * j + 1)), .int (xs (5 * j + 2))]) (rest := []) G (by have q := cm_trial l x1 m (vp_updL o 0 v.toInt64) (xs (5 * j + 1)) (xs (5 * j + 2)) n e hcl hn hen (by omega); rw [show qTrial x1 m (vp_updL o 0 v.toInt64) e (xs (5 * j + 1)) (xs (5 * j + 2)) = _ from hq x1 (vp_updL o 0 v.toInt64)] at q; exact q) kL_84 dL_law_440 rfl rfl rfl rfl (Nat.le_of_ble_eq_true rfl) (fun h => by cases h) ⟨Nat.le_of_ble_eq_true rfl, Nat.le_of_ble_eq_true rfl⟩ ⟨hk3, hk4⟩ ?_
    refine zz_istore (lv' := [some (.ref 11), some (.ref 0), some (.ref 5), some (.ref 10), some (.int (nI (5 * j))), some (.int 0), some (.int v)]) G dL_law_443 (Nat.le_of_ble_eq_true rfl) rfl ?_
    refine zz_aload_n G dL_law_445 rfl ?_
    refine zz_callVi (v := 0) (w' := (wx x1 m1 ((vp_updL o 0 v.toInt64)))) (As := []) (rest := []) G (by have q := cm_thrown l x1 m1 (vp_updL o 0 v.toInt64); rw [hc0] at q; exact q) kL_67 dL_law_446 rfl rfl rfl rfl (Nat.le_of_ble_eq_true rfl) (fun _ => rfl) ⟨Nat.le_of_ble_eq_true rfl, Nat.le_of_ble_eq_true rfl⟩ ⟨hk3, hk4⟩ ?_
    refine zz_iload G dL_law_449 rfl ?_
    refine zz_icmp_eq (tgt := 456) G dL_law_451 rfl (fun h451 => ?_) (fun h451 => ((absurd h451 (by decide) : False)).elim)
    refine zz_iload G dL_law_456 rfl ?_
    refine zz_if_ne (tgt := 473) G dL_law_458 rfl (fun h458 => ((absurd h458 (by decide) : False)).elim) (fun h458 => ?_)
    refine zz_aload_n G dL_law_461 rfl ?_
    refine zz_iconst (v := 0) G dL_law_462 (by decide) ?_
    refine zz_lald (v := v.toInt64) G dL_law_463 rfl (by rw [← nI_0]; exact vp_in_nI (by omega) (by omega)) (if_pos rfl) ?_
    refine zz_iload G dL_law_464 rfl ?_
    refine zz_i2l G dL_law_466 ?_
    refine zz_lcmp G dL_law_467 ?_
    refine zz_if_eq (tgt := 473) G dL_law_468 rfl (fun h468 => ?_) (fun h468 => (h468 ((lg_cmp_eq _ _).mpr rfl)).elim)
    refine zz_goto (tgt := 925) G dL_law_473 rfl ?_
    refine zz_few (lv' := [some (.ref 11), some (.ref 0), some (.ref 5), some (.ref 10), some (.int (nI (5 * j))), none, none]) (by exact ⟨rfl, rfl, rfl, rfl, rfl, trivial⟩) ?_
    exact NX x1 m1 (vp_updL o 0 v.toInt64) hR1
  · rcases kx with _ | _ | kx
    · obtain rfl := Option.some.inj (show some "java/lang/IllegalStateException" = some X from hX1)
      have hc0 : fm_code m1 = 1 := hc0
      refine zz_aload_n G dL_law_408 rfl ?_
      refine zz_aload_n G dL_law_409 rfl ?_
      refine zz_iload G dL_law_410 rfl ?_
      refine zz_iconst (v := 1) G dL_law_412 (by decide) ?_
      refine zz_iadd G dL_law_413 ?_
      refine zz_sld (v := xs (5 * j + 1)) G hX hbl h11 hbA dL_law_414 (sc_in 1 hj hL (by decide)) (congrArg xs (sc_at 1 hj hL (by decide))) ?_
      refine zz_aload_n G dL_law_415 rfl ?_
      refine zz_iload G dL_law_416 rfl ?_
      refine zz_iconst (v := 2) G dL_law_418 (by decide) ?_
      refine zz_iadd G dL_law_419 ?_
      refine zz_sld (v := xs (5 * j + 2)) G hX hbl h11 hbA dL_law_420 (sc_in 2 hj hL (by decide)) (congrArg xs (sc_at 2 hj hL (by decide))) ?_
      refine zz_aload_n G dL_law_421 rfl ?_
      refine zz_callSWi (v := 1) (w' := (wx x m o)) (As := [.ref 0, .int (xs (5 * j + 1)), .int (xs (5 * j + 2)), .ref 10]) (rest := []) G (ch_trial_ISE l hfl x m o n (xs (5 * j + 1)) (xs (5 * j + 2)) hvc hn (hr m o)) kH_trial dL_law_422 rfl rfl (Nat.le_of_ble_eq_true rfl) (fun h => by cases h) ⟨Nat.le_of_ble_eq_true rfl, Nat.le_of_ble_eq_true rfl⟩ ⟨hk1, hk2⟩ ?_
      refine zz_istore (lv' := [some (.ref 11), some (.ref 0), some (.ref 5), some (.ref 10), some (.int (nI (5 * j))), some (.int 1), none]) G dL_law_425 (Nat.le_of_ble_eq_true rfl) rfl ?_
      refine zz_aload_n G dL_law_427 rfl ?_
      refine zz_aload_n G dL_law_428 rfl ?_
      refine zz_iload G dL_law_429 rfl ?_
      refine zz_iconst (v := 1) G dL_law_431 (by decide) ?_
      refine zz_iadd G dL_law_432 ?_
      refine zz_sld (v := xs (5 * j + 1)) G hX hbl h11 hbA dL_law_433 (sc_in 1 hj hL (by decide)) (congrArg xs (sc_at 1 hj hL (by decide))) ?_
      refine zz_aload_n G dL_law_434 rfl ?_
      refine zz_iload G dL_law_435 rfl ?_
      refine zz_iconst (v := 2) G dL_law_437 (by decide) ?_
      refine zz_iadd G dL_law_438 ?_
      refine zz_sld (v := xs (5 * j + 2)) G hX hbl h11 hbA dL_law_439 (sc_in 2 hj hL (by decide)) (congrArg xs (sc_at 2 hj hL (by decide))) ?_
      refine zz_callVi (v := v) (w' := (wx x m1 o)) (As := [.int (xs (5 * j + 1)), .int (xs (5 * j + 2))]) (rest := []) G (by have q := cm_trial l x m o (xs (5 * j + 1)) (xs (5 * j + 2)) n e hcl hn hen (by omega); rw [show qTrial x m o e (xs (5 * j + 1)) (xs (5 * j + 2)) = _ from hq x o] at q; exact q) kL_84 dL_law_440 rfl rfl rfl rfl (Nat.le_of_ble_eq_true rfl) (fun h => by cases h) ⟨Nat.le_of_ble_eq_true rfl, Nat.le_of_ble_eq_true rfl⟩ ⟨hk3, hk4⟩ ?_
      refine zz_istore (lv' := [some (.ref 11), some (.ref 0), some (.ref 5), some (.ref 10), some (.int (nI (5 * j))), some (.int 1), some (.int v)]) G dL_law_443 (Nat.le_of_ble_eq_true rfl) rfl ?_
      refine zz_aload_n G dL_law_445 rfl ?_
      refine zz_callVi (v := 1) (w' := (wx x m1 o)) (As := []) (rest := []) G (by have q := cm_thrown l x m1 o; rw [hc0] at q; exact q) kL_67 dL_law_446 rfl rfl rfl rfl (Nat.le_of_ble_eq_true rfl) (fun _ => rfl) ⟨Nat.le_of_ble_eq_true rfl, Nat.le_of_ble_eq_true rfl⟩ ⟨hk3, hk4⟩ ?_
      refine zz_iload G dL_law_449 rfl ?_
      refine zz_icmp_eq (tgt := 456) G dL_law_451 rfl (fun h451 => ?_) (fun h451 => ((absurd h451 (by decide) : False)).elim)
      refine zz_iload G dL_law_456 rfl ?_
      refine zz_if_ne (tgt := 473) G dL_law_458 rfl (fun h458 => ?_) (fun h458 => ((absurd h458 (by decide) : False)).elim)
      refine zz_goto (tgt := 925) G dL_law_473 rfl ?_
      refine zz_few (lv' := [some (.ref 11), some (.ref 0), some (.ref 5), some (.ref 10), some (.int (nI (5 * j))), none, none]) (by exact ⟨rfl, rfl, rfl, rfl, rfl, trivial⟩) ?_
      exact NX x m1 o hR1
    · obtain rfl := Option.some.inj (show some "java/lang/IllegalArgumentException" = some X from hX1)
      have hc0 : fm_code m1 = 2 := hc0
      refine zz_aload_n G dL_law_408 rfl ?_
      refine zz_aload_n G dL_law_409 rfl ?_
      refine zz_iload G dL_law_410 rfl ?_
      refine zz_iconst (v := 1) G dL_law_412 (by decide) ?_
      refine zz_iadd G dL_law_413 ?_
      refine zz_sld (v := xs (5 * j + 1)) G hX hbl h11 hbA dL_law_414 (sc_in 1 hj hL (by decide)) (congrArg xs (sc_at 1 hj hL (by decide))) ?_
      refine zz_aload_n G dL_law_415 rfl ?_
      refine zz_iload G dL_law_416 rfl ?_
      refine zz_iconst (v := 2) G dL_law_418 (by decide) ?_
      refine zz_iadd G dL_law_419 ?_
      refine zz_sld (v := xs (5 * j + 2)) G hX hbl h11 hbA dL_law_420 (sc_in 2 hj hL (by decide)) (congrArg xs (sc_at 2 hj hL (by decide))) ?_
      refine zz_aload_n G dL_law_421 rfl ?_
      refine zz_callSWi (v := 2) (w' := (wx x m o)) (As := [.ref 0, .int (xs (5 * j + 1)), .int (xs (5 * j + 2)), .ref 10]) (rest := []) G (ch_trial_IAE l hfl x m o n (xs (5 * j + 1)) (xs (5 * j + 2)) hvc hn (hr m o)) kH_trial dL_law_422 rfl rfl (Nat.le_of_ble_eq_true rfl) (fun h => by cases h) ⟨Nat.le_of_ble_eq_true rfl, Nat.le_of_ble_eq_true rfl⟩ ⟨hk1, hk2⟩ ?_
      refine zz_istore (lv' := [some (.ref 11), some (.ref 0), some (.ref 5), some (.ref 10), some (.int (nI (5 * j))), some (.int 2), none]) G dL_law_425 (Nat.le_of_ble_eq_true rfl) rfl ?_
      refine zz_aload_n G dL_law_427 rfl ?_
      refine zz_aload_n G dL_law_428 rfl ?_
      refine zz_iload G dL_law_429 rfl ?_
      refine zz_iconst (v := 1) G dL_law_431 (by decide) ?_
      refine zz_iadd G dL_law_432 ?_
      refine zz_sld (v := xs (5 * j + 1)) G hX hbl h11 hbA dL_law_433 (sc_in 1 hj hL (by decide)) (congrArg xs (sc_at 1 hj hL (by decide))) ?_
      refine zz_aload_n G dL_law_434 rfl ?_
      refine zz_iload G dL_law_435 rfl ?_
      refine zz_iconst (v := 2) G dL_law_437 (by decide) ?_
      refine zz_iadd G dL_law_438 ?_
      refine zz_sld (v := xs (5 * j + 2)) G hX hbl h11 hbA dL_law_439 (sc_in 2 hj hL (by decide)) (congrArg xs (sc_at 2 hj hL (by decide))) ?_
      refine zz_callVi (v := v) (w' := (wx x m1 o)) (As := [.int (xs (5 * j + 1)), .int (xs (5 * j + 2))]) (rest := []) G (by have q := cm_trial l x m o (xs (5 * j + 1)) (xs (5 * j + 2)) n e hcl hn hen (by omega); rw [show qTrial x m o e (xs (5 * j + 1)) (xs (5 * j + 2)) = _ from hq x o] at q; exact q) kL_84 dL_law_440 rfl rfl rfl rfl (Nat.le_of_ble_eq_true rfl) (fun h => by cases h) ⟨Nat.le_of_ble_eq_true rfl, Nat.le_of_ble_eq_true rfl⟩ ⟨hk3, hk4⟩ ?_
      refine zz_istore (lv' := [some (.ref 11), some (.ref 0), some (.ref 5), some (.ref 10), some (.int (nI (5 * j))), some (.int 2), some (.int v)]) G dL_law_443 (Nat.le_of_ble_eq_true rfl) rfl ?_
      refine zz_aload_n G dL_law_445 rfl ?_
      refine zz_callVi (v := 2) (w' := (wx x m1 o)) (As := []) (rest := []) G (by have q := cm_thrown l x m1 o; rw [hc0] at q; exact q) kL_67 dL_law_446 rfl rfl rfl rfl (Nat.le_of_ble_eq_true rfl) (fun _ => rfl) ⟨Nat.le_of_ble_eq_true rfl, Nat.le_of_ble_eq_true rfl⟩ ⟨hk3, hk4⟩ ?_
      refine zz_iload G dL_law_449 rfl ?_
      refine zz_icmp_eq (tgt := 456) G dL_law_451 rfl (fun h451 => ?_) (fun h451 => ((absurd h451 (by decide) : False)).elim)
      refine zz_iload G dL_law_456 rfl ?_
      refine zz_if_ne (tgt := 473) G dL_law_458 rfl (fun h458 => ?_) (fun h458 => ((absurd h458 (by decide) : False)).elim)
      refine zz_goto (tgt := 925) G dL_law_473 rfl ?_
      refine zz_few (lv' := [some (.ref 11), some (.ref 0), some (.ref 5), some (.ref 10), some (.int (nI (5 * j))), none, none]) (by exact ⟨rfl, rfl, rfl, rfl, rfl, trivial⟩) ?_
      exact NX x m1 o hR1
    · exact absurd hX1 (by simp)
set_option maxRecDepth 100000 in
set_option maxHeartbeats 4000000 in
theorem lc_turnover {p : Program} {l : Launch} {e0 : Env} {s : State} {mm : MethodId} {below : List Frame} {meth : Method} {c : Code} {b L : Nat} {xs : Nat → Int32} {D : va_G} {cI cJ : ClassId} {as : Nat → Nat} {Q : State → Prop} (hfl : l.flags = Jvm.pinnedFlags ++ [Jvm.noTraceFlag]) (G : zok p s mm #[Value.ref b] meth c bL_law 7 "AsOfLedgerLaw" D cI cJ as) (hL : L ≤ 2560) (hX : va_X b L xs s s.heap) (hbl : b < s.heap.size) (h11 : as 11 = b) (hbA : ¬ zA as s.heap.size b) {j : Nat} (hj : 5 * j + 5 ≤ L) (NX : ∀ (x : XS) (m : MS) (o : Nat → Int64), Rel x m → Z p l e0 room_1 s mm #[Value.ref b] below meth c 7 D cI cJ as false (11 + j + 1) (1175 + 6 * j + 6) Q 925 [some (.ref 11), some (.ref 0), some (.ref 5), some (.ref 10), some (.int (nI (5 * j))), none, none] [] (wx x m o)) (x : XS) (m : MS) (o : Nat → Int64) (hR : Rel x m) : Z p l e0 room_1 s mm #[Value.ref b] below meth c 7 D cI cJ as false (11 + j) (1175 + 6 * j) Q 476 [some (.ref 11), some (.ref 0), some (.ref 5), some (.ref 10), some (.int (nI (5 * j))), none, none] [] (wx x m o) := by
  obtain ⟨n, e, p1, l1, hN⟩ := hR
  have hM := mt_turnover hN (xs (5 * j + 1))
  have hlv := rel_live hN
  have hb := rel_b hN
  have hlst := rel_last hN
  have hans := rel_ans hN
  obtain ⟨⟨hn, he, hvc, hec, hcl, hen⟩, ⟨htm, hw, hk, hI⟩, ⟨hl64, hpl, hln, hsz, hch, hpc, hct, hat⟩, hlast, hcur⟩ := hN
  have hk1 : 11 + j + 1 ≤ room_1.cells := by show 11 + j + 1 ≤ 1040; omega
  have hk2 : 1175 + 6 * j + 6 ≤ room_1.slots := by show 1175 + 6 * j + 6 ≤ 9397; omega
  have hk3 : 11 + j + 1 + 1 ≤ room_1.cells := by show 11 + j + 1 + 1 ≤ 1040; omega
  have hk4 : 1175 + 6 * j + 6 + 6 ≤ room_1.slots := by show 1175 + 6 * j + 6 + 6 ≤ 9397; omega
  rcases hM with ⟨v, x1, m1, hr, hq, hc0, hR1⟩ | ⟨kx, X, v, m1, hX1, hr, hq, hc0, hR1⟩
  · refine zz_aload_n G dL_law_476 rfl ?_
    refine zz_aload_n G dL_law_477 rfl ?_
    refine zz_iload G dL_law_478 rfl ?_
    refine zz_iconst (v := 1) G dL_law_480 (by decide) ?_
    refine zz_iadd G dL_law_481 ?_
    refine zz_sld (v := xs (5 * j + 1)) G hX hbl h11 hbA dL_law_482 (sc_in 1 hj hL (by decide)) (congrArg xs (sc_at 1 hj hL (by decide))) ?_
    refine zz_aload_n G dL_law_483 rfl ?_
    refine zz_callSWi (v := 0) (w' := (wx x1 m ((vp_updL o 0 v.toInt64)))) (As := [.ref 0, .int (xs (5 * j + 1)), .ref 10]) (rest := []) G (ch_turnover_ok l hfl x m o n (xs (5 * j + 1)) hvc hn v x1 (hr m o)) kH_turnover dL_law_484 rfl rfl (Nat.le_of_ble_eq_true rfl) (fun h => by cases h) ⟨Nat.le_of_ble_eq_true rfl, Nat.le_of_ble_eq_true rfl⟩ ⟨hk1, hk2⟩ ?_
    refine zz_istore (lv' := [some (.ref 11), some (.ref 0), some (.ref 5), some (.ref 10), some (.int (nI (5 * j))), some (.int 0), none]) G dL_law_487 (Nat.le_of_ble_eq_true rfl) rfl ?_
    refine zz_aload_n G dL_law_489 rfl ?_
    refine zz_aload_n G dL_law_490 rfl ?_
    refine zz_iload G dL_law_491 rfl ?_
    refine zz_iconst (v := 1) G dL_law_493 (by decide) ?_
    refine zz_iadd G dL_law_494 ?_
    refine zz_sld (v := xs (5 * j + 1)) G hX hbl h11 hbA dL_law_495 (sc_in 1 hj hL (by decide)) (congrArg xs (sc_at 1 hj hL (by decide))) ?_
    refine zz_callVi (v := v) (w' := (wx x1 m1 ((vp_updL o 0 v.toInt64)))) (As := [.int (xs (5 * j + 1))]) (rest := []) G (by have q := cm_turnover l x1 m (vp_updL o 0 v.toInt64) (xs (5 * j + 1)) n e hcl hn hen (by omega) hlv; rw [show qTurn x1 m (vp_updL o 0 v.toInt64) n e (xs (5 * j + 1)) = _ from hq x1 (vp_updL o 0 v.toInt64)] at q; exact q) kL_87 dL_law_496 rfl rfl rfl rfl (Nat.le_of_ble_eq_true rfl) (fun h => by cases h) ⟨Nat.le_of_ble_eq_true rfl, Nat.le_of_ble_eq_true rfl⟩ ⟨hk3, hk4⟩ ?_
    refine zz_istore (lv' := [some (.ref 11), some (.ref 0), some (.ref 5), some (.ref 10), some (.int (nI (5 * j))), some (.int 0), some (.int v)]) G dL_law_499 (Nat.le_of_ble_eq_true rfl) rfl ?_
    refine zz_aload_n G dL_law_501 rfl ?_
    refine zz_callVi (v := 0) (w' := (wx x1 m1 ((vp_updL o 0 v.toInt64)))) (As := []) (rest := []) G (by have q := cm_thrown l x1 m1 (vp_updL o 0 v.toInt64); rw [hc0] at q; exact q) kL_67 dL_law_502 rfl rfl rfl rfl (Nat.le_of_ble_eq_true rfl) (fun _ => rfl) ⟨Nat.le_of_ble_eq_true rfl, Nat.le_of_ble_eq_true rfl⟩ ⟨hk3, hk4⟩ ?_
    refine zz_iload G dL_law_505 rfl ?_
    refine zz_icmp_eq (tgt := 512) G dL_law_507 rfl (fun h507 => ?_) (fun h507 => ((absurd h507 (by decide) : False)).elim)
    refine zz_iload G dL_law_512 rfl ?_
    refine zz_if_ne (tgt := 529) G dL_law_514 rfl (fun h514 => ((absurd h514 (by decide) : False)).elim) (fun h514 => ?_)
    refine zz_aload_n G dL_law_517 rfl ?_
    refine zz_iconst (v := 0) G dL_law_518 (by decide) ?_
    refine zz_lald (v := v.toInt64) G dL_law_519 rfl (by rw [← nI_0]; exact vp_in_nI (by omega) (by omega)) (if_pos rfl) ?_
    refine zz_iload G dL_law_520 rfl ?_
    refine zz_i2l G dL_law_522 ?_
    refine zz_lcmp G dL_law_523 ?_
    refine zz_if_eq (tgt := 529) G dL_law_524 rfl (fun h524 => ?_) (fun h524 => (h524 ((lg_cmp_eq _ _).mpr rfl)).elim)
    refine zz_goto (tgt := 925) G dL_law_529 rfl ?_
    refine zz_few (lv' := [some (.ref 11), some (.ref 0), some (.ref 5), some (.ref 10), some (.int (nI (5 * j))), none, none]) (by exact ⟨rfl, rfl, rfl, rfl, rfl, trivial⟩) ?_
    exact NX x1 m1 (vp_updL o 0 v.toInt64) hR1
  · rcases kx with _ | _ | kx
    · obtain rfl := Option.some.inj (show some "java/lang/IllegalStateException" = some X from hX1)
      have hc0 : fm_code m1 = 1 := hc0
      refine zz_aload_n G dL_law_476 rfl ?_
      refine zz_aload_n G dL_law_477 rfl ?_
      refine zz_iload G dL_law_478 rfl ?_
      refine zz_iconst (v := 1) G dL_law_480 (by decide) ?_
      refine zz_iadd G dL_law_481 ?_
      refine zz_sld (v := xs (5 * j + 1)) G hX hbl h11 hbA dL_law_482 (sc_in 1 hj hL (by decide)) (congrArg xs (sc_at 1 hj hL (by decide))) ?_
      refine zz_aload_n G dL_law_483 rfl ?_
      refine zz_callSWi (v := 1) (w' := (wx x m o)) (As := [.ref 0, .int (xs (5 * j + 1)), .ref 10]) (rest := []) G (ch_turnover_ISE l hfl x m o n (xs (5 * j + 1)) hvc hn (hr m o)) kH_turnover dL_law_484 rfl rfl (Nat.le_of_ble_eq_true rfl) (fun h => by cases h) ⟨Nat.le_of_ble_eq_true rfl, Nat.le_of_ble_eq_true rfl⟩ ⟨hk1, hk2⟩ ?_
      refine zz_istore (lv' := [some (.ref 11), some (.ref 0), some (.ref 5), some (.ref 10), some (.int (nI (5 * j))), some (.int 1), none]) G dL_law_487 (Nat.le_of_ble_eq_true rfl) rfl ?_
      refine zz_aload_n G dL_law_489 rfl ?_
      refine zz_aload_n G dL_law_490 rfl ?_
      refine zz_iload G dL_law_491 rfl ?_
      refine zz_iconst (v := 1) G dL_law_493 (by decide) ?_
      refine zz_iadd G dL_law_494 ?_
      refine zz_sld (v := xs (5 * j + 1)) G hX hbl h11 hbA dL_law_495 (sc_in 1 hj hL (by decide)) (congrArg xs (sc_at 1 hj hL (by decide))) ?_
      refine zz_callVi (v := v) (w' := (wx x m1 o)) (As := [.int (xs (5 * j + 1))]) (rest := []) G (by have q := cm_turnover l x m o (xs (5 * j + 1)) n e hcl hn hen (by omega) hlv; rw [show qTurn x m o n e (xs (5 * j + 1)) = _ from hq x o] at q; exact q) kL_87 dL_law_496 rfl rfl rfl rfl (Nat.le_of_ble_eq_true rfl) (fun h => by cases h) ⟨Nat.le_of_ble_eq_true rfl, Nat.le_of_ble_eq_true rfl⟩ ⟨hk3, hk4⟩ ?_
      refine zz_istore (lv' := [some (.ref 11), some (.ref 0), some (.ref 5), some (.ref 10), some (.int (nI (5 * j))), some (.int 1), some (.int v)]) G dL_law_499 (Nat.le_of_ble_eq_true rfl) rfl ?_
      refine zz_aload_n G dL_law_501 rfl ?_
      refine zz_callVi (v := 1) (w' := (wx x m1 o)) (As := []) (rest := []) G (by have q := cm_thrown l x m1 o; rw [hc0] at q; exact q) kL_67 dL_law_502 rfl rfl rfl rfl (Nat.le_of_ble_eq_true rfl) (fun _ => rfl) ⟨Nat.le_of_ble_eq_true rfl, Nat.le_of_ble_eq_true rfl⟩ ⟨hk3, hk4⟩ ?_
      refine zz_iload G dL_law_505 rfl ?_
      refine zz_icmp_eq (tgt := 512) G dL_law_507 rfl (fun h507 => ?_) (fun h507 => ((absurd h507 (by decide) : False)).elim)
      refine zz_iload G dL_law_512 rfl ?_
      refine zz_if_ne (tgt := 529) G dL_law_514 rfl (fun h514 => ?_) (fun h514 => ((absurd h514 (by decide) : False)).elim)
      refine zz_goto (tgt := 925) G dL_law_529 rfl ?_
      refine zz_few (lv' := [some (.ref 11), some (.ref 0), some (.ref 5), some (.ref 10), some (.int (nI (5 * j))), none, none]) (by exact ⟨rfl, rfl, rfl, rfl, rfl, trivial⟩) ?_
      exact NX x m1 o hR1
    · obtain rfl := Option.some.inj (show some "java/lang/IllegalArgumentException" = some X from hX1)
      have hc0 : fm_code m1 = 2 := hc0
      refine zz_aload_n G dL_law_476 rfl ?_
      refine zz_aload_n G dL_law_477 rfl ?_
      refine zz_iload G dL_law_478 rfl ?_
      refine zz_iconst (v := 1) G dL_law_480 (by decide) ?_
      refine zz_iadd G dL_law_481 ?_
      refine zz_sld (v := xs (5 * j + 1)) G hX hbl h11 hbA dL_law_482 (sc_in 1 hj hL (by decide)) (congrArg xs (sc_at 1 hj hL (by decide))) ?_
      refine zz_aload_n G dL_law_483 rfl ?_
      refine zz_callSWi (v := 2) (w' := (wx x m o)) (As := [.ref 0, .int (xs (5 * j + 1)), .ref 10]) (rest := []) G (ch_turnover_IAE l hfl x m o n (xs (5 * j + 1)) hvc hn (hr m o)) kH_turnover dL_law_484 rfl rfl (Nat.le_of_ble_eq_true rfl) (fun h => by cases h) ⟨Nat.le_of_ble_eq_true rfl, Nat.le_of_ble_eq_true rfl⟩ ⟨hk1, hk2⟩ ?_
      refine zz_istore (lv' := [some (.ref 11), some (.ref 0), some (.ref 5), some (.ref 10), some (.int (nI (5 * j))), some (.int 2), none]) G dL_law_487 (Nat.le_of_ble_eq_true rfl) rfl ?_
      refine zz_aload_n G dL_law_489 rfl ?_
      refine zz_aload_n G dL_law_490 rfl ?_
      refine zz_iload G dL_law_491 rfl ?_
      refine zz_iconst (v := 1) G dL_law_493 (by decide) ?_
      refine zz_iadd G dL_law_494 ?_
      refine zz_sld (v := xs (5 * j + 1)) G hX hbl h11 hbA dL_law_495 (sc_in 1 hj hL (by decide)) (congrArg xs (sc_at 1 hj hL (by decide))) ?_
      refine zz_callVi (v := v) (w' := (wx x m1 o)) (As := [.int (xs (5 * j + 1))]) (rest := []) G (by have q := cm_turnover l x m o (xs (5 * j + 1)) n e hcl hn hen (by omega) hlv; rw [show qTurn x m o n e (xs (5 * j + 1)) = _ from hq x o] at q; exact q) kL_87 dL_law_496 rfl rfl rfl rfl (Nat.le_of_ble_eq_true rfl) (fun h => by cases h) ⟨Nat.le_of_ble_eq_true rfl, Nat.le_of_ble_eq_true rfl⟩ ⟨hk3, hk4⟩ ?_
      refine zz_istore (lv' := [some (.ref 11), some (.ref 0), some (.ref 5), some (.ref 10), some (.int (nI (5 * j))), some (.int 2), some (.int v)]) G dL_law_499 (Nat.le_of_ble_eq_true rfl) rfl ?_
      refine zz_aload_n G dL_law_501 rfl ?_
      refine zz_callVi (v := 2) (w' := (wx x m1 o)) (As := []) (rest := []) G (by have q := cm_thrown l x m1 o; rw [hc0] at q; exact q) kL_67 dL_law_502 rfl rfl rfl rfl (Nat.le_of_ble_eq_true rfl) (fun _ => rfl) ⟨Nat.le_of_ble_eq_true rfl, Nat.le_of_ble_eq_true rfl⟩ ⟨hk3, hk4⟩ ?_
      refine zz_iload G dL_law_505 rfl ?_
      refine zz_icmp_eq (tgt := 512) G dL_law_507 rfl (fun h507 => ?_) (fun h507 => ((absurd h507 (by decide) : False)).elim)
      refine zz_iload G dL_law_512 rfl ?_
      refine zz_if_ne (tgt := 529) G dL_law_514 rfl (fun h514 => ?_) (fun h514 => ((absurd h514 (by decide) : False)).elim)
      refine zz_goto (tgt := 925) G dL_law_529 rfl ?_
      refine zz_few (lv' := [some (.ref 11), some (.ref 0), some (.ref 5), some (.ref 10), some (.int (nI (5 * j))), none, none]) (by exact ⟨rfl, rfl, rfl, rfl, rfl, trivial⟩) ?_
      exact NX x m1 o hR1
    · exact absurd hX1 (by simp)
set_option maxRecDepth 100000 in
set_option maxHeartbeats 4000000 in
theorem lc_open {p : Program} {l : Launch} {e0 : Env} {s : State} {mm : MethodId} {below : List Frame} {meth : Method} {c : Code} {b L : Nat} {xs : Nat → Int32} {D : va_G} {cI cJ : ClassId} {as : Nat → Nat} {Q : State → Prop} (hfl : l.flags = Jvm.pinnedFlags ++ [Jvm.noTraceFlag]) (G : zok p s mm #[Value.ref b] meth c bL_law 7 "AsOfLedgerLaw" D cI cJ as) (hL : L ≤ 2560) (hX : va_X b L xs s s.heap) (hbl : b < s.heap.size) (h11 : as 11 = b) (hbA : ¬ zA as s.heap.size b) {j : Nat} (hj : 5 * j + 5 ≤ L) (NX : ∀ (x : XS) (m : MS) (o : Nat → Int64), Rel x m → Z p l e0 room_1 s mm #[Value.ref b] below meth c 7 D cI cJ as false (11 + j + 1) (1175 + 6 * j + 6) Q 925 [some (.ref 11), some (.ref 0), some (.ref 5), some (.ref 10), some (.int (nI (5 * j))), none, none] [] (wx x m o)) (x : XS) (m : MS) (o : Nat → Int64) (hR : Rel x m) : Z p l e0 room_1 s mm #[Value.ref b] below meth c 7 D cI cJ as false (11 + j) (1175 + 6 * j) Q 532 [some (.ref 11), some (.ref 0), some (.ref 5), some (.ref 10), some (.int (nI (5 * j))), none, none] [] (wx x m o) := by
  obtain ⟨n, e, p1, l1, hN⟩ := hR
  have hM := mt_open hN (xs (5 * j + 1)) (xs (5 * j + 2)) (xs (5 * j + 3)) (xs (5 * j + 4))
  have hlv := rel_live hN
  have hb := rel_b hN
  have hlst := rel_last hN
  have hans := rel_ans hN
  obtain ⟨⟨hn, he, hvc, hec, hcl, hen⟩, ⟨htm, hw, hk, hI⟩, ⟨hl64, hpl, hln, hsz, hch, hpc, hct, hat⟩, hlast, hcur⟩ := hN
  have hk1 : 11 + j + 1 ≤ room_1.cells := by show 11 + j + 1 ≤ 1040; omega
  have hk2 : 1175 + 6 * j + 6 ≤ room_1.slots := by show 1175 + 6 * j + 6 ≤ 9397; omega
  have hk3 : 11 + j + 1 + 1 ≤ room_1.cells := by show 11 + j + 1 + 1 ≤ 1040; omega
  have hk4 : 1175 + 6 * j + 6 + 6 ≤ room_1.slots := by show 1175 + 6 * j + 6 + 6 ≤ 9397; omega
  rcases hM with ⟨v, x1, m1, hr, hq, hc0, hR1⟩ | ⟨kx, X, v, m1, hX1, hr, hq, hc0, hR1⟩
  · refine zz_aload_n G dL_law_532 rfl ?_
    refine zz_aload_n G dL_law_533 rfl ?_
    refine zz_iload G dL_law_534 rfl ?_
    refine zz_iconst (v := 1) G dL_law_536 (by decide) ?_
    refine zz_iadd G dL_law_537 ?_
    refine zz_sld (v := xs (5 * j + 1)) G hX hbl h11 hbA dL_law_538 (sc_in 1 hj hL (by decide)) (congrArg xs (sc_at 1 hj hL (by decide))) ?_
    refine zz_aload_n G dL_law_539 rfl ?_
    refine zz_iload G dL_law_540 rfl ?_
    refine zz_iconst (v := 2) G dL_law_542 (by decide) ?_
    refine zz_iadd G dL_law_543 ?_
    refine zz_sld (v := xs (5 * j + 2)) G hX hbl h11 hbA dL_law_544 (sc_in 2 hj hL (by decide)) (congrArg xs (sc_at 2 hj hL (by decide))) ?_
    refine zz_aload_n G dL_law_545 rfl ?_
    refine zz_iload G dL_law_546 rfl ?_
    refine zz_iconst (v := 3) G dL_law_548 (by decide) ?_
    refine zz_iadd G dL_law_549 ?_
    refine zz_sld (v := xs (5 * j + 3)) G hX hbl h11 hbA dL_law_550 (sc_in 3 hj hL (by decide)) (congrArg xs (sc_at 3 hj hL (by decide))) ?_
    refine zz_aload_n G dL_law_551 rfl ?_
    refine zz_iload G dL_law_552 rfl ?_
    refine zz_iconst (v := 4) G dL_law_554 (by decide) ?_
    refine zz_iadd G dL_law_555 ?_
    refine zz_sld (v := xs (5 * j + 4)) G hX hbl h11 hbA dL_law_556 (sc_in 4 hj hL (by decide)) (congrArg xs (sc_at 4 hj hL (by decide))) ?_
    refine zz_aload_n G dL_law_557 rfl ?_
    refine zz_callSWi (v := 0) (w' := (wx x1 m ((vp_updL o 0 v.toInt64)))) (As := [.ref 0, .int (xs (5 * j + 1)), .int (xs (5 * j + 2)), .int (xs (5 * j + 3)), .int (xs (5 * j + 4)), .ref 10]) (rest := []) G (ch_open_ok l hfl x m o n e (xs (5 * j + 1)) (xs (5 * j + 2)) (xs (5 * j + 3)) (xs (5 * j + 4)) hvc hn hI v x1 (hr m o)) kH_open dL_law_558 rfl rfl (Nat.le_of_ble_eq_true rfl) (fun h => by cases h) ⟨Nat.le_of_ble_eq_true rfl, Nat.le_of_ble_eq_true rfl⟩ ⟨hk1, hk2⟩ ?_
    refine zz_istore (lv' := [some (.ref 11), some (.ref 0), some (.ref 5), some (.ref 10), some (.int (nI (5 * j))), some (.int 0), none]) G dL_law_561 (Nat.le_of_ble_eq_true rfl) rfl ?_
    refine zz_aload_n G dL_law_563 rfl ?_
    refine zz_aload_n G dL_law_564 rfl ?_
    refine zz_iload G dL_law_565 rfl ?_
    refine zz_iconst (v := 1) G dL_law_567 (by decide) ?_
    refine zz_iadd G dL_law_568 ?_
    refine zz_sld (v := xs (5 * j + 1)) G hX hbl h11 hbA dL_law_569 (sc_in 1 hj hL (by decide)) (congrArg xs (sc_at 1 hj hL (by decide))) ?_
    refine zz_aload_n G dL_law_570 rfl ?_
    refine zz_iload G dL_law_571 rfl ?_
    refine zz_iconst (v := 2) G dL_law_573 (by decide) ?_
    refine zz_iadd G dL_law_574 ?_
    refine zz_sld (v := xs (5 * j + 2)) G hX hbl h11 hbA dL_law_575 (sc_in 2 hj hL (by decide)) (congrArg xs (sc_at 2 hj hL (by decide))) ?_
    refine zz_aload_n G dL_law_576 rfl ?_
    refine zz_iload G dL_law_577 rfl ?_
    refine zz_iconst (v := 3) G dL_law_579 (by decide) ?_
    refine zz_iadd G dL_law_580 ?_
    refine zz_sld (v := xs (5 * j + 3)) G hX hbl h11 hbA dL_law_581 (sc_in 3 hj hL (by decide)) (congrArg xs (sc_at 3 hj hL (by decide))) ?_
    refine zz_aload_n G dL_law_582 rfl ?_
    refine zz_iload G dL_law_583 rfl ?_
    refine zz_iconst (v := 4) G dL_law_585 (by decide) ?_
    refine zz_iadd G dL_law_586 ?_
    refine zz_sld (v := xs (5 * j + 4)) G hX hbl h11 hbA dL_law_587 (sc_in 4 hj hL (by decide)) (congrArg xs (sc_at 4 hj hL (by decide))) ?_
    refine zz_callVi (v := v) (w' := (wx x1 m1 ((vp_updL o 0 v.toInt64)))) (As := [.int (xs (5 * j + 1)), .int (xs (5 * j + 2)), .int (xs (5 * j + 3)), .int (xs (5 * j + 4))]) (rest := []) G (by have q := cm_open l x1 m (vp_updL o 0 v.toInt64) (xs (5 * j + 1)) (xs (5 * j + 2)) (xs (5 * j + 3)) (xs (5 * j + 4)) n e hcl hn hen (by omega); rw [show qOpen x1 m (vp_updL o 0 v.toInt64) e (xs (5 * j + 1)) (xs (5 * j + 2)) (xs (5 * j + 3)) (xs (5 * j + 4)) = _ from hq x1 (vp_updL o 0 v.toInt64)] at q; exact q) kL_90 dL_law_588 rfl rfl rfl rfl (Nat.le_of_ble_eq_true rfl) (fun h => by cases h) ⟨Nat.le_of_ble_eq_true rfl, Nat.le_of_ble_eq_true rfl⟩ ⟨hk3, hk4⟩ ?_
    refine zz_istore (lv' := [some (.ref 11), some (.ref 0), some (.ref 5), some (.ref 10), some (.int (nI (5 * j))), some (.int 0), some (.int v)]) G dL_law_591 (Nat.le_of_ble_eq_true rfl) rfl ?_
    refine zz_aload_n G dL_law_593 rfl ?_
    refine zz_callVi (v := 0) (w' := (wx x1 m1 ((vp_updL o 0 v.toInt64)))) (As := []) (rest := []) G (by have q := cm_thrown l x1 m1 (vp_updL o 0 v.toInt64); rw [hc0] at q; exact q) kL_67 dL_law_594 rfl rfl rfl rfl (Nat.le_of_ble_eq_true rfl) (fun _ => rfl) ⟨Nat.le_of_ble_eq_true rfl, Nat.le_of_ble_eq_true rfl⟩ ⟨hk3, hk4⟩ ?_
    refine zz_iload G dL_law_597 rfl ?_
    refine zz_icmp_eq (tgt := 604) G dL_law_599 rfl (fun h599 => ?_) (fun h599 => ((absurd h599 (by decide) : False)).elim)
    refine zz_iload G dL_law_604 rfl ?_
    refine zz_if_ne (tgt := 621) G dL_law_606 rfl (fun h606 => ((absurd h606 (by decide) : False)).elim) (fun h606 => ?_)
    refine zz_aload_n G dL_law_609 rfl ?_
    refine zz_iconst (v := 0) G dL_law_610 (by decide) ?_
    refine zz_lald (v := v.toInt64) G dL_law_611 rfl (by rw [← nI_0]; exact vp_in_nI (by omega) (by omega)) (if_pos rfl) ?_
    refine zz_iload G dL_law_612 rfl ?_
    refine zz_i2l G dL_law_614 ?_
    refine zz_lcmp G dL_law_615 ?_
    refine zz_if_eq (tgt := 621) G dL_law_616 rfl (fun h616 => ?_) (fun h616 => (h616 ((lg_cmp_eq _ _).mpr rfl)).elim)
    refine zz_goto (tgt := 925) G dL_law_621 rfl ?_
    refine zz_few (lv' := [some (.ref 11), some (.ref 0), some (.ref 5), some (.ref 10), some (.int (nI (5 * j))), none, none]) (by exact ⟨rfl, rfl, rfl, rfl, rfl, trivial⟩) ?_
    exact NX x1 m1 (vp_updL o 0 v.toInt64) hR1
  · rcases kx with _ | _ | kx
    · obtain rfl := Option.some.inj (show some "java/lang/IllegalStateException" = some X from hX1)
      have hc0 : fm_code m1 = 1 := hc0
      refine zz_aload_n G dL_law_532 rfl ?_
      refine zz_aload_n G dL_law_533 rfl ?_
      refine zz_iload G dL_law_534 rfl ?_
      refine zz_iconst (v := 1) G dL_law_536 (by decide) ?_
      refine zz_iadd G dL_law_537 ?_
      refine zz_sld (v := xs (5 * j + 1)) G hX hbl h11 hbA dL_law_538 (sc_in 1 hj hL (by decide)) (congrArg xs (sc_at 1 hj hL (by decide))) ?_
      refine zz_aload_n G dL_law_539 rfl ?_
      refine zz_iload G dL_law_540 rfl ?_
      refine zz_iconst (v := 2) G dL_law_542 (by decide) ?_
      refine zz_iadd G dL_law_543 ?_
      refine zz_sld (v := xs (5 * j + 2)) G hX hbl h11 hbA dL_law_544 (sc_in 2 hj hL (by decide)) (congrArg xs (sc_at 2 hj hL (by decide))) ?_
      refine zz_aload_n G dL_law_545 rfl ?_
      refine zz_iload G dL_law_546 rfl ?_
      refine zz_iconst (v := 3) G dL_law_548 (by decide) ?_
      refine zz_iadd G dL_law_549 ?_
      refine zz_sld (v := xs (5 * j + 3)) G hX hbl h11 hbA dL_law_550 (sc_in 3 hj hL (by decide)) (congrArg xs (sc_at 3 hj hL (by decide))) ?_
      refine zz_aload_n G dL_law_551 rfl ?_
      refine zz_iload G dL_law_552 rfl ?_
      refine zz_iconst (v := 4) G dL_law_554 (by decide) ?_
      refine zz_iadd G dL_law_555 ?_
      refine zz_sld (v := xs (5 * j + 4)) G hX hbl h11 hbA dL_law_556 (sc_in 4 hj hL (by decide)) (congrArg xs (sc_at 4 hj hL (by decide))) ?_
      refine zz_aload_n G dL_law_557 rfl ?_
      refine zz_callSWi (v := 1) (w' := (wx x m o)) (As := [.ref 0, .int (xs (5 * j + 1)), .int (xs (5 * j + 2)), .int (xs (5 * j + 3)), .int (xs (5 * j + 4)), .ref 10]) (rest := []) G (ch_open_ISE l hfl x m o n e (xs (5 * j + 1)) (xs (5 * j + 2)) (xs (5 * j + 3)) (xs (5 * j + 4)) hvc hn hI (hr m o)) kH_open dL_law_558 rfl rfl (Nat.le_of_ble_eq_true rfl) (fun h => by cases h) ⟨Nat.le_of_ble_eq_true rfl, Nat.le_of_ble_eq_true rfl⟩ ⟨hk1, hk2⟩ ?_
      refine zz_istore (lv' := [some (.ref 11), some (.ref 0), some (.ref 5), some (.ref 10), some (.int (nI (5 * j))), some (.int 1), none]) G dL_law_561 (Nat.le_of_ble_eq_true rfl) rfl ?_
      refine zz_aload_n G dL_law_563 rfl ?_
      refine zz_aload_n G dL_law_564 rfl ?_
      refine zz_iload G dL_law_565 rfl ?_
      refine zz_iconst (v := 1) G dL_law_567 (by decide) ?_
      refine zz_iadd G dL_law_568 ?_
      refine zz_sld (v := xs (5 * j + 1)) G hX hbl h11 hbA dL_law_569 (sc_in 1 hj hL (by decide)) (congrArg xs (sc_at 1 hj hL (by decide))) ?_
      refine zz_aload_n G dL_law_570 rfl ?_
      refine zz_iload G dL_law_571 rfl ?_
      refine zz_iconst (v := 2) G dL_law_573 (by decide) ?_
      refine zz_iadd G dL_law_574 ?_
      refine zz_sld (v := xs (5 * j + 2)) G hX hbl h11 hbA dL_law_575 (sc_in 2 hj hL (by decide)) (congrArg xs (sc_at 2 hj hL (by decide))) ?_
      refine zz_aload_n G dL_law_576 rfl ?_
      refine zz_iload G dL_law_577 rfl ?_
      refine zz_iconst (v := 3) G dL_law_579 (by decide) ?_
      refine zz_iadd G dL_law_580 ?_
      refine zz_sld (v := xs (5 * j + 3)) G hX hbl h11 hbA dL_law_581 (sc_in 3 hj hL (by decide)) (congrArg xs (sc_at 3 hj hL (by decide))) ?_
      refine zz_aload_n G dL_law_582 rfl ?_
      refine zz_iload G dL_law_583 rfl ?_
      refine zz_iconst (v := 4) G dL_law_585 (by decide) ?_
      refine zz_iadd G dL_law_586 ?_
      refine zz_sld (v := xs (5 * j + 4)) G hX hbl h11 hbA dL_law_587 (sc_in 4 hj hL (by decide)) (congrArg xs (sc_at 4 hj hL (by decide))) ?_
      refine zz_callVi (v := v) (w' := (wx x m1 o)) (As := [.int (xs (5 * j + 1)), .int (xs (5 * j + 2)), .int (xs (5 * j + 3)), .int (xs (5 * j + 4))]) (rest := []) G (by have q := cm_open l x m o (xs (5 * j + 1)) (xs (5 * j + 2)) (xs (5 * j + 3)) (xs (5 * j + 4)) n e hcl hn hen (by omega); rw [show qOpen x m o e (xs (5 * j + 1)) (xs (5 * j + 2)) (xs (5 * j + 3)) (xs (5 * j + 4)) = _ from hq x o] at q; exact q) kL_90 dL_law_588 rfl rfl rfl rfl (Nat.le_of_ble_eq_true rfl) (fun h => by cases h) ⟨Nat.le_of_ble_eq_true rfl, Nat.le_of_ble_eq_true rfl⟩ ⟨hk3, hk4⟩ ?_
      refine zz_istore (lv' := [some (.ref 11), some (.ref 0), some (.ref 5), some (.ref 10), some (.int (nI (5 * j))), some (.int 1), some (.int v)]) G dL_law_591 (Nat.le_of_ble_eq_true rfl) rfl ?_
      refine zz_aload_n G dL_law_593 rfl ?_
      refine zz_callVi (v := 1) (w' := (wx x m1 o)) (As := []) (rest := []) G (by have q := cm_thrown l x m1 o; rw [hc0] at q; exact q) kL_67 dL_law_594 rfl rfl rfl rfl (Nat.le_of_ble_eq_true rfl) (fun _ => rfl) ⟨Nat.le_of_ble_eq_true rfl, Nat.le_of_ble_eq_true rfl⟩ ⟨hk3, hk4⟩ ?_
      refine zz_iload G dL_law_597 rfl ?_
      refine zz_icmp_eq (tgt := 604) G dL_law_599 rfl (fun h599 => ?_) (fun h599 => ((absurd h599 (by decide) : False)).elim)
      refine zz_iload G dL_law_604 rfl ?_
      refine zz_if_ne (tgt := 621) G dL_law_606 rfl (fun h606 => ?_) (fun h606 => ((absurd h606 (by decide) : False)).elim)
      refine zz_goto (tgt := 925) G dL_law_621 rfl ?_
      refine zz_few (lv' := [some (.ref 11), some (.ref 0), some (.ref 5), some (.ref 10), some (.int (nI (5 * j))), none, none]) (by exact ⟨rfl, rfl, rfl, rfl, rfl, trivial⟩) ?_
      exact NX x m1 o hR1
    · obtain rfl := Option.some.inj (show some "java/lang/IllegalArgumentException" = some X from hX1)
      have hc0 : fm_code m1 = 2 := hc0
      refine zz_aload_n G dL_law_532 rfl ?_
      refine zz_aload_n G dL_law_533 rfl ?_
      refine zz_iload G dL_law_534 rfl ?_
      refine zz_iconst (v := 1) G dL_law_536 (by decide) ?_
      refine zz_iadd G dL_law_537 ?_
      refine zz_sld (v := xs (5 * j + 1)) G hX hbl h11 hbA dL_law_538 (sc_in 1 hj hL (by decide)) (congrArg xs (sc_at 1 hj hL (by decide))) ?_
      refine zz_aload_n G dL_law_539 rfl ?_
      refine zz_iload G dL_law_540 rfl ?_
      refine zz_iconst (v := 2) G dL_law_542 (by decide) ?_
      refine zz_iadd G dL_law_543 ?_
      refine zz_sld (v := xs (5 * j + 2)) G hX hbl h11 hbA dL_law_544 (sc_in 2 hj hL (by decide)) (congrArg xs (sc_at 2 hj hL (by decide))) ?_
      refine zz_aload_n G dL_law_545 rfl ?_
      refine zz_iload G dL_law_546 rfl ?_
      refine zz_iconst (v := 3) G dL_law_548 (by decide) ?_
      refine zz_iadd G dL_law_549 ?_
      refine zz_sld (v := xs (5 * j + 3)) G hX hbl h11 hbA dL_law_550 (sc_in 3 hj hL (by decide)) (congrArg xs (sc_at 3 hj hL (by decide))) ?_
      refine zz_aload_n G dL_law_551 rfl ?_
      refine zz_iload G dL_law_552 rfl ?_
      refine zz_iconst (v := 4) G dL_law_554 (by decide) ?_
      refine zz_iadd G dL_law_555 ?_
      refine zz_sld (v := xs (5 * j + 4)) G hX hbl h11 hbA dL_law_556 (sc_in 4 hj hL (by decide)) (congrArg xs (sc_at 4 hj hL (by decide))) ?_
      refine zz_aload_n G dL_law_557 rfl ?_
      refine zz_callSWi (v := 2) (w' := (wx x m o)) (As := [.ref 0, .int (xs (5 * j + 1)), .int (xs (5 * j + 2)), .int (xs (5 * j + 3)), .int (xs (5 * j + 4)), .ref 10]) (rest := []) G (ch_open_IAE l hfl x m o n e (xs (5 * j + 1)) (xs (5 * j + 2)) (xs (5 * j + 3)) (xs (5 * j + 4)) hvc hn hI (hr m o)) kH_open dL_law_558 rfl rfl (Nat.le_of_ble_eq_true rfl) (fun h => by cases h) ⟨Nat.le_of_ble_eq_true rfl, Nat.le_of_ble_eq_true rfl⟩ ⟨hk1, hk2⟩ ?_
      refine zz_istore (lv' := [some (.ref 11), some (.ref 0), some (.ref 5), some (.ref 10), some (.int (nI (5 * j))), some (.int 2), none]) G dL_law_561 (Nat.le_of_ble_eq_true rfl) rfl ?_
      refine zz_aload_n G dL_law_563 rfl ?_
      refine zz_aload_n G dL_law_564 rfl ?_
      refine zz_iload G dL_law_565 rfl ?_
      refine zz_iconst (v := 1) G dL_law_567 (by decide) ?_
      refine zz_iadd G dL_law_568 ?_
      refine zz_sld (v := xs (5 * j + 1)) G hX hbl h11 hbA dL_law_569 (sc_in 1 hj hL (by decide)) (congrArg xs (sc_at 1 hj hL (by decide))) ?_
      refine zz_aload_n G dL_law_570 rfl ?_
      refine zz_iload G dL_law_571 rfl ?_
      refine zz_iconst (v := 2) G dL_law_573 (by decide) ?_
      refine zz_iadd G dL_law_574 ?_
      refine zz_sld (v := xs (5 * j + 2)) G hX hbl h11 hbA dL_law_575 (sc_in 2 hj hL (by decide)) (congrArg xs (sc_at 2 hj hL (by decide))) ?_
      refine zz_aload_n G dL_law_576 rfl ?_
      refine zz_iload G dL_law_577 rfl ?_
      refine zz_iconst (v := 3) G dL_law_579 (by decide) ?_
      refine zz_iadd G dL_law_580 ?_
      refine zz_sld (v := xs (5 * j + 3)) G hX hbl h11 hbA dL_law_581 (sc_in 3 hj hL (by decide)) (congrArg xs (sc_at 3 hj hL (by decide))) ?_
      refine zz_aload_n G dL_law_582 rfl ?_
      refine zz_iload G dL_law_583 rfl ?_
      refine zz_iconst (v := 4) G dL_law_585 (by decide) ?_
      refine zz_iadd G dL_law_586 ?_
      refine zz_sld (v := xs (5 * j + 4)) G hX hbl h11 hbA dL_law_587 (sc_in 4 hj hL (by decide)) (congrArg xs (sc_at 4 hj hL (by decide))) ?_
      refine zz_callVi (v := v) (w' := (wx x m1 o)) (As := [.int (xs (5 * j + 1)), .int (xs (5 * j + 2)), .int (xs (5 * j + 3)), .int (xs (5 * j + 4))]) (rest := []) G (by have q := cm_open l x m o (xs (5 * j + 1)) (xs (5 * j + 2)) (xs (5 * j + 3)) (xs (5 * j + 4)) n e hcl hn hen (by omega); rw [show qOpen x m o e (xs (5 * j + 1)) (xs (5 * j + 2)) (xs (5 * j + 3)) (xs (5 * j + 4)) = _ from hq x o] at q; exact q) kL_90 dL_law_588 rfl rfl rfl rfl (Nat.le_of_ble_eq_true rfl) (fun h => by cases h) ⟨Nat.le_of_ble_eq_true rfl, Nat.le_of_ble_eq_true rfl⟩ ⟨hk3, hk4⟩ ?_
      refine zz_istore (lv' := [some (.ref 11), some (.ref 0), some (.ref 5), some (.ref 10), some (.int (nI (5 * j))), some (.int 2), some (.int v)]) G dL_law_591 (Nat.le_of_ble_eq_true rfl) rfl ?_
      refine zz_aload_n G dL_law_593 rfl ?_
      refine zz_callVi (v := 2) (w' := (wx x m1 o)) (As := []) (rest := []) G (by have q := cm_thrown l x m1 o; rw [hc0] at q; exact q) kL_67 dL_law_594 rfl rfl rfl rfl (Nat.le_of_ble_eq_true rfl) (fun _ => rfl) ⟨Nat.le_of_ble_eq_true rfl, Nat.le_of_ble_eq_true rfl⟩ ⟨hk3, hk4⟩ ?_
      refine zz_iload G dL_law_597 rfl ?_
      refine zz_icmp_eq (tgt := 604) G dL_law_599 rfl (fun h599 => ?_) (fun h599 => ((absurd h599 (by decide) : False)).elim)
      refine zz_iload G dL_law_604 rfl ?_
      refine zz_if_ne (tgt := 621) G dL_law_606 rfl (fun h606 => ?_) (fun h606 => ((absurd h606 (by decide) : False)).elim)
      refine zz_goto (tgt := 925) G dL_law_621 rfl ?_
      refine zz_few (lv' := [some (.ref 11), some (.ref 0), some (.ref 5), some (.ref 10), some (.int (nI (5 * j))), none, none]) (by exact ⟨rfl, rfl, rfl, rfl, rfl, trivial⟩) ?_
      exact NX x m1 o hR1
    · exact absurd hX1 (by simp)
set_option maxRecDepth 100000 in
set_option maxHeartbeats 4000000 in
theorem lc_next {p : Program} {l : Launch} {e0 : Env} {s : State} {mm : MethodId} {below : List Frame} {meth : Method} {c : Code} {b L : Nat} {xs : Nat → Int32} {D : va_G} {cI cJ : ClassId} {as : Nat → Nat} {Q : State → Prop} (hfl : l.flags = Jvm.pinnedFlags ++ [Jvm.noTraceFlag]) (G : zok p s mm #[Value.ref b] meth c bL_law 7 "AsOfLedgerLaw" D cI cJ as) (hL : L ≤ 2560) (hX : va_X b L xs s s.heap) (hbl : b < s.heap.size) (h11 : as 11 = b) (hbA : ¬ zA as s.heap.size b) {j : Nat} (hj : 5 * j + 5 ≤ L) (NX : ∀ (x : XS) (m : MS) (o : Nat → Int64), Rel x m → Z p l e0 room_1 s mm #[Value.ref b] below meth c 7 D cI cJ as false (11 + j + 1) (1175 + 6 * j + 6) Q 925 [some (.ref 11), some (.ref 0), some (.ref 5), some (.ref 10), some (.int (nI (5 * j))), none, none] [] (wx x m o)) (x : XS) (m : MS) (o : Nat → Int64) (hR : Rel x m) : Z p l e0 room_1 s mm #[Value.ref b] below meth c 7 D cI cJ as false (11 + j) (1175 + 6 * j) Q 624 [some (.ref 11), some (.ref 0), some (.ref 5), some (.ref 10), some (.int (nI (5 * j))), none, none] [] (wx x m o) := by
  obtain ⟨n, e, p1, l1, hN⟩ := hR
  have hM := mt_next hN 
  have hlv := rel_live hN
  have hb := rel_b hN
  have hlst := rel_last hN
  have hans := rel_ans hN
  obtain ⟨⟨hn, he, hvc, hec, hcl, hen⟩, ⟨htm, hw, hk, hI⟩, ⟨hl64, hpl, hln, hsz, hch, hpc, hct, hat⟩, hlast, hcur⟩ := hN
  have hk1 : 11 + j + 1 ≤ room_1.cells := by show 11 + j + 1 ≤ 1040; omega
  have hk2 : 1175 + 6 * j + 6 ≤ room_1.slots := by show 1175 + 6 * j + 6 ≤ 9397; omega
  have hk3 : 11 + j + 1 + 1 ≤ room_1.cells := by show 11 + j + 1 + 1 ≤ 1040; omega
  have hk4 : 1175 + 6 * j + 6 + 6 ≤ room_1.slots := by show 1175 + 6 * j + 6 + 6 ≤ 9397; omega
  rcases hM with ⟨v, x1, m1, hr, hq, hc0, hR1⟩ | ⟨kx, X, v, m1, hX1, hr, hq, hc0, hR1⟩
  · refine zz_aload_n G dL_law_624 rfl ?_
    refine zz_aload_n G dL_law_625 rfl ?_
    refine zz_callSWi (v := 0) (w' := (wx x1 m ((vp_updL o 0 v.toInt64)))) (As := [.ref 0, .ref 10]) (rest := []) G (ch_next_ok l hfl x m o p1 l1.length (by omega) hpc hsz hl64 hb v x1 (hr m o)) kH_next dL_law_626 rfl rfl (Nat.le_of_ble_eq_true rfl) (fun h => by cases h) ⟨Nat.le_of_ble_eq_true rfl, Nat.le_of_ble_eq_true rfl⟩ ⟨hk1, hk2⟩ ?_
    refine zz_istore (lv' := [some (.ref 11), some (.ref 0), some (.ref 5), some (.ref 10), some (.int (nI (5 * j))), some (.int 0), none]) G dL_law_629 (Nat.le_of_ble_eq_true rfl) rfl ?_
    refine zz_aload_n G dL_law_631 rfl ?_
    refine zz_callVi (v := v) (w' := (wx x1 m1 ((vp_updL o 0 v.toInt64)))) (As := []) (rest := []) G (by have q := cm_next l x1 m (vp_updL o 0 v.toInt64) p1 l1.length (by omega) hat hct hl64; rw [show qNext x1 m (vp_updL o 0 v.toInt64) = _ from hq x1 (vp_updL o 0 v.toInt64)] at q; exact q) kL_94 dL_law_632 rfl rfl rfl rfl (Nat.le_of_ble_eq_true rfl) (fun h => by cases h) ⟨Nat.le_of_ble_eq_true rfl, Nat.le_of_ble_eq_true rfl⟩ ⟨hk3, hk4⟩ ?_
    refine zz_istore (lv' := [some (.ref 11), some (.ref 0), some (.ref 5), some (.ref 10), some (.int (nI (5 * j))), some (.int 0), some (.int v)]) G dL_law_635 (Nat.le_of_ble_eq_true rfl) rfl ?_
    refine zz_aload_n G dL_law_637 rfl ?_
    refine zz_callVi (v := 0) (w' := (wx x1 m1 ((vp_updL o 0 v.toInt64)))) (As := []) (rest := []) G (by have q := cm_thrown l x1 m1 (vp_updL o 0 v.toInt64); rw [hc0] at q; exact q) kL_67 dL_law_638 rfl rfl rfl rfl (Nat.le_of_ble_eq_true rfl) (fun _ => rfl) ⟨Nat.le_of_ble_eq_true rfl, Nat.le_of_ble_eq_true rfl⟩ ⟨hk3, hk4⟩ ?_
    refine zz_iload G dL_law_641 rfl ?_
    refine zz_icmp_eq (tgt := 648) G dL_law_643 rfl (fun h643 => ?_) (fun h643 => ((absurd h643 (by decide) : False)).elim)
    refine zz_iload G dL_law_648 rfl ?_
    refine zz_if_ne (tgt := 665) G dL_law_650 rfl (fun h650 => ((absurd h650 (by decide) : False)).elim) (fun h650 => ?_)
    refine zz_aload_n G dL_law_653 rfl ?_
    refine zz_iconst (v := 0) G dL_law_654 (by decide) ?_
    refine zz_lald (v := v.toInt64) G dL_law_655 rfl (by rw [← nI_0]; exact vp_in_nI (by omega) (by omega)) (if_pos rfl) ?_
    refine zz_iload G dL_law_656 rfl ?_
    refine zz_i2l G dL_law_658 ?_
    refine zz_lcmp G dL_law_659 ?_
    refine zz_if_eq (tgt := 665) G dL_law_660 rfl (fun h660 => ?_) (fun h660 => (h660 ((lg_cmp_eq _ _).mpr rfl)).elim)
    refine zz_goto (tgt := 925) G dL_law_665 rfl ?_
    refine zz_few (lv' := [some (.ref 11), some (.ref 0), some (.ref 5), some (.ref 10), some (.int (nI (5 * j))), none, none]) (by exact ⟨rfl, rfl, rfl, rfl, rfl, trivial⟩) ?_
    exact NX x1 m1 (vp_updL o 0 v.toInt64) hR1
  · rcases kx with _ | kx
    · obtain rfl := Option.some.inj (show some "java/lang/IllegalStateException" = some X from hX1)
      have hc0 : fm_code m1 = 1 := hc0
      refine zz_aload_n G dL_law_624 rfl ?_
      refine zz_aload_n G dL_law_625 rfl ?_
      refine zz_callSWi (v := 1) (w' := (wx x m o)) (As := [.ref 0, .ref 10]) (rest := []) G (ch_next_ISE l hfl x m o p1 l1.length (by omega) hpc hsz hl64 hb (hr m o)) kH_next dL_law_626 rfl rfl (Nat.le_of_ble_eq_true rfl) (fun h => by cases h) ⟨Nat.le_of_ble_eq_true rfl, Nat.le_of_ble_eq_true rfl⟩ ⟨hk1, hk2⟩ ?_
      refine zz_istore (lv' := [some (.ref 11), some (.ref 0), some (.ref 5), some (.ref 10), some (.int (nI (5 * j))), some (.int 1), none]) G dL_law_629 (Nat.le_of_ble_eq_true rfl) rfl ?_
      refine zz_aload_n G dL_law_631 rfl ?_
      refine zz_callVi (v := v) (w' := (wx x m1 o)) (As := []) (rest := []) G (by have q := cm_next l x m o p1 l1.length (by omega) hat hct hl64; rw [show qNext x m o = _ from hq x o] at q; exact q) kL_94 dL_law_632 rfl rfl rfl rfl (Nat.le_of_ble_eq_true rfl) (fun h => by cases h) ⟨Nat.le_of_ble_eq_true rfl, Nat.le_of_ble_eq_true rfl⟩ ⟨hk3, hk4⟩ ?_
      refine zz_istore (lv' := [some (.ref 11), some (.ref 0), some (.ref 5), some (.ref 10), some (.int (nI (5 * j))), some (.int 1), some (.int v)]) G dL_law_635 (Nat.le_of_ble_eq_true rfl) rfl ?_
      refine zz_aload_n G dL_law_637 rfl ?_
      refine zz_callVi (v := 1) (w' := (wx x m1 o)) (As := []) (rest := []) G (by have q := cm_thrown l x m1 o; rw [hc0] at q; exact q) kL_67 dL_law_638 rfl rfl rfl rfl (Nat.le_of_ble_eq_true rfl) (fun _ => rfl) ⟨Nat.le_of_ble_eq_true rfl, Nat.le_of_ble_eq_true rfl⟩ ⟨hk3, hk4⟩ ?_
      refine zz_iload G dL_law_641 rfl ?_
      refine zz_icmp_eq (tgt := 648) G dL_law_643 rfl (fun h643 => ?_) (fun h643 => ((absurd h643 (by decide) : False)).elim)
      refine zz_iload G dL_law_648 rfl ?_
      refine zz_if_ne (tgt := 665) G dL_law_650 rfl (fun h650 => ?_) (fun h650 => ((absurd h650 (by decide) : False)).elim)
      refine zz_goto (tgt := 925) G dL_law_665 rfl ?_
      refine zz_few (lv' := [some (.ref 11), some (.ref 0), some (.ref 5), some (.ref 10), some (.int (nI (5 * j))), none, none]) (by exact ⟨rfl, rfl, rfl, rfl, rfl, trivial⟩) ?_
      exact NX x m1 o hR1
    · exact absurd hX1 (by simp)
set_option maxRecDepth 100000 in
set_option maxHeartbeats 4000000 in
theorem lc_moved {p : Program} {l : Launch} {e0 : Env} {s : State} {mm : MethodId} {below : List Frame} {meth : Method} {c : Code} {b L : Nat} {xs : Nat → Int32} {D : va_G} {cI cJ : ClassId} {as : Nat → Nat} {Q : State → Prop} (hfl : l.flags = Jvm.pinnedFlags ++ [Jvm.noTraceFlag]) (G : zok p s mm #[Value.ref b] meth c bL_law 7 "AsOfLedgerLaw" D cI cJ as) (hL : L ≤ 2560) (hX : va_X b L xs s s.heap) (hbl : b < s.heap.size) (h11 : as 11 = b) (hbA : ¬ zA as s.heap.size b) {j : Nat} (hj : 5 * j + 5 ≤ L) (NX : ∀ (x : XS) (m : MS) (o : Nat → Int64), Rel x m → Z p l e0 room_1 s mm #[Value.ref b] below meth c 7 D cI cJ as false (11 + j + 1) (1175 + 6 * j + 6) Q 925 [some (.ref 11), some (.ref 0), some (.ref 5), some (.ref 10), some (.int (nI (5 * j))), none, none] [] (wx x m o)) (x : XS) (m : MS) (o : Nat → Int64) (hR : Rel x m) : Z p l e0 room_1 s mm #[Value.ref b] below meth c 7 D cI cJ as false (11 + j) (1175 + 6 * j) Q 668 [some (.ref 11), some (.ref 0), some (.ref 5), some (.ref 10), some (.int (nI (5 * j))), none, none] [] (wx x m o) := by
  obtain ⟨n, e, p1, l1, hN⟩ := hR
  have hM := mt_moved hN 
  have hlv := rel_live hN
  have hb := rel_b hN
  have hlst := rel_last hN
  have hans := rel_ans hN
  obtain ⟨⟨hn, he, hvc, hec, hcl, hen⟩, ⟨htm, hw, hk, hI⟩, ⟨hl64, hpl, hln, hsz, hch, hpc, hct, hat⟩, hlast, hcur⟩ := hN
  have hk1 : 11 + j + 1 ≤ room_1.cells := by show 11 + j + 1 ≤ 1040; omega
  have hk2 : 1175 + 6 * j + 6 ≤ room_1.slots := by show 1175 + 6 * j + 6 ≤ 9397; omega
  have hk3 : 11 + j + 1 + 1 ≤ room_1.cells := by show 11 + j + 1 + 1 ≤ 1040; omega
  have hk4 : 1175 + 6 * j + 6 + 6 ≤ room_1.slots := by show 1175 + 6 * j + 6 + 6 ≤ 9397; omega
  rcases hM with ⟨v, x1, m1, hr, hq, hc0, hR1⟩ | ⟨kx, X, v, m1, hX1, hr, hq, hc0, hR1⟩
  · refine zz_aload_n G dL_law_668 rfl ?_
    refine zz_aload_n G dL_law_669 rfl ?_
    refine zz_callSWi (v := 0) (w' := (wx x1 m ((vp_updL o 0 v.toInt64)))) (As := [.ref 0, .ref 10]) (rest := []) G (ch_moved_ok l hfl x m o hlst v x1 (hr m o)) kH_moved dL_law_670 rfl rfl (Nat.le_of_ble_eq_true rfl) (fun h => by cases h) ⟨Nat.le_of_ble_eq_true rfl, Nat.le_of_ble_eq_true rfl⟩ ⟨hk1, hk2⟩ ?_
    refine zz_istore (lv' := [some (.ref 11), some (.ref 0), some (.ref 5), some (.ref 10), some (.int (nI (5 * j))), some (.int 0), none]) G dL_law_673 (Nat.le_of_ble_eq_true rfl) rfl ?_
    refine zz_aload_n G dL_law_675 rfl ?_
    refine zz_callVi (v := v) (w' := (wx x1 m1 ((vp_updL o 0 v.toInt64)))) (As := []) (rest := []) G (by have q := cm_moved l x1 m (vp_updL o 0 v.toInt64) hans; rw [show qMoved x1 m (vp_updL o 0 v.toInt64) = _ from hq x1 (vp_updL o 0 v.toInt64)] at q; exact q) kL_97 dL_law_676 rfl rfl rfl rfl (Nat.le_of_ble_eq_true rfl) (fun h => by cases h) ⟨Nat.le_of_ble_eq_true rfl, Nat.le_of_ble_eq_true rfl⟩ ⟨hk3, hk4⟩ ?_
    refine zz_istore (lv' := [some (.ref 11), some (.ref 0), some (.ref 5), some (.ref 10), some (.int (nI (5 * j))), some (.int 0), some (.int v)]) G dL_law_679 (Nat.le_of_ble_eq_true rfl) rfl ?_
    refine zz_aload_n G dL_law_681 rfl ?_
    refine zz_callVi (v := 0) (w' := (wx x1 m1 ((vp_updL o 0 v.toInt64)))) (As := []) (rest := []) G (by have q := cm_thrown l x1 m1 (vp_updL o 0 v.toInt64); rw [hc0] at q; exact q) kL_67 dL_law_682 rfl rfl rfl rfl (Nat.le_of_ble_eq_true rfl) (fun _ => rfl) ⟨Nat.le_of_ble_eq_true rfl, Nat.le_of_ble_eq_true rfl⟩ ⟨hk3, hk4⟩ ?_
    refine zz_iload G dL_law_685 rfl ?_
    refine zz_icmp_eq (tgt := 692) G dL_law_687 rfl (fun h687 => ?_) (fun h687 => ((absurd h687 (by decide) : False)).elim)
    refine zz_iload G dL_law_692 rfl ?_
    refine zz_if_ne (tgt := 709) G dL_law_694 rfl (fun h694 => ((absurd h694 (by decide) : False)).elim) (fun h694 => ?_)
    refine zz_aload_n G dL_law_697 rfl ?_
    refine zz_iconst (v := 0) G dL_law_698 (by decide) ?_
    refine zz_lald (v := v.toInt64) G dL_law_699 rfl (by rw [← nI_0]; exact vp_in_nI (by omega) (by omega)) (if_pos rfl) ?_
    refine zz_iload G dL_law_700 rfl ?_
    refine zz_i2l G dL_law_702 ?_
    refine zz_lcmp G dL_law_703 ?_
    refine zz_if_eq (tgt := 709) G dL_law_704 rfl (fun h704 => ?_) (fun h704 => (h704 ((lg_cmp_eq _ _).mpr rfl)).elim)
    refine zz_goto (tgt := 925) G dL_law_709 rfl ?_
    refine zz_few (lv' := [some (.ref 11), some (.ref 0), some (.ref 5), some (.ref 10), some (.int (nI (5 * j))), none, none]) (by exact ⟨rfl, rfl, rfl, rfl, rfl, trivial⟩) ?_
    exact NX x1 m1 (vp_updL o 0 v.toInt64) hR1
  · rcases kx with _ | kx
    · obtain rfl := Option.some.inj (show some "java/lang/IllegalStateException" = some X from hX1)
      have hc0 : fm_code m1 = 1 := hc0
      refine zz_aload_n G dL_law_668 rfl ?_
      refine zz_aload_n G dL_law_669 rfl ?_
      refine zz_callSWi (v := 1) (w' := (wx x m o)) (As := [.ref 0, .ref 10]) (rest := []) G (ch_moved_ISE l hfl x m o hlst (hr m o)) kH_moved dL_law_670 rfl rfl (Nat.le_of_ble_eq_true rfl) (fun h => by cases h) ⟨Nat.le_of_ble_eq_true rfl, Nat.le_of_ble_eq_true rfl⟩ ⟨hk1, hk2⟩ ?_
      refine zz_istore (lv' := [some (.ref 11), some (.ref 0), some (.ref 5), some (.ref 10), some (.int (nI (5 * j))), some (.int 1), none]) G dL_law_673 (Nat.le_of_ble_eq_true rfl) rfl ?_
      refine zz_aload_n G dL_law_675 rfl ?_
      refine zz_callVi (v := v) (w' := (wx x m1 o)) (As := []) (rest := []) G (by have q := cm_moved l x m o hans; rw [show qMoved x m o = _ from hq x o] at q; exact q) kL_97 dL_law_676 rfl rfl rfl rfl (Nat.le_of_ble_eq_true rfl) (fun h => by cases h) ⟨Nat.le_of_ble_eq_true rfl, Nat.le_of_ble_eq_true rfl⟩ ⟨hk3, hk4⟩ ?_
      refine zz_istore (lv' := [some (.ref 11), some (.ref 0), some (.ref 5), some (.ref 10), some (.int (nI (5 * j))), some (.int 1), some (.int v)]) G dL_law_679 (Nat.le_of_ble_eq_true rfl) rfl ?_
      refine zz_aload_n G dL_law_681 rfl ?_
      refine zz_callVi (v := 1) (w' := (wx x m1 o)) (As := []) (rest := []) G (by have q := cm_thrown l x m1 o; rw [hc0] at q; exact q) kL_67 dL_law_682 rfl rfl rfl rfl (Nat.le_of_ble_eq_true rfl) (fun _ => rfl) ⟨Nat.le_of_ble_eq_true rfl, Nat.le_of_ble_eq_true rfl⟩ ⟨hk3, hk4⟩ ?_
      refine zz_iload G dL_law_685 rfl ?_
      refine zz_icmp_eq (tgt := 692) G dL_law_687 rfl (fun h687 => ?_) (fun h687 => ((absurd h687 (by decide) : False)).elim)
      refine zz_iload G dL_law_692 rfl ?_
      refine zz_if_ne (tgt := 709) G dL_law_694 rfl (fun h694 => ?_) (fun h694 => ((absurd h694 (by decide) : False)).elim)
      refine zz_goto (tgt := 925) G dL_law_709 rfl ?_
      refine zz_few (lv' := [some (.ref 11), some (.ref 0), some (.ref 5), some (.ref 10), some (.int (nI (5 * j))), none, none]) (by exact ⟨rfl, rfl, rfl, rfl, rfl, trivial⟩) ?_
      exact NX x m1 o hR1
    · exact absurd hX1 (by simp)
set_option maxRecDepth 100000 in
set_option maxHeartbeats 4000000 in
theorem lc_field {p : Program} {l : Launch} {e0 : Env} {s : State} {mm : MethodId} {below : List Frame} {meth : Method} {c : Code} {b L : Nat} {xs : Nat → Int32} {D : va_G} {cI cJ : ClassId} {as : Nat → Nat} {Q : State → Prop} (hfl : l.flags = Jvm.pinnedFlags ++ [Jvm.noTraceFlag]) (G : zok p s mm #[Value.ref b] meth c bL_law 7 "AsOfLedgerLaw" D cI cJ as) (hL : L ≤ 2560) (hX : va_X b L xs s s.heap) (hbl : b < s.heap.size) (h11 : as 11 = b) (hbA : ¬ zA as s.heap.size b) {j : Nat} (hj : 5 * j + 5 ≤ L) (NX : ∀ (x : XS) (m : MS) (o : Nat → Int64), Rel x m → Z p l e0 room_1 s mm #[Value.ref b] below meth c 7 D cI cJ as false (11 + j + 1) (1175 + 6 * j + 6) Q 925 [some (.ref 11), some (.ref 0), some (.ref 5), some (.ref 10), some (.int (nI (5 * j))), none, none] [] (wx x m o)) (x : XS) (m : MS) (o : Nat → Int64) (hR : Rel x m) : Z p l e0 room_1 s mm #[Value.ref b] below meth c 7 D cI cJ as false (11 + j) (1175 + 6 * j) Q 712 [some (.ref 11), some (.ref 0), some (.ref 5), some (.ref 10), some (.int (nI (5 * j))), none, none] [] (wx x m o) := by
  obtain ⟨n, e, p1, l1, hN⟩ := hR
  have hM := mt_field hN (xs (5 * j + 1)) (xs (5 * j + 2)) (xs (5 * j + 3))
  have hlv := rel_live hN
  have hb := rel_b hN
  have hlst := rel_last hN
  have hans := rel_ans hN
  obtain ⟨⟨hn, he, hvc, hec, hcl, hen⟩, ⟨htm, hw, hk, hI⟩, ⟨hl64, hpl, hln, hsz, hch, hpc, hct, hat⟩, hlast, hcur⟩ := hN
  have hk1 : 11 + j + 1 ≤ room_1.cells := by show 11 + j + 1 ≤ 1040; omega
  have hk2 : 1175 + 6 * j + 6 ≤ room_1.slots := by show 1175 + 6 * j + 6 ≤ 9397; omega
  have hk3 : 11 + j + 1 + 1 ≤ room_1.cells := by show 11 + j + 1 + 1 ≤ 1040; omega
  have hk4 : 1175 + 6 * j + 6 + 6 ≤ room_1.slots := by show 1175 + 6 * j + 6 + 6 ≤ 9397; omega
  rcases hM with ⟨v, x1, m1, hr, hq, hc0, hR1⟩ | ⟨kx, X, v, m1, hX1, hr, hq, hc0, hR1⟩
  · refine zz_aload_n G dL_law_712 rfl ?_
    refine zz_aload_n G dL_law_713 rfl ?_
    refine zz_iload G dL_law_714 rfl ?_
    refine zz_iconst (v := 1) G dL_law_716 (by decide) ?_
    refine zz_iadd G dL_law_717 ?_
    refine zz_sld (v := xs (5 * j + 1)) G hX hbl h11 hbA dL_law_718 (sc_in 1 hj hL (by decide)) (congrArg xs (sc_at 1 hj hL (by decide))) ?_
    refine zz_aload_n G dL_law_719 rfl ?_
    refine zz_iload G dL_law_720 rfl ?_
    refine zz_iconst (v := 2) G dL_law_722 (by decide) ?_
    refine zz_iadd G dL_law_723 ?_
    refine zz_sld (v := xs (5 * j + 2)) G hX hbl h11 hbA dL_law_724 (sc_in 2 hj hL (by decide)) (congrArg xs (sc_at 2 hj hL (by decide))) ?_
    refine zz_aload_n G dL_law_725 rfl ?_
    refine zz_iload G dL_law_726 rfl ?_
    refine zz_iconst (v := 3) G dL_law_728 (by decide) ?_
    refine zz_iadd G dL_law_729 ?_
    refine zz_sld (v := xs (5 * j + 3)) G hX hbl h11 hbA dL_law_730 (sc_in 3 hj hL (by decide)) (congrArg xs (sc_at 3 hj hL (by decide))) ?_
    refine zz_aload_n G dL_law_731 rfl ?_
    refine zz_callSWi (v := 0) (w' := (wx x1 m ((vp_updL o 0 v.toInt64)))) (As := [.ref 0, .int (xs (5 * j + 1)), .int (xs (5 * j + 2)), .int (xs (5 * j + 3)), .ref 10]) (rest := []) G (ch_field_ok l hfl x m o n (xs (5 * j + 1)) (xs (5 * j + 2)) (xs (5 * j + 3)) hvc hn v x1 (hr m o)) kH_field dL_law_732 rfl rfl (Nat.le_of_ble_eq_true rfl) (fun h => by cases h) ⟨Nat.le_of_ble_eq_true rfl, Nat.le_of_ble_eq_true rfl⟩ ⟨hk1, hk2⟩ ?_
    refine zz_istore (lv' := [some (.ref 11), some (.ref 0), some (.ref 5), some (.ref 10), some (.int (nI (5 * j))), some (.int 0), none]) G dL_law_735 (Nat.le_of_ble_eq_true rfl) rfl ?_
    refine zz_aload_n G dL_law_737 rfl ?_
    refine zz_aload_n G dL_law_738 rfl ?_
    refine zz_iload G dL_law_739 rfl ?_
    refine zz_iconst (v := 1) G dL_law_741 (by decide) ?_
    refine zz_iadd G dL_law_742 ?_
    refine zz_sld (v := xs (5 * j + 1)) G hX hbl h11 hbA dL_law_743 (sc_in 1 hj hL (by decide)) (congrArg xs (sc_at 1 hj hL (by decide))) ?_
    refine zz_aload_n G dL_law_744 rfl ?_
    refine zz_iload G dL_law_745 rfl ?_
    refine zz_iconst (v := 2) G dL_law_747 (by decide) ?_
    refine zz_iadd G dL_law_748 ?_
    refine zz_sld (v := xs (5 * j + 2)) G hX hbl h11 hbA dL_law_749 (sc_in 2 hj hL (by decide)) (congrArg xs (sc_at 2 hj hL (by decide))) ?_
    refine zz_aload_n G dL_law_750 rfl ?_
    refine zz_iload G dL_law_751 rfl ?_
    refine zz_iconst (v := 3) G dL_law_753 (by decide) ?_
    refine zz_iadd G dL_law_754 ?_
    refine zz_sld (v := xs (5 * j + 3)) G hX hbl h11 hbA dL_law_755 (sc_in 3 hj hL (by decide)) (congrArg xs (sc_at 3 hj hL (by decide))) ?_
    refine zz_callVi (v := v) (w' := (wx x1 m1 ((vp_updL o 0 v.toInt64)))) (As := [.int (xs (5 * j + 1)), .int (xs (5 * j + 2)), .int (xs (5 * j + 3))]) (rest := []) G (by have q := cm_field l x1 m (vp_updL o 0 v.toInt64) (xs (5 * j + 1)) (xs (5 * j + 2)) (xs (5 * j + 3)) n e hcl hn hen (by omega); rw [show qField x1 m (vp_updL o 0 v.toInt64) (xs (5 * j + 1)) (xs (5 * j + 2)) (xs (5 * j + 3)) = _ from hq x1 (vp_updL o 0 v.toInt64)] at q; exact q) kL_100 dL_law_756 rfl rfl rfl rfl (Nat.le_of_ble_eq_true rfl) (fun h => by cases h) ⟨Nat.le_of_ble_eq_true rfl, Nat.le_of_ble_eq_true rfl⟩ ⟨hk3, hk4⟩ ?_
    refine zz_istore (lv' := [some (.ref 11), some (.ref 0), some (.ref 5), some (.ref 10), some (.int (nI (5 * j))), some (.int 0), some (.int v)]) G dL_law_759 (Nat.le_of_ble_eq_true rfl) rfl ?_
    refine zz_aload_n G dL_law_761 rfl ?_
    refine zz_callVi (v := 0) (w' := (wx x1 m1 ((vp_updL o 0 v.toInt64)))) (As := []) (rest := []) G (by have q := cm_thrown l x1 m1 (vp_updL o 0 v.toInt64); rw [hc0] at q; exact q) kL_67 dL_law_762 rfl rfl rfl rfl (Nat.le_of_ble_eq_true rfl) (fun _ => rfl) ⟨Nat.le_of_ble_eq_true rfl, Nat.le_of_ble_eq_true rfl⟩ ⟨hk3, hk4⟩ ?_
    refine zz_iload G dL_law_765 rfl ?_
    refine zz_icmp_eq (tgt := 772) G dL_law_767 rfl (fun h767 => ?_) (fun h767 => ((absurd h767 (by decide) : False)).elim)
    refine zz_iload G dL_law_772 rfl ?_
    refine zz_if_ne (tgt := 789) G dL_law_774 rfl (fun h774 => ((absurd h774 (by decide) : False)).elim) (fun h774 => ?_)
    refine zz_aload_n G dL_law_777 rfl ?_
    refine zz_iconst (v := 0) G dL_law_778 (by decide) ?_
    refine zz_lald (v := v.toInt64) G dL_law_779 rfl (by rw [← nI_0]; exact vp_in_nI (by omega) (by omega)) (if_pos rfl) ?_
    refine zz_iload G dL_law_780 rfl ?_
    refine zz_i2l G dL_law_782 ?_
    refine zz_lcmp G dL_law_783 ?_
    refine zz_if_eq (tgt := 789) G dL_law_784 rfl (fun h784 => ?_) (fun h784 => (h784 ((lg_cmp_eq _ _).mpr rfl)).elim)
    refine zz_goto (tgt := 925) G dL_law_789 rfl ?_
    refine zz_few (lv' := [some (.ref 11), some (.ref 0), some (.ref 5), some (.ref 10), some (.int (nI (5 * j))), none, none]) (by exact ⟨rfl, rfl, rfl, rfl, rfl, trivial⟩) ?_
    exact NX x1 m1 (vp_updL o 0 v.toInt64) hR1
  · rcases kx with _ | kx
    · obtain rfl := Option.some.inj (show some "java/lang/IllegalStateException" = some X from hX1)
      have hc0 : fm_code m1 = 1 := hc0
      refine zz_aload_n G dL_law_712 rfl ?_
      refine zz_aload_n G dL_law_713 rfl ?_
      refine zz_iload G dL_law_714 rfl ?_
      refine zz_iconst (v := 1) G dL_law_716 (by decide) ?_
      refine zz_iadd G dL_law_717 ?_
      refine zz_sld (v := xs (5 * j + 1)) G hX hbl h11 hbA dL_law_718 (sc_in 1 hj hL (by decide)) (congrArg xs (sc_at 1 hj hL (by decide))) ?_
      refine zz_aload_n G dL_law_719 rfl ?_
      refine zz_iload G dL_law_720 rfl ?_
      refine zz_iconst (v := 2) G dL_law_722 (by decide) ?_
      refine zz_iadd G dL_law_723 ?_
      refine zz_sld (v := xs (5 * j + 2)) G hX hbl h11 hbA dL_law_724 (sc_in 2 hj hL (by decide)) (congrArg xs (sc_at 2 hj hL (by decide))) ?_
      refine zz_aload_n G dL_law_725 rfl ?_
      refine zz_iload G dL_law_726 rfl ?_
      refine zz_iconst (v := 3) G dL_law_728 (by decide) ?_
      refine zz_iadd G dL_law_729 ?_
      refine zz_sld (v := xs (5 * j + 3)) G hX hbl h11 hbA dL_law_730 (sc_in 3 hj hL (by decide)) (congrArg xs (sc_at 3 hj hL (by decide))) ?_
      refine zz_aload_n G dL_law_731 rfl ?_
      refine zz_callSWi (v := 1) (w' := (wx x m o)) (As := [.ref 0, .int (xs (5 * j + 1)), .int (xs (5 * j + 2)), .int (xs (5 * j + 3)), .ref 10]) (rest := []) G (ch_field_ISE l hfl x m o n (xs (5 * j + 1)) (xs (5 * j + 2)) (xs (5 * j + 3)) hvc hn (hr m o)) kH_field dL_law_732 rfl rfl (Nat.le_of_ble_eq_true rfl) (fun h => by cases h) ⟨Nat.le_of_ble_eq_true rfl, Nat.le_of_ble_eq_true rfl⟩ ⟨hk1, hk2⟩ ?_
      refine zz_istore (lv' := [some (.ref 11), some (.ref 0), some (.ref 5), some (.ref 10), some (.int (nI (5 * j))), some (.int 1), none]) G dL_law_735 (Nat.le_of_ble_eq_true rfl) rfl ?_
      refine zz_aload_n G dL_law_737 rfl ?_
      refine zz_aload_n G dL_law_738 rfl ?_
      refine zz_iload G dL_law_739 rfl ?_
      refine zz_iconst (v := 1) G dL_law_741 (by decide) ?_
      refine zz_iadd G dL_law_742 ?_
      refine zz_sld (v := xs (5 * j + 1)) G hX hbl h11 hbA dL_law_743 (sc_in 1 hj hL (by decide)) (congrArg xs (sc_at 1 hj hL (by decide))) ?_
      refine zz_aload_n G dL_law_744 rfl ?_
      refine zz_iload G dL_law_745 rfl ?_
      refine zz_iconst (v := 2) G dL_law_747 (by decide) ?_
      refine zz_iadd G dL_law_748 ?_
      refine zz_sld (v := xs (5 * j + 2)) G hX hbl h11 hbA dL_law_749 (sc_in 2 hj hL (by decide)) (congrArg xs (sc_at 2 hj hL (by decide))) ?_
      refine zz_aload_n G dL_law_750 rfl ?_
      refine zz_iload G dL_law_751 rfl ?_
      refine zz_iconst (v := 3) G dL_law_753 (by decide) ?_
      refine zz_iadd G dL_law_754 ?_
      refine zz_sld (v := xs (5 * j + 3)) G hX hbl h11 hbA dL_law_755 (sc_in 3 hj hL (by decide)) (congrArg xs (sc_at 3 hj hL (by decide))) ?_
      refine zz_callVi (v := v) (w' := (wx x m1 o)) (As := [.int (xs (5 * j + 1)), .int (xs (5 * j + 2)), .int (xs (5 * j + 3))]) (rest := []) G (by have q := cm_field l x m o (xs (5 * j + 1)) (xs (5 * j + 2)) (xs (5 * j + 3)) n e hcl hn hen (by omega); rw [show qField x m o (xs (5 * j + 1)) (xs (5 * j + 2)) (xs (5 * j + 3)) = _ from hq x o] at q; exact q) kL_100 dL_law_756 rfl rfl rfl rfl (Nat.le_of_ble_eq_true rfl) (fun h => by cases h) ⟨Nat.le_of_ble_eq_true rfl, Nat.le_of_ble_eq_true rfl⟩ ⟨hk3, hk4⟩ ?_
      refine zz_istore (lv' := [some (.ref 11), some (.ref 0), some (.ref 5), some (.ref 10), some (.int (nI (5 * j))), some (.int 1), some (.int v)]) G dL_law_759 (Nat.le_of_ble_eq_true rfl) rfl ?_
      refine zz_aload_n G dL_law_761 rfl ?_
      refine zz_callVi (v := 1) (w' := (wx x m1 o)) (As := []) (rest := []) G (by have q := cm_thrown l x m1 o; rw [hc0] at q; exact q) kL_67 dL_law_762 rfl rfl rfl rfl (Nat.le_of_ble_eq_true rfl) (fun _ => rfl) ⟨Nat.le_of_ble_eq_true rfl, Nat.le_of_ble_eq_true rfl⟩ ⟨hk3, hk4⟩ ?_
      refine zz_iload G dL_law_765 rfl ?_
      refine zz_icmp_eq (tgt := 772) G dL_law_767 rfl (fun h767 => ?_) (fun h767 => ((absurd h767 (by decide) : False)).elim)
      refine zz_iload G dL_law_772 rfl ?_
      refine zz_if_ne (tgt := 789) G dL_law_774 rfl (fun h774 => ?_) (fun h774 => ((absurd h774 (by decide) : False)).elim)
      refine zz_goto (tgt := 925) G dL_law_789 rfl ?_
      refine zz_few (lv' := [some (.ref 11), some (.ref 0), some (.ref 5), some (.ref 10), some (.int (nI (5 * j))), none, none]) (by exact ⟨rfl, rfl, rfl, rfl, rfl, trivial⟩) ?_
      exact NX x m1 o hR1
    · exact absurd hX1 (by simp)
set_option maxRecDepth 100000 in
set_option maxHeartbeats 4000000 in
theorem lc_entries {p : Program} {l : Launch} {e0 : Env} {s : State} {mm : MethodId} {below : List Frame} {meth : Method} {c : Code} {b L : Nat} {xs : Nat → Int32} {D : va_G} {cI cJ : ClassId} {as : Nat → Nat} {Q : State → Prop} (hfl : l.flags = Jvm.pinnedFlags ++ [Jvm.noTraceFlag]) (G : zok p s mm #[Value.ref b] meth c bL_law 7 "AsOfLedgerLaw" D cI cJ as) (hL : L ≤ 2560) (hX : va_X b L xs s s.heap) (hbl : b < s.heap.size) (h11 : as 11 = b) (hbA : ¬ zA as s.heap.size b) {j : Nat} (hj : 5 * j + 5 ≤ L) (NX : ∀ (x : XS) (m : MS) (o : Nat → Int64), Rel x m → Z p l e0 room_1 s mm #[Value.ref b] below meth c 7 D cI cJ as false (11 + j + 1) (1175 + 6 * j + 6) Q 925 [some (.ref 11), some (.ref 0), some (.ref 5), some (.ref 10), some (.int (nI (5 * j))), none, none] [] (wx x m o)) (x : XS) (m : MS) (o : Nat → Int64) (hR : Rel x m) : Z p l e0 room_1 s mm #[Value.ref b] below meth c 7 D cI cJ as false (11 + j) (1175 + 6 * j) Q 792 [some (.ref 11), some (.ref 0), some (.ref 5), some (.ref 10), some (.int (nI (5 * j))), none, none] [] (wx x m o) := by
  obtain ⟨n, e, p1, l1, hN⟩ := hR
  have hM := mt_entries hN 
  have hlv := rel_live hN
  have hb := rel_b hN
  have hlst := rel_last hN
  have hans := rel_ans hN
  obtain ⟨⟨hn, he, hvc, hec, hcl, hen⟩, ⟨htm, hw, hk, hI⟩, ⟨hl64, hpl, hln, hsz, hch, hpc, hct, hat⟩, hlast, hcur⟩ := hN
  have hk1 : 11 + j + 1 ≤ room_1.cells := by show 11 + j + 1 ≤ 1040; omega
  have hk2 : 1175 + 6 * j + 6 ≤ room_1.slots := by show 1175 + 6 * j + 6 ≤ 9397; omega
  have hk3 : 11 + j + 1 + 1 ≤ room_1.cells := by show 11 + j + 1 + 1 ≤ 1040; omega
  have hk4 : 1175 + 6 * j + 6 + 6 ≤ room_1.slots := by show 1175 + 6 * j + 6 + 6 ≤ 9397; omega
  rcases hM with ⟨v, x1, m1, hr, hq, hc0, hR1⟩ | ⟨kx, X, v, m1, hX1, hr, hq, hc0, hR1⟩
  · refine zz_aload_n G dL_law_792 rfl ?_
    refine zz_aload_n G dL_law_793 rfl ?_
    refine zz_callSWi (v := 0) (w' := (wx x1 m ((vp_updL o 0 v.toInt64)))) (As := [.ref 0, .ref 10]) (rest := []) G (ch_entries_ok l hfl x m o  v x1 (hr m o)) kH_entries dL_law_794 rfl rfl (Nat.le_of_ble_eq_true rfl) (fun h => by cases h) ⟨Nat.le_of_ble_eq_true rfl, Nat.le_of_ble_eq_true rfl⟩ ⟨hk1, hk2⟩ ?_
    refine zz_istore (lv' := [some (.ref 11), some (.ref 0), some (.ref 5), some (.ref 10), some (.int (nI (5 * j))), some (.int 0), none]) G dL_law_797 (Nat.le_of_ble_eq_true rfl) rfl ?_
    refine zz_aload_n G dL_law_799 rfl ?_
    refine zz_callVi (v := v) (w' := (wx x1 m1 ((vp_updL o 0 v.toInt64)))) (As := []) (rest := []) G (by have q := cm_entries l x1 m (vp_updL o 0 v.toInt64) ; rw [show qEnt x1 m (vp_updL o 0 v.toInt64) = _ from hq x1 (vp_updL o 0 v.toInt64)] at q; exact q) kL_103 dL_law_800 rfl rfl rfl rfl (Nat.le_of_ble_eq_true rfl) (fun h => by cases h) ⟨Nat.le_of_ble_eq_true rfl, Nat.le_of_ble_eq_true rfl⟩ ⟨hk3, hk4⟩ ?_
    refine zz_istore (lv' := [some (.ref 11), some (.ref 0), some (.ref 5), some (.ref 10), some (.int (nI (5 * j))), some (.int 0), some (.int v)]) G dL_law_803 (Nat.le_of_ble_eq_true rfl) rfl ?_
    refine zz_aload_n G dL_law_805 rfl ?_
    refine zz_callVi (v := 0) (w' := (wx x1 m1 ((vp_updL o 0 v.toInt64)))) (As := []) (rest := []) G (by have q := cm_thrown l x1 m1 (vp_updL o 0 v.toInt64); rw [hc0] at q; exact q) kL_67 dL_law_806 rfl rfl rfl rfl (Nat.le_of_ble_eq_true rfl) (fun _ => rfl) ⟨Nat.le_of_ble_eq_true rfl, Nat.le_of_ble_eq_true rfl⟩ ⟨hk3, hk4⟩ ?_
    refine zz_iload G dL_law_809 rfl ?_
    refine zz_icmp_eq (tgt := 816) G dL_law_811 rfl (fun h811 => ?_) (fun h811 => ((absurd h811 (by decide) : False)).elim)
    refine zz_iload G dL_law_816 rfl ?_
    refine zz_if_ne (tgt := 833) G dL_law_818 rfl (fun h818 => ((absurd h818 (by decide) : False)).elim) (fun h818 => ?_)
    refine zz_aload_n G dL_law_821 rfl ?_
    refine zz_iconst (v := 0) G dL_law_822 (by decide) ?_
    refine zz_lald (v := v.toInt64) G dL_law_823 rfl (by rw [← nI_0]; exact vp_in_nI (by omega) (by omega)) (if_pos rfl) ?_
    refine zz_iload G dL_law_824 rfl ?_
    refine zz_i2l G dL_law_826 ?_
    refine zz_lcmp G dL_law_827 ?_
    refine zz_if_eq (tgt := 833) G dL_law_828 rfl (fun h828 => ?_) (fun h828 => (h828 ((lg_cmp_eq _ _).mpr rfl)).elim)
    refine zz_goto (tgt := 925) G dL_law_833 rfl ?_
    refine zz_few (lv' := [some (.ref 11), some (.ref 0), some (.ref 5), some (.ref 10), some (.int (nI (5 * j))), none, none]) (by exact ⟨rfl, rfl, rfl, rfl, rfl, trivial⟩) ?_
    exact NX x1 m1 (vp_updL o 0 v.toInt64) hR1
  · rcases kx with _ | kx
    · obtain rfl := Option.some.inj (show some "java/lang/IllegalStateException" = some X from hX1)
      have hc0 : fm_code m1 = 1 := hc0
      refine zz_aload_n G dL_law_792 rfl ?_
      refine zz_aload_n G dL_law_793 rfl ?_
      refine zz_callSWi (v := 1) (w' := (wx x m o)) (As := [.ref 0, .ref 10]) (rest := []) G (ch_entries_ISE l hfl x m o  (hr m o)) kH_entries dL_law_794 rfl rfl (Nat.le_of_ble_eq_true rfl) (fun h => by cases h) ⟨Nat.le_of_ble_eq_true rfl, Nat.le_of_ble_eq_true rfl⟩ ⟨hk1, hk2⟩ ?_
      refine zz_istore (lv' := [some (.ref 11), some (.ref 0), some (.ref 5), some (.ref 10), some (.int (nI (5 * j))), some (.int 1), none]) G dL_law_797 (Nat.le_of_ble_eq_true rfl) rfl ?_
      refine zz_aload_n G dL_law_799 rfl ?_
      refine zz_callVi (v := v) (w' := (wx x m1 o)) (As := []) (rest := []) G (by have q := cm_entries l x m o ; rw [show qEnt x m o = _ from hq x o] at q; exact q) kL_103 dL_law_800 rfl rfl rfl rfl (Nat.le_of_ble_eq_true rfl) (fun h => by cases h) ⟨Nat.le_of_ble_eq_true rfl, Nat.le_of_ble_eq_true rfl⟩ ⟨hk3, hk4⟩ ?_
      refine zz_istore (lv' := [some (.ref 11), some (.ref 0), some (.ref 5), some (.ref 10), some (.int (nI (5 * j))), some (.int 1), some (.int v)]) G dL_law_803 (Nat.le_of_ble_eq_true rfl) rfl ?_
      refine zz_aload_n G dL_law_805 rfl ?_
      refine zz_callVi (v := 1) (w' := (wx x m1 o)) (As := []) (rest := []) G (by have q := cm_thrown l x m1 o; rw [hc0] at q; exact q) kL_67 dL_law_806 rfl rfl rfl rfl (Nat.le_of_ble_eq_true rfl) (fun _ => rfl) ⟨Nat.le_of_ble_eq_true rfl, Nat.le_of_ble_eq_true rfl⟩ ⟨hk3, hk4⟩ ?_
      refine zz_iload G dL_law_809 rfl ?_
      refine zz_icmp_eq (tgt := 816) G dL_law_811 rfl (fun h811 => ?_) (fun h811 => ((absurd h811 (by decide) : False)).elim)
      refine zz_iload G dL_law_816 rfl ?_
      refine zz_if_ne (tgt := 833) G dL_law_818 rfl (fun h818 => ?_) (fun h818 => ((absurd h818 (by decide) : False)).elim)
      refine zz_goto (tgt := 925) G dL_law_833 rfl ?_
      refine zz_few (lv' := [some (.ref 11), some (.ref 0), some (.ref 5), some (.ref 10), some (.int (nI (5 * j))), none, none]) (by exact ⟨rfl, rfl, rfl, rfl, rfl, trivial⟩) ?_
      exact NX x m1 o hR1
    · exact absurd hX1 (by simp)
set_option maxRecDepth 100000 in
set_option maxHeartbeats 4000000 in
theorem lc_clock {p : Program} {l : Launch} {e0 : Env} {s : State} {mm : MethodId} {below : List Frame} {meth : Method} {c : Code} {b L : Nat} {xs : Nat → Int32} {D : va_G} {cI cJ : ClassId} {as : Nat → Nat} {Q : State → Prop} (hfl : l.flags = Jvm.pinnedFlags ++ [Jvm.noTraceFlag]) (G : zok p s mm #[Value.ref b] meth c bL_law 7 "AsOfLedgerLaw" D cI cJ as) (hL : L ≤ 2560) (hX : va_X b L xs s s.heap) (hbl : b < s.heap.size) (h11 : as 11 = b) (hbA : ¬ zA as s.heap.size b) {j : Nat} (hj : 5 * j + 5 ≤ L) (NX : ∀ (x : XS) (m : MS) (o : Nat → Int64), Rel x m → Z p l e0 room_1 s mm #[Value.ref b] below meth c 7 D cI cJ as false (11 + j + 1) (1175 + 6 * j + 6) Q 925 [some (.ref 11), some (.ref 0), some (.ref 5), some (.ref 10), some (.int (nI (5 * j))), none, none] [] (wx x m o)) (x : XS) (m : MS) (o : Nat → Int64) (hR : Rel x m) : Z p l e0 room_1 s mm #[Value.ref b] below meth c 7 D cI cJ as false (11 + j) (1175 + 6 * j) Q 836 [some (.ref 11), some (.ref 0), some (.ref 5), some (.ref 10), some (.int (nI (5 * j))), none, none] [] (wx x m o) := by
  have hR0 := hR
  obtain ⟨n, e, p1, l1, hN⟩ := hR
  obtain ⟨⟨hn, he, hvc, hec, hcl, hen⟩, ⟨htm, hw, hk, hI⟩, ⟨hl64, hpl, hln, hsz, hch, hpc, hct, hat⟩, hlast, hcur⟩ := hN
  have hk1 : 11 + j + 1 ≤ room_1.cells := by show 11 + j + 1 ≤ 1040; omega
  have hk2 : 1175 + 6 * j + 6 ≤ room_1.slots := by show 1175 + 6 * j + 6 ≤ 9397; omega
  refine zz_aload_n G dL_law_836 rfl ?_
  refine zz_callVi (v := nI n) (w' := (wx x m o)) (As := []) (rest := []) G (by have q := cx_clock l x m o; rw [hvc] at q; exact q) kL_104 dL_law_837 rfl rfl rfl rfl (Nat.le_of_ble_eq_true rfl) (fun _ => rfl) ⟨Nat.le_of_ble_eq_true rfl, Nat.le_of_ble_eq_true rfl⟩ ⟨hk1, hk2⟩ ?_
  refine zz_aload_n G dL_law_840 rfl ?_
  refine zz_callVi (v := nI n) (w' := (wx x ((sm_code m 0)) o)) (As := []) (rest := [.int (nI n)]) G (by have q := cm_clock l x m o; rw [hcl] at q; exact q) kL_107 dL_law_841 rfl rfl rfl rfl (Nat.le_of_ble_eq_true rfl) (fun h => by cases h) ⟨Nat.le_of_ble_eq_true rfl, Nat.le_of_ble_eq_true rfl⟩ ⟨hk1, hk2⟩ ?_
  refine zz_icmp_eq (tgt := 925) G dL_law_844 rfl (fun h844 => ?_) (fun h844 => (h844 rfl).elim)
  refine zz_widen (kc' := 11 + j + 1) (ks' := 1175 + 6 * j + 6) (by omega) (by omega) ?_
  exact NX x (sm_code m 0) o (rel_code hR0 0)
set_option maxRecDepth 100000 in
set_option maxHeartbeats 4000000 in
theorem lc_head {p : Program} {l : Launch} {e0 : Env} {s : State} {mm : MethodId} {below : List Frame} {meth : Method} {c : Code} {b L : Nat} {xs : Nat → Int32} {D : va_G} {cI cJ : ClassId} {as : Nat → Nat} {Q : State → Prop} (hfl : l.flags = Jvm.pinnedFlags ++ [Jvm.noTraceFlag]) (G : zok p s mm #[Value.ref b] meth c bL_law 7 "AsOfLedgerLaw" D cI cJ as) (hL : L ≤ 2560) (hX : va_X b L xs s s.heap) (hbl : b < s.heap.size) (h11 : as 11 = b) (hbA : ¬ zA as s.heap.size b) {j : Nat} (hj : 5 * j + 5 ≤ L) (NX : ∀ (x : XS) (m : MS) (o : Nat → Int64), Rel x m → Z p l e0 room_1 s mm #[Value.ref b] below meth c 7 D cI cJ as false (11 + j + 1) (1175 + 6 * j + 6) Q 925 [some (.ref 11), some (.ref 0), some (.ref 5), some (.ref 10), some (.int (nI (5 * j))), none, none] [] (wx x m o)) (x : XS) (m : MS) (o : Nat → Int64) (hR : Rel x m) : Z p l e0 room_1 s mm #[Value.ref b] below meth c 7 D cI cJ as false (11 + j) (1175 + 6 * j) Q 849 [some (.ref 11), some (.ref 0), some (.ref 5), some (.ref 10), some (.int (nI (5 * j))), none, none] [] (wx x m o) := by
  have hR0 := hR
  obtain ⟨n, e, p1, l1, hN⟩ := hR
  obtain ⟨⟨hn, he, hvc, hec, hcl, hen⟩, ⟨htm, hw, hk, hI⟩, ⟨hl64, hpl, hln, hsz, hch, hpc, hct, hat⟩, hlast, hcur⟩ := hN
  have hk1 : 11 + j + 1 ≤ room_1.cells := by show 11 + j + 1 ≤ 1040; omega
  have hk2 : 1175 + 6 * j + 6 ≤ room_1.slots := by show 1175 + 6 * j + 6 ≤ 9397; omega
  refine zz_aload_n G dL_law_849 rfl ?_
  refine zz_callVl (v := sBef (fx_links x) n) (w' := (wx x m o)) (As := []) (rest := []) G (cx_head l x m o n hvc hn) kL_108 dL_law_850 rfl rfl rfl rfl (Nat.le_of_ble_eq_true rfl) (fun _ => rfl) ⟨Nat.le_of_ble_eq_true rfl, Nat.le_of_ble_eq_true rfl⟩ ⟨hk1, hk2⟩ ?_
  refine zz_aload_n G dL_law_853 rfl ?_
  refine zz_callVl (v := sBef (fm_links m) n) (w' := (wx x ((sm_code m 0)) o)) (As := []) (rest := [.long (sBef (fx_links x) n)]) G (cm_head l x m o n hcl hn) kL_112 dL_law_854 rfl rfl rfl rfl (Nat.le_of_ble_eq_true rfl) (fun h => by cases h) ⟨Nat.le_of_ble_eq_true rfl, Nat.le_of_ble_eq_true rfl⟩ ⟨hk1, hk2⟩ ?_
  refine zz_lcmp G dL_law_857 ?_
  refine zz_if_eq (tgt := 925) G dL_law_858 rfl (fun h858 => ?_) (fun h858 => (h858 ((lg_cmp_eq _ _).mpr (by rw [hk]))).elim)
  refine zz_widen (kc' := 11 + j + 1) (ks' := 1175 + 6 * j + 6) (by omega) (by omega) ?_
  exact NX x (sm_code m 0) o (rel_code hR0 0)
set_option maxRecDepth 100000 in
set_option maxHeartbeats 4000000 in
theorem lc_verify {p : Program} {l : Launch} {e0 : Env} {s : State} {mm : MethodId} {below : List Frame} {meth : Method} {c : Code} {b L : Nat} {xs : Nat → Int32} {D : va_G} {cI cJ : ClassId} {as : Nat → Nat} {Q : State → Prop} (hfl : l.flags = Jvm.pinnedFlags ++ [Jvm.noTraceFlag]) (G : zok p s mm #[Value.ref b] meth c bL_law 7 "AsOfLedgerLaw" D cI cJ as) (hL : L ≤ 2560) (hX : va_X b L xs s s.heap) (hbl : b < s.heap.size) (h11 : as 11 = b) (hbA : ¬ zA as s.heap.size b) {j : Nat} (hj : 5 * j + 5 ≤ L) (NX : ∀ (x : XS) (m : MS) (o : Nat → Int64), Rel x m → Z p l e0 room_1 s mm #[Value.ref b] below meth c 7 D cI cJ as false (11 + j + 1) (1175 + 6 * j + 6) Q 925 [some (.ref 11), some (.ref 0), some (.ref 5), some (.ref 10), some (.int (nI (5 * j))), none, none] [] (wx x m o)) (x : XS) (m : MS) (o : Nat → Int64) (hR : Rel x m) : Z p l e0 room_1 s mm #[Value.ref b] below meth c 7 D cI cJ as false (11 + j) (1175 + 6 * j) Q 863 [some (.ref 11), some (.ref 0), some (.ref 5), some (.ref 10), some (.int (nI (5 * j))), none, none] [] (wx x m o) := by
  have hR0 := hR
  obtain ⟨n, e, p1, l1, hN⟩ := hR
  obtain ⟨⟨hn, he, hvc, hec, hcl, hen⟩, ⟨htm, hw, hk, hI⟩, ⟨hl64, hpl, hln, hsz, hch, hpc, hct, hat⟩, hlast, hcur⟩ := hN
  have hk1 : 11 + j + 1 ≤ room_1.cells := by show 11 + j + 1 ≤ 1040; omega
  have hk2 : 1175 + 6 * j + 6 ≤ room_1.slots := by show 1175 + 6 * j + 6 ≤ 9397; omega
  refine zz_aload_n G dL_law_863 rfl ?_
  refine zz_callVi (v := sVfy (fx_words x) (fx_links x) 0 n) (w' := (wx x m o)) (As := []) (rest := []) G (cx_verify l x m o n hvc hn) kL_113 dL_law_864 rfl rfl rfl rfl (Nat.le_of_ble_eq_true rfl) (fun _ => rfl) ⟨Nat.le_of_ble_eq_true rfl, Nat.le_of_ble_eq_true rfl⟩ ⟨hk1, hk2⟩ ?_
  refine zz_aload_n G dL_law_867 rfl ?_
  refine zz_callVi (v := sVfy (fm_words m) (fm_links m) 0 n) (w' := (wx x ((sm_code m 0)) o)) (As := []) (rest := [.int (sVfy (fx_words x) (fx_links x) 0 n)]) G (cm_verify l x m o n hcl hn) kL_116 dL_law_868 rfl rfl rfl rfl (Nat.le_of_ble_eq_true rfl) (fun h => by cases h) ⟨Nat.le_of_ble_eq_true rfl, Nat.le_of_ble_eq_true rfl⟩ ⟨hk1, hk2⟩ ?_
  refine zz_icmp_eq (tgt := 925) G dL_law_871 rfl (fun h871 => ?_) (fun h871 => (h871 (by rw [hw, hk])).elim)
  refine zz_widen (kc' := 11 + j + 1) (ks' := 1175 + 6 * j + 6) (by omega) (by omega) ?_
  exact NX x (sm_code m 0) o (rel_code hR0 0)
set_option maxRecDepth 100000 in
set_option maxHeartbeats 4000000 in
theorem lc_tamper {p : Program} {l : Launch} {e0 : Env} {s : State} {mm : MethodId} {below : List Frame} {meth : Method} {c : Code} {b L : Nat} {xs : Nat → Int32} {D : va_G} {cI cJ : ClassId} {as : Nat → Nat} {Q : State → Prop} (hfl : l.flags = Jvm.pinnedFlags ++ [Jvm.noTraceFlag]) (G : zok p s mm #[Value.ref b] meth c bL_law 7 "AsOfLedgerLaw" D cI cJ as) (hL : L ≤ 2560) (hX : va_X b L xs s s.heap) (hbl : b < s.heap.size) (h11 : as 11 = b) (hbA : ¬ zA as s.heap.size b) {j : Nat} (hj : 5 * j + 5 ≤ L) (NX : ∀ (x : XS) (m : MS) (o : Nat → Int64), Rel x m → Z p l e0 room_1 s mm #[Value.ref b] below meth c 7 D cI cJ as false (11 + j + 1) (1175 + 6 * j + 6) Q 925 [some (.ref 11), some (.ref 0), some (.ref 5), some (.ref 10), some (.int (nI (5 * j))), none, none] [] (wx x m o)) (x : XS) (m : MS) (o : Nat → Int64) (hR : Rel x m) : Z p l e0 room_1 s mm #[Value.ref b] below meth c 7 D cI cJ as false (11 + j) (1175 + 6 * j) Q 876 [some (.ref 11), some (.ref 0), some (.ref 5), some (.ref 10), some (.int (nI (5 * j))), none, none] [] (wx x m o) := by
  have hR0 := hR
  obtain ⟨n, e, p1, l1, hN⟩ := hR
  obtain ⟨r, x1, m1, hr, hq, hR1⟩ := mt_tamper hN (xs (5 * j + 1)) (xs (5 * j + 2)) (xs (5 * j + 3))
  obtain ⟨⟨hn, he, hvc, hec, hcl, hen⟩, ⟨htm, hw, hk, hI⟩, ⟨hl64, hpl, hln, hsz, hch, hpc, hct, hat⟩, hlast, hcur⟩ := hN
  have hk1 : 11 + j + 1 ≤ room_1.cells := by show 11 + j + 1 ≤ 1040; omega
  have hk2 : 1175 + 6 * j + 6 ≤ room_1.slots := by show 1175 + 6 * j + 6 ≤ 9397; omega
  refine zz_aload_n G dL_law_876 rfl ?_
  refine zz_aload_n G dL_law_877 rfl ?_
  refine zz_iload G dL_law_878 rfl ?_
  refine zz_iconst (v := 1) G dL_law_880 (by decide) ?_
  refine zz_iadd G dL_law_881 ?_
  refine zz_sld (v := xs (5 * j + 1)) G hX hbl h11 hbA dL_law_882 (sc_in 1 hj hL (by decide)) (congrArg xs (sc_at 1 hj hL (by decide))) ?_
  refine zz_aload_n G dL_law_883 rfl ?_
  refine zz_iload G dL_law_884 rfl ?_
  refine zz_iconst (v := 2) G dL_law_886 (by decide) ?_
  refine zz_iadd G dL_law_887 ?_
  refine zz_sld (v := xs (5 * j + 2)) G hX hbl h11 hbA dL_law_888 (sc_in 2 hj hL (by decide)) (congrArg xs (sc_at 2 hj hL (by decide))) ?_
  refine zz_aload_n G dL_law_889 rfl ?_
  refine zz_iload G dL_law_890 rfl ?_
  refine zz_iconst (v := 3) G dL_law_892 (by decide) ?_
  refine zz_iadd G dL_law_893 ?_
  refine zz_sld (v := xs (5 * j + 3)) G hX hbl h11 hbA dL_law_894 (sc_in 3 hj hL (by decide)) (congrArg xs (sc_at 3 hj hL (by decide))) ?_
  refine zz_callVi (v := r) (w' := (wx x1 m o)) (As := [.int (xs (5 * j + 1)), .int (xs (5 * j + 2)), .int (xs (5 * j + 3))]) (rest := []) G (by have q := cx_tamper l x m o n (xs (5 * j + 1)) (xs (5 * j + 2)) (xs (5 * j + 3)) hvc hn; rw [show rTamp x m o (xs (5 * j + 1)) (xs (5 * j + 2)) (xs (5 * j + 3)) = _ from hr m o] at q; exact q) kL_117 dL_law_895 rfl rfl rfl rfl (Nat.le_of_ble_eq_true rfl) (fun h => by cases h) ⟨Nat.le_of_ble_eq_true rfl, Nat.le_of_ble_eq_true rfl⟩ ⟨hk1, hk2⟩ ?_
  refine zz_aload_n G dL_law_898 rfl ?_
  refine zz_aload_n G dL_law_899 rfl ?_
  refine zz_iload G dL_law_900 rfl ?_
  refine zz_iconst (v := 1) G dL_law_902 (by decide) ?_
  refine zz_iadd G dL_law_903 ?_
  refine zz_sld (v := xs (5 * j + 1)) G hX hbl h11 hbA dL_law_904 (sc_in 1 hj hL (by decide)) (congrArg xs (sc_at 1 hj hL (by decide))) ?_
  refine zz_aload_n G dL_law_905 rfl ?_
  refine zz_iload G dL_law_906 rfl ?_
  refine zz_iconst (v := 2) G dL_law_908 (by decide) ?_
  refine zz_iadd G dL_law_909 ?_
  refine zz_sld (v := xs (5 * j + 2)) G hX hbl h11 hbA dL_law_910 (sc_in 2 hj hL (by decide)) (congrArg xs (sc_at 2 hj hL (by decide))) ?_
  refine zz_aload_n G dL_law_911 rfl ?_
  refine zz_iload G dL_law_912 rfl ?_
  refine zz_iconst (v := 3) G dL_law_914 (by decide) ?_
  refine zz_iadd G dL_law_915 ?_
  refine zz_sld (v := xs (5 * j + 3)) G hX hbl h11 hbA dL_law_916 (sc_in 3 hj hL (by decide)) (congrArg xs (sc_at 3 hj hL (by decide))) ?_
  refine zz_callVi (v := r) (w' := (wx x1 m1 o)) (As := [.int (xs (5 * j + 1)), .int (xs (5 * j + 2)), .int (xs (5 * j + 3))]) (rest := [.int r]) G (by have q := cm_tamper l x1 m o n (xs (5 * j + 1)) (xs (5 * j + 2)) (xs (5 * j + 3)) hcl hn; rw [show qTamp x1 m o (xs (5 * j + 1)) (xs (5 * j + 2)) (xs (5 * j + 3)) = _ from hq x1 o] at q; exact q) kL_121 dL_law_917 rfl rfl rfl rfl (Nat.le_of_ble_eq_true rfl) (fun h => by cases h) ⟨Nat.le_of_ble_eq_true rfl, Nat.le_of_ble_eq_true rfl⟩ ⟨hk1, hk2⟩ ?_
  refine zz_icmp_eq (tgt := 925) G dL_law_920 rfl (fun h920 => ?_) (fun h920 => (h920 rfl).elim)
  refine zz_widen (kc' := 11 + j + 1) (ks' := 1175 + 6 * j + 6) (by omega) (by omega) ?_
  exact NX x1 m1 o hR1
