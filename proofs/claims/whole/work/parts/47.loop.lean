/-! THE CLAIM OUT OF ONE WALK OF THE LAW'S BODY. Your part is whole_start (and what it stands on); all else here is the same for every law, but numbers. -/
def R_law : String := "AsOfLedgerLaw"
def lw_P (b : Addr) (xs : List Int32) (args : Array Value) (s : State) : Prop := args = #[.ref b] ∧ s.IntsAt b xs ∧ xs.length ≤ 2560 ∧ (Jvm.Cond.and given_1 narrow_1).before args s = true
def lw_Q (_ : Array Value) (s : State) (o : Outcome) (t : State) : Prop := o = .returned (some (.int 1)) ∧ Framed s o t [] 1040 9397
def lw_Z (below : List Frame) (a : Array Value) (s : State) : State → Prop := fun t => ∃ o, t.status = .running ∧ Ended t below o ∧ lw_Q a s o t
/-- the law's own end, with 1 on the stack, nothing written that was there before, its room as the claim has it -/
theorem lw_ret {p : Program} {l : Launch} {e : Env} {s : State} {m : MethodId} {below : List Frame} {meth : Method} {c : Code} {b : Nat} (hx : p.tables.exec = Jvm.exec) (hb : c.code = code) (hr : meth.sig.returnType = ret) (hlocks : meth.locks = false) {pc : Nat} {H : Heap} {ls : Array Slot} (hdg : decode code pc = .ok (.ireturn, 1)) : W p l e room_1 s m #[Value.ref b] below meth c H [] 1040 9397 (lw_Z below #[Value.ref b] s) (F0 m pc ls [.int 1]) := by
  intro T hT X
  obtain ⟨fs, hret, hrun, hended, hW, hframe⟩ := X.leave (v := some (.int 1)) (hlocks := hlocks) (fun h => by rw [hr] at h; cases h)
  have hmeth' : T.vm.method? m = some meth := X.method'
  refine ⟨T.setFrames fs, ?_, .returned (some (.int 1)), hrun, hended, rfl, ⟨_, rfl⟩, hW, hframe⟩
  jvm_step X.here [X.here.top, hx, hb, hdg, hmeth', hr, ret, narrow_b1]
  (try refine ⟨rfl, ?_⟩); (try refine ⟨rfl, ?_⟩)
  first | (intro acts; rw [hret _ acts rfl rfl rfl]) | rw [hret _ _ rfl rfl rfl]
  exact Steps.refl _
/-- what holds at the law's entry: the machine, the code, the tables' words (any of lw_tbl by 'hts w (by decide +kernel)'), the script of L ints xs at the cell b, what the Statement gives of the start (any of its parts by flat_of_before) -/
def lw_At (p : Program) (s : State) (m : MethodId) (meth : Method) (c : Code) (b L : Nat) (xs : Nat → Int32) : Prop :=
  p.tables.exec = Jvm.exec ∧ c.code = code ∧ meth.sig.returnType = ret ∧ c.maxLocals = 7 ∧ s.vm.findClass R_law = some m.cls ∧ (∀ w ∈ lw_tbl, w.before #[Value.ref b] s = true) ∧ va_X b L xs s s.heap ∧ b < s.heap.size ∧ meth.locks = false ∧ (Jvm.Cond.and given_1 narrow_1).before #[Value.ref b] s = true
theorem lp_iff {L q : Nat} (hL : L ≤ 2560) (hq : q ≤ 4000) : nI L - 5 < nI q ↔ L < q + 5 := by
  have h5 : (5 : Int32).toInt = 5 := by decide
  have e1 : (nI L - 5).toInt = (L : Int) - 5 := by
    rw [Int32.toInt_sub, nI_toInt (by omega), h5]
    exact Int.bmod_eq_of_le (by omega) (by omega)
  rw [Int32.lt_iff_toInt_lt, e1, nI_toInt (by omega)]
  omega
theorem law_exit {p : Program} {l : Launch} {e0 : Env} {s : State} {mm : MethodId} {below : List Frame} {meth : Method} {c : Code} {b : Nat} {D : va_G} {cI cJ : ClassId} {as : Nat → Nat} (G : zok p s mm #[Value.ref b] meth c bL_law 7 "AsOfLedgerLaw" D cI cJ as) (hret : meth.sig.returnType = ret) (hnew : ∀ k, k < 11 → s.heap.size ≤ as k) {kc ks : Nat} {lv : List (Option Value)} {w : zW} (h1 : kc ≤ 1040) (h2 : ks ≤ 9397) :
    Z p l e0 room_1 s mm #[Value.ref b] below meth c 7 D cI cJ as false (kc) (ks) (lw_Z below #[Value.ref b] s) 931 lv [] w := by
  refine zz_iconst (v := 1) G dL_law_931 (by decide) ?_
  intro ls H locs hl hP hS hr
  refine va_forget (fun q hq => ?_) (W.widen h1 h2 (lw_ret G.1.1 G.1.2.1 hret G.1.2.2.2.2 dL_law_932))
  rcases hS.2.2 q hq with ⟨k, hk, e⟩ | h
  · rw [e]; exact hnew k hk
  · exact h
set_option maxRecDepth 100000 in
set_option maxHeartbeats 4000000 in
theorem law_loop {p : Program} {l : Launch} {e0 : Env} {s : State} {mm : MethodId} {below : List Frame} {meth : Method} {c : Code} {b L : Nat} {xs : Nat → Int32} {D : va_G} {cI cJ : ClassId} {as : Nat → Nat} (hfl : l.flags = Jvm.pinnedFlags ++ [Jvm.noTraceFlag]) (G : zok p s mm #[Value.ref b] meth c bL_law 7 "AsOfLedgerLaw" D cI cJ as) (hL : L ≤ 2560) (hX : va_X b L xs s s.heap) (hbl : b < s.heap.size) (h11 : as 11 = b) (hbA : ¬ zA as s.heap.size b) (hret : meth.sig.returnType = ret) (hnew : ∀ k, k < 11 → s.heap.size ≤ as k) : ∀ (d j : Nat) (x : XS) (m : MS) (o : Nat → Int64), L ≤ 5 * j + d → 5 * j ≤ L + 4 → Rel x m → Z p l e0 room_1 s mm #[Value.ref b] below meth c 7 D cI cJ as false (11 + j) (1175 + 6 * j) (lw_Z below #[Value.ref b] s) 23 [some (.ref 11), some (.ref 0), some (.ref 5), some (.ref 10), some (.int (nI (5 * j))), none, none] [] (wx x m o) := by
  intro d
  induction d with
  | zero =>
    intro j x m o h1 h2 hR
    refine zz_iload G dL_law_23 rfl ?_
    refine zz_aload_n G dL_law_25 rfl ?_
    refine zz_slen G hX hbl h11 hbA dL_law_26 ?_
    refine zz_iconst (v := 5) G dL_law_27 (by decide) ?_
    refine zz_isub G dL_law_28 ?_
    refine zz_icmp_gt (tgt := 931) G dL_law_29 rfl (fun h29 => ?_) (fun h29 => ?_)
    · exact law_exit G hret hnew (by omega) (by omega)
    · exact absurd ((lp_iff hL (by omega)).mpr (by omega)) h29
  | succ d ih =>
    intro j x m o h1 h2 hR
    refine zz_iload G dL_law_23 rfl ?_
    refine zz_aload_n G dL_law_25 rfl ?_
    refine zz_slen G hX hbl h11 hbA dL_law_26 ?_
    refine zz_iconst (v := 5) G dL_law_27 (by decide) ?_
    refine zz_isub G dL_law_28 ?_
    refine zz_icmp_gt (tgt := 931) G dL_law_29 rfl (fun h29 => ?_) (fun h29 => ?_)
    · exact law_exit G hret hnew (by omega) (by omega)
    have hj : 5 * j + 5 ≤ L := by
      have h3 : ¬ L < 5 * j + 5 := fun z => h29 ((lp_iff hL (by omega)).mpr z)
      omega
    have NX : ∀ (x : XS) (m : MS) (o : Nat → Int64), Rel x m → Z p l e0 room_1 s mm #[Value.ref b] below meth c 7 D cI cJ as false (11 + j + 1) (1175 + 6 * j + 6) (lw_Z below #[Value.ref b] s) 925 [some (.ref 11), some (.ref 0), some (.ref 5), some (.ref 10), some (.int (nI (5 * j))), none, none] [] (wx x m o) := by
      intro x m o hR
      refine zz_iinc (v := nI (5 * (j + 1))) (lv' := [some (.ref 11), some (.ref 0), some (.ref 5), some (.ref 10), some (.int (nI (5 * (j + 1)))), none, none]) G dL_law_925 rfl (by rw [show 5 * (j + 1) = 5 * j + 5 by omega, ← nI_add]; rfl) rfl ?_
      refine zz_goto (tgt := 23) G dL_law_928 rfl ?_
      refine zz_widen (kc' := 11 + (j + 1)) (ks' := 1175 + 6 * (j + 1)) (by omega) (by omega) ?_
      exact ih (j + 1) x m o (by omega) (by omega) hR
    refine zz_aload_n G dL_law_32 rfl ?_
    refine zz_iload G dL_law_33 rfl ?_
    refine zz_sld (v := xs (5 * j)) G hX hbl h11 hbA dL_law_35 (vp_in_nI (by omega) (by omega)) (congrArg xs (nI_clamp (show 5 * j < 2 ^ 31 by omega))) ?_
    refine zz_bipush (v := 15) G dL_law_36 (by decide) ?_
    refine zz_iand G dL_law_38 ?_
    obtain ⟨r, hr16, er⟩ := pk_andE (xs (5 * j)) (m := 15) 4 (by decide)
    refine zz_eq (st' := [.int (nI r)]) rfl rfl (by rw [er]) rfl ?_
    have hrr : r = 0 ∨ r = 1 ∨ r = 2 ∨ r = 3 ∨ r = 4 ∨ r = 5 ∨ r = 6 ∨ r = 7 ∨ r = 8 ∨ r = 9 ∨ r = 10 ∨ r = 11 ∨ r = 12 ∨ r = 13 ∨ r = 14 ∨ r = 15 := by omega
    rcases hrr with rfl | rfl | rfl | rfl | rfl | rfl | rfl | rfl | rfl | rfl | rfl | rfl | rfl | rfl | rfl | rfl
    · refine zz_tabIn (off := 73) (tgt := 112) G dL_law_39 (by decide) (by decide) (by decide +kernel) rfl ?_
      exact lc_post hfl G hL hX hbl h11 hbA hj NX x m o hR
    · refine zz_tabIn (off := 165) (tgt := 204) G dL_law_39 (by decide) (by decide) (by decide +kernel) rfl ?_
      exact lc_correct hfl G hL hX hbl h11 hbA hj NX x m o hR
    · refine zz_tabIn (off := 233) (tgt := 272) G dL_law_39 (by decide) (by decide) (by decide +kernel) rfl ?_
      exact lc_annul hfl G hL hX hbl h11 hbA hj NX x m o hR
    · refine zz_tabIn (off := 289) (tgt := 328) G dL_law_39 (by decide) (by decide) (by decide +kernel) rfl ?_
      exact lc_balance hfl G hL hX hbl h11 hbA hj NX x m o hR
    · refine zz_tabIn (off := 369) (tgt := 408) G dL_law_39 (by decide) (by decide) (by decide +kernel) rfl ?_
      exact lc_trial hfl G hL hX hbl h11 hbA hj NX x m o hR
    · refine zz_tabIn (off := 437) (tgt := 476) G dL_law_39 (by decide) (by decide) (by decide +kernel) rfl ?_
      exact lc_turnover hfl G hL hX hbl h11 hbA hj NX x m o hR
    · refine zz_tabIn (off := 493) (tgt := 532) G dL_law_39 (by decide) (by decide) (by decide +kernel) rfl ?_
      exact lc_open hfl G hL hX hbl h11 hbA hj NX x m o hR
    · refine zz_tabIn (off := 585) (tgt := 624) G dL_law_39 (by decide) (by decide) (by decide +kernel) rfl ?_
      exact lc_next hfl G hL hX hbl h11 hbA hj NX x m o hR
    · refine zz_tabIn (off := 629) (tgt := 668) G dL_law_39 (by decide) (by decide) (by decide +kernel) rfl ?_
      exact lc_moved hfl G hL hX hbl h11 hbA hj NX x m o hR
    · refine zz_tabIn (off := 673) (tgt := 712) G dL_law_39 (by decide) (by decide) (by decide +kernel) rfl ?_
      exact lc_field hfl G hL hX hbl h11 hbA hj NX x m o hR
    · refine zz_tabIn (off := 753) (tgt := 792) G dL_law_39 (by decide) (by decide) (by decide +kernel) rfl ?_
      exact lc_entries hfl G hL hX hbl h11 hbA hj NX x m o hR
    · refine zz_tabIn (off := 797) (tgt := 836) G dL_law_39 (by decide) (by decide) (by decide +kernel) rfl ?_
      exact lc_clock hfl G hL hX hbl h11 hbA hj NX x m o hR
    · refine zz_tabIn (off := 810) (tgt := 849) G dL_law_39 (by decide) (by decide) (by decide +kernel) rfl ?_
      exact lc_head hfl G hL hX hbl h11 hbA hj NX x m o hR
    · refine zz_tabIn (off := 824) (tgt := 863) G dL_law_39 (by decide) (by decide) (by decide +kernel) rfl ?_
      exact lc_verify hfl G hL hX hbl h11 hbA hj NX x m o hR
    · refine zz_tabIn (off := 837) (tgt := 876) G dL_law_39 (by decide) (by decide) (by decide +kernel) rfl ?_
      exact lc_tamper hfl G hL hX hbl h11 hbA hj NX x m o hR
    · refine zz_tabOut (tgt := 925) G dL_law_39 (Or.inr (by decide)) rfl ?_
      refine zz_widen (kc' := 11 + j + 1) (ks' := 1175 + 6 * j + 6) (by omega) (by omega) ?_
      exact NX x m o hR
