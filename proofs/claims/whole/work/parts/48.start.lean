theorem ts_44 : Jvm.Cond.classLink "AsOfLedgerLaw" 8 "AsOfLedger" ∈ Tw := Tw_in (List.mem_of_getElem? (i := 44) (by decide +kernel)) (by decide +kernel)
theorem ts_45 : Jvm.Cond.instantiable "AsOfLedger" 11 ∈ Tw := Tw_in (List.mem_of_getElem? (i := 45) (by decide +kernel)) (by decide +kernel)
theorem ts_46 : Jvm.Cond.methodLink "AsOfLedgerLaw" 57 yX_init ∈ Tw := Tw_in (List.mem_of_getElem? (i := 46) (by decide +kernel)) (by decide +kernel)
theorem ts_47 : Jvm.Cond.instanceMethod yX_init ∈ Tw := Tw_in (List.mem_of_getElem? (i := 47) (by decide +kernel)) (by decide +kernel)
theorem ts_48 : Jvm.Cond.code yX_init bX_init 1 none ∈ Tw := Tw_in (List.mem_of_getElem? (i := 48) (by decide +kernel)) (by decide +kernel)
theorem ts_414 : Jvm.Cond.classLink "AsOfLedgerLaw" 58 "AsOfLedgerModel" ∈ Tw := Tw_in (List.mem_of_getElem? (i := 414) (by decide +kernel)) (by decide +kernel)
theorem ts_415 : Jvm.Cond.instantiable "AsOfLedgerModel" 11 ∈ Tw := Tw_in (List.mem_of_getElem? (i := 415) (by decide +kernel)) (by decide +kernel)
theorem ts_416 : Jvm.Cond.methodLink "AsOfLedgerLaw" 60 yM_init ∈ Tw := Tw_in (List.mem_of_getElem? (i := 416) (by decide +kernel)) (by decide +kernel)
theorem ts_417 : Jvm.Cond.instanceMethod yM_init ∈ Tw := Tw_in (List.mem_of_getElem? (i := 417) (by decide +kernel)) (by decide +kernel)
theorem ts_418 : Jvm.Cond.code yM_init bM_init 1 none ∈ Tw := Tw_in (List.mem_of_getElem? (i := 418) (by decide +kernel)) (by decide +kernel)
theorem tw_all {b : Nat} {s : State} (hts : ∀ w ∈ lw_tbl, w.before #[Value.ref b] s = true) (hg : (Jvm.Cond.and given_1 narrow_1).before #[Value.ref b] s = true) : ∀ w ∈ Tw, w.before #[Value.ref b] s = true := by
  intro w hw
  rcases List.mem_append.mp hw with h | h
  · exact hts w (List.mem_filter.mp h).1
  · have hs := flat_of_before _ hg
    have hall : zNots.all (fun w => decide (w ∈ flatC (Jvm.Cond.and given_1 narrow_1))) = true := by decide +kernel
    exact hs w (of_decide_eq_true (List.all_eq_true.mp hall w h))
theorem env_start {b : Nat} {s : State} {as : Nat → Nat} (hts : ∀ w ∈ lw_tbl, w.before #[Value.ref b] s = true) (hg : (Jvm.Cond.and given_1 narrow_1).before #[Value.ref b] s = true) (hA : ∀ a : Nat, a < s.heap.size → ¬ zA as s.heap.size a) : zenv as s.heap.size s := by
  have hs := flat_of_before _ hg
  refine ⟨zst_of (hts _ (by decide +kernel)) (hs _ (by decide +kernel)) hA, zst_of (hts _ (by decide +kernel)) (hs _ (by decide +kernel)) hA, fun q hq => ?_⟩
  have hall : zstr.all (fun q => decide (Jvm.Cond.stringRef q.1 q.2.1 q.2.2 ∈ lw_tbl) && decide (Jvm.Cond.exactly (.string q.1 q.2.1) "java/lang/String" ∈ flatC (Jvm.Cond.and given_1 narrow_1))) = true := by decide +kernel
  have h1 := List.all_eq_true.mp hall q hq
  simp only [Bool.and_eq_true, decide_eq_true_eq] at h1
  obtain ⟨a, c, cell, k, q1, -⟩ := Cond.exactly_spec (hs _ h1.2)
  exact ⟨a, vk_R.of (hts _ h1.1) q1⟩
def x00 : XS := (fun _ => 0, fun _ => 0, fun _ => 0, fun _ => 0, 0, 0, 0, 0, 0, 0, -1)
def m00 : MS := (fun _ => 0, fun _ => 0, fun _ => 0, fun _ => 0, 0, 0, 0, 0, 0, 0, 0)
theorem rel00 : Rel x00 m00 := by
  refine ⟨0, 0, 0, [], ⟨by omega, by omega, rfl, rfl, rfl, rfl⟩, ⟨rfl, rfl, rfl, fun _ => ⟨by omega, by omega, fun v hv => absurd hv (Nat.not_lt_zero v), fun v hv => absurd hv (Nat.not_lt_zero v), fun v hv => absurd hv (Nat.not_lt_zero v), fun v hv => absurd hv (Nat.not_lt_zero v), fun a => ?_⟩⟩, ⟨by simp, Nat.le_refl 0, (fun u hu => absurd hu List.not_mem_nil), rfl, (fun k w hk => by simp at hk), rfl, rfl, rfl⟩, Or.inl ⟨rfl, rfl⟩, (fun _ k u hk => by simp at hk)⟩
  show (0 : Int) ≤ 2147483647
  omega
def asN (b a0 q1 q2 q3 q4 a5 q6 q7 q8 q9 q10 : Nat) : Nat → Nat := fun k => match k with
  | 0 => a0
  | 1 => q1
  | 2 => q2
  | 3 => q3
  | 4 => q4
  | 5 => a5
  | 6 => q6
  | 7 => q7
  | 8 => q8
  | 9 => q9
  | 10 => q10
  | _ => b
set_option maxRecDepth 100000 in
set_option maxHeartbeats 4000000 in
theorem whole_start {p : Program} {e : Env} {s : State} {m : MethodId} {below : List Frame} {meth : Method} {c : Code} (l : Launch) (hfl : l.flags = Jvm.pinnedFlags ++ [Jvm.noTraceFlag]) {b L : Nat} {xs : Nat → Int32} (hL : L ≤ 2560) (C0 : lw_At p s m meth c b L xs) : W p l e room_1 s m #[Value.ref b] below meth c s.heap [] 0 0 (lw_Z below #[Value.ref b] s) (entryFrame m ([Value.ref b] : List Value).toArray 7) := by
  obtain ⟨hx, hb, hr, hml, hown, hts0, hXs, hbl, hlocks, hgv⟩ := C0
  have hts := tw_all hts0 hgv
  obtain ⟨cX, iX, hKX⟩ := u_known (n := 11) hts wsX (hts _ ts_45)
  obtain ⟨cM, iM, hKM⟩ := u_known (n := 11) hts wsM (hts _ ts_415)
  obtain ⟨dC, dI, hK⟩ : ∃ dC dI, va_K (dC, dI) vwCl [] s := by
    refine ⟨fun c => if c = 0 then cX else cM, fun c => if c = 0 then iX else iM, fun c q hq => ?_, fun k q hk => by simp at hk⟩
    rcases c with _ | _ | c
    · cases hq; exact hKX
    · cases hq; exact hKM
    · simp at hq
  have hA : ∀ q : Nat, s.heap.size ≤ q → (fun q => s.heap.size ≤ q) q := fun q h => h
  generalize hAe : (fun q : Nat => s.heap.size ≤ q) = A at hA
  have hS : va_S A s.heap s.heap [] := va_S.rf
  have hP : va_P (dC, dI) vwCl [] s.heap := fun k q hq => by simp at hq
  have hD : va_D A [] := ⟨fun i j p q hi => by simp at hi, fun k q hk => by simp at hk⟩
  have hl := lv_entry ([.ref b]) (n := 7) (Nat.le_of_ble_eq_true rfl)
  rw [lg_entry_eq]
  generalize (lg_sl ([.ref b]) ++ List.replicate (7 - (lg_sl ([.ref b])).length) Slot.unset).toArray = ls at hl ⊢
  have hl : lv_has ls 7 [(0, .ref b)] := hl
  refine va_new (ci := 0) (fs := [.null, .null, .null, .int 0, .int 0, .int 0, .null, .int 0, .int 0, .int 0, .int 0]) (C := "AsOfLedger") (T := TX) (N := 11) hx hb hts wsX tX tX_ok hown (hts _ ts_44) (hts _ ts_45) (hts _ tw_33) hK hP hD hS hA rfl (fun j hj => by have h9 : j = 0 ∨ j = 1 ∨ j = 2 ∨ j = 3 ∨ j = 4 ∨ j = 5 ∨ j = 6 ∨ j = 7 ∨ j = 8 ∨ j = 9 ∨ j = 10 := (by omega); rcases h9 with rfl | rfl | rfl | rfl | rfl | rfl | rfl | rfl | rfl | rfl | rfl <;> rfl) (Nat.le_of_ble_eq_true rfl) (Nat.le_of_ble_eq_true rfl) dL_law_0 (fun a0 H hP hD hS => ?_)
  have hP : va_P (dC, dI) vwCl [(a0, .inr (0, [.null, .null, .null, .int 0, .int 0, .int 0, .null, .int 0, .int 0, .int 0, .int 0]))] H := hP
  have hD : va_D A [(a0, .inr (0, [.null, .null, .null, .int 0, .int 0, .int 0, .null, .int 0, .int 0, .int 0, .int 0]))] := hD
  refine lv_dup hx hb dL_law_3 rfl ?_
  have hPc := hP.sub (ws' := [(a0, .inr (0, [.null, .null, .null, .int 0, .int 0, .int 0, .null, .int 0, .int 0, .int 0, .int 0]))]) [0] rfl
  have hDc := hD.sub (ws' := [(a0, .inr (0, [.null, .null, .null, .int 0, .int 0, .int 0, .null, .int 0, .int 0, .int 0, .int 0]))]) [0] (by decide) rfl
  have hKc := hK.sub (tys' := []) [] rfl
  have hFc := va_free (wc := [(a0, .inr (0, [.null, .null, .null, .int 0, .int 0, .int 0, .null, .int 0, .int 0, .int 0, .int 0]))]) hD hS hA [0] rfl
  refine va_callv (va_runI (As := []) (rest := [.ref a0]) ⟨hx, hb, hml, hown, hts⟩ (cn_X l dC dI a0 H.size) ⟨⟨rfl, rfl, (Nat.le_of_ble_eq_true rfl), (Nat.le_of_ble_eq_true rfl), zws hts ts_48, List.mem_cons_self, hts _ ts_48, hts _ tw_33, ⟨by decide, by decide⟩, (by intro sig h9; have h2 : (parseMethodDescriptor yX_init.desc).map (fun d => d.parameters.length) = some 0 := (by decide +kernel); rw [h9] at h2; exact (Option.some.inj h2).symm), hts _ ts_46⟩, rfl, hts _ ts_47⟩ ⟨fun a U g mk q => by obtain ⟨q0, q1, qP, qK, qD⟩ := q; exact ⟨q0, q1, qP, va_K.moved (u := U) (U := U.calling g mk a) (Vm.Alike.refl U.vm) qK, qD⟩, fun U hU hW => ⟨rfl, by rw [hU], by rw [hU]; exact hPc, va_K.moved hW.alike hKc, hDc.weaken (fun _ _ _ _ => trivial)⟩⟩ rfl rfl hl.1 rfl (lv_room (Nat.le_of_ble_eq_true rfl)) dL_law_4 ⟨(Nat.le_of_ble_eq_true rfl), (Nat.le_of_ble_eq_true rfl)⟩) hS (fun q _ h => hFc q h) hFc (fun u t H1 locs ht hvm _ hB hz1 hk1 hS => ?_)
  obtain ⟨q1, q2, q3, q4, c1, c2, c3, c4, hP1, hK1, hD1⟩ := hB
  rw [ht] at hP1
  have hK1 := va_K.moved hvm.symm hK1
  obtain ⟨hP, hD⟩ := va_join (wr := []) (w1 := [(a0, .inr (0, [.ref q1, .ref q2, .ref q3, .int 0, .int 0, .int 0, .ref q4, .int 0, .int 0, .int 0, .int (-1)])), (q1, .inl (c1, 384, .inl (fun _ => 0))), (q2, .inl (c2, 64, .inr (.inl (fun _ => 0)))), (q3, .inl (c3, 64, .inl (fun _ => 0))), (q4, .inl (c4, 64, .inl (fun _ => 0)))]) hP hD [0] [] rfl rfl (by decide) (by decide) hk1 hFc hP1 hD1
  have hK : va_K (dC, dI) vwCl [(c1, .int), (c2, .long), (c3, .int), (c4, .int)] s := (hK.sub (tys' := []) [] rfl).app hK1
  generalize H1 = H at hP hS ⊢
  have hP : va_P (dC, dI) vwCl [(a0, .inr (0, [.ref q1, .ref q2, .ref q3, .int 0, .int 0, .int 0, .ref q4, .int 0, .int 0, .int 0, .int (-1)])), (q1, .inl (c1, 384, .inl (fun _ => 0))), (q2, .inl (c2, 64, .inr (.inl (fun _ => 0)))), (q3, .inl (c3, 64, .inl (fun _ => 0))), (q4, .inl (c4, 64, .inl (fun _ => 0)))] H := hP
  have hD : va_D A [(a0, .inr (0, [.ref q1, .ref q2, .ref q3, .int 0, .int 0, .int 0, .ref q4, .int 0, .int 0, .int 0, .int (-1)])), (q1, .inl (c1, 384, .inl (fun _ => 0))), (q2, .inl (c2, 64, .inr (.inl (fun _ => 0)))), (q3, .inl (c3, 64, .inl (fun _ => 0))), (q4, .inl (c4, 64, .inl (fun _ => 0)))] := hD
  refine lv_astore_n (lv' := [(1, .ref a0), (0, .ref b)]) hx hb dL_law_7 rfl hl (by decide) rfl (fun ls hl => ?_)
  refine va_new (ci := 1) (fs := [.int 0, .int 0, .int 0, .int 0, .null, .null, .int 0, .int 0, .int 0, .null, .null]) (C := "AsOfLedgerModel") (T := TM) (N := 11) hx hb hts wsM tM tM_ok hown (hts _ ts_414) (hts _ ts_415) (hts _ tw_34) hK hP hD hS hA rfl (fun j hj => by have h9 : j = 0 ∨ j = 1 ∨ j = 2 ∨ j = 3 ∨ j = 4 ∨ j = 5 ∨ j = 6 ∨ j = 7 ∨ j = 8 ∨ j = 9 ∨ j = 10 := (by omega); rcases h9 with rfl | rfl | rfl | rfl | rfl | rfl | rfl | rfl | rfl | rfl | rfl <;> rfl) (Nat.le_of_ble_eq_true rfl) (Nat.le_of_ble_eq_true rfl) dL_law_8 (fun a5 H hP hD hS => ?_)
  have hP : va_P (dC, dI) vwCl [(a0, .inr (0, [.ref q1, .ref q2, .ref q3, .int 0, .int 0, .int 0, .ref q4, .int 0, .int 0, .int 0, .int (-1)])), (q1, .inl (c1, 384, .inl (fun _ => 0))), (q2, .inl (c2, 64, .inr (.inl (fun _ => 0)))), (q3, .inl (c3, 64, .inl (fun _ => 0))), (q4, .inl (c4, 64, .inl (fun _ => 0))), (a5, .inr (1, [.int 0, .int 0, .int 0, .int 0, .null, .null, .int 0, .int 0, .int 0, .null, .null]))] H := hP
  have hD : va_D A [(a0, .inr (0, [.ref q1, .ref q2, .ref q3, .int 0, .int 0, .int 0, .ref q4, .int 0, .int 0, .int 0, .int (-1)])), (q1, .inl (c1, 384, .inl (fun _ => 0))), (q2, .inl (c2, 64, .inr (.inl (fun _ => 0)))), (q3, .inl (c3, 64, .inl (fun _ => 0))), (q4, .inl (c4, 64, .inl (fun _ => 0))), (a5, .inr (1, [.int 0, .int 0, .int 0, .int 0, .null, .null, .int 0, .int 0, .int 0, .null, .null]))] := hD
  refine lv_dup hx hb dL_law_11 rfl ?_
  have hPc := hP.sub (ws' := [(a5, .inr (1, [.int 0, .int 0, .int 0, .int 0, .null, .null, .int 0, .int 0, .int 0, .null, .null]))]) [5] rfl
  have hDc := hD.sub (ws' := [(a5, .inr (1, [.int 0, .int 0, .int 0, .int 0, .null, .null, .int 0, .int 0, .int 0, .null, .null]))]) [5] (by decide) rfl
  have hKc := hK.sub (tys' := []) [] rfl
  have hFc := va_free (wc := [(a5, .inr (1, [.int 0, .int 0, .int 0, .int 0, .null, .null, .int 0, .int 0, .int 0, .null, .null]))]) hD hS hA [5] rfl
  refine va_callv (va_runI (As := []) (rest := [.ref a5]) ⟨hx, hb, hml, hown, hts⟩ (cn_M l dC dI a5 H.size) ⟨⟨rfl, rfl, (Nat.le_of_ble_eq_true rfl), (Nat.le_of_ble_eq_true rfl), zws hts ts_418, List.mem_cons_self, hts _ ts_418, hts _ tw_34, ⟨by decide, by decide⟩, (by intro sig h9; have h2 : (parseMethodDescriptor yM_init.desc).map (fun d => d.parameters.length) = some 0 := (by decide +kernel); rw [h9] at h2; exact (Option.some.inj h2).symm), hts _ ts_416⟩, rfl, hts _ ts_417⟩ ⟨fun a U g mk q => by obtain ⟨q0, q1, qP, qK, qD⟩ := q; exact ⟨q0, q1, qP, va_K.moved (u := U) (U := U.calling g mk a) (Vm.Alike.refl U.vm) qK, qD⟩, fun U hU hW => ⟨rfl, by rw [hU], by rw [hU]; exact hPc, va_K.moved hW.alike hKc, hDc.weaken (fun _ _ _ _ => trivial)⟩⟩ rfl rfl hl.1 rfl (lv_room (Nat.le_of_ble_eq_true rfl)) dL_law_12 ⟨(Nat.le_of_ble_eq_true rfl), (Nat.le_of_ble_eq_true rfl)⟩) hS (fun q _ h => hFc q h) hFc (fun u t H1 locs ht hvm _ hB hz1 hk1 hS => ?_)
  obtain ⟨q6, q7, q8, q9, c6, c7, c8, c9, hP1, hK1, hD1⟩ := hB
  rw [ht] at hP1
  have hK1 := va_K.moved hvm.symm hK1
  obtain ⟨hP, hD⟩ := va_join (wr := [(a0, .inr (0, [.ref q1, .ref q2, .ref q3, .int 0, .int 0, .int 0, .ref q4, .int 0, .int 0, .int 0, .int (-1)])), (q1, .inl (c1, 384, .inl (fun _ => 0))), (q2, .inl (c2, 64, .inr (.inl (fun _ => 0)))), (q3, .inl (c3, 64, .inl (fun _ => 0))), (q4, .inl (c4, 64, .inl (fun _ => 0)))]) (w1 := [(a5, .inr (1, [.int 0, .int 0, .int 0, .int 0, .ref q6, .ref q7, .int 0, .int 0, .int 0, .ref q8, .ref q9])), (q6, .inl (c6, 384, .inl (fun _ => 0))), (q7, .inl (c7, 64, .inr (.inl (fun _ => 0)))), (q8, .inl (c8, 64, .inl (fun _ => 0))), (q9, .inl (c9, 64, .inl (fun _ => 0)))]) hP hD [5] [0, 1, 2, 3, 4] rfl rfl (by decide) (by decide) hk1 hFc hP1 hD1
  have hK : va_K (dC, dI) vwCl [(c1, .int), (c2, .long), (c3, .int), (c4, .int), (c6, .int), (c7, .long), (c8, .int), (c9, .int)] s := (hK.sub (tys' := [(c1, .int), (c2, .long), (c3, .int), (c4, .int)]) [0, 1, 2, 3] rfl).app hK1
  generalize H1 = H at hP hS ⊢
  have hP : va_P (dC, dI) vwCl [(a0, .inr (0, [.ref q1, .ref q2, .ref q3, .int 0, .int 0, .int 0, .ref q4, .int 0, .int 0, .int 0, .int (-1)])), (q1, .inl (c1, 384, .inl (fun _ => 0))), (q2, .inl (c2, 64, .inr (.inl (fun _ => 0)))), (q3, .inl (c3, 64, .inl (fun _ => 0))), (q4, .inl (c4, 64, .inl (fun _ => 0))), (a5, .inr (1, [.int 0, .int 0, .int 0, .int 0, .ref q6, .ref q7, .int 0, .int 0, .int 0, .ref q8, .ref q9])), (q6, .inl (c6, 384, .inl (fun _ => 0))), (q7, .inl (c7, 64, .inr (.inl (fun _ => 0)))), (q8, .inl (c8, 64, .inl (fun _ => 0))), (q9, .inl (c9, 64, .inl (fun _ => 0)))] H := hP
  have hD : va_D A [(a0, .inr (0, [.ref q1, .ref q2, .ref q3, .int 0, .int 0, .int 0, .ref q4, .int 0, .int 0, .int 0, .int (-1)])), (q1, .inl (c1, 384, .inl (fun _ => 0))), (q2, .inl (c2, 64, .inr (.inl (fun _ => 0)))), (q3, .inl (c3, 64, .inl (fun _ => 0))), (q4, .inl (c4, 64, .inl (fun _ => 0))), (a5, .inr (1, [.int 0, .int 0, .int 0, .int 0, .ref q6, .ref q7, .int 0, .int 0, .int 0, .ref q8, .ref q9])), (q6, .inl (c6, 384, .inl (fun _ => 0))), (q7, .inl (c7, 64, .inr (.inl (fun _ => 0)))), (q8, .inl (c8, 64, .inl (fun _ => 0))), (q9, .inl (c9, 64, .inl (fun _ => 0)))] := hD
  refine lv_astore_n (lv' := [(2, .ref a5), (1, .ref a0), (0, .ref b)]) hx hb dL_law_15 rfl hl (by decide) rfl (fun ls hl => ?_)
  refine lv_iconst (v := 1) hx hb dL_law_16 (by decide) ?_
  refine va_newa (atype := .long) (ty := .long) (N' := 1) (a0 := (1, .inr (.inl (fun _ => 0)))) hx hb (hts _ tl_87) rfl hK hP hD hS hA (fun cA => rfl) (by decide) (by decide) (by decide) (Nat.le_of_ble_eq_true rfl) (Nat.le_of_ble_eq_true rfl) dL_law_17 (fun q10 c10 H hK hP hD hS => ?_)
  have hP : va_P (dC, dI) vwCl [(a0, .inr (0, [.ref q1, .ref q2, .ref q3, .int 0, .int 0, .int 0, .ref q4, .int 0, .int 0, .int 0, .int (-1)])), (q1, .inl (c1, 384, .inl (fun _ => 0))), (q2, .inl (c2, 64, .inr (.inl (fun _ => 0)))), (q3, .inl (c3, 64, .inl (fun _ => 0))), (q4, .inl (c4, 64, .inl (fun _ => 0))), (a5, .inr (1, [.int 0, .int 0, .int 0, .int 0, .ref q6, .ref q7, .int 0, .int 0, .int 0, .ref q8, .ref q9])), (q6, .inl (c6, 384, .inl (fun _ => 0))), (q7, .inl (c7, 64, .inr (.inl (fun _ => 0)))), (q8, .inl (c8, 64, .inl (fun _ => 0))), (q9, .inl (c9, 64, .inl (fun _ => 0))), (q10, .inl (c10, 1, .inr (.inl (fun _ => 0))))] H := hP
  have hD : va_D A [(a0, .inr (0, [.ref q1, .ref q2, .ref q3, .int 0, .int 0, .int 0, .ref q4, .int 0, .int 0, .int 0, .int (-1)])), (q1, .inl (c1, 384, .inl (fun _ => 0))), (q2, .inl (c2, 64, .inr (.inl (fun _ => 0)))), (q3, .inl (c3, 64, .inl (fun _ => 0))), (q4, .inl (c4, 64, .inl (fun _ => 0))), (a5, .inr (1, [.int 0, .int 0, .int 0, .int 0, .ref q6, .ref q7, .int 0, .int 0, .int 0, .ref q8, .ref q9])), (q6, .inl (c6, 384, .inl (fun _ => 0))), (q7, .inl (c7, 64, .inr (.inl (fun _ => 0)))), (q8, .inl (c8, 64, .inl (fun _ => 0))), (q9, .inl (c9, 64, .inl (fun _ => 0))), (q10, .inl (c10, 1, .inr (.inl (fun _ => 0))))] := hD
  have hK : va_K (dC, dI) vwCl [(c1, .int), (c2, .long), (c3, .int), (c4, .int), (c6, .int), (c7, .long), (c8, .int), (c9, .int), (c10, .long)] s := hK
  refine lv_astore_n (lv' := [(3, .ref q10), (2, .ref a5), (1, .ref a0), (0, .ref b)]) hx hb dL_law_19 rfl hl (by decide) rfl (fun ls hl => ?_)
  refine lv_iconst (v := 0) hx hb dL_law_20 (by decide) ?_
  refine lv_istore (lv' := [(4, .int 0), (3, .ref q10), (2, .ref a5), (1, .ref a0), (0, .ref b)]) hx hb dL_law_21 hl (by decide) rfl (fun ls hl => ?_)
  obtain rfl : c1 = c3 := Option.some.inj ((hK.2 0 _ rfl).2.symm.trans (hK.2 2 _ rfl).2)
  obtain rfl : c1 = c4 := Option.some.inj ((hK.2 0 _ rfl).2.symm.trans (hK.2 3 _ rfl).2)
  obtain rfl : c1 = c6 := Option.some.inj ((hK.2 0 _ rfl).2.symm.trans (hK.2 4 _ rfl).2)
  obtain rfl : c1 = c8 := Option.some.inj ((hK.2 0 _ rfl).2.symm.trans (hK.2 6 _ rfl).2)
  obtain rfl : c1 = c9 := Option.some.inj ((hK.2 0 _ rfl).2.symm.trans (hK.2 7 _ rfl).2)
  obtain rfl : c2 = c7 := Option.some.inj ((hK.2 1 _ rfl).2.symm.trans (hK.2 5 _ rfl).2)
  obtain rfl : c2 = c10 := Option.some.inj ((hK.2 1 _ rfl).2.symm.trans (hK.2 8 _ rfl).2)
  have hws : ∀ i, i < 11 → ∃ e9 : va_E, ([(a0, .inr (0, [.ref q1, .ref q2, .ref q3, .int 0, .int 0, .int 0, .ref q4, .int 0, .int 0, .int 0, .int (-1)])), (q1, .inl (c1, 384, .inl (fun _ => 0))), (q2, .inl (c2, 64, .inr (.inl (fun _ => 0)))), (q3, .inl (c1, 64, .inl (fun _ => 0))), (q4, .inl (c1, 64, .inl (fun _ => 0))), (a5, .inr (1, [.int 0, .int 0, .int 0, .int 0, .ref q6, .ref q7, .int 0, .int 0, .int 0, .ref q8, .ref q9])), (q6, .inl (c1, 384, .inl (fun _ => 0))), (q7, .inl (c2, 64, .inr (.inl (fun _ => 0)))), (q8, .inl (c1, 64, .inl (fun _ => 0))), (q9, .inl (c1, 64, .inl (fun _ => 0))), (q10, .inl (c2, 1, .inr (.inl (fun _ => 0))))] : va_W)[i]? = some (asN b a0 q1 q2 q3 q4 a5 q6 q7 q8 q9 q10 i, e9) := by
    intro i hi
    have h9 : i = 0 ∨ i = 1 ∨ i = 2 ∨ i = 3 ∨ i = 4 ∨ i = 5 ∨ i = 6 ∨ i = 7 ∨ i = 8 ∨ i = 9 ∨ i = 10 := by omega
    rcases h9 with rfl | rfl | rfl | rfl | rfl | rfl | rfl | rfl | rfl | rfl | rfl <;> exact ⟨_, rfl⟩
  have hinj : zinj (asN b a0 q1 q2 q3 q4 a5 q6 q7 q8 q9 q10) := fun i j hi hj h => by
    obtain ⟨e1, h1⟩ := hws i hi
    obtain ⟨e2, h2⟩ := hws j hj
    exact hD.1 i j _ _ h1 h2 h
  have hnew : ∀ k, k < 11 → s.heap.size ≤ asN b a0 q1 q2 q3 q4 a5 q6 q7 q8 q9 q10 k := fun k hk => by
    obtain ⟨e1, h1⟩ := hws k hk
    have h2 := hD.2 k _ h1
    rw [← hAe] at h2
    exact h2
  have hlow : ∀ a : Nat, a < s.heap.size → ¬ zA (asN b a0 q1 q2 q3 q4 a5 q6 q7 q8 q9 q10) s.heap.size a := by
    rintro a ha (⟨k, hk, e9⟩ | h)
    · have := hnew k hk; omega
    · omega
  have G : zok p s m #[Value.ref b] meth c bL_law 7 "AsOfLedgerLaw" (dC, dI) c1 c2 (asN b a0 q1 q2 q3 q4 a5 q6 q7 q8 q9 q10) := ⟨⟨hx, hb, hml, hown, hlocks⟩, hts, hK.sub (tys' := [(c1, .int), (c2, .long)]) [0, 1] rfl, hinj, env_start hts0 hgv hlow⟩
  have hzH : zH (dC, dI) c1 c2 (asN b a0 q1 q2 q3 q4 a5 q6 q7 q8 q9 q10) (wx x00 m00 (fun _ => 0)) H := ⟨rfl, hP⟩
  have hzS : va_S (zA (asN b a0 q1 q2 q3 q4 a5 q6 q7 q8 q9 q10) s.heap.size) s.heap H locs := ⟨hS.1, fun q h1 h2 => hS.2.1 q h1 (fun z => h2 (Or.inr (by rw [← hAe] at z; exact z))), fun q hq => Or.inr (by have z := hS.2.2 q hq; rw [← hAe] at z; exact z)⟩
  have hzL : zL (asN b a0 q1 q2 q3 q4 a5 q6 q7 q8 q9 q10) ls 7 [some (.ref 11), some (.ref 0), some (.ref 5), some (.ref 10), some (.int (nI (5 * 0))), none, none] := by
    refine ⟨rfl, hl.1, hl.2.1, fun q hq => ?_⟩
    have hq : q ∈ [(0, Value.ref b), (1, Value.ref a0), (2, Value.ref a5), (3, Value.ref q10), (4, Value.int 0)] := hq
    simp only [List.mem_cons, List.not_mem_nil, or_false] at hq
    rcases hq with rfl | rfl | rfl | rfl | rfl <;> exact hl.2.2 _ (by simp)
  exact law_loop hfl G hL hXs hbl rfl (hlow b hbl) hr hnew L 0 x00 m00 (fun _ => 0) (by omega) (by omega) rel00 ls H locs hzL hzH hzS (fun h => by cases h)
