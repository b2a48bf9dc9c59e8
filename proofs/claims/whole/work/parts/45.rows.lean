/-! Rows for the law: its script (the cell at place 11), its switch, its helpers' calls. -/
section ZL
variable {p : Program} {l : Launch} {e : Env} {R : Room} {s : State} {m : MethodId} {args : Array Value} {below : List Frame} {meth : Method} {c : Code} {cc : ByteArray} {nL : Nat} {own : String} {D : va_G} {cI cJ : ClassId} {as : Nat → Nat} {rd : Bool} {kc ks : Nat} {Q : State → Prop} {pc : Nat} {lv : List (Option Value)} {st : List Value} {w : zW}
theorem zz_sld (G : zok p s m args meth c cc nL own D cI cJ as) {b L : Nat} {xs : Nat → Int32} (hX : va_X b L xs s s.heap) (hbl : b < s.heap.size) (hb : as 11 = b) (hbA : ¬ zA as s.heap.size b) {i v : Int32} (hd : decode cc pc = .ok (.iaload, 1)) (hin : vp_in i L) (hv : xs i.toNatClampNeg = v)
    (k : Z p l e R s m args below meth c nL D cI cJ as rd kc ks Q (pc + 1) lv (.int v :: st) w) : Z p l e R s m args below meth c nL D cI cJ as rd kc ks Q pc lv (.int i :: .ref 11 :: st) w := by
  intro ls H locs hl hP hS hr
  subst hv
  subst hb
  exact va_sld G.1.1 G.1.2.1 hX hbl hbA hS hin hd (k ls H locs hl hP hS hr)
theorem zz_slen (G : zok p s m args meth c cc nL own D cI cJ as) {b L : Nat} {xs : Nat → Int32} (hX : va_X b L xs s s.heap) (hbl : b < s.heap.size) (hb : as 11 = b) (hbA : ¬ zA as s.heap.size b) (hd : decode cc pc = .ok (.arraylength, 1))
    (k : Z p l e R s m args below meth c nL D cI cJ as rd kc ks Q (pc + 1) lv (.int (nI L) :: st) w) : Z p l e R s m args below meth c nL D cI cJ as rd kc ks Q pc lv (.ref 11 :: st) w := by
  intro ls H locs hl hP hS hr
  subst hb
  exact va_slen G.1.1 G.1.2.1 hX hbl hbA hS hd (k ls H locs hl hP hS hr)
theorem zz_tabIn (G : zok p s m args meth c cc nL own D cI cJ as) {dflt lo hi : Int} {offs : Array Int} {len : Nat} {x : Int32} {off : Int} {tgt : Nat} (hd : decode cc pc = .ok (.tableswitch dflt lo hi offs, len)) (h1 : ¬ x.toInt < lo) (h2 : ¬ hi < x.toInt) (ho : offs[(x.toInt - lo).toNat]? = some off) (ht : (pc : Int) + off = (tgt : Int))
    (k : Z p l e R s m args below meth c nL D cI cJ as rd kc ks Q tgt lv st w) : Z p l e R s m args below meth c nL D cI cJ as rd kc ks Q pc lv (.int x :: st) w :=
  fun ls H locs hl hP hS hr => lv_tableIn G.1.1 G.1.2.1 hd h1 h2 ho ht (k ls H locs hl hP hS hr)
theorem zz_tabOut (G : zok p s m args meth c cc nL own D cI cJ as) {dflt lo hi : Int} {offs : Array Int} {len : Nat} {x : Int32} {tgt : Nat} (hd : decode cc pc = .ok (.tableswitch dflt lo hi offs, len)) (h : x.toInt < lo ∨ hi < x.toInt) (ht : (pc : Int) + dflt = (tgt : Int))
    (k : Z p l e R s m args below meth c nL D cI cJ as rd kc ks Q tgt lv st w) : Z p l e R s m args below meth c nL D cI cJ as rd kc ks Q pc lv (.int x :: st) w :=
  fun ls H locs hl hP hS hr => lv_tableOut G.1.1 G.1.2.1 hd h ht (k ls H locs hl hP hS hr)
theorem zz_callSWi (G : zok p s m args meth c cc nL own D cI cJ as) {y : MethodName} {cc' : ByteArray} {nL' lev' idx n : Nat} {hh : List (Nat × Nat × Nat × Nat)} {ret' : Option FieldType} {rd' : Bool} {As rest : List Value} {v : Int32} {w' : zW}
    (hM : zC l y (Jvm.Cond.codeWith y cc' nL' ret' hh :: Tw) lev' rd' 1 6 As w (.inl (some (.int v), w'))) (hc : zcSW own idx y cc' nL' ret' hh n) (hd : decode cc pc = .ok (.invokestatic idx, 3)) (hn : As.length = n)
    (hst : st = As.reverse ++ rest) (hwt : (rest.map fun v => v.category).sum ≤ 8) (hrd : rd = true → rd' = true) (hR : (zrm lev').frames + 1 ≤ R.frames ∧ 8 + (nL' + 11) + (zrm lev').locals ≤ R.locals) (hf : kc + 1 ≤ R.cells ∧ ks + 6 ≤ R.slots)
    (kk : Z p l e R s m args below meth c nL D cI cJ as rd (kc + 1) (ks + 6) Q (pc + 3) lv (.int v :: rest) w') : Z p l e R s m args below meth c nL D cI cJ as rd kc ks Q pc lv st w :=
  zz_callSW G hM hc hd hn hst hwt hrd hR hf kk
end ZL
theorem sc_in {j L : Nat} (k : Nat) (hj : 5 * j + 5 ≤ L) (hL : L ≤ 2560) (hk : k < 5) : vp_in (nI (5 * j) + nI k) L := by
  rw [nI_add]
  exact vp_in_nI (by omega) (by omega)
theorem sc_at {j L : Nat} (k : Nat) (hj : 5 * j + 5 ≤ L) (hL : L ≤ 2560) (hk : k < 5) : (nI (5 * j) + nI k).toNatClampNeg = 5 * j + k := by
  rw [nI_add]
  exact nI_clamp (by omega)
section RelF
variable {n e p : Nat} {l : List Nat} {x : XS} {m : MS}
theorem rel_live (h : RelN n e p l x m) : fm_touched m = 0 → ∀ j, j < e → ∃ v, sLast (fm_words m) (nI j) n = some v := by
  intro ht j hj
  obtain ⟨-, ⟨htm, hw, -, hI⟩, -, -, -⟩ := h
  obtain ⟨v, h1, h2⟩ := (hI (htm.trans ht)).2.2.2.1 j hj
  rw [← hw]
  exact mL_some h1 h2
theorem rel_b (h : RelN n e p l x m) : ∀ k, k < l.length → ∃ u, u < 64 ∧ fx_cur x k = nI u := by
  intro k hk
  obtain ⟨⟨hn, -⟩, -, ⟨-, -, hln, -, hch, -⟩, -, -⟩ := h
  have hu : l[k]? = some l[k] := List.getElem?_eq_getElem hk
  have := hln _ (List.mem_of_getElem? hu)
  exact ⟨l[k], by omega, hch k _ hu⟩
theorem rel_last (h : RelN n e p l x m) : fx_last x = -1 ∨ ∃ u, u < 64 ∧ fx_last x = nI u := by
  obtain ⟨⟨hn, -⟩, -, ⟨-, -, hln, -⟩, hlast, -⟩ := h
  rcases hlast with ⟨a, -⟩ | ⟨k, u, -, b2, -, b4⟩
  · exact Or.inl a
  · have := hln u (List.mem_of_getElem? b2)
    exact Or.inr ⟨u, by omega, b4⟩
theorem rel_ans (h : RelN n e p l x m) : ¬ fm_ans m = 0 → ∃ k, k < 64 ∧ fm_at m = nI (k + 1) := by
  intro ha
  obtain ⟨-, -, ⟨hl64, hpl, -, -, -, -, -, hat⟩, hlast, -⟩ := h
  rcases hlast with ⟨-, a⟩ | ⟨k, u, b1, b2, -, -⟩
  · exact absurd a ha
  · have := (List.getElem?_eq_some_iff.mp b2).1
    exact ⟨k, by omega, by rw [hat, b1]⟩
end RelF
