/-! The invariant of a ledger with which nobody has tampered: class and reference sum to the same. -/
def hT (wd : Nat → Int32) (a : Int32) : Nat → Int := fun v => if sTouch wd v a = 0 then 0 else (wd (6 * v + 4)).toInt
def gT (wd : Nat → Int32) (a : Int32) (n e : Nat) : Int := mS (fun j => mV (hT wd a) (sLast wd (nI j) n)) e
def iR (wd rp : Nat → Int32) (n v : Nat) : Prop := ∃ r : Nat, rp v = nI r ∧ v < r ∧ r ≤ 64 ∧ (r < n ∨ r = 64) ∧ (∀ u, v < u → u < r → u < n → fE wd u ≠ fE wd v) ∧ (r < n → fE wd r = fE wd v)
def Inv (wd rp : Nat → Int32) (n e : Nat) : Prop :=
  n ≤ 64 ∧ e ≤ n ∧ (∀ v, v < n → ∃ j, j < e ∧ fE wd v = nI j) ∧ (∀ j, j < e → ∃ v, v < n ∧ fE wd v = nI j) ∧ (∀ v, v < n → iR wd rp n v) ∧ (∀ v, v < n → 0 ≤ (wd (6 * v + 4)).toInt) ∧ ∀ a, gT wd a n e ≤ 2147483647
theorem i_cur {wd rp : Nat → Int32} {n e : Nat} (h : Inv wd rp n e) {v t : Nat} (hv : v < t) (ht : t ≤ n) : sCur rp v (nI t) = if mL (fE wd) (fE wd v) t = some v then 1 else 0 := by
  obtain ⟨hn, -, -, -, hR, -⟩ := h
  obtain ⟨r, e1, h1, h2, h3, h4, h5⟩ := hR v (by omega)
  unfold sCur
  rw [if_neg (nI_ge hv (by omega)), e1]
  by_cases q : r < t
  · rw [if_pos (nI_lt q (by omega)), if_neg]
    intro z
    exact mL_last t z r h1 q (h5 (by omega))
  · rw [if_neg (nI_nlt (by omega) (by omega)), if_pos]
    exact mL_of t hv rfl (fun u g1 g2 => h4 u g1 (by omega) (by omega))
theorem i_turnC {wd rp : Nat → Int32} {n e : Nat} (h : Inv wd rp n e) (a : Int32) : ∀ m : Nat, m ≤ n →
    cTurn wd rp a (nI n) m = Int32.ofInt (mS (fun v => if mL (fE wd) (fE wd v) n = some v then hT wd a v else 0) m)
  | 0, _ => rfl
  | m + 1, hm => by
    have ih := i_turnC h a m (by omega)
    simp only [cTurn, mS]
    rw [Int32.ofInt_add, ← ih, i_cur h (show m < n by omega) (Nat.le_refl n)]
    by_cases q : mL (fE wd) (fE wd m) n = some m
    · rw [if_pos q, if_pos q, if_neg (by decide)]
      unfold hT
      by_cases z : sTouch wd m a = 0
      · rw [if_pos z, if_pos z]
        simp
      · rw [if_neg z, if_neg z, Int32.ofInt_toInt]
    · rw [if_neg q, if_neg q, if_pos rfl]
      simp
theorem i_turnM (wd : Nat → Int32) (a : Int32) (n : Nat) : ∀ e : Nat, mTurn wd a n e = Int64.ofInt (gT wd a n e)
  | 0 => rfl
  | e + 1 => by
    have ih := i_turnM wd a n e
    show (match sLast wd (nI e) n with
      | none => mTurn wd a n e
      | some v => if sTouch wd v a = 0 then mTurn wd a n e else mTurn wd a n e + (wd (6 * v + 4)).toInt64) = Int64.ofInt (gT wd a n e + mV (hT wd a) (sLast wd (nI e) n))
    rw [Int64.ofInt_add, ← ih]
    cases sLast wd (nI e) n with
    | none => simp [mV]
    | some v =>
      show (if sTouch wd v a = 0 then mTurn wd a n e else mTurn wd a n e + (wd (6 * v + 4)).toInt64) = mTurn wd a n e + Int64.ofInt (hT wd a v)
      unfold hT
      by_cases z : sTouch wd v a = 0
      · rw [if_pos z, if_pos z]
        simp
      · rw [if_neg z, if_neg z]
        congr 1
theorem i_gT0 {wd rp : Nat → Int32} {n e : Nat} (h : Inv wd rp n e) (a : Int32) : 0 ≤ gT wd a n e := by
  obtain ⟨-, -, -, -, -, hA, -⟩ := h
  refine mS_nonneg e fun j hj => ?_
  cases q : sLast wd (nI j) n with
  | none => exact Int.le_refl 0
  | some v =>
    show 0 ≤ hT wd a v
    unfold hT
    split
    · exact Int.le_refl 0
    · exact hA v (mL_lt n q).1
theorem i_swapT {wd rp : Nat → Int32} {n e : Nat} (h : Inv wd rp n e) (a : Int32) : mS (fun v => if mL (fE wd) (fE wd v) n = some v then hT wd a v else 0) n = gT wd a n e :=
  m_swap (fE wd) (hT wd a) e (by have := h.1; have := h.2.1; omega) n h.2.2.1
theorem i_turn {wd rp : Nat → Int32} {n e : Nat} (h : Inv wd rp n e) (a : Int32) : (cTurn wd rp a (nI n) n).toInt64 = mTurn wd a n e ∧ (cTurn wd rp a (nI n) n).toInt = gT wd a n e ∧ (mTurn wd a n e).toInt = gT wd a n e := by
  have h0 := i_gT0 h a
  have h1 := h.2.2.2.2.2.2 a
  have e1 : (cTurn wd rp a (nI n) n).toInt = gT wd a n e := by
    rw [i_turnC h a n (Nat.le_refl n), i_swapT h a]
    exact Int32.toInt_ofInt_of_le (by omega) (by omega)
  have e2 : (mTurn wd a n e).toInt = gT wd a n e := by
    rw [i_turnM]
    exact Int64.toInt_ofInt_of_le (by omega) (by omega)
  refine ⟨?_, e1, e2⟩
  rw [← Int64.toInt_inj, Int32.toInt_toInt64, e1, e2]
def hB (wd : Nat → Int32) (a d : Int32) : Nat → Int := fun v => if d < wd (6 * v + 5) then 0 else (sMoved wd v a).toInt
theorem i_balC {wd rp : Nat → Int32} {n e t : Nat} (h : Inv wd rp n e) (ht : t ≤ n) (a d : Int32) : ∀ m : Nat, m ≤ t →
    cBal wd rp a d (nI t) m = Int32.ofInt (mS (fun v => if mL (fE wd) (fE wd v) t = some v then hB wd a d v else 0) m)
  | 0, _ => rfl
  | m + 1, hm => by
    have ih := i_balC h ht a d m (by omega)
    simp only [cBal, mS]
    rw [Int32.ofInt_add, ← ih, i_cur h (show m < t by omega) ht]
    by_cases q : mL (fE wd) (fE wd m) t = some m
    · rw [if_pos q, if_pos q, if_neg (by decide)]
      unfold hB
      by_cases z : d < wd (6 * m + 5)
      · rw [if_pos z, if_pos z]
        simp
      · rw [if_neg z, if_neg z, Int32.ofInt_toInt]
    · rw [if_neg q, if_neg q, if_pos rfl]
      simp
theorem i_balM (wd : Nat → Int32) (a d : Int32) (t : Nat) : ∀ e : Nat, mBal wd a d t e = Int32.ofInt (mS (fun j => mV (hB wd a d) (sLast wd (nI j) t)) e)
  | 0 => rfl
  | e + 1 => by
    have ih := i_balM wd a d t e
    simp only [mBal, mS]
    rw [Int32.ofInt_add, ← ih]
    cases sLast wd (nI e) t with
    | none => simp [mV]
    | some v =>
      simp only [mV, hB, sMoved]
      by_cases z : d < wd (6 * v + 5)
      · rw [if_pos z, if_pos z]
        simp
      · rw [if_neg z, if_neg z, Int32.ofInt_toInt]
        by_cases y1 : wd (6 * v + 2) = a
        · rw [if_pos y1, if_pos y1]
        · rw [if_neg y1, if_neg y1]
          by_cases y2 : wd (6 * v + 3) = a
          · rw [if_pos y2, if_pos y2, Int32.sub_eq_add_neg]
          · rw [if_neg y2, if_neg y2]
            simp
theorem i_bal {wd rp : Nat → Int32} {n e t : Nat} (h : Inv wd rp n e) (ht : t ≤ n) (a d : Int32) : cBal wd rp a d (nI t) t = mBal wd a d t e := by
  rw [i_balC h ht a d t (Nat.le_refl t), i_balM]
  congr 1
  exact m_swap (fE wd) (hB wd a d) e (by have := h.1; have := h.2.1; omega) t (fun v hv => h.2.2.1 v (by omega))
theorem i_trial {wd rp : Nat → Int32} {n e t : Nat} (h : Inv wd rp n e) (ht : t ≤ n) (d : Int32) : ∀ k : Nat, cTrial wd rp d t k = mTrial wd d t e k
  | 0 => rfl
  | k + 1 => by
    simp only [cTrial, mTrial]
    rw [i_trial h ht d k, i_bal h ht]
/-! a version is added -/
theorem a_fE {wd : Nat → Int32} {n v : Nat} {k x d c a y : Int32} (hv : v < n) : fE (wApp wd n k x d c a y) v = fE wd v := wApp_old (by omega)
theorem a_last {wd : Nat → Int32} {n : Nat} {k x d c a y z : Int32} : sLast (wApp wd n k x d c a y) z (n + 1) = if x = z then some n else sLast wd z n := by
  unfold sLast
  rw [mL_s, show fE (wApp wd n k x d c a y) n = x from wApp_1, mL_congr n (fun v hv => a_fE hv)]
theorem a_touch {wd : Nat → Int32} {n v : Nat} {k x d c a y b : Int32} (hv : v < n) : sTouch (wApp wd n k x d c a y) v b = sTouch wd v b := by
  unfold sTouch
  rw [wApp_old (by omega), wApp_old (by omega)]
theorem a_hT {wd : Nat → Int32} {n v : Nat} {k x d c a y b : Int32} (hv : v < n) : hT (wApp wd n k x d c a y) b v = hT wd b v := by
  unfold hT
  rw [a_touch hv, wApp_old (by omega)]
theorem a_hTn {wd : Nat → Int32} {n : Nat} {k x d c a y b : Int32} : hT (wApp wd n k x d c a y) b n = if d = b ∨ c = b then a.toInt else 0 := by
  unfold hT sTouch
  rw [wApp_2, wApp_3, wApp_4]
  by_cases h1 : d = b
  · simp [h1]
  · by_cases h2 : c = b
    · simp [h1, h2]
    · simp [h1, h2]
theorem a_mV {wd : Nat → Int32} {n : Nat} {k x d c a y b z : Int32} : mV (hT (wApp wd n k x d c a y) b) (sLast wd z n) = mV (hT wd b) (sLast wd z n) := by
  cases q : sLast wd z n with
  | none =>
    show (0 : Int) = 0
    rfl
  | some v =>
    show hT (wApp wd n k x d c a y) b v = hT wd b v
    exact a_hT (mL_lt n q).1
theorem a_gT {wd : Nat → Int32} {n j0 : Nat} {k d c a y b : Int32} (hj : j0 < 2 ^ 31) (e : Nat) (he : e < 2 ^ 31) :
    gT (wApp wd n k (nI j0) d c a y) b (n + 1) e = gT wd b n e + if j0 < e then (if d = b ∨ c = b then a.toInt else 0) - mV (hT wd b) (sLast wd (nI j0) n) else 0 := by
  have e1 : (if j0 < e then (if d = b ∨ c = b then a.toInt else 0) - mV (hT wd b) (sLast wd (nI j0) n) else 0) = mS (fun j => if j0 = j then (if d = b ∨ c = b then a.toInt else 0) - mV (hT wd b) (sLast wd (nI j) n) else 0) e := by
    by_cases q : j0 < e
    · rw [if_pos q, mS_one (h := fun j => (if d = b ∨ c = b then a.toInt else 0) - mV (hT wd b) (sLast wd (nI j) n)) e q]
    · rw [if_neg q, mS_none e (by omega)]
  rw [e1]
  unfold gT
  rw [← mS_add]
  refine mS_congr e fun j hj' => ?_
  rw [a_last]
  by_cases q : j0 = j
  · subst q
    rw [if_pos rfl, if_pos rfl]
    show hT _ b n = _
    rw [a_hTn]
    omega
  · rw [if_neg q, if_neg (by intro z; exact q ((nI_eq hj (by omega)).mp z)), a_mV]
    omega
theorem a_amt {wd : Nat → Int32} {n : Nat} {k x d c a y : Int32} (h : ∀ v, v < n → 0 ≤ (wd (6 * v + 4)).toInt) (ha : 0 ≤ a.toInt) : ∀ v, v < n + 1 → 0 ≤ (wApp wd n k x d c a y (6 * v + 4)).toInt := by
  intro v hv
  by_cases q : v = n
  · subst q
    rw [wApp_4]; exact ha
  · rw [wApp_old (by omega)]
    exact h v (by omega)
/-- post: a version of an entry of its own -/
theorem i_post {wd rp : Nat → Int32} {n e : Nat} (h : Inv wd rp n e) (hn : n < 64) {k d c a y : Int32} (ha : 0 ≤ a.toInt) (hd : gT wd d n e + a.toInt ≤ 2147483647) (hc : gT wd c n e + a.toInt ≤ 2147483647) :
    Inv (wApp wd n k (nI e) d c a y) (upd rp n 64) (n + 1) (e + 1) := by
  obtain ⟨h1, h2, h3, h4, h5, h6, h7⟩ := h
  refine ⟨by omega, by omega, fun v hv => ?_, fun j hj => ?_, fun v hv => ?_, a_amt h6 ha, fun b => ?_⟩
  · by_cases q : v = n
    · subst q
      exact ⟨e, by omega, wApp_1⟩
    · obtain ⟨j, g1, g2⟩ := h3 v (by omega)
      exact ⟨j, by omega, by rw [a_fE (by omega)]; exact g2⟩
  · by_cases q : j = e
    · subst q
      exact ⟨n, by omega, wApp_1⟩
    · obtain ⟨v, g1, g2⟩ := h4 j (by omega)
      exact ⟨v, by omega, by rw [a_fE g1]; exact g2⟩
  · by_cases q : v = n
    · subst q
      refine ⟨64, by rw [show upd rp v 64 v = 64 from if_pos rfl]; rfl, hn, by omega, Or.inr rfl, fun u g1 g2 g3 => by omega, fun g => by omega⟩
    · have hvn : v < n := by omega
      obtain ⟨r, r1, r2, r3, r4, r5, r6⟩ := h5 v hvn
      obtain ⟨j, g1, g2⟩ := h3 v hvn
      refine ⟨r, by rw [show upd rp n 64 v = rp v from if_neg q]; exact r1, r2, r3, by omega, fun u g1' g2' g3' => ?_, fun g => ?_⟩
      · rw [a_fE hvn]
        by_cases z : u = n
        · subst z
          rw [show fE (wApp wd u k (nI e) d c a y) u = nI e from wApp_1, g2]
          intro z2
          have := (nI_eq (by omega) (by omega)).mp z2
          omega
        · rw [a_fE (show u < n by omega)]
          exact r5 u g1' g2' (by omega)
      · have hr : r < n := by omega
        rw [a_fE hvn, a_fE hr]
        exact r6 hr
  · have e1 := a_gT (wd := wd) (n := n) (j0 := e) (k := k) (d := d) (c := c) (a := a) (y := y) (b := b) (by omega) (e + 1) (by omega)
    rw [if_pos (Nat.lt_succ_self e)] at e1
    have e2 : sLast wd (nI e) n = none := by
      cases q : sLast wd (nI e) n with
      | none => rfl
      | some v =>
        obtain ⟨g1, g2⟩ := mL_lt n q
        obtain ⟨j, g3, g4⟩ := h3 v g1
        rw [g4] at g2
        have := (nI_eq (by omega) (by omega)).mp g2
        omega
    have e3 : gT wd b n (e + 1) = gT wd b n e := by
      show gT wd b n e + mV (hT wd b) (sLast wd (nI e) n) = gT wd b n e
      rw [e2]
      show _ + (0 : Int) = _
      omega
    rw [e1, e2, e3]
    show gT wd b n e + ((if d = b ∨ c = b then a.toInt else 0) - 0) ≤ 2147483647
    have h7b := h7 b
    by_cases q1 : d = b
    · rw [if_pos (Or.inl q1), ← q1]
      omega
    · by_cases q2 : c = b
      · rw [if_pos (Or.inr q2), ← q2]
        omega
      · rw [if_neg (by rintro (z | z); exact q1 z; exact q2 z)]
        omega
/-- correct and annul: a version in place of the entry's last -/
theorem i_repl {wd rp : Nat → Int32} {n e u : Nat} (h : Inv wd rp n e) (hn : n < 64) (hu : u < n) (hl : sLast wd (fE wd u) n = some u) {k a y : Int32} (ha : 0 ≤ a.toInt)
    (hd : gT wd (wd (6 * u + 2)) n e - (wd (6 * u + 4)).toInt + a.toInt ≤ 2147483647) (hc : gT wd (wd (6 * u + 3)) n e - (wd (6 * u + 4)).toInt + a.toInt ≤ 2147483647) :
    Inv (wApp wd n k (fE wd u) (wd (6 * u + 2)) (wd (6 * u + 3)) a y) (upd (upd rp n 64) u (nI n)) (n + 1) e := by
  obtain ⟨h1, h2, h3, h4, h5, h6, h7⟩ := h
  obtain ⟨j0, hj0, hfu⟩ := h3 u hu
  refine ⟨by omega, by omega, fun v hv => ?_, fun j hj => ?_, fun v hv => ?_, a_amt h6 ha, fun b => ?_⟩
  · by_cases q : v = n
    · subst q
      exact ⟨j0, hj0, by rw [← hfu]; exact wApp_1⟩
    · obtain ⟨j, g1, g2⟩ := h3 v (by omega)
      exact ⟨j, g1, by rw [a_fE (by omega)]; exact g2⟩
  · obtain ⟨v, g1, g2⟩ := h4 j hj
    exact ⟨v, by omega, by rw [a_fE g1]; exact g2⟩
  · have en : fE (wApp wd n k (fE wd u) (wd (6 * u + 2)) (wd (6 * u + 3)) a y) n = fE wd u := wApp_1
    by_cases q : v = n
    · subst q
      refine ⟨64, by rw [show upd (upd rp v 64) u (nI v) v = upd rp v 64 v from if_neg (by omega), show upd rp v 64 v = 64 from if_pos rfl]; rfl, hn, by omega, Or.inr rfl, fun z g1 g2 g3 => by omega, fun g => by omega⟩
    · have hvn : v < n := by omega
      by_cases qu : v = u
      · subst qu
        refine ⟨n, show upd (upd rp n 64) v (nI n) v = nI n from if_pos rfl, hvn, by omega, Or.inl (by omega), fun z g1 g2 g3 => ?_, fun _ => ?_⟩
        · rw [a_fE hvn, a_fE g2]
          exact mL_last n hl z g1 g2
        · rw [a_fE hvn, en]
      · obtain ⟨r, r1, r2, r3, r4, r5, r6⟩ := h5 v hvn
        refine ⟨r, by rw [show upd (upd rp n 64) u (nI n) v = upd rp n 64 v from if_neg qu, show upd rp n 64 v = rp v from if_neg q]; exact r1, r2, r3, by omega, fun z g1 g2 g3 => ?_, fun g => ?_⟩
        · rw [a_fE hvn]
          by_cases zn : z = n
          · subst zn
            rw [en]
            intro same
            have hr64 : r = 64 := by omega
            have hlt : v < u := by
              rcases Nat.lt_or_ge u v with g | g
              · exact absurd same.symm (mL_last z hl v g hvn)
              · omega
            exact r5 u hlt (by omega) hu same
          · rw [a_fE (show z < n by omega)]
            exact r5 z g1 g2 (by omega)
        · have hr : r < n := by omega
          rw [a_fE hvn, a_fE hr]
          exact r6 hr
  · have e1 := a_gT (wd := wd) (n := n) (j0 := j0) (k := k) (d := wd (6 * u + 2)) (c := wd (6 * u + 3)) (a := a) (y := y) (b := b) (by omega) e (by omega)
    rw [if_pos hj0, ← hfu, hl] at e1
    rw [e1]
    show gT wd b n e + ((if wd (6 * u + 2) = b ∨ wd (6 * u + 3) = b then a.toInt else 0) - hT wd b u) ≤ 2147483647
    have h7b := h7 b
    have ht : hT wd b u = if wd (6 * u + 2) = b ∨ wd (6 * u + 3) = b then (wd (6 * u + 4)).toInt else 0 := by
      unfold hT sTouch
      by_cases q1 : wd (6 * u + 2) = b
      · simp [q1]
      · by_cases q2 : wd (6 * u + 3) = b
        · simp [q1, q2]
        · simp [q1, q2]
    rw [ht]
    by_cases q1 : wd (6 * u + 2) = b
    · rw [if_pos (Or.inl q1), if_pos (Or.inl q1), ← q1]
      omega
    · by_cases q2 : wd (6 * u + 3) = b
      · rw [if_pos (Or.inr q2), if_pos (Or.inr q2), ← q2]
        omega
      · rw [if_neg (by rintro (z | z); exact q1 z; exact q2 z), if_neg (by rintro (z | z); exact q1 z; exact q2 z)]
        omega
/-- an entry that was never posted has no version -/
theorem i_out {wd rp : Nat → Int32} {n e t : Nat} (h : Inv wd rp n e) (ht : t ≤ n) {x : Int32} (hx : x < 0 ∨ nI e ≤ x) : sLast wd x t = none := by
  cases q : sLast wd x t with
  | none => rfl
  | some v =>
    obtain ⟨g1, g2⟩ := mL_lt t q
    obtain ⟨j, g3, g4⟩ := h.2.2.1 v (by omega)
    have hn := h.1
    have he := h.2.1
    rw [g4] at g2
    subst g2
    rcases hx with hx | hx
    · exact absurd hx (nI_pos (by omega))
    · exact absurd hx (nI_ge g3 (by omega))
theorem i_in {wd rp : Nat → Int32} {n e : Nat} (h : Inv wd rp n e) {j : Nat} (hj : j < e) : ∃ v, sLast wd (nI j) n = some v := by
  obtain ⟨v, g1, g2⟩ := h.2.2.2.1 j hj
  exact mL_some g1 g2
