def sBel (wd : Nat → Int32) (v : Nat) (a : Int32) : Int32 := if wd (6 * v + 0) = 2 then 0 else if wd (6 * v + 2) = a then 1 else if wd (6 * v + 3) = a then 1 else 0
def sPut (wd : Nat → Int32) (a : Int32) (v : Nat) : Int32 := if wd (6 * v + 2) = a then wd (6 * v + 4) else -wd (6 * v + 4)
def mApp (m : MS) (n : Nat) (k e d c a y : Int32) : MS := sm_clock (sm_links (sm_words m (wApp (fm_words m) n k e d c a y)) (kApp (wApp (fm_words m) n k e d c a y) (fm_links m) n)) (nI n + 1)
def sMuch (wd : Nat → Int32) (a : Int32) (n e : Nat) (b : Int64) : Int32 := if lg_cmp (mTurn wd a n e + b) 2147483647 ≤ 0 then 0 else 1
def sLiv (wd : Nat → Int32) (n e : Nat) (en : Int32) : Option Nat := if en < 0 then none else if nI e ≤ en then none else match sLast wd en n with
  | none => none
  | some v => if wd (6 * v + 0) = 2 then none else some v
def qC (x : XS) (m : MS) (o : Nat → Int64) (k : Int32) : zR := .inl (some (.int 0), wx x (sm_code m k) o)
def qPost (x : XS) (m : MS) (o : Nat → Int64) (n e : Nat) (d c a y : Int32) : zR :=
  if fm_touched m = 0 then if sAcc d = 0 then qC x m o 2 else if sAcc c = 0 then qC x m o 2 else if d = c then qC x m o 2 else if a ≤ 0 then qC x m o 2 else if sDay y = 0 then qC x m o 2 else
    if fm_clock m = 64 then qC x m o 3 else if sMuch (fm_words m) d n e a.toInt64 = 0 then if sMuch (fm_words m) c n e a.toInt64 = 0 then .inl (some (.int (nI e + 1 - 1)), wx x (sm_entries (mApp (sm_code m 0) n 0 (nI e) d c a y) (nI e + 1)) o) else qC x m o 4 else qC x m o 4
  else qC x m o 1
def qCorr (x : XS) (m : MS) (o : Nat → Int64) (n e : Nat) (en a : Int32) : zR :=
  if fm_touched m = 0 then match sLiv (fm_words m) n e en with
    | none => qC x m o 2
    | some u => if 1 ≤ a then if fm_clock m = 64 then qC x m o 4 else
        if sMuch (fm_words m) (fm_words m (6 * u + 2)) n e (a.toInt64 - (fm_words m (6 * u + 4)).toInt64) = 0 then if sMuch (fm_words m) (fm_words m (6 * u + 3)) n e (a.toInt64 - (fm_words m (6 * u + 4)).toInt64) = 0 then
          .inl (some (.int (nI n)), wx x (mApp (sm_code m 0) n 1 en (fm_words m (6 * u + 2)) (fm_words m (6 * u + 3)) a (fm_words m (6 * u + 5))) o) else qC x m o 5 else qC x m o 5
      else qC x m o 3
  else qC x m o 1
def qAnn (x : XS) (m : MS) (o : Nat → Int64) (n e : Nat) (en : Int32) : zR :=
  if fm_touched m = 0 then match sLiv (fm_words m) n e en with
    | none => qC x m o 2
    | some u => if fm_clock m = 64 then qC x m o 3 else .inl (some (.int (nI n)), wx x (mApp (sm_code m 0) n 2 en (fm_words m (6 * u + 2)) (fm_words m (6 * u + 3)) 0 (fm_words m (6 * u + 5))) o)
  else qC x m o 1
def qBal (x : XS) (m : MS) (o : Nat → Int64) (e : Nat) (a d it : Int32) : zR :=
  if fm_touched m = 0 then if sAcc a = 0 then qC x m o 2 else if sDay d = 0 then qC x m o 2 else if sTime (fm_clock m) it = 0 then qC x m o 2 else .inl (some (.int (mBal (fm_words m) a d it.toNatClampNeg e)), wx x (sm_code m 0) o)
  else qC x m o 1
def qTrial (x : XS) (m : MS) (o : Nat → Int64) (e : Nat) (d it : Int32) : zR :=
  if fm_touched m = 0 then if sDay d = 0 then qC x m o 2 else if sTime (fm_clock m) it = 0 then qC x m o 2 else .inl (some (.int (mTrial (fm_words m) d it.toNatClampNeg e 16)), wx x (sm_code m 0) o)
  else qC x m o 1
def qTurn (x : XS) (m : MS) (o : Nat → Int64) (n e : Nat) (a : Int32) : zR :=
  if fm_touched m = 0 then if sAcc a = 0 then qC x m o 2 else .inl (some (.int (mTurn (fm_words m) a n e).toInt32), wx x (sm_code m 0) o)
  else qC x m o 1
def mOpn (m : MS) (a : Int32) (l : List Nat) : MS := sm_puts (sm_list (sm_ans (sm_at (sm_count (sm_code m 0) (nI l.length)) 0) 0) (aPut (fm_list m) (l.map (fE (fm_words m))))) (aPut (fm_puts m) (l.map (sPut (fm_words m) a)))
def qOpen (x : XS) (m : MS) (o : Nat → Int64) (e : Nat) (a f g it : Int32) : zR :=
  if fm_touched m = 0 then if sAcc a = 0 then qC x m o 2 else if sDay f = 0 then qC x m o 2 else if sDay g = 0 then qC x m o 2 else if sTime (fm_clock m) it = 0 then qC x m o 2 else
    .inl (some (.int (nI (mOut (fm_words m) a it.toNatClampNeg e f.toNatClampNeg (g.toNatClampNeg + 1 - f.toNatClampNeg)).length)), wx x (mOpn m a (mOut (fm_words m) a it.toNatClampNeg e f.toNatClampNeg (g.toNatClampNeg + 1 - f.toNatClampNeg))) o)
  else qC x m o 1
def qNext (x : XS) (m : MS) (o : Nat → Int64) : zR :=
  if fm_touched m = 0 then if fm_count m ≤ fm_at m then .inl (some (.int (-1)), wx x (sm_at (sm_ans (sm_code m 0) 0) (fm_at m)) o) else .inl (some (.int (fm_list m (fm_at m + 1 - 1).toNatClampNeg)), wx x (sm_at (sm_ans (sm_code m 0) 1) (fm_at m + 1)) o)
  else qC x m o 1
def qMoved (x : XS) (m : MS) (o : Nat → Int64) : zR :=
  if fm_touched m = 0 then if fm_ans m = 0 then qC x m o 0 else .inl (some (.int (fm_puts m (fm_at m - 1).toNatClampNeg)), wx x (sm_code m 0) o)
  else qC x m o 1
def qN (x : XS) (m : MS) (o : Nat → Int64) : zR := .inl (some (.int (-1)), wx x (sm_code m 0) o)
def qField (x : XS) (m : MS) (o : Nat → Int64) (en k it : Int32) : zR :=
  if fm_touched m = 0 then if en < 0 then qN x m o else if fm_entries m ≤ en then qN x m o else if k < 0 then qN x m o else if 6 ≤ k then qN x m o else if sTime (fm_clock m) it = 0 then qN x m o else match sLast (fm_words m) en it.toNatClampNeg with
    | none => qN x m o
    | some u => .inl (some (.int (fm_words m (6 * u + k.toNatClampNeg))), wx x (sm_code m 0) o)
  else qC x m o 1
def qEnt (x : XS) (m : MS) (o : Nat → Int64) : zR := if fm_touched m = 0 then .inl (some (.int (fm_entries m)), wx x (sm_code m 0) o) else qC x m o 1
def qTamp (x : XS) (m : MS) (o : Nat → Int64) (v k b : Int32) : zR :=
  if v < 0 then qC x m o 0 else if fm_clock m ≤ v then qC x m o 0 else if k < 0 then qC x m o 0 else if k ≤ 5 then .inl (some (.int 1), wx x (sm_touched (sm_words (sm_code m 0) (upd (fm_words m) (6 * v.toNatClampNeg + k.toNatClampNeg) b)) 1) o) else qC x m o 0
theorem sLiv_lt {wd : Nat → Int32} {n e u : Nat} {en : Int32} (h : sLiv wd n e en = some u) : u < n := by
  unfold sLiv at h
  split at h
  · cases h
  · split at h
    · cases h
    · cases q : sLast wd en n with
      | none => rw [q] at h; cases h
      | some v =>
        rw [q] at h
        simp only at h
        split at h
        · cases h
        · cases h
          exact (mL_lt n q).1
theorem i32_nn {a : Int32} (h : ¬ a < 0) : 0 ≤ a := by
  rw [Int32.lt_iff_toInt_lt] at h
  rw [Int32.le_iff_toInt_le]
  omega
theorem ne64 {n : Nat} {c : Int32} (hc : c = nI n) (hn : n ≤ 64) (h : ¬ c = 64) : n < 64 := by
  rcases Nat.lt_or_ge n 64 with z | z
  · exact z
  · exfalso
    apply h
    rw [hc, show n = 64 by omega]
    rfl
theorem mTake_none {wd : Nat → Int32} {a y : Int32} {t j : Nat} (h : sLast wd (nI j) t = none) : mTake wd a y t j = [] := by
  unfold mTake; rw [h]
theorem mTake_bel {wd : Nat → Int32} {a y : Int32} {t j v : Nat} (h : sLast wd (nI j) t = some v) (h2 : sBel wd v a = 0) : mTake wd a y t j = [] := by
  unfold mTake; rw [h]
  unfold sBel at h2
  simp only
  by_cases h3 : wd (6 * v + 0) = 2
  · rw [if_pos h3]
  · rw [if_neg h3] at h2 ⊢
    rw [if_pos]
    unfold sTouch
    exact h2
theorem mTake_day {wd : Nat → Int32} {a y : Int32} {t j v : Nat} (h : sLast wd (nI j) t = some v) (h2 : ¬ wd (6 * v + 5) = y) : mTake wd a y t j = [] := by
  unfold mTake; rw [h]
  simp only
  split
  · rfl
  · split
    · rfl
    · first | rfl | rw [if_neg h2]
theorem mTake_one {wd : Nat → Int32} {a y : Int32} {t j v : Nat} (h : sLast wd (nI j) t = some v) (h2 : ¬ sBel wd v a = 0) (h3 : wd (6 * v + 5) = y) : mTake wd a y t j = [v] := by
  unfold mTake; rw [h]
  unfold sBel at h2
  simp only
  by_cases h4 : wd (6 * v + 0) = 2
  · rw [if_pos h4] at h2; exact absurd rfl h2
  · rw [if_neg h4] at h2 ⊢
    rw [if_neg (show ¬ sTouch wd v a = 0 from h2), if_pos h3]
theorem mO_step {m : MS} {a : Int32} {l : List Nat} {v j : Nat} {V : Int32} (hv : fE (fm_words m) v = nI j) (hV : sPut (fm_words m) a v = V) :
    sm_puts (sm_list (sm_ans (sm_at (sm_count (sm_code m 0) (nI l.length + 1)) 0) 0) (upd (aPut (fm_list m) (l.map (fE (fm_words m)))) l.length (nI j))) (upd (aPut (fm_puts m) (l.map (sPut (fm_words m) a))) l.length V) = mOpn m a (l ++ [v]) := by
  unfold mOpn
  rw [List.map_append, List.map_append, List.length_append]
  show _ = sm_puts (sm_list (sm_ans (sm_at (sm_count (sm_code m 0) (nI (l.length + 1))) 0) 0) (aPut (fm_list m) (l.map (fE (fm_words m)) ++ [fE (fm_words m) v]))) (aPut (fm_puts m) (l.map (sPut (fm_words m) a) ++ [sPut (fm_words m) a v]))
  rw [← aPut_app, ← aPut_app, List.length_map, List.length_map, hv, hV, nI_succ]
