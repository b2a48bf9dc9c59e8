abbrev XS : Type := (Nat → Int32) × (Nat → Int64) × (Nat → Int32) × (Nat → Int32) × Int32 × Int32 × Int32 × Int32 × Int32 × Int32 × Int32
def fx_words (x : XS) : Nat → Int32 := x.1
def fx_links (x : XS) : Nat → Int64 := x.2.1
def fx_rep (x : XS) : Nat → Int32 := x.2.2.1
def fx_cur (x : XS) : Nat → Int32 := x.2.2.2.1
def fx_vc (x : XS) : Int32 := x.2.2.2.2.1
def fx_ec (x : XS) : Int32 := x.2.2.2.2.2.1
def fx_tam (x : XS) : Int32 := x.2.2.2.2.2.2.1
def fx_size (x : XS) : Int32 := x.2.2.2.2.2.2.2.1
def fx_place (x : XS) : Int32 := x.2.2.2.2.2.2.2.2.1
def fx_acct (x : XS) : Int32 := x.2.2.2.2.2.2.2.2.2.1
def fx_last (x : XS) : Int32 := x.2.2.2.2.2.2.2.2.2.2
def sx_words (x : XS) (v : Nat → Int32) : XS := (v, x.2.1, x.2.2.1, x.2.2.2.1, x.2.2.2.2.1, x.2.2.2.2.2.1, x.2.2.2.2.2.2.1, x.2.2.2.2.2.2.2.1, x.2.2.2.2.2.2.2.2.1, x.2.2.2.2.2.2.2.2.2.1, x.2.2.2.2.2.2.2.2.2.2)
def sx_links (x : XS) (v : Nat → Int64) : XS := (x.1, v, x.2.2.1, x.2.2.2.1, x.2.2.2.2.1, x.2.2.2.2.2.1, x.2.2.2.2.2.2.1, x.2.2.2.2.2.2.2.1, x.2.2.2.2.2.2.2.2.1, x.2.2.2.2.2.2.2.2.2.1, x.2.2.2.2.2.2.2.2.2.2)
def sx_rep (x : XS) (v : Nat → Int32) : XS := (x.1, x.2.1, v, x.2.2.2.1, x.2.2.2.2.1, x.2.2.2.2.2.1, x.2.2.2.2.2.2.1, x.2.2.2.2.2.2.2.1, x.2.2.2.2.2.2.2.2.1, x.2.2.2.2.2.2.2.2.2.1, x.2.2.2.2.2.2.2.2.2.2)
def sx_cur (x : XS) (v : Nat → Int32) : XS := (x.1, x.2.1, x.2.2.1, v, x.2.2.2.2.1, x.2.2.2.2.2.1, x.2.2.2.2.2.2.1, x.2.2.2.2.2.2.2.1, x.2.2.2.2.2.2.2.2.1, x.2.2.2.2.2.2.2.2.2.1, x.2.2.2.2.2.2.2.2.2.2)
def sx_vc (x : XS) (v : Int32) : XS := (x.1, x.2.1, x.2.2.1, x.2.2.2.1, v, x.2.2.2.2.2.1, x.2.2.2.2.2.2.1, x.2.2.2.2.2.2.2.1, x.2.2.2.2.2.2.2.2.1, x.2.2.2.2.2.2.2.2.2.1, x.2.2.2.2.2.2.2.2.2.2)
def sx_ec (x : XS) (v : Int32) : XS := (x.1, x.2.1, x.2.2.1, x.2.2.2.1, x.2.2.2.2.1, v, x.2.2.2.2.2.2.1, x.2.2.2.2.2.2.2.1, x.2.2.2.2.2.2.2.2.1, x.2.2.2.2.2.2.2.2.2.1, x.2.2.2.2.2.2.2.2.2.2)
def sx_tam (x : XS) (v : Int32) : XS := (x.1, x.2.1, x.2.2.1, x.2.2.2.1, x.2.2.2.2.1, x.2.2.2.2.2.1, v, x.2.2.2.2.2.2.2.1, x.2.2.2.2.2.2.2.2.1, x.2.2.2.2.2.2.2.2.2.1, x.2.2.2.2.2.2.2.2.2.2)
def sx_size (x : XS) (v : Int32) : XS := (x.1, x.2.1, x.2.2.1, x.2.2.2.1, x.2.2.2.2.1, x.2.2.2.2.2.1, x.2.2.2.2.2.2.1, v, x.2.2.2.2.2.2.2.2.1, x.2.2.2.2.2.2.2.2.2.1, x.2.2.2.2.2.2.2.2.2.2)
def sx_place (x : XS) (v : Int32) : XS := (x.1, x.2.1, x.2.2.1, x.2.2.2.1, x.2.2.2.2.1, x.2.2.2.2.2.1, x.2.2.2.2.2.2.1, x.2.2.2.2.2.2.2.1, v, x.2.2.2.2.2.2.2.2.2.1, x.2.2.2.2.2.2.2.2.2.2)
def sx_acct (x : XS) (v : Int32) : XS := (x.1, x.2.1, x.2.2.1, x.2.2.2.1, x.2.2.2.2.1, x.2.2.2.2.2.1, x.2.2.2.2.2.2.1, x.2.2.2.2.2.2.2.1, x.2.2.2.2.2.2.2.2.1, v, x.2.2.2.2.2.2.2.2.2.2)
def sx_last (x : XS) (v : Int32) : XS := (x.1, x.2.1, x.2.2.1, x.2.2.2.1, x.2.2.2.2.1, x.2.2.2.2.2.1, x.2.2.2.2.2.2.1, x.2.2.2.2.2.2.2.1, x.2.2.2.2.2.2.2.2.1, x.2.2.2.2.2.2.2.2.2.1, v)
abbrev MS : Type := (Nat → Int32) × (Nat → Int64) × (Nat → Int32) × (Nat → Int32) × Int32 × Int32 × Int32 × Int32 × Int32 × Int32 × Int32
def fm_words (x : MS) : Nat → Int32 := x.1
def fm_links (x : MS) : Nat → Int64 := x.2.1
def fm_list (x : MS) : Nat → Int32 := x.2.2.1
def fm_puts (x : MS) : Nat → Int32 := x.2.2.2.1
def fm_code (x : MS) : Int32 := x.2.2.2.2.1
def fm_touched (x : MS) : Int32 := x.2.2.2.2.2.1
def fm_clock (x : MS) : Int32 := x.2.2.2.2.2.2.1
def fm_entries (x : MS) : Int32 := x.2.2.2.2.2.2.2.1
def fm_count (x : MS) : Int32 := x.2.2.2.2.2.2.2.2.1
def fm_at (x : MS) : Int32 := x.2.2.2.2.2.2.2.2.2.1
def fm_ans (x : MS) : Int32 := x.2.2.2.2.2.2.2.2.2.2
def sm_words (x : MS) (v : Nat → Int32) : MS := (v, x.2.1, x.2.2.1, x.2.2.2.1, x.2.2.2.2.1, x.2.2.2.2.2.1, x.2.2.2.2.2.2.1, x.2.2.2.2.2.2.2.1, x.2.2.2.2.2.2.2.2.1, x.2.2.2.2.2.2.2.2.2.1, x.2.2.2.2.2.2.2.2.2.2)
def sm_links (x : MS) (v : Nat → Int64) : MS := (x.1, v, x.2.2.1, x.2.2.2.1, x.2.2.2.2.1, x.2.2.2.2.2.1, x.2.2.2.2.2.2.1, x.2.2.2.2.2.2.2.1, x.2.2.2.2.2.2.2.2.1, x.2.2.2.2.2.2.2.2.2.1, x.2.2.2.2.2.2.2.2.2.2)
def sm_list (x : MS) (v : Nat → Int32) : MS := (x.1, x.2.1, v, x.2.2.2.1, x.2.2.2.2.1, x.2.2.2.2.2.1, x.2.2.2.2.2.2.1, x.2.2.2.2.2.2.2.1, x.2.2.2.2.2.2.2.2.1, x.2.2.2.2.2.2.2.2.2.1, x.2.2.2.2.2.2.2.2.2.2)
def sm_puts (x : MS) (v : Nat → Int32) : MS := (x.1, x.2.1, x.2.2.1, v, x.2.2.2.2.1, x.2.2.2.2.2.1, x.2.2.2.2.2.2.1, x.2.2.2.2.2.2.2.1, x.2.2.2.2.2.2.2.2.1, x.2.2.2.2.2.2.2.2.2.1, x.2.2.2.2.2.2.2.2.2.2)
def sm_code (x : MS) (v : Int32) : MS := (x.1, x.2.1, x.2.2.1, x.2.2.2.1, v, x.2.2.2.2.2.1, x.2.2.2.2.2.2.1, x.2.2.2.2.2.2.2.1, x.2.2.2.2.2.2.2.2.1, x.2.2.2.2.2.2.2.2.2.1, x.2.2.2.2.2.2.2.2.2.2)
def sm_touched (x : MS) (v : Int32) : MS := (x.1, x.2.1, x.2.2.1, x.2.2.2.1, x.2.2.2.2.1, v, x.2.2.2.2.2.2.1, x.2.2.2.2.2.2.2.1, x.2.2.2.2.2.2.2.2.1, x.2.2.2.2.2.2.2.2.2.1, x.2.2.2.2.2.2.2.2.2.2)
def sm_clock (x : MS) (v : Int32) : MS := (x.1, x.2.1, x.2.2.1, x.2.2.2.1, x.2.2.2.2.1, x.2.2.2.2.2.1, v, x.2.2.2.2.2.2.2.1, x.2.2.2.2.2.2.2.2.1, x.2.2.2.2.2.2.2.2.2.1, x.2.2.2.2.2.2.2.2.2.2)
def sm_entries (x : MS) (v : Int32) : MS := (x.1, x.2.1, x.2.2.1, x.2.2.2.1, x.2.2.2.2.1, x.2.2.2.2.2.1, x.2.2.2.2.2.2.1, v, x.2.2.2.2.2.2.2.2.1, x.2.2.2.2.2.2.2.2.2.1, x.2.2.2.2.2.2.2.2.2.2)
def sm_count (x : MS) (v : Int32) : MS := (x.1, x.2.1, x.2.2.1, x.2.2.2.1, x.2.2.2.2.1, x.2.2.2.2.2.1, x.2.2.2.2.2.2.1, x.2.2.2.2.2.2.2.1, v, x.2.2.2.2.2.2.2.2.2.1, x.2.2.2.2.2.2.2.2.2.2)
def sm_at (x : MS) (v : Int32) : MS := (x.1, x.2.1, x.2.2.1, x.2.2.2.1, x.2.2.2.2.1, x.2.2.2.2.2.1, x.2.2.2.2.2.2.1, x.2.2.2.2.2.2.2.1, x.2.2.2.2.2.2.2.2.1, v, x.2.2.2.2.2.2.2.2.2.2)
def sm_ans (x : MS) (v : Int32) : MS := (x.1, x.2.1, x.2.2.1, x.2.2.2.1, x.2.2.2.2.1, x.2.2.2.2.2.1, x.2.2.2.2.2.2.1, x.2.2.2.2.2.2.2.1, x.2.2.2.2.2.2.2.2.1, x.2.2.2.2.2.2.2.2.2.1, v)
def wx (x : XS) (m : MS) (o : Nat → Int64) : zW := [.inr (0, [.ref 1, .ref 2, .ref 3, .int (fx_vc x), .int (fx_ec x), .int (fx_tam x), .ref 4, .int (fx_size x), .int (fx_place x), .int (fx_acct x), .int (fx_last x)]), .inl (384, .inl (fx_words x)), .inl (64, .inr (fx_links x)), .inl (64, .inl (fx_rep x)), .inl (64, .inl (fx_cur x)), .inr (1, [.int (fm_code m), .int (fm_touched m), .int (fm_clock m), .int (fm_entries m), .ref 6, .ref 7, .int (fm_count m), .int (fm_at m), .int (fm_ans m), .ref 8, .ref 9]), .inl (384, .inl (fm_words m)), .inl (64, .inr (fm_links m)), .inl (64, .inl (fm_list m)), .inl (64, .inl (fm_puts m)), .inl (1, .inr o)]
def xApp (x : XS) (n : Nat) (k e d c a y : Int32) : XS := sx_vc (sx_rep (sx_links (sx_words x (wApp (fx_words x) n k e d c a y)) (kApp (wApp (fx_words x) n k e d c a y) (fx_links x) n)) (upd (fx_rep x) n 64)) (nI n + 1)
def xRep (x : XS) (n u : Nat) (k a : Int32) : XS := sx_rep (xApp x n k (fx_words x (6 * u + 1)) (fx_words x (6 * u + 2)) (fx_words x (6 * u + 3)) a (fx_words x (6 * u + 5))) (upd (fx_rep (xApp x n k (fx_words x (6 * u + 1)) (fx_words x (6 * u + 2)) (fx_words x (6 * u + 3)) a (fx_words x (6 * u + 5)))) u (nI n))
def xISE (w : zW) : zR := .inr ("java/lang/IllegalStateException", w)
def xIAE (w : zW) : zR := .inr ("java/lang/IllegalArgumentException", w)
def xUOE (w : zW) : zR := .inr ("java/lang/UnsupportedOperationException", w)
def xAE (w : zW) : zR := .inr ("java/lang/ArithmeticException", w)
def xNSE (w : zW) : zR := .inr ("java/util/NoSuchElementException", w)
def sOver (x : XS) (n : Nat) (a b1 b2 : Int32) : Int32 := lg_cmp ((cTurn (fx_words x) (fx_rep x) a (nI n) n).toInt64 - b1.toInt64 + b2.toInt64) 2147483647
def rPost (x : XS) (m : MS) (o : Nat → Int64) (n e : Nat) (d c a y : Int32) : zR :=
  if fx_tam x = 0 then if sAcc d = 0 then xIAE (wx x m o) else if sAcc c = 0 then xIAE (wx x m o) else if d = c then xIAE (wx x m o) else if sDay y = 0 then xIAE (wx x m o) else if a < 1 then xIAE (wx x m o) else
    if fx_vc x < 64 then if sOver x n d 0 a ≤ 0 then if sOver x n c 0 a ≤ 0 then .inl (some (.int (nI e)), wx (sx_ec (xApp x n 0 (nI e) d c a y) (nI e + 1)) m o) else xAE (wx x m o) else xAE (wx x m o) else xUOE (wx x m o)
  else xISE (wx x m o)
def rVtr (x : XS) (m : MS) (o : Nat → Int64) (n : Nat) (en : Int32) : zR := match sLast (fx_words x) en n with
  | none => xNSE (wx x m o)
  | some u => if fx_words x (6 * u + 0) = 2 then xNSE (wx x m o) else .inl (some (.int (nI u)), wx x m o)
def rCorr (x : XS) (m : MS) (o : Nat → Int64) (n : Nat) (en a : Int32) : zR :=
  if fx_tam x = 0 then match sLast (fx_words x) en n with
    | none => xNSE (wx x m o)
    | some u => if fx_words x (6 * u + 0) = 2 then xNSE (wx x m o) else if a < 1 then xIAE (wx x m o) else if fx_vc x < 64 then
        if sOver x n (fx_words x (6 * u + 2)) (fx_words x (6 * u + 4)) a ≤ 0 then if sOver x n (fx_words x (6 * u + 3)) (fx_words x (6 * u + 4)) a ≤ 0 then .inl (some (.int (nI n)), wx (xRep x n u 1 a) m o) else xAE (wx x m o) else xAE (wx x m o) else xUOE (wx x m o)
  else xISE (wx x m o)
def rAnn (x : XS) (m : MS) (o : Nat → Int64) (n : Nat) (en : Int32) : zR :=
  if fx_tam x = 0 then match sLast (fx_words x) en n with
    | none => xNSE (wx x m o)
    | some u => if fx_words x (6 * u + 0) = 2 then xNSE (wx x m o) else if fx_vc x < 64 then .inl (some (.int (nI n)), wx (xRep x n u 2 0) m o) else xUOE (wx x m o)
  else xISE (wx x m o)
def rBal (x : XS) (m : MS) (o : Nat → Int64) (a d it : Int32) : zR :=
  if fx_tam x = 0 then if sAcc a = 0 then xIAE (wx x m o) else if sDay d = 0 then xIAE (wx x m o) else if sTime (fx_vc x) it = 0 then xIAE (wx x m o) else .inl (some (.int (cBal (fx_words x) (fx_rep x) a d it it.toNatClampNeg)), wx x m o)
  else xISE (wx x m o)
def rTrial (x : XS) (m : MS) (o : Nat → Int64) (d it : Int32) : zR :=
  if fx_tam x = 0 then if sDay d = 0 then xIAE (wx x m o) else if sTime (fx_vc x) it = 0 then xIAE (wx x m o) else .inl (some (.int (cTrial (fx_words x) (fx_rep x) d it.toNatClampNeg 16)), wx x m o)
  else xISE (wx x m o)
def rTurn (x : XS) (m : MS) (o : Nat → Int64) (n : Nat) (a : Int32) : zR :=
  if fx_tam x = 0 then if ¬ sAcc a = 0 then .inl (some (.int (cTurn (fx_words x) (fx_rep x) a (nI n) n)), wx x m o) else xIAE (wx x m o)
  else xISE (wx x m o)
def xOpn (x : XS) (a f g it : Int32) (v : Nat) : XS := sx_cur (sx_last (sx_acct (sx_place (sx_size x (nI (cOpn (fx_words x) (fx_rep x) a f g it (fx_cur x) v).1)) 0) a) (-1)) (cOpn (fx_words x) (fx_rep x) a f g it (fx_cur x) v).2
def rOpen (x : XS) (m : MS) (o : Nat → Int64) (a f g it : Int32) : zR :=
  if fx_tam x = 0 then if sAcc a = 0 then xIAE (wx x m o) else if sDay f = 0 then xIAE (wx x m o) else if sDay g = 0 then xIAE (wx x m o) else if sTime (fx_vc x) it = 0 then xIAE (wx x m o) else
    .inl (some (.int (nI (cOpn (fx_words x) (fx_rep x) a f g it (fx_cur x) it.toNatClampNeg).1)), wx (xOpn x a f g it it.toNatClampNeg) m o)
  else xISE (wx x m o)
def rNext (x : XS) (m : MS) (o : Nat → Int64) : zR :=
  if fx_tam x = 0 then if fx_place x < fx_size x then .inl (some (.int (fx_words x (6 * (fx_cur x (fx_place x).toNatClampNeg).toNatClampNeg + 1))), wx (sx_place (sx_last x (fx_cur x (fx_place x).toNatClampNeg)) (fx_place x + 1)) m o) else .inl (some (.int (-1)), wx (sx_last x (-1)) m o)
  else xISE (wx x m o)
def rMoved (x : XS) (m : MS) (o : Nat → Int64) : zR :=
  if fx_tam x = 0 then if fx_last x = -1 then .inl (some (.int 0), wx x m o) else .inl (some (.int (sMoved (fx_words x) (fx_last x).toNatClampNeg (fx_acct x))), wx x m o)
  else xISE (wx x m o)
def rField (x : XS) (m : MS) (o : Nat → Int64) (en k it : Int32) : zR :=
  if fx_tam x = 0 then if sWrd k = 0 then .inl (some (.int (-1)), wx x m o) else if sTime (fx_vc x) it = 0 then .inl (some (.int (-1)), wx x m o) else match sLast (fx_words x) en it.toNatClampNeg with
    | none => .inl (some (.int (-1)), wx x m o)
    | some u => .inl (some (.int (fx_words x (6 * u + k.toNatClampNeg))), wx x m o)
  else xISE (wx x m o)
def rEnt (x : XS) (m : MS) (o : Nat → Int64) : zR := if fx_tam x = 0 then .inl (some (.int (fx_ec x)), wx x m o) else xISE (wx x m o)
def rTamp (x : XS) (m : MS) (o : Nat → Int64) (v k b : Int32) : zR :=
  if sVer (fx_vc x) v = 0 then .inl (some (.int 0), wx x m o) else if sWrd k = 0 then .inl (some (.int 0), wx x m o) else .inl (some (.int 1), wx (sx_tam (sx_words x (upd (fx_words x) (6 * v.toNatClampNeg + k.toNatClampNeg) b)) 1) m o)
theorem sTime_of {n : Nat} {t : Int32} (hn : n ≤ 64) (h : ¬ sTime (nI n) t = 0) : ∃ j, j ≤ n ∧ t = nI j := by
  unfold sTime at h
  by_cases h1 : t < 0
  · rw [if_pos h1] at h; exact absurd rfl h
  · rw [if_neg h1] at h
    by_cases h2 : nI n < t
    · rw [if_pos h2] at h; exact absurd rfl h
    · obtain ⟨j, hj, e⟩ := nI_of h1
      subst e
      exact ⟨j, by rw [nI_ltI (by omega) hj] at h2; omega, rfl⟩
theorem sVer_of {n : Nat} {v : Int32} (hn : n ≤ 64) (h : ¬ sVer (nI n) v = 0) : ∃ j, j < n ∧ v = nI j := by
  unfold sVer at h
  by_cases h1 : v < 0
  · rw [if_pos h1] at h; exact absurd rfl h
  · rw [if_neg h1] at h
    by_cases h2 : nI n ≤ v
    · rw [if_pos h2] at h; exact absurd rfl h
    · obtain ⟨j, hj, e⟩ := nI_of h1
      subst e
      exact ⟨j, by rw [nI_leI (by omega) hj] at h2; omega, rfl⟩
theorem sWrd_of {k : Int32} (h : ¬ sWrd k = 0) : ∃ j, j < 6 ∧ k = nI j := by
  unfold sWrd at h
  by_cases h1 : k < 0
  · rw [if_pos h1] at h; exact absurd rfl h
  · rw [if_neg h1] at h
    by_cases h2 : (6 : Int32) ≤ k
    · rw [if_pos h2] at h; exact absurd rfl h
    · obtain ⟨j, hj, e⟩ := nI_of h1
      subst e
      rw [show (6 : Int32) = nI 6 from rfl, nI_leI (by omega) hj] at h2
      exact ⟨j, by omega, rfl⟩
theorem nI_m1 {v : Nat} (h : v < 2 ^ 31) : ¬ nI v = -1 := by
  intro e
  have h1 := nI_toInt h
  rw [e] at h1
  have h2 : (-1 : Int32).toInt = -1 := by decide
  omega
theorem i32_nlt {a b : Int32} (h : b ≤ a) : ¬ a < b := by
  rw [Int32.lt_iff_toInt_lt]
  rw [Int32.le_iff_toInt_le] at h
  omega
theorem i32_lt {a b : Int32} (h : ¬ b ≤ a) : a < b := by
  rw [Int32.lt_iff_toInt_lt]
  rw [Int32.le_iff_toInt_le] at h
  omega
theorem sCmp_lt {a b : Int32} (h : sCmp a b < 0) : a < b := by
  unfold sCmp at h
  by_cases h1 : a < b
  · exact h1
  · rw [if_neg h1] at h
    by_cases h2 : a = b
    · rw [if_pos h2] at h; exact absurd h (by decide)
    · rw [if_neg h2] at h; exact absurd h (by decide)
theorem sCmp_nlt {a b : Int32} (h : ¬ sCmp a b < 0) : ¬ a < b := by
  intro h1
  unfold sCmp at h
  rw [if_pos h1] at h
  exact h (by decide)
theorem sCmp_eq {a b : Int32} (h : sCmp a b = 0) : a = b := by
  unfold sCmp at h
  by_cases h1 : a < b
  · rw [if_pos h1] at h; exact absurd h (by decide)
  · rw [if_neg h1] at h
    by_cases h2 : a = b
    · exact h2
    · rw [if_neg h2] at h; exact absurd h (by decide)
theorem sCmp_ne {a b : Int32} (h : ¬ sCmp a b = 0) : ¬ a = b := by
  intro h1
  subst h1
  apply h
  unfold sCmp
  rw [if_neg (i32_irr a), if_pos rfl]
theorem insL_stop {wd cv : Nat → Int32} {u p : Nat} (h : sBfr wd u (cv p).toNatClampNeg = 0) : insL wd u (p + 1) cv = (p + 1, cv) := by
  show (if sBfr wd u (cv p).toNatClampNeg = 0 then (p + 1, cv) else _) = _
  rw [if_pos h]
theorem insL_on {wd cv : Nat → Int32} {u p : Nat} (h : ¬ sBfr wd u (cv p).toNatClampNeg = 0) : insL wd u (p + 1) cv = insL wd u p (upd cv (p + 1) (cv p)) := by
  show (if sBfr wd u (cv p).toNatClampNeg = 0 then (p + 1, cv) else _) = _
  rw [if_neg h]
theorem lt64 {n : Nat} {c : Int32} (hvc : c = nI n) (hn : n ≤ 64) (h : c < 64) : n < 64 := by
  rw [hvc, show (64 : Int32) = nI 64 from rfl, nI_ltI (by omega) (by omega)] at h
  exact h
theorem nI_ltI_of {a z : Nat} (h : nI a < nI z) (ha : a < 2 ^ 31) (hz : z ≤ 64) : a < z := (nI_ltI ha (by omega)).mp h
theorem nI_lt_of {k z : Nat} (h : ¬ nI z ≤ nI k) (hz : z ≤ 64) (hk : k < 2 ^ 31) : k < z := by
  rw [nI_leI (by omega) hk] at h
  omega
theorem sDay_of {k : Int32} (h : ¬ sDay k = 0) : ∃ j, j < 1000 ∧ k = nI j := by
  unfold sDay at h
  by_cases h1 : k < 0
  · rw [if_pos h1] at h; exact absurd rfl h
  · rw [if_neg h1] at h
    by_cases h2 : (1000 : Int32) ≤ k
    · rw [if_pos h2] at h; exact absurd rfl h
    · obtain ⟨j, hj, e⟩ := nI_of h1
      subst e
      rw [show (1000 : Int32) = nI 1000 from rfl, nI_leI (by omega) hj] at h2
      exact ⟨j, by omega, rfl⟩
theorem six {k : Int32} (h : k ≤ 5) : ¬ 6 ≤ k := by
  rw [Int32.le_iff_toInt_le] at *
  have h1 : (5 : Int32).toInt = 5 := by decide
  have h2 : (6 : Int32).toInt = 6 := by decide
  omega
theorem ix_at {a k : Nat} (ha : a < 64) (hk : k < 6) : (nI a * 6 + nI k).toNatClampNeg = 6 * a + k := by
  rw [show (6 : Int32) = nI 6 from rfl, pk_mul, nI_add, nI_clamp (by omega)]
  omega
theorem ix_in {a k : Nat} (ha : a < 64) (hk : k < 6) : vp_in (nI a * 6 + nI k) 384 := by
  rw [show (6 : Int32) = nI 6 from rfl, pk_mul, nI_add]
  exact vp_in_nI (by omega) (by omega)
theorem iy_at {a k : Nat} (ha : a < 64) (hk : k < 6) : (6 * nI a + nI k).toNatClampNeg = 6 * a + k := by
  rw [show (6 : Int32) = nI 6 from rfl, pk_mul, nI_add, nI_clamp (by omega)]
theorem iy_in {a k : Nat} (ha : a < 64) (hk : k < 6) : vp_in (6 * nI a + nI k) 384 := by
  rw [show (6 : Int32) = nI 6 from rfl, pk_mul, nI_add]
  exact vp_in_nI (by omega) (by omega)
theorem i1_at {a : Nat} (ha : a < 64) : (nI a).toNatClampNeg = a := nI_clamp (by omega)
theorem i1_in {a : Nat} (ha : a < 64) : vp_in (nI a) 64 := vp_in_nI ha (by omega)
