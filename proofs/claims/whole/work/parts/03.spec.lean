/-! What the methods answer, as functions of the words: shared by the class and by the reference. -/
def fE (wd : Nat → Int32) : Nat → Int32 := fun v => wd (6 * v + 1)
def sLast (wd : Nat → Int32) (en : Int32) (t : Nat) : Option Nat := mL (fE wd) en t
def sCv : Option Nat → Int32
  | none => -1
  | some v => nI v
def sAcc (a : Int32) : Int32 := if a < 0 then 0 else if 16 ≤ a then 0 else 1
def sDay (a : Int32) : Int32 := if a < 0 then 0 else if 1000 ≤ a then 0 else 1
def sWrd (a : Int32) : Int32 := if a < 0 then 0 else if 6 ≤ a then 0 else 1
def sTime (n t : Int32) : Int32 := if t < 0 then 0 else if n < t then 0 else 1
def sVer (n v : Int32) : Int32 := if v < 0 then 0 else if n ≤ v then 0 else 1
def sCur (rp : Nat → Int32) (v : Nat) (t : Int32) : Int32 := if t ≤ nI v then 0 else if rp v < t then 0 else 1
def sTouch (wd : Nat → Int32) (v : Nat) (a : Int32) : Int32 := if wd (6 * v + 2) = a then 1 else if wd (6 * v + 3) = a then 1 else 0
def sMoved (wd : Nat → Int32) (v : Nat) (a : Int32) : Int32 := if wd (6 * v + 2) = a then wd (6 * v + 4) else if wd (6 * v + 3) = a then -wd (6 * v + 4) else 0
def cBal (wd rp : Nat → Int32) (a d t : Int32) : Nat → Int32
  | 0 => 0
  | v + 1 => if sCur rp v t = 0 then cBal wd rp a d t v else if d < wd (6 * v + 5) then cBal wd rp a d t v else cBal wd rp a d t v + sMoved wd v a
def cTurn (wd rp : Nat → Int32) (a t : Int32) : Nat → Int32
  | 0 => 0
  | v + 1 => if sCur rp v t = 0 then cTurn wd rp a t v else if sTouch wd v a = 0 then cTurn wd rp a t v else cTurn wd rp a t v + wd (6 * v + 4)
def cTrial (wd rp : Nat → Int32) (d : Int32) (t : Nat) : Nat → Int32
  | 0 => 0
  | k + 1 => cTrial wd rp d t k + cBal wd rp (nI k) d (nI t) t
def mBal (wd : Nat → Int32) (a d : Int32) (t : Nat) : Nat → Int32
  | 0 => 0
  | j + 1 => match sLast wd (nI j) t with
    | none => mBal wd a d t j
    | some v => if d < wd (6 * v + 5) then mBal wd a d t j else if wd (6 * v + 2) = a then mBal wd a d t j + wd (6 * v + 4) else if wd (6 * v + 3) = a then mBal wd a d t j - wd (6 * v + 4) else mBal wd a d t j
def mTurn (wd : Nat → Int32) (a : Int32) (n : Nat) : Nat → Int64
  | 0 => 0
  | j + 1 => match sLast wd (nI j) n with
    | none => mTurn wd a n j
    | some v => if sTouch wd v a = 0 then mTurn wd a n j else mTurn wd a n j + (wd (6 * v + 4)).toInt64
def mTrial (wd : Nat → Int32) (d : Int32) (t e : Nat) : Nat → Int32
  | 0 => 0
  | k + 1 => mTrial wd d t e k + mBal wd (nI k) d t e
def sUsr (h : Int64) : Int64 := (h.toUInt64 >>> ((27 : Int32).toInt64.toUInt64 &&& Int64.toUInt64 63)).toInt64
def sFol (h : Int64) (x : Int32) : Int64 := (h ^^^ sUsr h) * 2685821657736338717 + x.toInt64
def sLnk (wd : Nat → Int32) (v : Nat) (h : Int64) : Nat → Int64
  | 0 => h
  | k + 1 => sFol (sLnk wd v h k) (wd (6 * v + k))
def sBef (lk : Nat → Int64) : Nat → Int64
  | 0 => 1469598103
  | v + 1 => lk v
/-- the words of version n -/
def wApp (wd : Nat → Int32) (n : Nat) (k e d c a y : Int32) : Nat → Int32 := upd (upd (upd (upd (upd (upd wd (6 * n + 0) k) (6 * n + 1) e) (6 * n + 2) d) (6 * n + 3) c) (6 * n + 4) a) (6 * n + 5) y
def kApp (wd : Nat → Int32) (lk : Nat → Int64) (n : Nat) : Nat → Int64 := vp_updL lk n (sLnk wd n (sBef lk n) 6)
/-- the first version, from v on, whose link isn't its words' -/
def sVfy (wd : Nat → Int32) (lk : Nat → Int64) (v : Nat) : Nat → Int32
  | 0 => 0
  | k + 1 => if sLnk wd v (sBef lk v) 6 = lk v then sVfy wd lk (v + 1) k else nI v + 1
theorem wApp_old {wd : Nat → Int32} {n : Nat} {k e d c a y : Int32} {i : Nat} (h : i < 6 * n) : wApp wd n k e d c a y i = wd i := by
  unfold wApp upd
  rw [if_neg (by omega), if_neg (by omega), if_neg (by omega), if_neg (by omega), if_neg (by omega), if_neg (by omega)]
theorem wApp_0 {wd : Nat → Int32} {n : Nat} {k e d c a y : Int32} : wApp wd n k e d c a y (6 * n + 0) = k := by
  unfold wApp upd
  rw [if_neg (by omega), if_neg (by omega), if_neg (by omega), if_neg (by omega), if_neg (by omega), if_pos rfl]
theorem wApp_1 {wd : Nat → Int32} {n : Nat} {k e d c a y : Int32} : wApp wd n k e d c a y (6 * n + 1) = e := by
  unfold wApp upd
  rw [if_neg (by omega), if_neg (by omega), if_neg (by omega), if_neg (by omega), if_pos rfl]
theorem wApp_2 {wd : Nat → Int32} {n : Nat} {k e d c a y : Int32} : wApp wd n k e d c a y (6 * n + 2) = d := by
  unfold wApp upd
  rw [if_neg (by omega), if_neg (by omega), if_neg (by omega), if_pos rfl]
theorem wApp_3 {wd : Nat → Int32} {n : Nat} {k e d c a y : Int32} : wApp wd n k e d c a y (6 * n + 3) = c := by
  unfold wApp upd
  rw [if_neg (by omega), if_neg (by omega), if_pos rfl]
theorem wApp_4 {wd : Nat → Int32} {n : Nat} {k e d c a y : Int32} : wApp wd n k e d c a y (6 * n + 4) = a := by
  unfold wApp upd
  rw [if_neg (by omega), if_pos rfl]
theorem wApp_5 {wd : Nat → Int32} {n : Nat} {k e d c a y : Int32} : wApp wd n k e d c a y (6 * n + 5) = y := by
  unfold wApp upd
  rw [if_pos rfl]
