/-! The Z layer: the machine at an abstract state: pc, locals (a list, none: not known), operand stack, world (eleven cells, told by their places).
A reference is the place of its cell; as: where the cells lie. -/
def zv (as : Nat → Nat) : Value → Value
  | .ref k => .ref (as k)
  | v => v
theorem zv_cat (as : Nat → Nat) (v : Value) : (zv as v).category = v.category := by cases v <;> rfl
abbrev zE : Type := (Nat × ((Nat → Int32) ⊕ (Nat → Int64))) ⊕ (Nat × List Value)
abbrev zW : Type := List zE
def zce (cI cJ : ClassId) (as : Nat → Nat) : zE → va_E
  | .inl (n, .inl f) => .inl (cI, n, .inl f)
  | .inl (n, .inr f) => .inl (cJ, n, .inr (.inl f))
  | .inr (ci, fs) => .inr (ci, fs.map (zv as))
def zwi (cI cJ : ClassId) (as : Nat → Nat) : Nat → zW → va_W
  | _, [] => []
  | i, e :: r => (as i, zce cI cJ as e) :: zwi cI cJ as (i + 1) r
theorem zwi_get (cI cJ : ClassId) (as : Nat → Nat) : ∀ (w : zW) (i j : Nat), (zwi cI cJ as i w)[j]? = (w[j]?).map (fun e => (as (i + j), zce cI cJ as e))
  | [], _, _ => by simp [zwi]
  | e :: r, i, 0 => by simp [zwi]
  | e :: r, i, j + 1 => by
    show (zwi cI cJ as (i + 1) r)[j]? = _
    rw [zwi_get cI cJ as r (i + 1) j, show i + (j + 1) = i + 1 + j by omega]
    rfl
theorem zwi_set (cI cJ : ClassId) (as : Nat → Nat) : ∀ (w : zW) (i j : Nat) (e : zE), (zwi cI cJ as i w).set j (as (i + j), zce cI cJ as e) = zwi cI cJ as i (w.set j e)
  | [], _, _, _ => rfl
  | e :: r, i, 0, x => rfl
  | e :: r, i, j + 1, x => by
    show (as i, zce cI cJ as e) :: (zwi cI cJ as (i + 1) r).set j (as (i + (j + 1)), zce cI cJ as x) = (as i, zce cI cJ as e) :: zwi cI cJ as (i + 1) (r.set j x)
    rw [show i + (j + 1) = i + 1 + j by omega, zwi_set cI cJ as r (i + 1) j x]
def zH (D : va_G) (cI cJ : ClassId) (as : Nat → Nat) (w : zW) (H : Heap) : Prop := w.length = 11 ∧ va_P D vwCl (zwi cI cJ as 0 w) H
def zinj (as : Nat → Nat) : Prop := ∀ i j : Nat, i < 11 → j < 11 → as i = as j → i = j
def zA (as : Nat → Nat) (sz : Nat) : Nat → Prop := fun q => (∃ k, k < 11 ∧ q = as k) ∨ sz ≤ q
theorem zat {cI cJ : ClassId} {as : Nat → Nat} {w : zW} {k : Nat} {e : zE} (h : w[k]? = some e) : (zwi cI cJ as 0 w)[k]? = some (as k, zce cI cJ as e) := by
  rw [zwi_get, h, Nat.zero_add]; rfl
theorem zset {cI cJ : ClassId} {as : Nat → Nat} {w : zW} {k : Nat} {e : zE} : (zwi cI cJ as 0 w).set k (as k, zce cI cJ as e) = zwi cI cJ as 0 (w.set k e) := by
  have h := zwi_set cI cJ as w 0 k e
  rwa [Nat.zero_add] at h
theorem zD {cI cJ : ClassId} {as : Nat → Nat} {w : zW} {sz : Nat} (h : zinj as) (hl : w.length = 11) : va_D (zA as sz) (zwi cI cJ as 0 w) := by
  refine ⟨fun i j x y hi hj hxy => ?_, fun k q hk => ?_⟩
  · rw [zwi_get] at hi hj
    obtain ⟨e1, h1, h2⟩ := Option.map_eq_some_iff.mp hi
    obtain ⟨e2, h3, h4⟩ := Option.map_eq_some_iff.mp hj
    subst h2
    subst h4
    have l1 := (List.getElem?_eq_some_iff.mp h1).1
    have l2 := (List.getElem?_eq_some_iff.mp h3).1
    exact h i j (by omega) (by omega) (by simpa using hxy)
  · rw [zwi_get] at hk
    obtain ⟨e1, h1, h2⟩ := Option.map_eq_some_iff.mp hk
    subst h2
    have l1 := (List.getElem?_eq_some_iff.mp h1).1
    exact Or.inl ⟨k, by omega, by simp⟩
theorem zA_mono {as : Nat → Nat} {a b : Nat} (h : a ≤ b) : ∀ q, zA as b q → zA as a q := by
  intro q hq
  rcases hq with hq | hq
  · exact Or.inl hq
  · exact Or.inr (Nat.le_trans h hq)
