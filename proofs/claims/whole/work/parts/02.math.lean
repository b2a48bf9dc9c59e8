/-! Sums over versions and over entries; the last version of an entry; sorted lists. Pure rows. -/
def mS (g : Nat → Int) : Nat → Int
  | 0 => 0
  | n + 1 => mS g n + g n
theorem mS_congr {g h : Nat → Int} : ∀ n : Nat, (∀ k, k < n → g k = h k) → mS g n = mS h n
  | 0, _ => rfl
  | n + 1, H => by
    show mS g n + g n = mS h n + h n
    rw [mS_congr n (fun k hk => H k (Nat.lt_succ_of_lt hk)), H n (Nat.lt_succ_self n)]
theorem mS_zero : ∀ n : Nat, mS (fun _ => 0) n = 0
  | 0 => rfl
  | n + 1 => by
    show mS (fun _ => 0) n + 0 = 0
    rw [mS_zero n]; rfl
theorem mS_add (g h : Nat → Int) : ∀ n : Nat, mS (fun k => g k + h k) n = mS g n + mS h n
  | 0 => rfl
  | n + 1 => by
    show mS (fun k => g k + h k) n + (g n + h n) = (mS g n + g n) + (mS h n + h n)
    rw [mS_add g h n]; omega
theorem mS_sub (g h : Nat → Int) : ∀ n : Nat, mS (fun k => g k - h k) n = mS g n - mS h n
  | 0 => rfl
  | n + 1 => by
    show mS (fun k => g k - h k) n + (g n - h n) = (mS g n + g n) - (mS h n + h n)
    rw [mS_sub g h n]; omega
theorem mS_none {h : Nat → Int} {v : Nat} (n : Nat) (hv : n ≤ v) : mS (fun k => if v = k then h k else 0) n = 0 := by
  refine (mS_congr n fun k hk => ?_).trans (mS_zero n)
  rw [if_neg (by omega)]
theorem mS_one {h : Nat → Int} {v : Nat} : ∀ n : Nat, v < n → mS (fun k => if v = k then h k else 0) n = h v
  | 0, hv => absurd hv (Nat.not_lt_zero v)
  | n + 1, hv => by
    show mS (fun k => if v = k then h k else 0) n + (if v = n then h n else 0) = h v
    by_cases e : v = n
    · subst e
      rw [if_pos rfl, mS_none v (Nat.le_refl v)]; omega
    · rw [if_neg e, mS_one n (by omega)]; omega
theorem mS_nonneg {g : Nat → Int} : ∀ n : Nat, (∀ k, k < n → 0 ≤ g k) → 0 ≤ mS g n
  | 0, _ => Int.le_refl 0
  | n + 1, H => by
    have h1 := mS_nonneg n (fun k hk => H k (Nat.lt_succ_of_lt hk))
    have h2 := H n (Nat.lt_succ_self n)
    show 0 ≤ mS g n + g n
    omega
theorem mS_le {g : Nat → Int} {b : Int} : ∀ n : Nat, (∀ k, k < n → g k ≤ b) → mS g n ≤ n * b
  | 0, _ => by show (0 : Int) ≤ (0 : Nat) * b; simp
  | n + 1, H => by
    have h1 := mS_le n (fun k hk => H k (Nat.lt_succ_of_lt hk))
    have h2 := H n (Nat.lt_succ_self n)
    show mS g n + g n ≤ ((n + 1 : Nat) : Int) * b
    rw [show ((n + 1 : Nat) : Int) * b = n * b + b by rw [Int.natCast_add, Int.add_mul]; simp]
    omega
/-- the last place below t that holds x -/
def mL (f : Nat → Int32) (x : Int32) : Nat → Option Nat
  | 0 => none
  | t + 1 => if f t = x then some t else mL f x t
theorem mL_s (f : Nat → Int32) (x : Int32) (t : Nat) : mL f x (t + 1) = if f t = x then some t else mL f x t := rfl
theorem mL_lt {f : Nat → Int32} {x : Int32} {v : Nat} : ∀ t : Nat, mL f x t = some v → v < t ∧ f v = x
  | 0, h => by cases h
  | t + 1, h => by
    rw [mL_s] at h
    by_cases e : f t = x
    · rw [if_pos e] at h
      cases h
      exact ⟨Nat.lt_succ_self _, e⟩
    · rw [if_neg e] at h
      have := mL_lt t h
      exact ⟨Nat.lt_succ_of_lt this.1, this.2⟩
theorem mL_none {f : Nat → Int32} {x : Int32} : ∀ t : Nat, mL f x t = none → ∀ v, v < t → f v ≠ x
  | 0, _, v, hv => absurd hv (Nat.not_lt_zero v)
  | t + 1, h, v, hv => by
    rw [mL_s] at h
    by_cases e : f t = x
    · rw [if_pos e] at h; cases h
    · rw [if_neg e] at h
      by_cases hvt : v = t
      · subst hvt; exact e
      · exact mL_none t h v (by omega)
theorem mL_last {f : Nat → Int32} {x : Int32} {v : Nat} : ∀ t : Nat, mL f x t = some v → ∀ u, v < u → u < t → f u ≠ x
  | 0, h, _, _, _ => by cases h
  | t + 1, h, u, h1, h2 => by
    rw [mL_s] at h
    by_cases e : f t = x
    · rw [if_pos e] at h
      cases h
      omega
    · rw [if_neg e] at h
      by_cases hut : u = t
      · subst hut; exact e
      · exact mL_last t h u h1 (by omega)
theorem mL_of {f : Nat → Int32} {x : Int32} {v : Nat} : ∀ t : Nat, v < t → f v = x → (∀ u, v < u → u < t → f u ≠ x) → mL f x t = some v
  | 0, h, _, _ => absurd h (Nat.not_lt_zero v)
  | t + 1, h, hv, hu => by
    rw [mL_s]
    by_cases e : v = t
    · subst e; rw [if_pos hv]
    · rw [if_neg (hu t (by omega) (Nat.lt_succ_self t))]
      exact mL_of t (by omega) hv (fun u h1 h2 => hu u h1 (by omega))
theorem mL_some {f : Nat → Int32} {x : Int32} {v t : Nat} (h : v < t) (hv : f v = x) : ∃ u, mL f x t = some u := by
  cases e : mL f x t with
  | none => exact absurd hv (mL_none t e v h)
  | some u => exact ⟨u, rfl⟩
theorem mL_congr {f g : Nat → Int32} {x : Int32} : ∀ t : Nat, (∀ v, v < t → f v = g v) → mL f x t = mL g x t
  | 0, _ => rfl
  | t + 1, h => by
    rw [mL_s, mL_s, h t (Nat.lt_succ_self t), mL_congr t (fun v hv => h v (Nat.lt_succ_of_lt hv))]
def mV (h : Nat → Int) : Option Nat → Int
  | none => 0
  | some v => h v
theorem mV_sum (h : Nat → Int) (t : Nat) : ∀ o : Option Nat, (∀ v, o = some v → v < t) → mS (fun v => if o = some v then h v else 0) t = mV h o
  | none, _ => by
    show mS (fun v => if (none : Option Nat) = some v then h v else 0) t = 0
    refine (mS_congr t fun k _ => ?_).trans (mS_zero t)
    rw [if_neg (by intro q; cases q)]
  | some u, H => by
    show mS (fun v => if some u = some v then h v else 0) t = h u
    rw [← mS_one (h := h) t (H u rfl)]
    refine mS_congr t fun k _ => ?_
    by_cases e : u = k
    · rw [if_pos e, if_pos (by rw [e])]
    · rw [if_neg e, if_neg (by intro q; exact e (Option.some.inj q))]
/-- a sum over the versions that are the last of their entries is a sum over the entries -/
theorem m_swap (f : Nat → Int32) (h : Nat → Int) (e : Nat) (he : e < 2 ^ 31) : ∀ t : Nat, (∀ v, v < t → ∃ j, j < e ∧ f v = nI j) →
    mS (fun v => if mL f (f v) t = some v then h v else 0) t = mS (fun j => mV h (mL f (nI j) t)) e
  | 0, _ => by
    show (0 : Int) = mS (fun j => mV h (mL f (nI j) 0)) e
    rw [← mS_zero e]
    exact mS_congr e fun k _ => rfl
  | t + 1, H => by
    have ih := m_swap f h e he t (fun v hv => H v (Nat.lt_succ_of_lt hv))
    obtain ⟨j0, hj0, hf0⟩ := H t (Nat.lt_succ_self t)
    have e1 : mS (fun v => if mL f (f v) (t + 1) = some v then h v else 0) (t + 1) = mS (fun v => if mL f (f v) (t + 1) = some v then h v else 0) t + h t := by
      show mS _ t + (if mL f (f t) (t + 1) = some t then h t else 0) = _
      rw [if_pos (by rw [mL_s, if_pos rfl])]
    have e2 : mS (fun v => if mL f (f v) (t + 1) = some v then h v else 0) t = mS (fun v => if mL f (f v) t = some v then h v else 0) t - mV h (mL f (f t) t) := by
      rw [← mV_sum h t (mL f (f t) t) (fun v hv => (mL_lt t hv).1), ← mS_sub]
      refine mS_congr t fun v hv => ?_
      rw [mL_s]
      by_cases q : f t = f v
      · rw [if_pos q, if_neg (by intro z; have := Option.some.inj z; omega), q]
        omega
      · rw [if_neg q, if_neg (c := mL f (f t) t = some v) (by intro z; exact q (mL_lt t z).2.symm)]
        omega
    have e3 : mS (fun j => mV h (mL f (nI j) (t + 1))) e = mS (fun j => mV h (mL f (nI j) t)) e + (h t - mV h (mL f (f t) t)) := by
      rw [hf0, ← mS_one (h := fun j => h t - mV h (mL f (nI j) t)) (v := j0) e hj0, ← mS_add]
      refine mS_congr e fun j hj => ?_
      rw [mL_s]
      by_cases q : j0 = j
      · subst q
        rw [if_pos hf0, if_pos rfl]
        show h t = _
        omega
      · rw [if_neg (by rw [hf0]; intro z; exact q ((nI_eq (by omega) (by omega)).mp z)), if_neg q]
        omega
    rw [e1, e2, e3, ih]
    omega
/-- two strictly sorted lists with the same members are one list -/
theorem m_sorted {lt : Nat → Nat → Prop} (irr : ∀ a, ¬ lt a a) (tr : ∀ a b c, lt a b → lt b c → lt a c) : ∀ l1 l2 : List Nat, l1.Pairwise lt → l2.Pairwise lt → (∀ x, x ∈ l1 ↔ x ∈ l2) → l1 = l2
  | [], [], _, _, _ => rfl
  | [], b :: l2, _, _, H => absurd ((H b).mpr List.mem_cons_self) List.not_mem_nil
  | a :: l1, [], _, _, H => absurd ((H a).mp List.mem_cons_self) List.not_mem_nil
  | a :: l1, b :: l2, h1, h2, H => by
    obtain ⟨a1, a2⟩ := List.pairwise_cons.mp h1
    obtain ⟨b1, b2⟩ := List.pairwise_cons.mp h2
    have hab : a = b := by
      rcases List.mem_cons.mp ((H a).mp List.mem_cons_self) with q | q
      · exact q
      · rcases List.mem_cons.mp ((H b).mpr List.mem_cons_self) with z | z
        · exact z.symm
        · exact absurd (tr _ _ _ (a1 b z) (b1 a q)) (irr a)
    subst hab
    rw [m_sorted irr tr l1 l2 a2 b2 (fun x => ⟨fun hx => ?_, fun hx => ?_⟩)]
    · rcases List.mem_cons.mp ((H x).mp (List.mem_cons_of_mem _ hx)) with q | q
      · subst q; exact absurd (a1 x hx) (irr x)
      · exact q
    · rcases List.mem_cons.mp ((H x).mpr (List.mem_cons_of_mem _ hx)) with q | q
      · subst q; exact absurd (b1 x hx) (irr x)
      · exact q
