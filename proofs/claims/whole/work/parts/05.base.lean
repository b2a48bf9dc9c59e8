def zstr : List (String × Nat × String) := [("AsOfLedger", 124, "a word was changed by hand"), ("AsOfLedger", 131, "an argument is out of its range"), ("AsOfLedger", 136, "there are 64 versions"), ("AsOfLedger", 143, "a turnover would be above 2147483647"), ("AsOfLedger", 148, "there is no such entry, or it is void")]
def zNots : List Jvm.Cond := [.not (.castable "java/lang/IllegalStateException" "java/util/NoSuchElementException"), .not (.castable "java/lang/IllegalStateException" "java/lang/IllegalArgumentException"), .not (.castable "java/lang/IllegalStateException" "java/lang/UnsupportedOperationException"), .not (.castable "java/lang/IllegalStateException" "java/lang/ArithmeticException"), .not (.castable "java/util/NoSuchElementException" "java/lang/IllegalStateException"), .not (.castable "java/util/NoSuchElementException" "java/lang/IllegalArgumentException"), .not (.castable "java/util/NoSuchElementException" "java/lang/UnsupportedOperationException"), .not (.castable "java/util/NoSuchElementException" "java/lang/ArithmeticException"), .not (.castable "java/lang/IllegalArgumentException" "java/lang/IllegalStateException"), .not (.castable "java/lang/IllegalArgumentException" "java/util/NoSuchElementException"), .not (.castable "java/lang/IllegalArgumentException" "java/lang/UnsupportedOperationException"), .not (.castable "java/lang/IllegalArgumentException" "java/lang/ArithmeticException"), .not (.castable "java/lang/UnsupportedOperationException" "java/lang/IllegalStateException"), .not (.castable "java/lang/UnsupportedOperationException" "java/util/NoSuchElementException"), .not (.castable "java/lang/UnsupportedOperationException" "java/lang/IllegalArgumentException"), .not (.castable "java/lang/UnsupportedOperationException" "java/lang/ArithmeticException"), .not (.castable "java/lang/ArithmeticException" "java/lang/IllegalStateException"), .not (.castable "java/lang/ArithmeticException" "java/util/NoSuchElementException"), .not (.castable "java/lang/ArithmeticException" "java/lang/IllegalArgumentException"), .not (.castable "java/lang/ArithmeticException" "java/lang/UnsupportedOperationException")]
/-! The words that hold all through: those of the tables that a warmer table keeps; what a throw asks of the statics and of the texts. -/
def zgood : Jvm.Cond → Bool
  | .arrayClass _ => true
  | .not (.castable _ _) => true
  | c => c.onTables && c.keepsFace
def Tw : List Jvm.Cond := lw_tbl.filter zgood ++ zNots
theorem Tw_good : ∀ x ∈ Tw, zgood x = true := fun x h => (List.mem_append.mp h).elim (fun h => (List.mem_filter.mp h).2) (fun h => List.all_eq_true.mp (show zNots.all zgood = true from by decide +kernel) x h)
theorem zword {c : Jvm.Cond} {args a' : Array Value} {s U : State} (hW : s.WarmedH U.vm) (hc : zgood c = true) (h : c.before args s = true) : c.before a' U = true := by
  unfold zgood at hc
  split at hc
  · exact word_at hW (Or.inr ⟨_, rfl⟩) h
  · have h1 := Cond.castAtom_setVm hW.alike _ rfl h
    simpa [Cond.before, Cond.holds, Cond.value] using h1
  · simp only [Bool.and_eq_true] at hc
    have h1 := Cond.before_shiftedFace (State.Shifted.of_warmed hW) c hc.2 h
    rw [Cond.onTables_vm (A' := a') (U' := U) U.vm c hc.1] at h1
    exact h1
theorem Tw_in {x : Jvm.Cond} (h : x ∈ lw_tbl) (hg : zgood x = true) : x ∈ Tw := List.mem_append_left _ (List.mem_filter.mpr ⟨h, hg⟩)
def zst (C n d : String) (A : Nat → Prop) (U : State) : Prop := ∃ (c : ClassId) (k : Class) (i : Nat) (f : Field) (a : Addr) (cell : Cell) (v : Value), U.vm.findClass C = some c ∧ U.fieldFound? C n d = some (c, k, i, f) ∧ f.isStatic = true ∧ k.statics = some a ∧ U.heap[a]? = some cell ∧ cell.vm.isStatics = true ∧ cell.cls = c ∧
  f.slot < cell.slots.size ∧ k.staticTypes[f.slot]? = some f.type ∧ cell.slots[f.slot]? = some v ∧ v.isRef = true ∧ ¬ A a
theorem zst_of {args : Array Value} {s : State} {C n d : String} {A : Nat → Prop} (h1 : (Jvm.Cond.laysStatic C n d).before args s = true) (h2 : (Jvm.Cond.isRef (.static C n d)).before args s = true) (hA : ∀ a : Nat, a < s.heap.size → ¬ A a) : zst C n d A s := by
  obtain ⟨c, k, i, f, a, cell, e1, e2, e3, e4, e5, e6, e7, e8, e9⟩ := Cond.laysStatic_spec h1
  cases hv : (Term.static C n d).eval args s none [] s with
  | none => simp [Cond.before, Cond.holds, Cond.value, hv] at h2
  | some v =>
    obtain ⟨-, a', cell', q1, q2, -, q3⟩ := Term.static_spec e2 hv
    cases e4.symm.trans q1
    cases e5.symm.trans q2
    refine ⟨c, k, i, f, a, cell, v, e1, e2, e3, e4, e5, e6, e7, e8, e9, q3, ?_, hA a (Array.getElem?_eq_some_iff.mp e5).1⟩
    simp only [Cond.before, Cond.holds, Cond.value, hv] at h2
    cases v <;> simp_all [Value.isRef]
theorem zst_at {s U : State} {H : Heap} {C n d : String} {A B : Nat → Prop} (h : zst C n d A s) (hk : ∀ a : Nat, a < s.heap.size → ¬ A a → H[a]? = s.heap[a]?) (hAB : ∀ q, B q → A q) (hU : U.heap = H) (hvm : s.vm.Alike U.vm) : zst C n d B U := by
  obtain ⟨c, k, i, f, a, cell, v, e1, e2, e3, e4, e5, e6, e7, e8, e9, e10, e11, e12⟩ := h
  obtain ⟨k', hi', he⟩ := State.fieldFound?_setVm hvm e2
  exact ⟨c, k', i, f, a, cell, v, by rw [hvm.findClass]; exact e1, hi', e3, by rw [he]; exact e4, by rw [hU, hk a (Array.getElem?_eq_some_iff.mp e5).1 e12]; exact e5, e6, e7, e8, by rw [he]; exact e9, e10, e11, fun z => e12 (hAB a z)⟩
theorem zst_lays {U : State} {C n d : String} {A : Nat → Prop} {args : Array Value} (h : zst C n d A U) : (Jvm.Cond.laysStatic C n d).before args U = true := by
  obtain ⟨c, k, i, f, a, cell, v, e1, e2, e3, e4, e5, e6, e7, e8, e9, e10, e11, e12⟩ := h
  simp [Cond.before, Cond.holds, Cond.value, e1, e2, e3, e4, e5, e6, e7, e8, e9]
theorem zst_ref {U : State} {C n d : String} {A : Nat → Prop} {args : Array Value} (h : zst C n d A U) : (Jvm.Cond.isRef (.static C n d)).before args U = true := by
  obtain ⟨c, k, i, f, a, cell, v, e1, e2, e3, e4, e5, e6, e7, e8, e9, e10, e11, e12⟩ := h
  have hv : (Term.static C n d).eval args U none [] U = some v := by
    simp [Term.eval, State.fieldNamed?, e2, e3, e4, e5, e6, e10]
  cases v <;> simp_all [Cond.before, Cond.holds, Cond.value, Value.isRef]
def zenv (as : Nat → Nat) (sz : Nat) (U : State) : Prop := zst Jvm.Bundle.tN "UNASSIGNED_STACK" Jvm.Bundle.steD (zA as sz) U ∧ zst Jvm.Bundle.tN "SUPPRESSED_SENTINEL" Jvm.Bundle.listD (zA as sz) U ∧ ∀ q ∈ zstr, ∃ a, vk_R q.1 q.2.1 q.2.2 a U
theorem zenv_calling {as : Nat → Nat} {sz : Nat} {U : State} {g : JFrame} {mk : MethodId} {a : Array Value} (h : zenv as sz U) : zenv as sz (U.calling g mk a) :=
  ⟨h.1, h.2.1, fun q hq => by
    obtain ⟨b, hb⟩ := h.2.2 q hq
    exact ⟨b, vk_R.same (u := U) rfl hb⟩⟩
theorem zenv_at {as : Nat → Nat} {s U : State} {H : Heap} {locs : List Loc} (h : zenv as s.heap.size s) (hS : va_S (zA as s.heap.size) s.heap H locs) (hU : U.heap = H) (hW : s.WarmedH U.vm) : zenv as H.size U :=
  ⟨zst_at h.1 hS.2.1 (zA_mono hS.1) hU hW.alike, zst_at h.2.1 hS.2.1 (zA_mono hS.1) hU hW.alike, fun q hq => by
    obtain ⟨b, hb⟩ := h.2.2 q hq
    exact ⟨b, vk_R.warm hW hb⟩⟩
def zcl (ci : Nat) (C : String) (T : u_T) (N : Nat) (ty0 : Nat → FieldType) : Prop := vwCl[ci]? = some (C, T, N) ∧ (∀ w ∈ u_ws C T N, w ∈ Tw) ∧ (∀ k, k < N → parseFieldDescriptor (T k).2.2.1 = some (ty0 k)) ∧ ∀ a, a < N → ∀ b, b < N → a ≠ b → (T a).2.1 ≠ (T b).2.1
def zfld (own : String) (idx ci k : Nat) (ty : FieldType) (fin : Bool) : Prop := ∃ (C : String) (T : u_T) (N : Nat) (ty0 : Nat → FieldType), zcl ci C T N ty0 ∧ k < N ∧ Jvm.Cond.fieldLink own idx (T k).1 (T k).2.1 (T k).2.2.1 ∈ Tw ∧ ty0 k = ty ∧ (T k).2.2.2 = fin
