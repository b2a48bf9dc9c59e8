/-! A new exception with a text, thrown out of the method. -/
def zown (own : String) (i0 i1 i2 : Nat) (Xn tx : String) (names : List String) : Prop :=
  Jvm.Cond.classLink own i0 Xn ∈ Tw ∧ Jvm.Cond.instantiable Xn 6 ∈ Tw ∧ Jvm.Cond.initialized Xn ∈ Tw ∧ (own, i1, tx) ∈ zstr ∧ Jvm.Bundle.fit Xn = true ∧ (∀ n ∈ names, Jvm.Bundle.fit n = true) ∧
  ∀ a ∈ Jvm.Bundle.ownAtoms own i2 Xn names, a ∈ Tw ∨ a = .laysStatic Jvm.Bundle.tN "UNASSIGNED_STACK" Jvm.Bundle.steD ∨ a = .laysStatic Jvm.Bundle.tN "SUPPRESSED_SENTINEL" Jvm.Bundle.listD ∨ a = .isRef (.static Jvm.Bundle.tN "UNASSIGNED_STACK" Jvm.Bundle.steD) ∨ a = .isRef (.static Jvm.Bundle.tN "SUPPRESSED_SENTINEL" Jvm.Bundle.listD)
theorem z_same {s U : State} {k n : Nat} (h : s.sameButNew ({ U with vm := s.vm } : State) [] k n) : s.heap.size ≤ U.heap.size ∧ ∀ q : Nat, q < s.heap.size → U.heap[q]? = s.heap[q]? := by
  obtain ⟨-, h2, -, -, -, h6⟩ := h
  refine ⟨h2, fun q hq => ?_⟩
  have h1 : s.heap[q]? = some s.heap[q] := Array.getElem?_eq_getElem hq
  obtain ⟨c', g1, g2, g3, g4⟩ := h6 q _ h1
  have e1 : c'.slots = s.heap[q].slots := Array.ext_getElem? (fun i => g4 i (by intro z; cases z))
  have e2 : c' = s.heap[q] := by rw [g2, e1]
  rw [h1, ← e2]
  exact g1
section ZX
variable {p : Program} {l : Launch} {e : Env} {R : Room} {s : State} {m : MethodId} {args : Array Value} {below : List Frame} {meth : Method} {c : Code} {cc : ByteArray} {nL : Nat} {own : String} {D : va_G} {cI cJ : ClassId} {as : Nat → Nat} {rd : Bool} {kc ks : Nat} {pc : Nat} {lv : List (Option Value)} {w : zW} {res : zR} {gc gs : Nat}
theorem zz_throw (hfl : l.flags = Jvm.pinnedFlags ++ [Jvm.noTraceFlag]) (G : zok p s m args meth c cc nL own D cI cJ as) {i0 i1 i2 : Nat} {Xn tx : String} {names : List String} (hd0 : decode cc pc = .ok (.new i0, 3)) (hd3 : decode cc (pc + 3) = .ok (.dup, 1)) (hd4 : decode cc (pc + 4) = .ok (.ldc i1, 2)) (hd6 : decode cc (pc + 6) = .ok (.invokespecial i2, 3)) (hd9 : decode cc (pc + 9) = .ok (.athrow, 1))
    (ho : zown own i0 i1 i2 Xn tx names) (hrd : rd = true) (hbd : ∀ k, k < 11 → as k < s.heap.size) (hex : c.exceptionTable.toList = []) (hR : names.length + 3 < R.frames ∧ 13 * (names.length + 1) + 50 ≤ R.locals) (hf : kc + 1 ≤ R.cells ∧ ks + 6 ≤ R.slots) (hres : res = .inr (Xn, w)) (hkc : kc = 0) (hks : ks = 0) :
    Z p l e R s m args below meth c nL D cI cJ as rd kc ks (zMQ below res D cI cJ as rd s gc gs) pc lv [] w := by
  intro ls H locs hl hP hS hr
  have hlocs : locs = [] := hr hrd
  subst hlocs
  subst hkc
  subst hks
  obtain ⟨o1, o2, o3, o4, o5, o6, o7⟩ := ho
  obtain ⟨q, hq⟩ := G.2.2.2.2.2.2 _ o4
  refine W.newc G.1.1 G.1.2.1 G.1.2.2.2.1 (G.2.1 _ o1) (G.2.1 _ o2) (G.2.1 _ o3) rfl hd0 hf.1 hf.2 (fun cC kC h1 h2 h3 h4 => ?_)
  refine lv_dup (va := .ref H.size) G.1.1 G.1.2.1 hd3 rfl ?_
  refine va_ldcS G.1.1 G.1.2.1 G.1.2.2.2.1 hq hd4 ?_
  intro T hT X
  have hat : ∀ a ∈ Jvm.Bundle.ownAtoms own i2 Xn names, a.before args s = true := by
    intro a ha
    rcases o7 a ha with z | z | z | z | z
    · exact G.2.1 _ z
    · rw [z]; exact zst_lays G.2.2.2.2.1
    · rw [z]; exact zst_lays G.2.2.2.2.2.1
    · rw [z]; exact zst_ref G.2.2.2.2.1
    · rw [z]; exact zst_ref G.2.2.2.2.2.1
  have htr : e.platform.stackTraces = false := Launch.traces_off hfl X.admits
  obtain ⟨U, hst, hrun, hend, hWU, hsame, ce, hce, hOC⟩ := X.ctorThrowS G.1.1 htr (own := own) (cls := Xn) (names := names) (ic := i2) G.1.2.2.2.1 o5 o6 hat (fun x hx => by cases hx) (a := H.size) h1 h2
    (by rw [hT, Array.getElem?_push_size]) hS.1 (msg := .ref q) rfl (g := F0 m (pc + 3 + 1 + 2) ls [.ref q, .ref H.size, .ref H.size]) rfl (hl.2.1.trans G.1.2.2.1.symm) rfl rfl (rest := []) rfl (by rw [G.1.2.1]; exact hd6) (by rw [G.1.2.1]; exact hd9) (by rw [hex]; intro _ h; cases h)
    hR.1 (by simp [Value.category, JFrame.monitorRoom]; have := hR.2; omega) (hlocks := G.1.2.2.2.2)
  subst hres
  obtain ⟨z1, z2⟩ := z_same hsame
  obtain ⟨-, y2⟩ := z_same (U := T) X.same
  refine ⟨U, hst, .threw H.size, hrun, hend, ⟨H.size, rfl, ⟨ce, hce, ?_, hOC.cls⟩, ⟨hP.1, ?_⟩, z1, fun q h1 _ => z2 q h1⟩, [], ⟨hWU, ?_⟩, fun q hq => by cases hq⟩
  · rw [hOC.vm]; rfl
  · refine hP.2.kept (fun k x hx => ?_)
    rw [zwi_get] at hx
    obtain ⟨e1, k1, k2⟩ := Option.map_eq_some_iff.mp hx
    subst k2
    have hk11 : k < 11 := by have := (List.getElem?_eq_some_iff.mp k1).1; rw [hP.1] at this; exact this
    have hlt : as (0 + k) < s.heap.size := by rw [Nat.zero_add]; exact hbd k hk11
    show U.heap[as (0 + k)]? = H[as (0 + k)]?
    rw [z2 _ hlt]
    have h5 := y2 _ hlt
    rw [hT, Array.getElem?_push, if_neg (Nat.ne_of_lt (Nat.lt_of_lt_of_le hlt hS.1))] at h5
    exact h5.symm
  · exact hsame
end ZX
