section
-- ===== PART A: goes FIRST, ahead of the names: the tables' words, and 'selects' of the private methods out of them =====
/-- a private method of a class that the tables say can be made, by its rows of tables_1 -/
def lw_okq (q : MethodName × Nat) : Prop := (q.1.cls ≠ "java/lang/invoke/MethodHandle" ∧ q.1.cls ≠ "java/lang/invoke/VarHandle") ∧ Cond.instantiable q.1.cls q.2 ∈ tables_1 ∧ Cond.privateMethod q.1 ∈ tables_1 ∧ Cond.instanceMethod q.1 ∈ tables_1
theorem lw_p0 : lw_okq (⟨"AsOfLedger", "linkBefore", "(I)J"⟩, 11) := ⟨⟨by decide +kernel, by decide +kernel⟩, List.mem_of_getElem? (i := 13) (by decide +kernel), List.mem_of_getElem? (i := 65) (by decide +kernel), List.mem_of_getElem? (i := 66) (by decide +kernel)⟩
theorem lw_p1 : lw_okq (⟨"AsOfLedger", "linkOfWords", "(I)J"⟩, 11) := ⟨⟨by decide +kernel, by decide +kernel⟩, List.mem_of_getElem? (i := 13) (by decide +kernel), List.mem_of_getElem? (i := 74) (by decide +kernel), List.mem_of_getElem? (i := 75) (by decide +kernel)⟩
theorem lw_p2 : lw_okq (⟨"AsOfLedger", "word", "(II)I"⟩, 11) := ⟨⟨by decide +kernel, by decide +kernel⟩, List.mem_of_getElem? (i := 13) (by decide +kernel), List.mem_of_getElem? (i := 79) (by decide +kernel), List.mem_of_getElem? (i := 80) (by decide +kernel)⟩
theorem lw_p3 : lw_okq (⟨"AsOfLedger", "isVersion", "(I)Z"⟩, 11) := ⟨⟨by decide +kernel, by decide +kernel⟩, List.mem_of_getElem? (i := 13) (by decide +kernel), List.mem_of_getElem? (i := 87) (by decide +kernel), List.mem_of_getElem? (i := 88) (by decide +kernel)⟩
theorem lw_p4 : lw_okq (⟨"AsOfLedger", "refuseIfTampered", "()V"⟩, 11) := ⟨⟨by decide +kernel, by decide +kernel⟩, List.mem_of_getElem? (i := 13) (by decide +kernel), List.mem_of_getElem? (i := 105) (by decide +kernel), List.mem_of_getElem? (i := 106) (by decide +kernel)⟩
theorem lw_p5 : lw_okq (⟨"java/lang/Throwable", "fillInStackTrace", "(I)Ljava/lang/Throwable;"⟩, 6) := ⟨⟨by decide +kernel, by decide +kernel⟩, List.mem_of_getElem? (i := 149) (by decide +kernel), List.mem_of_getElem? (i := 147) (by decide +kernel), List.mem_of_getElem? (i := 148) (by decide +kernel)⟩
theorem lw_p6 : lw_okq (⟨"AsOfLedger", "refuseIfFull", "()V"⟩, 11) := ⟨⟨by decide +kernel, by decide +kernel⟩, List.mem_of_getElem? (i := 13) (by decide +kernel), List.mem_of_getElem? (i := 204) (by decide +kernel), List.mem_of_getElem? (i := 205) (by decide +kernel)⟩
theorem lw_p7 : lw_okq (⟨"AsOfLedger", "refuseIfTurnoverTooHigh", "(III)V"⟩, 11) := ⟨⟨by decide +kernel, by decide +kernel⟩, List.mem_of_getElem? (i := 13) (by decide +kernel), List.mem_of_getElem? (i := 224) (by decide +kernel), List.mem_of_getElem? (i := 225) (by decide +kernel)⟩
theorem lw_p8 : lw_okq (⟨"AsOfLedger", "turnoverOf", "(I)I"⟩, 11) := ⟨⟨by decide +kernel, by decide +kernel⟩, List.mem_of_getElem? (i := 13) (by decide +kernel), List.mem_of_getElem? (i := 228) (by decide +kernel), List.mem_of_getElem? (i := 229) (by decide +kernel)⟩
theorem lw_p9 : lw_okq (⟨"AsOfLedger", "isCurrent", "(II)Z"⟩, 11) := ⟨⟨by decide +kernel, by decide +kernel⟩, List.mem_of_getElem? (i := 13) (by decide +kernel), List.mem_of_getElem? (i := 232) (by decide +kernel), List.mem_of_getElem? (i := 233) (by decide +kernel)⟩
theorem lw_p10 : lw_okq (⟨"AsOfLedger", "touches", "(II)Z"⟩, 11) := ⟨⟨by decide +kernel, by decide +kernel⟩, List.mem_of_getElem? (i := 13) (by decide +kernel), List.mem_of_getElem? (i := 236) (by decide +kernel), List.mem_of_getElem? (i := 237) (by decide +kernel)⟩
theorem lw_p11 : lw_okq (⟨"AsOfLedger", "append", "(IIIIII)I"⟩, 11) := ⟨⟨by decide +kernel, by decide +kernel⟩, List.mem_of_getElem? (i := 13) (by decide +kernel), List.mem_of_getElem? (i := 257) (by decide +kernel), List.mem_of_getElem? (i := 258) (by decide +kernel)⟩
theorem lw_p12 : lw_okq (⟨"AsOfLedger", "versionToReplace", "(I)I"⟩, 11) := ⟨⟨by decide +kernel, by decide +kernel⟩, List.mem_of_getElem? (i := 13) (by decide +kernel), List.mem_of_getElem? (i := 269) (by decide +kernel), List.mem_of_getElem? (i := 270) (by decide +kernel)⟩
theorem lw_p13 : lw_okq (⟨"AsOfLedger", "currentVersion", "(II)I"⟩, 11) := ⟨⟨by decide +kernel, by decide +kernel⟩, List.mem_of_getElem? (i := 13) (by decide +kernel), List.mem_of_getElem? (i := 273) (by decide +kernel), List.mem_of_getElem? (i := 274) (by decide +kernel)⟩
theorem lw_p14 : lw_okq (⟨"AsOfLedger", "replace", "(III)I"⟩, 11) := ⟨⟨by decide +kernel, by decide +kernel⟩, List.mem_of_getElem? (i := 13) (by decide +kernel), List.mem_of_getElem? (i := 293) (by decide +kernel), List.mem_of_getElem? (i := 294) (by decide +kernel)⟩
theorem lw_p15 : lw_okq (⟨"AsOfLedger", "isTime", "(I)Z"⟩, 11) := ⟨⟨by decide +kernel, by decide +kernel⟩, List.mem_of_getElem? (i := 13) (by decide +kernel), List.mem_of_getElem? (i := 311) (by decide +kernel), List.mem_of_getElem? (i := 312) (by decide +kernel)⟩
def lw_privs_1 : List (MethodName × Nat) := [(⟨"AsOfLedger", "linkBefore", "(I)J"⟩, 11), (⟨"AsOfLedger", "linkOfWords", "(I)J"⟩, 11), (⟨"AsOfLedger", "word", "(II)I"⟩, 11), (⟨"AsOfLedger", "isVersion", "(I)Z"⟩, 11), (⟨"AsOfLedger", "refuseIfTampered", "()V"⟩, 11), (⟨"java/lang/Throwable", "fillInStackTrace", "(I)Ljava/lang/Throwable;"⟩, 6), (⟨"AsOfLedger", "refuseIfFull", "()V"⟩, 11), (⟨"AsOfLedger", "refuseIfTurnoverTooHigh", "(III)V"⟩, 11), (⟨"AsOfLedger", "turnoverOf", "(I)I"⟩, 11), (⟨"AsOfLedger", "isCurrent", "(II)Z"⟩, 11), (⟨"AsOfLedger", "touches", "(II)Z"⟩, 11), (⟨"AsOfLedger", "append", "(IIIIII)I"⟩, 11), (⟨"AsOfLedger", "versionToReplace", "(I)I"⟩, 11), (⟨"AsOfLedger", "currentVersion", "(II)I"⟩, 11), (⟨"AsOfLedger", "replace", "(III)I"⟩, 11), (⟨"AsOfLedger", "isTime", "(I)Z"⟩, 11)]
theorem lw_r1 : ∀ q ∈ lw_privs_1, lw_okq q := List.forall_mem_cons.mpr ⟨lw_p0, List.forall_mem_cons.mpr ⟨lw_p1, List.forall_mem_cons.mpr ⟨lw_p2, List.forall_mem_cons.mpr ⟨lw_p3, List.forall_mem_cons.mpr ⟨lw_p4, List.forall_mem_cons.mpr ⟨lw_p5, List.forall_mem_cons.mpr ⟨lw_p6, List.forall_mem_cons.mpr ⟨lw_p7, List.forall_mem_cons.mpr ⟨lw_p8, List.forall_mem_cons.mpr ⟨lw_p9, List.forall_mem_cons.mpr ⟨lw_p10, List.forall_mem_cons.mpr ⟨lw_p11, List.forall_mem_cons.mpr ⟨lw_p12, List.forall_mem_cons.mpr ⟨lw_p13, List.forall_mem_cons.mpr ⟨lw_p14, List.forall_mem_cons.mpr ⟨lw_p15, fun _ h => absurd h List.not_mem_nil⟩⟩⟩⟩⟩⟩⟩⟩⟩⟩⟩⟩⟩⟩⟩⟩
theorem lw_p16 : lw_okq (⟨"AsOfLedger", "balanceOf", "(III)I"⟩, 11) := ⟨⟨by decide +kernel, by decide +kernel⟩, List.mem_of_getElem? (i := 13) (by decide +kernel), List.mem_of_getElem? (i := 315) (by decide +kernel), List.mem_of_getElem? (i := 316) (by decide +kernel)⟩
theorem lw_p17 : lw_okq (⟨"AsOfLedger", "movedBy", "(II)I"⟩, 11) := ⟨⟨by decide +kernel, by decide +kernel⟩, List.mem_of_getElem? (i := 13) (by decide +kernel), List.mem_of_getElem? (i := 319) (by decide +kernel), List.mem_of_getElem? (i := 320) (by decide +kernel)⟩
theorem lw_p18 : lw_okq (⟨"AsOfLedger", "insertIntoCursor", "(I)V"⟩, 11) := ⟨⟨by decide +kernel, by decide +kernel⟩, List.mem_of_getElem? (i := 13) (by decide +kernel), List.mem_of_getElem? (i := 344) (by decide +kernel), List.mem_of_getElem? (i := 345) (by decide +kernel)⟩
theorem lw_p19 : lw_okq (⟨"AsOfLedger", "comesBefore", "(II)Z"⟩, 11) := ⟨⟨by decide +kernel, by decide +kernel⟩, List.mem_of_getElem? (i := 13) (by decide +kernel), List.mem_of_getElem? (i := 348) (by decide +kernel), List.mem_of_getElem? (i := 349) (by decide +kernel)⟩
theorem lw_p20 : lw_okq (⟨"AsOfLedgerModel", "tooMuch", "(IJ)Z"⟩, 11) := ⟨⟨by decide +kernel, by decide +kernel⟩, List.mem_of_getElem? (i := 383) (by decide +kernel), List.mem_of_getElem? (i := 437) (by decide +kernel), List.mem_of_getElem? (i := 438) (by decide +kernel)⟩
theorem lw_p21 : lw_okq (⟨"AsOfLedgerModel", "turnoverNow", "(I)J"⟩, 11) := ⟨⟨by decide +kernel, by decide +kernel⟩, List.mem_of_getElem? (i := 383) (by decide +kernel), List.mem_of_getElem? (i := 441) (by decide +kernel), List.mem_of_getElem? (i := 442) (by decide +kernel)⟩
theorem lw_p22 : lw_okq (⟨"AsOfLedgerModel", "currentAt", "(II)I"⟩, 11) := ⟨⟨by decide +kernel, by decide +kernel⟩, List.mem_of_getElem? (i := 383) (by decide +kernel), List.mem_of_getElem? (i := 445) (by decide +kernel), List.mem_of_getElem? (i := 446) (by decide +kernel)⟩
theorem lw_p23 : lw_okq (⟨"AsOfLedgerModel", "word", "(II)I"⟩, 11) := ⟨⟨by decide +kernel, by decide +kernel⟩, List.mem_of_getElem? (i := 383) (by decide +kernel), List.mem_of_getElem? (i := 449) (by decide +kernel), List.mem_of_getElem? (i := 450) (by decide +kernel)⟩
theorem lw_p24 : lw_okq (⟨"AsOfLedgerModel", "add", "(IIIIII)I"⟩, 11) := ⟨⟨by decide +kernel, by decide +kernel⟩, List.mem_of_getElem? (i := 383) (by decide +kernel), List.mem_of_getElem? (i := 454) (by decide +kernel), List.mem_of_getElem? (i := 455) (by decide +kernel)⟩
theorem lw_p25 : lw_okq (⟨"AsOfLedgerModel", "write", "(II)V"⟩, 11) := ⟨⟨by decide +kernel, by decide +kernel⟩, List.mem_of_getElem? (i := 383) (by decide +kernel), List.mem_of_getElem? (i := 458) (by decide +kernel), List.mem_of_getElem? (i := 459) (by decide +kernel)⟩
theorem lw_p26 : lw_okq (⟨"AsOfLedgerModel", "linkBefore", "(I)J"⟩, 11) := ⟨⟨by decide +kernel, by decide +kernel⟩, List.mem_of_getElem? (i := 383) (by decide +kernel), List.mem_of_getElem? (i := 462) (by decide +kernel), List.mem_of_getElem? (i := 463) (by decide +kernel)⟩
theorem lw_p27 : lw_okq (⟨"AsOfLedgerModel", "linkOf", "(IJ)J"⟩, 11) := ⟨⟨by decide +kernel, by decide +kernel⟩, List.mem_of_getElem? (i := 383) (by decide +kernel), List.mem_of_getElem? (i := 467) (by decide +kernel), List.mem_of_getElem? (i := 468) (by decide +kernel)⟩
theorem lw_p28 : lw_okq (⟨"AsOfLedgerModel", "living", "(I)I"⟩, 11) := ⟨⟨by decide +kernel, by decide +kernel⟩, List.mem_of_getElem? (i := 383) (by decide +kernel), List.mem_of_getElem? (i := 479) (by decide +kernel), List.mem_of_getElem? (i := 480) (by decide +kernel)⟩
theorem lw_p29 : lw_okq (⟨"AsOfLedgerModel", "isTime", "(I)Z"⟩, 11) := ⟨⟨by decide +kernel, by decide +kernel⟩, List.mem_of_getElem? (i := 383) (by decide +kernel), List.mem_of_getElem? (i := 491) (by decide +kernel), List.mem_of_getElem? (i := 492) (by decide +kernel)⟩
theorem lw_p30 : lw_okq (⟨"AsOfLedgerModel", "balanceAt", "(III)I"⟩, 11) := ⟨⟨by decide +kernel, by decide +kernel⟩, List.mem_of_getElem? (i := 383) (by decide +kernel), List.mem_of_getElem? (i := 495) (by decide +kernel), List.mem_of_getElem? (i := 496) (by decide +kernel)⟩
theorem lw_p31 : lw_okq (⟨"AsOfLedgerModel", "belongs", "(II)Z"⟩, 11) := ⟨⟨by decide +kernel, by decide +kernel⟩, List.mem_of_getElem? (i := 383) (by decide +kernel), List.mem_of_getElem? (i := 511) (by decide +kernel), List.mem_of_getElem? (i := 512) (by decide +kernel)⟩
def lw_privs_2 : List (MethodName × Nat) := [(⟨"AsOfLedger", "balanceOf", "(III)I"⟩, 11), (⟨"AsOfLedger", "movedBy", "(II)I"⟩, 11), (⟨"AsOfLedger", "insertIntoCursor", "(I)V"⟩, 11), (⟨"AsOfLedger", "comesBefore", "(II)Z"⟩, 11), (⟨"AsOfLedgerModel", "tooMuch", "(IJ)Z"⟩, 11), (⟨"AsOfLedgerModel", "turnoverNow", "(I)J"⟩, 11), (⟨"AsOfLedgerModel", "currentAt", "(II)I"⟩, 11), (⟨"AsOfLedgerModel", "word", "(II)I"⟩, 11), (⟨"AsOfLedgerModel", "add", "(IIIIII)I"⟩, 11), (⟨"AsOfLedgerModel", "write", "(II)V"⟩, 11), (⟨"AsOfLedgerModel", "linkBefore", "(I)J"⟩, 11), (⟨"AsOfLedgerModel", "linkOf", "(IJ)J"⟩, 11), (⟨"AsOfLedgerModel", "living", "(I)I"⟩, 11), (⟨"AsOfLedgerModel", "isTime", "(I)Z"⟩, 11), (⟨"AsOfLedgerModel", "balanceAt", "(III)I"⟩, 11), (⟨"AsOfLedgerModel", "belongs", "(II)Z"⟩, 11)]
theorem lw_r2 : ∀ q ∈ lw_privs_2, lw_okq q := List.forall_mem_cons.mpr ⟨lw_p16, List.forall_mem_cons.mpr ⟨lw_p17, List.forall_mem_cons.mpr ⟨lw_p18, List.forall_mem_cons.mpr ⟨lw_p19, List.forall_mem_cons.mpr ⟨lw_p20, List.forall_mem_cons.mpr ⟨lw_p21, List.forall_mem_cons.mpr ⟨lw_p22, List.forall_mem_cons.mpr ⟨lw_p23, List.forall_mem_cons.mpr ⟨lw_p24, List.forall_mem_cons.mpr ⟨lw_p25, List.forall_mem_cons.mpr ⟨lw_p26, List.forall_mem_cons.mpr ⟨lw_p27, List.forall_mem_cons.mpr ⟨lw_p28, List.forall_mem_cons.mpr ⟨lw_p29, List.forall_mem_cons.mpr ⟨lw_p30, List.forall_mem_cons.mpr ⟨lw_p31, fun _ h => absurd h List.not_mem_nil⟩⟩⟩⟩⟩⟩⟩⟩⟩⟩⟩⟩⟩⟩⟩⟩
def lw_privs : List (MethodName × Nat) := lw_privs_1 ++ (lw_privs_2)
def lw_tbl : List Cond := k2_sels lw_privs ++ tables_1
theorem lw_privs_ok : ∀ q ∈ lw_privs, lw_okq q := by
  show ∀ q ∈ lw_privs_1 ++ (lw_privs_2), lw_okq q
  exact List.forall_mem_append.mpr ⟨lw_r1, lw_r2⟩
end
section
def TX : u_T := fun k => match k with
  | 0 => ("AsOfLedger", "words", "[I", true)
  | 1 => ("AsOfLedger", "links", "[J", true)
  | 2 => ("AsOfLedger", "replacedBy", "[I", true)
  | 3 => ("AsOfLedger", "versionCount", "I", false)
  | 4 => ("AsOfLedger", "entryCount", "I", false)
  | 5 => ("AsOfLedger", "tampered", "Z", false)
  | 6 => ("AsOfLedger", "cursorVersions", "[I", true)
  | 7 => ("AsOfLedger", "cursorSize", "I", false)
  | 8 => ("AsOfLedger", "cursorPlace", "I", false)
  | 9 => ("AsOfLedger", "cursorAccount", "I", false)
  | _ => ("AsOfLedger", "cursorLatest", "I", false)
def tX : Nat → FieldType := fun k => match k with
  | 0 => .array .int
  | 1 => .array .long
  | 2 => .array .int
  | 3 => .int
  | 4 => .int
  | 5 => .boolean
  | 6 => .array .int
  | 7 => .int
  | 8 => .int
  | 9 => .int
  | _ => .int
theorem tX_ok : ∀ k, k < 11 → parseFieldDescriptor (TX k).2.2.1 = some (tX k) := by decide +kernel
theorem nX_ok : ∀ a, a < 11 → ∀ b, b < 11 → a ≠ b → (TX a).2.1 ≠ (TX b).2.1 := by decide +kernel
def TM : u_T := fun k => match k with
  | 0 => ("AsOfLedgerModel", "code", "I", false)
  | 1 => ("AsOfLedgerModel", "touched", "Z", false)
  | 2 => ("AsOfLedgerModel", "clock", "I", false)
  | 3 => ("AsOfLedgerModel", "entries", "I", false)
  | 4 => ("AsOfLedgerModel", "words", "[I", true)
  | 5 => ("AsOfLedgerModel", "links", "[J", true)
  | 6 => ("AsOfLedgerModel", "count", "I", false)
  | 7 => ("AsOfLedgerModel", "at", "I", false)
  | 8 => ("AsOfLedgerModel", "answered", "Z", false)
  | 9 => ("AsOfLedgerModel", "list", "[I", true)
  | _ => ("AsOfLedgerModel", "puts", "[I", true)
def tM : Nat → FieldType := fun k => match k with
  | 0 => .int
  | 1 => .boolean
  | 2 => .int
  | 3 => .int
  | 4 => .array .int
  | 5 => .array .long
  | 6 => .int
  | 7 => .int
  | 8 => .boolean
  | 9 => .array .int
  | _ => .array .int
theorem tM_ok : ∀ k, k < 11 → parseFieldDescriptor (TM k).2.2.1 = some (tM k) := by decide +kernel
theorem nM_ok : ∀ a, a < 11 → ∀ b, b < 11 → a ≠ b → (TM a).2.1 ≠ (TM b).2.1 := by decide +kernel
abbrev vwCl : List vw_C := [("AsOfLedger", TX, 11), ("AsOfLedgerModel", TM, 11)]
def yX_init : MethodName := ⟨"AsOfLedger", "<init>", "()V"⟩
abbrev bX_init : ByteArray := prog_1_method_1_code
def yX_post : MethodName := ⟨"AsOfLedger", "post", "(IIII)I"⟩
abbrev bX_post : ByteArray := prog_1_method_2_code
def yX_correct : MethodName := ⟨"AsOfLedger", "correct", "(II)I"⟩
abbrev bX_correct : ByteArray := prog_1_method_3_code
def yX_annul : MethodName := ⟨"AsOfLedger", "annul", "(I)I"⟩
abbrev bX_annul : ByteArray := prog_1_method_4_code
def yX_balance : MethodName := ⟨"AsOfLedger", "balance", "(III)I"⟩
abbrev bX_balance : ByteArray := prog_1_method_5_code
def yX_trial : MethodName := ⟨"AsOfLedger", "trial", "(II)I"⟩
abbrev bX_trial : ByteArray := prog_1_method_6_code
def yX_turnover : MethodName := ⟨"AsOfLedger", "turnover", "(I)I"⟩
abbrev bX_turnover : ByteArray := prog_1_method_7_code
def yX_open : MethodName := ⟨"AsOfLedger", "open", "(IIII)I"⟩
abbrev bX_open : ByteArray := prog_1_method_8_code
def yX_next : MethodName := ⟨"AsOfLedger", "next", "()I"⟩
abbrev bX_next : ByteArray := prog_1_method_9_code
def yX_moved : MethodName := ⟨"AsOfLedger", "moved", "()I"⟩
abbrev bX_moved : ByteArray := prog_1_method_10_code
def yX_field : MethodName := ⟨"AsOfLedger", "field", "(III)I"⟩
abbrev bX_field : ByteArray := prog_1_method_11_code
def yX_entries : MethodName := ⟨"AsOfLedger", "entries", "()I"⟩
abbrev bX_entries : ByteArray := prog_1_method_12_code
def yX_clock : MethodName := ⟨"AsOfLedger", "clock", "()I"⟩
abbrev bX_clock : ByteArray := prog_1_method_13_code
def yX_head : MethodName := ⟨"AsOfLedger", "head", "()J"⟩
abbrev bX_head : ByteArray := prog_1_method_14_code
def yX_verify : MethodName := ⟨"AsOfLedger", "verify", "()I"⟩
abbrev bX_verify : ByteArray := prog_1_method_15_code
def yX_tamper : MethodName := ⟨"AsOfLedger", "tamper", "(III)Z"⟩
abbrev bX_tamper : ByteArray := prog_1_method_16_code
def yX_isAccount : MethodName := ⟨"AsOfLedger", "isAccount", "(I)Z"⟩
abbrev bX_isAccount : ByteArray := prog_1_method_17_code
def yX_isDay : MethodName := ⟨"AsOfLedger", "isDay", "(I)Z"⟩
abbrev bX_isDay : ByteArray := prog_1_method_18_code
def yX_isWord : MethodName := ⟨"AsOfLedger", "isWord", "(I)Z"⟩
abbrev bX_isWord : ByteArray := prog_1_method_19_code
def yX_isTime : MethodName := ⟨"AsOfLedger", "isTime", "(I)Z"⟩
abbrev bX_isTime : ByteArray := prog_1_method_20_code
def yX_isVersion : MethodName := ⟨"AsOfLedger", "isVersion", "(I)Z"⟩
abbrev bX_isVersion : ByteArray := prog_1_method_21_code
def yX_refuseIfTampered : MethodName := ⟨"AsOfLedger", "refuseIfTampered", "()V"⟩
abbrev bX_refuseIfTampered : ByteArray := prog_1_method_22_code
def yX_refuseArgumentsUnless : MethodName := ⟨"AsOfLedger", "refuseArgumentsUnless", "(Z)V"⟩
abbrev bX_refuseArgumentsUnless : ByteArray := prog_1_method_23_code
def yX_refuseIfFull : MethodName := ⟨"AsOfLedger", "refuseIfFull", "()V"⟩
abbrev bX_refuseIfFull : ByteArray := prog_1_method_24_code
def yX_refuseIfTurnoverTooHigh : MethodName := ⟨"AsOfLedger", "refuseIfTurnoverTooHigh", "(III)V"⟩
abbrev bX_refuseIfTurnoverTooHigh : ByteArray := prog_1_method_25_code
def yX_versionToReplace : MethodName := ⟨"AsOfLedger", "versionToReplace", "(I)I"⟩
abbrev bX_versionToReplace : ByteArray := prog_1_method_26_code
def yX_word : MethodName := ⟨"AsOfLedger", "word", "(II)I"⟩
abbrev bX_word : ByteArray := prog_1_method_27_code
def yX_isCurrent : MethodName := ⟨"AsOfLedger", "isCurrent", "(II)Z"⟩
abbrev bX_isCurrent : ByteArray := prog_1_method_28_code
def yX_touches : MethodName := ⟨"AsOfLedger", "touches", "(II)Z"⟩
abbrev bX_touches : ByteArray := prog_1_method_29_code
def yX_currentVersion : MethodName := ⟨"AsOfLedger", "currentVersion", "(II)I"⟩
abbrev bX_currentVersion : ByteArray := prog_1_method_30_code
def yX_movedBy : MethodName := ⟨"AsOfLedger", "movedBy", "(II)I"⟩
abbrev bX_movedBy : ByteArray := prog_1_method_31_code
def yX_balanceOf : MethodName := ⟨"AsOfLedger", "balanceOf", "(III)I"⟩
abbrev bX_balanceOf : ByteArray := prog_1_method_32_code
def yX_turnoverOf : MethodName := ⟨"AsOfLedger", "turnoverOf", "(I)I"⟩
abbrev bX_turnoverOf : ByteArray := prog_1_method_33_code
def yX_append : MethodName := ⟨"AsOfLedger", "append", "(IIIIII)I"⟩
abbrev bX_append : ByteArray := prog_1_method_34_code
def yX_replace : MethodName := ⟨"AsOfLedger", "replace", "(III)I"⟩
abbrev bX_replace : ByteArray := prog_1_method_35_code
def yX_linkBefore : MethodName := ⟨"AsOfLedger", "linkBefore", "(I)J"⟩
abbrev bX_linkBefore : ByteArray := prog_1_method_36_code
def yX_linkOfWords : MethodName := ⟨"AsOfLedger", "linkOfWords", "(I)J"⟩
abbrev bX_linkOfWords : ByteArray := prog_1_method_37_code
def yX_insertIntoCursor : MethodName := ⟨"AsOfLedger", "insertIntoCursor", "(I)V"⟩
abbrev bX_insertIntoCursor : ByteArray := prog_1_method_38_code
def yX_comesBefore : MethodName := ⟨"AsOfLedger", "comesBefore", "(II)Z"⟩
abbrev bX_comesBefore : ByteArray := prog_1_method_39_code
def yM_init : MethodName := ⟨"AsOfLedgerModel", "<init>", "()V"⟩
abbrev bM_init : ByteArray := prog_3_method_1_code
def yM_thrown : MethodName := ⟨"AsOfLedgerModel", "thrown", "()I"⟩
abbrev bM_thrown : ByteArray := prog_3_method_2_code
def yM_isAccount : MethodName := ⟨"AsOfLedgerModel", "isAccount", "(I)Z"⟩
abbrev bM_isAccount : ByteArray := prog_3_method_3_code
def yM_isDay : MethodName := ⟨"AsOfLedgerModel", "isDay", "(I)Z"⟩
abbrev bM_isDay : ByteArray := prog_3_method_4_code
def yM_isTime : MethodName := ⟨"AsOfLedgerModel", "isTime", "(I)Z"⟩
abbrev bM_isTime : ByteArray := prog_3_method_5_code
def yM_word : MethodName := ⟨"AsOfLedgerModel", "word", "(II)I"⟩
abbrev bM_word : ByteArray := prog_3_method_6_code
def yM_currentAt : MethodName := ⟨"AsOfLedgerModel", "currentAt", "(II)I"⟩
abbrev bM_currentAt : ByteArray := prog_3_method_7_code
def yM_follow : MethodName := ⟨"AsOfLedgerModel", "follow", "(JI)J"⟩
abbrev bM_follow : ByteArray := prog_3_method_8_code
def yM_linkOf : MethodName := ⟨"AsOfLedgerModel", "linkOf", "(IJ)J"⟩
abbrev bM_linkOf : ByteArray := prog_3_method_9_code
def yM_linkBefore : MethodName := ⟨"AsOfLedgerModel", "linkBefore", "(I)J"⟩
abbrev bM_linkBefore : ByteArray := prog_3_method_10_code
def yM_turnoverNow : MethodName := ⟨"AsOfLedgerModel", "turnoverNow", "(I)J"⟩
abbrev bM_turnoverNow : ByteArray := prog_3_method_11_code
def yM_tooMuch : MethodName := ⟨"AsOfLedgerModel", "tooMuch", "(IJ)Z"⟩
abbrev bM_tooMuch : ByteArray := prog_3_method_12_code
def yM_write : MethodName := ⟨"AsOfLedgerModel", "write", "(II)V"⟩
abbrev bM_write : ByteArray := prog_3_method_13_code
def yM_add : MethodName := ⟨"AsOfLedgerModel", "add", "(IIIIII)I"⟩
abbrev bM_add : ByteArray := prog_3_method_14_code
def yM_post : MethodName := ⟨"AsOfLedgerModel", "post", "(IIII)I"⟩
abbrev bM_post : ByteArray := prog_3_method_15_code
def yM_living : MethodName := ⟨"AsOfLedgerModel", "living", "(I)I"⟩
abbrev bM_living : ByteArray := prog_3_method_16_code
def yM_correct : MethodName := ⟨"AsOfLedgerModel", "correct", "(II)I"⟩
abbrev bM_correct : ByteArray := prog_3_method_17_code
def yM_annul : MethodName := ⟨"AsOfLedgerModel", "annul", "(I)I"⟩
abbrev bM_annul : ByteArray := prog_3_method_18_code
def yM_balanceAt : MethodName := ⟨"AsOfLedgerModel", "balanceAt", "(III)I"⟩
abbrev bM_balanceAt : ByteArray := prog_3_method_19_code
def yM_balance : MethodName := ⟨"AsOfLedgerModel", "balance", "(III)I"⟩
abbrev bM_balance : ByteArray := prog_3_method_20_code
def yM_trial : MethodName := ⟨"AsOfLedgerModel", "trial", "(II)I"⟩
abbrev bM_trial : ByteArray := prog_3_method_21_code
def yM_turnover : MethodName := ⟨"AsOfLedgerModel", "turnover", "(I)I"⟩
abbrev bM_turnover : ByteArray := prog_3_method_22_code
def yM_belongs : MethodName := ⟨"AsOfLedgerModel", "belongs", "(II)Z"⟩
abbrev bM_belongs : ByteArray := prog_3_method_23_code
def yM_open : MethodName := ⟨"AsOfLedgerModel", "open", "(IIII)I"⟩
abbrev bM_open : ByteArray := prog_3_method_24_code
def yM_next : MethodName := ⟨"AsOfLedgerModel", "next", "()I"⟩
abbrev bM_next : ByteArray := prog_3_method_25_code
def yM_moved : MethodName := ⟨"AsOfLedgerModel", "moved", "()I"⟩
abbrev bM_moved : ByteArray := prog_3_method_26_code
def yM_field : MethodName := ⟨"AsOfLedgerModel", "field", "(III)I"⟩
abbrev bM_field : ByteArray := prog_3_method_27_code
def yM_entries : MethodName := ⟨"AsOfLedgerModel", "entries", "()I"⟩
abbrev bM_entries : ByteArray := prog_3_method_28_code
def yM_clock : MethodName := ⟨"AsOfLedgerModel", "clock", "()I"⟩
abbrev bM_clock : ByteArray := prog_3_method_29_code
def yM_head : MethodName := ⟨"AsOfLedgerModel", "head", "()J"⟩
abbrev bM_head : ByteArray := prog_3_method_30_code
def yM_verify : MethodName := ⟨"AsOfLedgerModel", "verify", "()I"⟩
abbrev bM_verify : ByteArray := prog_3_method_31_code
def yM_tamper : MethodName := ⟨"AsOfLedgerModel", "tamper", "(III)Z"⟩
abbrev bM_tamper : ByteArray := prog_3_method_32_code
def yI_compare : MethodName := ⟨"java/lang/Integer", "compare", "(II)I"⟩
abbrev bI_compare : ByteArray := prog_8_method_40_code
def yL_post : MethodName := ⟨"AsOfLedgerLaw", "post", "(LAsOfLedger;IIII[J)I"⟩
abbrev bL_post : ByteArray := method_3_code
def yL_correct : MethodName := ⟨"AsOfLedgerLaw", "correct", "(LAsOfLedger;II[J)I"⟩
abbrev bL_correct : ByteArray := method_4_code
def yL_annul : MethodName := ⟨"AsOfLedgerLaw", "annul", "(LAsOfLedger;I[J)I"⟩
abbrev bL_annul : ByteArray := method_5_code
def yL_balance : MethodName := ⟨"AsOfLedgerLaw", "balance", "(LAsOfLedger;III[J)I"⟩
abbrev bL_balance : ByteArray := method_6_code
def yL_trial : MethodName := ⟨"AsOfLedgerLaw", "trial", "(LAsOfLedger;II[J)I"⟩
abbrev bL_trial : ByteArray := method_7_code
def yL_turnover : MethodName := ⟨"AsOfLedgerLaw", "turnover", "(LAsOfLedger;I[J)I"⟩
abbrev bL_turnover : ByteArray := method_8_code
def yL_open : MethodName := ⟨"AsOfLedgerLaw", "open", "(LAsOfLedger;IIII[J)I"⟩
abbrev bL_open : ByteArray := method_9_code
def yL_next : MethodName := ⟨"AsOfLedgerLaw", "next", "(LAsOfLedger;[J)I"⟩
abbrev bL_next : ByteArray := method_10_code
def yL_moved : MethodName := ⟨"AsOfLedgerLaw", "moved", "(LAsOfLedger;[J)I"⟩
abbrev bL_moved : ByteArray := method_11_code
def yL_field : MethodName := ⟨"AsOfLedgerLaw", "field", "(LAsOfLedger;III[J)I"⟩
abbrev bL_field : ByteArray := method_12_code
def yL_entries : MethodName := ⟨"AsOfLedgerLaw", "entries", "(LAsOfLedger;[J)I"⟩
abbrev bL_entries : ByteArray := method_13_code
def yL_law : MethodName := ⟨"AsOfLedgerLaw", "law", "([I)Z"⟩
abbrev bL_law : ByteArray := code
end
section
/-! Sums over versions and over entries; the last version of an entry; sorted lists. Pure rows. -/
def mS (g : Nat → Int) : Nat → Int
  | 0 => 0
  | n + 1 => mS g n + g n
theorem mS_congr {g h : Nat → Int} : ∀ n : Nat, (∀ k, k < n → g k = h k) → mS g n = mS h n
  | 0, _ => rfl
  | n + 1, H => by
    show mS g n + g n = mS h n + h n
    rw [mS_congr n (fun k hk => H k (Nat.lt_succ_of_lt hk)), H n (Nat.lt_succ_self n)]
theorem mS_zero : ∀ n : Nat, mS (fun _ => 0) n = 0
  | 0 => rfl
  | n + 1 => by
    show mS (fun _ => 0) n + 0 = 0
    rw [mS_zero n]; rfl
theorem mS_add (g h : Nat → Int) : ∀ n : Nat, mS (fun k => g k + h k) n = mS g n + mS h n
  | 0 => rfl
  | n + 1 => by
    show mS (fun k => g k + h k) n + (g n + h n) = (mS g n + g n) + (mS h n + h n)
    rw [mS_add g h n]; omega
theorem mS_sub (g h : Nat → Int) : ∀ n : Nat, mS (fun k => g k - h k) n = mS g n - mS h n
  | 0 => rfl
  | n + 1 => by
    show mS (fun k => g k - h k) n + (g n - h n) = (mS g n + g n) - (mS h n + h n)
    rw [mS_sub g h n]; omega
theorem mS_none {h : Nat → Int} {v : Nat} (n : Nat) (hv : n ≤ v) : mS (fun k => if v = k then h k else 0) n = 0 := by
  refine (mS_congr n fun k hk => ?_).trans (mS_zero n)
  rw [if_neg (by omega)]
theorem mS_one {h : Nat → Int} {v : Nat} : ∀ n : Nat, v < n → mS (fun k => if v = k then h k else 0) n = h v
  | 0, hv => absurd hv (Nat.not_lt_zero v)
  | n + 1, hv => by
    show mS (fun k => if v = k then h k else 0) n + (if v = n then h n else 0) = h v
    by_cases e : v = n
    · subst e
      rw [if_pos rfl, mS_none v (Nat.le_refl v)]; omega
    · rw [if_neg e, mS_one n (by omega)]; omega
theorem mS_nonneg {g : Nat → Int} : ∀ n : Nat, (∀ k, k < n → 0 ≤ g k) → 0 ≤ mS g n
  | 0, _ => Int.le_refl 0
  | n + 1, H => by
    have h1 := mS_nonneg n (fun k hk => H k (Nat.lt_succ_of_lt hk))
    have h2 := H n (Nat.lt_succ_self n)
    show 0 ≤ mS g n + g n
    omega
theorem mS_le {g : Nat → Int} {b : Int} : ∀ n : Nat, (∀ k, k < n → g k ≤ b) → mS g n ≤ n * b
  | 0, _ => by show (0 : Int) ≤ (0 : Nat) * b; simp
  | n + 1, H => by
    have h1 := mS_le n (fun k hk => H k (Nat.lt_succ_of_lt hk))
    have h2 := H n (Nat.lt_succ_self n)
    show mS g n + g n ≤ ((n + 1 : Nat) : Int) * b
    rw [show ((n + 1 : Nat) : Int) * b = n * b + b by rw [Int.natCast_add, Int.add_mul]; simp]
    omega
/-- the last place below t that holds x -/
def mL (f : Nat → Int32) (x : Int32) : Nat → Option Nat
  | 0 => none
  | t + 1 => if f t = x then some t else mL f x t
theorem mL_s (f : Nat → Int32) (x : Int32) (t : Nat) : mL f x (t + 1) = if f t = x then some t else mL f x t := rfl
theorem mL_lt {f : Nat → Int32} {x : Int32} {v : Nat} : ∀ t : Nat, mL f x t = some v → v < t ∧ f v = x
  | 0, h => by cases h
  | t + 1, h => by
    rw [mL_s] at h
    by_cases e : f t = x
    · rw [if_pos e] at h
      cases h
      exact ⟨Nat.lt_succ_self _, e⟩
    · rw [if_neg e] at h
      have := mL_lt t h
      exact ⟨Nat.lt_succ_of_lt this.1, this.2⟩
theorem mL_none {f : Nat → Int32} {x : Int32} : ∀ t : Nat, mL f x t = none → ∀ v, v < t → f v ≠ x
  | 0, _, v, hv => absurd hv (Nat.not_lt_zero v)
  | t + 1, h, v, hv => by
    rw [mL_s] at h
    by_cases e : f t = x
    · rw [if_pos e] at h; cases h
    · rw [if_neg e] at h
      by_cases hvt : v = t
      · subst hvt; exact e
      · exact mL_none t h v (by omega)
theorem mL_last {f : Nat → Int32} {x : Int32} {v : Nat} : ∀ t : Nat, mL f x t = some v → ∀ u, v < u → u < t → f u ≠ x
  | 0, h, _, _, _ => by cases h
  | t + 1, h, u, h1, h2 => by
    rw [mL_s] at h
    by_cases e : f t = x
    · rw [if_pos e] at h
      cases h
      omega
    · rw [if_neg e] at h
      by_cases hut : u = t
      · subst hut; exact e
      · exact mL_last t h u h1 (by omega)
theorem mL_of {f : Nat → Int32} {x : Int32} {v : Nat} : ∀ t : Nat, v < t → f v = x → (∀ u, v < u → u < t → f u ≠ x) → mL f x t = some v
  | 0, h, _, _ => absurd h (Nat.not_lt_zero v)
  | t + 1, h, hv, hu => by
    rw [mL_s]
    by_cases e : v = t
    · subst e; rw [if_pos hv]
    · rw [if_neg (hu t (by omega) (Nat.lt_succ_self t))]
      exact mL_of t (by omega) hv (fun u h1 h2 => hu u h1 (by omega))
theorem mL_some {f : Nat → Int32} {x : Int32} {v t : Nat} (h : v < t) (hv : f v = x) : ∃ u, mL f x t = some u := by
  cases e : mL f x t with
  | none => exact absurd hv (mL_none t e v h)
  | some u => exact ⟨u, rfl⟩
theorem mL_congr {f g : Nat → Int32} {x : Int32} : ∀ t : Nat, (∀ v, v < t → f v = g v) → mL f x t = mL g x t
  | 0, _ => rfl
  | t + 1, h => by
    rw [mL_s, mL_s, h t (Nat.lt_succ_self t), mL_congr t (fun v hv => h v (Nat.lt_succ_of_lt hv))]
def mV (h : Nat → Int) : Option Nat → Int
  | none => 0
  | some v => h v
theorem mV_sum (h : Nat → Int) (t : Nat) : ∀ o : Option Nat, (∀ v, o = some v → v < t) → mS (fun v => if o = some v then h v else 0) t = mV h o
  | none, _ => by
    show mS (fun v => if (none : Option Nat) = some v then h v else 0) t = 0
    refine (mS_congr t fun k _ => ?_).trans (mS_zero t)
    rw [if_neg (by intro q; cases q)]
  | some u, H => by
    show mS (fun v => if some u = some v then h v else 0) t = h u
    rw [← mS_one (h := h) t (H u rfl)]
    refine mS_congr t fun k _ => ?_
    by_cases e : u = k
    · rw [if_pos e, if_pos (by rw [e])]
    · rw [if_neg e, if_neg (by intro q; exact e (Option.some.inj q))]
/-- a sum over the versions that are the last of their entries is a sum over the entries -/
theorem m_swap (f : Nat → Int32) (h : Nat → Int) (e : Nat) (he : e < 2 ^ 31) : ∀ t : Nat, (∀ v, v < t → ∃ j, j < e ∧ f v = nI j) →
    mS (fun v => if mL f (f v) t = some v then h v else 0) t = mS (fun j => mV h (mL f (nI j) t)) e
  | 0, _ => by
    show (0 : Int) = mS (fun j => mV h (mL f (nI j) 0)) e
    rw [← mS_zero e]
    exact mS_congr e fun k _ => rfl
  | t + 1, H => by
    have ih := m_swap f h e he t (fun v hv => H v (Nat.lt_succ_of_lt hv))
    obtain ⟨j0, hj0, hf0⟩ := H t (Nat.lt_succ_self t)
    have e1 : mS (fun v => if mL f (f v) (t + 1) = some v then h v else 0) (t + 1) = mS (fun v => if mL f (f v) (t + 1) = some v then h v else 0) t + h t := by
      show mS _ t + (if mL f (f t) (t + 1) = some t then h t else 0) = _
      rw [if_pos (by rw [mL_s, if_pos rfl])]
    have e2 : mS (fun v => if mL f (f v) (t + 1) = some v then h v else 0) t = mS (fun v => if mL f (f v) t = some v then h v else 0) t - mV h (mL f (f t) t) := by
      rw [← mV_sum h t (mL f (f t) t) (fun v hv => (mL_lt t hv).1), ← mS_sub]
      refine mS_congr t fun v hv => ?_
      rw [mL_s]
      by_cases q : f t = f v
      · rw [if_pos q, if_neg (by intro z; have := Option.some.inj z; omega), q]
        omega
      · rw [if_neg q, if_neg (c := mL f (f t) t = some v) (by intro z; exact q (mL_lt t z).2.symm)]
        omega
    have e3 : mS (fun j => mV h (mL f (nI j) (t + 1))) e = mS (fun j => mV h (mL f (nI j) t)) e + (h t - mV h (mL f (f t) t)) := by
      rw [hf0, ← mS_one (h := fun j => h t - mV h (mL f (nI j) t)) (v := j0) e hj0, ← mS_add]
      refine mS_congr e fun j hj => ?_
      rw [mL_s]
      by_cases q : j0 = j
      · subst q
        rw [if_pos hf0, if_pos rfl]
        show h t = _
        omega
      · rw [if_neg (by rw [hf0]; intro z; exact q ((nI_eq (by omega) (by omega)).mp z)), if_neg q]
        omega
    rw [e1, e2, e3, ih]
    omega
/-- two strictly sorted lists with the same members are one list -/
theorem m_sorted {lt : Nat → Nat → Prop} (irr : ∀ a, ¬ lt a a) (tr : ∀ a b c, lt a b → lt b c → lt a c) : ∀ l1 l2 : List Nat, l1.Pairwise lt → l2.Pairwise lt → (∀ x, x ∈ l1 ↔ x ∈ l2) → l1 = l2
  | [], [], _, _, _ => rfl
  | [], b :: l2, _, _, H => absurd ((H b).mpr List.mem_cons_self) List.not_mem_nil
  | a :: l1, [], _, _, H => absurd ((H a).mp List.mem_cons_self) List.not_mem_nil
  | a :: l1, b :: l2, h1, h2, H => by
    obtain ⟨a1, a2⟩ := List.pairwise_cons.mp h1
    obtain ⟨b1, b2⟩ := List.pairwise_cons.mp h2
    have hab : a = b := by
      rcases List.mem_cons.mp ((H a).mp List.mem_cons_self) with q | q
      · exact q
      · rcases List.mem_cons.mp ((H b).mpr List.mem_cons_self) with z | z
        · exact z.symm
        · exact absurd (tr _ _ _ (a1 b z) (b1 a q)) (irr a)
    subst hab
    rw [m_sorted irr tr l1 l2 a2 b2 (fun x => ⟨fun hx => ?_, fun hx => ?_⟩)]
    · rcases List.mem_cons.mp ((H x).mp (List.mem_cons_of_mem _ hx)) with q | q
      · subst q; exact absurd (a1 x hx) (irr x)
      · exact q
    · rcases List.mem_cons.mp ((H x).mpr (List.mem_cons_of_mem _ hx)) with q | q
      · subst q; exact absurd (b1 x hx) (irr x)
      · exact q
end
section
/-! What the methods answer, as functions of the words: shared by the class and by the reference. -/
def fE (wd : Nat → Int32) : Nat → Int32 := fun v => wd (6 * v + 1)
def sLast (wd : Nat → Int32) (en : Int32) (t : Nat) : Option Nat := mL (fE wd) en t
def sCv : Option Nat → Int32
  | none => -1
  | some v => nI v
def sAcc (a : Int32) : Int32 := if a < 0 then 0 else if 16 ≤ a then 0 else 1
def sDay (a : Int32) : Int32 := if a < 0 then 0 else if 1000 ≤ a then 0 else 1
def sWrd (a : Int32) : Int32 := if a < 0 then 0 else if 6 ≤ a then 0 else 1
def sTime (n t : Int32) : Int32 := if t < 0 then 0 else if n < t then 0 else 1
def sVer (n v : Int32) : Int32 := if v < 0 then 0 else if n ≤ v then 0 else 1
def sCur (rp : Nat → Int32) (v : Nat) (t : Int32) : Int32 := if t ≤ nI v then 0 else if rp v < t then 0 else 1
def sTouch (wd : Nat → Int32) (v : Nat) (a : Int32) : Int32 := if wd (6 * v + 2) = a then 1 else if wd (6 * v + 3) = a then 1 else 0
def sMoved (wd : Nat → Int32) (v : Nat) (a : Int32) : Int32 := if wd (6 * v + 2) = a then wd (6 * v + 4) else if wd (6 * v + 3) = a then -wd (6 * v + 4) else 0
def cBal (wd rp : Nat → Int32) (a d t : Int32) : Nat → Int32
  | 0 => 0
  | v + 1 => if sCur rp v t = 0 then cBal wd rp a d t v else if d < wd (6 * v + 5) then cBal wd rp a d t v else cBal wd rp a d t v + sMoved wd v a
def cTurn (wd rp : Nat → Int32) (a t : Int32) : Nat → Int32
  | 0 => 0
  | v + 1 => if sCur rp v t = 0 then cTurn wd rp a t v else if sTouch wd v a = 0 then cTurn wd rp a t v else cTurn wd rp a t v + wd (6 * v + 4)
def cTrial (wd rp : Nat → Int32) (d : Int32) (t : Nat) : Nat → Int32
  | 0 => 0
  | k + 1 => cTrial wd rp d t k + cBal wd rp (nI k) d (nI t) t
def mBal (wd : Nat → Int32) (a d : Int32) (t : Nat) : Nat → Int32
  | 0 => 0
  | j + 1 => match sLast wd (nI j) t with
    | none => mBal wd a d t j
    | some v => if d < wd (6 * v + 5) then mBal wd a d t j else if wd (6 * v + 2) = a then mBal wd a d t j + wd (6 * v + 4) else if wd (6 * v + 3) = a then mBal wd a d t j - wd (6 * v + 4) else mBal wd a d t j
def mTurn (wd : Nat → Int32) (a : Int32) (n : Nat) : Nat → Int64
  | 0 => 0
  | j + 1 => match sLast wd (nI j) n with
    | none => mTurn wd a n j
    | some v => if sTouch wd v a = 0 then mTurn wd a n j else mTurn wd a n j + (wd (6 * v + 4)).toInt64
def mTrial (wd : Nat → Int32) (d : Int32) (t e : Nat) : Nat → Int32
  | 0 => 0
  | k + 1 => mTrial wd d t e k + mBal wd (nI k) d t e
def sUsr (h : Int64) : Int64 := (h.toUInt64 >>> ((27 : Int32).toInt64.toUInt64 &&& Int64.toUInt64 63)).toInt64
def sFol (h : Int64) (x : Int32) : Int64 := (h ^^^ sUsr h) * 2685821657736338717 + x.toInt64
def sLnk (wd : Nat → Int32) (v : Nat) (h : Int64) : Nat → Int64
  | 0 => h
  | k + 1 => sFol (sLnk wd v h k) (wd (6 * v + k))
def sBef (lk : Nat → Int64) : Nat → Int64
  | 0 => 1469598103
  | v + 1 => lk v
/-- the words of version n -/
def wApp (wd : Nat → Int32) (n : Nat) (k e d c a y : Int32) : Nat → Int32 := upd (upd (upd (upd (upd (upd wd (6 * n + 0) k) (6 * n + 1) e) (6 * n + 2) d) (6 * n + 3) c) (6 * n + 4) a) (6 * n + 5) y
def kApp (wd : Nat → Int32) (lk : Nat → Int64) (n : Nat) : Nat → Int64 := vp_updL lk n (sLnk wd n (sBef lk n) 6)
/-- the first version, from v on, whose link isn't its words' -/
def sVfy (wd : Nat → Int32) (lk : Nat → Int64) (v : Nat) : Nat → Int32
  | 0 => 0
  | k + 1 => if sLnk wd v (sBef lk v) 6 = lk v then sVfy wd lk (v + 1) k else nI v + 1
theorem wApp_old {wd : Nat → Int32} {n : Nat} {k e d c a y : Int32} {i : Nat} (h : i < 6 * n) : wApp wd n k e d c a y i = wd i := by
  unfold wApp upd
  rw [if_neg (by omega), if_neg (by omega), if_neg (by omega), if_neg (by omega), if_neg (by omega), if_neg (by omega)]
theorem wApp_0 {wd : Nat → Int32} {n : Nat} {k e d c a y : Int32} : wApp wd n k e d c a y (6 * n + 0) = k := by
  unfold wApp upd
  rw [if_neg (by omega), if_neg (by omega), if_neg (by omega), if_neg (by omega), if_neg (by omega), if_pos rfl]
theorem wApp_1 {wd : Nat → Int32} {n : Nat} {k e d c a y : Int32} : wApp wd n k e d c a y (6 * n + 1) = e := by
  unfold wApp upd
  rw [if_neg (by omega), if_neg (by omega), if_neg (by omega), if_neg (by omega), if_pos rfl]
theorem wApp_2 {wd : Nat → Int32} {n : Nat} {k e d c a y : Int32} : wApp wd n k e d c a y (6 * n + 2) = d := by
  unfold wApp upd
  rw [if_neg (by omega), if_neg (by omega), if_neg (by omega), if_pos rfl]
theorem wApp_3 {wd : Nat → Int32} {n : Nat} {k e d c a y : Int32} : wApp wd n k e d c a y (6 * n + 3) = c := by
  unfold wApp upd
  rw [if_neg (by omega), if_neg (by omega), if_pos rfl]
theorem wApp_4 {wd : Nat → Int32} {n : Nat} {k e d c a y : Int32} : wApp wd n k e d c a y (6 * n + 4) = a := by
  unfold wApp upd
  rw [if_neg (by omega), if_pos rfl]
theorem wApp_5 {wd : Nat → Int32} {n : Nat} {k e d c a y : Int32} : wApp wd n k e d c a y (6 * n + 5) = y := by
  unfold wApp upd
  rw [if_pos rfl]
end
section
/-! The Z layer: the machine at an abstract state: pc, locals (a list, none: not known), operand stack, world (eleven cells, told by their places).
A reference is the place of its cell; as: where the cells lie. -/
def zv (as : Nat → Nat) : Value → Value
  | .ref k => .ref (as k)
  | v => v
theorem zv_cat (as : Nat → Nat) (v : Value) : (zv as v).category = v.category := by cases v <;> rfl
abbrev zE : Type := (Nat × ((Nat → Int32) ⊕ (Nat → Int64))) ⊕ (Nat × List Value)
abbrev zW : Type := List zE
def zce (cI cJ : ClassId) (as : Nat → Nat) : zE → va_E
  | .inl (n, .inl f) => .inl (cI, n, .inl f)
  | .inl (n, .inr f) => .inl (cJ, n, .inr (.inl f))
  | .inr (ci, fs) => .inr (ci, fs.map (zv as))
def zwi (cI cJ : ClassId) (as : Nat → Nat) : Nat → zW → va_W
  | _, [] => []
  | i, e :: r => (as i, zce cI cJ as e) :: zwi cI cJ as (i + 1) r
theorem zwi_get (cI cJ : ClassId) (as : Nat → Nat) : ∀ (w : zW) (i j : Nat), (zwi cI cJ as i w)[j]? = (w[j]?).map (fun e => (as (i + j), zce cI cJ as e))
  | [], _, _ => by simp [zwi]
  | e :: r, i, 0 => by simp [zwi]
  | e :: r, i, j + 1 => by
    show (zwi cI cJ as (i + 1) r)[j]? = _
    rw [zwi_get cI cJ as r (i + 1) j, show i + (j + 1) = i + 1 + j by omega]
    rfl
theorem zwi_set (cI cJ : ClassId) (as : Nat → Nat) : ∀ (w : zW) (i j : Nat) (e : zE), (zwi cI cJ as i w).set j (as (i + j), zce cI cJ as e) = zwi cI cJ as i (w.set j e)
  | [], _, _, _ => rfl
  | e :: r, i, 0, x => rfl
  | e :: r, i, j + 1, x => by
    show (as i, zce cI cJ as e) :: (zwi cI cJ as (i + 1) r).set j (as (i + (j + 1)), zce cI cJ as x) = (as i, zce cI cJ as e) :: zwi cI cJ as (i + 1) (r.set j x)
    rw [show i + (j + 1) = i + 1 + j by omega, zwi_set cI cJ as r (i + 1) j x]
def zH (D : va_G) (cI cJ : ClassId) (as : Nat → Nat) (w : zW) (H : Heap) : Prop := w.length = 11 ∧ va_P D vwCl (zwi cI cJ as 0 w) H
def zinj (as : Nat → Nat) : Prop := ∀ i j : Nat, i < 11 → j < 11 → as i = as j → i = j
def zA (as : Nat → Nat) (sz : Nat) : Nat → Prop := fun q => (∃ k, k < 11 ∧ q = as k) ∨ sz ≤ q
theorem zat {cI cJ : ClassId} {as : Nat → Nat} {w : zW} {k : Nat} {e : zE} (h : w[k]? = some e) : (zwi cI cJ as 0 w)[k]? = some (as k, zce cI cJ as e) := by
  rw [zwi_get, h, Nat.zero_add]; rfl
theorem zset {cI cJ : ClassId} {as : Nat → Nat} {w : zW} {k : Nat} {e : zE} : (zwi cI cJ as 0 w).set k (as k, zce cI cJ as e) = zwi cI cJ as 0 (w.set k e) := by
  have h := zwi_set cI cJ as w 0 k e
  rwa [Nat.zero_add] at h
theorem zD {cI cJ : ClassId} {as : Nat → Nat} {w : zW} {sz : Nat} (h : zinj as) (hl : w.length = 11) : va_D (zA as sz) (zwi cI cJ as 0 w) := by
  refine ⟨fun i j x y hi hj hxy => ?_, fun k q hk => ?_⟩
  · rw [zwi_get] at hi hj
    obtain ⟨e1, h1, h2⟩ := Option.map_eq_some_iff.mp hi
    obtain ⟨e2, h3, h4⟩ := Option.map_eq_some_iff.mp hj
    subst h2
    subst h4
    have l1 := (List.getElem?_eq_some_iff.mp h1).1
    have l2 := (List.getElem?_eq_some_iff.mp h3).1
    exact h i j (by omega) (by omega) (by simpa using hxy)
  · rw [zwi_get] at hk
    obtain ⟨e1, h1, h2⟩ := Option.map_eq_some_iff.mp hk
    subst h2
    have l1 := (List.getElem?_eq_some_iff.mp h1).1
    exact Or.inl ⟨k, by omega, by simp⟩
theorem zA_mono {as : Nat → Nat} {a b : Nat} (h : a ≤ b) : ∀ q, zA as b q → zA as a q := by
  intro q hq
  rcases hq with hq | hq
  · exact Or.inl hq
  · exact Or.inr (Nat.le_trans h hq)
end
section
def zstr : List (String × Nat × String) := [("AsOfLedger", 124, "a word was changed by hand"), ("AsOfLedger", 131, "an argument is out of its range"), ("AsOfLedger", 136, "there are 64 versions"), ("AsOfLedger", 143, "a turnover would be above 2147483647"), ("AsOfLedger", 148, "there is no such entry, or it is void")]
def zNots : List Jvm.Cond := [.not (.castable "java/lang/IllegalStateException" "java/util/NoSuchElementException"), .not (.castable "java/lang/IllegalStateException" "java/lang/IllegalArgumentException"), .not (.castable "java/lang/IllegalStateException" "java/lang/UnsupportedOperationException"), .not (.castable "java/lang/IllegalStateException" "java/lang/ArithmeticException"), .not (.castable "java/util/NoSuchElementException" "java/lang/IllegalStateException"), .not (.castable "java/util/NoSuchElementException" "java/lang/IllegalArgumentException"), .not (.castable "java/util/NoSuchElementException" "java/lang/UnsupportedOperationException"), .not (.castable "java/util/NoSuchElementException" "java/lang/ArithmeticException"), .not (.castable "java/lang/IllegalArgumentException" "java/lang/IllegalStateException"), .not (.castable "java/lang/IllegalArgumentException" "java/util/NoSuchElementException"), .not (.castable "java/lang/IllegalArgumentException" "java/lang/UnsupportedOperationException"), .not (.castable "java/lang/IllegalArgumentException" "java/lang/ArithmeticException"), .not (.castable "java/lang/UnsupportedOperationException" "java/lang/IllegalStateException"), .not (.castable "java/lang/UnsupportedOperationException" "java/util/NoSuchElementException"), .not (.castable "java/lang/UnsupportedOperationException" "java/lang/IllegalArgumentException"), .not (.castable "java/lang/UnsupportedOperationException" "java/lang/ArithmeticException"), .not (.castable "java/lang/ArithmeticException" "java/lang/IllegalStateException"), .not (.castable "java/lang/ArithmeticException" "java/util/NoSuchElementException"), .not (.castable "java/lang/ArithmeticException" "java/lang/IllegalArgumentException"), .not (.castable "java/lang/ArithmeticException" "java/lang/UnsupportedOperationException")]
/-! The words that hold all through: those of the tables that a warmer table keeps; what a throw asks of the statics and of the texts. -/
def zgood : Jvm.Cond → Bool
  | .arrayClass _ => true
  | .not (.castable _ _) => true
  | c => c.onTables && c.keepsFace
def Tw : List Jvm.Cond := lw_tbl.filter zgood ++ zNots
theorem Tw_good : ∀ x ∈ Tw, zgood x = true := fun x h => (List.mem_append.mp h).elim (fun h => (List.mem_filter.mp h).2) (fun h => List.all_eq_true.mp (show zNots.all zgood = true from by decide +kernel) x h)
theorem zword {c : Jvm.Cond} {args a' : Array Value} {s U : State} (hW : s.WarmedH U.vm) (hc : zgood c = true) (h : c.before args s = true) : c.before a' U = true := by
  unfold zgood at hc
  split at hc
  · exact word_at hW (Or.inr ⟨_, rfl⟩) h
  · have h1 := Cond.castAtom_setVm hW.alike _ rfl h
    simpa [Cond.before, Cond.holds, Cond.value] using h1
  · simp only [Bool.and_eq_true] at hc
    have h1 := Cond.before_shiftedFace (State.Shifted.of_warmed hW) c hc.2 h
    rw [Cond.onTables_vm (A' := a') (U' := U) U.vm c hc.1] at h1
    exact h1
theorem Tw_in {x : Jvm.Cond} (h : x ∈ lw_tbl) (hg : zgood x = true) : x ∈ Tw := List.mem_append_left _ (List.mem_filter.mpr ⟨h, hg⟩)
def zst (C n d : String) (A : Nat → Prop) (U : State) : Prop := ∃ (c : ClassId) (k : Class) (i : Nat) (f : Field) (a : Addr) (cell : Cell) (v : Value), U.vm.findClass C = some c ∧ U.fieldFound? C n d = some (c, k, i, f) ∧ f.isStatic = true ∧ k.statics = some a ∧ U.heap[a]? = some cell ∧ cell.vm.isStatics = true ∧ cell.cls = c ∧
  f.slot < cell.slots.size ∧ k.staticTypes[f.slot]? = some f.type ∧ cell.slots[f.slot]? = some v ∧ v.isRef = true ∧ ¬ A a
theorem zst_of {args : Array Value} {s : State} {C n d : String} {A : Nat → Prop} (h1 : (Jvm.Cond.laysStatic C n d).before args s = true) (h2 : (Jvm.Cond.isRef (.static C n d)).before args s = true) (hA : ∀ a : Nat, a < s.heap.size → ¬ A a) : zst C n d A s := by
  obtain ⟨c, k, i, f, a, cell, e1, e2, e3, e4, e5, e6, e7, e8, e9⟩ := Cond.laysStatic_spec h1
  cases hv : (Term.static C n d).eval args s none [] s with
  | none => simp [Cond.before, Cond.holds, Cond.value, hv] at h2
  | some v =>
    obtain ⟨-, a', cell', q1, q2, -, q3⟩ := Term.static_spec e2 hv
    cases e4.symm.trans q1
    cases e5.symm.trans q2
    refine ⟨c, k, i, f, a, cell, v, e1, e2, e3, e4, e5, e6, e7, e8, e9, q3, ?_, hA a (Array.getElem?_eq_some_iff.mp e5).1⟩
    simp only [Cond.before, Cond.holds, Cond.value, hv] at h2
    cases v <;> simp_all [Value.isRef]
theorem zst_at {s U : State} {H : Heap} {C n d : String} {A B : Nat → Prop} (h : zst C n d A s) (hk : ∀ a : Nat, a < s.heap.size → ¬ A a → H[a]? = s.heap[a]?) (hAB : ∀ q, B q → A q) (hU : U.heap = H) (hvm : s.vm.Alike U.vm) : zst C n d B U := by
  obtain ⟨c, k, i, f, a, cell, v, e1, e2, e3, e4, e5, e6, e7, e8, e9, e10, e11, e12⟩ := h
  obtain ⟨k', hi', he⟩ := State.fieldFound?_setVm hvm e2
  exact ⟨c, k', i, f, a, cell, v, by rw [hvm.findClass]; exact e1, hi', e3, by rw [he]; exact e4, by rw [hU, hk a (Array.getElem?_eq_some_iff.mp e5).1 e12]; exact e5, e6, e7, e8, by rw [he]; exact e9, e10, e11, fun z => e12 (hAB a z)⟩
theorem zst_lays {U : State} {C n d : String} {A : Nat → Prop} {args : Array Value} (h : zst C n d A U) : (Jvm.Cond.laysStatic C n d).before args U = true := by
  obtain ⟨c, k, i, f, a, cell, v, e1, e2, e3, e4, e5, e6, e7, e8, e9, e10, e11, e12⟩ := h
  simp [Cond.before, Cond.holds, Cond.value, e1, e2, e3, e4, e5, e6, e7, e8, e9]
theorem zst_ref {U : State} {C n d : String} {A : Nat → Prop} {args : Array Value} (h : zst C n d A U) : (Jvm.Cond.isRef (.static C n d)).before args U = true := by
  obtain ⟨c, k, i, f, a, cell, v, e1, e2, e3, e4, e5, e6, e7, e8, e9, e10, e11, e12⟩ := h
  have hv : (Term.static C n d).eval args U none [] U = some v := by
    simp [Term.eval, State.fieldNamed?, e2, e3, e4, e5, e6, e10]
  cases v <;> simp_all [Cond.before, Cond.holds, Cond.value, Value.isRef]
def zenv (as : Nat → Nat) (sz : Nat) (U : State) : Prop := zst Jvm.Bundle.tN "UNASSIGNED_STACK" Jvm.Bundle.steD (zA as sz) U ∧ zst Jvm.Bundle.tN "SUPPRESSED_SENTINEL" Jvm.Bundle.listD (zA as sz) U ∧ ∀ q ∈ zstr, ∃ a, vk_R q.1 q.2.1 q.2.2 a U
theorem zenv_calling {as : Nat → Nat} {sz : Nat} {U : State} {g : JFrame} {mk : MethodId} {a : Array Value} (h : zenv as sz U) : zenv as sz (U.calling g mk a) :=
  ⟨h.1, h.2.1, fun q hq => by
    obtain ⟨b, hb⟩ := h.2.2 q hq
    exact ⟨b, vk_R.same (u := U) rfl hb⟩⟩
theorem zenv_at {as : Nat → Nat} {s U : State} {H : Heap} {locs : List Loc} (h : zenv as s.heap.size s) (hS : va_S (zA as s.heap.size) s.heap H locs) (hU : U.heap = H) (hW : s.WarmedH U.vm) : zenv as H.size U :=
  ⟨zst_at h.1 hS.2.1 (zA_mono hS.1) hU hW.alike, zst_at h.2.1 hS.2.1 (zA_mono hS.1) hU hW.alike, fun q hq => by
    obtain ⟨b, hb⟩ := h.2.2 q hq
    exact ⟨b, vk_R.warm hW hb⟩⟩
def zcl (ci : Nat) (C : String) (T : u_T) (N : Nat) (ty0 : Nat → FieldType) : Prop := vwCl[ci]? = some (C, T, N) ∧ (∀ w ∈ u_ws C T N, w ∈ Tw) ∧ (∀ k, k < N → parseFieldDescriptor (T k).2.2.1 = some (ty0 k)) ∧ ∀ a, a < N → ∀ b, b < N → a ≠ b → (T a).2.1 ≠ (T b).2.1
def zfld (own : String) (idx ci k : Nat) (ty : FieldType) (fin : Bool) : Prop := ∃ (C : String) (T : u_T) (N : Nat) (ty0 : Nat → FieldType), zcl ci C T N ty0 ∧ k < N ∧ Jvm.Cond.fieldLink own idx (T k).1 (T k).2.1 (T k).2.2.1 ∈ Tw ∧ ty0 k = ty ∧ (T k).2.2.2 = fin
end
section
/-! locals -/
def zas (as : Nat → Nat) : Nat → List (Option Value) → List (Nat × Value)
  | _, [] => []
  | i, none :: r => zas as (i + 1) r
  | i, some v :: r => (i, zv as v) :: zas as (i + 1) r
theorem zas_in (as : Nat → Nat) : ∀ (lv : List (Option Value)) (i j : Nat) (v : Value), lv[j]? = some (some v) → (i + j, zv as v) ∈ zas as i lv
  | [], _, _, _, h => by simp at h
  | none :: r, i, 0, v, h => by simp at h
  | some x :: r, i, 0, v, h => by
    have : x = v := by simpa using h
    subst this
    exact List.mem_cons_self
  | none :: r, i, j + 1, v, h => by
    have := zas_in as r (i + 1) j v (by simpa using h)
    rw [show i + (j + 1) = i + 1 + j by omega]
    exact this
  | some x :: r, i, j + 1, v, h => by
    have := zas_in as r (i + 1) j v (by simpa using h)
    rw [show i + (j + 1) = i + 1 + j by omega]
    exact List.mem_cons_of_mem _ this
theorem zas_of (as : Nat → Nat) : ∀ (lv : List (Option Value)) (i : Nat) (q : Nat × Value), q ∈ zas as i lv → ∃ (j : Nat) (v : Value), lv[j]? = some (some v) ∧ q = (i + j, zv as v)
  | [], _, _, h => by cases h
  | none :: r, i, q, h => by
    obtain ⟨j, v, h1, h2⟩ := zas_of as r (i + 1) q h
    exact ⟨j + 1, v, by simpa using h1, by rw [h2, show i + (j + 1) = i + 1 + j by omega]⟩
  | some x :: r, i, q, h => by
    rcases List.mem_cons.mp h with h | h
    · exact ⟨0, x, by simp, h⟩
    · obtain ⟨j, v, h1, h2⟩ := zas_of as r (i + 1) q h
      exact ⟨j + 1, v, by simpa using h1, by rw [h2, show i + (j + 1) = i + 1 + j by omega]⟩
def zL (as : Nat → Nat) (ls : Array Slot) (nL : Nat) (lv : List (Option Value)) : Prop := lv.length = nL ∧ lv_has ls nL (zas as 0 lv)
theorem zL_at {as : Nat → Nat} {ls : Array Slot} {nL : Nat} {lv : List (Option Value)} (h : zL as ls nL lv) {i : Nat} {v : Value} (hi : lv[i]? = some (some v)) : ls[i]? = some (.val (zv as v)) := by
  have h1 := zas_in as lv 0 i v hi
  rw [Nat.zero_add] at h1
  exact h.2.2.2 _ h1
theorem zL_lt {as : Nat → Nat} {ls : Array Slot} {nL : Nat} {lv : List (Option Value)} (h : zL as ls nL lv) {i : Nat} (hi : i < lv.length) : i < nL := h.1 ▸ hi
def zk (i : Nat) (o : Option Value) : Option Value := match i, o with
  | 0, some v => if v.category = 2 then none else some v
  | _, o => o
theorem zk_some {i : Nat} {o : Option Value} {v : Value} (h : zk i o = some v) : o = some v ∧ ¬ (i = 0 ∧ v.category = 2) := by
  cases i with
  | zero =>
    cases o with
    | none => cases h
    | some x =>
      simp only [zk] at h
      by_cases hc : x.category = 2
      · rw [if_pos hc] at h; cases h
      · rw [if_neg hc] at h
        cases h
        exact ⟨rfl, fun z => hc z.2⟩
  | succ i => exact ⟨h, fun z => by cases z.1⟩
def zst1 : List (Option Value) → Nat → Value → List (Option Value)
  | [], _, _ => []
  | _ :: r, 0, x => some x :: r
  | o :: r, i + 1, x => zk i o :: zst1 r i x
def zst2 : List (Option Value) → Nat → Value → List (Option Value)
  | [], _, _ => []
  | _ :: [], 0, x => some x :: []
  | _ :: _ :: r, 0, x => some x :: none :: r
  | o :: r, i + 1, x => zk i o :: zst2 r i x
theorem zst1_len : ∀ (lv : List (Option Value)) (i : Nat) (x : Value), (zst1 lv i x).length = lv.length
  | [], _, _ => rfl
  | _ :: r, 0, x => rfl
  | o :: r, i + 1, x => by simp [zst1, zst1_len r i x]
theorem zst2_len : ∀ (lv : List (Option Value)) (i : Nat) (x : Value), (zst2 lv i x).length = lv.length
  | [], _, _ => by simp [zst2]
  | _ :: [], 0, x => by simp [zst2]
  | _ :: _ :: r, 0, x => by simp [zst2]
  | o :: r, i + 1, x => by simp [zst2, zst2_len r i x]
theorem zst1_of : ∀ (lv : List (Option Value)) (i : Nat) (x : Value) (j : Nat) (v : Value), (zst1 lv i x)[j]? = some (some v) → (j = i ∧ v = x) ∨ (j ≠ i ∧ lv[j]? = some (some v) ∧ ¬ (j + 1 = i ∧ v.category = 2))
  | [], _, _, j, v, h => by simp [zst1] at h
  | o :: r, 0, x, 0, v, h => by
    simp [zst1] at h
    exact Or.inl ⟨rfl, h.symm⟩
  | o :: r, 0, x, j + 1, v, h => by
    simp [zst1] at h
    exact Or.inr ⟨by omega, by simpa using h, fun z => by omega⟩
  | o :: r, i + 1, x, 0, v, h => by
    simp [zst1] at h
    obtain ⟨h1, h2⟩ := zk_some h
    exact Or.inr ⟨by omega, by simpa using h1, fun z => h2 ⟨by omega, z.2⟩⟩
  | o :: r, i + 1, x, j + 1, v, h => by
    simp [zst1] at h
    rcases zst1_of r i x j v h with ⟨h1, h2⟩ | ⟨h1, h2, h3⟩
    · exact Or.inl ⟨by omega, h2⟩
    · exact Or.inr ⟨by omega, by simpa using h2, fun z => h3 ⟨by omega, z.2⟩⟩
theorem zst2_of : ∀ (lv : List (Option Value)) (i : Nat) (x : Value) (j : Nat) (v : Value), (zst2 lv i x)[j]? = some (some v) → (j = i ∧ v = x) ∨ (j ≠ i ∧ j ≠ i + 1 ∧ lv[j]? = some (some v) ∧ ¬ (j + 1 = i ∧ v.category = 2))
  | [], _, _, j, v, h => by simp [zst2] at h
  | [o], 0, x, 0, v, h => by
    simp [zst2] at h
    exact Or.inl ⟨rfl, h.symm⟩
  | [o], 0, x, j + 1, v, h => by simp [zst2] at h
  | o :: o2 :: r, 0, x, 0, v, h => by
    simp [zst2] at h
    exact Or.inl ⟨rfl, h.symm⟩
  | o :: o2 :: r, 0, x, 1, v, h => by simp [zst2] at h
  | o :: o2 :: r, 0, x, j + 2, v, h => by
    simp [zst2] at h
    exact Or.inr ⟨by omega, by omega, by simpa using h, fun z => by omega⟩
  | o :: r, i + 1, x, 0, v, h => by
    simp [zst2] at h
    obtain ⟨h1, h2⟩ := zk_some h
    exact Or.inr ⟨by omega, by omega, by simpa using h1, fun z => h2 ⟨by omega, z.2⟩⟩
  | o :: r, i + 1, x, j + 1, v, h => by
    simp [zst2] at h
    rcases zst2_of r i x j v h with ⟨h1, h2⟩ | ⟨h1, h1', h2, h3⟩
    · exact Or.inl ⟨by omega, h2⟩
    · exact Or.inr ⟨by omega, by omega, by simpa using h2, fun z => h3 ⟨by omega, z.2⟩⟩
theorem zL_st1 {as : Nat → Nat} {ls' : Array Slot} {nL : Nat} {lv : List (Option Value)} {i : Nat} {x : Value} (hl : lv.length = nL)
    (h : lv_has ls' nL ((i, zv as x) :: (zas as 0 lv).filter (fun q => !(q.1 == i) && !(q.1 + 1 == i && q.2.category == 2)))) : zL as ls' nL (zst1 lv i x) := by
  refine ⟨(zst1_len lv i x).trans hl, h.1, h.2.1, fun q hq => h.2.2 q ?_⟩
  obtain ⟨j, v, h1, h2⟩ := zas_of as _ 0 q hq
  rw [Nat.zero_add] at h2
  subst h2
  rcases zst1_of lv i x j v h1 with ⟨e1, e2⟩ | ⟨e1, e2, e3⟩
  · subst e1
    subst e2
    exact List.mem_cons_self
  · refine List.mem_cons_of_mem _ (List.mem_filter.mpr ⟨by have := zas_in as lv 0 j v e2; rwa [Nat.zero_add] at this, ?_⟩)
    simp only [zv_cat, Bool.and_eq_true, Bool.not_eq_true', beq_eq_false_iff_ne, ne_eq, Bool.and_eq_false_iff]
    refine ⟨e1, ?_⟩
    by_cases q : j + 1 = i
    · exact Or.inr fun z => e3 ⟨q, z⟩
    · exact Or.inl q
theorem zL_st2 {as : Nat → Nat} {ls' : Array Slot} {nL : Nat} {lv : List (Option Value)} {i : Nat} {x : Value} (hl : lv.length = nL)
    (h : lv_has ls' nL ((i, zv as x) :: (zas as 0 lv).filter (fun q => !(q.1 == i) && (!(q.1 == i + 1) && !(q.1 + 1 == i && q.2.category == 2))))) : zL as ls' nL (zst2 lv i x) := by
  refine ⟨(zst2_len lv i x).trans hl, h.1, h.2.1, fun q hq => h.2.2 q ?_⟩
  obtain ⟨j, v, h1, h2⟩ := zas_of as _ 0 q hq
  rw [Nat.zero_add] at h2
  subst h2
  rcases zst2_of lv i x j v h1 with ⟨e1, e2⟩ | ⟨e1, e1', e2, e3⟩
  · subst e1
    subst e2
    exact List.mem_cons_self
  · refine List.mem_cons_of_mem _ (List.mem_filter.mpr ⟨by have := zas_in as lv 0 j v e2; rwa [Nat.zero_add] at this, ?_⟩)
    simp only [zv_cat, Bool.and_eq_true, Bool.not_eq_true', beq_eq_false_iff_ne, ne_eq, Bool.and_eq_false_iff]
    refine ⟨e1, e1', ?_⟩
    by_cases q : j + 1 = i
    · exact Or.inr fun z => e3 ⟨q, z⟩
    · exact Or.inl q
/-- fewer known locals -/
def zfew : List (Option Value) → List (Option Value) → Prop
  | [], [] => True
  | _ :: r, none :: r' => zfew r r'
  | o :: r, some v :: r' => o = some v ∧ zfew r r'
  | _, _ => False
theorem zfew_len : ∀ (a b : List (Option Value)), zfew a b → b.length = a.length
  | [], [], _ => rfl
  | _ :: r, none :: r', h => by simp [zfew_len r r' h]
  | o :: r, some v :: r', h => by simp [zfew_len r r' h.2]
  | [], _ :: _, h => h.elim
  | _ :: _, [], h => h.elim
theorem zfew_at : ∀ (a b : List (Option Value)), zfew a b → ∀ (j : Nat) (v : Value), b[j]? = some (some v) → a[j]? = some (some v)
  | [], [], _, j, v, h => by simp at h
  | _ :: r, none :: r', _, 0, v, h => by simp at h
  | _ :: r, none :: r', hf, j + 1, v, h => by simpa using zfew_at r r' hf j v (by simpa using h)
  | o :: r, some x :: r', hf, 0, v, h => by
    have : x = v := by simpa using h
    subst this
    simpa using hf.1
  | o :: r, some x :: r', hf, j + 1, v, h => by simpa using zfew_at r r' hf.2 j v (by simpa using h)
  | [], _ :: _, hf, _, _, _ => hf.elim
  | _ :: _, [], hf, _, _, _ => hf.elim
theorem zL_few {as : Nat → Nat} {ls : Array Slot} {nL : Nat} {lv lv' : List (Option Value)} (hf : zfew lv lv') (h : zL as ls nL lv) : zL as ls nL lv' := by
  refine ⟨(zfew_len _ _ hf).trans h.1, h.2.1, h.2.2.1, fun q hq => ?_⟩
  obtain ⟨j, v, h1, h2⟩ := zas_of as _ 0 q hq
  rw [Nat.zero_add] at h2
  subst h2
  exact zL_at h (zfew_at _ _ hf j v h1)
/-- the locals at the entry -/
def zlv : List Value → List (Option Value)
  | [] => []
  | v :: r => if v.category = 2 then some v :: none :: zlv r else some v :: zlv r
theorem zas_rep (as : Nat → Nat) : ∀ (n i : Nat), zas as i (List.replicate n none) = []
  | 0, _ => rfl
  | n + 1, i => by
    rw [List.replicate_succ]
    exact zas_rep as n (i + 1)
theorem zlv_as (as : Nat → Nat) (n : Nat) : ∀ (vs : List Value) (i : Nat), zas as i (zlv vs ++ List.replicate n none) = lv_args i (vs.map (zv as))
  | [], i => zas_rep as n i
  | v :: r, i => by
    by_cases hc : v.category = 2
    · simp only [zlv, hc, if_true, List.cons_append, List.map_cons, lv_args, zv_cat]
      show (i, zv as v) :: zas as (i + 1 + 1) (zlv r ++ List.replicate n none) = _
      rw [zlv_as as n r (i + 1 + 1)]
    · simp only [zlv, hc, if_false, List.cons_append, List.map_cons, lv_args, zv_cat]
      show (i, zv as v) :: zas as (i + 1) (zlv r ++ List.replicate n none) = _
      rw [zlv_as as n r (i + 1)]
theorem zlv_len (as : Nat → Nat) : ∀ vs : List Value, (zlv vs).length = (lg_sl (vs.map (zv as))).length
  | [] => rfl
  | v :: r => by
    by_cases hc : v.category = 2
    · simp [zlv, hc, lg_sl, zv_cat] at *
      have := zlv_len as r
      simp [lg_sl] at this
      omega
    · simp [zlv, hc, lg_sl, zv_cat] at *
      have := zlv_len as r
      simp [lg_sl] at this
      omega
theorem zL_entry (as : Nat → Nat) (av : List Value) {nL : Nat} {lv : List (Option Value)} (h : zlv av ++ List.replicate (nL - (zlv av).length) none = lv) (hn : (zlv av).length ≤ nL) :
    zL as ((lg_sl (av.map (zv as)) ++ List.replicate (nL - (lg_sl (av.map (zv as))).length) Slot.unset).toArray) nL lv := by
  subst h
  have hn2 : (lg_sl (av.map (zv as))).length ≤ nL := by rw [← zlv_len]; exact hn
  refine ⟨by simp; omega, ?_⟩
  rw [zlv_as]
  exact lv_entry _ hn2

/-- the machine, from this abstract state, comes to a state with Q -/
def Z (p : Program) (l : Launch) (e : Env) (R : Room) (s : State) (m : MethodId) (args : Array Value) (below : List Frame) (meth : Method) (c : Code) (nL : Nat) (D : va_G) (cI cJ : ClassId) (as : Nat → Nat) (rd : Bool) (kc ks : Nat) (Q : State → Prop) (pc : Nat) (lv : List (Option Value)) (st : List Value) (w : zW) : Prop :=
  ∀ (ls : Array Slot) (H : Heap) (locs : List Loc), zL as ls nL lv → zH D cI cJ as w H → va_S (zA as s.heap.size) s.heap H locs → (rd = true → locs = []) → W p l e R s m args below meth c H locs kc ks Q (F0 m pc ls (st.map (zv as)))
/-- what holds all through a method's walk -/
def zok (p : Program) (s : State) (m : MethodId) (args : Array Value) (meth : Method) (c : Code) (cc : ByteArray) (nL : Nat) (own : String) (D : va_G) (cI cJ : ClassId) (as : Nat → Nat) : Prop :=
  (p.tables.exec = Jvm.exec ∧ c.code = cc ∧ c.maxLocals = nL ∧ s.vm.findClass own = some m.cls ∧ meth.locks = false) ∧ (∀ x ∈ Tw, x.before args s = true) ∧ va_K D vwCl [(cI, .int), (cJ, .long)] s ∧ zinj as ∧ zenv as s.heap.size s
section ZI
variable {p : Program} {l : Launch} {e : Env} {R : Room} {s : State} {m : MethodId} {args : Array Value} {below : List Frame} {meth : Method} {c : Code} {cc : ByteArray} {nL : Nat} {own : String} {D : va_G} {cI cJ : ClassId} {as : Nat → Nat} {rd : Bool} {kc ks : Nat} {Q : State → Prop} {pc : Nat} {lv : List (Option Value)} {st : List Value} {w : zW}
theorem zz_iconst (G : zok p s m args meth c cc nL own D cI cJ as) {n : Int} {v : Int32} (hd : decode cc pc = .ok (.iconst n, 1)) (hv : Int32.ofInt n = v) (k : Z p l e R s m args below meth c nL D cI cJ as rd kc ks Q (pc + 1) lv (.int v :: st) w) : Z p l e R s m args below meth c nL D cI cJ as rd kc ks Q pc lv (st) w :=
  fun ls H locs hl hP hS hr => lv_iconst G.1.1 G.1.2.1 hd hv (k ls H locs hl hP hS hr)
theorem zz_bipush (G : zok p s m args meth c cc nL own D cI cJ as) {n : Int} {v : Int32} (hd : decode cc pc = .ok (.bipush n, 2)) (hv : (Int8.ofInt n).toInt32 = v) (k : Z p l e R s m args below meth c nL D cI cJ as rd kc ks Q (pc + 2) lv (.int v :: st) w) : Z p l e R s m args below meth c nL D cI cJ as rd kc ks Q pc lv (st) w :=
  fun ls H locs hl hP hS hr => lv_bipush G.1.1 G.1.2.1 hd hv (k ls H locs hl hP hS hr)
theorem zz_sipush (G : zok p s m args meth c cc nL own D cI cJ as) {n : Int} {v : Int32} (hd : decode cc pc = .ok (.sipush n, 3)) (hv : (Int16.ofInt n).toInt32 = v) (k : Z p l e R s m args below meth c nL D cI cJ as rd kc ks Q (pc + 3) lv (.int v :: st) w) : Z p l e R s m args below meth c nL D cI cJ as rd kc ks Q pc lv (st) w :=
  fun ls H locs hl hP hS hr => lv_sipush G.1.1 G.1.2.1 hd hv (k ls H locs hl hP hS hr)
theorem zz_lconst (G : zok p s m args meth c cc nL own D cI cJ as) {n : Fin 2} {v : Int64} (hd : decode cc pc = .ok (.lconst n, 1)) (hv : Int64.ofNat (n : Nat) = v) (k : Z p l e R s m args below meth c nL D cI cJ as rd kc ks Q (pc + 1) lv (.long v :: st) w) : Z p l e R s m args below meth c nL D cI cJ as rd kc ks Q pc lv (st) w :=
  fun ls H locs hl hP hS hr => lv_lconst G.1.1 G.1.2.1 hd hv (k ls H locs hl hP hS hr)
theorem zz_iload_n (G : zok p s m args meth c cc nL own D cI cJ as) {i : Fin 4} {x : Int32} (hd : decode cc pc = .ok (.iload_n i, 1)) (hx : lv[(i : Nat)]? = some (some (.int x))) (k : Z p l e R s m args below meth c nL D cI cJ as rd kc ks Q (pc + 1) lv (.int x :: st) w) : Z p l e R s m args below meth c nL D cI cJ as rd kc ks Q pc lv (st) w :=
  fun ls H locs hl hP hS hr => lv_iload_n G.1.1 G.1.2.1 hd rfl (zL_at hl hx) (k ls H locs hl hP hS hr)
theorem zz_iload (G : zok p s m args meth c cc nL own D cI cJ as) {i : Nat} {x : Int32} (hd : decode cc pc = .ok (.iload i, 2)) (hx : lv[i]? = some (some (.int x))) (k : Z p l e R s m args below meth c nL D cI cJ as rd kc ks Q (pc + 2) lv (.int x :: st) w) : Z p l e R s m args below meth c nL D cI cJ as rd kc ks Q pc lv (st) w :=
  fun ls H locs hl hP hS hr => lv_iload G.1.1 G.1.2.1 hd (zL_at hl hx) (k ls H locs hl hP hS hr)
theorem zz_lload_n (G : zok p s m args meth c cc nL own D cI cJ as) {i : Fin 4} {x : Int64} (hd : decode cc pc = .ok (.lload_n i, 1)) (hx : lv[(i : Nat)]? = some (some (.long x))) (k : Z p l e R s m args below meth c nL D cI cJ as rd kc ks Q (pc + 1) lv (.long x :: st) w) : Z p l e R s m args below meth c nL D cI cJ as rd kc ks Q pc lv (st) w :=
  fun ls H locs hl hP hS hr => lv_lload_n G.1.1 G.1.2.1 hd rfl (zL_at hl hx) (k ls H locs hl hP hS hr)
theorem zz_lload (G : zok p s m args meth c cc nL own D cI cJ as) {i : Nat} {x : Int64} (hd : decode cc pc = .ok (.lload i, 2)) (hx : lv[i]? = some (some (.long x))) (k : Z p l e R s m args below meth c nL D cI cJ as rd kc ks Q (pc + 2) lv (.long x :: st) w) : Z p l e R s m args below meth c nL D cI cJ as rd kc ks Q pc lv (st) w :=
  fun ls H locs hl hP hS hr => lv_lload G.1.1 G.1.2.1 hd (zL_at hl hx) (k ls H locs hl hP hS hr)
theorem zz_aload_n (G : zok p s m args meth c cc nL own D cI cJ as) {i : Fin 4} {x : Nat} (hd : decode cc pc = .ok (.aload_n i, 1)) (hx : lv[(i : Nat)]? = some (some (.ref x))) (k : Z p l e R s m args below meth c nL D cI cJ as rd kc ks Q (pc + 1) lv (.ref x :: st) w) : Z p l e R s m args below meth c nL D cI cJ as rd kc ks Q pc lv (st) w :=
  fun ls H locs hl hP hS hr => lv_aload_n G.1.1 G.1.2.1 hd rfl (zL_at hl hx) (k ls H locs hl hP hS hr)
theorem zz_aload (G : zok p s m args meth c cc nL own D cI cJ as) {i : Nat} {x : Nat} (hd : decode cc pc = .ok (.aload i, 2)) (hx : lv[i]? = some (some (.ref x))) (k : Z p l e R s m args below meth c nL D cI cJ as rd kc ks Q (pc + 2) lv (.ref x :: st) w) : Z p l e R s m args below meth c nL D cI cJ as rd kc ks Q pc lv (st) w :=
  fun ls H locs hl hP hS hr => lv_aload G.1.1 G.1.2.1 hd (zL_at hl hx) (k ls H locs hl hP hS hr)
theorem zz_istore_n (G : zok p s m args meth c cc nL own D cI cJ as) {i : Fin 4} {x : Int32} {lv' : List (Option Value)} (hd : decode cc pc = .ok (.istore_n i, 1)) (hn : ((i : Nat)) < lv.length) (hl' : zst1 lv (i : Nat) (.int x) = lv') (k : Z p l e R s m args below meth c nL D cI cJ as rd kc ks Q (pc + 1) lv' st w) : Z p l e R s m args below meth c nL D cI cJ as rd kc ks Q pc lv (.int x :: st) w :=
  by subst hl'; exact fun ls H locs hl hP hS hr => lv_istore_n G.1.1 G.1.2.1 hd rfl hl.2 (zL_lt hl hn) rfl (fun ls' h' => k ls' H locs (zL_st1 (x := .int x) hl.1 h') hP hS hr)
theorem zz_istore (G : zok p s m args meth c cc nL own D cI cJ as) {i : Nat} {x : Int32} {lv' : List (Option Value)} (hd : decode cc pc = .ok (.istore i, 2)) (hn : i < lv.length) (hl' : zst1 lv i (.int x) = lv') (k : Z p l e R s m args below meth c nL D cI cJ as rd kc ks Q (pc + 2) lv' st w) : Z p l e R s m args below meth c nL D cI cJ as rd kc ks Q pc lv (.int x :: st) w :=
  by subst hl'; exact fun ls H locs hl hP hS hr => lv_istore G.1.1 G.1.2.1 hd hl.2 (zL_lt hl hn) rfl (fun ls' h' => k ls' H locs (zL_st1 (x := .int x) hl.1 h') hP hS hr)
theorem zz_lstore_n (G : zok p s m args meth c cc nL own D cI cJ as) {i : Fin 4} {x : Int64} {lv' : List (Option Value)} (hd : decode cc pc = .ok (.lstore_n i, 1)) (hn : ((i : Nat) + 1) < lv.length) (hl' : zst2 lv (i : Nat) (.long x) = lv') (k : Z p l e R s m args below meth c nL D cI cJ as rd kc ks Q (pc + 1) lv' st w) : Z p l e R s m args below meth c nL D cI cJ as rd kc ks Q pc lv (.long x :: st) w :=
  by subst hl'; exact fun ls H locs hl hP hS hr => lv_lstore_n G.1.1 G.1.2.1 hd rfl hl.2 (zL_lt hl hn) rfl (fun ls' h' => k ls' H locs (zL_st2 (x := .long x) hl.1 h') hP hS hr)
theorem zz_lstore (G : zok p s m args meth c cc nL own D cI cJ as) {i : Nat} {x : Int64} {lv' : List (Option Value)} (hd : decode cc pc = .ok (.lstore i, 2)) (hn : i + 1 < lv.length) (hl' : zst2 lv i (.long x) = lv') (k : Z p l e R s m args below meth c nL D cI cJ as rd kc ks Q (pc + 2) lv' st w) : Z p l e R s m args below meth c nL D cI cJ as rd kc ks Q pc lv (.long x :: st) w :=
  by subst hl'; exact fun ls H locs hl hP hS hr => lv_lstore G.1.1 G.1.2.1 hd hl.2 (zL_lt hl hn) rfl (fun ls' h' => k ls' H locs (zL_st2 (x := .long x) hl.1 h') hP hS hr)
theorem zz_astore_n (G : zok p s m args meth c cc nL own D cI cJ as) {i : Fin 4} {x : Nat} {lv' : List (Option Value)} (hd : decode cc pc = .ok (.astore_n i, 1)) (hn : ((i : Nat)) < lv.length) (hl' : zst1 lv (i : Nat) (.ref x) = lv') (k : Z p l e R s m args below meth c nL D cI cJ as rd kc ks Q (pc + 1) lv' st w) : Z p l e R s m args below meth c nL D cI cJ as rd kc ks Q pc lv (.ref x :: st) w :=
  by subst hl'; exact fun ls H locs hl hP hS hr => lv_astore_n G.1.1 G.1.2.1 hd rfl hl.2 (zL_lt hl hn) rfl (fun ls' h' => k ls' H locs (zL_st1 (x := .ref x) hl.1 h') hP hS hr)
theorem zz_astore (G : zok p s m args meth c cc nL own D cI cJ as) {i : Nat} {x : Nat} {lv' : List (Option Value)} (hd : decode cc pc = .ok (.astore i, 2)) (hn : i < lv.length) (hl' : zst1 lv i (.ref x) = lv') (k : Z p l e R s m args below meth c nL D cI cJ as rd kc ks Q (pc + 2) lv' st w) : Z p l e R s m args below meth c nL D cI cJ as rd kc ks Q pc lv (.ref x :: st) w :=
  by subst hl'; exact fun ls H locs hl hP hS hr => lv_astore G.1.1 G.1.2.1 hd hl.2 (zL_lt hl hn) rfl (fun ls' h' => k ls' H locs (zL_st1 (x := .ref x) hl.1 h') hP hS hr)
theorem zz_iinc (G : zok p s m args meth c cc nL own D cI cJ as) {i : Nat} {n : Int} {x v : Int32} {lv' : List (Option Value)} (hd : decode cc pc = .ok (.iinc i n, 3)) (hx : lv[i]? = some (some (.int x))) (hv : x + Int32.ofInt n = v) (hl' : zst1 lv i (.int v) = lv') (k : Z p l e R s m args below meth c nL D cI cJ as rd kc ks Q (pc + 3) lv' st w) : Z p l e R s m args below meth c nL D cI cJ as rd kc ks Q pc lv st w := by
  subst hl'
  intro ls H locs hl hP hS hr
  have h1 := zas_in as lv 0 i _ hx
  rw [Nat.zero_add] at h1
  obtain ⟨q, hq⟩ := List.getElem?_of_mem h1
  exact lv_iinc G.1.1 G.1.2.1 hd hl.2 hq hv (zL_lt hl (List.getElem?_eq_some_iff.mp hx).1) rfl (fun ls' h' => k ls' H locs (zL_st1 (x := .int v) hl.1 h') hP hS hr)
theorem zz_iadd (G : zok p s m args meth c cc nL own D cI cJ as) {x y : Int32} (hd : decode cc pc = .ok (.iadd, 1)) (k : Z p l e R s m args below meth c nL D cI cJ as rd kc ks Q (pc + 1) lv (.int (x + y) :: st) w) : Z p l e R s m args below meth c nL D cI cJ as rd kc ks Q pc lv (.int y :: .int x :: st) w :=
  fun ls H locs hl hP hS hr => lv_iadd G.1.1 G.1.2.1 hd (k ls H locs hl hP hS hr)
theorem zz_isub (G : zok p s m args meth c cc nL own D cI cJ as) {x y : Int32} (hd : decode cc pc = .ok (.isub, 1)) (k : Z p l e R s m args below meth c nL D cI cJ as rd kc ks Q (pc + 1) lv (.int (x - y) :: st) w) : Z p l e R s m args below meth c nL D cI cJ as rd kc ks Q pc lv (.int y :: .int x :: st) w :=
  fun ls H locs hl hP hS hr => lv_isub G.1.1 G.1.2.1 hd (k ls H locs hl hP hS hr)
theorem zz_imul (G : zok p s m args meth c cc nL own D cI cJ as) {x y : Int32} (hd : decode cc pc = .ok (.imul, 1)) (k : Z p l e R s m args below meth c nL D cI cJ as rd kc ks Q (pc + 1) lv (.int (x * y) :: st) w) : Z p l e R s m args below meth c nL D cI cJ as rd kc ks Q pc lv (.int y :: .int x :: st) w :=
  fun ls H locs hl hP hS hr => lv_imul G.1.1 G.1.2.1 hd (k ls H locs hl hP hS hr)
theorem zz_iand (G : zok p s m args meth c cc nL own D cI cJ as) {x y : Int32} (hd : decode cc pc = .ok (.iand, 1)) (k : Z p l e R s m args below meth c nL D cI cJ as rd kc ks Q (pc + 1) lv (.int (x &&& y) :: st) w) : Z p l e R s m args below meth c nL D cI cJ as rd kc ks Q pc lv (.int y :: .int x :: st) w :=
  fun ls H locs hl hP hS hr => lv_iand G.1.1 G.1.2.1 hd (k ls H locs hl hP hS hr)
theorem zz_ladd (G : zok p s m args meth c cc nL own D cI cJ as) {x y : Int64} (hd : decode cc pc = .ok (.ladd, 1)) (k : Z p l e R s m args below meth c nL D cI cJ as rd kc ks Q (pc + 1) lv (.long (x + y) :: st) w) : Z p l e R s m args below meth c nL D cI cJ as rd kc ks Q pc lv (.long y :: .long x :: st) w :=
  fun ls H locs hl hP hS hr => lv_ladd G.1.1 G.1.2.1 hd (k ls H locs hl hP hS hr)
theorem zz_lsub (G : zok p s m args meth c cc nL own D cI cJ as) {x y : Int64} (hd : decode cc pc = .ok (.lsub, 1)) (k : Z p l e R s m args below meth c nL D cI cJ as rd kc ks Q (pc + 1) lv (.long (x - y) :: st) w) : Z p l e R s m args below meth c nL D cI cJ as rd kc ks Q pc lv (.long y :: .long x :: st) w :=
  fun ls H locs hl hP hS hr => lv_lsub G.1.1 G.1.2.1 hd (k ls H locs hl hP hS hr)
theorem zz_lmul (G : zok p s m args meth c cc nL own D cI cJ as) {x y : Int64} (hd : decode cc pc = .ok (.lmul, 1)) (k : Z p l e R s m args below meth c nL D cI cJ as rd kc ks Q (pc + 1) lv (.long (x * y) :: st) w) : Z p l e R s m args below meth c nL D cI cJ as rd kc ks Q pc lv (.long y :: .long x :: st) w :=
  fun ls H locs hl hP hS hr => lv_lmul G.1.1 G.1.2.1 hd (k ls H locs hl hP hS hr)
theorem zz_lxor (G : zok p s m args meth c cc nL own D cI cJ as) {x y : Int64} (hd : decode cc pc = .ok (.lxor, 1)) (k : Z p l e R s m args below meth c nL D cI cJ as rd kc ks Q (pc + 1) lv (.long (x ^^^ y) :: st) w) : Z p l e R s m args below meth c nL D cI cJ as rd kc ks Q pc lv (.long y :: .long x :: st) w :=
  fun ls H locs hl hP hS hr => lv_lxor G.1.1 G.1.2.1 hd (k ls H locs hl hP hS hr)
theorem zz_ineg (G : zok p s m args meth c cc nL own D cI cJ as) {x : Int32} (hd : decode cc pc = .ok (.ineg, 1)) (k : Z p l e R s m args below meth c nL D cI cJ as rd kc ks Q (pc + 1) lv (.int (-x) :: st) w) : Z p l e R s m args below meth c nL D cI cJ as rd kc ks Q pc lv (.int x :: st) w :=
  fun ls H locs hl hP hS hr => lv_ineg G.1.1 G.1.2.1 hd (k ls H locs hl hP hS hr)
theorem zz_lushr (G : zok p s m args meth c cc nL own D cI cJ as) {x v : Int64} {y : Int32} (hd : decode cc pc = .ok (.lushr, 1)) (hv : (x.toUInt64 >>> (y.toInt64.toUInt64 &&& Int64.toUInt64 63)).toInt64 = v) (k : Z p l e R s m args below meth c nL D cI cJ as rd kc ks Q (pc + 1) lv (.long v :: st) w) : Z p l e R s m args below meth c nL D cI cJ as rd kc ks Q pc lv (.int y :: .long x :: st) w :=
  fun ls H locs hl hP hS hr => lv_lushr G.1.1 G.1.2.1 hd hv (k ls H locs hl hP hS hr)
theorem zz_i2l (G : zok p s m args meth c cc nL own D cI cJ as) {x : Int32} (hd : decode cc pc = .ok (.i2l, 1)) (k : Z p l e R s m args below meth c nL D cI cJ as rd kc ks Q (pc + 1) lv (.long x.toInt64 :: st) w) : Z p l e R s m args below meth c nL D cI cJ as rd kc ks Q pc lv (.int x :: st) w :=
  fun ls H locs hl hP hS hr => lv_i2l G.1.1 G.1.2.1 hd rfl (k ls H locs hl hP hS hr)
theorem zz_l2i (G : zok p s m args meth c cc nL own D cI cJ as) {x : Int64} (hd : decode cc pc = .ok (.l2i, 1)) (k : Z p l e R s m args below meth c nL D cI cJ as rd kc ks Q (pc + 1) lv (.int x.toInt32 :: st) w) : Z p l e R s m args below meth c nL D cI cJ as rd kc ks Q pc lv (.long x :: st) w :=
  fun ls H locs hl hP hS hr => lv_l2i G.1.1 G.1.2.1 hd rfl (k ls H locs hl hP hS hr)
theorem zz_lcmp (G : zok p s m args meth c cc nL own D cI cJ as) {x y : Int64} (hd : decode cc pc = .ok (.lcmp, 1)) (k : Z p l e R s m args below meth c nL D cI cJ as rd kc ks Q (pc + 1) lv (.int (lg_cmp x y) :: st) w) : Z p l e R s m args below meth c nL D cI cJ as rd kc ks Q pc lv (.long y :: .long x :: st) w :=
  fun ls H locs hl hP hS hr => W.lcmp G.1.1 G.1.2.1 hd (k ls H locs hl hP hS hr)
theorem zz_dupi (G : zok p s m args meth c cc nL own D cI cJ as) {x : Int32} (hd : decode cc pc = .ok (.dup, 1)) (k : Z p l e R s m args below meth c nL D cI cJ as rd kc ks Q (pc + 1) lv (.int x :: .int x :: st) w) : Z p l e R s m args below meth c nL D cI cJ as rd kc ks Q pc lv (.int x :: st) w :=
  fun ls H locs hl hP hS hr => lv_dup G.1.1 G.1.2.1 hd rfl (k ls H locs hl hP hS hr)
theorem zz_dupa (G : zok p s m args meth c cc nL own D cI cJ as) {x : Nat} (hd : decode cc pc = .ok (.dup, 1)) (k : Z p l e R s m args below meth c nL D cI cJ as rd kc ks Q (pc + 1) lv (.ref x :: .ref x :: st) w) : Z p l e R s m args below meth c nL D cI cJ as rd kc ks Q pc lv (.ref x :: st) w :=
  fun ls H locs hl hP hS hr => lv_dup G.1.1 G.1.2.1 hd rfl (k ls H locs hl hP hS hr)
theorem zz_popi (G : zok p s m args meth c cc nL own D cI cJ as) {x : Int32} (hd : decode cc pc = .ok (.pop, 1)) (k : Z p l e R s m args below meth c nL D cI cJ as rd kc ks Q (pc + 1) lv (st) w) : Z p l e R s m args below meth c nL D cI cJ as rd kc ks Q pc lv (.int x :: st) w :=
  fun ls H locs hl hP hS hr => lv_pop G.1.1 G.1.2.1 hd rfl (k ls H locs hl hP hS hr)
theorem zz_ldc2 (G : zok p s m args meth c cc nL own D cI cJ as) {idx : Nat} {v : Int64} (hd : decode cc pc = .ok (.ldc2_w idx, 3)) (hc : Jvm.Cond.constantLong own idx v ∈ Tw) (k : Z p l e R s m args below meth c nL D cI cJ as rd kc ks Q (pc + 3) lv (.long v :: st) w) : Z p l e R s m args below meth c nL D cI cJ as rd kc ks Q pc lv (st) w :=
  fun ls H locs hl hP hS hr => lv_ldc2 G.1.1 G.1.2.1 G.1.2.2.2.1 (G.2.1 _ hc) hd (k ls H locs hl hP hS hr)
theorem zz_goto (G : zok p s m args meth c cc nL own D cI cJ as) {off : Int} {tgt : Nat} (hd : decode cc pc = .ok (.goto off, 3)) (ht : (pc : Int) + off = (tgt : Int)) (k : Z p l e R s m args below meth c nL D cI cJ as rd kc ks Q tgt lv st w) : Z p l e R s m args below meth c nL D cI cJ as rd kc ks Q pc lv st w :=
  fun ls H locs hl hP hS hr => lv_goto G.1.1 G.1.2.1 hd ht (k ls H locs hl hP hS hr)
theorem zz_if_eq (G : zok p s m args meth c cc nL own D cI cJ as) {x : Int32} {off : Int} {tgt : Nat} (hd : decode cc pc = .ok (.ifCond .eq off, 3)) (ht : (pc : Int) + off = (tgt : Int)) (kt : x = 0 → Z p l e R s m args below meth c nL D cI cJ as rd kc ks Q tgt lv st w) (kf : ¬ x = 0 → Z p l e R s m args below meth c nL D cI cJ as rd kc ks Q (pc + 3) lv st w) : Z p l e R s m args below meth c nL D cI cJ as rd kc ks Q pc lv (.int x :: st) w :=
  fun ls H locs hl hP hS hr => lv_if_eq G.1.1 G.1.2.1 hd ht (fun h => kt h ls H locs hl hP hS hr) (fun h => kf h ls H locs hl hP hS hr)
theorem zz_icmp_eq (G : zok p s m args meth c cc nL own D cI cJ as) {x y : Int32} {off : Int} {tgt : Nat} (hd : decode cc pc = .ok (.if_icmp .eq off, 3)) (ht : (pc : Int) + off = (tgt : Int)) (kt : x = y → Z p l e R s m args below meth c nL D cI cJ as rd kc ks Q tgt lv st w) (kf : ¬ x = y → Z p l e R s m args below meth c nL D cI cJ as rd kc ks Q (pc + 3) lv st w) : Z p l e R s m args below meth c nL D cI cJ as rd kc ks Q pc lv (.int y :: .int x :: st) w :=
  fun ls H locs hl hP hS hr => lv_icmp_eq G.1.1 G.1.2.1 hd ht (fun h => kt h ls H locs hl hP hS hr) (fun h => kf h ls H locs hl hP hS hr)
theorem zz_if_ne (G : zok p s m args meth c cc nL own D cI cJ as) {x : Int32} {off : Int} {tgt : Nat} (hd : decode cc pc = .ok (.ifCond .ne off, 3)) (ht : (pc : Int) + off = (tgt : Int)) (kt : ¬ x = 0 → Z p l e R s m args below meth c nL D cI cJ as rd kc ks Q tgt lv st w) (kf : x = 0 → Z p l e R s m args below meth c nL D cI cJ as rd kc ks Q (pc + 3) lv st w) : Z p l e R s m args below meth c nL D cI cJ as rd kc ks Q pc lv (.int x :: st) w :=
  fun ls H locs hl hP hS hr => lv_if_ne G.1.1 G.1.2.1 hd ht (fun h => kt h ls H locs hl hP hS hr) (fun h => kf h ls H locs hl hP hS hr)
theorem zz_icmp_ne (G : zok p s m args meth c cc nL own D cI cJ as) {x y : Int32} {off : Int} {tgt : Nat} (hd : decode cc pc = .ok (.if_icmp .ne off, 3)) (ht : (pc : Int) + off = (tgt : Int)) (kt : ¬ x = y → Z p l e R s m args below meth c nL D cI cJ as rd kc ks Q tgt lv st w) (kf : x = y → Z p l e R s m args below meth c nL D cI cJ as rd kc ks Q (pc + 3) lv st w) : Z p l e R s m args below meth c nL D cI cJ as rd kc ks Q pc lv (.int y :: .int x :: st) w :=
  fun ls H locs hl hP hS hr => lv_icmp_ne G.1.1 G.1.2.1 hd ht (fun h => kt h ls H locs hl hP hS hr) (fun h => kf h ls H locs hl hP hS hr)
theorem zz_if_lt (G : zok p s m args meth c cc nL own D cI cJ as) {x : Int32} {off : Int} {tgt : Nat} (hd : decode cc pc = .ok (.ifCond .lt off, 3)) (ht : (pc : Int) + off = (tgt : Int)) (kt : x < 0 → Z p l e R s m args below meth c nL D cI cJ as rd kc ks Q tgt lv st w) (kf : ¬ x < 0 → Z p l e R s m args below meth c nL D cI cJ as rd kc ks Q (pc + 3) lv st w) : Z p l e R s m args below meth c nL D cI cJ as rd kc ks Q pc lv (.int x :: st) w :=
  fun ls H locs hl hP hS hr => lv_if_lt G.1.1 G.1.2.1 hd ht (fun h => kt h ls H locs hl hP hS hr) (fun h => kf h ls H locs hl hP hS hr)
theorem zz_icmp_lt (G : zok p s m args meth c cc nL own D cI cJ as) {x y : Int32} {off : Int} {tgt : Nat} (hd : decode cc pc = .ok (.if_icmp .lt off, 3)) (ht : (pc : Int) + off = (tgt : Int)) (kt : x < y → Z p l e R s m args below meth c nL D cI cJ as rd kc ks Q tgt lv st w) (kf : ¬ x < y → Z p l e R s m args below meth c nL D cI cJ as rd kc ks Q (pc + 3) lv st w) : Z p l e R s m args below meth c nL D cI cJ as rd kc ks Q pc lv (.int y :: .int x :: st) w :=
  fun ls H locs hl hP hS hr => lv_icmp_lt G.1.1 G.1.2.1 hd ht (fun h => kt h ls H locs hl hP hS hr) (fun h => kf h ls H locs hl hP hS hr)
theorem zz_if_ge (G : zok p s m args meth c cc nL own D cI cJ as) {x : Int32} {off : Int} {tgt : Nat} (hd : decode cc pc = .ok (.ifCond .ge off, 3)) (ht : (pc : Int) + off = (tgt : Int)) (kt : 0 ≤ x → Z p l e R s m args below meth c nL D cI cJ as rd kc ks Q tgt lv st w) (kf : ¬ 0 ≤ x → Z p l e R s m args below meth c nL D cI cJ as rd kc ks Q (pc + 3) lv st w) : Z p l e R s m args below meth c nL D cI cJ as rd kc ks Q pc lv (.int x :: st) w :=
  fun ls H locs hl hP hS hr => lv_if_ge G.1.1 G.1.2.1 hd ht (fun h => kt h ls H locs hl hP hS hr) (fun h => kf h ls H locs hl hP hS hr)
theorem zz_icmp_ge (G : zok p s m args meth c cc nL own D cI cJ as) {x y : Int32} {off : Int} {tgt : Nat} (hd : decode cc pc = .ok (.if_icmp .ge off, 3)) (ht : (pc : Int) + off = (tgt : Int)) (kt : y ≤ x → Z p l e R s m args below meth c nL D cI cJ as rd kc ks Q tgt lv st w) (kf : ¬ y ≤ x → Z p l e R s m args below meth c nL D cI cJ as rd kc ks Q (pc + 3) lv st w) : Z p l e R s m args below meth c nL D cI cJ as rd kc ks Q pc lv (.int y :: .int x :: st) w :=
  fun ls H locs hl hP hS hr => lv_icmp_ge G.1.1 G.1.2.1 hd ht (fun h => kt h ls H locs hl hP hS hr) (fun h => kf h ls H locs hl hP hS hr)
theorem zz_if_gt (G : zok p s m args meth c cc nL own D cI cJ as) {x : Int32} {off : Int} {tgt : Nat} (hd : decode cc pc = .ok (.ifCond .gt off, 3)) (ht : (pc : Int) + off = (tgt : Int)) (kt : 0 < x → Z p l e R s m args below meth c nL D cI cJ as rd kc ks Q tgt lv st w) (kf : ¬ 0 < x → Z p l e R s m args below meth c nL D cI cJ as rd kc ks Q (pc + 3) lv st w) : Z p l e R s m args below meth c nL D cI cJ as rd kc ks Q pc lv (.int x :: st) w :=
  fun ls H locs hl hP hS hr => lv_if_gt G.1.1 G.1.2.1 hd ht (fun h => kt h ls H locs hl hP hS hr) (fun h => kf h ls H locs hl hP hS hr)
theorem zz_icmp_gt (G : zok p s m args meth c cc nL own D cI cJ as) {x y : Int32} {off : Int} {tgt : Nat} (hd : decode cc pc = .ok (.if_icmp .gt off, 3)) (ht : (pc : Int) + off = (tgt : Int)) (kt : y < x → Z p l e R s m args below meth c nL D cI cJ as rd kc ks Q tgt lv st w) (kf : ¬ y < x → Z p l e R s m args below meth c nL D cI cJ as rd kc ks Q (pc + 3) lv st w) : Z p l e R s m args below meth c nL D cI cJ as rd kc ks Q pc lv (.int y :: .int x :: st) w :=
  fun ls H locs hl hP hS hr => lv_icmp_gt G.1.1 G.1.2.1 hd ht (fun h => kt h ls H locs hl hP hS hr) (fun h => kf h ls H locs hl hP hS hr)
theorem zz_if_le (G : zok p s m args meth c cc nL own D cI cJ as) {x : Int32} {off : Int} {tgt : Nat} (hd : decode cc pc = .ok (.ifCond .le off, 3)) (ht : (pc : Int) + off = (tgt : Int)) (kt : x ≤ 0 → Z p l e R s m args below meth c nL D cI cJ as rd kc ks Q tgt lv st w) (kf : ¬ x ≤ 0 → Z p l e R s m args below meth c nL D cI cJ as rd kc ks Q (pc + 3) lv st w) : Z p l e R s m args below meth c nL D cI cJ as rd kc ks Q pc lv (.int x :: st) w :=
  fun ls H locs hl hP hS hr => lv_if_le G.1.1 G.1.2.1 hd ht (fun h => kt h ls H locs hl hP hS hr) (fun h => kf h ls H locs hl hP hS hr)
theorem zz_icmp_le (G : zok p s m args meth c cc nL own D cI cJ as) {x y : Int32} {off : Int} {tgt : Nat} (hd : decode cc pc = .ok (.if_icmp .le off, 3)) (ht : (pc : Int) + off = (tgt : Int)) (kt : x ≤ y → Z p l e R s m args below meth c nL D cI cJ as rd kc ks Q tgt lv st w) (kf : ¬ x ≤ y → Z p l e R s m args below meth c nL D cI cJ as rd kc ks Q (pc + 3) lv st w) : Z p l e R s m args below meth c nL D cI cJ as rd kc ks Q pc lv (.int y :: .int x :: st) w :=
  fun ls H locs hl hP hS hr => lv_icmp_le G.1.1 G.1.2.1 hd ht (fun h => kt h ls H locs hl hP hS hr) (fun h => kf h ls H locs hl hP hS hr)
theorem zz_few {lv' : List (Option Value)} (hf : zfew lv lv') (k : Z p l e R s m args below meth c nL D cI cJ as rd kc ks Q pc lv' st w) : Z p l e R s m args below meth c nL D cI cJ as rd kc ks Q pc lv st w :=
  fun ls H locs hl hP hS hr => k ls H locs (zL_few hf hl) hP hS hr
theorem zz_eq {lv' : List (Option Value)} {st' : List Value} {w' : zW} {pc' : Nat} (h0 : pc = pc') (h1 : lv = lv') (h2 : st = st') (h3 : w = w') (k : Z p l e R s m args below meth c nL D cI cJ as rd kc ks Q pc' lv' st' w') : Z p l e R s m args below meth c nL D cI cJ as rd kc ks Q pc lv st w := by
  subst h0; subst h1; subst h2; subst h3; exact k
theorem zz_widen {kc' ks' : Nat} (h1 : kc ≤ kc') (h2 : ks ≤ ks') (k : Z p l e R s m args below meth c nL D cI cJ as rd kc' ks' Q pc lv st w) : Z p l e R s m args below meth c nL D cI cJ as rd kc ks Q pc lv st w :=
  fun ls H locs hl hP hS hr => W.widen h1 h2 (k ls H locs hl hP hS hr)
theorem zz_iald (G : zok p s m args meth c cc nL own D cI cJ as) {q n : Nat} {f : Nat → Int32} {i : Int32} {v : Int32} (hd : decode cc pc = .ok (.iaload, 1)) (hw : w[q]? = some (.inl (n, .inl f))) (hin : vp_in i n) (hv : f i.toNatClampNeg = v) (k : Z p l e R s m args below meth c nL D cI cJ as rd kc ks Q (pc + 1) lv (.int v :: st) w) : Z p l e R s m args below meth c nL D cI cJ as rd kc ks Q pc lv (.int i :: .ref q :: st) w := by
  intro ls H locs hl hP hS hr
  subst hv
  exact va_iald G.1.1 G.1.2.1 G.2.2.1 hP.2 q 0 (zat hw) rfl hin hd (k ls H locs hl hP hS hr)
theorem zz_lald (G : zok p s m args meth c cc nL own D cI cJ as) {q n : Nat} {f : Nat → Int64} {i : Int32} {v : Int64} (hd : decode cc pc = .ok (.laload, 1)) (hw : w[q]? = some (.inl (n, .inr f))) (hin : vp_in i n) (hv : f i.toNatClampNeg = v) (k : Z p l e R s m args below meth c nL D cI cJ as rd kc ks Q (pc + 1) lv (.long v :: st) w) : Z p l e R s m args below meth c nL D cI cJ as rd kc ks Q pc lv (.int i :: .ref q :: st) w := by
  intro ls H locs hl hP hS hr
  subst hv
  exact va_lald G.1.1 G.1.2.1 G.2.2.1 hP.2 q 1 (zat hw) rfl hin hd (k ls H locs hl hP hS hr)
theorem zz_iast (hrd : rd = false) (G : zok p s m args meth c cc nL own D cI cJ as) {q n : Nat} {f : Nat → Int32} {i x : Int32} {w' : zW} (hd : decode cc pc = .ok (.iastore, 1)) (hw : w[q]? = some (.inl (n, .inl f))) (hin : vp_in i n) (hw' : w.set q (.inl (n, .inl (upd f i.toNatClampNeg x))) = w') (k : Z p l e R s m args below meth c nL D cI cJ as rd kc ks Q (pc + 1) lv st w') : Z p l e R s m args below meth c nL D cI cJ as rd kc ks Q pc lv (.int x :: .int i :: .ref q :: st) w := by
  intro ls H locs hl hP hS hr
  subst hw'
  refine va_iast G.1.1 G.1.2.1 G.2.2.1 hP.2 (zD G.2.2.2.1 hP.1) hS q 0 (zat hw) rfl hin hd (fun H1 locs1 h1 h2 h3 => k ls H1 locs1 hl ⟨by rw [List.length_set]; exact hP.1, ?_⟩ h3 (fun z => by rw [hrd] at z; cases z))
  have e := zset (cI := cI) (cJ := cJ) (as := as) (w := w) (k := q) (e := .inl (n, .inl (upd f i.toNatClampNeg x)))
  rw [← e]; exact h1
theorem zz_last (hrd : rd = false) (G : zok p s m args meth c cc nL own D cI cJ as) {q n : Nat} {f : Nat → Int64} {i : Int32} {x : Int64} {w' : zW} (hd : decode cc pc = .ok (.lastore, 1)) (hw : w[q]? = some (.inl (n, .inr f))) (hin : vp_in i n) (hw' : w.set q (.inl (n, .inr (vp_updL f i.toNatClampNeg x))) = w') (k : Z p l e R s m args below meth c nL D cI cJ as rd kc ks Q (pc + 1) lv st w') : Z p l e R s m args below meth c nL D cI cJ as rd kc ks Q pc lv (.long x :: .int i :: .ref q :: st) w := by
  intro ls H locs hl hP hS hr
  subst hw'
  refine va_last G.1.1 G.1.2.1 G.2.2.1 hP.2 (zD G.2.2.2.1 hP.1) hS q 1 (zat hw) rfl hin hd (fun H1 locs1 h1 h2 h3 => k ls H1 locs1 hl ⟨by rw [List.length_set]; exact hP.1, ?_⟩ h3 (fun z => by rw [hrd] at z; cases z))
  have e := zset (cI := cI) (cJ := cJ) (as := as) (w := w) (k := q) (e := .inl (n, .inr (vp_updL f i.toNatClampNeg x)))
  rw [← e]; exact h1
theorem zz_get {ty : FieldType} {fin : Bool} (G : zok p s m args meth c cc nL own D cI cJ as) {q k ci idx : Nat} {fs : List Value} {v : Value} (hd : decode cc pc = .ok (.getfield idx, 3)) (hf : zfld own idx ci k ty fin) (hw : w[q]? = some (.inr (ci, fs))) (hv : fs[k]? = some v) (kk : Z p l e R s m args below meth c nL D cI cJ as rd kc ks Q (pc + 3) lv (v :: st) w) : Z p l e R s m args below meth c nL D cI cJ as rd kc ks Q pc lv (.ref q :: st) w := by
  intro ls H locs hl hP hS hr
  obtain ⟨C, T, N, ty0, ⟨hc, hin, -, -⟩, hk, hlink, -, -⟩ := hf
  exact va_get G.1.1 G.1.2.1 G.2.1 hin G.1.2.2.2.1 G.2.2.1 hP.2 q (zat hw) hc k hk (G.2.1 _ hlink) (fun _ h => h) (v := zv as v) (by rw [List.getElem?_map, hv]; rfl) hd (kk ls H locs hl hP hS hr)
theorem zz_put {ty : FieldType} (hrd : rd = false) (G : zok p s m args meth c cc nL own D cI cJ as) {q k ci idx : Nat} {fs : List Value} {x : Int32} {w' : zW} (hd : decode cc pc = .ok (.putfield idx, 3)) (hf : zfld own idx ci k ty false) (hn : narrow ty (.int x) = .int x) (hfit : fits ty (.int x) = true) (hw : w[q]? = some (.inr (ci, fs))) (hl0 : k < fs.length) (hw' : w.set q (.inr (ci, fs.set k (.int x))) = w') (kk : Z p l e R s m args below meth c nL D cI cJ as rd kc ks Q (pc + 3) lv st w') : Z p l e R s m args below meth c nL D cI cJ as rd kc ks Q pc lv (.int x :: .ref q :: st) w := by
  intro ls H locs hl hP hS hr
  subst hw'
  obtain ⟨C, T, N, ty0, ⟨hc, hin, hty, hnm⟩, hk, hlink, hte, hfin⟩ := hf
  refine va_put G.1.1 G.1.2.1 G.2.1 hin ty0 hty hnm G.1.2.2.2.1 G.2.2.1 hP.2 (zD G.2.2.2.1 hP.1) hS q (zat hw) hc k hk (G.2.1 _ hlink) (fun _ h => h) hfin (v := .int x) (by rw [hty k hk, hte]) hn hfit (by rw [List.length_map]; exact hl0) hd (fun H1 locs1 h1 h2 h3 => kk ls H1 locs1 hl ⟨by rw [List.length_set]; exact hP.1, ?_⟩ h3 (fun z => by rw [hrd] at z; cases z))
  have e := zset (cI := cI) (cJ := cJ) (as := as) (w := w) (k := q) (e := .inr (ci, fs.set k (.int x)))
  rw [← e]
  have e2 : zce cI cJ as (.inr (ci, fs.set k (.int x))) = .inr (ci, (fs.map (zv as)).set k (.int x)) := by
    show (Sum.inr (ci, (fs.set k (.int x)).map (zv as)) : va_E) = _
    rw [List.map_set]; rfl
  rw [e2]; exact h1
end ZI
end
section
/-! Contracts over the Z layer: a method's arguments and world, and how it ends: an answer and a world, or an exception's class and a world. -/
def zrm (lev : Nat) : Room := { frames := 4 + lev, cells := 1, slots := 6, locals := 100 + 40 * lev }
abbrev zR : Type := (Option Value × zW) ⊕ (String × zW)
def zPc (D : va_G) (cI cJ : ClassId) (as : Nat → Nat) (av : List Value) (w : zW) (sz : Nat) : Array Value → State → Prop := fun v U =>
  v = (av.map (zv as)).toArray ∧ U.heap.size = sz ∧ zinj as ∧ zH D cI cJ as w U.heap ∧ va_K D vwCl [(cI, .int), (cJ, .long)] U ∧ zenv as sz U
def zX (X : String) (q : Addr) (st t : State) : Prop := ∃ ce : Cell, t.heap[q]? = some ce ∧ ce.vm.isStatics = false ∧ st.vm.findClass X = some ce.cls
def zEnd (res : zR) (D : va_G) (cI cJ : ClassId) (as : Nat → Nat) (A : Nat → Prop) (st : State) (o : Outcome) (t : State) : Prop := match res with
  | .inl (r, w') => o = .returned (r.map (zv as)) ∧ zH D cI cJ as w' t.heap ∧ va_F A st t
  | .inr (X, w') => ∃ q : Addr, o = .threw q ∧ zX X q st t ∧ zH D cI cJ as w' t.heap ∧ va_F A st t
def zFE (st t : State) (L : List Loc) (k n : Nat) : Prop := st.WarmedH t.vm ∧ st.sameButNew ({ t with vm := st.vm } : State) L k n
def zF (rd : Bool) (as : Nat → Nat) (sz : Nat) : Nat → Prop := fun q => rd = false ∧ zA as sz q
/-- how many cells and slots are new: gc, gs where it returns; an exception's cell where it throws -/
def zg1 (gc : Nat) : zR → Nat
  | .inl _ => gc
  | .inr _ => 1
def zg2 (gs : Nat) : zR → Nat
  | .inl _ => gs
  | .inr _ => 6
def zMQ (below : List Frame) (res : zR) (D : va_G) (cI cJ : ClassId) (as : Nat → Nat) (rd : Bool) (s : State) (gc gs : Nat) : State → Prop := fun t =>
  ∃ o, t.status = .running ∧ Ended t below o ∧ zEnd res D cI cJ as (zA as s.heap.size) s o t ∧ ∃ L, zFE s t L (zg1 gc res) (zg2 gs res) ∧ ∀ q ∈ L, zF rd as s.heap.size q.base
def zC (l : Launch) (y : MethodName) (ws : List Jvm.Cond) (lev : Nat) (rd : Bool) (gc gs : Nat) (av : List Value) (w : zW) (res : zR) : Prop :=
  ∀ (D : va_G) (cI cJ : ClassId) (as : Nat → Nat) (sz : Nat), MetFree l y (headSpec ws (zrm lev)) (zPc D cI cJ as av w sz) (fun _ _ _ _ _ => True)
    (fun _ st o t => zEnd res D cI cJ as (zA as sz) st o t ∧ ∃ L, zFE st t L (zg1 gc res) (zg2 gs res) ∧ ∀ q ∈ L, zF rd as sz q.base)
def zQ (D : va_G) (cI cJ : ClassId) (as : Nat → Nat) (r : Option Value) (w' : zW) (A : Nat → Prop) : Array Value → State → Outcome → State → Prop := fun _ st oc t =>
  oc = .returned (r.map (zv as)) ∧ zH D cI cJ as w' t.heap ∧ va_F A st t
theorem zH_lt {D : va_G} {cI cJ : ClassId} {as : Nat → Nat} {w : zW} {H : Heap} (h : zH D cI cJ as w H) : ∀ k, k < 11 → as k < H.size := by
  intro k hk
  have hl : k < w.length := by rw [h.1]; exact hk
  have h1 : w[k]? = some w[k] := List.getElem?_eq_getElem hl
  exact (h.2 k _ (zat h1)).lt
/-- a contract by a walk: the method has no exception table -/
theorem zC_of {l : Launch} {y : MethodName} {cc : ByteArray} {nL : Nat} {ret : Option FieldType} {lev : Nat} {rd : Bool} {gc gs : Nat} {av : List Value} {w : zW} {res : zR}
    (lv0 : List (Option Value)) (hy : plainName y.cls = true) (h0 : zlv av ++ List.replicate (nL - (zlv av).length) none = lv0) (hn : (zlv av).length ≤ nL)
    (body : ∀ (p : Program) (e : Env) (s : State) (m : MethodId) (args : Array Value) (below : List Frame) (meth : Method) (c : Code) (D : va_G) (cI cJ : ClassId) (as : Nat → Nat), zok p s m args meth c cc nL y.cls D cI cJ as → meth.sig.returnType = ret → c.exceptionTable.toList = [] → (∀ k, k < 11 → as k < s.heap.size) →
      Z p l e (zrm lev) s m args below meth c nL D cI cJ as rd 0 0 (zMQ below res D cI cJ as rd s gc gs) 0 lv0 [] w) : zC l y (Jvm.Cond.code y cc nL ret :: Tw) lev rd gc gs av w res := by
  intro D cI cJ as sz
  refine MetFree.of_bodyS (code := cc) (maxLocals := nL) (ret := ret) hy ?_ ?_
  · intro args s m h hn
    obtain ⟨meth, c, h1, h2, h3, h4, h5, h6, -, -⟩ := Cond.code_spec hn (atoms_spec (ws := Jvm.Cond.code y cc nL ret :: Tw) h _ List.mem_cons_self)
    exact ⟨meth, c, h1, h2, h3, h4, h5, h6⟩
  · intro p e s m args below meth c s₁ B hml hv _
    obtain ⟨rfl, rfl, hinj, hP, hK, henv⟩ := hv
    have hts := atoms_spec (ws := Jvm.Cond.code y cc nL ret :: Tw) B.pre
    have hown : s.vm.findClass y.cls = some m.cls := findClass_of_methodNamed B.named
    have hh0 : s₁.heap = s.heap := by rw [B.state]; rfl
    have hex : c.exceptionTable.toList = [] := by
      have h1 := BodyLoose.noHandlers B (hts _ List.mem_cons_self)
      simpa using h1
    have hb := body p e s m _ below meth c D cI cJ as ⟨⟨B.exec, B.bytes, hml, hown, B.notSynchronized⟩, fun x hx => hts x (List.mem_cons_of_mem _ hx), hK, hinj, henv⟩ B.returns hex (zH_lt hP) _ _ [] (zL_entry as av h0 hn) hP va_S.rf (fun _ => rfl)
    rw [lg_entry_eq]
    obtain ⟨t, a1, o, b1, b2, b3, L, b4, b5⟩ := hb s₁ hh0 (Stand.of_body B)
    exact ⟨t, o, a1, b1, b2, b3, L, b4, b5⟩
def zcB (own : String) (idx : Nat) (y : MethodName) (cc : ByteArray) (nL : Nat) (ret : Option FieldType) (n : Nat) : Prop :=
  Jvm.Cond.code y cc nL ret ∈ Tw ∧ Jvm.Cond.methodLink own idx y ∈ Tw ∧ Jvm.Cond.initialized y.cls ∈ Tw ∧ (y.cls ≠ "java/lang/invoke/MethodHandle" ∧ y.cls ≠ "java/lang/invoke/VarHandle") ∧ (parseMethodDescriptor y.desc).map (fun d => d.parameters.length) = some n
def zcV (own : String) (idx : Nat) (y : MethodName) (cc : ByteArray) (nL : Nat) (ret : Option FieldType) (n : Nat) : Prop := zcB own idx y cc nL ret n ∧ Jvm.Cond.instanceMethod y ∈ Tw ∧ Jvm.Cond.selects y.cls y y ∈ Tw
def zcS (own : String) (idx : Nat) (y : MethodName) (cc : ByteArray) (nL : Nat) (ret : Option FieldType) (n : Nat) : Prop := zcB own idx y cc nL ret n ∧ Jvm.Cond.static y ∈ Tw
theorem zws {args : Array Value} {s : State} {x0 : Jvm.Cond} (hts : ∀ x ∈ Tw, x.before args s = true) (h1 : x0 ∈ Tw) :
    ∀ w ∈ (x0 :: Tw), ∀ (a' : Array Value) (U : State), s.WarmedH U.vm → w.before a' U = true := by
  intro x hx a' U hW
  rcases List.mem_cons.mp hx with rfl | hx
  · exact zword hW (Tw_good _ h1) (hts _ h1)
  · exact zword hW (Tw_good _ hx) (hts _ hx)
theorem zPc_blind {D : va_G} {cI cJ : ClassId} {as : Nat → Nat} {av : List Value} {w : zW} {sz : Nat} : FrameBlind (zPc D cI cJ as av w sz) := fun a U g mk h =>
  ⟨h.1, h.2.1, h.2.2.1, h.2.2.2.1, va_K.moved (u := U) (U := U.calling g mk a) (Vm.Alike.refl U.vm) h.2.2.2.2.1, zenv_calling h.2.2.2.2.2⟩
theorem zsum (as : Nat → Nat) : ∀ rest : List Value, ((rest.map (zv as)).map fun v => v.category).sum = (rest.map fun v => v.category).sum
  | [] => rfl
  | v :: r => by simp only [List.map_cons, List.sum_cons, zv_cat, zsum as r]
section ZC
variable {p : Program} {l : Launch} {e : Env} {R : Room} {s : State} {m : MethodId} {args : Array Value} {below : List Frame} {meth : Method} {c : Code} {cc : ByteArray} {nL : Nat} {own : String} {D : va_G} {cI cJ : ClassId} {as : Nat → Nat} {rd : Bool} {kc ks : Nat} {Q : State → Prop} {pc : Nat} {lv : List (Option Value)} {st : List Value} {w : zW}
theorem zPc_at (G : zok p s m args meth c cc nL own D cI cJ as) {H : Heap} {locs : List Loc} {av : List Value} (hP : zH D cI cJ as w H) (hS : va_S (zA as s.heap.size) s.heap H locs) (U : State) (hU : U.heap = H) (hW : s.WarmedH U.vm) : zPc D cI cJ as av w H.size (av.map (zv as)).toArray U :=
  ⟨rfl, by rw [hU], G.2.2.2.1, by rw [hU]; exact hP, va_K.moved hW.alike G.2.2.1, zenv_at G.2.2.2.2 hS hU hW⟩
theorem zS_app {H H' : Heap} {locs L : List Loc} {rd' : Bool} (hS : va_S (zA as s.heap.size) s.heap H locs) (hz : H.size ≤ H'.size) (hk : ∀ q : Nat, q < H.size → ¬ zA as H.size q → H'[q]? = H[q]?) (hL : ∀ q ∈ L, zF rd' as H.size q.base) : va_S (zA as s.heap.size) s.heap H' (locs ++ L) := by
  have hA := zA_mono (as := as) hS.1
  refine ⟨Nat.le_trans hS.1 hz, fun q h1 h2 => ?_, fun q hq => ?_⟩
  · rw [hk q (Nat.lt_of_lt_of_le h1 hS.1) (fun z => h2 (hA q z))]
    exact hS.2.1 q h1 h2
  · rcases List.mem_append.mp hq with h | h
    · exact hS.2.2 q h
    · exact hA _ (hL q h).2
theorem zr_app {H : Heap} {locs L : List Loc} {rd' : Bool} (hr : rd = true → locs = []) (hrd : rd = true → rd' = true) (hL : ∀ q ∈ L, zF rd' as H.size q.base) : rd = true → locs ++ L = [] := by
  intro z
  rw [hr z, List.nil_append]
  cases L with
  | nil => rfl
  | cons q L =>
    have h1 := (hL q List.mem_cons_self).1
    rw [hrd z] at h1
    cases h1
variable {res : zR} {gc gs : Nat}
theorem zfree {H : Heap} {locs : List Loc} (hS : va_S (zA as s.heap.size) s.heap H locs) (hr : rd = true → locs = []) : ∀ q ∈ locs, zF rd as s.heap.size q.base := by
  intro q hq
  cases rd with
  | false => exact ⟨rfl, hS.2.2 q hq⟩
  | true =>
    rw [hr rfl] at hq
    cases hq
theorem zW_mono {H : Heap} {locs : List Loc} {Q1 Q2 : State → Prop} {g : JFrame} (h : ∀ t, Q1 t → Q2 t) (k : W p l e R s m args below meth c H locs kc ks Q1 g) : W p l e R s m args below meth c H locs kc ks Q2 g := fun T hT X => by
  obtain ⟨t, a, b⟩ := k T hT X
  exact ⟨t, a, h t b⟩
theorem zMQ_of {r : Option Value} {w' : zW} (t : State) (h : MQ below (zQ D cI cJ as r w' (zA as s.heap.size)) args s gc gs (zF rd as s.heap.size) t) : zMQ below (.inl (r, w')) D cI cJ as rd s gc gs t := by
  obtain ⟨o, h1, h2, h3, L, h4, h5⟩ := h
  exact ⟨o, h1, h2, h3, L, ⟨h4.2.1, h4.2.2⟩, h5⟩
theorem zz_iret (G : zok p s m args meth c cc nL own D cI cJ as) (ht : meth.sig.returnType = some .int) {v : Int32} (hd : decode cc pc = .ok (.ireturn, 1)) (hv : res = .inl (some (.int v), w)) (hc : kc ≤ gc) (hs : ks ≤ gs) :
    Z p l e R s m args below meth c nL D cI cJ as rd kc ks (zMQ below res D cI cJ as rd s gc gs) pc lv [.int v] w := by
  intro ls H locs hl hP hS hr
  subst hv
  refine W.widen hc hs (zW_mono (fun t h => zMQ_of (args := args) t h) ?_)
  exact W.iret G.1.1 G.1.2.1 ht (fun t h _ => ⟨rfl, by rw [h]; exact hP, hS.F h⟩) (zfree hS hr) hd (hlocks := G.1.2.2.2.2)
theorem zz_zret (G : zok p s m args meth c cc nL own D cI cJ as) {ty : FieldType} (ht : meth.sig.returnType = some ty) {v : Int32} (hd : decode cc pc = .ok (.ireturn, 1)) (hn : narrow ty (.int v) = .int v) (hv : res = .inl (some (.int v), w)) (hc : kc ≤ gc) (hs : ks ≤ gs) :
    Z p l e R s m args below meth c nL D cI cJ as rd kc ks (zMQ below res D cI cJ as rd s gc gs) pc lv [.int v] w := by
  intro ls H locs hl hP hS hr
  subst hv
  refine W.widen hc hs (zW_mono (fun t h => zMQ_of (args := args) t h) ?_)
  exact W.zret G.1.1 G.1.2.1 ht hn (fun t h _ => ⟨rfl, by rw [h]; exact hP, hS.F h⟩) (zfree hS hr) hd (hlocks := G.1.2.2.2.2)
theorem zz_lret (G : zok p s m args meth c cc nL own D cI cJ as) (ht : meth.sig.returnType = some .long) {v : Int64} (hd : decode cc pc = .ok (.lreturn, 1)) (hv : res = .inl (some (.long v), w)) (hc : kc ≤ gc) (hs : ks ≤ gs) :
    Z p l e R s m args below meth c nL D cI cJ as rd kc ks (zMQ below res D cI cJ as rd s gc gs) pc lv [.long v] w := by
  intro ls H locs hl hP hS hr
  subst hv
  refine W.widen hc hs (zW_mono (fun t h => zMQ_of (args := args) t h) ?_)
  exact W.lret G.1.1 G.1.2.1 ht (fun t h _ => ⟨rfl, by rw [h]; exact hP, hS.F h⟩) (zfree hS hr) hd (hlocks := G.1.2.2.2.2)
theorem zz_vret (G : zok p s m args meth c cc nL own D cI cJ as) (ht : meth.sig.returnType = none) (hd : decode cc pc = .ok (.return_, 1)) (hv : res = .inl (none, w)) (hc : kc ≤ gc) (hs : ks ≤ gs) :
    Z p l e R s m args below meth c nL D cI cJ as rd kc ks (zMQ below res D cI cJ as rd s gc gs) pc lv [] w := by
  intro ls H locs hl hP hS hr
  subst hv
  refine W.widen hc hs (zW_mono (fun t h => zMQ_of (args := args) t h) ?_)
  exact W.vret G.1.1 G.1.2.1 ht (fun t h _ => ⟨rfl, by rw [h]; exact hP, hS.F h⟩) (zfree hS hr) hd (hlocks := G.1.2.2.2.2)
end ZC
end
section
/-! Calls: a callee that returns, a callee's exception passed on, a new exception thrown. -/
theorem zrun {p : Program} {l : Launch} {e : Env} {R : Room} {s : State} {m : MethodId} {args : Array Value} {below : List Frame} {meth : Method} {c : Code} {T : State} {locs : List Loc} {kc ks : Nat} (X : Stand p l e R s m args below meth c T locs kc ks)
    {y : MethodName} {ws : List Jvm.Cond} {nL' lev' gc gs : Nat} {rd' : Bool} {av : List Value} {w : zW} {res : zR} {D : va_G} {cI cJ : ClassId} {as : Nat → Nat}
    (hM : zC l y ws lev' rd' gc gs av w res) {g : JFrame} (hg : g.method = m) (hsize : g.locals.size = c.maxLocals) {ig : Instr} {len : Nat} (hdg : decode c.code g.pc = .ok (ig, len))
    (hW : 2 * g.monitorRoom + (g.stack.map fun v => v.category).sum ≤ 8) {mk : MethodId} {methY : Method} {cY : Code} (hn : T.methodNamed? y = some mk) (hmY : T.vm.method? mk = some methY) (hcY : methY.code = some cY) (hlY : cY.maxLocals = nL') {a : Array Value}
    (hts : ∀ x ∈ ws, x.before a T = true) (hini : (Jvm.Cond.initialized y.cls).before a T = true) (hP : zPc D cI cJ as av w T.heap.size a T)
    (hR : (zrm lev').frames + 1 ≤ R.frames ∧ 8 + (nL' + 11) + (zrm lev').locals ≤ R.locals) (hf : kc + 1 ≤ R.cells ∧ ks + 6 ≤ R.slots) :
    ∃ (o : Outcome) (t : State) (L : List Loc) (B : State), zEnd res D cI cJ as (zA as T.heap.size) T o t ∧ (∀ q ∈ L, zF rd' as T.heap.size q.base) ∧ B.heap = t.heap ∧ Stand p l e R s m args below meth c B (locs ++ L) (kc + zg1 gc res) (ks + zg2 gs res) ∧
      (∀ v, o = .returned v → Steps p.tables e below (doInvoke e (T.setTop g) [] mk a).1 (B.setTop { g with pc := g.pc + len, stack := v.toList ++ g.stack })) ∧
      (∀ x, o = .threw x → Steps p.tables e below (doInvoke e (T.setTop g) [] mk a).1 ((B.setTop g).pushFrame (.throwing x))) := by
  obtain ⟨kY, hkY, -⟩ := className_of_methodNamed hn
  have hiY : kY.init = .initialized := Cond.initialized_spec (findClass_of_methodNamed hn) hkY hini
  have h : At T g.method c below := by rw [hg]; exact X.here
  have hroom := X.room_calling (g := g) (m' := mk) (args' := a) (R' := zrm lev') hsize hmY hcY hR.1 (by rw [hlY]; have := hR.2; omega) hf.1 hf.2
  have happ : (headSpec ws (zrm lev')).appliesLoose y e.platform (T.calling g mk a) = true := Spec.appliesLoose_calling (g := g) h hdg hn hkY hiY hroom (atoms_intro hts)
  obtain ⟨mid, hmid⟩ := h.above
  have hfr : (T.setTop g).frames = (.java g :: mid) ++ below := by rw [State.frames_setTop' g h.top, hmid]; rfl
  obtain ⟨o, u, hsteps, -, hend, hq, L, hfe, hL⟩ := Steps.callFree (hM D cI cJ as T.heap.size) p X.admits X.cas X.clock (acts := []) hfr happ (zPc_blind a T g mk hP) trivial
  rw [State.frames_setTop' g h.top] at hend
  obtain ⟨hWu, hU, q2, q3, q4, q5, q6⟩ := hfe
  have hWT : T.WarmedH u.vm := hWu
  obtain ⟨g₀, hg0⟩ := Option.isSome_iff_exists.mp h.top
  obtain ⟨r, hr⟩ := State.topJava?_eq_some.mp hg0
  obtain ⟨t0, ht0, -⟩ := State.frames_cons hr
  have hr' : (({ T with heap := u.heap, slotsUsed := u.slotsUsed } : State).setVm u.vm).frames = .java g₀ :: r := hr
  have e1 : u = ({ (T.calling g mk a).setFrames u.frames with heap := u.heap, slotsUsed := u.slotsUsed } : State).setVm u.vm := by
    have e0 : u = ({ u with vm := (T.calling g mk a).vm } : State).setVm u.vm := rfl
    have e2 : ({ u with vm := (T.calling g mk a).vm } : State) = { (T.calling g mk a).setFrames u.frames with heap := u.heap, slotsUsed := u.slotsUsed } := hU
    rw [e2] at e0
    exact e0
  have hsame : T.sameButNew ({ T with heap := u.heap, slotsUsed := u.slotsUsed } : State) L (zg1 gc res) (zg2 gs res) := by
    refine ⟨?_, q2, q3, q4, q5, q6⟩
    show ({ T with heap := u.heap, slotsUsed := u.slotsUsed } : State) = { T.setFrames T.frames with heap := u.heap, slotsUsed := u.slotsUsed }
    rw [State.setFrames_self ht0]
  have hend' : zEnd res D cI cJ as (zA as T.heap.size) T o u := by
    cases res with
    | inl q => exact ⟨hq.1, hq.2.1, hq.2.2.1, hq.2.2.2⟩
    | inr q =>
      obtain ⟨x, z1, z2, z3, z4⟩ := hq
      exact ⟨x, z1, z2, z3, z4.1, z4.2⟩
  subst hg
  refine ⟨o, u, L, (({ T with heap := u.heap, slotsUsed := u.slotsUsed } : State).setVm u.vm), hend', hL, rfl,
    ⟨X.admits, X.cas, X.clock, X.frames, X.room, X.hears, X.method, X.code, (X.here.setHeapUsed u.heap u.slotsUsed).setVm hWT.alike, X.tail, State.WarmedH.trans X.warmed hWT, X.limits, X.bytes, X.same.trans (hsame.setVm s.vm)⟩, fun v hv => ?_, fun x hx => ?_⟩
  · subst hv
    obtain ⟨c₂, i₂, len₂, hc₂, hd₂, hf₂⟩ := hend
    have hcc : c₂ = c := by
      have h1 : u.code? g.method = T.code? g.method := by rw [State.code?_eq, State.code?_eq, hWT.alike.method?]
      exact Option.some.inj (hc₂.symm.trans (h1.trans h.code))
    subst hcc
    have hlen : len₂ = len := by rw [hdg] at hd₂; cases hd₂; rfl
    subst hlen
    have hB : u = (({ T with heap := u.heap, slotsUsed := u.slotsUsed } : State).setVm u.vm).setTop { g with pc := g.pc + len₂, stack := v.toList ++ g.stack } := by
      refine e1.trans ?_
      rw [hf₂, State.calling_eq h.top, State.setFrames_setFrames, State.setTop_of_frames _ hr', hr]
      rfl
    rw [← hB]
    exact hsteps
  · subst hx
    have hend2 : u.frames = .throwing x :: .java g :: T.frames.tail := hend
    have hB : u = ((({ T with heap := u.heap, slotsUsed := u.slotsUsed } : State).setVm u.vm).setTop g).pushFrame (.throwing x) := by
      refine e1.trans ?_
      rw [hend2, State.calling_eq h.top, State.setFrames_setFrames, State.pushFrame, State.frames_setTop _ hr', State.setTop_of_frames _ hr', State.setFrames_setFrames, hr]
      rfl
    rw [← hB]
    exact hsteps
section ZT
variable {p : Program} {l : Launch} {e : Env} {R : Room} {s : State} {m : MethodId} {args : Array Value} {below : List Frame} {meth : Method} {c : Code} {cc : ByteArray} {nL : Nat} {own : String} {D : va_G} {cI cJ : ClassId} {as : Nat → Nat} {rd : Bool} {kc ks : Nat} {Q : State → Prop} {pc : Nat} {lv : List (Option Value)} {st : List Value} {w : zW} {res : zR} {gc gs : Nat}
/-- what an invoke of y does, by its contract -/
def zInv (p : Program) (l : Launch) (e : Env) (R : Room) (s : State) (m : MethodId) (args : Array Value) (below : List Frame) (meth : Method) (c : Code) (D : va_G) (cI cJ : ClassId) (as : Nat → Nat) (V : State) (locs : List Loc) (kc ks : Nat) (g : JFrame) (rest : List Value) (rd' : Bool) (gc gs : Nat) (res : zR) : Prop :=
  ∃ (o : Outcome) (t : State) (L : List Loc) (B U : State), s.vm.Alike U.vm ∧ U.heap = V.heap ∧ zEnd res D cI cJ as (zA as V.heap.size) U o t ∧ (∀ q ∈ L, zF rd' as V.heap.size q.base) ∧ B.heap = t.heap ∧ Stand p l e R s m args below meth c B (locs ++ L) (kc + zg1 gc res) (ks + zg2 gs res) ∧
    (∀ v, o = .returned v → ∀ tg, Steps p.tables e below (B.setTop { g with pc := g.pc + 3, stack := v.toList ++ rest }) tg → Steps p.tables e below (V.setTop g) tg) ∧
    (∀ x, o = .threw x → Steps p.tables e below (V.setTop g) ((B.setTop { g with stack := rest }).pushFrame (.throwing x)))
theorem zinvV (G : zok p s m args meth c cc nL own D cI cJ as) {y : MethodName} {cc' : ByteArray} {nL' lev' gc' gs' idx n k ci N : Nat} {ret' : Option FieldType} {rd' : Bool} {T : u_T} {As rest : List Value} {res' : zR} {fs : List Value} {ls : Array Slot} {H : Heap} {locs : List Loc} {V : State}
    (hM : zC l y (Jvm.Cond.code y cc' nL' ret' :: Tw) lev' rd' gc' gs' (.ref k :: As) w res') (hc : zcV own idx y cc' nL' ret' n) (hd : decode cc pc = .ok (.invokevirtual idx, 3)) (hw : w[k]? = some (.inr (ci, fs))) (hcl : vwCl[ci]? = some (y.cls, T, N)) (hn : As.length = n)
    (hst : st = As.reverse ++ .ref k :: rest) (hwt : (rest.map fun v => v.category).sum ≤ 8) (hR : (zrm lev').frames + 1 ≤ R.frames ∧ 8 + (nL' + 11) + (zrm lev').locals ≤ R.locals) (hf : kc + 1 ≤ R.cells ∧ ks + 6 ≤ R.slots)
    (hl : zL as ls nL lv) (hP : zH D cI cJ as w H) (hS : va_S (zA as s.heap.size) s.heap H locs) (hV : V.heap = H) (X : Stand p l e R s m args below meth c V locs kc ks) :
    zInv p l e R s m args below meth c D cI cJ as V locs kc ks (F0 m pc ls (st.map (zv as))) (rest.map (zv as)) rd' gc' gs' res' := by
  subst hV
  obtain ⟨mk, methM, hnamed, hmethM, hstM, habM⟩ := Cond.instanceMethod_spec (G.2.1 _ hc.2.1)
  obtain ⟨methM', cM, hmethM', hcM, -, hlM, -, -, -, hsigM⟩ := Cond.code_spec hnamed (G.2.1 _ hc.1.1)
  cases hmethM.symm.trans hmethM'
  obtain ⟨cellB, hcB, hoB, hclB⟩ := va_recv G.2.2.1 hP.2 hcl (zat hw)
  obtain ⟨c2, r2, m2, q1, q2, q3, q4, kP, hkP, hkPi⟩ := Cond.selects_spec (G.2.1 _ hc.2.2)
  have hclB' : s.vm.findClass y.cls = some cellB.cls := hclB
  cases hclB'.symm.trans q1
  cases (State.methodFound?_of_named hnamed hc.1.2.2.2.1).symm.trans q2
  cases hnamed.symm.trans q3
  have hselP : selectMethod e.platform s.vm cellB.cls mk = .method mk := by rw [Launch.admits_selectMethod X.admits]; exact q4
  have hlen : (As.map (zv as)).length = methM.sig.parameters.length := by
    have h5 := hc.1.2.2.2.2
    rw [hsigM] at h5
    rw [List.length_map, hn]
    exact (Option.some.inj h5).symm
  obtain ⟨vm₁, X₁, hstep⟩ := X.invokevirtual G.1.1 G.1.2.2.2.1 (G.2.1 _ hc.1.2.1) hnamed hmethM hstM hkP hkPi hc.1.2.2.2.1 (a := as k) (cell := cellB) hcB (fun z h => by rw [h] at hoB; cases hoB) hselP hmethM habM hkP hkPi
    (g := F0 m pc ls (st.map (zv as))) rfl (argsL := As.map (zv as)) (rest := rest.map (zv as)) hlen (by subst hst; simp [zv]) (by rw [G.1.2.1]; exact hd)
  obtain ⟨o, t, L, B, h1, h2, h3, h4, h5, h6⟩ := zrun X₁ hM (nL' := nL') (g := { F0 m pc ls (st.map (zv as)) with stack := rest.map (zv as) }) rfl (hl.2.1.trans G.1.2.2.1.symm) (by rw [G.1.2.1]; exact hd) (lv_room (by rw [zsum]; exact hwt)) (X₁.named hnamed)
    (by rw [X₁.warmed.alike.method?]; exact hmethM) hcM hlM (fun x hx => zws G.2.1 hc.1.1 x hx _ _ X₁.warmed) (zword X₁.warmed (Tw_good _ hc.1.2.2.1) (G.2.1 _ hc.1.2.2.1)) (zPc_at (av := .ref k :: As) G hP hS (V.setVm vm₁) rfl X₁.warmed) hR hf
  refine ⟨o, t, L, B, V.setVm vm₁, X₁.warmed.alike, rfl, h1, h2, h3, h4, fun v hv tg htg => ?_, fun x hx => ?_⟩
  · refine hstep _ (fun acts => ?_)
    rw [doInvoke_state]
    exact (h5 v hv).trans htg
  · refine hstep _ (fun acts => ?_)
    rw [doInvoke_state]
    exact h6 x hx
theorem zinvS (G : zok p s m args meth c cc nL own D cI cJ as) {y : MethodName} {cc' : ByteArray} {nL' lev' gc' gs' idx n : Nat} {ret' : Option FieldType} {rd' : Bool} {As rest : List Value} {res' : zR} {ls : Array Slot} {H : Heap} {locs : List Loc} {V : State}
    (hM : zC l y (Jvm.Cond.code y cc' nL' ret' :: Tw) lev' rd' gc' gs' As w res') (hc : zcS own idx y cc' nL' ret' n) (hd : decode cc pc = .ok (.invokestatic idx, 3)) (hn : As.length = n)
    (hst : st = As.reverse ++ rest) (hwt : (rest.map fun v => v.category).sum ≤ 8) (hR : (zrm lev').frames + 1 ≤ R.frames ∧ 8 + (nL' + 11) + (zrm lev').locals ≤ R.locals) (hf : kc + 1 ≤ R.cells ∧ ks + 6 ≤ R.slots)
    (hl : zL as ls nL lv) (hP : zH D cI cJ as w H) (hS : va_S (zA as s.heap.size) s.heap H locs) (hV : V.heap = H) (X : Stand p l e R s m args below meth c V locs kc ks) :
    zInv p l e R s m args below meth c D cI cJ as V locs kc ks (F0 m pc ls (st.map (zv as))) (rest.map (zv as)) rd' gc' gs' res' := by
  subst hV
  obtain ⟨mk, hnamed⟩ := Cond.code_named (G.2.1 _ hc.1.1)
  obtain ⟨methM, cM, hmethM, hcM, -, hlM, -, -, -, hsigM⟩ := Cond.code_spec hnamed (G.2.1 _ hc.1.1)
  have hstatic : methM.isStatic = true := Cond.static_spec hnamed hmethM (G.2.1 _ hc.2)
  obtain ⟨kP, hkP, -⟩ := className_of_methodNamed hnamed
  have hinitP : kP.init = .initialized := Cond.initialized_spec (findClass_of_methodNamed hnamed) hkP (G.2.1 _ hc.1.2.2.1)
  have hlen : (As.map (zv as)).length = methM.sig.parameters.length := by
    have h5 := hc.1.2.2.2.2
    rw [hsigM] at h5
    rw [List.length_map, hn]
    exact (Option.some.inj h5).symm
  obtain ⟨vm₁, X₁, hstep⟩ := X.invokestatic G.1.1 G.1.2.2.2.1 (G.2.1 _ hc.1.2.1) hnamed hmethM hstatic hkP hinitP hc.1.2.2.2.1
    (g := F0 m pc ls (st.map (zv as))) rfl (argsL := As.map (zv as)) (rest := rest.map (zv as)) hlen (by subst hst; simp) (by rw [G.1.2.1]; exact hd)
  obtain ⟨o, t, L, B, h1, h2, h3, h4, h5, h6⟩ := zrun X₁ hM (nL' := nL') (g := { F0 m pc ls (st.map (zv as)) with stack := rest.map (zv as) }) rfl (hl.2.1.trans G.1.2.2.1.symm) (by rw [G.1.2.1]; exact hd) (lv_room (by rw [zsum]; exact hwt)) (X₁.named hnamed)
    (by rw [X₁.warmed.alike.method?]; exact hmethM) hcM hlM (fun x hx => zws G.2.1 hc.1.1 x hx _ _ X₁.warmed) (zword X₁.warmed (Tw_good _ hc.1.2.2.1) (G.2.1 _ hc.1.2.2.1)) (zPc_at (av := As) G hP hS (V.setVm vm₁) rfl X₁.warmed) hR hf
  refine ⟨o, t, L, B, V.setVm vm₁, X₁.warmed.alike, rfl, h1, h2, h3, h4, fun v hv tg htg => ?_, fun x hx => ?_⟩
  · refine hstep _ (fun acts => ?_)
    rw [doInvoke_state]
    exact (h5 v hv).trans htg
  · refine hstep _ (fun acts => ?_)
    rw [doInvoke_state]
    exact h6 x hx
/-- behind a call that returned -/
theorem zgo {V : State} {locs : List Loc} {ls : Array Slot} {rest : List Value} {rd' : Bool} {gc' gs' : Nat} {r : Option Value} {w' : zW} (hI : zInv p l e R s m args below meth c D cI cJ as V locs kc ks (F0 m pc ls (st.map (zv as))) (rest.map (zv as)) rd' gc' gs' (.inl (r, w')))
    (hl : zL as ls nL lv) (hS : va_S (zA as s.heap.size) s.heap V.heap locs) (hr : rd = true → locs = []) (hrd : rd = true → rd' = true)
    (kk : Z p l e R s m args below meth c nL D cI cJ as rd (kc + gc') (ks + gs') Q (pc + 3) lv (r.toList ++ rest) w') : ∃ t, Steps p.tables e below (V.setTop (F0 m pc ls (st.map (zv as)))) t ∧ Q t := by
  obtain ⟨o, t, L, B, U, hU1, hU2, ⟨ho, hH, hF⟩, hL, e1, XB, hs, -⟩ := hI
  rw [← hU2] at hS hL
  have hS' : va_S (zA as s.heap.size) s.heap t.heap (locs ++ L) := zS_app hS hF.1 (by rw [hU2]; exact fun q z1 z2 => hF.2 q (by rw [hU2]; exact z1) z2 |>.trans (by rw [hU2])) hL
  obtain ⟨t2, a1, b1⟩ := kk ls B.heap (locs ++ L) hl (by rw [e1]; exact hH) (by rw [e1]; exact hS') (zr_app hr hrd hL) B rfl XB
  refine ⟨t2, hs _ ho t2 ?_, b1⟩
  cases r with
  | none => exact a1
  | some v => exact a1
theorem zz_callV (G : zok p s m args meth c cc nL own D cI cJ as) {y : MethodName} {cc' : ByteArray} {nL' lev' gc' gs' idx n k ci N : Nat} {ret' : Option FieldType} {rd' : Bool} {T : u_T} {As rest : List Value} {r : Option Value} {w' : zW} {fs : List Value}
    (hM : zC l y (Jvm.Cond.code y cc' nL' ret' :: Tw) lev' rd' gc' gs' (.ref k :: As) w (.inl (r, w'))) (hc : zcV own idx y cc' nL' ret' n) (hd : decode cc pc = .ok (.invokevirtual idx, 3)) (hw : w[k]? = some (.inr (ci, fs))) (hcl : vwCl[ci]? = some (y.cls, T, N)) (hn : As.length = n)
    (hst : st = As.reverse ++ .ref k :: rest) (hwt : (rest.map fun v => v.category).sum ≤ 8) (hrd : rd = true → rd' = true) (hR : (zrm lev').frames + 1 ≤ R.frames ∧ 8 + (nL' + 11) + (zrm lev').locals ≤ R.locals) (hf : kc + 1 ≤ R.cells ∧ ks + 6 ≤ R.slots)
    (kk : Z p l e R s m args below meth c nL D cI cJ as rd (kc + gc') (ks + gs') Q (pc + 3) lv (r.toList ++ rest) w') : Z p l e R s m args below meth c nL D cI cJ as rd kc ks Q pc lv st w := by
  intro ls H locs hl hP hS hr V hV X
  have hI := zinvV G hM hc hd hw hcl hn hst hwt hR hf hl hP hS hV X
  exact zgo hI hl (by rw [hV]; exact hS) hr hrd kk
theorem zz_callS (G : zok p s m args meth c cc nL own D cI cJ as) {y : MethodName} {cc' : ByteArray} {nL' lev' gc' gs' idx n : Nat} {ret' : Option FieldType} {rd' : Bool} {As rest : List Value} {r : Option Value} {w' : zW}
    (hM : zC l y (Jvm.Cond.code y cc' nL' ret' :: Tw) lev' rd' gc' gs' As w (.inl (r, w'))) (hc : zcS own idx y cc' nL' ret' n) (hd : decode cc pc = .ok (.invokestatic idx, 3)) (hn : As.length = n)
    (hst : st = As.reverse ++ rest) (hwt : (rest.map fun v => v.category).sum ≤ 8) (hrd : rd = true → rd' = true) (hR : (zrm lev').frames + 1 ≤ R.frames ∧ 8 + (nL' + 11) + (zrm lev').locals ≤ R.locals) (hf : kc + 1 ≤ R.cells ∧ ks + 6 ≤ R.slots)
    (kk : Z p l e R s m args below meth c nL D cI cJ as rd (kc + gc') (ks + gs') Q (pc + 3) lv (r.toList ++ rest) w') : Z p l e R s m args below meth c nL D cI cJ as rd kc ks Q pc lv st w := by
  intro ls H locs hl hP hS hr V hV X
  have hI := zinvS G hM hc hd hn hst hwt hR hf hl hP hS hV X
  exact zgo hI hl (by rw [hV]; exact hS) hr hrd kk
/-- the exception leaves this method too -/
theorem zleave {V : State} {locs : List Loc} {ls : Array Slot} {rest : List Value} {rd' : Bool} {gc' gs' : Nat} {Xn : String} {w' : zW} (G : zok p s m args meth c cc nL own D cI cJ as) (hI : zInv p l e R s m args below meth c D cI cJ as V locs kc ks (F0 m pc ls (st.map (zv as))) (rest.map (zv as)) rd' gc' gs' (.inr (Xn, w')))
    (hex : c.exceptionTable.toList = []) (hS : va_S (zA as s.heap.size) s.heap V.heap locs) (hr : rd = true → locs = []) (hrd : rd = true → rd' = true) (hres : res = .inr (Xn, w')) (hkc : kc = 0) (hks : ks = 0) :
    ∃ u, Steps p.tables e below (V.setTop (F0 m pc ls (st.map (zv as)))) u ∧ zMQ below res D cI cJ as rd s gc gs u := by
  obtain ⟨o, t, L, B, U, hU1, hU2, ⟨x, ho, hX, hH, hF⟩, hL, e1, XB, -, hs⟩ := hI
  subst hkc
  subst hks
  rw [← hU2] at hS hL
  have hS' : va_S (zA as s.heap.size) s.heap t.heap (locs ++ L) := zS_app hS hF.1 (by rw [hU2]; exact fun q z1 z2 => hF.2 q (by rw [hU2]; exact z1) z2 |>.trans (by rw [hU2])) hL
  have XB' : Stand p l e R s m args below meth c B (locs ++ L) 1 6 := stand_widen XB (by show 0 + 1 ≤ 1; omega) (by show 0 + 6 ≤ 6; omega)
  obtain ⟨hwalk, hrun, hended, hWU, hsame⟩ := XB'.leaveThrown x (g := { F0 m pc ls (st.map (zv as)) with stack := rest.map (zv as) }) rfl rfl rfl (by rw [hex]; intro _ h; cases h) (hlocks := G.1.2.2.2.2)
  subst hres
  refine ⟨_, (hs x ho).trans hwalk, .threw x, hrun, hended, ?_, locs ++ L, ⟨hWU, hsame⟩, zfree hS' (zr_app hr hrd hL)⟩
  obtain ⟨ce, k1, k2, k3⟩ := hX
  refine ⟨x, rfl, ⟨ce, ?_, k2, ?_⟩, ?_, hS'.F e1⟩
  · show B.heap[x]? = some ce
    rw [e1]; exact k1
  · rw [← hU1.findClass]; exact k3
  · show zH D cI cJ as w' B.heap
    rw [e1]; exact hH
theorem zz_thrV (G : zok p s m args meth c cc nL own D cI cJ as) {y : MethodName} {cc' : ByteArray} {nL' lev' gc' gs' idx n k ci N : Nat} {ret' : Option FieldType} {rd' : Bool} {T : u_T} {As rest : List Value} {w' : zW} {Xn : String} {fs : List Value}
    (hM : zC l y (Jvm.Cond.code y cc' nL' ret' :: Tw) lev' rd' gc' gs' (.ref k :: As) w (.inr (Xn, w'))) (hc : zcV own idx y cc' nL' ret' n) (hd : decode cc pc = .ok (.invokevirtual idx, 3)) (hw : w[k]? = some (.inr (ci, fs))) (hcl : vwCl[ci]? = some (y.cls, T, N)) (hn : As.length = n)
    (hst : st = As.reverse ++ .ref k :: rest) (hwt : (rest.map fun v => v.category).sum ≤ 8) (hrd : rd = true → rd' = true) (hR : (zrm lev').frames + 1 ≤ R.frames ∧ 8 + (nL' + 11) + (zrm lev').locals ≤ R.locals) (hf : kc + 1 ≤ R.cells ∧ ks + 6 ≤ R.slots)
    (hex : c.exceptionTable.toList = []) (hres : res = .inr (Xn, w')) (hkc : kc = 0) (hks : ks = 0) : Z p l e R s m args below meth c nL D cI cJ as rd kc ks (zMQ below res D cI cJ as rd s gc gs) pc lv st w := by
  intro ls H locs hl hP hS hr V hV X
  exact zleave G (zinvV G hM hc hd hw hcl hn hst hwt hR hf hl hP hS hV X) hex (by rw [hV]; exact hS) hr hrd hres hkc hks
theorem zz_thrS (G : zok p s m args meth c cc nL own D cI cJ as) {y : MethodName} {cc' : ByteArray} {nL' lev' gc' gs' idx n : Nat} {ret' : Option FieldType} {rd' : Bool} {As rest : List Value} {w' : zW} {Xn : String}
    (hM : zC l y (Jvm.Cond.code y cc' nL' ret' :: Tw) lev' rd' gc' gs' As w (.inr (Xn, w'))) (hc : zcS own idx y cc' nL' ret' n) (hd : decode cc pc = .ok (.invokestatic idx, 3)) (hn : As.length = n)
    (hst : st = As.reverse ++ rest) (hwt : (rest.map fun v => v.category).sum ≤ 8) (hrd : rd = true → rd' = true) (hR : (zrm lev').frames + 1 ≤ R.frames ∧ 8 + (nL' + 11) + (zrm lev').locals ≤ R.locals) (hf : kc + 1 ≤ R.cells ∧ ks + 6 ≤ R.slots)
    (hex : c.exceptionTable.toList = []) (hres : res = .inr (Xn, w')) (hkc : kc = 0) (hks : ks = 0) : Z p l e R s m args below meth c nL D cI cJ as rd kc ks (zMQ below res D cI cJ as rd s gc gs) pc lv st w := by
  intro ls H locs hl hP hS hr V hV X
  exact zleave G (zinvS G hM hc hd hn hst hwt hR hf hl hP hS hV X) hex (by rw [hV]; exact hS) hr hrd hres hkc hks
end ZT
/-! the same, by what is answered; nothing is made -/
section ZV
variable {p : Program} {l : Launch} {e : Env} {R : Room} {s : State} {m : MethodId} {args : Array Value} {below : List Frame} {meth : Method} {c : Code} {cc : ByteArray} {nL : Nat} {own : String} {D : va_G} {cI cJ : ClassId} {as : Nat → Nat} {rd : Bool} {kc ks : Nat} {Q : State → Prop} {pc : Nat} {lv : List (Option Value)} {st : List Value} {w : zW}
theorem zz_callVi (G : zok p s m args meth c cc nL own D cI cJ as) {y : MethodName} {cc' : ByteArray} {nL' lev' idx n k ci N : Nat} {ret' : Option FieldType} {rd' : Bool} {T : u_T} {As rest : List Value} {v : Int32} {w' : zW} {fs : List Value}
    (hM : zC l y (Jvm.Cond.code y cc' nL' ret' :: Tw) lev' rd' 0 0 (.ref k :: As) w (.inl (some (.int v), w'))) (hc : zcV own idx y cc' nL' ret' n) (hd : decode cc pc = .ok (.invokevirtual idx, 3)) (hw : w[k]? = some (.inr (ci, fs))) (hcl : vwCl[ci]? = some (y.cls, T, N)) (hn : As.length = n)
    (hst : st = As.reverse ++ .ref k :: rest) (hwt : (rest.map fun v => v.category).sum ≤ 8) (hrd : rd = true → rd' = true) (hR : (zrm lev').frames + 1 ≤ R.frames ∧ 8 + (nL' + 11) + (zrm lev').locals ≤ R.locals) (hf : kc + 1 ≤ R.cells ∧ ks + 6 ≤ R.slots)
    (kk : Z p l e R s m args below meth c nL D cI cJ as rd kc ks Q (pc + 3) lv (.int v :: rest) w') : Z p l e R s m args below meth c nL D cI cJ as rd kc ks Q pc lv st w :=
  zz_callV G hM hc hd hw hcl hn hst hwt hrd hR hf kk
theorem zz_callVl (G : zok p s m args meth c cc nL own D cI cJ as) {y : MethodName} {cc' : ByteArray} {nL' lev' idx n k ci N : Nat} {ret' : Option FieldType} {rd' : Bool} {T : u_T} {As rest : List Value} {v : Int64} {w' : zW} {fs : List Value}
    (hM : zC l y (Jvm.Cond.code y cc' nL' ret' :: Tw) lev' rd' 0 0 (.ref k :: As) w (.inl (some (.long v), w'))) (hc : zcV own idx y cc' nL' ret' n) (hd : decode cc pc = .ok (.invokevirtual idx, 3)) (hw : w[k]? = some (.inr (ci, fs))) (hcl : vwCl[ci]? = some (y.cls, T, N)) (hn : As.length = n)
    (hst : st = As.reverse ++ .ref k :: rest) (hwt : (rest.map fun v => v.category).sum ≤ 8) (hrd : rd = true → rd' = true) (hR : (zrm lev').frames + 1 ≤ R.frames ∧ 8 + (nL' + 11) + (zrm lev').locals ≤ R.locals) (hf : kc + 1 ≤ R.cells ∧ ks + 6 ≤ R.slots)
    (kk : Z p l e R s m args below meth c nL D cI cJ as rd kc ks Q (pc + 3) lv (.long v :: rest) w') : Z p l e R s m args below meth c nL D cI cJ as rd kc ks Q pc lv st w :=
  zz_callV G hM hc hd hw hcl hn hst hwt hrd hR hf kk
theorem zz_callVv (G : zok p s m args meth c cc nL own D cI cJ as) {y : MethodName} {cc' : ByteArray} {nL' lev' idx n k ci N : Nat} {ret' : Option FieldType} {rd' : Bool} {T : u_T} {As rest : List Value} {w' : zW} {fs : List Value}
    (hM : zC l y (Jvm.Cond.code y cc' nL' ret' :: Tw) lev' rd' 0 0 (.ref k :: As) w (.inl (none, w'))) (hc : zcV own idx y cc' nL' ret' n) (hd : decode cc pc = .ok (.invokevirtual idx, 3)) (hw : w[k]? = some (.inr (ci, fs))) (hcl : vwCl[ci]? = some (y.cls, T, N)) (hn : As.length = n)
    (hst : st = As.reverse ++ .ref k :: rest) (hwt : (rest.map fun v => v.category).sum ≤ 8) (hrd : rd = true → rd' = true) (hR : (zrm lev').frames + 1 ≤ R.frames ∧ 8 + (nL' + 11) + (zrm lev').locals ≤ R.locals) (hf : kc + 1 ≤ R.cells ∧ ks + 6 ≤ R.slots)
    (kk : Z p l e R s m args below meth c nL D cI cJ as rd kc ks Q (pc + 3) lv (rest) w') : Z p l e R s m args below meth c nL D cI cJ as rd kc ks Q pc lv st w :=
  zz_callV G hM hc hd hw hcl hn hst hwt hrd hR hf kk
theorem zz_callSi (G : zok p s m args meth c cc nL own D cI cJ as) {y : MethodName} {cc' : ByteArray} {nL' lev' idx n : Nat} {ret' : Option FieldType} {rd' : Bool} {As rest : List Value} {v : Int32} {w' : zW}
    (hM : zC l y (Jvm.Cond.code y cc' nL' ret' :: Tw) lev' rd' 0 0 As w (.inl (some (.int v), w'))) (hc : zcS own idx y cc' nL' ret' n) (hd : decode cc pc = .ok (.invokestatic idx, 3)) (hn : As.length = n)
    (hst : st = As.reverse ++ rest) (hwt : (rest.map fun v => v.category).sum ≤ 8) (hrd : rd = true → rd' = true) (hR : (zrm lev').frames + 1 ≤ R.frames ∧ 8 + (nL' + 11) + (zrm lev').locals ≤ R.locals) (hf : kc + 1 ≤ R.cells ∧ ks + 6 ≤ R.slots)
    (kk : Z p l e R s m args below meth c nL D cI cJ as rd kc ks Q (pc + 3) lv (.int v :: rest) w') : Z p l e R s m args below meth c nL D cI cJ as rd kc ks Q pc lv st w :=
  zz_callS G hM hc hd hn hst hwt hrd hR hf kk
theorem zz_callSl (G : zok p s m args meth c cc nL own D cI cJ as) {y : MethodName} {cc' : ByteArray} {nL' lev' idx n : Nat} {ret' : Option FieldType} {rd' : Bool} {As rest : List Value} {v : Int64} {w' : zW}
    (hM : zC l y (Jvm.Cond.code y cc' nL' ret' :: Tw) lev' rd' 0 0 As w (.inl (some (.long v), w'))) (hc : zcS own idx y cc' nL' ret' n) (hd : decode cc pc = .ok (.invokestatic idx, 3)) (hn : As.length = n)
    (hst : st = As.reverse ++ rest) (hwt : (rest.map fun v => v.category).sum ≤ 8) (hrd : rd = true → rd' = true) (hR : (zrm lev').frames + 1 ≤ R.frames ∧ 8 + (nL' + 11) + (zrm lev').locals ≤ R.locals) (hf : kc + 1 ≤ R.cells ∧ ks + 6 ≤ R.slots)
    (kk : Z p l e R s m args below meth c nL D cI cJ as rd kc ks Q (pc + 3) lv (.long v :: rest) w') : Z p l e R s m args below meth c nL D cI cJ as rd kc ks Q pc lv st w :=
  zz_callS G hM hc hd hn hst hwt hrd hR hf kk
theorem zz_callSv (G : zok p s m args meth c cc nL own D cI cJ as) {y : MethodName} {cc' : ByteArray} {nL' lev' idx n : Nat} {ret' : Option FieldType} {rd' : Bool} {As rest : List Value} {w' : zW}
    (hM : zC l y (Jvm.Cond.code y cc' nL' ret' :: Tw) lev' rd' 0 0 As w (.inl (none, w'))) (hc : zcS own idx y cc' nL' ret' n) (hd : decode cc pc = .ok (.invokestatic idx, 3)) (hn : As.length = n)
    (hst : st = As.reverse ++ rest) (hwt : (rest.map fun v => v.category).sum ≤ 8) (hrd : rd = true → rd' = true) (hR : (zrm lev').frames + 1 ≤ R.frames ∧ 8 + (nL' + 11) + (zrm lev').locals ≤ R.locals) (hf : kc + 1 ≤ R.cells ∧ ks + 6 ≤ R.slots)
    (kk : Z p l e R s m args below meth c nL D cI cJ as rd kc ks Q (pc + 3) lv (rest) w') : Z p l e R s m args below meth c nL D cI cJ as rd kc ks Q pc lv st w :=
  zz_callS G hM hc hd hn hst hwt hrd hR hf kk
end ZV
end
section
/-! A new exception with a text, thrown out of the method. -/
def zown (own : String) (i0 i1 i2 : Nat) (Xn tx : String) (names : List String) : Prop :=
  Jvm.Cond.classLink own i0 Xn ∈ Tw ∧ Jvm.Cond.instantiable Xn 6 ∈ Tw ∧ Jvm.Cond.initialized Xn ∈ Tw ∧ (own, i1, tx) ∈ zstr ∧ Jvm.Bundle.fit Xn = true ∧ (∀ n ∈ names, Jvm.Bundle.fit n = true) ∧
  ∀ a ∈ Jvm.Bundle.ownAtoms own i2 Xn names, a ∈ Tw ∨ a = .laysStatic Jvm.Bundle.tN "UNASSIGNED_STACK" Jvm.Bundle.steD ∨ a = .laysStatic Jvm.Bundle.tN "SUPPRESSED_SENTINEL" Jvm.Bundle.listD ∨ a = .isRef (.static Jvm.Bundle.tN "UNASSIGNED_STACK" Jvm.Bundle.steD) ∨ a = .isRef (.static Jvm.Bundle.tN "SUPPRESSED_SENTINEL" Jvm.Bundle.listD)
theorem z_same {s U : State} {k n : Nat} (h : s.sameButNew ({ U with vm := s.vm } : State) [] k n) : s.heap.size ≤ U.heap.size ∧ ∀ q : Nat, q < s.heap.size → U.heap[q]? = s.heap[q]? := by
  obtain ⟨-, h2, -, -, -, h6⟩ := h
  refine ⟨h2, fun q hq => ?_⟩
  have h1 : s.heap[q]? = some s.heap[q] := Array.getElem?_eq_getElem hq
  obtain ⟨c', g1, g2, g3, g4⟩ := h6 q _ h1
  have e1 : c'.slots = s.heap[q].slots := Array.ext_getElem? (fun i => g4 i (by intro z; cases z))
  have e2 : c' = s.heap[q] := by rw [g2, e1]
  rw [h1, ← e2]
  exact g1
section ZX
variable {p : Program} {l : Launch} {e : Env} {R : Room} {s : State} {m : MethodId} {args : Array Value} {below : List Frame} {meth : Method} {c : Code} {cc : ByteArray} {nL : Nat} {own : String} {D : va_G} {cI cJ : ClassId} {as : Nat → Nat} {rd : Bool} {kc ks : Nat} {pc : Nat} {lv : List (Option Value)} {w : zW} {res : zR} {gc gs : Nat}
theorem zz_throw (hfl : l.flags = Jvm.pinnedFlags ++ [Jvm.noTraceFlag]) (G : zok p s m args meth c cc nL own D cI cJ as) {i0 i1 i2 : Nat} {Xn tx : String} {names : List String} (hd0 : decode cc pc = .ok (.new i0, 3)) (hd3 : decode cc (pc + 3) = .ok (.dup, 1)) (hd4 : decode cc (pc + 4) = .ok (.ldc i1, 2)) (hd6 : decode cc (pc + 6) = .ok (.invokespecial i2, 3)) (hd9 : decode cc (pc + 9) = .ok (.athrow, 1))
    (ho : zown own i0 i1 i2 Xn tx names) (hrd : rd = true) (hbd : ∀ k, k < 11 → as k < s.heap.size) (hex : c.exceptionTable.toList = []) (hR : names.length + 3 < R.frames ∧ 13 * (names.length + 1) + 50 ≤ R.locals) (hf : kc + 1 ≤ R.cells ∧ ks + 6 ≤ R.slots) (hres : res = .inr (Xn, w)) (hkc : kc = 0) (hks : ks = 0) :
    Z p l e R s m args below meth c nL D cI cJ as rd kc ks (zMQ below res D cI cJ as rd s gc gs) pc lv [] w := by
  intro ls H locs hl hP hS hr
  have hlocs : locs = [] := hr hrd
  subst hlocs
  subst hkc
  subst hks
  obtain ⟨o1, o2, o3, o4, o5, o6, o7⟩ := ho
  obtain ⟨q, hq⟩ := G.2.2.2.2.2.2 _ o4
  refine W.newc G.1.1 G.1.2.1 G.1.2.2.2.1 (G.2.1 _ o1) (G.2.1 _ o2) (G.2.1 _ o3) rfl hd0 hf.1 hf.2 (fun cC kC h1 h2 h3 h4 => ?_)
  refine lv_dup (va := .ref H.size) G.1.1 G.1.2.1 hd3 rfl ?_
  refine va_ldcS G.1.1 G.1.2.1 G.1.2.2.2.1 hq hd4 ?_
  intro T hT X
  have hat : ∀ a ∈ Jvm.Bundle.ownAtoms own i2 Xn names, a.before args s = true := by
    intro a ha
    rcases o7 a ha with z | z | z | z | z
    · exact G.2.1 _ z
    · rw [z]; exact zst_lays G.2.2.2.2.1
    · rw [z]; exact zst_lays G.2.2.2.2.2.1
    · rw [z]; exact zst_ref G.2.2.2.2.1
    · rw [z]; exact zst_ref G.2.2.2.2.2.1
  have htr : e.platform.stackTraces = false := Launch.traces_off hfl X.admits
  obtain ⟨U, hst, hrun, hend, hWU, hsame, ce, hce, hOC⟩ := X.ctorThrowS G.1.1 htr (own := own) (cls := Xn) (names := names) (ic := i2) G.1.2.2.2.1 o5 o6 hat (fun x hx => by cases hx) (a := H.size) h1 h2
    (by rw [hT, Array.getElem?_push_size]) hS.1 (msg := .ref q) rfl (g := F0 m (pc + 3 + 1 + 2) ls [.ref q, .ref H.size, .ref H.size]) rfl (hl.2.1.trans G.1.2.2.1.symm) rfl rfl (rest := []) rfl (by rw [G.1.2.1]; exact hd6) (by rw [G.1.2.1]; exact hd9) (by rw [hex]; intro _ h; cases h)
    hR.1 (by simp [Value.category, JFrame.monitorRoom]; have := hR.2; omega) (hlocks := G.1.2.2.2.2)
  subst hres
  obtain ⟨z1, z2⟩ := z_same hsame
  obtain ⟨-, y2⟩ := z_same (U := T) X.same
  refine ⟨U, hst, .threw H.size, hrun, hend, ⟨H.size, rfl, ⟨ce, hce, ?_, hOC.cls⟩, ⟨hP.1, ?_⟩, z1, fun q h1 _ => z2 q h1⟩, [], ⟨hWU, ?_⟩, fun q hq => by cases hq⟩
  · rw [hOC.vm]; rfl
  · refine hP.2.kept (fun k x hx => ?_)
    rw [zwi_get] at hx
    obtain ⟨e1, k1, k2⟩ := Option.map_eq_some_iff.mp hx
    subst k2
    have hk11 : k < 11 := by have := (List.getElem?_eq_some_iff.mp k1).1; rw [hP.1] at this; exact this
    have hlt : as (0 + k) < s.heap.size := by rw [Nat.zero_add]; exact hbd k hk11
    show U.heap[as (0 + k)]? = H[as (0 + k)]?
    rw [z2 _ hlt]
    have h5 := y2 _ hlt
    rw [hT, Array.getElem?_push, if_neg (Nat.ne_of_lt (Nat.lt_of_lt_of_le hlt hS.1))] at h5
    exact h5.symm
  · exact hsame
end ZX
end
section
theorem tw_0 : Jvm.Cond.selects "AsOfLedger" yX_linkBefore yX_linkBefore ∈ Tw := Tw_in (List.mem_of_getElem? (i := 0) (by decide +kernel)) (by decide +kernel)
theorem tw_1 : Jvm.Cond.selects "AsOfLedger" yX_linkOfWords yX_linkOfWords ∈ Tw := Tw_in (List.mem_of_getElem? (i := 1) (by decide +kernel)) (by decide +kernel)
theorem tw_2 : Jvm.Cond.selects "AsOfLedger" yX_word yX_word ∈ Tw := Tw_in (List.mem_of_getElem? (i := 2) (by decide +kernel)) (by decide +kernel)
theorem tw_3 : Jvm.Cond.selects "AsOfLedger" yX_isVersion yX_isVersion ∈ Tw := Tw_in (List.mem_of_getElem? (i := 3) (by decide +kernel)) (by decide +kernel)
theorem tw_4 : Jvm.Cond.selects "AsOfLedger" yX_refuseIfTampered yX_refuseIfTampered ∈ Tw := Tw_in (List.mem_of_getElem? (i := 4) (by decide +kernel)) (by decide +kernel)
theorem tw_6 : Jvm.Cond.selects "AsOfLedger" yX_refuseIfFull yX_refuseIfFull ∈ Tw := Tw_in (List.mem_of_getElem? (i := 6) (by decide +kernel)) (by decide +kernel)
theorem tw_7 : Jvm.Cond.selects "AsOfLedger" yX_refuseIfTurnoverTooHigh yX_refuseIfTurnoverTooHigh ∈ Tw := Tw_in (List.mem_of_getElem? (i := 7) (by decide +kernel)) (by decide +kernel)
theorem tw_8 : Jvm.Cond.selects "AsOfLedger" yX_turnoverOf yX_turnoverOf ∈ Tw := Tw_in (List.mem_of_getElem? (i := 8) (by decide +kernel)) (by decide +kernel)
theorem tw_9 : Jvm.Cond.selects "AsOfLedger" yX_isCurrent yX_isCurrent ∈ Tw := Tw_in (List.mem_of_getElem? (i := 9) (by decide +kernel)) (by decide +kernel)
theorem tw_10 : Jvm.Cond.selects "AsOfLedger" yX_touches yX_touches ∈ Tw := Tw_in (List.mem_of_getElem? (i := 10) (by decide +kernel)) (by decide +kernel)
theorem tw_11 : Jvm.Cond.selects "AsOfLedger" yX_append yX_append ∈ Tw := Tw_in (List.mem_of_getElem? (i := 11) (by decide +kernel)) (by decide +kernel)
theorem tw_12 : Jvm.Cond.selects "AsOfLedger" yX_versionToReplace yX_versionToReplace ∈ Tw := Tw_in (List.mem_of_getElem? (i := 12) (by decide +kernel)) (by decide +kernel)
theorem tw_13 : Jvm.Cond.selects "AsOfLedger" yX_currentVersion yX_currentVersion ∈ Tw := Tw_in (List.mem_of_getElem? (i := 13) (by decide +kernel)) (by decide +kernel)
theorem tw_14 : Jvm.Cond.selects "AsOfLedger" yX_replace yX_replace ∈ Tw := Tw_in (List.mem_of_getElem? (i := 14) (by decide +kernel)) (by decide +kernel)
theorem tw_15 : Jvm.Cond.selects "AsOfLedger" yX_isTime yX_isTime ∈ Tw := Tw_in (List.mem_of_getElem? (i := 15) (by decide +kernel)) (by decide +kernel)
theorem tw_16 : Jvm.Cond.selects "AsOfLedger" yX_balanceOf yX_balanceOf ∈ Tw := Tw_in (List.mem_of_getElem? (i := 16) (by decide +kernel)) (by decide +kernel)
theorem tw_17 : Jvm.Cond.selects "AsOfLedger" yX_movedBy yX_movedBy ∈ Tw := Tw_in (List.mem_of_getElem? (i := 17) (by decide +kernel)) (by decide +kernel)
theorem tw_18 : Jvm.Cond.selects "AsOfLedger" yX_insertIntoCursor yX_insertIntoCursor ∈ Tw := Tw_in (List.mem_of_getElem? (i := 18) (by decide +kernel)) (by decide +kernel)
theorem tw_19 : Jvm.Cond.selects "AsOfLedger" yX_comesBefore yX_comesBefore ∈ Tw := Tw_in (List.mem_of_getElem? (i := 19) (by decide +kernel)) (by decide +kernel)
theorem tw_20 : Jvm.Cond.selects "AsOfLedgerModel" yM_tooMuch yM_tooMuch ∈ Tw := Tw_in (List.mem_of_getElem? (i := 20) (by decide +kernel)) (by decide +kernel)
theorem tw_21 : Jvm.Cond.selects "AsOfLedgerModel" yM_turnoverNow yM_turnoverNow ∈ Tw := Tw_in (List.mem_of_getElem? (i := 21) (by decide +kernel)) (by decide +kernel)
theorem tw_22 : Jvm.Cond.selects "AsOfLedgerModel" yM_currentAt yM_currentAt ∈ Tw := Tw_in (List.mem_of_getElem? (i := 22) (by decide +kernel)) (by decide +kernel)
theorem tw_23 : Jvm.Cond.selects "AsOfLedgerModel" yM_word yM_word ∈ Tw := Tw_in (List.mem_of_getElem? (i := 23) (by decide +kernel)) (by decide +kernel)
theorem tw_24 : Jvm.Cond.selects "AsOfLedgerModel" yM_add yM_add ∈ Tw := Tw_in (List.mem_of_getElem? (i := 24) (by decide +kernel)) (by decide +kernel)
theorem tw_25 : Jvm.Cond.selects "AsOfLedgerModel" yM_write yM_write ∈ Tw := Tw_in (List.mem_of_getElem? (i := 25) (by decide +kernel)) (by decide +kernel)
theorem tw_26 : Jvm.Cond.selects "AsOfLedgerModel" yM_linkBefore yM_linkBefore ∈ Tw := Tw_in (List.mem_of_getElem? (i := 26) (by decide +kernel)) (by decide +kernel)
theorem tw_27 : Jvm.Cond.selects "AsOfLedgerModel" yM_linkOf yM_linkOf ∈ Tw := Tw_in (List.mem_of_getElem? (i := 27) (by decide +kernel)) (by decide +kernel)
theorem tw_28 : Jvm.Cond.selects "AsOfLedgerModel" yM_living yM_living ∈ Tw := Tw_in (List.mem_of_getElem? (i := 28) (by decide +kernel)) (by decide +kernel)
theorem tw_29 : Jvm.Cond.selects "AsOfLedgerModel" yM_isTime yM_isTime ∈ Tw := Tw_in (List.mem_of_getElem? (i := 29) (by decide +kernel)) (by decide +kernel)
theorem tw_30 : Jvm.Cond.selects "AsOfLedgerModel" yM_balanceAt yM_balanceAt ∈ Tw := Tw_in (List.mem_of_getElem? (i := 30) (by decide +kernel)) (by decide +kernel)
theorem tw_31 : Jvm.Cond.selects "AsOfLedgerModel" yM_belongs yM_belongs ∈ Tw := Tw_in (List.mem_of_getElem? (i := 31) (by decide +kernel)) (by decide +kernel)
theorem tw_33 : Jvm.Cond.initialized "AsOfLedger" ∈ Tw := Tw_in (List.mem_of_getElem? (i := 33) (by decide +kernel)) (by decide +kernel)
theorem tw_34 : Jvm.Cond.initialized "AsOfLedgerModel" ∈ Tw := Tw_in (List.mem_of_getElem? (i := 34) (by decide +kernel)) (by decide +kernel)
theorem tw_43 : Jvm.Cond.initialized "java/lang/Integer" ∈ Tw := Tw_in (List.mem_of_getElem? (i := 43) (by decide +kernel)) (by decide +kernel)
theorem tw_52 : Jvm.Cond.fieldLink "AsOfLedger" 9 "AsOfLedger" "words" "[I" ∈ Tw := Tw_in (List.mem_of_getElem? (i := 52) (by decide +kernel)) (by decide +kernel)
theorem tw_53 : Jvm.Cond.fieldLink "AsOfLedger" 13 "AsOfLedger" "links" "[J" ∈ Tw := Tw_in (List.mem_of_getElem? (i := 53) (by decide +kernel)) (by decide +kernel)
theorem tw_54 : Jvm.Cond.fieldLink "AsOfLedger" 17 "AsOfLedger" "replacedBy" "[I" ∈ Tw := Tw_in (List.mem_of_getElem? (i := 54) (by decide +kernel)) (by decide +kernel)
theorem tw_55 : Jvm.Cond.fieldLink "AsOfLedger" 105 "AsOfLedger" "versionCount" "I" ∈ Tw := Tw_in (List.mem_of_getElem? (i := 55) (by decide +kernel)) (by decide +kernel)
theorem tw_56 : Jvm.Cond.fieldLink "AsOfLedger" 48 "AsOfLedger" "entryCount" "I" ∈ Tw := Tw_in (List.mem_of_getElem? (i := 56) (by decide +kernel)) (by decide +kernel)
theorem tw_57 : Jvm.Cond.fieldLink "AsOfLedger" 118 "AsOfLedger" "tampered" "Z" ∈ Tw := Tw_in (List.mem_of_getElem? (i := 57) (by decide +kernel)) (by decide +kernel)
theorem tw_58 : Jvm.Cond.fieldLink "AsOfLedger" 20 "AsOfLedger" "cursorVersions" "[I" ∈ Tw := Tw_in (List.mem_of_getElem? (i := 58) (by decide +kernel)) (by decide +kernel)
theorem tw_59 : Jvm.Cond.fieldLink "AsOfLedger" 76 "AsOfLedger" "cursorSize" "I" ∈ Tw := Tw_in (List.mem_of_getElem? (i := 59) (by decide +kernel)) (by decide +kernel)
theorem tw_60 : Jvm.Cond.fieldLink "AsOfLedger" 79 "AsOfLedger" "cursorPlace" "I" ∈ Tw := Tw_in (List.mem_of_getElem? (i := 60) (by decide +kernel)) (by decide +kernel)
theorem tw_61 : Jvm.Cond.fieldLink "AsOfLedger" 82 "AsOfLedger" "cursorAccount" "I" ∈ Tw := Tw_in (List.mem_of_getElem? (i := 61) (by decide +kernel)) (by decide +kernel)
theorem tw_62 : Jvm.Cond.fieldLink "AsOfLedger" 23 "AsOfLedger" "cursorLatest" "I" ∈ Tw := Tw_in (List.mem_of_getElem? (i := 62) (by decide +kernel)) (by decide +kernel)
theorem tw_88 : Jvm.Cond.methodLink "AsOfLedgerLaw" 104 yX_clock ∈ Tw := Tw_in (List.mem_of_getElem? (i := 88) (by decide +kernel)) (by decide +kernel)
theorem tw_89 : Jvm.Cond.instanceMethod yX_clock ∈ Tw := Tw_in (List.mem_of_getElem? (i := 89) (by decide +kernel)) (by decide +kernel)
theorem tw_90 : Jvm.Cond.selects "AsOfLedger" yX_clock yX_clock ∈ Tw := Tw_in (List.mem_of_getElem? (i := 90) (by decide +kernel)) (by decide +kernel)
theorem tw_91 : Jvm.Cond.code yX_clock bX_clock 1 (some .int) ∈ Tw := Tw_in (List.mem_of_getElem? (i := 91) (by decide +kernel)) (by decide +kernel)
theorem tw_92 : Jvm.Cond.methodLink "AsOfLedgerLaw" 108 yX_head ∈ Tw := Tw_in (List.mem_of_getElem? (i := 92) (by decide +kernel)) (by decide +kernel)
theorem tw_93 : Jvm.Cond.instanceMethod yX_head ∈ Tw := Tw_in (List.mem_of_getElem? (i := 93) (by decide +kernel)) (by decide +kernel)
theorem tw_94 : Jvm.Cond.selects "AsOfLedger" yX_head yX_head ∈ Tw := Tw_in (List.mem_of_getElem? (i := 94) (by decide +kernel)) (by decide +kernel)
theorem tw_95 : Jvm.Cond.code yX_head bX_head 1 (some .long) ∈ Tw := Tw_in (List.mem_of_getElem? (i := 95) (by decide +kernel)) (by decide +kernel)
theorem tw_96 : Jvm.Cond.methodLink "AsOfLedger" 108 yX_linkBefore ∈ Tw := Tw_in (List.mem_of_getElem? (i := 96) (by decide +kernel)) (by decide +kernel)
theorem tw_98 : Jvm.Cond.instanceMethod yX_linkBefore ∈ Tw := Tw_in (List.mem_of_getElem? (i := 98) (by decide +kernel)) (by decide +kernel)
theorem tw_99 : Jvm.Cond.code yX_linkBefore bX_linkBefore 2 (some .long) ∈ Tw := Tw_in (List.mem_of_getElem? (i := 99) (by decide +kernel)) (by decide +kernel)
theorem tw_100 : Jvm.Cond.constantLong "AsOfLedger" 151 1469598103 ∈ Tw := Tw_in (List.mem_of_getElem? (i := 100) (by decide +kernel)) (by decide +kernel)
theorem tw_101 : Jvm.Cond.methodLink "AsOfLedgerLaw" 113 yX_verify ∈ Tw := Tw_in (List.mem_of_getElem? (i := 101) (by decide +kernel)) (by decide +kernel)
theorem tw_102 : Jvm.Cond.instanceMethod yX_verify ∈ Tw := Tw_in (List.mem_of_getElem? (i := 102) (by decide +kernel)) (by decide +kernel)
theorem tw_103 : Jvm.Cond.selects "AsOfLedger" yX_verify yX_verify ∈ Tw := Tw_in (List.mem_of_getElem? (i := 103) (by decide +kernel)) (by decide +kernel)
theorem tw_104 : Jvm.Cond.code yX_verify bX_verify 2 (some .int) ∈ Tw := Tw_in (List.mem_of_getElem? (i := 104) (by decide +kernel)) (by decide +kernel)
theorem tw_105 : Jvm.Cond.methodLink "AsOfLedger" 112 yX_linkOfWords ∈ Tw := Tw_in (List.mem_of_getElem? (i := 105) (by decide +kernel)) (by decide +kernel)
theorem tw_107 : Jvm.Cond.instanceMethod yX_linkOfWords ∈ Tw := Tw_in (List.mem_of_getElem? (i := 107) (by decide +kernel)) (by decide +kernel)
theorem tw_108 : Jvm.Cond.code yX_linkOfWords bX_linkOfWords 5 (some .long) ∈ Tw := Tw_in (List.mem_of_getElem? (i := 108) (by decide +kernel)) (by decide +kernel)
theorem tw_109 : Jvm.Cond.constantLong "AsOfLedger" 153 2685821657736338717 ∈ Tw := Tw_in (List.mem_of_getElem? (i := 109) (by decide +kernel)) (by decide +kernel)
theorem tw_110 : Jvm.Cond.methodLink "AsOfLedger" 59 yX_word ∈ Tw := Tw_in (List.mem_of_getElem? (i := 110) (by decide +kernel)) (by decide +kernel)
theorem tw_112 : Jvm.Cond.instanceMethod yX_word ∈ Tw := Tw_in (List.mem_of_getElem? (i := 112) (by decide +kernel)) (by decide +kernel)
theorem tw_113 : Jvm.Cond.code yX_word bX_word 3 (some .int) ∈ Tw := Tw_in (List.mem_of_getElem? (i := 113) (by decide +kernel)) (by decide +kernel)
theorem tw_114 : Jvm.Cond.methodLink "AsOfLedgerLaw" 117 yX_tamper ∈ Tw := Tw_in (List.mem_of_getElem? (i := 114) (by decide +kernel)) (by decide +kernel)
theorem tw_115 : Jvm.Cond.instanceMethod yX_tamper ∈ Tw := Tw_in (List.mem_of_getElem? (i := 115) (by decide +kernel)) (by decide +kernel)
theorem tw_116 : Jvm.Cond.selects "AsOfLedger" yX_tamper yX_tamper ∈ Tw := Tw_in (List.mem_of_getElem? (i := 116) (by decide +kernel)) (by decide +kernel)
theorem tw_117 : Jvm.Cond.code yX_tamper bX_tamper 4 (some .boolean) ∈ Tw := Tw_in (List.mem_of_getElem? (i := 117) (by decide +kernel)) (by decide +kernel)
theorem tw_118 : Jvm.Cond.methodLink "AsOfLedger" 115 yX_isVersion ∈ Tw := Tw_in (List.mem_of_getElem? (i := 118) (by decide +kernel)) (by decide +kernel)
theorem tw_120 : Jvm.Cond.instanceMethod yX_isVersion ∈ Tw := Tw_in (List.mem_of_getElem? (i := 120) (by decide +kernel)) (by decide +kernel)
theorem tw_121 : Jvm.Cond.code yX_isVersion bX_isVersion 2 (some .boolean) ∈ Tw := Tw_in (List.mem_of_getElem? (i := 121) (by decide +kernel)) (by decide +kernel)
theorem tw_122 : Jvm.Cond.methodLink "AsOfLedger" 99 yX_isWord ∈ Tw := Tw_in (List.mem_of_getElem? (i := 122) (by decide +kernel)) (by decide +kernel)
theorem tw_123 : Jvm.Cond.static yX_isWord ∈ Tw := Tw_in (List.mem_of_getElem? (i := 123) (by decide +kernel)) (by decide +kernel)
theorem tw_124 : Jvm.Cond.code yX_isWord bX_isWord 1 (some .boolean) ∈ Tw := Tw_in (List.mem_of_getElem? (i := 124) (by decide +kernel)) (by decide +kernel)
theorem tw_132 : Jvm.Cond.methodLink "AsOfLedgerLaw" 7 yX_post ∈ Tw := Tw_in (List.mem_of_getElem? (i := 132) (by decide +kernel)) (by decide +kernel)
theorem tw_133 : Jvm.Cond.instanceMethod yX_post ∈ Tw := Tw_in (List.mem_of_getElem? (i := 133) (by decide +kernel)) (by decide +kernel)
theorem tw_134 : Jvm.Cond.selects "AsOfLedger" yX_post yX_post ∈ Tw := Tw_in (List.mem_of_getElem? (i := 134) (by decide +kernel)) (by decide +kernel)
theorem tw_135 : Jvm.Cond.code yX_post bX_post 6 (some .int) ∈ Tw := Tw_in (List.mem_of_getElem? (i := 135) (by decide +kernel)) (by decide +kernel)
theorem tw_136 : Jvm.Cond.methodLink "AsOfLedger" 27 yX_refuseIfTampered ∈ Tw := Tw_in (List.mem_of_getElem? (i := 136) (by decide +kernel)) (by decide +kernel)
theorem tw_138 : Jvm.Cond.instanceMethod yX_refuseIfTampered ∈ Tw := Tw_in (List.mem_of_getElem? (i := 138) (by decide +kernel)) (by decide +kernel)
theorem tw_139 : Jvm.Cond.code yX_refuseIfTampered bX_refuseIfTampered 1 none ∈ Tw := Tw_in (List.mem_of_getElem? (i := 139) (by decide +kernel)) (by decide +kernel)
theorem tw_210 : Jvm.Cond.methodLink "AsOfLedger" 30 yX_isAccount ∈ Tw := Tw_in (List.mem_of_getElem? (i := 210) (by decide +kernel)) (by decide +kernel)
theorem tw_211 : Jvm.Cond.static yX_isAccount ∈ Tw := Tw_in (List.mem_of_getElem? (i := 211) (by decide +kernel)) (by decide +kernel)
theorem tw_212 : Jvm.Cond.code yX_isAccount bX_isAccount 1 (some .boolean) ∈ Tw := Tw_in (List.mem_of_getElem? (i := 212) (by decide +kernel)) (by decide +kernel)
theorem tw_213 : Jvm.Cond.methodLink "AsOfLedger" 34 yX_isDay ∈ Tw := Tw_in (List.mem_of_getElem? (i := 213) (by decide +kernel)) (by decide +kernel)
theorem tw_214 : Jvm.Cond.static yX_isDay ∈ Tw := Tw_in (List.mem_of_getElem? (i := 214) (by decide +kernel)) (by decide +kernel)
theorem tw_215 : Jvm.Cond.code yX_isDay bX_isDay 1 (some .boolean) ∈ Tw := Tw_in (List.mem_of_getElem? (i := 215) (by decide +kernel)) (by decide +kernel)
theorem tw_216 : Jvm.Cond.methodLink "AsOfLedger" 37 yX_refuseArgumentsUnless ∈ Tw := Tw_in (List.mem_of_getElem? (i := 216) (by decide +kernel)) (by decide +kernel)
theorem tw_217 : Jvm.Cond.static yX_refuseArgumentsUnless ∈ Tw := Tw_in (List.mem_of_getElem? (i := 217) (by decide +kernel)) (by decide +kernel)
theorem tw_218 : Jvm.Cond.code yX_refuseArgumentsUnless bX_refuseArgumentsUnless 1 none ∈ Tw := Tw_in (List.mem_of_getElem? (i := 218) (by decide +kernel)) (by decide +kernel)
theorem tw_235 : Jvm.Cond.methodLink "AsOfLedger" 41 yX_refuseIfFull ∈ Tw := Tw_in (List.mem_of_getElem? (i := 235) (by decide +kernel)) (by decide +kernel)
theorem tw_237 : Jvm.Cond.instanceMethod yX_refuseIfFull ∈ Tw := Tw_in (List.mem_of_getElem? (i := 237) (by decide +kernel)) (by decide +kernel)
theorem tw_238 : Jvm.Cond.code yX_refuseIfFull bX_refuseIfFull 1 none ∈ Tw := Tw_in (List.mem_of_getElem? (i := 238) (by decide +kernel)) (by decide +kernel)
theorem tw_255 : Jvm.Cond.methodLink "AsOfLedger" 44 yX_refuseIfTurnoverTooHigh ∈ Tw := Tw_in (List.mem_of_getElem? (i := 255) (by decide +kernel)) (by decide +kernel)
theorem tw_257 : Jvm.Cond.instanceMethod yX_refuseIfTurnoverTooHigh ∈ Tw := Tw_in (List.mem_of_getElem? (i := 257) (by decide +kernel)) (by decide +kernel)
theorem tw_258 : Jvm.Cond.code yX_refuseIfTurnoverTooHigh bX_refuseIfTurnoverTooHigh 6 none ∈ Tw := Tw_in (List.mem_of_getElem? (i := 258) (by decide +kernel)) (by decide +kernel)
theorem tw_259 : Jvm.Cond.methodLink "AsOfLedger" 73 yX_turnoverOf ∈ Tw := Tw_in (List.mem_of_getElem? (i := 259) (by decide +kernel)) (by decide +kernel)
theorem tw_261 : Jvm.Cond.instanceMethod yX_turnoverOf ∈ Tw := Tw_in (List.mem_of_getElem? (i := 261) (by decide +kernel)) (by decide +kernel)
theorem tw_262 : Jvm.Cond.code yX_turnoverOf bX_turnoverOf 4 (some .int) ∈ Tw := Tw_in (List.mem_of_getElem? (i := 262) (by decide +kernel)) (by decide +kernel)
theorem tw_263 : Jvm.Cond.methodLink "AsOfLedger" 85 yX_isCurrent ∈ Tw := Tw_in (List.mem_of_getElem? (i := 263) (by decide +kernel)) (by decide +kernel)
theorem tw_265 : Jvm.Cond.instanceMethod yX_isCurrent ∈ Tw := Tw_in (List.mem_of_getElem? (i := 265) (by decide +kernel)) (by decide +kernel)
theorem tw_266 : Jvm.Cond.code yX_isCurrent bX_isCurrent 3 (some .boolean) ∈ Tw := Tw_in (List.mem_of_getElem? (i := 266) (by decide +kernel)) (by decide +kernel)
theorem tw_267 : Jvm.Cond.methodLink "AsOfLedger" 89 yX_touches ∈ Tw := Tw_in (List.mem_of_getElem? (i := 267) (by decide +kernel)) (by decide +kernel)
theorem tw_269 : Jvm.Cond.instanceMethod yX_touches ∈ Tw := Tw_in (List.mem_of_getElem? (i := 269) (by decide +kernel)) (by decide +kernel)
theorem tw_270 : Jvm.Cond.code yX_touches bX_touches 3 (some .boolean) ∈ Tw := Tw_in (List.mem_of_getElem? (i := 270) (by decide +kernel)) (by decide +kernel)
theorem tw_271 : Jvm.Cond.constantLong "AsOfLedger" 139 2147483647 ∈ Tw := Tw_in (List.mem_of_getElem? (i := 271) (by decide +kernel)) (by decide +kernel)
theorem tw_288 : Jvm.Cond.methodLink "AsOfLedger" 51 yX_append ∈ Tw := Tw_in (List.mem_of_getElem? (i := 288) (by decide +kernel)) (by decide +kernel)
theorem tw_290 : Jvm.Cond.instanceMethod yX_append ∈ Tw := Tw_in (List.mem_of_getElem? (i := 290) (by decide +kernel)) (by decide +kernel)
theorem tw_291 : Jvm.Cond.code yX_append bX_append 9 (some .int) ∈ Tw := Tw_in (List.mem_of_getElem? (i := 291) (by decide +kernel)) (by decide +kernel)
theorem tw_296 : Jvm.Cond.methodLink "AsOfLedgerLaw" 21 yX_correct ∈ Tw := Tw_in (List.mem_of_getElem? (i := 296) (by decide +kernel)) (by decide +kernel)
theorem tw_297 : Jvm.Cond.instanceMethod yX_correct ∈ Tw := Tw_in (List.mem_of_getElem? (i := 297) (by decide +kernel)) (by decide +kernel)
theorem tw_298 : Jvm.Cond.selects "AsOfLedger" yX_correct yX_correct ∈ Tw := Tw_in (List.mem_of_getElem? (i := 298) (by decide +kernel)) (by decide +kernel)
theorem tw_299 : Jvm.Cond.code yX_correct bX_correct 4 (some .int) ∈ Tw := Tw_in (List.mem_of_getElem? (i := 299) (by decide +kernel)) (by decide +kernel)
theorem tw_300 : Jvm.Cond.methodLink "AsOfLedger" 55 yX_versionToReplace ∈ Tw := Tw_in (List.mem_of_getElem? (i := 300) (by decide +kernel)) (by decide +kernel)
theorem tw_302 : Jvm.Cond.instanceMethod yX_versionToReplace ∈ Tw := Tw_in (List.mem_of_getElem? (i := 302) (by decide +kernel)) (by decide +kernel)
theorem tw_303 : Jvm.Cond.code yX_versionToReplace bX_versionToReplace 3 (some .int) ∈ Tw := Tw_in (List.mem_of_getElem? (i := 303) (by decide +kernel)) (by decide +kernel)
theorem tw_304 : Jvm.Cond.methodLink "AsOfLedger" 102 yX_currentVersion ∈ Tw := Tw_in (List.mem_of_getElem? (i := 304) (by decide +kernel)) (by decide +kernel)
theorem tw_306 : Jvm.Cond.instanceMethod yX_currentVersion ∈ Tw := Tw_in (List.mem_of_getElem? (i := 306) (by decide +kernel)) (by decide +kernel)
theorem tw_307 : Jvm.Cond.code yX_currentVersion bX_currentVersion 4 (some .int) ∈ Tw := Tw_in (List.mem_of_getElem? (i := 307) (by decide +kernel)) (by decide +kernel)
theorem tw_324 : Jvm.Cond.methodLink "AsOfLedger" 63 yX_replace ∈ Tw := Tw_in (List.mem_of_getElem? (i := 324) (by decide +kernel)) (by decide +kernel)
theorem tw_326 : Jvm.Cond.instanceMethod yX_replace ∈ Tw := Tw_in (List.mem_of_getElem? (i := 326) (by decide +kernel)) (by decide +kernel)
theorem tw_327 : Jvm.Cond.code yX_replace bX_replace 5 (some .int) ∈ Tw := Tw_in (List.mem_of_getElem? (i := 327) (by decide +kernel)) (by decide +kernel)
theorem tw_331 : Jvm.Cond.methodLink "AsOfLedgerLaw" 27 yX_annul ∈ Tw := Tw_in (List.mem_of_getElem? (i := 331) (by decide +kernel)) (by decide +kernel)
theorem tw_332 : Jvm.Cond.instanceMethod yX_annul ∈ Tw := Tw_in (List.mem_of_getElem? (i := 332) (by decide +kernel)) (by decide +kernel)
theorem tw_333 : Jvm.Cond.selects "AsOfLedger" yX_annul yX_annul ∈ Tw := Tw_in (List.mem_of_getElem? (i := 333) (by decide +kernel)) (by decide +kernel)
theorem tw_334 : Jvm.Cond.code yX_annul bX_annul 3 (some .int) ∈ Tw := Tw_in (List.mem_of_getElem? (i := 334) (by decide +kernel)) (by decide +kernel)
theorem tw_338 : Jvm.Cond.methodLink "AsOfLedgerLaw" 31 yX_balance ∈ Tw := Tw_in (List.mem_of_getElem? (i := 338) (by decide +kernel)) (by decide +kernel)
theorem tw_339 : Jvm.Cond.instanceMethod yX_balance ∈ Tw := Tw_in (List.mem_of_getElem? (i := 339) (by decide +kernel)) (by decide +kernel)
theorem tw_340 : Jvm.Cond.selects "AsOfLedger" yX_balance yX_balance ∈ Tw := Tw_in (List.mem_of_getElem? (i := 340) (by decide +kernel)) (by decide +kernel)
theorem tw_341 : Jvm.Cond.code yX_balance bX_balance 4 (some .int) ∈ Tw := Tw_in (List.mem_of_getElem? (i := 341) (by decide +kernel)) (by decide +kernel)
theorem tw_342 : Jvm.Cond.methodLink "AsOfLedger" 67 yX_isTime ∈ Tw := Tw_in (List.mem_of_getElem? (i := 342) (by decide +kernel)) (by decide +kernel)
theorem tw_344 : Jvm.Cond.instanceMethod yX_isTime ∈ Tw := Tw_in (List.mem_of_getElem? (i := 344) (by decide +kernel)) (by decide +kernel)
theorem tw_345 : Jvm.Cond.code yX_isTime bX_isTime 2 (some .boolean) ∈ Tw := Tw_in (List.mem_of_getElem? (i := 345) (by decide +kernel)) (by decide +kernel)
theorem tw_346 : Jvm.Cond.methodLink "AsOfLedger" 70 yX_balanceOf ∈ Tw := Tw_in (List.mem_of_getElem? (i := 346) (by decide +kernel)) (by decide +kernel)
theorem tw_348 : Jvm.Cond.instanceMethod yX_balanceOf ∈ Tw := Tw_in (List.mem_of_getElem? (i := 348) (by decide +kernel)) (by decide +kernel)
theorem tw_349 : Jvm.Cond.code yX_balanceOf bX_balanceOf 6 (some .int) ∈ Tw := Tw_in (List.mem_of_getElem? (i := 349) (by decide +kernel)) (by decide +kernel)
theorem tw_350 : Jvm.Cond.methodLink "AsOfLedger" 96 yX_movedBy ∈ Tw := Tw_in (List.mem_of_getElem? (i := 350) (by decide +kernel)) (by decide +kernel)
theorem tw_352 : Jvm.Cond.instanceMethod yX_movedBy ∈ Tw := Tw_in (List.mem_of_getElem? (i := 352) (by decide +kernel)) (by decide +kernel)
theorem tw_353 : Jvm.Cond.code yX_movedBy bX_movedBy 3 (some .int) ∈ Tw := Tw_in (List.mem_of_getElem? (i := 353) (by decide +kernel)) (by decide +kernel)
theorem tw_357 : Jvm.Cond.methodLink "AsOfLedgerLaw" 35 yX_trial ∈ Tw := Tw_in (List.mem_of_getElem? (i := 357) (by decide +kernel)) (by decide +kernel)
theorem tw_358 : Jvm.Cond.instanceMethod yX_trial ∈ Tw := Tw_in (List.mem_of_getElem? (i := 358) (by decide +kernel)) (by decide +kernel)
theorem tw_359 : Jvm.Cond.selects "AsOfLedger" yX_trial yX_trial ∈ Tw := Tw_in (List.mem_of_getElem? (i := 359) (by decide +kernel)) (by decide +kernel)
theorem tw_360 : Jvm.Cond.code yX_trial bX_trial 5 (some .int) ∈ Tw := Tw_in (List.mem_of_getElem? (i := 360) (by decide +kernel)) (by decide +kernel)
theorem tw_364 : Jvm.Cond.methodLink "AsOfLedgerLaw" 38 yX_turnover ∈ Tw := Tw_in (List.mem_of_getElem? (i := 364) (by decide +kernel)) (by decide +kernel)
theorem tw_365 : Jvm.Cond.instanceMethod yX_turnover ∈ Tw := Tw_in (List.mem_of_getElem? (i := 365) (by decide +kernel)) (by decide +kernel)
theorem tw_366 : Jvm.Cond.selects "AsOfLedger" yX_turnover yX_turnover ∈ Tw := Tw_in (List.mem_of_getElem? (i := 366) (by decide +kernel)) (by decide +kernel)
theorem tw_367 : Jvm.Cond.code yX_turnover bX_turnover 2 (some .int) ∈ Tw := Tw_in (List.mem_of_getElem? (i := 367) (by decide +kernel)) (by decide +kernel)
theorem tw_371 : Jvm.Cond.methodLink "AsOfLedgerLaw" 41 yX_open ∈ Tw := Tw_in (List.mem_of_getElem? (i := 371) (by decide +kernel)) (by decide +kernel)
theorem tw_372 : Jvm.Cond.instanceMethod yX_open ∈ Tw := Tw_in (List.mem_of_getElem? (i := 372) (by decide +kernel)) (by decide +kernel)
theorem tw_373 : Jvm.Cond.selects "AsOfLedger" yX_open yX_open ∈ Tw := Tw_in (List.mem_of_getElem? (i := 373) (by decide +kernel)) (by decide +kernel)
theorem tw_374 : Jvm.Cond.code yX_open bX_open 7 (some .int) ∈ Tw := Tw_in (List.mem_of_getElem? (i := 374) (by decide +kernel)) (by decide +kernel)
theorem tw_375 : Jvm.Cond.methodLink "AsOfLedger" 92 yX_insertIntoCursor ∈ Tw := Tw_in (List.mem_of_getElem? (i := 375) (by decide +kernel)) (by decide +kernel)
theorem tw_377 : Jvm.Cond.instanceMethod yX_insertIntoCursor ∈ Tw := Tw_in (List.mem_of_getElem? (i := 377) (by decide +kernel)) (by decide +kernel)
theorem tw_378 : Jvm.Cond.code yX_insertIntoCursor bX_insertIntoCursor 3 none ∈ Tw := Tw_in (List.mem_of_getElem? (i := 378) (by decide +kernel)) (by decide +kernel)
theorem tw_379 : Jvm.Cond.methodLink "AsOfLedger" 155 yX_comesBefore ∈ Tw := Tw_in (List.mem_of_getElem? (i := 379) (by decide +kernel)) (by decide +kernel)
theorem tw_381 : Jvm.Cond.instanceMethod yX_comesBefore ∈ Tw := Tw_in (List.mem_of_getElem? (i := 381) (by decide +kernel)) (by decide +kernel)
theorem tw_382 : Jvm.Cond.code yX_comesBefore bX_comesBefore 4 (some .boolean) ∈ Tw := Tw_in (List.mem_of_getElem? (i := 382) (by decide +kernel)) (by decide +kernel)
theorem tw_383 : Jvm.Cond.methodLink "AsOfLedger" 158 yI_compare ∈ Tw := Tw_in (List.mem_of_getElem? (i := 383) (by decide +kernel)) (by decide +kernel)
theorem tw_384 : Jvm.Cond.static yI_compare ∈ Tw := Tw_in (List.mem_of_getElem? (i := 384) (by decide +kernel)) (by decide +kernel)
theorem tw_385 : Jvm.Cond.code yI_compare bI_compare 2 (some .int) ∈ Tw := Tw_in (List.mem_of_getElem? (i := 385) (by decide +kernel)) (by decide +kernel)
theorem tw_389 : Jvm.Cond.methodLink "AsOfLedgerLaw" 44 yX_next ∈ Tw := Tw_in (List.mem_of_getElem? (i := 389) (by decide +kernel)) (by decide +kernel)
theorem tw_390 : Jvm.Cond.instanceMethod yX_next ∈ Tw := Tw_in (List.mem_of_getElem? (i := 390) (by decide +kernel)) (by decide +kernel)
theorem tw_391 : Jvm.Cond.selects "AsOfLedger" yX_next yX_next ∈ Tw := Tw_in (List.mem_of_getElem? (i := 391) (by decide +kernel)) (by decide +kernel)
theorem tw_392 : Jvm.Cond.code yX_next bX_next 1 (some .int) ∈ Tw := Tw_in (List.mem_of_getElem? (i := 392) (by decide +kernel)) (by decide +kernel)
theorem tw_396 : Jvm.Cond.methodLink "AsOfLedgerLaw" 48 yX_moved ∈ Tw := Tw_in (List.mem_of_getElem? (i := 396) (by decide +kernel)) (by decide +kernel)
theorem tw_397 : Jvm.Cond.instanceMethod yX_moved ∈ Tw := Tw_in (List.mem_of_getElem? (i := 397) (by decide +kernel)) (by decide +kernel)
theorem tw_398 : Jvm.Cond.selects "AsOfLedger" yX_moved yX_moved ∈ Tw := Tw_in (List.mem_of_getElem? (i := 398) (by decide +kernel)) (by decide +kernel)
theorem tw_399 : Jvm.Cond.code yX_moved bX_moved 1 (some .int) ∈ Tw := Tw_in (List.mem_of_getElem? (i := 399) (by decide +kernel)) (by decide +kernel)
theorem tw_403 : Jvm.Cond.methodLink "AsOfLedgerLaw" 51 yX_field ∈ Tw := Tw_in (List.mem_of_getElem? (i := 403) (by decide +kernel)) (by decide +kernel)
theorem tw_404 : Jvm.Cond.instanceMethod yX_field ∈ Tw := Tw_in (List.mem_of_getElem? (i := 404) (by decide +kernel)) (by decide +kernel)
theorem tw_405 : Jvm.Cond.selects "AsOfLedger" yX_field yX_field ∈ Tw := Tw_in (List.mem_of_getElem? (i := 405) (by decide +kernel)) (by decide +kernel)
theorem tw_406 : Jvm.Cond.code yX_field bX_field 5 (some .int) ∈ Tw := Tw_in (List.mem_of_getElem? (i := 406) (by decide +kernel)) (by decide +kernel)
theorem tw_410 : Jvm.Cond.methodLink "AsOfLedgerLaw" 54 yX_entries ∈ Tw := Tw_in (List.mem_of_getElem? (i := 410) (by decide +kernel)) (by decide +kernel)
theorem tw_411 : Jvm.Cond.instanceMethod yX_entries ∈ Tw := Tw_in (List.mem_of_getElem? (i := 411) (by decide +kernel)) (by decide +kernel)
theorem tw_412 : Jvm.Cond.selects "AsOfLedger" yX_entries yX_entries ∈ Tw := Tw_in (List.mem_of_getElem? (i := 412) (by decide +kernel)) (by decide +kernel)
theorem tw_413 : Jvm.Cond.code yX_entries bX_entries 1 (some .int) ∈ Tw := Tw_in (List.mem_of_getElem? (i := 413) (by decide +kernel)) (by decide +kernel)
theorem tw_420 : Jvm.Cond.fieldLink "AsOfLedgerModel" 23 "AsOfLedgerModel" "code" "I" ∈ Tw := Tw_in (List.mem_of_getElem? (i := 420) (by decide +kernel)) (by decide +kernel)
theorem tw_421 : Jvm.Cond.fieldLink "AsOfLedgerModel" 65 "AsOfLedgerModel" "touched" "Z" ∈ Tw := Tw_in (List.mem_of_getElem? (i := 421) (by decide +kernel)) (by decide +kernel)
theorem tw_422 : Jvm.Cond.fieldLink "AsOfLedgerModel" 27 "AsOfLedgerModel" "clock" "I" ∈ Tw := Tw_in (List.mem_of_getElem? (i := 422) (by decide +kernel)) (by decide +kernel)
theorem tw_423 : Jvm.Cond.fieldLink "AsOfLedgerModel" 42 "AsOfLedgerModel" "entries" "I" ∈ Tw := Tw_in (List.mem_of_getElem? (i := 423) (by decide +kernel)) (by decide +kernel)
theorem tw_424 : Jvm.Cond.fieldLink "AsOfLedgerModel" 7 "AsOfLedgerModel" "words" "[I" ∈ Tw := Tw_in (List.mem_of_getElem? (i := 424) (by decide +kernel)) (by decide +kernel)
theorem tw_425 : Jvm.Cond.fieldLink "AsOfLedgerModel" 13 "AsOfLedgerModel" "links" "[J" ∈ Tw := Tw_in (List.mem_of_getElem? (i := 425) (by decide +kernel)) (by decide +kernel)
theorem tw_426 : Jvm.Cond.fieldLink "AsOfLedgerModel" 95 "AsOfLedgerModel" "count" "I" ∈ Tw := Tw_in (List.mem_of_getElem? (i := 426) (by decide +kernel)) (by decide +kernel)
theorem tw_427 : Jvm.Cond.fieldLink "AsOfLedgerModel" 98 "AsOfLedgerModel" "at" "I" ∈ Tw := Tw_in (List.mem_of_getElem? (i := 427) (by decide +kernel)) (by decide +kernel)
theorem tw_428 : Jvm.Cond.fieldLink "AsOfLedgerModel" 101 "AsOfLedgerModel" "answered" "Z" ∈ Tw := Tw_in (List.mem_of_getElem? (i := 428) (by decide +kernel)) (by decide +kernel)
theorem tw_429 : Jvm.Cond.fieldLink "AsOfLedgerModel" 17 "AsOfLedgerModel" "list" "[I" ∈ Tw := Tw_in (List.mem_of_getElem? (i := 429) (by decide +kernel)) (by decide +kernel)
theorem tw_430 : Jvm.Cond.fieldLink "AsOfLedgerModel" 20 "AsOfLedgerModel" "puts" "[I" ∈ Tw := Tw_in (List.mem_of_getElem? (i := 430) (by decide +kernel)) (by decide +kernel)
theorem tw_454 : Jvm.Cond.methodLink "AsOfLedgerLaw" 67 yM_thrown ∈ Tw := Tw_in (List.mem_of_getElem? (i := 454) (by decide +kernel)) (by decide +kernel)
theorem tw_455 : Jvm.Cond.instanceMethod yM_thrown ∈ Tw := Tw_in (List.mem_of_getElem? (i := 455) (by decide +kernel)) (by decide +kernel)
theorem tw_456 : Jvm.Cond.selects "AsOfLedgerModel" yM_thrown yM_thrown ∈ Tw := Tw_in (List.mem_of_getElem? (i := 456) (by decide +kernel)) (by decide +kernel)
theorem tw_457 : Jvm.Cond.code yM_thrown bM_thrown 1 (some .int) ∈ Tw := Tw_in (List.mem_of_getElem? (i := 457) (by decide +kernel)) (by decide +kernel)
theorem tw_458 : Jvm.Cond.methodLink "AsOfLedgerLaw" 66 yM_post ∈ Tw := Tw_in (List.mem_of_getElem? (i := 458) (by decide +kernel)) (by decide +kernel)
theorem tw_459 : Jvm.Cond.instanceMethod yM_post ∈ Tw := Tw_in (List.mem_of_getElem? (i := 459) (by decide +kernel)) (by decide +kernel)
theorem tw_460 : Jvm.Cond.selects "AsOfLedgerModel" yM_post yM_post ∈ Tw := Tw_in (List.mem_of_getElem? (i := 460) (by decide +kernel)) (by decide +kernel)
theorem tw_461 : Jvm.Cond.code yM_post bM_post 6 (some .int) ∈ Tw := Tw_in (List.mem_of_getElem? (i := 461) (by decide +kernel)) (by decide +kernel)
theorem tw_462 : Jvm.Cond.methodLink "AsOfLedgerModel" 69 yM_isAccount ∈ Tw := Tw_in (List.mem_of_getElem? (i := 462) (by decide +kernel)) (by decide +kernel)
theorem tw_463 : Jvm.Cond.static yM_isAccount ∈ Tw := Tw_in (List.mem_of_getElem? (i := 463) (by decide +kernel)) (by decide +kernel)
theorem tw_464 : Jvm.Cond.code yM_isAccount bM_isAccount 1 (some .boolean) ∈ Tw := Tw_in (List.mem_of_getElem? (i := 464) (by decide +kernel)) (by decide +kernel)
theorem tw_465 : Jvm.Cond.methodLink "AsOfLedgerModel" 73 yM_isDay ∈ Tw := Tw_in (List.mem_of_getElem? (i := 465) (by decide +kernel)) (by decide +kernel)
theorem tw_466 : Jvm.Cond.static yM_isDay ∈ Tw := Tw_in (List.mem_of_getElem? (i := 466) (by decide +kernel)) (by decide +kernel)
theorem tw_467 : Jvm.Cond.code yM_isDay bM_isDay 1 (some .boolean) ∈ Tw := Tw_in (List.mem_of_getElem? (i := 467) (by decide +kernel)) (by decide +kernel)
theorem tw_468 : Jvm.Cond.methodLink "AsOfLedgerModel" 76 yM_tooMuch ∈ Tw := Tw_in (List.mem_of_getElem? (i := 468) (by decide +kernel)) (by decide +kernel)
theorem tw_470 : Jvm.Cond.instanceMethod yM_tooMuch ∈ Tw := Tw_in (List.mem_of_getElem? (i := 470) (by decide +kernel)) (by decide +kernel)
theorem tw_471 : Jvm.Cond.code yM_tooMuch bM_tooMuch 4 (some .boolean) ∈ Tw := Tw_in (List.mem_of_getElem? (i := 471) (by decide +kernel)) (by decide +kernel)
theorem tw_472 : Jvm.Cond.methodLink "AsOfLedgerModel" 48 yM_turnoverNow ∈ Tw := Tw_in (List.mem_of_getElem? (i := 472) (by decide +kernel)) (by decide +kernel)
theorem tw_474 : Jvm.Cond.instanceMethod yM_turnoverNow ∈ Tw := Tw_in (List.mem_of_getElem? (i := 474) (by decide +kernel)) (by decide +kernel)
theorem tw_475 : Jvm.Cond.code yM_turnoverNow bM_turnoverNow 7 (some .long) ∈ Tw := Tw_in (List.mem_of_getElem? (i := 475) (by decide +kernel)) (by decide +kernel)
theorem tw_476 : Jvm.Cond.methodLink "AsOfLedgerModel" 45 yM_currentAt ∈ Tw := Tw_in (List.mem_of_getElem? (i := 476) (by decide +kernel)) (by decide +kernel)
theorem tw_478 : Jvm.Cond.instanceMethod yM_currentAt ∈ Tw := Tw_in (List.mem_of_getElem? (i := 478) (by decide +kernel)) (by decide +kernel)
theorem tw_479 : Jvm.Cond.code yM_currentAt bM_currentAt 4 (some .int) ∈ Tw := Tw_in (List.mem_of_getElem? (i := 479) (by decide +kernel)) (by decide +kernel)
theorem tw_480 : Jvm.Cond.methodLink "AsOfLedgerModel" 30 yM_word ∈ Tw := Tw_in (List.mem_of_getElem? (i := 480) (by decide +kernel)) (by decide +kernel)
theorem tw_482 : Jvm.Cond.instanceMethod yM_word ∈ Tw := Tw_in (List.mem_of_getElem? (i := 482) (by decide +kernel)) (by decide +kernel)
theorem tw_483 : Jvm.Cond.code yM_word bM_word 3 (some .int) ∈ Tw := Tw_in (List.mem_of_getElem? (i := 483) (by decide +kernel)) (by decide +kernel)
theorem tw_484 : Jvm.Cond.constantLong "AsOfLedgerModel" 52 2147483647 ∈ Tw := Tw_in (List.mem_of_getElem? (i := 484) (by decide +kernel)) (by decide +kernel)
theorem tw_485 : Jvm.Cond.methodLink "AsOfLedgerModel" 80 yM_add ∈ Tw := Tw_in (List.mem_of_getElem? (i := 485) (by decide +kernel)) (by decide +kernel)
theorem tw_487 : Jvm.Cond.instanceMethod yM_add ∈ Tw := Tw_in (List.mem_of_getElem? (i := 487) (by decide +kernel)) (by decide +kernel)
theorem tw_488 : Jvm.Cond.code yM_add bM_add 7 (some .int) ∈ Tw := Tw_in (List.mem_of_getElem? (i := 488) (by decide +kernel)) (by decide +kernel)
theorem tw_489 : Jvm.Cond.methodLink "AsOfLedgerModel" 54 yM_write ∈ Tw := Tw_in (List.mem_of_getElem? (i := 489) (by decide +kernel)) (by decide +kernel)
theorem tw_491 : Jvm.Cond.instanceMethod yM_write ∈ Tw := Tw_in (List.mem_of_getElem? (i := 491) (by decide +kernel)) (by decide +kernel)
theorem tw_492 : Jvm.Cond.code yM_write bM_write 3 none ∈ Tw := Tw_in (List.mem_of_getElem? (i := 492) (by decide +kernel)) (by decide +kernel)
theorem tw_493 : Jvm.Cond.methodLink "AsOfLedgerModel" 58 yM_linkBefore ∈ Tw := Tw_in (List.mem_of_getElem? (i := 493) (by decide +kernel)) (by decide +kernel)
theorem tw_495 : Jvm.Cond.instanceMethod yM_linkBefore ∈ Tw := Tw_in (List.mem_of_getElem? (i := 495) (by decide +kernel)) (by decide +kernel)
theorem tw_496 : Jvm.Cond.code yM_linkBefore bM_linkBefore 2 (some .long) ∈ Tw := Tw_in (List.mem_of_getElem? (i := 496) (by decide +kernel)) (by decide +kernel)
theorem tw_497 : Jvm.Cond.constantLong "AsOfLedgerModel" 40 1469598103 ∈ Tw := Tw_in (List.mem_of_getElem? (i := 497) (by decide +kernel)) (by decide +kernel)
theorem tw_498 : Jvm.Cond.methodLink "AsOfLedgerModel" 61 yM_linkOf ∈ Tw := Tw_in (List.mem_of_getElem? (i := 498) (by decide +kernel)) (by decide +kernel)
theorem tw_500 : Jvm.Cond.instanceMethod yM_linkOf ∈ Tw := Tw_in (List.mem_of_getElem? (i := 500) (by decide +kernel)) (by decide +kernel)
theorem tw_501 : Jvm.Cond.code yM_linkOf bM_linkOf 7 (some .long) ∈ Tw := Tw_in (List.mem_of_getElem? (i := 501) (by decide +kernel)) (by decide +kernel)
theorem tw_502 : Jvm.Cond.methodLink "AsOfLedgerModel" 36 yM_follow ∈ Tw := Tw_in (List.mem_of_getElem? (i := 502) (by decide +kernel)) (by decide +kernel)
theorem tw_503 : Jvm.Cond.static yM_follow ∈ Tw := Tw_in (List.mem_of_getElem? (i := 503) (by decide +kernel)) (by decide +kernel)
theorem tw_504 : Jvm.Cond.code yM_follow bM_follow 3 (some .long) ∈ Tw := Tw_in (List.mem_of_getElem? (i := 504) (by decide +kernel)) (by decide +kernel)
theorem tw_505 : Jvm.Cond.constantLong "AsOfLedgerModel" 34 2685821657736338717 ∈ Tw := Tw_in (List.mem_of_getElem? (i := 505) (by decide +kernel)) (by decide +kernel)
theorem tw_506 : Jvm.Cond.methodLink "AsOfLedgerLaw" 73 yM_correct ∈ Tw := Tw_in (List.mem_of_getElem? (i := 506) (by decide +kernel)) (by decide +kernel)
theorem tw_507 : Jvm.Cond.instanceMethod yM_correct ∈ Tw := Tw_in (List.mem_of_getElem? (i := 507) (by decide +kernel)) (by decide +kernel)
theorem tw_508 : Jvm.Cond.selects "AsOfLedgerModel" yM_correct yM_correct ∈ Tw := Tw_in (List.mem_of_getElem? (i := 508) (by decide +kernel)) (by decide +kernel)
theorem tw_509 : Jvm.Cond.code yM_correct bM_correct 6 (some .int) ∈ Tw := Tw_in (List.mem_of_getElem? (i := 509) (by decide +kernel)) (by decide +kernel)
theorem tw_510 : Jvm.Cond.methodLink "AsOfLedgerModel" 84 yM_living ∈ Tw := Tw_in (List.mem_of_getElem? (i := 510) (by decide +kernel)) (by decide +kernel)
theorem tw_512 : Jvm.Cond.instanceMethod yM_living ∈ Tw := Tw_in (List.mem_of_getElem? (i := 512) (by decide +kernel)) (by decide +kernel)
theorem tw_513 : Jvm.Cond.code yM_living bM_living 3 (some .int) ∈ Tw := Tw_in (List.mem_of_getElem? (i := 513) (by decide +kernel)) (by decide +kernel)
theorem tw_514 : Jvm.Cond.methodLink "AsOfLedgerLaw" 77 yM_annul ∈ Tw := Tw_in (List.mem_of_getElem? (i := 514) (by decide +kernel)) (by decide +kernel)
theorem tw_515 : Jvm.Cond.instanceMethod yM_annul ∈ Tw := Tw_in (List.mem_of_getElem? (i := 515) (by decide +kernel)) (by decide +kernel)
theorem tw_516 : Jvm.Cond.selects "AsOfLedgerModel" yM_annul yM_annul ∈ Tw := Tw_in (List.mem_of_getElem? (i := 516) (by decide +kernel)) (by decide +kernel)
theorem tw_517 : Jvm.Cond.code yM_annul bM_annul 3 (some .int) ∈ Tw := Tw_in (List.mem_of_getElem? (i := 517) (by decide +kernel)) (by decide +kernel)
theorem tw_518 : Jvm.Cond.methodLink "AsOfLedgerLaw" 81 yM_balance ∈ Tw := Tw_in (List.mem_of_getElem? (i := 518) (by decide +kernel)) (by decide +kernel)
theorem tw_519 : Jvm.Cond.instanceMethod yM_balance ∈ Tw := Tw_in (List.mem_of_getElem? (i := 519) (by decide +kernel)) (by decide +kernel)
theorem tw_520 : Jvm.Cond.selects "AsOfLedgerModel" yM_balance yM_balance ∈ Tw := Tw_in (List.mem_of_getElem? (i := 520) (by decide +kernel)) (by decide +kernel)
theorem tw_521 : Jvm.Cond.code yM_balance bM_balance 4 (some .int) ∈ Tw := Tw_in (List.mem_of_getElem? (i := 521) (by decide +kernel)) (by decide +kernel)
theorem tw_522 : Jvm.Cond.methodLink "AsOfLedgerModel" 88 yM_isTime ∈ Tw := Tw_in (List.mem_of_getElem? (i := 522) (by decide +kernel)) (by decide +kernel)
theorem tw_524 : Jvm.Cond.instanceMethod yM_isTime ∈ Tw := Tw_in (List.mem_of_getElem? (i := 524) (by decide +kernel)) (by decide +kernel)
theorem tw_525 : Jvm.Cond.code yM_isTime bM_isTime 2 (some .boolean) ∈ Tw := Tw_in (List.mem_of_getElem? (i := 525) (by decide +kernel)) (by decide +kernel)
theorem tw_526 : Jvm.Cond.methodLink "AsOfLedgerModel" 91 yM_balanceAt ∈ Tw := Tw_in (List.mem_of_getElem? (i := 526) (by decide +kernel)) (by decide +kernel)
theorem tw_528 : Jvm.Cond.instanceMethod yM_balanceAt ∈ Tw := Tw_in (List.mem_of_getElem? (i := 528) (by decide +kernel)) (by decide +kernel)
theorem tw_529 : Jvm.Cond.code yM_balanceAt bM_balanceAt 8 (some .int) ∈ Tw := Tw_in (List.mem_of_getElem? (i := 529) (by decide +kernel)) (by decide +kernel)
theorem tw_530 : Jvm.Cond.methodLink "AsOfLedgerLaw" 84 yM_trial ∈ Tw := Tw_in (List.mem_of_getElem? (i := 530) (by decide +kernel)) (by decide +kernel)
theorem tw_531 : Jvm.Cond.instanceMethod yM_trial ∈ Tw := Tw_in (List.mem_of_getElem? (i := 531) (by decide +kernel)) (by decide +kernel)
theorem tw_532 : Jvm.Cond.selects "AsOfLedgerModel" yM_trial yM_trial ∈ Tw := Tw_in (List.mem_of_getElem? (i := 532) (by decide +kernel)) (by decide +kernel)
theorem tw_533 : Jvm.Cond.code yM_trial bM_trial 5 (some .int) ∈ Tw := Tw_in (List.mem_of_getElem? (i := 533) (by decide +kernel)) (by decide +kernel)
theorem tw_534 : Jvm.Cond.methodLink "AsOfLedgerLaw" 87 yM_turnover ∈ Tw := Tw_in (List.mem_of_getElem? (i := 534) (by decide +kernel)) (by decide +kernel)
theorem tw_535 : Jvm.Cond.instanceMethod yM_turnover ∈ Tw := Tw_in (List.mem_of_getElem? (i := 535) (by decide +kernel)) (by decide +kernel)
theorem tw_536 : Jvm.Cond.selects "AsOfLedgerModel" yM_turnover yM_turnover ∈ Tw := Tw_in (List.mem_of_getElem? (i := 536) (by decide +kernel)) (by decide +kernel)
theorem tw_537 : Jvm.Cond.code yM_turnover bM_turnover 2 (some .int) ∈ Tw := Tw_in (List.mem_of_getElem? (i := 537) (by decide +kernel)) (by decide +kernel)
theorem tw_538 : Jvm.Cond.methodLink "AsOfLedgerLaw" 90 yM_open ∈ Tw := Tw_in (List.mem_of_getElem? (i := 538) (by decide +kernel)) (by decide +kernel)
theorem tw_539 : Jvm.Cond.instanceMethod yM_open ∈ Tw := Tw_in (List.mem_of_getElem? (i := 539) (by decide +kernel)) (by decide +kernel)
theorem tw_540 : Jvm.Cond.selects "AsOfLedgerModel" yM_open yM_open ∈ Tw := Tw_in (List.mem_of_getElem? (i := 540) (by decide +kernel)) (by decide +kernel)
theorem tw_541 : Jvm.Cond.code yM_open bM_open 8 (some .int) ∈ Tw := Tw_in (List.mem_of_getElem? (i := 541) (by decide +kernel)) (by decide +kernel)
theorem tw_542 : Jvm.Cond.methodLink "AsOfLedgerModel" 104 yM_belongs ∈ Tw := Tw_in (List.mem_of_getElem? (i := 542) (by decide +kernel)) (by decide +kernel)
theorem tw_544 : Jvm.Cond.instanceMethod yM_belongs ∈ Tw := Tw_in (List.mem_of_getElem? (i := 544) (by decide +kernel)) (by decide +kernel)
theorem tw_545 : Jvm.Cond.code yM_belongs bM_belongs 3 (some .boolean) ∈ Tw := Tw_in (List.mem_of_getElem? (i := 545) (by decide +kernel)) (by decide +kernel)
theorem tw_546 : Jvm.Cond.methodLink "AsOfLedgerLaw" 94 yM_next ∈ Tw := Tw_in (List.mem_of_getElem? (i := 546) (by decide +kernel)) (by decide +kernel)
theorem tw_547 : Jvm.Cond.instanceMethod yM_next ∈ Tw := Tw_in (List.mem_of_getElem? (i := 547) (by decide +kernel)) (by decide +kernel)
theorem tw_548 : Jvm.Cond.selects "AsOfLedgerModel" yM_next yM_next ∈ Tw := Tw_in (List.mem_of_getElem? (i := 548) (by decide +kernel)) (by decide +kernel)
theorem tw_549 : Jvm.Cond.code yM_next bM_next 1 (some .int) ∈ Tw := Tw_in (List.mem_of_getElem? (i := 549) (by decide +kernel)) (by decide +kernel)
theorem tw_550 : Jvm.Cond.methodLink "AsOfLedgerLaw" 97 yM_moved ∈ Tw := Tw_in (List.mem_of_getElem? (i := 550) (by decide +kernel)) (by decide +kernel)
theorem tw_551 : Jvm.Cond.instanceMethod yM_moved ∈ Tw := Tw_in (List.mem_of_getElem? (i := 551) (by decide +kernel)) (by decide +kernel)
theorem tw_552 : Jvm.Cond.selects "AsOfLedgerModel" yM_moved yM_moved ∈ Tw := Tw_in (List.mem_of_getElem? (i := 552) (by decide +kernel)) (by decide +kernel)
theorem tw_553 : Jvm.Cond.code yM_moved bM_moved 1 (some .int) ∈ Tw := Tw_in (List.mem_of_getElem? (i := 553) (by decide +kernel)) (by decide +kernel)
theorem tw_554 : Jvm.Cond.methodLink "AsOfLedgerLaw" 100 yM_field ∈ Tw := Tw_in (List.mem_of_getElem? (i := 554) (by decide +kernel)) (by decide +kernel)
theorem tw_555 : Jvm.Cond.instanceMethod yM_field ∈ Tw := Tw_in (List.mem_of_getElem? (i := 555) (by decide +kernel)) (by decide +kernel)
theorem tw_556 : Jvm.Cond.selects "AsOfLedgerModel" yM_field yM_field ∈ Tw := Tw_in (List.mem_of_getElem? (i := 556) (by decide +kernel)) (by decide +kernel)
theorem tw_557 : Jvm.Cond.code yM_field bM_field 6 (some .int) ∈ Tw := Tw_in (List.mem_of_getElem? (i := 557) (by decide +kernel)) (by decide +kernel)
theorem tw_558 : Jvm.Cond.methodLink "AsOfLedgerLaw" 103 yM_entries ∈ Tw := Tw_in (List.mem_of_getElem? (i := 558) (by decide +kernel)) (by decide +kernel)
theorem tw_559 : Jvm.Cond.instanceMethod yM_entries ∈ Tw := Tw_in (List.mem_of_getElem? (i := 559) (by decide +kernel)) (by decide +kernel)
theorem tw_560 : Jvm.Cond.selects "AsOfLedgerModel" yM_entries yM_entries ∈ Tw := Tw_in (List.mem_of_getElem? (i := 560) (by decide +kernel)) (by decide +kernel)
theorem tw_561 : Jvm.Cond.code yM_entries bM_entries 1 (some .int) ∈ Tw := Tw_in (List.mem_of_getElem? (i := 561) (by decide +kernel)) (by decide +kernel)
theorem tw_562 : Jvm.Cond.methodLink "AsOfLedgerLaw" 107 yM_clock ∈ Tw := Tw_in (List.mem_of_getElem? (i := 562) (by decide +kernel)) (by decide +kernel)
theorem tw_563 : Jvm.Cond.instanceMethod yM_clock ∈ Tw := Tw_in (List.mem_of_getElem? (i := 563) (by decide +kernel)) (by decide +kernel)
theorem tw_564 : Jvm.Cond.selects "AsOfLedgerModel" yM_clock yM_clock ∈ Tw := Tw_in (List.mem_of_getElem? (i := 564) (by decide +kernel)) (by decide +kernel)
theorem tw_565 : Jvm.Cond.code yM_clock bM_clock 1 (some .int) ∈ Tw := Tw_in (List.mem_of_getElem? (i := 565) (by decide +kernel)) (by decide +kernel)
theorem tw_566 : Jvm.Cond.methodLink "AsOfLedgerLaw" 112 yM_head ∈ Tw := Tw_in (List.mem_of_getElem? (i := 566) (by decide +kernel)) (by decide +kernel)
theorem tw_567 : Jvm.Cond.instanceMethod yM_head ∈ Tw := Tw_in (List.mem_of_getElem? (i := 567) (by decide +kernel)) (by decide +kernel)
theorem tw_568 : Jvm.Cond.selects "AsOfLedgerModel" yM_head yM_head ∈ Tw := Tw_in (List.mem_of_getElem? (i := 568) (by decide +kernel)) (by decide +kernel)
theorem tw_569 : Jvm.Cond.code yM_head bM_head 1 (some .long) ∈ Tw := Tw_in (List.mem_of_getElem? (i := 569) (by decide +kernel)) (by decide +kernel)
theorem tw_570 : Jvm.Cond.methodLink "AsOfLedgerLaw" 116 yM_verify ∈ Tw := Tw_in (List.mem_of_getElem? (i := 570) (by decide +kernel)) (by decide +kernel)
theorem tw_571 : Jvm.Cond.instanceMethod yM_verify ∈ Tw := Tw_in (List.mem_of_getElem? (i := 571) (by decide +kernel)) (by decide +kernel)
theorem tw_572 : Jvm.Cond.selects "AsOfLedgerModel" yM_verify yM_verify ∈ Tw := Tw_in (List.mem_of_getElem? (i := 572) (by decide +kernel)) (by decide +kernel)
theorem tw_573 : Jvm.Cond.code yM_verify bM_verify 4 (some .int) ∈ Tw := Tw_in (List.mem_of_getElem? (i := 573) (by decide +kernel)) (by decide +kernel)
theorem tw_574 : Jvm.Cond.methodLink "AsOfLedgerLaw" 121 yM_tamper ∈ Tw := Tw_in (List.mem_of_getElem? (i := 574) (by decide +kernel)) (by decide +kernel)
theorem tw_575 : Jvm.Cond.instanceMethod yM_tamper ∈ Tw := Tw_in (List.mem_of_getElem? (i := 575) (by decide +kernel)) (by decide +kernel)
theorem tw_576 : Jvm.Cond.selects "AsOfLedgerModel" yM_tamper yM_tamper ∈ Tw := Tw_in (List.mem_of_getElem? (i := 576) (by decide +kernel)) (by decide +kernel)
theorem tw_577 : Jvm.Cond.code yM_tamper bM_tamper 4 (some .boolean) ∈ Tw := Tw_in (List.mem_of_getElem? (i := 577) (by decide +kernel)) (by decide +kernel)
theorem wsX : ∀ w ∈ u_ws "AsOfLedger" TX 11, w ∈ Tw := by
  have h : (u_ws "AsOfLedger" TX 11).all (fun w => decide (w ∈ lw_tbl) && zgood w) = true := by decide +kernel
  intro w hw
  have q := List.all_eq_true.mp h w hw
  simp only [Bool.and_eq_true, decide_eq_true_eq] at q
  exact Tw_in q.1 q.2
theorem zcl0 : zcl 0 "AsOfLedger" TX 11 tX := ⟨rfl, wsX, tX_ok, nX_ok⟩
theorem wsM : ∀ w ∈ u_ws "AsOfLedgerModel" TM 11, w ∈ Tw := by
  have h : (u_ws "AsOfLedgerModel" TM 11).all (fun w => decide (w ∈ lw_tbl) && zgood w) = true := by decide +kernel
  intro w hw
  have q := List.all_eq_true.mp h w hw
  simp only [Bool.and_eq_true, decide_eq_true_eq] at q
  exact Tw_in q.1 q.2
theorem zcl1 : zcl 1 "AsOfLedgerModel" TM 11 tM := ⟨rfl, wsM, tM_ok, nM_ok⟩
theorem flX_9 : zfld "AsOfLedger" 9 0 0 (.array .int) true := ⟨_, _, _, _, zcl0, by decide, tw_52, rfl, rfl⟩
theorem flX_13 : zfld "AsOfLedger" 13 0 1 (.array .long) true := ⟨_, _, _, _, zcl0, by decide, tw_53, rfl, rfl⟩
theorem flX_17 : zfld "AsOfLedger" 17 0 2 (.array .int) true := ⟨_, _, _, _, zcl0, by decide, tw_54, rfl, rfl⟩
theorem flX_20 : zfld "AsOfLedger" 20 0 6 (.array .int) true := ⟨_, _, _, _, zcl0, by decide, tw_58, rfl, rfl⟩
theorem flX_23 : zfld "AsOfLedger" 23 0 10 .int false := ⟨_, _, _, _, zcl0, by decide, tw_62, rfl, rfl⟩
theorem flX_48 : zfld "AsOfLedger" 48 0 4 .int false := ⟨_, _, _, _, zcl0, by decide, tw_56, rfl, rfl⟩
theorem flX_76 : zfld "AsOfLedger" 76 0 7 .int false := ⟨_, _, _, _, zcl0, by decide, tw_59, rfl, rfl⟩
theorem flX_79 : zfld "AsOfLedger" 79 0 8 .int false := ⟨_, _, _, _, zcl0, by decide, tw_60, rfl, rfl⟩
theorem flX_82 : zfld "AsOfLedger" 82 0 9 .int false := ⟨_, _, _, _, zcl0, by decide, tw_61, rfl, rfl⟩
theorem flX_105 : zfld "AsOfLedger" 105 0 3 .int false := ⟨_, _, _, _, zcl0, by decide, tw_55, rfl, rfl⟩
theorem flX_118 : zfld "AsOfLedger" 118 0 5 .boolean false := ⟨_, _, _, _, zcl0, by decide, tw_57, rfl, rfl⟩
theorem flM_7 : zfld "AsOfLedgerModel" 7 1 4 (.array .int) true := ⟨_, _, _, _, zcl1, by decide, tw_424, rfl, rfl⟩
theorem flM_13 : zfld "AsOfLedgerModel" 13 1 5 (.array .long) true := ⟨_, _, _, _, zcl1, by decide, tw_425, rfl, rfl⟩
theorem flM_17 : zfld "AsOfLedgerModel" 17 1 9 (.array .int) true := ⟨_, _, _, _, zcl1, by decide, tw_429, rfl, rfl⟩
theorem flM_20 : zfld "AsOfLedgerModel" 20 1 10 (.array .int) true := ⟨_, _, _, _, zcl1, by decide, tw_430, rfl, rfl⟩
theorem flM_23 : zfld "AsOfLedgerModel" 23 1 0 .int false := ⟨_, _, _, _, zcl1, by decide, tw_420, rfl, rfl⟩
theorem flM_27 : zfld "AsOfLedgerModel" 27 1 2 .int false := ⟨_, _, _, _, zcl1, by decide, tw_422, rfl, rfl⟩
theorem flM_42 : zfld "AsOfLedgerModel" 42 1 3 .int false := ⟨_, _, _, _, zcl1, by decide, tw_423, rfl, rfl⟩
theorem flM_65 : zfld "AsOfLedgerModel" 65 1 1 .boolean false := ⟨_, _, _, _, zcl1, by decide, tw_421, rfl, rfl⟩
theorem flM_95 : zfld "AsOfLedgerModel" 95 1 6 .int false := ⟨_, _, _, _, zcl1, by decide, tw_426, rfl, rfl⟩
theorem flM_98 : zfld "AsOfLedgerModel" 98 1 7 .int false := ⟨_, _, _, _, zcl1, by decide, tw_427, rfl, rfl⟩
theorem flM_101 : zfld "AsOfLedgerModel" 101 1 8 .boolean false := ⟨_, _, _, _, zcl1, by decide, tw_428, rfl, rfl⟩
theorem kX_27 : zcV "AsOfLedger" 27 yX_refuseIfTampered bX_refuseIfTampered 1 none 0 := ⟨⟨tw_139, tw_136, tw_33, ⟨by decide, by decide⟩, by decide +kernel⟩, tw_138, tw_4⟩
theorem kX_30 : zcS "AsOfLedger" 30 yX_isAccount bX_isAccount 1 (some .boolean) 1 := ⟨⟨tw_212, tw_210, tw_33, ⟨by decide, by decide⟩, by decide +kernel⟩, tw_211⟩
theorem kX_34 : zcS "AsOfLedger" 34 yX_isDay bX_isDay 1 (some .boolean) 1 := ⟨⟨tw_215, tw_213, tw_33, ⟨by decide, by decide⟩, by decide +kernel⟩, tw_214⟩
theorem kX_37 : zcS "AsOfLedger" 37 yX_refuseArgumentsUnless bX_refuseArgumentsUnless 1 none 1 := ⟨⟨tw_218, tw_216, tw_33, ⟨by decide, by decide⟩, by decide +kernel⟩, tw_217⟩
theorem kX_41 : zcV "AsOfLedger" 41 yX_refuseIfFull bX_refuseIfFull 1 none 0 := ⟨⟨tw_238, tw_235, tw_33, ⟨by decide, by decide⟩, by decide +kernel⟩, tw_237, tw_6⟩
theorem kX_44 : zcV "AsOfLedger" 44 yX_refuseIfTurnoverTooHigh bX_refuseIfTurnoverTooHigh 6 none 3 := ⟨⟨tw_258, tw_255, tw_33, ⟨by decide, by decide⟩, by decide +kernel⟩, tw_257, tw_7⟩
theorem kX_51 : zcV "AsOfLedger" 51 yX_append bX_append 9 (some .int) 6 := ⟨⟨tw_291, tw_288, tw_33, ⟨by decide, by decide⟩, by decide +kernel⟩, tw_290, tw_11⟩
theorem kX_55 : zcV "AsOfLedger" 55 yX_versionToReplace bX_versionToReplace 3 (some .int) 1 := ⟨⟨tw_303, tw_300, tw_33, ⟨by decide, by decide⟩, by decide +kernel⟩, tw_302, tw_12⟩
theorem kX_59 : zcV "AsOfLedger" 59 yX_word bX_word 3 (some .int) 2 := ⟨⟨tw_113, tw_110, tw_33, ⟨by decide, by decide⟩, by decide +kernel⟩, tw_112, tw_2⟩
theorem kX_63 : zcV "AsOfLedger" 63 yX_replace bX_replace 5 (some .int) 3 := ⟨⟨tw_327, tw_324, tw_33, ⟨by decide, by decide⟩, by decide +kernel⟩, tw_326, tw_14⟩
theorem kX_67 : zcV "AsOfLedger" 67 yX_isTime bX_isTime 2 (some .boolean) 1 := ⟨⟨tw_345, tw_342, tw_33, ⟨by decide, by decide⟩, by decide +kernel⟩, tw_344, tw_15⟩
theorem kX_70 : zcV "AsOfLedger" 70 yX_balanceOf bX_balanceOf 6 (some .int) 3 := ⟨⟨tw_349, tw_346, tw_33, ⟨by decide, by decide⟩, by decide +kernel⟩, tw_348, tw_16⟩
theorem kX_73 : zcV "AsOfLedger" 73 yX_turnoverOf bX_turnoverOf 4 (some .int) 1 := ⟨⟨tw_262, tw_259, tw_33, ⟨by decide, by decide⟩, by decide +kernel⟩, tw_261, tw_8⟩
theorem kX_85 : zcV "AsOfLedger" 85 yX_isCurrent bX_isCurrent 3 (some .boolean) 2 := ⟨⟨tw_266, tw_263, tw_33, ⟨by decide, by decide⟩, by decide +kernel⟩, tw_265, tw_9⟩
theorem kX_89 : zcV "AsOfLedger" 89 yX_touches bX_touches 3 (some .boolean) 2 := ⟨⟨tw_270, tw_267, tw_33, ⟨by decide, by decide⟩, by decide +kernel⟩, tw_269, tw_10⟩
theorem kX_92 : zcV "AsOfLedger" 92 yX_insertIntoCursor bX_insertIntoCursor 3 none 1 := ⟨⟨tw_378, tw_375, tw_33, ⟨by decide, by decide⟩, by decide +kernel⟩, tw_377, tw_18⟩
theorem kX_96 : zcV "AsOfLedger" 96 yX_movedBy bX_movedBy 3 (some .int) 2 := ⟨⟨tw_353, tw_350, tw_33, ⟨by decide, by decide⟩, by decide +kernel⟩, tw_352, tw_17⟩
theorem kX_99 : zcS "AsOfLedger" 99 yX_isWord bX_isWord 1 (some .boolean) 1 := ⟨⟨tw_124, tw_122, tw_33, ⟨by decide, by decide⟩, by decide +kernel⟩, tw_123⟩
theorem kX_102 : zcV "AsOfLedger" 102 yX_currentVersion bX_currentVersion 4 (some .int) 2 := ⟨⟨tw_307, tw_304, tw_33, ⟨by decide, by decide⟩, by decide +kernel⟩, tw_306, tw_13⟩
theorem kX_108 : zcV "AsOfLedger" 108 yX_linkBefore bX_linkBefore 2 (some .long) 1 := ⟨⟨tw_99, tw_96, tw_33, ⟨by decide, by decide⟩, by decide +kernel⟩, tw_98, tw_0⟩
theorem kX_112 : zcV "AsOfLedger" 112 yX_linkOfWords bX_linkOfWords 5 (some .long) 1 := ⟨⟨tw_108, tw_105, tw_33, ⟨by decide, by decide⟩, by decide +kernel⟩, tw_107, tw_1⟩
theorem kX_115 : zcV "AsOfLedger" 115 yX_isVersion bX_isVersion 2 (some .boolean) 1 := ⟨⟨tw_121, tw_118, tw_33, ⟨by decide, by decide⟩, by decide +kernel⟩, tw_120, tw_3⟩
theorem kX_155 : zcV "AsOfLedger" 155 yX_comesBefore bX_comesBefore 4 (some .boolean) 2 := ⟨⟨tw_382, tw_379, tw_33, ⟨by decide, by decide⟩, by decide +kernel⟩, tw_381, tw_19⟩
theorem kX_158 : zcS "AsOfLedger" 158 yI_compare bI_compare 2 (some .int) 2 := ⟨⟨tw_385, tw_383, tw_43, ⟨by decide, by decide⟩, by decide +kernel⟩, tw_384⟩
theorem kL_7 : zcV "AsOfLedgerLaw" 7 yX_post bX_post 6 (some .int) 4 := ⟨⟨tw_135, tw_132, tw_33, ⟨by decide, by decide⟩, by decide +kernel⟩, tw_133, tw_134⟩
theorem kL_21 : zcV "AsOfLedgerLaw" 21 yX_correct bX_correct 4 (some .int) 2 := ⟨⟨tw_299, tw_296, tw_33, ⟨by decide, by decide⟩, by decide +kernel⟩, tw_297, tw_298⟩
theorem kL_27 : zcV "AsOfLedgerLaw" 27 yX_annul bX_annul 3 (some .int) 1 := ⟨⟨tw_334, tw_331, tw_33, ⟨by decide, by decide⟩, by decide +kernel⟩, tw_332, tw_333⟩
theorem kL_31 : zcV "AsOfLedgerLaw" 31 yX_balance bX_balance 4 (some .int) 3 := ⟨⟨tw_341, tw_338, tw_33, ⟨by decide, by decide⟩, by decide +kernel⟩, tw_339, tw_340⟩
theorem kL_35 : zcV "AsOfLedgerLaw" 35 yX_trial bX_trial 5 (some .int) 2 := ⟨⟨tw_360, tw_357, tw_33, ⟨by decide, by decide⟩, by decide +kernel⟩, tw_358, tw_359⟩
theorem kL_38 : zcV "AsOfLedgerLaw" 38 yX_turnover bX_turnover 2 (some .int) 1 := ⟨⟨tw_367, tw_364, tw_33, ⟨by decide, by decide⟩, by decide +kernel⟩, tw_365, tw_366⟩
theorem kL_41 : zcV "AsOfLedgerLaw" 41 yX_open bX_open 7 (some .int) 4 := ⟨⟨tw_374, tw_371, tw_33, ⟨by decide, by decide⟩, by decide +kernel⟩, tw_372, tw_373⟩
theorem kL_44 : zcV "AsOfLedgerLaw" 44 yX_next bX_next 1 (some .int) 0 := ⟨⟨tw_392, tw_389, tw_33, ⟨by decide, by decide⟩, by decide +kernel⟩, tw_390, tw_391⟩
theorem kL_48 : zcV "AsOfLedgerLaw" 48 yX_moved bX_moved 1 (some .int) 0 := ⟨⟨tw_399, tw_396, tw_33, ⟨by decide, by decide⟩, by decide +kernel⟩, tw_397, tw_398⟩
theorem kL_51 : zcV "AsOfLedgerLaw" 51 yX_field bX_field 5 (some .int) 3 := ⟨⟨tw_406, tw_403, tw_33, ⟨by decide, by decide⟩, by decide +kernel⟩, tw_404, tw_405⟩
theorem kL_54 : zcV "AsOfLedgerLaw" 54 yX_entries bX_entries 1 (some .int) 0 := ⟨⟨tw_413, tw_410, tw_33, ⟨by decide, by decide⟩, by decide +kernel⟩, tw_411, tw_412⟩
theorem kL_66 : zcV "AsOfLedgerLaw" 66 yM_post bM_post 6 (some .int) 4 := ⟨⟨tw_461, tw_458, tw_34, ⟨by decide, by decide⟩, by decide +kernel⟩, tw_459, tw_460⟩
theorem kL_67 : zcV "AsOfLedgerLaw" 67 yM_thrown bM_thrown 1 (some .int) 0 := ⟨⟨tw_457, tw_454, tw_34, ⟨by decide, by decide⟩, by decide +kernel⟩, tw_455, tw_456⟩
theorem kL_73 : zcV "AsOfLedgerLaw" 73 yM_correct bM_correct 6 (some .int) 2 := ⟨⟨tw_509, tw_506, tw_34, ⟨by decide, by decide⟩, by decide +kernel⟩, tw_507, tw_508⟩
theorem kL_77 : zcV "AsOfLedgerLaw" 77 yM_annul bM_annul 3 (some .int) 1 := ⟨⟨tw_517, tw_514, tw_34, ⟨by decide, by decide⟩, by decide +kernel⟩, tw_515, tw_516⟩
theorem kL_81 : zcV "AsOfLedgerLaw" 81 yM_balance bM_balance 4 (some .int) 3 := ⟨⟨tw_521, tw_518, tw_34, ⟨by decide, by decide⟩, by decide +kernel⟩, tw_519, tw_520⟩
theorem kL_84 : zcV "AsOfLedgerLaw" 84 yM_trial bM_trial 5 (some .int) 2 := ⟨⟨tw_533, tw_530, tw_34, ⟨by decide, by decide⟩, by decide +kernel⟩, tw_531, tw_532⟩
theorem kL_87 : zcV "AsOfLedgerLaw" 87 yM_turnover bM_turnover 2 (some .int) 1 := ⟨⟨tw_537, tw_534, tw_34, ⟨by decide, by decide⟩, by decide +kernel⟩, tw_535, tw_536⟩
theorem kL_90 : zcV "AsOfLedgerLaw" 90 yM_open bM_open 8 (some .int) 4 := ⟨⟨tw_541, tw_538, tw_34, ⟨by decide, by decide⟩, by decide +kernel⟩, tw_539, tw_540⟩
theorem kL_94 : zcV "AsOfLedgerLaw" 94 yM_next bM_next 1 (some .int) 0 := ⟨⟨tw_549, tw_546, tw_34, ⟨by decide, by decide⟩, by decide +kernel⟩, tw_547, tw_548⟩
theorem kL_97 : zcV "AsOfLedgerLaw" 97 yM_moved bM_moved 1 (some .int) 0 := ⟨⟨tw_553, tw_550, tw_34, ⟨by decide, by decide⟩, by decide +kernel⟩, tw_551, tw_552⟩
theorem kL_100 : zcV "AsOfLedgerLaw" 100 yM_field bM_field 6 (some .int) 3 := ⟨⟨tw_557, tw_554, tw_34, ⟨by decide, by decide⟩, by decide +kernel⟩, tw_555, tw_556⟩
theorem kL_103 : zcV "AsOfLedgerLaw" 103 yM_entries bM_entries 1 (some .int) 0 := ⟨⟨tw_561, tw_558, tw_34, ⟨by decide, by decide⟩, by decide +kernel⟩, tw_559, tw_560⟩
theorem kL_104 : zcV "AsOfLedgerLaw" 104 yX_clock bX_clock 1 (some .int) 0 := ⟨⟨tw_91, tw_88, tw_33, ⟨by decide, by decide⟩, by decide +kernel⟩, tw_89, tw_90⟩
theorem kL_107 : zcV "AsOfLedgerLaw" 107 yM_clock bM_clock 1 (some .int) 0 := ⟨⟨tw_565, tw_562, tw_34, ⟨by decide, by decide⟩, by decide +kernel⟩, tw_563, tw_564⟩
theorem kL_108 : zcV "AsOfLedgerLaw" 108 yX_head bX_head 1 (some .long) 0 := ⟨⟨tw_95, tw_92, tw_33, ⟨by decide, by decide⟩, by decide +kernel⟩, tw_93, tw_94⟩
theorem kL_112 : zcV "AsOfLedgerLaw" 112 yM_head bM_head 1 (some .long) 0 := ⟨⟨tw_569, tw_566, tw_34, ⟨by decide, by decide⟩, by decide +kernel⟩, tw_567, tw_568⟩
theorem kL_113 : zcV "AsOfLedgerLaw" 113 yX_verify bX_verify 2 (some .int) 0 := ⟨⟨tw_104, tw_101, tw_33, ⟨by decide, by decide⟩, by decide +kernel⟩, tw_102, tw_103⟩
theorem kL_116 : zcV "AsOfLedgerLaw" 116 yM_verify bM_verify 4 (some .int) 0 := ⟨⟨tw_573, tw_570, tw_34, ⟨by decide, by decide⟩, by decide +kernel⟩, tw_571, tw_572⟩
theorem kL_117 : zcV "AsOfLedgerLaw" 117 yX_tamper bX_tamper 4 (some .boolean) 3 := ⟨⟨tw_117, tw_114, tw_33, ⟨by decide, by decide⟩, by decide +kernel⟩, tw_115, tw_116⟩
theorem kL_121 : zcV "AsOfLedgerLaw" 121 yM_tamper bM_tamper 4 (some .boolean) 3 := ⟨⟨tw_577, tw_574, tw_34, ⟨by decide, by decide⟩, by decide +kernel⟩, tw_575, tw_576⟩
theorem kM_30 : zcV "AsOfLedgerModel" 30 yM_word bM_word 3 (some .int) 2 := ⟨⟨tw_483, tw_480, tw_34, ⟨by decide, by decide⟩, by decide +kernel⟩, tw_482, tw_23⟩
theorem kM_36 : zcS "AsOfLedgerModel" 36 yM_follow bM_follow 3 (some .long) 2 := ⟨⟨tw_504, tw_502, tw_34, ⟨by decide, by decide⟩, by decide +kernel⟩, tw_503⟩
theorem kM_45 : zcV "AsOfLedgerModel" 45 yM_currentAt bM_currentAt 4 (some .int) 2 := ⟨⟨tw_479, tw_476, tw_34, ⟨by decide, by decide⟩, by decide +kernel⟩, tw_478, tw_22⟩
theorem kM_48 : zcV "AsOfLedgerModel" 48 yM_turnoverNow bM_turnoverNow 7 (some .long) 1 := ⟨⟨tw_475, tw_472, tw_34, ⟨by decide, by decide⟩, by decide +kernel⟩, tw_474, tw_21⟩
theorem kM_54 : zcV "AsOfLedgerModel" 54 yM_write bM_write 3 none 2 := ⟨⟨tw_492, tw_489, tw_34, ⟨by decide, by decide⟩, by decide +kernel⟩, tw_491, tw_25⟩
theorem kM_58 : zcV "AsOfLedgerModel" 58 yM_linkBefore bM_linkBefore 2 (some .long) 1 := ⟨⟨tw_496, tw_493, tw_34, ⟨by decide, by decide⟩, by decide +kernel⟩, tw_495, tw_26⟩
theorem kM_61 : zcV "AsOfLedgerModel" 61 yM_linkOf bM_linkOf 7 (some .long) 2 := ⟨⟨tw_501, tw_498, tw_34, ⟨by decide, by decide⟩, by decide +kernel⟩, tw_500, tw_27⟩
theorem kM_69 : zcS "AsOfLedgerModel" 69 yM_isAccount bM_isAccount 1 (some .boolean) 1 := ⟨⟨tw_464, tw_462, tw_34, ⟨by decide, by decide⟩, by decide +kernel⟩, tw_463⟩
theorem kM_73 : zcS "AsOfLedgerModel" 73 yM_isDay bM_isDay 1 (some .boolean) 1 := ⟨⟨tw_467, tw_465, tw_34, ⟨by decide, by decide⟩, by decide +kernel⟩, tw_466⟩
theorem kM_76 : zcV "AsOfLedgerModel" 76 yM_tooMuch bM_tooMuch 4 (some .boolean) 2 := ⟨⟨tw_471, tw_468, tw_34, ⟨by decide, by decide⟩, by decide +kernel⟩, tw_470, tw_20⟩
theorem kM_80 : zcV "AsOfLedgerModel" 80 yM_add bM_add 7 (some .int) 6 := ⟨⟨tw_488, tw_485, tw_34, ⟨by decide, by decide⟩, by decide +kernel⟩, tw_487, tw_24⟩
theorem kM_84 : zcV "AsOfLedgerModel" 84 yM_living bM_living 3 (some .int) 1 := ⟨⟨tw_513, tw_510, tw_34, ⟨by decide, by decide⟩, by decide +kernel⟩, tw_512, tw_28⟩
theorem kM_88 : zcV "AsOfLedgerModel" 88 yM_isTime bM_isTime 2 (some .boolean) 1 := ⟨⟨tw_525, tw_522, tw_34, ⟨by decide, by decide⟩, by decide +kernel⟩, tw_524, tw_29⟩
theorem kM_91 : zcV "AsOfLedgerModel" 91 yM_balanceAt bM_balanceAt 8 (some .int) 3 := ⟨⟨tw_529, tw_526, tw_34, ⟨by decide, by decide⟩, by decide +kernel⟩, tw_528, tw_30⟩
theorem kM_104 : zcV "AsOfLedgerModel" 104 yM_belongs bM_belongs 3 (some .boolean) 2 := ⟨⟨tw_545, tw_542, tw_34, ⟨by decide, by decide⟩, by decide +kernel⟩, tw_544, tw_31⟩
end
section
theorem dX_init_0 : decode bX_init 0 = .ok (.aload_n 0, 1) := by decide +kernel
theorem dX_init_1 : decode bX_init 1 = .ok (.invokespecial 3, 3) := by decide +kernel
theorem dX_init_4 : decode bX_init 4 = .ok (.aload_n 0, 1) := by decide +kernel
theorem dX_init_5 : decode bX_init 5 = .ok (.sipush 384, 3) := by decide +kernel
theorem dX_init_8 : decode bX_init 8 = .ok (.newarray .int, 2) := by decide +kernel
theorem dX_init_10 : decode bX_init 10 = .ok (.putfield 9, 3) := by decide +kernel
theorem dX_init_13 : decode bX_init 13 = .ok (.aload_n 0, 1) := by decide +kernel
theorem dX_init_14 : decode bX_init 14 = .ok (.bipush 64, 2) := by decide +kernel
theorem dX_init_16 : decode bX_init 16 = .ok (.newarray .long, 2) := by decide +kernel
theorem dX_init_18 : decode bX_init 18 = .ok (.putfield 13, 3) := by decide +kernel
theorem dX_init_21 : decode bX_init 21 = .ok (.aload_n 0, 1) := by decide +kernel
theorem dX_init_22 : decode bX_init 22 = .ok (.bipush 64, 2) := by decide +kernel
theorem dX_init_24 : decode bX_init 24 = .ok (.newarray .int, 2) := by decide +kernel
theorem dX_init_26 : decode bX_init 26 = .ok (.putfield 17, 3) := by decide +kernel
theorem dX_init_29 : decode bX_init 29 = .ok (.aload_n 0, 1) := by decide +kernel
theorem dX_init_30 : decode bX_init 30 = .ok (.bipush 64, 2) := by decide +kernel
theorem dX_init_32 : decode bX_init 32 = .ok (.newarray .int, 2) := by decide +kernel
theorem dX_init_34 : decode bX_init 34 = .ok (.putfield 20, 3) := by decide +kernel
theorem dX_init_37 : decode bX_init 37 = .ok (.aload_n 0, 1) := by decide +kernel
theorem dX_init_38 : decode bX_init 38 = .ok (.iconst (-1), 1) := by decide +kernel
theorem dX_init_39 : decode bX_init 39 = .ok (.putfield 23, 3) := by decide +kernel
theorem dX_init_42 : decode bX_init 42 = .ok (.return_, 1) := by decide +kernel
theorem dX_post_0 : decode bX_post 0 = .ok (.aload_n 0, 1) := by decide +kernel
theorem dX_post_1 : decode bX_post 1 = .ok (.invokevirtual 27, 3) := by decide +kernel
theorem dX_post_4 : decode bX_post 4 = .ok (.iload_n 1, 1) := by decide +kernel
theorem dX_post_5 : decode bX_post 5 = .ok (.invokestatic 30, 3) := by decide +kernel
theorem dX_post_8 : decode bX_post 8 = .ok (.ifCond .eq 32, 3) := by decide +kernel
theorem dX_post_11 : decode bX_post 11 = .ok (.iload_n 2, 1) := by decide +kernel
theorem dX_post_12 : decode bX_post 12 = .ok (.invokestatic 30, 3) := by decide +kernel
theorem dX_post_15 : decode bX_post 15 = .ok (.ifCond .eq 25, 3) := by decide +kernel
theorem dX_post_18 : decode bX_post 18 = .ok (.iload_n 1, 1) := by decide +kernel
theorem dX_post_19 : decode bX_post 19 = .ok (.iload_n 2, 1) := by decide +kernel
theorem dX_post_20 : decode bX_post 20 = .ok (.if_icmp .eq 20, 3) := by decide +kernel
theorem dX_post_23 : decode bX_post 23 = .ok (.iload 4, 2) := by decide +kernel
theorem dX_post_25 : decode bX_post 25 = .ok (.invokestatic 34, 3) := by decide +kernel
theorem dX_post_28 : decode bX_post 28 = .ok (.ifCond .eq 12, 3) := by decide +kernel
theorem dX_post_31 : decode bX_post 31 = .ok (.iload_n 3, 1) := by decide +kernel
theorem dX_post_32 : decode bX_post 32 = .ok (.iconst 1, 1) := by decide +kernel
theorem dX_post_33 : decode bX_post 33 = .ok (.if_icmp .lt 7, 3) := by decide +kernel
theorem dX_post_36 : decode bX_post 36 = .ok (.iconst 1, 1) := by decide +kernel
theorem dX_post_37 : decode bX_post 37 = .ok (.goto 4, 3) := by decide +kernel
theorem dX_post_40 : decode bX_post 40 = .ok (.iconst 0, 1) := by decide +kernel
theorem dX_post_41 : decode bX_post 41 = .ok (.invokestatic 37, 3) := by decide +kernel
theorem dX_post_44 : decode bX_post 44 = .ok (.aload_n 0, 1) := by decide +kernel
theorem dX_post_45 : decode bX_post 45 = .ok (.invokevirtual 41, 3) := by decide +kernel
theorem dX_post_48 : decode bX_post 48 = .ok (.aload_n 0, 1) := by decide +kernel
theorem dX_post_49 : decode bX_post 49 = .ok (.iload_n 1, 1) := by decide +kernel
theorem dX_post_50 : decode bX_post 50 = .ok (.iconst 0, 1) := by decide +kernel
theorem dX_post_51 : decode bX_post 51 = .ok (.iload_n 3, 1) := by decide +kernel
theorem dX_post_52 : decode bX_post 52 = .ok (.invokevirtual 44, 3) := by decide +kernel
theorem dX_post_55 : decode bX_post 55 = .ok (.aload_n 0, 1) := by decide +kernel
theorem dX_post_56 : decode bX_post 56 = .ok (.iload_n 2, 1) := by decide +kernel
theorem dX_post_57 : decode bX_post 57 = .ok (.iconst 0, 1) := by decide +kernel
theorem dX_post_58 : decode bX_post 58 = .ok (.iload_n 3, 1) := by decide +kernel
theorem dX_post_59 : decode bX_post 59 = .ok (.invokevirtual 44, 3) := by decide +kernel
theorem dX_post_62 : decode bX_post 62 = .ok (.aload_n 0, 1) := by decide +kernel
theorem dX_post_63 : decode bX_post 63 = .ok (.getfield 48, 3) := by decide +kernel
theorem dX_post_66 : decode bX_post 66 = .ok (.istore 5, 2) := by decide +kernel
theorem dX_post_68 : decode bX_post 68 = .ok (.aload_n 0, 1) := by decide +kernel
theorem dX_post_69 : decode bX_post 69 = .ok (.iconst 0, 1) := by decide +kernel
theorem dX_post_70 : decode bX_post 70 = .ok (.iload 5, 2) := by decide +kernel
theorem dX_post_72 : decode bX_post 72 = .ok (.iload_n 1, 1) := by decide +kernel
theorem dX_post_73 : decode bX_post 73 = .ok (.iload_n 2, 1) := by decide +kernel
theorem dX_post_74 : decode bX_post 74 = .ok (.iload_n 3, 1) := by decide +kernel
theorem dX_post_75 : decode bX_post 75 = .ok (.iload 4, 2) := by decide +kernel
theorem dX_post_77 : decode bX_post 77 = .ok (.invokevirtual 51, 3) := by decide +kernel
theorem dX_post_80 : decode bX_post 80 = .ok (.pop, 1) := by decide +kernel
theorem dX_post_81 : decode bX_post 81 = .ok (.aload_n 0, 1) := by decide +kernel
theorem dX_post_82 : decode bX_post 82 = .ok (.dup, 1) := by decide +kernel
theorem dX_post_83 : decode bX_post 83 = .ok (.getfield 48, 3) := by decide +kernel
theorem dX_post_86 : decode bX_post 86 = .ok (.iconst 1, 1) := by decide +kernel
theorem dX_post_87 : decode bX_post 87 = .ok (.iadd, 1) := by decide +kernel
theorem dX_post_88 : decode bX_post 88 = .ok (.putfield 48, 3) := by decide +kernel
theorem dX_post_91 : decode bX_post 91 = .ok (.iload 5, 2) := by decide +kernel
theorem dX_post_93 : decode bX_post 93 = .ok (.ireturn, 1) := by decide +kernel
theorem dX_correct_0 : decode bX_correct 0 = .ok (.aload_n 0, 1) := by decide +kernel
theorem dX_correct_1 : decode bX_correct 1 = .ok (.invokevirtual 27, 3) := by decide +kernel
theorem dX_correct_4 : decode bX_correct 4 = .ok (.aload_n 0, 1) := by decide +kernel
theorem dX_correct_5 : decode bX_correct 5 = .ok (.iload_n 1, 1) := by decide +kernel
theorem dX_correct_6 : decode bX_correct 6 = .ok (.invokevirtual 55, 3) := by decide +kernel
theorem dX_correct_9 : decode bX_correct 9 = .ok (.istore_n 3, 1) := by decide +kernel
theorem dX_correct_10 : decode bX_correct 10 = .ok (.iload_n 2, 1) := by decide +kernel
theorem dX_correct_11 : decode bX_correct 11 = .ok (.iconst 1, 1) := by decide +kernel
theorem dX_correct_12 : decode bX_correct 12 = .ok (.if_icmp .lt 7, 3) := by decide +kernel
theorem dX_correct_15 : decode bX_correct 15 = .ok (.iconst 1, 1) := by decide +kernel
theorem dX_correct_16 : decode bX_correct 16 = .ok (.goto 4, 3) := by decide +kernel
theorem dX_correct_19 : decode bX_correct 19 = .ok (.iconst 0, 1) := by decide +kernel
theorem dX_correct_20 : decode bX_correct 20 = .ok (.invokestatic 37, 3) := by decide +kernel
theorem dX_correct_23 : decode bX_correct 23 = .ok (.aload_n 0, 1) := by decide +kernel
theorem dX_correct_24 : decode bX_correct 24 = .ok (.invokevirtual 41, 3) := by decide +kernel
theorem dX_correct_27 : decode bX_correct 27 = .ok (.aload_n 0, 1) := by decide +kernel
theorem dX_correct_28 : decode bX_correct 28 = .ok (.aload_n 0, 1) := by decide +kernel
theorem dX_correct_29 : decode bX_correct 29 = .ok (.iload_n 3, 1) := by decide +kernel
theorem dX_correct_30 : decode bX_correct 30 = .ok (.iconst 2, 1) := by decide +kernel
theorem dX_correct_31 : decode bX_correct 31 = .ok (.invokevirtual 59, 3) := by decide +kernel
theorem dX_correct_34 : decode bX_correct 34 = .ok (.aload_n 0, 1) := by decide +kernel
theorem dX_correct_35 : decode bX_correct 35 = .ok (.iload_n 3, 1) := by decide +kernel
theorem dX_correct_36 : decode bX_correct 36 = .ok (.iconst 4, 1) := by decide +kernel
theorem dX_correct_37 : decode bX_correct 37 = .ok (.invokevirtual 59, 3) := by decide +kernel
theorem dX_correct_40 : decode bX_correct 40 = .ok (.iload_n 2, 1) := by decide +kernel
theorem dX_correct_41 : decode bX_correct 41 = .ok (.invokevirtual 44, 3) := by decide +kernel
theorem dX_correct_44 : decode bX_correct 44 = .ok (.aload_n 0, 1) := by decide +kernel
theorem dX_correct_45 : decode bX_correct 45 = .ok (.aload_n 0, 1) := by decide +kernel
theorem dX_correct_46 : decode bX_correct 46 = .ok (.iload_n 3, 1) := by decide +kernel
theorem dX_correct_47 : decode bX_correct 47 = .ok (.iconst 3, 1) := by decide +kernel
theorem dX_correct_48 : decode bX_correct 48 = .ok (.invokevirtual 59, 3) := by decide +kernel
theorem dX_correct_51 : decode bX_correct 51 = .ok (.aload_n 0, 1) := by decide +kernel
theorem dX_correct_52 : decode bX_correct 52 = .ok (.iload_n 3, 1) := by decide +kernel
theorem dX_correct_53 : decode bX_correct 53 = .ok (.iconst 4, 1) := by decide +kernel
theorem dX_correct_54 : decode bX_correct 54 = .ok (.invokevirtual 59, 3) := by decide +kernel
theorem dX_correct_57 : decode bX_correct 57 = .ok (.iload_n 2, 1) := by decide +kernel
theorem dX_correct_58 : decode bX_correct 58 = .ok (.invokevirtual 44, 3) := by decide +kernel
theorem dX_correct_61 : decode bX_correct 61 = .ok (.aload_n 0, 1) := by decide +kernel
theorem dX_correct_62 : decode bX_correct 62 = .ok (.iload_n 3, 1) := by decide +kernel
theorem dX_correct_63 : decode bX_correct 63 = .ok (.iconst 1, 1) := by decide +kernel
theorem dX_correct_64 : decode bX_correct 64 = .ok (.iload_n 2, 1) := by decide +kernel
theorem dX_correct_65 : decode bX_correct 65 = .ok (.invokevirtual 63, 3) := by decide +kernel
theorem dX_correct_68 : decode bX_correct 68 = .ok (.ireturn, 1) := by decide +kernel
theorem dX_annul_0 : decode bX_annul 0 = .ok (.aload_n 0, 1) := by decide +kernel
theorem dX_annul_1 : decode bX_annul 1 = .ok (.invokevirtual 27, 3) := by decide +kernel
theorem dX_annul_4 : decode bX_annul 4 = .ok (.aload_n 0, 1) := by decide +kernel
theorem dX_annul_5 : decode bX_annul 5 = .ok (.iload_n 1, 1) := by decide +kernel
theorem dX_annul_6 : decode bX_annul 6 = .ok (.invokevirtual 55, 3) := by decide +kernel
theorem dX_annul_9 : decode bX_annul 9 = .ok (.istore_n 2, 1) := by decide +kernel
theorem dX_annul_10 : decode bX_annul 10 = .ok (.aload_n 0, 1) := by decide +kernel
theorem dX_annul_11 : decode bX_annul 11 = .ok (.invokevirtual 41, 3) := by decide +kernel
theorem dX_annul_14 : decode bX_annul 14 = .ok (.aload_n 0, 1) := by decide +kernel
theorem dX_annul_15 : decode bX_annul 15 = .ok (.iload_n 2, 1) := by decide +kernel
theorem dX_annul_16 : decode bX_annul 16 = .ok (.iconst 2, 1) := by decide +kernel
theorem dX_annul_17 : decode bX_annul 17 = .ok (.iconst 0, 1) := by decide +kernel
theorem dX_annul_18 : decode bX_annul 18 = .ok (.invokevirtual 63, 3) := by decide +kernel
theorem dX_annul_21 : decode bX_annul 21 = .ok (.ireturn, 1) := by decide +kernel
theorem dX_balance_0 : decode bX_balance 0 = .ok (.aload_n 0, 1) := by decide +kernel
theorem dX_balance_1 : decode bX_balance 1 = .ok (.invokevirtual 27, 3) := by decide +kernel
theorem dX_balance_4 : decode bX_balance 4 = .ok (.iload_n 1, 1) := by decide +kernel
theorem dX_balance_5 : decode bX_balance 5 = .ok (.invokestatic 30, 3) := by decide +kernel
theorem dX_balance_8 : decode bX_balance 8 = .ok (.ifCond .eq 22, 3) := by decide +kernel
theorem dX_balance_11 : decode bX_balance 11 = .ok (.iload_n 2, 1) := by decide +kernel
theorem dX_balance_12 : decode bX_balance 12 = .ok (.invokestatic 34, 3) := by decide +kernel
theorem dX_balance_15 : decode bX_balance 15 = .ok (.ifCond .eq 15, 3) := by decide +kernel
theorem dX_balance_18 : decode bX_balance 18 = .ok (.aload_n 0, 1) := by decide +kernel
theorem dX_balance_19 : decode bX_balance 19 = .ok (.iload_n 3, 1) := by decide +kernel
theorem dX_balance_20 : decode bX_balance 20 = .ok (.invokevirtual 67, 3) := by decide +kernel
theorem dX_balance_23 : decode bX_balance 23 = .ok (.ifCond .eq 7, 3) := by decide +kernel
theorem dX_balance_26 : decode bX_balance 26 = .ok (.iconst 1, 1) := by decide +kernel
theorem dX_balance_27 : decode bX_balance 27 = .ok (.goto 4, 3) := by decide +kernel
theorem dX_balance_30 : decode bX_balance 30 = .ok (.iconst 0, 1) := by decide +kernel
theorem dX_balance_31 : decode bX_balance 31 = .ok (.invokestatic 37, 3) := by decide +kernel
theorem dX_balance_34 : decode bX_balance 34 = .ok (.aload_n 0, 1) := by decide +kernel
theorem dX_balance_35 : decode bX_balance 35 = .ok (.iload_n 1, 1) := by decide +kernel
theorem dX_balance_36 : decode bX_balance 36 = .ok (.iload_n 2, 1) := by decide +kernel
theorem dX_balance_37 : decode bX_balance 37 = .ok (.iload_n 3, 1) := by decide +kernel
theorem dX_balance_38 : decode bX_balance 38 = .ok (.invokevirtual 70, 3) := by decide +kernel
theorem dX_balance_41 : decode bX_balance 41 = .ok (.ireturn, 1) := by decide +kernel
theorem dX_trial_0 : decode bX_trial 0 = .ok (.aload_n 0, 1) := by decide +kernel
theorem dX_trial_1 : decode bX_trial 1 = .ok (.invokevirtual 27, 3) := by decide +kernel
theorem dX_trial_4 : decode bX_trial 4 = .ok (.iload_n 1, 1) := by decide +kernel
theorem dX_trial_5 : decode bX_trial 5 = .ok (.invokestatic 34, 3) := by decide +kernel
theorem dX_trial_8 : decode bX_trial 8 = .ok (.ifCond .eq 15, 3) := by decide +kernel
theorem dX_trial_11 : decode bX_trial 11 = .ok (.aload_n 0, 1) := by decide +kernel
theorem dX_trial_12 : decode bX_trial 12 = .ok (.iload_n 2, 1) := by decide +kernel
theorem dX_trial_13 : decode bX_trial 13 = .ok (.invokevirtual 67, 3) := by decide +kernel
theorem dX_trial_16 : decode bX_trial 16 = .ok (.ifCond .eq 7, 3) := by decide +kernel
theorem dX_trial_19 : decode bX_trial 19 = .ok (.iconst 1, 1) := by decide +kernel
theorem dX_trial_20 : decode bX_trial 20 = .ok (.goto 4, 3) := by decide +kernel
theorem dX_trial_23 : decode bX_trial 23 = .ok (.iconst 0, 1) := by decide +kernel
theorem dX_trial_24 : decode bX_trial 24 = .ok (.invokestatic 37, 3) := by decide +kernel
theorem dX_trial_27 : decode bX_trial 27 = .ok (.iconst 0, 1) := by decide +kernel
theorem dX_trial_28 : decode bX_trial 28 = .ok (.istore_n 3, 1) := by decide +kernel
theorem dX_trial_29 : decode bX_trial 29 = .ok (.iconst 0, 1) := by decide +kernel
theorem dX_trial_30 : decode bX_trial 30 = .ok (.istore 4, 2) := by decide +kernel
theorem dX_trial_32 : decode bX_trial 32 = .ok (.iload 4, 2) := by decide +kernel
theorem dX_trial_34 : decode bX_trial 34 = .ok (.bipush 16, 2) := by decide +kernel
theorem dX_trial_36 : decode bX_trial 36 = .ok (.if_icmp .ge 20, 3) := by decide +kernel
theorem dX_trial_39 : decode bX_trial 39 = .ok (.iload_n 3, 1) := by decide +kernel
theorem dX_trial_40 : decode bX_trial 40 = .ok (.aload_n 0, 1) := by decide +kernel
theorem dX_trial_41 : decode bX_trial 41 = .ok (.iload 4, 2) := by decide +kernel
theorem dX_trial_43 : decode bX_trial 43 = .ok (.iload_n 1, 1) := by decide +kernel
theorem dX_trial_44 : decode bX_trial 44 = .ok (.iload_n 2, 1) := by decide +kernel
theorem dX_trial_45 : decode bX_trial 45 = .ok (.invokevirtual 70, 3) := by decide +kernel
theorem dX_trial_48 : decode bX_trial 48 = .ok (.iadd, 1) := by decide +kernel
theorem dX_trial_49 : decode bX_trial 49 = .ok (.istore_n 3, 1) := by decide +kernel
theorem dX_trial_50 : decode bX_trial 50 = .ok (.iinc 4 1, 3) := by decide +kernel
theorem dX_trial_53 : decode bX_trial 53 = .ok (.goto (-21), 3) := by decide +kernel
theorem dX_trial_56 : decode bX_trial 56 = .ok (.iload_n 3, 1) := by decide +kernel
theorem dX_trial_57 : decode bX_trial 57 = .ok (.ireturn, 1) := by decide +kernel
theorem dX_turnover_0 : decode bX_turnover 0 = .ok (.aload_n 0, 1) := by decide +kernel
theorem dX_turnover_1 : decode bX_turnover 1 = .ok (.invokevirtual 27, 3) := by decide +kernel
theorem dX_turnover_4 : decode bX_turnover 4 = .ok (.iload_n 1, 1) := by decide +kernel
theorem dX_turnover_5 : decode bX_turnover 5 = .ok (.invokestatic 30, 3) := by decide +kernel
theorem dX_turnover_8 : decode bX_turnover 8 = .ok (.invokestatic 37, 3) := by decide +kernel
theorem dX_turnover_11 : decode bX_turnover 11 = .ok (.aload_n 0, 1) := by decide +kernel
theorem dX_turnover_12 : decode bX_turnover 12 = .ok (.iload_n 1, 1) := by decide +kernel
theorem dX_turnover_13 : decode bX_turnover 13 = .ok (.invokevirtual 73, 3) := by decide +kernel
theorem dX_turnover_16 : decode bX_turnover 16 = .ok (.ireturn, 1) := by decide +kernel
theorem dX_open_0 : decode bX_open 0 = .ok (.aload_n 0, 1) := by decide +kernel
theorem dX_open_1 : decode bX_open 1 = .ok (.invokevirtual 27, 3) := by decide +kernel
theorem dX_open_4 : decode bX_open 4 = .ok (.iload_n 1, 1) := by decide +kernel
theorem dX_open_5 : decode bX_open 5 = .ok (.invokestatic 30, 3) := by decide +kernel
theorem dX_open_8 : decode bX_open 8 = .ok (.ifCond .eq 30, 3) := by decide +kernel
theorem dX_open_11 : decode bX_open 11 = .ok (.iload_n 2, 1) := by decide +kernel
theorem dX_open_12 : decode bX_open 12 = .ok (.invokestatic 34, 3) := by decide +kernel
theorem dX_open_15 : decode bX_open 15 = .ok (.ifCond .eq 23, 3) := by decide +kernel
theorem dX_open_18 : decode bX_open 18 = .ok (.iload_n 3, 1) := by decide +kernel
theorem dX_open_19 : decode bX_open 19 = .ok (.invokestatic 34, 3) := by decide +kernel
theorem dX_open_22 : decode bX_open 22 = .ok (.ifCond .eq 16, 3) := by decide +kernel
theorem dX_open_25 : decode bX_open 25 = .ok (.aload_n 0, 1) := by decide +kernel
theorem dX_open_26 : decode bX_open 26 = .ok (.iload 4, 2) := by decide +kernel
theorem dX_open_28 : decode bX_open 28 = .ok (.invokevirtual 67, 3) := by decide +kernel
theorem dX_open_31 : decode bX_open 31 = .ok (.ifCond .eq 7, 3) := by decide +kernel
theorem dX_open_34 : decode bX_open 34 = .ok (.iconst 1, 1) := by decide +kernel
theorem dX_open_35 : decode bX_open 35 = .ok (.goto 4, 3) := by decide +kernel
theorem dX_open_38 : decode bX_open 38 = .ok (.iconst 0, 1) := by decide +kernel
theorem dX_open_39 : decode bX_open 39 = .ok (.invokestatic 37, 3) := by decide +kernel
theorem dX_open_42 : decode bX_open 42 = .ok (.aload_n 0, 1) := by decide +kernel
theorem dX_open_43 : decode bX_open 43 = .ok (.iconst 0, 1) := by decide +kernel
theorem dX_open_44 : decode bX_open 44 = .ok (.putfield 76, 3) := by decide +kernel
theorem dX_open_47 : decode bX_open 47 = .ok (.aload_n 0, 1) := by decide +kernel
theorem dX_open_48 : decode bX_open 48 = .ok (.iconst 0, 1) := by decide +kernel
theorem dX_open_49 : decode bX_open 49 = .ok (.putfield 79, 3) := by decide +kernel
theorem dX_open_52 : decode bX_open 52 = .ok (.aload_n 0, 1) := by decide +kernel
theorem dX_open_53 : decode bX_open 53 = .ok (.iload_n 1, 1) := by decide +kernel
theorem dX_open_54 : decode bX_open 54 = .ok (.putfield 82, 3) := by decide +kernel
theorem dX_open_57 : decode bX_open 57 = .ok (.aload_n 0, 1) := by decide +kernel
theorem dX_open_58 : decode bX_open 58 = .ok (.iconst (-1), 1) := by decide +kernel
theorem dX_open_59 : decode bX_open 59 = .ok (.putfield 23, 3) := by decide +kernel
theorem dX_open_62 : decode bX_open 62 = .ok (.iconst 0, 1) := by decide +kernel
theorem dX_open_63 : decode bX_open 63 = .ok (.istore 5, 2) := by decide +kernel
theorem dX_open_65 : decode bX_open 65 = .ok (.iload 5, 2) := by decide +kernel
theorem dX_open_67 : decode bX_open 67 = .ok (.iload 4, 2) := by decide +kernel
theorem dX_open_69 : decode bX_open 69 = .ok (.if_icmp .ge 68, 3) := by decide +kernel
theorem dX_open_72 : decode bX_open 72 = .ok (.aload_n 0, 1) := by decide +kernel
theorem dX_open_73 : decode bX_open 73 = .ok (.iload 5, 2) := by decide +kernel
theorem dX_open_75 : decode bX_open 75 = .ok (.iconst 5, 1) := by decide +kernel
theorem dX_open_76 : decode bX_open 76 = .ok (.invokevirtual 59, 3) := by decide +kernel
theorem dX_open_79 : decode bX_open 79 = .ok (.istore 6, 2) := by decide +kernel
theorem dX_open_81 : decode bX_open 81 = .ok (.aload_n 0, 1) := by decide +kernel
theorem dX_open_82 : decode bX_open 82 = .ok (.iload 5, 2) := by decide +kernel
theorem dX_open_84 : decode bX_open 84 = .ok (.iload 4, 2) := by decide +kernel
theorem dX_open_86 : decode bX_open 86 = .ok (.invokevirtual 85, 3) := by decide +kernel
theorem dX_open_89 : decode bX_open 89 = .ok (.ifCond .eq 42, 3) := by decide +kernel
theorem dX_open_92 : decode bX_open 92 = .ok (.aload_n 0, 1) := by decide +kernel
theorem dX_open_93 : decode bX_open 93 = .ok (.iload 5, 2) := by decide +kernel
theorem dX_open_95 : decode bX_open 95 = .ok (.iconst 0, 1) := by decide +kernel
theorem dX_open_96 : decode bX_open 96 = .ok (.invokevirtual 59, 3) := by decide +kernel
theorem dX_open_99 : decode bX_open 99 = .ok (.iconst 2, 1) := by decide +kernel
theorem dX_open_100 : decode bX_open 100 = .ok (.if_icmp .eq 31, 3) := by decide +kernel
theorem dX_open_103 : decode bX_open 103 = .ok (.aload_n 0, 1) := by decide +kernel
theorem dX_open_104 : decode bX_open 104 = .ok (.iload 5, 2) := by decide +kernel
theorem dX_open_106 : decode bX_open 106 = .ok (.iload_n 1, 1) := by decide +kernel
theorem dX_open_107 : decode bX_open 107 = .ok (.invokevirtual 89, 3) := by decide +kernel
theorem dX_open_110 : decode bX_open 110 = .ok (.ifCond .eq 21, 3) := by decide +kernel
theorem dX_open_113 : decode bX_open 113 = .ok (.iload 6, 2) := by decide +kernel
theorem dX_open_115 : decode bX_open 115 = .ok (.iload_n 2, 1) := by decide +kernel
theorem dX_open_116 : decode bX_open 116 = .ok (.if_icmp .lt 15, 3) := by decide +kernel
theorem dX_open_119 : decode bX_open 119 = .ok (.iload 6, 2) := by decide +kernel
theorem dX_open_121 : decode bX_open 121 = .ok (.iload_n 3, 1) := by decide +kernel
theorem dX_open_122 : decode bX_open 122 = .ok (.if_icmp .gt 9, 3) := by decide +kernel
theorem dX_open_125 : decode bX_open 125 = .ok (.aload_n 0, 1) := by decide +kernel
theorem dX_open_126 : decode bX_open 126 = .ok (.iload 5, 2) := by decide +kernel
theorem dX_open_128 : decode bX_open 128 = .ok (.invokevirtual 92, 3) := by decide +kernel
theorem dX_open_131 : decode bX_open 131 = .ok (.iinc 5 1, 3) := by decide +kernel
theorem dX_open_134 : decode bX_open 134 = .ok (.goto (-69), 3) := by decide +kernel
theorem dX_open_137 : decode bX_open 137 = .ok (.aload_n 0, 1) := by decide +kernel
theorem dX_open_138 : decode bX_open 138 = .ok (.getfield 76, 3) := by decide +kernel
theorem dX_open_141 : decode bX_open 141 = .ok (.ireturn, 1) := by decide +kernel
theorem dX_next_0 : decode bX_next 0 = .ok (.aload_n 0, 1) := by decide +kernel
theorem dX_next_1 : decode bX_next 1 = .ok (.invokevirtual 27, 3) := by decide +kernel
theorem dX_next_4 : decode bX_next 4 = .ok (.aload_n 0, 1) := by decide +kernel
theorem dX_next_5 : decode bX_next 5 = .ok (.getfield 79, 3) := by decide +kernel
theorem dX_next_8 : decode bX_next 8 = .ok (.aload_n 0, 1) := by decide +kernel
theorem dX_next_9 : decode bX_next 9 = .ok (.getfield 76, 3) := by decide +kernel
theorem dX_next_12 : decode bX_next 12 = .ok (.if_icmp .lt 10, 3) := by decide +kernel
theorem dX_next_15 : decode bX_next 15 = .ok (.aload_n 0, 1) := by decide +kernel
theorem dX_next_16 : decode bX_next 16 = .ok (.iconst (-1), 1) := by decide +kernel
theorem dX_next_17 : decode bX_next 17 = .ok (.putfield 23, 3) := by decide +kernel
theorem dX_next_20 : decode bX_next 20 = .ok (.iconst (-1), 1) := by decide +kernel
theorem dX_next_21 : decode bX_next 21 = .ok (.ireturn, 1) := by decide +kernel
theorem dX_next_22 : decode bX_next 22 = .ok (.aload_n 0, 1) := by decide +kernel
theorem dX_next_23 : decode bX_next 23 = .ok (.aload_n 0, 1) := by decide +kernel
theorem dX_next_24 : decode bX_next 24 = .ok (.getfield 20, 3) := by decide +kernel
theorem dX_next_27 : decode bX_next 27 = .ok (.aload_n 0, 1) := by decide +kernel
theorem dX_next_28 : decode bX_next 28 = .ok (.getfield 79, 3) := by decide +kernel
theorem dX_next_31 : decode bX_next 31 = .ok (.iaload, 1) := by decide +kernel
theorem dX_next_32 : decode bX_next 32 = .ok (.putfield 23, 3) := by decide +kernel
theorem dX_next_35 : decode bX_next 35 = .ok (.aload_n 0, 1) := by decide +kernel
theorem dX_next_36 : decode bX_next 36 = .ok (.dup, 1) := by decide +kernel
theorem dX_next_37 : decode bX_next 37 = .ok (.getfield 79, 3) := by decide +kernel
theorem dX_next_40 : decode bX_next 40 = .ok (.iconst 1, 1) := by decide +kernel
theorem dX_next_41 : decode bX_next 41 = .ok (.iadd, 1) := by decide +kernel
theorem dX_next_42 : decode bX_next 42 = .ok (.putfield 79, 3) := by decide +kernel
theorem dX_next_45 : decode bX_next 45 = .ok (.aload_n 0, 1) := by decide +kernel
theorem dX_next_46 : decode bX_next 46 = .ok (.aload_n 0, 1) := by decide +kernel
theorem dX_next_47 : decode bX_next 47 = .ok (.getfield 23, 3) := by decide +kernel
theorem dX_next_50 : decode bX_next 50 = .ok (.iconst 1, 1) := by decide +kernel
theorem dX_next_51 : decode bX_next 51 = .ok (.invokevirtual 59, 3) := by decide +kernel
theorem dX_next_54 : decode bX_next 54 = .ok (.ireturn, 1) := by decide +kernel
theorem dX_moved_0 : decode bX_moved 0 = .ok (.aload_n 0, 1) := by decide +kernel
theorem dX_moved_1 : decode bX_moved 1 = .ok (.invokevirtual 27, 3) := by decide +kernel
theorem dX_moved_4 : decode bX_moved 4 = .ok (.aload_n 0, 1) := by decide +kernel
theorem dX_moved_5 : decode bX_moved 5 = .ok (.getfield 23, 3) := by decide +kernel
theorem dX_moved_8 : decode bX_moved 8 = .ok (.iconst (-1), 1) := by decide +kernel
theorem dX_moved_9 : decode bX_moved 9 = .ok (.if_icmp .ne 7, 3) := by decide +kernel
theorem dX_moved_12 : decode bX_moved 12 = .ok (.iconst 0, 1) := by decide +kernel
theorem dX_moved_13 : decode bX_moved 13 = .ok (.goto 15, 3) := by decide +kernel
theorem dX_moved_16 : decode bX_moved 16 = .ok (.aload_n 0, 1) := by decide +kernel
theorem dX_moved_17 : decode bX_moved 17 = .ok (.aload_n 0, 1) := by decide +kernel
theorem dX_moved_18 : decode bX_moved 18 = .ok (.getfield 23, 3) := by decide +kernel
theorem dX_moved_21 : decode bX_moved 21 = .ok (.aload_n 0, 1) := by decide +kernel
theorem dX_moved_22 : decode bX_moved 22 = .ok (.getfield 82, 3) := by decide +kernel
theorem dX_moved_25 : decode bX_moved 25 = .ok (.invokevirtual 96, 3) := by decide +kernel
theorem dX_moved_28 : decode bX_moved 28 = .ok (.ireturn, 1) := by decide +kernel
theorem dX_field_0 : decode bX_field 0 = .ok (.aload_n 0, 1) := by decide +kernel
theorem dX_field_1 : decode bX_field 1 = .ok (.invokevirtual 27, 3) := by decide +kernel
theorem dX_field_4 : decode bX_field 4 = .ok (.iload_n 2, 1) := by decide +kernel
theorem dX_field_5 : decode bX_field 5 = .ok (.invokestatic 99, 3) := by decide +kernel
theorem dX_field_8 : decode bX_field 8 = .ok (.ifCond .eq 11, 3) := by decide +kernel
theorem dX_field_11 : decode bX_field 11 = .ok (.aload_n 0, 1) := by decide +kernel
theorem dX_field_12 : decode bX_field 12 = .ok (.iload_n 3, 1) := by decide +kernel
theorem dX_field_13 : decode bX_field 13 = .ok (.invokevirtual 67, 3) := by decide +kernel
theorem dX_field_16 : decode bX_field 16 = .ok (.ifCond .ne 5, 3) := by decide +kernel
theorem dX_field_19 : decode bX_field 19 = .ok (.iconst (-1), 1) := by decide +kernel
theorem dX_field_20 : decode bX_field 20 = .ok (.ireturn, 1) := by decide +kernel
theorem dX_field_21 : decode bX_field 21 = .ok (.aload_n 0, 1) := by decide +kernel
theorem dX_field_22 : decode bX_field 22 = .ok (.iload_n 1, 1) := by decide +kernel
theorem dX_field_23 : decode bX_field 23 = .ok (.iload_n 3, 1) := by decide +kernel
theorem dX_field_24 : decode bX_field 24 = .ok (.invokevirtual 102, 3) := by decide +kernel
theorem dX_field_27 : decode bX_field 27 = .ok (.istore 4, 2) := by decide +kernel
theorem dX_field_29 : decode bX_field 29 = .ok (.iload 4, 2) := by decide +kernel
theorem dX_field_31 : decode bX_field 31 = .ok (.iconst (-1), 1) := by decide +kernel
theorem dX_field_32 : decode bX_field 32 = .ok (.if_icmp .ne 7, 3) := by decide +kernel
theorem dX_field_35 : decode bX_field 35 = .ok (.iconst (-1), 1) := by decide +kernel
theorem dX_field_36 : decode bX_field 36 = .ok (.goto 10, 3) := by decide +kernel
theorem dX_field_39 : decode bX_field 39 = .ok (.aload_n 0, 1) := by decide +kernel
theorem dX_field_40 : decode bX_field 40 = .ok (.iload 4, 2) := by decide +kernel
theorem dX_field_42 : decode bX_field 42 = .ok (.iload_n 2, 1) := by decide +kernel
theorem dX_field_43 : decode bX_field 43 = .ok (.invokevirtual 59, 3) := by decide +kernel
theorem dX_field_46 : decode bX_field 46 = .ok (.ireturn, 1) := by decide +kernel
theorem dX_entries_0 : decode bX_entries 0 = .ok (.aload_n 0, 1) := by decide +kernel
theorem dX_entries_1 : decode bX_entries 1 = .ok (.invokevirtual 27, 3) := by decide +kernel
theorem dX_entries_4 : decode bX_entries 4 = .ok (.aload_n 0, 1) := by decide +kernel
theorem dX_entries_5 : decode bX_entries 5 = .ok (.getfield 48, 3) := by decide +kernel
theorem dX_entries_8 : decode bX_entries 8 = .ok (.ireturn, 1) := by decide +kernel
theorem dX_clock_0 : decode bX_clock 0 = .ok (.aload_n 0, 1) := by decide +kernel
theorem dX_clock_1 : decode bX_clock 1 = .ok (.getfield 105, 3) := by decide +kernel
theorem dX_clock_4 : decode bX_clock 4 = .ok (.ireturn, 1) := by decide +kernel
theorem dX_head_0 : decode bX_head 0 = .ok (.aload_n 0, 1) := by decide +kernel
theorem dX_head_1 : decode bX_head 1 = .ok (.aload_n 0, 1) := by decide +kernel
theorem dX_head_2 : decode bX_head 2 = .ok (.getfield 105, 3) := by decide +kernel
theorem dX_head_5 : decode bX_head 5 = .ok (.invokevirtual 108, 3) := by decide +kernel
theorem dX_head_8 : decode bX_head 8 = .ok (.lreturn, 1) := by decide +kernel
theorem dX_verify_0 : decode bX_verify 0 = .ok (.iconst 0, 1) := by decide +kernel
theorem dX_verify_1 : decode bX_verify 1 = .ok (.istore_n 1, 1) := by decide +kernel
theorem dX_verify_2 : decode bX_verify 2 = .ok (.iload_n 1, 1) := by decide +kernel
theorem dX_verify_3 : decode bX_verify 3 = .ok (.aload_n 0, 1) := by decide +kernel
theorem dX_verify_4 : decode bX_verify 4 = .ok (.getfield 105, 3) := by decide +kernel
theorem dX_verify_7 : decode bX_verify 7 = .ok (.if_icmp .ge 28, 3) := by decide +kernel
theorem dX_verify_10 : decode bX_verify 10 = .ok (.aload_n 0, 1) := by decide +kernel
theorem dX_verify_11 : decode bX_verify 11 = .ok (.iload_n 1, 1) := by decide +kernel
theorem dX_verify_12 : decode bX_verify 12 = .ok (.invokevirtual 112, 3) := by decide +kernel
theorem dX_verify_15 : decode bX_verify 15 = .ok (.aload_n 0, 1) := by decide +kernel
theorem dX_verify_16 : decode bX_verify 16 = .ok (.getfield 13, 3) := by decide +kernel
theorem dX_verify_19 : decode bX_verify 19 = .ok (.iload_n 1, 1) := by decide +kernel
theorem dX_verify_20 : decode bX_verify 20 = .ok (.laload, 1) := by decide +kernel
theorem dX_verify_21 : decode bX_verify 21 = .ok (.lcmp, 1) := by decide +kernel
theorem dX_verify_22 : decode bX_verify 22 = .ok (.ifCond .eq 7, 3) := by decide +kernel
theorem dX_verify_25 : decode bX_verify 25 = .ok (.iload_n 1, 1) := by decide +kernel
theorem dX_verify_26 : decode bX_verify 26 = .ok (.iconst 1, 1) := by decide +kernel
theorem dX_verify_27 : decode bX_verify 27 = .ok (.iadd, 1) := by decide +kernel
theorem dX_verify_28 : decode bX_verify 28 = .ok (.ireturn, 1) := by decide +kernel
theorem dX_verify_29 : decode bX_verify 29 = .ok (.iinc 1 1, 3) := by decide +kernel
theorem dX_verify_32 : decode bX_verify 32 = .ok (.goto (-30), 3) := by decide +kernel
theorem dX_verify_35 : decode bX_verify 35 = .ok (.iconst 0, 1) := by decide +kernel
theorem dX_verify_36 : decode bX_verify 36 = .ok (.ireturn, 1) := by decide +kernel
theorem dX_tamper_0 : decode bX_tamper 0 = .ok (.aload_n 0, 1) := by decide +kernel
theorem dX_tamper_1 : decode bX_tamper 1 = .ok (.iload_n 1, 1) := by decide +kernel
theorem dX_tamper_2 : decode bX_tamper 2 = .ok (.invokevirtual 115, 3) := by decide +kernel
theorem dX_tamper_5 : decode bX_tamper 5 = .ok (.ifCond .eq 10, 3) := by decide +kernel
theorem dX_tamper_8 : decode bX_tamper 8 = .ok (.iload_n 2, 1) := by decide +kernel
theorem dX_tamper_9 : decode bX_tamper 9 = .ok (.invokestatic 99, 3) := by decide +kernel
theorem dX_tamper_12 : decode bX_tamper 12 = .ok (.ifCond .ne 5, 3) := by decide +kernel
theorem dX_tamper_15 : decode bX_tamper 15 = .ok (.iconst 0, 1) := by decide +kernel
theorem dX_tamper_16 : decode bX_tamper 16 = .ok (.ireturn, 1) := by decide +kernel
theorem dX_tamper_17 : decode bX_tamper 17 = .ok (.aload_n 0, 1) := by decide +kernel
theorem dX_tamper_18 : decode bX_tamper 18 = .ok (.getfield 9, 3) := by decide +kernel
theorem dX_tamper_21 : decode bX_tamper 21 = .ok (.iload_n 1, 1) := by decide +kernel
theorem dX_tamper_22 : decode bX_tamper 22 = .ok (.bipush 6, 2) := by decide +kernel
theorem dX_tamper_24 : decode bX_tamper 24 = .ok (.imul, 1) := by decide +kernel
theorem dX_tamper_25 : decode bX_tamper 25 = .ok (.iload_n 2, 1) := by decide +kernel
theorem dX_tamper_26 : decode bX_tamper 26 = .ok (.iadd, 1) := by decide +kernel
theorem dX_tamper_27 : decode bX_tamper 27 = .ok (.iload_n 3, 1) := by decide +kernel
theorem dX_tamper_28 : decode bX_tamper 28 = .ok (.iastore, 1) := by decide +kernel
theorem dX_tamper_29 : decode bX_tamper 29 = .ok (.aload_n 0, 1) := by decide +kernel
theorem dX_tamper_30 : decode bX_tamper 30 = .ok (.iconst 1, 1) := by decide +kernel
theorem dX_tamper_31 : decode bX_tamper 31 = .ok (.putfield 118, 3) := by decide +kernel
theorem dX_tamper_34 : decode bX_tamper 34 = .ok (.iconst 1, 1) := by decide +kernel
theorem dX_tamper_35 : decode bX_tamper 35 = .ok (.ireturn, 1) := by decide +kernel
theorem dX_isAccount_0 : decode bX_isAccount 0 = .ok (.iload_n 0, 1) := by decide +kernel
theorem dX_isAccount_1 : decode bX_isAccount 1 = .ok (.ifCond .lt 13, 3) := by decide +kernel
theorem dX_isAccount_4 : decode bX_isAccount 4 = .ok (.iload_n 0, 1) := by decide +kernel
theorem dX_isAccount_5 : decode bX_isAccount 5 = .ok (.bipush 16, 2) := by decide +kernel
theorem dX_isAccount_7 : decode bX_isAccount 7 = .ok (.if_icmp .ge 7, 3) := by decide +kernel
theorem dX_isAccount_10 : decode bX_isAccount 10 = .ok (.iconst 1, 1) := by decide +kernel
theorem dX_isAccount_11 : decode bX_isAccount 11 = .ok (.goto 4, 3) := by decide +kernel
theorem dX_isAccount_14 : decode bX_isAccount 14 = .ok (.iconst 0, 1) := by decide +kernel
theorem dX_isAccount_15 : decode bX_isAccount 15 = .ok (.ireturn, 1) := by decide +kernel
theorem dX_isDay_0 : decode bX_isDay 0 = .ok (.iload_n 0, 1) := by decide +kernel
theorem dX_isDay_1 : decode bX_isDay 1 = .ok (.ifCond .lt 14, 3) := by decide +kernel
theorem dX_isDay_4 : decode bX_isDay 4 = .ok (.iload_n 0, 1) := by decide +kernel
theorem dX_isDay_5 : decode bX_isDay 5 = .ok (.sipush 1000, 3) := by decide +kernel
theorem dX_isDay_8 : decode bX_isDay 8 = .ok (.if_icmp .ge 7, 3) := by decide +kernel
theorem dX_isDay_11 : decode bX_isDay 11 = .ok (.iconst 1, 1) := by decide +kernel
theorem dX_isDay_12 : decode bX_isDay 12 = .ok (.goto 4, 3) := by decide +kernel
theorem dX_isDay_15 : decode bX_isDay 15 = .ok (.iconst 0, 1) := by decide +kernel
theorem dX_isDay_16 : decode bX_isDay 16 = .ok (.ireturn, 1) := by decide +kernel
theorem dX_isWord_0 : decode bX_isWord 0 = .ok (.iload_n 0, 1) := by decide +kernel
theorem dX_isWord_1 : decode bX_isWord 1 = .ok (.ifCond .lt 13, 3) := by decide +kernel
theorem dX_isWord_4 : decode bX_isWord 4 = .ok (.iload_n 0, 1) := by decide +kernel
theorem dX_isWord_5 : decode bX_isWord 5 = .ok (.bipush 6, 2) := by decide +kernel
theorem dX_isWord_7 : decode bX_isWord 7 = .ok (.if_icmp .ge 7, 3) := by decide +kernel
theorem dX_isWord_10 : decode bX_isWord 10 = .ok (.iconst 1, 1) := by decide +kernel
theorem dX_isWord_11 : decode bX_isWord 11 = .ok (.goto 4, 3) := by decide +kernel
theorem dX_isWord_14 : decode bX_isWord 14 = .ok (.iconst 0, 1) := by decide +kernel
theorem dX_isWord_15 : decode bX_isWord 15 = .ok (.ireturn, 1) := by decide +kernel
theorem dX_isTime_0 : decode bX_isTime 0 = .ok (.iload_n 1, 1) := by decide +kernel
theorem dX_isTime_1 : decode bX_isTime 1 = .ok (.ifCond .lt 15, 3) := by decide +kernel
theorem dX_isTime_4 : decode bX_isTime 4 = .ok (.iload_n 1, 1) := by decide +kernel
theorem dX_isTime_5 : decode bX_isTime 5 = .ok (.aload_n 0, 1) := by decide +kernel
theorem dX_isTime_6 : decode bX_isTime 6 = .ok (.getfield 105, 3) := by decide +kernel
theorem dX_isTime_9 : decode bX_isTime 9 = .ok (.if_icmp .gt 7, 3) := by decide +kernel
theorem dX_isTime_12 : decode bX_isTime 12 = .ok (.iconst 1, 1) := by decide +kernel
theorem dX_isTime_13 : decode bX_isTime 13 = .ok (.goto 4, 3) := by decide +kernel
theorem dX_isTime_16 : decode bX_isTime 16 = .ok (.iconst 0, 1) := by decide +kernel
theorem dX_isTime_17 : decode bX_isTime 17 = .ok (.ireturn, 1) := by decide +kernel
theorem dX_isVersion_0 : decode bX_isVersion 0 = .ok (.iload_n 1, 1) := by decide +kernel
theorem dX_isVersion_1 : decode bX_isVersion 1 = .ok (.ifCond .lt 15, 3) := by decide +kernel
theorem dX_isVersion_4 : decode bX_isVersion 4 = .ok (.iload_n 1, 1) := by decide +kernel
theorem dX_isVersion_5 : decode bX_isVersion 5 = .ok (.aload_n 0, 1) := by decide +kernel
theorem dX_isVersion_6 : decode bX_isVersion 6 = .ok (.getfield 105, 3) := by decide +kernel
theorem dX_isVersion_9 : decode bX_isVersion 9 = .ok (.if_icmp .ge 7, 3) := by decide +kernel
theorem dX_isVersion_12 : decode bX_isVersion 12 = .ok (.iconst 1, 1) := by decide +kernel
theorem dX_isVersion_13 : decode bX_isVersion 13 = .ok (.goto 4, 3) := by decide +kernel
theorem dX_isVersion_16 : decode bX_isVersion 16 = .ok (.iconst 0, 1) := by decide +kernel
theorem dX_isVersion_17 : decode bX_isVersion 17 = .ok (.ireturn, 1) := by decide +kernel
theorem dX_refuseIfTampered_0 : decode bX_refuseIfTampered 0 = .ok (.aload_n 0, 1) := by decide +kernel
theorem dX_refuseIfTampered_1 : decode bX_refuseIfTampered 1 = .ok (.getfield 118, 3) := by decide +kernel
theorem dX_refuseIfTampered_4 : decode bX_refuseIfTampered 4 = .ok (.ifCond .eq 13, 3) := by decide +kernel
theorem dX_refuseIfTampered_7 : decode bX_refuseIfTampered 7 = .ok (.new 122, 3) := by decide +kernel
theorem dX_refuseIfTampered_10 : decode bX_refuseIfTampered 10 = .ok (.dup, 1) := by decide +kernel
theorem dX_refuseIfTampered_11 : decode bX_refuseIfTampered 11 = .ok (.ldc 124, 2) := by decide +kernel
theorem dX_refuseIfTampered_13 : decode bX_refuseIfTampered 13 = .ok (.invokespecial 126, 3) := by decide +kernel
theorem dX_refuseIfTampered_16 : decode bX_refuseIfTampered 16 = .ok (.athrow, 1) := by decide +kernel
theorem dX_refuseIfTampered_17 : decode bX_refuseIfTampered 17 = .ok (.return_, 1) := by decide +kernel
theorem dX_refuseArgumentsUnless_0 : decode bX_refuseArgumentsUnless 0 = .ok (.iload_n 0, 1) := by decide +kernel
theorem dX_refuseArgumentsUnless_1 : decode bX_refuseArgumentsUnless 1 = .ok (.ifCond .ne 13, 3) := by decide +kernel
theorem dX_refuseArgumentsUnless_4 : decode bX_refuseArgumentsUnless 4 = .ok (.new 129, 3) := by decide +kernel
theorem dX_refuseArgumentsUnless_7 : decode bX_refuseArgumentsUnless 7 = .ok (.dup, 1) := by decide +kernel
theorem dX_refuseArgumentsUnless_8 : decode bX_refuseArgumentsUnless 8 = .ok (.ldc 131, 2) := by decide +kernel
theorem dX_refuseArgumentsUnless_10 : decode bX_refuseArgumentsUnless 10 = .ok (.invokespecial 133, 3) := by decide +kernel
theorem dX_refuseArgumentsUnless_13 : decode bX_refuseArgumentsUnless 13 = .ok (.athrow, 1) := by decide +kernel
theorem dX_refuseArgumentsUnless_14 : decode bX_refuseArgumentsUnless 14 = .ok (.return_, 1) := by decide +kernel
theorem dX_refuseIfFull_0 : decode bX_refuseIfFull 0 = .ok (.aload_n 0, 1) := by decide +kernel
theorem dX_refuseIfFull_1 : decode bX_refuseIfFull 1 = .ok (.getfield 105, 3) := by decide +kernel
theorem dX_refuseIfFull_4 : decode bX_refuseIfFull 4 = .ok (.bipush 64, 2) := by decide +kernel
theorem dX_refuseIfFull_6 : decode bX_refuseIfFull 6 = .ok (.if_icmp .lt 13, 3) := by decide +kernel
theorem dX_refuseIfFull_9 : decode bX_refuseIfFull 9 = .ok (.new 134, 3) := by decide +kernel
theorem dX_refuseIfFull_12 : decode bX_refuseIfFull 12 = .ok (.dup, 1) := by decide +kernel
theorem dX_refuseIfFull_13 : decode bX_refuseIfFull 13 = .ok (.ldc 136, 2) := by decide +kernel
theorem dX_refuseIfFull_15 : decode bX_refuseIfFull 15 = .ok (.invokespecial 138, 3) := by decide +kernel
theorem dX_refuseIfFull_18 : decode bX_refuseIfFull 18 = .ok (.athrow, 1) := by decide +kernel
theorem dX_refuseIfFull_19 : decode bX_refuseIfFull 19 = .ok (.return_, 1) := by decide +kernel
theorem dX_refuseIfTurnoverTooHigh_0 : decode bX_refuseIfTurnoverTooHigh 0 = .ok (.aload_n 0, 1) := by decide +kernel
theorem dX_refuseIfTurnoverTooHigh_1 : decode bX_refuseIfTurnoverTooHigh 1 = .ok (.iload_n 1, 1) := by decide +kernel
theorem dX_refuseIfTurnoverTooHigh_2 : decode bX_refuseIfTurnoverTooHigh 2 = .ok (.invokevirtual 73, 3) := by decide +kernel
theorem dX_refuseIfTurnoverTooHigh_5 : decode bX_refuseIfTurnoverTooHigh 5 = .ok (.i2l, 1) := by decide +kernel
theorem dX_refuseIfTurnoverTooHigh_6 : decode bX_refuseIfTurnoverTooHigh 6 = .ok (.iload_n 2, 1) := by decide +kernel
theorem dX_refuseIfTurnoverTooHigh_7 : decode bX_refuseIfTurnoverTooHigh 7 = .ok (.i2l, 1) := by decide +kernel
theorem dX_refuseIfTurnoverTooHigh_8 : decode bX_refuseIfTurnoverTooHigh 8 = .ok (.lsub, 1) := by decide +kernel
theorem dX_refuseIfTurnoverTooHigh_9 : decode bX_refuseIfTurnoverTooHigh 9 = .ok (.iload_n 3, 1) := by decide +kernel
theorem dX_refuseIfTurnoverTooHigh_10 : decode bX_refuseIfTurnoverTooHigh 10 = .ok (.i2l, 1) := by decide +kernel
theorem dX_refuseIfTurnoverTooHigh_11 : decode bX_refuseIfTurnoverTooHigh 11 = .ok (.ladd, 1) := by decide +kernel
theorem dX_refuseIfTurnoverTooHigh_12 : decode bX_refuseIfTurnoverTooHigh 12 = .ok (.lstore 4, 2) := by decide +kernel
theorem dX_refuseIfTurnoverTooHigh_14 : decode bX_refuseIfTurnoverTooHigh 14 = .ok (.lload 4, 2) := by decide +kernel
theorem dX_refuseIfTurnoverTooHigh_16 : decode bX_refuseIfTurnoverTooHigh 16 = .ok (.ldc2_w 139, 3) := by decide +kernel
theorem dX_refuseIfTurnoverTooHigh_19 : decode bX_refuseIfTurnoverTooHigh 19 = .ok (.lcmp, 1) := by decide +kernel
theorem dX_refuseIfTurnoverTooHigh_20 : decode bX_refuseIfTurnoverTooHigh 20 = .ok (.ifCond .le 13, 3) := by decide +kernel
theorem dX_refuseIfTurnoverTooHigh_23 : decode bX_refuseIfTurnoverTooHigh 23 = .ok (.new 141, 3) := by decide +kernel
theorem dX_refuseIfTurnoverTooHigh_26 : decode bX_refuseIfTurnoverTooHigh 26 = .ok (.dup, 1) := by decide +kernel
theorem dX_refuseIfTurnoverTooHigh_27 : decode bX_refuseIfTurnoverTooHigh 27 = .ok (.ldc 143, 2) := by decide +kernel
theorem dX_refuseIfTurnoverTooHigh_29 : decode bX_refuseIfTurnoverTooHigh 29 = .ok (.invokespecial 145, 3) := by decide +kernel
theorem dX_refuseIfTurnoverTooHigh_32 : decode bX_refuseIfTurnoverTooHigh 32 = .ok (.athrow, 1) := by decide +kernel
theorem dX_refuseIfTurnoverTooHigh_33 : decode bX_refuseIfTurnoverTooHigh 33 = .ok (.return_, 1) := by decide +kernel
theorem dX_versionToReplace_0 : decode bX_versionToReplace 0 = .ok (.aload_n 0, 1) := by decide +kernel
theorem dX_versionToReplace_1 : decode bX_versionToReplace 1 = .ok (.iload_n 1, 1) := by decide +kernel
theorem dX_versionToReplace_2 : decode bX_versionToReplace 2 = .ok (.aload_n 0, 1) := by decide +kernel
theorem dX_versionToReplace_3 : decode bX_versionToReplace 3 = .ok (.getfield 105, 3) := by decide +kernel
theorem dX_versionToReplace_6 : decode bX_versionToReplace 6 = .ok (.invokevirtual 102, 3) := by decide +kernel
theorem dX_versionToReplace_9 : decode bX_versionToReplace 9 = .ok (.istore_n 2, 1) := by decide +kernel
theorem dX_versionToReplace_10 : decode bX_versionToReplace 10 = .ok (.iload_n 2, 1) := by decide +kernel
theorem dX_versionToReplace_11 : decode bX_versionToReplace 11 = .ok (.iconst (-1), 1) := by decide +kernel
theorem dX_versionToReplace_12 : decode bX_versionToReplace 12 = .ok (.if_icmp .eq 13, 3) := by decide +kernel
theorem dX_versionToReplace_15 : decode bX_versionToReplace 15 = .ok (.aload_n 0, 1) := by decide +kernel
theorem dX_versionToReplace_16 : decode bX_versionToReplace 16 = .ok (.iload_n 2, 1) := by decide +kernel
theorem dX_versionToReplace_17 : decode bX_versionToReplace 17 = .ok (.iconst 0, 1) := by decide +kernel
theorem dX_versionToReplace_18 : decode bX_versionToReplace 18 = .ok (.invokevirtual 59, 3) := by decide +kernel
theorem dX_versionToReplace_21 : decode bX_versionToReplace 21 = .ok (.iconst 2, 1) := by decide +kernel
theorem dX_versionToReplace_22 : decode bX_versionToReplace 22 = .ok (.if_icmp .ne 13, 3) := by decide +kernel
theorem dX_versionToReplace_25 : decode bX_versionToReplace 25 = .ok (.new 146, 3) := by decide +kernel
theorem dX_versionToReplace_28 : decode bX_versionToReplace 28 = .ok (.dup, 1) := by decide +kernel
theorem dX_versionToReplace_29 : decode bX_versionToReplace 29 = .ok (.ldc 148, 2) := by decide +kernel
theorem dX_versionToReplace_31 : decode bX_versionToReplace 31 = .ok (.invokespecial 150, 3) := by decide +kernel
theorem dX_versionToReplace_34 : decode bX_versionToReplace 34 = .ok (.athrow, 1) := by decide +kernel
theorem dX_versionToReplace_35 : decode bX_versionToReplace 35 = .ok (.iload_n 2, 1) := by decide +kernel
theorem dX_versionToReplace_36 : decode bX_versionToReplace 36 = .ok (.ireturn, 1) := by decide +kernel
theorem dX_word_0 : decode bX_word 0 = .ok (.aload_n 0, 1) := by decide +kernel
theorem dX_word_1 : decode bX_word 1 = .ok (.getfield 9, 3) := by decide +kernel
theorem dX_word_4 : decode bX_word 4 = .ok (.iload_n 1, 1) := by decide +kernel
theorem dX_word_5 : decode bX_word 5 = .ok (.bipush 6, 2) := by decide +kernel
theorem dX_word_7 : decode bX_word 7 = .ok (.imul, 1) := by decide +kernel
theorem dX_word_8 : decode bX_word 8 = .ok (.iload_n 2, 1) := by decide +kernel
theorem dX_word_9 : decode bX_word 9 = .ok (.iadd, 1) := by decide +kernel
theorem dX_word_10 : decode bX_word 10 = .ok (.iaload, 1) := by decide +kernel
theorem dX_word_11 : decode bX_word 11 = .ok (.ireturn, 1) := by decide +kernel
theorem dX_isCurrent_0 : decode bX_isCurrent 0 = .ok (.iload_n 1, 1) := by decide +kernel
theorem dX_isCurrent_1 : decode bX_isCurrent 1 = .ok (.iload_n 2, 1) := by decide +kernel
theorem dX_isCurrent_2 : decode bX_isCurrent 2 = .ok (.if_icmp .ge 17, 3) := by decide +kernel
theorem dX_isCurrent_5 : decode bX_isCurrent 5 = .ok (.aload_n 0, 1) := by decide +kernel
theorem dX_isCurrent_6 : decode bX_isCurrent 6 = .ok (.getfield 17, 3) := by decide +kernel
theorem dX_isCurrent_9 : decode bX_isCurrent 9 = .ok (.iload_n 1, 1) := by decide +kernel
theorem dX_isCurrent_10 : decode bX_isCurrent 10 = .ok (.iaload, 1) := by decide +kernel
theorem dX_isCurrent_11 : decode bX_isCurrent 11 = .ok (.iload_n 2, 1) := by decide +kernel
theorem dX_isCurrent_12 : decode bX_isCurrent 12 = .ok (.if_icmp .lt 7, 3) := by decide +kernel
theorem dX_isCurrent_15 : decode bX_isCurrent 15 = .ok (.iconst 1, 1) := by decide +kernel
theorem dX_isCurrent_16 : decode bX_isCurrent 16 = .ok (.goto 4, 3) := by decide +kernel
theorem dX_isCurrent_19 : decode bX_isCurrent 19 = .ok (.iconst 0, 1) := by decide +kernel
theorem dX_isCurrent_20 : decode bX_isCurrent 20 = .ok (.ireturn, 1) := by decide +kernel
theorem dX_touches_0 : decode bX_touches 0 = .ok (.aload_n 0, 1) := by decide +kernel
theorem dX_touches_1 : decode bX_touches 1 = .ok (.iload_n 1, 1) := by decide +kernel
theorem dX_touches_2 : decode bX_touches 2 = .ok (.iconst 2, 1) := by decide +kernel
theorem dX_touches_3 : decode bX_touches 3 = .ok (.invokevirtual 59, 3) := by decide +kernel
theorem dX_touches_6 : decode bX_touches 6 = .ok (.iload_n 2, 1) := by decide +kernel
theorem dX_touches_7 : decode bX_touches 7 = .ok (.if_icmp .eq 13, 3) := by decide +kernel
theorem dX_touches_10 : decode bX_touches 10 = .ok (.aload_n 0, 1) := by decide +kernel
theorem dX_touches_11 : decode bX_touches 11 = .ok (.iload_n 1, 1) := by decide +kernel
theorem dX_touches_12 : decode bX_touches 12 = .ok (.iconst 3, 1) := by decide +kernel
theorem dX_touches_13 : decode bX_touches 13 = .ok (.invokevirtual 59, 3) := by decide +kernel
theorem dX_touches_16 : decode bX_touches 16 = .ok (.iload_n 2, 1) := by decide +kernel
theorem dX_touches_17 : decode bX_touches 17 = .ok (.if_icmp .ne 7, 3) := by decide +kernel
theorem dX_touches_20 : decode bX_touches 20 = .ok (.iconst 1, 1) := by decide +kernel
theorem dX_touches_21 : decode bX_touches 21 = .ok (.goto 4, 3) := by decide +kernel
theorem dX_touches_24 : decode bX_touches 24 = .ok (.iconst 0, 1) := by decide +kernel
theorem dX_touches_25 : decode bX_touches 25 = .ok (.ireturn, 1) := by decide +kernel
theorem dX_currentVersion_0 : decode bX_currentVersion 0 = .ok (.iload_n 2, 1) := by decide +kernel
theorem dX_currentVersion_1 : decode bX_currentVersion 1 = .ok (.iconst 1, 1) := by decide +kernel
theorem dX_currentVersion_2 : decode bX_currentVersion 2 = .ok (.isub, 1) := by decide +kernel
theorem dX_currentVersion_3 : decode bX_currentVersion 3 = .ok (.istore_n 3, 1) := by decide +kernel
theorem dX_currentVersion_4 : decode bX_currentVersion 4 = .ok (.iload_n 3, 1) := by decide +kernel
theorem dX_currentVersion_5 : decode bX_currentVersion 5 = .ok (.ifCond .lt 21, 3) := by decide +kernel
theorem dX_currentVersion_8 : decode bX_currentVersion 8 = .ok (.aload_n 0, 1) := by decide +kernel
theorem dX_currentVersion_9 : decode bX_currentVersion 9 = .ok (.iload_n 3, 1) := by decide +kernel
theorem dX_currentVersion_10 : decode bX_currentVersion 10 = .ok (.iconst 1, 1) := by decide +kernel
theorem dX_currentVersion_11 : decode bX_currentVersion 11 = .ok (.invokevirtual 59, 3) := by decide +kernel
theorem dX_currentVersion_14 : decode bX_currentVersion 14 = .ok (.iload_n 1, 1) := by decide +kernel
theorem dX_currentVersion_15 : decode bX_currentVersion 15 = .ok (.if_icmp .ne 5, 3) := by decide +kernel
theorem dX_currentVersion_18 : decode bX_currentVersion 18 = .ok (.iload_n 3, 1) := by decide +kernel
theorem dX_currentVersion_19 : decode bX_currentVersion 19 = .ok (.ireturn, 1) := by decide +kernel
theorem dX_currentVersion_20 : decode bX_currentVersion 20 = .ok (.iinc 3 (-1), 3) := by decide +kernel
theorem dX_currentVersion_23 : decode bX_currentVersion 23 = .ok (.goto (-19), 3) := by decide +kernel
theorem dX_currentVersion_26 : decode bX_currentVersion 26 = .ok (.iconst (-1), 1) := by decide +kernel
theorem dX_currentVersion_27 : decode bX_currentVersion 27 = .ok (.ireturn, 1) := by decide +kernel
theorem dX_movedBy_0 : decode bX_movedBy 0 = .ok (.aload_n 0, 1) := by decide +kernel
theorem dX_movedBy_1 : decode bX_movedBy 1 = .ok (.iload_n 1, 1) := by decide +kernel
theorem dX_movedBy_2 : decode bX_movedBy 2 = .ok (.iconst 2, 1) := by decide +kernel
theorem dX_movedBy_3 : decode bX_movedBy 3 = .ok (.invokevirtual 59, 3) := by decide +kernel
theorem dX_movedBy_6 : decode bX_movedBy 6 = .ok (.iload_n 2, 1) := by decide +kernel
theorem dX_movedBy_7 : decode bX_movedBy 7 = .ok (.if_icmp .ne 10, 3) := by decide +kernel
theorem dX_movedBy_10 : decode bX_movedBy 10 = .ok (.aload_n 0, 1) := by decide +kernel
theorem dX_movedBy_11 : decode bX_movedBy 11 = .ok (.iload_n 1, 1) := by decide +kernel
theorem dX_movedBy_12 : decode bX_movedBy 12 = .ok (.iconst 4, 1) := by decide +kernel
theorem dX_movedBy_13 : decode bX_movedBy 13 = .ok (.invokevirtual 59, 3) := by decide +kernel
theorem dX_movedBy_16 : decode bX_movedBy 16 = .ok (.ireturn, 1) := by decide +kernel
theorem dX_movedBy_17 : decode bX_movedBy 17 = .ok (.aload_n 0, 1) := by decide +kernel
theorem dX_movedBy_18 : decode bX_movedBy 18 = .ok (.iload_n 1, 1) := by decide +kernel
theorem dX_movedBy_19 : decode bX_movedBy 19 = .ok (.iconst 3, 1) := by decide +kernel
theorem dX_movedBy_20 : decode bX_movedBy 20 = .ok (.invokevirtual 59, 3) := by decide +kernel
theorem dX_movedBy_23 : decode bX_movedBy 23 = .ok (.iload_n 2, 1) := by decide +kernel
theorem dX_movedBy_24 : decode bX_movedBy 24 = .ok (.if_icmp .ne 13, 3) := by decide +kernel
theorem dX_movedBy_27 : decode bX_movedBy 27 = .ok (.aload_n 0, 1) := by decide +kernel
theorem dX_movedBy_28 : decode bX_movedBy 28 = .ok (.iload_n 1, 1) := by decide +kernel
theorem dX_movedBy_29 : decode bX_movedBy 29 = .ok (.iconst 4, 1) := by decide +kernel
theorem dX_movedBy_30 : decode bX_movedBy 30 = .ok (.invokevirtual 59, 3) := by decide +kernel
theorem dX_movedBy_33 : decode bX_movedBy 33 = .ok (.ineg, 1) := by decide +kernel
theorem dX_movedBy_34 : decode bX_movedBy 34 = .ok (.goto 4, 3) := by decide +kernel
theorem dX_movedBy_37 : decode bX_movedBy 37 = .ok (.iconst 0, 1) := by decide +kernel
theorem dX_movedBy_38 : decode bX_movedBy 38 = .ok (.ireturn, 1) := by decide +kernel
theorem dX_balanceOf_0 : decode bX_balanceOf 0 = .ok (.iconst 0, 1) := by decide +kernel
theorem dX_balanceOf_1 : decode bX_balanceOf 1 = .ok (.istore 4, 2) := by decide +kernel
theorem dX_balanceOf_3 : decode bX_balanceOf 3 = .ok (.iconst 0, 1) := by decide +kernel
theorem dX_balanceOf_4 : decode bX_balanceOf 4 = .ok (.istore 5, 2) := by decide +kernel
theorem dX_balanceOf_6 : decode bX_balanceOf 6 = .ok (.iload 5, 2) := by decide +kernel
theorem dX_balanceOf_8 : decode bX_balanceOf 8 = .ok (.iload_n 3, 1) := by decide +kernel
theorem dX_balanceOf_9 : decode bX_balanceOf 9 = .ok (.if_icmp .ge 42, 3) := by decide +kernel
theorem dX_balanceOf_12 : decode bX_balanceOf 12 = .ok (.aload_n 0, 1) := by decide +kernel
theorem dX_balanceOf_13 : decode bX_balanceOf 13 = .ok (.iload 5, 2) := by decide +kernel
theorem dX_balanceOf_15 : decode bX_balanceOf 15 = .ok (.iload_n 3, 1) := by decide +kernel
theorem dX_balanceOf_16 : decode bX_balanceOf 16 = .ok (.invokevirtual 85, 3) := by decide +kernel
theorem dX_balanceOf_19 : decode bX_balanceOf 19 = .ok (.ifCond .eq 26, 3) := by decide +kernel
theorem dX_balanceOf_22 : decode bX_balanceOf 22 = .ok (.aload_n 0, 1) := by decide +kernel
theorem dX_balanceOf_23 : decode bX_balanceOf 23 = .ok (.iload 5, 2) := by decide +kernel
theorem dX_balanceOf_25 : decode bX_balanceOf 25 = .ok (.iconst 5, 1) := by decide +kernel
theorem dX_balanceOf_26 : decode bX_balanceOf 26 = .ok (.invokevirtual 59, 3) := by decide +kernel
theorem dX_balanceOf_29 : decode bX_balanceOf 29 = .ok (.iload_n 2, 1) := by decide +kernel
theorem dX_balanceOf_30 : decode bX_balanceOf 30 = .ok (.if_icmp .gt 15, 3) := by decide +kernel
theorem dX_balanceOf_33 : decode bX_balanceOf 33 = .ok (.iload 4, 2) := by decide +kernel
theorem dX_balanceOf_35 : decode bX_balanceOf 35 = .ok (.aload_n 0, 1) := by decide +kernel
theorem dX_balanceOf_36 : decode bX_balanceOf 36 = .ok (.iload 5, 2) := by decide +kernel
theorem dX_balanceOf_38 : decode bX_balanceOf 38 = .ok (.iload_n 1, 1) := by decide +kernel
theorem dX_balanceOf_39 : decode bX_balanceOf 39 = .ok (.invokevirtual 96, 3) := by decide +kernel
theorem dX_balanceOf_42 : decode bX_balanceOf 42 = .ok (.iadd, 1) := by decide +kernel
theorem dX_balanceOf_43 : decode bX_balanceOf 43 = .ok (.istore 4, 2) := by decide +kernel
theorem dX_balanceOf_45 : decode bX_balanceOf 45 = .ok (.iinc 5 1, 3) := by decide +kernel
theorem dX_balanceOf_48 : decode bX_balanceOf 48 = .ok (.goto (-42), 3) := by decide +kernel
theorem dX_balanceOf_51 : decode bX_balanceOf 51 = .ok (.iload 4, 2) := by decide +kernel
theorem dX_balanceOf_53 : decode bX_balanceOf 53 = .ok (.ireturn, 1) := by decide +kernel
theorem dX_turnoverOf_0 : decode bX_turnoverOf 0 = .ok (.iconst 0, 1) := by decide +kernel
theorem dX_turnoverOf_1 : decode bX_turnoverOf 1 = .ok (.istore_n 2, 1) := by decide +kernel
theorem dX_turnoverOf_2 : decode bX_turnoverOf 2 = .ok (.iconst 0, 1) := by decide +kernel
theorem dX_turnoverOf_3 : decode bX_turnoverOf 3 = .ok (.istore_n 3, 1) := by decide +kernel
theorem dX_turnoverOf_4 : decode bX_turnoverOf 4 = .ok (.iload_n 3, 1) := by decide +kernel
theorem dX_turnoverOf_5 : decode bX_turnoverOf 5 = .ok (.aload_n 0, 1) := by decide +kernel
theorem dX_turnoverOf_6 : decode bX_turnoverOf 6 = .ok (.getfield 105, 3) := by decide +kernel
theorem dX_turnoverOf_9 : decode bX_turnoverOf 9 = .ok (.if_icmp .ge 39, 3) := by decide +kernel
theorem dX_turnoverOf_12 : decode bX_turnoverOf 12 = .ok (.aload_n 0, 1) := by decide +kernel
theorem dX_turnoverOf_13 : decode bX_turnoverOf 13 = .ok (.iload_n 3, 1) := by decide +kernel
theorem dX_turnoverOf_14 : decode bX_turnoverOf 14 = .ok (.aload_n 0, 1) := by decide +kernel
theorem dX_turnoverOf_15 : decode bX_turnoverOf 15 = .ok (.getfield 105, 3) := by decide +kernel
theorem dX_turnoverOf_18 : decode bX_turnoverOf 18 = .ok (.invokevirtual 85, 3) := by decide +kernel
theorem dX_turnoverOf_21 : decode bX_turnoverOf 21 = .ok (.ifCond .eq 21, 3) := by decide +kernel
theorem dX_turnoverOf_24 : decode bX_turnoverOf 24 = .ok (.aload_n 0, 1) := by decide +kernel
theorem dX_turnoverOf_25 : decode bX_turnoverOf 25 = .ok (.iload_n 3, 1) := by decide +kernel
theorem dX_turnoverOf_26 : decode bX_turnoverOf 26 = .ok (.iload_n 1, 1) := by decide +kernel
theorem dX_turnoverOf_27 : decode bX_turnoverOf 27 = .ok (.invokevirtual 89, 3) := by decide +kernel
theorem dX_turnoverOf_30 : decode bX_turnoverOf 30 = .ok (.ifCond .eq 12, 3) := by decide +kernel
theorem dX_turnoverOf_33 : decode bX_turnoverOf 33 = .ok (.iload_n 2, 1) := by decide +kernel
theorem dX_turnoverOf_34 : decode bX_turnoverOf 34 = .ok (.aload_n 0, 1) := by decide +kernel
theorem dX_turnoverOf_35 : decode bX_turnoverOf 35 = .ok (.iload_n 3, 1) := by decide +kernel
theorem dX_turnoverOf_36 : decode bX_turnoverOf 36 = .ok (.iconst 4, 1) := by decide +kernel
theorem dX_turnoverOf_37 : decode bX_turnoverOf 37 = .ok (.invokevirtual 59, 3) := by decide +kernel
theorem dX_turnoverOf_40 : decode bX_turnoverOf 40 = .ok (.iadd, 1) := by decide +kernel
theorem dX_turnoverOf_41 : decode bX_turnoverOf 41 = .ok (.istore_n 2, 1) := by decide +kernel
theorem dX_turnoverOf_42 : decode bX_turnoverOf 42 = .ok (.iinc 3 1, 3) := by decide +kernel
theorem dX_turnoverOf_45 : decode bX_turnoverOf 45 = .ok (.goto (-41), 3) := by decide +kernel
theorem dX_turnoverOf_48 : decode bX_turnoverOf 48 = .ok (.iload_n 2, 1) := by decide +kernel
theorem dX_turnoverOf_49 : decode bX_turnoverOf 49 = .ok (.ireturn, 1) := by decide +kernel
theorem dX_append_0 : decode bX_append 0 = .ok (.aload_n 0, 1) := by decide +kernel
theorem dX_append_1 : decode bX_append 1 = .ok (.getfield 105, 3) := by decide +kernel
theorem dX_append_4 : decode bX_append 4 = .ok (.istore 7, 2) := by decide +kernel
theorem dX_append_6 : decode bX_append 6 = .ok (.iload 7, 2) := by decide +kernel
theorem dX_append_8 : decode bX_append 8 = .ok (.bipush 6, 2) := by decide +kernel
theorem dX_append_10 : decode bX_append 10 = .ok (.imul, 1) := by decide +kernel
theorem dX_append_11 : decode bX_append 11 = .ok (.istore 8, 2) := by decide +kernel
theorem dX_append_13 : decode bX_append 13 = .ok (.aload_n 0, 1) := by decide +kernel
theorem dX_append_14 : decode bX_append 14 = .ok (.getfield 9, 3) := by decide +kernel
theorem dX_append_17 : decode bX_append 17 = .ok (.iload 8, 2) := by decide +kernel
theorem dX_append_19 : decode bX_append 19 = .ok (.iconst 0, 1) := by decide +kernel
theorem dX_append_20 : decode bX_append 20 = .ok (.iadd, 1) := by decide +kernel
theorem dX_append_21 : decode bX_append 21 = .ok (.iload_n 1, 1) := by decide +kernel
theorem dX_append_22 : decode bX_append 22 = .ok (.iastore, 1) := by decide +kernel
theorem dX_append_23 : decode bX_append 23 = .ok (.aload_n 0, 1) := by decide +kernel
theorem dX_append_24 : decode bX_append 24 = .ok (.getfield 9, 3) := by decide +kernel
theorem dX_append_27 : decode bX_append 27 = .ok (.iload 8, 2) := by decide +kernel
theorem dX_append_29 : decode bX_append 29 = .ok (.iconst 1, 1) := by decide +kernel
theorem dX_append_30 : decode bX_append 30 = .ok (.iadd, 1) := by decide +kernel
theorem dX_append_31 : decode bX_append 31 = .ok (.iload_n 2, 1) := by decide +kernel
theorem dX_append_32 : decode bX_append 32 = .ok (.iastore, 1) := by decide +kernel
theorem dX_append_33 : decode bX_append 33 = .ok (.aload_n 0, 1) := by decide +kernel
theorem dX_append_34 : decode bX_append 34 = .ok (.getfield 9, 3) := by decide +kernel
theorem dX_append_37 : decode bX_append 37 = .ok (.iload 8, 2) := by decide +kernel
theorem dX_append_39 : decode bX_append 39 = .ok (.iconst 2, 1) := by decide +kernel
theorem dX_append_40 : decode bX_append 40 = .ok (.iadd, 1) := by decide +kernel
theorem dX_append_41 : decode bX_append 41 = .ok (.iload_n 3, 1) := by decide +kernel
theorem dX_append_42 : decode bX_append 42 = .ok (.iastore, 1) := by decide +kernel
theorem dX_append_43 : decode bX_append 43 = .ok (.aload_n 0, 1) := by decide +kernel
theorem dX_append_44 : decode bX_append 44 = .ok (.getfield 9, 3) := by decide +kernel
theorem dX_append_47 : decode bX_append 47 = .ok (.iload 8, 2) := by decide +kernel
theorem dX_append_49 : decode bX_append 49 = .ok (.iconst 3, 1) := by decide +kernel
theorem dX_append_50 : decode bX_append 50 = .ok (.iadd, 1) := by decide +kernel
theorem dX_append_51 : decode bX_append 51 = .ok (.iload 4, 2) := by decide +kernel
theorem dX_append_53 : decode bX_append 53 = .ok (.iastore, 1) := by decide +kernel
theorem dX_append_54 : decode bX_append 54 = .ok (.aload_n 0, 1) := by decide +kernel
theorem dX_append_55 : decode bX_append 55 = .ok (.getfield 9, 3) := by decide +kernel
theorem dX_append_58 : decode bX_append 58 = .ok (.iload 8, 2) := by decide +kernel
theorem dX_append_60 : decode bX_append 60 = .ok (.iconst 4, 1) := by decide +kernel
theorem dX_append_61 : decode bX_append 61 = .ok (.iadd, 1) := by decide +kernel
theorem dX_append_62 : decode bX_append 62 = .ok (.iload 5, 2) := by decide +kernel
theorem dX_append_64 : decode bX_append 64 = .ok (.iastore, 1) := by decide +kernel
theorem dX_append_65 : decode bX_append 65 = .ok (.aload_n 0, 1) := by decide +kernel
theorem dX_append_66 : decode bX_append 66 = .ok (.getfield 9, 3) := by decide +kernel
theorem dX_append_69 : decode bX_append 69 = .ok (.iload 8, 2) := by decide +kernel
theorem dX_append_71 : decode bX_append 71 = .ok (.iconst 5, 1) := by decide +kernel
theorem dX_append_72 : decode bX_append 72 = .ok (.iadd, 1) := by decide +kernel
theorem dX_append_73 : decode bX_append 73 = .ok (.iload 6, 2) := by decide +kernel
theorem dX_append_75 : decode bX_append 75 = .ok (.iastore, 1) := by decide +kernel
theorem dX_append_76 : decode bX_append 76 = .ok (.aload_n 0, 1) := by decide +kernel
theorem dX_append_77 : decode bX_append 77 = .ok (.getfield 13, 3) := by decide +kernel
theorem dX_append_80 : decode bX_append 80 = .ok (.iload 7, 2) := by decide +kernel
theorem dX_append_82 : decode bX_append 82 = .ok (.aload_n 0, 1) := by decide +kernel
theorem dX_append_83 : decode bX_append 83 = .ok (.iload 7, 2) := by decide +kernel
theorem dX_append_85 : decode bX_append 85 = .ok (.invokevirtual 112, 3) := by decide +kernel
theorem dX_append_88 : decode bX_append 88 = .ok (.lastore, 1) := by decide +kernel
theorem dX_append_89 : decode bX_append 89 = .ok (.aload_n 0, 1) := by decide +kernel
theorem dX_append_90 : decode bX_append 90 = .ok (.getfield 17, 3) := by decide +kernel
theorem dX_append_93 : decode bX_append 93 = .ok (.iload 7, 2) := by decide +kernel
theorem dX_append_95 : decode bX_append 95 = .ok (.bipush 64, 2) := by decide +kernel
theorem dX_append_97 : decode bX_append 97 = .ok (.iastore, 1) := by decide +kernel
theorem dX_append_98 : decode bX_append 98 = .ok (.aload_n 0, 1) := by decide +kernel
theorem dX_append_99 : decode bX_append 99 = .ok (.dup, 1) := by decide +kernel
theorem dX_append_100 : decode bX_append 100 = .ok (.getfield 105, 3) := by decide +kernel
theorem dX_append_103 : decode bX_append 103 = .ok (.iconst 1, 1) := by decide +kernel
theorem dX_append_104 : decode bX_append 104 = .ok (.iadd, 1) := by decide +kernel
theorem dX_append_105 : decode bX_append 105 = .ok (.putfield 105, 3) := by decide +kernel
theorem dX_append_108 : decode bX_append 108 = .ok (.iload 7, 2) := by decide +kernel
theorem dX_append_110 : decode bX_append 110 = .ok (.ireturn, 1) := by decide +kernel
theorem dX_replace_0 : decode bX_replace 0 = .ok (.aload_n 0, 1) := by decide +kernel
theorem dX_replace_1 : decode bX_replace 1 = .ok (.iload_n 2, 1) := by decide +kernel
theorem dX_replace_2 : decode bX_replace 2 = .ok (.aload_n 0, 1) := by decide +kernel
theorem dX_replace_3 : decode bX_replace 3 = .ok (.iload_n 1, 1) := by decide +kernel
theorem dX_replace_4 : decode bX_replace 4 = .ok (.iconst 1, 1) := by decide +kernel
theorem dX_replace_5 : decode bX_replace 5 = .ok (.invokevirtual 59, 3) := by decide +kernel
theorem dX_replace_8 : decode bX_replace 8 = .ok (.aload_n 0, 1) := by decide +kernel
theorem dX_replace_9 : decode bX_replace 9 = .ok (.iload_n 1, 1) := by decide +kernel
theorem dX_replace_10 : decode bX_replace 10 = .ok (.iconst 2, 1) := by decide +kernel
theorem dX_replace_11 : decode bX_replace 11 = .ok (.invokevirtual 59, 3) := by decide +kernel
theorem dX_replace_14 : decode bX_replace 14 = .ok (.aload_n 0, 1) := by decide +kernel
theorem dX_replace_15 : decode bX_replace 15 = .ok (.iload_n 1, 1) := by decide +kernel
theorem dX_replace_16 : decode bX_replace 16 = .ok (.iconst 3, 1) := by decide +kernel
theorem dX_replace_17 : decode bX_replace 17 = .ok (.invokevirtual 59, 3) := by decide +kernel
theorem dX_replace_20 : decode bX_replace 20 = .ok (.iload_n 3, 1) := by decide +kernel
theorem dX_replace_21 : decode bX_replace 21 = .ok (.aload_n 0, 1) := by decide +kernel
theorem dX_replace_22 : decode bX_replace 22 = .ok (.iload_n 1, 1) := by decide +kernel
theorem dX_replace_23 : decode bX_replace 23 = .ok (.iconst 5, 1) := by decide +kernel
theorem dX_replace_24 : decode bX_replace 24 = .ok (.invokevirtual 59, 3) := by decide +kernel
theorem dX_replace_27 : decode bX_replace 27 = .ok (.invokevirtual 51, 3) := by decide +kernel
theorem dX_replace_30 : decode bX_replace 30 = .ok (.istore 4, 2) := by decide +kernel
theorem dX_replace_32 : decode bX_replace 32 = .ok (.aload_n 0, 1) := by decide +kernel
theorem dX_replace_33 : decode bX_replace 33 = .ok (.getfield 17, 3) := by decide +kernel
theorem dX_replace_36 : decode bX_replace 36 = .ok (.iload_n 1, 1) := by decide +kernel
theorem dX_replace_37 : decode bX_replace 37 = .ok (.iload 4, 2) := by decide +kernel
theorem dX_replace_39 : decode bX_replace 39 = .ok (.iastore, 1) := by decide +kernel
theorem dX_replace_40 : decode bX_replace 40 = .ok (.iload 4, 2) := by decide +kernel
theorem dX_replace_42 : decode bX_replace 42 = .ok (.ireturn, 1) := by decide +kernel
theorem dX_linkBefore_0 : decode bX_linkBefore 0 = .ok (.iload_n 1, 1) := by decide +kernel
theorem dX_linkBefore_1 : decode bX_linkBefore 1 = .ok (.ifCond .ne 9, 3) := by decide +kernel
theorem dX_linkBefore_4 : decode bX_linkBefore 4 = .ok (.ldc2_w 151, 3) := by decide +kernel
theorem dX_linkBefore_7 : decode bX_linkBefore 7 = .ok (.goto 11, 3) := by decide +kernel
theorem dX_linkBefore_10 : decode bX_linkBefore 10 = .ok (.aload_n 0, 1) := by decide +kernel
theorem dX_linkBefore_11 : decode bX_linkBefore 11 = .ok (.getfield 13, 3) := by decide +kernel
theorem dX_linkBefore_14 : decode bX_linkBefore 14 = .ok (.iload_n 1, 1) := by decide +kernel
theorem dX_linkBefore_15 : decode bX_linkBefore 15 = .ok (.iconst 1, 1) := by decide +kernel
theorem dX_linkBefore_16 : decode bX_linkBefore 16 = .ok (.isub, 1) := by decide +kernel
theorem dX_linkBefore_17 : decode bX_linkBefore 17 = .ok (.laload, 1) := by decide +kernel
theorem dX_linkBefore_18 : decode bX_linkBefore 18 = .ok (.lreturn, 1) := by decide +kernel
theorem dX_linkOfWords_0 : decode bX_linkOfWords 0 = .ok (.aload_n 0, 1) := by decide +kernel
theorem dX_linkOfWords_1 : decode bX_linkOfWords 1 = .ok (.iload_n 1, 1) := by decide +kernel
theorem dX_linkOfWords_2 : decode bX_linkOfWords 2 = .ok (.invokevirtual 108, 3) := by decide +kernel
theorem dX_linkOfWords_5 : decode bX_linkOfWords 5 = .ok (.lstore_n 2, 1) := by decide +kernel
theorem dX_linkOfWords_6 : decode bX_linkOfWords 6 = .ok (.iconst 0, 1) := by decide +kernel
theorem dX_linkOfWords_7 : decode bX_linkOfWords 7 = .ok (.istore 4, 2) := by decide +kernel
theorem dX_linkOfWords_9 : decode bX_linkOfWords 9 = .ok (.iload 4, 2) := by decide +kernel
theorem dX_linkOfWords_11 : decode bX_linkOfWords 11 = .ok (.bipush 6, 2) := by decide +kernel
theorem dX_linkOfWords_13 : decode bX_linkOfWords 13 = .ok (.if_icmp .ge 29, 3) := by decide +kernel
theorem dX_linkOfWords_16 : decode bX_linkOfWords 16 = .ok (.lload_n 2, 1) := by decide +kernel
theorem dX_linkOfWords_17 : decode bX_linkOfWords 17 = .ok (.lload_n 2, 1) := by decide +kernel
theorem dX_linkOfWords_18 : decode bX_linkOfWords 18 = .ok (.bipush 27, 2) := by decide +kernel
theorem dX_linkOfWords_20 : decode bX_linkOfWords 20 = .ok (.lushr, 1) := by decide +kernel
theorem dX_linkOfWords_21 : decode bX_linkOfWords 21 = .ok (.lxor, 1) := by decide +kernel
theorem dX_linkOfWords_22 : decode bX_linkOfWords 22 = .ok (.ldc2_w 153, 3) := by decide +kernel
theorem dX_linkOfWords_25 : decode bX_linkOfWords 25 = .ok (.lmul, 1) := by decide +kernel
theorem dX_linkOfWords_26 : decode bX_linkOfWords 26 = .ok (.aload_n 0, 1) := by decide +kernel
theorem dX_linkOfWords_27 : decode bX_linkOfWords 27 = .ok (.iload_n 1, 1) := by decide +kernel
theorem dX_linkOfWords_28 : decode bX_linkOfWords 28 = .ok (.iload 4, 2) := by decide +kernel
theorem dX_linkOfWords_30 : decode bX_linkOfWords 30 = .ok (.invokevirtual 59, 3) := by decide +kernel
theorem dX_linkOfWords_33 : decode bX_linkOfWords 33 = .ok (.i2l, 1) := by decide +kernel
theorem dX_linkOfWords_34 : decode bX_linkOfWords 34 = .ok (.ladd, 1) := by decide +kernel
theorem dX_linkOfWords_35 : decode bX_linkOfWords 35 = .ok (.lstore_n 2, 1) := by decide +kernel
theorem dX_linkOfWords_36 : decode bX_linkOfWords 36 = .ok (.iinc 4 1, 3) := by decide +kernel
theorem dX_linkOfWords_39 : decode bX_linkOfWords 39 = .ok (.goto (-30), 3) := by decide +kernel
theorem dX_linkOfWords_42 : decode bX_linkOfWords 42 = .ok (.lload_n 2, 1) := by decide +kernel
theorem dX_linkOfWords_43 : decode bX_linkOfWords 43 = .ok (.lreturn, 1) := by decide +kernel
theorem dX_insertIntoCursor_0 : decode bX_insertIntoCursor 0 = .ok (.aload_n 0, 1) := by decide +kernel
theorem dX_insertIntoCursor_1 : decode bX_insertIntoCursor 1 = .ok (.getfield 76, 3) := by decide +kernel
theorem dX_insertIntoCursor_4 : decode bX_insertIntoCursor 4 = .ok (.istore_n 2, 1) := by decide +kernel
theorem dX_insertIntoCursor_5 : decode bX_insertIntoCursor 5 = .ok (.iload_n 2, 1) := by decide +kernel
theorem dX_insertIntoCursor_6 : decode bX_insertIntoCursor 6 = .ok (.ifCond .le 39, 3) := by decide +kernel
theorem dX_insertIntoCursor_9 : decode bX_insertIntoCursor 9 = .ok (.aload_n 0, 1) := by decide +kernel
theorem dX_insertIntoCursor_10 : decode bX_insertIntoCursor 10 = .ok (.iload_n 1, 1) := by decide +kernel
theorem dX_insertIntoCursor_11 : decode bX_insertIntoCursor 11 = .ok (.aload_n 0, 1) := by decide +kernel
theorem dX_insertIntoCursor_12 : decode bX_insertIntoCursor 12 = .ok (.getfield 20, 3) := by decide +kernel
theorem dX_insertIntoCursor_15 : decode bX_insertIntoCursor 15 = .ok (.iload_n 2, 1) := by decide +kernel
theorem dX_insertIntoCursor_16 : decode bX_insertIntoCursor 16 = .ok (.iconst 1, 1) := by decide +kernel
theorem dX_insertIntoCursor_17 : decode bX_insertIntoCursor 17 = .ok (.isub, 1) := by decide +kernel
theorem dX_insertIntoCursor_18 : decode bX_insertIntoCursor 18 = .ok (.iaload, 1) := by decide +kernel
theorem dX_insertIntoCursor_19 : decode bX_insertIntoCursor 19 = .ok (.invokevirtual 155, 3) := by decide +kernel
theorem dX_insertIntoCursor_22 : decode bX_insertIntoCursor 22 = .ok (.ifCond .eq 23, 3) := by decide +kernel
theorem dX_insertIntoCursor_25 : decode bX_insertIntoCursor 25 = .ok (.aload_n 0, 1) := by decide +kernel
theorem dX_insertIntoCursor_26 : decode bX_insertIntoCursor 26 = .ok (.getfield 20, 3) := by decide +kernel
theorem dX_insertIntoCursor_29 : decode bX_insertIntoCursor 29 = .ok (.iload_n 2, 1) := by decide +kernel
theorem dX_insertIntoCursor_30 : decode bX_insertIntoCursor 30 = .ok (.aload_n 0, 1) := by decide +kernel
theorem dX_insertIntoCursor_31 : decode bX_insertIntoCursor 31 = .ok (.getfield 20, 3) := by decide +kernel
theorem dX_insertIntoCursor_34 : decode bX_insertIntoCursor 34 = .ok (.iload_n 2, 1) := by decide +kernel
theorem dX_insertIntoCursor_35 : decode bX_insertIntoCursor 35 = .ok (.iconst 1, 1) := by decide +kernel
theorem dX_insertIntoCursor_36 : decode bX_insertIntoCursor 36 = .ok (.isub, 1) := by decide +kernel
theorem dX_insertIntoCursor_37 : decode bX_insertIntoCursor 37 = .ok (.iaload, 1) := by decide +kernel
theorem dX_insertIntoCursor_38 : decode bX_insertIntoCursor 38 = .ok (.iastore, 1) := by decide +kernel
theorem dX_insertIntoCursor_39 : decode bX_insertIntoCursor 39 = .ok (.iinc 2 (-1), 3) := by decide +kernel
theorem dX_insertIntoCursor_42 : decode bX_insertIntoCursor 42 = .ok (.goto (-37), 3) := by decide +kernel
theorem dX_insertIntoCursor_45 : decode bX_insertIntoCursor 45 = .ok (.aload_n 0, 1) := by decide +kernel
theorem dX_insertIntoCursor_46 : decode bX_insertIntoCursor 46 = .ok (.getfield 20, 3) := by decide +kernel
theorem dX_insertIntoCursor_49 : decode bX_insertIntoCursor 49 = .ok (.iload_n 2, 1) := by decide +kernel
theorem dX_insertIntoCursor_50 : decode bX_insertIntoCursor 50 = .ok (.iload_n 1, 1) := by decide +kernel
theorem dX_insertIntoCursor_51 : decode bX_insertIntoCursor 51 = .ok (.iastore, 1) := by decide +kernel
theorem dX_insertIntoCursor_52 : decode bX_insertIntoCursor 52 = .ok (.aload_n 0, 1) := by decide +kernel
theorem dX_insertIntoCursor_53 : decode bX_insertIntoCursor 53 = .ok (.dup, 1) := by decide +kernel
theorem dX_insertIntoCursor_54 : decode bX_insertIntoCursor 54 = .ok (.getfield 76, 3) := by decide +kernel
theorem dX_insertIntoCursor_57 : decode bX_insertIntoCursor 57 = .ok (.iconst 1, 1) := by decide +kernel
theorem dX_insertIntoCursor_58 : decode bX_insertIntoCursor 58 = .ok (.iadd, 1) := by decide +kernel
theorem dX_insertIntoCursor_59 : decode bX_insertIntoCursor 59 = .ok (.putfield 76, 3) := by decide +kernel
theorem dX_insertIntoCursor_62 : decode bX_insertIntoCursor 62 = .ok (.return_, 1) := by decide +kernel
theorem dX_comesBefore_0 : decode bX_comesBefore 0 = .ok (.aload_n 0, 1) := by decide +kernel
theorem dX_comesBefore_1 : decode bX_comesBefore 1 = .ok (.iload_n 1, 1) := by decide +kernel
theorem dX_comesBefore_2 : decode bX_comesBefore 2 = .ok (.iconst 5, 1) := by decide +kernel
theorem dX_comesBefore_3 : decode bX_comesBefore 3 = .ok (.invokevirtual 59, 3) := by decide +kernel
theorem dX_comesBefore_6 : decode bX_comesBefore 6 = .ok (.aload_n 0, 1) := by decide +kernel
theorem dX_comesBefore_7 : decode bX_comesBefore 7 = .ok (.iload_n 2, 1) := by decide +kernel
theorem dX_comesBefore_8 : decode bX_comesBefore 8 = .ok (.iconst 5, 1) := by decide +kernel
theorem dX_comesBefore_9 : decode bX_comesBefore 9 = .ok (.invokevirtual 59, 3) := by decide +kernel
theorem dX_comesBefore_12 : decode bX_comesBefore 12 = .ok (.invokestatic 158, 3) := by decide +kernel
theorem dX_comesBefore_15 : decode bX_comesBefore 15 = .ok (.istore_n 3, 1) := by decide +kernel
theorem dX_comesBefore_16 : decode bX_comesBefore 16 = .ok (.iload_n 3, 1) := by decide +kernel
theorem dX_comesBefore_17 : decode bX_comesBefore 17 = .ok (.ifCond .lt 22, 3) := by decide +kernel
theorem dX_comesBefore_20 : decode bX_comesBefore 20 = .ok (.iload_n 3, 1) := by decide +kernel
theorem dX_comesBefore_21 : decode bX_comesBefore 21 = .ok (.ifCond .ne 22, 3) := by decide +kernel
theorem dX_comesBefore_24 : decode bX_comesBefore 24 = .ok (.aload_n 0, 1) := by decide +kernel
theorem dX_comesBefore_25 : decode bX_comesBefore 25 = .ok (.iload_n 1, 1) := by decide +kernel
theorem dX_comesBefore_26 : decode bX_comesBefore 26 = .ok (.iconst 1, 1) := by decide +kernel
theorem dX_comesBefore_27 : decode bX_comesBefore 27 = .ok (.invokevirtual 59, 3) := by decide +kernel
theorem dX_comesBefore_30 : decode bX_comesBefore 30 = .ok (.aload_n 0, 1) := by decide +kernel
theorem dX_comesBefore_31 : decode bX_comesBefore 31 = .ok (.iload_n 2, 1) := by decide +kernel
theorem dX_comesBefore_32 : decode bX_comesBefore 32 = .ok (.iconst 1, 1) := by decide +kernel
theorem dX_comesBefore_33 : decode bX_comesBefore 33 = .ok (.invokevirtual 59, 3) := by decide +kernel
theorem dX_comesBefore_36 : decode bX_comesBefore 36 = .ok (.if_icmp .ge 7, 3) := by decide +kernel
theorem dX_comesBefore_39 : decode bX_comesBefore 39 = .ok (.iconst 1, 1) := by decide +kernel
theorem dX_comesBefore_40 : decode bX_comesBefore 40 = .ok (.goto 4, 3) := by decide +kernel
theorem dX_comesBefore_43 : decode bX_comesBefore 43 = .ok (.iconst 0, 1) := by decide +kernel
theorem dX_comesBefore_44 : decode bX_comesBefore 44 = .ok (.ireturn, 1) := by decide +kernel
theorem dI_compare_0 : decode bI_compare 0 = .ok (.iload_n 0, 1) := by decide +kernel
theorem dI_compare_1 : decode bI_compare 1 = .ok (.iload_n 1, 1) := by decide +kernel
theorem dI_compare_2 : decode bI_compare 2 = .ok (.if_icmp .ge 7, 3) := by decide +kernel
theorem dI_compare_5 : decode bI_compare 5 = .ok (.iconst (-1), 1) := by decide +kernel
theorem dI_compare_6 : decode bI_compare 6 = .ok (.goto 13, 3) := by decide +kernel
theorem dI_compare_9 : decode bI_compare 9 = .ok (.iload_n 0, 1) := by decide +kernel
theorem dI_compare_10 : decode bI_compare 10 = .ok (.iload_n 1, 1) := by decide +kernel
theorem dI_compare_11 : decode bI_compare 11 = .ok (.if_icmp .ne 7, 3) := by decide +kernel
theorem dI_compare_14 : decode bI_compare 14 = .ok (.iconst 0, 1) := by decide +kernel
theorem dI_compare_15 : decode bI_compare 15 = .ok (.goto 4, 3) := by decide +kernel
theorem dI_compare_18 : decode bI_compare 18 = .ok (.iconst 1, 1) := by decide +kernel
theorem dI_compare_19 : decode bI_compare 19 = .ok (.ireturn, 1) := by decide +kernel
end
section
theorem dM_init_0 : decode bM_init 0 = .ok (.aload_n 0, 1) := by decide +kernel
theorem dM_init_1 : decode bM_init 1 = .ok (.invokespecial 1, 3) := by decide +kernel
theorem dM_init_4 : decode bM_init 4 = .ok (.aload_n 0, 1) := by decide +kernel
theorem dM_init_5 : decode bM_init 5 = .ok (.sipush 384, 3) := by decide +kernel
theorem dM_init_8 : decode bM_init 8 = .ok (.newarray .int, 2) := by decide +kernel
theorem dM_init_10 : decode bM_init 10 = .ok (.putfield 7, 3) := by decide +kernel
theorem dM_init_13 : decode bM_init 13 = .ok (.aload_n 0, 1) := by decide +kernel
theorem dM_init_14 : decode bM_init 14 = .ok (.bipush 64, 2) := by decide +kernel
theorem dM_init_16 : decode bM_init 16 = .ok (.newarray .long, 2) := by decide +kernel
theorem dM_init_18 : decode bM_init 18 = .ok (.putfield 13, 3) := by decide +kernel
theorem dM_init_21 : decode bM_init 21 = .ok (.aload_n 0, 1) := by decide +kernel
theorem dM_init_22 : decode bM_init 22 = .ok (.bipush 64, 2) := by decide +kernel
theorem dM_init_24 : decode bM_init 24 = .ok (.newarray .int, 2) := by decide +kernel
theorem dM_init_26 : decode bM_init 26 = .ok (.putfield 17, 3) := by decide +kernel
theorem dM_init_29 : decode bM_init 29 = .ok (.aload_n 0, 1) := by decide +kernel
theorem dM_init_30 : decode bM_init 30 = .ok (.bipush 64, 2) := by decide +kernel
theorem dM_init_32 : decode bM_init 32 = .ok (.newarray .int, 2) := by decide +kernel
theorem dM_init_34 : decode bM_init 34 = .ok (.putfield 20, 3) := by decide +kernel
theorem dM_init_37 : decode bM_init 37 = .ok (.return_, 1) := by decide +kernel
theorem dM_thrown_0 : decode bM_thrown 0 = .ok (.aload_n 0, 1) := by decide +kernel
theorem dM_thrown_1 : decode bM_thrown 1 = .ok (.getfield 23, 3) := by decide +kernel
theorem dM_thrown_4 : decode bM_thrown 4 = .ok (.ireturn, 1) := by decide +kernel
theorem dM_isAccount_0 : decode bM_isAccount 0 = .ok (.iload_n 0, 1) := by decide +kernel
theorem dM_isAccount_1 : decode bM_isAccount 1 = .ok (.ifCond .lt 13, 3) := by decide +kernel
theorem dM_isAccount_4 : decode bM_isAccount 4 = .ok (.iload_n 0, 1) := by decide +kernel
theorem dM_isAccount_5 : decode bM_isAccount 5 = .ok (.bipush 16, 2) := by decide +kernel
theorem dM_isAccount_7 : decode bM_isAccount 7 = .ok (.if_icmp .ge 7, 3) := by decide +kernel
theorem dM_isAccount_10 : decode bM_isAccount 10 = .ok (.iconst 1, 1) := by decide +kernel
theorem dM_isAccount_11 : decode bM_isAccount 11 = .ok (.goto 4, 3) := by decide +kernel
theorem dM_isAccount_14 : decode bM_isAccount 14 = .ok (.iconst 0, 1) := by decide +kernel
theorem dM_isAccount_15 : decode bM_isAccount 15 = .ok (.ireturn, 1) := by decide +kernel
theorem dM_isDay_0 : decode bM_isDay 0 = .ok (.iload_n 0, 1) := by decide +kernel
theorem dM_isDay_1 : decode bM_isDay 1 = .ok (.ifCond .lt 14, 3) := by decide +kernel
theorem dM_isDay_4 : decode bM_isDay 4 = .ok (.iload_n 0, 1) := by decide +kernel
theorem dM_isDay_5 : decode bM_isDay 5 = .ok (.sipush 1000, 3) := by decide +kernel
theorem dM_isDay_8 : decode bM_isDay 8 = .ok (.if_icmp .ge 7, 3) := by decide +kernel
theorem dM_isDay_11 : decode bM_isDay 11 = .ok (.iconst 1, 1) := by decide +kernel
theorem dM_isDay_12 : decode bM_isDay 12 = .ok (.goto 4, 3) := by decide +kernel
theorem dM_isDay_15 : decode bM_isDay 15 = .ok (.iconst 0, 1) := by decide +kernel
theorem dM_isDay_16 : decode bM_isDay 16 = .ok (.ireturn, 1) := by decide +kernel
theorem dM_isTime_0 : decode bM_isTime 0 = .ok (.iload_n 1, 1) := by decide +kernel
theorem dM_isTime_1 : decode bM_isTime 1 = .ok (.ifCond .lt 15, 3) := by decide +kernel
theorem dM_isTime_4 : decode bM_isTime 4 = .ok (.iload_n 1, 1) := by decide +kernel
theorem dM_isTime_5 : decode bM_isTime 5 = .ok (.aload_n 0, 1) := by decide +kernel
theorem dM_isTime_6 : decode bM_isTime 6 = .ok (.getfield 27, 3) := by decide +kernel
theorem dM_isTime_9 : decode bM_isTime 9 = .ok (.if_icmp .gt 7, 3) := by decide +kernel
theorem dM_isTime_12 : decode bM_isTime 12 = .ok (.iconst 1, 1) := by decide +kernel
theorem dM_isTime_13 : decode bM_isTime 13 = .ok (.goto 4, 3) := by decide +kernel
theorem dM_isTime_16 : decode bM_isTime 16 = .ok (.iconst 0, 1) := by decide +kernel
theorem dM_isTime_17 : decode bM_isTime 17 = .ok (.ireturn, 1) := by decide +kernel
theorem dM_word_0 : decode bM_word 0 = .ok (.aload_n 0, 1) := by decide +kernel
theorem dM_word_1 : decode bM_word 1 = .ok (.getfield 7, 3) := by decide +kernel
theorem dM_word_4 : decode bM_word 4 = .ok (.bipush 6, 2) := by decide +kernel
theorem dM_word_6 : decode bM_word 6 = .ok (.iload_n 1, 1) := by decide +kernel
theorem dM_word_7 : decode bM_word 7 = .ok (.imul, 1) := by decide +kernel
theorem dM_word_8 : decode bM_word 8 = .ok (.iload_n 2, 1) := by decide +kernel
theorem dM_word_9 : decode bM_word 9 = .ok (.iadd, 1) := by decide +kernel
theorem dM_word_10 : decode bM_word 10 = .ok (.iaload, 1) := by decide +kernel
theorem dM_word_11 : decode bM_word 11 = .ok (.ireturn, 1) := by decide +kernel
theorem dM_currentAt_0 : decode bM_currentAt 0 = .ok (.iload_n 2, 1) := by decide +kernel
theorem dM_currentAt_1 : decode bM_currentAt 1 = .ok (.iconst 1, 1) := by decide +kernel
theorem dM_currentAt_2 : decode bM_currentAt 2 = .ok (.isub, 1) := by decide +kernel
theorem dM_currentAt_3 : decode bM_currentAt 3 = .ok (.istore_n 3, 1) := by decide +kernel
theorem dM_currentAt_4 : decode bM_currentAt 4 = .ok (.iload_n 3, 1) := by decide +kernel
theorem dM_currentAt_5 : decode bM_currentAt 5 = .ok (.ifCond .lt 20, 3) := by decide +kernel
theorem dM_currentAt_8 : decode bM_currentAt 8 = .ok (.aload_n 0, 1) := by decide +kernel
theorem dM_currentAt_9 : decode bM_currentAt 9 = .ok (.iload_n 3, 1) := by decide +kernel
theorem dM_currentAt_10 : decode bM_currentAt 10 = .ok (.iconst 1, 1) := by decide +kernel
theorem dM_currentAt_11 : decode bM_currentAt 11 = .ok (.invokevirtual 30, 3) := by decide +kernel
theorem dM_currentAt_14 : decode bM_currentAt 14 = .ok (.iload_n 1, 1) := by decide +kernel
theorem dM_currentAt_15 : decode bM_currentAt 15 = .ok (.if_icmp .eq 10, 3) := by decide +kernel
theorem dM_currentAt_18 : decode bM_currentAt 18 = .ok (.iload_n 3, 1) := by decide +kernel
theorem dM_currentAt_19 : decode bM_currentAt 19 = .ok (.iconst 1, 1) := by decide +kernel
theorem dM_currentAt_20 : decode bM_currentAt 20 = .ok (.isub, 1) := by decide +kernel
theorem dM_currentAt_21 : decode bM_currentAt 21 = .ok (.istore_n 3, 1) := by decide +kernel
theorem dM_currentAt_22 : decode bM_currentAt 22 = .ok (.goto (-18), 3) := by decide +kernel
theorem dM_currentAt_25 : decode bM_currentAt 25 = .ok (.iload_n 3, 1) := by decide +kernel
theorem dM_currentAt_26 : decode bM_currentAt 26 = .ok (.ireturn, 1) := by decide +kernel
theorem dM_follow_0 : decode bM_follow 0 = .ok (.lload_n 0, 1) := by decide +kernel
theorem dM_follow_1 : decode bM_follow 1 = .ok (.lload_n 0, 1) := by decide +kernel
theorem dM_follow_2 : decode bM_follow 2 = .ok (.bipush 27, 2) := by decide +kernel
theorem dM_follow_4 : decode bM_follow 4 = .ok (.lushr, 1) := by decide +kernel
theorem dM_follow_5 : decode bM_follow 5 = .ok (.lxor, 1) := by decide +kernel
theorem dM_follow_6 : decode bM_follow 6 = .ok (.ldc2_w 34, 3) := by decide +kernel
theorem dM_follow_9 : decode bM_follow 9 = .ok (.lmul, 1) := by decide +kernel
theorem dM_follow_10 : decode bM_follow 10 = .ok (.iload_n 2, 1) := by decide +kernel
theorem dM_follow_11 : decode bM_follow 11 = .ok (.i2l, 1) := by decide +kernel
theorem dM_follow_12 : decode bM_follow 12 = .ok (.ladd, 1) := by decide +kernel
theorem dM_follow_13 : decode bM_follow 13 = .ok (.lreturn, 1) := by decide +kernel
theorem dM_linkOf_0 : decode bM_linkOf 0 = .ok (.lload_n 2, 1) := by decide +kernel
theorem dM_linkOf_1 : decode bM_linkOf 1 = .ok (.lstore 4, 2) := by decide +kernel
theorem dM_linkOf_3 : decode bM_linkOf 3 = .ok (.iconst 0, 1) := by decide +kernel
theorem dM_linkOf_4 : decode bM_linkOf 4 = .ok (.istore 6, 2) := by decide +kernel
theorem dM_linkOf_6 : decode bM_linkOf 6 = .ok (.iload 6, 2) := by decide +kernel
theorem dM_linkOf_8 : decode bM_linkOf 8 = .ok (.bipush 6, 2) := by decide +kernel
theorem dM_linkOf_10 : decode bM_linkOf 10 = .ok (.if_icmp .ge 23, 3) := by decide +kernel
theorem dM_linkOf_13 : decode bM_linkOf 13 = .ok (.lload 4, 2) := by decide +kernel
theorem dM_linkOf_15 : decode bM_linkOf 15 = .ok (.aload_n 0, 1) := by decide +kernel
theorem dM_linkOf_16 : decode bM_linkOf 16 = .ok (.iload_n 1, 1) := by decide +kernel
theorem dM_linkOf_17 : decode bM_linkOf 17 = .ok (.iload 6, 2) := by decide +kernel
theorem dM_linkOf_19 : decode bM_linkOf 19 = .ok (.invokevirtual 30, 3) := by decide +kernel
theorem dM_linkOf_22 : decode bM_linkOf 22 = .ok (.invokestatic 36, 3) := by decide +kernel
theorem dM_linkOf_25 : decode bM_linkOf 25 = .ok (.lstore 4, 2) := by decide +kernel
theorem dM_linkOf_27 : decode bM_linkOf 27 = .ok (.iinc 6 1, 3) := by decide +kernel
theorem dM_linkOf_30 : decode bM_linkOf 30 = .ok (.goto (-24), 3) := by decide +kernel
theorem dM_linkOf_33 : decode bM_linkOf 33 = .ok (.lload 4, 2) := by decide +kernel
theorem dM_linkOf_35 : decode bM_linkOf 35 = .ok (.lreturn, 1) := by decide +kernel
theorem dM_linkBefore_0 : decode bM_linkBefore 0 = .ok (.iload_n 1, 1) := by decide +kernel
theorem dM_linkBefore_1 : decode bM_linkBefore 1 = .ok (.ifCond .ne 9, 3) := by decide +kernel
theorem dM_linkBefore_4 : decode bM_linkBefore 4 = .ok (.ldc2_w 40, 3) := by decide +kernel
theorem dM_linkBefore_7 : decode bM_linkBefore 7 = .ok (.goto 11, 3) := by decide +kernel
theorem dM_linkBefore_10 : decode bM_linkBefore 10 = .ok (.aload_n 0, 1) := by decide +kernel
theorem dM_linkBefore_11 : decode bM_linkBefore 11 = .ok (.getfield 13, 3) := by decide +kernel
theorem dM_linkBefore_14 : decode bM_linkBefore 14 = .ok (.iload_n 1, 1) := by decide +kernel
theorem dM_linkBefore_15 : decode bM_linkBefore 15 = .ok (.iconst 1, 1) := by decide +kernel
theorem dM_linkBefore_16 : decode bM_linkBefore 16 = .ok (.isub, 1) := by decide +kernel
theorem dM_linkBefore_17 : decode bM_linkBefore 17 = .ok (.laload, 1) := by decide +kernel
theorem dM_linkBefore_18 : decode bM_linkBefore 18 = .ok (.lreturn, 1) := by decide +kernel
theorem dM_turnoverNow_0 : decode bM_turnoverNow 0 = .ok (.lconst 0, 1) := by decide +kernel
theorem dM_turnoverNow_1 : decode bM_turnoverNow 1 = .ok (.lstore_n 2, 1) := by decide +kernel
theorem dM_turnoverNow_2 : decode bM_turnoverNow 2 = .ok (.iconst 0, 1) := by decide +kernel
theorem dM_turnoverNow_3 : decode bM_turnoverNow 3 = .ok (.istore 4, 2) := by decide +kernel
theorem dM_turnoverNow_5 : decode bM_turnoverNow 5 = .ok (.iload 4, 2) := by decide +kernel
theorem dM_turnoverNow_7 : decode bM_turnoverNow 7 = .ok (.aload_n 0, 1) := by decide +kernel
theorem dM_turnoverNow_8 : decode bM_turnoverNow 8 = .ok (.getfield 42, 3) := by decide +kernel
theorem dM_turnoverNow_11 : decode bM_turnoverNow 11 = .ok (.if_icmp .ge 70, 3) := by decide +kernel
theorem dM_turnoverNow_14 : decode bM_turnoverNow 14 = .ok (.aload_n 0, 1) := by decide +kernel
theorem dM_turnoverNow_15 : decode bM_turnoverNow 15 = .ok (.iload 4, 2) := by decide +kernel
theorem dM_turnoverNow_17 : decode bM_turnoverNow 17 = .ok (.aload_n 0, 1) := by decide +kernel
theorem dM_turnoverNow_18 : decode bM_turnoverNow 18 = .ok (.getfield 27, 3) := by decide +kernel
theorem dM_turnoverNow_21 : decode bM_turnoverNow 21 = .ok (.invokevirtual 45, 3) := by decide +kernel
theorem dM_turnoverNow_24 : decode bM_turnoverNow 24 = .ok (.istore 5, 2) := by decide +kernel
theorem dM_turnoverNow_26 : decode bM_turnoverNow 26 = .ok (.aload_n 0, 1) := by decide +kernel
theorem dM_turnoverNow_27 : decode bM_turnoverNow 27 = .ok (.iload 5, 2) := by decide +kernel
theorem dM_turnoverNow_29 : decode bM_turnoverNow 29 = .ok (.iconst 2, 1) := by decide +kernel
theorem dM_turnoverNow_30 : decode bM_turnoverNow 30 = .ok (.invokevirtual 30, 3) := by decide +kernel
theorem dM_turnoverNow_33 : decode bM_turnoverNow 33 = .ok (.iload_n 1, 1) := by decide +kernel
theorem dM_turnoverNow_34 : decode bM_turnoverNow 34 = .ok (.if_icmp .eq 14, 3) := by decide +kernel
theorem dM_turnoverNow_37 : decode bM_turnoverNow 37 = .ok (.aload_n 0, 1) := by decide +kernel
theorem dM_turnoverNow_38 : decode bM_turnoverNow 38 = .ok (.iload 5, 2) := by decide +kernel
theorem dM_turnoverNow_40 : decode bM_turnoverNow 40 = .ok (.iconst 3, 1) := by decide +kernel
theorem dM_turnoverNow_41 : decode bM_turnoverNow 41 = .ok (.invokevirtual 30, 3) := by decide +kernel
theorem dM_turnoverNow_44 : decode bM_turnoverNow 44 = .ok (.iload_n 1, 1) := by decide +kernel
theorem dM_turnoverNow_45 : decode bM_turnoverNow 45 = .ok (.if_icmp .ne 7, 3) := by decide +kernel
theorem dM_turnoverNow_48 : decode bM_turnoverNow 48 = .ok (.iconst 1, 1) := by decide +kernel
theorem dM_turnoverNow_49 : decode bM_turnoverNow 49 = .ok (.goto 4, 3) := by decide +kernel
theorem dM_turnoverNow_52 : decode bM_turnoverNow 52 = .ok (.iconst 0, 1) := by decide +kernel
theorem dM_turnoverNow_53 : decode bM_turnoverNow 53 = .ok (.istore 6, 2) := by decide +kernel
theorem dM_turnoverNow_55 : decode bM_turnoverNow 55 = .ok (.iload 6, 2) := by decide +kernel
theorem dM_turnoverNow_57 : decode bM_turnoverNow 57 = .ok (.ifCond .eq 16, 3) := by decide +kernel
theorem dM_turnoverNow_60 : decode bM_turnoverNow 60 = .ok (.lload_n 2, 1) := by decide +kernel
theorem dM_turnoverNow_61 : decode bM_turnoverNow 61 = .ok (.aload_n 0, 1) := by decide +kernel
theorem dM_turnoverNow_62 : decode bM_turnoverNow 62 = .ok (.iload 5, 2) := by decide +kernel
theorem dM_turnoverNow_64 : decode bM_turnoverNow 64 = .ok (.iconst 4, 1) := by decide +kernel
theorem dM_turnoverNow_65 : decode bM_turnoverNow 65 = .ok (.invokevirtual 30, 3) := by decide +kernel
theorem dM_turnoverNow_68 : decode bM_turnoverNow 68 = .ok (.i2l, 1) := by decide +kernel
theorem dM_turnoverNow_69 : decode bM_turnoverNow 69 = .ok (.ladd, 1) := by decide +kernel
theorem dM_turnoverNow_70 : decode bM_turnoverNow 70 = .ok (.goto 4, 3) := by decide +kernel
theorem dM_turnoverNow_73 : decode bM_turnoverNow 73 = .ok (.lload_n 2, 1) := by decide +kernel
theorem dM_turnoverNow_74 : decode bM_turnoverNow 74 = .ok (.lstore_n 2, 1) := by decide +kernel
theorem dM_turnoverNow_75 : decode bM_turnoverNow 75 = .ok (.iinc 4 1, 3) := by decide +kernel
theorem dM_turnoverNow_78 : decode bM_turnoverNow 78 = .ok (.goto (-73), 3) := by decide +kernel
theorem dM_turnoverNow_81 : decode bM_turnoverNow 81 = .ok (.lload_n 2, 1) := by decide +kernel
theorem dM_turnoverNow_82 : decode bM_turnoverNow 82 = .ok (.lreturn, 1) := by decide +kernel
theorem dM_tooMuch_0 : decode bM_tooMuch 0 = .ok (.aload_n 0, 1) := by decide +kernel
theorem dM_tooMuch_1 : decode bM_tooMuch 1 = .ok (.iload_n 1, 1) := by decide +kernel
theorem dM_tooMuch_2 : decode bM_tooMuch 2 = .ok (.invokevirtual 48, 3) := by decide +kernel
theorem dM_tooMuch_5 : decode bM_tooMuch 5 = .ok (.lload_n 2, 1) := by decide +kernel
theorem dM_tooMuch_6 : decode bM_tooMuch 6 = .ok (.ladd, 1) := by decide +kernel
theorem dM_tooMuch_7 : decode bM_tooMuch 7 = .ok (.ldc2_w 52, 3) := by decide +kernel
theorem dM_tooMuch_10 : decode bM_tooMuch 10 = .ok (.lcmp, 1) := by decide +kernel
theorem dM_tooMuch_11 : decode bM_tooMuch 11 = .ok (.ifCond .le 7, 3) := by decide +kernel
theorem dM_tooMuch_14 : decode bM_tooMuch 14 = .ok (.iconst 1, 1) := by decide +kernel
theorem dM_tooMuch_15 : decode bM_tooMuch 15 = .ok (.goto 4, 3) := by decide +kernel
theorem dM_tooMuch_18 : decode bM_tooMuch 18 = .ok (.iconst 0, 1) := by decide +kernel
theorem dM_tooMuch_19 : decode bM_tooMuch 19 = .ok (.ireturn, 1) := by decide +kernel
theorem dM_write_0 : decode bM_write 0 = .ok (.aload_n 0, 1) := by decide +kernel
theorem dM_write_1 : decode bM_write 1 = .ok (.getfield 7, 3) := by decide +kernel
theorem dM_write_4 : decode bM_write 4 = .ok (.bipush 6, 2) := by decide +kernel
theorem dM_write_6 : decode bM_write 6 = .ok (.aload_n 0, 1) := by decide +kernel
theorem dM_write_7 : decode bM_write 7 = .ok (.getfield 27, 3) := by decide +kernel
theorem dM_write_10 : decode bM_write 10 = .ok (.imul, 1) := by decide +kernel
theorem dM_write_11 : decode bM_write 11 = .ok (.iload_n 1, 1) := by decide +kernel
theorem dM_write_12 : decode bM_write 12 = .ok (.iadd, 1) := by decide +kernel
theorem dM_write_13 : decode bM_write 13 = .ok (.iload_n 2, 1) := by decide +kernel
theorem dM_write_14 : decode bM_write 14 = .ok (.iastore, 1) := by decide +kernel
theorem dM_write_15 : decode bM_write 15 = .ok (.return_, 1) := by decide +kernel
theorem dM_add_0 : decode bM_add 0 = .ok (.aload_n 0, 1) := by decide +kernel
theorem dM_add_1 : decode bM_add 1 = .ok (.iconst 0, 1) := by decide +kernel
theorem dM_add_2 : decode bM_add 2 = .ok (.iload_n 1, 1) := by decide +kernel
theorem dM_add_3 : decode bM_add 3 = .ok (.invokevirtual 54, 3) := by decide +kernel
theorem dM_add_6 : decode bM_add 6 = .ok (.aload_n 0, 1) := by decide +kernel
theorem dM_add_7 : decode bM_add 7 = .ok (.iconst 1, 1) := by decide +kernel
theorem dM_add_8 : decode bM_add 8 = .ok (.iload_n 2, 1) := by decide +kernel
theorem dM_add_9 : decode bM_add 9 = .ok (.invokevirtual 54, 3) := by decide +kernel
theorem dM_add_12 : decode bM_add 12 = .ok (.aload_n 0, 1) := by decide +kernel
theorem dM_add_13 : decode bM_add 13 = .ok (.iconst 2, 1) := by decide +kernel
theorem dM_add_14 : decode bM_add 14 = .ok (.iload_n 3, 1) := by decide +kernel
theorem dM_add_15 : decode bM_add 15 = .ok (.invokevirtual 54, 3) := by decide +kernel
theorem dM_add_18 : decode bM_add 18 = .ok (.aload_n 0, 1) := by decide +kernel
theorem dM_add_19 : decode bM_add 19 = .ok (.iconst 3, 1) := by decide +kernel
theorem dM_add_20 : decode bM_add 20 = .ok (.iload 4, 2) := by decide +kernel
theorem dM_add_22 : decode bM_add 22 = .ok (.invokevirtual 54, 3) := by decide +kernel
theorem dM_add_25 : decode bM_add 25 = .ok (.aload_n 0, 1) := by decide +kernel
theorem dM_add_26 : decode bM_add 26 = .ok (.iconst 4, 1) := by decide +kernel
theorem dM_add_27 : decode bM_add 27 = .ok (.iload 5, 2) := by decide +kernel
theorem dM_add_29 : decode bM_add 29 = .ok (.invokevirtual 54, 3) := by decide +kernel
theorem dM_add_32 : decode bM_add 32 = .ok (.aload_n 0, 1) := by decide +kernel
theorem dM_add_33 : decode bM_add 33 = .ok (.iconst 5, 1) := by decide +kernel
theorem dM_add_34 : decode bM_add 34 = .ok (.iload 6, 2) := by decide +kernel
theorem dM_add_36 : decode bM_add 36 = .ok (.invokevirtual 54, 3) := by decide +kernel
theorem dM_add_39 : decode bM_add 39 = .ok (.aload_n 0, 1) := by decide +kernel
theorem dM_add_40 : decode bM_add 40 = .ok (.getfield 13, 3) := by decide +kernel
theorem dM_add_43 : decode bM_add 43 = .ok (.aload_n 0, 1) := by decide +kernel
theorem dM_add_44 : decode bM_add 44 = .ok (.getfield 27, 3) := by decide +kernel
theorem dM_add_47 : decode bM_add 47 = .ok (.aload_n 0, 1) := by decide +kernel
theorem dM_add_48 : decode bM_add 48 = .ok (.aload_n 0, 1) := by decide +kernel
theorem dM_add_49 : decode bM_add 49 = .ok (.getfield 27, 3) := by decide +kernel
theorem dM_add_52 : decode bM_add 52 = .ok (.aload_n 0, 1) := by decide +kernel
theorem dM_add_53 : decode bM_add 53 = .ok (.aload_n 0, 1) := by decide +kernel
theorem dM_add_54 : decode bM_add 54 = .ok (.getfield 27, 3) := by decide +kernel
theorem dM_add_57 : decode bM_add 57 = .ok (.invokevirtual 58, 3) := by decide +kernel
theorem dM_add_60 : decode bM_add 60 = .ok (.invokevirtual 61, 3) := by decide +kernel
theorem dM_add_63 : decode bM_add 63 = .ok (.lastore, 1) := by decide +kernel
theorem dM_add_64 : decode bM_add 64 = .ok (.aload_n 0, 1) := by decide +kernel
theorem dM_add_65 : decode bM_add 65 = .ok (.aload_n 0, 1) := by decide +kernel
theorem dM_add_66 : decode bM_add 66 = .ok (.getfield 27, 3) := by decide +kernel
theorem dM_add_69 : decode bM_add 69 = .ok (.iconst 1, 1) := by decide +kernel
theorem dM_add_70 : decode bM_add 70 = .ok (.iadd, 1) := by decide +kernel
theorem dM_add_71 : decode bM_add 71 = .ok (.putfield 27, 3) := by decide +kernel
theorem dM_add_74 : decode bM_add 74 = .ok (.aload_n 0, 1) := by decide +kernel
theorem dM_add_75 : decode bM_add 75 = .ok (.getfield 27, 3) := by decide +kernel
theorem dM_add_78 : decode bM_add 78 = .ok (.iconst 1, 1) := by decide +kernel
theorem dM_add_79 : decode bM_add 79 = .ok (.isub, 1) := by decide +kernel
theorem dM_add_80 : decode bM_add 80 = .ok (.ireturn, 1) := by decide +kernel
theorem dM_post_0 : decode bM_post 0 = .ok (.aload_n 0, 1) := by decide +kernel
theorem dM_post_1 : decode bM_post 1 = .ok (.aload_n 0, 1) := by decide +kernel
theorem dM_post_2 : decode bM_post 2 = .ok (.getfield 65, 3) := by decide +kernel
theorem dM_post_5 : decode bM_post 5 = .ok (.ifCond .eq 7, 3) := by decide +kernel
theorem dM_post_8 : decode bM_post 8 = .ok (.iconst 1, 1) := by decide +kernel
theorem dM_post_9 : decode bM_post 9 = .ok (.goto 4, 3) := by decide +kernel
theorem dM_post_12 : decode bM_post 12 = .ok (.iconst 0, 1) := by decide +kernel
theorem dM_post_13 : decode bM_post 13 = .ok (.putfield 23, 3) := by decide +kernel
theorem dM_post_16 : decode bM_post 16 = .ok (.aload_n 0, 1) := by decide +kernel
theorem dM_post_17 : decode bM_post 17 = .ok (.getfield 23, 3) := by decide +kernel
theorem dM_post_20 : decode bM_post 20 = .ok (.ifCond .ne 92, 3) := by decide +kernel
theorem dM_post_23 : decode bM_post 23 = .ok (.iload_n 1, 1) := by decide +kernel
theorem dM_post_24 : decode bM_post 24 = .ok (.invokestatic 69, 3) := by decide +kernel
theorem dM_post_27 : decode bM_post 27 = .ok (.ifCond .eq 31, 3) := by decide +kernel
theorem dM_post_30 : decode bM_post 30 = .ok (.iload_n 2, 1) := by decide +kernel
theorem dM_post_31 : decode bM_post 31 = .ok (.invokestatic 69, 3) := by decide +kernel
theorem dM_post_34 : decode bM_post 34 = .ok (.ifCond .eq 24, 3) := by decide +kernel
theorem dM_post_37 : decode bM_post 37 = .ok (.iload_n 1, 1) := by decide +kernel
theorem dM_post_38 : decode bM_post 38 = .ok (.iload_n 2, 1) := by decide +kernel
theorem dM_post_39 : decode bM_post 39 = .ok (.if_icmp .eq 19, 3) := by decide +kernel
theorem dM_post_42 : decode bM_post 42 = .ok (.iload_n 3, 1) := by decide +kernel
theorem dM_post_43 : decode bM_post 43 = .ok (.ifCond .le 15, 3) := by decide +kernel
theorem dM_post_46 : decode bM_post 46 = .ok (.iload 4, 2) := by decide +kernel
theorem dM_post_48 : decode bM_post 48 = .ok (.invokestatic 73, 3) := by decide +kernel
theorem dM_post_51 : decode bM_post 51 = .ok (.ifCond .eq 7, 3) := by decide +kernel
theorem dM_post_54 : decode bM_post 54 = .ok (.iconst 1, 1) := by decide +kernel
theorem dM_post_55 : decode bM_post 55 = .ok (.goto 4, 3) := by decide +kernel
theorem dM_post_58 : decode bM_post 58 = .ok (.iconst 0, 1) := by decide +kernel
theorem dM_post_59 : decode bM_post 59 = .ok (.istore 5, 2) := by decide +kernel
theorem dM_post_61 : decode bM_post 61 = .ok (.aload_n 0, 1) := by decide +kernel
theorem dM_post_62 : decode bM_post 62 = .ok (.iload 5, 2) := by decide +kernel
theorem dM_post_64 : decode bM_post 64 = .ok (.ifCond .ne 7, 3) := by decide +kernel
theorem dM_post_67 : decode bM_post 67 = .ok (.iconst 2, 1) := by decide +kernel
theorem dM_post_68 : decode bM_post 68 = .ok (.goto 41, 3) := by decide +kernel
theorem dM_post_71 : decode bM_post 71 = .ok (.aload_n 0, 1) := by decide +kernel
theorem dM_post_72 : decode bM_post 72 = .ok (.getfield 27, 3) := by decide +kernel
theorem dM_post_75 : decode bM_post 75 = .ok (.bipush 64, 2) := by decide +kernel
theorem dM_post_77 : decode bM_post 77 = .ok (.if_icmp .ne 7, 3) := by decide +kernel
theorem dM_post_80 : decode bM_post 80 = .ok (.iconst 3, 1) := by decide +kernel
theorem dM_post_81 : decode bM_post 81 = .ok (.goto 28, 3) := by decide +kernel
theorem dM_post_84 : decode bM_post 84 = .ok (.aload_n 0, 1) := by decide +kernel
theorem dM_post_85 : decode bM_post 85 = .ok (.iload_n 1, 1) := by decide +kernel
theorem dM_post_86 : decode bM_post 86 = .ok (.iload_n 3, 1) := by decide +kernel
theorem dM_post_87 : decode bM_post 87 = .ok (.i2l, 1) := by decide +kernel
theorem dM_post_88 : decode bM_post 88 = .ok (.invokevirtual 76, 3) := by decide +kernel
theorem dM_post_91 : decode bM_post 91 = .ok (.ifCond .ne 13, 3) := by decide +kernel
theorem dM_post_94 : decode bM_post 94 = .ok (.aload_n 0, 1) := by decide +kernel
theorem dM_post_95 : decode bM_post 95 = .ok (.iload_n 2, 1) := by decide +kernel
theorem dM_post_96 : decode bM_post 96 = .ok (.iload_n 3, 1) := by decide +kernel
theorem dM_post_97 : decode bM_post 97 = .ok (.i2l, 1) := by decide +kernel
theorem dM_post_98 : decode bM_post 98 = .ok (.invokevirtual 76, 3) := by decide +kernel
theorem dM_post_101 : decode bM_post 101 = .ok (.ifCond .eq 7, 3) := by decide +kernel
theorem dM_post_104 : decode bM_post 104 = .ok (.iconst 4, 1) := by decide +kernel
theorem dM_post_105 : decode bM_post 105 = .ok (.goto 4, 3) := by decide +kernel
theorem dM_post_108 : decode bM_post 108 = .ok (.iconst 0, 1) := by decide +kernel
theorem dM_post_109 : decode bM_post 109 = .ok (.putfield 23, 3) := by decide +kernel
theorem dM_post_112 : decode bM_post 112 = .ok (.aload_n 0, 1) := by decide +kernel
theorem dM_post_113 : decode bM_post 113 = .ok (.getfield 23, 3) := by decide +kernel
theorem dM_post_116 : decode bM_post 116 = .ok (.ifCond .le 5, 3) := by decide +kernel
theorem dM_post_119 : decode bM_post 119 = .ok (.iconst 0, 1) := by decide +kernel
theorem dM_post_120 : decode bM_post 120 = .ok (.ireturn, 1) := by decide +kernel
theorem dM_post_121 : decode bM_post 121 = .ok (.aload_n 0, 1) := by decide +kernel
theorem dM_post_122 : decode bM_post 122 = .ok (.iconst 0, 1) := by decide +kernel
theorem dM_post_123 : decode bM_post 123 = .ok (.aload_n 0, 1) := by decide +kernel
theorem dM_post_124 : decode bM_post 124 = .ok (.getfield 42, 3) := by decide +kernel
theorem dM_post_127 : decode bM_post 127 = .ok (.iload_n 1, 1) := by decide +kernel
theorem dM_post_128 : decode bM_post 128 = .ok (.iload_n 2, 1) := by decide +kernel
theorem dM_post_129 : decode bM_post 129 = .ok (.iload_n 3, 1) := by decide +kernel
theorem dM_post_130 : decode bM_post 130 = .ok (.iload 4, 2) := by decide +kernel
theorem dM_post_132 : decode bM_post 132 = .ok (.invokevirtual 80, 3) := by decide +kernel
theorem dM_post_135 : decode bM_post 135 = .ok (.pop, 1) := by decide +kernel
theorem dM_post_136 : decode bM_post 136 = .ok (.aload_n 0, 1) := by decide +kernel
theorem dM_post_137 : decode bM_post 137 = .ok (.aload_n 0, 1) := by decide +kernel
theorem dM_post_138 : decode bM_post 138 = .ok (.getfield 42, 3) := by decide +kernel
theorem dM_post_141 : decode bM_post 141 = .ok (.iconst 1, 1) := by decide +kernel
theorem dM_post_142 : decode bM_post 142 = .ok (.iadd, 1) := by decide +kernel
theorem dM_post_143 : decode bM_post 143 = .ok (.putfield 42, 3) := by decide +kernel
theorem dM_post_146 : decode bM_post 146 = .ok (.aload_n 0, 1) := by decide +kernel
theorem dM_post_147 : decode bM_post 147 = .ok (.getfield 42, 3) := by decide +kernel
theorem dM_post_150 : decode bM_post 150 = .ok (.iconst 1, 1) := by decide +kernel
theorem dM_post_151 : decode bM_post 151 = .ok (.isub, 1) := by decide +kernel
theorem dM_post_152 : decode bM_post 152 = .ok (.ireturn, 1) := by decide +kernel
theorem dM_living_0 : decode bM_living 0 = .ok (.iload_n 1, 1) := by decide +kernel
theorem dM_living_1 : decode bM_living 1 = .ok (.ifCond .lt 23, 3) := by decide +kernel
theorem dM_living_4 : decode bM_living 4 = .ok (.iload_n 1, 1) := by decide +kernel
theorem dM_living_5 : decode bM_living 5 = .ok (.aload_n 0, 1) := by decide +kernel
theorem dM_living_6 : decode bM_living 6 = .ok (.getfield 42, 3) := by decide +kernel
theorem dM_living_9 : decode bM_living 9 = .ok (.if_icmp .ge 15, 3) := by decide +kernel
theorem dM_living_12 : decode bM_living 12 = .ok (.aload_n 0, 1) := by decide +kernel
theorem dM_living_13 : decode bM_living 13 = .ok (.iload_n 1, 1) := by decide +kernel
theorem dM_living_14 : decode bM_living 14 = .ok (.aload_n 0, 1) := by decide +kernel
theorem dM_living_15 : decode bM_living 15 = .ok (.getfield 27, 3) := by decide +kernel
theorem dM_living_18 : decode bM_living 18 = .ok (.invokevirtual 45, 3) := by decide +kernel
theorem dM_living_21 : decode bM_living 21 = .ok (.goto 4, 3) := by decide +kernel
theorem dM_living_24 : decode bM_living 24 = .ok (.iconst (-1), 1) := by decide +kernel
theorem dM_living_25 : decode bM_living 25 = .ok (.istore_n 2, 1) := by decide +kernel
theorem dM_living_26 : decode bM_living 26 = .ok (.iload_n 2, 1) := by decide +kernel
theorem dM_living_27 : decode bM_living 27 = .ok (.ifCond .lt 17, 3) := by decide +kernel
theorem dM_living_30 : decode bM_living 30 = .ok (.aload_n 0, 1) := by decide +kernel
theorem dM_living_31 : decode bM_living 31 = .ok (.iload_n 2, 1) := by decide +kernel
theorem dM_living_32 : decode bM_living 32 = .ok (.iconst 0, 1) := by decide +kernel
theorem dM_living_33 : decode bM_living 33 = .ok (.invokevirtual 30, 3) := by decide +kernel
theorem dM_living_36 : decode bM_living 36 = .ok (.iconst 2, 1) := by decide +kernel
theorem dM_living_37 : decode bM_living 37 = .ok (.if_icmp .ne 7, 3) := by decide +kernel
theorem dM_living_40 : decode bM_living 40 = .ok (.iconst (-1), 1) := by decide +kernel
theorem dM_living_41 : decode bM_living 41 = .ok (.goto 4, 3) := by decide +kernel
theorem dM_living_44 : decode bM_living 44 = .ok (.iload_n 2, 1) := by decide +kernel
theorem dM_living_45 : decode bM_living 45 = .ok (.ireturn, 1) := by decide +kernel
theorem dM_correct_0 : decode bM_correct 0 = .ok (.aload_n 0, 1) := by decide +kernel
theorem dM_correct_1 : decode bM_correct 1 = .ok (.aload_n 0, 1) := by decide +kernel
theorem dM_correct_2 : decode bM_correct 2 = .ok (.getfield 65, 3) := by decide +kernel
theorem dM_correct_5 : decode bM_correct 5 = .ok (.ifCond .eq 7, 3) := by decide +kernel
theorem dM_correct_8 : decode bM_correct 8 = .ok (.iconst 1, 1) := by decide +kernel
theorem dM_correct_9 : decode bM_correct 9 = .ok (.goto 38, 3) := by decide +kernel
theorem dM_correct_12 : decode bM_correct 12 = .ok (.aload_n 0, 1) := by decide +kernel
theorem dM_correct_13 : decode bM_correct 13 = .ok (.iload_n 1, 1) := by decide +kernel
theorem dM_correct_14 : decode bM_correct 14 = .ok (.invokevirtual 84, 3) := by decide +kernel
theorem dM_correct_17 : decode bM_correct 17 = .ok (.ifCond .ge 7, 3) := by decide +kernel
theorem dM_correct_20 : decode bM_correct 20 = .ok (.iconst 2, 1) := by decide +kernel
theorem dM_correct_21 : decode bM_correct 21 = .ok (.goto 26, 3) := by decide +kernel
theorem dM_correct_24 : decode bM_correct 24 = .ok (.iload_n 2, 1) := by decide +kernel
theorem dM_correct_25 : decode bM_correct 25 = .ok (.iconst 1, 1) := by decide +kernel
theorem dM_correct_26 : decode bM_correct 26 = .ok (.if_icmp .ge 7, 3) := by decide +kernel
theorem dM_correct_29 : decode bM_correct 29 = .ok (.iconst 3, 1) := by decide +kernel
theorem dM_correct_30 : decode bM_correct 30 = .ok (.goto 17, 3) := by decide +kernel
theorem dM_correct_33 : decode bM_correct 33 = .ok (.aload_n 0, 1) := by decide +kernel
theorem dM_correct_34 : decode bM_correct 34 = .ok (.getfield 27, 3) := by decide +kernel
theorem dM_correct_37 : decode bM_correct 37 = .ok (.bipush 64, 2) := by decide +kernel
theorem dM_correct_39 : decode bM_correct 39 = .ok (.if_icmp .ne 7, 3) := by decide +kernel
theorem dM_correct_42 : decode bM_correct 42 = .ok (.iconst 4, 1) := by decide +kernel
theorem dM_correct_43 : decode bM_correct 43 = .ok (.goto 4, 3) := by decide +kernel
theorem dM_correct_46 : decode bM_correct 46 = .ok (.iconst 0, 1) := by decide +kernel
theorem dM_correct_47 : decode bM_correct 47 = .ok (.putfield 23, 3) := by decide +kernel
theorem dM_correct_50 : decode bM_correct 50 = .ok (.aload_n 0, 1) := by decide +kernel
theorem dM_correct_51 : decode bM_correct 51 = .ok (.getfield 23, 3) := by decide +kernel
theorem dM_correct_54 : decode bM_correct 54 = .ok (.ifCond .le 5, 3) := by decide +kernel
theorem dM_correct_57 : decode bM_correct 57 = .ok (.iconst 0, 1) := by decide +kernel
theorem dM_correct_58 : decode bM_correct 58 = .ok (.ireturn, 1) := by decide +kernel
theorem dM_correct_59 : decode bM_correct 59 = .ok (.aload_n 0, 1) := by decide +kernel
theorem dM_correct_60 : decode bM_correct 60 = .ok (.iload_n 1, 1) := by decide +kernel
theorem dM_correct_61 : decode bM_correct 61 = .ok (.invokevirtual 84, 3) := by decide +kernel
theorem dM_correct_64 : decode bM_correct 64 = .ok (.istore_n 3, 1) := by decide +kernel
theorem dM_correct_65 : decode bM_correct 65 = .ok (.iload_n 2, 1) := by decide +kernel
theorem dM_correct_66 : decode bM_correct 66 = .ok (.i2l, 1) := by decide +kernel
theorem dM_correct_67 : decode bM_correct 67 = .ok (.aload_n 0, 1) := by decide +kernel
theorem dM_correct_68 : decode bM_correct 68 = .ok (.iload_n 3, 1) := by decide +kernel
theorem dM_correct_69 : decode bM_correct 69 = .ok (.iconst 4, 1) := by decide +kernel
theorem dM_correct_70 : decode bM_correct 70 = .ok (.invokevirtual 30, 3) := by decide +kernel
theorem dM_correct_73 : decode bM_correct 73 = .ok (.i2l, 1) := by decide +kernel
theorem dM_correct_74 : decode bM_correct 74 = .ok (.lsub, 1) := by decide +kernel
theorem dM_correct_75 : decode bM_correct 75 = .ok (.lstore 4, 2) := by decide +kernel
theorem dM_correct_77 : decode bM_correct 77 = .ok (.aload_n 0, 1) := by decide +kernel
theorem dM_correct_78 : decode bM_correct 78 = .ok (.aload_n 0, 1) := by decide +kernel
theorem dM_correct_79 : decode bM_correct 79 = .ok (.aload_n 0, 1) := by decide +kernel
theorem dM_correct_80 : decode bM_correct 80 = .ok (.iload_n 3, 1) := by decide +kernel
theorem dM_correct_81 : decode bM_correct 81 = .ok (.iconst 2, 1) := by decide +kernel
theorem dM_correct_82 : decode bM_correct 82 = .ok (.invokevirtual 30, 3) := by decide +kernel
theorem dM_correct_85 : decode bM_correct 85 = .ok (.lload 4, 2) := by decide +kernel
theorem dM_correct_87 : decode bM_correct 87 = .ok (.invokevirtual 76, 3) := by decide +kernel
theorem dM_correct_90 : decode bM_correct 90 = .ok (.ifCond .ne 18, 3) := by decide +kernel
theorem dM_correct_93 : decode bM_correct 93 = .ok (.aload_n 0, 1) := by decide +kernel
theorem dM_correct_94 : decode bM_correct 94 = .ok (.aload_n 0, 1) := by decide +kernel
theorem dM_correct_95 : decode bM_correct 95 = .ok (.iload_n 3, 1) := by decide +kernel
theorem dM_correct_96 : decode bM_correct 96 = .ok (.iconst 3, 1) := by decide +kernel
theorem dM_correct_97 : decode bM_correct 97 = .ok (.invokevirtual 30, 3) := by decide +kernel
theorem dM_correct_100 : decode bM_correct 100 = .ok (.lload 4, 2) := by decide +kernel
theorem dM_correct_102 : decode bM_correct 102 = .ok (.invokevirtual 76, 3) := by decide +kernel
theorem dM_correct_105 : decode bM_correct 105 = .ok (.ifCond .eq 7, 3) := by decide +kernel
theorem dM_correct_108 : decode bM_correct 108 = .ok (.iconst 5, 1) := by decide +kernel
theorem dM_correct_109 : decode bM_correct 109 = .ok (.goto 4, 3) := by decide +kernel
theorem dM_correct_112 : decode bM_correct 112 = .ok (.iconst 0, 1) := by decide +kernel
theorem dM_correct_113 : decode bM_correct 113 = .ok (.putfield 23, 3) := by decide +kernel
theorem dM_correct_116 : decode bM_correct 116 = .ok (.aload_n 0, 1) := by decide +kernel
theorem dM_correct_117 : decode bM_correct 117 = .ok (.getfield 23, 3) := by decide +kernel
theorem dM_correct_120 : decode bM_correct 120 = .ok (.ifCond .le 7, 3) := by decide +kernel
theorem dM_correct_123 : decode bM_correct 123 = .ok (.iconst 0, 1) := by decide +kernel
theorem dM_correct_124 : decode bM_correct 124 = .ok (.goto 28, 3) := by decide +kernel
theorem dM_correct_127 : decode bM_correct 127 = .ok (.aload_n 0, 1) := by decide +kernel
theorem dM_correct_128 : decode bM_correct 128 = .ok (.iconst 1, 1) := by decide +kernel
theorem dM_correct_129 : decode bM_correct 129 = .ok (.iload_n 1, 1) := by decide +kernel
theorem dM_correct_130 : decode bM_correct 130 = .ok (.aload_n 0, 1) := by decide +kernel
theorem dM_correct_131 : decode bM_correct 131 = .ok (.iload_n 3, 1) := by decide +kernel
theorem dM_correct_132 : decode bM_correct 132 = .ok (.iconst 2, 1) := by decide +kernel
theorem dM_correct_133 : decode bM_correct 133 = .ok (.invokevirtual 30, 3) := by decide +kernel
theorem dM_correct_136 : decode bM_correct 136 = .ok (.aload_n 0, 1) := by decide +kernel
theorem dM_correct_137 : decode bM_correct 137 = .ok (.iload_n 3, 1) := by decide +kernel
theorem dM_correct_138 : decode bM_correct 138 = .ok (.iconst 3, 1) := by decide +kernel
theorem dM_correct_139 : decode bM_correct 139 = .ok (.invokevirtual 30, 3) := by decide +kernel
theorem dM_correct_142 : decode bM_correct 142 = .ok (.iload_n 2, 1) := by decide +kernel
theorem dM_correct_143 : decode bM_correct 143 = .ok (.aload_n 0, 1) := by decide +kernel
theorem dM_correct_144 : decode bM_correct 144 = .ok (.iload_n 3, 1) := by decide +kernel
theorem dM_correct_145 : decode bM_correct 145 = .ok (.iconst 5, 1) := by decide +kernel
theorem dM_correct_146 : decode bM_correct 146 = .ok (.invokevirtual 30, 3) := by decide +kernel
theorem dM_correct_149 : decode bM_correct 149 = .ok (.invokevirtual 80, 3) := by decide +kernel
theorem dM_correct_152 : decode bM_correct 152 = .ok (.ireturn, 1) := by decide +kernel
theorem dM_annul_0 : decode bM_annul 0 = .ok (.aload_n 0, 1) := by decide +kernel
theorem dM_annul_1 : decode bM_annul 1 = .ok (.aload_n 0, 1) := by decide +kernel
theorem dM_annul_2 : decode bM_annul 2 = .ok (.getfield 65, 3) := by decide +kernel
theorem dM_annul_5 : decode bM_annul 5 = .ok (.ifCond .eq 7, 3) := by decide +kernel
theorem dM_annul_8 : decode bM_annul 8 = .ok (.iconst 1, 1) := by decide +kernel
theorem dM_annul_9 : decode bM_annul 9 = .ok (.goto 29, 3) := by decide +kernel
theorem dM_annul_12 : decode bM_annul 12 = .ok (.aload_n 0, 1) := by decide +kernel
theorem dM_annul_13 : decode bM_annul 13 = .ok (.iload_n 1, 1) := by decide +kernel
theorem dM_annul_14 : decode bM_annul 14 = .ok (.invokevirtual 84, 3) := by decide +kernel
theorem dM_annul_17 : decode bM_annul 17 = .ok (.ifCond .ge 7, 3) := by decide +kernel
theorem dM_annul_20 : decode bM_annul 20 = .ok (.iconst 2, 1) := by decide +kernel
theorem dM_annul_21 : decode bM_annul 21 = .ok (.goto 17, 3) := by decide +kernel
theorem dM_annul_24 : decode bM_annul 24 = .ok (.aload_n 0, 1) := by decide +kernel
theorem dM_annul_25 : decode bM_annul 25 = .ok (.getfield 27, 3) := by decide +kernel
theorem dM_annul_28 : decode bM_annul 28 = .ok (.bipush 64, 2) := by decide +kernel
theorem dM_annul_30 : decode bM_annul 30 = .ok (.if_icmp .ne 7, 3) := by decide +kernel
theorem dM_annul_33 : decode bM_annul 33 = .ok (.iconst 3, 1) := by decide +kernel
theorem dM_annul_34 : decode bM_annul 34 = .ok (.goto 4, 3) := by decide +kernel
theorem dM_annul_37 : decode bM_annul 37 = .ok (.iconst 0, 1) := by decide +kernel
theorem dM_annul_38 : decode bM_annul 38 = .ok (.putfield 23, 3) := by decide +kernel
theorem dM_annul_41 : decode bM_annul 41 = .ok (.aload_n 0, 1) := by decide +kernel
theorem dM_annul_42 : decode bM_annul 42 = .ok (.getfield 23, 3) := by decide +kernel
theorem dM_annul_45 : decode bM_annul 45 = .ok (.ifCond .le 5, 3) := by decide +kernel
theorem dM_annul_48 : decode bM_annul 48 = .ok (.iconst 0, 1) := by decide +kernel
theorem dM_annul_49 : decode bM_annul 49 = .ok (.ireturn, 1) := by decide +kernel
theorem dM_annul_50 : decode bM_annul 50 = .ok (.aload_n 0, 1) := by decide +kernel
theorem dM_annul_51 : decode bM_annul 51 = .ok (.iload_n 1, 1) := by decide +kernel
theorem dM_annul_52 : decode bM_annul 52 = .ok (.invokevirtual 84, 3) := by decide +kernel
theorem dM_annul_55 : decode bM_annul 55 = .ok (.istore_n 2, 1) := by decide +kernel
theorem dM_annul_56 : decode bM_annul 56 = .ok (.aload_n 0, 1) := by decide +kernel
theorem dM_annul_57 : decode bM_annul 57 = .ok (.iconst 2, 1) := by decide +kernel
theorem dM_annul_58 : decode bM_annul 58 = .ok (.iload_n 1, 1) := by decide +kernel
theorem dM_annul_59 : decode bM_annul 59 = .ok (.aload_n 0, 1) := by decide +kernel
theorem dM_annul_60 : decode bM_annul 60 = .ok (.iload_n 2, 1) := by decide +kernel
theorem dM_annul_61 : decode bM_annul 61 = .ok (.iconst 2, 1) := by decide +kernel
theorem dM_annul_62 : decode bM_annul 62 = .ok (.invokevirtual 30, 3) := by decide +kernel
theorem dM_annul_65 : decode bM_annul 65 = .ok (.aload_n 0, 1) := by decide +kernel
theorem dM_annul_66 : decode bM_annul 66 = .ok (.iload_n 2, 1) := by decide +kernel
theorem dM_annul_67 : decode bM_annul 67 = .ok (.iconst 3, 1) := by decide +kernel
theorem dM_annul_68 : decode bM_annul 68 = .ok (.invokevirtual 30, 3) := by decide +kernel
theorem dM_annul_71 : decode bM_annul 71 = .ok (.iconst 0, 1) := by decide +kernel
theorem dM_annul_72 : decode bM_annul 72 = .ok (.aload_n 0, 1) := by decide +kernel
theorem dM_annul_73 : decode bM_annul 73 = .ok (.iload_n 2, 1) := by decide +kernel
theorem dM_annul_74 : decode bM_annul 74 = .ok (.iconst 5, 1) := by decide +kernel
theorem dM_annul_75 : decode bM_annul 75 = .ok (.invokevirtual 30, 3) := by decide +kernel
theorem dM_annul_78 : decode bM_annul 78 = .ok (.invokevirtual 80, 3) := by decide +kernel
theorem dM_annul_81 : decode bM_annul 81 = .ok (.ireturn, 1) := by decide +kernel
theorem dM_balanceAt_0 : decode bM_balanceAt 0 = .ok (.iconst 0, 1) := by decide +kernel
theorem dM_balanceAt_1 : decode bM_balanceAt 1 = .ok (.istore 4, 2) := by decide +kernel
theorem dM_balanceAt_3 : decode bM_balanceAt 3 = .ok (.iconst 0, 1) := by decide +kernel
theorem dM_balanceAt_4 : decode bM_balanceAt 4 = .ok (.istore 5, 2) := by decide +kernel
theorem dM_balanceAt_6 : decode bM_balanceAt 6 = .ok (.iload 5, 2) := by decide +kernel
theorem dM_balanceAt_8 : decode bM_balanceAt 8 = .ok (.aload_n 0, 1) := by decide +kernel
theorem dM_balanceAt_9 : decode bM_balanceAt 9 = .ok (.getfield 42, 3) := by decide +kernel
theorem dM_balanceAt_12 : decode bM_balanceAt 12 = .ok (.if_icmp .ge 85, 3) := by decide +kernel
theorem dM_balanceAt_15 : decode bM_balanceAt 15 = .ok (.aload_n 0, 1) := by decide +kernel
theorem dM_balanceAt_16 : decode bM_balanceAt 16 = .ok (.iload 5, 2) := by decide +kernel
theorem dM_balanceAt_18 : decode bM_balanceAt 18 = .ok (.iload_n 3, 1) := by decide +kernel
theorem dM_balanceAt_19 : decode bM_balanceAt 19 = .ok (.invokevirtual 45, 3) := by decide +kernel
theorem dM_balanceAt_22 : decode bM_balanceAt 22 = .ok (.istore 6, 2) := by decide +kernel
theorem dM_balanceAt_24 : decode bM_balanceAt 24 = .ok (.iload 6, 2) := by decide +kernel
theorem dM_balanceAt_26 : decode bM_balanceAt 26 = .ok (.ifCond .lt 65, 3) := by decide +kernel
theorem dM_balanceAt_29 : decode bM_balanceAt 29 = .ok (.aload_n 0, 1) := by decide +kernel
theorem dM_balanceAt_30 : decode bM_balanceAt 30 = .ok (.iload 6, 2) := by decide +kernel
theorem dM_balanceAt_32 : decode bM_balanceAt 32 = .ok (.iconst 5, 1) := by decide +kernel
theorem dM_balanceAt_33 : decode bM_balanceAt 33 = .ok (.invokevirtual 30, 3) := by decide +kernel
theorem dM_balanceAt_36 : decode bM_balanceAt 36 = .ok (.iload_n 2, 1) := by decide +kernel
theorem dM_balanceAt_37 : decode bM_balanceAt 37 = .ok (.if_icmp .gt 54, 3) := by decide +kernel
theorem dM_balanceAt_40 : decode bM_balanceAt 40 = .ok (.aload_n 0, 1) := by decide +kernel
theorem dM_balanceAt_41 : decode bM_balanceAt 41 = .ok (.iload 6, 2) := by decide +kernel
theorem dM_balanceAt_43 : decode bM_balanceAt 43 = .ok (.iconst 4, 1) := by decide +kernel
theorem dM_balanceAt_44 : decode bM_balanceAt 44 = .ok (.invokevirtual 30, 3) := by decide +kernel
theorem dM_balanceAt_47 : decode bM_balanceAt 47 = .ok (.istore 7, 2) := by decide +kernel
theorem dM_balanceAt_49 : decode bM_balanceAt 49 = .ok (.aload_n 0, 1) := by decide +kernel
theorem dM_balanceAt_50 : decode bM_balanceAt 50 = .ok (.iload 6, 2) := by decide +kernel
theorem dM_balanceAt_52 : decode bM_balanceAt 52 = .ok (.iconst 2, 1) := by decide +kernel
theorem dM_balanceAt_53 : decode bM_balanceAt 53 = .ok (.invokevirtual 30, 3) := by decide +kernel
theorem dM_balanceAt_56 : decode bM_balanceAt 56 = .ok (.iload_n 1, 1) := by decide +kernel
theorem dM_balanceAt_57 : decode bM_balanceAt 57 = .ok (.if_icmp .ne 11, 3) := by decide +kernel
theorem dM_balanceAt_60 : decode bM_balanceAt 60 = .ok (.iload 4, 2) := by decide +kernel
theorem dM_balanceAt_62 : decode bM_balanceAt 62 = .ok (.iload 7, 2) := by decide +kernel
theorem dM_balanceAt_64 : decode bM_balanceAt 64 = .ok (.iadd, 1) := by decide +kernel
theorem dM_balanceAt_65 : decode bM_balanceAt 65 = .ok (.goto 24, 3) := by decide +kernel
theorem dM_balanceAt_68 : decode bM_balanceAt 68 = .ok (.aload_n 0, 1) := by decide +kernel
theorem dM_balanceAt_69 : decode bM_balanceAt 69 = .ok (.iload 6, 2) := by decide +kernel
theorem dM_balanceAt_71 : decode bM_balanceAt 71 = .ok (.iconst 3, 1) := by decide +kernel
theorem dM_balanceAt_72 : decode bM_balanceAt 72 = .ok (.invokevirtual 30, 3) := by decide +kernel
theorem dM_balanceAt_75 : decode bM_balanceAt 75 = .ok (.iload_n 1, 1) := by decide +kernel
theorem dM_balanceAt_76 : decode bM_balanceAt 76 = .ok (.if_icmp .ne 11, 3) := by decide +kernel
theorem dM_balanceAt_79 : decode bM_balanceAt 79 = .ok (.iload 4, 2) := by decide +kernel
theorem dM_balanceAt_81 : decode bM_balanceAt 81 = .ok (.iload 7, 2) := by decide +kernel
theorem dM_balanceAt_83 : decode bM_balanceAt 83 = .ok (.isub, 1) := by decide +kernel
theorem dM_balanceAt_84 : decode bM_balanceAt 84 = .ok (.goto 5, 3) := by decide +kernel
theorem dM_balanceAt_87 : decode bM_balanceAt 87 = .ok (.iload 4, 2) := by decide +kernel
theorem dM_balanceAt_89 : decode bM_balanceAt 89 = .ok (.istore 4, 2) := by decide +kernel
theorem dM_balanceAt_91 : decode bM_balanceAt 91 = .ok (.iinc 5 1, 3) := by decide +kernel
theorem dM_balanceAt_94 : decode bM_balanceAt 94 = .ok (.goto (-88), 3) := by decide +kernel
theorem dM_balanceAt_97 : decode bM_balanceAt 97 = .ok (.iload 4, 2) := by decide +kernel
theorem dM_balanceAt_99 : decode bM_balanceAt 99 = .ok (.ireturn, 1) := by decide +kernel
theorem dM_balance_0 : decode bM_balance 0 = .ok (.aload_n 0, 1) := by decide +kernel
theorem dM_balance_1 : decode bM_balance 1 = .ok (.aload_n 0, 1) := by decide +kernel
theorem dM_balance_2 : decode bM_balance 2 = .ok (.getfield 65, 3) := by decide +kernel
theorem dM_balance_5 : decode bM_balance 5 = .ok (.ifCond .eq 7, 3) := by decide +kernel
theorem dM_balance_8 : decode bM_balance 8 = .ok (.iconst 1, 1) := by decide +kernel
theorem dM_balance_9 : decode bM_balance 9 = .ok (.goto 30, 3) := by decide +kernel
theorem dM_balance_12 : decode bM_balance 12 = .ok (.iload_n 1, 1) := by decide +kernel
theorem dM_balance_13 : decode bM_balance 13 = .ok (.invokestatic 69, 3) := by decide +kernel
theorem dM_balance_16 : decode bM_balance 16 = .ok (.ifCond .eq 22, 3) := by decide +kernel
theorem dM_balance_19 : decode bM_balance 19 = .ok (.iload_n 2, 1) := by decide +kernel
theorem dM_balance_20 : decode bM_balance 20 = .ok (.invokestatic 73, 3) := by decide +kernel
theorem dM_balance_23 : decode bM_balance 23 = .ok (.ifCond .eq 15, 3) := by decide +kernel
theorem dM_balance_26 : decode bM_balance 26 = .ok (.aload_n 0, 1) := by decide +kernel
theorem dM_balance_27 : decode bM_balance 27 = .ok (.iload_n 3, 1) := by decide +kernel
theorem dM_balance_28 : decode bM_balance 28 = .ok (.invokevirtual 88, 3) := by decide +kernel
theorem dM_balance_31 : decode bM_balance 31 = .ok (.ifCond .eq 7, 3) := by decide +kernel
theorem dM_balance_34 : decode bM_balance 34 = .ok (.iconst 0, 1) := by decide +kernel
theorem dM_balance_35 : decode bM_balance 35 = .ok (.goto 4, 3) := by decide +kernel
theorem dM_balance_38 : decode bM_balance 38 = .ok (.iconst 2, 1) := by decide +kernel
theorem dM_balance_39 : decode bM_balance 39 = .ok (.putfield 23, 3) := by decide +kernel
theorem dM_balance_42 : decode bM_balance 42 = .ok (.aload_n 0, 1) := by decide +kernel
theorem dM_balance_43 : decode bM_balance 43 = .ok (.getfield 23, 3) := by decide +kernel
theorem dM_balance_46 : decode bM_balance 46 = .ok (.ifCond .le 7, 3) := by decide +kernel
theorem dM_balance_49 : decode bM_balance 49 = .ok (.iconst 0, 1) := by decide +kernel
theorem dM_balance_50 : decode bM_balance 50 = .ok (.goto 10, 3) := by decide +kernel
theorem dM_balance_53 : decode bM_balance 53 = .ok (.aload_n 0, 1) := by decide +kernel
theorem dM_balance_54 : decode bM_balance 54 = .ok (.iload_n 1, 1) := by decide +kernel
theorem dM_balance_55 : decode bM_balance 55 = .ok (.iload_n 2, 1) := by decide +kernel
theorem dM_balance_56 : decode bM_balance 56 = .ok (.iload_n 3, 1) := by decide +kernel
theorem dM_balance_57 : decode bM_balance 57 = .ok (.invokevirtual 91, 3) := by decide +kernel
theorem dM_balance_60 : decode bM_balance 60 = .ok (.ireturn, 1) := by decide +kernel
theorem dM_trial_0 : decode bM_trial 0 = .ok (.aload_n 0, 1) := by decide +kernel
theorem dM_trial_1 : decode bM_trial 1 = .ok (.aload_n 0, 1) := by decide +kernel
theorem dM_trial_2 : decode bM_trial 2 = .ok (.getfield 65, 3) := by decide +kernel
theorem dM_trial_5 : decode bM_trial 5 = .ok (.ifCond .eq 7, 3) := by decide +kernel
theorem dM_trial_8 : decode bM_trial 8 = .ok (.iconst 1, 1) := by decide +kernel
theorem dM_trial_9 : decode bM_trial 9 = .ok (.goto 23, 3) := by decide +kernel
theorem dM_trial_12 : decode bM_trial 12 = .ok (.iload_n 1, 1) := by decide +kernel
theorem dM_trial_13 : decode bM_trial 13 = .ok (.invokestatic 73, 3) := by decide +kernel
theorem dM_trial_16 : decode bM_trial 16 = .ok (.ifCond .eq 15, 3) := by decide +kernel
theorem dM_trial_19 : decode bM_trial 19 = .ok (.aload_n 0, 1) := by decide +kernel
theorem dM_trial_20 : decode bM_trial 20 = .ok (.iload_n 2, 1) := by decide +kernel
theorem dM_trial_21 : decode bM_trial 21 = .ok (.invokevirtual 88, 3) := by decide +kernel
theorem dM_trial_24 : decode bM_trial 24 = .ok (.ifCond .eq 7, 3) := by decide +kernel
theorem dM_trial_27 : decode bM_trial 27 = .ok (.iconst 0, 1) := by decide +kernel
theorem dM_trial_28 : decode bM_trial 28 = .ok (.goto 4, 3) := by decide +kernel
theorem dM_trial_31 : decode bM_trial 31 = .ok (.iconst 2, 1) := by decide +kernel
theorem dM_trial_32 : decode bM_trial 32 = .ok (.putfield 23, 3) := by decide +kernel
theorem dM_trial_35 : decode bM_trial 35 = .ok (.iconst 0, 1) := by decide +kernel
theorem dM_trial_36 : decode bM_trial 36 = .ok (.istore_n 3, 1) := by decide +kernel
theorem dM_trial_37 : decode bM_trial 37 = .ok (.iconst 0, 1) := by decide +kernel
theorem dM_trial_38 : decode bM_trial 38 = .ok (.istore 4, 2) := by decide +kernel
theorem dM_trial_40 : decode bM_trial 40 = .ok (.iload 4, 2) := by decide +kernel
theorem dM_trial_42 : decode bM_trial 42 = .ok (.bipush 16, 2) := by decide +kernel
theorem dM_trial_44 : decode bM_trial 44 = .ok (.if_icmp .ge 27, 3) := by decide +kernel
theorem dM_trial_47 : decode bM_trial 47 = .ok (.aload_n 0, 1) := by decide +kernel
theorem dM_trial_48 : decode bM_trial 48 = .ok (.getfield 23, 3) := by decide +kernel
theorem dM_trial_51 : decode bM_trial 51 = .ok (.ifCond .ne 20, 3) := by decide +kernel
theorem dM_trial_54 : decode bM_trial 54 = .ok (.iload_n 3, 1) := by decide +kernel
theorem dM_trial_55 : decode bM_trial 55 = .ok (.aload_n 0, 1) := by decide +kernel
theorem dM_trial_56 : decode bM_trial 56 = .ok (.iload 4, 2) := by decide +kernel
theorem dM_trial_58 : decode bM_trial 58 = .ok (.iload_n 1, 1) := by decide +kernel
theorem dM_trial_59 : decode bM_trial 59 = .ok (.iload_n 2, 1) := by decide +kernel
theorem dM_trial_60 : decode bM_trial 60 = .ok (.invokevirtual 91, 3) := by decide +kernel
theorem dM_trial_63 : decode bM_trial 63 = .ok (.iadd, 1) := by decide +kernel
theorem dM_trial_64 : decode bM_trial 64 = .ok (.istore_n 3, 1) := by decide +kernel
theorem dM_trial_65 : decode bM_trial 65 = .ok (.iinc 4 1, 3) := by decide +kernel
theorem dM_trial_68 : decode bM_trial 68 = .ok (.goto (-28), 3) := by decide +kernel
theorem dM_trial_71 : decode bM_trial 71 = .ok (.iload_n 3, 1) := by decide +kernel
theorem dM_trial_72 : decode bM_trial 72 = .ok (.ireturn, 1) := by decide +kernel
theorem dM_turnover_0 : decode bM_turnover 0 = .ok (.aload_n 0, 1) := by decide +kernel
theorem dM_turnover_1 : decode bM_turnover 1 = .ok (.aload_n 0, 1) := by decide +kernel
theorem dM_turnover_2 : decode bM_turnover 2 = .ok (.getfield 65, 3) := by decide +kernel
theorem dM_turnover_5 : decode bM_turnover 5 = .ok (.ifCond .eq 7, 3) := by decide +kernel
theorem dM_turnover_8 : decode bM_turnover 8 = .ok (.iconst 1, 1) := by decide +kernel
theorem dM_turnover_9 : decode bM_turnover 9 = .ok (.goto 15, 3) := by decide +kernel
theorem dM_turnover_12 : decode bM_turnover 12 = .ok (.iload_n 1, 1) := by decide +kernel
theorem dM_turnover_13 : decode bM_turnover 13 = .ok (.invokestatic 69, 3) := by decide +kernel
theorem dM_turnover_16 : decode bM_turnover 16 = .ok (.ifCond .eq 7, 3) := by decide +kernel
theorem dM_turnover_19 : decode bM_turnover 19 = .ok (.iconst 0, 1) := by decide +kernel
theorem dM_turnover_20 : decode bM_turnover 20 = .ok (.goto 4, 3) := by decide +kernel
theorem dM_turnover_23 : decode bM_turnover 23 = .ok (.iconst 2, 1) := by decide +kernel
theorem dM_turnover_24 : decode bM_turnover 24 = .ok (.putfield 23, 3) := by decide +kernel
theorem dM_turnover_27 : decode bM_turnover 27 = .ok (.aload_n 0, 1) := by decide +kernel
theorem dM_turnover_28 : decode bM_turnover 28 = .ok (.getfield 23, 3) := by decide +kernel
theorem dM_turnover_31 : decode bM_turnover 31 = .ok (.ifCond .le 7, 3) := by decide +kernel
theorem dM_turnover_34 : decode bM_turnover 34 = .ok (.iconst 0, 1) := by decide +kernel
theorem dM_turnover_35 : decode bM_turnover 35 = .ok (.goto 9, 3) := by decide +kernel
theorem dM_turnover_38 : decode bM_turnover 38 = .ok (.aload_n 0, 1) := by decide +kernel
theorem dM_turnover_39 : decode bM_turnover 39 = .ok (.iload_n 1, 1) := by decide +kernel
theorem dM_turnover_40 : decode bM_turnover 40 = .ok (.invokevirtual 48, 3) := by decide +kernel
theorem dM_turnover_43 : decode bM_turnover 43 = .ok (.l2i, 1) := by decide +kernel
theorem dM_turnover_44 : decode bM_turnover 44 = .ok (.ireturn, 1) := by decide +kernel
theorem dM_belongs_0 : decode bM_belongs 0 = .ok (.iload_n 1, 1) := by decide +kernel
theorem dM_belongs_1 : decode bM_belongs 1 = .ok (.ifCond .lt 37, 3) := by decide +kernel
theorem dM_belongs_4 : decode bM_belongs 4 = .ok (.aload_n 0, 1) := by decide +kernel
theorem dM_belongs_5 : decode bM_belongs 5 = .ok (.iload_n 1, 1) := by decide +kernel
theorem dM_belongs_6 : decode bM_belongs 6 = .ok (.iconst 0, 1) := by decide +kernel
theorem dM_belongs_7 : decode bM_belongs 7 = .ok (.invokevirtual 30, 3) := by decide +kernel
theorem dM_belongs_10 : decode bM_belongs 10 = .ok (.iconst 2, 1) := by decide +kernel
theorem dM_belongs_11 : decode bM_belongs 11 = .ok (.if_icmp .eq 27, 3) := by decide +kernel
theorem dM_belongs_14 : decode bM_belongs 14 = .ok (.aload_n 0, 1) := by decide +kernel
theorem dM_belongs_15 : decode bM_belongs 15 = .ok (.iload_n 1, 1) := by decide +kernel
theorem dM_belongs_16 : decode bM_belongs 16 = .ok (.iconst 2, 1) := by decide +kernel
theorem dM_belongs_17 : decode bM_belongs 17 = .ok (.invokevirtual 30, 3) := by decide +kernel
theorem dM_belongs_20 : decode bM_belongs 20 = .ok (.iload_n 2, 1) := by decide +kernel
theorem dM_belongs_21 : decode bM_belongs 21 = .ok (.if_icmp .eq 13, 3) := by decide +kernel
theorem dM_belongs_24 : decode bM_belongs 24 = .ok (.aload_n 0, 1) := by decide +kernel
theorem dM_belongs_25 : decode bM_belongs 25 = .ok (.iload_n 1, 1) := by decide +kernel
theorem dM_belongs_26 : decode bM_belongs 26 = .ok (.iconst 3, 1) := by decide +kernel
theorem dM_belongs_27 : decode bM_belongs 27 = .ok (.invokevirtual 30, 3) := by decide +kernel
theorem dM_belongs_30 : decode bM_belongs 30 = .ok (.iload_n 2, 1) := by decide +kernel
theorem dM_belongs_31 : decode bM_belongs 31 = .ok (.if_icmp .ne 7, 3) := by decide +kernel
theorem dM_belongs_34 : decode bM_belongs 34 = .ok (.iconst 1, 1) := by decide +kernel
theorem dM_belongs_35 : decode bM_belongs 35 = .ok (.goto 4, 3) := by decide +kernel
theorem dM_belongs_38 : decode bM_belongs 38 = .ok (.iconst 0, 1) := by decide +kernel
theorem dM_belongs_39 : decode bM_belongs 39 = .ok (.ireturn, 1) := by decide +kernel
theorem dM_open_0 : decode bM_open 0 = .ok (.aload_n 0, 1) := by decide +kernel
theorem dM_open_1 : decode bM_open 1 = .ok (.aload_n 0, 1) := by decide +kernel
theorem dM_open_2 : decode bM_open 2 = .ok (.getfield 65, 3) := by decide +kernel
theorem dM_open_5 : decode bM_open 5 = .ok (.ifCond .eq 7, 3) := by decide +kernel
theorem dM_open_8 : decode bM_open 8 = .ok (.iconst 1, 1) := by decide +kernel
theorem dM_open_9 : decode bM_open 9 = .ok (.goto 38, 3) := by decide +kernel
theorem dM_open_12 : decode bM_open 12 = .ok (.iload_n 1, 1) := by decide +kernel
theorem dM_open_13 : decode bM_open 13 = .ok (.invokestatic 69, 3) := by decide +kernel
theorem dM_open_16 : decode bM_open 16 = .ok (.ifCond .eq 30, 3) := by decide +kernel
theorem dM_open_19 : decode bM_open 19 = .ok (.iload_n 2, 1) := by decide +kernel
theorem dM_open_20 : decode bM_open 20 = .ok (.invokestatic 73, 3) := by decide +kernel
theorem dM_open_23 : decode bM_open 23 = .ok (.ifCond .eq 23, 3) := by decide +kernel
theorem dM_open_26 : decode bM_open 26 = .ok (.iload_n 3, 1) := by decide +kernel
theorem dM_open_27 : decode bM_open 27 = .ok (.invokestatic 73, 3) := by decide +kernel
theorem dM_open_30 : decode bM_open 30 = .ok (.ifCond .eq 16, 3) := by decide +kernel
theorem dM_open_33 : decode bM_open 33 = .ok (.aload_n 0, 1) := by decide +kernel
theorem dM_open_34 : decode bM_open 34 = .ok (.iload 4, 2) := by decide +kernel
theorem dM_open_36 : decode bM_open 36 = .ok (.invokevirtual 88, 3) := by decide +kernel
theorem dM_open_39 : decode bM_open 39 = .ok (.ifCond .eq 7, 3) := by decide +kernel
theorem dM_open_42 : decode bM_open 42 = .ok (.iconst 0, 1) := by decide +kernel
theorem dM_open_43 : decode bM_open 43 = .ok (.goto 4, 3) := by decide +kernel
theorem dM_open_46 : decode bM_open 46 = .ok (.iconst 2, 1) := by decide +kernel
theorem dM_open_47 : decode bM_open 47 = .ok (.putfield 23, 3) := by decide +kernel
theorem dM_open_50 : decode bM_open 50 = .ok (.aload_n 0, 1) := by decide +kernel
theorem dM_open_51 : decode bM_open 51 = .ok (.getfield 23, 3) := by decide +kernel
theorem dM_open_54 : decode bM_open 54 = .ok (.ifCond .le 5, 3) := by decide +kernel
theorem dM_open_57 : decode bM_open 57 = .ok (.iconst 0, 1) := by decide +kernel
theorem dM_open_58 : decode bM_open 58 = .ok (.ireturn, 1) := by decide +kernel
theorem dM_open_59 : decode bM_open 59 = .ok (.aload_n 0, 1) := by decide +kernel
theorem dM_open_60 : decode bM_open 60 = .ok (.iconst 0, 1) := by decide +kernel
theorem dM_open_61 : decode bM_open 61 = .ok (.putfield 95, 3) := by decide +kernel
theorem dM_open_64 : decode bM_open 64 = .ok (.aload_n 0, 1) := by decide +kernel
theorem dM_open_65 : decode bM_open 65 = .ok (.iconst 0, 1) := by decide +kernel
theorem dM_open_66 : decode bM_open 66 = .ok (.putfield 98, 3) := by decide +kernel
theorem dM_open_69 : decode bM_open 69 = .ok (.aload_n 0, 1) := by decide +kernel
theorem dM_open_70 : decode bM_open 70 = .ok (.iconst 0, 1) := by decide +kernel
theorem dM_open_71 : decode bM_open 71 = .ok (.putfield 101, 3) := by decide +kernel
theorem dM_open_74 : decode bM_open 74 = .ok (.iload_n 2, 1) := by decide +kernel
theorem dM_open_75 : decode bM_open 75 = .ok (.istore 5, 2) := by decide +kernel
theorem dM_open_77 : decode bM_open 77 = .ok (.iload 5, 2) := by decide +kernel
theorem dM_open_79 : decode bM_open 79 = .ok (.iload_n 3, 1) := by decide +kernel
theorem dM_open_80 : decode bM_open 80 = .ok (.if_icmp .gt 118, 3) := by decide +kernel
theorem dM_open_83 : decode bM_open 83 = .ok (.iconst 0, 1) := by decide +kernel
theorem dM_open_84 : decode bM_open 84 = .ok (.istore 6, 2) := by decide +kernel
theorem dM_open_86 : decode bM_open 86 = .ok (.iload 6, 2) := by decide +kernel
theorem dM_open_88 : decode bM_open 88 = .ok (.aload_n 0, 1) := by decide +kernel
theorem dM_open_89 : decode bM_open 89 = .ok (.getfield 42, 3) := by decide +kernel
theorem dM_open_92 : decode bM_open 92 = .ok (.if_icmp .ge 100, 3) := by decide +kernel
theorem dM_open_95 : decode bM_open 95 = .ok (.aload_n 0, 1) := by decide +kernel
theorem dM_open_96 : decode bM_open 96 = .ok (.iload 6, 2) := by decide +kernel
theorem dM_open_98 : decode bM_open 98 = .ok (.iload 4, 2) := by decide +kernel
theorem dM_open_100 : decode bM_open 100 = .ok (.invokevirtual 45, 3) := by decide +kernel
theorem dM_open_103 : decode bM_open 103 = .ok (.istore 7, 2) := by decide +kernel
theorem dM_open_105 : decode bM_open 105 = .ok (.aload_n 0, 1) := by decide +kernel
theorem dM_open_106 : decode bM_open 106 = .ok (.iload 7, 2) := by decide +kernel
theorem dM_open_108 : decode bM_open 108 = .ok (.iload_n 1, 1) := by decide +kernel
theorem dM_open_109 : decode bM_open 109 = .ok (.invokevirtual 104, 3) := by decide +kernel
theorem dM_open_112 : decode bM_open 112 = .ok (.ifCond .eq 74, 3) := by decide +kernel
theorem dM_open_115 : decode bM_open 115 = .ok (.aload_n 0, 1) := by decide +kernel
theorem dM_open_116 : decode bM_open 116 = .ok (.iload 7, 2) := by decide +kernel
theorem dM_open_118 : decode bM_open 118 = .ok (.iconst 5, 1) := by decide +kernel
theorem dM_open_119 : decode bM_open 119 = .ok (.invokevirtual 30, 3) := by decide +kernel
theorem dM_open_122 : decode bM_open 122 = .ok (.iload 5, 2) := by decide +kernel
theorem dM_open_124 : decode bM_open 124 = .ok (.if_icmp .ne 62, 3) := by decide +kernel
theorem dM_open_127 : decode bM_open 127 = .ok (.aload_n 0, 1) := by decide +kernel
theorem dM_open_128 : decode bM_open 128 = .ok (.getfield 17, 3) := by decide +kernel
theorem dM_open_131 : decode bM_open 131 = .ok (.aload_n 0, 1) := by decide +kernel
theorem dM_open_132 : decode bM_open 132 = .ok (.getfield 95, 3) := by decide +kernel
theorem dM_open_135 : decode bM_open 135 = .ok (.iload 6, 2) := by decide +kernel
theorem dM_open_137 : decode bM_open 137 = .ok (.iastore, 1) := by decide +kernel
theorem dM_open_138 : decode bM_open 138 = .ok (.aload_n 0, 1) := by decide +kernel
theorem dM_open_139 : decode bM_open 139 = .ok (.getfield 20, 3) := by decide +kernel
theorem dM_open_142 : decode bM_open 142 = .ok (.aload_n 0, 1) := by decide +kernel
theorem dM_open_143 : decode bM_open 143 = .ok (.getfield 95, 3) := by decide +kernel
theorem dM_open_146 : decode bM_open 146 = .ok (.aload_n 0, 1) := by decide +kernel
theorem dM_open_147 : decode bM_open 147 = .ok (.iload 7, 2) := by decide +kernel
theorem dM_open_149 : decode bM_open 149 = .ok (.iconst 2, 1) := by decide +kernel
theorem dM_open_150 : decode bM_open 150 = .ok (.invokevirtual 30, 3) := by decide +kernel
theorem dM_open_153 : decode bM_open 153 = .ok (.iload_n 1, 1) := by decide +kernel
theorem dM_open_154 : decode bM_open 154 = .ok (.if_icmp .ne 13, 3) := by decide +kernel
theorem dM_open_157 : decode bM_open 157 = .ok (.aload_n 0, 1) := by decide +kernel
theorem dM_open_158 : decode bM_open 158 = .ok (.iload 7, 2) := by decide +kernel
theorem dM_open_160 : decode bM_open 160 = .ok (.iconst 4, 1) := by decide +kernel
theorem dM_open_161 : decode bM_open 161 = .ok (.invokevirtual 30, 3) := by decide +kernel
theorem dM_open_164 : decode bM_open 164 = .ok (.goto 11, 3) := by decide +kernel
theorem dM_open_167 : decode bM_open 167 = .ok (.aload_n 0, 1) := by decide +kernel
theorem dM_open_168 : decode bM_open 168 = .ok (.iload 7, 2) := by decide +kernel
theorem dM_open_170 : decode bM_open 170 = .ok (.iconst 4, 1) := by decide +kernel
theorem dM_open_171 : decode bM_open 171 = .ok (.invokevirtual 30, 3) := by decide +kernel
theorem dM_open_174 : decode bM_open 174 = .ok (.ineg, 1) := by decide +kernel
theorem dM_open_175 : decode bM_open 175 = .ok (.iastore, 1) := by decide +kernel
theorem dM_open_176 : decode bM_open 176 = .ok (.aload_n 0, 1) := by decide +kernel
theorem dM_open_177 : decode bM_open 177 = .ok (.aload_n 0, 1) := by decide +kernel
theorem dM_open_178 : decode bM_open 178 = .ok (.getfield 95, 3) := by decide +kernel
theorem dM_open_181 : decode bM_open 181 = .ok (.iconst 1, 1) := by decide +kernel
theorem dM_open_182 : decode bM_open 182 = .ok (.iadd, 1) := by decide +kernel
theorem dM_open_183 : decode bM_open 183 = .ok (.putfield 95, 3) := by decide +kernel
theorem dM_open_186 : decode bM_open 186 = .ok (.iinc 6 1, 3) := by decide +kernel
theorem dM_open_189 : decode bM_open 189 = .ok (.goto (-103), 3) := by decide +kernel
theorem dM_open_192 : decode bM_open 192 = .ok (.iinc 5 1, 3) := by decide +kernel
theorem dM_open_195 : decode bM_open 195 = .ok (.goto (-118), 3) := by decide +kernel
theorem dM_open_198 : decode bM_open 198 = .ok (.aload_n 0, 1) := by decide +kernel
theorem dM_open_199 : decode bM_open 199 = .ok (.getfield 95, 3) := by decide +kernel
theorem dM_open_202 : decode bM_open 202 = .ok (.ireturn, 1) := by decide +kernel
theorem dM_next_0 : decode bM_next 0 = .ok (.aload_n 0, 1) := by decide +kernel
theorem dM_next_1 : decode bM_next 1 = .ok (.aload_n 0, 1) := by decide +kernel
theorem dM_next_2 : decode bM_next 2 = .ok (.getfield 65, 3) := by decide +kernel
theorem dM_next_5 : decode bM_next 5 = .ok (.ifCond .eq 7, 3) := by decide +kernel
theorem dM_next_8 : decode bM_next 8 = .ok (.iconst 1, 1) := by decide +kernel
theorem dM_next_9 : decode bM_next 9 = .ok (.goto 4, 3) := by decide +kernel
theorem dM_next_12 : decode bM_next 12 = .ok (.iconst 0, 1) := by decide +kernel
theorem dM_next_13 : decode bM_next 13 = .ok (.putfield 23, 3) := by decide +kernel
theorem dM_next_16 : decode bM_next 16 = .ok (.aload_n 0, 1) := by decide +kernel
theorem dM_next_17 : decode bM_next 17 = .ok (.getfield 23, 3) := by decide +kernel
theorem dM_next_20 : decode bM_next 20 = .ok (.ifCond .le 5, 3) := by decide +kernel
theorem dM_next_23 : decode bM_next 23 = .ok (.iconst 0, 1) := by decide +kernel
theorem dM_next_24 : decode bM_next 24 = .ok (.ireturn, 1) := by decide +kernel
theorem dM_next_25 : decode bM_next 25 = .ok (.aload_n 0, 1) := by decide +kernel
theorem dM_next_26 : decode bM_next 26 = .ok (.aload_n 0, 1) := by decide +kernel
theorem dM_next_27 : decode bM_next 27 = .ok (.getfield 98, 3) := by decide +kernel
theorem dM_next_30 : decode bM_next 30 = .ok (.aload_n 0, 1) := by decide +kernel
theorem dM_next_31 : decode bM_next 31 = .ok (.getfield 95, 3) := by decide +kernel
theorem dM_next_34 : decode bM_next 34 = .ok (.if_icmp .ge 7, 3) := by decide +kernel
theorem dM_next_37 : decode bM_next 37 = .ok (.iconst 1, 1) := by decide +kernel
theorem dM_next_38 : decode bM_next 38 = .ok (.goto 4, 3) := by decide +kernel
theorem dM_next_41 : decode bM_next 41 = .ok (.iconst 0, 1) := by decide +kernel
theorem dM_next_42 : decode bM_next 42 = .ok (.putfield 101, 3) := by decide +kernel
theorem dM_next_45 : decode bM_next 45 = .ok (.aload_n 0, 1) := by decide +kernel
theorem dM_next_46 : decode bM_next 46 = .ok (.aload_n 0, 1) := by decide +kernel
theorem dM_next_47 : decode bM_next 47 = .ok (.getfield 101, 3) := by decide +kernel
theorem dM_next_50 : decode bM_next 50 = .ok (.ifCond .eq 12, 3) := by decide +kernel
theorem dM_next_53 : decode bM_next 53 = .ok (.aload_n 0, 1) := by decide +kernel
theorem dM_next_54 : decode bM_next 54 = .ok (.getfield 98, 3) := by decide +kernel
theorem dM_next_57 : decode bM_next 57 = .ok (.iconst 1, 1) := by decide +kernel
theorem dM_next_58 : decode bM_next 58 = .ok (.iadd, 1) := by decide +kernel
theorem dM_next_59 : decode bM_next 59 = .ok (.goto 7, 3) := by decide +kernel
theorem dM_next_62 : decode bM_next 62 = .ok (.aload_n 0, 1) := by decide +kernel
theorem dM_next_63 : decode bM_next 63 = .ok (.getfield 98, 3) := by decide +kernel
theorem dM_next_66 : decode bM_next 66 = .ok (.putfield 98, 3) := by decide +kernel
theorem dM_next_69 : decode bM_next 69 = .ok (.aload_n 0, 1) := by decide +kernel
theorem dM_next_70 : decode bM_next 70 = .ok (.getfield 101, 3) := by decide +kernel
theorem dM_next_73 : decode bM_next 73 = .ok (.ifCond .eq 17, 3) := by decide +kernel
theorem dM_next_76 : decode bM_next 76 = .ok (.aload_n 0, 1) := by decide +kernel
theorem dM_next_77 : decode bM_next 77 = .ok (.getfield 17, 3) := by decide +kernel
theorem dM_next_80 : decode bM_next 80 = .ok (.aload_n 0, 1) := by decide +kernel
theorem dM_next_81 : decode bM_next 81 = .ok (.getfield 98, 3) := by decide +kernel
theorem dM_next_84 : decode bM_next 84 = .ok (.iconst 1, 1) := by decide +kernel
theorem dM_next_85 : decode bM_next 85 = .ok (.isub, 1) := by decide +kernel
theorem dM_next_86 : decode bM_next 86 = .ok (.iaload, 1) := by decide +kernel
theorem dM_next_87 : decode bM_next 87 = .ok (.goto 4, 3) := by decide +kernel
theorem dM_next_90 : decode bM_next 90 = .ok (.iconst (-1), 1) := by decide +kernel
theorem dM_next_91 : decode bM_next 91 = .ok (.ireturn, 1) := by decide +kernel
theorem dM_moved_0 : decode bM_moved 0 = .ok (.aload_n 0, 1) := by decide +kernel
theorem dM_moved_1 : decode bM_moved 1 = .ok (.aload_n 0, 1) := by decide +kernel
theorem dM_moved_2 : decode bM_moved 2 = .ok (.getfield 65, 3) := by decide +kernel
theorem dM_moved_5 : decode bM_moved 5 = .ok (.ifCond .eq 7, 3) := by decide +kernel
theorem dM_moved_8 : decode bM_moved 8 = .ok (.iconst 1, 1) := by decide +kernel
theorem dM_moved_9 : decode bM_moved 9 = .ok (.goto 4, 3) := by decide +kernel
theorem dM_moved_12 : decode bM_moved 12 = .ok (.iconst 0, 1) := by decide +kernel
theorem dM_moved_13 : decode bM_moved 13 = .ok (.putfield 23, 3) := by decide +kernel
theorem dM_moved_16 : decode bM_moved 16 = .ok (.aload_n 0, 1) := by decide +kernel
theorem dM_moved_17 : decode bM_moved 17 = .ok (.getfield 23, 3) := by decide +kernel
theorem dM_moved_20 : decode bM_moved 20 = .ok (.ifCond .ne 24, 3) := by decide +kernel
theorem dM_moved_23 : decode bM_moved 23 = .ok (.aload_n 0, 1) := by decide +kernel
theorem dM_moved_24 : decode bM_moved 24 = .ok (.getfield 101, 3) := by decide +kernel
theorem dM_moved_27 : decode bM_moved 27 = .ok (.ifCond .eq 17, 3) := by decide +kernel
theorem dM_moved_30 : decode bM_moved 30 = .ok (.aload_n 0, 1) := by decide +kernel
theorem dM_moved_31 : decode bM_moved 31 = .ok (.getfield 20, 3) := by decide +kernel
theorem dM_moved_34 : decode bM_moved 34 = .ok (.aload_n 0, 1) := by decide +kernel
theorem dM_moved_35 : decode bM_moved 35 = .ok (.getfield 98, 3) := by decide +kernel
theorem dM_moved_38 : decode bM_moved 38 = .ok (.iconst 1, 1) := by decide +kernel
theorem dM_moved_39 : decode bM_moved 39 = .ok (.isub, 1) := by decide +kernel
theorem dM_moved_40 : decode bM_moved 40 = .ok (.iaload, 1) := by decide +kernel
theorem dM_moved_41 : decode bM_moved 41 = .ok (.goto 4, 3) := by decide +kernel
theorem dM_moved_44 : decode bM_moved 44 = .ok (.iconst 0, 1) := by decide +kernel
theorem dM_moved_45 : decode bM_moved 45 = .ok (.ireturn, 1) := by decide +kernel
theorem dM_field_0 : decode bM_field 0 = .ok (.aload_n 0, 1) := by decide +kernel
theorem dM_field_1 : decode bM_field 1 = .ok (.aload_n 0, 1) := by decide +kernel
theorem dM_field_2 : decode bM_field 2 = .ok (.getfield 65, 3) := by decide +kernel
theorem dM_field_5 : decode bM_field 5 = .ok (.ifCond .eq 7, 3) := by decide +kernel
theorem dM_field_8 : decode bM_field 8 = .ok (.iconst 1, 1) := by decide +kernel
theorem dM_field_9 : decode bM_field 9 = .ok (.goto 4, 3) := by decide +kernel
theorem dM_field_12 : decode bM_field 12 = .ok (.iconst 0, 1) := by decide +kernel
theorem dM_field_13 : decode bM_field 13 = .ok (.putfield 23, 3) := by decide +kernel
theorem dM_field_16 : decode bM_field 16 = .ok (.iload_n 1, 1) := by decide +kernel
theorem dM_field_17 : decode bM_field 17 = .ok (.ifCond .lt 33, 3) := by decide +kernel
theorem dM_field_20 : decode bM_field 20 = .ok (.iload_n 1, 1) := by decide +kernel
theorem dM_field_21 : decode bM_field 21 = .ok (.aload_n 0, 1) := by decide +kernel
theorem dM_field_22 : decode bM_field 22 = .ok (.getfield 42, 3) := by decide +kernel
theorem dM_field_25 : decode bM_field 25 = .ok (.if_icmp .ge 25, 3) := by decide +kernel
theorem dM_field_28 : decode bM_field 28 = .ok (.iload_n 2, 1) := by decide +kernel
theorem dM_field_29 : decode bM_field 29 = .ok (.ifCond .lt 21, 3) := by decide +kernel
theorem dM_field_32 : decode bM_field 32 = .ok (.iload_n 2, 1) := by decide +kernel
theorem dM_field_33 : decode bM_field 33 = .ok (.bipush 6, 2) := by decide +kernel
theorem dM_field_35 : decode bM_field 35 = .ok (.if_icmp .ge 15, 3) := by decide +kernel
theorem dM_field_38 : decode bM_field 38 = .ok (.aload_n 0, 1) := by decide +kernel
theorem dM_field_39 : decode bM_field 39 = .ok (.iload_n 3, 1) := by decide +kernel
theorem dM_field_40 : decode bM_field 40 = .ok (.invokevirtual 88, 3) := by decide +kernel
theorem dM_field_43 : decode bM_field 43 = .ok (.ifCond .eq 7, 3) := by decide +kernel
theorem dM_field_46 : decode bM_field 46 = .ok (.iconst 1, 1) := by decide +kernel
theorem dM_field_47 : decode bM_field 47 = .ok (.goto 4, 3) := by decide +kernel
theorem dM_field_50 : decode bM_field 50 = .ok (.iconst 0, 1) := by decide +kernel
theorem dM_field_51 : decode bM_field 51 = .ok (.istore 4, 2) := by decide +kernel
theorem dM_field_53 : decode bM_field 53 = .ok (.aload_n 0, 1) := by decide +kernel
theorem dM_field_54 : decode bM_field 54 = .ok (.getfield 23, 3) := by decide +kernel
theorem dM_field_57 : decode bM_field 57 = .ok (.ifCond .gt 8, 3) := by decide +kernel
theorem dM_field_60 : decode bM_field 60 = .ok (.iload 4, 2) := by decide +kernel
theorem dM_field_62 : decode bM_field 62 = .ok (.ifCond .ne 16, 3) := by decide +kernel
theorem dM_field_65 : decode bM_field 65 = .ok (.aload_n 0, 1) := by decide +kernel
theorem dM_field_66 : decode bM_field 66 = .ok (.getfield 23, 3) := by decide +kernel
theorem dM_field_69 : decode bM_field 69 = .ok (.ifCond .le 7, 3) := by decide +kernel
theorem dM_field_72 : decode bM_field 72 = .ok (.iconst 0, 1) := by decide +kernel
theorem dM_field_73 : decode bM_field 73 = .ok (.goto 4, 3) := by decide +kernel
theorem dM_field_76 : decode bM_field 76 = .ok (.iconst (-1), 1) := by decide +kernel
theorem dM_field_77 : decode bM_field 77 = .ok (.ireturn, 1) := by decide +kernel
theorem dM_field_78 : decode bM_field 78 = .ok (.aload_n 0, 1) := by decide +kernel
theorem dM_field_79 : decode bM_field 79 = .ok (.iload_n 1, 1) := by decide +kernel
theorem dM_field_80 : decode bM_field 80 = .ok (.iload_n 3, 1) := by decide +kernel
theorem dM_field_81 : decode bM_field 81 = .ok (.invokevirtual 45, 3) := by decide +kernel
theorem dM_field_84 : decode bM_field 84 = .ok (.istore 5, 2) := by decide +kernel
theorem dM_field_86 : decode bM_field 86 = .ok (.iload 5, 2) := by decide +kernel
theorem dM_field_88 : decode bM_field 88 = .ok (.ifCond .ge 7, 3) := by decide +kernel
theorem dM_field_91 : decode bM_field 91 = .ok (.iconst (-1), 1) := by decide +kernel
theorem dM_field_92 : decode bM_field 92 = .ok (.goto 10, 3) := by decide +kernel
theorem dM_field_95 : decode bM_field 95 = .ok (.aload_n 0, 1) := by decide +kernel
theorem dM_field_96 : decode bM_field 96 = .ok (.iload 5, 2) := by decide +kernel
theorem dM_field_98 : decode bM_field 98 = .ok (.iload_n 2, 1) := by decide +kernel
theorem dM_field_99 : decode bM_field 99 = .ok (.invokevirtual 30, 3) := by decide +kernel
theorem dM_field_102 : decode bM_field 102 = .ok (.ireturn, 1) := by decide +kernel
theorem dM_entries_0 : decode bM_entries 0 = .ok (.aload_n 0, 1) := by decide +kernel
theorem dM_entries_1 : decode bM_entries 1 = .ok (.aload_n 0, 1) := by decide +kernel
theorem dM_entries_2 : decode bM_entries 2 = .ok (.getfield 65, 3) := by decide +kernel
theorem dM_entries_5 : decode bM_entries 5 = .ok (.ifCond .eq 7, 3) := by decide +kernel
theorem dM_entries_8 : decode bM_entries 8 = .ok (.iconst 1, 1) := by decide +kernel
theorem dM_entries_9 : decode bM_entries 9 = .ok (.goto 4, 3) := by decide +kernel
theorem dM_entries_12 : decode bM_entries 12 = .ok (.iconst 0, 1) := by decide +kernel
theorem dM_entries_13 : decode bM_entries 13 = .ok (.putfield 23, 3) := by decide +kernel
theorem dM_entries_16 : decode bM_entries 16 = .ok (.aload_n 0, 1) := by decide +kernel
theorem dM_entries_17 : decode bM_entries 17 = .ok (.getfield 23, 3) := by decide +kernel
theorem dM_entries_20 : decode bM_entries 20 = .ok (.ifCond .le 7, 3) := by decide +kernel
theorem dM_entries_23 : decode bM_entries 23 = .ok (.iconst 0, 1) := by decide +kernel
theorem dM_entries_24 : decode bM_entries 24 = .ok (.goto 7, 3) := by decide +kernel
theorem dM_entries_27 : decode bM_entries 27 = .ok (.aload_n 0, 1) := by decide +kernel
theorem dM_entries_28 : decode bM_entries 28 = .ok (.getfield 42, 3) := by decide +kernel
theorem dM_entries_31 : decode bM_entries 31 = .ok (.ireturn, 1) := by decide +kernel
theorem dM_clock_0 : decode bM_clock 0 = .ok (.aload_n 0, 1) := by decide +kernel
theorem dM_clock_1 : decode bM_clock 1 = .ok (.iconst 0, 1) := by decide +kernel
theorem dM_clock_2 : decode bM_clock 2 = .ok (.putfield 23, 3) := by decide +kernel
theorem dM_clock_5 : decode bM_clock 5 = .ok (.aload_n 0, 1) := by decide +kernel
theorem dM_clock_6 : decode bM_clock 6 = .ok (.getfield 27, 3) := by decide +kernel
theorem dM_clock_9 : decode bM_clock 9 = .ok (.ireturn, 1) := by decide +kernel
theorem dM_head_0 : decode bM_head 0 = .ok (.aload_n 0, 1) := by decide +kernel
theorem dM_head_1 : decode bM_head 1 = .ok (.iconst 0, 1) := by decide +kernel
theorem dM_head_2 : decode bM_head 2 = .ok (.putfield 23, 3) := by decide +kernel
theorem dM_head_5 : decode bM_head 5 = .ok (.aload_n 0, 1) := by decide +kernel
theorem dM_head_6 : decode bM_head 6 = .ok (.aload_n 0, 1) := by decide +kernel
theorem dM_head_7 : decode bM_head 7 = .ok (.getfield 27, 3) := by decide +kernel
theorem dM_head_10 : decode bM_head 10 = .ok (.invokevirtual 58, 3) := by decide +kernel
theorem dM_head_13 : decode bM_head 13 = .ok (.lreturn, 1) := by decide +kernel
theorem dM_verify_0 : decode bM_verify 0 = .ok (.aload_n 0, 1) := by decide +kernel
theorem dM_verify_1 : decode bM_verify 1 = .ok (.iconst 0, 1) := by decide +kernel
theorem dM_verify_2 : decode bM_verify 2 = .ok (.putfield 23, 3) := by decide +kernel
theorem dM_verify_5 : decode bM_verify 5 = .ok (.iconst 0, 1) := by decide +kernel
theorem dM_verify_6 : decode bM_verify 6 = .ok (.istore_n 1, 1) := by decide +kernel
theorem dM_verify_7 : decode bM_verify 7 = .ok (.iload_n 1, 1) := by decide +kernel
theorem dM_verify_8 : decode bM_verify 8 = .ok (.aload_n 0, 1) := by decide +kernel
theorem dM_verify_9 : decode bM_verify 9 = .ok (.getfield 27, 3) := by decide +kernel
theorem dM_verify_12 : decode bM_verify 12 = .ok (.if_icmp .ge 35, 3) := by decide +kernel
theorem dM_verify_15 : decode bM_verify 15 = .ok (.aload_n 0, 1) := by decide +kernel
theorem dM_verify_16 : decode bM_verify 16 = .ok (.iload_n 1, 1) := by decide +kernel
theorem dM_verify_17 : decode bM_verify 17 = .ok (.aload_n 0, 1) := by decide +kernel
theorem dM_verify_18 : decode bM_verify 18 = .ok (.iload_n 1, 1) := by decide +kernel
theorem dM_verify_19 : decode bM_verify 19 = .ok (.invokevirtual 58, 3) := by decide +kernel
theorem dM_verify_22 : decode bM_verify 22 = .ok (.invokevirtual 61, 3) := by decide +kernel
theorem dM_verify_25 : decode bM_verify 25 = .ok (.lstore_n 2, 1) := by decide +kernel
theorem dM_verify_26 : decode bM_verify 26 = .ok (.lload_n 2, 1) := by decide +kernel
theorem dM_verify_27 : decode bM_verify 27 = .ok (.aload_n 0, 1) := by decide +kernel
theorem dM_verify_28 : decode bM_verify 28 = .ok (.getfield 13, 3) := by decide +kernel
theorem dM_verify_31 : decode bM_verify 31 = .ok (.iload_n 1, 1) := by decide +kernel
theorem dM_verify_32 : decode bM_verify 32 = .ok (.laload, 1) := by decide +kernel
theorem dM_verify_33 : decode bM_verify 33 = .ok (.lcmp, 1) := by decide +kernel
theorem dM_verify_34 : decode bM_verify 34 = .ok (.ifCond .eq 7, 3) := by decide +kernel
theorem dM_verify_37 : decode bM_verify 37 = .ok (.iload_n 1, 1) := by decide +kernel
theorem dM_verify_38 : decode bM_verify 38 = .ok (.iconst 1, 1) := by decide +kernel
theorem dM_verify_39 : decode bM_verify 39 = .ok (.iadd, 1) := by decide +kernel
theorem dM_verify_40 : decode bM_verify 40 = .ok (.ireturn, 1) := by decide +kernel
theorem dM_verify_41 : decode bM_verify 41 = .ok (.iinc 1 1, 3) := by decide +kernel
theorem dM_verify_44 : decode bM_verify 44 = .ok (.goto (-37), 3) := by decide +kernel
theorem dM_verify_47 : decode bM_verify 47 = .ok (.iconst 0, 1) := by decide +kernel
theorem dM_verify_48 : decode bM_verify 48 = .ok (.ireturn, 1) := by decide +kernel
theorem dM_tamper_0 : decode bM_tamper 0 = .ok (.aload_n 0, 1) := by decide +kernel
theorem dM_tamper_1 : decode bM_tamper 1 = .ok (.iconst 0, 1) := by decide +kernel
theorem dM_tamper_2 : decode bM_tamper 2 = .ok (.putfield 23, 3) := by decide +kernel
theorem dM_tamper_5 : decode bM_tamper 5 = .ok (.iload_n 1, 1) := by decide +kernel
theorem dM_tamper_6 : decode bM_tamper 6 = .ok (.ifCond .lt 20, 3) := by decide +kernel
theorem dM_tamper_9 : decode bM_tamper 9 = .ok (.iload_n 1, 1) := by decide +kernel
theorem dM_tamper_10 : decode bM_tamper 10 = .ok (.aload_n 0, 1) := by decide +kernel
theorem dM_tamper_11 : decode bM_tamper 11 = .ok (.getfield 27, 3) := by decide +kernel
theorem dM_tamper_14 : decode bM_tamper 14 = .ok (.if_icmp .ge 12, 3) := by decide +kernel
theorem dM_tamper_17 : decode bM_tamper 17 = .ok (.iload_n 2, 1) := by decide +kernel
theorem dM_tamper_18 : decode bM_tamper 18 = .ok (.ifCond .lt 8, 3) := by decide +kernel
theorem dM_tamper_21 : decode bM_tamper 21 = .ok (.iload_n 2, 1) := by decide +kernel
theorem dM_tamper_22 : decode bM_tamper 22 = .ok (.iconst 5, 1) := by decide +kernel
theorem dM_tamper_23 : decode bM_tamper 23 = .ok (.if_icmp .le 5, 3) := by decide +kernel
theorem dM_tamper_26 : decode bM_tamper 26 = .ok (.iconst 0, 1) := by decide +kernel
theorem dM_tamper_27 : decode bM_tamper 27 = .ok (.ireturn, 1) := by decide +kernel
theorem dM_tamper_28 : decode bM_tamper 28 = .ok (.aload_n 0, 1) := by decide +kernel
theorem dM_tamper_29 : decode bM_tamper 29 = .ok (.getfield 7, 3) := by decide +kernel
theorem dM_tamper_32 : decode bM_tamper 32 = .ok (.bipush 6, 2) := by decide +kernel
theorem dM_tamper_34 : decode bM_tamper 34 = .ok (.iload_n 1, 1) := by decide +kernel
theorem dM_tamper_35 : decode bM_tamper 35 = .ok (.imul, 1) := by decide +kernel
theorem dM_tamper_36 : decode bM_tamper 36 = .ok (.iload_n 2, 1) := by decide +kernel
theorem dM_tamper_37 : decode bM_tamper 37 = .ok (.iadd, 1) := by decide +kernel
theorem dM_tamper_38 : decode bM_tamper 38 = .ok (.iload_n 3, 1) := by decide +kernel
theorem dM_tamper_39 : decode bM_tamper 39 = .ok (.iastore, 1) := by decide +kernel
theorem dM_tamper_40 : decode bM_tamper 40 = .ok (.aload_n 0, 1) := by decide +kernel
theorem dM_tamper_41 : decode bM_tamper 41 = .ok (.iconst 1, 1) := by decide +kernel
theorem dM_tamper_42 : decode bM_tamper 42 = .ok (.putfield 65, 3) := by decide +kernel
theorem dM_tamper_45 : decode bM_tamper 45 = .ok (.iconst 1, 1) := by decide +kernel
theorem dM_tamper_46 : decode bM_tamper 46 = .ok (.ireturn, 1) := by decide +kernel
end
section
theorem zown_of {own : String} {i0 i1 i2 : Nat} {Xn tx : String} {names : List String} (h0 : (decide (Jvm.Cond.classLink own i0 Xn ∈ lw_tbl) && decide (Jvm.Cond.instantiable Xn 6 ∈ lw_tbl) && decide (Jvm.Cond.initialized Xn ∈ lw_tbl) && decide ((own, i1, tx) ∈ zstr) && Jvm.Bundle.fit Xn && names.all Jvm.Bundle.fit) = true)
    (h1 : (Jvm.Bundle.ownAtoms own i2 Xn names).all (fun a => (decide (a ∈ lw_tbl) && zgood a) || decide (a = .laysStatic Jvm.Bundle.tN "UNASSIGNED_STACK" Jvm.Bundle.steD) || decide (a = .laysStatic Jvm.Bundle.tN "SUPPRESSED_SENTINEL" Jvm.Bundle.listD) || decide (a = .isRef (.static Jvm.Bundle.tN "UNASSIGNED_STACK" Jvm.Bundle.steD)) || decide (a = .isRef (.static Jvm.Bundle.tN "SUPPRESSED_SENTINEL" Jvm.Bundle.listD))) = true) : zown own i0 i1 i2 Xn tx names := by
  simp only [Bool.and_eq_true, decide_eq_true_eq] at h0
  obtain ⟨⟨⟨⟨⟨a1, a2⟩, a3⟩, a4⟩, a5⟩, a6⟩ := h0
  refine ⟨Tw_in a1 rfl, Tw_in a2 rfl, Tw_in a3 rfl, a4, a5, List.all_eq_true.mp a6, fun a ha => ?_⟩
  have q := List.all_eq_true.mp h1 a ha
  simp only [Bool.or_eq_true, Bool.and_eq_true, decide_eq_true_eq] at q
  rcases q with (((q | q) | q) | q) | q
  · exact Or.inl (Tw_in q.1 q.2)
  · exact Or.inr (Or.inl q)
  · exact Or.inr (Or.inr (Or.inl q))
  · exact Or.inr (Or.inr (Or.inr (Or.inl q)))
  · exact Or.inr (Or.inr (Or.inr (Or.inr q)))
set_option maxRecDepth 100000 in
set_option maxHeartbeats 4000000 in
theorem ow_122 : zown "AsOfLedger" 122 124 126 "java/lang/IllegalStateException" "a word was changed by hand" ["java/lang/RuntimeException", "java/lang/Exception"] := zown_of (by decide +kernel) (by decide +kernel)
set_option maxRecDepth 100000 in
set_option maxHeartbeats 4000000 in
theorem ow_129 : zown "AsOfLedger" 129 131 133 "java/lang/IllegalArgumentException" "an argument is out of its range" ["java/lang/RuntimeException", "java/lang/Exception"] := zown_of (by decide +kernel) (by decide +kernel)
set_option maxRecDepth 100000 in
set_option maxHeartbeats 4000000 in
theorem ow_134 : zown "AsOfLedger" 134 136 138 "java/lang/UnsupportedOperationException" "there are 64 versions" ["java/lang/RuntimeException", "java/lang/Exception"] := zown_of (by decide +kernel) (by decide +kernel)
set_option maxRecDepth 100000 in
set_option maxHeartbeats 4000000 in
theorem ow_141 : zown "AsOfLedger" 141 143 145 "java/lang/ArithmeticException" "a turnover would be above 2147483647" ["java/lang/RuntimeException", "java/lang/Exception"] := zown_of (by decide +kernel) (by decide +kernel)
end
section
/-! The invariant of a ledger with which nobody has tampered: class and reference sum to the same. -/
def hT (wd : Nat → Int32) (a : Int32) : Nat → Int := fun v => if sTouch wd v a = 0 then 0 else (wd (6 * v + 4)).toInt
def gT (wd : Nat → Int32) (a : Int32) (n e : Nat) : Int := mS (fun j => mV (hT wd a) (sLast wd (nI j) n)) e
def iR (wd rp : Nat → Int32) (n v : Nat) : Prop := ∃ r : Nat, rp v = nI r ∧ v < r ∧ r ≤ 64 ∧ (r < n ∨ r = 64) ∧ (∀ u, v < u → u < r → u < n → fE wd u ≠ fE wd v) ∧ (r < n → fE wd r = fE wd v)
def Inv (wd rp : Nat → Int32) (n e : Nat) : Prop :=
  n ≤ 64 ∧ e ≤ n ∧ (∀ v, v < n → ∃ j, j < e ∧ fE wd v = nI j) ∧ (∀ j, j < e → ∃ v, v < n ∧ fE wd v = nI j) ∧ (∀ v, v < n → iR wd rp n v) ∧ (∀ v, v < n → 0 ≤ (wd (6 * v + 4)).toInt) ∧ ∀ a, gT wd a n e ≤ 2147483647
theorem i_cur {wd rp : Nat → Int32} {n e : Nat} (h : Inv wd rp n e) {v t : Nat} (hv : v < t) (ht : t ≤ n) : sCur rp v (nI t) = if mL (fE wd) (fE wd v) t = some v then 1 else 0 := by
  obtain ⟨hn, -, -, -, hR, -⟩ := h
  obtain ⟨r, e1, h1, h2, h3, h4, h5⟩ := hR v (by omega)
  unfold sCur
  rw [if_neg (nI_ge hv (by omega)), e1]
  by_cases q : r < t
  · rw [if_pos (nI_lt q (by omega)), if_neg]
    intro z
    exact mL_last t z r h1 q (h5 (by omega))
  · rw [if_neg (nI_nlt (by omega) (by omega)), if_pos]
    exact mL_of t hv rfl (fun u g1 g2 => h4 u g1 (by omega) (by omega))
theorem i_turnC {wd rp : Nat → Int32} {n e : Nat} (h : Inv wd rp n e) (a : Int32) : ∀ m : Nat, m ≤ n →
    cTurn wd rp a (nI n) m = Int32.ofInt (mS (fun v => if mL (fE wd) (fE wd v) n = some v then hT wd a v else 0) m)
  | 0, _ => rfl
  | m + 1, hm => by
    have ih := i_turnC h a m (by omega)
    simp only [cTurn, mS]
    rw [Int32.ofInt_add, ← ih, i_cur h (show m < n by omega) (Nat.le_refl n)]
    by_cases q : mL (fE wd) (fE wd m) n = some m
    · rw [if_pos q, if_pos q, if_neg (by decide)]
      unfold hT
      by_cases z : sTouch wd m a = 0
      · rw [if_pos z, if_pos z]
        simp
      · rw [if_neg z, if_neg z, Int32.ofInt_toInt]
    · rw [if_neg q, if_neg q, if_pos rfl]
      simp
theorem i_turnM (wd : Nat → Int32) (a : Int32) (n : Nat) : ∀ e : Nat, mTurn wd a n e = Int64.ofInt (gT wd a n e)
  | 0 => rfl
  | e + 1 => by
    have ih := i_turnM wd a n e
    show (match sLast wd (nI e) n with
      | none => mTurn wd a n e
      | some v => if sTouch wd v a = 0 then mTurn wd a n e else mTurn wd a n e + (wd (6 * v + 4)).toInt64) = Int64.ofInt (gT wd a n e + mV (hT wd a) (sLast wd (nI e) n))
    rw [Int64.ofInt_add, ← ih]
    cases sLast wd (nI e) n with
    | none => simp [mV]
    | some v =>
      show (if sTouch wd v a = 0 then mTurn wd a n e else mTurn wd a n e + (wd (6 * v + 4)).toInt64) = mTurn wd a n e + Int64.ofInt (hT wd a v)
      unfold hT
      by_cases z : sTouch wd v a = 0
      · rw [if_pos z, if_pos z]
        simp
      · rw [if_neg z, if_neg z]
        congr 1
theorem i_gT0 {wd rp : Nat → Int32} {n e : Nat} (h : Inv wd rp n e) (a : Int32) : 0 ≤ gT wd a n e := by
  obtain ⟨-, -, -, -, -, hA, -⟩ := h
  refine mS_nonneg e fun j hj => ?_
  cases q : sLast wd (nI j) n with
  | none => exact Int.le_refl 0
  | some v =>
    show 0 ≤ hT wd a v
    unfold hT
    split
    · exact Int.le_refl 0
    · exact hA v (mL_lt n q).1
theorem i_swapT {wd rp : Nat → Int32} {n e : Nat} (h : Inv wd rp n e) (a : Int32) : mS (fun v => if mL (fE wd) (fE wd v) n = some v then hT wd a v else 0) n = gT wd a n e :=
  m_swap (fE wd) (hT wd a) e (by have := h.1; have := h.2.1; omega) n h.2.2.1
theorem i_turn {wd rp : Nat → Int32} {n e : Nat} (h : Inv wd rp n e) (a : Int32) : (cTurn wd rp a (nI n) n).toInt64 = mTurn wd a n e ∧ (cTurn wd rp a (nI n) n).toInt = gT wd a n e ∧ (mTurn wd a n e).toInt = gT wd a n e := by
  have h0 := i_gT0 h a
  have h1 := h.2.2.2.2.2.2 a
  have e1 : (cTurn wd rp a (nI n) n).toInt = gT wd a n e := by
    rw [i_turnC h a n (Nat.le_refl n), i_swapT h a]
    exact Int32.toInt_ofInt_of_le (by omega) (by omega)
  have e2 : (mTurn wd a n e).toInt = gT wd a n e := by
    rw [i_turnM]
    exact Int64.toInt_ofInt_of_le (by omega) (by omega)
  refine ⟨?_, e1, e2⟩
  rw [← Int64.toInt_inj, Int32.toInt_toInt64, e1, e2]
def hB (wd : Nat → Int32) (a d : Int32) : Nat → Int := fun v => if d < wd (6 * v + 5) then 0 else (sMoved wd v a).toInt
theorem i_balC {wd rp : Nat → Int32} {n e t : Nat} (h : Inv wd rp n e) (ht : t ≤ n) (a d : Int32) : ∀ m : Nat, m ≤ t →
    cBal wd rp a d (nI t) m = Int32.ofInt (mS (fun v => if mL (fE wd) (fE wd v) t = some v then hB wd a d v else 0) m)
  | 0, _ => rfl
  | m + 1, hm => by
    have ih := i_balC h ht a d m (by omega)
    simp only [cBal, mS]
    rw [Int32.ofInt_add, ← ih, i_cur h (show m < t by omega) ht]
    by_cases q : mL (fE wd) (fE wd m) t = some m
    · rw [if_pos q, if_pos q, if_neg (by decide)]
      unfold hB
      by_cases z : d < wd (6 * m + 5)
      · rw [if_pos z, if_pos z]
        simp
      · rw [if_neg z, if_neg z, Int32.ofInt_toInt]
    · rw [if_neg q, if_neg q, if_pos rfl]
      simp
theorem i_balM (wd : Nat → Int32) (a d : Int32) (t : Nat) : ∀ e : Nat, mBal wd a d t e = Int32.ofInt (mS (fun j => mV (hB wd a d) (sLast wd (nI j) t)) e)
  | 0 => rfl
  | e + 1 => by
    have ih := i_balM wd a d t e
    simp only [mBal, mS]
    rw [Int32.ofInt_add, ← ih]
    cases sLast wd (nI e) t with
    | none => simp [mV]
    | some v =>
      simp only [mV, hB, sMoved]
      by_cases z : d < wd (6 * v + 5)
      · rw [if_pos z, if_pos z]
        simp
      · rw [if_neg z, if_neg z, Int32.ofInt_toInt]
        by_cases y1 : wd (6 * v + 2) = a
        · rw [if_pos y1, if_pos y1]
        · rw [if_neg y1, if_neg y1]
          by_cases y2 : wd (6 * v + 3) = a
          · rw [if_pos y2, if_pos y2, Int32.sub_eq_add_neg]
          · rw [if_neg y2, if_neg y2]
            simp
theorem i_bal {wd rp : Nat → Int32} {n e t : Nat} (h : Inv wd rp n e) (ht : t ≤ n) (a d : Int32) : cBal wd rp a d (nI t) t = mBal wd a d t e := by
  rw [i_balC h ht a d t (Nat.le_refl t), i_balM]
  congr 1
  exact m_swap (fE wd) (hB wd a d) e (by have := h.1; have := h.2.1; omega) t (fun v hv => h.2.2.1 v (by omega))
theorem i_trial {wd rp : Nat → Int32} {n e t : Nat} (h : Inv wd rp n e) (ht : t ≤ n) (d : Int32) : ∀ k : Nat, cTrial wd rp d t k = mTrial wd d t e k
  | 0 => rfl
  | k + 1 => by
    simp only [cTrial, mTrial]
    rw [i_trial h ht d k, i_bal h ht]
/-! a version is added -/
theorem a_fE {wd : Nat → Int32} {n v : Nat} {k x d c a y : Int32} (hv : v < n) : fE (wApp wd n k x d c a y) v = fE wd v := wApp_old (by omega)
theorem a_last {wd : Nat → Int32} {n : Nat} {k x d c a y z : Int32} : sLast (wApp wd n k x d c a y) z (n + 1) = if x = z then some n else sLast wd z n := by
  unfold sLast
  rw [mL_s, show fE (wApp wd n k x d c a y) n = x from wApp_1, mL_congr n (fun v hv => a_fE hv)]
theorem a_touch {wd : Nat → Int32} {n v : Nat} {k x d c a y b : Int32} (hv : v < n) : sTouch (wApp wd n k x d c a y) v b = sTouch wd v b := by
  unfold sTouch
  rw [wApp_old (by omega), wApp_old (by omega)]
theorem a_hT {wd : Nat → Int32} {n v : Nat} {k x d c a y b : Int32} (hv : v < n) : hT (wApp wd n k x d c a y) b v = hT wd b v := by
  unfold hT
  rw [a_touch hv, wApp_old (by omega)]
theorem a_hTn {wd : Nat → Int32} {n : Nat} {k x d c a y b : Int32} : hT (wApp wd n k x d c a y) b n = if d = b ∨ c = b then a.toInt else 0 := by
  unfold hT sTouch
  rw [wApp_2, wApp_3, wApp_4]
  by_cases h1 : d = b
  · simp [h1]
  · by_cases h2 : c = b
    · simp [h1, h2]
    · simp [h1, h2]
theorem a_mV {wd : Nat → Int32} {n : Nat} {k x d c a y b z : Int32} : mV (hT (wApp wd n k x d c a y) b) (sLast wd z n) = mV (hT wd b) (sLast wd z n) := by
  cases q : sLast wd z n with
  | none =>
    show (0 : Int) = 0
    rfl
  | some v =>
    show hT (wApp wd n k x d c a y) b v = hT wd b v
    exact a_hT (mL_lt n q).1
theorem a_gT {wd : Nat → Int32} {n j0 : Nat} {k d c a y b : Int32} (hj : j0 < 2 ^ 31) (e : Nat) (he : e < 2 ^ 31) :
    gT (wApp wd n k (nI j0) d c a y) b (n + 1) e = gT wd b n e + if j0 < e then (if d = b ∨ c = b then a.toInt else 0) - mV (hT wd b) (sLast wd (nI j0) n) else 0 := by
  have e1 : (if j0 < e then (if d = b ∨ c = b then a.toInt else 0) - mV (hT wd b) (sLast wd (nI j0) n) else 0) = mS (fun j => if j0 = j then (if d = b ∨ c = b then a.toInt else 0) - mV (hT wd b) (sLast wd (nI j) n) else 0) e := by
    by_cases q : j0 < e
    · rw [if_pos q, mS_one (h := fun j => (if d = b ∨ c = b then a.toInt else 0) - mV (hT wd b) (sLast wd (nI j) n)) e q]
    · rw [if_neg q, mS_none e (by omega)]
  rw [e1]
  unfold gT
  rw [← mS_add]
  refine mS_congr e fun j hj' => ?_
  rw [a_last]
  by_cases q : j0 = j
  · subst q
    rw [if_pos rfl, if_pos rfl]
    show hT _ b n = _
    rw [a_hTn]
    omega
  · rw [if_neg q, if_neg (by intro z; exact q ((nI_eq hj (by omega)).mp z)), a_mV]
    omega
theorem a_amt {wd : Nat → Int32} {n : Nat} {k x d c a y : Int32} (h : ∀ v, v < n → 0 ≤ (wd (6 * v + 4)).toInt) (ha : 0 ≤ a.toInt) : ∀ v, v < n + 1 → 0 ≤ (wApp wd n k x d c a y (6 * v + 4)).toInt := by
  intro v hv
  by_cases q : v = n
  · subst q
    rw [wApp_4]; exact ha
  · rw [wApp_old (by omega)]
    exact h v (by omega)
/-- post: a version of an entry of its own -/
theorem i_post {wd rp : Nat → Int32} {n e : Nat} (h : Inv wd rp n e) (hn : n < 64) {k d c a y : Int32} (ha : 0 ≤ a.toInt) (hd : gT wd d n e + a.toInt ≤ 2147483647) (hc : gT wd c n e + a.toInt ≤ 2147483647) :
    Inv (wApp wd n k (nI e) d c a y) (upd rp n 64) (n + 1) (e + 1) := by
  obtain ⟨h1, h2, h3, h4, h5, h6, h7⟩ := h
  refine ⟨by omega, by omega, fun v hv => ?_, fun j hj => ?_, fun v hv => ?_, a_amt h6 ha, fun b => ?_⟩
  · by_cases q : v = n
    · subst q
      exact ⟨e, by omega, wApp_1⟩
    · obtain ⟨j, g1, g2⟩ := h3 v (by omega)
      exact ⟨j, by omega, by rw [a_fE (by omega)]; exact g2⟩
  · by_cases q : j = e
    · subst q
      exact ⟨n, by omega, wApp_1⟩
    · obtain ⟨v, g1, g2⟩ := h4 j (by omega)
      exact ⟨v, by omega, by rw [a_fE g1]; exact g2⟩
  · by_cases q : v = n
    · subst q
      refine ⟨64, by rw [show upd rp v 64 v = 64 from if_pos rfl]; rfl, hn, by omega, Or.inr rfl, fun u g1 g2 g3 => by omega, fun g => by omega⟩
    · have hvn : v < n := by omega
      obtain ⟨r, r1, r2, r3, r4, r5, r6⟩ := h5 v hvn
      obtain ⟨j, g1, g2⟩ := h3 v hvn
      refine ⟨r, by rw [show upd rp n 64 v = rp v from if_neg q]; exact r1, r2, r3, by omega, fun u g1' g2' g3' => ?_, fun g => ?_⟩
      · rw [a_fE hvn]
        by_cases z : u = n
        · subst z
          rw [show fE (wApp wd u k (nI e) d c a y) u = nI e from wApp_1, g2]
          intro z2
          have := (nI_eq (by omega) (by omega)).mp z2
          omega
        · rw [a_fE (show u < n by omega)]
          exact r5 u g1' g2' (by omega)
      · have hr : r < n := by omega
        rw [a_fE hvn, a_fE hr]
        exact r6 hr
  · have e1 := a_gT (wd := wd) (n := n) (j0 := e) (k := k) (d := d) (c := c) (a := a) (y := y) (b := b) (by omega) (e + 1) (by omega)
    rw [if_pos (Nat.lt_succ_self e)] at e1
    have e2 : sLast wd (nI e) n = none := by
      cases q : sLast wd (nI e) n with
      | none => rfl
      | some v =>
        obtain ⟨g1, g2⟩ := mL_lt n q
        obtain ⟨j, g3, g4⟩ := h3 v g1
        rw [g4] at g2
        have := (nI_eq (by omega) (by omega)).mp g2
        omega
    have e3 : gT wd b n (e + 1) = gT wd b n e := by
      show gT wd b n e + mV (hT wd b) (sLast wd (nI e) n) = gT wd b n e
      rw [e2]
      show _ + (0 : Int) = _
      omega
    rw [e1, e2, e3]
    show gT wd b n e + ((if d = b ∨ c = b then a.toInt else 0) - 0) ≤ 2147483647
    have h7b := h7 b
    by_cases q1 : d = b
    · rw [if_pos (Or.inl q1), ← q1]
      omega
    · by_cases q2 : c = b
      · rw [if_pos (Or.inr q2), ← q2]
        omega
      · rw [if_neg (by rintro (z | z); exact q1 z; exact q2 z)]
        omega
/-- correct and annul: a version in place of the entry's last -/
theorem i_repl {wd rp : Nat → Int32} {n e u : Nat} (h : Inv wd rp n e) (hn : n < 64) (hu : u < n) (hl : sLast wd (fE wd u) n = some u) {k a y : Int32} (ha : 0 ≤ a.toInt)
    (hd : gT wd (wd (6 * u + 2)) n e - (wd (6 * u + 4)).toInt + a.toInt ≤ 2147483647) (hc : gT wd (wd (6 * u + 3)) n e - (wd (6 * u + 4)).toInt + a.toInt ≤ 2147483647) :
    Inv (wApp wd n k (fE wd u) (wd (6 * u + 2)) (wd (6 * u + 3)) a y) (upd (upd rp n 64) u (nI n)) (n + 1) e := by
  obtain ⟨h1, h2, h3, h4, h5, h6, h7⟩ := h
  obtain ⟨j0, hj0, hfu⟩ := h3 u hu
  refine ⟨by omega, by omega, fun v hv => ?_, fun j hj => ?_, fun v hv => ?_, a_amt h6 ha, fun b => ?_⟩
  · by_cases q : v = n
    · subst q
      exact ⟨j0, hj0, by rw [← hfu]; exact wApp_1⟩
    · obtain ⟨j, g1, g2⟩ := h3 v (by omega)
      exact ⟨j, g1, by rw [a_fE (by omega)]; exact g2⟩
  · obtain ⟨v, g1, g2⟩ := h4 j hj
    exact ⟨v, by omega, by rw [a_fE g1]; exact g2⟩
  · have en : fE (wApp wd n k (fE wd u) (wd (6 * u + 2)) (wd (6 * u + 3)) a y) n = fE wd u := wApp_1
    by_cases q : v = n
    · subst q
      refine ⟨64, by rw [show upd (upd rp v 64) u (nI v) v = upd rp v 64 v from if_neg (by omega), show upd rp v 64 v = 64 from if_pos rfl]; rfl, hn, by omega, Or.inr rfl, fun z g1 g2 g3 => by omega, fun g => by omega⟩
    · have hvn : v < n := by omega
      by_cases qu : v = u
      · subst qu
        refine ⟨n, show upd (upd rp n 64) v (nI n) v = nI n from if_pos rfl, hvn, by omega, Or.inl (by omega), fun z g1 g2 g3 => ?_, fun _ => ?_⟩
        · rw [a_fE hvn, a_fE g2]
          exact mL_last n hl z g1 g2
        · rw [a_fE hvn, en]
      · obtain ⟨r, r1, r2, r3, r4, r5, r6⟩ := h5 v hvn
        refine ⟨r, by rw [show upd (upd rp n 64) u (nI n) v = upd rp n 64 v from if_neg qu, show upd rp n 64 v = rp v from if_neg q]; exact r1, r2, r3, by omega, fun z g1 g2 g3 => ?_, fun g => ?_⟩
        · rw [a_fE hvn]
          by_cases zn : z = n
          · subst zn
            rw [en]
            intro same
            have hr64 : r = 64 := by omega
            have hlt : v < u := by
              rcases Nat.lt_or_ge u v with g | g
              · exact absurd same.symm (mL_last z hl v g hvn)
              · omega
            exact r5 u hlt (by omega) hu same
          · rw [a_fE (show z < n by omega)]
            exact r5 z g1 g2 (by omega)
        · have hr : r < n := by omega
          rw [a_fE hvn, a_fE hr]
          exact r6 hr
  · have e1 := a_gT (wd := wd) (n := n) (j0 := j0) (k := k) (d := wd (6 * u + 2)) (c := wd (6 * u + 3)) (a := a) (y := y) (b := b) (by omega) e (by omega)
    rw [if_pos hj0, ← hfu, hl] at e1
    rw [e1]
    show gT wd b n e + ((if wd (6 * u + 2) = b ∨ wd (6 * u + 3) = b then a.toInt else 0) - hT wd b u) ≤ 2147483647
    have h7b := h7 b
    have ht : hT wd b u = if wd (6 * u + 2) = b ∨ wd (6 * u + 3) = b then (wd (6 * u + 4)).toInt else 0 := by
      unfold hT sTouch
      by_cases q1 : wd (6 * u + 2) = b
      · simp [q1]
      · by_cases q2 : wd (6 * u + 3) = b
        · simp [q1, q2]
        · simp [q1, q2]
    rw [ht]
    by_cases q1 : wd (6 * u + 2) = b
    · rw [if_pos (Or.inl q1), if_pos (Or.inl q1), ← q1]
      omega
    · by_cases q2 : wd (6 * u + 3) = b
      · rw [if_pos (Or.inr q2), if_pos (Or.inr q2), ← q2]
        omega
      · rw [if_neg (by rintro (z | z); exact q1 z; exact q2 z), if_neg (by rintro (z | z); exact q1 z; exact q2 z)]
        omega
/-- an entry that was never posted has no version -/
theorem i_out {wd rp : Nat → Int32} {n e t : Nat} (h : Inv wd rp n e) (ht : t ≤ n) {x : Int32} (hx : x < 0 ∨ nI e ≤ x) : sLast wd x t = none := by
  cases q : sLast wd x t with
  | none => rfl
  | some v =>
    obtain ⟨g1, g2⟩ := mL_lt t q
    obtain ⟨j, g3, g4⟩ := h.2.2.1 v (by omega)
    have hn := h.1
    have he := h.2.1
    rw [g4] at g2
    subst g2
    rcases hx with hx | hx
    · exact absurd hx (nI_pos (by omega))
    · exact absurd hx (nI_ge g3 (by omega))
theorem i_in {wd rp : Nat → Int32} {n e : Nat} (h : Inv wd rp n e) {j : Nat} (hj : j < e) : ∃ v, sLast wd (nI j) n = some v := by
  obtain ⟨v, g1, g2⟩ := h.2.2.2.1 j hj
  exact mL_some g1 g2
end
section
/-! The cursor: the class inserts versions in order of day and entry, the reference walks the days, then the entries. -/
def kLt (wd : Nat → Int32) (u v : Nat) : Prop := wd (6 * u + 5) < wd (6 * v + 5) ∨ (wd (6 * u + 5) = wd (6 * v + 5) ∧ fE wd u < fE wd v)
def sCmp (x y : Int32) : Int32 := if x < y then -1 else if x = y then 0 else 1
def sBfr (wd : Nat → Int32) (u v : Nat) : Int32 := if wd (6 * u + 5) < wd (6 * v + 5) then 1 else if wd (6 * u + 5) = wd (6 * v + 5) then (if wd (6 * u + 1) < wd (6 * v + 1) then 1 else 0) else 0
theorem i32_irr (a : Int32) : ¬ a < a := by
  rw [Int32.lt_iff_toInt_lt]; omega
theorem i32_tr {a b c : Int32} (h1 : a < b) (h2 : b < c) : a < c := by
  rw [Int32.lt_iff_toInt_lt] at *; omega
theorem i32_tri (a b : Int32) : a < b ∨ a = b ∨ b < a := by
  rcases Int.lt_trichotomy a.toInt b.toInt with h | h | h
  · exact Or.inl (Int32.lt_iff_toInt_lt.mpr h)
  · exact Or.inr (Or.inl (Int32.toInt_inj.mp h))
  · exact Or.inr (Or.inr (Int32.lt_iff_toInt_lt.mpr h))
theorem kLt_irr (wd : Nat → Int32) (u : Nat) : ¬ kLt wd u u := by
  rintro (h | ⟨-, h⟩)
  · exact i32_irr _ h
  · exact i32_irr _ h
theorem kLt_tr (wd : Nat → Int32) (u v x : Nat) (h1 : kLt wd u v) (h2 : kLt wd v x) : kLt wd u x := by
  rcases h1 with h1 | ⟨e1, h1⟩ <;> rcases h2 with h2 | ⟨e2, h2⟩
  · exact Or.inl (i32_tr h1 h2)
  · exact Or.inl (e2 ▸ h1)
  · exact Or.inl (e1 ▸ h2)
  · exact Or.inr ⟨e1.trans e2, i32_tr h1 h2⟩
theorem kLt_tri {wd : Nat → Int32} {u v : Nat} (h : fE wd u ≠ fE wd v) (h2 : ¬ kLt wd u v) : kLt wd v u := by
  rcases i32_tri (wd (6 * u + 5)) (wd (6 * v + 5)) with g | g | g
  · exact absurd (Or.inl g) h2
  · rcases i32_tri (fE wd u) (fE wd v) with z | z | z
    · exact absurd (Or.inr ⟨g, z⟩) h2
    · exact absurd z h
    · exact Or.inr ⟨g.symm, z⟩
  · exact Or.inl g
theorem sBfr_iff (wd : Nat → Int32) (u v : Nat) : sBfr wd u v = 0 ↔ ¬ kLt wd u v := by
  unfold sBfr kLt fE
  by_cases h1 : wd (6 * u + 5) < wd (6 * v + 5)
  · simp [h1]
  · by_cases h2 : wd (6 * u + 5) = wd (6 * v + 5)
    · by_cases h3 : wd (6 * u + 1) < wd (6 * v + 1)
      · simp [h1, h2, h3]
      · simp [h1, h2, h3]
    · simp [h1, h2]
/-- the class's insertion: places are moved up as long as the new version comes before -/
def insL (wd : Nat → Int32) (u : Nat) : Nat → (Nat → Int32) → Nat × (Nat → Int32)
  | 0, cv => (0, cv)
  | p + 1, cv => if sBfr wd u (cv p).toNatClampNeg = 0 then (p + 1, cv) else insL wd u p (upd cv (p + 1) (cv p))
def insA (wd : Nat → Int32) (u s : Nat) (cv : Nat → Int32) : Nat → Int32 := upd (insL wd u s cv).2 (insL wd u s cv).1 (nI u)
def cHas (cv : Nat → Int32) (l : List Nat) : Prop := ∀ k w, l[k]? = some w → cv k = nI w
theorem insL_spec (wd : Nat → Int32) (u : Nat) (l : List Nat) (hl : ∀ w ∈ l, w < 64) : ∀ (p : Nat) (cv : Nat → Int32), p ≤ l.length →
    (∀ k w, k < p → l[k]? = some w → cv k = nI w) → (∀ k w, p ≤ k → l[k]? = some w → cv (k + 1) = nI w ∧ kLt wd u w) →
    (insL wd u p cv).1 ≤ l.length ∧ (∀ k w, k < (insL wd u p cv).1 → l[k]? = some w → (insL wd u p cv).2 k = nI w) ∧
      (∀ k w, (insL wd u p cv).1 ≤ k → l[k]? = some w → (insL wd u p cv).2 (k + 1) = nI w ∧ kLt wd u w) ∧
      (∀ k w, k + 1 = (insL wd u p cv).1 → l[k]? = some w → ¬ kLt wd u w)
  | 0, cv, hp, h1, h2 => ⟨hp, h1, h2, fun k w hk _ => absurd hk (Nat.succ_ne_zero k)⟩
  | p + 1, cv, hp, h1, h2 => by
    have hpl : p < l.length := by omega
    have hget : l[p]? = some l[p] := List.getElem?_eq_getElem hpl
    have hcv : cv p = nI l[p] := h1 p _ (by omega) hget
    have hlt : l[p] < 64 := hl _ (List.getElem_mem hpl)
    have hcl : (cv p).toNatClampNeg = l[p] := by rw [hcv]; exact nI_clamp (by omega)
    by_cases q : sBfr wd u (cv p).toNatClampNeg = 0
    · have e1 : insL wd u (p + 1) cv = (p + 1, cv) := by
        show (if sBfr wd u (cv p).toNatClampNeg = 0 then (p + 1, cv) else _) = _
        rw [if_pos q]
      rw [e1]
      refine ⟨hp, h1, h2, fun k w hk hw => ?_⟩
      have : k = p := by
        have : k + 1 = p + 1 := hk
        omega
      subst this
      rw [hget] at hw
      cases hw
      rw [hcl] at q
      exact (sBfr_iff wd u _).mp q
    · have e1 : insL wd u (p + 1) cv = insL wd u p (upd cv (p + 1) (cv p)) := by
        show (if sBfr wd u (cv p).toNatClampNeg = 0 then (p + 1, cv) else _) = _
        rw [if_neg q]
      rw [e1]
      refine insL_spec wd u l hl p _ (by omega) (fun k w hk hw => ?_) (fun k w hk hw => ?_)
      · rw [show upd cv (p + 1) (cv p) k = cv k from if_neg (by omega)]
        exact h1 k w (by omega) hw
      · by_cases z : k = p
        · subst z
          rw [hget] at hw
          cases hw
          refine ⟨by rw [show upd cv (k + 1) (cv k) (k + 1) = cv k from if_pos rfl]; exact hcv, ?_⟩
          rw [hcl] at q
          exact Classical.byContradiction fun z2 => q ((sBfr_iff wd u _).mpr z2)
        · rw [show upd cv (p + 1) (cv p) (k + 1) = cv (k + 1) from if_neg (by omega)]
          exact h2 k w (by omega) hw
theorem ins_spec {wd : Nat → Int32} {u : Nat} {l : List Nat} {cv : Nat → Int32} (hl : ∀ w ∈ l, w < 64) (hc : cHas cv l) (hs : l.Pairwise (kLt wd)) (hd : ∀ w ∈ l, fE wd u ≠ fE wd w) :
    ∃ l' : List Nat, l'.length = l.length + 1 ∧ cHas (insA wd u l.length cv) l' ∧ l'.Pairwise (kLt wd) ∧ ∀ x, x ∈ l' ↔ x = u ∨ x ∈ l := by
  obtain ⟨g1, g2, g3, g4⟩ := insL_spec wd u l hl l.length cv (Nat.le_refl _) (fun k w _ hw => hc k w hw) (fun k w hk hw => by
    have := (List.getElem?_eq_some_iff.mp hw).1
    omega)
  generalize hq : (insL wd u l.length cv).1 = q at g1 g2 g3 g4
  have hA : insA wd u l.length cv = upd (insL wd u l.length cv).2 q (nI u) := by unfold insA; rw [hq]
  generalize hcv : (insL wd u l.length cv).2 = cv' at g2 g3 hA
  have before : ∀ w ∈ l.take q, kLt wd w u := by
    intro w hw
    obtain ⟨k, hk⟩ := List.getElem?_of_mem hw
    rw [List.getElem?_take] at hk
    split at hk
    · rename_i hkq
      have hq1 : q - 1 < l.length := by omega
      have hlast : l[q - 1]? = some l[q - 1] := List.getElem?_eq_getElem hq1
      have hnot := g4 (q - 1) _ (by omega) hlast
      have hz : kLt wd l[q - 1] u := kLt_tri (hd _ (List.getElem_mem hq1)) hnot
      by_cases e : k = q - 1
      · subst e
        rw [hlast] at hk
        cases hk
        exact hz
      · have hkl : k < l.length := (List.getElem?_eq_some_iff.mp hk).1
        have e2 : l[k] = w := (List.getElem?_eq_some_iff.mp hk).2
        have := List.pairwise_iff_getElem.mp hs k (q - 1) hkl hq1 (by omega)
        rw [e2] at this
        exact kLt_tr wd _ _ _ this hz
    · cases hk
  have after : ∀ w ∈ l.drop q, kLt wd u w := by
    intro w hw
    obtain ⟨k, hk⟩ := List.getElem?_of_mem hw
    rw [List.getElem?_drop] at hk
    exact (g3 (q + k) w (by omega) hk).2
  refine ⟨l.take q ++ u :: l.drop q, ?_, fun k w hk => ?_, ?_, fun x => ?_⟩
  · simp only [List.length_append, List.length_cons, List.length_take, List.length_drop]
    omega
  · rw [hA]
    have ht : (l.take q).length = q := by rw [List.length_take]; omega
    by_cases h1 : k < q
    · rw [List.getElem?_append_left (by omega), List.getElem?_take, if_pos h1] at hk
      rw [show upd cv' q (nI u) k = cv' k from if_neg (by omega)]
      exact g2 k w h1 hk
    · rw [List.getElem?_append_right (by omega), ht] at hk
      by_cases h2 : k = q
      · subst h2
        rw [Nat.sub_self] at hk
        have : u = w := by simpa using hk
        subst this
        exact if_pos rfl
      · obtain ⟨z, hz⟩ : ∃ z, k - q = z + 1 := ⟨k - q - 1, by omega⟩
        rw [hz, List.getElem?_cons_succ, List.getElem?_drop] at hk
        have h3 := (g3 (q + z) w (by omega) hk).1
        rw [show upd cv' q (nI u) k = cv' k from if_neg h2, show k = q + z + 1 by omega]
        exact h3
  · refine List.pairwise_append.mpr ⟨hs.sublist (List.take_sublist q l), List.pairwise_cons.mpr ⟨after, hs.sublist (List.drop_sublist q l)⟩, fun a ha b hb => ?_⟩
    rcases List.mem_cons.mp hb with rfl | hb
    · exact before a ha
    · exact kLt_tr wd _ _ _ (before a ha) (after b hb)
  · constructor
    · intro h
      rcases List.mem_append.mp h with h | h
      · exact Or.inr (List.mem_of_mem_take h)
      · rcases List.mem_cons.mp h with h | h
        · exact Or.inl h
        · exact Or.inr (List.mem_of_mem_drop h)
    · intro h
      rcases h with h | h
      · subst h
        exact List.mem_append_right _ List.mem_cons_self
      · rw [← List.take_append_drop q l] at h
        rcases List.mem_append.mp h with h | h
        · exact List.mem_append_left _ h
        · exact List.mem_append_right _ (List.mem_cons_of_mem _ h)
/-- which versions the class's cursor takes -/
abbrev sSkip (wd rp : Nat → Int32) (a f g t : Int32) (v : Nat) : Prop := sCur rp v t = 0 ∨ wd (6 * v + 0) = 2 ∨ sTouch wd v a = 0 ∨ wd (6 * v + 5) < f ∨ g < wd (6 * v + 5)
/-- an array whose first places hold a list -/
def aPut (f : Nat → Int32) (l : List Int32) : Nat → Int32 := fun k => (l[k]?).getD (f k)
theorem aPut_nil (f : Nat → Int32) : aPut f [] = f := by
  funext k
  simp [aPut]
theorem aPut_app (f : Nat → Int32) (l : List Int32) (x : Int32) : upd (aPut f l) l.length x = aPut f (l ++ [x]) := by
  funext k
  unfold upd aPut
  by_cases h : k = l.length
  · subst h
    simp
  · rw [if_neg h]
    by_cases h2 : k < l.length
    · rw [List.getElem?_append_left h2]
    · rw [List.getElem?_append_right (by omega), List.getElem?_eq_none (by omega)]
      obtain ⟨z, hz⟩ : ∃ z, k - l.length = z + 1 := ⟨k - l.length - 1, by omega⟩
      rw [hz]
      simp
/-- the reference's list of versions: of one day, entries 0 to j - 1; of the days from f on, k of them -/
def mTake (wd : Nat → Int32) (a y : Int32) (t j : Nat) : List Nat := match sLast wd (nI j) t with
  | none => []
  | some v => if wd (6 * v + 0) = 2 then [] else if sTouch wd v a = 0 then [] else if wd (6 * v + 5) = y then [v] else []
def mIn (wd : Nat → Int32) (a y : Int32) (t : Nat) : Nat → List Nat
  | 0 => []
  | j + 1 => mIn wd a y t j ++ mTake wd a y t j
def mOut (wd : Nat → Int32) (a : Int32) (t e f : Nat) : Nat → List Nat
  | 0 => []
  | k + 1 => mOut wd a t e f k ++ mIn wd a (nI (f + k)) t e
theorem mTake_mem {wd : Nat → Int32} {a y : Int32} {t j v : Nat} : v ∈ mTake wd a y t j ↔ sLast wd (nI j) t = some v ∧ wd (6 * v + 0) ≠ 2 ∧ sTouch wd v a ≠ 0 ∧ wd (6 * v + 5) = y := by
  unfold mTake
  cases h : sLast wd (nI j) t with
  | none => simp
  | some u =>
    simp only
    by_cases h1 : wd (6 * u + 0) = 2
    · rw [if_pos h1]
      constructor
      · intro z; cases z
      · rintro ⟨e, z, -⟩
        cases e
        exact absurd h1 z
    · rw [if_neg h1]
      by_cases h2 : sTouch wd u a = 0
      · rw [if_pos h2]
        constructor
        · intro z; cases z
        · rintro ⟨e, -, z, -⟩
          cases e
          exact absurd h2 z
      · rw [if_neg h2]
        by_cases h3 : wd (6 * u + 5) = y
        · rw [if_pos h3]
          constructor
          · intro z
            rw [List.mem_singleton] at z
            subst z
            exact ⟨rfl, h1, h2, h3⟩
          · rintro ⟨e, -⟩
            cases e
            exact List.mem_singleton.mpr rfl
        · rw [if_neg h3]
          constructor
          · intro z; cases z
          · rintro ⟨e, -, -, z⟩
            cases e
            exact absurd z h3
theorem mIn_mem {wd : Nat → Int32} {a y : Int32} {t v : Nat} : ∀ j : Nat, v ∈ mIn wd a y t j ↔ ∃ i, i < j ∧ v ∈ mTake wd a y t i
  | 0 => by simp [mIn]
  | j + 1 => by
    rw [show mIn wd a y t (j + 1) = mIn wd a y t j ++ mTake wd a y t j from rfl, List.mem_append, mIn_mem j]
    constructor
    · rintro (⟨i, h1, h2⟩ | h)
      · exact ⟨i, by omega, h2⟩
      · exact ⟨j, by omega, h⟩
    · rintro ⟨i, h1, h2⟩
      by_cases e : i = j
      · subst e; exact Or.inr h2
      · exact Or.inl ⟨i, by omega, h2⟩
theorem mOut_mem {wd : Nat → Int32} {a : Int32} {t e f v : Nat} : ∀ k : Nat, v ∈ mOut wd a t e f k ↔ ∃ i, i < k ∧ v ∈ mIn wd a (nI (f + i)) t e
  | 0 => by simp [mOut]
  | k + 1 => by
    rw [show mOut wd a t e f (k + 1) = mOut wd a t e f k ++ mIn wd a (nI (f + k)) t e from rfl, List.mem_append, mOut_mem k]
    constructor
    · rintro (⟨i, h1, h2⟩ | h)
      · exact ⟨i, by omega, h2⟩
      · exact ⟨k, by omega, h⟩
    · rintro ⟨i, h1, h2⟩
      by_cases z : i = k
      · subst z; exact Or.inr h2
      · exact Or.inl ⟨i, by omega, h2⟩
theorem mTake_sorted {wd : Nat → Int32} {a y : Int32} {t j : Nat} : (mTake wd a y t j).Pairwise (kLt wd) := by
  unfold mTake
  cases sLast wd (nI j) t with
  | none => exact List.Pairwise.nil
  | some v =>
    simp only
    split
    · exact List.Pairwise.nil
    · split
      · exact List.Pairwise.nil
      · split
        · exact List.pairwise_singleton _ _
        · exact List.Pairwise.nil
theorem mIn_sorted {wd : Nat → Int32} {a y : Int32} {t : Nat} : ∀ j : Nat, j < 2 ^ 31 → (mIn wd a y t j).Pairwise (kLt wd)
  | 0, _ => List.Pairwise.nil
  | j + 1, hj => by
    refine List.pairwise_append.mpr ⟨mIn_sorted j (by omega), mTake_sorted, fun x hx z hz => ?_⟩
    obtain ⟨i, h1, h2⟩ := (mIn_mem j).mp hx
    obtain ⟨g1, -, -, g4⟩ := mTake_mem.mp h2
    obtain ⟨k1, -, -, k4⟩ := mTake_mem.mp hz
    refine Or.inr ⟨g4.trans k4.symm, ?_⟩
    rw [(mL_lt t g1).2, (mL_lt t k1).2]
    exact nI_lt h1 (by omega)
theorem mOut_sorted {wd : Nat → Int32} {a : Int32} {t e f : Nat} (he : e < 2 ^ 31) (j : Nat) (hj : j ≤ e) : ∀ k : Nat, f + k < 2 ^ 31 → (mOut wd a t e f k ++ mIn wd a (nI (f + k)) t j).Pairwise (kLt wd)
  | 0, _ => by
    show ([] ++ mIn wd a (nI (f + 0)) t j).Pairwise (kLt wd)
    rw [List.nil_append]
    exact mIn_sorted j (by omega)
  | k + 1, hk => by
    have ih := mOut_sorted (wd := wd) (a := a) (t := t) (f := f) he e (Nat.le_refl e) k (by omega)
    refine List.pairwise_append.mpr ⟨ih, mIn_sorted j (by omega), fun x hx z hz => ?_⟩
    obtain ⟨i, h1, h2⟩ := (mOut_mem (k + 1)).mp hx
    obtain ⟨i2, h3, h4⟩ := (mIn_mem e).mp h2
    obtain ⟨i3, h5, h6⟩ := (mIn_mem j).mp hz
    obtain ⟨-, -, -, g4⟩ := mTake_mem.mp h4
    obtain ⟨-, -, -, k4⟩ := mTake_mem.mp h6
    refine Or.inl ?_
    rw [g4, k4]
    exact nI_lt (by omega) hk
/-- a list without repetition, below n, has at most n members -/
theorem nd_len : ∀ (n : Nat) (l : List Nat), l.Nodup → (∀ x ∈ l, x < n) → l.length ≤ n
  | 0, l, _, h => by
    cases l with
    | nil => exact Nat.le_refl 0
    | cons a l => exact absurd (h a List.mem_cons_self) (Nat.not_lt_zero a)
  | n + 1, l, hd, h => by
    by_cases hm : n ∈ l
    · have h1 := nd_len n (l.erase n) (hd.erase n) (fun x hx => by
        have h2 := (List.Nodup.mem_erase_iff hd).mp hx
        have h3 := h x h2.2
        have h4 := h2.1
        omega)
      rw [List.length_erase_of_mem hm] at h1
      omega
    · have h1 := nd_len n l hd (fun x hx => by
        have h3 := h x hx
        have h4 : x ≠ n := fun e => hm (e ▸ hx)
        omega)
      omega
theorem mOut_len {wd : Nat → Int32} {a : Int32} {t e f j k : Nat} (he : e < 2 ^ 31) (hj : j ≤ e) (hk : f + k < 2 ^ 31) (ht : t ≤ 64) : (mOut wd a t e f k ++ mIn wd a (nI (f + k)) t j).length ≤ 64 := by
  have hs := mOut_sorted (wd := wd) (a := a) (t := t) (f := f) he j hj k hk
  refine Nat.le_trans (nd_len t _ (hs.imp (fun {x y} h (e : x = y) => by subst e; exact kLt_irr wd x h)) (fun x hx => ?_)) ht
  rcases List.mem_append.mp hx with hx | hx
  · obtain ⟨i, -, h2⟩ := (mOut_mem k).mp hx
    obtain ⟨i2, -, h4⟩ := (mIn_mem e).mp h2
    exact (mL_lt t (mTake_mem.mp h4).1).1
  · obtain ⟨i2, -, h4⟩ := (mIn_mem j).mp hx
    exact (mL_lt t (mTake_mem.mp h4).1).1
end
section
/-! The class's cursor and the reference's are one list. -/
def cOpn (wd rp : Nat → Int32) (a f g t : Int32) (cv : Nat → Int32) : Nat → Nat × (Nat → Int32)
  | 0 => (0, cv)
  | v + 1 => if sSkip wd rp a f g t v then cOpn wd rp a f g t cv v else ((cOpn wd rp a f g t cv v).1 + 1, insA wd v (cOpn wd rp a f g t cv v).1 (cOpn wd rp a f g t cv v).2)
theorem cOpn_skip {wd rp : Nat → Int32} {a f g t : Int32} {cv : Nat → Int32} {v : Nat} (h : sSkip wd rp a f g t v) : cOpn wd rp a f g t cv (v + 1) = cOpn wd rp a f g t cv v := by
  show (if sSkip wd rp a f g t v then _ else _) = _
  rw [if_pos h]
theorem cOpn_take {wd rp : Nat → Int32} {a f g t : Int32} {cv : Nat → Int32} {v : Nat} (h : ¬ sSkip wd rp a f g t v) : cOpn wd rp a f g t cv (v + 1) = ((cOpn wd rp a f g t cv v).1 + 1, insA wd v (cOpn wd rp a f g t cv v).1 (cOpn wd rp a f g t cv v).2) := by
  show (if sSkip wd rp a f g t v then _ else _) = _
  rw [if_neg h]
theorem cOpn_le {wd rp : Nat → Int32} {a f g t : Int32} {cv : Nat → Int32} : ∀ v : Nat, (cOpn wd rp a f g t cv v).1 ≤ v
  | 0 => Nat.le_refl 0
  | v + 1 => by
    have ih := cOpn_le (wd := wd) (rp := rp) (a := a) (f := f) (g := g) (t := t) (cv := cv) v
    by_cases h : sSkip wd rp a f g t v
    · rw [cOpn_skip h]; omega
    · rw [cOpn_take h]
      show (cOpn wd rp a f g t cv v).1 + 1 ≤ v + 1
      omega
theorem o_live {wd rp : Nat → Int32} {n e t v : Nat} {a f g : Int32} (h : Inv wd rp n e) (ht : t ≤ n) (hv : v < t) (hs : ¬ sSkip wd rp a f g (nI t) v) : mL (fE wd) (fE wd v) t = some v := by
  have h1 := i_cur h hv ht
  by_cases q : mL (fE wd) (fE wd v) t = some v
  · exact q
  · rw [if_neg q] at h1
    exact absurd (Or.inl h1) hs
theorem cOpn_spec {wd rp : Nat → Int32} {n e t : Nat} (a f g : Int32) (cv : Nat → Int32) (h : Inv wd rp n e) (ht : t ≤ n) : ∀ v : Nat, v ≤ t →
    ∃ l : List Nat, l.length = (cOpn wd rp a f g (nI t) cv v).1 ∧ cHas (cOpn wd rp a f g (nI t) cv v).2 l ∧ l.Pairwise (kLt wd) ∧ ∀ x, x ∈ l ↔ x < v ∧ ¬ sSkip wd rp a f g (nI t) x
  | 0, _ => ⟨[], rfl, fun k w hk => by simp at hk, List.Pairwise.nil, fun x => by simp⟩
  | v + 1, hv => by
    obtain ⟨l, h1, h2, h3, h4⟩ := cOpn_spec a f g cv h ht v (by omega)
    have hn := h.1
    by_cases q : sSkip wd rp a f g (nI t) v
    · rw [cOpn_skip q]
      refine ⟨l, h1, h2, h3, fun x => ?_⟩
      rw [h4 x]
      constructor
      · rintro ⟨g1, g2⟩
        exact ⟨by omega, g2⟩
      · rintro ⟨g1, g2⟩
        by_cases e1 : x = v
        · subst e1; exact absurd q g2
        · exact ⟨by omega, g2⟩
    · rw [cOpn_take q]
      obtain ⟨l', k1, k2, k3, k4⟩ := ins_spec (wd := wd) (u := v) (l := l) (cv := (cOpn wd rp a f g (nI t) cv v).2) (fun w hw => by have := ((h4 w).mp hw).1; omega) h2 h3 (fun w hw => by
        obtain ⟨g1, g2⟩ := (h4 w).mp hw
        intro e1
        have m1 := o_live h ht (show v < t by omega) q
        have m2 := o_live h ht (show w < t by omega) g2
        rw [e1, m2] at m1
        have := Option.some.inj m1
        omega)
      rw [h1] at k1 k2
      refine ⟨l', k1, k2, k3, fun x => ?_⟩
      rw [k4 x, h4 x]
      constructor
      · rintro (rfl | ⟨g1, g2⟩)
        · exact ⟨by omega, q⟩
        · exact ⟨by omega, g2⟩
      · rintro ⟨g1, g2⟩
        by_cases e1 : x = v
        · exact Or.inl e1
        · exact Or.inr ⟨by omega, g2⟩
theorem nI_between {x : Int32} {f g : Nat} (hf : f < 2 ^ 31) (hg : g < 2 ^ 31) (h1 : ¬ x < nI f) (h2 : ¬ nI g < x) : ∃ i, f ≤ i ∧ i ≤ g ∧ x = nI i := by
  rw [Int32.lt_iff_toInt_lt, nI_toInt hf] at h1
  rw [Int32.lt_iff_toInt_lt, nI_toInt hg] at h2
  refine ⟨x.toInt.toNat, by omega, by omega, ?_⟩
  rw [← Int32.toInt_inj, nI_toInt (by omega)]
  omega
theorem o_eq {wd rp : Nat → Int32} {n e t f g : Nat} {a : Int32} {l : List Nat} (h : Inv wd rp n e) (ht : t ≤ n) (hf : f < 2 ^ 30) (hg : g < 2 ^ 30) (hs : l.Pairwise (kLt wd)) (hm : ∀ x, x ∈ l ↔ x < t ∧ ¬ sSkip wd rp a (nI f) (nI g) (nI t) x) :
    l = mOut wd a t e f (g + 1 - f) := by
  have hn := h.1
  have he := h.2.1
  have hs2 : (mOut wd a t e f (g + 1 - f)).Pairwise (kLt wd) := by
    have := mOut_sorted (wd := wd) (a := a) (t := t) (e := e) (f := f) (by omega) 0 (by omega) (g + 1 - f) (by omega)
    simpa [mIn] using this
  refine m_sorted (kLt_irr wd) (kLt_tr wd) l _ hs hs2 (fun x => ?_)
  rw [hm x, mOut_mem]
  constructor
  · rintro ⟨g1, g2⟩
    have hl := o_live h ht g1 g2
    obtain ⟨j, j1, j2⟩ := h.2.2.1 x (by omega)
    rw [j2] at hl
    obtain ⟨i, i1, i2, i3⟩ := nI_between (by omega) (by omega) (fun z => g2 (Or.inr (Or.inr (Or.inr (Or.inl z))))) (fun z => g2 (Or.inr (Or.inr (Or.inr (Or.inr z)))))
    refine ⟨i - f, by omega, (mIn_mem e).mpr ⟨j, j1, mTake_mem.mpr ⟨hl, fun z => g2 (Or.inr (Or.inl z)), fun z => g2 (Or.inr (Or.inr (Or.inl z))), ?_⟩⟩⟩
    rw [i3, show f + (i - f) = i by omega]
  · rintro ⟨i, i1, i2⟩
    obtain ⟨j, j1, j2⟩ := (mIn_mem e).mp i2
    obtain ⟨g1, g2, g3, g4⟩ := mTake_mem.mp j2
    obtain ⟨v1, v2⟩ := mL_lt t g1
    refine ⟨v1, ?_⟩
    have hcur := i_cur h v1 ht
    rw [v2, show mL (fE wd) (nI j) t = some x from g1, if_pos rfl] at hcur
    rintro (z | z | z | z | z)
    · rw [z] at hcur
      exact absurd hcur (by decide)
    · exact g2 z
    · exact g3 z
    · rw [g4] at z
      exact absurd z (nI_nlt (by omega) (by omega))
    · rw [g4] at z
      exact absurd z (nI_nlt (by omega) (by omega))
end
section
abbrev XS : Type := (Nat → Int32) × (Nat → Int64) × (Nat → Int32) × (Nat → Int32) × Int32 × Int32 × Int32 × Int32 × Int32 × Int32 × Int32
def fx_words (x : XS) : Nat → Int32 := x.1
def fx_links (x : XS) : Nat → Int64 := x.2.1
def fx_rep (x : XS) : Nat → Int32 := x.2.2.1
def fx_cur (x : XS) : Nat → Int32 := x.2.2.2.1
def fx_vc (x : XS) : Int32 := x.2.2.2.2.1
def fx_ec (x : XS) : Int32 := x.2.2.2.2.2.1
def fx_tam (x : XS) : Int32 := x.2.2.2.2.2.2.1
def fx_size (x : XS) : Int32 := x.2.2.2.2.2.2.2.1
def fx_place (x : XS) : Int32 := x.2.2.2.2.2.2.2.2.1
def fx_acct (x : XS) : Int32 := x.2.2.2.2.2.2.2.2.2.1
def fx_last (x : XS) : Int32 := x.2.2.2.2.2.2.2.2.2.2
def sx_words (x : XS) (v : Nat → Int32) : XS := (v, x.2.1, x.2.2.1, x.2.2.2.1, x.2.2.2.2.1, x.2.2.2.2.2.1, x.2.2.2.2.2.2.1, x.2.2.2.2.2.2.2.1, x.2.2.2.2.2.2.2.2.1, x.2.2.2.2.2.2.2.2.2.1, x.2.2.2.2.2.2.2.2.2.2)
def sx_links (x : XS) (v : Nat → Int64) : XS := (x.1, v, x.2.2.1, x.2.2.2.1, x.2.2.2.2.1, x.2.2.2.2.2.1, x.2.2.2.2.2.2.1, x.2.2.2.2.2.2.2.1, x.2.2.2.2.2.2.2.2.1, x.2.2.2.2.2.2.2.2.2.1, x.2.2.2.2.2.2.2.2.2.2)
def sx_rep (x : XS) (v : Nat → Int32) : XS := (x.1, x.2.1, v, x.2.2.2.1, x.2.2.2.2.1, x.2.2.2.2.2.1, x.2.2.2.2.2.2.1, x.2.2.2.2.2.2.2.1, x.2.2.2.2.2.2.2.2.1, x.2.2.2.2.2.2.2.2.2.1, x.2.2.2.2.2.2.2.2.2.2)
def sx_cur (x : XS) (v : Nat → Int32) : XS := (x.1, x.2.1, x.2.2.1, v, x.2.2.2.2.1, x.2.2.2.2.2.1, x.2.2.2.2.2.2.1, x.2.2.2.2.2.2.2.1, x.2.2.2.2.2.2.2.2.1, x.2.2.2.2.2.2.2.2.2.1, x.2.2.2.2.2.2.2.2.2.2)
def sx_vc (x : XS) (v : Int32) : XS := (x.1, x.2.1, x.2.2.1, x.2.2.2.1, v, x.2.2.2.2.2.1, x.2.2.2.2.2.2.1, x.2.2.2.2.2.2.2.1, x.2.2.2.2.2.2.2.2.1, x.2.2.2.2.2.2.2.2.2.1, x.2.2.2.2.2.2.2.2.2.2)
def sx_ec (x : XS) (v : Int32) : XS := (x.1, x.2.1, x.2.2.1, x.2.2.2.1, x.2.2.2.2.1, v, x.2.2.2.2.2.2.1, x.2.2.2.2.2.2.2.1, x.2.2.2.2.2.2.2.2.1, x.2.2.2.2.2.2.2.2.2.1, x.2.2.2.2.2.2.2.2.2.2)
def sx_tam (x : XS) (v : Int32) : XS := (x.1, x.2.1, x.2.2.1, x.2.2.2.1, x.2.2.2.2.1, x.2.2.2.2.2.1, v, x.2.2.2.2.2.2.2.1, x.2.2.2.2.2.2.2.2.1, x.2.2.2.2.2.2.2.2.2.1, x.2.2.2.2.2.2.2.2.2.2)
def sx_size (x : XS) (v : Int32) : XS := (x.1, x.2.1, x.2.2.1, x.2.2.2.1, x.2.2.2.2.1, x.2.2.2.2.2.1, x.2.2.2.2.2.2.1, v, x.2.2.2.2.2.2.2.2.1, x.2.2.2.2.2.2.2.2.2.1, x.2.2.2.2.2.2.2.2.2.2)
def sx_place (x : XS) (v : Int32) : XS := (x.1, x.2.1, x.2.2.1, x.2.2.2.1, x.2.2.2.2.1, x.2.2.2.2.2.1, x.2.2.2.2.2.2.1, x.2.2.2.2.2.2.2.1, v, x.2.2.2.2.2.2.2.2.2.1, x.2.2.2.2.2.2.2.2.2.2)
def sx_acct (x : XS) (v : Int32) : XS := (x.1, x.2.1, x.2.2.1, x.2.2.2.1, x.2.2.2.2.1, x.2.2.2.2.2.1, x.2.2.2.2.2.2.1, x.2.2.2.2.2.2.2.1, x.2.2.2.2.2.2.2.2.1, v, x.2.2.2.2.2.2.2.2.2.2)
def sx_last (x : XS) (v : Int32) : XS := (x.1, x.2.1, x.2.2.1, x.2.2.2.1, x.2.2.2.2.1, x.2.2.2.2.2.1, x.2.2.2.2.2.2.1, x.2.2.2.2.2.2.2.1, x.2.2.2.2.2.2.2.2.1, x.2.2.2.2.2.2.2.2.2.1, v)
abbrev MS : Type := (Nat → Int32) × (Nat → Int64) × (Nat → Int32) × (Nat → Int32) × Int32 × Int32 × Int32 × Int32 × Int32 × Int32 × Int32
def fm_words (x : MS) : Nat → Int32 := x.1
def fm_links (x : MS) : Nat → Int64 := x.2.1
def fm_list (x : MS) : Nat → Int32 := x.2.2.1
def fm_puts (x : MS) : Nat → Int32 := x.2.2.2.1
def fm_code (x : MS) : Int32 := x.2.2.2.2.1
def fm_touched (x : MS) : Int32 := x.2.2.2.2.2.1
def fm_clock (x : MS) : Int32 := x.2.2.2.2.2.2.1
def fm_entries (x : MS) : Int32 := x.2.2.2.2.2.2.2.1
def fm_count (x : MS) : Int32 := x.2.2.2.2.2.2.2.2.1
def fm_at (x : MS) : Int32 := x.2.2.2.2.2.2.2.2.2.1
def fm_ans (x : MS) : Int32 := x.2.2.2.2.2.2.2.2.2.2
def sm_words (x : MS) (v : Nat → Int32) : MS := (v, x.2.1, x.2.2.1, x.2.2.2.1, x.2.2.2.2.1, x.2.2.2.2.2.1, x.2.2.2.2.2.2.1, x.2.2.2.2.2.2.2.1, x.2.2.2.2.2.2.2.2.1, x.2.2.2.2.2.2.2.2.2.1, x.2.2.2.2.2.2.2.2.2.2)
def sm_links (x : MS) (v : Nat → Int64) : MS := (x.1, v, x.2.2.1, x.2.2.2.1, x.2.2.2.2.1, x.2.2.2.2.2.1, x.2.2.2.2.2.2.1, x.2.2.2.2.2.2.2.1, x.2.2.2.2.2.2.2.2.1, x.2.2.2.2.2.2.2.2.2.1, x.2.2.2.2.2.2.2.2.2.2)
def sm_list (x : MS) (v : Nat → Int32) : MS := (x.1, x.2.1, v, x.2.2.2.1, x.2.2.2.2.1, x.2.2.2.2.2.1, x.2.2.2.2.2.2.1, x.2.2.2.2.2.2.2.1, x.2.2.2.2.2.2.2.2.1, x.2.2.2.2.2.2.2.2.2.1, x.2.2.2.2.2.2.2.2.2.2)
def sm_puts (x : MS) (v : Nat → Int32) : MS := (x.1, x.2.1, x.2.2.1, v, x.2.2.2.2.1, x.2.2.2.2.2.1, x.2.2.2.2.2.2.1, x.2.2.2.2.2.2.2.1, x.2.2.2.2.2.2.2.2.1, x.2.2.2.2.2.2.2.2.2.1, x.2.2.2.2.2.2.2.2.2.2)
def sm_code (x : MS) (v : Int32) : MS := (x.1, x.2.1, x.2.2.1, x.2.2.2.1, v, x.2.2.2.2.2.1, x.2.2.2.2.2.2.1, x.2.2.2.2.2.2.2.1, x.2.2.2.2.2.2.2.2.1, x.2.2.2.2.2.2.2.2.2.1, x.2.2.2.2.2.2.2.2.2.2)
def sm_touched (x : MS) (v : Int32) : MS := (x.1, x.2.1, x.2.2.1, x.2.2.2.1, x.2.2.2.2.1, v, x.2.2.2.2.2.2.1, x.2.2.2.2.2.2.2.1, x.2.2.2.2.2.2.2.2.1, x.2.2.2.2.2.2.2.2.2.1, x.2.2.2.2.2.2.2.2.2.2)
def sm_clock (x : MS) (v : Int32) : MS := (x.1, x.2.1, x.2.2.1, x.2.2.2.1, x.2.2.2.2.1, x.2.2.2.2.2.1, v, x.2.2.2.2.2.2.2.1, x.2.2.2.2.2.2.2.2.1, x.2.2.2.2.2.2.2.2.2.1, x.2.2.2.2.2.2.2.2.2.2)
def sm_entries (x : MS) (v : Int32) : MS := (x.1, x.2.1, x.2.2.1, x.2.2.2.1, x.2.2.2.2.1, x.2.2.2.2.2.1, x.2.2.2.2.2.2.1, v, x.2.2.2.2.2.2.2.2.1, x.2.2.2.2.2.2.2.2.2.1, x.2.2.2.2.2.2.2.2.2.2)
def sm_count (x : MS) (v : Int32) : MS := (x.1, x.2.1, x.2.2.1, x.2.2.2.1, x.2.2.2.2.1, x.2.2.2.2.2.1, x.2.2.2.2.2.2.1, x.2.2.2.2.2.2.2.1, v, x.2.2.2.2.2.2.2.2.2.1, x.2.2.2.2.2.2.2.2.2.2)
def sm_at (x : MS) (v : Int32) : MS := (x.1, x.2.1, x.2.2.1, x.2.2.2.1, x.2.2.2.2.1, x.2.2.2.2.2.1, x.2.2.2.2.2.2.1, x.2.2.2.2.2.2.2.1, x.2.2.2.2.2.2.2.2.1, v, x.2.2.2.2.2.2.2.2.2.2)
def sm_ans (x : MS) (v : Int32) : MS := (x.1, x.2.1, x.2.2.1, x.2.2.2.1, x.2.2.2.2.1, x.2.2.2.2.2.1, x.2.2.2.2.2.2.1, x.2.2.2.2.2.2.2.1, x.2.2.2.2.2.2.2.2.1, x.2.2.2.2.2.2.2.2.2.1, v)
def wx (x : XS) (m : MS) (o : Nat → Int64) : zW := [.inr (0, [.ref 1, .ref 2, .ref 3, .int (fx_vc x), .int (fx_ec x), .int (fx_tam x), .ref 4, .int (fx_size x), .int (fx_place x), .int (fx_acct x), .int (fx_last x)]), .inl (384, .inl (fx_words x)), .inl (64, .inr (fx_links x)), .inl (64, .inl (fx_rep x)), .inl (64, .inl (fx_cur x)), .inr (1, [.int (fm_code m), .int (fm_touched m), .int (fm_clock m), .int (fm_entries m), .ref 6, .ref 7, .int (fm_count m), .int (fm_at m), .int (fm_ans m), .ref 8, .ref 9]), .inl (384, .inl (fm_words m)), .inl (64, .inr (fm_links m)), .inl (64, .inl (fm_list m)), .inl (64, .inl (fm_puts m)), .inl (1, .inr o)]
def xApp (x : XS) (n : Nat) (k e d c a y : Int32) : XS := sx_vc (sx_rep (sx_links (sx_words x (wApp (fx_words x) n k e d c a y)) (kApp (wApp (fx_words x) n k e d c a y) (fx_links x) n)) (upd (fx_rep x) n 64)) (nI n + 1)
def xRep (x : XS) (n u : Nat) (k a : Int32) : XS := sx_rep (xApp x n k (fx_words x (6 * u + 1)) (fx_words x (6 * u + 2)) (fx_words x (6 * u + 3)) a (fx_words x (6 * u + 5))) (upd (fx_rep (xApp x n k (fx_words x (6 * u + 1)) (fx_words x (6 * u + 2)) (fx_words x (6 * u + 3)) a (fx_words x (6 * u + 5)))) u (nI n))
def xISE (w : zW) : zR := .inr ("java/lang/IllegalStateException", w)
def xIAE (w : zW) : zR := .inr ("java/lang/IllegalArgumentException", w)
def xUOE (w : zW) : zR := .inr ("java/lang/UnsupportedOperationException", w)
def xAE (w : zW) : zR := .inr ("java/lang/ArithmeticException", w)
def xNSE (w : zW) : zR := .inr ("java/util/NoSuchElementException", w)
def sOver (x : XS) (n : Nat) (a b1 b2 : Int32) : Int32 := lg_cmp ((cTurn (fx_words x) (fx_rep x) a (nI n) n).toInt64 - b1.toInt64 + b2.toInt64) 2147483647
def rPost (x : XS) (m : MS) (o : Nat → Int64) (n e : Nat) (d c a y : Int32) : zR :=
  if fx_tam x = 0 then if sAcc d = 0 then xIAE (wx x m o) else if sAcc c = 0 then xIAE (wx x m o) else if d = c then xIAE (wx x m o) else if sDay y = 0 then xIAE (wx x m o) else if a < 1 then xIAE (wx x m o) else
    if fx_vc x < 64 then if sOver x n d 0 a ≤ 0 then if sOver x n c 0 a ≤ 0 then .inl (some (.int (nI e)), wx (sx_ec (xApp x n 0 (nI e) d c a y) (nI e + 1)) m o) else xAE (wx x m o) else xAE (wx x m o) else xUOE (wx x m o)
  else xISE (wx x m o)
def rVtr (x : XS) (m : MS) (o : Nat → Int64) (n : Nat) (en : Int32) : zR := match sLast (fx_words x) en n with
  | none => xNSE (wx x m o)
  | some u => if fx_words x (6 * u + 0) = 2 then xNSE (wx x m o) else .inl (some (.int (nI u)), wx x m o)
def rCorr (x : XS) (m : MS) (o : Nat → Int64) (n : Nat) (en a : Int32) : zR :=
  if fx_tam x = 0 then match sLast (fx_words x) en n with
    | none => xNSE (wx x m o)
    | some u => if fx_words x (6 * u + 0) = 2 then xNSE (wx x m o) else if a < 1 then xIAE (wx x m o) else if fx_vc x < 64 then
        if sOver x n (fx_words x (6 * u + 2)) (fx_words x (6 * u + 4)) a ≤ 0 then if sOver x n (fx_words x (6 * u + 3)) (fx_words x (6 * u + 4)) a ≤ 0 then .inl (some (.int (nI n)), wx (xRep x n u 1 a) m o) else xAE (wx x m o) else xAE (wx x m o) else xUOE (wx x m o)
  else xISE (wx x m o)
def rAnn (x : XS) (m : MS) (o : Nat → Int64) (n : Nat) (en : Int32) : zR :=
  if fx_tam x = 0 then match sLast (fx_words x) en n with
    | none => xNSE (wx x m o)
    | some u => if fx_words x (6 * u + 0) = 2 then xNSE (wx x m o) else if fx_vc x < 64 then .inl (some (.int (nI n)), wx (xRep x n u 2 0) m o) else xUOE (wx x m o)
  else xISE (wx x m o)
def rBal (x : XS) (m : MS) (o : Nat → Int64) (a d it : Int32) : zR :=
  if fx_tam x = 0 then if sAcc a = 0 then xIAE (wx x m o) else if sDay d = 0 then xIAE (wx x m o) else if sTime (fx_vc x) it = 0 then xIAE (wx x m o) else .inl (some (.int (cBal (fx_words x) (fx_rep x) a d it it.toNatClampNeg)), wx x m o)
  else xISE (wx x m o)
def rTrial (x : XS) (m : MS) (o : Nat → Int64) (d it : Int32) : zR :=
  if fx_tam x = 0 then if sDay d = 0 then xIAE (wx x m o) else if sTime (fx_vc x) it = 0 then xIAE (wx x m o) else .inl (some (.int (cTrial (fx_words x) (fx_rep x) d it.toNatClampNeg 16)), wx x m o)
  else xISE (wx x m o)
def rTurn (x : XS) (m : MS) (o : Nat → Int64) (n : Nat) (a : Int32) : zR :=
  if fx_tam x = 0 then if ¬ sAcc a = 0 then .inl (some (.int (cTurn (fx_words x) (fx_rep x) a (nI n) n)), wx x m o) else xIAE (wx x m o)
  else xISE (wx x m o)
def xOpn (x : XS) (a f g it : Int32) (v : Nat) : XS := sx_cur (sx_last (sx_acct (sx_place (sx_size x (nI (cOpn (fx_words x) (fx_rep x) a f g it (fx_cur x) v).1)) 0) a) (-1)) (cOpn (fx_words x) (fx_rep x) a f g it (fx_cur x) v).2
def rOpen (x : XS) (m : MS) (o : Nat → Int64) (a f g it : Int32) : zR :=
  if fx_tam x = 0 then if sAcc a = 0 then xIAE (wx x m o) else if sDay f = 0 then xIAE (wx x m o) else if sDay g = 0 then xIAE (wx x m o) else if sTime (fx_vc x) it = 0 then xIAE (wx x m o) else
    .inl (some (.int (nI (cOpn (fx_words x) (fx_rep x) a f g it (fx_cur x) it.toNatClampNeg).1)), wx (xOpn x a f g it it.toNatClampNeg) m o)
  else xISE (wx x m o)
def rNext (x : XS) (m : MS) (o : Nat → Int64) : zR :=
  if fx_tam x = 0 then if fx_place x < fx_size x then .inl (some (.int (fx_words x (6 * (fx_cur x (fx_place x).toNatClampNeg).toNatClampNeg + 1))), wx (sx_place (sx_last x (fx_cur x (fx_place x).toNatClampNeg)) (fx_place x + 1)) m o) else .inl (some (.int (-1)), wx (sx_last x (-1)) m o)
  else xISE (wx x m o)
def rMoved (x : XS) (m : MS) (o : Nat → Int64) : zR :=
  if fx_tam x = 0 then if fx_last x = -1 then .inl (some (.int 0), wx x m o) else .inl (some (.int (sMoved (fx_words x) (fx_last x).toNatClampNeg (fx_acct x))), wx x m o)
  else xISE (wx x m o)
def rField (x : XS) (m : MS) (o : Nat → Int64) (en k it : Int32) : zR :=
  if fx_tam x = 0 then if sWrd k = 0 then .inl (some (.int (-1)), wx x m o) else if sTime (fx_vc x) it = 0 then .inl (some (.int (-1)), wx x m o) else match sLast (fx_words x) en it.toNatClampNeg with
    | none => .inl (some (.int (-1)), wx x m o)
    | some u => .inl (some (.int (fx_words x (6 * u + k.toNatClampNeg))), wx x m o)
  else xISE (wx x m o)
def rEnt (x : XS) (m : MS) (o : Nat → Int64) : zR := if fx_tam x = 0 then .inl (some (.int (fx_ec x)), wx x m o) else xISE (wx x m o)
def rTamp (x : XS) (m : MS) (o : Nat → Int64) (v k b : Int32) : zR :=
  if sVer (fx_vc x) v = 0 then .inl (some (.int 0), wx x m o) else if sWrd k = 0 then .inl (some (.int 0), wx x m o) else .inl (some (.int 1), wx (sx_tam (sx_words x (upd (fx_words x) (6 * v.toNatClampNeg + k.toNatClampNeg) b)) 1) m o)
theorem sTime_of {n : Nat} {t : Int32} (hn : n ≤ 64) (h : ¬ sTime (nI n) t = 0) : ∃ j, j ≤ n ∧ t = nI j := by
  unfold sTime at h
  by_cases h1 : t < 0
  · rw [if_pos h1] at h; exact absurd rfl h
  · rw [if_neg h1] at h
    by_cases h2 : nI n < t
    · rw [if_pos h2] at h; exact absurd rfl h
    · obtain ⟨j, hj, e⟩ := nI_of h1
      subst e
      exact ⟨j, by rw [nI_ltI (by omega) hj] at h2; omega, rfl⟩
theorem sVer_of {n : Nat} {v : Int32} (hn : n ≤ 64) (h : ¬ sVer (nI n) v = 0) : ∃ j, j < n ∧ v = nI j := by
  unfold sVer at h
  by_cases h1 : v < 0
  · rw [if_pos h1] at h; exact absurd rfl h
  · rw [if_neg h1] at h
    by_cases h2 : nI n ≤ v
    · rw [if_pos h2] at h; exact absurd rfl h
    · obtain ⟨j, hj, e⟩ := nI_of h1
      subst e
      exact ⟨j, by rw [nI_leI (by omega) hj] at h2; omega, rfl⟩
theorem sWrd_of {k : Int32} (h : ¬ sWrd k = 0) : ∃ j, j < 6 ∧ k = nI j := by
  unfold sWrd at h
  by_cases h1 : k < 0
  · rw [if_pos h1] at h; exact absurd rfl h
  · rw [if_neg h1] at h
    by_cases h2 : (6 : Int32) ≤ k
    · rw [if_pos h2] at h; exact absurd rfl h
    · obtain ⟨j, hj, e⟩ := nI_of h1
      subst e
      rw [show (6 : Int32) = nI 6 from rfl, nI_leI (by omega) hj] at h2
      exact ⟨j, by omega, rfl⟩
theorem nI_m1 {v : Nat} (h : v < 2 ^ 31) : ¬ nI v = -1 := by
  intro e
  have h1 := nI_toInt h
  rw [e] at h1
  have h2 : (-1 : Int32).toInt = -1 := by decide
  omega
theorem i32_nlt {a b : Int32} (h : b ≤ a) : ¬ a < b := by
  rw [Int32.lt_iff_toInt_lt]
  rw [Int32.le_iff_toInt_le] at h
  omega
theorem i32_lt {a b : Int32} (h : ¬ b ≤ a) : a < b := by
  rw [Int32.lt_iff_toInt_lt]
  rw [Int32.le_iff_toInt_le] at h
  omega
theorem sCmp_lt {a b : Int32} (h : sCmp a b < 0) : a < b := by
  unfold sCmp at h
  by_cases h1 : a < b
  · exact h1
  · rw [if_neg h1] at h
    by_cases h2 : a = b
    · rw [if_pos h2] at h; exact absurd h (by decide)
    · rw [if_neg h2] at h; exact absurd h (by decide)
theorem sCmp_nlt {a b : Int32} (h : ¬ sCmp a b < 0) : ¬ a < b := by
  intro h1
  unfold sCmp at h
  rw [if_pos h1] at h
  exact h (by decide)
theorem sCmp_eq {a b : Int32} (h : sCmp a b = 0) : a = b := by
  unfold sCmp at h
  by_cases h1 : a < b
  · rw [if_pos h1] at h; exact absurd h (by decide)
  · rw [if_neg h1] at h
    by_cases h2 : a = b
    · exact h2
    · rw [if_neg h2] at h; exact absurd h (by decide)
theorem sCmp_ne {a b : Int32} (h : ¬ sCmp a b = 0) : ¬ a = b := by
  intro h1
  subst h1
  apply h
  unfold sCmp
  rw [if_neg (i32_irr a), if_pos rfl]
theorem insL_stop {wd cv : Nat → Int32} {u p : Nat} (h : sBfr wd u (cv p).toNatClampNeg = 0) : insL wd u (p + 1) cv = (p + 1, cv) := by
  show (if sBfr wd u (cv p).toNatClampNeg = 0 then (p + 1, cv) else _) = _
  rw [if_pos h]
theorem insL_on {wd cv : Nat → Int32} {u p : Nat} (h : ¬ sBfr wd u (cv p).toNatClampNeg = 0) : insL wd u (p + 1) cv = insL wd u p (upd cv (p + 1) (cv p)) := by
  show (if sBfr wd u (cv p).toNatClampNeg = 0 then (p + 1, cv) else _) = _
  rw [if_neg h]
theorem lt64 {n : Nat} {c : Int32} (hvc : c = nI n) (hn : n ≤ 64) (h : c < 64) : n < 64 := by
  rw [hvc, show (64 : Int32) = nI 64 from rfl, nI_ltI (by omega) (by omega)] at h
  exact h
theorem nI_ltI_of {a z : Nat} (h : nI a < nI z) (ha : a < 2 ^ 31) (hz : z ≤ 64) : a < z := (nI_ltI ha (by omega)).mp h
theorem nI_lt_of {k z : Nat} (h : ¬ nI z ≤ nI k) (hz : z ≤ 64) (hk : k < 2 ^ 31) : k < z := by
  rw [nI_leI (by omega) hk] at h
  omega
theorem sDay_of {k : Int32} (h : ¬ sDay k = 0) : ∃ j, j < 1000 ∧ k = nI j := by
  unfold sDay at h
  by_cases h1 : k < 0
  · rw [if_pos h1] at h; exact absurd rfl h
  · rw [if_neg h1] at h
    by_cases h2 : (1000 : Int32) ≤ k
    · rw [if_pos h2] at h; exact absurd rfl h
    · obtain ⟨j, hj, e⟩ := nI_of h1
      subst e
      rw [show (1000 : Int32) = nI 1000 from rfl, nI_leI (by omega) hj] at h2
      exact ⟨j, by omega, rfl⟩
theorem six {k : Int32} (h : k ≤ 5) : ¬ 6 ≤ k := by
  rw [Int32.le_iff_toInt_le] at *
  have h1 : (5 : Int32).toInt = 5 := by decide
  have h2 : (6 : Int32).toInt = 6 := by decide
  omega
theorem ix_at {a k : Nat} (ha : a < 64) (hk : k < 6) : (nI a * 6 + nI k).toNatClampNeg = 6 * a + k := by
  rw [show (6 : Int32) = nI 6 from rfl, pk_mul, nI_add, nI_clamp (by omega)]
  omega
theorem ix_in {a k : Nat} (ha : a < 64) (hk : k < 6) : vp_in (nI a * 6 + nI k) 384 := by
  rw [show (6 : Int32) = nI 6 from rfl, pk_mul, nI_add]
  exact vp_in_nI (by omega) (by omega)
theorem iy_at {a k : Nat} (ha : a < 64) (hk : k < 6) : (6 * nI a + nI k).toNatClampNeg = 6 * a + k := by
  rw [show (6 : Int32) = nI 6 from rfl, pk_mul, nI_add, nI_clamp (by omega)]
theorem iy_in {a k : Nat} (ha : a < 64) (hk : k < 6) : vp_in (6 * nI a + nI k) 384 := by
  rw [show (6 : Int32) = nI 6 from rfl, pk_mul, nI_add]
  exact vp_in_nI (by omega) (by omega)
theorem i1_at {a : Nat} (ha : a < 64) : (nI a).toNatClampNeg = a := nI_clamp (by omega)
theorem i1_in {a : Nat} (ha : a < 64) : vp_in (nI a) 64 := vp_in_nI ha (by omega)
end
section
def sBel (wd : Nat → Int32) (v : Nat) (a : Int32) : Int32 := if wd (6 * v + 0) = 2 then 0 else if wd (6 * v + 2) = a then 1 else if wd (6 * v + 3) = a then 1 else 0
def sPut (wd : Nat → Int32) (a : Int32) (v : Nat) : Int32 := if wd (6 * v + 2) = a then wd (6 * v + 4) else -wd (6 * v + 4)
def mApp (m : MS) (n : Nat) (k e d c a y : Int32) : MS := sm_clock (sm_links (sm_words m (wApp (fm_words m) n k e d c a y)) (kApp (wApp (fm_words m) n k e d c a y) (fm_links m) n)) (nI n + 1)
def sMuch (wd : Nat → Int32) (a : Int32) (n e : Nat) (b : Int64) : Int32 := if lg_cmp (mTurn wd a n e + b) 2147483647 ≤ 0 then 0 else 1
def sLiv (wd : Nat → Int32) (n e : Nat) (en : Int32) : Option Nat := if en < 0 then none else if nI e ≤ en then none else match sLast wd en n with
  | none => none
  | some v => if wd (6 * v + 0) = 2 then none else some v
def qC (x : XS) (m : MS) (o : Nat → Int64) (k : Int32) : zR := .inl (some (.int 0), wx x (sm_code m k) o)
def qPost (x : XS) (m : MS) (o : Nat → Int64) (n e : Nat) (d c a y : Int32) : zR :=
  if fm_touched m = 0 then if sAcc d = 0 then qC x m o 2 else if sAcc c = 0 then qC x m o 2 else if d = c then qC x m o 2 else if a ≤ 0 then qC x m o 2 else if sDay y = 0 then qC x m o 2 else
    if fm_clock m = 64 then qC x m o 3 else if sMuch (fm_words m) d n e a.toInt64 = 0 then if sMuch (fm_words m) c n e a.toInt64 = 0 then .inl (some (.int (nI e + 1 - 1)), wx x (sm_entries (mApp (sm_code m 0) n 0 (nI e) d c a y) (nI e + 1)) o) else qC x m o 4 else qC x m o 4
  else qC x m o 1
def qCorr (x : XS) (m : MS) (o : Nat → Int64) (n e : Nat) (en a : Int32) : zR :=
  if fm_touched m = 0 then match sLiv (fm_words m) n e en with
    | none => qC x m o 2
    | some u => if 1 ≤ a then if fm_clock m = 64 then qC x m o 4 else
        if sMuch (fm_words m) (fm_words m (6 * u + 2)) n e (a.toInt64 - (fm_words m (6 * u + 4)).toInt64) = 0 then if sMuch (fm_words m) (fm_words m (6 * u + 3)) n e (a.toInt64 - (fm_words m (6 * u + 4)).toInt64) = 0 then
          .inl (some (.int (nI n)), wx x (mApp (sm_code m 0) n 1 en (fm_words m (6 * u + 2)) (fm_words m (6 * u + 3)) a (fm_words m (6 * u + 5))) o) else qC x m o 5 else qC x m o 5
      else qC x m o 3
  else qC x m o 1
def qAnn (x : XS) (m : MS) (o : Nat → Int64) (n e : Nat) (en : Int32) : zR :=
  if fm_touched m = 0 then match sLiv (fm_words m) n e en with
    | none => qC x m o 2
    | some u => if fm_clock m = 64 then qC x m o 3 else .inl (some (.int (nI n)), wx x (mApp (sm_code m 0) n 2 en (fm_words m (6 * u + 2)) (fm_words m (6 * u + 3)) 0 (fm_words m (6 * u + 5))) o)
  else qC x m o 1
def qBal (x : XS) (m : MS) (o : Nat → Int64) (e : Nat) (a d it : Int32) : zR :=
  if fm_touched m = 0 then if sAcc a = 0 then qC x m o 2 else if sDay d = 0 then qC x m o 2 else if sTime (fm_clock m) it = 0 then qC x m o 2 else .inl (some (.int (mBal (fm_words m) a d it.toNatClampNeg e)), wx x (sm_code m 0) o)
  else qC x m o 1
def qTrial (x : XS) (m : MS) (o : Nat → Int64) (e : Nat) (d it : Int32) : zR :=
  if fm_touched m = 0 then if sDay d = 0 then qC x m o 2 else if sTime (fm_clock m) it = 0 then qC x m o 2 else .inl (some (.int (mTrial (fm_words m) d it.toNatClampNeg e 16)), wx x (sm_code m 0) o)
  else qC x m o 1
def qTurn (x : XS) (m : MS) (o : Nat → Int64) (n e : Nat) (a : Int32) : zR :=
  if fm_touched m = 0 then if sAcc a = 0 then qC x m o 2 else .inl (some (.int (mTurn (fm_words m) a n e).toInt32), wx x (sm_code m 0) o)
  else qC x m o 1
def mOpn (m : MS) (a : Int32) (l : List Nat) : MS := sm_puts (sm_list (sm_ans (sm_at (sm_count (sm_code m 0) (nI l.length)) 0) 0) (aPut (fm_list m) (l.map (fE (fm_words m))))) (aPut (fm_puts m) (l.map (sPut (fm_words m) a)))
def qOpen (x : XS) (m : MS) (o : Nat → Int64) (e : Nat) (a f g it : Int32) : zR :=
  if fm_touched m = 0 then if sAcc a = 0 then qC x m o 2 else if sDay f = 0 then qC x m o 2 else if sDay g = 0 then qC x m o 2 else if sTime (fm_clock m) it = 0 then qC x m o 2 else
    .inl (some (.int (nI (mOut (fm_words m) a it.toNatClampNeg e f.toNatClampNeg (g.toNatClampNeg + 1 - f.toNatClampNeg)).length)), wx x (mOpn m a (mOut (fm_words m) a it.toNatClampNeg e f.toNatClampNeg (g.toNatClampNeg + 1 - f.toNatClampNeg))) o)
  else qC x m o 1
def qNext (x : XS) (m : MS) (o : Nat → Int64) : zR :=
  if fm_touched m = 0 then if fm_count m ≤ fm_at m then .inl (some (.int (-1)), wx x (sm_at (sm_ans (sm_code m 0) 0) (fm_at m)) o) else .inl (some (.int (fm_list m (fm_at m + 1 - 1).toNatClampNeg)), wx x (sm_at (sm_ans (sm_code m 0) 1) (fm_at m + 1)) o)
  else qC x m o 1
def qMoved (x : XS) (m : MS) (o : Nat → Int64) : zR :=
  if fm_touched m = 0 then if fm_ans m = 0 then qC x m o 0 else .inl (some (.int (fm_puts m (fm_at m - 1).toNatClampNeg)), wx x (sm_code m 0) o)
  else qC x m o 1
def qN (x : XS) (m : MS) (o : Nat → Int64) : zR := .inl (some (.int (-1)), wx x (sm_code m 0) o)
def qField (x : XS) (m : MS) (o : Nat → Int64) (en k it : Int32) : zR :=
  if fm_touched m = 0 then if en < 0 then qN x m o else if fm_entries m ≤ en then qN x m o else if k < 0 then qN x m o else if 6 ≤ k then qN x m o else if sTime (fm_clock m) it = 0 then qN x m o else match sLast (fm_words m) en it.toNatClampNeg with
    | none => qN x m o
    | some u => .inl (some (.int (fm_words m (6 * u + k.toNatClampNeg))), wx x (sm_code m 0) o)
  else qC x m o 1
def qEnt (x : XS) (m : MS) (o : Nat → Int64) : zR := if fm_touched m = 0 then .inl (some (.int (fm_entries m)), wx x (sm_code m 0) o) else qC x m o 1
def qTamp (x : XS) (m : MS) (o : Nat → Int64) (v k b : Int32) : zR :=
  if v < 0 then qC x m o 0 else if fm_clock m ≤ v then qC x m o 0 else if k < 0 then qC x m o 0 else if k ≤ 5 then .inl (some (.int 1), wx x (sm_touched (sm_words (sm_code m 0) (upd (fm_words m) (6 * v.toNatClampNeg + k.toNatClampNeg) b)) 1) o) else qC x m o 0
theorem sLiv_lt {wd : Nat → Int32} {n e u : Nat} {en : Int32} (h : sLiv wd n e en = some u) : u < n := by
  unfold sLiv at h
  split at h
  · cases h
  · split at h
    · cases h
    · cases q : sLast wd en n with
      | none => rw [q] at h; cases h
      | some v =>
        rw [q] at h
        simp only at h
        split at h
        · cases h
        · cases h
          exact (mL_lt n q).1
theorem i32_nn {a : Int32} (h : ¬ a < 0) : 0 ≤ a := by
  rw [Int32.lt_iff_toInt_lt] at h
  rw [Int32.le_iff_toInt_le]
  omega
theorem ne64 {n : Nat} {c : Int32} (hc : c = nI n) (hn : n ≤ 64) (h : ¬ c = 64) : n < 64 := by
  rcases Nat.lt_or_ge n 64 with z | z
  · exact z
  · exfalso
    apply h
    rw [hc, show n = 64 by omega]
    rfl
theorem mTake_none {wd : Nat → Int32} {a y : Int32} {t j : Nat} (h : sLast wd (nI j) t = none) : mTake wd a y t j = [] := by
  unfold mTake; rw [h]
theorem mTake_bel {wd : Nat → Int32} {a y : Int32} {t j v : Nat} (h : sLast wd (nI j) t = some v) (h2 : sBel wd v a = 0) : mTake wd a y t j = [] := by
  unfold mTake; rw [h]
  unfold sBel at h2
  simp only
  by_cases h3 : wd (6 * v + 0) = 2
  · rw [if_pos h3]
  · rw [if_neg h3] at h2 ⊢
    rw [if_pos]
    unfold sTouch
    exact h2
theorem mTake_day {wd : Nat → Int32} {a y : Int32} {t j v : Nat} (h : sLast wd (nI j) t = some v) (h2 : ¬ wd (6 * v + 5) = y) : mTake wd a y t j = [] := by
  unfold mTake; rw [h]
  simp only
  split
  · rfl
  · split
    · rfl
    · first | rfl | rw [if_neg h2]
theorem mTake_one {wd : Nat → Int32} {a y : Int32} {t j v : Nat} (h : sLast wd (nI j) t = some v) (h2 : ¬ sBel wd v a = 0) (h3 : wd (6 * v + 5) = y) : mTake wd a y t j = [v] := by
  unfold mTake; rw [h]
  unfold sBel at h2
  simp only
  by_cases h4 : wd (6 * v + 0) = 2
  · rw [if_pos h4] at h2; exact absurd rfl h2
  · rw [if_neg h4] at h2 ⊢
    rw [if_neg (show ¬ sTouch wd v a = 0 from h2), if_pos h3]
theorem mO_step {m : MS} {a : Int32} {l : List Nat} {v j : Nat} {V : Int32} (hv : fE (fm_words m) v = nI j) (hV : sPut (fm_words m) a v = V) :
    sm_puts (sm_list (sm_ans (sm_at (sm_count (sm_code m 0) (nI l.length + 1)) 0) 0) (upd (aPut (fm_list m) (l.map (fE (fm_words m)))) l.length (nI j))) (upd (aPut (fm_puts m) (l.map (sPut (fm_words m) a))) l.length V) = mOpn m a (l ++ [v]) := by
  unfold mOpn
  rw [List.map_append, List.map_append, List.length_append]
  show _ = sm_puts (sm_list (sm_ans (sm_at (sm_count (sm_code m 0) (nI (l.length + 1))) 0) 0) (aPut (fm_list m) (l.map (fE (fm_words m)) ++ [fE (fm_words m) v]))) (aPut (fm_puts m) (l.map (sPut (fm_words m) a) ++ [sPut (fm_words m) a v]))
  rw [← aPut_app, ← aPut_app, List.length_map, List.length_map, hv, hV, nI_succ]
end
section
/-! The same for a class whose constructor hands the text on by another place of its pool than 7. -/
def zxAtoms (own : String) (ic : Nat) (X Y : String) (ix : Nat) (rx : ByteArray) (names : List String) : List Jvm.Cond :=
  Jvm.Bundle.throwableAtoms ++ (Jvm.Bundle.throwableSAtoms ++ (Jvm.Bundle.passSAtoms X Y ix rx ++ (Jvm.Bundle.chainSAtoms Y names ++
  [.methodLink own ic (Jvm.Bundle.initS X), .instantiable X 6, .selects X Jvm.Bundle.tFill0 Jvm.Bundle.tFill0, .selects X Jvm.Bundle.tFill Jvm.Bundle.tFill,
   .lays X Jvm.Bundle.tN "cause" "Ljava/lang/Throwable;", .lays X Jvm.Bundle.tN "stackTrace" Jvm.Bundle.steD, .lays X Jvm.Bundle.tN "suppressedExceptions" Jvm.Bundle.listD, .lays X Jvm.Bundle.tN "detailMessage" "Ljava/lang/String;",
   .isRef (.static Jvm.Bundle.tN "UNASSIGNED_STACK" Jvm.Bundle.steD), .isRef (.static Jvm.Bundle.tN "SUPPRESSED_SENTINEL" Jvm.Bundle.listD),
   .fieldLink Jvm.Bundle.tN 198 Jvm.Bundle.tN "backtrace" "Ljava/lang/Object;", .lays Jvm.Bundle.tN Jvm.Bundle.tN "backtrace" "Ljava/lang/Object;", .lays X Jvm.Bundle.tN "backtrace" "Ljava/lang/Object;"])))
theorem zx_ctor {p : Program} {l : Launch} {e : Env} {R : Room} {s : State} {m₀ : MethodId} {args : Array Value} {below : List Frame} {meth : Method} {c : Code} {V : State} {cells slots : Nat} (X : Stand p l e R s m₀ args below meth c V [] cells slots) (hexec : p.tables.exec = Jvm.exec) (htr : e.platform.stackTraces = false)
    {own cls Y : String} {names : List String} {ic ix : Nat} {rx : ByteArray} (x0 : decode rx 0 = .ok (.aload_n 0, 1)) (x1 : decode rx 1 = .ok (.aload_n 1, 1)) (x2 : decode rx 2 = .ok (.invokespecial ix, 3)) (x5 : decode rx 5 = .ok (.return_, 1))
    (hown : s.vm.findClass own = some m₀.cls) (hcls : Jvm.Bundle.fit cls = true) (hY : Jvm.Bundle.fit Y = true) (hnames : ∀ n ∈ names, Jvm.Bundle.fit n = true) (h : ∀ a ∈ zxAtoms own ic cls Y ix rx names, a.before args s = true)
    {a : Addr} {cX : ClassId} {kX : Class} (hfoundX : s.vm.findClass cls = some cX) (hkX : s.vm.classes[cX]? = some kX) (hcell : V.heap[a]? = some (freshCell cX kX)) (hnew : s.heap.size ≤ a) {msg : Value} (hmsg : msg.isRef = true)
    {g : JFrame} (hg : g.method = m₀) (hsize : g.locals.size = c.maxLocals) (hlocked : g.locked = none) (hentered : g.entered = []) {rest : List Value} (hstack : g.stack = msg :: .ref a :: .ref a :: rest)
    (hd6 : decode c.code g.pc = .ok (.invokespecial ic, 3)) (hd9 : decode c.code (g.pc + 3) = .ok (.athrow, 1)) (hout : ∀ x ∈ c.exceptionTable.toList, covers x (g.pc + 3) = false)
    (hRf : names.length + 4 < R.frames) (hRl : 2 * g.monitorRoom + ((Value.ref a :: rest).map fun v => v.category).sum + (13 * (names.length + 2) + 42) ≤ R.locals) (hlocks : meth.locks = false) :
    ∃ U : State, Steps p.tables e below (V.setTop g) U ∧ U.status = .running ∧ Ended U below (.threw a) ∧ s.WarmedH U.vm ∧ s.sameButNew ({ U with vm := s.vm } : State) [] cells slots ∧
      ∃ ce, U.heap[a]? = some ce ∧ s.vm.findClass cls = some ce.cls ∧ ce.vm = .none := by
  have hpl : e.platform.magicAccessors = ({} : Platform).magicAccessors := by rw [X.admits.platform]
  have hin : ∀ x, x ∈ zxAtoms own ic cls Y ix rx names → x.holds args s none s [] = true := fun x hx => h x hx
  obtain ⟨T, Z0, L, -, K⟩ := ThrowableC.of_atoms (args := args) (by rw [X.admits.platform]) (by rw [X.admits.platform]) hpl (fun x hx => h x (by simp [zxAtoms, hx]))
  obtain ⟨Z1, M, LZ, LM, hnZ⟩ := Init0T.ofS_atoms (args := args) hpl L K (fun x hx => h x (by simp [zxAtoms, hx]))
  obtain ⟨P1, L1, hP1m, hP1s⟩ := PassC.ofS_atoms (args := args) (s := s) hpl (X := cls) (Y := Y) (Jvm.Bundle.fit_spec hcls).1 (Jvm.Bundle.fit_spec hY).2 x0 x1 x2 x5 (fun x hx => h x (by simp [zxAtoms, hx]))
  obtain ⟨P2, Ps, hlen, L2, hL, hP2m, hlink1, hlink⟩ := Jvm.Bundle.chainS (args := args) hpl hnZ names Y hY hnames (fun x hx => h x (by simp [zxAtoms, hx]))
  have hsup : P1.sup = P2.m := Option.some.inj (hP1s.symm.trans hP2m)
  have hfound : s.vm.findClass cls = some P1.m.cls := findClass_of_methodNamed hP1m
  cases Option.some.inj (hfoundX.symm.trans hfound)
  obtain ⟨c1, kX', hc1, hk, hord, -, -, -⟩ := Cond.instantiable_spec (hin (.instantiable cls 6) (by simp [zxAtoms]))
  cases Option.some.inj (hc1.symm.trans hfound)
  cases Option.some.inj (hkX.symm.trans hk)
  have hsel : ∀ (tm : MethodName) (mk : MethodId), s.methodNamed? tm = some mk → (tm.cls ≠ "java/lang/invoke/MethodHandle" ∧ tm.cls ≠ "java/lang/invoke/VarHandle") → (Jvm.Cond.selects cls tm tm).holds args s none s [] = true → selectMethod e.platform s.vm P1.m.cls mk = .method mk := by
    intro tm mk g1 g2 g3
    obtain ⟨c2, r2, m2, q1, q2, q3, q4, -⟩ := Cond.selects_spec g3
    cases Option.some.inj (q1.symm.trans hfound)
    cases Option.some.inj (q2.symm.trans (State.methodFound?_of_named g1 g2))
    cases Option.some.inj (q3.symm.trans g1)
    rw [Launch.admits_selectMethod X.admits]; exact q4
  obtain ⟨cellS0, hcS0, hiss⟩ := K.statics
  obtain ⟨u0, hu0⟩ := Cond.staticRefV K.unassigned L.unassignedStatic L.statics hcS0 hiss (hin (.isRef (.static Jvm.Bundle.tN "UNASSIGNED_STACK" Jvm.Bundle.steD)) (by simp [zxAtoms]))
  obtain ⟨sen, hsen⟩ := Cond.staticRefV K.sentinel L.sentinelStatic L.statics hcS0 hiss (hin (.isRef (.static Jvm.Bundle.tN "SUPPRESSED_SENTINEL" Jvm.Bundle.listD)) (by simp [zxAtoms]))
  obtain ⟨ci198, i198, fB, hk198, hg198, ha198, hsB, -, hnB, htB, hffB⟩ := Cond.ownField (t := .object "java/lang/Object") K.found L.cls (by decide +kernel) (hin (.fieldLink Jvm.Bundle.tN 198 Jvm.Bundle.tN "backtrace" "Ljava/lang/Object;") (by simp [zxAtoms])) (hin (.lays Jvm.Bundle.tN Jvm.Bundle.tN "backtrace" "Ljava/lang/Object;") (by simp [zxAtoms])) e.platform hpl
  obtain ⟨cellS, hcS', heS, -, hkeep⟩ := X.same.2.2.2.2.2 T.aS cellS0 hcS0
  have hcellS : V.heap[T.aS]? = some cellS := hcS'
  have hout' : ∀ i, (⟨T.aS, i⟩ : Loc) ∉ ([] : List Loc) := fun i hmem => by cases hmem
  have hknownS : cellS.vm ≠ .unknown := by
    rw [heS]; intro hu
    rw [show cellS0.vm = .unknown from hu] at hiss
    cases hiss
  have hneS : T.aS ≠ a := Nat.ne_of_lt (Nat.lt_of_lt_of_le (Array.getElem?_eq_some_iff.mp hcS0).1 hnew)
  obtain ⟨iM, hffM⟩ := K.msg
  obtain ⟨tyC, dC, hdC, hdnC⟩ := Cond.laysAt hfound hk K.cause (hin (.lays cls Jvm.Bundle.tN "cause" "Ljava/lang/Throwable;") (by simp [zxAtoms]))
  obtain ⟨tyS, dS, hdS, hdnS⟩ := Cond.laysAt hfound hk K.stack (hin (.lays cls Jvm.Bundle.tN "stackTrace" Jvm.Bundle.steD) (by simp [zxAtoms]))
  obtain ⟨tyP, dP, hdP, hdnP⟩ := Cond.laysAt hfound hk K.supp (hin (.lays cls Jvm.Bundle.tN "suppressedExceptions" Jvm.Bundle.listD) (by simp [zxAtoms]))
  obtain ⟨tyM, dM, hdM, hdnM⟩ := Cond.laysAt hfound hk hffM (hin (.lays cls Jvm.Bundle.tN "detailMessage" "Ljava/lang/String;") (by simp [zxAtoms]))
  obtain ⟨tyB, dB, hdB, hdnB⟩ := Cond.laysAt hfound hk hffB (hin (.lays cls Jvm.Bundle.tN "backtrace" "Ljava/lang/Object;") (by simp [zxAtoms]))
  have bC := Cond.laysApart hdB hdC hdnB hdnC (by rw [hnB, K.causeName]; decide)
  have bS := Cond.laysApart hdB hdS hdnB hdnS (by rw [hnB, K.stackName]; decide)
  have bP := Cond.laysApart hdB hdP hdnB hdnP (by rw [hnB, K.suppName]; decide)
  have hskip : SkipFacts T e.platform s (fun u => u) u0 ((preparedCellV T.toThrowableT (freshCell P1.m.cls kX) a u0 sen).withEntry V.cur) :=
    ⟨{ ci198 := ci198, i198 := i198, fBack := fB }, ⟨hk198, hg198, ha198, hsB⟩, by
      have := fresh_default (c := P1.m.cls) tyB
      rw [htB] at this
      simpa [preparedCellV, Cell.setSlot, Cell.withEntry, Array.getElem?_setIfInBounds, bC, bS, bP, bC.symm, bS.symm, bP.symm, defaultValue] using this, fun _ _ => rfl⟩
  obtain ⟨tm, methC, cdC, kC, vm₁, hnC, -, -, -, -, -, -, -, hW₁, st1⟩ := Steps.initColdS (tb := p.tables) (e := e) (below := below) (s := s) (U := V) X.here hexec X.warmed hpl hown (t := Jvm.Bundle.initS cls) rfl rfl (Jvm.Bundle.fit_spec hcls).2
    (hin (.methodLink own ic (Jvm.Bundle.initS cls)) (by simp [zxAtoms])) (h (.instanceMethod (Jvm.Bundle.initS cls)) (by simp [zxAtoms, Jvm.Bundle.passSAtoms])) (bytes := rx) (maxL := 2) (h (.code (Jvm.Bundle.initS cls) rx 2 none) (by simp [zxAtoms, Jvm.Bundle.passSAtoms]))
    (f := g) hg (a := a) (msg := msg) (rest := .ref a :: rest) hstack hd6
  cases Option.some.inj (hnC.symm.trans hP1m)
  have X₁ := X.noted hW₁
  obtain ⟨vm₂, X₂, st2⟩ := X₁.ctorMessageOffV hexec (g := { g with stack := .ref a :: rest }) hg hsize T L Z1 LZ M LM (P1 :: P2 :: Ps)
    (fun P hP => by
      rcases List.mem_cons.mp hP with rfl | hP
      · exact L1
      · rcases List.mem_cons.mp hP with rfl | hP
        · exact L2
        · exact hL P hP) ⟨hsup, hlink1, hlink⟩ (u0 := u0) (sen := sen) (self := a) hmsg (cell := freshCell P1.m.cls kX) (cellS := cellS)
    hcell (fun _ => by simp) (by simp) rfl rfl (hsel _ _ K.fill0 (by decide) (hin (.selects cls Jvm.Bundle.tFill0 Jvm.Bundle.tFill0) (by simp [zxAtoms]))) (hsel _ _ K.fill (by decide) (hin (.selects cls Jvm.Bundle.tFill Jvm.Bundle.tFill) (by simp [zxAtoms]))) hcellS hneS hknownS (by rw [hkeep _ (hout' _)]; exact hu0) (by rw [hkeep _ (hout' _)]; exact hsen)
    (Takes.of_laid hk hord tyC (by rw [K.causeType]; rfl)) (Takes.of_laid hk hord tyS (by rw [K.stackType]; exact fits_refV_array _ u0)) (Takes.of_laid hk hord tyP (by rw [K.suppType]; exact fits_refV_object _ sen))
    (Takes.of_laid hk hord tyM (by rw [K.msgType]; exact fits_refV_object _ ⟨msg, hmsg⟩)) K.objLocals hskip htr [] hd6
    (by simp only [List.length_cons, hlen]; omega) (by simp only [List.length_cons, hlen]; exact hRl)
  obtain ⟨hwalk, hrun, hended, hWU, hsame⟩ := X₂.athrowLeaves hexec (g := { g with stack := .ref a :: rest, pc := g.pc + 3 }) hg hlocked hentered hout (a := a) (rest := rest) rfl hd9 (hlocks := hlocks)
  have hlt : a < ((V.setVm vm₁).setVm vm₂).heap.size := (Array.getElem?_eq_some_iff.mp hcell).1
  have hU := heapAt_setCell_self (s := (V.setVm vm₁).setVm vm₂) (plainBareV T.toThrowableT (freshCell P1.m.cls kX) a u0 sen msg) hlt
  refine ⟨_, st1 _ (fun acts => ?_), hrun, hended, hWU, hsame.weaken (fun z hz hlt' => ?_) (Nat.le_refl _) (Nat.le_refl _), _, hU, hfound, rfl⟩
  · rw [doInvoke_state]
    exact st2 _ hwalk
  · rcases List.mem_append.mp hz with h1 | h1
    · exact h1
    · exfalso
      have hb : z.base = a := by
        simp only [List.mem_cons, List.not_mem_nil, or_false] at h1
        rcases h1 with rfl | rfl | rfl | rfl | rfl <;> rfl
      rw [hb] at hlt'
      exact Nat.not_lt.mpr hnew hlt'
def zownN (own : String) (i0 i1 i2 : Nat) (Xn tx Y : String) (ix : Nat) (rx : ByteArray) (names : List String) : Prop :=
  Jvm.Cond.classLink own i0 Xn ∈ Tw ∧ Jvm.Cond.instantiable Xn 6 ∈ Tw ∧ Jvm.Cond.initialized Xn ∈ Tw ∧ (own, i1, tx) ∈ zstr ∧ Jvm.Bundle.fit Xn = true ∧ (∀ n ∈ names, Jvm.Bundle.fit n = true) ∧ Jvm.Bundle.fit Y = true ∧
  (decode rx 0 = .ok (.aload_n 0, 1) ∧ decode rx 1 = .ok (.aload_n 1, 1) ∧ decode rx 2 = .ok (.invokespecial ix, 3) ∧ decode rx 5 = .ok (.return_, 1)) ∧
  ∀ a ∈ zxAtoms own i2 Xn Y ix rx names, a ∈ Tw ∨ a = .laysStatic Jvm.Bundle.tN "UNASSIGNED_STACK" Jvm.Bundle.steD ∨ a = .laysStatic Jvm.Bundle.tN "SUPPRESSED_SENTINEL" Jvm.Bundle.listD ∨ a = .isRef (.static Jvm.Bundle.tN "UNASSIGNED_STACK" Jvm.Bundle.steD) ∨ a = .isRef (.static Jvm.Bundle.tN "SUPPRESSED_SENTINEL" Jvm.Bundle.listD)
section ZN
variable {p : Program} {l : Launch} {e : Env} {R : Room} {s : State} {m : MethodId} {args : Array Value} {below : List Frame} {meth : Method} {c : Code} {cc : ByteArray} {nL : Nat} {own : String} {D : va_G} {cI cJ : ClassId} {as : Nat → Nat} {rd : Bool} {kc ks : Nat} {pc : Nat} {lv : List (Option Value)} {w : zW} {res : zR} {gc gs : Nat}
theorem zz_throwN (hfl : l.flags = Jvm.pinnedFlags ++ [Jvm.noTraceFlag]) (G : zok p s m args meth c cc nL own D cI cJ as) {i0 i1 i2 ix : Nat} {Xn tx Y : String} {rx : ByteArray} {names : List String} (hd0 : decode cc pc = .ok (.new i0, 3)) (hd3 : decode cc (pc + 3) = .ok (.dup, 1)) (hd4 : decode cc (pc + 4) = .ok (.ldc i1, 2)) (hd6 : decode cc (pc + 6) = .ok (.invokespecial i2, 3)) (hd9 : decode cc (pc + 9) = .ok (.athrow, 1))
    (ho : zownN own i0 i1 i2 Xn tx Y ix rx names) (hrd : rd = true) (hbd : ∀ k, k < 11 → as k < s.heap.size) (hex : c.exceptionTable.toList = []) (hR : names.length + 4 < R.frames ∧ 13 * (names.length + 2) + 50 ≤ R.locals) (hf : kc + 1 ≤ R.cells ∧ ks + 6 ≤ R.slots) (hres : res = .inr (Xn, w)) (hkc : kc = 0) (hks : ks = 0) :
    Z p l e R s m args below meth c nL D cI cJ as rd kc ks (zMQ below res D cI cJ as rd s gc gs) pc lv [] w := by
  intro ls H locs hl hP hS hr
  have hlocs : locs = [] := hr hrd
  subst hlocs
  subst hkc
  subst hks
  obtain ⟨o1, o2, o3, o4, o5, o6, o8, ⟨x0, x1, x2, x5⟩, o7⟩ := ho
  obtain ⟨q, hq⟩ := G.2.2.2.2.2.2 _ o4
  refine W.newc G.1.1 G.1.2.1 G.1.2.2.2.1 (G.2.1 _ o1) (G.2.1 _ o2) (G.2.1 _ o3) rfl hd0 hf.1 hf.2 (fun cC kC h1 h2 h3 h4 => ?_)
  refine lv_dup (va := .ref H.size) G.1.1 G.1.2.1 hd3 rfl ?_
  refine va_ldcS G.1.1 G.1.2.1 G.1.2.2.2.1 hq hd4 ?_
  intro T hT X
  have hat : ∀ a ∈ zxAtoms own i2 Xn Y ix rx names, a.before args s = true := by
    intro a ha
    rcases o7 a ha with z | z | z | z | z
    · exact G.2.1 _ z
    · rw [z]; exact zst_lays G.2.2.2.2.1
    · rw [z]; exact zst_lays G.2.2.2.2.2.1
    · rw [z]; exact zst_ref G.2.2.2.2.1
    · rw [z]; exact zst_ref G.2.2.2.2.2.1
  have htr : e.platform.stackTraces = false := Launch.traces_off hfl X.admits
  obtain ⟨U, hst, hrun, hend, hWU, hsame, ce, hce, hcl, hvm⟩ := zx_ctor X G.1.1 htr (own := own) (cls := Xn) (Y := Y) (names := names) (ic := i2) x0 x1 x2 x5 G.1.2.2.2.1 o5 o8 o6 hat (a := H.size) h1 h2
    (by rw [hT, Array.getElem?_push_size]) hS.1 (msg := .ref q) rfl (g := F0 m (pc + 3 + 1 + 2) ls [.ref q, .ref H.size, .ref H.size]) rfl (hl.2.1.trans G.1.2.2.1.symm) rfl rfl (rest := []) rfl (by rw [G.1.2.1]; exact hd6) (by rw [G.1.2.1]; exact hd9) (by rw [hex]; intro _ h; cases h)
    hR.1 (by simp [Value.category, JFrame.monitorRoom]; have := hR.2; omega) G.1.2.2.2.2
  subst hres
  obtain ⟨z1, z2⟩ := z_same hsame
  obtain ⟨-, y2⟩ := z_same (U := T) X.same
  refine ⟨U, hst, .threw H.size, hrun, hend, ⟨H.size, rfl, ⟨ce, hce, ?_, hcl⟩, ⟨hP.1, ?_⟩, z1, fun q h1 _ => z2 q h1⟩, [], ⟨hWU, ?_⟩, fun q hq => by cases hq⟩
  · rw [hvm]; rfl
  · refine hP.2.kept (fun k x hx => ?_)
    rw [zwi_get] at hx
    obtain ⟨e1, k1, k2⟩ := Option.map_eq_some_iff.mp hx
    subst k2
    have hk11 : k < 11 := by have := (List.getElem?_eq_some_iff.mp k1).1; rw [hP.1] at this; exact this
    have hlt : as (0 + k) < s.heap.size := by rw [Nat.zero_add]; exact hbd k hk11
    show U.heap[as (0 + k)]? = H[as (0 + k)]?
    rw [z2 _ hlt]
    have h5 := y2 _ hlt
    rw [hT, Array.getElem?_push, if_neg (Nat.ne_of_lt (Nat.lt_of_lt_of_le hlt hS.1))] at h5
    exact h5.symm
  · exact hsame
end ZN
theorem zownN_of {own : String} {i0 i1 i2 ix : Nat} {Xn tx Y : String} {rx : ByteArray} {names : List String} (h0 : (decide (Jvm.Cond.classLink own i0 Xn ∈ lw_tbl) && decide (Jvm.Cond.instantiable Xn 6 ∈ lw_tbl) && decide (Jvm.Cond.initialized Xn ∈ lw_tbl) && decide ((own, i1, tx) ∈ zstr) && Jvm.Bundle.fit Xn && names.all Jvm.Bundle.fit && Jvm.Bundle.fit Y) = true)
    (hx : decode rx 0 = .ok (.aload_n 0, 1) ∧ decode rx 1 = .ok (.aload_n 1, 1) ∧ decode rx 2 = .ok (.invokespecial ix, 3) ∧ decode rx 5 = .ok (.return_, 1))
    (h1 : (zxAtoms own i2 Xn Y ix rx names).all (fun a => (decide (a ∈ lw_tbl) && zgood a) || decide (a = .laysStatic Jvm.Bundle.tN "UNASSIGNED_STACK" Jvm.Bundle.steD) || decide (a = .laysStatic Jvm.Bundle.tN "SUPPRESSED_SENTINEL" Jvm.Bundle.listD) || decide (a = .isRef (.static Jvm.Bundle.tN "UNASSIGNED_STACK" Jvm.Bundle.steD)) || decide (a = .isRef (.static Jvm.Bundle.tN "SUPPRESSED_SENTINEL" Jvm.Bundle.listD))) = true) : zownN own i0 i1 i2 Xn tx Y ix rx names := by
  simp only [Bool.and_eq_true, decide_eq_true_eq] at h0
  obtain ⟨⟨⟨⟨⟨⟨a1, a2⟩, a3⟩, a4⟩, a5⟩, a6⟩, a7⟩ := h0
  refine ⟨Tw_in a1 rfl, Tw_in a2 rfl, Tw_in a3 rfl, a4, a5, List.all_eq_true.mp a6, a7, hx, fun a ha => ?_⟩
  have q := List.all_eq_true.mp h1 a ha
  simp only [Bool.or_eq_true, Bool.and_eq_true, decide_eq_true_eq] at q
  rcases q with (((q | q) | q) | q) | q
  · exact Or.inl (Tw_in q.1 q.2)
  · exact Or.inr (Or.inl q)
  · exact Or.inr (Or.inr (Or.inl q))
  · exact Or.inr (Or.inr (Or.inr (Or.inl q)))
  · exact Or.inr (Or.inr (Or.inr (Or.inr q)))
set_option maxRecDepth 100000 in
set_option maxHeartbeats 4000000 in
theorem ow_146 : zownN "AsOfLedger" 146 148 150 "java/util/NoSuchElementException" "there is no such entry, or it is void" "java/lang/RuntimeException" 13 prog_13_method_4_code ["java/lang/Exception"] := zownN_of (by decide +kernel) (by decide +kernel) (by decide +kernel)
end
section
set_option maxRecDepth 100000 in
set_option maxHeartbeats 4000000 in
theorem ci_compare (l : Launch) (x : XS) (m : MS) (o : Nat → Int64) (a b : Int32) : zC l yI_compare (Jvm.Cond.code yI_compare bI_compare 2 (some .int) :: Tw) 0 true 0 0 [.int a, .int b] (wx x m o) (.inl (some (.int (sCmp a b)), wx x m o)) := by
  refine zC_of [some (.int a), some (.int b)] (by decide) rfl (Nat.le_of_ble_eq_true rfl) ?_
  intro p e s mm args below meth c D cI cJ as G hret hex hbd
  refine zz_iload_n G dI_compare_0 rfl ?_
  refine zz_iload_n G dI_compare_1 rfl ?_
  refine zz_icmp_ge (tgt := 9) G dI_compare_2 rfl (fun h2 => ?_) (fun h2 => ?_)
  · refine zz_iload_n G dI_compare_9 rfl ?_
    refine zz_iload_n G dI_compare_10 rfl ?_
    refine zz_icmp_ne (tgt := 18) G dI_compare_11 rfl (fun h11 => ?_) (fun h11 => ?_)
    · refine zz_iconst (v := 1) G dI_compare_18 (by decide) ?_
      exact zz_iret G hret dI_compare_19 (by rw [show sCmp a b = 1 from by rw [sCmp, if_neg (i32_nlt h2), if_neg h11]]) (Nat.le_of_ble_eq_true rfl) (Nat.le_of_ble_eq_true rfl)
    · refine zz_iconst (v := 0) G dI_compare_14 (by decide) ?_
      refine zz_goto (tgt := 19) G dI_compare_15 rfl ?_
      exact zz_iret G hret dI_compare_19 (by rw [show sCmp a b = 0 from by rw [sCmp, if_neg (i32_nlt h2), if_pos h11]]) (Nat.le_of_ble_eq_true rfl) (Nat.le_of_ble_eq_true rfl)
  · refine zz_iconst (v := -1) G dI_compare_5 (by decide) ?_
    refine zz_goto (tgt := 19) G dI_compare_6 rfl ?_
    exact zz_iret G hret dI_compare_19 (by rw [show sCmp a b = (-1) from by rw [sCmp, if_pos (i32_lt h2)]]) (Nat.le_of_ble_eq_true rfl) (Nat.le_of_ble_eq_true rfl)
set_option maxRecDepth 100000 in
set_option maxHeartbeats 4000000 in
theorem cx_isAccount (l : Launch) (x : XS) (m : MS) (o : Nat → Int64) (a : Int32) : zC l yX_isAccount (Jvm.Cond.code yX_isAccount bX_isAccount 1 (some .boolean) :: Tw) 0 true 0 0 [.int a] (wx x m o) (.inl (some (.int (sAcc a)), wx x m o)) := by
  refine zC_of [some (.int a)] (by decide) rfl (Nat.le_of_ble_eq_true rfl) ?_
  intro p e s mm args below meth c D cI cJ as G hret hex hbd
  refine zz_iload_n G dX_isAccount_0 rfl ?_
  refine zz_if_lt (tgt := 14) G dX_isAccount_1 rfl (fun h1 => ?_) (fun h1 => ?_)
  · refine zz_iconst (v := 0) G dX_isAccount_14 (by decide) ?_
    exact zz_zret G hret dX_isAccount_15 rfl (by rw [show sAcc a = 0 from by rw [sAcc, if_pos h1]]) (Nat.le_of_ble_eq_true rfl) (Nat.le_of_ble_eq_true rfl)
  · refine zz_iload_n G dX_isAccount_4 rfl ?_
    refine zz_bipush (v := 16) G dX_isAccount_5 (by decide) ?_
    refine zz_icmp_ge (tgt := 14) G dX_isAccount_7 rfl (fun h7 => ?_) (fun h7 => ?_)
    · refine zz_iconst (v := 0) G dX_isAccount_14 (by decide) ?_
      exact zz_zret G hret dX_isAccount_15 rfl (by rw [show sAcc a = 0 from by rw [sAcc, if_neg h1, if_pos h7]]) (Nat.le_of_ble_eq_true rfl) (Nat.le_of_ble_eq_true rfl)
    · refine zz_iconst (v := 1) G dX_isAccount_10 (by decide) ?_
      refine zz_goto (tgt := 15) G dX_isAccount_11 rfl ?_
      exact zz_zret G hret dX_isAccount_15 rfl (by rw [show sAcc a = 1 from by rw [sAcc, if_neg h1, if_neg h7]]) (Nat.le_of_ble_eq_true rfl) (Nat.le_of_ble_eq_true rfl)
set_option maxRecDepth 100000 in
set_option maxHeartbeats 4000000 in
theorem cx_isDay (l : Launch) (x : XS) (m : MS) (o : Nat → Int64) (a : Int32) : zC l yX_isDay (Jvm.Cond.code yX_isDay bX_isDay 1 (some .boolean) :: Tw) 0 true 0 0 [.int a] (wx x m o) (.inl (some (.int (sDay a)), wx x m o)) := by
  refine zC_of [some (.int a)] (by decide) rfl (Nat.le_of_ble_eq_true rfl) ?_
  intro p e s mm args below meth c D cI cJ as G hret hex hbd
  refine zz_iload_n G dX_isDay_0 rfl ?_
  refine zz_if_lt (tgt := 15) G dX_isDay_1 rfl (fun h1 => ?_) (fun h1 => ?_)
  · refine zz_iconst (v := 0) G dX_isDay_15 (by decide) ?_
    exact zz_zret G hret dX_isDay_16 rfl (by rw [show sDay a = 0 from by rw [sDay, if_pos h1]]) (Nat.le_of_ble_eq_true rfl) (Nat.le_of_ble_eq_true rfl)
  · refine zz_iload_n G dX_isDay_4 rfl ?_
    refine zz_sipush (v := 1000) G dX_isDay_5 (by decide) ?_
    refine zz_icmp_ge (tgt := 15) G dX_isDay_8 rfl (fun h8 => ?_) (fun h8 => ?_)
    · refine zz_iconst (v := 0) G dX_isDay_15 (by decide) ?_
      exact zz_zret G hret dX_isDay_16 rfl (by rw [show sDay a = 0 from by rw [sDay, if_neg h1, if_pos h8]]) (Nat.le_of_ble_eq_true rfl) (Nat.le_of_ble_eq_true rfl)
    · refine zz_iconst (v := 1) G dX_isDay_11 (by decide) ?_
      refine zz_goto (tgt := 16) G dX_isDay_12 rfl ?_
      exact zz_zret G hret dX_isDay_16 rfl (by rw [show sDay a = 1 from by rw [sDay, if_neg h1, if_neg h8]]) (Nat.le_of_ble_eq_true rfl) (Nat.le_of_ble_eq_true rfl)
set_option maxRecDepth 100000 in
set_option maxHeartbeats 4000000 in
theorem cx_isWord (l : Launch) (x : XS) (m : MS) (o : Nat → Int64) (a : Int32) : zC l yX_isWord (Jvm.Cond.code yX_isWord bX_isWord 1 (some .boolean) :: Tw) 0 true 0 0 [.int a] (wx x m o) (.inl (some (.int (sWrd a)), wx x m o)) := by
  refine zC_of [some (.int a)] (by decide) rfl (Nat.le_of_ble_eq_true rfl) ?_
  intro p e s mm args below meth c D cI cJ as G hret hex hbd
  refine zz_iload_n G dX_isWord_0 rfl ?_
  refine zz_if_lt (tgt := 14) G dX_isWord_1 rfl (fun h1 => ?_) (fun h1 => ?_)
  · refine zz_iconst (v := 0) G dX_isWord_14 (by decide) ?_
    exact zz_zret G hret dX_isWord_15 rfl (by rw [show sWrd a = 0 from by rw [sWrd, if_pos h1]]) (Nat.le_of_ble_eq_true rfl) (Nat.le_of_ble_eq_true rfl)
  · refine zz_iload_n G dX_isWord_4 rfl ?_
    refine zz_bipush (v := 6) G dX_isWord_5 (by decide) ?_
    refine zz_icmp_ge (tgt := 14) G dX_isWord_7 rfl (fun h7 => ?_) (fun h7 => ?_)
    · refine zz_iconst (v := 0) G dX_isWord_14 (by decide) ?_
      exact zz_zret G hret dX_isWord_15 rfl (by rw [show sWrd a = 0 from by rw [sWrd, if_neg h1, if_pos h7]]) (Nat.le_of_ble_eq_true rfl) (Nat.le_of_ble_eq_true rfl)
    · refine zz_iconst (v := 1) G dX_isWord_10 (by decide) ?_
      refine zz_goto (tgt := 15) G dX_isWord_11 rfl ?_
      exact zz_zret G hret dX_isWord_15 rfl (by rw [show sWrd a = 1 from by rw [sWrd, if_neg h1, if_neg h7]]) (Nat.le_of_ble_eq_true rfl) (Nat.le_of_ble_eq_true rfl)
set_option maxRecDepth 100000 in
set_option maxHeartbeats 4000000 in
theorem cx_isTime (l : Launch) (x : XS) (m : MS) (o : Nat → Int64) (a : Int32) : zC l yX_isTime (Jvm.Cond.code yX_isTime bX_isTime 2 (some .boolean) :: Tw) 0 true 0 0 [.ref 0, .int a] (wx x m o) (.inl (some (.int (sTime (fx_vc x) a)), wx x m o)) := by
  refine zC_of [some (.ref 0), some (.int a)] (by decide) rfl (Nat.le_of_ble_eq_true rfl) ?_
  intro p e s mm args below meth c D cI cJ as G hret hex hbd
  refine zz_iload_n G dX_isTime_0 rfl ?_
  refine zz_if_lt (tgt := 16) G dX_isTime_1 rfl (fun h1 => ?_) (fun h1 => ?_)
  · refine zz_iconst (v := 0) G dX_isTime_16 (by decide) ?_
    exact zz_zret G hret dX_isTime_17 rfl (by rw [show sTime (fx_vc x) a = 0 from by rw [sTime, if_pos h1]]) (Nat.le_of_ble_eq_true rfl) (Nat.le_of_ble_eq_true rfl)
  · refine zz_iload_n G dX_isTime_4 rfl ?_
    refine zz_aload_n G dX_isTime_5 rfl ?_
    refine zz_get (v := .int (fx_vc x)) G dX_isTime_6 flX_105 rfl rfl ?_
    refine zz_icmp_gt (tgt := 16) G dX_isTime_9 rfl (fun h9 => ?_) (fun h9 => ?_)
    · refine zz_iconst (v := 0) G dX_isTime_16 (by decide) ?_
      exact zz_zret G hret dX_isTime_17 rfl (by rw [show sTime (fx_vc x) a = 0 from by rw [sTime, if_neg h1, if_pos h9]]) (Nat.le_of_ble_eq_true rfl) (Nat.le_of_ble_eq_true rfl)
    · refine zz_iconst (v := 1) G dX_isTime_12 (by decide) ?_
      refine zz_goto (tgt := 17) G dX_isTime_13 rfl ?_
      exact zz_zret G hret dX_isTime_17 rfl (by rw [show sTime (fx_vc x) a = 1 from by rw [sTime, if_neg h1, if_neg h9]]) (Nat.le_of_ble_eq_true rfl) (Nat.le_of_ble_eq_true rfl)
set_option maxRecDepth 100000 in
set_option maxHeartbeats 4000000 in
theorem cx_isVersion (l : Launch) (x : XS) (m : MS) (o : Nat → Int64) (a : Int32) : zC l yX_isVersion (Jvm.Cond.code yX_isVersion bX_isVersion 2 (some .boolean) :: Tw) 0 true 0 0 [.ref 0, .int a] (wx x m o) (.inl (some (.int (sVer (fx_vc x) a)), wx x m o)) := by
  refine zC_of [some (.ref 0), some (.int a)] (by decide) rfl (Nat.le_of_ble_eq_true rfl) ?_
  intro p e s mm args below meth c D cI cJ as G hret hex hbd
  refine zz_iload_n G dX_isVersion_0 rfl ?_
  refine zz_if_lt (tgt := 16) G dX_isVersion_1 rfl (fun h1 => ?_) (fun h1 => ?_)
  · refine zz_iconst (v := 0) G dX_isVersion_16 (by decide) ?_
    exact zz_zret G hret dX_isVersion_17 rfl (by rw [show sVer (fx_vc x) a = 0 from by rw [sVer, if_pos h1]]) (Nat.le_of_ble_eq_true rfl) (Nat.le_of_ble_eq_true rfl)
  · refine zz_iload_n G dX_isVersion_4 rfl ?_
    refine zz_aload_n G dX_isVersion_5 rfl ?_
    refine zz_get (v := .int (fx_vc x)) G dX_isVersion_6 flX_105 rfl rfl ?_
    refine zz_icmp_ge (tgt := 16) G dX_isVersion_9 rfl (fun h9 => ?_) (fun h9 => ?_)
    · refine zz_iconst (v := 0) G dX_isVersion_16 (by decide) ?_
      exact zz_zret G hret dX_isVersion_17 rfl (by rw [show sVer (fx_vc x) a = 0 from by rw [sVer, if_neg h1, if_pos h9]]) (Nat.le_of_ble_eq_true rfl) (Nat.le_of_ble_eq_true rfl)
    · refine zz_iconst (v := 1) G dX_isVersion_12 (by decide) ?_
      refine zz_goto (tgt := 17) G dX_isVersion_13 rfl ?_
      exact zz_zret G hret dX_isVersion_17 rfl (by rw [show sVer (fx_vc x) a = 1 from by rw [sVer, if_neg h1, if_neg h9]]) (Nat.le_of_ble_eq_true rfl) (Nat.le_of_ble_eq_true rfl)
set_option maxRecDepth 100000 in
set_option maxHeartbeats 4000000 in
theorem cx_word (l : Launch) (x : XS) (m : MS) (o : Nat → Int64) (a k : Nat) (iv ik : Int32) (hv : iv = nI a) (hk : ik = nI k) (ha : a < 64) (hk6 : k < 6) : zC l yX_word (Jvm.Cond.code yX_word bX_word 3 (some .int) :: Tw) 0 true 0 0 [.ref 0, .int iv, .int ik] (wx x m o) (.inl (some (.int (fx_words x (6 * a + k))), wx x m o)) := by
  subst hv
  subst hk
  refine zC_of [some (.ref 0), some (.int (nI a)), some (.int (nI k))] (by decide) rfl (Nat.le_of_ble_eq_true rfl) ?_
  intro p e s mm args below meth c D cI cJ as G hret hex hbd
  refine zz_aload_n G dX_word_0 rfl ?_
  refine zz_get (v := .ref 1) G dX_word_1 flX_9 rfl rfl ?_
  refine zz_iload_n G dX_word_4 rfl ?_
  refine zz_bipush (v := 6) G dX_word_5 (by decide) ?_
  refine zz_imul G dX_word_7 ?_
  refine zz_iload_n G dX_word_8 rfl ?_
  refine zz_iadd G dX_word_9 ?_
  refine zz_iald (v := fx_words x (6 * a + k)) G dX_word_10 rfl (ix_in ha hk6) (by rw [ix_at ha hk6]) ?_
  exact zz_iret G hret dX_word_11 (rfl) (Nat.le_of_ble_eq_true rfl) (Nat.le_of_ble_eq_true rfl)
set_option maxRecDepth 100000 in
set_option maxHeartbeats 4000000 in
theorem cx_isCurrent (l : Launch) (x : XS) (m : MS) (o : Nat → Int64) (v : Nat) (iv t : Int32) (hiv : iv = nI v) (hv : v < 64) : zC l yX_isCurrent (Jvm.Cond.code yX_isCurrent bX_isCurrent 3 (some .boolean) :: Tw) 0 true 0 0 [.ref 0, .int iv, .int t] (wx x m o) (.inl (some (.int (sCur (fx_rep x) v t)), wx x m o)) := by
  subst hiv
  refine zC_of [some (.ref 0), some (.int (nI v)), some (.int t)] (by decide) rfl (Nat.le_of_ble_eq_true rfl) ?_
  intro p e s mm args below meth c D cI cJ as G hret hex hbd
  refine zz_iload_n G dX_isCurrent_0 rfl ?_
  refine zz_iload_n G dX_isCurrent_1 rfl ?_
  refine zz_icmp_ge (tgt := 19) G dX_isCurrent_2 rfl (fun h2 => ?_) (fun h2 => ?_)
  · refine zz_iconst (v := 0) G dX_isCurrent_19 (by decide) ?_
    exact zz_zret G hret dX_isCurrent_20 rfl (by rw [show sCur (fx_rep x) v t = 0 from by rw [sCur, if_pos h2]]) (Nat.le_of_ble_eq_true rfl) (Nat.le_of_ble_eq_true rfl)
  · refine zz_aload_n G dX_isCurrent_5 rfl ?_
    refine zz_get (v := .ref 3) G dX_isCurrent_6 flX_17 rfl rfl ?_
    refine zz_iload_n G dX_isCurrent_9 rfl ?_
    refine zz_iald (v := fx_rep x v) G dX_isCurrent_10 rfl (i1_in hv) (by rw [i1_at hv]) ?_
    refine zz_iload_n G dX_isCurrent_11 rfl ?_
    refine zz_icmp_lt (tgt := 19) G dX_isCurrent_12 rfl (fun h12 => ?_) (fun h12 => ?_)
    · refine zz_iconst (v := 0) G dX_isCurrent_19 (by decide) ?_
      exact zz_zret G hret dX_isCurrent_20 rfl (by rw [show sCur (fx_rep x) v t = 0 from by rw [sCur, if_neg h2, if_pos h12]]) (Nat.le_of_ble_eq_true rfl) (Nat.le_of_ble_eq_true rfl)
    · refine zz_iconst (v := 1) G dX_isCurrent_15 (by decide) ?_
      refine zz_goto (tgt := 20) G dX_isCurrent_16 rfl ?_
      exact zz_zret G hret dX_isCurrent_20 rfl (by rw [show sCur (fx_rep x) v t = 1 from by rw [sCur, if_neg h2, if_neg h12]]) (Nat.le_of_ble_eq_true rfl) (Nat.le_of_ble_eq_true rfl)
set_option maxRecDepth 100000 in
set_option maxHeartbeats 4000000 in
theorem cx_touches (l : Launch) (x : XS) (m : MS) (o : Nat → Int64) (v : Nat) (iv a : Int32) (hiv : iv = nI v) (hv : v < 64) : zC l yX_touches (Jvm.Cond.code yX_touches bX_touches 3 (some .boolean) :: Tw) 1 true 0 0 [.ref 0, .int iv, .int a] (wx x m o) (.inl (some (.int (sTouch (fx_words x) v a)), wx x m o)) := by
  subst hiv
  refine zC_of [some (.ref 0), some (.int (nI v)), some (.int a)] (by decide) rfl (Nat.le_of_ble_eq_true rfl) ?_
  intro p e s mm args below meth c D cI cJ as G hret hex hbd
  refine zz_aload_n G dX_touches_0 rfl ?_
  refine zz_iload_n G dX_touches_1 rfl ?_
  refine zz_iconst (v := 2) G dX_touches_2 (by decide) ?_
  refine zz_callVi (v := fx_words x (6 * v + 2)) (w' := (wx x m o)) (As := [.int (nI v), .int 2]) (rest := []) G (cx_word l x m o v 2 _ _ rfl rfl (hv) (by decide)) kX_59 dX_touches_3 rfl rfl rfl rfl (Nat.le_of_ble_eq_true rfl) (fun _ => rfl) ⟨Nat.le_of_ble_eq_true rfl, Nat.le_of_ble_eq_true rfl⟩ ⟨Nat.le_of_ble_eq_true rfl, Nat.le_of_ble_eq_true rfl⟩ ?_
  refine zz_iload_n G dX_touches_6 rfl ?_
  refine zz_icmp_eq (tgt := 20) G dX_touches_7 rfl (fun h7 => ?_) (fun h7 => ?_)
  · refine zz_iconst (v := 1) G dX_touches_20 (by decide) ?_
    refine zz_goto (tgt := 25) G dX_touches_21 rfl ?_
    exact zz_zret G hret dX_touches_25 rfl (by rw [show sTouch (fx_words x) v a = 1 from by rw [sTouch, if_pos h7]]) (Nat.le_of_ble_eq_true rfl) (Nat.le_of_ble_eq_true rfl)
  · refine zz_aload_n G dX_touches_10 rfl ?_
    refine zz_iload_n G dX_touches_11 rfl ?_
    refine zz_iconst (v := 3) G dX_touches_12 (by decide) ?_
    refine zz_callVi (v := fx_words x (6 * v + 3)) (w' := (wx x m o)) (As := [.int (nI v), .int 3]) (rest := []) G (cx_word l x m o v 3 _ _ rfl rfl (hv) (by decide)) kX_59 dX_touches_13 rfl rfl rfl rfl (Nat.le_of_ble_eq_true rfl) (fun _ => rfl) ⟨Nat.le_of_ble_eq_true rfl, Nat.le_of_ble_eq_true rfl⟩ ⟨Nat.le_of_ble_eq_true rfl, Nat.le_of_ble_eq_true rfl⟩ ?_
    refine zz_iload_n G dX_touches_16 rfl ?_
    refine zz_icmp_ne (tgt := 24) G dX_touches_17 rfl (fun h17 => ?_) (fun h17 => ?_)
    · refine zz_iconst (v := 0) G dX_touches_24 (by decide) ?_
      exact zz_zret G hret dX_touches_25 rfl (by rw [show sTouch (fx_words x) v a = 0 from by rw [sTouch, if_neg h7, if_neg h17]]) (Nat.le_of_ble_eq_true rfl) (Nat.le_of_ble_eq_true rfl)
    · refine zz_iconst (v := 1) G dX_touches_20 (by decide) ?_
      refine zz_goto (tgt := 25) G dX_touches_21 rfl ?_
      exact zz_zret G hret dX_touches_25 rfl (by rw [show sTouch (fx_words x) v a = 1 from by rw [sTouch, if_neg h7, if_pos h17]]) (Nat.le_of_ble_eq_true rfl) (Nat.le_of_ble_eq_true rfl)
set_option maxRecDepth 100000 in
set_option maxHeartbeats 4000000 in
theorem cx_movedBy (l : Launch) (x : XS) (m : MS) (o : Nat → Int64) (v : Nat) (iv a : Int32) (hiv : iv = nI v) (hv : v < 64) : zC l yX_movedBy (Jvm.Cond.code yX_movedBy bX_movedBy 3 (some .int) :: Tw) 1 true 0 0 [.ref 0, .int iv, .int a] (wx x m o) (.inl (some (.int (sMoved (fx_words x) v a)), wx x m o)) := by
  subst hiv
  refine zC_of [some (.ref 0), some (.int (nI v)), some (.int a)] (by decide) rfl (Nat.le_of_ble_eq_true rfl) ?_
  intro p e s mm args below meth c D cI cJ as G hret hex hbd
  refine zz_aload_n G dX_movedBy_0 rfl ?_
  refine zz_iload_n G dX_movedBy_1 rfl ?_
  refine zz_iconst (v := 2) G dX_movedBy_2 (by decide) ?_
  refine zz_callVi (v := fx_words x (6 * v + 2)) (w' := (wx x m o)) (As := [.int (nI v), .int 2]) (rest := []) G (cx_word l x m o v 2 _ _ rfl rfl (hv) (by decide)) kX_59 dX_movedBy_3 rfl rfl rfl rfl (Nat.le_of_ble_eq_true rfl) (fun _ => rfl) ⟨Nat.le_of_ble_eq_true rfl, Nat.le_of_ble_eq_true rfl⟩ ⟨Nat.le_of_ble_eq_true rfl, Nat.le_of_ble_eq_true rfl⟩ ?_
  refine zz_iload_n G dX_movedBy_6 rfl ?_
  refine zz_icmp_ne (tgt := 17) G dX_movedBy_7 rfl (fun h7 => ?_) (fun h7 => ?_)
  · refine zz_aload_n G dX_movedBy_17 rfl ?_
    refine zz_iload_n G dX_movedBy_18 rfl ?_
    refine zz_iconst (v := 3) G dX_movedBy_19 (by decide) ?_
    refine zz_callVi (v := fx_words x (6 * v + 3)) (w' := (wx x m o)) (As := [.int (nI v), .int 3]) (rest := []) G (cx_word l x m o v 3 _ _ rfl rfl (hv) (by decide)) kX_59 dX_movedBy_20 rfl rfl rfl rfl (Nat.le_of_ble_eq_true rfl) (fun _ => rfl) ⟨Nat.le_of_ble_eq_true rfl, Nat.le_of_ble_eq_true rfl⟩ ⟨Nat.le_of_ble_eq_true rfl, Nat.le_of_ble_eq_true rfl⟩ ?_
    refine zz_iload_n G dX_movedBy_23 rfl ?_
    refine zz_icmp_ne (tgt := 37) G dX_movedBy_24 rfl (fun h24 => ?_) (fun h24 => ?_)
    · refine zz_iconst (v := 0) G dX_movedBy_37 (by decide) ?_
      exact zz_iret G hret dX_movedBy_38 (by rw [show sMoved (fx_words x) v a = 0 from by rw [sMoved, if_neg h7, if_neg h24]]) (Nat.le_of_ble_eq_true rfl) (Nat.le_of_ble_eq_true rfl)
    · refine zz_aload_n G dX_movedBy_27 rfl ?_
      refine zz_iload_n G dX_movedBy_28 rfl ?_
      refine zz_iconst (v := 4) G dX_movedBy_29 (by decide) ?_
      refine zz_callVi (v := fx_words x (6 * v + 4)) (w' := (wx x m o)) (As := [.int (nI v), .int 4]) (rest := []) G (cx_word l x m o v 4 _ _ rfl rfl (hv) (by decide)) kX_59 dX_movedBy_30 rfl rfl rfl rfl (Nat.le_of_ble_eq_true rfl) (fun _ => rfl) ⟨Nat.le_of_ble_eq_true rfl, Nat.le_of_ble_eq_true rfl⟩ ⟨Nat.le_of_ble_eq_true rfl, Nat.le_of_ble_eq_true rfl⟩ ?_
      refine zz_ineg G dX_movedBy_33 ?_
      refine zz_goto (tgt := 38) G dX_movedBy_34 rfl ?_
      exact zz_iret G hret dX_movedBy_38 (by rw [show sMoved (fx_words x) v a = -(fx_words x (6 * v + 4)) from by rw [sMoved, if_neg h7, if_pos h24]]) (Nat.le_of_ble_eq_true rfl) (Nat.le_of_ble_eq_true rfl)
  · refine zz_aload_n G dX_movedBy_10 rfl ?_
    refine zz_iload_n G dX_movedBy_11 rfl ?_
    refine zz_iconst (v := 4) G dX_movedBy_12 (by decide) ?_
    refine zz_callVi (v := fx_words x (6 * v + 4)) (w' := (wx x m o)) (As := [.int (nI v), .int 4]) (rest := []) G (cx_word l x m o v 4 _ _ rfl rfl (hv) (by decide)) kX_59 dX_movedBy_13 rfl rfl rfl rfl (Nat.le_of_ble_eq_true rfl) (fun _ => rfl) ⟨Nat.le_of_ble_eq_true rfl, Nat.le_of_ble_eq_true rfl⟩ ⟨Nat.le_of_ble_eq_true rfl, Nat.le_of_ble_eq_true rfl⟩ ?_
    exact zz_iret G hret dX_movedBy_16 (by rw [show sMoved (fx_words x) v a = fx_words x (6 * v + 4) from by rw [sMoved, if_pos h7]]) (Nat.le_of_ble_eq_true rfl) (Nat.le_of_ble_eq_true rfl)
set_option maxRecDepth 100000 in
set_option maxHeartbeats 4000000 in
theorem cx_currentVersion (l : Launch) (x : XS) (m : MS) (o : Nat → Int64) (en it : Int32) (t : Nat) (hit : it = nI t) (ht : t ≤ 64) : zC l yX_currentVersion (Jvm.Cond.code yX_currentVersion bX_currentVersion 4 (some .int) :: Tw) 1 true 0 0 [.ref 0, .int en, .int it] (wx x m o) (.inl (some (.int (sCv (sLast (fx_words x) en t))), wx x m o)) := by
  subst hit
  refine zC_of [some (.ref 0), some (.int en), some (.int (nI t)), none] (by decide) rfl (Nat.le_of_ble_eq_true rfl) ?_
  intro p e s mm args below meth c D cI cJ as G hret hex hbd
  have loop : ∀ v : Nat, v ≤ 64 → sLast (fx_words x) en v = sLast (fx_words x) en t → Z p l e (zrm 1) s mm args below meth c 4 D cI cJ as true 0 0 (zMQ below (.inl (some (.int (sCv (sLast (fx_words x) en t))), wx x m o)) D cI cJ as true s 0 0) 4 [some (.ref 0), some (.int en), some (.int (nI t)), some (.int (nI v - 1))] [] (wx x m o) := by
    intro v
    induction v with
    | zero =>
      intro hv hq
      refine zz_iload_n G dX_currentVersion_4 rfl ?_
      refine zz_if_lt (tgt := 26) G dX_currentVersion_5 rfl (fun h5 => ?_) (fun h5 => (h5 (by decide)).elim)
      refine zz_iconst (v := -1) G dX_currentVersion_26 (by decide) ?_
      exact zz_iret G hret dX_currentVersion_27 (by rw [← hq]; rfl) (Nat.le_of_ble_eq_true rfl) (Nat.le_of_ble_eq_true rfl)
    | succ v ih =>
      intro hv hq
      refine zz_eq (lv' := [some (.ref 0), some (.int en), some (.int (nI t)), some (.int (nI v))]) rfl (by rw [nI_pred]) rfl rfl ?_
      refine zz_iload_n G dX_currentVersion_4 rfl ?_
      refine zz_if_lt (tgt := 26) G dX_currentVersion_5 rfl (fun h5 => (nI_pos (by omega) h5).elim) (fun h5 => ?_)
      refine zz_aload_n G dX_currentVersion_8 rfl ?_
      refine zz_iload_n G dX_currentVersion_9 rfl ?_
      refine zz_iconst (v := 1) G dX_currentVersion_10 (by decide) ?_
      refine zz_callVi (v := fx_words x (6 * v + 1)) (w' := (wx x m o)) (As := [.int (nI v), .int 1]) (rest := []) G (cx_word l x m o v 1 _ _ rfl rfl (by omega) (by decide)) kX_59 dX_currentVersion_11 rfl rfl rfl rfl (Nat.le_of_ble_eq_true rfl) (fun _ => rfl) ⟨Nat.le_of_ble_eq_true rfl, Nat.le_of_ble_eq_true rfl⟩ ⟨Nat.le_of_ble_eq_true rfl, Nat.le_of_ble_eq_true rfl⟩ ?_
      refine zz_iload_n G dX_currentVersion_14 rfl ?_
      refine zz_icmp_ne (tgt := 20) G dX_currentVersion_15 rfl (fun h15 => ?_) (fun h15 => ?_)
      · refine zz_iinc (v := nI v - 1) (lv' := [some (.ref 0), some (.int en), some (.int (nI t)), some (.int (nI v - 1))]) G dX_currentVersion_20 rfl (by rw [Int32.sub_eq_add_neg]; rfl) rfl ?_
        refine zz_goto (tgt := 4) G dX_currentVersion_23 rfl ?_
        refine ih (by omega) ?_
        rw [← hq]
        show _ = mL _ _ (v + 1)
        rw [mL_s, if_neg (show ¬ fE (fx_words x) v = en from h15)]
        rfl
      · refine zz_iload_n G dX_currentVersion_18 rfl ?_
        exact zz_iret G hret dX_currentVersion_19 (by rw [← hq, show sLast (fx_words x) en (v + 1) = some v from by show mL _ _ (v + 1) = _; rw [mL_s, if_pos (show fE (fx_words x) v = en from h15)]]; rfl) (Nat.le_of_ble_eq_true rfl) (Nat.le_of_ble_eq_true rfl)
  refine zz_iload_n G dX_currentVersion_0 rfl ?_
  refine zz_iconst (v := 1) G dX_currentVersion_1 (by decide) ?_
  refine zz_isub G dX_currentVersion_2 ?_
  refine zz_istore_n (lv' := [some (.ref 0), some (.int en), some (.int (nI t)), some (.int ((nI t) - 1))]) G dX_currentVersion_3 (Nat.le_of_ble_eq_true rfl) rfl ?_
  exact loop t ht rfl
set_option maxRecDepth 100000 in
set_option maxHeartbeats 4000000 in
theorem cx_balanceOf (l : Launch) (x : XS) (m : MS) (o : Nat → Int64) (a d it : Int32) (t : Nat) (hit : it = nI t) (ht : t ≤ 64) : zC l yX_balanceOf (Jvm.Cond.code yX_balanceOf bX_balanceOf 6 (some .int) :: Tw) 2 true 0 0 [.ref 0, .int a, .int d, .int it] (wx x m o) (.inl (some (.int (cBal (fx_words x) (fx_rep x) a d (nI t) t)), wx x m o)) := by
  subst hit
  refine zC_of [some (.ref 0), some (.int a), some (.int d), some (.int (nI t)), none, none] (by decide) rfl (Nat.le_of_ble_eq_true rfl) ?_
  intro p e s mm args below meth c D cI cJ as G hret hex hbd
  have loop : ∀ (j0 v : Nat), v + j0 = t → Z p l e (zrm 2) s mm args below meth c 6 D cI cJ as true 0 0 (zMQ below (.inl (some (.int (cBal (fx_words x) (fx_rep x) a d (nI t) t)), wx x m o)) D cI cJ as true s 0 0) 6 [some (.ref 0), some (.int a), some (.int d), some (.int (nI t)), some (.int (cBal (fx_words x) (fx_rep x) a d (nI t) v)), some (.int (nI v))] [] (wx x m o) := by
    intro j0
    induction j0 with
    | zero =>
      intro v hv
      have hv : t = v := by omega
      subst hv
      refine zz_iload G dX_balanceOf_6 rfl ?_
      refine zz_iload_n G dX_balanceOf_8 rfl ?_
      refine zz_icmp_ge (tgt := 51) G dX_balanceOf_9 rfl (fun h9 => ?_) (fun h9 => (h9 (nI_le (Nat.le_refl _) (by omega))).elim)
      refine zz_iload G dX_balanceOf_51 rfl ?_
      exact zz_iret G hret dX_balanceOf_53 (rfl) (Nat.le_of_ble_eq_true rfl) (Nat.le_of_ble_eq_true rfl)
    | succ j0 ih =>
      intro v hv
      refine zz_iload G dX_balanceOf_6 rfl ?_
      refine zz_iload_n G dX_balanceOf_8 rfl ?_
      refine zz_icmp_ge (tgt := 51) G dX_balanceOf_9 rfl (fun h9 => (nI_ge (by omega) (by omega) h9).elim) (fun h9 => ?_)
      refine zz_aload_n G dX_balanceOf_12 rfl ?_
      refine zz_iload G dX_balanceOf_13 rfl ?_
      refine zz_iload_n G dX_balanceOf_15 rfl ?_
      refine zz_callVi (v := sCur (fx_rep x) v (nI t)) (w' := (wx x m o)) (As := [.int (nI v), .int (nI t)]) (rest := []) G (cx_isCurrent l x m o v _ (nI t) rfl (by omega)) kX_85 dX_balanceOf_16 rfl rfl rfl rfl (Nat.le_of_ble_eq_true rfl) (fun _ => rfl) ⟨Nat.le_of_ble_eq_true rfl, Nat.le_of_ble_eq_true rfl⟩ ⟨Nat.le_of_ble_eq_true rfl, Nat.le_of_ble_eq_true rfl⟩ ?_
      refine zz_if_eq (tgt := 45) G dX_balanceOf_19 rfl (fun h19 => ?_) (fun h19 => ?_)
      · refine zz_iinc (v := nI (v + 1)) (lv' := [some (.ref 0), some (.int a), some (.int d), some (.int (nI t)), some (.int (cBal (fx_words x) (fx_rep x) a d (nI t) v)), some (.int (nI (v + 1)))]) G dX_balanceOf_45 rfl (by rw [nI_succ]; rfl) rfl ?_
        refine zz_goto (tgt := 6) G dX_balanceOf_48 rfl ?_
        refine zz_eq (lv' := [some (.ref 0), some (.int a), some (.int d), some (.int (nI t)), some (.int (cBal (fx_words x) (fx_rep x) a d (nI t) (v + 1))), some (.int (nI (v + 1)))]) rfl (by rw [show cBal (fx_words x) (fx_rep x) a d (nI t) (v + 1) = cBal (fx_words x) (fx_rep x) a d (nI t) v from by rw [cBal, if_pos h19]]) rfl rfl ?_
        exact ih (v + 1) (by omega)
      · refine zz_aload_n G dX_balanceOf_22 rfl ?_
        refine zz_iload G dX_balanceOf_23 rfl ?_
        refine zz_iconst (v := 5) G dX_balanceOf_25 (by decide) ?_
        refine zz_callVi (v := fx_words x (6 * v + 5)) (w' := (wx x m o)) (As := [.int (nI v), .int 5]) (rest := []) G (cx_word l x m o v 5 _ _ rfl rfl (by omega) (by decide)) kX_59 dX_balanceOf_26 rfl rfl rfl rfl (Nat.le_of_ble_eq_true rfl) (fun _ => rfl) ⟨Nat.le_of_ble_eq_true rfl, Nat.le_of_ble_eq_true rfl⟩ ⟨Nat.le_of_ble_eq_true rfl, Nat.le_of_ble_eq_true rfl⟩ ?_
        refine zz_iload_n G dX_balanceOf_29 rfl ?_
        refine zz_icmp_gt (tgt := 45) G dX_balanceOf_30 rfl (fun h30 => ?_) (fun h30 => ?_)
        · refine zz_iinc (v := nI (v + 1)) (lv' := [some (.ref 0), some (.int a), some (.int d), some (.int (nI t)), some (.int (cBal (fx_words x) (fx_rep x) a d (nI t) v)), some (.int (nI (v + 1)))]) G dX_balanceOf_45 rfl (by rw [nI_succ]; rfl) rfl ?_
          refine zz_goto (tgt := 6) G dX_balanceOf_48 rfl ?_
          refine zz_eq (lv' := [some (.ref 0), some (.int a), some (.int d), some (.int (nI t)), some (.int (cBal (fx_words x) (fx_rep x) a d (nI t) (v + 1))), some (.int (nI (v + 1)))]) rfl (by rw [show cBal (fx_words x) (fx_rep x) a d (nI t) (v + 1) = cBal (fx_words x) (fx_rep x) a d (nI t) v from by rw [cBal, if_neg h19, if_pos h30]]) rfl rfl ?_
          exact ih (v + 1) (by omega)
        · refine zz_iload G dX_balanceOf_33 rfl ?_
          refine zz_aload_n G dX_balanceOf_35 rfl ?_
          refine zz_iload G dX_balanceOf_36 rfl ?_
          refine zz_iload_n G dX_balanceOf_38 rfl ?_
          refine zz_callVi (v := sMoved (fx_words x) v a) (w' := (wx x m o)) (As := [.int (nI v), .int a]) (rest := [.int (cBal (fx_words x) (fx_rep x) a d (nI t) v)]) G (cx_movedBy l x m o v _ a rfl (by omega)) kX_96 dX_balanceOf_39 rfl rfl rfl rfl (Nat.le_of_ble_eq_true rfl) (fun _ => rfl) ⟨Nat.le_of_ble_eq_true rfl, Nat.le_of_ble_eq_true rfl⟩ ⟨Nat.le_of_ble_eq_true rfl, Nat.le_of_ble_eq_true rfl⟩ ?_
          refine zz_iadd G dX_balanceOf_42 ?_
          refine zz_istore (lv' := [some (.ref 0), some (.int a), some (.int d), some (.int (nI t)), some (.int ((cBal (fx_words x) (fx_rep x) a d (nI t) v) + (sMoved (fx_words x) v a))), some (.int (nI v))]) G dX_balanceOf_43 (Nat.le_of_ble_eq_true rfl) rfl ?_
          refine zz_iinc (v := nI (v + 1)) (lv' := [some (.ref 0), some (.int a), some (.int d), some (.int (nI t)), some (.int ((cBal (fx_words x) (fx_rep x) a d (nI t) v) + (sMoved (fx_words x) v a))), some (.int (nI (v + 1)))]) G dX_balanceOf_45 rfl (by rw [nI_succ]; rfl) rfl ?_
          refine zz_goto (tgt := 6) G dX_balanceOf_48 rfl ?_
          refine zz_eq (lv' := [some (.ref 0), some (.int a), some (.int d), some (.int (nI t)), some (.int (cBal (fx_words x) (fx_rep x) a d (nI t) (v + 1))), some (.int (nI (v + 1)))]) rfl (by rw [show cBal (fx_words x) (fx_rep x) a d (nI t) (v + 1) = (cBal (fx_words x) (fx_rep x) a d (nI t) v) + (sMoved (fx_words x) v a) from by rw [cBal, if_neg h19, if_neg h30]]) rfl rfl ?_
          exact ih (v + 1) (by omega)
  refine zz_iconst (v := 0) G dX_balanceOf_0 (by decide) ?_
  refine zz_istore (lv' := [some (.ref 0), some (.int a), some (.int d), some (.int (nI t)), some (.int 0), none]) G dX_balanceOf_1 (Nat.le_of_ble_eq_true rfl) rfl ?_
  refine zz_iconst (v := 0) G dX_balanceOf_3 (by decide) ?_
  refine zz_istore (lv' := [some (.ref 0), some (.int a), some (.int d), some (.int (nI t)), some (.int 0), some (.int 0)]) G dX_balanceOf_4 (Nat.le_of_ble_eq_true rfl) rfl ?_
  exact loop t 0 (by omega)
set_option maxRecDepth 100000 in
set_option maxHeartbeats 4000000 in
theorem cx_turnoverOf (l : Launch) (x : XS) (m : MS) (o : Nat → Int64) (a : Int32) (n : Nat) (hvc : fx_vc x = nI n) (hn : n ≤ 64) : zC l yX_turnoverOf (Jvm.Cond.code yX_turnoverOf bX_turnoverOf 4 (some .int) :: Tw) 2 true 0 0 [.ref 0, .int a] (wx x m o) (.inl (some (.int (cTurn (fx_words x) (fx_rep x) a (nI n) n)), wx x m o)) := by
  refine zC_of [some (.ref 0), some (.int a), none, none] (by decide) rfl (Nat.le_of_ble_eq_true rfl) ?_
  intro p e s mm args below meth c D cI cJ as G hret hex hbd
  have loop : ∀ (j0 v : Nat), v + j0 = n → Z p l e (zrm 2) s mm args below meth c 4 D cI cJ as true 0 0 (zMQ below (.inl (some (.int (cTurn (fx_words x) (fx_rep x) a (nI n) n)), wx x m o)) D cI cJ as true s 0 0) 4 [some (.ref 0), some (.int a), some (.int (cTurn (fx_words x) (fx_rep x) a (nI n) v)), some (.int (nI v))] [] (wx x m o) := by
    intro j0
    induction j0 with
    | zero =>
      intro v hv
      have hv : n = v := by omega
      subst hv
      refine zz_iload_n G dX_turnoverOf_4 rfl ?_
      refine zz_aload_n G dX_turnoverOf_5 rfl ?_
      refine zz_get (v := .int (nI n)) G dX_turnoverOf_6 flX_105 rfl (by rw [← hvc]; rfl) ?_
      refine zz_icmp_ge (tgt := 48) G dX_turnoverOf_9 rfl (fun h9 => ?_) (fun h9 => (h9 (nI_le (Nat.le_refl _) (by omega))).elim)
      refine zz_iload_n G dX_turnoverOf_48 rfl ?_
      exact zz_iret G hret dX_turnoverOf_49 (rfl) (Nat.le_of_ble_eq_true rfl) (Nat.le_of_ble_eq_true rfl)
    | succ j0 ih =>
      intro v hv
      refine zz_iload_n G dX_turnoverOf_4 rfl ?_
      refine zz_aload_n G dX_turnoverOf_5 rfl ?_
      refine zz_get (v := .int (nI n)) G dX_turnoverOf_6 flX_105 rfl (by rw [← hvc]; rfl) ?_
      refine zz_icmp_ge (tgt := 48) G dX_turnoverOf_9 rfl (fun h9 => (nI_ge (by omega) (by omega) h9).elim) (fun h9 => ?_)
      refine zz_aload_n G dX_turnoverOf_12 rfl ?_
      refine zz_iload_n G dX_turnoverOf_13 rfl ?_
      refine zz_aload_n G dX_turnoverOf_14 rfl ?_
      refine zz_get (v := .int (nI n)) G dX_turnoverOf_15 flX_105 rfl (by rw [← hvc]; rfl) ?_
      refine zz_callVi (v := sCur (fx_rep x) v (nI n)) (w' := (wx x m o)) (As := [.int (nI v), .int (nI n)]) (rest := []) G (cx_isCurrent l x m o v _ (nI n) rfl (by omega)) kX_85 dX_turnoverOf_18 rfl rfl rfl rfl (Nat.le_of_ble_eq_true rfl) (fun _ => rfl) ⟨Nat.le_of_ble_eq_true rfl, Nat.le_of_ble_eq_true rfl⟩ ⟨Nat.le_of_ble_eq_true rfl, Nat.le_of_ble_eq_true rfl⟩ ?_
      refine zz_if_eq (tgt := 42) G dX_turnoverOf_21 rfl (fun h21 => ?_) (fun h21 => ?_)
      · refine zz_iinc (v := nI (v + 1)) (lv' := [some (.ref 0), some (.int a), some (.int (cTurn (fx_words x) (fx_rep x) a (nI n) v)), some (.int (nI (v + 1)))]) G dX_turnoverOf_42 rfl (by rw [nI_succ]; rfl) rfl ?_
        refine zz_goto (tgt := 4) G dX_turnoverOf_45 rfl ?_
        refine zz_eq (lv' := [some (.ref 0), some (.int a), some (.int (cTurn (fx_words x) (fx_rep x) a (nI n) (v + 1))), some (.int (nI (v + 1)))]) rfl (by rw [show cTurn (fx_words x) (fx_rep x) a (nI n) (v + 1) = cTurn (fx_words x) (fx_rep x) a (nI n) v from by rw [cTurn, if_pos h21]]) rfl rfl ?_
        exact ih (v + 1) (by omega)
      · refine zz_aload_n G dX_turnoverOf_24 rfl ?_
        refine zz_iload_n G dX_turnoverOf_25 rfl ?_
        refine zz_iload_n G dX_turnoverOf_26 rfl ?_
        refine zz_callVi (v := sTouch (fx_words x) v a) (w' := (wx x m o)) (As := [.int (nI v), .int a]) (rest := []) G (cx_touches l x m o v _ a rfl (by omega)) kX_89 dX_turnoverOf_27 rfl rfl rfl rfl (Nat.le_of_ble_eq_true rfl) (fun _ => rfl) ⟨Nat.le_of_ble_eq_true rfl, Nat.le_of_ble_eq_true rfl⟩ ⟨Nat.le_of_ble_eq_true rfl, Nat.le_of_ble_eq_true rfl⟩ ?_
        refine zz_if_eq (tgt := 42) G dX_turnoverOf_30 rfl (fun h30 => ?_) (fun h30 => ?_)
        · refine zz_iinc (v := nI (v + 1)) (lv' := [some (.ref 0), some (.int a), some (.int (cTurn (fx_words x) (fx_rep x) a (nI n) v)), some (.int (nI (v + 1)))]) G dX_turnoverOf_42 rfl (by rw [nI_succ]; rfl) rfl ?_
          refine zz_goto (tgt := 4) G dX_turnoverOf_45 rfl ?_
          refine zz_eq (lv' := [some (.ref 0), some (.int a), some (.int (cTurn (fx_words x) (fx_rep x) a (nI n) (v + 1))), some (.int (nI (v + 1)))]) rfl (by rw [show cTurn (fx_words x) (fx_rep x) a (nI n) (v + 1) = cTurn (fx_words x) (fx_rep x) a (nI n) v from by rw [cTurn, if_neg h21, if_pos h30]]) rfl rfl ?_
          exact ih (v + 1) (by omega)
        · refine zz_iload_n G dX_turnoverOf_33 rfl ?_
          refine zz_aload_n G dX_turnoverOf_34 rfl ?_
          refine zz_iload_n G dX_turnoverOf_35 rfl ?_
          refine zz_iconst (v := 4) G dX_turnoverOf_36 (by decide) ?_
          refine zz_callVi (v := fx_words x (6 * v + 4)) (w' := (wx x m o)) (As := [.int (nI v), .int 4]) (rest := [.int (cTurn (fx_words x) (fx_rep x) a (nI n) v)]) G (cx_word l x m o v 4 _ _ rfl rfl (by omega) (by decide)) kX_59 dX_turnoverOf_37 rfl rfl rfl rfl (Nat.le_of_ble_eq_true rfl) (fun _ => rfl) ⟨Nat.le_of_ble_eq_true rfl, Nat.le_of_ble_eq_true rfl⟩ ⟨Nat.le_of_ble_eq_true rfl, Nat.le_of_ble_eq_true rfl⟩ ?_
          refine zz_iadd G dX_turnoverOf_40 ?_
          refine zz_istore_n (lv' := [some (.ref 0), some (.int a), some (.int ((cTurn (fx_words x) (fx_rep x) a (nI n) v) + (fx_words x (6 * v + 4)))), some (.int (nI v))]) G dX_turnoverOf_41 (Nat.le_of_ble_eq_true rfl) rfl ?_
          refine zz_iinc (v := nI (v + 1)) (lv' := [some (.ref 0), some (.int a), some (.int ((cTurn (fx_words x) (fx_rep x) a (nI n) v) + (fx_words x (6 * v + 4)))), some (.int (nI (v + 1)))]) G dX_turnoverOf_42 rfl (by rw [nI_succ]; rfl) rfl ?_
          refine zz_goto (tgt := 4) G dX_turnoverOf_45 rfl ?_
          refine zz_eq (lv' := [some (.ref 0), some (.int a), some (.int (cTurn (fx_words x) (fx_rep x) a (nI n) (v + 1))), some (.int (nI (v + 1)))]) rfl (by rw [show cTurn (fx_words x) (fx_rep x) a (nI n) (v + 1) = (cTurn (fx_words x) (fx_rep x) a (nI n) v) + (fx_words x (6 * v + 4)) from by rw [cTurn, if_neg h21, if_neg h30]]) rfl rfl ?_
          exact ih (v + 1) (by omega)
  refine zz_iconst (v := 0) G dX_turnoverOf_0 (by decide) ?_
  refine zz_istore_n (lv' := [some (.ref 0), some (.int a), some (.int 0), none]) G dX_turnoverOf_1 (Nat.le_of_ble_eq_true rfl) rfl ?_
  refine zz_iconst (v := 0) G dX_turnoverOf_2 (by decide) ?_
  refine zz_istore_n (lv' := [some (.ref 0), some (.int a), some (.int 0), some (.int 0)]) G dX_turnoverOf_3 (Nat.le_of_ble_eq_true rfl) rfl ?_
  exact loop n 0 (by omega)
set_option maxRecDepth 100000 in
set_option maxHeartbeats 4000000 in
theorem cx_linkBefore (l : Launch) (x : XS) (m : MS) (o : Nat → Int64) (a : Nat) (iv : Int32) (hiv : iv = nI a) (ha : a ≤ 64) : zC l yX_linkBefore (Jvm.Cond.code yX_linkBefore bX_linkBefore 2 (some .long) :: Tw) 0 true 0 0 [.ref 0, .int iv] (wx x m o) (.inl (some (.long (sBef (fx_links x) a)), wx x m o)) := by
  subst hiv
  refine zC_of [some (.ref 0), some (.int (nI a))] (by decide) rfl (Nat.le_of_ble_eq_true rfl) ?_
  intro p e s mm args below meth c D cI cJ as G hret hex hbd
  cases a with
  | zero =>
    refine zz_iload_n G dX_linkBefore_0 rfl ?_
    refine zz_if_ne (tgt := 10) G dX_linkBefore_1 rfl (fun h1 => (h1 rfl).elim) (fun h1 => ?_)
    refine zz_ldc2 (v := 1469598103) G dX_linkBefore_4 tw_100 ?_
    refine zz_goto (tgt := 18) G dX_linkBefore_7 rfl ?_
    exact zz_lret G hret dX_linkBefore_18 (rfl) (Nat.le_of_ble_eq_true rfl) (Nat.le_of_ble_eq_true rfl)
  | succ a =>
    refine zz_iload_n G dX_linkBefore_0 rfl ?_
    refine zz_if_ne (tgt := 10) G dX_linkBefore_1 rfl (fun h1 => ?_) (fun h1 => (nI_ne0 (by omega) (by omega) h1).elim)
    refine zz_aload_n G dX_linkBefore_10 rfl ?_
    refine zz_get (v := .ref 2) G dX_linkBefore_11 flX_13 rfl rfl ?_
    refine zz_iload_n G dX_linkBefore_14 rfl ?_
    refine zz_iconst (v := 1) G dX_linkBefore_15 (by decide) ?_
    refine zz_isub G dX_linkBefore_16 ?_
    refine zz_lald (v := fx_links x a) G dX_linkBefore_17 rfl (by rw [nI_pred]; exact i1_in (by omega)) (by rw [nI_pred, i1_at (by omega)]) ?_
    exact zz_lret G hret dX_linkBefore_18 (rfl) (Nat.le_of_ble_eq_true rfl) (Nat.le_of_ble_eq_true rfl)
set_option maxRecDepth 100000 in
set_option maxHeartbeats 4000000 in
theorem cx_linkOfWords (l : Launch) (x : XS) (m : MS) (o : Nat → Int64) (a : Nat) (iv : Int32) (hiv : iv = nI a) (ha : a < 64) : zC l yX_linkOfWords (Jvm.Cond.code yX_linkOfWords bX_linkOfWords 5 (some .long) :: Tw) 1 true 0 0 [.ref 0, .int iv] (wx x m o) (.inl (some (.long (sLnk (fx_words x) a (sBef (fx_links x) a) 6)), wx x m o)) := by
  subst hiv
  refine zC_of [some (.ref 0), some (.int (nI a)), none, none, none] (by decide) rfl (Nat.le_of_ble_eq_true rfl) ?_
  intro p e s mm args below meth c D cI cJ as G hret hex hbd
  have loop : ∀ (d k : Nat), k + d = 6 → Z p l e (zrm 1) s mm args below meth c 5 D cI cJ as true 0 0 (zMQ below (.inl (some (.long (sLnk (fx_words x) a (sBef (fx_links x) a) 6)), wx x m o)) D cI cJ as true s 0 0) 9 [some (.ref 0), some (.int (nI a)), some (.long (sLnk (fx_words x) a (sBef (fx_links x) a) k)), none, some (.int (nI k))] [] (wx x m o) := by
    intro d
    induction d with
    | zero =>
      intro k hk
      have hk : k = 6 := by omega
      subst hk
      refine zz_iload G dX_linkOfWords_9 rfl ?_
      refine zz_bipush (v := 6) G dX_linkOfWords_11 (by decide) ?_
      refine zz_icmp_ge (tgt := 42) G dX_linkOfWords_13 rfl (fun h13 => ?_) (fun h13 => (h13 (by decide)).elim)
      refine zz_lload_n G dX_linkOfWords_42 rfl ?_
      exact zz_lret G hret dX_linkOfWords_43 (rfl) (Nat.le_of_ble_eq_true rfl) (Nat.le_of_ble_eq_true rfl)
    | succ d ih =>
      intro k hk
      refine zz_iload G dX_linkOfWords_9 rfl ?_
      refine zz_bipush (v := 6) G dX_linkOfWords_11 (by decide) ?_
      refine zz_icmp_ge (tgt := 42) G dX_linkOfWords_13 rfl (fun h13 => (nI_ge (show k < 6 by omega) (by decide) h13).elim) (fun h13 => ?_)
      refine zz_lload_n G dX_linkOfWords_16 rfl ?_
      refine zz_lload_n G dX_linkOfWords_17 rfl ?_
      refine zz_bipush (v := 27) G dX_linkOfWords_18 (by decide) ?_
      refine zz_lushr (v := sUsr (sLnk (fx_words x) a (sBef (fx_links x) a) k)) G dX_linkOfWords_20 rfl ?_
      refine zz_lxor G dX_linkOfWords_21 ?_
      refine zz_ldc2 (v := 2685821657736338717) G dX_linkOfWords_22 tw_109 ?_
      refine zz_lmul G dX_linkOfWords_25 ?_
      refine zz_aload_n G dX_linkOfWords_26 rfl ?_
      refine zz_iload_n G dX_linkOfWords_27 rfl ?_
      refine zz_iload G dX_linkOfWords_28 rfl ?_
      refine zz_callVi (v := fx_words x (6 * a + k)) (w' := (wx x m o)) (As := [.int (nI a), .int (nI k)]) (rest := [.long (((sLnk (fx_words x) a (sBef (fx_links x) a) k) ^^^ (sUsr (sLnk (fx_words x) a (sBef (fx_links x) a) k))) * 2685821657736338717)]) G (cx_word l x m o a k _ _ rfl rfl (ha) (by omega)) kX_59 dX_linkOfWords_30 rfl rfl rfl rfl (Nat.le_of_ble_eq_true rfl) (fun _ => rfl) ⟨Nat.le_of_ble_eq_true rfl, Nat.le_of_ble_eq_true rfl⟩ ⟨Nat.le_of_ble_eq_true rfl, Nat.le_of_ble_eq_true rfl⟩ ?_
      refine zz_i2l G dX_linkOfWords_33 ?_
      refine zz_ladd G dX_linkOfWords_34 ?_
      refine zz_lstore_n (lv' := [some (.ref 0), some (.int (nI a)), some (.long ((((sLnk (fx_words x) a (sBef (fx_links x) a) k) ^^^ (sUsr (sLnk (fx_words x) a (sBef (fx_links x) a) k))) * 2685821657736338717) + ((fx_words x (6 * a + k)).toInt64))), none, some (.int (nI k))]) G dX_linkOfWords_35 (Nat.le_of_ble_eq_true rfl) rfl ?_
      refine zz_iinc (v := nI (k + 1)) (lv' := [some (.ref 0), some (.int (nI a)), some (.long ((((sLnk (fx_words x) a (sBef (fx_links x) a) k) ^^^ (sUsr (sLnk (fx_words x) a (sBef (fx_links x) a) k))) * 2685821657736338717) + ((fx_words x (6 * a + k)).toInt64))), none, some (.int (nI (k + 1)))]) G dX_linkOfWords_36 rfl (by rw [nI_succ]; rfl) rfl ?_
      refine zz_goto (tgt := 9) G dX_linkOfWords_39 rfl ?_
      refine zz_eq (lv' := [some (.ref 0), some (.int (nI a)), some (.long (sLnk (fx_words x) a (sBef (fx_links x) a) (k + 1))), none, some (.int (nI (k + 1)))]) rfl rfl rfl rfl ?_
      exact ih (k + 1) (by omega)
  refine zz_aload_n G dX_linkOfWords_0 rfl ?_
  refine zz_iload_n G dX_linkOfWords_1 rfl ?_
  refine zz_callVl (v := sBef (fx_links x) a) (w' := (wx x m o)) (As := [.int (nI a)]) (rest := []) G (cx_linkBefore l x m o a _ rfl (by omega)) kX_108 dX_linkOfWords_2 rfl rfl rfl rfl (Nat.le_of_ble_eq_true rfl) (fun _ => rfl) ⟨Nat.le_of_ble_eq_true rfl, Nat.le_of_ble_eq_true rfl⟩ ⟨Nat.le_of_ble_eq_true rfl, Nat.le_of_ble_eq_true rfl⟩ ?_
  refine zz_lstore_n (lv' := [some (.ref 0), some (.int (nI a)), some (.long (sBef (fx_links x) a)), none, none]) G dX_linkOfWords_5 (Nat.le_of_ble_eq_true rfl) rfl ?_
  refine zz_iconst (v := 0) G dX_linkOfWords_6 (by decide) ?_
  refine zz_istore (lv' := [some (.ref 0), some (.int (nI a)), some (.long (sBef (fx_links x) a)), none, some (.int 0)]) G dX_linkOfWords_7 (Nat.le_of_ble_eq_true rfl) rfl ?_
  exact loop 6 0 (by omega)
set_option maxRecDepth 100000 in
set_option maxHeartbeats 4000000 in
theorem cx_comesBefore (l : Launch) (x : XS) (m : MS) (o : Nat → Int64) (u v : Nat) (iu iv : Int32) (hiu : iu = nI u) (hiv : iv = nI v) (hu : u < 64) (hv : v < 64) : zC l yX_comesBefore (Jvm.Cond.code yX_comesBefore bX_comesBefore 4 (some .boolean) :: Tw) 1 true 0 0 [.ref 0, .int iu, .int iv] (wx x m o) (.inl (some (.int (sBfr (fx_words x) u v)), wx x m o)) := by
  subst hiu
  subst hiv
  refine zC_of [some (.ref 0), some (.int (nI u)), some (.int (nI v)), none] (by decide) rfl (Nat.le_of_ble_eq_true rfl) ?_
  intro p e s mm args below meth c D cI cJ as G hret hex hbd
  refine zz_aload_n G dX_comesBefore_0 rfl ?_
  refine zz_iload_n G dX_comesBefore_1 rfl ?_
  refine zz_iconst (v := 5) G dX_comesBefore_2 (by decide) ?_
  refine zz_callVi (v := fx_words x (6 * u + 5)) (w' := (wx x m o)) (As := [.int (nI u), .int 5]) (rest := []) G (cx_word l x m o u 5 _ _ rfl rfl (hu) (by decide)) kX_59 dX_comesBefore_3 rfl rfl rfl rfl (Nat.le_of_ble_eq_true rfl) (fun _ => rfl) ⟨Nat.le_of_ble_eq_true rfl, Nat.le_of_ble_eq_true rfl⟩ ⟨Nat.le_of_ble_eq_true rfl, Nat.le_of_ble_eq_true rfl⟩ ?_
  refine zz_aload_n G dX_comesBefore_6 rfl ?_
  refine zz_iload_n G dX_comesBefore_7 rfl ?_
  refine zz_iconst (v := 5) G dX_comesBefore_8 (by decide) ?_
  refine zz_callVi (v := fx_words x (6 * v + 5)) (w' := (wx x m o)) (As := [.int (nI v), .int 5]) (rest := [.int (fx_words x (6 * u + 5))]) G (cx_word l x m o v 5 _ _ rfl rfl (hv) (by decide)) kX_59 dX_comesBefore_9 rfl rfl rfl rfl (Nat.le_of_ble_eq_true rfl) (fun _ => rfl) ⟨Nat.le_of_ble_eq_true rfl, Nat.le_of_ble_eq_true rfl⟩ ⟨Nat.le_of_ble_eq_true rfl, Nat.le_of_ble_eq_true rfl⟩ ?_
  refine zz_callSi (v := sCmp (fx_words x (6 * u + 5)) (fx_words x (6 * v + 5))) (w' := (wx x m o)) (As := [.int (fx_words x (6 * u + 5)), .int (fx_words x (6 * v + 5))]) (rest := []) G (ci_compare l x m o (fx_words x (6 * u + 5)) (fx_words x (6 * v + 5))) kX_158 dX_comesBefore_12 rfl rfl (Nat.le_of_ble_eq_true rfl) (fun _ => rfl) ⟨Nat.le_of_ble_eq_true rfl, Nat.le_of_ble_eq_true rfl⟩ ⟨Nat.le_of_ble_eq_true rfl, Nat.le_of_ble_eq_true rfl⟩ ?_
  refine zz_istore_n (lv' := [some (.ref 0), some (.int (nI u)), some (.int (nI v)), some (.int (sCmp (fx_words x (6 * u + 5)) (fx_words x (6 * v + 5))))]) G dX_comesBefore_15 (Nat.le_of_ble_eq_true rfl) rfl ?_
  refine zz_iload_n G dX_comesBefore_16 rfl ?_
  refine zz_if_lt (tgt := 39) G dX_comesBefore_17 rfl (fun h17 => ?_) (fun h17 => ?_)
  · refine zz_iconst (v := 1) G dX_comesBefore_39 (by decide) ?_
    refine zz_goto (tgt := 44) G dX_comesBefore_40 rfl ?_
    exact zz_zret G hret dX_comesBefore_44 rfl (by rw [show sBfr (fx_words x) u v = 1 from by rw [sBfr, if_pos (sCmp_lt h17)]]) (Nat.le_of_ble_eq_true rfl) (Nat.le_of_ble_eq_true rfl)
  · refine zz_iload_n G dX_comesBefore_20 rfl ?_
    refine zz_if_ne (tgt := 43) G dX_comesBefore_21 rfl (fun h21 => ?_) (fun h21 => ?_)
    · refine zz_iconst (v := 0) G dX_comesBefore_43 (by decide) ?_
      exact zz_zret G hret dX_comesBefore_44 rfl (by rw [show sBfr (fx_words x) u v = 0 from by rw [sBfr, if_neg (sCmp_nlt h17), if_neg (sCmp_ne h21)]]) (Nat.le_of_ble_eq_true rfl) (Nat.le_of_ble_eq_true rfl)
    · refine zz_aload_n G dX_comesBefore_24 rfl ?_
      refine zz_iload_n G dX_comesBefore_25 rfl ?_
      refine zz_iconst (v := 1) G dX_comesBefore_26 (by decide) ?_
      refine zz_callVi (v := fx_words x (6 * u + 1)) (w' := (wx x m o)) (As := [.int (nI u), .int 1]) (rest := []) G (cx_word l x m o u 1 _ _ rfl rfl (hu) (by decide)) kX_59 dX_comesBefore_27 rfl rfl rfl rfl (Nat.le_of_ble_eq_true rfl) (fun _ => rfl) ⟨Nat.le_of_ble_eq_true rfl, Nat.le_of_ble_eq_true rfl⟩ ⟨Nat.le_of_ble_eq_true rfl, Nat.le_of_ble_eq_true rfl⟩ ?_
      refine zz_aload_n G dX_comesBefore_30 rfl ?_
      refine zz_iload_n G dX_comesBefore_31 rfl ?_
      refine zz_iconst (v := 1) G dX_comesBefore_32 (by decide) ?_
      refine zz_callVi (v := fx_words x (6 * v + 1)) (w' := (wx x m o)) (As := [.int (nI v), .int 1]) (rest := [.int (fx_words x (6 * u + 1))]) G (cx_word l x m o v 1 _ _ rfl rfl (hv) (by decide)) kX_59 dX_comesBefore_33 rfl rfl rfl rfl (Nat.le_of_ble_eq_true rfl) (fun _ => rfl) ⟨Nat.le_of_ble_eq_true rfl, Nat.le_of_ble_eq_true rfl⟩ ⟨Nat.le_of_ble_eq_true rfl, Nat.le_of_ble_eq_true rfl⟩ ?_
      refine zz_icmp_ge (tgt := 43) G dX_comesBefore_36 rfl (fun h36 => ?_) (fun h36 => ?_)
      · refine zz_iconst (v := 0) G dX_comesBefore_43 (by decide) ?_
        exact zz_zret G hret dX_comesBefore_44 rfl (by rw [show sBfr (fx_words x) u v = 0 from by rw [sBfr, if_neg (sCmp_nlt h17), if_pos (sCmp_eq h21), if_neg (i32_nlt h36)]]) (Nat.le_of_ble_eq_true rfl) (Nat.le_of_ble_eq_true rfl)
      · refine zz_iconst (v := 1) G dX_comesBefore_39 (by decide) ?_
        refine zz_goto (tgt := 44) G dX_comesBefore_40 rfl ?_
        exact zz_zret G hret dX_comesBefore_44 rfl (by rw [show sBfr (fx_words x) u v = 1 from by rw [sBfr, if_neg (sCmp_nlt h17), if_pos (sCmp_eq h21), if_pos (i32_lt h36)]]) (Nat.le_of_ble_eq_true rfl) (Nat.le_of_ble_eq_true rfl)
end
section
set_option maxRecDepth 100000 in
set_option maxHeartbeats 4000000 in
theorem cx_insertIntoCursor (l : Launch) (x : XS) (m : MS) (o : Nat → Int64) (u z : Nat) (iu : Int32) (hiu : iu = nI u) (hu : u < 64) (hz : fx_size x = nI z) (hz64 : z < 64) (hb : ∀ k, k < z → ∃ q, q < 64 ∧ fx_cur x k = nI q) : zC l yX_insertIntoCursor (Jvm.Cond.code yX_insertIntoCursor bX_insertIntoCursor 3 none :: Tw) 2 false 0 0 [.ref 0, .int iu] (wx x m o) (.inl (none, wx (sx_size (sx_cur x (insA (fx_words x) u z (fx_cur x))) (nI z + 1)) m o)) := by
  subst hiu
  refine zC_of [some (.ref 0), some (.int (nI u)), none] (by decide) rfl (Nat.le_of_ble_eq_true rfl) ?_
  intro p e s mm args below meth c D cI cJ as G hret hex hbd
  have loop : ∀ (q : Nat) (cv : Nat → Int32), q ≤ z → insL (fx_words x) u z (fx_cur x) = insL (fx_words x) u q cv → (∀ k, k < q → ∃ v, v < 64 ∧ cv k = nI v) → Z p l e (zrm 2) s mm args below meth c 3 D cI cJ as false 0 0 (zMQ below (.inl (none, wx (sx_size (sx_cur x (insA (fx_words x) u z (fx_cur x))) (nI z + 1)) m o)) D cI cJ as false s 0 0) 5 [some (.ref 0), some (.int (nI u)), some (.int (nI q))] [] (wx (sx_cur x cv) m o) := by
    intro q
    induction q with
    | zero =>
      intro cv hq hL hbq
      refine zz_iload_n G dX_insertIntoCursor_5 rfl ?_
      refine zz_if_le (tgt := 45) G dX_insertIntoCursor_6 rfl (fun h6 => ?_) (fun h6 => (h6 (by decide)).elim)
      refine zz_aload_n G dX_insertIntoCursor_45 rfl ?_
      refine zz_get (v := .ref 4) G dX_insertIntoCursor_46 flX_20 rfl rfl ?_
      refine zz_iload_n G dX_insertIntoCursor_49 rfl ?_
      refine zz_iload_n G dX_insertIntoCursor_50 rfl ?_
      refine zz_iast (w' := (wx (sx_cur x (upd cv 0 (nI u))) m o)) rfl G dX_insertIntoCursor_51 rfl (i1_in (by omega)) (by rw [i1_at (show 0 < 64 by omega)]; rfl) ?_
      refine zz_aload_n G dX_insertIntoCursor_52 rfl ?_
      refine zz_dupa G dX_insertIntoCursor_53 ?_
      refine zz_get (v := .int (nI z)) G dX_insertIntoCursor_54 flX_76 rfl (by rw [← hz]; rfl) ?_
      refine zz_iconst (v := 1) G dX_insertIntoCursor_57 (by decide) ?_
      refine zz_iadd G dX_insertIntoCursor_58 ?_
      refine zz_put (w' := (wx (sx_size (sx_cur x (upd cv 0 (nI u))) ((nI z) + 1)) m o)) rfl G dX_insertIntoCursor_59 flX_76 rfl rfl rfl (Nat.le_of_ble_eq_true rfl) rfl ?_
      exact zz_vret G hret dX_insertIntoCursor_62 (by rw [show insA (fx_words x) u z (fx_cur x) = upd cv 0 (nI u) from by unfold insA; rw [hL]; rfl]) (Nat.le_of_ble_eq_true rfl) (Nat.le_of_ble_eq_true rfl)
    | succ q ih =>
      intro cv hq hL hbq
      obtain ⟨v, hv, ev⟩ := hbq q (by omega)
      refine zz_iload_n G dX_insertIntoCursor_5 rfl ?_
      refine zz_if_le (tgt := 45) G dX_insertIntoCursor_6 rfl (fun h6 => (nI_nle (by omega) (by omega) h6).elim) (fun h6 => ?_)
      refine zz_aload_n G dX_insertIntoCursor_9 rfl ?_
      refine zz_iload_n G dX_insertIntoCursor_10 rfl ?_
      refine zz_aload_n G dX_insertIntoCursor_11 rfl ?_
      refine zz_get (v := .ref 4) G dX_insertIntoCursor_12 flX_20 rfl rfl ?_
      refine zz_iload_n G dX_insertIntoCursor_15 rfl ?_
      refine zz_iconst (v := 1) G dX_insertIntoCursor_16 (by decide) ?_
      refine zz_isub G dX_insertIntoCursor_17 ?_
      refine zz_iald (v := cv q) G dX_insertIntoCursor_18 rfl (by rw [nI_pred]; exact i1_in (by omega)) (by rw [nI_pred, i1_at (by omega)]; rfl) ?_
      refine zz_callVi (v := sBfr (fx_words x) u v) (w' := (wx (sx_cur x cv) m o)) (As := [.int (nI u), .int (cv q)]) (rest := []) G (cx_comesBefore l (sx_cur x cv) m o u v _ _ rfl ev (hu) (hv)) kX_155 dX_insertIntoCursor_19 rfl rfl rfl rfl (Nat.le_of_ble_eq_true rfl) (fun _ => rfl) ⟨Nat.le_of_ble_eq_true rfl, Nat.le_of_ble_eq_true rfl⟩ ⟨Nat.le_of_ble_eq_true rfl, Nat.le_of_ble_eq_true rfl⟩ ?_
      refine zz_if_eq (tgt := 45) G dX_insertIntoCursor_22 rfl (fun h22 => ?_) (fun h22 => ?_)
      · refine zz_aload_n G dX_insertIntoCursor_45 rfl ?_
        refine zz_get (v := .ref 4) G dX_insertIntoCursor_46 flX_20 rfl rfl ?_
        refine zz_iload_n G dX_insertIntoCursor_49 rfl ?_
        refine zz_iload_n G dX_insertIntoCursor_50 rfl ?_
        refine zz_iast (w' := (wx (sx_cur x (upd cv (q + 1) (nI u))) m o)) rfl G dX_insertIntoCursor_51 rfl (i1_in (by omega)) (by rw [i1_at (show q + 1 < 64 by omega)]; rfl) ?_
        refine zz_aload_n G dX_insertIntoCursor_52 rfl ?_
        refine zz_dupa G dX_insertIntoCursor_53 ?_
        refine zz_get (v := .int (nI z)) G dX_insertIntoCursor_54 flX_76 rfl (by rw [← hz]; rfl) ?_
        refine zz_iconst (v := 1) G dX_insertIntoCursor_57 (by decide) ?_
        refine zz_iadd G dX_insertIntoCursor_58 ?_
        refine zz_put (w' := (wx (sx_size (sx_cur x (upd cv (q + 1) (nI u))) ((nI z) + 1)) m o)) rfl G dX_insertIntoCursor_59 flX_76 rfl rfl rfl (Nat.le_of_ble_eq_true rfl) rfl ?_
        exact zz_vret G hret dX_insertIntoCursor_62 (by rw [show insA (fx_words x) u z (fx_cur x) = upd cv (q + 1) (nI u) from by unfold insA; rw [hL, insL_stop (by rw [ev, i1_at hv]; exact h22)]]) (Nat.le_of_ble_eq_true rfl) (Nat.le_of_ble_eq_true rfl)
      · refine zz_aload_n G dX_insertIntoCursor_25 rfl ?_
        refine zz_get (v := .ref 4) G dX_insertIntoCursor_26 flX_20 rfl rfl ?_
        refine zz_iload_n G dX_insertIntoCursor_29 rfl ?_
        refine zz_aload_n G dX_insertIntoCursor_30 rfl ?_
        refine zz_get (v := .ref 4) G dX_insertIntoCursor_31 flX_20 rfl rfl ?_
        refine zz_iload_n G dX_insertIntoCursor_34 rfl ?_
        refine zz_iconst (v := 1) G dX_insertIntoCursor_35 (by decide) ?_
        refine zz_isub G dX_insertIntoCursor_36 ?_
        refine zz_iald (v := cv q) G dX_insertIntoCursor_37 rfl (by rw [nI_pred]; exact i1_in (by omega)) (by rw [nI_pred, i1_at (by omega)]; rfl) ?_
        refine zz_iast (w' := (wx (sx_cur x (upd cv (q + 1) (cv q))) m o)) rfl G dX_insertIntoCursor_38 rfl (i1_in (by omega)) (by rw [i1_at (show q + 1 < 64 by omega)]; rfl) ?_
        refine zz_iinc (v := nI q) (lv' := [some (.ref 0), some (.int (nI u)), some (.int (nI q))]) G dX_insertIntoCursor_39 rfl (by rw [show Int32.ofInt (-1) = -1 from rfl]; exact pk_m1 q) rfl ?_
        refine zz_goto (tgt := 5) G dX_insertIntoCursor_42 rfl ?_
        refine ih (upd cv (q + 1) (cv q)) (by omega) (by rw [hL, insL_on (by rw [ev, i1_at hv]; exact h22)]) ?_
        intro k hk
        rw [show upd cv (q + 1) (cv q) k = cv k from if_neg (by omega)]
        exact hbq k (by omega)
  refine zz_aload_n G dX_insertIntoCursor_0 rfl ?_
  refine zz_get (v := .int (nI z)) G dX_insertIntoCursor_1 flX_76 rfl (by rw [← hz]; rfl) ?_
  refine zz_istore_n (lv' := [some (.ref 0), some (.int (nI u)), some (.int (nI z))]) G dX_insertIntoCursor_4 (Nat.le_of_ble_eq_true rfl) rfl ?_
  exact loop z (fx_cur x) (Nat.le_refl z) rfl hb
set_option maxRecDepth 100000 in
set_option maxHeartbeats 4000000 in
theorem cx_append (l : Launch) (x : XS) (m : MS) (o : Nat → Int64) (n : Nat) (k e1 d c1 a y : Int32) (hvc : fx_vc x = nI n) (hn : n < 64) : zC l yX_append (Jvm.Cond.code yX_append bX_append 9 (some .int) :: Tw) 2 false 0 0 [.ref 0, .int k, .int e1, .int d, .int c1, .int a, .int y] (wx x m o) (.inl (some (.int (nI n)), wx (xApp x n k e1 d c1 a y) m o)) := by
  refine zC_of [some (.ref 0), some (.int k), some (.int e1), some (.int d), some (.int c1), some (.int a), some (.int y), none, none] (by decide) rfl (Nat.le_of_ble_eq_true rfl) ?_
  intro p e s mm args below meth c D cI cJ as G hret hex hbd
  refine zz_aload_n G dX_append_0 rfl ?_
  refine zz_get (v := .int (nI n)) G dX_append_1 flX_105 rfl (by rw [← hvc]; rfl) ?_
  refine zz_istore (lv' := [some (.ref 0), some (.int k), some (.int e1), some (.int d), some (.int c1), some (.int a), some (.int y), some (.int (nI n)), none]) G dX_append_4 (Nat.le_of_ble_eq_true rfl) rfl ?_
  refine zz_iload G dX_append_6 rfl ?_
  refine zz_bipush (v := 6) G dX_append_8 (by decide) ?_
  refine zz_imul G dX_append_10 ?_
  refine zz_istore (lv' := [some (.ref 0), some (.int k), some (.int e1), some (.int d), some (.int c1), some (.int a), some (.int y), some (.int (nI n)), some (.int ((nI n) * 6))]) G dX_append_11 (Nat.le_of_ble_eq_true rfl) rfl ?_
  refine zz_aload_n G dX_append_13 rfl ?_
  refine zz_get (v := .ref 1) G dX_append_14 flX_9 rfl rfl ?_
  refine zz_iload G dX_append_17 rfl ?_
  refine zz_iconst (v := 0) G dX_append_19 (by decide) ?_
  refine zz_iadd G dX_append_20 ?_
  refine zz_iload_n G dX_append_21 rfl ?_
  refine zz_iast (w' := (wx (sx_words x (upd (fx_words x) (6 * n + 0) k)) m o)) rfl G dX_append_22 rfl (ix_in (k := 0) hn (by decide)) (by rw [show (nI n * 6 + 0).toNatClampNeg = 6 * n + 0 from ix_at (k := 0) hn (by decide)]; rfl) ?_
  refine zz_aload_n G dX_append_23 rfl ?_
  refine zz_get (v := .ref 1) G dX_append_24 flX_9 rfl rfl ?_
  refine zz_iload G dX_append_27 rfl ?_
  refine zz_iconst (v := 1) G dX_append_29 (by decide) ?_
  refine zz_iadd G dX_append_30 ?_
  refine zz_iload_n G dX_append_31 rfl ?_
  refine zz_iast (w' := (wx (sx_words x (upd (upd (fx_words x) (6 * n + 0) k) (6 * n + 1) e1)) m o)) rfl G dX_append_32 rfl (ix_in (k := 1) hn (by decide)) (by rw [show (nI n * 6 + 1).toNatClampNeg = 6 * n + 1 from ix_at (k := 1) hn (by decide)]; rfl) ?_
  refine zz_aload_n G dX_append_33 rfl ?_
  refine zz_get (v := .ref 1) G dX_append_34 flX_9 rfl rfl ?_
  refine zz_iload G dX_append_37 rfl ?_
  refine zz_iconst (v := 2) G dX_append_39 (by decide) ?_
  refine zz_iadd G dX_append_40 ?_
  refine zz_iload_n G dX_append_41 rfl ?_
  refine zz_iast (w' := (wx (sx_words x (upd (upd (upd (fx_words x) (6 * n + 0) k) (6 * n + 1) e1) (6 * n + 2) d)) m o)) rfl G dX_append_42 rfl (ix_in (k := 2) hn (by decide)) (by rw [show (nI n * 6 + 2).toNatClampNeg = 6 * n + 2 from ix_at (k := 2) hn (by decide)]; rfl) ?_
  refine zz_aload_n G dX_append_43 rfl ?_
  refine zz_get (v := .ref 1) G dX_append_44 flX_9 rfl rfl ?_
  refine zz_iload G dX_append_47 rfl ?_
  refine zz_iconst (v := 3) G dX_append_49 (by decide) ?_
  refine zz_iadd G dX_append_50 ?_
  refine zz_iload G dX_append_51 rfl ?_
  refine zz_iast (w' := (wx (sx_words x (upd (upd (upd (upd (fx_words x) (6 * n + 0) k) (6 * n + 1) e1) (6 * n + 2) d) (6 * n + 3) c1)) m o)) rfl G dX_append_53 rfl (ix_in (k := 3) hn (by decide)) (by rw [show (nI n * 6 + 3).toNatClampNeg = 6 * n + 3 from ix_at (k := 3) hn (by decide)]; rfl) ?_
  refine zz_aload_n G dX_append_54 rfl ?_
  refine zz_get (v := .ref 1) G dX_append_55 flX_9 rfl rfl ?_
  refine zz_iload G dX_append_58 rfl ?_
  refine zz_iconst (v := 4) G dX_append_60 (by decide) ?_
  refine zz_iadd G dX_append_61 ?_
  refine zz_iload G dX_append_62 rfl ?_
  refine zz_iast (w' := (wx (sx_words x (upd (upd (upd (upd (upd (fx_words x) (6 * n + 0) k) (6 * n + 1) e1) (6 * n + 2) d) (6 * n + 3) c1) (6 * n + 4) a)) m o)) rfl G dX_append_64 rfl (ix_in (k := 4) hn (by decide)) (by rw [show (nI n * 6 + 4).toNatClampNeg = 6 * n + 4 from ix_at (k := 4) hn (by decide)]; rfl) ?_
  refine zz_aload_n G dX_append_65 rfl ?_
  refine zz_get (v := .ref 1) G dX_append_66 flX_9 rfl rfl ?_
  refine zz_iload G dX_append_69 rfl ?_
  refine zz_iconst (v := 5) G dX_append_71 (by decide) ?_
  refine zz_iadd G dX_append_72 ?_
  refine zz_iload G dX_append_73 rfl ?_
  refine zz_iast (w' := (wx (sx_words x (upd (upd (upd (upd (upd (upd (fx_words x) (6 * n + 0) k) (6 * n + 1) e1) (6 * n + 2) d) (6 * n + 3) c1) (6 * n + 4) a) (6 * n + 5) y)) m o)) rfl G dX_append_75 rfl (ix_in (k := 5) hn (by decide)) (by rw [show (nI n * 6 + 5).toNatClampNeg = 6 * n + 5 from ix_at (k := 5) hn (by decide)]; rfl) ?_
  refine zz_aload_n G dX_append_76 rfl ?_
  refine zz_get (v := .ref 2) G dX_append_77 flX_13 rfl rfl ?_
  refine zz_iload G dX_append_80 rfl ?_
  refine zz_aload_n G dX_append_82 rfl ?_
  refine zz_iload G dX_append_83 rfl ?_
  refine zz_callVl (v := sLnk ((upd (upd (upd (upd (upd (upd (fx_words x) (6 * n + 0) k) (6 * n + 1) e1) (6 * n + 2) d) (6 * n + 3) c1) (6 * n + 4) a) (6 * n + 5) y)) n (sBef (fx_links x) n) 6) (w' := (wx (sx_words x (upd (upd (upd (upd (upd (upd (fx_words x) (6 * n + 0) k) (6 * n + 1) e1) (6 * n + 2) d) (6 * n + 3) c1) (6 * n + 4) a) (6 * n + 5) y)) m o)) (As := [.int (nI n)]) (rest := [.int (nI n), .ref 2]) G (cx_linkOfWords l (sx_words x (upd (upd (upd (upd (upd (upd (fx_words x) (6 * n + 0) k) (6 * n + 1) e1) (6 * n + 2) d) (6 * n + 3) c1) (6 * n + 4) a) (6 * n + 5) y)) m o n _ rfl (hn)) kX_112 dX_append_85 rfl rfl rfl rfl (Nat.le_of_ble_eq_true rfl) (fun _ => rfl) ⟨Nat.le_of_ble_eq_true rfl, Nat.le_of_ble_eq_true rfl⟩ ⟨Nat.le_of_ble_eq_true rfl, Nat.le_of_ble_eq_true rfl⟩ ?_
  refine zz_last (w' := (wx (sx_links (sx_words x (upd (upd (upd (upd (upd (upd (fx_words x) (6 * n + 0) k) (6 * n + 1) e1) (6 * n + 2) d) (6 * n + 3) c1) (6 * n + 4) a) (6 * n + 5) y)) (vp_updL (fx_links x) n (sLnk ((upd (upd (upd (upd (upd (upd (fx_words x) (6 * n + 0) k) (6 * n + 1) e1) (6 * n + 2) d) (6 * n + 3) c1) (6 * n + 4) a) (6 * n + 5) y)) n (sBef (fx_links x) n) 6))) m o)) rfl G dX_append_88 rfl (i1_in hn) (by rw [i1_at hn]; rfl) ?_
  refine zz_aload_n G dX_append_89 rfl ?_
  refine zz_get (v := .ref 3) G dX_append_90 flX_17 rfl rfl ?_
  refine zz_iload G dX_append_93 rfl ?_
  refine zz_bipush (v := 64) G dX_append_95 (by decide) ?_
  refine zz_iast (w' := (wx (sx_rep (sx_links (sx_words x (upd (upd (upd (upd (upd (upd (fx_words x) (6 * n + 0) k) (6 * n + 1) e1) (6 * n + 2) d) (6 * n + 3) c1) (6 * n + 4) a) (6 * n + 5) y)) (vp_updL (fx_links x) n (sLnk ((upd (upd (upd (upd (upd (upd (fx_words x) (6 * n + 0) k) (6 * n + 1) e1) (6 * n + 2) d) (6 * n + 3) c1) (6 * n + 4) a) (6 * n + 5) y)) n (sBef (fx_links x) n) 6))) (upd (fx_rep x) n 64)) m o)) rfl G dX_append_97 rfl (i1_in hn) (by rw [i1_at hn]; rfl) ?_
  refine zz_aload_n G dX_append_98 rfl ?_
  refine zz_dupa G dX_append_99 ?_
  refine zz_get (v := .int (nI n)) G dX_append_100 flX_105 rfl (by rw [← hvc]; rfl) ?_
  refine zz_iconst (v := 1) G dX_append_103 (by decide) ?_
  refine zz_iadd G dX_append_104 ?_
  refine zz_put (w' := (wx (sx_vc (sx_rep (sx_links (sx_words x (upd (upd (upd (upd (upd (upd (fx_words x) (6 * n + 0) k) (6 * n + 1) e1) (6 * n + 2) d) (6 * n + 3) c1) (6 * n + 4) a) (6 * n + 5) y)) (vp_updL (fx_links x) n (sLnk ((upd (upd (upd (upd (upd (upd (fx_words x) (6 * n + 0) k) (6 * n + 1) e1) (6 * n + 2) d) (6 * n + 3) c1) (6 * n + 4) a) (6 * n + 5) y)) n (sBef (fx_links x) n) 6))) (upd (fx_rep x) n 64)) ((nI n) + 1)) m o)) rfl G dX_append_105 flX_105 rfl rfl rfl (Nat.le_of_ble_eq_true rfl) rfl ?_
  refine zz_iload G dX_append_108 rfl ?_
  exact zz_iret G hret dX_append_110 (rfl) (Nat.le_of_ble_eq_true rfl) (Nat.le_of_ble_eq_true rfl)
set_option maxRecDepth 100000 in
set_option maxHeartbeats 4000000 in
theorem cx_replace (l : Launch) (x : XS) (m : MS) (o : Nat → Int64) (n u : Nat) (iu k a : Int32) (hiu : iu = nI u) (hu : u < 64) (hvc : fx_vc x = nI n) (hn : n < 64) : zC l yX_replace (Jvm.Cond.code yX_replace bX_replace 5 (some .int) :: Tw) 3 false 0 0 [.ref 0, .int iu, .int k, .int a] (wx x m o) (.inl (some (.int (nI n)), wx (xRep x n u k a) m o)) := by
  subst hiu
  refine zC_of [some (.ref 0), some (.int (nI u)), some (.int k), some (.int a), none] (by decide) rfl (Nat.le_of_ble_eq_true rfl) ?_
  intro p e s mm args below meth c D cI cJ as G hret hex hbd
  refine zz_aload_n G dX_replace_0 rfl ?_
  refine zz_iload_n G dX_replace_1 rfl ?_
  refine zz_aload_n G dX_replace_2 rfl ?_
  refine zz_iload_n G dX_replace_3 rfl ?_
  refine zz_iconst (v := 1) G dX_replace_4 (by decide) ?_
  refine zz_callVi (v := fx_words x (6 * u + 1)) (w' := (wx x m o)) (As := [.int (nI u), .int 1]) (rest := [.int k, .ref 0]) G (cx_word l x m o u 1 _ _ rfl rfl (hu) (by decide)) kX_59 dX_replace_5 rfl rfl rfl rfl (Nat.le_of_ble_eq_true rfl) (fun _ => rfl) ⟨Nat.le_of_ble_eq_true rfl, Nat.le_of_ble_eq_true rfl⟩ ⟨Nat.le_of_ble_eq_true rfl, Nat.le_of_ble_eq_true rfl⟩ ?_
  refine zz_aload_n G dX_replace_8 rfl ?_
  refine zz_iload_n G dX_replace_9 rfl ?_
  refine zz_iconst (v := 2) G dX_replace_10 (by decide) ?_
  refine zz_callVi (v := fx_words x (6 * u + 2)) (w' := (wx x m o)) (As := [.int (nI u), .int 2]) (rest := [.int (fx_words x (6 * u + 1)), .int k, .ref 0]) G (cx_word l x m o u 2 _ _ rfl rfl (hu) (by decide)) kX_59 dX_replace_11 rfl rfl rfl rfl (Nat.le_of_ble_eq_true rfl) (fun _ => rfl) ⟨Nat.le_of_ble_eq_true rfl, Nat.le_of_ble_eq_true rfl⟩ ⟨Nat.le_of_ble_eq_true rfl, Nat.le_of_ble_eq_true rfl⟩ ?_
  refine zz_aload_n G dX_replace_14 rfl ?_
  refine zz_iload_n G dX_replace_15 rfl ?_
  refine zz_iconst (v := 3) G dX_replace_16 (by decide) ?_
  refine zz_callVi (v := fx_words x (6 * u + 3)) (w' := (wx x m o)) (As := [.int (nI u), .int 3]) (rest := [.int (fx_words x (6 * u + 2)), .int (fx_words x (6 * u + 1)), .int k, .ref 0]) G (cx_word l x m o u 3 _ _ rfl rfl (hu) (by decide)) kX_59 dX_replace_17 rfl rfl rfl rfl (Nat.le_of_ble_eq_true rfl) (fun _ => rfl) ⟨Nat.le_of_ble_eq_true rfl, Nat.le_of_ble_eq_true rfl⟩ ⟨Nat.le_of_ble_eq_true rfl, Nat.le_of_ble_eq_true rfl⟩ ?_
  refine zz_iload_n G dX_replace_20 rfl ?_
  refine zz_aload_n G dX_replace_21 rfl ?_
  refine zz_iload_n G dX_replace_22 rfl ?_
  refine zz_iconst (v := 5) G dX_replace_23 (by decide) ?_
  refine zz_callVi (v := fx_words x (6 * u + 5)) (w' := (wx x m o)) (As := [.int (nI u), .int 5]) (rest := [.int a, .int (fx_words x (6 * u + 3)), .int (fx_words x (6 * u + 2)), .int (fx_words x (6 * u + 1)), .int k, .ref 0]) G (cx_word l x m o u 5 _ _ rfl rfl (hu) (by decide)) kX_59 dX_replace_24 rfl rfl rfl rfl (Nat.le_of_ble_eq_true rfl) (fun _ => rfl) ⟨Nat.le_of_ble_eq_true rfl, Nat.le_of_ble_eq_true rfl⟩ ⟨Nat.le_of_ble_eq_true rfl, Nat.le_of_ble_eq_true rfl⟩ ?_
  refine zz_callVi (v := nI n) (w' := (wx (xApp x n k (fx_words x (6 * u + 1)) (fx_words x (6 * u + 2)) (fx_words x (6 * u + 3)) a (fx_words x (6 * u + 5))) m o)) (As := [.int k, .int (fx_words x (6 * u + 1)), .int (fx_words x (6 * u + 2)), .int (fx_words x (6 * u + 3)), .int a, .int (fx_words x (6 * u + 5))]) (rest := []) G (cx_append l x m o n k (fx_words x (6 * u + 1)) (fx_words x (6 * u + 2)) (fx_words x (6 * u + 3)) a (fx_words x (6 * u + 5)) hvc hn) kX_51 dX_replace_27 rfl rfl rfl rfl (Nat.le_of_ble_eq_true rfl) (fun h => by cases h) ⟨Nat.le_of_ble_eq_true rfl, Nat.le_of_ble_eq_true rfl⟩ ⟨Nat.le_of_ble_eq_true rfl, Nat.le_of_ble_eq_true rfl⟩ ?_
  refine zz_istore (lv' := [some (.ref 0), some (.int (nI u)), some (.int k), some (.int a), some (.int (nI n))]) G dX_replace_30 (Nat.le_of_ble_eq_true rfl) rfl ?_
  refine zz_aload_n G dX_replace_32 rfl ?_
  refine zz_get (v := .ref 3) G dX_replace_33 flX_17 rfl rfl ?_
  refine zz_iload_n G dX_replace_36 rfl ?_
  refine zz_iload G dX_replace_37 rfl ?_
  refine zz_iast (w' := (wx (sx_rep (xApp x n k (fx_words x (6 * u + 1)) (fx_words x (6 * u + 2)) (fx_words x (6 * u + 3)) a (fx_words x (6 * u + 5))) (upd (fx_rep (xApp x n k (fx_words x (6 * u + 1)) (fx_words x (6 * u + 2)) (fx_words x (6 * u + 3)) a (fx_words x (6 * u + 5)))) u (nI n))) m o)) rfl G dX_replace_39 rfl (i1_in hu) (by rw [i1_at hu]; rfl) ?_
  refine zz_iload G dX_replace_40 rfl ?_
  exact zz_iret G hret dX_replace_42 (rfl) (Nat.le_of_ble_eq_true rfl) (Nat.le_of_ble_eq_true rfl)
set_option maxRecDepth 100000 in
set_option maxHeartbeats 4000000 in
theorem cx_refuseIfTampered (l : Launch) (hfl : l.flags = Jvm.pinnedFlags ++ [Jvm.noTraceFlag]) (x : XS) (m : MS) (o : Nat → Int64)  : zC l yX_refuseIfTampered (Jvm.Cond.code yX_refuseIfTampered bX_refuseIfTampered 1 none :: Tw) 2 true 0 0 [.ref 0] (wx x m o) (if fx_tam x = 0 then .inl (none, wx x m o) else .inr ("java/lang/IllegalStateException", wx x m o)) := by
  refine zC_of [some (.ref 0)] (by decide) rfl (Nat.le_of_ble_eq_true rfl) ?_
  intro p e s mm args below meth c D cI cJ as G hret hex hbd
  refine zz_aload_n G dX_refuseIfTampered_0 rfl ?_
  refine zz_get (v := .int (fx_tam x)) G dX_refuseIfTampered_1 flX_118 rfl rfl ?_
  refine zz_if_eq (tgt := 17) G dX_refuseIfTampered_4 rfl (fun h4 => ?_) (fun h4 => ?_)
  · exact zz_vret G hret dX_refuseIfTampered_17 (if_pos h4) (Nat.le_of_ble_eq_true rfl) (Nat.le_of_ble_eq_true rfl)
  · exact zz_throw hfl G dX_refuseIfTampered_7 dX_refuseIfTampered_10 dX_refuseIfTampered_11 dX_refuseIfTampered_13 dX_refuseIfTampered_16 ow_122 rfl hbd hex ⟨Nat.le_of_ble_eq_true rfl, Nat.le_of_ble_eq_true rfl⟩ ⟨Nat.le_of_ble_eq_true rfl, Nat.le_of_ble_eq_true rfl⟩ (if_neg h4) rfl rfl
theorem cx_refuseIfTampered_ok (l : Launch) (hfl : l.flags = Jvm.pinnedFlags ++ [Jvm.noTraceFlag]) (x : XS) (m : MS) (o : Nat → Int64)  (h : fx_tam x = 0) : zC l yX_refuseIfTampered (Jvm.Cond.code yX_refuseIfTampered bX_refuseIfTampered 1 none :: Tw) 2 true 0 0 [.ref 0] (wx x m o) (.inl (none, wx x m o)) := by
  have q := cx_refuseIfTampered l hfl x m o 
  rwa [if_pos h] at q
theorem cx_refuseIfTampered_no (l : Launch) (hfl : l.flags = Jvm.pinnedFlags ++ [Jvm.noTraceFlag]) (x : XS) (m : MS) (o : Nat → Int64)  (h : ¬ (fx_tam x = 0)) : zC l yX_refuseIfTampered (Jvm.Cond.code yX_refuseIfTampered bX_refuseIfTampered 1 none :: Tw) 2 true 0 0 [.ref 0] (wx x m o) (.inr ("java/lang/IllegalStateException", wx x m o)) := by
  have q := cx_refuseIfTampered l hfl x m o 
  rwa [if_neg h] at q
set_option maxRecDepth 100000 in
set_option maxHeartbeats 4000000 in
theorem cx_refuseArgumentsUnless (l : Launch) (hfl : l.flags = Jvm.pinnedFlags ++ [Jvm.noTraceFlag]) (x : XS) (m : MS) (o : Nat → Int64) (b : Int32) : zC l yX_refuseArgumentsUnless (Jvm.Cond.code yX_refuseArgumentsUnless bX_refuseArgumentsUnless 1 none :: Tw) 2 true 0 0 [.int b] (wx x m o) (if ¬ b = 0 then .inl (none, wx x m o) else .inr ("java/lang/IllegalArgumentException", wx x m o)) := by
  refine zC_of [some (.int b)] (by decide) rfl (Nat.le_of_ble_eq_true rfl) ?_
  intro p e s mm args below meth c D cI cJ as G hret hex hbd
  refine zz_iload_n G dX_refuseArgumentsUnless_0 rfl ?_
  refine zz_if_ne (tgt := 14) G dX_refuseArgumentsUnless_1 rfl (fun h1 => ?_) (fun h1 => ?_)
  · exact zz_vret G hret dX_refuseArgumentsUnless_14 (if_pos h1) (Nat.le_of_ble_eq_true rfl) (Nat.le_of_ble_eq_true rfl)
  · exact zz_throw hfl G dX_refuseArgumentsUnless_4 dX_refuseArgumentsUnless_7 dX_refuseArgumentsUnless_8 dX_refuseArgumentsUnless_10 dX_refuseArgumentsUnless_13 ow_129 rfl hbd hex ⟨Nat.le_of_ble_eq_true rfl, Nat.le_of_ble_eq_true rfl⟩ ⟨Nat.le_of_ble_eq_true rfl, Nat.le_of_ble_eq_true rfl⟩ (if_neg (fun z => z h1)) rfl rfl
theorem cx_refuseArgumentsUnless_ok (l : Launch) (hfl : l.flags = Jvm.pinnedFlags ++ [Jvm.noTraceFlag]) (x : XS) (m : MS) (o : Nat → Int64) (b : Int32) (h : ¬ b = 0) : zC l yX_refuseArgumentsUnless (Jvm.Cond.code yX_refuseArgumentsUnless bX_refuseArgumentsUnless 1 none :: Tw) 2 true 0 0 [.int b] (wx x m o) (.inl (none, wx x m o)) := by
  have q := cx_refuseArgumentsUnless l hfl x m o b
  rwa [if_pos h] at q
theorem cx_refuseArgumentsUnless_no (l : Launch) (hfl : l.flags = Jvm.pinnedFlags ++ [Jvm.noTraceFlag]) (x : XS) (m : MS) (o : Nat → Int64) (b : Int32) (h : ¬ (¬ b = 0)) : zC l yX_refuseArgumentsUnless (Jvm.Cond.code yX_refuseArgumentsUnless bX_refuseArgumentsUnless 1 none :: Tw) 2 true 0 0 [.int b] (wx x m o) (.inr ("java/lang/IllegalArgumentException", wx x m o)) := by
  have q := cx_refuseArgumentsUnless l hfl x m o b
  rwa [if_neg h] at q
set_option maxRecDepth 100000 in
set_option maxHeartbeats 4000000 in
theorem cx_refuseIfFull (l : Launch) (hfl : l.flags = Jvm.pinnedFlags ++ [Jvm.noTraceFlag]) (x : XS) (m : MS) (o : Nat → Int64)  : zC l yX_refuseIfFull (Jvm.Cond.code yX_refuseIfFull bX_refuseIfFull 1 none :: Tw) 2 true 0 0 [.ref 0] (wx x m o) (if fx_vc x < 64 then .inl (none, wx x m o) else .inr ("java/lang/UnsupportedOperationException", wx x m o)) := by
  refine zC_of [some (.ref 0)] (by decide) rfl (Nat.le_of_ble_eq_true rfl) ?_
  intro p e s mm args below meth c D cI cJ as G hret hex hbd
  refine zz_aload_n G dX_refuseIfFull_0 rfl ?_
  refine zz_get (v := .int (fx_vc x)) G dX_refuseIfFull_1 flX_105 rfl rfl ?_
  refine zz_bipush (v := 64) G dX_refuseIfFull_4 (by decide) ?_
  refine zz_icmp_lt (tgt := 19) G dX_refuseIfFull_6 rfl (fun h6 => ?_) (fun h6 => ?_)
  · exact zz_vret G hret dX_refuseIfFull_19 (if_pos h6) (Nat.le_of_ble_eq_true rfl) (Nat.le_of_ble_eq_true rfl)
  · exact zz_throw hfl G dX_refuseIfFull_9 dX_refuseIfFull_12 dX_refuseIfFull_13 dX_refuseIfFull_15 dX_refuseIfFull_18 ow_134 rfl hbd hex ⟨Nat.le_of_ble_eq_true rfl, Nat.le_of_ble_eq_true rfl⟩ ⟨Nat.le_of_ble_eq_true rfl, Nat.le_of_ble_eq_true rfl⟩ (if_neg h6) rfl rfl
theorem cx_refuseIfFull_ok (l : Launch) (hfl : l.flags = Jvm.pinnedFlags ++ [Jvm.noTraceFlag]) (x : XS) (m : MS) (o : Nat → Int64)  (h : fx_vc x < 64) : zC l yX_refuseIfFull (Jvm.Cond.code yX_refuseIfFull bX_refuseIfFull 1 none :: Tw) 2 true 0 0 [.ref 0] (wx x m o) (.inl (none, wx x m o)) := by
  have q := cx_refuseIfFull l hfl x m o 
  rwa [if_pos h] at q
theorem cx_refuseIfFull_no (l : Launch) (hfl : l.flags = Jvm.pinnedFlags ++ [Jvm.noTraceFlag]) (x : XS) (m : MS) (o : Nat → Int64)  (h : ¬ (fx_vc x < 64)) : zC l yX_refuseIfFull (Jvm.Cond.code yX_refuseIfFull bX_refuseIfFull 1 none :: Tw) 2 true 0 0 [.ref 0] (wx x m o) (.inr ("java/lang/UnsupportedOperationException", wx x m o)) := by
  have q := cx_refuseIfFull l hfl x m o 
  rwa [if_neg h] at q
set_option maxRecDepth 100000 in
set_option maxHeartbeats 4000000 in
theorem cx_refuseIfTurnoverTooHigh (l : Launch) (hfl : l.flags = Jvm.pinnedFlags ++ [Jvm.noTraceFlag]) (x : XS) (m : MS) (o : Nat → Int64) (n : Nat) (a b1 b2 : Int32) (hvc : fx_vc x = nI n) (hn : n ≤ 64) : zC l yX_refuseIfTurnoverTooHigh (Jvm.Cond.code yX_refuseIfTurnoverTooHigh bX_refuseIfTurnoverTooHigh 6 none :: Tw) 3 true 0 0 [.ref 0, .int a, .int b1, .int b2] (wx x m o) (if sOver x n a b1 b2 ≤ 0 then .inl (none, wx x m o) else .inr ("java/lang/ArithmeticException", wx x m o)) := by
  refine zC_of [some (.ref 0), some (.int a), some (.int b1), some (.int b2), none, none] (by decide) rfl (Nat.le_of_ble_eq_true rfl) ?_
  intro p e s mm args below meth c D cI cJ as G hret hex hbd
  refine zz_aload_n G dX_refuseIfTurnoverTooHigh_0 rfl ?_
  refine zz_iload_n G dX_refuseIfTurnoverTooHigh_1 rfl ?_
  refine zz_callVi (v := cTurn (fx_words x) (fx_rep x) a (nI n) n) (w' := (wx x m o)) (As := [.int a]) (rest := []) G (cx_turnoverOf l x m o a n hvc hn) kX_73 dX_refuseIfTurnoverTooHigh_2 rfl rfl rfl rfl (Nat.le_of_ble_eq_true rfl) (fun _ => rfl) ⟨Nat.le_of_ble_eq_true rfl, Nat.le_of_ble_eq_true rfl⟩ ⟨Nat.le_of_ble_eq_true rfl, Nat.le_of_ble_eq_true rfl⟩ ?_
  refine zz_i2l G dX_refuseIfTurnoverTooHigh_5 ?_
  refine zz_iload_n G dX_refuseIfTurnoverTooHigh_6 rfl ?_
  refine zz_i2l G dX_refuseIfTurnoverTooHigh_7 ?_
  refine zz_lsub G dX_refuseIfTurnoverTooHigh_8 ?_
  refine zz_iload_n G dX_refuseIfTurnoverTooHigh_9 rfl ?_
  refine zz_i2l G dX_refuseIfTurnoverTooHigh_10 ?_
  refine zz_ladd G dX_refuseIfTurnoverTooHigh_11 ?_
  refine zz_lstore (lv' := [some (.ref 0), some (.int a), some (.int b1), some (.int b2), some (.long ((((cTurn (fx_words x) (fx_rep x) a (nI n) n).toInt64) - b1.toInt64) + b2.toInt64)), none]) G dX_refuseIfTurnoverTooHigh_12 (Nat.le_of_ble_eq_true rfl) rfl ?_
  refine zz_lload G dX_refuseIfTurnoverTooHigh_14 rfl ?_
  refine zz_ldc2 (v := 2147483647) G dX_refuseIfTurnoverTooHigh_16 tw_271 ?_
  refine zz_lcmp G dX_refuseIfTurnoverTooHigh_19 ?_
  refine zz_if_le (tgt := 33) G dX_refuseIfTurnoverTooHigh_20 rfl (fun h20 => ?_) (fun h20 => ?_)
  · exact zz_vret G hret dX_refuseIfTurnoverTooHigh_33 (if_pos h20) (Nat.le_of_ble_eq_true rfl) (Nat.le_of_ble_eq_true rfl)
  · exact zz_throw hfl G dX_refuseIfTurnoverTooHigh_23 dX_refuseIfTurnoverTooHigh_26 dX_refuseIfTurnoverTooHigh_27 dX_refuseIfTurnoverTooHigh_29 dX_refuseIfTurnoverTooHigh_32 ow_141 rfl hbd hex ⟨Nat.le_of_ble_eq_true rfl, Nat.le_of_ble_eq_true rfl⟩ ⟨Nat.le_of_ble_eq_true rfl, Nat.le_of_ble_eq_true rfl⟩ (if_neg h20) rfl rfl
theorem cx_refuseIfTurnoverTooHigh_ok (l : Launch) (hfl : l.flags = Jvm.pinnedFlags ++ [Jvm.noTraceFlag]) (x : XS) (m : MS) (o : Nat → Int64) (n : Nat) (a b1 b2 : Int32) (hvc : fx_vc x = nI n) (hn : n ≤ 64) (h : sOver x n a b1 b2 ≤ 0) : zC l yX_refuseIfTurnoverTooHigh (Jvm.Cond.code yX_refuseIfTurnoverTooHigh bX_refuseIfTurnoverTooHigh 6 none :: Tw) 3 true 0 0 [.ref 0, .int a, .int b1, .int b2] (wx x m o) (.inl (none, wx x m o)) := by
  have q := cx_refuseIfTurnoverTooHigh l hfl x m o n a b1 b2 hvc hn
  rwa [if_pos h] at q
theorem cx_refuseIfTurnoverTooHigh_no (l : Launch) (hfl : l.flags = Jvm.pinnedFlags ++ [Jvm.noTraceFlag]) (x : XS) (m : MS) (o : Nat → Int64) (n : Nat) (a b1 b2 : Int32) (hvc : fx_vc x = nI n) (hn : n ≤ 64) (h : ¬ (sOver x n a b1 b2 ≤ 0)) : zC l yX_refuseIfTurnoverTooHigh (Jvm.Cond.code yX_refuseIfTurnoverTooHigh bX_refuseIfTurnoverTooHigh 6 none :: Tw) 3 true 0 0 [.ref 0, .int a, .int b1, .int b2] (wx x m o) (.inr ("java/lang/ArithmeticException", wx x m o)) := by
  have q := cx_refuseIfTurnoverTooHigh l hfl x m o n a b1 b2 hvc hn
  rwa [if_neg h] at q
set_option maxRecDepth 100000 in
set_option maxHeartbeats 4000000 in
theorem cx_versionToReplace (l : Launch) (hfl : l.flags = Jvm.pinnedFlags ++ [Jvm.noTraceFlag]) (x : XS) (m : MS) (o : Nat → Int64) (n : Nat) (en : Int32) (hvc : fx_vc x = nI n) (hn : n ≤ 64) : zC l yX_versionToReplace (Jvm.Cond.code yX_versionToReplace bX_versionToReplace 3 (some .int) :: Tw) 2 true 0 0 [.ref 0, .int en] (wx x m o) (rVtr x m o n en) := by
  refine zC_of [some (.ref 0), some (.int en), none] (by decide) rfl (Nat.le_of_ble_eq_true rfl) ?_
  intro p e s mm args below meth c D cI cJ as G hret hex hbd
  rcases hq : sLast (fx_words x) en n with _ | u
  · refine zz_aload_n G dX_versionToReplace_0 rfl ?_
    refine zz_iload_n G dX_versionToReplace_1 rfl ?_
    refine zz_aload_n G dX_versionToReplace_2 rfl ?_
    refine zz_get (v := .int (nI n)) G dX_versionToReplace_3 flX_105 rfl (by rw [← hvc]; rfl) ?_
    refine zz_callVi (v := (-1)) (w' := (wx x m o)) (As := [.int en, .int (nI n)]) (rest := []) G (by have q := cx_currentVersion l x m o en _ n rfl hn; rw [hq] at q; exact q) kX_102 dX_versionToReplace_6 rfl rfl rfl rfl (Nat.le_of_ble_eq_true rfl) (fun _ => rfl) ⟨Nat.le_of_ble_eq_true rfl, Nat.le_of_ble_eq_true rfl⟩ ⟨Nat.le_of_ble_eq_true rfl, Nat.le_of_ble_eq_true rfl⟩ ?_
    refine zz_istore_n (lv' := [some (.ref 0), some (.int en), some (.int (-1))]) G dX_versionToReplace_9 (Nat.le_of_ble_eq_true rfl) rfl ?_
    refine zz_iload_n G dX_versionToReplace_10 rfl ?_
    refine zz_iconst (v := -1) G dX_versionToReplace_11 (by decide) ?_
    refine zz_icmp_eq (tgt := 25) G dX_versionToReplace_12 rfl (fun h12 => ?_) (fun h12 => (h12 rfl).elim)
    exact zz_throwN hfl G dX_versionToReplace_25 dX_versionToReplace_28 dX_versionToReplace_29 dX_versionToReplace_31 dX_versionToReplace_34 ow_146 rfl hbd hex ⟨Nat.le_of_ble_eq_true rfl, Nat.le_of_ble_eq_true rfl⟩ ⟨Nat.le_of_ble_eq_true rfl, Nat.le_of_ble_eq_true rfl⟩ (by unfold rVtr; rw [hq]; rfl) rfl rfl
  · have hu : u < n := (mL_lt n hq).1
    refine zz_aload_n G dX_versionToReplace_0 rfl ?_
    refine zz_iload_n G dX_versionToReplace_1 rfl ?_
    refine zz_aload_n G dX_versionToReplace_2 rfl ?_
    refine zz_get (v := .int (nI n)) G dX_versionToReplace_3 flX_105 rfl (by rw [← hvc]; rfl) ?_
    refine zz_callVi (v := nI u) (w' := (wx x m o)) (As := [.int en, .int (nI n)]) (rest := []) G (by have q := cx_currentVersion l x m o en _ n rfl hn; rw [hq] at q; exact q) kX_102 dX_versionToReplace_6 rfl rfl rfl rfl (Nat.le_of_ble_eq_true rfl) (fun _ => rfl) ⟨Nat.le_of_ble_eq_true rfl, Nat.le_of_ble_eq_true rfl⟩ ⟨Nat.le_of_ble_eq_true rfl, Nat.le_of_ble_eq_true rfl⟩ ?_
    refine zz_istore_n (lv' := [some (.ref 0), some (.int en), some (.int (nI u))]) G dX_versionToReplace_9 (Nat.le_of_ble_eq_true rfl) rfl ?_
    refine zz_iload_n G dX_versionToReplace_10 rfl ?_
    refine zz_iconst (v := -1) G dX_versionToReplace_11 (by decide) ?_
    refine zz_icmp_eq (tgt := 25) G dX_versionToReplace_12 rfl (fun h12 => (nI_m1 (by omega) h12).elim) (fun h12 => ?_)
    refine zz_aload_n G dX_versionToReplace_15 rfl ?_
    refine zz_iload_n G dX_versionToReplace_16 rfl ?_
    refine zz_iconst (v := 0) G dX_versionToReplace_17 (by decide) ?_
    refine zz_callVi (v := fx_words x (6 * u + 0)) (w' := (wx x m o)) (As := [.int (nI u), .int 0]) (rest := []) G (cx_word l x m o u 0 _ _ rfl rfl (by omega) (by decide)) kX_59 dX_versionToReplace_18 rfl rfl rfl rfl (Nat.le_of_ble_eq_true rfl) (fun _ => rfl) ⟨Nat.le_of_ble_eq_true rfl, Nat.le_of_ble_eq_true rfl⟩ ⟨Nat.le_of_ble_eq_true rfl, Nat.le_of_ble_eq_true rfl⟩ ?_
    refine zz_iconst (v := 2) G dX_versionToReplace_21 (by decide) ?_
    refine zz_icmp_ne (tgt := 35) G dX_versionToReplace_22 rfl (fun h22 => ?_) (fun h22 => ?_)
    · refine zz_iload_n G dX_versionToReplace_35 rfl ?_
      exact zz_iret G hret dX_versionToReplace_36 (by unfold rVtr; rw [hq]; show (if fx_words x (6 * u + 0) = 2 then _ else _) = _; rw [if_neg h22]) (Nat.le_of_ble_eq_true rfl) (Nat.le_of_ble_eq_true rfl)
    · exact zz_throwN hfl G dX_versionToReplace_25 dX_versionToReplace_28 dX_versionToReplace_29 dX_versionToReplace_31 dX_versionToReplace_34 ow_146 rfl hbd hex ⟨Nat.le_of_ble_eq_true rfl, Nat.le_of_ble_eq_true rfl⟩ ⟨Nat.le_of_ble_eq_true rfl, Nat.le_of_ble_eq_true rfl⟩ (by unfold rVtr; rw [hq]; show (if fx_words x (6 * u + 0) = 2 then _ else _) = _; rw [if_pos h22]; rfl) rfl rfl
theorem cx_vtr_no1 (l : Launch) (hfl : l.flags = Jvm.pinnedFlags ++ [Jvm.noTraceFlag]) (x : XS) (m : MS) (o : Nat → Int64) (n : Nat) (en : Int32) (hvc : fx_vc x = nI n) (hn : n ≤ 64) (h : sLast (fx_words x) en n = none) : zC l yX_versionToReplace (Jvm.Cond.code yX_versionToReplace bX_versionToReplace 3 (some .int) :: Tw) 2 true 0 0 [.ref 0, .int en] (wx x m o) (xNSE (wx x m o)) := by
  have q := cx_versionToReplace l hfl x m o n en hvc hn
  unfold rVtr at q
  rw [h] at q
  exact q
theorem cx_vtr_no2 (l : Launch) (hfl : l.flags = Jvm.pinnedFlags ++ [Jvm.noTraceFlag]) (x : XS) (m : MS) (o : Nat → Int64) (n : Nat) (en : Int32) (hvc : fx_vc x = nI n) (hn : n ≤ 64) {u : Nat} (h : sLast (fx_words x) en n = some u) (h2 : fx_words x (6 * u + 0) = 2) : zC l yX_versionToReplace (Jvm.Cond.code yX_versionToReplace bX_versionToReplace 3 (some .int) :: Tw) 2 true 0 0 [.ref 0, .int en] (wx x m o) (xNSE (wx x m o)) := by
  have q := cx_versionToReplace l hfl x m o n en hvc hn
  unfold rVtr at q
  rw [h] at q
  simp only [h2, if_true] at q
  exact q
theorem cx_vtr_ok (l : Launch) (hfl : l.flags = Jvm.pinnedFlags ++ [Jvm.noTraceFlag]) (x : XS) (m : MS) (o : Nat → Int64) (n : Nat) (en : Int32) (hvc : fx_vc x = nI n) (hn : n ≤ 64) {u : Nat} (h : sLast (fx_words x) en n = some u) (h2 : ¬ fx_words x (6 * u + 0) = 2) : zC l yX_versionToReplace (Jvm.Cond.code yX_versionToReplace bX_versionToReplace 3 (some .int) :: Tw) 2 true 0 0 [.ref 0, .int en] (wx x m o) (.inl (some (.int (nI u)), wx x m o)) := by
  have q := cx_versionToReplace l hfl x m o n en hvc hn
  unfold rVtr at q
  rw [h] at q
  simp only [h2, if_false] at q
  exact q
end
section
set_option maxRecDepth 100000 in
set_option maxHeartbeats 4000000 in
theorem cx_post (l : Launch) (hfl : l.flags = Jvm.pinnedFlags ++ [Jvm.noTraceFlag]) (x : XS) (m : MS) (o : Nat → Int64) (n e1 : Nat) (d c1 a y : Int32) (hvc : fx_vc x = nI n) (hn : n ≤ 64) (hec : fx_ec x = nI e1) : zC l yX_post (Jvm.Cond.code yX_post bX_post 6 (some .int) :: Tw) 4 false 0 0 [.ref 0, .int d, .int c1, .int a, .int y] (wx x m o) (rPost x m o n e1 d c1 a y) := by
  refine zC_of [some (.ref 0), some (.int d), some (.int c1), some (.int a), some (.int y), none] (by decide) rfl (Nat.le_of_ble_eq_true rfl) ?_
  intro p e s mm args below meth c D cI cJ as G hret hex hbd
  refine zz_aload_n G dX_post_0 rfl ?_
  by_cases h1 : fx_tam x = 0
  rotate_left
  · exact zz_thrV (As := []) (rest := []) G (cx_refuseIfTampered_no l hfl x m o h1) kX_27 dX_post_1 rfl rfl rfl rfl (Nat.le_of_ble_eq_true rfl) (fun _ => rfl) ⟨Nat.le_of_ble_eq_true rfl, Nat.le_of_ble_eq_true rfl⟩ ⟨Nat.le_of_ble_eq_true rfl, Nat.le_of_ble_eq_true rfl⟩ hex (by rw [rPost, if_neg h1]; rfl) rfl rfl
  refine zz_callVv (w' := (wx x m o)) (As := []) (rest := []) G (cx_refuseIfTampered_ok l hfl x m o h1) kX_27 dX_post_1 rfl rfl rfl rfl (Nat.le_of_ble_eq_true rfl) (fun _ => rfl) ⟨Nat.le_of_ble_eq_true rfl, Nat.le_of_ble_eq_true rfl⟩ ⟨Nat.le_of_ble_eq_true rfl, Nat.le_of_ble_eq_true rfl⟩ ?_
  refine zz_iload_n G dX_post_4 rfl ?_
  refine zz_callSi (v := sAcc d) (w' := (wx x m o)) (As := [.int d]) (rest := []) G (cx_isAccount l x m o d) kX_30 dX_post_5 rfl rfl (Nat.le_of_ble_eq_true rfl) (fun _ => rfl) ⟨Nat.le_of_ble_eq_true rfl, Nat.le_of_ble_eq_true rfl⟩ ⟨Nat.le_of_ble_eq_true rfl, Nat.le_of_ble_eq_true rfl⟩ ?_
  refine zz_if_eq (tgt := 40) G dX_post_8 rfl (fun h8 => ?_) (fun h8 => ?_)
  · refine zz_iconst (v := 0) G dX_post_40 (by decide) ?_
    exact zz_thrS (As := [.int 0]) (rest := []) G (cx_refuseArgumentsUnless_no l hfl x m o 0 (fun z => z rfl)) kX_37 dX_post_41 rfl rfl (Nat.le_of_ble_eq_true rfl) (fun _ => rfl) ⟨Nat.le_of_ble_eq_true rfl, Nat.le_of_ble_eq_true rfl⟩ ⟨Nat.le_of_ble_eq_true rfl, Nat.le_of_ble_eq_true rfl⟩ hex (by rw [rPost, if_pos h1, if_pos h8]; rfl) rfl rfl
  · refine zz_iload_n G dX_post_11 rfl ?_
    refine zz_callSi (v := sAcc c1) (w' := (wx x m o)) (As := [.int c1]) (rest := []) G (cx_isAccount l x m o c1) kX_30 dX_post_12 rfl rfl (Nat.le_of_ble_eq_true rfl) (fun _ => rfl) ⟨Nat.le_of_ble_eq_true rfl, Nat.le_of_ble_eq_true rfl⟩ ⟨Nat.le_of_ble_eq_true rfl, Nat.le_of_ble_eq_true rfl⟩ ?_
    refine zz_if_eq (tgt := 40) G dX_post_15 rfl (fun h15 => ?_) (fun h15 => ?_)
    · refine zz_iconst (v := 0) G dX_post_40 (by decide) ?_
      exact zz_thrS (As := [.int 0]) (rest := []) G (cx_refuseArgumentsUnless_no l hfl x m o 0 (fun z => z rfl)) kX_37 dX_post_41 rfl rfl (Nat.le_of_ble_eq_true rfl) (fun _ => rfl) ⟨Nat.le_of_ble_eq_true rfl, Nat.le_of_ble_eq_true rfl⟩ ⟨Nat.le_of_ble_eq_true rfl, Nat.le_of_ble_eq_true rfl⟩ hex (by rw [rPost, if_pos h1, if_neg h8, if_pos h15]; rfl) rfl rfl
    · refine zz_iload_n G dX_post_18 rfl ?_
      refine zz_iload_n G dX_post_19 rfl ?_
      refine zz_icmp_eq (tgt := 40) G dX_post_20 rfl (fun h20 => ?_) (fun h20 => ?_)
      · refine zz_iconst (v := 0) G dX_post_40 (by decide) ?_
        exact zz_thrS (As := [.int 0]) (rest := []) G (cx_refuseArgumentsUnless_no l hfl x m o 0 (fun z => z rfl)) kX_37 dX_post_41 rfl rfl (Nat.le_of_ble_eq_true rfl) (fun _ => rfl) ⟨Nat.le_of_ble_eq_true rfl, Nat.le_of_ble_eq_true rfl⟩ ⟨Nat.le_of_ble_eq_true rfl, Nat.le_of_ble_eq_true rfl⟩ hex (by rw [rPost, if_pos h1, if_neg h8, if_neg h15, if_pos h20]; rfl) rfl rfl
      · refine zz_iload G dX_post_23 rfl ?_
        refine zz_callSi (v := sDay y) (w' := (wx x m o)) (As := [.int y]) (rest := []) G (cx_isDay l x m o y) kX_34 dX_post_25 rfl rfl (Nat.le_of_ble_eq_true rfl) (fun _ => rfl) ⟨Nat.le_of_ble_eq_true rfl, Nat.le_of_ble_eq_true rfl⟩ ⟨Nat.le_of_ble_eq_true rfl, Nat.le_of_ble_eq_true rfl⟩ ?_
        refine zz_if_eq (tgt := 40) G dX_post_28 rfl (fun h28 => ?_) (fun h28 => ?_)
        · refine zz_iconst (v := 0) G dX_post_40 (by decide) ?_
          exact zz_thrS (As := [.int 0]) (rest := []) G (cx_refuseArgumentsUnless_no l hfl x m o 0 (fun z => z rfl)) kX_37 dX_post_41 rfl rfl (Nat.le_of_ble_eq_true rfl) (fun _ => rfl) ⟨Nat.le_of_ble_eq_true rfl, Nat.le_of_ble_eq_true rfl⟩ ⟨Nat.le_of_ble_eq_true rfl, Nat.le_of_ble_eq_true rfl⟩ hex (by rw [rPost, if_pos h1, if_neg h8, if_neg h15, if_neg h20, if_pos h28]; rfl) rfl rfl
        · refine zz_iload_n G dX_post_31 rfl ?_
          refine zz_iconst (v := 1) G dX_post_32 (by decide) ?_
          refine zz_icmp_lt (tgt := 40) G dX_post_33 rfl (fun h33 => ?_) (fun h33 => ?_)
          · refine zz_iconst (v := 0) G dX_post_40 (by decide) ?_
            exact zz_thrS (As := [.int 0]) (rest := []) G (cx_refuseArgumentsUnless_no l hfl x m o 0 (fun z => z rfl)) kX_37 dX_post_41 rfl rfl (Nat.le_of_ble_eq_true rfl) (fun _ => rfl) ⟨Nat.le_of_ble_eq_true rfl, Nat.le_of_ble_eq_true rfl⟩ ⟨Nat.le_of_ble_eq_true rfl, Nat.le_of_ble_eq_true rfl⟩ hex (by rw [rPost, if_pos h1, if_neg h8, if_neg h15, if_neg h20, if_neg h28, if_pos h33]; rfl) rfl rfl
          · refine zz_iconst (v := 1) G dX_post_36 (by decide) ?_
            refine zz_goto (tgt := 41) G dX_post_37 rfl ?_
            refine zz_callSv (w' := (wx x m o)) (As := [.int 1]) (rest := []) G (cx_refuseArgumentsUnless_ok l hfl x m o 1 (by decide)) kX_37 dX_post_41 rfl rfl (Nat.le_of_ble_eq_true rfl) (fun _ => rfl) ⟨Nat.le_of_ble_eq_true rfl, Nat.le_of_ble_eq_true rfl⟩ ⟨Nat.le_of_ble_eq_true rfl, Nat.le_of_ble_eq_true rfl⟩ ?_
            refine zz_aload_n G dX_post_44 rfl ?_
            by_cases h45 : fx_vc x < 64
            rotate_left
            · exact zz_thrV (As := []) (rest := []) G (cx_refuseIfFull_no l hfl x m o h45) kX_41 dX_post_45 rfl rfl rfl rfl (Nat.le_of_ble_eq_true rfl) (fun _ => rfl) ⟨Nat.le_of_ble_eq_true rfl, Nat.le_of_ble_eq_true rfl⟩ ⟨Nat.le_of_ble_eq_true rfl, Nat.le_of_ble_eq_true rfl⟩ hex (by rw [rPost, if_pos h1, if_neg h8, if_neg h15, if_neg h20, if_neg h28, if_neg h33, if_neg h45]; rfl) rfl rfl
            refine zz_callVv (w' := (wx x m o)) (As := []) (rest := []) G (cx_refuseIfFull_ok l hfl x m o h45) kX_41 dX_post_45 rfl rfl rfl rfl (Nat.le_of_ble_eq_true rfl) (fun _ => rfl) ⟨Nat.le_of_ble_eq_true rfl, Nat.le_of_ble_eq_true rfl⟩ ⟨Nat.le_of_ble_eq_true rfl, Nat.le_of_ble_eq_true rfl⟩ ?_
            refine zz_aload_n G dX_post_48 rfl ?_
            refine zz_iload_n G dX_post_49 rfl ?_
            refine zz_iconst (v := 0) G dX_post_50 (by decide) ?_
            refine zz_iload_n G dX_post_51 rfl ?_
            by_cases h52 : sOver x n d 0 a ≤ 0
            rotate_left
            · exact zz_thrV (As := [.int d, .int 0, .int a]) (rest := []) G (cx_refuseIfTurnoverTooHigh_no l hfl x m o n d 0 a hvc (hn) h52) kX_44 dX_post_52 rfl rfl rfl rfl (Nat.le_of_ble_eq_true rfl) (fun _ => rfl) ⟨Nat.le_of_ble_eq_true rfl, Nat.le_of_ble_eq_true rfl⟩ ⟨Nat.le_of_ble_eq_true rfl, Nat.le_of_ble_eq_true rfl⟩ hex (by rw [rPost, if_pos h1, if_neg h8, if_neg h15, if_neg h20, if_neg h28, if_neg h33, if_pos h45, if_neg h52]; rfl) rfl rfl
            refine zz_callVv (w' := (wx x m o)) (As := [.int d, .int 0, .int a]) (rest := []) G (cx_refuseIfTurnoverTooHigh_ok l hfl x m o n d 0 a hvc (hn) h52) kX_44 dX_post_52 rfl rfl rfl rfl (Nat.le_of_ble_eq_true rfl) (fun _ => rfl) ⟨Nat.le_of_ble_eq_true rfl, Nat.le_of_ble_eq_true rfl⟩ ⟨Nat.le_of_ble_eq_true rfl, Nat.le_of_ble_eq_true rfl⟩ ?_
            refine zz_aload_n G dX_post_55 rfl ?_
            refine zz_iload_n G dX_post_56 rfl ?_
            refine zz_iconst (v := 0) G dX_post_57 (by decide) ?_
            refine zz_iload_n G dX_post_58 rfl ?_
            by_cases h59 : sOver x n c1 0 a ≤ 0
            rotate_left
            · exact zz_thrV (As := [.int c1, .int 0, .int a]) (rest := []) G (cx_refuseIfTurnoverTooHigh_no l hfl x m o n c1 0 a hvc (hn) h59) kX_44 dX_post_59 rfl rfl rfl rfl (Nat.le_of_ble_eq_true rfl) (fun _ => rfl) ⟨Nat.le_of_ble_eq_true rfl, Nat.le_of_ble_eq_true rfl⟩ ⟨Nat.le_of_ble_eq_true rfl, Nat.le_of_ble_eq_true rfl⟩ hex (by rw [rPost, if_pos h1, if_neg h8, if_neg h15, if_neg h20, if_neg h28, if_neg h33, if_pos h45, if_pos h52, if_neg h59]; rfl) rfl rfl
            refine zz_callVv (w' := (wx x m o)) (As := [.int c1, .int 0, .int a]) (rest := []) G (cx_refuseIfTurnoverTooHigh_ok l hfl x m o n c1 0 a hvc (hn) h59) kX_44 dX_post_59 rfl rfl rfl rfl (Nat.le_of_ble_eq_true rfl) (fun _ => rfl) ⟨Nat.le_of_ble_eq_true rfl, Nat.le_of_ble_eq_true rfl⟩ ⟨Nat.le_of_ble_eq_true rfl, Nat.le_of_ble_eq_true rfl⟩ ?_
            refine zz_aload_n G dX_post_62 rfl ?_
            refine zz_get (v := .int (nI e1)) G dX_post_63 flX_48 rfl (by rw [← hec]; rfl) ?_
            refine zz_istore (lv' := [some (.ref 0), some (.int d), some (.int c1), some (.int a), some (.int y), some (.int (nI e1))]) G dX_post_66 (Nat.le_of_ble_eq_true rfl) rfl ?_
            refine zz_aload_n G dX_post_68 rfl ?_
            refine zz_iconst (v := 0) G dX_post_69 (by decide) ?_
            refine zz_iload G dX_post_70 rfl ?_
            refine zz_iload_n G dX_post_72 rfl ?_
            refine zz_iload_n G dX_post_73 rfl ?_
            refine zz_iload_n G dX_post_74 rfl ?_
            refine zz_iload G dX_post_75 rfl ?_
            refine zz_callVi (v := nI n) (w' := (wx (xApp x n 0 (nI e1) d c1 a y) m o)) (As := [.int 0, .int (nI e1), .int d, .int c1, .int a, .int y]) (rest := []) G (cx_append l x m o n 0 (nI e1) d c1 a y hvc (lt64 hvc hn h45)) kX_51 dX_post_77 rfl rfl rfl rfl (Nat.le_of_ble_eq_true rfl) (fun h => by cases h) ⟨Nat.le_of_ble_eq_true rfl, Nat.le_of_ble_eq_true rfl⟩ ⟨Nat.le_of_ble_eq_true rfl, Nat.le_of_ble_eq_true rfl⟩ ?_
            refine zz_popi G dX_post_80 ?_
            refine zz_aload_n G dX_post_81 rfl ?_
            refine zz_dupa G dX_post_82 ?_
            refine zz_get (v := .int (nI e1)) G dX_post_83 flX_48 rfl (by rw [← hec]; rfl) ?_
            refine zz_iconst (v := 1) G dX_post_86 (by decide) ?_
            refine zz_iadd G dX_post_87 ?_
            refine zz_put (w' := (wx (sx_ec (xApp x n 0 (nI e1) d c1 a y) ((nI e1) + 1)) m o)) rfl G dX_post_88 flX_48 rfl rfl rfl (Nat.le_of_ble_eq_true rfl) rfl ?_
            refine zz_iload G dX_post_91 rfl ?_
            exact zz_iret G hret dX_post_93 (by rw [rPost, if_pos h1, if_neg h8, if_neg h15, if_neg h20, if_neg h28, if_neg h33, if_pos h45, if_pos h52, if_pos h59]) (Nat.le_of_ble_eq_true rfl) (Nat.le_of_ble_eq_true rfl)
set_option maxRecDepth 100000 in
set_option maxHeartbeats 4000000 in
theorem cx_correct (l : Launch) (hfl : l.flags = Jvm.pinnedFlags ++ [Jvm.noTraceFlag]) (x : XS) (m : MS) (o : Nat → Int64) (n : Nat) (en a : Int32) (hvc : fx_vc x = nI n) (hn : n ≤ 64) : zC l yX_correct (Jvm.Cond.code yX_correct bX_correct 4 (some .int) :: Tw) 4 false 0 0 [.ref 0, .int en, .int a] (wx x m o) (rCorr x m o n en a) := by
  refine zC_of [some (.ref 0), some (.int en), some (.int a), none] (by decide) rfl (Nat.le_of_ble_eq_true rfl) ?_
  intro p e s mm args below meth c D cI cJ as G hret hex hbd
  refine zz_aload_n G dX_correct_0 rfl ?_
  by_cases h1 : fx_tam x = 0
  rotate_left
  · exact zz_thrV (As := []) (rest := []) G (cx_refuseIfTampered_no l hfl x m o h1) kX_27 dX_correct_1 rfl rfl rfl rfl (Nat.le_of_ble_eq_true rfl) (fun _ => rfl) ⟨Nat.le_of_ble_eq_true rfl, Nat.le_of_ble_eq_true rfl⟩ ⟨Nat.le_of_ble_eq_true rfl, Nat.le_of_ble_eq_true rfl⟩ hex (by rw [rCorr, if_neg h1]; rfl) rfl rfl
  refine zz_callVv (w' := (wx x m o)) (As := []) (rest := []) G (cx_refuseIfTampered_ok l hfl x m o h1) kX_27 dX_correct_1 rfl rfl rfl rfl (Nat.le_of_ble_eq_true rfl) (fun _ => rfl) ⟨Nat.le_of_ble_eq_true rfl, Nat.le_of_ble_eq_true rfl⟩ ⟨Nat.le_of_ble_eq_true rfl, Nat.le_of_ble_eq_true rfl⟩ ?_
  refine zz_aload_n G dX_correct_4 rfl ?_
  refine zz_iload_n G dX_correct_5 rfl ?_
  rcases hq : sLast (fx_words x) en n with _ | u
  · exact zz_thrV (As := [.int en]) (rest := []) G (cx_vtr_no1 l hfl x m o n en hvc (hn) hq) kX_55 dX_correct_6 rfl rfl rfl rfl (Nat.le_of_ble_eq_true rfl) (fun _ => rfl) ⟨Nat.le_of_ble_eq_true rfl, Nat.le_of_ble_eq_true rfl⟩ ⟨Nat.le_of_ble_eq_true rfl, Nat.le_of_ble_eq_true rfl⟩ hex (by rw [rCorr, if_pos h1, hq]; rfl) rfl rfl
  by_cases hk2 : fx_words x (6 * u + 0) = 2
  · exact zz_thrV (As := [.int en]) (rest := []) G (cx_vtr_no2 l hfl x m o n en hvc (hn) hq hk2) kX_55 dX_correct_6 rfl rfl rfl rfl (Nat.le_of_ble_eq_true rfl) (fun _ => rfl) ⟨Nat.le_of_ble_eq_true rfl, Nat.le_of_ble_eq_true rfl⟩ ⟨Nat.le_of_ble_eq_true rfl, Nat.le_of_ble_eq_true rfl⟩ hex (by rw [rCorr, if_pos h1, hq]; show (if fx_words x (6 * u + 0) = 2 then _ else _) = _; rw [if_pos hk2]; rfl) rfl rfl
  refine zz_callVi (v := nI u) (w' := (wx x m o)) (As := [.int en]) (rest := []) G (cx_vtr_ok l hfl x m o n en hvc (hn) hq hk2) kX_55 dX_correct_6 rfl rfl rfl rfl (Nat.le_of_ble_eq_true rfl) (fun _ => rfl) ⟨Nat.le_of_ble_eq_true rfl, Nat.le_of_ble_eq_true rfl⟩ ⟨Nat.le_of_ble_eq_true rfl, Nat.le_of_ble_eq_true rfl⟩ ?_
  have hu : u < n := (mL_lt n hq).1
  refine zz_istore_n (lv' := [some (.ref 0), some (.int en), some (.int a), some (.int (nI u))]) G dX_correct_9 (Nat.le_of_ble_eq_true rfl) rfl ?_
  refine zz_iload_n G dX_correct_10 rfl ?_
  refine zz_iconst (v := 1) G dX_correct_11 (by decide) ?_
  refine zz_icmp_lt (tgt := 19) G dX_correct_12 rfl (fun h12 => ?_) (fun h12 => ?_)
  · refine zz_iconst (v := 0) G dX_correct_19 (by decide) ?_
    exact zz_thrS (As := [.int 0]) (rest := []) G (cx_refuseArgumentsUnless_no l hfl x m o 0 (fun z => z rfl)) kX_37 dX_correct_20 rfl rfl (Nat.le_of_ble_eq_true rfl) (fun _ => rfl) ⟨Nat.le_of_ble_eq_true rfl, Nat.le_of_ble_eq_true rfl⟩ ⟨Nat.le_of_ble_eq_true rfl, Nat.le_of_ble_eq_true rfl⟩ hex (by rw [rCorr, if_pos h1, hq]; show (if fx_words x (6 * u + 0) = 2 then _ else _) = _; rw [if_neg hk2, if_pos h12]; rfl) rfl rfl
  · refine zz_iconst (v := 1) G dX_correct_15 (by decide) ?_
    refine zz_goto (tgt := 20) G dX_correct_16 rfl ?_
    refine zz_callSv (w' := (wx x m o)) (As := [.int 1]) (rest := []) G (cx_refuseArgumentsUnless_ok l hfl x m o 1 (by decide)) kX_37 dX_correct_20 rfl rfl (Nat.le_of_ble_eq_true rfl) (fun _ => rfl) ⟨Nat.le_of_ble_eq_true rfl, Nat.le_of_ble_eq_true rfl⟩ ⟨Nat.le_of_ble_eq_true rfl, Nat.le_of_ble_eq_true rfl⟩ ?_
    refine zz_aload_n G dX_correct_23 rfl ?_
    by_cases h24 : fx_vc x < 64
    rotate_left
    · exact zz_thrV (As := []) (rest := []) G (cx_refuseIfFull_no l hfl x m o h24) kX_41 dX_correct_24 rfl rfl rfl rfl (Nat.le_of_ble_eq_true rfl) (fun _ => rfl) ⟨Nat.le_of_ble_eq_true rfl, Nat.le_of_ble_eq_true rfl⟩ ⟨Nat.le_of_ble_eq_true rfl, Nat.le_of_ble_eq_true rfl⟩ hex (by rw [rCorr, if_pos h1, hq]; show (if fx_words x (6 * u + 0) = 2 then _ else _) = _; rw [if_neg hk2, if_neg h12, if_neg h24]; rfl) rfl rfl
    refine zz_callVv (w' := (wx x m o)) (As := []) (rest := []) G (cx_refuseIfFull_ok l hfl x m o h24) kX_41 dX_correct_24 rfl rfl rfl rfl (Nat.le_of_ble_eq_true rfl) (fun _ => rfl) ⟨Nat.le_of_ble_eq_true rfl, Nat.le_of_ble_eq_true rfl⟩ ⟨Nat.le_of_ble_eq_true rfl, Nat.le_of_ble_eq_true rfl⟩ ?_
    refine zz_aload_n G dX_correct_27 rfl ?_
    refine zz_aload_n G dX_correct_28 rfl ?_
    refine zz_iload_n G dX_correct_29 rfl ?_
    refine zz_iconst (v := 2) G dX_correct_30 (by decide) ?_
    refine zz_callVi (v := fx_words x (6 * u + 2)) (w' := (wx x m o)) (As := [.int (nI u), .int 2]) (rest := [.ref 0]) G (cx_word l x m o u 2 _ _ rfl rfl (by omega) (by decide)) kX_59 dX_correct_31 rfl rfl rfl rfl (Nat.le_of_ble_eq_true rfl) (fun _ => rfl) ⟨Nat.le_of_ble_eq_true rfl, Nat.le_of_ble_eq_true rfl⟩ ⟨Nat.le_of_ble_eq_true rfl, Nat.le_of_ble_eq_true rfl⟩ ?_
    refine zz_aload_n G dX_correct_34 rfl ?_
    refine zz_iload_n G dX_correct_35 rfl ?_
    refine zz_iconst (v := 4) G dX_correct_36 (by decide) ?_
    refine zz_callVi (v := fx_words x (6 * u + 4)) (w' := (wx x m o)) (As := [.int (nI u), .int 4]) (rest := [.int (fx_words x (6 * u + 2)), .ref 0]) G (cx_word l x m o u 4 _ _ rfl rfl (by omega) (by decide)) kX_59 dX_correct_37 rfl rfl rfl rfl (Nat.le_of_ble_eq_true rfl) (fun _ => rfl) ⟨Nat.le_of_ble_eq_true rfl, Nat.le_of_ble_eq_true rfl⟩ ⟨Nat.le_of_ble_eq_true rfl, Nat.le_of_ble_eq_true rfl⟩ ?_
    refine zz_iload_n G dX_correct_40 rfl ?_
    by_cases h41 : sOver x n (fx_words x (6 * u + 2)) (fx_words x (6 * u + 4)) a ≤ 0
    rotate_left
    · exact zz_thrV (As := [.int (fx_words x (6 * u + 2)), .int (fx_words x (6 * u + 4)), .int a]) (rest := []) G (cx_refuseIfTurnoverTooHigh_no l hfl x m o n (fx_words x (6 * u + 2)) (fx_words x (6 * u + 4)) a hvc (hn) h41) kX_44 dX_correct_41 rfl rfl rfl rfl (Nat.le_of_ble_eq_true rfl) (fun _ => rfl) ⟨Nat.le_of_ble_eq_true rfl, Nat.le_of_ble_eq_true rfl⟩ ⟨Nat.le_of_ble_eq_true rfl, Nat.le_of_ble_eq_true rfl⟩ hex (by rw [rCorr, if_pos h1, hq]; show (if fx_words x (6 * u + 0) = 2 then _ else _) = _; rw [if_neg hk2, if_neg h12, if_pos h24, if_neg h41]; rfl) rfl rfl
    refine zz_callVv (w' := (wx x m o)) (As := [.int (fx_words x (6 * u + 2)), .int (fx_words x (6 * u + 4)), .int a]) (rest := []) G (cx_refuseIfTurnoverTooHigh_ok l hfl x m o n (fx_words x (6 * u + 2)) (fx_words x (6 * u + 4)) a hvc (hn) h41) kX_44 dX_correct_41 rfl rfl rfl rfl (Nat.le_of_ble_eq_true rfl) (fun _ => rfl) ⟨Nat.le_of_ble_eq_true rfl, Nat.le_of_ble_eq_true rfl⟩ ⟨Nat.le_of_ble_eq_true rfl, Nat.le_of_ble_eq_true rfl⟩ ?_
    refine zz_aload_n G dX_correct_44 rfl ?_
    refine zz_aload_n G dX_correct_45 rfl ?_
    refine zz_iload_n G dX_correct_46 rfl ?_
    refine zz_iconst (v := 3) G dX_correct_47 (by decide) ?_
    refine zz_callVi (v := fx_words x (6 * u + 3)) (w' := (wx x m o)) (As := [.int (nI u), .int 3]) (rest := [.ref 0]) G (cx_word l x m o u 3 _ _ rfl rfl (by omega) (by decide)) kX_59 dX_correct_48 rfl rfl rfl rfl (Nat.le_of_ble_eq_true rfl) (fun _ => rfl) ⟨Nat.le_of_ble_eq_true rfl, Nat.le_of_ble_eq_true rfl⟩ ⟨Nat.le_of_ble_eq_true rfl, Nat.le_of_ble_eq_true rfl⟩ ?_
    refine zz_aload_n G dX_correct_51 rfl ?_
    refine zz_iload_n G dX_correct_52 rfl ?_
    refine zz_iconst (v := 4) G dX_correct_53 (by decide) ?_
    refine zz_callVi (v := fx_words x (6 * u + 4)) (w' := (wx x m o)) (As := [.int (nI u), .int 4]) (rest := [.int (fx_words x (6 * u + 3)), .ref 0]) G (cx_word l x m o u 4 _ _ rfl rfl (by omega) (by decide)) kX_59 dX_correct_54 rfl rfl rfl rfl (Nat.le_of_ble_eq_true rfl) (fun _ => rfl) ⟨Nat.le_of_ble_eq_true rfl, Nat.le_of_ble_eq_true rfl⟩ ⟨Nat.le_of_ble_eq_true rfl, Nat.le_of_ble_eq_true rfl⟩ ?_
    refine zz_iload_n G dX_correct_57 rfl ?_
    by_cases h58 : sOver x n (fx_words x (6 * u + 3)) (fx_words x (6 * u + 4)) a ≤ 0
    rotate_left
    · exact zz_thrV (As := [.int (fx_words x (6 * u + 3)), .int (fx_words x (6 * u + 4)), .int a]) (rest := []) G (cx_refuseIfTurnoverTooHigh_no l hfl x m o n (fx_words x (6 * u + 3)) (fx_words x (6 * u + 4)) a hvc (hn) h58) kX_44 dX_correct_58 rfl rfl rfl rfl (Nat.le_of_ble_eq_true rfl) (fun _ => rfl) ⟨Nat.le_of_ble_eq_true rfl, Nat.le_of_ble_eq_true rfl⟩ ⟨Nat.le_of_ble_eq_true rfl, Nat.le_of_ble_eq_true rfl⟩ hex (by rw [rCorr, if_pos h1, hq]; show (if fx_words x (6 * u + 0) = 2 then _ else _) = _; rw [if_neg hk2, if_neg h12, if_pos h24, if_pos h41, if_neg h58]; rfl) rfl rfl
    refine zz_callVv (w' := (wx x m o)) (As := [.int (fx_words x (6 * u + 3)), .int (fx_words x (6 * u + 4)), .int a]) (rest := []) G (cx_refuseIfTurnoverTooHigh_ok l hfl x m o n (fx_words x (6 * u + 3)) (fx_words x (6 * u + 4)) a hvc (hn) h58) kX_44 dX_correct_58 rfl rfl rfl rfl (Nat.le_of_ble_eq_true rfl) (fun _ => rfl) ⟨Nat.le_of_ble_eq_true rfl, Nat.le_of_ble_eq_true rfl⟩ ⟨Nat.le_of_ble_eq_true rfl, Nat.le_of_ble_eq_true rfl⟩ ?_
    refine zz_aload_n G dX_correct_61 rfl ?_
    refine zz_iload_n G dX_correct_62 rfl ?_
    refine zz_iconst (v := 1) G dX_correct_63 (by decide) ?_
    refine zz_iload_n G dX_correct_64 rfl ?_
    refine zz_callVi (v := nI n) (w' := (wx (xRep x n u 1 a) m o)) (As := [.int (nI u), .int 1, .int a]) (rest := []) G (cx_replace l x m o n u _ 1 a rfl (by omega) hvc (lt64 hvc hn h24)) kX_63 dX_correct_65 rfl rfl rfl rfl (Nat.le_of_ble_eq_true rfl) (fun h => by cases h) ⟨Nat.le_of_ble_eq_true rfl, Nat.le_of_ble_eq_true rfl⟩ ⟨Nat.le_of_ble_eq_true rfl, Nat.le_of_ble_eq_true rfl⟩ ?_
    exact zz_iret G hret dX_correct_68 (by rw [rCorr, if_pos h1, hq]; show (if fx_words x (6 * u + 0) = 2 then _ else _) = _; rw [if_neg hk2, if_neg h12, if_pos h24, if_pos h41, if_pos h58]) (Nat.le_of_ble_eq_true rfl) (Nat.le_of_ble_eq_true rfl)
set_option maxRecDepth 100000 in
set_option maxHeartbeats 4000000 in
theorem cx_annul (l : Launch) (hfl : l.flags = Jvm.pinnedFlags ++ [Jvm.noTraceFlag]) (x : XS) (m : MS) (o : Nat → Int64) (n : Nat) (en : Int32) (hvc : fx_vc x = nI n) (hn : n ≤ 64) : zC l yX_annul (Jvm.Cond.code yX_annul bX_annul 3 (some .int) :: Tw) 4 false 0 0 [.ref 0, .int en] (wx x m o) (rAnn x m o n en) := by
  refine zC_of [some (.ref 0), some (.int en), none] (by decide) rfl (Nat.le_of_ble_eq_true rfl) ?_
  intro p e s mm args below meth c D cI cJ as G hret hex hbd
  refine zz_aload_n G dX_annul_0 rfl ?_
  by_cases h1 : fx_tam x = 0
  rotate_left
  · exact zz_thrV (As := []) (rest := []) G (cx_refuseIfTampered_no l hfl x m o h1) kX_27 dX_annul_1 rfl rfl rfl rfl (Nat.le_of_ble_eq_true rfl) (fun _ => rfl) ⟨Nat.le_of_ble_eq_true rfl, Nat.le_of_ble_eq_true rfl⟩ ⟨Nat.le_of_ble_eq_true rfl, Nat.le_of_ble_eq_true rfl⟩ hex (by rw [rAnn, if_neg h1]; rfl) rfl rfl
  refine zz_callVv (w' := (wx x m o)) (As := []) (rest := []) G (cx_refuseIfTampered_ok l hfl x m o h1) kX_27 dX_annul_1 rfl rfl rfl rfl (Nat.le_of_ble_eq_true rfl) (fun _ => rfl) ⟨Nat.le_of_ble_eq_true rfl, Nat.le_of_ble_eq_true rfl⟩ ⟨Nat.le_of_ble_eq_true rfl, Nat.le_of_ble_eq_true rfl⟩ ?_
  refine zz_aload_n G dX_annul_4 rfl ?_
  refine zz_iload_n G dX_annul_5 rfl ?_
  rcases hq : sLast (fx_words x) en n with _ | u
  · exact zz_thrV (As := [.int en]) (rest := []) G (cx_vtr_no1 l hfl x m o n en hvc (hn) hq) kX_55 dX_annul_6 rfl rfl rfl rfl (Nat.le_of_ble_eq_true rfl) (fun _ => rfl) ⟨Nat.le_of_ble_eq_true rfl, Nat.le_of_ble_eq_true rfl⟩ ⟨Nat.le_of_ble_eq_true rfl, Nat.le_of_ble_eq_true rfl⟩ hex (by rw [rAnn, if_pos h1, hq]; rfl) rfl rfl
  by_cases hk2 : fx_words x (6 * u + 0) = 2
  · exact zz_thrV (As := [.int en]) (rest := []) G (cx_vtr_no2 l hfl x m o n en hvc (hn) hq hk2) kX_55 dX_annul_6 rfl rfl rfl rfl (Nat.le_of_ble_eq_true rfl) (fun _ => rfl) ⟨Nat.le_of_ble_eq_true rfl, Nat.le_of_ble_eq_true rfl⟩ ⟨Nat.le_of_ble_eq_true rfl, Nat.le_of_ble_eq_true rfl⟩ hex (by rw [rAnn, if_pos h1, hq]; show (if fx_words x (6 * u + 0) = 2 then _ else _) = _; rw [if_pos hk2]; rfl) rfl rfl
  refine zz_callVi (v := nI u) (w' := (wx x m o)) (As := [.int en]) (rest := []) G (cx_vtr_ok l hfl x m o n en hvc (hn) hq hk2) kX_55 dX_annul_6 rfl rfl rfl rfl (Nat.le_of_ble_eq_true rfl) (fun _ => rfl) ⟨Nat.le_of_ble_eq_true rfl, Nat.le_of_ble_eq_true rfl⟩ ⟨Nat.le_of_ble_eq_true rfl, Nat.le_of_ble_eq_true rfl⟩ ?_
  have hu : u < n := (mL_lt n hq).1
  refine zz_istore_n (lv' := [some (.ref 0), some (.int en), some (.int (nI u))]) G dX_annul_9 (Nat.le_of_ble_eq_true rfl) rfl ?_
  refine zz_aload_n G dX_annul_10 rfl ?_
  by_cases h11 : fx_vc x < 64
  rotate_left
  · exact zz_thrV (As := []) (rest := []) G (cx_refuseIfFull_no l hfl x m o h11) kX_41 dX_annul_11 rfl rfl rfl rfl (Nat.le_of_ble_eq_true rfl) (fun _ => rfl) ⟨Nat.le_of_ble_eq_true rfl, Nat.le_of_ble_eq_true rfl⟩ ⟨Nat.le_of_ble_eq_true rfl, Nat.le_of_ble_eq_true rfl⟩ hex (by rw [rAnn, if_pos h1, hq]; show (if fx_words x (6 * u + 0) = 2 then _ else _) = _; rw [if_neg hk2, if_neg h11]; rfl) rfl rfl
  refine zz_callVv (w' := (wx x m o)) (As := []) (rest := []) G (cx_refuseIfFull_ok l hfl x m o h11) kX_41 dX_annul_11 rfl rfl rfl rfl (Nat.le_of_ble_eq_true rfl) (fun _ => rfl) ⟨Nat.le_of_ble_eq_true rfl, Nat.le_of_ble_eq_true rfl⟩ ⟨Nat.le_of_ble_eq_true rfl, Nat.le_of_ble_eq_true rfl⟩ ?_
  refine zz_aload_n G dX_annul_14 rfl ?_
  refine zz_iload_n G dX_annul_15 rfl ?_
  refine zz_iconst (v := 2) G dX_annul_16 (by decide) ?_
  refine zz_iconst (v := 0) G dX_annul_17 (by decide) ?_
  refine zz_callVi (v := nI n) (w' := (wx (xRep x n u 2 0) m o)) (As := [.int (nI u), .int 2, .int 0]) (rest := []) G (cx_replace l x m o n u _ 2 0 rfl (by omega) hvc (lt64 hvc hn h11)) kX_63 dX_annul_18 rfl rfl rfl rfl (Nat.le_of_ble_eq_true rfl) (fun h => by cases h) ⟨Nat.le_of_ble_eq_true rfl, Nat.le_of_ble_eq_true rfl⟩ ⟨Nat.le_of_ble_eq_true rfl, Nat.le_of_ble_eq_true rfl⟩ ?_
  exact zz_iret G hret dX_annul_21 (by rw [rAnn, if_pos h1, hq]; show (if fx_words x (6 * u + 0) = 2 then _ else _) = _; rw [if_neg hk2, if_pos h11]) (Nat.le_of_ble_eq_true rfl) (Nat.le_of_ble_eq_true rfl)
set_option maxRecDepth 100000 in
set_option maxHeartbeats 4000000 in
theorem cx_balance (l : Launch) (hfl : l.flags = Jvm.pinnedFlags ++ [Jvm.noTraceFlag]) (x : XS) (m : MS) (o : Nat → Int64) (n : Nat) (a d it : Int32) (hvc : fx_vc x = nI n) (hn : n ≤ 64) : zC l yX_balance (Jvm.Cond.code yX_balance bX_balance 4 (some .int) :: Tw) 3 true 0 0 [.ref 0, .int a, .int d, .int it] (wx x m o) (rBal x m o a d it) := by
  refine zC_of [some (.ref 0), some (.int a), some (.int d), some (.int it)] (by decide) rfl (Nat.le_of_ble_eq_true rfl) ?_
  intro p e s mm args below meth c D cI cJ as G hret hex hbd
  refine zz_aload_n G dX_balance_0 rfl ?_
  by_cases h1 : fx_tam x = 0
  rotate_left
  · exact zz_thrV (As := []) (rest := []) G (cx_refuseIfTampered_no l hfl x m o h1) kX_27 dX_balance_1 rfl rfl rfl rfl (Nat.le_of_ble_eq_true rfl) (fun _ => rfl) ⟨Nat.le_of_ble_eq_true rfl, Nat.le_of_ble_eq_true rfl⟩ ⟨Nat.le_of_ble_eq_true rfl, Nat.le_of_ble_eq_true rfl⟩ hex (by rw [rBal, if_neg h1]; rfl) rfl rfl
  refine zz_callVv (w' := (wx x m o)) (As := []) (rest := []) G (cx_refuseIfTampered_ok l hfl x m o h1) kX_27 dX_balance_1 rfl rfl rfl rfl (Nat.le_of_ble_eq_true rfl) (fun _ => rfl) ⟨Nat.le_of_ble_eq_true rfl, Nat.le_of_ble_eq_true rfl⟩ ⟨Nat.le_of_ble_eq_true rfl, Nat.le_of_ble_eq_true rfl⟩ ?_
  refine zz_iload_n G dX_balance_4 rfl ?_
  refine zz_callSi (v := sAcc a) (w' := (wx x m o)) (As := [.int a]) (rest := []) G (cx_isAccount l x m o a) kX_30 dX_balance_5 rfl rfl (Nat.le_of_ble_eq_true rfl) (fun _ => rfl) ⟨Nat.le_of_ble_eq_true rfl, Nat.le_of_ble_eq_true rfl⟩ ⟨Nat.le_of_ble_eq_true rfl, Nat.le_of_ble_eq_true rfl⟩ ?_
  refine zz_if_eq (tgt := 30) G dX_balance_8 rfl (fun h8 => ?_) (fun h8 => ?_)
  · refine zz_iconst (v := 0) G dX_balance_30 (by decide) ?_
    exact zz_thrS (As := [.int 0]) (rest := []) G (cx_refuseArgumentsUnless_no l hfl x m o 0 (fun z => z rfl)) kX_37 dX_balance_31 rfl rfl (Nat.le_of_ble_eq_true rfl) (fun _ => rfl) ⟨Nat.le_of_ble_eq_true rfl, Nat.le_of_ble_eq_true rfl⟩ ⟨Nat.le_of_ble_eq_true rfl, Nat.le_of_ble_eq_true rfl⟩ hex (by rw [rBal, if_pos h1, if_pos h8]; rfl) rfl rfl
  · refine zz_iload_n G dX_balance_11 rfl ?_
    refine zz_callSi (v := sDay d) (w' := (wx x m o)) (As := [.int d]) (rest := []) G (cx_isDay l x m o d) kX_34 dX_balance_12 rfl rfl (Nat.le_of_ble_eq_true rfl) (fun _ => rfl) ⟨Nat.le_of_ble_eq_true rfl, Nat.le_of_ble_eq_true rfl⟩ ⟨Nat.le_of_ble_eq_true rfl, Nat.le_of_ble_eq_true rfl⟩ ?_
    refine zz_if_eq (tgt := 30) G dX_balance_15 rfl (fun h15 => ?_) (fun h15 => ?_)
    · refine zz_iconst (v := 0) G dX_balance_30 (by decide) ?_
      exact zz_thrS (As := [.int 0]) (rest := []) G (cx_refuseArgumentsUnless_no l hfl x m o 0 (fun z => z rfl)) kX_37 dX_balance_31 rfl rfl (Nat.le_of_ble_eq_true rfl) (fun _ => rfl) ⟨Nat.le_of_ble_eq_true rfl, Nat.le_of_ble_eq_true rfl⟩ ⟨Nat.le_of_ble_eq_true rfl, Nat.le_of_ble_eq_true rfl⟩ hex (by rw [rBal, if_pos h1, if_neg h8, if_pos h15]; rfl) rfl rfl
    · refine zz_aload_n G dX_balance_18 rfl ?_
      refine zz_iload_n G dX_balance_19 rfl ?_
      refine zz_callVi (v := sTime (fx_vc x) it) (w' := (wx x m o)) (As := [.int it]) (rest := []) G (cx_isTime l x m o it) kX_67 dX_balance_20 rfl rfl rfl rfl (Nat.le_of_ble_eq_true rfl) (fun _ => rfl) ⟨Nat.le_of_ble_eq_true rfl, Nat.le_of_ble_eq_true rfl⟩ ⟨Nat.le_of_ble_eq_true rfl, Nat.le_of_ble_eq_true rfl⟩ ?_
      refine zz_if_eq (tgt := 30) G dX_balance_23 rfl (fun h23 => ?_) (fun h23 => ?_)
      · refine zz_iconst (v := 0) G dX_balance_30 (by decide) ?_
        exact zz_thrS (As := [.int 0]) (rest := []) G (cx_refuseArgumentsUnless_no l hfl x m o 0 (fun z => z rfl)) kX_37 dX_balance_31 rfl rfl (Nat.le_of_ble_eq_true rfl) (fun _ => rfl) ⟨Nat.le_of_ble_eq_true rfl, Nat.le_of_ble_eq_true rfl⟩ ⟨Nat.le_of_ble_eq_true rfl, Nat.le_of_ble_eq_true rfl⟩ hex (by rw [rBal, if_pos h1, if_neg h8, if_neg h15, if_pos h23]; rfl) rfl rfl
      · obtain ⟨t, ht, rfl⟩ := sTime_of hn (by rw [← hvc]; exact h23)
        refine zz_iconst (v := 1) G dX_balance_26 (by decide) ?_
        refine zz_goto (tgt := 31) G dX_balance_27 rfl ?_
        refine zz_callSv (w' := (wx x m o)) (As := [.int 1]) (rest := []) G (cx_refuseArgumentsUnless_ok l hfl x m o 1 (by decide)) kX_37 dX_balance_31 rfl rfl (Nat.le_of_ble_eq_true rfl) (fun _ => rfl) ⟨Nat.le_of_ble_eq_true rfl, Nat.le_of_ble_eq_true rfl⟩ ⟨Nat.le_of_ble_eq_true rfl, Nat.le_of_ble_eq_true rfl⟩ ?_
        refine zz_aload_n G dX_balance_34 rfl ?_
        refine zz_iload_n G dX_balance_35 rfl ?_
        refine zz_iload_n G dX_balance_36 rfl ?_
        refine zz_iload_n G dX_balance_37 rfl ?_
        refine zz_callVi (v := cBal (fx_words x) (fx_rep x) a d (nI t) t) (w' := (wx x m o)) (As := [.int a, .int d, .int (nI t)]) (rest := []) G (cx_balanceOf l x m o a d _ t rfl (by omega)) kX_70 dX_balance_38 rfl rfl rfl rfl (Nat.le_of_ble_eq_true rfl) (fun _ => rfl) ⟨Nat.le_of_ble_eq_true rfl, Nat.le_of_ble_eq_true rfl⟩ ⟨Nat.le_of_ble_eq_true rfl, Nat.le_of_ble_eq_true rfl⟩ ?_
        exact zz_iret G hret dX_balance_41 (by rw [rBal, if_pos h1, if_neg h8, if_neg h15, if_neg h23, nI_clamp (show t < 2 ^ 31 by omega)]) (Nat.le_of_ble_eq_true rfl) (Nat.le_of_ble_eq_true rfl)
set_option maxRecDepth 100000 in
set_option maxHeartbeats 4000000 in
theorem cx_trial (l : Launch) (hfl : l.flags = Jvm.pinnedFlags ++ [Jvm.noTraceFlag]) (x : XS) (m : MS) (o : Nat → Int64) (n : Nat) (d it : Int32) (hvc : fx_vc x = nI n) (hn : n ≤ 64) : zC l yX_trial (Jvm.Cond.code yX_trial bX_trial 5 (some .int) :: Tw) 3 true 0 0 [.ref 0, .int d, .int it] (wx x m o) (rTrial x m o d it) := by
  refine zC_of [some (.ref 0), some (.int d), some (.int it), none, none] (by decide) rfl (Nat.le_of_ble_eq_true rfl) ?_
  intro p e s mm args below meth c D cI cJ as G hret hex hbd
  refine zz_aload_n G dX_trial_0 rfl ?_
  by_cases h1 : fx_tam x = 0
  rotate_left
  · exact zz_thrV (As := []) (rest := []) G (cx_refuseIfTampered_no l hfl x m o h1) kX_27 dX_trial_1 rfl rfl rfl rfl (Nat.le_of_ble_eq_true rfl) (fun _ => rfl) ⟨Nat.le_of_ble_eq_true rfl, Nat.le_of_ble_eq_true rfl⟩ ⟨Nat.le_of_ble_eq_true rfl, Nat.le_of_ble_eq_true rfl⟩ hex (by rw [rTrial, if_neg h1]; rfl) rfl rfl
  refine zz_callVv (w' := (wx x m o)) (As := []) (rest := []) G (cx_refuseIfTampered_ok l hfl x m o h1) kX_27 dX_trial_1 rfl rfl rfl rfl (Nat.le_of_ble_eq_true rfl) (fun _ => rfl) ⟨Nat.le_of_ble_eq_true rfl, Nat.le_of_ble_eq_true rfl⟩ ⟨Nat.le_of_ble_eq_true rfl, Nat.le_of_ble_eq_true rfl⟩ ?_
  refine zz_iload_n G dX_trial_4 rfl ?_
  refine zz_callSi (v := sDay d) (w' := (wx x m o)) (As := [.int d]) (rest := []) G (cx_isDay l x m o d) kX_34 dX_trial_5 rfl rfl (Nat.le_of_ble_eq_true rfl) (fun _ => rfl) ⟨Nat.le_of_ble_eq_true rfl, Nat.le_of_ble_eq_true rfl⟩ ⟨Nat.le_of_ble_eq_true rfl, Nat.le_of_ble_eq_true rfl⟩ ?_
  refine zz_if_eq (tgt := 23) G dX_trial_8 rfl (fun h8 => ?_) (fun h8 => ?_)
  · refine zz_iconst (v := 0) G dX_trial_23 (by decide) ?_
    exact zz_thrS (As := [.int 0]) (rest := []) G (cx_refuseArgumentsUnless_no l hfl x m o 0 (fun z => z rfl)) kX_37 dX_trial_24 rfl rfl (Nat.le_of_ble_eq_true rfl) (fun _ => rfl) ⟨Nat.le_of_ble_eq_true rfl, Nat.le_of_ble_eq_true rfl⟩ ⟨Nat.le_of_ble_eq_true rfl, Nat.le_of_ble_eq_true rfl⟩ hex (by rw [rTrial, if_pos h1, if_pos h8]; rfl) rfl rfl
  · refine zz_aload_n G dX_trial_11 rfl ?_
    refine zz_iload_n G dX_trial_12 rfl ?_
    refine zz_callVi (v := sTime (fx_vc x) it) (w' := (wx x m o)) (As := [.int it]) (rest := []) G (cx_isTime l x m o it) kX_67 dX_trial_13 rfl rfl rfl rfl (Nat.le_of_ble_eq_true rfl) (fun _ => rfl) ⟨Nat.le_of_ble_eq_true rfl, Nat.le_of_ble_eq_true rfl⟩ ⟨Nat.le_of_ble_eq_true rfl, Nat.le_of_ble_eq_true rfl⟩ ?_
    refine zz_if_eq (tgt := 23) G dX_trial_16 rfl (fun h16 => ?_) (fun h16 => ?_)
    · refine zz_iconst (v := 0) G dX_trial_23 (by decide) ?_
      exact zz_thrS (As := [.int 0]) (rest := []) G (cx_refuseArgumentsUnless_no l hfl x m o 0 (fun z => z rfl)) kX_37 dX_trial_24 rfl rfl (Nat.le_of_ble_eq_true rfl) (fun _ => rfl) ⟨Nat.le_of_ble_eq_true rfl, Nat.le_of_ble_eq_true rfl⟩ ⟨Nat.le_of_ble_eq_true rfl, Nat.le_of_ble_eq_true rfl⟩ hex (by rw [rTrial, if_pos h1, if_neg h8, if_pos h16]; rfl) rfl rfl
    · obtain ⟨t, ht, rfl⟩ := sTime_of hn (by rw [← hvc]; exact h16)
      have loop : ∀ (j k : Nat), k + j = 16 → Z p l e (zrm 3) s mm args below meth c 5 D cI cJ as true 0 0 (zMQ below (rTrial x m o d (nI t)) D cI cJ as true s 0 0) 32 [some (.ref 0), some (.int d), some (.int (nI t)), some (.int (cTrial (fx_words x) (fx_rep x) d t k)), some (.int (nI k))] [] (wx x m o) := by
        intro j
        induction j with
        | zero =>
          intro k hk
          have hk : k = 16 := by omega
          subst hk
          refine zz_iload G dX_trial_32 rfl ?_
          refine zz_bipush (v := 16) G dX_trial_34 (by decide) ?_
          refine zz_icmp_ge (tgt := 56) G dX_trial_36 rfl (fun h36 => ?_) (fun h36 => (h36 (by decide)).elim)
          refine zz_iload_n G dX_trial_56 rfl ?_
          exact zz_iret G hret dX_trial_57 (by rw [rTrial, if_pos h1, if_neg h8, if_neg h16, nI_clamp (show t < 2 ^ 31 by omega)]) (Nat.le_of_ble_eq_true rfl) (Nat.le_of_ble_eq_true rfl)
        | succ j ih =>
          intro k hk
          refine zz_iload G dX_trial_32 rfl ?_
          refine zz_bipush (v := 16) G dX_trial_34 (by decide) ?_
          refine zz_icmp_ge (tgt := 56) G dX_trial_36 rfl (fun h36 => (nI_ge (show k < 16 by omega) (by decide) h36).elim) (fun h36 => ?_)
          refine zz_iload_n G dX_trial_39 rfl ?_
          refine zz_aload_n G dX_trial_40 rfl ?_
          refine zz_iload G dX_trial_41 rfl ?_
          refine zz_iload_n G dX_trial_43 rfl ?_
          refine zz_iload_n G dX_trial_44 rfl ?_
          refine zz_callVi (v := cBal (fx_words x) (fx_rep x) (nI k) d (nI t) t) (w' := (wx x m o)) (As := [.int (nI k), .int d, .int (nI t)]) (rest := [.int (cTrial (fx_words x) (fx_rep x) d t k)]) G (cx_balanceOf l x m o (nI k) d _ t rfl (by omega)) kX_70 dX_trial_45 rfl rfl rfl rfl (Nat.le_of_ble_eq_true rfl) (fun _ => rfl) ⟨Nat.le_of_ble_eq_true rfl, Nat.le_of_ble_eq_true rfl⟩ ⟨Nat.le_of_ble_eq_true rfl, Nat.le_of_ble_eq_true rfl⟩ ?_
          refine zz_iadd G dX_trial_48 ?_
          refine zz_istore_n (lv' := [some (.ref 0), some (.int d), some (.int (nI t)), some (.int ((cTrial (fx_words x) (fx_rep x) d t k) + (cBal (fx_words x) (fx_rep x) (nI k) d (nI t) t))), some (.int (nI k))]) G dX_trial_49 (Nat.le_of_ble_eq_true rfl) rfl ?_
          refine zz_iinc (v := nI (k + 1)) (lv' := [some (.ref 0), some (.int d), some (.int (nI t)), some (.int ((cTrial (fx_words x) (fx_rep x) d t k) + (cBal (fx_words x) (fx_rep x) (nI k) d (nI t) t))), some (.int (nI (k + 1)))]) G dX_trial_50 rfl (by rw [nI_succ]; rfl) rfl ?_
          refine zz_goto (tgt := 32) G dX_trial_53 rfl ?_
          refine zz_eq (lv' := [some (.ref 0), some (.int d), some (.int (nI t)), some (.int (cTrial (fx_words x) (fx_rep x) d t (k + 1))), some (.int (nI (k + 1)))]) rfl rfl rfl rfl ?_
          exact ih (k + 1) (by omega)
      refine zz_iconst (v := 1) G dX_trial_19 (by decide) ?_
      refine zz_goto (tgt := 24) G dX_trial_20 rfl ?_
      refine zz_callSv (w' := (wx x m o)) (As := [.int 1]) (rest := []) G (cx_refuseArgumentsUnless_ok l hfl x m o 1 (by decide)) kX_37 dX_trial_24 rfl rfl (Nat.le_of_ble_eq_true rfl) (fun _ => rfl) ⟨Nat.le_of_ble_eq_true rfl, Nat.le_of_ble_eq_true rfl⟩ ⟨Nat.le_of_ble_eq_true rfl, Nat.le_of_ble_eq_true rfl⟩ ?_
      refine zz_iconst (v := 0) G dX_trial_27 (by decide) ?_
      refine zz_istore_n (lv' := [some (.ref 0), some (.int d), some (.int (nI t)), some (.int 0), none]) G dX_trial_28 (Nat.le_of_ble_eq_true rfl) rfl ?_
      refine zz_iconst (v := 0) G dX_trial_29 (by decide) ?_
      refine zz_istore (lv' := [some (.ref 0), some (.int d), some (.int (nI t)), some (.int 0), some (.int 0)]) G dX_trial_30 (Nat.le_of_ble_eq_true rfl) rfl ?_
      exact loop 16 0 (by omega)
set_option maxRecDepth 100000 in
set_option maxHeartbeats 4000000 in
theorem cx_turnover (l : Launch) (hfl : l.flags = Jvm.pinnedFlags ++ [Jvm.noTraceFlag]) (x : XS) (m : MS) (o : Nat → Int64) (n : Nat) (a : Int32) (hvc : fx_vc x = nI n) (hn : n ≤ 64) : zC l yX_turnover (Jvm.Cond.code yX_turnover bX_turnover 2 (some .int) :: Tw) 3 true 0 0 [.ref 0, .int a] (wx x m o) (rTurn x m o n a) := by
  refine zC_of [some (.ref 0), some (.int a)] (by decide) rfl (Nat.le_of_ble_eq_true rfl) ?_
  intro p e s mm args below meth c D cI cJ as G hret hex hbd
  refine zz_aload_n G dX_turnover_0 rfl ?_
  by_cases h1 : fx_tam x = 0
  rotate_left
  · exact zz_thrV (As := []) (rest := []) G (cx_refuseIfTampered_no l hfl x m o h1) kX_27 dX_turnover_1 rfl rfl rfl rfl (Nat.le_of_ble_eq_true rfl) (fun _ => rfl) ⟨Nat.le_of_ble_eq_true rfl, Nat.le_of_ble_eq_true rfl⟩ ⟨Nat.le_of_ble_eq_true rfl, Nat.le_of_ble_eq_true rfl⟩ hex (by rw [rTurn, if_neg h1]; rfl) rfl rfl
  refine zz_callVv (w' := (wx x m o)) (As := []) (rest := []) G (cx_refuseIfTampered_ok l hfl x m o h1) kX_27 dX_turnover_1 rfl rfl rfl rfl (Nat.le_of_ble_eq_true rfl) (fun _ => rfl) ⟨Nat.le_of_ble_eq_true rfl, Nat.le_of_ble_eq_true rfl⟩ ⟨Nat.le_of_ble_eq_true rfl, Nat.le_of_ble_eq_true rfl⟩ ?_
  refine zz_iload_n G dX_turnover_4 rfl ?_
  refine zz_callSi (v := sAcc a) (w' := (wx x m o)) (As := [.int a]) (rest := []) G (cx_isAccount l x m o a) kX_30 dX_turnover_5 rfl rfl (Nat.le_of_ble_eq_true rfl) (fun _ => rfl) ⟨Nat.le_of_ble_eq_true rfl, Nat.le_of_ble_eq_true rfl⟩ ⟨Nat.le_of_ble_eq_true rfl, Nat.le_of_ble_eq_true rfl⟩ ?_
  by_cases h8 : ¬ sAcc a = 0
  rotate_left
  · exact zz_thrS (As := [.int (sAcc a)]) (rest := []) G (cx_refuseArgumentsUnless_no l hfl x m o (sAcc a) h8) kX_37 dX_turnover_8 rfl rfl (Nat.le_of_ble_eq_true rfl) (fun _ => rfl) ⟨Nat.le_of_ble_eq_true rfl, Nat.le_of_ble_eq_true rfl⟩ ⟨Nat.le_of_ble_eq_true rfl, Nat.le_of_ble_eq_true rfl⟩ hex (by rw [rTurn, if_pos h1, if_neg h8]; rfl) rfl rfl
  refine zz_callSv (w' := (wx x m o)) (As := [.int (sAcc a)]) (rest := []) G (cx_refuseArgumentsUnless_ok l hfl x m o (sAcc a) h8) kX_37 dX_turnover_8 rfl rfl (Nat.le_of_ble_eq_true rfl) (fun _ => rfl) ⟨Nat.le_of_ble_eq_true rfl, Nat.le_of_ble_eq_true rfl⟩ ⟨Nat.le_of_ble_eq_true rfl, Nat.le_of_ble_eq_true rfl⟩ ?_
  refine zz_aload_n G dX_turnover_11 rfl ?_
  refine zz_iload_n G dX_turnover_12 rfl ?_
  refine zz_callVi (v := cTurn (fx_words x) (fx_rep x) a (nI n) n) (w' := (wx x m o)) (As := [.int a]) (rest := []) G (cx_turnoverOf l x m o a n hvc hn) kX_73 dX_turnover_13 rfl rfl rfl rfl (Nat.le_of_ble_eq_true rfl) (fun _ => rfl) ⟨Nat.le_of_ble_eq_true rfl, Nat.le_of_ble_eq_true rfl⟩ ⟨Nat.le_of_ble_eq_true rfl, Nat.le_of_ble_eq_true rfl⟩ ?_
  exact zz_iret G hret dX_turnover_16 (by rw [rTurn, if_pos h1, if_pos h8]) (Nat.le_of_ble_eq_true rfl) (Nat.le_of_ble_eq_true rfl)
set_option maxRecDepth 100000 in
set_option maxHeartbeats 4000000 in
theorem cx_open (l : Launch) (hfl : l.flags = Jvm.pinnedFlags ++ [Jvm.noTraceFlag]) (x : XS) (m : MS) (o : Nat → Int64) (n e1 : Nat) (a f g it : Int32) (hvc : fx_vc x = nI n) (hn : n ≤ 64) (hI : fx_tam x = 0 → Inv (fx_words x) (fx_rep x) n e1) : zC l yX_open (Jvm.Cond.code yX_open bX_open 7 (some .int) :: Tw) 3 false 0 0 [.ref 0, .int a, .int f, .int g, .int it] (wx x m o) (rOpen x m o a f g it) := by
  refine zC_of [some (.ref 0), some (.int a), some (.int f), some (.int g), some (.int it), none, none] (by decide) rfl (Nat.le_of_ble_eq_true rfl) ?_
  intro p e s mm args below meth c D cI cJ as G hret hex hbd
  refine zz_aload_n G dX_open_0 rfl ?_
  by_cases h1 : fx_tam x = 0
  rotate_left
  · exact zz_thrV (As := []) (rest := []) G (cx_refuseIfTampered_no l hfl x m o h1) kX_27 dX_open_1 rfl rfl rfl rfl (Nat.le_of_ble_eq_true rfl) (fun _ => rfl) ⟨Nat.le_of_ble_eq_true rfl, Nat.le_of_ble_eq_true rfl⟩ ⟨Nat.le_of_ble_eq_true rfl, Nat.le_of_ble_eq_true rfl⟩ hex (by rw [rOpen, if_neg h1]; rfl) rfl rfl
  refine zz_callVv (w' := (wx x m o)) (As := []) (rest := []) G (cx_refuseIfTampered_ok l hfl x m o h1) kX_27 dX_open_1 rfl rfl rfl rfl (Nat.le_of_ble_eq_true rfl) (fun _ => rfl) ⟨Nat.le_of_ble_eq_true rfl, Nat.le_of_ble_eq_true rfl⟩ ⟨Nat.le_of_ble_eq_true rfl, Nat.le_of_ble_eq_true rfl⟩ ?_
  refine zz_iload_n G dX_open_4 rfl ?_
  refine zz_callSi (v := sAcc a) (w' := (wx x m o)) (As := [.int a]) (rest := []) G (cx_isAccount l x m o a) kX_30 dX_open_5 rfl rfl (Nat.le_of_ble_eq_true rfl) (fun _ => rfl) ⟨Nat.le_of_ble_eq_true rfl, Nat.le_of_ble_eq_true rfl⟩ ⟨Nat.le_of_ble_eq_true rfl, Nat.le_of_ble_eq_true rfl⟩ ?_
  refine zz_if_eq (tgt := 38) G dX_open_8 rfl (fun h8 => ?_) (fun h8 => ?_)
  · refine zz_iconst (v := 0) G dX_open_38 (by decide) ?_
    exact zz_thrS (As := [.int 0]) (rest := []) G (cx_refuseArgumentsUnless_no l hfl x m o 0 (fun z => z rfl)) kX_37 dX_open_39 rfl rfl (Nat.le_of_ble_eq_true rfl) (fun _ => rfl) ⟨Nat.le_of_ble_eq_true rfl, Nat.le_of_ble_eq_true rfl⟩ ⟨Nat.le_of_ble_eq_true rfl, Nat.le_of_ble_eq_true rfl⟩ hex (by rw [rOpen, if_pos h1, if_pos h8]; rfl) rfl rfl
  · refine zz_iload_n G dX_open_11 rfl ?_
    refine zz_callSi (v := sDay f) (w' := (wx x m o)) (As := [.int f]) (rest := []) G (cx_isDay l x m o f) kX_34 dX_open_12 rfl rfl (Nat.le_of_ble_eq_true rfl) (fun _ => rfl) ⟨Nat.le_of_ble_eq_true rfl, Nat.le_of_ble_eq_true rfl⟩ ⟨Nat.le_of_ble_eq_true rfl, Nat.le_of_ble_eq_true rfl⟩ ?_
    refine zz_if_eq (tgt := 38) G dX_open_15 rfl (fun h15 => ?_) (fun h15 => ?_)
    · refine zz_iconst (v := 0) G dX_open_38 (by decide) ?_
      exact zz_thrS (As := [.int 0]) (rest := []) G (cx_refuseArgumentsUnless_no l hfl x m o 0 (fun z => z rfl)) kX_37 dX_open_39 rfl rfl (Nat.le_of_ble_eq_true rfl) (fun _ => rfl) ⟨Nat.le_of_ble_eq_true rfl, Nat.le_of_ble_eq_true rfl⟩ ⟨Nat.le_of_ble_eq_true rfl, Nat.le_of_ble_eq_true rfl⟩ hex (by rw [rOpen, if_pos h1, if_neg h8, if_pos h15]; rfl) rfl rfl
    · refine zz_iload_n G dX_open_18 rfl ?_
      refine zz_callSi (v := sDay g) (w' := (wx x m o)) (As := [.int g]) (rest := []) G (cx_isDay l x m o g) kX_34 dX_open_19 rfl rfl (Nat.le_of_ble_eq_true rfl) (fun _ => rfl) ⟨Nat.le_of_ble_eq_true rfl, Nat.le_of_ble_eq_true rfl⟩ ⟨Nat.le_of_ble_eq_true rfl, Nat.le_of_ble_eq_true rfl⟩ ?_
      refine zz_if_eq (tgt := 38) G dX_open_22 rfl (fun h22 => ?_) (fun h22 => ?_)
      · refine zz_iconst (v := 0) G dX_open_38 (by decide) ?_
        exact zz_thrS (As := [.int 0]) (rest := []) G (cx_refuseArgumentsUnless_no l hfl x m o 0 (fun z => z rfl)) kX_37 dX_open_39 rfl rfl (Nat.le_of_ble_eq_true rfl) (fun _ => rfl) ⟨Nat.le_of_ble_eq_true rfl, Nat.le_of_ble_eq_true rfl⟩ ⟨Nat.le_of_ble_eq_true rfl, Nat.le_of_ble_eq_true rfl⟩ hex (by rw [rOpen, if_pos h1, if_neg h8, if_neg h15, if_pos h22]; rfl) rfl rfl
      · refine zz_aload_n G dX_open_25 rfl ?_
        refine zz_iload G dX_open_26 rfl ?_
        refine zz_callVi (v := sTime (fx_vc x) it) (w' := (wx x m o)) (As := [.int it]) (rest := []) G (cx_isTime l x m o it) kX_67 dX_open_28 rfl rfl rfl rfl (Nat.le_of_ble_eq_true rfl) (fun _ => rfl) ⟨Nat.le_of_ble_eq_true rfl, Nat.le_of_ble_eq_true rfl⟩ ⟨Nat.le_of_ble_eq_true rfl, Nat.le_of_ble_eq_true rfl⟩ ?_
        refine zz_if_eq (tgt := 38) G dX_open_31 rfl (fun h31 => ?_) (fun h31 => ?_)
        · refine zz_iconst (v := 0) G dX_open_38 (by decide) ?_
          exact zz_thrS (As := [.int 0]) (rest := []) G (cx_refuseArgumentsUnless_no l hfl x m o 0 (fun z => z rfl)) kX_37 dX_open_39 rfl rfl (Nat.le_of_ble_eq_true rfl) (fun _ => rfl) ⟨Nat.le_of_ble_eq_true rfl, Nat.le_of_ble_eq_true rfl⟩ ⟨Nat.le_of_ble_eq_true rfl, Nat.le_of_ble_eq_true rfl⟩ hex (by rw [rOpen, if_pos h1, if_neg h8, if_neg h15, if_neg h22, if_pos h31]; rfl) rfl rfl
        · obtain ⟨t, ht, rfl⟩ := sTime_of hn (by rw [← hvc]; exact h31)
          have loop : ∀ (j v : Nat), v + j = t → Z p l e (zrm 3) s mm args below meth c 7 D cI cJ as false 0 0 (zMQ below (rOpen x m o a f g (nI t)) D cI cJ as false s 0 0) 65 [some (.ref 0), some (.int a), some (.int f), some (.int g), some (.int (nI t)), some (.int (nI v)), none] [] (wx (sx_cur (sx_last (sx_acct (sx_place (sx_size x (nI (cOpn (fx_words x) (fx_rep x) a f g (nI t) (fx_cur x) v).1)) 0) a) ((-1))) ((cOpn (fx_words x) (fx_rep x) a f g (nI t) (fx_cur x) v).2)) m o) := by
            intro j
            induction j with
            | zero =>
              intro v hv
              have hv : t = v := by omega
              subst hv
              refine zz_iload G dX_open_65 rfl ?_
              refine zz_iload G dX_open_67 rfl ?_
              refine zz_icmp_ge (tgt := 137) G dX_open_69 rfl (fun h69 => ?_) (fun h69 => (h69 (nI_le (Nat.le_refl _) (by omega))).elim)
              refine zz_aload_n G dX_open_137 rfl ?_
              refine zz_get (v := .int (nI (cOpn (fx_words x) (fx_rep x) a f g (nI t) (fx_cur x) t).1)) G dX_open_138 flX_76 rfl rfl ?_
              exact zz_iret G hret dX_open_141 (by rw [rOpen, if_pos h1, if_neg h8, if_neg h15, if_neg h22, if_neg h31, nI_clamp (show t < 2 ^ 31 by omega)]; rfl) (Nat.le_of_ble_eq_true rfl) (Nat.le_of_ble_eq_true rfl)
            | succ j ih =>
              intro v hv
              obtain ⟨lc, l1, l2, l3, l4⟩ := cOpn_spec a f g (fx_cur x) (hI h1) ht v (by omega)
              have hb : ∀ k, k < (cOpn (fx_words x) (fx_rep x) a f g (nI t) (fx_cur x) v).1 → ∃ q, q < 64 ∧ (cOpn (fx_words x) (fx_rep x) a f g (nI t) (fx_cur x) v).2 k = nI q := by
                intro k hk
                have hk2 : k < lc.length := by omega
                have hg : lc[k]? = some lc[k] := List.getElem?_eq_getElem hk2
                have h64 := ((l4 _).mp (List.getElem_mem hk2)).1
                exact ⟨lc[k], by omega, l2 k _ hg⟩
              refine zz_iload G dX_open_65 rfl ?_
              refine zz_iload G dX_open_67 rfl ?_
              refine zz_icmp_ge (tgt := 137) G dX_open_69 rfl (fun h69 => (nI_ge (by omega) (by omega) h69).elim) (fun h69 => ?_)
              refine zz_aload_n G dX_open_72 rfl ?_
              refine zz_iload G dX_open_73 rfl ?_
              refine zz_iconst (v := 5) G dX_open_75 (by decide) ?_
              refine zz_callVi (v := fx_words x (6 * v + 5)) (w' := (wx (sx_cur (sx_last (sx_acct (sx_place (sx_size x (nI (cOpn (fx_words x) (fx_rep x) a f g (nI t) (fx_cur x) v).1)) 0) a) ((-1))) ((cOpn (fx_words x) (fx_rep x) a f g (nI t) (fx_cur x) v).2)) m o)) (As := [.int (nI v), .int 5]) (rest := []) G (cx_word l (sx_cur (sx_last (sx_acct (sx_place (sx_size x (nI (cOpn (fx_words x) (fx_rep x) a f g (nI t) (fx_cur x) v).1)) 0) a) ((-1))) ((cOpn (fx_words x) (fx_rep x) a f g (nI t) (fx_cur x) v).2)) m o v 5 _ _ rfl rfl (by omega) (by decide)) kX_59 dX_open_76 rfl rfl rfl rfl (Nat.le_of_ble_eq_true rfl) (fun _ => rfl) ⟨Nat.le_of_ble_eq_true rfl, Nat.le_of_ble_eq_true rfl⟩ ⟨Nat.le_of_ble_eq_true rfl, Nat.le_of_ble_eq_true rfl⟩ ?_
              refine zz_istore (lv' := [some (.ref 0), some (.int a), some (.int f), some (.int g), some (.int (nI t)), some (.int (nI v)), some (.int (fx_words x (6 * v + 5)))]) G dX_open_79 (Nat.le_of_ble_eq_true rfl) rfl ?_
              refine zz_aload_n G dX_open_81 rfl ?_
              refine zz_iload G dX_open_82 rfl ?_
              refine zz_iload G dX_open_84 rfl ?_
              refine zz_callVi (v := sCur (fx_rep x) v (nI t)) (w' := (wx (sx_cur (sx_last (sx_acct (sx_place (sx_size x (nI (cOpn (fx_words x) (fx_rep x) a f g (nI t) (fx_cur x) v).1)) 0) a) ((-1))) ((cOpn (fx_words x) (fx_rep x) a f g (nI t) (fx_cur x) v).2)) m o)) (As := [.int (nI v), .int (nI t)]) (rest := []) G (cx_isCurrent l (sx_cur (sx_last (sx_acct (sx_place (sx_size x (nI (cOpn (fx_words x) (fx_rep x) a f g (nI t) (fx_cur x) v).1)) 0) a) ((-1))) ((cOpn (fx_words x) (fx_rep x) a f g (nI t) (fx_cur x) v).2)) m o v _ (nI t) rfl (by omega)) kX_85 dX_open_86 rfl rfl rfl rfl (Nat.le_of_ble_eq_true rfl) (fun _ => rfl) ⟨Nat.le_of_ble_eq_true rfl, Nat.le_of_ble_eq_true rfl⟩ ⟨Nat.le_of_ble_eq_true rfl, Nat.le_of_ble_eq_true rfl⟩ ?_
              refine zz_if_eq (tgt := 131) G dX_open_89 rfl (fun h89 => ?_) (fun h89 => ?_)
              · refine zz_iinc (v := nI (v + 1)) (lv' := [some (.ref 0), some (.int a), some (.int f), some (.int g), some (.int (nI t)), some (.int (nI (v + 1))), some (.int (fx_words x (6 * v + 5)))]) G dX_open_131 rfl (by rw [nI_succ]; rfl) rfl ?_
                refine zz_goto (tgt := 65) G dX_open_134 rfl ?_
                refine zz_few (lv' := [some (.ref 0), some (.int a), some (.int f), some (.int g), some (.int (nI t)), some (.int (nI (v + 1))), none]) (by exact ⟨rfl, rfl, rfl, rfl, rfl, rfl, trivial⟩) ?_
                refine zz_eq (w' := (wx (sx_cur (sx_last (sx_acct (sx_place (sx_size x (nI (cOpn (fx_words x) (fx_rep x) a f g (nI t) (fx_cur x) (v + 1)).1)) 0) a) ((-1))) ((cOpn (fx_words x) (fx_rep x) a f g (nI t) (fx_cur x) (v + 1)).2)) m o)) rfl rfl rfl (by rw [show cOpn (fx_words x) (fx_rep x) a f g (nI t) (fx_cur x) (v + 1) = cOpn (fx_words x) (fx_rep x) a f g (nI t) (fx_cur x) v from cOpn_skip (Or.inl h89)]) ?_
                exact ih (v + 1) (by omega)
              · refine zz_aload_n G dX_open_92 rfl ?_
                refine zz_iload G dX_open_93 rfl ?_
                refine zz_iconst (v := 0) G dX_open_95 (by decide) ?_
                refine zz_callVi (v := fx_words x (6 * v + 0)) (w' := (wx (sx_cur (sx_last (sx_acct (sx_place (sx_size x (nI (cOpn (fx_words x) (fx_rep x) a f g (nI t) (fx_cur x) v).1)) 0) a) ((-1))) ((cOpn (fx_words x) (fx_rep x) a f g (nI t) (fx_cur x) v).2)) m o)) (As := [.int (nI v), .int 0]) (rest := []) G (cx_word l (sx_cur (sx_last (sx_acct (sx_place (sx_size x (nI (cOpn (fx_words x) (fx_rep x) a f g (nI t) (fx_cur x) v).1)) 0) a) ((-1))) ((cOpn (fx_words x) (fx_rep x) a f g (nI t) (fx_cur x) v).2)) m o v 0 _ _ rfl rfl (by omega) (by decide)) kX_59 dX_open_96 rfl rfl rfl rfl (Nat.le_of_ble_eq_true rfl) (fun _ => rfl) ⟨Nat.le_of_ble_eq_true rfl, Nat.le_of_ble_eq_true rfl⟩ ⟨Nat.le_of_ble_eq_true rfl, Nat.le_of_ble_eq_true rfl⟩ ?_
                refine zz_iconst (v := 2) G dX_open_99 (by decide) ?_
                refine zz_icmp_eq (tgt := 131) G dX_open_100 rfl (fun h100 => ?_) (fun h100 => ?_)
                · refine zz_iinc (v := nI (v + 1)) (lv' := [some (.ref 0), some (.int a), some (.int f), some (.int g), some (.int (nI t)), some (.int (nI (v + 1))), some (.int (fx_words x (6 * v + 5)))]) G dX_open_131 rfl (by rw [nI_succ]; rfl) rfl ?_
                  refine zz_goto (tgt := 65) G dX_open_134 rfl ?_
                  refine zz_few (lv' := [some (.ref 0), some (.int a), some (.int f), some (.int g), some (.int (nI t)), some (.int (nI (v + 1))), none]) (by exact ⟨rfl, rfl, rfl, rfl, rfl, rfl, trivial⟩) ?_
                  refine zz_eq (w' := (wx (sx_cur (sx_last (sx_acct (sx_place (sx_size x (nI (cOpn (fx_words x) (fx_rep x) a f g (nI t) (fx_cur x) (v + 1)).1)) 0) a) ((-1))) ((cOpn (fx_words x) (fx_rep x) a f g (nI t) (fx_cur x) (v + 1)).2)) m o)) rfl rfl rfl (by rw [show cOpn (fx_words x) (fx_rep x) a f g (nI t) (fx_cur x) (v + 1) = cOpn (fx_words x) (fx_rep x) a f g (nI t) (fx_cur x) v from cOpn_skip (Or.inr (Or.inl h100))]) ?_
                  exact ih (v + 1) (by omega)
                · refine zz_aload_n G dX_open_103 rfl ?_
                  refine zz_iload G dX_open_104 rfl ?_
                  refine zz_iload_n G dX_open_106 rfl ?_
                  refine zz_callVi (v := sTouch (fx_words x) v a) (w' := (wx (sx_cur (sx_last (sx_acct (sx_place (sx_size x (nI (cOpn (fx_words x) (fx_rep x) a f g (nI t) (fx_cur x) v).1)) 0) a) ((-1))) ((cOpn (fx_words x) (fx_rep x) a f g (nI t) (fx_cur x) v).2)) m o)) (As := [.int (nI v), .int a]) (rest := []) G (cx_touches l (sx_cur (sx_last (sx_acct (sx_place (sx_size x (nI (cOpn (fx_words x) (fx_rep x) a f g (nI t) (fx_cur x) v).1)) 0) a) ((-1))) ((cOpn (fx_words x) (fx_rep x) a f g (nI t) (fx_cur x) v).2)) m o v _ a rfl (by omega)) kX_89 dX_open_107 rfl rfl rfl rfl (Nat.le_of_ble_eq_true rfl) (fun _ => rfl) ⟨Nat.le_of_ble_eq_true rfl, Nat.le_of_ble_eq_true rfl⟩ ⟨Nat.le_of_ble_eq_true rfl, Nat.le_of_ble_eq_true rfl⟩ ?_
                  refine zz_if_eq (tgt := 131) G dX_open_110 rfl (fun h110 => ?_) (fun h110 => ?_)
                  · refine zz_iinc (v := nI (v + 1)) (lv' := [some (.ref 0), some (.int a), some (.int f), some (.int g), some (.int (nI t)), some (.int (nI (v + 1))), some (.int (fx_words x (6 * v + 5)))]) G dX_open_131 rfl (by rw [nI_succ]; rfl) rfl ?_
                    refine zz_goto (tgt := 65) G dX_open_134 rfl ?_
                    refine zz_few (lv' := [some (.ref 0), some (.int a), some (.int f), some (.int g), some (.int (nI t)), some (.int (nI (v + 1))), none]) (by exact ⟨rfl, rfl, rfl, rfl, rfl, rfl, trivial⟩) ?_
                    refine zz_eq (w' := (wx (sx_cur (sx_last (sx_acct (sx_place (sx_size x (nI (cOpn (fx_words x) (fx_rep x) a f g (nI t) (fx_cur x) (v + 1)).1)) 0) a) ((-1))) ((cOpn (fx_words x) (fx_rep x) a f g (nI t) (fx_cur x) (v + 1)).2)) m o)) rfl rfl rfl (by rw [show cOpn (fx_words x) (fx_rep x) a f g (nI t) (fx_cur x) (v + 1) = cOpn (fx_words x) (fx_rep x) a f g (nI t) (fx_cur x) v from cOpn_skip (Or.inr (Or.inr (Or.inl h110)))]) ?_
                    exact ih (v + 1) (by omega)
                  · refine zz_iload G dX_open_113 rfl ?_
                    refine zz_iload_n G dX_open_115 rfl ?_
                    refine zz_icmp_lt (tgt := 131) G dX_open_116 rfl (fun h116 => ?_) (fun h116 => ?_)
                    · refine zz_iinc (v := nI (v + 1)) (lv' := [some (.ref 0), some (.int a), some (.int f), some (.int g), some (.int (nI t)), some (.int (nI (v + 1))), some (.int (fx_words x (6 * v + 5)))]) G dX_open_131 rfl (by rw [nI_succ]; rfl) rfl ?_
                      refine zz_goto (tgt := 65) G dX_open_134 rfl ?_
                      refine zz_few (lv' := [some (.ref 0), some (.int a), some (.int f), some (.int g), some (.int (nI t)), some (.int (nI (v + 1))), none]) (by exact ⟨rfl, rfl, rfl, rfl, rfl, rfl, trivial⟩) ?_
                      refine zz_eq (w' := (wx (sx_cur (sx_last (sx_acct (sx_place (sx_size x (nI (cOpn (fx_words x) (fx_rep x) a f g (nI t) (fx_cur x) (v + 1)).1)) 0) a) ((-1))) ((cOpn (fx_words x) (fx_rep x) a f g (nI t) (fx_cur x) (v + 1)).2)) m o)) rfl rfl rfl (by rw [show cOpn (fx_words x) (fx_rep x) a f g (nI t) (fx_cur x) (v + 1) = cOpn (fx_words x) (fx_rep x) a f g (nI t) (fx_cur x) v from cOpn_skip (Or.inr (Or.inr (Or.inr (Or.inl h116))))]) ?_
                      exact ih (v + 1) (by omega)
                    · refine zz_iload G dX_open_119 rfl ?_
                      refine zz_iload_n G dX_open_121 rfl ?_
                      refine zz_icmp_gt (tgt := 131) G dX_open_122 rfl (fun h122 => ?_) (fun h122 => ?_)
                      · refine zz_iinc (v := nI (v + 1)) (lv' := [some (.ref 0), some (.int a), some (.int f), some (.int g), some (.int (nI t)), some (.int (nI (v + 1))), some (.int (fx_words x (6 * v + 5)))]) G dX_open_131 rfl (by rw [nI_succ]; rfl) rfl ?_
                        refine zz_goto (tgt := 65) G dX_open_134 rfl ?_
                        refine zz_few (lv' := [some (.ref 0), some (.int a), some (.int f), some (.int g), some (.int (nI t)), some (.int (nI (v + 1))), none]) (by exact ⟨rfl, rfl, rfl, rfl, rfl, rfl, trivial⟩) ?_
                        refine zz_eq (w' := (wx (sx_cur (sx_last (sx_acct (sx_place (sx_size x (nI (cOpn (fx_words x) (fx_rep x) a f g (nI t) (fx_cur x) (v + 1)).1)) 0) a) ((-1))) ((cOpn (fx_words x) (fx_rep x) a f g (nI t) (fx_cur x) (v + 1)).2)) m o)) rfl rfl rfl (by rw [show cOpn (fx_words x) (fx_rep x) a f g (nI t) (fx_cur x) (v + 1) = cOpn (fx_words x) (fx_rep x) a f g (nI t) (fx_cur x) v from cOpn_skip (Or.inr (Or.inr (Or.inr (Or.inr h122))))]) ?_
                        exact ih (v + 1) (by omega)
                      · refine zz_aload_n G dX_open_125 rfl ?_
                        refine zz_iload G dX_open_126 rfl ?_
                        refine zz_callVv (w' := (wx (sx_cur (sx_last (sx_acct (sx_place (sx_size x (nI ((cOpn (fx_words x) (fx_rep x) a f g (nI t) (fx_cur x) v).1) + 1)) 0) a) ((-1))) (insA (fx_words x) v ((cOpn (fx_words x) (fx_rep x) a f g (nI t) (fx_cur x) v).1) (((cOpn (fx_words x) (fx_rep x) a f g (nI t) (fx_cur x) v).2)))) m o)) (As := [.int (nI v)]) (rest := []) G (cx_insertIntoCursor l (sx_cur (sx_last (sx_acct (sx_place (sx_size x (nI (cOpn (fx_words x) (fx_rep x) a f g (nI t) (fx_cur x) v).1)) 0) a) ((-1))) ((cOpn (fx_words x) (fx_rep x) a f g (nI t) (fx_cur x) v).2)) m o v ((cOpn (fx_words x) (fx_rep x) a f g (nI t) (fx_cur x) v).1) _ rfl (by omega) (rfl) (by have := cOpn_le (wd := fx_words x) (rp := fx_rep x) (a := a) (f := f) (g := g) (t := nI t) (cv := fx_cur x) v; omega) (hb)) kX_92 dX_open_128 rfl rfl rfl rfl (Nat.le_of_ble_eq_true rfl) (fun h => by cases h) ⟨Nat.le_of_ble_eq_true rfl, Nat.le_of_ble_eq_true rfl⟩ ⟨Nat.le_of_ble_eq_true rfl, Nat.le_of_ble_eq_true rfl⟩ ?_
                        refine zz_iinc (v := nI (v + 1)) (lv' := [some (.ref 0), some (.int a), some (.int f), some (.int g), some (.int (nI t)), some (.int (nI (v + 1))), some (.int (fx_words x (6 * v + 5)))]) G dX_open_131 rfl (by rw [nI_succ]; rfl) rfl ?_
                        refine zz_goto (tgt := 65) G dX_open_134 rfl ?_
                        refine zz_few (lv' := [some (.ref 0), some (.int a), some (.int f), some (.int g), some (.int (nI t)), some (.int (nI (v + 1))), none]) (by exact ⟨rfl, rfl, rfl, rfl, rfl, rfl, trivial⟩) ?_
                        refine zz_eq (w' := (wx (sx_cur (sx_last (sx_acct (sx_place (sx_size x (nI (cOpn (fx_words x) (fx_rep x) a f g (nI t) (fx_cur x) (v + 1)).1)) 0) a) ((-1))) ((cOpn (fx_words x) (fx_rep x) a f g (nI t) (fx_cur x) (v + 1)).2)) m o)) rfl rfl rfl (by rw [show cOpn (fx_words x) (fx_rep x) a f g (nI t) (fx_cur x) (v + 1) = ((cOpn (fx_words x) (fx_rep x) a f g (nI t) (fx_cur x) v).1 + 1, insA (fx_words x) v (cOpn (fx_words x) (fx_rep x) a f g (nI t) (fx_cur x) v).1 (cOpn (fx_words x) (fx_rep x) a f g (nI t) (fx_cur x) v).2) from cOpn_take (by rintro (z | z | z | z | z); exact h89 z; exact h100 z; exact h110 z; exact h116 z; exact h122 z)]; show wx _ m o = wx _ m o; rw [nI_succ]) ?_
                        exact ih (v + 1) (by omega)
          refine zz_iconst (v := 1) G dX_open_34 (by decide) ?_
          refine zz_goto (tgt := 39) G dX_open_35 rfl ?_
          refine zz_callSv (w' := (wx x m o)) (As := [.int 1]) (rest := []) G (cx_refuseArgumentsUnless_ok l hfl x m o 1 (by decide)) kX_37 dX_open_39 rfl rfl (Nat.le_of_ble_eq_true rfl) (fun _ => rfl) ⟨Nat.le_of_ble_eq_true rfl, Nat.le_of_ble_eq_true rfl⟩ ⟨Nat.le_of_ble_eq_true rfl, Nat.le_of_ble_eq_true rfl⟩ ?_
          refine zz_aload_n G dX_open_42 rfl ?_
          refine zz_iconst (v := 0) G dX_open_43 (by decide) ?_
          refine zz_put (w' := (wx (sx_size x 0) m o)) rfl G dX_open_44 flX_76 rfl rfl rfl (Nat.le_of_ble_eq_true rfl) rfl ?_
          refine zz_aload_n G dX_open_47 rfl ?_
          refine zz_iconst (v := 0) G dX_open_48 (by decide) ?_
          refine zz_put (w' := (wx (sx_place (sx_size x 0) 0) m o)) rfl G dX_open_49 flX_79 rfl rfl rfl (Nat.le_of_ble_eq_true rfl) rfl ?_
          refine zz_aload_n G dX_open_52 rfl ?_
          refine zz_iload_n G dX_open_53 rfl ?_
          refine zz_put (w' := (wx (sx_acct (sx_place (sx_size x 0) 0) a) m o)) rfl G dX_open_54 flX_82 rfl rfl rfl (Nat.le_of_ble_eq_true rfl) rfl ?_
          refine zz_aload_n G dX_open_57 rfl ?_
          refine zz_iconst (v := -1) G dX_open_58 (by decide) ?_
          refine zz_put (w' := (wx (sx_last (sx_acct (sx_place (sx_size x 0) 0) a) ((-1))) m o)) rfl G dX_open_59 flX_23 rfl rfl rfl (Nat.le_of_ble_eq_true rfl) rfl ?_
          refine zz_iconst (v := 0) G dX_open_62 (by decide) ?_
          refine zz_istore (lv' := [some (.ref 0), some (.int a), some (.int f), some (.int g), some (.int (nI t)), some (.int 0), none]) G dX_open_63 (Nat.le_of_ble_eq_true rfl) rfl ?_
          exact loop t 0 (by omega)
set_option maxRecDepth 100000 in
set_option maxHeartbeats 4000000 in
theorem cx_next (l : Launch) (hfl : l.flags = Jvm.pinnedFlags ++ [Jvm.noTraceFlag]) (x : XS) (m : MS) (o : Nat → Int64) (q z : Nat) (hq31 : q < 2 ^ 31) (hp : fx_place x = nI q) (hz : fx_size x = nI z) (hz64 : z ≤ 64) (hb : ∀ k, k < z → ∃ u, u < 64 ∧ fx_cur x k = nI u) : zC l yX_next (Jvm.Cond.code yX_next bX_next 1 (some .int) :: Tw) 3 false 0 0 [.ref 0] (wx x m o) (rNext x m o) := by
  refine zC_of [some (.ref 0)] (by decide) rfl (Nat.le_of_ble_eq_true rfl) ?_
  intro p e s mm args below meth c D cI cJ as G hret hex hbd
  refine zz_aload_n G dX_next_0 rfl ?_
  by_cases h1 : fx_tam x = 0
  rotate_left
  · exact zz_thrV (As := []) (rest := []) G (cx_refuseIfTampered_no l hfl x m o h1) kX_27 dX_next_1 rfl rfl rfl rfl (Nat.le_of_ble_eq_true rfl) (fun _ => rfl) ⟨Nat.le_of_ble_eq_true rfl, Nat.le_of_ble_eq_true rfl⟩ ⟨Nat.le_of_ble_eq_true rfl, Nat.le_of_ble_eq_true rfl⟩ hex (by rw [rNext, if_neg h1]; rfl) rfl rfl
  refine zz_callVv (w' := (wx x m o)) (As := []) (rest := []) G (cx_refuseIfTampered_ok l hfl x m o h1) kX_27 dX_next_1 rfl rfl rfl rfl (Nat.le_of_ble_eq_true rfl) (fun _ => rfl) ⟨Nat.le_of_ble_eq_true rfl, Nat.le_of_ble_eq_true rfl⟩ ⟨Nat.le_of_ble_eq_true rfl, Nat.le_of_ble_eq_true rfl⟩ ?_
  refine zz_aload_n G dX_next_4 rfl ?_
  refine zz_get (v := .int (fx_place x)) G dX_next_5 flX_79 rfl rfl ?_
  refine zz_aload_n G dX_next_8 rfl ?_
  refine zz_get (v := .int (fx_size x)) G dX_next_9 flX_76 rfl rfl ?_
  refine zz_icmp_lt (tgt := 22) G dX_next_12 rfl (fun h12 => ?_) (fun h12 => ?_)
  · have hq : q < z := by rw [hp, hz] at h12; exact (nI_ltI_of h12 hq31 hz64)
    obtain ⟨u, hu, eu⟩ := hb q hq
    have ep : (fx_place x).toNatClampNeg = q := by rw [hp]; exact nI_clamp (by omega)
    refine zz_aload_n G dX_next_22 rfl ?_
    refine zz_aload_n G dX_next_23 rfl ?_
    refine zz_get (v := .ref 4) G dX_next_24 flX_20 rfl rfl ?_
    refine zz_aload_n G dX_next_27 rfl ?_
    refine zz_get (v := .int (fx_place x)) G dX_next_28 flX_79 rfl rfl ?_
    refine zz_iald (v := fx_cur x (fx_place x).toNatClampNeg) G dX_next_31 rfl (by rw [hp]; exact i1_in (by omega)) (rfl) ?_
    refine zz_put (w' := (wx (sx_last x (fx_cur x (fx_place x).toNatClampNeg)) m o)) rfl G dX_next_32 flX_23 rfl rfl rfl (Nat.le_of_ble_eq_true rfl) rfl ?_
    refine zz_aload_n G dX_next_35 rfl ?_
    refine zz_dupa G dX_next_36 ?_
    refine zz_get (v := .int (fx_place x)) G dX_next_37 flX_79 rfl rfl ?_
    refine zz_iconst (v := 1) G dX_next_40 (by decide) ?_
    refine zz_iadd G dX_next_41 ?_
    refine zz_put (w' := (wx (sx_place (sx_last x (fx_cur x (fx_place x).toNatClampNeg)) ((fx_place x) + 1)) m o)) rfl G dX_next_42 flX_79 rfl rfl rfl (Nat.le_of_ble_eq_true rfl) rfl ?_
    refine zz_aload_n G dX_next_45 rfl ?_
    refine zz_aload_n G dX_next_46 rfl ?_
    refine zz_get (v := .int (fx_cur x (fx_place x).toNatClampNeg)) G dX_next_47 flX_23 rfl rfl ?_
    refine zz_iconst (v := 1) G dX_next_50 (by decide) ?_
    refine zz_callVi (v := fx_words x (6 * ((fx_cur x (fx_place x).toNatClampNeg).toNatClampNeg) + 1)) (w' := (wx (sx_place (sx_last x (fx_cur x (fx_place x).toNatClampNeg)) ((fx_place x) + 1)) m o)) (As := [.int (fx_cur x (fx_place x).toNatClampNeg), .int 1]) (rest := []) G (cx_word l (sx_place (sx_last x (fx_cur x (fx_place x).toNatClampNeg)) ((fx_place x) + 1)) m o ((fx_cur x (fx_place x).toNatClampNeg).toNatClampNeg) 1 _ _ (by rw [ep, eu, nI_clamp (show u < 2 ^ 31 by omega)]) rfl (by rw [ep, eu, nI_clamp (show u < 2 ^ 31 by omega)]; exact hu) (by decide)) kX_59 dX_next_51 rfl rfl rfl rfl (Nat.le_of_ble_eq_true rfl) (fun _ => rfl) ⟨Nat.le_of_ble_eq_true rfl, Nat.le_of_ble_eq_true rfl⟩ ⟨Nat.le_of_ble_eq_true rfl, Nat.le_of_ble_eq_true rfl⟩ ?_
    exact zz_iret G hret dX_next_54 (by rw [rNext, if_pos h1, if_pos h12]) (Nat.le_of_ble_eq_true rfl) (Nat.le_of_ble_eq_true rfl)
  · refine zz_aload_n G dX_next_15 rfl ?_
    refine zz_iconst (v := -1) G dX_next_16 (by decide) ?_
    refine zz_put (w' := (wx (sx_last x ((-1))) m o)) rfl G dX_next_17 flX_23 rfl rfl rfl (Nat.le_of_ble_eq_true rfl) rfl ?_
    refine zz_iconst (v := -1) G dX_next_20 (by decide) ?_
    exact zz_iret G hret dX_next_21 (by rw [rNext, if_pos h1, if_neg h12]) (Nat.le_of_ble_eq_true rfl) (Nat.le_of_ble_eq_true rfl)
set_option maxRecDepth 100000 in
set_option maxHeartbeats 4000000 in
theorem cx_moved (l : Launch) (hfl : l.flags = Jvm.pinnedFlags ++ [Jvm.noTraceFlag]) (x : XS) (m : MS) (o : Nat → Int64) (hl : fx_last x = -1 ∨ ∃ u, u < 64 ∧ fx_last x = nI u) : zC l yX_moved (Jvm.Cond.code yX_moved bX_moved 1 (some .int) :: Tw) 3 true 0 0 [.ref 0] (wx x m o) (rMoved x m o) := by
  refine zC_of [some (.ref 0)] (by decide) rfl (Nat.le_of_ble_eq_true rfl) ?_
  intro p e s mm args below meth c D cI cJ as G hret hex hbd
  refine zz_aload_n G dX_moved_0 rfl ?_
  by_cases h1 : fx_tam x = 0
  rotate_left
  · exact zz_thrV (As := []) (rest := []) G (cx_refuseIfTampered_no l hfl x m o h1) kX_27 dX_moved_1 rfl rfl rfl rfl (Nat.le_of_ble_eq_true rfl) (fun _ => rfl) ⟨Nat.le_of_ble_eq_true rfl, Nat.le_of_ble_eq_true rfl⟩ ⟨Nat.le_of_ble_eq_true rfl, Nat.le_of_ble_eq_true rfl⟩ hex (by rw [rMoved, if_neg h1]; rfl) rfl rfl
  refine zz_callVv (w' := (wx x m o)) (As := []) (rest := []) G (cx_refuseIfTampered_ok l hfl x m o h1) kX_27 dX_moved_1 rfl rfl rfl rfl (Nat.le_of_ble_eq_true rfl) (fun _ => rfl) ⟨Nat.le_of_ble_eq_true rfl, Nat.le_of_ble_eq_true rfl⟩ ⟨Nat.le_of_ble_eq_true rfl, Nat.le_of_ble_eq_true rfl⟩ ?_
  refine zz_aload_n G dX_moved_4 rfl ?_
  refine zz_get (v := .int (fx_last x)) G dX_moved_5 flX_23 rfl rfl ?_
  refine zz_iconst (v := -1) G dX_moved_8 (by decide) ?_
  refine zz_icmp_ne (tgt := 16) G dX_moved_9 rfl (fun h9 => ?_) (fun h9 => ?_)
  · obtain ⟨u, hu, eu⟩ : ∃ u, u < 64 ∧ fx_last x = nI u := hl.resolve_left h9
    have ec : (fx_last x).toNatClampNeg = u := by rw [eu]; exact nI_clamp (by omega)
    refine zz_aload_n G dX_moved_16 rfl ?_
    refine zz_aload_n G dX_moved_17 rfl ?_
    refine zz_get (v := .int (fx_last x)) G dX_moved_18 flX_23 rfl rfl ?_
    refine zz_aload_n G dX_moved_21 rfl ?_
    refine zz_get (v := .int (fx_acct x)) G dX_moved_22 flX_82 rfl rfl ?_
    refine zz_callVi (v := sMoved (fx_words x) ((fx_last x).toNatClampNeg) (fx_acct x)) (w' := (wx x m o)) (As := [.int (fx_last x), .int (fx_acct x)]) (rest := []) G (cx_movedBy l x m o ((fx_last x).toNatClampNeg) _ (fx_acct x) (by rw [ec, eu]) (by rw [ec]; exact hu)) kX_96 dX_moved_25 rfl rfl rfl rfl (Nat.le_of_ble_eq_true rfl) (fun _ => rfl) ⟨Nat.le_of_ble_eq_true rfl, Nat.le_of_ble_eq_true rfl⟩ ⟨Nat.le_of_ble_eq_true rfl, Nat.le_of_ble_eq_true rfl⟩ ?_
    exact zz_iret G hret dX_moved_28 (by rw [rMoved, if_pos h1, if_neg h9]) (Nat.le_of_ble_eq_true rfl) (Nat.le_of_ble_eq_true rfl)
  · refine zz_iconst (v := 0) G dX_moved_12 (by decide) ?_
    refine zz_goto (tgt := 28) G dX_moved_13 rfl ?_
    exact zz_iret G hret dX_moved_28 (by rw [rMoved, if_pos h1, if_pos h9]) (Nat.le_of_ble_eq_true rfl) (Nat.le_of_ble_eq_true rfl)
set_option maxRecDepth 100000 in
set_option maxHeartbeats 4000000 in
theorem cx_field (l : Launch) (hfl : l.flags = Jvm.pinnedFlags ++ [Jvm.noTraceFlag]) (x : XS) (m : MS) (o : Nat → Int64) (n : Nat) (en k it : Int32) (hvc : fx_vc x = nI n) (hn : n ≤ 64) : zC l yX_field (Jvm.Cond.code yX_field bX_field 5 (some .int) :: Tw) 3 true 0 0 [.ref 0, .int en, .int k, .int it] (wx x m o) (rField x m o en k it) := by
  refine zC_of [some (.ref 0), some (.int en), some (.int k), some (.int it), none] (by decide) rfl (Nat.le_of_ble_eq_true rfl) ?_
  intro p e s mm args below meth c D cI cJ as G hret hex hbd
  refine zz_aload_n G dX_field_0 rfl ?_
  by_cases h1 : fx_tam x = 0
  rotate_left
  · exact zz_thrV (As := []) (rest := []) G (cx_refuseIfTampered_no l hfl x m o h1) kX_27 dX_field_1 rfl rfl rfl rfl (Nat.le_of_ble_eq_true rfl) (fun _ => rfl) ⟨Nat.le_of_ble_eq_true rfl, Nat.le_of_ble_eq_true rfl⟩ ⟨Nat.le_of_ble_eq_true rfl, Nat.le_of_ble_eq_true rfl⟩ hex (by rw [rField, if_neg h1]; rfl) rfl rfl
  refine zz_callVv (w' := (wx x m o)) (As := []) (rest := []) G (cx_refuseIfTampered_ok l hfl x m o h1) kX_27 dX_field_1 rfl rfl rfl rfl (Nat.le_of_ble_eq_true rfl) (fun _ => rfl) ⟨Nat.le_of_ble_eq_true rfl, Nat.le_of_ble_eq_true rfl⟩ ⟨Nat.le_of_ble_eq_true rfl, Nat.le_of_ble_eq_true rfl⟩ ?_
  refine zz_iload_n G dX_field_4 rfl ?_
  refine zz_callSi (v := sWrd k) (w' := (wx x m o)) (As := [.int k]) (rest := []) G (cx_isWord l x m o k) kX_99 dX_field_5 rfl rfl (Nat.le_of_ble_eq_true rfl) (fun _ => rfl) ⟨Nat.le_of_ble_eq_true rfl, Nat.le_of_ble_eq_true rfl⟩ ⟨Nat.le_of_ble_eq_true rfl, Nat.le_of_ble_eq_true rfl⟩ ?_
  refine zz_if_eq (tgt := 19) G dX_field_8 rfl (fun h8 => ?_) (fun h8 => ?_)
  · refine zz_iconst (v := -1) G dX_field_19 (by decide) ?_
    exact zz_iret G hret dX_field_20 (by rw [rField, if_pos h1, if_pos h8]) (Nat.le_of_ble_eq_true rfl) (Nat.le_of_ble_eq_true rfl)
  · refine zz_aload_n G dX_field_11 rfl ?_
    refine zz_iload_n G dX_field_12 rfl ?_
    refine zz_callVi (v := sTime (fx_vc x) it) (w' := (wx x m o)) (As := [.int it]) (rest := []) G (cx_isTime l x m o it) kX_67 dX_field_13 rfl rfl rfl rfl (Nat.le_of_ble_eq_true rfl) (fun _ => rfl) ⟨Nat.le_of_ble_eq_true rfl, Nat.le_of_ble_eq_true rfl⟩ ⟨Nat.le_of_ble_eq_true rfl, Nat.le_of_ble_eq_true rfl⟩ ?_
    refine zz_if_ne (tgt := 21) G dX_field_16 rfl (fun h16 => ?_) (fun h16 => ?_)
    · obtain ⟨t, ht, rfl⟩ := sTime_of hn (by rw [← hvc]; exact h16)
      obtain ⟨k, hk, rfl⟩ := sWrd_of h8
      rcases hq : sLast (fx_words x) en t with _ | u
      · refine zz_aload_n G dX_field_21 rfl ?_
        refine zz_iload_n G dX_field_22 rfl ?_
        refine zz_iload_n G dX_field_23 rfl ?_
        refine zz_callVi (v := (-1)) (w' := (wx x m o)) (As := [.int en, .int (nI t)]) (rest := []) G (by have q := cx_currentVersion l x m o en _ t rfl (by omega); rw [hq] at q; exact q) kX_102 dX_field_24 rfl rfl rfl rfl (Nat.le_of_ble_eq_true rfl) (fun _ => rfl) ⟨Nat.le_of_ble_eq_true rfl, Nat.le_of_ble_eq_true rfl⟩ ⟨Nat.le_of_ble_eq_true rfl, Nat.le_of_ble_eq_true rfl⟩ ?_
        refine zz_istore (lv' := [some (.ref 0), some (.int en), some (.int (nI k)), some (.int (nI t)), some (.int (-1))]) G dX_field_27 (Nat.le_of_ble_eq_true rfl) rfl ?_
        refine zz_iload G dX_field_29 rfl ?_
        refine zz_iconst (v := -1) G dX_field_31 (by decide) ?_
        refine zz_icmp_ne (tgt := 39) G dX_field_32 rfl (fun h32 => (h32 rfl).elim) (fun h32 => ?_)
        refine zz_iconst (v := -1) G dX_field_35 (by decide) ?_
        refine zz_goto (tgt := 46) G dX_field_36 rfl ?_
        exact zz_iret G hret dX_field_46 (by rw [rField, if_pos h1, if_neg h8, if_neg h16, nI_clamp (show t < 2 ^ 31 by omega), hq]) (Nat.le_of_ble_eq_true rfl) (Nat.le_of_ble_eq_true rfl)
      · have hu : u < t := (mL_lt t hq).1
        refine zz_aload_n G dX_field_21 rfl ?_
        refine zz_iload_n G dX_field_22 rfl ?_
        refine zz_iload_n G dX_field_23 rfl ?_
        refine zz_callVi (v := nI u) (w' := (wx x m o)) (As := [.int en, .int (nI t)]) (rest := []) G (by have q := cx_currentVersion l x m o en _ t rfl (by omega); rw [hq] at q; exact q) kX_102 dX_field_24 rfl rfl rfl rfl (Nat.le_of_ble_eq_true rfl) (fun _ => rfl) ⟨Nat.le_of_ble_eq_true rfl, Nat.le_of_ble_eq_true rfl⟩ ⟨Nat.le_of_ble_eq_true rfl, Nat.le_of_ble_eq_true rfl⟩ ?_
        refine zz_istore (lv' := [some (.ref 0), some (.int en), some (.int (nI k)), some (.int (nI t)), some (.int (nI u))]) G dX_field_27 (Nat.le_of_ble_eq_true rfl) rfl ?_
        refine zz_iload G dX_field_29 rfl ?_
        refine zz_iconst (v := -1) G dX_field_31 (by decide) ?_
        refine zz_icmp_ne (tgt := 39) G dX_field_32 rfl (fun h32 => ?_) (fun h32 => (nI_m1 (by omega) h32).elim)
        refine zz_aload_n G dX_field_39 rfl ?_
        refine zz_iload G dX_field_40 rfl ?_
        refine zz_iload_n G dX_field_42 rfl ?_
        refine zz_callVi (v := fx_words x (6 * u + k)) (w' := (wx x m o)) (As := [.int (nI u), .int (nI k)]) (rest := []) G (cx_word l x m o u k _ _ rfl rfl (by omega) (hk)) kX_59 dX_field_43 rfl rfl rfl rfl (Nat.le_of_ble_eq_true rfl) (fun _ => rfl) ⟨Nat.le_of_ble_eq_true rfl, Nat.le_of_ble_eq_true rfl⟩ ⟨Nat.le_of_ble_eq_true rfl, Nat.le_of_ble_eq_true rfl⟩ ?_
        exact zz_iret G hret dX_field_46 (by rw [rField, if_pos h1, if_neg h8, if_neg h16, nI_clamp (show t < 2 ^ 31 by omega), hq]; show Sum.inl (some (Value.int (fx_words x (6 * u + (nI k).toNatClampNeg))), wx x m o) = _; rw [nI_clamp (show k < 2 ^ 31 by omega)]) (Nat.le_of_ble_eq_true rfl) (Nat.le_of_ble_eq_true rfl)
    · refine zz_iconst (v := -1) G dX_field_19 (by decide) ?_
      exact zz_iret G hret dX_field_20 (by rw [rField, if_pos h1, if_neg h8, if_pos h16]) (Nat.le_of_ble_eq_true rfl) (Nat.le_of_ble_eq_true rfl)
set_option maxRecDepth 100000 in
set_option maxHeartbeats 4000000 in
theorem cx_entries (l : Launch) (hfl : l.flags = Jvm.pinnedFlags ++ [Jvm.noTraceFlag]) (x : XS) (m : MS) (o : Nat → Int64)  : zC l yX_entries (Jvm.Cond.code yX_entries bX_entries 1 (some .int) :: Tw) 3 true 0 0 [.ref 0] (wx x m o) (rEnt x m o) := by
  refine zC_of [some (.ref 0)] (by decide) rfl (Nat.le_of_ble_eq_true rfl) ?_
  intro p e s mm args below meth c D cI cJ as G hret hex hbd
  refine zz_aload_n G dX_entries_0 rfl ?_
  by_cases h1 : fx_tam x = 0
  rotate_left
  · exact zz_thrV (As := []) (rest := []) G (cx_refuseIfTampered_no l hfl x m o h1) kX_27 dX_entries_1 rfl rfl rfl rfl (Nat.le_of_ble_eq_true rfl) (fun _ => rfl) ⟨Nat.le_of_ble_eq_true rfl, Nat.le_of_ble_eq_true rfl⟩ ⟨Nat.le_of_ble_eq_true rfl, Nat.le_of_ble_eq_true rfl⟩ hex (by rw [rEnt, if_neg h1]; rfl) rfl rfl
  refine zz_callVv (w' := (wx x m o)) (As := []) (rest := []) G (cx_refuseIfTampered_ok l hfl x m o h1) kX_27 dX_entries_1 rfl rfl rfl rfl (Nat.le_of_ble_eq_true rfl) (fun _ => rfl) ⟨Nat.le_of_ble_eq_true rfl, Nat.le_of_ble_eq_true rfl⟩ ⟨Nat.le_of_ble_eq_true rfl, Nat.le_of_ble_eq_true rfl⟩ ?_
  refine zz_aload_n G dX_entries_4 rfl ?_
  refine zz_get (v := .int (fx_ec x)) G dX_entries_5 flX_48 rfl rfl ?_
  exact zz_iret G hret dX_entries_8 (by rw [rEnt, if_pos h1]) (Nat.le_of_ble_eq_true rfl) (Nat.le_of_ble_eq_true rfl)
set_option maxRecDepth 100000 in
set_option maxHeartbeats 4000000 in
theorem cx_clock (l : Launch) (x : XS) (m : MS) (o : Nat → Int64)  : zC l yX_clock (Jvm.Cond.code yX_clock bX_clock 1 (some .int) :: Tw) 0 true 0 0 [.ref 0] (wx x m o) (.inl (some (.int (fx_vc x)), wx x m o)) := by
  refine zC_of [some (.ref 0)] (by decide) rfl (Nat.le_of_ble_eq_true rfl) ?_
  intro p e s mm args below meth c D cI cJ as G hret hex hbd
  refine zz_aload_n G dX_clock_0 rfl ?_
  refine zz_get (v := .int (fx_vc x)) G dX_clock_1 flX_105 rfl rfl ?_
  exact zz_iret G hret dX_clock_4 (rfl) (Nat.le_of_ble_eq_true rfl) (Nat.le_of_ble_eq_true rfl)
set_option maxRecDepth 100000 in
set_option maxHeartbeats 4000000 in
theorem cx_head (l : Launch) (x : XS) (m : MS) (o : Nat → Int64) (n : Nat) (hvc : fx_vc x = nI n) (hn : n ≤ 64) : zC l yX_head (Jvm.Cond.code yX_head bX_head 1 (some .long) :: Tw) 1 true 0 0 [.ref 0] (wx x m o) (.inl (some (.long (sBef (fx_links x) n)), wx x m o)) := by
  refine zC_of [some (.ref 0)] (by decide) rfl (Nat.le_of_ble_eq_true rfl) ?_
  intro p e s mm args below meth c D cI cJ as G hret hex hbd
  refine zz_aload_n G dX_head_0 rfl ?_
  refine zz_aload_n G dX_head_1 rfl ?_
  refine zz_get (v := .int (nI n)) G dX_head_2 flX_105 rfl (by rw [← hvc]; rfl) ?_
  refine zz_callVl (v := sBef (fx_links x) n) (w' := (wx x m o)) (As := [.int (nI n)]) (rest := []) G (cx_linkBefore l x m o n _ rfl (hn)) kX_108 dX_head_5 rfl rfl rfl rfl (Nat.le_of_ble_eq_true rfl) (fun _ => rfl) ⟨Nat.le_of_ble_eq_true rfl, Nat.le_of_ble_eq_true rfl⟩ ⟨Nat.le_of_ble_eq_true rfl, Nat.le_of_ble_eq_true rfl⟩ ?_
  exact zz_lret G hret dX_head_8 (rfl) (Nat.le_of_ble_eq_true rfl) (Nat.le_of_ble_eq_true rfl)
set_option maxRecDepth 100000 in
set_option maxHeartbeats 4000000 in
theorem cx_verify (l : Launch) (x : XS) (m : MS) (o : Nat → Int64) (n : Nat) (hvc : fx_vc x = nI n) (hn : n ≤ 64) : zC l yX_verify (Jvm.Cond.code yX_verify bX_verify 2 (some .int) :: Tw) 2 true 0 0 [.ref 0] (wx x m o) (.inl (some (.int (sVfy (fx_words x) (fx_links x) 0 n)), wx x m o)) := by
  refine zC_of [some (.ref 0), none] (by decide) rfl (Nat.le_of_ble_eq_true rfl) ?_
  intro p e s mm args below meth c D cI cJ as G hret hex hbd
  have loop : ∀ (d v : Nat), v + d = n → sVfy (fx_words x) (fx_links x) v d = sVfy (fx_words x) (fx_links x) 0 n → Z p l e (zrm 2) s mm args below meth c 2 D cI cJ as true 0 0 (zMQ below (.inl (some (.int (sVfy (fx_words x) (fx_links x) 0 n)), wx x m o)) D cI cJ as true s 0 0) 2 [some (.ref 0), some (.int (nI v))] [] (wx x m o) := by
    intro d
    induction d with
    | zero =>
      intro v hv hq
      have hv : n = v := by omega
      subst hv
      refine zz_iload_n G dX_verify_2 rfl ?_
      refine zz_aload_n G dX_verify_3 rfl ?_
      refine zz_get (v := .int (nI n)) G dX_verify_4 flX_105 rfl (by rw [← hvc]; rfl) ?_
      refine zz_icmp_ge (tgt := 35) G dX_verify_7 rfl (fun h7 => ?_) (fun h7 => (h7 (nI_le (Nat.le_refl _) (by omega))).elim)
      refine zz_iconst (v := 0) G dX_verify_35 (by decide) ?_
      exact zz_iret G hret dX_verify_36 (by rw [← hq]; rfl) (Nat.le_of_ble_eq_true rfl) (Nat.le_of_ble_eq_true rfl)
    | succ d ih =>
      intro v hv hq
      refine zz_iload_n G dX_verify_2 rfl ?_
      refine zz_aload_n G dX_verify_3 rfl ?_
      refine zz_get (v := .int (nI n)) G dX_verify_4 flX_105 rfl (by rw [← hvc]; rfl) ?_
      refine zz_icmp_ge (tgt := 35) G dX_verify_7 rfl (fun h7 => (nI_ge (by omega) (by omega) h7).elim) (fun h7 => ?_)
      refine zz_aload_n G dX_verify_10 rfl ?_
      refine zz_iload_n G dX_verify_11 rfl ?_
      refine zz_callVl (v := sLnk (fx_words x) v (sBef (fx_links x) v) 6) (w' := (wx x m o)) (As := [.int (nI v)]) (rest := []) G (cx_linkOfWords l x m o v _ rfl (by omega)) kX_112 dX_verify_12 rfl rfl rfl rfl (Nat.le_of_ble_eq_true rfl) (fun _ => rfl) ⟨Nat.le_of_ble_eq_true rfl, Nat.le_of_ble_eq_true rfl⟩ ⟨Nat.le_of_ble_eq_true rfl, Nat.le_of_ble_eq_true rfl⟩ ?_
      refine zz_aload_n G dX_verify_15 rfl ?_
      refine zz_get (v := .ref 2) G dX_verify_16 flX_13 rfl rfl ?_
      refine zz_iload_n G dX_verify_19 rfl ?_
      refine zz_lald (v := fx_links x v) G dX_verify_20 rfl (i1_in (by omega)) (by rw [i1_at (by omega)]) ?_
      refine zz_lcmp G dX_verify_21 ?_
      refine zz_if_eq (tgt := 29) G dX_verify_22 rfl (fun h22 => ?_) (fun h22 => ?_)
      · refine zz_iinc (v := nI (v + 1)) (lv' := [some (.ref 0), some (.int (nI (v + 1)))]) G dX_verify_29 rfl (by rw [nI_succ]; rfl) rfl ?_
        refine zz_goto (tgt := 2) G dX_verify_32 rfl ?_
        refine ih (v + 1) (by omega) ?_
        rw [← hq]
        show _ = (if sLnk (fx_words x) v (sBef (fx_links x) v) 6 = fx_links x v then _ else _)
        rw [if_pos ((lg_cmp_eq _ _).mp h22)]
      · refine zz_iload_n G dX_verify_25 rfl ?_
        refine zz_iconst (v := 1) G dX_verify_26 (by decide) ?_
        refine zz_iadd G dX_verify_27 ?_
        exact zz_iret G hret dX_verify_28 (by rw [← hq, show sVfy (fx_words x) (fx_links x) v (d + 1) = nI v + 1 from by show (if sLnk (fx_words x) v (sBef (fx_links x) v) 6 = fx_links x v then _ else _) = _; rw [if_neg (fun z => h22 ((lg_cmp_eq _ _).mpr z))]]) (Nat.le_of_ble_eq_true rfl) (Nat.le_of_ble_eq_true rfl)
  refine zz_iconst (v := 0) G dX_verify_0 (by decide) ?_
  refine zz_istore_n (lv' := [some (.ref 0), some (.int 0)]) G dX_verify_1 (Nat.le_of_ble_eq_true rfl) rfl ?_
  exact loop n 0 (by omega) rfl
set_option maxRecDepth 100000 in
set_option maxHeartbeats 4000000 in
theorem cx_tamper (l : Launch) (x : XS) (m : MS) (o : Nat → Int64) (n : Nat) (v k b : Int32) (hvc : fx_vc x = nI n) (hn : n ≤ 64) : zC l yX_tamper (Jvm.Cond.code yX_tamper bX_tamper 4 (some .boolean) :: Tw) 1 false 0 0 [.ref 0, .int v, .int k, .int b] (wx x m o) (rTamp x m o v k b) := by
  refine zC_of [some (.ref 0), some (.int v), some (.int k), some (.int b)] (by decide) rfl (Nat.le_of_ble_eq_true rfl) ?_
  intro p e s mm args below meth c D cI cJ as G hret hex hbd
  refine zz_aload_n G dX_tamper_0 rfl ?_
  refine zz_iload_n G dX_tamper_1 rfl ?_
  refine zz_callVi (v := sVer (fx_vc x) v) (w' := (wx x m o)) (As := [.int v]) (rest := []) G (cx_isVersion l x m o v) kX_115 dX_tamper_2 rfl rfl rfl rfl (Nat.le_of_ble_eq_true rfl) (fun _ => rfl) ⟨Nat.le_of_ble_eq_true rfl, Nat.le_of_ble_eq_true rfl⟩ ⟨Nat.le_of_ble_eq_true rfl, Nat.le_of_ble_eq_true rfl⟩ ?_
  refine zz_if_eq (tgt := 15) G dX_tamper_5 rfl (fun h5 => ?_) (fun h5 => ?_)
  · refine zz_iconst (v := 0) G dX_tamper_15 (by decide) ?_
    exact zz_zret G hret dX_tamper_16 rfl (by rw [rTamp, if_pos h5]) (Nat.le_of_ble_eq_true rfl) (Nat.le_of_ble_eq_true rfl)
  · refine zz_iload_n G dX_tamper_8 rfl ?_
    refine zz_callSi (v := sWrd k) (w' := (wx x m o)) (As := [.int k]) (rest := []) G (cx_isWord l x m o k) kX_99 dX_tamper_9 rfl rfl (Nat.le_of_ble_eq_true rfl) (fun _ => rfl) ⟨Nat.le_of_ble_eq_true rfl, Nat.le_of_ble_eq_true rfl⟩ ⟨Nat.le_of_ble_eq_true rfl, Nat.le_of_ble_eq_true rfl⟩ ?_
    refine zz_if_ne (tgt := 17) G dX_tamper_12 rfl (fun h12 => ?_) (fun h12 => ?_)
    · obtain ⟨v, hv, rfl⟩ := sVer_of hn (by rw [← hvc]; exact h5)
      obtain ⟨k, hk, rfl⟩ := sWrd_of h12
      refine zz_aload_n G dX_tamper_17 rfl ?_
      refine zz_get (v := .ref 1) G dX_tamper_18 flX_9 rfl rfl ?_
      refine zz_iload_n G dX_tamper_21 rfl ?_
      refine zz_bipush (v := 6) G dX_tamper_22 (by decide) ?_
      refine zz_imul G dX_tamper_24 ?_
      refine zz_iload_n G dX_tamper_25 rfl ?_
      refine zz_iadd G dX_tamper_26 ?_
      refine zz_iload_n G dX_tamper_27 rfl ?_
      refine zz_iast (w' := (wx (sx_words x (upd (fx_words x) (6 * v + k) b)) m o)) rfl G dX_tamper_28 rfl (ix_in (by omega) hk) (by rw [ix_at (by omega) hk]; rfl) ?_
      refine zz_aload_n G dX_tamper_29 rfl ?_
      refine zz_iconst (v := 1) G dX_tamper_30 (by decide) ?_
      refine zz_put (w' := (wx (sx_tam (sx_words x (upd (fx_words x) (6 * v + k) b)) 1) m o)) rfl G dX_tamper_31 flX_118 rfl rfl rfl (Nat.le_of_ble_eq_true rfl) rfl ?_
      refine zz_iconst (v := 1) G dX_tamper_34 (by decide) ?_
      exact zz_zret G hret dX_tamper_35 rfl (by rw [rTamp, if_neg h5, if_neg h12, nI_clamp (show v < 2 ^ 31 by omega), nI_clamp (show k < 2 ^ 31 by omega)]) (Nat.le_of_ble_eq_true rfl) (Nat.le_of_ble_eq_true rfl)
    · refine zz_iconst (v := 0) G dX_tamper_15 (by decide) ?_
      exact zz_zret G hret dX_tamper_16 rfl (by rw [rTamp, if_neg h5, if_pos h12]) (Nat.le_of_ble_eq_true rfl) (Nat.le_of_ble_eq_true rfl)
end
section
set_option maxRecDepth 100000 in
set_option maxHeartbeats 4000000 in
theorem cm_isAccount (l : Launch) (x : XS) (m : MS) (o : Nat → Int64) (a : Int32) : zC l yM_isAccount (Jvm.Cond.code yM_isAccount bM_isAccount 1 (some .boolean) :: Tw) 0 true 0 0 [.int a] (wx x m o) (.inl (some (.int (sAcc a)), wx x m o)) := by
  refine zC_of [some (.int a)] (by decide) rfl (Nat.le_of_ble_eq_true rfl) ?_
  intro p e s mm args below meth c D cI cJ as G hret hex hbd
  refine zz_iload_n G dM_isAccount_0 rfl ?_
  refine zz_if_lt (tgt := 14) G dM_isAccount_1 rfl (fun h1 => ?_) (fun h1 => ?_)
  · refine zz_iconst (v := 0) G dM_isAccount_14 (by decide) ?_
    exact zz_zret G hret dM_isAccount_15 rfl (by rw [show sAcc a = 0 from by rw [sAcc, if_pos h1]]) (Nat.le_of_ble_eq_true rfl) (Nat.le_of_ble_eq_true rfl)
  · refine zz_iload_n G dM_isAccount_4 rfl ?_
    refine zz_bipush (v := 16) G dM_isAccount_5 (by decide) ?_
    refine zz_icmp_ge (tgt := 14) G dM_isAccount_7 rfl (fun h7 => ?_) (fun h7 => ?_)
    · refine zz_iconst (v := 0) G dM_isAccount_14 (by decide) ?_
      exact zz_zret G hret dM_isAccount_15 rfl (by rw [show sAcc a = 0 from by rw [sAcc, if_neg h1, if_pos h7]]) (Nat.le_of_ble_eq_true rfl) (Nat.le_of_ble_eq_true rfl)
    · refine zz_iconst (v := 1) G dM_isAccount_10 (by decide) ?_
      refine zz_goto (tgt := 15) G dM_isAccount_11 rfl ?_
      exact zz_zret G hret dM_isAccount_15 rfl (by rw [show sAcc a = 1 from by rw [sAcc, if_neg h1, if_neg h7]]) (Nat.le_of_ble_eq_true rfl) (Nat.le_of_ble_eq_true rfl)
set_option maxRecDepth 100000 in
set_option maxHeartbeats 4000000 in
theorem cm_isDay (l : Launch) (x : XS) (m : MS) (o : Nat → Int64) (a : Int32) : zC l yM_isDay (Jvm.Cond.code yM_isDay bM_isDay 1 (some .boolean) :: Tw) 0 true 0 0 [.int a] (wx x m o) (.inl (some (.int (sDay a)), wx x m o)) := by
  refine zC_of [some (.int a)] (by decide) rfl (Nat.le_of_ble_eq_true rfl) ?_
  intro p e s mm args below meth c D cI cJ as G hret hex hbd
  refine zz_iload_n G dM_isDay_0 rfl ?_
  refine zz_if_lt (tgt := 15) G dM_isDay_1 rfl (fun h1 => ?_) (fun h1 => ?_)
  · refine zz_iconst (v := 0) G dM_isDay_15 (by decide) ?_
    exact zz_zret G hret dM_isDay_16 rfl (by rw [show sDay a = 0 from by rw [sDay, if_pos h1]]) (Nat.le_of_ble_eq_true rfl) (Nat.le_of_ble_eq_true rfl)
  · refine zz_iload_n G dM_isDay_4 rfl ?_
    refine zz_sipush (v := 1000) G dM_isDay_5 (by decide) ?_
    refine zz_icmp_ge (tgt := 15) G dM_isDay_8 rfl (fun h8 => ?_) (fun h8 => ?_)
    · refine zz_iconst (v := 0) G dM_isDay_15 (by decide) ?_
      exact zz_zret G hret dM_isDay_16 rfl (by rw [show sDay a = 0 from by rw [sDay, if_neg h1, if_pos h8]]) (Nat.le_of_ble_eq_true rfl) (Nat.le_of_ble_eq_true rfl)
    · refine zz_iconst (v := 1) G dM_isDay_11 (by decide) ?_
      refine zz_goto (tgt := 16) G dM_isDay_12 rfl ?_
      exact zz_zret G hret dM_isDay_16 rfl (by rw [show sDay a = 1 from by rw [sDay, if_neg h1, if_neg h8]]) (Nat.le_of_ble_eq_true rfl) (Nat.le_of_ble_eq_true rfl)
set_option maxRecDepth 100000 in
set_option maxHeartbeats 4000000 in
theorem cm_isTime (l : Launch) (x : XS) (m : MS) (o : Nat → Int64) (a : Int32) : zC l yM_isTime (Jvm.Cond.code yM_isTime bM_isTime 2 (some .boolean) :: Tw) 0 true 0 0 [.ref 5, .int a] (wx x m o) (.inl (some (.int (sTime (fm_clock m) a)), wx x m o)) := by
  refine zC_of [some (.ref 5), some (.int a)] (by decide) rfl (Nat.le_of_ble_eq_true rfl) ?_
  intro p e s mm args below meth c D cI cJ as G hret hex hbd
  refine zz_iload_n G dM_isTime_0 rfl ?_
  refine zz_if_lt (tgt := 16) G dM_isTime_1 rfl (fun h1 => ?_) (fun h1 => ?_)
  · refine zz_iconst (v := 0) G dM_isTime_16 (by decide) ?_
    exact zz_zret G hret dM_isTime_17 rfl (by rw [show sTime (fm_clock m) a = 0 from by rw [sTime, if_pos h1]]) (Nat.le_of_ble_eq_true rfl) (Nat.le_of_ble_eq_true rfl)
  · refine zz_iload_n G dM_isTime_4 rfl ?_
    refine zz_aload_n G dM_isTime_5 rfl ?_
    refine zz_get (v := .int (fm_clock m)) G dM_isTime_6 flM_27 rfl rfl ?_
    refine zz_icmp_gt (tgt := 16) G dM_isTime_9 rfl (fun h9 => ?_) (fun h9 => ?_)
    · refine zz_iconst (v := 0) G dM_isTime_16 (by decide) ?_
      exact zz_zret G hret dM_isTime_17 rfl (by rw [show sTime (fm_clock m) a = 0 from by rw [sTime, if_neg h1, if_pos h9]]) (Nat.le_of_ble_eq_true rfl) (Nat.le_of_ble_eq_true rfl)
    · refine zz_iconst (v := 1) G dM_isTime_12 (by decide) ?_
      refine zz_goto (tgt := 17) G dM_isTime_13 rfl ?_
      exact zz_zret G hret dM_isTime_17 rfl (by rw [show sTime (fm_clock m) a = 1 from by rw [sTime, if_neg h1, if_neg h9]]) (Nat.le_of_ble_eq_true rfl) (Nat.le_of_ble_eq_true rfl)
set_option maxRecDepth 100000 in
set_option maxHeartbeats 4000000 in
theorem cm_word (l : Launch) (x : XS) (m : MS) (o : Nat → Int64) (a k : Nat) (iv ik : Int32) (hv : iv = nI a) (hk : ik = nI k) (ha : a < 64) (hk6 : k < 6) : zC l yM_word (Jvm.Cond.code yM_word bM_word 3 (some .int) :: Tw) 0 true 0 0 [.ref 5, .int iv, .int ik] (wx x m o) (.inl (some (.int (fm_words m (6 * a + k))), wx x m o)) := by
  subst hv
  subst hk
  refine zC_of [some (.ref 5), some (.int (nI a)), some (.int (nI k))] (by decide) rfl (Nat.le_of_ble_eq_true rfl) ?_
  intro p e s mm args below meth c D cI cJ as G hret hex hbd
  refine zz_aload_n G dM_word_0 rfl ?_
  refine zz_get (v := .ref 6) G dM_word_1 flM_7 rfl rfl ?_
  refine zz_bipush (v := 6) G dM_word_4 (by decide) ?_
  refine zz_iload_n G dM_word_6 rfl ?_
  refine zz_imul G dM_word_7 ?_
  refine zz_iload_n G dM_word_8 rfl ?_
  refine zz_iadd G dM_word_9 ?_
  refine zz_iald (v := fm_words m (6 * a + k)) G dM_word_10 rfl (iy_in ha hk6) (by rw [iy_at ha hk6]) ?_
  exact zz_iret G hret dM_word_11 (rfl) (Nat.le_of_ble_eq_true rfl) (Nat.le_of_ble_eq_true rfl)
set_option maxRecDepth 100000 in
set_option maxHeartbeats 4000000 in
theorem cm_thrown (l : Launch) (x : XS) (m : MS) (o : Nat → Int64)  : zC l yM_thrown (Jvm.Cond.code yM_thrown bM_thrown 1 (some .int) :: Tw) 0 true 0 0 [.ref 5] (wx x m o) (.inl (some (.int (fm_code m)), wx x m o)) := by
  refine zC_of [some (.ref 5)] (by decide) rfl (Nat.le_of_ble_eq_true rfl) ?_
  intro p e s mm args below meth c D cI cJ as G hret hex hbd
  refine zz_aload_n G dM_thrown_0 rfl ?_
  refine zz_get (v := .int (fm_code m)) G dM_thrown_1 flM_23 rfl rfl ?_
  exact zz_iret G hret dM_thrown_4 (rfl) (Nat.le_of_ble_eq_true rfl) (Nat.le_of_ble_eq_true rfl)
set_option maxRecDepth 100000 in
set_option maxHeartbeats 4000000 in
theorem cm_currentAt (l : Launch) (x : XS) (m : MS) (o : Nat → Int64) (en it : Int32) (t : Nat) (hit : it = nI t) (ht : t ≤ 64) : zC l yM_currentAt (Jvm.Cond.code yM_currentAt bM_currentAt 4 (some .int) :: Tw) 1 true 0 0 [.ref 5, .int en, .int it] (wx x m o) (.inl (some (.int (sCv (sLast (fm_words m) en t))), wx x m o)) := by
  subst hit
  refine zC_of [some (.ref 5), some (.int en), some (.int (nI t)), none] (by decide) rfl (Nat.le_of_ble_eq_true rfl) ?_
  intro p e s mm args below meth c D cI cJ as G hret hex hbd
  have loop : ∀ v : Nat, v ≤ 64 → sLast (fm_words m) en v = sLast (fm_words m) en t → Z p l e (zrm 1) s mm args below meth c 4 D cI cJ as true 0 0 (zMQ below (.inl (some (.int (sCv (sLast (fm_words m) en t))), wx x m o)) D cI cJ as true s 0 0) 4 [some (.ref 5), some (.int en), some (.int (nI t)), some (.int (nI v - 1))] [] (wx x m o) := by
    intro v
    induction v with
    | zero =>
      intro hv hq
      refine zz_iload_n G dM_currentAt_4 rfl ?_
      refine zz_if_lt (tgt := 25) G dM_currentAt_5 rfl (fun h5 => ?_) (fun h5 => (h5 (by decide)).elim)
      refine zz_iload_n G dM_currentAt_25 rfl ?_
      exact zz_iret G hret dM_currentAt_26 (by rw [← hq] <;> rfl) (Nat.le_of_ble_eq_true rfl) (Nat.le_of_ble_eq_true rfl)
    | succ v ih =>
      intro hv hq
      refine zz_eq (lv' := [some (.ref 5), some (.int en), some (.int (nI t)), some (.int (nI v))]) rfl (by rw [nI_pred]) rfl rfl ?_
      refine zz_iload_n G dM_currentAt_4 rfl ?_
      refine zz_if_lt (tgt := 25) G dM_currentAt_5 rfl (fun h5 => (nI_pos (by omega) h5).elim) (fun h5 => ?_)
      refine zz_aload_n G dM_currentAt_8 rfl ?_
      refine zz_iload_n G dM_currentAt_9 rfl ?_
      refine zz_iconst (v := 1) G dM_currentAt_10 (by decide) ?_
      refine zz_callVi (v := fm_words m (6 * v + 1)) (w' := (wx x m o)) (As := [.int (nI v), .int 1]) (rest := []) G (cm_word l x m o v 1 _ _ rfl rfl (by omega) (by decide)) kM_30 dM_currentAt_11 rfl rfl rfl rfl (Nat.le_of_ble_eq_true rfl) (fun _ => rfl) ⟨Nat.le_of_ble_eq_true rfl, Nat.le_of_ble_eq_true rfl⟩ ⟨Nat.le_of_ble_eq_true rfl, Nat.le_of_ble_eq_true rfl⟩ ?_
      refine zz_iload_n G dM_currentAt_14 rfl ?_
      refine zz_icmp_eq (tgt := 25) G dM_currentAt_15 rfl (fun h15 => ?_) (fun h15 => ?_)
      · refine zz_iload_n G dM_currentAt_25 rfl ?_
        exact zz_iret G hret dM_currentAt_26 (by rw [← hq, show sLast (fm_words m) en (v + 1) = some v from by show mL _ _ (v + 1) = _; rw [mL_s, if_pos (show fE (fm_words m) v = en from h15)]] <;> rfl) (Nat.le_of_ble_eq_true rfl) (Nat.le_of_ble_eq_true rfl)
      · refine zz_iload_n G dM_currentAt_18 rfl ?_
        refine zz_iconst (v := 1) G dM_currentAt_19 (by decide) ?_
        refine zz_isub G dM_currentAt_20 ?_
        refine zz_istore_n (lv' := [some (.ref 5), some (.int en), some (.int (nI t)), some (.int ((nI v) - 1))]) G dM_currentAt_21 (Nat.le_of_ble_eq_true rfl) rfl ?_
        refine zz_goto (tgt := 4) G dM_currentAt_22 rfl ?_
        refine ih (by omega) ?_
        rw [← hq]
        show _ = mL _ _ (v + 1)
        rw [mL_s, if_neg (show ¬ fE (fm_words m) v = en from h15)]
        rfl
  refine zz_iload_n G dM_currentAt_0 rfl ?_
  refine zz_iconst (v := 1) G dM_currentAt_1 (by decide) ?_
  refine zz_isub G dM_currentAt_2 ?_
  refine zz_istore_n (lv' := [some (.ref 5), some (.int en), some (.int (nI t)), some (.int ((nI t) - 1))]) G dM_currentAt_3 (Nat.le_of_ble_eq_true rfl) rfl ?_
  exact loop t ht rfl
set_option maxRecDepth 100000 in
set_option maxHeartbeats 4000000 in
theorem cm_follow (l : Launch) (x : XS) (m : MS) (o : Nat → Int64) (h : Int64) (b : Int32) : zC l yM_follow (Jvm.Cond.code yM_follow bM_follow 3 (some .long) :: Tw) 0 true 0 0 [.long h, .int b] (wx x m o) (.inl (some (.long (sFol h b)), wx x m o)) := by
  refine zC_of [some (.long h), none, some (.int b)] (by decide) rfl (Nat.le_of_ble_eq_true rfl) ?_
  intro p e s mm args below meth c D cI cJ as G hret hex hbd
  refine zz_lload_n G dM_follow_0 rfl ?_
  refine zz_lload_n G dM_follow_1 rfl ?_
  refine zz_bipush (v := 27) G dM_follow_2 (by decide) ?_
  refine zz_lushr (v := sUsr h) G dM_follow_4 rfl ?_
  refine zz_lxor G dM_follow_5 ?_
  refine zz_ldc2 (v := 2685821657736338717) G dM_follow_6 tw_505 ?_
  refine zz_lmul G dM_follow_9 ?_
  refine zz_iload_n G dM_follow_10 rfl ?_
  refine zz_i2l G dM_follow_11 ?_
  refine zz_ladd G dM_follow_12 ?_
  exact zz_lret G hret dM_follow_13 (rfl) (Nat.le_of_ble_eq_true rfl) (Nat.le_of_ble_eq_true rfl)
set_option maxRecDepth 100000 in
set_option maxHeartbeats 4000000 in
theorem cm_linkOf (l : Launch) (x : XS) (m : MS) (o : Nat → Int64) (a : Nat) (iv : Int32) (h : Int64) (hiv : iv = nI a) (ha : a < 64) : zC l yM_linkOf (Jvm.Cond.code yM_linkOf bM_linkOf 7 (some .long) :: Tw) 1 true 0 0 [.ref 5, .int iv, .long h] (wx x m o) (.inl (some (.long (sLnk (fm_words m) a h 6)), wx x m o)) := by
  subst hiv
  refine zC_of [some (.ref 5), some (.int (nI a)), some (.long h), none, none, none, none] (by decide) rfl (Nat.le_of_ble_eq_true rfl) ?_
  intro p e s mm args below meth c D cI cJ as G hret hex hbd
  have loop : ∀ (d k : Nat), k + d = 6 → Z p l e (zrm 1) s mm args below meth c 7 D cI cJ as true 0 0 (zMQ below (.inl (some (.long (sLnk (fm_words m) a h 6)), wx x m o)) D cI cJ as true s 0 0) 6 [some (.ref 5), some (.int (nI a)), some (.long h), none, some (.long (sLnk (fm_words m) a h k)), none, some (.int (nI k))] [] (wx x m o) := by
    intro d
    induction d with
    | zero =>
      intro k hk
      have hk : k = 6 := by omega
      subst hk
      refine zz_iload G dM_linkOf_6 rfl ?_
      refine zz_bipush (v := 6) G dM_linkOf_8 (by decide) ?_
      refine zz_icmp_ge (tgt := 33) G dM_linkOf_10 rfl (fun h10 => ?_) (fun h10 => (h10 (by decide)).elim)
      refine zz_lload G dM_linkOf_33 rfl ?_
      exact zz_lret G hret dM_linkOf_35 (rfl) (Nat.le_of_ble_eq_true rfl) (Nat.le_of_ble_eq_true rfl)
    | succ d ih =>
      intro k hk
      refine zz_iload G dM_linkOf_6 rfl ?_
      refine zz_bipush (v := 6) G dM_linkOf_8 (by decide) ?_
      refine zz_icmp_ge (tgt := 33) G dM_linkOf_10 rfl (fun h10 => (nI_ge (show k < 6 by omega) (by decide) h10).elim) (fun h10 => ?_)
      refine zz_lload G dM_linkOf_13 rfl ?_
      refine zz_aload_n G dM_linkOf_15 rfl ?_
      refine zz_iload_n G dM_linkOf_16 rfl ?_
      refine zz_iload G dM_linkOf_17 rfl ?_
      refine zz_callVi (v := fm_words m (6 * a + k)) (w' := (wx x m o)) (As := [.int (nI a), .int (nI k)]) (rest := [.long (sLnk (fm_words m) a h k)]) G (cm_word l x m o a k _ _ rfl rfl (ha) (by omega)) kM_30 dM_linkOf_19 rfl rfl rfl rfl (Nat.le_of_ble_eq_true rfl) (fun _ => rfl) ⟨Nat.le_of_ble_eq_true rfl, Nat.le_of_ble_eq_true rfl⟩ ⟨Nat.le_of_ble_eq_true rfl, Nat.le_of_ble_eq_true rfl⟩ ?_
      refine zz_callSl (v := sFol (sLnk (fm_words m) a h k) (fm_words m (6 * a + k))) (w' := (wx x m o)) (As := [.long (sLnk (fm_words m) a h k), .int (fm_words m (6 * a + k))]) (rest := []) G (cm_follow l x m o (sLnk (fm_words m) a h k) (fm_words m (6 * a + k))) kM_36 dM_linkOf_22 rfl rfl (Nat.le_of_ble_eq_true rfl) (fun _ => rfl) ⟨Nat.le_of_ble_eq_true rfl, Nat.le_of_ble_eq_true rfl⟩ ⟨Nat.le_of_ble_eq_true rfl, Nat.le_of_ble_eq_true rfl⟩ ?_
      refine zz_lstore (lv' := [some (.ref 5), some (.int (nI a)), some (.long h), none, some (.long (sFol (sLnk (fm_words m) a h k) (fm_words m (6 * a + k)))), none, some (.int (nI k))]) G dM_linkOf_25 (Nat.le_of_ble_eq_true rfl) rfl ?_
      refine zz_iinc (v := nI (k + 1)) (lv' := [some (.ref 5), some (.int (nI a)), some (.long h), none, some (.long (sFol (sLnk (fm_words m) a h k) (fm_words m (6 * a + k)))), none, some (.int (nI (k + 1)))]) G dM_linkOf_27 rfl (by rw [nI_succ] <;> rfl) rfl ?_
      refine zz_goto (tgt := 6) G dM_linkOf_30 rfl ?_
      refine zz_eq (lv' := [some (.ref 5), some (.int (nI a)), some (.long h), none, some (.long (sLnk (fm_words m) a h (k + 1))), none, some (.int (nI (k + 1)))]) rfl rfl rfl rfl ?_
      exact ih (k + 1) (by omega)
  refine zz_lload_n G dM_linkOf_0 rfl ?_
  refine zz_lstore (lv' := [some (.ref 5), some (.int (nI a)), some (.long h), none, some (.long h), none, none]) G dM_linkOf_1 (Nat.le_of_ble_eq_true rfl) rfl ?_
  refine zz_iconst (v := 0) G dM_linkOf_3 (by decide) ?_
  refine zz_istore (lv' := [some (.ref 5), some (.int (nI a)), some (.long h), none, some (.long h), none, some (.int 0)]) G dM_linkOf_4 (Nat.le_of_ble_eq_true rfl) rfl ?_
  exact loop 6 0 (by omega)
set_option maxRecDepth 100000 in
set_option maxHeartbeats 4000000 in
theorem cm_linkBefore (l : Launch) (x : XS) (m : MS) (o : Nat → Int64) (a : Nat) (iv : Int32) (hiv : iv = nI a) (ha : a ≤ 64) : zC l yM_linkBefore (Jvm.Cond.code yM_linkBefore bM_linkBefore 2 (some .long) :: Tw) 0 true 0 0 [.ref 5, .int iv] (wx x m o) (.inl (some (.long (sBef (fm_links m) a)), wx x m o)) := by
  subst hiv
  refine zC_of [some (.ref 5), some (.int (nI a))] (by decide) rfl (Nat.le_of_ble_eq_true rfl) ?_
  intro p e s mm args below meth c D cI cJ as G hret hex hbd
  cases a with
  | zero =>
    refine zz_iload_n G dM_linkBefore_0 rfl ?_
    refine zz_if_ne (tgt := 10) G dM_linkBefore_1 rfl (fun h1 => (h1 rfl).elim) (fun h1 => ?_)
    refine zz_ldc2 (v := 1469598103) G dM_linkBefore_4 tw_497 ?_
    refine zz_goto (tgt := 18) G dM_linkBefore_7 rfl ?_
    exact zz_lret G hret dM_linkBefore_18 (rfl) (Nat.le_of_ble_eq_true rfl) (Nat.le_of_ble_eq_true rfl)
  | succ a =>
    refine zz_iload_n G dM_linkBefore_0 rfl ?_
    refine zz_if_ne (tgt := 10) G dM_linkBefore_1 rfl (fun h1 => ?_) (fun h1 => (nI_ne0 (by omega) (by omega) h1).elim)
    refine zz_aload_n G dM_linkBefore_10 rfl ?_
    refine zz_get (v := .ref 7) G dM_linkBefore_11 flM_13 rfl rfl ?_
    refine zz_iload_n G dM_linkBefore_14 rfl ?_
    refine zz_iconst (v := 1) G dM_linkBefore_15 (by decide) ?_
    refine zz_isub G dM_linkBefore_16 ?_
    refine zz_lald (v := fm_links m a) G dM_linkBefore_17 rfl (by rw [nI_pred]; exact i1_in (by omega)) (by rw [nI_pred, i1_at (by omega)]) ?_
    exact zz_lret G hret dM_linkBefore_18 (rfl) (Nat.le_of_ble_eq_true rfl) (Nat.le_of_ble_eq_true rfl)
set_option maxRecDepth 100000 in
set_option maxHeartbeats 4000000 in
theorem cm_turnoverNow (l : Launch) (x : XS) (m : MS) (o : Nat → Int64) (a : Int32) (n e1 : Nat) (hcl : fm_clock m = nI n) (hn : n ≤ 64) (hen : fm_entries m = nI e1) (he64 : e1 ≤ 64) (hlv : ∀ j, j < e1 → ∃ v, sLast (fm_words m) (nI j) n = some v) : zC l yM_turnoverNow (Jvm.Cond.code yM_turnoverNow bM_turnoverNow 7 (some .long) :: Tw) 2 true 0 0 [.ref 5, .int a] (wx x m o) (.inl (some (.long (mTurn (fm_words m) a n e1)), wx x m o)) := by
  refine zC_of [some (.ref 5), some (.int a), none, none, none, none, none] (by decide) rfl (Nat.le_of_ble_eq_true rfl) ?_
  intro p e s mm args below meth c D cI cJ as G hret hex hbd
  have loop : ∀ (d j : Nat), j + d = e1 → Z p l e (zrm 2) s mm args below meth c 7 D cI cJ as true 0 0 (zMQ below (.inl (some (.long (mTurn (fm_words m) a n e1)), wx x m o)) D cI cJ as true s 0 0) 5 [some (.ref 5), some (.int a), some (.long (mTurn (fm_words m) a n j)), none, some (.int (nI j)), none, none] [] (wx x m o) := by
    intro d
    induction d with
    | zero =>
      intro j hj
      have hj : e1 = j := by omega
      subst hj
      refine zz_iload G dM_turnoverNow_5 rfl ?_
      refine zz_aload_n G dM_turnoverNow_7 rfl ?_
      refine zz_get (v := .int (nI e1)) G dM_turnoverNow_8 flM_42 rfl (by rw [← hen]; rfl) ?_
      refine zz_icmp_ge (tgt := 81) G dM_turnoverNow_11 rfl (fun h11 => ?_) (fun h11 => (h11 (nI_le (Nat.le_refl _) (by omega))).elim)
      refine zz_lload_n G dM_turnoverNow_81 rfl ?_
      exact zz_lret G hret dM_turnoverNow_82 (rfl) (Nat.le_of_ble_eq_true rfl) (Nat.le_of_ble_eq_true rfl)
    | succ d ih =>
      intro j hj
      obtain ⟨v, hv⟩ := hlv j (by omega)
      have hvn : v < n := (mL_lt n hv).1
      refine zz_iload G dM_turnoverNow_5 rfl ?_
      refine zz_aload_n G dM_turnoverNow_7 rfl ?_
      refine zz_get (v := .int (nI e1)) G dM_turnoverNow_8 flM_42 rfl (by rw [← hen]; rfl) ?_
      refine zz_icmp_ge (tgt := 81) G dM_turnoverNow_11 rfl (fun h11 => (nI_ge (by omega) (by omega) h11).elim) (fun h11 => ?_)
      refine zz_aload_n G dM_turnoverNow_14 rfl ?_
      refine zz_iload G dM_turnoverNow_15 rfl ?_
      refine zz_aload_n G dM_turnoverNow_17 rfl ?_
      refine zz_get (v := .int (nI n)) G dM_turnoverNow_18 flM_27 rfl (by rw [← hcl]; rfl) ?_
      refine zz_callVi (v := nI v) (w' := (wx x m o)) (As := [.int (nI j), .int (nI n)]) (rest := []) G (by have q := cm_currentAt l x m o (nI j) _ n rfl (hn); rw [show sLast (fm_words m) (nI j) n = _ from hv] at q; exact q) kM_45 dM_turnoverNow_21 rfl rfl rfl rfl (Nat.le_of_ble_eq_true rfl) (fun _ => rfl) ⟨Nat.le_of_ble_eq_true rfl, Nat.le_of_ble_eq_true rfl⟩ ⟨Nat.le_of_ble_eq_true rfl, Nat.le_of_ble_eq_true rfl⟩ ?_
      refine zz_istore (lv' := [some (.ref 5), some (.int a), some (.long (mTurn (fm_words m) a n j)), none, some (.int (nI j)), some (.int (nI v)), none]) G dM_turnoverNow_24 (Nat.le_of_ble_eq_true rfl) rfl ?_
      refine zz_aload_n G dM_turnoverNow_26 rfl ?_
      refine zz_iload G dM_turnoverNow_27 rfl ?_
      refine zz_iconst (v := 2) G dM_turnoverNow_29 (by decide) ?_
      refine zz_callVi (v := fm_words m (6 * v + 2)) (w' := (wx x m o)) (As := [.int (nI v), .int 2]) (rest := []) G (cm_word l x m o v 2 _ _ rfl rfl (by omega) (by decide)) kM_30 dM_turnoverNow_30 rfl rfl rfl rfl (Nat.le_of_ble_eq_true rfl) (fun _ => rfl) ⟨Nat.le_of_ble_eq_true rfl, Nat.le_of_ble_eq_true rfl⟩ ⟨Nat.le_of_ble_eq_true rfl, Nat.le_of_ble_eq_true rfl⟩ ?_
      refine zz_iload_n G dM_turnoverNow_33 rfl ?_
      refine zz_icmp_eq (tgt := 48) G dM_turnoverNow_34 rfl (fun h34 => ?_) (fun h34 => ?_)
      · refine zz_iconst (v := 1) G dM_turnoverNow_48 (by decide) ?_
        refine zz_goto (tgt := 53) G dM_turnoverNow_49 rfl ?_
        refine zz_istore (lv' := [some (.ref 5), some (.int a), some (.long (mTurn (fm_words m) a n j)), none, some (.int (nI j)), some (.int (nI v)), some (.int 1)]) G dM_turnoverNow_53 (Nat.le_of_ble_eq_true rfl) rfl ?_
        refine zz_iload G dM_turnoverNow_55 rfl ?_
        refine zz_if_eq (tgt := 73) G dM_turnoverNow_57 rfl (fun h57 => ((absurd h57 (by decide) : False)).elim) (fun h57 => ?_)
        refine zz_lload_n G dM_turnoverNow_60 rfl ?_
        refine zz_aload_n G dM_turnoverNow_61 rfl ?_
        refine zz_iload G dM_turnoverNow_62 rfl ?_
        refine zz_iconst (v := 4) G dM_turnoverNow_64 (by decide) ?_
        refine zz_callVi (v := fm_words m (6 * v + 4)) (w' := (wx x m o)) (As := [.int (nI v), .int 4]) (rest := [.long (mTurn (fm_words m) a n j)]) G (cm_word l x m o v 4 _ _ rfl rfl (by omega) (by decide)) kM_30 dM_turnoverNow_65 rfl rfl rfl rfl (Nat.le_of_ble_eq_true rfl) (fun _ => rfl) ⟨Nat.le_of_ble_eq_true rfl, Nat.le_of_ble_eq_true rfl⟩ ⟨Nat.le_of_ble_eq_true rfl, Nat.le_of_ble_eq_true rfl⟩ ?_
        refine zz_i2l G dM_turnoverNow_68 ?_
        refine zz_ladd G dM_turnoverNow_69 ?_
        refine zz_goto (tgt := 74) G dM_turnoverNow_70 rfl ?_
        refine zz_lstore_n (lv' := [some (.ref 5), some (.int a), some (.long ((mTurn (fm_words m) a n j) + ((fm_words m (6 * v + 4)).toInt64))), none, some (.int (nI j)), some (.int (nI v)), some (.int 1)]) G dM_turnoverNow_74 (Nat.le_of_ble_eq_true rfl) rfl ?_
        refine zz_iinc (v := nI (j + 1)) (lv' := [some (.ref 5), some (.int a), some (.long ((mTurn (fm_words m) a n j) + ((fm_words m (6 * v + 4)).toInt64))), none, some (.int (nI (j + 1))), some (.int (nI v)), some (.int 1)]) G dM_turnoverNow_75 rfl (by rw [nI_succ] <;> rfl) rfl ?_
        refine zz_goto (tgt := 5) G dM_turnoverNow_78 rfl ?_
        refine zz_few (lv' := [some (.ref 5), some (.int a), some (.long ((mTurn (fm_words m) a n j) + ((fm_words m (6 * v + 4)).toInt64))), none, some (.int (nI (j + 1))), none, none]) (by exact ⟨rfl, rfl, rfl, rfl, trivial⟩) ?_
        refine zz_eq (lv' := [some (.ref 5), some (.int a), some (.long (mTurn (fm_words m) a n (j + 1))), none, some (.int (nI (j + 1))), none, none]) rfl (by rw [show mTurn (fm_words m) a n (j + 1) = (mTurn (fm_words m) a n j) + ((fm_words m (6 * v + 4)).toInt64) from by show (match sLast (fm_words m) (nI j) n with | none => _ | some v => if sTouch (fm_words m) v a = 0 then _ else _) = _; rw [hv]; show (if sTouch (fm_words m) v a = 0 then _ else _) = _; rw [if_neg (show ¬ sTouch (fm_words m) v a = 0 from by unfold sTouch; rw [if_pos h34]; decide)]]) rfl rfl ?_
        exact ih (j + 1) (by omega)
      · refine zz_aload_n G dM_turnoverNow_37 rfl ?_
        refine zz_iload G dM_turnoverNow_38 rfl ?_
        refine zz_iconst (v := 3) G dM_turnoverNow_40 (by decide) ?_
        refine zz_callVi (v := fm_words m (6 * v + 3)) (w' := (wx x m o)) (As := [.int (nI v), .int 3]) (rest := []) G (cm_word l x m o v 3 _ _ rfl rfl (by omega) (by decide)) kM_30 dM_turnoverNow_41 rfl rfl rfl rfl (Nat.le_of_ble_eq_true rfl) (fun _ => rfl) ⟨Nat.le_of_ble_eq_true rfl, Nat.le_of_ble_eq_true rfl⟩ ⟨Nat.le_of_ble_eq_true rfl, Nat.le_of_ble_eq_true rfl⟩ ?_
        refine zz_iload_n G dM_turnoverNow_44 rfl ?_
        refine zz_icmp_ne (tgt := 52) G dM_turnoverNow_45 rfl (fun h45 => ?_) (fun h45 => ?_)
        · refine zz_iconst (v := 0) G dM_turnoverNow_52 (by decide) ?_
          refine zz_istore (lv' := [some (.ref 5), some (.int a), some (.long (mTurn (fm_words m) a n j)), none, some (.int (nI j)), some (.int (nI v)), some (.int 0)]) G dM_turnoverNow_53 (Nat.le_of_ble_eq_true rfl) rfl ?_
          refine zz_iload G dM_turnoverNow_55 rfl ?_
          refine zz_if_eq (tgt := 73) G dM_turnoverNow_57 rfl (fun h57 => ?_) (fun h57 => ((absurd h57 (by decide) : False)).elim)
          refine zz_lload_n G dM_turnoverNow_73 rfl ?_
          refine zz_lstore_n (lv' := [some (.ref 5), some (.int a), some (.long (mTurn (fm_words m) a n j)), none, some (.int (nI j)), some (.int (nI v)), some (.int 0)]) G dM_turnoverNow_74 (Nat.le_of_ble_eq_true rfl) rfl ?_
          refine zz_iinc (v := nI (j + 1)) (lv' := [some (.ref 5), some (.int a), some (.long (mTurn (fm_words m) a n j)), none, some (.int (nI (j + 1))), some (.int (nI v)), some (.int 0)]) G dM_turnoverNow_75 rfl (by rw [nI_succ] <;> rfl) rfl ?_
          refine zz_goto (tgt := 5) G dM_turnoverNow_78 rfl ?_
          refine zz_few (lv' := [some (.ref 5), some (.int a), some (.long (mTurn (fm_words m) a n j)), none, some (.int (nI (j + 1))), none, none]) (by exact ⟨rfl, rfl, rfl, rfl, trivial⟩) ?_
          refine zz_eq (lv' := [some (.ref 5), some (.int a), some (.long (mTurn (fm_words m) a n (j + 1))), none, some (.int (nI (j + 1))), none, none]) rfl (by rw [show mTurn (fm_words m) a n (j + 1) = mTurn (fm_words m) a n j from by show (match sLast (fm_words m) (nI j) n with | none => _ | some v => if sTouch (fm_words m) v a = 0 then _ else _) = _; rw [hv]; show (if sTouch (fm_words m) v a = 0 then _ else _) = _; rw [if_pos (show sTouch (fm_words m) v a = 0 from by unfold sTouch; rw [if_neg h34, if_neg h45])]]) rfl rfl ?_
          exact ih (j + 1) (by omega)
        · refine zz_iconst (v := 1) G dM_turnoverNow_48 (by decide) ?_
          refine zz_goto (tgt := 53) G dM_turnoverNow_49 rfl ?_
          refine zz_istore (lv' := [some (.ref 5), some (.int a), some (.long (mTurn (fm_words m) a n j)), none, some (.int (nI j)), some (.int (nI v)), some (.int 1)]) G dM_turnoverNow_53 (Nat.le_of_ble_eq_true rfl) rfl ?_
          refine zz_iload G dM_turnoverNow_55 rfl ?_
          refine zz_if_eq (tgt := 73) G dM_turnoverNow_57 rfl (fun h57 => ((absurd h57 (by decide) : False)).elim) (fun h57 => ?_)
          refine zz_lload_n G dM_turnoverNow_60 rfl ?_
          refine zz_aload_n G dM_turnoverNow_61 rfl ?_
          refine zz_iload G dM_turnoverNow_62 rfl ?_
          refine zz_iconst (v := 4) G dM_turnoverNow_64 (by decide) ?_
          refine zz_callVi (v := fm_words m (6 * v + 4)) (w' := (wx x m o)) (As := [.int (nI v), .int 4]) (rest := [.long (mTurn (fm_words m) a n j)]) G (cm_word l x m o v 4 _ _ rfl rfl (by omega) (by decide)) kM_30 dM_turnoverNow_65 rfl rfl rfl rfl (Nat.le_of_ble_eq_true rfl) (fun _ => rfl) ⟨Nat.le_of_ble_eq_true rfl, Nat.le_of_ble_eq_true rfl⟩ ⟨Nat.le_of_ble_eq_true rfl, Nat.le_of_ble_eq_true rfl⟩ ?_
          refine zz_i2l G dM_turnoverNow_68 ?_
          refine zz_ladd G dM_turnoverNow_69 ?_
          refine zz_goto (tgt := 74) G dM_turnoverNow_70 rfl ?_
          refine zz_lstore_n (lv' := [some (.ref 5), some (.int a), some (.long ((mTurn (fm_words m) a n j) + ((fm_words m (6 * v + 4)).toInt64))), none, some (.int (nI j)), some (.int (nI v)), some (.int 1)]) G dM_turnoverNow_74 (Nat.le_of_ble_eq_true rfl) rfl ?_
          refine zz_iinc (v := nI (j + 1)) (lv' := [some (.ref 5), some (.int a), some (.long ((mTurn (fm_words m) a n j) + ((fm_words m (6 * v + 4)).toInt64))), none, some (.int (nI (j + 1))), some (.int (nI v)), some (.int 1)]) G dM_turnoverNow_75 rfl (by rw [nI_succ] <;> rfl) rfl ?_
          refine zz_goto (tgt := 5) G dM_turnoverNow_78 rfl ?_
          refine zz_few (lv' := [some (.ref 5), some (.int a), some (.long ((mTurn (fm_words m) a n j) + ((fm_words m (6 * v + 4)).toInt64))), none, some (.int (nI (j + 1))), none, none]) (by exact ⟨rfl, rfl, rfl, rfl, trivial⟩) ?_
          refine zz_eq (lv' := [some (.ref 5), some (.int a), some (.long (mTurn (fm_words m) a n (j + 1))), none, some (.int (nI (j + 1))), none, none]) rfl (by rw [show mTurn (fm_words m) a n (j + 1) = (mTurn (fm_words m) a n j) + ((fm_words m (6 * v + 4)).toInt64) from by show (match sLast (fm_words m) (nI j) n with | none => _ | some v => if sTouch (fm_words m) v a = 0 then _ else _) = _; rw [hv]; show (if sTouch (fm_words m) v a = 0 then _ else _) = _; rw [if_neg (show ¬ sTouch (fm_words m) v a = 0 from by unfold sTouch; rw [if_neg h34, if_pos h45]; decide)]]) rfl rfl ?_
          exact ih (j + 1) (by omega)
  refine zz_lconst (v := 0) G dM_turnoverNow_0 (by decide) ?_
  refine zz_lstore_n (lv' := [some (.ref 5), some (.int a), some (.long 0), none, none, none, none]) G dM_turnoverNow_1 (Nat.le_of_ble_eq_true rfl) rfl ?_
  refine zz_iconst (v := 0) G dM_turnoverNow_2 (by decide) ?_
  refine zz_istore (lv' := [some (.ref 5), some (.int a), some (.long 0), none, some (.int 0), none, none]) G dM_turnoverNow_3 (Nat.le_of_ble_eq_true rfl) rfl ?_
  exact loop e1 0 (by omega)
set_option maxRecDepth 100000 in
set_option maxHeartbeats 4000000 in
theorem cm_tooMuch (l : Launch) (x : XS) (m : MS) (o : Nat → Int64) (a : Int32) (b : Int64) (n e1 : Nat) (hcl : fm_clock m = nI n) (hn : n ≤ 64) (hen : fm_entries m = nI e1) (he64 : e1 ≤ 64) (hlv : ∀ j, j < e1 → ∃ v, sLast (fm_words m) (nI j) n = some v) : zC l yM_tooMuch (Jvm.Cond.code yM_tooMuch bM_tooMuch 4 (some .boolean) :: Tw) 3 true 0 0 [.ref 5, .int a, .long b] (wx x m o) (.inl (some (.int (sMuch (fm_words m) a n e1 b)), wx x m o)) := by
  refine zC_of [some (.ref 5), some (.int a), some (.long b), none] (by decide) rfl (Nat.le_of_ble_eq_true rfl) ?_
  intro p e s mm args below meth c D cI cJ as G hret hex hbd
  refine zz_aload_n G dM_tooMuch_0 rfl ?_
  refine zz_iload_n G dM_tooMuch_1 rfl ?_
  refine zz_callVl (v := mTurn (fm_words m) a n e1) (w' := (wx x m o)) (As := [.int a]) (rest := []) G (cm_turnoverNow l x m o a n e1 hcl hn hen he64 hlv) kM_48 dM_tooMuch_2 rfl rfl rfl rfl (Nat.le_of_ble_eq_true rfl) (fun _ => rfl) ⟨Nat.le_of_ble_eq_true rfl, Nat.le_of_ble_eq_true rfl⟩ ⟨Nat.le_of_ble_eq_true rfl, Nat.le_of_ble_eq_true rfl⟩ ?_
  refine zz_lload_n G dM_tooMuch_5 rfl ?_
  refine zz_ladd G dM_tooMuch_6 ?_
  refine zz_ldc2 (v := 2147483647) G dM_tooMuch_7 tw_484 ?_
  refine zz_lcmp G dM_tooMuch_10 ?_
  refine zz_if_le (tgt := 18) G dM_tooMuch_11 rfl (fun h11 => ?_) (fun h11 => ?_)
  · refine zz_iconst (v := 0) G dM_tooMuch_18 (by decide) ?_
    exact zz_zret G hret dM_tooMuch_19 rfl (by rw [show sMuch (fm_words m) a n e1 b = 0 from by rw [sMuch, if_pos h11]]) (Nat.le_of_ble_eq_true rfl) (Nat.le_of_ble_eq_true rfl)
  · refine zz_iconst (v := 1) G dM_tooMuch_14 (by decide) ?_
    refine zz_goto (tgt := 19) G dM_tooMuch_15 rfl ?_
    exact zz_zret G hret dM_tooMuch_19 rfl (by rw [show sMuch (fm_words m) a n e1 b = 1 from by rw [sMuch, if_neg h11]]) (Nat.le_of_ble_eq_true rfl) (Nat.le_of_ble_eq_true rfl)
set_option maxRecDepth 100000 in
set_option maxHeartbeats 4000000 in
theorem cm_write (l : Launch) (x : XS) (m : MS) (o : Nat → Int64) (n k : Nat) (ik b : Int32) (hik : ik = nI k) (hcl : fm_clock m = nI n) (hn : n < 64) (hk : k < 6) : zC l yM_write (Jvm.Cond.code yM_write bM_write 3 none :: Tw) 0 false 0 0 [.ref 5, .int ik, .int b] (wx x m o) (.inl (none, wx x (sm_words m (upd (fm_words m) (6 * n + k) b)) o)) := by
  subst hik
  refine zC_of [some (.ref 5), some (.int (nI k)), some (.int b)] (by decide) rfl (Nat.le_of_ble_eq_true rfl) ?_
  intro p e s mm args below meth c D cI cJ as G hret hex hbd
  refine zz_aload_n G dM_write_0 rfl ?_
  refine zz_get (v := .ref 6) G dM_write_1 flM_7 rfl rfl ?_
  refine zz_bipush (v := 6) G dM_write_4 (by decide) ?_
  refine zz_aload_n G dM_write_6 rfl ?_
  refine zz_get (v := .int (nI n)) G dM_write_7 flM_27 rfl (by rw [← hcl]; rfl) ?_
  refine zz_imul G dM_write_10 ?_
  refine zz_iload_n G dM_write_11 rfl ?_
  refine zz_iadd G dM_write_12 ?_
  refine zz_iload_n G dM_write_13 rfl ?_
  refine zz_iast (w' := (wx x (sm_words m (upd (fm_words m) (6 * n + k) b)) o)) rfl G dM_write_14 rfl (iy_in hn hk) (by rw [iy_at hn hk] <;> rfl) ?_
  exact zz_vret G hret dM_write_15 (rfl) (Nat.le_of_ble_eq_true rfl) (Nat.le_of_ble_eq_true rfl)
set_option maxRecDepth 100000 in
set_option maxHeartbeats 4000000 in
theorem cm_add (l : Launch) (x : XS) (m : MS) (o : Nat → Int64) (n : Nat) (k e2 d c1 a y : Int32) (hcl : fm_clock m = nI n) (hn : n < 64) : zC l yM_add (Jvm.Cond.code yM_add bM_add 7 (some .int) :: Tw) 2 false 0 0 [.ref 5, .int k, .int e2, .int d, .int c1, .int a, .int y] (wx x m o) (.inl (some (.int (nI n)), wx x (mApp m n k e2 d c1 a y) o)) := by
  refine zC_of [some (.ref 5), some (.int k), some (.int e2), some (.int d), some (.int c1), some (.int a), some (.int y)] (by decide) rfl (Nat.le_of_ble_eq_true rfl) ?_
  intro p e s mm args below meth c D cI cJ as G hret hex hbd
  refine zz_aload_n G dM_add_0 rfl ?_
  refine zz_iconst (v := 0) G dM_add_1 (by decide) ?_
  refine zz_iload_n G dM_add_2 rfl ?_
  refine zz_callVv (w' := (wx x (sm_words m (upd (fm_words m) (6 * n + 0) k)) o)) (As := [.int 0, .int k]) (rest := []) G (cm_write l x m o n 0 _ k rfl hcl hn (by decide)) kM_54 dM_add_3 rfl rfl rfl rfl (Nat.le_of_ble_eq_true rfl) (fun h => by cases h) ⟨Nat.le_of_ble_eq_true rfl, Nat.le_of_ble_eq_true rfl⟩ ⟨Nat.le_of_ble_eq_true rfl, Nat.le_of_ble_eq_true rfl⟩ ?_
  refine zz_aload_n G dM_add_6 rfl ?_
  refine zz_iconst (v := 1) G dM_add_7 (by decide) ?_
  refine zz_iload_n G dM_add_8 rfl ?_
  refine zz_callVv (w' := (wx x (sm_words m (upd (upd (fm_words m) (6 * n + 0) k) (6 * n + 1) e2)) o)) (As := [.int 1, .int e2]) (rest := []) G (cm_write l x (sm_words m (upd (fm_words m) (6 * n + 0) k)) o n 1 _ e2 rfl hcl hn (by decide)) kM_54 dM_add_9 rfl rfl rfl rfl (Nat.le_of_ble_eq_true rfl) (fun h => by cases h) ⟨Nat.le_of_ble_eq_true rfl, Nat.le_of_ble_eq_true rfl⟩ ⟨Nat.le_of_ble_eq_true rfl, Nat.le_of_ble_eq_true rfl⟩ ?_
  refine zz_aload_n G dM_add_12 rfl ?_
  refine zz_iconst (v := 2) G dM_add_13 (by decide) ?_
  refine zz_iload_n G dM_add_14 rfl ?_
  refine zz_callVv (w' := (wx x (sm_words m (upd (upd (upd (fm_words m) (6 * n + 0) k) (6 * n + 1) e2) (6 * n + 2) d)) o)) (As := [.int 2, .int d]) (rest := []) G (cm_write l x (sm_words m (upd (upd (fm_words m) (6 * n + 0) k) (6 * n + 1) e2)) o n 2 _ d rfl hcl hn (by decide)) kM_54 dM_add_15 rfl rfl rfl rfl (Nat.le_of_ble_eq_true rfl) (fun h => by cases h) ⟨Nat.le_of_ble_eq_true rfl, Nat.le_of_ble_eq_true rfl⟩ ⟨Nat.le_of_ble_eq_true rfl, Nat.le_of_ble_eq_true rfl⟩ ?_
  refine zz_aload_n G dM_add_18 rfl ?_
  refine zz_iconst (v := 3) G dM_add_19 (by decide) ?_
  refine zz_iload G dM_add_20 rfl ?_
  refine zz_callVv (w' := (wx x (sm_words m (upd (upd (upd (upd (fm_words m) (6 * n + 0) k) (6 * n + 1) e2) (6 * n + 2) d) (6 * n + 3) c1)) o)) (As := [.int 3, .int c1]) (rest := []) G (cm_write l x (sm_words m (upd (upd (upd (fm_words m) (6 * n + 0) k) (6 * n + 1) e2) (6 * n + 2) d)) o n 3 _ c1 rfl hcl hn (by decide)) kM_54 dM_add_22 rfl rfl rfl rfl (Nat.le_of_ble_eq_true rfl) (fun h => by cases h) ⟨Nat.le_of_ble_eq_true rfl, Nat.le_of_ble_eq_true rfl⟩ ⟨Nat.le_of_ble_eq_true rfl, Nat.le_of_ble_eq_true rfl⟩ ?_
  refine zz_aload_n G dM_add_25 rfl ?_
  refine zz_iconst (v := 4) G dM_add_26 (by decide) ?_
  refine zz_iload G dM_add_27 rfl ?_
  refine zz_callVv (w' := (wx x (sm_words m (upd (upd (upd (upd (upd (fm_words m) (6 * n + 0) k) (6 * n + 1) e2) (6 * n + 2) d) (6 * n + 3) c1) (6 * n + 4) a)) o)) (As := [.int 4, .int a]) (rest := []) G (cm_write l x (sm_words m (upd (upd (upd (upd (fm_words m) (6 * n + 0) k) (6 * n + 1) e2) (6 * n + 2) d) (6 * n + 3) c1)) o n 4 _ a rfl hcl hn (by decide)) kM_54 dM_add_29 rfl rfl rfl rfl (Nat.le_of_ble_eq_true rfl) (fun h => by cases h) ⟨Nat.le_of_ble_eq_true rfl, Nat.le_of_ble_eq_true rfl⟩ ⟨Nat.le_of_ble_eq_true rfl, Nat.le_of_ble_eq_true rfl⟩ ?_
  refine zz_aload_n G dM_add_32 rfl ?_
  refine zz_iconst (v := 5) G dM_add_33 (by decide) ?_
  refine zz_iload G dM_add_34 rfl ?_
  refine zz_callVv (w' := (wx x (sm_words m (upd (upd (upd (upd (upd (upd (fm_words m) (6 * n + 0) k) (6 * n + 1) e2) (6 * n + 2) d) (6 * n + 3) c1) (6 * n + 4) a) (6 * n + 5) y)) o)) (As := [.int 5, .int y]) (rest := []) G (cm_write l x (sm_words m (upd (upd (upd (upd (upd (fm_words m) (6 * n + 0) k) (6 * n + 1) e2) (6 * n + 2) d) (6 * n + 3) c1) (6 * n + 4) a)) o n 5 _ y rfl hcl hn (by decide)) kM_54 dM_add_36 rfl rfl rfl rfl (Nat.le_of_ble_eq_true rfl) (fun h => by cases h) ⟨Nat.le_of_ble_eq_true rfl, Nat.le_of_ble_eq_true rfl⟩ ⟨Nat.le_of_ble_eq_true rfl, Nat.le_of_ble_eq_true rfl⟩ ?_
  refine zz_aload_n G dM_add_39 rfl ?_
  refine zz_get (v := .ref 7) G dM_add_40 flM_13 rfl rfl ?_
  refine zz_aload_n G dM_add_43 rfl ?_
  refine zz_get (v := .int (nI n)) G dM_add_44 flM_27 rfl (by rw [← hcl]; rfl) ?_
  refine zz_aload_n G dM_add_47 rfl ?_
  refine zz_aload_n G dM_add_48 rfl ?_
  refine zz_get (v := .int (nI n)) G dM_add_49 flM_27 rfl (by rw [← hcl]; rfl) ?_
  refine zz_aload_n G dM_add_52 rfl ?_
  refine zz_aload_n G dM_add_53 rfl ?_
  refine zz_get (v := .int (nI n)) G dM_add_54 flM_27 rfl (by rw [← hcl]; rfl) ?_
  refine zz_callVl (v := sBef (fm_links m) n) (w' := (wx x (sm_words m (upd (upd (upd (upd (upd (upd (fm_words m) (6 * n + 0) k) (6 * n + 1) e2) (6 * n + 2) d) (6 * n + 3) c1) (6 * n + 4) a) (6 * n + 5) y)) o)) (As := [.int (nI n)]) (rest := [.int (nI n), .ref 5, .int (nI n), .ref 7]) G (cm_linkBefore l x (sm_words m (upd (upd (upd (upd (upd (upd (fm_words m) (6 * n + 0) k) (6 * n + 1) e2) (6 * n + 2) d) (6 * n + 3) c1) (6 * n + 4) a) (6 * n + 5) y)) o n _ rfl (by omega)) kM_58 dM_add_57 rfl rfl rfl rfl (Nat.le_of_ble_eq_true rfl) (fun _ => rfl) ⟨Nat.le_of_ble_eq_true rfl, Nat.le_of_ble_eq_true rfl⟩ ⟨Nat.le_of_ble_eq_true rfl, Nat.le_of_ble_eq_true rfl⟩ ?_
  refine zz_callVl (v := sLnk ((upd (upd (upd (upd (upd (upd (fm_words m) (6 * n + 0) k) (6 * n + 1) e2) (6 * n + 2) d) (6 * n + 3) c1) (6 * n + 4) a) (6 * n + 5) y)) n (sBef (fm_links m) n) 6) (w' := (wx x (sm_words m (upd (upd (upd (upd (upd (upd (fm_words m) (6 * n + 0) k) (6 * n + 1) e2) (6 * n + 2) d) (6 * n + 3) c1) (6 * n + 4) a) (6 * n + 5) y)) o)) (As := [.int (nI n), .long (sBef (fm_links m) n)]) (rest := [.int (nI n), .ref 7]) G (cm_linkOf l x (sm_words m (upd (upd (upd (upd (upd (upd (fm_words m) (6 * n + 0) k) (6 * n + 1) e2) (6 * n + 2) d) (6 * n + 3) c1) (6 * n + 4) a) (6 * n + 5) y)) o n _ (sBef (fm_links m) n) rfl (hn)) kM_61 dM_add_60 rfl rfl rfl rfl (Nat.le_of_ble_eq_true rfl) (fun _ => rfl) ⟨Nat.le_of_ble_eq_true rfl, Nat.le_of_ble_eq_true rfl⟩ ⟨Nat.le_of_ble_eq_true rfl, Nat.le_of_ble_eq_true rfl⟩ ?_
  refine zz_last (w' := (wx x (sm_links (sm_words m (upd (upd (upd (upd (upd (upd (fm_words m) (6 * n + 0) k) (6 * n + 1) e2) (6 * n + 2) d) (6 * n + 3) c1) (6 * n + 4) a) (6 * n + 5) y)) (vp_updL (fm_links m) n (sLnk ((upd (upd (upd (upd (upd (upd (fm_words m) (6 * n + 0) k) (6 * n + 1) e2) (6 * n + 2) d) (6 * n + 3) c1) (6 * n + 4) a) (6 * n + 5) y)) n (sBef (fm_links m) n) 6))) o)) rfl G dM_add_63 rfl (i1_in hn) (by rw [i1_at hn] <;> rfl) ?_
  refine zz_aload_n G dM_add_64 rfl ?_
  refine zz_aload_n G dM_add_65 rfl ?_
  refine zz_get (v := .int (nI n)) G dM_add_66 flM_27 rfl (by rw [← hcl]; rfl) ?_
  refine zz_iconst (v := 1) G dM_add_69 (by decide) ?_
  refine zz_iadd G dM_add_70 ?_
  refine zz_put (w' := (wx x (sm_clock (sm_links (sm_words m (upd (upd (upd (upd (upd (upd (fm_words m) (6 * n + 0) k) (6 * n + 1) e2) (6 * n + 2) d) (6 * n + 3) c1) (6 * n + 4) a) (6 * n + 5) y)) (vp_updL (fm_links m) n (sLnk ((upd (upd (upd (upd (upd (upd (fm_words m) (6 * n + 0) k) (6 * n + 1) e2) (6 * n + 2) d) (6 * n + 3) c1) (6 * n + 4) a) (6 * n + 5) y)) n (sBef (fm_links m) n) 6))) ((nI n) + 1)) o)) rfl G dM_add_71 flM_27 rfl rfl rfl (Nat.le_of_ble_eq_true rfl) rfl ?_
  refine zz_aload_n G dM_add_74 rfl ?_
  refine zz_get (v := .int ((nI n) + 1)) G dM_add_75 flM_27 rfl rfl ?_
  refine zz_iconst (v := 1) G dM_add_78 (by decide) ?_
  refine zz_isub G dM_add_79 ?_
  exact zz_iret G hret dM_add_80 (by rw [show nI n + 1 - 1 = nI n from by rw [← nI_succ, nI_pred]] <;> rfl) (Nat.le_of_ble_eq_true rfl) (Nat.le_of_ble_eq_true rfl)
set_option maxRecDepth 100000 in
set_option maxHeartbeats 4000000 in
theorem cm_living (l : Launch) (x : XS) (m : MS) (o : Nat → Int64) (en : Int32) (n e1 : Nat) (hcl : fm_clock m = nI n) (hn : n ≤ 64) (hen : fm_entries m = nI e1) (he64 : e1 ≤ 64) : zC l yM_living (Jvm.Cond.code yM_living bM_living 3 (some .int) :: Tw) 2 true 0 0 [.ref 5, .int en] (wx x m o) (.inl (some (.int (sCv (sLiv (fm_words m) n e1 en))), wx x m o)) := by
  refine zC_of [some (.ref 5), some (.int en), none] (by decide) rfl (Nat.le_of_ble_eq_true rfl) ?_
  intro p e s mm args below meth c D cI cJ as G hret hex hbd
  rcases hq : sLast (fm_words m) en n with _ | u
  · refine zz_iload_n G dM_living_0 rfl ?_
    refine zz_if_lt (tgt := 24) G dM_living_1 rfl (fun h1 => ?_) (fun h1 => ?_)
    · refine zz_iconst (v := -1) G dM_living_24 (by decide) ?_
      refine zz_istore_n (lv' := [some (.ref 5), some (.int en), some (.int (-1))]) G dM_living_25 (Nat.le_of_ble_eq_true rfl) rfl ?_
      refine zz_iload_n G dM_living_26 rfl ?_
      refine zz_if_lt (tgt := 44) G dM_living_27 rfl (fun h27 => ?_) (fun h27 => ((absurd h27 (by decide) : False)).elim)
      refine zz_iload_n G dM_living_44 rfl ?_
      exact zz_iret G hret dM_living_45 (by rw [show sLiv (fm_words m) n e1 en = none from by rw [sLiv, if_pos h1]] <;> rfl) (Nat.le_of_ble_eq_true rfl) (Nat.le_of_ble_eq_true rfl)
    · refine zz_iload_n G dM_living_4 rfl ?_
      refine zz_aload_n G dM_living_5 rfl ?_
      refine zz_get (v := .int (nI e1)) G dM_living_6 flM_42 rfl (by rw [← hen]; rfl) ?_
      refine zz_icmp_ge (tgt := 24) G dM_living_9 rfl (fun h9 => ?_) (fun h9 => ?_)
      · refine zz_iconst (v := -1) G dM_living_24 (by decide) ?_
        refine zz_istore_n (lv' := [some (.ref 5), some (.int en), some (.int (-1))]) G dM_living_25 (Nat.le_of_ble_eq_true rfl) rfl ?_
        refine zz_iload_n G dM_living_26 rfl ?_
        refine zz_if_lt (tgt := 44) G dM_living_27 rfl (fun h27 => ?_) (fun h27 => ((absurd h27 (by decide) : False)).elim)
        refine zz_iload_n G dM_living_44 rfl ?_
        exact zz_iret G hret dM_living_45 (by rw [show sLiv (fm_words m) n e1 en = none from by rw [sLiv, if_neg h1, if_pos h9]] <;> rfl) (Nat.le_of_ble_eq_true rfl) (Nat.le_of_ble_eq_true rfl)
      · refine zz_aload_n G dM_living_12 rfl ?_
        refine zz_iload_n G dM_living_13 rfl ?_
        refine zz_aload_n G dM_living_14 rfl ?_
        refine zz_get (v := .int (nI n)) G dM_living_15 flM_27 rfl (by rw [← hcl]; rfl) ?_
        refine zz_callVi (v := (-1)) (w' := (wx x m o)) (As := [.int en, .int (nI n)]) (rest := []) G (by have q := cm_currentAt l x m o en _ n rfl (hn); rw [show sLast (fm_words m) en n = _ from hq] at q; exact q) kM_45 dM_living_18 rfl rfl rfl rfl (Nat.le_of_ble_eq_true rfl) (fun _ => rfl) ⟨Nat.le_of_ble_eq_true rfl, Nat.le_of_ble_eq_true rfl⟩ ⟨Nat.le_of_ble_eq_true rfl, Nat.le_of_ble_eq_true rfl⟩ ?_
        refine zz_goto (tgt := 25) G dM_living_21 rfl ?_
        refine zz_istore_n (lv' := [some (.ref 5), some (.int en), some (.int (-1))]) G dM_living_25 (Nat.le_of_ble_eq_true rfl) rfl ?_
        refine zz_iload_n G dM_living_26 rfl ?_
        refine zz_if_lt (tgt := 44) G dM_living_27 rfl (fun h27 => ?_) (fun h27 => ((absurd h27 (by decide) : False)).elim)
        refine zz_iload_n G dM_living_44 rfl ?_
        exact zz_iret G hret dM_living_45 (by rw [show sLiv (fm_words m) n e1 en = none from by rw [sLiv, if_neg h1, if_neg h9, hq]] <;> rfl) (Nat.le_of_ble_eq_true rfl) (Nat.le_of_ble_eq_true rfl)
  · have hu : u < n := (mL_lt n hq).1
    refine zz_iload_n G dM_living_0 rfl ?_
    refine zz_if_lt (tgt := 24) G dM_living_1 rfl (fun h1 => ?_) (fun h1 => ?_)
    · refine zz_iconst (v := -1) G dM_living_24 (by decide) ?_
      refine zz_istore_n (lv' := [some (.ref 5), some (.int en), some (.int (-1))]) G dM_living_25 (Nat.le_of_ble_eq_true rfl) rfl ?_
      refine zz_iload_n G dM_living_26 rfl ?_
      refine zz_if_lt (tgt := 44) G dM_living_27 rfl (fun h27 => ?_) (fun h27 => ((absurd h27 (by decide) : False)).elim)
      refine zz_iload_n G dM_living_44 rfl ?_
      exact zz_iret G hret dM_living_45 (by rw [show sLiv (fm_words m) n e1 en = none from by rw [sLiv, if_pos h1]] <;> rfl) (Nat.le_of_ble_eq_true rfl) (Nat.le_of_ble_eq_true rfl)
    · refine zz_iload_n G dM_living_4 rfl ?_
      refine zz_aload_n G dM_living_5 rfl ?_
      refine zz_get (v := .int (nI e1)) G dM_living_6 flM_42 rfl (by rw [← hen]; rfl) ?_
      refine zz_icmp_ge (tgt := 24) G dM_living_9 rfl (fun h9 => ?_) (fun h9 => ?_)
      · refine zz_iconst (v := -1) G dM_living_24 (by decide) ?_
        refine zz_istore_n (lv' := [some (.ref 5), some (.int en), some (.int (-1))]) G dM_living_25 (Nat.le_of_ble_eq_true rfl) rfl ?_
        refine zz_iload_n G dM_living_26 rfl ?_
        refine zz_if_lt (tgt := 44) G dM_living_27 rfl (fun h27 => ?_) (fun h27 => ((absurd h27 (by decide) : False)).elim)
        refine zz_iload_n G dM_living_44 rfl ?_
        exact zz_iret G hret dM_living_45 (by rw [show sLiv (fm_words m) n e1 en = none from by rw [sLiv, if_neg h1, if_pos h9]] <;> rfl) (Nat.le_of_ble_eq_true rfl) (Nat.le_of_ble_eq_true rfl)
      · refine zz_aload_n G dM_living_12 rfl ?_
        refine zz_iload_n G dM_living_13 rfl ?_
        refine zz_aload_n G dM_living_14 rfl ?_
        refine zz_get (v := .int (nI n)) G dM_living_15 flM_27 rfl (by rw [← hcl]; rfl) ?_
        refine zz_callVi (v := nI u) (w' := (wx x m o)) (As := [.int en, .int (nI n)]) (rest := []) G (by have q := cm_currentAt l x m o en _ n rfl (hn); rw [show sLast (fm_words m) en n = _ from hq] at q; exact q) kM_45 dM_living_18 rfl rfl rfl rfl (Nat.le_of_ble_eq_true rfl) (fun _ => rfl) ⟨Nat.le_of_ble_eq_true rfl, Nat.le_of_ble_eq_true rfl⟩ ⟨Nat.le_of_ble_eq_true rfl, Nat.le_of_ble_eq_true rfl⟩ ?_
        refine zz_goto (tgt := 25) G dM_living_21 rfl ?_
        refine zz_istore_n (lv' := [some (.ref 5), some (.int en), some (.int (nI u))]) G dM_living_25 (Nat.le_of_ble_eq_true rfl) rfl ?_
        refine zz_iload_n G dM_living_26 rfl ?_
        refine zz_if_lt (tgt := 44) G dM_living_27 rfl (fun h27 => (nI_pos (show u < 2 ^ 31 by omega) h27).elim) (fun h27 => ?_)
        refine zz_aload_n G dM_living_30 rfl ?_
        refine zz_iload_n G dM_living_31 rfl ?_
        refine zz_iconst (v := 0) G dM_living_32 (by decide) ?_
        refine zz_callVi (v := fm_words m (6 * u + 0)) (w' := (wx x m o)) (As := [.int (nI u), .int 0]) (rest := []) G (cm_word l x m o u 0 _ _ rfl rfl (by omega) (by decide)) kM_30 dM_living_33 rfl rfl rfl rfl (Nat.le_of_ble_eq_true rfl) (fun _ => rfl) ⟨Nat.le_of_ble_eq_true rfl, Nat.le_of_ble_eq_true rfl⟩ ⟨Nat.le_of_ble_eq_true rfl, Nat.le_of_ble_eq_true rfl⟩ ?_
        refine zz_iconst (v := 2) G dM_living_36 (by decide) ?_
        refine zz_icmp_ne (tgt := 44) G dM_living_37 rfl (fun h37 => ?_) (fun h37 => ?_)
        · refine zz_iload_n G dM_living_44 rfl ?_
          exact zz_iret G hret dM_living_45 (by rw [show sLiv (fm_words m) n e1 en = some u from by rw [sLiv, if_neg h1, if_neg h9, hq]; show (if fm_words m (6 * u + 0) = 2 then _ else _) = _; rw [if_neg h37]] <;> rfl) (Nat.le_of_ble_eq_true rfl) (Nat.le_of_ble_eq_true rfl)
        · refine zz_iconst (v := -1) G dM_living_40 (by decide) ?_
          refine zz_goto (tgt := 45) G dM_living_41 rfl ?_
          exact zz_iret G hret dM_living_45 (by rw [show sLiv (fm_words m) n e1 en = none from by rw [sLiv, if_neg h1, if_neg h9, hq]; show (if fm_words m (6 * u + 0) = 2 then _ else _) = _; rw [if_pos h37]] <;> rfl) (Nat.le_of_ble_eq_true rfl) (Nat.le_of_ble_eq_true rfl)
set_option maxRecDepth 100000 in
set_option maxHeartbeats 4000000 in
theorem cm_balanceAt (l : Launch) (x : XS) (m : MS) (o : Nat → Int64) (a d it : Int32) (t e1 : Nat) (hit : it = nI t) (ht : t ≤ 64) (hen : fm_entries m = nI e1) (he64 : e1 ≤ 64) : zC l yM_balanceAt (Jvm.Cond.code yM_balanceAt bM_balanceAt 8 (some .int) :: Tw) 2 true 0 0 [.ref 5, .int a, .int d, .int it] (wx x m o) (.inl (some (.int (mBal (fm_words m) a d t e1)), wx x m o)) := by
  subst hit
  refine zC_of [some (.ref 5), some (.int a), some (.int d), some (.int (nI t)), none, none, none, none] (by decide) rfl (Nat.le_of_ble_eq_true rfl) ?_
  intro p e s mm args below meth c D cI cJ as G hret hex hbd
  have loop : ∀ (q j : Nat), j + q = e1 → Z p l e (zrm 2) s mm args below meth c 8 D cI cJ as true 0 0 (zMQ below (.inl (some (.int (mBal (fm_words m) a d t e1)), wx x m o)) D cI cJ as true s 0 0) 6 [some (.ref 5), some (.int a), some (.int d), some (.int (nI t)), some (.int (mBal (fm_words m) a d t j)), some (.int (nI j)), none, none] [] (wx x m o) := by
    intro q
    induction q with
    | zero =>
      intro j hj
      have hj : e1 = j := by omega
      subst hj
      refine zz_iload G dM_balanceAt_6 rfl ?_
      refine zz_aload_n G dM_balanceAt_8 rfl ?_
      refine zz_get (v := .int (nI e1)) G dM_balanceAt_9 flM_42 rfl (by rw [← hen]; rfl) ?_
      refine zz_icmp_ge (tgt := 97) G dM_balanceAt_12 rfl (fun h12 => ?_) (fun h12 => (h12 (nI_le (Nat.le_refl _) (by omega))).elim)
      refine zz_iload G dM_balanceAt_97 rfl ?_
      exact zz_iret G hret dM_balanceAt_99 (rfl) (Nat.le_of_ble_eq_true rfl) (Nat.le_of_ble_eq_true rfl)
    | succ q ih =>
      intro j hj
      rcases hv : sLast (fm_words m) (nI j) t with _ | v
      · refine zz_iload G dM_balanceAt_6 rfl ?_
        refine zz_aload_n G dM_balanceAt_8 rfl ?_
        refine zz_get (v := .int (nI e1)) G dM_balanceAt_9 flM_42 rfl (by rw [← hen]; rfl) ?_
        refine zz_icmp_ge (tgt := 97) G dM_balanceAt_12 rfl (fun h12 => (nI_ge (by omega) (by omega) h12).elim) (fun h12 => ?_)
        refine zz_aload_n G dM_balanceAt_15 rfl ?_
        refine zz_iload G dM_balanceAt_16 rfl ?_
        refine zz_iload_n G dM_balanceAt_18 rfl ?_
        refine zz_callVi (v := (-1)) (w' := (wx x m o)) (As := [.int (nI j), .int (nI t)]) (rest := []) G (by have q := cm_currentAt l x m o (nI j) _ t rfl (ht); rw [show sLast (fm_words m) (nI j) t = _ from hv] at q; exact q) kM_45 dM_balanceAt_19 rfl rfl rfl rfl (Nat.le_of_ble_eq_true rfl) (fun _ => rfl) ⟨Nat.le_of_ble_eq_true rfl, Nat.le_of_ble_eq_true rfl⟩ ⟨Nat.le_of_ble_eq_true rfl, Nat.le_of_ble_eq_true rfl⟩ ?_
        refine zz_istore (lv' := [some (.ref 5), some (.int a), some (.int d), some (.int (nI t)), some (.int (mBal (fm_words m) a d t j)), some (.int (nI j)), some (.int (-1)), none]) G dM_balanceAt_22 (Nat.le_of_ble_eq_true rfl) rfl ?_
        refine zz_iload G dM_balanceAt_24 rfl ?_
        refine zz_if_lt (tgt := 91) G dM_balanceAt_26 rfl (fun h26 => ?_) (fun h26 => ((absurd h26 (by decide) : False)).elim)
        refine zz_iinc (v := nI (j + 1)) (lv' := [some (.ref 5), some (.int a), some (.int d), some (.int (nI t)), some (.int (mBal (fm_words m) a d t j)), some (.int (nI (j + 1))), some (.int (-1)), none]) G dM_balanceAt_91 rfl (by rw [nI_succ] <;> rfl) rfl ?_
        refine zz_goto (tgt := 6) G dM_balanceAt_94 rfl ?_
        refine zz_few (lv' := [some (.ref 5), some (.int a), some (.int d), some (.int (nI t)), some (.int (mBal (fm_words m) a d t j)), some (.int (nI (j + 1))), none, none]) (by exact ⟨rfl, rfl, rfl, rfl, rfl, rfl, trivial⟩) ?_
        refine zz_eq (lv' := [some (.ref 5), some (.int a), some (.int d), some (.int (nI t)), some (.int (mBal (fm_words m) a d t (j + 1))), some (.int (nI (j + 1))), none, none]) rfl (by rw [show mBal (fm_words m) a d t (j + 1) = mBal (fm_words m) a d t j from by show (match sLast (fm_words m) (nI j) t with | none => _ | some v => _) = _; rw [hv]]) rfl rfl ?_
        exact ih (j + 1) (by omega)
      · have hvt : v < t := (mL_lt t hv).1
        refine zz_iload G dM_balanceAt_6 rfl ?_
        refine zz_aload_n G dM_balanceAt_8 rfl ?_
        refine zz_get (v := .int (nI e1)) G dM_balanceAt_9 flM_42 rfl (by rw [← hen]; rfl) ?_
        refine zz_icmp_ge (tgt := 97) G dM_balanceAt_12 rfl (fun h12 => (nI_ge (by omega) (by omega) h12).elim) (fun h12 => ?_)
        refine zz_aload_n G dM_balanceAt_15 rfl ?_
        refine zz_iload G dM_balanceAt_16 rfl ?_
        refine zz_iload_n G dM_balanceAt_18 rfl ?_
        refine zz_callVi (v := nI v) (w' := (wx x m o)) (As := [.int (nI j), .int (nI t)]) (rest := []) G (by have q := cm_currentAt l x m o (nI j) _ t rfl (ht); rw [show sLast (fm_words m) (nI j) t = _ from hv] at q; exact q) kM_45 dM_balanceAt_19 rfl rfl rfl rfl (Nat.le_of_ble_eq_true rfl) (fun _ => rfl) ⟨Nat.le_of_ble_eq_true rfl, Nat.le_of_ble_eq_true rfl⟩ ⟨Nat.le_of_ble_eq_true rfl, Nat.le_of_ble_eq_true rfl⟩ ?_
        refine zz_istore (lv' := [some (.ref 5), some (.int a), some (.int d), some (.int (nI t)), some (.int (mBal (fm_words m) a d t j)), some (.int (nI j)), some (.int (nI v)), none]) G dM_balanceAt_22 (Nat.le_of_ble_eq_true rfl) rfl ?_
        refine zz_iload G dM_balanceAt_24 rfl ?_
        refine zz_if_lt (tgt := 91) G dM_balanceAt_26 rfl (fun h26 => (nI_pos (show v < 2 ^ 31 by omega) h26).elim) (fun h26 => ?_)
        refine zz_aload_n G dM_balanceAt_29 rfl ?_
        refine zz_iload G dM_balanceAt_30 rfl ?_
        refine zz_iconst (v := 5) G dM_balanceAt_32 (by decide) ?_
        refine zz_callVi (v := fm_words m (6 * v + 5)) (w' := (wx x m o)) (As := [.int (nI v), .int 5]) (rest := []) G (cm_word l x m o v 5 _ _ rfl rfl (by omega) (by decide)) kM_30 dM_balanceAt_33 rfl rfl rfl rfl (Nat.le_of_ble_eq_true rfl) (fun _ => rfl) ⟨Nat.le_of_ble_eq_true rfl, Nat.le_of_ble_eq_true rfl⟩ ⟨Nat.le_of_ble_eq_true rfl, Nat.le_of_ble_eq_true rfl⟩ ?_
        refine zz_iload_n G dM_balanceAt_36 rfl ?_
        refine zz_icmp_gt (tgt := 91) G dM_balanceAt_37 rfl (fun h37 => ?_) (fun h37 => ?_)
        · refine zz_iinc (v := nI (j + 1)) (lv' := [some (.ref 5), some (.int a), some (.int d), some (.int (nI t)), some (.int (mBal (fm_words m) a d t j)), some (.int (nI (j + 1))), some (.int (nI v)), none]) G dM_balanceAt_91 rfl (by rw [nI_succ] <;> rfl) rfl ?_
          refine zz_goto (tgt := 6) G dM_balanceAt_94 rfl ?_
          refine zz_few (lv' := [some (.ref 5), some (.int a), some (.int d), some (.int (nI t)), some (.int (mBal (fm_words m) a d t j)), some (.int (nI (j + 1))), none, none]) (by exact ⟨rfl, rfl, rfl, rfl, rfl, rfl, trivial⟩) ?_
          refine zz_eq (lv' := [some (.ref 5), some (.int a), some (.int d), some (.int (nI t)), some (.int (mBal (fm_words m) a d t (j + 1))), some (.int (nI (j + 1))), none, none]) rfl (by rw [show mBal (fm_words m) a d t (j + 1) = mBal (fm_words m) a d t j from by show (match sLast (fm_words m) (nI j) t with | none => _ | some v => _) = _; rw [hv]; show (if d < fm_words m (6 * v + 5) then _ else _) = _; rw [if_pos h37]]) rfl rfl ?_
          exact ih (j + 1) (by omega)
        · refine zz_aload_n G dM_balanceAt_40 rfl ?_
          refine zz_iload G dM_balanceAt_41 rfl ?_
          refine zz_iconst (v := 4) G dM_balanceAt_43 (by decide) ?_
          refine zz_callVi (v := fm_words m (6 * v + 4)) (w' := (wx x m o)) (As := [.int (nI v), .int 4]) (rest := []) G (cm_word l x m o v 4 _ _ rfl rfl (by omega) (by decide)) kM_30 dM_balanceAt_44 rfl rfl rfl rfl (Nat.le_of_ble_eq_true rfl) (fun _ => rfl) ⟨Nat.le_of_ble_eq_true rfl, Nat.le_of_ble_eq_true rfl⟩ ⟨Nat.le_of_ble_eq_true rfl, Nat.le_of_ble_eq_true rfl⟩ ?_
          refine zz_istore (lv' := [some (.ref 5), some (.int a), some (.int d), some (.int (nI t)), some (.int (mBal (fm_words m) a d t j)), some (.int (nI j)), some (.int (nI v)), some (.int (fm_words m (6 * v + 4)))]) G dM_balanceAt_47 (Nat.le_of_ble_eq_true rfl) rfl ?_
          refine zz_aload_n G dM_balanceAt_49 rfl ?_
          refine zz_iload G dM_balanceAt_50 rfl ?_
          refine zz_iconst (v := 2) G dM_balanceAt_52 (by decide) ?_
          refine zz_callVi (v := fm_words m (6 * v + 2)) (w' := (wx x m o)) (As := [.int (nI v), .int 2]) (rest := []) G (cm_word l x m o v 2 _ _ rfl rfl (by omega) (by decide)) kM_30 dM_balanceAt_53 rfl rfl rfl rfl (Nat.le_of_ble_eq_true rfl) (fun _ => rfl) ⟨Nat.le_of_ble_eq_true rfl, Nat.le_of_ble_eq_true rfl⟩ ⟨Nat.le_of_ble_eq_true rfl, Nat.le_of_ble_eq_true rfl⟩ ?_
          refine zz_iload_n G dM_balanceAt_56 rfl ?_
          refine zz_icmp_ne (tgt := 68) G dM_balanceAt_57 rfl (fun h57 => ?_) (fun h57 => ?_)
          · refine zz_aload_n G dM_balanceAt_68 rfl ?_
            refine zz_iload G dM_balanceAt_69 rfl ?_
            refine zz_iconst (v := 3) G dM_balanceAt_71 (by decide) ?_
            refine zz_callVi (v := fm_words m (6 * v + 3)) (w' := (wx x m o)) (As := [.int (nI v), .int 3]) (rest := []) G (cm_word l x m o v 3 _ _ rfl rfl (by omega) (by decide)) kM_30 dM_balanceAt_72 rfl rfl rfl rfl (Nat.le_of_ble_eq_true rfl) (fun _ => rfl) ⟨Nat.le_of_ble_eq_true rfl, Nat.le_of_ble_eq_true rfl⟩ ⟨Nat.le_of_ble_eq_true rfl, Nat.le_of_ble_eq_true rfl⟩ ?_
            refine zz_iload_n G dM_balanceAt_75 rfl ?_
            refine zz_icmp_ne (tgt := 87) G dM_balanceAt_76 rfl (fun h76 => ?_) (fun h76 => ?_)
            · refine zz_iload G dM_balanceAt_87 rfl ?_
              refine zz_istore (lv' := [some (.ref 5), some (.int a), some (.int d), some (.int (nI t)), some (.int (mBal (fm_words m) a d t j)), some (.int (nI j)), some (.int (nI v)), some (.int (fm_words m (6 * v + 4)))]) G dM_balanceAt_89 (Nat.le_of_ble_eq_true rfl) rfl ?_
              refine zz_iinc (v := nI (j + 1)) (lv' := [some (.ref 5), some (.int a), some (.int d), some (.int (nI t)), some (.int (mBal (fm_words m) a d t j)), some (.int (nI (j + 1))), some (.int (nI v)), some (.int (fm_words m (6 * v + 4)))]) G dM_balanceAt_91 rfl (by rw [nI_succ] <;> rfl) rfl ?_
              refine zz_goto (tgt := 6) G dM_balanceAt_94 rfl ?_
              refine zz_few (lv' := [some (.ref 5), some (.int a), some (.int d), some (.int (nI t)), some (.int (mBal (fm_words m) a d t j)), some (.int (nI (j + 1))), none, none]) (by exact ⟨rfl, rfl, rfl, rfl, rfl, rfl, trivial⟩) ?_
              refine zz_eq (lv' := [some (.ref 5), some (.int a), some (.int d), some (.int (nI t)), some (.int (mBal (fm_words m) a d t (j + 1))), some (.int (nI (j + 1))), none, none]) rfl (by rw [show mBal (fm_words m) a d t (j + 1) = mBal (fm_words m) a d t j from by show (match sLast (fm_words m) (nI j) t with | none => _ | some v => _) = _; rw [hv]; show (if d < fm_words m (6 * v + 5) then _ else _) = _; rw [if_neg h37, if_neg h57, if_neg h76]]) rfl rfl ?_
              exact ih (j + 1) (by omega)
            · refine zz_iload G dM_balanceAt_79 rfl ?_
              refine zz_iload G dM_balanceAt_81 rfl ?_
              refine zz_isub G dM_balanceAt_83 ?_
              refine zz_goto (tgt := 89) G dM_balanceAt_84 rfl ?_
              refine zz_istore (lv' := [some (.ref 5), some (.int a), some (.int d), some (.int (nI t)), some (.int ((mBal (fm_words m) a d t j) - (fm_words m (6 * v + 4)))), some (.int (nI j)), some (.int (nI v)), some (.int (fm_words m (6 * v + 4)))]) G dM_balanceAt_89 (Nat.le_of_ble_eq_true rfl) rfl ?_
              refine zz_iinc (v := nI (j + 1)) (lv' := [some (.ref 5), some (.int a), some (.int d), some (.int (nI t)), some (.int ((mBal (fm_words m) a d t j) - (fm_words m (6 * v + 4)))), some (.int (nI (j + 1))), some (.int (nI v)), some (.int (fm_words m (6 * v + 4)))]) G dM_balanceAt_91 rfl (by rw [nI_succ] <;> rfl) rfl ?_
              refine zz_goto (tgt := 6) G dM_balanceAt_94 rfl ?_
              refine zz_few (lv' := [some (.ref 5), some (.int a), some (.int d), some (.int (nI t)), some (.int ((mBal (fm_words m) a d t j) - (fm_words m (6 * v + 4)))), some (.int (nI (j + 1))), none, none]) (by exact ⟨rfl, rfl, rfl, rfl, rfl, rfl, trivial⟩) ?_
              refine zz_eq (lv' := [some (.ref 5), some (.int a), some (.int d), some (.int (nI t)), some (.int (mBal (fm_words m) a d t (j + 1))), some (.int (nI (j + 1))), none, none]) rfl (by rw [show mBal (fm_words m) a d t (j + 1) = (mBal (fm_words m) a d t j) - (fm_words m (6 * v + 4)) from by show (match sLast (fm_words m) (nI j) t with | none => _ | some v => _) = _; rw [hv]; show (if d < fm_words m (6 * v + 5) then _ else _) = _; rw [if_neg h37, if_neg h57, if_pos h76]]) rfl rfl ?_
              exact ih (j + 1) (by omega)
          · refine zz_iload G dM_balanceAt_60 rfl ?_
            refine zz_iload G dM_balanceAt_62 rfl ?_
            refine zz_iadd G dM_balanceAt_64 ?_
            refine zz_goto (tgt := 89) G dM_balanceAt_65 rfl ?_
            refine zz_istore (lv' := [some (.ref 5), some (.int a), some (.int d), some (.int (nI t)), some (.int ((mBal (fm_words m) a d t j) + (fm_words m (6 * v + 4)))), some (.int (nI j)), some (.int (nI v)), some (.int (fm_words m (6 * v + 4)))]) G dM_balanceAt_89 (Nat.le_of_ble_eq_true rfl) rfl ?_
            refine zz_iinc (v := nI (j + 1)) (lv' := [some (.ref 5), some (.int a), some (.int d), some (.int (nI t)), some (.int ((mBal (fm_words m) a d t j) + (fm_words m (6 * v + 4)))), some (.int (nI (j + 1))), some (.int (nI v)), some (.int (fm_words m (6 * v + 4)))]) G dM_balanceAt_91 rfl (by rw [nI_succ] <;> rfl) rfl ?_
            refine zz_goto (tgt := 6) G dM_balanceAt_94 rfl ?_
            refine zz_few (lv' := [some (.ref 5), some (.int a), some (.int d), some (.int (nI t)), some (.int ((mBal (fm_words m) a d t j) + (fm_words m (6 * v + 4)))), some (.int (nI (j + 1))), none, none]) (by exact ⟨rfl, rfl, rfl, rfl, rfl, rfl, trivial⟩) ?_
            refine zz_eq (lv' := [some (.ref 5), some (.int a), some (.int d), some (.int (nI t)), some (.int (mBal (fm_words m) a d t (j + 1))), some (.int (nI (j + 1))), none, none]) rfl (by rw [show mBal (fm_words m) a d t (j + 1) = (mBal (fm_words m) a d t j) + (fm_words m (6 * v + 4)) from by show (match sLast (fm_words m) (nI j) t with | none => _ | some v => _) = _; rw [hv]; show (if d < fm_words m (6 * v + 5) then _ else _) = _; rw [if_neg h37, if_pos h57]]) rfl rfl ?_
            exact ih (j + 1) (by omega)
  refine zz_iconst (v := 0) G dM_balanceAt_0 (by decide) ?_
  refine zz_istore (lv' := [some (.ref 5), some (.int a), some (.int d), some (.int (nI t)), some (.int 0), none, none, none]) G dM_balanceAt_1 (Nat.le_of_ble_eq_true rfl) rfl ?_
  refine zz_iconst (v := 0) G dM_balanceAt_3 (by decide) ?_
  refine zz_istore (lv' := [some (.ref 5), some (.int a), some (.int d), some (.int (nI t)), some (.int 0), some (.int 0), none, none]) G dM_balanceAt_4 (Nat.le_of_ble_eq_true rfl) rfl ?_
  exact loop e1 0 (by omega)
set_option maxRecDepth 100000 in
set_option maxHeartbeats 4000000 in
theorem cm_belongs (l : Launch) (x : XS) (m : MS) (o : Nat → Int64) (v : Nat) (iv a : Int32) (hiv : iv = nI v) (hv : v < 64) : zC l yM_belongs (Jvm.Cond.code yM_belongs bM_belongs 3 (some .boolean) :: Tw) 1 true 0 0 [.ref 5, .int iv, .int a] (wx x m o) (.inl (some (.int (sBel (fm_words m) v a)), wx x m o)) := by
  subst hiv
  refine zC_of [some (.ref 5), some (.int (nI v)), some (.int a)] (by decide) rfl (Nat.le_of_ble_eq_true rfl) ?_
  intro p e s mm args below meth c D cI cJ as G hret hex hbd
  refine zz_iload_n G dM_belongs_0 rfl ?_
  refine zz_if_lt (tgt := 38) G dM_belongs_1 rfl (fun h1 => (nI_pos (show v < 2 ^ 31 by omega) h1).elim) (fun h1 => ?_)
  refine zz_aload_n G dM_belongs_4 rfl ?_
  refine zz_iload_n G dM_belongs_5 rfl ?_
  refine zz_iconst (v := 0) G dM_belongs_6 (by decide) ?_
  refine zz_callVi (v := fm_words m (6 * v + 0)) (w' := (wx x m o)) (As := [.int (nI v), .int 0]) (rest := []) G (cm_word l x m o v 0 _ _ rfl rfl (hv) (by decide)) kM_30 dM_belongs_7 rfl rfl rfl rfl (Nat.le_of_ble_eq_true rfl) (fun _ => rfl) ⟨Nat.le_of_ble_eq_true rfl, Nat.le_of_ble_eq_true rfl⟩ ⟨Nat.le_of_ble_eq_true rfl, Nat.le_of_ble_eq_true rfl⟩ ?_
  refine zz_iconst (v := 2) G dM_belongs_10 (by decide) ?_
  refine zz_icmp_eq (tgt := 38) G dM_belongs_11 rfl (fun h11 => ?_) (fun h11 => ?_)
  · refine zz_iconst (v := 0) G dM_belongs_38 (by decide) ?_
    exact zz_zret G hret dM_belongs_39 rfl (by rw [show sBel (fm_words m) v a = 0 from by rw [sBel, if_pos h11]]) (Nat.le_of_ble_eq_true rfl) (Nat.le_of_ble_eq_true rfl)
  · refine zz_aload_n G dM_belongs_14 rfl ?_
    refine zz_iload_n G dM_belongs_15 rfl ?_
    refine zz_iconst (v := 2) G dM_belongs_16 (by decide) ?_
    refine zz_callVi (v := fm_words m (6 * v + 2)) (w' := (wx x m o)) (As := [.int (nI v), .int 2]) (rest := []) G (cm_word l x m o v 2 _ _ rfl rfl (hv) (by decide)) kM_30 dM_belongs_17 rfl rfl rfl rfl (Nat.le_of_ble_eq_true rfl) (fun _ => rfl) ⟨Nat.le_of_ble_eq_true rfl, Nat.le_of_ble_eq_true rfl⟩ ⟨Nat.le_of_ble_eq_true rfl, Nat.le_of_ble_eq_true rfl⟩ ?_
    refine zz_iload_n G dM_belongs_20 rfl ?_
    refine zz_icmp_eq (tgt := 34) G dM_belongs_21 rfl (fun h21 => ?_) (fun h21 => ?_)
    · refine zz_iconst (v := 1) G dM_belongs_34 (by decide) ?_
      refine zz_goto (tgt := 39) G dM_belongs_35 rfl ?_
      exact zz_zret G hret dM_belongs_39 rfl (by rw [show sBel (fm_words m) v a = 1 from by rw [sBel, if_neg h11, if_pos h21]]) (Nat.le_of_ble_eq_true rfl) (Nat.le_of_ble_eq_true rfl)
    · refine zz_aload_n G dM_belongs_24 rfl ?_
      refine zz_iload_n G dM_belongs_25 rfl ?_
      refine zz_iconst (v := 3) G dM_belongs_26 (by decide) ?_
      refine zz_callVi (v := fm_words m (6 * v + 3)) (w' := (wx x m o)) (As := [.int (nI v), .int 3]) (rest := []) G (cm_word l x m o v 3 _ _ rfl rfl (hv) (by decide)) kM_30 dM_belongs_27 rfl rfl rfl rfl (Nat.le_of_ble_eq_true rfl) (fun _ => rfl) ⟨Nat.le_of_ble_eq_true rfl, Nat.le_of_ble_eq_true rfl⟩ ⟨Nat.le_of_ble_eq_true rfl, Nat.le_of_ble_eq_true rfl⟩ ?_
      refine zz_iload_n G dM_belongs_30 rfl ?_
      refine zz_icmp_ne (tgt := 38) G dM_belongs_31 rfl (fun h31 => ?_) (fun h31 => ?_)
      · refine zz_iconst (v := 0) G dM_belongs_38 (by decide) ?_
        exact zz_zret G hret dM_belongs_39 rfl (by rw [show sBel (fm_words m) v a = 0 from by rw [sBel, if_neg h11, if_neg h21, if_neg h31]]) (Nat.le_of_ble_eq_true rfl) (Nat.le_of_ble_eq_true rfl)
      · refine zz_iconst (v := 1) G dM_belongs_34 (by decide) ?_
        refine zz_goto (tgt := 39) G dM_belongs_35 rfl ?_
        exact zz_zret G hret dM_belongs_39 rfl (by rw [show sBel (fm_words m) v a = 1 from by rw [sBel, if_neg h11, if_neg h21, if_pos h31]]) (Nat.le_of_ble_eq_true rfl) (Nat.le_of_ble_eq_true rfl)
set_option maxRecDepth 100000 in
set_option maxHeartbeats 4000000 in
theorem cm_belongs0 (l : Launch) (x : XS) (m : MS) (o : Nat → Int64) (a : Int32) : zC l yM_belongs (Jvm.Cond.code yM_belongs bM_belongs 3 (some .boolean) :: Tw) 1 true 0 0 [.ref 5, .int (-1), .int a] (wx x m o) (.inl (some (.int 0), wx x m o)) := by
  refine zC_of [some (.ref 5), some (.int (-1)), some (.int a)] (by decide) rfl (Nat.le_of_ble_eq_true rfl) ?_
  intro p e s mm args below meth c D cI cJ as G hret hex hbd
  refine zz_iload_n G dM_belongs_0 rfl ?_
  refine zz_if_lt (tgt := 38) G dM_belongs_1 rfl (fun h1 => ?_) (fun h1 => ((absurd h1 (by decide) : False)).elim)
  refine zz_iconst (v := 0) G dM_belongs_38 (by decide) ?_
  exact zz_zret G hret dM_belongs_39 rfl (rfl) (Nat.le_of_ble_eq_true rfl) (Nat.le_of_ble_eq_true rfl)
end
section
set_option maxRecDepth 100000 in
set_option maxHeartbeats 4000000 in
theorem cm_post (l : Launch) (x : XS) (m : MS) (o : Nat → Int64) (d c1 a y : Int32) (n e1 : Nat) (hcl : fm_clock m = nI n) (hn : n ≤ 64) (hen : fm_entries m = nI e1) (he64 : e1 ≤ 64) (hlv : fm_touched m = 0 → ∀ j, j < e1 → ∃ v, sLast (fm_words m) (nI j) n = some v) : zC l yM_post (Jvm.Cond.code yM_post bM_post 6 (some .int) :: Tw) 4 false 0 0 [.ref 5, .int d, .int c1, .int a, .int y] (wx x m o) (qPost x m o n e1 d c1 a y) := by
  refine zC_of [some (.ref 5), some (.int d), some (.int c1), some (.int a), some (.int y), none] (by decide) rfl (Nat.le_of_ble_eq_true rfl) ?_
  intro p e s mm args below meth c D cI cJ as G hret hex hbd
  refine zz_aload_n G dM_post_0 rfl ?_
  refine zz_aload_n G dM_post_1 rfl ?_
  refine zz_get (v := .int (fm_touched m)) G dM_post_2 flM_65 rfl rfl ?_
  refine zz_if_eq (tgt := 12) G dM_post_5 rfl (fun h5 => ?_) (fun h5 => ?_)
  · refine zz_iconst (v := 0) G dM_post_12 (by decide) ?_
    refine zz_put (w' := (wx x (sm_code m 0) o)) rfl G dM_post_13 flM_23 rfl rfl rfl (Nat.le_of_ble_eq_true rfl) rfl ?_
    refine zz_aload_n G dM_post_16 rfl ?_
    refine zz_get (v := .int 0) G dM_post_17 flM_23 rfl rfl ?_
    refine zz_if_ne (tgt := 112) G dM_post_20 rfl (fun h20 => ((absurd h20 (by decide) : False)).elim) (fun h20 => ?_)
    refine zz_iload_n G dM_post_23 rfl ?_
    refine zz_callSi (v := sAcc d) (w' := (wx x (sm_code m 0) o)) (As := [.int d]) (rest := []) G (cm_isAccount l x (sm_code m 0) o d) kM_69 dM_post_24 rfl rfl (Nat.le_of_ble_eq_true rfl) (fun _ => rfl) ⟨Nat.le_of_ble_eq_true rfl, Nat.le_of_ble_eq_true rfl⟩ ⟨Nat.le_of_ble_eq_true rfl, Nat.le_of_ble_eq_true rfl⟩ ?_
    refine zz_if_eq (tgt := 58) G dM_post_27 rfl (fun h27 => ?_) (fun h27 => ?_)
    · refine zz_iconst (v := 0) G dM_post_58 (by decide) ?_
      refine zz_istore (lv' := [some (.ref 5), some (.int d), some (.int c1), some (.int a), some (.int y), some (.int 0)]) G dM_post_59 (Nat.le_of_ble_eq_true rfl) rfl ?_
      refine zz_aload_n G dM_post_61 rfl ?_
      refine zz_iload G dM_post_62 rfl ?_
      refine zz_if_ne (tgt := 71) G dM_post_64 rfl (fun h64 => ((absurd h64 (by decide) : False)).elim) (fun h64 => ?_)
      refine zz_iconst (v := 2) G dM_post_67 (by decide) ?_
      refine zz_goto (tgt := 109) G dM_post_68 rfl ?_
      refine zz_put (w' := (wx x (sm_code m 2) o)) rfl G dM_post_109 flM_23 rfl rfl rfl (Nat.le_of_ble_eq_true rfl) rfl ?_
      refine zz_aload_n G dM_post_112 rfl ?_
      refine zz_get (v := .int 2) G dM_post_113 flM_23 rfl rfl ?_
      refine zz_if_le (tgt := 121) G dM_post_116 rfl (fun h116 => ((absurd h116 (by decide) : False)).elim) (fun h116 => ?_)
      refine zz_iconst (v := 0) G dM_post_119 (by decide) ?_
      exact zz_iret G hret dM_post_120 (by rw [qPost, if_pos h5, if_pos h27] <;> rfl) (Nat.le_of_ble_eq_true rfl) (Nat.le_of_ble_eq_true rfl)
    · refine zz_iload_n G dM_post_30 rfl ?_
      refine zz_callSi (v := sAcc c1) (w' := (wx x (sm_code m 0) o)) (As := [.int c1]) (rest := []) G (cm_isAccount l x (sm_code m 0) o c1) kM_69 dM_post_31 rfl rfl (Nat.le_of_ble_eq_true rfl) (fun _ => rfl) ⟨Nat.le_of_ble_eq_true rfl, Nat.le_of_ble_eq_true rfl⟩ ⟨Nat.le_of_ble_eq_true rfl, Nat.le_of_ble_eq_true rfl⟩ ?_
      refine zz_if_eq (tgt := 58) G dM_post_34 rfl (fun h34 => ?_) (fun h34 => ?_)
      · refine zz_iconst (v := 0) G dM_post_58 (by decide) ?_
        refine zz_istore (lv' := [some (.ref 5), some (.int d), some (.int c1), some (.int a), some (.int y), some (.int 0)]) G dM_post_59 (Nat.le_of_ble_eq_true rfl) rfl ?_
        refine zz_aload_n G dM_post_61 rfl ?_
        refine zz_iload G dM_post_62 rfl ?_
        refine zz_if_ne (tgt := 71) G dM_post_64 rfl (fun h64 => ((absurd h64 (by decide) : False)).elim) (fun h64 => ?_)
        refine zz_iconst (v := 2) G dM_post_67 (by decide) ?_
        refine zz_goto (tgt := 109) G dM_post_68 rfl ?_
        refine zz_put (w' := (wx x (sm_code m 2) o)) rfl G dM_post_109 flM_23 rfl rfl rfl (Nat.le_of_ble_eq_true rfl) rfl ?_
        refine zz_aload_n G dM_post_112 rfl ?_
        refine zz_get (v := .int 2) G dM_post_113 flM_23 rfl rfl ?_
        refine zz_if_le (tgt := 121) G dM_post_116 rfl (fun h116 => ((absurd h116 (by decide) : False)).elim) (fun h116 => ?_)
        refine zz_iconst (v := 0) G dM_post_119 (by decide) ?_
        exact zz_iret G hret dM_post_120 (by rw [qPost, if_pos h5, if_neg h27, if_pos h34] <;> rfl) (Nat.le_of_ble_eq_true rfl) (Nat.le_of_ble_eq_true rfl)
      · refine zz_iload_n G dM_post_37 rfl ?_
        refine zz_iload_n G dM_post_38 rfl ?_
        refine zz_icmp_eq (tgt := 58) G dM_post_39 rfl (fun h39 => ?_) (fun h39 => ?_)
        · refine zz_iconst (v := 0) G dM_post_58 (by decide) ?_
          refine zz_istore (lv' := [some (.ref 5), some (.int d), some (.int c1), some (.int a), some (.int y), some (.int 0)]) G dM_post_59 (Nat.le_of_ble_eq_true rfl) rfl ?_
          refine zz_aload_n G dM_post_61 rfl ?_
          refine zz_iload G dM_post_62 rfl ?_
          refine zz_if_ne (tgt := 71) G dM_post_64 rfl (fun h64 => ((absurd h64 (by decide) : False)).elim) (fun h64 => ?_)
          refine zz_iconst (v := 2) G dM_post_67 (by decide) ?_
          refine zz_goto (tgt := 109) G dM_post_68 rfl ?_
          refine zz_put (w' := (wx x (sm_code m 2) o)) rfl G dM_post_109 flM_23 rfl rfl rfl (Nat.le_of_ble_eq_true rfl) rfl ?_
          refine zz_aload_n G dM_post_112 rfl ?_
          refine zz_get (v := .int 2) G dM_post_113 flM_23 rfl rfl ?_
          refine zz_if_le (tgt := 121) G dM_post_116 rfl (fun h116 => ((absurd h116 (by decide) : False)).elim) (fun h116 => ?_)
          refine zz_iconst (v := 0) G dM_post_119 (by decide) ?_
          exact zz_iret G hret dM_post_120 (by rw [qPost, if_pos h5, if_neg h27, if_neg h34, if_pos h39] <;> rfl) (Nat.le_of_ble_eq_true rfl) (Nat.le_of_ble_eq_true rfl)
        · refine zz_iload_n G dM_post_42 rfl ?_
          refine zz_if_le (tgt := 58) G dM_post_43 rfl (fun h43 => ?_) (fun h43 => ?_)
          · refine zz_iconst (v := 0) G dM_post_58 (by decide) ?_
            refine zz_istore (lv' := [some (.ref 5), some (.int d), some (.int c1), some (.int a), some (.int y), some (.int 0)]) G dM_post_59 (Nat.le_of_ble_eq_true rfl) rfl ?_
            refine zz_aload_n G dM_post_61 rfl ?_
            refine zz_iload G dM_post_62 rfl ?_
            refine zz_if_ne (tgt := 71) G dM_post_64 rfl (fun h64 => ((absurd h64 (by decide) : False)).elim) (fun h64 => ?_)
            refine zz_iconst (v := 2) G dM_post_67 (by decide) ?_
            refine zz_goto (tgt := 109) G dM_post_68 rfl ?_
            refine zz_put (w' := (wx x (sm_code m 2) o)) rfl G dM_post_109 flM_23 rfl rfl rfl (Nat.le_of_ble_eq_true rfl) rfl ?_
            refine zz_aload_n G dM_post_112 rfl ?_
            refine zz_get (v := .int 2) G dM_post_113 flM_23 rfl rfl ?_
            refine zz_if_le (tgt := 121) G dM_post_116 rfl (fun h116 => ((absurd h116 (by decide) : False)).elim) (fun h116 => ?_)
            refine zz_iconst (v := 0) G dM_post_119 (by decide) ?_
            exact zz_iret G hret dM_post_120 (by rw [qPost, if_pos h5, if_neg h27, if_neg h34, if_neg h39, if_pos h43] <;> rfl) (Nat.le_of_ble_eq_true rfl) (Nat.le_of_ble_eq_true rfl)
          · refine zz_iload G dM_post_46 rfl ?_
            refine zz_callSi (v := sDay y) (w' := (wx x (sm_code m 0) o)) (As := [.int y]) (rest := []) G (cm_isDay l x (sm_code m 0) o y) kM_73 dM_post_48 rfl rfl (Nat.le_of_ble_eq_true rfl) (fun _ => rfl) ⟨Nat.le_of_ble_eq_true rfl, Nat.le_of_ble_eq_true rfl⟩ ⟨Nat.le_of_ble_eq_true rfl, Nat.le_of_ble_eq_true rfl⟩ ?_
            refine zz_if_eq (tgt := 58) G dM_post_51 rfl (fun h51 => ?_) (fun h51 => ?_)
            · refine zz_iconst (v := 0) G dM_post_58 (by decide) ?_
              refine zz_istore (lv' := [some (.ref 5), some (.int d), some (.int c1), some (.int a), some (.int y), some (.int 0)]) G dM_post_59 (Nat.le_of_ble_eq_true rfl) rfl ?_
              refine zz_aload_n G dM_post_61 rfl ?_
              refine zz_iload G dM_post_62 rfl ?_
              refine zz_if_ne (tgt := 71) G dM_post_64 rfl (fun h64 => ((absurd h64 (by decide) : False)).elim) (fun h64 => ?_)
              refine zz_iconst (v := 2) G dM_post_67 (by decide) ?_
              refine zz_goto (tgt := 109) G dM_post_68 rfl ?_
              refine zz_put (w' := (wx x (sm_code m 2) o)) rfl G dM_post_109 flM_23 rfl rfl rfl (Nat.le_of_ble_eq_true rfl) rfl ?_
              refine zz_aload_n G dM_post_112 rfl ?_
              refine zz_get (v := .int 2) G dM_post_113 flM_23 rfl rfl ?_
              refine zz_if_le (tgt := 121) G dM_post_116 rfl (fun h116 => ((absurd h116 (by decide) : False)).elim) (fun h116 => ?_)
              refine zz_iconst (v := 0) G dM_post_119 (by decide) ?_
              exact zz_iret G hret dM_post_120 (by rw [qPost, if_pos h5, if_neg h27, if_neg h34, if_neg h39, if_neg h43, if_pos h51] <;> rfl) (Nat.le_of_ble_eq_true rfl) (Nat.le_of_ble_eq_true rfl)
            · refine zz_iconst (v := 1) G dM_post_54 (by decide) ?_
              refine zz_goto (tgt := 59) G dM_post_55 rfl ?_
              refine zz_istore (lv' := [some (.ref 5), some (.int d), some (.int c1), some (.int a), some (.int y), some (.int 1)]) G dM_post_59 (Nat.le_of_ble_eq_true rfl) rfl ?_
              refine zz_aload_n G dM_post_61 rfl ?_
              refine zz_iload G dM_post_62 rfl ?_
              refine zz_if_ne (tgt := 71) G dM_post_64 rfl (fun h64 => ?_) (fun h64 => ((absurd h64 (by decide) : False)).elim)
              refine zz_aload_n G dM_post_71 rfl ?_
              refine zz_get (v := .int (fm_clock m)) G dM_post_72 flM_27 rfl rfl ?_
              refine zz_bipush (v := 64) G dM_post_75 (by decide) ?_
              refine zz_icmp_ne (tgt := 84) G dM_post_77 rfl (fun h77 => ?_) (fun h77 => ?_)
              · refine zz_aload_n G dM_post_84 rfl ?_
                refine zz_iload_n G dM_post_85 rfl ?_
                refine zz_iload_n G dM_post_86 rfl ?_
                refine zz_i2l G dM_post_87 ?_
                refine zz_callVi (v := sMuch (fm_words m) d n e1 a.toInt64) (w' := (wx x (sm_code m 0) o)) (As := [.int d, .long a.toInt64]) (rest := [.ref 5]) G (cm_tooMuch l x (sm_code m 0) o d a.toInt64 n e1 hcl hn hen he64 (hlv h5)) kM_76 dM_post_88 rfl rfl rfl rfl (Nat.le_of_ble_eq_true rfl) (fun _ => rfl) ⟨Nat.le_of_ble_eq_true rfl, Nat.le_of_ble_eq_true rfl⟩ ⟨Nat.le_of_ble_eq_true rfl, Nat.le_of_ble_eq_true rfl⟩ ?_
                refine zz_if_ne (tgt := 104) G dM_post_91 rfl (fun h91 => ?_) (fun h91 => ?_)
                · refine zz_iconst (v := 4) G dM_post_104 (by decide) ?_
                  refine zz_goto (tgt := 109) G dM_post_105 rfl ?_
                  refine zz_put (w' := (wx x (sm_code m 4) o)) rfl G dM_post_109 flM_23 rfl rfl rfl (Nat.le_of_ble_eq_true rfl) rfl ?_
                  refine zz_aload_n G dM_post_112 rfl ?_
                  refine zz_get (v := .int 4) G dM_post_113 flM_23 rfl rfl ?_
                  refine zz_if_le (tgt := 121) G dM_post_116 rfl (fun h116 => ((absurd h116 (by decide) : False)).elim) (fun h116 => ?_)
                  refine zz_iconst (v := 0) G dM_post_119 (by decide) ?_
                  exact zz_iret G hret dM_post_120 (by rw [qPost, if_pos h5, if_neg h27, if_neg h34, if_neg h39, if_neg h43, if_neg h51, if_neg h77, if_neg h91] <;> rfl) (Nat.le_of_ble_eq_true rfl) (Nat.le_of_ble_eq_true rfl)
                · refine zz_aload_n G dM_post_94 rfl ?_
                  refine zz_iload_n G dM_post_95 rfl ?_
                  refine zz_iload_n G dM_post_96 rfl ?_
                  refine zz_i2l G dM_post_97 ?_
                  refine zz_callVi (v := sMuch (fm_words m) c1 n e1 a.toInt64) (w' := (wx x (sm_code m 0) o)) (As := [.int c1, .long a.toInt64]) (rest := [.ref 5]) G (cm_tooMuch l x (sm_code m 0) o c1 a.toInt64 n e1 hcl hn hen he64 (hlv h5)) kM_76 dM_post_98 rfl rfl rfl rfl (Nat.le_of_ble_eq_true rfl) (fun _ => rfl) ⟨Nat.le_of_ble_eq_true rfl, Nat.le_of_ble_eq_true rfl⟩ ⟨Nat.le_of_ble_eq_true rfl, Nat.le_of_ble_eq_true rfl⟩ ?_
                  refine zz_if_eq (tgt := 108) G dM_post_101 rfl (fun h101 => ?_) (fun h101 => ?_)
                  · refine zz_iconst (v := 0) G dM_post_108 (by decide) ?_
                    refine zz_put (w' := (wx x (sm_code m 0) o)) rfl G dM_post_109 flM_23 rfl rfl rfl (Nat.le_of_ble_eq_true rfl) rfl ?_
                    refine zz_aload_n G dM_post_112 rfl ?_
                    refine zz_get (v := .int 0) G dM_post_113 flM_23 rfl rfl ?_
                    refine zz_if_le (tgt := 121) G dM_post_116 rfl (fun h116 => ?_) (fun h116 => ((absurd h116 (by decide) : False)).elim)
                    refine zz_aload_n G dM_post_121 rfl ?_
                    refine zz_iconst (v := 0) G dM_post_122 (by decide) ?_
                    refine zz_aload_n G dM_post_123 rfl ?_
                    refine zz_get (v := .int (nI e1)) G dM_post_124 flM_42 rfl (by rw [← hen]; rfl) ?_
                    refine zz_iload_n G dM_post_127 rfl ?_
                    refine zz_iload_n G dM_post_128 rfl ?_
                    refine zz_iload_n G dM_post_129 rfl ?_
                    refine zz_iload G dM_post_130 rfl ?_
                    refine zz_callVi (v := nI n) (w' := (wx x (mApp (sm_code m 0) n 0 (nI e1) d c1 a y) o)) (As := [.int 0, .int (nI e1), .int d, .int c1, .int a, .int y]) (rest := []) G (cm_add l x (sm_code m 0) o n 0 (nI e1) d c1 a y hcl (ne64 hcl hn h77)) kM_80 dM_post_132 rfl rfl rfl rfl (Nat.le_of_ble_eq_true rfl) (fun h => by cases h) ⟨Nat.le_of_ble_eq_true rfl, Nat.le_of_ble_eq_true rfl⟩ ⟨Nat.le_of_ble_eq_true rfl, Nat.le_of_ble_eq_true rfl⟩ ?_
                    refine zz_popi G dM_post_135 ?_
                    refine zz_aload_n G dM_post_136 rfl ?_
                    refine zz_aload_n G dM_post_137 rfl ?_
                    refine zz_get (v := .int (nI e1)) G dM_post_138 flM_42 rfl (by rw [← hen]; rfl) ?_
                    refine zz_iconst (v := 1) G dM_post_141 (by decide) ?_
                    refine zz_iadd G dM_post_142 ?_
                    refine zz_put (w' := (wx x (sm_entries (mApp (sm_code m 0) n 0 (nI e1) d c1 a y) ((nI e1) + 1)) o)) rfl G dM_post_143 flM_42 rfl rfl rfl (Nat.le_of_ble_eq_true rfl) rfl ?_
                    refine zz_aload_n G dM_post_146 rfl ?_
                    refine zz_get (v := .int ((nI e1) + 1)) G dM_post_147 flM_42 rfl rfl ?_
                    refine zz_iconst (v := 1) G dM_post_150 (by decide) ?_
                    refine zz_isub G dM_post_151 ?_
                    exact zz_iret G hret dM_post_152 (by rw [qPost, if_pos h5, if_neg h27, if_neg h34, if_neg h39, if_neg h43, if_neg h51, if_neg h77, if_pos h91, if_pos h101] <;> rfl) (Nat.le_of_ble_eq_true rfl) (Nat.le_of_ble_eq_true rfl)
                  · refine zz_iconst (v := 4) G dM_post_104 (by decide) ?_
                    refine zz_goto (tgt := 109) G dM_post_105 rfl ?_
                    refine zz_put (w' := (wx x (sm_code m 4) o)) rfl G dM_post_109 flM_23 rfl rfl rfl (Nat.le_of_ble_eq_true rfl) rfl ?_
                    refine zz_aload_n G dM_post_112 rfl ?_
                    refine zz_get (v := .int 4) G dM_post_113 flM_23 rfl rfl ?_
                    refine zz_if_le (tgt := 121) G dM_post_116 rfl (fun h116 => ((absurd h116 (by decide) : False)).elim) (fun h116 => ?_)
                    refine zz_iconst (v := 0) G dM_post_119 (by decide) ?_
                    exact zz_iret G hret dM_post_120 (by rw [qPost, if_pos h5, if_neg h27, if_neg h34, if_neg h39, if_neg h43, if_neg h51, if_neg h77, if_pos h91, if_neg h101] <;> rfl) (Nat.le_of_ble_eq_true rfl) (Nat.le_of_ble_eq_true rfl)
              · refine zz_iconst (v := 3) G dM_post_80 (by decide) ?_
                refine zz_goto (tgt := 109) G dM_post_81 rfl ?_
                refine zz_put (w' := (wx x (sm_code m 3) o)) rfl G dM_post_109 flM_23 rfl rfl rfl (Nat.le_of_ble_eq_true rfl) rfl ?_
                refine zz_aload_n G dM_post_112 rfl ?_
                refine zz_get (v := .int 3) G dM_post_113 flM_23 rfl rfl ?_
                refine zz_if_le (tgt := 121) G dM_post_116 rfl (fun h116 => ((absurd h116 (by decide) : False)).elim) (fun h116 => ?_)
                refine zz_iconst (v := 0) G dM_post_119 (by decide) ?_
                exact zz_iret G hret dM_post_120 (by rw [qPost, if_pos h5, if_neg h27, if_neg h34, if_neg h39, if_neg h43, if_neg h51, if_pos h77] <;> rfl) (Nat.le_of_ble_eq_true rfl) (Nat.le_of_ble_eq_true rfl)
  · refine zz_iconst (v := 1) G dM_post_8 (by decide) ?_
    refine zz_goto (tgt := 13) G dM_post_9 rfl ?_
    refine zz_put (w' := (wx x (sm_code m 1) o)) rfl G dM_post_13 flM_23 rfl rfl rfl (Nat.le_of_ble_eq_true rfl) rfl ?_
    refine zz_aload_n G dM_post_16 rfl ?_
    refine zz_get (v := .int 1) G dM_post_17 flM_23 rfl rfl ?_
    refine zz_if_ne (tgt := 112) G dM_post_20 rfl (fun h20 => ?_) (fun h20 => ((absurd h20 (by decide) : False)).elim)
    refine zz_aload_n G dM_post_112 rfl ?_
    refine zz_get (v := .int 1) G dM_post_113 flM_23 rfl rfl ?_
    refine zz_if_le (tgt := 121) G dM_post_116 rfl (fun h116 => ((absurd h116 (by decide) : False)).elim) (fun h116 => ?_)
    refine zz_iconst (v := 0) G dM_post_119 (by decide) ?_
    exact zz_iret G hret dM_post_120 (by rw [qPost, if_neg h5] <;> rfl) (Nat.le_of_ble_eq_true rfl) (Nat.le_of_ble_eq_true rfl)
set_option maxRecDepth 100000 in
set_option maxHeartbeats 4000000 in
theorem cm_correct (l : Launch) (x : XS) (m : MS) (o : Nat → Int64) (en a : Int32) (n e1 : Nat) (hcl : fm_clock m = nI n) (hn : n ≤ 64) (hen : fm_entries m = nI e1) (he64 : e1 ≤ 64) (hlv : fm_touched m = 0 → ∀ j, j < e1 → ∃ v, sLast (fm_words m) (nI j) n = some v) : zC l yM_correct (Jvm.Cond.code yM_correct bM_correct 6 (some .int) :: Tw) 4 false 0 0 [.ref 5, .int en, .int a] (wx x m o) (qCorr x m o n e1 en a) := by
  refine zC_of [some (.ref 5), some (.int en), some (.int a), none, none, none] (by decide) rfl (Nat.le_of_ble_eq_true rfl) ?_
  intro p e s mm args below meth c D cI cJ as G hret hex hbd
  rcases hq : sLiv (fm_words m) n e1 en with _ | u
  · refine zz_aload_n G dM_correct_0 rfl ?_
    refine zz_aload_n G dM_correct_1 rfl ?_
    refine zz_get (v := .int (fm_touched m)) G dM_correct_2 flM_65 rfl rfl ?_
    refine zz_if_eq (tgt := 12) G dM_correct_5 rfl (fun h5 => ?_) (fun h5 => ?_)
    · refine zz_aload_n G dM_correct_12 rfl ?_
      refine zz_iload_n G dM_correct_13 rfl ?_
      refine zz_callVi (v := (-1)) (w' := (wx x m o)) (As := [.int en]) (rest := [.ref 5]) G (by have q := cm_living l x m o en n e1 hcl hn hen he64; rw [show sLiv (fm_words m) n e1 en = _ from hq] at q; exact q) kM_84 dM_correct_14 rfl rfl rfl rfl (Nat.le_of_ble_eq_true rfl) (fun _ => rfl) ⟨Nat.le_of_ble_eq_true rfl, Nat.le_of_ble_eq_true rfl⟩ ⟨Nat.le_of_ble_eq_true rfl, Nat.le_of_ble_eq_true rfl⟩ ?_
      refine zz_if_ge (tgt := 24) G dM_correct_17 rfl (fun h17 => ((absurd h17 (by decide) : False)).elim) (fun h17 => ?_)
      refine zz_iconst (v := 2) G dM_correct_20 (by decide) ?_
      refine zz_goto (tgt := 47) G dM_correct_21 rfl ?_
      refine zz_put (w' := (wx x (sm_code m 2) o)) rfl G dM_correct_47 flM_23 rfl rfl rfl (Nat.le_of_ble_eq_true rfl) rfl ?_
      refine zz_aload_n G dM_correct_50 rfl ?_
      refine zz_get (v := .int 2) G dM_correct_51 flM_23 rfl rfl ?_
      refine zz_if_le (tgt := 59) G dM_correct_54 rfl (fun h54 => ((absurd h54 (by decide) : False)).elim) (fun h54 => ?_)
      refine zz_iconst (v := 0) G dM_correct_57 (by decide) ?_
      exact zz_iret G hret dM_correct_58 (by rw [qCorr, if_pos h5, hq] <;> rfl) (Nat.le_of_ble_eq_true rfl) (Nat.le_of_ble_eq_true rfl)
    · refine zz_iconst (v := 1) G dM_correct_8 (by decide) ?_
      refine zz_goto (tgt := 47) G dM_correct_9 rfl ?_
      refine zz_put (w' := (wx x (sm_code m 1) o)) rfl G dM_correct_47 flM_23 rfl rfl rfl (Nat.le_of_ble_eq_true rfl) rfl ?_
      refine zz_aload_n G dM_correct_50 rfl ?_
      refine zz_get (v := .int 1) G dM_correct_51 flM_23 rfl rfl ?_
      refine zz_if_le (tgt := 59) G dM_correct_54 rfl (fun h54 => ((absurd h54 (by decide) : False)).elim) (fun h54 => ?_)
      refine zz_iconst (v := 0) G dM_correct_57 (by decide) ?_
      exact zz_iret G hret dM_correct_58 (by rw [qCorr, if_neg h5] <;> rfl) (Nat.le_of_ble_eq_true rfl) (Nat.le_of_ble_eq_true rfl)
  · have hu : u < n := sLiv_lt hq
    refine zz_aload_n G dM_correct_0 rfl ?_
    refine zz_aload_n G dM_correct_1 rfl ?_
    refine zz_get (v := .int (fm_touched m)) G dM_correct_2 flM_65 rfl rfl ?_
    refine zz_if_eq (tgt := 12) G dM_correct_5 rfl (fun h5 => ?_) (fun h5 => ?_)
    · refine zz_aload_n G dM_correct_12 rfl ?_
      refine zz_iload_n G dM_correct_13 rfl ?_
      refine zz_callVi (v := nI u) (w' := (wx x m o)) (As := [.int en]) (rest := [.ref 5]) G (by have q := cm_living l x m o en n e1 hcl hn hen he64; rw [show sLiv (fm_words m) n e1 en = _ from hq] at q; exact q) kM_84 dM_correct_14 rfl rfl rfl rfl (Nat.le_of_ble_eq_true rfl) (fun _ => rfl) ⟨Nat.le_of_ble_eq_true rfl, Nat.le_of_ble_eq_true rfl⟩ ⟨Nat.le_of_ble_eq_true rfl, Nat.le_of_ble_eq_true rfl⟩ ?_
      refine zz_if_ge (tgt := 24) G dM_correct_17 rfl (fun h17 => ?_) (fun h17 => (h17 (i32_nn (nI_pos (show u < 2 ^ 31 by omega)))).elim)
      refine zz_iload_n G dM_correct_24 rfl ?_
      refine zz_iconst (v := 1) G dM_correct_25 (by decide) ?_
      refine zz_icmp_ge (tgt := 33) G dM_correct_26 rfl (fun h26 => ?_) (fun h26 => ?_)
      · refine zz_aload_n G dM_correct_33 rfl ?_
        refine zz_get (v := .int (fm_clock m)) G dM_correct_34 flM_27 rfl rfl ?_
        refine zz_bipush (v := 64) G dM_correct_37 (by decide) ?_
        refine zz_icmp_ne (tgt := 46) G dM_correct_39 rfl (fun h39 => ?_) (fun h39 => ?_)
        · refine zz_iconst (v := 0) G dM_correct_46 (by decide) ?_
          refine zz_put (w' := (wx x (sm_code m 0) o)) rfl G dM_correct_47 flM_23 rfl rfl rfl (Nat.le_of_ble_eq_true rfl) rfl ?_
          refine zz_aload_n G dM_correct_50 rfl ?_
          refine zz_get (v := .int 0) G dM_correct_51 flM_23 rfl rfl ?_
          refine zz_if_le (tgt := 59) G dM_correct_54 rfl (fun h54 => ?_) (fun h54 => ((absurd h54 (by decide) : False)).elim)
          refine zz_aload_n G dM_correct_59 rfl ?_
          refine zz_iload_n G dM_correct_60 rfl ?_
          refine zz_callVi (v := nI u) (w' := (wx x (sm_code m 0) o)) (As := [.int en]) (rest := []) G (by have q := cm_living l x (sm_code m 0) o en n e1 hcl hn hen he64; rw [show sLiv (fm_words (sm_code m 0)) n e1 en = _ from hq] at q; exact q) kM_84 dM_correct_61 rfl rfl rfl rfl (Nat.le_of_ble_eq_true rfl) (fun _ => rfl) ⟨Nat.le_of_ble_eq_true rfl, Nat.le_of_ble_eq_true rfl⟩ ⟨Nat.le_of_ble_eq_true rfl, Nat.le_of_ble_eq_true rfl⟩ ?_
          refine zz_istore_n (lv' := [some (.ref 5), some (.int en), some (.int a), some (.int (nI u)), none, none]) G dM_correct_64 (Nat.le_of_ble_eq_true rfl) rfl ?_
          refine zz_iload_n G dM_correct_65 rfl ?_
          refine zz_i2l G dM_correct_66 ?_
          refine zz_aload_n G dM_correct_67 rfl ?_
          refine zz_iload_n G dM_correct_68 rfl ?_
          refine zz_iconst (v := 4) G dM_correct_69 (by decide) ?_
          refine zz_callVi (v := fm_words m (6 * u + 4)) (w' := (wx x (sm_code m 0) o)) (As := [.int (nI u), .int 4]) (rest := [.long a.toInt64]) G (cm_word l x (sm_code m 0) o u 4 _ _ rfl rfl (by omega) (by decide)) kM_30 dM_correct_70 rfl rfl rfl rfl (Nat.le_of_ble_eq_true rfl) (fun _ => rfl) ⟨Nat.le_of_ble_eq_true rfl, Nat.le_of_ble_eq_true rfl⟩ ⟨Nat.le_of_ble_eq_true rfl, Nat.le_of_ble_eq_true rfl⟩ ?_
          refine zz_i2l G dM_correct_73 ?_
          refine zz_lsub G dM_correct_74 ?_
          refine zz_lstore (lv' := [some (.ref 5), some (.int en), some (.int a), some (.int (nI u)), some (.long (a.toInt64 - ((fm_words m (6 * u + 4)).toInt64))), none]) G dM_correct_75 (Nat.le_of_ble_eq_true rfl) rfl ?_
          refine zz_aload_n G dM_correct_77 rfl ?_
          refine zz_aload_n G dM_correct_78 rfl ?_
          refine zz_aload_n G dM_correct_79 rfl ?_
          refine zz_iload_n G dM_correct_80 rfl ?_
          refine zz_iconst (v := 2) G dM_correct_81 (by decide) ?_
          refine zz_callVi (v := fm_words m (6 * u + 2)) (w' := (wx x (sm_code m 0) o)) (As := [.int (nI u), .int 2]) (rest := [.ref 5, .ref 5]) G (cm_word l x (sm_code m 0) o u 2 _ _ rfl rfl (by omega) (by decide)) kM_30 dM_correct_82 rfl rfl rfl rfl (Nat.le_of_ble_eq_true rfl) (fun _ => rfl) ⟨Nat.le_of_ble_eq_true rfl, Nat.le_of_ble_eq_true rfl⟩ ⟨Nat.le_of_ble_eq_true rfl, Nat.le_of_ble_eq_true rfl⟩ ?_
          refine zz_lload G dM_correct_85 rfl ?_
          refine zz_callVi (v := sMuch (fm_words m) (fm_words m (6 * u + 2)) n e1 (a.toInt64 - ((fm_words m (6 * u + 4)).toInt64))) (w' := (wx x (sm_code m 0) o)) (As := [.int (fm_words m (6 * u + 2)), .long (a.toInt64 - ((fm_words m (6 * u + 4)).toInt64))]) (rest := [.ref 5]) G (cm_tooMuch l x (sm_code m 0) o (fm_words m (6 * u + 2)) (a.toInt64 - ((fm_words m (6 * u + 4)).toInt64)) n e1 hcl hn hen he64 (hlv h5)) kM_76 dM_correct_87 rfl rfl rfl rfl (Nat.le_of_ble_eq_true rfl) (fun _ => rfl) ⟨Nat.le_of_ble_eq_true rfl, Nat.le_of_ble_eq_true rfl⟩ ⟨Nat.le_of_ble_eq_true rfl, Nat.le_of_ble_eq_true rfl⟩ ?_
          refine zz_if_ne (tgt := 108) G dM_correct_90 rfl (fun h90 => ?_) (fun h90 => ?_)
          · refine zz_iconst (v := 5) G dM_correct_108 (by decide) ?_
            refine zz_goto (tgt := 113) G dM_correct_109 rfl ?_
            refine zz_put (w' := (wx x (sm_code m 5) o)) rfl G dM_correct_113 flM_23 rfl rfl rfl (Nat.le_of_ble_eq_true rfl) rfl ?_
            refine zz_aload_n G dM_correct_116 rfl ?_
            refine zz_get (v := .int 5) G dM_correct_117 flM_23 rfl rfl ?_
            refine zz_if_le (tgt := 127) G dM_correct_120 rfl (fun h120 => ((absurd h120 (by decide) : False)).elim) (fun h120 => ?_)
            refine zz_iconst (v := 0) G dM_correct_123 (by decide) ?_
            refine zz_goto (tgt := 152) G dM_correct_124 rfl ?_
            exact zz_iret G hret dM_correct_152 (by rw [qCorr, if_pos h5, hq]; show (if 1 ≤ a then _ else _) = _; rw [if_pos h26, if_neg h39, if_neg h90] <;> rfl) (Nat.le_of_ble_eq_true rfl) (Nat.le_of_ble_eq_true rfl)
          · refine zz_aload_n G dM_correct_93 rfl ?_
            refine zz_aload_n G dM_correct_94 rfl ?_
            refine zz_iload_n G dM_correct_95 rfl ?_
            refine zz_iconst (v := 3) G dM_correct_96 (by decide) ?_
            refine zz_callVi (v := fm_words m (6 * u + 3)) (w' := (wx x (sm_code m 0) o)) (As := [.int (nI u), .int 3]) (rest := [.ref 5, .ref 5]) G (cm_word l x (sm_code m 0) o u 3 _ _ rfl rfl (by omega) (by decide)) kM_30 dM_correct_97 rfl rfl rfl rfl (Nat.le_of_ble_eq_true rfl) (fun _ => rfl) ⟨Nat.le_of_ble_eq_true rfl, Nat.le_of_ble_eq_true rfl⟩ ⟨Nat.le_of_ble_eq_true rfl, Nat.le_of_ble_eq_true rfl⟩ ?_
            refine zz_lload G dM_correct_100 rfl ?_
            refine zz_callVi (v := sMuch (fm_words m) (fm_words m (6 * u + 3)) n e1 (a.toInt64 - ((fm_words m (6 * u + 4)).toInt64))) (w' := (wx x (sm_code m 0) o)) (As := [.int (fm_words m (6 * u + 3)), .long (a.toInt64 - ((fm_words m (6 * u + 4)).toInt64))]) (rest := [.ref 5]) G (cm_tooMuch l x (sm_code m 0) o (fm_words m (6 * u + 3)) (a.toInt64 - ((fm_words m (6 * u + 4)).toInt64)) n e1 hcl hn hen he64 (hlv h5)) kM_76 dM_correct_102 rfl rfl rfl rfl (Nat.le_of_ble_eq_true rfl) (fun _ => rfl) ⟨Nat.le_of_ble_eq_true rfl, Nat.le_of_ble_eq_true rfl⟩ ⟨Nat.le_of_ble_eq_true rfl, Nat.le_of_ble_eq_true rfl⟩ ?_
            refine zz_if_eq (tgt := 112) G dM_correct_105 rfl (fun h105 => ?_) (fun h105 => ?_)
            · refine zz_iconst (v := 0) G dM_correct_112 (by decide) ?_
              refine zz_put (w' := (wx x (sm_code m 0) o)) rfl G dM_correct_113 flM_23 rfl rfl rfl (Nat.le_of_ble_eq_true rfl) rfl ?_
              refine zz_aload_n G dM_correct_116 rfl ?_
              refine zz_get (v := .int 0) G dM_correct_117 flM_23 rfl rfl ?_
              refine zz_if_le (tgt := 127) G dM_correct_120 rfl (fun h120 => ?_) (fun h120 => ((absurd h120 (by decide) : False)).elim)
              refine zz_aload_n G dM_correct_127 rfl ?_
              refine zz_iconst (v := 1) G dM_correct_128 (by decide) ?_
              refine zz_iload_n G dM_correct_129 rfl ?_
              refine zz_aload_n G dM_correct_130 rfl ?_
              refine zz_iload_n G dM_correct_131 rfl ?_
              refine zz_iconst (v := 2) G dM_correct_132 (by decide) ?_
              refine zz_callVi (v := fm_words m (6 * u + 2)) (w' := (wx x (sm_code m 0) o)) (As := [.int (nI u), .int 2]) (rest := [.int en, .int 1, .ref 5]) G (cm_word l x (sm_code m 0) o u 2 _ _ rfl rfl (by omega) (by decide)) kM_30 dM_correct_133 rfl rfl rfl rfl (Nat.le_of_ble_eq_true rfl) (fun _ => rfl) ⟨Nat.le_of_ble_eq_true rfl, Nat.le_of_ble_eq_true rfl⟩ ⟨Nat.le_of_ble_eq_true rfl, Nat.le_of_ble_eq_true rfl⟩ ?_
              refine zz_aload_n G dM_correct_136 rfl ?_
              refine zz_iload_n G dM_correct_137 rfl ?_
              refine zz_iconst (v := 3) G dM_correct_138 (by decide) ?_
              refine zz_callVi (v := fm_words m (6 * u + 3)) (w' := (wx x (sm_code m 0) o)) (As := [.int (nI u), .int 3]) (rest := [.int (fm_words m (6 * u + 2)), .int en, .int 1, .ref 5]) G (cm_word l x (sm_code m 0) o u 3 _ _ rfl rfl (by omega) (by decide)) kM_30 dM_correct_139 rfl rfl rfl rfl (Nat.le_of_ble_eq_true rfl) (fun _ => rfl) ⟨Nat.le_of_ble_eq_true rfl, Nat.le_of_ble_eq_true rfl⟩ ⟨Nat.le_of_ble_eq_true rfl, Nat.le_of_ble_eq_true rfl⟩ ?_
              refine zz_iload_n G dM_correct_142 rfl ?_
              refine zz_aload_n G dM_correct_143 rfl ?_
              refine zz_iload_n G dM_correct_144 rfl ?_
              refine zz_iconst (v := 5) G dM_correct_145 (by decide) ?_
              refine zz_callVi (v := fm_words m (6 * u + 5)) (w' := (wx x (sm_code m 0) o)) (As := [.int (nI u), .int 5]) (rest := [.int a, .int (fm_words m (6 * u + 3)), .int (fm_words m (6 * u + 2)), .int en, .int 1, .ref 5]) G (cm_word l x (sm_code m 0) o u 5 _ _ rfl rfl (by omega) (by decide)) kM_30 dM_correct_146 rfl rfl rfl rfl (Nat.le_of_ble_eq_true rfl) (fun _ => rfl) ⟨Nat.le_of_ble_eq_true rfl, Nat.le_of_ble_eq_true rfl⟩ ⟨Nat.le_of_ble_eq_true rfl, Nat.le_of_ble_eq_true rfl⟩ ?_
              refine zz_callVi (v := nI n) (w' := (wx x (mApp (sm_code m 0) n 1 en (fm_words m (6 * u + 2)) (fm_words m (6 * u + 3)) a (fm_words m (6 * u + 5))) o)) (As := [.int 1, .int en, .int (fm_words m (6 * u + 2)), .int (fm_words m (6 * u + 3)), .int a, .int (fm_words m (6 * u + 5))]) (rest := []) G (cm_add l x (sm_code m 0) o n 1 en (fm_words m (6 * u + 2)) (fm_words m (6 * u + 3)) a (fm_words m (6 * u + 5)) hcl (ne64 hcl hn h39)) kM_80 dM_correct_149 rfl rfl rfl rfl (Nat.le_of_ble_eq_true rfl) (fun h => by cases h) ⟨Nat.le_of_ble_eq_true rfl, Nat.le_of_ble_eq_true rfl⟩ ⟨Nat.le_of_ble_eq_true rfl, Nat.le_of_ble_eq_true rfl⟩ ?_
              exact zz_iret G hret dM_correct_152 (by rw [qCorr, if_pos h5, hq]; show (if 1 ≤ a then _ else _) = _; rw [if_pos h26, if_neg h39, if_pos h90, if_pos h105] <;> rfl) (Nat.le_of_ble_eq_true rfl) (Nat.le_of_ble_eq_true rfl)
            · refine zz_iconst (v := 5) G dM_correct_108 (by decide) ?_
              refine zz_goto (tgt := 113) G dM_correct_109 rfl ?_
              refine zz_put (w' := (wx x (sm_code m 5) o)) rfl G dM_correct_113 flM_23 rfl rfl rfl (Nat.le_of_ble_eq_true rfl) rfl ?_
              refine zz_aload_n G dM_correct_116 rfl ?_
              refine zz_get (v := .int 5) G dM_correct_117 flM_23 rfl rfl ?_
              refine zz_if_le (tgt := 127) G dM_correct_120 rfl (fun h120 => ((absurd h120 (by decide) : False)).elim) (fun h120 => ?_)
              refine zz_iconst (v := 0) G dM_correct_123 (by decide) ?_
              refine zz_goto (tgt := 152) G dM_correct_124 rfl ?_
              exact zz_iret G hret dM_correct_152 (by rw [qCorr, if_pos h5, hq]; show (if 1 ≤ a then _ else _) = _; rw [if_pos h26, if_neg h39, if_pos h90, if_neg h105] <;> rfl) (Nat.le_of_ble_eq_true rfl) (Nat.le_of_ble_eq_true rfl)
        · refine zz_iconst (v := 4) G dM_correct_42 (by decide) ?_
          refine zz_goto (tgt := 47) G dM_correct_43 rfl ?_
          refine zz_put (w' := (wx x (sm_code m 4) o)) rfl G dM_correct_47 flM_23 rfl rfl rfl (Nat.le_of_ble_eq_true rfl) rfl ?_
          refine zz_aload_n G dM_correct_50 rfl ?_
          refine zz_get (v := .int 4) G dM_correct_51 flM_23 rfl rfl ?_
          refine zz_if_le (tgt := 59) G dM_correct_54 rfl (fun h54 => ((absurd h54 (by decide) : False)).elim) (fun h54 => ?_)
          refine zz_iconst (v := 0) G dM_correct_57 (by decide) ?_
          exact zz_iret G hret dM_correct_58 (by rw [qCorr, if_pos h5, hq]; show (if 1 ≤ a then _ else _) = _; rw [if_pos h26, if_pos h39] <;> rfl) (Nat.le_of_ble_eq_true rfl) (Nat.le_of_ble_eq_true rfl)
      · refine zz_iconst (v := 3) G dM_correct_29 (by decide) ?_
        refine zz_goto (tgt := 47) G dM_correct_30 rfl ?_
        refine zz_put (w' := (wx x (sm_code m 3) o)) rfl G dM_correct_47 flM_23 rfl rfl rfl (Nat.le_of_ble_eq_true rfl) rfl ?_
        refine zz_aload_n G dM_correct_50 rfl ?_
        refine zz_get (v := .int 3) G dM_correct_51 flM_23 rfl rfl ?_
        refine zz_if_le (tgt := 59) G dM_correct_54 rfl (fun h54 => ((absurd h54 (by decide) : False)).elim) (fun h54 => ?_)
        refine zz_iconst (v := 0) G dM_correct_57 (by decide) ?_
        exact zz_iret G hret dM_correct_58 (by rw [qCorr, if_pos h5, hq]; show (if 1 ≤ a then _ else _) = _; rw [if_neg h26] <;> rfl) (Nat.le_of_ble_eq_true rfl) (Nat.le_of_ble_eq_true rfl)
    · refine zz_iconst (v := 1) G dM_correct_8 (by decide) ?_
      refine zz_goto (tgt := 47) G dM_correct_9 rfl ?_
      refine zz_put (w' := (wx x (sm_code m 1) o)) rfl G dM_correct_47 flM_23 rfl rfl rfl (Nat.le_of_ble_eq_true rfl) rfl ?_
      refine zz_aload_n G dM_correct_50 rfl ?_
      refine zz_get (v := .int 1) G dM_correct_51 flM_23 rfl rfl ?_
      refine zz_if_le (tgt := 59) G dM_correct_54 rfl (fun h54 => ((absurd h54 (by decide) : False)).elim) (fun h54 => ?_)
      refine zz_iconst (v := 0) G dM_correct_57 (by decide) ?_
      exact zz_iret G hret dM_correct_58 (by rw [qCorr, if_neg h5] <;> rfl) (Nat.le_of_ble_eq_true rfl) (Nat.le_of_ble_eq_true rfl)
set_option maxRecDepth 100000 in
set_option maxHeartbeats 4000000 in
theorem cm_annul (l : Launch) (x : XS) (m : MS) (o : Nat → Int64) (en : Int32) (n e1 : Nat) (hcl : fm_clock m = nI n) (hn : n ≤ 64) (hen : fm_entries m = nI e1) (he64 : e1 ≤ 64) : zC l yM_annul (Jvm.Cond.code yM_annul bM_annul 3 (some .int) :: Tw) 4 false 0 0 [.ref 5, .int en] (wx x m o) (qAnn x m o n e1 en) := by
  refine zC_of [some (.ref 5), some (.int en), none] (by decide) rfl (Nat.le_of_ble_eq_true rfl) ?_
  intro p e s mm args below meth c D cI cJ as G hret hex hbd
  rcases hq : sLiv (fm_words m) n e1 en with _ | u
  · refine zz_aload_n G dM_annul_0 rfl ?_
    refine zz_aload_n G dM_annul_1 rfl ?_
    refine zz_get (v := .int (fm_touched m)) G dM_annul_2 flM_65 rfl rfl ?_
    refine zz_if_eq (tgt := 12) G dM_annul_5 rfl (fun h5 => ?_) (fun h5 => ?_)
    · refine zz_aload_n G dM_annul_12 rfl ?_
      refine zz_iload_n G dM_annul_13 rfl ?_
      refine zz_callVi (v := (-1)) (w' := (wx x m o)) (As := [.int en]) (rest := [.ref 5]) G (by have q := cm_living l x m o en n e1 hcl hn hen he64; rw [show sLiv (fm_words m) n e1 en = _ from hq] at q; exact q) kM_84 dM_annul_14 rfl rfl rfl rfl (Nat.le_of_ble_eq_true rfl) (fun _ => rfl) ⟨Nat.le_of_ble_eq_true rfl, Nat.le_of_ble_eq_true rfl⟩ ⟨Nat.le_of_ble_eq_true rfl, Nat.le_of_ble_eq_true rfl⟩ ?_
      refine zz_if_ge (tgt := 24) G dM_annul_17 rfl (fun h17 => ((absurd h17 (by decide) : False)).elim) (fun h17 => ?_)
      refine zz_iconst (v := 2) G dM_annul_20 (by decide) ?_
      refine zz_goto (tgt := 38) G dM_annul_21 rfl ?_
      refine zz_put (w' := (wx x (sm_code m 2) o)) rfl G dM_annul_38 flM_23 rfl rfl rfl (Nat.le_of_ble_eq_true rfl) rfl ?_
      refine zz_aload_n G dM_annul_41 rfl ?_
      refine zz_get (v := .int 2) G dM_annul_42 flM_23 rfl rfl ?_
      refine zz_if_le (tgt := 50) G dM_annul_45 rfl (fun h45 => ((absurd h45 (by decide) : False)).elim) (fun h45 => ?_)
      refine zz_iconst (v := 0) G dM_annul_48 (by decide) ?_
      exact zz_iret G hret dM_annul_49 (by rw [qAnn, if_pos h5, hq] <;> rfl) (Nat.le_of_ble_eq_true rfl) (Nat.le_of_ble_eq_true rfl)
    · refine zz_iconst (v := 1) G dM_annul_8 (by decide) ?_
      refine zz_goto (tgt := 38) G dM_annul_9 rfl ?_
      refine zz_put (w' := (wx x (sm_code m 1) o)) rfl G dM_annul_38 flM_23 rfl rfl rfl (Nat.le_of_ble_eq_true rfl) rfl ?_
      refine zz_aload_n G dM_annul_41 rfl ?_
      refine zz_get (v := .int 1) G dM_annul_42 flM_23 rfl rfl ?_
      refine zz_if_le (tgt := 50) G dM_annul_45 rfl (fun h45 => ((absurd h45 (by decide) : False)).elim) (fun h45 => ?_)
      refine zz_iconst (v := 0) G dM_annul_48 (by decide) ?_
      exact zz_iret G hret dM_annul_49 (by rw [qAnn, if_neg h5] <;> rfl) (Nat.le_of_ble_eq_true rfl) (Nat.le_of_ble_eq_true rfl)
  · have hu : u < n := sLiv_lt hq
    refine zz_aload_n G dM_annul_0 rfl ?_
    refine zz_aload_n G dM_annul_1 rfl ?_
    refine zz_get (v := .int (fm_touched m)) G dM_annul_2 flM_65 rfl rfl ?_
    refine zz_if_eq (tgt := 12) G dM_annul_5 rfl (fun h5 => ?_) (fun h5 => ?_)
    · refine zz_aload_n G dM_annul_12 rfl ?_
      refine zz_iload_n G dM_annul_13 rfl ?_
      refine zz_callVi (v := nI u) (w' := (wx x m o)) (As := [.int en]) (rest := [.ref 5]) G (by have q := cm_living l x m o en n e1 hcl hn hen he64; rw [show sLiv (fm_words m) n e1 en = _ from hq] at q; exact q) kM_84 dM_annul_14 rfl rfl rfl rfl (Nat.le_of_ble_eq_true rfl) (fun _ => rfl) ⟨Nat.le_of_ble_eq_true rfl, Nat.le_of_ble_eq_true rfl⟩ ⟨Nat.le_of_ble_eq_true rfl, Nat.le_of_ble_eq_true rfl⟩ ?_
      refine zz_if_ge (tgt := 24) G dM_annul_17 rfl (fun h17 => ?_) (fun h17 => (h17 (i32_nn (nI_pos (show u < 2 ^ 31 by omega)))).elim)
      refine zz_aload_n G dM_annul_24 rfl ?_
      refine zz_get (v := .int (fm_clock m)) G dM_annul_25 flM_27 rfl rfl ?_
      refine zz_bipush (v := 64) G dM_annul_28 (by decide) ?_
      refine zz_icmp_ne (tgt := 37) G dM_annul_30 rfl (fun h30 => ?_) (fun h30 => ?_)
      · refine zz_iconst (v := 0) G dM_annul_37 (by decide) ?_
        refine zz_put (w' := (wx x (sm_code m 0) o)) rfl G dM_annul_38 flM_23 rfl rfl rfl (Nat.le_of_ble_eq_true rfl) rfl ?_
        refine zz_aload_n G dM_annul_41 rfl ?_
        refine zz_get (v := .int 0) G dM_annul_42 flM_23 rfl rfl ?_
        refine zz_if_le (tgt := 50) G dM_annul_45 rfl (fun h45 => ?_) (fun h45 => ((absurd h45 (by decide) : False)).elim)
        refine zz_aload_n G dM_annul_50 rfl ?_
        refine zz_iload_n G dM_annul_51 rfl ?_
        refine zz_callVi (v := nI u) (w' := (wx x (sm_code m 0) o)) (As := [.int en]) (rest := []) G (by have q := cm_living l x (sm_code m 0) o en n e1 hcl hn hen he64; rw [show sLiv (fm_words (sm_code m 0)) n e1 en = _ from hq] at q; exact q) kM_84 dM_annul_52 rfl rfl rfl rfl (Nat.le_of_ble_eq_true rfl) (fun _ => rfl) ⟨Nat.le_of_ble_eq_true rfl, Nat.le_of_ble_eq_true rfl⟩ ⟨Nat.le_of_ble_eq_true rfl, Nat.le_of_ble_eq_true rfl⟩ ?_
        refine zz_istore_n (lv' := [some (.ref 5), some (.int en), some (.int (nI u))]) G dM_annul_55 (Nat.le_of_ble_eq_true rfl) rfl ?_
        refine zz_aload_n G dM_annul_56 rfl ?_
        refine zz_iconst (v := 2) G dM_annul_57 (by decide) ?_
        refine zz_iload_n G dM_annul_58 rfl ?_
        refine zz_aload_n G dM_annul_59 rfl ?_
        refine zz_iload_n G dM_annul_60 rfl ?_
        refine zz_iconst (v := 2) G dM_annul_61 (by decide) ?_
        refine zz_callVi (v := fm_words m (6 * u + 2)) (w' := (wx x (sm_code m 0) o)) (As := [.int (nI u), .int 2]) (rest := [.int en, .int 2, .ref 5]) G (cm_word l x (sm_code m 0) o u 2 _ _ rfl rfl (by omega) (by decide)) kM_30 dM_annul_62 rfl rfl rfl rfl (Nat.le_of_ble_eq_true rfl) (fun _ => rfl) ⟨Nat.le_of_ble_eq_true rfl, Nat.le_of_ble_eq_true rfl⟩ ⟨Nat.le_of_ble_eq_true rfl, Nat.le_of_ble_eq_true rfl⟩ ?_
        refine zz_aload_n G dM_annul_65 rfl ?_
        refine zz_iload_n G dM_annul_66 rfl ?_
        refine zz_iconst (v := 3) G dM_annul_67 (by decide) ?_
        refine zz_callVi (v := fm_words m (6 * u + 3)) (w' := (wx x (sm_code m 0) o)) (As := [.int (nI u), .int 3]) (rest := [.int (fm_words m (6 * u + 2)), .int en, .int 2, .ref 5]) G (cm_word l x (sm_code m 0) o u 3 _ _ rfl rfl (by omega) (by decide)) kM_30 dM_annul_68 rfl rfl rfl rfl (Nat.le_of_ble_eq_true rfl) (fun _ => rfl) ⟨Nat.le_of_ble_eq_true rfl, Nat.le_of_ble_eq_true rfl⟩ ⟨Nat.le_of_ble_eq_true rfl, Nat.le_of_ble_eq_true rfl⟩ ?_
        refine zz_iconst (v := 0) G dM_annul_71 (by decide) ?_
        refine zz_aload_n G dM_annul_72 rfl ?_
        refine zz_iload_n G dM_annul_73 rfl ?_
        refine zz_iconst (v := 5) G dM_annul_74 (by decide) ?_
        refine zz_callVi (v := fm_words m (6 * u + 5)) (w' := (wx x (sm_code m 0) o)) (As := [.int (nI u), .int 5]) (rest := [.int 0, .int (fm_words m (6 * u + 3)), .int (fm_words m (6 * u + 2)), .int en, .int 2, .ref 5]) G (cm_word l x (sm_code m 0) o u 5 _ _ rfl rfl (by omega) (by decide)) kM_30 dM_annul_75 rfl rfl rfl rfl (Nat.le_of_ble_eq_true rfl) (fun _ => rfl) ⟨Nat.le_of_ble_eq_true rfl, Nat.le_of_ble_eq_true rfl⟩ ⟨Nat.le_of_ble_eq_true rfl, Nat.le_of_ble_eq_true rfl⟩ ?_
        refine zz_callVi (v := nI n) (w' := (wx x (mApp (sm_code m 0) n 2 en (fm_words m (6 * u + 2)) (fm_words m (6 * u + 3)) 0 (fm_words m (6 * u + 5))) o)) (As := [.int 2, .int en, .int (fm_words m (6 * u + 2)), .int (fm_words m (6 * u + 3)), .int 0, .int (fm_words m (6 * u + 5))]) (rest := []) G (cm_add l x (sm_code m 0) o n 2 en (fm_words m (6 * u + 2)) (fm_words m (6 * u + 3)) 0 (fm_words m (6 * u + 5)) hcl (ne64 hcl hn h30)) kM_80 dM_annul_78 rfl rfl rfl rfl (Nat.le_of_ble_eq_true rfl) (fun h => by cases h) ⟨Nat.le_of_ble_eq_true rfl, Nat.le_of_ble_eq_true rfl⟩ ⟨Nat.le_of_ble_eq_true rfl, Nat.le_of_ble_eq_true rfl⟩ ?_
        exact zz_iret G hret dM_annul_81 (by rw [qAnn, if_pos h5, hq]; show (if fm_clock m = 64 then _ else _) = _; rw [if_neg h30] <;> rfl) (Nat.le_of_ble_eq_true rfl) (Nat.le_of_ble_eq_true rfl)
      · refine zz_iconst (v := 3) G dM_annul_33 (by decide) ?_
        refine zz_goto (tgt := 38) G dM_annul_34 rfl ?_
        refine zz_put (w' := (wx x (sm_code m 3) o)) rfl G dM_annul_38 flM_23 rfl rfl rfl (Nat.le_of_ble_eq_true rfl) rfl ?_
        refine zz_aload_n G dM_annul_41 rfl ?_
        refine zz_get (v := .int 3) G dM_annul_42 flM_23 rfl rfl ?_
        refine zz_if_le (tgt := 50) G dM_annul_45 rfl (fun h45 => ((absurd h45 (by decide) : False)).elim) (fun h45 => ?_)
        refine zz_iconst (v := 0) G dM_annul_48 (by decide) ?_
        exact zz_iret G hret dM_annul_49 (by rw [qAnn, if_pos h5, hq]; show (if fm_clock m = 64 then _ else _) = _; rw [if_pos h30] <;> rfl) (Nat.le_of_ble_eq_true rfl) (Nat.le_of_ble_eq_true rfl)
    · refine zz_iconst (v := 1) G dM_annul_8 (by decide) ?_
      refine zz_goto (tgt := 38) G dM_annul_9 rfl ?_
      refine zz_put (w' := (wx x (sm_code m 1) o)) rfl G dM_annul_38 flM_23 rfl rfl rfl (Nat.le_of_ble_eq_true rfl) rfl ?_
      refine zz_aload_n G dM_annul_41 rfl ?_
      refine zz_get (v := .int 1) G dM_annul_42 flM_23 rfl rfl ?_
      refine zz_if_le (tgt := 50) G dM_annul_45 rfl (fun h45 => ((absurd h45 (by decide) : False)).elim) (fun h45 => ?_)
      refine zz_iconst (v := 0) G dM_annul_48 (by decide) ?_
      exact zz_iret G hret dM_annul_49 (by rw [qAnn, if_neg h5] <;> rfl) (Nat.le_of_ble_eq_true rfl) (Nat.le_of_ble_eq_true rfl)
set_option maxRecDepth 100000 in
set_option maxHeartbeats 4000000 in
theorem cm_balance (l : Launch) (x : XS) (m : MS) (o : Nat → Int64) (a d it : Int32) (n e1 : Nat) (hcl : fm_clock m = nI n) (hn : n ≤ 64) (hen : fm_entries m = nI e1) (he64 : e1 ≤ 64) : zC l yM_balance (Jvm.Cond.code yM_balance bM_balance 4 (some .int) :: Tw) 3 false 0 0 [.ref 5, .int a, .int d, .int it] (wx x m o) (qBal x m o e1 a d it) := by
  refine zC_of [some (.ref 5), some (.int a), some (.int d), some (.int it)] (by decide) rfl (Nat.le_of_ble_eq_true rfl) ?_
  intro p e s mm args below meth c D cI cJ as G hret hex hbd
  refine zz_aload_n G dM_balance_0 rfl ?_
  refine zz_aload_n G dM_balance_1 rfl ?_
  refine zz_get (v := .int (fm_touched m)) G dM_balance_2 flM_65 rfl rfl ?_
  refine zz_if_eq (tgt := 12) G dM_balance_5 rfl (fun h5 => ?_) (fun h5 => ?_)
  · refine zz_iload_n G dM_balance_12 rfl ?_
    refine zz_callSi (v := sAcc a) (w' := (wx x m o)) (As := [.int a]) (rest := [.ref 5]) G (cm_isAccount l x m o a) kM_69 dM_balance_13 rfl rfl (Nat.le_of_ble_eq_true rfl) (fun _ => rfl) ⟨Nat.le_of_ble_eq_true rfl, Nat.le_of_ble_eq_true rfl⟩ ⟨Nat.le_of_ble_eq_true rfl, Nat.le_of_ble_eq_true rfl⟩ ?_
    refine zz_if_eq (tgt := 38) G dM_balance_16 rfl (fun h16 => ?_) (fun h16 => ?_)
    · refine zz_iconst (v := 2) G dM_balance_38 (by decide) ?_
      refine zz_put (w' := (wx x (sm_code m 2) o)) rfl G dM_balance_39 flM_23 rfl rfl rfl (Nat.le_of_ble_eq_true rfl) rfl ?_
      refine zz_aload_n G dM_balance_42 rfl ?_
      refine zz_get (v := .int 2) G dM_balance_43 flM_23 rfl rfl ?_
      refine zz_if_le (tgt := 53) G dM_balance_46 rfl (fun h46 => ((absurd h46 (by decide) : False)).elim) (fun h46 => ?_)
      refine zz_iconst (v := 0) G dM_balance_49 (by decide) ?_
      refine zz_goto (tgt := 60) G dM_balance_50 rfl ?_
      exact zz_iret G hret dM_balance_60 (by rw [qBal, if_pos h5, if_pos h16] <;> rfl) (Nat.le_of_ble_eq_true rfl) (Nat.le_of_ble_eq_true rfl)
    · refine zz_iload_n G dM_balance_19 rfl ?_
      refine zz_callSi (v := sDay d) (w' := (wx x m o)) (As := [.int d]) (rest := [.ref 5]) G (cm_isDay l x m o d) kM_73 dM_balance_20 rfl rfl (Nat.le_of_ble_eq_true rfl) (fun _ => rfl) ⟨Nat.le_of_ble_eq_true rfl, Nat.le_of_ble_eq_true rfl⟩ ⟨Nat.le_of_ble_eq_true rfl, Nat.le_of_ble_eq_true rfl⟩ ?_
      refine zz_if_eq (tgt := 38) G dM_balance_23 rfl (fun h23 => ?_) (fun h23 => ?_)
      · refine zz_iconst (v := 2) G dM_balance_38 (by decide) ?_
        refine zz_put (w' := (wx x (sm_code m 2) o)) rfl G dM_balance_39 flM_23 rfl rfl rfl (Nat.le_of_ble_eq_true rfl) rfl ?_
        refine zz_aload_n G dM_balance_42 rfl ?_
        refine zz_get (v := .int 2) G dM_balance_43 flM_23 rfl rfl ?_
        refine zz_if_le (tgt := 53) G dM_balance_46 rfl (fun h46 => ((absurd h46 (by decide) : False)).elim) (fun h46 => ?_)
        refine zz_iconst (v := 0) G dM_balance_49 (by decide) ?_
        refine zz_goto (tgt := 60) G dM_balance_50 rfl ?_
        exact zz_iret G hret dM_balance_60 (by rw [qBal, if_pos h5, if_neg h16, if_pos h23] <;> rfl) (Nat.le_of_ble_eq_true rfl) (Nat.le_of_ble_eq_true rfl)
      · refine zz_aload_n G dM_balance_26 rfl ?_
        refine zz_iload_n G dM_balance_27 rfl ?_
        refine zz_callVi (v := sTime (fm_clock m) it) (w' := (wx x m o)) (As := [.int it]) (rest := [.ref 5]) G (cm_isTime l x m o it) kM_88 dM_balance_28 rfl rfl rfl rfl (Nat.le_of_ble_eq_true rfl) (fun _ => rfl) ⟨Nat.le_of_ble_eq_true rfl, Nat.le_of_ble_eq_true rfl⟩ ⟨Nat.le_of_ble_eq_true rfl, Nat.le_of_ble_eq_true rfl⟩ ?_
        refine zz_if_eq (tgt := 38) G dM_balance_31 rfl (fun h31 => ?_) (fun h31 => ?_)
        · refine zz_iconst (v := 2) G dM_balance_38 (by decide) ?_
          refine zz_put (w' := (wx x (sm_code m 2) o)) rfl G dM_balance_39 flM_23 rfl rfl rfl (Nat.le_of_ble_eq_true rfl) rfl ?_
          refine zz_aload_n G dM_balance_42 rfl ?_
          refine zz_get (v := .int 2) G dM_balance_43 flM_23 rfl rfl ?_
          refine zz_if_le (tgt := 53) G dM_balance_46 rfl (fun h46 => ((absurd h46 (by decide) : False)).elim) (fun h46 => ?_)
          refine zz_iconst (v := 0) G dM_balance_49 (by decide) ?_
          refine zz_goto (tgt := 60) G dM_balance_50 rfl ?_
          exact zz_iret G hret dM_balance_60 (by rw [qBal, if_pos h5, if_neg h16, if_neg h23, if_pos h31] <;> rfl) (Nat.le_of_ble_eq_true rfl) (Nat.le_of_ble_eq_true rfl)
        · obtain ⟨t, ht, rfl⟩ := sTime_of hn (by rw [← hcl]; exact h31)
          refine zz_iconst (v := 0) G dM_balance_34 (by decide) ?_
          refine zz_goto (tgt := 39) G dM_balance_35 rfl ?_
          refine zz_put (w' := (wx x (sm_code m 0) o)) rfl G dM_balance_39 flM_23 rfl rfl rfl (Nat.le_of_ble_eq_true rfl) rfl ?_
          refine zz_aload_n G dM_balance_42 rfl ?_
          refine zz_get (v := .int 0) G dM_balance_43 flM_23 rfl rfl ?_
          refine zz_if_le (tgt := 53) G dM_balance_46 rfl (fun h46 => ?_) (fun h46 => ((absurd h46 (by decide) : False)).elim)
          refine zz_aload_n G dM_balance_53 rfl ?_
          refine zz_iload_n G dM_balance_54 rfl ?_
          refine zz_iload_n G dM_balance_55 rfl ?_
          refine zz_iload_n G dM_balance_56 rfl ?_
          refine zz_callVi (v := mBal (fm_words m) a d t e1) (w' := (wx x (sm_code m 0) o)) (As := [.int a, .int d, .int (nI t)]) (rest := []) G (cm_balanceAt l x (sm_code m 0) o a d _ t e1 rfl (by omega) hen he64) kM_91 dM_balance_57 rfl rfl rfl rfl (Nat.le_of_ble_eq_true rfl) (fun _ => rfl) ⟨Nat.le_of_ble_eq_true rfl, Nat.le_of_ble_eq_true rfl⟩ ⟨Nat.le_of_ble_eq_true rfl, Nat.le_of_ble_eq_true rfl⟩ ?_
          exact zz_iret G hret dM_balance_60 (by rw [qBal, if_pos h5, if_neg h16, if_neg h23, if_neg h31, nI_clamp (show t < 2 ^ 31 by omega)] <;> rfl) (Nat.le_of_ble_eq_true rfl) (Nat.le_of_ble_eq_true rfl)
  · refine zz_iconst (v := 1) G dM_balance_8 (by decide) ?_
    refine zz_goto (tgt := 39) G dM_balance_9 rfl ?_
    refine zz_put (w' := (wx x (sm_code m 1) o)) rfl G dM_balance_39 flM_23 rfl rfl rfl (Nat.le_of_ble_eq_true rfl) rfl ?_
    refine zz_aload_n G dM_balance_42 rfl ?_
    refine zz_get (v := .int 1) G dM_balance_43 flM_23 rfl rfl ?_
    refine zz_if_le (tgt := 53) G dM_balance_46 rfl (fun h46 => ((absurd h46 (by decide) : False)).elim) (fun h46 => ?_)
    refine zz_iconst (v := 0) G dM_balance_49 (by decide) ?_
    refine zz_goto (tgt := 60) G dM_balance_50 rfl ?_
    exact zz_iret G hret dM_balance_60 (by rw [qBal, if_neg h5] <;> rfl) (Nat.le_of_ble_eq_true rfl) (Nat.le_of_ble_eq_true rfl)
set_option maxRecDepth 100000 in
set_option maxHeartbeats 4000000 in
theorem cm_trial (l : Launch) (x : XS) (m : MS) (o : Nat → Int64) (d it : Int32) (n e1 : Nat) (hcl : fm_clock m = nI n) (hn : n ≤ 64) (hen : fm_entries m = nI e1) (he64 : e1 ≤ 64) : zC l yM_trial (Jvm.Cond.code yM_trial bM_trial 5 (some .int) :: Tw) 3 false 0 0 [.ref 5, .int d, .int it] (wx x m o) (qTrial x m o e1 d it) := by
  refine zC_of [some (.ref 5), some (.int d), some (.int it), none, none] (by decide) rfl (Nat.le_of_ble_eq_true rfl) ?_
  intro p e s mm args below meth c D cI cJ as G hret hex hbd
  refine zz_aload_n G dM_trial_0 rfl ?_
  refine zz_aload_n G dM_trial_1 rfl ?_
  refine zz_get (v := .int (fm_touched m)) G dM_trial_2 flM_65 rfl rfl ?_
  refine zz_if_eq (tgt := 12) G dM_trial_5 rfl (fun h5 => ?_) (fun h5 => ?_)
  · refine zz_iload_n G dM_trial_12 rfl ?_
    refine zz_callSi (v := sDay d) (w' := (wx x m o)) (As := [.int d]) (rest := [.ref 5]) G (cm_isDay l x m o d) kM_73 dM_trial_13 rfl rfl (Nat.le_of_ble_eq_true rfl) (fun _ => rfl) ⟨Nat.le_of_ble_eq_true rfl, Nat.le_of_ble_eq_true rfl⟩ ⟨Nat.le_of_ble_eq_true rfl, Nat.le_of_ble_eq_true rfl⟩ ?_
    refine zz_if_eq (tgt := 31) G dM_trial_16 rfl (fun h16 => ?_) (fun h16 => ?_)
    · refine zz_iconst (v := 2) G dM_trial_31 (by decide) ?_
      refine zz_put (w' := (wx x (sm_code m 2) o)) rfl G dM_trial_32 flM_23 rfl rfl rfl (Nat.le_of_ble_eq_true rfl) rfl ?_
      refine zz_iconst (v := 0) G dM_trial_35 (by decide) ?_
      refine zz_istore_n (lv' := [some (.ref 5), some (.int d), some (.int it), some (.int 0), none]) G dM_trial_36 (Nat.le_of_ble_eq_true rfl) rfl ?_
      refine zz_iconst (v := 0) G dM_trial_37 (by decide) ?_
      refine zz_istore (lv' := [some (.ref 5), some (.int d), some (.int it), some (.int 0), some (.int 0)]) G dM_trial_38 (Nat.le_of_ble_eq_true rfl) rfl ?_
      refine zz_iload G dM_trial_40 rfl ?_
      refine zz_bipush (v := 16) G dM_trial_42 (by decide) ?_
      refine zz_icmp_ge (tgt := 71) G dM_trial_44 rfl (fun h44 => ((absurd h44 (by decide) : False)).elim) (fun h44 => ?_)
      refine zz_aload_n G dM_trial_47 rfl ?_
      refine zz_get (v := .int 2) G dM_trial_48 flM_23 rfl rfl ?_
      refine zz_if_ne (tgt := 71) G dM_trial_51 rfl (fun h51 => ?_) (fun h51 => ((absurd h51 (by decide) : False)).elim)
      refine zz_iload_n G dM_trial_71 rfl ?_
      exact zz_iret G hret dM_trial_72 (by rw [qTrial, if_pos h5, if_pos h16] <;> rfl) (Nat.le_of_ble_eq_true rfl) (Nat.le_of_ble_eq_true rfl)
    · refine zz_aload_n G dM_trial_19 rfl ?_
      refine zz_iload_n G dM_trial_20 rfl ?_
      refine zz_callVi (v := sTime (fm_clock m) it) (w' := (wx x m o)) (As := [.int it]) (rest := [.ref 5]) G (cm_isTime l x m o it) kM_88 dM_trial_21 rfl rfl rfl rfl (Nat.le_of_ble_eq_true rfl) (fun _ => rfl) ⟨Nat.le_of_ble_eq_true rfl, Nat.le_of_ble_eq_true rfl⟩ ⟨Nat.le_of_ble_eq_true rfl, Nat.le_of_ble_eq_true rfl⟩ ?_
      refine zz_if_eq (tgt := 31) G dM_trial_24 rfl (fun h24 => ?_) (fun h24 => ?_)
      · refine zz_iconst (v := 2) G dM_trial_31 (by decide) ?_
        refine zz_put (w' := (wx x (sm_code m 2) o)) rfl G dM_trial_32 flM_23 rfl rfl rfl (Nat.le_of_ble_eq_true rfl) rfl ?_
        refine zz_iconst (v := 0) G dM_trial_35 (by decide) ?_
        refine zz_istore_n (lv' := [some (.ref 5), some (.int d), some (.int it), some (.int 0), none]) G dM_trial_36 (Nat.le_of_ble_eq_true rfl) rfl ?_
        refine zz_iconst (v := 0) G dM_trial_37 (by decide) ?_
        refine zz_istore (lv' := [some (.ref 5), some (.int d), some (.int it), some (.int 0), some (.int 0)]) G dM_trial_38 (Nat.le_of_ble_eq_true rfl) rfl ?_
        refine zz_iload G dM_trial_40 rfl ?_
        refine zz_bipush (v := 16) G dM_trial_42 (by decide) ?_
        refine zz_icmp_ge (tgt := 71) G dM_trial_44 rfl (fun h44 => ((absurd h44 (by decide) : False)).elim) (fun h44 => ?_)
        refine zz_aload_n G dM_trial_47 rfl ?_
        refine zz_get (v := .int 2) G dM_trial_48 flM_23 rfl rfl ?_
        refine zz_if_ne (tgt := 71) G dM_trial_51 rfl (fun h51 => ?_) (fun h51 => ((absurd h51 (by decide) : False)).elim)
        refine zz_iload_n G dM_trial_71 rfl ?_
        exact zz_iret G hret dM_trial_72 (by rw [qTrial, if_pos h5, if_neg h16, if_pos h24] <;> rfl) (Nat.le_of_ble_eq_true rfl) (Nat.le_of_ble_eq_true rfl)
      · obtain ⟨t, ht, rfl⟩ := sTime_of hn (by rw [← hcl]; exact h24)
        have loop : ∀ (j k : Nat), k + j = 16 → Z p l e (zrm 3) s mm args below meth c 5 D cI cJ as false 0 0 (zMQ below (qTrial x m o e1 d (nI t)) D cI cJ as false s 0 0) 40 [some (.ref 5), some (.int d), some (.int (nI t)), some (.int (mTrial (fm_words m) d t e1 k)), some (.int (nI k))] [] (wx x (sm_code m 0) o) := by
          intro j
          induction j with
          | zero =>
            intro k hk
            have hk : k = 16 := by omega
            subst hk
            refine zz_iload G dM_trial_40 rfl ?_
            refine zz_bipush (v := 16) G dM_trial_42 (by decide) ?_
            refine zz_icmp_ge (tgt := 71) G dM_trial_44 rfl (fun h44 => ?_) (fun h44 => (h44 (by decide)).elim)
            refine zz_iload_n G dM_trial_71 rfl ?_
            exact zz_iret G hret dM_trial_72 (by rw [qTrial, if_pos h5, if_neg h16, if_neg h24, nI_clamp (show t < 2 ^ 31 by omega)] <;> rfl) (Nat.le_of_ble_eq_true rfl) (Nat.le_of_ble_eq_true rfl)
          | succ j ih =>
            intro k hk
            refine zz_iload G dM_trial_40 rfl ?_
            refine zz_bipush (v := 16) G dM_trial_42 (by decide) ?_
            refine zz_icmp_ge (tgt := 71) G dM_trial_44 rfl (fun h44 => (nI_ge (show k < 16 by omega) (by decide) h44).elim) (fun h44 => ?_)
            refine zz_aload_n G dM_trial_47 rfl ?_
            refine zz_get (v := .int 0) G dM_trial_48 flM_23 rfl rfl ?_
            refine zz_if_ne (tgt := 71) G dM_trial_51 rfl (fun h51 => ((absurd h51 (by decide) : False)).elim) (fun h51 => ?_)
            refine zz_iload_n G dM_trial_54 rfl ?_
            refine zz_aload_n G dM_trial_55 rfl ?_
            refine zz_iload G dM_trial_56 rfl ?_
            refine zz_iload_n G dM_trial_58 rfl ?_
            refine zz_iload_n G dM_trial_59 rfl ?_
            refine zz_callVi (v := mBal (fm_words m) (nI k) d t e1) (w' := (wx x (sm_code m 0) o)) (As := [.int (nI k), .int d, .int (nI t)]) (rest := [.int (mTrial (fm_words m) d t e1 k)]) G (cm_balanceAt l x (sm_code m 0) o (nI k) d _ t e1 rfl (by omega) hen he64) kM_91 dM_trial_60 rfl rfl rfl rfl (Nat.le_of_ble_eq_true rfl) (fun _ => rfl) ⟨Nat.le_of_ble_eq_true rfl, Nat.le_of_ble_eq_true rfl⟩ ⟨Nat.le_of_ble_eq_true rfl, Nat.le_of_ble_eq_true rfl⟩ ?_
            refine zz_iadd G dM_trial_63 ?_
            refine zz_istore_n (lv' := [some (.ref 5), some (.int d), some (.int (nI t)), some (.int ((mTrial (fm_words m) d t e1 k) + (mBal (fm_words m) (nI k) d t e1))), some (.int (nI k))]) G dM_trial_64 (Nat.le_of_ble_eq_true rfl) rfl ?_
            refine zz_iinc (v := nI (k + 1)) (lv' := [some (.ref 5), some (.int d), some (.int (nI t)), some (.int ((mTrial (fm_words m) d t e1 k) + (mBal (fm_words m) (nI k) d t e1))), some (.int (nI (k + 1)))]) G dM_trial_65 rfl (by rw [nI_succ] <;> rfl) rfl ?_
            refine zz_goto (tgt := 40) G dM_trial_68 rfl ?_
            refine zz_eq (lv' := [some (.ref 5), some (.int d), some (.int (nI t)), some (.int (mTrial (fm_words m) d t e1 (k + 1))), some (.int (nI (k + 1)))]) rfl rfl rfl rfl ?_
            exact ih (k + 1) (by omega)
        refine zz_iconst (v := 0) G dM_trial_27 (by decide) ?_
        refine zz_goto (tgt := 32) G dM_trial_28 rfl ?_
        refine zz_put (w' := (wx x (sm_code m 0) o)) rfl G dM_trial_32 flM_23 rfl rfl rfl (Nat.le_of_ble_eq_true rfl) rfl ?_
        refine zz_iconst (v := 0) G dM_trial_35 (by decide) ?_
        refine zz_istore_n (lv' := [some (.ref 5), some (.int d), some (.int (nI t)), some (.int 0), none]) G dM_trial_36 (Nat.le_of_ble_eq_true rfl) rfl ?_
        refine zz_iconst (v := 0) G dM_trial_37 (by decide) ?_
        refine zz_istore (lv' := [some (.ref 5), some (.int d), some (.int (nI t)), some (.int 0), some (.int 0)]) G dM_trial_38 (Nat.le_of_ble_eq_true rfl) rfl ?_
        exact loop 16 0 (by omega)
  · refine zz_iconst (v := 1) G dM_trial_8 (by decide) ?_
    refine zz_goto (tgt := 32) G dM_trial_9 rfl ?_
    refine zz_put (w' := (wx x (sm_code m 1) o)) rfl G dM_trial_32 flM_23 rfl rfl rfl (Nat.le_of_ble_eq_true rfl) rfl ?_
    refine zz_iconst (v := 0) G dM_trial_35 (by decide) ?_
    refine zz_istore_n (lv' := [some (.ref 5), some (.int d), some (.int it), some (.int 0), none]) G dM_trial_36 (Nat.le_of_ble_eq_true rfl) rfl ?_
    refine zz_iconst (v := 0) G dM_trial_37 (by decide) ?_
    refine zz_istore (lv' := [some (.ref 5), some (.int d), some (.int it), some (.int 0), some (.int 0)]) G dM_trial_38 (Nat.le_of_ble_eq_true rfl) rfl ?_
    refine zz_iload G dM_trial_40 rfl ?_
    refine zz_bipush (v := 16) G dM_trial_42 (by decide) ?_
    refine zz_icmp_ge (tgt := 71) G dM_trial_44 rfl (fun h44 => ((absurd h44 (by decide) : False)).elim) (fun h44 => ?_)
    refine zz_aload_n G dM_trial_47 rfl ?_
    refine zz_get (v := .int 1) G dM_trial_48 flM_23 rfl rfl ?_
    refine zz_if_ne (tgt := 71) G dM_trial_51 rfl (fun h51 => ?_) (fun h51 => ((absurd h51 (by decide) : False)).elim)
    refine zz_iload_n G dM_trial_71 rfl ?_
    exact zz_iret G hret dM_trial_72 (by rw [qTrial, if_neg h5] <;> rfl) (Nat.le_of_ble_eq_true rfl) (Nat.le_of_ble_eq_true rfl)
set_option maxRecDepth 100000 in
set_option maxHeartbeats 4000000 in
theorem cm_turnover (l : Launch) (x : XS) (m : MS) (o : Nat → Int64) (a : Int32) (n e1 : Nat) (hcl : fm_clock m = nI n) (hn : n ≤ 64) (hen : fm_entries m = nI e1) (he64 : e1 ≤ 64) (hlv : fm_touched m = 0 → ∀ j, j < e1 → ∃ v, sLast (fm_words m) (nI j) n = some v) : zC l yM_turnover (Jvm.Cond.code yM_turnover bM_turnover 2 (some .int) :: Tw) 3 false 0 0 [.ref 5, .int a] (wx x m o) (qTurn x m o n e1 a) := by
  refine zC_of [some (.ref 5), some (.int a)] (by decide) rfl (Nat.le_of_ble_eq_true rfl) ?_
  intro p e s mm args below meth c D cI cJ as G hret hex hbd
  refine zz_aload_n G dM_turnover_0 rfl ?_
  refine zz_aload_n G dM_turnover_1 rfl ?_
  refine zz_get (v := .int (fm_touched m)) G dM_turnover_2 flM_65 rfl rfl ?_
  refine zz_if_eq (tgt := 12) G dM_turnover_5 rfl (fun h5 => ?_) (fun h5 => ?_)
  · refine zz_iload_n G dM_turnover_12 rfl ?_
    refine zz_callSi (v := sAcc a) (w' := (wx x m o)) (As := [.int a]) (rest := [.ref 5]) G (cm_isAccount l x m o a) kM_69 dM_turnover_13 rfl rfl (Nat.le_of_ble_eq_true rfl) (fun _ => rfl) ⟨Nat.le_of_ble_eq_true rfl, Nat.le_of_ble_eq_true rfl⟩ ⟨Nat.le_of_ble_eq_true rfl, Nat.le_of_ble_eq_true rfl⟩ ?_
    refine zz_if_eq (tgt := 23) G dM_turnover_16 rfl (fun h16 => ?_) (fun h16 => ?_)
    · refine zz_iconst (v := 2) G dM_turnover_23 (by decide) ?_
      refine zz_put (w' := (wx x (sm_code m 2) o)) rfl G dM_turnover_24 flM_23 rfl rfl rfl (Nat.le_of_ble_eq_true rfl) rfl ?_
      refine zz_aload_n G dM_turnover_27 rfl ?_
      refine zz_get (v := .int 2) G dM_turnover_28 flM_23 rfl rfl ?_
      refine zz_if_le (tgt := 38) G dM_turnover_31 rfl (fun h31 => ((absurd h31 (by decide) : False)).elim) (fun h31 => ?_)
      refine zz_iconst (v := 0) G dM_turnover_34 (by decide) ?_
      refine zz_goto (tgt := 44) G dM_turnover_35 rfl ?_
      exact zz_iret G hret dM_turnover_44 (by rw [qTurn, if_pos h5, if_pos h16] <;> rfl) (Nat.le_of_ble_eq_true rfl) (Nat.le_of_ble_eq_true rfl)
    · refine zz_iconst (v := 0) G dM_turnover_19 (by decide) ?_
      refine zz_goto (tgt := 24) G dM_turnover_20 rfl ?_
      refine zz_put (w' := (wx x (sm_code m 0) o)) rfl G dM_turnover_24 flM_23 rfl rfl rfl (Nat.le_of_ble_eq_true rfl) rfl ?_
      refine zz_aload_n G dM_turnover_27 rfl ?_
      refine zz_get (v := .int 0) G dM_turnover_28 flM_23 rfl rfl ?_
      refine zz_if_le (tgt := 38) G dM_turnover_31 rfl (fun h31 => ?_) (fun h31 => ((absurd h31 (by decide) : False)).elim)
      refine zz_aload_n G dM_turnover_38 rfl ?_
      refine zz_iload_n G dM_turnover_39 rfl ?_
      refine zz_callVl (v := mTurn (fm_words m) a n e1) (w' := (wx x (sm_code m 0) o)) (As := [.int a]) (rest := []) G (cm_turnoverNow l x (sm_code m 0) o a n e1 hcl hn hen he64 (hlv h5)) kM_48 dM_turnover_40 rfl rfl rfl rfl (Nat.le_of_ble_eq_true rfl) (fun _ => rfl) ⟨Nat.le_of_ble_eq_true rfl, Nat.le_of_ble_eq_true rfl⟩ ⟨Nat.le_of_ble_eq_true rfl, Nat.le_of_ble_eq_true rfl⟩ ?_
      refine zz_l2i G dM_turnover_43 ?_
      exact zz_iret G hret dM_turnover_44 (by rw [qTurn, if_pos h5, if_neg h16] <;> rfl) (Nat.le_of_ble_eq_true rfl) (Nat.le_of_ble_eq_true rfl)
  · refine zz_iconst (v := 1) G dM_turnover_8 (by decide) ?_
    refine zz_goto (tgt := 24) G dM_turnover_9 rfl ?_
    refine zz_put (w' := (wx x (sm_code m 1) o)) rfl G dM_turnover_24 flM_23 rfl rfl rfl (Nat.le_of_ble_eq_true rfl) rfl ?_
    refine zz_aload_n G dM_turnover_27 rfl ?_
    refine zz_get (v := .int 1) G dM_turnover_28 flM_23 rfl rfl ?_
    refine zz_if_le (tgt := 38) G dM_turnover_31 rfl (fun h31 => ((absurd h31 (by decide) : False)).elim) (fun h31 => ?_)
    refine zz_iconst (v := 0) G dM_turnover_34 (by decide) ?_
    refine zz_goto (tgt := 44) G dM_turnover_35 rfl ?_
    exact zz_iret G hret dM_turnover_44 (by rw [qTurn, if_neg h5] <;> rfl) (Nat.le_of_ble_eq_true rfl) (Nat.le_of_ble_eq_true rfl)
set_option maxRecDepth 100000 in
set_option maxHeartbeats 4000000 in
theorem cm_next (l : Launch) (x : XS) (m : MS) (o : Nat → Int64) (k z : Nat) (hk31 : k < 2 ^ 31) (hat : fm_at m = nI k) (hct : fm_count m = nI z) (hz : z ≤ 64) : zC l yM_next (Jvm.Cond.code yM_next bM_next 1 (some .int) :: Tw) 0 false 0 0 [.ref 5] (wx x m o) (qNext x m o) := by
  refine zC_of [some (.ref 5)] (by decide) rfl (Nat.le_of_ble_eq_true rfl) ?_
  intro p e s mm args below meth c D cI cJ as G hret hex hbd
  refine zz_aload_n G dM_next_0 rfl ?_
  refine zz_aload_n G dM_next_1 rfl ?_
  refine zz_get (v := .int (fm_touched m)) G dM_next_2 flM_65 rfl rfl ?_
  refine zz_if_eq (tgt := 12) G dM_next_5 rfl (fun h5 => ?_) (fun h5 => ?_)
  · refine zz_iconst (v := 0) G dM_next_12 (by decide) ?_
    refine zz_put (w' := (wx x (sm_code m 0) o)) rfl G dM_next_13 flM_23 rfl rfl rfl (Nat.le_of_ble_eq_true rfl) rfl ?_
    refine zz_aload_n G dM_next_16 rfl ?_
    refine zz_get (v := .int 0) G dM_next_17 flM_23 rfl rfl ?_
    refine zz_if_le (tgt := 25) G dM_next_20 rfl (fun h20 => ?_) (fun h20 => ((absurd h20 (by decide) : False)).elim)
    refine zz_aload_n G dM_next_25 rfl ?_
    refine zz_aload_n G dM_next_26 rfl ?_
    refine zz_get (v := .int (fm_at m)) G dM_next_27 flM_98 rfl rfl ?_
    refine zz_aload_n G dM_next_30 rfl ?_
    refine zz_get (v := .int (fm_count m)) G dM_next_31 flM_95 rfl rfl ?_
    refine zz_icmp_ge (tgt := 41) G dM_next_34 rfl (fun h34 => ?_) (fun h34 => ?_)
    · refine zz_iconst (v := 0) G dM_next_41 (by decide) ?_
      refine zz_put (w' := (wx x (sm_ans (sm_code m 0) 0) o)) rfl G dM_next_42 flM_101 rfl rfl rfl (Nat.le_of_ble_eq_true rfl) rfl ?_
      refine zz_aload_n G dM_next_45 rfl ?_
      refine zz_aload_n G dM_next_46 rfl ?_
      refine zz_get (v := .int 0) G dM_next_47 flM_101 rfl rfl ?_
      refine zz_if_eq (tgt := 62) G dM_next_50 rfl (fun h50 => ?_) (fun h50 => ((absurd h50 (by decide) : False)).elim)
      refine zz_aload_n G dM_next_62 rfl ?_
      refine zz_get (v := .int (fm_at m)) G dM_next_63 flM_98 rfl rfl ?_
      refine zz_put (w' := (wx x (sm_at (sm_ans (sm_code m 0) 0) (fm_at m)) o)) rfl G dM_next_66 flM_98 rfl rfl rfl (Nat.le_of_ble_eq_true rfl) rfl ?_
      refine zz_aload_n G dM_next_69 rfl ?_
      refine zz_get (v := .int 0) G dM_next_70 flM_101 rfl rfl ?_
      refine zz_if_eq (tgt := 90) G dM_next_73 rfl (fun h73 => ?_) (fun h73 => ((absurd h73 (by decide) : False)).elim)
      refine zz_iconst (v := -1) G dM_next_90 (by decide) ?_
      exact zz_iret G hret dM_next_91 (by rw [qNext, if_pos h5, if_pos h34] <;> rfl) (Nat.le_of_ble_eq_true rfl) (Nat.le_of_ble_eq_true rfl)
    · have hkz : k < z := by rw [hat, hct] at h34; exact nI_lt_of h34 hz hk31
      refine zz_iconst (v := 1) G dM_next_37 (by decide) ?_
      refine zz_goto (tgt := 42) G dM_next_38 rfl ?_
      refine zz_put (w' := (wx x (sm_ans (sm_code m 0) 1) o)) rfl G dM_next_42 flM_101 rfl rfl rfl (Nat.le_of_ble_eq_true rfl) rfl ?_
      refine zz_aload_n G dM_next_45 rfl ?_
      refine zz_aload_n G dM_next_46 rfl ?_
      refine zz_get (v := .int 1) G dM_next_47 flM_101 rfl rfl ?_
      refine zz_if_eq (tgt := 62) G dM_next_50 rfl (fun h50 => ((absurd h50 (by decide) : False)).elim) (fun h50 => ?_)
      refine zz_aload_n G dM_next_53 rfl ?_
      refine zz_get (v := .int (fm_at m)) G dM_next_54 flM_98 rfl rfl ?_
      refine zz_iconst (v := 1) G dM_next_57 (by decide) ?_
      refine zz_iadd G dM_next_58 ?_
      refine zz_goto (tgt := 66) G dM_next_59 rfl ?_
      refine zz_put (w' := (wx x (sm_at (sm_ans (sm_code m 0) 1) ((fm_at m) + 1)) o)) rfl G dM_next_66 flM_98 rfl rfl rfl (Nat.le_of_ble_eq_true rfl) rfl ?_
      refine zz_aload_n G dM_next_69 rfl ?_
      refine zz_get (v := .int 1) G dM_next_70 flM_101 rfl rfl ?_
      refine zz_if_eq (tgt := 90) G dM_next_73 rfl (fun h73 => ((absurd h73 (by decide) : False)).elim) (fun h73 => ?_)
      refine zz_aload_n G dM_next_76 rfl ?_
      refine zz_get (v := .ref 8) G dM_next_77 flM_17 rfl rfl ?_
      refine zz_aload_n G dM_next_80 rfl ?_
      refine zz_get (v := .int ((fm_at m) + 1)) G dM_next_81 flM_98 rfl rfl ?_
      refine zz_iconst (v := 1) G dM_next_84 (by decide) ?_
      refine zz_isub G dM_next_85 ?_
      refine zz_iald (v := fm_list m (fm_at m + 1 - 1).toNatClampNeg) G dM_next_86 rfl (by rw [hat, ← nI_succ, nI_pred]; exact i1_in (by omega)) (rfl) ?_
      refine zz_goto (tgt := 91) G dM_next_87 rfl ?_
      exact zz_iret G hret dM_next_91 (by rw [qNext, if_pos h5, if_neg h34] <;> rfl) (Nat.le_of_ble_eq_true rfl) (Nat.le_of_ble_eq_true rfl)
  · refine zz_iconst (v := 1) G dM_next_8 (by decide) ?_
    refine zz_goto (tgt := 13) G dM_next_9 rfl ?_
    refine zz_put (w' := (wx x (sm_code m 1) o)) rfl G dM_next_13 flM_23 rfl rfl rfl (Nat.le_of_ble_eq_true rfl) rfl ?_
    refine zz_aload_n G dM_next_16 rfl ?_
    refine zz_get (v := .int 1) G dM_next_17 flM_23 rfl rfl ?_
    refine zz_if_le (tgt := 25) G dM_next_20 rfl (fun h20 => ((absurd h20 (by decide) : False)).elim) (fun h20 => ?_)
    refine zz_iconst (v := 0) G dM_next_23 (by decide) ?_
    exact zz_iret G hret dM_next_24 (by rw [qNext, if_neg h5] <;> rfl) (Nat.le_of_ble_eq_true rfl) (Nat.le_of_ble_eq_true rfl)
set_option maxRecDepth 100000 in
set_option maxHeartbeats 4000000 in
theorem cm_moved (l : Launch) (x : XS) (m : MS) (o : Nat → Int64) (hp : ¬ fm_ans m = 0 → ∃ k, k < 64 ∧ fm_at m = nI (k + 1)) : zC l yM_moved (Jvm.Cond.code yM_moved bM_moved 1 (some .int) :: Tw) 0 false 0 0 [.ref 5] (wx x m o) (qMoved x m o) := by
  refine zC_of [some (.ref 5)] (by decide) rfl (Nat.le_of_ble_eq_true rfl) ?_
  intro p e s mm args below meth c D cI cJ as G hret hex hbd
  refine zz_aload_n G dM_moved_0 rfl ?_
  refine zz_aload_n G dM_moved_1 rfl ?_
  refine zz_get (v := .int (fm_touched m)) G dM_moved_2 flM_65 rfl rfl ?_
  refine zz_if_eq (tgt := 12) G dM_moved_5 rfl (fun h5 => ?_) (fun h5 => ?_)
  · refine zz_iconst (v := 0) G dM_moved_12 (by decide) ?_
    refine zz_put (w' := (wx x (sm_code m 0) o)) rfl G dM_moved_13 flM_23 rfl rfl rfl (Nat.le_of_ble_eq_true rfl) rfl ?_
    refine zz_aload_n G dM_moved_16 rfl ?_
    refine zz_get (v := .int 0) G dM_moved_17 flM_23 rfl rfl ?_
    refine zz_if_ne (tgt := 44) G dM_moved_20 rfl (fun h20 => ((absurd h20 (by decide) : False)).elim) (fun h20 => ?_)
    refine zz_aload_n G dM_moved_23 rfl ?_
    refine zz_get (v := .int (fm_ans m)) G dM_moved_24 flM_101 rfl rfl ?_
    refine zz_if_eq (tgt := 44) G dM_moved_27 rfl (fun h27 => ?_) (fun h27 => ?_)
    · refine zz_iconst (v := 0) G dM_moved_44 (by decide) ?_
      exact zz_iret G hret dM_moved_45 (by rw [qMoved, if_pos h5, if_pos h27] <;> rfl) (Nat.le_of_ble_eq_true rfl) (Nat.le_of_ble_eq_true rfl)
    · obtain ⟨k, hk, ek⟩ := hp h27
      refine zz_aload_n G dM_moved_30 rfl ?_
      refine zz_get (v := .ref 9) G dM_moved_31 flM_20 rfl rfl ?_
      refine zz_aload_n G dM_moved_34 rfl ?_
      refine zz_get (v := .int (fm_at m)) G dM_moved_35 flM_98 rfl rfl ?_
      refine zz_iconst (v := 1) G dM_moved_38 (by decide) ?_
      refine zz_isub G dM_moved_39 ?_
      refine zz_iald (v := fm_puts m (fm_at m - 1).toNatClampNeg) G dM_moved_40 rfl (by rw [ek, nI_pred]; exact i1_in hk) (rfl) ?_
      refine zz_goto (tgt := 45) G dM_moved_41 rfl ?_
      exact zz_iret G hret dM_moved_45 (by rw [qMoved, if_pos h5, if_neg h27] <;> rfl) (Nat.le_of_ble_eq_true rfl) (Nat.le_of_ble_eq_true rfl)
  · refine zz_iconst (v := 1) G dM_moved_8 (by decide) ?_
    refine zz_goto (tgt := 13) G dM_moved_9 rfl ?_
    refine zz_put (w' := (wx x (sm_code m 1) o)) rfl G dM_moved_13 flM_23 rfl rfl rfl (Nat.le_of_ble_eq_true rfl) rfl ?_
    refine zz_aload_n G dM_moved_16 rfl ?_
    refine zz_get (v := .int 1) G dM_moved_17 flM_23 rfl rfl ?_
    refine zz_if_ne (tgt := 44) G dM_moved_20 rfl (fun h20 => ?_) (fun h20 => ((absurd h20 (by decide) : False)).elim)
    refine zz_iconst (v := 0) G dM_moved_44 (by decide) ?_
    exact zz_iret G hret dM_moved_45 (by rw [qMoved, if_neg h5] <;> rfl) (Nat.le_of_ble_eq_true rfl) (Nat.le_of_ble_eq_true rfl)
set_option maxRecDepth 100000 in
set_option maxHeartbeats 4000000 in
theorem cm_field (l : Launch) (x : XS) (m : MS) (o : Nat → Int64) (en k it : Int32) (n e1 : Nat) (hcl : fm_clock m = nI n) (hn : n ≤ 64) (hen : fm_entries m = nI e1) (he64 : e1 ≤ 64) : zC l yM_field (Jvm.Cond.code yM_field bM_field 6 (some .int) :: Tw) 2 false 0 0 [.ref 5, .int en, .int k, .int it] (wx x m o) (qField x m o en k it) := by
  refine zC_of [some (.ref 5), some (.int en), some (.int k), some (.int it), none, none] (by decide) rfl (Nat.le_of_ble_eq_true rfl) ?_
  intro p e s mm args below meth c D cI cJ as G hret hex hbd
  refine zz_aload_n G dM_field_0 rfl ?_
  refine zz_aload_n G dM_field_1 rfl ?_
  refine zz_get (v := .int (fm_touched m)) G dM_field_2 flM_65 rfl rfl ?_
  refine zz_if_eq (tgt := 12) G dM_field_5 rfl (fun h5 => ?_) (fun h5 => ?_)
  · refine zz_iconst (v := 0) G dM_field_12 (by decide) ?_
    refine zz_put (w' := (wx x (sm_code m 0) o)) rfl G dM_field_13 flM_23 rfl rfl rfl (Nat.le_of_ble_eq_true rfl) rfl ?_
    refine zz_iload_n G dM_field_16 rfl ?_
    refine zz_if_lt (tgt := 50) G dM_field_17 rfl (fun h17 => ?_) (fun h17 => ?_)
    · refine zz_iconst (v := 0) G dM_field_50 (by decide) ?_
      refine zz_istore (lv' := [some (.ref 5), some (.int en), some (.int k), some (.int it), some (.int 0), none]) G dM_field_51 (Nat.le_of_ble_eq_true rfl) rfl ?_
      refine zz_aload_n G dM_field_53 rfl ?_
      refine zz_get (v := .int 0) G dM_field_54 flM_23 rfl rfl ?_
      refine zz_if_gt (tgt := 65) G dM_field_57 rfl (fun h57 => ((absurd h57 (by decide) : False)).elim) (fun h57 => ?_)
      refine zz_iload G dM_field_60 rfl ?_
      refine zz_if_ne (tgt := 78) G dM_field_62 rfl (fun h62 => ((absurd h62 (by decide) : False)).elim) (fun h62 => ?_)
      refine zz_aload_n G dM_field_65 rfl ?_
      refine zz_get (v := .int 0) G dM_field_66 flM_23 rfl rfl ?_
      refine zz_if_le (tgt := 76) G dM_field_69 rfl (fun h69 => ?_) (fun h69 => ((absurd h69 (by decide) : False)).elim)
      refine zz_iconst (v := -1) G dM_field_76 (by decide) ?_
      exact zz_iret G hret dM_field_77 (by rw [qField, if_pos h5, if_pos h17] <;> rfl) (Nat.le_of_ble_eq_true rfl) (Nat.le_of_ble_eq_true rfl)
    · refine zz_iload_n G dM_field_20 rfl ?_
      refine zz_aload_n G dM_field_21 rfl ?_
      refine zz_get (v := .int (fm_entries m)) G dM_field_22 flM_42 rfl rfl ?_
      refine zz_icmp_ge (tgt := 50) G dM_field_25 rfl (fun h25 => ?_) (fun h25 => ?_)
      · refine zz_iconst (v := 0) G dM_field_50 (by decide) ?_
        refine zz_istore (lv' := [some (.ref 5), some (.int en), some (.int k), some (.int it), some (.int 0), none]) G dM_field_51 (Nat.le_of_ble_eq_true rfl) rfl ?_
        refine zz_aload_n G dM_field_53 rfl ?_
        refine zz_get (v := .int 0) G dM_field_54 flM_23 rfl rfl ?_
        refine zz_if_gt (tgt := 65) G dM_field_57 rfl (fun h57 => ((absurd h57 (by decide) : False)).elim) (fun h57 => ?_)
        refine zz_iload G dM_field_60 rfl ?_
        refine zz_if_ne (tgt := 78) G dM_field_62 rfl (fun h62 => ((absurd h62 (by decide) : False)).elim) (fun h62 => ?_)
        refine zz_aload_n G dM_field_65 rfl ?_
        refine zz_get (v := .int 0) G dM_field_66 flM_23 rfl rfl ?_
        refine zz_if_le (tgt := 76) G dM_field_69 rfl (fun h69 => ?_) (fun h69 => ((absurd h69 (by decide) : False)).elim)
        refine zz_iconst (v := -1) G dM_field_76 (by decide) ?_
        exact zz_iret G hret dM_field_77 (by rw [qField, if_pos h5, if_neg h17, if_pos h25] <;> rfl) (Nat.le_of_ble_eq_true rfl) (Nat.le_of_ble_eq_true rfl)
      · refine zz_iload_n G dM_field_28 rfl ?_
        refine zz_if_lt (tgt := 50) G dM_field_29 rfl (fun h29 => ?_) (fun h29 => ?_)
        · refine zz_iconst (v := 0) G dM_field_50 (by decide) ?_
          refine zz_istore (lv' := [some (.ref 5), some (.int en), some (.int k), some (.int it), some (.int 0), none]) G dM_field_51 (Nat.le_of_ble_eq_true rfl) rfl ?_
          refine zz_aload_n G dM_field_53 rfl ?_
          refine zz_get (v := .int 0) G dM_field_54 flM_23 rfl rfl ?_
          refine zz_if_gt (tgt := 65) G dM_field_57 rfl (fun h57 => ((absurd h57 (by decide) : False)).elim) (fun h57 => ?_)
          refine zz_iload G dM_field_60 rfl ?_
          refine zz_if_ne (tgt := 78) G dM_field_62 rfl (fun h62 => ((absurd h62 (by decide) : False)).elim) (fun h62 => ?_)
          refine zz_aload_n G dM_field_65 rfl ?_
          refine zz_get (v := .int 0) G dM_field_66 flM_23 rfl rfl ?_
          refine zz_if_le (tgt := 76) G dM_field_69 rfl (fun h69 => ?_) (fun h69 => ((absurd h69 (by decide) : False)).elim)
          refine zz_iconst (v := -1) G dM_field_76 (by decide) ?_
          exact zz_iret G hret dM_field_77 (by rw [qField, if_pos h5, if_neg h17, if_neg h25, if_pos h29] <;> rfl) (Nat.le_of_ble_eq_true rfl) (Nat.le_of_ble_eq_true rfl)
        · refine zz_iload_n G dM_field_32 rfl ?_
          refine zz_bipush (v := 6) G dM_field_33 (by decide) ?_
          refine zz_icmp_ge (tgt := 50) G dM_field_35 rfl (fun h35 => ?_) (fun h35 => ?_)
          · refine zz_iconst (v := 0) G dM_field_50 (by decide) ?_
            refine zz_istore (lv' := [some (.ref 5), some (.int en), some (.int k), some (.int it), some (.int 0), none]) G dM_field_51 (Nat.le_of_ble_eq_true rfl) rfl ?_
            refine zz_aload_n G dM_field_53 rfl ?_
            refine zz_get (v := .int 0) G dM_field_54 flM_23 rfl rfl ?_
            refine zz_if_gt (tgt := 65) G dM_field_57 rfl (fun h57 => ((absurd h57 (by decide) : False)).elim) (fun h57 => ?_)
            refine zz_iload G dM_field_60 rfl ?_
            refine zz_if_ne (tgt := 78) G dM_field_62 rfl (fun h62 => ((absurd h62 (by decide) : False)).elim) (fun h62 => ?_)
            refine zz_aload_n G dM_field_65 rfl ?_
            refine zz_get (v := .int 0) G dM_field_66 flM_23 rfl rfl ?_
            refine zz_if_le (tgt := 76) G dM_field_69 rfl (fun h69 => ?_) (fun h69 => ((absurd h69 (by decide) : False)).elim)
            refine zz_iconst (v := -1) G dM_field_76 (by decide) ?_
            exact zz_iret G hret dM_field_77 (by rw [qField, if_pos h5, if_neg h17, if_neg h25, if_neg h29, if_pos h35] <;> rfl) (Nat.le_of_ble_eq_true rfl) (Nat.le_of_ble_eq_true rfl)
          · refine zz_aload_n G dM_field_38 rfl ?_
            refine zz_iload_n G dM_field_39 rfl ?_
            refine zz_callVi (v := sTime (fm_clock m) it) (w' := (wx x (sm_code m 0) o)) (As := [.int it]) (rest := []) G (cm_isTime l x (sm_code m 0) o it) kM_88 dM_field_40 rfl rfl rfl rfl (Nat.le_of_ble_eq_true rfl) (fun _ => rfl) ⟨Nat.le_of_ble_eq_true rfl, Nat.le_of_ble_eq_true rfl⟩ ⟨Nat.le_of_ble_eq_true rfl, Nat.le_of_ble_eq_true rfl⟩ ?_
            refine zz_if_eq (tgt := 50) G dM_field_43 rfl (fun h43 => ?_) (fun h43 => ?_)
            · refine zz_iconst (v := 0) G dM_field_50 (by decide) ?_
              refine zz_istore (lv' := [some (.ref 5), some (.int en), some (.int k), some (.int it), some (.int 0), none]) G dM_field_51 (Nat.le_of_ble_eq_true rfl) rfl ?_
              refine zz_aload_n G dM_field_53 rfl ?_
              refine zz_get (v := .int 0) G dM_field_54 flM_23 rfl rfl ?_
              refine zz_if_gt (tgt := 65) G dM_field_57 rfl (fun h57 => ((absurd h57 (by decide) : False)).elim) (fun h57 => ?_)
              refine zz_iload G dM_field_60 rfl ?_
              refine zz_if_ne (tgt := 78) G dM_field_62 rfl (fun h62 => ((absurd h62 (by decide) : False)).elim) (fun h62 => ?_)
              refine zz_aload_n G dM_field_65 rfl ?_
              refine zz_get (v := .int 0) G dM_field_66 flM_23 rfl rfl ?_
              refine zz_if_le (tgt := 76) G dM_field_69 rfl (fun h69 => ?_) (fun h69 => ((absurd h69 (by decide) : False)).elim)
              refine zz_iconst (v := -1) G dM_field_76 (by decide) ?_
              exact zz_iret G hret dM_field_77 (by rw [qField, if_pos h5, if_neg h17, if_neg h25, if_neg h29, if_neg h35, if_pos h43] <;> rfl) (Nat.le_of_ble_eq_true rfl) (Nat.le_of_ble_eq_true rfl)
            · refine zz_iconst (v := 1) G dM_field_46 (by decide) ?_
              refine zz_goto (tgt := 51) G dM_field_47 rfl ?_
              refine zz_istore (lv' := [some (.ref 5), some (.int en), some (.int k), some (.int it), some (.int 1), none]) G dM_field_51 (Nat.le_of_ble_eq_true rfl) rfl ?_
              refine zz_aload_n G dM_field_53 rfl ?_
              refine zz_get (v := .int 0) G dM_field_54 flM_23 rfl rfl ?_
              refine zz_if_gt (tgt := 65) G dM_field_57 rfl (fun h57 => ((absurd h57 (by decide) : False)).elim) (fun h57 => ?_)
              refine zz_iload G dM_field_60 rfl ?_
              refine zz_if_ne (tgt := 78) G dM_field_62 rfl (fun h62 => ?_) (fun h62 => ((absurd h62 (by decide) : False)).elim)
              skip
              obtain ⟨t, ht, rfl⟩ := sTime_of hn (by rw [← hcl]; exact h43)
              obtain ⟨k, hk, rfl⟩ := sWrd_of (show ¬ sWrd k = 0 by unfold sWrd; rw [if_neg h29, if_neg h35]; decide)
              rcases hq : sLast (fm_words m) en t with _ | u
              · refine zz_aload_n G dM_field_78 rfl ?_
                refine zz_iload_n G dM_field_79 rfl ?_
                refine zz_iload_n G dM_field_80 rfl ?_
                refine zz_callVi (v := (-1)) (w' := (wx x (sm_code m 0) o)) (As := [.int en, .int (nI t)]) (rest := []) G (by have q := cm_currentAt l x (sm_code m 0) o en _ t rfl (by omega); rw [show sLast (fm_words (sm_code m 0)) en t = _ from hq] at q; exact q) kM_45 dM_field_81 rfl rfl rfl rfl (Nat.le_of_ble_eq_true rfl) (fun _ => rfl) ⟨Nat.le_of_ble_eq_true rfl, Nat.le_of_ble_eq_true rfl⟩ ⟨Nat.le_of_ble_eq_true rfl, Nat.le_of_ble_eq_true rfl⟩ ?_
                refine zz_istore (lv' := [some (.ref 5), some (.int en), some (.int (nI k)), some (.int (nI t)), some (.int 1), some (.int (-1))]) G dM_field_84 (Nat.le_of_ble_eq_true rfl) rfl ?_
                refine zz_iload G dM_field_86 rfl ?_
                refine zz_if_ge (tgt := 95) G dM_field_88 rfl (fun h88 => ((absurd h88 (by decide) : False)).elim) (fun h88 => ?_)
                refine zz_iconst (v := -1) G dM_field_91 (by decide) ?_
                refine zz_goto (tgt := 102) G dM_field_92 rfl ?_
                exact zz_iret G hret dM_field_102 (by rw [qField, if_pos h5, if_neg h17, if_neg h25, if_neg h29, if_neg h35, if_neg h43, nI_clamp (show t < 2 ^ 31 by omega), hq] <;> rfl) (Nat.le_of_ble_eq_true rfl) (Nat.le_of_ble_eq_true rfl)
              · have hu : u < t := (mL_lt t hq).1
                refine zz_aload_n G dM_field_78 rfl ?_
                refine zz_iload_n G dM_field_79 rfl ?_
                refine zz_iload_n G dM_field_80 rfl ?_
                refine zz_callVi (v := nI u) (w' := (wx x (sm_code m 0) o)) (As := [.int en, .int (nI t)]) (rest := []) G (by have q := cm_currentAt l x (sm_code m 0) o en _ t rfl (by omega); rw [show sLast (fm_words (sm_code m 0)) en t = _ from hq] at q; exact q) kM_45 dM_field_81 rfl rfl rfl rfl (Nat.le_of_ble_eq_true rfl) (fun _ => rfl) ⟨Nat.le_of_ble_eq_true rfl, Nat.le_of_ble_eq_true rfl⟩ ⟨Nat.le_of_ble_eq_true rfl, Nat.le_of_ble_eq_true rfl⟩ ?_
                refine zz_istore (lv' := [some (.ref 5), some (.int en), some (.int (nI k)), some (.int (nI t)), some (.int 1), some (.int (nI u))]) G dM_field_84 (Nat.le_of_ble_eq_true rfl) rfl ?_
                refine zz_iload G dM_field_86 rfl ?_
                refine zz_if_ge (tgt := 95) G dM_field_88 rfl (fun h88 => ?_) (fun h88 => (h88 (i32_nn (nI_pos (show u < 2 ^ 31 by omega)))).elim)
                refine zz_aload_n G dM_field_95 rfl ?_
                refine zz_iload G dM_field_96 rfl ?_
                refine zz_iload_n G dM_field_98 rfl ?_
                refine zz_callVi (v := fm_words m (6 * u + k)) (w' := (wx x (sm_code m 0) o)) (As := [.int (nI u), .int (nI k)]) (rest := []) G (cm_word l x (sm_code m 0) o u k _ _ rfl rfl (by omega) (hk)) kM_30 dM_field_99 rfl rfl rfl rfl (Nat.le_of_ble_eq_true rfl) (fun _ => rfl) ⟨Nat.le_of_ble_eq_true rfl, Nat.le_of_ble_eq_true rfl⟩ ⟨Nat.le_of_ble_eq_true rfl, Nat.le_of_ble_eq_true rfl⟩ ?_
                exact zz_iret G hret dM_field_102 (by rw [qField, if_pos h5, if_neg h17, if_neg h25, if_neg h29, if_neg h35, if_neg h43, nI_clamp (show t < 2 ^ 31 by omega), hq]; show Sum.inl (some (Value.int (fm_words m (6 * u + (nI k).toNatClampNeg))), wx x (sm_code m 0) o) = _; rw [nI_clamp (show k < 2 ^ 31 by omega)]) (Nat.le_of_ble_eq_true rfl) (Nat.le_of_ble_eq_true rfl)
  · refine zz_iconst (v := 1) G dM_field_8 (by decide) ?_
    refine zz_goto (tgt := 13) G dM_field_9 rfl ?_
    refine zz_put (w' := (wx x (sm_code m 1) o)) rfl G dM_field_13 flM_23 rfl rfl rfl (Nat.le_of_ble_eq_true rfl) rfl ?_
    refine zz_iload_n G dM_field_16 rfl ?_
    refine zz_if_lt (tgt := 50) G dM_field_17 rfl (fun h17 => ?_) (fun h17 => ?_)
    · refine zz_iconst (v := 0) G dM_field_50 (by decide) ?_
      refine zz_istore (lv' := [some (.ref 5), some (.int en), some (.int k), some (.int it), some (.int 0), none]) G dM_field_51 (Nat.le_of_ble_eq_true rfl) rfl ?_
      refine zz_aload_n G dM_field_53 rfl ?_
      refine zz_get (v := .int 1) G dM_field_54 flM_23 rfl rfl ?_
      refine zz_if_gt (tgt := 65) G dM_field_57 rfl (fun h57 => ?_) (fun h57 => ((absurd h57 (by decide) : False)).elim)
      refine zz_aload_n G dM_field_65 rfl ?_
      refine zz_get (v := .int 1) G dM_field_66 flM_23 rfl rfl ?_
      refine zz_if_le (tgt := 76) G dM_field_69 rfl (fun h69 => ((absurd h69 (by decide) : False)).elim) (fun h69 => ?_)
      refine zz_iconst (v := 0) G dM_field_72 (by decide) ?_
      refine zz_goto (tgt := 77) G dM_field_73 rfl ?_
      exact zz_iret G hret dM_field_77 (by rw [qField, if_neg h5] <;> rfl) (Nat.le_of_ble_eq_true rfl) (Nat.le_of_ble_eq_true rfl)
    · refine zz_iload_n G dM_field_20 rfl ?_
      refine zz_aload_n G dM_field_21 rfl ?_
      refine zz_get (v := .int (fm_entries m)) G dM_field_22 flM_42 rfl rfl ?_
      refine zz_icmp_ge (tgt := 50) G dM_field_25 rfl (fun h25 => ?_) (fun h25 => ?_)
      · refine zz_iconst (v := 0) G dM_field_50 (by decide) ?_
        refine zz_istore (lv' := [some (.ref 5), some (.int en), some (.int k), some (.int it), some (.int 0), none]) G dM_field_51 (Nat.le_of_ble_eq_true rfl) rfl ?_
        refine zz_aload_n G dM_field_53 rfl ?_
        refine zz_get (v := .int 1) G dM_field_54 flM_23 rfl rfl ?_
        refine zz_if_gt (tgt := 65) G dM_field_57 rfl (fun h57 => ?_) (fun h57 => ((absurd h57 (by decide) : False)).elim)
        refine zz_aload_n G dM_field_65 rfl ?_
        refine zz_get (v := .int 1) G dM_field_66 flM_23 rfl rfl ?_
        refine zz_if_le (tgt := 76) G dM_field_69 rfl (fun h69 => ((absurd h69 (by decide) : False)).elim) (fun h69 => ?_)
        refine zz_iconst (v := 0) G dM_field_72 (by decide) ?_
        refine zz_goto (tgt := 77) G dM_field_73 rfl ?_
        exact zz_iret G hret dM_field_77 (by rw [qField, if_neg h5] <;> rfl) (Nat.le_of_ble_eq_true rfl) (Nat.le_of_ble_eq_true rfl)
      · refine zz_iload_n G dM_field_28 rfl ?_
        refine zz_if_lt (tgt := 50) G dM_field_29 rfl (fun h29 => ?_) (fun h29 => ?_)
        · refine zz_iconst (v := 0) G dM_field_50 (by decide) ?_
          refine zz_istore (lv' := [some (.ref 5), some (.int en), some (.int k), some (.int it), some (.int 0), none]) G dM_field_51 (Nat.le_of_ble_eq_true rfl) rfl ?_
          refine zz_aload_n G dM_field_53 rfl ?_
          refine zz_get (v := .int 1) G dM_field_54 flM_23 rfl rfl ?_
          refine zz_if_gt (tgt := 65) G dM_field_57 rfl (fun h57 => ?_) (fun h57 => ((absurd h57 (by decide) : False)).elim)
          refine zz_aload_n G dM_field_65 rfl ?_
          refine zz_get (v := .int 1) G dM_field_66 flM_23 rfl rfl ?_
          refine zz_if_le (tgt := 76) G dM_field_69 rfl (fun h69 => ((absurd h69 (by decide) : False)).elim) (fun h69 => ?_)
          refine zz_iconst (v := 0) G dM_field_72 (by decide) ?_
          refine zz_goto (tgt := 77) G dM_field_73 rfl ?_
          exact zz_iret G hret dM_field_77 (by rw [qField, if_neg h5] <;> rfl) (Nat.le_of_ble_eq_true rfl) (Nat.le_of_ble_eq_true rfl)
        · refine zz_iload_n G dM_field_32 rfl ?_
          refine zz_bipush (v := 6) G dM_field_33 (by decide) ?_
          refine zz_icmp_ge (tgt := 50) G dM_field_35 rfl (fun h35 => ?_) (fun h35 => ?_)
          · refine zz_iconst (v := 0) G dM_field_50 (by decide) ?_
            refine zz_istore (lv' := [some (.ref 5), some (.int en), some (.int k), some (.int it), some (.int 0), none]) G dM_field_51 (Nat.le_of_ble_eq_true rfl) rfl ?_
            refine zz_aload_n G dM_field_53 rfl ?_
            refine zz_get (v := .int 1) G dM_field_54 flM_23 rfl rfl ?_
            refine zz_if_gt (tgt := 65) G dM_field_57 rfl (fun h57 => ?_) (fun h57 => ((absurd h57 (by decide) : False)).elim)
            refine zz_aload_n G dM_field_65 rfl ?_
            refine zz_get (v := .int 1) G dM_field_66 flM_23 rfl rfl ?_
            refine zz_if_le (tgt := 76) G dM_field_69 rfl (fun h69 => ((absurd h69 (by decide) : False)).elim) (fun h69 => ?_)
            refine zz_iconst (v := 0) G dM_field_72 (by decide) ?_
            refine zz_goto (tgt := 77) G dM_field_73 rfl ?_
            exact zz_iret G hret dM_field_77 (by rw [qField, if_neg h5] <;> rfl) (Nat.le_of_ble_eq_true rfl) (Nat.le_of_ble_eq_true rfl)
          · refine zz_aload_n G dM_field_38 rfl ?_
            refine zz_iload_n G dM_field_39 rfl ?_
            refine zz_callVi (v := sTime (fm_clock m) it) (w' := (wx x (sm_code m 1) o)) (As := [.int it]) (rest := []) G (cm_isTime l x (sm_code m 1) o it) kM_88 dM_field_40 rfl rfl rfl rfl (Nat.le_of_ble_eq_true rfl) (fun _ => rfl) ⟨Nat.le_of_ble_eq_true rfl, Nat.le_of_ble_eq_true rfl⟩ ⟨Nat.le_of_ble_eq_true rfl, Nat.le_of_ble_eq_true rfl⟩ ?_
            refine zz_if_eq (tgt := 50) G dM_field_43 rfl (fun h43 => ?_) (fun h43 => ?_)
            · refine zz_iconst (v := 0) G dM_field_50 (by decide) ?_
              refine zz_istore (lv' := [some (.ref 5), some (.int en), some (.int k), some (.int it), some (.int 0), none]) G dM_field_51 (Nat.le_of_ble_eq_true rfl) rfl ?_
              refine zz_aload_n G dM_field_53 rfl ?_
              refine zz_get (v := .int 1) G dM_field_54 flM_23 rfl rfl ?_
              refine zz_if_gt (tgt := 65) G dM_field_57 rfl (fun h57 => ?_) (fun h57 => ((absurd h57 (by decide) : False)).elim)
              refine zz_aload_n G dM_field_65 rfl ?_
              refine zz_get (v := .int 1) G dM_field_66 flM_23 rfl rfl ?_
              refine zz_if_le (tgt := 76) G dM_field_69 rfl (fun h69 => ((absurd h69 (by decide) : False)).elim) (fun h69 => ?_)
              refine zz_iconst (v := 0) G dM_field_72 (by decide) ?_
              refine zz_goto (tgt := 77) G dM_field_73 rfl ?_
              exact zz_iret G hret dM_field_77 (by rw [qField, if_neg h5] <;> rfl) (Nat.le_of_ble_eq_true rfl) (Nat.le_of_ble_eq_true rfl)
            · refine zz_iconst (v := 1) G dM_field_46 (by decide) ?_
              refine zz_goto (tgt := 51) G dM_field_47 rfl ?_
              refine zz_istore (lv' := [some (.ref 5), some (.int en), some (.int k), some (.int it), some (.int 1), none]) G dM_field_51 (Nat.le_of_ble_eq_true rfl) rfl ?_
              refine zz_aload_n G dM_field_53 rfl ?_
              refine zz_get (v := .int 1) G dM_field_54 flM_23 rfl rfl ?_
              refine zz_if_gt (tgt := 65) G dM_field_57 rfl (fun h57 => ?_) (fun h57 => ((absurd h57 (by decide) : False)).elim)
              refine zz_aload_n G dM_field_65 rfl ?_
              refine zz_get (v := .int 1) G dM_field_66 flM_23 rfl rfl ?_
              refine zz_if_le (tgt := 76) G dM_field_69 rfl (fun h69 => ((absurd h69 (by decide) : False)).elim) (fun h69 => ?_)
              refine zz_iconst (v := 0) G dM_field_72 (by decide) ?_
              refine zz_goto (tgt := 77) G dM_field_73 rfl ?_
              exact zz_iret G hret dM_field_77 (by rw [qField, if_neg h5] <;> rfl) (Nat.le_of_ble_eq_true rfl) (Nat.le_of_ble_eq_true rfl)
set_option maxRecDepth 100000 in
set_option maxHeartbeats 4000000 in
theorem cm_entries (l : Launch) (x : XS) (m : MS) (o : Nat → Int64)  : zC l yM_entries (Jvm.Cond.code yM_entries bM_entries 1 (some .int) :: Tw) 0 false 0 0 [.ref 5] (wx x m o) (qEnt x m o) := by
  refine zC_of [some (.ref 5)] (by decide) rfl (Nat.le_of_ble_eq_true rfl) ?_
  intro p e s mm args below meth c D cI cJ as G hret hex hbd
  refine zz_aload_n G dM_entries_0 rfl ?_
  refine zz_aload_n G dM_entries_1 rfl ?_
  refine zz_get (v := .int (fm_touched m)) G dM_entries_2 flM_65 rfl rfl ?_
  refine zz_if_eq (tgt := 12) G dM_entries_5 rfl (fun h5 => ?_) (fun h5 => ?_)
  · refine zz_iconst (v := 0) G dM_entries_12 (by decide) ?_
    refine zz_put (w' := (wx x (sm_code m 0) o)) rfl G dM_entries_13 flM_23 rfl rfl rfl (Nat.le_of_ble_eq_true rfl) rfl ?_
    refine zz_aload_n G dM_entries_16 rfl ?_
    refine zz_get (v := .int 0) G dM_entries_17 flM_23 rfl rfl ?_
    refine zz_if_le (tgt := 27) G dM_entries_20 rfl (fun h20 => ?_) (fun h20 => ((absurd h20 (by decide) : False)).elim)
    refine zz_aload_n G dM_entries_27 rfl ?_
    refine zz_get (v := .int (fm_entries m)) G dM_entries_28 flM_42 rfl rfl ?_
    exact zz_iret G hret dM_entries_31 (by rw [qEnt, if_pos h5] <;> rfl) (Nat.le_of_ble_eq_true rfl) (Nat.le_of_ble_eq_true rfl)
  · refine zz_iconst (v := 1) G dM_entries_8 (by decide) ?_
    refine zz_goto (tgt := 13) G dM_entries_9 rfl ?_
    refine zz_put (w' := (wx x (sm_code m 1) o)) rfl G dM_entries_13 flM_23 rfl rfl rfl (Nat.le_of_ble_eq_true rfl) rfl ?_
    refine zz_aload_n G dM_entries_16 rfl ?_
    refine zz_get (v := .int 1) G dM_entries_17 flM_23 rfl rfl ?_
    refine zz_if_le (tgt := 27) G dM_entries_20 rfl (fun h20 => ((absurd h20 (by decide) : False)).elim) (fun h20 => ?_)
    refine zz_iconst (v := 0) G dM_entries_23 (by decide) ?_
    refine zz_goto (tgt := 31) G dM_entries_24 rfl ?_
    exact zz_iret G hret dM_entries_31 (by rw [qEnt, if_neg h5] <;> rfl) (Nat.le_of_ble_eq_true rfl) (Nat.le_of_ble_eq_true rfl)
set_option maxRecDepth 100000 in
set_option maxHeartbeats 4000000 in
theorem cm_clock (l : Launch) (x : XS) (m : MS) (o : Nat → Int64)  : zC l yM_clock (Jvm.Cond.code yM_clock bM_clock 1 (some .int) :: Tw) 0 false 0 0 [.ref 5] (wx x m o) (.inl (some (.int (fm_clock m)), wx x (sm_code m 0) o)) := by
  refine zC_of [some (.ref 5)] (by decide) rfl (Nat.le_of_ble_eq_true rfl) ?_
  intro p e s mm args below meth c D cI cJ as G hret hex hbd
  refine zz_aload_n G dM_clock_0 rfl ?_
  refine zz_iconst (v := 0) G dM_clock_1 (by decide) ?_
  refine zz_put (w' := (wx x (sm_code m 0) o)) rfl G dM_clock_2 flM_23 rfl rfl rfl (Nat.le_of_ble_eq_true rfl) rfl ?_
  refine zz_aload_n G dM_clock_5 rfl ?_
  refine zz_get (v := .int (fm_clock m)) G dM_clock_6 flM_27 rfl rfl ?_
  exact zz_iret G hret dM_clock_9 (rfl) (Nat.le_of_ble_eq_true rfl) (Nat.le_of_ble_eq_true rfl)
set_option maxRecDepth 100000 in
set_option maxHeartbeats 4000000 in
theorem cm_head (l : Launch) (x : XS) (m : MS) (o : Nat → Int64) (n : Nat) (hcl : fm_clock m = nI n) (hn : n ≤ 64) : zC l yM_head (Jvm.Cond.code yM_head bM_head 1 (some .long) :: Tw) 1 false 0 0 [.ref 5] (wx x m o) (.inl (some (.long (sBef (fm_links m) n)), wx x (sm_code m 0) o)) := by
  refine zC_of [some (.ref 5)] (by decide) rfl (Nat.le_of_ble_eq_true rfl) ?_
  intro p e s mm args below meth c D cI cJ as G hret hex hbd
  refine zz_aload_n G dM_head_0 rfl ?_
  refine zz_iconst (v := 0) G dM_head_1 (by decide) ?_
  refine zz_put (w' := (wx x (sm_code m 0) o)) rfl G dM_head_2 flM_23 rfl rfl rfl (Nat.le_of_ble_eq_true rfl) rfl ?_
  refine zz_aload_n G dM_head_5 rfl ?_
  refine zz_aload_n G dM_head_6 rfl ?_
  refine zz_get (v := .int (nI n)) G dM_head_7 flM_27 rfl (by rw [← hcl]; rfl) ?_
  refine zz_callVl (v := sBef (fm_links m) n) (w' := (wx x (sm_code m 0) o)) (As := [.int (nI n)]) (rest := []) G (cm_linkBefore l x (sm_code m 0) o n _ rfl (hn)) kM_58 dM_head_10 rfl rfl rfl rfl (Nat.le_of_ble_eq_true rfl) (fun _ => rfl) ⟨Nat.le_of_ble_eq_true rfl, Nat.le_of_ble_eq_true rfl⟩ ⟨Nat.le_of_ble_eq_true rfl, Nat.le_of_ble_eq_true rfl⟩ ?_
  exact zz_lret G hret dM_head_13 (rfl) (Nat.le_of_ble_eq_true rfl) (Nat.le_of_ble_eq_true rfl)
set_option maxRecDepth 100000 in
set_option maxHeartbeats 4000000 in
theorem cm_verify (l : Launch) (x : XS) (m : MS) (o : Nat → Int64) (n : Nat) (hcl : fm_clock m = nI n) (hn : n ≤ 64) : zC l yM_verify (Jvm.Cond.code yM_verify bM_verify 4 (some .int) :: Tw) 2 false 0 0 [.ref 5] (wx x m o) (.inl (some (.int (sVfy (fm_words m) (fm_links m) 0 n)), wx x (sm_code m 0) o)) := by
  refine zC_of [some (.ref 5), none, none, none] (by decide) rfl (Nat.le_of_ble_eq_true rfl) ?_
  intro p e s mm args below meth c D cI cJ as G hret hex hbd
  have loop : ∀ (d v : Nat), v + d = n → sVfy (fm_words m) (fm_links m) v d = sVfy (fm_words m) (fm_links m) 0 n → Z p l e (zrm 2) s mm args below meth c 4 D cI cJ as false 0 0 (zMQ below (.inl (some (.int (sVfy (fm_words m) (fm_links m) 0 n)), wx x (sm_code m 0) o)) D cI cJ as false s 0 0) 7 [some (.ref 5), some (.int (nI v)), none, none] [] (wx x (sm_code m 0) o) := by
    intro d
    induction d with
    | zero =>
      intro v hv hq
      have hv : n = v := by omega
      subst hv
      refine zz_iload_n G dM_verify_7 rfl ?_
      refine zz_aload_n G dM_verify_8 rfl ?_
      refine zz_get (v := .int (nI n)) G dM_verify_9 flM_27 rfl (by rw [← hcl]; rfl) ?_
      refine zz_icmp_ge (tgt := 47) G dM_verify_12 rfl (fun h12 => ?_) (fun h12 => (h12 (nI_le (Nat.le_refl _) (by omega))).elim)
      refine zz_iconst (v := 0) G dM_verify_47 (by decide) ?_
      exact zz_iret G hret dM_verify_48 (by rw [← hq] <;> rfl) (Nat.le_of_ble_eq_true rfl) (Nat.le_of_ble_eq_true rfl)
    | succ d ih =>
      intro v hv hq
      refine zz_iload_n G dM_verify_7 rfl ?_
      refine zz_aload_n G dM_verify_8 rfl ?_
      refine zz_get (v := .int (nI n)) G dM_verify_9 flM_27 rfl (by rw [← hcl]; rfl) ?_
      refine zz_icmp_ge (tgt := 47) G dM_verify_12 rfl (fun h12 => (nI_ge (by omega) (by omega) h12).elim) (fun h12 => ?_)
      refine zz_aload_n G dM_verify_15 rfl ?_
      refine zz_iload_n G dM_verify_16 rfl ?_
      refine zz_aload_n G dM_verify_17 rfl ?_
      refine zz_iload_n G dM_verify_18 rfl ?_
      refine zz_callVl (v := sBef (fm_links m) v) (w' := (wx x (sm_code m 0) o)) (As := [.int (nI v)]) (rest := [.int (nI v), .ref 5]) G (cm_linkBefore l x (sm_code m 0) o v _ rfl (by omega)) kM_58 dM_verify_19 rfl rfl rfl rfl (Nat.le_of_ble_eq_true rfl) (fun _ => rfl) ⟨Nat.le_of_ble_eq_true rfl, Nat.le_of_ble_eq_true rfl⟩ ⟨Nat.le_of_ble_eq_true rfl, Nat.le_of_ble_eq_true rfl⟩ ?_
      refine zz_callVl (v := sLnk (fm_words m) v (sBef (fm_links m) v) 6) (w' := (wx x (sm_code m 0) o)) (As := [.int (nI v), .long (sBef (fm_links m) v)]) (rest := []) G (cm_linkOf l x (sm_code m 0) o v _ (sBef (fm_links m) v) rfl (by omega)) kM_61 dM_verify_22 rfl rfl rfl rfl (Nat.le_of_ble_eq_true rfl) (fun _ => rfl) ⟨Nat.le_of_ble_eq_true rfl, Nat.le_of_ble_eq_true rfl⟩ ⟨Nat.le_of_ble_eq_true rfl, Nat.le_of_ble_eq_true rfl⟩ ?_
      refine zz_lstore_n (lv' := [some (.ref 5), some (.int (nI v)), some (.long (sLnk (fm_words m) v (sBef (fm_links m) v) 6)), none]) G dM_verify_25 (Nat.le_of_ble_eq_true rfl) rfl ?_
      refine zz_lload_n G dM_verify_26 rfl ?_
      refine zz_aload_n G dM_verify_27 rfl ?_
      refine zz_get (v := .ref 7) G dM_verify_28 flM_13 rfl rfl ?_
      refine zz_iload_n G dM_verify_31 rfl ?_
      refine zz_lald (v := fm_links m v) G dM_verify_32 rfl (i1_in (by omega)) (by rw [i1_at (by omega)] <;> rfl) ?_
      refine zz_lcmp G dM_verify_33 ?_
      refine zz_if_eq (tgt := 41) G dM_verify_34 rfl (fun h34 => ?_) (fun h34 => ?_)
      · refine zz_iinc (v := nI (v + 1)) (lv' := [some (.ref 5), some (.int (nI (v + 1))), some (.long (sLnk (fm_words m) v (sBef (fm_links m) v) 6)), none]) G dM_verify_41 rfl (by rw [nI_succ] <;> rfl) rfl ?_
        refine zz_goto (tgt := 7) G dM_verify_44 rfl ?_
        refine zz_few (lv' := [some (.ref 5), some (.int (nI (v + 1))), none, none]) (by exact ⟨rfl, rfl, trivial⟩) ?_
        refine ih (v + 1) (by omega) ?_
        rw [← hq]
        show _ = (if sLnk (fm_words m) v (sBef (fm_links m) v) 6 = fm_links m v then _ else _)
        rw [if_pos ((lg_cmp_eq _ _).mp h34)]
      · refine zz_iload_n G dM_verify_37 rfl ?_
        refine zz_iconst (v := 1) G dM_verify_38 (by decide) ?_
        refine zz_iadd G dM_verify_39 ?_
        exact zz_iret G hret dM_verify_40 (by rw [← hq, show sVfy (fm_words m) (fm_links m) v (d + 1) = nI v + 1 from by show (if sLnk (fm_words m) v (sBef (fm_links m) v) 6 = fm_links m v then _ else _) = _; rw [if_neg (fun z => h34 ((lg_cmp_eq _ _).mpr z))]]) (Nat.le_of_ble_eq_true rfl) (Nat.le_of_ble_eq_true rfl)
  refine zz_aload_n G dM_verify_0 rfl ?_
  refine zz_iconst (v := 0) G dM_verify_1 (by decide) ?_
  refine zz_put (w' := (wx x (sm_code m 0) o)) rfl G dM_verify_2 flM_23 rfl rfl rfl (Nat.le_of_ble_eq_true rfl) rfl ?_
  refine zz_iconst (v := 0) G dM_verify_5 (by decide) ?_
  refine zz_istore_n (lv' := [some (.ref 5), some (.int 0), none, none]) G dM_verify_6 (Nat.le_of_ble_eq_true rfl) rfl ?_
  exact loop n 0 (by omega) rfl
set_option maxRecDepth 100000 in
set_option maxHeartbeats 4000000 in
theorem cm_tamper (l : Launch) (x : XS) (m : MS) (o : Nat → Int64) (n : Nat) (v k b : Int32) (hcl : fm_clock m = nI n) (hn : n ≤ 64) : zC l yM_tamper (Jvm.Cond.code yM_tamper bM_tamper 4 (some .boolean) :: Tw) 0 false 0 0 [.ref 5, .int v, .int k, .int b] (wx x m o) (qTamp x m o v k b) := by
  refine zC_of [some (.ref 5), some (.int v), some (.int k), some (.int b)] (by decide) rfl (Nat.le_of_ble_eq_true rfl) ?_
  intro p e s mm args below meth c D cI cJ as G hret hex hbd
  refine zz_aload_n G dM_tamper_0 rfl ?_
  refine zz_iconst (v := 0) G dM_tamper_1 (by decide) ?_
  refine zz_put (w' := (wx x (sm_code m 0) o)) rfl G dM_tamper_2 flM_23 rfl rfl rfl (Nat.le_of_ble_eq_true rfl) rfl ?_
  refine zz_iload_n G dM_tamper_5 rfl ?_
  refine zz_if_lt (tgt := 26) G dM_tamper_6 rfl (fun h6 => ?_) (fun h6 => ?_)
  · refine zz_iconst (v := 0) G dM_tamper_26 (by decide) ?_
    exact zz_zret G hret dM_tamper_27 rfl (by rw [qTamp, if_pos h6] <;> rfl) (Nat.le_of_ble_eq_true rfl) (Nat.le_of_ble_eq_true rfl)
  · refine zz_iload_n G dM_tamper_9 rfl ?_
    refine zz_aload_n G dM_tamper_10 rfl ?_
    refine zz_get (v := .int (fm_clock m)) G dM_tamper_11 flM_27 rfl rfl ?_
    refine zz_icmp_ge (tgt := 26) G dM_tamper_14 rfl (fun h14 => ?_) (fun h14 => ?_)
    · refine zz_iconst (v := 0) G dM_tamper_26 (by decide) ?_
      exact zz_zret G hret dM_tamper_27 rfl (by rw [qTamp, if_neg h6, if_pos h14] <;> rfl) (Nat.le_of_ble_eq_true rfl) (Nat.le_of_ble_eq_true rfl)
    · refine zz_iload_n G dM_tamper_17 rfl ?_
      refine zz_if_lt (tgt := 26) G dM_tamper_18 rfl (fun h18 => ?_) (fun h18 => ?_)
      · refine zz_iconst (v := 0) G dM_tamper_26 (by decide) ?_
        exact zz_zret G hret dM_tamper_27 rfl (by rw [qTamp, if_neg h6, if_neg h14, if_pos h18] <;> rfl) (Nat.le_of_ble_eq_true rfl) (Nat.le_of_ble_eq_true rfl)
      · refine zz_iload_n G dM_tamper_21 rfl ?_
        refine zz_iconst (v := 5) G dM_tamper_22 (by decide) ?_
        refine zz_icmp_le (tgt := 28) G dM_tamper_23 rfl (fun h23 => ?_) (fun h23 => ?_)
        · obtain ⟨v, hv, rfl⟩ := sVer_of hn (show ¬ sVer (nI n) v = 0 by rw [← hcl]; unfold sVer; rw [if_neg h6, if_neg h14]; decide)
          obtain ⟨k, hk, rfl⟩ := sWrd_of (show ¬ sWrd k = 0 by unfold sWrd; rw [if_neg h18, if_neg (six h23)]; decide)
          refine zz_aload_n G dM_tamper_28 rfl ?_
          refine zz_get (v := .ref 6) G dM_tamper_29 flM_7 rfl rfl ?_
          refine zz_bipush (v := 6) G dM_tamper_32 (by decide) ?_
          refine zz_iload_n G dM_tamper_34 rfl ?_
          refine zz_imul G dM_tamper_35 ?_
          refine zz_iload_n G dM_tamper_36 rfl ?_
          refine zz_iadd G dM_tamper_37 ?_
          refine zz_iload_n G dM_tamper_38 rfl ?_
          refine zz_iast (w' := (wx x (sm_words (sm_code m 0) (upd (fm_words m) (6 * v + k) b)) o)) rfl G dM_tamper_39 rfl (iy_in (by omega) hk) (by rw [iy_at (by omega) hk] <;> rfl) ?_
          refine zz_aload_n G dM_tamper_40 rfl ?_
          refine zz_iconst (v := 1) G dM_tamper_41 (by decide) ?_
          refine zz_put (w' := (wx x (sm_touched (sm_words (sm_code m 0) (upd (fm_words m) (6 * v + k) b)) 1) o)) rfl G dM_tamper_42 flM_65 rfl rfl rfl (Nat.le_of_ble_eq_true rfl) rfl ?_
          refine zz_iconst (v := 1) G dM_tamper_45 (by decide) ?_
          exact zz_zret G hret dM_tamper_46 rfl (by rw [qTamp, if_neg h6, if_neg h14, if_neg h18, if_pos h23, nI_clamp (show v < 2 ^ 31 by omega), nI_clamp (show k < 2 ^ 31 by omega)] <;> rfl) (Nat.le_of_ble_eq_true rfl) (Nat.le_of_ble_eq_true rfl)
        · refine zz_iconst (v := 0) G dM_tamper_26 (by decide) ?_
          exact zz_zret G hret dM_tamper_27 rfl (by rw [qTamp, if_neg h6, if_neg h14, if_neg h18, if_neg h23] <;> rfl) (Nat.le_of_ble_eq_true rfl) (Nat.le_of_ble_eq_true rfl)
end
section
set_option maxRecDepth 100000 in
set_option maxHeartbeats 4000000 in
theorem cm_open (l : Launch) (x : XS) (m : MS) (o : Nat → Int64) (a f g it : Int32) (n e1 : Nat) (hcl : fm_clock m = nI n) (hn : n ≤ 64) (hen : fm_entries m = nI e1) (he64 : e1 ≤ 64) : zC l yM_open (Jvm.Cond.code yM_open bM_open 8 (some .int) :: Tw) 3 false 0 0 [.ref 5, .int a, .int f, .int g, .int it] (wx x m o) (qOpen x m o e1 a f g it) := by
  refine zC_of [some (.ref 5), some (.int a), some (.int f), some (.int g), some (.int it), none, none, none] (by decide) rfl (Nat.le_of_ble_eq_true rfl) ?_
  intro p e s mm args below meth c D cI cJ as G hret hex hbd
  refine zz_aload_n G dM_open_0 rfl ?_
  refine zz_aload_n G dM_open_1 rfl ?_
  refine zz_get (v := .int (fm_touched m)) G dM_open_2 flM_65 rfl rfl ?_
  refine zz_if_eq (tgt := 12) G dM_open_5 rfl (fun h5 => ?_) (fun h5 => ?_)
  · refine zz_iload_n G dM_open_12 rfl ?_
    refine zz_callSi (v := sAcc a) (w' := (wx x m o)) (As := [.int a]) (rest := [.ref 5]) G (cm_isAccount l x m o a) kM_69 dM_open_13 rfl rfl (Nat.le_of_ble_eq_true rfl) (fun _ => rfl) ⟨Nat.le_of_ble_eq_true rfl, Nat.le_of_ble_eq_true rfl⟩ ⟨Nat.le_of_ble_eq_true rfl, Nat.le_of_ble_eq_true rfl⟩ ?_
    refine zz_if_eq (tgt := 46) G dM_open_16 rfl (fun h16 => ?_) (fun h16 => ?_)
    · refine zz_iconst (v := 2) G dM_open_46 (by decide) ?_
      refine zz_put (w' := (wx x (sm_code m 2) o)) rfl G dM_open_47 flM_23 rfl rfl rfl (Nat.le_of_ble_eq_true rfl) rfl ?_
      refine zz_aload_n G dM_open_50 rfl ?_
      refine zz_get (v := .int 2) G dM_open_51 flM_23 rfl rfl ?_
      refine zz_if_le (tgt := 59) G dM_open_54 rfl (fun h54 => ((absurd h54 (by decide) : False)).elim) (fun h54 => ?_)
      refine zz_iconst (v := 0) G dM_open_57 (by decide) ?_
      exact zz_iret G hret dM_open_58 (by rw [qOpen, if_pos h5, if_pos h16] <;> rfl) (Nat.le_of_ble_eq_true rfl) (Nat.le_of_ble_eq_true rfl)
    · refine zz_iload_n G dM_open_19 rfl ?_
      refine zz_callSi (v := sDay f) (w' := (wx x m o)) (As := [.int f]) (rest := [.ref 5]) G (cm_isDay l x m o f) kM_73 dM_open_20 rfl rfl (Nat.le_of_ble_eq_true rfl) (fun _ => rfl) ⟨Nat.le_of_ble_eq_true rfl, Nat.le_of_ble_eq_true rfl⟩ ⟨Nat.le_of_ble_eq_true rfl, Nat.le_of_ble_eq_true rfl⟩ ?_
      refine zz_if_eq (tgt := 46) G dM_open_23 rfl (fun h23 => ?_) (fun h23 => ?_)
      · refine zz_iconst (v := 2) G dM_open_46 (by decide) ?_
        refine zz_put (w' := (wx x (sm_code m 2) o)) rfl G dM_open_47 flM_23 rfl rfl rfl (Nat.le_of_ble_eq_true rfl) rfl ?_
        refine zz_aload_n G dM_open_50 rfl ?_
        refine zz_get (v := .int 2) G dM_open_51 flM_23 rfl rfl ?_
        refine zz_if_le (tgt := 59) G dM_open_54 rfl (fun h54 => ((absurd h54 (by decide) : False)).elim) (fun h54 => ?_)
        refine zz_iconst (v := 0) G dM_open_57 (by decide) ?_
        exact zz_iret G hret dM_open_58 (by rw [qOpen, if_pos h5, if_neg h16, if_pos h23] <;> rfl) (Nat.le_of_ble_eq_true rfl) (Nat.le_of_ble_eq_true rfl)
      · refine zz_iload_n G dM_open_26 rfl ?_
        refine zz_callSi (v := sDay g) (w' := (wx x m o)) (As := [.int g]) (rest := [.ref 5]) G (cm_isDay l x m o g) kM_73 dM_open_27 rfl rfl (Nat.le_of_ble_eq_true rfl) (fun _ => rfl) ⟨Nat.le_of_ble_eq_true rfl, Nat.le_of_ble_eq_true rfl⟩ ⟨Nat.le_of_ble_eq_true rfl, Nat.le_of_ble_eq_true rfl⟩ ?_
        refine zz_if_eq (tgt := 46) G dM_open_30 rfl (fun h30 => ?_) (fun h30 => ?_)
        · refine zz_iconst (v := 2) G dM_open_46 (by decide) ?_
          refine zz_put (w' := (wx x (sm_code m 2) o)) rfl G dM_open_47 flM_23 rfl rfl rfl (Nat.le_of_ble_eq_true rfl) rfl ?_
          refine zz_aload_n G dM_open_50 rfl ?_
          refine zz_get (v := .int 2) G dM_open_51 flM_23 rfl rfl ?_
          refine zz_if_le (tgt := 59) G dM_open_54 rfl (fun h54 => ((absurd h54 (by decide) : False)).elim) (fun h54 => ?_)
          refine zz_iconst (v := 0) G dM_open_57 (by decide) ?_
          exact zz_iret G hret dM_open_58 (by rw [qOpen, if_pos h5, if_neg h16, if_neg h23, if_pos h30] <;> rfl) (Nat.le_of_ble_eq_true rfl) (Nat.le_of_ble_eq_true rfl)
        · refine zz_aload_n G dM_open_33 rfl ?_
          refine zz_iload G dM_open_34 rfl ?_
          refine zz_callVi (v := sTime (fm_clock m) it) (w' := (wx x m o)) (As := [.int it]) (rest := [.ref 5]) G (cm_isTime l x m o it) kM_88 dM_open_36 rfl rfl rfl rfl (Nat.le_of_ble_eq_true rfl) (fun _ => rfl) ⟨Nat.le_of_ble_eq_true rfl, Nat.le_of_ble_eq_true rfl⟩ ⟨Nat.le_of_ble_eq_true rfl, Nat.le_of_ble_eq_true rfl⟩ ?_
          refine zz_if_eq (tgt := 46) G dM_open_39 rfl (fun h39 => ?_) (fun h39 => ?_)
          · refine zz_iconst (v := 2) G dM_open_46 (by decide) ?_
            refine zz_put (w' := (wx x (sm_code m 2) o)) rfl G dM_open_47 flM_23 rfl rfl rfl (Nat.le_of_ble_eq_true rfl) rfl ?_
            refine zz_aload_n G dM_open_50 rfl ?_
            refine zz_get (v := .int 2) G dM_open_51 flM_23 rfl rfl ?_
            refine zz_if_le (tgt := 59) G dM_open_54 rfl (fun h54 => ((absurd h54 (by decide) : False)).elim) (fun h54 => ?_)
            refine zz_iconst (v := 0) G dM_open_57 (by decide) ?_
            exact zz_iret G hret dM_open_58 (by rw [qOpen, if_pos h5, if_neg h16, if_neg h23, if_neg h30, if_pos h39] <;> rfl) (Nat.le_of_ble_eq_true rfl) (Nat.le_of_ble_eq_true rfl)
          · obtain ⟨t, ht, rfl⟩ := sTime_of hn (by rw [← hcl]; exact h39)
            obtain ⟨f, hf, rfl⟩ := sDay_of h23
            obtain ⟨g, hg, rfl⟩ := sDay_of h30
            have step : ∀ (ls : List Nat) (y : Int32) (j : Nat), j < e1 → (∀ v, sLast (fm_words m) (nI j) t = some v → ¬ sBel (fm_words m) v a = 0 → fm_words m (6 * v + 5) = y → ls.length < 64) → Z p l e (zrm 3) s mm args below meth c 8 D cI cJ as false 0 0 (zMQ below (qOpen x m o e1 a (nI f) (nI g) (nI t)) D cI cJ as false s 0 0) 86 [some (.ref 5), some (.int a), some (.int (nI f)), some (.int (nI g)), some (.int (nI t)), some (.int y), some (.int (nI (j + 1))), none] [] (wx x (mOpn m a (ls ++ mTake (fm_words m) a y t j)) o) → Z p l e (zrm 3) s mm args below meth c 8 D cI cJ as false 0 0 (zMQ below (qOpen x m o e1 a (nI f) (nI g) (nI t)) D cI cJ as false s 0 0) 86 [some (.ref 5), some (.int a), some (.int (nI f)), some (.int (nI g)), some (.int (nI t)), some (.int y), some (.int (nI j)), none] [] (wx x (mOpn m a (ls)) o) := by
              intro ls y j hj hlen kk
              rcases hv : sLast (fm_words m) (nI j) t with _ | v
              · refine zz_iload G dM_open_86 rfl ?_
                refine zz_aload_n G dM_open_88 rfl ?_
                refine zz_get (v := .int (nI e1)) G dM_open_89 flM_42 rfl (by rw [← hen]; rfl) ?_
                refine zz_icmp_ge (tgt := 192) G dM_open_92 rfl (fun h92 => (nI_ge (by omega) (by omega) h92).elim) (fun h92 => ?_)
                refine zz_aload_n G dM_open_95 rfl ?_
                refine zz_iload G dM_open_96 rfl ?_
                refine zz_iload G dM_open_98 rfl ?_
                refine zz_callVi (v := (-1)) (w' := (wx x (sm_puts (sm_list (sm_ans (sm_at (sm_count (sm_code m 0) (nI (ls).length)) 0) 0) (aPut (fm_list m) ((ls).map (fE (fm_words m))))) (aPut (fm_puts m) ((ls).map (sPut (fm_words m) a)))) o)) (As := [.int (nI j), .int (nI t)]) (rest := []) G (by have q := cm_currentAt l x (sm_puts (sm_list (sm_ans (sm_at (sm_count (sm_code m 0) (nI (ls).length)) 0) 0) (aPut (fm_list m) ((ls).map (fE (fm_words m))))) (aPut (fm_puts m) ((ls).map (sPut (fm_words m) a)))) o (nI j) _ t rfl (by omega); rw [show sLast (fm_words (sm_puts (sm_list (sm_ans (sm_at (sm_count (sm_code m 0) (nI (ls).length)) 0) 0) (aPut (fm_list m) ((ls).map (fE (fm_words m))))) (aPut (fm_puts m) ((ls).map (sPut (fm_words m) a))))) (nI j) t = _ from hv] at q; exact q) kM_45 dM_open_100 rfl rfl rfl rfl (Nat.le_of_ble_eq_true rfl) (fun _ => rfl) ⟨Nat.le_of_ble_eq_true rfl, Nat.le_of_ble_eq_true rfl⟩ ⟨Nat.le_of_ble_eq_true rfl, Nat.le_of_ble_eq_true rfl⟩ ?_
                refine zz_istore (lv' := [some (.ref 5), some (.int a), some (.int (nI f)), some (.int (nI g)), some (.int (nI t)), some (.int y), some (.int (nI j)), some (.int (-1))]) G dM_open_103 (Nat.le_of_ble_eq_true rfl) rfl ?_
                refine zz_aload_n G dM_open_105 rfl ?_
                refine zz_iload G dM_open_106 rfl ?_
                refine zz_iload_n G dM_open_108 rfl ?_
                refine zz_callVi (v := 0) (w' := (wx x (sm_puts (sm_list (sm_ans (sm_at (sm_count (sm_code m 0) (nI (ls).length)) 0) 0) (aPut (fm_list m) ((ls).map (fE (fm_words m))))) (aPut (fm_puts m) ((ls).map (sPut (fm_words m) a)))) o)) (As := [.int (-1), .int a]) (rest := []) G (cm_belongs0 l x (sm_puts (sm_list (sm_ans (sm_at (sm_count (sm_code m 0) (nI (ls).length)) 0) 0) (aPut (fm_list m) ((ls).map (fE (fm_words m))))) (aPut (fm_puts m) ((ls).map (sPut (fm_words m) a)))) o a) kM_104 dM_open_109 rfl rfl rfl rfl (Nat.le_of_ble_eq_true rfl) (fun _ => rfl) ⟨Nat.le_of_ble_eq_true rfl, Nat.le_of_ble_eq_true rfl⟩ ⟨Nat.le_of_ble_eq_true rfl, Nat.le_of_ble_eq_true rfl⟩ ?_
                refine zz_if_eq (tgt := 186) G dM_open_112 rfl (fun h112 => ?_) (fun h112 => ((absurd h112 (by decide) : False)).elim)
                refine zz_iinc (v := nI (j + 1)) (lv' := [some (.ref 5), some (.int a), some (.int (nI f)), some (.int (nI g)), some (.int (nI t)), some (.int y), some (.int (nI (j + 1))), some (.int (-1))]) G dM_open_186 rfl (by rw [nI_succ]; rfl) rfl ?_
                refine zz_goto (tgt := 86) G dM_open_189 rfl ?_
                refine zz_few (lv' := [some (.ref 5), some (.int a), some (.int (nI f)), some (.int (nI g)), some (.int (nI t)), some (.int y), some (.int (nI (j + 1))), none]) (by exact ⟨rfl, rfl, rfl, rfl, rfl, rfl, rfl, trivial⟩) ?_
                rw [mTake_none hv, List.append_nil] at kk
                exact kk
              · have hvt : v < t := (mL_lt t hv).1
                have hfv : fE (fm_words m) v = nI j := (mL_lt t hv).2
                refine zz_iload G dM_open_86 rfl ?_
                refine zz_aload_n G dM_open_88 rfl ?_
                refine zz_get (v := .int (nI e1)) G dM_open_89 flM_42 rfl (by rw [← hen]; rfl) ?_
                refine zz_icmp_ge (tgt := 192) G dM_open_92 rfl (fun h92 => (nI_ge (by omega) (by omega) h92).elim) (fun h92 => ?_)
                refine zz_aload_n G dM_open_95 rfl ?_
                refine zz_iload G dM_open_96 rfl ?_
                refine zz_iload G dM_open_98 rfl ?_
                refine zz_callVi (v := nI v) (w' := (wx x (sm_puts (sm_list (sm_ans (sm_at (sm_count (sm_code m 0) (nI (ls).length)) 0) 0) (aPut (fm_list m) ((ls).map (fE (fm_words m))))) (aPut (fm_puts m) ((ls).map (sPut (fm_words m) a)))) o)) (As := [.int (nI j), .int (nI t)]) (rest := []) G (by have q := cm_currentAt l x (sm_puts (sm_list (sm_ans (sm_at (sm_count (sm_code m 0) (nI (ls).length)) 0) 0) (aPut (fm_list m) ((ls).map (fE (fm_words m))))) (aPut (fm_puts m) ((ls).map (sPut (fm_words m) a)))) o (nI j) _ t rfl (by omega); rw [show sLast (fm_words (sm_puts (sm_list (sm_ans (sm_at (sm_count (sm_code m 0) (nI (ls).length)) 0) 0) (aPut (fm_list m) ((ls).map (fE (fm_words m))))) (aPut (fm_puts m) ((ls).map (sPut (fm_words m) a))))) (nI j) t = _ from hv] at q; exact q) kM_45 dM_open_100 rfl rfl rfl rfl (Nat.le_of_ble_eq_true rfl) (fun _ => rfl) ⟨Nat.le_of_ble_eq_true rfl, Nat.le_of_ble_eq_true rfl⟩ ⟨Nat.le_of_ble_eq_true rfl, Nat.le_of_ble_eq_true rfl⟩ ?_
                refine zz_istore (lv' := [some (.ref 5), some (.int a), some (.int (nI f)), some (.int (nI g)), some (.int (nI t)), some (.int y), some (.int (nI j)), some (.int (nI v))]) G dM_open_103 (Nat.le_of_ble_eq_true rfl) rfl ?_
                refine zz_aload_n G dM_open_105 rfl ?_
                refine zz_iload G dM_open_106 rfl ?_
                refine zz_iload_n G dM_open_108 rfl ?_
                refine zz_callVi (v := sBel (fm_words m) v a) (w' := (wx x (sm_puts (sm_list (sm_ans (sm_at (sm_count (sm_code m 0) (nI (ls).length)) 0) 0) (aPut (fm_list m) ((ls).map (fE (fm_words m))))) (aPut (fm_puts m) ((ls).map (sPut (fm_words m) a)))) o)) (As := [.int (nI v), .int a]) (rest := []) G (cm_belongs l x (sm_puts (sm_list (sm_ans (sm_at (sm_count (sm_code m 0) (nI (ls).length)) 0) 0) (aPut (fm_list m) ((ls).map (fE (fm_words m))))) (aPut (fm_puts m) ((ls).map (sPut (fm_words m) a)))) o v _ a rfl (by omega)) kM_104 dM_open_109 rfl rfl rfl rfl (Nat.le_of_ble_eq_true rfl) (fun _ => rfl) ⟨Nat.le_of_ble_eq_true rfl, Nat.le_of_ble_eq_true rfl⟩ ⟨Nat.le_of_ble_eq_true rfl, Nat.le_of_ble_eq_true rfl⟩ ?_
                refine zz_if_eq (tgt := 186) G dM_open_112 rfl (fun h112 => ?_) (fun h112 => ?_)
                · refine zz_iinc (v := nI (j + 1)) (lv' := [some (.ref 5), some (.int a), some (.int (nI f)), some (.int (nI g)), some (.int (nI t)), some (.int y), some (.int (nI (j + 1))), some (.int (nI v))]) G dM_open_186 rfl (by rw [nI_succ]; rfl) rfl ?_
                  refine zz_goto (tgt := 86) G dM_open_189 rfl ?_
                  refine zz_few (lv' := [some (.ref 5), some (.int a), some (.int (nI f)), some (.int (nI g)), some (.int (nI t)), some (.int y), some (.int (nI (j + 1))), none]) (by exact ⟨rfl, rfl, rfl, rfl, rfl, rfl, rfl, trivial⟩) ?_
                  rw [mTake_bel hv h112, List.append_nil] at kk
                  exact kk
                · refine zz_aload_n G dM_open_115 rfl ?_
                  refine zz_iload G dM_open_116 rfl ?_
                  refine zz_iconst (v := 5) G dM_open_118 (by decide) ?_
                  refine zz_callVi (v := fm_words m (6 * v + 5)) (w' := (wx x (sm_puts (sm_list (sm_ans (sm_at (sm_count (sm_code m 0) (nI (ls).length)) 0) 0) (aPut (fm_list m) ((ls).map (fE (fm_words m))))) (aPut (fm_puts m) ((ls).map (sPut (fm_words m) a)))) o)) (As := [.int (nI v), .int 5]) (rest := []) G (cm_word l x (sm_puts (sm_list (sm_ans (sm_at (sm_count (sm_code m 0) (nI (ls).length)) 0) 0) (aPut (fm_list m) ((ls).map (fE (fm_words m))))) (aPut (fm_puts m) ((ls).map (sPut (fm_words m) a)))) o v 5 _ _ rfl rfl (by omega) (by decide)) kM_30 dM_open_119 rfl rfl rfl rfl (Nat.le_of_ble_eq_true rfl) (fun _ => rfl) ⟨Nat.le_of_ble_eq_true rfl, Nat.le_of_ble_eq_true rfl⟩ ⟨Nat.le_of_ble_eq_true rfl, Nat.le_of_ble_eq_true rfl⟩ ?_
                  refine zz_iload G dM_open_122 rfl ?_
                  refine zz_icmp_ne (tgt := 186) G dM_open_124 rfl (fun h124 => ?_) (fun h124 => ?_)
                  · refine zz_iinc (v := nI (j + 1)) (lv' := [some (.ref 5), some (.int a), some (.int (nI f)), some (.int (nI g)), some (.int (nI t)), some (.int y), some (.int (nI (j + 1))), some (.int (nI v))]) G dM_open_186 rfl (by rw [nI_succ]; rfl) rfl ?_
                    refine zz_goto (tgt := 86) G dM_open_189 rfl ?_
                    refine zz_few (lv' := [some (.ref 5), some (.int a), some (.int (nI f)), some (.int (nI g)), some (.int (nI t)), some (.int y), some (.int (nI (j + 1))), none]) (by exact ⟨rfl, rfl, rfl, rfl, rfl, rfl, rfl, trivial⟩) ?_
                    rw [mTake_day hv h124, List.append_nil] at kk
                    exact kk
                  · refine zz_aload_n G dM_open_127 rfl ?_
                    refine zz_get (v := .ref 8) G dM_open_128 flM_17 rfl rfl ?_
                    refine zz_aload_n G dM_open_131 rfl ?_
                    refine zz_get (v := .int (nI (ls).length)) G dM_open_132 flM_95 rfl rfl ?_
                    refine zz_iload G dM_open_135 rfl ?_
                    refine zz_iast (w' := (wx x (sm_puts (sm_list (sm_ans (sm_at (sm_count (sm_code m 0) (nI (ls).length)) 0) 0) (upd (aPut (fm_list m) ((ls).map (fE (fm_words m)))) ls.length (nI j))) (aPut (fm_puts m) ((ls).map (sPut (fm_words m) a)))) o)) rfl G dM_open_137 rfl (i1_in (hlen v hv h112 h124)) (by rw [i1_at (hlen v hv h112 h124)]; rfl) ?_
                    refine zz_aload_n G dM_open_138 rfl ?_
                    refine zz_get (v := .ref 9) G dM_open_139 flM_20 rfl rfl ?_
                    refine zz_aload_n G dM_open_142 rfl ?_
                    refine zz_get (v := .int (nI (ls).length)) G dM_open_143 flM_95 rfl rfl ?_
                    refine zz_aload_n G dM_open_146 rfl ?_
                    refine zz_iload G dM_open_147 rfl ?_
                    refine zz_iconst (v := 2) G dM_open_149 (by decide) ?_
                    refine zz_callVi (v := fm_words m (6 * v + 2)) (w' := (wx x (sm_puts (sm_list (sm_ans (sm_at (sm_count (sm_code m 0) (nI (ls).length)) 0) 0) (upd (aPut (fm_list m) ((ls).map (fE (fm_words m)))) ls.length (nI j))) (aPut (fm_puts m) ((ls).map (sPut (fm_words m) a)))) o)) (As := [.int (nI v), .int 2]) (rest := [.int (nI (ls).length), .ref 9]) G (cm_word l x (sm_puts (sm_list (sm_ans (sm_at (sm_count (sm_code m 0) (nI (ls).length)) 0) 0) (upd (aPut (fm_list m) ((ls).map (fE (fm_words m)))) ls.length (nI j))) (aPut (fm_puts m) ((ls).map (sPut (fm_words m) a)))) o v 2 _ _ rfl rfl (by omega) (by decide)) kM_30 dM_open_150 rfl rfl rfl rfl (Nat.le_of_ble_eq_true rfl) (fun _ => rfl) ⟨Nat.le_of_ble_eq_true rfl, Nat.le_of_ble_eq_true rfl⟩ ⟨Nat.le_of_ble_eq_true rfl, Nat.le_of_ble_eq_true rfl⟩ ?_
                    refine zz_iload_n G dM_open_153 rfl ?_
                    refine zz_icmp_ne (tgt := 167) G dM_open_154 rfl (fun h154 => ?_) (fun h154 => ?_)
                    · refine zz_aload_n G dM_open_167 rfl ?_
                      refine zz_iload G dM_open_168 rfl ?_
                      refine zz_iconst (v := 4) G dM_open_170 (by decide) ?_
                      refine zz_callVi (v := fm_words m (6 * v + 4)) (w' := (wx x (sm_puts (sm_list (sm_ans (sm_at (sm_count (sm_code m 0) (nI (ls).length)) 0) 0) (upd (aPut (fm_list m) ((ls).map (fE (fm_words m)))) ls.length (nI j))) (aPut (fm_puts m) ((ls).map (sPut (fm_words m) a)))) o)) (As := [.int (nI v), .int 4]) (rest := [.int (nI (ls).length), .ref 9]) G (cm_word l x (sm_puts (sm_list (sm_ans (sm_at (sm_count (sm_code m 0) (nI (ls).length)) 0) 0) (upd (aPut (fm_list m) ((ls).map (fE (fm_words m)))) ls.length (nI j))) (aPut (fm_puts m) ((ls).map (sPut (fm_words m) a)))) o v 4 _ _ rfl rfl (by omega) (by decide)) kM_30 dM_open_171 rfl rfl rfl rfl (Nat.le_of_ble_eq_true rfl) (fun _ => rfl) ⟨Nat.le_of_ble_eq_true rfl, Nat.le_of_ble_eq_true rfl⟩ ⟨Nat.le_of_ble_eq_true rfl, Nat.le_of_ble_eq_true rfl⟩ ?_
                      refine zz_ineg G dM_open_174 ?_
                      refine zz_iast (w' := (wx x (sm_puts (sm_list (sm_ans (sm_at (sm_count (sm_code m 0) (nI (ls).length)) 0) 0) (upd (aPut (fm_list m) ((ls).map (fE (fm_words m)))) ls.length (nI j))) (upd (aPut (fm_puts m) ((ls).map (sPut (fm_words m) a))) ls.length (-(fm_words m (6 * v + 4))))) o)) rfl G dM_open_175 rfl (i1_in (hlen v hv h112 h124)) (by rw [i1_at (hlen v hv h112 h124)]; rfl) ?_
                      refine zz_aload_n G dM_open_176 rfl ?_
                      refine zz_aload_n G dM_open_177 rfl ?_
                      refine zz_get (v := .int (nI (ls).length)) G dM_open_178 flM_95 rfl rfl ?_
                      refine zz_iconst (v := 1) G dM_open_181 (by decide) ?_
                      refine zz_iadd G dM_open_182 ?_
                      obtain ⟨cN, cN_e⟩ : ∃ cz, cz = (nI (ls).length) + 1 := ⟨_, rfl⟩
                      refine zz_eq (st' := [.int cN, .ref 5]) rfl rfl (by rw [cN_e]) rfl ?_
                      refine zz_put (w' := (wx x (sm_puts (sm_list (sm_ans (sm_at (sm_count (sm_code m 0) cN) 0) 0) (upd (aPut (fm_list m) ((ls).map (fE (fm_words m)))) ls.length (nI j))) (upd (aPut (fm_puts m) ((ls).map (sPut (fm_words m) a))) ls.length (-(fm_words m (6 * v + 4))))) o)) rfl G dM_open_183 flM_95 rfl rfl rfl (Nat.le_of_ble_eq_true rfl) rfl ?_
                      refine zz_iinc (v := nI (j + 1)) (lv' := [some (.ref 5), some (.int a), some (.int (nI f)), some (.int (nI g)), some (.int (nI t)), some (.int y), some (.int (nI (j + 1))), some (.int (nI v))]) G dM_open_186 rfl (by rw [nI_succ]; rfl) rfl ?_
                      refine zz_goto (tgt := 86) G dM_open_189 rfl ?_
                      refine zz_few (lv' := [some (.ref 5), some (.int a), some (.int (nI f)), some (.int (nI g)), some (.int (nI t)), some (.int y), some (.int (nI (j + 1))), none]) (by exact ⟨rfl, rfl, rfl, rfl, rfl, rfl, rfl, trivial⟩) ?_
                      subst cN_e
                      rw [mTake_one hv h112 h124, ← mO_step (m := m) (a := a) (l := ls) (V := -(fm_words m (6 * v + 4))) hfv (by unfold sPut; rw [if_neg h154])] at kk
                      exact kk
                    · refine zz_aload_n G dM_open_157 rfl ?_
                      refine zz_iload G dM_open_158 rfl ?_
                      refine zz_iconst (v := 4) G dM_open_160 (by decide) ?_
                      refine zz_callVi (v := fm_words m (6 * v + 4)) (w' := (wx x (sm_puts (sm_list (sm_ans (sm_at (sm_count (sm_code m 0) (nI (ls).length)) 0) 0) (upd (aPut (fm_list m) ((ls).map (fE (fm_words m)))) ls.length (nI j))) (aPut (fm_puts m) ((ls).map (sPut (fm_words m) a)))) o)) (As := [.int (nI v), .int 4]) (rest := [.int (nI (ls).length), .ref 9]) G (cm_word l x (sm_puts (sm_list (sm_ans (sm_at (sm_count (sm_code m 0) (nI (ls).length)) 0) 0) (upd (aPut (fm_list m) ((ls).map (fE (fm_words m)))) ls.length (nI j))) (aPut (fm_puts m) ((ls).map (sPut (fm_words m) a)))) o v 4 _ _ rfl rfl (by omega) (by decide)) kM_30 dM_open_161 rfl rfl rfl rfl (Nat.le_of_ble_eq_true rfl) (fun _ => rfl) ⟨Nat.le_of_ble_eq_true rfl, Nat.le_of_ble_eq_true rfl⟩ ⟨Nat.le_of_ble_eq_true rfl, Nat.le_of_ble_eq_true rfl⟩ ?_
                      refine zz_goto (tgt := 175) G dM_open_164 rfl ?_
                      refine zz_iast (w' := (wx x (sm_puts (sm_list (sm_ans (sm_at (sm_count (sm_code m 0) (nI (ls).length)) 0) 0) (upd (aPut (fm_list m) ((ls).map (fE (fm_words m)))) ls.length (nI j))) (upd (aPut (fm_puts m) ((ls).map (sPut (fm_words m) a))) ls.length (fm_words m (6 * v + 4)))) o)) rfl G dM_open_175 rfl (i1_in (hlen v hv h112 h124)) (by rw [i1_at (hlen v hv h112 h124)]; rfl) ?_
                      refine zz_aload_n G dM_open_176 rfl ?_
                      refine zz_aload_n G dM_open_177 rfl ?_
                      refine zz_get (v := .int (nI (ls).length)) G dM_open_178 flM_95 rfl rfl ?_
                      refine zz_iconst (v := 1) G dM_open_181 (by decide) ?_
                      refine zz_iadd G dM_open_182 ?_
                      obtain ⟨cN, cN_e⟩ : ∃ cz, cz = (nI (ls).length) + 1 := ⟨_, rfl⟩
                      refine zz_eq (st' := [.int cN, .ref 5]) rfl rfl (by rw [cN_e]) rfl ?_
                      refine zz_put (w' := (wx x (sm_puts (sm_list (sm_ans (sm_at (sm_count (sm_code m 0) cN) 0) 0) (upd (aPut (fm_list m) ((ls).map (fE (fm_words m)))) ls.length (nI j))) (upd (aPut (fm_puts m) ((ls).map (sPut (fm_words m) a))) ls.length (fm_words m (6 * v + 4)))) o)) rfl G dM_open_183 flM_95 rfl rfl rfl (Nat.le_of_ble_eq_true rfl) rfl ?_
                      refine zz_iinc (v := nI (j + 1)) (lv' := [some (.ref 5), some (.int a), some (.int (nI f)), some (.int (nI g)), some (.int (nI t)), some (.int y), some (.int (nI (j + 1))), some (.int (nI v))]) G dM_open_186 rfl (by rw [nI_succ]; rfl) rfl ?_
                      refine zz_goto (tgt := 86) G dM_open_189 rfl ?_
                      refine zz_few (lv' := [some (.ref 5), some (.int a), some (.int (nI f)), some (.int (nI g)), some (.int (nI t)), some (.int y), some (.int (nI (j + 1))), none]) (by exact ⟨rfl, rfl, rfl, rfl, rfl, rfl, rfl, trivial⟩) ?_
                      subst cN_e
                      rw [mTake_one hv h112 h124, ← mO_step (m := m) (a := a) (l := ls) (V := fm_words m (6 * v + 4)) hfv (by unfold sPut; rw [if_pos h154])] at kk
                      exact kk
            have loop : ∀ (d k : Nat), k + d = g + 1 - f → Z p l e (zrm 3) s mm args below meth c 8 D cI cJ as false 0 0 (zMQ below (qOpen x m o e1 a (nI f) (nI g) (nI t)) D cI cJ as false s 0 0) 77 [some (.ref 5), some (.int a), some (.int (nI f)), some (.int (nI g)), some (.int (nI t)), some (.int (nI (f + k))), none, none] [] (wx x (mOpn m a (mOut (fm_words m) a t e1 f k)) o) := by
              intro d
              induction d with
              | zero =>
                intro k hk
                have hk : k = g + 1 - f := by omega
                subst hk
                refine zz_iload G dM_open_77 rfl ?_
                refine zz_iload_n G dM_open_79 rfl ?_
                refine zz_icmp_gt (tgt := 198) G dM_open_80 rfl (fun h80 => ?_) (fun h80 => (h80 (nI_lt (show g < f + (g + 1 - f) by omega) (by omega))).elim)
                refine zz_aload_n G dM_open_198 rfl ?_
                refine zz_get (v := .int (nI (mOut (fm_words m) a t e1 f (g + 1 - f)).length)) G dM_open_199 flM_95 rfl rfl ?_
                exact zz_iret G hret dM_open_202 (by rw [qOpen, if_pos h5, if_neg h16, if_neg h23, if_neg h30, if_neg h39, nI_clamp (show t < 2 ^ 31 by omega), nI_clamp (show f < 2 ^ 31 by omega), nI_clamp (show g < 2 ^ 31 by omega)] <;> rfl) (Nat.le_of_ble_eq_true rfl) (Nat.le_of_ble_eq_true rfl)
              | succ d ih =>
                intro k hk
                have inner : ∀ (q j : Nat), j + q = e1 → Z p l e (zrm 3) s mm args below meth c 8 D cI cJ as false 0 0 (zMQ below (qOpen x m o e1 a (nI f) (nI g) (nI t)) D cI cJ as false s 0 0) 86 [some (.ref 5), some (.int a), some (.int (nI f)), some (.int (nI g)), some (.int (nI t)), some (.int (nI (f + k))), some (.int (nI j)), none] [] (wx x (mOpn m a (mOut (fm_words m) a t e1 f k ++ mIn (fm_words m) a (nI (f + k)) t j)) o) := by
                  intro q
                  induction q with
                  | zero =>
                    intro j hj
                    have hj : e1 = j := by omega
                    subst hj
                    refine zz_iload G dM_open_86 rfl ?_
                    refine zz_aload_n G dM_open_88 rfl ?_
                    refine zz_get (v := .int (nI e1)) G dM_open_89 flM_42 rfl (by rw [← hen]; rfl) ?_
                    refine zz_icmp_ge (tgt := 192) G dM_open_92 rfl (fun h92 => ?_) (fun h92 => (h92 (nI_le (Nat.le_refl _) (by omega))).elim)
                    refine zz_iinc (v := nI (f + (k + 1))) (lv' := [some (.ref 5), some (.int a), some (.int (nI f)), some (.int (nI g)), some (.int (nI t)), some (.int (nI (f + (k + 1)))), some (.int (nI e1)), none]) G dM_open_192 rfl (by rw [show f + (k + 1) = f + k + 1 by omega, nI_succ]; rfl) rfl ?_
                    refine zz_goto (tgt := 77) G dM_open_195 rfl ?_
                    refine zz_few (lv' := [some (.ref 5), some (.int a), some (.int (nI f)), some (.int (nI g)), some (.int (nI t)), some (.int (nI (f + (k + 1)))), none, none]) (by exact ⟨rfl, rfl, rfl, rfl, rfl, rfl, trivial⟩) ?_
                    exact ih (k + 1) (by omega)
                  | succ q ihq =>
                    intro j hj
                    refine step (mOut (fm_words m) a t e1 f k ++ mIn (fm_words m) a (nI (f + k)) t j) (nI (f + k)) j (by omega) (fun v hv z1 z2 => ?_) ?_
                    · have q1 := mOut_len (wd := fm_words m) (a := a) (t := t) (e := e1) (f := f) (j := j + 1) (k := k) (by omega) (by omega) (by omega) (by omega)
                      rw [show mIn (fm_words m) a (nI (f + k)) t (j + 1) = mIn (fm_words m) a (nI (f + k)) t j ++ [v] from by show _ ++ mTake (fm_words m) a (nI (f + k)) t j = _; rw [mTake_one hv z1 z2], ← List.append_assoc, List.length_append] at q1
                      exact q1
                    · rw [List.append_assoc]
                      exact ihq (j + 1) (by omega)
                refine zz_iload G dM_open_77 rfl ?_
                refine zz_iload_n G dM_open_79 rfl ?_
                refine zz_icmp_gt (tgt := 198) G dM_open_80 rfl (fun h80 => (nI_nlt (show f + k ≤ g by omega) (by omega) h80).elim) (fun h80 => ?_)
                refine zz_iconst (v := 0) G dM_open_83 (by decide) ?_
                refine zz_istore (lv' := [some (.ref 5), some (.int a), some (.int (nI f)), some (.int (nI g)), some (.int (nI t)), some (.int (nI (f + k))), some (.int 0), none]) G dM_open_84 (Nat.le_of_ble_eq_true rfl) rfl ?_
                refine zz_eq (w' := (wx x (mOpn m a (mOut (fm_words m) a t e1 f k ++ mIn (fm_words m) a (nI (f + k)) t 0)) o)) rfl rfl rfl (by rw [show mIn (fm_words m) a (nI (f + k)) t 0 = [] from rfl, List.append_nil]) ?_
                exact inner e1 0 (by omega)
            refine zz_iconst (v := 0) G dM_open_42 (by decide) ?_
            refine zz_goto (tgt := 47) G dM_open_43 rfl ?_
            refine zz_put (w' := (wx x (sm_code m 0) o)) rfl G dM_open_47 flM_23 rfl rfl rfl (Nat.le_of_ble_eq_true rfl) rfl ?_
            refine zz_aload_n G dM_open_50 rfl ?_
            refine zz_get (v := .int 0) G dM_open_51 flM_23 rfl rfl ?_
            refine zz_if_le (tgt := 59) G dM_open_54 rfl (fun h54 => ?_) (fun h54 => ((absurd h54 (by decide) : False)).elim)
            refine zz_aload_n G dM_open_59 rfl ?_
            refine zz_iconst (v := 0) G dM_open_60 (by decide) ?_
            refine zz_put (w' := (wx x (sm_count (sm_code m 0) 0) o)) rfl G dM_open_61 flM_95 rfl rfl rfl (Nat.le_of_ble_eq_true rfl) rfl ?_
            refine zz_aload_n G dM_open_64 rfl ?_
            refine zz_iconst (v := 0) G dM_open_65 (by decide) ?_
            refine zz_put (w' := (wx x (sm_at (sm_count (sm_code m 0) 0) 0) o)) rfl G dM_open_66 flM_98 rfl rfl rfl (Nat.le_of_ble_eq_true rfl) rfl ?_
            refine zz_aload_n G dM_open_69 rfl ?_
            refine zz_iconst (v := 0) G dM_open_70 (by decide) ?_
            refine zz_put (w' := (wx x (sm_ans (sm_at (sm_count (sm_code m 0) 0) 0) 0) o)) rfl G dM_open_71 flM_101 rfl rfl rfl (Nat.le_of_ble_eq_true rfl) rfl ?_
            refine zz_iload_n G dM_open_74 rfl ?_
            refine zz_istore (lv' := [some (.ref 5), some (.int a), some (.int (nI f)), some (.int (nI g)), some (.int (nI t)), some (.int (nI f)), none, none]) G dM_open_75 (Nat.le_of_ble_eq_true rfl) rfl ?_
            refine zz_eq (lv' := [some (.ref 5), some (.int a), some (.int (nI f)), some (.int (nI g)), some (.int (nI t)), some (.int (nI (f + 0))), none, none]) (w' := (wx x (mOpn m a (mOut (fm_words m) a t e1 f 0)) o)) rfl rfl rfl (by show wx x _ o = wx x (mOpn m a []) o; unfold mOpn; rw [List.map_nil, List.map_nil, aPut_nil, aPut_nil]; rfl) ?_
            exact loop (g + 1 - f) 0 (by omega)
  · refine zz_iconst (v := 1) G dM_open_8 (by decide) ?_
    refine zz_goto (tgt := 47) G dM_open_9 rfl ?_
    refine zz_put (w' := (wx x (sm_code m 1) o)) rfl G dM_open_47 flM_23 rfl rfl rfl (Nat.le_of_ble_eq_true rfl) rfl ?_
    refine zz_aload_n G dM_open_50 rfl ?_
    refine zz_get (v := .int 1) G dM_open_51 flM_23 rfl rfl ?_
    refine zz_if_le (tgt := 59) G dM_open_54 rfl (fun h54 => ((absurd h54 (by decide) : False)).elim) (fun h54 => ?_)
    refine zz_iconst (v := 0) G dM_open_57 (by decide) ?_
    exact zz_iret G hret dM_open_58 (by rw [qOpen, if_neg h5] <;> rfl) (Nat.le_of_ble_eq_true rfl) (Nat.le_of_ble_eq_true rfl)
end
section
/-! An exception that comes out of a call, caught by this method's table; the catch types need not have been resolved. -/
def zhPass (pl : Platform) (s0 : State) (d : ClassId) (pc : Nat) (th : ClassId) (y : ExceptionTableEntry) : Prop :=
  covers y pc = true → y.catchType ≠ 0 ∧ ∃ k, s0.vm.ClassLinks pl d y.catchType k ∧ s0.vm.assignable th k = false
theorem zh_row {Q : Handler → Pre} {E : CtlPost} {e : Env} {d : Bool} {acts : List Action} {s : State} {f : JFrame} {a : Addr} {x : ExceptionTableEntry} {t : List ExceptionTableEntry} {k : ClassId} {cell : Cell} (hx : covers x f.pc = true) (h0 : x.catchType ≠ 0)
    (hl : s.vm.ClassLinks e.platform f.method.cls x.catchType k) (hcell : s.heap[a]? = some cell) (hobj : ∀ z, cell.vm ≠ .statics z) (hk : ∃ z, s.vm.classes[cell.cls]? = some z) (hc : ∃ z, s.vm.classes[k]? = some z) :
    wp (findHandler.go f a (x :: t)) Q E e d acts s ↔ if s.vm.assignable cell.cls k = true then Q (.found x.handlerPc) d acts (s.setVm (s.vm.noted f.method.cls x.catchType (.cls k))) else wp (findHandler.go f a t) Q E e d acts (s.setVm (s.vm.noted f.method.cls x.catchType (.cls k))) := by
  simp only [covers] at hx
  obtain ⟨ha, ht⟩ := (resolveClass_links e.toSetting hl).op (op := VmOp.resolveClass f.method.cls x.catchType) rfl
  have hal : s.vm.Alike (s.vm.noted f.method.cls x.catchType (.cls k)) := (Vm.Alike.refl s.vm).noted _ _ _
  obtain ⟨k1, hk1⟩ := hk
  obtain ⟨k2, hk2⟩ := hc
  obtain ⟨k1', hk1', -⟩ := hal.2.2 _ _ hk1
  obtain ⟨k2', hk2', -⟩ := hal.2.2 _ _ hk2
  cases hfit : s.vm.assignable cell.cls k with
  | true =>
    have hfit' : (s.vm.noted f.method.cls x.catchType (.cls k)).assignable cell.cls k = true := by rw [hal.assignable]; exact hfit
    simp [findHandler.go, hx, h0, ha, ht, hcell, hobj, hk1', hk2', hfit', VmOp.dirties, VmOp.acts]
  | false =>
    have hfit' : (s.vm.noted f.method.cls x.catchType (.cls k)).assignable cell.cls k = false := by rw [hal.assignable]; exact hfit
    simp [findHandler.go, hx, h0, ha, ht, hcell, hobj, hk1', hk2', hfit', VmOp.dirties, VmOp.acts]
theorem zh_go {e : Env} {s0 : State} {f : JFrame} {a : Addr} {cell : Cell} (hobj : ∀ z, cell.vm ≠ .statics z) (hk0 : ∃ z, s0.vm.classes[cell.cls]? = some z) (x : ExceptionTableEntry) (rest : List ExceptionTableEntry) (hx : covers x f.pc = true) (h0 : x.catchType ≠ 0)
    {k : ClassId} (hlk : s0.vm.ClassLinks e.platform f.method.cls x.catchType k) (hfit : s0.vm.assignable cell.cls k = true) :
    ∀ (pre : List ExceptionTableEntry) (S : State), s0.WarmedH S.vm → S.heap[a]? = some cell → (∀ y ∈ pre, zhPass e.platform s0 f.method.cls f.pc cell.cls y) →
      ∃ vm', s0.WarmedH vm' ∧ ∀ (Q : Handler → Pre) (E : CtlPost) (d : Bool) (acts : List Action), wp (findHandler.go f a (pre ++ x :: rest)) Q E e d acts S ↔ Q (.found x.handlerPc) d acts (S.setVm vm')
  | [], S, hW, hcell, _ => by
    obtain ⟨k0, hk0⟩ := hk0
    obtain ⟨k0', hk0', -⟩ := hW.alike.2.2 _ _ hk0
    obtain ⟨dk, _, _, kt, hd, _, _, _, _, hkt, _, hopen⟩ := hlk.here
    obtain ⟨kt', hkt', -⟩ := hW.alike.2.2 _ _ hkt
    refine ⟨_, hW.noted hd hopen (State.rightAt_cls hlk), fun Q E d acts => ?_⟩
    rw [List.nil_append, zh_row hx h0 (hW.classLinks hlk) hcell hobj ⟨k0', hk0'⟩ ⟨kt', hkt'⟩, if_pos (by rw [hW.alike.assignable]; exact hfit)]
  | y :: ys, S, hW, hcell, hp => by
    have hps : ∀ z ∈ ys, zhPass e.platform s0 f.method.cls f.pc cell.cls z := fun z hz => hp z (List.mem_cons_of_mem _ hz)
    by_cases hcov : covers y f.pc = true
    · obtain ⟨g0, j, hl, hno⟩ := hp y List.mem_cons_self hcov
      have hk9 := hk0
      obtain ⟨k0, hk8⟩ := hk9
      obtain ⟨k0', hk0', -⟩ := hW.alike.2.2 _ _ hk8
      obtain ⟨dk, _, _, kt, hd, _, _, _, _, hkt, _, hopen⟩ := hl.here
      obtain ⟨kt', hkt', -⟩ := hW.alike.2.2 _ _ hkt
      obtain ⟨vm', hW', hq⟩ := zh_go hobj hk0 x rest hx h0 hlk hfit ys (S.setVm (S.vm.noted f.method.cls y.catchType (.cls j))) (hW.noted hd hopen (State.rightAt_cls hl)) hcell hps
      refine ⟨vm', hW', fun Q E d acts => ?_⟩
      rw [List.cons_append, zh_row hcov g0 (hW.classLinks hl) hcell hobj ⟨k0', hk0'⟩ ⟨kt', hkt'⟩, if_neg (by rw [hW.alike.assignable, hno]; decide)]
      exact hq Q E d acts
    · obtain ⟨vm', hW', hq⟩ := zh_go hobj hk0 x rest hx h0 hlk hfit ys S hW hcell hps
      refine ⟨vm', hW', fun Q E d acts => ?_⟩
      rw [List.cons_append, Jvm.W.findHandler_go_skip (by simpa using hcov)]
      exact hq Q E d acts
theorem zh_caught {p : Program} {l : Launch} {e : Env} {R : Room} {s : State} {m : MethodId} {args : Array Value} {below : List Frame} {meth : Method} {c : Code} {T : State} {locs : List Loc} {cells slots : Nat} (X : Stand p l e R s m args below meth c T locs cells slots) (a : Addr) {g : JFrame} (hg : g.method = m)
    {cell : Cell} (hcell : T.heap[a]? = some cell) (hobj : cell.vm.isStatics = false) (hk0 : ∃ z, s.vm.classes[cell.cls]? = some z) (pre : List ExceptionTableEntry) (x : ExceptionTableEntry) (rest : List ExceptionTableEntry) (hsplit : c.exceptionTable.toList = pre ++ x :: rest)
    (hpass : ∀ y ∈ pre, zhPass e.platform s m.cls g.pc cell.cls y) (hx : covers x g.pc = true) (h0 : x.catchType ≠ 0) {k : ClassId} (hlk : s.vm.ClassLinks e.platform m.cls x.catchType k) (hfit : s.vm.assignable cell.cls k = true) :
    ∃ vm', Stand p l e R s m args below meth c (T.setVm vm') locs cells slots ∧ Steps p.tables e below ((T.setTop g).pushFrame (.throwing a)) ((T.setVm vm').setTop { g with pc := x.handlerPc, stack := [.ref a] }) := by
  subst hg
  obtain ⟨vm', hW', hq⟩ := zh_go (e := e) (s0 := s) (f := g) (a := a) (VmData.ne_statics_of hobj) hk0 x rest hx h0 hlk hfit pre ((T.setTop g).pushFrame (.throwing a)) X.warmed hcell hpass
  refine ⟨vm', X.noted hW', ?_⟩
  have hfind : ∀ (Q : Handler → Pre) (E : CtlPost) (d : Bool) (acts : List Action), wp (findHandler g a) Q E e d acts ((T.setTop g).pushFrame (.throwing a)) ↔ Q (.found x.handlerPc) d acts (((T.setTop g).pushFrame (.throwing a)).setVm vm') := fun Q E d acts => by
    refine (Jvm.W.findHandler_eq (s := (T.setTop g).pushFrame (.throwing a)) (meth := meth) (code := c) X.method' X.code).trans ?_
    rw [hsplit]
    exact hq Q E d acts
  obtain ⟨hgo, hw⟩ := X.here.throwing a
  refine Steps.head hgo hw ?_
  obtain ⟨g₀, hg0⟩ := Option.isSome_iff_exists.mp X.here.top
  obtain ⟨r, hr⟩ := State.topJava?_eq_some.mp hg0
  have hr' : (T.setVm vm').frames = .java g₀ :: r := hr
  have hst : (stepThrowing e ((T.setTop g).pushFrame (.throwing a)) a (.java g :: T.frames.tail)).Is ((((T.setTop g).pushFrame (.throwing a)).setVm vm').setFrames (.java { g with pc := x.handlerPc, stack := [.ref a] } :: T.frames.tail)) [] := by
    simp only [stepThrowing, searchFrame, vmDo]
    generalize hres : Sem.go _ e false [] _ = res
    obtain ⟨as, rfl, ha⟩ := Sem.eq_ok_of hres (a := Handler.found x.handlerPc) (s' := ((T.setTop g).pushFrame (.throwing a)).setVm vm') (acts' := []) (by simp [hfind _ _ _ _])
    exact ⟨rfl, ha⟩
  have e1 : ∀ (u : State) (F G : List Frame), ((u.setFrames F).setVm vm').setFrames G = (u.setVm vm').setFrames G := fun u F G => by
    have h1 : (u.setFrames F).setVm vm' = (u.setVm vm').setFrames F := rfl
    rw [h1, State.setFrames_setFrames]
  rw [stepThread_throwing (frames_entered X.here.top _), hst.1, hr, List.tail_cons, State.pushFrame, e1, State.setTop_of_frames _ hr, e1, State.setTop_of_frames _ hr']
  exact Steps.refl _
theorem zC_ofW {l : Launch} {y : MethodName} {cc : ByteArray} {nL : Nat} {ret : Option FieldType} {hh : List (Nat × Nat × Nat × Nat)} {lev : Nat} {rd : Bool} {gc gs : Nat} {av : List Value} {w : zW} {res : zR}
    (lv0 : List (Option Value)) (hy : plainName y.cls = true) (h0 : zlv av ++ List.replicate (nL - (zlv av).length) none = lv0) (hn : (zlv av).length ≤ nL)
    (body : ∀ (p : Program) (e : Env) (s : State) (m : MethodId) (args : Array Value) (below : List Frame) (meth : Method) (c : Code) (D : va_G) (cI cJ : ClassId) (as : Nat → Nat), zok p s m args meth c cc nL y.cls D cI cJ as → meth.sig.returnType = ret → c.exceptionTable.toList.map (fun h => (h.startPc, h.endPc, h.handlerPc, h.catchType)) = hh → (∀ k, k < 11 → as k < s.heap.size) →
      Z p l e (zrm lev) s m args below meth c nL D cI cJ as rd 0 0 (zMQ below res D cI cJ as rd s gc gs) 0 lv0 [] w) : zC l y (Jvm.Cond.codeWith y cc nL ret hh :: Tw) lev rd gc gs av w res := by
  intro D cI cJ as sz
  refine MetFree.of_bodyS (code := cc) (maxLocals := nL) (ret := ret) hy ?_ ?_
  · intro args s m h hn
    obtain ⟨m9, meth, c, hn9, h1, h2, h3, h4, -, h5, h6, -⟩ := Cond.codeWith_spec (atoms_spec (ws := Jvm.Cond.codeWith y cc nL ret hh :: Tw) h _ List.mem_cons_self)
    cases hn.symm.trans hn9
    exact ⟨meth, c, h1, h2, h3, h4, h5, h6⟩
  · intro p e s m args below meth c s₁ B hml hv _
    obtain ⟨rfl, rfl, hinj, hP, hK, henv⟩ := hv
    have hts := atoms_spec (ws := Jvm.Cond.codeWith y cc nL ret hh :: Tw) B.pre
    have hown : s.vm.findClass y.cls = some m.cls := findClass_of_methodNamed B.named
    have hh0 : s₁.heap = s.heap := by rw [B.state]; rfl
    have hex : c.exceptionTable.toList.map (fun h => (h.startPc, h.endPc, h.handlerPc, h.catchType)) = hh := by
      obtain ⟨m9, meth9, c9, hn9, h1, h2, -, -, h6, -⟩ := Cond.codeWith_spec (hts _ List.mem_cons_self)
      cases Option.some.inj (B.named.symm.trans hn9)
      cases Option.some.inj (B.method.symm.trans h1)
      cases Option.some.inj ((Stand.of_body B).code.symm.trans h2)
      exact h6
    have hb := body p e s m _ below meth c D cI cJ as ⟨⟨B.exec, B.bytes, hml, hown, B.notSynchronized⟩, fun x hx => hts x (List.mem_cons_of_mem _ hx), hK, hinj, henv⟩ B.returns hex (zH_lt hP) _ _ [] (zL_entry as av h0 hn) hP va_S.rf (fun _ => rfl)
    rw [lg_entry_eq]
    obtain ⟨t, a1, o, b1, b2, b3, L, b4, b5⟩ := hb s₁ hh0 (Stand.of_body B)
    exact ⟨t, o, a1, b1, b2, b3, L, b4, b5⟩
def zcSW (own : String) (idx : Nat) (y : MethodName) (cc : ByteArray) (nL : Nat) (ret : Option FieldType) (hh : List (Nat × Nat × Nat × Nat)) (n : Nat) : Prop :=
  Jvm.Cond.codeWith y cc nL ret hh ∈ Tw ∧ Jvm.Cond.methodLink own idx y ∈ Tw ∧ Jvm.Cond.initialized y.cls ∈ Tw ∧ (y.cls ≠ "java/lang/invoke/MethodHandle" ∧ y.cls ≠ "java/lang/invoke/VarHandle") ∧ (parseMethodDescriptor y.desc).map (fun d => d.parameters.length) = some n ∧ Jvm.Cond.static y ∈ Tw
section ZK
variable {p : Program} {l : Launch} {e : Env} {R : Room} {s : State} {m : MethodId} {args : Array Value} {below : List Frame} {meth : Method} {c : Code} {cc : ByteArray} {nL : Nat} {own : String} {D : va_G} {cI cJ : ClassId} {as : Nat → Nat} {rd : Bool} {kc ks : Nat} {Q : State → Prop} {pc : Nat} {lv : List (Option Value)} {st : List Value} {w : zW}
theorem zz_callSW (G : zok p s m args meth c cc nL own D cI cJ as) {y : MethodName} {cc' : ByteArray} {nL' lev' idx n gc' gs' : Nat} {hh : List (Nat × Nat × Nat × Nat)} {ret' : Option FieldType} {rd' : Bool} {As rest : List Value} {r : Option Value} {w' : zW}
    (hM : zC l y (Jvm.Cond.codeWith y cc' nL' ret' hh :: Tw) lev' rd' gc' gs' As w (.inl (r, w'))) (hc : zcSW own idx y cc' nL' ret' hh n) (hd : decode cc pc = .ok (.invokestatic idx, 3)) (hn : As.length = n)
    (hst : st = As.reverse ++ rest) (hwt : (rest.map fun v => v.category).sum ≤ 8) (hrd : rd = true → rd' = true) (hR : (zrm lev').frames + 1 ≤ R.frames ∧ 8 + (nL' + 11) + (zrm lev').locals ≤ R.locals) (hf : kc + 1 ≤ R.cells ∧ ks + 6 ≤ R.slots)
    (kk : Z p l e R s m args below meth c nL D cI cJ as rd (kc + gc') (ks + gs') Q (pc + 3) lv (r.toList ++ rest) w') : Z p l e R s m args below meth c nL D cI cJ as rd kc ks Q pc lv st w := by
  intro ls H locs hl hP hS hr V hV X
  subst hV
  obtain ⟨mk, methM, cM, hnamed, hmethM, hcM, -, hlM, -, -, -, hsigM⟩ := Cond.codeWith_spec (G.2.1 _ hc.1)
  have hstatic : methM.isStatic = true := Cond.static_spec hnamed hmethM (G.2.1 _ hc.2.2.2.2.2)
  obtain ⟨kP, hkP, -⟩ := className_of_methodNamed hnamed
  have hinitP : kP.init = .initialized := Cond.initialized_spec (findClass_of_methodNamed hnamed) hkP (G.2.1 _ hc.2.2.1)
  have hlen : (As.map (zv as)).length = methM.sig.parameters.length := by
    have h5 := hc.2.2.2.2.1
    rw [hsigM] at h5
    rw [List.length_map, hn]
    exact (Option.some.inj h5).symm
  obtain ⟨vm₁, X₁, hstep⟩ := X.invokestatic G.1.1 G.1.2.2.2.1 (G.2.1 _ hc.2.1) hnamed hmethM hstatic hkP hinitP hc.2.2.2.1
    (g := F0 m pc ls (st.map (zv as))) rfl (argsL := As.map (zv as)) (rest := rest.map (zv as)) hlen (by subst hst; simp) (by rw [G.1.2.1]; exact hd)
  have hI : zInv p l e R s m args below meth c D cI cJ as V locs kc ks (F0 m pc ls (st.map (zv as))) (rest.map (zv as)) rd' gc' gs' (.inl (r, w')) := by
    obtain ⟨o, t, L, B, h1, h2, h3, h4, h5, h6⟩ := zrun X₁ hM (nL' := nL') (g := { F0 m pc ls (st.map (zv as)) with stack := rest.map (zv as) }) rfl (hl.2.1.trans G.1.2.2.1.symm) (by rw [G.1.2.1]; exact hd) (lv_room (by rw [zsum]; exact hwt)) (X₁.named hnamed)
      (by rw [X₁.warmed.alike.method?]; exact hmethM) hcM hlM (fun x hx => zws G.2.1 hc.1 x hx _ _ X₁.warmed) (zword X₁.warmed (Tw_good _ hc.2.2.1) (G.2.1 _ hc.2.2.1)) (zPc_at (av := As) G hP hS (V.setVm vm₁) rfl X₁.warmed) hR hf
    refine ⟨o, t, L, B, V.setVm vm₁, X₁.warmed.alike, rfl, h1, h2, h3, h4, fun v hv tg htg => ?_, fun x hx => ?_⟩
    · refine hstep _ (fun acts => ?_)
      rw [doInvoke_state]
      exact (h5 v hv).trans htg
    · refine hstep _ (fun acts => ?_)
      rw [doInvoke_state]
      exact h6 x hx
  exact zgo hI hl hS hr hrd kk
/-- the call throws, the row q of the table takes it -/
theorem zcatch (G : zok p s m args meth c cc nL own D cI cJ as) {y : MethodName} {cc' : ByteArray} {nL' lev' gc' gs' idx n k ci N : Nat} {ret' : Option FieldType} {rd' : Bool} {T : u_T} {As rest : List Value} {w' : zW} {Xn : String} {fs : List Value}
    (hM : zC l y (Jvm.Cond.code y cc' nL' ret' :: Tw) lev' rd' gc' gs' (.ref k :: As) w (.inr (Xn, w'))) (hc : zcV own idx y cc' nL' ret' n) (hd : decode cc pc = .ok (.invokevirtual idx, 3)) (hw : w[k]? = some (.inr (ci, fs))) (hcl : vwCl[ci]? = some (y.cls, T, N)) (hn : As.length = n)
    (hst : st = As.reverse ++ .ref k :: rest) (hwt : (rest.map fun v => v.category).sum ≤ 8) (hrd : rd = true → rd' = true) (hR : (zrm lev').frames + 1 ≤ R.frames ∧ 8 + (nL' + 11) + (zrm lev').locals ≤ R.locals) (hf : kc + 1 ≤ R.cells ∧ ks + 6 ≤ R.slots)
    (hpre hsuf : List (Nat × Nat × Nat × Nat)) {q : Nat × Nat × Nat × Nat} (hex : c.exceptionTable.toList.map (fun h => (h.startPc, h.endPc, h.handlerPc, h.catchType)) = hpre ++ q :: hsuf) (hcov : q.1 ≤ pc ∧ pc < q.2.1) (h0 : q.2.2.2 ≠ 0) (hlink : Jvm.Cond.classLink own q.2.2.2 Xn ∈ Tw) (hcast : Jvm.Cond.castable Xn Xn ∈ Tw)
    (hpass : ∀ z ∈ hpre, z.2.2.2 ≠ 0 ∧ ∃ nm, Jvm.Cond.classLink own z.2.2.2 nm ∈ Tw ∧ Jvm.Cond.not (.castable Xn nm) ∈ Tw)
    (kk : ∀ (ls : Array Slot) (H : Heap) (locs : List Loc) (a : Nat), zL as ls nL lv → zH D cI cJ as w' H → va_S (zA as s.heap.size) s.heap H locs → (rd = true → locs = []) → W p l e R s m args below meth c H locs (kc + 1) (ks + 6) Q (F0 m q.2.2.1 ls [.ref a])) : Z p l e R s m args below meth c nL D cI cJ as rd kc ks Q pc lv st w := by
  intro ls H locs hl hP hS hr V hV X
  have hI := zinvV G hM hc hd hw hcl hn hst hwt hR hf hl hP hS hV X
  subst hV
  obtain ⟨o, t, L, B, U, hU1, hU2, ⟨x, ho, hX, hH, hF⟩, hL, e1, XB, -, hs⟩ := hI
  rw [← hU2] at hS hL
  have hS' : va_S (zA as s.heap.size) s.heap t.heap (locs ++ L) := zS_app hS hF.1 (by rw [hU2]; exact fun q z1 z2 => hF.2 q (by rw [hU2]; exact z1) z2 |>.trans (by rw [hU2])) hL
  obtain ⟨ce, k1, k2, k3⟩ := hX
  have hclX : s.vm.findClass Xn = some ce.cls := by rw [← hU1.findClass]; exact k3
  have hpl : e.platform.magicAccessors = ({} : Platform).magicAccessors := by rw [X.admits.platform]
  obtain ⟨c3, c4, hc3, hc4, hasg⟩ := Cond.castable_spec (G.2.1 _ hcast)
  cases Option.some.inj (hc3.symm.trans hclX)
  obtain ⟨c5, hc5, hcl5⟩ := Cond.classLink_spec G.1.2.2.2.1 (G.2.1 _ hlink) e.platform hpl
  cases Option.some.inj (hc4.symm.trans hc5)
  obtain ⟨pre, r1, t1, t2, t3⟩ := List.map_eq_append_iff.mp hex
  obtain ⟨x0, suf, t4, t5, t6⟩ := List.map_eq_cons_iff.mp t3
  subst t4
  subst t2
  subst t5
  obtain ⟨vm', X', st'⟩ := zh_caught XB x (g := { F0 m pc ls (st.map (zv as)) with stack := rest.map (zv as) }) rfl (cell := ce) (by rw [e1]; exact k1) k2 (by obtain ⟨k9, h9, -⟩ := Vm.findClass_spec hclX; exact ⟨k9, h9⟩) pre x0 suf t1
    (fun z hz _ => by
      obtain ⟨g0, nm, g1, g2⟩ := hpass _ (List.mem_map.mpr ⟨z, hz, rfl⟩)
      obtain ⟨c6, hc6, hcl6⟩ := Cond.classLink_spec G.1.2.2.2.1 (G.2.1 _ g1) e.platform hpl
      have hv := Cond.holds_not_iff.mp (G.2.1 _ g2)
      simp only [Cond.value, hclX, hc6] at hv
      exact ⟨g0, c6, hcl6, Option.some.inj hv⟩) (by simp only [covers, Bool.and_eq_true, decide_eq_true_eq]; exact hcov) h0 hcl5 hasg
  obtain ⟨tt, a1, b1⟩ := kk ls B.heap (locs ++ L) x hl (by rw [e1]; exact hH) (by rw [e1]; exact hS') (zr_app hr hrd hL) (B.setVm vm') rfl X'
  exact ⟨tt, ((hs x ho).trans st').trans a1, b1⟩
theorem zL_none {ls : Array Slot} {nL : Nat} {lv : List (Nat × Value)} (h : lv_has ls nL lv) : zL as ls nL (List.replicate nL none) :=
  ⟨by simp, h.1, h.2.1, fun q hq => by rw [zas_rep] at hq; cases hq⟩
theorem zz_catch2 (G : zok p s m args meth c cc nL own D cI cJ as) {y : MethodName} {cc' : ByteArray} {nL' lev' gc' gs' idx n k ci N : Nat} {ret' : Option FieldType} {rd' : Bool} {T : u_T} {As rest : List Value} {w' : zW} {Xn : String} {fs : List Value}
    (hM : zC l y (Jvm.Cond.code y cc' nL' ret' :: Tw) lev' rd' gc' gs' (.ref k :: As) w (.inr (Xn, w'))) (hc : zcV own idx y cc' nL' ret' n) (hd : decode cc pc = .ok (.invokevirtual idx, 3)) (hw : w[k]? = some (.inr (ci, fs))) (hcl : vwCl[ci]? = some (y.cls, T, N)) (hn : As.length = n)
    (hst : st = As.reverse ++ .ref k :: rest) (hwt : (rest.map fun v => v.category).sum ≤ 8) (hrd : rd = true → rd' = true) (hR : (zrm lev').frames + 1 ≤ R.frames ∧ 8 + (nL' + 11) + (zrm lev').locals ≤ R.locals) (hf : kc + 1 ≤ R.cells ∧ ks + 6 ≤ R.slots)
    (hpre hsuf : List (Nat × Nat × Nat × Nat)) {q : Nat × Nat × Nat × Nat} (hex : c.exceptionTable.toList.map (fun h => (h.startPc, h.endPc, h.handlerPc, h.catchType)) = hpre ++ q :: hsuf) (hcov : q.1 ≤ pc ∧ pc < q.2.1) (h0 : q.2.2.2 ≠ 0) (hlink : Jvm.Cond.classLink own q.2.2.2 Xn ∈ Tw) (hcast : Jvm.Cond.castable Xn Xn ∈ Tw)
    (hpass : ∀ z ∈ hpre, z.2.2.2 ≠ 0 ∧ ∃ nm, Jvm.Cond.classLink own z.2.2.2 nm ∈ Tw ∧ Jvm.Cond.not (.castable Xn nm) ∈ Tw) {i : Nat} (hda : decode cc q.2.2.1 = .ok (.astore i, 2)) (hi : i < nL)
    (kk : Z p l e R s m args below meth c nL D cI cJ as rd (kc + 1) (ks + 6) Q (q.2.2.1 + 2) (List.replicate nL none) [] w') : Z p l e R s m args below meth c nL D cI cJ as rd kc ks Q pc lv st w :=
  zcatch G hM hc hd hw hcl hn hst hwt hrd hR hf hpre hsuf hex hcov h0 hlink hcast hpass (fun ls H locs a hl hP hS hr => lv_astore G.1.1 G.1.2.1 hda hl.2 hi rfl (fun ls' hl' => kk ls' H locs (zL_none hl') hP hS hr))
theorem zz_catch1 (G : zok p s m args meth c cc nL own D cI cJ as) {y : MethodName} {cc' : ByteArray} {nL' lev' gc' gs' idx n k ci N : Nat} {ret' : Option FieldType} {rd' : Bool} {T : u_T} {As rest : List Value} {w' : zW} {Xn : String} {fs : List Value}
    (hM : zC l y (Jvm.Cond.code y cc' nL' ret' :: Tw) lev' rd' gc' gs' (.ref k :: As) w (.inr (Xn, w'))) (hc : zcV own idx y cc' nL' ret' n) (hd : decode cc pc = .ok (.invokevirtual idx, 3)) (hw : w[k]? = some (.inr (ci, fs))) (hcl : vwCl[ci]? = some (y.cls, T, N)) (hn : As.length = n)
    (hst : st = As.reverse ++ .ref k :: rest) (hwt : (rest.map fun v => v.category).sum ≤ 8) (hrd : rd = true → rd' = true) (hR : (zrm lev').frames + 1 ≤ R.frames ∧ 8 + (nL' + 11) + (zrm lev').locals ≤ R.locals) (hf : kc + 1 ≤ R.cells ∧ ks + 6 ≤ R.slots)
    (hpre hsuf : List (Nat × Nat × Nat × Nat)) {q : Nat × Nat × Nat × Nat} (hex : c.exceptionTable.toList.map (fun h => (h.startPc, h.endPc, h.handlerPc, h.catchType)) = hpre ++ q :: hsuf) (hcov : q.1 ≤ pc ∧ pc < q.2.1) (h0 : q.2.2.2 ≠ 0) (hlink : Jvm.Cond.classLink own q.2.2.2 Xn ∈ Tw) (hcast : Jvm.Cond.castable Xn Xn ∈ Tw)
    (hpass : ∀ z ∈ hpre, z.2.2.2 ≠ 0 ∧ ∃ nm, Jvm.Cond.classLink own z.2.2.2 nm ∈ Tw ∧ Jvm.Cond.not (.castable Xn nm) ∈ Tw) {i : Fin 4} (hda : decode cc q.2.2.1 = .ok (.astore_n i, 1)) (hi : (i : Nat) < nL)
    (kk : Z p l e R s m args below meth c nL D cI cJ as rd (kc + 1) (ks + 6) Q (q.2.2.1 + 1) (List.replicate nL none) [] w') : Z p l e R s m args below meth c nL D cI cJ as rd kc ks Q pc lv st w :=
  zcatch G hM hc hd hw hcl hn hst hwt hrd hR hf hpre hsuf hex hcov h0 hlink hcast hpass (fun ls H locs a hl hP hS hr => lv_astore_n G.1.1 G.1.2.1 hda rfl hl.2 hi rfl (fun ls' hl' => kk ls' H locs (zL_none hl') hP hS hr))
end ZK
end
section
theorem dL_post_0 : decode bL_post 0 = .ok (.aload 5, 2) := by decide +kernel
theorem dL_post_2 : decode bL_post 2 = .ok (.iconst 0, 1) := by decide +kernel
theorem dL_post_3 : decode bL_post 3 = .ok (.aload_n 0, 1) := by decide +kernel
theorem dL_post_4 : decode bL_post 4 = .ok (.iload_n 1, 1) := by decide +kernel
theorem dL_post_5 : decode bL_post 5 = .ok (.iload_n 2, 1) := by decide +kernel
theorem dL_post_6 : decode bL_post 6 = .ok (.iload_n 3, 1) := by decide +kernel
theorem dL_post_7 : decode bL_post 7 = .ok (.iload 4, 2) := by decide +kernel
theorem dL_post_9 : decode bL_post 9 = .ok (.invokevirtual 7, 3) := by decide +kernel
theorem dL_post_12 : decode bL_post 12 = .ok (.i2l, 1) := by decide +kernel
theorem dL_post_13 : decode bL_post 13 = .ok (.lastore, 1) := by decide +kernel
theorem dL_post_14 : decode bL_post 14 = .ok (.goto 19, 3) := by decide +kernel
theorem dL_post_17 : decode bL_post 17 = .ok (.astore 6, 2) := by decide +kernel
theorem dL_post_19 : decode bL_post 19 = .ok (.iconst 1, 1) := by decide +kernel
theorem dL_post_20 : decode bL_post 20 = .ok (.ireturn, 1) := by decide +kernel
theorem dL_post_21 : decode bL_post 21 = .ok (.astore 6, 2) := by decide +kernel
theorem dL_post_23 : decode bL_post 23 = .ok (.iconst 2, 1) := by decide +kernel
theorem dL_post_24 : decode bL_post 24 = .ok (.ireturn, 1) := by decide +kernel
theorem dL_post_25 : decode bL_post 25 = .ok (.astore 6, 2) := by decide +kernel
theorem dL_post_27 : decode bL_post 27 = .ok (.iconst 3, 1) := by decide +kernel
theorem dL_post_28 : decode bL_post 28 = .ok (.ireturn, 1) := by decide +kernel
theorem dL_post_29 : decode bL_post 29 = .ok (.astore 6, 2) := by decide +kernel
theorem dL_post_31 : decode bL_post 31 = .ok (.iconst 4, 1) := by decide +kernel
theorem dL_post_32 : decode bL_post 32 = .ok (.ireturn, 1) := by decide +kernel
theorem dL_post_33 : decode bL_post 33 = .ok (.iconst 0, 1) := by decide +kernel
theorem dL_post_34 : decode bL_post 34 = .ok (.ireturn, 1) := by decide +kernel
theorem dL_correct_0 : decode bL_correct 0 = .ok (.aload_n 3, 1) := by decide +kernel
theorem dL_correct_1 : decode bL_correct 1 = .ok (.iconst 0, 1) := by decide +kernel
theorem dL_correct_2 : decode bL_correct 2 = .ok (.aload_n 0, 1) := by decide +kernel
theorem dL_correct_3 : decode bL_correct 3 = .ok (.iload_n 1, 1) := by decide +kernel
theorem dL_correct_4 : decode bL_correct 4 = .ok (.iload_n 2, 1) := by decide +kernel
theorem dL_correct_5 : decode bL_correct 5 = .ok (.invokevirtual 21, 3) := by decide +kernel
theorem dL_correct_8 : decode bL_correct 8 = .ok (.i2l, 1) := by decide +kernel
theorem dL_correct_9 : decode bL_correct 9 = .ok (.lastore, 1) := by decide +kernel
theorem dL_correct_10 : decode bL_correct 10 = .ok (.goto 23, 3) := by decide +kernel
theorem dL_correct_13 : decode bL_correct 13 = .ok (.astore 4, 2) := by decide +kernel
theorem dL_correct_15 : decode bL_correct 15 = .ok (.iconst 1, 1) := by decide +kernel
theorem dL_correct_16 : decode bL_correct 16 = .ok (.ireturn, 1) := by decide +kernel
theorem dL_correct_17 : decode bL_correct 17 = .ok (.astore 4, 2) := by decide +kernel
theorem dL_correct_19 : decode bL_correct 19 = .ok (.iconst 2, 1) := by decide +kernel
theorem dL_correct_20 : decode bL_correct 20 = .ok (.ireturn, 1) := by decide +kernel
theorem dL_correct_21 : decode bL_correct 21 = .ok (.astore 4, 2) := by decide +kernel
theorem dL_correct_23 : decode bL_correct 23 = .ok (.iconst 3, 1) := by decide +kernel
theorem dL_correct_24 : decode bL_correct 24 = .ok (.ireturn, 1) := by decide +kernel
theorem dL_correct_25 : decode bL_correct 25 = .ok (.astore 4, 2) := by decide +kernel
theorem dL_correct_27 : decode bL_correct 27 = .ok (.iconst 4, 1) := by decide +kernel
theorem dL_correct_28 : decode bL_correct 28 = .ok (.ireturn, 1) := by decide +kernel
theorem dL_correct_29 : decode bL_correct 29 = .ok (.astore 4, 2) := by decide +kernel
theorem dL_correct_31 : decode bL_correct 31 = .ok (.iconst 5, 1) := by decide +kernel
theorem dL_correct_32 : decode bL_correct 32 = .ok (.ireturn, 1) := by decide +kernel
theorem dL_correct_33 : decode bL_correct 33 = .ok (.iconst 0, 1) := by decide +kernel
theorem dL_correct_34 : decode bL_correct 34 = .ok (.ireturn, 1) := by decide +kernel
theorem dL_annul_0 : decode bL_annul 0 = .ok (.aload_n 2, 1) := by decide +kernel
theorem dL_annul_1 : decode bL_annul 1 = .ok (.iconst 0, 1) := by decide +kernel
theorem dL_annul_2 : decode bL_annul 2 = .ok (.aload_n 0, 1) := by decide +kernel
theorem dL_annul_3 : decode bL_annul 3 = .ok (.iload_n 1, 1) := by decide +kernel
theorem dL_annul_4 : decode bL_annul 4 = .ok (.invokevirtual 27, 3) := by decide +kernel
theorem dL_annul_7 : decode bL_annul 7 = .ok (.i2l, 1) := by decide +kernel
theorem dL_annul_8 : decode bL_annul 8 = .ok (.lastore, 1) := by decide +kernel
theorem dL_annul_9 : decode bL_annul 9 = .ok (.goto 12, 3) := by decide +kernel
theorem dL_annul_12 : decode bL_annul 12 = .ok (.astore_n 3, 1) := by decide +kernel
theorem dL_annul_13 : decode bL_annul 13 = .ok (.iconst 1, 1) := by decide +kernel
theorem dL_annul_14 : decode bL_annul 14 = .ok (.ireturn, 1) := by decide +kernel
theorem dL_annul_15 : decode bL_annul 15 = .ok (.astore_n 3, 1) := by decide +kernel
theorem dL_annul_16 : decode bL_annul 16 = .ok (.iconst 2, 1) := by decide +kernel
theorem dL_annul_17 : decode bL_annul 17 = .ok (.ireturn, 1) := by decide +kernel
theorem dL_annul_18 : decode bL_annul 18 = .ok (.astore_n 3, 1) := by decide +kernel
theorem dL_annul_19 : decode bL_annul 19 = .ok (.iconst 3, 1) := by decide +kernel
theorem dL_annul_20 : decode bL_annul 20 = .ok (.ireturn, 1) := by decide +kernel
theorem dL_annul_21 : decode bL_annul 21 = .ok (.iconst 0, 1) := by decide +kernel
theorem dL_annul_22 : decode bL_annul 22 = .ok (.ireturn, 1) := by decide +kernel
theorem dL_balance_0 : decode bL_balance 0 = .ok (.aload 4, 2) := by decide +kernel
theorem dL_balance_2 : decode bL_balance 2 = .ok (.iconst 0, 1) := by decide +kernel
theorem dL_balance_3 : decode bL_balance 3 = .ok (.aload_n 0, 1) := by decide +kernel
theorem dL_balance_4 : decode bL_balance 4 = .ok (.iload_n 1, 1) := by decide +kernel
theorem dL_balance_5 : decode bL_balance 5 = .ok (.iload_n 2, 1) := by decide +kernel
theorem dL_balance_6 : decode bL_balance 6 = .ok (.iload_n 3, 1) := by decide +kernel
theorem dL_balance_7 : decode bL_balance 7 = .ok (.invokevirtual 31, 3) := by decide +kernel
theorem dL_balance_10 : decode bL_balance 10 = .ok (.i2l, 1) := by decide +kernel
theorem dL_balance_11 : decode bL_balance 11 = .ok (.lastore, 1) := by decide +kernel
theorem dL_balance_12 : decode bL_balance 12 = .ok (.goto 11, 3) := by decide +kernel
theorem dL_balance_15 : decode bL_balance 15 = .ok (.astore 5, 2) := by decide +kernel
theorem dL_balance_17 : decode bL_balance 17 = .ok (.iconst 1, 1) := by decide +kernel
theorem dL_balance_18 : decode bL_balance 18 = .ok (.ireturn, 1) := by decide +kernel
theorem dL_balance_19 : decode bL_balance 19 = .ok (.astore 5, 2) := by decide +kernel
theorem dL_balance_21 : decode bL_balance 21 = .ok (.iconst 2, 1) := by decide +kernel
theorem dL_balance_22 : decode bL_balance 22 = .ok (.ireturn, 1) := by decide +kernel
theorem dL_balance_23 : decode bL_balance 23 = .ok (.iconst 0, 1) := by decide +kernel
theorem dL_balance_24 : decode bL_balance 24 = .ok (.ireturn, 1) := by decide +kernel
theorem dL_trial_0 : decode bL_trial 0 = .ok (.aload_n 3, 1) := by decide +kernel
theorem dL_trial_1 : decode bL_trial 1 = .ok (.iconst 0, 1) := by decide +kernel
theorem dL_trial_2 : decode bL_trial 2 = .ok (.aload_n 0, 1) := by decide +kernel
theorem dL_trial_3 : decode bL_trial 3 = .ok (.iload_n 1, 1) := by decide +kernel
theorem dL_trial_4 : decode bL_trial 4 = .ok (.iload_n 2, 1) := by decide +kernel
theorem dL_trial_5 : decode bL_trial 5 = .ok (.invokevirtual 35, 3) := by decide +kernel
theorem dL_trial_8 : decode bL_trial 8 = .ok (.i2l, 1) := by decide +kernel
theorem dL_trial_9 : decode bL_trial 9 = .ok (.lastore, 1) := by decide +kernel
theorem dL_trial_10 : decode bL_trial 10 = .ok (.goto 11, 3) := by decide +kernel
theorem dL_trial_13 : decode bL_trial 13 = .ok (.astore 4, 2) := by decide +kernel
theorem dL_trial_15 : decode bL_trial 15 = .ok (.iconst 1, 1) := by decide +kernel
theorem dL_trial_16 : decode bL_trial 16 = .ok (.ireturn, 1) := by decide +kernel
theorem dL_trial_17 : decode bL_trial 17 = .ok (.astore 4, 2) := by decide +kernel
theorem dL_trial_19 : decode bL_trial 19 = .ok (.iconst 2, 1) := by decide +kernel
theorem dL_trial_20 : decode bL_trial 20 = .ok (.ireturn, 1) := by decide +kernel
theorem dL_trial_21 : decode bL_trial 21 = .ok (.iconst 0, 1) := by decide +kernel
theorem dL_trial_22 : decode bL_trial 22 = .ok (.ireturn, 1) := by decide +kernel
theorem dL_turnover_0 : decode bL_turnover 0 = .ok (.aload_n 2, 1) := by decide +kernel
theorem dL_turnover_1 : decode bL_turnover 1 = .ok (.iconst 0, 1) := by decide +kernel
theorem dL_turnover_2 : decode bL_turnover 2 = .ok (.aload_n 0, 1) := by decide +kernel
theorem dL_turnover_3 : decode bL_turnover 3 = .ok (.iload_n 1, 1) := by decide +kernel
theorem dL_turnover_4 : decode bL_turnover 4 = .ok (.invokevirtual 38, 3) := by decide +kernel
theorem dL_turnover_7 : decode bL_turnover 7 = .ok (.i2l, 1) := by decide +kernel
theorem dL_turnover_8 : decode bL_turnover 8 = .ok (.lastore, 1) := by decide +kernel
theorem dL_turnover_9 : decode bL_turnover 9 = .ok (.goto 9, 3) := by decide +kernel
theorem dL_turnover_12 : decode bL_turnover 12 = .ok (.astore_n 3, 1) := by decide +kernel
theorem dL_turnover_13 : decode bL_turnover 13 = .ok (.iconst 1, 1) := by decide +kernel
theorem dL_turnover_14 : decode bL_turnover 14 = .ok (.ireturn, 1) := by decide +kernel
theorem dL_turnover_15 : decode bL_turnover 15 = .ok (.astore_n 3, 1) := by decide +kernel
theorem dL_turnover_16 : decode bL_turnover 16 = .ok (.iconst 2, 1) := by decide +kernel
theorem dL_turnover_17 : decode bL_turnover 17 = .ok (.ireturn, 1) := by decide +kernel
theorem dL_turnover_18 : decode bL_turnover 18 = .ok (.iconst 0, 1) := by decide +kernel
theorem dL_turnover_19 : decode bL_turnover 19 = .ok (.ireturn, 1) := by decide +kernel
theorem dL_open_0 : decode bL_open 0 = .ok (.aload 5, 2) := by decide +kernel
theorem dL_open_2 : decode bL_open 2 = .ok (.iconst 0, 1) := by decide +kernel
theorem dL_open_3 : decode bL_open 3 = .ok (.aload_n 0, 1) := by decide +kernel
theorem dL_open_4 : decode bL_open 4 = .ok (.iload_n 1, 1) := by decide +kernel
theorem dL_open_5 : decode bL_open 5 = .ok (.iload_n 2, 1) := by decide +kernel
theorem dL_open_6 : decode bL_open 6 = .ok (.iload_n 3, 1) := by decide +kernel
theorem dL_open_7 : decode bL_open 7 = .ok (.iload 4, 2) := by decide +kernel
theorem dL_open_9 : decode bL_open 9 = .ok (.invokevirtual 41, 3) := by decide +kernel
theorem dL_open_12 : decode bL_open 12 = .ok (.i2l, 1) := by decide +kernel
theorem dL_open_13 : decode bL_open 13 = .ok (.lastore, 1) := by decide +kernel
theorem dL_open_14 : decode bL_open 14 = .ok (.goto 11, 3) := by decide +kernel
theorem dL_open_17 : decode bL_open 17 = .ok (.astore 6, 2) := by decide +kernel
theorem dL_open_19 : decode bL_open 19 = .ok (.iconst 1, 1) := by decide +kernel
theorem dL_open_20 : decode bL_open 20 = .ok (.ireturn, 1) := by decide +kernel
theorem dL_open_21 : decode bL_open 21 = .ok (.astore 6, 2) := by decide +kernel
theorem dL_open_23 : decode bL_open 23 = .ok (.iconst 2, 1) := by decide +kernel
theorem dL_open_24 : decode bL_open 24 = .ok (.ireturn, 1) := by decide +kernel
theorem dL_open_25 : decode bL_open 25 = .ok (.iconst 0, 1) := by decide +kernel
theorem dL_open_26 : decode bL_open 26 = .ok (.ireturn, 1) := by decide +kernel
theorem dL_next_0 : decode bL_next 0 = .ok (.aload_n 1, 1) := by decide +kernel
theorem dL_next_1 : decode bL_next 1 = .ok (.iconst 0, 1) := by decide +kernel
theorem dL_next_2 : decode bL_next 2 = .ok (.aload_n 0, 1) := by decide +kernel
theorem dL_next_3 : decode bL_next 3 = .ok (.invokevirtual 44, 3) := by decide +kernel
theorem dL_next_6 : decode bL_next 6 = .ok (.i2l, 1) := by decide +kernel
theorem dL_next_7 : decode bL_next 7 = .ok (.lastore, 1) := by decide +kernel
theorem dL_next_8 : decode bL_next 8 = .ok (.goto 6, 3) := by decide +kernel
theorem dL_next_11 : decode bL_next 11 = .ok (.astore_n 2, 1) := by decide +kernel
theorem dL_next_12 : decode bL_next 12 = .ok (.iconst 1, 1) := by decide +kernel
theorem dL_next_13 : decode bL_next 13 = .ok (.ireturn, 1) := by decide +kernel
theorem dL_next_14 : decode bL_next 14 = .ok (.iconst 0, 1) := by decide +kernel
theorem dL_next_15 : decode bL_next 15 = .ok (.ireturn, 1) := by decide +kernel
theorem dL_moved_0 : decode bL_moved 0 = .ok (.aload_n 1, 1) := by decide +kernel
theorem dL_moved_1 : decode bL_moved 1 = .ok (.iconst 0, 1) := by decide +kernel
theorem dL_moved_2 : decode bL_moved 2 = .ok (.aload_n 0, 1) := by decide +kernel
theorem dL_moved_3 : decode bL_moved 3 = .ok (.invokevirtual 48, 3) := by decide +kernel
theorem dL_moved_6 : decode bL_moved 6 = .ok (.i2l, 1) := by decide +kernel
theorem dL_moved_7 : decode bL_moved 7 = .ok (.lastore, 1) := by decide +kernel
theorem dL_moved_8 : decode bL_moved 8 = .ok (.goto 6, 3) := by decide +kernel
theorem dL_moved_11 : decode bL_moved 11 = .ok (.astore_n 2, 1) := by decide +kernel
theorem dL_moved_12 : decode bL_moved 12 = .ok (.iconst 1, 1) := by decide +kernel
theorem dL_moved_13 : decode bL_moved 13 = .ok (.ireturn, 1) := by decide +kernel
theorem dL_moved_14 : decode bL_moved 14 = .ok (.iconst 0, 1) := by decide +kernel
theorem dL_moved_15 : decode bL_moved 15 = .ok (.ireturn, 1) := by decide +kernel
theorem dL_field_0 : decode bL_field 0 = .ok (.aload 4, 2) := by decide +kernel
theorem dL_field_2 : decode bL_field 2 = .ok (.iconst 0, 1) := by decide +kernel
theorem dL_field_3 : decode bL_field 3 = .ok (.aload_n 0, 1) := by decide +kernel
theorem dL_field_4 : decode bL_field 4 = .ok (.iload_n 1, 1) := by decide +kernel
theorem dL_field_5 : decode bL_field 5 = .ok (.iload_n 2, 1) := by decide +kernel
theorem dL_field_6 : decode bL_field 6 = .ok (.iload_n 3, 1) := by decide +kernel
theorem dL_field_7 : decode bL_field 7 = .ok (.invokevirtual 51, 3) := by decide +kernel
theorem dL_field_10 : decode bL_field 10 = .ok (.i2l, 1) := by decide +kernel
theorem dL_field_11 : decode bL_field 11 = .ok (.lastore, 1) := by decide +kernel
theorem dL_field_12 : decode bL_field 12 = .ok (.goto 7, 3) := by decide +kernel
theorem dL_field_15 : decode bL_field 15 = .ok (.astore 5, 2) := by decide +kernel
theorem dL_field_17 : decode bL_field 17 = .ok (.iconst 1, 1) := by decide +kernel
theorem dL_field_18 : decode bL_field 18 = .ok (.ireturn, 1) := by decide +kernel
theorem dL_field_19 : decode bL_field 19 = .ok (.iconst 0, 1) := by decide +kernel
theorem dL_field_20 : decode bL_field 20 = .ok (.ireturn, 1) := by decide +kernel
theorem dL_entries_0 : decode bL_entries 0 = .ok (.aload_n 1, 1) := by decide +kernel
theorem dL_entries_1 : decode bL_entries 1 = .ok (.iconst 0, 1) := by decide +kernel
theorem dL_entries_2 : decode bL_entries 2 = .ok (.aload_n 0, 1) := by decide +kernel
theorem dL_entries_3 : decode bL_entries 3 = .ok (.invokevirtual 54, 3) := by decide +kernel
theorem dL_entries_6 : decode bL_entries 6 = .ok (.i2l, 1) := by decide +kernel
theorem dL_entries_7 : decode bL_entries 7 = .ok (.lastore, 1) := by decide +kernel
theorem dL_entries_8 : decode bL_entries 8 = .ok (.goto 6, 3) := by decide +kernel
theorem dL_entries_11 : decode bL_entries 11 = .ok (.astore_n 2, 1) := by decide +kernel
theorem dL_entries_12 : decode bL_entries 12 = .ok (.iconst 1, 1) := by decide +kernel
theorem dL_entries_13 : decode bL_entries 13 = .ok (.ireturn, 1) := by decide +kernel
theorem dL_entries_14 : decode bL_entries 14 = .ok (.iconst 0, 1) := by decide +kernel
theorem dL_entries_15 : decode bL_entries 15 = .ok (.ireturn, 1) := by decide +kernel
theorem dL_law_0 : decode bL_law 0 = .ok (.new 8, 3) := by decide +kernel
theorem dL_law_3 : decode bL_law 3 = .ok (.dup, 1) := by decide +kernel
theorem dL_law_4 : decode bL_law 4 = .ok (.invokespecial 57, 3) := by decide +kernel
theorem dL_law_7 : decode bL_law 7 = .ok (.astore_n 1, 1) := by decide +kernel
theorem dL_law_8 : decode bL_law 8 = .ok (.new 58, 3) := by decide +kernel
theorem dL_law_11 : decode bL_law 11 = .ok (.dup, 1) := by decide +kernel
theorem dL_law_12 : decode bL_law 12 = .ok (.invokespecial 60, 3) := by decide +kernel
theorem dL_law_15 : decode bL_law 15 = .ok (.astore_n 2, 1) := by decide +kernel
theorem dL_law_16 : decode bL_law 16 = .ok (.iconst 1, 1) := by decide +kernel
theorem dL_law_17 : decode bL_law 17 = .ok (.newarray .long, 2) := by decide +kernel
theorem dL_law_19 : decode bL_law 19 = .ok (.astore_n 3, 1) := by decide +kernel
theorem dL_law_20 : decode bL_law 20 = .ok (.iconst 0, 1) := by decide +kernel
theorem dL_law_21 : decode bL_law 21 = .ok (.istore 4, 2) := by decide +kernel
theorem dL_law_23 : decode bL_law 23 = .ok (.iload 4, 2) := by decide +kernel
theorem dL_law_25 : decode bL_law 25 = .ok (.aload_n 0, 1) := by decide +kernel
theorem dL_law_26 : decode bL_law 26 = .ok (.arraylength, 1) := by decide +kernel
theorem dL_law_27 : decode bL_law 27 = .ok (.iconst 5, 1) := by decide +kernel
theorem dL_law_28 : decode bL_law 28 = .ok (.isub, 1) := by decide +kernel
theorem dL_law_29 : decode bL_law 29 = .ok (.if_icmp .gt 902, 3) := by decide +kernel
theorem dL_law_32 : decode bL_law 32 = .ok (.aload_n 0, 1) := by decide +kernel
theorem dL_law_33 : decode bL_law 33 = .ok (.iload 4, 2) := by decide +kernel
theorem dL_law_35 : decode bL_law 35 = .ok (.iaload, 1) := by decide +kernel
theorem dL_law_36 : decode bL_law 36 = .ok (.bipush 15, 2) := by decide +kernel
theorem dL_law_38 : decode bL_law 38 = .ok (.iand, 1) := by decide +kernel
theorem dL_law_39 : decode bL_law 39 = .ok (.tableswitch 886 0 14 #[73, 165, 233, 289, 369, 437, 493, 585, 629, 673, 753, 797, 810, 824, 837], 73) := by decide +kernel
theorem dL_law_112 : decode bL_law 112 = .ok (.aload_n 1, 1) := by decide +kernel
theorem dL_law_113 : decode bL_law 113 = .ok (.aload_n 0, 1) := by decide +kernel
theorem dL_law_114 : decode bL_law 114 = .ok (.iload 4, 2) := by decide +kernel
theorem dL_law_116 : decode bL_law 116 = .ok (.iconst 1, 1) := by decide +kernel
theorem dL_law_117 : decode bL_law 117 = .ok (.iadd, 1) := by decide +kernel
theorem dL_law_118 : decode bL_law 118 = .ok (.iaload, 1) := by decide +kernel
theorem dL_law_119 : decode bL_law 119 = .ok (.aload_n 0, 1) := by decide +kernel
theorem dL_law_120 : decode bL_law 120 = .ok (.iload 4, 2) := by decide +kernel
theorem dL_law_122 : decode bL_law 122 = .ok (.iconst 2, 1) := by decide +kernel
theorem dL_law_123 : decode bL_law 123 = .ok (.iadd, 1) := by decide +kernel
theorem dL_law_124 : decode bL_law 124 = .ok (.iaload, 1) := by decide +kernel
theorem dL_law_125 : decode bL_law 125 = .ok (.aload_n 0, 1) := by decide +kernel
theorem dL_law_126 : decode bL_law 126 = .ok (.iload 4, 2) := by decide +kernel
theorem dL_law_128 : decode bL_law 128 = .ok (.iconst 3, 1) := by decide +kernel
theorem dL_law_129 : decode bL_law 129 = .ok (.iadd, 1) := by decide +kernel
theorem dL_law_130 : decode bL_law 130 = .ok (.iaload, 1) := by decide +kernel
theorem dL_law_131 : decode bL_law 131 = .ok (.aload_n 0, 1) := by decide +kernel
theorem dL_law_132 : decode bL_law 132 = .ok (.iload 4, 2) := by decide +kernel
theorem dL_law_134 : decode bL_law 134 = .ok (.iconst 4, 1) := by decide +kernel
theorem dL_law_135 : decode bL_law 135 = .ok (.iadd, 1) := by decide +kernel
theorem dL_law_136 : decode bL_law 136 = .ok (.iaload, 1) := by decide +kernel
theorem dL_law_137 : decode bL_law 137 = .ok (.aload_n 3, 1) := by decide +kernel
theorem dL_law_138 : decode bL_law 138 = .ok (.invokestatic 61, 3) := by decide +kernel
theorem dL_law_141 : decode bL_law 141 = .ok (.istore 5, 2) := by decide +kernel
theorem dL_law_143 : decode bL_law 143 = .ok (.aload_n 2, 1) := by decide +kernel
theorem dL_law_144 : decode bL_law 144 = .ok (.aload_n 0, 1) := by decide +kernel
theorem dL_law_145 : decode bL_law 145 = .ok (.iload 4, 2) := by decide +kernel
theorem dL_law_147 : decode bL_law 147 = .ok (.iconst 1, 1) := by decide +kernel
theorem dL_law_148 : decode bL_law 148 = .ok (.iadd, 1) := by decide +kernel
theorem dL_law_149 : decode bL_law 149 = .ok (.iaload, 1) := by decide +kernel
theorem dL_law_150 : decode bL_law 150 = .ok (.aload_n 0, 1) := by decide +kernel
theorem dL_law_151 : decode bL_law 151 = .ok (.iload 4, 2) := by decide +kernel
theorem dL_law_153 : decode bL_law 153 = .ok (.iconst 2, 1) := by decide +kernel
theorem dL_law_154 : decode bL_law 154 = .ok (.iadd, 1) := by decide +kernel
theorem dL_law_155 : decode bL_law 155 = .ok (.iaload, 1) := by decide +kernel
theorem dL_law_156 : decode bL_law 156 = .ok (.aload_n 0, 1) := by decide +kernel
theorem dL_law_157 : decode bL_law 157 = .ok (.iload 4, 2) := by decide +kernel
theorem dL_law_159 : decode bL_law 159 = .ok (.iconst 3, 1) := by decide +kernel
theorem dL_law_160 : decode bL_law 160 = .ok (.iadd, 1) := by decide +kernel
theorem dL_law_161 : decode bL_law 161 = .ok (.iaload, 1) := by decide +kernel
theorem dL_law_162 : decode bL_law 162 = .ok (.aload_n 0, 1) := by decide +kernel
theorem dL_law_163 : decode bL_law 163 = .ok (.iload 4, 2) := by decide +kernel
theorem dL_law_165 : decode bL_law 165 = .ok (.iconst 4, 1) := by decide +kernel
theorem dL_law_166 : decode bL_law 166 = .ok (.iadd, 1) := by decide +kernel
theorem dL_law_167 : decode bL_law 167 = .ok (.iaload, 1) := by decide +kernel
theorem dL_law_168 : decode bL_law 168 = .ok (.invokevirtual 66, 3) := by decide +kernel
theorem dL_law_171 : decode bL_law 171 = .ok (.istore 6, 2) := by decide +kernel
theorem dL_law_173 : decode bL_law 173 = .ok (.aload_n 2, 1) := by decide +kernel
theorem dL_law_174 : decode bL_law 174 = .ok (.invokevirtual 67, 3) := by decide +kernel
theorem dL_law_177 : decode bL_law 177 = .ok (.iload 5, 2) := by decide +kernel
theorem dL_law_179 : decode bL_law 179 = .ok (.if_icmp .eq 5, 3) := by decide +kernel
theorem dL_law_182 : decode bL_law 182 = .ok (.iconst 0, 1) := by decide +kernel
theorem dL_law_183 : decode bL_law 183 = .ok (.ireturn, 1) := by decide +kernel
theorem dL_law_184 : decode bL_law 184 = .ok (.iload 5, 2) := by decide +kernel
theorem dL_law_186 : decode bL_law 186 = .ok (.ifCond .ne 15, 3) := by decide +kernel
theorem dL_law_189 : decode bL_law 189 = .ok (.aload_n 3, 1) := by decide +kernel
theorem dL_law_190 : decode bL_law 190 = .ok (.iconst 0, 1) := by decide +kernel
theorem dL_law_191 : decode bL_law 191 = .ok (.laload, 1) := by decide +kernel
theorem dL_law_192 : decode bL_law 192 = .ok (.iload 6, 2) := by decide +kernel
theorem dL_law_194 : decode bL_law 194 = .ok (.i2l, 1) := by decide +kernel
theorem dL_law_195 : decode bL_law 195 = .ok (.lcmp, 1) := by decide +kernel
theorem dL_law_196 : decode bL_law 196 = .ok (.ifCond .eq 5, 3) := by decide +kernel
theorem dL_law_199 : decode bL_law 199 = .ok (.iconst 0, 1) := by decide +kernel
theorem dL_law_200 : decode bL_law 200 = .ok (.ireturn, 1) := by decide +kernel
theorem dL_law_201 : decode bL_law 201 = .ok (.goto 724, 3) := by decide +kernel
theorem dL_law_204 : decode bL_law 204 = .ok (.aload_n 1, 1) := by decide +kernel
theorem dL_law_205 : decode bL_law 205 = .ok (.aload_n 0, 1) := by decide +kernel
theorem dL_law_206 : decode bL_law 206 = .ok (.iload 4, 2) := by decide +kernel
theorem dL_law_208 : decode bL_law 208 = .ok (.iconst 1, 1) := by decide +kernel
theorem dL_law_209 : decode bL_law 209 = .ok (.iadd, 1) := by decide +kernel
theorem dL_law_210 : decode bL_law 210 = .ok (.iaload, 1) := by decide +kernel
theorem dL_law_211 : decode bL_law 211 = .ok (.aload_n 0, 1) := by decide +kernel
theorem dL_law_212 : decode bL_law 212 = .ok (.iload 4, 2) := by decide +kernel
theorem dL_law_214 : decode bL_law 214 = .ok (.iconst 2, 1) := by decide +kernel
theorem dL_law_215 : decode bL_law 215 = .ok (.iadd, 1) := by decide +kernel
theorem dL_law_216 : decode bL_law 216 = .ok (.iaload, 1) := by decide +kernel
theorem dL_law_217 : decode bL_law 217 = .ok (.aload_n 3, 1) := by decide +kernel
theorem dL_law_218 : decode bL_law 218 = .ok (.invokestatic 70, 3) := by decide +kernel
theorem dL_law_221 : decode bL_law 221 = .ok (.istore 5, 2) := by decide +kernel
theorem dL_law_223 : decode bL_law 223 = .ok (.aload_n 2, 1) := by decide +kernel
theorem dL_law_224 : decode bL_law 224 = .ok (.aload_n 0, 1) := by decide +kernel
theorem dL_law_225 : decode bL_law 225 = .ok (.iload 4, 2) := by decide +kernel
theorem dL_law_227 : decode bL_law 227 = .ok (.iconst 1, 1) := by decide +kernel
theorem dL_law_228 : decode bL_law 228 = .ok (.iadd, 1) := by decide +kernel
theorem dL_law_229 : decode bL_law 229 = .ok (.iaload, 1) := by decide +kernel
theorem dL_law_230 : decode bL_law 230 = .ok (.aload_n 0, 1) := by decide +kernel
theorem dL_law_231 : decode bL_law 231 = .ok (.iload 4, 2) := by decide +kernel
theorem dL_law_233 : decode bL_law 233 = .ok (.iconst 2, 1) := by decide +kernel
theorem dL_law_234 : decode bL_law 234 = .ok (.iadd, 1) := by decide +kernel
theorem dL_law_235 : decode bL_law 235 = .ok (.iaload, 1) := by decide +kernel
theorem dL_law_236 : decode bL_law 236 = .ok (.invokevirtual 73, 3) := by decide +kernel
theorem dL_law_239 : decode bL_law 239 = .ok (.istore 6, 2) := by decide +kernel
theorem dL_law_241 : decode bL_law 241 = .ok (.aload_n 2, 1) := by decide +kernel
theorem dL_law_242 : decode bL_law 242 = .ok (.invokevirtual 67, 3) := by decide +kernel
theorem dL_law_245 : decode bL_law 245 = .ok (.iload 5, 2) := by decide +kernel
theorem dL_law_247 : decode bL_law 247 = .ok (.if_icmp .eq 5, 3) := by decide +kernel
theorem dL_law_250 : decode bL_law 250 = .ok (.iconst 0, 1) := by decide +kernel
theorem dL_law_251 : decode bL_law 251 = .ok (.ireturn, 1) := by decide +kernel
theorem dL_law_252 : decode bL_law 252 = .ok (.iload 5, 2) := by decide +kernel
theorem dL_law_254 : decode bL_law 254 = .ok (.ifCond .ne 15, 3) := by decide +kernel
theorem dL_law_257 : decode bL_law 257 = .ok (.aload_n 3, 1) := by decide +kernel
theorem dL_law_258 : decode bL_law 258 = .ok (.iconst 0, 1) := by decide +kernel
theorem dL_law_259 : decode bL_law 259 = .ok (.laload, 1) := by decide +kernel
theorem dL_law_260 : decode bL_law 260 = .ok (.iload 6, 2) := by decide +kernel
theorem dL_law_262 : decode bL_law 262 = .ok (.i2l, 1) := by decide +kernel
theorem dL_law_263 : decode bL_law 263 = .ok (.lcmp, 1) := by decide +kernel
theorem dL_law_264 : decode bL_law 264 = .ok (.ifCond .eq 5, 3) := by decide +kernel
theorem dL_law_267 : decode bL_law 267 = .ok (.iconst 0, 1) := by decide +kernel
theorem dL_law_268 : decode bL_law 268 = .ok (.ireturn, 1) := by decide +kernel
theorem dL_law_269 : decode bL_law 269 = .ok (.goto 656, 3) := by decide +kernel
theorem dL_law_272 : decode bL_law 272 = .ok (.aload_n 1, 1) := by decide +kernel
theorem dL_law_273 : decode bL_law 273 = .ok (.aload_n 0, 1) := by decide +kernel
theorem dL_law_274 : decode bL_law 274 = .ok (.iload 4, 2) := by decide +kernel
theorem dL_law_276 : decode bL_law 276 = .ok (.iconst 1, 1) := by decide +kernel
theorem dL_law_277 : decode bL_law 277 = .ok (.iadd, 1) := by decide +kernel
theorem dL_law_278 : decode bL_law 278 = .ok (.iaload, 1) := by decide +kernel
theorem dL_law_279 : decode bL_law 279 = .ok (.aload_n 3, 1) := by decide +kernel
theorem dL_law_280 : decode bL_law 280 = .ok (.invokestatic 74, 3) := by decide +kernel
theorem dL_law_283 : decode bL_law 283 = .ok (.istore 5, 2) := by decide +kernel
theorem dL_law_285 : decode bL_law 285 = .ok (.aload_n 2, 1) := by decide +kernel
theorem dL_law_286 : decode bL_law 286 = .ok (.aload_n 0, 1) := by decide +kernel
theorem dL_law_287 : decode bL_law 287 = .ok (.iload 4, 2) := by decide +kernel
theorem dL_law_289 : decode bL_law 289 = .ok (.iconst 1, 1) := by decide +kernel
theorem dL_law_290 : decode bL_law 290 = .ok (.iadd, 1) := by decide +kernel
theorem dL_law_291 : decode bL_law 291 = .ok (.iaload, 1) := by decide +kernel
theorem dL_law_292 : decode bL_law 292 = .ok (.invokevirtual 77, 3) := by decide +kernel
theorem dL_law_295 : decode bL_law 295 = .ok (.istore 6, 2) := by decide +kernel
theorem dL_law_297 : decode bL_law 297 = .ok (.aload_n 2, 1) := by decide +kernel
theorem dL_law_298 : decode bL_law 298 = .ok (.invokevirtual 67, 3) := by decide +kernel
theorem dL_law_301 : decode bL_law 301 = .ok (.iload 5, 2) := by decide +kernel
theorem dL_law_303 : decode bL_law 303 = .ok (.if_icmp .eq 5, 3) := by decide +kernel
theorem dL_law_306 : decode bL_law 306 = .ok (.iconst 0, 1) := by decide +kernel
theorem dL_law_307 : decode bL_law 307 = .ok (.ireturn, 1) := by decide +kernel
theorem dL_law_308 : decode bL_law 308 = .ok (.iload 5, 2) := by decide +kernel
theorem dL_law_310 : decode bL_law 310 = .ok (.ifCond .ne 15, 3) := by decide +kernel
theorem dL_law_313 : decode bL_law 313 = .ok (.aload_n 3, 1) := by decide +kernel
theorem dL_law_314 : decode bL_law 314 = .ok (.iconst 0, 1) := by decide +kernel
theorem dL_law_315 : decode bL_law 315 = .ok (.laload, 1) := by decide +kernel
theorem dL_law_316 : decode bL_law 316 = .ok (.iload 6, 2) := by decide +kernel
theorem dL_law_318 : decode bL_law 318 = .ok (.i2l, 1) := by decide +kernel
theorem dL_law_319 : decode bL_law 319 = .ok (.lcmp, 1) := by decide +kernel
theorem dL_law_320 : decode bL_law 320 = .ok (.ifCond .eq 5, 3) := by decide +kernel
theorem dL_law_323 : decode bL_law 323 = .ok (.iconst 0, 1) := by decide +kernel
theorem dL_law_324 : decode bL_law 324 = .ok (.ireturn, 1) := by decide +kernel
theorem dL_law_325 : decode bL_law 325 = .ok (.goto 600, 3) := by decide +kernel
theorem dL_law_328 : decode bL_law 328 = .ok (.aload_n 1, 1) := by decide +kernel
theorem dL_law_329 : decode bL_law 329 = .ok (.aload_n 0, 1) := by decide +kernel
theorem dL_law_330 : decode bL_law 330 = .ok (.iload 4, 2) := by decide +kernel
theorem dL_law_332 : decode bL_law 332 = .ok (.iconst 1, 1) := by decide +kernel
theorem dL_law_333 : decode bL_law 333 = .ok (.iadd, 1) := by decide +kernel
theorem dL_law_334 : decode bL_law 334 = .ok (.iaload, 1) := by decide +kernel
theorem dL_law_335 : decode bL_law 335 = .ok (.aload_n 0, 1) := by decide +kernel
theorem dL_law_336 : decode bL_law 336 = .ok (.iload 4, 2) := by decide +kernel
theorem dL_law_338 : decode bL_law 338 = .ok (.iconst 2, 1) := by decide +kernel
theorem dL_law_339 : decode bL_law 339 = .ok (.iadd, 1) := by decide +kernel
theorem dL_law_340 : decode bL_law 340 = .ok (.iaload, 1) := by decide +kernel
theorem dL_law_341 : decode bL_law 341 = .ok (.aload_n 0, 1) := by decide +kernel
theorem dL_law_342 : decode bL_law 342 = .ok (.iload 4, 2) := by decide +kernel
theorem dL_law_344 : decode bL_law 344 = .ok (.iconst 3, 1) := by decide +kernel
theorem dL_law_345 : decode bL_law 345 = .ok (.iadd, 1) := by decide +kernel
theorem dL_law_346 : decode bL_law 346 = .ok (.iaload, 1) := by decide +kernel
theorem dL_law_347 : decode bL_law 347 = .ok (.aload_n 3, 1) := by decide +kernel
theorem dL_law_348 : decode bL_law 348 = .ok (.invokestatic 78, 3) := by decide +kernel
theorem dL_law_351 : decode bL_law 351 = .ok (.istore 5, 2) := by decide +kernel
theorem dL_law_353 : decode bL_law 353 = .ok (.aload_n 2, 1) := by decide +kernel
theorem dL_law_354 : decode bL_law 354 = .ok (.aload_n 0, 1) := by decide +kernel
theorem dL_law_355 : decode bL_law 355 = .ok (.iload 4, 2) := by decide +kernel
theorem dL_law_357 : decode bL_law 357 = .ok (.iconst 1, 1) := by decide +kernel
theorem dL_law_358 : decode bL_law 358 = .ok (.iadd, 1) := by decide +kernel
theorem dL_law_359 : decode bL_law 359 = .ok (.iaload, 1) := by decide +kernel
theorem dL_law_360 : decode bL_law 360 = .ok (.aload_n 0, 1) := by decide +kernel
theorem dL_law_361 : decode bL_law 361 = .ok (.iload 4, 2) := by decide +kernel
theorem dL_law_363 : decode bL_law 363 = .ok (.iconst 2, 1) := by decide +kernel
theorem dL_law_364 : decode bL_law 364 = .ok (.iadd, 1) := by decide +kernel
theorem dL_law_365 : decode bL_law 365 = .ok (.iaload, 1) := by decide +kernel
theorem dL_law_366 : decode bL_law 366 = .ok (.aload_n 0, 1) := by decide +kernel
theorem dL_law_367 : decode bL_law 367 = .ok (.iload 4, 2) := by decide +kernel
theorem dL_law_369 : decode bL_law 369 = .ok (.iconst 3, 1) := by decide +kernel
theorem dL_law_370 : decode bL_law 370 = .ok (.iadd, 1) := by decide +kernel
theorem dL_law_371 : decode bL_law 371 = .ok (.iaload, 1) := by decide +kernel
theorem dL_law_372 : decode bL_law 372 = .ok (.invokevirtual 81, 3) := by decide +kernel
theorem dL_law_375 : decode bL_law 375 = .ok (.istore 6, 2) := by decide +kernel
theorem dL_law_377 : decode bL_law 377 = .ok (.aload_n 2, 1) := by decide +kernel
theorem dL_law_378 : decode bL_law 378 = .ok (.invokevirtual 67, 3) := by decide +kernel
theorem dL_law_381 : decode bL_law 381 = .ok (.iload 5, 2) := by decide +kernel
theorem dL_law_383 : decode bL_law 383 = .ok (.if_icmp .eq 5, 3) := by decide +kernel
theorem dL_law_386 : decode bL_law 386 = .ok (.iconst 0, 1) := by decide +kernel
theorem dL_law_387 : decode bL_law 387 = .ok (.ireturn, 1) := by decide +kernel
theorem dL_law_388 : decode bL_law 388 = .ok (.iload 5, 2) := by decide +kernel
theorem dL_law_390 : decode bL_law 390 = .ok (.ifCond .ne 15, 3) := by decide +kernel
theorem dL_law_393 : decode bL_law 393 = .ok (.aload_n 3, 1) := by decide +kernel
theorem dL_law_394 : decode bL_law 394 = .ok (.iconst 0, 1) := by decide +kernel
theorem dL_law_395 : decode bL_law 395 = .ok (.laload, 1) := by decide +kernel
theorem dL_law_396 : decode bL_law 396 = .ok (.iload 6, 2) := by decide +kernel
theorem dL_law_398 : decode bL_law 398 = .ok (.i2l, 1) := by decide +kernel
theorem dL_law_399 : decode bL_law 399 = .ok (.lcmp, 1) := by decide +kernel
theorem dL_law_400 : decode bL_law 400 = .ok (.ifCond .eq 5, 3) := by decide +kernel
theorem dL_law_403 : decode bL_law 403 = .ok (.iconst 0, 1) := by decide +kernel
theorem dL_law_404 : decode bL_law 404 = .ok (.ireturn, 1) := by decide +kernel
theorem dL_law_405 : decode bL_law 405 = .ok (.goto 520, 3) := by decide +kernel
theorem dL_law_408 : decode bL_law 408 = .ok (.aload_n 1, 1) := by decide +kernel
theorem dL_law_409 : decode bL_law 409 = .ok (.aload_n 0, 1) := by decide +kernel
theorem dL_law_410 : decode bL_law 410 = .ok (.iload 4, 2) := by decide +kernel
theorem dL_law_412 : decode bL_law 412 = .ok (.iconst 1, 1) := by decide +kernel
theorem dL_law_413 : decode bL_law 413 = .ok (.iadd, 1) := by decide +kernel
theorem dL_law_414 : decode bL_law 414 = .ok (.iaload, 1) := by decide +kernel
theorem dL_law_415 : decode bL_law 415 = .ok (.aload_n 0, 1) := by decide +kernel
theorem dL_law_416 : decode bL_law 416 = .ok (.iload 4, 2) := by decide +kernel
theorem dL_law_418 : decode bL_law 418 = .ok (.iconst 2, 1) := by decide +kernel
theorem dL_law_419 : decode bL_law 419 = .ok (.iadd, 1) := by decide +kernel
theorem dL_law_420 : decode bL_law 420 = .ok (.iaload, 1) := by decide +kernel
theorem dL_law_421 : decode bL_law 421 = .ok (.aload_n 3, 1) := by decide +kernel
theorem dL_law_422 : decode bL_law 422 = .ok (.invokestatic 82, 3) := by decide +kernel
theorem dL_law_425 : decode bL_law 425 = .ok (.istore 5, 2) := by decide +kernel
theorem dL_law_427 : decode bL_law 427 = .ok (.aload_n 2, 1) := by decide +kernel
theorem dL_law_428 : decode bL_law 428 = .ok (.aload_n 0, 1) := by decide +kernel
theorem dL_law_429 : decode bL_law 429 = .ok (.iload 4, 2) := by decide +kernel
theorem dL_law_431 : decode bL_law 431 = .ok (.iconst 1, 1) := by decide +kernel
theorem dL_law_432 : decode bL_law 432 = .ok (.iadd, 1) := by decide +kernel
theorem dL_law_433 : decode bL_law 433 = .ok (.iaload, 1) := by decide +kernel
theorem dL_law_434 : decode bL_law 434 = .ok (.aload_n 0, 1) := by decide +kernel
theorem dL_law_435 : decode bL_law 435 = .ok (.iload 4, 2) := by decide +kernel
theorem dL_law_437 : decode bL_law 437 = .ok (.iconst 2, 1) := by decide +kernel
theorem dL_law_438 : decode bL_law 438 = .ok (.iadd, 1) := by decide +kernel
theorem dL_law_439 : decode bL_law 439 = .ok (.iaload, 1) := by decide +kernel
theorem dL_law_440 : decode bL_law 440 = .ok (.invokevirtual 84, 3) := by decide +kernel
theorem dL_law_443 : decode bL_law 443 = .ok (.istore 6, 2) := by decide +kernel
theorem dL_law_445 : decode bL_law 445 = .ok (.aload_n 2, 1) := by decide +kernel
theorem dL_law_446 : decode bL_law 446 = .ok (.invokevirtual 67, 3) := by decide +kernel
theorem dL_law_449 : decode bL_law 449 = .ok (.iload 5, 2) := by decide +kernel
theorem dL_law_451 : decode bL_law 451 = .ok (.if_icmp .eq 5, 3) := by decide +kernel
theorem dL_law_454 : decode bL_law 454 = .ok (.iconst 0, 1) := by decide +kernel
theorem dL_law_455 : decode bL_law 455 = .ok (.ireturn, 1) := by decide +kernel
theorem dL_law_456 : decode bL_law 456 = .ok (.iload 5, 2) := by decide +kernel
theorem dL_law_458 : decode bL_law 458 = .ok (.ifCond .ne 15, 3) := by decide +kernel
theorem dL_law_461 : decode bL_law 461 = .ok (.aload_n 3, 1) := by decide +kernel
theorem dL_law_462 : decode bL_law 462 = .ok (.iconst 0, 1) := by decide +kernel
theorem dL_law_463 : decode bL_law 463 = .ok (.laload, 1) := by decide +kernel
theorem dL_law_464 : decode bL_law 464 = .ok (.iload 6, 2) := by decide +kernel
theorem dL_law_466 : decode bL_law 466 = .ok (.i2l, 1) := by decide +kernel
theorem dL_law_467 : decode bL_law 467 = .ok (.lcmp, 1) := by decide +kernel
theorem dL_law_468 : decode bL_law 468 = .ok (.ifCond .eq 5, 3) := by decide +kernel
theorem dL_law_471 : decode bL_law 471 = .ok (.iconst 0, 1) := by decide +kernel
theorem dL_law_472 : decode bL_law 472 = .ok (.ireturn, 1) := by decide +kernel
theorem dL_law_473 : decode bL_law 473 = .ok (.goto 452, 3) := by decide +kernel
theorem dL_law_476 : decode bL_law 476 = .ok (.aload_n 1, 1) := by decide +kernel
theorem dL_law_477 : decode bL_law 477 = .ok (.aload_n 0, 1) := by decide +kernel
theorem dL_law_478 : decode bL_law 478 = .ok (.iload 4, 2) := by decide +kernel
theorem dL_law_480 : decode bL_law 480 = .ok (.iconst 1, 1) := by decide +kernel
theorem dL_law_481 : decode bL_law 481 = .ok (.iadd, 1) := by decide +kernel
theorem dL_law_482 : decode bL_law 482 = .ok (.iaload, 1) := by decide +kernel
theorem dL_law_483 : decode bL_law 483 = .ok (.aload_n 3, 1) := by decide +kernel
theorem dL_law_484 : decode bL_law 484 = .ok (.invokestatic 85, 3) := by decide +kernel
theorem dL_law_487 : decode bL_law 487 = .ok (.istore 5, 2) := by decide +kernel
theorem dL_law_489 : decode bL_law 489 = .ok (.aload_n 2, 1) := by decide +kernel
theorem dL_law_490 : decode bL_law 490 = .ok (.aload_n 0, 1) := by decide +kernel
theorem dL_law_491 : decode bL_law 491 = .ok (.iload 4, 2) := by decide +kernel
theorem dL_law_493 : decode bL_law 493 = .ok (.iconst 1, 1) := by decide +kernel
theorem dL_law_494 : decode bL_law 494 = .ok (.iadd, 1) := by decide +kernel
theorem dL_law_495 : decode bL_law 495 = .ok (.iaload, 1) := by decide +kernel
theorem dL_law_496 : decode bL_law 496 = .ok (.invokevirtual 87, 3) := by decide +kernel
theorem dL_law_499 : decode bL_law 499 = .ok (.istore 6, 2) := by decide +kernel
theorem dL_law_501 : decode bL_law 501 = .ok (.aload_n 2, 1) := by decide +kernel
theorem dL_law_502 : decode bL_law 502 = .ok (.invokevirtual 67, 3) := by decide +kernel
theorem dL_law_505 : decode bL_law 505 = .ok (.iload 5, 2) := by decide +kernel
theorem dL_law_507 : decode bL_law 507 = .ok (.if_icmp .eq 5, 3) := by decide +kernel
theorem dL_law_510 : decode bL_law 510 = .ok (.iconst 0, 1) := by decide +kernel
theorem dL_law_511 : decode bL_law 511 = .ok (.ireturn, 1) := by decide +kernel
theorem dL_law_512 : decode bL_law 512 = .ok (.iload 5, 2) := by decide +kernel
theorem dL_law_514 : decode bL_law 514 = .ok (.ifCond .ne 15, 3) := by decide +kernel
theorem dL_law_517 : decode bL_law 517 = .ok (.aload_n 3, 1) := by decide +kernel
theorem dL_law_518 : decode bL_law 518 = .ok (.iconst 0, 1) := by decide +kernel
theorem dL_law_519 : decode bL_law 519 = .ok (.laload, 1) := by decide +kernel
theorem dL_law_520 : decode bL_law 520 = .ok (.iload 6, 2) := by decide +kernel
theorem dL_law_522 : decode bL_law 522 = .ok (.i2l, 1) := by decide +kernel
theorem dL_law_523 : decode bL_law 523 = .ok (.lcmp, 1) := by decide +kernel
theorem dL_law_524 : decode bL_law 524 = .ok (.ifCond .eq 5, 3) := by decide +kernel
theorem dL_law_527 : decode bL_law 527 = .ok (.iconst 0, 1) := by decide +kernel
theorem dL_law_528 : decode bL_law 528 = .ok (.ireturn, 1) := by decide +kernel
theorem dL_law_529 : decode bL_law 529 = .ok (.goto 396, 3) := by decide +kernel
theorem dL_law_532 : decode bL_law 532 = .ok (.aload_n 1, 1) := by decide +kernel
theorem dL_law_533 : decode bL_law 533 = .ok (.aload_n 0, 1) := by decide +kernel
theorem dL_law_534 : decode bL_law 534 = .ok (.iload 4, 2) := by decide +kernel
theorem dL_law_536 : decode bL_law 536 = .ok (.iconst 1, 1) := by decide +kernel
theorem dL_law_537 : decode bL_law 537 = .ok (.iadd, 1) := by decide +kernel
theorem dL_law_538 : decode bL_law 538 = .ok (.iaload, 1) := by decide +kernel
theorem dL_law_539 : decode bL_law 539 = .ok (.aload_n 0, 1) := by decide +kernel
theorem dL_law_540 : decode bL_law 540 = .ok (.iload 4, 2) := by decide +kernel
theorem dL_law_542 : decode bL_law 542 = .ok (.iconst 2, 1) := by decide +kernel
theorem dL_law_543 : decode bL_law 543 = .ok (.iadd, 1) := by decide +kernel
theorem dL_law_544 : decode bL_law 544 = .ok (.iaload, 1) := by decide +kernel
theorem dL_law_545 : decode bL_law 545 = .ok (.aload_n 0, 1) := by decide +kernel
theorem dL_law_546 : decode bL_law 546 = .ok (.iload 4, 2) := by decide +kernel
theorem dL_law_548 : decode bL_law 548 = .ok (.iconst 3, 1) := by decide +kernel
theorem dL_law_549 : decode bL_law 549 = .ok (.iadd, 1) := by decide +kernel
theorem dL_law_550 : decode bL_law 550 = .ok (.iaload, 1) := by decide +kernel
theorem dL_law_551 : decode bL_law 551 = .ok (.aload_n 0, 1) := by decide +kernel
theorem dL_law_552 : decode bL_law 552 = .ok (.iload 4, 2) := by decide +kernel
theorem dL_law_554 : decode bL_law 554 = .ok (.iconst 4, 1) := by decide +kernel
theorem dL_law_555 : decode bL_law 555 = .ok (.iadd, 1) := by decide +kernel
theorem dL_law_556 : decode bL_law 556 = .ok (.iaload, 1) := by decide +kernel
theorem dL_law_557 : decode bL_law 557 = .ok (.aload_n 3, 1) := by decide +kernel
theorem dL_law_558 : decode bL_law 558 = .ok (.invokestatic 88, 3) := by decide +kernel
theorem dL_law_561 : decode bL_law 561 = .ok (.istore 5, 2) := by decide +kernel
theorem dL_law_563 : decode bL_law 563 = .ok (.aload_n 2, 1) := by decide +kernel
theorem dL_law_564 : decode bL_law 564 = .ok (.aload_n 0, 1) := by decide +kernel
theorem dL_law_565 : decode bL_law 565 = .ok (.iload 4, 2) := by decide +kernel
theorem dL_law_567 : decode bL_law 567 = .ok (.iconst 1, 1) := by decide +kernel
theorem dL_law_568 : decode bL_law 568 = .ok (.iadd, 1) := by decide +kernel
theorem dL_law_569 : decode bL_law 569 = .ok (.iaload, 1) := by decide +kernel
theorem dL_law_570 : decode bL_law 570 = .ok (.aload_n 0, 1) := by decide +kernel
theorem dL_law_571 : decode bL_law 571 = .ok (.iload 4, 2) := by decide +kernel
theorem dL_law_573 : decode bL_law 573 = .ok (.iconst 2, 1) := by decide +kernel
theorem dL_law_574 : decode bL_law 574 = .ok (.iadd, 1) := by decide +kernel
theorem dL_law_575 : decode bL_law 575 = .ok (.iaload, 1) := by decide +kernel
theorem dL_law_576 : decode bL_law 576 = .ok (.aload_n 0, 1) := by decide +kernel
theorem dL_law_577 : decode bL_law 577 = .ok (.iload 4, 2) := by decide +kernel
theorem dL_law_579 : decode bL_law 579 = .ok (.iconst 3, 1) := by decide +kernel
theorem dL_law_580 : decode bL_law 580 = .ok (.iadd, 1) := by decide +kernel
theorem dL_law_581 : decode bL_law 581 = .ok (.iaload, 1) := by decide +kernel
theorem dL_law_582 : decode bL_law 582 = .ok (.aload_n 0, 1) := by decide +kernel
theorem dL_law_583 : decode bL_law 583 = .ok (.iload 4, 2) := by decide +kernel
theorem dL_law_585 : decode bL_law 585 = .ok (.iconst 4, 1) := by decide +kernel
theorem dL_law_586 : decode bL_law 586 = .ok (.iadd, 1) := by decide +kernel
theorem dL_law_587 : decode bL_law 587 = .ok (.iaload, 1) := by decide +kernel
theorem dL_law_588 : decode bL_law 588 = .ok (.invokevirtual 90, 3) := by decide +kernel
theorem dL_law_591 : decode bL_law 591 = .ok (.istore 6, 2) := by decide +kernel
theorem dL_law_593 : decode bL_law 593 = .ok (.aload_n 2, 1) := by decide +kernel
theorem dL_law_594 : decode bL_law 594 = .ok (.invokevirtual 67, 3) := by decide +kernel
theorem dL_law_597 : decode bL_law 597 = .ok (.iload 5, 2) := by decide +kernel
theorem dL_law_599 : decode bL_law 599 = .ok (.if_icmp .eq 5, 3) := by decide +kernel
theorem dL_law_602 : decode bL_law 602 = .ok (.iconst 0, 1) := by decide +kernel
theorem dL_law_603 : decode bL_law 603 = .ok (.ireturn, 1) := by decide +kernel
theorem dL_law_604 : decode bL_law 604 = .ok (.iload 5, 2) := by decide +kernel
theorem dL_law_606 : decode bL_law 606 = .ok (.ifCond .ne 15, 3) := by decide +kernel
theorem dL_law_609 : decode bL_law 609 = .ok (.aload_n 3, 1) := by decide +kernel
theorem dL_law_610 : decode bL_law 610 = .ok (.iconst 0, 1) := by decide +kernel
theorem dL_law_611 : decode bL_law 611 = .ok (.laload, 1) := by decide +kernel
theorem dL_law_612 : decode bL_law 612 = .ok (.iload 6, 2) := by decide +kernel
theorem dL_law_614 : decode bL_law 614 = .ok (.i2l, 1) := by decide +kernel
theorem dL_law_615 : decode bL_law 615 = .ok (.lcmp, 1) := by decide +kernel
theorem dL_law_616 : decode bL_law 616 = .ok (.ifCond .eq 5, 3) := by decide +kernel
theorem dL_law_619 : decode bL_law 619 = .ok (.iconst 0, 1) := by decide +kernel
theorem dL_law_620 : decode bL_law 620 = .ok (.ireturn, 1) := by decide +kernel
theorem dL_law_621 : decode bL_law 621 = .ok (.goto 304, 3) := by decide +kernel
theorem dL_law_624 : decode bL_law 624 = .ok (.aload_n 1, 1) := by decide +kernel
theorem dL_law_625 : decode bL_law 625 = .ok (.aload_n 3, 1) := by decide +kernel
theorem dL_law_626 : decode bL_law 626 = .ok (.invokestatic 91, 3) := by decide +kernel
theorem dL_law_629 : decode bL_law 629 = .ok (.istore 5, 2) := by decide +kernel
theorem dL_law_631 : decode bL_law 631 = .ok (.aload_n 2, 1) := by decide +kernel
theorem dL_law_632 : decode bL_law 632 = .ok (.invokevirtual 94, 3) := by decide +kernel
theorem dL_law_635 : decode bL_law 635 = .ok (.istore 6, 2) := by decide +kernel
theorem dL_law_637 : decode bL_law 637 = .ok (.aload_n 2, 1) := by decide +kernel
theorem dL_law_638 : decode bL_law 638 = .ok (.invokevirtual 67, 3) := by decide +kernel
theorem dL_law_641 : decode bL_law 641 = .ok (.iload 5, 2) := by decide +kernel
theorem dL_law_643 : decode bL_law 643 = .ok (.if_icmp .eq 5, 3) := by decide +kernel
theorem dL_law_646 : decode bL_law 646 = .ok (.iconst 0, 1) := by decide +kernel
theorem dL_law_647 : decode bL_law 647 = .ok (.ireturn, 1) := by decide +kernel
theorem dL_law_648 : decode bL_law 648 = .ok (.iload 5, 2) := by decide +kernel
theorem dL_law_650 : decode bL_law 650 = .ok (.ifCond .ne 15, 3) := by decide +kernel
theorem dL_law_653 : decode bL_law 653 = .ok (.aload_n 3, 1) := by decide +kernel
theorem dL_law_654 : decode bL_law 654 = .ok (.iconst 0, 1) := by decide +kernel
theorem dL_law_655 : decode bL_law 655 = .ok (.laload, 1) := by decide +kernel
theorem dL_law_656 : decode bL_law 656 = .ok (.iload 6, 2) := by decide +kernel
theorem dL_law_658 : decode bL_law 658 = .ok (.i2l, 1) := by decide +kernel
theorem dL_law_659 : decode bL_law 659 = .ok (.lcmp, 1) := by decide +kernel
theorem dL_law_660 : decode bL_law 660 = .ok (.ifCond .eq 5, 3) := by decide +kernel
theorem dL_law_663 : decode bL_law 663 = .ok (.iconst 0, 1) := by decide +kernel
theorem dL_law_664 : decode bL_law 664 = .ok (.ireturn, 1) := by decide +kernel
theorem dL_law_665 : decode bL_law 665 = .ok (.goto 260, 3) := by decide +kernel
theorem dL_law_668 : decode bL_law 668 = .ok (.aload_n 1, 1) := by decide +kernel
theorem dL_law_669 : decode bL_law 669 = .ok (.aload_n 3, 1) := by decide +kernel
theorem dL_law_670 : decode bL_law 670 = .ok (.invokestatic 95, 3) := by decide +kernel
theorem dL_law_673 : decode bL_law 673 = .ok (.istore 5, 2) := by decide +kernel
theorem dL_law_675 : decode bL_law 675 = .ok (.aload_n 2, 1) := by decide +kernel
theorem dL_law_676 : decode bL_law 676 = .ok (.invokevirtual 97, 3) := by decide +kernel
theorem dL_law_679 : decode bL_law 679 = .ok (.istore 6, 2) := by decide +kernel
theorem dL_law_681 : decode bL_law 681 = .ok (.aload_n 2, 1) := by decide +kernel
theorem dL_law_682 : decode bL_law 682 = .ok (.invokevirtual 67, 3) := by decide +kernel
theorem dL_law_685 : decode bL_law 685 = .ok (.iload 5, 2) := by decide +kernel
theorem dL_law_687 : decode bL_law 687 = .ok (.if_icmp .eq 5, 3) := by decide +kernel
theorem dL_law_690 : decode bL_law 690 = .ok (.iconst 0, 1) := by decide +kernel
theorem dL_law_691 : decode bL_law 691 = .ok (.ireturn, 1) := by decide +kernel
theorem dL_law_692 : decode bL_law 692 = .ok (.iload 5, 2) := by decide +kernel
theorem dL_law_694 : decode bL_law 694 = .ok (.ifCond .ne 15, 3) := by decide +kernel
theorem dL_law_697 : decode bL_law 697 = .ok (.aload_n 3, 1) := by decide +kernel
theorem dL_law_698 : decode bL_law 698 = .ok (.iconst 0, 1) := by decide +kernel
theorem dL_law_699 : decode bL_law 699 = .ok (.laload, 1) := by decide +kernel
theorem dL_law_700 : decode bL_law 700 = .ok (.iload 6, 2) := by decide +kernel
theorem dL_law_702 : decode bL_law 702 = .ok (.i2l, 1) := by decide +kernel
theorem dL_law_703 : decode bL_law 703 = .ok (.lcmp, 1) := by decide +kernel
theorem dL_law_704 : decode bL_law 704 = .ok (.ifCond .eq 5, 3) := by decide +kernel
theorem dL_law_707 : decode bL_law 707 = .ok (.iconst 0, 1) := by decide +kernel
theorem dL_law_708 : decode bL_law 708 = .ok (.ireturn, 1) := by decide +kernel
theorem dL_law_709 : decode bL_law 709 = .ok (.goto 216, 3) := by decide +kernel
theorem dL_law_712 : decode bL_law 712 = .ok (.aload_n 1, 1) := by decide +kernel
theorem dL_law_713 : decode bL_law 713 = .ok (.aload_n 0, 1) := by decide +kernel
theorem dL_law_714 : decode bL_law 714 = .ok (.iload 4, 2) := by decide +kernel
theorem dL_law_716 : decode bL_law 716 = .ok (.iconst 1, 1) := by decide +kernel
theorem dL_law_717 : decode bL_law 717 = .ok (.iadd, 1) := by decide +kernel
theorem dL_law_718 : decode bL_law 718 = .ok (.iaload, 1) := by decide +kernel
theorem dL_law_719 : decode bL_law 719 = .ok (.aload_n 0, 1) := by decide +kernel
theorem dL_law_720 : decode bL_law 720 = .ok (.iload 4, 2) := by decide +kernel
theorem dL_law_722 : decode bL_law 722 = .ok (.iconst 2, 1) := by decide +kernel
theorem dL_law_723 : decode bL_law 723 = .ok (.iadd, 1) := by decide +kernel
theorem dL_law_724 : decode bL_law 724 = .ok (.iaload, 1) := by decide +kernel
theorem dL_law_725 : decode bL_law 725 = .ok (.aload_n 0, 1) := by decide +kernel
theorem dL_law_726 : decode bL_law 726 = .ok (.iload 4, 2) := by decide +kernel
theorem dL_law_728 : decode bL_law 728 = .ok (.iconst 3, 1) := by decide +kernel
theorem dL_law_729 : decode bL_law 729 = .ok (.iadd, 1) := by decide +kernel
theorem dL_law_730 : decode bL_law 730 = .ok (.iaload, 1) := by decide +kernel
theorem dL_law_731 : decode bL_law 731 = .ok (.aload_n 3, 1) := by decide +kernel
theorem dL_law_732 : decode bL_law 732 = .ok (.invokestatic 98, 3) := by decide +kernel
theorem dL_law_735 : decode bL_law 735 = .ok (.istore 5, 2) := by decide +kernel
theorem dL_law_737 : decode bL_law 737 = .ok (.aload_n 2, 1) := by decide +kernel
theorem dL_law_738 : decode bL_law 738 = .ok (.aload_n 0, 1) := by decide +kernel
theorem dL_law_739 : decode bL_law 739 = .ok (.iload 4, 2) := by decide +kernel
theorem dL_law_741 : decode bL_law 741 = .ok (.iconst 1, 1) := by decide +kernel
theorem dL_law_742 : decode bL_law 742 = .ok (.iadd, 1) := by decide +kernel
theorem dL_law_743 : decode bL_law 743 = .ok (.iaload, 1) := by decide +kernel
theorem dL_law_744 : decode bL_law 744 = .ok (.aload_n 0, 1) := by decide +kernel
theorem dL_law_745 : decode bL_law 745 = .ok (.iload 4, 2) := by decide +kernel
theorem dL_law_747 : decode bL_law 747 = .ok (.iconst 2, 1) := by decide +kernel
theorem dL_law_748 : decode bL_law 748 = .ok (.iadd, 1) := by decide +kernel
theorem dL_law_749 : decode bL_law 749 = .ok (.iaload, 1) := by decide +kernel
theorem dL_law_750 : decode bL_law 750 = .ok (.aload_n 0, 1) := by decide +kernel
theorem dL_law_751 : decode bL_law 751 = .ok (.iload 4, 2) := by decide +kernel
theorem dL_law_753 : decode bL_law 753 = .ok (.iconst 3, 1) := by decide +kernel
theorem dL_law_754 : decode bL_law 754 = .ok (.iadd, 1) := by decide +kernel
theorem dL_law_755 : decode bL_law 755 = .ok (.iaload, 1) := by decide +kernel
theorem dL_law_756 : decode bL_law 756 = .ok (.invokevirtual 100, 3) := by decide +kernel
theorem dL_law_759 : decode bL_law 759 = .ok (.istore 6, 2) := by decide +kernel
theorem dL_law_761 : decode bL_law 761 = .ok (.aload_n 2, 1) := by decide +kernel
theorem dL_law_762 : decode bL_law 762 = .ok (.invokevirtual 67, 3) := by decide +kernel
theorem dL_law_765 : decode bL_law 765 = .ok (.iload 5, 2) := by decide +kernel
theorem dL_law_767 : decode bL_law 767 = .ok (.if_icmp .eq 5, 3) := by decide +kernel
theorem dL_law_770 : decode bL_law 770 = .ok (.iconst 0, 1) := by decide +kernel
theorem dL_law_771 : decode bL_law 771 = .ok (.ireturn, 1) := by decide +kernel
theorem dL_law_772 : decode bL_law 772 = .ok (.iload 5, 2) := by decide +kernel
theorem dL_law_774 : decode bL_law 774 = .ok (.ifCond .ne 15, 3) := by decide +kernel
theorem dL_law_777 : decode bL_law 777 = .ok (.aload_n 3, 1) := by decide +kernel
theorem dL_law_778 : decode bL_law 778 = .ok (.iconst 0, 1) := by decide +kernel
theorem dL_law_779 : decode bL_law 779 = .ok (.laload, 1) := by decide +kernel
theorem dL_law_780 : decode bL_law 780 = .ok (.iload 6, 2) := by decide +kernel
theorem dL_law_782 : decode bL_law 782 = .ok (.i2l, 1) := by decide +kernel
theorem dL_law_783 : decode bL_law 783 = .ok (.lcmp, 1) := by decide +kernel
theorem dL_law_784 : decode bL_law 784 = .ok (.ifCond .eq 5, 3) := by decide +kernel
theorem dL_law_787 : decode bL_law 787 = .ok (.iconst 0, 1) := by decide +kernel
theorem dL_law_788 : decode bL_law 788 = .ok (.ireturn, 1) := by decide +kernel
theorem dL_law_789 : decode bL_law 789 = .ok (.goto 136, 3) := by decide +kernel
theorem dL_law_792 : decode bL_law 792 = .ok (.aload_n 1, 1) := by decide +kernel
theorem dL_law_793 : decode bL_law 793 = .ok (.aload_n 3, 1) := by decide +kernel
theorem dL_law_794 : decode bL_law 794 = .ok (.invokestatic 101, 3) := by decide +kernel
theorem dL_law_797 : decode bL_law 797 = .ok (.istore 5, 2) := by decide +kernel
theorem dL_law_799 : decode bL_law 799 = .ok (.aload_n 2, 1) := by decide +kernel
theorem dL_law_800 : decode bL_law 800 = .ok (.invokevirtual 103, 3) := by decide +kernel
theorem dL_law_803 : decode bL_law 803 = .ok (.istore 6, 2) := by decide +kernel
theorem dL_law_805 : decode bL_law 805 = .ok (.aload_n 2, 1) := by decide +kernel
theorem dL_law_806 : decode bL_law 806 = .ok (.invokevirtual 67, 3) := by decide +kernel
theorem dL_law_809 : decode bL_law 809 = .ok (.iload 5, 2) := by decide +kernel
theorem dL_law_811 : decode bL_law 811 = .ok (.if_icmp .eq 5, 3) := by decide +kernel
theorem dL_law_814 : decode bL_law 814 = .ok (.iconst 0, 1) := by decide +kernel
theorem dL_law_815 : decode bL_law 815 = .ok (.ireturn, 1) := by decide +kernel
theorem dL_law_816 : decode bL_law 816 = .ok (.iload 5, 2) := by decide +kernel
theorem dL_law_818 : decode bL_law 818 = .ok (.ifCond .ne 15, 3) := by decide +kernel
theorem dL_law_821 : decode bL_law 821 = .ok (.aload_n 3, 1) := by decide +kernel
theorem dL_law_822 : decode bL_law 822 = .ok (.iconst 0, 1) := by decide +kernel
theorem dL_law_823 : decode bL_law 823 = .ok (.laload, 1) := by decide +kernel
theorem dL_law_824 : decode bL_law 824 = .ok (.iload 6, 2) := by decide +kernel
theorem dL_law_826 : decode bL_law 826 = .ok (.i2l, 1) := by decide +kernel
theorem dL_law_827 : decode bL_law 827 = .ok (.lcmp, 1) := by decide +kernel
theorem dL_law_828 : decode bL_law 828 = .ok (.ifCond .eq 5, 3) := by decide +kernel
theorem dL_law_831 : decode bL_law 831 = .ok (.iconst 0, 1) := by decide +kernel
theorem dL_law_832 : decode bL_law 832 = .ok (.ireturn, 1) := by decide +kernel
theorem dL_law_833 : decode bL_law 833 = .ok (.goto 92, 3) := by decide +kernel
theorem dL_law_836 : decode bL_law 836 = .ok (.aload_n 1, 1) := by decide +kernel
theorem dL_law_837 : decode bL_law 837 = .ok (.invokevirtual 104, 3) := by decide +kernel
theorem dL_law_840 : decode bL_law 840 = .ok (.aload_n 2, 1) := by decide +kernel
theorem dL_law_841 : decode bL_law 841 = .ok (.invokevirtual 107, 3) := by decide +kernel
theorem dL_law_844 : decode bL_law 844 = .ok (.if_icmp .eq 81, 3) := by decide +kernel
theorem dL_law_847 : decode bL_law 847 = .ok (.iconst 0, 1) := by decide +kernel
theorem dL_law_848 : decode bL_law 848 = .ok (.ireturn, 1) := by decide +kernel
theorem dL_law_849 : decode bL_law 849 = .ok (.aload_n 1, 1) := by decide +kernel
theorem dL_law_850 : decode bL_law 850 = .ok (.invokevirtual 108, 3) := by decide +kernel
theorem dL_law_853 : decode bL_law 853 = .ok (.aload_n 2, 1) := by decide +kernel
theorem dL_law_854 : decode bL_law 854 = .ok (.invokevirtual 112, 3) := by decide +kernel
theorem dL_law_857 : decode bL_law 857 = .ok (.lcmp, 1) := by decide +kernel
theorem dL_law_858 : decode bL_law 858 = .ok (.ifCond .eq 67, 3) := by decide +kernel
theorem dL_law_861 : decode bL_law 861 = .ok (.iconst 0, 1) := by decide +kernel
theorem dL_law_862 : decode bL_law 862 = .ok (.ireturn, 1) := by decide +kernel
theorem dL_law_863 : decode bL_law 863 = .ok (.aload_n 1, 1) := by decide +kernel
theorem dL_law_864 : decode bL_law 864 = .ok (.invokevirtual 113, 3) := by decide +kernel
theorem dL_law_867 : decode bL_law 867 = .ok (.aload_n 2, 1) := by decide +kernel
theorem dL_law_868 : decode bL_law 868 = .ok (.invokevirtual 116, 3) := by decide +kernel
theorem dL_law_871 : decode bL_law 871 = .ok (.if_icmp .eq 54, 3) := by decide +kernel
theorem dL_law_874 : decode bL_law 874 = .ok (.iconst 0, 1) := by decide +kernel
theorem dL_law_875 : decode bL_law 875 = .ok (.ireturn, 1) := by decide +kernel
theorem dL_law_876 : decode bL_law 876 = .ok (.aload_n 1, 1) := by decide +kernel
theorem dL_law_877 : decode bL_law 877 = .ok (.aload_n 0, 1) := by decide +kernel
theorem dL_law_878 : decode bL_law 878 = .ok (.iload 4, 2) := by decide +kernel
theorem dL_law_880 : decode bL_law 880 = .ok (.iconst 1, 1) := by decide +kernel
theorem dL_law_881 : decode bL_law 881 = .ok (.iadd, 1) := by decide +kernel
theorem dL_law_882 : decode bL_law 882 = .ok (.iaload, 1) := by decide +kernel
theorem dL_law_883 : decode bL_law 883 = .ok (.aload_n 0, 1) := by decide +kernel
theorem dL_law_884 : decode bL_law 884 = .ok (.iload 4, 2) := by decide +kernel
theorem dL_law_886 : decode bL_law 886 = .ok (.iconst 2, 1) := by decide +kernel
theorem dL_law_887 : decode bL_law 887 = .ok (.iadd, 1) := by decide +kernel
theorem dL_law_888 : decode bL_law 888 = .ok (.iaload, 1) := by decide +kernel
theorem dL_law_889 : decode bL_law 889 = .ok (.aload_n 0, 1) := by decide +kernel
theorem dL_law_890 : decode bL_law 890 = .ok (.iload 4, 2) := by decide +kernel
theorem dL_law_892 : decode bL_law 892 = .ok (.iconst 3, 1) := by decide +kernel
theorem dL_law_893 : decode bL_law 893 = .ok (.iadd, 1) := by decide +kernel
theorem dL_law_894 : decode bL_law 894 = .ok (.iaload, 1) := by decide +kernel
theorem dL_law_895 : decode bL_law 895 = .ok (.invokevirtual 117, 3) := by decide +kernel
theorem dL_law_898 : decode bL_law 898 = .ok (.aload_n 2, 1) := by decide +kernel
theorem dL_law_899 : decode bL_law 899 = .ok (.aload_n 0, 1) := by decide +kernel
theorem dL_law_900 : decode bL_law 900 = .ok (.iload 4, 2) := by decide +kernel
theorem dL_law_902 : decode bL_law 902 = .ok (.iconst 1, 1) := by decide +kernel
theorem dL_law_903 : decode bL_law 903 = .ok (.iadd, 1) := by decide +kernel
theorem dL_law_904 : decode bL_law 904 = .ok (.iaload, 1) := by decide +kernel
theorem dL_law_905 : decode bL_law 905 = .ok (.aload_n 0, 1) := by decide +kernel
theorem dL_law_906 : decode bL_law 906 = .ok (.iload 4, 2) := by decide +kernel
theorem dL_law_908 : decode bL_law 908 = .ok (.iconst 2, 1) := by decide +kernel
theorem dL_law_909 : decode bL_law 909 = .ok (.iadd, 1) := by decide +kernel
theorem dL_law_910 : decode bL_law 910 = .ok (.iaload, 1) := by decide +kernel
theorem dL_law_911 : decode bL_law 911 = .ok (.aload_n 0, 1) := by decide +kernel
theorem dL_law_912 : decode bL_law 912 = .ok (.iload 4, 2) := by decide +kernel
theorem dL_law_914 : decode bL_law 914 = .ok (.iconst 3, 1) := by decide +kernel
theorem dL_law_915 : decode bL_law 915 = .ok (.iadd, 1) := by decide +kernel
theorem dL_law_916 : decode bL_law 916 = .ok (.iaload, 1) := by decide +kernel
theorem dL_law_917 : decode bL_law 917 = .ok (.invokevirtual 121, 3) := by decide +kernel
theorem dL_law_920 : decode bL_law 920 = .ok (.if_icmp .eq 5, 3) := by decide +kernel
theorem dL_law_923 : decode bL_law 923 = .ok (.iconst 0, 1) := by decide +kernel
theorem dL_law_924 : decode bL_law 924 = .ok (.ireturn, 1) := by decide +kernel
theorem dL_law_925 : decode bL_law 925 = .ok (.iinc 4 5, 3) := by decide +kernel
theorem dL_law_928 : decode bL_law 928 = .ok (.goto (-905), 3) := by decide +kernel
theorem dL_law_931 : decode bL_law 931 = .ok (.iconst 1, 1) := by decide +kernel
theorem dL_law_932 : decode bL_law 932 = .ok (.ireturn, 1) := by decide +kernel
end
section
theorem tl_49 : Jvm.Cond.methodLink "AsOfLedger" 3 Lib.objectInit ∈ Tw := Tw_in (List.mem_of_getElem? (i := 49) (by decide +kernel)) (by decide +kernel)
theorem tl_50 : Jvm.Cond.instanceMethod Lib.objectInit ∈ Tw := Tw_in (List.mem_of_getElem? (i := 50) (by decide +kernel)) (by decide +kernel)
theorem tl_51 : Jvm.Cond.code Lib.objectInit ⟨#[0xb1]⟩ 1 none ∈ Tw := Tw_in (List.mem_of_getElem? (i := 51) (by decide +kernel)) (by decide +kernel)
theorem tl_86 : Jvm.Cond.arrayClass .int ∈ Tw := Tw_in (List.mem_of_getElem? (i := 86) (by decide +kernel)) (by decide +kernel)
theorem tl_87 : Jvm.Cond.arrayClass .long ∈ Tw := Tw_in (List.mem_of_getElem? (i := 87) (by decide +kernel)) (by decide +kernel)
theorem tl_419 : Jvm.Cond.methodLink "AsOfLedgerModel" 1 Lib.objectInit ∈ Tw := Tw_in (List.mem_of_getElem? (i := 419) (by decide +kernel)) (by decide +kernel)
abbrev aNX (dC : Nat → ClassId) (dI : Nat → Nat → Nat) (A : Nat → Prop) (h0 : Nat) (_ : Unit) (t : State) : Prop := ∃ (q1 q2 q3 q4 : Nat) (c1 c2 c3 c4 : ClassId), va_P (dC, dI) vwCl [(h0, .inr (0, [.ref q1, .ref q2, .ref q3, .int 0, .int 0, .int 0, .ref q4, .int 0, .int 0, .int 0, .int (-1)])), (q1, .inl (c1, 384, .inl (fun _ => 0))), (q2, .inl (c2, 64, .inr (.inl (fun _ => 0)))), (q3, .inl (c3, 64, .inl (fun _ => 0))), (q4, .inl (c4, 64, .inl (fun _ => 0)))] t.heap ∧ va_K (dC, dI) vwCl [(c1, .int), (c2, .long), (c3, .int), (c4, .int)] t ∧ va_D A [(h0, .inr (0, [.ref q1, .ref q2, .ref q3, .int 0, .int 0, .int 0, .ref q4, .int 0, .int 0, .int 0, .int (-1)])), (q1, .inl (c1, 384, .inl (fun _ => 0))), (q2, .inl (c2, 64, .inr (.inl (fun _ => 0)))), (q3, .inl (c3, 64, .inl (fun _ => 0))), (q4, .inl (c4, 64, .inl (fun _ => 0)))]
set_option maxRecDepth 100000 in
set_option maxHeartbeats 4000000 in
theorem cn_X (l : Launch) (dC : Nat → ClassId) (dI : Nat → Nat → Nat) (h0 sz : Nat) : Met l yX_init (Jvm.Cond.code yX_init bX_init 1 none :: Tw) ({ frames := 2, cells := 4, slots := 576, locals := 40 } : Room) (va_Pc [.ref h0] (fun U => U.heap.size = sz ∧ va_P (dC, dI) vwCl [(h0, .inr (0, [.null, .null, .null, .int 0, .int 0, .int 0, .null, .int 0, .int 0, .int 0, .int 0]))] U.heap ∧ va_K (dC, dI) vwCl [] U ∧ va_D (fun _ => True) [(h0, .inr (0, [.null, .null, .null, .int 0, .int 0, .int 0, .null, .int 0, .int 0, .int 0, .int 0]))])) (va_Qv (fun _ : Unit => True) (aNX dC dI (va_A [(h0, .inr (0, [.null, .null, .null, .int 0, .int 0, .int 0, .null, .int 0, .int 0, .int 0, .int 0]))] sz) h0) (va_A [(h0, .inr (0, [.null, .null, .null, .int 0, .int 0, .int 0, .null, .int 0, .int 0, .int 0, .int 0]))] sz)) 4 576 (va_A [(h0, .inr (0, [.null, .null, .null, .int 0, .int 0, .int 0, .null, .int 0, .int 0, .int 0, .int 0]))] sz) := by
  refine Met.ofW (cc := bX_init) (maxL := 1) (ret := none) (by decide) rfl ?_
  intro p e s m args below meth c s₁ B hml hv
  obtain ⟨rfl, hsz, hP, hK, hD0⟩ := hv
  have hx := B.exec
  have hb := B.bytes
  have hr := B.returns
  have hts0 := atoms_spec (ws := Jvm.Cond.code yX_init bX_init 1 none :: Tw) B.pre
  have hts : ∀ w ∈ Tw, w.before _ s = true := fun w h => hts0 w (List.mem_cons_of_mem _ h)
  have hown : s.vm.findClass "AsOfLedger" = some m.cls := findClass_of_methodNamed B.named
  have hlocks := B.notSynchronized
  have hin : meth.name = "<init>" := (name_of_methodNamed B.named B.method).1
  subst hsz
  have hD := hD0.self (sz := s.heap.size)
  generalize hAe : va_A [(h0, .inr (0, [.null, .null, .null, .int 0, .int 0, .int 0, .null, .int 0, .int 0, .int 0, .int 0]))] s.heap.size = A at hD ⊢
  have hA : ∀ q : Nat, s.heap.size ≤ q → A q := fun q h => by rw [← hAe]; exact Or.inr h
  have hS : va_S A s.heap s.heap [] := va_S.rf
  have hP : va_P (dC, dI) vwCl [(h0, .inr (0, [.null, .null, .null, .int 0, .int 0, .int 0, .null, .int 0, .int 0, .int 0, .int 0]))] s.heap := hP
  have hl := lv_entry ([.ref h0]) (n := 1) (Nat.le_of_ble_eq_true rfl)
  rw [lg_entry_eq]
  generalize (lg_sl ([.ref h0]) ++ List.replicate (1 - (lg_sl ([.ref h0])).length) Slot.unset).toArray = ls at hl ⊢
  have hl : lv_has ls 1 [(0, .ref h0)] := hl
  refine lv_aload_n hx hb dX_init_0 rfl (lv_at hl 0 rfl) ?_
  refine W.objInit hx hb hown (hts _ tl_49) (hts _ tl_50) (hts _ tl_51) rfl (by rw [hml]; exact hl.1) rfl dX_init_1 (Nat.le_of_ble_eq_true rfl) (Nat.le_of_ble_eq_true rfl) ?_
  refine W.eq (g2 := F0 m 4 ls []) rfl ?_
  refine lv_aload_n hx hb dX_init_4 rfl (lv_at hl 0 rfl) ?_
  refine lv_sipush (v := 384) hx hb dX_init_5 (by decide) ?_
  refine va_newa (atype := .int) (ty := .int) (N' := 384) (a0 := (384, .inl (fun _ => 0))) hx hb (hts _ tl_86) rfl hK hP hD hS hA (fun cA => rfl) (by decide) (by decide) (by decide) (Nat.le_of_ble_eq_true rfl) (Nat.le_of_ble_eq_true rfl) dX_init_8 (fun q1 c1 H hK hP hD hS => ?_)
  have hP : va_P (dC, dI) vwCl [(h0, .inr (0, [.null, .null, .null, .int 0, .int 0, .int 0, .null, .int 0, .int 0, .int 0, .int 0])), (q1, .inl (c1, 384, .inl (fun _ => 0)))] H := hP
  have hD : va_D A [(h0, .inr (0, [.null, .null, .null, .int 0, .int 0, .int 0, .null, .int 0, .int 0, .int 0, .int 0])), (q1, .inl (c1, 384, .inl (fun _ => 0)))] := hD
  have hK : va_K (dC, dI) vwCl [(c1, .int)] s := hK
  refine va_putF (D := (dC, dI)) (ci := 0) (v := .ref q1) (ty := (.array .int)) (C := "AsOfLedger") (T := TX) (N := 11) hx hb hts wsX tX tX_ok nX_ok hown hK hP hD hS 0 rfl rfl 0 (by decide) (hts _ tw_52) (fun _ h9 => h9) rfl hin rfl (by decide +kernel) rfl rfl (Nat.le_of_ble_eq_true rfl) dX_init_10 (fun H locs hP hD hS => ?_)
  have hP : va_P (dC, dI) vwCl [(h0, .inr (0, [.ref q1, .null, .null, .int 0, .int 0, .int 0, .null, .int 0, .int 0, .int 0, .int 0])), (q1, .inl (c1, 384, .inl (fun _ => 0)))] H := hP
  have hD : va_D A [(h0, .inr (0, [.ref q1, .null, .null, .int 0, .int 0, .int 0, .null, .int 0, .int 0, .int 0, .int 0])), (q1, .inl (c1, 384, .inl (fun _ => 0)))] := hD
  refine lv_aload_n hx hb dX_init_13 rfl (lv_at hl 0 rfl) ?_
  refine lv_bipush (v := 64) hx hb dX_init_14 (by decide) ?_
  refine va_newa (atype := .long) (ty := .long) (N' := 64) (a0 := (64, .inr (.inl (fun _ => 0)))) hx hb (hts _ tl_87) rfl hK hP hD hS hA (fun cA => rfl) (by decide) (by decide) (by decide) (Nat.le_of_ble_eq_true rfl) (Nat.le_of_ble_eq_true rfl) dX_init_16 (fun q2 c2 H hK hP hD hS => ?_)
  have hP : va_P (dC, dI) vwCl [(h0, .inr (0, [.ref q1, .null, .null, .int 0, .int 0, .int 0, .null, .int 0, .int 0, .int 0, .int 0])), (q1, .inl (c1, 384, .inl (fun _ => 0))), (q2, .inl (c2, 64, .inr (.inl (fun _ => 0))))] H := hP
  have hD : va_D A [(h0, .inr (0, [.ref q1, .null, .null, .int 0, .int 0, .int 0, .null, .int 0, .int 0, .int 0, .int 0])), (q1, .inl (c1, 384, .inl (fun _ => 0))), (q2, .inl (c2, 64, .inr (.inl (fun _ => 0))))] := hD
  have hK : va_K (dC, dI) vwCl [(c1, .int), (c2, .long)] s := hK
  refine va_putF (D := (dC, dI)) (ci := 0) (v := .ref q2) (ty := (.array .long)) (C := "AsOfLedger") (T := TX) (N := 11) hx hb hts wsX tX tX_ok nX_ok hown hK hP hD hS 0 rfl rfl 1 (by decide) (hts _ tw_53) (fun _ h9 => h9) rfl hin rfl (by decide +kernel) rfl rfl (Nat.le_of_ble_eq_true rfl) dX_init_18 (fun H locs hP hD hS => ?_)
  have hP : va_P (dC, dI) vwCl [(h0, .inr (0, [.ref q1, .ref q2, .null, .int 0, .int 0, .int 0, .null, .int 0, .int 0, .int 0, .int 0])), (q1, .inl (c1, 384, .inl (fun _ => 0))), (q2, .inl (c2, 64, .inr (.inl (fun _ => 0))))] H := hP
  have hD : va_D A [(h0, .inr (0, [.ref q1, .ref q2, .null, .int 0, .int 0, .int 0, .null, .int 0, .int 0, .int 0, .int 0])), (q1, .inl (c1, 384, .inl (fun _ => 0))), (q2, .inl (c2, 64, .inr (.inl (fun _ => 0))))] := hD
  refine lv_aload_n hx hb dX_init_21 rfl (lv_at hl 0 rfl) ?_
  refine lv_bipush (v := 64) hx hb dX_init_22 (by decide) ?_
  refine va_newa (atype := .int) (ty := .int) (N' := 64) (a0 := (64, .inl (fun _ => 0))) hx hb (hts _ tl_86) rfl hK hP hD hS hA (fun cA => rfl) (by decide) (by decide) (by decide) (Nat.le_of_ble_eq_true rfl) (Nat.le_of_ble_eq_true rfl) dX_init_24 (fun q3 c3 H hK hP hD hS => ?_)
  have hP : va_P (dC, dI) vwCl [(h0, .inr (0, [.ref q1, .ref q2, .null, .int 0, .int 0, .int 0, .null, .int 0, .int 0, .int 0, .int 0])), (q1, .inl (c1, 384, .inl (fun _ => 0))), (q2, .inl (c2, 64, .inr (.inl (fun _ => 0)))), (q3, .inl (c3, 64, .inl (fun _ => 0)))] H := hP
  have hD : va_D A [(h0, .inr (0, [.ref q1, .ref q2, .null, .int 0, .int 0, .int 0, .null, .int 0, .int 0, .int 0, .int 0])), (q1, .inl (c1, 384, .inl (fun _ => 0))), (q2, .inl (c2, 64, .inr (.inl (fun _ => 0)))), (q3, .inl (c3, 64, .inl (fun _ => 0)))] := hD
  have hK : va_K (dC, dI) vwCl [(c1, .int), (c2, .long), (c3, .int)] s := hK
  refine va_putF (D := (dC, dI)) (ci := 0) (v := .ref q3) (ty := (.array .int)) (C := "AsOfLedger") (T := TX) (N := 11) hx hb hts wsX tX tX_ok nX_ok hown hK hP hD hS 0 rfl rfl 2 (by decide) (hts _ tw_54) (fun _ h9 => h9) rfl hin rfl (by decide +kernel) rfl rfl (Nat.le_of_ble_eq_true rfl) dX_init_26 (fun H locs hP hD hS => ?_)
  have hP : va_P (dC, dI) vwCl [(h0, .inr (0, [.ref q1, .ref q2, .ref q3, .int 0, .int 0, .int 0, .null, .int 0, .int 0, .int 0, .int 0])), (q1, .inl (c1, 384, .inl (fun _ => 0))), (q2, .inl (c2, 64, .inr (.inl (fun _ => 0)))), (q3, .inl (c3, 64, .inl (fun _ => 0)))] H := hP
  have hD : va_D A [(h0, .inr (0, [.ref q1, .ref q2, .ref q3, .int 0, .int 0, .int 0, .null, .int 0, .int 0, .int 0, .int 0])), (q1, .inl (c1, 384, .inl (fun _ => 0))), (q2, .inl (c2, 64, .inr (.inl (fun _ => 0)))), (q3, .inl (c3, 64, .inl (fun _ => 0)))] := hD
  refine lv_aload_n hx hb dX_init_29 rfl (lv_at hl 0 rfl) ?_
  refine lv_bipush (v := 64) hx hb dX_init_30 (by decide) ?_
  refine va_newa (atype := .int) (ty := .int) (N' := 64) (a0 := (64, .inl (fun _ => 0))) hx hb (hts _ tl_86) rfl hK hP hD hS hA (fun cA => rfl) (by decide) (by decide) (by decide) (Nat.le_of_ble_eq_true rfl) (Nat.le_of_ble_eq_true rfl) dX_init_32 (fun q4 c4 H hK hP hD hS => ?_)
  have hP : va_P (dC, dI) vwCl [(h0, .inr (0, [.ref q1, .ref q2, .ref q3, .int 0, .int 0, .int 0, .null, .int 0, .int 0, .int 0, .int 0])), (q1, .inl (c1, 384, .inl (fun _ => 0))), (q2, .inl (c2, 64, .inr (.inl (fun _ => 0)))), (q3, .inl (c3, 64, .inl (fun _ => 0))), (q4, .inl (c4, 64, .inl (fun _ => 0)))] H := hP
  have hD : va_D A [(h0, .inr (0, [.ref q1, .ref q2, .ref q3, .int 0, .int 0, .int 0, .null, .int 0, .int 0, .int 0, .int 0])), (q1, .inl (c1, 384, .inl (fun _ => 0))), (q2, .inl (c2, 64, .inr (.inl (fun _ => 0)))), (q3, .inl (c3, 64, .inl (fun _ => 0))), (q4, .inl (c4, 64, .inl (fun _ => 0)))] := hD
  have hK : va_K (dC, dI) vwCl [(c1, .int), (c2, .long), (c3, .int), (c4, .int)] s := hK
  refine va_putF (D := (dC, dI)) (ci := 0) (v := .ref q4) (ty := (.array .int)) (C := "AsOfLedger") (T := TX) (N := 11) hx hb hts wsX tX tX_ok nX_ok hown hK hP hD hS 0 rfl rfl 6 (by decide) (hts _ tw_58) (fun _ h9 => h9) rfl hin rfl (by decide +kernel) rfl rfl (Nat.le_of_ble_eq_true rfl) dX_init_34 (fun H locs hP hD hS => ?_)
  have hP : va_P (dC, dI) vwCl [(h0, .inr (0, [.ref q1, .ref q2, .ref q3, .int 0, .int 0, .int 0, .ref q4, .int 0, .int 0, .int 0, .int 0])), (q1, .inl (c1, 384, .inl (fun _ => 0))), (q2, .inl (c2, 64, .inr (.inl (fun _ => 0)))), (q3, .inl (c3, 64, .inl (fun _ => 0))), (q4, .inl (c4, 64, .inl (fun _ => 0)))] H := hP
  have hD : va_D A [(h0, .inr (0, [.ref q1, .ref q2, .ref q3, .int 0, .int 0, .int 0, .ref q4, .int 0, .int 0, .int 0, .int 0])), (q1, .inl (c1, 384, .inl (fun _ => 0))), (q2, .inl (c2, 64, .inr (.inl (fun _ => 0)))), (q3, .inl (c3, 64, .inl (fun _ => 0))), (q4, .inl (c4, 64, .inl (fun _ => 0)))] := hD
  refine lv_aload_n hx hb dX_init_37 rfl (lv_at hl 0 rfl) ?_
  refine lv_iconst (v := -1) hx hb dX_init_38 (by decide) ?_
  refine va_put (D := (dC, dI)) (ci := 0) (v := .int (-1)) (ty := .int) (C := "AsOfLedger") (T := TX) (N := 11) hx hb hts wsX tX tX_ok nX_ok hown hK hP hD hS 0 rfl rfl 10 (by decide) (hts _ tw_62) (fun _ h9 => h9) rfl (by decide +kernel) rfl rfl (Nat.le_of_ble_eq_true rfl) dX_init_39 (fun H locs hP hD hS => ?_)
  have hP : va_P (dC, dI) vwCl [(h0, .inr (0, [.ref q1, .ref q2, .ref q3, .int 0, .int 0, .int 0, .ref q4, .int 0, .int 0, .int 0, .int (-1)])), (q1, .inl (c1, 384, .inl (fun _ => 0))), (q2, .inl (c2, 64, .inr (.inl (fun _ => 0)))), (q3, .inl (c3, 64, .inl (fun _ => 0))), (q4, .inl (c4, 64, .inl (fun _ => 0)))] H := hP
  have hD : va_D A [(h0, .inr (0, [.ref q1, .ref q2, .ref q3, .int 0, .int 0, .int 0, .ref q4, .int 0, .int 0, .int 0, .int (-1)])), (q1, .inl (c1, 384, .inl (fun _ => 0))), (q2, .inl (c2, 64, .inr (.inl (fun _ => 0)))), (q3, .inl (c3, 64, .inl (fun _ => 0))), (q4, .inl (c4, 64, .inl (fun _ => 0)))] := hD
  refine W.widen (k := 4) (n := 576) (Nat.le_of_ble_eq_true rfl) (Nat.le_of_ble_eq_true rfl) ?_
  exact W.vret hx hb hr (fun t ht hW => ⟨⟨(), rfl, trivial, q1, q2, q3, q4, c1, c2, c3, c4, by rw [ht]; exact hP, va_K.moved hW.alike hK, hD⟩, hS.F ht⟩) hS.2.2 dX_init_42
abbrev aNM (dC : Nat → ClassId) (dI : Nat → Nat → Nat) (A : Nat → Prop) (h0 : Nat) (_ : Unit) (t : State) : Prop := ∃ (q1 q2 q3 q4 : Nat) (c1 c2 c3 c4 : ClassId), va_P (dC, dI) vwCl [(h0, .inr (1, [.int 0, .int 0, .int 0, .int 0, .ref q1, .ref q2, .int 0, .int 0, .int 0, .ref q3, .ref q4])), (q1, .inl (c1, 384, .inl (fun _ => 0))), (q2, .inl (c2, 64, .inr (.inl (fun _ => 0)))), (q3, .inl (c3, 64, .inl (fun _ => 0))), (q4, .inl (c4, 64, .inl (fun _ => 0)))] t.heap ∧ va_K (dC, dI) vwCl [(c1, .int), (c2, .long), (c3, .int), (c4, .int)] t ∧ va_D A [(h0, .inr (1, [.int 0, .int 0, .int 0, .int 0, .ref q1, .ref q2, .int 0, .int 0, .int 0, .ref q3, .ref q4])), (q1, .inl (c1, 384, .inl (fun _ => 0))), (q2, .inl (c2, 64, .inr (.inl (fun _ => 0)))), (q3, .inl (c3, 64, .inl (fun _ => 0))), (q4, .inl (c4, 64, .inl (fun _ => 0)))]
set_option maxRecDepth 100000 in
set_option maxHeartbeats 4000000 in
theorem cn_M (l : Launch) (dC : Nat → ClassId) (dI : Nat → Nat → Nat) (h0 sz : Nat) : Met l yM_init (Jvm.Cond.code yM_init bM_init 1 none :: Tw) ({ frames := 2, cells := 4, slots := 576, locals := 40 } : Room) (va_Pc [.ref h0] (fun U => U.heap.size = sz ∧ va_P (dC, dI) vwCl [(h0, .inr (1, [.int 0, .int 0, .int 0, .int 0, .null, .null, .int 0, .int 0, .int 0, .null, .null]))] U.heap ∧ va_K (dC, dI) vwCl [] U ∧ va_D (fun _ => True) [(h0, .inr (1, [.int 0, .int 0, .int 0, .int 0, .null, .null, .int 0, .int 0, .int 0, .null, .null]))])) (va_Qv (fun _ : Unit => True) (aNM dC dI (va_A [(h0, .inr (1, [.int 0, .int 0, .int 0, .int 0, .null, .null, .int 0, .int 0, .int 0, .null, .null]))] sz) h0) (va_A [(h0, .inr (1, [.int 0, .int 0, .int 0, .int 0, .null, .null, .int 0, .int 0, .int 0, .null, .null]))] sz)) 4 576 (va_A [(h0, .inr (1, [.int 0, .int 0, .int 0, .int 0, .null, .null, .int 0, .int 0, .int 0, .null, .null]))] sz) := by
  refine Met.ofW (cc := bM_init) (maxL := 1) (ret := none) (by decide) rfl ?_
  intro p e s m args below meth c s₁ B hml hv
  obtain ⟨rfl, hsz, hP, hK, hD0⟩ := hv
  have hx := B.exec
  have hb := B.bytes
  have hr := B.returns
  have hts0 := atoms_spec (ws := Jvm.Cond.code yM_init bM_init 1 none :: Tw) B.pre
  have hts : ∀ w ∈ Tw, w.before _ s = true := fun w h => hts0 w (List.mem_cons_of_mem _ h)
  have hown : s.vm.findClass "AsOfLedgerModel" = some m.cls := findClass_of_methodNamed B.named
  have hlocks := B.notSynchronized
  have hin : meth.name = "<init>" := (name_of_methodNamed B.named B.method).1
  subst hsz
  have hD := hD0.self (sz := s.heap.size)
  generalize hAe : va_A [(h0, .inr (1, [.int 0, .int 0, .int 0, .int 0, .null, .null, .int 0, .int 0, .int 0, .null, .null]))] s.heap.size = A at hD ⊢
  have hA : ∀ q : Nat, s.heap.size ≤ q → A q := fun q h => by rw [← hAe]; exact Or.inr h
  have hS : va_S A s.heap s.heap [] := va_S.rf
  have hP : va_P (dC, dI) vwCl [(h0, .inr (1, [.int 0, .int 0, .int 0, .int 0, .null, .null, .int 0, .int 0, .int 0, .null, .null]))] s.heap := hP
  have hl := lv_entry ([.ref h0]) (n := 1) (Nat.le_of_ble_eq_true rfl)
  rw [lg_entry_eq]
  generalize (lg_sl ([.ref h0]) ++ List.replicate (1 - (lg_sl ([.ref h0])).length) Slot.unset).toArray = ls at hl ⊢
  have hl : lv_has ls 1 [(0, .ref h0)] := hl
  refine lv_aload_n hx hb dM_init_0 rfl (lv_at hl 0 rfl) ?_
  refine W.objInit hx hb hown (hts _ tl_419) (hts _ tl_50) (hts _ tl_51) rfl (by rw [hml]; exact hl.1) rfl dM_init_1 (Nat.le_of_ble_eq_true rfl) (Nat.le_of_ble_eq_true rfl) ?_
  refine W.eq (g2 := F0 m 4 ls []) rfl ?_
  refine lv_aload_n hx hb dM_init_4 rfl (lv_at hl 0 rfl) ?_
  refine lv_sipush (v := 384) hx hb dM_init_5 (by decide) ?_
  refine va_newa (atype := .int) (ty := .int) (N' := 384) (a0 := (384, .inl (fun _ => 0))) hx hb (hts _ tl_86) rfl hK hP hD hS hA (fun cA => rfl) (by decide) (by decide) (by decide) (Nat.le_of_ble_eq_true rfl) (Nat.le_of_ble_eq_true rfl) dM_init_8 (fun q1 c1 H hK hP hD hS => ?_)
  have hP : va_P (dC, dI) vwCl [(h0, .inr (1, [.int 0, .int 0, .int 0, .int 0, .null, .null, .int 0, .int 0, .int 0, .null, .null])), (q1, .inl (c1, 384, .inl (fun _ => 0)))] H := hP
  have hD : va_D A [(h0, .inr (1, [.int 0, .int 0, .int 0, .int 0, .null, .null, .int 0, .int 0, .int 0, .null, .null])), (q1, .inl (c1, 384, .inl (fun _ => 0)))] := hD
  have hK : va_K (dC, dI) vwCl [(c1, .int)] s := hK
  refine va_putF (D := (dC, dI)) (ci := 1) (v := .ref q1) (ty := (.array .int)) (C := "AsOfLedgerModel") (T := TM) (N := 11) hx hb hts wsM tM tM_ok nM_ok hown hK hP hD hS 0 rfl rfl 4 (by decide) (hts _ tw_424) (fun _ h9 => h9) rfl hin rfl (by decide +kernel) rfl rfl (Nat.le_of_ble_eq_true rfl) dM_init_10 (fun H locs hP hD hS => ?_)
  have hP : va_P (dC, dI) vwCl [(h0, .inr (1, [.int 0, .int 0, .int 0, .int 0, .ref q1, .null, .int 0, .int 0, .int 0, .null, .null])), (q1, .inl (c1, 384, .inl (fun _ => 0)))] H := hP
  have hD : va_D A [(h0, .inr (1, [.int 0, .int 0, .int 0, .int 0, .ref q1, .null, .int 0, .int 0, .int 0, .null, .null])), (q1, .inl (c1, 384, .inl (fun _ => 0)))] := hD
  refine lv_aload_n hx hb dM_init_13 rfl (lv_at hl 0 rfl) ?_
  refine lv_bipush (v := 64) hx hb dM_init_14 (by decide) ?_
  refine va_newa (atype := .long) (ty := .long) (N' := 64) (a0 := (64, .inr (.inl (fun _ => 0)))) hx hb (hts _ tl_87) rfl hK hP hD hS hA (fun cA => rfl) (by decide) (by decide) (by decide) (Nat.le_of_ble_eq_true rfl) (Nat.le_of_ble_eq_true rfl) dM_init_16 (fun q2 c2 H hK hP hD hS => ?_)
  have hP : va_P (dC, dI) vwCl [(h0, .inr (1, [.int 0, .int 0, .int 0, .int 0, .ref q1, .null, .int 0, .int 0, .int 0, .null, .null])), (q1, .inl (c1, 384, .inl (fun _ => 0))), (q2, .inl (c2, 64, .inr (.inl (fun _ => 0))))] H := hP
  have hD : va_D A [(h0, .inr (1, [.int 0, .int 0, .int 0, .int 0, .ref q1, .null, .int 0, .int 0, .int 0, .null, .null])), (q1, .inl (c1, 384, .inl (fun _ => 0))), (q2, .inl (c2, 64, .inr (.inl (fun _ => 0))))] := hD
  have hK : va_K (dC, dI) vwCl [(c1, .int), (c2, .long)] s := hK
  refine va_putF (D := (dC, dI)) (ci := 1) (v := .ref q2) (ty := (.array .long)) (C := "AsOfLedgerModel") (T := TM) (N := 11) hx hb hts wsM tM tM_ok nM_ok hown hK hP hD hS 0 rfl rfl 5 (by decide) (hts _ tw_425) (fun _ h9 => h9) rfl hin rfl (by decide +kernel) rfl rfl (Nat.le_of_ble_eq_true rfl) dM_init_18 (fun H locs hP hD hS => ?_)
  have hP : va_P (dC, dI) vwCl [(h0, .inr (1, [.int 0, .int 0, .int 0, .int 0, .ref q1, .ref q2, .int 0, .int 0, .int 0, .null, .null])), (q1, .inl (c1, 384, .inl (fun _ => 0))), (q2, .inl (c2, 64, .inr (.inl (fun _ => 0))))] H := hP
  have hD : va_D A [(h0, .inr (1, [.int 0, .int 0, .int 0, .int 0, .ref q1, .ref q2, .int 0, .int 0, .int 0, .null, .null])), (q1, .inl (c1, 384, .inl (fun _ => 0))), (q2, .inl (c2, 64, .inr (.inl (fun _ => 0))))] := hD
  refine lv_aload_n hx hb dM_init_21 rfl (lv_at hl 0 rfl) ?_
  refine lv_bipush (v := 64) hx hb dM_init_22 (by decide) ?_
  refine va_newa (atype := .int) (ty := .int) (N' := 64) (a0 := (64, .inl (fun _ => 0))) hx hb (hts _ tl_86) rfl hK hP hD hS hA (fun cA => rfl) (by decide) (by decide) (by decide) (Nat.le_of_ble_eq_true rfl) (Nat.le_of_ble_eq_true rfl) dM_init_24 (fun q3 c3 H hK hP hD hS => ?_)
  have hP : va_P (dC, dI) vwCl [(h0, .inr (1, [.int 0, .int 0, .int 0, .int 0, .ref q1, .ref q2, .int 0, .int 0, .int 0, .null, .null])), (q1, .inl (c1, 384, .inl (fun _ => 0))), (q2, .inl (c2, 64, .inr (.inl (fun _ => 0)))), (q3, .inl (c3, 64, .inl (fun _ => 0)))] H := hP
  have hD : va_D A [(h0, .inr (1, [.int 0, .int 0, .int 0, .int 0, .ref q1, .ref q2, .int 0, .int 0, .int 0, .null, .null])), (q1, .inl (c1, 384, .inl (fun _ => 0))), (q2, .inl (c2, 64, .inr (.inl (fun _ => 0)))), (q3, .inl (c3, 64, .inl (fun _ => 0)))] := hD
  have hK : va_K (dC, dI) vwCl [(c1, .int), (c2, .long), (c3, .int)] s := hK
  refine va_putF (D := (dC, dI)) (ci := 1) (v := .ref q3) (ty := (.array .int)) (C := "AsOfLedgerModel") (T := TM) (N := 11) hx hb hts wsM tM tM_ok nM_ok hown hK hP hD hS 0 rfl rfl 9 (by decide) (hts _ tw_429) (fun _ h9 => h9) rfl hin rfl (by decide +kernel) rfl rfl (Nat.le_of_ble_eq_true rfl) dM_init_26 (fun H locs hP hD hS => ?_)
  have hP : va_P (dC, dI) vwCl [(h0, .inr (1, [.int 0, .int 0, .int 0, .int 0, .ref q1, .ref q2, .int 0, .int 0, .int 0, .ref q3, .null])), (q1, .inl (c1, 384, .inl (fun _ => 0))), (q2, .inl (c2, 64, .inr (.inl (fun _ => 0)))), (q3, .inl (c3, 64, .inl (fun _ => 0)))] H := hP
  have hD : va_D A [(h0, .inr (1, [.int 0, .int 0, .int 0, .int 0, .ref q1, .ref q2, .int 0, .int 0, .int 0, .ref q3, .null])), (q1, .inl (c1, 384, .inl (fun _ => 0))), (q2, .inl (c2, 64, .inr (.inl (fun _ => 0)))), (q3, .inl (c3, 64, .inl (fun _ => 0)))] := hD
  refine lv_aload_n hx hb dM_init_29 rfl (lv_at hl 0 rfl) ?_
  refine lv_bipush (v := 64) hx hb dM_init_30 (by decide) ?_
  refine va_newa (atype := .int) (ty := .int) (N' := 64) (a0 := (64, .inl (fun _ => 0))) hx hb (hts _ tl_86) rfl hK hP hD hS hA (fun cA => rfl) (by decide) (by decide) (by decide) (Nat.le_of_ble_eq_true rfl) (Nat.le_of_ble_eq_true rfl) dM_init_32 (fun q4 c4 H hK hP hD hS => ?_)
  have hP : va_P (dC, dI) vwCl [(h0, .inr (1, [.int 0, .int 0, .int 0, .int 0, .ref q1, .ref q2, .int 0, .int 0, .int 0, .ref q3, .null])), (q1, .inl (c1, 384, .inl (fun _ => 0))), (q2, .inl (c2, 64, .inr (.inl (fun _ => 0)))), (q3, .inl (c3, 64, .inl (fun _ => 0))), (q4, .inl (c4, 64, .inl (fun _ => 0)))] H := hP
  have hD : va_D A [(h0, .inr (1, [.int 0, .int 0, .int 0, .int 0, .ref q1, .ref q2, .int 0, .int 0, .int 0, .ref q3, .null])), (q1, .inl (c1, 384, .inl (fun _ => 0))), (q2, .inl (c2, 64, .inr (.inl (fun _ => 0)))), (q3, .inl (c3, 64, .inl (fun _ => 0))), (q4, .inl (c4, 64, .inl (fun _ => 0)))] := hD
  have hK : va_K (dC, dI) vwCl [(c1, .int), (c2, .long), (c3, .int), (c4, .int)] s := hK
  refine va_putF (D := (dC, dI)) (ci := 1) (v := .ref q4) (ty := (.array .int)) (C := "AsOfLedgerModel") (T := TM) (N := 11) hx hb hts wsM tM tM_ok nM_ok hown hK hP hD hS 0 rfl rfl 10 (by decide) (hts _ tw_430) (fun _ h9 => h9) rfl hin rfl (by decide +kernel) rfl rfl (Nat.le_of_ble_eq_true rfl) dM_init_34 (fun H locs hP hD hS => ?_)
  have hP : va_P (dC, dI) vwCl [(h0, .inr (1, [.int 0, .int 0, .int 0, .int 0, .ref q1, .ref q2, .int 0, .int 0, .int 0, .ref q3, .ref q4])), (q1, .inl (c1, 384, .inl (fun _ => 0))), (q2, .inl (c2, 64, .inr (.inl (fun _ => 0)))), (q3, .inl (c3, 64, .inl (fun _ => 0))), (q4, .inl (c4, 64, .inl (fun _ => 0)))] H := hP
  have hD : va_D A [(h0, .inr (1, [.int 0, .int 0, .int 0, .int 0, .ref q1, .ref q2, .int 0, .int 0, .int 0, .ref q3, .ref q4])), (q1, .inl (c1, 384, .inl (fun _ => 0))), (q2, .inl (c2, 64, .inr (.inl (fun _ => 0)))), (q3, .inl (c3, 64, .inl (fun _ => 0))), (q4, .inl (c4, 64, .inl (fun _ => 0)))] := hD
  refine W.widen (k := 4) (n := 576) (Nat.le_of_ble_eq_true rfl) (Nat.le_of_ble_eq_true rfl) ?_
  exact W.vret hx hb hr (fun t ht hW => ⟨⟨(), rfl, trivial, q1, q2, q3, q4, c1, c2, c3, c4, by rw [ht]; exact hP, va_K.moved hW.alike hK, hD⟩, hS.F ht⟩) hS.2.2 dM_init_37
end
section
theorem tl_32 : Jvm.Cond.initialized "AsOfLedgerLaw" ∈ Tw := Tw_in (List.mem_of_getElem? (i := 32) (by decide +kernel)) (by decide +kernel)
theorem tl_125 : Jvm.Cond.methodLink "AsOfLedgerLaw" 61 yL_post ∈ Tw := Tw_in (List.mem_of_getElem? (i := 125) (by decide +kernel)) (by decide +kernel)
theorem tl_126 : Jvm.Cond.static yL_post ∈ Tw := Tw_in (List.mem_of_getElem? (i := 126) (by decide +kernel)) (by decide +kernel)
theorem tl_127 : Jvm.Cond.codeWith yL_post bL_post 7 (some .int) [(0, 14, 17, 13), (0, 14, 21, 15), (0, 14, 25, 17), (0, 14, 29, 19)] ∈ Tw := Tw_in (List.mem_of_getElem? (i := 127) (by decide +kernel)) (by decide +kernel)
theorem tl_128 : Jvm.Cond.classLink "AsOfLedgerLaw" 13 "java/lang/IllegalStateException" ∈ Tw := Tw_in (List.mem_of_getElem? (i := 128) (by decide +kernel)) (by decide +kernel)
theorem tl_129 : Jvm.Cond.classLink "AsOfLedgerLaw" 15 "java/lang/IllegalArgumentException" ∈ Tw := Tw_in (List.mem_of_getElem? (i := 129) (by decide +kernel)) (by decide +kernel)
theorem tl_130 : Jvm.Cond.classLink "AsOfLedgerLaw" 17 "java/lang/UnsupportedOperationException" ∈ Tw := Tw_in (List.mem_of_getElem? (i := 130) (by decide +kernel)) (by decide +kernel)
theorem tl_131 : Jvm.Cond.classLink "AsOfLedgerLaw" 19 "java/lang/ArithmeticException" ∈ Tw := Tw_in (List.mem_of_getElem? (i := 131) (by decide +kernel)) (by decide +kernel)
theorem tl_142 : Jvm.Cond.castable "java/lang/IllegalStateException" "java/lang/IllegalStateException" ∈ Tw := Tw_in (List.mem_of_getElem? (i := 142) (by decide +kernel)) (by decide +kernel)
theorem tl_221 : Jvm.Cond.castable "java/lang/IllegalArgumentException" "java/lang/IllegalArgumentException" ∈ Tw := Tw_in (List.mem_of_getElem? (i := 221) (by decide +kernel)) (by decide +kernel)
theorem tl_241 : Jvm.Cond.castable "java/lang/UnsupportedOperationException" "java/lang/UnsupportedOperationException" ∈ Tw := Tw_in (List.mem_of_getElem? (i := 241) (by decide +kernel)) (by decide +kernel)
theorem tl_274 : Jvm.Cond.castable "java/lang/ArithmeticException" "java/lang/ArithmeticException" ∈ Tw := Tw_in (List.mem_of_getElem? (i := 274) (by decide +kernel)) (by decide +kernel)
theorem tl_292 : Jvm.Cond.methodLink "AsOfLedgerLaw" 70 yL_correct ∈ Tw := Tw_in (List.mem_of_getElem? (i := 292) (by decide +kernel)) (by decide +kernel)
theorem tl_293 : Jvm.Cond.static yL_correct ∈ Tw := Tw_in (List.mem_of_getElem? (i := 293) (by decide +kernel)) (by decide +kernel)
theorem tl_294 : Jvm.Cond.codeWith yL_correct bL_correct 5 (some .int) [(0, 10, 13, 13), (0, 10, 17, 25), (0, 10, 21, 15), (0, 10, 25, 17), (0, 10, 29, 19)] ∈ Tw := Tw_in (List.mem_of_getElem? (i := 294) (by decide +kernel)) (by decide +kernel)
theorem tl_295 : Jvm.Cond.classLink "AsOfLedgerLaw" 25 "java/util/NoSuchElementException" ∈ Tw := Tw_in (List.mem_of_getElem? (i := 295) (by decide +kernel)) (by decide +kernel)
theorem tl_310 : Jvm.Cond.castable "java/util/NoSuchElementException" "java/util/NoSuchElementException" ∈ Tw := Tw_in (List.mem_of_getElem? (i := 310) (by decide +kernel)) (by decide +kernel)
theorem tl_328 : Jvm.Cond.methodLink "AsOfLedgerLaw" 74 yL_annul ∈ Tw := Tw_in (List.mem_of_getElem? (i := 328) (by decide +kernel)) (by decide +kernel)
theorem tl_329 : Jvm.Cond.static yL_annul ∈ Tw := Tw_in (List.mem_of_getElem? (i := 329) (by decide +kernel)) (by decide +kernel)
theorem tl_330 : Jvm.Cond.codeWith yL_annul bL_annul 4 (some .int) [(0, 9, 12, 13), (0, 9, 15, 25), (0, 9, 18, 17)] ∈ Tw := Tw_in (List.mem_of_getElem? (i := 330) (by decide +kernel)) (by decide +kernel)
theorem tl_335 : Jvm.Cond.methodLink "AsOfLedgerLaw" 78 yL_balance ∈ Tw := Tw_in (List.mem_of_getElem? (i := 335) (by decide +kernel)) (by decide +kernel)
theorem tl_336 : Jvm.Cond.static yL_balance ∈ Tw := Tw_in (List.mem_of_getElem? (i := 336) (by decide +kernel)) (by decide +kernel)
theorem tl_337 : Jvm.Cond.codeWith yL_balance bL_balance 6 (some .int) [(0, 12, 15, 13), (0, 12, 19, 15)] ∈ Tw := Tw_in (List.mem_of_getElem? (i := 337) (by decide +kernel)) (by decide +kernel)
theorem tl_354 : Jvm.Cond.methodLink "AsOfLedgerLaw" 82 yL_trial ∈ Tw := Tw_in (List.mem_of_getElem? (i := 354) (by decide +kernel)) (by decide +kernel)
theorem tl_355 : Jvm.Cond.static yL_trial ∈ Tw := Tw_in (List.mem_of_getElem? (i := 355) (by decide +kernel)) (by decide +kernel)
theorem tl_356 : Jvm.Cond.codeWith yL_trial bL_trial 5 (some .int) [(0, 10, 13, 13), (0, 10, 17, 15)] ∈ Tw := Tw_in (List.mem_of_getElem? (i := 356) (by decide +kernel)) (by decide +kernel)
theorem tl_361 : Jvm.Cond.methodLink "AsOfLedgerLaw" 85 yL_turnover ∈ Tw := Tw_in (List.mem_of_getElem? (i := 361) (by decide +kernel)) (by decide +kernel)
theorem tl_362 : Jvm.Cond.static yL_turnover ∈ Tw := Tw_in (List.mem_of_getElem? (i := 362) (by decide +kernel)) (by decide +kernel)
theorem tl_363 : Jvm.Cond.codeWith yL_turnover bL_turnover 4 (some .int) [(0, 9, 12, 13), (0, 9, 15, 15)] ∈ Tw := Tw_in (List.mem_of_getElem? (i := 363) (by decide +kernel)) (by decide +kernel)
theorem tl_368 : Jvm.Cond.methodLink "AsOfLedgerLaw" 88 yL_open ∈ Tw := Tw_in (List.mem_of_getElem? (i := 368) (by decide +kernel)) (by decide +kernel)
theorem tl_369 : Jvm.Cond.static yL_open ∈ Tw := Tw_in (List.mem_of_getElem? (i := 369) (by decide +kernel)) (by decide +kernel)
theorem tl_370 : Jvm.Cond.codeWith yL_open bL_open 7 (some .int) [(0, 14, 17, 13), (0, 14, 21, 15)] ∈ Tw := Tw_in (List.mem_of_getElem? (i := 370) (by decide +kernel)) (by decide +kernel)
theorem tl_386 : Jvm.Cond.methodLink "AsOfLedgerLaw" 91 yL_next ∈ Tw := Tw_in (List.mem_of_getElem? (i := 386) (by decide +kernel)) (by decide +kernel)
theorem tl_387 : Jvm.Cond.static yL_next ∈ Tw := Tw_in (List.mem_of_getElem? (i := 387) (by decide +kernel)) (by decide +kernel)
theorem tl_388 : Jvm.Cond.codeWith yL_next bL_next 3 (some .int) [(0, 8, 11, 13)] ∈ Tw := Tw_in (List.mem_of_getElem? (i := 388) (by decide +kernel)) (by decide +kernel)
theorem tl_393 : Jvm.Cond.methodLink "AsOfLedgerLaw" 95 yL_moved ∈ Tw := Tw_in (List.mem_of_getElem? (i := 393) (by decide +kernel)) (by decide +kernel)
theorem tl_394 : Jvm.Cond.static yL_moved ∈ Tw := Tw_in (List.mem_of_getElem? (i := 394) (by decide +kernel)) (by decide +kernel)
theorem tl_395 : Jvm.Cond.codeWith yL_moved bL_moved 3 (some .int) [(0, 8, 11, 13)] ∈ Tw := Tw_in (List.mem_of_getElem? (i := 395) (by decide +kernel)) (by decide +kernel)
theorem tl_400 : Jvm.Cond.methodLink "AsOfLedgerLaw" 98 yL_field ∈ Tw := Tw_in (List.mem_of_getElem? (i := 400) (by decide +kernel)) (by decide +kernel)
theorem tl_401 : Jvm.Cond.static yL_field ∈ Tw := Tw_in (List.mem_of_getElem? (i := 401) (by decide +kernel)) (by decide +kernel)
theorem tl_402 : Jvm.Cond.codeWith yL_field bL_field 6 (some .int) [(0, 12, 15, 13)] ∈ Tw := Tw_in (List.mem_of_getElem? (i := 402) (by decide +kernel)) (by decide +kernel)
theorem tl_407 : Jvm.Cond.methodLink "AsOfLedgerLaw" 101 yL_entries ∈ Tw := Tw_in (List.mem_of_getElem? (i := 407) (by decide +kernel)) (by decide +kernel)
theorem tl_408 : Jvm.Cond.static yL_entries ∈ Tw := Tw_in (List.mem_of_getElem? (i := 408) (by decide +kernel)) (by decide +kernel)
theorem tl_409 : Jvm.Cond.codeWith yL_entries bL_entries 3 (some .int) [(0, 8, 11, 13)] ∈ Tw := Tw_in (List.mem_of_getElem? (i := 409) (by decide +kernel)) (by decide +kernel)
theorem tn_ISE_NSE : Jvm.Cond.not (.castable "java/lang/IllegalStateException" "java/util/NoSuchElementException") ∈ Tw := List.mem_append_right _ (List.mem_of_getElem? (i := 0) rfl)
theorem tn_ISE_IAE : Jvm.Cond.not (.castable "java/lang/IllegalStateException" "java/lang/IllegalArgumentException") ∈ Tw := List.mem_append_right _ (List.mem_of_getElem? (i := 1) rfl)
theorem tn_ISE_UOE : Jvm.Cond.not (.castable "java/lang/IllegalStateException" "java/lang/UnsupportedOperationException") ∈ Tw := List.mem_append_right _ (List.mem_of_getElem? (i := 2) rfl)
theorem tn_ISE_AE : Jvm.Cond.not (.castable "java/lang/IllegalStateException" "java/lang/ArithmeticException") ∈ Tw := List.mem_append_right _ (List.mem_of_getElem? (i := 3) rfl)
theorem tn_NSE_ISE : Jvm.Cond.not (.castable "java/util/NoSuchElementException" "java/lang/IllegalStateException") ∈ Tw := List.mem_append_right _ (List.mem_of_getElem? (i := 4) rfl)
theorem tn_NSE_IAE : Jvm.Cond.not (.castable "java/util/NoSuchElementException" "java/lang/IllegalArgumentException") ∈ Tw := List.mem_append_right _ (List.mem_of_getElem? (i := 5) rfl)
theorem tn_NSE_UOE : Jvm.Cond.not (.castable "java/util/NoSuchElementException" "java/lang/UnsupportedOperationException") ∈ Tw := List.mem_append_right _ (List.mem_of_getElem? (i := 6) rfl)
theorem tn_NSE_AE : Jvm.Cond.not (.castable "java/util/NoSuchElementException" "java/lang/ArithmeticException") ∈ Tw := List.mem_append_right _ (List.mem_of_getElem? (i := 7) rfl)
theorem tn_IAE_ISE : Jvm.Cond.not (.castable "java/lang/IllegalArgumentException" "java/lang/IllegalStateException") ∈ Tw := List.mem_append_right _ (List.mem_of_getElem? (i := 8) rfl)
theorem tn_IAE_NSE : Jvm.Cond.not (.castable "java/lang/IllegalArgumentException" "java/util/NoSuchElementException") ∈ Tw := List.mem_append_right _ (List.mem_of_getElem? (i := 9) rfl)
theorem tn_IAE_UOE : Jvm.Cond.not (.castable "java/lang/IllegalArgumentException" "java/lang/UnsupportedOperationException") ∈ Tw := List.mem_append_right _ (List.mem_of_getElem? (i := 10) rfl)
theorem tn_IAE_AE : Jvm.Cond.not (.castable "java/lang/IllegalArgumentException" "java/lang/ArithmeticException") ∈ Tw := List.mem_append_right _ (List.mem_of_getElem? (i := 11) rfl)
theorem tn_UOE_ISE : Jvm.Cond.not (.castable "java/lang/UnsupportedOperationException" "java/lang/IllegalStateException") ∈ Tw := List.mem_append_right _ (List.mem_of_getElem? (i := 12) rfl)
theorem tn_UOE_NSE : Jvm.Cond.not (.castable "java/lang/UnsupportedOperationException" "java/util/NoSuchElementException") ∈ Tw := List.mem_append_right _ (List.mem_of_getElem? (i := 13) rfl)
theorem tn_UOE_IAE : Jvm.Cond.not (.castable "java/lang/UnsupportedOperationException" "java/lang/IllegalArgumentException") ∈ Tw := List.mem_append_right _ (List.mem_of_getElem? (i := 14) rfl)
theorem tn_UOE_AE : Jvm.Cond.not (.castable "java/lang/UnsupportedOperationException" "java/lang/ArithmeticException") ∈ Tw := List.mem_append_right _ (List.mem_of_getElem? (i := 15) rfl)
theorem tn_AE_ISE : Jvm.Cond.not (.castable "java/lang/ArithmeticException" "java/lang/IllegalStateException") ∈ Tw := List.mem_append_right _ (List.mem_of_getElem? (i := 16) rfl)
theorem tn_AE_NSE : Jvm.Cond.not (.castable "java/lang/ArithmeticException" "java/util/NoSuchElementException") ∈ Tw := List.mem_append_right _ (List.mem_of_getElem? (i := 17) rfl)
theorem tn_AE_IAE : Jvm.Cond.not (.castable "java/lang/ArithmeticException" "java/lang/IllegalArgumentException") ∈ Tw := List.mem_append_right _ (List.mem_of_getElem? (i := 18) rfl)
theorem tn_AE_UOE : Jvm.Cond.not (.castable "java/lang/ArithmeticException" "java/lang/UnsupportedOperationException") ∈ Tw := List.mem_append_right _ (List.mem_of_getElem? (i := 19) rfl)
set_option maxRecDepth 100000 in
set_option maxHeartbeats 4000000 in
theorem ch_post_ok (l : Launch) (hfl : l.flags = Jvm.pinnedFlags ++ [Jvm.noTraceFlag]) (x : XS) (m : MS) (o : Nat → Int64) (n e1 : Nat) (d c1 a y : Int32) (hvc : fx_vc x = nI n) (hn : n ≤ 64) (hec : fx_ec x = nI e1) (v : Int32) (x1 : XS) (hr : rPost x m o n e1 d c1 a y = .inl (some (.int v), wx x1 m o)) : zC l yL_post (Jvm.Cond.codeWith yL_post bL_post 7 (some .int) [(0, 14, 17, 13), (0, 14, 21, 15), (0, 14, 25, 17), (0, 14, 29, 19)] :: Tw) 5 false 1 6 [.ref 0, .int d, .int c1, .int a, .int y, .ref 10] (wx x m o) (.inl (some (.int 0), wx x1 m (vp_updL o 0 v.toInt64))) := by
  refine zC_ofW [some (.ref 0), some (.int d), some (.int c1), some (.int a), some (.int y), some (.ref 10), none] (by decide) rfl (Nat.le_of_ble_eq_true rfl) ?_
  intro p e s mm args below meth c D cI cJ as G hret hex hbd
  refine zz_aload G dL_post_0 rfl ?_
  refine zz_iconst (v := 0) G dL_post_2 (by decide) ?_
  refine zz_aload_n G dL_post_3 rfl ?_
  refine zz_iload_n G dL_post_4 rfl ?_
  refine zz_iload_n G dL_post_5 rfl ?_
  refine zz_iload_n G dL_post_6 rfl ?_
  refine zz_iload G dL_post_7 rfl ?_
  refine zz_callVi (v := v) (w' := (wx x1 m o)) (As := [.int d, .int c1, .int a, .int y]) (rest := [.int 0, .ref 10]) G (by have q := cx_post l hfl x m o n e1 d c1 a y hvc hn hec; rw [hr] at q; exact q) kL_7 dL_post_9 rfl rfl rfl rfl (Nat.le_of_ble_eq_true rfl) (fun h => by cases h) ⟨Nat.le_of_ble_eq_true rfl, Nat.le_of_ble_eq_true rfl⟩ ⟨Nat.le_of_ble_eq_true rfl, Nat.le_of_ble_eq_true rfl⟩ ?_
  refine zz_i2l G dL_post_12 ?_
  refine zz_last (w' := (wx x1 m (vp_updL o 0 v.toInt64))) rfl G dL_post_13 rfl (by rw [← nI_0]; exact vp_in_nI (by omega) (by omega)) (rfl) ?_
  refine zz_goto (tgt := 33) G dL_post_14 rfl ?_
  refine zz_iconst (v := 0) G dL_post_33 (by decide) ?_
  exact zz_iret G hret dL_post_34 (rfl) (Nat.le_of_ble_eq_true rfl) (Nat.le_of_ble_eq_true rfl)
set_option maxRecDepth 100000 in
set_option maxHeartbeats 4000000 in
theorem ch_post_ISE (l : Launch) (hfl : l.flags = Jvm.pinnedFlags ++ [Jvm.noTraceFlag]) (x : XS) (m : MS) (o : Nat → Int64) (n e1 : Nat) (d c1 a y : Int32) (hvc : fx_vc x = nI n) (hn : n ≤ 64) (hec : fx_ec x = nI e1) (hr : rPost x m o n e1 d c1 a y = .inr ("java/lang/IllegalStateException", wx x m o)) : zC l yL_post (Jvm.Cond.codeWith yL_post bL_post 7 (some .int) [(0, 14, 17, 13), (0, 14, 21, 15), (0, 14, 25, 17), (0, 14, 29, 19)] :: Tw) 5 false 1 6 [.ref 0, .int d, .int c1, .int a, .int y, .ref 10] (wx x m o) (.inl (some (.int 1), wx x m o)) := by
  refine zC_ofW [some (.ref 0), some (.int d), some (.int c1), some (.int a), some (.int y), some (.ref 10), none] (by decide) rfl (Nat.le_of_ble_eq_true rfl) ?_
  intro p e s mm args below meth c D cI cJ as G hret hex hbd
  refine zz_aload G dL_post_0 rfl ?_
  refine zz_iconst (v := 0) G dL_post_2 (by decide) ?_
  refine zz_aload_n G dL_post_3 rfl ?_
  refine zz_iload_n G dL_post_4 rfl ?_
  refine zz_iload_n G dL_post_5 rfl ?_
  refine zz_iload_n G dL_post_6 rfl ?_
  refine zz_iload G dL_post_7 rfl ?_
  refine zz_catch2 (As := [.int d, .int c1, .int a, .int y]) (rest := [.int 0, .ref 10]) (w' := (wx x m o)) (Xn := "java/lang/IllegalStateException") G (by have q := cx_post l hfl x m o n e1 d c1 a y hvc hn hec; rw [hr] at q; exact q) kL_7 dL_post_9 rfl rfl rfl rfl (Nat.le_of_ble_eq_true rfl) (fun h => by cases h) ⟨Nat.le_of_ble_eq_true rfl, Nat.le_of_ble_eq_true rfl⟩ ⟨Nat.le_of_ble_eq_true rfl, Nat.le_of_ble_eq_true rfl⟩ [] [(0, 14, 21, 15), (0, 14, 25, 17), (0, 14, 29, 19)] (q := (0, 14, 17, 13)) hex ⟨Nat.le_of_ble_eq_true rfl, Nat.le_of_ble_eq_true rfl⟩ (by decide) tl_128 tl_142 (fun _ h => absurd h List.not_mem_nil) dL_post_17 (Nat.le_of_ble_eq_true rfl) ?_
  refine zz_iconst (v := 1) G dL_post_19 (by decide) ?_
  exact zz_iret G hret dL_post_20 rfl (Nat.le_of_ble_eq_true rfl) (Nat.le_of_ble_eq_true rfl)
set_option maxRecDepth 100000 in
set_option maxHeartbeats 4000000 in
theorem ch_post_IAE (l : Launch) (hfl : l.flags = Jvm.pinnedFlags ++ [Jvm.noTraceFlag]) (x : XS) (m : MS) (o : Nat → Int64) (n e1 : Nat) (d c1 a y : Int32) (hvc : fx_vc x = nI n) (hn : n ≤ 64) (hec : fx_ec x = nI e1) (hr : rPost x m o n e1 d c1 a y = .inr ("java/lang/IllegalArgumentException", wx x m o)) : zC l yL_post (Jvm.Cond.codeWith yL_post bL_post 7 (some .int) [(0, 14, 17, 13), (0, 14, 21, 15), (0, 14, 25, 17), (0, 14, 29, 19)] :: Tw) 5 false 1 6 [.ref 0, .int d, .int c1, .int a, .int y, .ref 10] (wx x m o) (.inl (some (.int 2), wx x m o)) := by
  refine zC_ofW [some (.ref 0), some (.int d), some (.int c1), some (.int a), some (.int y), some (.ref 10), none] (by decide) rfl (Nat.le_of_ble_eq_true rfl) ?_
  intro p e s mm args below meth c D cI cJ as G hret hex hbd
  refine zz_aload G dL_post_0 rfl ?_
  refine zz_iconst (v := 0) G dL_post_2 (by decide) ?_
  refine zz_aload_n G dL_post_3 rfl ?_
  refine zz_iload_n G dL_post_4 rfl ?_
  refine zz_iload_n G dL_post_5 rfl ?_
  refine zz_iload_n G dL_post_6 rfl ?_
  refine zz_iload G dL_post_7 rfl ?_
  refine zz_catch2 (As := [.int d, .int c1, .int a, .int y]) (rest := [.int 0, .ref 10]) (w' := (wx x m o)) (Xn := "java/lang/IllegalArgumentException") G (by have q := cx_post l hfl x m o n e1 d c1 a y hvc hn hec; rw [hr] at q; exact q) kL_7 dL_post_9 rfl rfl rfl rfl (Nat.le_of_ble_eq_true rfl) (fun h => by cases h) ⟨Nat.le_of_ble_eq_true rfl, Nat.le_of_ble_eq_true rfl⟩ ⟨Nat.le_of_ble_eq_true rfl, Nat.le_of_ble_eq_true rfl⟩ [(0, 14, 17, 13)] [(0, 14, 25, 17), (0, 14, 29, 19)] (q := (0, 14, 21, 15)) hex ⟨Nat.le_of_ble_eq_true rfl, Nat.le_of_ble_eq_true rfl⟩ (by decide) tl_129 tl_221 (List.forall_mem_cons.mpr ⟨⟨by decide, "java/lang/IllegalStateException", tl_128, tn_IAE_ISE⟩, (fun _ h => absurd h List.not_mem_nil)⟩) dL_post_21 (Nat.le_of_ble_eq_true rfl) ?_
  refine zz_iconst (v := 2) G dL_post_23 (by decide) ?_
  exact zz_iret G hret dL_post_24 rfl (Nat.le_of_ble_eq_true rfl) (Nat.le_of_ble_eq_true rfl)
set_option maxRecDepth 100000 in
set_option maxHeartbeats 4000000 in
theorem ch_post_UOE (l : Launch) (hfl : l.flags = Jvm.pinnedFlags ++ [Jvm.noTraceFlag]) (x : XS) (m : MS) (o : Nat → Int64) (n e1 : Nat) (d c1 a y : Int32) (hvc : fx_vc x = nI n) (hn : n ≤ 64) (hec : fx_ec x = nI e1) (hr : rPost x m o n e1 d c1 a y = .inr ("java/lang/UnsupportedOperationException", wx x m o)) : zC l yL_post (Jvm.Cond.codeWith yL_post bL_post 7 (some .int) [(0, 14, 17, 13), (0, 14, 21, 15), (0, 14, 25, 17), (0, 14, 29, 19)] :: Tw) 5 false 1 6 [.ref 0, .int d, .int c1, .int a, .int y, .ref 10] (wx x m o) (.inl (some (.int 3), wx x m o)) := by
  refine zC_ofW [some (.ref 0), some (.int d), some (.int c1), some (.int a), some (.int y), some (.ref 10), none] (by decide) rfl (Nat.le_of_ble_eq_true rfl) ?_
  intro p e s mm args below meth c D cI cJ as G hret hex hbd
  refine zz_aload G dL_post_0 rfl ?_
  refine zz_iconst (v := 0) G dL_post_2 (by decide) ?_
  refine zz_aload_n G dL_post_3 rfl ?_
  refine zz_iload_n G dL_post_4 rfl ?_
  refine zz_iload_n G dL_post_5 rfl ?_
  refine zz_iload_n G dL_post_6 rfl ?_
  refine zz_iload G dL_post_7 rfl ?_
  refine zz_catch2 (As := [.int d, .int c1, .int a, .int y]) (rest := [.int 0, .ref 10]) (w' := (wx x m o)) (Xn := "java/lang/UnsupportedOperationException") G (by have q := cx_post l hfl x m o n e1 d c1 a y hvc hn hec; rw [hr] at q; exact q) kL_7 dL_post_9 rfl rfl rfl rfl (Nat.le_of_ble_eq_true rfl) (fun h => by cases h) ⟨Nat.le_of_ble_eq_true rfl, Nat.le_of_ble_eq_true rfl⟩ ⟨Nat.le_of_ble_eq_true rfl, Nat.le_of_ble_eq_true rfl⟩ [(0, 14, 17, 13), (0, 14, 21, 15)] [(0, 14, 29, 19)] (q := (0, 14, 25, 17)) hex ⟨Nat.le_of_ble_eq_true rfl, Nat.le_of_ble_eq_true rfl⟩ (by decide) tl_130 tl_241 (List.forall_mem_cons.mpr ⟨⟨by decide, "java/lang/IllegalStateException", tl_128, tn_UOE_ISE⟩, (List.forall_mem_cons.mpr ⟨⟨by decide, "java/lang/IllegalArgumentException", tl_129, tn_UOE_IAE⟩, (fun _ h => absurd h List.not_mem_nil)⟩)⟩) dL_post_25 (Nat.le_of_ble_eq_true rfl) ?_
  refine zz_iconst (v := 3) G dL_post_27 (by decide) ?_
  exact zz_iret G hret dL_post_28 rfl (Nat.le_of_ble_eq_true rfl) (Nat.le_of_ble_eq_true rfl)
set_option maxRecDepth 100000 in
set_option maxHeartbeats 4000000 in
theorem ch_post_AE (l : Launch) (hfl : l.flags = Jvm.pinnedFlags ++ [Jvm.noTraceFlag]) (x : XS) (m : MS) (o : Nat → Int64) (n e1 : Nat) (d c1 a y : Int32) (hvc : fx_vc x = nI n) (hn : n ≤ 64) (hec : fx_ec x = nI e1) (hr : rPost x m o n e1 d c1 a y = .inr ("java/lang/ArithmeticException", wx x m o)) : zC l yL_post (Jvm.Cond.codeWith yL_post bL_post 7 (some .int) [(0, 14, 17, 13), (0, 14, 21, 15), (0, 14, 25, 17), (0, 14, 29, 19)] :: Tw) 5 false 1 6 [.ref 0, .int d, .int c1, .int a, .int y, .ref 10] (wx x m o) (.inl (some (.int 4), wx x m o)) := by
  refine zC_ofW [some (.ref 0), some (.int d), some (.int c1), some (.int a), some (.int y), some (.ref 10), none] (by decide) rfl (Nat.le_of_ble_eq_true rfl) ?_
  intro p e s mm args below meth c D cI cJ as G hret hex hbd
  refine zz_aload G dL_post_0 rfl ?_
  refine zz_iconst (v := 0) G dL_post_2 (by decide) ?_
  refine zz_aload_n G dL_post_3 rfl ?_
  refine zz_iload_n G dL_post_4 rfl ?_
  refine zz_iload_n G dL_post_5 rfl ?_
  refine zz_iload_n G dL_post_6 rfl ?_
  refine zz_iload G dL_post_7 rfl ?_
  refine zz_catch2 (As := [.int d, .int c1, .int a, .int y]) (rest := [.int 0, .ref 10]) (w' := (wx x m o)) (Xn := "java/lang/ArithmeticException") G (by have q := cx_post l hfl x m o n e1 d c1 a y hvc hn hec; rw [hr] at q; exact q) kL_7 dL_post_9 rfl rfl rfl rfl (Nat.le_of_ble_eq_true rfl) (fun h => by cases h) ⟨Nat.le_of_ble_eq_true rfl, Nat.le_of_ble_eq_true rfl⟩ ⟨Nat.le_of_ble_eq_true rfl, Nat.le_of_ble_eq_true rfl⟩ [(0, 14, 17, 13), (0, 14, 21, 15), (0, 14, 25, 17)] [] (q := (0, 14, 29, 19)) hex ⟨Nat.le_of_ble_eq_true rfl, Nat.le_of_ble_eq_true rfl⟩ (by decide) tl_131 tl_274 (List.forall_mem_cons.mpr ⟨⟨by decide, "java/lang/IllegalStateException", tl_128, tn_AE_ISE⟩, (List.forall_mem_cons.mpr ⟨⟨by decide, "java/lang/IllegalArgumentException", tl_129, tn_AE_IAE⟩, (List.forall_mem_cons.mpr ⟨⟨by decide, "java/lang/UnsupportedOperationException", tl_130, tn_AE_UOE⟩, (fun _ h => absurd h List.not_mem_nil)⟩)⟩)⟩) dL_post_29 (Nat.le_of_ble_eq_true rfl) ?_
  refine zz_iconst (v := 4) G dL_post_31 (by decide) ?_
  exact zz_iret G hret dL_post_32 rfl (Nat.le_of_ble_eq_true rfl) (Nat.le_of_ble_eq_true rfl)
set_option maxRecDepth 100000 in
set_option maxHeartbeats 4000000 in
theorem ch_correct_ok (l : Launch) (hfl : l.flags = Jvm.pinnedFlags ++ [Jvm.noTraceFlag]) (x : XS) (m : MS) (o : Nat → Int64) (n : Nat) (en a : Int32) (hvc : fx_vc x = nI n) (hn : n ≤ 64) (v : Int32) (x1 : XS) (hr : rCorr x m o n en a = .inl (some (.int v), wx x1 m o)) : zC l yL_correct (Jvm.Cond.codeWith yL_correct bL_correct 5 (some .int) [(0, 10, 13, 13), (0, 10, 17, 25), (0, 10, 21, 15), (0, 10, 25, 17), (0, 10, 29, 19)] :: Tw) 5 false 1 6 [.ref 0, .int en, .int a, .ref 10] (wx x m o) (.inl (some (.int 0), wx x1 m (vp_updL o 0 v.toInt64))) := by
  refine zC_ofW [some (.ref 0), some (.int en), some (.int a), some (.ref 10), none] (by decide) rfl (Nat.le_of_ble_eq_true rfl) ?_
  intro p e s mm args below meth c D cI cJ as G hret hex hbd
  refine zz_aload_n G dL_correct_0 rfl ?_
  refine zz_iconst (v := 0) G dL_correct_1 (by decide) ?_
  refine zz_aload_n G dL_correct_2 rfl ?_
  refine zz_iload_n G dL_correct_3 rfl ?_
  refine zz_iload_n G dL_correct_4 rfl ?_
  refine zz_callVi (v := v) (w' := (wx x1 m o)) (As := [.int en, .int a]) (rest := [.int 0, .ref 10]) G (by have q := cx_correct l hfl x m o n en a hvc hn; rw [hr] at q; exact q) kL_21 dL_correct_5 rfl rfl rfl rfl (Nat.le_of_ble_eq_true rfl) (fun h => by cases h) ⟨Nat.le_of_ble_eq_true rfl, Nat.le_of_ble_eq_true rfl⟩ ⟨Nat.le_of_ble_eq_true rfl, Nat.le_of_ble_eq_true rfl⟩ ?_
  refine zz_i2l G dL_correct_8 ?_
  refine zz_last (w' := (wx x1 m (vp_updL o 0 v.toInt64))) rfl G dL_correct_9 rfl (by rw [← nI_0]; exact vp_in_nI (by omega) (by omega)) (rfl) ?_
  refine zz_goto (tgt := 33) G dL_correct_10 rfl ?_
  refine zz_iconst (v := 0) G dL_correct_33 (by decide) ?_
  exact zz_iret G hret dL_correct_34 (rfl) (Nat.le_of_ble_eq_true rfl) (Nat.le_of_ble_eq_true rfl)
set_option maxRecDepth 100000 in
set_option maxHeartbeats 4000000 in
theorem ch_correct_ISE (l : Launch) (hfl : l.flags = Jvm.pinnedFlags ++ [Jvm.noTraceFlag]) (x : XS) (m : MS) (o : Nat → Int64) (n : Nat) (en a : Int32) (hvc : fx_vc x = nI n) (hn : n ≤ 64) (hr : rCorr x m o n en a = .inr ("java/lang/IllegalStateException", wx x m o)) : zC l yL_correct (Jvm.Cond.codeWith yL_correct bL_correct 5 (some .int) [(0, 10, 13, 13), (0, 10, 17, 25), (0, 10, 21, 15), (0, 10, 25, 17), (0, 10, 29, 19)] :: Tw) 5 false 1 6 [.ref 0, .int en, .int a, .ref 10] (wx x m o) (.inl (some (.int 1), wx x m o)) := by
  refine zC_ofW [some (.ref 0), some (.int en), some (.int a), some (.ref 10), none] (by decide) rfl (Nat.le_of_ble_eq_true rfl) ?_
  intro p e s mm args below meth c D cI cJ as G hret hex hbd
  refine zz_aload_n G dL_correct_0 rfl ?_
  refine zz_iconst (v := 0) G dL_correct_1 (by decide) ?_
  refine zz_aload_n G dL_correct_2 rfl ?_
  refine zz_iload_n G dL_correct_3 rfl ?_
  refine zz_iload_n G dL_correct_4 rfl ?_
  refine zz_catch2 (As := [.int en, .int a]) (rest := [.int 0, .ref 10]) (w' := (wx x m o)) (Xn := "java/lang/IllegalStateException") G (by have q := cx_correct l hfl x m o n en a hvc hn; rw [hr] at q; exact q) kL_21 dL_correct_5 rfl rfl rfl rfl (Nat.le_of_ble_eq_true rfl) (fun h => by cases h) ⟨Nat.le_of_ble_eq_true rfl, Nat.le_of_ble_eq_true rfl⟩ ⟨Nat.le_of_ble_eq_true rfl, Nat.le_of_ble_eq_true rfl⟩ [] [(0, 10, 17, 25), (0, 10, 21, 15), (0, 10, 25, 17), (0, 10, 29, 19)] (q := (0, 10, 13, 13)) hex ⟨Nat.le_of_ble_eq_true rfl, Nat.le_of_ble_eq_true rfl⟩ (by decide) tl_128 tl_142 (fun _ h => absurd h List.not_mem_nil) dL_correct_13 (Nat.le_of_ble_eq_true rfl) ?_
  refine zz_iconst (v := 1) G dL_correct_15 (by decide) ?_
  exact zz_iret G hret dL_correct_16 rfl (Nat.le_of_ble_eq_true rfl) (Nat.le_of_ble_eq_true rfl)
set_option maxRecDepth 100000 in
set_option maxHeartbeats 4000000 in
theorem ch_correct_NSE (l : Launch) (hfl : l.flags = Jvm.pinnedFlags ++ [Jvm.noTraceFlag]) (x : XS) (m : MS) (o : Nat → Int64) (n : Nat) (en a : Int32) (hvc : fx_vc x = nI n) (hn : n ≤ 64) (hr : rCorr x m o n en a = .inr ("java/util/NoSuchElementException", wx x m o)) : zC l yL_correct (Jvm.Cond.codeWith yL_correct bL_correct 5 (some .int) [(0, 10, 13, 13), (0, 10, 17, 25), (0, 10, 21, 15), (0, 10, 25, 17), (0, 10, 29, 19)] :: Tw) 5 false 1 6 [.ref 0, .int en, .int a, .ref 10] (wx x m o) (.inl (some (.int 2), wx x m o)) := by
  refine zC_ofW [some (.ref 0), some (.int en), some (.int a), some (.ref 10), none] (by decide) rfl (Nat.le_of_ble_eq_true rfl) ?_
  intro p e s mm args below meth c D cI cJ as G hret hex hbd
  refine zz_aload_n G dL_correct_0 rfl ?_
  refine zz_iconst (v := 0) G dL_correct_1 (by decide) ?_
  refine zz_aload_n G dL_correct_2 rfl ?_
  refine zz_iload_n G dL_correct_3 rfl ?_
  refine zz_iload_n G dL_correct_4 rfl ?_
  refine zz_catch2 (As := [.int en, .int a]) (rest := [.int 0, .ref 10]) (w' := (wx x m o)) (Xn := "java/util/NoSuchElementException") G (by have q := cx_correct l hfl x m o n en a hvc hn; rw [hr] at q; exact q) kL_21 dL_correct_5 rfl rfl rfl rfl (Nat.le_of_ble_eq_true rfl) (fun h => by cases h) ⟨Nat.le_of_ble_eq_true rfl, Nat.le_of_ble_eq_true rfl⟩ ⟨Nat.le_of_ble_eq_true rfl, Nat.le_of_ble_eq_true rfl⟩ [(0, 10, 13, 13)] [(0, 10, 21, 15), (0, 10, 25, 17), (0, 10, 29, 19)] (q := (0, 10, 17, 25)) hex ⟨Nat.le_of_ble_eq_true rfl, Nat.le_of_ble_eq_true rfl⟩ (by decide) tl_295 tl_310 (List.forall_mem_cons.mpr ⟨⟨by decide, "java/lang/IllegalStateException", tl_128, tn_NSE_ISE⟩, (fun _ h => absurd h List.not_mem_nil)⟩) dL_correct_17 (Nat.le_of_ble_eq_true rfl) ?_
  refine zz_iconst (v := 2) G dL_correct_19 (by decide) ?_
  exact zz_iret G hret dL_correct_20 rfl (Nat.le_of_ble_eq_true rfl) (Nat.le_of_ble_eq_true rfl)
set_option maxRecDepth 100000 in
set_option maxHeartbeats 4000000 in
theorem ch_correct_IAE (l : Launch) (hfl : l.flags = Jvm.pinnedFlags ++ [Jvm.noTraceFlag]) (x : XS) (m : MS) (o : Nat → Int64) (n : Nat) (en a : Int32) (hvc : fx_vc x = nI n) (hn : n ≤ 64) (hr : rCorr x m o n en a = .inr ("java/lang/IllegalArgumentException", wx x m o)) : zC l yL_correct (Jvm.Cond.codeWith yL_correct bL_correct 5 (some .int) [(0, 10, 13, 13), (0, 10, 17, 25), (0, 10, 21, 15), (0, 10, 25, 17), (0, 10, 29, 19)] :: Tw) 5 false 1 6 [.ref 0, .int en, .int a, .ref 10] (wx x m o) (.inl (some (.int 3), wx x m o)) := by
  refine zC_ofW [some (.ref 0), some (.int en), some (.int a), some (.ref 10), none] (by decide) rfl (Nat.le_of_ble_eq_true rfl) ?_
  intro p e s mm args below meth c D cI cJ as G hret hex hbd
  refine zz_aload_n G dL_correct_0 rfl ?_
  refine zz_iconst (v := 0) G dL_correct_1 (by decide) ?_
  refine zz_aload_n G dL_correct_2 rfl ?_
  refine zz_iload_n G dL_correct_3 rfl ?_
  refine zz_iload_n G dL_correct_4 rfl ?_
  refine zz_catch2 (As := [.int en, .int a]) (rest := [.int 0, .ref 10]) (w' := (wx x m o)) (Xn := "java/lang/IllegalArgumentException") G (by have q := cx_correct l hfl x m o n en a hvc hn; rw [hr] at q; exact q) kL_21 dL_correct_5 rfl rfl rfl rfl (Nat.le_of_ble_eq_true rfl) (fun h => by cases h) ⟨Nat.le_of_ble_eq_true rfl, Nat.le_of_ble_eq_true rfl⟩ ⟨Nat.le_of_ble_eq_true rfl, Nat.le_of_ble_eq_true rfl⟩ [(0, 10, 13, 13), (0, 10, 17, 25)] [(0, 10, 25, 17), (0, 10, 29, 19)] (q := (0, 10, 21, 15)) hex ⟨Nat.le_of_ble_eq_true rfl, Nat.le_of_ble_eq_true rfl⟩ (by decide) tl_129 tl_221 (List.forall_mem_cons.mpr ⟨⟨by decide, "java/lang/IllegalStateException", tl_128, tn_IAE_ISE⟩, (List.forall_mem_cons.mpr ⟨⟨by decide, "java/util/NoSuchElementException", tl_295, tn_IAE_NSE⟩, (fun _ h => absurd h List.not_mem_nil)⟩)⟩) dL_correct_21 (Nat.le_of_ble_eq_true rfl) ?_
  refine zz_iconst (v := 3) G dL_correct_23 (by decide) ?_
  exact zz_iret G hret dL_correct_24 rfl (Nat.le_of_ble_eq_true rfl) (Nat.le_of_ble_eq_true rfl)
set_option maxRecDepth 100000 in
set_option maxHeartbeats 4000000 in
theorem ch_correct_UOE (l : Launch) (hfl : l.flags = Jvm.pinnedFlags ++ [Jvm.noTraceFlag]) (x : XS) (m : MS) (o : Nat → Int64) (n : Nat) (en a : Int32) (hvc : fx_vc x = nI n) (hn : n ≤ 64) (hr : rCorr x m o n en a = .inr ("java/lang/UnsupportedOperationException", wx x m o)) : zC l yL_correct (Jvm.Cond.codeWith yL_correct bL_correct 5 (some .int) [(0, 10, 13, 13), (0, 10, 17, 25), (0, 10, 21, 15), (0, 10, 25, 17), (0, 10, 29, 19)] :: Tw) 5 false 1 6 [.ref 0, .int en, .int a, .ref 10] (wx x m o) (.inl (some (.int 4), wx x m o)) := by
  refine zC_ofW [some (.ref 0), some (.int en), some (.int a), some (.ref 10), none] (by decide) rfl (Nat.le_of_ble_eq_true rfl) ?_
  intro p e s mm args below meth c D cI cJ as G hret hex hbd
  refine zz_aload_n G dL_correct_0 rfl ?_
  refine zz_iconst (v := 0) G dL_correct_1 (by decide) ?_
  refine zz_aload_n G dL_correct_2 rfl ?_
  refine zz_iload_n G dL_correct_3 rfl ?_
  refine zz_iload_n G dL_correct_4 rfl ?_
  refine zz_catch2 (As := [.int en, .int a]) (rest := [.int 0, .ref 10]) (w' := (wx x m o)) (Xn := "java/lang/UnsupportedOperationException") G (by have q := cx_correct l hfl x m o n en a hvc hn; rw [hr] at q; exact q) kL_21 dL_correct_5 rfl rfl rfl rfl (Nat.le_of_ble_eq_true rfl) (fun h => by cases h) ⟨Nat.le_of_ble_eq_true rfl, Nat.le_of_ble_eq_true rfl⟩ ⟨Nat.le_of_ble_eq_true rfl, Nat.le_of_ble_eq_true rfl⟩ [(0, 10, 13, 13), (0, 10, 17, 25), (0, 10, 21, 15)] [(0, 10, 29, 19)] (q := (0, 10, 25, 17)) hex ⟨Nat.le_of_ble_eq_true rfl, Nat.le_of_ble_eq_true rfl⟩ (by decide) tl_130 tl_241 (List.forall_mem_cons.mpr ⟨⟨by decide, "java/lang/IllegalStateException", tl_128, tn_UOE_ISE⟩, (List.forall_mem_cons.mpr ⟨⟨by decide, "java/util/NoSuchElementException", tl_295, tn_UOE_NSE⟩, (List.forall_mem_cons.mpr ⟨⟨by decide, "java/lang/IllegalArgumentException", tl_129, tn_UOE_IAE⟩, (fun _ h => absurd h List.not_mem_nil)⟩)⟩)⟩) dL_correct_25 (Nat.le_of_ble_eq_true rfl) ?_
  refine zz_iconst (v := 4) G dL_correct_27 (by decide) ?_
  exact zz_iret G hret dL_correct_28 rfl (Nat.le_of_ble_eq_true rfl) (Nat.le_of_ble_eq_true rfl)
set_option maxRecDepth 100000 in
set_option maxHeartbeats 4000000 in
theorem ch_correct_AE (l : Launch) (hfl : l.flags = Jvm.pinnedFlags ++ [Jvm.noTraceFlag]) (x : XS) (m : MS) (o : Nat → Int64) (n : Nat) (en a : Int32) (hvc : fx_vc x = nI n) (hn : n ≤ 64) (hr : rCorr x m o n en a = .inr ("java/lang/ArithmeticException", wx x m o)) : zC l yL_correct (Jvm.Cond.codeWith yL_correct bL_correct 5 (some .int) [(0, 10, 13, 13), (0, 10, 17, 25), (0, 10, 21, 15), (0, 10, 25, 17), (0, 10, 29, 19)] :: Tw) 5 false 1 6 [.ref 0, .int en, .int a, .ref 10] (wx x m o) (.inl (some (.int 5), wx x m o)) := by
  refine zC_ofW [some (.ref 0), some (.int en), some (.int a), some (.ref 10), none] (by decide) rfl (Nat.le_of_ble_eq_true rfl) ?_
  intro p e s mm args below meth c D cI cJ as G hret hex hbd
  refine zz_aload_n G dL_correct_0 rfl ?_
  refine zz_iconst (v := 0) G dL_correct_1 (by decide) ?_
  refine zz_aload_n G dL_correct_2 rfl ?_
  refine zz_iload_n G dL_correct_3 rfl ?_
  refine zz_iload_n G dL_correct_4 rfl ?_
  refine zz_catch2 (As := [.int en, .int a]) (rest := [.int 0, .ref 10]) (w' := (wx x m o)) (Xn := "java/lang/ArithmeticException") G (by have q := cx_correct l hfl x m o n en a hvc hn; rw [hr] at q; exact q) kL_21 dL_correct_5 rfl rfl rfl rfl (Nat.le_of_ble_eq_true rfl) (fun h => by cases h) ⟨Nat.le_of_ble_eq_true rfl, Nat.le_of_ble_eq_true rfl⟩ ⟨Nat.le_of_ble_eq_true rfl, Nat.le_of_ble_eq_true rfl⟩ [(0, 10, 13, 13), (0, 10, 17, 25), (0, 10, 21, 15), (0, 10, 25, 17)] [] (q := (0, 10, 29, 19)) hex ⟨Nat.le_of_ble_eq_true rfl, Nat.le_of_ble_eq_true rfl⟩ (by decide) tl_131 tl_274 (List.forall_mem_cons.mpr ⟨⟨by decide, "java/lang/IllegalStateException", tl_128, tn_AE_ISE⟩, (List.forall_mem_cons.mpr ⟨⟨by decide, "java/util/NoSuchElementException", tl_295, tn_AE_NSE⟩, (List.forall_mem_cons.mpr ⟨⟨by decide, "java/lang/IllegalArgumentException", tl_129, tn_AE_IAE⟩, (List.forall_mem_cons.mpr ⟨⟨by decide, "java/lang/UnsupportedOperationException", tl_130, tn_AE_UOE⟩, (fun _ h => absurd h List.not_mem_nil)⟩)⟩)⟩)⟩) dL_correct_29 (Nat.le_of_ble_eq_true rfl) ?_
  refine zz_iconst (v := 5) G dL_correct_31 (by decide) ?_
  exact zz_iret G hret dL_correct_32 rfl (Nat.le_of_ble_eq_true rfl) (Nat.le_of_ble_eq_true rfl)
set_option maxRecDepth 100000 in
set_option maxHeartbeats 4000000 in
theorem ch_annul_ok (l : Launch) (hfl : l.flags = Jvm.pinnedFlags ++ [Jvm.noTraceFlag]) (x : XS) (m : MS) (o : Nat → Int64) (n : Nat) (en : Int32) (hvc : fx_vc x = nI n) (hn : n ≤ 64) (v : Int32) (x1 : XS) (hr : rAnn x m o n en = .inl (some (.int v), wx x1 m o)) : zC l yL_annul (Jvm.Cond.codeWith yL_annul bL_annul 4 (some .int) [(0, 9, 12, 13), (0, 9, 15, 25), (0, 9, 18, 17)] :: Tw) 5 false 1 6 [.ref 0, .int en, .ref 10] (wx x m o) (.inl (some (.int 0), wx x1 m (vp_updL o 0 v.toInt64))) := by
  refine zC_ofW [some (.ref 0), some (.int en), some (.ref 10), none] (by decide) rfl (Nat.le_of_ble_eq_true rfl) ?_
  intro p e s mm args below meth c D cI cJ as G hret hex hbd
  refine zz_aload_n G dL_annul_0 rfl ?_
  refine zz_iconst (v := 0) G dL_annul_1 (by decide) ?_
  refine zz_aload_n G dL_annul_2 rfl ?_
  refine zz_iload_n G dL_annul_3 rfl ?_
  refine zz_callVi (v := v) (w' := (wx x1 m o)) (As := [.int en]) (rest := [.int 0, .ref 10]) G (by have q := cx_annul l hfl x m o n en hvc hn; rw [hr] at q; exact q) kL_27 dL_annul_4 rfl rfl rfl rfl (Nat.le_of_ble_eq_true rfl) (fun h => by cases h) ⟨Nat.le_of_ble_eq_true rfl, Nat.le_of_ble_eq_true rfl⟩ ⟨Nat.le_of_ble_eq_true rfl, Nat.le_of_ble_eq_true rfl⟩ ?_
  refine zz_i2l G dL_annul_7 ?_
  refine zz_last (w' := (wx x1 m (vp_updL o 0 v.toInt64))) rfl G dL_annul_8 rfl (by rw [← nI_0]; exact vp_in_nI (by omega) (by omega)) (rfl) ?_
  refine zz_goto (tgt := 21) G dL_annul_9 rfl ?_
  refine zz_iconst (v := 0) G dL_annul_21 (by decide) ?_
  exact zz_iret G hret dL_annul_22 (rfl) (Nat.le_of_ble_eq_true rfl) (Nat.le_of_ble_eq_true rfl)
set_option maxRecDepth 100000 in
set_option maxHeartbeats 4000000 in
theorem ch_annul_ISE (l : Launch) (hfl : l.flags = Jvm.pinnedFlags ++ [Jvm.noTraceFlag]) (x : XS) (m : MS) (o : Nat → Int64) (n : Nat) (en : Int32) (hvc : fx_vc x = nI n) (hn : n ≤ 64) (hr : rAnn x m o n en = .inr ("java/lang/IllegalStateException", wx x m o)) : zC l yL_annul (Jvm.Cond.codeWith yL_annul bL_annul 4 (some .int) [(0, 9, 12, 13), (0, 9, 15, 25), (0, 9, 18, 17)] :: Tw) 5 false 1 6 [.ref 0, .int en, .ref 10] (wx x m o) (.inl (some (.int 1), wx x m o)) := by
  refine zC_ofW [some (.ref 0), some (.int en), some (.ref 10), none] (by decide) rfl (Nat.le_of_ble_eq_true rfl) ?_
  intro p e s mm args below meth c D cI cJ as G hret hex hbd
  refine zz_aload_n G dL_annul_0 rfl ?_
  refine zz_iconst (v := 0) G dL_annul_1 (by decide) ?_
  refine zz_aload_n G dL_annul_2 rfl ?_
  refine zz_iload_n G dL_annul_3 rfl ?_
  refine zz_catch1 (As := [.int en]) (rest := [.int 0, .ref 10]) (w' := (wx x m o)) (Xn := "java/lang/IllegalStateException") G (by have q := cx_annul l hfl x m o n en hvc hn; rw [hr] at q; exact q) kL_27 dL_annul_4 rfl rfl rfl rfl (Nat.le_of_ble_eq_true rfl) (fun h => by cases h) ⟨Nat.le_of_ble_eq_true rfl, Nat.le_of_ble_eq_true rfl⟩ ⟨Nat.le_of_ble_eq_true rfl, Nat.le_of_ble_eq_true rfl⟩ [] [(0, 9, 15, 25), (0, 9, 18, 17)] (q := (0, 9, 12, 13)) hex ⟨Nat.le_of_ble_eq_true rfl, Nat.le_of_ble_eq_true rfl⟩ (by decide) tl_128 tl_142 (fun _ h => absurd h List.not_mem_nil) dL_annul_12 (Nat.le_of_ble_eq_true rfl) ?_
  refine zz_iconst (v := 1) G dL_annul_13 (by decide) ?_
  exact zz_iret G hret dL_annul_14 rfl (Nat.le_of_ble_eq_true rfl) (Nat.le_of_ble_eq_true rfl)
set_option maxRecDepth 100000 in
set_option maxHeartbeats 4000000 in
theorem ch_annul_NSE (l : Launch) (hfl : l.flags = Jvm.pinnedFlags ++ [Jvm.noTraceFlag]) (x : XS) (m : MS) (o : Nat → Int64) (n : Nat) (en : Int32) (hvc : fx_vc x = nI n) (hn : n ≤ 64) (hr : rAnn x m o n en = .inr ("java/util/NoSuchElementException", wx x m o)) : zC l yL_annul (Jvm.Cond.codeWith yL_annul bL_annul 4 (some .int) [(0, 9, 12, 13), (0, 9, 15, 25), (0, 9, 18, 17)] :: Tw) 5 false 1 6 [.ref 0, .int en, .ref 10] (wx x m o) (.inl (some (.int 2), wx x m o)) := by
  refine zC_ofW [some (.ref 0), some (.int en), some (.ref 10), none] (by decide) rfl (Nat.le_of_ble_eq_true rfl) ?_
  intro p e s mm args below meth c D cI cJ as G hret hex hbd
  refine zz_aload_n G dL_annul_0 rfl ?_
  refine zz_iconst (v := 0) G dL_annul_1 (by decide) ?_
  refine zz_aload_n G dL_annul_2 rfl ?_
  refine zz_iload_n G dL_annul_3 rfl ?_
  refine zz_catch1 (As := [.int en]) (rest := [.int 0, .ref 10]) (w' := (wx x m o)) (Xn := "java/util/NoSuchElementException") G (by have q := cx_annul l hfl x m o n en hvc hn; rw [hr] at q; exact q) kL_27 dL_annul_4 rfl rfl rfl rfl (Nat.le_of_ble_eq_true rfl) (fun h => by cases h) ⟨Nat.le_of_ble_eq_true rfl, Nat.le_of_ble_eq_true rfl⟩ ⟨Nat.le_of_ble_eq_true rfl, Nat.le_of_ble_eq_true rfl⟩ [(0, 9, 12, 13)] [(0, 9, 18, 17)] (q := (0, 9, 15, 25)) hex ⟨Nat.le_of_ble_eq_true rfl, Nat.le_of_ble_eq_true rfl⟩ (by decide) tl_295 tl_310 (List.forall_mem_cons.mpr ⟨⟨by decide, "java/lang/IllegalStateException", tl_128, tn_NSE_ISE⟩, (fun _ h => absurd h List.not_mem_nil)⟩) dL_annul_15 (Nat.le_of_ble_eq_true rfl) ?_
  refine zz_iconst (v := 2) G dL_annul_16 (by decide) ?_
  exact zz_iret G hret dL_annul_17 rfl (Nat.le_of_ble_eq_true rfl) (Nat.le_of_ble_eq_true rfl)
set_option maxRecDepth 100000 in
set_option maxHeartbeats 4000000 in
theorem ch_annul_UOE (l : Launch) (hfl : l.flags = Jvm.pinnedFlags ++ [Jvm.noTraceFlag]) (x : XS) (m : MS) (o : Nat → Int64) (n : Nat) (en : Int32) (hvc : fx_vc x = nI n) (hn : n ≤ 64) (hr : rAnn x m o n en = .inr ("java/lang/UnsupportedOperationException", wx x m o)) : zC l yL_annul (Jvm.Cond.codeWith yL_annul bL_annul 4 (some .int) [(0, 9, 12, 13), (0, 9, 15, 25), (0, 9, 18, 17)] :: Tw) 5 false 1 6 [.ref 0, .int en, .ref 10] (wx x m o) (.inl (some (.int 3), wx x m o)) := by
  refine zC_ofW [some (.ref 0), some (.int en), some (.ref 10), none] (by decide) rfl (Nat.le_of_ble_eq_true rfl) ?_
  intro p e s mm args below meth c D cI cJ as G hret hex hbd
  refine zz_aload_n G dL_annul_0 rfl ?_
  refine zz_iconst (v := 0) G dL_annul_1 (by decide) ?_
  refine zz_aload_n G dL_annul_2 rfl ?_
  refine zz_iload_n G dL_annul_3 rfl ?_
  refine zz_catch1 (As := [.int en]) (rest := [.int 0, .ref 10]) (w' := (wx x m o)) (Xn := "java/lang/UnsupportedOperationException") G (by have q := cx_annul l hfl x m o n en hvc hn; rw [hr] at q; exact q) kL_27 dL_annul_4 rfl rfl rfl rfl (Nat.le_of_ble_eq_true rfl) (fun h => by cases h) ⟨Nat.le_of_ble_eq_true rfl, Nat.le_of_ble_eq_true rfl⟩ ⟨Nat.le_of_ble_eq_true rfl, Nat.le_of_ble_eq_true rfl⟩ [(0, 9, 12, 13), (0, 9, 15, 25)] [] (q := (0, 9, 18, 17)) hex ⟨Nat.le_of_ble_eq_true rfl, Nat.le_of_ble_eq_true rfl⟩ (by decide) tl_130 tl_241 (List.forall_mem_cons.mpr ⟨⟨by decide, "java/lang/IllegalStateException", tl_128, tn_UOE_ISE⟩, (List.forall_mem_cons.mpr ⟨⟨by decide, "java/util/NoSuchElementException", tl_295, tn_UOE_NSE⟩, (fun _ h => absurd h List.not_mem_nil)⟩)⟩) dL_annul_18 (Nat.le_of_ble_eq_true rfl) ?_
  refine zz_iconst (v := 3) G dL_annul_19 (by decide) ?_
  exact zz_iret G hret dL_annul_20 rfl (Nat.le_of_ble_eq_true rfl) (Nat.le_of_ble_eq_true rfl)
set_option maxRecDepth 100000 in
set_option maxHeartbeats 4000000 in
theorem ch_balance_ok (l : Launch) (hfl : l.flags = Jvm.pinnedFlags ++ [Jvm.noTraceFlag]) (x : XS) (m : MS) (o : Nat → Int64) (n : Nat) (a d it : Int32) (hvc : fx_vc x = nI n) (hn : n ≤ 64) (v : Int32) (x1 : XS) (hr : rBal x m o a d it = .inl (some (.int v), wx x1 m o)) : zC l yL_balance (Jvm.Cond.codeWith yL_balance bL_balance 6 (some .int) [(0, 12, 15, 13), (0, 12, 19, 15)] :: Tw) 5 false 1 6 [.ref 0, .int a, .int d, .int it, .ref 10] (wx x m o) (.inl (some (.int 0), wx x1 m (vp_updL o 0 v.toInt64))) := by
  refine zC_ofW [some (.ref 0), some (.int a), some (.int d), some (.int it), some (.ref 10), none] (by decide) rfl (Nat.le_of_ble_eq_true rfl) ?_
  intro p e s mm args below meth c D cI cJ as G hret hex hbd
  refine zz_aload G dL_balance_0 rfl ?_
  refine zz_iconst (v := 0) G dL_balance_2 (by decide) ?_
  refine zz_aload_n G dL_balance_3 rfl ?_
  refine zz_iload_n G dL_balance_4 rfl ?_
  refine zz_iload_n G dL_balance_5 rfl ?_
  refine zz_iload_n G dL_balance_6 rfl ?_
  refine zz_callVi (v := v) (w' := (wx x1 m o)) (As := [.int a, .int d, .int it]) (rest := [.int 0, .ref 10]) G (by have q := cx_balance l hfl x m o n a d it hvc hn; rw [hr] at q; exact q) kL_31 dL_balance_7 rfl rfl rfl rfl (Nat.le_of_ble_eq_true rfl) (fun h => by cases h) ⟨Nat.le_of_ble_eq_true rfl, Nat.le_of_ble_eq_true rfl⟩ ⟨Nat.le_of_ble_eq_true rfl, Nat.le_of_ble_eq_true rfl⟩ ?_
  refine zz_i2l G dL_balance_10 ?_
  refine zz_last (w' := (wx x1 m (vp_updL o 0 v.toInt64))) rfl G dL_balance_11 rfl (by rw [← nI_0]; exact vp_in_nI (by omega) (by omega)) (rfl) ?_
  refine zz_goto (tgt := 23) G dL_balance_12 rfl ?_
  refine zz_iconst (v := 0) G dL_balance_23 (by decide) ?_
  exact zz_iret G hret dL_balance_24 (rfl) (Nat.le_of_ble_eq_true rfl) (Nat.le_of_ble_eq_true rfl)
set_option maxRecDepth 100000 in
set_option maxHeartbeats 4000000 in
theorem ch_balance_ISE (l : Launch) (hfl : l.flags = Jvm.pinnedFlags ++ [Jvm.noTraceFlag]) (x : XS) (m : MS) (o : Nat → Int64) (n : Nat) (a d it : Int32) (hvc : fx_vc x = nI n) (hn : n ≤ 64) (hr : rBal x m o a d it = .inr ("java/lang/IllegalStateException", wx x m o)) : zC l yL_balance (Jvm.Cond.codeWith yL_balance bL_balance 6 (some .int) [(0, 12, 15, 13), (0, 12, 19, 15)] :: Tw) 5 false 1 6 [.ref 0, .int a, .int d, .int it, .ref 10] (wx x m o) (.inl (some (.int 1), wx x m o)) := by
  refine zC_ofW [some (.ref 0), some (.int a), some (.int d), some (.int it), some (.ref 10), none] (by decide) rfl (Nat.le_of_ble_eq_true rfl) ?_
  intro p e s mm args below meth c D cI cJ as G hret hex hbd
  refine zz_aload G dL_balance_0 rfl ?_
  refine zz_iconst (v := 0) G dL_balance_2 (by decide) ?_
  refine zz_aload_n G dL_balance_3 rfl ?_
  refine zz_iload_n G dL_balance_4 rfl ?_
  refine zz_iload_n G dL_balance_5 rfl ?_
  refine zz_iload_n G dL_balance_6 rfl ?_
  refine zz_catch2 (As := [.int a, .int d, .int it]) (rest := [.int 0, .ref 10]) (w' := (wx x m o)) (Xn := "java/lang/IllegalStateException") G (by have q := cx_balance l hfl x m o n a d it hvc hn; rw [hr] at q; exact q) kL_31 dL_balance_7 rfl rfl rfl rfl (Nat.le_of_ble_eq_true rfl) (fun h => by cases h) ⟨Nat.le_of_ble_eq_true rfl, Nat.le_of_ble_eq_true rfl⟩ ⟨Nat.le_of_ble_eq_true rfl, Nat.le_of_ble_eq_true rfl⟩ [] [(0, 12, 19, 15)] (q := (0, 12, 15, 13)) hex ⟨Nat.le_of_ble_eq_true rfl, Nat.le_of_ble_eq_true rfl⟩ (by decide) tl_128 tl_142 (fun _ h => absurd h List.not_mem_nil) dL_balance_15 (Nat.le_of_ble_eq_true rfl) ?_
  refine zz_iconst (v := 1) G dL_balance_17 (by decide) ?_
  exact zz_iret G hret dL_balance_18 rfl (Nat.le_of_ble_eq_true rfl) (Nat.le_of_ble_eq_true rfl)
set_option maxRecDepth 100000 in
set_option maxHeartbeats 4000000 in
theorem ch_balance_IAE (l : Launch) (hfl : l.flags = Jvm.pinnedFlags ++ [Jvm.noTraceFlag]) (x : XS) (m : MS) (o : Nat → Int64) (n : Nat) (a d it : Int32) (hvc : fx_vc x = nI n) (hn : n ≤ 64) (hr : rBal x m o a d it = .inr ("java/lang/IllegalArgumentException", wx x m o)) : zC l yL_balance (Jvm.Cond.codeWith yL_balance bL_balance 6 (some .int) [(0, 12, 15, 13), (0, 12, 19, 15)] :: Tw) 5 false 1 6 [.ref 0, .int a, .int d, .int it, .ref 10] (wx x m o) (.inl (some (.int 2), wx x m o)) := by
  refine zC_ofW [some (.ref 0), some (.int a), some (.int d), some (.int it), some (.ref 10), none] (by decide) rfl (Nat.le_of_ble_eq_true rfl) ?_
  intro p e s mm args below meth c D cI cJ as G hret hex hbd
  refine zz_aload G dL_balance_0 rfl ?_
  refine zz_iconst (v := 0) G dL_balance_2 (by decide) ?_
  refine zz_aload_n G dL_balance_3 rfl ?_
  refine zz_iload_n G dL_balance_4 rfl ?_
  refine zz_iload_n G dL_balance_5 rfl ?_
  refine zz_iload_n G dL_balance_6 rfl ?_
  refine zz_catch2 (As := [.int a, .int d, .int it]) (rest := [.int 0, .ref 10]) (w' := (wx x m o)) (Xn := "java/lang/IllegalArgumentException") G (by have q := cx_balance l hfl x m o n a d it hvc hn; rw [hr] at q; exact q) kL_31 dL_balance_7 rfl rfl rfl rfl (Nat.le_of_ble_eq_true rfl) (fun h => by cases h) ⟨Nat.le_of_ble_eq_true rfl, Nat.le_of_ble_eq_true rfl⟩ ⟨Nat.le_of_ble_eq_true rfl, Nat.le_of_ble_eq_true rfl⟩ [(0, 12, 15, 13)] [] (q := (0, 12, 19, 15)) hex ⟨Nat.le_of_ble_eq_true rfl, Nat.le_of_ble_eq_true rfl⟩ (by decide) tl_129 tl_221 (List.forall_mem_cons.mpr ⟨⟨by decide, "java/lang/IllegalStateException", tl_128, tn_IAE_ISE⟩, (fun _ h => absurd h List.not_mem_nil)⟩) dL_balance_19 (Nat.le_of_ble_eq_true rfl) ?_
  refine zz_iconst (v := 2) G dL_balance_21 (by decide) ?_
  exact zz_iret G hret dL_balance_22 rfl (Nat.le_of_ble_eq_true rfl) (Nat.le_of_ble_eq_true rfl)
set_option maxRecDepth 100000 in
set_option maxHeartbeats 4000000 in
theorem ch_trial_ok (l : Launch) (hfl : l.flags = Jvm.pinnedFlags ++ [Jvm.noTraceFlag]) (x : XS) (m : MS) (o : Nat → Int64) (n : Nat) (d it : Int32) (hvc : fx_vc x = nI n) (hn : n ≤ 64) (v : Int32) (x1 : XS) (hr : rTrial x m o d it = .inl (some (.int v), wx x1 m o)) : zC l yL_trial (Jvm.Cond.codeWith yL_trial bL_trial 5 (some .int) [(0, 10, 13, 13), (0, 10, 17, 15)] :: Tw) 5 false 1 6 [.ref 0, .int d, .int it, .ref 10] (wx x m o) (.inl (some (.int 0), wx x1 m (vp_updL o 0 v.toInt64))) := by
  refine zC_ofW [some (.ref 0), some (.int d), some (.int it), some (.ref 10), none] (by decide) rfl (Nat.le_of_ble_eq_true rfl) ?_
  intro p e s mm args below meth c D cI cJ as G hret hex hbd
  refine zz_aload_n G dL_trial_0 rfl ?_
  refine zz_iconst (v := 0) G dL_trial_1 (by decide) ?_
  refine zz_aload_n G dL_trial_2 rfl ?_
  refine zz_iload_n G dL_trial_3 rfl ?_
  refine zz_iload_n G dL_trial_4 rfl ?_
  refine zz_callVi (v := v) (w' := (wx x1 m o)) (As := [.int d, .int it]) (rest := [.int 0, .ref 10]) G (by have q := cx_trial l hfl x m o n d it hvc hn; rw [hr] at q; exact q) kL_35 dL_trial_5 rfl rfl rfl rfl (Nat.le_of_ble_eq_true rfl) (fun h => by cases h) ⟨Nat.le_of_ble_eq_true rfl, Nat.le_of_ble_eq_true rfl⟩ ⟨Nat.le_of_ble_eq_true rfl, Nat.le_of_ble_eq_true rfl⟩ ?_
  refine zz_i2l G dL_trial_8 ?_
  refine zz_last (w' := (wx x1 m (vp_updL o 0 v.toInt64))) rfl G dL_trial_9 rfl (by rw [← nI_0]; exact vp_in_nI (by omega) (by omega)) (rfl) ?_
  refine zz_goto (tgt := 21) G dL_trial_10 rfl ?_
  refine zz_iconst (v := 0) G dL_trial_21 (by decide) ?_
  exact zz_iret G hret dL_trial_22 (rfl) (Nat.le_of_ble_eq_true rfl) (Nat.le_of_ble_eq_true rfl)
set_option maxRecDepth 100000 in
set_option maxHeartbeats 4000000 in
theorem ch_trial_ISE (l : Launch) (hfl : l.flags = Jvm.pinnedFlags ++ [Jvm.noTraceFlag]) (x : XS) (m : MS) (o : Nat → Int64) (n : Nat) (d it : Int32) (hvc : fx_vc x = nI n) (hn : n ≤ 64) (hr : rTrial x m o d it = .inr ("java/lang/IllegalStateException", wx x m o)) : zC l yL_trial (Jvm.Cond.codeWith yL_trial bL_trial 5 (some .int) [(0, 10, 13, 13), (0, 10, 17, 15)] :: Tw) 5 false 1 6 [.ref 0, .int d, .int it, .ref 10] (wx x m o) (.inl (some (.int 1), wx x m o)) := by
  refine zC_ofW [some (.ref 0), some (.int d), some (.int it), some (.ref 10), none] (by decide) rfl (Nat.le_of_ble_eq_true rfl) ?_
  intro p e s mm args below meth c D cI cJ as G hret hex hbd
  refine zz_aload_n G dL_trial_0 rfl ?_
  refine zz_iconst (v := 0) G dL_trial_1 (by decide) ?_
  refine zz_aload_n G dL_trial_2 rfl ?_
  refine zz_iload_n G dL_trial_3 rfl ?_
  refine zz_iload_n G dL_trial_4 rfl ?_
  refine zz_catch2 (As := [.int d, .int it]) (rest := [.int 0, .ref 10]) (w' := (wx x m o)) (Xn := "java/lang/IllegalStateException") G (by have q := cx_trial l hfl x m o n d it hvc hn; rw [hr] at q; exact q) kL_35 dL_trial_5 rfl rfl rfl rfl (Nat.le_of_ble_eq_true rfl) (fun h => by cases h) ⟨Nat.le_of_ble_eq_true rfl, Nat.le_of_ble_eq_true rfl⟩ ⟨Nat.le_of_ble_eq_true rfl, Nat.le_of_ble_eq_true rfl⟩ [] [(0, 10, 17, 15)] (q := (0, 10, 13, 13)) hex ⟨Nat.le_of_ble_eq_true rfl, Nat.le_of_ble_eq_true rfl⟩ (by decide) tl_128 tl_142 (fun _ h => absurd h List.not_mem_nil) dL_trial_13 (Nat.le_of_ble_eq_true rfl) ?_
  refine zz_iconst (v := 1) G dL_trial_15 (by decide) ?_
  exact zz_iret G hret dL_trial_16 rfl (Nat.le_of_ble_eq_true rfl) (Nat.le_of_ble_eq_true rfl)
set_option maxRecDepth 100000 in
set_option maxHeartbeats 4000000 in
theorem ch_trial_IAE (l : Launch) (hfl : l.flags = Jvm.pinnedFlags ++ [Jvm.noTraceFlag]) (x : XS) (m : MS) (o : Nat → Int64) (n : Nat) (d it : Int32) (hvc : fx_vc x = nI n) (hn : n ≤ 64) (hr : rTrial x m o d it = .inr ("java/lang/IllegalArgumentException", wx x m o)) : zC l yL_trial (Jvm.Cond.codeWith yL_trial bL_trial 5 (some .int) [(0, 10, 13, 13), (0, 10, 17, 15)] :: Tw) 5 false 1 6 [.ref 0, .int d, .int it, .ref 10] (wx x m o) (.inl (some (.int 2), wx x m o)) := by
  refine zC_ofW [some (.ref 0), some (.int d), some (.int it), some (.ref 10), none] (by decide) rfl (Nat.le_of_ble_eq_true rfl) ?_
  intro p e s mm args below meth c D cI cJ as G hret hex hbd
  refine zz_aload_n G dL_trial_0 rfl ?_
  refine zz_iconst (v := 0) G dL_trial_1 (by decide) ?_
  refine zz_aload_n G dL_trial_2 rfl ?_
  refine zz_iload_n G dL_trial_3 rfl ?_
  refine zz_iload_n G dL_trial_4 rfl ?_
  refine zz_catch2 (As := [.int d, .int it]) (rest := [.int 0, .ref 10]) (w' := (wx x m o)) (Xn := "java/lang/IllegalArgumentException") G (by have q := cx_trial l hfl x m o n d it hvc hn; rw [hr] at q; exact q) kL_35 dL_trial_5 rfl rfl rfl rfl (Nat.le_of_ble_eq_true rfl) (fun h => by cases h) ⟨Nat.le_of_ble_eq_true rfl, Nat.le_of_ble_eq_true rfl⟩ ⟨Nat.le_of_ble_eq_true rfl, Nat.le_of_ble_eq_true rfl⟩ [(0, 10, 13, 13)] [] (q := (0, 10, 17, 15)) hex ⟨Nat.le_of_ble_eq_true rfl, Nat.le_of_ble_eq_true rfl⟩ (by decide) tl_129 tl_221 (List.forall_mem_cons.mpr ⟨⟨by decide, "java/lang/IllegalStateException", tl_128, tn_IAE_ISE⟩, (fun _ h => absurd h List.not_mem_nil)⟩) dL_trial_17 (Nat.le_of_ble_eq_true rfl) ?_
  refine zz_iconst (v := 2) G dL_trial_19 (by decide) ?_
  exact zz_iret G hret dL_trial_20 rfl (Nat.le_of_ble_eq_true rfl) (Nat.le_of_ble_eq_true rfl)
set_option maxRecDepth 100000 in
set_option maxHeartbeats 4000000 in
theorem ch_turnover_ok (l : Launch) (hfl : l.flags = Jvm.pinnedFlags ++ [Jvm.noTraceFlag]) (x : XS) (m : MS) (o : Nat → Int64) (n : Nat) (a : Int32) (hvc : fx_vc x = nI n) (hn : n ≤ 64) (v : Int32) (x1 : XS) (hr : rTurn x m o n a = .inl (some (.int v), wx x1 m o)) : zC l yL_turnover (Jvm.Cond.codeWith yL_turnover bL_turnover 4 (some .int) [(0, 9, 12, 13), (0, 9, 15, 15)] :: Tw) 5 false 1 6 [.ref 0, .int a, .ref 10] (wx x m o) (.inl (some (.int 0), wx x1 m (vp_updL o 0 v.toInt64))) := by
  refine zC_ofW [some (.ref 0), some (.int a), some (.ref 10), none] (by decide) rfl (Nat.le_of_ble_eq_true rfl) ?_
  intro p e s mm args below meth c D cI cJ as G hret hex hbd
  refine zz_aload_n G dL_turnover_0 rfl ?_
  refine zz_iconst (v := 0) G dL_turnover_1 (by decide) ?_
  refine zz_aload_n G dL_turnover_2 rfl ?_
  refine zz_iload_n G dL_turnover_3 rfl ?_
  refine zz_callVi (v := v) (w' := (wx x1 m o)) (As := [.int a]) (rest := [.int 0, .ref 10]) G (by have q := cx_turnover l hfl x m o n a hvc hn; rw [hr] at q; exact q) kL_38 dL_turnover_4 rfl rfl rfl rfl (Nat.le_of_ble_eq_true rfl) (fun h => by cases h) ⟨Nat.le_of_ble_eq_true rfl, Nat.le_of_ble_eq_true rfl⟩ ⟨Nat.le_of_ble_eq_true rfl, Nat.le_of_ble_eq_true rfl⟩ ?_
  refine zz_i2l G dL_turnover_7 ?_
  refine zz_last (w' := (wx x1 m (vp_updL o 0 v.toInt64))) rfl G dL_turnover_8 rfl (by rw [← nI_0]; exact vp_in_nI (by omega) (by omega)) (rfl) ?_
  refine zz_goto (tgt := 18) G dL_turnover_9 rfl ?_
  refine zz_iconst (v := 0) G dL_turnover_18 (by decide) ?_
  exact zz_iret G hret dL_turnover_19 (rfl) (Nat.le_of_ble_eq_true rfl) (Nat.le_of_ble_eq_true rfl)
set_option maxRecDepth 100000 in
set_option maxHeartbeats 4000000 in
theorem ch_turnover_ISE (l : Launch) (hfl : l.flags = Jvm.pinnedFlags ++ [Jvm.noTraceFlag]) (x : XS) (m : MS) (o : Nat → Int64) (n : Nat) (a : Int32) (hvc : fx_vc x = nI n) (hn : n ≤ 64) (hr : rTurn x m o n a = .inr ("java/lang/IllegalStateException", wx x m o)) : zC l yL_turnover (Jvm.Cond.codeWith yL_turnover bL_turnover 4 (some .int) [(0, 9, 12, 13), (0, 9, 15, 15)] :: Tw) 5 false 1 6 [.ref 0, .int a, .ref 10] (wx x m o) (.inl (some (.int 1), wx x m o)) := by
  refine zC_ofW [some (.ref 0), some (.int a), some (.ref 10), none] (by decide) rfl (Nat.le_of_ble_eq_true rfl) ?_
  intro p e s mm args below meth c D cI cJ as G hret hex hbd
  refine zz_aload_n G dL_turnover_0 rfl ?_
  refine zz_iconst (v := 0) G dL_turnover_1 (by decide) ?_
  refine zz_aload_n G dL_turnover_2 rfl ?_
  refine zz_iload_n G dL_turnover_3 rfl ?_
  refine zz_catch1 (As := [.int a]) (rest := [.int 0, .ref 10]) (w' := (wx x m o)) (Xn := "java/lang/IllegalStateException") G (by have q := cx_turnover l hfl x m o n a hvc hn; rw [hr] at q; exact q) kL_38 dL_turnover_4 rfl rfl rfl rfl (Nat.le_of_ble_eq_true rfl) (fun h => by cases h) ⟨Nat.le_of_ble_eq_true rfl, Nat.le_of_ble_eq_true rfl⟩ ⟨Nat.le_of_ble_eq_true rfl, Nat.le_of_ble_eq_true rfl⟩ [] [(0, 9, 15, 15)] (q := (0, 9, 12, 13)) hex ⟨Nat.le_of_ble_eq_true rfl, Nat.le_of_ble_eq_true rfl⟩ (by decide) tl_128 tl_142 (fun _ h => absurd h List.not_mem_nil) dL_turnover_12 (Nat.le_of_ble_eq_true rfl) ?_
  refine zz_iconst (v := 1) G dL_turnover_13 (by decide) ?_
  exact zz_iret G hret dL_turnover_14 rfl (Nat.le_of_ble_eq_true rfl) (Nat.le_of_ble_eq_true rfl)
set_option maxRecDepth 100000 in
set_option maxHeartbeats 4000000 in
theorem ch_turnover_IAE (l : Launch) (hfl : l.flags = Jvm.pinnedFlags ++ [Jvm.noTraceFlag]) (x : XS) (m : MS) (o : Nat → Int64) (n : Nat) (a : Int32) (hvc : fx_vc x = nI n) (hn : n ≤ 64) (hr : rTurn x m o n a = .inr ("java/lang/IllegalArgumentException", wx x m o)) : zC l yL_turnover (Jvm.Cond.codeWith yL_turnover bL_turnover 4 (some .int) [(0, 9, 12, 13), (0, 9, 15, 15)] :: Tw) 5 false 1 6 [.ref 0, .int a, .ref 10] (wx x m o) (.inl (some (.int 2), wx x m o)) := by
  refine zC_ofW [some (.ref 0), some (.int a), some (.ref 10), none] (by decide) rfl (Nat.le_of_ble_eq_true rfl) ?_
  intro p e s mm args below meth c D cI cJ as G hret hex hbd
  refine zz_aload_n G dL_turnover_0 rfl ?_
  refine zz_iconst (v := 0) G dL_turnover_1 (by decide) ?_
  refine zz_aload_n G dL_turnover_2 rfl ?_
  refine zz_iload_n G dL_turnover_3 rfl ?_
  refine zz_catch1 (As := [.int a]) (rest := [.int 0, .ref 10]) (w' := (wx x m o)) (Xn := "java/lang/IllegalArgumentException") G (by have q := cx_turnover l hfl x m o n a hvc hn; rw [hr] at q; exact q) kL_38 dL_turnover_4 rfl rfl rfl rfl (Nat.le_of_ble_eq_true rfl) (fun h => by cases h) ⟨Nat.le_of_ble_eq_true rfl, Nat.le_of_ble_eq_true rfl⟩ ⟨Nat.le_of_ble_eq_true rfl, Nat.le_of_ble_eq_true rfl⟩ [(0, 9, 12, 13)] [] (q := (0, 9, 15, 15)) hex ⟨Nat.le_of_ble_eq_true rfl, Nat.le_of_ble_eq_true rfl⟩ (by decide) tl_129 tl_221 (List.forall_mem_cons.mpr ⟨⟨by decide, "java/lang/IllegalStateException", tl_128, tn_IAE_ISE⟩, (fun _ h => absurd h List.not_mem_nil)⟩) dL_turnover_15 (Nat.le_of_ble_eq_true rfl) ?_
  refine zz_iconst (v := 2) G dL_turnover_16 (by decide) ?_
  exact zz_iret G hret dL_turnover_17 rfl (Nat.le_of_ble_eq_true rfl) (Nat.le_of_ble_eq_true rfl)
set_option maxRecDepth 100000 in
set_option maxHeartbeats 4000000 in
theorem ch_open_ok (l : Launch) (hfl : l.flags = Jvm.pinnedFlags ++ [Jvm.noTraceFlag]) (x : XS) (m : MS) (o : Nat → Int64) (n e1 : Nat) (a f g it : Int32) (hvc : fx_vc x = nI n) (hn : n ≤ 64) (hI : fx_tam x = 0 → Inv (fx_words x) (fx_rep x) n e1) (v : Int32) (x1 : XS) (hr : rOpen x m o a f g it = .inl (some (.int v), wx x1 m o)) : zC l yL_open (Jvm.Cond.codeWith yL_open bL_open 7 (some .int) [(0, 14, 17, 13), (0, 14, 21, 15)] :: Tw) 5 false 1 6 [.ref 0, .int a, .int f, .int g, .int it, .ref 10] (wx x m o) (.inl (some (.int 0), wx x1 m (vp_updL o 0 v.toInt64))) := by
  refine zC_ofW [some (.ref 0), some (.int a), some (.int f), some (.int g), some (.int it), some (.ref 10), none] (by decide) rfl (Nat.le_of_ble_eq_true rfl) ?_
  intro p e s mm args below meth c D cI cJ as G hret hex hbd
  refine zz_aload G dL_open_0 rfl ?_
  refine zz_iconst (v := 0) G dL_open_2 (by decide) ?_
  refine zz_aload_n G dL_open_3 rfl ?_
  refine zz_iload_n G dL_open_4 rfl ?_
  refine zz_iload_n G dL_open_5 rfl ?_
  refine zz_iload_n G dL_open_6 rfl ?_
  refine zz_iload G dL_open_7 rfl ?_
  refine zz_callVi (v := v) (w' := (wx x1 m o)) (As := [.int a, .int f, .int g, .int it]) (rest := [.int 0, .ref 10]) G (by have q := cx_open l hfl x m o n e1 a f g it hvc hn hI; rw [hr] at q; exact q) kL_41 dL_open_9 rfl rfl rfl rfl (Nat.le_of_ble_eq_true rfl) (fun h => by cases h) ⟨Nat.le_of_ble_eq_true rfl, Nat.le_of_ble_eq_true rfl⟩ ⟨Nat.le_of_ble_eq_true rfl, Nat.le_of_ble_eq_true rfl⟩ ?_
  refine zz_i2l G dL_open_12 ?_
  refine zz_last (w' := (wx x1 m (vp_updL o 0 v.toInt64))) rfl G dL_open_13 rfl (by rw [← nI_0]; exact vp_in_nI (by omega) (by omega)) (rfl) ?_
  refine zz_goto (tgt := 25) G dL_open_14 rfl ?_
  refine zz_iconst (v := 0) G dL_open_25 (by decide) ?_
  exact zz_iret G hret dL_open_26 (rfl) (Nat.le_of_ble_eq_true rfl) (Nat.le_of_ble_eq_true rfl)
set_option maxRecDepth 100000 in
set_option maxHeartbeats 4000000 in
theorem ch_open_ISE (l : Launch) (hfl : l.flags = Jvm.pinnedFlags ++ [Jvm.noTraceFlag]) (x : XS) (m : MS) (o : Nat → Int64) (n e1 : Nat) (a f g it : Int32) (hvc : fx_vc x = nI n) (hn : n ≤ 64) (hI : fx_tam x = 0 → Inv (fx_words x) (fx_rep x) n e1) (hr : rOpen x m o a f g it = .inr ("java/lang/IllegalStateException", wx x m o)) : zC l yL_open (Jvm.Cond.codeWith yL_open bL_open 7 (some .int) [(0, 14, 17, 13), (0, 14, 21, 15)] :: Tw) 5 false 1 6 [.ref 0, .int a, .int f, .int g, .int it, .ref 10] (wx x m o) (.inl (some (.int 1), wx x m o)) := by
  refine zC_ofW [some (.ref 0), some (.int a), some (.int f), some (.int g), some (.int it), some (.ref 10), none] (by decide) rfl (Nat.le_of_ble_eq_true rfl) ?_
  intro p e s mm args below meth c D cI cJ as G hret hex hbd
  refine zz_aload G dL_open_0 rfl ?_
  refine zz_iconst (v := 0) G dL_open_2 (by decide) ?_
  refine zz_aload_n G dL_open_3 rfl ?_
  refine zz_iload_n G dL_open_4 rfl ?_
  refine zz_iload_n G dL_open_5 rfl ?_
  refine zz_iload_n G dL_open_6 rfl ?_
  refine zz_iload G dL_open_7 rfl ?_
  refine zz_catch2 (As := [.int a, .int f, .int g, .int it]) (rest := [.int 0, .ref 10]) (w' := (wx x m o)) (Xn := "java/lang/IllegalStateException") G (by have q := cx_open l hfl x m o n e1 a f g it hvc hn hI; rw [hr] at q; exact q) kL_41 dL_open_9 rfl rfl rfl rfl (Nat.le_of_ble_eq_true rfl) (fun h => by cases h) ⟨Nat.le_of_ble_eq_true rfl, Nat.le_of_ble_eq_true rfl⟩ ⟨Nat.le_of_ble_eq_true rfl, Nat.le_of_ble_eq_true rfl⟩ [] [(0, 14, 21, 15)] (q := (0, 14, 17, 13)) hex ⟨Nat.le_of_ble_eq_true rfl, Nat.le_of_ble_eq_true rfl⟩ (by decide) tl_128 tl_142 (fun _ h => absurd h List.not_mem_nil) dL_open_17 (Nat.le_of_ble_eq_true rfl) ?_
  refine zz_iconst (v := 1) G dL_open_19 (by decide) ?_
  exact zz_iret G hret dL_open_20 rfl (Nat.le_of_ble_eq_true rfl) (Nat.le_of_ble_eq_true rfl)
set_option maxRecDepth 100000 in
set_option maxHeartbeats 4000000 in
theorem ch_open_IAE (l : Launch) (hfl : l.flags = Jvm.pinnedFlags ++ [Jvm.noTraceFlag]) (x : XS) (m : MS) (o : Nat → Int64) (n e1 : Nat) (a f g it : Int32) (hvc : fx_vc x = nI n) (hn : n ≤ 64) (hI : fx_tam x = 0 → Inv (fx_words x) (fx_rep x) n e1) (hr : rOpen x m o a f g it = .inr ("java/lang/IllegalArgumentException", wx x m o)) : zC l yL_open (Jvm.Cond.codeWith yL_open bL_open 7 (some .int) [(0, 14, 17, 13), (0, 14, 21, 15)] :: Tw) 5 false 1 6 [.ref 0, .int a, .int f, .int g, .int it, .ref 10] (wx x m o) (.inl (some (.int 2), wx x m o)) := by
  refine zC_ofW [some (.ref 0), some (.int a), some (.int f), some (.int g), some (.int it), some (.ref 10), none] (by decide) rfl (Nat.le_of_ble_eq_true rfl) ?_
  intro p e s mm args below meth c D cI cJ as G hret hex hbd
  refine zz_aload G dL_open_0 rfl ?_
  refine zz_iconst (v := 0) G dL_open_2 (by decide) ?_
  refine zz_aload_n G dL_open_3 rfl ?_
  refine zz_iload_n G dL_open_4 rfl ?_
  refine zz_iload_n G dL_open_5 rfl ?_
  refine zz_iload_n G dL_open_6 rfl ?_
  refine zz_iload G dL_open_7 rfl ?_
  refine zz_catch2 (As := [.int a, .int f, .int g, .int it]) (rest := [.int 0, .ref 10]) (w' := (wx x m o)) (Xn := "java/lang/IllegalArgumentException") G (by have q := cx_open l hfl x m o n e1 a f g it hvc hn hI; rw [hr] at q; exact q) kL_41 dL_open_9 rfl rfl rfl rfl (Nat.le_of_ble_eq_true rfl) (fun h => by cases h) ⟨Nat.le_of_ble_eq_true rfl, Nat.le_of_ble_eq_true rfl⟩ ⟨Nat.le_of_ble_eq_true rfl, Nat.le_of_ble_eq_true rfl⟩ [(0, 14, 17, 13)] [] (q := (0, 14, 21, 15)) hex ⟨Nat.le_of_ble_eq_true rfl, Nat.le_of_ble_eq_true rfl⟩ (by decide) tl_129 tl_221 (List.forall_mem_cons.mpr ⟨⟨by decide, "java/lang/IllegalStateException", tl_128, tn_IAE_ISE⟩, (fun _ h => absurd h List.not_mem_nil)⟩) dL_open_21 (Nat.le_of_ble_eq_true rfl) ?_
  refine zz_iconst (v := 2) G dL_open_23 (by decide) ?_
  exact zz_iret G hret dL_open_24 rfl (Nat.le_of_ble_eq_true rfl) (Nat.le_of_ble_eq_true rfl)
set_option maxRecDepth 100000 in
set_option maxHeartbeats 4000000 in
theorem ch_next_ok (l : Launch) (hfl : l.flags = Jvm.pinnedFlags ++ [Jvm.noTraceFlag]) (x : XS) (m : MS) (o : Nat → Int64) (q z : Nat) (hq31 : q < 2 ^ 31) (hp : fx_place x = nI q) (hz : fx_size x = nI z) (hz64 : z ≤ 64) (hb : ∀ k, k < z → ∃ u, u < 64 ∧ fx_cur x k = nI u) (v : Int32) (x1 : XS) (hr : rNext x m o = .inl (some (.int v), wx x1 m o)) : zC l yL_next (Jvm.Cond.codeWith yL_next bL_next 3 (some .int) [(0, 8, 11, 13)] :: Tw) 5 false 1 6 [.ref 0, .ref 10] (wx x m o) (.inl (some (.int 0), wx x1 m (vp_updL o 0 v.toInt64))) := by
  refine zC_ofW [some (.ref 0), some (.ref 10), none] (by decide) rfl (Nat.le_of_ble_eq_true rfl) ?_
  intro p e s mm args below meth c D cI cJ as G hret hex hbd
  refine zz_aload_n G dL_next_0 rfl ?_
  refine zz_iconst (v := 0) G dL_next_1 (by decide) ?_
  refine zz_aload_n G dL_next_2 rfl ?_
  refine zz_callVi (v := v) (w' := (wx x1 m o)) (As := []) (rest := [.int 0, .ref 10]) G (by have q := cx_next l hfl x m o q z hq31 hp hz hz64 hb; rw [hr] at q; exact q) kL_44 dL_next_3 rfl rfl rfl rfl (Nat.le_of_ble_eq_true rfl) (fun h => by cases h) ⟨Nat.le_of_ble_eq_true rfl, Nat.le_of_ble_eq_true rfl⟩ ⟨Nat.le_of_ble_eq_true rfl, Nat.le_of_ble_eq_true rfl⟩ ?_
  refine zz_i2l G dL_next_6 ?_
  refine zz_last (w' := (wx x1 m (vp_updL o 0 v.toInt64))) rfl G dL_next_7 rfl (by rw [← nI_0]; exact vp_in_nI (by omega) (by omega)) (rfl) ?_
  refine zz_goto (tgt := 14) G dL_next_8 rfl ?_
  refine zz_iconst (v := 0) G dL_next_14 (by decide) ?_
  exact zz_iret G hret dL_next_15 (rfl) (Nat.le_of_ble_eq_true rfl) (Nat.le_of_ble_eq_true rfl)
set_option maxRecDepth 100000 in
set_option maxHeartbeats 4000000 in
theorem ch_next_ISE (l : Launch) (hfl : l.flags = Jvm.pinnedFlags ++ [Jvm.noTraceFlag]) (x : XS) (m : MS) (o : Nat → Int64) (q z : Nat) (hq31 : q < 2 ^ 31) (hp : fx_place x = nI q) (hz : fx_size x = nI z) (hz64 : z ≤ 64) (hb : ∀ k, k < z → ∃ u, u < 64 ∧ fx_cur x k = nI u) (hr : rNext x m o = .inr ("java/lang/IllegalStateException", wx x m o)) : zC l yL_next (Jvm.Cond.codeWith yL_next bL_next 3 (some .int) [(0, 8, 11, 13)] :: Tw) 5 false 1 6 [.ref 0, .ref 10] (wx x m o) (.inl (some (.int 1), wx x m o)) := by
  refine zC_ofW [some (.ref 0), some (.ref 10), none] (by decide) rfl (Nat.le_of_ble_eq_true rfl) ?_
  intro p e s mm args below meth c D cI cJ as G hret hex hbd
  refine zz_aload_n G dL_next_0 rfl ?_
  refine zz_iconst (v := 0) G dL_next_1 (by decide) ?_
  refine zz_aload_n G dL_next_2 rfl ?_
  refine zz_catch1 (As := []) (rest := [.int 0, .ref 10]) (w' := (wx x m o)) (Xn := "java/lang/IllegalStateException") G (by have q := cx_next l hfl x m o q z hq31 hp hz hz64 hb; rw [hr] at q; exact q) kL_44 dL_next_3 rfl rfl rfl rfl (Nat.le_of_ble_eq_true rfl) (fun h => by cases h) ⟨Nat.le_of_ble_eq_true rfl, Nat.le_of_ble_eq_true rfl⟩ ⟨Nat.le_of_ble_eq_true rfl, Nat.le_of_ble_eq_true rfl⟩ [] [] (q := (0, 8, 11, 13)) hex ⟨Nat.le_of_ble_eq_true rfl, Nat.le_of_ble_eq_true rfl⟩ (by decide) tl_128 tl_142 (fun _ h => absurd h List.not_mem_nil) dL_next_11 (Nat.le_of_ble_eq_true rfl) ?_
  refine zz_iconst (v := 1) G dL_next_12 (by decide) ?_
  exact zz_iret G hret dL_next_13 rfl (Nat.le_of_ble_eq_true rfl) (Nat.le_of_ble_eq_true rfl)
set_option maxRecDepth 100000 in
set_option maxHeartbeats 4000000 in
theorem ch_moved_ok (l : Launch) (hfl : l.flags = Jvm.pinnedFlags ++ [Jvm.noTraceFlag]) (x : XS) (m : MS) (o : Nat → Int64) (hl : fx_last x = -1 ∨ ∃ u, u < 64 ∧ fx_last x = nI u) (v : Int32) (x1 : XS) (hr : rMoved x m o = .inl (some (.int v), wx x1 m o)) : zC l yL_moved (Jvm.Cond.codeWith yL_moved bL_moved 3 (some .int) [(0, 8, 11, 13)] :: Tw) 5 false 1 6 [.ref 0, .ref 10] (wx x m o) (.inl (some (.int 0), wx x1 m (vp_updL o 0 v.toInt64))) := by
  refine zC_ofW [some (.ref 0), some (.ref 10), none] (by decide) rfl (Nat.le_of_ble_eq_true rfl) ?_
  intro p e s mm args below meth c D cI cJ as G hret hex hbd
  refine zz_aload_n G dL_moved_0 rfl ?_
  refine zz_iconst (v := 0) G dL_moved_1 (by decide) ?_
  refine zz_aload_n G dL_moved_2 rfl ?_
  refine zz_callVi (v := v) (w' := (wx x1 m o)) (As := []) (rest := [.int 0, .ref 10]) G (by have q := cx_moved l hfl x m o hl; rw [hr] at q; exact q) kL_48 dL_moved_3 rfl rfl rfl rfl (Nat.le_of_ble_eq_true rfl) (fun h => by cases h) ⟨Nat.le_of_ble_eq_true rfl, Nat.le_of_ble_eq_true rfl⟩ ⟨Nat.le_of_ble_eq_true rfl, Nat.le_of_ble_eq_true rfl⟩ ?_
  refine zz_i2l G dL_moved_6 ?_
  refine zz_last (w' := (wx x1 m (vp_updL o 0 v.toInt64))) rfl G dL_moved_7 rfl (by rw [← nI_0]; exact vp_in_nI (by omega) (by omega)) (rfl) ?_
  refine zz_goto (tgt := 14) G dL_moved_8 rfl ?_
  refine zz_iconst (v := 0) G dL_moved_14 (by decide) ?_
  exact zz_iret G hret dL_moved_15 (rfl) (Nat.le_of_ble_eq_true rfl) (Nat.le_of_ble_eq_true rfl)
set_option maxRecDepth 100000 in
set_option maxHeartbeats 4000000 in
theorem ch_moved_ISE (l : Launch) (hfl : l.flags = Jvm.pinnedFlags ++ [Jvm.noTraceFlag]) (x : XS) (m : MS) (o : Nat → Int64) (hl : fx_last x = -1 ∨ ∃ u, u < 64 ∧ fx_last x = nI u) (hr : rMoved x m o = .inr ("java/lang/IllegalStateException", wx x m o)) : zC l yL_moved (Jvm.Cond.codeWith yL_moved bL_moved 3 (some .int) [(0, 8, 11, 13)] :: Tw) 5 false 1 6 [.ref 0, .ref 10] (wx x m o) (.inl (some (.int 1), wx x m o)) := by
  refine zC_ofW [some (.ref 0), some (.ref 10), none] (by decide) rfl (Nat.le_of_ble_eq_true rfl) ?_
  intro p e s mm args below meth c D cI cJ as G hret hex hbd
  refine zz_aload_n G dL_moved_0 rfl ?_
  refine zz_iconst (v := 0) G dL_moved_1 (by decide) ?_
  refine zz_aload_n G dL_moved_2 rfl ?_
  refine zz_catch1 (As := []) (rest := [.int 0, .ref 10]) (w' := (wx x m o)) (Xn := "java/lang/IllegalStateException") G (by have q := cx_moved l hfl x m o hl; rw [hr] at q; exact q) kL_48 dL_moved_3 rfl rfl rfl rfl (Nat.le_of_ble_eq_true rfl) (fun h => by cases h) ⟨Nat.le_of_ble_eq_true rfl, Nat.le_of_ble_eq_true rfl⟩ ⟨Nat.le_of_ble_eq_true rfl, Nat.le_of_ble_eq_true rfl⟩ [] [] (q := (0, 8, 11, 13)) hex ⟨Nat.le_of_ble_eq_true rfl, Nat.le_of_ble_eq_true rfl⟩ (by decide) tl_128 tl_142 (fun _ h => absurd h List.not_mem_nil) dL_moved_11 (Nat.le_of_ble_eq_true rfl) ?_
  refine zz_iconst (v := 1) G dL_moved_12 (by decide) ?_
  exact zz_iret G hret dL_moved_13 rfl (Nat.le_of_ble_eq_true rfl) (Nat.le_of_ble_eq_true rfl)
set_option maxRecDepth 100000 in
set_option maxHeartbeats 4000000 in
theorem ch_field_ok (l : Launch) (hfl : l.flags = Jvm.pinnedFlags ++ [Jvm.noTraceFlag]) (x : XS) (m : MS) (o : Nat → Int64) (n : Nat) (en k it : Int32) (hvc : fx_vc x = nI n) (hn : n ≤ 64) (v : Int32) (x1 : XS) (hr : rField x m o en k it = .inl (some (.int v), wx x1 m o)) : zC l yL_field (Jvm.Cond.codeWith yL_field bL_field 6 (some .int) [(0, 12, 15, 13)] :: Tw) 5 false 1 6 [.ref 0, .int en, .int k, .int it, .ref 10] (wx x m o) (.inl (some (.int 0), wx x1 m (vp_updL o 0 v.toInt64))) := by
  refine zC_ofW [some (.ref 0), some (.int en), some (.int k), some (.int it), some (.ref 10), none] (by decide) rfl (Nat.le_of_ble_eq_true rfl) ?_
  intro p e s mm args below meth c D cI cJ as G hret hex hbd
  refine zz_aload G dL_field_0 rfl ?_
  refine zz_iconst (v := 0) G dL_field_2 (by decide) ?_
  refine zz_aload_n G dL_field_3 rfl ?_
  refine zz_iload_n G dL_field_4 rfl ?_
  refine zz_iload_n G dL_field_5 rfl ?_
  refine zz_iload_n G dL_field_6 rfl ?_
  refine zz_callVi (v := v) (w' := (wx x1 m o)) (As := [.int en, .int k, .int it]) (rest := [.int 0, .ref 10]) G (by have q := cx_field l hfl x m o n en k it hvc hn; rw [hr] at q; exact q) kL_51 dL_field_7 rfl rfl rfl rfl (Nat.le_of_ble_eq_true rfl) (fun h => by cases h) ⟨Nat.le_of_ble_eq_true rfl, Nat.le_of_ble_eq_true rfl⟩ ⟨Nat.le_of_ble_eq_true rfl, Nat.le_of_ble_eq_true rfl⟩ ?_
  refine zz_i2l G dL_field_10 ?_
  refine zz_last (w' := (wx x1 m (vp_updL o 0 v.toInt64))) rfl G dL_field_11 rfl (by rw [← nI_0]; exact vp_in_nI (by omega) (by omega)) (rfl) ?_
  refine zz_goto (tgt := 19) G dL_field_12 rfl ?_
  refine zz_iconst (v := 0) G dL_field_19 (by decide) ?_
  exact zz_iret G hret dL_field_20 (rfl) (Nat.le_of_ble_eq_true rfl) (Nat.le_of_ble_eq_true rfl)
set_option maxRecDepth 100000 in
set_option maxHeartbeats 4000000 in
theorem ch_field_ISE (l : Launch) (hfl : l.flags = Jvm.pinnedFlags ++ [Jvm.noTraceFlag]) (x : XS) (m : MS) (o : Nat → Int64) (n : Nat) (en k it : Int32) (hvc : fx_vc x = nI n) (hn : n ≤ 64) (hr : rField x m o en k it = .inr ("java/lang/IllegalStateException", wx x m o)) : zC l yL_field (Jvm.Cond.codeWith yL_field bL_field 6 (some .int) [(0, 12, 15, 13)] :: Tw) 5 false 1 6 [.ref 0, .int en, .int k, .int it, .ref 10] (wx x m o) (.inl (some (.int 1), wx x m o)) := by
  refine zC_ofW [some (.ref 0), some (.int en), some (.int k), some (.int it), some (.ref 10), none] (by decide) rfl (Nat.le_of_ble_eq_true rfl) ?_
  intro p e s mm args below meth c D cI cJ as G hret hex hbd
  refine zz_aload G dL_field_0 rfl ?_
  refine zz_iconst (v := 0) G dL_field_2 (by decide) ?_
  refine zz_aload_n G dL_field_3 rfl ?_
  refine zz_iload_n G dL_field_4 rfl ?_
  refine zz_iload_n G dL_field_5 rfl ?_
  refine zz_iload_n G dL_field_6 rfl ?_
  refine zz_catch2 (As := [.int en, .int k, .int it]) (rest := [.int 0, .ref 10]) (w' := (wx x m o)) (Xn := "java/lang/IllegalStateException") G (by have q := cx_field l hfl x m o n en k it hvc hn; rw [hr] at q; exact q) kL_51 dL_field_7 rfl rfl rfl rfl (Nat.le_of_ble_eq_true rfl) (fun h => by cases h) ⟨Nat.le_of_ble_eq_true rfl, Nat.le_of_ble_eq_true rfl⟩ ⟨Nat.le_of_ble_eq_true rfl, Nat.le_of_ble_eq_true rfl⟩ [] [] (q := (0, 12, 15, 13)) hex ⟨Nat.le_of_ble_eq_true rfl, Nat.le_of_ble_eq_true rfl⟩ (by decide) tl_128 tl_142 (fun _ h => absurd h List.not_mem_nil) dL_field_15 (Nat.le_of_ble_eq_true rfl) ?_
  refine zz_iconst (v := 1) G dL_field_17 (by decide) ?_
  exact zz_iret G hret dL_field_18 rfl (Nat.le_of_ble_eq_true rfl) (Nat.le_of_ble_eq_true rfl)
set_option maxRecDepth 100000 in
set_option maxHeartbeats 4000000 in
theorem ch_entries_ok (l : Launch) (hfl : l.flags = Jvm.pinnedFlags ++ [Jvm.noTraceFlag]) (x : XS) (m : MS) (o : Nat → Int64)  (v : Int32) (x1 : XS) (hr : rEnt x m o = .inl (some (.int v), wx x1 m o)) : zC l yL_entries (Jvm.Cond.codeWith yL_entries bL_entries 3 (some .int) [(0, 8, 11, 13)] :: Tw) 5 false 1 6 [.ref 0, .ref 10] (wx x m o) (.inl (some (.int 0), wx x1 m (vp_updL o 0 v.toInt64))) := by
  refine zC_ofW [some (.ref 0), some (.ref 10), none] (by decide) rfl (Nat.le_of_ble_eq_true rfl) ?_
  intro p e s mm args below meth c D cI cJ as G hret hex hbd
  refine zz_aload_n G dL_entries_0 rfl ?_
  refine zz_iconst (v := 0) G dL_entries_1 (by decide) ?_
  refine zz_aload_n G dL_entries_2 rfl ?_
  refine zz_callVi (v := v) (w' := (wx x1 m o)) (As := []) (rest := [.int 0, .ref 10]) G (by have q := cx_entries l hfl x m o ; rw [hr] at q; exact q) kL_54 dL_entries_3 rfl rfl rfl rfl (Nat.le_of_ble_eq_true rfl) (fun h => by cases h) ⟨Nat.le_of_ble_eq_true rfl, Nat.le_of_ble_eq_true rfl⟩ ⟨Nat.le_of_ble_eq_true rfl, Nat.le_of_ble_eq_true rfl⟩ ?_
  refine zz_i2l G dL_entries_6 ?_
  refine zz_last (w' := (wx x1 m (vp_updL o 0 v.toInt64))) rfl G dL_entries_7 rfl (by rw [← nI_0]; exact vp_in_nI (by omega) (by omega)) (rfl) ?_
  refine zz_goto (tgt := 14) G dL_entries_8 rfl ?_
  refine zz_iconst (v := 0) G dL_entries_14 (by decide) ?_
  exact zz_iret G hret dL_entries_15 (rfl) (Nat.le_of_ble_eq_true rfl) (Nat.le_of_ble_eq_true rfl)
set_option maxRecDepth 100000 in
set_option maxHeartbeats 4000000 in
theorem ch_entries_ISE (l : Launch) (hfl : l.flags = Jvm.pinnedFlags ++ [Jvm.noTraceFlag]) (x : XS) (m : MS) (o : Nat → Int64)  (hr : rEnt x m o = .inr ("java/lang/IllegalStateException", wx x m o)) : zC l yL_entries (Jvm.Cond.codeWith yL_entries bL_entries 3 (some .int) [(0, 8, 11, 13)] :: Tw) 5 false 1 6 [.ref 0, .ref 10] (wx x m o) (.inl (some (.int 1), wx x m o)) := by
  refine zC_ofW [some (.ref 0), some (.ref 10), none] (by decide) rfl (Nat.le_of_ble_eq_true rfl) ?_
  intro p e s mm args below meth c D cI cJ as G hret hex hbd
  refine zz_aload_n G dL_entries_0 rfl ?_
  refine zz_iconst (v := 0) G dL_entries_1 (by decide) ?_
  refine zz_aload_n G dL_entries_2 rfl ?_
  refine zz_catch1 (As := []) (rest := [.int 0, .ref 10]) (w' := (wx x m o)) (Xn := "java/lang/IllegalStateException") G (by have q := cx_entries l hfl x m o ; rw [hr] at q; exact q) kL_54 dL_entries_3 rfl rfl rfl rfl (Nat.le_of_ble_eq_true rfl) (fun h => by cases h) ⟨Nat.le_of_ble_eq_true rfl, Nat.le_of_ble_eq_true rfl⟩ ⟨Nat.le_of_ble_eq_true rfl, Nat.le_of_ble_eq_true rfl⟩ [] [] (q := (0, 8, 11, 13)) hex ⟨Nat.le_of_ble_eq_true rfl, Nat.le_of_ble_eq_true rfl⟩ (by decide) tl_128 tl_142 (fun _ h => absurd h List.not_mem_nil) dL_entries_11 (Nat.le_of_ble_eq_true rfl) ?_
  refine zz_iconst (v := 1) G dL_entries_12 (by decide) ?_
  exact zz_iret G hret dL_entries_13 rfl (Nat.le_of_ble_eq_true rfl) (Nat.le_of_ble_eq_true rfl)
theorem kH_post : zcSW "AsOfLedgerLaw" 61 yL_post bL_post 7 (some .int) [(0, 14, 17, 13), (0, 14, 21, 15), (0, 14, 25, 17), (0, 14, 29, 19)] 6 := ⟨tl_127, tl_125, tl_32, ⟨by decide, by decide⟩, by decide +kernel, tl_126⟩
theorem kH_correct : zcSW "AsOfLedgerLaw" 70 yL_correct bL_correct 5 (some .int) [(0, 10, 13, 13), (0, 10, 17, 25), (0, 10, 21, 15), (0, 10, 25, 17), (0, 10, 29, 19)] 4 := ⟨tl_294, tl_292, tl_32, ⟨by decide, by decide⟩, by decide +kernel, tl_293⟩
theorem kH_annul : zcSW "AsOfLedgerLaw" 74 yL_annul bL_annul 4 (some .int) [(0, 9, 12, 13), (0, 9, 15, 25), (0, 9, 18, 17)] 3 := ⟨tl_330, tl_328, tl_32, ⟨by decide, by decide⟩, by decide +kernel, tl_329⟩
theorem kH_balance : zcSW "AsOfLedgerLaw" 78 yL_balance bL_balance 6 (some .int) [(0, 12, 15, 13), (0, 12, 19, 15)] 5 := ⟨tl_337, tl_335, tl_32, ⟨by decide, by decide⟩, by decide +kernel, tl_336⟩
theorem kH_trial : zcSW "AsOfLedgerLaw" 82 yL_trial bL_trial 5 (some .int) [(0, 10, 13, 13), (0, 10, 17, 15)] 4 := ⟨tl_356, tl_354, tl_32, ⟨by decide, by decide⟩, by decide +kernel, tl_355⟩
theorem kH_turnover : zcSW "AsOfLedgerLaw" 85 yL_turnover bL_turnover 4 (some .int) [(0, 9, 12, 13), (0, 9, 15, 15)] 3 := ⟨tl_363, tl_361, tl_32, ⟨by decide, by decide⟩, by decide +kernel, tl_362⟩
theorem kH_open : zcSW "AsOfLedgerLaw" 88 yL_open bL_open 7 (some .int) [(0, 14, 17, 13), (0, 14, 21, 15)] 6 := ⟨tl_370, tl_368, tl_32, ⟨by decide, by decide⟩, by decide +kernel, tl_369⟩
theorem kH_next : zcSW "AsOfLedgerLaw" 91 yL_next bL_next 3 (some .int) [(0, 8, 11, 13)] 2 := ⟨tl_388, tl_386, tl_32, ⟨by decide, by decide⟩, by decide +kernel, tl_387⟩
theorem kH_moved : zcSW "AsOfLedgerLaw" 95 yL_moved bL_moved 3 (some .int) [(0, 8, 11, 13)] 2 := ⟨tl_395, tl_393, tl_32, ⟨by decide, by decide⟩, by decide +kernel, tl_394⟩
theorem kH_field : zcSW "AsOfLedgerLaw" 98 yL_field bL_field 6 (some .int) [(0, 12, 15, 13)] 5 := ⟨tl_402, tl_400, tl_32, ⟨by decide, by decide⟩, by decide +kernel, tl_401⟩
theorem kH_entries : zcSW "AsOfLedgerLaw" 101 yL_entries bL_entries 3 (some .int) [(0, 8, 11, 13)] 2 := ⟨tl_409, tl_407, tl_32, ⟨by decide, by decide⟩, by decide +kernel, tl_408⟩
end
