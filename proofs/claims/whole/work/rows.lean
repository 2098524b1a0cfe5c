section
-- ===== PART A: goes FIRST, ahead of the names: the tables' words, and 'selects' of the private methods out of them =====
/-- a private method of a class that the tables say can be made, by its rows of tables_1 -/
def lw_okq (q : MethodName × Nat) : Prop := (q.1.cls ≠ "java/lang/invoke/MethodHandle" ∧ q.1.cls ≠ "java/lang/invoke/VarHandle") ∧ Cond.instantiable q.1.cls q.2 ∈ tables_1 ∧ Cond.privateMethod q.1 ∈ tables_1 ∧ Cond.instanceMethod q.1 ∈ tables_1
theorem lw_p0 : lw_okq (⟨"RestartBook$Tables", "slotOf", "(I)I"⟩, 6) := ⟨⟨by decide +kernel, by decide +kernel⟩, List.mem_of_getElem? (i := 57) (by decide +kernel), List.mem_of_getElem? (i := 135) (by decide +kernel), List.mem_of_getElem? (i := 136) (by decide +kernel)⟩
theorem lw_p1 : lw_okq (⟨"RestartBook$Tables", "copySlot", "(II)V"⟩, 6) := ⟨⟨by decide +kernel, by decide +kernel⟩, List.mem_of_getElem? (i := 57) (by decide +kernel), List.mem_of_getElem? (i := 139) (by decide +kernel), List.mem_of_getElem? (i := 140) (by decide +kernel)⟩
theorem lw_p2 : lw_okq (⟨"RestartBook", "refusalFor", "(I)I"⟩, 13) := ⟨⟨by decide +kernel, by decide +kernel⟩, List.mem_of_getElem? (i := 10) (by decide +kernel), List.mem_of_getElem? (i := 147) (by decide +kernel), List.mem_of_getElem? (i := 148) (by decide +kernel)⟩
theorem lw_p3 : lw_okq (⟨"RestartBook", "takeIntoTables", "(I)V"⟩, 13) := ⟨⟨by decide +kernel, by decide +kernel⟩, List.mem_of_getElem? (i := 10) (by decide +kernel), List.mem_of_getElem? (i := 190) (by decide +kernel), List.mem_of_getElem? (i := 191) (by decide +kernel)⟩
theorem lw_p4 : lw_okq (⟨"RestartBook", "carryOut", "(I)V"⟩, 13) := ⟨⟨by decide +kernel, by decide +kernel⟩, List.mem_of_getElem? (i := 10) (by decide +kernel), List.mem_of_getElem? (i := 225) (by decide +kernel), List.mem_of_getElem? (i := 226) (by decide +kernel)⟩
theorem lw_p5 : lw_okq (⟨"RestartBook", "undoDownTo", "(II)I"⟩, 13) := ⟨⟨by decide +kernel, by decide +kernel⟩, List.mem_of_getElem? (i := 10) (by decide +kernel), List.mem_of_getElem? (i := 238) (by decide +kernel), List.mem_of_getElem? (i := 239) (by decide +kernel)⟩
theorem lw_p6 : lw_okq (⟨"RestartBook", "undoNext", "(I)V"⟩, 13) := ⟨⟨by decide +kernel, by decide +kernel⟩, List.mem_of_getElem? (i := 10) (by decide +kernel), List.mem_of_getElem? (i := 250) (by decide +kernel), List.mem_of_getElem? (i := 251) (by decide +kernel)⟩
theorem lw_p7 : lw_okq (⟨"RestartBook", "appendOfWork", "(II)I"⟩, 13) := ⟨⟨by decide +kernel, by decide +kernel⟩, List.mem_of_getElem? (i := 10) (by decide +kernel), List.mem_of_getElem? (i := 263) (by decide +kernel), List.mem_of_getElem? (i := 264) (by decide +kernel)⟩
theorem lw_p8 : lw_okq (⟨"RestartBook", "passOverPartsWithoutSteps", "()V"⟩, 13) := ⟨⟨by decide +kernel, by decide +kernel⟩, List.mem_of_getElem? (i := 10) (by decide +kernel), List.mem_of_getElem? (i := 353) (by decide +kernel), List.mem_of_getElem? (i := 354) (by decide +kernel)⟩
theorem lw_p9 : lw_okq (⟨"RestartBook", "makeStep", "()V"⟩, 13) := ⟨⟨by decide +kernel, by decide +kernel⟩, List.mem_of_getElem? (i := 10) (by decide +kernel), List.mem_of_getElem? (i := 373) (by decide +kernel), List.mem_of_getElem? (i := 374) (by decide +kernel)⟩
theorem lw_p10 : lw_okq (⟨"RestartBook", "lookThrough", "(I)V"⟩, 13) := ⟨⟨by decide +kernel, by decide +kernel⟩, List.mem_of_getElem? (i := 10) (by decide +kernel), List.mem_of_getElem? (i := 377) (by decide +kernel), List.mem_of_getElem? (i := 378) (by decide +kernel)⟩
theorem lw_p11 : lw_okq (⟨"RestartBook", "doAgainOrPassOver", "(I)V"⟩, 13) := ⟨⟨by decide +kernel, by decide +kernel⟩, List.mem_of_getElem? (i := 10) (by decide +kernel), List.mem_of_getElem? (i := 382) (by decide +kernel), List.mem_of_getElem? (i := 383) (by decide +kernel)⟩
theorem lw_p12 : lw_okq (⟨"RestartBook", "undoOrEnd", "(I)V"⟩, 13) := ⟨⟨by decide +kernel, by decide +kernel⟩, List.mem_of_getElem? (i := 10) (by decide +kernel), List.mem_of_getElem? (i := 390) (by decide +kernel), List.mem_of_getElem? (i := 391) (by decide +kernel)⟩
theorem lw_p13 : lw_okq (⟨"RestartBookModel", "many", "()I"⟩, 28) := ⟨⟨by decide +kernel, by decide +kernel⟩, List.mem_of_getElem? (i := 431) (by decide +kernel), List.mem_of_getElem? (i := 526) (by decide +kernel), List.mem_of_getElem? (i := 527) (by decide +kernel)⟩
theorem lw_p14 : lw_okq (⟨"RestartBookModel", "isWork", "(I)Z"⟩, 28) := ⟨⟨by decide +kernel, by decide +kernel⟩, List.mem_of_getElem? (i := 431) (by decide +kernel), List.mem_of_getElem? (i := 534) (by decide +kernel), List.mem_of_getElem? (i := 535) (by decide +kernel)⟩
theorem lw_p15 : lw_okq (⟨"RestartBookModel", "note", "(II)I"⟩, 28) := ⟨⟨by decide +kernel, by decide +kernel⟩, List.mem_of_getElem? (i := 431) (by decide +kernel), List.mem_of_getElem? (i := 541) (by decide +kernel), List.mem_of_getElem? (i := 542) (by decide +kernel)⟩
def lw_privs_1 : List (MethodName × Nat) := [(⟨"RestartBook$Tables", "slotOf", "(I)I"⟩, 6), (⟨"RestartBook$Tables", "copySlot", "(II)V"⟩, 6), (⟨"RestartBook", "refusalFor", "(I)I"⟩, 13), (⟨"RestartBook", "takeIntoTables", "(I)V"⟩, 13), (⟨"RestartBook", "carryOut", "(I)V"⟩, 13), (⟨"RestartBook", "undoDownTo", "(II)I"⟩, 13), (⟨"RestartBook", "undoNext", "(I)V"⟩, 13), (⟨"RestartBook", "appendOfWork", "(II)I"⟩, 13), (⟨"RestartBook", "passOverPartsWithoutSteps", "()V"⟩, 13), (⟨"RestartBook", "makeStep", "()V"⟩, 13), (⟨"RestartBook", "lookThrough", "(I)V"⟩, 13), (⟨"RestartBook", "doAgainOrPassOver", "(I)V"⟩, 13), (⟨"RestartBook", "undoOrEnd", "(I)V"⟩, 13), (⟨"RestartBookModel", "many", "()I"⟩, 28), (⟨"RestartBookModel", "isWork", "(I)Z"⟩, 28), (⟨"RestartBookModel", "note", "(II)I"⟩, 28)]
theorem lw_r1 : ∀ q ∈ lw_privs_1, lw_okq q := List.forall_mem_cons.mpr ⟨lw_p0, List.forall_mem_cons.mpr ⟨lw_p1, List.forall_mem_cons.mpr ⟨lw_p2, List.forall_mem_cons.mpr ⟨lw_p3, List.forall_mem_cons.mpr ⟨lw_p4, List.forall_mem_cons.mpr ⟨lw_p5, List.forall_mem_cons.mpr ⟨lw_p6, List.forall_mem_cons.mpr ⟨lw_p7, List.forall_mem_cons.mpr ⟨lw_p8, List.forall_mem_cons.mpr ⟨lw_p9, List.forall_mem_cons.mpr ⟨lw_p10, List.forall_mem_cons.mpr ⟨lw_p11, List.forall_mem_cons.mpr ⟨lw_p12, List.forall_mem_cons.mpr ⟨lw_p13, List.forall_mem_cons.mpr ⟨lw_p14, List.forall_mem_cons.mpr ⟨lw_p15, fun _ h => absurd h List.not_mem_nil⟩⟩⟩⟩⟩⟩⟩⟩⟩⟩⟩⟩⟩⟩⟩⟩
theorem lw_p16 : lw_okq (⟨"RestartBookModel", "makeDirty", "(II)V"⟩, 28) := ⟨⟨by decide +kernel, by decide +kernel⟩, List.mem_of_getElem? (i := 431) (by decide +kernel), List.mem_of_getElem? (i := 545) (by decide +kernel), List.mem_of_getElem? (i := 546) (by decide +kernel)⟩
theorem lw_p17 : lw_okq (⟨"RestartBookModel", "apply", "(I)V"⟩, 28) := ⟨⟨by decide +kernel, by decide +kernel⟩, List.mem_of_getElem? (i := 431) (by decide +kernel), List.mem_of_getElem? (i := 549) (by decide +kernel), List.mem_of_getElem? (i := 550) (by decide +kernel)⟩
theorem lw_p18 : lw_okq (⟨"RestartBookModel", "undoTo", "(II)I"⟩, 28) := ⟨⟨by decide +kernel, by decide +kernel⟩, List.mem_of_getElem? (i := 431) (by decide +kernel), List.mem_of_getElem? (i := 557) (by decide +kernel), List.mem_of_getElem? (i := 558) (by decide +kernel)⟩
theorem lw_p19 : lw_okq (⟨"RestartBookModel", "giveBack", "(I)V"⟩, 28) := ⟨⟨by decide +kernel, by decide +kernel⟩, List.mem_of_getElem? (i := 431) (by decide +kernel), List.mem_of_getElem? (i := 561) (by decide +kernel), List.mem_of_getElem? (i := 562) (by decide +kernel)⟩
theorem lw_p20 : lw_okq (⟨"RestartBookModel", "open", "(I)I"⟩, 28) := ⟨⟨by decide +kernel, by decide +kernel⟩, List.mem_of_getElem? (i := 431) (by decide +kernel), List.mem_of_getElem? (i := 565) (by decide +kernel), List.mem_of_getElem? (i := 566) (by decide +kernel)⟩
theorem lw_p21 : lw_okq (⟨"RestartBookModel", "forceTo", "(I)V"⟩, 28) := ⟨⟨by decide +kernel, by decide +kernel⟩, List.mem_of_getElem? (i := 431) (by decide +kernel), List.mem_of_getElem? (i := 573) (by decide +kernel), List.mem_of_getElem? (i := 574) (by decide +kernel)⟩
theorem lw_p22 : lw_okq (⟨"RestartBookModel", "end", "(I)V"⟩, 28) := ⟨⟨by decide +kernel, by decide +kernel⟩, List.mem_of_getElem? (i := 431) (by decide +kernel), List.mem_of_getElem? (i := 581) (by decide +kernel), List.mem_of_getElem? (i := 582) (by decide +kernel)⟩
theorem lw_p23 : lw_okq (⟨"RestartBookModel", "passOver", "()V"⟩, 28) := ⟨⟨by decide +kernel, by decide +kernel⟩, List.mem_of_getElem? (i := 431) (by decide +kernel), List.mem_of_getElem? (i := 605) (by decide +kernel), List.mem_of_getElem? (i := 606) (by decide +kernel)⟩
theorem lw_p24 : lw_okq (⟨"RestartBookModel", "leastBase", "()I"⟩, 28) := ⟨⟨by decide +kernel, by decide +kernel⟩, List.mem_of_getElem? (i := 431) (by decide +kernel), List.mem_of_getElem? (i := 609) (by decide +kernel), List.mem_of_getElem? (i := 610) (by decide +kernel)⟩
theorem lw_p25 : lw_okq (⟨"RestartBookModel", "chosen", "()I"⟩, 28) := ⟨⟨by decide +kernel, by decide +kernel⟩, List.mem_of_getElem? (i := 431) (by decide +kernel), List.mem_of_getElem? (i := 613) (by decide +kernel), List.mem_of_getElem? (i := 614) (by decide +kernel)⟩
theorem lw_p26 : lw_okq (⟨"RestartBookModel", "step", "()V"⟩, 28) := ⟨⟨by decide +kernel, by decide +kernel⟩, List.mem_of_getElem? (i := 431) (by decide +kernel), List.mem_of_getElem? (i := 621) (by decide +kernel), List.mem_of_getElem? (i := 622) (by decide +kernel)⟩
theorem lw_p27 : lw_okq (⟨"RestartBookModel", "lookThrough", "(I)V"⟩, 28) := ⟨⟨by decide +kernel, by decide +kernel⟩, List.mem_of_getElem? (i := 431) (by decide +kernel), List.mem_of_getElem? (i := 625) (by decide +kernel), List.mem_of_getElem? (i := 626) (by decide +kernel)⟩
theorem lw_p28 : lw_okq (⟨"RestartBookModel", "doAgain", "(I)V"⟩, 28) := ⟨⟨by decide +kernel, by decide +kernel⟩, List.mem_of_getElem? (i := 431) (by decide +kernel), List.mem_of_getElem? (i := 629) (by decide +kernel), List.mem_of_getElem? (i := 630) (by decide +kernel)⟩
def lw_privs_2 : List (MethodName × Nat) := [(⟨"RestartBookModel", "makeDirty", "(II)V"⟩, 28), (⟨"RestartBookModel", "apply", "(I)V"⟩, 28), (⟨"RestartBookModel", "undoTo", "(II)I"⟩, 28), (⟨"RestartBookModel", "giveBack", "(I)V"⟩, 28), (⟨"RestartBookModel", "open", "(I)I"⟩, 28), (⟨"RestartBookModel", "forceTo", "(I)V"⟩, 28), (⟨"RestartBookModel", "end", "(I)V"⟩, 28), (⟨"RestartBookModel", "passOver", "()V"⟩, 28), (⟨"RestartBookModel", "leastBase", "()I"⟩, 28), (⟨"RestartBookModel", "chosen", "()I"⟩, 28), (⟨"RestartBookModel", "step", "()V"⟩, 28), (⟨"RestartBookModel", "lookThrough", "(I)V"⟩, 28), (⟨"RestartBookModel", "doAgain", "(I)V"⟩, 28)]
theorem lw_r2 : ∀ q ∈ lw_privs_2, lw_okq q := List.forall_mem_cons.mpr ⟨lw_p16, List.forall_mem_cons.mpr ⟨lw_p17, List.forall_mem_cons.mpr ⟨lw_p18, List.forall_mem_cons.mpr ⟨lw_p19, List.forall_mem_cons.mpr ⟨lw_p20, List.forall_mem_cons.mpr ⟨lw_p21, List.forall_mem_cons.mpr ⟨lw_p22, List.forall_mem_cons.mpr ⟨lw_p23, List.forall_mem_cons.mpr ⟨lw_p24, List.forall_mem_cons.mpr ⟨lw_p25, List.forall_mem_cons.mpr ⟨lw_p26, List.forall_mem_cons.mpr ⟨lw_p27, List.forall_mem_cons.mpr ⟨lw_p28, fun _ h => absurd h List.not_mem_nil⟩⟩⟩⟩⟩⟩⟩⟩⟩⟩⟩⟩⟩
def lw_privs : List (MethodName × Nat) := lw_privs_1 ++ (lw_privs_2)
def lw_tbl : List Cond := k2_sels lw_privs ++ tables_1
theorem lw_privs_ok : ∀ q ∈ lw_privs, lw_okq q := by
  show ∀ q ∈ lw_privs_1 ++ (lw_privs_2), lw_okq q
  exact List.forall_mem_append.mpr ⟨lw_r1, lw_r2⟩
end
section
/-! ===== BEGIN words of one list among another's, by their places ===== -/
theorem goodIn_r {big : List Cond} (ws : List Cond) (ps : List Nat) (hp : ws = ps.filterMap (fun i => big[i]?)) (h : ws.all goodWord = true) : GoodIn big ws := by
  intro w hw
  have h1 := List.all_eq_true.mp h w hw
  rw [hp] at hw
  obtain ⟨i, -, hi⟩ := List.mem_filterMap.mp hw
  have hm : w ∈ big := by first | exact List.mem_of_getElem? hi | exact List.getElem?_mem hi
  exact ⟨hm, good_of_word h1⟩
theorem goodIn_app {big a b : List Cond} (ha : GoodIn big a) (hb : GoodIn big b) : GoodIn big (a ++ b) := fun w h => (List.mem_append.mp h).elim (ha w) (hb w)
theorem goodIn_ca {big a b : List Cond} {c : Cond} (ha : GoodIn big (c :: a)) (hb : GoodIn big b) : GoodIn big (c :: (a ++ b)) := fun w h => (List.mem_cons.mp h).elim (fun e => ha w (List.mem_cons.mpr (Or.inl e))) (fun h => (List.mem_append.mp h).elim (fun h => ha w (List.mem_cons.mpr (Or.inr h))) (hb w))
theorem goodIn_sub {big ws : List Cond} (hm : ∀ w ∈ ws, w ∈ big) (h : ws.all goodWord = true) : GoodIn big ws := fun w hw => ⟨hm w hw, good_of_word (List.all_eq_true.mp h w hw)⟩
/-! ===== END ===== -/

/-! ===== BEGIN printed: names, fields, word lists, decode rows ===== -/
def RX0 : String := "RestartBook$Log"
def TX0 : u_T := fun k => match k with
  | 0 => ("RestartBook$Log", "cells", "[I", false)
  | 1 => ("RestartBook$Log", "records", "I", false)
  | 2 => ("RestartBook$Log", "forced", "I", false)
  | _ => ("RestartBook$Log", "changes", "I", false)
def tyX0 : Nat → FieldType := fun k => match k with
  | 0 => .array .int
  | 1 => .int
  | 2 => .int
  | _ => .int
abbrev wsX00 : List Cond := u_ws RX0 TX0 4
theorem nmX0 : ∀ a, a < 4 → ∀ b, b < 4 → a ≠ b → (TX0 a).2.1 ≠ (TX0 b).2.1 := by decide +kernel
theorem tyX0_ok : ∀ k, k < 4 → parseFieldDescriptor (TX0 k).2.2.1 = some (tyX0 k) := by decide +kernel
abbrev cX0_init : ByteArray := prog_2_method_1_code
def yX0_init : MethodName := ⟨RX0, "<init>", "()V"⟩
abbrev cX0_recordsHeld : ByteArray := prog_2_method_2_code
def yX0_recordsHeld : MethodName := ⟨RX0, "recordsHeld", "()I"⟩
abbrev cX0_forcedHeld : ByteArray := prog_2_method_3_code
def yX0_forcedHeld : MethodName := ⟨RX0, "forcedHeld", "()I"⟩
abbrev cX0_changesHeld : ByteArray := prog_2_method_4_code
def yX0_changesHeld : MethodName := ⟨RX0, "changesHeld", "()I"⟩
abbrev cX0_holds : ByteArray := prog_2_method_5_code
def yX0_holds : MethodName := ⟨RX0, "holds", "(I)Z"⟩
abbrev cX0_read : ByteArray := prog_2_method_6_code
def yX0_read : MethodName := ⟨RX0, "read", "(II)I"⟩
abbrev cX0_changesPage : ByteArray := prog_2_method_7_code
def yX0_changesPage : MethodName := ⟨RX0, "changesPage", "(I)Z"⟩
abbrev cX0_append : ByteArray := prog_2_method_8_code
def yX0_append : MethodName := ⟨RX0, "append", "(IIIIIII)I"⟩
abbrev cX0_undoingBehind : ByteArray := prog_2_method_9_code
def yX0_undoingBehind : MethodName := ⟨RX0, "undoingBehind", "(I)I"⟩
abbrev cX0_forceUpTo : ByteArray := prog_2_method_10_code
def yX0_forceUpTo : MethodName := ⟨RX0, "forceUpTo", "(I)V"⟩
abbrev cX0_loseBehind : ByteArray := prog_2_method_11_code
def yX0_loseBehind : MethodName := ⟨RX0, "loseBehind", "(I)V"⟩
def RX1 : String := "RestartBook$Pages"
def TX1 : u_T := fun k => match k with
  | 0 => ("RestartBook$Pages", "words", "[I", true)
  | 1 => ("RestartBook$Pages", "marks", "[I", true)
  | 2 => ("RestartBook$Pages", "mediumWords", "[I", true)
  | _ => ("RestartBook$Pages", "mediumMarks", "[I", true)
def tyX1 : Nat → FieldType := fun k => match k with
  | 0 => .array .int
  | 1 => .array .int
  | 2 => .array .int
  | _ => .array .int
abbrev wsX10 : List Cond := u_ws RX1 TX1 4
theorem nmX1 : ∀ a, a < 4 → ∀ b, b < 4 → a ≠ b → (TX1 a).2.1 ≠ (TX1 b).2.1 := by decide +kernel
theorem tyX1_ok : ∀ k, k < 4 → parseFieldDescriptor (TX1 k).2.2.1 = some (tyX1 k) := by decide +kernel
abbrev cX1_init : ByteArray := prog_3_method_1_code
def yX1_init : MethodName := ⟨RX1, "<init>", "()V"⟩
abbrev cX1_hasPage : ByteArray := prog_3_method_2_code
def yX1_hasPage : MethodName := ⟨RX1, "hasPage", "(I)Z"⟩
abbrev cX1_hasPlace : ByteArray := prog_3_method_3_code
def yX1_hasPlace : MethodName := ⟨RX1, "hasPlace", "(II)Z"⟩
abbrev cX1_valueOf : ByteArray := prog_3_method_4_code
def yX1_valueOf : MethodName := ⟨RX1, "valueOf", "(II)I"⟩
abbrev cX1_markOf : ByteArray := prog_3_method_5_code
def yX1_markOf : MethodName := ⟨RX1, "markOf", "(I)I"⟩
abbrev cX1_mediumMarkOf : ByteArray := prog_3_method_6_code
def yX1_mediumMarkOf : MethodName := ⟨RX1, "mediumMarkOf", "(I)I"⟩
abbrev cX1_change : ByteArray := prog_3_method_7_code
def yX1_change : MethodName := ⟨RX1, "change", "(IIII)V"⟩
abbrev cX1_copyToMedium : ByteArray := prog_3_method_8_code
def yX1_copyToMedium : MethodName := ⟨RX1, "copyToMedium", "(I)V"⟩
abbrev cX1_readAllFromMedium : ByteArray := prog_3_method_9_code
def yX1_readAllFromMedium : MethodName := ⟨RX1, "readAllFromMedium", "()V"⟩
def RX2 : String := "RestartBook$Tables"
def TX2 : u_T := fun k => match k with
  | 0 => ("RestartBook$Tables", "size", "I", false)
  | 1 => ("RestartBook$Tables", "works", "[I", true)
  | 2 => ("RestartBook$Tables", "states", "[I", true)
  | 3 => ("RestartBook$Tables", "lasts", "[I", true)
  | 4 => ("RestartBook$Tables", "nexts", "[I", true)
  | _ => ("RestartBook$Tables", "bases", "[I", true)
def tyX2 : Nat → FieldType := fun k => match k with
  | 0 => .int
  | 1 => .array .int
  | 2 => .array .int
  | 3 => .array .int
  | 4 => .array .int
  | _ => .array .int
abbrev wsX20 : List Cond := u_ws RX2 TX2 6
theorem nmX2 : ∀ a, a < 6 → ∀ b, b < 6 → a ≠ b → (TX2 a).2.1 ≠ (TX2 b).2.1 := by decide +kernel
theorem tyX2_ok : ∀ k, k < 6 → parseFieldDescriptor (TX2 k).2.2.1 = some (tyX2 k) := by decide +kernel
abbrev cX2_init : ByteArray := prog_4_method_1_code
def yX2_init : MethodName := ⟨RX2, "<init>", "()V"⟩
abbrev cX2_isFull : ByteArray := prog_4_method_2_code
def yX2_isFull : MethodName := ⟨RX2, "isFull", "()Z"⟩
abbrev cX2_holds : ByteArray := prog_4_method_3_code
def yX2_holds : MethodName := ⟨RX2, "holds", "(I)Z"⟩
abbrev cX2_workAt : ByteArray := prog_4_method_4_code
def yX2_workAt : MethodName := ⟨RX2, "workAt", "(I)I"⟩
abbrev cX2_stateOf : ByteArray := prog_4_method_5_code
def yX2_stateOf : MethodName := ⟨RX2, "stateOf", "(I)I"⟩
abbrev cX2_lastOf : ByteArray := prog_4_method_6_code
def yX2_lastOf : MethodName := ⟨RX2, "lastOf", "(I)I"⟩
abbrev cX2_nextOf : ByteArray := prog_4_method_7_code
def yX2_nextOf : MethodName := ⟨RX2, "nextOf", "(I)I"⟩
abbrev cX2_setState : ByteArray := prog_4_method_8_code
def yX2_setState : MethodName := ⟨RX2, "setState", "(II)V"⟩
abbrev cX2_setLast : ByteArray := prog_4_method_9_code
def yX2_setLast : MethodName := ⟨RX2, "setLast", "(II)V"⟩
abbrev cX2_setNext : ByteArray := prog_4_method_10_code
def yX2_setNext : MethodName := ⟨RX2, "setNext", "(II)V"⟩
abbrev cX2_bringIn : ByteArray := prog_4_method_11_code
def yX2_bringIn : MethodName := ⟨RX2, "bringIn", "(I)V"⟩
abbrev cX2_takeOut : ByteArray := prog_4_method_12_code
def yX2_takeOut : MethodName := ⟨RX2, "takeOut", "(I)V"⟩
abbrev cX2_leastWorkIn : ByteArray := prog_4_method_13_code
def yX2_leastWorkIn : MethodName := ⟨RX2, "leastWorkIn", "(I)I"⟩
abbrev cX2_workToUndo : ByteArray := prog_4_method_14_code
def yX2_workToUndo : MethodName := ⟨RX2, "workToUndo", "()I"⟩
abbrev cX2_baseOf : ByteArray := prog_4_method_15_code
def yX2_baseOf : MethodName := ⟨RX2, "baseOf", "(I)I"⟩
abbrev cX2_makeDirty : ByteArray := prog_4_method_16_code
def yX2_makeDirty : MethodName := ⟨RX2, "makeDirty", "(II)V"⟩
abbrev cX2_makeClean : ByteArray := prog_4_method_17_code
def yX2_makeClean : MethodName := ⟨RX2, "makeClean", "(I)V"⟩
abbrev cX2_leastBase : ByteArray := prog_4_method_18_code
def yX2_leastBase : MethodName := ⟨RX2, "leastBase", "()I"⟩
abbrev cX2_makeEmpty : ByteArray := prog_4_method_19_code
def yX2_makeEmpty : MethodName := ⟨RX2, "makeEmpty", "()V"⟩
abbrev cX2_becomeLike : ByteArray := prog_4_method_20_code
def yX2_becomeLike : MethodName := ⟨RX2, "becomeLike", "(LRestartBook$Tables;)V"⟩
abbrev cX2_bringInMissing : ByteArray := prog_4_method_21_code
def yX2_bringInMissing : MethodName := ⟨RX2, "bringInMissing", "(LRestartBook$Tables;)V"⟩
abbrev cX2_slotOf : ByteArray := prog_4_method_22_code
def yX2_slotOf : MethodName := ⟨RX2, "slotOf", "(I)I"⟩
abbrev cX2_copySlot : ByteArray := prog_4_method_23_code
def yX2_copySlot : MethodName := ⟨RX2, "copySlot", "(II)V"⟩
def RX3 : String := "RestartBook"
def TX3 : u_T := fun k => match k with
  | 0 => ("RestartBook", "log", "LRestartBook$Log;", true)
  | 1 => ("RestartBook", "pages", "LRestartBook$Pages;", true)
  | 2 => ("RestartBook", "tables", "LRestartBook$Tables;", true)
  | 3 => ("RestartBook", "toldByPoint", "LRestartBook$Tables;", true)
  | 4 => ("RestartBook", "latestPoint", "I", false)
  | 5 => ("RestartBook", "pointsMade", "I", false)
  | 6 => ("RestartBook", "worksGiven", "I", false)
  | 7 => ("RestartBook", "doing", "I", false)
  | 8 => ("RestartBook", "nextStep", "I", false)
  | 9 => ("RestartBook", "lookedThrough", "I", false)
  | 10 => ("RestartBook", "doneAgain", "I", false)
  | 11 => ("RestartBook", "passedOver", "I", false)
  | _ => ("RestartBook", "undone", "I", false)
def tyX3 : Nat → FieldType := fun k => match k with
  | 0 => .object "RestartBook$Log"
  | 1 => .object "RestartBook$Pages"
  | 2 => .object "RestartBook$Tables"
  | 3 => .object "RestartBook$Tables"
  | 4 => .int
  | 5 => .int
  | 6 => .int
  | 7 => .int
  | 8 => .int
  | 9 => .int
  | 10 => .int
  | 11 => .int
  | _ => .int
abbrev wsX30 : List Cond := u_ws RX3 TX3 13
theorem nmX3 : ∀ a, a < 13 → ∀ b, b < 13 → a ≠ b → (TX3 a).2.1 ≠ (TX3 b).2.1 := by decide +kernel
theorem tyX3_ok : ∀ k, k < 13 → parseFieldDescriptor (TX3 k).2.2.1 = some (tyX3 k) := by decide +kernel
abbrev cX3_init : ByteArray := prog_1_method_1_code
def yX3_init : MethodName := ⟨RX3, "<init>", "()V"⟩
abbrev cX3_begin : ByteArray := prog_1_method_2_code
def yX3_begin : MethodName := ⟨RX3, "begin", "()I"⟩
abbrev cX3_add : ByteArray := prog_1_method_3_code
def yX3_add : MethodName := ⟨RX3, "add", "(IIII)I"⟩
abbrev cX3_back : ByteArray := prog_1_method_4_code
def yX3_back : MethodName := ⟨RX3, "back", "(II)I"⟩
abbrev cX3_prepare : ByteArray := prog_1_method_5_code
def yX3_prepare : MethodName := ⟨RX3, "prepare", "(I)I"⟩
abbrev cX3_commit : ByteArray := prog_1_method_6_code
def yX3_commit : MethodName := ⟨RX3, "commit", "(I)I"⟩
abbrev cX3_abort : ByteArray := prog_1_method_7_code
def yX3_abort : MethodName := ⟨RX3, "abort", "(I)I"⟩
abbrev cX3_write : ByteArray := prog_1_method_8_code
def yX3_write : MethodName := ⟨RX3, "write", "(I)I"⟩
abbrev cX3_force : ByteArray := prog_1_method_9_code
def yX3_force : MethodName := ⟨RX3, "force", "(I)I"⟩
abbrev cX3_point : ByteArray := prog_1_method_10_code
def yX3_point : MethodName := ⟨RX3, "point", "()I"⟩
abbrev cX3_loss : ByteArray := prog_1_method_11_code
def yX3_loss : MethodName := ⟨RX3, "loss", "(I)I"⟩
abbrev cX3_restart : ByteArray := prog_1_method_12_code
def yX3_restart : MethodName := ⟨RX3, "restart", "(I)I"⟩
abbrev cX3_part : ByteArray := prog_1_method_13_code
def yX3_part : MethodName := ⟨RX3, "part", "()I"⟩
abbrev cX3_word : ByteArray := prog_1_method_14_code
def yX3_word : MethodName := ⟨RX3, "word", "(II)I"⟩
abbrev cX3_page : ByteArray := prog_1_method_15_code
def yX3_page : MethodName := ⟨RX3, "page", "(II)I"⟩
abbrev cX3_table : ByteArray := prog_1_method_16_code
def yX3_table : MethodName := ⟨RX3, "table", "(II)I"⟩
abbrev cX3_record : ByteArray := prog_1_method_17_code
def yX3_record : MethodName := ⟨RX3, "record", "(II)I"⟩
abbrev cX3_count : ByteArray := prog_1_method_18_code
def yX3_count : MethodName := ⟨RX3, "count", "(I)I"⟩
abbrev cX3_refusalFor : ByteArray := prog_1_method_19_code
def yX3_refusalFor : MethodName := ⟨RX3, "refusalFor", "(I)I"⟩
abbrev cX3_appendOfWork : ByteArray := prog_1_method_20_code
def yX3_appendOfWork : MethodName := ⟨RX3, "appendOfWork", "(II)I"⟩
abbrev cX3_undoDownTo : ByteArray := prog_1_method_21_code
def yX3_undoDownTo : MethodName := ⟨RX3, "undoDownTo", "(II)I"⟩
abbrev cX3_undoNext : ByteArray := prog_1_method_22_code
def yX3_undoNext : MethodName := ⟨RX3, "undoNext", "(I)V"⟩
abbrev cX3_takeIntoTables : ByteArray := prog_1_method_23_code
def yX3_takeIntoTables : MethodName := ⟨RX3, "takeIntoTables", "(I)V"⟩
abbrev cX3_carryOut : ByteArray := prog_1_method_24_code
def yX3_carryOut : MethodName := ⟨RX3, "carryOut", "(I)V"⟩
abbrev cX3_makeStep : ByteArray := prog_1_method_25_code
def yX3_makeStep : MethodName := ⟨RX3, "makeStep", "()V"⟩
abbrev cX3_passOverPartsWithoutSteps : ByteArray := prog_1_method_26_code
def yX3_passOverPartsWithoutSteps : MethodName := ⟨RX3, "passOverPartsWithoutSteps", "()V"⟩
abbrev cX3_lookThrough : ByteArray := prog_1_method_27_code
def yX3_lookThrough : MethodName := ⟨RX3, "lookThrough", "(I)V"⟩
abbrev cX3_doAgainOrPassOver : ByteArray := prog_1_method_28_code
def yX3_doAgainOrPassOver : MethodName := ⟨RX3, "doAgainOrPassOver", "(I)V"⟩
abbrev cX3_undoOrEnd : ByteArray := prog_1_method_29_code
def yX3_undoOrEnd : MethodName := ⟨RX3, "undoOrEnd", "(I)V"⟩
def RX4 : String := "RestartBookModel"
def TX4 : u_T := fun k => match k with
  | 0 => ("RestartBookModel", "kinds", "[I", true)
  | 1 => ("RestartBookModel", "whose", "[I", true)
  | 2 => ("RestartBookModel", "befores", "[I", true)
  | 3 => ("RestartBookModel", "pages", "[I", true)
  | 4 => ("RestartBookModel", "words", "[I", true)
  | 5 => ("RestartBookModel", "sums", "[I", true)
  | 6 => ("RestartBookModel", "goals", "[I", true)
  | 7 => ("RestartBookModel", "records", "I", false)
  | 8 => ("RestartBookModel", "forced", "I", false)
  | 9 => ("RestartBookModel", "changes", "I", false)
  | 10 => ("RestartBookModel", "pointStates", "[I", true)
  | 11 => ("RestartBookModel", "pointLasts", "[I", true)
  | 12 => ("RestartBookModel", "pointNexts", "[I", true)
  | 13 => ("RestartBookModel", "pointBases", "[I", true)
  | 14 => ("RestartBookModel", "points", "I", false)
  | 15 => ("RestartBookModel", "memory", "[I", true)
  | 16 => ("RestartBookModel", "marks", "[I", true)
  | 17 => ("RestartBookModel", "bases", "[I", true)
  | 18 => ("RestartBookModel", "medium", "[I", true)
  | 19 => ("RestartBookModel", "mediumMarks", "[I", true)
  | 20 => ("RestartBookModel", "works", "I", false)
  | 21 => ("RestartBookModel", "states", "[I", true)
  | 22 => ("RestartBookModel", "lasts", "[I", true)
  | 23 => ("RestartBookModel", "nexts", "[I", true)
  | 24 => ("RestartBookModel", "doing", "I", false)
  | 25 => ("RestartBookModel", "at", "I", false)
  | 26 => ("RestartBookModel", "latest", "I", false)
  | _ => ("RestartBookModel", "counts", "[I", true)
def tyX4 : Nat → FieldType := fun k => match k with
  | 0 => .array .int
  | 1 => .array .int
  | 2 => .array .int
  | 3 => .array .int
  | 4 => .array .int
  | 5 => .array .int
  | 6 => .array .int
  | 7 => .int
  | 8 => .int
  | 9 => .int
  | 10 => .array .int
  | 11 => .array .int
  | 12 => .array .int
  | 13 => .array .int
  | 14 => .int
  | 15 => .array .int
  | 16 => .array .int
  | 17 => .array .int
  | 18 => .array .int
  | 19 => .array .int
  | 20 => .int
  | 21 => .array .int
  | 22 => .array .int
  | 23 => .array .int
  | 24 => .int
  | 25 => .int
  | 26 => .int
  | _ => .array .int
abbrev wsX40 : List Cond := u_ws RX4 TX4 28
theorem nmX4 : ∀ a, a < 28 → ∀ b, b < 28 → a ≠ b → (TX4 a).2.1 ≠ (TX4 b).2.1 := by decide +kernel
theorem tyX4_ok : ∀ k, k < 28 → parseFieldDescriptor (TX4 k).2.2.1 = some (tyX4 k) := by decide +kernel
abbrev cX4_init : ByteArray := prog_6_method_1_code
def yX4_init : MethodName := ⟨RX4, "<init>", "()V"⟩
abbrev cX4_in : ByteArray := prog_6_method_2_code
def yX4_in : MethodName := ⟨RX4, "in", "(III)Z"⟩
abbrev cX4_isWork : ByteArray := prog_6_method_3_code
def yX4_isWork : MethodName := ⟨RX4, "isWork", "(I)Z"⟩
abbrev cX4_many : ByteArray := prog_6_method_4_code
def yX4_many : MethodName := ⟨RX4, "many", "()I"⟩
abbrev cX4_note : ByteArray := prog_6_method_5_code
def yX4_note : MethodName := ⟨RX4, "note", "(II)I"⟩
abbrev cX4_forceTo : ByteArray := prog_6_method_6_code
def yX4_forceTo : MethodName := ⟨RX4, "forceTo", "(I)V"⟩
abbrev cX4_makeDirty : ByteArray := prog_6_method_7_code
def yX4_makeDirty : MethodName := ⟨RX4, "makeDirty", "(II)V"⟩
abbrev cX4_apply : ByteArray := prog_6_method_8_code
def yX4_apply : MethodName := ⟨RX4, "apply", "(I)V"⟩
abbrev cX4_open : ByteArray := prog_6_method_9_code
def yX4_open : MethodName := ⟨RX4, "open", "(I)I"⟩
abbrev cX4_giveBack : ByteArray := prog_6_method_10_code
def yX4_giveBack : MethodName := ⟨RX4, "giveBack", "(I)V"⟩
abbrev cX4_undoTo : ByteArray := prog_6_method_11_code
def yX4_undoTo : MethodName := ⟨RX4, "undoTo", "(II)I"⟩
abbrev cX4_end : ByteArray := prog_6_method_12_code
def yX4_end : MethodName := ⟨RX4, "end", "(I)V"⟩
abbrev cX4_begin : ByteArray := prog_6_method_13_code
def yX4_begin : MethodName := ⟨RX4, "begin", "()I"⟩
abbrev cX4_add : ByteArray := prog_6_method_14_code
def yX4_add : MethodName := ⟨RX4, "add", "(IIII)I"⟩
abbrev cX4_back : ByteArray := prog_6_method_15_code
def yX4_back : MethodName := ⟨RX4, "back", "(II)I"⟩
abbrev cX4_prepare : ByteArray := prog_6_method_16_code
def yX4_prepare : MethodName := ⟨RX4, "prepare", "(I)I"⟩
abbrev cX4_commit : ByteArray := prog_6_method_17_code
def yX4_commit : MethodName := ⟨RX4, "commit", "(I)I"⟩
abbrev cX4_abort : ByteArray := prog_6_method_18_code
def yX4_abort : MethodName := ⟨RX4, "abort", "(I)I"⟩
abbrev cX4_write : ByteArray := prog_6_method_19_code
def yX4_write : MethodName := ⟨RX4, "write", "(I)I"⟩
abbrev cX4_force : ByteArray := prog_6_method_20_code
def yX4_force : MethodName := ⟨RX4, "force", "(I)I"⟩
abbrev cX4_point : ByteArray := prog_6_method_21_code
def yX4_point : MethodName := ⟨RX4, "point", "()I"⟩
abbrev cX4_loss : ByteArray := prog_6_method_22_code
def yX4_loss : MethodName := ⟨RX4, "loss", "(I)I"⟩
abbrev cX4_leastBase : ByteArray := prog_6_method_23_code
def yX4_leastBase : MethodName := ⟨RX4, "leastBase", "()I"⟩
abbrev cX4_chosen : ByteArray := prog_6_method_24_code
def yX4_chosen : MethodName := ⟨RX4, "chosen", "()I"⟩
abbrev cX4_passOver : ByteArray := prog_6_method_25_code
def yX4_passOver : MethodName := ⟨RX4, "passOver", "()V"⟩
abbrev cX4_lookThrough : ByteArray := prog_6_method_26_code
def yX4_lookThrough : MethodName := ⟨RX4, "lookThrough", "(I)V"⟩
abbrev cX4_doAgain : ByteArray := prog_6_method_27_code
def yX4_doAgain : MethodName := ⟨RX4, "doAgain", "(I)V"⟩
abbrev cX4_step : ByteArray := prog_6_method_28_code
def yX4_step : MethodName := ⟨RX4, "step", "()V"⟩
abbrev cX4_restart : ByteArray := prog_6_method_29_code
def yX4_restart : MethodName := ⟨RX4, "restart", "(I)I"⟩
abbrev cX4_part : ByteArray := prog_6_method_30_code
def yX4_part : MethodName := ⟨RX4, "part", "()I"⟩
abbrev cX4_word : ByteArray := prog_6_method_31_code
def yX4_word : MethodName := ⟨RX4, "word", "(II)I"⟩
abbrev cX4_page : ByteArray := prog_6_method_32_code
def yX4_page : MethodName := ⟨RX4, "page", "(II)I"⟩
abbrev cX4_table : ByteArray := prog_6_method_33_code
def yX4_table : MethodName := ⟨RX4, "table", "(II)I"⟩
abbrev cX4_record : ByteArray := prog_6_method_34_code
def yX4_record : MethodName := ⟨RX4, "record", "(II)I"⟩
abbrev cX4_count : ByteArray := prog_6_method_35_code
def yX4_count : MethodName := ⟨RX4, "count", "(I)I"⟩
def RJx8e188 : String := "java/lang/Cloneable"
def TJx8e188 : u_T := fun k => match k with
  | _ => ("", "", "", false)
def tyJx8e188 : Nat → FieldType := fun k => match k with
  | _ => .int
abbrev wsJx8e1880 : List Cond := u_ws RJx8e188 TJx8e188 0
theorem nmJx8e188 : ∀ a, a < 0 → ∀ b, b < 0 → a ≠ b → (TJx8e188 a).2.1 ≠ (TJx8e188 b).2.1 := by decide +kernel
theorem tyJx8e188_ok : ∀ k, k < 0 → parseFieldDescriptor (TJx8e188 k).2.2.1 = some (tyJx8e188 k) := by decide +kernel
def RJ9 : String := "java/lang/Math"
def TJ9 : u_T := fun k => match k with
  | _ => ("", "", "", false)
def tyJ9 : Nat → FieldType := fun k => match k with
  | _ => .int
abbrev wsJ90 : List Cond := u_ws RJ9 TJ9 0
theorem nmJ9 : ∀ a, a < 0 → ∀ b, b < 0 → a ≠ b → (TJ9 a).2.1 ≠ (TJ9 b).2.1 := by decide +kernel
theorem tyJ9_ok : ∀ k, k < 0 → parseFieldDescriptor (TJ9 k).2.2.1 = some (tyJ9 k) := by decide +kernel
abbrev cJ9_max_7cf53 : ByteArray := prog_8_method_65_code
def yJ9_max_7cf53 : MethodName := ⟨RJ9, "max", "(II)I"⟩
abbrev cJ9_min_7cf53 : ByteArray := prog_8_method_69_code
def yJ9_min_7cf53 : MethodName := ⟨RJ9, "min", "(II)I"⟩
def RJ10 : String := "java/lang/System"
def TJ10 : u_T := fun k => match k with
  | _ => ("", "", "", false)
def tyJ10 : Nat → FieldType := fun k => match k with
  | _ => .int
abbrev wsJ100 : List Cond := u_ws RJ10 TJ10 0
theorem nmJ10 : ∀ a, a < 0 → ∀ b, b < 0 → a ≠ b → (TJ10 a).2.1 ≠ (TJ10 b).2.1 := by decide +kernel
theorem tyJ10_ok : ∀ k, k < 0 → parseFieldDescriptor (TJ10 k).2.2.1 = some (tyJ10 k) := by decide +kernel
def RJ7 : String := "java/util/Arrays"
def TJ7 : u_T := fun k => match k with
  | _ => ("", "", "", false)
def tyJ7 : Nat → FieldType := fun k => match k with
  | _ => .int
abbrev wsJ70 : List Cond := u_ws RJ7 TJ7 0
theorem nmJ7 : ∀ a, a < 0 → ∀ b, b < 0 → a ≠ b → (TJ7 a).2.1 ≠ (TJ7 b).2.1 := by decide +kernel
theorem tyJ7_ok : ∀ k, k < 0 → parseFieldDescriptor (TJ7 k).2.2.1 = some (tyJ7 k) := by decide +kernel
abbrev cJ7_fill_53178 : ByteArray := prog_10_method_103_code
def yJ7_fill_53178 : MethodName := ⟨RJ7, "fill", "([II)V"⟩
abbrev cJ7_copyOf_59c91 : ByteArray := prog_10_method_123_code
def yJ7_copyOf_59c91 : MethodName := ⟨RJ7, "copyOf", "([II)[I"⟩
def RL : String := "RestartBookLaw"
abbrev cL_law : ByteArray := code
def yL_law : MethodName := ⟨RL, "law", "([I)Z"⟩
def wsX0_init : List Cond := .code yX0_init cX0_init 1 none :: ([.methodLink RX0 1 objectInit, .instanceMethod objectInit, .code objectInit ⟨#[0xb1]⟩ 1 none, .arrayClass .int, .fieldLink RX0 9 "RestartBook$Log" "cells" "[I", .fieldLink RX0 13 "RestartBook$Log" "records" "I", .fieldLink RX0 17 "RestartBook$Log" "forced" "I", .fieldLink RX0 20 "RestartBook$Log" "changes" "I"] ++ wsX00)
def wsX0_recordsHeld : List Cond := .code yX0_recordsHeld cX0_recordsHeld 1 (some .int) :: ([.fieldLink RX0 13 "RestartBook$Log" "records" "I"] ++ wsX00)
def wsX0_forcedHeld : List Cond := .code yX0_forcedHeld cX0_forcedHeld 1 (some .int) :: ([.fieldLink RX0 17 "RestartBook$Log" "forced" "I"] ++ wsX00)
def wsX0_changesHeld : List Cond := .code yX0_changesHeld cX0_changesHeld 1 (some .int) :: ([.fieldLink RX0 20 "RestartBook$Log" "changes" "I"] ++ wsX00)
def wsX0_holds : List Cond := .code yX0_holds cX0_holds 2 (some .boolean) :: ([.fieldLink RX0 13 "RestartBook$Log" "records" "I"] ++ wsX00)
def wsX0_read : List Cond := .code yX0_read cX0_read 3 (some .int) :: ([.fieldLink RX0 9 "RestartBook$Log" "cells" "[I", .methodLink RX0 23 yX0_holds, .instanceMethod yX0_holds, .selects RX0 yX0_holds yX0_holds, .initialized RX0, .code yX0_holds cX0_holds 2 (some .boolean), .fieldLink RX0 13 "RestartBook$Log" "records" "I"] ++ wsX00)
def wsX0_changesPage : List Cond := .code yX0_changesPage cX0_changesPage 3 (some .boolean) :: ([.methodLink RX0 27 yX0_read, .instanceMethod yX0_read, .selects RX0 yX0_read yX0_read, .initialized RX0, .code yX0_read cX0_read 3 (some .int), .fieldLink RX0 9 "RestartBook$Log" "cells" "[I", .methodLink RX0 23 yX0_holds, .instanceMethod yX0_holds, .selects RX0 yX0_holds yX0_holds, .code yX0_holds cX0_holds 2 (some .boolean), .fieldLink RX0 13 "RestartBook$Log" "records" "I"] ++ wsX00)
def wsJ7_copyOf_59c91 : List Cond := .code yJ7_copyOf_59c91 cJ7_copyOf_59c91 3 (some (.array .int)) :: ([.methodLink RJ7 316 ⟨"[I", "clone", "()Ljava/lang/Object;"⟩, .sameMethod "[I" "java/lang/Object" "clone" "()Ljava/lang/Object;", .native ⟨"java/lang/Object", "clone", "()Ljava/lang/Object;"⟩, .instanceMethod ⟨"java/lang/Object", "clone", "()Ljava/lang/Object;"⟩, .selects "[I" ⟨"[I", "clone", "()Ljava/lang/Object;"⟩ ⟨"java/lang/Object", "clone", "()Ljava/lang/Object;"⟩, .classLink RJ7 317 "[I", .arrayClass .int, .methodLink RJ7 304 Lib.Math.min.name, .static Lib.Math.min.name, .initialized "java/lang/Math", .code Lib.Math.min.name Lib.Math.min.code 2 (some .int), .methodLink RJ7 150 arraycopyName, .native arraycopyName, .static arraycopyName, .initialized "java/lang/System"])
def wsX0_append : List Cond := .code yX0_append cX0_append 9 (some .int) :: ([.fieldLink RX0 13 "RestartBook$Log" "records" "I", .fieldLink RX0 9 "RestartBook$Log" "cells" "[I", .fieldLink RX0 20 "RestartBook$Log" "changes" "I", .methodLink RX0 31 yJ7_copyOf_59c91, .static yJ7_copyOf_59c91, .initialized RJ7, .code yJ7_copyOf_59c91 cJ7_copyOf_59c91 3 (some (.array .int)), .methodLink RJ7 316 ⟨"[I", "clone", "()Ljava/lang/Object;"⟩, .sameMethod "[I" "java/lang/Object" "clone" "()Ljava/lang/Object;", .native ⟨"java/lang/Object", "clone", "()Ljava/lang/Object;"⟩, .instanceMethod ⟨"java/lang/Object", "clone", "()Ljava/lang/Object;"⟩, .selects "[I" ⟨"[I", "clone", "()Ljava/lang/Object;"⟩ ⟨"java/lang/Object", "clone", "()Ljava/lang/Object;"⟩, .classLink RJ7 317 "[I", .arrayClass .int, .methodLink RJ7 304 Lib.Math.min.name, .static Lib.Math.min.name, .initialized "java/lang/Math", .code Lib.Math.min.name Lib.Math.min.code 2 (some .int), .methodLink RJ7 150 arraycopyName, .native arraycopyName, .static arraycopyName, .initialized "java/lang/System"] ++ wsX00)
def wsX0_undoingBehind : List Cond := .code yX0_undoingBehind cX0_undoingBehind 3 (some .int) :: ([.methodLink RX0 27 yX0_read, .instanceMethod yX0_read, .selects RX0 yX0_read yX0_read, .initialized RX0, .code yX0_read cX0_read 3 (some .int), .fieldLink RX0 9 "RestartBook$Log" "cells" "[I", .methodLink RX0 23 yX0_holds, .instanceMethod yX0_holds, .selects RX0 yX0_holds yX0_holds, .code yX0_holds cX0_holds 2 (some .boolean), .fieldLink RX0 13 "RestartBook$Log" "records" "I"] ++ wsX00)
def wsX0_forceUpTo : List Cond := .code yX0_forceUpTo cX0_forceUpTo 2 none :: ([.fieldLink RX0 17 "RestartBook$Log" "forced" "I", .fieldLink RX0 13 "RestartBook$Log" "records" "I", .methodLink RX0 37 Lib.Math.min.name, .static Lib.Math.min.name, .initialized "java/lang/Math", .code Lib.Math.min.name Lib.Math.min.code 2 (some .int), .methodLink RX0 42 Lib.Math.max.name, .static Lib.Math.max.name, .code Lib.Math.max.name Lib.Math.max.code 2 (some .int)] ++ wsX00)
def wsX0_loseBehind : List Cond := .code yX0_loseBehind cX0_loseBehind 4 none :: ([.fieldLink RX0 17 "RestartBook$Log" "forced" "I", .fieldLink RX0 13 "RestartBook$Log" "records" "I", .methodLink RX0 37 Lib.Math.min.name, .static Lib.Math.min.name, .initialized "java/lang/Math", .code Lib.Math.min.name Lib.Math.min.code 2 (some .int), .fieldLink RX0 20 "RestartBook$Log" "changes" "I", .methodLink RX0 27 yX0_read, .instanceMethod yX0_read, .selects RX0 yX0_read yX0_read, .initialized RX0, .code yX0_read cX0_read 3 (some .int), .fieldLink RX0 9 "RestartBook$Log" "cells" "[I", .methodLink RX0 23 yX0_holds, .instanceMethod yX0_holds, .selects RX0 yX0_holds yX0_holds, .code yX0_holds cX0_holds 2 (some .boolean)] ++ wsX00)
def wsX1_init : List Cond := .code yX1_init cX1_init 1 none :: ([.methodLink RX1 1 objectInit, .instanceMethod objectInit, .code objectInit ⟨#[0xb1]⟩ 1 none, .arrayClass .int, .fieldLink RX1 9 "RestartBook$Pages" "words" "[I", .fieldLink RX1 13 "RestartBook$Pages" "marks" "[I", .fieldLink RX1 16 "RestartBook$Pages" "mediumWords" "[I", .fieldLink RX1 19 "RestartBook$Pages" "mediumMarks" "[I"] ++ wsX10)
def wsX1_hasPage : List Cond := .code yX1_hasPage cX1_hasPage 1 (some .boolean) :: ([])
def wsX1_hasPlace : List Cond := .code yX1_hasPlace cX1_hasPlace 2 (some .boolean) :: ([])
def wsX1_valueOf : List Cond := .code yX1_valueOf cX1_valueOf 3 (some .int) :: ([.fieldLink RX1 9 "RestartBook$Pages" "words" "[I", .methodLink RX1 22 yX1_hasPlace, .static yX1_hasPlace, .initialized RX1, .code yX1_hasPlace cX1_hasPlace 2 (some .boolean)] ++ wsX10)
def wsX1_markOf : List Cond := .code yX1_markOf cX1_markOf 2 (some .int) :: ([.fieldLink RX1 13 "RestartBook$Pages" "marks" "[I", .methodLink RX1 26 yX1_hasPage, .static yX1_hasPage, .initialized RX1, .code yX1_hasPage cX1_hasPage 1 (some .boolean)] ++ wsX10)
def wsX1_mediumMarkOf : List Cond := .code yX1_mediumMarkOf cX1_mediumMarkOf 2 (some .int) :: ([.fieldLink RX1 19 "RestartBook$Pages" "mediumMarks" "[I", .methodLink RX1 26 yX1_hasPage, .static yX1_hasPage, .initialized RX1, .code yX1_hasPage cX1_hasPage 1 (some .boolean)] ++ wsX10)
def wsX1_change : List Cond := .code yX1_change cX1_change 5 none :: ([.fieldLink RX1 9 "RestartBook$Pages" "words" "[I", .fieldLink RX1 13 "RestartBook$Pages" "marks" "[I", .methodLink RX1 22 yX1_hasPlace, .static yX1_hasPlace, .initialized RX1, .code yX1_hasPlace cX1_hasPlace 2 (some .boolean)] ++ wsX10)
def wsX1_copyToMedium : List Cond := .code yX1_copyToMedium cX1_copyToMedium 2 none :: ([.fieldLink RX1 9 "RestartBook$Pages" "words" "[I", .fieldLink RX1 16 "RestartBook$Pages" "mediumWords" "[I", .methodLink RX1 30 arraycopyName, .native arraycopyName, .static arraycopyName, .initialized "java/lang/System", .fieldLink RX1 19 "RestartBook$Pages" "mediumMarks" "[I", .fieldLink RX1 13 "RestartBook$Pages" "marks" "[I", .methodLink RX1 26 yX1_hasPage, .static yX1_hasPage, .initialized RX1, .code yX1_hasPage cX1_hasPage 1 (some .boolean)] ++ wsX10)
def wsX1_readAllFromMedium : List Cond := .code yX1_readAllFromMedium cX1_readAllFromMedium 1 none :: ([.fieldLink RX1 16 "RestartBook$Pages" "mediumWords" "[I", .fieldLink RX1 9 "RestartBook$Pages" "words" "[I", .methodLink RX1 30 arraycopyName, .native arraycopyName, .static arraycopyName, .initialized "java/lang/System", .fieldLink RX1 19 "RestartBook$Pages" "mediumMarks" "[I", .fieldLink RX1 13 "RestartBook$Pages" "marks" "[I"] ++ wsX10)
def wsX2_init : List Cond := .code yX2_init cX2_init 1 none :: ([.methodLink RX2 1 objectInit, .instanceMethod objectInit, .code objectInit ⟨#[0xb1]⟩ 1 none, .fieldLink RX2 7 "RestartBook$Tables" "size" "I", .arrayClass .int, .fieldLink RX2 13 "RestartBook$Tables" "works" "[I", .fieldLink RX2 17 "RestartBook$Tables" "states" "[I", .fieldLink RX2 20 "RestartBook$Tables" "lasts" "[I", .fieldLink RX2 23 "RestartBook$Tables" "nexts" "[I", .fieldLink RX2 28 "RestartBook$Tables" "bases" "[I"] ++ wsX20)
def wsX2_isFull : List Cond := .code yX2_isFull cX2_isFull 1 (some .boolean) :: ([.fieldLink RX2 7 "RestartBook$Tables" "size" "I"] ++ wsX20)
def wsX2_slotOf : List Cond := .code yX2_slotOf cX2_slotOf 3 (some .int) :: ([.fieldLink RX2 7 "RestartBook$Tables" "size" "I", .fieldLink RX2 13 "RestartBook$Tables" "works" "[I"] ++ wsX20)
def wsX2_holds : List Cond := .code yX2_holds cX2_holds 2 (some .boolean) :: ([.methodLink RX2 31 yX2_slotOf, .instanceMethod yX2_slotOf, .selects RX2 yX2_slotOf yX2_slotOf, .initialized RX2, .code yX2_slotOf cX2_slotOf 3 (some .int), .fieldLink RX2 7 "RestartBook$Tables" "size" "I", .fieldLink RX2 13 "RestartBook$Tables" "works" "[I"] ++ wsX20)
def wsX2_workAt : List Cond := .code yX2_workAt cX2_workAt 2 (some .int) :: ([.fieldLink RX2 7 "RestartBook$Tables" "size" "I", .fieldLink RX2 13 "RestartBook$Tables" "works" "[I"] ++ wsX20)
def wsX2_stateOf : List Cond := .code yX2_stateOf cX2_stateOf 3 (some .int) :: ([.fieldLink RX2 17 "RestartBook$Tables" "states" "[I", .methodLink RX2 31 yX2_slotOf, .instanceMethod yX2_slotOf, .selects RX2 yX2_slotOf yX2_slotOf, .initialized RX2, .code yX2_slotOf cX2_slotOf 3 (some .int), .fieldLink RX2 7 "RestartBook$Tables" "size" "I", .fieldLink RX2 13 "RestartBook$Tables" "works" "[I"] ++ wsX20)
def wsX2_lastOf : List Cond := .code yX2_lastOf cX2_lastOf 3 (some .int) :: ([.fieldLink RX2 20 "RestartBook$Tables" "lasts" "[I", .methodLink RX2 31 yX2_slotOf, .instanceMethod yX2_slotOf, .selects RX2 yX2_slotOf yX2_slotOf, .initialized RX2, .code yX2_slotOf cX2_slotOf 3 (some .int), .fieldLink RX2 7 "RestartBook$Tables" "size" "I", .fieldLink RX2 13 "RestartBook$Tables" "works" "[I"] ++ wsX20)
def wsX2_nextOf : List Cond := .code yX2_nextOf cX2_nextOf 3 (some .int) :: ([.fieldLink RX2 23 "RestartBook$Tables" "nexts" "[I", .methodLink RX2 31 yX2_slotOf, .instanceMethod yX2_slotOf, .selects RX2 yX2_slotOf yX2_slotOf, .initialized RX2, .code yX2_slotOf cX2_slotOf 3 (some .int), .fieldLink RX2 7 "RestartBook$Tables" "size" "I", .fieldLink RX2 13 "RestartBook$Tables" "works" "[I"] ++ wsX20)
def wsX2_setState : List Cond := .code yX2_setState cX2_setState 4 none :: ([.fieldLink RX2 17 "RestartBook$Tables" "states" "[I", .methodLink RX2 31 yX2_slotOf, .instanceMethod yX2_slotOf, .selects RX2 yX2_slotOf yX2_slotOf, .initialized RX2, .code yX2_slotOf cX2_slotOf 3 (some .int), .fieldLink RX2 7 "RestartBook$Tables" "size" "I", .fieldLink RX2 13 "RestartBook$Tables" "works" "[I"] ++ wsX20)
def wsX2_setLast : List Cond := .code yX2_setLast cX2_setLast 4 none :: ([.fieldLink RX2 20 "RestartBook$Tables" "lasts" "[I", .methodLink RX2 31 yX2_slotOf, .instanceMethod yX2_slotOf, .selects RX2 yX2_slotOf yX2_slotOf, .initialized RX2, .code yX2_slotOf cX2_slotOf 3 (some .int), .fieldLink RX2 7 "RestartBook$Tables" "size" "I", .fieldLink RX2 13 "RestartBook$Tables" "works" "[I"] ++ wsX20)
def wsX2_setNext : List Cond := .code yX2_setNext cX2_setNext 4 none :: ([.fieldLink RX2 23 "RestartBook$Tables" "nexts" "[I", .methodLink RX2 31 yX2_slotOf, .instanceMethod yX2_slotOf, .selects RX2 yX2_slotOf yX2_slotOf, .initialized RX2, .code yX2_slotOf cX2_slotOf 3 (some .int), .fieldLink RX2 7 "RestartBook$Tables" "size" "I", .fieldLink RX2 13 "RestartBook$Tables" "works" "[I"] ++ wsX20)
def wsX2_copySlot : List Cond := .code yX2_copySlot cX2_copySlot 3 none :: ([.fieldLink RX2 13 "RestartBook$Tables" "works" "[I", .fieldLink RX2 17 "RestartBook$Tables" "states" "[I", .fieldLink RX2 20 "RestartBook$Tables" "lasts" "[I", .fieldLink RX2 23 "RestartBook$Tables" "nexts" "[I"] ++ wsX20)
def wsX2_bringIn : List Cond := .code yX2_bringIn cX2_bringIn 3 none :: ([.fieldLink RX2 7 "RestartBook$Tables" "size" "I", .fieldLink RX2 13 "RestartBook$Tables" "works" "[I", .fieldLink RX2 17 "RestartBook$Tables" "states" "[I", .fieldLink RX2 20 "RestartBook$Tables" "lasts" "[I", .fieldLink RX2 23 "RestartBook$Tables" "nexts" "[I", .methodLink RX2 35 yX2_isFull, .instanceMethod yX2_isFull, .selects RX2 yX2_isFull yX2_isFull, .initialized RX2, .code yX2_isFull cX2_isFull 1 (some .boolean), .methodLink RX2 31 yX2_slotOf, .instanceMethod yX2_slotOf, .selects RX2 yX2_slotOf yX2_slotOf, .code yX2_slotOf cX2_slotOf 3 (some .int), .methodLink RX2 39 yX2_copySlot, .instanceMethod yX2_copySlot, .selects RX2 yX2_copySlot yX2_copySlot, .code yX2_copySlot cX2_copySlot 3 none] ++ wsX20)
def wsX2_takeOut : List Cond := .code yX2_takeOut cX2_takeOut 4 none :: ([.fieldLink RX2 7 "RestartBook$Tables" "size" "I", .methodLink RX2 31 yX2_slotOf, .instanceMethod yX2_slotOf, .selects RX2 yX2_slotOf yX2_slotOf, .initialized RX2, .code yX2_slotOf cX2_slotOf 3 (some .int), .fieldLink RX2 13 "RestartBook$Tables" "works" "[I", .methodLink RX2 39 yX2_copySlot, .instanceMethod yX2_copySlot, .selects RX2 yX2_copySlot yX2_copySlot, .code yX2_copySlot cX2_copySlot 3 none, .fieldLink RX2 17 "RestartBook$Tables" "states" "[I", .fieldLink RX2 20 "RestartBook$Tables" "lasts" "[I", .fieldLink RX2 23 "RestartBook$Tables" "nexts" "[I"] ++ wsX20)
def wsX2_leastWorkIn : List Cond := .code yX2_leastWorkIn cX2_leastWorkIn 3 (some .int) :: ([.fieldLink RX2 7 "RestartBook$Tables" "size" "I", .fieldLink RX2 17 "RestartBook$Tables" "states" "[I", .fieldLink RX2 13 "RestartBook$Tables" "works" "[I"] ++ wsX20)
def wsX2_workToUndo : List Cond := .code yX2_workToUndo cX2_workToUndo 4 (some .int) :: ([.fieldLink RX2 7 "RestartBook$Tables" "size" "I", .fieldLink RX2 17 "RestartBook$Tables" "states" "[I", .fieldLink RX2 23 "RestartBook$Tables" "nexts" "[I", .fieldLink RX2 13 "RestartBook$Tables" "works" "[I"] ++ wsX20)
def wsX2_baseOf : List Cond := .code yX2_baseOf cX2_baseOf 2 (some .int) :: ([.fieldLink RX2 28 "RestartBook$Tables" "bases" "[I", .methodLink RX2 43 yX1_hasPage, .static yX1_hasPage, .initialized RX1, .code yX1_hasPage cX1_hasPage 1 (some .boolean)] ++ wsX20)
def wsX2_makeDirty : List Cond := .code yX2_makeDirty cX2_makeDirty 3 none :: ([.fieldLink RX2 28 "RestartBook$Tables" "bases" "[I", .methodLink RX2 43 yX1_hasPage, .static yX1_hasPage, .initialized RX1, .code yX1_hasPage cX1_hasPage 1 (some .boolean)] ++ wsX20)
def wsX2_makeClean : List Cond := .code yX2_makeClean cX2_makeClean 2 none :: ([.fieldLink RX2 28 "RestartBook$Tables" "bases" "[I", .methodLink RX2 43 yX1_hasPage, .static yX1_hasPage, .initialized RX1, .code yX1_hasPage cX1_hasPage 1 (some .boolean)] ++ wsX20)
def wsX2_leastBase : List Cond := .code yX2_leastBase cX2_leastBase 3 (some .int) :: ([.fieldLink RX2 28 "RestartBook$Tables" "bases" "[I"] ++ wsX20)
def wsJ7_fill_53178 : List Cond := .code yJ7_fill_53178 cJ7_fill_53178 4 none :: ([])
def wsX2_makeEmpty : List Cond := .code yX2_makeEmpty cX2_makeEmpty 1 none :: ([.fieldLink RX2 7 "RestartBook$Tables" "size" "I", .fieldLink RX2 28 "RestartBook$Tables" "bases" "[I", .methodLink RX2 47 yJ7_fill_53178, .static yJ7_fill_53178, .initialized RJ7, .code yJ7_fill_53178 cJ7_fill_53178 4 none] ++ wsX20)
def wsX2_bringInMissing_r1 : List Cond := [Cond.fieldLink RX2 7 "RestartBook$Tables" "size" "I", Cond.fieldLink RX2 13 "RestartBook$Tables" "works" "[I", Cond.fieldLink RX2 17 "RestartBook$Tables" "states" "[I", Cond.fieldLink RX2 20 "RestartBook$Tables" "lasts" "[I", Cond.fieldLink RX2 23 "RestartBook$Tables" "nexts" "[I", Cond.fieldLink RX2 28 "RestartBook$Tables" "bases" "[I", Cond.methodLink RX2 60 yX2_holds, Cond.instanceMethod yX2_holds, Cond.selects RX2 yX2_holds yX2_holds, Cond.initialized RX2, Cond.code yX2_holds cX2_holds 2 (some .boolean), Cond.methodLink RX2 31 yX2_slotOf, Cond.instanceMethod yX2_slotOf, Cond.selects RX2 yX2_slotOf yX2_slotOf, Cond.code yX2_slotOf cX2_slotOf 3 (some .int), Cond.methodLink RX2 63 yX2_bringIn, Cond.instanceMethod yX2_bringIn, Cond.selects RX2 yX2_bringIn yX2_bringIn, Cond.code yX2_bringIn cX2_bringIn 3 none, Cond.methodLink RX2 35 yX2_isFull, Cond.instanceMethod yX2_isFull, Cond.selects RX2 yX2_isFull yX2_isFull, Cond.code yX2_isFull cX2_isFull 1 (some .boolean), Cond.methodLink RX2 39 yX2_copySlot]
def wsX2_bringInMissing_r2 : List Cond := [Cond.instanceMethod yX2_copySlot, Cond.selects RX2 yX2_copySlot yX2_copySlot, Cond.code yX2_copySlot cX2_copySlot 3 none, Cond.methodLink RX2 67 yX2_setState, Cond.instanceMethod yX2_setState, Cond.selects RX2 yX2_setState yX2_setState, Cond.code yX2_setState cX2_setState 4 none, Cond.methodLink RX2 70 yX2_setLast, Cond.instanceMethod yX2_setLast, Cond.selects RX2 yX2_setLast yX2_setLast, Cond.code yX2_setLast cX2_setLast 4 none, Cond.methodLink RX2 73 yX2_setNext, Cond.instanceMethod yX2_setNext, Cond.selects RX2 yX2_setNext yX2_setNext, Cond.code yX2_setNext cX2_setNext 4 none, Cond.methodLink RX2 76 yX2_makeDirty, Cond.instanceMethod yX2_makeDirty, Cond.selects RX2 yX2_makeDirty yX2_makeDirty, Cond.code yX2_makeDirty cX2_makeDirty 3 none, Cond.methodLink RX2 43 yX1_hasPage, Cond.static yX1_hasPage, Cond.initialized RX1, Cond.code yX1_hasPage cX1_hasPage 1 (some .boolean)]
def wsX2_bringInMissing : List Cond := .code yX2_bringInMissing cX2_bringInMissing 4 none :: ((wsX2_bringInMissing_r1 ++ wsX2_bringInMissing_r2) ++ wsX20)
def wsX2_becomeLike_r1 : List Cond := [Cond.methodLink RX2 53 yX2_makeEmpty, Cond.instanceMethod yX2_makeEmpty, Cond.selects RX2 yX2_makeEmpty yX2_makeEmpty, Cond.initialized RX2, Cond.code yX2_makeEmpty cX2_makeEmpty 1 none, Cond.fieldLink RX2 7 "RestartBook$Tables" "size" "I", Cond.fieldLink RX2 28 "RestartBook$Tables" "bases" "[I", Cond.methodLink RX2 47 yJ7_fill_53178, Cond.static yJ7_fill_53178, Cond.initialized RJ7, Cond.code yJ7_fill_53178 cJ7_fill_53178 4 none, Cond.methodLink RX2 56 yX2_bringInMissing, Cond.instanceMethod yX2_bringInMissing, Cond.selects RX2 yX2_bringInMissing yX2_bringInMissing, Cond.code yX2_bringInMissing cX2_bringInMissing 4 none, Cond.fieldLink RX2 13 "RestartBook$Tables" "works" "[I", Cond.fieldLink RX2 17 "RestartBook$Tables" "states" "[I", Cond.fieldLink RX2 20 "RestartBook$Tables" "lasts" "[I", Cond.fieldLink RX2 23 "RestartBook$Tables" "nexts" "[I", Cond.methodLink RX2 60 yX2_holds, Cond.instanceMethod yX2_holds, Cond.selects RX2 yX2_holds yX2_holds, Cond.code yX2_holds cX2_holds 2 (some .boolean), Cond.methodLink RX2 31 yX2_slotOf]
def wsX2_becomeLike_r2 : List Cond := [Cond.instanceMethod yX2_slotOf, Cond.selects RX2 yX2_slotOf yX2_slotOf, Cond.code yX2_slotOf cX2_slotOf 3 (some .int), Cond.methodLink RX2 63 yX2_bringIn, Cond.instanceMethod yX2_bringIn, Cond.selects RX2 yX2_bringIn yX2_bringIn, Cond.code yX2_bringIn cX2_bringIn 3 none, Cond.methodLink RX2 35 yX2_isFull, Cond.instanceMethod yX2_isFull, Cond.selects RX2 yX2_isFull yX2_isFull, Cond.code yX2_isFull cX2_isFull 1 (some .boolean), Cond.methodLink RX2 39 yX2_copySlot, Cond.instanceMethod yX2_copySlot, Cond.selects RX2 yX2_copySlot yX2_copySlot, Cond.code yX2_copySlot cX2_copySlot 3 none, Cond.methodLink RX2 67 yX2_setState, Cond.instanceMethod yX2_setState, Cond.selects RX2 yX2_setState yX2_setState, Cond.code yX2_setState cX2_setState 4 none, Cond.methodLink RX2 70 yX2_setLast, Cond.instanceMethod yX2_setLast, Cond.selects RX2 yX2_setLast yX2_setLast, Cond.code yX2_setLast cX2_setLast 4 none, Cond.methodLink RX2 73 yX2_setNext]
def wsX2_becomeLike_r3 : List Cond := [Cond.instanceMethod yX2_setNext, Cond.selects RX2 yX2_setNext yX2_setNext, Cond.code yX2_setNext cX2_setNext 4 none, Cond.methodLink RX2 76 yX2_makeDirty, Cond.instanceMethod yX2_makeDirty, Cond.selects RX2 yX2_makeDirty yX2_makeDirty, Cond.code yX2_makeDirty cX2_makeDirty 3 none, Cond.methodLink RX2 43 yX1_hasPage, Cond.static yX1_hasPage, Cond.initialized RX1, Cond.code yX1_hasPage cX1_hasPage 1 (some .boolean)]
def wsX2_becomeLike : List Cond := .code yX2_becomeLike cX2_becomeLike 2 none :: ((wsX2_becomeLike_r1 ++ (wsX2_becomeLike_r2 ++ wsX2_becomeLike_r3)) ++ wsX20)
def wsX3_init_r1 : List Cond := [Cond.methodLink RX3 1 objectInit, Cond.instanceMethod objectInit, Cond.code objectInit ⟨#[0xb1]⟩ 1 none, Cond.classLink RX3 7 RX0, Cond.instantiable RX0 4, Cond.initialized RX0, Cond.fieldLink RX3 10 "RestartBook" "log" "LRestartBook$Log;", Cond.classLink RX3 16 RX1, Cond.instantiable RX1 4, Cond.initialized RX1, Cond.fieldLink RX3 19 "RestartBook" "pages" "LRestartBook$Pages;", Cond.classLink RX3 23 RX2, Cond.instantiable RX2 6, Cond.initialized RX2, Cond.fieldLink RX3 26 "RestartBook" "tables" "LRestartBook$Tables;", Cond.fieldLink RX3 30 "RestartBook" "toldByPoint" "LRestartBook$Tables;", Cond.fieldLink RX3 33 "RestartBook" "latestPoint" "I", Cond.fieldLink RX3 37 "RestartBook" "pointsMade" "I", Cond.fieldLink RX3 40 "RestartBook" "worksGiven" "I", Cond.fieldLink RX3 43 "RestartBook" "doing" "I", Cond.fieldLink RX3 46 "RestartBook" "nextStep" "I", Cond.fieldLink RX3 49 "RestartBook" "lookedThrough" "I", Cond.fieldLink RX3 52 "RestartBook" "doneAgain" "I", Cond.fieldLink RX3 55 "RestartBook" "passedOver" "I"]
def wsX3_init_r2 : List Cond := [Cond.fieldLink RX3 58 "RestartBook" "undone" "I", Cond.instanceMethod yX0_init, Cond.code yX0_init cX0_init 1 none, Cond.methodLink RX0 1 objectInit, Cond.arrayClass .int, Cond.fieldLink RX0 9 "RestartBook$Log" "cells" "[I", Cond.fieldLink RX0 13 "RestartBook$Log" "records" "I", Cond.fieldLink RX0 17 "RestartBook$Log" "forced" "I", Cond.fieldLink RX0 20 "RestartBook$Log" "changes" "I", Cond.instanceMethod yX1_init, Cond.code yX1_init cX1_init 1 none, Cond.methodLink RX1 1 objectInit, Cond.fieldLink RX1 9 "RestartBook$Pages" "words" "[I", Cond.fieldLink RX1 13 "RestartBook$Pages" "marks" "[I", Cond.fieldLink RX1 16 "RestartBook$Pages" "mediumWords" "[I", Cond.fieldLink RX1 19 "RestartBook$Pages" "mediumMarks" "[I", Cond.instanceMethod yX2_init, Cond.code yX2_init cX2_init 1 none, Cond.methodLink RX2 1 objectInit, Cond.fieldLink RX2 7 "RestartBook$Tables" "size" "I", Cond.fieldLink RX2 13 "RestartBook$Tables" "works" "[I", Cond.fieldLink RX2 17 "RestartBook$Tables" "states" "[I", Cond.fieldLink RX2 20 "RestartBook$Tables" "lasts" "[I", Cond.fieldLink RX2 23 "RestartBook$Tables" "nexts" "[I"]
def wsX3_init_r3 : List Cond := [Cond.fieldLink RX2 28 "RestartBook$Tables" "bases" "[I"]
def wsX3_init : List Cond := .code yX3_init cX3_init 1 none :: ((wsX3_init_r1 ++ (wsX3_init_r2 ++ wsX3_init_r3)) ++ wsX00 ++ wsX30 ++ wsX10 ++ wsX20)
def wsX3_begin_r1 : List Cond := [Cond.fieldLink RX3 43 "RestartBook" "doing" "I", Cond.fieldLink RX3 40 "RestartBook" "worksGiven" "I", Cond.fieldLink RX3 26 "RestartBook" "tables" "LRestartBook$Tables;", Cond.methodLink RX3 61 yX2_isFull, Cond.instanceMethod yX2_isFull, Cond.selects RX2 yX2_isFull yX2_isFull, Cond.initialized RX2, Cond.code yX2_isFull cX2_isFull 1 (some .boolean), Cond.fieldLink RX2 7 "RestartBook$Tables" "size" "I", Cond.methodLink RX3 65 yX2_bringIn, Cond.instanceMethod yX2_bringIn, Cond.selects RX2 yX2_bringIn yX2_bringIn, Cond.code yX2_bringIn cX2_bringIn 3 none, Cond.fieldLink RX2 13 "RestartBook$Tables" "works" "[I", Cond.fieldLink RX2 17 "RestartBook$Tables" "states" "[I", Cond.fieldLink RX2 20 "RestartBook$Tables" "lasts" "[I", Cond.fieldLink RX2 23 "RestartBook$Tables" "nexts" "[I", Cond.methodLink RX2 35 yX2_isFull, Cond.methodLink RX2 31 yX2_slotOf, Cond.instanceMethod yX2_slotOf, Cond.selects RX2 yX2_slotOf yX2_slotOf, Cond.code yX2_slotOf cX2_slotOf 3 (some .int), Cond.methodLink RX2 39 yX2_copySlot, Cond.instanceMethod yX2_copySlot]
def wsX3_begin_r2 : List Cond := [Cond.selects RX2 yX2_copySlot yX2_copySlot, Cond.code yX2_copySlot cX2_copySlot 3 none]
def wsX3_begin : List Cond := .code yX3_begin cX3_begin 1 (some .int) :: ((wsX3_begin_r1 ++ wsX3_begin_r2) ++ wsX30 ++ wsX20)
def wsX3_refusalFor : List Cond := .code yX3_refusalFor cX3_refusalFor 2 (some .int) :: ([.fieldLink RX3 43 "RestartBook" "doing" "I", .fieldLink RX3 26 "RestartBook" "tables" "LRestartBook$Tables;", .methodLink RX3 171 yX2_holds, .instanceMethod yX2_holds, .selects RX2 yX2_holds yX2_holds, .initialized RX2, .code yX2_holds cX2_holds 2 (some .boolean), .methodLink RX2 31 yX2_slotOf, .instanceMethod yX2_slotOf, .selects RX2 yX2_slotOf yX2_slotOf, .code yX2_slotOf cX2_slotOf 3 (some .int), .fieldLink RX2 7 "RestartBook$Tables" "size" "I", .fieldLink RX2 13 "RestartBook$Tables" "works" "[I"] ++ wsX30 ++ wsX20)
def wsX3_takeIntoTables_r1 : List Cond := [Cond.fieldLink RX3 10 "RestartBook" "log" "LRestartBook$Log;", Cond.fieldLink RX3 26 "RestartBook" "tables" "LRestartBook$Tables;", Cond.methodLink RX3 168 yX0_read, Cond.instanceMethod yX0_read, Cond.selects RX0 yX0_read yX0_read, Cond.initialized RX0, Cond.code yX0_read cX0_read 3 (some .int), Cond.fieldLink RX0 9 "RestartBook$Log" "cells" "[I", Cond.methodLink RX0 23 yX0_holds, Cond.instanceMethod yX0_holds, Cond.selects RX0 yX0_holds yX0_holds, Cond.code yX0_holds cX0_holds 2 (some .boolean), Cond.fieldLink RX0 13 "RestartBook$Log" "records" "I", Cond.methodLink RX3 65 yX2_bringIn, Cond.instanceMethod yX2_bringIn, Cond.selects RX2 yX2_bringIn yX2_bringIn, Cond.initialized RX2, Cond.code yX2_bringIn cX2_bringIn 3 none, Cond.fieldLink RX2 7 "RestartBook$Tables" "size" "I", Cond.fieldLink RX2 13 "RestartBook$Tables" "works" "[I", Cond.fieldLink RX2 17 "RestartBook$Tables" "states" "[I", Cond.fieldLink RX2 20 "RestartBook$Tables" "lasts" "[I", Cond.fieldLink RX2 23 "RestartBook$Tables" "nexts" "[I", Cond.methodLink RX2 35 yX2_isFull]
def wsX3_takeIntoTables_r2 : List Cond := [Cond.instanceMethod yX2_isFull, Cond.selects RX2 yX2_isFull yX2_isFull, Cond.code yX2_isFull cX2_isFull 1 (some .boolean), Cond.methodLink RX2 31 yX2_slotOf, Cond.instanceMethod yX2_slotOf, Cond.selects RX2 yX2_slotOf yX2_slotOf, Cond.code yX2_slotOf cX2_slotOf 3 (some .int), Cond.methodLink RX2 39 yX2_copySlot, Cond.instanceMethod yX2_copySlot, Cond.selects RX2 yX2_copySlot yX2_copySlot, Cond.code yX2_copySlot cX2_copySlot 3 none, Cond.methodLink RX3 178 yX2_setLast, Cond.instanceMethod yX2_setLast, Cond.selects RX2 yX2_setLast yX2_setLast, Cond.code yX2_setLast cX2_setLast 4 none, Cond.methodLink RX3 182 yX2_setNext, Cond.instanceMethod yX2_setNext, Cond.selects RX2 yX2_setNext yX2_setNext, Cond.code yX2_setNext cX2_setNext 4 none, Cond.methodLink RX3 185 yX2_makeDirty, Cond.instanceMethod yX2_makeDirty, Cond.selects RX2 yX2_makeDirty yX2_makeDirty, Cond.code yX2_makeDirty cX2_makeDirty 3 none, Cond.fieldLink RX2 28 "RestartBook$Tables" "bases" "[I"]
def wsX3_takeIntoTables_r3 : List Cond := [Cond.methodLink RX2 43 yX1_hasPage, Cond.static yX1_hasPage, Cond.initialized RX1, Cond.code yX1_hasPage cX1_hasPage 1 (some .boolean), Cond.methodLink RX3 188 yX2_setState, Cond.instanceMethod yX2_setState, Cond.selects RX2 yX2_setState yX2_setState, Cond.code yX2_setState cX2_setState 4 none, Cond.methodLink RX3 191 yX2_takeOut, Cond.instanceMethod yX2_takeOut, Cond.selects RX2 yX2_takeOut yX2_takeOut, Cond.code yX2_takeOut cX2_takeOut 4 none]
def wsX3_takeIntoTables : List Cond := .code yX3_takeIntoTables cX3_takeIntoTables 4 none :: ((wsX3_takeIntoTables_r1 ++ (wsX3_takeIntoTables_r2 ++ wsX3_takeIntoTables_r3)) ++ wsX30 ++ wsX00 ++ wsX20)
def wsX3_carryOut : List Cond := .code yX3_carryOut cX3_carryOut 2 none :: ([.fieldLink RX3 19 "RestartBook" "pages" "LRestartBook$Pages;", .fieldLink RX3 10 "RestartBook" "log" "LRestartBook$Log;", .methodLink RX3 168 yX0_read, .instanceMethod yX0_read, .selects RX0 yX0_read yX0_read, .initialized RX0, .code yX0_read cX0_read 3 (some .int), .fieldLink RX0 9 "RestartBook$Log" "cells" "[I", .methodLink RX0 23 yX0_holds, .instanceMethod yX0_holds, .selects RX0 yX0_holds yX0_holds, .code yX0_holds cX0_holds 2 (some .boolean), .fieldLink RX0 13 "RestartBook$Log" "records" "I", .methodLink RX3 194 yX1_change, .instanceMethod yX1_change, .selects RX1 yX1_change yX1_change, .initialized RX1, .code yX1_change cX1_change 5 none, .fieldLink RX1 9 "RestartBook$Pages" "words" "[I", .fieldLink RX1 13 "RestartBook$Pages" "marks" "[I", .methodLink RX1 22 yX1_hasPlace, .static yX1_hasPlace, .code yX1_hasPlace cX1_hasPlace 2 (some .boolean)] ++ wsX30 ++ wsX00 ++ wsX10)
def wsX3_add_r1 : List Cond := [Cond.fieldLink RX3 26 "RestartBook" "tables" "LRestartBook$Tables;", Cond.fieldLink RX3 10 "RestartBook" "log" "LRestartBook$Log;", Cond.methodLink RX3 69 yX3_refusalFor, Cond.instanceMethod yX3_refusalFor, Cond.selects RX3 yX3_refusalFor yX3_refusalFor, Cond.initialized RX3, Cond.code yX3_refusalFor cX3_refusalFor 2 (some .int), Cond.fieldLink RX3 43 "RestartBook" "doing" "I", Cond.methodLink RX3 171 yX2_holds, Cond.instanceMethod yX2_holds, Cond.selects RX2 yX2_holds yX2_holds, Cond.initialized RX2, Cond.code yX2_holds cX2_holds 2 (some .boolean), Cond.methodLink RX2 31 yX2_slotOf, Cond.instanceMethod yX2_slotOf, Cond.selects RX2 yX2_slotOf yX2_slotOf, Cond.code yX2_slotOf cX2_slotOf 3 (some .int), Cond.fieldLink RX2 7 "RestartBook$Tables" "size" "I", Cond.fieldLink RX2 13 "RestartBook$Tables" "works" "[I", Cond.methodLink RX3 73 yX1_hasPlace, Cond.static yX1_hasPlace, Cond.initialized RX1, Cond.code yX1_hasPlace cX1_hasPlace 2 (some .boolean), Cond.methodLink RX3 77 yX2_stateOf]
def wsX3_add_r2 : List Cond := [Cond.instanceMethod yX2_stateOf, Cond.selects RX2 yX2_stateOf yX2_stateOf, Cond.code yX2_stateOf cX2_stateOf 3 (some .int), Cond.fieldLink RX2 17 "RestartBook$Tables" "states" "[I", Cond.methodLink RX3 80 yX0_changesHeld, Cond.instanceMethod yX0_changesHeld, Cond.selects RX0 yX0_changesHeld yX0_changesHeld, Cond.initialized RX0, Cond.code yX0_changesHeld cX0_changesHeld 1 (some .int), Cond.fieldLink RX0 20 "RestartBook$Log" "changes" "I", Cond.methodLink RX3 84 yX2_lastOf, Cond.instanceMethod yX2_lastOf, Cond.selects RX2 yX2_lastOf yX2_lastOf, Cond.code yX2_lastOf cX2_lastOf 3 (some .int), Cond.fieldLink RX2 20 "RestartBook$Tables" "lasts" "[I", Cond.methodLink RX3 87 yX0_append, Cond.instanceMethod yX0_append, Cond.selects RX0 yX0_append yX0_append, Cond.code yX0_append cX0_append 9 (some .int), Cond.fieldLink RX0 13 "RestartBook$Log" "records" "I", Cond.fieldLink RX0 9 "RestartBook$Log" "cells" "[I", Cond.methodLink RX0 31 yJ7_copyOf_59c91, Cond.static yJ7_copyOf_59c91, Cond.initialized RJ7]
def wsX3_add_r3 : List Cond := [Cond.code yJ7_copyOf_59c91 cJ7_copyOf_59c91 3 (some (.array .int)), Cond.methodLink RJ7 316 ⟨"[I", "clone", "()Ljava/lang/Object;"⟩, Cond.sameMethod "[I" "java/lang/Object" "clone" "()Ljava/lang/Object;", Cond.native ⟨"java/lang/Object", "clone", "()Ljava/lang/Object;"⟩, Cond.instanceMethod ⟨"java/lang/Object", "clone", "()Ljava/lang/Object;"⟩, Cond.selects "[I" ⟨"[I", "clone", "()Ljava/lang/Object;"⟩ ⟨"java/lang/Object", "clone", "()Ljava/lang/Object;"⟩, Cond.classLink RJ7 317 "[I", Cond.arrayClass .int, Cond.methodLink RJ7 304 Lib.Math.min.name, Cond.static Lib.Math.min.name, Cond.initialized "java/lang/Math", Cond.code Lib.Math.min.name Lib.Math.min.code 2 (some .int), Cond.methodLink RJ7 150 arraycopyName, Cond.native arraycopyName, Cond.static arraycopyName, Cond.initialized "java/lang/System", Cond.methodLink RX3 91 yX3_takeIntoTables, Cond.instanceMethod yX3_takeIntoTables, Cond.selects RX3 yX3_takeIntoTables yX3_takeIntoTables, Cond.code yX3_takeIntoTables cX3_takeIntoTables 4 none, Cond.methodLink RX3 168 yX0_read, Cond.instanceMethod yX0_read, Cond.selects RX0 yX0_read yX0_read, Cond.code yX0_read cX0_read 3 (some .int)]
def wsX3_add_r4 : List Cond := [Cond.methodLink RX0 23 yX0_holds, Cond.instanceMethod yX0_holds, Cond.selects RX0 yX0_holds yX0_holds, Cond.code yX0_holds cX0_holds 2 (some .boolean), Cond.methodLink RX3 65 yX2_bringIn, Cond.instanceMethod yX2_bringIn, Cond.selects RX2 yX2_bringIn yX2_bringIn, Cond.code yX2_bringIn cX2_bringIn 3 none, Cond.fieldLink RX2 23 "RestartBook$Tables" "nexts" "[I", Cond.methodLink RX2 35 yX2_isFull, Cond.instanceMethod yX2_isFull, Cond.selects RX2 yX2_isFull yX2_isFull, Cond.code yX2_isFull cX2_isFull 1 (some .boolean), Cond.methodLink RX2 39 yX2_copySlot, Cond.instanceMethod yX2_copySlot, Cond.selects RX2 yX2_copySlot yX2_copySlot, Cond.code yX2_copySlot cX2_copySlot 3 none, Cond.methodLink RX3 178 yX2_setLast, Cond.instanceMethod yX2_setLast, Cond.selects RX2 yX2_setLast yX2_setLast, Cond.code yX2_setLast cX2_setLast 4 none, Cond.methodLink RX3 182 yX2_setNext, Cond.instanceMethod yX2_setNext, Cond.selects RX2 yX2_setNext yX2_setNext]
def wsX3_add_r5 : List Cond := [Cond.code yX2_setNext cX2_setNext 4 none, Cond.methodLink RX3 185 yX2_makeDirty, Cond.instanceMethod yX2_makeDirty, Cond.selects RX2 yX2_makeDirty yX2_makeDirty, Cond.code yX2_makeDirty cX2_makeDirty 3 none, Cond.fieldLink RX2 28 "RestartBook$Tables" "bases" "[I", Cond.methodLink RX2 43 yX1_hasPage, Cond.static yX1_hasPage, Cond.code yX1_hasPage cX1_hasPage 1 (some .boolean), Cond.methodLink RX3 188 yX2_setState, Cond.instanceMethod yX2_setState, Cond.selects RX2 yX2_setState yX2_setState, Cond.code yX2_setState cX2_setState 4 none, Cond.methodLink RX3 191 yX2_takeOut, Cond.instanceMethod yX2_takeOut, Cond.selects RX2 yX2_takeOut yX2_takeOut, Cond.code yX2_takeOut cX2_takeOut 4 none, Cond.methodLink RX3 94 yX3_carryOut, Cond.instanceMethod yX3_carryOut, Cond.selects RX3 yX3_carryOut yX3_carryOut, Cond.code yX3_carryOut cX3_carryOut 2 none, Cond.fieldLink RX3 19 "RestartBook" "pages" "LRestartBook$Pages;", Cond.methodLink RX3 194 yX1_change, Cond.instanceMethod yX1_change]
def wsX3_add_r6 : List Cond := [Cond.selects RX1 yX1_change yX1_change, Cond.code yX1_change cX1_change 5 none, Cond.fieldLink RX1 9 "RestartBook$Pages" "words" "[I", Cond.fieldLink RX1 13 "RestartBook$Pages" "marks" "[I", Cond.methodLink RX1 22 yX1_hasPlace]
def wsX3_add : List Cond := .code yX3_add cX3_add 7 (some .int) :: ((wsX3_add_r1 ++ (wsX3_add_r2 ++ (wsX3_add_r3 ++ (wsX3_add_r4 ++ (wsX3_add_r5 ++ wsX3_add_r6))))) ++ wsX30 ++ wsX20 ++ wsX00 ++ wsX10)
def wsX3_undoNext_r1 : List Cond := [Cond.fieldLink RX3 26 "RestartBook" "tables" "LRestartBook$Tables;", Cond.fieldLink RX3 10 "RestartBook" "log" "LRestartBook$Log;", Cond.methodLink RX3 162 yX2_nextOf, Cond.instanceMethod yX2_nextOf, Cond.selects RX2 yX2_nextOf yX2_nextOf, Cond.initialized RX2, Cond.code yX2_nextOf cX2_nextOf 3 (some .int), Cond.fieldLink RX2 23 "RestartBook$Tables" "nexts" "[I", Cond.methodLink RX2 31 yX2_slotOf, Cond.instanceMethod yX2_slotOf, Cond.selects RX2 yX2_slotOf yX2_slotOf, Cond.code yX2_slotOf cX2_slotOf 3 (some .int), Cond.fieldLink RX2 7 "RestartBook$Tables" "size" "I", Cond.fieldLink RX2 13 "RestartBook$Tables" "works" "[I", Cond.methodLink RX3 84 yX2_lastOf, Cond.instanceMethod yX2_lastOf, Cond.selects RX2 yX2_lastOf yX2_lastOf, Cond.code yX2_lastOf cX2_lastOf 3 (some .int), Cond.fieldLink RX2 20 "RestartBook$Tables" "lasts" "[I", Cond.methodLink RX3 168 yX0_read, Cond.instanceMethod yX0_read, Cond.selects RX0 yX0_read yX0_read, Cond.initialized RX0, Cond.code yX0_read cX0_read 3 (some .int)]
def wsX3_undoNext_r2 : List Cond := [Cond.fieldLink RX0 9 "RestartBook$Log" "cells" "[I", Cond.methodLink RX0 23 yX0_holds, Cond.instanceMethod yX0_holds, Cond.selects RX0 yX0_holds yX0_holds, Cond.code yX0_holds cX0_holds 2 (some .boolean), Cond.fieldLink RX0 13 "RestartBook$Log" "records" "I", Cond.methodLink RX3 175 yX0_undoingBehind, Cond.instanceMethod yX0_undoingBehind, Cond.selects RX0 yX0_undoingBehind yX0_undoingBehind, Cond.code yX0_undoingBehind cX0_undoingBehind 3 (some .int), Cond.methodLink RX0 27 yX0_read, Cond.methodLink RX3 87 yX0_append, Cond.instanceMethod yX0_append, Cond.selects RX0 yX0_append yX0_append, Cond.code yX0_append cX0_append 9 (some .int), Cond.fieldLink RX0 20 "RestartBook$Log" "changes" "I", Cond.methodLink RX0 31 yJ7_copyOf_59c91, Cond.static yJ7_copyOf_59c91, Cond.initialized RJ7, Cond.code yJ7_copyOf_59c91 cJ7_copyOf_59c91 3 (some (.array .int)), Cond.methodLink RJ7 316 ⟨"[I", "clone", "()Ljava/lang/Object;"⟩, Cond.sameMethod "[I" "java/lang/Object" "clone" "()Ljava/lang/Object;", Cond.native ⟨"java/lang/Object", "clone", "()Ljava/lang/Object;"⟩, Cond.instanceMethod ⟨"java/lang/Object", "clone", "()Ljava/lang/Object;"⟩]
def wsX3_undoNext_r3 : List Cond := [Cond.selects "[I" ⟨"[I", "clone", "()Ljava/lang/Object;"⟩ ⟨"java/lang/Object", "clone", "()Ljava/lang/Object;"⟩, Cond.classLink RJ7 317 "[I", Cond.arrayClass .int, Cond.methodLink RJ7 304 Lib.Math.min.name, Cond.static Lib.Math.min.name, Cond.initialized "java/lang/Math", Cond.code Lib.Math.min.name Lib.Math.min.code 2 (some .int), Cond.methodLink RJ7 150 arraycopyName, Cond.native arraycopyName, Cond.static arraycopyName, Cond.initialized "java/lang/System", Cond.methodLink RX3 91 yX3_takeIntoTables, Cond.instanceMethod yX3_takeIntoTables, Cond.selects RX3 yX3_takeIntoTables yX3_takeIntoTables, Cond.initialized RX3, Cond.code yX3_takeIntoTables cX3_takeIntoTables 4 none, Cond.methodLink RX3 65 yX2_bringIn, Cond.instanceMethod yX2_bringIn, Cond.selects RX2 yX2_bringIn yX2_bringIn, Cond.code yX2_bringIn cX2_bringIn 3 none, Cond.fieldLink RX2 17 "RestartBook$Tables" "states" "[I", Cond.methodLink RX2 35 yX2_isFull, Cond.instanceMethod yX2_isFull, Cond.selects RX2 yX2_isFull yX2_isFull]
def wsX3_undoNext_r4 : List Cond := [Cond.code yX2_isFull cX2_isFull 1 (some .boolean), Cond.methodLink RX2 39 yX2_copySlot, Cond.instanceMethod yX2_copySlot, Cond.selects RX2 yX2_copySlot yX2_copySlot, Cond.code yX2_copySlot cX2_copySlot 3 none, Cond.methodLink RX3 178 yX2_setLast, Cond.instanceMethod yX2_setLast, Cond.selects RX2 yX2_setLast yX2_setLast, Cond.code yX2_setLast cX2_setLast 4 none, Cond.methodLink RX3 182 yX2_setNext, Cond.instanceMethod yX2_setNext, Cond.selects RX2 yX2_setNext yX2_setNext, Cond.code yX2_setNext cX2_setNext 4 none, Cond.methodLink RX3 185 yX2_makeDirty, Cond.instanceMethod yX2_makeDirty, Cond.selects RX2 yX2_makeDirty yX2_makeDirty, Cond.code yX2_makeDirty cX2_makeDirty 3 none, Cond.fieldLink RX2 28 "RestartBook$Tables" "bases" "[I", Cond.methodLink RX2 43 yX1_hasPage, Cond.static yX1_hasPage, Cond.initialized RX1, Cond.code yX1_hasPage cX1_hasPage 1 (some .boolean), Cond.methodLink RX3 188 yX2_setState, Cond.instanceMethod yX2_setState]
def wsX3_undoNext_r5 : List Cond := [Cond.selects RX2 yX2_setState yX2_setState, Cond.code yX2_setState cX2_setState 4 none, Cond.methodLink RX3 191 yX2_takeOut, Cond.instanceMethod yX2_takeOut, Cond.selects RX2 yX2_takeOut yX2_takeOut, Cond.code yX2_takeOut cX2_takeOut 4 none, Cond.methodLink RX3 94 yX3_carryOut, Cond.instanceMethod yX3_carryOut, Cond.selects RX3 yX3_carryOut yX3_carryOut, Cond.code yX3_carryOut cX3_carryOut 2 none, Cond.fieldLink RX3 19 "RestartBook" "pages" "LRestartBook$Pages;", Cond.methodLink RX3 194 yX1_change, Cond.instanceMethod yX1_change, Cond.selects RX1 yX1_change yX1_change, Cond.code yX1_change cX1_change 5 none, Cond.fieldLink RX1 9 "RestartBook$Pages" "words" "[I", Cond.fieldLink RX1 13 "RestartBook$Pages" "marks" "[I", Cond.methodLink RX1 22 yX1_hasPlace, Cond.static yX1_hasPlace, Cond.code yX1_hasPlace cX1_hasPlace 2 (some .boolean)]
def wsX3_undoNext : List Cond := .code yX3_undoNext cX3_undoNext 4 none :: ((wsX3_undoNext_r1 ++ (wsX3_undoNext_r2 ++ (wsX3_undoNext_r3 ++ (wsX3_undoNext_r4 ++ wsX3_undoNext_r5)))) ++ wsX30 ++ wsX20 ++ wsX00 ++ wsX10)
def wsX3_undoDownTo_r1 : List Cond := [Cond.fieldLink RX3 10 "RestartBook" "log" "LRestartBook$Log;", Cond.fieldLink RX3 26 "RestartBook" "tables" "LRestartBook$Tables;", Cond.methodLink RX3 147 yX0_recordsHeld, Cond.instanceMethod yX0_recordsHeld, Cond.selects RX0 yX0_recordsHeld yX0_recordsHeld, Cond.initialized RX0, Cond.code yX0_recordsHeld cX0_recordsHeld 1 (some .int), Cond.fieldLink RX0 13 "RestartBook$Log" "records" "I", Cond.methodLink RX3 162 yX2_nextOf, Cond.instanceMethod yX2_nextOf, Cond.selects RX2 yX2_nextOf yX2_nextOf, Cond.initialized RX2, Cond.code yX2_nextOf cX2_nextOf 3 (some .int), Cond.fieldLink RX2 23 "RestartBook$Tables" "nexts" "[I", Cond.methodLink RX2 31 yX2_slotOf, Cond.instanceMethod yX2_slotOf, Cond.selects RX2 yX2_slotOf yX2_slotOf, Cond.code yX2_slotOf cX2_slotOf 3 (some .int), Cond.fieldLink RX2 7 "RestartBook$Tables" "size" "I", Cond.fieldLink RX2 13 "RestartBook$Tables" "works" "[I", Cond.methodLink RX3 172 yX3_undoNext, Cond.instanceMethod yX3_undoNext, Cond.selects RX3 yX3_undoNext yX3_undoNext, Cond.initialized RX3]
def wsX3_undoDownTo_r2 : List Cond := [Cond.code yX3_undoNext cX3_undoNext 4 none, Cond.methodLink RX3 84 yX2_lastOf, Cond.instanceMethod yX2_lastOf, Cond.selects RX2 yX2_lastOf yX2_lastOf, Cond.code yX2_lastOf cX2_lastOf 3 (some .int), Cond.fieldLink RX2 20 "RestartBook$Tables" "lasts" "[I", Cond.methodLink RX3 168 yX0_read, Cond.instanceMethod yX0_read, Cond.selects RX0 yX0_read yX0_read, Cond.code yX0_read cX0_read 3 (some .int), Cond.fieldLink RX0 9 "RestartBook$Log" "cells" "[I", Cond.methodLink RX0 23 yX0_holds, Cond.instanceMethod yX0_holds, Cond.selects RX0 yX0_holds yX0_holds, Cond.code yX0_holds cX0_holds 2 (some .boolean), Cond.methodLink RX3 175 yX0_undoingBehind, Cond.instanceMethod yX0_undoingBehind, Cond.selects RX0 yX0_undoingBehind yX0_undoingBehind, Cond.code yX0_undoingBehind cX0_undoingBehind 3 (some .int), Cond.methodLink RX0 27 yX0_read, Cond.methodLink RX3 87 yX0_append, Cond.instanceMethod yX0_append, Cond.selects RX0 yX0_append yX0_append, Cond.code yX0_append cX0_append 9 (some .int)]
def wsX3_undoDownTo_r3 : List Cond := [Cond.fieldLink RX0 20 "RestartBook$Log" "changes" "I", Cond.methodLink RX0 31 yJ7_copyOf_59c91, Cond.static yJ7_copyOf_59c91, Cond.initialized RJ7, Cond.code yJ7_copyOf_59c91 cJ7_copyOf_59c91 3 (some (.array .int)), Cond.methodLink RJ7 316 ⟨"[I", "clone", "()Ljava/lang/Object;"⟩, Cond.sameMethod "[I" "java/lang/Object" "clone" "()Ljava/lang/Object;", Cond.native ⟨"java/lang/Object", "clone", "()Ljava/lang/Object;"⟩, Cond.instanceMethod ⟨"java/lang/Object", "clone", "()Ljava/lang/Object;"⟩, Cond.selects "[I" ⟨"[I", "clone", "()Ljava/lang/Object;"⟩ ⟨"java/lang/Object", "clone", "()Ljava/lang/Object;"⟩, Cond.classLink RJ7 317 "[I", Cond.arrayClass .int, Cond.methodLink RJ7 304 Lib.Math.min.name, Cond.static Lib.Math.min.name, Cond.initialized "java/lang/Math", Cond.code Lib.Math.min.name Lib.Math.min.code 2 (some .int), Cond.methodLink RJ7 150 arraycopyName, Cond.native arraycopyName, Cond.static arraycopyName, Cond.initialized "java/lang/System", Cond.methodLink RX3 91 yX3_takeIntoTables, Cond.instanceMethod yX3_takeIntoTables, Cond.selects RX3 yX3_takeIntoTables yX3_takeIntoTables, Cond.code yX3_takeIntoTables cX3_takeIntoTables 4 none]
def wsX3_undoDownTo_r4 : List Cond := [Cond.methodLink RX3 65 yX2_bringIn, Cond.instanceMethod yX2_bringIn, Cond.selects RX2 yX2_bringIn yX2_bringIn, Cond.code yX2_bringIn cX2_bringIn 3 none, Cond.fieldLink RX2 17 "RestartBook$Tables" "states" "[I", Cond.methodLink RX2 35 yX2_isFull, Cond.instanceMethod yX2_isFull, Cond.selects RX2 yX2_isFull yX2_isFull, Cond.code yX2_isFull cX2_isFull 1 (some .boolean), Cond.methodLink RX2 39 yX2_copySlot, Cond.instanceMethod yX2_copySlot, Cond.selects RX2 yX2_copySlot yX2_copySlot, Cond.code yX2_copySlot cX2_copySlot 3 none, Cond.methodLink RX3 178 yX2_setLast, Cond.instanceMethod yX2_setLast, Cond.selects RX2 yX2_setLast yX2_setLast, Cond.code yX2_setLast cX2_setLast 4 none, Cond.methodLink RX3 182 yX2_setNext, Cond.instanceMethod yX2_setNext, Cond.selects RX2 yX2_setNext yX2_setNext, Cond.code yX2_setNext cX2_setNext 4 none, Cond.methodLink RX3 185 yX2_makeDirty, Cond.instanceMethod yX2_makeDirty, Cond.selects RX2 yX2_makeDirty yX2_makeDirty]
def wsX3_undoDownTo_r5 : List Cond := [Cond.code yX2_makeDirty cX2_makeDirty 3 none, Cond.fieldLink RX2 28 "RestartBook$Tables" "bases" "[I", Cond.methodLink RX2 43 yX1_hasPage, Cond.static yX1_hasPage, Cond.initialized RX1, Cond.code yX1_hasPage cX1_hasPage 1 (some .boolean), Cond.methodLink RX3 188 yX2_setState, Cond.instanceMethod yX2_setState, Cond.selects RX2 yX2_setState yX2_setState, Cond.code yX2_setState cX2_setState 4 none, Cond.methodLink RX3 191 yX2_takeOut, Cond.instanceMethod yX2_takeOut, Cond.selects RX2 yX2_takeOut yX2_takeOut, Cond.code yX2_takeOut cX2_takeOut 4 none, Cond.methodLink RX3 94 yX3_carryOut, Cond.instanceMethod yX3_carryOut, Cond.selects RX3 yX3_carryOut yX3_carryOut, Cond.code yX3_carryOut cX3_carryOut 2 none, Cond.fieldLink RX3 19 "RestartBook" "pages" "LRestartBook$Pages;", Cond.methodLink RX3 194 yX1_change, Cond.instanceMethod yX1_change, Cond.selects RX1 yX1_change yX1_change, Cond.code yX1_change cX1_change 5 none, Cond.fieldLink RX1 9 "RestartBook$Pages" "words" "[I"]
def wsX3_undoDownTo_r6 : List Cond := [Cond.fieldLink RX1 13 "RestartBook$Pages" "marks" "[I", Cond.methodLink RX1 22 yX1_hasPlace, Cond.static yX1_hasPlace, Cond.code yX1_hasPlace cX1_hasPlace 2 (some .boolean)]
def wsX3_undoDownTo : List Cond := .code yX3_undoDownTo cX3_undoDownTo 5 (some .int) :: ((wsX3_undoDownTo_r1 ++ (wsX3_undoDownTo_r2 ++ (wsX3_undoDownTo_r3 ++ (wsX3_undoDownTo_r4 ++ (wsX3_undoDownTo_r5 ++ wsX3_undoDownTo_r6))))) ++ wsX30 ++ wsX00 ++ wsX20 ++ wsX10)
def wsX3_back_r1 : List Cond := [Cond.fieldLink RX3 26 "RestartBook" "tables" "LRestartBook$Tables;", Cond.methodLink RX3 69 yX3_refusalFor, Cond.instanceMethod yX3_refusalFor, Cond.selects RX3 yX3_refusalFor yX3_refusalFor, Cond.initialized RX3, Cond.code yX3_refusalFor cX3_refusalFor 2 (some .int), Cond.fieldLink RX3 43 "RestartBook" "doing" "I", Cond.methodLink RX3 171 yX2_holds, Cond.instanceMethod yX2_holds, Cond.selects RX2 yX2_holds yX2_holds, Cond.initialized RX2, Cond.code yX2_holds cX2_holds 2 (some .boolean), Cond.methodLink RX2 31 yX2_slotOf, Cond.instanceMethod yX2_slotOf, Cond.selects RX2 yX2_slotOf yX2_slotOf, Cond.code yX2_slotOf cX2_slotOf 3 (some .int), Cond.fieldLink RX2 7 "RestartBook$Tables" "size" "I", Cond.fieldLink RX2 13 "RestartBook$Tables" "works" "[I", Cond.methodLink RX3 84 yX2_lastOf, Cond.instanceMethod yX2_lastOf, Cond.selects RX2 yX2_lastOf yX2_lastOf, Cond.code yX2_lastOf cX2_lastOf 3 (some .int), Cond.fieldLink RX2 20 "RestartBook$Tables" "lasts" "[I", Cond.methodLink RX3 77 yX2_stateOf]
def wsX3_back_r2 : List Cond := [Cond.instanceMethod yX2_stateOf, Cond.selects RX2 yX2_stateOf yX2_stateOf, Cond.code yX2_stateOf cX2_stateOf 3 (some .int), Cond.fieldLink RX2 17 "RestartBook$Tables" "states" "[I", Cond.methodLink RX3 97 yX3_undoDownTo, Cond.instanceMethod yX3_undoDownTo, Cond.selects RX3 yX3_undoDownTo yX3_undoDownTo, Cond.code yX3_undoDownTo cX3_undoDownTo 5 (some .int), Cond.fieldLink RX3 10 "RestartBook" "log" "LRestartBook$Log;", Cond.methodLink RX3 147 yX0_recordsHeld, Cond.instanceMethod yX0_recordsHeld, Cond.selects RX0 yX0_recordsHeld yX0_recordsHeld, Cond.initialized RX0, Cond.code yX0_recordsHeld cX0_recordsHeld 1 (some .int), Cond.fieldLink RX0 13 "RestartBook$Log" "records" "I", Cond.methodLink RX3 162 yX2_nextOf, Cond.instanceMethod yX2_nextOf, Cond.selects RX2 yX2_nextOf yX2_nextOf, Cond.code yX2_nextOf cX2_nextOf 3 (some .int), Cond.fieldLink RX2 23 "RestartBook$Tables" "nexts" "[I", Cond.methodLink RX3 172 yX3_undoNext, Cond.instanceMethod yX3_undoNext, Cond.selects RX3 yX3_undoNext yX3_undoNext, Cond.code yX3_undoNext cX3_undoNext 4 none]
def wsX3_back_r3 : List Cond := [Cond.methodLink RX3 168 yX0_read, Cond.instanceMethod yX0_read, Cond.selects RX0 yX0_read yX0_read, Cond.code yX0_read cX0_read 3 (some .int), Cond.fieldLink RX0 9 "RestartBook$Log" "cells" "[I", Cond.methodLink RX0 23 yX0_holds, Cond.instanceMethod yX0_holds, Cond.selects RX0 yX0_holds yX0_holds, Cond.code yX0_holds cX0_holds 2 (some .boolean), Cond.methodLink RX3 175 yX0_undoingBehind, Cond.instanceMethod yX0_undoingBehind, Cond.selects RX0 yX0_undoingBehind yX0_undoingBehind, Cond.code yX0_undoingBehind cX0_undoingBehind 3 (some .int), Cond.methodLink RX0 27 yX0_read, Cond.methodLink RX3 87 yX0_append, Cond.instanceMethod yX0_append, Cond.selects RX0 yX0_append yX0_append, Cond.code yX0_append cX0_append 9 (some .int), Cond.fieldLink RX0 20 "RestartBook$Log" "changes" "I", Cond.methodLink RX0 31 yJ7_copyOf_59c91, Cond.static yJ7_copyOf_59c91, Cond.initialized RJ7, Cond.code yJ7_copyOf_59c91 cJ7_copyOf_59c91 3 (some (.array .int)), Cond.methodLink RJ7 316 ⟨"[I", "clone", "()Ljava/lang/Object;"⟩]
def wsX3_back_r4 : List Cond := [Cond.sameMethod "[I" "java/lang/Object" "clone" "()Ljava/lang/Object;", Cond.native ⟨"java/lang/Object", "clone", "()Ljava/lang/Object;"⟩, Cond.instanceMethod ⟨"java/lang/Object", "clone", "()Ljava/lang/Object;"⟩, Cond.selects "[I" ⟨"[I", "clone", "()Ljava/lang/Object;"⟩ ⟨"java/lang/Object", "clone", "()Ljava/lang/Object;"⟩, Cond.classLink RJ7 317 "[I", Cond.arrayClass .int, Cond.methodLink RJ7 304 Lib.Math.min.name, Cond.static Lib.Math.min.name, Cond.initialized "java/lang/Math", Cond.code Lib.Math.min.name Lib.Math.min.code 2 (some .int), Cond.methodLink RJ7 150 arraycopyName, Cond.native arraycopyName, Cond.static arraycopyName, Cond.initialized "java/lang/System", Cond.methodLink RX3 91 yX3_takeIntoTables, Cond.instanceMethod yX3_takeIntoTables, Cond.selects RX3 yX3_takeIntoTables yX3_takeIntoTables, Cond.code yX3_takeIntoTables cX3_takeIntoTables 4 none, Cond.methodLink RX3 65 yX2_bringIn, Cond.instanceMethod yX2_bringIn, Cond.selects RX2 yX2_bringIn yX2_bringIn, Cond.code yX2_bringIn cX2_bringIn 3 none, Cond.methodLink RX2 35 yX2_isFull, Cond.instanceMethod yX2_isFull]
def wsX3_back_r5 : List Cond := [Cond.selects RX2 yX2_isFull yX2_isFull, Cond.code yX2_isFull cX2_isFull 1 (some .boolean), Cond.methodLink RX2 39 yX2_copySlot, Cond.instanceMethod yX2_copySlot, Cond.selects RX2 yX2_copySlot yX2_copySlot, Cond.code yX2_copySlot cX2_copySlot 3 none, Cond.methodLink RX3 178 yX2_setLast, Cond.instanceMethod yX2_setLast, Cond.selects RX2 yX2_setLast yX2_setLast, Cond.code yX2_setLast cX2_setLast 4 none, Cond.methodLink RX3 182 yX2_setNext, Cond.instanceMethod yX2_setNext, Cond.selects RX2 yX2_setNext yX2_setNext, Cond.code yX2_setNext cX2_setNext 4 none, Cond.methodLink RX3 185 yX2_makeDirty, Cond.instanceMethod yX2_makeDirty, Cond.selects RX2 yX2_makeDirty yX2_makeDirty, Cond.code yX2_makeDirty cX2_makeDirty 3 none, Cond.fieldLink RX2 28 "RestartBook$Tables" "bases" "[I", Cond.methodLink RX2 43 yX1_hasPage, Cond.static yX1_hasPage, Cond.initialized RX1, Cond.code yX1_hasPage cX1_hasPage 1 (some .boolean), Cond.methodLink RX3 188 yX2_setState]
def wsX3_back_r6 : List Cond := [Cond.instanceMethod yX2_setState, Cond.selects RX2 yX2_setState yX2_setState, Cond.code yX2_setState cX2_setState 4 none, Cond.methodLink RX3 191 yX2_takeOut, Cond.instanceMethod yX2_takeOut, Cond.selects RX2 yX2_takeOut yX2_takeOut, Cond.code yX2_takeOut cX2_takeOut 4 none, Cond.methodLink RX3 94 yX3_carryOut, Cond.instanceMethod yX3_carryOut, Cond.selects RX3 yX3_carryOut yX3_carryOut, Cond.code yX3_carryOut cX3_carryOut 2 none, Cond.fieldLink RX3 19 "RestartBook" "pages" "LRestartBook$Pages;", Cond.methodLink RX3 194 yX1_change, Cond.instanceMethod yX1_change, Cond.selects RX1 yX1_change yX1_change, Cond.code yX1_change cX1_change 5 none, Cond.fieldLink RX1 9 "RestartBook$Pages" "words" "[I", Cond.fieldLink RX1 13 "RestartBook$Pages" "marks" "[I", Cond.methodLink RX1 22 yX1_hasPlace, Cond.static yX1_hasPlace, Cond.code yX1_hasPlace cX1_hasPlace 2 (some .boolean)]
def wsX3_back : List Cond := .code yX3_back cX3_back 4 (some .int) :: ((wsX3_back_r1 ++ (wsX3_back_r2 ++ (wsX3_back_r3 ++ (wsX3_back_r4 ++ (wsX3_back_r5 ++ wsX3_back_r6))))) ++ wsX30 ++ wsX20 ++ wsX00 ++ wsX10)
def wsX3_appendOfWork_r1 : List Cond := [Cond.fieldLink RX3 10 "RestartBook" "log" "LRestartBook$Log;", Cond.fieldLink RX3 26 "RestartBook" "tables" "LRestartBook$Tables;", Cond.methodLink RX3 84 yX2_lastOf, Cond.instanceMethod yX2_lastOf, Cond.selects RX2 yX2_lastOf yX2_lastOf, Cond.initialized RX2, Cond.code yX2_lastOf cX2_lastOf 3 (some .int), Cond.fieldLink RX2 20 "RestartBook$Tables" "lasts" "[I", Cond.methodLink RX2 31 yX2_slotOf, Cond.instanceMethod yX2_slotOf, Cond.selects RX2 yX2_slotOf yX2_slotOf, Cond.code yX2_slotOf cX2_slotOf 3 (some .int), Cond.fieldLink RX2 7 "RestartBook$Tables" "size" "I", Cond.fieldLink RX2 13 "RestartBook$Tables" "works" "[I", Cond.methodLink RX3 87 yX0_append, Cond.instanceMethod yX0_append, Cond.selects RX0 yX0_append yX0_append, Cond.initialized RX0, Cond.code yX0_append cX0_append 9 (some .int), Cond.fieldLink RX0 13 "RestartBook$Log" "records" "I", Cond.fieldLink RX0 9 "RestartBook$Log" "cells" "[I", Cond.fieldLink RX0 20 "RestartBook$Log" "changes" "I", Cond.methodLink RX0 31 yJ7_copyOf_59c91, Cond.static yJ7_copyOf_59c91]
def wsX3_appendOfWork_r2 : List Cond := [Cond.initialized RJ7, Cond.code yJ7_copyOf_59c91 cJ7_copyOf_59c91 3 (some (.array .int)), Cond.methodLink RJ7 316 ⟨"[I", "clone", "()Ljava/lang/Object;"⟩, Cond.sameMethod "[I" "java/lang/Object" "clone" "()Ljava/lang/Object;", Cond.native ⟨"java/lang/Object", "clone", "()Ljava/lang/Object;"⟩, Cond.instanceMethod ⟨"java/lang/Object", "clone", "()Ljava/lang/Object;"⟩, Cond.selects "[I" ⟨"[I", "clone", "()Ljava/lang/Object;"⟩ ⟨"java/lang/Object", "clone", "()Ljava/lang/Object;"⟩, Cond.classLink RJ7 317 "[I", Cond.arrayClass .int, Cond.methodLink RJ7 304 Lib.Math.min.name, Cond.static Lib.Math.min.name, Cond.initialized "java/lang/Math", Cond.code Lib.Math.min.name Lib.Math.min.code 2 (some .int), Cond.methodLink RJ7 150 arraycopyName, Cond.native arraycopyName, Cond.static arraycopyName, Cond.initialized "java/lang/System", Cond.methodLink RX3 91 yX3_takeIntoTables, Cond.instanceMethod yX3_takeIntoTables, Cond.selects RX3 yX3_takeIntoTables yX3_takeIntoTables, Cond.initialized RX3, Cond.code yX3_takeIntoTables cX3_takeIntoTables 4 none, Cond.methodLink RX3 168 yX0_read, Cond.instanceMethod yX0_read]
def wsX3_appendOfWork_r3 : List Cond := [Cond.selects RX0 yX0_read yX0_read, Cond.code yX0_read cX0_read 3 (some .int), Cond.methodLink RX0 23 yX0_holds, Cond.instanceMethod yX0_holds, Cond.selects RX0 yX0_holds yX0_holds, Cond.code yX0_holds cX0_holds 2 (some .boolean), Cond.methodLink RX3 65 yX2_bringIn, Cond.instanceMethod yX2_bringIn, Cond.selects RX2 yX2_bringIn yX2_bringIn, Cond.code yX2_bringIn cX2_bringIn 3 none, Cond.fieldLink RX2 17 "RestartBook$Tables" "states" "[I", Cond.fieldLink RX2 23 "RestartBook$Tables" "nexts" "[I", Cond.methodLink RX2 35 yX2_isFull, Cond.instanceMethod yX2_isFull, Cond.selects RX2 yX2_isFull yX2_isFull, Cond.code yX2_isFull cX2_isFull 1 (some .boolean), Cond.methodLink RX2 39 yX2_copySlot, Cond.instanceMethod yX2_copySlot, Cond.selects RX2 yX2_copySlot yX2_copySlot, Cond.code yX2_copySlot cX2_copySlot 3 none, Cond.methodLink RX3 178 yX2_setLast, Cond.instanceMethod yX2_setLast, Cond.selects RX2 yX2_setLast yX2_setLast, Cond.code yX2_setLast cX2_setLast 4 none]
def wsX3_appendOfWork_r4 : List Cond := [Cond.methodLink RX3 182 yX2_setNext, Cond.instanceMethod yX2_setNext, Cond.selects RX2 yX2_setNext yX2_setNext, Cond.code yX2_setNext cX2_setNext 4 none, Cond.methodLink RX3 185 yX2_makeDirty, Cond.instanceMethod yX2_makeDirty, Cond.selects RX2 yX2_makeDirty yX2_makeDirty, Cond.code yX2_makeDirty cX2_makeDirty 3 none, Cond.fieldLink RX2 28 "RestartBook$Tables" "bases" "[I", Cond.methodLink RX2 43 yX1_hasPage, Cond.static yX1_hasPage, Cond.initialized RX1, Cond.code yX1_hasPage cX1_hasPage 1 (some .boolean), Cond.methodLink RX3 188 yX2_setState, Cond.instanceMethod yX2_setState, Cond.selects RX2 yX2_setState yX2_setState, Cond.code yX2_setState cX2_setState 4 none, Cond.methodLink RX3 191 yX2_takeOut, Cond.instanceMethod yX2_takeOut, Cond.selects RX2 yX2_takeOut yX2_takeOut, Cond.code yX2_takeOut cX2_takeOut 4 none]
def wsX3_appendOfWork : List Cond := .code yX3_appendOfWork cX3_appendOfWork 4 (some .int) :: ((wsX3_appendOfWork_r1 ++ (wsX3_appendOfWork_r2 ++ (wsX3_appendOfWork_r3 ++ wsX3_appendOfWork_r4))) ++ wsX30 ++ wsX20 ++ wsX00)
def wsX3_prepare_r1 : List Cond := [Cond.fieldLink RX3 26 "RestartBook" "tables" "LRestartBook$Tables;", Cond.fieldLink RX3 10 "RestartBook" "log" "LRestartBook$Log;", Cond.methodLink RX3 69 yX3_refusalFor, Cond.instanceMethod yX3_refusalFor, Cond.selects RX3 yX3_refusalFor yX3_refusalFor, Cond.initialized RX3, Cond.code yX3_refusalFor cX3_refusalFor 2 (some .int), Cond.fieldLink RX3 43 "RestartBook" "doing" "I", Cond.methodLink RX3 171 yX2_holds, Cond.instanceMethod yX2_holds, Cond.selects RX2 yX2_holds yX2_holds, Cond.initialized RX2, Cond.code yX2_holds cX2_holds 2 (some .boolean), Cond.methodLink RX2 31 yX2_slotOf, Cond.instanceMethod yX2_slotOf, Cond.selects RX2 yX2_slotOf yX2_slotOf, Cond.code yX2_slotOf cX2_slotOf 3 (some .int), Cond.fieldLink RX2 7 "RestartBook$Tables" "size" "I", Cond.fieldLink RX2 13 "RestartBook$Tables" "works" "[I", Cond.methodLink RX3 77 yX2_stateOf, Cond.instanceMethod yX2_stateOf, Cond.selects RX2 yX2_stateOf yX2_stateOf, Cond.code yX2_stateOf cX2_stateOf 3 (some .int), Cond.fieldLink RX2 17 "RestartBook$Tables" "states" "[I"]
def wsX3_prepare_r2 : List Cond := [Cond.methodLink RX3 101 yX3_appendOfWork, Cond.instanceMethod yX3_appendOfWork, Cond.selects RX3 yX3_appendOfWork yX3_appendOfWork, Cond.code yX3_appendOfWork cX3_appendOfWork 4 (some .int), Cond.methodLink RX3 84 yX2_lastOf, Cond.instanceMethod yX2_lastOf, Cond.selects RX2 yX2_lastOf yX2_lastOf, Cond.code yX2_lastOf cX2_lastOf 3 (some .int), Cond.fieldLink RX2 20 "RestartBook$Tables" "lasts" "[I", Cond.methodLink RX3 87 yX0_append, Cond.instanceMethod yX0_append, Cond.selects RX0 yX0_append yX0_append, Cond.initialized RX0, Cond.code yX0_append cX0_append 9 (some .int), Cond.fieldLink RX0 13 "RestartBook$Log" "records" "I", Cond.fieldLink RX0 9 "RestartBook$Log" "cells" "[I", Cond.fieldLink RX0 20 "RestartBook$Log" "changes" "I", Cond.methodLink RX0 31 yJ7_copyOf_59c91, Cond.static yJ7_copyOf_59c91, Cond.initialized RJ7, Cond.code yJ7_copyOf_59c91 cJ7_copyOf_59c91 3 (some (.array .int)), Cond.methodLink RJ7 316 ⟨"[I", "clone", "()Ljava/lang/Object;"⟩, Cond.sameMethod "[I" "java/lang/Object" "clone" "()Ljava/lang/Object;", Cond.native ⟨"java/lang/Object", "clone", "()Ljava/lang/Object;"⟩]
def wsX3_prepare_r3 : List Cond := [Cond.instanceMethod ⟨"java/lang/Object", "clone", "()Ljava/lang/Object;"⟩, Cond.selects "[I" ⟨"[I", "clone", "()Ljava/lang/Object;"⟩ ⟨"java/lang/Object", "clone", "()Ljava/lang/Object;"⟩, Cond.classLink RJ7 317 "[I", Cond.arrayClass .int, Cond.methodLink RJ7 304 Lib.Math.min.name, Cond.static Lib.Math.min.name, Cond.initialized "java/lang/Math", Cond.code Lib.Math.min.name Lib.Math.min.code 2 (some .int), Cond.methodLink RJ7 150 arraycopyName, Cond.native arraycopyName, Cond.static arraycopyName, Cond.initialized "java/lang/System", Cond.methodLink RX3 91 yX3_takeIntoTables, Cond.instanceMethod yX3_takeIntoTables, Cond.selects RX3 yX3_takeIntoTables yX3_takeIntoTables, Cond.code yX3_takeIntoTables cX3_takeIntoTables 4 none, Cond.methodLink RX3 168 yX0_read, Cond.instanceMethod yX0_read, Cond.selects RX0 yX0_read yX0_read, Cond.code yX0_read cX0_read 3 (some .int), Cond.methodLink RX0 23 yX0_holds, Cond.instanceMethod yX0_holds, Cond.selects RX0 yX0_holds yX0_holds, Cond.code yX0_holds cX0_holds 2 (some .boolean)]
def wsX3_prepare_r4 : List Cond := [Cond.methodLink RX3 65 yX2_bringIn, Cond.instanceMethod yX2_bringIn, Cond.selects RX2 yX2_bringIn yX2_bringIn, Cond.code yX2_bringIn cX2_bringIn 3 none, Cond.fieldLink RX2 23 "RestartBook$Tables" "nexts" "[I", Cond.methodLink RX2 35 yX2_isFull, Cond.instanceMethod yX2_isFull, Cond.selects RX2 yX2_isFull yX2_isFull, Cond.code yX2_isFull cX2_isFull 1 (some .boolean), Cond.methodLink RX2 39 yX2_copySlot, Cond.instanceMethod yX2_copySlot, Cond.selects RX2 yX2_copySlot yX2_copySlot, Cond.code yX2_copySlot cX2_copySlot 3 none, Cond.methodLink RX3 178 yX2_setLast, Cond.instanceMethod yX2_setLast, Cond.selects RX2 yX2_setLast yX2_setLast, Cond.code yX2_setLast cX2_setLast 4 none, Cond.methodLink RX3 182 yX2_setNext, Cond.instanceMethod yX2_setNext, Cond.selects RX2 yX2_setNext yX2_setNext, Cond.code yX2_setNext cX2_setNext 4 none, Cond.methodLink RX3 185 yX2_makeDirty, Cond.instanceMethod yX2_makeDirty, Cond.selects RX2 yX2_makeDirty yX2_makeDirty]
def wsX3_prepare_r5 : List Cond := [Cond.code yX2_makeDirty cX2_makeDirty 3 none, Cond.fieldLink RX2 28 "RestartBook$Tables" "bases" "[I", Cond.methodLink RX2 43 yX1_hasPage, Cond.static yX1_hasPage, Cond.initialized RX1, Cond.code yX1_hasPage cX1_hasPage 1 (some .boolean), Cond.methodLink RX3 188 yX2_setState, Cond.instanceMethod yX2_setState, Cond.selects RX2 yX2_setState yX2_setState, Cond.code yX2_setState cX2_setState 4 none, Cond.methodLink RX3 191 yX2_takeOut, Cond.instanceMethod yX2_takeOut, Cond.selects RX2 yX2_takeOut yX2_takeOut, Cond.code yX2_takeOut cX2_takeOut 4 none, Cond.methodLink RX3 104 yX0_forceUpTo, Cond.instanceMethod yX0_forceUpTo, Cond.selects RX0 yX0_forceUpTo yX0_forceUpTo, Cond.code yX0_forceUpTo cX0_forceUpTo 2 none, Cond.fieldLink RX0 17 "RestartBook$Log" "forced" "I", Cond.methodLink RX0 37 Lib.Math.min.name, Cond.methodLink RX0 42 Lib.Math.max.name, Cond.static Lib.Math.max.name, Cond.code Lib.Math.max.name Lib.Math.max.code 2 (some .int)]
def wsX3_prepare : List Cond := .code yX3_prepare cX3_prepare 4 (some .int) :: ((wsX3_prepare_r1 ++ (wsX3_prepare_r2 ++ (wsX3_prepare_r3 ++ (wsX3_prepare_r4 ++ wsX3_prepare_r5)))) ++ wsX30 ++ wsX20 ++ wsX00)
def wsX3_commit_r1 : List Cond := [Cond.fieldLink RX3 10 "RestartBook" "log" "LRestartBook$Log;", Cond.methodLink RX3 69 yX3_refusalFor, Cond.instanceMethod yX3_refusalFor, Cond.selects RX3 yX3_refusalFor yX3_refusalFor, Cond.initialized RX3, Cond.code yX3_refusalFor cX3_refusalFor 2 (some .int), Cond.fieldLink RX3 43 "RestartBook" "doing" "I", Cond.fieldLink RX3 26 "RestartBook" "tables" "LRestartBook$Tables;", Cond.methodLink RX3 171 yX2_holds, Cond.instanceMethod yX2_holds, Cond.selects RX2 yX2_holds yX2_holds, Cond.initialized RX2, Cond.code yX2_holds cX2_holds 2 (some .boolean), Cond.methodLink RX2 31 yX2_slotOf, Cond.instanceMethod yX2_slotOf, Cond.selects RX2 yX2_slotOf yX2_slotOf, Cond.code yX2_slotOf cX2_slotOf 3 (some .int), Cond.fieldLink RX2 7 "RestartBook$Tables" "size" "I", Cond.fieldLink RX2 13 "RestartBook$Tables" "works" "[I", Cond.methodLink RX3 101 yX3_appendOfWork, Cond.instanceMethod yX3_appendOfWork, Cond.selects RX3 yX3_appendOfWork yX3_appendOfWork, Cond.code yX3_appendOfWork cX3_appendOfWork 4 (some .int), Cond.methodLink RX3 84 yX2_lastOf]
def wsX3_commit_r2 : List Cond := [Cond.instanceMethod yX2_lastOf, Cond.selects RX2 yX2_lastOf yX2_lastOf, Cond.code yX2_lastOf cX2_lastOf 3 (some .int), Cond.fieldLink RX2 20 "RestartBook$Tables" "lasts" "[I", Cond.methodLink RX3 87 yX0_append, Cond.instanceMethod yX0_append, Cond.selects RX0 yX0_append yX0_append, Cond.initialized RX0, Cond.code yX0_append cX0_append 9 (some .int), Cond.fieldLink RX0 13 "RestartBook$Log" "records" "I", Cond.fieldLink RX0 9 "RestartBook$Log" "cells" "[I", Cond.fieldLink RX0 20 "RestartBook$Log" "changes" "I", Cond.methodLink RX0 31 yJ7_copyOf_59c91, Cond.static yJ7_copyOf_59c91, Cond.initialized RJ7, Cond.code yJ7_copyOf_59c91 cJ7_copyOf_59c91 3 (some (.array .int)), Cond.methodLink RJ7 316 ⟨"[I", "clone", "()Ljava/lang/Object;"⟩, Cond.sameMethod "[I" "java/lang/Object" "clone" "()Ljava/lang/Object;", Cond.native ⟨"java/lang/Object", "clone", "()Ljava/lang/Object;"⟩, Cond.instanceMethod ⟨"java/lang/Object", "clone", "()Ljava/lang/Object;"⟩, Cond.selects "[I" ⟨"[I", "clone", "()Ljava/lang/Object;"⟩ ⟨"java/lang/Object", "clone", "()Ljava/lang/Object;"⟩, Cond.classLink RJ7 317 "[I", Cond.arrayClass .int, Cond.methodLink RJ7 304 Lib.Math.min.name]
def wsX3_commit_r3 : List Cond := [Cond.static Lib.Math.min.name, Cond.initialized "java/lang/Math", Cond.code Lib.Math.min.name Lib.Math.min.code 2 (some .int), Cond.methodLink RJ7 150 arraycopyName, Cond.native arraycopyName, Cond.static arraycopyName, Cond.initialized "java/lang/System", Cond.methodLink RX3 91 yX3_takeIntoTables, Cond.instanceMethod yX3_takeIntoTables, Cond.selects RX3 yX3_takeIntoTables yX3_takeIntoTables, Cond.code yX3_takeIntoTables cX3_takeIntoTables 4 none, Cond.methodLink RX3 168 yX0_read, Cond.instanceMethod yX0_read, Cond.selects RX0 yX0_read yX0_read, Cond.code yX0_read cX0_read 3 (some .int), Cond.methodLink RX0 23 yX0_holds, Cond.instanceMethod yX0_holds, Cond.selects RX0 yX0_holds yX0_holds, Cond.code yX0_holds cX0_holds 2 (some .boolean), Cond.methodLink RX3 65 yX2_bringIn, Cond.instanceMethod yX2_bringIn, Cond.selects RX2 yX2_bringIn yX2_bringIn, Cond.code yX2_bringIn cX2_bringIn 3 none, Cond.fieldLink RX2 17 "RestartBook$Tables" "states" "[I"]
def wsX3_commit_r4 : List Cond := [Cond.fieldLink RX2 23 "RestartBook$Tables" "nexts" "[I", Cond.methodLink RX2 35 yX2_isFull, Cond.instanceMethod yX2_isFull, Cond.selects RX2 yX2_isFull yX2_isFull, Cond.code yX2_isFull cX2_isFull 1 (some .boolean), Cond.methodLink RX2 39 yX2_copySlot, Cond.instanceMethod yX2_copySlot, Cond.selects RX2 yX2_copySlot yX2_copySlot, Cond.code yX2_copySlot cX2_copySlot 3 none, Cond.methodLink RX3 178 yX2_setLast, Cond.instanceMethod yX2_setLast, Cond.selects RX2 yX2_setLast yX2_setLast, Cond.code yX2_setLast cX2_setLast 4 none, Cond.methodLink RX3 182 yX2_setNext, Cond.instanceMethod yX2_setNext, Cond.selects RX2 yX2_setNext yX2_setNext, Cond.code yX2_setNext cX2_setNext 4 none, Cond.methodLink RX3 185 yX2_makeDirty, Cond.instanceMethod yX2_makeDirty, Cond.selects RX2 yX2_makeDirty yX2_makeDirty, Cond.code yX2_makeDirty cX2_makeDirty 3 none, Cond.fieldLink RX2 28 "RestartBook$Tables" "bases" "[I", Cond.methodLink RX2 43 yX1_hasPage, Cond.static yX1_hasPage]
def wsX3_commit_r5 : List Cond := [Cond.initialized RX1, Cond.code yX1_hasPage cX1_hasPage 1 (some .boolean), Cond.methodLink RX3 188 yX2_setState, Cond.instanceMethod yX2_setState, Cond.selects RX2 yX2_setState yX2_setState, Cond.code yX2_setState cX2_setState 4 none, Cond.methodLink RX3 191 yX2_takeOut, Cond.instanceMethod yX2_takeOut, Cond.selects RX2 yX2_takeOut yX2_takeOut, Cond.code yX2_takeOut cX2_takeOut 4 none, Cond.methodLink RX3 104 yX0_forceUpTo, Cond.instanceMethod yX0_forceUpTo, Cond.selects RX0 yX0_forceUpTo yX0_forceUpTo, Cond.code yX0_forceUpTo cX0_forceUpTo 2 none, Cond.fieldLink RX0 17 "RestartBook$Log" "forced" "I", Cond.methodLink RX0 37 Lib.Math.min.name, Cond.methodLink RX0 42 Lib.Math.max.name, Cond.static Lib.Math.max.name, Cond.code Lib.Math.max.name Lib.Math.max.code 2 (some .int)]
def wsX3_commit : List Cond := .code yX3_commit cX3_commit 4 (some .int) :: ((wsX3_commit_r1 ++ (wsX3_commit_r2 ++ (wsX3_commit_r3 ++ (wsX3_commit_r4 ++ wsX3_commit_r5)))) ++ wsX30 ++ wsX20 ++ wsX00)
def wsX3_abort_r1 : List Cond := [Cond.methodLink RX3 69 yX3_refusalFor, Cond.instanceMethod yX3_refusalFor, Cond.selects RX3 yX3_refusalFor yX3_refusalFor, Cond.initialized RX3, Cond.code yX3_refusalFor cX3_refusalFor 2 (some .int), Cond.fieldLink RX3 43 "RestartBook" "doing" "I", Cond.fieldLink RX3 26 "RestartBook" "tables" "LRestartBook$Tables;", Cond.methodLink RX3 171 yX2_holds, Cond.instanceMethod yX2_holds, Cond.selects RX2 yX2_holds yX2_holds, Cond.initialized RX2, Cond.code yX2_holds cX2_holds 2 (some .boolean), Cond.methodLink RX2 31 yX2_slotOf, Cond.instanceMethod yX2_slotOf, Cond.selects RX2 yX2_slotOf yX2_slotOf, Cond.code yX2_slotOf cX2_slotOf 3 (some .int), Cond.fieldLink RX2 7 "RestartBook$Tables" "size" "I", Cond.fieldLink RX2 13 "RestartBook$Tables" "works" "[I", Cond.methodLink RX3 101 yX3_appendOfWork, Cond.instanceMethod yX3_appendOfWork, Cond.selects RX3 yX3_appendOfWork yX3_appendOfWork, Cond.code yX3_appendOfWork cX3_appendOfWork 4 (some .int), Cond.fieldLink RX3 10 "RestartBook" "log" "LRestartBook$Log;", Cond.methodLink RX3 84 yX2_lastOf]
def wsX3_abort_r2 : List Cond := [Cond.instanceMethod yX2_lastOf, Cond.selects RX2 yX2_lastOf yX2_lastOf, Cond.code yX2_lastOf cX2_lastOf 3 (some .int), Cond.fieldLink RX2 20 "RestartBook$Tables" "lasts" "[I", Cond.methodLink RX3 87 yX0_append, Cond.instanceMethod yX0_append, Cond.selects RX0 yX0_append yX0_append, Cond.initialized RX0, Cond.code yX0_append cX0_append 9 (some .int), Cond.fieldLink RX0 13 "RestartBook$Log" "records" "I", Cond.fieldLink RX0 9 "RestartBook$Log" "cells" "[I", Cond.fieldLink RX0 20 "RestartBook$Log" "changes" "I", Cond.methodLink RX0 31 yJ7_copyOf_59c91, Cond.static yJ7_copyOf_59c91, Cond.initialized RJ7, Cond.code yJ7_copyOf_59c91 cJ7_copyOf_59c91 3 (some (.array .int)), Cond.methodLink RJ7 316 ⟨"[I", "clone", "()Ljava/lang/Object;"⟩, Cond.sameMethod "[I" "java/lang/Object" "clone" "()Ljava/lang/Object;", Cond.native ⟨"java/lang/Object", "clone", "()Ljava/lang/Object;"⟩, Cond.instanceMethod ⟨"java/lang/Object", "clone", "()Ljava/lang/Object;"⟩, Cond.selects "[I" ⟨"[I", "clone", "()Ljava/lang/Object;"⟩ ⟨"java/lang/Object", "clone", "()Ljava/lang/Object;"⟩, Cond.classLink RJ7 317 "[I", Cond.arrayClass .int, Cond.methodLink RJ7 304 Lib.Math.min.name]
def wsX3_abort_r3 : List Cond := [Cond.static Lib.Math.min.name, Cond.initialized "java/lang/Math", Cond.code Lib.Math.min.name Lib.Math.min.code 2 (some .int), Cond.methodLink RJ7 150 arraycopyName, Cond.native arraycopyName, Cond.static arraycopyName, Cond.initialized "java/lang/System", Cond.methodLink RX3 91 yX3_takeIntoTables, Cond.instanceMethod yX3_takeIntoTables, Cond.selects RX3 yX3_takeIntoTables yX3_takeIntoTables, Cond.code yX3_takeIntoTables cX3_takeIntoTables 4 none, Cond.methodLink RX3 168 yX0_read, Cond.instanceMethod yX0_read, Cond.selects RX0 yX0_read yX0_read, Cond.code yX0_read cX0_read 3 (some .int), Cond.methodLink RX0 23 yX0_holds, Cond.instanceMethod yX0_holds, Cond.selects RX0 yX0_holds yX0_holds, Cond.code yX0_holds cX0_holds 2 (some .boolean), Cond.methodLink RX3 65 yX2_bringIn, Cond.instanceMethod yX2_bringIn, Cond.selects RX2 yX2_bringIn yX2_bringIn, Cond.code yX2_bringIn cX2_bringIn 3 none, Cond.fieldLink RX2 17 "RestartBook$Tables" "states" "[I"]
def wsX3_abort_r4 : List Cond := [Cond.fieldLink RX2 23 "RestartBook$Tables" "nexts" "[I", Cond.methodLink RX2 35 yX2_isFull, Cond.instanceMethod yX2_isFull, Cond.selects RX2 yX2_isFull yX2_isFull, Cond.code yX2_isFull cX2_isFull 1 (some .boolean), Cond.methodLink RX2 39 yX2_copySlot, Cond.instanceMethod yX2_copySlot, Cond.selects RX2 yX2_copySlot yX2_copySlot, Cond.code yX2_copySlot cX2_copySlot 3 none, Cond.methodLink RX3 178 yX2_setLast, Cond.instanceMethod yX2_setLast, Cond.selects RX2 yX2_setLast yX2_setLast, Cond.code yX2_setLast cX2_setLast 4 none, Cond.methodLink RX3 182 yX2_setNext, Cond.instanceMethod yX2_setNext, Cond.selects RX2 yX2_setNext yX2_setNext, Cond.code yX2_setNext cX2_setNext 4 none, Cond.methodLink RX3 185 yX2_makeDirty, Cond.instanceMethod yX2_makeDirty, Cond.selects RX2 yX2_makeDirty yX2_makeDirty, Cond.code yX2_makeDirty cX2_makeDirty 3 none, Cond.fieldLink RX2 28 "RestartBook$Tables" "bases" "[I", Cond.methodLink RX2 43 yX1_hasPage, Cond.static yX1_hasPage]
def wsX3_abort_r5 : List Cond := [Cond.initialized RX1, Cond.code yX1_hasPage cX1_hasPage 1 (some .boolean), Cond.methodLink RX3 188 yX2_setState, Cond.instanceMethod yX2_setState, Cond.selects RX2 yX2_setState yX2_setState, Cond.code yX2_setState cX2_setState 4 none, Cond.methodLink RX3 191 yX2_takeOut, Cond.instanceMethod yX2_takeOut, Cond.selects RX2 yX2_takeOut yX2_takeOut, Cond.code yX2_takeOut cX2_takeOut 4 none, Cond.methodLink RX3 97 yX3_undoDownTo, Cond.instanceMethod yX3_undoDownTo, Cond.selects RX3 yX3_undoDownTo yX3_undoDownTo, Cond.code yX3_undoDownTo cX3_undoDownTo 5 (some .int), Cond.methodLink RX3 147 yX0_recordsHeld, Cond.instanceMethod yX0_recordsHeld, Cond.selects RX0 yX0_recordsHeld yX0_recordsHeld, Cond.code yX0_recordsHeld cX0_recordsHeld 1 (some .int), Cond.methodLink RX3 162 yX2_nextOf, Cond.instanceMethod yX2_nextOf, Cond.selects RX2 yX2_nextOf yX2_nextOf, Cond.code yX2_nextOf cX2_nextOf 3 (some .int), Cond.methodLink RX3 172 yX3_undoNext, Cond.instanceMethod yX3_undoNext]
def wsX3_abort_r6 : List Cond := [Cond.selects RX3 yX3_undoNext yX3_undoNext, Cond.code yX3_undoNext cX3_undoNext 4 none, Cond.methodLink RX3 175 yX0_undoingBehind, Cond.instanceMethod yX0_undoingBehind, Cond.selects RX0 yX0_undoingBehind yX0_undoingBehind, Cond.code yX0_undoingBehind cX0_undoingBehind 3 (some .int), Cond.methodLink RX0 27 yX0_read, Cond.methodLink RX3 94 yX3_carryOut, Cond.instanceMethod yX3_carryOut, Cond.selects RX3 yX3_carryOut yX3_carryOut, Cond.code yX3_carryOut cX3_carryOut 2 none, Cond.fieldLink RX3 19 "RestartBook" "pages" "LRestartBook$Pages;", Cond.methodLink RX3 194 yX1_change, Cond.instanceMethod yX1_change, Cond.selects RX1 yX1_change yX1_change, Cond.code yX1_change cX1_change 5 none, Cond.fieldLink RX1 9 "RestartBook$Pages" "words" "[I", Cond.fieldLink RX1 13 "RestartBook$Pages" "marks" "[I", Cond.methodLink RX1 22 yX1_hasPlace, Cond.static yX1_hasPlace, Cond.code yX1_hasPlace cX1_hasPlace 2 (some .boolean)]
def wsX3_abort : List Cond := .code yX3_abort cX3_abort 4 (some .int) :: ((wsX3_abort_r1 ++ (wsX3_abort_r2 ++ (wsX3_abort_r3 ++ (wsX3_abort_r4 ++ (wsX3_abort_r5 ++ wsX3_abort_r6))))) ++ wsX30 ++ wsX20 ++ wsX00 ++ wsX10)
def wsX3_write_r1 : List Cond := [Cond.fieldLink RX3 43 "RestartBook" "doing" "I", Cond.fieldLink RX3 26 "RestartBook" "tables" "LRestartBook$Tables;", Cond.fieldLink RX3 10 "RestartBook" "log" "LRestartBook$Log;", Cond.fieldLink RX3 19 "RestartBook" "pages" "LRestartBook$Pages;", Cond.methodLink RX3 107 yX1_hasPage, Cond.static yX1_hasPage, Cond.initialized RX1, Cond.code yX1_hasPage cX1_hasPage 1 (some .boolean), Cond.methodLink RX3 111 yX2_baseOf, Cond.instanceMethod yX2_baseOf, Cond.selects RX2 yX2_baseOf yX2_baseOf, Cond.initialized RX2, Cond.code yX2_baseOf cX2_baseOf 2 (some .int), Cond.fieldLink RX2 28 "RestartBook$Tables" "bases" "[I", Cond.methodLink RX2 43 yX1_hasPage, Cond.methodLink RX3 114 yX1_markOf, Cond.instanceMethod yX1_markOf, Cond.selects RX1 yX1_markOf yX1_markOf, Cond.code yX1_markOf cX1_markOf 2 (some .int), Cond.fieldLink RX1 13 "RestartBook$Pages" "marks" "[I", Cond.methodLink RX1 26 yX1_hasPage, Cond.methodLink RX3 104 yX0_forceUpTo, Cond.instanceMethod yX0_forceUpTo, Cond.selects RX0 yX0_forceUpTo yX0_forceUpTo]
def wsX3_write_r2 : List Cond := [Cond.initialized RX0, Cond.code yX0_forceUpTo cX0_forceUpTo 2 none, Cond.fieldLink RX0 17 "RestartBook$Log" "forced" "I", Cond.fieldLink RX0 13 "RestartBook$Log" "records" "I", Cond.methodLink RX0 37 Lib.Math.min.name, Cond.static Lib.Math.min.name, Cond.initialized "java/lang/Math", Cond.code Lib.Math.min.name Lib.Math.min.code 2 (some .int), Cond.methodLink RX0 42 Lib.Math.max.name, Cond.static Lib.Math.max.name, Cond.code Lib.Math.max.name Lib.Math.max.code 2 (some .int), Cond.methodLink RX3 117 yX1_copyToMedium, Cond.instanceMethod yX1_copyToMedium, Cond.selects RX1 yX1_copyToMedium yX1_copyToMedium, Cond.code yX1_copyToMedium cX1_copyToMedium 2 none, Cond.fieldLink RX1 9 "RestartBook$Pages" "words" "[I", Cond.fieldLink RX1 16 "RestartBook$Pages" "mediumWords" "[I", Cond.methodLink RX1 30 arraycopyName, Cond.native arraycopyName, Cond.static arraycopyName, Cond.initialized "java/lang/System", Cond.fieldLink RX1 19 "RestartBook$Pages" "mediumMarks" "[I", Cond.methodLink RX3 120 yX2_makeClean, Cond.instanceMethod yX2_makeClean]
def wsX3_write_r3 : List Cond := [Cond.selects RX2 yX2_makeClean yX2_makeClean, Cond.code yX2_makeClean cX2_makeClean 2 none]
def wsX3_write : List Cond := .code yX3_write cX3_write 2 (some .int) :: ((wsX3_write_r1 ++ (wsX3_write_r2 ++ wsX3_write_r3)) ++ wsX30 ++ wsX20 ++ wsX10 ++ wsX00)
def wsX3_force : List Cond := .code yX3_force cX3_force 2 (some .int) :: ([.fieldLink RX3 43 "RestartBook" "doing" "I", .fieldLink RX3 10 "RestartBook" "log" "LRestartBook$Log;", .methodLink RX3 104 yX0_forceUpTo, .instanceMethod yX0_forceUpTo, .selects RX0 yX0_forceUpTo yX0_forceUpTo, .initialized RX0, .code yX0_forceUpTo cX0_forceUpTo 2 none, .fieldLink RX0 17 "RestartBook$Log" "forced" "I", .fieldLink RX0 13 "RestartBook$Log" "records" "I", .methodLink RX0 37 Lib.Math.min.name, .static Lib.Math.min.name, .initialized "java/lang/Math", .code Lib.Math.min.name Lib.Math.min.code 2 (some .int), .methodLink RX0 42 Lib.Math.max.name, .static Lib.Math.max.name, .code Lib.Math.max.name Lib.Math.max.code 2 (some .int), .methodLink RX3 123 yX0_forcedHeld, .instanceMethod yX0_forcedHeld, .selects RX0 yX0_forcedHeld yX0_forcedHeld, .code yX0_forcedHeld cX0_forcedHeld 1 (some .int)] ++ wsX30 ++ wsX00)
def wsX3_point_r1 : List Cond := [Cond.fieldLink RX3 43 "RestartBook" "doing" "I", Cond.fieldLink RX3 37 "RestartBook" "pointsMade" "I", Cond.fieldLink RX3 10 "RestartBook" "log" "LRestartBook$Log;", Cond.fieldLink RX3 33 "RestartBook" "latestPoint" "I", Cond.fieldLink RX3 30 "RestartBook" "toldByPoint" "LRestartBook$Tables;", Cond.fieldLink RX3 26 "RestartBook" "tables" "LRestartBook$Tables;", Cond.methodLink RX3 87 yX0_append, Cond.instanceMethod yX0_append, Cond.selects RX0 yX0_append yX0_append, Cond.initialized RX0, Cond.code yX0_append cX0_append 9 (some .int), Cond.fieldLink RX0 13 "RestartBook$Log" "records" "I", Cond.fieldLink RX0 9 "RestartBook$Log" "cells" "[I", Cond.fieldLink RX0 20 "RestartBook$Log" "changes" "I", Cond.methodLink RX0 31 yJ7_copyOf_59c91, Cond.static yJ7_copyOf_59c91, Cond.initialized RJ7, Cond.code yJ7_copyOf_59c91 cJ7_copyOf_59c91 3 (some (.array .int)), Cond.methodLink RJ7 316 ⟨"[I", "clone", "()Ljava/lang/Object;"⟩, Cond.sameMethod "[I" "java/lang/Object" "clone" "()Ljava/lang/Object;", Cond.native ⟨"java/lang/Object", "clone", "()Ljava/lang/Object;"⟩, Cond.instanceMethod ⟨"java/lang/Object", "clone", "()Ljava/lang/Object;"⟩, Cond.selects "[I" ⟨"[I", "clone", "()Ljava/lang/Object;"⟩ ⟨"java/lang/Object", "clone", "()Ljava/lang/Object;"⟩, Cond.classLink RJ7 317 "[I"]
def wsX3_point_r2 : List Cond := [Cond.arrayClass .int, Cond.methodLink RJ7 304 Lib.Math.min.name, Cond.static Lib.Math.min.name, Cond.initialized "java/lang/Math", Cond.code Lib.Math.min.name Lib.Math.min.code 2 (some .int), Cond.methodLink RJ7 150 arraycopyName, Cond.native arraycopyName, Cond.static arraycopyName, Cond.initialized "java/lang/System", Cond.methodLink RX3 126 yX2_becomeLike, Cond.instanceMethod yX2_becomeLike, Cond.selects RX2 yX2_becomeLike yX2_becomeLike, Cond.initialized RX2, Cond.code yX2_becomeLike cX2_becomeLike 2 none, Cond.methodLink RX2 53 yX2_makeEmpty, Cond.instanceMethod yX2_makeEmpty, Cond.selects RX2 yX2_makeEmpty yX2_makeEmpty, Cond.code yX2_makeEmpty cX2_makeEmpty 1 none, Cond.fieldLink RX2 7 "RestartBook$Tables" "size" "I", Cond.fieldLink RX2 28 "RestartBook$Tables" "bases" "[I", Cond.methodLink RX2 47 yJ7_fill_53178, Cond.static yJ7_fill_53178, Cond.code yJ7_fill_53178 cJ7_fill_53178 4 none, Cond.methodLink RX2 56 yX2_bringInMissing]
def wsX3_point_r3 : List Cond := [Cond.instanceMethod yX2_bringInMissing, Cond.selects RX2 yX2_bringInMissing yX2_bringInMissing, Cond.code yX2_bringInMissing cX2_bringInMissing 4 none, Cond.fieldLink RX2 13 "RestartBook$Tables" "works" "[I", Cond.fieldLink RX2 17 "RestartBook$Tables" "states" "[I", Cond.fieldLink RX2 20 "RestartBook$Tables" "lasts" "[I", Cond.fieldLink RX2 23 "RestartBook$Tables" "nexts" "[I", Cond.methodLink RX2 60 yX2_holds, Cond.instanceMethod yX2_holds, Cond.selects RX2 yX2_holds yX2_holds, Cond.code yX2_holds cX2_holds 2 (some .boolean), Cond.methodLink RX2 31 yX2_slotOf, Cond.instanceMethod yX2_slotOf, Cond.selects RX2 yX2_slotOf yX2_slotOf, Cond.code yX2_slotOf cX2_slotOf 3 (some .int), Cond.methodLink RX2 63 yX2_bringIn, Cond.instanceMethod yX2_bringIn, Cond.selects RX2 yX2_bringIn yX2_bringIn, Cond.code yX2_bringIn cX2_bringIn 3 none, Cond.methodLink RX2 35 yX2_isFull, Cond.instanceMethod yX2_isFull, Cond.selects RX2 yX2_isFull yX2_isFull, Cond.code yX2_isFull cX2_isFull 1 (some .boolean), Cond.methodLink RX2 39 yX2_copySlot]
def wsX3_point_r4 : List Cond := [Cond.instanceMethod yX2_copySlot, Cond.selects RX2 yX2_copySlot yX2_copySlot, Cond.code yX2_copySlot cX2_copySlot 3 none, Cond.methodLink RX2 67 yX2_setState, Cond.instanceMethod yX2_setState, Cond.selects RX2 yX2_setState yX2_setState, Cond.code yX2_setState cX2_setState 4 none, Cond.methodLink RX2 70 yX2_setLast, Cond.instanceMethod yX2_setLast, Cond.selects RX2 yX2_setLast yX2_setLast, Cond.code yX2_setLast cX2_setLast 4 none, Cond.methodLink RX2 73 yX2_setNext, Cond.instanceMethod yX2_setNext, Cond.selects RX2 yX2_setNext yX2_setNext, Cond.code yX2_setNext cX2_setNext 4 none, Cond.methodLink RX2 76 yX2_makeDirty, Cond.instanceMethod yX2_makeDirty, Cond.selects RX2 yX2_makeDirty yX2_makeDirty, Cond.code yX2_makeDirty cX2_makeDirty 3 none, Cond.methodLink RX2 43 yX1_hasPage, Cond.static yX1_hasPage, Cond.initialized RX1, Cond.code yX1_hasPage cX1_hasPage 1 (some .boolean), Cond.methodLink RX3 104 yX0_forceUpTo]
def wsX3_point_r5 : List Cond := [Cond.instanceMethod yX0_forceUpTo, Cond.selects RX0 yX0_forceUpTo yX0_forceUpTo, Cond.code yX0_forceUpTo cX0_forceUpTo 2 none, Cond.fieldLink RX0 17 "RestartBook$Log" "forced" "I", Cond.methodLink RX0 37 Lib.Math.min.name, Cond.methodLink RX0 42 Lib.Math.max.name, Cond.static Lib.Math.max.name, Cond.code Lib.Math.max.name Lib.Math.max.code 2 (some .int)]
def wsX3_point : List Cond := .code yX3_point cX3_point 1 (some .int) :: ((wsX3_point_r1 ++ (wsX3_point_r2 ++ (wsX3_point_r3 ++ (wsX3_point_r4 ++ wsX3_point_r5)))) ++ wsX30 ++ wsX00 ++ wsX20)
def wsX3_passOverPartsWithoutSteps_r1 : List Cond := [Cond.fieldLink RX3 43 "RestartBook" "doing" "I", Cond.fieldLink RX3 46 "RestartBook" "nextStep" "I", Cond.fieldLink RX3 10 "RestartBook" "log" "LRestartBook$Log;", Cond.fieldLink RX3 26 "RestartBook" "tables" "LRestartBook$Tables;", Cond.methodLink RX3 147 yX0_recordsHeld, Cond.instanceMethod yX0_recordsHeld, Cond.selects RX0 yX0_recordsHeld yX0_recordsHeld, Cond.initialized RX0, Cond.code yX0_recordsHeld cX0_recordsHeld 1 (some .int), Cond.fieldLink RX0 13 "RestartBook$Log" "records" "I", Cond.methodLink RX3 213 yX2_leastBase, Cond.instanceMethod yX2_leastBase, Cond.selects RX2 yX2_leastBase yX2_leastBase, Cond.initialized RX2, Cond.code yX2_leastBase cX2_leastBase 3 (some .int), Cond.fieldLink RX2 28 "RestartBook$Tables" "bases" "[I", Cond.methodLink RX3 204 yX2_leastWorkIn, Cond.instanceMethod yX2_leastWorkIn, Cond.selects RX2 yX2_leastWorkIn yX2_leastWorkIn, Cond.code yX2_leastWorkIn cX2_leastWorkIn 3 (some .int), Cond.fieldLink RX2 7 "RestartBook$Tables" "size" "I", Cond.fieldLink RX2 17 "RestartBook$Tables" "states" "[I", Cond.fieldLink RX2 13 "RestartBook$Tables" "works" "[I", Cond.methodLink RX3 207 yX2_workToUndo]
def wsX3_passOverPartsWithoutSteps_r2 : List Cond := [Cond.instanceMethod yX2_workToUndo, Cond.selects RX2 yX2_workToUndo yX2_workToUndo, Cond.code yX2_workToUndo cX2_workToUndo 4 (some .int), Cond.fieldLink RX2 23 "RestartBook$Tables" "nexts" "[I"]
def wsX3_passOverPartsWithoutSteps : List Cond := .code yX3_passOverPartsWithoutSteps cX3_passOverPartsWithoutSteps 2 none :: ((wsX3_passOverPartsWithoutSteps_r1 ++ wsX3_passOverPartsWithoutSteps_r2) ++ wsX30 ++ wsX00 ++ wsX20)
def wsX3_loss_r1 : List Cond := [Cond.fieldLink RX3 10 "RestartBook" "log" "LRestartBook$Log;", Cond.fieldLink RX3 19 "RestartBook" "pages" "LRestartBook$Pages;", Cond.fieldLink RX3 26 "RestartBook" "tables" "LRestartBook$Tables;", Cond.fieldLink RX3 43 "RestartBook" "doing" "I", Cond.fieldLink RX3 33 "RestartBook" "latestPoint" "I", Cond.methodLink RX3 139 Lib.Math.max.name, Cond.static Lib.Math.max.name, Cond.initialized "java/lang/Math", Cond.code Lib.Math.max.name Lib.Math.max.code 2 (some .int), Cond.fieldLink RX3 46 "RestartBook" "nextStep" "I", Cond.methodLink RX3 130 yX0_loseBehind, Cond.instanceMethod yX0_loseBehind, Cond.selects RX0 yX0_loseBehind yX0_loseBehind, Cond.initialized RX0, Cond.code yX0_loseBehind cX0_loseBehind 4 none, Cond.fieldLink RX0 17 "RestartBook$Log" "forced" "I", Cond.fieldLink RX0 13 "RestartBook$Log" "records" "I", Cond.methodLink RX0 37 Lib.Math.min.name, Cond.static Lib.Math.min.name, Cond.code Lib.Math.min.name Lib.Math.min.code 2 (some .int), Cond.fieldLink RX0 20 "RestartBook$Log" "changes" "I", Cond.methodLink RX0 27 yX0_read, Cond.instanceMethod yX0_read, Cond.selects RX0 yX0_read yX0_read]
def wsX3_loss_r2 : List Cond := [Cond.code yX0_read cX0_read 3 (some .int), Cond.fieldLink RX0 9 "RestartBook$Log" "cells" "[I", Cond.methodLink RX0 23 yX0_holds, Cond.instanceMethod yX0_holds, Cond.selects RX0 yX0_holds yX0_holds, Cond.code yX0_holds cX0_holds 2 (some .boolean), Cond.methodLink RX3 133 yX1_readAllFromMedium, Cond.instanceMethod yX1_readAllFromMedium, Cond.selects RX1 yX1_readAllFromMedium yX1_readAllFromMedium, Cond.initialized RX1, Cond.code yX1_readAllFromMedium cX1_readAllFromMedium 1 none, Cond.fieldLink RX1 16 "RestartBook$Pages" "mediumWords" "[I", Cond.fieldLink RX1 9 "RestartBook$Pages" "words" "[I", Cond.methodLink RX1 30 arraycopyName, Cond.native arraycopyName, Cond.static arraycopyName, Cond.initialized "java/lang/System", Cond.fieldLink RX1 19 "RestartBook$Pages" "mediumMarks" "[I", Cond.fieldLink RX1 13 "RestartBook$Pages" "marks" "[I", Cond.methodLink RX3 136 yX2_makeEmpty, Cond.instanceMethod yX2_makeEmpty, Cond.selects RX2 yX2_makeEmpty yX2_makeEmpty, Cond.initialized RX2, Cond.code yX2_makeEmpty cX2_makeEmpty 1 none]
def wsX3_loss_r3 : List Cond := [Cond.fieldLink RX2 7 "RestartBook$Tables" "size" "I", Cond.fieldLink RX2 28 "RestartBook$Tables" "bases" "[I", Cond.methodLink RX2 47 yJ7_fill_53178, Cond.static yJ7_fill_53178, Cond.initialized RJ7, Cond.code yJ7_fill_53178 cJ7_fill_53178 4 none, Cond.methodLink RX3 144 yX3_passOverPartsWithoutSteps, Cond.instanceMethod yX3_passOverPartsWithoutSteps, Cond.selects RX3 yX3_passOverPartsWithoutSteps yX3_passOverPartsWithoutSteps, Cond.initialized RX3, Cond.code yX3_passOverPartsWithoutSteps cX3_passOverPartsWithoutSteps 2 none, Cond.methodLink RX3 147 yX0_recordsHeld, Cond.instanceMethod yX0_recordsHeld, Cond.selects RX0 yX0_recordsHeld yX0_recordsHeld, Cond.code yX0_recordsHeld cX0_recordsHeld 1 (some .int), Cond.methodLink RX3 213 yX2_leastBase, Cond.instanceMethod yX2_leastBase, Cond.selects RX2 yX2_leastBase yX2_leastBase, Cond.code yX2_leastBase cX2_leastBase 3 (some .int), Cond.methodLink RX3 204 yX2_leastWorkIn, Cond.instanceMethod yX2_leastWorkIn, Cond.selects RX2 yX2_leastWorkIn yX2_leastWorkIn, Cond.code yX2_leastWorkIn cX2_leastWorkIn 3 (some .int), Cond.fieldLink RX2 17 "RestartBook$Tables" "states" "[I"]
def wsX3_loss_r4 : List Cond := [Cond.fieldLink RX2 13 "RestartBook$Tables" "works" "[I", Cond.methodLink RX3 207 yX2_workToUndo, Cond.instanceMethod yX2_workToUndo, Cond.selects RX2 yX2_workToUndo yX2_workToUndo, Cond.code yX2_workToUndo cX2_workToUndo 4 (some .int), Cond.fieldLink RX2 23 "RestartBook$Tables" "nexts" "[I"]
def wsX3_loss : List Cond := .code yX3_loss cX3_loss 2 (some .int) :: ((wsX3_loss_r1 ++ (wsX3_loss_r2 ++ (wsX3_loss_r3 ++ wsX3_loss_r4))) ++ wsX30 ++ wsX00 ++ wsX10 ++ wsX20)
def wsX3_lookThrough_r1 : List Cond := [Cond.fieldLink RX3 49 "RestartBook" "lookedThrough" "I", Cond.fieldLink RX3 10 "RestartBook" "log" "LRestartBook$Log;", Cond.fieldLink RX3 26 "RestartBook" "tables" "LRestartBook$Tables;", Cond.fieldLink RX3 30 "RestartBook" "toldByPoint" "LRestartBook$Tables;", Cond.methodLink RX3 168 yX0_read, Cond.instanceMethod yX0_read, Cond.selects RX0 yX0_read yX0_read, Cond.initialized RX0, Cond.code yX0_read cX0_read 3 (some .int), Cond.fieldLink RX0 9 "RestartBook$Log" "cells" "[I", Cond.methodLink RX0 23 yX0_holds, Cond.instanceMethod yX0_holds, Cond.selects RX0 yX0_holds yX0_holds, Cond.code yX0_holds cX0_holds 2 (some .boolean), Cond.fieldLink RX0 13 "RestartBook$Log" "records" "I", Cond.methodLink RX3 216 yX2_bringInMissing, Cond.instanceMethod yX2_bringInMissing, Cond.selects RX2 yX2_bringInMissing yX2_bringInMissing, Cond.initialized RX2, Cond.code yX2_bringInMissing cX2_bringInMissing 4 none, Cond.fieldLink RX2 7 "RestartBook$Tables" "size" "I", Cond.fieldLink RX2 13 "RestartBook$Tables" "works" "[I", Cond.fieldLink RX2 17 "RestartBook$Tables" "states" "[I", Cond.fieldLink RX2 20 "RestartBook$Tables" "lasts" "[I"]
def wsX3_lookThrough_r2 : List Cond := [Cond.fieldLink RX2 23 "RestartBook$Tables" "nexts" "[I", Cond.fieldLink RX2 28 "RestartBook$Tables" "bases" "[I", Cond.methodLink RX2 60 yX2_holds, Cond.instanceMethod yX2_holds, Cond.selects RX2 yX2_holds yX2_holds, Cond.code yX2_holds cX2_holds 2 (some .boolean), Cond.methodLink RX2 31 yX2_slotOf, Cond.instanceMethod yX2_slotOf, Cond.selects RX2 yX2_slotOf yX2_slotOf, Cond.code yX2_slotOf cX2_slotOf 3 (some .int), Cond.methodLink RX2 63 yX2_bringIn, Cond.instanceMethod yX2_bringIn, Cond.selects RX2 yX2_bringIn yX2_bringIn, Cond.code yX2_bringIn cX2_bringIn 3 none, Cond.methodLink RX2 35 yX2_isFull, Cond.instanceMethod yX2_isFull, Cond.selects RX2 yX2_isFull yX2_isFull, Cond.code yX2_isFull cX2_isFull 1 (some .boolean), Cond.methodLink RX2 39 yX2_copySlot, Cond.instanceMethod yX2_copySlot, Cond.selects RX2 yX2_copySlot yX2_copySlot, Cond.code yX2_copySlot cX2_copySlot 3 none, Cond.methodLink RX2 67 yX2_setState, Cond.instanceMethod yX2_setState]
def wsX3_lookThrough_r3 : List Cond := [Cond.selects RX2 yX2_setState yX2_setState, Cond.code yX2_setState cX2_setState 4 none, Cond.methodLink RX2 70 yX2_setLast, Cond.instanceMethod yX2_setLast, Cond.selects RX2 yX2_setLast yX2_setLast, Cond.code yX2_setLast cX2_setLast 4 none, Cond.methodLink RX2 73 yX2_setNext, Cond.instanceMethod yX2_setNext, Cond.selects RX2 yX2_setNext yX2_setNext, Cond.code yX2_setNext cX2_setNext 4 none, Cond.methodLink RX2 76 yX2_makeDirty, Cond.instanceMethod yX2_makeDirty, Cond.selects RX2 yX2_makeDirty yX2_makeDirty, Cond.code yX2_makeDirty cX2_makeDirty 3 none, Cond.methodLink RX2 43 yX1_hasPage, Cond.static yX1_hasPage, Cond.initialized RX1, Cond.code yX1_hasPage cX1_hasPage 1 (some .boolean), Cond.methodLink RX3 91 yX3_takeIntoTables, Cond.instanceMethod yX3_takeIntoTables, Cond.selects RX3 yX3_takeIntoTables yX3_takeIntoTables, Cond.initialized RX3, Cond.code yX3_takeIntoTables cX3_takeIntoTables 4 none, Cond.methodLink RX3 65 yX2_bringIn]
def wsX3_lookThrough_r4 : List Cond := [Cond.methodLink RX3 178 yX2_setLast, Cond.methodLink RX3 182 yX2_setNext, Cond.methodLink RX3 185 yX2_makeDirty, Cond.methodLink RX3 188 yX2_setState, Cond.methodLink RX3 191 yX2_takeOut, Cond.instanceMethod yX2_takeOut, Cond.selects RX2 yX2_takeOut yX2_takeOut, Cond.code yX2_takeOut cX2_takeOut 4 none]
def wsX3_lookThrough : List Cond := .code yX3_lookThrough cX3_lookThrough 2 none :: ((wsX3_lookThrough_r1 ++ (wsX3_lookThrough_r2 ++ (wsX3_lookThrough_r3 ++ wsX3_lookThrough_r4))) ++ wsX30 ++ wsX00 ++ wsX20)
def wsX3_doAgainOrPassOver_r1 : List Cond := [Cond.fieldLink RX3 10 "RestartBook" "log" "LRestartBook$Log;", Cond.fieldLink RX3 26 "RestartBook" "tables" "LRestartBook$Tables;", Cond.fieldLink RX3 19 "RestartBook" "pages" "LRestartBook$Pages;", Cond.fieldLink RX3 52 "RestartBook" "doneAgain" "I", Cond.fieldLink RX3 55 "RestartBook" "passedOver" "I", Cond.methodLink RX3 219 yX0_changesPage, Cond.instanceMethod yX0_changesPage, Cond.selects RX0 yX0_changesPage yX0_changesPage, Cond.initialized RX0, Cond.code yX0_changesPage cX0_changesPage 3 (some .boolean), Cond.methodLink RX0 27 yX0_read, Cond.instanceMethod yX0_read, Cond.selects RX0 yX0_read yX0_read, Cond.code yX0_read cX0_read 3 (some .int), Cond.fieldLink RX0 9 "RestartBook$Log" "cells" "[I", Cond.methodLink RX0 23 yX0_holds, Cond.instanceMethod yX0_holds, Cond.selects RX0 yX0_holds yX0_holds, Cond.code yX0_holds cX0_holds 2 (some .boolean), Cond.fieldLink RX0 13 "RestartBook$Log" "records" "I", Cond.methodLink RX3 168 yX0_read, Cond.methodLink RX3 111 yX2_baseOf, Cond.instanceMethod yX2_baseOf, Cond.selects RX2 yX2_baseOf yX2_baseOf]
def wsX3_doAgainOrPassOver_r2 : List Cond := [Cond.initialized RX2, Cond.code yX2_baseOf cX2_baseOf 2 (some .int), Cond.fieldLink RX2 28 "RestartBook$Tables" "bases" "[I", Cond.methodLink RX2 43 yX1_hasPage, Cond.static yX1_hasPage, Cond.initialized RX1, Cond.code yX1_hasPage cX1_hasPage 1 (some .boolean), Cond.methodLink RX3 114 yX1_markOf, Cond.instanceMethod yX1_markOf, Cond.selects RX1 yX1_markOf yX1_markOf, Cond.code yX1_markOf cX1_markOf 2 (some .int), Cond.fieldLink RX1 13 "RestartBook$Pages" "marks" "[I", Cond.methodLink RX1 26 yX1_hasPage, Cond.methodLink RX3 94 yX3_carryOut, Cond.instanceMethod yX3_carryOut, Cond.selects RX3 yX3_carryOut yX3_carryOut, Cond.initialized RX3, Cond.code yX3_carryOut cX3_carryOut 2 none, Cond.methodLink RX3 194 yX1_change, Cond.instanceMethod yX1_change, Cond.selects RX1 yX1_change yX1_change, Cond.code yX1_change cX1_change 5 none, Cond.fieldLink RX1 9 "RestartBook$Pages" "words" "[I", Cond.methodLink RX1 22 yX1_hasPlace]
def wsX3_doAgainOrPassOver_r3 : List Cond := [Cond.static yX1_hasPlace, Cond.code yX1_hasPlace cX1_hasPlace 2 (some .boolean)]
def wsX3_doAgainOrPassOver : List Cond := .code yX3_doAgainOrPassOver cX3_doAgainOrPassOver 4 none :: ((wsX3_doAgainOrPassOver_r1 ++ (wsX3_doAgainOrPassOver_r2 ++ wsX3_doAgainOrPassOver_r3)) ++ wsX30 ++ wsX00 ++ wsX20 ++ wsX10)
def wsX3_undoOrEnd_r1 : List Cond := [Cond.fieldLink RX3 26 "RestartBook" "tables" "LRestartBook$Tables;", Cond.fieldLink RX3 58 "RestartBook" "undone" "I", Cond.methodLink RX3 162 yX2_nextOf, Cond.instanceMethod yX2_nextOf, Cond.selects RX2 yX2_nextOf yX2_nextOf, Cond.initialized RX2, Cond.code yX2_nextOf cX2_nextOf 3 (some .int), Cond.fieldLink RX2 23 "RestartBook$Tables" "nexts" "[I", Cond.methodLink RX2 31 yX2_slotOf, Cond.instanceMethod yX2_slotOf, Cond.selects RX2 yX2_slotOf yX2_slotOf, Cond.code yX2_slotOf cX2_slotOf 3 (some .int), Cond.fieldLink RX2 7 "RestartBook$Tables" "size" "I", Cond.fieldLink RX2 13 "RestartBook$Tables" "works" "[I", Cond.methodLink RX3 172 yX3_undoNext, Cond.instanceMethod yX3_undoNext, Cond.selects RX3 yX3_undoNext yX3_undoNext, Cond.initialized RX3, Cond.code yX3_undoNext cX3_undoNext 4 none, Cond.fieldLink RX3 10 "RestartBook" "log" "LRestartBook$Log;", Cond.methodLink RX3 84 yX2_lastOf, Cond.instanceMethod yX2_lastOf, Cond.selects RX2 yX2_lastOf yX2_lastOf, Cond.code yX2_lastOf cX2_lastOf 3 (some .int)]
def wsX3_undoOrEnd_r2 : List Cond := [Cond.fieldLink RX2 20 "RestartBook$Tables" "lasts" "[I", Cond.methodLink RX3 168 yX0_read, Cond.instanceMethod yX0_read, Cond.selects RX0 yX0_read yX0_read, Cond.initialized RX0, Cond.code yX0_read cX0_read 3 (some .int), Cond.fieldLink RX0 9 "RestartBook$Log" "cells" "[I", Cond.methodLink RX0 23 yX0_holds, Cond.instanceMethod yX0_holds, Cond.selects RX0 yX0_holds yX0_holds, Cond.code yX0_holds cX0_holds 2 (some .boolean), Cond.fieldLink RX0 13 "RestartBook$Log" "records" "I", Cond.methodLink RX3 175 yX0_undoingBehind, Cond.instanceMethod yX0_undoingBehind, Cond.selects RX0 yX0_undoingBehind yX0_undoingBehind, Cond.code yX0_undoingBehind cX0_undoingBehind 3 (some .int), Cond.methodLink RX0 27 yX0_read, Cond.methodLink RX3 87 yX0_append, Cond.instanceMethod yX0_append, Cond.selects RX0 yX0_append yX0_append, Cond.code yX0_append cX0_append 9 (some .int), Cond.fieldLink RX0 20 "RestartBook$Log" "changes" "I", Cond.methodLink RX0 31 yJ7_copyOf_59c91, Cond.static yJ7_copyOf_59c91]
def wsX3_undoOrEnd_r3 : List Cond := [Cond.initialized RJ7, Cond.code yJ7_copyOf_59c91 cJ7_copyOf_59c91 3 (some (.array .int)), Cond.methodLink RJ7 316 ⟨"[I", "clone", "()Ljava/lang/Object;"⟩, Cond.sameMethod "[I" "java/lang/Object" "clone" "()Ljava/lang/Object;", Cond.native ⟨"java/lang/Object", "clone", "()Ljava/lang/Object;"⟩, Cond.instanceMethod ⟨"java/lang/Object", "clone", "()Ljava/lang/Object;"⟩, Cond.selects "[I" ⟨"[I", "clone", "()Ljava/lang/Object;"⟩ ⟨"java/lang/Object", "clone", "()Ljava/lang/Object;"⟩, Cond.classLink RJ7 317 "[I", Cond.arrayClass .int, Cond.methodLink RJ7 304 Lib.Math.min.name, Cond.static Lib.Math.min.name, Cond.initialized "java/lang/Math", Cond.code Lib.Math.min.name Lib.Math.min.code 2 (some .int), Cond.methodLink RJ7 150 arraycopyName, Cond.native arraycopyName, Cond.static arraycopyName, Cond.initialized "java/lang/System", Cond.methodLink RX3 91 yX3_takeIntoTables, Cond.instanceMethod yX3_takeIntoTables, Cond.selects RX3 yX3_takeIntoTables yX3_takeIntoTables, Cond.code yX3_takeIntoTables cX3_takeIntoTables 4 none, Cond.methodLink RX3 65 yX2_bringIn, Cond.instanceMethod yX2_bringIn, Cond.selects RX2 yX2_bringIn yX2_bringIn]
def wsX3_undoOrEnd_r4 : List Cond := [Cond.code yX2_bringIn cX2_bringIn 3 none, Cond.fieldLink RX2 17 "RestartBook$Tables" "states" "[I", Cond.methodLink RX2 35 yX2_isFull, Cond.instanceMethod yX2_isFull, Cond.selects RX2 yX2_isFull yX2_isFull, Cond.code yX2_isFull cX2_isFull 1 (some .boolean), Cond.methodLink RX2 39 yX2_copySlot, Cond.instanceMethod yX2_copySlot, Cond.selects RX2 yX2_copySlot yX2_copySlot, Cond.code yX2_copySlot cX2_copySlot 3 none, Cond.methodLink RX3 178 yX2_setLast, Cond.instanceMethod yX2_setLast, Cond.selects RX2 yX2_setLast yX2_setLast, Cond.code yX2_setLast cX2_setLast 4 none, Cond.methodLink RX3 182 yX2_setNext, Cond.instanceMethod yX2_setNext, Cond.selects RX2 yX2_setNext yX2_setNext, Cond.code yX2_setNext cX2_setNext 4 none, Cond.methodLink RX3 185 yX2_makeDirty, Cond.instanceMethod yX2_makeDirty, Cond.selects RX2 yX2_makeDirty yX2_makeDirty, Cond.code yX2_makeDirty cX2_makeDirty 3 none, Cond.fieldLink RX2 28 "RestartBook$Tables" "bases" "[I", Cond.methodLink RX2 43 yX1_hasPage]
def wsX3_undoOrEnd_r5 : List Cond := [Cond.static yX1_hasPage, Cond.initialized RX1, Cond.code yX1_hasPage cX1_hasPage 1 (some .boolean), Cond.methodLink RX3 188 yX2_setState, Cond.instanceMethod yX2_setState, Cond.selects RX2 yX2_setState yX2_setState, Cond.code yX2_setState cX2_setState 4 none, Cond.methodLink RX3 191 yX2_takeOut, Cond.instanceMethod yX2_takeOut, Cond.selects RX2 yX2_takeOut yX2_takeOut, Cond.code yX2_takeOut cX2_takeOut 4 none, Cond.methodLink RX3 94 yX3_carryOut, Cond.instanceMethod yX3_carryOut, Cond.selects RX3 yX3_carryOut yX3_carryOut, Cond.code yX3_carryOut cX3_carryOut 2 none, Cond.fieldLink RX3 19 "RestartBook" "pages" "LRestartBook$Pages;", Cond.methodLink RX3 194 yX1_change, Cond.instanceMethod yX1_change, Cond.selects RX1 yX1_change yX1_change, Cond.code yX1_change cX1_change 5 none, Cond.fieldLink RX1 9 "RestartBook$Pages" "words" "[I", Cond.fieldLink RX1 13 "RestartBook$Pages" "marks" "[I", Cond.methodLink RX1 22 yX1_hasPlace, Cond.static yX1_hasPlace]
def wsX3_undoOrEnd_r6 : List Cond := [Cond.code yX1_hasPlace cX1_hasPlace 2 (some .boolean), Cond.methodLink RX3 101 yX3_appendOfWork, Cond.instanceMethod yX3_appendOfWork, Cond.selects RX3 yX3_appendOfWork yX3_appendOfWork, Cond.code yX3_appendOfWork cX3_appendOfWork 4 (some .int)]
def wsX3_undoOrEnd : List Cond := .code yX3_undoOrEnd cX3_undoOrEnd 2 none :: ((wsX3_undoOrEnd_r1 ++ (wsX3_undoOrEnd_r2 ++ (wsX3_undoOrEnd_r3 ++ (wsX3_undoOrEnd_r4 ++ (wsX3_undoOrEnd_r5 ++ wsX3_undoOrEnd_r6))))) ++ wsX30 ++ wsX20 ++ wsX00 ++ wsX10)
def wsX3_makeStep_r1 : List Cond := [Cond.fieldLink RX3 43 "RestartBook" "doing" "I", Cond.fieldLink RX3 46 "RestartBook" "nextStep" "I", Cond.fieldLink RX3 26 "RestartBook" "tables" "LRestartBook$Tables;", Cond.methodLink RX3 198 yX3_lookThrough, Cond.instanceMethod yX3_lookThrough, Cond.selects RX3 yX3_lookThrough yX3_lookThrough, Cond.initialized RX3, Cond.code yX3_lookThrough cX3_lookThrough 2 none, Cond.fieldLink RX3 49 "RestartBook" "lookedThrough" "I", Cond.fieldLink RX3 10 "RestartBook" "log" "LRestartBook$Log;", Cond.fieldLink RX3 30 "RestartBook" "toldByPoint" "LRestartBook$Tables;", Cond.methodLink RX3 168 yX0_read, Cond.instanceMethod yX0_read, Cond.selects RX0 yX0_read yX0_read, Cond.initialized RX0, Cond.code yX0_read cX0_read 3 (some .int), Cond.fieldLink RX0 9 "RestartBook$Log" "cells" "[I", Cond.methodLink RX0 23 yX0_holds, Cond.instanceMethod yX0_holds, Cond.selects RX0 yX0_holds yX0_holds, Cond.code yX0_holds cX0_holds 2 (some .boolean), Cond.fieldLink RX0 13 "RestartBook$Log" "records" "I", Cond.methodLink RX3 216 yX2_bringInMissing, Cond.instanceMethod yX2_bringInMissing]
def wsX3_makeStep_r2 : List Cond := [Cond.selects RX2 yX2_bringInMissing yX2_bringInMissing, Cond.initialized RX2, Cond.code yX2_bringInMissing cX2_bringInMissing 4 none, Cond.fieldLink RX2 7 "RestartBook$Tables" "size" "I", Cond.fieldLink RX2 13 "RestartBook$Tables" "works" "[I", Cond.fieldLink RX2 17 "RestartBook$Tables" "states" "[I", Cond.fieldLink RX2 20 "RestartBook$Tables" "lasts" "[I", Cond.fieldLink RX2 23 "RestartBook$Tables" "nexts" "[I", Cond.fieldLink RX2 28 "RestartBook$Tables" "bases" "[I", Cond.methodLink RX2 60 yX2_holds, Cond.instanceMethod yX2_holds, Cond.selects RX2 yX2_holds yX2_holds, Cond.code yX2_holds cX2_holds 2 (some .boolean), Cond.methodLink RX2 31 yX2_slotOf, Cond.instanceMethod yX2_slotOf, Cond.selects RX2 yX2_slotOf yX2_slotOf, Cond.code yX2_slotOf cX2_slotOf 3 (some .int), Cond.methodLink RX2 63 yX2_bringIn, Cond.instanceMethod yX2_bringIn, Cond.selects RX2 yX2_bringIn yX2_bringIn, Cond.code yX2_bringIn cX2_bringIn 3 none, Cond.methodLink RX2 35 yX2_isFull, Cond.instanceMethod yX2_isFull, Cond.selects RX2 yX2_isFull yX2_isFull]
def wsX3_makeStep_r3 : List Cond := [Cond.code yX2_isFull cX2_isFull 1 (some .boolean), Cond.methodLink RX2 39 yX2_copySlot, Cond.instanceMethod yX2_copySlot, Cond.selects RX2 yX2_copySlot yX2_copySlot, Cond.code yX2_copySlot cX2_copySlot 3 none, Cond.methodLink RX2 67 yX2_setState, Cond.instanceMethod yX2_setState, Cond.selects RX2 yX2_setState yX2_setState, Cond.code yX2_setState cX2_setState 4 none, Cond.methodLink RX2 70 yX2_setLast, Cond.instanceMethod yX2_setLast, Cond.selects RX2 yX2_setLast yX2_setLast, Cond.code yX2_setLast cX2_setLast 4 none, Cond.methodLink RX2 73 yX2_setNext, Cond.instanceMethod yX2_setNext, Cond.selects RX2 yX2_setNext yX2_setNext, Cond.code yX2_setNext cX2_setNext 4 none, Cond.methodLink RX2 76 yX2_makeDirty, Cond.instanceMethod yX2_makeDirty, Cond.selects RX2 yX2_makeDirty yX2_makeDirty, Cond.code yX2_makeDirty cX2_makeDirty 3 none, Cond.methodLink RX2 43 yX1_hasPage, Cond.static yX1_hasPage, Cond.initialized RX1]
def wsX3_makeStep_r4 : List Cond := [Cond.code yX1_hasPage cX1_hasPage 1 (some .boolean), Cond.methodLink RX3 91 yX3_takeIntoTables, Cond.instanceMethod yX3_takeIntoTables, Cond.selects RX3 yX3_takeIntoTables yX3_takeIntoTables, Cond.code yX3_takeIntoTables cX3_takeIntoTables 4 none, Cond.methodLink RX3 65 yX2_bringIn, Cond.methodLink RX3 178 yX2_setLast, Cond.methodLink RX3 182 yX2_setNext, Cond.methodLink RX3 185 yX2_makeDirty, Cond.methodLink RX3 188 yX2_setState, Cond.methodLink RX3 191 yX2_takeOut, Cond.instanceMethod yX2_takeOut, Cond.selects RX2 yX2_takeOut yX2_takeOut, Cond.code yX2_takeOut cX2_takeOut 4 none, Cond.methodLink RX3 201 yX3_doAgainOrPassOver, Cond.instanceMethod yX3_doAgainOrPassOver, Cond.selects RX3 yX3_doAgainOrPassOver yX3_doAgainOrPassOver, Cond.code yX3_doAgainOrPassOver cX3_doAgainOrPassOver 4 none, Cond.fieldLink RX3 19 "RestartBook" "pages" "LRestartBook$Pages;", Cond.fieldLink RX3 52 "RestartBook" "doneAgain" "I", Cond.fieldLink RX3 55 "RestartBook" "passedOver" "I", Cond.methodLink RX3 219 yX0_changesPage, Cond.instanceMethod yX0_changesPage, Cond.selects RX0 yX0_changesPage yX0_changesPage]
def wsX3_makeStep_r5 : List Cond := [Cond.code yX0_changesPage cX0_changesPage 3 (some .boolean), Cond.methodLink RX0 27 yX0_read, Cond.methodLink RX3 111 yX2_baseOf, Cond.instanceMethod yX2_baseOf, Cond.selects RX2 yX2_baseOf yX2_baseOf, Cond.code yX2_baseOf cX2_baseOf 2 (some .int), Cond.methodLink RX3 114 yX1_markOf, Cond.instanceMethod yX1_markOf, Cond.selects RX1 yX1_markOf yX1_markOf, Cond.code yX1_markOf cX1_markOf 2 (some .int), Cond.fieldLink RX1 13 "RestartBook$Pages" "marks" "[I", Cond.methodLink RX1 26 yX1_hasPage, Cond.methodLink RX3 94 yX3_carryOut, Cond.instanceMethod yX3_carryOut, Cond.selects RX3 yX3_carryOut yX3_carryOut, Cond.code yX3_carryOut cX3_carryOut 2 none, Cond.methodLink RX3 194 yX1_change, Cond.instanceMethod yX1_change, Cond.selects RX1 yX1_change yX1_change, Cond.code yX1_change cX1_change 5 none, Cond.fieldLink RX1 9 "RestartBook$Pages" "words" "[I", Cond.methodLink RX1 22 yX1_hasPlace, Cond.static yX1_hasPlace, Cond.code yX1_hasPlace cX1_hasPlace 2 (some .boolean)]
def wsX3_makeStep_r6 : List Cond := [Cond.methodLink RX3 204 yX2_leastWorkIn, Cond.instanceMethod yX2_leastWorkIn, Cond.selects RX2 yX2_leastWorkIn yX2_leastWorkIn, Cond.code yX2_leastWorkIn cX2_leastWorkIn 3 (some .int), Cond.methodLink RX3 101 yX3_appendOfWork, Cond.instanceMethod yX3_appendOfWork, Cond.selects RX3 yX3_appendOfWork yX3_appendOfWork, Cond.code yX3_appendOfWork cX3_appendOfWork 4 (some .int), Cond.methodLink RX3 84 yX2_lastOf, Cond.instanceMethod yX2_lastOf, Cond.selects RX2 yX2_lastOf yX2_lastOf, Cond.code yX2_lastOf cX2_lastOf 3 (some .int), Cond.methodLink RX3 87 yX0_append, Cond.instanceMethod yX0_append, Cond.selects RX0 yX0_append yX0_append, Cond.code yX0_append cX0_append 9 (some .int), Cond.fieldLink RX0 20 "RestartBook$Log" "changes" "I", Cond.methodLink RX0 31 yJ7_copyOf_59c91, Cond.static yJ7_copyOf_59c91, Cond.initialized RJ7, Cond.code yJ7_copyOf_59c91 cJ7_copyOf_59c91 3 (some (.array .int)), Cond.methodLink RJ7 316 ⟨"[I", "clone", "()Ljava/lang/Object;"⟩, Cond.sameMethod "[I" "java/lang/Object" "clone" "()Ljava/lang/Object;", Cond.native ⟨"java/lang/Object", "clone", "()Ljava/lang/Object;"⟩]
def wsX3_makeStep_r7 : List Cond := [Cond.instanceMethod ⟨"java/lang/Object", "clone", "()Ljava/lang/Object;"⟩, Cond.selects "[I" ⟨"[I", "clone", "()Ljava/lang/Object;"⟩ ⟨"java/lang/Object", "clone", "()Ljava/lang/Object;"⟩, Cond.classLink RJ7 317 "[I", Cond.arrayClass .int, Cond.methodLink RJ7 304 Lib.Math.min.name, Cond.static Lib.Math.min.name, Cond.initialized "java/lang/Math", Cond.code Lib.Math.min.name Lib.Math.min.code 2 (some .int), Cond.methodLink RJ7 150 arraycopyName, Cond.native arraycopyName, Cond.static arraycopyName, Cond.initialized "java/lang/System", Cond.methodLink RX3 207 yX2_workToUndo, Cond.instanceMethod yX2_workToUndo, Cond.selects RX2 yX2_workToUndo yX2_workToUndo, Cond.code yX2_workToUndo cX2_workToUndo 4 (some .int), Cond.methodLink RX3 210 yX3_undoOrEnd, Cond.instanceMethod yX3_undoOrEnd, Cond.selects RX3 yX3_undoOrEnd yX3_undoOrEnd, Cond.code yX3_undoOrEnd cX3_undoOrEnd 2 none, Cond.fieldLink RX3 58 "RestartBook" "undone" "I", Cond.methodLink RX3 162 yX2_nextOf, Cond.instanceMethod yX2_nextOf, Cond.selects RX2 yX2_nextOf yX2_nextOf]
def wsX3_makeStep_r8 : List Cond := [Cond.code yX2_nextOf cX2_nextOf 3 (some .int), Cond.methodLink RX3 172 yX3_undoNext, Cond.instanceMethod yX3_undoNext, Cond.selects RX3 yX3_undoNext yX3_undoNext, Cond.code yX3_undoNext cX3_undoNext 4 none, Cond.methodLink RX3 175 yX0_undoingBehind, Cond.instanceMethod yX0_undoingBehind, Cond.selects RX0 yX0_undoingBehind yX0_undoingBehind, Cond.code yX0_undoingBehind cX0_undoingBehind 3 (some .int), Cond.methodLink RX3 144 yX3_passOverPartsWithoutSteps, Cond.instanceMethod yX3_passOverPartsWithoutSteps, Cond.selects RX3 yX3_passOverPartsWithoutSteps yX3_passOverPartsWithoutSteps, Cond.code yX3_passOverPartsWithoutSteps cX3_passOverPartsWithoutSteps 2 none, Cond.methodLink RX3 147 yX0_recordsHeld, Cond.instanceMethod yX0_recordsHeld, Cond.selects RX0 yX0_recordsHeld yX0_recordsHeld, Cond.code yX0_recordsHeld cX0_recordsHeld 1 (some .int), Cond.methodLink RX3 213 yX2_leastBase, Cond.instanceMethod yX2_leastBase, Cond.selects RX2 yX2_leastBase yX2_leastBase, Cond.code yX2_leastBase cX2_leastBase 3 (some .int)]
def wsX3_makeStep : List Cond := .code yX3_makeStep cX3_makeStep 1 none :: ((wsX3_makeStep_r1 ++ (wsX3_makeStep_r2 ++ (wsX3_makeStep_r3 ++ (wsX3_makeStep_r4 ++ (wsX3_makeStep_r5 ++ (wsX3_makeStep_r6 ++ (wsX3_makeStep_r7 ++ wsX3_makeStep_r8))))))) ++ wsX30 ++ wsX00 ++ wsX20 ++ wsX10)
def wsX3_restart_r1 : List Cond := [Cond.fieldLink RX3 43 "RestartBook" "doing" "I", Cond.methodLink RX3 150 yX3_makeStep, Cond.instanceMethod yX3_makeStep, Cond.selects RX3 yX3_makeStep yX3_makeStep, Cond.initialized RX3, Cond.code yX3_makeStep cX3_makeStep 1 none, Cond.fieldLink RX3 46 "RestartBook" "nextStep" "I", Cond.fieldLink RX3 26 "RestartBook" "tables" "LRestartBook$Tables;", Cond.methodLink RX3 198 yX3_lookThrough, Cond.instanceMethod yX3_lookThrough, Cond.selects RX3 yX3_lookThrough yX3_lookThrough, Cond.code yX3_lookThrough cX3_lookThrough 2 none, Cond.fieldLink RX3 49 "RestartBook" "lookedThrough" "I", Cond.fieldLink RX3 10 "RestartBook" "log" "LRestartBook$Log;", Cond.fieldLink RX3 30 "RestartBook" "toldByPoint" "LRestartBook$Tables;", Cond.methodLink RX3 168 yX0_read, Cond.instanceMethod yX0_read, Cond.selects RX0 yX0_read yX0_read, Cond.initialized RX0, Cond.code yX0_read cX0_read 3 (some .int), Cond.fieldLink RX0 9 "RestartBook$Log" "cells" "[I", Cond.methodLink RX0 23 yX0_holds, Cond.instanceMethod yX0_holds, Cond.selects RX0 yX0_holds yX0_holds]
def wsX3_restart_r2 : List Cond := [Cond.code yX0_holds cX0_holds 2 (some .boolean), Cond.fieldLink RX0 13 "RestartBook$Log" "records" "I", Cond.methodLink RX3 216 yX2_bringInMissing, Cond.instanceMethod yX2_bringInMissing, Cond.selects RX2 yX2_bringInMissing yX2_bringInMissing, Cond.initialized RX2, Cond.code yX2_bringInMissing cX2_bringInMissing 4 none, Cond.fieldLink RX2 7 "RestartBook$Tables" "size" "I", Cond.fieldLink RX2 13 "RestartBook$Tables" "works" "[I", Cond.fieldLink RX2 17 "RestartBook$Tables" "states" "[I", Cond.fieldLink RX2 20 "RestartBook$Tables" "lasts" "[I", Cond.fieldLink RX2 23 "RestartBook$Tables" "nexts" "[I", Cond.fieldLink RX2 28 "RestartBook$Tables" "bases" "[I", Cond.methodLink RX2 60 yX2_holds, Cond.instanceMethod yX2_holds, Cond.selects RX2 yX2_holds yX2_holds, Cond.code yX2_holds cX2_holds 2 (some .boolean), Cond.methodLink RX2 31 yX2_slotOf, Cond.instanceMethod yX2_slotOf, Cond.selects RX2 yX2_slotOf yX2_slotOf, Cond.code yX2_slotOf cX2_slotOf 3 (some .int), Cond.methodLink RX2 63 yX2_bringIn, Cond.instanceMethod yX2_bringIn, Cond.selects RX2 yX2_bringIn yX2_bringIn]
def wsX3_restart_r3 : List Cond := [Cond.code yX2_bringIn cX2_bringIn 3 none, Cond.methodLink RX2 35 yX2_isFull, Cond.instanceMethod yX2_isFull, Cond.selects RX2 yX2_isFull yX2_isFull, Cond.code yX2_isFull cX2_isFull 1 (some .boolean), Cond.methodLink RX2 39 yX2_copySlot, Cond.instanceMethod yX2_copySlot, Cond.selects RX2 yX2_copySlot yX2_copySlot, Cond.code yX2_copySlot cX2_copySlot 3 none, Cond.methodLink RX2 67 yX2_setState, Cond.instanceMethod yX2_setState, Cond.selects RX2 yX2_setState yX2_setState, Cond.code yX2_setState cX2_setState 4 none, Cond.methodLink RX2 70 yX2_setLast, Cond.instanceMethod yX2_setLast, Cond.selects RX2 yX2_setLast yX2_setLast, Cond.code yX2_setLast cX2_setLast 4 none, Cond.methodLink RX2 73 yX2_setNext, Cond.instanceMethod yX2_setNext, Cond.selects RX2 yX2_setNext yX2_setNext, Cond.code yX2_setNext cX2_setNext 4 none, Cond.methodLink RX2 76 yX2_makeDirty, Cond.instanceMethod yX2_makeDirty, Cond.selects RX2 yX2_makeDirty yX2_makeDirty]
def wsX3_restart_r4 : List Cond := [Cond.code yX2_makeDirty cX2_makeDirty 3 none, Cond.methodLink RX2 43 yX1_hasPage, Cond.static yX1_hasPage, Cond.initialized RX1, Cond.code yX1_hasPage cX1_hasPage 1 (some .boolean), Cond.methodLink RX3 91 yX3_takeIntoTables, Cond.instanceMethod yX3_takeIntoTables, Cond.selects RX3 yX3_takeIntoTables yX3_takeIntoTables, Cond.code yX3_takeIntoTables cX3_takeIntoTables 4 none, Cond.methodLink RX3 65 yX2_bringIn, Cond.methodLink RX3 178 yX2_setLast, Cond.methodLink RX3 182 yX2_setNext, Cond.methodLink RX3 185 yX2_makeDirty, Cond.methodLink RX3 188 yX2_setState, Cond.methodLink RX3 191 yX2_takeOut, Cond.instanceMethod yX2_takeOut, Cond.selects RX2 yX2_takeOut yX2_takeOut, Cond.code yX2_takeOut cX2_takeOut 4 none, Cond.methodLink RX3 201 yX3_doAgainOrPassOver, Cond.instanceMethod yX3_doAgainOrPassOver, Cond.selects RX3 yX3_doAgainOrPassOver yX3_doAgainOrPassOver, Cond.code yX3_doAgainOrPassOver cX3_doAgainOrPassOver 4 none, Cond.fieldLink RX3 19 "RestartBook" "pages" "LRestartBook$Pages;", Cond.fieldLink RX3 52 "RestartBook" "doneAgain" "I"]
def wsX3_restart_r5 : List Cond := [Cond.fieldLink RX3 55 "RestartBook" "passedOver" "I", Cond.methodLink RX3 219 yX0_changesPage, Cond.instanceMethod yX0_changesPage, Cond.selects RX0 yX0_changesPage yX0_changesPage, Cond.code yX0_changesPage cX0_changesPage 3 (some .boolean), Cond.methodLink RX0 27 yX0_read, Cond.methodLink RX3 111 yX2_baseOf, Cond.instanceMethod yX2_baseOf, Cond.selects RX2 yX2_baseOf yX2_baseOf, Cond.code yX2_baseOf cX2_baseOf 2 (some .int), Cond.methodLink RX3 114 yX1_markOf, Cond.instanceMethod yX1_markOf, Cond.selects RX1 yX1_markOf yX1_markOf, Cond.code yX1_markOf cX1_markOf 2 (some .int), Cond.fieldLink RX1 13 "RestartBook$Pages" "marks" "[I", Cond.methodLink RX1 26 yX1_hasPage, Cond.methodLink RX3 94 yX3_carryOut, Cond.instanceMethod yX3_carryOut, Cond.selects RX3 yX3_carryOut yX3_carryOut, Cond.code yX3_carryOut cX3_carryOut 2 none, Cond.methodLink RX3 194 yX1_change, Cond.instanceMethod yX1_change, Cond.selects RX1 yX1_change yX1_change, Cond.code yX1_change cX1_change 5 none]
def wsX3_restart_r6 : List Cond := [Cond.fieldLink RX1 9 "RestartBook$Pages" "words" "[I", Cond.methodLink RX1 22 yX1_hasPlace, Cond.static yX1_hasPlace, Cond.code yX1_hasPlace cX1_hasPlace 2 (some .boolean), Cond.methodLink RX3 204 yX2_leastWorkIn, Cond.instanceMethod yX2_leastWorkIn, Cond.selects RX2 yX2_leastWorkIn yX2_leastWorkIn, Cond.code yX2_leastWorkIn cX2_leastWorkIn 3 (some .int), Cond.methodLink RX3 101 yX3_appendOfWork, Cond.instanceMethod yX3_appendOfWork, Cond.selects RX3 yX3_appendOfWork yX3_appendOfWork, Cond.code yX3_appendOfWork cX3_appendOfWork 4 (some .int), Cond.methodLink RX3 84 yX2_lastOf, Cond.instanceMethod yX2_lastOf, Cond.selects RX2 yX2_lastOf yX2_lastOf, Cond.code yX2_lastOf cX2_lastOf 3 (some .int), Cond.methodLink RX3 87 yX0_append, Cond.instanceMethod yX0_append, Cond.selects RX0 yX0_append yX0_append, Cond.code yX0_append cX0_append 9 (some .int), Cond.fieldLink RX0 20 "RestartBook$Log" "changes" "I", Cond.methodLink RX0 31 yJ7_copyOf_59c91, Cond.static yJ7_copyOf_59c91, Cond.initialized RJ7]
def wsX3_restart_r7 : List Cond := [Cond.code yJ7_copyOf_59c91 cJ7_copyOf_59c91 3 (some (.array .int)), Cond.methodLink RJ7 316 ⟨"[I", "clone", "()Ljava/lang/Object;"⟩, Cond.sameMethod "[I" "java/lang/Object" "clone" "()Ljava/lang/Object;", Cond.native ⟨"java/lang/Object", "clone", "()Ljava/lang/Object;"⟩, Cond.instanceMethod ⟨"java/lang/Object", "clone", "()Ljava/lang/Object;"⟩, Cond.selects "[I" ⟨"[I", "clone", "()Ljava/lang/Object;"⟩ ⟨"java/lang/Object", "clone", "()Ljava/lang/Object;"⟩, Cond.classLink RJ7 317 "[I", Cond.arrayClass .int, Cond.methodLink RJ7 304 Lib.Math.min.name, Cond.static Lib.Math.min.name, Cond.initialized "java/lang/Math", Cond.code Lib.Math.min.name Lib.Math.min.code 2 (some .int), Cond.methodLink RJ7 150 arraycopyName, Cond.native arraycopyName, Cond.static arraycopyName, Cond.initialized "java/lang/System", Cond.methodLink RX3 207 yX2_workToUndo, Cond.instanceMethod yX2_workToUndo, Cond.selects RX2 yX2_workToUndo yX2_workToUndo, Cond.code yX2_workToUndo cX2_workToUndo 4 (some .int), Cond.methodLink RX3 210 yX3_undoOrEnd, Cond.instanceMethod yX3_undoOrEnd, Cond.selects RX3 yX3_undoOrEnd yX3_undoOrEnd, Cond.code yX3_undoOrEnd cX3_undoOrEnd 2 none]
def wsX3_restart_r8 : List Cond := [Cond.fieldLink RX3 58 "RestartBook" "undone" "I", Cond.methodLink RX3 162 yX2_nextOf, Cond.instanceMethod yX2_nextOf, Cond.selects RX2 yX2_nextOf yX2_nextOf, Cond.code yX2_nextOf cX2_nextOf 3 (some .int), Cond.methodLink RX3 172 yX3_undoNext, Cond.instanceMethod yX3_undoNext, Cond.selects RX3 yX3_undoNext yX3_undoNext, Cond.code yX3_undoNext cX3_undoNext 4 none, Cond.methodLink RX3 175 yX0_undoingBehind, Cond.instanceMethod yX0_undoingBehind, Cond.selects RX0 yX0_undoingBehind yX0_undoingBehind, Cond.code yX0_undoingBehind cX0_undoingBehind 3 (some .int), Cond.methodLink RX3 144 yX3_passOverPartsWithoutSteps, Cond.instanceMethod yX3_passOverPartsWithoutSteps, Cond.selects RX3 yX3_passOverPartsWithoutSteps yX3_passOverPartsWithoutSteps, Cond.code yX3_passOverPartsWithoutSteps cX3_passOverPartsWithoutSteps 2 none, Cond.methodLink RX3 147 yX0_recordsHeld, Cond.instanceMethod yX0_recordsHeld, Cond.selects RX0 yX0_recordsHeld yX0_recordsHeld, Cond.code yX0_recordsHeld cX0_recordsHeld 1 (some .int), Cond.methodLink RX3 213 yX2_leastBase, Cond.instanceMethod yX2_leastBase, Cond.selects RX2 yX2_leastBase yX2_leastBase]
def wsX3_restart_r9 : List Cond := [Cond.code yX2_leastBase cX2_leastBase 3 (some .int)]
def wsX3_restart : List Cond := .code yX3_restart cX3_restart 3 (some .int) :: ((wsX3_restart_r1 ++ (wsX3_restart_r2 ++ (wsX3_restart_r3 ++ (wsX3_restart_r4 ++ (wsX3_restart_r5 ++ (wsX3_restart_r6 ++ (wsX3_restart_r7 ++ (wsX3_restart_r8 ++ wsX3_restart_r9)))))))) ++ wsX30 ++ wsX00 ++ wsX20 ++ wsX10)
def wsX3_part : List Cond := .code yX3_part cX3_part 1 (some .int) :: ([.fieldLink RX3 43 "RestartBook" "doing" "I"] ++ wsX30)
def wsX3_word : List Cond := .code yX3_word cX3_word 3 (some .int) :: ([.fieldLink RX3 19 "RestartBook" "pages" "LRestartBook$Pages;", .methodLink RX3 153 yX1_valueOf, .instanceMethod yX1_valueOf, .selects RX1 yX1_valueOf yX1_valueOf, .initialized RX1, .code yX1_valueOf cX1_valueOf 3 (some .int), .fieldLink RX1 9 "RestartBook$Pages" "words" "[I", .methodLink RX1 22 yX1_hasPlace, .static yX1_hasPlace, .code yX1_hasPlace cX1_hasPlace 2 (some .boolean)] ++ wsX30 ++ wsX10)
def wsX3_page : List Cond := .code yX3_page cX3_page 3 (some .int) :: ([.fieldLink RX3 19 "RestartBook" "pages" "LRestartBook$Pages;", .fieldLink RX3 26 "RestartBook" "tables" "LRestartBook$Tables;", .methodLink RX3 107 yX1_hasPage, .static yX1_hasPage, .initialized RX1, .code yX1_hasPage cX1_hasPage 1 (some .boolean), .methodLink RX3 114 yX1_markOf, .instanceMethod yX1_markOf, .selects RX1 yX1_markOf yX1_markOf, .code yX1_markOf cX1_markOf 2 (some .int), .fieldLink RX1 13 "RestartBook$Pages" "marks" "[I", .methodLink RX1 26 yX1_hasPage, .methodLink RX3 111 yX2_baseOf, .instanceMethod yX2_baseOf, .selects RX2 yX2_baseOf yX2_baseOf, .initialized RX2, .code yX2_baseOf cX2_baseOf 2 (some .int), .fieldLink RX2 28 "RestartBook$Tables" "bases" "[I", .methodLink RX2 43 yX1_hasPage, .methodLink RX3 156 yX1_mediumMarkOf, .instanceMethod yX1_mediumMarkOf, .selects RX1 yX1_mediumMarkOf yX1_mediumMarkOf, .code yX1_mediumMarkOf cX1_mediumMarkOf 2 (some .int), .fieldLink RX1 19 "RestartBook$Pages" "mediumMarks" "[I"] ++ wsX30 ++ wsX10 ++ wsX20)
def wsX3_table_r1 : List Cond := [Cond.fieldLink RX3 26 "RestartBook" "tables" "LRestartBook$Tables;", Cond.methodLink RX3 159 yX2_workAt, Cond.instanceMethod yX2_workAt, Cond.selects RX2 yX2_workAt yX2_workAt, Cond.initialized RX2, Cond.code yX2_workAt cX2_workAt 2 (some .int), Cond.fieldLink RX2 7 "RestartBook$Tables" "size" "I", Cond.fieldLink RX2 13 "RestartBook$Tables" "works" "[I", Cond.methodLink RX3 77 yX2_stateOf, Cond.instanceMethod yX2_stateOf, Cond.selects RX2 yX2_stateOf yX2_stateOf, Cond.code yX2_stateOf cX2_stateOf 3 (some .int), Cond.fieldLink RX2 17 "RestartBook$Tables" "states" "[I", Cond.methodLink RX2 31 yX2_slotOf, Cond.instanceMethod yX2_slotOf, Cond.selects RX2 yX2_slotOf yX2_slotOf, Cond.code yX2_slotOf cX2_slotOf 3 (some .int), Cond.methodLink RX3 84 yX2_lastOf, Cond.instanceMethod yX2_lastOf, Cond.selects RX2 yX2_lastOf yX2_lastOf, Cond.code yX2_lastOf cX2_lastOf 3 (some .int), Cond.fieldLink RX2 20 "RestartBook$Tables" "lasts" "[I", Cond.methodLink RX3 162 yX2_nextOf, Cond.instanceMethod yX2_nextOf]
def wsX3_table_r2 : List Cond := [Cond.selects RX2 yX2_nextOf yX2_nextOf, Cond.code yX2_nextOf cX2_nextOf 3 (some .int), Cond.fieldLink RX2 23 "RestartBook$Tables" "nexts" "[I"]
def wsX3_table : List Cond := .code yX3_table cX3_table 4 (some .int) :: ((wsX3_table_r1 ++ wsX3_table_r2) ++ wsX30 ++ wsX20)
def wsX3_record : List Cond := .code yX3_record cX3_record 3 (some .int) :: ([.fieldLink RX3 10 "RestartBook" "log" "LRestartBook$Log;", .methodLink RX3 165 yX0_holds, .instanceMethod yX0_holds, .selects RX0 yX0_holds yX0_holds, .initialized RX0, .code yX0_holds cX0_holds 2 (some .boolean), .fieldLink RX0 13 "RestartBook$Log" "records" "I", .methodLink RX3 168 yX0_read, .instanceMethod yX0_read, .selects RX0 yX0_read yX0_read, .code yX0_read cX0_read 3 (some .int), .fieldLink RX0 9 "RestartBook$Log" "cells" "[I", .methodLink RX0 23 yX0_holds] ++ wsX30 ++ wsX00)
def wsX3_count : List Cond := .code yX3_count cX3_count 2 (some .int) :: ([.fieldLink RX3 10 "RestartBook" "log" "LRestartBook$Log;", .fieldLink RX3 49 "RestartBook" "lookedThrough" "I", .fieldLink RX3 52 "RestartBook" "doneAgain" "I", .fieldLink RX3 55 "RestartBook" "passedOver" "I", .fieldLink RX3 58 "RestartBook" "undone" "I", .methodLink RX3 147 yX0_recordsHeld, .instanceMethod yX0_recordsHeld, .selects RX0 yX0_recordsHeld yX0_recordsHeld, .initialized RX0, .code yX0_recordsHeld cX0_recordsHeld 1 (some .int), .fieldLink RX0 13 "RestartBook$Log" "records" "I", .methodLink RX3 123 yX0_forcedHeld, .instanceMethod yX0_forcedHeld, .selects RX0 yX0_forcedHeld yX0_forcedHeld, .code yX0_forcedHeld cX0_forcedHeld 1 (some .int), .fieldLink RX0 17 "RestartBook$Log" "forced" "I"] ++ wsX30 ++ wsX00)
def wsX4_init : List Cond := .code yX4_init cX4_init 2 none :: ([.methodLink RX4 1 objectInit, .instanceMethod objectInit, .code objectInit ⟨#[0xb1]⟩ 1 none, .arrayClass .int, .fieldLink RX4 7 "RestartBookModel" "kinds" "[I", .fieldLink RX4 13 "RestartBookModel" "whose" "[I", .fieldLink RX4 16 "RestartBookModel" "befores" "[I", .fieldLink RX4 19 "RestartBookModel" "pages" "[I", .fieldLink RX4 22 "RestartBookModel" "words" "[I", .fieldLink RX4 25 "RestartBookModel" "sums" "[I", .fieldLink RX4 28 "RestartBookModel" "goals" "[I", .fieldLink RX4 31 "RestartBookModel" "pointStates" "[I", .fieldLink RX4 34 "RestartBookModel" "pointLasts" "[I", .fieldLink RX4 37 "RestartBookModel" "pointNexts" "[I", .fieldLink RX4 40 "RestartBookModel" "pointBases" "[I", .fieldLink RX4 43 "RestartBookModel" "memory" "[I", .fieldLink RX4 46 "RestartBookModel" "marks" "[I", .fieldLink RX4 49 "RestartBookModel" "bases" "[I", .fieldLink RX4 52 "RestartBookModel" "medium" "[I", .fieldLink RX4 55 "RestartBookModel" "mediumMarks" "[I", .fieldLink RX4 58 "RestartBookModel" "states" "[I", .fieldLink RX4 61 "RestartBookModel" "lasts" "[I", .fieldLink RX4 64 "RestartBookModel" "nexts" "[I", .fieldLink RX4 67 "RestartBookModel" "counts" "[I"] ++ wsX40)
def wsX4_in : List Cond := .code yX4_in cX4_in 3 (some .boolean) :: ([])
def wsX4_isWork : List Cond := .code yX4_isWork cX4_isWork 2 (some .boolean) :: ([.fieldLink RX4 70 "RestartBookModel" "works" "I", .fieldLink RX4 58 "RestartBookModel" "states" "[I", .methodLink RX4 74 yX4_in, .static yX4_in, .initialized RX4, .code yX4_in cX4_in 3 (some .boolean)] ++ wsX40)
def wsX4_many : List Cond := .code yX4_many cX4_many 3 (some .int) :: ([.fieldLink RX4 70 "RestartBookModel" "works" "I", .fieldLink RX4 58 "RestartBookModel" "states" "[I"] ++ wsX40)
def wsX4_note : List Cond := .code yX4_note cX4_note 3 (some .int) :: ([.fieldLink RX4 78 "RestartBookModel" "records" "I", .fieldLink RX4 7 "RestartBookModel" "kinds" "[I", .fieldLink RX4 13 "RestartBookModel" "whose" "[I", .fieldLink RX4 16 "RestartBookModel" "befores" "[I", .fieldLink RX4 61 "RestartBookModel" "lasts" "[I", .fieldLink RX4 19 "RestartBookModel" "pages" "[I", .fieldLink RX4 22 "RestartBookModel" "words" "[I", .fieldLink RX4 25 "RestartBookModel" "sums" "[I", .fieldLink RX4 28 "RestartBookModel" "goals" "[I"] ++ wsX40)
def wsX4_forceTo : List Cond := .code yX4_forceTo cX4_forceTo 3 none :: ([.fieldLink RX4 78 "RestartBookModel" "records" "I", .fieldLink RX4 81 "RestartBookModel" "forced" "I"] ++ wsX40)
def wsX4_makeDirty : List Cond := .code yX4_makeDirty cX4_makeDirty 3 none :: ([.fieldLink RX4 49 "RestartBookModel" "bases" "[I"] ++ wsX40)
def wsX4_apply : List Cond := .code yX4_apply cX4_apply 3 none :: ([.fieldLink RX4 19 "RestartBookModel" "pages" "[I", .fieldLink RX4 43 "RestartBookModel" "memory" "[I", .fieldLink RX4 22 "RestartBookModel" "words" "[I", .fieldLink RX4 25 "RestartBookModel" "sums" "[I", .fieldLink RX4 46 "RestartBookModel" "marks" "[I"] ++ wsX40)
def wsX4_open : List Cond := .code yX4_open cX4_open 3 (some .int) :: ([.fieldLink RX4 7 "RestartBookModel" "kinds" "[I", .fieldLink RX4 16 "RestartBookModel" "befores" "[I", .fieldLink RX4 28 "RestartBookModel" "goals" "[I"] ++ wsX40)
def wsX4_giveBack_r1 : List Cond := [Cond.fieldLink RX4 64 "RestartBookModel" "nexts" "[I", Cond.fieldLink RX4 19 "RestartBookModel" "pages" "[I", Cond.fieldLink RX4 22 "RestartBookModel" "words" "[I", Cond.fieldLink RX4 25 "RestartBookModel" "sums" "[I", Cond.fieldLink RX4 28 "RestartBookModel" "goals" "[I", Cond.fieldLink RX4 16 "RestartBookModel" "befores" "[I", Cond.methodLink RX4 84 yX4_note, Cond.instanceMethod yX4_note, Cond.selects RX4 yX4_note yX4_note, Cond.initialized RX4, Cond.code yX4_note cX4_note 3 (some .int), Cond.fieldLink RX4 78 "RestartBookModel" "records" "I", Cond.fieldLink RX4 7 "RestartBookModel" "kinds" "[I", Cond.fieldLink RX4 13 "RestartBookModel" "whose" "[I", Cond.fieldLink RX4 61 "RestartBookModel" "lasts" "[I", Cond.methodLink RX4 88 yX4_open, Cond.instanceMethod yX4_open, Cond.selects RX4 yX4_open yX4_open, Cond.code yX4_open cX4_open 3 (some .int), Cond.methodLink RX4 92 yX4_makeDirty, Cond.instanceMethod yX4_makeDirty, Cond.selects RX4 yX4_makeDirty yX4_makeDirty, Cond.code yX4_makeDirty cX4_makeDirty 3 none, Cond.fieldLink RX4 49 "RestartBookModel" "bases" "[I"]
def wsX4_giveBack_r2 : List Cond := [Cond.methodLink RX4 96 yX4_apply, Cond.instanceMethod yX4_apply, Cond.selects RX4 yX4_apply yX4_apply, Cond.code yX4_apply cX4_apply 3 none, Cond.fieldLink RX4 43 "RestartBookModel" "memory" "[I", Cond.fieldLink RX4 46 "RestartBookModel" "marks" "[I"]
def wsX4_giveBack : List Cond := .code yX4_giveBack cX4_giveBack 4 none :: ((wsX4_giveBack_r1 ++ wsX4_giveBack_r2) ++ wsX40)
def wsX4_undoTo_r1 : List Cond := [Cond.fieldLink RX4 64 "RestartBookModel" "nexts" "[I", Cond.methodLink RX4 100 yX4_giveBack, Cond.instanceMethod yX4_giveBack, Cond.selects RX4 yX4_giveBack yX4_giveBack, Cond.initialized RX4, Cond.code yX4_giveBack cX4_giveBack 4 none, Cond.fieldLink RX4 19 "RestartBookModel" "pages" "[I", Cond.fieldLink RX4 22 "RestartBookModel" "words" "[I", Cond.fieldLink RX4 25 "RestartBookModel" "sums" "[I", Cond.fieldLink RX4 28 "RestartBookModel" "goals" "[I", Cond.fieldLink RX4 16 "RestartBookModel" "befores" "[I", Cond.methodLink RX4 84 yX4_note, Cond.instanceMethod yX4_note, Cond.selects RX4 yX4_note yX4_note, Cond.code yX4_note cX4_note 3 (some .int), Cond.fieldLink RX4 78 "RestartBookModel" "records" "I", Cond.fieldLink RX4 7 "RestartBookModel" "kinds" "[I", Cond.fieldLink RX4 13 "RestartBookModel" "whose" "[I", Cond.fieldLink RX4 61 "RestartBookModel" "lasts" "[I", Cond.methodLink RX4 88 yX4_open, Cond.instanceMethod yX4_open, Cond.selects RX4 yX4_open yX4_open, Cond.code yX4_open cX4_open 3 (some .int), Cond.methodLink RX4 92 yX4_makeDirty]
def wsX4_undoTo_r2 : List Cond := [Cond.instanceMethod yX4_makeDirty, Cond.selects RX4 yX4_makeDirty yX4_makeDirty, Cond.code yX4_makeDirty cX4_makeDirty 3 none, Cond.fieldLink RX4 49 "RestartBookModel" "bases" "[I", Cond.methodLink RX4 96 yX4_apply, Cond.instanceMethod yX4_apply, Cond.selects RX4 yX4_apply yX4_apply, Cond.code yX4_apply cX4_apply 3 none, Cond.fieldLink RX4 43 "RestartBookModel" "memory" "[I", Cond.fieldLink RX4 46 "RestartBookModel" "marks" "[I"]
def wsX4_undoTo : List Cond := .code yX4_undoTo cX4_undoTo 4 (some .int) :: ((wsX4_undoTo_r1 ++ wsX4_undoTo_r2) ++ wsX40)
def wsX4_end : List Cond := .code yX4_end cX4_end 3 none :: ([.fieldLink RX4 58 "RestartBookModel" "states" "[I", .methodLink RX4 84 yX4_note, .instanceMethod yX4_note, .selects RX4 yX4_note yX4_note, .initialized RX4, .code yX4_note cX4_note 3 (some .int), .fieldLink RX4 78 "RestartBookModel" "records" "I", .fieldLink RX4 7 "RestartBookModel" "kinds" "[I", .fieldLink RX4 13 "RestartBookModel" "whose" "[I", .fieldLink RX4 16 "RestartBookModel" "befores" "[I", .fieldLink RX4 61 "RestartBookModel" "lasts" "[I", .fieldLink RX4 19 "RestartBookModel" "pages" "[I", .fieldLink RX4 22 "RestartBookModel" "words" "[I", .fieldLink RX4 25 "RestartBookModel" "sums" "[I", .fieldLink RX4 28 "RestartBookModel" "goals" "[I"] ++ wsX40)
def wsX4_begin : List Cond := .code yX4_begin cX4_begin 1 (some .int) :: ([.fieldLink RX4 103 "RestartBookModel" "doing" "I", .fieldLink RX4 70 "RestartBookModel" "works" "I", .fieldLink RX4 58 "RestartBookModel" "states" "[I", .fieldLink RX4 61 "RestartBookModel" "lasts" "[I", .fieldLink RX4 64 "RestartBookModel" "nexts" "[I", .methodLink RX4 106 yX4_many, .instanceMethod yX4_many, .selects RX4 yX4_many yX4_many, .initialized RX4, .code yX4_many cX4_many 3 (some .int)] ++ wsX40)
def wsX4_add_r1 : List Cond := [Cond.fieldLink RX4 103 "RestartBookModel" "doing" "I", Cond.fieldLink RX4 58 "RestartBookModel" "states" "[I", Cond.fieldLink RX4 114 "RestartBookModel" "changes" "I", Cond.fieldLink RX4 19 "RestartBookModel" "pages" "[I", Cond.fieldLink RX4 22 "RestartBookModel" "words" "[I", Cond.fieldLink RX4 25 "RestartBookModel" "sums" "[I", Cond.fieldLink RX4 64 "RestartBookModel" "nexts" "[I", Cond.methodLink RX4 110 yX4_isWork, Cond.instanceMethod yX4_isWork, Cond.selects RX4 yX4_isWork yX4_isWork, Cond.initialized RX4, Cond.code yX4_isWork cX4_isWork 2 (some .boolean), Cond.fieldLink RX4 70 "RestartBookModel" "works" "I", Cond.methodLink RX4 74 yX4_in, Cond.static yX4_in, Cond.code yX4_in cX4_in 3 (some .boolean), Cond.methodLink RX4 84 yX4_note, Cond.instanceMethod yX4_note, Cond.selects RX4 yX4_note yX4_note, Cond.code yX4_note cX4_note 3 (some .int), Cond.fieldLink RX4 78 "RestartBookModel" "records" "I", Cond.fieldLink RX4 7 "RestartBookModel" "kinds" "[I", Cond.fieldLink RX4 13 "RestartBookModel" "whose" "[I", Cond.fieldLink RX4 16 "RestartBookModel" "befores" "[I"]
def wsX4_add_r2 : List Cond := [Cond.fieldLink RX4 61 "RestartBookModel" "lasts" "[I", Cond.fieldLink RX4 28 "RestartBookModel" "goals" "[I", Cond.methodLink RX4 92 yX4_makeDirty, Cond.instanceMethod yX4_makeDirty, Cond.selects RX4 yX4_makeDirty yX4_makeDirty, Cond.code yX4_makeDirty cX4_makeDirty 3 none, Cond.fieldLink RX4 49 "RestartBookModel" "bases" "[I", Cond.methodLink RX4 96 yX4_apply, Cond.instanceMethod yX4_apply, Cond.selects RX4 yX4_apply yX4_apply, Cond.code yX4_apply cX4_apply 3 none, Cond.fieldLink RX4 43 "RestartBookModel" "memory" "[I", Cond.fieldLink RX4 46 "RestartBookModel" "marks" "[I"]
def wsX4_add : List Cond := .code yX4_add cX4_add 6 (some .int) :: ((wsX4_add_r1 ++ wsX4_add_r2) ++ wsX40)
def wsX4_back_r1 : List Cond := [Cond.fieldLink RX4 103 "RestartBookModel" "doing" "I", Cond.fieldLink RX4 61 "RestartBookModel" "lasts" "[I", Cond.fieldLink RX4 58 "RestartBookModel" "states" "[I", Cond.methodLink RX4 110 yX4_isWork, Cond.instanceMethod yX4_isWork, Cond.selects RX4 yX4_isWork yX4_isWork, Cond.initialized RX4, Cond.code yX4_isWork cX4_isWork 2 (some .boolean), Cond.fieldLink RX4 70 "RestartBookModel" "works" "I", Cond.methodLink RX4 74 yX4_in, Cond.static yX4_in, Cond.code yX4_in cX4_in 3 (some .boolean), Cond.methodLink RX4 117 yX4_undoTo, Cond.instanceMethod yX4_undoTo, Cond.selects RX4 yX4_undoTo yX4_undoTo, Cond.code yX4_undoTo cX4_undoTo 4 (some .int), Cond.fieldLink RX4 64 "RestartBookModel" "nexts" "[I", Cond.methodLink RX4 100 yX4_giveBack, Cond.instanceMethod yX4_giveBack, Cond.selects RX4 yX4_giveBack yX4_giveBack, Cond.code yX4_giveBack cX4_giveBack 4 none, Cond.fieldLink RX4 19 "RestartBookModel" "pages" "[I", Cond.fieldLink RX4 22 "RestartBookModel" "words" "[I", Cond.fieldLink RX4 25 "RestartBookModel" "sums" "[I"]
def wsX4_back_r2 : List Cond := [Cond.fieldLink RX4 28 "RestartBookModel" "goals" "[I", Cond.fieldLink RX4 16 "RestartBookModel" "befores" "[I", Cond.methodLink RX4 84 yX4_note, Cond.instanceMethod yX4_note, Cond.selects RX4 yX4_note yX4_note, Cond.code yX4_note cX4_note 3 (some .int), Cond.fieldLink RX4 78 "RestartBookModel" "records" "I", Cond.fieldLink RX4 7 "RestartBookModel" "kinds" "[I", Cond.fieldLink RX4 13 "RestartBookModel" "whose" "[I", Cond.methodLink RX4 88 yX4_open, Cond.instanceMethod yX4_open, Cond.selects RX4 yX4_open yX4_open, Cond.code yX4_open cX4_open 3 (some .int), Cond.methodLink RX4 92 yX4_makeDirty, Cond.instanceMethod yX4_makeDirty, Cond.selects RX4 yX4_makeDirty yX4_makeDirty, Cond.code yX4_makeDirty cX4_makeDirty 3 none, Cond.fieldLink RX4 49 "RestartBookModel" "bases" "[I", Cond.methodLink RX4 96 yX4_apply, Cond.instanceMethod yX4_apply, Cond.selects RX4 yX4_apply yX4_apply, Cond.code yX4_apply cX4_apply 3 none, Cond.fieldLink RX4 43 "RestartBookModel" "memory" "[I", Cond.fieldLink RX4 46 "RestartBookModel" "marks" "[I"]
def wsX4_back : List Cond := .code yX4_back cX4_back 3 (some .int) :: ((wsX4_back_r1 ++ wsX4_back_r2) ++ wsX40)
def wsX4_prepare_r1 : List Cond := [Cond.fieldLink RX4 103 "RestartBookModel" "doing" "I", Cond.fieldLink RX4 58 "RestartBookModel" "states" "[I", Cond.methodLink RX4 110 yX4_isWork, Cond.instanceMethod yX4_isWork, Cond.selects RX4 yX4_isWork yX4_isWork, Cond.initialized RX4, Cond.code yX4_isWork cX4_isWork 2 (some .boolean), Cond.fieldLink RX4 70 "RestartBookModel" "works" "I", Cond.methodLink RX4 74 yX4_in, Cond.static yX4_in, Cond.code yX4_in cX4_in 3 (some .boolean), Cond.methodLink RX4 84 yX4_note, Cond.instanceMethod yX4_note, Cond.selects RX4 yX4_note yX4_note, Cond.code yX4_note cX4_note 3 (some .int), Cond.fieldLink RX4 78 "RestartBookModel" "records" "I", Cond.fieldLink RX4 7 "RestartBookModel" "kinds" "[I", Cond.fieldLink RX4 13 "RestartBookModel" "whose" "[I", Cond.fieldLink RX4 16 "RestartBookModel" "befores" "[I", Cond.fieldLink RX4 61 "RestartBookModel" "lasts" "[I", Cond.fieldLink RX4 19 "RestartBookModel" "pages" "[I", Cond.fieldLink RX4 22 "RestartBookModel" "words" "[I", Cond.fieldLink RX4 25 "RestartBookModel" "sums" "[I", Cond.fieldLink RX4 28 "RestartBookModel" "goals" "[I"]
def wsX4_prepare_r2 : List Cond := [Cond.methodLink RX4 120 yX4_forceTo, Cond.instanceMethod yX4_forceTo, Cond.selects RX4 yX4_forceTo yX4_forceTo, Cond.code yX4_forceTo cX4_forceTo 3 none, Cond.fieldLink RX4 81 "RestartBookModel" "forced" "I"]
def wsX4_prepare : List Cond := .code yX4_prepare cX4_prepare 3 (some .int) :: ((wsX4_prepare_r1 ++ wsX4_prepare_r2) ++ wsX40)
def wsX4_commit_r1 : List Cond := [Cond.fieldLink RX4 103 "RestartBookModel" "doing" "I", Cond.methodLink RX4 110 yX4_isWork, Cond.instanceMethod yX4_isWork, Cond.selects RX4 yX4_isWork yX4_isWork, Cond.initialized RX4, Cond.code yX4_isWork cX4_isWork 2 (some .boolean), Cond.fieldLink RX4 70 "RestartBookModel" "works" "I", Cond.fieldLink RX4 58 "RestartBookModel" "states" "[I", Cond.methodLink RX4 74 yX4_in, Cond.static yX4_in, Cond.code yX4_in cX4_in 3 (some .boolean), Cond.methodLink RX4 84 yX4_note, Cond.instanceMethod yX4_note, Cond.selects RX4 yX4_note yX4_note, Cond.code yX4_note cX4_note 3 (some .int), Cond.fieldLink RX4 78 "RestartBookModel" "records" "I", Cond.fieldLink RX4 7 "RestartBookModel" "kinds" "[I", Cond.fieldLink RX4 13 "RestartBookModel" "whose" "[I", Cond.fieldLink RX4 16 "RestartBookModel" "befores" "[I", Cond.fieldLink RX4 61 "RestartBookModel" "lasts" "[I", Cond.fieldLink RX4 19 "RestartBookModel" "pages" "[I", Cond.fieldLink RX4 22 "RestartBookModel" "words" "[I", Cond.fieldLink RX4 25 "RestartBookModel" "sums" "[I", Cond.fieldLink RX4 28 "RestartBookModel" "goals" "[I"]
def wsX4_commit_r2 : List Cond := [Cond.methodLink RX4 120 yX4_forceTo, Cond.instanceMethod yX4_forceTo, Cond.selects RX4 yX4_forceTo yX4_forceTo, Cond.code yX4_forceTo cX4_forceTo 3 none, Cond.fieldLink RX4 81 "RestartBookModel" "forced" "I", Cond.methodLink RX4 123 yX4_end, Cond.instanceMethod yX4_end, Cond.selects RX4 yX4_end yX4_end, Cond.code yX4_end cX4_end 3 none]
def wsX4_commit : List Cond := .code yX4_commit cX4_commit 3 (some .int) :: ((wsX4_commit_r1 ++ wsX4_commit_r2) ++ wsX40)
def wsX4_abort_r1 : List Cond := [Cond.fieldLink RX4 103 "RestartBookModel" "doing" "I", Cond.methodLink RX4 110 yX4_isWork, Cond.instanceMethod yX4_isWork, Cond.selects RX4 yX4_isWork yX4_isWork, Cond.initialized RX4, Cond.code yX4_isWork cX4_isWork 2 (some .boolean), Cond.fieldLink RX4 70 "RestartBookModel" "works" "I", Cond.fieldLink RX4 58 "RestartBookModel" "states" "[I", Cond.methodLink RX4 74 yX4_in, Cond.static yX4_in, Cond.code yX4_in cX4_in 3 (some .boolean), Cond.methodLink RX4 84 yX4_note, Cond.instanceMethod yX4_note, Cond.selects RX4 yX4_note yX4_note, Cond.code yX4_note cX4_note 3 (some .int), Cond.fieldLink RX4 78 "RestartBookModel" "records" "I", Cond.fieldLink RX4 7 "RestartBookModel" "kinds" "[I", Cond.fieldLink RX4 13 "RestartBookModel" "whose" "[I", Cond.fieldLink RX4 16 "RestartBookModel" "befores" "[I", Cond.fieldLink RX4 61 "RestartBookModel" "lasts" "[I", Cond.fieldLink RX4 19 "RestartBookModel" "pages" "[I", Cond.fieldLink RX4 22 "RestartBookModel" "words" "[I", Cond.fieldLink RX4 25 "RestartBookModel" "sums" "[I", Cond.fieldLink RX4 28 "RestartBookModel" "goals" "[I"]
def wsX4_abort_r2 : List Cond := [Cond.methodLink RX4 117 yX4_undoTo, Cond.instanceMethod yX4_undoTo, Cond.selects RX4 yX4_undoTo yX4_undoTo, Cond.code yX4_undoTo cX4_undoTo 4 (some .int), Cond.fieldLink RX4 64 "RestartBookModel" "nexts" "[I", Cond.methodLink RX4 100 yX4_giveBack, Cond.instanceMethod yX4_giveBack, Cond.selects RX4 yX4_giveBack yX4_giveBack, Cond.code yX4_giveBack cX4_giveBack 4 none, Cond.methodLink RX4 88 yX4_open, Cond.instanceMethod yX4_open, Cond.selects RX4 yX4_open yX4_open, Cond.code yX4_open cX4_open 3 (some .int), Cond.methodLink RX4 92 yX4_makeDirty, Cond.instanceMethod yX4_makeDirty, Cond.selects RX4 yX4_makeDirty yX4_makeDirty, Cond.code yX4_makeDirty cX4_makeDirty 3 none, Cond.fieldLink RX4 49 "RestartBookModel" "bases" "[I", Cond.methodLink RX4 96 yX4_apply, Cond.instanceMethod yX4_apply, Cond.selects RX4 yX4_apply yX4_apply, Cond.code yX4_apply cX4_apply 3 none, Cond.fieldLink RX4 43 "RestartBookModel" "memory" "[I", Cond.fieldLink RX4 46 "RestartBookModel" "marks" "[I"]
def wsX4_abort_r3 : List Cond := [Cond.methodLink RX4 123 yX4_end, Cond.instanceMethod yX4_end, Cond.selects RX4 yX4_end yX4_end, Cond.code yX4_end cX4_end 3 none]
def wsX4_abort : List Cond := .code yX4_abort cX4_abort 4 (some .int) :: ((wsX4_abort_r1 ++ (wsX4_abort_r2 ++ wsX4_abort_r3)) ++ wsX40)
def wsX4_write : List Cond := .code yX4_write cX4_write 3 (some .int) :: ([.fieldLink RX4 103 "RestartBookModel" "doing" "I", .fieldLink RX4 49 "RestartBookModel" "bases" "[I", .fieldLink RX4 46 "RestartBookModel" "marks" "[I", .fieldLink RX4 52 "RestartBookModel" "medium" "[I", .fieldLink RX4 43 "RestartBookModel" "memory" "[I", .fieldLink RX4 55 "RestartBookModel" "mediumMarks" "[I", .methodLink RX4 74 yX4_in, .static yX4_in, .initialized RX4, .code yX4_in cX4_in 3 (some .boolean), .methodLink RX4 120 yX4_forceTo, .instanceMethod yX4_forceTo, .selects RX4 yX4_forceTo yX4_forceTo, .code yX4_forceTo cX4_forceTo 3 none, .fieldLink RX4 78 "RestartBookModel" "records" "I", .fieldLink RX4 81 "RestartBookModel" "forced" "I"] ++ wsX40)
def wsX4_force : List Cond := .code yX4_force cX4_force 2 (some .int) :: ([.fieldLink RX4 103 "RestartBookModel" "doing" "I", .fieldLink RX4 81 "RestartBookModel" "forced" "I", .methodLink RX4 120 yX4_forceTo, .instanceMethod yX4_forceTo, .selects RX4 yX4_forceTo yX4_forceTo, .initialized RX4, .code yX4_forceTo cX4_forceTo 3 none, .fieldLink RX4 78 "RestartBookModel" "records" "I"] ++ wsX40)
def wsX4_point_r1 : List Cond := [Cond.fieldLink RX4 103 "RestartBookModel" "doing" "I", Cond.fieldLink RX4 126 "RestartBookModel" "points" "I", Cond.fieldLink RX4 28 "RestartBookModel" "goals" "[I", Cond.fieldLink RX4 31 "RestartBookModel" "pointStates" "[I", Cond.fieldLink RX4 58 "RestartBookModel" "states" "[I", Cond.fieldLink RX4 34 "RestartBookModel" "pointLasts" "[I", Cond.fieldLink RX4 61 "RestartBookModel" "lasts" "[I", Cond.fieldLink RX4 37 "RestartBookModel" "pointNexts" "[I", Cond.fieldLink RX4 64 "RestartBookModel" "nexts" "[I", Cond.fieldLink RX4 40 "RestartBookModel" "pointBases" "[I", Cond.fieldLink RX4 49 "RestartBookModel" "bases" "[I", Cond.methodLink RX4 84 yX4_note, Cond.instanceMethod yX4_note, Cond.selects RX4 yX4_note yX4_note, Cond.initialized RX4, Cond.code yX4_note cX4_note 3 (some .int), Cond.fieldLink RX4 78 "RestartBookModel" "records" "I", Cond.fieldLink RX4 7 "RestartBookModel" "kinds" "[I", Cond.fieldLink RX4 13 "RestartBookModel" "whose" "[I", Cond.fieldLink RX4 16 "RestartBookModel" "befores" "[I", Cond.fieldLink RX4 19 "RestartBookModel" "pages" "[I", Cond.fieldLink RX4 22 "RestartBookModel" "words" "[I", Cond.fieldLink RX4 25 "RestartBookModel" "sums" "[I", Cond.methodLink RX4 120 yX4_forceTo]
def wsX4_point_r2 : List Cond := [Cond.instanceMethod yX4_forceTo, Cond.selects RX4 yX4_forceTo yX4_forceTo, Cond.code yX4_forceTo cX4_forceTo 3 none, Cond.fieldLink RX4 81 "RestartBookModel" "forced" "I"]
def wsX4_point : List Cond := .code yX4_point cX4_point 4 (some .int) :: ((wsX4_point_r1 ++ wsX4_point_r2) ++ wsX40)
def wsX4_leastBase : List Cond := .code yX4_leastBase cX4_leastBase 3 (some .int) :: ([.fieldLink RX4 78 "RestartBookModel" "records" "I", .fieldLink RX4 49 "RestartBookModel" "bases" "[I"] ++ wsX40)
def wsX4_chosen : List Cond := .code yX4_chosen cX4_chosen 5 (some .int) :: ([.fieldLink RX4 70 "RestartBookModel" "works" "I", .fieldLink RX4 103 "RestartBookModel" "doing" "I", .fieldLink RX4 58 "RestartBookModel" "states" "[I", .fieldLink RX4 64 "RestartBookModel" "nexts" "[I"] ++ wsX40)
def wsX4_passOver : List Cond := .code yX4_passOver cX4_passOver 1 none :: ([.fieldLink RX4 103 "RestartBookModel" "doing" "I", .fieldLink RX4 132 "RestartBookModel" "at" "I", .fieldLink RX4 78 "RestartBookModel" "records" "I", .methodLink RX4 138 yX4_leastBase, .instanceMethod yX4_leastBase, .selects RX4 yX4_leastBase yX4_leastBase, .initialized RX4, .code yX4_leastBase cX4_leastBase 3 (some .int), .fieldLink RX4 49 "RestartBookModel" "bases" "[I", .methodLink RX4 141 yX4_chosen, .instanceMethod yX4_chosen, .selects RX4 yX4_chosen yX4_chosen, .code yX4_chosen cX4_chosen 5 (some .int), .fieldLink RX4 70 "RestartBookModel" "works" "I", .fieldLink RX4 58 "RestartBookModel" "states" "[I", .fieldLink RX4 64 "RestartBookModel" "nexts" "[I"] ++ wsX40)
def wsX4_loss_r1 : List Cond := [Cond.fieldLink RX4 78 "RestartBookModel" "records" "I", Cond.fieldLink RX4 81 "RestartBookModel" "forced" "I", Cond.fieldLink RX4 114 "RestartBookModel" "changes" "I", Cond.fieldLink RX4 129 "RestartBookModel" "latest" "I", Cond.fieldLink RX4 132 "RestartBookModel" "at" "I", Cond.fieldLink RX4 7 "RestartBookModel" "kinds" "[I", Cond.fieldLink RX4 49 "RestartBookModel" "bases" "[I", Cond.fieldLink RX4 46 "RestartBookModel" "marks" "[I", Cond.fieldLink RX4 55 "RestartBookModel" "mediumMarks" "[I", Cond.fieldLink RX4 43 "RestartBookModel" "memory" "[I", Cond.fieldLink RX4 52 "RestartBookModel" "medium" "[I", Cond.fieldLink RX4 58 "RestartBookModel" "states" "[I", Cond.fieldLink RX4 61 "RestartBookModel" "lasts" "[I", Cond.fieldLink RX4 64 "RestartBookModel" "nexts" "[I", Cond.fieldLink RX4 103 "RestartBookModel" "doing" "I", Cond.methodLink RX4 135 yX4_passOver, Cond.instanceMethod yX4_passOver, Cond.selects RX4 yX4_passOver yX4_passOver, Cond.initialized RX4, Cond.code yX4_passOver cX4_passOver 1 none, Cond.methodLink RX4 138 yX4_leastBase, Cond.instanceMethod yX4_leastBase, Cond.selects RX4 yX4_leastBase yX4_leastBase, Cond.code yX4_leastBase cX4_leastBase 3 (some .int)]
def wsX4_loss_r2 : List Cond := [Cond.methodLink RX4 141 yX4_chosen, Cond.instanceMethod yX4_chosen, Cond.selects RX4 yX4_chosen yX4_chosen, Cond.code yX4_chosen cX4_chosen 5 (some .int), Cond.fieldLink RX4 70 "RestartBookModel" "works" "I"]
def wsX4_loss : List Cond := .code yX4_loss cX4_loss 5 (some .int) :: ((wsX4_loss_r1 ++ wsX4_loss_r2) ++ wsX40)
def wsX4_lookThrough : List Cond := .code yX4_lookThrough cX4_lookThrough 4 none :: ([.fieldLink RX4 67 "RestartBookModel" "counts" "[I", .fieldLink RX4 129 "RestartBookModel" "latest" "I", .fieldLink RX4 28 "RestartBookModel" "goals" "[I", .fieldLink RX4 58 "RestartBookModel" "states" "[I", .fieldLink RX4 31 "RestartBookModel" "pointStates" "[I", .fieldLink RX4 61 "RestartBookModel" "lasts" "[I", .fieldLink RX4 34 "RestartBookModel" "pointLasts" "[I", .fieldLink RX4 64 "RestartBookModel" "nexts" "[I", .fieldLink RX4 37 "RestartBookModel" "pointNexts" "[I", .fieldLink RX4 49 "RestartBookModel" "bases" "[I", .fieldLink RX4 40 "RestartBookModel" "pointBases" "[I", .fieldLink RX4 13 "RestartBookModel" "whose" "[I", .fieldLink RX4 7 "RestartBookModel" "kinds" "[I", .fieldLink RX4 19 "RestartBookModel" "pages" "[I", .methodLink RX4 92 yX4_makeDirty, .instanceMethod yX4_makeDirty, .selects RX4 yX4_makeDirty yX4_makeDirty, .initialized RX4, .code yX4_makeDirty cX4_makeDirty 3 none] ++ wsX40)
def wsX4_doAgain : List Cond := .code yX4_doAgain cX4_doAgain 4 none :: ([.fieldLink RX4 7 "RestartBookModel" "kinds" "[I", .fieldLink RX4 19 "RestartBookModel" "pages" "[I", .fieldLink RX4 49 "RestartBookModel" "bases" "[I", .fieldLink RX4 46 "RestartBookModel" "marks" "[I", .fieldLink RX4 67 "RestartBookModel" "counts" "[I", .methodLink RX4 96 yX4_apply, .instanceMethod yX4_apply, .selects RX4 yX4_apply yX4_apply, .initialized RX4, .code yX4_apply cX4_apply 3 none, .fieldLink RX4 43 "RestartBookModel" "memory" "[I", .fieldLink RX4 22 "RestartBookModel" "words" "[I", .fieldLink RX4 25 "RestartBookModel" "sums" "[I"] ++ wsX40)
def wsX4_step_r1 : List Cond := [Cond.fieldLink RX4 103 "RestartBookModel" "doing" "I", Cond.fieldLink RX4 132 "RestartBookModel" "at" "I", Cond.fieldLink RX4 64 "RestartBookModel" "nexts" "[I", Cond.fieldLink RX4 67 "RestartBookModel" "counts" "[I", Cond.methodLink RX4 144 yX4_lookThrough, Cond.instanceMethod yX4_lookThrough, Cond.selects RX4 yX4_lookThrough yX4_lookThrough, Cond.initialized RX4, Cond.code yX4_lookThrough cX4_lookThrough 4 none, Cond.fieldLink RX4 129 "RestartBookModel" "latest" "I", Cond.fieldLink RX4 28 "RestartBookModel" "goals" "[I", Cond.fieldLink RX4 58 "RestartBookModel" "states" "[I", Cond.fieldLink RX4 31 "RestartBookModel" "pointStates" "[I", Cond.fieldLink RX4 61 "RestartBookModel" "lasts" "[I", Cond.fieldLink RX4 34 "RestartBookModel" "pointLasts" "[I", Cond.fieldLink RX4 37 "RestartBookModel" "pointNexts" "[I", Cond.fieldLink RX4 49 "RestartBookModel" "bases" "[I", Cond.fieldLink RX4 40 "RestartBookModel" "pointBases" "[I", Cond.fieldLink RX4 13 "RestartBookModel" "whose" "[I", Cond.fieldLink RX4 7 "RestartBookModel" "kinds" "[I", Cond.fieldLink RX4 19 "RestartBookModel" "pages" "[I", Cond.methodLink RX4 92 yX4_makeDirty, Cond.instanceMethod yX4_makeDirty, Cond.selects RX4 yX4_makeDirty yX4_makeDirty]
def wsX4_step_r2 : List Cond := [Cond.code yX4_makeDirty cX4_makeDirty 3 none, Cond.methodLink RX4 147 yX4_doAgain, Cond.instanceMethod yX4_doAgain, Cond.selects RX4 yX4_doAgain yX4_doAgain, Cond.code yX4_doAgain cX4_doAgain 4 none, Cond.fieldLink RX4 46 "RestartBookModel" "marks" "[I", Cond.methodLink RX4 96 yX4_apply, Cond.instanceMethod yX4_apply, Cond.selects RX4 yX4_apply yX4_apply, Cond.code yX4_apply cX4_apply 3 none, Cond.fieldLink RX4 43 "RestartBookModel" "memory" "[I", Cond.fieldLink RX4 22 "RestartBookModel" "words" "[I", Cond.fieldLink RX4 25 "RestartBookModel" "sums" "[I", Cond.methodLink RX4 141 yX4_chosen, Cond.instanceMethod yX4_chosen, Cond.selects RX4 yX4_chosen yX4_chosen, Cond.code yX4_chosen cX4_chosen 5 (some .int), Cond.fieldLink RX4 70 "RestartBookModel" "works" "I", Cond.methodLink RX4 100 yX4_giveBack, Cond.instanceMethod yX4_giveBack, Cond.selects RX4 yX4_giveBack yX4_giveBack, Cond.code yX4_giveBack cX4_giveBack 4 none, Cond.fieldLink RX4 16 "RestartBookModel" "befores" "[I", Cond.methodLink RX4 84 yX4_note]
def wsX4_step_r3 : List Cond := [Cond.instanceMethod yX4_note, Cond.selects RX4 yX4_note yX4_note, Cond.code yX4_note cX4_note 3 (some .int), Cond.fieldLink RX4 78 "RestartBookModel" "records" "I", Cond.methodLink RX4 88 yX4_open, Cond.instanceMethod yX4_open, Cond.selects RX4 yX4_open yX4_open, Cond.code yX4_open cX4_open 3 (some .int), Cond.methodLink RX4 123 yX4_end, Cond.instanceMethod yX4_end, Cond.selects RX4 yX4_end yX4_end, Cond.code yX4_end cX4_end 3 none, Cond.methodLink RX4 135 yX4_passOver, Cond.instanceMethod yX4_passOver, Cond.selects RX4 yX4_passOver yX4_passOver, Cond.code yX4_passOver cX4_passOver 1 none, Cond.methodLink RX4 138 yX4_leastBase, Cond.instanceMethod yX4_leastBase, Cond.selects RX4 yX4_leastBase yX4_leastBase, Cond.code yX4_leastBase cX4_leastBase 3 (some .int)]
def wsX4_step : List Cond := .code yX4_step cX4_step 2 none :: ((wsX4_step_r1 ++ (wsX4_step_r2 ++ wsX4_step_r3)) ++ wsX40)
def wsX4_restart_r1 : List Cond := [Cond.fieldLink RX4 103 "RestartBookModel" "doing" "I", Cond.methodLink RX4 150 yX4_step, Cond.instanceMethod yX4_step, Cond.selects RX4 yX4_step yX4_step, Cond.initialized RX4, Cond.code yX4_step cX4_step 2 none, Cond.fieldLink RX4 132 "RestartBookModel" "at" "I", Cond.fieldLink RX4 64 "RestartBookModel" "nexts" "[I", Cond.fieldLink RX4 67 "RestartBookModel" "counts" "[I", Cond.methodLink RX4 144 yX4_lookThrough, Cond.instanceMethod yX4_lookThrough, Cond.selects RX4 yX4_lookThrough yX4_lookThrough, Cond.code yX4_lookThrough cX4_lookThrough 4 none, Cond.fieldLink RX4 129 "RestartBookModel" "latest" "I", Cond.fieldLink RX4 28 "RestartBookModel" "goals" "[I", Cond.fieldLink RX4 58 "RestartBookModel" "states" "[I", Cond.fieldLink RX4 31 "RestartBookModel" "pointStates" "[I", Cond.fieldLink RX4 61 "RestartBookModel" "lasts" "[I", Cond.fieldLink RX4 34 "RestartBookModel" "pointLasts" "[I", Cond.fieldLink RX4 37 "RestartBookModel" "pointNexts" "[I", Cond.fieldLink RX4 49 "RestartBookModel" "bases" "[I", Cond.fieldLink RX4 40 "RestartBookModel" "pointBases" "[I", Cond.fieldLink RX4 13 "RestartBookModel" "whose" "[I", Cond.fieldLink RX4 7 "RestartBookModel" "kinds" "[I"]
def wsX4_restart_r2 : List Cond := [Cond.fieldLink RX4 19 "RestartBookModel" "pages" "[I", Cond.methodLink RX4 92 yX4_makeDirty, Cond.instanceMethod yX4_makeDirty, Cond.selects RX4 yX4_makeDirty yX4_makeDirty, Cond.code yX4_makeDirty cX4_makeDirty 3 none, Cond.methodLink RX4 147 yX4_doAgain, Cond.instanceMethod yX4_doAgain, Cond.selects RX4 yX4_doAgain yX4_doAgain, Cond.code yX4_doAgain cX4_doAgain 4 none, Cond.fieldLink RX4 46 "RestartBookModel" "marks" "[I", Cond.methodLink RX4 96 yX4_apply, Cond.instanceMethod yX4_apply, Cond.selects RX4 yX4_apply yX4_apply, Cond.code yX4_apply cX4_apply 3 none, Cond.fieldLink RX4 43 "RestartBookModel" "memory" "[I", Cond.fieldLink RX4 22 "RestartBookModel" "words" "[I", Cond.fieldLink RX4 25 "RestartBookModel" "sums" "[I", Cond.methodLink RX4 141 yX4_chosen, Cond.instanceMethod yX4_chosen, Cond.selects RX4 yX4_chosen yX4_chosen, Cond.code yX4_chosen cX4_chosen 5 (some .int), Cond.fieldLink RX4 70 "RestartBookModel" "works" "I", Cond.methodLink RX4 100 yX4_giveBack, Cond.instanceMethod yX4_giveBack]
def wsX4_restart_r3 : List Cond := [Cond.selects RX4 yX4_giveBack yX4_giveBack, Cond.code yX4_giveBack cX4_giveBack 4 none, Cond.fieldLink RX4 16 "RestartBookModel" "befores" "[I", Cond.methodLink RX4 84 yX4_note, Cond.instanceMethod yX4_note, Cond.selects RX4 yX4_note yX4_note, Cond.code yX4_note cX4_note 3 (some .int), Cond.fieldLink RX4 78 "RestartBookModel" "records" "I", Cond.methodLink RX4 88 yX4_open, Cond.instanceMethod yX4_open, Cond.selects RX4 yX4_open yX4_open, Cond.code yX4_open cX4_open 3 (some .int), Cond.methodLink RX4 123 yX4_end, Cond.instanceMethod yX4_end, Cond.selects RX4 yX4_end yX4_end, Cond.code yX4_end cX4_end 3 none, Cond.methodLink RX4 135 yX4_passOver, Cond.instanceMethod yX4_passOver, Cond.selects RX4 yX4_passOver yX4_passOver, Cond.code yX4_passOver cX4_passOver 1 none, Cond.methodLink RX4 138 yX4_leastBase, Cond.instanceMethod yX4_leastBase, Cond.selects RX4 yX4_leastBase yX4_leastBase, Cond.code yX4_leastBase cX4_leastBase 3 (some .int)]
def wsX4_restart : List Cond := .code yX4_restart cX4_restart 3 (some .int) :: ((wsX4_restart_r1 ++ (wsX4_restart_r2 ++ wsX4_restart_r3)) ++ wsX40)
def wsX4_part : List Cond := .code yX4_part cX4_part 1 (some .int) :: ([.fieldLink RX4 103 "RestartBookModel" "doing" "I"] ++ wsX40)
def wsX4_word : List Cond := .code yX4_word cX4_word 3 (some .int) :: ([.fieldLink RX4 43 "RestartBookModel" "memory" "[I", .methodLink RX4 74 yX4_in, .static yX4_in, .initialized RX4, .code yX4_in cX4_in 3 (some .boolean)] ++ wsX40)
def wsX4_page : List Cond := .code yX4_page cX4_page 3 (some .int) :: ([.fieldLink RX4 46 "RestartBookModel" "marks" "[I", .fieldLink RX4 49 "RestartBookModel" "bases" "[I", .fieldLink RX4 55 "RestartBookModel" "mediumMarks" "[I", .methodLink RX4 74 yX4_in, .static yX4_in, .initialized RX4, .code yX4_in cX4_in 3 (some .boolean)] ++ wsX40)
def wsX4_table : List Cond := .code yX4_table cX4_table 5 (some .int) :: ([.fieldLink RX4 70 "RestartBookModel" "works" "I", .fieldLink RX4 58 "RestartBookModel" "states" "[I", .fieldLink RX4 61 "RestartBookModel" "lasts" "[I", .fieldLink RX4 64 "RestartBookModel" "nexts" "[I"] ++ wsX40)
def wsX4_record : List Cond := .code yX4_record cX4_record 3 (some .int) :: ([.fieldLink RX4 78 "RestartBookModel" "records" "I", .fieldLink RX4 7 "RestartBookModel" "kinds" "[I", .fieldLink RX4 13 "RestartBookModel" "whose" "[I", .fieldLink RX4 16 "RestartBookModel" "befores" "[I", .fieldLink RX4 19 "RestartBookModel" "pages" "[I", .fieldLink RX4 22 "RestartBookModel" "words" "[I", .fieldLink RX4 25 "RestartBookModel" "sums" "[I", .fieldLink RX4 28 "RestartBookModel" "goals" "[I", .methodLink RX4 74 yX4_in, .static yX4_in, .initialized RX4, .code yX4_in cX4_in 3 (some .boolean)] ++ wsX40)
def wsX4_count : List Cond := .code yX4_count cX4_count 2 (some .int) :: ([.fieldLink RX4 78 "RestartBookModel" "records" "I", .fieldLink RX4 81 "RestartBookModel" "forced" "I", .fieldLink RX4 67 "RestartBookModel" "counts" "[I", .methodLink RX4 74 yX4_in, .static yX4_in, .initialized RX4, .code yX4_in cX4_in 3 (some .boolean)] ++ wsX40)
def wsJ9_max_7cf53 : List Cond := .code yJ9_max_7cf53 cJ9_max_7cf53 2 (some .int) :: ([])
def wsJ9_min_7cf53 : List Cond := .code yJ9_min_7cf53 cJ9_min_7cf53 2 (some .int) :: ([])
def wsL_law_r1 : List Cond := [Cond.classLink RL 7 RX3, Cond.instantiable RX3 13, Cond.initialized RX3, Cond.classLink RL 10 RX4, Cond.instantiable RX4 28, Cond.initialized RX4, Cond.methodLink RL 9 yX3_init, Cond.instanceMethod yX3_init, Cond.code yX3_init cX3_init 1 none, Cond.methodLink RX3 1 objectInit, Cond.instanceMethod objectInit, Cond.code objectInit ⟨#[0xb1]⟩ 1 none, Cond.classLink RX3 7 RX0, Cond.instantiable RX0 4, Cond.initialized RX0, Cond.fieldLink RX3 10 "RestartBook" "log" "LRestartBook$Log;", Cond.classLink RX3 16 RX1, Cond.instantiable RX1 4, Cond.initialized RX1, Cond.fieldLink RX3 19 "RestartBook" "pages" "LRestartBook$Pages;", Cond.classLink RX3 23 RX2, Cond.instantiable RX2 6, Cond.initialized RX2, Cond.fieldLink RX3 26 "RestartBook" "tables" "LRestartBook$Tables;"]
def wsL_law_r2 : List Cond := [Cond.fieldLink RX3 30 "RestartBook" "toldByPoint" "LRestartBook$Tables;", Cond.fieldLink RX3 33 "RestartBook" "latestPoint" "I", Cond.fieldLink RX3 37 "RestartBook" "pointsMade" "I", Cond.fieldLink RX3 40 "RestartBook" "worksGiven" "I", Cond.fieldLink RX3 43 "RestartBook" "doing" "I", Cond.fieldLink RX3 46 "RestartBook" "nextStep" "I", Cond.fieldLink RX3 49 "RestartBook" "lookedThrough" "I", Cond.fieldLink RX3 52 "RestartBook" "doneAgain" "I", Cond.fieldLink RX3 55 "RestartBook" "passedOver" "I", Cond.fieldLink RX3 58 "RestartBook" "undone" "I", Cond.instanceMethod yX0_init, Cond.code yX0_init cX0_init 1 none, Cond.methodLink RX0 1 objectInit, Cond.arrayClass .int, Cond.fieldLink RX0 9 "RestartBook$Log" "cells" "[I", Cond.fieldLink RX0 13 "RestartBook$Log" "records" "I", Cond.fieldLink RX0 17 "RestartBook$Log" "forced" "I", Cond.fieldLink RX0 20 "RestartBook$Log" "changes" "I", Cond.instanceMethod yX1_init, Cond.code yX1_init cX1_init 1 none, Cond.methodLink RX1 1 objectInit, Cond.fieldLink RX1 9 "RestartBook$Pages" "words" "[I", Cond.fieldLink RX1 13 "RestartBook$Pages" "marks" "[I", Cond.fieldLink RX1 16 "RestartBook$Pages" "mediumWords" "[I"]
def wsL_law_r3 : List Cond := [Cond.fieldLink RX1 19 "RestartBook$Pages" "mediumMarks" "[I", Cond.instanceMethod yX2_init, Cond.code yX2_init cX2_init 1 none, Cond.methodLink RX2 1 objectInit, Cond.fieldLink RX2 7 "RestartBook$Tables" "size" "I", Cond.fieldLink RX2 13 "RestartBook$Tables" "works" "[I", Cond.fieldLink RX2 17 "RestartBook$Tables" "states" "[I", Cond.fieldLink RX2 20 "RestartBook$Tables" "lasts" "[I", Cond.fieldLink RX2 23 "RestartBook$Tables" "nexts" "[I", Cond.fieldLink RX2 28 "RestartBook$Tables" "bases" "[I", Cond.methodLink RL 12 yX4_init, Cond.instanceMethod yX4_init, Cond.code yX4_init cX4_init 2 none, Cond.methodLink RX4 1 objectInit, Cond.fieldLink RX4 7 "RestartBookModel" "kinds" "[I", Cond.fieldLink RX4 13 "RestartBookModel" "whose" "[I", Cond.fieldLink RX4 16 "RestartBookModel" "befores" "[I", Cond.fieldLink RX4 19 "RestartBookModel" "pages" "[I", Cond.fieldLink RX4 22 "RestartBookModel" "words" "[I", Cond.fieldLink RX4 25 "RestartBookModel" "sums" "[I", Cond.fieldLink RX4 28 "RestartBookModel" "goals" "[I", Cond.fieldLink RX4 31 "RestartBookModel" "pointStates" "[I", Cond.fieldLink RX4 34 "RestartBookModel" "pointLasts" "[I", Cond.fieldLink RX4 37 "RestartBookModel" "pointNexts" "[I"]
def wsL_law_r4 : List Cond := [Cond.fieldLink RX4 40 "RestartBookModel" "pointBases" "[I", Cond.fieldLink RX4 43 "RestartBookModel" "memory" "[I", Cond.fieldLink RX4 46 "RestartBookModel" "marks" "[I", Cond.fieldLink RX4 49 "RestartBookModel" "bases" "[I", Cond.fieldLink RX4 52 "RestartBookModel" "medium" "[I", Cond.fieldLink RX4 55 "RestartBookModel" "mediumMarks" "[I", Cond.fieldLink RX4 58 "RestartBookModel" "states" "[I", Cond.fieldLink RX4 61 "RestartBookModel" "lasts" "[I", Cond.fieldLink RX4 64 "RestartBookModel" "nexts" "[I", Cond.fieldLink RX4 67 "RestartBookModel" "counts" "[I", Cond.methodLink RL 13 yX3_begin, Cond.instanceMethod yX3_begin, Cond.selects RX3 yX3_begin yX3_begin, Cond.code yX3_begin cX3_begin 1 (some .int), Cond.methodLink RX3 61 yX2_isFull, Cond.instanceMethod yX2_isFull, Cond.selects RX2 yX2_isFull yX2_isFull, Cond.code yX2_isFull cX2_isFull 1 (some .boolean), Cond.methodLink RX3 65 yX2_bringIn, Cond.instanceMethod yX2_bringIn, Cond.selects RX2 yX2_bringIn yX2_bringIn, Cond.code yX2_bringIn cX2_bringIn 3 none, Cond.methodLink RX2 35 yX2_isFull, Cond.methodLink RX2 31 yX2_slotOf]
def wsL_law_r5 : List Cond := [Cond.instanceMethod yX2_slotOf, Cond.selects RX2 yX2_slotOf yX2_slotOf, Cond.code yX2_slotOf cX2_slotOf 3 (some .int), Cond.methodLink RX2 39 yX2_copySlot, Cond.instanceMethod yX2_copySlot, Cond.selects RX2 yX2_copySlot yX2_copySlot, Cond.code yX2_copySlot cX2_copySlot 3 none, Cond.methodLink RL 17 yX4_begin, Cond.instanceMethod yX4_begin, Cond.selects RX4 yX4_begin yX4_begin, Cond.code yX4_begin cX4_begin 1 (some .int), Cond.fieldLink RX4 103 "RestartBookModel" "doing" "I", Cond.fieldLink RX4 70 "RestartBookModel" "works" "I", Cond.methodLink RX4 106 yX4_many, Cond.instanceMethod yX4_many, Cond.selects RX4 yX4_many yX4_many, Cond.code yX4_many cX4_many 3 (some .int), Cond.methodLink RL 18 yX3_add, Cond.instanceMethod yX3_add, Cond.selects RX3 yX3_add yX3_add, Cond.code yX3_add cX3_add 7 (some .int), Cond.methodLink RX3 69 yX3_refusalFor, Cond.instanceMethod yX3_refusalFor, Cond.selects RX3 yX3_refusalFor yX3_refusalFor]
def wsL_law_r6 : List Cond := [Cond.code yX3_refusalFor cX3_refusalFor 2 (some .int), Cond.methodLink RX3 171 yX2_holds, Cond.instanceMethod yX2_holds, Cond.selects RX2 yX2_holds yX2_holds, Cond.code yX2_holds cX2_holds 2 (some .boolean), Cond.methodLink RX3 73 yX1_hasPlace, Cond.static yX1_hasPlace, Cond.code yX1_hasPlace cX1_hasPlace 2 (some .boolean), Cond.methodLink RX3 77 yX2_stateOf, Cond.instanceMethod yX2_stateOf, Cond.selects RX2 yX2_stateOf yX2_stateOf, Cond.code yX2_stateOf cX2_stateOf 3 (some .int), Cond.methodLink RX3 80 yX0_changesHeld, Cond.instanceMethod yX0_changesHeld, Cond.selects RX0 yX0_changesHeld yX0_changesHeld, Cond.code yX0_changesHeld cX0_changesHeld 1 (some .int), Cond.methodLink RX3 84 yX2_lastOf, Cond.instanceMethod yX2_lastOf, Cond.selects RX2 yX2_lastOf yX2_lastOf, Cond.code yX2_lastOf cX2_lastOf 3 (some .int), Cond.methodLink RX3 87 yX0_append, Cond.instanceMethod yX0_append, Cond.selects RX0 yX0_append yX0_append, Cond.code yX0_append cX0_append 9 (some .int)]
def wsL_law_r7 : List Cond := [Cond.methodLink RX0 31 yJ7_copyOf_59c91, Cond.static yJ7_copyOf_59c91, Cond.initialized RJ7, Cond.code yJ7_copyOf_59c91 cJ7_copyOf_59c91 3 (some (.array .int)), Cond.methodLink RJ7 316 ⟨"[I", "clone", "()Ljava/lang/Object;"⟩, Cond.sameMethod "[I" "java/lang/Object" "clone" "()Ljava/lang/Object;", Cond.native ⟨"java/lang/Object", "clone", "()Ljava/lang/Object;"⟩, Cond.instanceMethod ⟨"java/lang/Object", "clone", "()Ljava/lang/Object;"⟩, Cond.selects "[I" ⟨"[I", "clone", "()Ljava/lang/Object;"⟩ ⟨"java/lang/Object", "clone", "()Ljava/lang/Object;"⟩, Cond.classLink RJ7 317 "[I", Cond.methodLink RJ7 304 Lib.Math.min.name, Cond.static Lib.Math.min.name, Cond.initialized "java/lang/Math", Cond.code Lib.Math.min.name Lib.Math.min.code 2 (some .int), Cond.methodLink RJ7 150 arraycopyName, Cond.native arraycopyName, Cond.static arraycopyName, Cond.initialized "java/lang/System", Cond.methodLink RX3 91 yX3_takeIntoTables, Cond.instanceMethod yX3_takeIntoTables, Cond.selects RX3 yX3_takeIntoTables yX3_takeIntoTables, Cond.code yX3_takeIntoTables cX3_takeIntoTables 4 none, Cond.methodLink RX3 168 yX0_read, Cond.instanceMethod yX0_read]
def wsL_law_r8 : List Cond := [Cond.selects RX0 yX0_read yX0_read, Cond.code yX0_read cX0_read 3 (some .int), Cond.methodLink RX0 23 yX0_holds, Cond.instanceMethod yX0_holds, Cond.selects RX0 yX0_holds yX0_holds, Cond.code yX0_holds cX0_holds 2 (some .boolean), Cond.methodLink RX3 178 yX2_setLast, Cond.instanceMethod yX2_setLast, Cond.selects RX2 yX2_setLast yX2_setLast, Cond.code yX2_setLast cX2_setLast 4 none, Cond.methodLink RX3 182 yX2_setNext, Cond.instanceMethod yX2_setNext, Cond.selects RX2 yX2_setNext yX2_setNext, Cond.code yX2_setNext cX2_setNext 4 none, Cond.methodLink RX3 185 yX2_makeDirty, Cond.instanceMethod yX2_makeDirty, Cond.selects RX2 yX2_makeDirty yX2_makeDirty, Cond.code yX2_makeDirty cX2_makeDirty 3 none, Cond.methodLink RX2 43 yX1_hasPage, Cond.static yX1_hasPage, Cond.code yX1_hasPage cX1_hasPage 1 (some .boolean), Cond.methodLink RX3 188 yX2_setState, Cond.instanceMethod yX2_setState, Cond.selects RX2 yX2_setState yX2_setState]
def wsL_law_r9 : List Cond := [Cond.code yX2_setState cX2_setState 4 none, Cond.methodLink RX3 191 yX2_takeOut, Cond.instanceMethod yX2_takeOut, Cond.selects RX2 yX2_takeOut yX2_takeOut, Cond.code yX2_takeOut cX2_takeOut 4 none, Cond.methodLink RX3 94 yX3_carryOut, Cond.instanceMethod yX3_carryOut, Cond.selects RX3 yX3_carryOut yX3_carryOut, Cond.code yX3_carryOut cX3_carryOut 2 none, Cond.methodLink RX3 194 yX1_change, Cond.instanceMethod yX1_change, Cond.selects RX1 yX1_change yX1_change, Cond.code yX1_change cX1_change 5 none, Cond.methodLink RX1 22 yX1_hasPlace, Cond.methodLink RL 22 yX4_add, Cond.instanceMethod yX4_add, Cond.selects RX4 yX4_add yX4_add, Cond.code yX4_add cX4_add 6 (some .int), Cond.fieldLink RX4 114 "RestartBookModel" "changes" "I", Cond.methodLink RX4 110 yX4_isWork, Cond.instanceMethod yX4_isWork, Cond.selects RX4 yX4_isWork yX4_isWork, Cond.code yX4_isWork cX4_isWork 2 (some .boolean), Cond.methodLink RX4 74 yX4_in]
def wsL_law_r10 : List Cond := [Cond.static yX4_in, Cond.code yX4_in cX4_in 3 (some .boolean), Cond.methodLink RX4 84 yX4_note, Cond.instanceMethod yX4_note, Cond.selects RX4 yX4_note yX4_note, Cond.code yX4_note cX4_note 3 (some .int), Cond.fieldLink RX4 78 "RestartBookModel" "records" "I", Cond.methodLink RX4 92 yX4_makeDirty, Cond.instanceMethod yX4_makeDirty, Cond.selects RX4 yX4_makeDirty yX4_makeDirty, Cond.code yX4_makeDirty cX4_makeDirty 3 none, Cond.methodLink RX4 96 yX4_apply, Cond.instanceMethod yX4_apply, Cond.selects RX4 yX4_apply yX4_apply, Cond.code yX4_apply cX4_apply 3 none, Cond.methodLink RL 23 yX3_back, Cond.instanceMethod yX3_back, Cond.selects RX3 yX3_back yX3_back, Cond.code yX3_back cX3_back 4 (some .int), Cond.methodLink RX3 97 yX3_undoDownTo, Cond.instanceMethod yX3_undoDownTo, Cond.selects RX3 yX3_undoDownTo yX3_undoDownTo, Cond.code yX3_undoDownTo cX3_undoDownTo 5 (some .int), Cond.methodLink RX3 147 yX0_recordsHeld]
def wsL_law_r11 : List Cond := [Cond.instanceMethod yX0_recordsHeld, Cond.selects RX0 yX0_recordsHeld yX0_recordsHeld, Cond.code yX0_recordsHeld cX0_recordsHeld 1 (some .int), Cond.methodLink RX3 162 yX2_nextOf, Cond.instanceMethod yX2_nextOf, Cond.selects RX2 yX2_nextOf yX2_nextOf, Cond.code yX2_nextOf cX2_nextOf 3 (some .int), Cond.methodLink RX3 172 yX3_undoNext, Cond.instanceMethod yX3_undoNext, Cond.selects RX3 yX3_undoNext yX3_undoNext, Cond.code yX3_undoNext cX3_undoNext 4 none, Cond.methodLink RX3 175 yX0_undoingBehind, Cond.instanceMethod yX0_undoingBehind, Cond.selects RX0 yX0_undoingBehind yX0_undoingBehind, Cond.code yX0_undoingBehind cX0_undoingBehind 3 (some .int), Cond.methodLink RX0 27 yX0_read, Cond.methodLink RL 27 yX4_back, Cond.instanceMethod yX4_back, Cond.selects RX4 yX4_back yX4_back, Cond.code yX4_back cX4_back 3 (some .int), Cond.methodLink RX4 117 yX4_undoTo, Cond.instanceMethod yX4_undoTo, Cond.selects RX4 yX4_undoTo yX4_undoTo, Cond.code yX4_undoTo cX4_undoTo 4 (some .int)]
def wsL_law_r12 : List Cond := [Cond.methodLink RX4 100 yX4_giveBack, Cond.instanceMethod yX4_giveBack, Cond.selects RX4 yX4_giveBack yX4_giveBack, Cond.code yX4_giveBack cX4_giveBack 4 none, Cond.methodLink RX4 88 yX4_open, Cond.instanceMethod yX4_open, Cond.selects RX4 yX4_open yX4_open, Cond.code yX4_open cX4_open 3 (some .int), Cond.methodLink RL 28 yX3_prepare, Cond.instanceMethod yX3_prepare, Cond.selects RX3 yX3_prepare yX3_prepare, Cond.code yX3_prepare cX3_prepare 4 (some .int), Cond.methodLink RX3 101 yX3_appendOfWork, Cond.instanceMethod yX3_appendOfWork, Cond.selects RX3 yX3_appendOfWork yX3_appendOfWork, Cond.code yX3_appendOfWork cX3_appendOfWork 4 (some .int), Cond.methodLink RX3 104 yX0_forceUpTo, Cond.instanceMethod yX0_forceUpTo, Cond.selects RX0 yX0_forceUpTo yX0_forceUpTo, Cond.code yX0_forceUpTo cX0_forceUpTo 2 none, Cond.methodLink RX0 37 Lib.Math.min.name, Cond.methodLink RX0 42 Lib.Math.max.name, Cond.static Lib.Math.max.name, Cond.code Lib.Math.max.name Lib.Math.max.code 2 (some .int)]
def wsL_law_r13 : List Cond := [Cond.methodLink RL 32 yX4_prepare, Cond.instanceMethod yX4_prepare, Cond.selects RX4 yX4_prepare yX4_prepare, Cond.code yX4_prepare cX4_prepare 3 (some .int), Cond.methodLink RX4 120 yX4_forceTo, Cond.instanceMethod yX4_forceTo, Cond.selects RX4 yX4_forceTo yX4_forceTo, Cond.code yX4_forceTo cX4_forceTo 3 none, Cond.fieldLink RX4 81 "RestartBookModel" "forced" "I", Cond.methodLink RL 33 yX3_commit, Cond.instanceMethod yX3_commit, Cond.selects RX3 yX3_commit yX3_commit, Cond.code yX3_commit cX3_commit 4 (some .int), Cond.methodLink RL 36 yX4_commit, Cond.instanceMethod yX4_commit, Cond.selects RX4 yX4_commit yX4_commit, Cond.code yX4_commit cX4_commit 3 (some .int), Cond.methodLink RX4 123 yX4_end, Cond.instanceMethod yX4_end, Cond.selects RX4 yX4_end yX4_end, Cond.code yX4_end cX4_end 3 none, Cond.methodLink RL 37 yX3_abort, Cond.instanceMethod yX3_abort, Cond.selects RX3 yX3_abort yX3_abort]
def wsL_law_r14 : List Cond := [Cond.code yX3_abort cX3_abort 4 (some .int), Cond.methodLink RL 40 yX4_abort, Cond.instanceMethod yX4_abort, Cond.selects RX4 yX4_abort yX4_abort, Cond.code yX4_abort cX4_abort 4 (some .int), Cond.methodLink RL 41 yX3_write, Cond.instanceMethod yX3_write, Cond.selects RX3 yX3_write yX3_write, Cond.code yX3_write cX3_write 2 (some .int), Cond.methodLink RX3 107 yX1_hasPage, Cond.methodLink RX3 111 yX2_baseOf, Cond.instanceMethod yX2_baseOf, Cond.selects RX2 yX2_baseOf yX2_baseOf, Cond.code yX2_baseOf cX2_baseOf 2 (some .int), Cond.methodLink RX3 114 yX1_markOf, Cond.instanceMethod yX1_markOf, Cond.selects RX1 yX1_markOf yX1_markOf, Cond.code yX1_markOf cX1_markOf 2 (some .int), Cond.methodLink RX1 26 yX1_hasPage, Cond.methodLink RX3 117 yX1_copyToMedium, Cond.instanceMethod yX1_copyToMedium, Cond.selects RX1 yX1_copyToMedium yX1_copyToMedium, Cond.code yX1_copyToMedium cX1_copyToMedium 2 none, Cond.methodLink RX1 30 arraycopyName]
def wsL_law_r15 : List Cond := [Cond.methodLink RX3 120 yX2_makeClean, Cond.instanceMethod yX2_makeClean, Cond.selects RX2 yX2_makeClean yX2_makeClean, Cond.code yX2_makeClean cX2_makeClean 2 none, Cond.methodLink RL 44 yX4_write, Cond.instanceMethod yX4_write, Cond.selects RX4 yX4_write yX4_write, Cond.code yX4_write cX4_write 3 (some .int), Cond.methodLink RL 45 yX3_force, Cond.instanceMethod yX3_force, Cond.selects RX3 yX3_force yX3_force, Cond.code yX3_force cX3_force 2 (some .int), Cond.methodLink RX3 123 yX0_forcedHeld, Cond.instanceMethod yX0_forcedHeld, Cond.selects RX0 yX0_forcedHeld yX0_forcedHeld, Cond.code yX0_forcedHeld cX0_forcedHeld 1 (some .int), Cond.methodLink RL 48 yX4_force, Cond.instanceMethod yX4_force, Cond.selects RX4 yX4_force yX4_force, Cond.code yX4_force cX4_force 2 (some .int), Cond.methodLink RL 49 yX3_point, Cond.instanceMethod yX3_point, Cond.selects RX3 yX3_point yX3_point, Cond.code yX3_point cX3_point 1 (some .int)]
def wsL_law_r16 : List Cond := [Cond.methodLink RX3 126 yX2_becomeLike, Cond.instanceMethod yX2_becomeLike, Cond.selects RX2 yX2_becomeLike yX2_becomeLike, Cond.code yX2_becomeLike cX2_becomeLike 2 none, Cond.methodLink RX2 53 yX2_makeEmpty, Cond.instanceMethod yX2_makeEmpty, Cond.selects RX2 yX2_makeEmpty yX2_makeEmpty, Cond.code yX2_makeEmpty cX2_makeEmpty 1 none, Cond.methodLink RX2 47 yJ7_fill_53178, Cond.static yJ7_fill_53178, Cond.code yJ7_fill_53178 cJ7_fill_53178 4 none, Cond.methodLink RX2 56 yX2_bringInMissing, Cond.instanceMethod yX2_bringInMissing, Cond.selects RX2 yX2_bringInMissing yX2_bringInMissing, Cond.code yX2_bringInMissing cX2_bringInMissing 4 none, Cond.methodLink RX2 60 yX2_holds, Cond.methodLink RX2 63 yX2_bringIn, Cond.methodLink RX2 67 yX2_setState, Cond.methodLink RX2 70 yX2_setLast, Cond.methodLink RX2 73 yX2_setNext, Cond.methodLink RX2 76 yX2_makeDirty, Cond.methodLink RL 52 yX4_point, Cond.instanceMethod yX4_point, Cond.selects RX4 yX4_point yX4_point]
def wsL_law_r17 : List Cond := [Cond.code yX4_point cX4_point 4 (some .int), Cond.fieldLink RX4 126 "RestartBookModel" "points" "I", Cond.methodLink RL 53 yX3_loss, Cond.instanceMethod yX3_loss, Cond.selects RX3 yX3_loss yX3_loss, Cond.code yX3_loss cX3_loss 2 (some .int), Cond.methodLink RX3 139 Lib.Math.max.name, Cond.methodLink RX3 130 yX0_loseBehind, Cond.instanceMethod yX0_loseBehind, Cond.selects RX0 yX0_loseBehind yX0_loseBehind, Cond.code yX0_loseBehind cX0_loseBehind 4 none, Cond.methodLink RX3 133 yX1_readAllFromMedium, Cond.instanceMethod yX1_readAllFromMedium, Cond.selects RX1 yX1_readAllFromMedium yX1_readAllFromMedium, Cond.code yX1_readAllFromMedium cX1_readAllFromMedium 1 none, Cond.methodLink RX3 136 yX2_makeEmpty, Cond.methodLink RX3 144 yX3_passOverPartsWithoutSteps, Cond.instanceMethod yX3_passOverPartsWithoutSteps, Cond.selects RX3 yX3_passOverPartsWithoutSteps yX3_passOverPartsWithoutSteps, Cond.code yX3_passOverPartsWithoutSteps cX3_passOverPartsWithoutSteps 2 none, Cond.methodLink RX3 213 yX2_leastBase, Cond.instanceMethod yX2_leastBase, Cond.selects RX2 yX2_leastBase yX2_leastBase, Cond.code yX2_leastBase cX2_leastBase 3 (some .int)]
def wsL_law_r18 : List Cond := [Cond.methodLink RX3 204 yX2_leastWorkIn, Cond.instanceMethod yX2_leastWorkIn, Cond.selects RX2 yX2_leastWorkIn yX2_leastWorkIn, Cond.code yX2_leastWorkIn cX2_leastWorkIn 3 (some .int), Cond.methodLink RX3 207 yX2_workToUndo, Cond.instanceMethod yX2_workToUndo, Cond.selects RX2 yX2_workToUndo yX2_workToUndo, Cond.code yX2_workToUndo cX2_workToUndo 4 (some .int), Cond.methodLink RL 56 yX4_loss, Cond.instanceMethod yX4_loss, Cond.selects RX4 yX4_loss yX4_loss, Cond.code yX4_loss cX4_loss 5 (some .int), Cond.fieldLink RX4 129 "RestartBookModel" "latest" "I", Cond.fieldLink RX4 132 "RestartBookModel" "at" "I", Cond.methodLink RX4 135 yX4_passOver, Cond.instanceMethod yX4_passOver, Cond.selects RX4 yX4_passOver yX4_passOver, Cond.code yX4_passOver cX4_passOver 1 none, Cond.methodLink RX4 138 yX4_leastBase, Cond.instanceMethod yX4_leastBase, Cond.selects RX4 yX4_leastBase yX4_leastBase, Cond.code yX4_leastBase cX4_leastBase 3 (some .int), Cond.methodLink RX4 141 yX4_chosen, Cond.instanceMethod yX4_chosen]
def wsL_law_r19 : List Cond := [Cond.selects RX4 yX4_chosen yX4_chosen, Cond.code yX4_chosen cX4_chosen 5 (some .int), Cond.methodLink RL 57 yX3_restart, Cond.instanceMethod yX3_restart, Cond.selects RX3 yX3_restart yX3_restart, Cond.code yX3_restart cX3_restart 3 (some .int), Cond.methodLink RX3 150 yX3_makeStep, Cond.instanceMethod yX3_makeStep, Cond.selects RX3 yX3_makeStep yX3_makeStep, Cond.code yX3_makeStep cX3_makeStep 1 none, Cond.methodLink RX3 198 yX3_lookThrough, Cond.instanceMethod yX3_lookThrough, Cond.selects RX3 yX3_lookThrough yX3_lookThrough, Cond.code yX3_lookThrough cX3_lookThrough 2 none, Cond.methodLink RX3 216 yX2_bringInMissing, Cond.methodLink RX3 201 yX3_doAgainOrPassOver, Cond.instanceMethod yX3_doAgainOrPassOver, Cond.selects RX3 yX3_doAgainOrPassOver yX3_doAgainOrPassOver, Cond.code yX3_doAgainOrPassOver cX3_doAgainOrPassOver 4 none, Cond.methodLink RX3 219 yX0_changesPage, Cond.instanceMethod yX0_changesPage, Cond.selects RX0 yX0_changesPage yX0_changesPage, Cond.code yX0_changesPage cX0_changesPage 3 (some .boolean), Cond.methodLink RX3 210 yX3_undoOrEnd]
def wsL_law_r20 : List Cond := [Cond.instanceMethod yX3_undoOrEnd, Cond.selects RX3 yX3_undoOrEnd yX3_undoOrEnd, Cond.code yX3_undoOrEnd cX3_undoOrEnd 2 none, Cond.methodLink RL 60 yX4_restart, Cond.instanceMethod yX4_restart, Cond.selects RX4 yX4_restart yX4_restart, Cond.code yX4_restart cX4_restart 3 (some .int), Cond.methodLink RX4 150 yX4_step, Cond.instanceMethod yX4_step, Cond.selects RX4 yX4_step yX4_step, Cond.code yX4_step cX4_step 2 none, Cond.methodLink RX4 144 yX4_lookThrough, Cond.instanceMethod yX4_lookThrough, Cond.selects RX4 yX4_lookThrough yX4_lookThrough, Cond.code yX4_lookThrough cX4_lookThrough 4 none, Cond.methodLink RX4 147 yX4_doAgain, Cond.instanceMethod yX4_doAgain, Cond.selects RX4 yX4_doAgain yX4_doAgain, Cond.code yX4_doAgain cX4_doAgain 4 none, Cond.methodLink RL 61 yX3_part, Cond.instanceMethod yX3_part, Cond.selects RX3 yX3_part yX3_part, Cond.code yX3_part cX3_part 1 (some .int), Cond.methodLink RL 64 yX4_part]
def wsL_law_r21 : List Cond := [Cond.instanceMethod yX4_part, Cond.selects RX4 yX4_part yX4_part, Cond.code yX4_part cX4_part 1 (some .int), Cond.methodLink RL 65 yX3_word, Cond.instanceMethod yX3_word, Cond.selects RX3 yX3_word yX3_word, Cond.code yX3_word cX3_word 3 (some .int), Cond.methodLink RX3 153 yX1_valueOf, Cond.instanceMethod yX1_valueOf, Cond.selects RX1 yX1_valueOf yX1_valueOf, Cond.code yX1_valueOf cX1_valueOf 3 (some .int), Cond.methodLink RL 68 yX4_word, Cond.instanceMethod yX4_word, Cond.selects RX4 yX4_word yX4_word, Cond.code yX4_word cX4_word 3 (some .int), Cond.methodLink RL 69 yX3_page, Cond.instanceMethod yX3_page, Cond.selects RX3 yX3_page yX3_page, Cond.code yX3_page cX3_page 3 (some .int), Cond.methodLink RX3 156 yX1_mediumMarkOf, Cond.instanceMethod yX1_mediumMarkOf, Cond.selects RX1 yX1_mediumMarkOf yX1_mediumMarkOf, Cond.code yX1_mediumMarkOf cX1_mediumMarkOf 2 (some .int), Cond.methodLink RL 72 yX4_page]
def wsL_law_r22 : List Cond := [Cond.instanceMethod yX4_page, Cond.selects RX4 yX4_page yX4_page, Cond.code yX4_page cX4_page 3 (some .int), Cond.methodLink RL 73 yX3_table, Cond.instanceMethod yX3_table, Cond.selects RX3 yX3_table yX3_table, Cond.code yX3_table cX3_table 4 (some .int), Cond.methodLink RX3 159 yX2_workAt, Cond.instanceMethod yX2_workAt, Cond.selects RX2 yX2_workAt yX2_workAt, Cond.code yX2_workAt cX2_workAt 2 (some .int), Cond.methodLink RL 76 yX4_table, Cond.instanceMethod yX4_table, Cond.selects RX4 yX4_table yX4_table, Cond.code yX4_table cX4_table 5 (some .int), Cond.methodLink RL 77 yX3_record, Cond.instanceMethod yX3_record, Cond.selects RX3 yX3_record yX3_record, Cond.code yX3_record cX3_record 3 (some .int), Cond.methodLink RX3 165 yX0_holds, Cond.methodLink RL 80 yX4_record, Cond.instanceMethod yX4_record, Cond.selects RX4 yX4_record yX4_record, Cond.code yX4_record cX4_record 3 (some .int)]
def wsL_law_r23 : List Cond := [Cond.methodLink RL 81 yX3_count, Cond.instanceMethod yX3_count, Cond.selects RX3 yX3_count yX3_count, Cond.code yX3_count cX3_count 2 (some .int), Cond.methodLink RL 84 yX4_count, Cond.instanceMethod yX4_count, Cond.selects RX4 yX4_count yX4_count, Cond.code yX4_count cX4_count 2 (some .int)]
def wsL_law : List Cond := (wsL_law_r1 ++ (wsL_law_r2 ++ (wsL_law_r3 ++ (wsL_law_r4 ++ (wsL_law_r5 ++ (wsL_law_r6 ++ (wsL_law_r7 ++ (wsL_law_r8 ++ (wsL_law_r9 ++ (wsL_law_r10 ++ (wsL_law_r11 ++ (wsL_law_r12 ++ (wsL_law_r13 ++ (wsL_law_r14 ++ (wsL_law_r15 ++ (wsL_law_r16 ++ (wsL_law_r17 ++ (wsL_law_r18 ++ (wsL_law_r19 ++ (wsL_law_r20 ++ (wsL_law_r21 ++ (wsL_law_r22 ++ wsL_law_r23)))))))))))))))))))))) ++ wsX30 ++ wsX40 ++ wsX00 ++ wsX10 ++ wsX20 ++ ([] : List Cond)
set_option maxRecDepth 20000 in
theorem inlX0 : ∀ w ∈ wsX00, w ∈ wsL_law := fun _ h => List.mem_append_left _ (List.mem_append_left _ (List.mem_append_left _ (List.mem_append_right _ h)))
theorem inlX1 : ∀ w ∈ wsX10, w ∈ wsL_law := fun _ h => List.mem_append_left _ (List.mem_append_left _ (List.mem_append_right _ h))
theorem inlX2 : ∀ w ∈ wsX20, w ∈ wsL_law := fun _ h => List.mem_append_left _ (List.mem_append_right _ h)
theorem inlX3 : ∀ w ∈ wsX30, w ∈ wsL_law := fun _ h => List.mem_append_left _ (List.mem_append_left _ (List.mem_append_left _ (List.mem_append_left _ (List.mem_append_left _ (List.mem_append_right _ h)))))
theorem inlX4 : ∀ w ∈ wsX40, w ∈ wsL_law := fun _ h => List.mem_append_left _ (List.mem_append_left _ (List.mem_append_left _ (List.mem_append_left _ (List.mem_append_right _ h))))
abbrev vwCl : List vw_C := [(RX0, TX0, 4), (RX1, TX1, 4), (RX2, TX2, 6), (RX3, TX3, 13), (RX4, TX4, 28)]
end
section
theorem dX0_init_0 : decode cX0_init 0 = .ok (.aload_n 0, 1) := by decide +kernel
theorem dX0_init_1 : decode cX0_init 1 = .ok (.invokespecial 1, 3) := by decide +kernel
theorem dX0_init_4 : decode cX0_init 4 = .ok (.aload_n 0, 1) := by decide +kernel
theorem dX0_init_5 : decode cX0_init 5 = .ok (.sipush 896, 3) := by decide +kernel
theorem dX0_init_8 : decode cX0_init 8 = .ok (.newarray .int, 2) := by decide +kernel
theorem dX0_init_10 : decode cX0_init 10 = .ok (.putfield 9, 3) := by decide +kernel
theorem dX0_init_13 : decode cX0_init 13 = .ok (.aload_n 0, 1) := by decide +kernel
theorem dX0_init_14 : decode cX0_init 14 = .ok (.iconst 0, 1) := by decide +kernel
theorem dX0_init_15 : decode cX0_init 15 = .ok (.putfield 13, 3) := by decide +kernel
theorem dX0_init_18 : decode cX0_init 18 = .ok (.aload_n 0, 1) := by decide +kernel
theorem dX0_init_19 : decode cX0_init 19 = .ok (.iconst 0, 1) := by decide +kernel
theorem dX0_init_20 : decode cX0_init 20 = .ok (.putfield 17, 3) := by decide +kernel
theorem dX0_init_23 : decode cX0_init 23 = .ok (.aload_n 0, 1) := by decide +kernel
theorem dX0_init_24 : decode cX0_init 24 = .ok (.iconst 0, 1) := by decide +kernel
theorem dX0_init_25 : decode cX0_init 25 = .ok (.putfield 20, 3) := by decide +kernel
theorem dX0_init_28 : decode cX0_init 28 = .ok (.return_, 1) := by decide +kernel
theorem dX0_recordsHeld_0 : decode cX0_recordsHeld 0 = .ok (.aload_n 0, 1) := by decide +kernel
theorem dX0_recordsHeld_1 : decode cX0_recordsHeld 1 = .ok (.getfield 13, 3) := by decide +kernel
theorem dX0_recordsHeld_4 : decode cX0_recordsHeld 4 = .ok (.ireturn, 1) := by decide +kernel
theorem dX0_forcedHeld_0 : decode cX0_forcedHeld 0 = .ok (.aload_n 0, 1) := by decide +kernel
theorem dX0_forcedHeld_1 : decode cX0_forcedHeld 1 = .ok (.getfield 17, 3) := by decide +kernel
theorem dX0_forcedHeld_4 : decode cX0_forcedHeld 4 = .ok (.ireturn, 1) := by decide +kernel
theorem dX0_changesHeld_0 : decode cX0_changesHeld 0 = .ok (.aload_n 0, 1) := by decide +kernel
theorem dX0_changesHeld_1 : decode cX0_changesHeld 1 = .ok (.getfield 20, 3) := by decide +kernel
theorem dX0_changesHeld_4 : decode cX0_changesHeld 4 = .ok (.ireturn, 1) := by decide +kernel
theorem dX0_holds_0 : decode cX0_holds 0 = .ok (.iload_n 1, 1) := by decide +kernel
theorem dX0_holds_1 : decode cX0_holds 1 = .ok (.iconst 1, 1) := by decide +kernel
theorem dX0_holds_2 : decode cX0_holds 2 = .ok (.if_icmp .lt 15, 3) := by decide +kernel
theorem dX0_holds_5 : decode cX0_holds 5 = .ok (.iload_n 1, 1) := by decide +kernel
theorem dX0_holds_6 : decode cX0_holds 6 = .ok (.aload_n 0, 1) := by decide +kernel
theorem dX0_holds_7 : decode cX0_holds 7 = .ok (.getfield 13, 3) := by decide +kernel
theorem dX0_holds_10 : decode cX0_holds 10 = .ok (.if_icmp .gt 7, 3) := by decide +kernel
theorem dX0_holds_13 : decode cX0_holds 13 = .ok (.iconst 1, 1) := by decide +kernel
theorem dX0_holds_14 : decode cX0_holds 14 = .ok (.goto 4, 3) := by decide +kernel
theorem dX0_holds_17 : decode cX0_holds 17 = .ok (.iconst 0, 1) := by decide +kernel
theorem dX0_holds_18 : decode cX0_holds 18 = .ok (.ireturn, 1) := by decide +kernel
set_option maxRecDepth 20000 in
theorem ggX0_read_X0_holds : GoodIn wsX0_read wsX0_holds := goodIn_r _ [6, 7, 8, 9, 10, 11] (by decide +kernel) (by decide +kernel)
set_option maxRecDepth 20000 in
theorem gX0_read_X0_holds : GoodIn wsX0_read (wsV RX0 23 RX0 yX0_holds wsX0_holds) := goodIn_app (goodIn_of _ (by decide +kernel)) ggX0_read_X0_holds
theorem dX0_read_0 : decode cX0_read 0 = .ok (.aload_n 0, 1) := by decide +kernel
theorem dX0_read_1 : decode cX0_read 1 = .ok (.iload_n 1, 1) := by decide +kernel
theorem dX0_read_2 : decode cX0_read 2 = .ok (.invokevirtual 23, 3) := by decide +kernel
theorem dX0_read_5 : decode cX0_read 5 = .ok (.ifCond .eq 13, 3) := by decide +kernel
theorem dX0_read_8 : decode cX0_read 8 = .ok (.iload_n 2, 1) := by decide +kernel
theorem dX0_read_9 : decode cX0_read 9 = .ok (.ifCond .lt 9, 3) := by decide +kernel
theorem dX0_read_12 : decode cX0_read 12 = .ok (.iload_n 2, 1) := by decide +kernel
theorem dX0_read_13 : decode cX0_read 13 = .ok (.bipush 6, 2) := by decide +kernel
theorem dX0_read_15 : decode cX0_read 15 = .ok (.if_icmp .le 5, 3) := by decide +kernel
theorem dX0_read_18 : decode cX0_read 18 = .ok (.iconst 0, 1) := by decide +kernel
theorem dX0_read_19 : decode cX0_read 19 = .ok (.ireturn, 1) := by decide +kernel
theorem dX0_read_20 : decode cX0_read 20 = .ok (.aload_n 0, 1) := by decide +kernel
theorem dX0_read_21 : decode cX0_read 21 = .ok (.getfield 9, 3) := by decide +kernel
theorem dX0_read_24 : decode cX0_read 24 = .ok (.iload_n 1, 1) := by decide +kernel
theorem dX0_read_25 : decode cX0_read 25 = .ok (.iconst 1, 1) := by decide +kernel
theorem dX0_read_26 : decode cX0_read 26 = .ok (.isub, 1) := by decide +kernel
theorem dX0_read_27 : decode cX0_read 27 = .ok (.bipush 7, 2) := by decide +kernel
theorem dX0_read_29 : decode cX0_read 29 = .ok (.imul, 1) := by decide +kernel
theorem dX0_read_30 : decode cX0_read 30 = .ok (.iload_n 2, 1) := by decide +kernel
theorem dX0_read_31 : decode cX0_read 31 = .ok (.iadd, 1) := by decide +kernel
theorem dX0_read_32 : decode cX0_read 32 = .ok (.iaload, 1) := by decide +kernel
theorem dX0_read_33 : decode cX0_read 33 = .ok (.ireturn, 1) := by decide +kernel
set_option maxRecDepth 20000 in
theorem ggX0_changesPage_X0_read : GoodIn wsX0_changesPage wsX0_read := goodIn_r _ [5, 6, 7, 8, 9, 4, 10, 11, 12, 13, 14, 15] (by decide +kernel) (by decide +kernel)
set_option maxRecDepth 20000 in
theorem gX0_changesPage_X0_read : GoodIn wsX0_changesPage (wsV RX0 27 RX0 yX0_read wsX0_read) := goodIn_app (goodIn_of _ (by decide +kernel)) ggX0_changesPage_X0_read
theorem dX0_changesPage_0 : decode cX0_changesPage 0 = .ok (.aload_n 0, 1) := by decide +kernel
theorem dX0_changesPage_1 : decode cX0_changesPage 1 = .ok (.iload_n 1, 1) := by decide +kernel
theorem dX0_changesPage_2 : decode cX0_changesPage 2 = .ok (.iconst 0, 1) := by decide +kernel
theorem dX0_changesPage_3 : decode cX0_changesPage 3 = .ok (.invokevirtual 27, 3) := by decide +kernel
theorem dX0_changesPage_6 : decode cX0_changesPage 6 = .ok (.istore_n 2, 1) := by decide +kernel
theorem dX0_changesPage_7 : decode cX0_changesPage 7 = .ok (.iload_n 2, 1) := by decide +kernel
theorem dX0_changesPage_8 : decode cX0_changesPage 8 = .ok (.iconst 1, 1) := by decide +kernel
theorem dX0_changesPage_9 : decode cX0_changesPage 9 = .ok (.if_icmp .eq 8, 3) := by decide +kernel
theorem dX0_changesPage_12 : decode cX0_changesPage 12 = .ok (.iload_n 2, 1) := by decide +kernel
theorem dX0_changesPage_13 : decode cX0_changesPage 13 = .ok (.iconst 2, 1) := by decide +kernel
theorem dX0_changesPage_14 : decode cX0_changesPage 14 = .ok (.if_icmp .ne 7, 3) := by decide +kernel
theorem dX0_changesPage_17 : decode cX0_changesPage 17 = .ok (.iconst 1, 1) := by decide +kernel
theorem dX0_changesPage_18 : decode cX0_changesPage 18 = .ok (.goto 4, 3) := by decide +kernel
theorem dX0_changesPage_21 : decode cX0_changesPage 21 = .ok (.iconst 0, 1) := by decide +kernel
theorem dX0_changesPage_22 : decode cX0_changesPage 22 = .ok (.ireturn, 1) := by decide +kernel
set_option maxRecDepth 20000 in
theorem ggX0_append_J7_copyOf_59c91 : GoodIn wsX0_append wsJ7_copyOf_59c91 := goodIn_r _ [7, 8, 9, 10, 11, 12, 13, 14, 15, 16, 17, 18, 19, 20, 21, 22] (by decide +kernel) (by decide +kernel)
set_option maxRecDepth 20000 in
theorem gX0_append_J7_copyOf_59c91 : GoodIn wsX0_append (va_wsS RX0 31 yJ7_copyOf_59c91 wsJ7_copyOf_59c91) := goodIn_app (goodIn_of _ (by decide +kernel)) ggX0_append_J7_copyOf_59c91
theorem dX0_append_0 : decode cX0_append 0 = .ok (.aload_n 0, 1) := by decide +kernel
theorem dX0_append_1 : decode cX0_append 1 = .ok (.getfield 13, 3) := by decide +kernel
theorem dX0_append_4 : decode cX0_append 4 = .ok (.bipush 7, 2) := by decide +kernel
theorem dX0_append_6 : decode cX0_append 6 = .ok (.imul, 1) := by decide +kernel
theorem dX0_append_7 : decode cX0_append 7 = .ok (.istore 8, 2) := by decide +kernel
theorem dX0_append_9 : decode cX0_append 9 = .ok (.iload 8, 2) := by decide +kernel
theorem dX0_append_11 : decode cX0_append 11 = .ok (.bipush 7, 2) := by decide +kernel
theorem dX0_append_13 : decode cX0_append 13 = .ok (.iadd, 1) := by decide +kernel
theorem dX0_append_14 : decode cX0_append 14 = .ok (.aload_n 0, 1) := by decide +kernel
theorem dX0_append_15 : decode cX0_append 15 = .ok (.getfield 9, 3) := by decide +kernel
theorem dX0_append_18 : decode cX0_append 18 = .ok (.arraylength, 1) := by decide +kernel
theorem dX0_append_19 : decode cX0_append 19 = .ok (.if_icmp .le 21, 3) := by decide +kernel
theorem dX0_append_22 : decode cX0_append 22 = .ok (.aload_n 0, 1) := by decide +kernel
theorem dX0_append_23 : decode cX0_append 23 = .ok (.aload_n 0, 1) := by decide +kernel
theorem dX0_append_24 : decode cX0_append 24 = .ok (.getfield 9, 3) := by decide +kernel
theorem dX0_append_27 : decode cX0_append 27 = .ok (.aload_n 0, 1) := by decide +kernel
theorem dX0_append_28 : decode cX0_append 28 = .ok (.getfield 9, 3) := by decide +kernel
theorem dX0_append_31 : decode cX0_append 31 = .ok (.arraylength, 1) := by decide +kernel
theorem dX0_append_32 : decode cX0_append 32 = .ok (.iconst 2, 1) := by decide +kernel
theorem dX0_append_33 : decode cX0_append 33 = .ok (.imul, 1) := by decide +kernel
theorem dX0_append_34 : decode cX0_append 34 = .ok (.invokestatic 31, 3) := by decide +kernel
theorem dX0_append_37 : decode cX0_append 37 = .ok (.putfield 9, 3) := by decide +kernel
theorem dX0_append_40 : decode cX0_append 40 = .ok (.aload_n 0, 1) := by decide +kernel
theorem dX0_append_41 : decode cX0_append 41 = .ok (.getfield 9, 3) := by decide +kernel
theorem dX0_append_44 : decode cX0_append 44 = .ok (.iload 8, 2) := by decide +kernel
theorem dX0_append_46 : decode cX0_append 46 = .ok (.iconst 0, 1) := by decide +kernel
theorem dX0_append_47 : decode cX0_append 47 = .ok (.iadd, 1) := by decide +kernel
theorem dX0_append_48 : decode cX0_append 48 = .ok (.iload_n 1, 1) := by decide +kernel
theorem dX0_append_49 : decode cX0_append 49 = .ok (.iastore, 1) := by decide +kernel
theorem dX0_append_50 : decode cX0_append 50 = .ok (.aload_n 0, 1) := by decide +kernel
theorem dX0_append_51 : decode cX0_append 51 = .ok (.getfield 9, 3) := by decide +kernel
theorem dX0_append_54 : decode cX0_append 54 = .ok (.iload 8, 2) := by decide +kernel
theorem dX0_append_56 : decode cX0_append 56 = .ok (.iconst 1, 1) := by decide +kernel
theorem dX0_append_57 : decode cX0_append 57 = .ok (.iadd, 1) := by decide +kernel
theorem dX0_append_58 : decode cX0_append 58 = .ok (.iload_n 2, 1) := by decide +kernel
theorem dX0_append_59 : decode cX0_append 59 = .ok (.iastore, 1) := by decide +kernel
theorem dX0_append_60 : decode cX0_append 60 = .ok (.aload_n 0, 1) := by decide +kernel
theorem dX0_append_61 : decode cX0_append 61 = .ok (.getfield 9, 3) := by decide +kernel
theorem dX0_append_64 : decode cX0_append 64 = .ok (.iload 8, 2) := by decide +kernel
theorem dX0_append_66 : decode cX0_append 66 = .ok (.iconst 2, 1) := by decide +kernel
theorem dX0_append_67 : decode cX0_append 67 = .ok (.iadd, 1) := by decide +kernel
theorem dX0_append_68 : decode cX0_append 68 = .ok (.iload_n 3, 1) := by decide +kernel
theorem dX0_append_69 : decode cX0_append 69 = .ok (.iastore, 1) := by decide +kernel
theorem dX0_append_70 : decode cX0_append 70 = .ok (.aload_n 0, 1) := by decide +kernel
theorem dX0_append_71 : decode cX0_append 71 = .ok (.getfield 9, 3) := by decide +kernel
theorem dX0_append_74 : decode cX0_append 74 = .ok (.iload 8, 2) := by decide +kernel
theorem dX0_append_76 : decode cX0_append 76 = .ok (.iconst 3, 1) := by decide +kernel
theorem dX0_append_77 : decode cX0_append 77 = .ok (.iadd, 1) := by decide +kernel
theorem dX0_append_78 : decode cX0_append 78 = .ok (.iload 4, 2) := by decide +kernel
theorem dX0_append_80 : decode cX0_append 80 = .ok (.iastore, 1) := by decide +kernel
theorem dX0_append_81 : decode cX0_append 81 = .ok (.aload_n 0, 1) := by decide +kernel
theorem dX0_append_82 : decode cX0_append 82 = .ok (.getfield 9, 3) := by decide +kernel
theorem dX0_append_85 : decode cX0_append 85 = .ok (.iload 8, 2) := by decide +kernel
theorem dX0_append_87 : decode cX0_append 87 = .ok (.iconst 4, 1) := by decide +kernel
theorem dX0_append_88 : decode cX0_append 88 = .ok (.iadd, 1) := by decide +kernel
theorem dX0_append_89 : decode cX0_append 89 = .ok (.iload 5, 2) := by decide +kernel
theorem dX0_append_91 : decode cX0_append 91 = .ok (.iastore, 1) := by decide +kernel
theorem dX0_append_92 : decode cX0_append 92 = .ok (.aload_n 0, 1) := by decide +kernel
theorem dX0_append_93 : decode cX0_append 93 = .ok (.getfield 9, 3) := by decide +kernel
theorem dX0_append_96 : decode cX0_append 96 = .ok (.iload 8, 2) := by decide +kernel
theorem dX0_append_98 : decode cX0_append 98 = .ok (.iconst 5, 1) := by decide +kernel
theorem dX0_append_99 : decode cX0_append 99 = .ok (.iadd, 1) := by decide +kernel
theorem dX0_append_100 : decode cX0_append 100 = .ok (.iload 6, 2) := by decide +kernel
theorem dX0_append_102 : decode cX0_append 102 = .ok (.iastore, 1) := by decide +kernel
theorem dX0_append_103 : decode cX0_append 103 = .ok (.aload_n 0, 1) := by decide +kernel
theorem dX0_append_104 : decode cX0_append 104 = .ok (.getfield 9, 3) := by decide +kernel
theorem dX0_append_107 : decode cX0_append 107 = .ok (.iload 8, 2) := by decide +kernel
theorem dX0_append_109 : decode cX0_append 109 = .ok (.bipush 6, 2) := by decide +kernel
theorem dX0_append_111 : decode cX0_append 111 = .ok (.iadd, 1) := by decide +kernel
theorem dX0_append_112 : decode cX0_append 112 = .ok (.iload 7, 2) := by decide +kernel
theorem dX0_append_114 : decode cX0_append 114 = .ok (.iastore, 1) := by decide +kernel
theorem dX0_append_115 : decode cX0_append 115 = .ok (.aload_n 0, 1) := by decide +kernel
theorem dX0_append_116 : decode cX0_append 116 = .ok (.dup, 1) := by decide +kernel
theorem dX0_append_117 : decode cX0_append 117 = .ok (.getfield 13, 3) := by decide +kernel
theorem dX0_append_120 : decode cX0_append 120 = .ok (.iconst 1, 1) := by decide +kernel
theorem dX0_append_121 : decode cX0_append 121 = .ok (.iadd, 1) := by decide +kernel
theorem dX0_append_122 : decode cX0_append 122 = .ok (.putfield 13, 3) := by decide +kernel
theorem dX0_append_125 : decode cX0_append 125 = .ok (.iload_n 1, 1) := by decide +kernel
theorem dX0_append_126 : decode cX0_append 126 = .ok (.iconst 1, 1) := by decide +kernel
theorem dX0_append_127 : decode cX0_append 127 = .ok (.if_icmp .ne 13, 3) := by decide +kernel
theorem dX0_append_130 : decode cX0_append 130 = .ok (.aload_n 0, 1) := by decide +kernel
theorem dX0_append_131 : decode cX0_append 131 = .ok (.dup, 1) := by decide +kernel
theorem dX0_append_132 : decode cX0_append 132 = .ok (.getfield 20, 3) := by decide +kernel
theorem dX0_append_135 : decode cX0_append 135 = .ok (.iconst 1, 1) := by decide +kernel
theorem dX0_append_136 : decode cX0_append 136 = .ok (.iadd, 1) := by decide +kernel
theorem dX0_append_137 : decode cX0_append 137 = .ok (.putfield 20, 3) := by decide +kernel
theorem dX0_append_140 : decode cX0_append 140 = .ok (.aload_n 0, 1) := by decide +kernel
theorem dX0_append_141 : decode cX0_append 141 = .ok (.getfield 13, 3) := by decide +kernel
theorem dX0_append_144 : decode cX0_append 144 = .ok (.ireturn, 1) := by decide +kernel
set_option maxRecDepth 20000 in
theorem ggX0_undoingBehind_X0_read : GoodIn wsX0_undoingBehind wsX0_read := goodIn_r _ [5, 6, 7, 8, 9, 4, 10, 11, 12, 13, 14, 15] (by decide +kernel) (by decide +kernel)
set_option maxRecDepth 20000 in
theorem gX0_undoingBehind_X0_read : GoodIn wsX0_undoingBehind (wsV RX0 27 RX0 yX0_read wsX0_read) := goodIn_app (goodIn_of _ (by decide +kernel)) ggX0_undoingBehind_X0_read
theorem dX0_undoingBehind_0 : decode cX0_undoingBehind 0 = .ok (.aload_n 0, 1) := by decide +kernel
theorem dX0_undoingBehind_1 : decode cX0_undoingBehind 1 = .ok (.iload_n 1, 1) := by decide +kernel
theorem dX0_undoingBehind_2 : decode cX0_undoingBehind 2 = .ok (.iconst 2, 1) := by decide +kernel
theorem dX0_undoingBehind_3 : decode cX0_undoingBehind 3 = .ok (.invokevirtual 27, 3) := by decide +kernel
theorem dX0_undoingBehind_6 : decode cX0_undoingBehind 6 = .ok (.istore_n 2, 1) := by decide +kernel
theorem dX0_undoingBehind_7 : decode cX0_undoingBehind 7 = .ok (.aload_n 0, 1) := by decide +kernel
theorem dX0_undoingBehind_8 : decode cX0_undoingBehind 8 = .ok (.iload_n 2, 1) := by decide +kernel
theorem dX0_undoingBehind_9 : decode cX0_undoingBehind 9 = .ok (.iconst 0, 1) := by decide +kernel
theorem dX0_undoingBehind_10 : decode cX0_undoingBehind 10 = .ok (.invokevirtual 27, 3) := by decide +kernel
theorem dX0_undoingBehind_13 : decode cX0_undoingBehind 13 = .ok (.iconst 2, 1) := by decide +kernel
theorem dX0_undoingBehind_14 : decode cX0_undoingBehind 14 = .ok (.if_icmp .ne 13, 3) := by decide +kernel
theorem dX0_undoingBehind_17 : decode cX0_undoingBehind 17 = .ok (.aload_n 0, 1) := by decide +kernel
theorem dX0_undoingBehind_18 : decode cX0_undoingBehind 18 = .ok (.iload_n 2, 1) := by decide +kernel
theorem dX0_undoingBehind_19 : decode cX0_undoingBehind 19 = .ok (.bipush 6, 2) := by decide +kernel
theorem dX0_undoingBehind_21 : decode cX0_undoingBehind 21 = .ok (.invokevirtual 27, 3) := by decide +kernel
theorem dX0_undoingBehind_24 : decode cX0_undoingBehind 24 = .ok (.goto 4, 3) := by decide +kernel
theorem dX0_undoingBehind_27 : decode cX0_undoingBehind 27 = .ok (.iload_n 2, 1) := by decide +kernel
theorem dX0_undoingBehind_28 : decode cX0_undoingBehind 28 = .ok (.ireturn, 1) := by decide +kernel
theorem dX0_forceUpTo_0 : decode cX0_forceUpTo 0 = .ok (.aload_n 0, 1) := by decide +kernel
theorem dX0_forceUpTo_1 : decode cX0_forceUpTo 1 = .ok (.aload_n 0, 1) := by decide +kernel
theorem dX0_forceUpTo_2 : decode cX0_forceUpTo 2 = .ok (.getfield 17, 3) := by decide +kernel
theorem dX0_forceUpTo_5 : decode cX0_forceUpTo 5 = .ok (.iload_n 1, 1) := by decide +kernel
theorem dX0_forceUpTo_6 : decode cX0_forceUpTo 6 = .ok (.aload_n 0, 1) := by decide +kernel
theorem dX0_forceUpTo_7 : decode cX0_forceUpTo 7 = .ok (.getfield 13, 3) := by decide +kernel
theorem dX0_forceUpTo_10 : decode cX0_forceUpTo 10 = .ok (.invokestatic 37, 3) := by decide +kernel
theorem dX0_forceUpTo_13 : decode cX0_forceUpTo 13 = .ok (.invokestatic 42, 3) := by decide +kernel
theorem dX0_forceUpTo_16 : decode cX0_forceUpTo 16 = .ok (.putfield 17, 3) := by decide +kernel
theorem dX0_forceUpTo_19 : decode cX0_forceUpTo 19 = .ok (.return_, 1) := by decide +kernel
set_option maxRecDepth 20000 in
theorem ggX0_loseBehind_X0_read : GoodIn wsX0_loseBehind wsX0_read := goodIn_r _ [12, 13, 14, 15, 16, 11, 17, 2, 18, 19, 20, 21] (by decide +kernel) (by decide +kernel)
set_option maxRecDepth 20000 in
theorem gX0_loseBehind_X0_read : GoodIn wsX0_loseBehind (wsV RX0 27 RX0 yX0_read wsX0_read) := goodIn_app (goodIn_of _ (by decide +kernel)) ggX0_loseBehind_X0_read
theorem dX0_loseBehind_0 : decode cX0_loseBehind 0 = .ok (.aload_n 0, 1) := by decide +kernel
theorem dX0_loseBehind_1 : decode cX0_loseBehind 1 = .ok (.getfield 17, 3) := by decide +kernel
theorem dX0_loseBehind_4 : decode cX0_loseBehind 4 = .ok (.iload_n 1, 1) := by decide +kernel
theorem dX0_loseBehind_5 : decode cX0_loseBehind 5 = .ok (.aload_n 0, 1) := by decide +kernel
theorem dX0_loseBehind_6 : decode cX0_loseBehind 6 = .ok (.getfield 13, 3) := by decide +kernel
theorem dX0_loseBehind_9 : decode cX0_loseBehind 9 = .ok (.aload_n 0, 1) := by decide +kernel
theorem dX0_loseBehind_10 : decode cX0_loseBehind 10 = .ok (.getfield 17, 3) := by decide +kernel
theorem dX0_loseBehind_13 : decode cX0_loseBehind 13 = .ok (.isub, 1) := by decide +kernel
theorem dX0_loseBehind_14 : decode cX0_loseBehind 14 = .ok (.invokestatic 37, 3) := by decide +kernel
theorem dX0_loseBehind_17 : decode cX0_loseBehind 17 = .ok (.iadd, 1) := by decide +kernel
theorem dX0_loseBehind_18 : decode cX0_loseBehind 18 = .ok (.istore_n 2, 1) := by decide +kernel
theorem dX0_loseBehind_19 : decode cX0_loseBehind 19 = .ok (.iload_n 2, 1) := by decide +kernel
theorem dX0_loseBehind_20 : decode cX0_loseBehind 20 = .ok (.iconst 1, 1) := by decide +kernel
theorem dX0_loseBehind_21 : decode cX0_loseBehind 21 = .ok (.iadd, 1) := by decide +kernel
theorem dX0_loseBehind_22 : decode cX0_loseBehind 22 = .ok (.istore_n 3, 1) := by decide +kernel
theorem dX0_loseBehind_23 : decode cX0_loseBehind 23 = .ok (.iload_n 3, 1) := by decide +kernel
theorem dX0_loseBehind_24 : decode cX0_loseBehind 24 = .ok (.aload_n 0, 1) := by decide +kernel
theorem dX0_loseBehind_25 : decode cX0_loseBehind 25 = .ok (.getfield 13, 3) := by decide +kernel
theorem dX0_loseBehind_28 : decode cX0_loseBehind 28 = .ok (.if_icmp .gt 29, 3) := by decide +kernel
theorem dX0_loseBehind_31 : decode cX0_loseBehind 31 = .ok (.aload_n 0, 1) := by decide +kernel
theorem dX0_loseBehind_32 : decode cX0_loseBehind 32 = .ok (.iload_n 3, 1) := by decide +kernel
theorem dX0_loseBehind_33 : decode cX0_loseBehind 33 = .ok (.iconst 0, 1) := by decide +kernel
theorem dX0_loseBehind_34 : decode cX0_loseBehind 34 = .ok (.invokevirtual 27, 3) := by decide +kernel
theorem dX0_loseBehind_37 : decode cX0_loseBehind 37 = .ok (.iconst 1, 1) := by decide +kernel
theorem dX0_loseBehind_38 : decode cX0_loseBehind 38 = .ok (.if_icmp .ne 13, 3) := by decide +kernel
theorem dX0_loseBehind_41 : decode cX0_loseBehind 41 = .ok (.aload_n 0, 1) := by decide +kernel
theorem dX0_loseBehind_42 : decode cX0_loseBehind 42 = .ok (.dup, 1) := by decide +kernel
theorem dX0_loseBehind_43 : decode cX0_loseBehind 43 = .ok (.getfield 20, 3) := by decide +kernel
theorem dX0_loseBehind_46 : decode cX0_loseBehind 46 = .ok (.iconst 1, 1) := by decide +kernel
theorem dX0_loseBehind_47 : decode cX0_loseBehind 47 = .ok (.isub, 1) := by decide +kernel
theorem dX0_loseBehind_48 : decode cX0_loseBehind 48 = .ok (.putfield 20, 3) := by decide +kernel
theorem dX0_loseBehind_51 : decode cX0_loseBehind 51 = .ok (.iinc 3 1, 3) := by decide +kernel
theorem dX0_loseBehind_54 : decode cX0_loseBehind 54 = .ok (.goto (-31), 3) := by decide +kernel
theorem dX0_loseBehind_57 : decode cX0_loseBehind 57 = .ok (.aload_n 0, 1) := by decide +kernel
theorem dX0_loseBehind_58 : decode cX0_loseBehind 58 = .ok (.iload_n 2, 1) := by decide +kernel
theorem dX0_loseBehind_59 : decode cX0_loseBehind 59 = .ok (.putfield 13, 3) := by decide +kernel
theorem dX0_loseBehind_62 : decode cX0_loseBehind 62 = .ok (.aload_n 0, 1) := by decide +kernel
theorem dX0_loseBehind_63 : decode cX0_loseBehind 63 = .ok (.iload_n 2, 1) := by decide +kernel
theorem dX0_loseBehind_64 : decode cX0_loseBehind 64 = .ok (.putfield 17, 3) := by decide +kernel
theorem dX0_loseBehind_67 : decode cX0_loseBehind 67 = .ok (.return_, 1) := by decide +kernel
end
section
theorem dX1_init_0 : decode cX1_init 0 = .ok (.aload_n 0, 1) := by decide +kernel
theorem dX1_init_1 : decode cX1_init 1 = .ok (.invokespecial 1, 3) := by decide +kernel
theorem dX1_init_4 : decode cX1_init 4 = .ok (.aload_n 0, 1) := by decide +kernel
theorem dX1_init_5 : decode cX1_init 5 = .ok (.sipush 512, 3) := by decide +kernel
theorem dX1_init_8 : decode cX1_init 8 = .ok (.newarray .int, 2) := by decide +kernel
theorem dX1_init_10 : decode cX1_init 10 = .ok (.putfield 9, 3) := by decide +kernel
theorem dX1_init_13 : decode cX1_init 13 = .ok (.aload_n 0, 1) := by decide +kernel
theorem dX1_init_14 : decode cX1_init 14 = .ok (.bipush 64, 2) := by decide +kernel
theorem dX1_init_16 : decode cX1_init 16 = .ok (.newarray .int, 2) := by decide +kernel
theorem dX1_init_18 : decode cX1_init 18 = .ok (.putfield 13, 3) := by decide +kernel
theorem dX1_init_21 : decode cX1_init 21 = .ok (.aload_n 0, 1) := by decide +kernel
theorem dX1_init_22 : decode cX1_init 22 = .ok (.sipush 512, 3) := by decide +kernel
theorem dX1_init_25 : decode cX1_init 25 = .ok (.newarray .int, 2) := by decide +kernel
theorem dX1_init_27 : decode cX1_init 27 = .ok (.putfield 16, 3) := by decide +kernel
theorem dX1_init_30 : decode cX1_init 30 = .ok (.aload_n 0, 1) := by decide +kernel
theorem dX1_init_31 : decode cX1_init 31 = .ok (.bipush 64, 2) := by decide +kernel
theorem dX1_init_33 : decode cX1_init 33 = .ok (.newarray .int, 2) := by decide +kernel
theorem dX1_init_35 : decode cX1_init 35 = .ok (.putfield 19, 3) := by decide +kernel
theorem dX1_init_38 : decode cX1_init 38 = .ok (.return_, 1) := by decide +kernel
theorem dX1_hasPage_0 : decode cX1_hasPage 0 = .ok (.iload_n 0, 1) := by decide +kernel
theorem dX1_hasPage_1 : decode cX1_hasPage 1 = .ok (.ifCond .lt 13, 3) := by decide +kernel
theorem dX1_hasPage_4 : decode cX1_hasPage 4 = .ok (.iload_n 0, 1) := by decide +kernel
theorem dX1_hasPage_5 : decode cX1_hasPage 5 = .ok (.bipush 64, 2) := by decide +kernel
theorem dX1_hasPage_7 : decode cX1_hasPage 7 = .ok (.if_icmp .ge 7, 3) := by decide +kernel
theorem dX1_hasPage_10 : decode cX1_hasPage 10 = .ok (.iconst 1, 1) := by decide +kernel
theorem dX1_hasPage_11 : decode cX1_hasPage 11 = .ok (.goto 4, 3) := by decide +kernel
theorem dX1_hasPage_14 : decode cX1_hasPage 14 = .ok (.iconst 0, 1) := by decide +kernel
theorem dX1_hasPage_15 : decode cX1_hasPage 15 = .ok (.ireturn, 1) := by decide +kernel
theorem dX1_hasPlace_0 : decode cX1_hasPlace 0 = .ok (.iload_n 0, 1) := by decide +kernel
theorem dX1_hasPlace_1 : decode cX1_hasPlace 1 = .ok (.ifCond .lt 23, 3) := by decide +kernel
theorem dX1_hasPlace_4 : decode cX1_hasPlace 4 = .ok (.iload_n 0, 1) := by decide +kernel
theorem dX1_hasPlace_5 : decode cX1_hasPlace 5 = .ok (.bipush 64, 2) := by decide +kernel
theorem dX1_hasPlace_7 : decode cX1_hasPlace 7 = .ok (.if_icmp .ge 17, 3) := by decide +kernel
theorem dX1_hasPlace_10 : decode cX1_hasPlace 10 = .ok (.iload_n 1, 1) := by decide +kernel
theorem dX1_hasPlace_11 : decode cX1_hasPlace 11 = .ok (.ifCond .lt 13, 3) := by decide +kernel
theorem dX1_hasPlace_14 : decode cX1_hasPlace 14 = .ok (.iload_n 1, 1) := by decide +kernel
theorem dX1_hasPlace_15 : decode cX1_hasPlace 15 = .ok (.bipush 8, 2) := by decide +kernel
theorem dX1_hasPlace_17 : decode cX1_hasPlace 17 = .ok (.if_icmp .ge 7, 3) := by decide +kernel
theorem dX1_hasPlace_20 : decode cX1_hasPlace 20 = .ok (.iconst 1, 1) := by decide +kernel
theorem dX1_hasPlace_21 : decode cX1_hasPlace 21 = .ok (.goto 4, 3) := by decide +kernel
theorem dX1_hasPlace_24 : decode cX1_hasPlace 24 = .ok (.iconst 0, 1) := by decide +kernel
theorem dX1_hasPlace_25 : decode cX1_hasPlace 25 = .ok (.ireturn, 1) := by decide +kernel
set_option maxRecDepth 20000 in
theorem ggX1_valueOf_X1_hasPlace : GoodIn wsX1_valueOf wsX1_hasPlace := goodIn_r _ [5] (by decide +kernel) (by decide +kernel)
set_option maxRecDepth 20000 in
theorem gX1_valueOf_X1_hasPlace : GoodIn wsX1_valueOf (va_wsS RX1 22 yX1_hasPlace wsX1_hasPlace) := goodIn_app (goodIn_of _ (by decide +kernel)) ggX1_valueOf_X1_hasPlace
theorem dX1_valueOf_0 : decode cX1_valueOf 0 = .ok (.iload_n 1, 1) := by decide +kernel
theorem dX1_valueOf_1 : decode cX1_valueOf 1 = .ok (.iload_n 2, 1) := by decide +kernel
theorem dX1_valueOf_2 : decode cX1_valueOf 2 = .ok (.invokestatic 22, 3) := by decide +kernel
theorem dX1_valueOf_5 : decode cX1_valueOf 5 = .ok (.ifCond .eq 17, 3) := by decide +kernel
theorem dX1_valueOf_8 : decode cX1_valueOf 8 = .ok (.aload_n 0, 1) := by decide +kernel
theorem dX1_valueOf_9 : decode cX1_valueOf 9 = .ok (.getfield 9, 3) := by decide +kernel
theorem dX1_valueOf_12 : decode cX1_valueOf 12 = .ok (.iload_n 1, 1) := by decide +kernel
theorem dX1_valueOf_13 : decode cX1_valueOf 13 = .ok (.bipush 8, 2) := by decide +kernel
theorem dX1_valueOf_15 : decode cX1_valueOf 15 = .ok (.imul, 1) := by decide +kernel
theorem dX1_valueOf_16 : decode cX1_valueOf 16 = .ok (.iload_n 2, 1) := by decide +kernel
theorem dX1_valueOf_17 : decode cX1_valueOf 17 = .ok (.iadd, 1) := by decide +kernel
theorem dX1_valueOf_18 : decode cX1_valueOf 18 = .ok (.iaload, 1) := by decide +kernel
theorem dX1_valueOf_19 : decode cX1_valueOf 19 = .ok (.goto 4, 3) := by decide +kernel
theorem dX1_valueOf_22 : decode cX1_valueOf 22 = .ok (.iconst 0, 1) := by decide +kernel
theorem dX1_valueOf_23 : decode cX1_valueOf 23 = .ok (.ireturn, 1) := by decide +kernel
set_option maxRecDepth 20000 in
theorem ggX1_markOf_X1_hasPage : GoodIn wsX1_markOf wsX1_hasPage := goodIn_r _ [5] (by decide +kernel) (by decide +kernel)
set_option maxRecDepth 20000 in
theorem gX1_markOf_X1_hasPage : GoodIn wsX1_markOf (va_wsS RX1 26 yX1_hasPage wsX1_hasPage) := goodIn_app (goodIn_of _ (by decide +kernel)) ggX1_markOf_X1_hasPage
theorem dX1_markOf_0 : decode cX1_markOf 0 = .ok (.iload_n 1, 1) := by decide +kernel
theorem dX1_markOf_1 : decode cX1_markOf 1 = .ok (.invokestatic 26, 3) := by decide +kernel
theorem dX1_markOf_4 : decode cX1_markOf 4 = .ok (.ifCond .eq 12, 3) := by decide +kernel
theorem dX1_markOf_7 : decode cX1_markOf 7 = .ok (.aload_n 0, 1) := by decide +kernel
theorem dX1_markOf_8 : decode cX1_markOf 8 = .ok (.getfield 13, 3) := by decide +kernel
theorem dX1_markOf_11 : decode cX1_markOf 11 = .ok (.iload_n 1, 1) := by decide +kernel
theorem dX1_markOf_12 : decode cX1_markOf 12 = .ok (.iaload, 1) := by decide +kernel
theorem dX1_markOf_13 : decode cX1_markOf 13 = .ok (.goto 4, 3) := by decide +kernel
theorem dX1_markOf_16 : decode cX1_markOf 16 = .ok (.iconst 0, 1) := by decide +kernel
theorem dX1_markOf_17 : decode cX1_markOf 17 = .ok (.ireturn, 1) := by decide +kernel
set_option maxRecDepth 20000 in
theorem ggX1_mediumMarkOf_X1_hasPage : GoodIn wsX1_mediumMarkOf wsX1_hasPage := goodIn_r _ [5] (by decide +kernel) (by decide +kernel)
set_option maxRecDepth 20000 in
theorem gX1_mediumMarkOf_X1_hasPage : GoodIn wsX1_mediumMarkOf (va_wsS RX1 26 yX1_hasPage wsX1_hasPage) := goodIn_app (goodIn_of _ (by decide +kernel)) ggX1_mediumMarkOf_X1_hasPage
theorem dX1_mediumMarkOf_0 : decode cX1_mediumMarkOf 0 = .ok (.iload_n 1, 1) := by decide +kernel
theorem dX1_mediumMarkOf_1 : decode cX1_mediumMarkOf 1 = .ok (.invokestatic 26, 3) := by decide +kernel
theorem dX1_mediumMarkOf_4 : decode cX1_mediumMarkOf 4 = .ok (.ifCond .eq 12, 3) := by decide +kernel
theorem dX1_mediumMarkOf_7 : decode cX1_mediumMarkOf 7 = .ok (.aload_n 0, 1) := by decide +kernel
theorem dX1_mediumMarkOf_8 : decode cX1_mediumMarkOf 8 = .ok (.getfield 19, 3) := by decide +kernel
theorem dX1_mediumMarkOf_11 : decode cX1_mediumMarkOf 11 = .ok (.iload_n 1, 1) := by decide +kernel
theorem dX1_mediumMarkOf_12 : decode cX1_mediumMarkOf 12 = .ok (.iaload, 1) := by decide +kernel
theorem dX1_mediumMarkOf_13 : decode cX1_mediumMarkOf 13 = .ok (.goto 4, 3) := by decide +kernel
theorem dX1_mediumMarkOf_16 : decode cX1_mediumMarkOf 16 = .ok (.iconst 0, 1) := by decide +kernel
theorem dX1_mediumMarkOf_17 : decode cX1_mediumMarkOf 17 = .ok (.ireturn, 1) := by decide +kernel
set_option maxRecDepth 20000 in
theorem ggX1_change_X1_hasPlace : GoodIn wsX1_change wsX1_hasPlace := goodIn_r _ [6] (by decide +kernel) (by decide +kernel)
set_option maxRecDepth 20000 in
theorem gX1_change_X1_hasPlace : GoodIn wsX1_change (va_wsS RX1 22 yX1_hasPlace wsX1_hasPlace) := goodIn_app (goodIn_of _ (by decide +kernel)) ggX1_change_X1_hasPlace
theorem dX1_change_0 : decode cX1_change 0 = .ok (.iload_n 1, 1) := by decide +kernel
theorem dX1_change_1 : decode cX1_change 1 = .ok (.iload_n 2, 1) := by decide +kernel
theorem dX1_change_2 : decode cX1_change 2 = .ok (.invokestatic 22, 3) := by decide +kernel
theorem dX1_change_5 : decode cX1_change 5 = .ok (.ifCond .eq 26, 3) := by decide +kernel
theorem dX1_change_8 : decode cX1_change 8 = .ok (.aload_n 0, 1) := by decide +kernel
theorem dX1_change_9 : decode cX1_change 9 = .ok (.getfield 9, 3) := by decide +kernel
theorem dX1_change_12 : decode cX1_change 12 = .ok (.iload_n 1, 1) := by decide +kernel
theorem dX1_change_13 : decode cX1_change 13 = .ok (.bipush 8, 2) := by decide +kernel
theorem dX1_change_15 : decode cX1_change 15 = .ok (.imul, 1) := by decide +kernel
theorem dX1_change_16 : decode cX1_change 16 = .ok (.iload_n 2, 1) := by decide +kernel
theorem dX1_change_17 : decode cX1_change 17 = .ok (.iadd, 1) := by decide +kernel
theorem dX1_change_18 : decode cX1_change 18 = .ok (.dup2, 1) := by decide +kernel
theorem dX1_change_19 : decode cX1_change 19 = .ok (.iaload, 1) := by decide +kernel
theorem dX1_change_20 : decode cX1_change 20 = .ok (.iload_n 3, 1) := by decide +kernel
theorem dX1_change_21 : decode cX1_change 21 = .ok (.iadd, 1) := by decide +kernel
theorem dX1_change_22 : decode cX1_change 22 = .ok (.iastore, 1) := by decide +kernel
theorem dX1_change_23 : decode cX1_change 23 = .ok (.aload_n 0, 1) := by decide +kernel
theorem dX1_change_24 : decode cX1_change 24 = .ok (.getfield 13, 3) := by decide +kernel
theorem dX1_change_27 : decode cX1_change 27 = .ok (.iload_n 1, 1) := by decide +kernel
theorem dX1_change_28 : decode cX1_change 28 = .ok (.iload 4, 2) := by decide +kernel
theorem dX1_change_30 : decode cX1_change 30 = .ok (.iastore, 1) := by decide +kernel
theorem dX1_change_31 : decode cX1_change 31 = .ok (.return_, 1) := by decide +kernel
set_option maxRecDepth 20000 in
theorem ggX1_copyToMedium_X1_hasPage : GoodIn wsX1_copyToMedium wsX1_hasPage := goodIn_r _ [12] (by decide +kernel) (by decide +kernel)
set_option maxRecDepth 20000 in
theorem gX1_copyToMedium_X1_hasPage : GoodIn wsX1_copyToMedium (va_wsS RX1 26 yX1_hasPage wsX1_hasPage) := goodIn_app (goodIn_of _ (by decide +kernel)) ggX1_copyToMedium_X1_hasPage
theorem dX1_copyToMedium_0 : decode cX1_copyToMedium 0 = .ok (.iload_n 1, 1) := by decide +kernel
theorem dX1_copyToMedium_1 : decode cX1_copyToMedium 1 = .ok (.invokestatic 26, 3) := by decide +kernel
theorem dX1_copyToMedium_4 : decode cX1_copyToMedium 4 = .ok (.ifCond .eq 36, 3) := by decide +kernel
theorem dX1_copyToMedium_7 : decode cX1_copyToMedium 7 = .ok (.aload_n 0, 1) := by decide +kernel
theorem dX1_copyToMedium_8 : decode cX1_copyToMedium 8 = .ok (.getfield 9, 3) := by decide +kernel
theorem dX1_copyToMedium_11 : decode cX1_copyToMedium 11 = .ok (.iload_n 1, 1) := by decide +kernel
theorem dX1_copyToMedium_12 : decode cX1_copyToMedium 12 = .ok (.bipush 8, 2) := by decide +kernel
theorem dX1_copyToMedium_14 : decode cX1_copyToMedium 14 = .ok (.imul, 1) := by decide +kernel
theorem dX1_copyToMedium_15 : decode cX1_copyToMedium 15 = .ok (.aload_n 0, 1) := by decide +kernel
theorem dX1_copyToMedium_16 : decode cX1_copyToMedium 16 = .ok (.getfield 16, 3) := by decide +kernel
theorem dX1_copyToMedium_19 : decode cX1_copyToMedium 19 = .ok (.iload_n 1, 1) := by decide +kernel
theorem dX1_copyToMedium_20 : decode cX1_copyToMedium 20 = .ok (.bipush 8, 2) := by decide +kernel
theorem dX1_copyToMedium_22 : decode cX1_copyToMedium 22 = .ok (.imul, 1) := by decide +kernel
theorem dX1_copyToMedium_23 : decode cX1_copyToMedium 23 = .ok (.bipush 8, 2) := by decide +kernel
theorem dX1_copyToMedium_25 : decode cX1_copyToMedium 25 = .ok (.invokestatic 30, 3) := by decide +kernel
theorem dX1_copyToMedium_28 : decode cX1_copyToMedium 28 = .ok (.aload_n 0, 1) := by decide +kernel
theorem dX1_copyToMedium_29 : decode cX1_copyToMedium 29 = .ok (.getfield 19, 3) := by decide +kernel
theorem dX1_copyToMedium_32 : decode cX1_copyToMedium 32 = .ok (.iload_n 1, 1) := by decide +kernel
theorem dX1_copyToMedium_33 : decode cX1_copyToMedium 33 = .ok (.aload_n 0, 1) := by decide +kernel
theorem dX1_copyToMedium_34 : decode cX1_copyToMedium 34 = .ok (.getfield 13, 3) := by decide +kernel
theorem dX1_copyToMedium_37 : decode cX1_copyToMedium 37 = .ok (.iload_n 1, 1) := by decide +kernel
theorem dX1_copyToMedium_38 : decode cX1_copyToMedium 38 = .ok (.iaload, 1) := by decide +kernel
theorem dX1_copyToMedium_39 : decode cX1_copyToMedium 39 = .ok (.iastore, 1) := by decide +kernel
theorem dX1_copyToMedium_40 : decode cX1_copyToMedium 40 = .ok (.return_, 1) := by decide +kernel
theorem dX1_readAllFromMedium_0 : decode cX1_readAllFromMedium 0 = .ok (.aload_n 0, 1) := by decide +kernel
theorem dX1_readAllFromMedium_1 : decode cX1_readAllFromMedium 1 = .ok (.getfield 16, 3) := by decide +kernel
theorem dX1_readAllFromMedium_4 : decode cX1_readAllFromMedium 4 = .ok (.iconst 0, 1) := by decide +kernel
theorem dX1_readAllFromMedium_5 : decode cX1_readAllFromMedium 5 = .ok (.aload_n 0, 1) := by decide +kernel
theorem dX1_readAllFromMedium_6 : decode cX1_readAllFromMedium 6 = .ok (.getfield 9, 3) := by decide +kernel
theorem dX1_readAllFromMedium_9 : decode cX1_readAllFromMedium 9 = .ok (.iconst 0, 1) := by decide +kernel
theorem dX1_readAllFromMedium_10 : decode cX1_readAllFromMedium 10 = .ok (.sipush 512, 3) := by decide +kernel
theorem dX1_readAllFromMedium_13 : decode cX1_readAllFromMedium 13 = .ok (.invokestatic 30, 3) := by decide +kernel
theorem dX1_readAllFromMedium_16 : decode cX1_readAllFromMedium 16 = .ok (.aload_n 0, 1) := by decide +kernel
theorem dX1_readAllFromMedium_17 : decode cX1_readAllFromMedium 17 = .ok (.getfield 19, 3) := by decide +kernel
theorem dX1_readAllFromMedium_20 : decode cX1_readAllFromMedium 20 = .ok (.iconst 0, 1) := by decide +kernel
theorem dX1_readAllFromMedium_21 : decode cX1_readAllFromMedium 21 = .ok (.aload_n 0, 1) := by decide +kernel
theorem dX1_readAllFromMedium_22 : decode cX1_readAllFromMedium 22 = .ok (.getfield 13, 3) := by decide +kernel
theorem dX1_readAllFromMedium_25 : decode cX1_readAllFromMedium 25 = .ok (.iconst 0, 1) := by decide +kernel
theorem dX1_readAllFromMedium_26 : decode cX1_readAllFromMedium 26 = .ok (.bipush 64, 2) := by decide +kernel
theorem dX1_readAllFromMedium_28 : decode cX1_readAllFromMedium 28 = .ok (.invokestatic 30, 3) := by decide +kernel
theorem dX1_readAllFromMedium_31 : decode cX1_readAllFromMedium 31 = .ok (.return_, 1) := by decide +kernel
end
section
theorem dX2_init_0 : decode cX2_init 0 = .ok (.aload_n 0, 1) := by decide +kernel
theorem dX2_init_1 : decode cX2_init 1 = .ok (.invokespecial 1, 3) := by decide +kernel
theorem dX2_init_4 : decode cX2_init 4 = .ok (.aload_n 0, 1) := by decide +kernel
theorem dX2_init_5 : decode cX2_init 5 = .ok (.iconst 0, 1) := by decide +kernel
theorem dX2_init_6 : decode cX2_init 6 = .ok (.putfield 7, 3) := by decide +kernel
theorem dX2_init_9 : decode cX2_init 9 = .ok (.aload_n 0, 1) := by decide +kernel
theorem dX2_init_10 : decode cX2_init 10 = .ok (.bipush 16, 2) := by decide +kernel
theorem dX2_init_12 : decode cX2_init 12 = .ok (.newarray .int, 2) := by decide +kernel
theorem dX2_init_14 : decode cX2_init 14 = .ok (.putfield 13, 3) := by decide +kernel
theorem dX2_init_17 : decode cX2_init 17 = .ok (.aload_n 0, 1) := by decide +kernel
theorem dX2_init_18 : decode cX2_init 18 = .ok (.bipush 16, 2) := by decide +kernel
theorem dX2_init_20 : decode cX2_init 20 = .ok (.newarray .int, 2) := by decide +kernel
theorem dX2_init_22 : decode cX2_init 22 = .ok (.putfield 17, 3) := by decide +kernel
theorem dX2_init_25 : decode cX2_init 25 = .ok (.aload_n 0, 1) := by decide +kernel
theorem dX2_init_26 : decode cX2_init 26 = .ok (.bipush 16, 2) := by decide +kernel
theorem dX2_init_28 : decode cX2_init 28 = .ok (.newarray .int, 2) := by decide +kernel
theorem dX2_init_30 : decode cX2_init 30 = .ok (.putfield 20, 3) := by decide +kernel
theorem dX2_init_33 : decode cX2_init 33 = .ok (.aload_n 0, 1) := by decide +kernel
theorem dX2_init_34 : decode cX2_init 34 = .ok (.bipush 16, 2) := by decide +kernel
theorem dX2_init_36 : decode cX2_init 36 = .ok (.newarray .int, 2) := by decide +kernel
theorem dX2_init_38 : decode cX2_init 38 = .ok (.putfield 23, 3) := by decide +kernel
theorem dX2_init_41 : decode cX2_init 41 = .ok (.aload_n 0, 1) := by decide +kernel
theorem dX2_init_42 : decode cX2_init 42 = .ok (.bipush 64, 2) := by decide +kernel
theorem dX2_init_44 : decode cX2_init 44 = .ok (.newarray .int, 2) := by decide +kernel
theorem dX2_init_46 : decode cX2_init 46 = .ok (.putfield 28, 3) := by decide +kernel
theorem dX2_init_49 : decode cX2_init 49 = .ok (.return_, 1) := by decide +kernel
theorem dX2_isFull_0 : decode cX2_isFull 0 = .ok (.aload_n 0, 1) := by decide +kernel
theorem dX2_isFull_1 : decode cX2_isFull 1 = .ok (.getfield 7, 3) := by decide +kernel
theorem dX2_isFull_4 : decode cX2_isFull 4 = .ok (.bipush 16, 2) := by decide +kernel
theorem dX2_isFull_6 : decode cX2_isFull 6 = .ok (.if_icmp .lt 7, 3) := by decide +kernel
theorem dX2_isFull_9 : decode cX2_isFull 9 = .ok (.iconst 1, 1) := by decide +kernel
theorem dX2_isFull_10 : decode cX2_isFull 10 = .ok (.goto 4, 3) := by decide +kernel
theorem dX2_isFull_13 : decode cX2_isFull 13 = .ok (.iconst 0, 1) := by decide +kernel
theorem dX2_isFull_14 : decode cX2_isFull 14 = .ok (.ireturn, 1) := by decide +kernel
set_option maxRecDepth 20000 in
theorem ggX2_holds_X2_slotOf : GoodIn wsX2_holds wsX2_slotOf := goodIn_r _ [5, 6, 7, 8, 9, 10, 11, 12, 13] (by decide +kernel) (by decide +kernel)
set_option maxRecDepth 20000 in
theorem gX2_holds_X2_slotOf : GoodIn wsX2_holds (wsV RX2 31 RX2 yX2_slotOf wsX2_slotOf) := goodIn_app (goodIn_of _ (by decide +kernel)) ggX2_holds_X2_slotOf
theorem dX2_holds_0 : decode cX2_holds 0 = .ok (.aload_n 0, 1) := by decide +kernel
theorem dX2_holds_1 : decode cX2_holds 1 = .ok (.iload_n 1, 1) := by decide +kernel
theorem dX2_holds_2 : decode cX2_holds 2 = .ok (.invokevirtual 31, 3) := by decide +kernel
theorem dX2_holds_5 : decode cX2_holds 5 = .ok (.iconst (-1), 1) := by decide +kernel
theorem dX2_holds_6 : decode cX2_holds 6 = .ok (.if_icmp .eq 7, 3) := by decide +kernel
theorem dX2_holds_9 : decode cX2_holds 9 = .ok (.iconst 1, 1) := by decide +kernel
theorem dX2_holds_10 : decode cX2_holds 10 = .ok (.goto 4, 3) := by decide +kernel
theorem dX2_holds_13 : decode cX2_holds 13 = .ok (.iconst 0, 1) := by decide +kernel
theorem dX2_holds_14 : decode cX2_holds 14 = .ok (.ireturn, 1) := by decide +kernel
theorem dX2_workAt_0 : decode cX2_workAt 0 = .ok (.iload_n 1, 1) := by decide +kernel
theorem dX2_workAt_1 : decode cX2_workAt 1 = .ok (.ifCond .lt 20, 3) := by decide +kernel
theorem dX2_workAt_4 : decode cX2_workAt 4 = .ok (.iload_n 1, 1) := by decide +kernel
theorem dX2_workAt_5 : decode cX2_workAt 5 = .ok (.aload_n 0, 1) := by decide +kernel
theorem dX2_workAt_6 : decode cX2_workAt 6 = .ok (.getfield 7, 3) := by decide +kernel
theorem dX2_workAt_9 : decode cX2_workAt 9 = .ok (.if_icmp .ge 12, 3) := by decide +kernel
theorem dX2_workAt_12 : decode cX2_workAt 12 = .ok (.aload_n 0, 1) := by decide +kernel
theorem dX2_workAt_13 : decode cX2_workAt 13 = .ok (.getfield 13, 3) := by decide +kernel
theorem dX2_workAt_16 : decode cX2_workAt 16 = .ok (.iload_n 1, 1) := by decide +kernel
theorem dX2_workAt_17 : decode cX2_workAt 17 = .ok (.iaload, 1) := by decide +kernel
theorem dX2_workAt_18 : decode cX2_workAt 18 = .ok (.goto 4, 3) := by decide +kernel
theorem dX2_workAt_21 : decode cX2_workAt 21 = .ok (.iconst 0, 1) := by decide +kernel
theorem dX2_workAt_22 : decode cX2_workAt 22 = .ok (.ireturn, 1) := by decide +kernel
set_option maxRecDepth 20000 in
theorem ggX2_stateOf_X2_slotOf : GoodIn wsX2_stateOf wsX2_slotOf := goodIn_r _ [6, 7, 8, 9, 10, 11, 12, 13, 14] (by decide +kernel) (by decide +kernel)
set_option maxRecDepth 20000 in
theorem gX2_stateOf_X2_slotOf : GoodIn wsX2_stateOf (wsV RX2 31 RX2 yX2_slotOf wsX2_slotOf) := goodIn_app (goodIn_of _ (by decide +kernel)) ggX2_stateOf_X2_slotOf
theorem dX2_stateOf_0 : decode cX2_stateOf 0 = .ok (.aload_n 0, 1) := by decide +kernel
theorem dX2_stateOf_1 : decode cX2_stateOf 1 = .ok (.iload_n 1, 1) := by decide +kernel
theorem dX2_stateOf_2 : decode cX2_stateOf 2 = .ok (.invokevirtual 31, 3) := by decide +kernel
theorem dX2_stateOf_5 : decode cX2_stateOf 5 = .ok (.istore_n 2, 1) := by decide +kernel
theorem dX2_stateOf_6 : decode cX2_stateOf 6 = .ok (.iload_n 2, 1) := by decide +kernel
theorem dX2_stateOf_7 : decode cX2_stateOf 7 = .ok (.iconst (-1), 1) := by decide +kernel
theorem dX2_stateOf_8 : decode cX2_stateOf 8 = .ok (.if_icmp .ne 7, 3) := by decide +kernel
theorem dX2_stateOf_11 : decode cX2_stateOf 11 = .ok (.iconst 0, 1) := by decide +kernel
theorem dX2_stateOf_12 : decode cX2_stateOf 12 = .ok (.goto 9, 3) := by decide +kernel
theorem dX2_stateOf_15 : decode cX2_stateOf 15 = .ok (.aload_n 0, 1) := by decide +kernel
theorem dX2_stateOf_16 : decode cX2_stateOf 16 = .ok (.getfield 17, 3) := by decide +kernel
theorem dX2_stateOf_19 : decode cX2_stateOf 19 = .ok (.iload_n 2, 1) := by decide +kernel
theorem dX2_stateOf_20 : decode cX2_stateOf 20 = .ok (.iaload, 1) := by decide +kernel
theorem dX2_stateOf_21 : decode cX2_stateOf 21 = .ok (.ireturn, 1) := by decide +kernel
set_option maxRecDepth 20000 in
theorem ggX2_lastOf_X2_slotOf : GoodIn wsX2_lastOf wsX2_slotOf := goodIn_r _ [6, 7, 8, 9, 10, 11, 12, 13, 14] (by decide +kernel) (by decide +kernel)
set_option maxRecDepth 20000 in
theorem gX2_lastOf_X2_slotOf : GoodIn wsX2_lastOf (wsV RX2 31 RX2 yX2_slotOf wsX2_slotOf) := goodIn_app (goodIn_of _ (by decide +kernel)) ggX2_lastOf_X2_slotOf
theorem dX2_lastOf_0 : decode cX2_lastOf 0 = .ok (.aload_n 0, 1) := by decide +kernel
theorem dX2_lastOf_1 : decode cX2_lastOf 1 = .ok (.iload_n 1, 1) := by decide +kernel
theorem dX2_lastOf_2 : decode cX2_lastOf 2 = .ok (.invokevirtual 31, 3) := by decide +kernel
theorem dX2_lastOf_5 : decode cX2_lastOf 5 = .ok (.istore_n 2, 1) := by decide +kernel
theorem dX2_lastOf_6 : decode cX2_lastOf 6 = .ok (.iload_n 2, 1) := by decide +kernel
theorem dX2_lastOf_7 : decode cX2_lastOf 7 = .ok (.iconst (-1), 1) := by decide +kernel
theorem dX2_lastOf_8 : decode cX2_lastOf 8 = .ok (.if_icmp .ne 7, 3) := by decide +kernel
theorem dX2_lastOf_11 : decode cX2_lastOf 11 = .ok (.iconst 0, 1) := by decide +kernel
theorem dX2_lastOf_12 : decode cX2_lastOf 12 = .ok (.goto 9, 3) := by decide +kernel
theorem dX2_lastOf_15 : decode cX2_lastOf 15 = .ok (.aload_n 0, 1) := by decide +kernel
theorem dX2_lastOf_16 : decode cX2_lastOf 16 = .ok (.getfield 20, 3) := by decide +kernel
theorem dX2_lastOf_19 : decode cX2_lastOf 19 = .ok (.iload_n 2, 1) := by decide +kernel
theorem dX2_lastOf_20 : decode cX2_lastOf 20 = .ok (.iaload, 1) := by decide +kernel
theorem dX2_lastOf_21 : decode cX2_lastOf 21 = .ok (.ireturn, 1) := by decide +kernel
set_option maxRecDepth 20000 in
theorem ggX2_nextOf_X2_slotOf : GoodIn wsX2_nextOf wsX2_slotOf := goodIn_r _ [6, 7, 8, 9, 10, 11, 12, 13, 14] (by decide +kernel) (by decide +kernel)
set_option maxRecDepth 20000 in
theorem gX2_nextOf_X2_slotOf : GoodIn wsX2_nextOf (wsV RX2 31 RX2 yX2_slotOf wsX2_slotOf) := goodIn_app (goodIn_of _ (by decide +kernel)) ggX2_nextOf_X2_slotOf
theorem dX2_nextOf_0 : decode cX2_nextOf 0 = .ok (.aload_n 0, 1) := by decide +kernel
theorem dX2_nextOf_1 : decode cX2_nextOf 1 = .ok (.iload_n 1, 1) := by decide +kernel
theorem dX2_nextOf_2 : decode cX2_nextOf 2 = .ok (.invokevirtual 31, 3) := by decide +kernel
theorem dX2_nextOf_5 : decode cX2_nextOf 5 = .ok (.istore_n 2, 1) := by decide +kernel
theorem dX2_nextOf_6 : decode cX2_nextOf 6 = .ok (.iload_n 2, 1) := by decide +kernel
theorem dX2_nextOf_7 : decode cX2_nextOf 7 = .ok (.iconst (-1), 1) := by decide +kernel
theorem dX2_nextOf_8 : decode cX2_nextOf 8 = .ok (.if_icmp .ne 7, 3) := by decide +kernel
theorem dX2_nextOf_11 : decode cX2_nextOf 11 = .ok (.iconst 0, 1) := by decide +kernel
theorem dX2_nextOf_12 : decode cX2_nextOf 12 = .ok (.goto 9, 3) := by decide +kernel
theorem dX2_nextOf_15 : decode cX2_nextOf 15 = .ok (.aload_n 0, 1) := by decide +kernel
theorem dX2_nextOf_16 : decode cX2_nextOf 16 = .ok (.getfield 23, 3) := by decide +kernel
theorem dX2_nextOf_19 : decode cX2_nextOf 19 = .ok (.iload_n 2, 1) := by decide +kernel
theorem dX2_nextOf_20 : decode cX2_nextOf 20 = .ok (.iaload, 1) := by decide +kernel
theorem dX2_nextOf_21 : decode cX2_nextOf 21 = .ok (.ireturn, 1) := by decide +kernel
set_option maxRecDepth 20000 in
theorem ggX2_setState_X2_slotOf : GoodIn wsX2_setState wsX2_slotOf := goodIn_r _ [6, 7, 8, 9, 10, 11, 12, 13, 14] (by decide +kernel) (by decide +kernel)
set_option maxRecDepth 20000 in
theorem gX2_setState_X2_slotOf : GoodIn wsX2_setState (wsV RX2 31 RX2 yX2_slotOf wsX2_slotOf) := goodIn_app (goodIn_of _ (by decide +kernel)) ggX2_setState_X2_slotOf
theorem dX2_setState_0 : decode cX2_setState 0 = .ok (.aload_n 0, 1) := by decide +kernel
theorem dX2_setState_1 : decode cX2_setState 1 = .ok (.iload_n 1, 1) := by decide +kernel
theorem dX2_setState_2 : decode cX2_setState 2 = .ok (.invokevirtual 31, 3) := by decide +kernel
theorem dX2_setState_5 : decode cX2_setState 5 = .ok (.istore_n 3, 1) := by decide +kernel
theorem dX2_setState_6 : decode cX2_setState 6 = .ok (.iload_n 3, 1) := by decide +kernel
theorem dX2_setState_7 : decode cX2_setState 7 = .ok (.iconst (-1), 1) := by decide +kernel
theorem dX2_setState_8 : decode cX2_setState 8 = .ok (.if_icmp .eq 10, 3) := by decide +kernel
theorem dX2_setState_11 : decode cX2_setState 11 = .ok (.aload_n 0, 1) := by decide +kernel
theorem dX2_setState_12 : decode cX2_setState 12 = .ok (.getfield 17, 3) := by decide +kernel
theorem dX2_setState_15 : decode cX2_setState 15 = .ok (.iload_n 3, 1) := by decide +kernel
theorem dX2_setState_16 : decode cX2_setState 16 = .ok (.iload_n 2, 1) := by decide +kernel
theorem dX2_setState_17 : decode cX2_setState 17 = .ok (.iastore, 1) := by decide +kernel
theorem dX2_setState_18 : decode cX2_setState 18 = .ok (.return_, 1) := by decide +kernel
set_option maxRecDepth 20000 in
theorem ggX2_setLast_X2_slotOf : GoodIn wsX2_setLast wsX2_slotOf := goodIn_r _ [6, 7, 8, 9, 10, 11, 12, 13, 14] (by decide +kernel) (by decide +kernel)
set_option maxRecDepth 20000 in
theorem gX2_setLast_X2_slotOf : GoodIn wsX2_setLast (wsV RX2 31 RX2 yX2_slotOf wsX2_slotOf) := goodIn_app (goodIn_of _ (by decide +kernel)) ggX2_setLast_X2_slotOf
theorem dX2_setLast_0 : decode cX2_setLast 0 = .ok (.aload_n 0, 1) := by decide +kernel
theorem dX2_setLast_1 : decode cX2_setLast 1 = .ok (.iload_n 1, 1) := by decide +kernel
theorem dX2_setLast_2 : decode cX2_setLast 2 = .ok (.invokevirtual 31, 3) := by decide +kernel
theorem dX2_setLast_5 : decode cX2_setLast 5 = .ok (.istore_n 3, 1) := by decide +kernel
theorem dX2_setLast_6 : decode cX2_setLast 6 = .ok (.iload_n 3, 1) := by decide +kernel
theorem dX2_setLast_7 : decode cX2_setLast 7 = .ok (.iconst (-1), 1) := by decide +kernel
theorem dX2_setLast_8 : decode cX2_setLast 8 = .ok (.if_icmp .eq 10, 3) := by decide +kernel
theorem dX2_setLast_11 : decode cX2_setLast 11 = .ok (.aload_n 0, 1) := by decide +kernel
theorem dX2_setLast_12 : decode cX2_setLast 12 = .ok (.getfield 20, 3) := by decide +kernel
theorem dX2_setLast_15 : decode cX2_setLast 15 = .ok (.iload_n 3, 1) := by decide +kernel
theorem dX2_setLast_16 : decode cX2_setLast 16 = .ok (.iload_n 2, 1) := by decide +kernel
theorem dX2_setLast_17 : decode cX2_setLast 17 = .ok (.iastore, 1) := by decide +kernel
theorem dX2_setLast_18 : decode cX2_setLast 18 = .ok (.return_, 1) := by decide +kernel
set_option maxRecDepth 20000 in
theorem ggX2_setNext_X2_slotOf : GoodIn wsX2_setNext wsX2_slotOf := goodIn_r _ [6, 7, 8, 9, 10, 11, 12, 13, 14] (by decide +kernel) (by decide +kernel)
set_option maxRecDepth 20000 in
theorem gX2_setNext_X2_slotOf : GoodIn wsX2_setNext (wsV RX2 31 RX2 yX2_slotOf wsX2_slotOf) := goodIn_app (goodIn_of _ (by decide +kernel)) ggX2_setNext_X2_slotOf
theorem dX2_setNext_0 : decode cX2_setNext 0 = .ok (.aload_n 0, 1) := by decide +kernel
theorem dX2_setNext_1 : decode cX2_setNext 1 = .ok (.iload_n 1, 1) := by decide +kernel
theorem dX2_setNext_2 : decode cX2_setNext 2 = .ok (.invokevirtual 31, 3) := by decide +kernel
theorem dX2_setNext_5 : decode cX2_setNext 5 = .ok (.istore_n 3, 1) := by decide +kernel
theorem dX2_setNext_6 : decode cX2_setNext 6 = .ok (.iload_n 3, 1) := by decide +kernel
theorem dX2_setNext_7 : decode cX2_setNext 7 = .ok (.iconst (-1), 1) := by decide +kernel
theorem dX2_setNext_8 : decode cX2_setNext 8 = .ok (.if_icmp .eq 10, 3) := by decide +kernel
theorem dX2_setNext_11 : decode cX2_setNext 11 = .ok (.aload_n 0, 1) := by decide +kernel
theorem dX2_setNext_12 : decode cX2_setNext 12 = .ok (.getfield 23, 3) := by decide +kernel
theorem dX2_setNext_15 : decode cX2_setNext 15 = .ok (.iload_n 3, 1) := by decide +kernel
theorem dX2_setNext_16 : decode cX2_setNext 16 = .ok (.iload_n 2, 1) := by decide +kernel
theorem dX2_setNext_17 : decode cX2_setNext 17 = .ok (.iastore, 1) := by decide +kernel
theorem dX2_setNext_18 : decode cX2_setNext 18 = .ok (.return_, 1) := by decide +kernel
set_option maxRecDepth 20000 in
theorem ggX2_bringIn_X2_isFull : GoodIn wsX2_bringIn wsX2_isFull := goodIn_r _ [10, 1, 19, 20, 21, 22, 23, 24] (by decide +kernel) (by decide +kernel)
set_option maxRecDepth 20000 in
theorem gX2_bringIn_X2_isFull : GoodIn wsX2_bringIn (wsV RX2 35 RX2 yX2_isFull wsX2_isFull) := goodIn_app (goodIn_of _ (by decide +kernel)) ggX2_bringIn_X2_isFull
set_option maxRecDepth 20000 in
theorem ggX2_bringIn_X2_slotOf : GoodIn wsX2_bringIn wsX2_slotOf := goodIn_r _ [14, 1, 2, 19, 20, 21, 22, 23, 24] (by decide +kernel) (by decide +kernel)
set_option maxRecDepth 20000 in
theorem gX2_bringIn_X2_slotOf : GoodIn wsX2_bringIn (wsV RX2 31 RX2 yX2_slotOf wsX2_slotOf) := goodIn_app (goodIn_of _ (by decide +kernel)) ggX2_bringIn_X2_slotOf
set_option maxRecDepth 20000 in
theorem ggX2_bringIn_X2_copySlot : GoodIn wsX2_bringIn wsX2_copySlot := goodIn_r _ [18, 2, 3, 4, 5, 19, 20, 21, 22, 23, 24] (by decide +kernel) (by decide +kernel)
set_option maxRecDepth 20000 in
theorem gX2_bringIn_X2_copySlot : GoodIn wsX2_bringIn (wsV RX2 39 RX2 yX2_copySlot wsX2_copySlot) := goodIn_app (goodIn_of _ (by decide +kernel)) ggX2_bringIn_X2_copySlot
theorem dX2_bringIn_0 : decode cX2_bringIn 0 = .ok (.aload_n 0, 1) := by decide +kernel
theorem dX2_bringIn_1 : decode cX2_bringIn 1 = .ok (.invokevirtual 35, 3) := by decide +kernel
theorem dX2_bringIn_4 : decode cX2_bringIn 4 = .ok (.ifCond .ne 12, 3) := by decide +kernel
theorem dX2_bringIn_7 : decode cX2_bringIn 7 = .ok (.aload_n 0, 1) := by decide +kernel
theorem dX2_bringIn_8 : decode cX2_bringIn 8 = .ok (.iload_n 1, 1) := by decide +kernel
theorem dX2_bringIn_9 : decode cX2_bringIn 9 = .ok (.invokevirtual 31, 3) := by decide +kernel
theorem dX2_bringIn_12 : decode cX2_bringIn 12 = .ok (.iconst (-1), 1) := by decide +kernel
theorem dX2_bringIn_13 : decode cX2_bringIn 13 = .ok (.if_icmp .eq 4, 3) := by decide +kernel
theorem dX2_bringIn_16 : decode cX2_bringIn 16 = .ok (.return_, 1) := by decide +kernel
theorem dX2_bringIn_17 : decode cX2_bringIn 17 = .ok (.aload_n 0, 1) := by decide +kernel
theorem dX2_bringIn_18 : decode cX2_bringIn 18 = .ok (.getfield 7, 3) := by decide +kernel
theorem dX2_bringIn_21 : decode cX2_bringIn 21 = .ok (.istore_n 2, 1) := by decide +kernel
theorem dX2_bringIn_22 : decode cX2_bringIn 22 = .ok (.iload_n 2, 1) := by decide +kernel
theorem dX2_bringIn_23 : decode cX2_bringIn 23 = .ok (.ifCond .le 29, 3) := by decide +kernel
theorem dX2_bringIn_26 : decode cX2_bringIn 26 = .ok (.aload_n 0, 1) := by decide +kernel
theorem dX2_bringIn_27 : decode cX2_bringIn 27 = .ok (.getfield 13, 3) := by decide +kernel
theorem dX2_bringIn_30 : decode cX2_bringIn 30 = .ok (.iload_n 2, 1) := by decide +kernel
theorem dX2_bringIn_31 : decode cX2_bringIn 31 = .ok (.iconst 1, 1) := by decide +kernel
theorem dX2_bringIn_32 : decode cX2_bringIn 32 = .ok (.isub, 1) := by decide +kernel
theorem dX2_bringIn_33 : decode cX2_bringIn 33 = .ok (.iaload, 1) := by decide +kernel
theorem dX2_bringIn_34 : decode cX2_bringIn 34 = .ok (.iload_n 1, 1) := by decide +kernel
theorem dX2_bringIn_35 : decode cX2_bringIn 35 = .ok (.if_icmp .le 17, 3) := by decide +kernel
theorem dX2_bringIn_38 : decode cX2_bringIn 38 = .ok (.aload_n 0, 1) := by decide +kernel
theorem dX2_bringIn_39 : decode cX2_bringIn 39 = .ok (.iload_n 2, 1) := by decide +kernel
theorem dX2_bringIn_40 : decode cX2_bringIn 40 = .ok (.iconst 1, 1) := by decide +kernel
theorem dX2_bringIn_41 : decode cX2_bringIn 41 = .ok (.isub, 1) := by decide +kernel
theorem dX2_bringIn_42 : decode cX2_bringIn 42 = .ok (.iload_n 2, 1) := by decide +kernel
theorem dX2_bringIn_43 : decode cX2_bringIn 43 = .ok (.invokevirtual 39, 3) := by decide +kernel
theorem dX2_bringIn_46 : decode cX2_bringIn 46 = .ok (.iinc 2 (-1), 3) := by decide +kernel
theorem dX2_bringIn_49 : decode cX2_bringIn 49 = .ok (.goto (-27), 3) := by decide +kernel
theorem dX2_bringIn_52 : decode cX2_bringIn 52 = .ok (.aload_n 0, 1) := by decide +kernel
theorem dX2_bringIn_53 : decode cX2_bringIn 53 = .ok (.dup, 1) := by decide +kernel
theorem dX2_bringIn_54 : decode cX2_bringIn 54 = .ok (.getfield 7, 3) := by decide +kernel
theorem dX2_bringIn_57 : decode cX2_bringIn 57 = .ok (.iconst 1, 1) := by decide +kernel
theorem dX2_bringIn_58 : decode cX2_bringIn 58 = .ok (.iadd, 1) := by decide +kernel
theorem dX2_bringIn_59 : decode cX2_bringIn 59 = .ok (.putfield 7, 3) := by decide +kernel
theorem dX2_bringIn_62 : decode cX2_bringIn 62 = .ok (.aload_n 0, 1) := by decide +kernel
theorem dX2_bringIn_63 : decode cX2_bringIn 63 = .ok (.getfield 13, 3) := by decide +kernel
theorem dX2_bringIn_66 : decode cX2_bringIn 66 = .ok (.iload_n 2, 1) := by decide +kernel
theorem dX2_bringIn_67 : decode cX2_bringIn 67 = .ok (.iload_n 1, 1) := by decide +kernel
theorem dX2_bringIn_68 : decode cX2_bringIn 68 = .ok (.iastore, 1) := by decide +kernel
theorem dX2_bringIn_69 : decode cX2_bringIn 69 = .ok (.aload_n 0, 1) := by decide +kernel
theorem dX2_bringIn_70 : decode cX2_bringIn 70 = .ok (.getfield 17, 3) := by decide +kernel
theorem dX2_bringIn_73 : decode cX2_bringIn 73 = .ok (.iload_n 2, 1) := by decide +kernel
theorem dX2_bringIn_74 : decode cX2_bringIn 74 = .ok (.iconst 1, 1) := by decide +kernel
theorem dX2_bringIn_75 : decode cX2_bringIn 75 = .ok (.iastore, 1) := by decide +kernel
theorem dX2_bringIn_76 : decode cX2_bringIn 76 = .ok (.aload_n 0, 1) := by decide +kernel
theorem dX2_bringIn_77 : decode cX2_bringIn 77 = .ok (.getfield 20, 3) := by decide +kernel
theorem dX2_bringIn_80 : decode cX2_bringIn 80 = .ok (.iload_n 2, 1) := by decide +kernel
theorem dX2_bringIn_81 : decode cX2_bringIn 81 = .ok (.iconst 0, 1) := by decide +kernel
theorem dX2_bringIn_82 : decode cX2_bringIn 82 = .ok (.iastore, 1) := by decide +kernel
theorem dX2_bringIn_83 : decode cX2_bringIn 83 = .ok (.aload_n 0, 1) := by decide +kernel
theorem dX2_bringIn_84 : decode cX2_bringIn 84 = .ok (.getfield 23, 3) := by decide +kernel
theorem dX2_bringIn_87 : decode cX2_bringIn 87 = .ok (.iload_n 2, 1) := by decide +kernel
theorem dX2_bringIn_88 : decode cX2_bringIn 88 = .ok (.iconst 0, 1) := by decide +kernel
theorem dX2_bringIn_89 : decode cX2_bringIn 89 = .ok (.iastore, 1) := by decide +kernel
theorem dX2_bringIn_90 : decode cX2_bringIn 90 = .ok (.return_, 1) := by decide +kernel
set_option maxRecDepth 20000 in
theorem ggX2_takeOut_X2_slotOf : GoodIn wsX2_takeOut wsX2_slotOf := goodIn_r _ [6, 1, 7, 15, 16, 17, 18, 19, 20] (by decide +kernel) (by decide +kernel)
set_option maxRecDepth 20000 in
theorem gX2_takeOut_X2_slotOf : GoodIn wsX2_takeOut (wsV RX2 31 RX2 yX2_slotOf wsX2_slotOf) := goodIn_app (goodIn_of _ (by decide +kernel)) ggX2_takeOut_X2_slotOf
set_option maxRecDepth 20000 in
theorem ggX2_takeOut_X2_copySlot : GoodIn wsX2_takeOut wsX2_copySlot := goodIn_r _ [11, 7, 12, 13, 14, 15, 16, 17, 18, 19, 20] (by decide +kernel) (by decide +kernel)
set_option maxRecDepth 20000 in
theorem gX2_takeOut_X2_copySlot : GoodIn wsX2_takeOut (wsV RX2 39 RX2 yX2_copySlot wsX2_copySlot) := goodIn_app (goodIn_of _ (by decide +kernel)) ggX2_takeOut_X2_copySlot
theorem dX2_takeOut_0 : decode cX2_takeOut 0 = .ok (.aload_n 0, 1) := by decide +kernel
theorem dX2_takeOut_1 : decode cX2_takeOut 1 = .ok (.iload_n 1, 1) := by decide +kernel
theorem dX2_takeOut_2 : decode cX2_takeOut 2 = .ok (.invokevirtual 31, 3) := by decide +kernel
theorem dX2_takeOut_5 : decode cX2_takeOut 5 = .ok (.istore_n 2, 1) := by decide +kernel
theorem dX2_takeOut_6 : decode cX2_takeOut 6 = .ok (.iload_n 2, 1) := by decide +kernel
theorem dX2_takeOut_7 : decode cX2_takeOut 7 = .ok (.iconst (-1), 1) := by decide +kernel
theorem dX2_takeOut_8 : decode cX2_takeOut 8 = .ok (.if_icmp .ne 4, 3) := by decide +kernel
theorem dX2_takeOut_11 : decode cX2_takeOut 11 = .ok (.return_, 1) := by decide +kernel
theorem dX2_takeOut_12 : decode cX2_takeOut 12 = .ok (.iload_n 2, 1) := by decide +kernel
theorem dX2_takeOut_13 : decode cX2_takeOut 13 = .ok (.istore_n 3, 1) := by decide +kernel
theorem dX2_takeOut_14 : decode cX2_takeOut 14 = .ok (.iload_n 3, 1) := by decide +kernel
theorem dX2_takeOut_15 : decode cX2_takeOut 15 = .ok (.iconst 1, 1) := by decide +kernel
theorem dX2_takeOut_16 : decode cX2_takeOut 16 = .ok (.iadd, 1) := by decide +kernel
theorem dX2_takeOut_17 : decode cX2_takeOut 17 = .ok (.aload_n 0, 1) := by decide +kernel
theorem dX2_takeOut_18 : decode cX2_takeOut 18 = .ok (.getfield 7, 3) := by decide +kernel
theorem dX2_takeOut_21 : decode cX2_takeOut 21 = .ok (.if_icmp .ge 17, 3) := by decide +kernel
theorem dX2_takeOut_24 : decode cX2_takeOut 24 = .ok (.aload_n 0, 1) := by decide +kernel
theorem dX2_takeOut_25 : decode cX2_takeOut 25 = .ok (.iload_n 3, 1) := by decide +kernel
theorem dX2_takeOut_26 : decode cX2_takeOut 26 = .ok (.iconst 1, 1) := by decide +kernel
theorem dX2_takeOut_27 : decode cX2_takeOut 27 = .ok (.iadd, 1) := by decide +kernel
theorem dX2_takeOut_28 : decode cX2_takeOut 28 = .ok (.iload_n 3, 1) := by decide +kernel
theorem dX2_takeOut_29 : decode cX2_takeOut 29 = .ok (.invokevirtual 39, 3) := by decide +kernel
theorem dX2_takeOut_32 : decode cX2_takeOut 32 = .ok (.iinc 3 1, 3) := by decide +kernel
theorem dX2_takeOut_35 : decode cX2_takeOut 35 = .ok (.goto (-21), 3) := by decide +kernel
theorem dX2_takeOut_38 : decode cX2_takeOut 38 = .ok (.aload_n 0, 1) := by decide +kernel
theorem dX2_takeOut_39 : decode cX2_takeOut 39 = .ok (.dup, 1) := by decide +kernel
theorem dX2_takeOut_40 : decode cX2_takeOut 40 = .ok (.getfield 7, 3) := by decide +kernel
theorem dX2_takeOut_43 : decode cX2_takeOut 43 = .ok (.iconst 1, 1) := by decide +kernel
theorem dX2_takeOut_44 : decode cX2_takeOut 44 = .ok (.isub, 1) := by decide +kernel
theorem dX2_takeOut_45 : decode cX2_takeOut 45 = .ok (.putfield 7, 3) := by decide +kernel
theorem dX2_takeOut_48 : decode cX2_takeOut 48 = .ok (.return_, 1) := by decide +kernel
theorem dX2_leastWorkIn_0 : decode cX2_leastWorkIn 0 = .ok (.iconst 0, 1) := by decide +kernel
theorem dX2_leastWorkIn_1 : decode cX2_leastWorkIn 1 = .ok (.istore_n 2, 1) := by decide +kernel
theorem dX2_leastWorkIn_2 : decode cX2_leastWorkIn 2 = .ok (.iload_n 2, 1) := by decide +kernel
theorem dX2_leastWorkIn_3 : decode cX2_leastWorkIn 3 = .ok (.aload_n 0, 1) := by decide +kernel
theorem dX2_leastWorkIn_4 : decode cX2_leastWorkIn 4 = .ok (.getfield 7, 3) := by decide +kernel
theorem dX2_leastWorkIn_7 : decode cX2_leastWorkIn 7 = .ok (.if_icmp .ge 26, 3) := by decide +kernel
theorem dX2_leastWorkIn_10 : decode cX2_leastWorkIn 10 = .ok (.aload_n 0, 1) := by decide +kernel
theorem dX2_leastWorkIn_11 : decode cX2_leastWorkIn 11 = .ok (.getfield 17, 3) := by decide +kernel
theorem dX2_leastWorkIn_14 : decode cX2_leastWorkIn 14 = .ok (.iload_n 2, 1) := by decide +kernel
theorem dX2_leastWorkIn_15 : decode cX2_leastWorkIn 15 = .ok (.iaload, 1) := by decide +kernel
theorem dX2_leastWorkIn_16 : decode cX2_leastWorkIn 16 = .ok (.iload_n 1, 1) := by decide +kernel
theorem dX2_leastWorkIn_17 : decode cX2_leastWorkIn 17 = .ok (.if_icmp .ne 10, 3) := by decide +kernel
theorem dX2_leastWorkIn_20 : decode cX2_leastWorkIn 20 = .ok (.aload_n 0, 1) := by decide +kernel
theorem dX2_leastWorkIn_21 : decode cX2_leastWorkIn 21 = .ok (.getfield 13, 3) := by decide +kernel
theorem dX2_leastWorkIn_24 : decode cX2_leastWorkIn 24 = .ok (.iload_n 2, 1) := by decide +kernel
theorem dX2_leastWorkIn_25 : decode cX2_leastWorkIn 25 = .ok (.iaload, 1) := by decide +kernel
theorem dX2_leastWorkIn_26 : decode cX2_leastWorkIn 26 = .ok (.ireturn, 1) := by decide +kernel
theorem dX2_leastWorkIn_27 : decode cX2_leastWorkIn 27 = .ok (.iinc 2 1, 3) := by decide +kernel
theorem dX2_leastWorkIn_30 : decode cX2_leastWorkIn 30 = .ok (.goto (-28), 3) := by decide +kernel
theorem dX2_leastWorkIn_33 : decode cX2_leastWorkIn 33 = .ok (.iconst 0, 1) := by decide +kernel
theorem dX2_leastWorkIn_34 : decode cX2_leastWorkIn 34 = .ok (.ireturn, 1) := by decide +kernel
theorem dX2_workToUndo_0 : decode cX2_workToUndo 0 = .ok (.iconst (-1), 1) := by decide +kernel
theorem dX2_workToUndo_1 : decode cX2_workToUndo 1 = .ok (.istore_n 1, 1) := by decide +kernel
theorem dX2_workToUndo_2 : decode cX2_workToUndo 2 = .ok (.iconst 0, 1) := by decide +kernel
theorem dX2_workToUndo_3 : decode cX2_workToUndo 3 = .ok (.istore_n 2, 1) := by decide +kernel
theorem dX2_workToUndo_4 : decode cX2_workToUndo 4 = .ok (.iload_n 2, 1) := by decide +kernel
theorem dX2_workToUndo_5 : decode cX2_workToUndo 5 = .ok (.aload_n 0, 1) := by decide +kernel
theorem dX2_workToUndo_6 : decode cX2_workToUndo 6 = .ok (.getfield 7, 3) := by decide +kernel
theorem dX2_workToUndo_9 : decode cX2_workToUndo 9 = .ok (.if_icmp .ge 61, 3) := by decide +kernel
theorem dX2_workToUndo_12 : decode cX2_workToUndo 12 = .ok (.aload_n 0, 1) := by decide +kernel
theorem dX2_workToUndo_13 : decode cX2_workToUndo 13 = .ok (.getfield 17, 3) := by decide +kernel
theorem dX2_workToUndo_16 : decode cX2_workToUndo 16 = .ok (.iload_n 2, 1) := by decide +kernel
theorem dX2_workToUndo_17 : decode cX2_workToUndo 17 = .ok (.iaload, 1) := by decide +kernel
theorem dX2_workToUndo_18 : decode cX2_workToUndo 18 = .ok (.iconst 1, 1) := by decide +kernel
theorem dX2_workToUndo_19 : decode cX2_workToUndo 19 = .ok (.if_icmp .eq 13, 3) := by decide +kernel
theorem dX2_workToUndo_22 : decode cX2_workToUndo 22 = .ok (.aload_n 0, 1) := by decide +kernel
theorem dX2_workToUndo_23 : decode cX2_workToUndo 23 = .ok (.getfield 17, 3) := by decide +kernel
theorem dX2_workToUndo_26 : decode cX2_workToUndo 26 = .ok (.iload_n 2, 1) := by decide +kernel
theorem dX2_workToUndo_27 : decode cX2_workToUndo 27 = .ok (.iaload, 1) := by decide +kernel
theorem dX2_workToUndo_28 : decode cX2_workToUndo 28 = .ok (.iconst 2, 1) := by decide +kernel
theorem dX2_workToUndo_29 : decode cX2_workToUndo 29 = .ok (.if_icmp .ne 7, 3) := by decide +kernel
theorem dX2_workToUndo_32 : decode cX2_workToUndo 32 = .ok (.iconst 1, 1) := by decide +kernel
theorem dX2_workToUndo_33 : decode cX2_workToUndo 33 = .ok (.goto 4, 3) := by decide +kernel
theorem dX2_workToUndo_36 : decode cX2_workToUndo 36 = .ok (.iconst 0, 1) := by decide +kernel
theorem dX2_workToUndo_37 : decode cX2_workToUndo 37 = .ok (.istore_n 3, 1) := by decide +kernel
theorem dX2_workToUndo_38 : decode cX2_workToUndo 38 = .ok (.iload_n 3, 1) := by decide +kernel
theorem dX2_workToUndo_39 : decode cX2_workToUndo 39 = .ok (.ifCond .eq 25, 3) := by decide +kernel
theorem dX2_workToUndo_42 : decode cX2_workToUndo 42 = .ok (.iload_n 1, 1) := by decide +kernel
theorem dX2_workToUndo_43 : decode cX2_workToUndo 43 = .ok (.iconst (-1), 1) := by decide +kernel
theorem dX2_workToUndo_44 : decode cX2_workToUndo 44 = .ok (.if_icmp .eq 18, 3) := by decide +kernel
theorem dX2_workToUndo_47 : decode cX2_workToUndo 47 = .ok (.aload_n 0, 1) := by decide +kernel
theorem dX2_workToUndo_48 : decode cX2_workToUndo 48 = .ok (.getfield 23, 3) := by decide +kernel
theorem dX2_workToUndo_51 : decode cX2_workToUndo 51 = .ok (.iload_n 2, 1) := by decide +kernel
theorem dX2_workToUndo_52 : decode cX2_workToUndo 52 = .ok (.iaload, 1) := by decide +kernel
theorem dX2_workToUndo_53 : decode cX2_workToUndo 53 = .ok (.aload_n 0, 1) := by decide +kernel
theorem dX2_workToUndo_54 : decode cX2_workToUndo 54 = .ok (.getfield 23, 3) := by decide +kernel
theorem dX2_workToUndo_57 : decode cX2_workToUndo 57 = .ok (.iload_n 1, 1) := by decide +kernel
theorem dX2_workToUndo_58 : decode cX2_workToUndo 58 = .ok (.iaload, 1) := by decide +kernel
theorem dX2_workToUndo_59 : decode cX2_workToUndo 59 = .ok (.if_icmp .le 5, 3) := by decide +kernel
theorem dX2_workToUndo_62 : decode cX2_workToUndo 62 = .ok (.iload_n 2, 1) := by decide +kernel
theorem dX2_workToUndo_63 : decode cX2_workToUndo 63 = .ok (.istore_n 1, 1) := by decide +kernel
theorem dX2_workToUndo_64 : decode cX2_workToUndo 64 = .ok (.iinc 2 1, 3) := by decide +kernel
theorem dX2_workToUndo_67 : decode cX2_workToUndo 67 = .ok (.goto (-63), 3) := by decide +kernel
theorem dX2_workToUndo_70 : decode cX2_workToUndo 70 = .ok (.iload_n 1, 1) := by decide +kernel
theorem dX2_workToUndo_71 : decode cX2_workToUndo 71 = .ok (.iconst (-1), 1) := by decide +kernel
theorem dX2_workToUndo_72 : decode cX2_workToUndo 72 = .ok (.if_icmp .ne 7, 3) := by decide +kernel
theorem dX2_workToUndo_75 : decode cX2_workToUndo 75 = .ok (.iconst 0, 1) := by decide +kernel
theorem dX2_workToUndo_76 : decode cX2_workToUndo 76 = .ok (.goto 9, 3) := by decide +kernel
theorem dX2_workToUndo_79 : decode cX2_workToUndo 79 = .ok (.aload_n 0, 1) := by decide +kernel
theorem dX2_workToUndo_80 : decode cX2_workToUndo 80 = .ok (.getfield 13, 3) := by decide +kernel
theorem dX2_workToUndo_83 : decode cX2_workToUndo 83 = .ok (.iload_n 1, 1) := by decide +kernel
theorem dX2_workToUndo_84 : decode cX2_workToUndo 84 = .ok (.iaload, 1) := by decide +kernel
theorem dX2_workToUndo_85 : decode cX2_workToUndo 85 = .ok (.ireturn, 1) := by decide +kernel
set_option maxRecDepth 20000 in
theorem ggX2_baseOf_X1_hasPage : GoodIn wsX2_baseOf wsX1_hasPage := goodIn_r _ [5] (by decide +kernel) (by decide +kernel)
set_option maxRecDepth 20000 in
theorem gX2_baseOf_X1_hasPage : GoodIn wsX2_baseOf (va_wsS RX2 43 yX1_hasPage wsX1_hasPage) := goodIn_app (goodIn_of _ (by decide +kernel)) ggX2_baseOf_X1_hasPage
theorem dX2_baseOf_0 : decode cX2_baseOf 0 = .ok (.iload_n 1, 1) := by decide +kernel
theorem dX2_baseOf_1 : decode cX2_baseOf 1 = .ok (.invokestatic 43, 3) := by decide +kernel
theorem dX2_baseOf_4 : decode cX2_baseOf 4 = .ok (.ifCond .eq 12, 3) := by decide +kernel
theorem dX2_baseOf_7 : decode cX2_baseOf 7 = .ok (.aload_n 0, 1) := by decide +kernel
theorem dX2_baseOf_8 : decode cX2_baseOf 8 = .ok (.getfield 28, 3) := by decide +kernel
theorem dX2_baseOf_11 : decode cX2_baseOf 11 = .ok (.iload_n 1, 1) := by decide +kernel
theorem dX2_baseOf_12 : decode cX2_baseOf 12 = .ok (.iaload, 1) := by decide +kernel
theorem dX2_baseOf_13 : decode cX2_baseOf 13 = .ok (.goto 4, 3) := by decide +kernel
theorem dX2_baseOf_16 : decode cX2_baseOf 16 = .ok (.iconst 0, 1) := by decide +kernel
theorem dX2_baseOf_17 : decode cX2_baseOf 17 = .ok (.ireturn, 1) := by decide +kernel
set_option maxRecDepth 20000 in
theorem ggX2_makeDirty_X1_hasPage : GoodIn wsX2_makeDirty wsX1_hasPage := goodIn_r _ [5] (by decide +kernel) (by decide +kernel)
set_option maxRecDepth 20000 in
theorem gX2_makeDirty_X1_hasPage : GoodIn wsX2_makeDirty (va_wsS RX2 43 yX1_hasPage wsX1_hasPage) := goodIn_app (goodIn_of _ (by decide +kernel)) ggX2_makeDirty_X1_hasPage
theorem dX2_makeDirty_0 : decode cX2_makeDirty 0 = .ok (.iload_n 1, 1) := by decide +kernel
theorem dX2_makeDirty_1 : decode cX2_makeDirty 1 = .ok (.invokestatic 43, 3) := by decide +kernel
theorem dX2_makeDirty_4 : decode cX2_makeDirty 4 = .ok (.ifCond .eq 19, 3) := by decide +kernel
theorem dX2_makeDirty_7 : decode cX2_makeDirty 7 = .ok (.aload_n 0, 1) := by decide +kernel
theorem dX2_makeDirty_8 : decode cX2_makeDirty 8 = .ok (.getfield 28, 3) := by decide +kernel
theorem dX2_makeDirty_11 : decode cX2_makeDirty 11 = .ok (.iload_n 1, 1) := by decide +kernel
theorem dX2_makeDirty_12 : decode cX2_makeDirty 12 = .ok (.iaload, 1) := by decide +kernel
theorem dX2_makeDirty_13 : decode cX2_makeDirty 13 = .ok (.ifCond .ne 10, 3) := by decide +kernel
theorem dX2_makeDirty_16 : decode cX2_makeDirty 16 = .ok (.aload_n 0, 1) := by decide +kernel
theorem dX2_makeDirty_17 : decode cX2_makeDirty 17 = .ok (.getfield 28, 3) := by decide +kernel
theorem dX2_makeDirty_20 : decode cX2_makeDirty 20 = .ok (.iload_n 1, 1) := by decide +kernel
theorem dX2_makeDirty_21 : decode cX2_makeDirty 21 = .ok (.iload_n 2, 1) := by decide +kernel
theorem dX2_makeDirty_22 : decode cX2_makeDirty 22 = .ok (.iastore, 1) := by decide +kernel
theorem dX2_makeDirty_23 : decode cX2_makeDirty 23 = .ok (.return_, 1) := by decide +kernel
set_option maxRecDepth 20000 in
theorem ggX2_makeClean_X1_hasPage : GoodIn wsX2_makeClean wsX1_hasPage := goodIn_r _ [5] (by decide +kernel) (by decide +kernel)
set_option maxRecDepth 20000 in
theorem gX2_makeClean_X1_hasPage : GoodIn wsX2_makeClean (va_wsS RX2 43 yX1_hasPage wsX1_hasPage) := goodIn_app (goodIn_of _ (by decide +kernel)) ggX2_makeClean_X1_hasPage
theorem dX2_makeClean_0 : decode cX2_makeClean 0 = .ok (.iload_n 1, 1) := by decide +kernel
theorem dX2_makeClean_1 : decode cX2_makeClean 1 = .ok (.invokestatic 43, 3) := by decide +kernel
theorem dX2_makeClean_4 : decode cX2_makeClean 4 = .ok (.ifCond .eq 10, 3) := by decide +kernel
theorem dX2_makeClean_7 : decode cX2_makeClean 7 = .ok (.aload_n 0, 1) := by decide +kernel
theorem dX2_makeClean_8 : decode cX2_makeClean 8 = .ok (.getfield 28, 3) := by decide +kernel
theorem dX2_makeClean_11 : decode cX2_makeClean 11 = .ok (.iload_n 1, 1) := by decide +kernel
theorem dX2_makeClean_12 : decode cX2_makeClean 12 = .ok (.iconst 0, 1) := by decide +kernel
theorem dX2_makeClean_13 : decode cX2_makeClean 13 = .ok (.iastore, 1) := by decide +kernel
theorem dX2_makeClean_14 : decode cX2_makeClean 14 = .ok (.return_, 1) := by decide +kernel
theorem dX2_leastBase_0 : decode cX2_leastBase 0 = .ok (.iconst 0, 1) := by decide +kernel
theorem dX2_leastBase_1 : decode cX2_leastBase 1 = .ok (.istore_n 1, 1) := by decide +kernel
theorem dX2_leastBase_2 : decode cX2_leastBase 2 = .ok (.iconst 0, 1) := by decide +kernel
theorem dX2_leastBase_3 : decode cX2_leastBase 3 = .ok (.istore_n 2, 1) := by decide +kernel
theorem dX2_leastBase_4 : decode cX2_leastBase 4 = .ok (.iload_n 2, 1) := by decide +kernel
theorem dX2_leastBase_5 : decode cX2_leastBase 5 = .ok (.aload_n 0, 1) := by decide +kernel
theorem dX2_leastBase_6 : decode cX2_leastBase 6 = .ok (.getfield 28, 3) := by decide +kernel
theorem dX2_leastBase_9 : decode cX2_leastBase 9 = .ok (.arraylength, 1) := by decide +kernel
theorem dX2_leastBase_10 : decode cX2_leastBase 10 = .ok (.if_icmp .ge 39, 3) := by decide +kernel
theorem dX2_leastBase_13 : decode cX2_leastBase 13 = .ok (.aload_n 0, 1) := by decide +kernel
theorem dX2_leastBase_14 : decode cX2_leastBase 14 = .ok (.getfield 28, 3) := by decide +kernel
theorem dX2_leastBase_17 : decode cX2_leastBase 17 = .ok (.iload_n 2, 1) := by decide +kernel
theorem dX2_leastBase_18 : decode cX2_leastBase 18 = .ok (.iaload, 1) := by decide +kernel
theorem dX2_leastBase_19 : decode cX2_leastBase 19 = .ok (.ifCond .eq 24, 3) := by decide +kernel
theorem dX2_leastBase_22 : decode cX2_leastBase 22 = .ok (.iload_n 1, 1) := by decide +kernel
theorem dX2_leastBase_23 : decode cX2_leastBase 23 = .ok (.ifCond .eq 13, 3) := by decide +kernel
theorem dX2_leastBase_26 : decode cX2_leastBase 26 = .ok (.aload_n 0, 1) := by decide +kernel
theorem dX2_leastBase_27 : decode cX2_leastBase 27 = .ok (.getfield 28, 3) := by decide +kernel
theorem dX2_leastBase_30 : decode cX2_leastBase 30 = .ok (.iload_n 2, 1) := by decide +kernel
theorem dX2_leastBase_31 : decode cX2_leastBase 31 = .ok (.iaload, 1) := by decide +kernel
theorem dX2_leastBase_32 : decode cX2_leastBase 32 = .ok (.iload_n 1, 1) := by decide +kernel
theorem dX2_leastBase_33 : decode cX2_leastBase 33 = .ok (.if_icmp .ge 10, 3) := by decide +kernel
theorem dX2_leastBase_36 : decode cX2_leastBase 36 = .ok (.aload_n 0, 1) := by decide +kernel
theorem dX2_leastBase_37 : decode cX2_leastBase 37 = .ok (.getfield 28, 3) := by decide +kernel
theorem dX2_leastBase_40 : decode cX2_leastBase 40 = .ok (.iload_n 2, 1) := by decide +kernel
theorem dX2_leastBase_41 : decode cX2_leastBase 41 = .ok (.iaload, 1) := by decide +kernel
theorem dX2_leastBase_42 : decode cX2_leastBase 42 = .ok (.istore_n 1, 1) := by decide +kernel
theorem dX2_leastBase_43 : decode cX2_leastBase 43 = .ok (.iinc 2 1, 3) := by decide +kernel
theorem dX2_leastBase_46 : decode cX2_leastBase 46 = .ok (.goto (-42), 3) := by decide +kernel
theorem dX2_leastBase_49 : decode cX2_leastBase 49 = .ok (.iload_n 1, 1) := by decide +kernel
theorem dX2_leastBase_50 : decode cX2_leastBase 50 = .ok (.ireturn, 1) := by decide +kernel
set_option maxRecDepth 20000 in
theorem ggX2_makeEmpty_J7_fill_53178 : GoodIn wsX2_makeEmpty wsJ7_fill_53178 := goodIn_r _ [6] (by decide +kernel) (by decide +kernel)
set_option maxRecDepth 20000 in
theorem gX2_makeEmpty_J7_fill_53178 : GoodIn wsX2_makeEmpty (va_wsS RX2 47 yJ7_fill_53178 wsJ7_fill_53178) := goodIn_app (goodIn_of _ (by decide +kernel)) ggX2_makeEmpty_J7_fill_53178
theorem dX2_makeEmpty_0 : decode cX2_makeEmpty 0 = .ok (.aload_n 0, 1) := by decide +kernel
theorem dX2_makeEmpty_1 : decode cX2_makeEmpty 1 = .ok (.iconst 0, 1) := by decide +kernel
theorem dX2_makeEmpty_2 : decode cX2_makeEmpty 2 = .ok (.putfield 7, 3) := by decide +kernel
theorem dX2_makeEmpty_5 : decode cX2_makeEmpty 5 = .ok (.aload_n 0, 1) := by decide +kernel
theorem dX2_makeEmpty_6 : decode cX2_makeEmpty 6 = .ok (.getfield 28, 3) := by decide +kernel
theorem dX2_makeEmpty_9 : decode cX2_makeEmpty 9 = .ok (.iconst 0, 1) := by decide +kernel
theorem dX2_makeEmpty_10 : decode cX2_makeEmpty 10 = .ok (.invokestatic 47, 3) := by decide +kernel
theorem dX2_makeEmpty_13 : decode cX2_makeEmpty 13 = .ok (.return_, 1) := by decide +kernel
set_option maxRecDepth 20000 in
theorem ggX2_becomeLike_X2_makeEmpty : GoodIn wsX2_becomeLike wsX2_makeEmpty := goodIn_r _ [5, 6, 7, 8, 9, 10, 11, 60, 61, 62, 63, 64, 65] (by decide +kernel) (by decide +kernel)
set_option maxRecDepth 20000 in
theorem gX2_becomeLike_X2_makeEmpty : GoodIn wsX2_becomeLike (wsV RX2 53 RX2 yX2_makeEmpty wsX2_makeEmpty) := goodIn_app (goodIn_of _ (by decide +kernel)) ggX2_becomeLike_X2_makeEmpty
set_option maxRecDepth 20000 in
theorem ggX2_becomeLike_X2_bringInMissing : GoodIn wsX2_becomeLike wsX2_bringInMissing := goodIn_r _ [15, 6, 16, 17, 18, 19, 7, 20, 21, 22, 4, 23, 24, 25, 26, 27, 28, 29, 30, 31, 32, 33, 34, 35, 36, 37, 38, 39, 40, 41, 42, 43, 44, 45, 46, 47, 48, 49, 50, 51, 52, 53, 54, 55, 56, 57, 58, 59, 60, 61, 62, 63, 64, 65] (by decide +kernel) (by decide +kernel)
set_option maxRecDepth 20000 in
theorem gX2_becomeLike_X2_bringInMissing : GoodIn wsX2_becomeLike (wsV RX2 56 RX2 yX2_bringInMissing wsX2_bringInMissing) := goodIn_app (goodIn_of _ (by decide +kernel)) ggX2_becomeLike_X2_bringInMissing
theorem dX2_becomeLike_0 : decode cX2_becomeLike 0 = .ok (.aload_n 0, 1) := by decide +kernel
theorem dX2_becomeLike_1 : decode cX2_becomeLike 1 = .ok (.invokevirtual 53, 3) := by decide +kernel
theorem dX2_becomeLike_4 : decode cX2_becomeLike 4 = .ok (.aload_n 0, 1) := by decide +kernel
theorem dX2_becomeLike_5 : decode cX2_becomeLike 5 = .ok (.aload_n 1, 1) := by decide +kernel
theorem dX2_becomeLike_6 : decode cX2_becomeLike 6 = .ok (.invokevirtual 56, 3) := by decide +kernel
theorem dX2_becomeLike_9 : decode cX2_becomeLike 9 = .ok (.return_, 1) := by decide +kernel
set_option maxRecDepth 20000 in
theorem ggX2_bringInMissing_X2_holds : GoodIn wsX2_bringInMissing wsX2_holds := goodIn_r _ [11, 12, 13, 14, 10, 15, 1, 2, 48, 49, 50, 51, 52, 53] (by decide +kernel) (by decide +kernel)
set_option maxRecDepth 20000 in
theorem gX2_bringInMissing_X2_holds : GoodIn wsX2_bringInMissing (wsV RX2 60 RX2 yX2_holds wsX2_holds) := goodIn_app (goodIn_of _ (by decide +kernel)) ggX2_bringInMissing_X2_holds
set_option maxRecDepth 20000 in
theorem ggX2_bringInMissing_X2_bringIn : GoodIn wsX2_bringInMissing wsX2_bringIn := goodIn_r _ [19, 1, 2, 3, 4, 5, 20, 21, 22, 10, 23, 12, 13, 14, 15, 24, 25, 26, 27, 48, 49, 50, 51, 52, 53] (by decide +kernel) (by decide +kernel)
set_option maxRecDepth 20000 in
theorem gX2_bringInMissing_X2_bringIn : GoodIn wsX2_bringInMissing (wsV RX2 63 RX2 yX2_bringIn wsX2_bringIn) := goodIn_app (goodIn_of _ (by decide +kernel)) ggX2_bringInMissing_X2_bringIn
set_option maxRecDepth 20000 in
theorem ggX2_bringInMissing_X2_setState : GoodIn wsX2_bringInMissing wsX2_setState := goodIn_r _ [31, 3, 12, 13, 14, 10, 15, 1, 2, 48, 49, 50, 51, 52, 53] (by decide +kernel) (by decide +kernel)
set_option maxRecDepth 20000 in
theorem gX2_bringInMissing_X2_setState : GoodIn wsX2_bringInMissing (wsV RX2 67 RX2 yX2_setState wsX2_setState) := goodIn_app (goodIn_of _ (by decide +kernel)) ggX2_bringInMissing_X2_setState
set_option maxRecDepth 20000 in
theorem ggX2_bringInMissing_X2_setLast : GoodIn wsX2_bringInMissing wsX2_setLast := goodIn_r _ [35, 4, 12, 13, 14, 10, 15, 1, 2, 48, 49, 50, 51, 52, 53] (by decide +kernel) (by decide +kernel)
set_option maxRecDepth 20000 in
theorem gX2_bringInMissing_X2_setLast : GoodIn wsX2_bringInMissing (wsV RX2 70 RX2 yX2_setLast wsX2_setLast) := goodIn_app (goodIn_of _ (by decide +kernel)) ggX2_bringInMissing_X2_setLast
set_option maxRecDepth 20000 in
theorem ggX2_bringInMissing_X2_setNext : GoodIn wsX2_bringInMissing wsX2_setNext := goodIn_r _ [39, 5, 12, 13, 14, 10, 15, 1, 2, 48, 49, 50, 51, 52, 53] (by decide +kernel) (by decide +kernel)
set_option maxRecDepth 20000 in
theorem gX2_bringInMissing_X2_setNext : GoodIn wsX2_bringInMissing (wsV RX2 73 RX2 yX2_setNext wsX2_setNext) := goodIn_app (goodIn_of _ (by decide +kernel)) ggX2_bringInMissing_X2_setNext
set_option maxRecDepth 20000 in
theorem ggX2_bringInMissing_X2_makeDirty : GoodIn wsX2_bringInMissing wsX2_makeDirty := goodIn_r _ [43, 6, 44, 45, 46, 47, 48, 49, 50, 51, 52, 53] (by decide +kernel) (by decide +kernel)
set_option maxRecDepth 20000 in
theorem gX2_bringInMissing_X2_makeDirty : GoodIn wsX2_bringInMissing (wsV RX2 76 RX2 yX2_makeDirty wsX2_makeDirty) := goodIn_app (goodIn_of _ (by decide +kernel)) ggX2_bringInMissing_X2_makeDirty
theorem dX2_bringInMissing_0 : decode cX2_bringInMissing 0 = .ok (.aload_n 1, 1) := by decide +kernel
theorem dX2_bringInMissing_1 : decode cX2_bringInMissing 1 = .ok (.ifnonnull 4, 3) := by decide +kernel
theorem dX2_bringInMissing_4 : decode cX2_bringInMissing 4 = .ok (.return_, 1) := by decide +kernel
theorem dX2_bringInMissing_5 : decode cX2_bringInMissing 5 = .ok (.iconst 0, 1) := by decide +kernel
theorem dX2_bringInMissing_6 : decode cX2_bringInMissing 6 = .ok (.istore_n 2, 1) := by decide +kernel
theorem dX2_bringInMissing_7 : decode cX2_bringInMissing 7 = .ok (.iload_n 2, 1) := by decide +kernel
theorem dX2_bringInMissing_8 : decode cX2_bringInMissing 8 = .ok (.aload_n 1, 1) := by decide +kernel
theorem dX2_bringInMissing_9 : decode cX2_bringInMissing 9 = .ok (.getfield 7, 3) := by decide +kernel
theorem dX2_bringInMissing_12 : decode cX2_bringInMissing 12 = .ok (.if_icmp .ge 62, 3) := by decide +kernel
theorem dX2_bringInMissing_15 : decode cX2_bringInMissing 15 = .ok (.aload_n 1, 1) := by decide +kernel
theorem dX2_bringInMissing_16 : decode cX2_bringInMissing 16 = .ok (.getfield 13, 3) := by decide +kernel
theorem dX2_bringInMissing_19 : decode cX2_bringInMissing 19 = .ok (.iload_n 2, 1) := by decide +kernel
theorem dX2_bringInMissing_20 : decode cX2_bringInMissing 20 = .ok (.iaload, 1) := by decide +kernel
theorem dX2_bringInMissing_21 : decode cX2_bringInMissing 21 = .ok (.istore_n 3, 1) := by decide +kernel
theorem dX2_bringInMissing_22 : decode cX2_bringInMissing 22 = .ok (.aload_n 0, 1) := by decide +kernel
theorem dX2_bringInMissing_23 : decode cX2_bringInMissing 23 = .ok (.iload_n 3, 1) := by decide +kernel
theorem dX2_bringInMissing_24 : decode cX2_bringInMissing 24 = .ok (.invokevirtual 60, 3) := by decide +kernel
theorem dX2_bringInMissing_27 : decode cX2_bringInMissing 27 = .ok (.ifCond .ne 41, 3) := by decide +kernel
theorem dX2_bringInMissing_30 : decode cX2_bringInMissing 30 = .ok (.aload_n 0, 1) := by decide +kernel
theorem dX2_bringInMissing_31 : decode cX2_bringInMissing 31 = .ok (.iload_n 3, 1) := by decide +kernel
theorem dX2_bringInMissing_32 : decode cX2_bringInMissing 32 = .ok (.invokevirtual 63, 3) := by decide +kernel
theorem dX2_bringInMissing_35 : decode cX2_bringInMissing 35 = .ok (.aload_n 0, 1) := by decide +kernel
theorem dX2_bringInMissing_36 : decode cX2_bringInMissing 36 = .ok (.iload_n 3, 1) := by decide +kernel
theorem dX2_bringInMissing_37 : decode cX2_bringInMissing 37 = .ok (.aload_n 1, 1) := by decide +kernel
theorem dX2_bringInMissing_38 : decode cX2_bringInMissing 38 = .ok (.getfield 17, 3) := by decide +kernel
theorem dX2_bringInMissing_41 : decode cX2_bringInMissing 41 = .ok (.iload_n 2, 1) := by decide +kernel
theorem dX2_bringInMissing_42 : decode cX2_bringInMissing 42 = .ok (.iaload, 1) := by decide +kernel
theorem dX2_bringInMissing_43 : decode cX2_bringInMissing 43 = .ok (.invokevirtual 67, 3) := by decide +kernel
theorem dX2_bringInMissing_46 : decode cX2_bringInMissing 46 = .ok (.aload_n 0, 1) := by decide +kernel
theorem dX2_bringInMissing_47 : decode cX2_bringInMissing 47 = .ok (.iload_n 3, 1) := by decide +kernel
theorem dX2_bringInMissing_48 : decode cX2_bringInMissing 48 = .ok (.aload_n 1, 1) := by decide +kernel
theorem dX2_bringInMissing_49 : decode cX2_bringInMissing 49 = .ok (.getfield 20, 3) := by decide +kernel
theorem dX2_bringInMissing_52 : decode cX2_bringInMissing 52 = .ok (.iload_n 2, 1) := by decide +kernel
theorem dX2_bringInMissing_53 : decode cX2_bringInMissing 53 = .ok (.iaload, 1) := by decide +kernel
theorem dX2_bringInMissing_54 : decode cX2_bringInMissing 54 = .ok (.invokevirtual 70, 3) := by decide +kernel
theorem dX2_bringInMissing_57 : decode cX2_bringInMissing 57 = .ok (.aload_n 0, 1) := by decide +kernel
theorem dX2_bringInMissing_58 : decode cX2_bringInMissing 58 = .ok (.iload_n 3, 1) := by decide +kernel
theorem dX2_bringInMissing_59 : decode cX2_bringInMissing 59 = .ok (.aload_n 1, 1) := by decide +kernel
theorem dX2_bringInMissing_60 : decode cX2_bringInMissing 60 = .ok (.getfield 23, 3) := by decide +kernel
theorem dX2_bringInMissing_63 : decode cX2_bringInMissing 63 = .ok (.iload_n 2, 1) := by decide +kernel
theorem dX2_bringInMissing_64 : decode cX2_bringInMissing 64 = .ok (.iaload, 1) := by decide +kernel
theorem dX2_bringInMissing_65 : decode cX2_bringInMissing 65 = .ok (.invokevirtual 73, 3) := by decide +kernel
theorem dX2_bringInMissing_68 : decode cX2_bringInMissing 68 = .ok (.iinc 2 1, 3) := by decide +kernel
theorem dX2_bringInMissing_71 : decode cX2_bringInMissing 71 = .ok (.goto (-64), 3) := by decide +kernel
theorem dX2_bringInMissing_74 : decode cX2_bringInMissing 74 = .ok (.iconst 0, 1) := by decide +kernel
theorem dX2_bringInMissing_75 : decode cX2_bringInMissing 75 = .ok (.istore_n 2, 1) := by decide +kernel
theorem dX2_bringInMissing_76 : decode cX2_bringInMissing 76 = .ok (.iload_n 2, 1) := by decide +kernel
theorem dX2_bringInMissing_77 : decode cX2_bringInMissing 77 = .ok (.aload_n 1, 1) := by decide +kernel
theorem dX2_bringInMissing_78 : decode cX2_bringInMissing 78 = .ok (.getfield 28, 3) := by decide +kernel
theorem dX2_bringInMissing_81 : decode cX2_bringInMissing 81 = .ok (.arraylength, 1) := by decide +kernel
theorem dX2_bringInMissing_82 : decode cX2_bringInMissing 82 = .ok (.if_icmp .ge 20, 3) := by decide +kernel
theorem dX2_bringInMissing_85 : decode cX2_bringInMissing 85 = .ok (.aload_n 0, 1) := by decide +kernel
theorem dX2_bringInMissing_86 : decode cX2_bringInMissing 86 = .ok (.iload_n 2, 1) := by decide +kernel
theorem dX2_bringInMissing_87 : decode cX2_bringInMissing 87 = .ok (.aload_n 1, 1) := by decide +kernel
theorem dX2_bringInMissing_88 : decode cX2_bringInMissing 88 = .ok (.getfield 28, 3) := by decide +kernel
theorem dX2_bringInMissing_91 : decode cX2_bringInMissing 91 = .ok (.iload_n 2, 1) := by decide +kernel
theorem dX2_bringInMissing_92 : decode cX2_bringInMissing 92 = .ok (.iaload, 1) := by decide +kernel
theorem dX2_bringInMissing_93 : decode cX2_bringInMissing 93 = .ok (.invokevirtual 76, 3) := by decide +kernel
theorem dX2_bringInMissing_96 : decode cX2_bringInMissing 96 = .ok (.iinc 2 1, 3) := by decide +kernel
theorem dX2_bringInMissing_99 : decode cX2_bringInMissing 99 = .ok (.goto (-23), 3) := by decide +kernel
theorem dX2_bringInMissing_102 : decode cX2_bringInMissing 102 = .ok (.return_, 1) := by decide +kernel
theorem dX2_slotOf_0 : decode cX2_slotOf 0 = .ok (.iconst 0, 1) := by decide +kernel
theorem dX2_slotOf_1 : decode cX2_slotOf 1 = .ok (.istore_n 2, 1) := by decide +kernel
theorem dX2_slotOf_2 : decode cX2_slotOf 2 = .ok (.iload_n 2, 1) := by decide +kernel
theorem dX2_slotOf_3 : decode cX2_slotOf 3 = .ok (.aload_n 0, 1) := by decide +kernel
theorem dX2_slotOf_4 : decode cX2_slotOf 4 = .ok (.getfield 7, 3) := by decide +kernel
theorem dX2_slotOf_7 : decode cX2_slotOf 7 = .ok (.if_icmp .ge 21, 3) := by decide +kernel
theorem dX2_slotOf_10 : decode cX2_slotOf 10 = .ok (.aload_n 0, 1) := by decide +kernel
theorem dX2_slotOf_11 : decode cX2_slotOf 11 = .ok (.getfield 13, 3) := by decide +kernel
theorem dX2_slotOf_14 : decode cX2_slotOf 14 = .ok (.iload_n 2, 1) := by decide +kernel
theorem dX2_slotOf_15 : decode cX2_slotOf 15 = .ok (.iaload, 1) := by decide +kernel
theorem dX2_slotOf_16 : decode cX2_slotOf 16 = .ok (.iload_n 1, 1) := by decide +kernel
theorem dX2_slotOf_17 : decode cX2_slotOf 17 = .ok (.if_icmp .ne 5, 3) := by decide +kernel
theorem dX2_slotOf_20 : decode cX2_slotOf 20 = .ok (.iload_n 2, 1) := by decide +kernel
theorem dX2_slotOf_21 : decode cX2_slotOf 21 = .ok (.ireturn, 1) := by decide +kernel
theorem dX2_slotOf_22 : decode cX2_slotOf 22 = .ok (.iinc 2 1, 3) := by decide +kernel
theorem dX2_slotOf_25 : decode cX2_slotOf 25 = .ok (.goto (-23), 3) := by decide +kernel
theorem dX2_slotOf_28 : decode cX2_slotOf 28 = .ok (.iconst (-1), 1) := by decide +kernel
theorem dX2_slotOf_29 : decode cX2_slotOf 29 = .ok (.ireturn, 1) := by decide +kernel
theorem dX2_copySlot_0 : decode cX2_copySlot 0 = .ok (.aload_n 0, 1) := by decide +kernel
theorem dX2_copySlot_1 : decode cX2_copySlot 1 = .ok (.getfield 13, 3) := by decide +kernel
theorem dX2_copySlot_4 : decode cX2_copySlot 4 = .ok (.iload_n 2, 1) := by decide +kernel
theorem dX2_copySlot_5 : decode cX2_copySlot 5 = .ok (.aload_n 0, 1) := by decide +kernel
theorem dX2_copySlot_6 : decode cX2_copySlot 6 = .ok (.getfield 13, 3) := by decide +kernel
theorem dX2_copySlot_9 : decode cX2_copySlot 9 = .ok (.iload_n 1, 1) := by decide +kernel
theorem dX2_copySlot_10 : decode cX2_copySlot 10 = .ok (.iaload, 1) := by decide +kernel
theorem dX2_copySlot_11 : decode cX2_copySlot 11 = .ok (.iastore, 1) := by decide +kernel
theorem dX2_copySlot_12 : decode cX2_copySlot 12 = .ok (.aload_n 0, 1) := by decide +kernel
theorem dX2_copySlot_13 : decode cX2_copySlot 13 = .ok (.getfield 17, 3) := by decide +kernel
theorem dX2_copySlot_16 : decode cX2_copySlot 16 = .ok (.iload_n 2, 1) := by decide +kernel
theorem dX2_copySlot_17 : decode cX2_copySlot 17 = .ok (.aload_n 0, 1) := by decide +kernel
theorem dX2_copySlot_18 : decode cX2_copySlot 18 = .ok (.getfield 17, 3) := by decide +kernel
theorem dX2_copySlot_21 : decode cX2_copySlot 21 = .ok (.iload_n 1, 1) := by decide +kernel
theorem dX2_copySlot_22 : decode cX2_copySlot 22 = .ok (.iaload, 1) := by decide +kernel
theorem dX2_copySlot_23 : decode cX2_copySlot 23 = .ok (.iastore, 1) := by decide +kernel
theorem dX2_copySlot_24 : decode cX2_copySlot 24 = .ok (.aload_n 0, 1) := by decide +kernel
theorem dX2_copySlot_25 : decode cX2_copySlot 25 = .ok (.getfield 20, 3) := by decide +kernel
theorem dX2_copySlot_28 : decode cX2_copySlot 28 = .ok (.iload_n 2, 1) := by decide +kernel
theorem dX2_copySlot_29 : decode cX2_copySlot 29 = .ok (.aload_n 0, 1) := by decide +kernel
theorem dX2_copySlot_30 : decode cX2_copySlot 30 = .ok (.getfield 20, 3) := by decide +kernel
theorem dX2_copySlot_33 : decode cX2_copySlot 33 = .ok (.iload_n 1, 1) := by decide +kernel
theorem dX2_copySlot_34 : decode cX2_copySlot 34 = .ok (.iaload, 1) := by decide +kernel
theorem dX2_copySlot_35 : decode cX2_copySlot 35 = .ok (.iastore, 1) := by decide +kernel
theorem dX2_copySlot_36 : decode cX2_copySlot 36 = .ok (.aload_n 0, 1) := by decide +kernel
theorem dX2_copySlot_37 : decode cX2_copySlot 37 = .ok (.getfield 23, 3) := by decide +kernel
theorem dX2_copySlot_40 : decode cX2_copySlot 40 = .ok (.iload_n 2, 1) := by decide +kernel
theorem dX2_copySlot_41 : decode cX2_copySlot 41 = .ok (.aload_n 0, 1) := by decide +kernel
theorem dX2_copySlot_42 : decode cX2_copySlot 42 = .ok (.getfield 23, 3) := by decide +kernel
theorem dX2_copySlot_45 : decode cX2_copySlot 45 = .ok (.iload_n 1, 1) := by decide +kernel
theorem dX2_copySlot_46 : decode cX2_copySlot 46 = .ok (.iaload, 1) := by decide +kernel
theorem dX2_copySlot_47 : decode cX2_copySlot 47 = .ok (.iastore, 1) := by decide +kernel
theorem dX2_copySlot_48 : decode cX2_copySlot 48 = .ok (.return_, 1) := by decide +kernel
end
section
set_option maxRecDepth 20000 in
theorem ggX3_init_X0_init : GoodIn wsX3_init wsX0_init := goodIn_r _ [27, 28, 2, 3, 29, 30, 31, 32, 33, 50, 51, 52, 53] (by decide +kernel) (by decide +kernel)
set_option maxRecDepth 20000 in
theorem gX3_init_X0_init_n9 : GoodIn wsX3_init (wsX0_init) := ggX3_init_X0_init
set_option maxRecDepth 20000 in
theorem ggX3_init_X1_init : GoodIn wsX3_init wsX1_init := goodIn_r _ [35, 36, 2, 3, 29, 37, 38, 39, 40, 67, 68, 69, 70] (by decide +kernel) (by decide +kernel)
set_option maxRecDepth 20000 in
theorem gX3_init_X1_init_n18 : GoodIn wsX3_init (wsX1_init) := ggX3_init_X1_init
set_option maxRecDepth 20000 in
theorem ggX3_init_X2_init : GoodIn wsX3_init wsX2_init := goodIn_r _ [42, 43, 2, 3, 44, 29, 45, 46, 47, 48, 49, 71, 72, 73, 74, 75, 76] (by decide +kernel) (by decide +kernel)
set_option maxRecDepth 20000 in
theorem gX3_init_X2_init_n25 : GoodIn wsX3_init (wsX2_init) := ggX3_init_X2_init
theorem dX3_init_0 : decode cX3_init 0 = .ok (.aload_n 0, 1) := by decide +kernel
theorem dX3_init_1 : decode cX3_init 1 = .ok (.invokespecial 1, 3) := by decide +kernel
theorem dX3_init_4 : decode cX3_init 4 = .ok (.aload_n 0, 1) := by decide +kernel
theorem dX3_init_5 : decode cX3_init 5 = .ok (.new 7, 3) := by decide +kernel
theorem dX3_init_8 : decode cX3_init 8 = .ok (.dup, 1) := by decide +kernel
theorem dX3_init_9 : decode cX3_init 9 = .ok (.invokespecial 9, 3) := by decide +kernel
theorem dX3_init_12 : decode cX3_init 12 = .ok (.putfield 10, 3) := by decide +kernel
theorem dX3_init_15 : decode cX3_init 15 = .ok (.aload_n 0, 1) := by decide +kernel
theorem dX3_init_16 : decode cX3_init 16 = .ok (.new 16, 3) := by decide +kernel
theorem dX3_init_19 : decode cX3_init 19 = .ok (.dup, 1) := by decide +kernel
theorem dX3_init_20 : decode cX3_init 20 = .ok (.invokespecial 18, 3) := by decide +kernel
theorem dX3_init_23 : decode cX3_init 23 = .ok (.putfield 19, 3) := by decide +kernel
theorem dX3_init_26 : decode cX3_init 26 = .ok (.aload_n 0, 1) := by decide +kernel
theorem dX3_init_27 : decode cX3_init 27 = .ok (.new 23, 3) := by decide +kernel
theorem dX3_init_30 : decode cX3_init 30 = .ok (.dup, 1) := by decide +kernel
theorem dX3_init_31 : decode cX3_init 31 = .ok (.invokespecial 25, 3) := by decide +kernel
theorem dX3_init_34 : decode cX3_init 34 = .ok (.putfield 26, 3) := by decide +kernel
theorem dX3_init_37 : decode cX3_init 37 = .ok (.aload_n 0, 1) := by decide +kernel
theorem dX3_init_38 : decode cX3_init 38 = .ok (.new 23, 3) := by decide +kernel
theorem dX3_init_41 : decode cX3_init 41 = .ok (.dup, 1) := by decide +kernel
theorem dX3_init_42 : decode cX3_init 42 = .ok (.invokespecial 25, 3) := by decide +kernel
theorem dX3_init_45 : decode cX3_init 45 = .ok (.putfield 30, 3) := by decide +kernel
theorem dX3_init_48 : decode cX3_init 48 = .ok (.aload_n 0, 1) := by decide +kernel
theorem dX3_init_49 : decode cX3_init 49 = .ok (.iconst 0, 1) := by decide +kernel
theorem dX3_init_50 : decode cX3_init 50 = .ok (.putfield 33, 3) := by decide +kernel
theorem dX3_init_53 : decode cX3_init 53 = .ok (.aload_n 0, 1) := by decide +kernel
theorem dX3_init_54 : decode cX3_init 54 = .ok (.iconst 0, 1) := by decide +kernel
theorem dX3_init_55 : decode cX3_init 55 = .ok (.putfield 37, 3) := by decide +kernel
theorem dX3_init_58 : decode cX3_init 58 = .ok (.aload_n 0, 1) := by decide +kernel
theorem dX3_init_59 : decode cX3_init 59 = .ok (.iconst 0, 1) := by decide +kernel
theorem dX3_init_60 : decode cX3_init 60 = .ok (.putfield 40, 3) := by decide +kernel
theorem dX3_init_63 : decode cX3_init 63 = .ok (.aload_n 0, 1) := by decide +kernel
theorem dX3_init_64 : decode cX3_init 64 = .ok (.iconst 0, 1) := by decide +kernel
theorem dX3_init_65 : decode cX3_init 65 = .ok (.putfield 43, 3) := by decide +kernel
theorem dX3_init_68 : decode cX3_init 68 = .ok (.aload_n 0, 1) := by decide +kernel
theorem dX3_init_69 : decode cX3_init 69 = .ok (.iconst 0, 1) := by decide +kernel
theorem dX3_init_70 : decode cX3_init 70 = .ok (.putfield 46, 3) := by decide +kernel
theorem dX3_init_73 : decode cX3_init 73 = .ok (.aload_n 0, 1) := by decide +kernel
theorem dX3_init_74 : decode cX3_init 74 = .ok (.iconst 0, 1) := by decide +kernel
theorem dX3_init_75 : decode cX3_init 75 = .ok (.putfield 49, 3) := by decide +kernel
theorem dX3_init_78 : decode cX3_init 78 = .ok (.aload_n 0, 1) := by decide +kernel
theorem dX3_init_79 : decode cX3_init 79 = .ok (.iconst 0, 1) := by decide +kernel
theorem dX3_init_80 : decode cX3_init 80 = .ok (.putfield 52, 3) := by decide +kernel
theorem dX3_init_83 : decode cX3_init 83 = .ok (.aload_n 0, 1) := by decide +kernel
theorem dX3_init_84 : decode cX3_init 84 = .ok (.iconst 0, 1) := by decide +kernel
theorem dX3_init_85 : decode cX3_init 85 = .ok (.putfield 55, 3) := by decide +kernel
theorem dX3_init_88 : decode cX3_init 88 = .ok (.aload_n 0, 1) := by decide +kernel
theorem dX3_init_89 : decode cX3_init 89 = .ok (.iconst 0, 1) := by decide +kernel
theorem dX3_init_90 : decode cX3_init 90 = .ok (.putfield 58, 3) := by decide +kernel
theorem dX3_init_93 : decode cX3_init 93 = .ok (.return_, 1) := by decide +kernel
set_option maxRecDepth 20000 in
theorem ggX3_begin_X2_isFull : GoodIn wsX3_begin wsX2_isFull := goodIn_r _ [8, 9, 40, 41, 42, 43, 44, 45] (by decide +kernel) (by decide +kernel)
set_option maxRecDepth 20000 in
theorem gX3_begin_X2_isFull : GoodIn wsX3_begin (wsV RX3 61 RX2 yX2_isFull wsX2_isFull) := goodIn_app (goodIn_of _ (by decide +kernel)) ggX3_begin_X2_isFull
set_option maxRecDepth 20000 in
theorem ggX3_begin_X2_bringIn : GoodIn wsX3_begin wsX2_bringIn := goodIn_r _ [13, 9, 14, 15, 16, 17, 18, 5, 6, 7, 8, 19, 20, 21, 22, 23, 24, 25, 26, 40, 41, 42, 43, 44, 45] (by decide +kernel) (by decide +kernel)
set_option maxRecDepth 20000 in
theorem gX3_begin_X2_bringIn : GoodIn wsX3_begin (wsV RX3 65 RX2 yX2_bringIn wsX2_bringIn) := goodIn_app (goodIn_of _ (by decide +kernel)) ggX3_begin_X2_bringIn
theorem dX3_begin_0 : decode cX3_begin 0 = .ok (.aload_n 0, 1) := by decide +kernel
theorem dX3_begin_1 : decode cX3_begin 1 = .ok (.getfield 43, 3) := by decide +kernel
theorem dX3_begin_4 : decode cX3_begin 4 = .ok (.ifCond .eq 6, 3) := by decide +kernel
theorem dX3_begin_7 : decode cX3_begin 7 = .ok (.bipush (-105), 2) := by decide +kernel
theorem dX3_begin_9 : decode cX3_begin 9 = .ok (.ireturn, 1) := by decide +kernel
theorem dX3_begin_10 : decode cX3_begin 10 = .ok (.aload_n 0, 1) := by decide +kernel
theorem dX3_begin_11 : decode cX3_begin 11 = .ok (.getfield 40, 3) := by decide +kernel
theorem dX3_begin_14 : decode cX3_begin 14 = .ok (.sipush 200, 3) := by decide +kernel
theorem dX3_begin_17 : decode cX3_begin 17 = .ok (.if_icmp .ge 13, 3) := by decide +kernel
theorem dX3_begin_20 : decode cX3_begin 20 = .ok (.aload_n 0, 1) := by decide +kernel
theorem dX3_begin_21 : decode cX3_begin 21 = .ok (.getfield 26, 3) := by decide +kernel
theorem dX3_begin_24 : decode cX3_begin 24 = .ok (.invokevirtual 61, 3) := by decide +kernel
theorem dX3_begin_27 : decode cX3_begin 27 = .ok (.ifCond .eq 6, 3) := by decide +kernel
theorem dX3_begin_30 : decode cX3_begin 30 = .ok (.bipush (-104), 2) := by decide +kernel
theorem dX3_begin_32 : decode cX3_begin 32 = .ok (.ireturn, 1) := by decide +kernel
theorem dX3_begin_33 : decode cX3_begin 33 = .ok (.aload_n 0, 1) := by decide +kernel
theorem dX3_begin_34 : decode cX3_begin 34 = .ok (.dup, 1) := by decide +kernel
theorem dX3_begin_35 : decode cX3_begin 35 = .ok (.getfield 40, 3) := by decide +kernel
theorem dX3_begin_38 : decode cX3_begin 38 = .ok (.iconst 1, 1) := by decide +kernel
theorem dX3_begin_39 : decode cX3_begin 39 = .ok (.iadd, 1) := by decide +kernel
theorem dX3_begin_40 : decode cX3_begin 40 = .ok (.putfield 40, 3) := by decide +kernel
theorem dX3_begin_43 : decode cX3_begin 43 = .ok (.aload_n 0, 1) := by decide +kernel
theorem dX3_begin_44 : decode cX3_begin 44 = .ok (.getfield 26, 3) := by decide +kernel
theorem dX3_begin_47 : decode cX3_begin 47 = .ok (.aload_n 0, 1) := by decide +kernel
theorem dX3_begin_48 : decode cX3_begin 48 = .ok (.getfield 40, 3) := by decide +kernel
theorem dX3_begin_51 : decode cX3_begin 51 = .ok (.invokevirtual 65, 3) := by decide +kernel
theorem dX3_begin_54 : decode cX3_begin 54 = .ok (.aload_n 0, 1) := by decide +kernel
theorem dX3_begin_55 : decode cX3_begin 55 = .ok (.getfield 40, 3) := by decide +kernel
theorem dX3_begin_58 : decode cX3_begin 58 = .ok (.ireturn, 1) := by decide +kernel
set_option maxRecDepth 20000 in
theorem ggX3_add_X3_refusalFor : GoodIn wsX3_add wsX3_refusalFor := goodIn_r _ [7, 8, 1, 9, 10, 11, 12, 13, 14, 15, 16, 17, 18, 19, 126, 127, 128, 129, 130, 131, 132, 133, 134, 135, 136, 137, 138, 139, 140, 141, 142, 143, 144] (by decide +kernel) (by decide +kernel)
set_option maxRecDepth 20000 in
theorem gX3_add_X3_refusalFor : GoodIn wsX3_add (wsV RX3 69 RX3 yX3_refusalFor wsX3_refusalFor) := goodIn_app (goodIn_of _ (by decide +kernel)) ggX3_add_X3_refusalFor
set_option maxRecDepth 20000 in
theorem ggX3_add_X1_hasPlace : GoodIn wsX3_add wsX1_hasPlace := goodIn_r _ [23] (by decide +kernel) (by decide +kernel)
set_option maxRecDepth 20000 in
theorem gX3_add_X1_hasPlace : GoodIn wsX3_add (va_wsS RX3 73 yX1_hasPlace wsX1_hasPlace) := goodIn_app (goodIn_of _ (by decide +kernel)) ggX3_add_X1_hasPlace
set_option maxRecDepth 20000 in
theorem ggX3_add_X2_stateOf : GoodIn wsX3_add wsX2_stateOf := goodIn_r _ [27, 28, 14, 15, 16, 12, 17, 18, 19, 139, 140, 141, 142, 143, 144] (by decide +kernel) (by decide +kernel)
set_option maxRecDepth 20000 in
theorem gX3_add_X2_stateOf : GoodIn wsX3_add (wsV RX3 77 RX2 yX2_stateOf wsX2_stateOf) := goodIn_app (goodIn_of _ (by decide +kernel)) ggX3_add_X2_stateOf
set_option maxRecDepth 20000 in
theorem ggX3_add_X0_changesHeld : GoodIn wsX3_add wsX0_changesHeld := goodIn_r _ [33, 34, 145, 146, 147, 148] (by decide +kernel) (by decide +kernel)
set_option maxRecDepth 20000 in
theorem gX3_add_X0_changesHeld : GoodIn wsX3_add (wsV RX3 80 RX0 yX0_changesHeld wsX0_changesHeld) := goodIn_app (goodIn_of _ (by decide +kernel)) ggX3_add_X0_changesHeld
set_option maxRecDepth 20000 in
theorem ggX3_add_X2_lastOf : GoodIn wsX3_add wsX2_lastOf := goodIn_r _ [38, 39, 14, 15, 16, 12, 17, 18, 19, 139, 140, 141, 142, 143, 144] (by decide +kernel) (by decide +kernel)
set_option maxRecDepth 20000 in
theorem gX3_add_X2_lastOf : GoodIn wsX3_add (wsV RX3 84 RX2 yX2_lastOf wsX2_lastOf) := goodIn_app (goodIn_of _ (by decide +kernel)) ggX3_add_X2_lastOf
set_option maxRecDepth 20000 in
theorem ggX3_add_X0_append : GoodIn wsX3_add wsX0_append := goodIn_r _ [43, 44, 45, 34, 46, 47, 48, 49, 50, 51, 52, 53, 54, 55, 56, 57, 58, 59, 60, 61, 62, 63, 64, 145, 146, 147, 148] (by decide +kernel) (by decide +kernel)
set_option maxRecDepth 20000 in
theorem gX3_add_X0_append : GoodIn wsX3_add (wsV RX3 87 RX0 yX0_append wsX0_append) := goodIn_app (goodIn_of _ (by decide +kernel)) ggX3_add_X0_append
set_option maxRecDepth 20000 in
theorem ggX3_add_X3_takeIntoTables : GoodIn wsX3_add wsX3_takeIntoTables := goodIn_r _ [68, 2, 1, 69, 70, 71, 32, 72, 45, 73, 74, 75, 76, 44, 77, 78, 79, 12, 80, 18, 19, 28, 39, 81, 82, 83, 84, 85, 14, 15, 16, 17, 86, 87, 88, 89, 90, 91, 92, 93, 94, 95, 96, 97, 98, 99, 100, 101, 102, 103, 104, 22, 105, 106, 107, 108, 109, 110, 111, 112, 113, 126, 127, 128, 129, 130, 131, 132, 133, 134, 135, 136, 137, 138, 145, 146, 147, 148, 139, 140, 141, 142, 143, 144] (by decide +kernel) (by decide +kernel)
set_option maxRecDepth 20000 in
theorem gX3_add_X3_takeIntoTables : GoodIn wsX3_add (wsV RX3 91 RX3 yX3_takeIntoTables wsX3_takeIntoTables) := goodIn_app (goodIn_of _ (by decide +kernel)) ggX3_add_X3_takeIntoTables
set_option maxRecDepth 20000 in
theorem ggX3_add_X3_carryOut : GoodIn wsX3_add wsX3_carryOut := goodIn_r _ [117, 118, 2, 69, 70, 71, 32, 72, 45, 73, 74, 75, 76, 44, 119, 120, 121, 22, 122, 123, 124, 125, 21, 23, 126, 127, 128, 129, 130, 131, 132, 133, 134, 135, 136, 137, 138, 145, 146, 147, 148, 149, 150, 151, 152] (by decide +kernel) (by decide +kernel)
set_option maxRecDepth 20000 in
theorem gX3_add_X3_carryOut : GoodIn wsX3_add (wsV RX3 94 RX3 yX3_carryOut wsX3_carryOut) := goodIn_app (goodIn_of _ (by decide +kernel)) ggX3_add_X3_carryOut
theorem dX3_add_0 : decode cX3_add 0 = .ok (.aload_n 0, 1) := by decide +kernel
theorem dX3_add_1 : decode cX3_add 1 = .ok (.iload_n 1, 1) := by decide +kernel
theorem dX3_add_2 : decode cX3_add 2 = .ok (.invokevirtual 69, 3) := by decide +kernel
theorem dX3_add_5 : decode cX3_add 5 = .ok (.istore 5, 2) := by decide +kernel
theorem dX3_add_7 : decode cX3_add 7 = .ok (.iload 5, 2) := by decide +kernel
theorem dX3_add_9 : decode cX3_add 9 = .ok (.ifCond .eq 6, 3) := by decide +kernel
theorem dX3_add_12 : decode cX3_add 12 = .ok (.iload 5, 2) := by decide +kernel
theorem dX3_add_14 : decode cX3_add 14 = .ok (.ireturn, 1) := by decide +kernel
theorem dX3_add_15 : decode cX3_add 15 = .ok (.iload_n 2, 1) := by decide +kernel
theorem dX3_add_16 : decode cX3_add 16 = .ok (.iload_n 3, 1) := by decide +kernel
theorem dX3_add_17 : decode cX3_add 17 = .ok (.invokestatic 73, 3) := by decide +kernel
theorem dX3_add_20 : decode cX3_add 20 = .ok (.ifCond .ne 6, 3) := by decide +kernel
theorem dX3_add_23 : decode cX3_add 23 = .ok (.bipush (-102), 2) := by decide +kernel
theorem dX3_add_25 : decode cX3_add 25 = .ok (.ireturn, 1) := by decide +kernel
theorem dX3_add_26 : decode cX3_add 26 = .ok (.aload_n 0, 1) := by decide +kernel
theorem dX3_add_27 : decode cX3_add 27 = .ok (.getfield 26, 3) := by decide +kernel
theorem dX3_add_30 : decode cX3_add 30 = .ok (.iload_n 1, 1) := by decide +kernel
theorem dX3_add_31 : decode cX3_add 31 = .ok (.invokevirtual 77, 3) := by decide +kernel
theorem dX3_add_34 : decode cX3_add 34 = .ok (.iconst 1, 1) := by decide +kernel
theorem dX3_add_35 : decode cX3_add 35 = .ok (.if_icmp .eq 6, 3) := by decide +kernel
theorem dX3_add_38 : decode cX3_add 38 = .ok (.bipush (-103), 2) := by decide +kernel
theorem dX3_add_40 : decode cX3_add 40 = .ok (.ireturn, 1) := by decide +kernel
theorem dX3_add_41 : decode cX3_add 41 = .ok (.aload_n 0, 1) := by decide +kernel
theorem dX3_add_42 : decode cX3_add 42 = .ok (.getfield 10, 3) := by decide +kernel
theorem dX3_add_45 : decode cX3_add 45 = .ok (.invokevirtual 80, 3) := by decide +kernel
theorem dX3_add_48 : decode cX3_add 48 = .ok (.sipush 2000, 3) := by decide +kernel
theorem dX3_add_51 : decode cX3_add 51 = .ok (.if_icmp .lt 6, 3) := by decide +kernel
theorem dX3_add_54 : decode cX3_add 54 = .ok (.bipush (-104), 2) := by decide +kernel
theorem dX3_add_56 : decode cX3_add 56 = .ok (.ireturn, 1) := by decide +kernel
theorem dX3_add_57 : decode cX3_add 57 = .ok (.aload_n 0, 1) := by decide +kernel
theorem dX3_add_58 : decode cX3_add 58 = .ok (.getfield 10, 3) := by decide +kernel
theorem dX3_add_61 : decode cX3_add 61 = .ok (.iconst 1, 1) := by decide +kernel
theorem dX3_add_62 : decode cX3_add 62 = .ok (.iload_n 1, 1) := by decide +kernel
theorem dX3_add_63 : decode cX3_add 63 = .ok (.aload_n 0, 1) := by decide +kernel
theorem dX3_add_64 : decode cX3_add 64 = .ok (.getfield 26, 3) := by decide +kernel
theorem dX3_add_67 : decode cX3_add 67 = .ok (.iload_n 1, 1) := by decide +kernel
theorem dX3_add_68 : decode cX3_add 68 = .ok (.invokevirtual 84, 3) := by decide +kernel
theorem dX3_add_71 : decode cX3_add 71 = .ok (.iload_n 2, 1) := by decide +kernel
theorem dX3_add_72 : decode cX3_add 72 = .ok (.iload_n 3, 1) := by decide +kernel
theorem dX3_add_73 : decode cX3_add 73 = .ok (.iload 4, 2) := by decide +kernel
theorem dX3_add_75 : decode cX3_add 75 = .ok (.iconst 0, 1) := by decide +kernel
theorem dX3_add_76 : decode cX3_add 76 = .ok (.invokevirtual 87, 3) := by decide +kernel
theorem dX3_add_79 : decode cX3_add 79 = .ok (.istore 6, 2) := by decide +kernel
theorem dX3_add_81 : decode cX3_add 81 = .ok (.aload_n 0, 1) := by decide +kernel
theorem dX3_add_82 : decode cX3_add 82 = .ok (.iload 6, 2) := by decide +kernel
theorem dX3_add_84 : decode cX3_add 84 = .ok (.invokevirtual 91, 3) := by decide +kernel
theorem dX3_add_87 : decode cX3_add 87 = .ok (.aload_n 0, 1) := by decide +kernel
theorem dX3_add_88 : decode cX3_add 88 = .ok (.iload 6, 2) := by decide +kernel
theorem dX3_add_90 : decode cX3_add 90 = .ok (.invokevirtual 94, 3) := by decide +kernel
theorem dX3_add_93 : decode cX3_add 93 = .ok (.iload 6, 2) := by decide +kernel
theorem dX3_add_95 : decode cX3_add 95 = .ok (.ireturn, 1) := by decide +kernel
set_option maxRecDepth 20000 in
theorem ggX3_back_X3_refusalFor : GoodIn wsX3_back wsX3_refusalFor := goodIn_r _ [6, 7, 1, 8, 9, 10, 11, 12, 13, 14, 15, 16, 17, 18, 142, 143, 144, 145, 146, 147, 148, 149, 150, 151, 152, 153, 154, 155, 156, 157, 158, 159, 160] (by decide +kernel) (by decide +kernel)
set_option maxRecDepth 20000 in
theorem gX3_back_X3_refusalFor : GoodIn wsX3_back (wsV RX3 69 RX3 yX3_refusalFor wsX3_refusalFor) := goodIn_app (goodIn_of _ (by decide +kernel)) ggX3_back_X3_refusalFor
set_option maxRecDepth 20000 in
theorem ggX3_back_X2_lastOf : GoodIn wsX3_back wsX2_lastOf := goodIn_r _ [22, 23, 13, 14, 15, 11, 16, 17, 18, 155, 156, 157, 158, 159, 160] (by decide +kernel) (by decide +kernel)
set_option maxRecDepth 20000 in
theorem gX3_back_X2_lastOf : GoodIn wsX3_back (wsV RX3 84 RX2 yX2_lastOf wsX2_lastOf) := goodIn_app (goodIn_of _ (by decide +kernel)) ggX3_back_X2_lastOf
set_option maxRecDepth 20000 in
theorem ggX3_back_X2_stateOf : GoodIn wsX3_back wsX2_stateOf := goodIn_r _ [27, 28, 13, 14, 15, 11, 16, 17, 18, 155, 156, 157, 158, 159, 160] (by decide +kernel) (by decide +kernel)
set_option maxRecDepth 20000 in
theorem gX3_back_X2_stateOf : GoodIn wsX3_back (wsV RX3 77 RX2 yX2_stateOf wsX2_stateOf) := goodIn_app (goodIn_of _ (by decide +kernel)) ggX3_back_X2_stateOf
set_option maxRecDepth 20000 in
theorem ggX3_back_X3_undoDownTo : GoodIn wsX3_back wsX3_undoDownTo := goodIn_r _ [32, 33, 1, 34, 35, 36, 37, 38, 39, 40, 41, 42, 11, 43, 44, 13, 14, 15, 16, 17, 18, 45, 46, 47, 5, 48, 19, 20, 21, 22, 23, 49, 50, 51, 52, 53, 54, 55, 56, 57, 58, 59, 60, 61, 62, 63, 64, 65, 66, 67, 68, 69, 70, 71, 72, 73, 74, 75, 76, 77, 78, 79, 80, 81, 82, 83, 84, 85, 86, 87, 88, 89, 90, 91, 92, 93, 94, 28, 95, 96, 97, 98, 99, 100, 101, 102, 103, 104, 105, 106, 107, 108, 109, 110, 111, 112, 113, 114, 115, 116, 117, 118, 119, 120, 121, 122, 123, 124, 125, 126, 127, 128, 129, 130, 131, 132, 133, 134, 135, 136, 137, 138, 139, 140, 141, 142, 143, 144, 145, 146, 147, 148, 149, 150, 151, 152, 153, 154, 161, 162, 163, 164, 155, 156, 157, 158, 159, 160, 165, 166, 167, 168] (by decide +kernel) (by decide +kernel)
set_option maxRecDepth 20000 in
theorem gX3_back_X3_undoDownTo : GoodIn wsX3_back (wsV RX3 97 RX3 yX3_undoDownTo wsX3_undoDownTo) := goodIn_app (goodIn_of _ (by decide +kernel)) ggX3_back_X3_undoDownTo
theorem dX3_back_0 : decode cX3_back 0 = .ok (.aload_n 0, 1) := by decide +kernel
theorem dX3_back_1 : decode cX3_back 1 = .ok (.iload_n 1, 1) := by decide +kernel
theorem dX3_back_2 : decode cX3_back 2 = .ok (.invokevirtual 69, 3) := by decide +kernel
theorem dX3_back_5 : decode cX3_back 5 = .ok (.istore_n 3, 1) := by decide +kernel
theorem dX3_back_6 : decode cX3_back 6 = .ok (.iload_n 3, 1) := by decide +kernel
theorem dX3_back_7 : decode cX3_back 7 = .ok (.ifCond .eq 5, 3) := by decide +kernel
theorem dX3_back_10 : decode cX3_back 10 = .ok (.iload_n 3, 1) := by decide +kernel
theorem dX3_back_11 : decode cX3_back 11 = .ok (.ireturn, 1) := by decide +kernel
theorem dX3_back_12 : decode cX3_back 12 = .ok (.iload_n 2, 1) := by decide +kernel
theorem dX3_back_13 : decode cX3_back 13 = .ok (.ifCond .lt 15, 3) := by decide +kernel
theorem dX3_back_16 : decode cX3_back 16 = .ok (.iload_n 2, 1) := by decide +kernel
theorem dX3_back_17 : decode cX3_back 17 = .ok (.aload_n 0, 1) := by decide +kernel
theorem dX3_back_18 : decode cX3_back 18 = .ok (.getfield 26, 3) := by decide +kernel
theorem dX3_back_21 : decode cX3_back 21 = .ok (.iload_n 1, 1) := by decide +kernel
theorem dX3_back_22 : decode cX3_back 22 = .ok (.invokevirtual 84, 3) := by decide +kernel
theorem dX3_back_25 : decode cX3_back 25 = .ok (.if_icmp .le 6, 3) := by decide +kernel
theorem dX3_back_28 : decode cX3_back 28 = .ok (.bipush (-102), 2) := by decide +kernel
theorem dX3_back_30 : decode cX3_back 30 = .ok (.ireturn, 1) := by decide +kernel
theorem dX3_back_31 : decode cX3_back 31 = .ok (.aload_n 0, 1) := by decide +kernel
theorem dX3_back_32 : decode cX3_back 32 = .ok (.getfield 26, 3) := by decide +kernel
theorem dX3_back_35 : decode cX3_back 35 = .ok (.iload_n 1, 1) := by decide +kernel
theorem dX3_back_36 : decode cX3_back 36 = .ok (.invokevirtual 77, 3) := by decide +kernel
theorem dX3_back_39 : decode cX3_back 39 = .ok (.iconst 1, 1) := by decide +kernel
theorem dX3_back_40 : decode cX3_back 40 = .ok (.if_icmp .eq 6, 3) := by decide +kernel
theorem dX3_back_43 : decode cX3_back 43 = .ok (.bipush (-103), 2) := by decide +kernel
theorem dX3_back_45 : decode cX3_back 45 = .ok (.ireturn, 1) := by decide +kernel
theorem dX3_back_46 : decode cX3_back 46 = .ok (.aload_n 0, 1) := by decide +kernel
theorem dX3_back_47 : decode cX3_back 47 = .ok (.iload_n 1, 1) := by decide +kernel
theorem dX3_back_48 : decode cX3_back 48 = .ok (.iload_n 2, 1) := by decide +kernel
theorem dX3_back_49 : decode cX3_back 49 = .ok (.invokevirtual 97, 3) := by decide +kernel
theorem dX3_back_52 : decode cX3_back 52 = .ok (.ireturn, 1) := by decide +kernel
set_option maxRecDepth 20000 in
theorem ggX3_prepare_X3_refusalFor : GoodIn wsX3_prepare wsX3_refusalFor := goodIn_r _ [7, 8, 1, 9, 10, 11, 12, 13, 14, 15, 16, 17, 18, 19, 120, 121, 122, 123, 124, 125, 126, 127, 128, 129, 130, 131, 132, 133, 134, 135, 136, 137, 138] (by decide +kernel) (by decide +kernel)
set_option maxRecDepth 20000 in
theorem gX3_prepare_X3_refusalFor : GoodIn wsX3_prepare (wsV RX3 69 RX3 yX3_refusalFor wsX3_refusalFor) := goodIn_app (goodIn_of _ (by decide +kernel)) ggX3_prepare_X3_refusalFor
set_option maxRecDepth 20000 in
theorem ggX3_prepare_X2_stateOf : GoodIn wsX3_prepare wsX2_stateOf := goodIn_r _ [23, 24, 14, 15, 16, 12, 17, 18, 19, 133, 134, 135, 136, 137, 138] (by decide +kernel) (by decide +kernel)
set_option maxRecDepth 20000 in
theorem gX3_prepare_X2_stateOf : GoodIn wsX3_prepare (wsV RX3 77 RX2 yX2_stateOf wsX2_stateOf) := goodIn_app (goodIn_of _ (by decide +kernel)) ggX3_prepare_X2_stateOf
set_option maxRecDepth 20000 in
theorem ggX3_prepare_X3_appendOfWork : GoodIn wsX3_prepare wsX3_appendOfWork := goodIn_r _ [28, 2, 1, 29, 30, 31, 12, 32, 33, 14, 15, 16, 17, 18, 19, 34, 35, 36, 37, 38, 39, 40, 41, 42, 43, 44, 45, 46, 47, 48, 49, 50, 51, 52, 53, 54, 55, 56, 57, 58, 59, 60, 61, 62, 63, 6, 64, 65, 66, 67, 68, 69, 70, 71, 72, 73, 74, 75, 76, 24, 77, 78, 79, 80, 81, 82, 83, 84, 85, 86, 87, 88, 89, 90, 91, 92, 93, 94, 95, 96, 97, 98, 99, 100, 101, 102, 103, 104, 105, 106, 107, 108, 109, 110, 120, 121, 122, 123, 124, 125, 126, 127, 128, 129, 130, 131, 132, 133, 134, 135, 136, 137, 138, 139, 140, 141, 142] (by decide +kernel) (by decide +kernel)
set_option maxRecDepth 20000 in
theorem gX3_prepare_X3_appendOfWork : GoodIn wsX3_prepare (wsV RX3 101 RX3 yX3_appendOfWork wsX3_appendOfWork) := goodIn_app (goodIn_of _ (by decide +kernel)) ggX3_prepare_X3_appendOfWork
set_option maxRecDepth 20000 in
theorem ggX3_prepare_X0_forceUpTo : GoodIn wsX3_prepare wsX0_forceUpTo := goodIn_r _ [114, 115, 39, 116, 54, 55, 56, 117, 118, 119, 139, 140, 141, 142] (by decide +kernel) (by decide +kernel)
set_option maxRecDepth 20000 in
theorem gX3_prepare_X0_forceUpTo : GoodIn wsX3_prepare (wsV RX3 104 RX0 yX0_forceUpTo wsX0_forceUpTo) := goodIn_app (goodIn_of _ (by decide +kernel)) ggX3_prepare_X0_forceUpTo
theorem dX3_prepare_0 : decode cX3_prepare 0 = .ok (.aload_n 0, 1) := by decide +kernel
theorem dX3_prepare_1 : decode cX3_prepare 1 = .ok (.iload_n 1, 1) := by decide +kernel
theorem dX3_prepare_2 : decode cX3_prepare 2 = .ok (.invokevirtual 69, 3) := by decide +kernel
theorem dX3_prepare_5 : decode cX3_prepare 5 = .ok (.istore_n 2, 1) := by decide +kernel
theorem dX3_prepare_6 : decode cX3_prepare 6 = .ok (.iload_n 2, 1) := by decide +kernel
theorem dX3_prepare_7 : decode cX3_prepare 7 = .ok (.ifCond .eq 5, 3) := by decide +kernel
theorem dX3_prepare_10 : decode cX3_prepare 10 = .ok (.iload_n 2, 1) := by decide +kernel
theorem dX3_prepare_11 : decode cX3_prepare 11 = .ok (.ireturn, 1) := by decide +kernel
theorem dX3_prepare_12 : decode cX3_prepare 12 = .ok (.aload_n 0, 1) := by decide +kernel
theorem dX3_prepare_13 : decode cX3_prepare 13 = .ok (.getfield 26, 3) := by decide +kernel
theorem dX3_prepare_16 : decode cX3_prepare 16 = .ok (.iload_n 1, 1) := by decide +kernel
theorem dX3_prepare_17 : decode cX3_prepare 17 = .ok (.invokevirtual 77, 3) := by decide +kernel
theorem dX3_prepare_20 : decode cX3_prepare 20 = .ok (.iconst 1, 1) := by decide +kernel
theorem dX3_prepare_21 : decode cX3_prepare 21 = .ok (.if_icmp .eq 6, 3) := by decide +kernel
theorem dX3_prepare_24 : decode cX3_prepare 24 = .ok (.bipush (-103), 2) := by decide +kernel
theorem dX3_prepare_26 : decode cX3_prepare 26 = .ok (.ireturn, 1) := by decide +kernel
theorem dX3_prepare_27 : decode cX3_prepare 27 = .ok (.aload_n 0, 1) := by decide +kernel
theorem dX3_prepare_28 : decode cX3_prepare 28 = .ok (.bipush 6, 2) := by decide +kernel
theorem dX3_prepare_30 : decode cX3_prepare 30 = .ok (.iload_n 1, 1) := by decide +kernel
theorem dX3_prepare_31 : decode cX3_prepare 31 = .ok (.invokevirtual 101, 3) := by decide +kernel
theorem dX3_prepare_34 : decode cX3_prepare 34 = .ok (.istore_n 3, 1) := by decide +kernel
theorem dX3_prepare_35 : decode cX3_prepare 35 = .ok (.aload_n 0, 1) := by decide +kernel
theorem dX3_prepare_36 : decode cX3_prepare 36 = .ok (.getfield 10, 3) := by decide +kernel
theorem dX3_prepare_39 : decode cX3_prepare 39 = .ok (.iload_n 3, 1) := by decide +kernel
theorem dX3_prepare_40 : decode cX3_prepare 40 = .ok (.invokevirtual 104, 3) := by decide +kernel
theorem dX3_prepare_43 : decode cX3_prepare 43 = .ok (.iload_n 3, 1) := by decide +kernel
theorem dX3_prepare_44 : decode cX3_prepare 44 = .ok (.ireturn, 1) := by decide +kernel
set_option maxRecDepth 20000 in
theorem ggX3_commit_X3_refusalFor : GoodIn wsX3_commit wsX3_refusalFor := goodIn_r _ [6, 7, 8, 9, 10, 11, 12, 13, 14, 15, 16, 17, 18, 19, 116, 117, 118, 119, 120, 121, 122, 123, 124, 125, 126, 127, 128, 129, 130, 131, 132, 133, 134] (by decide +kernel) (by decide +kernel)
set_option maxRecDepth 20000 in
theorem gX3_commit_X3_refusalFor : GoodIn wsX3_commit (wsV RX3 69 RX3 yX3_refusalFor wsX3_refusalFor) := goodIn_app (goodIn_of _ (by decide +kernel)) ggX3_commit_X3_refusalFor
set_option maxRecDepth 20000 in
theorem ggX3_commit_X3_appendOfWork : GoodIn wsX3_commit wsX3_appendOfWork := goodIn_r _ [23, 1, 8, 24, 25, 26, 12, 27, 28, 14, 15, 16, 17, 18, 19, 29, 30, 31, 32, 33, 34, 35, 36, 37, 38, 39, 40, 41, 42, 43, 44, 45, 46, 47, 48, 49, 50, 51, 52, 53, 54, 55, 56, 57, 58, 5, 59, 60, 61, 62, 63, 64, 65, 66, 67, 68, 69, 70, 71, 72, 73, 74, 75, 76, 77, 78, 79, 80, 81, 82, 83, 84, 85, 86, 87, 88, 89, 90, 91, 92, 93, 94, 95, 96, 97, 98, 99, 100, 101, 102, 103, 104, 105, 106, 116, 117, 118, 119, 120, 121, 122, 123, 124, 125, 126, 127, 128, 129, 130, 131, 132, 133, 134, 135, 136, 137, 138] (by decide +kernel) (by decide +kernel)
set_option maxRecDepth 20000 in
theorem gX3_commit_X3_appendOfWork : GoodIn wsX3_commit (wsV RX3 101 RX3 yX3_appendOfWork wsX3_appendOfWork) := goodIn_app (goodIn_of _ (by decide +kernel)) ggX3_commit_X3_appendOfWork
set_option maxRecDepth 20000 in
theorem ggX3_commit_X0_forceUpTo : GoodIn wsX3_commit wsX0_forceUpTo := goodIn_r _ [110, 111, 34, 112, 49, 50, 51, 113, 114, 115, 135, 136, 137, 138] (by decide +kernel) (by decide +kernel)
set_option maxRecDepth 20000 in
theorem gX3_commit_X0_forceUpTo : GoodIn wsX3_commit (wsV RX3 104 RX0 yX0_forceUpTo wsX0_forceUpTo) := goodIn_app (goodIn_of _ (by decide +kernel)) ggX3_commit_X0_forceUpTo
theorem dX3_commit_0 : decode cX3_commit 0 = .ok (.aload_n 0, 1) := by decide +kernel
theorem dX3_commit_1 : decode cX3_commit 1 = .ok (.iload_n 1, 1) := by decide +kernel
theorem dX3_commit_2 : decode cX3_commit 2 = .ok (.invokevirtual 69, 3) := by decide +kernel
theorem dX3_commit_5 : decode cX3_commit 5 = .ok (.istore_n 2, 1) := by decide +kernel
theorem dX3_commit_6 : decode cX3_commit 6 = .ok (.iload_n 2, 1) := by decide +kernel
theorem dX3_commit_7 : decode cX3_commit 7 = .ok (.ifCond .eq 5, 3) := by decide +kernel
theorem dX3_commit_10 : decode cX3_commit 10 = .ok (.iload_n 2, 1) := by decide +kernel
theorem dX3_commit_11 : decode cX3_commit 11 = .ok (.ireturn, 1) := by decide +kernel
theorem dX3_commit_12 : decode cX3_commit 12 = .ok (.aload_n 0, 1) := by decide +kernel
theorem dX3_commit_13 : decode cX3_commit 13 = .ok (.iconst 3, 1) := by decide +kernel
theorem dX3_commit_14 : decode cX3_commit 14 = .ok (.iload_n 1, 1) := by decide +kernel
theorem dX3_commit_15 : decode cX3_commit 15 = .ok (.invokevirtual 101, 3) := by decide +kernel
theorem dX3_commit_18 : decode cX3_commit 18 = .ok (.istore_n 3, 1) := by decide +kernel
theorem dX3_commit_19 : decode cX3_commit 19 = .ok (.aload_n 0, 1) := by decide +kernel
theorem dX3_commit_20 : decode cX3_commit 20 = .ok (.getfield 10, 3) := by decide +kernel
theorem dX3_commit_23 : decode cX3_commit 23 = .ok (.iload_n 3, 1) := by decide +kernel
theorem dX3_commit_24 : decode cX3_commit 24 = .ok (.invokevirtual 104, 3) := by decide +kernel
theorem dX3_commit_27 : decode cX3_commit 27 = .ok (.aload_n 0, 1) := by decide +kernel
theorem dX3_commit_28 : decode cX3_commit 28 = .ok (.iconst 5, 1) := by decide +kernel
theorem dX3_commit_29 : decode cX3_commit 29 = .ok (.iload_n 1, 1) := by decide +kernel
theorem dX3_commit_30 : decode cX3_commit 30 = .ok (.invokevirtual 101, 3) := by decide +kernel
theorem dX3_commit_33 : decode cX3_commit 33 = .ok (.pop, 1) := by decide +kernel
theorem dX3_commit_34 : decode cX3_commit 34 = .ok (.iload_n 3, 1) := by decide +kernel
theorem dX3_commit_35 : decode cX3_commit 35 = .ok (.ireturn, 1) := by decide +kernel
set_option maxRecDepth 20000 in
theorem ggX3_abort_X3_refusalFor : GoodIn wsX3_abort wsX3_refusalFor := goodIn_r _ [5, 6, 7, 8, 9, 10, 11, 12, 13, 14, 15, 16, 17, 18, 142, 143, 144, 145, 146, 147, 148, 149, 150, 151, 152, 153, 154, 155, 156, 157, 158, 159, 160] (by decide +kernel) (by decide +kernel)
set_option maxRecDepth 20000 in
theorem gX3_abort_X3_refusalFor : GoodIn wsX3_abort (wsV RX3 69 RX3 yX3_refusalFor wsX3_refusalFor) := goodIn_app (goodIn_of _ (by decide +kernel)) ggX3_abort_X3_refusalFor
set_option maxRecDepth 20000 in
theorem ggX3_abort_X3_appendOfWork : GoodIn wsX3_abort wsX3_appendOfWork := goodIn_r _ [22, 23, 7, 24, 25, 26, 11, 27, 28, 13, 14, 15, 16, 17, 18, 29, 30, 31, 32, 33, 34, 35, 36, 37, 38, 39, 40, 41, 42, 43, 44, 45, 46, 47, 48, 49, 50, 51, 52, 53, 54, 55, 56, 57, 58, 4, 59, 60, 61, 62, 63, 64, 65, 66, 67, 68, 69, 70, 71, 72, 73, 74, 75, 76, 77, 78, 79, 80, 81, 82, 83, 84, 85, 86, 87, 88, 89, 90, 91, 92, 93, 94, 95, 96, 97, 98, 99, 100, 101, 102, 103, 104, 105, 106, 142, 143, 144, 145, 146, 147, 148, 149, 150, 151, 152, 153, 154, 155, 156, 157, 158, 159, 160, 161, 162, 163, 164] (by decide +kernel) (by decide +kernel)
set_option maxRecDepth 20000 in
theorem gX3_abort_X3_appendOfWork : GoodIn wsX3_abort (wsV RX3 101 RX3 yX3_appendOfWork wsX3_appendOfWork) := goodIn_app (goodIn_of _ (by decide +kernel)) ggX3_abort_X3_appendOfWork
set_option maxRecDepth 20000 in
theorem ggX3_abort_X3_undoDownTo : GoodIn wsX3_abort wsX3_undoDownTo := goodIn_r _ [110, 23, 7, 111, 112, 113, 32, 114, 34, 115, 116, 117, 11, 118, 73, 13, 14, 15, 16, 17, 18, 119, 120, 121, 4, 122, 24, 25, 26, 27, 28, 60, 61, 62, 63, 35, 64, 65, 66, 67, 123, 124, 125, 126, 127, 29, 30, 31, 33, 36, 37, 38, 39, 40, 41, 42, 43, 44, 45, 46, 47, 48, 49, 50, 51, 52, 53, 54, 55, 56, 57, 58, 59, 68, 69, 70, 71, 72, 74, 75, 76, 77, 78, 79, 80, 81, 82, 83, 84, 85, 86, 87, 88, 89, 90, 91, 92, 93, 94, 95, 96, 97, 98, 99, 100, 101, 102, 103, 104, 105, 106, 128, 129, 130, 131, 132, 133, 134, 135, 136, 137, 138, 139, 140, 141, 142, 143, 144, 145, 146, 147, 148, 149, 150, 151, 152, 153, 154, 161, 162, 163, 164, 155, 156, 157, 158, 159, 160, 165, 166, 167, 168] (by decide +kernel) (by decide +kernel)
set_option maxRecDepth 20000 in
theorem gX3_abort_X3_undoDownTo : GoodIn wsX3_abort (wsV RX3 97 RX3 yX3_undoDownTo wsX3_undoDownTo) := goodIn_app (goodIn_of _ (by decide +kernel)) ggX3_abort_X3_undoDownTo
theorem dX3_abort_0 : decode cX3_abort 0 = .ok (.aload_n 0, 1) := by decide +kernel
theorem dX3_abort_1 : decode cX3_abort 1 = .ok (.iload_n 1, 1) := by decide +kernel
theorem dX3_abort_2 : decode cX3_abort 2 = .ok (.invokevirtual 69, 3) := by decide +kernel
theorem dX3_abort_5 : decode cX3_abort 5 = .ok (.istore_n 2, 1) := by decide +kernel
theorem dX3_abort_6 : decode cX3_abort 6 = .ok (.iload_n 2, 1) := by decide +kernel
theorem dX3_abort_7 : decode cX3_abort 7 = .ok (.ifCond .eq 5, 3) := by decide +kernel
theorem dX3_abort_10 : decode cX3_abort 10 = .ok (.iload_n 2, 1) := by decide +kernel
theorem dX3_abort_11 : decode cX3_abort 11 = .ok (.ireturn, 1) := by decide +kernel
theorem dX3_abort_12 : decode cX3_abort 12 = .ok (.aload_n 0, 1) := by decide +kernel
theorem dX3_abort_13 : decode cX3_abort 13 = .ok (.iconst 4, 1) := by decide +kernel
theorem dX3_abort_14 : decode cX3_abort 14 = .ok (.iload_n 1, 1) := by decide +kernel
theorem dX3_abort_15 : decode cX3_abort 15 = .ok (.invokevirtual 101, 3) := by decide +kernel
theorem dX3_abort_18 : decode cX3_abort 18 = .ok (.pop, 1) := by decide +kernel
theorem dX3_abort_19 : decode cX3_abort 19 = .ok (.aload_n 0, 1) := by decide +kernel
theorem dX3_abort_20 : decode cX3_abort 20 = .ok (.iload_n 1, 1) := by decide +kernel
theorem dX3_abort_21 : decode cX3_abort 21 = .ok (.iconst 0, 1) := by decide +kernel
theorem dX3_abort_22 : decode cX3_abort 22 = .ok (.invokevirtual 97, 3) := by decide +kernel
theorem dX3_abort_25 : decode cX3_abort 25 = .ok (.istore_n 3, 1) := by decide +kernel
theorem dX3_abort_26 : decode cX3_abort 26 = .ok (.aload_n 0, 1) := by decide +kernel
theorem dX3_abort_27 : decode cX3_abort 27 = .ok (.iconst 5, 1) := by decide +kernel
theorem dX3_abort_28 : decode cX3_abort 28 = .ok (.iload_n 1, 1) := by decide +kernel
theorem dX3_abort_29 : decode cX3_abort 29 = .ok (.invokevirtual 101, 3) := by decide +kernel
theorem dX3_abort_32 : decode cX3_abort 32 = .ok (.pop, 1) := by decide +kernel
theorem dX3_abort_33 : decode cX3_abort 33 = .ok (.iload_n 3, 1) := by decide +kernel
theorem dX3_abort_34 : decode cX3_abort 34 = .ok (.ireturn, 1) := by decide +kernel
set_option maxRecDepth 20000 in
theorem ggX3_write_X1_hasPage : GoodIn wsX3_write wsX1_hasPage := goodIn_r _ [8] (by decide +kernel) (by decide +kernel)
set_option maxRecDepth 20000 in
theorem gX3_write_X1_hasPage : GoodIn wsX3_write (va_wsS RX3 107 yX1_hasPage wsX1_hasPage) := goodIn_app (goodIn_of _ (by decide +kernel)) ggX3_write_X1_hasPage
set_option maxRecDepth 20000 in
theorem ggX3_write_X2_baseOf : GoodIn wsX3_write wsX2_baseOf := goodIn_r _ [13, 14, 15, 6, 7, 8, 64, 65, 66, 67, 68, 69] (by decide +kernel) (by decide +kernel)
set_option maxRecDepth 20000 in
theorem gX3_write_X2_baseOf : GoodIn wsX3_write (wsV RX3 111 RX2 yX2_baseOf wsX2_baseOf) := goodIn_app (goodIn_of _ (by decide +kernel)) ggX3_write_X2_baseOf
set_option maxRecDepth 20000 in
theorem ggX3_write_X1_markOf : GoodIn wsX3_write wsX1_markOf := goodIn_r _ [19, 20, 21, 6, 7, 8, 70, 71, 72, 73] (by decide +kernel) (by decide +kernel)
set_option maxRecDepth 20000 in
theorem gX3_write_X1_markOf : GoodIn wsX3_write (wsV RX3 114 RX1 yX1_markOf wsX1_markOf) := goodIn_app (goodIn_of _ (by decide +kernel)) ggX3_write_X1_markOf
set_option maxRecDepth 20000 in
theorem ggX3_write_X0_forceUpTo : GoodIn wsX3_write wsX0_forceUpTo := goodIn_r _ [26, 27, 28, 29, 30, 31, 32, 33, 34, 35, 74, 75, 76, 77] (by decide +kernel) (by decide +kernel)
set_option maxRecDepth 20000 in
theorem gX3_write_X0_forceUpTo : GoodIn wsX3_write (wsV RX3 104 RX0 yX0_forceUpTo wsX0_forceUpTo) := goodIn_app (goodIn_of _ (by decide +kernel)) ggX3_write_X0_forceUpTo
set_option maxRecDepth 20000 in
theorem ggX3_write_X1_copyToMedium : GoodIn wsX3_write wsX1_copyToMedium := goodIn_r _ [39, 40, 41, 42, 43, 44, 45, 46, 20, 21, 6, 7, 8, 70, 71, 72, 73] (by decide +kernel) (by decide +kernel)
set_option maxRecDepth 20000 in
theorem gX3_write_X1_copyToMedium : GoodIn wsX3_write (wsV RX3 117 RX1 yX1_copyToMedium wsX1_copyToMedium) := goodIn_app (goodIn_of _ (by decide +kernel)) ggX3_write_X1_copyToMedium
set_option maxRecDepth 20000 in
theorem ggX3_write_X2_makeClean : GoodIn wsX3_write wsX2_makeClean := goodIn_r _ [50, 14, 15, 6, 7, 8, 64, 65, 66, 67, 68, 69] (by decide +kernel) (by decide +kernel)
set_option maxRecDepth 20000 in
theorem gX3_write_X2_makeClean : GoodIn wsX3_write (wsV RX3 120 RX2 yX2_makeClean wsX2_makeClean) := goodIn_app (goodIn_of _ (by decide +kernel)) ggX3_write_X2_makeClean
theorem dX3_write_0 : decode cX3_write 0 = .ok (.aload_n 0, 1) := by decide +kernel
theorem dX3_write_1 : decode cX3_write 1 = .ok (.getfield 43, 3) := by decide +kernel
theorem dX3_write_4 : decode cX3_write 4 = .ok (.ifCond .eq 6, 3) := by decide +kernel
theorem dX3_write_7 : decode cX3_write 7 = .ok (.bipush (-105), 2) := by decide +kernel
theorem dX3_write_9 : decode cX3_write 9 = .ok (.ireturn, 1) := by decide +kernel
theorem dX3_write_10 : decode cX3_write 10 = .ok (.iload_n 1, 1) := by decide +kernel
theorem dX3_write_11 : decode cX3_write 11 = .ok (.invokestatic 107, 3) := by decide +kernel
theorem dX3_write_14 : decode cX3_write 14 = .ok (.ifCond .ne 6, 3) := by decide +kernel
theorem dX3_write_17 : decode cX3_write 17 = .ok (.bipush (-102), 2) := by decide +kernel
theorem dX3_write_19 : decode cX3_write 19 = .ok (.ireturn, 1) := by decide +kernel
theorem dX3_write_20 : decode cX3_write 20 = .ok (.aload_n 0, 1) := by decide +kernel
theorem dX3_write_21 : decode cX3_write 21 = .ok (.getfield 26, 3) := by decide +kernel
theorem dX3_write_24 : decode cX3_write 24 = .ok (.iload_n 1, 1) := by decide +kernel
theorem dX3_write_25 : decode cX3_write 25 = .ok (.invokevirtual 111, 3) := by decide +kernel
theorem dX3_write_28 : decode cX3_write 28 = .ok (.ifCond .ne 5, 3) := by decide +kernel
theorem dX3_write_31 : decode cX3_write 31 = .ok (.iconst 0, 1) := by decide +kernel
theorem dX3_write_32 : decode cX3_write 32 = .ok (.ireturn, 1) := by decide +kernel
theorem dX3_write_33 : decode cX3_write 33 = .ok (.aload_n 0, 1) := by decide +kernel
theorem dX3_write_34 : decode cX3_write 34 = .ok (.getfield 10, 3) := by decide +kernel
theorem dX3_write_37 : decode cX3_write 37 = .ok (.aload_n 0, 1) := by decide +kernel
theorem dX3_write_38 : decode cX3_write 38 = .ok (.getfield 19, 3) := by decide +kernel
theorem dX3_write_41 : decode cX3_write 41 = .ok (.iload_n 1, 1) := by decide +kernel
theorem dX3_write_42 : decode cX3_write 42 = .ok (.invokevirtual 114, 3) := by decide +kernel
theorem dX3_write_45 : decode cX3_write 45 = .ok (.invokevirtual 104, 3) := by decide +kernel
theorem dX3_write_48 : decode cX3_write 48 = .ok (.aload_n 0, 1) := by decide +kernel
theorem dX3_write_49 : decode cX3_write 49 = .ok (.getfield 19, 3) := by decide +kernel
theorem dX3_write_52 : decode cX3_write 52 = .ok (.iload_n 1, 1) := by decide +kernel
theorem dX3_write_53 : decode cX3_write 53 = .ok (.invokevirtual 117, 3) := by decide +kernel
theorem dX3_write_56 : decode cX3_write 56 = .ok (.aload_n 0, 1) := by decide +kernel
theorem dX3_write_57 : decode cX3_write 57 = .ok (.getfield 26, 3) := by decide +kernel
theorem dX3_write_60 : decode cX3_write 60 = .ok (.iload_n 1, 1) := by decide +kernel
theorem dX3_write_61 : decode cX3_write 61 = .ok (.invokevirtual 120, 3) := by decide +kernel
theorem dX3_write_64 : decode cX3_write 64 = .ok (.iconst 1, 1) := by decide +kernel
theorem dX3_write_65 : decode cX3_write 65 = .ok (.ireturn, 1) := by decide +kernel
set_option maxRecDepth 20000 in
theorem ggX3_force_X0_forceUpTo : GoodIn wsX3_force wsX0_forceUpTo := goodIn_r _ [7, 8, 9, 10, 11, 12, 13, 14, 15, 16, 34, 35, 36, 37] (by decide +kernel) (by decide +kernel)
set_option maxRecDepth 20000 in
theorem gX3_force_X0_forceUpTo : GoodIn wsX3_force (wsV RX3 104 RX0 yX0_forceUpTo wsX0_forceUpTo) := goodIn_app (goodIn_of _ (by decide +kernel)) ggX3_force_X0_forceUpTo
set_option maxRecDepth 20000 in
theorem ggX3_force_X0_forcedHeld : GoodIn wsX3_force wsX0_forcedHeld := goodIn_r _ [20, 8, 34, 35, 36, 37] (by decide +kernel) (by decide +kernel)
set_option maxRecDepth 20000 in
theorem gX3_force_X0_forcedHeld : GoodIn wsX3_force (wsV RX3 123 RX0 yX0_forcedHeld wsX0_forcedHeld) := goodIn_app (goodIn_of _ (by decide +kernel)) ggX3_force_X0_forcedHeld
theorem dX3_force_0 : decode cX3_force 0 = .ok (.aload_n 0, 1) := by decide +kernel
theorem dX3_force_1 : decode cX3_force 1 = .ok (.getfield 43, 3) := by decide +kernel
theorem dX3_force_4 : decode cX3_force 4 = .ok (.ifCond .eq 6, 3) := by decide +kernel
theorem dX3_force_7 : decode cX3_force 7 = .ok (.bipush (-105), 2) := by decide +kernel
theorem dX3_force_9 : decode cX3_force 9 = .ok (.ireturn, 1) := by decide +kernel
theorem dX3_force_10 : decode cX3_force 10 = .ok (.iload_n 1, 1) := by decide +kernel
theorem dX3_force_11 : decode cX3_force 11 = .ok (.ifCond .ge 6, 3) := by decide +kernel
theorem dX3_force_14 : decode cX3_force 14 = .ok (.bipush (-102), 2) := by decide +kernel
theorem dX3_force_16 : decode cX3_force 16 = .ok (.ireturn, 1) := by decide +kernel
theorem dX3_force_17 : decode cX3_force 17 = .ok (.aload_n 0, 1) := by decide +kernel
theorem dX3_force_18 : decode cX3_force 18 = .ok (.getfield 10, 3) := by decide +kernel
theorem dX3_force_21 : decode cX3_force 21 = .ok (.iload_n 1, 1) := by decide +kernel
theorem dX3_force_22 : decode cX3_force 22 = .ok (.invokevirtual 104, 3) := by decide +kernel
theorem dX3_force_25 : decode cX3_force 25 = .ok (.aload_n 0, 1) := by decide +kernel
theorem dX3_force_26 : decode cX3_force 26 = .ok (.getfield 10, 3) := by decide +kernel
theorem dX3_force_29 : decode cX3_force 29 = .ok (.invokevirtual 123, 3) := by decide +kernel
theorem dX3_force_32 : decode cX3_force 32 = .ok (.ireturn, 1) := by decide +kernel
set_option maxRecDepth 20000 in
theorem ggX3_point_X0_append : GoodIn wsX3_point wsX0_append := goodIn_r _ [11, 12, 13, 14, 15, 16, 17, 18, 19, 20, 21, 22, 23, 24, 25, 26, 27, 28, 29, 30, 31, 32, 33, 118, 119, 120, 121] (by decide +kernel) (by decide +kernel)
set_option maxRecDepth 20000 in
theorem gX3_point_X0_append : GoodIn wsX3_point (wsV RX3 87 RX0 yX0_append wsX0_append) := goodIn_app (goodIn_of _ (by decide +kernel)) ggX3_point_X0_append
set_option maxRecDepth 20000 in
theorem ggX3_point_X2_becomeLike : GoodIn wsX3_point wsX2_becomeLike := goodIn_r _ [38, 39, 40, 41, 37, 42, 43, 44, 45, 46, 17, 47, 48, 49, 50, 51, 52, 53, 54, 55, 56, 57, 58, 59, 60, 61, 62, 63, 64, 65, 66, 67, 68, 69, 70, 71, 72, 73, 74, 75, 76, 77, 78, 79, 80, 81, 82, 83, 84, 85, 86, 87, 88, 89, 90, 91, 92, 93, 94, 95, 122, 123, 124, 125, 126, 127] (by decide +kernel) (by decide +kernel)
set_option maxRecDepth 20000 in
theorem gX3_point_X2_becomeLike : GoodIn wsX3_point (wsV RX3 126 RX2 yX2_becomeLike wsX2_becomeLike) := goodIn_app (goodIn_of _ (by decide +kernel)) ggX3_point_X2_becomeLike
set_option maxRecDepth 20000 in
theorem ggX3_point_X0_forceUpTo : GoodIn wsX3_point wsX0_forceUpTo := goodIn_r _ [99, 100, 12, 101, 27, 28, 29, 102, 103, 104, 118, 119, 120, 121] (by decide +kernel) (by decide +kernel)
set_option maxRecDepth 20000 in
theorem gX3_point_X0_forceUpTo : GoodIn wsX3_point (wsV RX3 104 RX0 yX0_forceUpTo wsX0_forceUpTo) := goodIn_app (goodIn_of _ (by decide +kernel)) ggX3_point_X0_forceUpTo
theorem dX3_point_0 : decode cX3_point 0 = .ok (.aload_n 0, 1) := by decide +kernel
theorem dX3_point_1 : decode cX3_point 1 = .ok (.getfield 43, 3) := by decide +kernel
theorem dX3_point_4 : decode cX3_point 4 = .ok (.ifCond .eq 6, 3) := by decide +kernel
theorem dX3_point_7 : decode cX3_point 7 = .ok (.bipush (-105), 2) := by decide +kernel
theorem dX3_point_9 : decode cX3_point 9 = .ok (.ireturn, 1) := by decide +kernel
theorem dX3_point_10 : decode cX3_point 10 = .ok (.aload_n 0, 1) := by decide +kernel
theorem dX3_point_11 : decode cX3_point 11 = .ok (.getfield 37, 3) := by decide +kernel
theorem dX3_point_14 : decode cX3_point 14 = .ok (.bipush 100, 2) := by decide +kernel
theorem dX3_point_16 : decode cX3_point 16 = .ok (.if_icmp .lt 6, 3) := by decide +kernel
theorem dX3_point_19 : decode cX3_point 19 = .ok (.bipush (-104), 2) := by decide +kernel
theorem dX3_point_21 : decode cX3_point 21 = .ok (.ireturn, 1) := by decide +kernel
theorem dX3_point_22 : decode cX3_point 22 = .ok (.aload_n 0, 1) := by decide +kernel
theorem dX3_point_23 : decode cX3_point 23 = .ok (.dup, 1) := by decide +kernel
theorem dX3_point_24 : decode cX3_point 24 = .ok (.getfield 37, 3) := by decide +kernel
theorem dX3_point_27 : decode cX3_point 27 = .ok (.iconst 1, 1) := by decide +kernel
theorem dX3_point_28 : decode cX3_point 28 = .ok (.iadd, 1) := by decide +kernel
theorem dX3_point_29 : decode cX3_point 29 = .ok (.putfield 37, 3) := by decide +kernel
theorem dX3_point_32 : decode cX3_point 32 = .ok (.aload_n 0, 1) := by decide +kernel
theorem dX3_point_33 : decode cX3_point 33 = .ok (.aload_n 0, 1) := by decide +kernel
theorem dX3_point_34 : decode cX3_point 34 = .ok (.getfield 10, 3) := by decide +kernel
theorem dX3_point_37 : decode cX3_point 37 = .ok (.bipush 7, 2) := by decide +kernel
theorem dX3_point_39 : decode cX3_point 39 = .ok (.iconst 0, 1) := by decide +kernel
theorem dX3_point_40 : decode cX3_point 40 = .ok (.iconst 0, 1) := by decide +kernel
theorem dX3_point_41 : decode cX3_point 41 = .ok (.iconst 0, 1) := by decide +kernel
theorem dX3_point_42 : decode cX3_point 42 = .ok (.iconst 0, 1) := by decide +kernel
theorem dX3_point_43 : decode cX3_point 43 = .ok (.iconst 0, 1) := by decide +kernel
theorem dX3_point_44 : decode cX3_point 44 = .ok (.iconst 0, 1) := by decide +kernel
theorem dX3_point_45 : decode cX3_point 45 = .ok (.invokevirtual 87, 3) := by decide +kernel
theorem dX3_point_48 : decode cX3_point 48 = .ok (.putfield 33, 3) := by decide +kernel
theorem dX3_point_51 : decode cX3_point 51 = .ok (.aload_n 0, 1) := by decide +kernel
theorem dX3_point_52 : decode cX3_point 52 = .ok (.getfield 30, 3) := by decide +kernel
theorem dX3_point_55 : decode cX3_point 55 = .ok (.aload_n 0, 1) := by decide +kernel
theorem dX3_point_56 : decode cX3_point 56 = .ok (.getfield 26, 3) := by decide +kernel
theorem dX3_point_59 : decode cX3_point 59 = .ok (.invokevirtual 126, 3) := by decide +kernel
theorem dX3_point_62 : decode cX3_point 62 = .ok (.aload_n 0, 1) := by decide +kernel
theorem dX3_point_63 : decode cX3_point 63 = .ok (.getfield 10, 3) := by decide +kernel
theorem dX3_point_66 : decode cX3_point 66 = .ok (.aload_n 0, 1) := by decide +kernel
theorem dX3_point_67 : decode cX3_point 67 = .ok (.getfield 10, 3) := by decide +kernel
theorem dX3_point_70 : decode cX3_point 70 = .ok (.bipush 8, 2) := by decide +kernel
theorem dX3_point_72 : decode cX3_point 72 = .ok (.iconst 0, 1) := by decide +kernel
theorem dX3_point_73 : decode cX3_point 73 = .ok (.iconst 0, 1) := by decide +kernel
theorem dX3_point_74 : decode cX3_point 74 = .ok (.iconst 0, 1) := by decide +kernel
theorem dX3_point_75 : decode cX3_point 75 = .ok (.iconst 0, 1) := by decide +kernel
theorem dX3_point_76 : decode cX3_point 76 = .ok (.iconst 0, 1) := by decide +kernel
theorem dX3_point_77 : decode cX3_point 77 = .ok (.iconst 0, 1) := by decide +kernel
theorem dX3_point_78 : decode cX3_point 78 = .ok (.invokevirtual 87, 3) := by decide +kernel
theorem dX3_point_81 : decode cX3_point 81 = .ok (.invokevirtual 104, 3) := by decide +kernel
theorem dX3_point_84 : decode cX3_point 84 = .ok (.aload_n 0, 1) := by decide +kernel
theorem dX3_point_85 : decode cX3_point 85 = .ok (.getfield 33, 3) := by decide +kernel
theorem dX3_point_88 : decode cX3_point 88 = .ok (.ireturn, 1) := by decide +kernel
set_option maxRecDepth 20000 in
theorem ggX3_loss_X0_loseBehind : GoodIn wsX3_loss wsX0_loseBehind := goodIn_r _ [15, 16, 17, 18, 19, 8, 20, 21, 22, 23, 24, 14, 25, 26, 27, 28, 29, 30, 92, 93, 94, 95] (by decide +kernel) (by decide +kernel)
set_option maxRecDepth 20000 in
theorem gX3_loss_X0_loseBehind : GoodIn wsX3_loss (wsV RX3 130 RX0 yX0_loseBehind wsX0_loseBehind) := goodIn_app (goodIn_of _ (by decide +kernel)) ggX3_loss_X0_loseBehind
set_option maxRecDepth 20000 in
theorem ggX3_loss_X1_readAllFromMedium : GoodIn wsX3_loss wsX1_readAllFromMedium := goodIn_r _ [35, 36, 37, 38, 39, 40, 41, 42, 43, 96, 97, 98, 99] (by decide +kernel) (by decide +kernel)
set_option maxRecDepth 20000 in
theorem gX3_loss_X1_readAllFromMedium : GoodIn wsX3_loss (wsV RX3 133 RX1 yX1_readAllFromMedium wsX1_readAllFromMedium) := goodIn_app (goodIn_of _ (by decide +kernel)) ggX3_loss_X1_readAllFromMedium
set_option maxRecDepth 20000 in
theorem ggX3_loss_X2_makeEmpty : GoodIn wsX3_loss wsX2_makeEmpty := goodIn_r _ [48, 49, 50, 51, 52, 53, 54, 100, 101, 102, 103, 104, 105] (by decide +kernel) (by decide +kernel)
set_option maxRecDepth 20000 in
theorem gX3_loss_X2_makeEmpty : GoodIn wsX3_loss (wsV RX3 136 RX2 yX2_makeEmpty wsX2_makeEmpty) := goodIn_app (goodIn_of _ (by decide +kernel)) ggX3_loss_X2_makeEmpty
set_option maxRecDepth 20000 in
theorem ggX3_loss_X3_passOverPartsWithoutSteps : GoodIn wsX3_loss wsX3_passOverPartsWithoutSteps := goodIn_r _ [59, 4, 10, 1, 3, 60, 61, 62, 14, 63, 17, 64, 65, 66, 47, 67, 50, 68, 69, 70, 71, 49, 72, 73, 74, 75, 76, 77, 78, 79, 80, 81, 82, 83, 84, 85, 86, 87, 88, 89, 90, 91, 92, 93, 94, 95, 100, 101, 102, 103, 104, 105] (by decide +kernel) (by decide +kernel)
set_option maxRecDepth 20000 in
theorem gX3_loss_X3_passOverPartsWithoutSteps : GoodIn wsX3_loss (wsV RX3 144 RX3 yX3_passOverPartsWithoutSteps wsX3_passOverPartsWithoutSteps) := goodIn_app (goodIn_of _ (by decide +kernel)) ggX3_loss_X3_passOverPartsWithoutSteps
set_option maxRecDepth 20000 in
theorem ggX3_loss_X0_recordsHeld : GoodIn wsX3_loss wsX0_recordsHeld := goodIn_r _ [63, 17, 92, 93, 94, 95] (by decide +kernel) (by decide +kernel)
set_option maxRecDepth 20000 in
theorem gX3_loss_X0_recordsHeld : GoodIn wsX3_loss (wsV RX3 147 RX0 yX0_recordsHeld wsX0_recordsHeld) := goodIn_app (goodIn_of _ (by decide +kernel)) ggX3_loss_X0_recordsHeld
theorem dX3_loss_0 : decode cX3_loss 0 = .ok (.iload_n 1, 1) := by decide +kernel
theorem dX3_loss_1 : decode cX3_loss 1 = .ok (.ifCond .ge 6, 3) := by decide +kernel
theorem dX3_loss_4 : decode cX3_loss 4 = .ok (.bipush (-102), 2) := by decide +kernel
theorem dX3_loss_6 : decode cX3_loss 6 = .ok (.ireturn, 1) := by decide +kernel
theorem dX3_loss_7 : decode cX3_loss 7 = .ok (.aload_n 0, 1) := by decide +kernel
theorem dX3_loss_8 : decode cX3_loss 8 = .ok (.getfield 10, 3) := by decide +kernel
theorem dX3_loss_11 : decode cX3_loss 11 = .ok (.iload_n 1, 1) := by decide +kernel
theorem dX3_loss_12 : decode cX3_loss 12 = .ok (.invokevirtual 130, 3) := by decide +kernel
theorem dX3_loss_15 : decode cX3_loss 15 = .ok (.aload_n 0, 1) := by decide +kernel
theorem dX3_loss_16 : decode cX3_loss 16 = .ok (.getfield 19, 3) := by decide +kernel
theorem dX3_loss_19 : decode cX3_loss 19 = .ok (.invokevirtual 133, 3) := by decide +kernel
theorem dX3_loss_22 : decode cX3_loss 22 = .ok (.aload_n 0, 1) := by decide +kernel
theorem dX3_loss_23 : decode cX3_loss 23 = .ok (.getfield 26, 3) := by decide +kernel
theorem dX3_loss_26 : decode cX3_loss 26 = .ok (.invokevirtual 136, 3) := by decide +kernel
theorem dX3_loss_29 : decode cX3_loss 29 = .ok (.aload_n 0, 1) := by decide +kernel
theorem dX3_loss_30 : decode cX3_loss 30 = .ok (.iconst 1, 1) := by decide +kernel
theorem dX3_loss_31 : decode cX3_loss 31 = .ok (.putfield 43, 3) := by decide +kernel
theorem dX3_loss_34 : decode cX3_loss 34 = .ok (.aload_n 0, 1) := by decide +kernel
theorem dX3_loss_35 : decode cX3_loss 35 = .ok (.aload_n 0, 1) := by decide +kernel
theorem dX3_loss_36 : decode cX3_loss 36 = .ok (.getfield 33, 3) := by decide +kernel
theorem dX3_loss_39 : decode cX3_loss 39 = .ok (.iconst 1, 1) := by decide +kernel
theorem dX3_loss_40 : decode cX3_loss 40 = .ok (.invokestatic 139, 3) := by decide +kernel
theorem dX3_loss_43 : decode cX3_loss 43 = .ok (.putfield 46, 3) := by decide +kernel
theorem dX3_loss_46 : decode cX3_loss 46 = .ok (.aload_n 0, 1) := by decide +kernel
theorem dX3_loss_47 : decode cX3_loss 47 = .ok (.invokevirtual 144, 3) := by decide +kernel
theorem dX3_loss_50 : decode cX3_loss 50 = .ok (.aload_n 0, 1) := by decide +kernel
theorem dX3_loss_51 : decode cX3_loss 51 = .ok (.getfield 10, 3) := by decide +kernel
theorem dX3_loss_54 : decode cX3_loss 54 = .ok (.invokevirtual 147, 3) := by decide +kernel
theorem dX3_loss_57 : decode cX3_loss 57 = .ok (.ireturn, 1) := by decide +kernel
set_option maxRecDepth 20000 in
theorem ggX3_restart_X3_makeStep : GoodIn wsX3_restart wsX3_makeStep := goodIn_r _ [6, 1, 7, 8, 9, 10, 11, 5, 12, 13, 14, 15, 16, 17, 18, 19, 20, 21, 22, 23, 24, 25, 26, 27, 28, 29, 30, 31, 32, 33, 34, 35, 36, 37, 38, 39, 40, 41, 42, 43, 44, 45, 46, 47, 48, 49, 50, 51, 52, 53, 54, 55, 56, 57, 58, 59, 60, 61, 62, 63, 64, 65, 66, 67, 68, 69, 70, 71, 72, 73, 74, 75, 76, 77, 78, 79, 80, 81, 82, 83, 84, 85, 86, 87, 88, 89, 90, 91, 92, 93, 94, 95, 96, 97, 98, 99, 100, 101, 102, 103, 104, 105, 106, 107, 108, 109, 110, 111, 112, 113, 114, 115, 116, 117, 118, 119, 120, 121, 122, 123, 124, 125, 126, 127, 128, 129, 130, 131, 132, 133, 134, 135, 136, 137, 138, 139, 140, 141, 142, 143, 144, 145, 146, 147, 148, 149, 150, 151, 152, 153, 154, 155, 156, 157, 158, 159, 160, 161, 162, 163, 164, 165, 166, 167, 168, 169, 170, 171, 172, 173, 174, 175, 176, 177, 178, 179, 180, 181, 182, 183, 184, 185, 186, 187, 188, 189, 190, 191, 192, 193, 194, 195, 196, 197, 198, 199, 200, 201, 202, 203, 204, 205, 206, 207, 208, 209, 210, 211, 212, 213, 214, 215, 216, 217, 218, 219, 220] (by decide +kernel) (by decide +kernel)
set_option maxRecDepth 20000 in
theorem gX3_restart_X3_makeStep : GoodIn wsX3_restart (wsV RX3 150 RX3 yX3_makeStep wsX3_makeStep) := goodIn_app (goodIn_of _ (by decide +kernel)) ggX3_restart_X3_makeStep
theorem dX3_restart_0 : decode cX3_restart 0 = .ok (.iload_n 1, 1) := by decide +kernel
theorem dX3_restart_1 : decode cX3_restart 1 = .ok (.ifCond .ge 6, 3) := by decide +kernel
theorem dX3_restart_4 : decode cX3_restart 4 = .ok (.bipush (-102), 2) := by decide +kernel
theorem dX3_restart_6 : decode cX3_restart 6 = .ok (.ireturn, 1) := by decide +kernel
theorem dX3_restart_7 : decode cX3_restart 7 = .ok (.iconst 0, 1) := by decide +kernel
theorem dX3_restart_8 : decode cX3_restart 8 = .ok (.istore_n 2, 1) := by decide +kernel
theorem dX3_restart_9 : decode cX3_restart 9 = .ok (.iload_n 2, 1) := by decide +kernel
theorem dX3_restart_10 : decode cX3_restart 10 = .ok (.iload_n 1, 1) := by decide +kernel
theorem dX3_restart_11 : decode cX3_restart 11 = .ok (.if_icmp .ge 20, 3) := by decide +kernel
theorem dX3_restart_14 : decode cX3_restart 14 = .ok (.aload_n 0, 1) := by decide +kernel
theorem dX3_restart_15 : decode cX3_restart 15 = .ok (.getfield 43, 3) := by decide +kernel
theorem dX3_restart_18 : decode cX3_restart 18 = .ok (.ifCond .eq 13, 3) := by decide +kernel
theorem dX3_restart_21 : decode cX3_restart 21 = .ok (.aload_n 0, 1) := by decide +kernel
theorem dX3_restart_22 : decode cX3_restart 22 = .ok (.invokevirtual 150, 3) := by decide +kernel
theorem dX3_restart_25 : decode cX3_restart 25 = .ok (.iinc 2 1, 3) := by decide +kernel
theorem dX3_restart_28 : decode cX3_restart 28 = .ok (.goto (-19), 3) := by decide +kernel
theorem dX3_restart_31 : decode cX3_restart 31 = .ok (.iload_n 2, 1) := by decide +kernel
theorem dX3_restart_32 : decode cX3_restart 32 = .ok (.ireturn, 1) := by decide +kernel
theorem dX3_part_0 : decode cX3_part 0 = .ok (.aload_n 0, 1) := by decide +kernel
theorem dX3_part_1 : decode cX3_part 1 = .ok (.getfield 43, 3) := by decide +kernel
theorem dX3_part_4 : decode cX3_part 4 = .ok (.ireturn, 1) := by decide +kernel
set_option maxRecDepth 20000 in
theorem ggX3_word_X1_valueOf : GoodIn wsX3_word wsX1_valueOf := goodIn_r _ [6, 7, 8, 9, 5, 10, 24, 25, 26, 27] (by decide +kernel) (by decide +kernel)
set_option maxRecDepth 20000 in
theorem gX3_word_X1_valueOf : GoodIn wsX3_word (wsV RX3 153 RX1 yX1_valueOf wsX1_valueOf) := goodIn_app (goodIn_of _ (by decide +kernel)) ggX3_word_X1_valueOf
theorem dX3_word_0 : decode cX3_word 0 = .ok (.aload_n 0, 1) := by decide +kernel
theorem dX3_word_1 : decode cX3_word 1 = .ok (.getfield 19, 3) := by decide +kernel
theorem dX3_word_4 : decode cX3_word 4 = .ok (.iload_n 1, 1) := by decide +kernel
theorem dX3_word_5 : decode cX3_word 5 = .ok (.iload_n 2, 1) := by decide +kernel
theorem dX3_word_6 : decode cX3_word 6 = .ok (.invokevirtual 153, 3) := by decide +kernel
theorem dX3_word_9 : decode cX3_word 9 = .ok (.ireturn, 1) := by decide +kernel
set_option maxRecDepth 20000 in
theorem ggX3_page_X1_hasPage : GoodIn wsX3_page wsX1_hasPage := goodIn_r _ [6] (by decide +kernel) (by decide +kernel)
set_option maxRecDepth 20000 in
theorem gX3_page_X1_hasPage : GoodIn wsX3_page (va_wsS RX3 107 yX1_hasPage wsX1_hasPage) := goodIn_app (goodIn_of _ (by decide +kernel)) ggX3_page_X1_hasPage
set_option maxRecDepth 20000 in
theorem ggX3_page_X1_markOf : GoodIn wsX3_page wsX1_markOf := goodIn_r _ [10, 11, 12, 4, 5, 6, 38, 39, 40, 41] (by decide +kernel) (by decide +kernel)
set_option maxRecDepth 20000 in
theorem gX3_page_X1_markOf : GoodIn wsX3_page (wsV RX3 114 RX1 yX1_markOf wsX1_markOf) := goodIn_app (goodIn_of _ (by decide +kernel)) ggX3_page_X1_markOf
set_option maxRecDepth 20000 in
theorem ggX3_page_X2_baseOf : GoodIn wsX3_page wsX2_baseOf := goodIn_r _ [17, 18, 19, 4, 5, 6, 42, 43, 44, 45, 46, 47] (by decide +kernel) (by decide +kernel)
set_option maxRecDepth 20000 in
theorem gX3_page_X2_baseOf : GoodIn wsX3_page (wsV RX3 111 RX2 yX2_baseOf wsX2_baseOf) := goodIn_app (goodIn_of _ (by decide +kernel)) ggX3_page_X2_baseOf
set_option maxRecDepth 20000 in
theorem ggX3_page_X1_mediumMarkOf : GoodIn wsX3_page wsX1_mediumMarkOf := goodIn_r _ [23, 24, 12, 4, 5, 6, 38, 39, 40, 41] (by decide +kernel) (by decide +kernel)
set_option maxRecDepth 20000 in
theorem gX3_page_X1_mediumMarkOf : GoodIn wsX3_page (wsV RX3 156 RX1 yX1_mediumMarkOf wsX1_mediumMarkOf) := goodIn_app (goodIn_of _ (by decide +kernel)) ggX3_page_X1_mediumMarkOf
theorem dX3_page_0 : decode cX3_page 0 = .ok (.iload_n 1, 1) := by decide +kernel
theorem dX3_page_1 : decode cX3_page 1 = .ok (.invokestatic 107, 3) := by decide +kernel
theorem dX3_page_4 : decode cX3_page 4 = .ok (.ifCond .ne 6, 3) := by decide +kernel
theorem dX3_page_7 : decode cX3_page 7 = .ok (.bipush (-102), 2) := by decide +kernel
theorem dX3_page_9 : decode cX3_page 9 = .ok (.ireturn, 1) := by decide +kernel
theorem dX3_page_10 : decode cX3_page 10 = .ok (.iload_n 2, 1) := by decide +kernel
theorem dX3_page_11 : decode cX3_page 11 = .ok (.tableswitch 67 0 2 #[25, 34, 58], 25) := by decide +kernel
theorem dX3_page_36 : decode cX3_page 36 = .ok (.aload_n 0, 1) := by decide +kernel
theorem dX3_page_37 : decode cX3_page 37 = .ok (.getfield 19, 3) := by decide +kernel
theorem dX3_page_40 : decode cX3_page 40 = .ok (.iload_n 1, 1) := by decide +kernel
theorem dX3_page_41 : decode cX3_page 41 = .ok (.invokevirtual 114, 3) := by decide +kernel
theorem dX3_page_44 : decode cX3_page 44 = .ok (.ireturn, 1) := by decide +kernel
theorem dX3_page_45 : decode cX3_page 45 = .ok (.aload_n 0, 1) := by decide +kernel
theorem dX3_page_46 : decode cX3_page 46 = .ok (.getfield 26, 3) := by decide +kernel
theorem dX3_page_49 : decode cX3_page 49 = .ok (.iload_n 1, 1) := by decide +kernel
theorem dX3_page_50 : decode cX3_page 50 = .ok (.invokevirtual 111, 3) := by decide +kernel
theorem dX3_page_53 : decode cX3_page 53 = .ok (.ifCond .ne 7, 3) := by decide +kernel
theorem dX3_page_56 : decode cX3_page 56 = .ok (.iconst (-1), 1) := by decide +kernel
theorem dX3_page_57 : decode cX3_page 57 = .ok (.goto 11, 3) := by decide +kernel
theorem dX3_page_60 : decode cX3_page 60 = .ok (.aload_n 0, 1) := by decide +kernel
theorem dX3_page_61 : decode cX3_page 61 = .ok (.getfield 26, 3) := by decide +kernel
theorem dX3_page_64 : decode cX3_page 64 = .ok (.iload_n 1, 1) := by decide +kernel
theorem dX3_page_65 : decode cX3_page 65 = .ok (.invokevirtual 111, 3) := by decide +kernel
theorem dX3_page_68 : decode cX3_page 68 = .ok (.ireturn, 1) := by decide +kernel
theorem dX3_page_69 : decode cX3_page 69 = .ok (.aload_n 0, 1) := by decide +kernel
theorem dX3_page_70 : decode cX3_page 70 = .ok (.getfield 19, 3) := by decide +kernel
theorem dX3_page_73 : decode cX3_page 73 = .ok (.iload_n 1, 1) := by decide +kernel
theorem dX3_page_74 : decode cX3_page 74 = .ok (.invokevirtual 156, 3) := by decide +kernel
theorem dX3_page_77 : decode cX3_page 77 = .ok (.ireturn, 1) := by decide +kernel
theorem dX3_page_78 : decode cX3_page 78 = .ok (.bipush (-102), 2) := by decide +kernel
theorem dX3_page_80 : decode cX3_page 80 = .ok (.ireturn, 1) := by decide +kernel
set_option maxRecDepth 20000 in
theorem ggX3_table_X2_workAt : GoodIn wsX3_table wsX2_workAt := goodIn_r _ [6, 7, 8, 41, 42, 43, 44, 45, 46] (by decide +kernel) (by decide +kernel)
set_option maxRecDepth 20000 in
theorem gX3_table_X2_workAt : GoodIn wsX3_table (wsV RX3 159 RX2 yX2_workAt wsX2_workAt) := goodIn_app (goodIn_of _ (by decide +kernel)) ggX3_table_X2_workAt
set_option maxRecDepth 20000 in
theorem ggX3_table_X2_stateOf : GoodIn wsX3_table wsX2_stateOf := goodIn_r _ [12, 13, 14, 15, 16, 5, 17, 7, 8, 41, 42, 43, 44, 45, 46] (by decide +kernel) (by decide +kernel)
set_option maxRecDepth 20000 in
theorem gX3_table_X2_stateOf : GoodIn wsX3_table (wsV RX3 77 RX2 yX2_stateOf wsX2_stateOf) := goodIn_app (goodIn_of _ (by decide +kernel)) ggX3_table_X2_stateOf
set_option maxRecDepth 20000 in
theorem ggX3_table_X2_lastOf : GoodIn wsX3_table wsX2_lastOf := goodIn_r _ [21, 22, 14, 15, 16, 5, 17, 7, 8, 41, 42, 43, 44, 45, 46] (by decide +kernel) (by decide +kernel)
set_option maxRecDepth 20000 in
theorem gX3_table_X2_lastOf : GoodIn wsX3_table (wsV RX3 84 RX2 yX2_lastOf wsX2_lastOf) := goodIn_app (goodIn_of _ (by decide +kernel)) ggX3_table_X2_lastOf
set_option maxRecDepth 20000 in
theorem ggX3_table_X2_nextOf : GoodIn wsX3_table wsX2_nextOf := goodIn_r _ [26, 27, 14, 15, 16, 5, 17, 7, 8, 41, 42, 43, 44, 45, 46] (by decide +kernel) (by decide +kernel)
set_option maxRecDepth 20000 in
theorem gX3_table_X2_nextOf : GoodIn wsX3_table (wsV RX3 162 RX2 yX2_nextOf wsX2_nextOf) := goodIn_app (goodIn_of _ (by decide +kernel)) ggX3_table_X2_nextOf
theorem dX3_table_0 : decode cX3_table 0 = .ok (.aload_n 0, 1) := by decide +kernel
theorem dX3_table_1 : decode cX3_table 1 = .ok (.getfield 26, 3) := by decide +kernel
theorem dX3_table_4 : decode cX3_table 4 = .ok (.iload_n 1, 1) := by decide +kernel
theorem dX3_table_5 : decode cX3_table 5 = .ok (.invokevirtual 159, 3) := by decide +kernel
theorem dX3_table_8 : decode cX3_table 8 = .ok (.istore_n 3, 1) := by decide +kernel
theorem dX3_table_9 : decode cX3_table 9 = .ok (.iload_n 3, 1) := by decide +kernel
theorem dX3_table_10 : decode cX3_table 10 = .ok (.ifCond .ne 5, 3) := by decide +kernel
theorem dX3_table_13 : decode cX3_table 13 = .ok (.iconst (-1), 1) := by decide +kernel
theorem dX3_table_14 : decode cX3_table 14 = .ok (.ireturn, 1) := by decide +kernel
theorem dX3_table_15 : decode cX3_table 15 = .ok (.iload_n 2, 1) := by decide +kernel
theorem dX3_table_16 : decode cX3_table 16 = .ok (.tableswitch 61 0 3 #[32, 34, 43, 52], 32) := by decide +kernel
theorem dX3_table_48 : decode cX3_table 48 = .ok (.iload_n 3, 1) := by decide +kernel
theorem dX3_table_49 : decode cX3_table 49 = .ok (.ireturn, 1) := by decide +kernel
theorem dX3_table_50 : decode cX3_table 50 = .ok (.aload_n 0, 1) := by decide +kernel
theorem dX3_table_51 : decode cX3_table 51 = .ok (.getfield 26, 3) := by decide +kernel
theorem dX3_table_54 : decode cX3_table 54 = .ok (.iload_n 3, 1) := by decide +kernel
theorem dX3_table_55 : decode cX3_table 55 = .ok (.invokevirtual 77, 3) := by decide +kernel
theorem dX3_table_58 : decode cX3_table 58 = .ok (.ireturn, 1) := by decide +kernel
theorem dX3_table_59 : decode cX3_table 59 = .ok (.aload_n 0, 1) := by decide +kernel
theorem dX3_table_60 : decode cX3_table 60 = .ok (.getfield 26, 3) := by decide +kernel
theorem dX3_table_63 : decode cX3_table 63 = .ok (.iload_n 3, 1) := by decide +kernel
theorem dX3_table_64 : decode cX3_table 64 = .ok (.invokevirtual 84, 3) := by decide +kernel
theorem dX3_table_67 : decode cX3_table 67 = .ok (.ireturn, 1) := by decide +kernel
theorem dX3_table_68 : decode cX3_table 68 = .ok (.aload_n 0, 1) := by decide +kernel
theorem dX3_table_69 : decode cX3_table 69 = .ok (.getfield 26, 3) := by decide +kernel
theorem dX3_table_72 : decode cX3_table 72 = .ok (.iload_n 3, 1) := by decide +kernel
theorem dX3_table_73 : decode cX3_table 73 = .ok (.invokevirtual 162, 3) := by decide +kernel
theorem dX3_table_76 : decode cX3_table 76 = .ok (.ireturn, 1) := by decide +kernel
theorem dX3_table_77 : decode cX3_table 77 = .ok (.iconst (-1), 1) := by decide +kernel
theorem dX3_table_78 : decode cX3_table 78 = .ok (.ireturn, 1) := by decide +kernel
set_option maxRecDepth 20000 in
theorem ggX3_record_X0_holds : GoodIn wsX3_record wsX0_holds := goodIn_r _ [6, 7, 27, 28, 29, 30] (by decide +kernel) (by decide +kernel)
set_option maxRecDepth 20000 in
theorem gX3_record_X0_holds : GoodIn wsX3_record (wsV RX3 165 RX0 yX0_holds wsX0_holds) := goodIn_app (goodIn_of _ (by decide +kernel)) ggX3_record_X0_holds
set_option maxRecDepth 20000 in
theorem ggX3_record_X0_read : GoodIn wsX3_record wsX0_read := goodIn_r _ [11, 12, 13, 3, 4, 5, 6, 7, 27, 28, 29, 30] (by decide +kernel) (by decide +kernel)
set_option maxRecDepth 20000 in
theorem gX3_record_X0_read : GoodIn wsX3_record (wsV RX3 168 RX0 yX0_read wsX0_read) := goodIn_app (goodIn_of _ (by decide +kernel)) ggX3_record_X0_read
theorem dX3_record_0 : decode cX3_record 0 = .ok (.aload_n 0, 1) := by decide +kernel
theorem dX3_record_1 : decode cX3_record 1 = .ok (.getfield 10, 3) := by decide +kernel
theorem dX3_record_4 : decode cX3_record 4 = .ok (.iload_n 1, 1) := by decide +kernel
theorem dX3_record_5 : decode cX3_record 5 = .ok (.invokevirtual 165, 3) := by decide +kernel
theorem dX3_record_8 : decode cX3_record 8 = .ok (.ifCond .eq 13, 3) := by decide +kernel
theorem dX3_record_11 : decode cX3_record 11 = .ok (.iload_n 2, 1) := by decide +kernel
theorem dX3_record_12 : decode cX3_record 12 = .ok (.ifCond .lt 9, 3) := by decide +kernel
theorem dX3_record_15 : decode cX3_record 15 = .ok (.iload_n 2, 1) := by decide +kernel
theorem dX3_record_16 : decode cX3_record 16 = .ok (.bipush 6, 2) := by decide +kernel
theorem dX3_record_18 : decode cX3_record 18 = .ok (.if_icmp .le 5, 3) := by decide +kernel
theorem dX3_record_21 : decode cX3_record 21 = .ok (.iconst (-1), 1) := by decide +kernel
theorem dX3_record_22 : decode cX3_record 22 = .ok (.ireturn, 1) := by decide +kernel
theorem dX3_record_23 : decode cX3_record 23 = .ok (.aload_n 0, 1) := by decide +kernel
theorem dX3_record_24 : decode cX3_record 24 = .ok (.getfield 10, 3) := by decide +kernel
theorem dX3_record_27 : decode cX3_record 27 = .ok (.iload_n 1, 1) := by decide +kernel
theorem dX3_record_28 : decode cX3_record 28 = .ok (.iload_n 2, 1) := by decide +kernel
theorem dX3_record_29 : decode cX3_record 29 = .ok (.invokevirtual 168, 3) := by decide +kernel
theorem dX3_record_32 : decode cX3_record 32 = .ok (.ireturn, 1) := by decide +kernel
set_option maxRecDepth 20000 in
theorem ggX3_count_X0_recordsHeld : GoodIn wsX3_count wsX0_recordsHeld := goodIn_r _ [10, 11, 30, 31, 32, 33] (by decide +kernel) (by decide +kernel)
set_option maxRecDepth 20000 in
theorem gX3_count_X0_recordsHeld : GoodIn wsX3_count (wsV RX3 147 RX0 yX0_recordsHeld wsX0_recordsHeld) := goodIn_app (goodIn_of _ (by decide +kernel)) ggX3_count_X0_recordsHeld
set_option maxRecDepth 20000 in
theorem ggX3_count_X0_forcedHeld : GoodIn wsX3_count wsX0_forcedHeld := goodIn_r _ [15, 16, 30, 31, 32, 33] (by decide +kernel) (by decide +kernel)
set_option maxRecDepth 20000 in
theorem gX3_count_X0_forcedHeld : GoodIn wsX3_count (wsV RX3 123 RX0 yX0_forcedHeld wsX0_forcedHeld) := goodIn_app (goodIn_of _ (by decide +kernel)) ggX3_count_X0_forcedHeld
theorem dX3_count_0 : decode cX3_count 0 = .ok (.iload_n 1, 1) := by decide +kernel
theorem dX3_count_1 : decode cX3_count 1 = .ok (.tableswitch 75 0 5 #[39, 47, 55, 60, 65, 70], 39) := by decide +kernel
theorem dX3_count_40 : decode cX3_count 40 = .ok (.aload_n 0, 1) := by decide +kernel
theorem dX3_count_41 : decode cX3_count 41 = .ok (.getfield 10, 3) := by decide +kernel
theorem dX3_count_44 : decode cX3_count 44 = .ok (.invokevirtual 147, 3) := by decide +kernel
theorem dX3_count_47 : decode cX3_count 47 = .ok (.ireturn, 1) := by decide +kernel
theorem dX3_count_48 : decode cX3_count 48 = .ok (.aload_n 0, 1) := by decide +kernel
theorem dX3_count_49 : decode cX3_count 49 = .ok (.getfield 10, 3) := by decide +kernel
theorem dX3_count_52 : decode cX3_count 52 = .ok (.invokevirtual 123, 3) := by decide +kernel
theorem dX3_count_55 : decode cX3_count 55 = .ok (.ireturn, 1) := by decide +kernel
theorem dX3_count_56 : decode cX3_count 56 = .ok (.aload_n 0, 1) := by decide +kernel
theorem dX3_count_57 : decode cX3_count 57 = .ok (.getfield 49, 3) := by decide +kernel
theorem dX3_count_60 : decode cX3_count 60 = .ok (.ireturn, 1) := by decide +kernel
theorem dX3_count_61 : decode cX3_count 61 = .ok (.aload_n 0, 1) := by decide +kernel
theorem dX3_count_62 : decode cX3_count 62 = .ok (.getfield 52, 3) := by decide +kernel
theorem dX3_count_65 : decode cX3_count 65 = .ok (.ireturn, 1) := by decide +kernel
theorem dX3_count_66 : decode cX3_count 66 = .ok (.aload_n 0, 1) := by decide +kernel
theorem dX3_count_67 : decode cX3_count 67 = .ok (.getfield 55, 3) := by decide +kernel
theorem dX3_count_70 : decode cX3_count 70 = .ok (.ireturn, 1) := by decide +kernel
theorem dX3_count_71 : decode cX3_count 71 = .ok (.aload_n 0, 1) := by decide +kernel
theorem dX3_count_72 : decode cX3_count 72 = .ok (.getfield 58, 3) := by decide +kernel
theorem dX3_count_75 : decode cX3_count 75 = .ok (.ireturn, 1) := by decide +kernel
theorem dX3_count_76 : decode cX3_count 76 = .ok (.bipush (-102), 2) := by decide +kernel
theorem dX3_count_78 : decode cX3_count 78 = .ok (.ireturn, 1) := by decide +kernel
set_option maxRecDepth 20000 in
theorem ggX3_refusalFor_X2_holds : GoodIn wsX3_refusalFor wsX2_holds := goodIn_r _ [7, 8, 9, 10, 6, 11, 12, 13, 27, 28, 29, 30, 31, 32] (by decide +kernel) (by decide +kernel)
set_option maxRecDepth 20000 in
theorem gX3_refusalFor_X2_holds : GoodIn wsX3_refusalFor (wsV RX3 171 RX2 yX2_holds wsX2_holds) := goodIn_app (goodIn_of _ (by decide +kernel)) ggX3_refusalFor_X2_holds
theorem dX3_refusalFor_0 : decode cX3_refusalFor 0 = .ok (.aload_n 0, 1) := by decide +kernel
theorem dX3_refusalFor_1 : decode cX3_refusalFor 1 = .ok (.getfield 43, 3) := by decide +kernel
theorem dX3_refusalFor_4 : decode cX3_refusalFor 4 = .ok (.ifCond .eq 6, 3) := by decide +kernel
theorem dX3_refusalFor_7 : decode cX3_refusalFor 7 = .ok (.bipush (-105), 2) := by decide +kernel
theorem dX3_refusalFor_9 : decode cX3_refusalFor 9 = .ok (.ireturn, 1) := by decide +kernel
theorem dX3_refusalFor_10 : decode cX3_refusalFor 10 = .ok (.aload_n 0, 1) := by decide +kernel
theorem dX3_refusalFor_11 : decode cX3_refusalFor 11 = .ok (.getfield 26, 3) := by decide +kernel
theorem dX3_refusalFor_14 : decode cX3_refusalFor 14 = .ok (.iload_n 1, 1) := by decide +kernel
theorem dX3_refusalFor_15 : decode cX3_refusalFor 15 = .ok (.invokevirtual 171, 3) := by decide +kernel
theorem dX3_refusalFor_18 : decode cX3_refusalFor 18 = .ok (.ifCond .eq 7, 3) := by decide +kernel
theorem dX3_refusalFor_21 : decode cX3_refusalFor 21 = .ok (.iconst 0, 1) := by decide +kernel
theorem dX3_refusalFor_22 : decode cX3_refusalFor 22 = .ok (.goto 5, 3) := by decide +kernel
theorem dX3_refusalFor_25 : decode cX3_refusalFor 25 = .ok (.bipush (-101), 2) := by decide +kernel
theorem dX3_refusalFor_27 : decode cX3_refusalFor 27 = .ok (.ireturn, 1) := by decide +kernel
set_option maxRecDepth 20000 in
theorem ggX3_appendOfWork_X2_lastOf : GoodIn wsX3_appendOfWork wsX2_lastOf := goodIn_r _ [7, 8, 9, 10, 11, 6, 12, 13, 14, 107, 108, 109, 110, 111, 112] (by decide +kernel) (by decide +kernel)
set_option maxRecDepth 20000 in
theorem gX3_appendOfWork_X2_lastOf : GoodIn wsX3_appendOfWork (wsV RX3 84 RX2 yX2_lastOf wsX2_lastOf) := goodIn_app (goodIn_of _ (by decide +kernel)) ggX3_appendOfWork_X2_lastOf
set_option maxRecDepth 20000 in
theorem ggX3_appendOfWork_X0_append : GoodIn wsX3_appendOfWork wsX0_append := goodIn_r _ [19, 20, 21, 22, 23, 24, 25, 26, 27, 28, 29, 30, 31, 32, 33, 34, 35, 36, 37, 38, 39, 40, 41, 113, 114, 115, 116] (by decide +kernel) (by decide +kernel)
set_option maxRecDepth 20000 in
theorem gX3_appendOfWork_X0_append : GoodIn wsX3_appendOfWork (wsV RX3 87 RX0 yX0_append wsX0_append) := goodIn_app (goodIn_of _ (by decide +kernel)) ggX3_appendOfWork_X0_append
set_option maxRecDepth 20000 in
theorem ggX3_appendOfWork_X3_takeIntoTables : GoodIn wsX3_appendOfWork wsX3_takeIntoTables := goodIn_r _ [46, 1, 2, 47, 48, 49, 18, 50, 21, 51, 52, 53, 54, 20, 55, 56, 57, 6, 58, 13, 14, 59, 8, 60, 61, 62, 63, 64, 9, 10, 11, 12, 65, 66, 67, 68, 69, 70, 71, 72, 73, 74, 75, 76, 77, 78, 79, 80, 81, 82, 83, 84, 85, 86, 87, 88, 89, 90, 91, 92, 93, 94, 95, 96, 97, 98, 99, 100, 101, 102, 103, 104, 105, 106, 113, 114, 115, 116, 107, 108, 109, 110, 111, 112] (by decide +kernel) (by decide +kernel)
set_option maxRecDepth 20000 in
theorem gX3_appendOfWork_X3_takeIntoTables : GoodIn wsX3_appendOfWork (wsV RX3 91 RX3 yX3_takeIntoTables wsX3_takeIntoTables) := goodIn_app (goodIn_of _ (by decide +kernel)) ggX3_appendOfWork_X3_takeIntoTables
theorem dX3_appendOfWork_0 : decode cX3_appendOfWork 0 = .ok (.aload_n 0, 1) := by decide +kernel
theorem dX3_appendOfWork_1 : decode cX3_appendOfWork 1 = .ok (.getfield 10, 3) := by decide +kernel
theorem dX3_appendOfWork_4 : decode cX3_appendOfWork 4 = .ok (.iload_n 1, 1) := by decide +kernel
theorem dX3_appendOfWork_5 : decode cX3_appendOfWork 5 = .ok (.iload_n 2, 1) := by decide +kernel
theorem dX3_appendOfWork_6 : decode cX3_appendOfWork 6 = .ok (.aload_n 0, 1) := by decide +kernel
theorem dX3_appendOfWork_7 : decode cX3_appendOfWork 7 = .ok (.getfield 26, 3) := by decide +kernel
theorem dX3_appendOfWork_10 : decode cX3_appendOfWork 10 = .ok (.iload_n 2, 1) := by decide +kernel
theorem dX3_appendOfWork_11 : decode cX3_appendOfWork 11 = .ok (.invokevirtual 84, 3) := by decide +kernel
theorem dX3_appendOfWork_14 : decode cX3_appendOfWork 14 = .ok (.iconst 0, 1) := by decide +kernel
theorem dX3_appendOfWork_15 : decode cX3_appendOfWork 15 = .ok (.iconst 0, 1) := by decide +kernel
theorem dX3_appendOfWork_16 : decode cX3_appendOfWork 16 = .ok (.iconst 0, 1) := by decide +kernel
theorem dX3_appendOfWork_17 : decode cX3_appendOfWork 17 = .ok (.iconst 0, 1) := by decide +kernel
theorem dX3_appendOfWork_18 : decode cX3_appendOfWork 18 = .ok (.invokevirtual 87, 3) := by decide +kernel
theorem dX3_appendOfWork_21 : decode cX3_appendOfWork 21 = .ok (.istore_n 3, 1) := by decide +kernel
theorem dX3_appendOfWork_22 : decode cX3_appendOfWork 22 = .ok (.aload_n 0, 1) := by decide +kernel
theorem dX3_appendOfWork_23 : decode cX3_appendOfWork 23 = .ok (.iload_n 3, 1) := by decide +kernel
theorem dX3_appendOfWork_24 : decode cX3_appendOfWork 24 = .ok (.invokevirtual 91, 3) := by decide +kernel
theorem dX3_appendOfWork_27 : decode cX3_appendOfWork 27 = .ok (.iload_n 3, 1) := by decide +kernel
theorem dX3_appendOfWork_28 : decode cX3_appendOfWork 28 = .ok (.ireturn, 1) := by decide +kernel
set_option maxRecDepth 20000 in
theorem ggX3_undoDownTo_X0_recordsHeld : GoodIn wsX3_undoDownTo wsX0_recordsHeld := goodIn_r _ [7, 8, 138, 139, 140, 141] (by decide +kernel) (by decide +kernel)
set_option maxRecDepth 20000 in
theorem gX3_undoDownTo_X0_recordsHeld : GoodIn wsX3_undoDownTo (wsV RX3 147 RX0 yX0_recordsHeld wsX0_recordsHeld) := goodIn_app (goodIn_of _ (by decide +kernel)) ggX3_undoDownTo_X0_recordsHeld
set_option maxRecDepth 20000 in
theorem ggX3_undoDownTo_X2_nextOf : GoodIn wsX3_undoDownTo wsX2_nextOf := goodIn_r _ [13, 14, 15, 16, 17, 12, 18, 19, 20, 142, 143, 144, 145, 146, 147] (by decide +kernel) (by decide +kernel)
set_option maxRecDepth 20000 in
theorem gX3_undoDownTo_X2_nextOf : GoodIn wsX3_undoDownTo (wsV RX3 162 RX2 yX2_nextOf wsX2_nextOf) := goodIn_app (goodIn_of _ (by decide +kernel)) ggX3_undoDownTo_X2_nextOf
set_option maxRecDepth 20000 in
theorem ggX3_undoDownTo_X3_undoNext : GoodIn wsX3_undoDownTo wsX3_undoNext := goodIn_r _ [25, 2, 1, 9, 10, 11, 12, 13, 14, 15, 16, 17, 18, 19, 20, 26, 27, 28, 29, 30, 31, 32, 33, 6, 34, 35, 36, 37, 38, 39, 8, 40, 41, 42, 43, 44, 45, 46, 47, 48, 49, 50, 51, 52, 53, 54, 55, 56, 57, 58, 59, 60, 61, 62, 63, 64, 65, 66, 67, 68, 69, 70, 71, 24, 72, 73, 74, 75, 76, 77, 78, 79, 80, 81, 82, 83, 84, 85, 86, 87, 88, 89, 90, 91, 92, 93, 94, 95, 96, 97, 98, 99, 100, 101, 102, 103, 104, 105, 106, 107, 108, 109, 110, 111, 112, 113, 114, 115, 116, 117, 118, 119, 120, 121, 122, 123, 124, 125, 126, 127, 128, 129, 130, 131, 132, 133, 134, 135, 136, 137, 142, 143, 144, 145, 146, 147, 138, 139, 140, 141, 148, 149, 150, 151] (by decide +kernel) (by decide +kernel)
set_option maxRecDepth 20000 in
theorem gX3_undoDownTo_X3_undoNext : GoodIn wsX3_undoDownTo (wsV RX3 172 RX3 yX3_undoNext wsX3_undoNext) := goodIn_app (goodIn_of _ (by decide +kernel)) ggX3_undoDownTo_X3_undoNext
theorem dX3_undoDownTo_0 : decode cX3_undoDownTo 0 = .ok (.aload_n 0, 1) := by decide +kernel
theorem dX3_undoDownTo_1 : decode cX3_undoDownTo 1 = .ok (.getfield 10, 3) := by decide +kernel
theorem dX3_undoDownTo_4 : decode cX3_undoDownTo 4 = .ok (.invokevirtual 147, 3) := by decide +kernel
theorem dX3_undoDownTo_7 : decode cX3_undoDownTo 7 = .ok (.istore_n 3, 1) := by decide +kernel
theorem dX3_undoDownTo_8 : decode cX3_undoDownTo 8 = .ok (.iconst 0, 1) := by decide +kernel
theorem dX3_undoDownTo_9 : decode cX3_undoDownTo 9 = .ok (.istore 4, 2) := by decide +kernel
theorem dX3_undoDownTo_11 : decode cX3_undoDownTo 11 = .ok (.iload 4, 2) := by decide +kernel
theorem dX3_undoDownTo_13 : decode cX3_undoDownTo 13 = .ok (.iload_n 3, 1) := by decide +kernel
theorem dX3_undoDownTo_14 : decode cX3_undoDownTo 14 = .ok (.if_icmp .ge 26, 3) := by decide +kernel
theorem dX3_undoDownTo_17 : decode cX3_undoDownTo 17 = .ok (.aload_n 0, 1) := by decide +kernel
theorem dX3_undoDownTo_18 : decode cX3_undoDownTo 18 = .ok (.getfield 26, 3) := by decide +kernel
theorem dX3_undoDownTo_21 : decode cX3_undoDownTo 21 = .ok (.iload_n 1, 1) := by decide +kernel
theorem dX3_undoDownTo_22 : decode cX3_undoDownTo 22 = .ok (.invokevirtual 162, 3) := by decide +kernel
theorem dX3_undoDownTo_25 : decode cX3_undoDownTo 25 = .ok (.iload_n 2, 1) := by decide +kernel
theorem dX3_undoDownTo_26 : decode cX3_undoDownTo 26 = .ok (.if_icmp .le 14, 3) := by decide +kernel
theorem dX3_undoDownTo_29 : decode cX3_undoDownTo 29 = .ok (.aload_n 0, 1) := by decide +kernel
theorem dX3_undoDownTo_30 : decode cX3_undoDownTo 30 = .ok (.iload_n 1, 1) := by decide +kernel
theorem dX3_undoDownTo_31 : decode cX3_undoDownTo 31 = .ok (.invokevirtual 172, 3) := by decide +kernel
theorem dX3_undoDownTo_34 : decode cX3_undoDownTo 34 = .ok (.iinc 4 1, 3) := by decide +kernel
theorem dX3_undoDownTo_37 : decode cX3_undoDownTo 37 = .ok (.goto (-26), 3) := by decide +kernel
theorem dX3_undoDownTo_40 : decode cX3_undoDownTo 40 = .ok (.iload 4, 2) := by decide +kernel
theorem dX3_undoDownTo_42 : decode cX3_undoDownTo 42 = .ok (.ireturn, 1) := by decide +kernel
set_option maxRecDepth 20000 in
theorem ggX3_undoNext_X2_nextOf : GoodIn wsX3_undoNext wsX2_nextOf := goodIn_r _ [7, 8, 9, 10, 11, 6, 12, 13, 14, 130, 131, 132, 133, 134, 135] (by decide +kernel) (by decide +kernel)
set_option maxRecDepth 20000 in
theorem gX3_undoNext_X2_nextOf : GoodIn wsX3_undoNext (wsV RX3 162 RX2 yX2_nextOf wsX2_nextOf) := goodIn_app (goodIn_of _ (by decide +kernel)) ggX3_undoNext_X2_nextOf
set_option maxRecDepth 20000 in
theorem ggX3_undoNext_X2_lastOf : GoodIn wsX3_undoNext wsX2_lastOf := goodIn_r _ [18, 19, 9, 10, 11, 6, 12, 13, 14, 130, 131, 132, 133, 134, 135] (by decide +kernel) (by decide +kernel)
set_option maxRecDepth 20000 in
theorem gX3_undoNext_X2_lastOf : GoodIn wsX3_undoNext (wsV RX3 84 RX2 yX2_lastOf wsX2_lastOf) := goodIn_app (goodIn_of _ (by decide +kernel)) ggX3_undoNext_X2_lastOf
set_option maxRecDepth 20000 in
theorem ggX3_undoNext_X0_read : GoodIn wsX3_undoNext wsX0_read := goodIn_r _ [24, 25, 26, 27, 28, 23, 29, 30, 136, 137, 138, 139] (by decide +kernel) (by decide +kernel)
set_option maxRecDepth 20000 in
theorem gX3_undoNext_X0_read : GoodIn wsX3_undoNext (wsV RX3 168 RX0 yX0_read wsX0_read) := goodIn_app (goodIn_of _ (by decide +kernel)) ggX3_undoNext_X0_read
set_option maxRecDepth 20000 in
theorem ggX3_undoNext_X0_undoingBehind : GoodIn wsX3_undoNext wsX0_undoingBehind := goodIn_r _ [34, 35, 21, 22, 23, 24, 25, 26, 27, 28, 29, 30, 136, 137, 138, 139] (by decide +kernel) (by decide +kernel)
set_option maxRecDepth 20000 in
theorem gX3_undoNext_X0_undoingBehind : GoodIn wsX3_undoNext (wsV RX3 175 RX0 yX0_undoingBehind wsX0_undoingBehind) := goodIn_app (goodIn_of _ (by decide +kernel)) ggX3_undoNext_X0_undoingBehind
set_option maxRecDepth 20000 in
theorem ggX3_undoNext_X0_append : GoodIn wsX3_undoNext wsX0_append := goodIn_r _ [39, 30, 25, 40, 41, 42, 43, 44, 45, 46, 47, 48, 49, 50, 51, 52, 53, 54, 55, 56, 57, 58, 59, 136, 137, 138, 139] (by decide +kernel) (by decide +kernel)
set_option maxRecDepth 20000 in
theorem gX3_undoNext_X0_append : GoodIn wsX3_undoNext (wsV RX3 87 RX0 yX0_append wsX0_append) := goodIn_app (goodIn_of _ (by decide +kernel)) ggX3_undoNext_X0_append
set_option maxRecDepth 20000 in
theorem ggX3_undoNext_X3_takeIntoTables : GoodIn wsX3_undoNext wsX3_takeIntoTables := goodIn_r _ [64, 2, 1, 20, 21, 22, 23, 24, 25, 26, 27, 28, 29, 30, 65, 66, 67, 6, 68, 13, 14, 69, 19, 8, 70, 71, 72, 73, 9, 10, 11, 12, 74, 75, 76, 77, 78, 79, 80, 81, 82, 83, 84, 85, 86, 87, 88, 89, 90, 91, 92, 93, 94, 95, 96, 97, 98, 99, 100, 101, 102, 117, 118, 119, 120, 121, 122, 123, 124, 125, 126, 127, 128, 129, 136, 137, 138, 139, 130, 131, 132, 133, 134, 135] (by decide +kernel) (by decide +kernel)
set_option maxRecDepth 20000 in
theorem gX3_undoNext_X3_takeIntoTables : GoodIn wsX3_undoNext (wsV RX3 91 RX3 yX3_takeIntoTables wsX3_takeIntoTables) := goodIn_app (goodIn_of _ (by decide +kernel)) ggX3_undoNext_X3_takeIntoTables
set_option maxRecDepth 20000 in
theorem ggX3_undoNext_X3_carryOut : GoodIn wsX3_undoNext wsX3_carryOut := goodIn_r _ [106, 107, 2, 20, 21, 22, 23, 24, 25, 26, 27, 28, 29, 30, 108, 109, 110, 93, 111, 112, 113, 114, 115, 116, 117, 118, 119, 120, 121, 122, 123, 124, 125, 126, 127, 128, 129, 136, 137, 138, 139, 140, 141, 142, 143] (by decide +kernel) (by decide +kernel)
set_option maxRecDepth 20000 in
theorem gX3_undoNext_X3_carryOut : GoodIn wsX3_undoNext (wsV RX3 94 RX3 yX3_carryOut wsX3_carryOut) := goodIn_app (goodIn_of _ (by decide +kernel)) ggX3_undoNext_X3_carryOut
theorem dX3_undoNext_0 : decode cX3_undoNext 0 = .ok (.aload_n 0, 1) := by decide +kernel
theorem dX3_undoNext_1 : decode cX3_undoNext 1 = .ok (.getfield 26, 3) := by decide +kernel
theorem dX3_undoNext_4 : decode cX3_undoNext 4 = .ok (.iload_n 1, 1) := by decide +kernel
theorem dX3_undoNext_5 : decode cX3_undoNext 5 = .ok (.invokevirtual 162, 3) := by decide +kernel
theorem dX3_undoNext_8 : decode cX3_undoNext 8 = .ok (.istore_n 2, 1) := by decide +kernel
theorem dX3_undoNext_9 : decode cX3_undoNext 9 = .ok (.aload_n 0, 1) := by decide +kernel
theorem dX3_undoNext_10 : decode cX3_undoNext 10 = .ok (.getfield 10, 3) := by decide +kernel
theorem dX3_undoNext_13 : decode cX3_undoNext 13 = .ok (.iconst 2, 1) := by decide +kernel
theorem dX3_undoNext_14 : decode cX3_undoNext 14 = .ok (.iload_n 1, 1) := by decide +kernel
theorem dX3_undoNext_15 : decode cX3_undoNext 15 = .ok (.aload_n 0, 1) := by decide +kernel
theorem dX3_undoNext_16 : decode cX3_undoNext 16 = .ok (.getfield 26, 3) := by decide +kernel
theorem dX3_undoNext_19 : decode cX3_undoNext 19 = .ok (.iload_n 1, 1) := by decide +kernel
theorem dX3_undoNext_20 : decode cX3_undoNext 20 = .ok (.invokevirtual 84, 3) := by decide +kernel
theorem dX3_undoNext_23 : decode cX3_undoNext 23 = .ok (.aload_n 0, 1) := by decide +kernel
theorem dX3_undoNext_24 : decode cX3_undoNext 24 = .ok (.getfield 10, 3) := by decide +kernel
theorem dX3_undoNext_27 : decode cX3_undoNext 27 = .ok (.iload_n 2, 1) := by decide +kernel
theorem dX3_undoNext_28 : decode cX3_undoNext 28 = .ok (.iconst 3, 1) := by decide +kernel
theorem dX3_undoNext_29 : decode cX3_undoNext 29 = .ok (.invokevirtual 168, 3) := by decide +kernel
theorem dX3_undoNext_32 : decode cX3_undoNext 32 = .ok (.aload_n 0, 1) := by decide +kernel
theorem dX3_undoNext_33 : decode cX3_undoNext 33 = .ok (.getfield 10, 3) := by decide +kernel
theorem dX3_undoNext_36 : decode cX3_undoNext 36 = .ok (.iload_n 2, 1) := by decide +kernel
theorem dX3_undoNext_37 : decode cX3_undoNext 37 = .ok (.iconst 4, 1) := by decide +kernel
theorem dX3_undoNext_38 : decode cX3_undoNext 38 = .ok (.invokevirtual 168, 3) := by decide +kernel
theorem dX3_undoNext_41 : decode cX3_undoNext 41 = .ok (.aload_n 0, 1) := by decide +kernel
theorem dX3_undoNext_42 : decode cX3_undoNext 42 = .ok (.getfield 10, 3) := by decide +kernel
theorem dX3_undoNext_45 : decode cX3_undoNext 45 = .ok (.iload_n 2, 1) := by decide +kernel
theorem dX3_undoNext_46 : decode cX3_undoNext 46 = .ok (.iconst 5, 1) := by decide +kernel
theorem dX3_undoNext_47 : decode cX3_undoNext 47 = .ok (.invokevirtual 168, 3) := by decide +kernel
theorem dX3_undoNext_50 : decode cX3_undoNext 50 = .ok (.ineg, 1) := by decide +kernel
theorem dX3_undoNext_51 : decode cX3_undoNext 51 = .ok (.aload_n 0, 1) := by decide +kernel
theorem dX3_undoNext_52 : decode cX3_undoNext 52 = .ok (.getfield 10, 3) := by decide +kernel
theorem dX3_undoNext_55 : decode cX3_undoNext 55 = .ok (.iload_n 2, 1) := by decide +kernel
theorem dX3_undoNext_56 : decode cX3_undoNext 56 = .ok (.invokevirtual 175, 3) := by decide +kernel
theorem dX3_undoNext_59 : decode cX3_undoNext 59 = .ok (.invokevirtual 87, 3) := by decide +kernel
theorem dX3_undoNext_62 : decode cX3_undoNext 62 = .ok (.istore_n 3, 1) := by decide +kernel
theorem dX3_undoNext_63 : decode cX3_undoNext 63 = .ok (.aload_n 0, 1) := by decide +kernel
theorem dX3_undoNext_64 : decode cX3_undoNext 64 = .ok (.iload_n 3, 1) := by decide +kernel
theorem dX3_undoNext_65 : decode cX3_undoNext 65 = .ok (.invokevirtual 91, 3) := by decide +kernel
theorem dX3_undoNext_68 : decode cX3_undoNext 68 = .ok (.aload_n 0, 1) := by decide +kernel
theorem dX3_undoNext_69 : decode cX3_undoNext 69 = .ok (.iload_n 3, 1) := by decide +kernel
theorem dX3_undoNext_70 : decode cX3_undoNext 70 = .ok (.invokevirtual 94, 3) := by decide +kernel
theorem dX3_undoNext_73 : decode cX3_undoNext 73 = .ok (.return_, 1) := by decide +kernel
set_option maxRecDepth 20000 in
theorem ggX3_takeIntoTables_X0_read : GoodIn wsX3_takeIntoTables wsX0_read := goodIn_r _ [7, 8, 9, 10, 11, 6, 12, 13, 74, 75, 76, 77] (by decide +kernel) (by decide +kernel)
set_option maxRecDepth 20000 in
theorem gX3_takeIntoTables_X0_read : GoodIn wsX3_takeIntoTables (wsV RX3 168 RX0 yX0_read wsX0_read) := goodIn_app (goodIn_of _ (by decide +kernel)) ggX3_takeIntoTables_X0_read
set_option maxRecDepth 20000 in
theorem ggX3_takeIntoTables_X2_bringIn : GoodIn wsX3_takeIntoTables wsX2_bringIn := goodIn_r _ [18, 19, 20, 21, 22, 23, 24, 25, 26, 17, 27, 28, 29, 30, 31, 32, 33, 34, 35, 78, 79, 80, 81, 82, 83] (by decide +kernel) (by decide +kernel)
set_option maxRecDepth 20000 in
theorem gX3_takeIntoTables_X2_bringIn : GoodIn wsX3_takeIntoTables (wsV RX3 65 RX2 yX2_bringIn wsX2_bringIn) := goodIn_app (goodIn_of _ (by decide +kernel)) ggX3_takeIntoTables_X2_bringIn
set_option maxRecDepth 20000 in
theorem ggX3_takeIntoTables_X2_setLast : GoodIn wsX3_takeIntoTables wsX2_setLast := goodIn_r _ [39, 22, 28, 29, 30, 17, 31, 19, 20, 78, 79, 80, 81, 82, 83] (by decide +kernel) (by decide +kernel)
set_option maxRecDepth 20000 in
theorem gX3_takeIntoTables_X2_setLast : GoodIn wsX3_takeIntoTables (wsV RX3 178 RX2 yX2_setLast wsX2_setLast) := goodIn_app (goodIn_of _ (by decide +kernel)) ggX3_takeIntoTables_X2_setLast
set_option maxRecDepth 20000 in
theorem ggX3_takeIntoTables_X2_setNext : GoodIn wsX3_takeIntoTables wsX2_setNext := goodIn_r _ [43, 23, 28, 29, 30, 17, 31, 19, 20, 78, 79, 80, 81, 82, 83] (by decide +kernel) (by decide +kernel)
set_option maxRecDepth 20000 in
theorem gX3_takeIntoTables_X2_setNext : GoodIn wsX3_takeIntoTables (wsV RX3 182 RX2 yX2_setNext wsX2_setNext) := goodIn_app (goodIn_of _ (by decide +kernel)) ggX3_takeIntoTables_X2_setNext
set_option maxRecDepth 20000 in
theorem ggX3_takeIntoTables_X2_makeDirty : GoodIn wsX3_takeIntoTables wsX2_makeDirty := goodIn_r _ [47, 48, 49, 50, 51, 52, 78, 79, 80, 81, 82, 83] (by decide +kernel) (by decide +kernel)
set_option maxRecDepth 20000 in
theorem gX3_takeIntoTables_X2_makeDirty : GoodIn wsX3_takeIntoTables (wsV RX3 185 RX2 yX2_makeDirty wsX2_makeDirty) := goodIn_app (goodIn_of _ (by decide +kernel)) ggX3_takeIntoTables_X2_makeDirty
set_option maxRecDepth 20000 in
theorem ggX3_takeIntoTables_X2_setState : GoodIn wsX3_takeIntoTables wsX2_setState := goodIn_r _ [56, 21, 28, 29, 30, 17, 31, 19, 20, 78, 79, 80, 81, 82, 83] (by decide +kernel) (by decide +kernel)
set_option maxRecDepth 20000 in
theorem gX3_takeIntoTables_X2_setState : GoodIn wsX3_takeIntoTables (wsV RX3 188 RX2 yX2_setState wsX2_setState) := goodIn_app (goodIn_of _ (by decide +kernel)) ggX3_takeIntoTables_X2_setState
set_option maxRecDepth 20000 in
theorem ggX3_takeIntoTables_X2_takeOut : GoodIn wsX3_takeIntoTables wsX2_takeOut := goodIn_r _ [60, 19, 28, 29, 30, 17, 31, 20, 32, 33, 34, 35, 21, 22, 23, 78, 79, 80, 81, 82, 83] (by decide +kernel) (by decide +kernel)
set_option maxRecDepth 20000 in
theorem gX3_takeIntoTables_X2_takeOut : GoodIn wsX3_takeIntoTables (wsV RX3 191 RX2 yX2_takeOut wsX2_takeOut) := goodIn_app (goodIn_of _ (by decide +kernel)) ggX3_takeIntoTables_X2_takeOut
theorem dX3_takeIntoTables_0 : decode cX3_takeIntoTables 0 = .ok (.aload_n 0, 1) := by decide +kernel
theorem dX3_takeIntoTables_1 : decode cX3_takeIntoTables 1 = .ok (.getfield 10, 3) := by decide +kernel
theorem dX3_takeIntoTables_4 : decode cX3_takeIntoTables 4 = .ok (.iload_n 1, 1) := by decide +kernel
theorem dX3_takeIntoTables_5 : decode cX3_takeIntoTables 5 = .ok (.iconst 0, 1) := by decide +kernel
theorem dX3_takeIntoTables_6 : decode cX3_takeIntoTables 6 = .ok (.invokevirtual 168, 3) := by decide +kernel
theorem dX3_takeIntoTables_9 : decode cX3_takeIntoTables 9 = .ok (.istore_n 2, 1) := by decide +kernel
theorem dX3_takeIntoTables_10 : decode cX3_takeIntoTables 10 = .ok (.aload_n 0, 1) := by decide +kernel
theorem dX3_takeIntoTables_11 : decode cX3_takeIntoTables 11 = .ok (.getfield 10, 3) := by decide +kernel
theorem dX3_takeIntoTables_14 : decode cX3_takeIntoTables 14 = .ok (.iload_n 1, 1) := by decide +kernel
theorem dX3_takeIntoTables_15 : decode cX3_takeIntoTables 15 = .ok (.iconst 1, 1) := by decide +kernel
theorem dX3_takeIntoTables_16 : decode cX3_takeIntoTables 16 = .ok (.invokevirtual 168, 3) := by decide +kernel
theorem dX3_takeIntoTables_19 : decode cX3_takeIntoTables 19 = .ok (.istore_n 3, 1) := by decide +kernel
theorem dX3_takeIntoTables_20 : decode cX3_takeIntoTables 20 = .ok (.iload_n 3, 1) := by decide +kernel
theorem dX3_takeIntoTables_21 : decode cX3_takeIntoTables 21 = .ok (.ifCond .ne 4, 3) := by decide +kernel
theorem dX3_takeIntoTables_24 : decode cX3_takeIntoTables 24 = .ok (.return_, 1) := by decide +kernel
theorem dX3_takeIntoTables_25 : decode cX3_takeIntoTables 25 = .ok (.aload_n 0, 1) := by decide +kernel
theorem dX3_takeIntoTables_26 : decode cX3_takeIntoTables 26 = .ok (.getfield 26, 3) := by decide +kernel
theorem dX3_takeIntoTables_29 : decode cX3_takeIntoTables 29 = .ok (.iload_n 3, 1) := by decide +kernel
theorem dX3_takeIntoTables_30 : decode cX3_takeIntoTables 30 = .ok (.invokevirtual 65, 3) := by decide +kernel
theorem dX3_takeIntoTables_33 : decode cX3_takeIntoTables 33 = .ok (.aload_n 0, 1) := by decide +kernel
theorem dX3_takeIntoTables_34 : decode cX3_takeIntoTables 34 = .ok (.getfield 26, 3) := by decide +kernel
theorem dX3_takeIntoTables_37 : decode cX3_takeIntoTables 37 = .ok (.iload_n 3, 1) := by decide +kernel
theorem dX3_takeIntoTables_38 : decode cX3_takeIntoTables 38 = .ok (.iload_n 1, 1) := by decide +kernel
theorem dX3_takeIntoTables_39 : decode cX3_takeIntoTables 39 = .ok (.invokevirtual 178, 3) := by decide +kernel
theorem dX3_takeIntoTables_42 : decode cX3_takeIntoTables 42 = .ok (.iload_n 2, 1) := by decide +kernel
theorem dX3_takeIntoTables_43 : decode cX3_takeIntoTables 43 = .ok (.tableswitch 151 1 6 #[37, 66, 104, 116, 140, 128], 37) := by decide +kernel
theorem dX3_takeIntoTables_80 : decode cX3_takeIntoTables 80 = .ok (.aload_n 0, 1) := by decide +kernel
theorem dX3_takeIntoTables_81 : decode cX3_takeIntoTables 81 = .ok (.getfield 26, 3) := by decide +kernel
theorem dX3_takeIntoTables_84 : decode cX3_takeIntoTables 84 = .ok (.iload_n 3, 1) := by decide +kernel
theorem dX3_takeIntoTables_85 : decode cX3_takeIntoTables 85 = .ok (.iload_n 1, 1) := by decide +kernel
theorem dX3_takeIntoTables_86 : decode cX3_takeIntoTables 86 = .ok (.invokevirtual 182, 3) := by decide +kernel
theorem dX3_takeIntoTables_89 : decode cX3_takeIntoTables 89 = .ok (.aload_n 0, 1) := by decide +kernel
theorem dX3_takeIntoTables_90 : decode cX3_takeIntoTables 90 = .ok (.getfield 26, 3) := by decide +kernel
theorem dX3_takeIntoTables_93 : decode cX3_takeIntoTables 93 = .ok (.aload_n 0, 1) := by decide +kernel
theorem dX3_takeIntoTables_94 : decode cX3_takeIntoTables 94 = .ok (.getfield 10, 3) := by decide +kernel
theorem dX3_takeIntoTables_97 : decode cX3_takeIntoTables 97 = .ok (.iload_n 1, 1) := by decide +kernel
theorem dX3_takeIntoTables_98 : decode cX3_takeIntoTables 98 = .ok (.iconst 3, 1) := by decide +kernel
theorem dX3_takeIntoTables_99 : decode cX3_takeIntoTables 99 = .ok (.invokevirtual 168, 3) := by decide +kernel
theorem dX3_takeIntoTables_102 : decode cX3_takeIntoTables 102 = .ok (.iload_n 1, 1) := by decide +kernel
theorem dX3_takeIntoTables_103 : decode cX3_takeIntoTables 103 = .ok (.invokevirtual 185, 3) := by decide +kernel
theorem dX3_takeIntoTables_106 : decode cX3_takeIntoTables 106 = .ok (.goto 88, 3) := by decide +kernel
theorem dX3_takeIntoTables_109 : decode cX3_takeIntoTables 109 = .ok (.aload_n 0, 1) := by decide +kernel
theorem dX3_takeIntoTables_110 : decode cX3_takeIntoTables 110 = .ok (.getfield 26, 3) := by decide +kernel
theorem dX3_takeIntoTables_113 : decode cX3_takeIntoTables 113 = .ok (.iload_n 3, 1) := by decide +kernel
theorem dX3_takeIntoTables_114 : decode cX3_takeIntoTables 114 = .ok (.aload_n 0, 1) := by decide +kernel
theorem dX3_takeIntoTables_115 : decode cX3_takeIntoTables 115 = .ok (.getfield 10, 3) := by decide +kernel
theorem dX3_takeIntoTables_118 : decode cX3_takeIntoTables 118 = .ok (.iload_n 1, 1) := by decide +kernel
theorem dX3_takeIntoTables_119 : decode cX3_takeIntoTables 119 = .ok (.bipush 6, 2) := by decide +kernel
theorem dX3_takeIntoTables_121 : decode cX3_takeIntoTables 121 = .ok (.invokevirtual 168, 3) := by decide +kernel
theorem dX3_takeIntoTables_124 : decode cX3_takeIntoTables 124 = .ok (.invokevirtual 182, 3) := by decide +kernel
theorem dX3_takeIntoTables_127 : decode cX3_takeIntoTables 127 = .ok (.aload_n 0, 1) := by decide +kernel
theorem dX3_takeIntoTables_128 : decode cX3_takeIntoTables 128 = .ok (.getfield 26, 3) := by decide +kernel
theorem dX3_takeIntoTables_131 : decode cX3_takeIntoTables 131 = .ok (.aload_n 0, 1) := by decide +kernel
theorem dX3_takeIntoTables_132 : decode cX3_takeIntoTables 132 = .ok (.getfield 10, 3) := by decide +kernel
theorem dX3_takeIntoTables_135 : decode cX3_takeIntoTables 135 = .ok (.iload_n 1, 1) := by decide +kernel
theorem dX3_takeIntoTables_136 : decode cX3_takeIntoTables 136 = .ok (.iconst 3, 1) := by decide +kernel
theorem dX3_takeIntoTables_137 : decode cX3_takeIntoTables 137 = .ok (.invokevirtual 168, 3) := by decide +kernel
theorem dX3_takeIntoTables_140 : decode cX3_takeIntoTables 140 = .ok (.iload_n 1, 1) := by decide +kernel
theorem dX3_takeIntoTables_141 : decode cX3_takeIntoTables 141 = .ok (.invokevirtual 185, 3) := by decide +kernel
theorem dX3_takeIntoTables_144 : decode cX3_takeIntoTables 144 = .ok (.goto 50, 3) := by decide +kernel
theorem dX3_takeIntoTables_147 : decode cX3_takeIntoTables 147 = .ok (.aload_n 0, 1) := by decide +kernel
theorem dX3_takeIntoTables_148 : decode cX3_takeIntoTables 148 = .ok (.getfield 26, 3) := by decide +kernel
theorem dX3_takeIntoTables_151 : decode cX3_takeIntoTables 151 = .ok (.iload_n 3, 1) := by decide +kernel
theorem dX3_takeIntoTables_152 : decode cX3_takeIntoTables 152 = .ok (.iconst 4, 1) := by decide +kernel
theorem dX3_takeIntoTables_153 : decode cX3_takeIntoTables 153 = .ok (.invokevirtual 188, 3) := by decide +kernel
theorem dX3_takeIntoTables_156 : decode cX3_takeIntoTables 156 = .ok (.goto 38, 3) := by decide +kernel
theorem dX3_takeIntoTables_159 : decode cX3_takeIntoTables 159 = .ok (.aload_n 0, 1) := by decide +kernel
theorem dX3_takeIntoTables_160 : decode cX3_takeIntoTables 160 = .ok (.getfield 26, 3) := by decide +kernel
theorem dX3_takeIntoTables_163 : decode cX3_takeIntoTables 163 = .ok (.iload_n 3, 1) := by decide +kernel
theorem dX3_takeIntoTables_164 : decode cX3_takeIntoTables 164 = .ok (.iconst 2, 1) := by decide +kernel
theorem dX3_takeIntoTables_165 : decode cX3_takeIntoTables 165 = .ok (.invokevirtual 188, 3) := by decide +kernel
theorem dX3_takeIntoTables_168 : decode cX3_takeIntoTables 168 = .ok (.goto 26, 3) := by decide +kernel
theorem dX3_takeIntoTables_171 : decode cX3_takeIntoTables 171 = .ok (.aload_n 0, 1) := by decide +kernel
theorem dX3_takeIntoTables_172 : decode cX3_takeIntoTables 172 = .ok (.getfield 26, 3) := by decide +kernel
theorem dX3_takeIntoTables_175 : decode cX3_takeIntoTables 175 = .ok (.iload_n 3, 1) := by decide +kernel
theorem dX3_takeIntoTables_176 : decode cX3_takeIntoTables 176 = .ok (.iconst 3, 1) := by decide +kernel
theorem dX3_takeIntoTables_177 : decode cX3_takeIntoTables 177 = .ok (.invokevirtual 188, 3) := by decide +kernel
theorem dX3_takeIntoTables_180 : decode cX3_takeIntoTables 180 = .ok (.goto 14, 3) := by decide +kernel
theorem dX3_takeIntoTables_183 : decode cX3_takeIntoTables 183 = .ok (.aload_n 0, 1) := by decide +kernel
theorem dX3_takeIntoTables_184 : decode cX3_takeIntoTables 184 = .ok (.getfield 26, 3) := by decide +kernel
theorem dX3_takeIntoTables_187 : decode cX3_takeIntoTables 187 = .ok (.iload_n 3, 1) := by decide +kernel
theorem dX3_takeIntoTables_188 : decode cX3_takeIntoTables 188 = .ok (.invokevirtual 191, 3) := by decide +kernel
theorem dX3_takeIntoTables_191 : decode cX3_takeIntoTables 191 = .ok (.goto 3, 3) := by decide +kernel
theorem dX3_takeIntoTables_194 : decode cX3_takeIntoTables 194 = .ok (.return_, 1) := by decide +kernel
set_option maxRecDepth 20000 in
theorem ggX3_carryOut_X0_read : GoodIn wsX3_carryOut wsX0_read := goodIn_r _ [7, 8, 9, 10, 11, 6, 12, 13, 37, 38, 39, 40] (by decide +kernel) (by decide +kernel)
set_option maxRecDepth 20000 in
theorem gX3_carryOut_X0_read : GoodIn wsX3_carryOut (wsV RX3 168 RX0 yX0_read wsX0_read) := goodIn_app (goodIn_of _ (by decide +kernel)) ggX3_carryOut_X0_read
set_option maxRecDepth 20000 in
theorem ggX3_carryOut_X1_change : GoodIn wsX3_carryOut wsX1_change := goodIn_r _ [18, 19, 20, 21, 22, 17, 23, 41, 42, 43, 44] (by decide +kernel) (by decide +kernel)
set_option maxRecDepth 20000 in
theorem gX3_carryOut_X1_change : GoodIn wsX3_carryOut (wsV RX3 194 RX1 yX1_change wsX1_change) := goodIn_app (goodIn_of _ (by decide +kernel)) ggX3_carryOut_X1_change
theorem dX3_carryOut_0 : decode cX3_carryOut 0 = .ok (.aload_n 0, 1) := by decide +kernel
theorem dX3_carryOut_1 : decode cX3_carryOut 1 = .ok (.getfield 19, 3) := by decide +kernel
theorem dX3_carryOut_4 : decode cX3_carryOut 4 = .ok (.aload_n 0, 1) := by decide +kernel
theorem dX3_carryOut_5 : decode cX3_carryOut 5 = .ok (.getfield 10, 3) := by decide +kernel
theorem dX3_carryOut_8 : decode cX3_carryOut 8 = .ok (.iload_n 1, 1) := by decide +kernel
theorem dX3_carryOut_9 : decode cX3_carryOut 9 = .ok (.iconst 3, 1) := by decide +kernel
theorem dX3_carryOut_10 : decode cX3_carryOut 10 = .ok (.invokevirtual 168, 3) := by decide +kernel
theorem dX3_carryOut_13 : decode cX3_carryOut 13 = .ok (.aload_n 0, 1) := by decide +kernel
theorem dX3_carryOut_14 : decode cX3_carryOut 14 = .ok (.getfield 10, 3) := by decide +kernel
theorem dX3_carryOut_17 : decode cX3_carryOut 17 = .ok (.iload_n 1, 1) := by decide +kernel
theorem dX3_carryOut_18 : decode cX3_carryOut 18 = .ok (.iconst 4, 1) := by decide +kernel
theorem dX3_carryOut_19 : decode cX3_carryOut 19 = .ok (.invokevirtual 168, 3) := by decide +kernel
theorem dX3_carryOut_22 : decode cX3_carryOut 22 = .ok (.aload_n 0, 1) := by decide +kernel
theorem dX3_carryOut_23 : decode cX3_carryOut 23 = .ok (.getfield 10, 3) := by decide +kernel
theorem dX3_carryOut_26 : decode cX3_carryOut 26 = .ok (.iload_n 1, 1) := by decide +kernel
theorem dX3_carryOut_27 : decode cX3_carryOut 27 = .ok (.iconst 5, 1) := by decide +kernel
theorem dX3_carryOut_28 : decode cX3_carryOut 28 = .ok (.invokevirtual 168, 3) := by decide +kernel
theorem dX3_carryOut_31 : decode cX3_carryOut 31 = .ok (.iload_n 1, 1) := by decide +kernel
theorem dX3_carryOut_32 : decode cX3_carryOut 32 = .ok (.invokevirtual 194, 3) := by decide +kernel
theorem dX3_carryOut_35 : decode cX3_carryOut 35 = .ok (.return_, 1) := by decide +kernel
set_option maxRecDepth 20000 in
theorem ggX3_makeStep_X3_lookThrough : GoodIn wsX3_makeStep wsX3_lookThrough := goodIn_r _ [8, 9, 10, 3, 11, 12, 13, 14, 15, 16, 17, 18, 19, 20, 21, 22, 23, 24, 25, 26, 27, 28, 29, 30, 31, 32, 33, 34, 35, 36, 37, 38, 39, 40, 41, 42, 43, 44, 45, 46, 47, 48, 49, 50, 51, 52, 53, 54, 55, 56, 57, 58, 59, 60, 61, 62, 63, 64, 65, 66, 67, 68, 69, 70, 71, 72, 73, 74, 75, 76, 7, 77, 78, 79, 80, 81, 82, 83, 84, 85, 86, 190, 191, 192, 193, 194, 195, 196, 197, 198, 199, 200, 201, 202, 203, 204, 205, 206, 207, 208, 209, 210, 211, 212] (by decide +kernel) (by decide +kernel)
set_option maxRecDepth 20000 in
theorem gX3_makeStep_X3_lookThrough : GoodIn wsX3_makeStep (wsV RX3 198 RX3 yX3_lookThrough wsX3_lookThrough) := goodIn_app (goodIn_of _ (by decide +kernel)) ggX3_makeStep_X3_lookThrough
set_option maxRecDepth 20000 in
theorem ggX3_makeStep_X3_doAgainOrPassOver : GoodIn wsX3_makeStep wsX3_doAgainOrPassOver := goodIn_r _ [90, 10, 3, 91, 92, 93, 94, 95, 96, 15, 97, 98, 13, 14, 16, 17, 18, 19, 20, 21, 22, 12, 99, 100, 101, 26, 102, 33, 70, 71, 72, 73, 103, 104, 105, 106, 107, 108, 109, 110, 111, 7, 112, 113, 114, 115, 116, 117, 118, 119, 120, 190, 191, 192, 193, 194, 195, 196, 197, 198, 199, 200, 201, 202, 203, 204, 205, 206, 207, 208, 209, 210, 211, 212, 213, 214, 215, 216] (by decide +kernel) (by decide +kernel)
set_option maxRecDepth 20000 in
theorem gX3_makeStep_X3_doAgainOrPassOver : GoodIn wsX3_makeStep (wsV RX3 201 RX3 yX3_doAgainOrPassOver wsX3_doAgainOrPassOver) := goodIn_app (goodIn_of _ (by decide +kernel)) ggX3_makeStep_X3_doAgainOrPassOver
set_option maxRecDepth 20000 in
theorem ggX3_makeStep_X2_leastWorkIn : GoodIn wsX3_makeStep wsX2_leastWorkIn := goodIn_r _ [124, 28, 30, 29, 207, 208, 209, 210, 211, 212] (by decide +kernel) (by decide +kernel)
set_option maxRecDepth 20000 in
theorem gX3_makeStep_X2_leastWorkIn : GoodIn wsX3_makeStep (wsV RX3 204 RX2 yX2_leastWorkIn wsX2_leastWorkIn) := goodIn_app (goodIn_of _ (by decide +kernel)) ggX3_makeStep_X2_leastWorkIn
set_option maxRecDepth 20000 in
theorem ggX3_makeStep_X3_appendOfWork : GoodIn wsX3_makeStep wsX3_appendOfWork := goodIn_r _ [128, 10, 3, 129, 130, 131, 26, 132, 31, 38, 39, 40, 41, 28, 29, 133, 134, 135, 15, 136, 22, 17, 137, 138, 139, 140, 141, 142, 143, 144, 145, 146, 147, 148, 149, 150, 151, 152, 153, 154, 155, 156, 74, 75, 76, 7, 77, 12, 13, 14, 16, 18, 19, 20, 21, 78, 43, 44, 45, 30, 32, 46, 47, 48, 49, 50, 51, 52, 53, 79, 59, 60, 61, 80, 63, 64, 65, 81, 67, 68, 69, 33, 70, 71, 72, 73, 82, 55, 56, 57, 83, 84, 85, 86, 190, 191, 192, 193, 194, 195, 196, 197, 198, 199, 200, 201, 202, 207, 208, 209, 210, 211, 212, 203, 204, 205, 206] (by decide +kernel) (by decide +kernel)
set_option maxRecDepth 20000 in
theorem gX3_makeStep_X3_appendOfWork : GoodIn wsX3_makeStep (wsV RX3 101 RX3 yX3_appendOfWork wsX3_appendOfWork) := goodIn_app (goodIn_of _ (by decide +kernel)) ggX3_makeStep_X3_appendOfWork
set_option maxRecDepth 20000 in
theorem ggX3_makeStep_X2_workToUndo : GoodIn wsX3_makeStep wsX2_workToUndo := goodIn_r _ [160, 28, 30, 32, 29, 207, 208, 209, 210, 211, 212] (by decide +kernel) (by decide +kernel)
set_option maxRecDepth 20000 in
theorem gX3_makeStep_X2_workToUndo : GoodIn wsX3_makeStep (wsV RX3 207 RX2 yX2_workToUndo wsX2_workToUndo) := goodIn_app (goodIn_of _ (by decide +kernel)) ggX3_makeStep_X2_workToUndo
set_option maxRecDepth 20000 in
theorem ggX3_makeStep_X3_undoOrEnd : GoodIn wsX3_makeStep wsX3_undoOrEnd := goodIn_r _ [164, 3, 165, 166, 167, 168, 26, 169, 32, 38, 39, 40, 41, 28, 29, 170, 171, 172, 7, 173, 10, 129, 130, 131, 132, 31, 12, 13, 14, 15, 16, 17, 18, 19, 20, 21, 22, 174, 175, 176, 177, 98, 133, 134, 135, 136, 137, 138, 139, 140, 141, 142, 143, 144, 145, 146, 147, 148, 149, 150, 151, 152, 153, 154, 155, 156, 74, 75, 76, 77, 78, 43, 44, 45, 30, 46, 47, 48, 49, 50, 51, 52, 53, 79, 59, 60, 61, 80, 63, 64, 65, 81, 67, 68, 69, 33, 70, 71, 72, 73, 82, 55, 56, 57, 83, 84, 85, 86, 109, 110, 111, 112, 91, 113, 114, 115, 116, 117, 107, 118, 119, 120, 125, 126, 127, 128, 190, 191, 192, 193, 194, 195, 196, 197, 198, 199, 200, 201, 202, 207, 208, 209, 210, 211, 212, 203, 204, 205, 206, 213, 214, 215, 216] (by decide +kernel) (by decide +kernel)
set_option maxRecDepth 20000 in
theorem gX3_makeStep_X3_undoOrEnd : GoodIn wsX3_makeStep (wsV RX3 210 RX3 yX3_undoOrEnd wsX3_undoOrEnd) := goodIn_app (goodIn_of _ (by decide +kernel)) ggX3_makeStep_X3_undoOrEnd
set_option maxRecDepth 20000 in
theorem ggX3_makeStep_X3_passOverPartsWithoutSteps : GoodIn wsX3_makeStep wsX3_passOverPartsWithoutSteps := goodIn_r _ [181, 1, 2, 10, 3, 182, 183, 184, 15, 185, 22, 186, 187, 188, 26, 189, 33, 121, 122, 123, 124, 28, 30, 29, 157, 158, 159, 160, 32, 190, 191, 192, 193, 194, 195, 196, 197, 198, 199, 200, 201, 202, 203, 204, 205, 206, 207, 208, 209, 210, 211, 212] (by decide +kernel) (by decide +kernel)
set_option maxRecDepth 20000 in
theorem gX3_makeStep_X3_passOverPartsWithoutSteps : GoodIn wsX3_makeStep (wsV RX3 144 RX3 yX3_passOverPartsWithoutSteps wsX3_passOverPartsWithoutSteps) := goodIn_app (goodIn_of _ (by decide +kernel)) ggX3_makeStep_X3_passOverPartsWithoutSteps
theorem dX3_makeStep_0 : decode cX3_makeStep 0 = .ok (.aload_n 0, 1) := by decide +kernel
theorem dX3_makeStep_1 : decode cX3_makeStep 1 = .ok (.getfield 43, 3) := by decide +kernel
theorem dX3_makeStep_4 : decode cX3_makeStep 4 = .ok (.tableswitch 105 1 4 #[32, 53, 74, 91], 32) := by decide +kernel
theorem dX3_makeStep_36 : decode cX3_makeStep 36 = .ok (.aload_n 0, 1) := by decide +kernel
theorem dX3_makeStep_37 : decode cX3_makeStep 37 = .ok (.aload_n 0, 1) := by decide +kernel
theorem dX3_makeStep_38 : decode cX3_makeStep 38 = .ok (.getfield 46, 3) := by decide +kernel
theorem dX3_makeStep_41 : decode cX3_makeStep 41 = .ok (.invokevirtual 198, 3) := by decide +kernel
theorem dX3_makeStep_44 : decode cX3_makeStep 44 = .ok (.aload_n 0, 1) := by decide +kernel
theorem dX3_makeStep_45 : decode cX3_makeStep 45 = .ok (.dup, 1) := by decide +kernel
theorem dX3_makeStep_46 : decode cX3_makeStep 46 = .ok (.getfield 46, 3) := by decide +kernel
theorem dX3_makeStep_49 : decode cX3_makeStep 49 = .ok (.iconst 1, 1) := by decide +kernel
theorem dX3_makeStep_50 : decode cX3_makeStep 50 = .ok (.iadd, 1) := by decide +kernel
theorem dX3_makeStep_51 : decode cX3_makeStep 51 = .ok (.putfield 46, 3) := by decide +kernel
theorem dX3_makeStep_54 : decode cX3_makeStep 54 = .ok (.goto 55, 3) := by decide +kernel
theorem dX3_makeStep_57 : decode cX3_makeStep 57 = .ok (.aload_n 0, 1) := by decide +kernel
theorem dX3_makeStep_58 : decode cX3_makeStep 58 = .ok (.aload_n 0, 1) := by decide +kernel
theorem dX3_makeStep_59 : decode cX3_makeStep 59 = .ok (.getfield 46, 3) := by decide +kernel
theorem dX3_makeStep_62 : decode cX3_makeStep 62 = .ok (.invokevirtual 201, 3) := by decide +kernel
theorem dX3_makeStep_65 : decode cX3_makeStep 65 = .ok (.aload_n 0, 1) := by decide +kernel
theorem dX3_makeStep_66 : decode cX3_makeStep 66 = .ok (.dup, 1) := by decide +kernel
theorem dX3_makeStep_67 : decode cX3_makeStep 67 = .ok (.getfield 46, 3) := by decide +kernel
theorem dX3_makeStep_70 : decode cX3_makeStep 70 = .ok (.iconst 1, 1) := by decide +kernel
theorem dX3_makeStep_71 : decode cX3_makeStep 71 = .ok (.iadd, 1) := by decide +kernel
theorem dX3_makeStep_72 : decode cX3_makeStep 72 = .ok (.putfield 46, 3) := by decide +kernel
theorem dX3_makeStep_75 : decode cX3_makeStep 75 = .ok (.goto 34, 3) := by decide +kernel
theorem dX3_makeStep_78 : decode cX3_makeStep 78 = .ok (.aload_n 0, 1) := by decide +kernel
theorem dX3_makeStep_79 : decode cX3_makeStep 79 = .ok (.iconst 5, 1) := by decide +kernel
theorem dX3_makeStep_80 : decode cX3_makeStep 80 = .ok (.aload_n 0, 1) := by decide +kernel
theorem dX3_makeStep_81 : decode cX3_makeStep 81 = .ok (.getfield 26, 3) := by decide +kernel
theorem dX3_makeStep_84 : decode cX3_makeStep 84 = .ok (.iconst 4, 1) := by decide +kernel
theorem dX3_makeStep_85 : decode cX3_makeStep 85 = .ok (.invokevirtual 204, 3) := by decide +kernel
theorem dX3_makeStep_88 : decode cX3_makeStep 88 = .ok (.invokevirtual 101, 3) := by decide +kernel
theorem dX3_makeStep_91 : decode cX3_makeStep 91 = .ok (.pop, 1) := by decide +kernel
theorem dX3_makeStep_92 : decode cX3_makeStep 92 = .ok (.goto 17, 3) := by decide +kernel
theorem dX3_makeStep_95 : decode cX3_makeStep 95 = .ok (.aload_n 0, 1) := by decide +kernel
theorem dX3_makeStep_96 : decode cX3_makeStep 96 = .ok (.aload_n 0, 1) := by decide +kernel
theorem dX3_makeStep_97 : decode cX3_makeStep 97 = .ok (.getfield 26, 3) := by decide +kernel
theorem dX3_makeStep_100 : decode cX3_makeStep 100 = .ok (.invokevirtual 207, 3) := by decide +kernel
theorem dX3_makeStep_103 : decode cX3_makeStep 103 = .ok (.invokevirtual 210, 3) := by decide +kernel
theorem dX3_makeStep_106 : decode cX3_makeStep 106 = .ok (.goto 3, 3) := by decide +kernel
theorem dX3_makeStep_109 : decode cX3_makeStep 109 = .ok (.aload_n 0, 1) := by decide +kernel
theorem dX3_makeStep_110 : decode cX3_makeStep 110 = .ok (.invokevirtual 144, 3) := by decide +kernel
theorem dX3_makeStep_113 : decode cX3_makeStep 113 = .ok (.return_, 1) := by decide +kernel
set_option maxRecDepth 20000 in
theorem ggX3_passOverPartsWithoutSteps_X0_recordsHeld : GoodIn wsX3_passOverPartsWithoutSteps wsX0_recordsHeld := goodIn_r _ [9, 10, 42, 43, 44, 45] (by decide +kernel) (by decide +kernel)
set_option maxRecDepth 20000 in
theorem gX3_passOverPartsWithoutSteps_X0_recordsHeld : GoodIn wsX3_passOverPartsWithoutSteps (wsV RX3 147 RX0 yX0_recordsHeld wsX0_recordsHeld) := goodIn_app (goodIn_of _ (by decide +kernel)) ggX3_passOverPartsWithoutSteps_X0_recordsHeld
set_option maxRecDepth 20000 in
theorem ggX3_passOverPartsWithoutSteps_X2_leastBase : GoodIn wsX3_passOverPartsWithoutSteps wsX2_leastBase := goodIn_r _ [15, 16, 46, 47, 48, 49, 50, 51] (by decide +kernel) (by decide +kernel)
set_option maxRecDepth 20000 in
theorem gX3_passOverPartsWithoutSteps_X2_leastBase : GoodIn wsX3_passOverPartsWithoutSteps (wsV RX3 213 RX2 yX2_leastBase wsX2_leastBase) := goodIn_app (goodIn_of _ (by decide +kernel)) ggX3_passOverPartsWithoutSteps_X2_leastBase
set_option maxRecDepth 20000 in
theorem ggX3_passOverPartsWithoutSteps_X2_leastWorkIn : GoodIn wsX3_passOverPartsWithoutSteps wsX2_leastWorkIn := goodIn_r _ [20, 21, 22, 23, 46, 47, 48, 49, 50, 51] (by decide +kernel) (by decide +kernel)
set_option maxRecDepth 20000 in
theorem gX3_passOverPartsWithoutSteps_X2_leastWorkIn : GoodIn wsX3_passOverPartsWithoutSteps (wsV RX3 204 RX2 yX2_leastWorkIn wsX2_leastWorkIn) := goodIn_app (goodIn_of _ (by decide +kernel)) ggX3_passOverPartsWithoutSteps_X2_leastWorkIn
set_option maxRecDepth 20000 in
theorem ggX3_passOverPartsWithoutSteps_X2_workToUndo : GoodIn wsX3_passOverPartsWithoutSteps wsX2_workToUndo := goodIn_r _ [27, 21, 22, 28, 23, 46, 47, 48, 49, 50, 51] (by decide +kernel) (by decide +kernel)
set_option maxRecDepth 20000 in
theorem gX3_passOverPartsWithoutSteps_X2_workToUndo : GoodIn wsX3_passOverPartsWithoutSteps (wsV RX3 207 RX2 yX2_workToUndo wsX2_workToUndo) := goodIn_app (goodIn_of _ (by decide +kernel)) ggX3_passOverPartsWithoutSteps_X2_workToUndo
theorem dX3_passOverPartsWithoutSteps_0 : decode cX3_passOverPartsWithoutSteps 0 = .ok (.aload_n 0, 1) := by decide +kernel
theorem dX3_passOverPartsWithoutSteps_1 : decode cX3_passOverPartsWithoutSteps 1 = .ok (.getfield 43, 3) := by decide +kernel
theorem dX3_passOverPartsWithoutSteps_4 : decode cX3_passOverPartsWithoutSteps 4 = .ok (.iconst 1, 1) := by decide +kernel
theorem dX3_passOverPartsWithoutSteps_5 : decode cX3_passOverPartsWithoutSteps 5 = .ok (.if_icmp .ne 51, 3) := by decide +kernel
theorem dX3_passOverPartsWithoutSteps_8 : decode cX3_passOverPartsWithoutSteps 8 = .ok (.aload_n 0, 1) := by decide +kernel
theorem dX3_passOverPartsWithoutSteps_9 : decode cX3_passOverPartsWithoutSteps 9 = .ok (.getfield 46, 3) := by decide +kernel
theorem dX3_passOverPartsWithoutSteps_12 : decode cX3_passOverPartsWithoutSteps 12 = .ok (.aload_n 0, 1) := by decide +kernel
theorem dX3_passOverPartsWithoutSteps_13 : decode cX3_passOverPartsWithoutSteps 13 = .ok (.getfield 10, 3) := by decide +kernel
theorem dX3_passOverPartsWithoutSteps_16 : decode cX3_passOverPartsWithoutSteps 16 = .ok (.invokevirtual 147, 3) := by decide +kernel
theorem dX3_passOverPartsWithoutSteps_19 : decode cX3_passOverPartsWithoutSteps 19 = .ok (.if_icmp .le 37, 3) := by decide +kernel
theorem dX3_passOverPartsWithoutSteps_22 : decode cX3_passOverPartsWithoutSteps 22 = .ok (.aload_n 0, 1) := by decide +kernel
theorem dX3_passOverPartsWithoutSteps_23 : decode cX3_passOverPartsWithoutSteps 23 = .ok (.iconst 2, 1) := by decide +kernel
theorem dX3_passOverPartsWithoutSteps_24 : decode cX3_passOverPartsWithoutSteps 24 = .ok (.putfield 43, 3) := by decide +kernel
theorem dX3_passOverPartsWithoutSteps_27 : decode cX3_passOverPartsWithoutSteps 27 = .ok (.aload_n 0, 1) := by decide +kernel
theorem dX3_passOverPartsWithoutSteps_28 : decode cX3_passOverPartsWithoutSteps 28 = .ok (.getfield 26, 3) := by decide +kernel
theorem dX3_passOverPartsWithoutSteps_31 : decode cX3_passOverPartsWithoutSteps 31 = .ok (.invokevirtual 213, 3) := by decide +kernel
theorem dX3_passOverPartsWithoutSteps_34 : decode cX3_passOverPartsWithoutSteps 34 = .ok (.istore_n 1, 1) := by decide +kernel
theorem dX3_passOverPartsWithoutSteps_35 : decode cX3_passOverPartsWithoutSteps 35 = .ok (.aload_n 0, 1) := by decide +kernel
theorem dX3_passOverPartsWithoutSteps_36 : decode cX3_passOverPartsWithoutSteps 36 = .ok (.iload_n 1, 1) := by decide +kernel
theorem dX3_passOverPartsWithoutSteps_37 : decode cX3_passOverPartsWithoutSteps 37 = .ok (.ifCond .ne 15, 3) := by decide +kernel
theorem dX3_passOverPartsWithoutSteps_40 : decode cX3_passOverPartsWithoutSteps 40 = .ok (.aload_n 0, 1) := by decide +kernel
theorem dX3_passOverPartsWithoutSteps_41 : decode cX3_passOverPartsWithoutSteps 41 = .ok (.getfield 10, 3) := by decide +kernel
theorem dX3_passOverPartsWithoutSteps_44 : decode cX3_passOverPartsWithoutSteps 44 = .ok (.invokevirtual 147, 3) := by decide +kernel
theorem dX3_passOverPartsWithoutSteps_47 : decode cX3_passOverPartsWithoutSteps 47 = .ok (.iconst 1, 1) := by decide +kernel
theorem dX3_passOverPartsWithoutSteps_48 : decode cX3_passOverPartsWithoutSteps 48 = .ok (.iadd, 1) := by decide +kernel
theorem dX3_passOverPartsWithoutSteps_49 : decode cX3_passOverPartsWithoutSteps 49 = .ok (.goto 4, 3) := by decide +kernel
theorem dX3_passOverPartsWithoutSteps_52 : decode cX3_passOverPartsWithoutSteps 52 = .ok (.iload_n 1, 1) := by decide +kernel
theorem dX3_passOverPartsWithoutSteps_53 : decode cX3_passOverPartsWithoutSteps 53 = .ok (.putfield 46, 3) := by decide +kernel
theorem dX3_passOverPartsWithoutSteps_56 : decode cX3_passOverPartsWithoutSteps 56 = .ok (.aload_n 0, 1) := by decide +kernel
theorem dX3_passOverPartsWithoutSteps_57 : decode cX3_passOverPartsWithoutSteps 57 = .ok (.getfield 43, 3) := by decide +kernel
theorem dX3_passOverPartsWithoutSteps_60 : decode cX3_passOverPartsWithoutSteps 60 = .ok (.iconst 2, 1) := by decide +kernel
theorem dX3_passOverPartsWithoutSteps_61 : decode cX3_passOverPartsWithoutSteps 61 = .ok (.if_icmp .ne 22, 3) := by decide +kernel
theorem dX3_passOverPartsWithoutSteps_64 : decode cX3_passOverPartsWithoutSteps 64 = .ok (.aload_n 0, 1) := by decide +kernel
theorem dX3_passOverPartsWithoutSteps_65 : decode cX3_passOverPartsWithoutSteps 65 = .ok (.getfield 46, 3) := by decide +kernel
theorem dX3_passOverPartsWithoutSteps_68 : decode cX3_passOverPartsWithoutSteps 68 = .ok (.aload_n 0, 1) := by decide +kernel
theorem dX3_passOverPartsWithoutSteps_69 : decode cX3_passOverPartsWithoutSteps 69 = .ok (.getfield 10, 3) := by decide +kernel
theorem dX3_passOverPartsWithoutSteps_72 : decode cX3_passOverPartsWithoutSteps 72 = .ok (.invokevirtual 147, 3) := by decide +kernel
theorem dX3_passOverPartsWithoutSteps_75 : decode cX3_passOverPartsWithoutSteps 75 = .ok (.if_icmp .le 8, 3) := by decide +kernel
theorem dX3_passOverPartsWithoutSteps_78 : decode cX3_passOverPartsWithoutSteps 78 = .ok (.aload_n 0, 1) := by decide +kernel
theorem dX3_passOverPartsWithoutSteps_79 : decode cX3_passOverPartsWithoutSteps 79 = .ok (.iconst 3, 1) := by decide +kernel
theorem dX3_passOverPartsWithoutSteps_80 : decode cX3_passOverPartsWithoutSteps 80 = .ok (.putfield 43, 3) := by decide +kernel
theorem dX3_passOverPartsWithoutSteps_83 : decode cX3_passOverPartsWithoutSteps 83 = .ok (.aload_n 0, 1) := by decide +kernel
theorem dX3_passOverPartsWithoutSteps_84 : decode cX3_passOverPartsWithoutSteps 84 = .ok (.getfield 43, 3) := by decide +kernel
theorem dX3_passOverPartsWithoutSteps_87 : decode cX3_passOverPartsWithoutSteps 87 = .ok (.iconst 3, 1) := by decide +kernel
theorem dX3_passOverPartsWithoutSteps_88 : decode cX3_passOverPartsWithoutSteps 88 = .ok (.if_icmp .ne 19, 3) := by decide +kernel
theorem dX3_passOverPartsWithoutSteps_91 : decode cX3_passOverPartsWithoutSteps 91 = .ok (.aload_n 0, 1) := by decide +kernel
theorem dX3_passOverPartsWithoutSteps_92 : decode cX3_passOverPartsWithoutSteps 92 = .ok (.getfield 26, 3) := by decide +kernel
theorem dX3_passOverPartsWithoutSteps_95 : decode cX3_passOverPartsWithoutSteps 95 = .ok (.iconst 4, 1) := by decide +kernel
theorem dX3_passOverPartsWithoutSteps_96 : decode cX3_passOverPartsWithoutSteps 96 = .ok (.invokevirtual 204, 3) := by decide +kernel
theorem dX3_passOverPartsWithoutSteps_99 : decode cX3_passOverPartsWithoutSteps 99 = .ok (.ifCond .ne 8, 3) := by decide +kernel
theorem dX3_passOverPartsWithoutSteps_102 : decode cX3_passOverPartsWithoutSteps 102 = .ok (.aload_n 0, 1) := by decide +kernel
theorem dX3_passOverPartsWithoutSteps_103 : decode cX3_passOverPartsWithoutSteps 103 = .ok (.iconst 4, 1) := by decide +kernel
theorem dX3_passOverPartsWithoutSteps_104 : decode cX3_passOverPartsWithoutSteps 104 = .ok (.putfield 43, 3) := by decide +kernel
theorem dX3_passOverPartsWithoutSteps_107 : decode cX3_passOverPartsWithoutSteps 107 = .ok (.aload_n 0, 1) := by decide +kernel
theorem dX3_passOverPartsWithoutSteps_108 : decode cX3_passOverPartsWithoutSteps 108 = .ok (.getfield 43, 3) := by decide +kernel
theorem dX3_passOverPartsWithoutSteps_111 : decode cX3_passOverPartsWithoutSteps 111 = .ok (.iconst 4, 1) := by decide +kernel
theorem dX3_passOverPartsWithoutSteps_112 : decode cX3_passOverPartsWithoutSteps 112 = .ok (.if_icmp .ne 18, 3) := by decide +kernel
theorem dX3_passOverPartsWithoutSteps_115 : decode cX3_passOverPartsWithoutSteps 115 = .ok (.aload_n 0, 1) := by decide +kernel
theorem dX3_passOverPartsWithoutSteps_116 : decode cX3_passOverPartsWithoutSteps 116 = .ok (.getfield 26, 3) := by decide +kernel
theorem dX3_passOverPartsWithoutSteps_119 : decode cX3_passOverPartsWithoutSteps 119 = .ok (.invokevirtual 207, 3) := by decide +kernel
theorem dX3_passOverPartsWithoutSteps_122 : decode cX3_passOverPartsWithoutSteps 122 = .ok (.ifCond .ne 8, 3) := by decide +kernel
theorem dX3_passOverPartsWithoutSteps_125 : decode cX3_passOverPartsWithoutSteps 125 = .ok (.aload_n 0, 1) := by decide +kernel
theorem dX3_passOverPartsWithoutSteps_126 : decode cX3_passOverPartsWithoutSteps 126 = .ok (.iconst 0, 1) := by decide +kernel
theorem dX3_passOverPartsWithoutSteps_127 : decode cX3_passOverPartsWithoutSteps 127 = .ok (.putfield 43, 3) := by decide +kernel
theorem dX3_passOverPartsWithoutSteps_130 : decode cX3_passOverPartsWithoutSteps 130 = .ok (.return_, 1) := by decide +kernel
set_option maxRecDepth 20000 in
theorem ggX3_lookThrough_X0_read : GoodIn wsX3_lookThrough wsX0_read := goodIn_r _ [9, 10, 11, 12, 13, 8, 14, 15, 94, 95, 96, 97] (by decide +kernel) (by decide +kernel)
set_option maxRecDepth 20000 in
theorem gX3_lookThrough_X0_read : GoodIn wsX3_lookThrough (wsV RX3 168 RX0 yX0_read wsX0_read) := goodIn_app (goodIn_of _ (by decide +kernel)) ggX3_lookThrough_X0_read
set_option maxRecDepth 20000 in
theorem ggX3_lookThrough_X2_bringInMissing : GoodIn wsX3_lookThrough wsX2_bringInMissing := goodIn_r _ [20, 21, 22, 23, 24, 25, 26, 27, 28, 29, 19, 30, 31, 32, 33, 34, 35, 36, 37, 38, 39, 40, 41, 42, 43, 44, 45, 46, 47, 48, 49, 50, 51, 52, 53, 54, 55, 56, 57, 58, 59, 60, 61, 62, 63, 64, 65, 66, 98, 99, 100, 101, 102, 103] (by decide +kernel) (by decide +kernel)
set_option maxRecDepth 20000 in
theorem gX3_lookThrough_X2_bringInMissing : GoodIn wsX3_lookThrough (wsV RX3 216 RX2 yX2_bringInMissing wsX2_bringInMissing) := goodIn_app (goodIn_of _ (by decide +kernel)) ggX3_lookThrough_X2_bringInMissing
set_option maxRecDepth 20000 in
theorem ggX3_lookThrough_X3_takeIntoTables : GoodIn wsX3_lookThrough wsX3_takeIntoTables := goodIn_r _ [71, 2, 3, 5, 6, 7, 8, 9, 10, 11, 12, 13, 14, 15, 72, 36, 37, 19, 38, 21, 22, 23, 24, 25, 39, 40, 41, 42, 31, 32, 33, 34, 43, 44, 45, 46, 73, 52, 53, 54, 74, 56, 57, 58, 75, 60, 61, 62, 26, 63, 64, 65, 66, 76, 48, 49, 50, 77, 78, 79, 80, 81, 82, 83, 84, 85, 86, 87, 88, 89, 90, 91, 92, 93, 94, 95, 96, 97, 98, 99, 100, 101, 102, 103] (by decide +kernel) (by decide +kernel)
set_option maxRecDepth 20000 in
theorem gX3_lookThrough_X3_takeIntoTables : GoodIn wsX3_lookThrough (wsV RX3 91 RX3 yX3_takeIntoTables wsX3_takeIntoTables) := goodIn_app (goodIn_of _ (by decide +kernel)) ggX3_lookThrough_X3_takeIntoTables
theorem dX3_lookThrough_0 : decode cX3_lookThrough 0 = .ok (.aload_n 0, 1) := by decide +kernel
theorem dX3_lookThrough_1 : decode cX3_lookThrough 1 = .ok (.dup, 1) := by decide +kernel
theorem dX3_lookThrough_2 : decode cX3_lookThrough 2 = .ok (.getfield 49, 3) := by decide +kernel
theorem dX3_lookThrough_5 : decode cX3_lookThrough 5 = .ok (.iconst 1, 1) := by decide +kernel
theorem dX3_lookThrough_6 : decode cX3_lookThrough 6 = .ok (.iadd, 1) := by decide +kernel
theorem dX3_lookThrough_7 : decode cX3_lookThrough 7 = .ok (.putfield 49, 3) := by decide +kernel
theorem dX3_lookThrough_10 : decode cX3_lookThrough 10 = .ok (.aload_n 0, 1) := by decide +kernel
theorem dX3_lookThrough_11 : decode cX3_lookThrough 11 = .ok (.getfield 10, 3) := by decide +kernel
theorem dX3_lookThrough_14 : decode cX3_lookThrough 14 = .ok (.iload_n 1, 1) := by decide +kernel
theorem dX3_lookThrough_15 : decode cX3_lookThrough 15 = .ok (.iconst 0, 1) := by decide +kernel
theorem dX3_lookThrough_16 : decode cX3_lookThrough 16 = .ok (.invokevirtual 168, 3) := by decide +kernel
theorem dX3_lookThrough_19 : decode cX3_lookThrough 19 = .ok (.bipush 8, 2) := by decide +kernel
theorem dX3_lookThrough_21 : decode cX3_lookThrough 21 = .ok (.if_icmp .ne 17, 3) := by decide +kernel
theorem dX3_lookThrough_24 : decode cX3_lookThrough 24 = .ok (.aload_n 0, 1) := by decide +kernel
theorem dX3_lookThrough_25 : decode cX3_lookThrough 25 = .ok (.getfield 26, 3) := by decide +kernel
theorem dX3_lookThrough_28 : decode cX3_lookThrough 28 = .ok (.aload_n 0, 1) := by decide +kernel
theorem dX3_lookThrough_29 : decode cX3_lookThrough 29 = .ok (.getfield 30, 3) := by decide +kernel
theorem dX3_lookThrough_32 : decode cX3_lookThrough 32 = .ok (.invokevirtual 216, 3) := by decide +kernel
theorem dX3_lookThrough_35 : decode cX3_lookThrough 35 = .ok (.goto 8, 3) := by decide +kernel
theorem dX3_lookThrough_38 : decode cX3_lookThrough 38 = .ok (.aload_n 0, 1) := by decide +kernel
theorem dX3_lookThrough_39 : decode cX3_lookThrough 39 = .ok (.iload_n 1, 1) := by decide +kernel
theorem dX3_lookThrough_40 : decode cX3_lookThrough 40 = .ok (.invokevirtual 91, 3) := by decide +kernel
theorem dX3_lookThrough_43 : decode cX3_lookThrough 43 = .ok (.return_, 1) := by decide +kernel
set_option maxRecDepth 20000 in
theorem ggX3_doAgainOrPassOver_X0_changesPage : GoodIn wsX3_doAgainOrPassOver wsX0_changesPage := goodIn_r _ [10, 11, 12, 13, 9, 14, 15, 16, 17, 18, 19, 20, 64, 65, 66, 67] (by decide +kernel) (by decide +kernel)
set_option maxRecDepth 20000 in
theorem gX3_doAgainOrPassOver_X0_changesPage : GoodIn wsX3_doAgainOrPassOver (wsV RX3 219 RX0 yX0_changesPage wsX0_changesPage) := goodIn_app (goodIn_of _ (by decide +kernel)) ggX3_doAgainOrPassOver_X0_changesPage
set_option maxRecDepth 20000 in
theorem ggX3_doAgainOrPassOver_X0_read : GoodIn wsX3_doAgainOrPassOver wsX0_read := goodIn_r _ [14, 15, 16, 17, 18, 9, 19, 20, 64, 65, 66, 67] (by decide +kernel) (by decide +kernel)
set_option maxRecDepth 20000 in
theorem gX3_doAgainOrPassOver_X0_read : GoodIn wsX3_doAgainOrPassOver (wsV RX3 168 RX0 yX0_read wsX0_read) := goodIn_app (goodIn_of _ (by decide +kernel)) ggX3_doAgainOrPassOver_X0_read
set_option maxRecDepth 20000 in
theorem ggX3_doAgainOrPassOver_X2_baseOf : GoodIn wsX3_doAgainOrPassOver wsX2_baseOf := goodIn_r _ [26, 27, 28, 29, 30, 31, 68, 69, 70, 71, 72, 73] (by decide +kernel) (by decide +kernel)
set_option maxRecDepth 20000 in
theorem gX3_doAgainOrPassOver_X2_baseOf : GoodIn wsX3_doAgainOrPassOver (wsV RX3 111 RX2 yX2_baseOf wsX2_baseOf) := goodIn_app (goodIn_of _ (by decide +kernel)) ggX3_doAgainOrPassOver_X2_baseOf
set_option maxRecDepth 20000 in
theorem ggX3_doAgainOrPassOver_X1_markOf : GoodIn wsX3_doAgainOrPassOver wsX1_markOf := goodIn_r _ [35, 36, 37, 29, 30, 31, 74, 75, 76, 77] (by decide +kernel) (by decide +kernel)
set_option maxRecDepth 20000 in
theorem gX3_doAgainOrPassOver_X1_markOf : GoodIn wsX3_doAgainOrPassOver (wsV RX3 114 RX1 yX1_markOf wsX1_markOf) := goodIn_app (goodIn_of _ (by decide +kernel)) ggX3_doAgainOrPassOver_X1_markOf
set_option maxRecDepth 20000 in
theorem ggX3_doAgainOrPassOver_X3_carryOut : GoodIn wsX3_doAgainOrPassOver wsX3_carryOut := goodIn_r _ [42, 3, 1, 21, 12, 13, 9, 14, 15, 16, 17, 18, 19, 20, 43, 44, 45, 30, 46, 47, 36, 48, 49, 50, 51, 52, 53, 54, 55, 56, 57, 58, 59, 60, 61, 62, 63, 64, 65, 66, 67, 74, 75, 76, 77] (by decide +kernel) (by decide +kernel)
set_option maxRecDepth 20000 in
theorem gX3_doAgainOrPassOver_X3_carryOut : GoodIn wsX3_doAgainOrPassOver (wsV RX3 94 RX3 yX3_carryOut wsX3_carryOut) := goodIn_app (goodIn_of _ (by decide +kernel)) ggX3_doAgainOrPassOver_X3_carryOut
theorem dX3_doAgainOrPassOver_0 : decode cX3_doAgainOrPassOver 0 = .ok (.aload_n 0, 1) := by decide +kernel
theorem dX3_doAgainOrPassOver_1 : decode cX3_doAgainOrPassOver 1 = .ok (.getfield 10, 3) := by decide +kernel
theorem dX3_doAgainOrPassOver_4 : decode cX3_doAgainOrPassOver 4 = .ok (.iload_n 1, 1) := by decide +kernel
theorem dX3_doAgainOrPassOver_5 : decode cX3_doAgainOrPassOver 5 = .ok (.invokevirtual 219, 3) := by decide +kernel
theorem dX3_doAgainOrPassOver_8 : decode cX3_doAgainOrPassOver 8 = .ok (.ifCond .ne 4, 3) := by decide +kernel
theorem dX3_doAgainOrPassOver_11 : decode cX3_doAgainOrPassOver 11 = .ok (.return_, 1) := by decide +kernel
theorem dX3_doAgainOrPassOver_12 : decode cX3_doAgainOrPassOver 12 = .ok (.aload_n 0, 1) := by decide +kernel
theorem dX3_doAgainOrPassOver_13 : decode cX3_doAgainOrPassOver 13 = .ok (.getfield 10, 3) := by decide +kernel
theorem dX3_doAgainOrPassOver_16 : decode cX3_doAgainOrPassOver 16 = .ok (.iload_n 1, 1) := by decide +kernel
theorem dX3_doAgainOrPassOver_17 : decode cX3_doAgainOrPassOver 17 = .ok (.iconst 3, 1) := by decide +kernel
theorem dX3_doAgainOrPassOver_18 : decode cX3_doAgainOrPassOver 18 = .ok (.invokevirtual 168, 3) := by decide +kernel
theorem dX3_doAgainOrPassOver_21 : decode cX3_doAgainOrPassOver 21 = .ok (.istore_n 2, 1) := by decide +kernel
theorem dX3_doAgainOrPassOver_22 : decode cX3_doAgainOrPassOver 22 = .ok (.aload_n 0, 1) := by decide +kernel
theorem dX3_doAgainOrPassOver_23 : decode cX3_doAgainOrPassOver 23 = .ok (.getfield 26, 3) := by decide +kernel
theorem dX3_doAgainOrPassOver_26 : decode cX3_doAgainOrPassOver 26 = .ok (.iload_n 2, 1) := by decide +kernel
theorem dX3_doAgainOrPassOver_27 : decode cX3_doAgainOrPassOver 27 = .ok (.invokevirtual 111, 3) := by decide +kernel
theorem dX3_doAgainOrPassOver_30 : decode cX3_doAgainOrPassOver 30 = .ok (.istore_n 3, 1) := by decide +kernel
theorem dX3_doAgainOrPassOver_31 : decode cX3_doAgainOrPassOver 31 = .ok (.iload_n 3, 1) := by decide +kernel
theorem dX3_doAgainOrPassOver_32 : decode cX3_doAgainOrPassOver 32 = .ok (.ifCond .eq 38, 3) := by decide +kernel
theorem dX3_doAgainOrPassOver_35 : decode cX3_doAgainOrPassOver 35 = .ok (.iload_n 3, 1) := by decide +kernel
theorem dX3_doAgainOrPassOver_36 : decode cX3_doAgainOrPassOver 36 = .ok (.iload_n 1, 1) := by decide +kernel
theorem dX3_doAgainOrPassOver_37 : decode cX3_doAgainOrPassOver 37 = .ok (.if_icmp .gt 33, 3) := by decide +kernel
theorem dX3_doAgainOrPassOver_40 : decode cX3_doAgainOrPassOver 40 = .ok (.aload_n 0, 1) := by decide +kernel
theorem dX3_doAgainOrPassOver_41 : decode cX3_doAgainOrPassOver 41 = .ok (.getfield 19, 3) := by decide +kernel
theorem dX3_doAgainOrPassOver_44 : decode cX3_doAgainOrPassOver 44 = .ok (.iload_n 2, 1) := by decide +kernel
theorem dX3_doAgainOrPassOver_45 : decode cX3_doAgainOrPassOver 45 = .ok (.invokevirtual 114, 3) := by decide +kernel
theorem dX3_doAgainOrPassOver_48 : decode cX3_doAgainOrPassOver 48 = .ok (.iload_n 1, 1) := by decide +kernel
theorem dX3_doAgainOrPassOver_49 : decode cX3_doAgainOrPassOver 49 = .ok (.if_icmp .ge 21, 3) := by decide +kernel
theorem dX3_doAgainOrPassOver_52 : decode cX3_doAgainOrPassOver 52 = .ok (.aload_n 0, 1) := by decide +kernel
theorem dX3_doAgainOrPassOver_53 : decode cX3_doAgainOrPassOver 53 = .ok (.iload_n 1, 1) := by decide +kernel
theorem dX3_doAgainOrPassOver_54 : decode cX3_doAgainOrPassOver 54 = .ok (.invokevirtual 94, 3) := by decide +kernel
theorem dX3_doAgainOrPassOver_57 : decode cX3_doAgainOrPassOver 57 = .ok (.aload_n 0, 1) := by decide +kernel
theorem dX3_doAgainOrPassOver_58 : decode cX3_doAgainOrPassOver 58 = .ok (.dup, 1) := by decide +kernel
theorem dX3_doAgainOrPassOver_59 : decode cX3_doAgainOrPassOver 59 = .ok (.getfield 52, 3) := by decide +kernel
theorem dX3_doAgainOrPassOver_62 : decode cX3_doAgainOrPassOver 62 = .ok (.iconst 1, 1) := by decide +kernel
theorem dX3_doAgainOrPassOver_63 : decode cX3_doAgainOrPassOver 63 = .ok (.iadd, 1) := by decide +kernel
theorem dX3_doAgainOrPassOver_64 : decode cX3_doAgainOrPassOver 64 = .ok (.putfield 52, 3) := by decide +kernel
theorem dX3_doAgainOrPassOver_67 : decode cX3_doAgainOrPassOver 67 = .ok (.goto 13, 3) := by decide +kernel
theorem dX3_doAgainOrPassOver_70 : decode cX3_doAgainOrPassOver 70 = .ok (.aload_n 0, 1) := by decide +kernel
theorem dX3_doAgainOrPassOver_71 : decode cX3_doAgainOrPassOver 71 = .ok (.dup, 1) := by decide +kernel
theorem dX3_doAgainOrPassOver_72 : decode cX3_doAgainOrPassOver 72 = .ok (.getfield 55, 3) := by decide +kernel
theorem dX3_doAgainOrPassOver_75 : decode cX3_doAgainOrPassOver 75 = .ok (.iconst 1, 1) := by decide +kernel
theorem dX3_doAgainOrPassOver_76 : decode cX3_doAgainOrPassOver 76 = .ok (.iadd, 1) := by decide +kernel
theorem dX3_doAgainOrPassOver_77 : decode cX3_doAgainOrPassOver 77 = .ok (.putfield 55, 3) := by decide +kernel
theorem dX3_doAgainOrPassOver_80 : decode cX3_doAgainOrPassOver 80 = .ok (.return_, 1) := by decide +kernel
set_option maxRecDepth 20000 in
theorem ggX3_undoOrEnd_X2_nextOf : GoodIn wsX3_undoOrEnd wsX2_nextOf := goodIn_r _ [7, 8, 9, 10, 11, 6, 12, 13, 14, 139, 140, 141, 142, 143, 144] (by decide +kernel) (by decide +kernel)
set_option maxRecDepth 20000 in
theorem gX3_undoOrEnd_X2_nextOf : GoodIn wsX3_undoOrEnd (wsV RX3 162 RX2 yX2_nextOf wsX2_nextOf) := goodIn_app (goodIn_of _ (by decide +kernel)) ggX3_undoOrEnd_X2_nextOf
set_option maxRecDepth 20000 in
theorem ggX3_undoOrEnd_X3_undoNext : GoodIn wsX3_undoOrEnd wsX3_undoNext := goodIn_r _ [19, 1, 20, 3, 4, 5, 6, 7, 8, 9, 10, 11, 12, 13, 14, 21, 22, 23, 24, 25, 26, 27, 28, 29, 30, 31, 32, 33, 34, 35, 36, 37, 38, 39, 40, 41, 42, 43, 44, 45, 46, 47, 48, 49, 50, 51, 52, 53, 54, 55, 56, 57, 58, 59, 60, 61, 62, 63, 64, 65, 66, 67, 68, 18, 69, 70, 71, 72, 73, 74, 75, 76, 77, 78, 79, 80, 81, 82, 83, 84, 85, 86, 87, 88, 89, 90, 91, 92, 93, 94, 95, 96, 97, 98, 99, 100, 101, 102, 103, 104, 105, 106, 107, 108, 109, 110, 111, 112, 113, 114, 115, 116, 117, 118, 119, 120, 121, 126, 127, 128, 129, 130, 131, 132, 133, 134, 135, 136, 137, 138, 139, 140, 141, 142, 143, 144, 145, 146, 147, 148, 149, 150, 151, 152] (by decide +kernel) (by decide +kernel)
set_option maxRecDepth 20000 in
theorem gX3_undoOrEnd_X3_undoNext : GoodIn wsX3_undoOrEnd (wsV RX3 172 RX3 yX3_undoNext wsX3_undoNext) := goodIn_app (goodIn_of _ (by decide +kernel)) ggX3_undoOrEnd_X3_undoNext
set_option maxRecDepth 20000 in
theorem ggX3_undoOrEnd_X3_appendOfWork : GoodIn wsX3_undoOrEnd wsX3_appendOfWork := goodIn_r _ [125, 20, 1, 21, 22, 23, 6, 24, 25, 9, 10, 11, 12, 13, 14, 42, 43, 44, 29, 45, 36, 31, 46, 47, 48, 49, 50, 51, 52, 53, 54, 55, 56, 57, 58, 59, 60, 61, 62, 63, 64, 65, 66, 67, 68, 18, 69, 26, 27, 28, 30, 32, 33, 34, 35, 70, 71, 72, 73, 74, 8, 75, 76, 77, 78, 79, 80, 81, 82, 83, 84, 85, 86, 87, 88, 89, 90, 91, 92, 93, 94, 95, 96, 97, 98, 99, 100, 101, 102, 103, 104, 105, 106, 107, 126, 127, 128, 129, 130, 131, 132, 133, 134, 135, 136, 137, 138, 139, 140, 141, 142, 143, 144, 145, 146, 147, 148] (by decide +kernel) (by decide +kernel)
set_option maxRecDepth 20000 in
theorem gX3_undoOrEnd_X3_appendOfWork : GoodIn wsX3_undoOrEnd (wsV RX3 101 RX3 yX3_appendOfWork wsX3_appendOfWork) := goodIn_app (goodIn_of _ (by decide +kernel)) ggX3_undoOrEnd_X3_appendOfWork
theorem dX3_undoOrEnd_0 : decode cX3_undoOrEnd 0 = .ok (.aload_n 0, 1) := by decide +kernel
theorem dX3_undoOrEnd_1 : decode cX3_undoOrEnd 1 = .ok (.getfield 26, 3) := by decide +kernel
theorem dX3_undoOrEnd_4 : decode cX3_undoOrEnd 4 = .ok (.iload_n 1, 1) := by decide +kernel
theorem dX3_undoOrEnd_5 : decode cX3_undoOrEnd 5 = .ok (.invokevirtual 162, 3) := by decide +kernel
theorem dX3_undoOrEnd_8 : decode cX3_undoOrEnd 8 = .ok (.ifCond .le 21, 3) := by decide +kernel
theorem dX3_undoOrEnd_11 : decode cX3_undoOrEnd 11 = .ok (.aload_n 0, 1) := by decide +kernel
theorem dX3_undoOrEnd_12 : decode cX3_undoOrEnd 12 = .ok (.iload_n 1, 1) := by decide +kernel
theorem dX3_undoOrEnd_13 : decode cX3_undoOrEnd 13 = .ok (.invokevirtual 172, 3) := by decide +kernel
theorem dX3_undoOrEnd_16 : decode cX3_undoOrEnd 16 = .ok (.aload_n 0, 1) := by decide +kernel
theorem dX3_undoOrEnd_17 : decode cX3_undoOrEnd 17 = .ok (.dup, 1) := by decide +kernel
theorem dX3_undoOrEnd_18 : decode cX3_undoOrEnd 18 = .ok (.getfield 58, 3) := by decide +kernel
theorem dX3_undoOrEnd_21 : decode cX3_undoOrEnd 21 = .ok (.iconst 1, 1) := by decide +kernel
theorem dX3_undoOrEnd_22 : decode cX3_undoOrEnd 22 = .ok (.iadd, 1) := by decide +kernel
theorem dX3_undoOrEnd_23 : decode cX3_undoOrEnd 23 = .ok (.putfield 58, 3) := by decide +kernel
theorem dX3_undoOrEnd_26 : decode cX3_undoOrEnd 26 = .ok (.goto 10, 3) := by decide +kernel
theorem dX3_undoOrEnd_29 : decode cX3_undoOrEnd 29 = .ok (.aload_n 0, 1) := by decide +kernel
theorem dX3_undoOrEnd_30 : decode cX3_undoOrEnd 30 = .ok (.iconst 5, 1) := by decide +kernel
theorem dX3_undoOrEnd_31 : decode cX3_undoOrEnd 31 = .ok (.iload_n 1, 1) := by decide +kernel
theorem dX3_undoOrEnd_32 : decode cX3_undoOrEnd 32 = .ok (.invokevirtual 101, 3) := by decide +kernel
theorem dX3_undoOrEnd_35 : decode cX3_undoOrEnd 35 = .ok (.pop, 1) := by decide +kernel
theorem dX3_undoOrEnd_36 : decode cX3_undoOrEnd 36 = .ok (.return_, 1) := by decide +kernel
end
section
theorem dJ9_max_7cf53_0 : decode cJ9_max_7cf53 0 = .ok (.iload_n 0, 1) := by decide +kernel
theorem dJ9_max_7cf53_1 : decode cJ9_max_7cf53 1 = .ok (.iload_n 1, 1) := by decide +kernel
theorem dJ9_max_7cf53_2 : decode cJ9_max_7cf53 2 = .ok (.if_icmp .lt 7, 3) := by decide +kernel
theorem dJ9_max_7cf53_5 : decode cJ9_max_7cf53 5 = .ok (.iload_n 0, 1) := by decide +kernel
theorem dJ9_max_7cf53_6 : decode cJ9_max_7cf53 6 = .ok (.goto 4, 3) := by decide +kernel
theorem dJ9_max_7cf53_9 : decode cJ9_max_7cf53 9 = .ok (.iload_n 1, 1) := by decide +kernel
theorem dJ9_max_7cf53_10 : decode cJ9_max_7cf53 10 = .ok (.ireturn, 1) := by decide +kernel
theorem dJ9_min_7cf53_0 : decode cJ9_min_7cf53 0 = .ok (.iload_n 0, 1) := by decide +kernel
theorem dJ9_min_7cf53_1 : decode cJ9_min_7cf53 1 = .ok (.iload_n 1, 1) := by decide +kernel
theorem dJ9_min_7cf53_2 : decode cJ9_min_7cf53 2 = .ok (.if_icmp .gt 7, 3) := by decide +kernel
theorem dJ9_min_7cf53_5 : decode cJ9_min_7cf53 5 = .ok (.iload_n 0, 1) := by decide +kernel
theorem dJ9_min_7cf53_6 : decode cJ9_min_7cf53 6 = .ok (.goto 4, 3) := by decide +kernel
theorem dJ9_min_7cf53_9 : decode cJ9_min_7cf53 9 = .ok (.iload_n 1, 1) := by decide +kernel
theorem dJ9_min_7cf53_10 : decode cJ9_min_7cf53 10 = .ok (.ireturn, 1) := by decide +kernel
theorem dJ7_fill_53178_0 : decode cJ7_fill_53178 0 = .ok (.iconst 0, 1) := by decide +kernel
theorem dJ7_fill_53178_1 : decode cJ7_fill_53178 1 = .ok (.istore_n 2, 1) := by decide +kernel
theorem dJ7_fill_53178_2 : decode cJ7_fill_53178 2 = .ok (.aload_n 0, 1) := by decide +kernel
theorem dJ7_fill_53178_3 : decode cJ7_fill_53178 3 = .ok (.arraylength, 1) := by decide +kernel
theorem dJ7_fill_53178_4 : decode cJ7_fill_53178 4 = .ok (.istore_n 3, 1) := by decide +kernel
theorem dJ7_fill_53178_5 : decode cJ7_fill_53178 5 = .ok (.iload_n 2, 1) := by decide +kernel
theorem dJ7_fill_53178_6 : decode cJ7_fill_53178 6 = .ok (.iload_n 3, 1) := by decide +kernel
theorem dJ7_fill_53178_7 : decode cJ7_fill_53178 7 = .ok (.if_icmp .ge 13, 3) := by decide +kernel
theorem dJ7_fill_53178_10 : decode cJ7_fill_53178 10 = .ok (.aload_n 0, 1) := by decide +kernel
theorem dJ7_fill_53178_11 : decode cJ7_fill_53178 11 = .ok (.iload_n 2, 1) := by decide +kernel
theorem dJ7_fill_53178_12 : decode cJ7_fill_53178 12 = .ok (.iload_n 1, 1) := by decide +kernel
theorem dJ7_fill_53178_13 : decode cJ7_fill_53178 13 = .ok (.iastore, 1) := by decide +kernel
theorem dJ7_fill_53178_14 : decode cJ7_fill_53178 14 = .ok (.iinc 2 1, 3) := by decide +kernel
theorem dJ7_fill_53178_17 : decode cJ7_fill_53178 17 = .ok (.goto (-12), 3) := by decide +kernel
theorem dJ7_fill_53178_20 : decode cJ7_fill_53178 20 = .ok (.return_, 1) := by decide +kernel
theorem dJ7_copyOf_59c91_0 : decode cJ7_copyOf_59c91 0 = .ok (.iload_n 1, 1) := by decide +kernel
theorem dJ7_copyOf_59c91_1 : decode cJ7_copyOf_59c91 1 = .ok (.aload_n 0, 1) := by decide +kernel
theorem dJ7_copyOf_59c91_2 : decode cJ7_copyOf_59c91 2 = .ok (.arraylength, 1) := by decide +kernel
theorem dJ7_copyOf_59c91_3 : decode cJ7_copyOf_59c91 3 = .ok (.if_icmp .ne 11, 3) := by decide +kernel
theorem dJ7_copyOf_59c91_6 : decode cJ7_copyOf_59c91 6 = .ok (.aload_n 0, 1) := by decide +kernel
theorem dJ7_copyOf_59c91_7 : decode cJ7_copyOf_59c91 7 = .ok (.invokevirtual 316, 3) := by decide +kernel
theorem dJ7_copyOf_59c91_10 : decode cJ7_copyOf_59c91 10 = .ok (.checkcast 317, 3) := by decide +kernel
theorem dJ7_copyOf_59c91_13 : decode cJ7_copyOf_59c91 13 = .ok (.areturn, 1) := by decide +kernel
theorem dJ7_copyOf_59c91_14 : decode cJ7_copyOf_59c91 14 = .ok (.iload_n 1, 1) := by decide +kernel
theorem dJ7_copyOf_59c91_15 : decode cJ7_copyOf_59c91 15 = .ok (.newarray .int, 2) := by decide +kernel
theorem dJ7_copyOf_59c91_17 : decode cJ7_copyOf_59c91 17 = .ok (.astore_n 2, 1) := by decide +kernel
theorem dJ7_copyOf_59c91_18 : decode cJ7_copyOf_59c91 18 = .ok (.aload_n 0, 1) := by decide +kernel
theorem dJ7_copyOf_59c91_19 : decode cJ7_copyOf_59c91 19 = .ok (.iconst 0, 1) := by decide +kernel
theorem dJ7_copyOf_59c91_20 : decode cJ7_copyOf_59c91 20 = .ok (.aload_n 2, 1) := by decide +kernel
theorem dJ7_copyOf_59c91_21 : decode cJ7_copyOf_59c91 21 = .ok (.iconst 0, 1) := by decide +kernel
theorem dJ7_copyOf_59c91_22 : decode cJ7_copyOf_59c91 22 = .ok (.aload_n 0, 1) := by decide +kernel
theorem dJ7_copyOf_59c91_23 : decode cJ7_copyOf_59c91 23 = .ok (.arraylength, 1) := by decide +kernel
theorem dJ7_copyOf_59c91_24 : decode cJ7_copyOf_59c91 24 = .ok (.iload_n 1, 1) := by decide +kernel
theorem dJ7_copyOf_59c91_25 : decode cJ7_copyOf_59c91 25 = .ok (.invokestatic 304, 3) := by decide +kernel
theorem dJ7_copyOf_59c91_28 : decode cJ7_copyOf_59c91 28 = .ok (.invokestatic 150, 3) := by decide +kernel
theorem dJ7_copyOf_59c91_31 : decode cJ7_copyOf_59c91 31 = .ok (.aload_n 2, 1) := by decide +kernel
theorem dJ7_copyOf_59c91_32 : decode cJ7_copyOf_59c91 32 = .ok (.areturn, 1) := by decide +kernel
end
section
/-! My own layer over the kit: one world hypothesis (ww), one contract shape (Kt), one row a call. -/
abbrev kTy (cI : ClassId) : List (ClassId × FieldType) := [(cI, .int)]
/-- the world: the tables know the classes, the heap holds ws, apart, inside A; outside A nothing has changed since H0 -/
def ww (D : va_G) (cI : ClassId) (A : Nat → Prop) (H0 : Heap) (s : State) (ws : va_W) (H : Heap) (locs : List Loc) : Prop :=
  va_K D vwCl (kTy cI) s ∧ va_P D vwCl ws H ∧ va_D A ws ∧ va_S A H0 H locs ∧ ∀ q : Nat, H0.size ≤ q → A q
def kPre (D : va_G) (cI : ClassId) (av : List Value) (w : va_W) (sz : Nat) : Array Value → State → Prop := fun v U =>
  v = av.toArray ∧ U.heap.size = sz ∧ va_P D vwCl w U.heap ∧ va_K D vwCl (kTy cI) U ∧ va_D (fun _ => True) w
def kQ {S : Type} (D : va_G) (cI : ClassId) (w : va_W) (sz : Nat) (post : Option Value → S → Prop) (w' : S → va_W) : Array Value → State → Outcome → State → Prop := fun _ st oc t =>
  (∃ (v : Option Value) (u : S), oc = .returned v ∧ post v u ∧ va_P D vwCl (w' u) t.heap ∧ va_K D vwCl (kTy cI) t ∧ va_D (va_A w sz) (w' u)) ∧ va_F (va_A w sz) st t
/-- a contract: from the world w, with the arguments av, y returns v and leaves the world w' u, where post v u -/
def Kt {S : Type} (l : Launch) (y : MethodName) (ws : List Cond) (fr lo mc ms : Nat) (D : va_G) (cI : ClassId) (av : List Value) (w : va_W) (post : Option Value → S → Prop) (w' : S → va_W) : Prop :=
  ∀ sz : Nat, Met l y ws { frames := fr, cells := mc, slots := ms, locals := lo } (kPre D cI av w sz) (kQ D cI w sz post w') mc ms (va_A w sz)
/-- the ends: an int (or a boolean), nothing -/
def pI {S : Type} (post : Int32 → S → Prop) : Option Value → S → Prop := fun v u => ∃ r : Int32, v = some (.int r) ∧ post r u
def pV {S : Type} (post : S → Prop) : Option Value → S → Prop := fun v u => v = none ∧ post u
theorem kPre_blind (D : va_G) (cI : ClassId) (av : List Value) (w : va_W) (sz : Nat) : FrameBlind (kPre D cI av w sz) := fun a U g mk q => by
  obtain ⟨q0, q1, qP, qK, qD⟩ := q
  exact ⟨q0, q1, qP, va_K.moved (u := U) (U := U.calling g mk a) (Vm.Alike.refl U.vm) qK, qD⟩
theorem kt_start {S : Type} {l : Launch} {y : MethodName} {ws ws' : List Cond} {fr lo mc ms : Nat} {D : va_G} {cI : ClassId} {av : List Value} {w : va_W} {post : Option Value → S → Prop} {w' : S → va_W} {cc : ByteArray} {maxL : Nat} {ret : Option FieldType}
    (hy : plainName y.cls = true) (hw : ws = Cond.code y cc maxL ret :: ws') (hlen : (lg_sl av).length ≤ maxL)
    (body : ∀ (p : Program) (e : Env) (s : State) (m : MethodId) (below : List Frame) (meth : Method) (c : Code), p.tables.exec = Jvm.exec → c.code = cc → c.maxLocals = maxL → meth.sig.returnType = ret → meth.locks = false → s.vm.findClass y.cls = some m.cls → meth.name = y.name → (∀ q ∈ ws, q.before av.toArray s = true) →
      ∀ ls : Array Slot, lv_has ls maxL (lv_args 0 av) → ww D cI (va_A w s.heap.size) s.heap s w s.heap [] →
      W p l e { frames := fr, cells := mc, slots := ms, locals := lo } s m av.toArray below meth c s.heap [] 0 0 (MQ below (kQ D cI w s.heap.size post w') av.toArray s mc ms (va_A w s.heap.size)) (F0 m 0 ls [])) :
    Kt l y ws fr lo mc ms D cI av w post w' := by
  intro sz
  refine Met.ofW (cc := cc) (maxL := maxL) (ret := ret) hy hw ?_
  intro p e s m args below meth c s₁ B hml hv
  obtain ⟨rfl, rfl, hP, hK, hD0⟩ := hv
  rw [lg_entry_eq]
  exact body p e s m below meth c B.exec B.bytes hml B.returns B.notSynchronized (findClass_of_methodNamed B.named) (name_of_methodNamed B.named B.method).1 (atoms_spec (ws := ws) B.pre) _ (lv_entry av hlen) ⟨hK, hP, hD0.self, va_S.rf, fun _ h => Or.inr h⟩
section KR
variable {p : Program} {l : Launch} {e : Env} {R : Room} {s : State} {m : MethodId} {args : Array Value} {below : List Frame} {meth : Method} {c : Code} {H : Heap} {locs : List Loc} {cells slots : Nat} {Q : State → Prop}
variable {D : va_G} {cI : ClassId} {A : Nat → Prop} {H0 : Heap} {ws : va_W} {pc : Nat} {ls : Array Slot} {rest : List Value} {cc : ByteArray} {a : Nat}
/-- a world, cut out of another -/
theorem ww_cut {pre wc po : va_W} (hP : va_P D vwCl (pre ++ (wc ++ po)) H) : va_P D vwCl wc H := fun k q hk => hP (pre.length + k) q (by
  rw [List.getElem?_append_right (by omega), Nat.add_sub_cancel_left]
  rw [List.getElem?_append_left (List.getElem?_eq_some_iff.mp hk).1]; exact hk)
theorem ww_cutD {pre wc po : va_W} (hD : va_D A (pre ++ (wc ++ po))) : va_D A wc := by
  have key : ∀ (k : Nat) (q : Nat × va_E), wc[k]? = some q → (pre ++ (wc ++ po))[pre.length + k]? = some q := fun k q hk => by
    rw [List.getElem?_append_right (by omega), Nat.add_sub_cancel_left]
    rw [List.getElem?_append_left (List.getElem?_eq_some_iff.mp hk).1]; exact hk
  exact ⟨fun i j x y hi hj hxy => by have := hD.1 _ _ x y (key i x hi) (key j y hj) hxy; omega, fun k q hk => hD.2 _ q (key k q hk)⟩
theorem mem_idx {α : Type} {l : List α} {x : α} (h : x ∈ l) : ∃ k : Nat, l[k]? = some x := List.getElem?_of_mem h
/-- behind a call: the rest is as it was, the callee's world is its new one -/
theorem ww_glue {pre wc po w1 : va_W} {H1 : Heap} {sz : Nat} (hsz : H.size = sz) (hP : va_P D vwCl (pre ++ (wc ++ po)) H) (hD : va_D A (pre ++ (wc ++ po))) (hk : ∀ q : Nat, q < H.size → ¬ va_A wc sz q → H1[q]? = H[q]?) (hF : ∀ q : Nat, va_A wc sz q → A q) (hP1 : va_P D vwCl w1 H1) (hD1 : va_D (va_A wc sz) w1) : va_P D vwCl (pre ++ (w1 ++ po)) H1 ∧ va_D A (pre ++ (w1 ++ po)) := by
  subst hsz
  have inPre : ∀ (k : Nat) (q : Nat × va_E), pre[k]? = some q → (pre ++ (wc ++ po))[k]? = some q := fun k q hq => by
    rw [List.getElem?_append_left (List.getElem?_eq_some_iff.mp hq).1]; exact hq
  have inWc : ∀ (k : Nat) (q : Nat × va_E), wc[k]? = some q → (pre ++ (wc ++ po))[pre.length + k]? = some q := fun k q hk => by
    rw [List.getElem?_append_right (by omega), Nat.add_sub_cancel_left]
    rw [List.getElem?_append_left (List.getElem?_eq_some_iff.mp hk).1]; exact hk
  have inPo : ∀ (k : Nat) (q : Nat × va_E), po[k]? = some q → (pre ++ (wc ++ po))[pre.length + (wc.length + k)]? = some q := fun k q hk => by
    rw [List.getElem?_append_right (by omega), Nat.add_sub_cancel_left, List.getElem?_append_right (by omega), Nat.add_sub_cancel_left]; exact hk
  have apartPre : ∀ (k : Nat) (q : Nat × va_E), pre[k]? = some q → ¬ va_A wc H.size q.1 := by
    intro k q hq hA
    have hl := (hP _ q (inPre k q hq)).lt
    rcases hA with ⟨k2, e2, h2⟩ | h2
    · have := hD.1 _ _ q (q.1, e2) (inPre k q hq) (inWc k2 _ h2) rfl
      have := (List.getElem?_eq_some_iff.mp hq).1
      omega
    · omega
  have apartPo : ∀ (k : Nat) (q : Nat × va_E), po[k]? = some q → ¬ va_A wc H.size q.1 := by
    intro k q hq hA
    have hl := (hP _ q (inPo k q hq)).lt
    rcases hA with ⟨k2, e2, h2⟩ | h2
    · have := hD.1 _ _ q (q.1, e2) (inPo k q hq) (inWc k2 _ h2) rfl
      have := (List.getElem?_eq_some_iff.mp h2).1
      omega
    · omega
  have pPre : va_P D vwCl pre H1 := fun k q hq => (hP _ q (inPre k q hq)).kept (hk q.1 ((hP _ q (inPre k q hq)).lt) (apartPre k q hq))
  have pPo : va_P D vwCl po H1 := fun k q hq => (hP _ q (inPo k q hq)).kept (hk q.1 ((hP _ q (inPo k q hq)).lt) (apartPo k q hq))
  have dPre : va_D A pre := ⟨fun i j x y hi hj h => hD.1 i j x y (inPre i x hi) (inPre j y hj) h, fun k q hq => hD.2 _ q (inPre k q hq)⟩
  have dPo : va_D A po := ⟨fun i j x y hi hj h => by have := hD.1 _ _ x y (inPo i x hi) (inPo j y hj) h; omega, fun k q hq => hD.2 _ q (inPo k q hq)⟩
  refine ⟨va_P.app pPre (va_P.app hP1 pPo), va_D.app dPre (va_D.app (hD1.weaken (fun _ q _ h => hF q.1 h)) dPo (fun i j x y hx hy hxy => ?_)) (fun i j x y hx hy hxy => ?_)⟩
  · exact apartPo j y hy (by rw [← hxy]; exact hD1.2 i x hx)
  · by_cases hl : j < w1.length
    · rw [List.getElem?_append_left hl] at hy
      exact apartPre i x hx (by rw [hxy]; exact hD1.2 j y hy)
    · rw [List.getElem?_append_right (by omega)] at hy
      have := hD.1 _ _ x y (inPre i x hx) (inPo _ y hy) hxy
      have := (List.getElem?_eq_some_iff.mp hx).1
      omega
/-- a call, by any row that gives va_Run -/
theorem ww_call {S : Type} {mc ms : Nat} {post : Option Value → S → Prop} {w' : S → va_W} {pre wc po : va_W} {st0 : List Value} {av : Array Value}
    (hr : va_Run p l e R s m args below meth c H locs cells slots mc ms (F0 m pc ls st0) rest (kQ D cI wc H.size post w' av) (va_A wc H.size))
    (hw : ww D cI A H0 s ws H locs) (he : ws = pre ++ (wc ++ po))
    (kk : ∀ (v : Option Value) (u : S) (H1 : Heap) (locs1 : List Loc), post v u → ww D cI A H0 s (pre ++ (w' u ++ po)) H1 locs1 → W p l e R s m args below meth c H1 locs1 (cells + mc) (slots + ms) Q (F0 m (pc + 3) ls (v.toList ++ rest))) :
    W p l e R s m args below meth c H locs cells slots Q (F0 m pc ls st0) := by
  subst he
  obtain ⟨hK, hP, hD, hS, hA⟩ := hw
  have hF : ∀ q : Nat, va_A wc H.size q → A q := by
    intro q h
    rcases h with ⟨k, e2, h⟩ | h
    · exact (ww_cutD hD).2 k (q, e2) h
    · exact hA q (Nat.le_trans hS.1 h)
  intro T hT X
  obtain ⟨v, st₀, t, T', L, h0, X', hL, e1, e2, ⟨⟨v', u, hv, hp, hP1, hK1, hD1⟩, hz, hk⟩, st⟩ := hr T hT X
  have hv : v = v' := Outcome.returned.inj hv
  subst hv
  rw [h0] at hz hk
  have hvm : s.vm.Alike t.vm := by rw [← e2]; exact X'.warmed.alike
  obtain ⟨gP, gD⟩ := ww_glue rfl hP hD (H1 := t.heap) hk hF hP1 hD1
  have hS1 : va_S A H0 t.heap (locs ++ L) := ⟨Nat.le_trans hS.1 hz, fun q h1 h2 => by
    rw [hk q (Nat.lt_of_lt_of_le h1 hS.1) (fun h => h2 (hF q h))]
    exact hS.2.1 q h1 h2, fun x hx => (List.mem_append.mp hx).elim (hS.2.2 x) (fun h => hF _ (hL x h))⟩
  obtain ⟨t2, g1, g2⟩ := kk v u t.heap (locs ++ L) hp ⟨hK, gP, gD, hS1, hA⟩ T' e1 X'
  exact ⟨t2, st t2 g1, g2⟩
end KR
end
section
section KS
variable {p : Program} {l : Launch} {e : Env} {R : Room} {s : State} {m : MethodId} {args : Array Value} {below : List Frame} {meth : Method} {c : Code} {H : Heap} {locs : List Loc} {cells slots : Nat} {Q : State → Prop}
variable {D : va_G} {cI : ClassId} {A : Nat → Prop} {H0 : Heap} {ws : va_W} {pc : Nat} {ls : Array Slot} {rest : List Value} {cc : ByteArray} {a : Nat}
theorem ww_get (hx : p.tables.exec = Jvm.exec) (hb : c.code = cc) {own C : String} {T : u_T} {N ci index : Nat} {Ts : List Cond} (hts : ∀ w ∈ Ts, w.before args s = true) (hin : ∀ w ∈ u_ws C T N, w ∈ Ts) (hown : s.vm.findClass own = some m.cls) (hw : ww D cI A H0 s ws H locs) (q0 : Nat) {fs : List Value} (he : ws[q0]? = some (a, .inr (ci, fs))) (hc : vwCl[ci]? = some (C, T, N)) (k : Nat) (hk : k < N) (hlink : (Cond.fieldLink own index (T k).1 (T k).2.1 (T k).2.2.1).before args s = true) {v : Value} (hv : fs[k]? = some v) (hdg : decode cc pc = .ok (.getfield index, 3))
    (kk : W p l e R s m args below meth c H locs cells slots Q (F0 m (pc + 3) ls (v :: rest))) : W p l e R s m args below meth c H locs cells slots Q (F0 m pc ls (.ref a :: rest)) :=
  va_get (D := D) (tys := kTy cI) hx hb hts hin hown hw.1 hw.2.1 q0 he hc k hk hlink (fun _ h => h) hv hdg kk
theorem ww_put (hx : p.tables.exec = Jvm.exec) (hb : c.code = cc) {own C : String} {T : u_T} {N ci index : Nat} {Ts : List Cond} (hts : ∀ w ∈ Ts, w.before args s = true) (hin : ∀ w ∈ u_ws C T N, w ∈ Ts) (ty0 : Nat → FieldType) (hty : ∀ k, k < N → parseFieldDescriptor (T k).2.2.1 = some (ty0 k)) (hnm : ∀ a, a < N → ∀ b, b < N → a ≠ b → (T a).2.1 ≠ (T b).2.1) (hown : s.vm.findClass own = some m.cls) (hw : ww D cI A H0 s ws H locs) (q0 : Nat) {fs : List Value} (he : ws[q0]? = some (a, .inr (ci, fs))) (hc : vwCl[ci]? = some (C, T, N)) (k : Nat) (hk : k < N) (hlink : (Cond.fieldLink own index (T k).1 (T k).2.1 (T k).2.2.1).before args s = true) (hfin : (T k).2.2.2 = false) {v : Value} (hn : narrow (ty0 k) v = v) (hfit : fits (ty0 k) v = true) (hl : k < fs.length) {ws' : va_W} (hws : ws.set q0 (a, .inr (ci, fs.set k v)) = ws')
    (hdg : decode cc pc = .ok (.putfield index, 3)) (kk : ∀ (H1 : Heap) (locs1 : List Loc), ww D cI A H0 s ws' H1 locs1 → W p l e R s m args below meth c H1 locs1 cells slots Q (F0 m (pc + 3) ls rest)) : W p l e R s m args below meth c H locs cells slots Q (F0 m pc ls (v :: .ref a :: rest)) := by
  subst hws
  exact va_put (D := D) (tys := kTy cI) hx hb hts hin ty0 hty hnm hown hw.1 hw.2.1 hw.2.2.1 hw.2.2.2.1 q0 he hc k hk hlink (fun _ h => h) hfin (hty k hk) hn hfit hl hdg (fun H1 locs1 h1 h2 h3 => kk H1 locs1 ⟨hw.1, h1, h2, h3, hw.2.2.2.2⟩)
theorem ww_putF (hx : p.tables.exec = Jvm.exec) (hb : c.code = cc) {own C : String} {T : u_T} {N ci index : Nat} {Ts : List Cond} (hts : ∀ w ∈ Ts, w.before args s = true) (hin : ∀ w ∈ u_ws C T N, w ∈ Ts) (ty0 : Nat → FieldType) (hty : ∀ k, k < N → parseFieldDescriptor (T k).2.2.1 = some (ty0 k)) (hnm : ∀ a, a < N → ∀ b, b < N → a ≠ b → (T a).2.1 ≠ (T b).2.1) (hown : s.vm.findClass own = some m.cls) (hw : ww D cI A H0 s ws H locs) (q0 : Nat) {fs : List Value} (he : ws[q0]? = some (a, .inr (ci, fs))) (hc : vwCl[ci]? = some (C, T, N)) (k : Nat) (hk : k < N) (hlink : (Cond.fieldLink own index (T k).1 (T k).2.1 (T k).2.2.1).before args s = true) (hfin : (T k).2.2.2 = true) (hin2 : meth.name = "<init>") (hoc : (T k).1 = own) {v : Value} (hn : narrow (ty0 k) v = v) (hfit : fits (ty0 k) v = true) (hl : k < fs.length) {ws' : va_W} (hws : ws.set q0 (a, .inr (ci, fs.set k v)) = ws')
    (hdg : decode cc pc = .ok (.putfield index, 3)) (kk : ∀ (H1 : Heap) (locs1 : List Loc), ww D cI A H0 s ws' H1 locs1 → W p l e R s m args below meth c H1 locs1 cells slots Q (F0 m (pc + 3) ls rest)) : W p l e R s m args below meth c H locs cells slots Q (F0 m pc ls (v :: .ref a :: rest)) := by
  subst hws
  exact va_putF (D := D) (tys := kTy cI) hx hb hts hin ty0 hty hnm hown hw.1 hw.2.1 hw.2.2.1 hw.2.2.2.1 q0 he hc k hk hlink (fun _ h => h) hfin hin2 hoc (hty k hk) hn hfit hl hdg (fun H1 locs1 h1 h2 h3 => kk H1 locs1 ⟨hw.1, h1, h2, h3, hw.2.2.2.2⟩)
theorem ww_iald (hx : p.tables.exec = Jvm.exec) (hb : c.code = cc) (hw : ww D cI A H0 s ws H locs) (q0 : Nat) {n : Nat} {f : Nat → Int32} (ha : ws[q0]? = some (a, .inl (cI, n, .inl f))) {i : Int32} (j : Nat) (hi : i = nI j) (hj : j < n) (hn : n < 2 ^ 31) (hdg : decode cc pc = .ok (.iaload, 1))
    (kk : W p l e R s m args below meth c H locs cells slots Q (F0 m (pc + 1) ls (.int (f j) :: rest))) : W p l e R s m args below meth c H locs cells slots Q (F0 m pc ls (.int i :: .ref a :: rest)) := by
  subst hi
  refine va_iald (D := D) (tys := kTy cI) hx hb hw.1 hw.2.1 q0 0 ha rfl (vp_in_nI hj hn) hdg ?_
  rw [nI_clamp (Nat.lt_trans hj hn)]
  exact kk
theorem ww_iast (hx : p.tables.exec = Jvm.exec) (hb : c.code = cc) (hw : ww D cI A H0 s ws H locs) (q0 : Nat) {n : Nat} {f : Nat → Int32} (ha : ws[q0]? = some (a, .inl (cI, n, .inl f))) {i x : Int32} (j : Nat) (hi : i = nI j) (hj : j < n) (hn : n < 2 ^ 31) {ws' : va_W} (hws : ws.set q0 (a, .inl (cI, n, .inl (upd f j x))) = ws') (hdg : decode cc pc = .ok (.iastore, 1))
    (kk : ∀ (H1 : Heap) (locs1 : List Loc), ww D cI A H0 s ws' H1 locs1 → W p l e R s m args below meth c H1 locs1 cells slots Q (F0 m (pc + 1) ls rest)) : W p l e R s m args below meth c H locs cells slots Q (F0 m pc ls (.int x :: .int i :: .ref a :: rest)) := by
  subst hi
  subst hws
  refine va_iast (D := D) (tys := kTy cI) hx hb hw.1 hw.2.1 hw.2.2.1 hw.2.2.2.1 q0 0 ha rfl (vp_in_nI hj hn) hdg (fun H1 locs1 h1 h2 h3 => ?_)
  rw [nI_clamp (Nat.lt_trans hj hn)] at h1 h2
  exact kk H1 locs1 ⟨hw.1, h1, h2, h3, hw.2.2.2.2⟩
theorem ww_alen (hx : p.tables.exec = Jvm.exec) (hb : c.code = cc) (hw : ww D cI A H0 s ws H locs) (q0 : Nat) {n : Nat} {f : Nat → Int32} (ha : ws[q0]? = some (a, .inl (cI, n, .inl f))) (hdg : decode cc pc = .ok (.arraylength, 1))
    (kk : W p l e R s m args below meth c H locs cells slots Q (F0 m (pc + 1) ls (.int (nI n) :: rest))) : W p l e R s m args below meth c H locs cells slots Q (F0 m pc ls (.ref a :: rest)) :=
  va_alen (D := D) (tys := kTy cI) hx hb hw.1 hw.2.1 q0 0 ha rfl rfl hdg kk
/-- a new row of ints: its class is the one that the tables know -/
theorem ww_newa (hx : p.tables.exec = Jvm.exec) (hb : c.code = cc) (harr : (Cond.arrayClass .int).before args s = true) (hw : ww D cI A H0 s ws H locs) {n : Int32} {N : Nat} (hn : n = nI N) (hN : N < 2 ^ 27) (hcells : cells + 1 ≤ R.cells) (hslots : slots + N ≤ R.slots) (hdg : decode cc pc = .ok (.newarray .int, 2))
    (kk : ∀ (q : Nat) (H1 : Heap), ww D cI A H0 s (ws ++ [(q, .inl (cI, N, .inl (fun _ => 0)))]) H1 locs → W p l e R s m args below meth c H1 locs (cells + 1) (slots + N) Q (F0 m (pc + 2) ls (.ref q :: rest))) : W p l e R s m args below meth c H locs cells slots Q (F0 m pc ls (.int n :: rest)) := by
  subst hn
  refine va_newa (D := D) (tys := kTy cI) (ty := .int) (a0 := (N, .inl (fun _ => 0))) hx hb (atype := .int) harr rfl hw.1 hw.2.1 hw.2.2.1 hw.2.2.2.1 hw.2.2.2.2 (fun _ => rfl) (nI_pos (by omega)) (nI_clamp (by omega)) (by show N * 4 ≤ 536870912; omega) hcells hslots hdg (fun q cA H1 h0 h1 h2 h3 => ?_)
  have e1 : s.vm.findClass ("[" ++ FieldType.int.toString) = some cI := (hw.1.2 0 _ rfl).2
  have e2 : s.vm.findClass ("[" ++ FieldType.int.toString) = some cA := (h0.2 1 _ rfl).2
  have e3 : cA = cI := Option.some.inj (e2.symm.trans e1)
  subst e3
  exact kk q H1 ⟨hw.1, h1, h2, h3, hw.2.2.2.2⟩
theorem ww_iret {S : Type} {post : Int32 → S → Prop} {w : va_W} {w' : S → va_W} {mc ms sz : Nat} {v : Int32} {u : S} (hx : p.tables.exec = Jvm.exec) (hb : c.code = cc) (hr : meth.sig.returnType = some .int) (hlk : meth.locks = false) (hw : ww D cI (va_A w sz) s.heap s (w' u) H locs) (hp : post v u) (hc : cells ≤ mc) (hs : slots ≤ ms) (hdg : decode cc pc = .ok (.ireturn, 1)) :
    W p l e R s m args below meth c H locs cells slots (MQ below (kQ D cI w sz (pI post) w') args s mc ms (va_A w sz)) (F0 m pc ls [.int v]) :=
  W.widen hc hs (W.iret hx hb hr (fun t ht hW => ⟨⟨some (.int v), u, rfl, ⟨v, rfl, hp⟩, by rw [ht]; exact hw.2.1, va_K.moved hW.alike hw.1, hw.2.2.1⟩, hw.2.2.2.1.F ht⟩) hw.2.2.2.1.2.2 hdg hlk)
theorem ww_zret {S : Type} {post : Int32 → S → Prop} {w : va_W} {w' : S → va_W} {mc ms sz : Nat} {v : Int32} {u : S} (hx : p.tables.exec = Jvm.exec) (hb : c.code = cc) (hr : meth.sig.returnType = some .boolean) (hlk : meth.locks = false) (hv : narrow .boolean (.int v) = .int v) (hw : ww D cI (va_A w sz) s.heap s (w' u) H locs) (hp : post v u) (hc : cells ≤ mc) (hs : slots ≤ ms) (hdg : decode cc pc = .ok (.ireturn, 1)) :
    W p l e R s m args below meth c H locs cells slots (MQ below (kQ D cI w sz (pI post) w') args s mc ms (va_A w sz)) (F0 m pc ls [.int v]) :=
  W.widen hc hs (W.zret hx hb hr hv (fun t ht hW => ⟨⟨some (.int v), u, rfl, ⟨v, rfl, hp⟩, by rw [ht]; exact hw.2.1, va_K.moved hW.alike hw.1, hw.2.2.1⟩, hw.2.2.2.1.F ht⟩) hw.2.2.2.1.2.2 hdg hlk)
theorem ww_vret {S : Type} {post : S → Prop} {w : va_W} {w' : S → va_W} {mc ms sz : Nat} {u : S} {st : List Value} (hx : p.tables.exec = Jvm.exec) (hb : c.code = cc) (hr : meth.sig.returnType = none) (hlk : meth.locks = false) (hw : ww D cI (va_A w sz) s.heap s (w' u) H locs) (hp : post u) (hc : cells ≤ mc) (hs : slots ≤ ms) (hst : st = []) (hdg : decode cc pc = .ok (.return_, 1)) :
    W p l e R s m args below meth c H locs cells slots (MQ below (kQ D cI w sz (pV post) w') args s mc ms (va_A w sz)) (F0 m pc ls st) := by
  subst hst
  exact W.widen hc hs (W.vret hx hb hr (fun t ht hW => ⟨⟨none, u, rfl, ⟨rfl, hp⟩, by rw [ht]; exact hw.2.1, va_K.moved hW.alike hw.1, hw.2.2.1⟩, hw.2.2.2.1.F ht⟩) hw.2.2.2.1.2.2 hdg hlk)
theorem ww_pre {av : List Value} {wc pre po : va_W} (hw : ww D cI A H0 s (pre ++ (wc ++ po)) H locs) : ∀ U : State, U.heap = H → s.WarmedH U.vm → kPre D cI av wc H.size av.toArray U := fun U hU hW =>
  ⟨rfl, by rw [hU], by rw [hU]; exact ww_cut hw.2.1, va_K.moved hW.alike hw.1, (ww_cutD hw.2.2.1).weaken (fun _ _ _ _ => trivial)⟩
/-- a call of an object's method -/
theorem ww_callV {S : Type} {fr lo mc ms : Nat} {post : Option Value → S → Prop} {w' : S → va_W} {wc : va_W} (pre po : va_W) {st0 : List Value} {Ts wsy wsy' : List Cond} {own C : String} {index nL maxL n ci : Nat} {y : MethodName} {bytes : ByteArray} {ret : Option FieldType} {b : Nat} {As : List Value} {fs : List Value} {T : u_T} {N : Nat}
    (F : CallFix p m c cc nL s args Ts own) (hM : Kt l y wsy fr lo mc ms D cI (.ref b :: As) wc post w') (hT : GoodIn Ts (wsV own index C y wsy)) (hcode : wsy = Cond.code y bytes maxL ret :: wsy')
    (hd : y.cls = C ∧ y.cls ≠ "java/lang/invoke/MethodHandle" ∧ y.cls ≠ "java/lang/invoke/VarHandle" ∧ (parseMethodDescriptor y.desc).map (fun d => d.parameters.length) = some n) (hR : fr + 1 ≤ R.frames ∧ 8 + (maxL + 11) + lo ≤ R.locals)
    (hw : ww D cI A H0 s ws H locs) (he : ws = pre ++ (wc ++ po)) (hc : vwCl[ci]? = some (C, T, N)) (h0 : wc[0]? = some (b, .inr (ci, fs))) (hst : st0 = As.reverse ++ .ref b :: rest) (hn : As.length = n) (hsz : ls.size = nL) (hroom : (rest.map fun v => v.category).sum ≤ 8) (hdg : decode cc pc = .ok (.invokevirtual index, 3)) (hf : cells + mc ≤ R.cells ∧ slots + ms ≤ R.slots)
    (kk : ∀ (v : Option Value) (u : S) (H1 : Heap) (locs1 : List Loc), post v u → ww D cI A H0 s (pre ++ (w' u ++ po)) H1 locs1 → W p l e R s m args below meth c H1 locs1 (cells + mc) (slots + ms) Q (F0 m (pc + 3) ls (v.toList ++ rest))) :
    W p l e R s m args below meth c H locs cells slots Q (F0 m pc ls st0) := by
  subst he
  subst hst
  exact ww_call (va_runV F (hM H.size) (cwV n F.2.2.2.2 hT hcode rfl rfl hd hR) ⟨kPre_blind D cI _ _ _, va_recv hw.1 (ww_cut hw.2.1) hc h0, ww_pre hw⟩ rfl hn hsz rfl (lv_room hroom) hdg hf) hw rfl kk
/-- a call of a class's method -/
theorem ww_callS {S : Type} {fr lo mc ms : Nat} {post : Option Value → S → Prop} {w' : S → va_W} {wc : va_W} (pre po : va_W) {st0 : List Value} {Ts wsy wsy' : List Cond} {own : String} {index nL maxL n : Nat} {y : MethodName} {bytes : ByteArray} {ret : Option FieldType} {As : List Value}
    (F : CallFix p m c cc nL s args Ts own) (hM : Kt l y wsy fr lo mc ms D cI As wc post w') (hT : GoodIn Ts (va_wsS own index y wsy)) (hcode : wsy = Cond.code y bytes maxL ret :: wsy')
    (hd : y.cls ≠ "java/lang/invoke/MethodHandle" ∧ y.cls ≠ "java/lang/invoke/VarHandle" ∧ (parseMethodDescriptor y.desc).map (fun d => d.parameters.length) = some n) (hR : fr + 1 ≤ R.frames ∧ 8 + (maxL + 11) + lo ≤ R.locals)
    (hw : ww D cI A H0 s ws H locs) (he : ws = pre ++ (wc ++ po)) (hst : st0 = As.reverse ++ rest) (hn : As.length = n) (hsz : ls.size = nL) (hroom : (rest.map fun v => v.category).sum ≤ 8) (hdg : decode cc pc = .ok (.invokestatic index, 3)) (hf : cells + mc ≤ R.cells ∧ slots + ms ≤ R.slots)
    (kk : ∀ (v : Option Value) (u : S) (H1 : Heap) (locs1 : List Loc), post v u → ww D cI A H0 s (pre ++ (w' u ++ po)) H1 locs1 → W p l e R s m args below meth c H1 locs1 (cells + mc) (slots + ms) Q (F0 m (pc + 3) ls (v.toList ++ rest))) :
    W p l e R s m args below meth c H locs cells slots Q (F0 m pc ls st0) := by
  subst he
  subst hst
  exact ww_call (va_runS F (hM H.size) (va_cwS n F.2.2.2.2 hT hcode rfl rfl hd hR) ⟨kPre_blind D cI _ _ _, ww_pre hw⟩ rfl hn hsz rfl (lv_room hroom) hdg hf) hw rfl kk
/-- a value, said otherwise -/
theorem lv_eqi {x y : Int32} (h : x = y) (k : W p l e R s m args below meth c H locs cells slots Q (F0 m pc ls (.int y :: rest))) : W p l e R s m args below meth c H locs cells slots Q (F0 m pc ls (.int x :: rest)) := by rw [h]; exact k
end KS
end
section
section KT
variable {p : Program} {l : Launch} {e : Env} {R : Room} {s : State} {m : MethodId} {args : Array Value} {below : List Frame} {meth : Method} {c : Code} {H : Heap} {locs : List Loc} {cells slots : Nat} {Q : State → Prop}
variable {D : va_G} {cI : ClassId} {A : Nat → Prop} {H0 : Heap} {ws : va_W} {pc : Nat} {ls : Array Slot} {rest : List Value} {cc : ByteArray} {a : Nat}
theorem ww_copy (hx : p.tables.exec = Jvm.exec) (hb : c.code = cc) (hml : c.maxLocals = ls.size) {own : String} {index : Nat} (hown : s.vm.findClass own = some m.cls) (hlink : (Cond.methodLink own index arraycopyName).before args s = true) (hnat : (Cond.native arraycopyName).before args s = true) (hstat : (Cond.static arraycopyName).before args s = true) (hini : (Cond.initialized "java/lang/System").before args s = true)
    (hw : ww D cI A H0 s ws H locs) (q0 q1 : Nat) {a0 n0 n1 : Nat} {f g : Nat → Int32} (ha0 : ws[q0]? = some (a0, .inl (cI, n0, .inl f))) (ha1 : ws[q1]? = some (a, .inl (cI, n1, .inl g))) (i j k : Nat) {sp dp n : Int32} (h1 : sp = nI i) (h2 : dp = nI j) (h3 : n = nI k) (h4 : i + k ≤ n0) (h5 : j + k ≤ n1) (hn0 : n0 < 2 ^ 31) (hn1 : n1 < 2 ^ 31) {ws' : va_W} (hws : ws.set q1 (a, .inl (cI, n1, .inl (va_cpy f g i j k))) = ws')
    (hframes : 1 ≤ R.frames) (hlocals : (rest.map fun v => v.category).sum + 18 ≤ R.locals) (hdg : decode cc pc = .ok (.invokestatic index, 3))
    (kk : ∀ (H1 : Heap) (locs1 : List Loc), ww D cI A H0 s ws' H1 locs1 → W p l e R s m args below meth c H1 locs1 cells slots Q (F0 m (pc + 3) ls rest)) : W p l e R s m args below meth c H locs cells slots Q (F0 m pc ls (.int n :: .int dp :: .ref a :: .int sp :: .ref a0 :: rest)) := by
  subst h1; subst h2; subst h3; subst hws
  have e1 : (nI i).toNatClampNeg = i := nI_clamp (by omega)
  have e2 : (nI j).toNatClampNeg = j := nI_clamp (by omega)
  have e3 : (nI k).toNatClampNeg = k := nI_clamp (by omega)
  refine va_copyi (D := D) (tys := kTy cI) hx hb hml hown hlink hnat hstat hini hw.1 hw.2.1 hw.2.2.1 hw.2.2.2.1 q0 q1 0 0 ha0 ha1 rfl rfl rfl (nI_pos (by omega)) (nI_pos (by omega)) (nI_pos (by omega)) (by rw [e1, e3]; exact h4) (by rw [e2, e3]; exact h5) (fun _ _ => rfl) hframes hlocals hdg (fun H1 locs1 g1 g2 g3 => ?_)
  rw [e1, e2, e3] at g1 g2
  exact kk H1 locs1 ⟨hw.1, g1, g2, g3, hw.2.2.2.2⟩
theorem ww_aret {S : Type} {post : Option Value → S → Prop} {w : va_W} {w' : S → va_W} {mc ms sz v : Nat} {u : S} (hx : p.tables.exec = Jvm.exec) (hb : c.code = cc) (hr : meth.sig.returnType = some (.array .int)) (hlk : meth.locks = false) (hw : ww D cI (va_A w sz) s.heap s (w' u) H locs) (hp : post (some (.ref v)) u) (hc : cells ≤ mc) (hs : slots ≤ ms) (hdg : decode cc pc = .ok (.areturn, 1)) :
    W p l e R s m args below meth c H locs cells slots (MQ below (kQ D cI w sz post w') args s mc ms (va_A w sz)) (F0 m pc ls [.ref v]) :=
  W.widen hc hs (W.aret hx hb hr (Or.inr ⟨_, rfl⟩) (Or.inr ⟨_, rfl⟩) (fun t ht hW => ⟨⟨some (.ref v), u, rfl, hp, by rw [ht]; exact hw.2.1, va_K.moved hW.alike hw.1, hw.2.2.1⟩, hw.2.2.2.1.F ht⟩) hw.2.2.2.1.2.2 hdg hlk)
theorem ww_sub {ws' : va_W} (hw : ww D cI A H0 s ws H locs) (is : List Nat) (hn : va_nd is = true) (hs : is.map (fun i => ws[i]?) = ws'.map some) : ww D cI A H0 s ws' H locs :=
  ⟨hw.1, fun k q hk => by
    have h1 : (is.map (fun i => ws[i]?))[k]? = some (some q) := by rw [hs, List.getElem?_map, hk]; rfl
    rw [List.getElem?_map] at h1
    cases hi : is[k]? with
    | none => rw [hi] at h1; cases h1
    | some i => rw [hi] at h1; exact hw.2.1 i q (Option.some.inj h1), hw.2.2.1.sub is hn hs, hw.2.2.2.1, hw.2.2.2.2⟩
end KT
theorem i_eq {x y : Int32} : x = y ↔ x.toInt = y.toInt := Int32.toInt_inj.symm
theorem i_lt {x y : Int32} : x < y ↔ x.toInt < y.toInt := Int32.lt_iff_toInt_lt
theorem i_le {x y : Int32} : x ≤ y ↔ x.toInt ≤ y.toInt := Int32.le_iff_toInt_le
theorem z_0 : (0 : Int32).toInt = 0 := by decide
theorem z_m1 : (-1 : Int32).toInt = -1 := by decide
theorem i_nat {x : Int32} (h : 0 ≤ x.toInt) : ∃ j : Nat, j < 2 ^ 31 ∧ x = nI j := nI_of (by rw [i_lt, z_0]; omega)
theorem nI_min {a b : Nat} (ha : a < 2 ^ 31) (hb : b < 2 ^ 31) : (if nI b < nI a then nI b else nI a) = nI (min a b) := by
  by_cases h : b < a
  · rw [if_pos (nI_lt h ha), Nat.min_eq_right (by omega)]
  · rw [if_neg (nI_nlt (by omega) hb), Nat.min_eq_left (by omega)]
theorem nI_max {a b : Nat} (ha : a < 2 ^ 31) (hb : b < 2 ^ 31) : (if nI a < nI b then nI b else nI a) = nI (max a b) := by
  by_cases h : a < b
  · rw [if_pos (nI_lt h hb), Nat.max_eq_right (by omega)]
  · rw [if_neg (nI_nlt (by omega) ha), Nat.max_eq_left (by omega)]
/-- forcing: of any number -/
theorem nI_force {n fo : Nat} (x : Int32) (hn : n < 2 ^ 31) (hf : fo < 2 ^ 31) : (if nI fo < (if nI n < x then nI n else x) then (if nI n < x then nI n else x) else nI fo) = nI (max fo (min x.toNatClampNeg n)) := by
  by_cases h0 : x < 0
  · have h1 : ¬ nI n < x := by simp (disch := omega) only [i_lt, nI_toInt, z_0] at *; omega
    have h2 : ¬ nI fo < x := by simp (disch := omega) only [i_lt, nI_toInt, z_0] at *; omega
    rw [if_neg h1, if_neg h2]
    have h3 : x.toNatClampNeg = 0 := by
      rw [i_lt, z_0] at h0
      show x.toInt.toNat = 0
      omega
    rw [h3, Nat.zero_min, Nat.max_eq_left (Nat.zero_le _)]
  · obtain ⟨j, hj, rfl⟩ := nI_of h0
    rw [nI_min hj hn, nI_max hf (by omega), nI_clamp hj]
theorem upd7 (g : Nat → Int32) (o : Nat) (x0 x1 x2 x3 x4 x5 x6 : Int32) {F : Nat → Int32} (hF : F = upd (upd (upd (upd (upd (upd (upd g (o + 0) x0) (o + 1) x1) (o + 2) x2) (o + 3) x3) (o + 4) x4) (o + 5) x5) (o + 6) x6) :
    (∀ i, i < o → F i = g i) ∧ F o = x0 ∧ F (o + 1) = x1 ∧ F (o + 2) = x2 ∧ F (o + 3) = x3 ∧ F (o + 4) = x4 ∧ F (o + 5) = x5 ∧ F (o + 6) = x6 := by
  subst hF
  refine ⟨fun i hi => ?_, ?_, ?_, ?_, ?_, ?_, ?_, ?_⟩
  · simp only [upd]
    rw [if_neg (by omega), if_neg (by omega), if_neg (by omega), if_neg (by omega), if_neg (by omega), if_neg (by omega), if_neg (by omega)]
  all_goals simp [upd]
theorem cpy0 {f g : Nat → Int32} {n i : Nat} (h : i < n) : va_cpy f g 0 0 n i = f i := by
  simp [va_cpy, h]
end
section
/-! RestartBook.Log, its reading methods -/
set_option maxRecDepth 20000 in
theorem in_X0_recordsHeld : ∀ w ∈ u_ws RX0 TX0 4, w ∈ wsX0_recordsHeld := by
  intro w h
  show w ∈ wsX0_recordsHeld
  simp only [wsX0_recordsHeld, List.mem_cons, List.mem_append]
  simp only [h, true_or, or_true]
set_option maxRecDepth 20000 in
theorem in_X0_forcedHeld : ∀ w ∈ u_ws RX0 TX0 4, w ∈ wsX0_forcedHeld := by
  intro w h
  show w ∈ wsX0_forcedHeld
  simp only [wsX0_forcedHeld, List.mem_cons, List.mem_append]
  simp only [h, true_or, or_true]
set_option maxRecDepth 20000 in
theorem in_X0_changesHeld : ∀ w ∈ u_ws RX0 TX0 4, w ∈ wsX0_changesHeld := by
  intro w h
  show w ∈ wsX0_changesHeld
  simp only [wsX0_changesHeld, List.mem_cons, List.mem_append]
  simp only [h, true_or, or_true]
set_option maxRecDepth 20000 in
theorem in_X0_holds : ∀ w ∈ u_ws RX0 TX0 4, w ∈ wsX0_holds := by
  intro w h
  show w ∈ wsX0_holds
  simp only [wsX0_holds, List.mem_cons, List.mem_append]
  simp only [h, true_or, or_true]
set_option maxRecDepth 20000 in
theorem in_X0_read : ∀ w ∈ u_ws RX0 TX0 4, w ∈ wsX0_read := by
  intro w h
  show w ∈ wsX0_read
  simp only [wsX0_read, List.mem_cons, List.mem_append]
  simp only [h, true_or, or_true]
set_option maxRecDepth 20000 in
theorem in_X0_append : ∀ w ∈ u_ws RX0 TX0 4, w ∈ wsX0_append := by
  intro w h
  show w ∈ wsX0_append
  simp only [wsX0_append, List.mem_cons, List.mem_append]
  simp only [h, true_or, or_true]
set_option maxRecDepth 20000 in
theorem in_X0_forceUpTo : ∀ w ∈ u_ws RX0 TX0 4, w ∈ wsX0_forceUpTo := by
  intro w h
  show w ∈ wsX0_forceUpTo
  simp only [wsX0_forceUpTo, List.mem_cons, List.mem_append]
  simp only [h, true_or, or_true]
set_option maxRecDepth 20000 in
theorem in_X0_loseBehind : ∀ w ∈ u_ws RX0 TX0 4, w ∈ wsX0_loseBehind := by
  intro w h
  show w ∈ wsX0_loseBehind
  simp only [wsX0_loseBehind, List.mem_cons, List.mem_append]
  simp only [h, true_or, or_true]
set_option maxRecDepth 20000 in
theorem in_X0_init : ∀ w ∈ u_ws RX0 TX0 4, w ∈ wsX0_init := by
  intro w h
  show w ∈ wsX0_init
  simp only [wsX0_init, List.mem_cons, List.mem_append]
  simp only [h, true_or, or_true]
theorem hd_X0_recordsHeld : yX0_recordsHeld.cls = RX0 ∧ yX0_recordsHeld.cls ≠ "java/lang/invoke/MethodHandle" ∧ yX0_recordsHeld.cls ≠ "java/lang/invoke/VarHandle" ∧ (parseMethodDescriptor yX0_recordsHeld.desc).map (fun d => d.parameters.length) = some 0 := by decide +kernel
theorem hd_X0_forcedHeld : yX0_forcedHeld.cls = RX0 ∧ yX0_forcedHeld.cls ≠ "java/lang/invoke/MethodHandle" ∧ yX0_forcedHeld.cls ≠ "java/lang/invoke/VarHandle" ∧ (parseMethodDescriptor yX0_forcedHeld.desc).map (fun d => d.parameters.length) = some 0 := by decide +kernel
theorem hd_X0_changesHeld : yX0_changesHeld.cls = RX0 ∧ yX0_changesHeld.cls ≠ "java/lang/invoke/MethodHandle" ∧ yX0_changesHeld.cls ≠ "java/lang/invoke/VarHandle" ∧ (parseMethodDescriptor yX0_changesHeld.desc).map (fun d => d.parameters.length) = some 0 := by decide +kernel
theorem hd_X0_holds : yX0_holds.cls = RX0 ∧ yX0_holds.cls ≠ "java/lang/invoke/MethodHandle" ∧ yX0_holds.cls ≠ "java/lang/invoke/VarHandle" ∧ (parseMethodDescriptor yX0_holds.desc).map (fun d => d.parameters.length) = some 1 := by decide +kernel
theorem hd_X0_read : yX0_read.cls = RX0 ∧ yX0_read.cls ≠ "java/lang/invoke/MethodHandle" ∧ yX0_read.cls ≠ "java/lang/invoke/VarHandle" ∧ (parseMethodDescriptor yX0_read.desc).map (fun d => d.parameters.length) = some 2 := by decide +kernel
theorem hd_X0_changesPage : yX0_changesPage.cls = RX0 ∧ yX0_changesPage.cls ≠ "java/lang/invoke/MethodHandle" ∧ yX0_changesPage.cls ≠ "java/lang/invoke/VarHandle" ∧ (parseMethodDescriptor yX0_changesPage.desc).map (fun d => d.parameters.length) = some 1 := by decide +kernel
theorem hd_X0_append : yX0_append.cls = RX0 ∧ yX0_append.cls ≠ "java/lang/invoke/MethodHandle" ∧ yX0_append.cls ≠ "java/lang/invoke/VarHandle" ∧ (parseMethodDescriptor yX0_append.desc).map (fun d => d.parameters.length) = some 7 := by decide +kernel
theorem hd_X0_undoingBehind : yX0_undoingBehind.cls = RX0 ∧ yX0_undoingBehind.cls ≠ "java/lang/invoke/MethodHandle" ∧ yX0_undoingBehind.cls ≠ "java/lang/invoke/VarHandle" ∧ (parseMethodDescriptor yX0_undoingBehind.desc).map (fun d => d.parameters.length) = some 1 := by decide +kernel
theorem hd_X0_forceUpTo : yX0_forceUpTo.cls = RX0 ∧ yX0_forceUpTo.cls ≠ "java/lang/invoke/MethodHandle" ∧ yX0_forceUpTo.cls ≠ "java/lang/invoke/VarHandle" ∧ (parseMethodDescriptor yX0_forceUpTo.desc).map (fun d => d.parameters.length) = some 1 := by decide +kernel
theorem hd_X0_loseBehind : yX0_loseBehind.cls = RX0 ∧ yX0_loseBehind.cls ≠ "java/lang/invoke/MethodHandle" ∧ yX0_loseBehind.cls ≠ "java/lang/invoke/VarHandle" ∧ (parseMethodDescriptor yX0_loseBehind.desc).map (fun d => d.parameters.length) = some 1 := by decide +kernel
def lrd (f : Nat → Int32) (n j k : Nat) : Int32 := if 1 ≤ j ∧ j ≤ n then f ((j - 1) * 7 + k) else 0
def cntC (f : Nat → Int32) : Nat → Nat
  | 0 => 0
  | n + 1 => cntC f n + (if f (n * 7) = nI 1 then 1 else 0)
theorem cntC_mono (f : Nat → Int32) : ∀ {a b : Nat}, a ≤ b → cntC f a ≤ cntC f b := by
  intro a b h
  induction h with
  | refl => exact Nat.le_refl _
  | step _ ih => exact Nat.le_trans ih (Nat.le_add_right _ _)
set_option maxHeartbeats 4000000 in
set_option maxRecDepth 100000 in
theorem cL_recordsHeld (l : Launch) (D : va_G) (cI : ClassId) (a b cap n fo ch : Nat) (f : Nat → Int32) : Kt l yX0_recordsHeld wsX0_recordsHeld 0 0 (0) (0) D cI [.ref a] ([(a, .inr (0, [.ref b, .int (nI n), .int (nI fo), .int (nI ch)])), (b, .inl (cI, cap, .inl f))]) (pI (fun (r : Int32) (u : Unit) => r = nI n)) (fun (u : Unit) => [(a, .inr (0, [.ref b, .int (nI n), .int (nI fo), .int (nI ch)])), (b, .inl (cI, cap, .inl f))]) := by
  refine kt_start (cc := cX0_recordsHeld) (maxL := 1) (ret := (some .int)) (by decide +kernel) rfl (Nat.le_of_ble_eq_true rfl) ?_
  intro p e s m below meth c hx hb hml hr hlk hown hnm hts ls hl hw
  have hown : s.vm.findClass RX0 = some m.cls := hown
  have hl : lv_has ls 1 [(0, .ref a)] := hl
  have k13 := hts (.fieldLink RX0 13 "RestartBook$Log" "records" "I") (by decide +kernel)
  have hin0 : ∀ w ∈ u_ws RX0 TX0 4, w ∈ wsX0_recordsHeld := in_X0_recordsHeld
  refine lv_aload_n hx hb dX0_recordsHeld_0 rfl (lv_at hl 0 rfl) ?_
  refine ww_get hx hb hts hin0 hown hw 0 rfl rfl 1 (by decide) k13 rfl dX0_recordsHeld_1 ?_
  exact ww_iret (u := ()) hx hb hr hlk hw (rfl) (Nat.le_of_ble_eq_true rfl) (Nat.le_of_ble_eq_true rfl) dX0_recordsHeld_4
set_option maxHeartbeats 4000000 in
set_option maxRecDepth 100000 in
theorem cL_forcedHeld (l : Launch) (D : va_G) (cI : ClassId) (a b cap n fo ch : Nat) (f : Nat → Int32) : Kt l yX0_forcedHeld wsX0_forcedHeld 0 0 (0) (0) D cI [.ref a] ([(a, .inr (0, [.ref b, .int (nI n), .int (nI fo), .int (nI ch)])), (b, .inl (cI, cap, .inl f))]) (pI (fun (r : Int32) (u : Unit) => r = nI fo)) (fun (u : Unit) => [(a, .inr (0, [.ref b, .int (nI n), .int (nI fo), .int (nI ch)])), (b, .inl (cI, cap, .inl f))]) := by
  refine kt_start (cc := cX0_forcedHeld) (maxL := 1) (ret := (some .int)) (by decide +kernel) rfl (Nat.le_of_ble_eq_true rfl) ?_
  intro p e s m below meth c hx hb hml hr hlk hown hnm hts ls hl hw
  have hown : s.vm.findClass RX0 = some m.cls := hown
  have hl : lv_has ls 1 [(0, .ref a)] := hl
  have k17 := hts (.fieldLink RX0 17 "RestartBook$Log" "forced" "I") (by decide +kernel)
  have hin0 : ∀ w ∈ u_ws RX0 TX0 4, w ∈ wsX0_forcedHeld := in_X0_forcedHeld
  refine lv_aload_n hx hb dX0_forcedHeld_0 rfl (lv_at hl 0 rfl) ?_
  refine ww_get hx hb hts hin0 hown hw 0 rfl rfl 2 (by decide) k17 rfl dX0_forcedHeld_1 ?_
  exact ww_iret (u := ()) hx hb hr hlk hw (rfl) (Nat.le_of_ble_eq_true rfl) (Nat.le_of_ble_eq_true rfl) dX0_forcedHeld_4
set_option maxHeartbeats 4000000 in
set_option maxRecDepth 100000 in
theorem cL_changesHeld (l : Launch) (D : va_G) (cI : ClassId) (a b cap n fo ch : Nat) (f : Nat → Int32) : Kt l yX0_changesHeld wsX0_changesHeld 0 0 (0) (0) D cI [.ref a] ([(a, .inr (0, [.ref b, .int (nI n), .int (nI fo), .int (nI ch)])), (b, .inl (cI, cap, .inl f))]) (pI (fun (r : Int32) (u : Unit) => r = nI ch)) (fun (u : Unit) => [(a, .inr (0, [.ref b, .int (nI n), .int (nI fo), .int (nI ch)])), (b, .inl (cI, cap, .inl f))]) := by
  refine kt_start (cc := cX0_changesHeld) (maxL := 1) (ret := (some .int)) (by decide +kernel) rfl (Nat.le_of_ble_eq_true rfl) ?_
  intro p e s m below meth c hx hb hml hr hlk hown hnm hts ls hl hw
  have hown : s.vm.findClass RX0 = some m.cls := hown
  have hl : lv_has ls 1 [(0, .ref a)] := hl
  have k20 := hts (.fieldLink RX0 20 "RestartBook$Log" "changes" "I") (by decide +kernel)
  have hin0 : ∀ w ∈ u_ws RX0 TX0 4, w ∈ wsX0_changesHeld := in_X0_changesHeld
  refine lv_aload_n hx hb dX0_changesHeld_0 rfl (lv_at hl 0 rfl) ?_
  refine ww_get hx hb hts hin0 hown hw 0 rfl rfl 3 (by decide) k20 rfl dX0_changesHeld_1 ?_
  exact ww_iret (u := ()) hx hb hr hlk hw (rfl) (Nat.le_of_ble_eq_true rfl) (Nat.le_of_ble_eq_true rfl) dX0_changesHeld_4
theorem hold_y {x : Int32} {n : Nat} (hn : n < 2 ^ 31) (h1 : ¬ x < nI 1) (h2 : ¬ nI n < x) : ∃ j : Nat, 1 ≤ j ∧ j ≤ n ∧ x = nI j := by
  simp (disch := omega) only [i_lt, nI_toInt] at h1 h2
  obtain ⟨j, hj, rfl⟩ := i_nat (x := x) (by omega)
  rw [nI_toInt hj] at h1 h2
  exact ⟨j, by omega, by omega, rfl⟩
theorem hold_n {x : Int32} {n : Nat} (hn : n < 2 ^ 31) (h : x < nI 1 ∨ nI n < x) : ¬ ∃ j : Nat, 1 ≤ j ∧ j ≤ n ∧ x = nI j := by
  rintro ⟨j, h1, h2, rfl⟩
  simp (disch := omega) only [i_lt, nI_toInt] at h
  omega
set_option maxHeartbeats 4000000 in
set_option maxRecDepth 100000 in
theorem cL_holds (l : Launch) (D : va_G) (cI : ClassId) (a b cap n fo ch : Nat) (f : Nat → Int32) (x : Int32) (hn : n < 2 ^ 31) : Kt l yX0_holds wsX0_holds 0 0 (0) (0) D cI [.ref a, .int x] ([(a, .inr (0, [.ref b, .int (nI n), .int (nI fo), .int (nI ch)])), (b, .inl (cI, cap, .inl f))]) (pI (fun (r : Int32) (u : Unit) => (r = 1 ∧ ∃ j : Nat, 1 ≤ j ∧ j ≤ n ∧ x = nI j) ∨ (r = 0 ∧ ¬ ∃ j : Nat, 1 ≤ j ∧ j ≤ n ∧ x = nI j))) (fun (u : Unit) => [(a, .inr (0, [.ref b, .int (nI n), .int (nI fo), .int (nI ch)])), (b, .inl (cI, cap, .inl f))]) := by
  refine kt_start (cc := cX0_holds) (maxL := 2) (ret := (some .boolean)) (by decide +kernel) rfl (Nat.le_of_ble_eq_true rfl) ?_
  intro p e s m below meth c hx hb hml hr hlk hown hnm hts ls hl hw
  have hown : s.vm.findClass RX0 = some m.cls := hown
  have hl : lv_has ls 2 [(0, .ref a), (1, .int x)] := hl
  have k13 := hts (.fieldLink RX0 13 "RestartBook$Log" "records" "I") (by decide +kernel)
  have hin0 : ∀ w ∈ u_ws RX0 TX0 4, w ∈ wsX0_holds := in_X0_holds
  refine lv_iload_n hx hb dX0_holds_0 rfl (lv_at hl 1 rfl) ?_
  refine lv_iconst (v := nI 1) hx hb dX0_holds_1 (by decide +kernel) ?_
  refine lv_icmp_lt (tgt := 17) hx hb dX0_holds_2 (by decide) (fun c_2 => ?_) (fun c_2 => ?_)
  · refine lv_iconst (v := nI 0) hx hb dX0_holds_17 (by decide +kernel) ?_
    exact ww_zret (u := ()) hx hb hr hlk (by decide +kernel) hw (Or.inr ⟨by decide, hold_n hn (by first | exact Or.inl c_2 | exact Or.inr c_10)⟩) (Nat.le_of_ble_eq_true rfl) (Nat.le_of_ble_eq_true rfl) dX0_holds_18
  · refine lv_iload_n hx hb dX0_holds_5 rfl (lv_at hl 1 rfl) ?_
    refine lv_aload_n hx hb dX0_holds_6 rfl (lv_at hl 0 rfl) ?_
    refine ww_get hx hb hts hin0 hown hw 0 rfl rfl 1 (by decide) k13 rfl dX0_holds_7 ?_
    refine lv_icmp_gt (tgt := 17) hx hb dX0_holds_10 (by decide) (fun c_10 => ?_) (fun c_10 => ?_)
    · refine lv_iconst (v := nI 0) hx hb dX0_holds_17 (by decide +kernel) ?_
      exact ww_zret (u := ()) hx hb hr hlk (by decide +kernel) hw (Or.inr ⟨by decide, hold_n hn (by first | exact Or.inl c_2 | exact Or.inr c_10)⟩) (Nat.le_of_ble_eq_true rfl) (Nat.le_of_ble_eq_true rfl) dX0_holds_18
    · refine lv_iconst (v := nI 1) hx hb dX0_holds_13 (by decide +kernel) ?_
      refine lv_goto (tgt := 18) hx hb dX0_holds_14 (by decide) ?_
      exact ww_zret (u := ()) hx hb hr hlk (by decide +kernel) hw (Or.inl ⟨by decide, hold_y hn c_2 c_10⟩) (Nat.le_of_ble_eq_true rfl) (Nat.le_of_ble_eq_true rfl) dX0_holds_18
set_option maxHeartbeats 4000000 in
set_option maxRecDepth 100000 in
theorem cL_read (l : Launch) (D : va_G) (cI : ClassId) (a b cap n fo ch : Nat) (f : Nat → Int32) (j k : Nat) (hn : n * 7 ≤ cap) (hcap : cap < 2 ^ 31) (hj : j < 2 ^ 31) (hk : k ≤ 6) : Kt l yX0_read wsX0_read 1 21 (0) (0) D cI [.ref a, .int (nI j), .int (nI k)] ([(a, .inr (0, [.ref b, .int (nI n), .int (nI fo), .int (nI ch)])), (b, .inl (cI, cap, .inl f))]) (pI (fun (r : Int32) (u : Unit) => r = lrd f n j k)) (fun (u : Unit) => [(a, .inr (0, [.ref b, .int (nI n), .int (nI fo), .int (nI ch)])), (b, .inl (cI, cap, .inl f))]) := by
  refine kt_start (cc := cX0_read) (maxL := 3) (ret := (some .int)) (by decide +kernel) rfl (Nat.le_of_ble_eq_true rfl) ?_
  intro p e s m below meth c hx hb hml hr hlk hown hnm hts ls hl hw
  have hown : s.vm.findClass RX0 = some m.cls := hown
  have hl : lv_has ls 3 [(0, .ref a), (1, .int (nI j)), (2, .int (nI k))] := hl
  have k9 := hts (.fieldLink RX0 9 "RestartBook$Log" "cells" "[I") (by decide +kernel)
  have hin0 : ∀ w ∈ u_ws RX0 TX0 4, w ∈ wsX0_read := in_X0_read
  refine lv_aload_n hx hb dX0_read_0 rfl (lv_at hl 0 rfl) ?_
  refine lv_iload_n hx hb dX0_read_1 rfl (lv_at hl 1 rfl) ?_
  refine ww_callV ([]) ([]) (As := [.int (nI j)]) (rest := []) ⟨hx, hb, hml, hown, hts⟩ (cL_holds l D cI a b cap n fo ch f (nI j) (by omega)) gX0_read_X0_holds rfl hd_X0_holds ⟨Nat.le_of_ble_eq_true rfl, Nat.le_of_ble_eq_true rfl⟩ hw rfl rfl rfl rfl rfl hl.1 (Nat.le_of_ble_eq_true rfl) dX0_read_2 ⟨Nat.le_of_ble_eq_true rfl, Nat.le_of_ble_eq_true rfl⟩ (fun v u H locs hq hw => ?_)
  obtain ⟨r, rfl, hq⟩ := hq
  have hw : ww D cI _ _ s ([(a, .inr (0, [.ref b, .int (nI n), .int (nI fo), .int (nI ch)])), (b, .inl (cI, cap, .inl f))]) H locs := hw
  refine W.eq (g2 := F0 m 5 ls [.int (r)]) rfl ?_
  rcases hq with ⟨rfl, hq⟩ | ⟨rfl, hq⟩
  · obtain ⟨j1, hq1, hq2, hq3⟩ := hq
    have hjj : j = j1 := (nI_eq (by omega) (by omega)).mp hq3
    subst hjj
    refine lv_if_eq (tgt := 18) hx hb dX0_read_5 (by decide) (fun c_5 => absurd c_5 (by decide)) (fun c_5 => ?_)
    refine lv_iload_n hx hb dX0_read_8 rfl (lv_at hl 2 rfl) ?_
    refine lv_if_lt (tgt := 18) hx hb dX0_read_9 (by decide) (fun c_9 => absurd c_9 (nI_pos (by omega))) (fun c_9 => ?_)
    refine lv_iload_n hx hb dX0_read_12 rfl (lv_at hl 2 rfl) ?_
    refine lv_bipush (v := nI 6) hx hb dX0_read_13 (by decide +kernel) ?_
    refine lv_icmp_le (tgt := 20) hx hb dX0_read_15 (by decide) (fun c_15 => ?_) (fun c_15 => absurd (nI_le (by omega) (by omega)) c_15)
    refine lv_aload_n hx hb dX0_read_20 rfl (lv_at hl 0 rfl) ?_
    refine ww_get hx hb hts hin0 hown hw 0 rfl rfl 0 (by decide) k9 rfl dX0_read_21 ?_
    refine lv_iload_n hx hb dX0_read_24 rfl (lv_at hl 1 rfl) ?_
    refine lv_iconst (v := nI 1) hx hb dX0_read_25 (by decide +kernel) ?_
    refine lv_isub hx hb dX0_read_26 ?_
    refine lv_eqi (show _ = nI (j - 1) from pk_sub (by omega)) ?_
    refine W.eq (g2 := F0 m 27 ls [.int (nI (j - 1)), .ref b]) rfl ?_
    refine lv_bipush (v := nI 7) hx hb dX0_read_27 (by decide +kernel) ?_
    refine lv_imul hx hb dX0_read_29 ?_
    refine lv_eqi (show _ = nI ((j - 1) * 7) from pk_mul _ _) ?_
    refine lv_iload_n hx hb dX0_read_30 rfl (lv_at hl 2 rfl) ?_
    refine lv_iadd hx hb dX0_read_31 ?_
    refine lv_eqi (show _ = nI (((j - 1) * 7) + k) from nI_add _ _) ?_
    refine ww_iald hx hb hw 1 rfl (((j - 1) * 7) + k) rfl (by omega) (by omega) dX0_read_32 ?_
    exact ww_iret (u := ()) hx hb hr hlk hw ((if_pos ⟨hq1, hq2⟩).symm) (Nat.le_of_ble_eq_true rfl) (Nat.le_of_ble_eq_true rfl) dX0_read_33
  · have hq : ¬ (1 ≤ j ∧ j ≤ n) := fun hc => hq ⟨j, hc.1, hc.2, rfl⟩
    refine lv_if_eq (tgt := 18) hx hb dX0_read_5 (by decide) (fun c_5 => ?_) (fun c_5 => absurd (rfl) c_5)
    refine lv_iconst (v := nI 0) hx hb dX0_read_18 (by decide +kernel) ?_
    exact ww_iret (u := ()) hx hb hr hlk hw ((if_neg hq).symm) (Nat.le_of_ble_eq_true rfl) (Nat.le_of_ble_eq_true rfl) dX0_read_19
set_option maxHeartbeats 4000000 in
set_option maxRecDepth 100000 in
theorem cL_changesPage (l : Launch) (D : va_G) (cI : ClassId) (a b cap n fo ch : Nat) (f : Nat → Int32) (j : Nat) (hn : n * 7 ≤ cap) (hcap : cap < 2 ^ 31) (hj : j < 2 ^ 31) : Kt l yX0_changesPage wsX0_changesPage 2 43 (0) (0) D cI [.ref a, .int (nI j)] ([(a, .inr (0, [.ref b, .int (nI n), .int (nI fo), .int (nI ch)])), (b, .inl (cI, cap, .inl f))]) (pI (fun (r : Int32) (u : Unit) => (r = 1 ∧ (lrd f n j 0 = nI 1 ∨ lrd f n j 0 = nI 2)) ∨ (r = 0 ∧ ¬ (lrd f n j 0 = nI 1 ∨ lrd f n j 0 = nI 2)))) (fun (u : Unit) => [(a, .inr (0, [.ref b, .int (nI n), .int (nI fo), .int (nI ch)])), (b, .inl (cI, cap, .inl f))]) := by
  refine kt_start (cc := cX0_changesPage) (maxL := 3) (ret := (some .boolean)) (by decide +kernel) rfl (Nat.le_of_ble_eq_true rfl) ?_
  intro p e s m below meth c hx hb hml hr hlk hown hnm hts ls hl hw
  have hown : s.vm.findClass RX0 = some m.cls := hown
  have hl : lv_has ls 3 [(0, .ref a), (1, .int (nI j))] := hl
  refine lv_aload_n hx hb dX0_changesPage_0 rfl (lv_at hl 0 rfl) ?_
  refine lv_iload_n hx hb dX0_changesPage_1 rfl (lv_at hl 1 rfl) ?_
  refine lv_iconst (v := nI 0) hx hb dX0_changesPage_2 (by decide +kernel) ?_
  refine ww_callV ([]) ([]) (As := [.int (nI j), .int (nI 0)]) (rest := []) ⟨hx, hb, hml, hown, hts⟩ (cL_read l D cI a b cap n fo ch f j 0 (by omega) (by omega) hj (by omega)) gX0_changesPage_X0_read rfl hd_X0_read ⟨Nat.le_of_ble_eq_true rfl, Nat.le_of_ble_eq_true rfl⟩ hw rfl rfl rfl rfl rfl hl.1 (Nat.le_of_ble_eq_true rfl) dX0_changesPage_3 ⟨Nat.le_of_ble_eq_true rfl, Nat.le_of_ble_eq_true rfl⟩ (fun v u H locs hq hw => ?_)
  obtain ⟨r, rfl, hq⟩ := hq
  subst hq
  have hw : ww D cI _ _ s ([(a, .inr (0, [.ref b, .int (nI n), .int (nI fo), .int (nI ch)])), (b, .inl (cI, cap, .inl f))]) H locs := hw
  refine W.eq (g2 := F0 m 6 ls [.int (lrd f n j 0)]) rfl ?_
  refine lv_istore_n (lv' := [(2, .int (lrd f n j 0)), (0, .ref a), (1, .int (nI j))]) hx hb dX0_changesPage_6 rfl hl (by decide) rfl (fun ls hl => ?_)
  refine lv_iload_n hx hb dX0_changesPage_7 rfl (lv_at hl 0 rfl) ?_
  refine lv_iconst (v := nI 1) hx hb dX0_changesPage_8 (by decide +kernel) ?_
  refine lv_icmp_eq (tgt := 17) hx hb dX0_changesPage_9 (by decide) (fun c_9 => ?_) (fun c_9 => ?_)
  · refine lv_iconst (v := nI 1) hx hb dX0_changesPage_17 (by decide +kernel) ?_
    refine lv_goto (tgt := 22) hx hb dX0_changesPage_18 (by decide) ?_
    exact ww_zret (u := ()) hx hb hr hlk (by decide +kernel) hw (Or.inl ⟨by decide, by first | exact Or.inl c_9 | exact Or.inr (c_14)⟩) (Nat.le_of_ble_eq_true rfl) (Nat.le_of_ble_eq_true rfl) dX0_changesPage_22
  · refine lv_iload_n hx hb dX0_changesPage_12 rfl (lv_at hl 0 rfl) ?_
    refine lv_iconst (v := nI 2) hx hb dX0_changesPage_13 (by decide +kernel) ?_
    refine lv_icmp_ne (tgt := 21) hx hb dX0_changesPage_14 (by decide) (fun c_14 => ?_) (fun c_14 => ?_)
    · refine lv_iconst (v := nI 0) hx hb dX0_changesPage_21 (by decide +kernel) ?_
      exact ww_zret (u := ()) hx hb hr hlk (by decide +kernel) hw (Or.inr ⟨by decide, fun h => h.elim c_9 c_14⟩) (Nat.le_of_ble_eq_true rfl) (Nat.le_of_ble_eq_true rfl) dX0_changesPage_22
    · refine lv_iconst (v := nI 1) hx hb dX0_changesPage_17 (by decide +kernel) ?_
      refine lv_goto (tgt := 22) hx hb dX0_changesPage_18 (by decide) ?_
      exact ww_zret (u := ()) hx hb hr hlk (by decide +kernel) hw (Or.inl ⟨by decide, by first | exact Or.inl c_9 | exact Or.inr (c_14)⟩) (Nat.le_of_ble_eq_true rfl) (Nat.le_of_ble_eq_true rfl) dX0_changesPage_22
set_option maxHeartbeats 4000000 in
set_option maxRecDepth 100000 in
theorem cL_undoingBehind (l : Launch) (D : va_G) (cI : ClassId) (a b cap n fo ch : Nat) (f : Nat → Int32) (j bf : Nat) (hn : n * 7 ≤ cap) (hcap : cap < 2 ^ 31) (hj : j < 2 ^ 31) (hbf : lrd f n j 2 = nI bf) (hbl : bf < 2 ^ 31) : Kt l yX0_undoingBehind wsX0_undoingBehind 2 43 (0) (0) D cI [.ref a, .int (nI j)] ([(a, .inr (0, [.ref b, .int (nI n), .int (nI fo), .int (nI ch)])), (b, .inl (cI, cap, .inl f))]) (pI (fun (r : Int32) (u : Unit) => r = if lrd f n bf 0 = nI 2 then lrd f n bf 6 else nI bf)) (fun (u : Unit) => [(a, .inr (0, [.ref b, .int (nI n), .int (nI fo), .int (nI ch)])), (b, .inl (cI, cap, .inl f))]) := by
  refine kt_start (cc := cX0_undoingBehind) (maxL := 3) (ret := (some .int)) (by decide +kernel) rfl (Nat.le_of_ble_eq_true rfl) ?_
  intro p e s m below meth c hx hb hml hr hlk hown hnm hts ls hl hw
  have hown : s.vm.findClass RX0 = some m.cls := hown
  have hl : lv_has ls 3 [(0, .ref a), (1, .int (nI j))] := hl
  refine lv_aload_n hx hb dX0_undoingBehind_0 rfl (lv_at hl 0 rfl) ?_
  refine lv_iload_n hx hb dX0_undoingBehind_1 rfl (lv_at hl 1 rfl) ?_
  refine lv_iconst (v := nI 2) hx hb dX0_undoingBehind_2 (by decide +kernel) ?_
  refine ww_callV ([]) ([]) (As := [.int (nI j), .int (nI 2)]) (rest := []) ⟨hx, hb, hml, hown, hts⟩ (cL_read l D cI a b cap n fo ch f j 2 (by omega) (by omega) hj (by omega)) gX0_undoingBehind_X0_read rfl hd_X0_read ⟨Nat.le_of_ble_eq_true rfl, Nat.le_of_ble_eq_true rfl⟩ hw rfl rfl rfl rfl rfl hl.1 (Nat.le_of_ble_eq_true rfl) dX0_undoingBehind_3 ⟨Nat.le_of_ble_eq_true rfl, Nat.le_of_ble_eq_true rfl⟩ (fun v u H locs hq hw => ?_)
  obtain ⟨r, rfl, hq⟩ := hq
  subst hq
  have hw : ww D cI _ _ s ([(a, .inr (0, [.ref b, .int (nI n), .int (nI fo), .int (nI ch)])), (b, .inl (cI, cap, .inl f))]) H locs := hw
  refine W.eq (g2 := F0 m 6 ls [.int (lrd f n j 2)]) rfl ?_
  refine lv_eqi (show _ = nI bf from hbf) ?_
  refine lv_istore_n (lv' := [(2, .int (nI bf)), (0, .ref a), (1, .int (nI j))]) hx hb dX0_undoingBehind_6 rfl hl (by decide) rfl (fun ls hl => ?_)
  refine lv_aload_n hx hb dX0_undoingBehind_7 rfl (lv_at hl 1 rfl) ?_
  refine lv_iload_n hx hb dX0_undoingBehind_8 rfl (lv_at hl 0 rfl) ?_
  refine lv_iconst (v := nI 0) hx hb dX0_undoingBehind_9 (by decide +kernel) ?_
  refine ww_callV ([]) ([]) (As := [.int (nI bf), .int (nI 0)]) (rest := []) ⟨hx, hb, hml, hown, hts⟩ (cL_read l D cI a b cap n fo ch f bf 0 (by omega) (by omega) (by omega) (by omega)) gX0_undoingBehind_X0_read rfl hd_X0_read ⟨Nat.le_of_ble_eq_true rfl, Nat.le_of_ble_eq_true rfl⟩ hw rfl rfl rfl rfl rfl hl.1 (Nat.le_of_ble_eq_true rfl) dX0_undoingBehind_10 ⟨Nat.le_of_ble_eq_true rfl, Nat.le_of_ble_eq_true rfl⟩ (fun v u H locs hq hw => ?_)
  obtain ⟨r, rfl, hq⟩ := hq
  subst hq
  have hw : ww D cI _ _ s ([(a, .inr (0, [.ref b, .int (nI n), .int (nI fo), .int (nI ch)])), (b, .inl (cI, cap, .inl f))]) H locs := hw
  refine W.eq (g2 := F0 m 13 ls [.int (lrd f n bf 0)]) rfl ?_
  refine lv_iconst (v := nI 2) hx hb dX0_undoingBehind_13 (by decide +kernel) ?_
  refine lv_icmp_ne (tgt := 27) hx hb dX0_undoingBehind_14 (by decide) (fun c_14 => ?_) (fun c_14 => ?_)
  · refine lv_iload_n hx hb dX0_undoingBehind_27 rfl (lv_at hl 0 rfl) ?_
    exact ww_iret (u := ()) hx hb hr hlk hw ((if_neg c_14).symm) (Nat.le_of_ble_eq_true rfl) (Nat.le_of_ble_eq_true rfl) dX0_undoingBehind_28
  · refine lv_aload_n hx hb dX0_undoingBehind_17 rfl (lv_at hl 1 rfl) ?_
    refine lv_iload_n hx hb dX0_undoingBehind_18 rfl (lv_at hl 0 rfl) ?_
    refine lv_bipush (v := nI 6) hx hb dX0_undoingBehind_19 (by decide +kernel) ?_
    refine ww_callV ([]) ([]) (As := [.int (nI bf), .int (nI 6)]) (rest := []) ⟨hx, hb, hml, hown, hts⟩ (cL_read l D cI a b cap n fo ch f bf 6 (by omega) (by omega) (by omega) (by omega)) gX0_undoingBehind_X0_read rfl hd_X0_read ⟨Nat.le_of_ble_eq_true rfl, Nat.le_of_ble_eq_true rfl⟩ hw rfl rfl rfl rfl rfl hl.1 (Nat.le_of_ble_eq_true rfl) dX0_undoingBehind_21 ⟨Nat.le_of_ble_eq_true rfl, Nat.le_of_ble_eq_true rfl⟩ (fun v u H locs hq hw => ?_)
    obtain ⟨r, rfl, hq⟩ := hq
    subst hq
    have hw : ww D cI _ _ s ([(a, .inr (0, [.ref b, .int (nI n), .int (nI fo), .int (nI ch)])), (b, .inl (cI, cap, .inl f))]) H locs := hw
    refine W.eq (g2 := F0 m 24 ls [.int (lrd f n bf 6)]) rfl ?_
    refine lv_goto (tgt := 28) hx hb dX0_undoingBehind_24 (by decide) ?_
    exact ww_iret (u := ()) hx hb hr hlk hw ((if_pos (c_14)).symm) (Nat.le_of_ble_eq_true rfl) (Nat.le_of_ble_eq_true rfl) dX0_undoingBehind_28
set_option maxHeartbeats 4000000 in
set_option maxRecDepth 100000 in
theorem cL_forceUpTo (l : Launch) (D : va_G) (cI : ClassId) (a b cap n fo ch : Nat) (f : Nat → Int32) (x : Int32) (hn : n < 2 ^ 31) (hf : fo < 2 ^ 31) : Kt l yX0_forceUpTo wsX0_forceUpTo 1 16 (0) (0) D cI [.ref a, .int x] ([(a, .inr (0, [.ref b, .int (nI n), .int (nI fo), .int (nI ch)])), (b, .inl (cI, cap, .inl f))]) (pV (fun (u : Unit) => True)) (fun (u : Unit) => [(a, .inr (0, [.ref b, .int (nI n), .int (nI (max fo (min x.toNatClampNeg n))), .int (nI ch)])), (b, .inl (cI, cap, .inl f))]) := by
  refine kt_start (cc := cX0_forceUpTo) (maxL := 2) (ret := none) (by decide +kernel) rfl (Nat.le_of_ble_eq_true rfl) ?_
  intro p e s m below meth c hx hb hml hr hlk hown hnm hts ls hl hw
  have hown : s.vm.findClass RX0 = some m.cls := hown
  have hl : lv_has ls 2 [(0, .ref a), (1, .int x)] := hl
  have k13 := hts (.fieldLink RX0 13 "RestartBook$Log" "records" "I") (by decide +kernel)
  have k17 := hts (.fieldLink RX0 17 "RestartBook$Log" "forced" "I") (by decide +kernel)
  have hin0 : ∀ w ∈ u_ws RX0 TX0 4, w ∈ wsX0_forceUpTo := in_X0_forceUpTo
  refine lv_aload_n hx hb dX0_forceUpTo_0 rfl (lv_at hl 0 rfl) ?_
  refine lv_aload_n hx hb dX0_forceUpTo_1 rfl (lv_at hl 0 rfl) ?_
  refine ww_get hx hb hts hin0 hown hw 0 rfl rfl 2 (by decide) k17 rfl dX0_forceUpTo_2 ?_
  refine lv_iload_n hx hb dX0_forceUpTo_5 rfl (lv_at hl 1 rfl) ?_
  refine lv_aload_n hx hb dX0_forceUpTo_6 rfl (lv_at hl 0 rfl) ?_
  refine ww_get hx hb hts hin0 hown hw 0 rfl rfl 1 (by decide) k13 rfl dX0_forceUpTo_7 ?_
  refine va_mmin hx hb (hml.trans hl.1.symm) hown (hts (.methodLink RX0 37 Lib.Math.min.name) (by decide +kernel)) (hts (.static Lib.Math.min.name) (by decide +kernel)) (hts (.initialized "java/lang/Math") (by decide +kernel)) (hts _ (List.mem_of_getElem? (l := wsX0_forceUpTo) (i := 6) rfl)) (Nat.le_of_ble_eq_true rfl) (Nat.le_of_ble_eq_true rfl) (Nat.zero_le _) (Nat.zero_le _) dX0_forceUpTo_10 ?_
  refine va_mmax hx hb (hml.trans hl.1.symm) hown (hts (.methodLink RX0 42 Lib.Math.max.name) (by decide +kernel)) (hts (.static Lib.Math.max.name) (by decide +kernel)) (hts (.initialized "java/lang/Math") (by decide +kernel)) (hts _ (List.mem_of_getElem? (l := wsX0_forceUpTo) (i := 9) rfl)) (Nat.le_of_ble_eq_true rfl) (Nat.le_of_ble_eq_true rfl) (Nat.zero_le _) (Nat.zero_le _) dX0_forceUpTo_13 ?_
  refine lv_eqi (show _ = nI (max fo (min x.toNatClampNeg n)) from nI_force x hn hf) ?_
  refine ww_put (ws' := [(a, .inr (0, [.ref b, .int (nI n), .int (nI (max fo (min x.toNatClampNeg n))), .int (nI ch)])), (b, .inl (cI, cap, .inl f))]) hx hb hts hin0 tyX0 tyX0_ok nmX0 hown hw 0 rfl rfl 2 (by decide) k17 rfl rfl rfl (Nat.le_of_ble_eq_true rfl) rfl dX0_forceUpTo_16 (fun H locs hw => ?_)
  exact ww_vret (u := ()) hx hb hr hlk hw (trivial) (Nat.le_of_ble_eq_true rfl) (Nat.le_of_ble_eq_true rfl) rfl dX0_forceUpTo_19
theorem los_a {f : Nat → Int32} {d i n kp : Nat} (hi : kp < i) (hi2 : i ≤ n + 1) (hiv : d + cntC f (i - 1) = cntC f n + cntC f kp) (h : ¬ lrd f n i 0 = nI 1) (hin : i ≤ n := by assumption) : d + cntC f (i + 1 - 1) = cntC f n + cntC f kp := by
  obtain ⟨j, rfl⟩ : ∃ j, i = j + 1 := ⟨i - 1, by omega⟩
  simp only [lrd, if_pos (show 1 ≤ j + 1 ∧ j + 1 ≤ n from ⟨by omega, hin⟩), Nat.add_sub_cancel, Nat.add_zero] at h hiv ⊢
  rw [show cntC f (j + 1) = cntC f j + (if f (j * 7) = nI 1 then 1 else 0) from rfl, if_neg h]
  exact hiv
theorem los_b {f : Nat → Int32} {d i n kp : Nat} (hi : kp < i) (hi2 : i ≤ n + 1) (hiv : d + cntC f (i - 1) = cntC f n + cntC f kp) (h : lrd f n i 0 = nI 1) (hin : i ≤ n := by assumption) : (d - 1) + cntC f (i + 1 - 1) = cntC f n + cntC f kp := by
  obtain ⟨j, rfl⟩ : ∃ j, i = j + 1 := ⟨i - 1, by omega⟩
  have e : cntC f (j + 1) = cntC f j + 1 := by
    simp only [lrd, if_pos (show 1 ≤ j + 1 ∧ j + 1 ≤ n from ⟨by omega, hin⟩), Nat.add_sub_cancel, Nat.add_zero] at h
    rw [show cntC f (j + 1) = cntC f j + (if f (j * 7) = nI 1 then 1 else 0) from rfl, if_pos h]
  have := cntC_mono f hin
  simp only [Nat.add_sub_cancel] at hiv ⊢
  omega
theorem los_p {f : Nat → Int32} {d i n kp : Nat} (hi : kp < i) (hiv : d + cntC f (i - 1) = cntC f n + cntC f kp) (h : lrd f n i 0 = nI 1) (hin : i ≤ n) : 1 ≤ d := by
  obtain ⟨j, rfl⟩ : ∃ j, i = j + 1 := ⟨i - 1, by omega⟩
  have e : cntC f (j + 1) = cntC f j + 1 := by
    simp only [lrd, if_pos (show 1 ≤ j + 1 ∧ j + 1 ≤ n from ⟨by omega, hin⟩), Nat.add_sub_cancel, Nat.add_zero] at h
    rw [show cntC f (j + 1) = cntC f j + (if f (j * 7) = nI 1 then 1 else 0) from rfl, if_pos h]
  have := cntC_mono f hin
  simp only [Nat.add_sub_cancel] at hiv
  omega
set_option maxHeartbeats 4000000 in
set_option maxRecDepth 100000 in
theorem cL_loseBehind (l : Launch) (D : va_G) (cI : ClassId) (a b cap n fo ch : Nat) (f : Nat → Int32) (k : Nat) (hn : n * 7 ≤ cap) (hcap : cap < 2 ^ 31) (hk : k < 2 ^ 31) (hfn : fo ≤ n) (hch : ch = cntC f n) : Kt l yX0_loseBehind wsX0_loseBehind 2 43 (0) (0) D cI [.ref a, .int (nI k)] ([(a, .inr (0, [.ref b, .int (nI n), .int (nI fo), .int (nI ch)])), (b, .inl (cI, cap, .inl f))]) (pV (fun (u : Unit) => True)) (fun (u : Unit) => [(a, .inr (0, [.ref b, .int (nI (fo + min k (n - fo))), .int (nI (fo + min k (n - fo))), .int (nI (cntC f (fo + min k (n - fo))))])), (b, .inl (cI, cap, .inl f))]) := by
  refine kt_start (cc := cX0_loseBehind) (maxL := 4) (ret := none) (by decide +kernel) rfl (Nat.le_of_ble_eq_true rfl) ?_
  intro p e s m below meth c hx hb hml hr hlk hown hnm hts ls hl hw
  have hown : s.vm.findClass RX0 = some m.cls := hown
  have hl : lv_has ls 4 [(0, .ref a), (1, .int (nI k))] := hl
  have k13 := hts (.fieldLink RX0 13 "RestartBook$Log" "records" "I") (by decide +kernel)
  have k17 := hts (.fieldLink RX0 17 "RestartBook$Log" "forced" "I") (by decide +kernel)
  have k20 := hts (.fieldLink RX0 20 "RestartBook$Log" "changes" "I") (by decide +kernel)
  have hin0 : ∀ w ∈ u_ws RX0 TX0 4, w ∈ wsX0_loseBehind := in_X0_loseBehind
  refine lv_aload_n hx hb dX0_loseBehind_0 rfl (lv_at hl 0 rfl) ?_
  refine ww_get hx hb hts hin0 hown hw 0 rfl rfl 2 (by decide) k17 rfl dX0_loseBehind_1 ?_
  refine lv_iload_n hx hb dX0_loseBehind_4 rfl (lv_at hl 1 rfl) ?_
  refine lv_aload_n hx hb dX0_loseBehind_5 rfl (lv_at hl 0 rfl) ?_
  refine ww_get hx hb hts hin0 hown hw 0 rfl rfl 1 (by decide) k13 rfl dX0_loseBehind_6 ?_
  refine lv_aload_n hx hb dX0_loseBehind_9 rfl (lv_at hl 0 rfl) ?_
  refine ww_get hx hb hts hin0 hown hw 0 rfl rfl 2 (by decide) k17 rfl dX0_loseBehind_10 ?_
  refine lv_isub hx hb dX0_loseBehind_13 ?_
  refine lv_eqi (show _ = nI (n - fo) from pk_sub hfn) ?_
  refine va_mmin hx hb (hml.trans hl.1.symm) hown (hts (.methodLink RX0 37 Lib.Math.min.name) (by decide +kernel)) (hts (.static Lib.Math.min.name) (by decide +kernel)) (hts (.initialized "java/lang/Math") (by decide +kernel)) (hts _ (List.mem_of_getElem? (l := wsX0_loseBehind) (i := 6) rfl)) (Nat.le_of_ble_eq_true rfl) (Nat.le_of_ble_eq_true rfl) (Nat.zero_le _) (Nat.zero_le _) dX0_loseBehind_14 ?_
  refine lv_eqi (show _ = nI (min k (n - fo)) from nI_min (by omega) (by omega)) ?_
  refine lv_iadd hx hb dX0_loseBehind_17 ?_
  refine lv_eqi (show _ = nI (fo + (min k (n - fo))) from nI_add _ _) ?_
  refine lv_istore_n (lv' := [(2, .int (nI (fo + (min k (n - fo))))), (0, .ref a), (1, .int (nI k))]) hx hb dX0_loseBehind_18 rfl hl (by decide) rfl (fun ls hl => ?_)
  refine W.eq (g2 := F0 m 19 ls []) rfl ?_
  refine lv_iload_n hx hb dX0_loseBehind_19 rfl (lv_at hl 0 rfl) ?_
  refine lv_iconst (v := nI 1) hx hb dX0_loseBehind_20 (by decide +kernel) ?_
  refine lv_iadd hx hb dX0_loseBehind_21 ?_
  refine lv_eqi (show _ = nI ((fo + (min k (n - fo))) + 1) from nI_add _ _) ?_
  refine lv_istore_n (lv' := [(3, .int (nI ((fo + (min k (n - fo))) + 1))), (2, .int (nI (fo + (min k (n - fo))))), (0, .ref a), (1, .int (nI k))]) hx hb dX0_loseBehind_22 rfl hl (by decide) rfl (fun ls hl => ?_)
  obtain ⟨kp, hkp⟩ : ∃ kp : Nat, kp = fo + min k (n - fo) := ⟨_, rfl⟩
  rw [← hkp] at hl
  have lp : ∀ (t : Nat) (i : Nat) (d : Nat) (H : Heap) (locs : List Loc) (ls : Array Slot), n + 1 - i < t → kp < i → i ≤ n + 1 → d + cntC f (i - 1) = cntC f n + cntC f kp → ww D cI (va_A ([(a, .inr (0, [.ref b, .int (nI n), .int (nI fo), .int (nI ch)])), (b, .inl (cI, cap, .inl f))]) s.heap.size) s.heap s ([(a, .inr (0, [.ref b, .int (nI n), .int (nI fo), .int (nI d)])), (b, .inl (cI, cap, .inl f))]) H locs → lv_has ls 4 [(3, .int (nI i)), (2, .int (nI kp)), (0, .ref a), (1, .int (nI k))] → W p l e { frames := 2, cells := 0, slots := 0, locals := 43 } s m [.ref a, .int (nI k)].toArray below meth c H locs (0) (0) (MQ below (kQ D cI ([(a, .inr (0, [.ref b, .int (nI n), .int (nI fo), .int (nI ch)])), (b, .inl (cI, cap, .inl f))]) s.heap.size (pV (fun (u : Unit) => True)) (fun (u : Unit) => [(a, .inr (0, [.ref b, .int (nI (fo + min k (n - fo))), .int (nI (fo + min k (n - fo))), .int (nI (cntC f (fo + min k (n - fo))))])), (b, .inl (cI, cap, .inl f))])) [.ref a, .int (nI k)].toArray s (0) (0) (va_A ([(a, .inr (0, [.ref b, .int (nI n), .int (nI fo), .int (nI ch)])), (b, .inl (cI, cap, .inl f))]) s.heap.size)) (F0 m 23 ls []) := by
    intro t
    induction t with
    | zero => intro i d H locs ls ht; exact absurd ht (Nat.not_lt_zero _)
    | succ t ih_23 =>
      intro i d H locs ls ht hi hi2 hiv hw hl
      refine lv_iload_n hx hb dX0_loseBehind_23 rfl (lv_at hl 0 rfl) ?_
      refine lv_aload_n hx hb dX0_loseBehind_24 rfl (lv_at hl 2 rfl) ?_
      refine ww_get hx hb hts hin0 hown hw 0 rfl rfl 1 (by decide) k13 rfl dX0_loseBehind_25 ?_
      refine lv_icmp_gt (tgt := 57) hx hb dX0_loseBehind_28 (by decide) (fun c_28 => ?_) (fun c_28 => ?_)
      · have hie : i = n + 1 := by simp (disch := omega) only [i_lt, nI_toInt] at c_28; omega
        have hd : d = cntC f kp := by rw [hie, Nat.add_sub_cancel] at hiv; omega
        subst hd
        refine lv_aload_n hx hb dX0_loseBehind_57 rfl (lv_at hl 2 rfl) ?_
        refine lv_iload_n hx hb dX0_loseBehind_58 rfl (lv_at hl 1 rfl) ?_
        refine ww_put (ws' := [(a, .inr (0, [.ref b, .int (nI kp), .int (nI fo), .int (nI (cntC f kp))])), (b, .inl (cI, cap, .inl f))]) hx hb hts hin0 tyX0 tyX0_ok nmX0 hown hw 0 rfl rfl 1 (by decide) k13 rfl rfl rfl (Nat.le_of_ble_eq_true rfl) rfl dX0_loseBehind_59 (fun H locs hw => ?_)
        refine lv_aload_n hx hb dX0_loseBehind_62 rfl (lv_at hl 2 rfl) ?_
        refine lv_iload_n hx hb dX0_loseBehind_63 rfl (lv_at hl 1 rfl) ?_
        refine ww_put (ws' := [(a, .inr (0, [.ref b, .int (nI kp), .int (nI kp), .int (nI (cntC f kp))])), (b, .inl (cI, cap, .inl f))]) hx hb hts hin0 tyX0 tyX0_ok nmX0 hown hw 0 rfl rfl 2 (by decide) k17 rfl rfl rfl (Nat.le_of_ble_eq_true rfl) rfl dX0_loseBehind_64 (fun H locs hw => ?_)
        subst hkp
        exact ww_vret (u := ()) hx hb hr hlk hw (trivial) (Nat.le_of_ble_eq_true rfl) (Nat.le_of_ble_eq_true rfl) rfl dX0_loseBehind_67
      · have hin : i ≤ n := by simp (disch := omega) only [i_lt, nI_toInt] at c_28; omega
        refine lv_aload_n hx hb dX0_loseBehind_31 rfl (lv_at hl 2 rfl) ?_
        refine lv_iload_n hx hb dX0_loseBehind_32 rfl (lv_at hl 0 rfl) ?_
        refine lv_iconst (v := nI 0) hx hb dX0_loseBehind_33 (by decide +kernel) ?_
        refine ww_callV ([]) ([]) (As := [.int (nI i), .int (nI 0)]) (rest := []) ⟨hx, hb, hml, hown, hts⟩ (cL_read l D cI a b cap n fo d f i 0 (by omega) (by omega) (by omega) (by omega)) gX0_loseBehind_X0_read rfl hd_X0_read ⟨Nat.le_of_ble_eq_true rfl, Nat.le_of_ble_eq_true rfl⟩ hw rfl rfl rfl rfl rfl hl.1 (Nat.le_of_ble_eq_true rfl) dX0_loseBehind_34 ⟨Nat.le_of_ble_eq_true rfl, Nat.le_of_ble_eq_true rfl⟩ (fun v u H locs hq hw => ?_)
        obtain ⟨r, rfl, hq⟩ := hq
        subst hq
        have hw : ww D cI _ _ s ([(a, .inr (0, [.ref b, .int (nI n), .int (nI fo), .int (nI d)])), (b, .inl (cI, cap, .inl f))]) H locs := hw
        refine W.eq (g2 := F0 m 37 ls [.int (lrd f n i 0)]) rfl ?_
        refine lv_iconst (v := nI 1) hx hb dX0_loseBehind_37 (by decide +kernel) ?_
        refine lv_icmp_ne (tgt := 51) hx hb dX0_loseBehind_38 (by decide) (fun c_38 => ?_) (fun c_38 => ?_)
        · refine lv_iinc (v := nI (i + 1)) (lv' := [(3, .int (nI (i + 1))), (2, .int (nI kp)), (0, .ref a), (1, .int (nI k))]) hx hb dX0_loseBehind_51 hl (k := 0) rfl (nI_add _ _) (by decide) rfl (fun ls hl => ?_)
          refine lv_goto (tgt := 23) hx hb dX0_loseBehind_54 (by decide) ?_
          exact ih_23 (i + 1) d _ _ _ (by omega) (by omega) (by omega) (by first | exact los_a hi hi2 hiv c_38 | exact los_b hi hi2 hiv c_38) hw (lv_sub hl [0, 1, 2, 3] rfl)
        · refine lv_aload_n hx hb dX0_loseBehind_41 rfl (lv_at hl 2 rfl) ?_
          refine lv_dup hx hb dX0_loseBehind_42 rfl ?_
          refine ww_get hx hb hts hin0 hown hw 0 rfl rfl 3 (by decide) k20 rfl dX0_loseBehind_43 ?_
          refine lv_iconst (v := nI 1) hx hb dX0_loseBehind_46 (by decide +kernel) ?_
          refine lv_isub hx hb dX0_loseBehind_47 ?_
          refine lv_eqi (show _ = nI (d - 1) from pk_sub (los_p hi hiv c_38 hin)) ?_
          refine ww_put (ws' := [(a, .inr (0, [.ref b, .int (nI n), .int (nI fo), .int (nI (d - 1))])), (b, .inl (cI, cap, .inl f))]) hx hb hts hin0 tyX0 tyX0_ok nmX0 hown hw 0 rfl rfl 3 (by decide) k20 rfl rfl rfl (Nat.le_of_ble_eq_true rfl) rfl dX0_loseBehind_48 (fun H locs hw => ?_)
          refine lv_iinc (v := nI (i + 1)) (lv' := [(3, .int (nI (i + 1))), (2, .int (nI kp)), (0, .ref a), (1, .int (nI k))]) hx hb dX0_loseBehind_51 hl (k := 0) rfl (nI_add _ _) (by decide) rfl (fun ls hl => ?_)
          refine lv_goto (tgt := 23) hx hb dX0_loseBehind_54 (by decide) ?_
          exact ih_23 (i + 1) (d - 1) _ _ _ (by omega) (by omega) (by omega) (by first | exact los_a hi hi2 hiv c_38 | exact los_b hi hi2 hiv c_38) hw (lv_sub hl [0, 1, 2, 3] rfl)
  exact lp ((n + 1 - (kp + 1)) + 1) (kp + 1) ch _ _ _ (Nat.lt_succ_self _) (by omega) (by omega) (by rw [hch]; rfl) hw (lv_sub hl [0, 1, 2, 3] rfl)
end
section
/-! Arrays.copyOf; RestartBook.Log: append, the constructor -/
theorem hd_J7_copyOf_59c91 : yJ7_copyOf_59c91.cls ≠ "java/lang/invoke/MethodHandle" ∧ yJ7_copyOf_59c91.cls ≠ "java/lang/invoke/VarHandle" ∧ (parseMethodDescriptor yJ7_copyOf_59c91.desc).map (fun d => d.parameters.length) = some 2 := by decide +kernel
set_option maxHeartbeats 4000000 in
set_option maxRecDepth 100000 in
theorem cJ_copyOf (l : Launch) (D : va_G) (cI : ClassId) (b cap N : Nat) (f : Nat → Int32) (h1 : cap < N) (h2 : N < 2 ^ 27) : Kt l yJ7_copyOf_59c91 wsJ7_copyOf_59c91 1 18 (1) (N) D cI [.ref b, .int (nI N)] ([(b, .inl (cI, cap, .inl f))]) (fun (v : Option Value) (u : Nat) => v = some (.ref u)) (fun (u : Nat) => [(b, .inl (cI, cap, .inl f)), (u, .inl (cI, N, .inl (va_cpy f (fun _ => 0) 0 0 cap)))]) := by
  refine kt_start (cc := cJ7_copyOf_59c91) (maxL := 3) (ret := (some (.array .int))) (by decide +kernel) rfl (Nat.le_of_ble_eq_true rfl) ?_
  intro p e s m below meth c hx hb hml hr hlk hown hnm hts ls hl hw
  have hown : s.vm.findClass RJ7 = some m.cls := hown
  have hl : lv_has ls 3 [(0, .ref b), (1, .int (nI N))] := hl
  have harr := hts (.arrayClass .int) (by decide +kernel)
  refine lv_iload_n hx hb dJ7_copyOf_59c91_0 rfl (lv_at hl 1 rfl) ?_
  refine lv_aload_n hx hb dJ7_copyOf_59c91_1 rfl (lv_at hl 0 rfl) ?_
  refine ww_alen hx hb hw 0 rfl dJ7_copyOf_59c91_2 ?_
  refine lv_icmp_ne (tgt := 14) hx hb dJ7_copyOf_59c91_3 (by decide) (fun c_3 => ?_) (fun c_3 => absurd c_3 (fun h => absurd ((nI_eq (by omega) (by omega)).mp h) (by omega)))
  refine lv_iload_n hx hb dJ7_copyOf_59c91_14 rfl (lv_at hl 1 rfl) ?_
  refine ww_newa (N := N) hx hb harr hw rfl (by omega) (Nat.le_of_ble_eq_true rfl) (by show 0 + N ≤ N; omega) dJ7_copyOf_59c91_15 (fun q15 H hw => ?_)
  have hw : ww D cI _ _ s ([(b, .inl (cI, cap, .inl f)), (q15, .inl (cI, N, .inl (fun _ => 0)))]) H _ := hw
  refine lv_astore_n (lv' := [(2, .ref q15), (0, .ref b), (1, .int (nI N))]) hx hb dJ7_copyOf_59c91_17 rfl hl (by decide) rfl (fun ls hl => ?_)
  refine lv_aload_n hx hb dJ7_copyOf_59c91_18 rfl (lv_at hl 1 rfl) ?_
  refine lv_iconst (v := nI 0) hx hb dJ7_copyOf_59c91_19 (by decide +kernel) ?_
  refine lv_aload_n hx hb dJ7_copyOf_59c91_20 rfl (lv_at hl 0 rfl) ?_
  refine lv_iconst (v := nI 0) hx hb dJ7_copyOf_59c91_21 (by decide +kernel) ?_
  refine W.eq (g2 := F0 m 22 ls [.int (nI 0), .ref q15, .int (nI 0), .ref b]) rfl ?_
  refine lv_aload_n hx hb dJ7_copyOf_59c91_22 rfl (lv_at hl 1 rfl) ?_
  refine ww_alen hx hb hw 0 rfl dJ7_copyOf_59c91_23 ?_
  refine lv_iload_n hx hb dJ7_copyOf_59c91_24 rfl (lv_at hl 2 rfl) ?_
  refine va_mmin hx hb (hml.trans hl.1.symm) hown (hts (.methodLink RJ7 304 Lib.Math.min.name) (by decide +kernel)) (hts (.static Lib.Math.min.name) (by decide +kernel)) (hts (.initialized "java/lang/Math") (by decide +kernel)) (hts _ (List.mem_of_getElem? (l := wsJ7_copyOf_59c91) (i := 11) rfl)) (Nat.le_of_ble_eq_true rfl) (Nat.le_of_ble_eq_true rfl) (Nat.le_of_ble_eq_true rfl) (by show 0 + N ≤ N; omega) dJ7_copyOf_59c91_25 ?_
  refine lv_eqi (show _ = nI cap from (nI_min (by omega) (by omega)).trans (by rw [Nat.min_eq_left (by omega)])) ?_
  refine ww_copy (ws' := [(b, .inl (cI, cap, .inl f)), (q15, .inl (cI, N, .inl (va_cpy f (fun _ => 0) 0 0 cap)))]) hx hb (hml.trans hl.1.symm) hown (hts (.methodLink RJ7 150 arraycopyName) (by decide +kernel)) (hts (.native arraycopyName) (by decide +kernel)) (hts (.static arraycopyName) (by decide +kernel)) (hts (.initialized "java/lang/System") (by decide +kernel)) hw 0 1 rfl rfl 0 0 cap rfl rfl rfl (by omega) (by omega) (by omega) (by omega) rfl (Nat.le_of_ble_eq_true rfl) (Nat.le_of_ble_eq_true rfl) dJ7_copyOf_59c91_28 (fun H locs hw => ?_)
  refine lv_aload_n hx hb dJ7_copyOf_59c91_31 rfl (lv_at hl 0 rfl) ?_
  exact ww_aret (u := q15) hx hb hr hlk hw (rfl) (Nat.le_refl _) (by omega) dJ7_copyOf_59c91_32
set_option maxHeartbeats 4000000 in
set_option maxRecDepth 100000 in
theorem cL_append (l : Launch) (D : va_G) (cI : ClassId) (a b cap n fo ch : Nat) (f : Nat → Int32) (kd : Nat) (x1 x2 x3 x4 x5 x6 : Int32) (hn : n * 7 ≤ cap) (h0 : 7 ≤ cap) (hcap : cap < 2 ^ 26) (hkd : kd < 2 ^ 31) : Kt l yX0_append wsX0_append 2 40 (if cap < n * 7 + 7 then 1 else 0) (if cap < n * 7 + 7 then cap * 2 else 0) D cI [.ref a, .int (nI kd), .int x1, .int x2, .int x3, .int x4, .int x5, .int x6] ([(a, .inr (0, [.ref b, .int (nI n), .int (nI fo), .int (nI ch)])), (b, .inl (cI, cap, .inl f))]) (pI (fun (r : Int32) (u : Nat × Nat × Nat × (Nat → Int32)) => r = nI (n + 1) ∧ u.1 = ch + (if kd = 1 then 1 else 0) ∧ u.2.2.1 = (if cap < n * 7 + 7 then cap * 2 else cap) ∧ (∀ i, i < n * 7 → u.2.2.2 i = f i) ∧ u.2.2.2 (n * 7) = nI kd ∧ u.2.2.2 (n * 7 + 1) = x1 ∧ u.2.2.2 (n * 7 + 2) = x2 ∧ u.2.2.2 (n * 7 + 3) = x3 ∧ u.2.2.2 (n * 7 + 4) = x4 ∧ u.2.2.2 (n * 7 + 5) = x5 ∧ u.2.2.2 (n * 7 + 6) = x6)) (fun (u : Nat × Nat × Nat × (Nat → Int32)) => [(a, .inr (0, [.ref u.2.1, .int (nI (n + 1)), .int (nI fo), .int (nI u.1)])), (u.2.1, .inl (cI, u.2.2.1, .inl u.2.2.2))]) := by
  refine kt_start (cc := cX0_append) (maxL := 9) (ret := (some .int)) (by decide +kernel) rfl (Nat.le_of_ble_eq_true rfl) ?_
  intro p e s m below meth c hx hb hml hr hlk hown hnm hts ls hl hw
  have hown : s.vm.findClass RX0 = some m.cls := hown
  have hl : lv_has ls 9 [(0, .ref a), (1, .int (nI kd)), (2, .int x1), (3, .int x2), (4, .int x3), (5, .int x4), (6, .int x5), (7, .int x6)] := hl
  have k9 := hts (.fieldLink RX0 9 "RestartBook$Log" "cells" "[I") (by decide +kernel)
  have k13 := hts (.fieldLink RX0 13 "RestartBook$Log" "records" "I") (by decide +kernel)
  have k20 := hts (.fieldLink RX0 20 "RestartBook$Log" "changes" "I") (by decide +kernel)
  have hin0 : ∀ w ∈ u_ws RX0 TX0 4, w ∈ wsX0_append := in_X0_append
  refine lv_aload_n hx hb dX0_append_0 rfl (lv_at hl 0 rfl) ?_
  refine ww_get hx hb hts hin0 hown hw 0 rfl rfl 1 (by decide) k13 rfl dX0_append_1 ?_
  refine lv_bipush (v := nI 7) hx hb dX0_append_4 (by decide +kernel) ?_
  refine lv_imul hx hb dX0_append_6 ?_
  refine lv_eqi (show _ = nI (n * 7) from pk_mul _ _) ?_
  refine lv_istore (lv' := [(8, .int (nI (n * 7))), (0, .ref a), (1, .int (nI kd)), (2, .int x1), (3, .int x2), (4, .int x3), (5, .int x4), (6, .int x5), (7, .int x6)]) hx hb dX0_append_7 hl (by decide) rfl (fun ls hl => ?_)
  refine lv_iload hx hb dX0_append_9 (lv_at hl 0 rfl) ?_
  refine lv_bipush (v := nI 7) hx hb dX0_append_11 (by decide +kernel) ?_
  refine lv_iadd hx hb dX0_append_13 ?_
  refine lv_eqi (show _ = nI ((n * 7) + 7) from nI_add _ _) ?_
  refine lv_aload_n hx hb dX0_append_14 rfl (lv_at hl 1 rfl) ?_
  refine ww_get hx hb hts hin0 hown hw 0 rfl rfl 0 (by decide) k9 rfl dX0_append_15 ?_
  refine ww_alen hx hb hw 1 rfl dX0_append_18 ?_
  refine W.eq (g2 := F0 m 19 ls [.int (nI cap), .int (nI ((n * 7) + 7))]) rfl ?_
  refine lv_icmp_le (tgt := 40) hx hb dX0_append_19 (by decide) (fun c_19 => ?_) (fun c_19 => ?_)
  · have hg : ¬ cap < n * 7 + 7 := by simp (disch := omega) only [i_le, nI_toInt] at c_19; omega
    have hcp : n * 7 + 7 ≤ cap := by omega
    refine lv_aload_n hx hb dX0_append_40 rfl (lv_at hl 1 rfl) ?_
    refine ww_get hx hb hts hin0 hown hw 0 rfl rfl 0 (by decide) k9 rfl dX0_append_41 ?_
    refine lv_iload hx hb dX0_append_44 (lv_at hl 0 rfl) ?_
    refine lv_iconst (v := nI 0) hx hb dX0_append_46 (by decide +kernel) ?_
    refine lv_iadd hx hb dX0_append_47 ?_
    refine lv_eqi (show _ = nI ((n * 7) + 0) from nI_add _ _) ?_
    refine lv_iload_n hx hb dX0_append_48 rfl (lv_at hl 2 rfl) ?_
    refine ww_iast (ws' := [(a, .inr (0, [.ref b, .int (nI n), .int (nI fo), .int (nI ch)])), (b, .inl (cI, cap, .inl (upd f ((n * 7) + 0) (nI kd))))]) hx hb hw 1 rfl ((n * 7) + 0) rfl (by omega) (by omega) rfl dX0_append_49 (fun H locs hw => ?_)
    refine lv_aload_n hx hb dX0_append_50 rfl (lv_at hl 1 rfl) ?_
    refine ww_get hx hb hts hin0 hown hw 0 rfl rfl 0 (by decide) k9 rfl dX0_append_51 ?_
    refine lv_iload hx hb dX0_append_54 (lv_at hl 0 rfl) ?_
    refine lv_iconst (v := nI 1) hx hb dX0_append_56 (by decide +kernel) ?_
    refine W.eq (g2 := F0 m 57 ls [.int (nI 1), .int (nI (n * 7)), .ref b]) rfl ?_
    refine lv_iadd hx hb dX0_append_57 ?_
    refine lv_eqi (show _ = nI ((n * 7) + 1) from nI_add _ _) ?_
    refine lv_iload_n hx hb dX0_append_58 rfl (lv_at hl 3 rfl) ?_
    refine ww_iast (ws' := [(a, .inr (0, [.ref b, .int (nI n), .int (nI fo), .int (nI ch)])), (b, .inl (cI, cap, .inl (upd (upd f ((n * 7) + 0) (nI kd)) ((n * 7) + 1) x1)))]) hx hb hw 1 rfl ((n * 7) + 1) rfl (by omega) (by omega) rfl dX0_append_59 (fun H locs hw => ?_)
    refine lv_aload_n hx hb dX0_append_60 rfl (lv_at hl 1 rfl) ?_
    refine ww_get hx hb hts hin0 hown hw 0 rfl rfl 0 (by decide) k9 rfl dX0_append_61 ?_
    refine lv_iload hx hb dX0_append_64 (lv_at hl 0 rfl) ?_
    refine lv_iconst (v := nI 2) hx hb dX0_append_66 (by decide +kernel) ?_
    refine lv_iadd hx hb dX0_append_67 ?_
    refine lv_eqi (show _ = nI ((n * 7) + 2) from nI_add _ _) ?_
    refine lv_iload_n hx hb dX0_append_68 rfl (lv_at hl 4 rfl) ?_
    refine ww_iast (ws' := [(a, .inr (0, [.ref b, .int (nI n), .int (nI fo), .int (nI ch)])), (b, .inl (cI, cap, .inl (upd (upd (upd f ((n * 7) + 0) (nI kd)) ((n * 7) + 1) x1) ((n * 7) + 2) x2)))]) hx hb hw 1 rfl ((n * 7) + 2) rfl (by omega) (by omega) rfl dX0_append_69 (fun H locs hw => ?_)
    refine lv_aload_n hx hb dX0_append_70 rfl (lv_at hl 1 rfl) ?_
    refine ww_get hx hb hts hin0 hown hw 0 rfl rfl 0 (by decide) k9 rfl dX0_append_71 ?_
    refine W.eq (g2 := F0 m 74 ls [.ref b]) rfl ?_
    refine lv_iload hx hb dX0_append_74 (lv_at hl 0 rfl) ?_
    refine lv_iconst (v := nI 3) hx hb dX0_append_76 (by decide +kernel) ?_
    refine lv_iadd hx hb dX0_append_77 ?_
    refine lv_eqi (show _ = nI ((n * 7) + 3) from nI_add _ _) ?_
    refine lv_iload hx hb dX0_append_78 (lv_at hl 5 rfl) ?_
    refine ww_iast (ws' := [(a, .inr (0, [.ref b, .int (nI n), .int (nI fo), .int (nI ch)])), (b, .inl (cI, cap, .inl (upd (upd (upd (upd f ((n * 7) + 0) (nI kd)) ((n * 7) + 1) x1) ((n * 7) + 2) x2) ((n * 7) + 3) x3)))]) hx hb hw 1 rfl ((n * 7) + 3) rfl (by omega) (by omega) rfl dX0_append_80 (fun H locs hw => ?_)
    refine lv_aload_n hx hb dX0_append_81 rfl (lv_at hl 1 rfl) ?_
    refine ww_get hx hb hts hin0 hown hw 0 rfl rfl 0 (by decide) k9 rfl dX0_append_82 ?_
    refine lv_iload hx hb dX0_append_85 (lv_at hl 0 rfl) ?_
    refine lv_iconst (v := nI 4) hx hb dX0_append_87 (by decide +kernel) ?_
    refine lv_iadd hx hb dX0_append_88 ?_
    refine lv_eqi (show _ = nI ((n * 7) + 4) from nI_add _ _) ?_
    refine lv_iload hx hb dX0_append_89 (lv_at hl 6 rfl) ?_
    refine ww_iast (ws' := [(a, .inr (0, [.ref b, .int (nI n), .int (nI fo), .int (nI ch)])), (b, .inl (cI, cap, .inl (upd (upd (upd (upd (upd f ((n * 7) + 0) (nI kd)) ((n * 7) + 1) x1) ((n * 7) + 2) x2) ((n * 7) + 3) x3) ((n * 7) + 4) x4)))]) hx hb hw 1 rfl ((n * 7) + 4) rfl (by omega) (by omega) rfl dX0_append_91 (fun H locs hw => ?_)
    refine W.eq (g2 := F0 m 92 ls []) rfl ?_
    refine lv_aload_n hx hb dX0_append_92 rfl (lv_at hl 1 rfl) ?_
    refine ww_get hx hb hts hin0 hown hw 0 rfl rfl 0 (by decide) k9 rfl dX0_append_93 ?_
    refine lv_iload hx hb dX0_append_96 (lv_at hl 0 rfl) ?_
    refine lv_iconst (v := nI 5) hx hb dX0_append_98 (by decide +kernel) ?_
    refine lv_iadd hx hb dX0_append_99 ?_
    refine lv_eqi (show _ = nI ((n * 7) + 5) from nI_add _ _) ?_
    refine lv_iload hx hb dX0_append_100 (lv_at hl 7 rfl) ?_
    refine ww_iast (ws' := [(a, .inr (0, [.ref b, .int (nI n), .int (nI fo), .int (nI ch)])), (b, .inl (cI, cap, .inl (upd (upd (upd (upd (upd (upd f ((n * 7) + 0) (nI kd)) ((n * 7) + 1) x1) ((n * 7) + 2) x2) ((n * 7) + 3) x3) ((n * 7) + 4) x4) ((n * 7) + 5) x5)))]) hx hb hw 1 rfl ((n * 7) + 5) rfl (by omega) (by omega) rfl dX0_append_102 (fun H locs hw => ?_)
    refine lv_aload_n hx hb dX0_append_103 rfl (lv_at hl 1 rfl) ?_
    refine ww_get hx hb hts hin0 hown hw 0 rfl rfl 0 (by decide) k9 rfl dX0_append_104 ?_
    refine lv_iload hx hb dX0_append_107 (lv_at hl 0 rfl) ?_
    refine lv_bipush (v := nI 6) hx hb dX0_append_109 (by decide +kernel) ?_
    refine lv_iadd hx hb dX0_append_111 ?_
    refine lv_eqi (show _ = nI ((n * 7) + 6) from nI_add _ _) ?_
    refine W.eq (g2 := F0 m 112 ls [.int (nI ((n * 7) + 6)), .ref b]) rfl ?_
    refine lv_iload hx hb dX0_append_112 (lv_at hl 8 rfl) ?_
    refine ww_iast (ws' := [(a, .inr (0, [.ref b, .int (nI n), .int (nI fo), .int (nI ch)])), (b, .inl (cI, cap, .inl (upd (upd (upd (upd (upd (upd (upd f ((n * 7) + 0) (nI kd)) ((n * 7) + 1) x1) ((n * 7) + 2) x2) ((n * 7) + 3) x3) ((n * 7) + 4) x4) ((n * 7) + 5) x5) ((n * 7) + 6) x6)))]) hx hb hw 1 rfl ((n * 7) + 6) rfl (by omega) (by omega) rfl dX0_append_114 (fun H locs hw => ?_)
    refine lv_aload_n hx hb dX0_append_115 rfl (lv_at hl 1 rfl) ?_
    refine lv_dup hx hb dX0_append_116 rfl ?_
    refine ww_get hx hb hts hin0 hown hw 0 rfl rfl 1 (by decide) k13 rfl dX0_append_117 ?_
    refine lv_iconst (v := nI 1) hx hb dX0_append_120 (by decide +kernel) ?_
    refine lv_iadd hx hb dX0_append_121 ?_
    refine lv_eqi (show _ = nI (n + 1) from nI_add _ _) ?_
    refine ww_put (ws' := [(a, .inr (0, [.ref b, .int (nI (n + 1)), .int (nI fo), .int (nI ch)])), (b, .inl (cI, cap, .inl (upd (upd (upd (upd (upd (upd (upd f ((n * 7) + 0) (nI kd)) ((n * 7) + 1) x1) ((n * 7) + 2) x2) ((n * 7) + 3) x3) ((n * 7) + 4) x4) ((n * 7) + 5) x5) ((n * 7) + 6) x6)))]) hx hb hts hin0 tyX0 tyX0_ok nmX0 hown hw 0 rfl rfl 1 (by decide) k13 rfl rfl rfl (Nat.le_of_ble_eq_true rfl) rfl dX0_append_122 (fun H locs hw => ?_)
    refine lv_iload_n hx hb dX0_append_125 rfl (lv_at hl 2 rfl) ?_
    refine lv_iconst (v := nI 1) hx hb dX0_append_126 (by decide +kernel) ?_
    refine lv_icmp_ne (tgt := 140) hx hb dX0_append_127 (by decide) (fun c_127 => ?_) (fun c_127 => ?_)
    · refine lv_aload_n hx hb dX0_append_140 rfl (lv_at hl 1 rfl) ?_
      refine ww_get hx hb hts hin0 hown hw 0 rfl rfl 1 (by decide) k13 rfl dX0_append_141 ?_
      exact ww_iret (u := (ch, b, cap, (upd (upd (upd (upd (upd (upd (upd f ((n * 7) + 0) (nI kd)) ((n * 7) + 1) x1) ((n * 7) + 2) x2) ((n * 7) + 3) x3) ((n * 7) + 4) x4) ((n * 7) + 5) x5) ((n * 7) + 6) x6))) hx hb hr hlk hw (⟨rfl, (by rw [if_neg (fun h => c_127 ((nI_eq (by omega) (by omega)).mpr h))]; rfl), (if_neg hg).symm, (upd7 f (n * 7) (nI kd) x1 x2 x3 x4 x5 x6 rfl).1, (upd7 f (n * 7) (nI kd) x1 x2 x3 x4 x5 x6 rfl).2⟩) (by first | exact Nat.zero_le _ | (rw [if_pos hg]; exact Nat.le_refl _)) (by first | exact Nat.zero_le _ | (rw [if_pos hg]; omega)) dX0_append_144
    · refine lv_aload_n hx hb dX0_append_130 rfl (lv_at hl 1 rfl) ?_
      refine lv_dup hx hb dX0_append_131 rfl ?_
      refine ww_get hx hb hts hin0 hown hw 0 rfl rfl 3 (by decide) k20 rfl dX0_append_132 ?_
      refine lv_iconst (v := nI 1) hx hb dX0_append_135 (by decide +kernel) ?_
      refine lv_iadd hx hb dX0_append_136 ?_
      refine lv_eqi (show _ = nI (ch + 1) from nI_add _ _) ?_
      refine ww_put (ws' := [(a, .inr (0, [.ref b, .int (nI (n + 1)), .int (nI fo), .int (nI (ch + 1))])), (b, .inl (cI, cap, .inl (upd (upd (upd (upd (upd (upd (upd f ((n * 7) + 0) (nI kd)) ((n * 7) + 1) x1) ((n * 7) + 2) x2) ((n * 7) + 3) x3) ((n * 7) + 4) x4) ((n * 7) + 5) x5) ((n * 7) + 6) x6)))]) hx hb hts hin0 tyX0 tyX0_ok nmX0 hown hw 0 rfl rfl 3 (by decide) k20 rfl rfl rfl (Nat.le_of_ble_eq_true rfl) rfl dX0_append_137 (fun H locs hw => ?_)
      refine lv_aload_n hx hb dX0_append_140 rfl (lv_at hl 1 rfl) ?_
      refine ww_get hx hb hts hin0 hown hw 0 rfl rfl 1 (by decide) k13 rfl dX0_append_141 ?_
      exact ww_iret (u := ((ch + 1), b, cap, (upd (upd (upd (upd (upd (upd (upd f ((n * 7) + 0) (nI kd)) ((n * 7) + 1) x1) ((n * 7) + 2) x2) ((n * 7) + 3) x3) ((n * 7) + 4) x4) ((n * 7) + 5) x5) ((n * 7) + 6) x6))) hx hb hr hlk hw (⟨rfl, (by rw [if_pos ((nI_eq (by omega) (by omega)).mp c_127)]), (if_neg hg).symm, (upd7 f (n * 7) (nI kd) x1 x2 x3 x4 x5 x6 rfl).1, (upd7 f (n * 7) (nI kd) x1 x2 x3 x4 x5 x6 rfl).2⟩) (by first | exact Nat.zero_le _ | (rw [if_pos hg]; exact Nat.le_refl _)) (by first | exact Nat.zero_le _ | (rw [if_pos hg]; omega)) dX0_append_144
  · refine lv_aload_n hx hb dX0_append_22 rfl (lv_at hl 1 rfl) ?_
    refine lv_aload_n hx hb dX0_append_23 rfl (lv_at hl 1 rfl) ?_
    refine ww_get hx hb hts hin0 hown hw 0 rfl rfl 0 (by decide) k9 rfl dX0_append_24 ?_
    refine lv_aload_n hx hb dX0_append_27 rfl (lv_at hl 1 rfl) ?_
    refine ww_get hx hb hts hin0 hown hw 0 rfl rfl 0 (by decide) k9 rfl dX0_append_28 ?_
    refine ww_alen hx hb hw 1 rfl dX0_append_31 ?_
    refine lv_iconst (v := nI 2) hx hb dX0_append_32 (by decide +kernel) ?_
    refine lv_imul hx hb dX0_append_33 ?_
    refine lv_eqi (show _ = nI (cap * 2) from pk_mul _ _) ?_
    have hg : cap < n * 7 + 7 := by simp (disch := omega) only [i_le, nI_toInt] at c_19; omega
    refine ww_callS ([(a, .inr (0, [.ref b, .int (nI n), .int (nI fo), .int (nI ch)]))]) ([]) (As := [.ref b, .int (nI (cap * 2))]) (rest := [.ref a]) ⟨hx, hb, hml, hown, hts⟩ (cJ_copyOf l D cI b cap (cap * 2) f (by omega) (by omega)) gX0_append_J7_copyOf_59c91 rfl hd_J7_copyOf_59c91 ⟨Nat.le_of_ble_eq_true rfl, Nat.le_of_ble_eq_true rfl⟩ hw rfl rfl rfl hl.1 (Nat.le_of_ble_eq_true rfl) dX0_append_34 ⟨by show 0 + 1 ≤ (if cap < n * 7 + 7 then 1 else 0); rw [if_pos hg]; exact Nat.le_refl _, by show 0 + cap * 2 ≤ (if cap < n * 7 + 7 then cap * 2 else 0); rw [if_pos hg]; omega⟩ (fun v q H locs hq hw => ?_)
    subst hq
    have hw : ww D cI _ _ s ([(a, .inr (0, [.ref b, .int (nI n), .int (nI fo), .int (nI ch)])), (b, .inl (cI, cap, .inl f)), (q, .inl (cI, (cap * 2), .inl (va_cpy f (fun _ => 0) 0 0 cap)))]) H locs := hw
    refine W.eq (g2 := F0 m 37 ls [.ref q, .ref a]) rfl ?_
    refine ww_put (ws' := [(a, .inr (0, [.ref q, .int (nI n), .int (nI fo), .int (nI ch)])), (b, .inl (cI, cap, .inl f)), (q, .inl (cI, (cap * 2), .inl (va_cpy f (fun _ => 0) 0 0 cap)))]) hx hb hts hin0 tyX0 tyX0_ok nmX0 hown hw 0 rfl rfl 0 (by decide) k9 rfl rfl rfl (Nat.le_of_ble_eq_true rfl) rfl dX0_append_37 (fun H locs hw => ?_)
    have hw : ww D cI _ _ s ([(a, .inr (0, [.ref q, .int (nI n), .int (nI fo), .int (nI ch)])), (q, .inl (cI, (cap * 2), .inl (va_cpy f (fun _ => 0) 0 0 cap)))]) H locs := ww_sub hw [0, 2] rfl rfl
    have hcp : n * 7 + 7 ≤ cap * 2 := by omega
    refine lv_aload_n hx hb dX0_append_40 rfl (lv_at hl 1 rfl) ?_
    refine ww_get hx hb hts hin0 hown hw 0 rfl rfl 0 (by decide) k9 rfl dX0_append_41 ?_
    refine W.eq (g2 := F0 m 44 ls [.ref q]) rfl ?_
    refine lv_iload hx hb dX0_append_44 (lv_at hl 0 rfl) ?_
    refine lv_iconst (v := nI 0) hx hb dX0_append_46 (by decide +kernel) ?_
    refine lv_iadd hx hb dX0_append_47 ?_
    refine lv_eqi (show _ = nI ((n * 7) + 0) from nI_add _ _) ?_
    refine lv_iload_n hx hb dX0_append_48 rfl (lv_at hl 2 rfl) ?_
    refine ww_iast (ws' := [(a, .inr (0, [.ref q, .int (nI n), .int (nI fo), .int (nI ch)])), (q, .inl (cI, (cap * 2), .inl (upd (va_cpy f (fun _ => 0) 0 0 cap) ((n * 7) + 0) (nI kd))))]) hx hb hw 1 rfl ((n * 7) + 0) rfl (by omega) (by omega) rfl dX0_append_49 (fun H locs hw => ?_)
    refine lv_aload_n hx hb dX0_append_50 rfl (lv_at hl 1 rfl) ?_
    refine ww_get hx hb hts hin0 hown hw 0 rfl rfl 0 (by decide) k9 rfl dX0_append_51 ?_
    refine lv_iload hx hb dX0_append_54 (lv_at hl 0 rfl) ?_
    refine lv_iconst (v := nI 1) hx hb dX0_append_56 (by decide +kernel) ?_
    refine lv_iadd hx hb dX0_append_57 ?_
    refine lv_eqi (show _ = nI ((n * 7) + 1) from nI_add _ _) ?_
    refine lv_iload_n hx hb dX0_append_58 rfl (lv_at hl 3 rfl) ?_
    refine ww_iast (ws' := [(a, .inr (0, [.ref q, .int (nI n), .int (nI fo), .int (nI ch)])), (q, .inl (cI, (cap * 2), .inl (upd (upd (va_cpy f (fun _ => 0) 0 0 cap) ((n * 7) + 0) (nI kd)) ((n * 7) + 1) x1)))]) hx hb hw 1 rfl ((n * 7) + 1) rfl (by omega) (by omega) rfl dX0_append_59 (fun H locs hw => ?_)
    refine W.eq (g2 := F0 m 60 ls []) rfl ?_
    refine lv_aload_n hx hb dX0_append_60 rfl (lv_at hl 1 rfl) ?_
    refine ww_get hx hb hts hin0 hown hw 0 rfl rfl 0 (by decide) k9 rfl dX0_append_61 ?_
    refine lv_iload hx hb dX0_append_64 (lv_at hl 0 rfl) ?_
    refine lv_iconst (v := nI 2) hx hb dX0_append_66 (by decide +kernel) ?_
    refine lv_iadd hx hb dX0_append_67 ?_
    refine lv_eqi (show _ = nI ((n * 7) + 2) from nI_add _ _) ?_
    refine lv_iload_n hx hb dX0_append_68 rfl (lv_at hl 4 rfl) ?_
    refine ww_iast (ws' := [(a, .inr (0, [.ref q, .int (nI n), .int (nI fo), .int (nI ch)])), (q, .inl (cI, (cap * 2), .inl (upd (upd (upd (va_cpy f (fun _ => 0) 0 0 cap) ((n * 7) + 0) (nI kd)) ((n * 7) + 1) x1) ((n * 7) + 2) x2)))]) hx hb hw 1 rfl ((n * 7) + 2) rfl (by omega) (by omega) rfl dX0_append_69 (fun H locs hw => ?_)
    refine lv_aload_n hx hb dX0_append_70 rfl (lv_at hl 1 rfl) ?_
    refine ww_get hx hb hts hin0 hown hw 0 rfl rfl 0 (by decide) k9 rfl dX0_append_71 ?_
    refine lv_iload hx hb dX0_append_74 (lv_at hl 0 rfl) ?_
    refine lv_iconst (v := nI 3) hx hb dX0_append_76 (by decide +kernel) ?_
    refine lv_iadd hx hb dX0_append_77 ?_
    refine lv_eqi (show _ = nI ((n * 7) + 3) from nI_add _ _) ?_
    refine W.eq (g2 := F0 m 78 ls [.int (nI ((n * 7) + 3)), .ref q]) rfl ?_
    refine lv_iload hx hb dX0_append_78 (lv_at hl 5 rfl) ?_
    refine ww_iast (ws' := [(a, .inr (0, [.ref q, .int (nI n), .int (nI fo), .int (nI ch)])), (q, .inl (cI, (cap * 2), .inl (upd (upd (upd (upd (va_cpy f (fun _ => 0) 0 0 cap) ((n * 7) + 0) (nI kd)) ((n * 7) + 1) x1) ((n * 7) + 2) x2) ((n * 7) + 3) x3)))]) hx hb hw 1 rfl ((n * 7) + 3) rfl (by omega) (by omega) rfl dX0_append_80 (fun H locs hw => ?_)
    refine lv_aload_n hx hb dX0_append_81 rfl (lv_at hl 1 rfl) ?_
    refine ww_get hx hb hts hin0 hown hw 0 rfl rfl 0 (by decide) k9 rfl dX0_append_82 ?_
    refine lv_iload hx hb dX0_append_85 (lv_at hl 0 rfl) ?_
    refine lv_iconst (v := nI 4) hx hb dX0_append_87 (by decide +kernel) ?_
    refine lv_iadd hx hb dX0_append_88 ?_
    refine lv_eqi (show _ = nI ((n * 7) + 4) from nI_add _ _) ?_
    refine lv_iload hx hb dX0_append_89 (lv_at hl 6 rfl) ?_
    refine ww_iast (ws' := [(a, .inr (0, [.ref q, .int (nI n), .int (nI fo), .int (nI ch)])), (q, .inl (cI, (cap * 2), .inl (upd (upd (upd (upd (upd (va_cpy f (fun _ => 0) 0 0 cap) ((n * 7) + 0) (nI kd)) ((n * 7) + 1) x1) ((n * 7) + 2) x2) ((n * 7) + 3) x3) ((n * 7) + 4) x4)))]) hx hb hw 1 rfl ((n * 7) + 4) rfl (by omega) (by omega) rfl dX0_append_91 (fun H locs hw => ?_)
    refine lv_aload_n hx hb dX0_append_92 rfl (lv_at hl 1 rfl) ?_
    refine ww_get hx hb hts hin0 hown hw 0 rfl rfl 0 (by decide) k9 rfl dX0_append_93 ?_
    refine lv_iload hx hb dX0_append_96 (lv_at hl 0 rfl) ?_
    refine W.eq (g2 := F0 m 98 ls [.int (nI (n * 7)), .ref q]) rfl ?_
    refine lv_iconst (v := nI 5) hx hb dX0_append_98 (by decide +kernel) ?_
    refine lv_iadd hx hb dX0_append_99 ?_
    refine lv_eqi (show _ = nI ((n * 7) + 5) from nI_add _ _) ?_
    refine lv_iload hx hb dX0_append_100 (lv_at hl 7 rfl) ?_
    refine ww_iast (ws' := [(a, .inr (0, [.ref q, .int (nI n), .int (nI fo), .int (nI ch)])), (q, .inl (cI, (cap * 2), .inl (upd (upd (upd (upd (upd (upd (va_cpy f (fun _ => 0) 0 0 cap) ((n * 7) + 0) (nI kd)) ((n * 7) + 1) x1) ((n * 7) + 2) x2) ((n * 7) + 3) x3) ((n * 7) + 4) x4) ((n * 7) + 5) x5)))]) hx hb hw 1 rfl ((n * 7) + 5) rfl (by omega) (by omega) rfl dX0_append_102 (fun H locs hw => ?_)
    refine lv_aload_n hx hb dX0_append_103 rfl (lv_at hl 1 rfl) ?_
    refine ww_get hx hb hts hin0 hown hw 0 rfl rfl 0 (by decide) k9 rfl dX0_append_104 ?_
    refine lv_iload hx hb dX0_append_107 (lv_at hl 0 rfl) ?_
    refine lv_bipush (v := nI 6) hx hb dX0_append_109 (by decide +kernel) ?_
    refine lv_iadd hx hb dX0_append_111 ?_
    refine lv_eqi (show _ = nI ((n * 7) + 6) from nI_add _ _) ?_
    refine lv_iload hx hb dX0_append_112 (lv_at hl 8 rfl) ?_
    refine ww_iast (ws' := [(a, .inr (0, [.ref q, .int (nI n), .int (nI fo), .int (nI ch)])), (q, .inl (cI, (cap * 2), .inl (upd (upd (upd (upd (upd (upd (upd (va_cpy f (fun _ => 0) 0 0 cap) ((n * 7) + 0) (nI kd)) ((n * 7) + 1) x1) ((n * 7) + 2) x2) ((n * 7) + 3) x3) ((n * 7) + 4) x4) ((n * 7) + 5) x5) ((n * 7) + 6) x6)))]) hx hb hw 1 rfl ((n * 7) + 6) rfl (by omega) (by omega) rfl dX0_append_114 (fun H locs hw => ?_)
    refine lv_aload_n hx hb dX0_append_115 rfl (lv_at hl 1 rfl) ?_
    refine W.eq (g2 := F0 m 116 ls [.ref a]) rfl ?_
    refine lv_dup hx hb dX0_append_116 rfl ?_
    refine ww_get hx hb hts hin0 hown hw 0 rfl rfl 1 (by decide) k13 rfl dX0_append_117 ?_
    refine lv_iconst (v := nI 1) hx hb dX0_append_120 (by decide +kernel) ?_
    refine lv_iadd hx hb dX0_append_121 ?_
    refine lv_eqi (show _ = nI (n + 1) from nI_add _ _) ?_
    refine ww_put (ws' := [(a, .inr (0, [.ref q, .int (nI (n + 1)), .int (nI fo), .int (nI ch)])), (q, .inl (cI, (cap * 2), .inl (upd (upd (upd (upd (upd (upd (upd (va_cpy f (fun _ => 0) 0 0 cap) ((n * 7) + 0) (nI kd)) ((n * 7) + 1) x1) ((n * 7) + 2) x2) ((n * 7) + 3) x3) ((n * 7) + 4) x4) ((n * 7) + 5) x5) ((n * 7) + 6) x6)))]) hx hb hts hin0 tyX0 tyX0_ok nmX0 hown hw 0 rfl rfl 1 (by decide) k13 rfl rfl rfl (Nat.le_of_ble_eq_true rfl) rfl dX0_append_122 (fun H locs hw => ?_)
    refine lv_iload_n hx hb dX0_append_125 rfl (lv_at hl 2 rfl) ?_
    refine lv_iconst (v := nI 1) hx hb dX0_append_126 (by decide +kernel) ?_
    refine lv_icmp_ne (tgt := 140) hx hb dX0_append_127 (by decide) (fun c_127 => ?_) (fun c_127 => ?_)
    · refine lv_aload_n hx hb dX0_append_140 rfl (lv_at hl 1 rfl) ?_
      refine ww_get hx hb hts hin0 hown hw 0 rfl rfl 1 (by decide) k13 rfl dX0_append_141 ?_
      exact ww_iret (u := (ch, q, (cap * 2), (upd (upd (upd (upd (upd (upd (upd (va_cpy f (fun _ => 0) 0 0 cap) ((n * 7) + 0) (nI kd)) ((n * 7) + 1) x1) ((n * 7) + 2) x2) ((n * 7) + 3) x3) ((n * 7) + 4) x4) ((n * 7) + 5) x5) ((n * 7) + 6) x6))) hx hb hr hlk hw (⟨rfl, (by rw [if_neg (fun h => c_127 ((nI_eq (by omega) (by omega)).mpr h))]; rfl), (if_pos hg).symm, fun i hi => ((upd7 (va_cpy f (fun _ => 0) 0 0 cap) (n * 7) (nI kd) x1 x2 x3 x4 x5 x6 rfl).1 i hi).trans (cpy0 (by omega)), (upd7 (va_cpy f (fun _ => 0) 0 0 cap) (n * 7) (nI kd) x1 x2 x3 x4 x5 x6 rfl).2⟩) (by first | exact Nat.zero_le _ | (rw [if_pos hg]; exact Nat.le_refl _)) (by first | exact Nat.zero_le _ | (rw [if_pos hg]; omega)) dX0_append_144
    · refine lv_aload_n hx hb dX0_append_130 rfl (lv_at hl 1 rfl) ?_
      refine lv_dup hx hb dX0_append_131 rfl ?_
      refine ww_get hx hb hts hin0 hown hw 0 rfl rfl 3 (by decide) k20 rfl dX0_append_132 ?_
      refine lv_iconst (v := nI 1) hx hb dX0_append_135 (by decide +kernel) ?_
      refine lv_iadd hx hb dX0_append_136 ?_
      refine lv_eqi (show _ = nI (ch + 1) from nI_add _ _) ?_
      refine ww_put (ws' := [(a, .inr (0, [.ref q, .int (nI (n + 1)), .int (nI fo), .int (nI (ch + 1))])), (q, .inl (cI, (cap * 2), .inl (upd (upd (upd (upd (upd (upd (upd (va_cpy f (fun _ => 0) 0 0 cap) ((n * 7) + 0) (nI kd)) ((n * 7) + 1) x1) ((n * 7) + 2) x2) ((n * 7) + 3) x3) ((n * 7) + 4) x4) ((n * 7) + 5) x5) ((n * 7) + 6) x6)))]) hx hb hts hin0 tyX0 tyX0_ok nmX0 hown hw 0 rfl rfl 3 (by decide) k20 rfl rfl rfl (Nat.le_of_ble_eq_true rfl) rfl dX0_append_137 (fun H locs hw => ?_)
      refine lv_aload_n hx hb dX0_append_140 rfl (lv_at hl 1 rfl) ?_
      refine ww_get hx hb hts hin0 hown hw 0 rfl rfl 1 (by decide) k13 rfl dX0_append_141 ?_
      exact ww_iret (u := ((ch + 1), q, (cap * 2), (upd (upd (upd (upd (upd (upd (upd (va_cpy f (fun _ => 0) 0 0 cap) ((n * 7) + 0) (nI kd)) ((n * 7) + 1) x1) ((n * 7) + 2) x2) ((n * 7) + 3) x3) ((n * 7) + 4) x4) ((n * 7) + 5) x5) ((n * 7) + 6) x6))) hx hb hr hlk hw (⟨rfl, (by rw [if_pos ((nI_eq (by omega) (by omega)).mp c_127)]), (if_pos hg).symm, fun i hi => ((upd7 (va_cpy f (fun _ => 0) 0 0 cap) (n * 7) (nI kd) x1 x2 x3 x4 x5 x6 rfl).1 i hi).trans (cpy0 (by omega)), (upd7 (va_cpy f (fun _ => 0) 0 0 cap) (n * 7) (nI kd) x1 x2 x3 x4 x5 x6 rfl).2⟩) (by first | exact Nat.zero_le _ | (rw [if_pos hg]; exact Nat.le_refl _)) (by first | exact Nat.zero_le _ | (rw [if_pos hg]; omega)) dX0_append_144
set_option maxHeartbeats 4000000 in
set_option maxRecDepth 100000 in
theorem cL_init (l : Launch) (D : va_G) (cI : ClassId) (a : Nat) : Kt l yX0_init wsX0_init 1 12 (1) (896) D cI [.ref a] ([(a, .inr (0, [.null, .int 0, .int 0, .int 0]))]) (pV (fun (u : Nat) => True)) (fun (u : Nat) => [(a, .inr (0, [.ref u, .int (nI 0), .int (nI 0), .int (nI 0)])), (u, .inl (cI, 896, .inl (fun _ => 0)))]) := by
  refine kt_start (cc := cX0_init) (maxL := 1) (ret := none) (by decide +kernel) rfl (Nat.le_of_ble_eq_true rfl) ?_
  intro p e s m below meth c hx hb hml hr hlk hown hnm hts ls hl hw
  have hown : s.vm.findClass RX0 = some m.cls := hown
  have hl : lv_has ls 1 [(0, .ref a)] := hl
  have k9 := hts (.fieldLink RX0 9 "RestartBook$Log" "cells" "[I") (by decide +kernel)
  have k13 := hts (.fieldLink RX0 13 "RestartBook$Log" "records" "I") (by decide +kernel)
  have k17 := hts (.fieldLink RX0 17 "RestartBook$Log" "forced" "I") (by decide +kernel)
  have k20 := hts (.fieldLink RX0 20 "RestartBook$Log" "changes" "I") (by decide +kernel)
  have hin0 : ∀ w ∈ u_ws RX0 TX0 4, w ∈ wsX0_init := in_X0_init
  have harr := hts (.arrayClass .int) (by decide +kernel)
  refine lv_aload_n hx hb dX0_init_0 rfl (lv_at hl 0 rfl) ?_
  refine W.objInit hx hb hown (hts (.methodLink RX0 1 objectInit) (by decide +kernel)) (hts (.instanceMethod objectInit) (by decide +kernel)) (hts _ (List.mem_of_getElem? (l := wsX0_init) (i := 3) rfl)) rfl (by rw [hml]; exact hl.1) rfl dX0_init_1 (Nat.le_of_ble_eq_true rfl) (Nat.le_of_ble_eq_true rfl) ?_
  refine W.eq (g2 := F0 m 4 ls []) rfl ?_
  refine lv_aload_n hx hb dX0_init_4 rfl (lv_at hl 0 rfl) ?_
  refine lv_sipush (v := nI 896) hx hb dX0_init_5 (by decide +kernel) ?_
  refine ww_newa (N := 896) hx hb harr hw rfl (by omega) (Nat.le_of_ble_eq_true rfl) (Nat.le_of_ble_eq_true rfl) dX0_init_8 (fun q8 H hw => ?_)
  have hw : ww D cI _ _ s ([(a, .inr (0, [.null, .int 0, .int 0, .int 0])), (q8, .inl (cI, 896, .inl (fun _ => 0)))]) H _ := hw
  refine ww_put (ws' := [(a, .inr (0, [.ref q8, .int 0, .int 0, .int 0])), (q8, .inl (cI, 896, .inl (fun _ => 0)))]) hx hb hts hin0 tyX0 tyX0_ok nmX0 hown hw 0 rfl rfl 0 (by decide) k9 rfl rfl rfl (Nat.le_of_ble_eq_true rfl) rfl dX0_init_10 (fun H locs hw => ?_)
  refine lv_aload_n hx hb dX0_init_13 rfl (lv_at hl 0 rfl) ?_
  refine lv_iconst (v := nI 0) hx hb dX0_init_14 (by decide +kernel) ?_
  refine ww_put (ws' := [(a, .inr (0, [.ref q8, .int (nI 0), .int 0, .int 0])), (q8, .inl (cI, 896, .inl (fun _ => 0)))]) hx hb hts hin0 tyX0 tyX0_ok nmX0 hown hw 0 rfl rfl 1 (by decide) k13 rfl rfl rfl (Nat.le_of_ble_eq_true rfl) rfl dX0_init_15 (fun H locs hw => ?_)
  refine lv_aload_n hx hb dX0_init_18 rfl (lv_at hl 0 rfl) ?_
  refine lv_iconst (v := nI 0) hx hb dX0_init_19 (by decide +kernel) ?_
  refine W.eq (g2 := F0 m 20 ls [.int (nI 0), .ref a]) rfl ?_
  refine ww_put (ws' := [(a, .inr (0, [.ref q8, .int (nI 0), .int (nI 0), .int 0])), (q8, .inl (cI, 896, .inl (fun _ => 0)))]) hx hb hts hin0 tyX0 tyX0_ok nmX0 hown hw 0 rfl rfl 2 (by decide) k17 rfl rfl rfl (Nat.le_of_ble_eq_true rfl) rfl dX0_init_20 (fun H locs hw => ?_)
  refine lv_aload_n hx hb dX0_init_23 rfl (lv_at hl 0 rfl) ?_
  refine lv_iconst (v := nI 0) hx hb dX0_init_24 (by decide +kernel) ?_
  refine ww_put (ws' := [(a, .inr (0, [.ref q8, .int (nI 0), .int (nI 0), .int (nI 0)])), (q8, .inl (cI, 896, .inl (fun _ => 0)))]) hx hb hts hin0 tyX0 tyX0_ok nmX0 hown hw 0 rfl rfl 3 (by decide) k20 rfl rfl rfl (Nat.le_of_ble_eq_true rfl) rfl dX0_init_25 (fun H locs hw => ?_)
  exact ww_vret (u := q8) hx hb hr hlk hw (trivial) (Nat.le_refl _) (Nat.le_refl _) rfl dX0_init_28
end
section
/-! RestartBook.Pages -/
set_option maxRecDepth 20000 in
theorem in_X1_valueOf : ∀ w ∈ u_ws RX1 TX1 4, w ∈ wsX1_valueOf := by
  intro w h
  show w ∈ wsX1_valueOf
  simp only [wsX1_valueOf, List.mem_cons, List.mem_append]
  simp only [h, true_or, or_true]
set_option maxRecDepth 20000 in
theorem in_X1_markOf : ∀ w ∈ u_ws RX1 TX1 4, w ∈ wsX1_markOf := by
  intro w h
  show w ∈ wsX1_markOf
  simp only [wsX1_markOf, List.mem_cons, List.mem_append]
  simp only [h, true_or, or_true]
set_option maxRecDepth 20000 in
theorem in_X1_mediumMarkOf : ∀ w ∈ u_ws RX1 TX1 4, w ∈ wsX1_mediumMarkOf := by
  intro w h
  show w ∈ wsX1_mediumMarkOf
  simp only [wsX1_mediumMarkOf, List.mem_cons, List.mem_append]
  simp only [h, true_or, or_true]
set_option maxRecDepth 20000 in
theorem in_X1_change : ∀ w ∈ u_ws RX1 TX1 4, w ∈ wsX1_change := by
  intro w h
  show w ∈ wsX1_change
  simp only [wsX1_change, List.mem_cons, List.mem_append]
  simp only [h, true_or, or_true]
set_option maxRecDepth 20000 in
theorem in_X1_copyToMedium : ∀ w ∈ u_ws RX1 TX1 4, w ∈ wsX1_copyToMedium := by
  intro w h
  show w ∈ wsX1_copyToMedium
  simp only [wsX1_copyToMedium, List.mem_cons, List.mem_append]
  simp only [h, true_or, or_true]
set_option maxRecDepth 20000 in
theorem in_X1_readAllFromMedium : ∀ w ∈ u_ws RX1 TX1 4, w ∈ wsX1_readAllFromMedium := by
  intro w h
  show w ∈ wsX1_readAllFromMedium
  simp only [wsX1_readAllFromMedium, List.mem_cons, List.mem_append]
  simp only [h, true_or, or_true]
set_option maxRecDepth 20000 in
theorem in_X1_init : ∀ w ∈ u_ws RX1 TX1 4, w ∈ wsX1_init := by
  intro w h
  show w ∈ wsX1_init
  simp only [wsX1_init, List.mem_cons, List.mem_append]
  simp only [h, true_or, or_true]
theorem hd_X1_valueOf : yX1_valueOf.cls = RX1 ∧ yX1_valueOf.cls ≠ "java/lang/invoke/MethodHandle" ∧ yX1_valueOf.cls ≠ "java/lang/invoke/VarHandle" ∧ (parseMethodDescriptor yX1_valueOf.desc).map (fun d => d.parameters.length) = some 2 := by decide +kernel
theorem hd_X1_markOf : yX1_markOf.cls = RX1 ∧ yX1_markOf.cls ≠ "java/lang/invoke/MethodHandle" ∧ yX1_markOf.cls ≠ "java/lang/invoke/VarHandle" ∧ (parseMethodDescriptor yX1_markOf.desc).map (fun d => d.parameters.length) = some 1 := by decide +kernel
theorem hd_X1_mediumMarkOf : yX1_mediumMarkOf.cls = RX1 ∧ yX1_mediumMarkOf.cls ≠ "java/lang/invoke/MethodHandle" ∧ yX1_mediumMarkOf.cls ≠ "java/lang/invoke/VarHandle" ∧ (parseMethodDescriptor yX1_mediumMarkOf.desc).map (fun d => d.parameters.length) = some 1 := by decide +kernel
theorem hd_X1_change : yX1_change.cls = RX1 ∧ yX1_change.cls ≠ "java/lang/invoke/MethodHandle" ∧ yX1_change.cls ≠ "java/lang/invoke/VarHandle" ∧ (parseMethodDescriptor yX1_change.desc).map (fun d => d.parameters.length) = some 4 := by decide +kernel
theorem hd_X1_copyToMedium : yX1_copyToMedium.cls = RX1 ∧ yX1_copyToMedium.cls ≠ "java/lang/invoke/MethodHandle" ∧ yX1_copyToMedium.cls ≠ "java/lang/invoke/VarHandle" ∧ (parseMethodDescriptor yX1_copyToMedium.desc).map (fun d => d.parameters.length) = some 1 := by decide +kernel
theorem hd_X1_readAllFromMedium : yX1_readAllFromMedium.cls = RX1 ∧ yX1_readAllFromMedium.cls ≠ "java/lang/invoke/MethodHandle" ∧ yX1_readAllFromMedium.cls ≠ "java/lang/invoke/VarHandle" ∧ (parseMethodDescriptor yX1_readAllFromMedium.desc).map (fun d => d.parameters.length) = some 0 := by decide +kernel
theorem hd_X1_hasPage : yX1_hasPage.cls ≠ "java/lang/invoke/MethodHandle" ∧ yX1_hasPage.cls ≠ "java/lang/invoke/VarHandle" ∧ (parseMethodDescriptor yX1_hasPage.desc).map (fun d => d.parameters.length) = some 1 := by decide +kernel
theorem hd_X1_hasPlace : yX1_hasPlace.cls ≠ "java/lang/invoke/MethodHandle" ∧ yX1_hasPlace.cls ≠ "java/lang/invoke/VarHandle" ∧ (parseMethodDescriptor yX1_hasPlace.desc).map (fun d => d.parameters.length) = some 2 := by decide +kernel
theorem ix_y {x : Int32} {n : Nat} (hn : n < 2 ^ 31) (h1 : ¬ x < 0) (h2 : ¬ nI n ≤ x) : ∃ j : Nat, j < n ∧ x = nI j := ((pk_ix x hn).resolve_left h1).resolve_left h2
theorem ix_n {x : Int32} {n : Nat} (hn : n < 2 ^ 31) (h : x < 0 ∨ nI n ≤ x) : ¬ ∃ j : Nat, j < n ∧ x = nI j := by
  rintro ⟨j, hj, rfl⟩
  rcases h with h | h
  · exact nI_pos (by omega) h
  · exact nI_ge hj hn h
set_option maxHeartbeats 4000000 in
set_option maxRecDepth 100000 in
theorem cP_hasPage (l : Launch) (D : va_G) (cI : ClassId) (x : Int32) : Kt l yX1_hasPage wsX1_hasPage 0 0 (0) (0) D cI [.int x] ([]) (pI (fun (r : Int32) (u : Unit) => (r = 1 ∧ ∃ j : Nat, j < 64 ∧ x = nI j) ∨ (r = 0 ∧ ¬ ∃ j : Nat, j < 64 ∧ x = nI j))) (fun (u : Unit) => []) := by
  refine kt_start (cc := cX1_hasPage) (maxL := 1) (ret := (some .boolean)) (by decide +kernel) rfl (Nat.le_of_ble_eq_true rfl) ?_
  intro p e s m below meth c hx hb hml hr hlk hown hnm hts ls hl hw
  have hown : s.vm.findClass RX1 = some m.cls := hown
  have hl : lv_has ls 1 [(0, .int x)] := hl
  refine lv_iload_n hx hb dX1_hasPage_0 rfl (lv_at hl 0 rfl) ?_
  refine lv_if_lt (tgt := 14) hx hb dX1_hasPage_1 (by decide) (fun c_1 => ?_) (fun c_1 => ?_)
  · refine lv_iconst (v := nI 0) hx hb dX1_hasPage_14 (by decide +kernel) ?_
    exact ww_zret (u := ()) hx hb hr hlk (by decide +kernel) hw (Or.inr ⟨by decide, ix_n (by omega) (by first | exact Or.inl c_1 | exact Or.inr c_7)⟩) (Nat.le_of_ble_eq_true rfl) (Nat.le_of_ble_eq_true rfl) dX1_hasPage_15
  · refine lv_iload_n hx hb dX1_hasPage_4 rfl (lv_at hl 0 rfl) ?_
    refine lv_bipush (v := nI 64) hx hb dX1_hasPage_5 (by decide +kernel) ?_
    refine lv_icmp_ge (tgt := 14) hx hb dX1_hasPage_7 (by decide) (fun c_7 => ?_) (fun c_7 => ?_)
    · refine lv_iconst (v := nI 0) hx hb dX1_hasPage_14 (by decide +kernel) ?_
      exact ww_zret (u := ()) hx hb hr hlk (by decide +kernel) hw (Or.inr ⟨by decide, ix_n (by omega) (by first | exact Or.inl c_1 | exact Or.inr c_7)⟩) (Nat.le_of_ble_eq_true rfl) (Nat.le_of_ble_eq_true rfl) dX1_hasPage_15
    · refine lv_iconst (v := nI 1) hx hb dX1_hasPage_10 (by decide +kernel) ?_
      refine lv_goto (tgt := 15) hx hb dX1_hasPage_11 (by decide) ?_
      exact ww_zret (u := ()) hx hb hr hlk (by decide +kernel) hw (Or.inl ⟨by decide, ix_y (by omega) c_1 c_7⟩) (Nat.le_of_ble_eq_true rfl) (Nat.le_of_ble_eq_true rfl) dX1_hasPage_15
set_option maxHeartbeats 4000000 in
set_option maxRecDepth 100000 in
theorem cP_hasPlace (l : Launch) (D : va_G) (cI : ClassId) (x y : Int32) : Kt l yX1_hasPlace wsX1_hasPlace 0 0 (0) (0) D cI [.int x, .int y] ([]) (pI (fun (r : Int32) (u : Unit) => (r = 1 ∧ (∃ j : Nat, j < 64 ∧ x = nI j) ∧ (∃ k : Nat, k < 8 ∧ y = nI k)) ∨ (r = 0 ∧ ¬ ((∃ j : Nat, j < 64 ∧ x = nI j) ∧ (∃ k : Nat, k < 8 ∧ y = nI k))))) (fun (u : Unit) => []) := by
  refine kt_start (cc := cX1_hasPlace) (maxL := 2) (ret := (some .boolean)) (by decide +kernel) rfl (Nat.le_of_ble_eq_true rfl) ?_
  intro p e s m below meth c hx hb hml hr hlk hown hnm hts ls hl hw
  have hown : s.vm.findClass RX1 = some m.cls := hown
  have hl : lv_has ls 2 [(0, .int x), (1, .int y)] := hl
  refine lv_iload_n hx hb dX1_hasPlace_0 rfl (lv_at hl 0 rfl) ?_
  refine lv_if_lt (tgt := 24) hx hb dX1_hasPlace_1 (by decide) (fun c_1 => ?_) (fun c_1 => ?_)
  · refine lv_iconst (v := nI 0) hx hb dX1_hasPlace_24 (by decide +kernel) ?_
    exact ww_zret (u := ()) hx hb hr hlk (by decide +kernel) hw (Or.inr ⟨by decide, fun h => by first | exact ix_n (by omega) (Or.inl c_1) h.1 | exact ix_n (by omega) (Or.inr c_7) h.1 | exact ix_n (by omega) (Or.inl c_11) h.2 | exact ix_n (by omega) (Or.inr c_17) h.2⟩) (Nat.le_of_ble_eq_true rfl) (Nat.le_of_ble_eq_true rfl) dX1_hasPlace_25
  · refine lv_iload_n hx hb dX1_hasPlace_4 rfl (lv_at hl 0 rfl) ?_
    refine lv_bipush (v := nI 64) hx hb dX1_hasPlace_5 (by decide +kernel) ?_
    refine lv_icmp_ge (tgt := 24) hx hb dX1_hasPlace_7 (by decide) (fun c_7 => ?_) (fun c_7 => ?_)
    · refine lv_iconst (v := nI 0) hx hb dX1_hasPlace_24 (by decide +kernel) ?_
      exact ww_zret (u := ()) hx hb hr hlk (by decide +kernel) hw (Or.inr ⟨by decide, fun h => by first | exact ix_n (by omega) (Or.inl c_1) h.1 | exact ix_n (by omega) (Or.inr c_7) h.1 | exact ix_n (by omega) (Or.inl c_11) h.2 | exact ix_n (by omega) (Or.inr c_17) h.2⟩) (Nat.le_of_ble_eq_true rfl) (Nat.le_of_ble_eq_true rfl) dX1_hasPlace_25
    · refine lv_iload_n hx hb dX1_hasPlace_10 rfl (lv_at hl 1 rfl) ?_
      refine lv_if_lt (tgt := 24) hx hb dX1_hasPlace_11 (by decide) (fun c_11 => ?_) (fun c_11 => ?_)
      · refine lv_iconst (v := nI 0) hx hb dX1_hasPlace_24 (by decide +kernel) ?_
        exact ww_zret (u := ()) hx hb hr hlk (by decide +kernel) hw (Or.inr ⟨by decide, fun h => by first | exact ix_n (by omega) (Or.inl c_1) h.1 | exact ix_n (by omega) (Or.inr c_7) h.1 | exact ix_n (by omega) (Or.inl c_11) h.2 | exact ix_n (by omega) (Or.inr c_17) h.2⟩) (Nat.le_of_ble_eq_true rfl) (Nat.le_of_ble_eq_true rfl) dX1_hasPlace_25
      · refine lv_iload_n hx hb dX1_hasPlace_14 rfl (lv_at hl 1 rfl) ?_
        refine lv_bipush (v := nI 8) hx hb dX1_hasPlace_15 (by decide +kernel) ?_
        refine lv_icmp_ge (tgt := 24) hx hb dX1_hasPlace_17 (by decide) (fun c_17 => ?_) (fun c_17 => ?_)
        · refine lv_iconst (v := nI 0) hx hb dX1_hasPlace_24 (by decide +kernel) ?_
          exact ww_zret (u := ()) hx hb hr hlk (by decide +kernel) hw (Or.inr ⟨by decide, fun h => by first | exact ix_n (by omega) (Or.inl c_1) h.1 | exact ix_n (by omega) (Or.inr c_7) h.1 | exact ix_n (by omega) (Or.inl c_11) h.2 | exact ix_n (by omega) (Or.inr c_17) h.2⟩) (Nat.le_of_ble_eq_true rfl) (Nat.le_of_ble_eq_true rfl) dX1_hasPlace_25
        · refine lv_iconst (v := nI 1) hx hb dX1_hasPlace_20 (by decide +kernel) ?_
          refine lv_goto (tgt := 25) hx hb dX1_hasPlace_21 (by decide) ?_
          exact ww_zret (u := ()) hx hb hr hlk (by decide +kernel) hw (Or.inl ⟨by decide, ix_y (by omega) c_1 c_7, ix_y (by omega) c_11 c_17⟩) (Nat.le_of_ble_eq_true rfl) (Nat.le_of_ble_eq_true rfl) dX1_hasPlace_25
set_option maxHeartbeats 4000000 in
set_option maxRecDepth 100000 in
theorem cP_valueOf (l : Launch) (D : va_G) (cI : ClassId) (a a1 a2 a3 a4 : Nat) (fm fk gm gk : Nat → Int32) (x y : Int32) : Kt l yX1_valueOf wsX1_valueOf 1 21 (0) (0) D cI [.ref a, .int x, .int y] ([(a, .inr (1, [.ref a1, .ref a2, .ref a3, .ref a4])), (a1, .inl (cI, 512, .inl fm)), (a2, .inl (cI, 64, .inl fk)), (a3, .inl (cI, 512, .inl gm)), (a4, .inl (cI, 64, .inl gk))]) (pI (fun (r : Int32) (u : Unit) => (∃ i j : Nat, i < 64 ∧ j < 8 ∧ x = nI i ∧ y = nI j ∧ r = fm (i * 8 + j)) ∨ (¬ ((∃ j : Nat, j < 64 ∧ x = nI j) ∧ (∃ k : Nat, k < 8 ∧ y = nI k)) ∧ r = 0))) (fun (u : Unit) => [(a, .inr (1, [.ref a1, .ref a2, .ref a3, .ref a4])), (a1, .inl (cI, 512, .inl fm)), (a2, .inl (cI, 64, .inl fk)), (a3, .inl (cI, 512, .inl gm)), (a4, .inl (cI, 64, .inl gk))]) := by
  refine kt_start (cc := cX1_valueOf) (maxL := 3) (ret := (some .int)) (by decide +kernel) rfl (Nat.le_of_ble_eq_true rfl) ?_
  intro p e s m below meth c hx hb hml hr hlk hown hnm hts ls hl hw
  have hown : s.vm.findClass RX1 = some m.cls := hown
  have hl : lv_has ls 3 [(0, .ref a), (1, .int x), (2, .int y)] := hl
  have k9 := hts (.fieldLink RX1 9 "RestartBook$Pages" "words" "[I") (by decide +kernel)
  have hin1 : ∀ w ∈ u_ws RX1 TX1 4, w ∈ wsX1_valueOf := in_X1_valueOf
  refine lv_iload_n hx hb dX1_valueOf_0 rfl (lv_at hl 1 rfl) ?_
  refine lv_iload_n hx hb dX1_valueOf_1 rfl (lv_at hl 2 rfl) ?_
  refine ww_callS ([]) ([(a, .inr (1, [.ref a1, .ref a2, .ref a3, .ref a4])), (a1, .inl (cI, 512, .inl fm)), (a2, .inl (cI, 64, .inl fk)), (a3, .inl (cI, 512, .inl gm)), (a4, .inl (cI, 64, .inl gk))]) (As := [.int x, .int y]) (rest := []) ⟨hx, hb, hml, hown, hts⟩ (cP_hasPlace l D cI x y) gX1_valueOf_X1_hasPlace rfl hd_X1_hasPlace ⟨Nat.le_of_ble_eq_true rfl, Nat.le_of_ble_eq_true rfl⟩ hw rfl rfl rfl hl.1 (Nat.le_of_ble_eq_true rfl) dX1_valueOf_2 ⟨Nat.le_of_ble_eq_true rfl, Nat.le_of_ble_eq_true rfl⟩ (fun v u H locs hq hw => ?_)
  obtain ⟨r, rfl, hq⟩ := hq
  have hw : ww D cI _ _ s ([(a, .inr (1, [.ref a1, .ref a2, .ref a3, .ref a4])), (a1, .inl (cI, 512, .inl fm)), (a2, .inl (cI, 64, .inl fk)), (a3, .inl (cI, 512, .inl gm)), (a4, .inl (cI, 64, .inl gk))]) H locs := hw
  refine W.eq (g2 := F0 m 5 ls [.int (r)]) rfl ?_
  rcases hq with ⟨rfl, hq⟩ | ⟨rfl, hq⟩
  · obtain ⟨⟨i, hi, rfl⟩, ⟨j, hj, rfl⟩⟩ := hq
    refine lv_if_eq (tgt := 22) hx hb dX1_valueOf_5 (by decide) (fun c_5 => absurd c_5 (by decide)) (fun c_5 => ?_)
    refine lv_aload_n hx hb dX1_valueOf_8 rfl (lv_at hl 0 rfl) ?_
    refine ww_get hx hb hts hin1 hown hw 0 rfl rfl 0 (by decide) k9 rfl dX1_valueOf_9 ?_
    refine lv_iload_n hx hb dX1_valueOf_12 rfl (lv_at hl 1 rfl) ?_
    refine lv_bipush (v := nI 8) hx hb dX1_valueOf_13 (by decide +kernel) ?_
    refine lv_imul hx hb dX1_valueOf_15 ?_
    refine lv_eqi (show _ = nI (i * 8) from pk_mul _ _) ?_
    refine lv_iload_n hx hb dX1_valueOf_16 rfl (lv_at hl 2 rfl) ?_
    refine lv_iadd hx hb dX1_valueOf_17 ?_
    refine lv_eqi (show _ = nI ((i * 8) + j) from nI_add _ _) ?_
    refine ww_iald hx hb hw 1 rfl ((i * 8) + j) rfl (by omega) (by omega) dX1_valueOf_18 ?_
    refine lv_goto (tgt := 23) hx hb dX1_valueOf_19 (by decide) ?_
    exact ww_iret (u := ()) hx hb hr hlk hw (Or.inl ⟨i, j, hi, hj, rfl, rfl, rfl⟩) (Nat.le_of_ble_eq_true rfl) (Nat.le_of_ble_eq_true rfl) dX1_valueOf_23
  · skip
    refine lv_if_eq (tgt := 22) hx hb dX1_valueOf_5 (by decide) (fun c_5 => ?_) (fun c_5 => absurd (rfl) c_5)
    refine lv_iconst (v := nI 0) hx hb dX1_valueOf_22 (by decide +kernel) ?_
    exact ww_iret (u := ()) hx hb hr hlk hw (Or.inr ⟨hq, by decide⟩) (Nat.le_of_ble_eq_true rfl) (Nat.le_of_ble_eq_true rfl) dX1_valueOf_23
set_option maxHeartbeats 4000000 in
set_option maxRecDepth 100000 in
theorem cP_markOf (l : Launch) (D : va_G) (cI : ClassId) (a a1 a2 a3 a4 : Nat) (fm fk gm gk : Nat → Int32) (i : Nat) (hi : i < 64) : Kt l yX1_markOf wsX1_markOf 1 20 (0) (0) D cI [.ref a, .int (nI i)] ([(a, .inr (1, [.ref a1, .ref a2, .ref a3, .ref a4])), (a1, .inl (cI, 512, .inl fm)), (a2, .inl (cI, 64, .inl fk)), (a3, .inl (cI, 512, .inl gm)), (a4, .inl (cI, 64, .inl gk))]) (pI (fun (r : Int32) (u : Unit) => r = fk i)) (fun (u : Unit) => [(a, .inr (1, [.ref a1, .ref a2, .ref a3, .ref a4])), (a1, .inl (cI, 512, .inl fm)), (a2, .inl (cI, 64, .inl fk)), (a3, .inl (cI, 512, .inl gm)), (a4, .inl (cI, 64, .inl gk))]) := by
  refine kt_start (cc := cX1_markOf) (maxL := 2) (ret := (some .int)) (by decide +kernel) rfl (Nat.le_of_ble_eq_true rfl) ?_
  intro p e s m below meth c hx hb hml hr hlk hown hnm hts ls hl hw
  have hown : s.vm.findClass RX1 = some m.cls := hown
  have hl : lv_has ls 2 [(0, .ref a), (1, .int (nI i))] := hl
  have k13 := hts (.fieldLink RX1 13 "RestartBook$Pages" "marks" "[I") (by decide +kernel)
  have hin1 : ∀ w ∈ u_ws RX1 TX1 4, w ∈ wsX1_markOf := in_X1_markOf
  refine lv_iload_n hx hb dX1_markOf_0 rfl (lv_at hl 1 rfl) ?_
  refine ww_callS ([]) ([(a, .inr (1, [.ref a1, .ref a2, .ref a3, .ref a4])), (a1, .inl (cI, 512, .inl fm)), (a2, .inl (cI, 64, .inl fk)), (a3, .inl (cI, 512, .inl gm)), (a4, .inl (cI, 64, .inl gk))]) (As := [.int (nI i)]) (rest := []) ⟨hx, hb, hml, hown, hts⟩ (cP_hasPage l D cI (nI i)) gX1_markOf_X1_hasPage rfl hd_X1_hasPage ⟨Nat.le_of_ble_eq_true rfl, Nat.le_of_ble_eq_true rfl⟩ hw rfl rfl rfl hl.1 (Nat.le_of_ble_eq_true rfl) dX1_markOf_1 ⟨Nat.le_of_ble_eq_true rfl, Nat.le_of_ble_eq_true rfl⟩ (fun v u H locs hq hw => ?_)
  obtain ⟨r, rfl, hq⟩ := hq
  obtain ⟨rfl, -⟩ := hq.resolve_right (fun h => h.2 ⟨i, hi, rfl⟩)
  have hw : ww D cI _ _ s ([(a, .inr (1, [.ref a1, .ref a2, .ref a3, .ref a4])), (a1, .inl (cI, 512, .inl fm)), (a2, .inl (cI, 64, .inl fk)), (a3, .inl (cI, 512, .inl gm)), (a4, .inl (cI, 64, .inl gk))]) H locs := hw
  refine W.eq (g2 := F0 m 4 ls [.int (1)]) rfl ?_
  refine lv_if_eq (tgt := 16) hx hb dX1_markOf_4 (by decide) (fun c_4 => absurd c_4 (by decide)) (fun c_4 => ?_)
  refine lv_aload_n hx hb dX1_markOf_7 rfl (lv_at hl 0 rfl) ?_
  refine ww_get hx hb hts hin1 hown hw 0 rfl rfl 1 (by decide) k13 rfl dX1_markOf_8 ?_
  refine lv_iload_n hx hb dX1_markOf_11 rfl (lv_at hl 1 rfl) ?_
  refine ww_iald hx hb hw 2 rfl i rfl (by omega) (by omega) dX1_markOf_12 ?_
  refine lv_goto (tgt := 17) hx hb dX1_markOf_13 (by decide) ?_
  exact ww_iret (u := ()) hx hb hr hlk hw (rfl) (Nat.le_of_ble_eq_true rfl) (Nat.le_of_ble_eq_true rfl) dX1_markOf_17
set_option maxHeartbeats 4000000 in
set_option maxRecDepth 100000 in
theorem cP_mediumMarkOf (l : Launch) (D : va_G) (cI : ClassId) (a a1 a2 a3 a4 : Nat) (fm fk gm gk : Nat → Int32) (i : Nat) (hi : i < 64) : Kt l yX1_mediumMarkOf wsX1_mediumMarkOf 1 20 (0) (0) D cI [.ref a, .int (nI i)] ([(a, .inr (1, [.ref a1, .ref a2, .ref a3, .ref a4])), (a1, .inl (cI, 512, .inl fm)), (a2, .inl (cI, 64, .inl fk)), (a3, .inl (cI, 512, .inl gm)), (a4, .inl (cI, 64, .inl gk))]) (pI (fun (r : Int32) (u : Unit) => r = gk i)) (fun (u : Unit) => [(a, .inr (1, [.ref a1, .ref a2, .ref a3, .ref a4])), (a1, .inl (cI, 512, .inl fm)), (a2, .inl (cI, 64, .inl fk)), (a3, .inl (cI, 512, .inl gm)), (a4, .inl (cI, 64, .inl gk))]) := by
  refine kt_start (cc := cX1_mediumMarkOf) (maxL := 2) (ret := (some .int)) (by decide +kernel) rfl (Nat.le_of_ble_eq_true rfl) ?_
  intro p e s m below meth c hx hb hml hr hlk hown hnm hts ls hl hw
  have hown : s.vm.findClass RX1 = some m.cls := hown
  have hl : lv_has ls 2 [(0, .ref a), (1, .int (nI i))] := hl
  have k19 := hts (.fieldLink RX1 19 "RestartBook$Pages" "mediumMarks" "[I") (by decide +kernel)
  have hin1 : ∀ w ∈ u_ws RX1 TX1 4, w ∈ wsX1_mediumMarkOf := in_X1_mediumMarkOf
  refine lv_iload_n hx hb dX1_mediumMarkOf_0 rfl (lv_at hl 1 rfl) ?_
  refine ww_callS ([]) ([(a, .inr (1, [.ref a1, .ref a2, .ref a3, .ref a4])), (a1, .inl (cI, 512, .inl fm)), (a2, .inl (cI, 64, .inl fk)), (a3, .inl (cI, 512, .inl gm)), (a4, .inl (cI, 64, .inl gk))]) (As := [.int (nI i)]) (rest := []) ⟨hx, hb, hml, hown, hts⟩ (cP_hasPage l D cI (nI i)) gX1_mediumMarkOf_X1_hasPage rfl hd_X1_hasPage ⟨Nat.le_of_ble_eq_true rfl, Nat.le_of_ble_eq_true rfl⟩ hw rfl rfl rfl hl.1 (Nat.le_of_ble_eq_true rfl) dX1_mediumMarkOf_1 ⟨Nat.le_of_ble_eq_true rfl, Nat.le_of_ble_eq_true rfl⟩ (fun v u H locs hq hw => ?_)
  obtain ⟨r, rfl, hq⟩ := hq
  obtain ⟨rfl, -⟩ := hq.resolve_right (fun h => h.2 ⟨i, hi, rfl⟩)
  have hw : ww D cI _ _ s ([(a, .inr (1, [.ref a1, .ref a2, .ref a3, .ref a4])), (a1, .inl (cI, 512, .inl fm)), (a2, .inl (cI, 64, .inl fk)), (a3, .inl (cI, 512, .inl gm)), (a4, .inl (cI, 64, .inl gk))]) H locs := hw
  refine W.eq (g2 := F0 m 4 ls [.int (1)]) rfl ?_
  refine lv_if_eq (tgt := 16) hx hb dX1_mediumMarkOf_4 (by decide) (fun c_4 => absurd c_4 (by decide)) (fun c_4 => ?_)
  refine lv_aload_n hx hb dX1_mediumMarkOf_7 rfl (lv_at hl 0 rfl) ?_
  refine ww_get hx hb hts hin1 hown hw 0 rfl rfl 3 (by decide) k19 rfl dX1_mediumMarkOf_8 ?_
  refine lv_iload_n hx hb dX1_mediumMarkOf_11 rfl (lv_at hl 1 rfl) ?_
  refine ww_iald hx hb hw 4 rfl i rfl (by omega) (by omega) dX1_mediumMarkOf_12 ?_
  refine lv_goto (tgt := 17) hx hb dX1_mediumMarkOf_13 (by decide) ?_
  exact ww_iret (u := ()) hx hb hr hlk hw (rfl) (Nat.le_of_ble_eq_true rfl) (Nat.le_of_ble_eq_true rfl) dX1_mediumMarkOf_17
set_option maxHeartbeats 4000000 in
set_option maxRecDepth 100000 in
theorem cP_change (l : Launch) (D : va_G) (cI : ClassId) (a a1 a2 a3 a4 : Nat) (fm fk gm gk : Nat → Int32) (i j : Nat) (x y : Int32) (hi : i < 64) (hj : j < 8) : Kt l yX1_change wsX1_change 1 21 (0) (0) D cI [.ref a, .int (nI i), .int (nI j), .int x, .int y] ([(a, .inr (1, [.ref a1, .ref a2, .ref a3, .ref a4])), (a1, .inl (cI, 512, .inl fm)), (a2, .inl (cI, 64, .inl fk)), (a3, .inl (cI, 512, .inl gm)), (a4, .inl (cI, 64, .inl gk))]) (pV (fun (u : Unit) => True)) (fun (u : Unit) => [(a, .inr (1, [.ref a1, .ref a2, .ref a3, .ref a4])), (a1, .inl (cI, 512, .inl (upd fm (i * 8 + j) (fm (i * 8 + j) + x)))), (a2, .inl (cI, 64, .inl (upd fk i y))), (a3, .inl (cI, 512, .inl gm)), (a4, .inl (cI, 64, .inl gk))]) := by
  refine kt_start (cc := cX1_change) (maxL := 5) (ret := none) (by decide +kernel) rfl (Nat.le_of_ble_eq_true rfl) ?_
  intro p e s m below meth c hx hb hml hr hlk hown hnm hts ls hl hw
  have hown : s.vm.findClass RX1 = some m.cls := hown
  have hl : lv_has ls 5 [(0, .ref a), (1, .int (nI i)), (2, .int (nI j)), (3, .int x), (4, .int y)] := hl
  have k9 := hts (.fieldLink RX1 9 "RestartBook$Pages" "words" "[I") (by decide +kernel)
  have k13 := hts (.fieldLink RX1 13 "RestartBook$Pages" "marks" "[I") (by decide +kernel)
  have hin1 : ∀ w ∈ u_ws RX1 TX1 4, w ∈ wsX1_change := in_X1_change
  refine lv_iload_n hx hb dX1_change_0 rfl (lv_at hl 1 rfl) ?_
  refine lv_iload_n hx hb dX1_change_1 rfl (lv_at hl 2 rfl) ?_
  refine ww_callS ([]) ([(a, .inr (1, [.ref a1, .ref a2, .ref a3, .ref a4])), (a1, .inl (cI, 512, .inl fm)), (a2, .inl (cI, 64, .inl fk)), (a3, .inl (cI, 512, .inl gm)), (a4, .inl (cI, 64, .inl gk))]) (As := [.int (nI i), .int (nI j)]) (rest := []) ⟨hx, hb, hml, hown, hts⟩ (cP_hasPlace l D cI (nI i) (nI j)) gX1_change_X1_hasPlace rfl hd_X1_hasPlace ⟨Nat.le_of_ble_eq_true rfl, Nat.le_of_ble_eq_true rfl⟩ hw rfl rfl rfl hl.1 (Nat.le_of_ble_eq_true rfl) dX1_change_2 ⟨Nat.le_of_ble_eq_true rfl, Nat.le_of_ble_eq_true rfl⟩ (fun v u H locs hq hw => ?_)
  obtain ⟨r, rfl, hq⟩ := hq
  obtain ⟨rfl, -⟩ := hq.resolve_right (fun h => h.2 ⟨⟨i, hi, rfl⟩, ⟨j, hj, rfl⟩⟩)
  have hw : ww D cI _ _ s ([(a, .inr (1, [.ref a1, .ref a2, .ref a3, .ref a4])), (a1, .inl (cI, 512, .inl fm)), (a2, .inl (cI, 64, .inl fk)), (a3, .inl (cI, 512, .inl gm)), (a4, .inl (cI, 64, .inl gk))]) H locs := hw
  refine W.eq (g2 := F0 m 5 ls [.int (1)]) rfl ?_
  refine lv_if_eq (tgt := 31) hx hb dX1_change_5 (by decide) (fun c_5 => absurd c_5 (by decide)) (fun c_5 => ?_)
  refine lv_aload_n hx hb dX1_change_8 rfl (lv_at hl 0 rfl) ?_
  refine ww_get hx hb hts hin1 hown hw 0 rfl rfl 0 (by decide) k9 rfl dX1_change_9 ?_
  refine lv_iload_n hx hb dX1_change_12 rfl (lv_at hl 1 rfl) ?_
  refine lv_bipush (v := nI 8) hx hb dX1_change_13 (by decide +kernel) ?_
  refine lv_imul hx hb dX1_change_15 ?_
  refine lv_eqi (show _ = nI (i * 8) from pk_mul _ _) ?_
  refine lv_iload_n hx hb dX1_change_16 rfl (lv_at hl 2 rfl) ?_
  refine lv_iadd hx hb dX1_change_17 ?_
  refine lv_eqi (show _ = nI ((i * 8) + j) from nI_add _ _) ?_
  refine lv_dup2_11 hx hb dX1_change_18 rfl rfl ?_
  refine W.eq (g2 := F0 m 19 ls [.int (nI ((i * 8) + j)), .ref a1, .int (nI ((i * 8) + j)), .ref a1]) rfl ?_
  refine ww_iald hx hb hw 1 rfl ((i * 8) + j) rfl (by omega) (by omega) dX1_change_19 ?_
  refine lv_iload_n hx hb dX1_change_20 rfl (lv_at hl 3 rfl) ?_
  refine lv_iadd hx hb dX1_change_21 ?_
  refine ww_iast (ws' := [(a, .inr (1, [.ref a1, .ref a2, .ref a3, .ref a4])), (a1, .inl (cI, 512, .inl (upd fm ((i * 8) + j) ((fm ((i * 8) + j)) + x)))), (a2, .inl (cI, 64, .inl fk)), (a3, .inl (cI, 512, .inl gm)), (a4, .inl (cI, 64, .inl gk))]) hx hb hw 1 rfl ((i * 8) + j) rfl (by omega) (by omega) rfl dX1_change_22 (fun H locs hw => ?_)
  refine lv_aload_n hx hb dX1_change_23 rfl (lv_at hl 0 rfl) ?_
  refine ww_get hx hb hts hin1 hown hw 0 rfl rfl 1 (by decide) k13 rfl dX1_change_24 ?_
  refine lv_iload_n hx hb dX1_change_27 rfl (lv_at hl 1 rfl) ?_
  refine lv_iload hx hb dX1_change_28 (lv_at hl 4 rfl) ?_
  refine ww_iast (ws' := [(a, .inr (1, [.ref a1, .ref a2, .ref a3, .ref a4])), (a1, .inl (cI, 512, .inl (upd fm ((i * 8) + j) ((fm ((i * 8) + j)) + x)))), (a2, .inl (cI, 64, .inl (upd fk i y))), (a3, .inl (cI, 512, .inl gm)), (a4, .inl (cI, 64, .inl gk))]) hx hb hw 2 rfl i rfl (by omega) (by omega) rfl dX1_change_30 (fun H locs hw => ?_)
  exact ww_vret (u := ()) hx hb hr hlk hw (trivial) (Nat.le_of_ble_eq_true rfl) (Nat.le_of_ble_eq_true rfl) rfl dX1_change_31
set_option maxHeartbeats 4000000 in
set_option maxRecDepth 100000 in
theorem cP_copyToMedium (l : Launch) (D : va_G) (cI : ClassId) (a a1 a2 a3 a4 : Nat) (fm fk gm gk : Nat → Int32) (i : Nat) (hi : i < 64) : Kt l yX1_copyToMedium wsX1_copyToMedium 1 20 (0) (0) D cI [.ref a, .int (nI i)] ([(a, .inr (1, [.ref a1, .ref a2, .ref a3, .ref a4])), (a1, .inl (cI, 512, .inl fm)), (a2, .inl (cI, 64, .inl fk)), (a3, .inl (cI, 512, .inl gm)), (a4, .inl (cI, 64, .inl gk))]) (pV (fun (u : Unit) => True)) (fun (u : Unit) => [(a, .inr (1, [.ref a1, .ref a2, .ref a3, .ref a4])), (a1, .inl (cI, 512, .inl fm)), (a2, .inl (cI, 64, .inl fk)), (a3, .inl (cI, 512, .inl (va_cpy fm gm (i * 8) (i * 8) 8))), (a4, .inl (cI, 64, .inl (upd gk i (fk i))))]) := by
  refine kt_start (cc := cX1_copyToMedium) (maxL := 2) (ret := none) (by decide +kernel) rfl (Nat.le_of_ble_eq_true rfl) ?_
  intro p e s m below meth c hx hb hml hr hlk hown hnm hts ls hl hw
  have hown : s.vm.findClass RX1 = some m.cls := hown
  have hl : lv_has ls 2 [(0, .ref a), (1, .int (nI i))] := hl
  have k9 := hts (.fieldLink RX1 9 "RestartBook$Pages" "words" "[I") (by decide +kernel)
  have k13 := hts (.fieldLink RX1 13 "RestartBook$Pages" "marks" "[I") (by decide +kernel)
  have k16 := hts (.fieldLink RX1 16 "RestartBook$Pages" "mediumWords" "[I") (by decide +kernel)
  have k19 := hts (.fieldLink RX1 19 "RestartBook$Pages" "mediumMarks" "[I") (by decide +kernel)
  have hin1 : ∀ w ∈ u_ws RX1 TX1 4, w ∈ wsX1_copyToMedium := in_X1_copyToMedium
  refine lv_iload_n hx hb dX1_copyToMedium_0 rfl (lv_at hl 1 rfl) ?_
  refine ww_callS ([]) ([(a, .inr (1, [.ref a1, .ref a2, .ref a3, .ref a4])), (a1, .inl (cI, 512, .inl fm)), (a2, .inl (cI, 64, .inl fk)), (a3, .inl (cI, 512, .inl gm)), (a4, .inl (cI, 64, .inl gk))]) (As := [.int (nI i)]) (rest := []) ⟨hx, hb, hml, hown, hts⟩ (cP_hasPage l D cI (nI i)) gX1_copyToMedium_X1_hasPage rfl hd_X1_hasPage ⟨Nat.le_of_ble_eq_true rfl, Nat.le_of_ble_eq_true rfl⟩ hw rfl rfl rfl hl.1 (Nat.le_of_ble_eq_true rfl) dX1_copyToMedium_1 ⟨Nat.le_of_ble_eq_true rfl, Nat.le_of_ble_eq_true rfl⟩ (fun v u H locs hq hw => ?_)
  obtain ⟨r, rfl, hq⟩ := hq
  obtain ⟨rfl, -⟩ := hq.resolve_right (fun h => h.2 ⟨i, hi, rfl⟩)
  have hw : ww D cI _ _ s ([(a, .inr (1, [.ref a1, .ref a2, .ref a3, .ref a4])), (a1, .inl (cI, 512, .inl fm)), (a2, .inl (cI, 64, .inl fk)), (a3, .inl (cI, 512, .inl gm)), (a4, .inl (cI, 64, .inl gk))]) H locs := hw
  refine W.eq (g2 := F0 m 4 ls [.int (1)]) rfl ?_
  refine lv_if_eq (tgt := 40) hx hb dX1_copyToMedium_4 (by decide) (fun c_4 => absurd c_4 (by decide)) (fun c_4 => ?_)
  refine lv_aload_n hx hb dX1_copyToMedium_7 rfl (lv_at hl 0 rfl) ?_
  refine ww_get hx hb hts hin1 hown hw 0 rfl rfl 0 (by decide) k9 rfl dX1_copyToMedium_8 ?_
  refine lv_iload_n hx hb dX1_copyToMedium_11 rfl (lv_at hl 1 rfl) ?_
  refine lv_bipush (v := nI 8) hx hb dX1_copyToMedium_12 (by decide +kernel) ?_
  refine lv_imul hx hb dX1_copyToMedium_14 ?_
  refine lv_eqi (show _ = nI (i * 8) from pk_mul _ _) ?_
  refine lv_aload_n hx hb dX1_copyToMedium_15 rfl (lv_at hl 0 rfl) ?_
  refine ww_get hx hb hts hin1 hown hw 0 rfl rfl 2 (by decide) k16 rfl dX1_copyToMedium_16 ?_
  refine lv_iload_n hx hb dX1_copyToMedium_19 rfl (lv_at hl 1 rfl) ?_
  refine lv_bipush (v := nI 8) hx hb dX1_copyToMedium_20 (by decide +kernel) ?_
  refine W.eq (g2 := F0 m 22 ls [.int (nI 8), .int (nI i), .ref a3, .int (nI (i * 8)), .ref a1]) rfl ?_
  refine lv_imul hx hb dX1_copyToMedium_22 ?_
  refine lv_eqi (show _ = nI (i * 8) from pk_mul _ _) ?_
  refine lv_bipush (v := nI 8) hx hb dX1_copyToMedium_23 (by decide +kernel) ?_
  refine ww_copy (ws' := [(a, .inr (1, [.ref a1, .ref a2, .ref a3, .ref a4])), (a1, .inl (cI, 512, .inl fm)), (a2, .inl (cI, 64, .inl fk)), (a3, .inl (cI, 512, .inl (va_cpy fm gm (i * 8) (i * 8) 8))), (a4, .inl (cI, 64, .inl gk))]) hx hb (hml.trans hl.1.symm) hown (hts (.methodLink RX1 30 arraycopyName) (by decide +kernel)) (hts (.native arraycopyName) (by decide +kernel)) (hts (.static arraycopyName) (by decide +kernel)) (hts (.initialized "java/lang/System") (by decide +kernel)) hw 1 3 rfl rfl (i * 8) (i * 8) 8 rfl rfl rfl (by omega) (by omega) (by omega) (by omega) rfl (Nat.le_of_ble_eq_true rfl) (Nat.le_of_ble_eq_true rfl) dX1_copyToMedium_25 (fun H locs hw => ?_)
  refine lv_aload_n hx hb dX1_copyToMedium_28 rfl (lv_at hl 0 rfl) ?_
  refine ww_get hx hb hts hin1 hown hw 0 rfl rfl 3 (by decide) k19 rfl dX1_copyToMedium_29 ?_
  refine lv_iload_n hx hb dX1_copyToMedium_32 rfl (lv_at hl 1 rfl) ?_
  refine lv_aload_n hx hb dX1_copyToMedium_33 rfl (lv_at hl 0 rfl) ?_
  refine ww_get hx hb hts hin1 hown hw 0 rfl rfl 1 (by decide) k13 rfl dX1_copyToMedium_34 ?_
  refine lv_iload_n hx hb dX1_copyToMedium_37 rfl (lv_at hl 1 rfl) ?_
  refine ww_iald hx hb hw 2 rfl i rfl (by omega) (by omega) dX1_copyToMedium_38 ?_
  refine ww_iast (ws' := [(a, .inr (1, [.ref a1, .ref a2, .ref a3, .ref a4])), (a1, .inl (cI, 512, .inl fm)), (a2, .inl (cI, 64, .inl fk)), (a3, .inl (cI, 512, .inl (va_cpy fm gm (i * 8) (i * 8) 8))), (a4, .inl (cI, 64, .inl (upd gk i (fk i))))]) hx hb hw 4 rfl i rfl (by omega) (by omega) rfl dX1_copyToMedium_39 (fun H locs hw => ?_)
  exact ww_vret (u := ()) hx hb hr hlk hw (trivial) (Nat.le_of_ble_eq_true rfl) (Nat.le_of_ble_eq_true rfl) rfl dX1_copyToMedium_40
set_option maxHeartbeats 4000000 in
set_option maxRecDepth 100000 in
theorem cP_readAll (l : Launch) (D : va_G) (cI : ClassId) (a a1 a2 a3 a4 : Nat) (fm fk gm gk : Nat → Int32) : Kt l yX1_readAllFromMedium wsX1_readAllFromMedium 1 18 (0) (0) D cI [.ref a] ([(a, .inr (1, [.ref a1, .ref a2, .ref a3, .ref a4])), (a1, .inl (cI, 512, .inl fm)), (a2, .inl (cI, 64, .inl fk)), (a3, .inl (cI, 512, .inl gm)), (a4, .inl (cI, 64, .inl gk))]) (pV (fun (u : Unit) => True)) (fun (u : Unit) => [(a, .inr (1, [.ref a1, .ref a2, .ref a3, .ref a4])), (a1, .inl (cI, 512, .inl (va_cpy gm fm 0 0 512))), (a2, .inl (cI, 64, .inl (va_cpy gk fk 0 0 64))), (a3, .inl (cI, 512, .inl gm)), (a4, .inl (cI, 64, .inl gk))]) := by
  refine kt_start (cc := cX1_readAllFromMedium) (maxL := 1) (ret := none) (by decide +kernel) rfl (Nat.le_of_ble_eq_true rfl) ?_
  intro p e s m below meth c hx hb hml hr hlk hown hnm hts ls hl hw
  have hown : s.vm.findClass RX1 = some m.cls := hown
  have hl : lv_has ls 1 [(0, .ref a)] := hl
  have k9 := hts (.fieldLink RX1 9 "RestartBook$Pages" "words" "[I") (by decide +kernel)
  have k13 := hts (.fieldLink RX1 13 "RestartBook$Pages" "marks" "[I") (by decide +kernel)
  have k16 := hts (.fieldLink RX1 16 "RestartBook$Pages" "mediumWords" "[I") (by decide +kernel)
  have k19 := hts (.fieldLink RX1 19 "RestartBook$Pages" "mediumMarks" "[I") (by decide +kernel)
  have hin1 : ∀ w ∈ u_ws RX1 TX1 4, w ∈ wsX1_readAllFromMedium := in_X1_readAllFromMedium
  refine lv_aload_n hx hb dX1_readAllFromMedium_0 rfl (lv_at hl 0 rfl) ?_
  refine ww_get hx hb hts hin1 hown hw 0 rfl rfl 2 (by decide) k16 rfl dX1_readAllFromMedium_1 ?_
  refine lv_iconst (v := nI 0) hx hb dX1_readAllFromMedium_4 (by decide +kernel) ?_
  refine lv_aload_n hx hb dX1_readAllFromMedium_5 rfl (lv_at hl 0 rfl) ?_
  refine ww_get hx hb hts hin1 hown hw 0 rfl rfl 0 (by decide) k9 rfl dX1_readAllFromMedium_6 ?_
  refine lv_iconst (v := nI 0) hx hb dX1_readAllFromMedium_9 (by decide +kernel) ?_
  refine lv_sipush (v := nI 512) hx hb dX1_readAllFromMedium_10 (by decide +kernel) ?_
  refine ww_copy (ws' := [(a, .inr (1, [.ref a1, .ref a2, .ref a3, .ref a4])), (a1, .inl (cI, 512, .inl (va_cpy gm fm 0 0 512))), (a2, .inl (cI, 64, .inl fk)), (a3, .inl (cI, 512, .inl gm)), (a4, .inl (cI, 64, .inl gk))]) hx hb (hml.trans hl.1.symm) hown (hts (.methodLink RX1 30 arraycopyName) (by decide +kernel)) (hts (.native arraycopyName) (by decide +kernel)) (hts (.static arraycopyName) (by decide +kernel)) (hts (.initialized "java/lang/System") (by decide +kernel)) hw 3 1 rfl rfl 0 0 512 rfl rfl rfl (by omega) (by omega) (by omega) (by omega) rfl (Nat.le_of_ble_eq_true rfl) (Nat.le_of_ble_eq_true rfl) dX1_readAllFromMedium_13 (fun H locs hw => ?_)
  refine lv_aload_n hx hb dX1_readAllFromMedium_16 rfl (lv_at hl 0 rfl) ?_
  refine ww_get hx hb hts hin1 hown hw 0 rfl rfl 3 (by decide) k19 rfl dX1_readAllFromMedium_17 ?_
  refine lv_iconst (v := nI 0) hx hb dX1_readAllFromMedium_20 (by decide +kernel) ?_
  refine W.eq (g2 := F0 m 21 ls [.int (nI 0), .ref a4]) rfl ?_
  refine lv_aload_n hx hb dX1_readAllFromMedium_21 rfl (lv_at hl 0 rfl) ?_
  refine ww_get hx hb hts hin1 hown hw 0 rfl rfl 1 (by decide) k13 rfl dX1_readAllFromMedium_22 ?_
  refine lv_iconst (v := nI 0) hx hb dX1_readAllFromMedium_25 (by decide +kernel) ?_
  refine lv_bipush (v := nI 64) hx hb dX1_readAllFromMedium_26 (by decide +kernel) ?_
  refine ww_copy (ws' := [(a, .inr (1, [.ref a1, .ref a2, .ref a3, .ref a4])), (a1, .inl (cI, 512, .inl (va_cpy gm fm 0 0 512))), (a2, .inl (cI, 64, .inl (va_cpy gk fk 0 0 64))), (a3, .inl (cI, 512, .inl gm)), (a4, .inl (cI, 64, .inl gk))]) hx hb (hml.trans hl.1.symm) hown (hts (.methodLink RX1 30 arraycopyName) (by decide +kernel)) (hts (.native arraycopyName) (by decide +kernel)) (hts (.static arraycopyName) (by decide +kernel)) (hts (.initialized "java/lang/System") (by decide +kernel)) hw 4 2 rfl rfl 0 0 64 rfl rfl rfl (by omega) (by omega) (by omega) (by omega) rfl (Nat.le_of_ble_eq_true rfl) (Nat.le_of_ble_eq_true rfl) dX1_readAllFromMedium_28 (fun H locs hw => ?_)
  exact ww_vret (u := ()) hx hb hr hlk hw (trivial) (Nat.le_of_ble_eq_true rfl) (Nat.le_of_ble_eq_true rfl) rfl dX1_readAllFromMedium_31
set_option maxHeartbeats 4000000 in
set_option maxRecDepth 100000 in
theorem cP_init (l : Launch) (D : va_G) (cI : ClassId) (a : Nat) : Kt l yX1_init wsX1_init 1 12 (4) (1152) D cI [.ref a] ([(a, .inr (1, [.null, .null, .null, .null]))]) (pV (fun (u : Nat × Nat × Nat × Nat) => True)) (fun (u : Nat × Nat × Nat × Nat) => [(a, .inr (1, [.ref u.1, .ref u.2.1, .ref u.2.2.1, .ref u.2.2.2])), (u.1, .inl (cI, 512, .inl (fun _ => 0))), (u.2.1, .inl (cI, 64, .inl (fun _ => 0))), (u.2.2.1, .inl (cI, 512, .inl (fun _ => 0))), (u.2.2.2, .inl (cI, 64, .inl (fun _ => 0)))]) := by
  refine kt_start (cc := cX1_init) (maxL := 1) (ret := none) (by decide +kernel) rfl (Nat.le_of_ble_eq_true rfl) ?_
  intro p e s m below meth c hx hb hml hr hlk hown hnm hts ls hl hw
  have hown : s.vm.findClass RX1 = some m.cls := hown
  have hl : lv_has ls 1 [(0, .ref a)] := hl
  have k9 := hts (.fieldLink RX1 9 "RestartBook$Pages" "words" "[I") (by decide +kernel)
  have k13 := hts (.fieldLink RX1 13 "RestartBook$Pages" "marks" "[I") (by decide +kernel)
  have k16 := hts (.fieldLink RX1 16 "RestartBook$Pages" "mediumWords" "[I") (by decide +kernel)
  have k19 := hts (.fieldLink RX1 19 "RestartBook$Pages" "mediumMarks" "[I") (by decide +kernel)
  have hin1 : ∀ w ∈ u_ws RX1 TX1 4, w ∈ wsX1_init := in_X1_init
  have harr := hts (.arrayClass .int) (by decide +kernel)
  refine lv_aload_n hx hb dX1_init_0 rfl (lv_at hl 0 rfl) ?_
  refine W.objInit hx hb hown (hts (.methodLink RX1 1 objectInit) (by decide +kernel)) (hts (.instanceMethod objectInit) (by decide +kernel)) (hts _ (List.mem_of_getElem? (l := wsX1_init) (i := 3) rfl)) rfl (by rw [hml]; exact hl.1) rfl dX1_init_1 (Nat.le_of_ble_eq_true rfl) (Nat.le_of_ble_eq_true rfl) ?_
  refine W.eq (g2 := F0 m 4 ls []) rfl ?_
  refine lv_aload_n hx hb dX1_init_4 rfl (lv_at hl 0 rfl) ?_
  refine lv_sipush (v := nI 512) hx hb dX1_init_5 (by decide +kernel) ?_
  refine ww_newa (N := 512) hx hb harr hw rfl (by omega) (Nat.le_of_ble_eq_true rfl) (Nat.le_of_ble_eq_true rfl) dX1_init_8 (fun q8 H hw => ?_)
  have hw : ww D cI _ _ s ([(a, .inr (1, [.null, .null, .null, .null])), (q8, .inl (cI, 512, .inl (fun _ => 0)))]) H _ := hw
  refine ww_putF (ws' := [(a, .inr (1, [.ref q8, .null, .null, .null])), (q8, .inl (cI, 512, .inl (fun _ => 0)))]) hx hb hts hin1 tyX1 tyX1_ok nmX1 hown hw 0 rfl rfl 0 (by decide) k9 rfl hnm rfl rfl rfl (Nat.le_of_ble_eq_true rfl) rfl dX1_init_10 (fun H locs hw => ?_)
  refine lv_aload_n hx hb dX1_init_13 rfl (lv_at hl 0 rfl) ?_
  refine lv_bipush (v := nI 64) hx hb dX1_init_14 (by decide +kernel) ?_
  refine ww_newa (N := 64) hx hb harr hw rfl (by omega) (Nat.le_of_ble_eq_true rfl) (Nat.le_of_ble_eq_true rfl) dX1_init_16 (fun q16 H hw => ?_)
  have hw : ww D cI _ _ s ([(a, .inr (1, [.ref q8, .null, .null, .null])), (q8, .inl (cI, 512, .inl (fun _ => 0))), (q16, .inl (cI, 64, .inl (fun _ => 0)))]) H _ := hw
  refine ww_putF (ws' := [(a, .inr (1, [.ref q8, .ref q16, .null, .null])), (q8, .inl (cI, 512, .inl (fun _ => 0))), (q16, .inl (cI, 64, .inl (fun _ => 0)))]) hx hb hts hin1 tyX1 tyX1_ok nmX1 hown hw 0 rfl rfl 1 (by decide) k13 rfl hnm rfl rfl rfl (Nat.le_of_ble_eq_true rfl) rfl dX1_init_18 (fun H locs hw => ?_)
  refine lv_aload_n hx hb dX1_init_21 rfl (lv_at hl 0 rfl) ?_
  refine W.eq (g2 := F0 m 22 ls [.ref a]) rfl ?_
  refine lv_sipush (v := nI 512) hx hb dX1_init_22 (by decide +kernel) ?_
  refine ww_newa (N := 512) hx hb harr hw rfl (by omega) (Nat.le_of_ble_eq_true rfl) (Nat.le_of_ble_eq_true rfl) dX1_init_25 (fun q25 H hw => ?_)
  have hw : ww D cI _ _ s ([(a, .inr (1, [.ref q8, .ref q16, .null, .null])), (q8, .inl (cI, 512, .inl (fun _ => 0))), (q16, .inl (cI, 64, .inl (fun _ => 0))), (q25, .inl (cI, 512, .inl (fun _ => 0)))]) H _ := hw
  refine ww_putF (ws' := [(a, .inr (1, [.ref q8, .ref q16, .ref q25, .null])), (q8, .inl (cI, 512, .inl (fun _ => 0))), (q16, .inl (cI, 64, .inl (fun _ => 0))), (q25, .inl (cI, 512, .inl (fun _ => 0)))]) hx hb hts hin1 tyX1 tyX1_ok nmX1 hown hw 0 rfl rfl 2 (by decide) k16 rfl hnm rfl rfl rfl (Nat.le_of_ble_eq_true rfl) rfl dX1_init_27 (fun H locs hw => ?_)
  refine lv_aload_n hx hb dX1_init_30 rfl (lv_at hl 0 rfl) ?_
  refine lv_bipush (v := nI 64) hx hb dX1_init_31 (by decide +kernel) ?_
  refine ww_newa (N := 64) hx hb harr hw rfl (by omega) (Nat.le_of_ble_eq_true rfl) (Nat.le_of_ble_eq_true rfl) dX1_init_33 (fun q33 H hw => ?_)
  have hw : ww D cI _ _ s ([(a, .inr (1, [.ref q8, .ref q16, .ref q25, .null])), (q8, .inl (cI, 512, .inl (fun _ => 0))), (q16, .inl (cI, 64, .inl (fun _ => 0))), (q25, .inl (cI, 512, .inl (fun _ => 0))), (q33, .inl (cI, 64, .inl (fun _ => 0)))]) H _ := hw
  refine ww_putF (ws' := [(a, .inr (1, [.ref q8, .ref q16, .ref q25, .ref q33])), (q8, .inl (cI, 512, .inl (fun _ => 0))), (q16, .inl (cI, 64, .inl (fun _ => 0))), (q25, .inl (cI, 512, .inl (fun _ => 0))), (q33, .inl (cI, 64, .inl (fun _ => 0)))]) hx hb hts hin1 tyX1 tyX1_ok nmX1 hown hw 0 rfl rfl 3 (by decide) k19 rfl hnm rfl rfl rfl (Nat.le_of_ble_eq_true rfl) rfl dX1_init_35 (fun H locs hw => ?_)
  exact ww_vret (u := (q8, q16, q25, q33)) hx hb hr hlk hw (trivial) (Nat.le_of_ble_eq_true rfl) (Nat.le_of_ble_eq_true rfl) rfl dX1_init_38
end
section
/-! The table of works: what the slots say, as a function of the works' numbers: (state, last, next), state 0: not in the table -/
abbrev TF : Type := Nat → Nat × Nat × Nat
abbrev TW : Type := Nat × (Nat → Int32) × (Nat → Int32) × (Nat → Int32) × (Nat → Int32)
def TR (v : TW) (T : TF) : Prop := v.1 ≤ 16 ∧ ∃ wl : Nat → Nat,
  (∀ i, i < v.1 → (v.2.1 i = nI (wl i) ∧ v.2.2.1 i = nI (T (wl i)).1 ∧ v.2.2.2.1 i = nI (T (wl i)).2.1 ∧ v.2.2.2.2 i = nI (T (wl i)).2.2) ∧ 1 ≤ wl i ∧ wl i ≤ 200 ∧ (T (wl i)).1 ≠ 0) ∧
  (∀ i j, i < j → j < v.1 → wl i < wl j) ∧ ∀ w, (T w).1 ≠ 0 → ∃ i, i < v.1 ∧ wl i = w
def TB (T : TF) : Prop := ∀ w, (T w).1 < 2 ^ 31 ∧ (T w).2.1 < 2 ^ 31 ∧ (T w).2.2 < 2 ^ 31
def BR (fb : Nat → Int32) (base : Nat → Nat) : Prop := ∀ p, p < 64 → fb p = nI (base p) ∧ base p < 2 ^ 31
theorem TR_le {v : TW} {T : TF} (h : TR v T) : v.1 ≤ 16 := h.1
theorem TR_at {v : TW} {T : TF} (h : TR v T) {w i : Nat} (hw : w < 2 ^ 31) (hi : i < v.1) (he : v.2.1 i = nI w) : 1 ≤ w ∧ w ≤ 200 ∧ (T w).1 ≠ 0 ∧ v.2.2.1 i = nI (T w).1 ∧ v.2.2.2.1 i = nI (T w).2.1 ∧ v.2.2.2.2 i = nI (T w).2.2 := by
  obtain ⟨-, wl, h1, -, -⟩ := h
  obtain ⟨⟨a1, a2, a3, a4⟩, b1, b2, b3⟩ := h1 i hi
  have e : wl i = w := (nI_eq (by omega) hw).mp (a1.symm.trans he)
  rw [e] at a2 a3 a4 b1 b2 b3
  exact ⟨b1, b2, b3, a2, a3, a4⟩
theorem TR_no {v : TW} {T : TF} (h : TR v T) {w : Nat} (hn : ∀ i, i < v.1 → v.2.1 i ≠ nI w) : (T w).1 = 0 := by
  obtain ⟨-, wl, h1, -, h3⟩ := h
  by_cases hz : (T w).1 = 0
  · exact hz
  · obtain ⟨i, hi, rfl⟩ := h3 w hz
    exact absurd (h1 i hi).1.1 (hn i hi)
theorem TR_some {v : TW} {T : TF} (h : TR v T) {w : Nat} (hz : (T w).1 ≠ 0) : 1 ≤ w ∧ w ≤ 200 ∧ ∃ i, i < v.1 ∧ v.2.1 i = nI w := by
  obtain ⟨-, wl, h1, -, h3⟩ := h
  obtain ⟨i, hi, rfl⟩ := h3 w hz
  exact ⟨(h1 i hi).2.1, (h1 i hi).2.2.1, i, hi, (h1 i hi).1.1⟩
theorem TR_upd {v v' : TW} {T : TF} (h : TR v T) {w i s la nx : Nat} (hw : w < 2 ^ 31) (hi : i < v.1) (he : v.2.1 i = nI w) (hs : s ≠ 0) (g0 : v'.1 = v.1) (g1 : ∀ j, j < v.1 → v'.2.1 j = v.2.1 j)
    (g2 : ∀ j, j < v.1 → v'.2.2.1 j = if j = i then nI s else v.2.2.1 j) (g3 : ∀ j, j < v.1 → v'.2.2.2.1 j = if j = i then nI la else v.2.2.2.1 j) (g4 : ∀ j, j < v.1 → v'.2.2.2.2 j = if j = i then nI nx else v.2.2.2.2 j) : TR v' (va_up T w (s, la, nx)) := by
  obtain ⟨h0, wl, h1, h2, h3⟩ := h
  have e : wl i = w := (nI_eq (by have := (h1 i hi).2.2.1; omega) hw).mp ((h1 i hi).1.1.symm.trans he)
  refine ⟨by rw [g0]; exact h0, wl, fun j hj => ?_, fun a b hab hb => h2 a b hab (by rw [← g0]; exact hb), fun w' hw' => ?_⟩
  · rw [g0] at hj
    obtain ⟨⟨a1, a2, a3, a4⟩, b1, b2, b3⟩ := h1 j hj
    by_cases hji : j = i
    · subst hji
      have e2 : va_up T w (s, la, nx) (wl j) = (s, la, nx) := by rw [e]; simp [va_up]
      rw [e2, g1 j hj, g2 j hj, g3 j hj, g4 j hj, if_pos rfl, if_pos rfl, if_pos rfl]
      exact ⟨⟨a1, rfl, rfl, rfl⟩, b1, b2, hs⟩
    · have hne : wl j ≠ w := by
        rw [← e]
        rcases Nat.lt_or_gt_of_ne hji with q | q
        · exact Nat.ne_of_lt (h2 j i q hi)
        · exact Nat.ne_of_gt (h2 i j q hj)
      have e2 : va_up T w (s, la, nx) (wl j) = T (wl j) := by simp [va_up, hne]
      rw [e2, g1 j hj, g2 j hj, g3 j hj, g4 j hj, if_neg hji, if_neg hji, if_neg hji]
      exact ⟨⟨a1, a2, a3, a4⟩, b1, b2, b3⟩
  · by_cases hww : w' = w
    · exact ⟨i, by rw [g0]; exact hi, by rw [e, hww]⟩
    · simp only [va_up, if_neg hww] at hw'
      obtain ⟨k, hk, hk2⟩ := h3 w' hw'
      exact ⟨k, by rw [g0]; exact hk, hk2⟩
theorem TR_ins {v v' : TW} {T : TF} (h : TR v T) {w k : Nat} (hw1 : 1 ≤ w) (hw2 : w ≤ 200) (hz : (T w).1 = 0) (hk : k ≤ v.1) (hsz : v.1 < 16) (hlo : ∀ i, i < k → v.2.1 i < nI w) (hhi : ∀ i, k ≤ i → i < v.1 → nI w < v.2.1 i) (g0 : v'.1 = v.1 + 1)
    (gk : v'.2.1 k = nI w ∧ v'.2.2.1 k = nI 1 ∧ v'.2.2.2.1 k = nI 0 ∧ v'.2.2.2.2 k = nI 0) (gl : ∀ j, j < k → v'.2.1 j = v.2.1 j ∧ v'.2.2.1 j = v.2.2.1 j ∧ v'.2.2.2.1 j = v.2.2.2.1 j ∧ v'.2.2.2.2 j = v.2.2.2.2 j)
    (gh : ∀ j, k ≤ j → j < v.1 → v'.2.1 (j + 1) = v.2.1 j ∧ v'.2.2.1 (j + 1) = v.2.2.1 j ∧ v'.2.2.2.1 (j + 1) = v.2.2.2.1 j ∧ v'.2.2.2.2 (j + 1) = v.2.2.2.2 j) : TR v' (va_up T w (1, 0, 0)) := by
  obtain ⟨h0, wl, h1, h2, h3⟩ := h
  have hlo' : ∀ i, i < k → wl i < w := fun i hi => by
    have := h1 i (by omega)
    have q := hlo i hi
    rw [this.1.1, nI_ltI (by omega) (by omega)] at q
    exact q
  have hhi' : ∀ i, k ≤ i → i < v.1 → w < wl i := fun i hi hi2 => by
    have := h1 i hi2
    have q := hhi i hi hi2
    rw [this.1.1, nI_ltI (by omega) (by omega)] at q
    exact q
  have old : ∀ j, j < v.1 → va_up T w (1, 0, 0) (wl j) = T (wl j) := fun j hj => by
    have : wl j ≠ w := by
      by_cases q : j < k
      · exact Nat.ne_of_lt (hlo' j q)
      · exact Nat.ne_of_gt (hhi' j (by omega) hj)
    simp [va_up, this]
  have new : va_up T w (1, 0, 0) w = (1, 0, 0) := by simp [va_up]
  refine ⟨by omega, fun i => if i < k then wl i else if i = k then w else wl (i - 1), fun j hj => ?_, fun a b hab hb => ?_, fun w' hw' => ?_⟩
  · by_cases q : j < k
    · simp only [if_pos q]
      rw [old j (by omega), (gl j q).1, (gl j q).2.1, (gl j q).2.2.1, (gl j q).2.2.2]
      exact h1 j (by omega)
    · by_cases q2 : j = k
      · subst q2
        simp only [if_neg q, if_true]
        rw [new]
        exact ⟨⟨gk.1, gk.2.1, gk.2.2.1, gk.2.2.2⟩, hw1, hw2, by decide⟩
      · simp only [if_neg q, if_neg q2]
        obtain ⟨i, rfl⟩ : ∃ i, j = i + 1 := ⟨j - 1, by omega⟩
        have hi : i < v.1 := by omega
        have gi := gh i (by omega) hi
        rw [Nat.add_sub_cancel, old i hi, gi.1, gi.2.1, gi.2.2.1, gi.2.2.2]
        exact h1 i hi
  · show (if a < k then wl a else if a = k then w else wl (a - 1)) < (if b < k then wl b else if b = k then w else wl (b - 1))
    by_cases qa : a < k
    · rw [if_pos qa]
      by_cases qb : b < k
      · rw [if_pos qb]; exact h2 a b hab (by omega)
      · rw [if_neg qb]
        by_cases qb2 : b = k
        · rw [if_pos qb2]; exact hlo' a qa
        · rw [if_neg qb2]; exact h2 a (b - 1) (by omega) (by omega)
    · rw [if_neg qa, if_neg (show ¬ b < k by omega), if_neg (show ¬ b = k by omega)]
      by_cases qa2 : a = k
      · rw [if_pos qa2]; exact hhi' (b - 1) (by omega) (by omega)
      · rw [if_neg qa2]; exact h2 (a - 1) (b - 1) (by omega) (by omega)
  · by_cases hww : w' = w
    · exact ⟨k, by omega, by simp only [Nat.lt_irrefl, if_false, if_true]; exact hww.symm⟩
    · simp only [va_up, if_neg hww] at hw'
      obtain ⟨i, hi, hi2⟩ := h3 w' hw'
      by_cases q : i < k
      · exact ⟨i, by omega, by simp only [if_pos q]; exact hi2⟩
      · exact ⟨i + 1, by omega, by simp only [if_neg (show ¬ i + 1 < k by omega), if_neg (show ¬ i + 1 = k by omega), Nat.add_sub_cancel]; exact hi2⟩
theorem TR_del {v v' : TW} {T : TF} (h : TR v T) {w k : Nat} (hw : w < 2 ^ 31) (hk : k < v.1) (he : v.2.1 k = nI w) (g0 : v'.1 = v.1 - 1)
    (gl : ∀ j, j < k → v'.2.1 j = v.2.1 j ∧ v'.2.2.1 j = v.2.2.1 j ∧ v'.2.2.2.1 j = v.2.2.2.1 j ∧ v'.2.2.2.2 j = v.2.2.2.2 j)
    (gh : ∀ j, k ≤ j → j + 1 < v.1 → v'.2.1 j = v.2.1 (j + 1) ∧ v'.2.2.1 j = v.2.2.1 (j + 1) ∧ v'.2.2.2.1 j = v.2.2.2.1 (j + 1) ∧ v'.2.2.2.2 j = v.2.2.2.2 (j + 1)) : TR v' (va_up T w (0, 0, 0)) := by
  obtain ⟨h0, wl, h1, h2, h3⟩ := h
  have e : wl k = w := (nI_eq (by have := (h1 k hk).2.2.1; omega) hw).mp ((h1 k hk).1.1.symm.trans he)
  have old : ∀ j, j < v.1 → j ≠ k → va_up T w (0, 0, 0) (wl j) = T (wl j) := fun j hj hjk => by
    have : wl j ≠ w := by
      rw [← e]
      rcases Nat.lt_or_gt_of_ne hjk with q | q
      · exact Nat.ne_of_lt (h2 j k q hk)
      · exact Nat.ne_of_gt (h2 k j q hj)
    simp [va_up, this]
  refine ⟨by omega, fun i => if i < k then wl i else wl (i + 1), fun j hj => ?_, fun a b hab hb => ?_, fun w' hw' => ?_⟩
  · by_cases q : j < k
    · simp only [if_pos q]
      rw [old j (by omega) (by omega), (gl j q).1, (gl j q).2.1, (gl j q).2.2.1, (gl j q).2.2.2]
      exact h1 j (by omega)
    · simp only [if_neg q]
      have gi := gh j (by omega) (by omega)
      rw [old (j + 1) (by omega) (by omega), gi.1, gi.2.1, gi.2.2.1, gi.2.2.2]
      exact h1 (j + 1) (by omega)
  · show (if a < k then wl a else wl (a + 1)) < (if b < k then wl b else wl (b + 1))
    by_cases qa : a < k
    · rw [if_pos qa]
      by_cases qb : b < k
      · rw [if_pos qb]; exact h2 a b hab (by omega)
      · rw [if_neg qb]; exact h2 a (b + 1) (by omega) (by omega)
    · rw [if_neg qa, if_neg (show ¬ b < k by omega)]; exact h2 (a + 1) (b + 1) (by omega) (by omega)
  · by_cases hww : w' = w
    · subst hww; simp [va_up] at hw'
    · simp only [va_up, if_neg hww] at hw'
      obtain ⟨i, hi, hi2⟩ := h3 w' hw'
      have hik : i ≠ k := fun q => hww (by rw [← hi2, q, e])
      by_cases q : i < k
      · exact ⟨i, by omega, by simp only [if_pos q]; exact hi2⟩
      · exact ⟨i - 1, by omega, by simp only [if_neg (show ¬ i - 1 < k by omega), show i - 1 + 1 = i by omega]; exact hi2⟩
theorem TR_nil (f1 f2 f3 f4 : Nat → Int32) : TR (0, f1, f2, f3, f4) (fun _ => (0, 0, 0)) := ⟨Nat.zero_le _, fun _ => 0, fun i hi => absurd hi (Nat.not_lt_zero _), fun i j _ hj => absurd hj (Nat.not_lt_zero _), fun w hw => absurd rfl hw⟩
/-- how many works are in the table -/
def cardT (T : TF) : Nat → Nat
  | 0 => 0
  | m + 1 => cardT T m + (if (T (m + 1)).1 = 0 then 0 else 1)
theorem TR_card {v : TW} {T : TF} (h : TR v T) : v.1 = cardT T 200 := by
  obtain ⟨h0, wl, h1, h2, h3⟩ := h
  have key : ∀ m, m ≤ 200 → ∃ q, q ≤ v.1 ∧ (∀ i, i < v.1 → (i < q ↔ wl i ≤ m)) ∧ cardT T m = q := by
    intro m
    induction m with
    | zero => intro _; exact ⟨0, Nat.zero_le _, fun i hi => ⟨fun h => absurd h (Nat.not_lt_zero _), fun h => by have := (h1 i hi).2.1; omega⟩, rfl⟩
    | succ m ih =>
      intro hm
      obtain ⟨q, hq, hq2, hq3⟩ := ih (by omega)
      by_cases hz : (T (m + 1)).1 = 0
      · refine ⟨q, hq, fun i hi => ⟨fun h => by have := (hq2 i hi).mp h; omega, fun h => (hq2 i hi).mpr ?_⟩, by simp only [cardT, if_pos hz, hq3]; rfl⟩
        have : wl i ≠ m + 1 := fun e => (h1 i hi).2.2.2 (by rw [e]; exact hz)
        omega
      · obtain ⟨i0, hi0, e0⟩ := h3 _ hz
        have hqi : q = i0 := by
          have a1 : ¬ i0 < q := fun h => by have := (hq2 i0 hi0).mp h; omega
          by_cases a2 : q < i0
          · have a3 := h2 q i0 a2 hi0
            have a4 := (hq2 q (by omega)).mpr (by omega)
            omega
          · omega
        subst hqi
        refine ⟨q + 1, by omega, fun i hi => ⟨fun h => ?_, fun h => ?_⟩, by simp only [cardT, if_neg hz, hq3]⟩
        · rcases Nat.lt_or_ge i q with a | a
          · have := (hq2 i hi).mp a; omega
          · have : i = q := by omega
            subst this; omega
        · by_cases a : i < q + 1
          · exact a
          · have := h2 q i (by omega) hi; omega
  obtain ⟨q, hq, hq2, hq3⟩ := key 200 (Nat.le_refl _)
  rw [hq3]
  by_cases hlt : q < v.1
  · have := (hq2 q hlt).mpr (h1 q hlt).2.2.1
    omega
  · omega
/-- the least work in a state (0: none) -/
def lwD (T : TF) (st : Nat) : Nat → Nat
  | 0 => 0
  | m + 1 => if lwD T st m = 0 ∧ (T (m + 1)).1 = st then m + 1 else lwD T st m
theorem lwD_le (T : TF) (st m : Nat) : lwD T st m ≤ m := by
  induction m with
  | zero => exact Nat.le_refl _
  | succ m ih => simp only [lwD]; split <;> omega
theorem lwD_none {T : TF} {st : Nat} : ∀ m, (∀ w, 1 ≤ w → w ≤ m → (T w).1 ≠ st) → lwD T st m = 0 := by
  intro m
  induction m with
  | zero => intro _; rfl
  | succ m ih =>
    intro h
    have h1 := ih (fun w a b => h w a (by omega))
    simp only [lwD, h1]
    exact if_neg (fun q => h (m + 1) (by omega) (Nat.le_refl _) q.2)
theorem lwD_least {T : TF} {st w : Nat} (hw : 1 ≤ w) (h1 : (T w).1 = st) (h2 : ∀ w', 1 ≤ w' → w' < w → (T w').1 ≠ st) : ∀ m, w ≤ m → lwD T st m = w := by
  intro m
  induction m with
  | zero => intro h; omega
  | succ m ih =>
    intro h
    by_cases hm : w ≤ m
    · have := ih hm
      simp only [lwD, this, if_neg (show ¬ (w = 0 ∧ (T (m + 1)).1 = st) from fun q => by omega)]
    · have e : w = m + 1 := by omega
      subst e
      have := lwD_none (T := T) (st := st) m (fun w a b => h2 w a (by omega))
      simp only [lwD, this, h1, and_self, if_true]
/-- the work whose next record is the greatest, of those that are to be undone -/
def wuP (T : TF) (b w : Nat) : Prop := ((T w).1 = 1 ∨ (T w).1 = 2) ∧ (b = 0 ∨ (T b).2.2 < (T w).2.2)
noncomputable def wuD (T : TF) : Nat → Nat
  | 0 => 0
  | m + 1 => @ite _ (wuP T (wuD T m) (m + 1)) (Classical.propDecidable _) (m + 1) (wuD T m)
theorem wuD_pos {T : TF} {m : Nat} (h : wuP T (wuD T m) (m + 1)) : wuD T (m + 1) = m + 1 := by simp only [wuD]; exact if_pos h
theorem wuD_neg {T : TF} {m : Nat} (h : ¬ wuP T (wuD T m) (m + 1)) : wuD T (m + 1) = wuD T m := by simp only [wuD]; exact if_neg h
theorem wuD_le (T : TF) (m : Nat) : wuD T m ≤ m := by
  induction m with
  | zero => exact Nat.le_refl _
  | succ m ih =>
    by_cases h : wuP T (wuD T m) (m + 1)
    · rw [wuD_pos h]; omega
    · rw [wuD_neg h]; omega
theorem wuD_in {T : TF} (m : Nat) : wuD T m = 0 ∨ (T (wuD T m)).1 = 1 ∨ (T (wuD T m)).1 = 2 := by
  induction m with
  | zero => exact Or.inl rfl
  | succ m ih =>
    by_cases h : wuP T (wuD T m) (m + 1)
    · rw [wuD_pos h]; exact Or.inr h.1
    · rw [wuD_neg h]; exact ih
theorem wuD_skip {T : TF} {a : Nat} : ∀ m, a ≤ m → (∀ w, a < w → w ≤ m → (T w).1 = 0) → wuD T m = wuD T a := by
  intro m h
  induction h with
  | refl => intro _; rfl
  | step hm ih =>
    intro hz
    have hz2 := hz _ (Nat.lt_succ_of_le hm) (Nat.le_refl _)
    rw [wuD_neg (fun q => by rcases q.1 with q | q <;> rw [hz2] at q <;> cases q)]
    exact ih (fun w a b => hz w a (Nat.le_succ_of_le b))
/-- the least base (0: no page is dirty) -/
def lbD (base : Nat → Nat) : Nat → Nat
  | 0 => 0
  | m + 1 => if base m ≠ 0 ∧ (lbD base m = 0 ∨ base m < lbD base m) then base m else lbD base m
end
section
/-! RestartBook.Tables: slots -/
set_option maxRecDepth 20000 in
theorem in_X2_isFull : ∀ w ∈ u_ws RX2 TX2 6, w ∈ wsX2_isFull := by
  intro w h
  show w ∈ wsX2_isFull
  simp only [wsX2_isFull, List.mem_cons, List.mem_append]
  simp only [h, true_or, or_true]
set_option maxRecDepth 20000 in
theorem in_X2_workAt : ∀ w ∈ u_ws RX2 TX2 6, w ∈ wsX2_workAt := by
  intro w h
  show w ∈ wsX2_workAt
  simp only [wsX2_workAt, List.mem_cons, List.mem_append]
  simp only [h, true_or, or_true]
set_option maxRecDepth 20000 in
theorem in_X2_stateOf : ∀ w ∈ u_ws RX2 TX2 6, w ∈ wsX2_stateOf := by
  intro w h
  show w ∈ wsX2_stateOf
  simp only [wsX2_stateOf, List.mem_cons, List.mem_append]
  simp only [h, true_or, or_true]
set_option maxRecDepth 20000 in
theorem in_X2_lastOf : ∀ w ∈ u_ws RX2 TX2 6, w ∈ wsX2_lastOf := by
  intro w h
  show w ∈ wsX2_lastOf
  simp only [wsX2_lastOf, List.mem_cons, List.mem_append]
  simp only [h, true_or, or_true]
set_option maxRecDepth 20000 in
theorem in_X2_nextOf : ∀ w ∈ u_ws RX2 TX2 6, w ∈ wsX2_nextOf := by
  intro w h
  show w ∈ wsX2_nextOf
  simp only [wsX2_nextOf, List.mem_cons, List.mem_append]
  simp only [h, true_or, or_true]
set_option maxRecDepth 20000 in
theorem in_X2_setState : ∀ w ∈ u_ws RX2 TX2 6, w ∈ wsX2_setState := by
  intro w h
  show w ∈ wsX2_setState
  simp only [wsX2_setState, List.mem_cons, List.mem_append]
  simp only [h, true_or, or_true]
set_option maxRecDepth 20000 in
theorem in_X2_setLast : ∀ w ∈ u_ws RX2 TX2 6, w ∈ wsX2_setLast := by
  intro w h
  show w ∈ wsX2_setLast
  simp only [wsX2_setLast, List.mem_cons, List.mem_append]
  simp only [h, true_or, or_true]
set_option maxRecDepth 20000 in
theorem in_X2_setNext : ∀ w ∈ u_ws RX2 TX2 6, w ∈ wsX2_setNext := by
  intro w h
  show w ∈ wsX2_setNext
  simp only [wsX2_setNext, List.mem_cons, List.mem_append]
  simp only [h, true_or, or_true]
set_option maxRecDepth 20000 in
theorem in_X2_bringIn : ∀ w ∈ u_ws RX2 TX2 6, w ∈ wsX2_bringIn := by
  intro w h
  show w ∈ wsX2_bringIn
  simp only [wsX2_bringIn, List.mem_cons, List.mem_append]
  simp only [h, true_or, or_true]
set_option maxRecDepth 20000 in
theorem in_X2_takeOut : ∀ w ∈ u_ws RX2 TX2 6, w ∈ wsX2_takeOut := by
  intro w h
  show w ∈ wsX2_takeOut
  simp only [wsX2_takeOut, List.mem_cons, List.mem_append]
  simp only [h, true_or, or_true]
set_option maxRecDepth 20000 in
theorem in_X2_leastWorkIn : ∀ w ∈ u_ws RX2 TX2 6, w ∈ wsX2_leastWorkIn := by
  intro w h
  show w ∈ wsX2_leastWorkIn
  simp only [wsX2_leastWorkIn, List.mem_cons, List.mem_append]
  simp only [h, true_or, or_true]
set_option maxRecDepth 20000 in
theorem in_X2_workToUndo : ∀ w ∈ u_ws RX2 TX2 6, w ∈ wsX2_workToUndo := by
  intro w h
  show w ∈ wsX2_workToUndo
  simp only [wsX2_workToUndo, List.mem_cons, List.mem_append]
  simp only [h, true_or, or_true]
set_option maxRecDepth 20000 in
theorem in_X2_baseOf : ∀ w ∈ u_ws RX2 TX2 6, w ∈ wsX2_baseOf := by
  intro w h
  show w ∈ wsX2_baseOf
  simp only [wsX2_baseOf, List.mem_cons, List.mem_append]
  simp only [h, true_or, or_true]
set_option maxRecDepth 20000 in
theorem in_X2_makeDirty : ∀ w ∈ u_ws RX2 TX2 6, w ∈ wsX2_makeDirty := by
  intro w h
  show w ∈ wsX2_makeDirty
  simp only [wsX2_makeDirty, List.mem_cons, List.mem_append]
  simp only [h, true_or, or_true]
set_option maxRecDepth 20000 in
theorem in_X2_makeClean : ∀ w ∈ u_ws RX2 TX2 6, w ∈ wsX2_makeClean := by
  intro w h
  show w ∈ wsX2_makeClean
  simp only [wsX2_makeClean, List.mem_cons, List.mem_append]
  simp only [h, true_or, or_true]
set_option maxRecDepth 20000 in
theorem in_X2_leastBase : ∀ w ∈ u_ws RX2 TX2 6, w ∈ wsX2_leastBase := by
  intro w h
  show w ∈ wsX2_leastBase
  simp only [wsX2_leastBase, List.mem_cons, List.mem_append]
  simp only [h, true_or, or_true]
set_option maxRecDepth 20000 in
theorem in_X2_makeEmpty : ∀ w ∈ u_ws RX2 TX2 6, w ∈ wsX2_makeEmpty := by
  intro w h
  show w ∈ wsX2_makeEmpty
  simp only [wsX2_makeEmpty, List.mem_cons, List.mem_append]
  simp only [h, true_or, or_true]
set_option maxRecDepth 20000 in
theorem in_X2_bringInMissing : ∀ w ∈ u_ws RX2 TX2 6, w ∈ wsX2_bringInMissing := by
  intro w h
  show w ∈ wsX2_bringInMissing
  simp only [wsX2_bringInMissing, List.mem_cons, List.mem_append]
  simp only [h, true_or, or_true]
set_option maxRecDepth 20000 in
theorem in_X2_slotOf : ∀ w ∈ u_ws RX2 TX2 6, w ∈ wsX2_slotOf := by
  intro w h
  show w ∈ wsX2_slotOf
  simp only [wsX2_slotOf, List.mem_cons, List.mem_append]
  simp only [h, true_or, or_true]
set_option maxRecDepth 20000 in
theorem in_X2_copySlot : ∀ w ∈ u_ws RX2 TX2 6, w ∈ wsX2_copySlot := by
  intro w h
  show w ∈ wsX2_copySlot
  simp only [wsX2_copySlot, List.mem_cons, List.mem_append]
  simp only [h, true_or, or_true]
set_option maxRecDepth 20000 in
theorem in_X2_init : ∀ w ∈ u_ws RX2 TX2 6, w ∈ wsX2_init := by
  intro w h
  show w ∈ wsX2_init
  simp only [wsX2_init, List.mem_cons, List.mem_append]
  simp only [h, true_or, or_true]
theorem hd_X2_isFull : yX2_isFull.cls = RX2 ∧ yX2_isFull.cls ≠ "java/lang/invoke/MethodHandle" ∧ yX2_isFull.cls ≠ "java/lang/invoke/VarHandle" ∧ (parseMethodDescriptor yX2_isFull.desc).map (fun d => d.parameters.length) = some 0 := by decide +kernel
theorem hd_X2_holds : yX2_holds.cls = RX2 ∧ yX2_holds.cls ≠ "java/lang/invoke/MethodHandle" ∧ yX2_holds.cls ≠ "java/lang/invoke/VarHandle" ∧ (parseMethodDescriptor yX2_holds.desc).map (fun d => d.parameters.length) = some 1 := by decide +kernel
theorem hd_X2_workAt : yX2_workAt.cls = RX2 ∧ yX2_workAt.cls ≠ "java/lang/invoke/MethodHandle" ∧ yX2_workAt.cls ≠ "java/lang/invoke/VarHandle" ∧ (parseMethodDescriptor yX2_workAt.desc).map (fun d => d.parameters.length) = some 1 := by decide +kernel
theorem hd_X2_stateOf : yX2_stateOf.cls = RX2 ∧ yX2_stateOf.cls ≠ "java/lang/invoke/MethodHandle" ∧ yX2_stateOf.cls ≠ "java/lang/invoke/VarHandle" ∧ (parseMethodDescriptor yX2_stateOf.desc).map (fun d => d.parameters.length) = some 1 := by decide +kernel
theorem hd_X2_lastOf : yX2_lastOf.cls = RX2 ∧ yX2_lastOf.cls ≠ "java/lang/invoke/MethodHandle" ∧ yX2_lastOf.cls ≠ "java/lang/invoke/VarHandle" ∧ (parseMethodDescriptor yX2_lastOf.desc).map (fun d => d.parameters.length) = some 1 := by decide +kernel
theorem hd_X2_nextOf : yX2_nextOf.cls = RX2 ∧ yX2_nextOf.cls ≠ "java/lang/invoke/MethodHandle" ∧ yX2_nextOf.cls ≠ "java/lang/invoke/VarHandle" ∧ (parseMethodDescriptor yX2_nextOf.desc).map (fun d => d.parameters.length) = some 1 := by decide +kernel
theorem hd_X2_setState : yX2_setState.cls = RX2 ∧ yX2_setState.cls ≠ "java/lang/invoke/MethodHandle" ∧ yX2_setState.cls ≠ "java/lang/invoke/VarHandle" ∧ (parseMethodDescriptor yX2_setState.desc).map (fun d => d.parameters.length) = some 2 := by decide +kernel
theorem hd_X2_setLast : yX2_setLast.cls = RX2 ∧ yX2_setLast.cls ≠ "java/lang/invoke/MethodHandle" ∧ yX2_setLast.cls ≠ "java/lang/invoke/VarHandle" ∧ (parseMethodDescriptor yX2_setLast.desc).map (fun d => d.parameters.length) = some 2 := by decide +kernel
theorem hd_X2_setNext : yX2_setNext.cls = RX2 ∧ yX2_setNext.cls ≠ "java/lang/invoke/MethodHandle" ∧ yX2_setNext.cls ≠ "java/lang/invoke/VarHandle" ∧ (parseMethodDescriptor yX2_setNext.desc).map (fun d => d.parameters.length) = some 2 := by decide +kernel
theorem hd_X2_bringIn : yX2_bringIn.cls = RX2 ∧ yX2_bringIn.cls ≠ "java/lang/invoke/MethodHandle" ∧ yX2_bringIn.cls ≠ "java/lang/invoke/VarHandle" ∧ (parseMethodDescriptor yX2_bringIn.desc).map (fun d => d.parameters.length) = some 1 := by decide +kernel
theorem hd_X2_takeOut : yX2_takeOut.cls = RX2 ∧ yX2_takeOut.cls ≠ "java/lang/invoke/MethodHandle" ∧ yX2_takeOut.cls ≠ "java/lang/invoke/VarHandle" ∧ (parseMethodDescriptor yX2_takeOut.desc).map (fun d => d.parameters.length) = some 1 := by decide +kernel
theorem hd_X2_leastWorkIn : yX2_leastWorkIn.cls = RX2 ∧ yX2_leastWorkIn.cls ≠ "java/lang/invoke/MethodHandle" ∧ yX2_leastWorkIn.cls ≠ "java/lang/invoke/VarHandle" ∧ (parseMethodDescriptor yX2_leastWorkIn.desc).map (fun d => d.parameters.length) = some 1 := by decide +kernel
theorem hd_X2_workToUndo : yX2_workToUndo.cls = RX2 ∧ yX2_workToUndo.cls ≠ "java/lang/invoke/MethodHandle" ∧ yX2_workToUndo.cls ≠ "java/lang/invoke/VarHandle" ∧ (parseMethodDescriptor yX2_workToUndo.desc).map (fun d => d.parameters.length) = some 0 := by decide +kernel
theorem hd_X2_baseOf : yX2_baseOf.cls = RX2 ∧ yX2_baseOf.cls ≠ "java/lang/invoke/MethodHandle" ∧ yX2_baseOf.cls ≠ "java/lang/invoke/VarHandle" ∧ (parseMethodDescriptor yX2_baseOf.desc).map (fun d => d.parameters.length) = some 1 := by decide +kernel
theorem hd_X2_makeDirty : yX2_makeDirty.cls = RX2 ∧ yX2_makeDirty.cls ≠ "java/lang/invoke/MethodHandle" ∧ yX2_makeDirty.cls ≠ "java/lang/invoke/VarHandle" ∧ (parseMethodDescriptor yX2_makeDirty.desc).map (fun d => d.parameters.length) = some 2 := by decide +kernel
theorem hd_X2_makeClean : yX2_makeClean.cls = RX2 ∧ yX2_makeClean.cls ≠ "java/lang/invoke/MethodHandle" ∧ yX2_makeClean.cls ≠ "java/lang/invoke/VarHandle" ∧ (parseMethodDescriptor yX2_makeClean.desc).map (fun d => d.parameters.length) = some 1 := by decide +kernel
theorem hd_X2_leastBase : yX2_leastBase.cls = RX2 ∧ yX2_leastBase.cls ≠ "java/lang/invoke/MethodHandle" ∧ yX2_leastBase.cls ≠ "java/lang/invoke/VarHandle" ∧ (parseMethodDescriptor yX2_leastBase.desc).map (fun d => d.parameters.length) = some 0 := by decide +kernel
theorem hd_X2_makeEmpty : yX2_makeEmpty.cls = RX2 ∧ yX2_makeEmpty.cls ≠ "java/lang/invoke/MethodHandle" ∧ yX2_makeEmpty.cls ≠ "java/lang/invoke/VarHandle" ∧ (parseMethodDescriptor yX2_makeEmpty.desc).map (fun d => d.parameters.length) = some 0 := by decide +kernel
theorem hd_X2_becomeLike : yX2_becomeLike.cls = RX2 ∧ yX2_becomeLike.cls ≠ "java/lang/invoke/MethodHandle" ∧ yX2_becomeLike.cls ≠ "java/lang/invoke/VarHandle" ∧ (parseMethodDescriptor yX2_becomeLike.desc).map (fun d => d.parameters.length) = some 1 := by decide +kernel
theorem hd_X2_bringInMissing : yX2_bringInMissing.cls = RX2 ∧ yX2_bringInMissing.cls ≠ "java/lang/invoke/MethodHandle" ∧ yX2_bringInMissing.cls ≠ "java/lang/invoke/VarHandle" ∧ (parseMethodDescriptor yX2_bringInMissing.desc).map (fun d => d.parameters.length) = some 1 := by decide +kernel
theorem hd_X2_slotOf : yX2_slotOf.cls = RX2 ∧ yX2_slotOf.cls ≠ "java/lang/invoke/MethodHandle" ∧ yX2_slotOf.cls ≠ "java/lang/invoke/VarHandle" ∧ (parseMethodDescriptor yX2_slotOf.desc).map (fun d => d.parameters.length) = some 1 := by decide +kernel
theorem hd_X2_copySlot : yX2_copySlot.cls = RX2 ∧ yX2_copySlot.cls ≠ "java/lang/invoke/MethodHandle" ∧ yX2_copySlot.cls ≠ "java/lang/invoke/VarHandle" ∧ (parseMethodDescriptor yX2_copySlot.desc).map (fun d => d.parameters.length) = some 2 := by decide +kernel
theorem nI_nm1 {i : Nat} (h : i < 2 ^ 31) : ¬ nI i = -1 := by
  intro q
  rw [i_eq, nI_toInt h, z_m1] at q
  omega
theorem TR_mem {v : TW} {T : TF} (h : TR v T) {i : Nat} (hi : i < v.1) : ∃ w : Nat, w ≤ 200 ∧ v.2.1 i = nI w ∧ (T w).1 ≠ 0 := by
  obtain ⟨-, wl, h1, -, -⟩ := h
  exact ⟨wl i, (h1 i hi).2.2.1, (h1 i hi).1.1, (h1 i hi).2.2.2⟩
theorem TR_setS {v : TW} {T : TF} (h : TR v T) {w i s : Nat} (hwb : w < 2 ^ 31) (hi : i < v.1) (he : v.2.1 i = nI w) (hs : s ≠ 0) : TR (v.1, v.2.1, upd v.2.2.1 i (nI s), v.2.2.2.1, v.2.2.2.2) (va_up T w (s, (T w).2.1, (T w).2.2)) :=
  TR_upd h hwb hi he hs rfl (fun _ _ => rfl) (fun _ _ => rfl) (fun j _ => by split; (rename_i e; rw [e]; exact (TR_at h hwb hi he).2.2.2.2.1); rfl) (fun j _ => by split; (rename_i e; rw [e]; exact (TR_at h hwb hi he).2.2.2.2.2); rfl)
theorem TR_setL {v : TW} {T : TF} (h : TR v T) {w i s : Nat} (hwb : w < 2 ^ 31) (hi : i < v.1) (he : v.2.1 i = nI w) : TR (v.1, v.2.1, v.2.2.1, upd v.2.2.2.1 i (nI s), v.2.2.2.2) (va_up T w ((T w).1, s, (T w).2.2)) :=
  TR_upd h hwb hi he (TR_at h hwb hi he).2.2.1 rfl (fun _ _ => rfl) (fun j _ => by split; (rename_i e; rw [e]; exact (TR_at h hwb hi he).2.2.2.1); rfl) (fun _ _ => rfl) (fun j _ => by split; (rename_i e; rw [e]; exact (TR_at h hwb hi he).2.2.2.2.2); rfl)
theorem TR_setN {v : TW} {T : TF} (h : TR v T) {w i s : Nat} (hwb : w < 2 ^ 31) (hi : i < v.1) (he : v.2.1 i = nI w) : TR (v.1, v.2.1, v.2.2.1, v.2.2.2.1, upd v.2.2.2.2 i (nI s)) (va_up T w ((T w).1, (T w).2.1, s)) :=
  TR_upd h hwb hi he (TR_at h hwb hi he).2.2.1 rfl (fun _ _ => rfl) (fun j _ => by split; (rename_i e; rw [e]; exact (TR_at h hwb hi he).2.2.2.1); rfl) (fun j _ => by split; (rename_i e; rw [e]; exact (TR_at h hwb hi he).2.2.2.2.1); rfl) (fun _ _ => rfl)
set_option maxHeartbeats 4000000 in
set_option maxRecDepth 100000 in
theorem cT_slotOf (l : Launch) (D : va_G) (cI : ClassId) (a a1 a2 a3 a4 a5 : Nat) (v : TW) (fb : Nat → Int32) (x : Int32) (hv : v.1 ≤ 16) : Kt l yX2_slotOf wsX2_slotOf 0 0 (0) (0) D cI [.ref a, .int x] ([(a, .inr (2, [.int (nI v.1), .ref a1, .ref a2, .ref a3, .ref a4, .ref a5])), (a1, .inl (cI, 16, .inl v.2.1)), (a2, .inl (cI, 16, .inl v.2.2.1)), (a3, .inl (cI, 16, .inl v.2.2.2.1)), (a4, .inl (cI, 16, .inl v.2.2.2.2)), (a5, .inl (cI, 64, .inl fb))]) (pI (fun (r : Int32) (u : Unit) => (∃ i, i < v.1 ∧ v.2.1 i = x ∧ r = nI i) ∨ ((∀ i, i < v.1 → v.2.1 i ≠ x) ∧ r = -1))) (fun (u : Unit) => [(a, .inr (2, [.int (nI v.1), .ref a1, .ref a2, .ref a3, .ref a4, .ref a5])), (a1, .inl (cI, 16, .inl v.2.1)), (a2, .inl (cI, 16, .inl v.2.2.1)), (a3, .inl (cI, 16, .inl v.2.2.2.1)), (a4, .inl (cI, 16, .inl v.2.2.2.2)), (a5, .inl (cI, 64, .inl fb))]) := by
  refine kt_start (cc := cX2_slotOf) (maxL := 3) (ret := (some .int)) (by decide +kernel) rfl (Nat.le_of_ble_eq_true rfl) ?_
  intro p e s m below meth c hx hb hml hr hlk hown hnm hts ls hl hw
  have hown : s.vm.findClass RX2 = some m.cls := hown
  have hl : lv_has ls 3 [(0, .ref a), (1, .int x)] := hl
  have k7 := hts (.fieldLink RX2 7 "RestartBook$Tables" "size" "I") (by decide +kernel)
  have k13 := hts (.fieldLink RX2 13 "RestartBook$Tables" "works" "[I") (by decide +kernel)
  have hin2 : ∀ w ∈ u_ws RX2 TX2 6, w ∈ wsX2_slotOf := in_X2_slotOf
  refine lv_iconst (v := nI 0) hx hb dX2_slotOf_0 (by decide +kernel) ?_
  refine lv_istore_n (lv' := [(2, .int (nI 0)), (0, .ref a), (1, .int x)]) hx hb dX2_slotOf_1 rfl hl (by decide) rfl (fun ls hl => ?_)
  have lp : ∀ (t : Nat) (i : Nat) (H : Heap) (locs : List Loc) (ls : Array Slot), v.1 - i < t → (i ≤ v.1) → (∀ j, j < i → v.2.1 j ≠ x) → ww D cI (va_A ([(a, .inr (2, [.int (nI v.1), .ref a1, .ref a2, .ref a3, .ref a4, .ref a5])), (a1, .inl (cI, 16, .inl v.2.1)), (a2, .inl (cI, 16, .inl v.2.2.1)), (a3, .inl (cI, 16, .inl v.2.2.2.1)), (a4, .inl (cI, 16, .inl v.2.2.2.2)), (a5, .inl (cI, 64, .inl fb))]) s.heap.size) s.heap s ([(a, .inr (2, [.int (nI v.1), .ref a1, .ref a2, .ref a3, .ref a4, .ref a5])), (a1, .inl (cI, 16, .inl v.2.1)), (a2, .inl (cI, 16, .inl v.2.2.1)), (a3, .inl (cI, 16, .inl v.2.2.2.1)), (a4, .inl (cI, 16, .inl v.2.2.2.2)), (a5, .inl (cI, 64, .inl fb))]) H locs → lv_has ls 3 [(2, .int (nI i)), (0, .ref a), (1, .int x)] → W p l e { frames := 0, cells := 0, slots := 0, locals := 0 } s m [.ref a, .int x].toArray below meth c H locs (0) (0) (MQ below (kQ D cI ([(a, .inr (2, [.int (nI v.1), .ref a1, .ref a2, .ref a3, .ref a4, .ref a5])), (a1, .inl (cI, 16, .inl v.2.1)), (a2, .inl (cI, 16, .inl v.2.2.1)), (a3, .inl (cI, 16, .inl v.2.2.2.1)), (a4, .inl (cI, 16, .inl v.2.2.2.2)), (a5, .inl (cI, 64, .inl fb))]) s.heap.size (pI (fun (r : Int32) (u : Unit) => (∃ i, i < v.1 ∧ v.2.1 i = x ∧ r = nI i) ∨ ((∀ i, i < v.1 → v.2.1 i ≠ x) ∧ r = -1))) (fun (u : Unit) => [(a, .inr (2, [.int (nI v.1), .ref a1, .ref a2, .ref a3, .ref a4, .ref a5])), (a1, .inl (cI, 16, .inl v.2.1)), (a2, .inl (cI, 16, .inl v.2.2.1)), (a3, .inl (cI, 16, .inl v.2.2.2.1)), (a4, .inl (cI, 16, .inl v.2.2.2.2)), (a5, .inl (cI, 64, .inl fb))])) [.ref a, .int x].toArray s (0) (0) (va_A ([(a, .inr (2, [.int (nI v.1), .ref a1, .ref a2, .ref a3, .ref a4, .ref a5])), (a1, .inl (cI, 16, .inl v.2.1)), (a2, .inl (cI, 16, .inl v.2.2.1)), (a3, .inl (cI, 16, .inl v.2.2.2.1)), (a4, .inl (cI, 16, .inl v.2.2.2.2)), (a5, .inl (cI, 64, .inl fb))]) s.heap.size)) (F0 m 2 ls []) := by
    intro t
    induction t with
    | zero => intro i H locs ls ht; exact absurd ht (Nat.not_lt_zero _)
    | succ t ih_2 =>
      intro i H locs ls ht hi0 hno hw hl
      refine lv_iload_n hx hb dX2_slotOf_2 rfl (lv_at hl 0 rfl) ?_
      refine lv_aload_n hx hb dX2_slotOf_3 rfl (lv_at hl 1 rfl) ?_
      refine ww_get hx hb hts hin2 hown hw 0 rfl rfl 0 (by decide) k7 rfl dX2_slotOf_4 ?_
      refine lv_icmp_ge (tgt := 28) hx hb dX2_slotOf_7 (by decide) (fun c_7 => ?_) (fun c_7 => ?_)
      · refine lv_iconst (v := (-1)) hx hb dX2_slotOf_28 (by decide +kernel) ?_
        exact ww_iret (u := ()) hx hb hr hlk hw (Or.inr ⟨fun j hj => hno j (by simp (disch := omega) only [i_le, nI_toInt] at c_7; omega), rfl⟩) (Nat.le_of_ble_eq_true rfl) (Nat.le_of_ble_eq_true rfl) dX2_slotOf_29
      · have hi : i < v.1 := by simp (disch := omega) only [i_le, nI_toInt] at c_7; omega
        refine lv_aload_n hx hb dX2_slotOf_10 rfl (lv_at hl 1 rfl) ?_
        refine ww_get hx hb hts hin2 hown hw 0 rfl rfl 1 (by decide) k13 rfl dX2_slotOf_11 ?_
        refine lv_iload_n hx hb dX2_slotOf_14 rfl (lv_at hl 0 rfl) ?_
        refine ww_iald hx hb hw 1 rfl i rfl (by omega) (by omega) dX2_slotOf_15 ?_
        refine lv_iload_n hx hb dX2_slotOf_16 rfl (lv_at hl 2 rfl) ?_
        refine lv_icmp_ne (tgt := 22) hx hb dX2_slotOf_17 (by decide) (fun c_17 => ?_) (fun c_17 => ?_)
        · refine lv_iinc (v := nI (i + 1)) (lv' := [(2, .int (nI (i + 1))), (0, .ref a), (1, .int x)]) hx hb dX2_slotOf_22 hl (k := 0) rfl (nI_add _ _) (by decide) rfl (fun ls hl => ?_)
          refine lv_goto (tgt := 2) hx hb dX2_slotOf_25 (by decide) ?_
          exact ih_2 (i + 1) _ _ _ (by omega) (by omega) (fun j hj => (Nat.lt_succ_iff_lt_or_eq.mp hj).elim (hno j) (fun e => by rw [e]; exact c_17)) hw (lv_sub hl [0, 1, 2] rfl)
        · refine lv_iload_n hx hb dX2_slotOf_20 rfl (lv_at hl 0 rfl) ?_
          exact ww_iret (u := ()) hx hb hr hlk hw (Or.inl ⟨i, hi, c_17, rfl⟩) (Nat.le_of_ble_eq_true rfl) (Nat.le_of_ble_eq_true rfl) dX2_slotOf_21
  exact lp ((v.1 - (0)) + 1) 0 _ _ _ (Nat.lt_succ_self _) (Nat.zero_le _) (fun j hj => absurd hj (Nat.not_lt_zero _)) hw (lv_sub hl [0, 1, 2] rfl)
set_option maxHeartbeats 4000000 in
set_option maxRecDepth 100000 in
theorem cT_copySlot (l : Launch) (D : va_G) (cI : ClassId) (a a1 a2 a3 a4 a5 : Nat) (v : TW) (fb : Nat → Int32) (sz i j : Nat) (hi : i < 16) (hj : j < 16) : Kt l yX2_copySlot wsX2_copySlot 0 0 (0) (0) D cI [.ref a, .int (nI i), .int (nI j)] ([(a, .inr (2, [.int (nI sz), .ref a1, .ref a2, .ref a3, .ref a4, .ref a5])), (a1, .inl (cI, 16, .inl v.2.1)), (a2, .inl (cI, 16, .inl v.2.2.1)), (a3, .inl (cI, 16, .inl v.2.2.2.1)), (a4, .inl (cI, 16, .inl v.2.2.2.2)), (a5, .inl (cI, 64, .inl fb))]) (pV (fun (u : Unit) => True)) (fun (u : Unit) => [(a, .inr (2, [.int (nI sz), .ref a1, .ref a2, .ref a3, .ref a4, .ref a5])), (a1, .inl (cI, 16, .inl (upd v.2.1 j (v.2.1 i)))), (a2, .inl (cI, 16, .inl (upd v.2.2.1 j (v.2.2.1 i)))), (a3, .inl (cI, 16, .inl (upd v.2.2.2.1 j (v.2.2.2.1 i)))), (a4, .inl (cI, 16, .inl (upd v.2.2.2.2 j (v.2.2.2.2 i)))), (a5, .inl (cI, 64, .inl fb))]) := by
  refine kt_start (cc := cX2_copySlot) (maxL := 3) (ret := none) (by decide +kernel) rfl (Nat.le_of_ble_eq_true rfl) ?_
  intro p e s m below meth c hx hb hml hr hlk hown hnm hts ls hl hw
  have hown : s.vm.findClass RX2 = some m.cls := hown
  have hl : lv_has ls 3 [(0, .ref a), (1, .int (nI i)), (2, .int (nI j))] := hl
  have k13 := hts (.fieldLink RX2 13 "RestartBook$Tables" "works" "[I") (by decide +kernel)
  have k17 := hts (.fieldLink RX2 17 "RestartBook$Tables" "states" "[I") (by decide +kernel)
  have k20 := hts (.fieldLink RX2 20 "RestartBook$Tables" "lasts" "[I") (by decide +kernel)
  have k23 := hts (.fieldLink RX2 23 "RestartBook$Tables" "nexts" "[I") (by decide +kernel)
  have hin2 : ∀ w ∈ u_ws RX2 TX2 6, w ∈ wsX2_copySlot := in_X2_copySlot
  refine lv_aload_n hx hb dX2_copySlot_0 rfl (lv_at hl 0 rfl) ?_
  refine ww_get hx hb hts hin2 hown hw 0 rfl rfl 1 (by decide) k13 rfl dX2_copySlot_1 ?_
  refine lv_iload_n hx hb dX2_copySlot_4 rfl (lv_at hl 2 rfl) ?_
  refine lv_aload_n hx hb dX2_copySlot_5 rfl (lv_at hl 0 rfl) ?_
  refine ww_get hx hb hts hin2 hown hw 0 rfl rfl 1 (by decide) k13 rfl dX2_copySlot_6 ?_
  refine lv_iload_n hx hb dX2_copySlot_9 rfl (lv_at hl 1 rfl) ?_
  refine ww_iald hx hb hw 1 rfl i rfl (by omega) (by omega) dX2_copySlot_10 ?_
  refine ww_iast (ws' := [(a, .inr (2, [.int (nI sz), .ref a1, .ref a2, .ref a3, .ref a4, .ref a5])), (a1, .inl (cI, 16, .inl (upd v.2.1 j (v.2.1 i)))), (a2, .inl (cI, 16, .inl v.2.2.1)), (a3, .inl (cI, 16, .inl v.2.2.2.1)), (a4, .inl (cI, 16, .inl v.2.2.2.2)), (a5, .inl (cI, 64, .inl fb))]) hx hb hw 1 rfl j rfl (by omega) (by omega) rfl dX2_copySlot_11 (fun H locs hw => ?_)
  refine lv_aload_n hx hb dX2_copySlot_12 rfl (lv_at hl 0 rfl) ?_
  refine ww_get hx hb hts hin2 hown hw 0 rfl rfl 2 (by decide) k17 rfl dX2_copySlot_13 ?_
  refine lv_iload_n hx hb dX2_copySlot_16 rfl (lv_at hl 2 rfl) ?_
  refine W.eq (g2 := F0 m 17 ls [.int (nI j), .ref a2]) rfl ?_
  refine lv_aload_n hx hb dX2_copySlot_17 rfl (lv_at hl 0 rfl) ?_
  refine ww_get hx hb hts hin2 hown hw 0 rfl rfl 2 (by decide) k17 rfl dX2_copySlot_18 ?_
  refine lv_iload_n hx hb dX2_copySlot_21 rfl (lv_at hl 1 rfl) ?_
  refine ww_iald hx hb hw 2 rfl i rfl (by omega) (by omega) dX2_copySlot_22 ?_
  refine ww_iast (ws' := [(a, .inr (2, [.int (nI sz), .ref a1, .ref a2, .ref a3, .ref a4, .ref a5])), (a1, .inl (cI, 16, .inl (upd v.2.1 j (v.2.1 i)))), (a2, .inl (cI, 16, .inl (upd v.2.2.1 j (v.2.2.1 i)))), (a3, .inl (cI, 16, .inl v.2.2.2.1)), (a4, .inl (cI, 16, .inl v.2.2.2.2)), (a5, .inl (cI, 64, .inl fb))]) hx hb hw 2 rfl j rfl (by omega) (by omega) rfl dX2_copySlot_23 (fun H locs hw => ?_)
  refine lv_aload_n hx hb dX2_copySlot_24 rfl (lv_at hl 0 rfl) ?_
  refine ww_get hx hb hts hin2 hown hw 0 rfl rfl 3 (by decide) k20 rfl dX2_copySlot_25 ?_
  refine lv_iload_n hx hb dX2_copySlot_28 rfl (lv_at hl 2 rfl) ?_
  refine lv_aload_n hx hb dX2_copySlot_29 rfl (lv_at hl 0 rfl) ?_
  refine ww_get hx hb hts hin2 hown hw 0 rfl rfl 3 (by decide) k20 rfl dX2_copySlot_30 ?_
  refine lv_iload_n hx hb dX2_copySlot_33 rfl (lv_at hl 1 rfl) ?_
  refine ww_iald hx hb hw 3 rfl i rfl (by omega) (by omega) dX2_copySlot_34 ?_
  refine W.eq (g2 := F0 m 35 ls [.int (v.2.2.2.1 i), .int (nI j), .ref a3]) rfl ?_
  refine ww_iast (ws' := [(a, .inr (2, [.int (nI sz), .ref a1, .ref a2, .ref a3, .ref a4, .ref a5])), (a1, .inl (cI, 16, .inl (upd v.2.1 j (v.2.1 i)))), (a2, .inl (cI, 16, .inl (upd v.2.2.1 j (v.2.2.1 i)))), (a3, .inl (cI, 16, .inl (upd v.2.2.2.1 j (v.2.2.2.1 i)))), (a4, .inl (cI, 16, .inl v.2.2.2.2)), (a5, .inl (cI, 64, .inl fb))]) hx hb hw 3 rfl j rfl (by omega) (by omega) rfl dX2_copySlot_35 (fun H locs hw => ?_)
  refine lv_aload_n hx hb dX2_copySlot_36 rfl (lv_at hl 0 rfl) ?_
  refine ww_get hx hb hts hin2 hown hw 0 rfl rfl 4 (by decide) k23 rfl dX2_copySlot_37 ?_
  refine lv_iload_n hx hb dX2_copySlot_40 rfl (lv_at hl 2 rfl) ?_
  refine lv_aload_n hx hb dX2_copySlot_41 rfl (lv_at hl 0 rfl) ?_
  refine ww_get hx hb hts hin2 hown hw 0 rfl rfl 4 (by decide) k23 rfl dX2_copySlot_42 ?_
  refine lv_iload_n hx hb dX2_copySlot_45 rfl (lv_at hl 1 rfl) ?_
  refine ww_iald hx hb hw 4 rfl i rfl (by omega) (by omega) dX2_copySlot_46 ?_
  refine ww_iast (ws' := [(a, .inr (2, [.int (nI sz), .ref a1, .ref a2, .ref a3, .ref a4, .ref a5])), (a1, .inl (cI, 16, .inl (upd v.2.1 j (v.2.1 i)))), (a2, .inl (cI, 16, .inl (upd v.2.2.1 j (v.2.2.1 i)))), (a3, .inl (cI, 16, .inl (upd v.2.2.2.1 j (v.2.2.2.1 i)))), (a4, .inl (cI, 16, .inl (upd v.2.2.2.2 j (v.2.2.2.2 i)))), (a5, .inl (cI, 64, .inl fb))]) hx hb hw 4 rfl j rfl (by omega) (by omega) rfl dX2_copySlot_47 (fun H locs hw => ?_)
  exact ww_vret (u := ()) hx hb hr hlk hw (trivial) (Nat.le_of_ble_eq_true rfl) (Nat.le_of_ble_eq_true rfl) rfl dX2_copySlot_48
set_option maxHeartbeats 4000000 in
set_option maxRecDepth 100000 in
theorem cT_isFull (l : Launch) (D : va_G) (cI : ClassId) (a a1 a2 a3 a4 a5 : Nat) (v : TW) (fb : Nat → Int32) (hv : v.1 ≤ 16) : Kt l yX2_isFull wsX2_isFull 0 0 (0) (0) D cI [.ref a] ([(a, .inr (2, [.int (nI v.1), .ref a1, .ref a2, .ref a3, .ref a4, .ref a5])), (a1, .inl (cI, 16, .inl v.2.1)), (a2, .inl (cI, 16, .inl v.2.2.1)), (a3, .inl (cI, 16, .inl v.2.2.2.1)), (a4, .inl (cI, 16, .inl v.2.2.2.2)), (a5, .inl (cI, 64, .inl fb))]) (pI (fun (r : Int32) (u : Unit) => (r = 1 ∧ 16 ≤ v.1) ∨ (r = 0 ∧ v.1 < 16))) (fun (u : Unit) => [(a, .inr (2, [.int (nI v.1), .ref a1, .ref a2, .ref a3, .ref a4, .ref a5])), (a1, .inl (cI, 16, .inl v.2.1)), (a2, .inl (cI, 16, .inl v.2.2.1)), (a3, .inl (cI, 16, .inl v.2.2.2.1)), (a4, .inl (cI, 16, .inl v.2.2.2.2)), (a5, .inl (cI, 64, .inl fb))]) := by
  refine kt_start (cc := cX2_isFull) (maxL := 1) (ret := (some .boolean)) (by decide +kernel) rfl (Nat.le_of_ble_eq_true rfl) ?_
  intro p e s m below meth c hx hb hml hr hlk hown hnm hts ls hl hw
  have hown : s.vm.findClass RX2 = some m.cls := hown
  have hl : lv_has ls 1 [(0, .ref a)] := hl
  have k7 := hts (.fieldLink RX2 7 "RestartBook$Tables" "size" "I") (by decide +kernel)
  have hin2 : ∀ w ∈ u_ws RX2 TX2 6, w ∈ wsX2_isFull := in_X2_isFull
  refine lv_aload_n hx hb dX2_isFull_0 rfl (lv_at hl 0 rfl) ?_
  refine ww_get hx hb hts hin2 hown hw 0 rfl rfl 0 (by decide) k7 rfl dX2_isFull_1 ?_
  refine lv_bipush (v := nI 16) hx hb dX2_isFull_4 (by decide +kernel) ?_
  refine lv_icmp_lt (tgt := 13) hx hb dX2_isFull_6 (by decide) (fun c_6 => ?_) (fun c_6 => ?_)
  · refine lv_iconst (v := nI 0) hx hb dX2_isFull_13 (by decide +kernel) ?_
    exact ww_zret (u := ()) hx hb hr hlk (by decide +kernel) hw (Or.inr ⟨by decide, by simp (disch := omega) only [i_lt, nI_toInt] at c_6; omega⟩) (Nat.le_of_ble_eq_true rfl) (Nat.le_of_ble_eq_true rfl) dX2_isFull_14
  · refine lv_iconst (v := nI 1) hx hb dX2_isFull_9 (by decide +kernel) ?_
    refine lv_goto (tgt := 14) hx hb dX2_isFull_10 (by decide) ?_
    exact ww_zret (u := ()) hx hb hr hlk (by decide +kernel) hw (Or.inl ⟨by decide, by simp (disch := omega) only [i_lt, nI_toInt] at c_6; omega⟩) (Nat.le_of_ble_eq_true rfl) (Nat.le_of_ble_eq_true rfl) dX2_isFull_14
set_option maxHeartbeats 4000000 in
set_option maxRecDepth 100000 in
theorem cT_workAt (l : Launch) (D : va_G) (cI : ClassId) (a a1 a2 a3 a4 a5 : Nat) (v : TW) (fb : Nat → Int32) (x : Int32) (hv : v.1 ≤ 16) : Kt l yX2_workAt wsX2_workAt 0 0 (0) (0) D cI [.ref a, .int x] ([(a, .inr (2, [.int (nI v.1), .ref a1, .ref a2, .ref a3, .ref a4, .ref a5])), (a1, .inl (cI, 16, .inl v.2.1)), (a2, .inl (cI, 16, .inl v.2.2.1)), (a3, .inl (cI, 16, .inl v.2.2.2.1)), (a4, .inl (cI, 16, .inl v.2.2.2.2)), (a5, .inl (cI, 64, .inl fb))]) (pI (fun (r : Int32) (u : Unit) => (∃ i, i < v.1 ∧ x = nI i ∧ r = v.2.1 i) ∨ ((¬ ∃ i, i < v.1 ∧ x = nI i) ∧ r = 0))) (fun (u : Unit) => [(a, .inr (2, [.int (nI v.1), .ref a1, .ref a2, .ref a3, .ref a4, .ref a5])), (a1, .inl (cI, 16, .inl v.2.1)), (a2, .inl (cI, 16, .inl v.2.2.1)), (a3, .inl (cI, 16, .inl v.2.2.2.1)), (a4, .inl (cI, 16, .inl v.2.2.2.2)), (a5, .inl (cI, 64, .inl fb))]) := by
  refine kt_start (cc := cX2_workAt) (maxL := 2) (ret := (some .int)) (by decide +kernel) rfl (Nat.le_of_ble_eq_true rfl) ?_
  intro p e s m below meth c hx hb hml hr hlk hown hnm hts ls hl hw
  have hown : s.vm.findClass RX2 = some m.cls := hown
  have hl : lv_has ls 2 [(0, .ref a), (1, .int x)] := hl
  have k7 := hts (.fieldLink RX2 7 "RestartBook$Tables" "size" "I") (by decide +kernel)
  have k13 := hts (.fieldLink RX2 13 "RestartBook$Tables" "works" "[I") (by decide +kernel)
  have hin2 : ∀ w ∈ u_ws RX2 TX2 6, w ∈ wsX2_workAt := in_X2_workAt
  refine lv_iload_n hx hb dX2_workAt_0 rfl (lv_at hl 1 rfl) ?_
  refine lv_if_lt (tgt := 21) hx hb dX2_workAt_1 (by decide) (fun c_1 => ?_) (fun c_1 => ?_)
  · refine lv_iconst (v := nI 0) hx hb dX2_workAt_21 (by decide +kernel) ?_
    exact ww_iret (u := ()) hx hb hr hlk hw (Or.inr ⟨ix_n (by omega) (by first | exact Or.inl c_1 | exact Or.inr c_9), by decide⟩) (Nat.le_of_ble_eq_true rfl) (Nat.le_of_ble_eq_true rfl) dX2_workAt_22
  · refine lv_iload_n hx hb dX2_workAt_4 rfl (lv_at hl 1 rfl) ?_
    refine lv_aload_n hx hb dX2_workAt_5 rfl (lv_at hl 0 rfl) ?_
    refine ww_get hx hb hts hin2 hown hw 0 rfl rfl 0 (by decide) k7 rfl dX2_workAt_6 ?_
    refine lv_icmp_ge (tgt := 21) hx hb dX2_workAt_9 (by decide) (fun c_9 => ?_) (fun c_9 => ?_)
    · refine lv_iconst (v := nI 0) hx hb dX2_workAt_21 (by decide +kernel) ?_
      exact ww_iret (u := ()) hx hb hr hlk hw (Or.inr ⟨ix_n (by omega) (by first | exact Or.inl c_1 | exact Or.inr c_9), by decide⟩) (Nat.le_of_ble_eq_true rfl) (Nat.le_of_ble_eq_true rfl) dX2_workAt_22
    · obtain ⟨i, hi, rfl⟩ := ix_y (by omega) c_1 c_9
      refine lv_aload_n hx hb dX2_workAt_12 rfl (lv_at hl 0 rfl) ?_
      refine ww_get hx hb hts hin2 hown hw 0 rfl rfl 1 (by decide) k13 rfl dX2_workAt_13 ?_
      refine lv_iload_n hx hb dX2_workAt_16 rfl (lv_at hl 1 rfl) ?_
      refine ww_iald hx hb hw 1 rfl i rfl (by omega) (by omega) dX2_workAt_17 ?_
      refine lv_goto (tgt := 22) hx hb dX2_workAt_18 (by decide) ?_
      exact ww_iret (u := ()) hx hb hr hlk hw (Or.inl ⟨i, hi, rfl, rfl⟩) (Nat.le_of_ble_eq_true rfl) (Nat.le_of_ble_eq_true rfl) dX2_workAt_22
set_option maxHeartbeats 4000000 in
set_option maxRecDepth 100000 in
theorem cT_holds (l : Launch) (D : va_G) (cI : ClassId) (a a1 a2 a3 a4 a5 : Nat) (v : TW) (fb : Nat → Int32) (T : TF) (h : TR v T) (x : Int32) : Kt l yX2_holds wsX2_holds 1 22 (0) (0) D cI [.ref a, .int x] ([(a, .inr (2, [.int (nI v.1), .ref a1, .ref a2, .ref a3, .ref a4, .ref a5])), (a1, .inl (cI, 16, .inl v.2.1)), (a2, .inl (cI, 16, .inl v.2.2.1)), (a3, .inl (cI, 16, .inl v.2.2.2.1)), (a4, .inl (cI, 16, .inl v.2.2.2.2)), (a5, .inl (cI, 64, .inl fb))]) (pI (fun (r : Int32) (u : Unit) => (r = 1 ∧ ∃ w : Nat, w ≤ 200 ∧ x = nI w ∧ (T w).1 ≠ 0) ∨ (r = 0 ∧ ¬ ∃ w : Nat, w ≤ 200 ∧ x = nI w ∧ (T w).1 ≠ 0))) (fun (u : Unit) => [(a, .inr (2, [.int (nI v.1), .ref a1, .ref a2, .ref a3, .ref a4, .ref a5])), (a1, .inl (cI, 16, .inl v.2.1)), (a2, .inl (cI, 16, .inl v.2.2.1)), (a3, .inl (cI, 16, .inl v.2.2.2.1)), (a4, .inl (cI, 16, .inl v.2.2.2.2)), (a5, .inl (cI, 64, .inl fb))]) := by
  refine kt_start (cc := cX2_holds) (maxL := 2) (ret := (some .boolean)) (by decide +kernel) rfl (Nat.le_of_ble_eq_true rfl) ?_
  intro p e s m below meth c hx hb hml hr hlk hown hnm hts ls hl hw
  have hown : s.vm.findClass RX2 = some m.cls := hown
  have hl : lv_has ls 2 [(0, .ref a), (1, .int x)] := hl
  refine lv_aload_n hx hb dX2_holds_0 rfl (lv_at hl 0 rfl) ?_
  refine lv_iload_n hx hb dX2_holds_1 rfl (lv_at hl 1 rfl) ?_
  refine ww_callV ([]) ([]) (As := [.int x]) (rest := []) ⟨hx, hb, hml, hown, hts⟩ (cT_slotOf l D cI a a1 a2 a3 a4 a5 v fb x (TR_le h)) gX2_holds_X2_slotOf rfl hd_X2_slotOf ⟨Nat.le_of_ble_eq_true rfl, Nat.le_of_ble_eq_true rfl⟩ hw rfl rfl rfl rfl rfl hl.1 (Nat.le_of_ble_eq_true rfl) dX2_holds_2 ⟨Nat.le_of_ble_eq_true rfl, Nat.le_of_ble_eq_true rfl⟩ (fun v u H locs hq hw => ?_)
  obtain ⟨r, rfl, hq⟩ := hq
  have hw : ww D cI _ _ s ([(a, .inr (2, [.int (nI v.1), .ref a1, .ref a2, .ref a3, .ref a4, .ref a5])), (a1, .inl (cI, 16, .inl v.2.1)), (a2, .inl (cI, 16, .inl v.2.2.1)), (a3, .inl (cI, 16, .inl v.2.2.2.1)), (a4, .inl (cI, 16, .inl v.2.2.2.2)), (a5, .inl (cI, 64, .inl fb))]) H locs := hw
  refine W.eq (g2 := F0 m 5 ls [.int (r)]) rfl ?_
  rcases hq with ⟨i, hi, he, rfl⟩ | ⟨hno, rfl⟩
  · have hi16 : i < 16 := Nat.lt_of_lt_of_le hi (TR_le h)
    refine lv_iconst (v := (-1)) hx hb dX2_holds_5 (by decide +kernel) ?_
    refine lv_icmp_eq (tgt := 13) hx hb dX2_holds_6 (by decide) (fun c_6 => absurd c_6 (nI_nm1 (by omega))) (fun c_6 => ?_)
    refine lv_iconst (v := nI 1) hx hb dX2_holds_9 (by decide +kernel) ?_
    refine lv_goto (tgt := 14) hx hb dX2_holds_10 (by decide) ?_
    exact ww_zret (u := ()) hx hb hr hlk (by decide +kernel) hw (Or.inl ⟨by decide, by obtain ⟨w, g1, g2, g3⟩ := TR_mem h hi; exact ⟨w, g1, he.symm.trans g2, g3⟩⟩) (Nat.le_of_ble_eq_true rfl) (Nat.le_of_ble_eq_true rfl) dX2_holds_14
  · skip
    refine lv_iconst (v := (-1)) hx hb dX2_holds_5 (by decide +kernel) ?_
    refine lv_icmp_eq (tgt := 13) hx hb dX2_holds_6 (by decide) (fun c_6 => ?_) (fun c_6 => absurd (rfl) c_6)
    refine lv_iconst (v := nI 0) hx hb dX2_holds_13 (by decide +kernel) ?_
    exact ww_zret (u := ()) hx hb hr hlk (by decide +kernel) hw (Or.inr ⟨by decide, fun q => by obtain ⟨w, g1, rfl, g3⟩ := q; exact g3 (TR_no h hno)⟩) (Nat.le_of_ble_eq_true rfl) (Nat.le_of_ble_eq_true rfl) dX2_holds_14
set_option maxHeartbeats 4000000 in
set_option maxRecDepth 100000 in
theorem cT_stateOf (l : Launch) (D : va_G) (cI : ClassId) (a a1 a2 a3 a4 a5 : Nat) (v : TW) (fb : Nat → Int32) (T : TF) (h : TR v T) (w : Nat) (hwb : w < 2 ^ 31) : Kt l yX2_stateOf wsX2_stateOf 1 22 (0) (0) D cI [.ref a, .int (nI w)] ([(a, .inr (2, [.int (nI v.1), .ref a1, .ref a2, .ref a3, .ref a4, .ref a5])), (a1, .inl (cI, 16, .inl v.2.1)), (a2, .inl (cI, 16, .inl v.2.2.1)), (a3, .inl (cI, 16, .inl v.2.2.2.1)), (a4, .inl (cI, 16, .inl v.2.2.2.2)), (a5, .inl (cI, 64, .inl fb))]) (pI (fun (r : Int32) (u : Unit) => r = nI (T w).1)) (fun (u : Unit) => [(a, .inr (2, [.int (nI v.1), .ref a1, .ref a2, .ref a3, .ref a4, .ref a5])), (a1, .inl (cI, 16, .inl v.2.1)), (a2, .inl (cI, 16, .inl v.2.2.1)), (a3, .inl (cI, 16, .inl v.2.2.2.1)), (a4, .inl (cI, 16, .inl v.2.2.2.2)), (a5, .inl (cI, 64, .inl fb))]) := by
  refine kt_start (cc := cX2_stateOf) (maxL := 3) (ret := (some .int)) (by decide +kernel) rfl (Nat.le_of_ble_eq_true rfl) ?_
  intro p e s m below meth c hx hb hml hr hlk hown hnm hts ls hl hw
  have hown : s.vm.findClass RX2 = some m.cls := hown
  have hl : lv_has ls 3 [(0, .ref a), (1, .int (nI w))] := hl
  have k17 := hts (.fieldLink RX2 17 "RestartBook$Tables" "states" "[I") (by decide +kernel)
  have hin2 : ∀ w ∈ u_ws RX2 TX2 6, w ∈ wsX2_stateOf := in_X2_stateOf
  refine lv_aload_n hx hb dX2_stateOf_0 rfl (lv_at hl 0 rfl) ?_
  refine lv_iload_n hx hb dX2_stateOf_1 rfl (lv_at hl 1 rfl) ?_
  refine ww_callV ([]) ([]) (As := [.int (nI w)]) (rest := []) ⟨hx, hb, hml, hown, hts⟩ (cT_slotOf l D cI a a1 a2 a3 a4 a5 v fb (nI w) (TR_le h)) gX2_stateOf_X2_slotOf rfl hd_X2_slotOf ⟨Nat.le_of_ble_eq_true rfl, Nat.le_of_ble_eq_true rfl⟩ hw rfl rfl rfl rfl rfl hl.1 (Nat.le_of_ble_eq_true rfl) dX2_stateOf_2 ⟨Nat.le_of_ble_eq_true rfl, Nat.le_of_ble_eq_true rfl⟩ (fun v u H locs hq hw => ?_)
  obtain ⟨r, rfl, hq⟩ := hq
  have hw : ww D cI _ _ s ([(a, .inr (2, [.int (nI v.1), .ref a1, .ref a2, .ref a3, .ref a4, .ref a5])), (a1, .inl (cI, 16, .inl v.2.1)), (a2, .inl (cI, 16, .inl v.2.2.1)), (a3, .inl (cI, 16, .inl v.2.2.2.1)), (a4, .inl (cI, 16, .inl v.2.2.2.2)), (a5, .inl (cI, 64, .inl fb))]) H locs := hw
  refine W.eq (g2 := F0 m 5 ls [.int (r)]) rfl ?_
  rcases hq with ⟨i, hi, he, rfl⟩ | ⟨hno, rfl⟩
  · have hi16 : i < 16 := Nat.lt_of_lt_of_le hi (TR_le h)
    refine lv_istore_n (lv' := [(2, .int (nI i)), (0, .ref a), (1, .int (nI w))]) hx hb dX2_stateOf_5 rfl hl (by decide) rfl (fun ls hl => ?_)
    refine lv_iload_n hx hb dX2_stateOf_6 rfl (lv_at hl 0 rfl) ?_
    refine lv_iconst (v := (-1)) hx hb dX2_stateOf_7 (by decide +kernel) ?_
    refine lv_icmp_ne (tgt := 15) hx hb dX2_stateOf_8 (by decide) (fun c_8 => ?_) (fun c_8 => absurd c_8 (nI_nm1 (by omega)))
    refine lv_aload_n hx hb dX2_stateOf_15 rfl (lv_at hl 1 rfl) ?_
    refine ww_get hx hb hts hin2 hown hw 0 rfl rfl 2 (by decide) k17 rfl dX2_stateOf_16 ?_
    refine lv_iload_n hx hb dX2_stateOf_19 rfl (lv_at hl 0 rfl) ?_
    refine ww_iald hx hb hw 2 rfl i rfl (by omega) (by omega) dX2_stateOf_20 ?_
    exact ww_iret (u := ()) hx hb hr hlk hw ((TR_at h hwb hi he).2.2.2.1) (Nat.le_of_ble_eq_true rfl) (Nat.le_of_ble_eq_true rfl) dX2_stateOf_21
  · skip
    refine lv_istore_n (lv' := [(2, .int (-1)), (0, .ref a), (1, .int (nI w))]) hx hb dX2_stateOf_5 rfl hl (by decide) rfl (fun ls hl => ?_)
    refine lv_iload_n hx hb dX2_stateOf_6 rfl (lv_at hl 0 rfl) ?_
    refine lv_iconst (v := (-1)) hx hb dX2_stateOf_7 (by decide +kernel) ?_
    refine lv_icmp_ne (tgt := 15) hx hb dX2_stateOf_8 (by decide) (fun c_8 => absurd c_8 (fun q => q rfl)) (fun c_8 => ?_)
    refine lv_iconst (v := nI 0) hx hb dX2_stateOf_11 (by decide +kernel) ?_
    refine lv_goto (tgt := 21) hx hb dX2_stateOf_12 (by decide) ?_
    exact ww_iret (u := ()) hx hb hr hlk hw (by rw [TR_no h hno]) (Nat.le_of_ble_eq_true rfl) (Nat.le_of_ble_eq_true rfl) dX2_stateOf_21
set_option maxHeartbeats 4000000 in
set_option maxRecDepth 100000 in
theorem cT_lastOf (l : Launch) (D : va_G) (cI : ClassId) (a a1 a2 a3 a4 a5 : Nat) (v : TW) (fb : Nat → Int32) (T : TF) (h : TR v T) (w : Nat) (hwb : w < 2 ^ 31) (hp : (T w).1 ≠ 0) : Kt l yX2_lastOf wsX2_lastOf 1 22 (0) (0) D cI [.ref a, .int (nI w)] ([(a, .inr (2, [.int (nI v.1), .ref a1, .ref a2, .ref a3, .ref a4, .ref a5])), (a1, .inl (cI, 16, .inl v.2.1)), (a2, .inl (cI, 16, .inl v.2.2.1)), (a3, .inl (cI, 16, .inl v.2.2.2.1)), (a4, .inl (cI, 16, .inl v.2.2.2.2)), (a5, .inl (cI, 64, .inl fb))]) (pI (fun (r : Int32) (u : Unit) => r = nI (T w).2.1)) (fun (u : Unit) => [(a, .inr (2, [.int (nI v.1), .ref a1, .ref a2, .ref a3, .ref a4, .ref a5])), (a1, .inl (cI, 16, .inl v.2.1)), (a2, .inl (cI, 16, .inl v.2.2.1)), (a3, .inl (cI, 16, .inl v.2.2.2.1)), (a4, .inl (cI, 16, .inl v.2.2.2.2)), (a5, .inl (cI, 64, .inl fb))]) := by
  refine kt_start (cc := cX2_lastOf) (maxL := 3) (ret := (some .int)) (by decide +kernel) rfl (Nat.le_of_ble_eq_true rfl) ?_
  intro p e s m below meth c hx hb hml hr hlk hown hnm hts ls hl hw
  have hown : s.vm.findClass RX2 = some m.cls := hown
  have hl : lv_has ls 3 [(0, .ref a), (1, .int (nI w))] := hl
  have k20 := hts (.fieldLink RX2 20 "RestartBook$Tables" "lasts" "[I") (by decide +kernel)
  have hin2 : ∀ w ∈ u_ws RX2 TX2 6, w ∈ wsX2_lastOf := in_X2_lastOf
  refine lv_aload_n hx hb dX2_lastOf_0 rfl (lv_at hl 0 rfl) ?_
  refine lv_iload_n hx hb dX2_lastOf_1 rfl (lv_at hl 1 rfl) ?_
  refine ww_callV ([]) ([]) (As := [.int (nI w)]) (rest := []) ⟨hx, hb, hml, hown, hts⟩ (cT_slotOf l D cI a a1 a2 a3 a4 a5 v fb (nI w) (TR_le h)) gX2_lastOf_X2_slotOf rfl hd_X2_slotOf ⟨Nat.le_of_ble_eq_true rfl, Nat.le_of_ble_eq_true rfl⟩ hw rfl rfl rfl rfl rfl hl.1 (Nat.le_of_ble_eq_true rfl) dX2_lastOf_2 ⟨Nat.le_of_ble_eq_true rfl, Nat.le_of_ble_eq_true rfl⟩ (fun v u H locs hq hw => ?_)
  obtain ⟨r, rfl, hq⟩ := hq
  have hw : ww D cI _ _ s ([(a, .inr (2, [.int (nI v.1), .ref a1, .ref a2, .ref a3, .ref a4, .ref a5])), (a1, .inl (cI, 16, .inl v.2.1)), (a2, .inl (cI, 16, .inl v.2.2.1)), (a3, .inl (cI, 16, .inl v.2.2.2.1)), (a4, .inl (cI, 16, .inl v.2.2.2.2)), (a5, .inl (cI, 64, .inl fb))]) H locs := hw
  refine W.eq (g2 := F0 m 5 ls [.int (r)]) rfl ?_
  rcases hq with ⟨i, hi, he, rfl⟩ | ⟨hno, rfl⟩
  · have hi16 : i < 16 := Nat.lt_of_lt_of_le hi (TR_le h)
    refine lv_istore_n (lv' := [(2, .int (nI i)), (0, .ref a), (1, .int (nI w))]) hx hb dX2_lastOf_5 rfl hl (by decide) rfl (fun ls hl => ?_)
    refine lv_iload_n hx hb dX2_lastOf_6 rfl (lv_at hl 0 rfl) ?_
    refine lv_iconst (v := (-1)) hx hb dX2_lastOf_7 (by decide +kernel) ?_
    refine lv_icmp_ne (tgt := 15) hx hb dX2_lastOf_8 (by decide) (fun c_8 => ?_) (fun c_8 => absurd c_8 (nI_nm1 (by omega)))
    refine lv_aload_n hx hb dX2_lastOf_15 rfl (lv_at hl 1 rfl) ?_
    refine ww_get hx hb hts hin2 hown hw 0 rfl rfl 3 (by decide) k20 rfl dX2_lastOf_16 ?_
    refine lv_iload_n hx hb dX2_lastOf_19 rfl (lv_at hl 0 rfl) ?_
    refine ww_iald hx hb hw 3 rfl i rfl (by omega) (by omega) dX2_lastOf_20 ?_
    exact ww_iret (u := ()) hx hb hr hlk hw ((TR_at h hwb hi he).2.2.2.2.1) (Nat.le_of_ble_eq_true rfl) (Nat.le_of_ble_eq_true rfl) dX2_lastOf_21
  · exact absurd (TR_no h hno) hp
set_option maxHeartbeats 4000000 in
set_option maxRecDepth 100000 in
theorem cT_nextOf (l : Launch) (D : va_G) (cI : ClassId) (a a1 a2 a3 a4 a5 : Nat) (v : TW) (fb : Nat → Int32) (T : TF) (h : TR v T) (w : Nat) (hwb : w < 2 ^ 31) (hp : (T w).1 ≠ 0) : Kt l yX2_nextOf wsX2_nextOf 1 22 (0) (0) D cI [.ref a, .int (nI w)] ([(a, .inr (2, [.int (nI v.1), .ref a1, .ref a2, .ref a3, .ref a4, .ref a5])), (a1, .inl (cI, 16, .inl v.2.1)), (a2, .inl (cI, 16, .inl v.2.2.1)), (a3, .inl (cI, 16, .inl v.2.2.2.1)), (a4, .inl (cI, 16, .inl v.2.2.2.2)), (a5, .inl (cI, 64, .inl fb))]) (pI (fun (r : Int32) (u : Unit) => r = nI (T w).2.2)) (fun (u : Unit) => [(a, .inr (2, [.int (nI v.1), .ref a1, .ref a2, .ref a3, .ref a4, .ref a5])), (a1, .inl (cI, 16, .inl v.2.1)), (a2, .inl (cI, 16, .inl v.2.2.1)), (a3, .inl (cI, 16, .inl v.2.2.2.1)), (a4, .inl (cI, 16, .inl v.2.2.2.2)), (a5, .inl (cI, 64, .inl fb))]) := by
  refine kt_start (cc := cX2_nextOf) (maxL := 3) (ret := (some .int)) (by decide +kernel) rfl (Nat.le_of_ble_eq_true rfl) ?_
  intro p e s m below meth c hx hb hml hr hlk hown hnm hts ls hl hw
  have hown : s.vm.findClass RX2 = some m.cls := hown
  have hl : lv_has ls 3 [(0, .ref a), (1, .int (nI w))] := hl
  have k23 := hts (.fieldLink RX2 23 "RestartBook$Tables" "nexts" "[I") (by decide +kernel)
  have hin2 : ∀ w ∈ u_ws RX2 TX2 6, w ∈ wsX2_nextOf := in_X2_nextOf
  refine lv_aload_n hx hb dX2_nextOf_0 rfl (lv_at hl 0 rfl) ?_
  refine lv_iload_n hx hb dX2_nextOf_1 rfl (lv_at hl 1 rfl) ?_
  refine ww_callV ([]) ([]) (As := [.int (nI w)]) (rest := []) ⟨hx, hb, hml, hown, hts⟩ (cT_slotOf l D cI a a1 a2 a3 a4 a5 v fb (nI w) (TR_le h)) gX2_nextOf_X2_slotOf rfl hd_X2_slotOf ⟨Nat.le_of_ble_eq_true rfl, Nat.le_of_ble_eq_true rfl⟩ hw rfl rfl rfl rfl rfl hl.1 (Nat.le_of_ble_eq_true rfl) dX2_nextOf_2 ⟨Nat.le_of_ble_eq_true rfl, Nat.le_of_ble_eq_true rfl⟩ (fun v u H locs hq hw => ?_)
  obtain ⟨r, rfl, hq⟩ := hq
  have hw : ww D cI _ _ s ([(a, .inr (2, [.int (nI v.1), .ref a1, .ref a2, .ref a3, .ref a4, .ref a5])), (a1, .inl (cI, 16, .inl v.2.1)), (a2, .inl (cI, 16, .inl v.2.2.1)), (a3, .inl (cI, 16, .inl v.2.2.2.1)), (a4, .inl (cI, 16, .inl v.2.2.2.2)), (a5, .inl (cI, 64, .inl fb))]) H locs := hw
  refine W.eq (g2 := F0 m 5 ls [.int (r)]) rfl ?_
  rcases hq with ⟨i, hi, he, rfl⟩ | ⟨hno, rfl⟩
  · have hi16 : i < 16 := Nat.lt_of_lt_of_le hi (TR_le h)
    refine lv_istore_n (lv' := [(2, .int (nI i)), (0, .ref a), (1, .int (nI w))]) hx hb dX2_nextOf_5 rfl hl (by decide) rfl (fun ls hl => ?_)
    refine lv_iload_n hx hb dX2_nextOf_6 rfl (lv_at hl 0 rfl) ?_
    refine lv_iconst (v := (-1)) hx hb dX2_nextOf_7 (by decide +kernel) ?_
    refine lv_icmp_ne (tgt := 15) hx hb dX2_nextOf_8 (by decide) (fun c_8 => ?_) (fun c_8 => absurd c_8 (nI_nm1 (by omega)))
    refine lv_aload_n hx hb dX2_nextOf_15 rfl (lv_at hl 1 rfl) ?_
    refine ww_get hx hb hts hin2 hown hw 0 rfl rfl 4 (by decide) k23 rfl dX2_nextOf_16 ?_
    refine lv_iload_n hx hb dX2_nextOf_19 rfl (lv_at hl 0 rfl) ?_
    refine ww_iald hx hb hw 4 rfl i rfl (by omega) (by omega) dX2_nextOf_20 ?_
    exact ww_iret (u := ()) hx hb hr hlk hw ((TR_at h hwb hi he).2.2.2.2.2) (Nat.le_of_ble_eq_true rfl) (Nat.le_of_ble_eq_true rfl) dX2_nextOf_21
  · exact absurd (TR_no h hno) hp
set_option maxHeartbeats 4000000 in
set_option maxRecDepth 100000 in
theorem cT_setState (l : Launch) (D : va_G) (cI : ClassId) (a a1 a2 a3 a4 a5 : Nat) (v : TW) (fb : Nat → Int32) (T : TF) (h : TR v T) (w z : Nat) (hwb : w < 2 ^ 31) (hp : (T w).1 ≠ 0) (hs : z ≠ 0) : Kt l yX2_setState wsX2_setState 1 22 (0) (0) D cI [.ref a, .int (nI w), .int (nI z)] ([(a, .inr (2, [.int (nI v.1), .ref a1, .ref a2, .ref a3, .ref a4, .ref a5])), (a1, .inl (cI, 16, .inl v.2.1)), (a2, .inl (cI, 16, .inl v.2.2.1)), (a3, .inl (cI, 16, .inl v.2.2.2.1)), (a4, .inl (cI, 16, .inl v.2.2.2.2)), (a5, .inl (cI, 64, .inl fb))]) (pV (fun (u : Nat → Int32) => TR (v.1, v.2.1, u, v.2.2.2.1, v.2.2.2.2) (va_up T w (z, (T w).2.1, (T w).2.2)))) (fun (u : Nat → Int32) => [(a, .inr (2, [.int (nI v.1), .ref a1, .ref a2, .ref a3, .ref a4, .ref a5])), (a1, .inl (cI, 16, .inl v.2.1)), (a2, .inl (cI, 16, .inl u)), (a3, .inl (cI, 16, .inl v.2.2.2.1)), (a4, .inl (cI, 16, .inl v.2.2.2.2)), (a5, .inl (cI, 64, .inl fb))]) := by
  refine kt_start (cc := cX2_setState) (maxL := 4) (ret := none) (by decide +kernel) rfl (Nat.le_of_ble_eq_true rfl) ?_
  intro p e s m below meth c hx hb hml hr hlk hown hnm hts ls hl hw
  have hown : s.vm.findClass RX2 = some m.cls := hown
  have hl : lv_has ls 4 [(0, .ref a), (1, .int (nI w)), (2, .int (nI z))] := hl
  have k17 := hts (.fieldLink RX2 17 "RestartBook$Tables" "states" "[I") (by decide +kernel)
  have hin2 : ∀ w ∈ u_ws RX2 TX2 6, w ∈ wsX2_setState := in_X2_setState
  refine lv_aload_n hx hb dX2_setState_0 rfl (lv_at hl 0 rfl) ?_
  refine lv_iload_n hx hb dX2_setState_1 rfl (lv_at hl 1 rfl) ?_
  refine ww_callV ([]) ([]) (As := [.int (nI w)]) (rest := []) ⟨hx, hb, hml, hown, hts⟩ (cT_slotOf l D cI a a1 a2 a3 a4 a5 v fb (nI w) (TR_le h)) gX2_setState_X2_slotOf rfl hd_X2_slotOf ⟨Nat.le_of_ble_eq_true rfl, Nat.le_of_ble_eq_true rfl⟩ hw rfl rfl rfl rfl rfl hl.1 (Nat.le_of_ble_eq_true rfl) dX2_setState_2 ⟨Nat.le_of_ble_eq_true rfl, Nat.le_of_ble_eq_true rfl⟩ (fun v u H locs hq hw => ?_)
  obtain ⟨r, rfl, hq⟩ := hq
  have hw : ww D cI _ _ s ([(a, .inr (2, [.int (nI v.1), .ref a1, .ref a2, .ref a3, .ref a4, .ref a5])), (a1, .inl (cI, 16, .inl v.2.1)), (a2, .inl (cI, 16, .inl v.2.2.1)), (a3, .inl (cI, 16, .inl v.2.2.2.1)), (a4, .inl (cI, 16, .inl v.2.2.2.2)), (a5, .inl (cI, 64, .inl fb))]) H locs := hw
  refine W.eq (g2 := F0 m 5 ls [.int (r)]) rfl ?_
  rcases hq with ⟨i, hi, he, rfl⟩ | ⟨hno, rfl⟩
  · have hi16 : i < 16 := Nat.lt_of_lt_of_le hi (TR_le h)
    refine lv_istore_n (lv' := [(3, .int (nI i)), (0, .ref a), (1, .int (nI w)), (2, .int (nI z))]) hx hb dX2_setState_5 rfl hl (by decide) rfl (fun ls hl => ?_)
    refine lv_iload_n hx hb dX2_setState_6 rfl (lv_at hl 0 rfl) ?_
    refine lv_iconst (v := (-1)) hx hb dX2_setState_7 (by decide +kernel) ?_
    refine lv_icmp_eq (tgt := 18) hx hb dX2_setState_8 (by decide) (fun c_8 => absurd c_8 (nI_nm1 (by omega))) (fun c_8 => ?_)
    refine lv_aload_n hx hb dX2_setState_11 rfl (lv_at hl 1 rfl) ?_
    refine ww_get hx hb hts hin2 hown hw 0 rfl rfl 2 (by decide) k17 rfl dX2_setState_12 ?_
    refine lv_iload_n hx hb dX2_setState_15 rfl (lv_at hl 0 rfl) ?_
    refine lv_iload_n hx hb dX2_setState_16 rfl (lv_at hl 3 rfl) ?_
    refine ww_iast (ws' := [(a, .inr (2, [.int (nI v.1), .ref a1, .ref a2, .ref a3, .ref a4, .ref a5])), (a1, .inl (cI, 16, .inl v.2.1)), (a2, .inl (cI, 16, .inl (upd v.2.2.1 i (nI z)))), (a3, .inl (cI, 16, .inl v.2.2.2.1)), (a4, .inl (cI, 16, .inl v.2.2.2.2)), (a5, .inl (cI, 64, .inl fb))]) hx hb hw 2 rfl i rfl (by omega) (by omega) rfl dX2_setState_17 (fun H locs hw => ?_)
    exact ww_vret (u := (upd v.2.2.1 i (nI z))) hx hb hr hlk hw (TR_setS h hwb hi he hs) (Nat.le_of_ble_eq_true rfl) (Nat.le_of_ble_eq_true rfl) rfl dX2_setState_18
  · exact absurd (TR_no h hno) hp
set_option maxHeartbeats 4000000 in
set_option maxRecDepth 100000 in
theorem cT_setLast (l : Launch) (D : va_G) (cI : ClassId) (a a1 a2 a3 a4 a5 : Nat) (v : TW) (fb : Nat → Int32) (T : TF) (h : TR v T) (w z : Nat) (hwb : w < 2 ^ 31) (hp : (T w).1 ≠ 0) : Kt l yX2_setLast wsX2_setLast 1 22 (0) (0) D cI [.ref a, .int (nI w), .int (nI z)] ([(a, .inr (2, [.int (nI v.1), .ref a1, .ref a2, .ref a3, .ref a4, .ref a5])), (a1, .inl (cI, 16, .inl v.2.1)), (a2, .inl (cI, 16, .inl v.2.2.1)), (a3, .inl (cI, 16, .inl v.2.2.2.1)), (a4, .inl (cI, 16, .inl v.2.2.2.2)), (a5, .inl (cI, 64, .inl fb))]) (pV (fun (u : Nat → Int32) => TR (v.1, v.2.1, v.2.2.1, u, v.2.2.2.2) (va_up T w ((T w).1, z, (T w).2.2)))) (fun (u : Nat → Int32) => [(a, .inr (2, [.int (nI v.1), .ref a1, .ref a2, .ref a3, .ref a4, .ref a5])), (a1, .inl (cI, 16, .inl v.2.1)), (a2, .inl (cI, 16, .inl v.2.2.1)), (a3, .inl (cI, 16, .inl u)), (a4, .inl (cI, 16, .inl v.2.2.2.2)), (a5, .inl (cI, 64, .inl fb))]) := by
  refine kt_start (cc := cX2_setLast) (maxL := 4) (ret := none) (by decide +kernel) rfl (Nat.le_of_ble_eq_true rfl) ?_
  intro p e s m below meth c hx hb hml hr hlk hown hnm hts ls hl hw
  have hown : s.vm.findClass RX2 = some m.cls := hown
  have hl : lv_has ls 4 [(0, .ref a), (1, .int (nI w)), (2, .int (nI z))] := hl
  have k20 := hts (.fieldLink RX2 20 "RestartBook$Tables" "lasts" "[I") (by decide +kernel)
  have hin2 : ∀ w ∈ u_ws RX2 TX2 6, w ∈ wsX2_setLast := in_X2_setLast
  refine lv_aload_n hx hb dX2_setLast_0 rfl (lv_at hl 0 rfl) ?_
  refine lv_iload_n hx hb dX2_setLast_1 rfl (lv_at hl 1 rfl) ?_
  refine ww_callV ([]) ([]) (As := [.int (nI w)]) (rest := []) ⟨hx, hb, hml, hown, hts⟩ (cT_slotOf l D cI a a1 a2 a3 a4 a5 v fb (nI w) (TR_le h)) gX2_setLast_X2_slotOf rfl hd_X2_slotOf ⟨Nat.le_of_ble_eq_true rfl, Nat.le_of_ble_eq_true rfl⟩ hw rfl rfl rfl rfl rfl hl.1 (Nat.le_of_ble_eq_true rfl) dX2_setLast_2 ⟨Nat.le_of_ble_eq_true rfl, Nat.le_of_ble_eq_true rfl⟩ (fun v u H locs hq hw => ?_)
  obtain ⟨r, rfl, hq⟩ := hq
  have hw : ww D cI _ _ s ([(a, .inr (2, [.int (nI v.1), .ref a1, .ref a2, .ref a3, .ref a4, .ref a5])), (a1, .inl (cI, 16, .inl v.2.1)), (a2, .inl (cI, 16, .inl v.2.2.1)), (a3, .inl (cI, 16, .inl v.2.2.2.1)), (a4, .inl (cI, 16, .inl v.2.2.2.2)), (a5, .inl (cI, 64, .inl fb))]) H locs := hw
  refine W.eq (g2 := F0 m 5 ls [.int (r)]) rfl ?_
  rcases hq with ⟨i, hi, he, rfl⟩ | ⟨hno, rfl⟩
  · have hi16 : i < 16 := Nat.lt_of_lt_of_le hi (TR_le h)
    refine lv_istore_n (lv' := [(3, .int (nI i)), (0, .ref a), (1, .int (nI w)), (2, .int (nI z))]) hx hb dX2_setLast_5 rfl hl (by decide) rfl (fun ls hl => ?_)
    refine lv_iload_n hx hb dX2_setLast_6 rfl (lv_at hl 0 rfl) ?_
    refine lv_iconst (v := (-1)) hx hb dX2_setLast_7 (by decide +kernel) ?_
    refine lv_icmp_eq (tgt := 18) hx hb dX2_setLast_8 (by decide) (fun c_8 => absurd c_8 (nI_nm1 (by omega))) (fun c_8 => ?_)
    refine lv_aload_n hx hb dX2_setLast_11 rfl (lv_at hl 1 rfl) ?_
    refine ww_get hx hb hts hin2 hown hw 0 rfl rfl 3 (by decide) k20 rfl dX2_setLast_12 ?_
    refine lv_iload_n hx hb dX2_setLast_15 rfl (lv_at hl 0 rfl) ?_
    refine lv_iload_n hx hb dX2_setLast_16 rfl (lv_at hl 3 rfl) ?_
    refine ww_iast (ws' := [(a, .inr (2, [.int (nI v.1), .ref a1, .ref a2, .ref a3, .ref a4, .ref a5])), (a1, .inl (cI, 16, .inl v.2.1)), (a2, .inl (cI, 16, .inl v.2.2.1)), (a3, .inl (cI, 16, .inl (upd v.2.2.2.1 i (nI z)))), (a4, .inl (cI, 16, .inl v.2.2.2.2)), (a5, .inl (cI, 64, .inl fb))]) hx hb hw 3 rfl i rfl (by omega) (by omega) rfl dX2_setLast_17 (fun H locs hw => ?_)
    exact ww_vret (u := (upd v.2.2.2.1 i (nI z))) hx hb hr hlk hw (TR_setL h hwb hi he) (Nat.le_of_ble_eq_true rfl) (Nat.le_of_ble_eq_true rfl) rfl dX2_setLast_18
  · exact absurd (TR_no h hno) hp
set_option maxHeartbeats 4000000 in
set_option maxRecDepth 100000 in
theorem cT_setNext (l : Launch) (D : va_G) (cI : ClassId) (a a1 a2 a3 a4 a5 : Nat) (v : TW) (fb : Nat → Int32) (T : TF) (h : TR v T) (w z : Nat) (hwb : w < 2 ^ 31) (hp : (T w).1 ≠ 0) : Kt l yX2_setNext wsX2_setNext 1 22 (0) (0) D cI [.ref a, .int (nI w), .int (nI z)] ([(a, .inr (2, [.int (nI v.1), .ref a1, .ref a2, .ref a3, .ref a4, .ref a5])), (a1, .inl (cI, 16, .inl v.2.1)), (a2, .inl (cI, 16, .inl v.2.2.1)), (a3, .inl (cI, 16, .inl v.2.2.2.1)), (a4, .inl (cI, 16, .inl v.2.2.2.2)), (a5, .inl (cI, 64, .inl fb))]) (pV (fun (u : Nat → Int32) => TR (v.1, v.2.1, v.2.2.1, v.2.2.2.1, u) (va_up T w ((T w).1, (T w).2.1, z)))) (fun (u : Nat → Int32) => [(a, .inr (2, [.int (nI v.1), .ref a1, .ref a2, .ref a3, .ref a4, .ref a5])), (a1, .inl (cI, 16, .inl v.2.1)), (a2, .inl (cI, 16, .inl v.2.2.1)), (a3, .inl (cI, 16, .inl v.2.2.2.1)), (a4, .inl (cI, 16, .inl u)), (a5, .inl (cI, 64, .inl fb))]) := by
  refine kt_start (cc := cX2_setNext) (maxL := 4) (ret := none) (by decide +kernel) rfl (Nat.le_of_ble_eq_true rfl) ?_
  intro p e s m below meth c hx hb hml hr hlk hown hnm hts ls hl hw
  have hown : s.vm.findClass RX2 = some m.cls := hown
  have hl : lv_has ls 4 [(0, .ref a), (1, .int (nI w)), (2, .int (nI z))] := hl
  have k23 := hts (.fieldLink RX2 23 "RestartBook$Tables" "nexts" "[I") (by decide +kernel)
  have hin2 : ∀ w ∈ u_ws RX2 TX2 6, w ∈ wsX2_setNext := in_X2_setNext
  refine lv_aload_n hx hb dX2_setNext_0 rfl (lv_at hl 0 rfl) ?_
  refine lv_iload_n hx hb dX2_setNext_1 rfl (lv_at hl 1 rfl) ?_
  refine ww_callV ([]) ([]) (As := [.int (nI w)]) (rest := []) ⟨hx, hb, hml, hown, hts⟩ (cT_slotOf l D cI a a1 a2 a3 a4 a5 v fb (nI w) (TR_le h)) gX2_setNext_X2_slotOf rfl hd_X2_slotOf ⟨Nat.le_of_ble_eq_true rfl, Nat.le_of_ble_eq_true rfl⟩ hw rfl rfl rfl rfl rfl hl.1 (Nat.le_of_ble_eq_true rfl) dX2_setNext_2 ⟨Nat.le_of_ble_eq_true rfl, Nat.le_of_ble_eq_true rfl⟩ (fun v u H locs hq hw => ?_)
  obtain ⟨r, rfl, hq⟩ := hq
  have hw : ww D cI _ _ s ([(a, .inr (2, [.int (nI v.1), .ref a1, .ref a2, .ref a3, .ref a4, .ref a5])), (a1, .inl (cI, 16, .inl v.2.1)), (a2, .inl (cI, 16, .inl v.2.2.1)), (a3, .inl (cI, 16, .inl v.2.2.2.1)), (a4, .inl (cI, 16, .inl v.2.2.2.2)), (a5, .inl (cI, 64, .inl fb))]) H locs := hw
  refine W.eq (g2 := F0 m 5 ls [.int (r)]) rfl ?_
  rcases hq with ⟨i, hi, he, rfl⟩ | ⟨hno, rfl⟩
  · have hi16 : i < 16 := Nat.lt_of_lt_of_le hi (TR_le h)
    refine lv_istore_n (lv' := [(3, .int (nI i)), (0, .ref a), (1, .int (nI w)), (2, .int (nI z))]) hx hb dX2_setNext_5 rfl hl (by decide) rfl (fun ls hl => ?_)
    refine lv_iload_n hx hb dX2_setNext_6 rfl (lv_at hl 0 rfl) ?_
    refine lv_iconst (v := (-1)) hx hb dX2_setNext_7 (by decide +kernel) ?_
    refine lv_icmp_eq (tgt := 18) hx hb dX2_setNext_8 (by decide) (fun c_8 => absurd c_8 (nI_nm1 (by omega))) (fun c_8 => ?_)
    refine lv_aload_n hx hb dX2_setNext_11 rfl (lv_at hl 1 rfl) ?_
    refine ww_get hx hb hts hin2 hown hw 0 rfl rfl 4 (by decide) k23 rfl dX2_setNext_12 ?_
    refine lv_iload_n hx hb dX2_setNext_15 rfl (lv_at hl 0 rfl) ?_
    refine lv_iload_n hx hb dX2_setNext_16 rfl (lv_at hl 3 rfl) ?_
    refine ww_iast (ws' := [(a, .inr (2, [.int (nI v.1), .ref a1, .ref a2, .ref a3, .ref a4, .ref a5])), (a1, .inl (cI, 16, .inl v.2.1)), (a2, .inl (cI, 16, .inl v.2.2.1)), (a3, .inl (cI, 16, .inl v.2.2.2.1)), (a4, .inl (cI, 16, .inl (upd v.2.2.2.2 i (nI z)))), (a5, .inl (cI, 64, .inl fb))]) hx hb hw 4 rfl i rfl (by omega) (by omega) rfl dX2_setNext_17 (fun H locs hw => ?_)
    exact ww_vret (u := (upd v.2.2.2.2 i (nI z))) hx hb hr hlk hw (TR_setN h hwb hi he) (Nat.le_of_ble_eq_true rfl) (Nat.le_of_ble_eq_true rfl) rfl dX2_setNext_18
  · exact absurd (TR_no h hno) hp
end
section
/-! RestartBook.Tables: a work comes in, a work goes -/
/-- four rows of g are those of v, from k on shifted up -/
def SH (v g : TW) (k : Nat) : Prop := (∀ j, j < k → g.2.1 j = v.2.1 j ∧ g.2.2.1 j = v.2.2.1 j ∧ g.2.2.2.1 j = v.2.2.2.1 j ∧ g.2.2.2.2 j = v.2.2.2.2 j) ∧
  ∀ j, k ≤ j → j < v.1 → g.2.1 (j + 1) = v.2.1 j ∧ g.2.2.1 (j + 1) = v.2.2.1 j ∧ g.2.2.2.1 (j + 1) = v.2.2.2.1 j ∧ g.2.2.2.2 (j + 1) = v.2.2.2.2 j
theorem SH_0 (v : TW) : SH v v v.1 := ⟨fun _ _ => ⟨rfl, rfl, rfl, rfl⟩, fun j h1 h2 => absurd h2 (by omega)⟩
theorem SH_step {v g : TW} {k : Nat} (h : SH v g k) (hk : 1 ≤ k) (n : Nat) : SH v (n, upd g.2.1 k (g.2.1 (k - 1)), upd g.2.2.1 k (g.2.2.1 (k - 1)), upd g.2.2.2.1 k (g.2.2.2.1 (k - 1)), upd g.2.2.2.2 k (g.2.2.2.2 (k - 1))) (k - 1) := by
  refine ⟨fun j hj => ?_, fun j h1 h2 => ?_⟩
  · have hjk : j ≠ k := by omega
    simp only [upd, if_neg hjk]
    exact h.1 j (by omega)
  · by_cases e : j + 1 = k
    · have e2 : j = k - 1 := by omega
      subst e2
      simp only [upd, if_pos e]
      exact h.1 _ (by omega)
    · simp only [upd, if_neg e]
      exact h.2 j (by omega) h2
theorem TR_lo {v : TW} {T : TF} (h : TR v T) {w k : Nat} (hwb : w ≤ 200) (hk : k ≤ v.1) (hk1 : 1 ≤ k) (hle : v.2.1 (k - 1) ≤ nI w) (hz : (T w).1 = 0) : ∀ i, i < k → v.2.1 i < nI w := by
  obtain ⟨h0, wl, h1, h2, h3⟩ := h
  intro i hi
  have a1 := h1 i (by omega)
  have a2 := h1 (k - 1) (by omega)
  rw [a2.1.1, nI_leI (by omega) (by omega)] at hle
  rw [a1.1.1, nI_ltI (by omega) (by omega)]
  have ne : wl (k - 1) ≠ w := fun e => a2.2.2.2 (by rw [e]; exact hz)
  rcases Nat.lt_or_ge i (k - 1) with q | q
  · have := h2 i (k - 1) q (by omega); omega
  · have : i = k - 1 := by omega
    subst this; omega
theorem TR_ins' {v g : TW} {T : TF} (h : TR v T) {w k : Nat} (hw1 : 1 ≤ w) (hw2 : w ≤ 200) (hz : (T w).1 = 0) (hk : k ≤ v.1) (hsz : v.1 < 16) (hlo : ∀ i, i < k → v.2.1 i < nI w) (hhi : ∀ i, k ≤ i → i < v.1 → nI w < v.2.1 i) (hs : SH v g k) :
    TR (v.1 + 1, upd g.2.1 k (nI w), upd g.2.2.1 k (nI 1), upd g.2.2.2.1 k (nI 0), upd g.2.2.2.2 k (nI 0)) (va_up T w (1, 0, 0)) := by
  refine TR_ins h hw1 hw2 hz hk hsz hlo hhi rfl ⟨by simp [upd], by simp [upd], by simp [upd], by simp [upd]⟩ (fun j hj => ?_) (fun j h1 h2 => ?_)
  · have hjk : j ≠ k := by omega
    simp only [upd, if_neg hjk]
    exact hs.1 j hj
  · have hjk : j + 1 ≠ k := by omega
    simp only [upd, if_neg hjk]
    exact hs.2 j h1 h2
/-- the rows of g are those of v, between i and k shifted down -/
def SD (v g : TW) (i k : Nat) : Prop := (∀ j, j < i → g.2.1 j = v.2.1 j ∧ g.2.2.1 j = v.2.2.1 j ∧ g.2.2.2.1 j = v.2.2.2.1 j ∧ g.2.2.2.2 j = v.2.2.2.2 j) ∧
  (∀ j, i ≤ j → j < k → g.2.1 j = v.2.1 (j + 1) ∧ g.2.2.1 j = v.2.2.1 (j + 1) ∧ g.2.2.2.1 j = v.2.2.2.1 (j + 1) ∧ g.2.2.2.2 j = v.2.2.2.2 (j + 1)) ∧
  ∀ j, k ≤ j → j < v.1 → g.2.1 j = v.2.1 j ∧ g.2.2.1 j = v.2.2.1 j ∧ g.2.2.2.1 j = v.2.2.2.1 j ∧ g.2.2.2.2 j = v.2.2.2.2 j
theorem SD_0 (v : TW) (i : Nat) : SD v v i i := ⟨fun _ _ => ⟨rfl, rfl, rfl, rfl⟩, fun j h1 h2 => absurd h2 (by omega), fun _ _ _ => ⟨rfl, rfl, rfl, rfl⟩⟩
theorem SD_step {v g : TW} {i k : Nat} (h : SD v g i k) (hik : i ≤ k) (hk : k + 1 < v.1) (n : Nat) : SD v (n, upd g.2.1 k (g.2.1 (k + 1)), upd g.2.2.1 k (g.2.2.1 (k + 1)), upd g.2.2.2.1 k (g.2.2.2.1 (k + 1)), upd g.2.2.2.2 k (g.2.2.2.2 (k + 1))) i (k + 1) := by
  refine ⟨fun j hj => ?_, fun j h1 h2 => ?_, fun j h1 h2 => ?_⟩
  · have hjk : j ≠ k := by omega
    simp only [upd, if_neg hjk]
    exact h.1 j hj
  · by_cases e : j = k
    · subst e
      simp only [upd, if_true]
      exact h.2.2 (j + 1) (by omega) hk
    · simp only [upd, if_neg e]
      exact h.2.1 j h1 (by omega)
  · have hjk : j ≠ k := by omega
    simp only [upd, if_neg hjk]
    exact h.2.2 j (by omega) h2
theorem TR_del' {v g : TW} {T : TF} (h : TR v T) {w i k : Nat} (hwb : w < 2 ^ 31) (hi : i < v.1) (he : v.2.1 i = nI w) (hs : SD v g i k) (hk : k + 1 = v.1) : TR (v.1 - 1, g.2.1, g.2.2.1, g.2.2.2.1, g.2.2.2.2) (va_up T w (0, 0, 0)) :=
  TR_del h hwb hi he rfl hs.1 (fun j h1 h2 => hs.2.1 j h1 (by omega))
theorem nI_dec {k : Nat} (h : 1 ≤ k) : nI k + Int32.ofInt (-1) = nI (k - 1) := by
  obtain ⟨j, rfl⟩ : ∃ j, k = j + 1 := ⟨k - 1, by omega⟩
  exact pk_m1 j
set_option maxHeartbeats 4000000 in
set_option maxRecDepth 100000 in
theorem cT_bringIn (l : Launch) (D : va_G) (cI : ClassId) (a a1 a2 a3 a4 a5 : Nat) (v : TW) (fb : Nat → Int32) (T : TF) (h : TR v T) (w : Nat) (hw1 : 1 ≤ w) (hw2 : w ≤ 200) (hroom : (T w).1 ≠ 0 ∨ v.1 < 16) : Kt l yX2_bringIn wsX2_bringIn 1 22 (0) (0) D cI [.ref a, .int (nI w)] ([(a, .inr (2, [.int (nI v.1), .ref a1, .ref a2, .ref a3, .ref a4, .ref a5])), (a1, .inl (cI, 16, .inl v.2.1)), (a2, .inl (cI, 16, .inl v.2.2.1)), (a3, .inl (cI, 16, .inl v.2.2.2.1)), (a4, .inl (cI, 16, .inl v.2.2.2.2)), (a5, .inl (cI, 64, .inl fb))]) (pV (fun (u : TW) => u.1 = (if (T w).1 = 0 then v.1 + 1 else v.1) ∧ TR u (if (T w).1 = 0 then va_up T w (1, 0, 0) else T))) (fun (u : TW) => [(a, .inr (2, [.int (nI u.1), .ref a1, .ref a2, .ref a3, .ref a4, .ref a5])), (a1, .inl (cI, 16, .inl u.2.1)), (a2, .inl (cI, 16, .inl u.2.2.1)), (a3, .inl (cI, 16, .inl u.2.2.2.1)), (a4, .inl (cI, 16, .inl u.2.2.2.2)), (a5, .inl (cI, 64, .inl fb))]) := by
  refine kt_start (cc := cX2_bringIn) (maxL := 3) (ret := none) (by decide +kernel) rfl (Nat.le_of_ble_eq_true rfl) ?_
  intro p e s m below meth c hx hb hml hr hlk hown hnm hts ls hl hw
  have hown : s.vm.findClass RX2 = some m.cls := hown
  have hl : lv_has ls 3 [(0, .ref a), (1, .int (nI w))] := hl
  have k7 := hts (.fieldLink RX2 7 "RestartBook$Tables" "size" "I") (by decide +kernel)
  have k13 := hts (.fieldLink RX2 13 "RestartBook$Tables" "works" "[I") (by decide +kernel)
  have k17 := hts (.fieldLink RX2 17 "RestartBook$Tables" "states" "[I") (by decide +kernel)
  have k20 := hts (.fieldLink RX2 20 "RestartBook$Tables" "lasts" "[I") (by decide +kernel)
  have k23 := hts (.fieldLink RX2 23 "RestartBook$Tables" "nexts" "[I") (by decide +kernel)
  have hin2 : ∀ w ∈ u_ws RX2 TX2 6, w ∈ wsX2_bringIn := in_X2_bringIn
  have hv16 := TR_le h
  refine lv_aload_n hx hb dX2_bringIn_0 rfl (lv_at hl 0 rfl) ?_
  refine ww_callV ([]) ([]) (As := []) (rest := []) ⟨hx, hb, hml, hown, hts⟩ (cT_isFull l D cI a a1 a2 a3 a4 a5 v fb (TR_le h)) gX2_bringIn_X2_isFull rfl hd_X2_isFull ⟨Nat.le_of_ble_eq_true rfl, Nat.le_of_ble_eq_true rfl⟩ hw rfl rfl rfl rfl rfl hl.1 (Nat.le_of_ble_eq_true rfl) dX2_bringIn_1 ⟨Nat.le_of_ble_eq_true rfl, Nat.le_of_ble_eq_true rfl⟩ (fun v u H locs hq hw => ?_)
  obtain ⟨r, rfl, hq⟩ := hq
  have hw : ww D cI _ _ s ([(a, .inr (2, [.int (nI v.1), .ref a1, .ref a2, .ref a3, .ref a4, .ref a5])), (a1, .inl (cI, 16, .inl v.2.1)), (a2, .inl (cI, 16, .inl v.2.2.1)), (a3, .inl (cI, 16, .inl v.2.2.2.1)), (a4, .inl (cI, 16, .inl v.2.2.2.2)), (a5, .inl (cI, 64, .inl fb))]) H locs := hw
  refine W.eq (g2 := F0 m 4 ls [.int (r)]) rfl ?_
  rcases hq with ⟨rfl, hf⟩ | ⟨rfl, hf⟩
  · have hp : (T w).1 ≠ 0 := hroom.resolve_right (by omega)
    refine lv_if_ne (tgt := 16) hx hb dX2_bringIn_4 (by decide) (fun c_4 => ?_) (fun c_4 => absurd c_4 (by decide))
    exact ww_vret (u := v) hx hb hr hlk hw (⟨(if_neg hp).symm ▸ rfl, by rw [if_neg hp]; exact h⟩) (Nat.le_of_ble_eq_true rfl) (Nat.le_of_ble_eq_true rfl) rfl dX2_bringIn_16
  · skip
    refine lv_if_ne (tgt := 16) hx hb dX2_bringIn_4 (by decide) (fun c_4 => absurd c_4 (fun q => q rfl)) (fun c_4 => ?_)
    refine lv_aload_n hx hb dX2_bringIn_7 rfl (lv_at hl 0 rfl) ?_
    refine lv_iload_n hx hb dX2_bringIn_8 rfl (lv_at hl 1 rfl) ?_
    refine ww_callV ([]) ([]) (As := [.int (nI w)]) (rest := []) ⟨hx, hb, hml, hown, hts⟩ (cT_slotOf l D cI a a1 a2 a3 a4 a5 v fb (nI w) (TR_le h)) gX2_bringIn_X2_slotOf rfl hd_X2_slotOf ⟨Nat.le_of_ble_eq_true rfl, Nat.le_of_ble_eq_true rfl⟩ hw rfl rfl rfl rfl rfl hl.1 (Nat.le_of_ble_eq_true rfl) dX2_bringIn_9 ⟨Nat.le_of_ble_eq_true rfl, Nat.le_of_ble_eq_true rfl⟩ (fun v u H locs hq hw => ?_)
    obtain ⟨r, rfl, hq⟩ := hq
    have hw : ww D cI _ _ s ([(a, .inr (2, [.int (nI v.1), .ref a1, .ref a2, .ref a3, .ref a4, .ref a5])), (a1, .inl (cI, 16, .inl v.2.1)), (a2, .inl (cI, 16, .inl v.2.2.1)), (a3, .inl (cI, 16, .inl v.2.2.2.1)), (a4, .inl (cI, 16, .inl v.2.2.2.2)), (a5, .inl (cI, 64, .inl fb))]) H locs := hw
    refine W.eq (g2 := F0 m 12 ls [.int (r)]) rfl ?_
    rcases hq with ⟨i, hi, he, rfl⟩ | ⟨hno, rfl⟩
    · have hi16 : i < 16 := Nat.lt_of_lt_of_le hi (TR_le h)
      have hp : (T w).1 ≠ 0 := (TR_at h (by omega) hi he).2.2.1
      refine lv_iconst (v := (-1)) hx hb dX2_bringIn_12 (by decide +kernel) ?_
      refine lv_icmp_eq (tgt := 17) hx hb dX2_bringIn_13 (by decide) (fun c_13 => absurd c_13 (nI_nm1 (by omega))) (fun c_13 => ?_)
      exact ww_vret (u := v) hx hb hr hlk hw (⟨(if_neg hp).symm ▸ rfl, by rw [if_neg hp]; exact h⟩) (Nat.le_of_ble_eq_true rfl) (Nat.le_of_ble_eq_true rfl) rfl dX2_bringIn_16
    · have hz := TR_no h hno
      refine lv_iconst (v := (-1)) hx hb dX2_bringIn_12 (by decide +kernel) ?_
      refine lv_icmp_eq (tgt := 17) hx hb dX2_bringIn_13 (by decide) (fun c_13 => ?_) (fun c_13 => absurd (rfl) c_13)
      refine lv_aload_n hx hb dX2_bringIn_17 rfl (lv_at hl 0 rfl) ?_
      refine ww_get hx hb hts hin2 hown hw 0 rfl rfl 0 (by decide) k7 rfl dX2_bringIn_18 ?_
      refine lv_istore_n (lv' := [(2, .int (nI v.1)), (0, .ref a), (1, .int (nI w))]) hx hb dX2_bringIn_21 rfl hl (by decide) rfl (fun ls hl => ?_)
      have lp : ∀ (t : Nat) (k : Nat) (g : TW) (H : Heap) (locs : List Loc) (ls : Array Slot), k < t → (k ≤ v.1) → (SH v g k) → (∀ j, k ≤ j → j < v.1 → nI w < v.2.1 j) → ww D cI (va_A ([(a, .inr (2, [.int (nI v.1), .ref a1, .ref a2, .ref a3, .ref a4, .ref a5])), (a1, .inl (cI, 16, .inl v.2.1)), (a2, .inl (cI, 16, .inl v.2.2.1)), (a3, .inl (cI, 16, .inl v.2.2.2.1)), (a4, .inl (cI, 16, .inl v.2.2.2.2)), (a5, .inl (cI, 64, .inl fb))]) s.heap.size) s.heap s ([(a, .inr (2, [.int (nI v.1), .ref a1, .ref a2, .ref a3, .ref a4, .ref a5])), (a1, .inl (cI, 16, .inl g.2.1)), (a2, .inl (cI, 16, .inl g.2.2.1)), (a3, .inl (cI, 16, .inl g.2.2.2.1)), (a4, .inl (cI, 16, .inl g.2.2.2.2)), (a5, .inl (cI, 64, .inl fb))]) H locs → lv_has ls 3 [(2, .int (nI k)), (0, .ref a), (1, .int (nI w))] → W p l e { frames := 1, cells := 0, slots := 0, locals := 22 } s m [.ref a, .int (nI w)].toArray below meth c H locs (0) (0) (MQ below (kQ D cI ([(a, .inr (2, [.int (nI v.1), .ref a1, .ref a2, .ref a3, .ref a4, .ref a5])), (a1, .inl (cI, 16, .inl v.2.1)), (a2, .inl (cI, 16, .inl v.2.2.1)), (a3, .inl (cI, 16, .inl v.2.2.2.1)), (a4, .inl (cI, 16, .inl v.2.2.2.2)), (a5, .inl (cI, 64, .inl fb))]) s.heap.size (pV (fun (u : TW) => u.1 = (if (T w).1 = 0 then v.1 + 1 else v.1) ∧ TR u (if (T w).1 = 0 then va_up T w (1, 0, 0) else T))) (fun (u : TW) => [(a, .inr (2, [.int (nI u.1), .ref a1, .ref a2, .ref a3, .ref a4, .ref a5])), (a1, .inl (cI, 16, .inl u.2.1)), (a2, .inl (cI, 16, .inl u.2.2.1)), (a3, .inl (cI, 16, .inl u.2.2.2.1)), (a4, .inl (cI, 16, .inl u.2.2.2.2)), (a5, .inl (cI, 64, .inl fb))])) [.ref a, .int (nI w)].toArray s (0) (0) (va_A ([(a, .inr (2, [.int (nI v.1), .ref a1, .ref a2, .ref a3, .ref a4, .ref a5])), (a1, .inl (cI, 16, .inl v.2.1)), (a2, .inl (cI, 16, .inl v.2.2.1)), (a3, .inl (cI, 16, .inl v.2.2.2.1)), (a4, .inl (cI, 16, .inl v.2.2.2.2)), (a5, .inl (cI, 64, .inl fb))]) s.heap.size)) (F0 m 22 ls []) := by
        intro t
        induction t with
        | zero => intro k g H locs ls ht; exact absurd ht (Nat.not_lt_zero _)
        | succ t ih_22 =>
          intro k g H locs ls ht hk hsh hhi hw hl
          refine lv_iload_n hx hb dX2_bringIn_22 rfl (lv_at hl 0 rfl) ?_
          refine lv_if_le (tgt := 52) hx hb dX2_bringIn_23 (by decide) (fun c_23 => ?_) (fun c_23 => ?_)
          · have hlo : ∀ i, i < k → v.2.1 i < nI w := by
              first
              | exact TR_lo h hw2 hk hk1 (by rw [← (hsh.1 (k - 1) (by omega)).1]; exact c_35) hz
              | exact fun i hi => absurd hi (by simp (disch := omega) only [i_le, nI_toInt, z_0] at c_23; omega)
            refine lv_aload_n hx hb dX2_bringIn_52 rfl (lv_at hl 1 rfl) ?_
            refine lv_dup hx hb dX2_bringIn_53 rfl ?_
            refine ww_get hx hb hts hin2 hown hw 0 rfl rfl 0 (by decide) k7 rfl dX2_bringIn_54 ?_
            refine lv_iconst (v := nI 1) hx hb dX2_bringIn_57 (by decide +kernel) ?_
            refine lv_iadd hx hb dX2_bringIn_58 ?_
            refine lv_eqi (show _ = nI (v.1 + 1) from nI_add _ _) ?_
            refine ww_put (ws' := [(a, .inr (2, [.int (nI (v.1 + 1)), .ref a1, .ref a2, .ref a3, .ref a4, .ref a5])), (a1, .inl (cI, 16, .inl g.2.1)), (a2, .inl (cI, 16, .inl g.2.2.1)), (a3, .inl (cI, 16, .inl g.2.2.2.1)), (a4, .inl (cI, 16, .inl g.2.2.2.2)), (a5, .inl (cI, 64, .inl fb))]) hx hb hts hin2 tyX2 tyX2_ok nmX2 hown hw 0 rfl rfl 0 (by decide) k7 rfl rfl rfl (Nat.le_of_ble_eq_true rfl) rfl dX2_bringIn_59 (fun H locs hw => ?_)
            refine lv_aload_n hx hb dX2_bringIn_62 rfl (lv_at hl 1 rfl) ?_
            refine ww_get hx hb hts hin2 hown hw 0 rfl rfl 1 (by decide) k13 rfl dX2_bringIn_63 ?_
            refine lv_iload_n hx hb dX2_bringIn_66 rfl (lv_at hl 0 rfl) ?_
            refine lv_iload_n hx hb dX2_bringIn_67 rfl (lv_at hl 2 rfl) ?_
            refine ww_iast (ws' := [(a, .inr (2, [.int (nI (v.1 + 1)), .ref a1, .ref a2, .ref a3, .ref a4, .ref a5])), (a1, .inl (cI, 16, .inl (upd g.2.1 k (nI w)))), (a2, .inl (cI, 16, .inl g.2.2.1)), (a3, .inl (cI, 16, .inl g.2.2.2.1)), (a4, .inl (cI, 16, .inl g.2.2.2.2)), (a5, .inl (cI, 64, .inl fb))]) hx hb hw 1 rfl k rfl (by omega) (by omega) rfl dX2_bringIn_68 (fun H locs hw => ?_)
            refine W.eq (g2 := F0 m 69 ls []) rfl ?_
            refine lv_aload_n hx hb dX2_bringIn_69 rfl (lv_at hl 1 rfl) ?_
            refine ww_get hx hb hts hin2 hown hw 0 rfl rfl 2 (by decide) k17 rfl dX2_bringIn_70 ?_
            refine lv_iload_n hx hb dX2_bringIn_73 rfl (lv_at hl 0 rfl) ?_
            refine lv_iconst (v := nI 1) hx hb dX2_bringIn_74 (by decide +kernel) ?_
            refine ww_iast (ws' := [(a, .inr (2, [.int (nI (v.1 + 1)), .ref a1, .ref a2, .ref a3, .ref a4, .ref a5])), (a1, .inl (cI, 16, .inl (upd g.2.1 k (nI w)))), (a2, .inl (cI, 16, .inl (upd g.2.2.1 k (nI 1)))), (a3, .inl (cI, 16, .inl g.2.2.2.1)), (a4, .inl (cI, 16, .inl g.2.2.2.2)), (a5, .inl (cI, 64, .inl fb))]) hx hb hw 2 rfl k rfl (by omega) (by omega) rfl dX2_bringIn_75 (fun H locs hw => ?_)
            refine lv_aload_n hx hb dX2_bringIn_76 rfl (lv_at hl 1 rfl) ?_
            refine ww_get hx hb hts hin2 hown hw 0 rfl rfl 3 (by decide) k20 rfl dX2_bringIn_77 ?_
            refine lv_iload_n hx hb dX2_bringIn_80 rfl (lv_at hl 0 rfl) ?_
            refine lv_iconst (v := nI 0) hx hb dX2_bringIn_81 (by decide +kernel) ?_
            refine ww_iast (ws' := [(a, .inr (2, [.int (nI (v.1 + 1)), .ref a1, .ref a2, .ref a3, .ref a4, .ref a5])), (a1, .inl (cI, 16, .inl (upd g.2.1 k (nI w)))), (a2, .inl (cI, 16, .inl (upd g.2.2.1 k (nI 1)))), (a3, .inl (cI, 16, .inl (upd g.2.2.2.1 k (nI 0)))), (a4, .inl (cI, 16, .inl g.2.2.2.2)), (a5, .inl (cI, 64, .inl fb))]) hx hb hw 3 rfl k rfl (by omega) (by omega) rfl dX2_bringIn_82 (fun H locs hw => ?_)
            refine lv_aload_n hx hb dX2_bringIn_83 rfl (lv_at hl 1 rfl) ?_
            refine ww_get hx hb hts hin2 hown hw 0 rfl rfl 4 (by decide) k23 rfl dX2_bringIn_84 ?_
            refine W.eq (g2 := F0 m 87 ls [.ref a4]) rfl ?_
            refine lv_iload_n hx hb dX2_bringIn_87 rfl (lv_at hl 0 rfl) ?_
            refine lv_iconst (v := nI 0) hx hb dX2_bringIn_88 (by decide +kernel) ?_
            refine ww_iast (ws' := [(a, .inr (2, [.int (nI (v.1 + 1)), .ref a1, .ref a2, .ref a3, .ref a4, .ref a5])), (a1, .inl (cI, 16, .inl (upd g.2.1 k (nI w)))), (a2, .inl (cI, 16, .inl (upd g.2.2.1 k (nI 1)))), (a3, .inl (cI, 16, .inl (upd g.2.2.2.1 k (nI 0)))), (a4, .inl (cI, 16, .inl (upd g.2.2.2.2 k (nI 0)))), (a5, .inl (cI, 64, .inl fb))]) hx hb hw 4 rfl k rfl (by omega) (by omega) rfl dX2_bringIn_89 (fun H locs hw => ?_)
            exact ww_vret (u := (v.1 + 1, (upd g.2.1 k (nI w)), (upd g.2.2.1 k (nI 1)), (upd g.2.2.2.1 k (nI 0)), (upd g.2.2.2.2 k (nI 0)))) hx hb hr hlk hw (⟨(if_pos hz).symm ▸ rfl, by rw [if_pos hz]; exact TR_ins' h hw1 hw2 hz hk hf hlo hhi hsh⟩) (Nat.le_of_ble_eq_true rfl) (Nat.le_of_ble_eq_true rfl) rfl dX2_bringIn_90
          · have hk1 : 1 ≤ k := by simp (disch := omega) only [i_le, nI_toInt, z_0] at c_23; omega
            refine lv_aload_n hx hb dX2_bringIn_26 rfl (lv_at hl 1 rfl) ?_
            refine ww_get hx hb hts hin2 hown hw 0 rfl rfl 1 (by decide) k13 rfl dX2_bringIn_27 ?_
            refine lv_iload_n hx hb dX2_bringIn_30 rfl (lv_at hl 0 rfl) ?_
            refine lv_iconst (v := nI 1) hx hb dX2_bringIn_31 (by decide +kernel) ?_
            refine lv_isub hx hb dX2_bringIn_32 ?_
            refine lv_eqi (show _ = nI (k - 1) from pk_sub hk1) ?_
            refine ww_iald hx hb hw 1 rfl (k - 1) rfl (by omega) (by omega) dX2_bringIn_33 ?_
            refine lv_iload_n hx hb dX2_bringIn_34 rfl (lv_at hl 2 rfl) ?_
            refine lv_icmp_le (tgt := 52) hx hb dX2_bringIn_35 (by decide) (fun c_35 => ?_) (fun c_35 => ?_)
            · have hlo : ∀ i, i < k → v.2.1 i < nI w := by
                first
                | exact TR_lo h hw2 hk hk1 (by rw [← (hsh.1 (k - 1) (by omega)).1]; exact c_35) hz
                | exact fun i hi => absurd hi (by simp (disch := omega) only [i_le, nI_toInt, z_0] at c_23; omega)
              refine lv_aload_n hx hb dX2_bringIn_52 rfl (lv_at hl 1 rfl) ?_
              refine lv_dup hx hb dX2_bringIn_53 rfl ?_
              refine ww_get hx hb hts hin2 hown hw 0 rfl rfl 0 (by decide) k7 rfl dX2_bringIn_54 ?_
              refine lv_iconst (v := nI 1) hx hb dX2_bringIn_57 (by decide +kernel) ?_
              refine lv_iadd hx hb dX2_bringIn_58 ?_
              refine lv_eqi (show _ = nI (v.1 + 1) from nI_add _ _) ?_
              refine ww_put (ws' := [(a, .inr (2, [.int (nI (v.1 + 1)), .ref a1, .ref a2, .ref a3, .ref a4, .ref a5])), (a1, .inl (cI, 16, .inl g.2.1)), (a2, .inl (cI, 16, .inl g.2.2.1)), (a3, .inl (cI, 16, .inl g.2.2.2.1)), (a4, .inl (cI, 16, .inl g.2.2.2.2)), (a5, .inl (cI, 64, .inl fb))]) hx hb hts hin2 tyX2 tyX2_ok nmX2 hown hw 0 rfl rfl 0 (by decide) k7 rfl rfl rfl (Nat.le_of_ble_eq_true rfl) rfl dX2_bringIn_59 (fun H locs hw => ?_)
              refine lv_aload_n hx hb dX2_bringIn_62 rfl (lv_at hl 1 rfl) ?_
              refine ww_get hx hb hts hin2 hown hw 0 rfl rfl 1 (by decide) k13 rfl dX2_bringIn_63 ?_
              refine lv_iload_n hx hb dX2_bringIn_66 rfl (lv_at hl 0 rfl) ?_
              refine lv_iload_n hx hb dX2_bringIn_67 rfl (lv_at hl 2 rfl) ?_
              refine ww_iast (ws' := [(a, .inr (2, [.int (nI (v.1 + 1)), .ref a1, .ref a2, .ref a3, .ref a4, .ref a5])), (a1, .inl (cI, 16, .inl (upd g.2.1 k (nI w)))), (a2, .inl (cI, 16, .inl g.2.2.1)), (a3, .inl (cI, 16, .inl g.2.2.2.1)), (a4, .inl (cI, 16, .inl g.2.2.2.2)), (a5, .inl (cI, 64, .inl fb))]) hx hb hw 1 rfl k rfl (by omega) (by omega) rfl dX2_bringIn_68 (fun H locs hw => ?_)
              refine W.eq (g2 := F0 m 69 ls []) rfl ?_
              refine lv_aload_n hx hb dX2_bringIn_69 rfl (lv_at hl 1 rfl) ?_
              refine ww_get hx hb hts hin2 hown hw 0 rfl rfl 2 (by decide) k17 rfl dX2_bringIn_70 ?_
              refine lv_iload_n hx hb dX2_bringIn_73 rfl (lv_at hl 0 rfl) ?_
              refine lv_iconst (v := nI 1) hx hb dX2_bringIn_74 (by decide +kernel) ?_
              refine ww_iast (ws' := [(a, .inr (2, [.int (nI (v.1 + 1)), .ref a1, .ref a2, .ref a3, .ref a4, .ref a5])), (a1, .inl (cI, 16, .inl (upd g.2.1 k (nI w)))), (a2, .inl (cI, 16, .inl (upd g.2.2.1 k (nI 1)))), (a3, .inl (cI, 16, .inl g.2.2.2.1)), (a4, .inl (cI, 16, .inl g.2.2.2.2)), (a5, .inl (cI, 64, .inl fb))]) hx hb hw 2 rfl k rfl (by omega) (by omega) rfl dX2_bringIn_75 (fun H locs hw => ?_)
              refine lv_aload_n hx hb dX2_bringIn_76 rfl (lv_at hl 1 rfl) ?_
              refine ww_get hx hb hts hin2 hown hw 0 rfl rfl 3 (by decide) k20 rfl dX2_bringIn_77 ?_
              refine lv_iload_n hx hb dX2_bringIn_80 rfl (lv_at hl 0 rfl) ?_
              refine lv_iconst (v := nI 0) hx hb dX2_bringIn_81 (by decide +kernel) ?_
              refine ww_iast (ws' := [(a, .inr (2, [.int (nI (v.1 + 1)), .ref a1, .ref a2, .ref a3, .ref a4, .ref a5])), (a1, .inl (cI, 16, .inl (upd g.2.1 k (nI w)))), (a2, .inl (cI, 16, .inl (upd g.2.2.1 k (nI 1)))), (a3, .inl (cI, 16, .inl (upd g.2.2.2.1 k (nI 0)))), (a4, .inl (cI, 16, .inl g.2.2.2.2)), (a5, .inl (cI, 64, .inl fb))]) hx hb hw 3 rfl k rfl (by omega) (by omega) rfl dX2_bringIn_82 (fun H locs hw => ?_)
              refine lv_aload_n hx hb dX2_bringIn_83 rfl (lv_at hl 1 rfl) ?_
              refine ww_get hx hb hts hin2 hown hw 0 rfl rfl 4 (by decide) k23 rfl dX2_bringIn_84 ?_
              refine W.eq (g2 := F0 m 87 ls [.ref a4]) rfl ?_
              refine lv_iload_n hx hb dX2_bringIn_87 rfl (lv_at hl 0 rfl) ?_
              refine lv_iconst (v := nI 0) hx hb dX2_bringIn_88 (by decide +kernel) ?_
              refine ww_iast (ws' := [(a, .inr (2, [.int (nI (v.1 + 1)), .ref a1, .ref a2, .ref a3, .ref a4, .ref a5])), (a1, .inl (cI, 16, .inl (upd g.2.1 k (nI w)))), (a2, .inl (cI, 16, .inl (upd g.2.2.1 k (nI 1)))), (a3, .inl (cI, 16, .inl (upd g.2.2.2.1 k (nI 0)))), (a4, .inl (cI, 16, .inl (upd g.2.2.2.2 k (nI 0)))), (a5, .inl (cI, 64, .inl fb))]) hx hb hw 4 rfl k rfl (by omega) (by omega) rfl dX2_bringIn_89 (fun H locs hw => ?_)
              exact ww_vret (u := (v.1 + 1, (upd g.2.1 k (nI w)), (upd g.2.2.1 k (nI 1)), (upd g.2.2.2.1 k (nI 0)), (upd g.2.2.2.2 k (nI 0)))) hx hb hr hlk hw (⟨(if_pos hz).symm ▸ rfl, by rw [if_pos hz]; exact TR_ins' h hw1 hw2 hz hk hf hlo hhi hsh⟩) (Nat.le_of_ble_eq_true rfl) (Nat.le_of_ble_eq_true rfl) rfl dX2_bringIn_90
            · refine lv_aload_n hx hb dX2_bringIn_38 rfl (lv_at hl 1 rfl) ?_
              refine lv_iload_n hx hb dX2_bringIn_39 rfl (lv_at hl 0 rfl) ?_
              refine lv_iconst (v := nI 1) hx hb dX2_bringIn_40 (by decide +kernel) ?_
              refine lv_isub hx hb dX2_bringIn_41 ?_
              refine lv_eqi (show _ = nI (k - 1) from pk_sub hk1) ?_
              refine lv_iload_n hx hb dX2_bringIn_42 rfl (lv_at hl 0 rfl) ?_
              refine ww_callV ([]) ([]) (As := [.int (nI (k - 1)), .int (nI k)]) (rest := []) ⟨hx, hb, hml, hown, hts⟩ (cT_copySlot l D cI a a1 a2 a3 a4 a5 g fb v.1 (k - 1) k (by omega) (by omega)) gX2_bringIn_X2_copySlot rfl hd_X2_copySlot ⟨Nat.le_of_ble_eq_true rfl, Nat.le_of_ble_eq_true rfl⟩ hw rfl rfl rfl rfl rfl hl.1 (Nat.le_of_ble_eq_true rfl) dX2_bringIn_43 ⟨Nat.le_of_ble_eq_true rfl, Nat.le_of_ble_eq_true rfl⟩ (fun v u H locs hq hw => ?_)
              obtain ⟨rfl, hq⟩ := hq
              have hw : ww D cI _ _ s ([(a, .inr (2, [.int (nI v.1), .ref a1, .ref a2, .ref a3, .ref a4, .ref a5])), (a1, .inl (cI, 16, .inl (upd g.2.1 k (g.2.1 (k - 1))))), (a2, .inl (cI, 16, .inl (upd g.2.2.1 k (g.2.2.1 (k - 1))))), (a3, .inl (cI, 16, .inl (upd g.2.2.2.1 k (g.2.2.2.1 (k - 1))))), (a4, .inl (cI, 16, .inl (upd g.2.2.2.2 k (g.2.2.2.2 (k - 1))))), (a5, .inl (cI, 64, .inl fb))]) H locs := hw
              refine W.eq (g2 := F0 m 46 ls []) rfl ?_
              refine lv_iinc (v := nI (k - 1)) (lv' := [(2, .int (nI (k - 1))), (0, .ref a), (1, .int (nI w))]) hx hb dX2_bringIn_46 hl (k := 0) rfl (nI_dec hk1) (by decide) rfl (fun ls hl => ?_)
              refine lv_goto (tgt := 22) hx hb dX2_bringIn_49 (by decide) ?_
              exact ih_22 (k - 1) (v.1, (upd g.2.1 k (g.2.1 (k - 1))), (upd g.2.2.1 k (g.2.2.1 (k - 1))), (upd g.2.2.2.1 k (g.2.2.2.1 (k - 1))), (upd g.2.2.2.2 k (g.2.2.2.2 (k - 1)))) _ _ _ (by omega) (by omega) (SH_step hsh hk1 v.1) (fun j j1 j2 => by by_cases e : k ≤ j; exact hhi j e j2; (have e2 : j = k - 1 := by omega); rw [e2, ← (hsh.1 (k - 1) (by omega)).1]; rw [i_lt]; rw [i_le] at c_35; omega) hw (lv_sub hl [0, 1, 2] rfl)
      exact lp (((v.1)) + 1) v.1 v _ _ _ (Nat.lt_succ_self _) (Nat.le_refl _) (SH_0 v) (fun j j1 j2 => absurd j2 (by omega)) hw (lv_sub hl [0, 1, 2] rfl)
set_option maxHeartbeats 4000000 in
set_option maxRecDepth 100000 in
theorem cT_takeOut (l : Launch) (D : va_G) (cI : ClassId) (a a1 a2 a3 a4 a5 : Nat) (v : TW) (fb : Nat → Int32) (T : TF) (h : TR v T) (w : Nat) (hwb : w < 2 ^ 31) (hp : (T w).1 ≠ 0) : Kt l yX2_takeOut wsX2_takeOut 1 22 (0) (0) D cI [.ref a, .int (nI w)] ([(a, .inr (2, [.int (nI v.1), .ref a1, .ref a2, .ref a3, .ref a4, .ref a5])), (a1, .inl (cI, 16, .inl v.2.1)), (a2, .inl (cI, 16, .inl v.2.2.1)), (a3, .inl (cI, 16, .inl v.2.2.2.1)), (a4, .inl (cI, 16, .inl v.2.2.2.2)), (a5, .inl (cI, 64, .inl fb))]) (pV (fun (u : TW) => TR u (va_up T w (0, 0, 0)))) (fun (u : TW) => [(a, .inr (2, [.int (nI u.1), .ref a1, .ref a2, .ref a3, .ref a4, .ref a5])), (a1, .inl (cI, 16, .inl u.2.1)), (a2, .inl (cI, 16, .inl u.2.2.1)), (a3, .inl (cI, 16, .inl u.2.2.2.1)), (a4, .inl (cI, 16, .inl u.2.2.2.2)), (a5, .inl (cI, 64, .inl fb))]) := by
  refine kt_start (cc := cX2_takeOut) (maxL := 4) (ret := none) (by decide +kernel) rfl (Nat.le_of_ble_eq_true rfl) ?_
  intro p e s m below meth c hx hb hml hr hlk hown hnm hts ls hl hw
  have hown : s.vm.findClass RX2 = some m.cls := hown
  have hl : lv_has ls 4 [(0, .ref a), (1, .int (nI w))] := hl
  have k7 := hts (.fieldLink RX2 7 "RestartBook$Tables" "size" "I") (by decide +kernel)
  have hin2 : ∀ w ∈ u_ws RX2 TX2 6, w ∈ wsX2_takeOut := in_X2_takeOut
  have hv16 := TR_le h
  refine lv_aload_n hx hb dX2_takeOut_0 rfl (lv_at hl 0 rfl) ?_
  refine lv_iload_n hx hb dX2_takeOut_1 rfl (lv_at hl 1 rfl) ?_
  refine ww_callV ([]) ([]) (As := [.int (nI w)]) (rest := []) ⟨hx, hb, hml, hown, hts⟩ (cT_slotOf l D cI a a1 a2 a3 a4 a5 v fb (nI w) (TR_le h)) gX2_takeOut_X2_slotOf rfl hd_X2_slotOf ⟨Nat.le_of_ble_eq_true rfl, Nat.le_of_ble_eq_true rfl⟩ hw rfl rfl rfl rfl rfl hl.1 (Nat.le_of_ble_eq_true rfl) dX2_takeOut_2 ⟨Nat.le_of_ble_eq_true rfl, Nat.le_of_ble_eq_true rfl⟩ (fun v u H locs hq hw => ?_)
  obtain ⟨r, rfl, hq⟩ := hq
  have hw : ww D cI _ _ s ([(a, .inr (2, [.int (nI v.1), .ref a1, .ref a2, .ref a3, .ref a4, .ref a5])), (a1, .inl (cI, 16, .inl v.2.1)), (a2, .inl (cI, 16, .inl v.2.2.1)), (a3, .inl (cI, 16, .inl v.2.2.2.1)), (a4, .inl (cI, 16, .inl v.2.2.2.2)), (a5, .inl (cI, 64, .inl fb))]) H locs := hw
  refine W.eq (g2 := F0 m 5 ls [.int (r)]) rfl ?_
  rcases hq with ⟨i, hi, he, rfl⟩ | ⟨hno, rfl⟩
  · have hi16 : i < 16 := Nat.lt_of_lt_of_le hi (TR_le h)
    refine lv_istore_n (lv' := [(2, .int (nI i)), (0, .ref a), (1, .int (nI w))]) hx hb dX2_takeOut_5 rfl hl (by decide) rfl (fun ls hl => ?_)
    refine lv_iload_n hx hb dX2_takeOut_6 rfl (lv_at hl 0 rfl) ?_
    refine lv_iconst (v := (-1)) hx hb dX2_takeOut_7 (by decide +kernel) ?_
    refine lv_icmp_ne (tgt := 12) hx hb dX2_takeOut_8 (by decide) (fun c_8 => ?_) (fun c_8 => absurd c_8 (nI_nm1 (by omega)))
    refine lv_iload_n hx hb dX2_takeOut_12 rfl (lv_at hl 0 rfl) ?_
    refine lv_istore_n (lv' := [(3, .int (nI i)), (2, .int (nI i)), (0, .ref a), (1, .int (nI w))]) hx hb dX2_takeOut_13 rfl hl (by decide) rfl (fun ls hl => ?_)
    have lp : ∀ (t : Nat) (k : Nat) (g : TW) (H : Heap) (locs : List Loc) (ls : Array Slot), v.1 - k < t → (i ≤ k) → (k < v.1) → (SD v g i k) → ww D cI (va_A ([(a, .inr (2, [.int (nI v.1), .ref a1, .ref a2, .ref a3, .ref a4, .ref a5])), (a1, .inl (cI, 16, .inl v.2.1)), (a2, .inl (cI, 16, .inl v.2.2.1)), (a3, .inl (cI, 16, .inl v.2.2.2.1)), (a4, .inl (cI, 16, .inl v.2.2.2.2)), (a5, .inl (cI, 64, .inl fb))]) s.heap.size) s.heap s ([(a, .inr (2, [.int (nI v.1), .ref a1, .ref a2, .ref a3, .ref a4, .ref a5])), (a1, .inl (cI, 16, .inl g.2.1)), (a2, .inl (cI, 16, .inl g.2.2.1)), (a3, .inl (cI, 16, .inl g.2.2.2.1)), (a4, .inl (cI, 16, .inl g.2.2.2.2)), (a5, .inl (cI, 64, .inl fb))]) H locs → lv_has ls 4 [(3, .int (nI k)), (2, .int (nI i)), (0, .ref a), (1, .int (nI w))] → W p l e { frames := 1, cells := 0, slots := 0, locals := 22 } s m [.ref a, .int (nI w)].toArray below meth c H locs (0) (0) (MQ below (kQ D cI ([(a, .inr (2, [.int (nI v.1), .ref a1, .ref a2, .ref a3, .ref a4, .ref a5])), (a1, .inl (cI, 16, .inl v.2.1)), (a2, .inl (cI, 16, .inl v.2.2.1)), (a3, .inl (cI, 16, .inl v.2.2.2.1)), (a4, .inl (cI, 16, .inl v.2.2.2.2)), (a5, .inl (cI, 64, .inl fb))]) s.heap.size (pV (fun (u : TW) => TR u (va_up T w (0, 0, 0)))) (fun (u : TW) => [(a, .inr (2, [.int (nI u.1), .ref a1, .ref a2, .ref a3, .ref a4, .ref a5])), (a1, .inl (cI, 16, .inl u.2.1)), (a2, .inl (cI, 16, .inl u.2.2.1)), (a3, .inl (cI, 16, .inl u.2.2.2.1)), (a4, .inl (cI, 16, .inl u.2.2.2.2)), (a5, .inl (cI, 64, .inl fb))])) [.ref a, .int (nI w)].toArray s (0) (0) (va_A ([(a, .inr (2, [.int (nI v.1), .ref a1, .ref a2, .ref a3, .ref a4, .ref a5])), (a1, .inl (cI, 16, .inl v.2.1)), (a2, .inl (cI, 16, .inl v.2.2.1)), (a3, .inl (cI, 16, .inl v.2.2.2.1)), (a4, .inl (cI, 16, .inl v.2.2.2.2)), (a5, .inl (cI, 64, .inl fb))]) s.heap.size)) (F0 m 14 ls []) := by
      intro t
      induction t with
      | zero => intro k g H locs ls ht; exact absurd ht (Nat.not_lt_zero _)
      | succ t ih_14 =>
        intro k g H locs ls ht hk1 hk2 hsd hw hl
        refine lv_iload_n hx hb dX2_takeOut_14 rfl (lv_at hl 0 rfl) ?_
        refine lv_iconst (v := nI 1) hx hb dX2_takeOut_15 (by decide +kernel) ?_
        refine lv_iadd hx hb dX2_takeOut_16 ?_
        refine lv_eqi (show _ = nI (k + 1) from nI_add _ _) ?_
        refine lv_aload_n hx hb dX2_takeOut_17 rfl (lv_at hl 2 rfl) ?_
        refine ww_get hx hb hts hin2 hown hw 0 rfl rfl 0 (by decide) k7 rfl dX2_takeOut_18 ?_
        refine lv_icmp_ge (tgt := 38) hx hb dX2_takeOut_21 (by decide) (fun c_21 => ?_) (fun c_21 => ?_)
        · have hk3 : k + 1 = v.1 := by simp (disch := omega) only [i_le, nI_toInt] at c_21; omega
          refine lv_aload_n hx hb dX2_takeOut_38 rfl (lv_at hl 2 rfl) ?_
          refine lv_dup hx hb dX2_takeOut_39 rfl ?_
          refine ww_get hx hb hts hin2 hown hw 0 rfl rfl 0 (by decide) k7 rfl dX2_takeOut_40 ?_
          refine lv_iconst (v := nI 1) hx hb dX2_takeOut_43 (by decide +kernel) ?_
          refine lv_isub hx hb dX2_takeOut_44 ?_
          refine lv_eqi (show _ = nI (v.1 - 1) from pk_sub (by omega)) ?_
          refine ww_put (ws' := [(a, .inr (2, [.int (nI (v.1 - 1)), .ref a1, .ref a2, .ref a3, .ref a4, .ref a5])), (a1, .inl (cI, 16, .inl g.2.1)), (a2, .inl (cI, 16, .inl g.2.2.1)), (a3, .inl (cI, 16, .inl g.2.2.2.1)), (a4, .inl (cI, 16, .inl g.2.2.2.2)), (a5, .inl (cI, 64, .inl fb))]) hx hb hts hin2 tyX2 tyX2_ok nmX2 hown hw 0 rfl rfl 0 (by decide) k7 rfl rfl rfl (Nat.le_of_ble_eq_true rfl) rfl dX2_takeOut_45 (fun H locs hw => ?_)
          exact ww_vret (u := (v.1 - 1, g.2.1, g.2.2.1, g.2.2.2.1, g.2.2.2.2)) hx hb hr hlk hw (TR_del' h hwb hi he hsd hk3) (Nat.le_of_ble_eq_true rfl) (Nat.le_of_ble_eq_true rfl) rfl dX2_takeOut_48
        · have hk3 : k + 1 < v.1 := by simp (disch := omega) only [i_le, nI_toInt] at c_21; omega
          refine lv_aload_n hx hb dX2_takeOut_24 rfl (lv_at hl 2 rfl) ?_
          refine lv_iload_n hx hb dX2_takeOut_25 rfl (lv_at hl 0 rfl) ?_
          refine lv_iconst (v := nI 1) hx hb dX2_takeOut_26 (by decide +kernel) ?_
          refine lv_iadd hx hb dX2_takeOut_27 ?_
          refine lv_eqi (show _ = nI (k + 1) from nI_add _ _) ?_
          refine lv_iload_n hx hb dX2_takeOut_28 rfl (lv_at hl 0 rfl) ?_
          refine ww_callV ([]) ([]) (As := [.int (nI (k + 1)), .int (nI k)]) (rest := []) ⟨hx, hb, hml, hown, hts⟩ (cT_copySlot l D cI a a1 a2 a3 a4 a5 g fb v.1 (k + 1) k (by omega) (by omega)) gX2_takeOut_X2_copySlot rfl hd_X2_copySlot ⟨Nat.le_of_ble_eq_true rfl, Nat.le_of_ble_eq_true rfl⟩ hw rfl rfl rfl rfl rfl hl.1 (Nat.le_of_ble_eq_true rfl) dX2_takeOut_29 ⟨Nat.le_of_ble_eq_true rfl, Nat.le_of_ble_eq_true rfl⟩ (fun v u H locs hq hw => ?_)
          obtain ⟨rfl, hq⟩ := hq
          have hw : ww D cI _ _ s ([(a, .inr (2, [.int (nI v.1), .ref a1, .ref a2, .ref a3, .ref a4, .ref a5])), (a1, .inl (cI, 16, .inl (upd g.2.1 k (g.2.1 (k + 1))))), (a2, .inl (cI, 16, .inl (upd g.2.2.1 k (g.2.2.1 (k + 1))))), (a3, .inl (cI, 16, .inl (upd g.2.2.2.1 k (g.2.2.2.1 (k + 1))))), (a4, .inl (cI, 16, .inl (upd g.2.2.2.2 k (g.2.2.2.2 (k + 1))))), (a5, .inl (cI, 64, .inl fb))]) H locs := hw
          refine W.eq (g2 := F0 m 32 ls []) rfl ?_
          refine lv_iinc (v := nI (k + 1)) (lv' := [(3, .int (nI (k + 1))), (2, .int (nI i)), (0, .ref a), (1, .int (nI w))]) hx hb dX2_takeOut_32 hl (k := 0) rfl (nI_add _ _) (by decide) rfl (fun ls hl => ?_)
          refine lv_goto (tgt := 14) hx hb dX2_takeOut_35 (by decide) ?_
          exact ih_14 (k + 1) (v.1, (upd g.2.1 k (g.2.1 (k + 1))), (upd g.2.2.1 k (g.2.2.1 (k + 1))), (upd g.2.2.2.1 k (g.2.2.2.1 (k + 1))), (upd g.2.2.2.2 k (g.2.2.2.2 (k + 1)))) _ _ _ (by omega) (by omega) (by omega) (SD_step hsd hk1 hk3 v.1) hw (lv_sub hl [0, 1, 2, 3] rfl)
    exact lp ((v.1 - (i)) + 1) i v _ _ _ (Nat.lt_succ_self _) (Nat.le_refl _) hi (SD_0 v i) hw (lv_sub hl [0, 1, 2, 3] rfl)
  · exact absurd (TR_no h hno) hp
end
section
/-! RestartBook.Tables: looking through the slots; the bases; one table into another -/
theorem hd_J7_fill_53178 : yJ7_fill_53178.cls ≠ "java/lang/invoke/MethodHandle" ∧ yJ7_fill_53178.cls ≠ "java/lang/invoke/VarHandle" ∧ (parseMethodDescriptor yJ7_fill_53178.desc).map (fun d => d.parameters.length) = some 2 := by decide +kernel
theorem TR_lwS {v : TW} {T : TF} (h : TR v T) {i st : Nat} (hst : st ≠ 0) (hb : TB T) (hs : st < 2 ^ 31) (hi : i < v.1) (he : v.2.2.1 i = nI st) (hno : ∀ j, j < i → v.2.2.1 j ≠ nI st) : v.2.1 i = nI (lwD T st 200) := by
  obtain ⟨h0, wl, h1, h2, h3⟩ := h
  have a := h1 i hi
  rw [a.1.1]
  refine congrArg nI (lwD_least (w := wl i) a.2.1 ((nI_eq (hb _).1 hs).mp (a.1.2.1.symm.trans he)) (fun w' b1 b2 b3 => ?_) 200 a.2.2.1).symm
  obtain ⟨j, hj, rfl⟩ := h3 w' (by rw [b3]; exact hst)
  refine hno j ?_ (by rw [(h1 j hj).1.2.1, b3])
  by_cases q : j < i
  · exact q
  · rcases Nat.lt_or_ge i j with q2 | q2
    · have := h2 i j q2 hj; omega
    · have : j = i := by omega
      subst this; omega
theorem TR_lwN {v : TW} {T : TF} (h : TR v T) {st : Nat} (hst : st ≠ 0) (hno : ∀ j, j < v.1 → v.2.2.1 j ≠ nI st) : lwD T st 200 = 0 := by
  obtain ⟨h0, wl, h1, h2, h3⟩ := h
  refine lwD_none 200 (fun w _ _ b3 => ?_)
  obtain ⟨j, hj, rfl⟩ := h3 w (by rw [b3]; exact hst)
  exact hno j hj (by rw [(h1 j hj).1.2.1, b3])
set_option maxHeartbeats 4000000 in
set_option maxRecDepth 100000 in
theorem cT_leastWorkIn (l : Launch) (D : va_G) (cI : ClassId) (a a1 a2 a3 a4 a5 : Nat) (v : TW) (fb : Nat → Int32) (T : TF) (h : TR v T) (st : Nat) (hst : st ≠ 0) (hs : st < 2 ^ 31) (hb2 : TB T) : Kt l yX2_leastWorkIn wsX2_leastWorkIn 0 0 (0) (0) D cI [.ref a, .int (nI st)] ([(a, .inr (2, [.int (nI v.1), .ref a1, .ref a2, .ref a3, .ref a4, .ref a5])), (a1, .inl (cI, 16, .inl v.2.1)), (a2, .inl (cI, 16, .inl v.2.2.1)), (a3, .inl (cI, 16, .inl v.2.2.2.1)), (a4, .inl (cI, 16, .inl v.2.2.2.2)), (a5, .inl (cI, 64, .inl fb))]) (pI (fun (r : Int32) (u : Unit) => r = nI (lwD T st 200))) (fun (u : Unit) => [(a, .inr (2, [.int (nI v.1), .ref a1, .ref a2, .ref a3, .ref a4, .ref a5])), (a1, .inl (cI, 16, .inl v.2.1)), (a2, .inl (cI, 16, .inl v.2.2.1)), (a3, .inl (cI, 16, .inl v.2.2.2.1)), (a4, .inl (cI, 16, .inl v.2.2.2.2)), (a5, .inl (cI, 64, .inl fb))]) := by
  refine kt_start (cc := cX2_leastWorkIn) (maxL := 3) (ret := (some .int)) (by decide +kernel) rfl (Nat.le_of_ble_eq_true rfl) ?_
  intro p e s m below meth c hx hb hml hr hlk hown hnm hts ls hl hw
  have hown : s.vm.findClass RX2 = some m.cls := hown
  have hl : lv_has ls 3 [(0, .ref a), (1, .int (nI st))] := hl
  have k7 := hts (.fieldLink RX2 7 "RestartBook$Tables" "size" "I") (by decide +kernel)
  have k13 := hts (.fieldLink RX2 13 "RestartBook$Tables" "works" "[I") (by decide +kernel)
  have k17 := hts (.fieldLink RX2 17 "RestartBook$Tables" "states" "[I") (by decide +kernel)
  have hin2 : ∀ w ∈ u_ws RX2 TX2 6, w ∈ wsX2_leastWorkIn := in_X2_leastWorkIn
  have hv16 := TR_le h
  refine lv_iconst (v := nI 0) hx hb dX2_leastWorkIn_0 (by decide +kernel) ?_
  refine lv_istore_n (lv' := [(2, .int (nI 0)), (0, .ref a), (1, .int (nI st))]) hx hb dX2_leastWorkIn_1 rfl hl (by decide) rfl (fun ls hl => ?_)
  have lp : ∀ (t : Nat) (i : Nat) (H : Heap) (locs : List Loc) (ls : Array Slot), v.1 - i < t → (i ≤ v.1) → (∀ j, j < i → v.2.2.1 j ≠ nI st) → ww D cI (va_A ([(a, .inr (2, [.int (nI v.1), .ref a1, .ref a2, .ref a3, .ref a4, .ref a5])), (a1, .inl (cI, 16, .inl v.2.1)), (a2, .inl (cI, 16, .inl v.2.2.1)), (a3, .inl (cI, 16, .inl v.2.2.2.1)), (a4, .inl (cI, 16, .inl v.2.2.2.2)), (a5, .inl (cI, 64, .inl fb))]) s.heap.size) s.heap s ([(a, .inr (2, [.int (nI v.1), .ref a1, .ref a2, .ref a3, .ref a4, .ref a5])), (a1, .inl (cI, 16, .inl v.2.1)), (a2, .inl (cI, 16, .inl v.2.2.1)), (a3, .inl (cI, 16, .inl v.2.2.2.1)), (a4, .inl (cI, 16, .inl v.2.2.2.2)), (a5, .inl (cI, 64, .inl fb))]) H locs → lv_has ls 3 [(2, .int (nI i)), (0, .ref a), (1, .int (nI st))] → W p l e { frames := 0, cells := 0, slots := 0, locals := 0 } s m [.ref a, .int (nI st)].toArray below meth c H locs (0) (0) (MQ below (kQ D cI ([(a, .inr (2, [.int (nI v.1), .ref a1, .ref a2, .ref a3, .ref a4, .ref a5])), (a1, .inl (cI, 16, .inl v.2.1)), (a2, .inl (cI, 16, .inl v.2.2.1)), (a3, .inl (cI, 16, .inl v.2.2.2.1)), (a4, .inl (cI, 16, .inl v.2.2.2.2)), (a5, .inl (cI, 64, .inl fb))]) s.heap.size (pI (fun (r : Int32) (u : Unit) => r = nI (lwD T st 200))) (fun (u : Unit) => [(a, .inr (2, [.int (nI v.1), .ref a1, .ref a2, .ref a3, .ref a4, .ref a5])), (a1, .inl (cI, 16, .inl v.2.1)), (a2, .inl (cI, 16, .inl v.2.2.1)), (a3, .inl (cI, 16, .inl v.2.2.2.1)), (a4, .inl (cI, 16, .inl v.2.2.2.2)), (a5, .inl (cI, 64, .inl fb))])) [.ref a, .int (nI st)].toArray s (0) (0) (va_A ([(a, .inr (2, [.int (nI v.1), .ref a1, .ref a2, .ref a3, .ref a4, .ref a5])), (a1, .inl (cI, 16, .inl v.2.1)), (a2, .inl (cI, 16, .inl v.2.2.1)), (a3, .inl (cI, 16, .inl v.2.2.2.1)), (a4, .inl (cI, 16, .inl v.2.2.2.2)), (a5, .inl (cI, 64, .inl fb))]) s.heap.size)) (F0 m 2 ls []) := by
    intro t
    induction t with
    | zero => intro i H locs ls ht; exact absurd ht (Nat.not_lt_zero _)
    | succ t ih_2 =>
      intro i H locs ls ht hi0 hno hw hl
      refine lv_iload_n hx hb dX2_leastWorkIn_2 rfl (lv_at hl 0 rfl) ?_
      refine lv_aload_n hx hb dX2_leastWorkIn_3 rfl (lv_at hl 1 rfl) ?_
      refine ww_get hx hb hts hin2 hown hw 0 rfl rfl 0 (by decide) k7 rfl dX2_leastWorkIn_4 ?_
      refine lv_icmp_ge (tgt := 33) hx hb dX2_leastWorkIn_7 (by decide) (fun c_7 => ?_) (fun c_7 => ?_)
      · refine lv_iconst (v := nI 0) hx hb dX2_leastWorkIn_33 (by decide +kernel) ?_
        exact ww_iret (u := ()) hx hb hr hlk hw (by rw [TR_lwN h hst (fun j hj => hno j (by simp (disch := omega) only [i_le, nI_toInt] at c_7; omega))]) (Nat.le_of_ble_eq_true rfl) (Nat.le_of_ble_eq_true rfl) dX2_leastWorkIn_34
      · have hi : i < v.1 := by simp (disch := omega) only [i_le, nI_toInt] at c_7; omega
        refine lv_aload_n hx hb dX2_leastWorkIn_10 rfl (lv_at hl 1 rfl) ?_
        refine ww_get hx hb hts hin2 hown hw 0 rfl rfl 2 (by decide) k17 rfl dX2_leastWorkIn_11 ?_
        refine lv_iload_n hx hb dX2_leastWorkIn_14 rfl (lv_at hl 0 rfl) ?_
        refine ww_iald hx hb hw 2 rfl i rfl (by omega) (by omega) dX2_leastWorkIn_15 ?_
        refine lv_iload_n hx hb dX2_leastWorkIn_16 rfl (lv_at hl 2 rfl) ?_
        refine lv_icmp_ne (tgt := 27) hx hb dX2_leastWorkIn_17 (by decide) (fun c_17 => ?_) (fun c_17 => ?_)
        · refine lv_iinc (v := nI (i + 1)) (lv' := [(2, .int (nI (i + 1))), (0, .ref a), (1, .int (nI st))]) hx hb dX2_leastWorkIn_27 hl (k := 0) rfl (nI_add _ _) (by decide) rfl (fun ls hl => ?_)
          refine lv_goto (tgt := 2) hx hb dX2_leastWorkIn_30 (by decide) ?_
          exact ih_2 (i + 1) _ _ _ (by omega) (by omega) (fun j hj => (Nat.lt_succ_iff_lt_or_eq.mp hj).elim (hno j) (fun e => by rw [e]; exact c_17)) hw (lv_sub hl [0, 1, 2] rfl)
        · refine lv_aload_n hx hb dX2_leastWorkIn_20 rfl (lv_at hl 1 rfl) ?_
          refine ww_get hx hb hts hin2 hown hw 0 rfl rfl 1 (by decide) k13 rfl dX2_leastWorkIn_21 ?_
          refine lv_iload_n hx hb dX2_leastWorkIn_24 rfl (lv_at hl 0 rfl) ?_
          refine ww_iald hx hb hw 1 rfl i rfl (by omega) (by omega) dX2_leastWorkIn_25 ?_
          exact ww_iret (u := ()) hx hb hr hlk hw (TR_lwS h hst hb2 hs hi c_17 hno) (Nat.le_of_ble_eq_true rfl) (Nat.le_of_ble_eq_true rfl) dX2_leastWorkIn_26
  exact lp ((v.1 - (0)) + 1) 0 _ _ _ (Nat.lt_succ_self _) (Nat.zero_le _) (fun j hj => absurd hj (Nat.not_lt_zero _)) hw (lv_sub hl [0, 1, 2] rfl)
/-- behind i slots: what is found, and what the fold says of the works up to there -/
def WU (v : TW) (T : TF) (i : Nat) (x : Int32) : Prop := ∃ mm : Nat, mm ≤ 200 ∧ (∀ j, j < v.1 → ∀ w, w ≤ 200 → v.2.1 j = nI w → (j < i ↔ w ≤ mm)) ∧ ((x = -1 ∧ wuD T mm = 0) ∨ ∃ k, k < i ∧ x = nI k ∧ v.2.1 k = nI (wuD T mm) ∧ wuD T mm ≠ 0)
theorem WU_0 {v : TW} {T : TF} (h : TR v T) : WU v T 0 (-1) := by
  refine ⟨0, by omega, fun j hj w hw he => ⟨fun q => absurd q (Nat.not_lt_zero _), fun q => ?_⟩, Or.inl ⟨rfl, rfl⟩⟩
  have := (TR_at h (by omega) hj he).1
  omega
theorem WU_go {v : TW} {T : TF} (h : TR v T) {i mm w : Nat} (hi : i < v.1) (he : v.2.1 i = nI w) (hw : w ≤ 200) (hm : ∀ j, j < v.1 → ∀ w, w ≤ 200 → v.2.1 j = nI w → (j < i ↔ w ≤ mm)) : mm < w ∧ (∀ j, j < v.1 → ∀ w', w' ≤ 200 → v.2.1 j = nI w' → (j < i + 1 ↔ w' ≤ w)) ∧ wuD T (w - 1) = wuD T mm := by
  have hmw : mm < w := by
    have := hm i hi w hw he
    by_cases q : w ≤ mm
    · exact absurd (this.mpr q) (Nat.lt_irrefl _)
    · omega
  have ord : ∀ j, j < v.1 → ∀ w', w' ≤ 200 → v.2.1 j = nI w' → ((j < i → w' < w) ∧ (i < j → w < w')) := by
    obtain ⟨h0, wl, h1, h2, h3⟩ := h
    intro j hj w' hw' he'
    have e1 : wl j = w' := (nI_eq (by have := (h1 j hj).2.2.1; omega) (by omega)).mp ((h1 j hj).1.1.symm.trans he')
    have e2 : wl i = w := (nI_eq (by have := (h1 i hi).2.2.1; omega) (by omega)).mp ((h1 i hi).1.1.symm.trans he)
    exact ⟨fun q => by rw [← e1, ← e2]; exact h2 j i q hi, fun q => by rw [← e1, ← e2]; exact h2 i j q hj⟩
  refine ⟨hmw, fun j hj w' hw' he' => ?_, wuD_skip (w - 1) (by omega) (fun q q1 q2 => ?_)⟩
  · have o := ord j hj w' hw' he'
    constructor
    · intro q
      rcases Nat.lt_or_ge j i with a | a
      · exact Nat.le_of_lt (o.1 a)
      · have : j = i := by omega
        subst this
        have : w' = w := (nI_eq (by omega) (by omega)).mp (he'.symm.trans he)
        omega
    · intro q
      by_cases a : j < i + 1
      · exact a
      · have := o.2 (by omega); omega
  · by_cases z : (T q).1 = 0
    · exact z
    · obtain ⟨-, b2, j, hj, b3⟩ := TR_some h z
      have o := ord j hj q b2 b3
      have c := hm j hj q b2 b3
      have nlt : ¬ j < i := fun k => by have := c.mp k; omega
      rcases Nat.lt_or_ge i j with a | a
      · have := o.2 a; omega
      · have : j = i := by omega
        subst this
        have : q = w := (nI_eq (by omega) (by omega)).mp (b3.symm.trans he)
        omega
theorem wuD_step {T : TF} {w : Nat} (hw : 1 ≤ w) : (wuP T (wuD T (w - 1)) w → wuD T w = w) ∧ (¬ wuP T (wuD T (w - 1)) w → wuD T w = wuD T (w - 1)) := by
  obtain ⟨m, rfl⟩ : ∃ m, w = m + 1 := ⟨w - 1, by omega⟩
  exact ⟨fun q => wuD_pos q, fun q => wuD_neg q⟩
theorem WU_take {v : TW} {T : TF} (h : TR v T) (hb : TB T) {i : Nat} {x : Int32} (hi : i < v.1) (hu : WU v T i x) (ho : v.2.2.1 i = nI 1 ∨ v.2.2.1 i = nI 2) (hx : x = -1 ∨ ∃ k, k < i ∧ x = nI k ∧ v.2.2.2.2 k < v.2.2.2.2 i) : WU v T (i + 1) (nI i) := by
  obtain ⟨mm, m1, m2, m3⟩ := hu
  obtain ⟨w, w1, w2, w3⟩ := TR_mem h hi
  obtain ⟨g1, g2, g3⟩ := WU_go h hi w2 w1 m2
  have aw := TR_at h (by omega) hi w2
  have hp : wuP T (wuD T (w - 1)) w := by
    refine ⟨ho.elim (fun q => Or.inl ((nI_eq (hb w).1 (by omega)).mp (aw.2.2.2.1.symm.trans q))) (fun q => Or.inr ((nI_eq (hb w).1 (by omega)).mp (aw.2.2.2.1.symm.trans q))), ?_⟩
    rw [g3]
    rcases hx with hx | ⟨k, k1, k2, k3⟩
    · rcases m3 with m3 | ⟨k, k1, k2, -⟩
      · exact Or.inl m3.2
      · exact absurd (k2.symm.trans hx) (nI_nm1 (by have := TR_le h; omega))
    · rcases m3 with m3 | ⟨k', l1, l2, l3, l4⟩
      · exact absurd (k2.symm.trans m3.1) (nI_nm1 (by have := TR_le h; omega))
      · have e : k = k' := (nI_eq (by have := TR_le h; omega) (by have := TR_le h; omega)).mp (k2.symm.trans l2)
        subst e
        have ak := TR_at h (by have := wuD_le T mm; omega) (by omega) l3
        rw [ak.2.2.2.2.2, aw.2.2.2.2.2, nI_ltI (hb _).2.2 (hb _).2.2] at k3
        exact Or.inr k3
  have e := (wuD_step aw.1).1 hp
  exact ⟨w, w1, g2, Or.inr ⟨i, by omega, rfl, by rw [e]; exact w2, by rw [e]; have := aw.1; omega⟩⟩
theorem WU_keep {v : TW} {T : TF} (h : TR v T) (hb : TB T) {i : Nat} {x : Int32} (hi : i < v.1) (hu : WU v T i x) (ho : (¬ v.2.2.1 i = nI 1 ∧ ¬ v.2.2.1 i = nI 2) ∨ ∃ k, k < i ∧ x = nI k ∧ v.2.2.2.2 i ≤ v.2.2.2.2 k) : WU v T (i + 1) x := by
  obtain ⟨mm, m1, m2, m3⟩ := hu
  obtain ⟨w, w1, w2, w3⟩ := TR_mem h hi
  obtain ⟨g1, g2, g3⟩ := WU_go h hi w2 w1 m2
  have aw := TR_at h (by omega) hi w2
  have hp : ¬ wuP T (wuD T (w - 1)) w := by
    rintro ⟨p1, p2⟩
    rcases ho with ⟨o1, o2⟩ | ⟨k, k1, k2, k3⟩
    · rcases p1 with p | p
      · exact o1 (by rw [aw.2.2.2.1, p])
      · exact o2 (by rw [aw.2.2.2.1, p])
    · rw [g3] at p2
      rcases m3 with m3 | ⟨k', l1, l2, l3, l4⟩
      · exact absurd (k2.symm.trans m3.1) (nI_nm1 (by have := TR_le h; omega))
      · have e : k = k' := (nI_eq (by have := TR_le h; omega) (by have := TR_le h; omega)).mp (k2.symm.trans l2)
        subst e
        have ak := TR_at h (by have := wuD_le T mm; omega) (by omega) l3
        rw [ak.2.2.2.2.2, aw.2.2.2.2.2, nI_leI (hb _).2.2 (hb _).2.2] at k3
        rcases p2 with p2 | p2
        · exact l4 p2
        · omega
  have e := (wuD_step aw.1).2 hp
  rw [g3] at e
  refine ⟨w, w1, g2, ?_⟩
  rw [e]
  exact m3.imp id (fun ⟨k, k1, k2⟩ => ⟨k, by omega, k2⟩)
theorem WU_end {v : TW} {T : TF} (h : TR v T) {x : Int32} (hu : WU v T v.1 x) : (x = -1 ∧ wuD T 200 = 0) ∨ ∃ k, k < v.1 ∧ x = nI k ∧ v.2.1 k = nI (wuD T 200) := by
  obtain ⟨mm, m1, m2, m3⟩ := hu
  have e : wuD T 200 = wuD T mm := wuD_skip 200 m1 (fun q q1 q2 => by
    by_cases z : (T q).1 = 0
    · exact z
    · obtain ⟨-, b2, j, hj, b3⟩ := TR_some h z
      have := (m2 j hj q b2 b3).mp hj
      omega)
  rw [e]
  exact m3.imp id (fun ⟨k, k1, k2, k3, _⟩ => ⟨k, k1, k2, k3⟩)
set_option maxHeartbeats 4000000 in
set_option maxRecDepth 100000 in
theorem cT_workToUndo (l : Launch) (D : va_G) (cI : ClassId) (a a1 a2 a3 a4 a5 : Nat) (v : TW) (fb : Nat → Int32) (T : TF) (h : TR v T) (hb2 : TB T) : Kt l yX2_workToUndo wsX2_workToUndo 0 0 (0) (0) D cI [.ref a] ([(a, .inr (2, [.int (nI v.1), .ref a1, .ref a2, .ref a3, .ref a4, .ref a5])), (a1, .inl (cI, 16, .inl v.2.1)), (a2, .inl (cI, 16, .inl v.2.2.1)), (a3, .inl (cI, 16, .inl v.2.2.2.1)), (a4, .inl (cI, 16, .inl v.2.2.2.2)), (a5, .inl (cI, 64, .inl fb))]) (pI (fun (r : Int32) (u : Unit) => r = nI (wuD T 200))) (fun (u : Unit) => [(a, .inr (2, [.int (nI v.1), .ref a1, .ref a2, .ref a3, .ref a4, .ref a5])), (a1, .inl (cI, 16, .inl v.2.1)), (a2, .inl (cI, 16, .inl v.2.2.1)), (a3, .inl (cI, 16, .inl v.2.2.2.1)), (a4, .inl (cI, 16, .inl v.2.2.2.2)), (a5, .inl (cI, 64, .inl fb))]) := by
  refine kt_start (cc := cX2_workToUndo) (maxL := 4) (ret := (some .int)) (by decide +kernel) rfl (Nat.le_of_ble_eq_true rfl) ?_
  intro p e s m below meth c hx hb hml hr hlk hown hnm hts ls hl hw
  have hown : s.vm.findClass RX2 = some m.cls := hown
  have hl : lv_has ls 4 [(0, .ref a)] := hl
  have k7 := hts (.fieldLink RX2 7 "RestartBook$Tables" "size" "I") (by decide +kernel)
  have k13 := hts (.fieldLink RX2 13 "RestartBook$Tables" "works" "[I") (by decide +kernel)
  have k17 := hts (.fieldLink RX2 17 "RestartBook$Tables" "states" "[I") (by decide +kernel)
  have k23 := hts (.fieldLink RX2 23 "RestartBook$Tables" "nexts" "[I") (by decide +kernel)
  have hin2 : ∀ w ∈ u_ws RX2 TX2 6, w ∈ wsX2_workToUndo := in_X2_workToUndo
  have hv16 := TR_le h
  refine lv_iconst (v := (-1)) hx hb dX2_workToUndo_0 (by decide +kernel) ?_
  refine lv_istore_n (lv' := [(1, .int ((-1))), (0, .ref a)]) hx hb dX2_workToUndo_1 rfl hl (by decide) rfl (fun ls hl => ?_)
  refine lv_iconst (v := nI 0) hx hb dX2_workToUndo_2 (by decide +kernel) ?_
  refine lv_istore_n (lv' := [(2, .int (nI 0)), (1, .int ((-1))), (0, .ref a)]) hx hb dX2_workToUndo_3 rfl hl (by decide) rfl (fun ls hl => ?_)
  have lp : ∀ (t : Nat) (i : Nat) (x : Int32) (H : Heap) (locs : List Loc) (ls : Array Slot), v.1 - i < t → (i ≤ v.1) → (WU v T i x) → ww D cI (va_A ([(a, .inr (2, [.int (nI v.1), .ref a1, .ref a2, .ref a3, .ref a4, .ref a5])), (a1, .inl (cI, 16, .inl v.2.1)), (a2, .inl (cI, 16, .inl v.2.2.1)), (a3, .inl (cI, 16, .inl v.2.2.2.1)), (a4, .inl (cI, 16, .inl v.2.2.2.2)), (a5, .inl (cI, 64, .inl fb))]) s.heap.size) s.heap s ([(a, .inr (2, [.int (nI v.1), .ref a1, .ref a2, .ref a3, .ref a4, .ref a5])), (a1, .inl (cI, 16, .inl v.2.1)), (a2, .inl (cI, 16, .inl v.2.2.1)), (a3, .inl (cI, 16, .inl v.2.2.2.1)), (a4, .inl (cI, 16, .inl v.2.2.2.2)), (a5, .inl (cI, 64, .inl fb))]) H locs → lv_has ls 4 [(2, .int (nI i)), (1, .int x), (0, .ref a)] → W p l e { frames := 0, cells := 0, slots := 0, locals := 0 } s m [.ref a].toArray below meth c H locs (0) (0) (MQ below (kQ D cI ([(a, .inr (2, [.int (nI v.1), .ref a1, .ref a2, .ref a3, .ref a4, .ref a5])), (a1, .inl (cI, 16, .inl v.2.1)), (a2, .inl (cI, 16, .inl v.2.2.1)), (a3, .inl (cI, 16, .inl v.2.2.2.1)), (a4, .inl (cI, 16, .inl v.2.2.2.2)), (a5, .inl (cI, 64, .inl fb))]) s.heap.size (pI (fun (r : Int32) (u : Unit) => r = nI (wuD T 200))) (fun (u : Unit) => [(a, .inr (2, [.int (nI v.1), .ref a1, .ref a2, .ref a3, .ref a4, .ref a5])), (a1, .inl (cI, 16, .inl v.2.1)), (a2, .inl (cI, 16, .inl v.2.2.1)), (a3, .inl (cI, 16, .inl v.2.2.2.1)), (a4, .inl (cI, 16, .inl v.2.2.2.2)), (a5, .inl (cI, 64, .inl fb))])) [.ref a].toArray s (0) (0) (va_A ([(a, .inr (2, [.int (nI v.1), .ref a1, .ref a2, .ref a3, .ref a4, .ref a5])), (a1, .inl (cI, 16, .inl v.2.1)), (a2, .inl (cI, 16, .inl v.2.2.1)), (a3, .inl (cI, 16, .inl v.2.2.2.1)), (a4, .inl (cI, 16, .inl v.2.2.2.2)), (a5, .inl (cI, 64, .inl fb))]) s.heap.size)) (F0 m 4 ls []) := by
    intro t
    induction t with
    | zero => intro i x H locs ls ht; exact absurd ht (Nat.not_lt_zero _)
    | succ t ih_4 =>
      intro i x H locs ls ht hi0 hu hw hl
      refine lv_iload_n hx hb dX2_workToUndo_4 rfl (lv_at hl 0 rfl) ?_
      refine lv_aload_n hx hb dX2_workToUndo_5 rfl (lv_at hl 2 rfl) ?_
      refine ww_get hx hb hts hin2 hown hw 0 rfl rfl 0 (by decide) k7 rfl dX2_workToUndo_6 ?_
      refine lv_icmp_ge (tgt := 70) hx hb dX2_workToUndo_9 (by decide) (fun c_9 => ?_) (fun c_9 => ?_)
      · have hie : i = v.1 := by simp (disch := omega) only [i_le, nI_toInt] at c_9; omega
        subst hie
        rcases WU_end h hu with ⟨rfl, hz⟩ | ⟨k, k1, rfl, k2⟩
        · skip
          refine lv_iload_n hx hb dX2_workToUndo_70 rfl (lv_at hl 1 rfl) ?_
          refine lv_iconst (v := (-1)) hx hb dX2_workToUndo_71 (by decide +kernel) ?_
          refine lv_icmp_ne (tgt := 79) hx hb dX2_workToUndo_72 (by decide) (fun c_72 => absurd c_72 (fun q => q rfl)) (fun c_72 => ?_)
          refine lv_iconst (v := nI 0) hx hb dX2_workToUndo_75 (by decide +kernel) ?_
          refine lv_goto (tgt := 85) hx hb dX2_workToUndo_76 (by decide) ?_
          exact ww_iret (u := ()) hx hb hr hlk hw (by rw [hz]) (Nat.le_of_ble_eq_true rfl) (Nat.le_of_ble_eq_true rfl) dX2_workToUndo_85
        · have hk16 : k < 16 := by omega
          refine lv_iload_n hx hb dX2_workToUndo_70 rfl (lv_at hl 1 rfl) ?_
          refine lv_iconst (v := (-1)) hx hb dX2_workToUndo_71 (by decide +kernel) ?_
          refine lv_icmp_ne (tgt := 79) hx hb dX2_workToUndo_72 (by decide) (fun c_72 => ?_) (fun c_72 => absurd c_72 (nI_nm1 (by omega)))
          refine lv_aload_n hx hb dX2_workToUndo_79 rfl (lv_at hl 2 rfl) ?_
          refine ww_get hx hb hts hin2 hown hw 0 rfl rfl 1 (by decide) k13 rfl dX2_workToUndo_80 ?_
          refine lv_iload_n hx hb dX2_workToUndo_83 rfl (lv_at hl 1 rfl) ?_
          refine ww_iald hx hb hw 1 rfl k rfl (by omega) (by omega) dX2_workToUndo_84 ?_
          exact ww_iret (u := ()) hx hb hr hlk hw (k2) (Nat.le_of_ble_eq_true rfl) (Nat.le_of_ble_eq_true rfl) dX2_workToUndo_85
      · have hi : i < v.1 := by simp (disch := omega) only [i_le, nI_toInt] at c_9; omega
        refine lv_aload_n hx hb dX2_workToUndo_12 rfl (lv_at hl 2 rfl) ?_
        refine ww_get hx hb hts hin2 hown hw 0 rfl rfl 2 (by decide) k17 rfl dX2_workToUndo_13 ?_
        refine lv_iload_n hx hb dX2_workToUndo_16 rfl (lv_at hl 0 rfl) ?_
        refine ww_iald hx hb hw 2 rfl i rfl (by omega) (by omega) dX2_workToUndo_17 ?_
        refine lv_iconst (v := nI 1) hx hb dX2_workToUndo_18 (by decide +kernel) ?_
        refine lv_icmp_eq (tgt := 32) hx hb dX2_workToUndo_19 (by decide) (fun c_19 => ?_) (fun c_19 => ?_)
        · refine lv_iconst (v := nI 1) hx hb dX2_workToUndo_32 (by decide +kernel) ?_
          refine lv_goto (tgt := 37) hx hb dX2_workToUndo_33 (by decide) ?_
          refine lv_istore_n (lv' := [(3, .int (nI 1)), (2, .int (nI i)), (1, .int x), (0, .ref a)]) hx hb dX2_workToUndo_37 rfl hl (by decide) rfl (fun ls hl => ?_)
          refine lv_iload_n hx hb dX2_workToUndo_38 rfl (lv_at hl 0 rfl) ?_
          refine lv_if_eq (tgt := 64) hx hb dX2_workToUndo_39 (by decide) (fun c_39 => absurd c_39 (by decide)) (fun c_39 => ?_)
          refine lv_iload_n hx hb dX2_workToUndo_42 rfl (lv_at hl 2 rfl) ?_
          refine lv_iconst (v := (-1)) hx hb dX2_workToUndo_43 (by decide +kernel) ?_
          refine lv_icmp_eq (tgt := 62) hx hb dX2_workToUndo_44 (by decide) (fun c_44 => ?_) (fun c_44 => ?_)
          · refine lv_iload_n hx hb dX2_workToUndo_62 rfl (lv_at hl 1 rfl) ?_
            refine lv_istore_n (lv' := [(1, .int (nI i)), (3, .int (nI 1)), (2, .int (nI i)), (0, .ref a)]) hx hb dX2_workToUndo_63 rfl hl (by decide) rfl (fun ls hl => ?_)
            refine lv_iinc (v := nI (i + 1)) (lv' := [(2, .int (nI (i + 1))), (1, .int (nI i)), (3, .int (nI 1)), (0, .ref a)]) hx hb dX2_workToUndo_64 hl (k := 2) rfl (nI_add _ _) (by decide) rfl (fun ls hl => ?_)
            refine lv_goto (tgt := 4) hx hb dX2_workToUndo_67 (by decide) ?_
            exact ih_4 (i + 1) (nI i) _ _ _ (by omega) (by omega) (WU_take h hb2 hi hu (by first | exact Or.inl c_19 | exact Or.inr c_29) (by first | exact Or.inl c_44 | exact Or.inr ⟨k, k1, rfl, by rw [i_lt]; rw [i_le] at c_59; omega⟩)) hw (lv_sub hl [0, 1, 3] rfl)
          · obtain ⟨k, k1, rfl⟩ : ∃ k, k < i ∧ x = nI k := by obtain ⟨mm, -, -, q⟩ := hu; exact q.elim (fun q => absurd q.1 c_44) (fun ⟨k, k1, k2, _⟩ => ⟨k, k1, k2⟩)
            refine lv_aload_n hx hb dX2_workToUndo_47 rfl (lv_at hl 3 rfl) ?_
            refine ww_get hx hb hts hin2 hown hw 0 rfl rfl 4 (by decide) k23 rfl dX2_workToUndo_48 ?_
            refine lv_iload_n hx hb dX2_workToUndo_51 rfl (lv_at hl 1 rfl) ?_
            refine ww_iald hx hb hw 4 rfl i rfl (by omega) (by omega) dX2_workToUndo_52 ?_
            refine lv_aload_n hx hb dX2_workToUndo_53 rfl (lv_at hl 3 rfl) ?_
            refine ww_get hx hb hts hin2 hown hw 0 rfl rfl 4 (by decide) k23 rfl dX2_workToUndo_54 ?_
            refine lv_iload_n hx hb dX2_workToUndo_57 rfl (lv_at hl 2 rfl) ?_
            refine ww_iald hx hb hw 4 rfl k rfl (by omega) (by omega) dX2_workToUndo_58 ?_
            refine lv_icmp_le (tgt := 64) hx hb dX2_workToUndo_59 (by decide) (fun c_59 => ?_) (fun c_59 => ?_)
            · refine lv_iinc (v := nI (i + 1)) (lv' := [(2, .int (nI (i + 1))), (3, .int (nI 1)), (1, .int (nI k)), (0, .ref a)]) hx hb dX2_workToUndo_64 hl (k := 1) rfl (nI_add _ _) (by decide) rfl (fun ls hl => ?_)
              refine lv_goto (tgt := 4) hx hb dX2_workToUndo_67 (by decide) ?_
              exact ih_4 (i + 1) (nI k) _ _ _ (by omega) (by omega) (WU_keep h hb2 hi hu (by first | exact Or.inl ⟨c_19, c_29⟩ | exact Or.inr ⟨k, k1, rfl, c_59⟩)) hw (lv_sub hl [0, 2, 3] rfl)
            · refine lv_iload_n hx hb dX2_workToUndo_62 rfl (lv_at hl 1 rfl) ?_
              refine lv_istore_n (lv' := [(1, .int (nI i)), (3, .int (nI 1)), (2, .int (nI i)), (0, .ref a)]) hx hb dX2_workToUndo_63 rfl hl (by decide) rfl (fun ls hl => ?_)
              refine lv_iinc (v := nI (i + 1)) (lv' := [(2, .int (nI (i + 1))), (1, .int (nI i)), (3, .int (nI 1)), (0, .ref a)]) hx hb dX2_workToUndo_64 hl (k := 2) rfl (nI_add _ _) (by decide) rfl (fun ls hl => ?_)
              refine lv_goto (tgt := 4) hx hb dX2_workToUndo_67 (by decide) ?_
              exact ih_4 (i + 1) (nI i) _ _ _ (by omega) (by omega) (WU_take h hb2 hi hu (by first | exact Or.inl c_19 | exact Or.inr c_29) (by first | exact Or.inl c_44 | exact Or.inr ⟨k, k1, rfl, by rw [i_lt]; rw [i_le] at c_59; omega⟩)) hw (lv_sub hl [0, 1, 3] rfl)
        · refine lv_aload_n hx hb dX2_workToUndo_22 rfl (lv_at hl 2 rfl) ?_
          refine ww_get hx hb hts hin2 hown hw 0 rfl rfl 2 (by decide) k17 rfl dX2_workToUndo_23 ?_
          refine lv_iload_n hx hb dX2_workToUndo_26 rfl (lv_at hl 0 rfl) ?_
          refine ww_iald hx hb hw 2 rfl i rfl (by omega) (by omega) dX2_workToUndo_27 ?_
          refine lv_iconst (v := nI 2) hx hb dX2_workToUndo_28 (by decide +kernel) ?_
          refine lv_icmp_ne (tgt := 36) hx hb dX2_workToUndo_29 (by decide) (fun c_29 => ?_) (fun c_29 => ?_)
          · refine lv_iconst (v := nI 0) hx hb dX2_workToUndo_36 (by decide +kernel) ?_
            refine lv_istore_n (lv' := [(3, .int (nI 0)), (2, .int (nI i)), (1, .int x), (0, .ref a)]) hx hb dX2_workToUndo_37 rfl hl (by decide) rfl (fun ls hl => ?_)
            refine lv_iload_n hx hb dX2_workToUndo_38 rfl (lv_at hl 0 rfl) ?_
            refine lv_if_eq (tgt := 64) hx hb dX2_workToUndo_39 (by decide) (fun c_39 => ?_) (fun c_39 => absurd (by decide) c_39)
            refine lv_iinc (v := nI (i + 1)) (lv' := [(2, .int (nI (i + 1))), (3, .int (nI 0)), (1, .int x), (0, .ref a)]) hx hb dX2_workToUndo_64 hl (k := 1) rfl (nI_add _ _) (by decide) rfl (fun ls hl => ?_)
            refine lv_goto (tgt := 4) hx hb dX2_workToUndo_67 (by decide) ?_
            exact ih_4 (i + 1) x _ _ _ (by omega) (by omega) (WU_keep h hb2 hi hu (by first | exact Or.inl ⟨c_19, c_29⟩ | exact Or.inr ⟨k, k1, rfl, c_59⟩)) hw (lv_sub hl [0, 2, 3] rfl)
          · refine lv_iconst (v := nI 1) hx hb dX2_workToUndo_32 (by decide +kernel) ?_
            refine lv_goto (tgt := 37) hx hb dX2_workToUndo_33 (by decide) ?_
            refine lv_istore_n (lv' := [(3, .int (nI 1)), (2, .int (nI i)), (1, .int x), (0, .ref a)]) hx hb dX2_workToUndo_37 rfl hl (by decide) rfl (fun ls hl => ?_)
            refine lv_iload_n hx hb dX2_workToUndo_38 rfl (lv_at hl 0 rfl) ?_
            refine lv_if_eq (tgt := 64) hx hb dX2_workToUndo_39 (by decide) (fun c_39 => absurd c_39 (by decide)) (fun c_39 => ?_)
            refine lv_iload_n hx hb dX2_workToUndo_42 rfl (lv_at hl 2 rfl) ?_
            refine lv_iconst (v := (-1)) hx hb dX2_workToUndo_43 (by decide +kernel) ?_
            refine lv_icmp_eq (tgt := 62) hx hb dX2_workToUndo_44 (by decide) (fun c_44 => ?_) (fun c_44 => ?_)
            · refine lv_iload_n hx hb dX2_workToUndo_62 rfl (lv_at hl 1 rfl) ?_
              refine lv_istore_n (lv' := [(1, .int (nI i)), (3, .int (nI 1)), (2, .int (nI i)), (0, .ref a)]) hx hb dX2_workToUndo_63 rfl hl (by decide) rfl (fun ls hl => ?_)
              refine lv_iinc (v := nI (i + 1)) (lv' := [(2, .int (nI (i + 1))), (1, .int (nI i)), (3, .int (nI 1)), (0, .ref a)]) hx hb dX2_workToUndo_64 hl (k := 2) rfl (nI_add _ _) (by decide) rfl (fun ls hl => ?_)
              refine lv_goto (tgt := 4) hx hb dX2_workToUndo_67 (by decide) ?_
              exact ih_4 (i + 1) (nI i) _ _ _ (by omega) (by omega) (WU_take h hb2 hi hu (by first | exact Or.inl c_19 | exact Or.inr c_29) (by first | exact Or.inl c_44 | exact Or.inr ⟨k, k1, rfl, by rw [i_lt]; rw [i_le] at c_59; omega⟩)) hw (lv_sub hl [0, 1, 3] rfl)
            · obtain ⟨k, k1, rfl⟩ : ∃ k, k < i ∧ x = nI k := by obtain ⟨mm, -, -, q⟩ := hu; exact q.elim (fun q => absurd q.1 c_44) (fun ⟨k, k1, k2, _⟩ => ⟨k, k1, k2⟩)
              refine lv_aload_n hx hb dX2_workToUndo_47 rfl (lv_at hl 3 rfl) ?_
              refine ww_get hx hb hts hin2 hown hw 0 rfl rfl 4 (by decide) k23 rfl dX2_workToUndo_48 ?_
              refine lv_iload_n hx hb dX2_workToUndo_51 rfl (lv_at hl 1 rfl) ?_
              refine ww_iald hx hb hw 4 rfl i rfl (by omega) (by omega) dX2_workToUndo_52 ?_
              refine lv_aload_n hx hb dX2_workToUndo_53 rfl (lv_at hl 3 rfl) ?_
              refine ww_get hx hb hts hin2 hown hw 0 rfl rfl 4 (by decide) k23 rfl dX2_workToUndo_54 ?_
              refine lv_iload_n hx hb dX2_workToUndo_57 rfl (lv_at hl 2 rfl) ?_
              refine ww_iald hx hb hw 4 rfl k rfl (by omega) (by omega) dX2_workToUndo_58 ?_
              refine lv_icmp_le (tgt := 64) hx hb dX2_workToUndo_59 (by decide) (fun c_59 => ?_) (fun c_59 => ?_)
              · refine lv_iinc (v := nI (i + 1)) (lv' := [(2, .int (nI (i + 1))), (3, .int (nI 1)), (1, .int (nI k)), (0, .ref a)]) hx hb dX2_workToUndo_64 hl (k := 1) rfl (nI_add _ _) (by decide) rfl (fun ls hl => ?_)
                refine lv_goto (tgt := 4) hx hb dX2_workToUndo_67 (by decide) ?_
                exact ih_4 (i + 1) (nI k) _ _ _ (by omega) (by omega) (WU_keep h hb2 hi hu (by first | exact Or.inl ⟨c_19, c_29⟩ | exact Or.inr ⟨k, k1, rfl, c_59⟩)) hw (lv_sub hl [0, 2, 3] rfl)
              · refine lv_iload_n hx hb dX2_workToUndo_62 rfl (lv_at hl 1 rfl) ?_
                refine lv_istore_n (lv' := [(1, .int (nI i)), (3, .int (nI 1)), (2, .int (nI i)), (0, .ref a)]) hx hb dX2_workToUndo_63 rfl hl (by decide) rfl (fun ls hl => ?_)
                refine lv_iinc (v := nI (i + 1)) (lv' := [(2, .int (nI (i + 1))), (1, .int (nI i)), (3, .int (nI 1)), (0, .ref a)]) hx hb dX2_workToUndo_64 hl (k := 2) rfl (nI_add _ _) (by decide) rfl (fun ls hl => ?_)
                refine lv_goto (tgt := 4) hx hb dX2_workToUndo_67 (by decide) ?_
                exact ih_4 (i + 1) (nI i) _ _ _ (by omega) (by omega) (WU_take h hb2 hi hu (by first | exact Or.inl c_19 | exact Or.inr c_29) (by first | exact Or.inl c_44 | exact Or.inr ⟨k, k1, rfl, by rw [i_lt]; rw [i_le] at c_59; omega⟩)) hw (lv_sub hl [0, 1, 3] rfl)
  exact lp ((v.1 - (0)) + 1) 0 (-1) _ _ _ (Nat.lt_succ_self _) (Nat.zero_le _) (WU_0 h) hw (lv_sub hl [0, 1, 2] rfl)
set_option maxHeartbeats 4000000 in
set_option maxRecDepth 100000 in
theorem cT_baseOf (l : Launch) (D : va_G) (cI : ClassId) (a a1 a2 a3 a4 a5 : Nat) (v : TW) (fb : Nat → Int32) (i : Nat) (hi : i < 64) : Kt l yX2_baseOf wsX2_baseOf 1 20 (0) (0) D cI [.ref a, .int (nI i)] ([(a, .inr (2, [.int (nI v.1), .ref a1, .ref a2, .ref a3, .ref a4, .ref a5])), (a1, .inl (cI, 16, .inl v.2.1)), (a2, .inl (cI, 16, .inl v.2.2.1)), (a3, .inl (cI, 16, .inl v.2.2.2.1)), (a4, .inl (cI, 16, .inl v.2.2.2.2)), (a5, .inl (cI, 64, .inl fb))]) (pI (fun (r : Int32) (u : Unit) => r = fb i)) (fun (u : Unit) => [(a, .inr (2, [.int (nI v.1), .ref a1, .ref a2, .ref a3, .ref a4, .ref a5])), (a1, .inl (cI, 16, .inl v.2.1)), (a2, .inl (cI, 16, .inl v.2.2.1)), (a3, .inl (cI, 16, .inl v.2.2.2.1)), (a4, .inl (cI, 16, .inl v.2.2.2.2)), (a5, .inl (cI, 64, .inl fb))]) := by
  refine kt_start (cc := cX2_baseOf) (maxL := 2) (ret := (some .int)) (by decide +kernel) rfl (Nat.le_of_ble_eq_true rfl) ?_
  intro p e s m below meth c hx hb hml hr hlk hown hnm hts ls hl hw
  have hown : s.vm.findClass RX2 = some m.cls := hown
  have hl : lv_has ls 2 [(0, .ref a), (1, .int (nI i))] := hl
  have k28 := hts (.fieldLink RX2 28 "RestartBook$Tables" "bases" "[I") (by decide +kernel)
  have hin2 : ∀ w ∈ u_ws RX2 TX2 6, w ∈ wsX2_baseOf := in_X2_baseOf
  refine lv_iload_n hx hb dX2_baseOf_0 rfl (lv_at hl 1 rfl) ?_
  refine ww_callS ([]) ([(a, .inr (2, [.int (nI v.1), .ref a1, .ref a2, .ref a3, .ref a4, .ref a5])), (a1, .inl (cI, 16, .inl v.2.1)), (a2, .inl (cI, 16, .inl v.2.2.1)), (a3, .inl (cI, 16, .inl v.2.2.2.1)), (a4, .inl (cI, 16, .inl v.2.2.2.2)), (a5, .inl (cI, 64, .inl fb))]) (As := [.int (nI i)]) (rest := []) ⟨hx, hb, hml, hown, hts⟩ (cP_hasPage l D cI (nI i)) gX2_baseOf_X1_hasPage rfl hd_X1_hasPage ⟨Nat.le_of_ble_eq_true rfl, Nat.le_of_ble_eq_true rfl⟩ hw rfl rfl rfl hl.1 (Nat.le_of_ble_eq_true rfl) dX2_baseOf_1 ⟨Nat.le_of_ble_eq_true rfl, Nat.le_of_ble_eq_true rfl⟩ (fun v u H locs hq hw => ?_)
  obtain ⟨r, rfl, hq⟩ := hq
  obtain ⟨rfl, -⟩ := hq.resolve_right (fun h => h.2 ⟨i, hi, rfl⟩)
  have hw : ww D cI _ _ s ([(a, .inr (2, [.int (nI v.1), .ref a1, .ref a2, .ref a3, .ref a4, .ref a5])), (a1, .inl (cI, 16, .inl v.2.1)), (a2, .inl (cI, 16, .inl v.2.2.1)), (a3, .inl (cI, 16, .inl v.2.2.2.1)), (a4, .inl (cI, 16, .inl v.2.2.2.2)), (a5, .inl (cI, 64, .inl fb))]) H locs := hw
  refine W.eq (g2 := F0 m 4 ls [.int (1)]) rfl ?_
  refine lv_if_eq (tgt := 16) hx hb dX2_baseOf_4 (by decide) (fun c_4 => absurd c_4 (by decide)) (fun c_4 => ?_)
  refine lv_aload_n hx hb dX2_baseOf_7 rfl (lv_at hl 0 rfl) ?_
  refine ww_get hx hb hts hin2 hown hw 0 rfl rfl 5 (by decide) k28 rfl dX2_baseOf_8 ?_
  refine lv_iload_n hx hb dX2_baseOf_11 rfl (lv_at hl 1 rfl) ?_
  refine ww_iald hx hb hw 5 rfl i rfl (by omega) (by omega) dX2_baseOf_12 ?_
  refine lv_goto (tgt := 17) hx hb dX2_baseOf_13 (by decide) ?_
  exact ww_iret (u := ()) hx hb hr hlk hw (rfl) (Nat.le_of_ble_eq_true rfl) (Nat.le_of_ble_eq_true rfl) dX2_baseOf_17
set_option maxHeartbeats 4000000 in
set_option maxRecDepth 100000 in
theorem cT_makeDirty (l : Launch) (D : va_G) (cI : ClassId) (a a1 a2 a3 a4 a5 : Nat) (v : TW) (fb : Nat → Int32) (i : Nat) (y : Int32) (hi : i < 64) : Kt l yX2_makeDirty wsX2_makeDirty 1 20 (0) (0) D cI [.ref a, .int (nI i), .int y] ([(a, .inr (2, [.int (nI v.1), .ref a1, .ref a2, .ref a3, .ref a4, .ref a5])), (a1, .inl (cI, 16, .inl v.2.1)), (a2, .inl (cI, 16, .inl v.2.2.1)), (a3, .inl (cI, 16, .inl v.2.2.2.1)), (a4, .inl (cI, 16, .inl v.2.2.2.2)), (a5, .inl (cI, 64, .inl fb))]) (pV (fun (u : Nat → Int32) => u = if fb i = 0 then upd fb i y else fb)) (fun (u : Nat → Int32) => [(a, .inr (2, [.int (nI v.1), .ref a1, .ref a2, .ref a3, .ref a4, .ref a5])), (a1, .inl (cI, 16, .inl v.2.1)), (a2, .inl (cI, 16, .inl v.2.2.1)), (a3, .inl (cI, 16, .inl v.2.2.2.1)), (a4, .inl (cI, 16, .inl v.2.2.2.2)), (a5, .inl (cI, 64, .inl u))]) := by
  refine kt_start (cc := cX2_makeDirty) (maxL := 3) (ret := none) (by decide +kernel) rfl (Nat.le_of_ble_eq_true rfl) ?_
  intro p e s m below meth c hx hb hml hr hlk hown hnm hts ls hl hw
  have hown : s.vm.findClass RX2 = some m.cls := hown
  have hl : lv_has ls 3 [(0, .ref a), (1, .int (nI i)), (2, .int y)] := hl
  have k28 := hts (.fieldLink RX2 28 "RestartBook$Tables" "bases" "[I") (by decide +kernel)
  have hin2 : ∀ w ∈ u_ws RX2 TX2 6, w ∈ wsX2_makeDirty := in_X2_makeDirty
  refine lv_iload_n hx hb dX2_makeDirty_0 rfl (lv_at hl 1 rfl) ?_
  refine ww_callS ([]) ([(a, .inr (2, [.int (nI v.1), .ref a1, .ref a2, .ref a3, .ref a4, .ref a5])), (a1, .inl (cI, 16, .inl v.2.1)), (a2, .inl (cI, 16, .inl v.2.2.1)), (a3, .inl (cI, 16, .inl v.2.2.2.1)), (a4, .inl (cI, 16, .inl v.2.2.2.2)), (a5, .inl (cI, 64, .inl fb))]) (As := [.int (nI i)]) (rest := []) ⟨hx, hb, hml, hown, hts⟩ (cP_hasPage l D cI (nI i)) gX2_makeDirty_X1_hasPage rfl hd_X1_hasPage ⟨Nat.le_of_ble_eq_true rfl, Nat.le_of_ble_eq_true rfl⟩ hw rfl rfl rfl hl.1 (Nat.le_of_ble_eq_true rfl) dX2_makeDirty_1 ⟨Nat.le_of_ble_eq_true rfl, Nat.le_of_ble_eq_true rfl⟩ (fun v u H locs hq hw => ?_)
  obtain ⟨r, rfl, hq⟩ := hq
  obtain ⟨rfl, -⟩ := hq.resolve_right (fun h => h.2 ⟨i, hi, rfl⟩)
  have hw : ww D cI _ _ s ([(a, .inr (2, [.int (nI v.1), .ref a1, .ref a2, .ref a3, .ref a4, .ref a5])), (a1, .inl (cI, 16, .inl v.2.1)), (a2, .inl (cI, 16, .inl v.2.2.1)), (a3, .inl (cI, 16, .inl v.2.2.2.1)), (a4, .inl (cI, 16, .inl v.2.2.2.2)), (a5, .inl (cI, 64, .inl fb))]) H locs := hw
  refine W.eq (g2 := F0 m 4 ls [.int (1)]) rfl ?_
  refine lv_if_eq (tgt := 23) hx hb dX2_makeDirty_4 (by decide) (fun c_4 => absurd c_4 (by decide)) (fun c_4 => ?_)
  refine lv_aload_n hx hb dX2_makeDirty_7 rfl (lv_at hl 0 rfl) ?_
  refine ww_get hx hb hts hin2 hown hw 0 rfl rfl 5 (by decide) k28 rfl dX2_makeDirty_8 ?_
  refine lv_iload_n hx hb dX2_makeDirty_11 rfl (lv_at hl 1 rfl) ?_
  refine ww_iald hx hb hw 5 rfl i rfl (by omega) (by omega) dX2_makeDirty_12 ?_
  refine lv_if_ne (tgt := 23) hx hb dX2_makeDirty_13 (by decide) (fun c_13 => ?_) (fun c_13 => ?_)
  · exact ww_vret (u := fb) hx hb hr hlk hw ((if_neg c_13).symm) (Nat.le_of_ble_eq_true rfl) (Nat.le_of_ble_eq_true rfl) rfl dX2_makeDirty_23
  · refine lv_aload_n hx hb dX2_makeDirty_16 rfl (lv_at hl 0 rfl) ?_
    refine ww_get hx hb hts hin2 hown hw 0 rfl rfl 5 (by decide) k28 rfl dX2_makeDirty_17 ?_
    refine lv_iload_n hx hb dX2_makeDirty_20 rfl (lv_at hl 1 rfl) ?_
    refine lv_iload_n hx hb dX2_makeDirty_21 rfl (lv_at hl 2 rfl) ?_
    refine ww_iast (ws' := [(a, .inr (2, [.int (nI v.1), .ref a1, .ref a2, .ref a3, .ref a4, .ref a5])), (a1, .inl (cI, 16, .inl v.2.1)), (a2, .inl (cI, 16, .inl v.2.2.1)), (a3, .inl (cI, 16, .inl v.2.2.2.1)), (a4, .inl (cI, 16, .inl v.2.2.2.2)), (a5, .inl (cI, 64, .inl (upd fb i y)))]) hx hb hw 5 rfl i rfl (by omega) (by omega) rfl dX2_makeDirty_22 (fun H locs hw => ?_)
    exact ww_vret (u := (upd fb i y)) hx hb hr hlk hw ((if_pos c_13).symm) (Nat.le_of_ble_eq_true rfl) (Nat.le_of_ble_eq_true rfl) rfl dX2_makeDirty_23
set_option maxHeartbeats 4000000 in
set_option maxRecDepth 100000 in
theorem cT_makeClean (l : Launch) (D : va_G) (cI : ClassId) (a a1 a2 a3 a4 a5 : Nat) (v : TW) (fb : Nat → Int32) (i : Nat) (hi : i < 64) : Kt l yX2_makeClean wsX2_makeClean 1 20 (0) (0) D cI [.ref a, .int (nI i)] ([(a, .inr (2, [.int (nI v.1), .ref a1, .ref a2, .ref a3, .ref a4, .ref a5])), (a1, .inl (cI, 16, .inl v.2.1)), (a2, .inl (cI, 16, .inl v.2.2.1)), (a3, .inl (cI, 16, .inl v.2.2.2.1)), (a4, .inl (cI, 16, .inl v.2.2.2.2)), (a5, .inl (cI, 64, .inl fb))]) (pV (fun (u : Unit) => True)) (fun (u : Unit) => [(a, .inr (2, [.int (nI v.1), .ref a1, .ref a2, .ref a3, .ref a4, .ref a5])), (a1, .inl (cI, 16, .inl v.2.1)), (a2, .inl (cI, 16, .inl v.2.2.1)), (a3, .inl (cI, 16, .inl v.2.2.2.1)), (a4, .inl (cI, 16, .inl v.2.2.2.2)), (a5, .inl (cI, 64, .inl (upd fb i (nI 0))))]) := by
  refine kt_start (cc := cX2_makeClean) (maxL := 2) (ret := none) (by decide +kernel) rfl (Nat.le_of_ble_eq_true rfl) ?_
  intro p e s m below meth c hx hb hml hr hlk hown hnm hts ls hl hw
  have hown : s.vm.findClass RX2 = some m.cls := hown
  have hl : lv_has ls 2 [(0, .ref a), (1, .int (nI i))] := hl
  have k28 := hts (.fieldLink RX2 28 "RestartBook$Tables" "bases" "[I") (by decide +kernel)
  have hin2 : ∀ w ∈ u_ws RX2 TX2 6, w ∈ wsX2_makeClean := in_X2_makeClean
  refine lv_iload_n hx hb dX2_makeClean_0 rfl (lv_at hl 1 rfl) ?_
  refine ww_callS ([]) ([(a, .inr (2, [.int (nI v.1), .ref a1, .ref a2, .ref a3, .ref a4, .ref a5])), (a1, .inl (cI, 16, .inl v.2.1)), (a2, .inl (cI, 16, .inl v.2.2.1)), (a3, .inl (cI, 16, .inl v.2.2.2.1)), (a4, .inl (cI, 16, .inl v.2.2.2.2)), (a5, .inl (cI, 64, .inl fb))]) (As := [.int (nI i)]) (rest := []) ⟨hx, hb, hml, hown, hts⟩ (cP_hasPage l D cI (nI i)) gX2_makeClean_X1_hasPage rfl hd_X1_hasPage ⟨Nat.le_of_ble_eq_true rfl, Nat.le_of_ble_eq_true rfl⟩ hw rfl rfl rfl hl.1 (Nat.le_of_ble_eq_true rfl) dX2_makeClean_1 ⟨Nat.le_of_ble_eq_true rfl, Nat.le_of_ble_eq_true rfl⟩ (fun v u H locs hq hw => ?_)
  obtain ⟨r, rfl, hq⟩ := hq
  obtain ⟨rfl, -⟩ := hq.resolve_right (fun h => h.2 ⟨i, hi, rfl⟩)
  have hw : ww D cI _ _ s ([(a, .inr (2, [.int (nI v.1), .ref a1, .ref a2, .ref a3, .ref a4, .ref a5])), (a1, .inl (cI, 16, .inl v.2.1)), (a2, .inl (cI, 16, .inl v.2.2.1)), (a3, .inl (cI, 16, .inl v.2.2.2.1)), (a4, .inl (cI, 16, .inl v.2.2.2.2)), (a5, .inl (cI, 64, .inl fb))]) H locs := hw
  refine W.eq (g2 := F0 m 4 ls [.int (1)]) rfl ?_
  refine lv_if_eq (tgt := 14) hx hb dX2_makeClean_4 (by decide) (fun c_4 => absurd c_4 (by decide)) (fun c_4 => ?_)
  refine lv_aload_n hx hb dX2_makeClean_7 rfl (lv_at hl 0 rfl) ?_
  refine ww_get hx hb hts hin2 hown hw 0 rfl rfl 5 (by decide) k28 rfl dX2_makeClean_8 ?_
  refine lv_iload_n hx hb dX2_makeClean_11 rfl (lv_at hl 1 rfl) ?_
  refine lv_iconst (v := nI 0) hx hb dX2_makeClean_12 (by decide +kernel) ?_
  refine ww_iast (ws' := [(a, .inr (2, [.int (nI v.1), .ref a1, .ref a2, .ref a3, .ref a4, .ref a5])), (a1, .inl (cI, 16, .inl v.2.1)), (a2, .inl (cI, 16, .inl v.2.2.1)), (a3, .inl (cI, 16, .inl v.2.2.2.1)), (a4, .inl (cI, 16, .inl v.2.2.2.2)), (a5, .inl (cI, 64, .inl (upd fb i (nI 0))))]) hx hb hw 5 rfl i rfl (by omega) (by omega) rfl dX2_makeClean_13 (fun H locs hw => ?_)
  exact ww_vret (u := ()) hx hb hr hlk hw (trivial) (Nat.le_of_ble_eq_true rfl) (Nat.le_of_ble_eq_true rfl) rfl dX2_makeClean_14
theorem lbD_lt {fb : Nat → Int32} {base : Nat → Nat} (h : BR fb base) : ∀ m, m ≤ 64 → lbD base m < 2 ^ 31 := by
  intro m
  induction m with
  | zero => intro _; show 0 < 2 ^ 31; omega
  | succ m ih =>
    intro hm
    simp only [lbD]
    split
    · exact (h m (by omega)).2
    · exact ih (by omega)
set_option maxHeartbeats 4000000 in
set_option maxRecDepth 100000 in
theorem cT_leastBase (l : Launch) (D : va_G) (cI : ClassId) (a a1 a2 a3 a4 a5 : Nat) (v : TW) (fb : Nat → Int32) (base : Nat → Nat) (hbr : BR fb base) : Kt l yX2_leastBase wsX2_leastBase 0 0 (0) (0) D cI [.ref a] ([(a, .inr (2, [.int (nI v.1), .ref a1, .ref a2, .ref a3, .ref a4, .ref a5])), (a1, .inl (cI, 16, .inl v.2.1)), (a2, .inl (cI, 16, .inl v.2.2.1)), (a3, .inl (cI, 16, .inl v.2.2.2.1)), (a4, .inl (cI, 16, .inl v.2.2.2.2)), (a5, .inl (cI, 64, .inl fb))]) (pI (fun (r : Int32) (u : Unit) => r = nI (lbD base 64))) (fun (u : Unit) => [(a, .inr (2, [.int (nI v.1), .ref a1, .ref a2, .ref a3, .ref a4, .ref a5])), (a1, .inl (cI, 16, .inl v.2.1)), (a2, .inl (cI, 16, .inl v.2.2.1)), (a3, .inl (cI, 16, .inl v.2.2.2.1)), (a4, .inl (cI, 16, .inl v.2.2.2.2)), (a5, .inl (cI, 64, .inl fb))]) := by
  refine kt_start (cc := cX2_leastBase) (maxL := 3) (ret := (some .int)) (by decide +kernel) rfl (Nat.le_of_ble_eq_true rfl) ?_
  intro p e s m below meth c hx hb hml hr hlk hown hnm hts ls hl hw
  have hown : s.vm.findClass RX2 = some m.cls := hown
  have hl : lv_has ls 3 [(0, .ref a)] := hl
  have k28 := hts (.fieldLink RX2 28 "RestartBook$Tables" "bases" "[I") (by decide +kernel)
  have hin2 : ∀ w ∈ u_ws RX2 TX2 6, w ∈ wsX2_leastBase := in_X2_leastBase
  refine lv_iconst (v := nI 0) hx hb dX2_leastBase_0 (by decide +kernel) ?_
  refine lv_istore_n (lv' := [(1, .int (nI 0)), (0, .ref a)]) hx hb dX2_leastBase_1 rfl hl (by decide) rfl (fun ls hl => ?_)
  refine lv_iconst (v := nI 0) hx hb dX2_leastBase_2 (by decide +kernel) ?_
  refine lv_istore_n (lv' := [(2, .int (nI 0)), (1, .int (nI 0)), (0, .ref a)]) hx hb dX2_leastBase_3 rfl hl (by decide) rfl (fun ls hl => ?_)
  have lp : ∀ (t : Nat) (q : Nat) (z : Nat) (H : Heap) (locs : List Loc) (ls : Array Slot), 64 - q < t → (q ≤ 64) → (z = lbD base q) → ww D cI (va_A ([(a, .inr (2, [.int (nI v.1), .ref a1, .ref a2, .ref a3, .ref a4, .ref a5])), (a1, .inl (cI, 16, .inl v.2.1)), (a2, .inl (cI, 16, .inl v.2.2.1)), (a3, .inl (cI, 16, .inl v.2.2.2.1)), (a4, .inl (cI, 16, .inl v.2.2.2.2)), (a5, .inl (cI, 64, .inl fb))]) s.heap.size) s.heap s ([(a, .inr (2, [.int (nI v.1), .ref a1, .ref a2, .ref a3, .ref a4, .ref a5])), (a1, .inl (cI, 16, .inl v.2.1)), (a2, .inl (cI, 16, .inl v.2.2.1)), (a3, .inl (cI, 16, .inl v.2.2.2.1)), (a4, .inl (cI, 16, .inl v.2.2.2.2)), (a5, .inl (cI, 64, .inl fb))]) H locs → lv_has ls 3 [(2, .int (nI q)), (1, .int (nI z)), (0, .ref a)] → W p l e { frames := 0, cells := 0, slots := 0, locals := 0 } s m [.ref a].toArray below meth c H locs (0) (0) (MQ below (kQ D cI ([(a, .inr (2, [.int (nI v.1), .ref a1, .ref a2, .ref a3, .ref a4, .ref a5])), (a1, .inl (cI, 16, .inl v.2.1)), (a2, .inl (cI, 16, .inl v.2.2.1)), (a3, .inl (cI, 16, .inl v.2.2.2.1)), (a4, .inl (cI, 16, .inl v.2.2.2.2)), (a5, .inl (cI, 64, .inl fb))]) s.heap.size (pI (fun (r : Int32) (u : Unit) => r = nI (lbD base 64))) (fun (u : Unit) => [(a, .inr (2, [.int (nI v.1), .ref a1, .ref a2, .ref a3, .ref a4, .ref a5])), (a1, .inl (cI, 16, .inl v.2.1)), (a2, .inl (cI, 16, .inl v.2.2.1)), (a3, .inl (cI, 16, .inl v.2.2.2.1)), (a4, .inl (cI, 16, .inl v.2.2.2.2)), (a5, .inl (cI, 64, .inl fb))])) [.ref a].toArray s (0) (0) (va_A ([(a, .inr (2, [.int (nI v.1), .ref a1, .ref a2, .ref a3, .ref a4, .ref a5])), (a1, .inl (cI, 16, .inl v.2.1)), (a2, .inl (cI, 16, .inl v.2.2.1)), (a3, .inl (cI, 16, .inl v.2.2.2.1)), (a4, .inl (cI, 16, .inl v.2.2.2.2)), (a5, .inl (cI, 64, .inl fb))]) s.heap.size)) (F0 m 4 ls []) := by
    intro t
    induction t with
    | zero => intro q z H locs ls ht; exact absurd ht (Nat.not_lt_zero _)
    | succ t ih_4 =>
      intro q z H locs ls ht hq0 hz hw hl
      refine lv_iload_n hx hb dX2_leastBase_4 rfl (lv_at hl 0 rfl) ?_
      refine lv_aload_n hx hb dX2_leastBase_5 rfl (lv_at hl 2 rfl) ?_
      refine ww_get hx hb hts hin2 hown hw 0 rfl rfl 5 (by decide) k28 rfl dX2_leastBase_6 ?_
      refine ww_alen hx hb hw 5 rfl dX2_leastBase_9 ?_
      refine lv_icmp_ge (tgt := 49) hx hb dX2_leastBase_10 (by decide) (fun c_10 => ?_) (fun c_10 => ?_)
      · refine lv_iload_n hx hb dX2_leastBase_49 rfl (lv_at hl 1 rfl) ?_
        exact ww_iret (u := ()) hx hb hr hlk hw (by rw [hz, show q = 64 by simp (disch := omega) only [i_le, nI_toInt] at c_10; omega]) (Nat.le_of_ble_eq_true rfl) (Nat.le_of_ble_eq_true rfl) dX2_leastBase_50
      · have hq : q < 64 := by simp (disch := omega) only [i_le, nI_toInt] at c_10; omega
        have hbq := (hbr q hq).2
        have hzl : z < 2 ^ 31 := by rw [hz]; exact lbD_lt hbr q (by omega)
        refine lv_aload_n hx hb dX2_leastBase_13 rfl (lv_at hl 2 rfl) ?_
        refine ww_get hx hb hts hin2 hown hw 0 rfl rfl 5 (by decide) k28 rfl dX2_leastBase_14 ?_
        refine lv_iload_n hx hb dX2_leastBase_17 rfl (lv_at hl 0 rfl) ?_
        refine ww_iald hx hb hw 5 rfl q rfl (by omega) (by omega) dX2_leastBase_18 ?_
        refine lv_eqi (show _ = nI (base q) from (hbr q hq).1) ?_
        refine lv_if_eq (tgt := 43) hx hb dX2_leastBase_19 (by decide) (fun c_19 => ?_) (fun c_19 => ?_)
        · refine lv_iinc (v := nI (q + 1)) (lv' := [(2, .int (nI (q + 1))), (1, .int (nI z)), (0, .ref a)]) hx hb dX2_leastBase_43 hl (k := 0) rfl (nI_add _ _) (by decide) rfl (fun ls hl => ?_)
          refine lv_goto (tgt := 4) hx hb dX2_leastBase_46 (by decide) ?_
          exact ih_4 (q + 1) z _ _ _ (by omega) (by omega) (by rw [hz]; exact (if_neg (fun k => by first | exact k.1 ((nI_eq (by omega) (by omega)).mp (by rw [nI_0]; exact c_19)) | (rcases k.2 with k2 | k2; exact c_23 (by rw [hz, k2, nI_0]); rw [nI_leI (by omega) (by omega)] at c_33; omega))).symm) hw (lv_sub hl [0, 1, 2] rfl)
        · refine lv_iload_n hx hb dX2_leastBase_22 rfl (lv_at hl 1 rfl) ?_
          refine lv_if_eq (tgt := 36) hx hb dX2_leastBase_23 (by decide) (fun c_23 => ?_) (fun c_23 => ?_)
          · refine lv_aload_n hx hb dX2_leastBase_36 rfl (lv_at hl 2 rfl) ?_
            refine ww_get hx hb hts hin2 hown hw 0 rfl rfl 5 (by decide) k28 rfl dX2_leastBase_37 ?_
            refine lv_iload_n hx hb dX2_leastBase_40 rfl (lv_at hl 0 rfl) ?_
            refine ww_iald hx hb hw 5 rfl q rfl (by omega) (by omega) dX2_leastBase_41 ?_
            refine lv_eqi (show _ = nI (base q) from (hbr q hq).1) ?_
            refine lv_istore_n (lv' := [(1, .int (nI (base q))), (2, .int (nI q)), (0, .ref a)]) hx hb dX2_leastBase_42 rfl hl (by decide) rfl (fun ls hl => ?_)
            refine lv_iinc (v := nI (q + 1)) (lv' := [(2, .int (nI (q + 1))), (1, .int (nI (base q))), (0, .ref a)]) hx hb dX2_leastBase_43 hl (k := 1) rfl (nI_add _ _) (by decide) rfl (fun ls hl => ?_)
            refine lv_goto (tgt := 4) hx hb dX2_leastBase_46 (by decide) ?_
            exact ih_4 (q + 1) (base q) _ _ _ (by omega) (by omega) ((if_pos ⟨fun k => c_19 (by rw [k, nI_0]), by first | exact Or.inl (hz ▸ ((nI_eq (by omega) (by omega)).mp (by rw [nI_0]; exact c_23))) | exact Or.inr (by rw [nI_leI (by omega) (by omega)] at c_33; omega)⟩).symm) hw (lv_sub hl [0, 1, 2] rfl)
          · refine lv_aload_n hx hb dX2_leastBase_26 rfl (lv_at hl 2 rfl) ?_
            refine ww_get hx hb hts hin2 hown hw 0 rfl rfl 5 (by decide) k28 rfl dX2_leastBase_27 ?_
            refine lv_iload_n hx hb dX2_leastBase_30 rfl (lv_at hl 0 rfl) ?_
            refine ww_iald hx hb hw 5 rfl q rfl (by omega) (by omega) dX2_leastBase_31 ?_
            refine lv_eqi (show _ = nI (base q) from (hbr q hq).1) ?_
            refine lv_iload_n hx hb dX2_leastBase_32 rfl (lv_at hl 1 rfl) ?_
            refine lv_icmp_ge (tgt := 43) hx hb dX2_leastBase_33 (by decide) (fun c_33 => ?_) (fun c_33 => ?_)
            · refine lv_iinc (v := nI (q + 1)) (lv' := [(2, .int (nI (q + 1))), (1, .int (nI z)), (0, .ref a)]) hx hb dX2_leastBase_43 hl (k := 0) rfl (nI_add _ _) (by decide) rfl (fun ls hl => ?_)
              refine lv_goto (tgt := 4) hx hb dX2_leastBase_46 (by decide) ?_
              exact ih_4 (q + 1) z _ _ _ (by omega) (by omega) (by rw [hz]; exact (if_neg (fun k => by first | exact k.1 ((nI_eq (by omega) (by omega)).mp (by rw [nI_0]; exact c_19)) | (rcases k.2 with k2 | k2; exact c_23 (by rw [hz, k2, nI_0]); rw [nI_leI (by omega) (by omega)] at c_33; omega))).symm) hw (lv_sub hl [0, 1, 2] rfl)
            · refine lv_aload_n hx hb dX2_leastBase_36 rfl (lv_at hl 2 rfl) ?_
              refine ww_get hx hb hts hin2 hown hw 0 rfl rfl 5 (by decide) k28 rfl dX2_leastBase_37 ?_
              refine lv_iload_n hx hb dX2_leastBase_40 rfl (lv_at hl 0 rfl) ?_
              refine ww_iald hx hb hw 5 rfl q rfl (by omega) (by omega) dX2_leastBase_41 ?_
              refine lv_eqi (show _ = nI (base q) from (hbr q hq).1) ?_
              refine lv_istore_n (lv' := [(1, .int (nI (base q))), (2, .int (nI q)), (0, .ref a)]) hx hb dX2_leastBase_42 rfl hl (by decide) rfl (fun ls hl => ?_)
              refine lv_iinc (v := nI (q + 1)) (lv' := [(2, .int (nI (q + 1))), (1, .int (nI (base q))), (0, .ref a)]) hx hb dX2_leastBase_43 hl (k := 1) rfl (nI_add _ _) (by decide) rfl (fun ls hl => ?_)
              refine lv_goto (tgt := 4) hx hb dX2_leastBase_46 (by decide) ?_
              exact ih_4 (q + 1) (base q) _ _ _ (by omega) (by omega) ((if_pos ⟨fun k => c_19 (by rw [k, nI_0]), by first | exact Or.inl (hz ▸ ((nI_eq (by omega) (by omega)).mp (by rw [nI_0]; exact c_23))) | exact Or.inr (by rw [nI_leI (by omega) (by omega)] at c_33; omega)⟩).symm) hw (lv_sub hl [0, 1, 2] rfl)
  exact lp ((64 - (0)) + 1) 0 0 _ _ _ (Nat.lt_succ_self _) (Nat.zero_le _) rfl hw (lv_sub hl [0, 1, 2] rfl)
set_option maxHeartbeats 4000000 in
set_option maxRecDepth 100000 in
theorem cJ_fill (l : Launch) (D : va_G) (cI : ClassId) (b n : Nat) (f : Nat → Int32) (x : Int32) (hn : n < 2 ^ 31) : Kt l yJ7_fill_53178 wsJ7_fill_53178 0 0 (0) (0) D cI [.ref b, .int x] ([(b, .inl (cI, n, .inl f))]) (pV (fun (u : Nat → Int32) => ∀ j, j < n → u j = x)) (fun (u : Nat → Int32) => [(b, .inl (cI, n, .inl u))]) := by
  refine kt_start (cc := cJ7_fill_53178) (maxL := 4) (ret := none) (by decide +kernel) rfl (Nat.le_of_ble_eq_true rfl) ?_
  intro p e s m below meth c hx hb hml hr hlk hown hnm hts ls hl hw
  have hown : s.vm.findClass RJ7 = some m.cls := hown
  have hl : lv_has ls 4 [(0, .ref b), (1, .int x)] := hl
  refine lv_iconst (v := nI 0) hx hb dJ7_fill_53178_0 (by decide +kernel) ?_
  refine lv_istore_n (lv' := [(2, .int (nI 0)), (0, .ref b), (1, .int x)]) hx hb dJ7_fill_53178_1 rfl hl (by decide) rfl (fun ls hl => ?_)
  refine lv_aload_n hx hb dJ7_fill_53178_2 rfl (lv_at hl 1 rfl) ?_
  refine ww_alen hx hb hw 0 rfl dJ7_fill_53178_3 ?_
  refine lv_istore_n (lv' := [(3, .int (nI n)), (2, .int (nI 0)), (0, .ref b), (1, .int x)]) hx hb dJ7_fill_53178_4 rfl hl (by decide) rfl (fun ls hl => ?_)
  have lp : ∀ (t : Nat) (i : Nat) (g : Nat → Int32) (H : Heap) (locs : List Loc) (ls : Array Slot), n - i < t → (i ≤ n) → (∀ j, j < i → g j = x) → ww D cI (va_A ([(b, .inl (cI, n, .inl f))]) s.heap.size) s.heap s ([(b, .inl (cI, n, .inl g))]) H locs → lv_has ls 4 [(2, .int (nI i)), (3, .int (nI n)), (0, .ref b), (1, .int x)] → W p l e { frames := 0, cells := 0, slots := 0, locals := 0 } s m [.ref b, .int x].toArray below meth c H locs (0) (0) (MQ below (kQ D cI ([(b, .inl (cI, n, .inl f))]) s.heap.size (pV (fun (u : Nat → Int32) => ∀ j, j < n → u j = x)) (fun (u : Nat → Int32) => [(b, .inl (cI, n, .inl u))])) [.ref b, .int x].toArray s (0) (0) (va_A ([(b, .inl (cI, n, .inl f))]) s.heap.size)) (F0 m 5 ls []) := by
    intro t
    induction t with
    | zero => intro i g H locs ls ht; exact absurd ht (Nat.not_lt_zero _)
    | succ t ih_5 =>
      intro i g H locs ls ht hi0 hf hw hl
      refine lv_iload_n hx hb dJ7_fill_53178_5 rfl (lv_at hl 0 rfl) ?_
      refine lv_iload_n hx hb dJ7_fill_53178_6 rfl (lv_at hl 1 rfl) ?_
      refine lv_icmp_ge (tgt := 20) hx hb dJ7_fill_53178_7 (by decide) (fun c_7 => ?_) (fun c_7 => ?_)
      · exact ww_vret (u := g) hx hb hr hlk hw (fun j hj => hf j (by simp (disch := omega) only [i_le, nI_toInt] at c_7; omega)) (Nat.le_of_ble_eq_true rfl) (Nat.le_of_ble_eq_true rfl) rfl dJ7_fill_53178_20
      · have hi : i < n := by simp (disch := omega) only [i_le, nI_toInt] at c_7; omega
        refine lv_aload_n hx hb dJ7_fill_53178_10 rfl (lv_at hl 2 rfl) ?_
        refine lv_iload_n hx hb dJ7_fill_53178_11 rfl (lv_at hl 0 rfl) ?_
        refine lv_iload_n hx hb dJ7_fill_53178_12 rfl (lv_at hl 3 rfl) ?_
        refine ww_iast (ws' := [(b, .inl (cI, n, .inl (upd g i x)))]) hx hb hw 0 rfl i rfl (by omega) (by omega) rfl dJ7_fill_53178_13 (fun H locs hw => ?_)
        refine lv_iinc (v := nI (i + 1)) (lv' := [(2, .int (nI (i + 1))), (3, .int (nI n)), (0, .ref b), (1, .int x)]) hx hb dJ7_fill_53178_14 hl (k := 0) rfl (nI_add _ _) (by decide) rfl (fun ls hl => ?_)
        refine lv_goto (tgt := 5) hx hb dJ7_fill_53178_17 (by decide) ?_
        exact ih_5 (i + 1) (upd g i x) _ _ _ (by omega) (by omega) (fun j hj => by by_cases e : j = i; (rw [e]; simp [upd]); (simp only [upd, if_neg e]; exact hf j (by omega))) hw (lv_sub hl [0, 1, 2, 3] rfl)
  exact lp ((n - (0)) + 1) 0 f _ _ _ (Nat.lt_succ_self _) (Nat.zero_le _) (fun j hj => absurd hj (Nat.not_lt_zero _)) hw (lv_sub hl [1, 0, 2, 3] rfl)
set_option maxHeartbeats 4000000 in
set_option maxRecDepth 100000 in
theorem cT_makeEmpty (l : Launch) (D : va_G) (cI : ClassId) (a a1 a2 a3 a4 a5 : Nat) (v : TW) (fb : Nat → Int32) : Kt l yX2_makeEmpty wsX2_makeEmpty 1 23 (0) (0) D cI [.ref a] ([(a, .inr (2, [.int (nI v.1), .ref a1, .ref a2, .ref a3, .ref a4, .ref a5])), (a1, .inl (cI, 16, .inl v.2.1)), (a2, .inl (cI, 16, .inl v.2.2.1)), (a3, .inl (cI, 16, .inl v.2.2.2.1)), (a4, .inl (cI, 16, .inl v.2.2.2.2)), (a5, .inl (cI, 64, .inl fb))]) (pV (fun (u : Nat → Int32) => ∀ p, p < 64 → u p = nI 0)) (fun (u : Nat → Int32) => [(a, .inr (2, [.int (nI 0), .ref a1, .ref a2, .ref a3, .ref a4, .ref a5])), (a1, .inl (cI, 16, .inl v.2.1)), (a2, .inl (cI, 16, .inl v.2.2.1)), (a3, .inl (cI, 16, .inl v.2.2.2.1)), (a4, .inl (cI, 16, .inl v.2.2.2.2)), (a5, .inl (cI, 64, .inl u))]) := by
  refine kt_start (cc := cX2_makeEmpty) (maxL := 1) (ret := none) (by decide +kernel) rfl (Nat.le_of_ble_eq_true rfl) ?_
  intro p e s m below meth c hx hb hml hr hlk hown hnm hts ls hl hw
  have hown : s.vm.findClass RX2 = some m.cls := hown
  have hl : lv_has ls 1 [(0, .ref a)] := hl
  have k7 := hts (.fieldLink RX2 7 "RestartBook$Tables" "size" "I") (by decide +kernel)
  have k28 := hts (.fieldLink RX2 28 "RestartBook$Tables" "bases" "[I") (by decide +kernel)
  have hin2 : ∀ w ∈ u_ws RX2 TX2 6, w ∈ wsX2_makeEmpty := in_X2_makeEmpty
  refine lv_aload_n hx hb dX2_makeEmpty_0 rfl (lv_at hl 0 rfl) ?_
  refine lv_iconst (v := nI 0) hx hb dX2_makeEmpty_1 (by decide +kernel) ?_
  refine ww_put (ws' := [(a, .inr (2, [.int (nI 0), .ref a1, .ref a2, .ref a3, .ref a4, .ref a5])), (a1, .inl (cI, 16, .inl v.2.1)), (a2, .inl (cI, 16, .inl v.2.2.1)), (a3, .inl (cI, 16, .inl v.2.2.2.1)), (a4, .inl (cI, 16, .inl v.2.2.2.2)), (a5, .inl (cI, 64, .inl fb))]) hx hb hts hin2 tyX2 tyX2_ok nmX2 hown hw 0 rfl rfl 0 (by decide) k7 rfl rfl rfl (Nat.le_of_ble_eq_true rfl) rfl dX2_makeEmpty_2 (fun H locs hw => ?_)
  refine lv_aload_n hx hb dX2_makeEmpty_5 rfl (lv_at hl 0 rfl) ?_
  refine ww_get hx hb hts hin2 hown hw 0 rfl rfl 5 (by decide) k28 rfl dX2_makeEmpty_6 ?_
  refine lv_iconst (v := nI 0) hx hb dX2_makeEmpty_9 (by decide +kernel) ?_
  refine ww_callS ([(a, .inr (2, [.int (nI 0), .ref a1, .ref a2, .ref a3, .ref a4, .ref a5])), (a1, .inl (cI, 16, .inl v.2.1)), (a2, .inl (cI, 16, .inl v.2.2.1)), (a3, .inl (cI, 16, .inl v.2.2.2.1)), (a4, .inl (cI, 16, .inl v.2.2.2.2))]) ([]) (As := [.ref a5, .int (nI 0)]) (rest := []) ⟨hx, hb, hml, hown, hts⟩ (cJ_fill l D cI a5 64 fb (nI 0) (by omega)) gX2_makeEmpty_J7_fill_53178 rfl hd_J7_fill_53178 ⟨Nat.le_of_ble_eq_true rfl, Nat.le_of_ble_eq_true rfl⟩ hw rfl rfl rfl hl.1 (Nat.le_of_ble_eq_true rfl) dX2_makeEmpty_10 ⟨Nat.le_of_ble_eq_true rfl, Nat.le_of_ble_eq_true rfl⟩ (fun v2 u H locs hq hw => ?_)
  obtain ⟨rfl, hq⟩ := hq
  have hw : ww D cI _ _ s ([(a, .inr (2, [.int (nI 0), .ref a1, .ref a2, .ref a3, .ref a4, .ref a5])), (a1, .inl (cI, 16, .inl v.2.1)), (a2, .inl (cI, 16, .inl v.2.2.1)), (a3, .inl (cI, 16, .inl v.2.2.2.1)), (a4, .inl (cI, 16, .inl v.2.2.2.2)), (a5, .inl (cI, 64, .inl u))]) H locs := hw
  refine W.eq (g2 := F0 m 13 ls []) rfl ?_
  exact ww_vret (u := u) hx hb hr hlk hw (hq) (Nat.le_of_ble_eq_true rfl) (Nat.le_of_ble_eq_true rfl) rfl dX2_makeEmpty_13
end
section
/-! RestartBook.Tables: one table into another; the constructor -/
theorem TR_ext {v : TW} {F T : TF} (h : TR v F) (h1 : ∀ w, (F w).1 ≠ 0 → F w = T w) (h2 : ∀ w, (F w).1 = 0 → (T w).1 = 0) : TR v T := by
  obtain ⟨g0, wl, g1, g2, g3⟩ := h
  refine ⟨g0, wl, fun i hi => ?_, g2, fun w hw => g3 w (fun q => hw (h2 w q))⟩
  have := g1 i hi
  rw [h1 _ this.2.2.2] at this
  exact this
theorem TR_inj {v : TW} {T : TF} (h : TR v T) {i j : Nat} (hi : i < v.1) (hj : j < v.1) (he : v.2.1 i = v.2.1 j) : i = j := by
  obtain ⟨-, wl, g1, g2, -⟩ := h
  have e : wl i = wl j := (nI_eq (by have := (g1 i hi).2.2.1; omega) (by have := (g1 j hj).2.2.1; omega)).mp ((g1 i hi).1.1.symm.trans (he.trans (g1 j hj).1.1))
  rcases Nat.lt_trichotomy i j with q | q | q
  · have := g2 i j q hj; omega
  · exact q
  · have := g2 j i q hi; omega
theorem TR_0 {v : TW} (h : v.1 = 0) : TR v (fun _ => (0, 0, 0)) := ⟨by omega, fun _ => 0, fun i hi => absurd hi (by omega), fun i j _ hj => absurd hj (by omega), fun w hw => absurd rfl hw⟩
theorem up4 (F : TF) (w : Nat) (x : Nat × Nat × Nat) (y : Nat × Nat × Nat → Nat × Nat × Nat) : va_up (va_up F w x) w (y (va_up F w x w)) = va_up F w (y x) := by
  funext k
  by_cases e : k = w <;> simp [va_up, e]
theorem nI_200 {v : TW} {T : TF} (h : TR v T) {i w w2 : Nat} (hi : i < v.1) (h2 : v.2.1 i = nI w2) (h1 : v.2.1 i = nI w) (hw : w ≤ 200) (hwb : w2 < 2 ^ 31 := by omega) : w2 = w := (nI_eq hwb (by omega)).mp (h2.symm.trans h1)
set_option maxHeartbeats 4000000 in
set_option maxRecDepth 100000 in
theorem cT_bringInMissing (l : Launch) (D : va_G) (cI : ClassId) (a a1 a2 a3 a4 a5 b b1 b2 b3 b4 b5 : Nat) (v o : TW) (fb ob : Nat → Int32) (T : TF) (h : TR o T) (hb2 : TB T) (hv0 : v.1 = 0) (hfb : ∀ p, p < 64 → fb p = nI 0) : Kt l yX2_bringInMissing wsX2_bringInMissing 2 45 (0) (0) D cI [.ref a, .ref b] ([(a, .inr (2, [.int (nI v.1), .ref a1, .ref a2, .ref a3, .ref a4, .ref a5])), (a1, .inl (cI, 16, .inl v.2.1)), (a2, .inl (cI, 16, .inl v.2.2.1)), (a3, .inl (cI, 16, .inl v.2.2.2.1)), (a4, .inl (cI, 16, .inl v.2.2.2.2)), (a5, .inl (cI, 64, .inl fb)), (b, .inr (2, [.int (nI o.1), .ref b1, .ref b2, .ref b3, .ref b4, .ref b5])), (b1, .inl (cI, 16, .inl o.2.1)), (b2, .inl (cI, 16, .inl o.2.2.1)), (b3, .inl (cI, 16, .inl o.2.2.2.1)), (b4, .inl (cI, 16, .inl o.2.2.2.2)), (b5, .inl (cI, 64, .inl ob))]) (pV (fun (u : TW × (Nat → Int32)) => TR u.1 T ∧ ∀ p, p < 64 → u.2 p = ob p)) (fun (u : TW × (Nat → Int32)) => [(a, .inr (2, [.int (nI u.1.1), .ref a1, .ref a2, .ref a3, .ref a4, .ref a5])), (a1, .inl (cI, 16, .inl u.1.2.1)), (a2, .inl (cI, 16, .inl u.1.2.2.1)), (a3, .inl (cI, 16, .inl u.1.2.2.2.1)), (a4, .inl (cI, 16, .inl u.1.2.2.2.2)), (a5, .inl (cI, 64, .inl u.2)), (b, .inr (2, [.int (nI o.1), .ref b1, .ref b2, .ref b3, .ref b4, .ref b5])), (b1, .inl (cI, 16, .inl o.2.1)), (b2, .inl (cI, 16, .inl o.2.2.1)), (b3, .inl (cI, 16, .inl o.2.2.2.1)), (b4, .inl (cI, 16, .inl o.2.2.2.2)), (b5, .inl (cI, 64, .inl ob))]) := by
  refine kt_start (cc := cX2_bringInMissing) (maxL := 4) (ret := none) (by decide +kernel) rfl (Nat.le_of_ble_eq_true rfl) ?_
  intro p e s m below meth c hx hb hml hr hlk hown hnm hts ls hl hw
  have hown : s.vm.findClass RX2 = some m.cls := hown
  have hl : lv_has ls 4 [(0, .ref a), (1, .ref b)] := hl
  have k7 := hts (.fieldLink RX2 7 "RestartBook$Tables" "size" "I") (by decide +kernel)
  have k13 := hts (.fieldLink RX2 13 "RestartBook$Tables" "works" "[I") (by decide +kernel)
  have k17 := hts (.fieldLink RX2 17 "RestartBook$Tables" "states" "[I") (by decide +kernel)
  have k20 := hts (.fieldLink RX2 20 "RestartBook$Tables" "lasts" "[I") (by decide +kernel)
  have k23 := hts (.fieldLink RX2 23 "RestartBook$Tables" "nexts" "[I") (by decide +kernel)
  have k28 := hts (.fieldLink RX2 28 "RestartBook$Tables" "bases" "[I") (by decide +kernel)
  have hin2 : ∀ w ∈ u_ws RX2 TX2 6, w ∈ wsX2_bringInMissing := in_X2_bringInMissing
  have ho16 := TR_le h
  refine lv_aload_n hx hb dX2_bringInMissing_0 rfl (lv_at hl 1 rfl) ?_
  refine lv_ifnonnull (tgt := 5) hx hb dX2_bringInMissing_1 (by decide) ?_
  refine lv_iconst (v := nI 0) hx hb dX2_bringInMissing_5 (by decide +kernel) ?_
  refine lv_istore_n (lv' := [(2, .int (nI 0)), (0, .ref a), (1, .ref b)]) hx hb dX2_bringInMissing_6 rfl hl (by decide) rfl (fun ls hl => ?_)
  have lp : ∀ (t : Nat) (i : Nat) (g : TW) (F : TF) (H : Heap) (locs : List Loc) (ls : Array Slot), o.1 - i < t → (i ≤ o.1) → (g.1 = i) → (TR g F) → (∀ j, j < i → ∀ w, w ≤ 200 → o.2.1 j = nI w → F w = T w) → (∀ w, (∀ j, j < i → o.2.1 j ≠ nI w) → (F w).1 = 0) → ww D cI (va_A ([(a, .inr (2, [.int (nI v.1), .ref a1, .ref a2, .ref a3, .ref a4, .ref a5])), (a1, .inl (cI, 16, .inl v.2.1)), (a2, .inl (cI, 16, .inl v.2.2.1)), (a3, .inl (cI, 16, .inl v.2.2.2.1)), (a4, .inl (cI, 16, .inl v.2.2.2.2)), (a5, .inl (cI, 64, .inl fb)), (b, .inr (2, [.int (nI o.1), .ref b1, .ref b2, .ref b3, .ref b4, .ref b5])), (b1, .inl (cI, 16, .inl o.2.1)), (b2, .inl (cI, 16, .inl o.2.2.1)), (b3, .inl (cI, 16, .inl o.2.2.2.1)), (b4, .inl (cI, 16, .inl o.2.2.2.2)), (b5, .inl (cI, 64, .inl ob))]) s.heap.size) s.heap s ([(a, .inr (2, [.int (nI g.1), .ref a1, .ref a2, .ref a3, .ref a4, .ref a5])), (a1, .inl (cI, 16, .inl g.2.1)), (a2, .inl (cI, 16, .inl g.2.2.1)), (a3, .inl (cI, 16, .inl g.2.2.2.1)), (a4, .inl (cI, 16, .inl g.2.2.2.2)), (a5, .inl (cI, 64, .inl fb)), (b, .inr (2, [.int (nI o.1), .ref b1, .ref b2, .ref b3, .ref b4, .ref b5])), (b1, .inl (cI, 16, .inl o.2.1)), (b2, .inl (cI, 16, .inl o.2.2.1)), (b3, .inl (cI, 16, .inl o.2.2.2.1)), (b4, .inl (cI, 16, .inl o.2.2.2.2)), (b5, .inl (cI, 64, .inl ob))]) H locs → lv_has ls 4 [(2, .int (nI i)), (0, .ref a), (1, .ref b)] → W p l e { frames := 2, cells := 0, slots := 0, locals := 45 } s m [.ref a, .ref b].toArray below meth c H locs (0) (0) (MQ below (kQ D cI ([(a, .inr (2, [.int (nI v.1), .ref a1, .ref a2, .ref a3, .ref a4, .ref a5])), (a1, .inl (cI, 16, .inl v.2.1)), (a2, .inl (cI, 16, .inl v.2.2.1)), (a3, .inl (cI, 16, .inl v.2.2.2.1)), (a4, .inl (cI, 16, .inl v.2.2.2.2)), (a5, .inl (cI, 64, .inl fb)), (b, .inr (2, [.int (nI o.1), .ref b1, .ref b2, .ref b3, .ref b4, .ref b5])), (b1, .inl (cI, 16, .inl o.2.1)), (b2, .inl (cI, 16, .inl o.2.2.1)), (b3, .inl (cI, 16, .inl o.2.2.2.1)), (b4, .inl (cI, 16, .inl o.2.2.2.2)), (b5, .inl (cI, 64, .inl ob))]) s.heap.size (pV (fun (u : TW × (Nat → Int32)) => TR u.1 T ∧ ∀ p, p < 64 → u.2 p = ob p)) (fun (u : TW × (Nat → Int32)) => [(a, .inr (2, [.int (nI u.1.1), .ref a1, .ref a2, .ref a3, .ref a4, .ref a5])), (a1, .inl (cI, 16, .inl u.1.2.1)), (a2, .inl (cI, 16, .inl u.1.2.2.1)), (a3, .inl (cI, 16, .inl u.1.2.2.2.1)), (a4, .inl (cI, 16, .inl u.1.2.2.2.2)), (a5, .inl (cI, 64, .inl u.2)), (b, .inr (2, [.int (nI o.1), .ref b1, .ref b2, .ref b3, .ref b4, .ref b5])), (b1, .inl (cI, 16, .inl o.2.1)), (b2, .inl (cI, 16, .inl o.2.2.1)), (b3, .inl (cI, 16, .inl o.2.2.2.1)), (b4, .inl (cI, 16, .inl o.2.2.2.2)), (b5, .inl (cI, 64, .inl ob))])) [.ref a, .ref b].toArray s (0) (0) (va_A ([(a, .inr (2, [.int (nI v.1), .ref a1, .ref a2, .ref a3, .ref a4, .ref a5])), (a1, .inl (cI, 16, .inl v.2.1)), (a2, .inl (cI, 16, .inl v.2.2.1)), (a3, .inl (cI, 16, .inl v.2.2.2.1)), (a4, .inl (cI, 16, .inl v.2.2.2.2)), (a5, .inl (cI, 64, .inl fb)), (b, .inr (2, [.int (nI o.1), .ref b1, .ref b2, .ref b3, .ref b4, .ref b5])), (b1, .inl (cI, 16, .inl o.2.1)), (b2, .inl (cI, 16, .inl o.2.2.1)), (b3, .inl (cI, 16, .inl o.2.2.2.1)), (b4, .inl (cI, 16, .inl o.2.2.2.2)), (b5, .inl (cI, 64, .inl ob))]) s.heap.size)) (F0 m 7 ls []) := by
    intro t
    induction t with
    | zero => intro i g F H locs ls ht; exact absurd ht (Nat.not_lt_zero _)
    | succ t ih_7 =>
      intro i g F H locs ls ht hi0 hg1 hF hF1 hF2 hw hl
      refine lv_iload_n hx hb dX2_bringInMissing_7 rfl (lv_at hl 0 rfl) ?_
      refine lv_aload_n hx hb dX2_bringInMissing_8 rfl (lv_at hl 2 rfl) ?_
      refine ww_get hx hb hts hin2 hown hw 6 rfl rfl 0 (by decide) k7 rfl dX2_bringInMissing_9 ?_
      refine lv_icmp_ge (tgt := 74) hx hb dX2_bringInMissing_12 (by decide) (fun c_12 => ?_) (fun c_12 => ?_)
      · have hie : i = o.1 := by have := TR_le h; simp (disch := omega) only [i_le, nI_toInt] at c_12; omega
        have hT : TR g T := TR_ext hF (fun w hw => by
            by_cases q : ∃ j, j < i ∧ o.2.1 j = nI w
            · obtain ⟨j, q1, q2⟩ := q; exact hF1 j q1 w (TR_some hF hw).2.1 q2
            · exact absurd (hF2 w (fun j hj e => q ⟨j, hj, e⟩)) hw) (fun w hw => by
            by_cases z : (T w).1 = 0
            · exact z
            · obtain ⟨-, q0, j, hj, q2⟩ := TR_some h z
              rw [hF1 j (by omega) w q0 q2] at hw
              exact hw)
        refine lv_iconst (v := nI 0) hx hb dX2_bringInMissing_74 (by decide +kernel) ?_
        refine lv_istore_n (lv' := [(2, .int (nI 0)), (0, .ref a), (1, .ref b)]) hx hb dX2_bringInMissing_75 rfl hl (by decide) rfl (fun ls hl => ?_)
        have lp2 : ∀ (t : Nat) (q : Nat) (gb : Nat → Int32) (H : Heap) (locs : List Loc) (ls : Array Slot), 64 - q < t → (q ≤ 64) → (∀ p, p < q → gb p = ob p) → (∀ p, q ≤ p → p < 64 → gb p = 0) → ww D cI (va_A ([(a, .inr (2, [.int (nI v.1), .ref a1, .ref a2, .ref a3, .ref a4, .ref a5])), (a1, .inl (cI, 16, .inl v.2.1)), (a2, .inl (cI, 16, .inl v.2.2.1)), (a3, .inl (cI, 16, .inl v.2.2.2.1)), (a4, .inl (cI, 16, .inl v.2.2.2.2)), (a5, .inl (cI, 64, .inl fb)), (b, .inr (2, [.int (nI o.1), .ref b1, .ref b2, .ref b3, .ref b4, .ref b5])), (b1, .inl (cI, 16, .inl o.2.1)), (b2, .inl (cI, 16, .inl o.2.2.1)), (b3, .inl (cI, 16, .inl o.2.2.2.1)), (b4, .inl (cI, 16, .inl o.2.2.2.2)), (b5, .inl (cI, 64, .inl ob))]) s.heap.size) s.heap s ([(a, .inr (2, [.int (nI g.1), .ref a1, .ref a2, .ref a3, .ref a4, .ref a5])), (a1, .inl (cI, 16, .inl g.2.1)), (a2, .inl (cI, 16, .inl g.2.2.1)), (a3, .inl (cI, 16, .inl g.2.2.2.1)), (a4, .inl (cI, 16, .inl g.2.2.2.2)), (a5, .inl (cI, 64, .inl gb)), (b, .inr (2, [.int (nI o.1), .ref b1, .ref b2, .ref b3, .ref b4, .ref b5])), (b1, .inl (cI, 16, .inl o.2.1)), (b2, .inl (cI, 16, .inl o.2.2.1)), (b3, .inl (cI, 16, .inl o.2.2.2.1)), (b4, .inl (cI, 16, .inl o.2.2.2.2)), (b5, .inl (cI, 64, .inl ob))]) H locs → lv_has ls 4 [(2, .int (nI q)), (0, .ref a), (1, .ref b)] → W p l e { frames := 2, cells := 0, slots := 0, locals := 45 } s m [.ref a, .ref b].toArray below meth c H locs (0) (0) (MQ below (kQ D cI ([(a, .inr (2, [.int (nI v.1), .ref a1, .ref a2, .ref a3, .ref a4, .ref a5])), (a1, .inl (cI, 16, .inl v.2.1)), (a2, .inl (cI, 16, .inl v.2.2.1)), (a3, .inl (cI, 16, .inl v.2.2.2.1)), (a4, .inl (cI, 16, .inl v.2.2.2.2)), (a5, .inl (cI, 64, .inl fb)), (b, .inr (2, [.int (nI o.1), .ref b1, .ref b2, .ref b3, .ref b4, .ref b5])), (b1, .inl (cI, 16, .inl o.2.1)), (b2, .inl (cI, 16, .inl o.2.2.1)), (b3, .inl (cI, 16, .inl o.2.2.2.1)), (b4, .inl (cI, 16, .inl o.2.2.2.2)), (b5, .inl (cI, 64, .inl ob))]) s.heap.size (pV (fun (u : TW × (Nat → Int32)) => TR u.1 T ∧ ∀ p, p < 64 → u.2 p = ob p)) (fun (u : TW × (Nat → Int32)) => [(a, .inr (2, [.int (nI u.1.1), .ref a1, .ref a2, .ref a3, .ref a4, .ref a5])), (a1, .inl (cI, 16, .inl u.1.2.1)), (a2, .inl (cI, 16, .inl u.1.2.2.1)), (a3, .inl (cI, 16, .inl u.1.2.2.2.1)), (a4, .inl (cI, 16, .inl u.1.2.2.2.2)), (a5, .inl (cI, 64, .inl u.2)), (b, .inr (2, [.int (nI o.1), .ref b1, .ref b2, .ref b3, .ref b4, .ref b5])), (b1, .inl (cI, 16, .inl o.2.1)), (b2, .inl (cI, 16, .inl o.2.2.1)), (b3, .inl (cI, 16, .inl o.2.2.2.1)), (b4, .inl (cI, 16, .inl o.2.2.2.2)), (b5, .inl (cI, 64, .inl ob))])) [.ref a, .ref b].toArray s (0) (0) (va_A ([(a, .inr (2, [.int (nI v.1), .ref a1, .ref a2, .ref a3, .ref a4, .ref a5])), (a1, .inl (cI, 16, .inl v.2.1)), (a2, .inl (cI, 16, .inl v.2.2.1)), (a3, .inl (cI, 16, .inl v.2.2.2.1)), (a4, .inl (cI, 16, .inl v.2.2.2.2)), (a5, .inl (cI, 64, .inl fb)), (b, .inr (2, [.int (nI o.1), .ref b1, .ref b2, .ref b3, .ref b4, .ref b5])), (b1, .inl (cI, 16, .inl o.2.1)), (b2, .inl (cI, 16, .inl o.2.2.1)), (b3, .inl (cI, 16, .inl o.2.2.2.1)), (b4, .inl (cI, 16, .inl o.2.2.2.2)), (b5, .inl (cI, 64, .inl ob))]) s.heap.size)) (F0 m 76 ls []) := by
          intro t
          induction t with
          | zero => intro q gb H locs ls ht; exact absurd ht (Nat.not_lt_zero _)
          | succ t ih_76 =>
            intro q gb H locs ls ht hq0 hd1 hd2 hw hl
            refine lv_iload_n hx hb dX2_bringInMissing_76 rfl (lv_at hl 0 rfl) ?_
            refine lv_aload_n hx hb dX2_bringInMissing_77 rfl (lv_at hl 2 rfl) ?_
            refine ww_get hx hb hts hin2 hown hw 6 rfl rfl 5 (by decide) k28 rfl dX2_bringInMissing_78 ?_
            refine ww_alen hx hb hw 11 rfl dX2_bringInMissing_81 ?_
            refine lv_icmp_ge (tgt := 102) hx hb dX2_bringInMissing_82 (by decide) (fun c_82 => ?_) (fun c_82 => ?_)
            · exact ww_vret (u := (g, gb)) hx hb hr hlk hw (⟨hT, fun p hp => hd1 p (by simp (disch := omega) only [i_le, nI_toInt] at c_82; omega)⟩) (Nat.le_of_ble_eq_true rfl) (Nat.le_of_ble_eq_true rfl) rfl dX2_bringInMissing_102
            · have hq : q < 64 := by simp (disch := omega) only [i_le, nI_toInt] at c_82; omega
              refine lv_aload_n hx hb dX2_bringInMissing_85 rfl (lv_at hl 1 rfl) ?_
              refine lv_iload_n hx hb dX2_bringInMissing_86 rfl (lv_at hl 0 rfl) ?_
              refine lv_aload_n hx hb dX2_bringInMissing_87 rfl (lv_at hl 2 rfl) ?_
              refine ww_get hx hb hts hin2 hown hw 6 rfl rfl 5 (by decide) k28 rfl dX2_bringInMissing_88 ?_
              refine lv_iload_n hx hb dX2_bringInMissing_91 rfl (lv_at hl 0 rfl) ?_
              refine ww_iald hx hb hw 11 rfl q rfl (by omega) (by omega) dX2_bringInMissing_92 ?_
              refine ww_callV ([]) ([(b, .inr (2, [.int (nI o.1), .ref b1, .ref b2, .ref b3, .ref b4, .ref b5])), (b1, .inl (cI, 16, .inl o.2.1)), (b2, .inl (cI, 16, .inl o.2.2.1)), (b3, .inl (cI, 16, .inl o.2.2.2.1)), (b4, .inl (cI, 16, .inl o.2.2.2.2)), (b5, .inl (cI, 64, .inl ob))]) (As := [.int (nI q), .int (ob q)]) (rest := []) ⟨hx, hb, hml, hown, hts⟩ (cT_makeDirty l D cI a a1 a2 a3 a4 a5 g gb q (ob q) hq) gX2_bringInMissing_X2_makeDirty rfl hd_X2_makeDirty ⟨Nat.le_of_ble_eq_true rfl, Nat.le_of_ble_eq_true rfl⟩ hw rfl rfl rfl rfl rfl hl.1 (Nat.le_of_ble_eq_true rfl) dX2_bringInMissing_93 ⟨Nat.le_of_ble_eq_true rfl, Nat.le_of_ble_eq_true rfl⟩ (fun v2 u H locs hq2 hw => ?_)
              obtain ⟨u5, rfl⟩ : ∃ q, q = u := ⟨_, rfl⟩
              obtain ⟨rfl, hu5⟩ := hq2
              have hw : ww D cI _ _ s ([(a, .inr (2, [.int (nI g.1), .ref a1, .ref a2, .ref a3, .ref a4, .ref a5])), (a1, .inl (cI, 16, .inl g.2.1)), (a2, .inl (cI, 16, .inl g.2.2.1)), (a3, .inl (cI, 16, .inl g.2.2.2.1)), (a4, .inl (cI, 16, .inl g.2.2.2.2)), (a5, .inl (cI, 64, .inl u5)), (b, .inr (2, [.int (nI o.1), .ref b1, .ref b2, .ref b3, .ref b4, .ref b5])), (b1, .inl (cI, 16, .inl o.2.1)), (b2, .inl (cI, 16, .inl o.2.2.1)), (b3, .inl (cI, 16, .inl o.2.2.2.1)), (b4, .inl (cI, 16, .inl o.2.2.2.2)), (b5, .inl (cI, 64, .inl ob))]) H locs := hw
              refine W.eq (g2 := F0 m 96 ls []) rfl ?_
              rw [if_pos (hd2 q (Nat.le_refl _) hq)] at hu5
              refine lv_iinc (v := nI (q + 1)) (lv' := [(2, .int (nI (q + 1))), (0, .ref a), (1, .ref b)]) hx hb dX2_bringInMissing_96 hl (k := 0) rfl (nI_add _ _) (by decide) rfl (fun ls hl => ?_)
              refine lv_goto (tgt := 76) hx hb dX2_bringInMissing_99 (by decide) ?_
              exact ih_76 (q + 1) u5 _ _ _ (by omega) (by omega) (fun p hp => by rw [hu5]; by_cases e : p = q; (rw [e]; simp [upd]); (simp only [upd, if_neg e]; exact hd1 p (by omega))) (fun p p1 p2 => by rw [hu5]; simp only [upd, if_neg (show p ≠ q by omega)]; exact hd2 p (by omega) p2) hw (lv_sub hl [0, 1, 2] rfl)
        exact lp2 ((64 - (0)) + 1) 0 fb _ _ _ (Nat.lt_succ_self _) (Nat.zero_le _) (fun p hp => absurd hp (Nat.not_lt_zero _)) (fun p _ p2 => (hfb p p2).trans nI_0) hw (lv_sub hl [0, 1, 2] rfl)
      · have hi : i < o.1 := by simp (disch := omega) only [i_le, nI_toInt] at c_12; omega
        have hi16 : i < 16 := by have := TR_le h; omega
        obtain ⟨w, hw1, hw2, hw3⟩ := TR_mem h hi
        have hat := TR_at h (by omega) hi hw2
        have hFz : (F w).1 = 0 := hF2 w (fun j hj q => by have := TR_inj h (show j < o.1 by omega) hi (q.trans hw2.symm); omega)
        refine lv_aload_n hx hb dX2_bringInMissing_15 rfl (lv_at hl 2 rfl) ?_
        refine ww_get hx hb hts hin2 hown hw 6 rfl rfl 1 (by decide) k13 rfl dX2_bringInMissing_16 ?_
        refine lv_iload_n hx hb dX2_bringInMissing_19 rfl (lv_at hl 0 rfl) ?_
        refine ww_iald hx hb hw 7 rfl i rfl (by omega) (by omega) dX2_bringInMissing_20 ?_
        refine lv_eqi (show _ = nI w from hw2) ?_
        refine lv_istore_n (lv' := [(3, .int (nI w)), (2, .int (nI i)), (0, .ref a), (1, .ref b)]) hx hb dX2_bringInMissing_21 rfl hl (by decide) rfl (fun ls hl => ?_)
        refine lv_aload_n hx hb dX2_bringInMissing_22 rfl (lv_at hl 2 rfl) ?_
        refine lv_iload_n hx hb dX2_bringInMissing_23 rfl (lv_at hl 0 rfl) ?_
        refine ww_callV ([]) ([(b, .inr (2, [.int (nI o.1), .ref b1, .ref b2, .ref b3, .ref b4, .ref b5])), (b1, .inl (cI, 16, .inl o.2.1)), (b2, .inl (cI, 16, .inl o.2.2.1)), (b3, .inl (cI, 16, .inl o.2.2.2.1)), (b4, .inl (cI, 16, .inl o.2.2.2.2)), (b5, .inl (cI, 64, .inl ob))]) (As := [.int (nI w)]) (rest := []) ⟨hx, hb, hml, hown, hts⟩ (cT_holds l D cI a a1 a2 a3 a4 a5 g fb F hF (nI w)) gX2_bringInMissing_X2_holds rfl hd_X2_holds ⟨Nat.le_of_ble_eq_true rfl, Nat.le_of_ble_eq_true rfl⟩ hw rfl rfl rfl rfl rfl hl.1 (Nat.le_of_ble_eq_true rfl) dX2_bringInMissing_24 ⟨Nat.le_of_ble_eq_true rfl, Nat.le_of_ble_eq_true rfl⟩ (fun v2 u H locs hq hw => ?_)
        obtain ⟨r, rfl, hq⟩ := hq
        obtain ⟨rfl, -⟩ := hq.resolve_left (fun q => by obtain ⟨-, w2, q1, q2, q3⟩ := q; exact q3 (by rw [← (nI_eq (by omega) (by omega)).mp q2]; exact hFz))
        have hw : ww D cI _ _ s ([(a, .inr (2, [.int (nI g.1), .ref a1, .ref a2, .ref a3, .ref a4, .ref a5])), (a1, .inl (cI, 16, .inl g.2.1)), (a2, .inl (cI, 16, .inl g.2.2.1)), (a3, .inl (cI, 16, .inl g.2.2.2.1)), (a4, .inl (cI, 16, .inl g.2.2.2.2)), (a5, .inl (cI, 64, .inl fb)), (b, .inr (2, [.int (nI o.1), .ref b1, .ref b2, .ref b3, .ref b4, .ref b5])), (b1, .inl (cI, 16, .inl o.2.1)), (b2, .inl (cI, 16, .inl o.2.2.1)), (b3, .inl (cI, 16, .inl o.2.2.2.1)), (b4, .inl (cI, 16, .inl o.2.2.2.2)), (b5, .inl (cI, 64, .inl ob))]) H locs := hw
        refine W.eq (g2 := F0 m 27 ls [.int (0)]) rfl ?_
        refine lv_if_ne (tgt := 68) hx hb dX2_bringInMissing_27 (by decide) (fun c_27 => absurd c_27 (fun q => q rfl)) (fun c_27 => ?_)
        refine lv_aload_n hx hb dX2_bringInMissing_30 rfl (lv_at hl 2 rfl) ?_
        refine lv_iload_n hx hb dX2_bringInMissing_31 rfl (lv_at hl 0 rfl) ?_
        refine ww_callV ([]) ([(b, .inr (2, [.int (nI o.1), .ref b1, .ref b2, .ref b3, .ref b4, .ref b5])), (b1, .inl (cI, 16, .inl o.2.1)), (b2, .inl (cI, 16, .inl o.2.2.1)), (b3, .inl (cI, 16, .inl o.2.2.2.1)), (b4, .inl (cI, 16, .inl o.2.2.2.2)), (b5, .inl (cI, 64, .inl ob))]) (As := [.int (nI w)]) (rest := []) ⟨hx, hb, hml, hown, hts⟩ (cT_bringIn l D cI a a1 a2 a3 a4 a5 g fb F hF w hat.1 hw1 (Or.inr (by omega))) gX2_bringInMissing_X2_bringIn rfl hd_X2_bringIn ⟨Nat.le_of_ble_eq_true rfl, Nat.le_of_ble_eq_true rfl⟩ hw rfl rfl rfl rfl rfl hl.1 (Nat.le_of_ble_eq_true rfl) dX2_bringInMissing_32 ⟨Nat.le_of_ble_eq_true rfl, Nat.le_of_ble_eq_true rfl⟩ (fun v2 u H locs hq hw => ?_)
        obtain ⟨g2, rfl⟩ : ∃ q, q = u := ⟨_, rfl⟩
        obtain ⟨rfl, hg2, hF3⟩ := hq
        have hw : ww D cI _ _ s ([(a, .inr (2, [.int (nI g2.1), .ref a1, .ref a2, .ref a3, .ref a4, .ref a5])), (a1, .inl (cI, 16, .inl g2.2.1)), (a2, .inl (cI, 16, .inl g2.2.2.1)), (a3, .inl (cI, 16, .inl g2.2.2.2.1)), (a4, .inl (cI, 16, .inl g2.2.2.2.2)), (a5, .inl (cI, 64, .inl fb)), (b, .inr (2, [.int (nI o.1), .ref b1, .ref b2, .ref b3, .ref b4, .ref b5])), (b1, .inl (cI, 16, .inl o.2.1)), (b2, .inl (cI, 16, .inl o.2.2.1)), (b3, .inl (cI, 16, .inl o.2.2.2.1)), (b4, .inl (cI, 16, .inl o.2.2.2.2)), (b5, .inl (cI, 64, .inl ob))]) H locs := hw
        refine W.eq (g2 := F0 m 35 ls []) rfl ?_
        rw [if_pos hFz] at hg2 hF3
        rw [hg1] at hg2
        refine lv_aload_n hx hb dX2_bringInMissing_35 rfl (lv_at hl 2 rfl) ?_
        refine W.eq (g2 := F0 m 36 ls [.ref a]) rfl ?_
        refine lv_iload_n hx hb dX2_bringInMissing_36 rfl (lv_at hl 0 rfl) ?_
        refine lv_aload_n hx hb dX2_bringInMissing_37 rfl (lv_at hl 3 rfl) ?_
        refine ww_get hx hb hts hin2 hown hw 6 rfl rfl 2 (by decide) k17 rfl dX2_bringInMissing_38 ?_
        refine lv_iload_n hx hb dX2_bringInMissing_41 rfl (lv_at hl 1 rfl) ?_
        refine ww_iald hx hb hw 8 rfl i rfl (by omega) (by omega) dX2_bringInMissing_42 ?_
        refine lv_eqi (show _ = nI (T w).1 from hat.2.2.2.1) ?_
        refine ww_callV ([]) ([(b, .inr (2, [.int (nI o.1), .ref b1, .ref b2, .ref b3, .ref b4, .ref b5])), (b1, .inl (cI, 16, .inl o.2.1)), (b2, .inl (cI, 16, .inl o.2.2.1)), (b3, .inl (cI, 16, .inl o.2.2.2.1)), (b4, .inl (cI, 16, .inl o.2.2.2.2)), (b5, .inl (cI, 64, .inl ob))]) (As := [.int (nI w), .int (nI (T w).1)]) (rest := []) ⟨hx, hb, hml, hown, hts⟩ (cT_setState l D cI a a1 a2 a3 a4 a5 g2 fb _ hF3 w (T w).1 (by omega) (by simp [va_up]) hw3) gX2_bringInMissing_X2_setState rfl hd_X2_setState ⟨Nat.le_of_ble_eq_true rfl, Nat.le_of_ble_eq_true rfl⟩ hw rfl rfl rfl rfl rfl hl.1 (Nat.le_of_ble_eq_true rfl) dX2_bringInMissing_43 ⟨Nat.le_of_ble_eq_true rfl, Nat.le_of_ble_eq_true rfl⟩ (fun v2 u H locs hq hw => ?_)
        obtain ⟨u2, rfl⟩ : ∃ q, q = u := ⟨_, rfl⟩
        obtain ⟨rfl, hF4⟩ := hq
        have hw : ww D cI _ _ s ([(a, .inr (2, [.int (nI g2.1), .ref a1, .ref a2, .ref a3, .ref a4, .ref a5])), (a1, .inl (cI, 16, .inl g2.2.1)), (a2, .inl (cI, 16, .inl u2)), (a3, .inl (cI, 16, .inl g2.2.2.2.1)), (a4, .inl (cI, 16, .inl g2.2.2.2.2)), (a5, .inl (cI, 64, .inl fb)), (b, .inr (2, [.int (nI o.1), .ref b1, .ref b2, .ref b3, .ref b4, .ref b5])), (b1, .inl (cI, 16, .inl o.2.1)), (b2, .inl (cI, 16, .inl o.2.2.1)), (b3, .inl (cI, 16, .inl o.2.2.2.1)), (b4, .inl (cI, 16, .inl o.2.2.2.2)), (b5, .inl (cI, 64, .inl ob))]) H locs := hw
        refine W.eq (g2 := F0 m 46 ls []) rfl ?_
        rw [up4 F w (1, 0, 0) (fun q => ((T w).1, q.2.1, q.2.2))] at hF4
        dsimp only at hF4
        refine lv_aload_n hx hb dX2_bringInMissing_46 rfl (lv_at hl 2 rfl) ?_
        refine lv_iload_n hx hb dX2_bringInMissing_47 rfl (lv_at hl 0 rfl) ?_
        refine lv_aload_n hx hb dX2_bringInMissing_48 rfl (lv_at hl 3 rfl) ?_
        refine ww_get hx hb hts hin2 hown hw 6 rfl rfl 3 (by decide) k20 rfl dX2_bringInMissing_49 ?_
        refine lv_iload_n hx hb dX2_bringInMissing_52 rfl (lv_at hl 1 rfl) ?_
        refine ww_iald hx hb hw 9 rfl i rfl (by omega) (by omega) dX2_bringInMissing_53 ?_
        refine lv_eqi (show _ = nI (T w).2.1 from hat.2.2.2.2.1) ?_
        refine ww_callV ([]) ([(b, .inr (2, [.int (nI o.1), .ref b1, .ref b2, .ref b3, .ref b4, .ref b5])), (b1, .inl (cI, 16, .inl o.2.1)), (b2, .inl (cI, 16, .inl o.2.2.1)), (b3, .inl (cI, 16, .inl o.2.2.2.1)), (b4, .inl (cI, 16, .inl o.2.2.2.2)), (b5, .inl (cI, 64, .inl ob))]) (As := [.int (nI w), .int (nI (T w).2.1)]) (rest := []) ⟨hx, hb, hml, hown, hts⟩ (cT_setLast l D cI a a1 a2 a3 a4 a5 (g2.1, g2.2.1, u2, g2.2.2.2.1, g2.2.2.2.2) fb _ hF4 w (T w).2.1 (by omega) (by simp [va_up]; exact hw3)) gX2_bringInMissing_X2_setLast rfl hd_X2_setLast ⟨Nat.le_of_ble_eq_true rfl, Nat.le_of_ble_eq_true rfl⟩ hw rfl rfl rfl rfl rfl hl.1 (Nat.le_of_ble_eq_true rfl) dX2_bringInMissing_54 ⟨Nat.le_of_ble_eq_true rfl, Nat.le_of_ble_eq_true rfl⟩ (fun v2 u H locs hq hw => ?_)
        obtain ⟨u3, rfl⟩ : ∃ q, q = u := ⟨_, rfl⟩
        obtain ⟨rfl, hF4⟩ := hq
        have hw : ww D cI _ _ s ([(a, .inr (2, [.int (nI g2.1), .ref a1, .ref a2, .ref a3, .ref a4, .ref a5])), (a1, .inl (cI, 16, .inl g2.2.1)), (a2, .inl (cI, 16, .inl u2)), (a3, .inl (cI, 16, .inl u3)), (a4, .inl (cI, 16, .inl g2.2.2.2.2)), (a5, .inl (cI, 64, .inl fb)), (b, .inr (2, [.int (nI o.1), .ref b1, .ref b2, .ref b3, .ref b4, .ref b5])), (b1, .inl (cI, 16, .inl o.2.1)), (b2, .inl (cI, 16, .inl o.2.2.1)), (b3, .inl (cI, 16, .inl o.2.2.2.1)), (b4, .inl (cI, 16, .inl o.2.2.2.2)), (b5, .inl (cI, 64, .inl ob))]) H locs := hw
        refine W.eq (g2 := F0 m 57 ls []) rfl ?_
        rw [up4 F w ((T w).1, 0, 0) (fun q => (q.1, (T w).2.1, q.2.2))] at hF4
        dsimp only at hF4
        refine lv_aload_n hx hb dX2_bringInMissing_57 rfl (lv_at hl 2 rfl) ?_
        refine W.eq (g2 := F0 m 58 ls [.ref a]) rfl ?_
        refine lv_iload_n hx hb dX2_bringInMissing_58 rfl (lv_at hl 0 rfl) ?_
        refine lv_aload_n hx hb dX2_bringInMissing_59 rfl (lv_at hl 3 rfl) ?_
        refine ww_get hx hb hts hin2 hown hw 6 rfl rfl 4 (by decide) k23 rfl dX2_bringInMissing_60 ?_
        refine lv_iload_n hx hb dX2_bringInMissing_63 rfl (lv_at hl 1 rfl) ?_
        refine ww_iald hx hb hw 10 rfl i rfl (by omega) (by omega) dX2_bringInMissing_64 ?_
        refine lv_eqi (show _ = nI (T w).2.2 from hat.2.2.2.2.2) ?_
        refine ww_callV ([]) ([(b, .inr (2, [.int (nI o.1), .ref b1, .ref b2, .ref b3, .ref b4, .ref b5])), (b1, .inl (cI, 16, .inl o.2.1)), (b2, .inl (cI, 16, .inl o.2.2.1)), (b3, .inl (cI, 16, .inl o.2.2.2.1)), (b4, .inl (cI, 16, .inl o.2.2.2.2)), (b5, .inl (cI, 64, .inl ob))]) (As := [.int (nI w), .int (nI (T w).2.2)]) (rest := []) ⟨hx, hb, hml, hown, hts⟩ (cT_setNext l D cI a a1 a2 a3 a4 a5 (g2.1, g2.2.1, u2, u3, g2.2.2.2.2) fb _ hF4 w (T w).2.2 (by omega) (by simp [va_up]; exact hw3)) gX2_bringInMissing_X2_setNext rfl hd_X2_setNext ⟨Nat.le_of_ble_eq_true rfl, Nat.le_of_ble_eq_true rfl⟩ hw rfl rfl rfl rfl rfl hl.1 (Nat.le_of_ble_eq_true rfl) dX2_bringInMissing_65 ⟨Nat.le_of_ble_eq_true rfl, Nat.le_of_ble_eq_true rfl⟩ (fun v2 u H locs hq hw => ?_)
        obtain ⟨u4, rfl⟩ : ∃ q, q = u := ⟨_, rfl⟩
        obtain ⟨rfl, hF5⟩ := hq
        have hw : ww D cI _ _ s ([(a, .inr (2, [.int (nI g2.1), .ref a1, .ref a2, .ref a3, .ref a4, .ref a5])), (a1, .inl (cI, 16, .inl g2.2.1)), (a2, .inl (cI, 16, .inl u2)), (a3, .inl (cI, 16, .inl u3)), (a4, .inl (cI, 16, .inl u4)), (a5, .inl (cI, 64, .inl fb)), (b, .inr (2, [.int (nI o.1), .ref b1, .ref b2, .ref b3, .ref b4, .ref b5])), (b1, .inl (cI, 16, .inl o.2.1)), (b2, .inl (cI, 16, .inl o.2.2.1)), (b3, .inl (cI, 16, .inl o.2.2.2.1)), (b4, .inl (cI, 16, .inl o.2.2.2.2)), (b5, .inl (cI, 64, .inl ob))]) H locs := hw
        refine W.eq (g2 := F0 m 68 ls []) rfl ?_
        rw [up4 F w ((T w).1, (T w).2.1, 0) (fun q => (q.1, q.2.1, (T w).2.2))] at hF5
        dsimp only at hF5
        refine lv_iinc (v := nI (i + 1)) (lv' := [(2, .int (nI (i + 1))), (3, .int (nI w)), (0, .ref a), (1, .ref b)]) hx hb dX2_bringInMissing_68 hl (k := 1) rfl (nI_add _ _) (by decide) rfl (fun ls hl => ?_)
        refine lv_goto (tgt := 7) hx hb dX2_bringInMissing_71 (by decide) ?_
        exact ih_7 (i + 1) (g2.1, g2.2.1, u2, u3, u4) (va_up F w (T w)) _ _ _ (by omega) (by omega) hg2 hF5 (fun j hj w2 hw2b he2 => by by_cases e : w2 = w; (rw [e]; simp [va_up]); (simp only [va_up, if_neg e]; rcases Nat.lt_succ_iff_lt_or_eq.mp hj with q | q; exact hF1 j q w2 hw2b he2; (subst q; exact absurd (nI_200 h hi he2 hw2 hw1) e))) (fun w2 hn => by have e : w2 ≠ w := fun e => hn i (Nat.lt_succ_self _) (by rw [e]; exact hw2); simp only [va_up, if_neg e]; exact hF2 w2 (fun j hj => hn j (Nat.lt_succ_of_lt hj))) hw (lv_sub hl [0, 2, 3] rfl)
  exact lp ((o.1 - (0)) + 1) 0 v (fun _ => (0, 0, 0)) _ _ _ (Nat.lt_succ_self _) (Nat.zero_le _) hv0 (TR_0 hv0) (fun j hj => absurd hj (Nat.not_lt_zero _)) (fun _ _ => rfl) hw (lv_sub hl [0, 1, 2] rfl)
set_option maxHeartbeats 4000000 in
set_option maxRecDepth 100000 in
theorem cT_becomeLike (l : Launch) (D : va_G) (cI : ClassId) (a a1 a2 a3 a4 a5 b b1 b2 b3 b4 b5 : Nat) (v o : TW) (fb ob : Nat → Int32) (T : TF) (h : TR o T) (hb2 : TB T) : Kt l yX2_becomeLike wsX2_becomeLike 3 68 (0) (0) D cI [.ref a, .ref b] ([(a, .inr (2, [.int (nI v.1), .ref a1, .ref a2, .ref a3, .ref a4, .ref a5])), (a1, .inl (cI, 16, .inl v.2.1)), (a2, .inl (cI, 16, .inl v.2.2.1)), (a3, .inl (cI, 16, .inl v.2.2.2.1)), (a4, .inl (cI, 16, .inl v.2.2.2.2)), (a5, .inl (cI, 64, .inl fb)), (b, .inr (2, [.int (nI o.1), .ref b1, .ref b2, .ref b3, .ref b4, .ref b5])), (b1, .inl (cI, 16, .inl o.2.1)), (b2, .inl (cI, 16, .inl o.2.2.1)), (b3, .inl (cI, 16, .inl o.2.2.2.1)), (b4, .inl (cI, 16, .inl o.2.2.2.2)), (b5, .inl (cI, 64, .inl ob))]) (pV (fun (u : TW × (Nat → Int32)) => TR u.1 T ∧ ∀ p, p < 64 → u.2 p = ob p)) (fun (u : TW × (Nat → Int32)) => [(a, .inr (2, [.int (nI u.1.1), .ref a1, .ref a2, .ref a3, .ref a4, .ref a5])), (a1, .inl (cI, 16, .inl u.1.2.1)), (a2, .inl (cI, 16, .inl u.1.2.2.1)), (a3, .inl (cI, 16, .inl u.1.2.2.2.1)), (a4, .inl (cI, 16, .inl u.1.2.2.2.2)), (a5, .inl (cI, 64, .inl u.2)), (b, .inr (2, [.int (nI o.1), .ref b1, .ref b2, .ref b3, .ref b4, .ref b5])), (b1, .inl (cI, 16, .inl o.2.1)), (b2, .inl (cI, 16, .inl o.2.2.1)), (b3, .inl (cI, 16, .inl o.2.2.2.1)), (b4, .inl (cI, 16, .inl o.2.2.2.2)), (b5, .inl (cI, 64, .inl ob))]) := by
  refine kt_start (cc := cX2_becomeLike) (maxL := 2) (ret := none) (by decide +kernel) rfl (Nat.le_of_ble_eq_true rfl) ?_
  intro p e s m below meth c hx hb hml hr hlk hown hnm hts ls hl hw
  have hown : s.vm.findClass RX2 = some m.cls := hown
  have hl : lv_has ls 2 [(0, .ref a), (1, .ref b)] := hl
  refine lv_aload_n hx hb dX2_becomeLike_0 rfl (lv_at hl 0 rfl) ?_
  refine ww_callV ([]) ([(b, .inr (2, [.int (nI o.1), .ref b1, .ref b2, .ref b3, .ref b4, .ref b5])), (b1, .inl (cI, 16, .inl o.2.1)), (b2, .inl (cI, 16, .inl o.2.2.1)), (b3, .inl (cI, 16, .inl o.2.2.2.1)), (b4, .inl (cI, 16, .inl o.2.2.2.2)), (b5, .inl (cI, 64, .inl ob))]) (As := []) (rest := []) ⟨hx, hb, hml, hown, hts⟩ (cT_makeEmpty l D cI a a1 a2 a3 a4 a5 v fb) gX2_becomeLike_X2_makeEmpty rfl hd_X2_makeEmpty ⟨Nat.le_of_ble_eq_true rfl, Nat.le_of_ble_eq_true rfl⟩ hw rfl rfl rfl rfl rfl hl.1 (Nat.le_of_ble_eq_true rfl) dX2_becomeLike_1 ⟨Nat.le_of_ble_eq_true rfl, Nat.le_of_ble_eq_true rfl⟩ (fun v2 u H locs hq hw => ?_)
  obtain ⟨u5, rfl⟩ : ∃ q, q = u := ⟨_, rfl⟩
  obtain ⟨rfl, hu5⟩ := hq
  have hw : ww D cI _ _ s ([(a, .inr (2, [.int (nI 0), .ref a1, .ref a2, .ref a3, .ref a4, .ref a5])), (a1, .inl (cI, 16, .inl v.2.1)), (a2, .inl (cI, 16, .inl v.2.2.1)), (a3, .inl (cI, 16, .inl v.2.2.2.1)), (a4, .inl (cI, 16, .inl v.2.2.2.2)), (a5, .inl (cI, 64, .inl u5)), (b, .inr (2, [.int (nI o.1), .ref b1, .ref b2, .ref b3, .ref b4, .ref b5])), (b1, .inl (cI, 16, .inl o.2.1)), (b2, .inl (cI, 16, .inl o.2.2.1)), (b3, .inl (cI, 16, .inl o.2.2.2.1)), (b4, .inl (cI, 16, .inl o.2.2.2.2)), (b5, .inl (cI, 64, .inl ob))]) H locs := hw
  refine W.eq (g2 := F0 m 4 ls []) rfl ?_
  refine lv_aload_n hx hb dX2_becomeLike_4 rfl (lv_at hl 0 rfl) ?_
  refine lv_aload_n hx hb dX2_becomeLike_5 rfl (lv_at hl 1 rfl) ?_
  refine ww_callV ([]) ([]) (As := [.ref b]) (rest := []) ⟨hx, hb, hml, hown, hts⟩ (cT_bringInMissing l D cI a a1 a2 a3 a4 a5 b b1 b2 b3 b4 b5 (0, v.2.1, v.2.2.1, v.2.2.2.1, v.2.2.2.2) o u5 ob T h hb2 rfl hu5) gX2_becomeLike_X2_bringInMissing rfl hd_X2_bringInMissing ⟨Nat.le_of_ble_eq_true rfl, Nat.le_of_ble_eq_true rfl⟩ hw rfl rfl rfl rfl rfl hl.1 (Nat.le_of_ble_eq_true rfl) dX2_becomeLike_6 ⟨Nat.le_of_ble_eq_true rfl, Nat.le_of_ble_eq_true rfl⟩ (fun v2 u H locs hq hw => ?_)
  obtain ⟨rfl, hq⟩ := hq
  have hw : ww D cI _ _ s ([(a, .inr (2, [.int (nI u.1.1), .ref a1, .ref a2, .ref a3, .ref a4, .ref a5])), (a1, .inl (cI, 16, .inl u.1.2.1)), (a2, .inl (cI, 16, .inl u.1.2.2.1)), (a3, .inl (cI, 16, .inl u.1.2.2.2.1)), (a4, .inl (cI, 16, .inl u.1.2.2.2.2)), (a5, .inl (cI, 64, .inl u.2)), (b, .inr (2, [.int (nI o.1), .ref b1, .ref b2, .ref b3, .ref b4, .ref b5])), (b1, .inl (cI, 16, .inl o.2.1)), (b2, .inl (cI, 16, .inl o.2.2.1)), (b3, .inl (cI, 16, .inl o.2.2.2.1)), (b4, .inl (cI, 16, .inl o.2.2.2.2)), (b5, .inl (cI, 64, .inl ob))]) H locs := hw
  refine W.eq (g2 := F0 m 9 ls []) rfl ?_
  exact ww_vret (u := u) hx hb hr hlk hw (hq) (Nat.le_of_ble_eq_true rfl) (Nat.le_of_ble_eq_true rfl) rfl dX2_becomeLike_9
set_option maxHeartbeats 4000000 in
set_option maxRecDepth 100000 in
theorem cT_init (l : Launch) (D : va_G) (cI : ClassId) (a : Nat) : Kt l yX2_init wsX2_init 1 12 (5) (128) D cI [.ref a] ([(a, .inr (2, [.int 0, .null, .null, .null, .null, .null]))]) (pV (fun (u : Nat × Nat × Nat × Nat × Nat) => True)) (fun (u : Nat × Nat × Nat × Nat × Nat) => [(a, .inr (2, [.int (nI 0), .ref u.1, .ref u.2.1, .ref u.2.2.1, .ref u.2.2.2.1, .ref u.2.2.2.2])), (u.1, .inl (cI, 16, .inl (fun _ => 0))), (u.2.1, .inl (cI, 16, .inl (fun _ => 0))), (u.2.2.1, .inl (cI, 16, .inl (fun _ => 0))), (u.2.2.2.1, .inl (cI, 16, .inl (fun _ => 0))), (u.2.2.2.2, .inl (cI, 64, .inl (fun _ => 0)))]) := by
  refine kt_start (cc := cX2_init) (maxL := 1) (ret := none) (by decide +kernel) rfl (Nat.le_of_ble_eq_true rfl) ?_
  intro p e s m below meth c hx hb hml hr hlk hown hnm hts ls hl hw
  have hown : s.vm.findClass RX2 = some m.cls := hown
  have hl : lv_has ls 1 [(0, .ref a)] := hl
  have k7 := hts (.fieldLink RX2 7 "RestartBook$Tables" "size" "I") (by decide +kernel)
  have k13 := hts (.fieldLink RX2 13 "RestartBook$Tables" "works" "[I") (by decide +kernel)
  have k17 := hts (.fieldLink RX2 17 "RestartBook$Tables" "states" "[I") (by decide +kernel)
  have k20 := hts (.fieldLink RX2 20 "RestartBook$Tables" "lasts" "[I") (by decide +kernel)
  have k23 := hts (.fieldLink RX2 23 "RestartBook$Tables" "nexts" "[I") (by decide +kernel)
  have k28 := hts (.fieldLink RX2 28 "RestartBook$Tables" "bases" "[I") (by decide +kernel)
  have hin2 : ∀ w ∈ u_ws RX2 TX2 6, w ∈ wsX2_init := in_X2_init
  have harr := hts (.arrayClass .int) (by decide +kernel)
  refine lv_aload_n hx hb dX2_init_0 rfl (lv_at hl 0 rfl) ?_
  refine W.objInit hx hb hown (hts (.methodLink RX2 1 objectInit) (by decide +kernel)) (hts (.instanceMethod objectInit) (by decide +kernel)) (hts _ (List.mem_of_getElem? (l := wsX2_init) (i := 3) rfl)) rfl (by rw [hml]; exact hl.1) rfl dX2_init_1 (Nat.le_of_ble_eq_true rfl) (Nat.le_of_ble_eq_true rfl) ?_
  refine W.eq (g2 := F0 m 4 ls []) rfl ?_
  refine lv_aload_n hx hb dX2_init_4 rfl (lv_at hl 0 rfl) ?_
  refine lv_iconst (v := nI 0) hx hb dX2_init_5 (by decide +kernel) ?_
  refine ww_put (ws' := [(a, .inr (2, [.int (nI 0), .null, .null, .null, .null, .null]))]) hx hb hts hin2 tyX2 tyX2_ok nmX2 hown hw 0 rfl rfl 0 (by decide) k7 rfl rfl rfl (Nat.le_of_ble_eq_true rfl) rfl dX2_init_6 (fun H locs hw => ?_)
  refine lv_aload_n hx hb dX2_init_9 rfl (lv_at hl 0 rfl) ?_
  refine lv_bipush (v := nI 16) hx hb dX2_init_10 (by decide +kernel) ?_
  refine ww_newa (N := 16) hx hb harr hw rfl (by omega) (Nat.le_of_ble_eq_true rfl) (Nat.le_of_ble_eq_true rfl) dX2_init_12 (fun q12 H hw => ?_)
  have hw : ww D cI _ _ s ([(a, .inr (2, [.int (nI 0), .null, .null, .null, .null, .null])), (q12, .inl (cI, 16, .inl (fun _ => 0)))]) H _ := hw
  refine ww_putF (ws' := [(a, .inr (2, [.int (nI 0), .ref q12, .null, .null, .null, .null])), (q12, .inl (cI, 16, .inl (fun _ => 0)))]) hx hb hts hin2 tyX2 tyX2_ok nmX2 hown hw 0 rfl rfl 1 (by decide) k13 rfl hnm rfl rfl rfl (Nat.le_of_ble_eq_true rfl) rfl dX2_init_14 (fun H locs hw => ?_)
  refine lv_aload_n hx hb dX2_init_17 rfl (lv_at hl 0 rfl) ?_
  refine lv_bipush (v := nI 16) hx hb dX2_init_18 (by decide +kernel) ?_
  refine W.eq (g2 := F0 m 20 ls [.int (nI 16), .ref a]) rfl ?_
  refine ww_newa (N := 16) hx hb harr hw rfl (by omega) (Nat.le_of_ble_eq_true rfl) (Nat.le_of_ble_eq_true rfl) dX2_init_20 (fun q20 H hw => ?_)
  have hw : ww D cI _ _ s ([(a, .inr (2, [.int (nI 0), .ref q12, .null, .null, .null, .null])), (q12, .inl (cI, 16, .inl (fun _ => 0))), (q20, .inl (cI, 16, .inl (fun _ => 0)))]) H _ := hw
  refine ww_putF (ws' := [(a, .inr (2, [.int (nI 0), .ref q12, .ref q20, .null, .null, .null])), (q12, .inl (cI, 16, .inl (fun _ => 0))), (q20, .inl (cI, 16, .inl (fun _ => 0)))]) hx hb hts hin2 tyX2 tyX2_ok nmX2 hown hw 0 rfl rfl 2 (by decide) k17 rfl hnm rfl rfl rfl (Nat.le_of_ble_eq_true rfl) rfl dX2_init_22 (fun H locs hw => ?_)
  refine lv_aload_n hx hb dX2_init_25 rfl (lv_at hl 0 rfl) ?_
  refine lv_bipush (v := nI 16) hx hb dX2_init_26 (by decide +kernel) ?_
  refine ww_newa (N := 16) hx hb harr hw rfl (by omega) (Nat.le_of_ble_eq_true rfl) (Nat.le_of_ble_eq_true rfl) dX2_init_28 (fun q28 H hw => ?_)
  have hw : ww D cI _ _ s ([(a, .inr (2, [.int (nI 0), .ref q12, .ref q20, .null, .null, .null])), (q12, .inl (cI, 16, .inl (fun _ => 0))), (q20, .inl (cI, 16, .inl (fun _ => 0))), (q28, .inl (cI, 16, .inl (fun _ => 0)))]) H _ := hw
  refine ww_putF (ws' := [(a, .inr (2, [.int (nI 0), .ref q12, .ref q20, .ref q28, .null, .null])), (q12, .inl (cI, 16, .inl (fun _ => 0))), (q20, .inl (cI, 16, .inl (fun _ => 0))), (q28, .inl (cI, 16, .inl (fun _ => 0)))]) hx hb hts hin2 tyX2 tyX2_ok nmX2 hown hw 0 rfl rfl 3 (by decide) k20 rfl hnm rfl rfl rfl (Nat.le_of_ble_eq_true rfl) rfl dX2_init_30 (fun H locs hw => ?_)
  refine lv_aload_n hx hb dX2_init_33 rfl (lv_at hl 0 rfl) ?_
  refine lv_bipush (v := nI 16) hx hb dX2_init_34 (by decide +kernel) ?_
  refine ww_newa (N := 16) hx hb harr hw rfl (by omega) (Nat.le_of_ble_eq_true rfl) (Nat.le_of_ble_eq_true rfl) dX2_init_36 (fun q36 H hw => ?_)
  have hw : ww D cI _ _ s ([(a, .inr (2, [.int (nI 0), .ref q12, .ref q20, .ref q28, .null, .null])), (q12, .inl (cI, 16, .inl (fun _ => 0))), (q20, .inl (cI, 16, .inl (fun _ => 0))), (q28, .inl (cI, 16, .inl (fun _ => 0))), (q36, .inl (cI, 16, .inl (fun _ => 0)))]) H _ := hw
  refine ww_putF (ws' := [(a, .inr (2, [.int (nI 0), .ref q12, .ref q20, .ref q28, .ref q36, .null])), (q12, .inl (cI, 16, .inl (fun _ => 0))), (q20, .inl (cI, 16, .inl (fun _ => 0))), (q28, .inl (cI, 16, .inl (fun _ => 0))), (q36, .inl (cI, 16, .inl (fun _ => 0)))]) hx hb hts hin2 tyX2 tyX2_ok nmX2 hown hw 0 rfl rfl 4 (by decide) k23 rfl hnm rfl rfl rfl (Nat.le_of_ble_eq_true rfl) rfl dX2_init_38 (fun H locs hw => ?_)
  refine lv_aload_n hx hb dX2_init_41 rfl (lv_at hl 0 rfl) ?_
  refine lv_bipush (v := nI 64) hx hb dX2_init_42 (by decide +kernel) ?_
  refine W.eq (g2 := F0 m 44 ls [.int (nI 64), .ref a]) rfl ?_
  refine ww_newa (N := 64) hx hb harr hw rfl (by omega) (Nat.le_of_ble_eq_true rfl) (Nat.le_of_ble_eq_true rfl) dX2_init_44 (fun q44 H hw => ?_)
  have hw : ww D cI _ _ s ([(a, .inr (2, [.int (nI 0), .ref q12, .ref q20, .ref q28, .ref q36, .null])), (q12, .inl (cI, 16, .inl (fun _ => 0))), (q20, .inl (cI, 16, .inl (fun _ => 0))), (q28, .inl (cI, 16, .inl (fun _ => 0))), (q36, .inl (cI, 16, .inl (fun _ => 0))), (q44, .inl (cI, 64, .inl (fun _ => 0)))]) H _ := hw
  refine ww_putF (ws' := [(a, .inr (2, [.int (nI 0), .ref q12, .ref q20, .ref q28, .ref q36, .ref q44])), (q12, .inl (cI, 16, .inl (fun _ => 0))), (q20, .inl (cI, 16, .inl (fun _ => 0))), (q28, .inl (cI, 16, .inl (fun _ => 0))), (q36, .inl (cI, 16, .inl (fun _ => 0))), (q44, .inl (cI, 64, .inl (fun _ => 0)))]) hx hb hts hin2 tyX2 tyX2_ok nmX2 hown hw 0 rfl rfl 5 (by decide) k28 rfl hnm rfl rfl rfl (Nat.le_of_ble_eq_true rfl) rfl dX2_init_46 (fun H locs hw => ?_)
  exact ww_vret (u := (q12, q20, q28, q36, q44)) hx hb hr hlk hw (trivial) (Nat.le_of_ble_eq_true rfl) (Nat.le_of_ble_eq_true rfl) rfl dX2_init_49
end
section
/-! THE ABSTRACT BOOK: one mathematical value to which the class and the reference are both tied -/
/-- a record: kind, work, the one before, page, word, how much, where undoing goes on -/
abbrev Rc : Type := Nat × Nat × Nat × Nat × Nat × Int32 × Nat
abbrev rK (x : Rc) : Nat := x.1
abbrev rW (x : Rc) : Nat := x.2.1
abbrev rB (x : Rc) : Nat := x.2.2.1
abbrev rP (x : Rc) : Nat := x.2.2.2.1
abbrev rD (x : Rc) : Nat := x.2.2.2.2.1
abbrev rM (x : Rc) : Int32 := x.2.2.2.2.2.1
abbrev rG (x : Rc) : Nat := x.2.2.2.2.2.2
/-- the log: records, forced, changes, the class's room, the records -/
abbrev LG : Type := Nat × Nat × Nat × Nat × (Nat → Rc)
/-- pages: memory, marks, medium, its marks -/
abbrev PG : Type := (Nat → Int32) × (Nat → Int32) × (Nat → Int32) × (Nat → Int32)
/-- latest point, points, works given, doing, at, four counts -/
abbrev CX : Type := Nat × Nat × Nat × Nat × Nat × Int32 × Int32 × Int32 × Int32
abbrev SS : Type := LG × PG × (TF × (Nat → Nat)) × (TF × (Nat → Nat)) × CX
abbrev sN (S : SS) : Nat := S.1.1
abbrev sFo (S : SS) : Nat := S.1.2.1
abbrev sCh (S : SS) : Nat := S.1.2.2.1
abbrev sCap (S : SS) : Nat := S.1.2.2.2.1
abbrev sR (S : SS) : Nat → Rc := S.1.2.2.2.2
abbrev sPg (S : SS) : PG := S.2.1
abbrev sT (S : SS) : TF := S.2.2.1.1
abbrev sBs (S : SS) : Nat → Nat := S.2.2.1.2
abbrev sTt (S : SS) : TF := S.2.2.2.1.1
abbrev sBt (S : SS) : Nat → Nat := S.2.2.2.1.2
abbrev sCx (S : SS) : CX := S.2.2.2.2
abbrev sLp (S : SS) : Nat := S.2.2.2.2.1
abbrev sPt (S : SS) : Nat := S.2.2.2.2.2.1
abbrev sWk (S : SS) : Nat := S.2.2.2.2.2.2.1
abbrev sDo (S : SS) : Nat := S.2.2.2.2.2.2.2.1
abbrev sAt (S : SS) : Nat := S.2.2.2.2.2.2.2.2.1
abbrev sC2 (S : SS) : Int32 := S.2.2.2.2.2.2.2.2.2.1
abbrev sC3 (S : SS) : Int32 := S.2.2.2.2.2.2.2.2.2.2.1
abbrev sC4 (S : SS) : Int32 := S.2.2.2.2.2.2.2.2.2.2.2.1
abbrev sC5 (S : SS) : Int32 := S.2.2.2.2.2.2.2.2.2.2.2.2
def T0 : TF := fun _ => (0, 0, 0)
/-- a record comes into the log -/
def apL (L : LG) (x : Rc) : LG := (L.1 + 1, L.2.1, L.2.2.1 + (if rK x = 1 then 1 else 0), (if L.2.2.2.1 < L.1 * 7 + 7 then L.2.2.2.1 * 2 else L.2.2.2.1), va_up L.2.2.2.2 (L.1 + 1) x)
/-- what a record tells the entry of its work -/
def tkE (r k g : Nat) (e : Nat × Nat × Nat) : Nat × Nat × Nat :=
  if k = 1 then (e.1, r, r) else if k = 2 then (e.1, r, g) else if k = 3 then (4, r, e.2.2) else if k = 4 then (2, r, e.2.2) else if k = 5 then (0, 0, 0) else if k = 6 then (3, r, e.2.2) else (e.1, r, e.2.2)
def tkT (T : TF) (r : Nat) (x : Rc) : TF := if rW x = 0 then T else va_up T (rW x) (tkE r (rK x) (rG x) (if (T (rW x)).1 = 0 then (1, 0, 0) else T (rW x)))
def tkB (B : Nat → Nat) (r : Nat) (x : Rc) : Nat → Nat := if rW x ≠ 0 ∧ (rK x = 1 ∨ rK x = 2) ∧ B (rP x) = 0 then va_up B (rP x) r else B
/-- a change or return is done -/
def apP (G : PG) (r : Nat) (x : Rc) : PG := (upd G.1 (rP x * 8 + rD x) (G.1 (rP x * 8 + rD x) + rM x), upd G.2.1 (rP x) (nI r), G.2.2.1, G.2.2.2)
/-- a record comes: into the log and the tables -/
def emT (S : SS) (x : Rc) : SS := (apL S.1 x, S.2.1, (tkT (sT S) (sN S + 1) x, tkB (sBs S) (sN S + 1) x), S.2.2.2)
/-- .. and is done -/
def emP (S : SS) (x : Rc) : SS := (apL S.1 x, apP S.2.1 (sN S + 1) x, (tkT (sT S) (sN S + 1) x, tkB (sBs S) (sN S + 1) x), S.2.2.2)
def rcW (S : SS) (k w : Nat) : Rc := (k, w, (sT S w).2.1, 0, 0, 0, 0)
def rcC (S : SS) (w p d : Nat) (m : Int32) : Rc := (1, w, (sT S w).2.1, p, d, m, 0)
/-- the last change before c that is not undone -/
def ub (R : Nat → Rc) (c : Nat) : Nat := if rB (R c) ≠ 0 ∧ rK (R (rB (R c))) = 2 then rG (R (rB (R c))) else rB (R c)
def rcU (S : SS) (w : Nat) : Rc := (2, w, (sT S w).2.1, rP (sR S (sT S w).2.2), rD (sR S (sT S w).2.2), -(rM (sR S (sT S w).2.2)), ub (sR S) (sT S w).2.2)
/-- the next one of a work is undone -/
def und (S : SS) (w : Nat) : SS := emP S (rcU S w)
/-- .. down to a record: how many, and what is then -/
def undL : Nat → SS → Nat → Nat → Nat × SS
  | 0, S, _, _ => (0, S)
  | k + 1, S, w, to => if to < (sT S w).2.2 then ((undL k (und S w) w to).1 + 1, (undL k (und S w) w to).2) else (0, S)
def frc (S : SS) (x : Nat) : SS := ((S.1.1, max S.1.2.1 (min x S.1.1), S.1.2.2), S.2)
def cntK (R : Nat → Rc) : Nat → Nat
  | 0 => 0
  | m + 1 => cntK R m + (if rK (R (m + 1)) = 1 then 1 else 0)
def setDo (S : SS) (d a : Nat) : SS := (S.1, S.2.1, S.2.2.1, S.2.2.2.1, (sLp S, sPt S, sWk S, d, a, S.2.2.2.2.2.2.2.2.2))
/-- parts without steps are passed over -/
def pas1 (S : SS) : SS := if sDo S = 1 ∧ sN S < sAt S then setDo S 2 (if lbD (sBs S) 64 = 0 then sN S + 1 else lbD (sBs S) 64) else S
def pas2 (S : SS) : SS := if sDo S = 2 ∧ sN S < sAt S then setDo S 3 (sAt S) else S
def pas3 (S : SS) : SS := if sDo S = 3 ∧ lwD (sT S) 4 200 = 0 then setDo S 4 (sAt S) else S
noncomputable def pas4 (S : SS) : SS := if sDo S = 4 ∧ wuD (sT S) 200 = 0 then setDo S 0 (sAt S) else S
noncomputable def pas (S : SS) : SS := pas4 (pas3 (pas2 (pas1 S)))
def setC (S : SS) (c2 c3 c4 c5 : Int32) : SS := (S.1, S.2.1, S.2.2.1, S.2.2.2.1, (sLp S, sPt S, sWk S, sDo S, sAt S, c2, c3, c4, c5))
def setTB (S : SS) (T : TF) (B : Nat → Nat) : SS := (S.1, S.2.1, (T, B), S.2.2.2)
def setPg (S : SS) (G : PG) : SS := (S.1, G, S.2.2)
/-- a record is looked through -/
def look (S : SS) (r : Nat) : SS := setC (if rK (sR S r) = 8 then setTB S (sTt S) (sBt S) else setTB S (tkT (sT S) r (sR S r)) (tkB (sBs S) r (sR S r))) (sC2 S + 1) (sC3 S) (sC4 S) (sC5 S)
/-- a record is done again, or passed over -/
def again (S : SS) (r : Nat) : SS := if rK (sR S r) = 1 ∨ rK (sR S r) = 2 then (if sBs S (rP (sR S r)) ≠ 0 ∧ sBs S (rP (sR S r)) ≤ r ∧ (sPg S).2.1 (rP (sR S r)) < nI r then setC (setPg S (apP (sPg S) r (sR S r))) (sC2 S) (sC3 S + 1) (sC4 S) (sC5 S) else setC S (sC2 S) (sC3 S) (sC4 S + 1) (sC5 S)) else S
/-- a work is undone by one, or ends -/
def uoe (S : SS) (w : Nat) : SS := if 0 < (sT S w).2.2 then setC (und S w) (sC2 S) (sC3 S) (sC4 S) (sC5 S + 1) else emT S (rcW S 5 w)
noncomputable def stp (S : SS) : SS :=
  if sDo S = 1 then pas (setDo (look S (sAt S)) 1 (sAt S + 1)) else if sDo S = 2 then pas (setDo (again S (sAt S)) 2 (sAt S + 1)) else if sDo S = 3 then pas (emT S (rcW S 5 (lwD (sT S) 4 200))) else if sDo S = 4 then pas (uoe S (wuD (sT S) 200)) else pas S
noncomputable def stpL : Nat → SS → Nat × SS
  | 0, S => (0, S)
  | k + 1, S => if sDo S = 0 then (0, S) else ((stpL k (stp S)).1 + 1, (stpL k (stp S)).2)
/-- the i-th work of the table (0: none) -/
def nthW (T : TF) (i : Nat) : Nat → Nat
  | 0 => 0
  | m + 1 => if (T (m + 1)).1 ≠ 0 ∧ cardT T m = i then m + 1 else nthW T i m
abbrev xUNK : Int32 := -101
abbrev xOUT : Int32 := -102
abbrev xSTA : Int32 := -103
abbrev xROO : Int32 := -104
abbrev xDOW : Int32 := -105
/-- a number of 0 .. n - 1 -/
def inN (x : Int32) (n : Nat) : Prop := 0 ≤ x.toInt ∧ x.toInt < (n : Int)
abbrev cl (x : Int32) : Nat := x.toNatClampNeg
noncomputable section
def oBegin (S : SS) : Int32 × SS := if sDo S ≠ 0 then (xDOW, S) else if 200 ≤ sWk S ∨ 16 ≤ cardT (sT S) 200 then (xROO, S) else
  (nI (sWk S + 1), (S.1, S.2.1, (va_up (sT S) (sWk S + 1) (1, 0, 0), sBs S), S.2.2.2.1, (sLp S, sPt S, sWk S + 1, S.2.2.2.2.2.2.2)))
def oAdd (S : SS) (w p d m : Int32) : Int32 × SS := if sDo S ≠ 0 then (xDOW, S) else if (sT S (cl w)).1 = 0 then (xUNK, S) else
  @ite _ (inN p 64 ∧ inN d 8) (Classical.propDecidable _) (if (sT S (cl w)).1 ≠ 1 then (xSTA, S) else if 2000 ≤ sCh S then (xROO, S) else (nI (sN S + 1), emP S (rcC S (cl w) (cl p) (cl d) m))) (xOUT, S)
def oBack (S : SS) (w to : Int32) : Int32 × SS := if sDo S ≠ 0 then (xDOW, S) else if (sT S (cl w)).1 = 0 then (xUNK, S) else
  @ite _ (inN to ((sT S (cl w)).2.1 + 1)) (Classical.propDecidable _) (if (sT S (cl w)).1 ≠ 1 then (xSTA, S) else (nI (undL (sN S) S (cl w) (cl to)).1, (undL (sN S) S (cl w) (cl to)).2)) (xOUT, S)
def oPrep (S : SS) (w : Int32) : Int32 × SS := if sDo S ≠ 0 then (xDOW, S) else if (sT S (cl w)).1 = 0 then (xUNK, S) else if (sT S (cl w)).1 ≠ 1 then (xSTA, S) else (nI (sN S + 1), frc (emT S (rcW S 6 (cl w))) (sN S + 1))
def oComm (S : SS) (w : Int32) : Int32 × SS := if sDo S ≠ 0 then (xDOW, S) else if (sT S (cl w)).1 = 0 then (xUNK, S) else
  (nI (sN S + 1), emT (frc (emT S (rcW S 3 (cl w))) (sN S + 1)) (rcW (frc (emT S (rcW S 3 (cl w))) (sN S + 1)) 5 (cl w)))
def abo (S : SS) (w : Nat) : Nat × SS := undL (sN S + 1) (emT S (rcW S 4 w)) w 0
def oAbor (S : SS) (w : Int32) : Int32 × SS := if sDo S ≠ 0 then (xDOW, S) else if (sT S (cl w)).1 = 0 then (xUNK, S) else
  (nI (abo S (cl w)).1, emT (abo S (cl w)).2 (rcW (abo S (cl w)).2 5 (cl w)))
def oWrite (S : SS) (p : Int32) : Int32 × SS := if sDo S ≠ 0 then (xDOW, S) else @ite _ (inN p 64) (Classical.propDecidable _)
  (if sBs S (cl p) = 0 then (0, S) else (1, ((sN S, max (sFo S) (min (cl ((sPg S).2.1 (cl p))) (sN S)), S.1.2.2), ((sPg S).1, (sPg S).2.1, va_cpy (sPg S).1 (sPg S).2.2.1 (cl p * 8) (cl p * 8) 8, upd (sPg S).2.2.2 (cl p) ((sPg S).2.1 (cl p))), (sT S, va_up (sBs S) (cl p) 0), S.2.2.2))) (xOUT, S)
def oForce (S : SS) (n : Int32) : Int32 × SS := if sDo S ≠ 0 then (xDOW, S) else if n < 0 then (xOUT, S) else (nI (sFo (frc S (cl n))), frc S (cl n))
def rc0 (k : Nat) : Rc := (k, 0, 0, 0, 0, 0, 0)
def oPoint (S : SS) : Int32 × SS := if sDo S ≠ 0 then (xDOW, S) else if 100 ≤ sPt S then (xROO, S) else
  (nI (sN S + 1), frc (apL (apL S.1 (rc0 7)) (rc0 8), S.2.1, S.2.2.1, S.2.2.1, (sN S + 1, sPt S + 1, S.2.2.2.2.2.2)) (sN S + 2))
def kept (S : SS) (k : Nat) : Nat := sFo S + min k (sN S - sFo S)
def los (S : SS) (k : Nat) : SS := ((kept S k, kept S k, cntK (sR S) (kept S k), S.1.2.2.2), (va_cpy (sPg S).2.2.1 (sPg S).1 0 0 512, va_cpy (sPg S).2.2.2 (sPg S).2.1 0 0 64, (sPg S).2.2), (T0, fun _ => 0), S.2.2.2.1, (sLp S, sPt S, sWk S, 1, max (sLp S) 1, S.2.2.2.2.2.2.2.2.2))
def oLoss (S : SS) (k : Int32) : Int32 × SS := if k < 0 then (xOUT, S) else (nI (kept S (cl k)), pas (los S (cl k)))
def oRest (S : SS) (n : Int32) : Int32 × SS := if n < 0 then (xOUT, S) else (nI (stpL (cl n) S).1, (stpL (cl n) S).2)
def oWord (S : SS) (p d : Int32) : Int32 := @ite _ (inN p 64 ∧ inN d 8) (Classical.propDecidable _) ((sPg S).1 (cl p * 8 + cl d)) 0
def oPage (S : SS) (p t : Int32) : Int32 := @ite _ (inN p 64) (Classical.propDecidable _) (if t = 0 then (sPg S).2.1 (cl p) else if t = nI 1 then (if sBs S (cl p) = 0 then -1 else nI (sBs S (cl p))) else if t = nI 2 then (sPg S).2.2.2 (cl p) else xOUT) xOUT
def oTable (S : SS) (i t : Int32) : Int32 := if i < 0 ∨ nthW (sT S) (cl i) 200 = 0 then -1 else if t = 0 then nI (nthW (sT S) (cl i) 200) else if t = nI 1 then nI (sT S (nthW (sT S) (cl i) 200)).1 else if t = nI 2 then nI (sT S (nthW (sT S) (cl i) 200)).2.1 else if t = nI 3 then nI (sT S (nthW (sT S) (cl i) 200)).2.2 else -1
def rcF (x : Rc) (k : Nat) : Int32 := if k = 0 then nI (rK x) else if k = 1 then nI (rW x) else if k = 2 then nI (rB x) else if k = 3 then nI (rP x) else if k = 4 then nI (rD x) else if k = 5 then rM x else nI (rG x)
def oRec (S : SS) (n t : Int32) : Int32 := @ite _ (1 ≤ n.toInt ∧ n.toInt ≤ (sN S : Int) ∧ inN t 7) (Classical.propDecidable _) (rcF (sR S (cl n)) (cl t)) (-1)
def oCount (S : SS) (t : Int32) : Int32 := if t = 0 then nI (sN S) else if t = nI 1 then nI (sFo S) else if t = nI 2 then sC2 S else if t = nI 3 then sC3 S else if t = nI 4 then sC4 S else if t = nI 5 then sC5 S else xOUT
end
def S0 : SS := ((0, 0, 0, 896, fun _ => (0, 0, 0, 0, 0, 0, 0)), (fun _ => 0, fun _ => 0, fun _ => 0, fun _ => 0), (T0, fun _ => 0), (T0, fun _ => 0), (0, 0, 0, 0, 0, 0, 0, 0, 0))
end
section
/-! the class's worlds -/
def wL (cI : ClassId) (a b : Nat) (L : LG) (f : Nat → Int32) : va_W := [(a, .inr (0, [.ref b, .int (nI L.1), .int (nI L.2.1), .int (nI L.2.2.1)])), (b, .inl (cI, L.2.2.2.1, .inl f))]
abbrev A5 : Type := Nat × Nat × Nat × Nat × Nat
abbrev A6 : Type := Nat × Nat × Nat × Nat × Nat × Nat
def wG (cI : ClassId) (a : A5) (G : PG) : va_W := [(a.1, .inr (1, [.ref a.2.1, .ref a.2.2.1, .ref a.2.2.2.1, .ref a.2.2.2.2])), (a.2.1, .inl (cI, 512, .inl G.1)), (a.2.2.1, .inl (cI, 64, .inl G.2.1)), (a.2.2.2.1, .inl (cI, 512, .inl G.2.2.1)), (a.2.2.2.2, .inl (cI, 64, .inl G.2.2.2))]
def wT (cI : ClassId) (a : A6) (v : TW) (fb : Nat → Int32) : va_W := [(a.1, .inr (2, [.int (nI v.1), .ref a.2.1, .ref a.2.2.1, .ref a.2.2.2.1, .ref a.2.2.2.2.1, .ref a.2.2.2.2.2])), (a.2.1, .inl (cI, 16, .inl v.2.1)), (a.2.2.1, .inl (cI, 16, .inl v.2.2.1)), (a.2.2.2.1, .inl (cI, 16, .inl v.2.2.2.1)), (a.2.2.2.2.1, .inl (cI, 16, .inl v.2.2.2.2)), (a.2.2.2.2.2, .inl (cI, 64, .inl fb))]
/-- the rows of the class's log say the records -/
def LRep (f : Nat → Int32) (n : Nat) (R : Nat → Rc) : Prop := ∀ r, 1 ≤ r → r ≤ n → f ((r - 1) * 7) = nI (rK (R r)) ∧ f ((r - 1) * 7 + 1) = nI (rW (R r)) ∧ f ((r - 1) * 7 + 2) = nI (rB (R r)) ∧ f ((r - 1) * 7 + 3) = nI (rP (R r)) ∧ f ((r - 1) * 7 + 4) = nI (rD (R r)) ∧ f ((r - 1) * 7 + 5) = rM (R r) ∧ f ((r - 1) * 7 + 6) = nI (rG (R r))
theorem LRep_rd {f : Nat → Int32} {n : Nat} {R : Nat → Rc} (h : LRep f n R) {r k : Nat} (h1 : 1 ≤ r) (h2 : r ≤ n) (hk : k ≤ 6) : lrd f n r k = rcF (R r) k := by
  have g := h r h1 h2
  rw [lrd, if_pos ⟨h1, h2⟩]
  rcases (show k = 0 ∨ k = 1 ∨ k = 2 ∨ k = 3 ∨ k = 4 ∨ k = 5 ∨ k = 6 by omega) with rfl | rfl | rfl | rfl | rfl | rfl | rfl
  · exact g.1
  · exact g.2.1
  · exact g.2.2.1
  · exact g.2.2.2.1
  · exact g.2.2.2.2.1
  · exact g.2.2.2.2.2.1
  · exact g.2.2.2.2.2.2
theorem LRep_add {f f2 : Nat → Int32} {n : Nat} {R : Nat → Rc} (h : LRep f n R) (x : Rc) (g : (∀ i, i < n * 7 → f2 i = f i) ∧ f2 (n * 7) = nI (rK x) ∧ f2 (n * 7 + 1) = nI (rW x) ∧ f2 (n * 7 + 2) = nI (rB x) ∧ f2 (n * 7 + 3) = nI (rP x) ∧ f2 (n * 7 + 4) = nI (rD x) ∧ f2 (n * 7 + 5) = rM x ∧ f2 (n * 7 + 6) = nI (rG x)) : LRep f2 (n + 1) (va_up R (n + 1) x) := by
  intro r h1 h2
  by_cases e : r = n + 1
  · subst e
    simp only [va_up, if_true, Nat.add_sub_cancel]
    exact g.2
  · have e2 : va_up R (n + 1) x r = R r := by simp [va_up, e]
    rw [e2, g.1 _ (by omega), g.1 _ (by omega), g.1 _ (by omega), g.1 _ (by omega), g.1 _ (by omega), g.1 _ (by omega), g.1 _ (by omega)]
    exact h r h1 (by omega)
/-- .. and are wide enough -/
def LOk (L : LG) (f : Nat → Int32) : Prop := LRep f L.1 L.2.2.2.2 ∧ L.1 * 7 ≤ L.2.2.2.1 ∧ 7 ≤ L.2.2.2.1 ∧ L.2.2.2.1 < 2 ^ 25 ∧ L.2.1 ≤ L.1
theorem swo3 {x : Int32} (h0 : ¬ x = nI 0) (h1 : ¬ x = nI 1) (h2 : ¬ x = nI 2) : x.toInt < 0 ∨ 2 < x.toInt := by
  simp (disch := omega) only [i_eq, nI_toInt] at h0 h1 h2; omega
theorem swo4 {x : Int32} (h0 : ¬ x = nI 0) (h1 : ¬ x = nI 1) (h2 : ¬ x = nI 2) (h3 : ¬ x = nI 3) : x.toInt < 0 ∨ 3 < x.toInt := by
  simp (disch := omega) only [i_eq, nI_toInt] at h0 h1 h2 h3; omega
theorem swo6 {x : Int32} (h0 : ¬ x = nI 0) (h1 : ¬ x = nI 1) (h2 : ¬ x = nI 2) (h3 : ¬ x = nI 3) (h4 : ¬ x = nI 4) (h5 : ¬ x = nI 5) : x.toInt < 0 ∨ 5 < x.toInt := by
  simp (disch := omega) only [i_eq, nI_toInt] at h0 h1 h2 h3 h4 h5; omega
theorem cl_nI {w : Nat} (h : w < 2 ^ 31) : cl (nI w) = w := nI_clamp h
theorem cl_pos {x : Int32} (h : 1 ≤ cl x) : x = nI (cl x) := by
  by_cases h0 : x < 0
  · have : cl x = 0 := by
      rw [i_lt, z_0] at h0
      show x.toInt.toNat = 0
      omega
    omega
  · obtain ⟨j, hj, rfl⟩ := nI_of h0
    rw [cl_nI hj]
theorem known {v : TW} {T : TF} (h : TR v T) {x : Int32} : (∃ w : Nat, w ≤ 200 ∧ x = nI w ∧ (T w).1 ≠ 0) ↔ (T (cl x)).1 ≠ 0 := by
  constructor
  · rintro ⟨w, h1, rfl, h2⟩
    rw [cl_nI (by omega)]; exact h2
  · intro hz
    obtain ⟨a, b, -⟩ := TR_some h hz
    exact ⟨cl x, b, cl_pos a, hz⟩
section KW
variable {p : Program} {l : Launch} {e : Env} {R : Room} {s : State} {m : MethodId} {args : Array Value} {below : List Frame} {meth : Method} {c : Code} {H : Heap} {locs : List Loc} {cells slots : Nat} {Q : State → Prop}
variable {D : va_G} {cI : ClassId} {A : Nat → Prop} {H0 : Heap} {ws : va_W} {pc : Nat} {ls : Array Slot} {rest : List Value} {cc : ByteArray} {a : Nat}
/-- a call of a method over the whole world -/
theorem ww_callA {S : Type} {fr lo mc ms : Nat} {post : Option Value → S → Prop} {w' : S → va_W} {wc : va_W} {st0 : List Value} {Ts wsy wsy' : List Cond} {own C : String} {index nL maxL n ci : Nat} {y : MethodName} {bytes : ByteArray} {ret : Option FieldType} {b : Nat} {As : List Value} {fs : List Value} {T : u_T} {N : Nat}
    (F : CallFix p m c cc nL s args Ts own) (hM : Kt l y wsy fr lo mc ms D cI (.ref b :: As) wc post w') (hT : GoodIn Ts (wsV own index C y wsy)) (hcode : wsy = Cond.code y bytes maxL ret :: wsy')
    (hd : y.cls = C ∧ y.cls ≠ "java/lang/invoke/MethodHandle" ∧ y.cls ≠ "java/lang/invoke/VarHandle" ∧ (parseMethodDescriptor y.desc).map (fun d => d.parameters.length) = some n) (hR : fr + 1 ≤ R.frames ∧ 8 + (maxL + 11) + lo ≤ R.locals)
    (hw : ww D cI A H0 s wc H locs) (hc : vwCl[ci]? = some (C, T, N)) (h0 : wc[0]? = some (b, .inr (ci, fs))) (hst : st0 = As.reverse ++ .ref b :: rest) (hn : As.length = n) (hsz : ls.size = nL) (hroom : (rest.map fun v => v.category).sum ≤ 8) (hdg : decode cc pc = .ok (.invokevirtual index, 3)) (hf : cells + mc ≤ R.cells ∧ slots + ms ≤ R.slots)
    (kk : ∀ (v : Option Value) (u : S) (H1 : Heap) (locs1 : List Loc), post v u → ww D cI A H0 s (w' u) H1 locs1 → W p l e R s m args below meth c H1 locs1 (cells + mc) (slots + ms) Q (F0 m (pc + 3) ls (v.toList ++ rest))) :
    W p l e R s m args below meth c H locs cells slots Q (F0 m pc ls st0) :=
  ww_callV [] [] F hM hT hcode hd hR hw (by simp) hc h0 hst hn hsz hroom hdg hf (fun v u H1 locs1 h1 h2 => kk v u H1 locs1 h1 (by simpa using h2))
/-- the cells of a world may stand in another order -/
theorem ww_perm {ws' : va_W} (hw : ww D cI A H0 s ws H locs) (hp : ws'.Perm ws) : ww D cI A H0 s ws' H locs := by
  obtain ⟨hK, hP, hD, hS, hA⟩ := hw
  have nd : (ws.map (fun q => q.1)).Nodup := by
    rw [List.nodup_iff_pairwise_ne, List.pairwise_map, List.pairwise_iff_getElem]
    intro i j hi hj hij he
    exact absurd (hD.1 i j _ _ (List.getElem?_eq_getElem hi) (List.getElem?_eq_getElem hj) he) (by omega)
  have nd' : (ws'.map (fun q => q.1)).Nodup := (hp.map _).nodup_iff.mpr nd
  have mem : ∀ (k : Nat) (q : Nat × va_E), ws'[k]? = some q → ∃ i : Nat, ws[i]? = some q := fun k q hk => List.getElem?_of_mem (hp.mem_iff.mp (List.mem_of_getElem? hk))
  refine ⟨hK, fun k q hk => ?_, ⟨fun i j x y hi hj hxy => ?_, fun k q hk => ?_⟩, hS, hA⟩
  · obtain ⟨i, hi⟩ := mem k q hk
    exact hP i q hi
  · rw [List.nodup_iff_pairwise_ne, List.pairwise_map, List.pairwise_iff_getElem] at nd'
    obtain ⟨li, ei⟩ := List.getElem?_eq_some_iff.mp hi
    obtain ⟨lj, ej⟩ := List.getElem?_eq_some_iff.mp hj
    rcases Nat.lt_trichotomy i j with q | q | q
    · exact absurd (by rw [ei, ej]; exact hxy) (nd' i j li lj q)
    · exact q
    · exact absurd (by rw [ei, ej]; exact hxy.symm) (nd' j i lj li q)
  · obtain ⟨i, hi⟩ := mem k q hk
    exact hD.2 i q hi
end KW
end
section
/-! THE INVARIANT of the abstract book -/
/-- how many changes of a work are open, from its next one down -/
def dpF (R : Nat → Rc) : Nat → Nat → Nat
  | 0, _ => 0
  | k + 1, c => if c = 0 then 0 else dpF R k (ub R c) + 1
def dp (R : Nat → Rc) (c : Nat) : Nat := dpF R c c
def ROk (R : Nat → Rc) (n wk : Nat) : Prop := ∀ r, 1 ≤ r → r ≤ n → (1 ≤ rK (R r) ∧ rK (R r) ≤ 8) ∧ (7 ≤ rK (R r) → rW (R r) = 0) ∧ (rK (R r) ≤ 6 → 1 ≤ rW (R r)) ∧ rW (R r) ≤ wk ∧ rB (R r) < r ∧ rP (R r) < 64 ∧ rD (R r) < 8 ∧ rG (R r) < r ∧ (rK (R r) ≠ 2 → rG (R r) = 0) ∧ (rG (R r) = 0 ∨ rK (R (rG (R r))) = 1) ∧ (rK (R r) = 1 → rB (R r) = 0 ∨ rK (R (rB (R r))) = 1 ∨ rK (R (rB (R r))) = 2)
/-- what the last record of a work that works says of its next one -/
def nxO (R : Nat → Rc) (l : Nat) : Nat := if l ≠ 0 ∧ rK (R l) = 2 then rG (R l) else l
def EOk (R : Nat → Rc) (n wk w : Nat) (e : Nat × Nat × Nat) : Prop := 1 ≤ w ∧ w ≤ wk ∧ e.1 ≤ 4 ∧ e.2.1 ≤ n ∧ e.2.2 ≤ n ∧ (e.2.2 = 0 ∨ rK (R e.2.2) = 1) ∧ (e.1 = 1 → nxO R e.2.1 = e.2.2 ∧ (e.2.1 = 0 ∨ rK (R e.2.1) = 1 ∨ rK (R e.2.1) = 2))
def TOk (R : Nat → Rc) (n wk : Nat) (T : TF) : Prop := ∀ w, ((T w).1 = 0 → T w = (0, 0, 0)) ∧ ((T w).1 ≠ 0 → EOk R n wk w (T w))
def pot (R : Nat → Rc) (T : TF) : Nat → Nat
  | 0 => 0
  | m + 1 => pot R T m + (if (T (m + 1)).1 = 0 then 0 else dp R (T (m + 1)).2.2 + 1)
/-- the table that looking through gives, up to a record -/
def lkT (R : Nat → Rc) (Tt : TF) (lp : Nat) : Nat → TF
  | 0 => T0
  | k + 1 => if k + 1 < lp then T0 else if rK (R (k + 1)) = 8 then Tt else tkT (lkT R Tt lp k) (k + 1) (R (k + 1))
/-- T is U, and works that have begun beside it -/
def Sub (U T : TF) : Prop := ∀ w, T w = U w ∨ ((U w).1 = 0 ∧ T w = (1, 0, 0))
theorem ub_lt {R : Nat → Rc} {n wk c : Nat} (h : ROk R n wk) (h1 : 1 ≤ c) (h2 : c ≤ n) : ub R c < c := by
  have a := (h c h1 h2).2.2.2.2.1
  rw [ub]
  split
  · rename_i q
    have := (h (rB (R c)) (by omega) (by omega)).2.2.2.2.2.2.2.1
    omega
  · exact a
theorem ub_ch {R : Nat → Rc} {n wk c : Nat} (h : ROk R n wk) (h1 : 1 ≤ c) (h2 : c ≤ n) (hk : rK (R c) = 1) : ub R c = 0 ∨ rK (R (ub R c)) = 1 := by
  have a := h c h1 h2
  rw [ub]
  split
  · rename_i q
    exact (h (rB (R c)) (by omega) (by omega)).2.2.2.2.2.2.2.2.2.1
  · rename_i q
    rcases a.2.2.2.2.2.2.2.2.2.2 hk with g | g | g
    · exact Or.inl g
    · exact Or.inr g
    · by_cases z : rB (R c) = 0
      · exact Or.inl z
      · exact absurd ⟨z, g⟩ q
theorem dpF_fuel {R : Nat → Rc} {n wk : Nat} (h : ROk R n wk) : ∀ k k' c, c ≤ k → c ≤ k' → c ≤ n → dpF R k c = dpF R k' c := by
  intro k
  induction k with
  | zero =>
    intro k' c h1 h2 h3
    have : c = 0 := by omega
    subst this
    cases k' <;> simp [dpF]
  | succ k ih =>
    intro k' c h1 h2 h3
    by_cases z : c = 0
    · subst z
      cases k' <;> simp [dpF]
    · cases k' with
      | zero => omega
      | succ k' =>
        simp only [dpF, if_neg z]
        have := ub_lt h (show 1 ≤ c by omega) h3
        rw [ih k' (ub R c) (by omega) (by omega) (by omega)]
theorem dp_0 (R : Nat → Rc) : dp R 0 = 0 := rfl
theorem dp_s {R : Nat → Rc} {n wk c : Nat} (h : ROk R n wk) (h1 : 1 ≤ c) (h2 : c ≤ n) : dp R c = dp R (ub R c) + 1 := by
  obtain ⟨k, rfl⟩ : ∃ k, c = k + 1 := ⟨c - 1, by omega⟩
  have := ub_lt h h1 h2
  show dpF R (k + 1) (k + 1) = _
  simp only [dpF, if_neg (show ¬ k + 1 = 0 by omega)]
  rw [dpF_fuel h k (ub R (k + 1)) (ub R (k + 1)) (by omega) (Nat.le_refl _) (by omega)]
  rfl
/-- two logs that agree up to n -/
def Agr (R R' : Nat → Rc) (n : Nat) : Prop := ∀ r, 1 ≤ r → r ≤ n → R' r = R r
theorem Agr_up (R : Nat → Rc) (n : Nat) (x : Rc) : Agr R (va_up R (n + 1) x) n := fun r _ h => by simp [va_up, show r ≠ n + 1 by omega]
theorem ub_agr {R R' : Nat → Rc} {n wk c : Nat} (h : ROk R n wk) (g : Agr R R' n) (h1 : 1 ≤ c) (h2 : c ≤ n) : ub R' c = ub R c := by
  have a := (h c h1 h2).2.2.2.2.1
  have e := g c h1 h2
  by_cases z : rB (R c) = 0
  · rw [ub, ub, e, if_neg (fun q => q.1 z), if_neg (fun q => q.1 z)]
  · rw [ub, ub, e, g (rB (R c)) (by omega) (by omega)]
theorem dp_agr {R R' : Nat → Rc} {n wk : Nat} (h : ROk R n wk) (g : Agr R R' n) : ∀ k c, c ≤ n → dpF R' k c = dpF R k c := by
  intro k
  induction k with
  | zero => intro c _; rfl
  | succ k ih =>
    intro c hc
    by_cases z : c = 0
    · subst z; simp [dpF]
    · simp only [dpF, if_neg z]
      have := ub_lt h (show 1 ≤ c by omega) hc
      rw [ub_agr h g (by omega) hc, ih (ub R c) (by omega)]
theorem nxO_agr {R R' : Nat → Rc} {n l : Nat} (g : Agr R R' n) (hl : l ≤ n) : nxO R' l = nxO R l := by
  by_cases z : l = 0
  · rw [nxO, nxO, if_neg (fun q => q.1 z), if_neg (fun q => q.1 z)]
  · rw [nxO, nxO, g l (by omega) hl]
theorem EOk_mono {R R' : Nat → Rc} {n n' wk wk' w : Nat} {e : Nat × Nat × Nat} (g : Agr R R' n) (hn : n ≤ n') (hw : wk ≤ wk') (h : EOk R n wk w e) : EOk R' n' wk' w e := by
  obtain ⟨a1, a2, a3, a4, a5, a6, a7⟩ := h
  refine ⟨a1, by omega, a3, by omega, by omega, ?_, fun q => ⟨?_, ?_⟩⟩
  · by_cases z : e.2.2 = 0
    · exact Or.inl z
    · rw [g e.2.2 (by omega) a5]; exact a6
  · rw [nxO_agr g a4]; exact (a7 q).1
  · by_cases z : e.2.1 = 0
    · exact Or.inl z
    · rw [g e.2.1 (by omega) a4]; exact (a7 q).2
theorem TOk_mono {R R' : Nat → Rc} {n n' wk wk' : Nat} {T : TF} (g : Agr R R' n) (hn : n ≤ n') (hw : wk ≤ wk') (h : TOk R n wk T) : TOk R' n' wk' T := fun w => ⟨(h w).1, fun q => EOk_mono g hn hw ((h w).2 q)⟩
theorem TOk_0 (R : Nat → Rc) (n wk : Nat) : TOk R n wk T0 := fun _ => ⟨fun _ => rfl, fun q => absurd rfl q⟩
theorem TOk_up {R : Nat → Rc} {n wk w : Nat} {T : TF} {e : Nat × Nat × Nat} (h : TOk R n wk T) (h1 : e.1 = 0 → e = (0, 0, 0)) (h2 : e.1 ≠ 0 → EOk R n wk w e) : TOk R n wk (va_up T w e) := by
  intro k
  by_cases z : k = w
  · subst z; simp only [va_up, if_true]; exact ⟨h1, h2⟩
  · simp only [va_up, if_neg z]; exact h k
theorem pot_agr {R R' : Nat → Rc} {n wk : Nat} {T : TF} (hR : ROk R n wk) (g : Agr R R' n) (h : TOk R n wk T) : ∀ m, pot R' T m = pot R T m := by
  intro m
  induction m with
  | zero => rfl
  | succ m ih =>
    simp only [pot]
    rw [ih]
    by_cases z : (T (m + 1)).1 = 0
    · rw [if_pos z, if_pos z]
    · rw [if_neg z, if_neg z, show dp R' (T (m + 1)).2.2 = dp R (T (m + 1)).2.2 from dp_agr hR g _ _ ((h (m + 1)).2 z).2.2.2.2.1]
/-- how the sums change with one entry -/
def eP (R : Nat → Rc) (e : Nat × Nat × Nat) : Nat := if e.1 = 0 then 0 else dp R e.2.2 + 1
theorem pot_up (R : Nat → Rc) (T : TF) (w : Nat) (e : Nat × Nat × Nat) : ∀ m, pot R (va_up T w e) m + (if 1 ≤ w ∧ w ≤ m then eP R (T w) else 0) = pot R T m + (if 1 ≤ w ∧ w ≤ m then eP R e else 0) := by
  intro m
  induction m with
  | zero => simp only [pot]; rw [if_neg (by omega), if_neg (by omega)]
  | succ m ih =>
    simp only [pot]
    by_cases z : w = m + 1
    · subst z
      have c1 : ¬ (1 ≤ m + 1 ∧ m + 1 ≤ m) := by omega
      have c2 : 1 ≤ m + 1 ∧ m + 1 ≤ m + 1 := by omega
      rw [if_neg c1, if_neg c1] at ih
      rw [if_pos c2, if_pos c2]
      simp only [va_up, if_true, eP] at ih ⊢
      omega
    · have e1 : va_up T w e (m + 1) = T (m + 1) := by simp [va_up, show m + 1 ≠ w by omega]
      rw [e1]
      by_cases q : 1 ≤ w ∧ w ≤ m
      · have c2 : 1 ≤ w ∧ w ≤ m + 1 := by omega
        rw [if_pos q, if_pos q] at ih
        rw [if_pos c2, if_pos c2]
        omega
      · have c2 : ¬ (1 ≤ w ∧ w ≤ m + 1) := by omega
        rw [if_neg q, if_neg q] at ih
        rw [if_neg c2, if_neg c2]
        omega
def eC (e : Nat × Nat × Nat) : Nat := if e.1 = 0 then 0 else 1
theorem card_up (T : TF) (w : Nat) (e : Nat × Nat × Nat) : ∀ m, cardT (va_up T w e) m + (if 1 ≤ w ∧ w ≤ m then eC (T w) else 0) = cardT T m + (if 1 ≤ w ∧ w ≤ m then eC e else 0) := by
  intro m
  induction m with
  | zero => simp only [cardT]; rw [if_neg (by omega), if_neg (by omega)]
  | succ m ih =>
    simp only [cardT]
    by_cases z : w = m + 1
    · subst z
      have c1 : ¬ (1 ≤ m + 1 ∧ m + 1 ≤ m) := by omega
      have c2 : 1 ≤ m + 1 ∧ m + 1 ≤ m + 1 := by omega
      rw [if_neg c1, if_neg c1] at ih
      rw [if_pos c2, if_pos c2]
      simp only [va_up, if_true, eC] at ih ⊢
      omega
    · have e1 : va_up T w e (m + 1) = T (m + 1) := by simp [va_up, show m + 1 ≠ w by omega]
      rw [e1]
      by_cases q : 1 ≤ w ∧ w ≤ m
      · have c2 : 1 ≤ w ∧ w ≤ m + 1 := by omega
        rw [if_pos q, if_pos q] at ih
        rw [if_pos c2, if_pos c2]
        omega
      · have c2 : ¬ (1 ≤ w ∧ w ≤ m + 1) := by omega
        rw [if_neg q, if_neg q] at ih
        rw [if_neg c2, if_neg c2]
        omega
theorem Sub_card {U T : TF} (h : Sub U T) : ∀ m, cardT U m ≤ cardT T m := by
  intro m
  induction m with
  | zero => exact Nat.le_refl _
  | succ m ih =>
    simp only [cardT]
    rcases h (m + 1) with e | ⟨z, e⟩
    · rw [e]; omega
    · rw [if_pos z]; omega
theorem Sub_pot {R : Nat → Rc} {U T : TF} (h : Sub U T) : ∀ m, pot R U m ≤ pot R T m := by
  intro m
  induction m with
  | zero => exact Nat.le_refl _
  | succ m ih =>
    simp only [pot]
    rcases h (m + 1) with e | ⟨z, e⟩
    · rw [e]; omega
    · rw [if_pos z]; omega
theorem Sub_rf (T : TF) : Sub T T := fun _ => Or.inl rfl
theorem lkT_agr {R R' : Nat → Rc} {Tt : TF} {lp n : Nat} (g : Agr R R' n) : ∀ k, k ≤ n → lkT R' Tt lp k = lkT R Tt lp k := by
  intro k
  induction k with
  | zero => intro _; rfl
  | succ k ih =>
    intro hk
    simp only [lkT]
    rw [g (k + 1) (by omega) hk, ih (by omega)]
theorem card_0 : ∀ m, cardT T0 m = 0 := by
  intro m
  induction m with
  | zero => rfl
  | succ m ih => simp only [cardT, ih, T0, if_true]
theorem pot_0 (R : Nat → Rc) : ∀ m, pot R T0 m = 0 := by
  intro m
  induction m with
  | zero => rfl
  | succ m ih => simp only [pot, ih, T0, if_true]
theorem ROk_mono {R R' : Nat → Rc} {n wk wk' : Nat} (g : Agr R R' n) (hw : wk ≤ wk') (h : ROk R n wk) : ROk R' n wk' := by
  intro r h1 h2
  obtain ⟨a1, a2, a3, a4, a5, a6, a7, a8, a9, a10, a11⟩ := h r h1 h2
  rw [g r h1 h2]
  refine ⟨a1, a2, a3, by omega, a5, a6, a7, a8, a9, ?_, fun q => ?_⟩
  · by_cases z : rG (R r) = 0
    · exact Or.inl z
    · rw [g (rG (R r)) (by omega) (by omega)]; exact a10
  · by_cases z : rB (R r) = 0
    · exact Or.inl z
    · rw [g (rB (R r)) (by omega) (by omega)]; exact a11 q
theorem ROk_le {R : Nat → Rc} {n n' wk : Nat} (h : ROk R n wk) (hn : n' ≤ n) : ROk R n' wk := fun r h1 h2 => h r h1 (by omega)
end
section
/-! RestartBook: its inner methods, over the pieces of its state -/
set_option maxRecDepth 20000 in
theorem in_X3_refusalFor : ∀ w ∈ u_ws RX3 TX3 13, w ∈ wsX3_refusalFor := by
  intro w h
  show w ∈ wsX3_refusalFor
  simp only [wsX3_refusalFor, List.mem_cons, List.mem_append]
  simp only [h, true_or, or_true]
set_option maxRecDepth 20000 in
theorem in_X3_appendOfWork : ∀ w ∈ u_ws RX3 TX3 13, w ∈ wsX3_appendOfWork := by
  intro w h
  show w ∈ wsX3_appendOfWork
  simp only [wsX3_appendOfWork, List.mem_cons, List.mem_append]
  simp only [h, true_or, or_true]
set_option maxRecDepth 20000 in
theorem in_X3_undoDownTo : ∀ w ∈ u_ws RX3 TX3 13, w ∈ wsX3_undoDownTo := by
  intro w h
  show w ∈ wsX3_undoDownTo
  simp only [wsX3_undoDownTo, List.mem_cons, List.mem_append]
  simp only [h, true_or, or_true]
set_option maxRecDepth 20000 in
theorem in_X3_undoNext : ∀ w ∈ u_ws RX3 TX3 13, w ∈ wsX3_undoNext := by
  intro w h
  show w ∈ wsX3_undoNext
  simp only [wsX3_undoNext, List.mem_cons, List.mem_append]
  simp only [h, true_or, or_true]
set_option maxRecDepth 20000 in
theorem in_X3_takeIntoTables : ∀ w ∈ u_ws RX3 TX3 13, w ∈ wsX3_takeIntoTables := by
  intro w h
  show w ∈ wsX3_takeIntoTables
  simp only [wsX3_takeIntoTables, List.mem_cons, List.mem_append]
  simp only [h, true_or, or_true]
set_option maxRecDepth 20000 in
theorem in_X3_carryOut : ∀ w ∈ u_ws RX3 TX3 13, w ∈ wsX3_carryOut := by
  intro w h
  show w ∈ wsX3_carryOut
  simp only [wsX3_carryOut, List.mem_cons, List.mem_append]
  simp only [h, true_or, or_true]
theorem hd_X3_refusalFor : yX3_refusalFor.cls = RX3 ∧ yX3_refusalFor.cls ≠ "java/lang/invoke/MethodHandle" ∧ yX3_refusalFor.cls ≠ "java/lang/invoke/VarHandle" ∧ (parseMethodDescriptor yX3_refusalFor.desc).map (fun d => d.parameters.length) = some 1 := by decide +kernel
theorem hd_X3_appendOfWork : yX3_appendOfWork.cls = RX3 ∧ yX3_appendOfWork.cls ≠ "java/lang/invoke/MethodHandle" ∧ yX3_appendOfWork.cls ≠ "java/lang/invoke/VarHandle" ∧ (parseMethodDescriptor yX3_appendOfWork.desc).map (fun d => d.parameters.length) = some 2 := by decide +kernel
theorem hd_X3_undoDownTo : yX3_undoDownTo.cls = RX3 ∧ yX3_undoDownTo.cls ≠ "java/lang/invoke/MethodHandle" ∧ yX3_undoDownTo.cls ≠ "java/lang/invoke/VarHandle" ∧ (parseMethodDescriptor yX3_undoDownTo.desc).map (fun d => d.parameters.length) = some 2 := by decide +kernel
theorem hd_X3_undoNext : yX3_undoNext.cls = RX3 ∧ yX3_undoNext.cls ≠ "java/lang/invoke/MethodHandle" ∧ yX3_undoNext.cls ≠ "java/lang/invoke/VarHandle" ∧ (parseMethodDescriptor yX3_undoNext.desc).map (fun d => d.parameters.length) = some 1 := by decide +kernel
theorem hd_X3_takeIntoTables : yX3_takeIntoTables.cls = RX3 ∧ yX3_takeIntoTables.cls ≠ "java/lang/invoke/MethodHandle" ∧ yX3_takeIntoTables.cls ≠ "java/lang/invoke/VarHandle" ∧ (parseMethodDescriptor yX3_takeIntoTables.desc).map (fun d => d.parameters.length) = some 1 := by decide +kernel
theorem hd_X3_carryOut : yX3_carryOut.cls = RX3 ∧ yX3_carryOut.cls ≠ "java/lang/invoke/MethodHandle" ∧ yX3_carryOut.cls ≠ "java/lang/invoke/VarHandle" ∧ (parseMethodDescriptor yX3_carryOut.desc).map (fun d => d.parameters.length) = some 1 := by decide +kernel
theorem tk_eq {T T1 : TF} {x : Rc} {r : Nat} (hw : rW x ≠ 0) (hT1 : T1 = if (T (rW x)).1 = 0 then va_up T (rW x) (1, 0, 0) else T) {z : Nat × Nat × Nat} (hz : z = tkE r (rK x) (rG x) (T1 (rW x))) : va_up T1 (rW x) z = tkT T r x := by
  have e : T1 (rW x) = if (T (rW x)).1 = 0 then (1, 0, 0) else T (rW x) := by
    rw [hT1]; split <;> simp [va_up]
  rw [hz, e, tkT, if_neg hw]
  funext k
  by_cases hk : k = rW x
  · simp [va_up, hk]
  · rw [hT1]
    simp only [va_up, if_neg hk]
    split <;> simp [va_up, hk]
theorem BR_dirty {fb u : Nat → Int32} {B : Nat → Nat} (h : BR fb B) {p r : Nat} (hp : p < 64) (hr : r < 2 ^ 31) (hu : u = if fb p = 0 then upd fb p (nI r) else fb) : BR u (if B p = 0 then va_up B p r else B) := by
  have hb := h p hp
  by_cases z : B p = 0
  · rw [if_pos z]
    rw [if_pos (by rw [hb.1, z, nI_0])] at hu
    subst hu
    intro q hq
    by_cases e : q = p
    · simp only [upd, va_up, if_pos e]; exact ⟨trivial, hr⟩
    · simp only [upd, va_up, if_neg e]; exact h q hq
  · rw [if_neg z]
    rw [if_neg (fun q => z ((nI_eq hb.2 (by omega)).mp (by rw [← hb.1, q, nI_0])))] at hu
    subst hu
    exact h
theorem tkB_d {B : Nat → Nat} {r : Nat} {x : Rc} (hw : rW x ≠ 0) (hk : rK x = 1 ∨ rK x = 2) : tkB B r x = if B (rP x) = 0 then va_up B (rP x) r else B := by
  simp only [tkB, hw, hk, ne_eq, not_false_eq_true, true_and]
theorem tkB_n {B : Nat → Nat} {r : Nat} {x : Rc} (hk : ¬ (rK x = 1 ∨ rK x = 2)) : tkB B r x = B := by
  simp only [tkB, hk, false_and, and_false, if_false]
set_option maxHeartbeats 4000000 in
set_option maxRecDepth 100000 in
theorem cB_refusalFor (l : Launch) (D : va_G) (cI : ClassId) (a aL b : Nat) (pa : A5) (ta da : A6) (C : CX) (L : LG) (f : Nat → Int32) (G : PG) (v v2 : TW) (fb fb2 : Nat → Int32) (T : TF) (h : TR v T) (x : Int32) (hdo : C.2.2.2.1 < 2 ^ 31) : Kt l yX3_refusalFor wsX3_refusalFor 2 43 (0) (0) D cI [.ref a, .int x] ([(a, .inr (3, [.ref aL, .ref pa.1, .ref ta.1, .ref da.1, .int (nI C.1), .int (nI C.2.1), .int (nI C.2.2.1), .int (nI C.2.2.2.1), .int (nI C.2.2.2.2.1), .int C.2.2.2.2.2.1, .int C.2.2.2.2.2.2.1, .int C.2.2.2.2.2.2.2.1, .int C.2.2.2.2.2.2.2.2]))] ++ (wL cI aL b L f ++ (wG cI pa G ++ (wT cI ta v fb ++ wT cI da v2 fb2)))) (pI (fun (r : Int32) (u : Unit) => r = if C.2.2.2.1 ≠ 0 then xDOW else if (T (cl x)).1 = 0 then xUNK else 0)) (fun (u : Unit) => [(a, .inr (3, [.ref aL, .ref pa.1, .ref ta.1, .ref da.1, .int (nI C.1), .int (nI C.2.1), .int (nI C.2.2.1), .int (nI C.2.2.2.1), .int (nI C.2.2.2.2.1), .int C.2.2.2.2.2.1, .int C.2.2.2.2.2.2.1, .int C.2.2.2.2.2.2.2.1, .int C.2.2.2.2.2.2.2.2]))] ++ (wL cI aL b L f ++ (wG cI pa G ++ (wT cI ta v fb ++ wT cI da v2 fb2)))) := by
  refine kt_start (cc := cX3_refusalFor) (maxL := 2) (ret := (some .int)) (by decide +kernel) rfl (Nat.le_of_ble_eq_true rfl) ?_
  intro p e s m below meth c hx hb hml hr hlk hown hnm hts ls hl hw
  have hown : s.vm.findClass RX3 = some m.cls := hown
  have hl : lv_has ls 2 [(0, .ref a), (1, .int x)] := hl
  have k26 := hts (.fieldLink RX3 26 "RestartBook" "tables" "LRestartBook$Tables;") (by decide +kernel)
  have k43 := hts (.fieldLink RX3 43 "RestartBook" "doing" "I") (by decide +kernel)
  have hin3 : ∀ w ∈ u_ws RX3 TX3 13, w ∈ wsX3_refusalFor := in_X3_refusalFor
  refine lv_aload_n hx hb dX3_refusalFor_0 rfl (lv_at hl 0 rfl) ?_
  refine ww_get hx hb hts hin3 hown hw 0 rfl rfl 7 (by decide) k43 rfl dX3_refusalFor_1 ?_
  refine lv_if_eq (tgt := 10) hx hb dX3_refusalFor_4 (by decide) (fun c_4 => ?_) (fun c_4 => ?_)
  · refine lv_aload_n hx hb dX3_refusalFor_10 rfl (lv_at hl 0 rfl) ?_
    refine ww_get hx hb hts hin3 hown hw 0 rfl rfl 2 (by decide) k26 rfl dX3_refusalFor_11 ?_
    refine lv_iload_n hx hb dX3_refusalFor_14 rfl (lv_at hl 1 rfl) ?_
    refine ww_callV ([(a, .inr (3, [.ref aL, .ref pa.1, .ref ta.1, .ref da.1, .int (nI C.1), .int (nI C.2.1), .int (nI C.2.2.1), .int (nI C.2.2.2.1), .int (nI C.2.2.2.2.1), .int C.2.2.2.2.2.1, .int C.2.2.2.2.2.2.1, .int C.2.2.2.2.2.2.2.1, .int C.2.2.2.2.2.2.2.2]))] ++ (wL cI aL b L f ++ wG cI pa G)) (wT cI da v2 fb2) (As := [.int x]) (rest := []) ⟨hx, hb, hml, hown, hts⟩ (cT_holds l D cI ta.1 ta.2.1 ta.2.2.1 ta.2.2.2.1 ta.2.2.2.2.1 ta.2.2.2.2.2 v fb T h x) gX3_refusalFor_X2_holds rfl hd_X2_holds ⟨Nat.le_of_ble_eq_true rfl, Nat.le_of_ble_eq_true rfl⟩ hw rfl rfl rfl rfl rfl hl.1 (Nat.le_of_ble_eq_true rfl) dX3_refusalFor_15 ⟨Nat.le_of_ble_eq_true rfl, Nat.le_of_ble_eq_true rfl⟩ (fun rv u H locs hq hw => ?_)
    obtain ⟨r, rfl, hq⟩ := hq
    rw [known h] at hq
    have hw : ww D cI _ _ s ([(a, .inr (3, [.ref aL, .ref pa.1, .ref ta.1, .ref da.1, .int (nI C.1), .int (nI C.2.1), .int (nI C.2.2.1), .int (nI C.2.2.2.1), .int (nI C.2.2.2.2.1), .int C.2.2.2.2.2.1, .int C.2.2.2.2.2.2.1, .int C.2.2.2.2.2.2.2.1, .int C.2.2.2.2.2.2.2.2]))] ++ (wL cI aL b L f ++ (wG cI pa G ++ (wT cI ta v fb ++ wT cI da v2 fb2)))) H locs := hw
    refine W.eq (g2 := F0 m 18 ls [.int (r)]) rfl ?_
    rcases hq with ⟨rfl, hq⟩ | ⟨rfl, hq⟩
    · skip
      refine lv_if_eq (tgt := 25) hx hb dX3_refusalFor_18 (by decide) (fun c_18 => absurd c_18 (by decide)) (fun c_18 => ?_)
      refine lv_iconst (v := nI 0) hx hb dX3_refusalFor_21 (by decide +kernel) ?_
      refine lv_goto (tgt := 27) hx hb dX3_refusalFor_22 (by decide) ?_
      exact ww_iret (u := ()) hx hb hr hlk hw (by rw [if_neg (fun q => q ((nI_eq hdo (by omega)).mp (by rw [nI_0]; exact c_4))), if_neg hq]; exact nI_0) (Nat.le_of_ble_eq_true rfl) (Nat.le_of_ble_eq_true rfl) dX3_refusalFor_27
    · have hq := Decidable.not_not.mp hq
      refine lv_if_eq (tgt := 25) hx hb dX3_refusalFor_18 (by decide) (fun c_18 => ?_) (fun c_18 => absurd (rfl) c_18)
      refine lv_bipush (v := (-101)) hx hb dX3_refusalFor_25 (by decide +kernel) ?_
      exact ww_iret (u := ()) hx hb hr hlk hw (by rw [if_neg (fun q => q ((nI_eq hdo (by omega)).mp (by rw [nI_0]; exact c_4))), if_pos hq]) (Nat.le_of_ble_eq_true rfl) (Nat.le_of_ble_eq_true rfl) dX3_refusalFor_27
  · refine lv_bipush (v := (-105)) hx hb dX3_refusalFor_7 (by decide +kernel) ?_
    exact ww_iret (u := ()) hx hb hr hlk hw (by rw [if_pos (fun q => c_4 (by rw [q, nI_0]))]) (Nat.le_of_ble_eq_true rfl) (Nat.le_of_ble_eq_true rfl) dX3_refusalFor_9
set_option maxHeartbeats 4000000 in
set_option maxRecDepth 100000 in
theorem cB_takeIntoTables (l : Launch) (D : va_G) (cI : ClassId) (a aL b : Nat) (pa : A5) (ta da : A6) (C : CX) (L : LG) (f : Nat → Int32) (G : PG) (v v2 : TW) (fb fb2 : Nat → Int32) (r : Nat) (x : Rc) (T : TF) (B : Nat → Nat) (hL : LOk L f) (h1 : 1 ≤ r) (h2 : r ≤ L.1) (hxr : L.2.2.2.2 r = x) (h : TR v T) (hB : BR fb B) (hk1 : 1 ≤ rK x) (hk2 : rK x ≤ 8) (hW : rW x ≤ 200) (hroom : rW x = 0 ∨ (T (rW x)).1 ≠ 0 ∨ v.1 < 16) (hpg : rP x < 64) (hg : rG x < 2 ^ 31) : Kt l yX3_takeIntoTables wsX3_takeIntoTables 2 45 (0) (0) D cI [.ref a, .int (nI r)] ([(a, .inr (3, [.ref aL, .ref pa.1, .ref ta.1, .ref da.1, .int (nI C.1), .int (nI C.2.1), .int (nI C.2.2.1), .int (nI C.2.2.2.1), .int (nI C.2.2.2.2.1), .int C.2.2.2.2.2.1, .int C.2.2.2.2.2.2.1, .int C.2.2.2.2.2.2.2.1, .int C.2.2.2.2.2.2.2.2]))] ++ (wL cI aL b L f ++ (wG cI pa G ++ (wT cI ta v fb ++ wT cI da v2 fb2)))) (pV (fun (u : TW × (Nat → Int32)) => TR u.1 (tkT T r x) ∧ BR u.2 (tkB B r x))) (fun (u : TW × (Nat → Int32)) => [(a, .inr (3, [.ref aL, .ref pa.1, .ref ta.1, .ref da.1, .int (nI C.1), .int (nI C.2.1), .int (nI C.2.2.1), .int (nI C.2.2.2.1), .int (nI C.2.2.2.2.1), .int C.2.2.2.2.2.1, .int C.2.2.2.2.2.2.1, .int C.2.2.2.2.2.2.2.1, .int C.2.2.2.2.2.2.2.2]))] ++ (wL cI aL b L f ++ (wG cI pa G ++ (wT cI ta u.1 u.2 ++ wT cI da v2 fb2)))) := by
  refine kt_start (cc := cX3_takeIntoTables) (maxL := 4) (ret := none) (by decide +kernel) rfl (Nat.le_of_ble_eq_true rfl) ?_
  intro p e s m below meth c hx hb hml hr hlk hown hnm hts ls hl hw
  have hown : s.vm.findClass RX3 = some m.cls := hown
  have hl : lv_has ls 4 [(0, .ref a), (1, .int (nI r))] := hl
  have k10 := hts (.fieldLink RX3 10 "RestartBook" "log" "LRestartBook$Log;") (by decide +kernel)
  have k26 := hts (.fieldLink RX3 26 "RestartBook" "tables" "LRestartBook$Tables;") (by decide +kernel)
  have hin3 : ∀ w ∈ u_ws RX3 TX3 13, w ∈ wsX3_takeIntoTables := in_X3_takeIntoTables
  refine lv_aload_n hx hb dX3_takeIntoTables_0 rfl (lv_at hl 0 rfl) ?_
  refine ww_get hx hb hts hin3 hown hw 0 rfl rfl 0 (by decide) k10 rfl dX3_takeIntoTables_1 ?_
  refine lv_iload_n hx hb dX3_takeIntoTables_4 rfl (lv_at hl 1 rfl) ?_
  refine lv_iconst (v := nI 0) hx hb dX3_takeIntoTables_5 (by decide +kernel) ?_
  refine ww_callV ([(a, .inr (3, [.ref aL, .ref pa.1, .ref ta.1, .ref da.1, .int (nI C.1), .int (nI C.2.1), .int (nI C.2.2.1), .int (nI C.2.2.2.1), .int (nI C.2.2.2.2.1), .int C.2.2.2.2.2.1, .int C.2.2.2.2.2.2.1, .int C.2.2.2.2.2.2.2.1, .int C.2.2.2.2.2.2.2.2]))]) (wG cI pa G ++ (wT cI ta v fb ++ wT cI da v2 fb2)) (As := [.int (nI r), .int (nI 0)]) (rest := []) ⟨hx, hb, hml, hown, hts⟩ (cL_read l D cI aL b L.2.2.2.1 L.1 L.2.1 L.2.2.1 f r 0 hL.2.1 (by have := hL.2.2.2.1; omega) (by have := hL.2.1; have := hL.2.2.2.1; omega) (by omega)) gX3_takeIntoTables_X0_read rfl hd_X0_read ⟨Nat.le_of_ble_eq_true rfl, Nat.le_of_ble_eq_true rfl⟩ hw rfl rfl rfl rfl rfl hl.1 (Nat.le_of_ble_eq_true rfl) dX3_takeIntoTables_6 ⟨Nat.le_of_ble_eq_true rfl, Nat.le_of_ble_eq_true rfl⟩ (fun rv u H locs hq hw => ?_)
  obtain ⟨rr, rfl, hq⟩ := hq
  have hw : ww D cI _ _ s ([(a, .inr (3, [.ref aL, .ref pa.1, .ref ta.1, .ref da.1, .int (nI C.1), .int (nI C.2.1), .int (nI C.2.2.1), .int (nI C.2.2.2.1), .int (nI C.2.2.2.2.1), .int C.2.2.2.2.2.1, .int C.2.2.2.2.2.2.1, .int C.2.2.2.2.2.2.2.1, .int C.2.2.2.2.2.2.2.2]))] ++ (wL cI aL b L f ++ (wG cI pa G ++ (wT cI ta v fb ++ wT cI da v2 fb2)))) H locs := hw
  refine W.eq (g2 := F0 m 9 ls [.int (rr)]) rfl ?_
  refine lv_eqi (show _ = nI (rK x) from hq.trans ((LRep_rd hL.1 h1 h2 (by omega)).trans (by rw [hxr]; rfl))) ?_
  refine lv_istore_n (lv' := [(2, .int (nI (rK x))), (0, .ref a), (1, .int (nI r))]) hx hb dX3_takeIntoTables_9 rfl hl (by decide) rfl (fun ls hl => ?_)
  refine lv_aload_n hx hb dX3_takeIntoTables_10 rfl (lv_at hl 1 rfl) ?_
  refine ww_get hx hb hts hin3 hown hw 0 rfl rfl 0 (by decide) k10 rfl dX3_takeIntoTables_11 ?_
  refine lv_iload_n hx hb dX3_takeIntoTables_14 rfl (lv_at hl 2 rfl) ?_
  refine lv_iconst (v := nI 1) hx hb dX3_takeIntoTables_15 (by decide +kernel) ?_
  refine ww_callV ([(a, .inr (3, [.ref aL, .ref pa.1, .ref ta.1, .ref da.1, .int (nI C.1), .int (nI C.2.1), .int (nI C.2.2.1), .int (nI C.2.2.2.1), .int (nI C.2.2.2.2.1), .int C.2.2.2.2.2.1, .int C.2.2.2.2.2.2.1, .int C.2.2.2.2.2.2.2.1, .int C.2.2.2.2.2.2.2.2]))]) (wG cI pa G ++ (wT cI ta v fb ++ wT cI da v2 fb2)) (As := [.int (nI r), .int (nI 1)]) (rest := []) ⟨hx, hb, hml, hown, hts⟩ (cL_read l D cI aL b L.2.2.2.1 L.1 L.2.1 L.2.2.1 f r 1 hL.2.1 (by have := hL.2.2.2.1; omega) (by have := hL.2.1; have := hL.2.2.2.1; omega) (by omega)) gX3_takeIntoTables_X0_read rfl hd_X0_read ⟨Nat.le_of_ble_eq_true rfl, Nat.le_of_ble_eq_true rfl⟩ hw rfl rfl rfl rfl rfl hl.1 (Nat.le_of_ble_eq_true rfl) dX3_takeIntoTables_16 ⟨Nat.le_of_ble_eq_true rfl, Nat.le_of_ble_eq_true rfl⟩ (fun rv u H locs hq hw => ?_)
  obtain ⟨rr, rfl, hq⟩ := hq
  have hw : ww D cI _ _ s ([(a, .inr (3, [.ref aL, .ref pa.1, .ref ta.1, .ref da.1, .int (nI C.1), .int (nI C.2.1), .int (nI C.2.2.1), .int (nI C.2.2.2.1), .int (nI C.2.2.2.2.1), .int C.2.2.2.2.2.1, .int C.2.2.2.2.2.2.1, .int C.2.2.2.2.2.2.2.1, .int C.2.2.2.2.2.2.2.2]))] ++ (wL cI aL b L f ++ (wG cI pa G ++ (wT cI ta v fb ++ wT cI da v2 fb2)))) H locs := hw
  refine W.eq (g2 := F0 m 19 ls [.int (rr)]) rfl ?_
  refine lv_eqi (show _ = nI (rW x) from hq.trans ((LRep_rd hL.1 h1 h2 (by omega)).trans (by rw [hxr]; rfl))) ?_
  refine lv_istore_n (lv' := [(3, .int (nI (rW x))), (2, .int (nI (rK x))), (0, .ref a), (1, .int (nI r))]) hx hb dX3_takeIntoTables_19 rfl hl (by decide) rfl (fun ls hl => ?_)
  refine lv_iload_n hx hb dX3_takeIntoTables_20 rfl (lv_at hl 0 rfl) ?_
  refine W.eq (g2 := F0 m 21 ls [.int (nI (rW x))]) rfl ?_
  refine lv_if_ne (tgt := 25) hx hb dX3_takeIntoTables_21 (by decide) (fun c_21 => ?_) (fun c_21 => ?_)
  · have hw0 : rW x ≠ 0 := fun q => c_21 (by rw [q, nI_0])
    have hr31 : r < 2 ^ 31 := by have := hL.2.1; have := hL.2.2.2.1; omega
    refine lv_aload_n hx hb dX3_takeIntoTables_25 rfl (lv_at hl 2 rfl) ?_
    refine ww_get hx hb hts hin3 hown hw 0 rfl rfl 2 (by decide) k26 rfl dX3_takeIntoTables_26 ?_
    refine lv_iload_n hx hb dX3_takeIntoTables_29 rfl (lv_at hl 0 rfl) ?_
    refine ww_callV ([(a, .inr (3, [.ref aL, .ref pa.1, .ref ta.1, .ref da.1, .int (nI C.1), .int (nI C.2.1), .int (nI C.2.2.1), .int (nI C.2.2.2.1), .int (nI C.2.2.2.2.1), .int C.2.2.2.2.2.1, .int C.2.2.2.2.2.2.1, .int C.2.2.2.2.2.2.2.1, .int C.2.2.2.2.2.2.2.2]))] ++ (wL cI aL b L f ++ wG cI pa G)) (wT cI da v2 fb2) (As := [.int (nI (rW x))]) (rest := []) ⟨hx, hb, hml, hown, hts⟩ (cT_bringIn l D cI ta.1 ta.2.1 ta.2.2.1 ta.2.2.2.1 ta.2.2.2.2.1 ta.2.2.2.2.2 v fb T h (rW x) (by omega) hW (hroom.resolve_left hw0)) gX3_takeIntoTables_X2_bringIn rfl hd_X2_bringIn ⟨Nat.le_of_ble_eq_true rfl, Nat.le_of_ble_eq_true rfl⟩ hw rfl rfl rfl rfl rfl hl.1 (Nat.le_of_ble_eq_true rfl) dX3_takeIntoTables_30 ⟨Nat.le_of_ble_eq_true rfl, Nat.le_of_ble_eq_true rfl⟩ (fun rv u H locs hq hw => ?_)
    obtain ⟨g1, rfl⟩ : ∃ q, q = u := ⟨_, rfl⟩
    obtain ⟨rfl, -, hT1⟩ := hq
    have hw : ww D cI _ _ s ([(a, .inr (3, [.ref aL, .ref pa.1, .ref ta.1, .ref da.1, .int (nI C.1), .int (nI C.2.1), .int (nI C.2.2.1), .int (nI C.2.2.2.1), .int (nI C.2.2.2.2.1), .int C.2.2.2.2.2.1, .int C.2.2.2.2.2.2.1, .int C.2.2.2.2.2.2.2.1, .int C.2.2.2.2.2.2.2.2]))] ++ (wL cI aL b L f ++ (wG cI pa G ++ (wT cI ta g1 fb ++ wT cI da v2 fb2)))) H locs := hw
    refine W.eq (g2 := F0 m 33 ls []) rfl ?_
    obtain ⟨T1, hT1e⟩ : ∃ T1, T1 = (if (T (rW x)).1 = 0 then va_up T (rW x) (1, 0, 0) else T) := ⟨_, rfl⟩
    rw [← hT1e] at hT1
    have hp1 : (T1 (rW x)).1 ≠ 0 := by rw [hT1e]; split; (simp [va_up]); assumption
    refine lv_aload_n hx hb dX3_takeIntoTables_33 rfl (lv_at hl 2 rfl) ?_
    refine ww_get hx hb hts hin3 hown hw 0 rfl rfl 2 (by decide) k26 rfl dX3_takeIntoTables_34 ?_
    refine lv_iload_n hx hb dX3_takeIntoTables_37 rfl (lv_at hl 0 rfl) ?_
    refine lv_iload_n hx hb dX3_takeIntoTables_38 rfl (lv_at hl 3 rfl) ?_
    refine ww_callV ([(a, .inr (3, [.ref aL, .ref pa.1, .ref ta.1, .ref da.1, .int (nI C.1), .int (nI C.2.1), .int (nI C.2.2.1), .int (nI C.2.2.2.1), .int (nI C.2.2.2.2.1), .int C.2.2.2.2.2.1, .int C.2.2.2.2.2.2.1, .int C.2.2.2.2.2.2.2.1, .int C.2.2.2.2.2.2.2.2]))] ++ (wL cI aL b L f ++ wG cI pa G)) (wT cI da v2 fb2) (As := [.int (nI (rW x)), .int (nI r)]) (rest := []) ⟨hx, hb, hml, hown, hts⟩ (cT_setLast l D cI ta.1 ta.2.1 ta.2.2.1 ta.2.2.2.1 ta.2.2.2.2.1 ta.2.2.2.2.2 g1 fb T1 hT1 (rW x) r (by omega) hp1) gX3_takeIntoTables_X2_setLast rfl hd_X2_setLast ⟨Nat.le_of_ble_eq_true rfl, Nat.le_of_ble_eq_true rfl⟩ hw rfl rfl rfl rfl rfl hl.1 (Nat.le_of_ble_eq_true rfl) dX3_takeIntoTables_39 ⟨Nat.le_of_ble_eq_true rfl, Nat.le_of_ble_eq_true rfl⟩ (fun rv u H locs hq hw => ?_)
    obtain ⟨u2, rfl⟩ : ∃ q, q = u := ⟨_, rfl⟩
    obtain ⟨rfl, hT2⟩ := hq
    have hw : ww D cI _ _ s ([(a, .inr (3, [.ref aL, .ref pa.1, .ref ta.1, .ref da.1, .int (nI C.1), .int (nI C.2.1), .int (nI C.2.2.1), .int (nI C.2.2.2.1), .int (nI C.2.2.2.2.1), .int C.2.2.2.2.2.1, .int C.2.2.2.2.2.2.1, .int C.2.2.2.2.2.2.2.1, .int C.2.2.2.2.2.2.2.2]))] ++ (wL cI aL b L f ++ (wG cI pa G ++ (wT cI ta (g1.1, g1.2.1, g1.2.2.1, u2, g1.2.2.2.2) fb ++ wT cI da v2 fb2)))) H locs := hw
    refine W.eq (g2 := F0 m 42 ls []) rfl ?_
    rcases (show rK x = 1 ∨ rK x = 2 ∨ rK x = 3 ∨ rK x = 4 ∨ rK x = 5 ∨ rK x = 6 ∨ rK x = 7 ∨ rK x = 8 by omega) with hq | hq | hq | hq | hq | hq | hq | hq
    · refine lv_iload_n hx hb dX3_takeIntoTables_42 rfl (lv_at hl 1 rfl) ?_
      refine lv_eqi (show _ = nI 1 from by rw [hq]) ?_
      refine lv_tableIn (tgt := 80) (off := 37) hx hb dX3_takeIntoTables_43 (by decide +kernel) (by decide +kernel) (by decide +kernel) (by decide) ?_
      refine lv_aload_n hx hb dX3_takeIntoTables_80 rfl (lv_at hl 2 rfl) ?_
      refine ww_get hx hb hts hin3 hown hw 0 rfl rfl 2 (by decide) k26 rfl dX3_takeIntoTables_81 ?_
      refine lv_iload_n hx hb dX3_takeIntoTables_84 rfl (lv_at hl 0 rfl) ?_
      refine lv_iload_n hx hb dX3_takeIntoTables_85 rfl (lv_at hl 3 rfl) ?_
      refine ww_callV ([(a, .inr (3, [.ref aL, .ref pa.1, .ref ta.1, .ref da.1, .int (nI C.1), .int (nI C.2.1), .int (nI C.2.2.1), .int (nI C.2.2.2.1), .int (nI C.2.2.2.2.1), .int C.2.2.2.2.2.1, .int C.2.2.2.2.2.2.1, .int C.2.2.2.2.2.2.2.1, .int C.2.2.2.2.2.2.2.2]))] ++ (wL cI aL b L f ++ wG cI pa G)) (wT cI da v2 fb2) (As := [.int (nI (rW x)), .int (nI r)]) (rest := []) ⟨hx, hb, hml, hown, hts⟩ (cT_setNext l D cI ta.1 ta.2.1 ta.2.2.1 ta.2.2.2.1 ta.2.2.2.2.1 ta.2.2.2.2.2 (g1.1, g1.2.1, g1.2.2.1, u2, g1.2.2.2.2) fb _ hT2 (rW x) r (by omega) (by simp [va_up]; exact hp1)) gX3_takeIntoTables_X2_setNext rfl hd_X2_setNext ⟨Nat.le_of_ble_eq_true rfl, Nat.le_of_ble_eq_true rfl⟩ hw rfl rfl rfl rfl rfl hl.1 (Nat.le_of_ble_eq_true rfl) dX3_takeIntoTables_86 ⟨Nat.le_of_ble_eq_true rfl, Nat.le_of_ble_eq_true rfl⟩ (fun rv u H locs hq2 hw => ?_)
      obtain ⟨u3, rfl⟩ : ∃ q, q = u := ⟨_, rfl⟩
      obtain ⟨rfl, hT3⟩ := hq2
      have hw : ww D cI _ _ s ([(a, .inr (3, [.ref aL, .ref pa.1, .ref ta.1, .ref da.1, .int (nI C.1), .int (nI C.2.1), .int (nI C.2.2.1), .int (nI C.2.2.2.1), .int (nI C.2.2.2.2.1), .int C.2.2.2.2.2.1, .int C.2.2.2.2.2.2.1, .int C.2.2.2.2.2.2.2.1, .int C.2.2.2.2.2.2.2.2]))] ++ (wL cI aL b L f ++ (wG cI pa G ++ (wT cI ta (g1.1, g1.2.1, g1.2.2.1, u2, u3) fb ++ wT cI da v2 fb2)))) H locs := hw
      refine W.eq (g2 := F0 m 89 ls []) rfl ?_
      rw [up4 T1 (rW x) ((T1 (rW x)).1, r, (T1 (rW x)).2.2) (fun q => (q.1, q.2.1, r))] at hT3
      try dsimp only at hT3
      refine lv_aload_n hx hb dX3_takeIntoTables_89 rfl (lv_at hl 2 rfl) ?_
      refine ww_get hx hb hts hin3 hown hw 0 rfl rfl 2 (by decide) k26 rfl dX3_takeIntoTables_90 ?_
      refine lv_aload_n hx hb dX3_takeIntoTables_93 rfl (lv_at hl 2 rfl) ?_
      refine ww_get hx hb hts hin3 hown hw 0 rfl rfl 0 (by decide) k10 rfl dX3_takeIntoTables_94 ?_
      refine lv_iload_n hx hb dX3_takeIntoTables_97 rfl (lv_at hl 3 rfl) ?_
      refine lv_iconst (v := nI 3) hx hb dX3_takeIntoTables_98 (by decide +kernel) ?_
      refine ww_callV ([(a, .inr (3, [.ref aL, .ref pa.1, .ref ta.1, .ref da.1, .int (nI C.1), .int (nI C.2.1), .int (nI C.2.2.1), .int (nI C.2.2.2.1), .int (nI C.2.2.2.2.1), .int C.2.2.2.2.2.1, .int C.2.2.2.2.2.2.1, .int C.2.2.2.2.2.2.2.1, .int C.2.2.2.2.2.2.2.2]))]) (wG cI pa G ++ (wT cI ta (g1.1, g1.2.1, g1.2.2.1, u2, u3) fb ++ wT cI da v2 fb2)) (As := [.int (nI r), .int (nI 3)]) (rest := [.ref ta.1]) ⟨hx, hb, hml, hown, hts⟩ (cL_read l D cI aL b L.2.2.2.1 L.1 L.2.1 L.2.2.1 f r 3 hL.2.1 (by have := hL.2.2.2.1; omega) (by have := hL.2.1; have := hL.2.2.2.1; omega) (by omega)) gX3_takeIntoTables_X0_read rfl hd_X0_read ⟨Nat.le_of_ble_eq_true rfl, Nat.le_of_ble_eq_true rfl⟩ hw rfl rfl rfl rfl rfl hl.1 (Nat.le_of_ble_eq_true rfl) dX3_takeIntoTables_99 ⟨Nat.le_of_ble_eq_true rfl, Nat.le_of_ble_eq_true rfl⟩ (fun rv u H locs hqr hw => ?_)
      obtain ⟨rr, rfl, hqr⟩ := hqr
      have hw : ww D cI _ _ s ([(a, .inr (3, [.ref aL, .ref pa.1, .ref ta.1, .ref da.1, .int (nI C.1), .int (nI C.2.1), .int (nI C.2.2.1), .int (nI C.2.2.2.1), .int (nI C.2.2.2.2.1), .int C.2.2.2.2.2.1, .int C.2.2.2.2.2.2.1, .int C.2.2.2.2.2.2.2.1, .int C.2.2.2.2.2.2.2.2]))] ++ (wL cI aL b L f ++ (wG cI pa G ++ (wT cI ta (g1.1, g1.2.1, g1.2.2.1, u2, u3) fb ++ wT cI da v2 fb2)))) H locs := hw
      refine W.eq (g2 := F0 m 102 ls [.int (rr), .ref ta.1]) rfl ?_
      refine lv_eqi (show _ = nI (rP x) from hqr.trans ((LRep_rd hL.1 h1 h2 (by omega)).trans (by rw [hxr]; rfl))) ?_
      refine W.eq (g2 := F0 m 102 ls [.int (nI (rP x)), .ref ta.1]) rfl ?_
      refine lv_iload_n hx hb dX3_takeIntoTables_102 rfl (lv_at hl 3 rfl) ?_
      refine ww_callV ([(a, .inr (3, [.ref aL, .ref pa.1, .ref ta.1, .ref da.1, .int (nI C.1), .int (nI C.2.1), .int (nI C.2.2.1), .int (nI C.2.2.2.1), .int (nI C.2.2.2.2.1), .int C.2.2.2.2.2.1, .int C.2.2.2.2.2.2.1, .int C.2.2.2.2.2.2.2.1, .int C.2.2.2.2.2.2.2.2]))] ++ (wL cI aL b L f ++ wG cI pa G)) (wT cI da v2 fb2) (As := [.int (nI (rP x)), .int (nI r)]) (rest := []) ⟨hx, hb, hml, hown, hts⟩ (cT_makeDirty l D cI ta.1 ta.2.1 ta.2.2.1 ta.2.2.2.1 ta.2.2.2.2.1 ta.2.2.2.2.2 (g1.1, g1.2.1, g1.2.2.1, u2, u3) fb (rP x) (nI r) hpg) gX3_takeIntoTables_X2_makeDirty rfl hd_X2_makeDirty ⟨Nat.le_of_ble_eq_true rfl, Nat.le_of_ble_eq_true rfl⟩ hw rfl rfl rfl rfl rfl hl.1 (Nat.le_of_ble_eq_true rfl) dX3_takeIntoTables_103 ⟨Nat.le_of_ble_eq_true rfl, Nat.le_of_ble_eq_true rfl⟩ (fun rv u H locs hq2 hw => ?_)
      obtain ⟨u5, rfl⟩ : ∃ q, q = u := ⟨_, rfl⟩
      obtain ⟨rfl, hu5⟩ := hq2
      have hw : ww D cI _ _ s ([(a, .inr (3, [.ref aL, .ref pa.1, .ref ta.1, .ref da.1, .int (nI C.1), .int (nI C.2.1), .int (nI C.2.2.1), .int (nI C.2.2.2.1), .int (nI C.2.2.2.2.1), .int C.2.2.2.2.2.1, .int C.2.2.2.2.2.2.1, .int C.2.2.2.2.2.2.2.1, .int C.2.2.2.2.2.2.2.2]))] ++ (wL cI aL b L f ++ (wG cI pa G ++ (wT cI ta (g1.1, g1.2.1, g1.2.2.1, u2, u3) u5 ++ wT cI da v2 fb2)))) H locs := hw
      refine W.eq (g2 := F0 m 106 ls []) rfl ?_
      refine lv_goto (tgt := 194) hx hb dX3_takeIntoTables_106 (by decide) ?_
      exact ww_vret (u := ((g1.1, g1.2.1, g1.2.2.1, u2, u3), u5)) hx hb hr hlk hw (⟨by rw [← tk_eq hw0 hT1e (by simp only [tkE, hq]; rfl)]; exact hT3, by rw [tkB_d hw0 (by omega)]; exact BR_dirty hB hpg hr31 hu5⟩) (Nat.le_of_ble_eq_true rfl) (Nat.le_of_ble_eq_true rfl) rfl dX3_takeIntoTables_194
    · refine lv_iload_n hx hb dX3_takeIntoTables_42 rfl (lv_at hl 1 rfl) ?_
      refine lv_eqi (show _ = nI 2 from by rw [hq]) ?_
      refine lv_tableIn (tgt := 109) (off := 66) hx hb dX3_takeIntoTables_43 (by decide +kernel) (by decide +kernel) (by decide +kernel) (by decide) ?_
      refine lv_aload_n hx hb dX3_takeIntoTables_109 rfl (lv_at hl 2 rfl) ?_
      refine ww_get hx hb hts hin3 hown hw 0 rfl rfl 2 (by decide) k26 rfl dX3_takeIntoTables_110 ?_
      refine lv_iload_n hx hb dX3_takeIntoTables_113 rfl (lv_at hl 0 rfl) ?_
      refine lv_aload_n hx hb dX3_takeIntoTables_114 rfl (lv_at hl 2 rfl) ?_
      refine ww_get hx hb hts hin3 hown hw 0 rfl rfl 0 (by decide) k10 rfl dX3_takeIntoTables_115 ?_
      refine lv_iload_n hx hb dX3_takeIntoTables_118 rfl (lv_at hl 3 rfl) ?_
      refine lv_bipush (v := nI 6) hx hb dX3_takeIntoTables_119 (by decide +kernel) ?_
      refine ww_callV ([(a, .inr (3, [.ref aL, .ref pa.1, .ref ta.1, .ref da.1, .int (nI C.1), .int (nI C.2.1), .int (nI C.2.2.1), .int (nI C.2.2.2.1), .int (nI C.2.2.2.2.1), .int C.2.2.2.2.2.1, .int C.2.2.2.2.2.2.1, .int C.2.2.2.2.2.2.2.1, .int C.2.2.2.2.2.2.2.2]))]) (wG cI pa G ++ (wT cI ta (g1.1, g1.2.1, g1.2.2.1, u2, g1.2.2.2.2) fb ++ wT cI da v2 fb2)) (As := [.int (nI r), .int (nI 6)]) (rest := [.int (nI (rW x)), .ref ta.1]) ⟨hx, hb, hml, hown, hts⟩ (cL_read l D cI aL b L.2.2.2.1 L.1 L.2.1 L.2.2.1 f r 6 hL.2.1 (by have := hL.2.2.2.1; omega) (by have := hL.2.1; have := hL.2.2.2.1; omega) (by omega)) gX3_takeIntoTables_X0_read rfl hd_X0_read ⟨Nat.le_of_ble_eq_true rfl, Nat.le_of_ble_eq_true rfl⟩ hw rfl rfl rfl rfl rfl hl.1 (Nat.le_of_ble_eq_true rfl) dX3_takeIntoTables_121 ⟨Nat.le_of_ble_eq_true rfl, Nat.le_of_ble_eq_true rfl⟩ (fun rv u H locs hqr hw => ?_)
      obtain ⟨rr, rfl, hqr⟩ := hqr
      have hw : ww D cI _ _ s ([(a, .inr (3, [.ref aL, .ref pa.1, .ref ta.1, .ref da.1, .int (nI C.1), .int (nI C.2.1), .int (nI C.2.2.1), .int (nI C.2.2.2.1), .int (nI C.2.2.2.2.1), .int C.2.2.2.2.2.1, .int C.2.2.2.2.2.2.1, .int C.2.2.2.2.2.2.2.1, .int C.2.2.2.2.2.2.2.2]))] ++ (wL cI aL b L f ++ (wG cI pa G ++ (wT cI ta (g1.1, g1.2.1, g1.2.2.1, u2, g1.2.2.2.2) fb ++ wT cI da v2 fb2)))) H locs := hw
      refine W.eq (g2 := F0 m 124 ls [.int (rr), .int (nI (rW x)), .ref ta.1]) rfl ?_
      refine lv_eqi (show _ = nI (rG x) from hqr.trans ((LRep_rd hL.1 h1 h2 (by omega)).trans (by rw [hxr]; rfl))) ?_
      refine ww_callV ([(a, .inr (3, [.ref aL, .ref pa.1, .ref ta.1, .ref da.1, .int (nI C.1), .int (nI C.2.1), .int (nI C.2.2.1), .int (nI C.2.2.2.1), .int (nI C.2.2.2.2.1), .int C.2.2.2.2.2.1, .int C.2.2.2.2.2.2.1, .int C.2.2.2.2.2.2.2.1, .int C.2.2.2.2.2.2.2.2]))] ++ (wL cI aL b L f ++ wG cI pa G)) (wT cI da v2 fb2) (As := [.int (nI (rW x)), .int (nI (rG x))]) (rest := []) ⟨hx, hb, hml, hown, hts⟩ (cT_setNext l D cI ta.1 ta.2.1 ta.2.2.1 ta.2.2.2.1 ta.2.2.2.2.1 ta.2.2.2.2.2 (g1.1, g1.2.1, g1.2.2.1, u2, g1.2.2.2.2) fb _ hT2 (rW x) (rG x) (by omega) (by simp [va_up]; exact hp1)) gX3_takeIntoTables_X2_setNext rfl hd_X2_setNext ⟨Nat.le_of_ble_eq_true rfl, Nat.le_of_ble_eq_true rfl⟩ hw rfl rfl rfl rfl rfl hl.1 (Nat.le_of_ble_eq_true rfl) dX3_takeIntoTables_124 ⟨Nat.le_of_ble_eq_true rfl, Nat.le_of_ble_eq_true rfl⟩ (fun rv u H locs hq2 hw => ?_)
      obtain ⟨u3, rfl⟩ : ∃ q, q = u := ⟨_, rfl⟩
      obtain ⟨rfl, hT3⟩ := hq2
      have hw : ww D cI _ _ s ([(a, .inr (3, [.ref aL, .ref pa.1, .ref ta.1, .ref da.1, .int (nI C.1), .int (nI C.2.1), .int (nI C.2.2.1), .int (nI C.2.2.2.1), .int (nI C.2.2.2.2.1), .int C.2.2.2.2.2.1, .int C.2.2.2.2.2.2.1, .int C.2.2.2.2.2.2.2.1, .int C.2.2.2.2.2.2.2.2]))] ++ (wL cI aL b L f ++ (wG cI pa G ++ (wT cI ta (g1.1, g1.2.1, g1.2.2.1, u2, u3) fb ++ wT cI da v2 fb2)))) H locs := hw
      refine W.eq (g2 := F0 m 127 ls []) rfl ?_
      rw [up4 T1 (rW x) ((T1 (rW x)).1, r, (T1 (rW x)).2.2) (fun q => (q.1, q.2.1, (rG x)))] at hT3
      try dsimp only at hT3
      refine lv_aload_n hx hb dX3_takeIntoTables_127 rfl (lv_at hl 2 rfl) ?_
      refine ww_get hx hb hts hin3 hown hw 0 rfl rfl 2 (by decide) k26 rfl dX3_takeIntoTables_128 ?_
      refine lv_aload_n hx hb dX3_takeIntoTables_131 rfl (lv_at hl 2 rfl) ?_
      refine W.eq (g2 := F0 m 132 ls [.ref a, .ref ta.1]) rfl ?_
      refine ww_get hx hb hts hin3 hown hw 0 rfl rfl 0 (by decide) k10 rfl dX3_takeIntoTables_132 ?_
      refine lv_iload_n hx hb dX3_takeIntoTables_135 rfl (lv_at hl 3 rfl) ?_
      refine lv_iconst (v := nI 3) hx hb dX3_takeIntoTables_136 (by decide +kernel) ?_
      refine ww_callV ([(a, .inr (3, [.ref aL, .ref pa.1, .ref ta.1, .ref da.1, .int (nI C.1), .int (nI C.2.1), .int (nI C.2.2.1), .int (nI C.2.2.2.1), .int (nI C.2.2.2.2.1), .int C.2.2.2.2.2.1, .int C.2.2.2.2.2.2.1, .int C.2.2.2.2.2.2.2.1, .int C.2.2.2.2.2.2.2.2]))]) (wG cI pa G ++ (wT cI ta (g1.1, g1.2.1, g1.2.2.1, u2, u3) fb ++ wT cI da v2 fb2)) (As := [.int (nI r), .int (nI 3)]) (rest := [.ref ta.1]) ⟨hx, hb, hml, hown, hts⟩ (cL_read l D cI aL b L.2.2.2.1 L.1 L.2.1 L.2.2.1 f r 3 hL.2.1 (by have := hL.2.2.2.1; omega) (by have := hL.2.1; have := hL.2.2.2.1; omega) (by omega)) gX3_takeIntoTables_X0_read rfl hd_X0_read ⟨Nat.le_of_ble_eq_true rfl, Nat.le_of_ble_eq_true rfl⟩ hw rfl rfl rfl rfl rfl hl.1 (Nat.le_of_ble_eq_true rfl) dX3_takeIntoTables_137 ⟨Nat.le_of_ble_eq_true rfl, Nat.le_of_ble_eq_true rfl⟩ (fun rv u H locs hqr hw => ?_)
      obtain ⟨rr, rfl, hqr⟩ := hqr
      have hw : ww D cI _ _ s ([(a, .inr (3, [.ref aL, .ref pa.1, .ref ta.1, .ref da.1, .int (nI C.1), .int (nI C.2.1), .int (nI C.2.2.1), .int (nI C.2.2.2.1), .int (nI C.2.2.2.2.1), .int C.2.2.2.2.2.1, .int C.2.2.2.2.2.2.1, .int C.2.2.2.2.2.2.2.1, .int C.2.2.2.2.2.2.2.2]))] ++ (wL cI aL b L f ++ (wG cI pa G ++ (wT cI ta (g1.1, g1.2.1, g1.2.2.1, u2, u3) fb ++ wT cI da v2 fb2)))) H locs := hw
      refine W.eq (g2 := F0 m 140 ls [.int (rr), .ref ta.1]) rfl ?_
      refine lv_eqi (show _ = nI (rP x) from hqr.trans ((LRep_rd hL.1 h1 h2 (by omega)).trans (by rw [hxr]; rfl))) ?_
      refine lv_iload_n hx hb dX3_takeIntoTables_140 rfl (lv_at hl 3 rfl) ?_
      refine ww_callV ([(a, .inr (3, [.ref aL, .ref pa.1, .ref ta.1, .ref da.1, .int (nI C.1), .int (nI C.2.1), .int (nI C.2.2.1), .int (nI C.2.2.2.1), .int (nI C.2.2.2.2.1), .int C.2.2.2.2.2.1, .int C.2.2.2.2.2.2.1, .int C.2.2.2.2.2.2.2.1, .int C.2.2.2.2.2.2.2.2]))] ++ (wL cI aL b L f ++ wG cI pa G)) (wT cI da v2 fb2) (As := [.int (nI (rP x)), .int (nI r)]) (rest := []) ⟨hx, hb, hml, hown, hts⟩ (cT_makeDirty l D cI ta.1 ta.2.1 ta.2.2.1 ta.2.2.2.1 ta.2.2.2.2.1 ta.2.2.2.2.2 (g1.1, g1.2.1, g1.2.2.1, u2, u3) fb (rP x) (nI r) hpg) gX3_takeIntoTables_X2_makeDirty rfl hd_X2_makeDirty ⟨Nat.le_of_ble_eq_true rfl, Nat.le_of_ble_eq_true rfl⟩ hw rfl rfl rfl rfl rfl hl.1 (Nat.le_of_ble_eq_true rfl) dX3_takeIntoTables_141 ⟨Nat.le_of_ble_eq_true rfl, Nat.le_of_ble_eq_true rfl⟩ (fun rv u H locs hq2 hw => ?_)
      obtain ⟨u5, rfl⟩ : ∃ q, q = u := ⟨_, rfl⟩
      obtain ⟨rfl, hu5⟩ := hq2
      have hw : ww D cI _ _ s ([(a, .inr (3, [.ref aL, .ref pa.1, .ref ta.1, .ref da.1, .int (nI C.1), .int (nI C.2.1), .int (nI C.2.2.1), .int (nI C.2.2.2.1), .int (nI C.2.2.2.2.1), .int C.2.2.2.2.2.1, .int C.2.2.2.2.2.2.1, .int C.2.2.2.2.2.2.2.1, .int C.2.2.2.2.2.2.2.2]))] ++ (wL cI aL b L f ++ (wG cI pa G ++ (wT cI ta (g1.1, g1.2.1, g1.2.2.1, u2, u3) u5 ++ wT cI da v2 fb2)))) H locs := hw
      refine W.eq (g2 := F0 m 144 ls []) rfl ?_
      refine lv_goto (tgt := 194) hx hb dX3_takeIntoTables_144 (by decide) ?_
      exact ww_vret (u := ((g1.1, g1.2.1, g1.2.2.1, u2, u3), u5)) hx hb hr hlk hw (⟨by rw [← tk_eq hw0 hT1e (by simp only [tkE, hq]; rfl)]; exact hT3, by rw [tkB_d hw0 (by omega)]; exact BR_dirty hB hpg hr31 hu5⟩) (Nat.le_of_ble_eq_true rfl) (Nat.le_of_ble_eq_true rfl) rfl dX3_takeIntoTables_194
    · refine lv_iload_n hx hb dX3_takeIntoTables_42 rfl (lv_at hl 1 rfl) ?_
      refine lv_eqi (show _ = nI 3 from by rw [hq]) ?_
      refine lv_tableIn (tgt := 147) (off := 104) hx hb dX3_takeIntoTables_43 (by decide +kernel) (by decide +kernel) (by decide +kernel) (by decide) ?_
      refine lv_aload_n hx hb dX3_takeIntoTables_147 rfl (lv_at hl 2 rfl) ?_
      refine ww_get hx hb hts hin3 hown hw 0 rfl rfl 2 (by decide) k26 rfl dX3_takeIntoTables_148 ?_
      refine lv_iload_n hx hb dX3_takeIntoTables_151 rfl (lv_at hl 0 rfl) ?_
      refine lv_iconst (v := nI 4) hx hb dX3_takeIntoTables_152 (by decide +kernel) ?_
      refine ww_callV ([(a, .inr (3, [.ref aL, .ref pa.1, .ref ta.1, .ref da.1, .int (nI C.1), .int (nI C.2.1), .int (nI C.2.2.1), .int (nI C.2.2.2.1), .int (nI C.2.2.2.2.1), .int C.2.2.2.2.2.1, .int C.2.2.2.2.2.2.1, .int C.2.2.2.2.2.2.2.1, .int C.2.2.2.2.2.2.2.2]))] ++ (wL cI aL b L f ++ wG cI pa G)) (wT cI da v2 fb2) (As := [.int (nI (rW x)), .int (nI 4)]) (rest := []) ⟨hx, hb, hml, hown, hts⟩ (cT_setState l D cI ta.1 ta.2.1 ta.2.2.1 ta.2.2.2.1 ta.2.2.2.2.1 ta.2.2.2.2.2 (g1.1, g1.2.1, g1.2.2.1, u2, g1.2.2.2.2) fb _ hT2 (rW x) 4 (by omega) (by simp [va_up]; exact hp1) (by decide)) gX3_takeIntoTables_X2_setState rfl hd_X2_setState ⟨Nat.le_of_ble_eq_true rfl, Nat.le_of_ble_eq_true rfl⟩ hw rfl rfl rfl rfl rfl hl.1 (Nat.le_of_ble_eq_true rfl) dX3_takeIntoTables_153 ⟨Nat.le_of_ble_eq_true rfl, Nat.le_of_ble_eq_true rfl⟩ (fun rv u H locs hq2 hw => ?_)
      obtain ⟨u3, rfl⟩ : ∃ q, q = u := ⟨_, rfl⟩
      obtain ⟨rfl, hT3⟩ := hq2
      have hw : ww D cI _ _ s ([(a, .inr (3, [.ref aL, .ref pa.1, .ref ta.1, .ref da.1, .int (nI C.1), .int (nI C.2.1), .int (nI C.2.2.1), .int (nI C.2.2.2.1), .int (nI C.2.2.2.2.1), .int C.2.2.2.2.2.1, .int C.2.2.2.2.2.2.1, .int C.2.2.2.2.2.2.2.1, .int C.2.2.2.2.2.2.2.2]))] ++ (wL cI aL b L f ++ (wG cI pa G ++ (wT cI ta (g1.1, g1.2.1, u3, u2, g1.2.2.2.2) fb ++ wT cI da v2 fb2)))) H locs := hw
      refine W.eq (g2 := F0 m 156 ls []) rfl ?_
      rw [up4 T1 (rW x) ((T1 (rW x)).1, r, (T1 (rW x)).2.2) (fun q => (4, q.2.1, q.2.2))] at hT3
      try dsimp only at hT3
      refine lv_goto (tgt := 194) hx hb dX3_takeIntoTables_156 (by decide) ?_
      exact ww_vret (u := ((g1.1, g1.2.1, u3, u2, g1.2.2.2.2), fb)) hx hb hr hlk hw (⟨by rw [← tk_eq hw0 hT1e (by simp only [tkE, hq]; rfl)]; exact hT3, by rw [tkB_n (by omega)]; exact hB⟩) (Nat.le_of_ble_eq_true rfl) (Nat.le_of_ble_eq_true rfl) rfl dX3_takeIntoTables_194
    · refine lv_iload_n hx hb dX3_takeIntoTables_42 rfl (lv_at hl 1 rfl) ?_
      refine lv_eqi (show _ = nI 4 from by rw [hq]) ?_
      refine lv_tableIn (tgt := 159) (off := 116) hx hb dX3_takeIntoTables_43 (by decide +kernel) (by decide +kernel) (by decide +kernel) (by decide) ?_
      refine lv_aload_n hx hb dX3_takeIntoTables_159 rfl (lv_at hl 2 rfl) ?_
      refine ww_get hx hb hts hin3 hown hw 0 rfl rfl 2 (by decide) k26 rfl dX3_takeIntoTables_160 ?_
      refine lv_iload_n hx hb dX3_takeIntoTables_163 rfl (lv_at hl 0 rfl) ?_
      refine lv_iconst (v := nI 2) hx hb dX3_takeIntoTables_164 (by decide +kernel) ?_
      refine ww_callV ([(a, .inr (3, [.ref aL, .ref pa.1, .ref ta.1, .ref da.1, .int (nI C.1), .int (nI C.2.1), .int (nI C.2.2.1), .int (nI C.2.2.2.1), .int (nI C.2.2.2.2.1), .int C.2.2.2.2.2.1, .int C.2.2.2.2.2.2.1, .int C.2.2.2.2.2.2.2.1, .int C.2.2.2.2.2.2.2.2]))] ++ (wL cI aL b L f ++ wG cI pa G)) (wT cI da v2 fb2) (As := [.int (nI (rW x)), .int (nI 2)]) (rest := []) ⟨hx, hb, hml, hown, hts⟩ (cT_setState l D cI ta.1 ta.2.1 ta.2.2.1 ta.2.2.2.1 ta.2.2.2.2.1 ta.2.2.2.2.2 (g1.1, g1.2.1, g1.2.2.1, u2, g1.2.2.2.2) fb _ hT2 (rW x) 2 (by omega) (by simp [va_up]; exact hp1) (by decide)) gX3_takeIntoTables_X2_setState rfl hd_X2_setState ⟨Nat.le_of_ble_eq_true rfl, Nat.le_of_ble_eq_true rfl⟩ hw rfl rfl rfl rfl rfl hl.1 (Nat.le_of_ble_eq_true rfl) dX3_takeIntoTables_165 ⟨Nat.le_of_ble_eq_true rfl, Nat.le_of_ble_eq_true rfl⟩ (fun rv u H locs hq2 hw => ?_)
      obtain ⟨u3, rfl⟩ : ∃ q, q = u := ⟨_, rfl⟩
      obtain ⟨rfl, hT3⟩ := hq2
      have hw : ww D cI _ _ s ([(a, .inr (3, [.ref aL, .ref pa.1, .ref ta.1, .ref da.1, .int (nI C.1), .int (nI C.2.1), .int (nI C.2.2.1), .int (nI C.2.2.2.1), .int (nI C.2.2.2.2.1), .int C.2.2.2.2.2.1, .int C.2.2.2.2.2.2.1, .int C.2.2.2.2.2.2.2.1, .int C.2.2.2.2.2.2.2.2]))] ++ (wL cI aL b L f ++ (wG cI pa G ++ (wT cI ta (g1.1, g1.2.1, u3, u2, g1.2.2.2.2) fb ++ wT cI da v2 fb2)))) H locs := hw
      refine W.eq (g2 := F0 m 168 ls []) rfl ?_
      rw [up4 T1 (rW x) ((T1 (rW x)).1, r, (T1 (rW x)).2.2) (fun q => (2, q.2.1, q.2.2))] at hT3
      try dsimp only at hT3
      refine lv_goto (tgt := 194) hx hb dX3_takeIntoTables_168 (by decide) ?_
      exact ww_vret (u := ((g1.1, g1.2.1, u3, u2, g1.2.2.2.2), fb)) hx hb hr hlk hw (⟨by rw [← tk_eq hw0 hT1e (by simp only [tkE, hq]; rfl)]; exact hT3, by rw [tkB_n (by omega)]; exact hB⟩) (Nat.le_of_ble_eq_true rfl) (Nat.le_of_ble_eq_true rfl) rfl dX3_takeIntoTables_194
    · refine lv_iload_n hx hb dX3_takeIntoTables_42 rfl (lv_at hl 1 rfl) ?_
      refine lv_eqi (show _ = nI 5 from by rw [hq]) ?_
      refine lv_tableIn (tgt := 183) (off := 140) hx hb dX3_takeIntoTables_43 (by decide +kernel) (by decide +kernel) (by decide +kernel) (by decide) ?_
      refine lv_aload_n hx hb dX3_takeIntoTables_183 rfl (lv_at hl 2 rfl) ?_
      refine ww_get hx hb hts hin3 hown hw 0 rfl rfl 2 (by decide) k26 rfl dX3_takeIntoTables_184 ?_
      refine lv_iload_n hx hb dX3_takeIntoTables_187 rfl (lv_at hl 0 rfl) ?_
      refine ww_callV ([(a, .inr (3, [.ref aL, .ref pa.1, .ref ta.1, .ref da.1, .int (nI C.1), .int (nI C.2.1), .int (nI C.2.2.1), .int (nI C.2.2.2.1), .int (nI C.2.2.2.2.1), .int C.2.2.2.2.2.1, .int C.2.2.2.2.2.2.1, .int C.2.2.2.2.2.2.2.1, .int C.2.2.2.2.2.2.2.2]))] ++ (wL cI aL b L f ++ wG cI pa G)) (wT cI da v2 fb2) (As := [.int (nI (rW x))]) (rest := []) ⟨hx, hb, hml, hown, hts⟩ (cT_takeOut l D cI ta.1 ta.2.1 ta.2.2.1 ta.2.2.2.1 ta.2.2.2.2.1 ta.2.2.2.2.2 (g1.1, g1.2.1, g1.2.2.1, u2, g1.2.2.2.2) fb _ hT2 (rW x) (by omega) (by simp [va_up]; exact hp1)) gX3_takeIntoTables_X2_takeOut rfl hd_X2_takeOut ⟨Nat.le_of_ble_eq_true rfl, Nat.le_of_ble_eq_true rfl⟩ hw rfl rfl rfl rfl rfl hl.1 (Nat.le_of_ble_eq_true rfl) dX3_takeIntoTables_188 ⟨Nat.le_of_ble_eq_true rfl, Nat.le_of_ble_eq_true rfl⟩ (fun rv u H locs hq2 hw => ?_)
      obtain ⟨g3, rfl⟩ : ∃ q, q = u := ⟨_, rfl⟩
      obtain ⟨rfl, hT3⟩ := hq2
      have hw : ww D cI _ _ s ([(a, .inr (3, [.ref aL, .ref pa.1, .ref ta.1, .ref da.1, .int (nI C.1), .int (nI C.2.1), .int (nI C.2.2.1), .int (nI C.2.2.2.1), .int (nI C.2.2.2.2.1), .int C.2.2.2.2.2.1, .int C.2.2.2.2.2.2.1, .int C.2.2.2.2.2.2.2.1, .int C.2.2.2.2.2.2.2.2]))] ++ (wL cI aL b L f ++ (wG cI pa G ++ (wT cI ta g3 fb ++ wT cI da v2 fb2)))) H locs := hw
      refine W.eq (g2 := F0 m 191 ls []) rfl ?_
      rw [up4 T1 (rW x) ((T1 (rW x)).1, r, (T1 (rW x)).2.2) (fun q => (0, 0, 0))] at hT3
      try dsimp only at hT3
      refine lv_goto (tgt := 194) hx hb dX3_takeIntoTables_191 (by decide) ?_
      exact ww_vret (u := (g3, fb)) hx hb hr hlk hw (⟨by rw [← tk_eq hw0 hT1e (by simp only [tkE, hq]; rfl)]; exact hT3, by rw [tkB_n (by omega)]; exact hB⟩) (Nat.le_of_ble_eq_true rfl) (Nat.le_of_ble_eq_true rfl) rfl dX3_takeIntoTables_194
    · refine lv_iload_n hx hb dX3_takeIntoTables_42 rfl (lv_at hl 1 rfl) ?_
      refine lv_eqi (show _ = nI 6 from by rw [hq]) ?_
      refine lv_tableIn (tgt := 171) (off := 128) hx hb dX3_takeIntoTables_43 (by decide +kernel) (by decide +kernel) (by decide +kernel) (by decide) ?_
      refine lv_aload_n hx hb dX3_takeIntoTables_171 rfl (lv_at hl 2 rfl) ?_
      refine ww_get hx hb hts hin3 hown hw 0 rfl rfl 2 (by decide) k26 rfl dX3_takeIntoTables_172 ?_
      refine lv_iload_n hx hb dX3_takeIntoTables_175 rfl (lv_at hl 0 rfl) ?_
      refine lv_iconst (v := nI 3) hx hb dX3_takeIntoTables_176 (by decide +kernel) ?_
      refine ww_callV ([(a, .inr (3, [.ref aL, .ref pa.1, .ref ta.1, .ref da.1, .int (nI C.1), .int (nI C.2.1), .int (nI C.2.2.1), .int (nI C.2.2.2.1), .int (nI C.2.2.2.2.1), .int C.2.2.2.2.2.1, .int C.2.2.2.2.2.2.1, .int C.2.2.2.2.2.2.2.1, .int C.2.2.2.2.2.2.2.2]))] ++ (wL cI aL b L f ++ wG cI pa G)) (wT cI da v2 fb2) (As := [.int (nI (rW x)), .int (nI 3)]) (rest := []) ⟨hx, hb, hml, hown, hts⟩ (cT_setState l D cI ta.1 ta.2.1 ta.2.2.1 ta.2.2.2.1 ta.2.2.2.2.1 ta.2.2.2.2.2 (g1.1, g1.2.1, g1.2.2.1, u2, g1.2.2.2.2) fb _ hT2 (rW x) 3 (by omega) (by simp [va_up]; exact hp1) (by decide)) gX3_takeIntoTables_X2_setState rfl hd_X2_setState ⟨Nat.le_of_ble_eq_true rfl, Nat.le_of_ble_eq_true rfl⟩ hw rfl rfl rfl rfl rfl hl.1 (Nat.le_of_ble_eq_true rfl) dX3_takeIntoTables_177 ⟨Nat.le_of_ble_eq_true rfl, Nat.le_of_ble_eq_true rfl⟩ (fun rv u H locs hq2 hw => ?_)
      obtain ⟨u3, rfl⟩ : ∃ q, q = u := ⟨_, rfl⟩
      obtain ⟨rfl, hT3⟩ := hq2
      have hw : ww D cI _ _ s ([(a, .inr (3, [.ref aL, .ref pa.1, .ref ta.1, .ref da.1, .int (nI C.1), .int (nI C.2.1), .int (nI C.2.2.1), .int (nI C.2.2.2.1), .int (nI C.2.2.2.2.1), .int C.2.2.2.2.2.1, .int C.2.2.2.2.2.2.1, .int C.2.2.2.2.2.2.2.1, .int C.2.2.2.2.2.2.2.2]))] ++ (wL cI aL b L f ++ (wG cI pa G ++ (wT cI ta (g1.1, g1.2.1, u3, u2, g1.2.2.2.2) fb ++ wT cI da v2 fb2)))) H locs := hw
      refine W.eq (g2 := F0 m 180 ls []) rfl ?_
      rw [up4 T1 (rW x) ((T1 (rW x)).1, r, (T1 (rW x)).2.2) (fun q => (3, q.2.1, q.2.2))] at hT3
      try dsimp only at hT3
      refine lv_goto (tgt := 194) hx hb dX3_takeIntoTables_180 (by decide) ?_
      exact ww_vret (u := ((g1.1, g1.2.1, u3, u2, g1.2.2.2.2), fb)) hx hb hr hlk hw (⟨by rw [← tk_eq hw0 hT1e (by simp only [tkE, hq]; rfl)]; exact hT3, by rw [tkB_n (by omega)]; exact hB⟩) (Nat.le_of_ble_eq_true rfl) (Nat.le_of_ble_eq_true rfl) rfl dX3_takeIntoTables_194
    · refine lv_iload_n hx hb dX3_takeIntoTables_42 rfl (lv_at hl 1 rfl) ?_
      refine lv_eqi (show _ = nI 7 from by rw [hq]) ?_
      refine lv_tableOut (tgt := 194) hx hb dX3_takeIntoTables_43 (by decide +kernel) (by decide) ?_
      exact ww_vret (u := ((g1.1, g1.2.1, g1.2.2.1, u2, g1.2.2.2.2), fb)) hx hb hr hlk hw (⟨by rw [← tk_eq hw0 hT1e (by simp only [tkE, hq]; rfl)]; exact hT2, by rw [tkB_n (by omega)]; exact hB⟩) (Nat.le_of_ble_eq_true rfl) (Nat.le_of_ble_eq_true rfl) rfl dX3_takeIntoTables_194
    · refine lv_iload_n hx hb dX3_takeIntoTables_42 rfl (lv_at hl 1 rfl) ?_
      refine lv_eqi (show _ = nI 8 from by rw [hq]) ?_
      refine lv_tableOut (tgt := 194) hx hb dX3_takeIntoTables_43 (by decide +kernel) (by decide) ?_
      exact ww_vret (u := ((g1.1, g1.2.1, g1.2.2.1, u2, g1.2.2.2.2), fb)) hx hb hr hlk hw (⟨by rw [← tk_eq hw0 hT1e (by simp only [tkE, hq]; rfl)]; exact hT2, by rw [tkB_n (by omega)]; exact hB⟩) (Nat.le_of_ble_eq_true rfl) (Nat.le_of_ble_eq_true rfl) rfl dX3_takeIntoTables_194
  · exact ww_vret (u := (v, fb)) hx hb hr hlk hw (by have hw0 : rW x = 0 := (nI_eq (by omega) (by omega)).mp (by rw [nI_0]; exact c_21); exact ⟨by rw [tkT, if_pos hw0]; exact h, by rw [tkB, if_neg (fun q => q.1 hw0)]; exact hB⟩) (Nat.le_of_ble_eq_true rfl) (Nat.le_of_ble_eq_true rfl) rfl dX3_takeIntoTables_24
set_option maxHeartbeats 4000000 in
set_option maxRecDepth 100000 in
theorem cB_carryOut (l : Launch) (D : va_G) (cI : ClassId) (a aL b : Nat) (pa : A5) (ta da : A6) (C : CX) (L : LG) (f : Nat → Int32) (G : PG) (v v2 : TW) (fb fb2 : Nat → Int32) (r : Nat) (x : Rc) (hL : LOk L f) (h1 : 1 ≤ r) (h2 : r ≤ L.1) (hxr : L.2.2.2.2 r = x) (hpg : rP x < 64) (hwd : rD x < 8) : Kt l yX3_carryOut wsX3_carryOut 2 45 (0) (0) D cI [.ref a, .int (nI r)] ([(a, .inr (3, [.ref aL, .ref pa.1, .ref ta.1, .ref da.1, .int (nI C.1), .int (nI C.2.1), .int (nI C.2.2.1), .int (nI C.2.2.2.1), .int (nI C.2.2.2.2.1), .int C.2.2.2.2.2.1, .int C.2.2.2.2.2.2.1, .int C.2.2.2.2.2.2.2.1, .int C.2.2.2.2.2.2.2.2]))] ++ (wL cI aL b L f ++ (wG cI pa G ++ (wT cI ta v fb ++ wT cI da v2 fb2)))) (pV (fun (u : Unit) => True)) (fun (u : Unit) => [(a, .inr (3, [.ref aL, .ref pa.1, .ref ta.1, .ref da.1, .int (nI C.1), .int (nI C.2.1), .int (nI C.2.2.1), .int (nI C.2.2.2.1), .int (nI C.2.2.2.2.1), .int C.2.2.2.2.2.1, .int C.2.2.2.2.2.2.1, .int C.2.2.2.2.2.2.2.1, .int C.2.2.2.2.2.2.2.2]))] ++ (wL cI aL b L f ++ (wG cI pa (apP G r x) ++ (wT cI ta v fb ++ wT cI da v2 fb2)))) := by
  refine kt_start (cc := cX3_carryOut) (maxL := 2) (ret := none) (by decide +kernel) rfl (Nat.le_of_ble_eq_true rfl) ?_
  intro p e s m below meth c hx hb hml hr hlk hown hnm hts ls hl hw
  have hown : s.vm.findClass RX3 = some m.cls := hown
  have hl : lv_has ls 2 [(0, .ref a), (1, .int (nI r))] := hl
  have k10 := hts (.fieldLink RX3 10 "RestartBook" "log" "LRestartBook$Log;") (by decide +kernel)
  have k19 := hts (.fieldLink RX3 19 "RestartBook" "pages" "LRestartBook$Pages;") (by decide +kernel)
  have hin3 : ∀ w ∈ u_ws RX3 TX3 13, w ∈ wsX3_carryOut := in_X3_carryOut
  refine lv_aload_n hx hb dX3_carryOut_0 rfl (lv_at hl 0 rfl) ?_
  refine ww_get hx hb hts hin3 hown hw 0 rfl rfl 1 (by decide) k19 rfl dX3_carryOut_1 ?_
  refine lv_aload_n hx hb dX3_carryOut_4 rfl (lv_at hl 0 rfl) ?_
  refine ww_get hx hb hts hin3 hown hw 0 rfl rfl 0 (by decide) k10 rfl dX3_carryOut_5 ?_
  refine lv_iload_n hx hb dX3_carryOut_8 rfl (lv_at hl 1 rfl) ?_
  refine lv_iconst (v := nI 3) hx hb dX3_carryOut_9 (by decide +kernel) ?_
  refine ww_callV ([(a, .inr (3, [.ref aL, .ref pa.1, .ref ta.1, .ref da.1, .int (nI C.1), .int (nI C.2.1), .int (nI C.2.2.1), .int (nI C.2.2.2.1), .int (nI C.2.2.2.2.1), .int C.2.2.2.2.2.1, .int C.2.2.2.2.2.2.1, .int C.2.2.2.2.2.2.2.1, .int C.2.2.2.2.2.2.2.2]))]) (wG cI pa G ++ (wT cI ta v fb ++ wT cI da v2 fb2)) (As := [.int (nI r), .int (nI 3)]) (rest := [.ref pa.1]) ⟨hx, hb, hml, hown, hts⟩ (cL_read l D cI aL b L.2.2.2.1 L.1 L.2.1 L.2.2.1 f r 3 hL.2.1 (by have := hL.2.2.2.1; omega) (by have := hL.2.1; have := hL.2.2.2.1; omega) (by omega)) gX3_carryOut_X0_read rfl hd_X0_read ⟨Nat.le_of_ble_eq_true rfl, Nat.le_of_ble_eq_true rfl⟩ hw rfl rfl rfl rfl rfl hl.1 (Nat.le_of_ble_eq_true rfl) dX3_carryOut_10 ⟨Nat.le_of_ble_eq_true rfl, Nat.le_of_ble_eq_true rfl⟩ (fun rv u H locs hq hw => ?_)
  obtain ⟨rr, rfl, hq⟩ := hq
  have hw : ww D cI _ _ s ([(a, .inr (3, [.ref aL, .ref pa.1, .ref ta.1, .ref da.1, .int (nI C.1), .int (nI C.2.1), .int (nI C.2.2.1), .int (nI C.2.2.2.1), .int (nI C.2.2.2.2.1), .int C.2.2.2.2.2.1, .int C.2.2.2.2.2.2.1, .int C.2.2.2.2.2.2.2.1, .int C.2.2.2.2.2.2.2.2]))] ++ (wL cI aL b L f ++ (wG cI pa G ++ (wT cI ta v fb ++ wT cI da v2 fb2)))) H locs := hw
  refine W.eq (g2 := F0 m 13 ls [.int (rr), .ref pa.1]) rfl ?_
  refine lv_eqi (show _ = nI (rP x) from hq.trans ((LRep_rd hL.1 h1 h2 (by omega)).trans (by rw [hxr]; rfl))) ?_
  refine lv_aload_n hx hb dX3_carryOut_13 rfl (lv_at hl 0 rfl) ?_
  refine ww_get hx hb hts hin3 hown hw 0 rfl rfl 0 (by decide) k10 rfl dX3_carryOut_14 ?_
  refine lv_iload_n hx hb dX3_carryOut_17 rfl (lv_at hl 1 rfl) ?_
  refine lv_iconst (v := nI 4) hx hb dX3_carryOut_18 (by decide +kernel) ?_
  refine ww_callV ([(a, .inr (3, [.ref aL, .ref pa.1, .ref ta.1, .ref da.1, .int (nI C.1), .int (nI C.2.1), .int (nI C.2.2.1), .int (nI C.2.2.2.1), .int (nI C.2.2.2.2.1), .int C.2.2.2.2.2.1, .int C.2.2.2.2.2.2.1, .int C.2.2.2.2.2.2.2.1, .int C.2.2.2.2.2.2.2.2]))]) (wG cI pa G ++ (wT cI ta v fb ++ wT cI da v2 fb2)) (As := [.int (nI r), .int (nI 4)]) (rest := [.int (nI (rP x)), .ref pa.1]) ⟨hx, hb, hml, hown, hts⟩ (cL_read l D cI aL b L.2.2.2.1 L.1 L.2.1 L.2.2.1 f r 4 hL.2.1 (by have := hL.2.2.2.1; omega) (by have := hL.2.1; have := hL.2.2.2.1; omega) (by omega)) gX3_carryOut_X0_read rfl hd_X0_read ⟨Nat.le_of_ble_eq_true rfl, Nat.le_of_ble_eq_true rfl⟩ hw rfl rfl rfl rfl rfl hl.1 (Nat.le_of_ble_eq_true rfl) dX3_carryOut_19 ⟨Nat.le_of_ble_eq_true rfl, Nat.le_of_ble_eq_true rfl⟩ (fun rv u H locs hq hw => ?_)
  obtain ⟨rr, rfl, hq⟩ := hq
  have hw : ww D cI _ _ s ([(a, .inr (3, [.ref aL, .ref pa.1, .ref ta.1, .ref da.1, .int (nI C.1), .int (nI C.2.1), .int (nI C.2.2.1), .int (nI C.2.2.2.1), .int (nI C.2.2.2.2.1), .int C.2.2.2.2.2.1, .int C.2.2.2.2.2.2.1, .int C.2.2.2.2.2.2.2.1, .int C.2.2.2.2.2.2.2.2]))] ++ (wL cI aL b L f ++ (wG cI pa G ++ (wT cI ta v fb ++ wT cI da v2 fb2)))) H locs := hw
  refine W.eq (g2 := F0 m 22 ls [.int (rr), .int (nI (rP x)), .ref pa.1]) rfl ?_
  refine lv_eqi (show _ = nI (rD x) from hq.trans ((LRep_rd hL.1 h1 h2 (by omega)).trans (by rw [hxr]; rfl))) ?_
  refine lv_aload_n hx hb dX3_carryOut_22 rfl (lv_at hl 0 rfl) ?_
  refine W.eq (g2 := F0 m 23 ls [.ref a, .int (nI (rD x)), .int (nI (rP x)), .ref pa.1]) rfl ?_
  refine ww_get hx hb hts hin3 hown hw 0 rfl rfl 0 (by decide) k10 rfl dX3_carryOut_23 ?_
  refine lv_iload_n hx hb dX3_carryOut_26 rfl (lv_at hl 1 rfl) ?_
  refine lv_iconst (v := nI 5) hx hb dX3_carryOut_27 (by decide +kernel) ?_
  refine ww_callV ([(a, .inr (3, [.ref aL, .ref pa.1, .ref ta.1, .ref da.1, .int (nI C.1), .int (nI C.2.1), .int (nI C.2.2.1), .int (nI C.2.2.2.1), .int (nI C.2.2.2.2.1), .int C.2.2.2.2.2.1, .int C.2.2.2.2.2.2.1, .int C.2.2.2.2.2.2.2.1, .int C.2.2.2.2.2.2.2.2]))]) (wG cI pa G ++ (wT cI ta v fb ++ wT cI da v2 fb2)) (As := [.int (nI r), .int (nI 5)]) (rest := [.int (nI (rD x)), .int (nI (rP x)), .ref pa.1]) ⟨hx, hb, hml, hown, hts⟩ (cL_read l D cI aL b L.2.2.2.1 L.1 L.2.1 L.2.2.1 f r 5 hL.2.1 (by have := hL.2.2.2.1; omega) (by have := hL.2.1; have := hL.2.2.2.1; omega) (by omega)) gX3_carryOut_X0_read rfl hd_X0_read ⟨Nat.le_of_ble_eq_true rfl, Nat.le_of_ble_eq_true rfl⟩ hw rfl rfl rfl rfl rfl hl.1 (Nat.le_of_ble_eq_true rfl) dX3_carryOut_28 ⟨Nat.le_of_ble_eq_true rfl, Nat.le_of_ble_eq_true rfl⟩ (fun rv u H locs hq hw => ?_)
  obtain ⟨rr, rfl, hq⟩ := hq
  have hw : ww D cI _ _ s ([(a, .inr (3, [.ref aL, .ref pa.1, .ref ta.1, .ref da.1, .int (nI C.1), .int (nI C.2.1), .int (nI C.2.2.1), .int (nI C.2.2.2.1), .int (nI C.2.2.2.2.1), .int C.2.2.2.2.2.1, .int C.2.2.2.2.2.2.1, .int C.2.2.2.2.2.2.2.1, .int C.2.2.2.2.2.2.2.2]))] ++ (wL cI aL b L f ++ (wG cI pa G ++ (wT cI ta v fb ++ wT cI da v2 fb2)))) H locs := hw
  refine W.eq (g2 := F0 m 31 ls [.int (rr), .int (nI (rD x)), .int (nI (rP x)), .ref pa.1]) rfl ?_
  refine lv_eqi (show _ = rM x from hq.trans ((LRep_rd hL.1 h1 h2 (by omega)).trans (by rw [hxr]; rfl))) ?_
  refine lv_iload_n hx hb dX3_carryOut_31 rfl (lv_at hl 1 rfl) ?_
  refine ww_callV ([(a, .inr (3, [.ref aL, .ref pa.1, .ref ta.1, .ref da.1, .int (nI C.1), .int (nI C.2.1), .int (nI C.2.2.1), .int (nI C.2.2.2.1), .int (nI C.2.2.2.2.1), .int C.2.2.2.2.2.1, .int C.2.2.2.2.2.2.1, .int C.2.2.2.2.2.2.2.1, .int C.2.2.2.2.2.2.2.2]))] ++ wL cI aL b L f) (wT cI ta v fb ++ wT cI da v2 fb2) (As := [.int (nI (rP x)), .int (nI (rD x)), .int (rM x), .int (nI r)]) (rest := []) ⟨hx, hb, hml, hown, hts⟩ (cP_change l D cI pa.1 pa.2.1 pa.2.2.1 pa.2.2.2.1 pa.2.2.2.2 G.1 G.2.1 G.2.2.1 G.2.2.2 (rP x) (rD x) (rM x) (nI r) hpg hwd) gX3_carryOut_X1_change rfl hd_X1_change ⟨Nat.le_of_ble_eq_true rfl, Nat.le_of_ble_eq_true rfl⟩ hw rfl rfl rfl rfl rfl hl.1 (Nat.le_of_ble_eq_true rfl) dX3_carryOut_32 ⟨Nat.le_of_ble_eq_true rfl, Nat.le_of_ble_eq_true rfl⟩ (fun rv u H locs hq hw => ?_)
  obtain ⟨rfl, -⟩ := hq
  have hw : ww D cI _ _ s ([(a, .inr (3, [.ref aL, .ref pa.1, .ref ta.1, .ref da.1, .int (nI C.1), .int (nI C.2.1), .int (nI C.2.2.1), .int (nI C.2.2.2.1), .int (nI C.2.2.2.2.1), .int C.2.2.2.2.2.1, .int C.2.2.2.2.2.2.1, .int C.2.2.2.2.2.2.2.1, .int C.2.2.2.2.2.2.2.2]))] ++ (wL cI aL b L f ++ (wG cI pa (apP G r x) ++ (wT cI ta v fb ++ wT cI da v2 fb2)))) H locs := hw
  refine W.eq (g2 := F0 m 35 ls []) rfl ?_
  exact ww_vret (u := ()) hx hb hr hlk hw (trivial) (Nat.le_of_ble_eq_true rfl) (Nat.le_of_ble_eq_true rfl) rfl dX3_carryOut_35
end
section
/-! RestartBook: a record of a work; a change is undone -/
theorem gr_c {L : LG} {x : Rc} (h : 7 ≤ L.2.2.2.1) : 0 + (if L.2.2.2.1 < L.1 * 7 + 7 then 1 else 0) ≤ (apL L x).2.2.2.1 - L.2.2.2.1 := by
  show 0 + (if L.2.2.2.1 < L.1 * 7 + 7 then 1 else 0) ≤ (if L.2.2.2.1 < L.1 * 7 + 7 then L.2.2.2.1 * 2 else L.2.2.2.1) - L.2.2.2.1
  split <;> omega
theorem gr_s {L : LG} {x : Rc} : 0 + (if L.2.2.2.1 < L.1 * 7 + 7 then L.2.2.2.1 * 2 else 0) ≤ 2 * ((apL L x).2.2.2.1 - L.2.2.2.1) := by
  show 0 + (if L.2.2.2.1 < L.1 * 7 + 7 then L.2.2.2.1 * 2 else 0) ≤ 2 * ((if L.2.2.2.1 < L.1 * 7 + 7 then L.2.2.2.1 * 2 else L.2.2.2.1) - L.2.2.2.1)
  split <;> omega
theorem LOk_add {L : LG} {f f2 : Nat → Int32} {x : Rc} (h : LOk L f) (hn : L.1 < 2 ^ 20) (g : (∀ i, i < L.1 * 7 → f2 i = f i) ∧ f2 (L.1 * 7) = nI (rK x) ∧ f2 (L.1 * 7 + 1) = nI (rW x) ∧ f2 (L.1 * 7 + 2) = nI (rB x) ∧ f2 (L.1 * 7 + 3) = nI (rP x) ∧ f2 (L.1 * 7 + 4) = nI (rD x) ∧ f2 (L.1 * 7 + 5) = rM x ∧ f2 (L.1 * 7 + 6) = nI (rG x)) : LOk (apL L x) f2 := by
  obtain ⟨a1, a2, a3, a4, a5⟩ := h
  refine ⟨LRep_add a1 x g, ?_, ?_, ?_, ?_⟩
  · show (L.1 + 1) * 7 ≤ (if L.2.2.2.1 < L.1 * 7 + 7 then L.2.2.2.1 * 2 else L.2.2.2.1)
    split <;> omega
  · show 7 ≤ (if L.2.2.2.1 < L.1 * 7 + 7 then L.2.2.2.1 * 2 else L.2.2.2.1)
    split <;> omega
  · show (if L.2.2.2.1 < L.1 * 7 + 7 then L.2.2.2.1 * 2 else L.2.2.2.1) < 2 ^ 25
    split <;> omega
  · show L.2.1 ≤ L.1 + 1
    omega
theorem ub_rd {f : Nat → Int32} {n c bf : Nat} {R : Nat → Rc} (h : LRep f n R) (hb : rB (R c) = bf) (hbn : bf ≤ n) (hn : n < 2 ^ 31) (hK : ∀ r, 1 ≤ r → r ≤ n → rK (R r) ≤ 8) : (if lrd f n bf 0 = nI 2 then lrd f n bf 6 else nI bf) = nI (ub R c) := by
  by_cases z : bf = 0
  · have e : lrd f n bf 0 = 0 := by rw [lrd, if_neg (by omega)]
    rw [e, if_neg (by decide), ub, if_neg (by rw [hb]; exact fun q => q.1 z), hb]
  · have h1 : 1 ≤ bf := by omega
    rw [LRep_rd h h1 hbn (by omega), LRep_rd h h1 hbn (by omega)]
    have hk := hK bf h1 hbn
    by_cases q : rK (R bf) = 2
    · rw [if_pos (show rcF (R bf) 0 = nI 2 by show nI (rK (R bf)) = nI 2; rw [q]), ub, if_pos (by rw [hb]; exact ⟨z, q⟩), hb]
      rfl
    · rw [if_neg (show ¬ rcF (R bf) 0 = nI 2 from fun k => q ((nI_eq (by omega) (by omega)).mp k)), ub, if_neg (by rw [hb]; exact fun k => q k.2), hb]
set_option maxHeartbeats 4000000 in
set_option maxRecDepth 100000 in
theorem cB_appendOfWork (l : Launch) (D : va_G) (cI : ClassId) (a aL b : Nat) (pa : A5) (ta da : A6) (C : CX) (L : LG) (f : Nat → Int32) (G : PG) (v v2 : TW) (fb fb2 : Nat → Int32) (k w : Nat) (T : TF) (B : Nat → Nat) (hL : LOk L f) (hn : L.1 < 2 ^ 20) (h : TR v T) (hB : BR fb B) (hp : (T w).1 ≠ 0) (hk1 : 3 ≤ k) (hk2 : k ≤ 6) : Kt l yX3_appendOfWork wsX3_appendOfWork 3 68 ((apL L (k, w, (T w).2.1, 0, 0, 0, 0)).2.2.2.1 - L.2.2.2.1) (2 * ((apL L (k, w, (T w).2.1, 0, 0, 0, 0)).2.2.2.1 - L.2.2.2.1)) D cI [.ref a, .int (nI k), .int (nI w)] ([(a, .inr (3, [.ref aL, .ref pa.1, .ref ta.1, .ref da.1, .int (nI C.1), .int (nI C.2.1), .int (nI C.2.2.1), .int (nI C.2.2.2.1), .int (nI C.2.2.2.2.1), .int C.2.2.2.2.2.1, .int C.2.2.2.2.2.2.1, .int C.2.2.2.2.2.2.2.1, .int C.2.2.2.2.2.2.2.2]))] ++ (wL cI aL b L f ++ (wG cI pa G ++ (wT cI ta v fb ++ wT cI da v2 fb2)))) (pI (fun (r : Int32) (u : Nat × (Nat → Int32) × TW × (Nat → Int32)) => r = nI (L.1 + 1) ∧ LOk (apL L (k, w, (T w).2.1, 0, 0, 0, 0)) u.2.1 ∧ TR u.2.2.1 (tkT T (L.1 + 1) (k, w, (T w).2.1, 0, 0, 0, 0)) ∧ BR u.2.2.2 (tkB B (L.1 + 1) (k, w, (T w).2.1, 0, 0, 0, 0)))) (fun (u : Nat × (Nat → Int32) × TW × (Nat → Int32)) => [(a, .inr (3, [.ref aL, .ref pa.1, .ref ta.1, .ref da.1, .int (nI C.1), .int (nI C.2.1), .int (nI C.2.2.1), .int (nI C.2.2.2.1), .int (nI C.2.2.2.2.1), .int C.2.2.2.2.2.1, .int C.2.2.2.2.2.2.1, .int C.2.2.2.2.2.2.2.1, .int C.2.2.2.2.2.2.2.2]))] ++ (wL cI aL u.1 (apL L (k, w, (T w).2.1, 0, 0, 0, 0)) u.2.1 ++ (wG cI pa G ++ (wT cI ta u.2.2.1 u.2.2.2 ++ wT cI da v2 fb2)))) := by
  refine kt_start (cc := cX3_appendOfWork) (maxL := 4) (ret := (some .int)) (by decide +kernel) rfl (Nat.le_of_ble_eq_true rfl) ?_
  intro p e s m below meth c hx hb hml hr hlk hown hnm hts ls hl hw
  have hown : s.vm.findClass RX3 = some m.cls := hown
  have hl : lv_has ls 4 [(0, .ref a), (1, .int (nI k)), (2, .int (nI w))] := hl
  have k10 := hts (.fieldLink RX3 10 "RestartBook" "log" "LRestartBook$Log;") (by decide +kernel)
  have k26 := hts (.fieldLink RX3 26 "RestartBook" "tables" "LRestartBook$Tables;") (by decide +kernel)
  have hin3 : ∀ w ∈ u_ws RX3 TX3 13, w ∈ wsX3_appendOfWork := in_X3_appendOfWork
  have hw200 := (TR_some h hp).2.1
  refine lv_aload_n hx hb dX3_appendOfWork_0 rfl (lv_at hl 0 rfl) ?_
  refine ww_get hx hb hts hin3 hown hw 0 rfl rfl 0 (by decide) k10 rfl dX3_appendOfWork_1 ?_
  refine lv_iload_n hx hb dX3_appendOfWork_4 rfl (lv_at hl 1 rfl) ?_
  refine lv_iload_n hx hb dX3_appendOfWork_5 rfl (lv_at hl 2 rfl) ?_
  refine lv_aload_n hx hb dX3_appendOfWork_6 rfl (lv_at hl 0 rfl) ?_
  refine ww_get hx hb hts hin3 hown hw 0 rfl rfl 2 (by decide) k26 rfl dX3_appendOfWork_7 ?_
  refine lv_iload_n hx hb dX3_appendOfWork_10 rfl (lv_at hl 2 rfl) ?_
  refine ww_callV ([(a, .inr (3, [.ref aL, .ref pa.1, .ref ta.1, .ref da.1, .int (nI C.1), .int (nI C.2.1), .int (nI C.2.2.1), .int (nI C.2.2.2.1), .int (nI C.2.2.2.2.1), .int C.2.2.2.2.2.1, .int C.2.2.2.2.2.2.1, .int C.2.2.2.2.2.2.2.1, .int C.2.2.2.2.2.2.2.2]))] ++ (wL cI aL b L f ++ wG cI pa G)) (wT cI da v2 fb2) (As := [.int (nI w)]) (rest := [.int (nI w), .int (nI k), .ref aL]) ⟨hx, hb, hml, hown, hts⟩ (cT_lastOf l D cI ta.1 ta.2.1 ta.2.2.1 ta.2.2.2.1 ta.2.2.2.2.1 ta.2.2.2.2.2 v fb T h w (by omega) hp) gX3_appendOfWork_X2_lastOf rfl hd_X2_lastOf ⟨Nat.le_of_ble_eq_true rfl, Nat.le_of_ble_eq_true rfl⟩ hw rfl rfl rfl rfl rfl hl.1 (Nat.le_of_ble_eq_true rfl) dX3_appendOfWork_11 ⟨Nat.le_of_ble_eq_true rfl, Nat.le_of_ble_eq_true rfl⟩ (fun rv u H locs hq hw => ?_)
  obtain ⟨rr, rfl, hq⟩ := hq
  subst hq
  have hw : ww D cI _ _ s ([(a, .inr (3, [.ref aL, .ref pa.1, .ref ta.1, .ref da.1, .int (nI C.1), .int (nI C.2.1), .int (nI C.2.2.1), .int (nI C.2.2.2.1), .int (nI C.2.2.2.2.1), .int C.2.2.2.2.2.1, .int C.2.2.2.2.2.2.1, .int C.2.2.2.2.2.2.2.1, .int C.2.2.2.2.2.2.2.2]))] ++ (wL cI aL b L f ++ (wG cI pa G ++ (wT cI ta v fb ++ wT cI da v2 fb2)))) H locs := hw
  refine W.eq (g2 := F0 m 14 ls [.int (nI (T w).2.1), .int (nI w), .int (nI k), .ref aL]) rfl ?_
  refine lv_iconst (v := nI 0) hx hb dX3_appendOfWork_14 (by decide +kernel) ?_
  refine lv_iconst (v := nI 0) hx hb dX3_appendOfWork_15 (by decide +kernel) ?_
  refine lv_iconst (v := nI 0) hx hb dX3_appendOfWork_16 (by decide +kernel) ?_
  refine lv_iconst (v := nI 0) hx hb dX3_appendOfWork_17 (by decide +kernel) ?_
  refine ww_callV ([(a, .inr (3, [.ref aL, .ref pa.1, .ref ta.1, .ref da.1, .int (nI C.1), .int (nI C.2.1), .int (nI C.2.2.1), .int (nI C.2.2.2.1), .int (nI C.2.2.2.2.1), .int C.2.2.2.2.2.1, .int C.2.2.2.2.2.2.1, .int C.2.2.2.2.2.2.2.1, .int C.2.2.2.2.2.2.2.2]))]) (wG cI pa G ++ (wT cI ta v fb ++ wT cI da v2 fb2)) (As := [.int (nI k), .int (nI w), .int (nI (T w).2.1), .int (nI 0), .int (nI 0), .int (nI 0), .int (nI 0)]) (rest := []) ⟨hx, hb, hml, hown, hts⟩ (cL_append l D cI aL b L.2.2.2.1 L.1 L.2.1 L.2.2.1 f k (nI w) (nI (T w).2.1) (nI 0) (nI 0) (nI 0) (nI 0) hL.2.1 hL.2.2.1 (by have := hL.2.2.2.1; omega) (by omega)) gX3_appendOfWork_X0_append rfl hd_X0_append ⟨Nat.le_of_ble_eq_true rfl, Nat.le_of_ble_eq_true rfl⟩ hw rfl rfl rfl rfl rfl hl.1 (Nat.le_of_ble_eq_true rfl) dX3_appendOfWork_18 ⟨gr_c hL.2.2.1, gr_s⟩ (fun rv u H locs hq hw => ?_)
  obtain ⟨ch2, b2, cap2, f2⟩ := u
  obtain ⟨rr, rfl, hq⟩ := hq
  dsimp only at hq
  obtain ⟨rfl, rfl, rfl, hq⟩ := hq
  have hw : ww D cI _ _ s ([(a, .inr (3, [.ref aL, .ref pa.1, .ref ta.1, .ref da.1, .int (nI C.1), .int (nI C.2.1), .int (nI C.2.2.1), .int (nI C.2.2.2.1), .int (nI C.2.2.2.2.1), .int C.2.2.2.2.2.1, .int C.2.2.2.2.2.2.1, .int C.2.2.2.2.2.2.2.1, .int C.2.2.2.2.2.2.2.2]))] ++ (wL cI aL b2 (apL L (k, w, (T w).2.1, 0, 0, 0, 0)) f2 ++ (wG cI pa G ++ (wT cI ta v fb ++ wT cI da v2 fb2)))) H locs := hw
  refine W.eq (g2 := F0 m 21 ls [.int (nI (L.1 + 1))]) rfl ?_
  have hL2 : LOk (apL L (k, w, (T w).2.1, 0, 0, 0, 0)) f2 := LOk_add hL hn ⟨hq.1, hq.2.1, hq.2.2.1, hq.2.2.2.1, hq.2.2.2.2.1, hq.2.2.2.2.2.1, hq.2.2.2.2.2.2.1.trans nI_0, hq.2.2.2.2.2.2.2⟩
  have hxr : (apL L (k, w, (T w).2.1, 0, 0, 0, 0)).2.2.2.2 (L.1 + 1) = (k, w, (T w).2.1, 0, 0, 0, 0) := by simp [apL, va_up]
  refine W.eq (g2 := F0 m 21 ls [.int (nI (L.1 + 1))]) rfl ?_
  refine lv_istore_n (lv' := [(3, .int (nI (L.1 + 1))), (0, .ref a), (1, .int (nI k)), (2, .int (nI w))]) hx hb dX3_appendOfWork_21 rfl hl (by decide) rfl (fun ls hl => ?_)
  refine lv_aload_n hx hb dX3_appendOfWork_22 rfl (lv_at hl 1 rfl) ?_
  refine lv_iload_n hx hb dX3_appendOfWork_23 rfl (lv_at hl 0 rfl) ?_
  refine ww_callA (As := [.int (nI (L.1 + 1))]) (rest := []) ⟨hx, hb, hml, hown, hts⟩ (cB_takeIntoTables l D cI a aL b2 pa ta da C (apL L (k, w, (T w).2.1, 0, 0, 0, 0)) f2 G v v2 fb fb2 (L.1 + 1) (k, w, (T w).2.1, 0, 0, 0, 0) T B hL2 (by omega) (Nat.le_refl _) hxr h hB (by show 1 ≤ (k, w, (T w).2.1, 0, 0, 0, 0).1; omega) (by show (k, w, (T w).2.1, 0, 0, 0, 0).1 ≤ 8; omega) hw200 (Or.inr (Or.inl hp)) (by show 0 < 64; omega) (by show 0 < 2 ^ 31; omega)) gX3_appendOfWork_X3_takeIntoTables rfl hd_X3_takeIntoTables ⟨Nat.le_of_ble_eq_true rfl, Nat.le_of_ble_eq_true rfl⟩ hw rfl rfl rfl rfl hl.1 (Nat.le_of_ble_eq_true rfl) dX3_appendOfWork_24 ⟨gr_c hL.2.2.1, gr_s⟩ (fun rv u H locs hq hw => ?_)
  obtain ⟨rfl, hT3, hB3⟩ := hq
  have hw : ww D cI _ _ s ([(a, .inr (3, [.ref aL, .ref pa.1, .ref ta.1, .ref da.1, .int (nI C.1), .int (nI C.2.1), .int (nI C.2.2.1), .int (nI C.2.2.2.1), .int (nI C.2.2.2.2.1), .int C.2.2.2.2.2.1, .int C.2.2.2.2.2.2.1, .int C.2.2.2.2.2.2.2.1, .int C.2.2.2.2.2.2.2.2]))] ++ (wL cI aL b2 (apL L (k, w, (T w).2.1, 0, 0, 0, 0)) f2 ++ (wG cI pa G ++ (wT cI ta u.1 u.2 ++ wT cI da v2 fb2)))) H locs := hw
  refine W.eq (g2 := F0 m 27 ls []) rfl ?_
  refine lv_iload_n hx hb dX3_appendOfWork_27 rfl (lv_at hl 0 rfl) ?_
  exact ww_iret (u := (b2, f2, u.1, u.2)) hx hb hr hlk hw (⟨rfl, hL2, hT3, hB3⟩) (gr_c hL.2.2.1) (gr_s) dX3_appendOfWork_28
set_option maxHeartbeats 4000000 in
set_option maxRecDepth 100000 in
theorem cB_undoNext (l : Launch) (D : va_G) (cI : ClassId) (a aL b : Nat) (pa : A5) (ta da : A6) (C : CX) (L : LG) (f : Nat → Int32) (G : PG) (v v2 : TW) (fb fb2 : Nat → Int32) (w cn : Nat) (xc : Rc) (T : TF) (B : Nat → Nat) (hL : LOk L f) (hn : L.1 < 2 ^ 20) (h : TR v T) (hB : BR fb B) (hp : (T w).1 ≠ 0) (hce : (T w).2.2 = cn) (hxc : L.2.2.2.2 cn = xc) (hc1 : 1 ≤ cn) (hc2 : cn ≤ L.1) (hpg : rP xc < 64) (hwd : rD xc < 8) (hbf : rB xc ≤ L.1) (hub : ub L.2.2.2.2 cn < 2 ^ 31) (hK8 : ∀ r, 1 ≤ r → r ≤ L.1 → rK (L.2.2.2.2 r) ≤ 8) : Kt l yX3_undoNext wsX3_undoNext 3 68 ((apL L (2, w, (T w).2.1, rP xc, rD xc, -(rM xc), ub L.2.2.2.2 cn)).2.2.2.1 - L.2.2.2.1) (2 * ((apL L (2, w, (T w).2.1, rP xc, rD xc, -(rM xc), ub L.2.2.2.2 cn)).2.2.2.1 - L.2.2.2.1)) D cI [.ref a, .int (nI w)] ([(a, .inr (3, [.ref aL, .ref pa.1, .ref ta.1, .ref da.1, .int (nI C.1), .int (nI C.2.1), .int (nI C.2.2.1), .int (nI C.2.2.2.1), .int (nI C.2.2.2.2.1), .int C.2.2.2.2.2.1, .int C.2.2.2.2.2.2.1, .int C.2.2.2.2.2.2.2.1, .int C.2.2.2.2.2.2.2.2]))] ++ (wL cI aL b L f ++ (wG cI pa G ++ (wT cI ta v fb ++ wT cI da v2 fb2)))) (pV (fun (u : Nat × (Nat → Int32) × TW × (Nat → Int32)) => LOk (apL L (2, w, (T w).2.1, rP xc, rD xc, -(rM xc), ub L.2.2.2.2 cn)) u.2.1 ∧ TR u.2.2.1 (tkT T (L.1 + 1) (2, w, (T w).2.1, rP xc, rD xc, -(rM xc), ub L.2.2.2.2 cn)) ∧ BR u.2.2.2 (tkB B (L.1 + 1) (2, w, (T w).2.1, rP xc, rD xc, -(rM xc), ub L.2.2.2.2 cn)))) (fun (u : Nat × (Nat → Int32) × TW × (Nat → Int32)) => [(a, .inr (3, [.ref aL, .ref pa.1, .ref ta.1, .ref da.1, .int (nI C.1), .int (nI C.2.1), .int (nI C.2.2.1), .int (nI C.2.2.2.1), .int (nI C.2.2.2.2.1), .int C.2.2.2.2.2.1, .int C.2.2.2.2.2.2.1, .int C.2.2.2.2.2.2.2.1, .int C.2.2.2.2.2.2.2.2]))] ++ (wL cI aL u.1 (apL L (2, w, (T w).2.1, rP xc, rD xc, -(rM xc), ub L.2.2.2.2 cn)) u.2.1 ++ (wG cI pa (apP G (L.1 + 1) (2, w, (T w).2.1, rP xc, rD xc, -(rM xc), ub L.2.2.2.2 cn)) ++ (wT cI ta u.2.2.1 u.2.2.2 ++ wT cI da v2 fb2)))) := by
  refine kt_start (cc := cX3_undoNext) (maxL := 4) (ret := none) (by decide +kernel) rfl (Nat.le_of_ble_eq_true rfl) ?_
  intro p e s m below meth c hx hb hml hr hlk hown hnm hts ls hl hw
  have hown : s.vm.findClass RX3 = some m.cls := hown
  have hl : lv_has ls 4 [(0, .ref a), (1, .int (nI w))] := hl
  have k10 := hts (.fieldLink RX3 10 "RestartBook" "log" "LRestartBook$Log;") (by decide +kernel)
  have k26 := hts (.fieldLink RX3 26 "RestartBook" "tables" "LRestartBook$Tables;") (by decide +kernel)
  have hin3 : ∀ w ∈ u_ws RX3 TX3 13, w ∈ wsX3_undoNext := in_X3_undoNext
  have hw200 := (TR_some h hp).2.1
  refine lv_aload_n hx hb dX3_undoNext_0 rfl (lv_at hl 0 rfl) ?_
  refine ww_get hx hb hts hin3 hown hw 0 rfl rfl 2 (by decide) k26 rfl dX3_undoNext_1 ?_
  refine lv_iload_n hx hb dX3_undoNext_4 rfl (lv_at hl 1 rfl) ?_
  refine ww_callV ([(a, .inr (3, [.ref aL, .ref pa.1, .ref ta.1, .ref da.1, .int (nI C.1), .int (nI C.2.1), .int (nI C.2.2.1), .int (nI C.2.2.2.1), .int (nI C.2.2.2.2.1), .int C.2.2.2.2.2.1, .int C.2.2.2.2.2.2.1, .int C.2.2.2.2.2.2.2.1, .int C.2.2.2.2.2.2.2.2]))] ++ (wL cI aL b L f ++ wG cI pa G)) (wT cI da v2 fb2) (As := [.int (nI w)]) (rest := []) ⟨hx, hb, hml, hown, hts⟩ (cT_nextOf l D cI ta.1 ta.2.1 ta.2.2.1 ta.2.2.2.1 ta.2.2.2.2.1 ta.2.2.2.2.2 v fb T h w (by omega) hp) gX3_undoNext_X2_nextOf rfl hd_X2_nextOf ⟨Nat.le_of_ble_eq_true rfl, Nat.le_of_ble_eq_true rfl⟩ hw rfl rfl rfl rfl rfl hl.1 (Nat.le_of_ble_eq_true rfl) dX3_undoNext_5 ⟨Nat.le_of_ble_eq_true rfl, Nat.le_of_ble_eq_true rfl⟩ (fun rv u H locs hq hw => ?_)
  obtain ⟨rr, rfl, hq⟩ := hq
  rw [hce] at hq
  subst hq
  have hw : ww D cI _ _ s ([(a, .inr (3, [.ref aL, .ref pa.1, .ref ta.1, .ref da.1, .int (nI C.1), .int (nI C.2.1), .int (nI C.2.2.1), .int (nI C.2.2.2.1), .int (nI C.2.2.2.2.1), .int C.2.2.2.2.2.1, .int C.2.2.2.2.2.2.1, .int C.2.2.2.2.2.2.2.1, .int C.2.2.2.2.2.2.2.2]))] ++ (wL cI aL b L f ++ (wG cI pa G ++ (wT cI ta v fb ++ wT cI da v2 fb2)))) H locs := hw
  refine W.eq (g2 := F0 m 8 ls [.int (nI cn)]) rfl ?_
  refine lv_istore_n (lv' := [(2, .int (nI cn)), (0, .ref a), (1, .int (nI w))]) hx hb dX3_undoNext_8 rfl hl (by decide) rfl (fun ls hl => ?_)
  refine lv_aload_n hx hb dX3_undoNext_9 rfl (lv_at hl 1 rfl) ?_
  refine ww_get hx hb hts hin3 hown hw 0 rfl rfl 0 (by decide) k10 rfl dX3_undoNext_10 ?_
  refine lv_iconst (v := nI 2) hx hb dX3_undoNext_13 (by decide +kernel) ?_
  refine lv_iload_n hx hb dX3_undoNext_14 rfl (lv_at hl 2 rfl) ?_
  refine lv_aload_n hx hb dX3_undoNext_15 rfl (lv_at hl 1 rfl) ?_
  refine ww_get hx hb hts hin3 hown hw 0 rfl rfl 2 (by decide) k26 rfl dX3_undoNext_16 ?_
  refine lv_iload_n hx hb dX3_undoNext_19 rfl (lv_at hl 2 rfl) ?_
  refine ww_callV ([(a, .inr (3, [.ref aL, .ref pa.1, .ref ta.1, .ref da.1, .int (nI C.1), .int (nI C.2.1), .int (nI C.2.2.1), .int (nI C.2.2.2.1), .int (nI C.2.2.2.2.1), .int C.2.2.2.2.2.1, .int C.2.2.2.2.2.2.1, .int C.2.2.2.2.2.2.2.1, .int C.2.2.2.2.2.2.2.2]))] ++ (wL cI aL b L f ++ wG cI pa G)) (wT cI da v2 fb2) (As := [.int (nI w)]) (rest := [.int (nI w), .int (nI 2), .ref aL]) ⟨hx, hb, hml, hown, hts⟩ (cT_lastOf l D cI ta.1 ta.2.1 ta.2.2.1 ta.2.2.2.1 ta.2.2.2.2.1 ta.2.2.2.2.2 v fb T h w (by omega) hp) gX3_undoNext_X2_lastOf rfl hd_X2_lastOf ⟨Nat.le_of_ble_eq_true rfl, Nat.le_of_ble_eq_true rfl⟩ hw rfl rfl rfl rfl rfl hl.1 (Nat.le_of_ble_eq_true rfl) dX3_undoNext_20 ⟨Nat.le_of_ble_eq_true rfl, Nat.le_of_ble_eq_true rfl⟩ (fun rv u H locs hq hw => ?_)
  obtain ⟨rr, rfl, hq⟩ := hq
  subst hq
  have hw : ww D cI _ _ s ([(a, .inr (3, [.ref aL, .ref pa.1, .ref ta.1, .ref da.1, .int (nI C.1), .int (nI C.2.1), .int (nI C.2.2.1), .int (nI C.2.2.2.1), .int (nI C.2.2.2.2.1), .int C.2.2.2.2.2.1, .int C.2.2.2.2.2.2.1, .int C.2.2.2.2.2.2.2.1, .int C.2.2.2.2.2.2.2.2]))] ++ (wL cI aL b L f ++ (wG cI pa G ++ (wT cI ta v fb ++ wT cI da v2 fb2)))) H locs := hw
  refine W.eq (g2 := F0 m 23 ls [.int (nI (T w).2.1), .int (nI w), .int (nI 2), .ref aL]) rfl ?_
  refine W.eq (g2 := F0 m 23 ls [.int (nI (T w).2.1), .int (nI w), .int (nI 2), .ref aL]) rfl ?_
  refine lv_aload_n hx hb dX3_undoNext_23 rfl (lv_at hl 1 rfl) ?_
  refine ww_get hx hb hts hin3 hown hw 0 rfl rfl 0 (by decide) k10 rfl dX3_undoNext_24 ?_
  refine lv_iload_n hx hb dX3_undoNext_27 rfl (lv_at hl 0 rfl) ?_
  refine lv_iconst (v := nI 3) hx hb dX3_undoNext_28 (by decide +kernel) ?_
  refine ww_callV ([(a, .inr (3, [.ref aL, .ref pa.1, .ref ta.1, .ref da.1, .int (nI C.1), .int (nI C.2.1), .int (nI C.2.2.1), .int (nI C.2.2.2.1), .int (nI C.2.2.2.2.1), .int C.2.2.2.2.2.1, .int C.2.2.2.2.2.2.1, .int C.2.2.2.2.2.2.2.1, .int C.2.2.2.2.2.2.2.2]))]) (wG cI pa G ++ (wT cI ta v fb ++ wT cI da v2 fb2)) (As := [.int (nI cn), .int (nI 3)]) (rest := [.int (nI (T w).2.1), .int (nI w), .int (nI 2), .ref aL]) ⟨hx, hb, hml, hown, hts⟩ (cL_read l D cI aL b L.2.2.2.1 L.1 L.2.1 L.2.2.1 f cn 3 hL.2.1 (by have := hL.2.2.2.1; omega) (by have := hL.2.1; have := hL.2.2.2.1; omega) (by omega)) gX3_undoNext_X0_read rfl hd_X0_read ⟨Nat.le_of_ble_eq_true rfl, Nat.le_of_ble_eq_true rfl⟩ hw rfl rfl rfl rfl rfl hl.1 (Nat.le_of_ble_eq_true rfl) dX3_undoNext_29 ⟨Nat.le_of_ble_eq_true rfl, Nat.le_of_ble_eq_true rfl⟩ (fun rv u H locs hq hw => ?_)
  obtain ⟨rr, rfl, hq⟩ := hq
  have hw : ww D cI _ _ s ([(a, .inr (3, [.ref aL, .ref pa.1, .ref ta.1, .ref da.1, .int (nI C.1), .int (nI C.2.1), .int (nI C.2.2.1), .int (nI C.2.2.2.1), .int (nI C.2.2.2.2.1), .int C.2.2.2.2.2.1, .int C.2.2.2.2.2.2.1, .int C.2.2.2.2.2.2.2.1, .int C.2.2.2.2.2.2.2.2]))] ++ (wL cI aL b L f ++ (wG cI pa G ++ (wT cI ta v fb ++ wT cI da v2 fb2)))) H locs := hw
  refine W.eq (g2 := F0 m 32 ls [.int (rr), .int (nI (T w).2.1), .int (nI w), .int (nI 2), .ref aL]) rfl ?_
  refine lv_eqi (show _ = nI (rP xc) from hq.trans ((LRep_rd hL.1 hc1 hc2 (by omega)).trans (by rw [hxc]; rfl))) ?_
  refine lv_aload_n hx hb dX3_undoNext_32 rfl (lv_at hl 1 rfl) ?_
  refine ww_get hx hb hts hin3 hown hw 0 rfl rfl 0 (by decide) k10 rfl dX3_undoNext_33 ?_
  refine lv_iload_n hx hb dX3_undoNext_36 rfl (lv_at hl 0 rfl) ?_
  refine lv_iconst (v := nI 4) hx hb dX3_undoNext_37 (by decide +kernel) ?_
  refine ww_callV ([(a, .inr (3, [.ref aL, .ref pa.1, .ref ta.1, .ref da.1, .int (nI C.1), .int (nI C.2.1), .int (nI C.2.2.1), .int (nI C.2.2.2.1), .int (nI C.2.2.2.2.1), .int C.2.2.2.2.2.1, .int C.2.2.2.2.2.2.1, .int C.2.2.2.2.2.2.2.1, .int C.2.2.2.2.2.2.2.2]))]) (wG cI pa G ++ (wT cI ta v fb ++ wT cI da v2 fb2)) (As := [.int (nI cn), .int (nI 4)]) (rest := [.int (nI (rP xc)), .int (nI (T w).2.1), .int (nI w), .int (nI 2), .ref aL]) ⟨hx, hb, hml, hown, hts⟩ (cL_read l D cI aL b L.2.2.2.1 L.1 L.2.1 L.2.2.1 f cn 4 hL.2.1 (by have := hL.2.2.2.1; omega) (by have := hL.2.1; have := hL.2.2.2.1; omega) (by omega)) gX3_undoNext_X0_read rfl hd_X0_read ⟨Nat.le_of_ble_eq_true rfl, Nat.le_of_ble_eq_true rfl⟩ hw rfl rfl rfl rfl rfl hl.1 (Nat.le_of_ble_eq_true rfl) dX3_undoNext_38 ⟨Nat.le_of_ble_eq_true rfl, Nat.le_of_ble_eq_true rfl⟩ (fun rv u H locs hq hw => ?_)
  obtain ⟨rr, rfl, hq⟩ := hq
  have hw : ww D cI _ _ s ([(a, .inr (3, [.ref aL, .ref pa.1, .ref ta.1, .ref da.1, .int (nI C.1), .int (nI C.2.1), .int (nI C.2.2.1), .int (nI C.2.2.2.1), .int (nI C.2.2.2.2.1), .int C.2.2.2.2.2.1, .int C.2.2.2.2.2.2.1, .int C.2.2.2.2.2.2.2.1, .int C.2.2.2.2.2.2.2.2]))] ++ (wL cI aL b L f ++ (wG cI pa G ++ (wT cI ta v fb ++ wT cI da v2 fb2)))) H locs := hw
  refine W.eq (g2 := F0 m 41 ls [.int (rr), .int (nI (rP xc)), .int (nI (T w).2.1), .int (nI w), .int (nI 2), .ref aL]) rfl ?_
  refine lv_eqi (show _ = nI (rD xc) from hq.trans ((LRep_rd hL.1 hc1 hc2 (by omega)).trans (by rw [hxc]; rfl))) ?_
  refine lv_aload_n hx hb dX3_undoNext_41 rfl (lv_at hl 1 rfl) ?_
  refine ww_get hx hb hts hin3 hown hw 0 rfl rfl 0 (by decide) k10 rfl dX3_undoNext_42 ?_
  refine lv_iload_n hx hb dX3_undoNext_45 rfl (lv_at hl 0 rfl) ?_
  refine lv_iconst (v := nI 5) hx hb dX3_undoNext_46 (by decide +kernel) ?_
  refine ww_callV ([(a, .inr (3, [.ref aL, .ref pa.1, .ref ta.1, .ref da.1, .int (nI C.1), .int (nI C.2.1), .int (nI C.2.2.1), .int (nI C.2.2.2.1), .int (nI C.2.2.2.2.1), .int C.2.2.2.2.2.1, .int C.2.2.2.2.2.2.1, .int C.2.2.2.2.2.2.2.1, .int C.2.2.2.2.2.2.2.2]))]) (wG cI pa G ++ (wT cI ta v fb ++ wT cI da v2 fb2)) (As := [.int (nI cn), .int (nI 5)]) (rest := [.int (nI (rD xc)), .int (nI (rP xc)), .int (nI (T w).2.1), .int (nI w), .int (nI 2), .ref aL]) ⟨hx, hb, hml, hown, hts⟩ (cL_read l D cI aL b L.2.2.2.1 L.1 L.2.1 L.2.2.1 f cn 5 hL.2.1 (by have := hL.2.2.2.1; omega) (by have := hL.2.1; have := hL.2.2.2.1; omega) (by omega)) gX3_undoNext_X0_read rfl hd_X0_read ⟨Nat.le_of_ble_eq_true rfl, Nat.le_of_ble_eq_true rfl⟩ hw rfl rfl rfl rfl rfl hl.1 (Nat.le_of_ble_eq_true rfl) dX3_undoNext_47 ⟨Nat.le_of_ble_eq_true rfl, Nat.le_of_ble_eq_true rfl⟩ (fun rv u H locs hq hw => ?_)
  obtain ⟨rr, rfl, hq⟩ := hq
  have hw : ww D cI _ _ s ([(a, .inr (3, [.ref aL, .ref pa.1, .ref ta.1, .ref da.1, .int (nI C.1), .int (nI C.2.1), .int (nI C.2.2.1), .int (nI C.2.2.2.1), .int (nI C.2.2.2.2.1), .int C.2.2.2.2.2.1, .int C.2.2.2.2.2.2.1, .int C.2.2.2.2.2.2.2.1, .int C.2.2.2.2.2.2.2.2]))] ++ (wL cI aL b L f ++ (wG cI pa G ++ (wT cI ta v fb ++ wT cI da v2 fb2)))) H locs := hw
  refine W.eq (g2 := F0 m 50 ls [.int (rr), .int (nI (rD xc)), .int (nI (rP xc)), .int (nI (T w).2.1), .int (nI w), .int (nI 2), .ref aL]) rfl ?_
  refine lv_eqi (show _ = rM xc from hq.trans ((LRep_rd hL.1 hc1 hc2 (by omega)).trans (by rw [hxc]; rfl))) ?_
  refine W.eq (g2 := F0 m 50 ls [.int (rM xc), .int (nI (rD xc)), .int (nI (rP xc)), .int (nI (T w).2.1), .int (nI w), .int (nI 2), .ref aL]) rfl ?_
  refine lv_ineg hx hb dX3_undoNext_50 ?_
  refine lv_aload_n hx hb dX3_undoNext_51 rfl (lv_at hl 1 rfl) ?_
  refine ww_get hx hb hts hin3 hown hw 0 rfl rfl 0 (by decide) k10 rfl dX3_undoNext_52 ?_
  refine lv_iload_n hx hb dX3_undoNext_55 rfl (lv_at hl 0 rfl) ?_
  refine ww_callV ([(a, .inr (3, [.ref aL, .ref pa.1, .ref ta.1, .ref da.1, .int (nI C.1), .int (nI C.2.1), .int (nI C.2.2.1), .int (nI C.2.2.2.1), .int (nI C.2.2.2.2.1), .int C.2.2.2.2.2.1, .int C.2.2.2.2.2.2.1, .int C.2.2.2.2.2.2.2.1, .int C.2.2.2.2.2.2.2.2]))]) (wG cI pa G ++ (wT cI ta v fb ++ wT cI da v2 fb2)) (As := [.int (nI cn)]) (rest := [.int (-(rM xc)), .int (nI (rD xc)), .int (nI (rP xc)), .int (nI (T w).2.1), .int (nI w), .int (nI 2), .ref aL]) ⟨hx, hb, hml, hown, hts⟩ (cL_undoingBehind l D cI aL b L.2.2.2.1 L.1 L.2.1 L.2.2.1 f cn (rB xc) hL.2.1 (by have := hL.2.2.2.1; omega) (by have := hL.2.1; have := hL.2.2.2.1; omega) ((LRep_rd hL.1 hc1 hc2 (by omega)).trans (by rw [hxc]; rfl)) (by omega)) gX3_undoNext_X0_undoingBehind rfl hd_X0_undoingBehind ⟨Nat.le_of_ble_eq_true rfl, Nat.le_of_ble_eq_true rfl⟩ hw rfl rfl rfl rfl rfl hl.1 (Nat.le_of_ble_eq_true rfl) dX3_undoNext_56 ⟨Nat.le_of_ble_eq_true rfl, Nat.le_of_ble_eq_true rfl⟩ (fun rv u H locs hq hw => ?_)
  obtain ⟨rr, rfl, hq⟩ := hq
  rw [ub_rd hL.1 (by rw [hxc]) (by omega) (by have := hL.2.1; have := hL.2.2.2.1; omega) hK8] at hq
  subst hq
  have hw : ww D cI _ _ s ([(a, .inr (3, [.ref aL, .ref pa.1, .ref ta.1, .ref da.1, .int (nI C.1), .int (nI C.2.1), .int (nI C.2.2.1), .int (nI C.2.2.2.1), .int (nI C.2.2.2.2.1), .int C.2.2.2.2.2.1, .int C.2.2.2.2.2.2.1, .int C.2.2.2.2.2.2.2.1, .int C.2.2.2.2.2.2.2.2]))] ++ (wL cI aL b L f ++ (wG cI pa G ++ (wT cI ta v fb ++ wT cI da v2 fb2)))) H locs := hw
  refine W.eq (g2 := F0 m 59 ls [.int (nI (ub L.2.2.2.2 cn)), .int (-(rM xc)), .int (nI (rD xc)), .int (nI (rP xc)), .int (nI (T w).2.1), .int (nI w), .int (nI 2), .ref aL]) rfl ?_
  refine ww_callV ([(a, .inr (3, [.ref aL, .ref pa.1, .ref ta.1, .ref da.1, .int (nI C.1), .int (nI C.2.1), .int (nI C.2.2.1), .int (nI C.2.2.2.1), .int (nI C.2.2.2.2.1), .int C.2.2.2.2.2.1, .int C.2.2.2.2.2.2.1, .int C.2.2.2.2.2.2.2.1, .int C.2.2.2.2.2.2.2.2]))]) (wG cI pa G ++ (wT cI ta v fb ++ wT cI da v2 fb2)) (As := [.int (nI 2), .int (nI w), .int (nI (T w).2.1), .int (nI (rP xc)), .int (nI (rD xc)), .int (-(rM xc)), .int (nI (ub L.2.2.2.2 cn))]) (rest := []) ⟨hx, hb, hml, hown, hts⟩ (cL_append l D cI aL b L.2.2.2.1 L.1 L.2.1 L.2.2.1 f 2 (nI w) (nI (T w).2.1) (nI (rP xc)) (nI (rD xc)) (-(rM xc)) (nI (ub L.2.2.2.2 cn)) hL.2.1 hL.2.2.1 (by have := hL.2.2.2.1; omega) (by omega)) gX3_undoNext_X0_append rfl hd_X0_append ⟨Nat.le_of_ble_eq_true rfl, Nat.le_of_ble_eq_true rfl⟩ hw rfl rfl rfl rfl rfl hl.1 (Nat.le_of_ble_eq_true rfl) dX3_undoNext_59 ⟨gr_c hL.2.2.1, gr_s⟩ (fun rv u H locs hq hw => ?_)
  obtain ⟨ch2, b2, cap2, f2⟩ := u
  obtain ⟨rr, rfl, hq⟩ := hq
  dsimp only at hq
  obtain ⟨rfl, rfl, rfl, hq⟩ := hq
  have hw : ww D cI _ _ s ([(a, .inr (3, [.ref aL, .ref pa.1, .ref ta.1, .ref da.1, .int (nI C.1), .int (nI C.2.1), .int (nI C.2.2.1), .int (nI C.2.2.2.1), .int (nI C.2.2.2.2.1), .int C.2.2.2.2.2.1, .int C.2.2.2.2.2.2.1, .int C.2.2.2.2.2.2.2.1, .int C.2.2.2.2.2.2.2.2]))] ++ (wL cI aL b2 (apL L (2, w, (T w).2.1, rP xc, rD xc, -(rM xc), ub L.2.2.2.2 cn)) f2 ++ (wG cI pa G ++ (wT cI ta v fb ++ wT cI da v2 fb2)))) H locs := hw
  refine W.eq (g2 := F0 m 62 ls [.int (nI (L.1 + 1))]) rfl ?_
  have hL2 : LOk (apL L (2, w, (T w).2.1, rP xc, rD xc, -(rM xc), ub L.2.2.2.2 cn)) f2 := LOk_add hL hn ⟨hq.1, hq.2.1, hq.2.2.1, hq.2.2.2.1, hq.2.2.2.2.1, hq.2.2.2.2.2.1, hq.2.2.2.2.2.2.1, hq.2.2.2.2.2.2.2⟩
  have hxr : (apL L (2, w, (T w).2.1, rP xc, rD xc, -(rM xc), ub L.2.2.2.2 cn)).2.2.2.2 (L.1 + 1) = (2, w, (T w).2.1, rP xc, rD xc, -(rM xc), ub L.2.2.2.2 cn) := by simp [apL, va_up]
  refine lv_istore_n (lv' := [(3, .int (nI (L.1 + 1))), (2, .int (nI cn)), (0, .ref a), (1, .int (nI w))]) hx hb dX3_undoNext_62 rfl hl (by decide) rfl (fun ls hl => ?_)
  refine lv_aload_n hx hb dX3_undoNext_63 rfl (lv_at hl 2 rfl) ?_
  refine lv_iload_n hx hb dX3_undoNext_64 rfl (lv_at hl 0 rfl) ?_
  refine ww_callA (As := [.int (nI (L.1 + 1))]) (rest := []) ⟨hx, hb, hml, hown, hts⟩ (cB_takeIntoTables l D cI a aL b2 pa ta da C (apL L (2, w, (T w).2.1, rP xc, rD xc, -(rM xc), ub L.2.2.2.2 cn)) f2 G v v2 fb fb2 (L.1 + 1) (2, w, (T w).2.1, rP xc, rD xc, -(rM xc), ub L.2.2.2.2 cn) T B hL2 (by omega) (Nat.le_refl _) hxr h hB (by show 1 ≤ (2, w, (T w).2.1, rP xc, rD xc, -(rM xc), ub L.2.2.2.2 cn).1; omega) (by show (2, w, (T w).2.1, rP xc, rD xc, -(rM xc), ub L.2.2.2.2 cn).1 ≤ 8; omega) hw200 (Or.inr (Or.inl hp)) hpg hub) gX3_undoNext_X3_takeIntoTables rfl hd_X3_takeIntoTables ⟨Nat.le_of_ble_eq_true rfl, Nat.le_of_ble_eq_true rfl⟩ hw rfl rfl rfl rfl hl.1 (Nat.le_of_ble_eq_true rfl) dX3_undoNext_65 ⟨gr_c hL.2.2.1, gr_s⟩ (fun rv u H locs hq hw => ?_)
  obtain ⟨rfl, hT3, hB3⟩ := hq
  have hw : ww D cI _ _ s ([(a, .inr (3, [.ref aL, .ref pa.1, .ref ta.1, .ref da.1, .int (nI C.1), .int (nI C.2.1), .int (nI C.2.2.1), .int (nI C.2.2.2.1), .int (nI C.2.2.2.2.1), .int C.2.2.2.2.2.1, .int C.2.2.2.2.2.2.1, .int C.2.2.2.2.2.2.2.1, .int C.2.2.2.2.2.2.2.2]))] ++ (wL cI aL b2 (apL L (2, w, (T w).2.1, rP xc, rD xc, -(rM xc), ub L.2.2.2.2 cn)) f2 ++ (wG cI pa G ++ (wT cI ta u.1 u.2 ++ wT cI da v2 fb2)))) H locs := hw
  refine W.eq (g2 := F0 m 68 ls []) rfl ?_
  refine lv_aload_n hx hb dX3_undoNext_68 rfl (lv_at hl 2 rfl) ?_
  refine lv_iload_n hx hb dX3_undoNext_69 rfl (lv_at hl 0 rfl) ?_
  refine ww_callA (As := [.int (nI (L.1 + 1))]) (rest := []) ⟨hx, hb, hml, hown, hts⟩ (cB_carryOut l D cI a aL b2 pa ta da C (apL L (2, w, (T w).2.1, rP xc, rD xc, -(rM xc), ub L.2.2.2.2 cn)) f2 G u.1 v2 u.2 fb2 (L.1 + 1) (2, w, (T w).2.1, rP xc, rD xc, -(rM xc), ub L.2.2.2.2 cn) hL2 (by omega) (Nat.le_refl _) hxr hpg hwd) gX3_undoNext_X3_carryOut rfl hd_X3_carryOut ⟨Nat.le_of_ble_eq_true rfl, Nat.le_of_ble_eq_true rfl⟩ hw rfl rfl rfl rfl hl.1 (Nat.le_of_ble_eq_true rfl) dX3_undoNext_70 ⟨gr_c hL.2.2.1, gr_s⟩ (fun rv u9 H locs hq hw => ?_)
  obtain ⟨rfl, -⟩ := hq
  have hw : ww D cI _ _ s ([(a, .inr (3, [.ref aL, .ref pa.1, .ref ta.1, .ref da.1, .int (nI C.1), .int (nI C.2.1), .int (nI C.2.2.1), .int (nI C.2.2.2.1), .int (nI C.2.2.2.2.1), .int C.2.2.2.2.2.1, .int C.2.2.2.2.2.2.1, .int C.2.2.2.2.2.2.2.1, .int C.2.2.2.2.2.2.2.2]))] ++ (wL cI aL b2 (apL L (2, w, (T w).2.1, rP xc, rD xc, -(rM xc), ub L.2.2.2.2 cn)) f2 ++ (wG cI pa (apP G (L.1 + 1) (2, w, (T w).2.1, rP xc, rD xc, -(rM xc), ub L.2.2.2.2 cn)) ++ (wT cI ta u.1 u.2 ++ wT cI da v2 fb2)))) H locs := hw
  refine W.eq (g2 := F0 m 73 ls []) rfl ?_
  exact ww_vret (u := (b2, f2, u.1, u.2)) hx hb hr hlk hw (⟨hL2, hT3, hB3⟩) (gr_c hL.2.2.1) (gr_s) rfl dX3_undoNext_73
end
section
/-! THE INVARIANT, and what keeps it -/
abbrev lk (S : SS) (k : Nat) : TF := lkT (sR S) (sTt S) (sLp S) k
def Ph (b : Nat) (S : SS) : Prop := (sDo S = 0 ∧ Sub (lk S (sN S)) (sT S) ∧ TOk (sR S) (sN S) (sWk S) (sT S) ∧ cardT (sT S) 200 ≤ 16 ∧ sN S + pot (sR S) (sT S) 200 ≤ b) ∨ (sDo S = 1 ∧ sLp S ≤ sAt S ∧ 1 ≤ sAt S ∧ sAt S ≤ sN S + 1 ∧ sT S = lk S (sAt S - 1) ∧ (1 ≤ sLp S → sAt S ≤ sLp S + 1 → ∀ p, sBs S p = 0)) ∨ ((2 ≤ sDo S ∧ sDo S ≤ 4) ∧ (sDo S = 2 → 1 ≤ sAt S ∧ sAt S ≤ sN S + 1) ∧ sT S = lk S (sN S))
def PtOk (S : SS) : Prop := (sLp S = 0 ∧ ∀ r, 1 ≤ r → r ≤ sN S → rK (sR S r) ≠ 8) ∨ (1 ≤ sLp S ∧ sLp S + 1 ≤ sFo S ∧ rK (sR S (sLp S)) = 7 ∧ rK (sR S (sLp S + 1)) = 8 ∧ ∀ r, sLp S + 1 < r → r ≤ sN S → rK (sR S r) ≠ 8)
def Inv0 (b : Nat) (S : SS) : Prop := (sFo S ≤ sN S ∧ sCh S = cntK (sR S) (sN S) ∧ sCh S ≤ 2000 ∧ sN S * 7 ≤ sCap S ∧ 7 ≤ sCap S ∧ sCap S ≤ 14 * b + 2000) ∧
  (ROk (sR S) (sN S) (sWk S) ∧ sWk S ≤ 200 ∧ sPt S ≤ 100 ∧ (sLp S = 0 ↔ sPt S = 0)) ∧ PtOk S ∧
  (TOk (sR S) (sLp S) (sWk S) (sTt S) ∧ (∀ p, sBt S p ≤ sLp S) ∧ ∀ p, sBs S p ≤ sN S) ∧
  (∀ k, k ≤ sN S → TOk (sR S) k (sWk S) (lk S k) ∧ cardT (lk S k) 200 ≤ 16 ∧ k + pot (sR S) (lk S k) 200 ≤ b) ∧ Ph b S
/-- no part without a step stands -/
def Stdy (S : SS) : Prop := (sDo S = 1 → sAt S ≤ sN S) ∧ (sDo S = 2 → sAt S ≤ sN S) ∧ (sDo S = 3 → lwD (sT S) 4 200 ≠ 0) ∧ (sDo S = 4 → wuD (sT S) 200 ≠ 0)
def Inv (b : Nat) (S : SS) : Prop := Inv0 b S ∧ Stdy S
theorem Inv0_lp {b : Nat} {S : SS} (h : Inv0 b S) : sLp S ≤ sN S := by
  obtain ⟨a1, -, a3, -⟩ := h
  rcases a3 with q | q <;> omega
theorem Inv0_n {b : Nat} {S : SS} (h : Inv0 b S) : sN S ≤ b := by
  have := (h.2.2.2.2.1 (sN S) (Nat.le_refl _)).2.2
  omega
/-- the table's own facts, in every part -/
theorem Inv0_T {b : Nat} {S : SS} (h : Inv0 b S) : TOk (sR S) (sN S) (sWk S) (sT S) ∧ cardT (sT S) 200 ≤ 16 := by
  obtain ⟨a1, a2, a3, a4, a5, a6⟩ := h
  rcases a6 with ⟨-, -, q1, q2, -⟩ | ⟨-, -, q1, q2, q3, -⟩ | ⟨-, -, q⟩
  · exact ⟨q1, q2⟩
  · rw [q3]
    have := a5 (sAt S - 1) (by omega)
    exact ⟨TOk_mono (fun _ _ _ => rfl) (by omega) (Nat.le_refl _) this.1, this.2.1⟩
  · rw [q]
    have := a5 (sN S) (Nat.le_refl _)
    exact ⟨this.1, this.2.1⟩
/-- outside looking through: what stands in the table is what the log says, and more that have begun -/
theorem Inv0_U {b : Nat} {S : SS} (h : Inv0 b S) (hd : sDo S ≠ 1) : Sub (lk S (sN S)) (sT S) ∧ sN S + pot (sR S) (sT S) 200 ≤ b := by
  obtain ⟨a1, a2, a3, a4, a5, a6⟩ := h
  rcases a6 with ⟨-, q0, q1, q2, q3⟩ | ⟨q, -⟩ | ⟨-, -, q⟩
  · exact ⟨q0, q3⟩
  · exact absurd q hd
  · rw [q]
    exact ⟨Sub_rf _, (a5 (sN S) (Nat.le_refl _)).2.2⟩
theorem cntK_agr {R R' : Nat → Rc} {n : Nat} (g : Agr R R' n) : ∀ m, m ≤ n → cntK R' m = cntK R m := by
  intro m
  induction m with
  | zero => intro _; rfl
  | succ m ih => intro hm; simp only [cntK]; rw [ih (by omega), g (m + 1) (by omega) hm]
theorem cntK_mono (R : Nat → Rc) : ∀ {a b : Nat}, a ≤ b → cntK R a ≤ cntK R b := by
  intro a b h
  induction h with
  | refl => exact Nat.le_refl _
  | step _ ih => exact Nat.le_trans ih (Nat.le_add_right _ _)
theorem tkT_p {T : TF} {r : Nat} {x : Rc} (h : (T (rW x)).1 ≠ 0) (h0 : rW x ≠ 0) : tkT T r x = va_up T (rW x) (tkE r (rK x) (rG x) (T (rW x))) := by
  rw [tkT, if_neg h0, if_neg h]
theorem tkE_ok {R : Nat → Rc} {n wk w r k g : Nat} {e : Nat × Nat × Nat} {x : Rc} (hR : R r = x) (hr : r = n + 1) (hk : rK x = k) (hg : rG x = g) (h1 : 1 ≤ w) (h2 : w ≤ wk) (he : EOk R n wk w e) (hk1 : 1 ≤ k) (hk6 : k ≤ 6) (hgn : g ≤ n) (hg1 : g = 0 ∨ rK (R g) = 1) (hs : k = 1 → e.1 = 1) (he0 : e.1 ≠ 0) :
    ((tkE r k g e).1 = 0 → tkE r k g e = (0, 0, 0)) ∧ ((tkE r k g e).1 ≠ 0 → EOk R (n + 1) wk w (tkE r k g e)) := by
  obtain ⟨a1, a2, a3, a4, a5, a6, a7⟩ := he
  have hr0 : r ≠ 0 := by omega
  rcases (show k = 1 ∨ k = 2 ∨ k = 3 ∨ k = 4 ∨ k = 5 ∨ k = 6 by omega) with q | q | q | q | q | q <;> subst q
  · have e1 : tkE r 1 g e = (e.1, r, r) := rfl
    rw [e1]
    refine ⟨fun z => absurd z he0, fun _ => ⟨h1, h2, a3, by show r ≤ n + 1; omega, by show r ≤ n + 1; omega, Or.inr (by rw [hR]; exact hk), fun _ => ⟨?_, Or.inr (Or.inl (by rw [hR]; exact hk))⟩⟩⟩
    show nxO R r = r
    rw [nxO, if_neg (fun q => by rw [hR, hk] at q; exact absurd q.2 (by decide))]
  · have e1 : tkE r 2 g e = (e.1, r, g) := rfl
    rw [e1]
    refine ⟨fun z => absurd z he0, fun _ => ⟨h1, h2, a3, by show r ≤ n + 1; omega, by show g ≤ n + 1; omega, hg1, fun _ => ⟨?_, Or.inr (Or.inr (by rw [hR]; exact hk))⟩⟩⟩
    show nxO R r = g
    rw [nxO, if_pos ⟨hr0, by rw [hR]; exact hk⟩, hR, hg]
  · have e1 : tkE r 3 g e = (4, r, e.2.2) := rfl
    rw [e1]
    exact ⟨fun z => absurd (show (4 : Nat) = 0 from z) (by decide), fun _ => ⟨h1, h2, by show 4 ≤ 4; omega, by show r ≤ n + 1; omega, by show e.2.2 ≤ n + 1; omega, a6, fun z => absurd (show (4 : Nat) = 1 from z) (by decide)⟩⟩
  · have e1 : tkE r 4 g e = (2, r, e.2.2) := rfl
    rw [e1]
    exact ⟨fun z => absurd (show (2 : Nat) = 0 from z) (by decide), fun _ => ⟨h1, h2, by show 2 ≤ 4; omega, by show r ≤ n + 1; omega, by show e.2.2 ≤ n + 1; omega, a6, fun z => absurd (show (2 : Nat) = 1 from z) (by decide)⟩⟩
  · have e1 : tkE r 5 g e = (0, 0, 0) := rfl
    rw [e1]
    exact ⟨fun _ => rfl, fun z => absurd rfl z⟩
  · have e1 : tkE r 6 g e = (3, r, e.2.2) := rfl
    rw [e1]
    exact ⟨fun z => absurd (show (3 : Nat) = 0 from z) (by decide), fun _ => ⟨h1, h2, by show 3 ≤ 4; omega, by show r ≤ n + 1; omega, by show e.2.2 ≤ n + 1; omega, a6, fun z => absurd (show (3 : Nat) = 1 from z) (by decide)⟩⟩
/-- what a record must be that comes: of a work that is in the table -/
def XOk (S : SS) (x : Rc) : Prop := (1 ≤ rK x ∧ rK x ≤ 6) ∧ (sT S (rW x)).1 ≠ 0 ∧ rB x = (sT S (rW x)).2.1 ∧ rP x < 64 ∧ rD x < 8 ∧ rG x ≤ sN S ∧ (rK x ≠ 2 → rG x = 0) ∧ (rG x = 0 ∨ rK (sR S (rG x)) = 1) ∧ (rK x = 1 → (sT S (rW x)).1 = 1 ∧ sCh S < 2000)
theorem cap_ok {b b' : Nat} {L : LG} {x : Rc} (h1 : L.1 ≤ b) (h2 : L.2.2.2.1 ≤ 14 * b + 2000) (hb : b ≤ b') (h3 : L.1 * 7 ≤ L.2.2.2.1) (h7 : 7 ≤ L.2.2.2.1) : (L.1 + 1) * 7 ≤ (apL L x).2.2.2.1 ∧ 7 ≤ (apL L x).2.2.2.1 ∧ (apL L x).2.2.2.1 ≤ 14 * b' + 2000 ∧ L.2.2.2.1 ≤ (apL L x).2.2.2.1 := by
  show (L.1 + 1) * 7 ≤ (if L.2.2.2.1 < L.1 * 7 + 7 then L.2.2.2.1 * 2 else L.2.2.2.1) ∧ 7 ≤ (if L.2.2.2.1 < L.1 * 7 + 7 then L.2.2.2.1 * 2 else L.2.2.2.1) ∧ (if L.2.2.2.1 < L.1 * 7 + 7 then L.2.2.2.1 * 2 else L.2.2.2.1) ≤ 14 * b' + 2000 ∧ L.2.2.2.1 ≤ (if L.2.2.2.1 < L.1 * 7 + 7 then L.2.2.2.1 * 2 else L.2.2.2.1)
  split <;> omega
theorem Inv_em {b b' : Nat} {S : SS} {x : Rc} (G : PG) (h : Inv0 b S) (hd : sDo S = 0 ∨ sDo S = 3 ∨ sDo S = 4) (hx : XOk S x) (hbb : b ≤ b') (hbud : 1 + eP (va_up (sR S) (sN S + 1) x) (tkE (sN S + 1) (rK x) (rG x) (sT S (rW x))) + b ≤ b' + eP (sR S) (sT S (rW x))) :
    Inv0 b' (apL S.1 x, G, (tkT (sT S) (sN S + 1) x, tkB (sBs S) (sN S + 1) x), S.2.2.2) := by
  have hT := Inv0_T h
  have hU := Inv0_U h (by omega)
  have hnb := Inv0_n h
  have hlp := Inv0_lp h
  obtain ⟨⟨a1, a2, a3, a4, a5, a6⟩, ⟨c1, c2, c3, c4⟩, d, ⟨e1, e2, e3⟩, g, ph⟩ := h
  obtain ⟨⟨x1, x2⟩, x3, x4, x5, x6, x7, x8, x9, x10⟩ := hx
  have hE := (hT.1 (rW x)).2 x3
  have hw1 := hE.1
  have hw2 := hE.2.1
  have hg := Agr_up (sR S) (sN S) x
  obtain ⟨R', hR'⟩ : ∃ R', R' = va_up (sR S) (sN S + 1) x := ⟨_, rfl⟩
  rw [← hR'] at hg hbud
  have hRn : R' (sN S + 1) = x := by rw [hR']; simp [va_up]
  have hROk : ROk R' (sN S + 1) (sWk S) := by
    intro r r1 r2
    by_cases q : r ≤ sN S
    · exact ROk_mono hg (Nat.le_refl _) c1 r r1 q
    · have q : r = sN S + 1 := by omega
      subst q
      rw [hRn]
      refine ⟨⟨x1, by omega⟩, fun q => by omega, fun _ => hw1, hw2, by have := hE.2.2.2.1; omega, x5, x6, by omega, x8, ?_, fun q => ?_⟩
      · by_cases z : rG x = 0
        · exact Or.inl z
        · rw [hg (rG x) (by omega) x7]; exact x9
      · rw [x4]
        have z := (hE.2.2.2.2.2.2 (x10 q).1).2
        by_cases z2 : (sT S (rW x)).2.1 = 0
        · exact Or.inl z2
        · rw [hg _ (by omega) hE.2.2.2.1]; exact z
  -- the entry
  obtain ⟨e', he'⟩ : ∃ e', e' = tkE (sN S + 1) (rK x) (rG x) (sT S (rW x)) := ⟨_, rfl⟩
  rw [← he'] at hbud
  have hT' : tkT (sT S) (sN S + 1) x = va_up (sT S) (rW x) e' := by rw [tkT_p x3 (by omega), he']
  have hEok := tkE_ok (R := R') (n := sN S) (wk := sWk S) (w := rW x) (r := sN S + 1) (k := rK x) (g := rG x) (e := sT S (rW x)) hRn rfl rfl rfl hw1 hw2 (EOk_mono hg (Nat.le_refl _) (Nat.le_refl _) hE) x1 x2 x7 (by
    by_cases z : rG x = 0
    · exact Or.inl z
    · rw [hg (rG x) (by omega) x7]; exact x9) (fun q => (x10 q).1) x3
  rw [← he'] at hEok
  have hTOk : TOk R' (sN S + 1) (sWk S) (va_up (sT S) (rW x) e') := TOk_up (TOk_mono hg (by omega) (Nat.le_refl _) hT.1) hEok.1 hEok.2
  have hc2 : 1 ≤ rW x ∧ rW x ≤ 200 := by omega
  have hcard : cardT (va_up (sT S) (rW x) e') 200 ≤ 16 := by
    have := card_up (sT S) (rW x) e' 200
    rw [if_pos hc2, if_pos hc2] at this
    have q1 : eC (sT S (rW x)) = 1 := by simp [eC, x3]
    have q2 : eC e' ≤ 1 := by simp only [eC]; split <;> omega
    have := hT.2
    omega
  have hpot : sN S + 1 + pot R' (va_up (sT S) (rW x) e') 200 ≤ b' := by
    have q := pot_up R' (sT S) (rW x) e' 200
    rw [if_pos hc2, if_pos hc2, pot_agr c1 hg hT.1] at q
    have q2 : eP R' (sT S (rW x)) = eP (sR S) (sT S (rW x)) := by
      simp only [eP, if_neg x3]
      rw [show dp R' (sT S (rW x)).2.2 = dp (sR S) (sT S (rW x)).2.2 from dp_agr c1 hg _ _ hE.2.2.2.2.1]
    have := hU.2
    omega
  -- the log's own table
  have hold : ∀ k, k ≤ sN S → lkT R' (sTt S) (sLp S) k = lk S k := lkT_agr hg
  have hnew : lkT R' (sTt S) (sLp S) (sN S + 1) = va_up (lk S (sN S)) (rW x) e' := by
    show (if sN S + 1 < sLp S then T0 else if rK (R' (sN S + 1)) = 8 then sTt S else tkT (lkT R' (sTt S) (sLp S) (sN S)) (sN S + 1) (R' (sN S + 1))) = _
    rw [if_neg (by omega), hRn, if_neg (by omega), hold _ (Nat.le_refl _), tkT, if_neg (show ¬ rW x = 0 by omega)]
    have q : (if (lk S (sN S) (rW x)).1 = 0 then (1, 0, 0) else lk S (sN S) (rW x)) = sT S (rW x) := by
      rcases hU.1 (rW x) with q | ⟨q1, q2⟩
      · rw [← q, if_neg x3]
      · rw [if_pos q1, q2]
    rw [q, he']
  have hsub : Sub (va_up (lk S (sN S)) (rW x) e') (va_up (sT S) (rW x) e') := by
    intro k
    by_cases z : k = rW x
    · simp only [va_up, if_pos z]; exact Or.inl trivial
    · simp only [va_up, if_neg z]; exact hU.1 k
  have hcap := cap_ok (b := b) (b' := b') (L := S.1) (x := x) hnb a6 hbb a4 a5
  have hlkok : TOk R' (sN S + 1) (sWk S) (va_up (lk S (sN S)) (rW x) e') := TOk_up (TOk_mono hg (by omega) (Nat.le_refl _) (g (sN S) (Nat.le_refl _)).1) hEok.1 hEok.2
  refine ⟨⟨?_, ?_, ?_, hcap.1, hcap.2.1, hcap.2.2.1⟩, ⟨?_, c2, c3, c4⟩, ?_, ⟨?_, e2, ?_⟩, ?_, ?_⟩
  · show sFo S ≤ sN S + 1
    omega
  · show sCh S + (if rK x = 1 then 1 else 0) = cntK (va_up (sR S) (sN S + 1) x) (sN S) + (if rK (va_up (sR S) (sN S + 1) x (sN S + 1)) = 1 then 1 else 0)
    rw [← hR', hRn, cntK_agr hg _ (Nat.le_refl _), a2]
  · show sCh S + (if rK x = 1 then 1 else 0) ≤ 2000
    split
    · rename_i q; have := (x10 q).2; omega
    · omega
  · show ROk (va_up (sR S) (sN S + 1) x) (sN S + 1) (sWk S)
    rw [← hR']; exact hROk
  · rcases d with ⟨d1, d2⟩ | ⟨d1, d2, d3, d4, d5⟩
    · refine Or.inl ⟨d1, fun r r1 r2 => ?_⟩
      show rK (va_up (sR S) (sN S + 1) x r) ≠ 8
      rw [← hR']
      by_cases q : r ≤ sN S
      · rw [hg r r1 q]; exact d2 r r1 q
      · have q : r = sN S + 1 := by have : r ≤ sN S + 1 := r2; omega
        rw [q, hRn]; omega
    · refine Or.inr ⟨d1, d2, ?_, ?_, fun r r1 r2 => ?_⟩
      · show rK (va_up (sR S) (sN S + 1) x (sLp S)) = 7
        rw [← hR', hg _ d1 (by omega)]; exact d3
      · show rK (va_up (sR S) (sN S + 1) x (sLp S + 1)) = 8
        rw [← hR', hg _ (by omega) (by omega)]; exact d4
      · show rK (va_up (sR S) (sN S + 1) x r) ≠ 8
        rw [← hR']
        have r1 : sLp S + 1 < r := r1
        by_cases q : r ≤ sN S
        · rw [hg r (by omega) q]; exact d5 r r1 q
        · have q : r = sN S + 1 := by have : r ≤ sN S + 1 := r2; omega
          rw [q, hRn]; omega
  · show TOk (va_up (sR S) (sN S + 1) x) (sLp S) (sWk S) (sTt S)
    rw [← hR']
    exact TOk_mono (fun r r1 r2 => hg r r1 (by omega)) (Nat.le_refl _) (Nat.le_refl _) e1
  · intro q
    show tkB (sBs S) (sN S + 1) x q ≤ sN S + 1
    rw [tkB]
    split
    · by_cases z : q = rP x
      · simp only [va_up, if_pos z]; exact Nat.le_refl _
      · simp only [va_up, if_neg z]; have := e3 q; omega
    · have := e3 q; omega
  · intro k hk
    show TOk (va_up (sR S) (sN S + 1) x) k (sWk S) (lkT (va_up (sR S) (sN S + 1) x) (sTt S) (sLp S) k) ∧ cardT (lkT (va_up (sR S) (sN S + 1) x) (sTt S) (sLp S) k) 200 ≤ 16 ∧ k + pot (va_up (sR S) (sN S + 1) x) (lkT (va_up (sR S) (sN S + 1) x) (sTt S) (sLp S) k) 200 ≤ b'
    rw [← hR']
    by_cases q : k ≤ sN S
    · rw [hold k q]
      have gk := g k q
      refine ⟨TOk_mono (fun r r1 r2 => hg r r1 (by omega)) (Nat.le_refl _) (Nat.le_refl _) gk.1, gk.2.1, ?_⟩
      rw [pot_agr (ROk_le c1 q) (fun r r1 r2 => hg r r1 (by omega)) gk.1]
      omega
    · have q : k = sN S + 1 := by have : k ≤ sN S + 1 := hk; omega
      subst q
      rw [hnew]
      refine ⟨hlkok, Nat.le_trans (Sub_card hsub 200) hcard, ?_⟩
      have := Sub_pot (R := R') hsub 200
      omega
  · rcases hd with q | q
    · refine Or.inl ⟨q, ?_, ?_, ?_, ?_⟩
      · show Sub (lkT (va_up (sR S) (sN S + 1) x) (sTt S) (sLp S) (sN S + 1)) (tkT (sT S) (sN S + 1) x)
        rw [← hR', hnew, hT']; exact hsub
      · show TOk (va_up (sR S) (sN S + 1) x) (sN S + 1) (sWk S) (tkT (sT S) (sN S + 1) x)
        rw [← hR', hT']; exact hTOk
      · show cardT (tkT (sT S) (sN S + 1) x) 200 ≤ 16
        rw [hT']; exact hcard
      · show sN S + 1 + pot (va_up (sR S) (sN S + 1) x) (tkT (sT S) (sN S + 1) x) 200 ≤ b'
        rw [← hR', hT']; exact hpot
    · refine Or.inr (Or.inr ⟨⟨by show 2 ≤ sDo S; omega, by show sDo S ≤ 4; omega⟩, fun z => absurd (show sDo S = 2 from z) (by omega), ?_⟩)
      show tkT (sT S) (sN S + 1) x = lkT (va_up (sR S) (sN S + 1) x) (sTt S) (sLp S) (sN S + 1)
      rw [← hR', hnew, hT']
      have q2 : sT S = lk S (sN S) := by
        rcases ph with ⟨z, -⟩ | ⟨z, -⟩ | ⟨-, -, z⟩
        · omega
        · omega
        · exact z
      rw [q2]
end
section
theorem ROk_em {b : Nat} {S : SS} {x : Rc} (h : Inv0 b S) (hx : XOk S x) : ROk (va_up (sR S) (sN S + 1) x) (sN S + 1) (sWk S) := by
  have hT := Inv0_T h
  obtain ⟨-, ⟨c1, -⟩, -⟩ := h
  obtain ⟨⟨x1, x2⟩, x3, x4, x5, x6, x7, x8, x9, x10⟩ := hx
  have hE := (hT.1 (rW x)).2 x3
  have hg := Agr_up (sR S) (sN S) x
  obtain ⟨R', hR'⟩ : ∃ R', R' = va_up (sR S) (sN S + 1) x := ⟨_, rfl⟩
  rw [← hR'] at hg ⊢
  have hRn : R' (sN S + 1) = x := by rw [hR']; simp [va_up]
  intro r r1 r2
  by_cases q : r ≤ sN S
  · exact ROk_mono hg (Nat.le_refl _) c1 r r1 q
  · have q : r = sN S + 1 := by omega
    subst q
    rw [hRn]
    refine ⟨⟨x1, by omega⟩, fun q => by omega, fun _ => hE.1, hE.2.1, by have := hE.2.2.2.1; omega, x5, x6, by omega, x8, ?_, fun q => ?_⟩
    · by_cases z : rG x = 0
      · exact Or.inl z
      · rw [hg (rG x) (by omega) x7]; exact x9
    · rw [x4]
      have z := (hE.2.2.2.2.2.2 (x10 q).1).2
      by_cases z2 : (sT S (rW x)).2.1 = 0
      · exact Or.inl z2
      · rw [hg _ (by omega) hE.2.2.2.1]; exact z
theorem eP_agr {b : Nat} {S : SS} {x : Rc} (h : Inv0 b S) {c : Nat} (hc : c ≤ sN S) : dp (va_up (sR S) (sN S + 1) x) c = dp (sR S) c := dp_agr h.2.1.1 (Agr_up _ _ x) _ _ hc
/-- a change -/
theorem Inv0_add {b : Nat} {S : SS} {w p d : Nat} {m : Int32} (h : Inv0 b S) (hd : sDo S = 0) (hs : (sT S w).1 = 1) (hp : p < 64) (hdw : d < 8) (hch : sCh S < 2000) : Inv0 (b + 2) (emP S (rcC S w p d m)) := by
  have hp0 : (sT S w).1 ≠ 0 := by omega
  have hE := ((Inv0_T h).1 w).2 hp0
  have hx : XOk S (rcC S w p d m) := ⟨⟨by show 1 ≤ 1; omega, by show 1 ≤ 6; omega⟩, hp0, rfl, hp, hdw, Nat.zero_le _, fun _ => rfl, Or.inl rfl, fun _ => ⟨hs, hch⟩⟩
  refine Inv_em _ h (Or.inl hd) hx (by omega) ?_
  have hRo := ROk_em h hx
  have e1 : tkE (sN S + 1) (rK (rcC S w p d m)) (rG (rcC S w p d m)) (sT S (rW (rcC S w p d m))) = ((sT S w).1, sN S + 1, sN S + 1) := rfl
  have hg := Agr_up (sR S) (sN S) (rcC S w p d m)
  rw [e1]
  have e2 : ub (va_up (sR S) (sN S + 1) (rcC S w p d m)) (sN S + 1) = (sT S w).2.2 := by
    have q : va_up (sR S) (sN S + 1) (rcC S w p d m) (sN S + 1) = rcC S w p d m := by simp [va_up]
    rw [ub, q]
    have z : nxO (va_up (sR S) (sN S + 1) (rcC S w p d m)) (sT S w).2.1 = (sT S w).2.2 := by
      rw [nxO_agr hg hE.2.2.2.1]; exact (hE.2.2.2.2.2.2 hs).1
    exact z
  have e3 : dp (va_up (sR S) (sN S + 1) (rcC S w p d m)) (sN S + 1) = dp (sR S) (sT S w).2.2 + 1 := by
    rw [dp_s hRo (by omega) (Nat.le_refl _), e2, eP_agr h hE.2.2.2.2.1]
  show 1 + (if (sT S w).1 = 0 then 0 else dp (va_up (sR S) (sN S + 1) (rcC S w p d m)) (sN S + 1) + 1) + b ≤ b + 2 + (if (sT S w).1 = 0 then 0 else dp (sR S) (sT S w).2.2 + 1)
  rw [if_neg hp0, if_neg hp0, e3]
  omega
/-- done, given up, prepared -/
theorem Inv0_k {b k w : Nat} {S : SS} (h : Inv0 b S) (hd : sDo S = 0) (hp0 : (sT S w).1 ≠ 0) (hk : k = 3 ∨ k = 4 ∨ k = 6) : Inv0 (b + 1) (emT S (rcW S k w)) := by
  have hE := ((Inv0_T h).1 w).2 hp0
  have hx : XOk S (rcW S k w) := ⟨⟨by show 1 ≤ k; omega, by show k ≤ 6; omega⟩, hp0, rfl, by show 0 < 64; omega, by show 0 < 8; omega, Nat.zero_le _, fun _ => rfl, Or.inl rfl, fun q => absurd (show k = 1 from q) (by omega)⟩
  refine Inv_em _ h (Or.inl hd) hx (by omega) ?_
  obtain ⟨z, hz⟩ : ∃ z : Nat, z ≠ 0 ∧ tkE (sN S + 1) (rK (rcW S k w)) (rG (rcW S k w)) (sT S (rW (rcW S k w))) = (z, sN S + 1, (sT S w).2.2) := by
    rcases hk with q | q | q <;> subst q
    · exact ⟨4, by decide, rfl⟩
    · exact ⟨2, by decide, rfl⟩
    · exact ⟨3, by decide, rfl⟩
  rw [hz.2]
  show 1 + (if z = 0 then 0 else dp (va_up (sR S) (sN S + 1) (rcW S k w)) (sT S w).2.2 + 1) + b ≤ b + 1 + (if (sT S w).1 = 0 then 0 else dp (sR S) (sT S w).2.2 + 1)
  rw [if_neg hz.1, if_neg hp0, eP_agr h hE.2.2.2.2.1]
  omega
/-- ended -/
theorem Inv0_end {b w : Nat} {S : SS} (h : Inv0 b S) (hd : sDo S = 0 ∨ sDo S = 3 ∨ sDo S = 4) (hp0 : (sT S w).1 ≠ 0) : Inv0 b (emT S (rcW S 5 w)) := by
  have hx : XOk S (rcW S 5 w) := ⟨⟨by show 1 ≤ 5; omega, by show 5 ≤ 6; omega⟩, hp0, rfl, by show 0 < 64; omega, by show 0 < 8; omega, Nat.zero_le _, fun _ => rfl, Or.inl rfl, fun q => absurd (show (5 : Nat) = 1 from q) (by omega)⟩
  refine Inv_em _ h hd hx (by omega) ?_
  show 1 + 0 + b ≤ b + (if (sT S w).1 = 0 then 0 else dp (sR S) (sT S w).2.2 + 1)
  rw [if_neg hp0]
  omega
/-- a change is undone -/
theorem Inv0_und {b w : Nat} {S : SS} (h : Inv0 b S) (hd : sDo S = 0 ∨ sDo S = 3 ∨ sDo S = 4) (hp0 : (sT S w).1 ≠ 0) (hc : 1 ≤ (sT S w).2.2) : Inv0 b (und S w) := by
  have hE := ((Inv0_T h).1 w).2 hp0
  have hR := h.2.1.1
  have hcn := hE.2.2.2.2.1
  have hKc : rK (sR S (sT S w).2.2) = 1 := hE.2.2.2.2.2.1.resolve_left (by omega)
  have hu := ub_lt hR hc hcn
  have hr := hR _ hc hcn
  have hx : XOk S (rcU S w) := ⟨⟨by show 1 ≤ 2; omega, by show 2 ≤ 6; omega⟩, hp0, rfl, hr.2.2.2.2.2.1, hr.2.2.2.2.2.2.1, by show ub (sR S) (sT S w).2.2 ≤ sN S; omega, fun q => absurd rfl q, ub_ch hR hc hcn hKc, fun q => absurd (show (2 : Nat) = 1 from q) (by omega)⟩
  refine Inv_em _ h hd hx (by omega) ?_
  have e1 : tkE (sN S + 1) (rK (rcU S w)) (rG (rcU S w)) (sT S (rW (rcU S w))) = ((sT S w).1, sN S + 1, ub (sR S) (sT S w).2.2) := rfl
  rw [e1]
  show 1 + (if (sT S w).1 = 0 then 0 else dp (va_up (sR S) (sN S + 1) (rcU S w)) (ub (sR S) (sT S w).2.2) + 1) + b ≤ b + (if (sT S w).1 = 0 then 0 else dp (sR S) (sT S w).2.2 + 1)
  rw [if_neg hp0, if_neg hp0, eP_agr h (by omega), dp_s hR hc hcn]
  omega
theorem und_T {w : Nat} {S : SS} (hp0 : (sT S w).1 ≠ 0) (hw : w ≠ 0) : sT (und S w) w = ((sT S w).1, sN S + 1, ub (sR S) (sT S w).2.2) := by
  show tkT (sT S) (sN S + 1) (rcU S w) w = _
  rw [tkT_p (x := rcU S w) hp0 hw]
  show va_up (sT S) w (tkE (sN S + 1) 2 (ub (sR S) (sT S w).2.2) (sT S w)) w = _
  simp [va_up, tkE]
theorem emT_T {k w : Nat} {S : SS} (hp0 : (sT S w).1 ≠ 0) (hw : w ≠ 0) : sT (emT S (rcW S k w)) w = tkE (sN S + 1) k 0 (sT S w) := by
  show tkT (sT S) (sN S + 1) (rcW S k w) w = _
  rw [tkT_p (x := rcW S k w) hp0 hw]
  show va_up (sT S) w (tkE (sN S + 1) k 0 (sT S w)) w = _
  simp [va_up]
theorem emT_n (S : SS) (x : Rc) : sN (emT S x) = sN S + 1 := rfl
theorem und_n (S : SS) (w : Nat) : sN (und S w) = sN S + 1 := rfl
theorem cap_mono (L : LG) (x : Rc) : L.2.2.2.1 ≤ (apL L x).2.2.2.1 := by
  show L.2.2.2.1 ≤ (if L.2.2.2.1 < L.1 * 7 + 7 then L.2.2.2.1 * 2 else L.2.2.2.1)
  split <;> omega
/-- undoing, down to a record -/
theorem undL_ok {b w to : Nat} : ∀ (k : Nat) {S : SS}, Inv0 b S → sDo S = 0 → (sT S w).1 ≠ 0 → Inv0 b (undL k S w to).2 ∧ sDo (undL k S w to).2 = 0 ∧ (sT (undL k S w to).2 w).1 ≠ 0 ∧ (undL k S w to).1 ≤ k ∧ sCap S ≤ sCap (undL k S w to).2 ∧ ((sT S w).2.2 ≤ k → (sT (undL k S w to).2 w).2.2 ≤ to) ∧ (undL k S w to).1 ≤ (sT S w).2.2 := by
  intro k
  induction k with
  | zero => intro S h hd hp; exact ⟨h, hd, hp, Nat.le_refl _, Nat.le_refl _, fun q => Nat.le_trans q (Nat.zero_le _), Nat.zero_le _⟩
  | succ k ih =>
    intro S h hd hp
    have hE := ((Inv0_T h).1 w).2 hp
    by_cases q : to < (sT S w).2.2
    · have e : undL (k + 1) S w to = ((undL k (und S w) w to).1 + 1, (undL k (und S w) w to).2) := by rw [undL, if_pos q]
      have hu := Inv0_und h (Or.inl hd) hp (by omega)
      have ht := und_T (S := S) hp (show w ≠ 0 by have := hE.1; omega)
      have hlt := ub_lt h.2.1.1 (show 1 ≤ (sT S w).2.2 by omega) hE.2.2.2.2.1
      obtain ⟨g1, g2, g3, g4, g5, g6, g7⟩ := ih (S := und S w) hu hd (by rw [ht]; exact hp)
      rw [e]
      rw [ht] at g6 g7
      exact ⟨g1, g2, g3, by show (undL k (und S w) w to).1 + 1 ≤ k + 1; omega, Nat.le_trans (cap_mono S.1 _) g5, fun z => g6 (by show ub (sR S) (sT S w).2.2 ≤ k; omega), by show (undL k (und S w) w to).1 + 1 ≤ _; have g7 : (undL k (und S w) w to).1 ≤ ub (sR S) (sT S w).2.2 := g7; omega⟩
    · have e : undL (k + 1) S w to = (0, S) := by rw [undL, if_neg q]
      rw [e]
      exact ⟨h, hd, hp, Nat.zero_le _, Nat.le_refl _, fun _ => by show (sT S w).2.2 ≤ to; omega, Nat.zero_le _⟩
theorem undL_n {w to : Nat} : ∀ (k : Nat) (S : SS), sN (undL k S w to).2 = sN S + (undL k S w to).1 := by
  intro k
  induction k with
  | zero => intro S; rfl
  | succ k ih =>
    intro S
    by_cases q : to < (sT S w).2.2
    · rw [undL, if_pos q]
      show sN (undL k (und S w) w to).2 = sN S + ((undL k (und S w) w to).1 + 1)
      rw [ih (und S w), und_n]
      omega
    · rw [undL, if_neg q]; rfl
/-- forcing -/
theorem Inv0_frc {b : Nat} {S : SS} (x : Nat) (h : Inv0 b S) : Inv0 b (frc S x) := by
  obtain ⟨⟨a1, a2⟩, c, d, e⟩ := h
  refine ⟨⟨?_, a2⟩, c, ?_, e⟩
  · show max (sFo S) (min x (sN S)) ≤ sN S
    omega
  · rcases d with d | ⟨d1, d2, d3⟩
    · exact Or.inl d
    · exact Or.inr ⟨d1, by show sLp S + 1 ≤ max (sFo S) (min x (sN S)); omega, d3⟩
/-- a work begins -/
theorem Inv0_begin {b : Nat} {S : SS} (h : Inv0 b S) (hd : sDo S = 0) (hw : sWk S < 200) (hc : cardT (sT S) 200 < 16) : Inv0 (b + 1) (S.1, S.2.1, (va_up (sT S) (sWk S + 1) (1, 0, 0), sBs S), S.2.2.2.1, (sLp S, sPt S, sWk S + 1, S.2.2.2.2.2.2.2)) := by
  have hT := Inv0_T h
  have hU := Inv0_U h (by omega)
  obtain ⟨⟨a1, a2, a3, a4, a5, a6⟩, ⟨c1, c2, c3, c4⟩, d, ⟨e1, e2, e3⟩, g, ph⟩ := h
  have ag : Agr (sR S) (sR S) (sN S) := fun _ _ _ => rfl
  have hz : (sT S (sWk S + 1)).1 = 0 := by
    by_cases z : (sT S (sWk S + 1)).1 = 0
    · exact z
    · have := ((hT.1 _).2 z).2.1; omega
  have hz2 : (lk S (sN S) (sWk S + 1)).1 = 0 := by
    by_cases z : (lk S (sN S) (sWk S + 1)).1 = 0
    · exact z
    · have := (((g (sN S) (Nat.le_refl _)).1 _).2 z).2.1; omega
  have hc2 : 1 ≤ sWk S + 1 ∧ sWk S + 1 ≤ 200 := by omega
  refine ⟨⟨a1, a2, a3, a4, a5, by show sCap S ≤ 14 * (b + 1) + 2000; omega⟩, ⟨ROk_mono ag (Nat.le_succ (sWk S)) c1, by show sWk S + 1 ≤ 200; omega, c3, c4⟩, d, ⟨TOk_mono (fun _ _ _ => rfl) (Nat.le_refl _) (Nat.le_succ (sWk S)) e1, e2, e3⟩, fun k hk => ?_, Or.inl ⟨hd, fun k => ?_, ?_, ?_, ?_⟩⟩
  · have := g k hk
    exact ⟨TOk_mono (fun _ _ _ => rfl) (Nat.le_refl _) (Nat.le_succ (sWk S)) this.1, this.2.1, Nat.le_succ_of_le this.2.2⟩
  · show va_up (sT S) (sWk S + 1) (1, 0, 0) k = lk S (sN S) k ∨ _ ∧ va_up (sT S) (sWk S + 1) (1, 0, 0) k = (1, 0, 0)
    by_cases z : k = sWk S + 1
    · subst z; exact Or.inr ⟨hz2, by simp [va_up]⟩
    · simp only [va_up, if_neg z]; exact hU.1 k
  · refine TOk_up (TOk_mono ag (Nat.le_refl _) (Nat.le_succ (sWk S)) hT.1) (fun q => absurd q (by decide)) (fun _ => ⟨by omega, Nat.le_refl _, by show 1 ≤ 4; omega, Nat.zero_le _, Nat.zero_le _, Or.inl rfl, fun _ => ⟨?_, Or.inl rfl⟩⟩)
    show nxO (sR S) 0 = 0
    rw [nxO, if_neg (fun q => q.1 rfl)]
  · have := card_up (sT S) (sWk S + 1) (1, 0, 0) 200
    rw [if_pos hc2, if_pos hc2] at this
    have q1 : eC (1, 0, 0) = 1 := rfl
    show cardT (va_up (sT S) (sWk S + 1) (1, 0, 0)) 200 ≤ 16
    omega
  · have := pot_up (sR S) (sT S) (sWk S + 1) (1, 0, 0) 200
    rw [if_pos hc2, if_pos hc2] at this
    have q1 : eP (sR S) (1, 0, 0) = 1 := rfl
    have := hU.2
    show sN S + pot (sR S) (va_up (sT S) (sWk S + 1) (1, 0, 0)) 200 ≤ b + 1
    omega
end
section
theorem Inv0_mono {b b' : Nat} {S : SS} (hb : b ≤ b') (h : Inv0 b S) : Inv0 b' S := by
  obtain ⟨⟨a1, a2, a3, a4, a5, a6⟩, c, d, e, g, ph⟩ := h
  refine ⟨⟨a1, a2, a3, a4, a5, by omega⟩, c, d, e, fun k hk => ⟨(g k hk).1, (g k hk).2.1, Nat.le_trans (g k hk).2.2 hb⟩, ?_⟩
  rcases ph with ⟨q1, q2, q3, q4, q5⟩ | q | q
  · exact Or.inl ⟨q1, q2, q3, q4, Nat.le_trans q5 hb⟩
  · exact Or.inr (Or.inl q)
  · exact Or.inr (Or.inr q)
theorem Stdy_0 {S : SS} (h : sDo S = 0) : Stdy S := ⟨fun q => by omega, fun q => by omega, fun q => by omega, fun q => by omega⟩
/-- a page is written -/
theorem Inv0_write {b : Nat} {S : SS} (G : PG) (p x : Nat) (h : Inv0 b S) : Inv0 b ((sN S, max (sFo S) (min x (sN S)), S.1.2.2), G, (sT S, va_up (sBs S) p 0), S.2.2.2) := by
  have h2 := Inv0_frc x h
  obtain ⟨a, c, d, ⟨e1, e2, e3⟩, g, ph⟩ := h2
  have ph' : Ph b ((sN S, max (sFo S) (min x (sN S)), S.1.2.2), G, (sT S, va_up (sBs S) p 0), S.2.2.2) := by
    rcases ph with q | ⟨q0, q1, q2, q3, q4, q5⟩ | q
    · exact Or.inl q
    · refine Or.inr (Or.inl ⟨q0, q1, q2, q3, q4, fun z1 z2 r => ?_⟩)
      show va_up (sBs S) p 0 r = 0
      by_cases z : r = p
      · simp only [va_up, if_pos z]
      · simp only [va_up, if_neg z]; exact q5 z1 z2 r
    · exact Or.inr (Or.inr q)
  refine ⟨a, c, d, ⟨e1, e2, fun q => ?_⟩, g, ph'⟩
  show va_up (sBs S) p 0 q ≤ sN S
  by_cases z : q = p
  · simp only [va_up, if_pos z]; exact Nat.zero_le _
  · simp only [va_up, if_neg z]; exact e3 q
/-- a point -/
theorem Inv0_point {b : Nat} {S : SS} (h : Inv0 b S) (hd : sDo S = 0) (hp : sPt S < 100) : Inv0 (b + 2) (frc (apL (apL S.1 (rc0 7)) (rc0 8), S.2.1, S.2.2.1, S.2.2.1, (sN S + 1, sPt S + 1, S.2.2.2.2.2.2)) (sN S + 2)) := by
  have hT := Inv0_T h
  have hU := Inv0_U h (by omega)
  have hnb := Inv0_n h
  obtain ⟨⟨a1, a2, a3, a4, a5, a6⟩, ⟨c1, c2, c3, c4⟩, d, ⟨e1, e2, e3⟩, g, ph⟩ := h
  obtain ⟨R', hR'⟩ : ∃ R', R' = va_up (va_up (sR S) (sN S + 1) (rc0 7)) (sN S + 1 + 1) (rc0 8) := ⟨_, rfl⟩
  have hg : Agr (sR S) R' (sN S) := fun r r1 r2 => by rw [hR']; simp [va_up, show r ≠ sN S + 1 + 1 by omega, show r ≠ sN S + 1 by omega]
  have h7 : R' (sN S + 1) = rc0 7 := by rw [hR']; simp [va_up]
  have h8 : R' (sN S + 2) = rc0 8 := by rw [hR']; simp [va_up]
  have cap1 := cap_ok (b := b) (b' := b + 1) (L := S.1) (x := rc0 7) hnb a6 (by omega) a4 a5
  have cap2 := cap_ok (b := b + 1) (b' := b + 2) (L := apL S.1 (rc0 7)) (x := rc0 8) (by show sN S + 1 ≤ b + 1; omega) cap1.2.2.1 (by omega) cap1.1 cap1.2.1
  have hlow : ∀ k, k ≤ sN S → lkT R' (sT S) (sN S + 1) k = T0 := by
    intro k hk
    cases k with
    | zero => rfl
    | succ k => show (if k + 1 < sN S + 1 then T0 else _) = T0; rw [if_pos (by omega)]
  have hm : lkT R' (sT S) (sN S + 1) (sN S + 1) = T0 := by
    show (if sN S + 1 < sN S + 1 then T0 else if rK (R' (sN S + 1)) = 8 then sT S else tkT (lkT R' (sT S) (sN S + 1) (sN S)) (sN S + 1) (R' (sN S + 1))) = T0
    rw [if_neg (Nat.lt_irrefl _), h7, if_neg (by decide), hlow _ (Nat.le_refl _), tkT, if_pos (show rW (rc0 7) = 0 from rfl)]
  have he : lkT R' (sT S) (sN S + 1) (sN S + 2) = sT S := by
    show (if sN S + 2 < sN S + 1 then T0 else if rK (R' (sN S + 2)) = 8 then sT S else _) = sT S
    rw [if_neg (by omega), h8, if_pos (show rK (rc0 8) = 8 from rfl)]
  have hTk : TOk R' (sN S) (sWk S) (sT S) := TOk_mono hg (Nat.le_refl _) (Nat.le_refl _) hT.1
  have hpot : pot R' (sT S) 200 = pot (sR S) (sT S) 200 := pot_agr c1 hg hT.1 200
  have hROk : ROk R' (sN S + 2) (sWk S) := by
    intro r r1 r2
    by_cases q : r ≤ sN S
    · exact ROk_mono hg (Nat.le_refl _) c1 r r1 q
    · rcases (show r = sN S + 1 ∨ r = sN S + 2 by omega) with q | q <;> subst q
      · rw [h7]
        exact ⟨⟨by decide, by decide⟩, fun _ => rfl, fun q => absurd q (by decide), Nat.zero_le _, by show 0 < sN S + 1; omega, by decide, by decide, by show 0 < sN S + 1; omega, fun _ => rfl, Or.inl rfl, fun _ => Or.inl rfl⟩
      · rw [h8]
        exact ⟨⟨by decide, by decide⟩, fun _ => rfl, fun q => absurd q (by decide), Nat.zero_le _, by show 0 < sN S + 2; omega, by decide, by decide, by show 0 < sN S + 2; omega, fun _ => rfl, Or.inl rfl, fun _ => Or.inl rfl⟩
  refine ⟨⟨?_, ?_, ?_, cap2.1, cap2.2.1, cap2.2.2.1⟩, ⟨?_, c2, by show sPt S + 1 ≤ 100; omega, ⟨fun q => absurd (show sN S + 1 = 0 from q) (by omega), fun q => absurd (show sPt S + 1 = 0 from q) (by omega)⟩⟩, ?_, ⟨?_, fun p => Nat.le_succ_of_le (e3 p), fun p => by have := e3 p; show sBs S p ≤ sN S + 1 + 1; omega⟩, ?_, ?_⟩
  · show max (sFo S) (min (sN S + 2) (sN S + 1 + 1)) ≤ sN S + 1 + 1
    omega
  · show sCh S + (if (7 : Nat) = 1 then 1 else 0) + (if (8 : Nat) = 1 then 1 else 0) = cntK (va_up (va_up (sR S) (sN S + 1) (rc0 7)) (sN S + 1 + 1) (rc0 8)) (sN S) + (if rK (va_up (va_up (sR S) (sN S + 1) (rc0 7)) (sN S + 1 + 1) (rc0 8) (sN S + 1)) = 1 then 1 else 0) + (if rK (va_up (va_up (sR S) (sN S + 1) (rc0 7)) (sN S + 1 + 1) (rc0 8) (sN S + 1 + 1)) = 1 then 1 else 0)
    rw [← hR', h7, show R' (sN S + 1 + 1) = rc0 8 from h8, cntK_agr hg _ (Nat.le_refl _), a2]
    rfl
  · show sCh S + (if (7 : Nat) = 1 then 1 else 0) + (if (8 : Nat) = 1 then 1 else 0) ≤ 2000
    exact a3
  · show ROk (va_up (va_up (sR S) (sN S + 1) (rc0 7)) (sN S + 1 + 1) (rc0 8)) (sN S + 1 + 1) (sWk S)
    rw [← hR']; exact hROk
  · refine Or.inr ⟨by show 1 ≤ sN S + 1; omega, by show sN S + 1 + 1 ≤ max (sFo S) (min (sN S + 2) (sN S + 1 + 1)); omega, ?_, ?_, fun r r1 r2 => ?_⟩
    · show rK (va_up (va_up (sR S) (sN S + 1) (rc0 7)) (sN S + 1 + 1) (rc0 8) (sN S + 1)) = 7
      rw [← hR', h7]; rfl
    · show rK (va_up (va_up (sR S) (sN S + 1) (rc0 7)) (sN S + 1 + 1) (rc0 8) (sN S + 1 + 1)) = 8
      rw [← hR', show R' (sN S + 1 + 1) = rc0 8 from h8]; rfl
    · have r1 : sN S + 1 + 1 < r := r1
      have r2 : r ≤ sN S + 1 + 1 := r2
      omega
  · show TOk (va_up (va_up (sR S) (sN S + 1) (rc0 7)) (sN S + 1 + 1) (rc0 8)) (sN S + 1) (sWk S) (sT S)
    rw [← hR']
    exact TOk_mono (fun _ _ _ => rfl) (Nat.le_succ _) (Nat.le_refl _) hTk
  · intro k hk
    have hk : k ≤ sN S + 2 := hk
    show TOk (va_up (va_up (sR S) (sN S + 1) (rc0 7)) (sN S + 1 + 1) (rc0 8)) k (sWk S) (lkT (va_up (va_up (sR S) (sN S + 1) (rc0 7)) (sN S + 1 + 1) (rc0 8)) (sT S) (sN S + 1) k) ∧ cardT (lkT (va_up (va_up (sR S) (sN S + 1) (rc0 7)) (sN S + 1 + 1) (rc0 8)) (sT S) (sN S + 1) k) 200 ≤ 16 ∧ k + pot (va_up (va_up (sR S) (sN S + 1) (rc0 7)) (sN S + 1 + 1) (rc0 8)) (lkT (va_up (va_up (sR S) (sN S + 1) (rc0 7)) (sN S + 1 + 1) (rc0 8)) (sT S) (sN S + 1) k) 200 ≤ b + 2
    rw [← hR']
    by_cases q : k ≤ sN S + 1
    · have e0 : lkT R' (sT S) (sN S + 1) k = T0 := by
        by_cases q2 : k ≤ sN S
        · exact hlow k q2
        · rw [show k = sN S + 1 by omega]; exact hm
      rw [e0, card_0, pot_0]
      exact ⟨TOk_0 _ _ _, by omega, by omega⟩
    · have q : k = sN S + 2 := by omega
      subst q
      rw [he, hpot]
      exact ⟨TOk_mono (fun _ _ _ => rfl) (by omega) (Nat.le_refl _) hTk, hT.2, by have := hU.2; omega⟩
  · refine Or.inl ⟨hd, ?_, ?_, hT.2, ?_⟩
    · show Sub (lkT (va_up (va_up (sR S) (sN S + 1) (rc0 7)) (sN S + 1 + 1) (rc0 8)) (sT S) (sN S + 1) (sN S + 2)) (sT S)
      rw [← hR', he]; exact Sub_rf _
    · show TOk (va_up (va_up (sR S) (sN S + 1) (rc0 7)) (sN S + 1 + 1) (rc0 8)) (sN S + 2) (sWk S) (sT S)
      rw [← hR']; exact TOk_mono (fun _ _ _ => rfl) (by omega) (Nat.le_refl _) hTk
    · show sN S + 2 + pot (va_up (va_up (sR S) (sN S + 1) (rc0 7)) (sN S + 1 + 1) (rc0 8)) (sT S) 200 ≤ b + 2
      rw [← hR', hpot]
      have := hU.2
      omega
theorem lkT_low {R : Nat → Rc} {Tt : TF} {lp k : Nat} (h : k < lp) : lkT R Tt lp k = T0 := by
  cases k with
  | zero => rfl
  | succ k => show (if k + 1 < lp then T0 else _) = T0; rw [if_pos h]
/-- a loss -/
theorem Inv0_los {b : Nat} {S : SS} (k : Nat) (h : Inv0 b S) : Inv0 b (los S k) := by
  have hnb := Inv0_n h
  obtain ⟨⟨a1, a2, a3, a4, a5, a6⟩, ⟨c1, c2, c3, c4⟩, d, ⟨e1, e2, e3⟩, g, ph⟩ := h
  have k1 : sFo S ≤ kept S k := Nat.le_add_right _ _
  have k2 : kept S k ≤ sN S := by show sFo S + min k (sN S - sFo S) ≤ sN S; omega
  refine ⟨⟨Nat.le_refl _, rfl, ?_, ?_, a5, a6⟩, ⟨ROk_le c1 k2, c2, c3, c4⟩, ?_, ⟨e1, e2, fun _ => Nat.zero_le _⟩, fun j hj => g j (Nat.le_trans hj k2), Or.inr (Or.inl ⟨rfl, ?_, ?_, ?_, ?_, fun _ _ _ => rfl⟩)⟩
  · have := cntK_mono (sR S) k2
    show cntK (sR S) (kept S k) ≤ 2000
    omega
  · show kept S k * 7 ≤ sCap S
    omega
  · rcases d with ⟨d1, d2⟩ | ⟨d1, d2, d3, d4, d5⟩
    · exact Or.inl ⟨d1, fun r r1 r2 => d2 r r1 (Nat.le_trans r2 k2)⟩
    · exact Or.inr ⟨d1, Nat.le_trans d2 k1, d3, d4, fun r r1 r2 => d5 r r1 (Nat.le_trans r2 k2)⟩
  · show sLp S ≤ max (sLp S) 1
    omega
  · show 1 ≤ max (sLp S) 1
    omega
  · show max (sLp S) 1 ≤ kept S k + 1
    rcases d with ⟨d1, -⟩ | ⟨d1, d2, -⟩ <;> omega
  · show T0 = lkT (sR S) (sTt S) (sLp S) (max (sLp S) 1 - 1)
    by_cases z : sLp S = 0
    · rw [z]; rfl
    · rw [lkT_low (by omega)]
theorem lbD_le {B : Nat → Nat} {n : Nat} (h : ∀ p, B p ≤ n) : ∀ m, lbD B m ≤ n := by
  intro m
  induction m with
  | zero => exact Nat.zero_le _
  | succ m ih => simp only [lbD]; split; exact h m; exact ih
/-- parts are passed over -/
theorem Inv0_pas1 {b : Nat} {S : SS} (h : Inv0 b S) : Inv0 b (pas1 S) ∧ (sDo (pas1 S) = 1 → sAt (pas1 S) ≤ sN (pas1 S)) := by
  by_cases q : sDo S = 1 ∧ sN S < sAt S
  · rw [pas1, if_pos q]
    refine ⟨?_, fun z => absurd (show (2 : Nat) = 1 from z) (by decide)⟩
    obtain ⟨a, c, d, e, g, ph⟩ := h
    refine ⟨a, c, d, e, g, Or.inr (Or.inr ⟨⟨by show 2 ≤ 2; omega, by show 2 ≤ 4; omega⟩, fun _ => ?_, ?_⟩)⟩
    · have := lbD_le e.2.2 64
      show 1 ≤ (if lbD (sBs S) 64 = 0 then sN S + 1 else lbD (sBs S) 64) ∧ (if lbD (sBs S) 64 = 0 then sN S + 1 else lbD (sBs S) 64) ≤ sN S + 1
      split <;> omega
    · rcases ph with ⟨z, -⟩ | ⟨-, -, p1, p2, p3, -⟩ | ⟨z, -⟩
      · omega
      · show sT S = lk S (sN S)
        rw [p3, show sAt S - 1 = sN S by omega]
      · omega
  · rw [pas1, if_neg q]
    exact ⟨h, fun z => by by_cases k : sN S < sAt S; exact absurd ⟨z, k⟩ q; omega⟩
theorem Inv0_pas2 {b : Nat} {S : SS} (h : Inv0 b S) (h1 : sDo S = 1 → sAt S ≤ sN S) : Inv0 b (pas2 S) ∧ (sDo (pas2 S) = 1 → sAt (pas2 S) ≤ sN (pas2 S)) ∧ (sDo (pas2 S) = 2 → sAt (pas2 S) ≤ sN (pas2 S)) := by
  by_cases q : sDo S = 2 ∧ sN S < sAt S
  · rw [pas2, if_pos q]
    refine ⟨?_, fun z => absurd (show (3 : Nat) = 1 from z) (by decide), fun z => absurd (show (3 : Nat) = 2 from z) (by decide)⟩
    obtain ⟨a, c, d, e, g, ph⟩ := h
    refine ⟨a, c, d, e, g, Or.inr (Or.inr ⟨⟨by show 2 ≤ 3; omega, by show 3 ≤ 4; omega⟩, fun z => absurd (show (3 : Nat) = 2 from z) (by decide), ?_⟩)⟩
    rcases ph with ⟨z, -⟩ | ⟨z, -⟩ | ⟨-, -, z⟩
    · omega
    · omega
    · exact z
  · rw [pas2, if_neg q]
    exact ⟨h, h1, fun z => by by_cases k : sN S < sAt S; exact absurd ⟨z, k⟩ q; omega⟩
theorem Inv0_pas3 {b : Nat} {S : SS} (h : Inv0 b S) (h1 : sDo S = 1 → sAt S ≤ sN S) (h2 : sDo S = 2 → sAt S ≤ sN S) : Inv0 b (pas3 S) ∧ (sDo (pas3 S) = 1 → sAt (pas3 S) ≤ sN (pas3 S)) ∧ (sDo (pas3 S) = 2 → sAt (pas3 S) ≤ sN (pas3 S)) ∧ (sDo (pas3 S) = 3 → lwD (sT (pas3 S)) 4 200 ≠ 0) := by
  by_cases q : sDo S = 3 ∧ lwD (sT S) 4 200 = 0
  · rw [pas3, if_pos q]
    refine ⟨?_, fun z => absurd (show (4 : Nat) = 1 from z) (by decide), fun z => absurd (show (4 : Nat) = 2 from z) (by decide), fun z => absurd (show (4 : Nat) = 3 from z) (by decide)⟩
    obtain ⟨a, c, d, e, g, ph⟩ := h
    refine ⟨a, c, d, e, g, Or.inr (Or.inr ⟨⟨by show 2 ≤ 4; omega, by show 4 ≤ 4; omega⟩, fun z => absurd (show (4 : Nat) = 2 from z) (by decide), ?_⟩)⟩
    rcases ph with ⟨z, -⟩ | ⟨z, -⟩ | ⟨-, -, z⟩
    · omega
    · omega
    · exact z
  · rw [pas3, if_neg q]
    exact ⟨h, h1, h2, fun z k => q ⟨z, k⟩⟩
theorem Inv_pas4 {b : Nat} {S : SS} (h : Inv0 b S) (h1 : sDo S = 1 → sAt S ≤ sN S) (h2 : sDo S = 2 → sAt S ≤ sN S) (h3 : sDo S = 3 → lwD (sT S) 4 200 ≠ 0) : Inv b (pas4 S) := by
  by_cases q : sDo S = 4 ∧ wuD (sT S) 200 = 0
  · rw [pas4, if_pos q]
    refine ⟨?_, Stdy_0 rfl⟩
    have hT := Inv0_T h
    have hU := Inv0_U h (by omega)
    obtain ⟨a, c, d, e, g, ph⟩ := h
    exact ⟨a, c, d, e, g, Or.inl ⟨rfl, hU.1, hT.1, hT.2, hU.2⟩⟩
  · rw [pas4, if_neg q]
    exact ⟨h, h1, h2, h3, fun z k => q ⟨z, k⟩⟩
theorem Inv_pas {b : Nat} {S : SS} (h : Inv0 b S) : Inv b (pas S) := by
  obtain ⟨g1, g2⟩ := Inv0_pas1 h
  obtain ⟨g3, g4, g5⟩ := Inv0_pas2 g1 g2
  obtain ⟨g6, g7, g8, g9⟩ := Inv0_pas3 g3 g4 g5
  exact Inv_pas4 g6 g7 g8 g9
theorem pas_cap (S : SS) : sCap (pas S) = sCap S := by
  simp only [pas, pas4, pas3, pas2, pas1, setDo]
  (repeat' split) <;> rfl
/-- looking through -/
theorem Inv0_look {b : Nat} {S : SS} (h : Inv0 b S) (hd : sDo S = 1) (ha : sAt S ≤ sN S) : Inv0 b (setDo (look S (sAt S)) 1 (sAt S + 1)) := by
  have hlp := Inv0_lp h
  obtain ⟨a, c, d, ⟨e1, e2, e3⟩, g, ph⟩ := h
  have hph : sLp S ≤ sAt S ∧ 1 ≤ sAt S ∧ sT S = lk S (sAt S - 1) ∧ (1 ≤ sLp S → sAt S ≤ sLp S + 1 → ∀ p, sBs S p = 0) := by
    rcases ph with ⟨z, -⟩ | ⟨-, p0, p1, p2, p3, p4⟩ | ⟨z, -⟩
    · omega
    · exact ⟨p0, p1, p3, p4⟩
    · omega
  obtain ⟨p0, p1, p3, p4⟩ := hph
  obtain ⟨j, hj⟩ : ∃ j, sAt S = j + 1 := ⟨sAt S - 1, by omega⟩
  have hl : lk S (sAt S) = if rK (sR S (sAt S)) = 8 then sTt S else tkT (sT S) (sAt S) (sR S (sAt S)) := by
    rw [p3, hj, Nat.add_sub_cancel]
    show (if j + 1 < sLp S then T0 else _) = _
    rw [if_neg (by omega)]
  by_cases q : rK (sR S (sAt S)) = 8
  · rw [if_pos q] at hl
    have e : look S (sAt S) = setC (setTB S (sTt S) (sBt S)) (sC2 S + 1) (sC3 S) (sC4 S) (sC5 S) := by rw [look, if_pos q]
    rw [e]
    refine ⟨a, c, d, ⟨e1, e2, fun p => Nat.le_trans (e2 p) hlp⟩, g, Or.inr (Or.inl ⟨rfl, by show sLp S ≤ sAt S + 1; omega, by show 1 ≤ sAt S + 1; omega, by show sAt S + 1 ≤ sN S + 1; omega, ?_, fun z1 z2 => ?_⟩)⟩
    · show sTt S = lk S (sAt S + 1 - 1)
      rw [Nat.add_sub_cancel, hl]
    · have z2 : sAt S + 1 ≤ sLp S + 1 := z2
      rcases d with ⟨d1, -⟩ | ⟨d1, d2, d3, -⟩
      · have z1 : 1 ≤ sLp S := z1
        omega
      · rw [show sAt S = sLp S by omega, d3] at q
        omega
  · rw [if_neg q] at hl
    have e : look S (sAt S) = setC (setTB S (tkT (sT S) (sAt S) (sR S (sAt S))) (tkB (sBs S) (sAt S) (sR S (sAt S)))) (sC2 S + 1) (sC3 S) (sC4 S) (sC5 S) := by rw [look, if_neg q]
    rw [e]
    refine ⟨a, c, d, ⟨e1, e2, fun p => ?_⟩, g, Or.inr (Or.inl ⟨rfl, by show sLp S ≤ sAt S + 1; omega, by show 1 ≤ sAt S + 1; omega, by show sAt S + 1 ≤ sN S + 1; omega, ?_, fun z1 z2 => ?_⟩)⟩
    · show tkB (sBs S) (sAt S) (sR S (sAt S)) p ≤ sN S
      rw [tkB]
      split
      · by_cases z : p = rP (sR S (sAt S))
        · simp only [va_up, if_pos z]; exact ha
        · simp only [va_up, if_neg z]; exact e3 p
      · exact e3 p
    · show tkT (sT S) (sAt S) (sR S (sAt S)) = lk S (sAt S + 1 - 1)
      rw [Nat.add_sub_cancel, hl]
    · have z1 : 1 ≤ sLp S := z1
      have z2 : sAt S + 1 ≤ sLp S + 1 := z2
      show ∀ p, tkB (sBs S) (sAt S) (sR S (sAt S)) p = 0
      rcases d with ⟨d1, -⟩ | ⟨d1, d2, d3, -⟩
      · omega
      · have hw : rW (sR S (sAt S)) = 0 := by
          rw [show sAt S = sLp S by omega]
          exact (c.1 (sLp S) d1 hlp).2.1 (by omega)
        intro p
        rw [tkB, if_neg (fun k => k.1 hw)]
        exact p4 z1 (by omega) p
theorem again_eq (S : SS) (r : Nat) : ∃ (G : PG) (c3 c4 : Int32), again S r = setC (setPg S G) (sC2 S) c3 c4 (sC5 S) := by
  rw [again]
  split
  · split
    · exact ⟨_, _, _, rfl⟩
    · exact ⟨sPg S, _, _, rfl⟩
  · exact ⟨sPg S, sC3 S, sC4 S, rfl⟩
theorem Inv0_again {b : Nat} {S : SS} (h : Inv0 b S) (hd : sDo S = 2) (ha : sAt S ≤ sN S) : Inv0 b (setDo (again S (sAt S)) 2 (sAt S + 1)) := by
  obtain ⟨G, c3, c4, e⟩ := again_eq S (sAt S)
  rw [e]
  obtain ⟨a, c, d, e, g, ph⟩ := h
  refine ⟨a, c, d, e, g, Or.inr (Or.inr ⟨⟨by show 2 ≤ 2; omega, by show 2 ≤ 4; omega⟩, fun _ => ⟨by show 1 ≤ sAt S + 1; omega, by show sAt S + 1 ≤ sN S + 1; omega⟩, ?_⟩)⟩
  rcases ph with ⟨z, -⟩ | ⟨z, -⟩ | ⟨-, -, z⟩
  · omega
  · omega
  · exact z
theorem lwD_in (T : TF) (st m : Nat) : lwD T st m = 0 ∨ (T (lwD T st m)).1 = st := by
  induction m with
  | zero => exact Or.inl rfl
  | succ m ih =>
    simp only [lwD]
    split
    · rename_i q; exact Or.inr q.2
    · exact ih
theorem Inv_stp {b : Nat} {S : SS} (h : Inv b S) : Inv b (stp S) ∧ sCap S ≤ sCap (stp S) := by
  obtain ⟨h, s1, s2, s3, s4⟩ := h
  rw [stp]
  by_cases q1 : sDo S = 1
  · rw [if_pos q1]
    exact ⟨Inv_pas (Inv0_look h q1 (s1 q1)), by rw [pas_cap]; show sCap S ≤ sCap (look S (sAt S)); rw [look]; split <;> exact Nat.le_refl _⟩
  · rw [if_neg q1]
    by_cases q2 : sDo S = 2
    · rw [if_pos q2]
      refine ⟨Inv_pas (Inv0_again h q2 (s2 q2)), ?_⟩
      rw [pas_cap]
      obtain ⟨G, c3, c4, e⟩ := again_eq S (sAt S)
      rw [e]
      exact Nat.le_refl _
    · rw [if_neg q2]
      by_cases q3 : sDo S = 3
      · rw [if_pos q3]
        exact ⟨Inv_pas (Inv0_end h (by omega) (by have := (lwD_in (sT S) 4 200).resolve_left (s3 q3); omega)), by rw [pas_cap]; exact cap_mono S.1 _⟩
      · rw [if_neg q3]
        by_cases q4 : sDo S = 4
        · rw [if_pos q4]
          have hp : (sT S (wuD (sT S) 200)).1 ≠ 0 := by rcases (wuD_in (T := sT S) 200).resolve_left (s4 q4) with z | z <;> omega
          rw [uoe]
          by_cases q5 : 0 < (sT S (wuD (sT S) 200)).2.2
          · rw [if_pos q5]
            exact ⟨Inv_pas (Inv0_und h (by omega) hp q5), by rw [pas_cap]; exact cap_mono S.1 _⟩
          · rw [if_neg q5]
            exact ⟨Inv_pas (Inv0_end h (by omega) hp), by rw [pas_cap]; exact cap_mono S.1 _⟩
        · rw [if_neg q4]
          exact ⟨Inv_pas h, by rw [pas_cap]; exact Nat.le_refl _⟩
theorem Inv_stpL {b : Nat} : ∀ (k : Nat) {S : SS}, Inv b S → Inv b (stpL k S).2 ∧ sCap S ≤ sCap (stpL k S).2 ∧ (stpL k S).1 ≤ k := by
  intro k
  induction k with
  | zero => intro S h; exact ⟨h, Nat.le_refl _, Nat.le_refl _⟩
  | succ k ih =>
    intro S h
    rw [stpL]
    split
    · exact ⟨h, Nat.le_refl _, Nat.zero_le _⟩
    · have g := Inv_stp h
      have g2 := ih g.1
      exact ⟨g2.1, Nat.le_trans g.2 g2.2.1, Nat.succ_le_succ g2.2.2⟩
theorem Inv_S0 : Inv 0 S0 := by
  refine ⟨⟨⟨Nat.le_refl _, rfl, by decide, by decide, by decide, by decide⟩, ⟨fun r r1 r2 => absurd (show r ≤ 0 from r2) (by omega), by decide, by decide, ⟨fun _ => rfl, fun _ => rfl⟩⟩, Or.inl ⟨rfl, fun r r1 r2 => absurd (show r ≤ 0 from r2) (by omega)⟩, ⟨TOk_0 _ _ _, fun _ => Nat.le_refl _, fun _ => Nat.le_refl _⟩, fun k hk => ?_, Or.inl ⟨rfl, Sub_rf _, TOk_0 _ _ _, ?_, ?_⟩⟩, Stdy_0 rfl⟩
  · have hk : k ≤ 0 := hk
    have hk : k = 0 := by omega
    subst hk
    exact ⟨TOk_0 _ _ _, by rw [show lk S0 0 = T0 from rfl, card_0]; omega, by rw [show lk S0 0 = T0 from rfl, pot_0]; omega⟩
  · show cardT T0 200 ≤ 16
    rw [card_0]; omega
  · have q := pot_0 (sR S0) 200
    have q2 : sN S0 = 0 := rfl
    have q3 : sT S0 = T0 := rfl
    rw [q2, q3, q]; omega
end
section
/-! a record 5 ends a work that the log has in the table -/
def E5 (S : SS) : Prop := ∀ k, sLp S ≤ k → k + 1 ≤ sN S → rK (sR S (k + 1)) = 5 → (lk S k (rW (sR S (k + 1)))).1 ≠ 0
theorem E5_em {S : SS} {x : Rc} (G : PG) (T : TF × (Nat → Nat)) (h : E5 S) (hx : rK x = 5 → (lk S (sN S) (rW x)).1 ≠ 0) : E5 (apL S.1 x, G, T, S.2.2.2) := by
  intro k k1 k2 k3
  have k1 : sLp S ≤ k := k1
  have k2 : k + 1 ≤ sN S + 1 := k2
  have hg := Agr_up (sR S) (sN S) x
  have k3 : rK (va_up (sR S) (sN S + 1) x (k + 1)) = 5 := k3
  show (lkT (va_up (sR S) (sN S + 1) x) (sTt S) (sLp S) k (rW (va_up (sR S) (sN S + 1) x (k + 1)))).1 ≠ 0
  rw [lkT_agr hg k (by omega)]
  by_cases q : k + 1 ≤ sN S
  · rw [hg (k + 1) (by omega) q] at k3 ⊢
    exact h k k1 q k3
  · have q : k = sN S := by omega
    subst q
    have e : va_up (sR S) (sN S + 1) x (sN S + 1) = x := by simp [va_up]
    rw [e] at k3 ⊢
    exact hx k3
theorem lk_em {b : Nat} {S : SS} {x : Rc} (h : Inv0 b S) (hd : sDo S ≠ 1) (hp : (sT S (rW x)).1 ≠ 0) (hk : rK x ≠ 8) (G : PG) (T : TF × (Nat → Nat)) : lk (apL S.1 x, G, T, S.2.2.2) (sN S + 1) (rW x) = tkE (sN S + 1) (rK x) (rG x) (sT S (rW x)) := by
  have hlp := Inv0_lp h
  have hU := Inv0_U h hd
  have hw : rW x ≠ 0 := by have := (((Inv0_T h).1 _).2 hp).1; omega
  have hg := Agr_up (sR S) (sN S) x
  show lkT (va_up (sR S) (sN S + 1) x) (sTt S) (sLp S) (sN S + 1) (rW x) = _
  show (if sN S + 1 < sLp S then T0 else if rK (va_up (sR S) (sN S + 1) x (sN S + 1)) = 8 then sTt S else tkT (lkT (va_up (sR S) (sN S + 1) x) (sTt S) (sLp S) (sN S)) (sN S + 1) (va_up (sR S) (sN S + 1) x (sN S + 1))) (rW x) = _
  have e : va_up (sR S) (sN S + 1) x (sN S + 1) = x := by simp [va_up]
  rw [if_neg (by omega), e, if_neg hk, lkT_agr hg _ (Nat.le_refl _), tkT, if_neg hw]
  have q : (if (lk S (sN S) (rW x)).1 = 0 then (1, 0, 0) else lk S (sN S) (rW x)) = sT S (rW x) := by
    rcases hU.1 (rW x) with q | ⟨q1, q2⟩
    · rw [← q, if_neg hp]
    · rw [if_pos q1, q2]
  show va_up (lk S (sN S)) (rW x) (tkE (sN S + 1) (rK x) (rG x) (if (lk S (sN S) (rW x)).1 = 0 then (1, 0, 0) else lk S (sN S) (rW x))) (rW x) = _
  rw [q]
  simp [va_up]
theorem E5_und {b w : Nat} {S : SS} (h5 : E5 S) : E5 (und S w) := E5_em _ _ h5 (fun q => absurd (show (2 : Nat) = 5 from q) (by decide))
theorem E5_undL {w to : Nat} : ∀ (k : Nat) {S : SS}, E5 S → E5 (undL k S w to).2 := by
  intro k
  induction k with
  | zero => intro S h; exact h
  | succ k ih =>
    intro S h
    rw [undL]
    split
    · exact ih (E5_und (b := 0) h)
    · exact h
theorem lk_undL {b w to : Nat} : ∀ (k : Nat) {S : SS}, Inv0 b S → sDo S = 0 → (sT S w).1 ≠ 0 → (lk S (sN S) w).1 ≠ 0 → (lk (undL k S w to).2 (sN (undL k S w to).2) w).1 ≠ 0 := by
  intro k
  induction k with
  | zero => intro S h hd hp hl; exact hl
  | succ k ih =>
    intro S h hd hp hl
    have hE := ((Inv0_T h).1 w).2 hp
    by_cases q : to < (sT S w).2.2
    · rw [undL, if_pos q]
      have hu := Inv0_und h (Or.inl hd) hp (by omega)
      refine ih (S := und S w) hu hd (by rw [und_T hp (by have := hE.1; omega)]; exact hp) ?_
      have e := lk_em (x := rcU S w) h (by omega) hp (by show (2 : Nat) ≠ 8; decide) (apP S.2.1 (sN S + 1) (rcU S w)) (tkT (sT S) (sN S + 1) (rcU S w), tkB (sBs S) (sN S + 1) (rcU S w))
      have e2 : lk (und S w) (sN (und S w)) w = tkE (sN S + 1) 2 (ub (sR S) (sT S w).2.2) (sT S w) := e
      rw [e2]
      exact hp
    · rw [undL, if_neg q]; exact hl
theorem pas_same (S : SS) : ∃ d a, pas S = setDo S d a := by
  simp only [pas, pas4, pas3, pas2, pas1]
  (repeat' split) <;> exact ⟨_, _, rfl⟩
theorem E5_pas {S : SS} (h : E5 S) : E5 (pas S) := by
  obtain ⟨d, a, e⟩ := pas_same S
  rw [e]
  exact h
theorem E5_stp {b : Nat} {S : SS} (h : Inv b S) (h5 : E5 S) : E5 (stp S) := by
  obtain ⟨h, s1, s2, s3, s4⟩ := h
  rw [stp]
  by_cases q1 : sDo S = 1
  · rw [if_pos q1]
    refine E5_pas ?_
    rw [look]
    split <;> exact h5
  · rw [if_neg q1]
    have hT : sDo S = 3 ∨ sDo S = 4 → sT S = lk S (sN S) := by
      intro q
      rcases h.2.2.2.2.2 with ⟨z, -⟩ | ⟨z, -⟩ | ⟨-, -, z⟩
      · omega
      · omega
      · exact z
    by_cases q2 : sDo S = 2
    · rw [if_pos q2]
      obtain ⟨G, c3, c4, e⟩ := again_eq S (sAt S)
      rw [e]
      exact E5_pas h5
    · rw [if_neg q2]
      by_cases q3 : sDo S = 3
      · rw [if_pos q3]
        have hp : (sT S (lwD (sT S) 4 200)).1 ≠ 0 := by
          have := (lwD_in (sT S) 4 200).resolve_left (s3 q3)
          omega
        obtain ⟨w, hw⟩ : ∃ w, lwD (sT S) 4 200 = w := ⟨_, rfl⟩
        rw [hw] at hp ⊢
        refine E5_pas (E5_em _ _ h5 (fun _ => ?_))
        show (lk S (sN S) w).1 ≠ 0
        rw [← hT (Or.inl q3)]
        exact hp
      · rw [if_neg q3]
        by_cases q4 : sDo S = 4
        · rw [if_pos q4, uoe]
          have hp : (sT S (wuD (sT S) 200)).1 ≠ 0 := by rcases (wuD_in (T := sT S) 200).resolve_left (s4 q4) with z | z <;> omega
          obtain ⟨w, hw⟩ : ∃ w, wuD (sT S) 200 = w := ⟨_, rfl⟩
          rw [hw] at hp ⊢
          by_cases q5 : 0 < (sT S w).2.2
          · rw [if_pos q5]
            exact E5_pas (E5_und (b := 0) h5)
          · rw [if_neg q5]
            refine E5_pas (E5_em _ _ h5 (fun _ => ?_))
            show (lk S (sN S) w).1 ≠ 0
            rw [← hT (Or.inr q4)]
            exact hp
        · rw [if_neg q4]
          exact E5_pas h5
theorem E5_stpL {b : Nat} : ∀ (k : Nat) {S : SS}, Inv b S → E5 S → E5 (stpL k S).2 := by
  intro k
  induction k with
  | zero => intro S h h5; exact h5
  | succ k ih =>
    intro S h h5
    rw [stpL]
    split
    · exact h5
    · exact ih (Inv_stp h).1 (E5_stp h h5)
theorem E5_los {S : SS} (k : Nat) (h : E5 S) (hf : sFo S ≤ sN S) : E5 (los S k) := fun j j1 j2 j3 => h j j1 (by
  have : j + 1 ≤ sFo S + min k (sN S - sFo S) := j2
  show j + 1 ≤ sN S
  omega) j3
/-- what is looked through next has room in the table -/
theorem look_room {b : Nat} {S : SS} (h : Inv0 b S) (h5 : E5 S) (hd : sDo S = 1) (ha : sAt S ≤ sN S) (h8 : rK (sR S (sAt S)) ≠ 8) : rW (sR S (sAt S)) = 0 ∨ (sT S (rW (sR S (sAt S)))).1 ≠ 0 ∨ cardT (sT S) 200 < 16 := by
  have hlp := Inv0_lp h
  obtain ⟨a, c, d, ⟨e1, e2, e3⟩, g, ph⟩ := h
  obtain ⟨p0, p1, p3⟩ : sLp S ≤ sAt S ∧ 1 ≤ sAt S ∧ sT S = lk S (sAt S - 1) := by
    rcases ph with ⟨z, -⟩ | ⟨-, p0, p1, p2, p3, p4⟩ | ⟨z, -⟩
    · omega
    · exact ⟨p0, p1, p3⟩
    · omega
  by_cases hw : rW (sR S (sAt S)) = 0
  · exact Or.inl hw
  · by_cases hp : (sT S (rW (sR S (sAt S)))).1 ≠ 0
    · exact Or.inr (Or.inl hp)
    · have hp : (sT S (rW (sR S (sAt S)))).1 = 0 := Decidable.not_not.mp hp
      have hR := c.1 (sAt S) p1 ha
      have hk6 : rK (sR S (sAt S)) ≤ 6 := by
        by_cases z : 7 ≤ rK (sR S (sAt S))
        · exact absurd (hR.2.1 z) hw
        · omega
      obtain ⟨j, hj⟩ : ∃ j, sAt S = j + 1 := ⟨sAt S - 1, by omega⟩
      have hjl : sLp S ≤ j := by
        rcases d with ⟨d1, -⟩ | ⟨d1, d2, d3, -⟩
        · omega
        · by_cases z : sAt S = sLp S
          · rw [z, d3] at hk6; omega
          · omega
      have p3' : sT S = lk S j := by rw [p3, hj, Nat.add_sub_cancel]
      have h5' : rK (sR S (sAt S)) ≠ 5 := by
        intro z
        have := h5 j hjl (by omega) (by rw [← hj]; exact z)
        rw [← hj, ← p3'] at this
        exact this hp
      refine Or.inr (Or.inr ?_)
      have hl : lk S (sAt S) = tkT (sT S) (sAt S) (sR S (sAt S)) := by
        rw [p3', hj]
        show (if j + 1 < sLp S then T0 else if rK (sR S (j + 1)) = 8 then sTt S else tkT (lkT (sR S) (sTt S) (sLp S) j) (j + 1) (sR S (j + 1))) = _
        rw [if_neg (by omega), if_neg (by rw [← hj]; exact h8)]
      have hc := (g (sAt S) ha).2.1
      rw [hl, tkT, if_neg hw, if_pos hp] at hc
      have hw2 : 1 ≤ rW (sR S (sAt S)) ∧ rW (sR S (sAt S)) ≤ 200 := ⟨by omega, by have := hR.2.2.2.1; have := c.2.1; omega⟩
      have q := card_up (sT S) (rW (sR S (sAt S))) (tkE (sAt S) (rK (sR S (sAt S))) (rG (sR S (sAt S))) (1, 0, 0)) 200
      rw [if_pos hw2, if_pos hw2] at q
      have q1 : eC (sT S (rW (sR S (sAt S)))) = 0 := by simp [eC, hp]
      have q2 : eC (tkE (sAt S) (rK (sR S (sAt S))) (rG (sR S (sAt S))) (1, 0, 0)) = 1 := by
        have := hR.1.1
        rcases (show rK (sR S (sAt S)) = 1 ∨ rK (sR S (sAt S)) = 2 ∨ rK (sR S (sAt S)) = 3 ∨ rK (sR S (sAt S)) = 4 ∨ rK (sR S (sAt S)) = 6 by omega) with z | z | z | z | z <;> rw [z] <;> rfl
      omega
theorem look8 {b : Nat} {S : SS} (h : Inv0 b S) (hd : sDo S = 1) (ha : sAt S ≤ sN S) (h8 : rK (sR S (sAt S)) = 8) : sT S = T0 ∧ ∀ p, sBs S p = 0 := by
  obtain ⟨a, c, d, ⟨e1, e2, e3⟩, g, ph⟩ := h
  obtain ⟨p0, p1, p3, p4⟩ : sLp S ≤ sAt S ∧ 1 ≤ sAt S ∧ sT S = lk S (sAt S - 1) ∧ (1 ≤ sLp S → sAt S ≤ sLp S + 1 → ∀ p, sBs S p = 0) := by
    rcases ph with ⟨z, -⟩ | ⟨-, p0, p1, p2, p3, p4⟩ | ⟨z, -⟩
    · omega
    · exact ⟨p0, p1, p3, p4⟩
    · omega
  rcases d with ⟨d1, d2⟩ | ⟨d1, d2, d3, d4, d5⟩
  · exact absurd h8 (d2 _ p1 ha)
  · have ea : sAt S = sLp S + 1 := by
      rcases Nat.lt_trichotomy (sAt S) (sLp S + 1) with z | z | z
      · rw [show sAt S = sLp S by omega, d3] at h8; omega
      · exact z
      · exact absurd h8 (d5 _ z ha)
    refine ⟨?_, p4 d1 (by omega)⟩
    rw [p3, ea, Nat.add_sub_cancel]
    obtain ⟨j, hj⟩ : ∃ j, sLp S = j + 1 := ⟨sLp S - 1, by omega⟩
    show lkT (sR S) (sTt S) (sLp S) (sLp S) = T0
    have hw : rW (sR S (sLp S)) = 0 := (c.1 (sLp S) d1 (by omega)).2.1 (by omega)
    have e : lkT (sR S) (sTt S) (sLp S) (j + 1) = if j + 1 < sLp S then T0 else if rK (sR S (j + 1)) = 8 then sTt S else tkT (lkT (sR S) (sTt S) (sLp S) j) (j + 1) (sR S (j + 1)) := rfl
    have e2 : lkT (sR S) (sTt S) (sLp S) (sLp S) = lkT (sR S) (sTt S) (sLp S) (j + 1) := congrArg _ hj
    rw [e2, e, if_neg (by omega), ← hj, d3, if_neg (by decide), tkT, if_pos hw, lkT_low (by omega)]
end
section
/-! the class and the abstract book -/
theorem Kt_map {S S' : Type} {l : Launch} {y : MethodName} {ws : List Cond} {fr lo mc ms : Nat} {D : va_G} {cI : ClassId} {av : List Value} {w : va_W} {post : Option Value → S → Prop} {w' : S → va_W} {post' : Option Value → S' → Prop} {w2 : S' → va_W} (h : Kt l y ws fr lo mc ms D cI av w post w') (g : S → S') (hp : ∀ v u, post v u → post' v (g u)) (hw : ∀ u, w' u = w2 (g u)) : Kt l y ws fr lo mc ms D cI av w post' w2 := by
  intro sz p e ha hc hk s m args below hf happ hP hK
  obtain ⟨n, o, h1, h2, h3, ⟨⟨v, u, q1, q2, q3, q4, q5⟩, q6⟩, q7⟩ := h sz p e ha hc hk s m args below hf happ hP hK
  refine ⟨n, o, h1, h2, h3, ⟨⟨v, g u, q1, hp v u q2, ?_, q4, ?_⟩, q6⟩, q7⟩
  · rw [← hw]; exact q3
  · rw [← hw]; exact q5
abbrev XG : Type := Nat × (Nat → Int32) × TW × (Nat → Int32) × TW × (Nat → Int32)
def RX (S : SS) (x : XG) : Prop := LOk S.1 x.2.1 ∧ TR x.2.2.1 (sT S) ∧ BR x.2.2.2.1 (sBs S) ∧ TR x.2.2.2.2.1 (sTt S) ∧ BR x.2.2.2.2.2 (sBt S)
def wXS (cI : ClassId) (a aL : Nat) (pa : A5) (ta da : A6) (S : SS) (x : XG) : va_W := [(a, .inr (3, [.ref aL, .ref pa.1, .ref ta.1, .ref da.1, .int (nI (sLp S)), .int (nI (sPt S)), .int (nI (sWk S)), .int (nI (sDo S)), .int (nI (sAt S)), .int (sC2 S), .int (sC3 S), .int (sC4 S), .int (sC5 S)]))] ++ (wL cI aL x.1 S.1 x.2.1 ++ (wG cI pa S.2.1 ++ (wT cI ta x.2.2.1 x.2.2.2.1 ++ wT cI da x.2.2.2.2.1 x.2.2.2.2.2)))
theorem Inv0_TB {b : Nat} {S : SS} (h : Inv0 b S) (hb : b ≤ 4000) : TB (sT S) := by
  intro w
  have hT := (Inv0_T h).1 w
  have hn := Inv0_n h
  by_cases z : (sT S w).1 = 0
  · rw [hT.1 z]; exact ⟨by decide, by decide, by decide⟩
  · have := hT.2 z
    obtain ⟨-, -, a3, a4, a5, -⟩ := this
    exact ⟨by omega, by omega, by omega⟩
theorem Inv0_TBt {b : Nat} {S : SS} (h : Inv0 b S) (hb : b ≤ 4000) : TB (sTt S) := by
  intro w
  have hT := h.2.2.2.1.1 w
  have hn := Inv0_n h
  have hl := Inv0_lp h
  by_cases z : (sTt S w).1 = 0
  · rw [hT.1 z]; exact ⟨by decide, by decide, by decide⟩
  · have := hT.2 z
    obtain ⟨-, -, a3, a4, a5, -⟩ := this
    exact ⟨by omega, by omega, by omega⟩
set_option maxRecDepth 20000 in
theorem cS_app (l : Launch) (D : va_G) (cI : ClassId) (a aL : Nat) (pa : A5) (ta da : A6) (S : SS) (x : XG) (b k w : Nat) (hI : Inv0 b S) (hb : b ≤ 4000) (hx : RX S x) (hp : (sT S w).1 ≠ 0) (hk1 : 3 ≤ k) (hk2 : k ≤ 6) : Kt l yX3_appendOfWork wsX3_appendOfWork 3 68 (sCap (emT S (rcW S k w)) - sCap S) (2 * (sCap (emT S (rcW S k w)) - sCap S)) D cI [.ref a, .int (nI k), .int (nI w)] (wXS cI a aL pa ta da S x) (pI (fun (r : Int32) (u : XG) => r = nI (sN S + 1) ∧ RX (emT S (rcW S k w)) u)) (fun u => wXS cI a aL pa ta da (emT S (rcW S k w)) u) :=
  Kt_map (cB_appendOfWork l D cI a aL x.1 pa ta da S.2.2.2.2 S.1 x.2.1 S.2.1 x.2.2.1 x.2.2.2.2.1 x.2.2.2.1 x.2.2.2.2.2 k w (sT S) (sBs S) hx.1 (by have := Inv0_n hI; show sN S < 2 ^ 20; omega) hx.2.1 hx.2.2.1 hp hk1 hk2) (fun u => (u.1, u.2.1, u.2.2.1, u.2.2.2, x.2.2.2.2)) (fun v u h => by obtain ⟨r, rfl, h1, h2, h3, h4⟩ := h; exact ⟨r, rfl, h1, h2, h3, h4, hx.2.2.2.1, hx.2.2.2.2⟩) (fun u => rfl)
set_option maxRecDepth 20000 in
theorem cS_und (l : Launch) (D : va_G) (cI : ClassId) (a aL : Nat) (pa : A5) (ta da : A6) (S : SS) (x : XG) (b w : Nat) (hI : Inv0 b S) (hb : b ≤ 4000) (hx : RX S x) (hp : (sT S w).1 ≠ 0) (hc : 1 ≤ (sT S w).2.2) : Kt l yX3_undoNext wsX3_undoNext 3 68 (sCap (und S w) - sCap S) (2 * (sCap (und S w) - sCap S)) D cI [.ref a, .int (nI w)] (wXS cI a aL pa ta da S x) (pV (fun (u : XG) => RX (und S w) u)) (fun u => wXS cI a aL pa ta da (und S w) u) := by
  have hE := ((Inv0_T hI).1 w).2 hp
  have hn := Inv0_n hI
  have hR := hI.2.1.1
  have hr := hR _ hc hE.2.2.2.2.1
  have hu := ub_lt hR hc hE.2.2.2.2.1
  have hcn : (sT S w).2.2 ≤ sN S := hE.2.2.2.2.1
  exact Kt_map (cB_undoNext l D cI a aL x.1 pa ta da S.2.2.2.2 S.1 x.2.1 S.2.1 x.2.2.1 x.2.2.2.2.1 x.2.2.2.1 x.2.2.2.2.2 w (sT S w).2.2 (sR S (sT S w).2.2) (sT S) (sBs S) hx.1 (by show sN S < 2 ^ 20; omega) hx.2.1 hx.2.2.1 hp rfl rfl hc hcn hr.2.2.2.2.2.1 hr.2.2.2.2.2.2.1 (by have := hr.2.2.2.2.1; show rB (sR S (sT S w).2.2) ≤ sN S; omega) (by show ub (sR S) (sT S w).2.2 < 2 ^ 31; omega) (fun r r1 r2 => (hR r r1 r2).1.2)) (fun u => (u.1, u.2.1, u.2.2.1, u.2.2.2, x.2.2.2.2)) (fun v u h => by obtain ⟨rfl, h2, h3, h4⟩ := h; exact ⟨rfl, h2, h3, h4, hx.2.2.2.1, hx.2.2.2.2⟩) (fun u => rfl)
end
section
/-! RestartBook: undoing, the steps of a restart -/
set_option maxRecDepth 20000 in
theorem in_X3_lookThrough : ∀ w ∈ u_ws RX3 TX3 13, w ∈ wsX3_lookThrough := by
  intro w h
  show w ∈ wsX3_lookThrough
  simp only [wsX3_lookThrough, List.mem_cons, List.mem_append]
  simp only [h, true_or, or_true]
set_option maxRecDepth 20000 in
theorem in_X3_doAgainOrPassOver : ∀ w ∈ u_ws RX3 TX3 13, w ∈ wsX3_doAgainOrPassOver := by
  intro w h
  show w ∈ wsX3_doAgainOrPassOver
  simp only [wsX3_doAgainOrPassOver, List.mem_cons, List.mem_append]
  simp only [h, true_or, or_true]
set_option maxRecDepth 20000 in
theorem in_X3_undoOrEnd : ∀ w ∈ u_ws RX3 TX3 13, w ∈ wsX3_undoOrEnd := by
  intro w h
  show w ∈ wsX3_undoOrEnd
  simp only [wsX3_undoOrEnd, List.mem_cons, List.mem_append]
  simp only [h, true_or, or_true]
set_option maxRecDepth 20000 in
theorem in_X3_passOverPartsWithoutSteps : ∀ w ∈ u_ws RX3 TX3 13, w ∈ wsX3_passOverPartsWithoutSteps := by
  intro w h
  show w ∈ wsX3_passOverPartsWithoutSteps
  simp only [wsX3_passOverPartsWithoutSteps, List.mem_cons, List.mem_append]
  simp only [h, true_or, or_true]
set_option maxRecDepth 20000 in
theorem in_X3_makeStep : ∀ w ∈ u_ws RX3 TX3 13, w ∈ wsX3_makeStep := by
  intro w h
  show w ∈ wsX3_makeStep
  simp only [wsX3_makeStep, List.mem_cons, List.mem_append]
  simp only [h, true_or, or_true]
theorem hd_X3_lookThrough : yX3_lookThrough.cls = RX3 ∧ yX3_lookThrough.cls ≠ "java/lang/invoke/MethodHandle" ∧ yX3_lookThrough.cls ≠ "java/lang/invoke/VarHandle" ∧ (parseMethodDescriptor yX3_lookThrough.desc).map (fun d => d.parameters.length) = some 1 := by decide +kernel
theorem hd_X3_doAgainOrPassOver : yX3_doAgainOrPassOver.cls = RX3 ∧ yX3_doAgainOrPassOver.cls ≠ "java/lang/invoke/MethodHandle" ∧ yX3_doAgainOrPassOver.cls ≠ "java/lang/invoke/VarHandle" ∧ (parseMethodDescriptor yX3_doAgainOrPassOver.desc).map (fun d => d.parameters.length) = some 1 := by decide +kernel
theorem hd_X3_undoOrEnd : yX3_undoOrEnd.cls = RX3 ∧ yX3_undoOrEnd.cls ≠ "java/lang/invoke/MethodHandle" ∧ yX3_undoOrEnd.cls ≠ "java/lang/invoke/VarHandle" ∧ (parseMethodDescriptor yX3_undoOrEnd.desc).map (fun d => d.parameters.length) = some 1 := by decide +kernel
theorem hd_X3_passOverPartsWithoutSteps : yX3_passOverPartsWithoutSteps.cls = RX3 ∧ yX3_passOverPartsWithoutSteps.cls ≠ "java/lang/invoke/MethodHandle" ∧ yX3_passOverPartsWithoutSteps.cls ≠ "java/lang/invoke/VarHandle" ∧ (parseMethodDescriptor yX3_passOverPartsWithoutSteps.desc).map (fun d => d.parameters.length) = some 0 := by decide +kernel
theorem hd_X3_makeStep : yX3_makeStep.cls = RX3 ∧ yX3_makeStep.cls ≠ "java/lang/invoke/MethodHandle" ∧ yX3_makeStep.cls ≠ "java/lang/invoke/VarHandle" ∧ (parseMethodDescriptor yX3_makeStep.desc).map (fun d => d.parameters.length) = some 0 := by decide +kernel
theorem undL_stop {k w to : Nat} {S : SS} (h : ¬ to < (sT S w).2.2) : undL k S w to = (0, S) := by
  cases k with
  | zero => rfl
  | succ k => rw [undL, if_neg h]
theorem undL_go {k w to : Nat} {S : SS} (hk : 1 ≤ k) (h : to < (sT S w).2.2) : undL k S w to = ((undL (k - 1) (und S w) w to).1 + 1, (undL (k - 1) (und S w) w to).2) := by
  obtain ⟨j, rfl⟩ : ∃ j, k = j + 1 := ⟨k - 1, by omega⟩
  rw [undL, if_pos h, Nat.add_sub_cancel]
theorem cap_und (S : SS) (w : Nat) : sCap S ≤ sCap (und S w) := cap_mono S.1 _
theorem cap_emT (S : SS) (x : Rc) : sCap S ≤ sCap (emT S x) := cap_mono S.1 _
set_option maxHeartbeats 4000000 in
set_option maxRecDepth 100000 in
theorem cS_undoDownTo (l : Launch) (D : va_G) (cI : ClassId) (a aL : Nat) (pa : A5) (ta da : A6) (S : SS) (x : XG) (b : Nat) (hI : Inv0 b S) (hb4 : b ≤ 4000) (hrx : RX S x) (w to : Nat) (hto : to < 2 ^ 31) (hd : sDo S = 0) (hp : (sT S w).1 ≠ 0) : Kt l yX3_undoDownTo wsX3_undoDownTo 4 91 (sCap (undL (sN S) S w to).2 - sCap S) (2 * (sCap (undL (sN S) S w to).2 - sCap S)) D cI [.ref a, .int (nI w), .int (nI to)] ([(a, .inr (3, [.ref aL, .ref pa.1, .ref ta.1, .ref da.1, .int (nI S.2.2.2.2.1), .int (nI S.2.2.2.2.2.1), .int (nI S.2.2.2.2.2.2.1), .int (nI S.2.2.2.2.2.2.2.1), .int (nI S.2.2.2.2.2.2.2.2.1), .int S.2.2.2.2.2.2.2.2.2.1, .int S.2.2.2.2.2.2.2.2.2.2.1, .int S.2.2.2.2.2.2.2.2.2.2.2.1, .int S.2.2.2.2.2.2.2.2.2.2.2.2]))] ++ (wL cI aL x.1 S.1 x.2.1 ++ (wG cI pa S.2.1 ++ (wT cI ta x.2.2.1 x.2.2.2.1 ++ wT cI da x.2.2.2.2.1 x.2.2.2.2.2)))) (pI (fun (r : Int32) (u : XG) => r = nI (undL (sN S) S w to).1 ∧ RX (undL (sN S) S w to).2 u)) (fun (u : XG) => [(a, .inr (3, [.ref aL, .ref pa.1, .ref ta.1, .ref da.1, .int (nI ((undL (sN S) S w to).2).2.2.2.2.1), .int (nI ((undL (sN S) S w to).2).2.2.2.2.2.1), .int (nI ((undL (sN S) S w to).2).2.2.2.2.2.2.1), .int (nI ((undL (sN S) S w to).2).2.2.2.2.2.2.2.1), .int (nI ((undL (sN S) S w to).2).2.2.2.2.2.2.2.2.1), .int ((undL (sN S) S w to).2).2.2.2.2.2.2.2.2.2.1, .int ((undL (sN S) S w to).2).2.2.2.2.2.2.2.2.2.2.1, .int ((undL (sN S) S w to).2).2.2.2.2.2.2.2.2.2.2.2.1, .int ((undL (sN S) S w to).2).2.2.2.2.2.2.2.2.2.2.2.2]))] ++ (wL cI aL u.1 (((undL (sN S) S w to).2).1) u.2.1 ++ (wG cI pa (((undL (sN S) S w to).2).2.1) ++ (wT cI ta u.2.2.1 u.2.2.2.1 ++ wT cI da u.2.2.2.2.1 u.2.2.2.2.2)))) := by
  refine kt_start (cc := cX3_undoDownTo) (maxL := 5) (ret := (some .int)) (by decide +kernel) rfl (Nat.le_of_ble_eq_true rfl) ?_
  intro p e s m below meth c hx hb hml hr hlk hown hnm hts ls hl hw
  have hown : s.vm.findClass RX3 = some m.cls := hown
  have hl : lv_has ls 5 [(0, .ref a), (1, .int (nI w)), (2, .int (nI to))] := hl
  have k10 := hts (.fieldLink RX3 10 "RestartBook" "log" "LRestartBook$Log;") (by decide +kernel)
  have k26 := hts (.fieldLink RX3 26 "RestartBook" "tables" "LRestartBook$Tables;") (by decide +kernel)
  have hin3 : ∀ w ∈ u_ws RX3 TX3 13, w ∈ wsX3_undoDownTo := in_X3_undoDownTo
  have hn4 := Inv0_n hI
  have hw200 := (TR_some hrx.2.1 hp).2.1
  refine lv_aload_n hx hb dX3_undoDownTo_0 rfl (lv_at hl 0 rfl) ?_
  refine ww_get hx hb hts hin3 hown hw 0 rfl rfl 0 (by decide) k10 rfl dX3_undoDownTo_1 ?_
  refine ww_callV ([(a, .inr (3, [.ref aL, .ref pa.1, .ref ta.1, .ref da.1, .int (nI S.2.2.2.2.1), .int (nI S.2.2.2.2.2.1), .int (nI S.2.2.2.2.2.2.1), .int (nI S.2.2.2.2.2.2.2.1), .int (nI S.2.2.2.2.2.2.2.2.1), .int S.2.2.2.2.2.2.2.2.2.1, .int S.2.2.2.2.2.2.2.2.2.2.1, .int S.2.2.2.2.2.2.2.2.2.2.2.1, .int S.2.2.2.2.2.2.2.2.2.2.2.2]))]) (wG cI pa S.2.1 ++ (wT cI ta x.2.2.1 x.2.2.2.1 ++ wT cI da x.2.2.2.2.1 x.2.2.2.2.2)) (As := []) (rest := []) ⟨hx, hb, hml, hown, hts⟩ (cL_recordsHeld l D cI aL x.1 S.1.2.2.2.1 S.1.1 S.1.2.1 S.1.2.2.1 x.2.1) gX3_undoDownTo_X0_recordsHeld rfl hd_X0_recordsHeld ⟨Nat.le_of_ble_eq_true rfl, Nat.le_of_ble_eq_true rfl⟩ hw rfl rfl rfl rfl rfl hl.1 (Nat.le_of_ble_eq_true rfl) dX3_undoDownTo_4 ⟨Nat.le_of_ble_eq_true rfl, Nat.le_of_ble_eq_true rfl⟩ (fun rv u H locs hq hw => ?_)
  obtain ⟨rr, rfl, hq⟩ := hq
  subst hq
  have hw : ww D cI _ _ s ([(a, .inr (3, [.ref aL, .ref pa.1, .ref ta.1, .ref da.1, .int (nI S.2.2.2.2.1), .int (nI S.2.2.2.2.2.1), .int (nI S.2.2.2.2.2.2.1), .int (nI S.2.2.2.2.2.2.2.1), .int (nI S.2.2.2.2.2.2.2.2.1), .int S.2.2.2.2.2.2.2.2.2.1, .int S.2.2.2.2.2.2.2.2.2.2.1, .int S.2.2.2.2.2.2.2.2.2.2.2.1, .int S.2.2.2.2.2.2.2.2.2.2.2.2]))] ++ (wL cI aL x.1 S.1 x.2.1 ++ (wG cI pa S.2.1 ++ (wT cI ta x.2.2.1 x.2.2.2.1 ++ wT cI da x.2.2.2.2.1 x.2.2.2.2.2)))) H locs := hw
  refine W.eq (g2 := F0 m 7 ls [.int (nI (sN S))]) rfl ?_
  refine lv_istore_n (lv' := [(3, .int (nI (sN S))), (0, .ref a), (1, .int (nI w)), (2, .int (nI to))]) hx hb dX3_undoDownTo_7 rfl hl (by decide) rfl (fun ls hl => ?_)
  refine lv_iconst (v := nI 0) hx hb dX3_undoDownTo_8 (by decide +kernel) ?_
  refine lv_istore (lv' := [(4, .int (nI 0)), (3, .int (nI (sN S))), (0, .ref a), (1, .int (nI w)), (2, .int (nI to))]) hx hb dX3_undoDownTo_9 hl (by decide) rfl (fun ls hl => ?_)
  have lp : ∀ (t : Nat) (i : Nat) (Sc : SS) (xc : XG) (H : Heap) (locs : List Loc) (ls : Array Slot), sN S - i < t → (i ≤ sN S) → (Inv0 b Sc) → (sDo Sc = 0) → ((sT Sc w).1 ≠ 0) → (RX Sc xc) → (sCap S ≤ sCap Sc) → ((undL (sN S) S w to) = ((undL (sN S - i) Sc w to).1 + i, (undL (sN S - i) Sc w to).2)) → ww D cI (va_A ([(a, .inr (3, [.ref aL, .ref pa.1, .ref ta.1, .ref da.1, .int (nI S.2.2.2.2.1), .int (nI S.2.2.2.2.2.1), .int (nI S.2.2.2.2.2.2.1), .int (nI S.2.2.2.2.2.2.2.1), .int (nI S.2.2.2.2.2.2.2.2.1), .int S.2.2.2.2.2.2.2.2.2.1, .int S.2.2.2.2.2.2.2.2.2.2.1, .int S.2.2.2.2.2.2.2.2.2.2.2.1, .int S.2.2.2.2.2.2.2.2.2.2.2.2]))] ++ (wL cI aL x.1 S.1 x.2.1 ++ (wG cI pa S.2.1 ++ (wT cI ta x.2.2.1 x.2.2.2.1 ++ wT cI da x.2.2.2.2.1 x.2.2.2.2.2)))) s.heap.size) s.heap s ([(a, .inr (3, [.ref aL, .ref pa.1, .ref ta.1, .ref da.1, .int (nI Sc.2.2.2.2.1), .int (nI Sc.2.2.2.2.2.1), .int (nI Sc.2.2.2.2.2.2.1), .int (nI Sc.2.2.2.2.2.2.2.1), .int (nI Sc.2.2.2.2.2.2.2.2.1), .int Sc.2.2.2.2.2.2.2.2.2.1, .int Sc.2.2.2.2.2.2.2.2.2.2.1, .int Sc.2.2.2.2.2.2.2.2.2.2.2.1, .int Sc.2.2.2.2.2.2.2.2.2.2.2.2]))] ++ (wL cI aL xc.1 Sc.1 xc.2.1 ++ (wG cI pa Sc.2.1 ++ (wT cI ta xc.2.2.1 xc.2.2.2.1 ++ wT cI da xc.2.2.2.2.1 xc.2.2.2.2.2)))) H locs → lv_has ls 5 [(4, .int (nI i)), (3, .int (nI (sN S))), (0, .ref a), (1, .int (nI w)), (2, .int (nI to))] → W p l e { frames := 4, cells := sCap (undL (sN S) S w to).2 - sCap S, slots := 2 * (sCap (undL (sN S) S w to).2 - sCap S), locals := 91 } s m [.ref a, .int (nI w), .int (nI to)].toArray below meth c H locs (sCap Sc - sCap S) (2 * (sCap Sc - sCap S)) (MQ below (kQ D cI ([(a, .inr (3, [.ref aL, .ref pa.1, .ref ta.1, .ref da.1, .int (nI S.2.2.2.2.1), .int (nI S.2.2.2.2.2.1), .int (nI S.2.2.2.2.2.2.1), .int (nI S.2.2.2.2.2.2.2.1), .int (nI S.2.2.2.2.2.2.2.2.1), .int S.2.2.2.2.2.2.2.2.2.1, .int S.2.2.2.2.2.2.2.2.2.2.1, .int S.2.2.2.2.2.2.2.2.2.2.2.1, .int S.2.2.2.2.2.2.2.2.2.2.2.2]))] ++ (wL cI aL x.1 S.1 x.2.1 ++ (wG cI pa S.2.1 ++ (wT cI ta x.2.2.1 x.2.2.2.1 ++ wT cI da x.2.2.2.2.1 x.2.2.2.2.2)))) s.heap.size (pI (fun (r : Int32) (u : XG) => r = nI (undL (sN S) S w to).1 ∧ RX (undL (sN S) S w to).2 u)) (fun (u : XG) => [(a, .inr (3, [.ref aL, .ref pa.1, .ref ta.1, .ref da.1, .int (nI ((undL (sN S) S w to).2).2.2.2.2.1), .int (nI ((undL (sN S) S w to).2).2.2.2.2.2.1), .int (nI ((undL (sN S) S w to).2).2.2.2.2.2.2.1), .int (nI ((undL (sN S) S w to).2).2.2.2.2.2.2.2.1), .int (nI ((undL (sN S) S w to).2).2.2.2.2.2.2.2.2.1), .int ((undL (sN S) S w to).2).2.2.2.2.2.2.2.2.2.1, .int ((undL (sN S) S w to).2).2.2.2.2.2.2.2.2.2.2.1, .int ((undL (sN S) S w to).2).2.2.2.2.2.2.2.2.2.2.2.1, .int ((undL (sN S) S w to).2).2.2.2.2.2.2.2.2.2.2.2.2]))] ++ (wL cI aL u.1 (((undL (sN S) S w to).2).1) u.2.1 ++ (wG cI pa (((undL (sN S) S w to).2).2.1) ++ (wT cI ta u.2.2.1 u.2.2.2.1 ++ wT cI da u.2.2.2.2.1 u.2.2.2.2.2))))) [.ref a, .int (nI w), .int (nI to)].toArray s (sCap (undL (sN S) S w to).2 - sCap S) (2 * (sCap (undL (sN S) S w to).2 - sCap S)) (va_A ([(a, .inr (3, [.ref aL, .ref pa.1, .ref ta.1, .ref da.1, .int (nI S.2.2.2.2.1), .int (nI S.2.2.2.2.2.1), .int (nI S.2.2.2.2.2.2.1), .int (nI S.2.2.2.2.2.2.2.1), .int (nI S.2.2.2.2.2.2.2.2.1), .int S.2.2.2.2.2.2.2.2.2.1, .int S.2.2.2.2.2.2.2.2.2.2.1, .int S.2.2.2.2.2.2.2.2.2.2.2.1, .int S.2.2.2.2.2.2.2.2.2.2.2.2]))] ++ (wL cI aL x.1 S.1 x.2.1 ++ (wG cI pa S.2.1 ++ (wT cI ta x.2.2.1 x.2.2.2.1 ++ wT cI da x.2.2.2.2.1 x.2.2.2.2.2)))) s.heap.size)) (F0 m 11 ls []) := by
    intro t
    induction t with
    | zero => intro i Sc xc H locs ls ht; exact absurd ht (Nat.not_lt_zero _)
    | succ t ih_11 =>
      intro i Sc xc H locs ls ht hi0 hI2 hd2 hp2 hr2 hcm he hw hl
      refine lv_iload hx hb dX3_undoDownTo_11 (lv_at hl 0 rfl) ?_
      refine lv_iload_n hx hb dX3_undoDownTo_13 rfl (lv_at hl 1 rfl) ?_
      refine lv_icmp_ge (tgt := 40) hx hb dX3_undoDownTo_14 (by decide) (fun c_14 => ?_) (fun c_14 => ?_)
      · have hE : undL (sN S) S w to = (i, Sc) := by
          rw [he]
          first
          | (rw [undL_stop (by have := (Inv0_TB hI2 hb4 w).2.2; simp (disch := omega) only [i_le, nI_toInt] at c_26; omega)]; exact Prod.ext (Nat.zero_add _) rfl)
          | (rw [show sN S - i = 0 by simp (disch := omega) only [i_le, nI_toInt] at c_14; omega]; exact Prod.ext (Nat.zero_add _) rfl)
        have hE2 : sCap (undL (sN S) S w to).2 = sCap Sc := by rw [hE]
        have hw : ww D cI (va_A ([(a, .inr (3, [.ref aL, .ref pa.1, .ref ta.1, .ref da.1, .int (nI S.2.2.2.2.1), .int (nI S.2.2.2.2.2.1), .int (nI S.2.2.2.2.2.2.1), .int (nI S.2.2.2.2.2.2.2.1), .int (nI S.2.2.2.2.2.2.2.2.1), .int S.2.2.2.2.2.2.2.2.2.1, .int S.2.2.2.2.2.2.2.2.2.2.1, .int S.2.2.2.2.2.2.2.2.2.2.2.1, .int S.2.2.2.2.2.2.2.2.2.2.2.2]))] ++ (wL cI aL x.1 S.1 x.2.1 ++ (wG cI pa S.2.1 ++ (wT cI ta x.2.2.1 x.2.2.2.1 ++ wT cI da x.2.2.2.2.1 x.2.2.2.2.2)))) s.heap.size) s.heap s ([(a, .inr (3, [.ref aL, .ref pa.1, .ref ta.1, .ref da.1, .int (nI ((undL (sN S) S w to).2).2.2.2.2.1), .int (nI ((undL (sN S) S w to).2).2.2.2.2.2.1), .int (nI ((undL (sN S) S w to).2).2.2.2.2.2.2.1), .int (nI ((undL (sN S) S w to).2).2.2.2.2.2.2.2.1), .int (nI ((undL (sN S) S w to).2).2.2.2.2.2.2.2.2.1), .int ((undL (sN S) S w to).2).2.2.2.2.2.2.2.2.2.1, .int ((undL (sN S) S w to).2).2.2.2.2.2.2.2.2.2.2.1, .int ((undL (sN S) S w to).2).2.2.2.2.2.2.2.2.2.2.2.1, .int ((undL (sN S) S w to).2).2.2.2.2.2.2.2.2.2.2.2.2]))] ++ (wL cI aL xc.1 (((undL (sN S) S w to).2).1) xc.2.1 ++ (wG cI pa (((undL (sN S) S w to).2).2.1) ++ (wT cI ta xc.2.2.1 xc.2.2.2.1 ++ wT cI da xc.2.2.2.2.1 xc.2.2.2.2.2)))) H locs := by rw [hE]; exact hw
        refine lv_iload hx hb dX3_undoDownTo_40 (lv_at hl 0 rfl) ?_
        exact ww_iret (u := xc) hx hb hr hlk hw (⟨by rw [hE], by rw [hE]; exact hr2⟩) (by rw [hE2]; omega) (by rw [hE2]; omega) dX3_undoDownTo_42
      · have hi : i < sN S := by simp (disch := omega) only [i_le, nI_toInt] at c_14; omega
        have hfin0 : sCap Sc ≤ sCap (undL (sN S) S w to).2 := by rw [he]; exact (undL_ok (sN S - i) hI2 hd2 hp2).2.2.2.2.1
        refine lv_aload_n hx hb dX3_undoDownTo_17 rfl (lv_at hl 2 rfl) ?_
        refine ww_get hx hb hts hin3 hown hw 0 rfl rfl 2 (by decide) k26 rfl dX3_undoDownTo_18 ?_
        refine lv_iload_n hx hb dX3_undoDownTo_21 rfl (lv_at hl 3 rfl) ?_
        refine ww_callV ([(a, .inr (3, [.ref aL, .ref pa.1, .ref ta.1, .ref da.1, .int (nI Sc.2.2.2.2.1), .int (nI Sc.2.2.2.2.2.1), .int (nI Sc.2.2.2.2.2.2.1), .int (nI Sc.2.2.2.2.2.2.2.1), .int (nI Sc.2.2.2.2.2.2.2.2.1), .int Sc.2.2.2.2.2.2.2.2.2.1, .int Sc.2.2.2.2.2.2.2.2.2.2.1, .int Sc.2.2.2.2.2.2.2.2.2.2.2.1, .int Sc.2.2.2.2.2.2.2.2.2.2.2.2]))] ++ (wL cI aL xc.1 Sc.1 xc.2.1 ++ wG cI pa Sc.2.1)) (wT cI da xc.2.2.2.2.1 xc.2.2.2.2.2) (As := [.int (nI w)]) (rest := []) ⟨hx, hb, hml, hown, hts⟩ (cT_nextOf l D cI ta.1 ta.2.1 ta.2.2.1 ta.2.2.2.1 ta.2.2.2.2.1 ta.2.2.2.2.2 xc.2.2.1 xc.2.2.2.1 (sT Sc) hr2.2.1 w (by omega) hp2) gX3_undoDownTo_X2_nextOf rfl hd_X2_nextOf ⟨Nat.le_of_ble_eq_true rfl, Nat.le_of_ble_eq_true rfl⟩ hw rfl rfl rfl rfl rfl hl.1 (Nat.le_of_ble_eq_true rfl) dX3_undoDownTo_22 ⟨by have := hfin0; show _ + 0 ≤ sCap (undL (sN S) S w to).2 - sCap S; omega, by have := hfin0; show _ + 0 ≤ 2 * (sCap (undL (sN S) S w to).2 - sCap S); omega⟩ (fun rv u H locs hq hw => ?_)
        obtain ⟨rr, rfl, hq⟩ := hq
        subst hq
        have hw : ww D cI _ _ s ([(a, .inr (3, [.ref aL, .ref pa.1, .ref ta.1, .ref da.1, .int (nI Sc.2.2.2.2.1), .int (nI Sc.2.2.2.2.2.1), .int (nI Sc.2.2.2.2.2.2.1), .int (nI Sc.2.2.2.2.2.2.2.1), .int (nI Sc.2.2.2.2.2.2.2.2.1), .int Sc.2.2.2.2.2.2.2.2.2.1, .int Sc.2.2.2.2.2.2.2.2.2.2.1, .int Sc.2.2.2.2.2.2.2.2.2.2.2.1, .int Sc.2.2.2.2.2.2.2.2.2.2.2.2]))] ++ (wL cI aL xc.1 Sc.1 xc.2.1 ++ (wG cI pa Sc.2.1 ++ (wT cI ta xc.2.2.1 xc.2.2.2.1 ++ wT cI da xc.2.2.2.2.1 xc.2.2.2.2.2)))) H locs := hw
        refine W.eq (g2 := F0 m 25 ls [.int (nI (sT Sc w).2.2)]) rfl ?_
        refine lv_iload_n hx hb dX3_undoDownTo_25 rfl (lv_at hl 4 rfl) ?_
        refine lv_icmp_le (tgt := 40) hx hb dX3_undoDownTo_26 (by decide) (fun c_26 => ?_) (fun c_26 => ?_)
        · have hE : undL (sN S) S w to = (i, Sc) := by
            rw [he]
            first
            | (rw [undL_stop (by have := (Inv0_TB hI2 hb4 w).2.2; simp (disch := omega) only [i_le, nI_toInt] at c_26; omega)]; exact Prod.ext (Nat.zero_add _) rfl)
            | (rw [show sN S - i = 0 by simp (disch := omega) only [i_le, nI_toInt] at c_14; omega]; exact Prod.ext (Nat.zero_add _) rfl)
          have hE2 : sCap (undL (sN S) S w to).2 = sCap Sc := by rw [hE]
          have hw : ww D cI (va_A ([(a, .inr (3, [.ref aL, .ref pa.1, .ref ta.1, .ref da.1, .int (nI S.2.2.2.2.1), .int (nI S.2.2.2.2.2.1), .int (nI S.2.2.2.2.2.2.1), .int (nI S.2.2.2.2.2.2.2.1), .int (nI S.2.2.2.2.2.2.2.2.1), .int S.2.2.2.2.2.2.2.2.2.1, .int S.2.2.2.2.2.2.2.2.2.2.1, .int S.2.2.2.2.2.2.2.2.2.2.2.1, .int S.2.2.2.2.2.2.2.2.2.2.2.2]))] ++ (wL cI aL x.1 S.1 x.2.1 ++ (wG cI pa S.2.1 ++ (wT cI ta x.2.2.1 x.2.2.2.1 ++ wT cI da x.2.2.2.2.1 x.2.2.2.2.2)))) s.heap.size) s.heap s ([(a, .inr (3, [.ref aL, .ref pa.1, .ref ta.1, .ref da.1, .int (nI ((undL (sN S) S w to).2).2.2.2.2.1), .int (nI ((undL (sN S) S w to).2).2.2.2.2.2.1), .int (nI ((undL (sN S) S w to).2).2.2.2.2.2.2.1), .int (nI ((undL (sN S) S w to).2).2.2.2.2.2.2.2.1), .int (nI ((undL (sN S) S w to).2).2.2.2.2.2.2.2.2.1), .int ((undL (sN S) S w to).2).2.2.2.2.2.2.2.2.2.1, .int ((undL (sN S) S w to).2).2.2.2.2.2.2.2.2.2.2.1, .int ((undL (sN S) S w to).2).2.2.2.2.2.2.2.2.2.2.2.1, .int ((undL (sN S) S w to).2).2.2.2.2.2.2.2.2.2.2.2.2]))] ++ (wL cI aL xc.1 (((undL (sN S) S w to).2).1) xc.2.1 ++ (wG cI pa (((undL (sN S) S w to).2).2.1) ++ (wT cI ta xc.2.2.1 xc.2.2.2.1 ++ wT cI da xc.2.2.2.2.1 xc.2.2.2.2.2)))) H locs := by rw [hE]; exact hw
          refine lv_iload hx hb dX3_undoDownTo_40 (lv_at hl 0 rfl) ?_
          exact ww_iret (u := xc) hx hb hr hlk hw (⟨by rw [hE], by rw [hE]; exact hr2⟩) (by rw [hE2]; omega) (by rw [hE2]; omega) dX3_undoDownTo_42
        · have hlt : to < (sT Sc w).2.2 := by have := (Inv0_TB hI2 hb4 w).2.2; simp (disch := omega) only [i_le, nI_toInt] at c_26; omega
          have hI3 := Inv0_und hI2 (Or.inl hd2) hp2 (by omega)
          have hE2 := ((Inv0_T hI2).1 w).2 hp2
          have hp3 : (sT (und Sc w) w).1 ≠ 0 := by rw [und_T hp2 (by have := hE2.1; omega)]; exact hp2
          have hcu := cap_und Sc w
          have hfin : sCap (und Sc w) ≤ sCap (undL (sN S) S w to).2 := by rw [he, undL_go (by omega) hlt]; exact (undL_ok (sN S - i - 1) hI3 hd2 hp3).2.2.2.2.1
          refine lv_aload_n hx hb dX3_undoDownTo_29 rfl (lv_at hl 2 rfl) ?_
          refine lv_iload_n hx hb dX3_undoDownTo_30 rfl (lv_at hl 3 rfl) ?_
          refine ww_callA (As := [.int (nI w)]) (rest := []) ⟨hx, hb, hml, hown, hts⟩ (cS_und l D cI a aL pa ta da Sc xc b w hI2 hb4 hr2 hp2 (by omega)) gX3_undoDownTo_X3_undoNext rfl hd_X3_undoNext ⟨Nat.le_of_ble_eq_true rfl, Nat.le_of_ble_eq_true rfl⟩ hw rfl rfl rfl rfl hl.1 (Nat.le_of_ble_eq_true rfl) dX3_undoDownTo_31 ⟨by show _ ≤ sCap (undL (sN S) S w to).2 - sCap S; omega, by show _ ≤ 2 * (sCap (undL (sN S) S w to).2 - sCap S); omega⟩ (fun rv u H locs hq hw => ?_)
          obtain ⟨rfl, hq⟩ := hq
          have hw : ww D cI _ _ s ([(a, .inr (3, [.ref aL, .ref pa.1, .ref ta.1, .ref da.1, .int (nI (und Sc w).2.2.2.2.1), .int (nI (und Sc w).2.2.2.2.2.1), .int (nI (und Sc w).2.2.2.2.2.2.1), .int (nI (und Sc w).2.2.2.2.2.2.2.1), .int (nI (und Sc w).2.2.2.2.2.2.2.2.1), .int (und Sc w).2.2.2.2.2.2.2.2.2.1, .int (und Sc w).2.2.2.2.2.2.2.2.2.2.1, .int (und Sc w).2.2.2.2.2.2.2.2.2.2.2.1, .int (und Sc w).2.2.2.2.2.2.2.2.2.2.2.2]))] ++ (wL cI aL u.1 ((und Sc w).1) u.2.1 ++ (wG cI pa ((und Sc w).2.1) ++ (wT cI ta u.2.2.1 u.2.2.2.1 ++ wT cI da u.2.2.2.2.1 u.2.2.2.2.2)))) H locs := hw
          refine W.eq (g2 := F0 m 34 ls []) rfl ?_
          refine lv_iinc (v := nI (i + 1)) (lv' := [(4, .int (nI (i + 1))), (3, .int (nI (sN S))), (0, .ref a), (1, .int (nI w)), (2, .int (nI to))]) hx hb dX3_undoDownTo_34 hl (k := 0) rfl (nI_add _ _) (by decide) rfl (fun ls hl => ?_)
          refine lv_goto (tgt := 11) hx hb dX3_undoDownTo_37 (by decide) ?_
          refine W.widen (k := sCap (und Sc w) - sCap S) (n := 2 * (sCap (und Sc w) - sCap S)) (by omega) (by omega) ?_
          exact ih_11 (i + 1) (und Sc w) u _ _ _ (by omega) (by omega) hI3 hd2 hp3 hq (by omega) (by rw [he, undL_go (by omega) hlt]; show _ = _; rw [show sN S - i - 1 = sN S - (i + 1) by omega]; exact Prod.ext (by show _ + 1 + i = _ + (i + 1); omega) rfl) hw (lv_sub hl [0, 1, 2, 3, 4] rfl)
  refine W.widen (k := sCap S - sCap S) (n := 2 * (sCap S - sCap S)) (by omega) (by omega) ?_
  exact lp ((sN S - (0)) + 1) 0 S x _ _ _ (Nat.lt_succ_self _) (Nat.zero_le _) hI hd hp hrx (Nat.le_refl _) rfl hw (lv_sub hl [0, 1, 2, 3, 4] rfl)
set_option maxHeartbeats 4000000 in
set_option maxRecDepth 100000 in
theorem cS_undoOrEnd (l : Launch) (D : va_G) (cI : ClassId) (a aL : Nat) (pa : A5) (ta da : A6) (S : SS) (x : XG) (b : Nat) (hI : Inv0 b S) (hb4 : b ≤ 4000) (hrx : RX S x) (w : Nat) (hp : (sT S w).1 ≠ 0) : Kt l yX3_undoOrEnd wsX3_undoOrEnd 4 91 (sCap (uoe S w) - sCap S) (2 * (sCap (uoe S w) - sCap S)) D cI [.ref a, .int (nI w)] ([(a, .inr (3, [.ref aL, .ref pa.1, .ref ta.1, .ref da.1, .int (nI S.2.2.2.2.1), .int (nI S.2.2.2.2.2.1), .int (nI S.2.2.2.2.2.2.1), .int (nI S.2.2.2.2.2.2.2.1), .int (nI S.2.2.2.2.2.2.2.2.1), .int S.2.2.2.2.2.2.2.2.2.1, .int S.2.2.2.2.2.2.2.2.2.2.1, .int S.2.2.2.2.2.2.2.2.2.2.2.1, .int S.2.2.2.2.2.2.2.2.2.2.2.2]))] ++ (wL cI aL x.1 S.1 x.2.1 ++ (wG cI pa S.2.1 ++ (wT cI ta x.2.2.1 x.2.2.2.1 ++ wT cI da x.2.2.2.2.1 x.2.2.2.2.2)))) (pV (fun (u : XG) => RX (uoe S w) u)) (fun (u : XG) => [(a, .inr (3, [.ref aL, .ref pa.1, .ref ta.1, .ref da.1, .int (nI (uoe S w).2.2.2.2.1), .int (nI (uoe S w).2.2.2.2.2.1), .int (nI (uoe S w).2.2.2.2.2.2.1), .int (nI (uoe S w).2.2.2.2.2.2.2.1), .int (nI (uoe S w).2.2.2.2.2.2.2.2.1), .int (uoe S w).2.2.2.2.2.2.2.2.2.1, .int (uoe S w).2.2.2.2.2.2.2.2.2.2.1, .int (uoe S w).2.2.2.2.2.2.2.2.2.2.2.1, .int (uoe S w).2.2.2.2.2.2.2.2.2.2.2.2]))] ++ (wL cI aL u.1 ((uoe S w).1) u.2.1 ++ (wG cI pa ((uoe S w).2.1) ++ (wT cI ta u.2.2.1 u.2.2.2.1 ++ wT cI da u.2.2.2.2.1 u.2.2.2.2.2)))) := by
  refine kt_start (cc := cX3_undoOrEnd) (maxL := 2) (ret := none) (by decide +kernel) rfl (Nat.le_of_ble_eq_true rfl) ?_
  intro p e s m below meth c hx hb hml hr hlk hown hnm hts ls hl hw
  have hown : s.vm.findClass RX3 = some m.cls := hown
  have hl : lv_has ls 2 [(0, .ref a), (1, .int (nI w))] := hl
  have k26 := hts (.fieldLink RX3 26 "RestartBook" "tables" "LRestartBook$Tables;") (by decide +kernel)
  have k58 := hts (.fieldLink RX3 58 "RestartBook" "undone" "I") (by decide +kernel)
  have hin3 : ∀ w ∈ u_ws RX3 TX3 13, w ∈ wsX3_undoOrEnd := in_X3_undoOrEnd
  have hw200 := (TR_some hrx.2.1 hp).2.1
  refine lv_aload_n hx hb dX3_undoOrEnd_0 rfl (lv_at hl 0 rfl) ?_
  refine ww_get hx hb hts hin3 hown hw 0 rfl rfl 2 (by decide) k26 rfl dX3_undoOrEnd_1 ?_
  refine lv_iload_n hx hb dX3_undoOrEnd_4 rfl (lv_at hl 1 rfl) ?_
  refine ww_callV ([(a, .inr (3, [.ref aL, .ref pa.1, .ref ta.1, .ref da.1, .int (nI S.2.2.2.2.1), .int (nI S.2.2.2.2.2.1), .int (nI S.2.2.2.2.2.2.1), .int (nI S.2.2.2.2.2.2.2.1), .int (nI S.2.2.2.2.2.2.2.2.1), .int S.2.2.2.2.2.2.2.2.2.1, .int S.2.2.2.2.2.2.2.2.2.2.1, .int S.2.2.2.2.2.2.2.2.2.2.2.1, .int S.2.2.2.2.2.2.2.2.2.2.2.2]))] ++ (wL cI aL x.1 S.1 x.2.1 ++ wG cI pa S.2.1)) (wT cI da x.2.2.2.2.1 x.2.2.2.2.2) (As := [.int (nI w)]) (rest := []) ⟨hx, hb, hml, hown, hts⟩ (cT_nextOf l D cI ta.1 ta.2.1 ta.2.2.1 ta.2.2.2.1 ta.2.2.2.2.1 ta.2.2.2.2.2 x.2.2.1 x.2.2.2.1 (sT S) hrx.2.1 w (by omega) hp) gX3_undoOrEnd_X2_nextOf rfl hd_X2_nextOf ⟨Nat.le_of_ble_eq_true rfl, Nat.le_of_ble_eq_true rfl⟩ hw rfl rfl rfl rfl rfl hl.1 (Nat.le_of_ble_eq_true rfl) dX3_undoOrEnd_5 ⟨Nat.zero_le _, Nat.zero_le _⟩ (fun rv u H locs hq hw => ?_)
  obtain ⟨rr, rfl, hq⟩ := hq
  subst hq
  have hw : ww D cI _ _ s ([(a, .inr (3, [.ref aL, .ref pa.1, .ref ta.1, .ref da.1, .int (nI S.2.2.2.2.1), .int (nI S.2.2.2.2.2.1), .int (nI S.2.2.2.2.2.2.1), .int (nI S.2.2.2.2.2.2.2.1), .int (nI S.2.2.2.2.2.2.2.2.1), .int S.2.2.2.2.2.2.2.2.2.1, .int S.2.2.2.2.2.2.2.2.2.2.1, .int S.2.2.2.2.2.2.2.2.2.2.2.1, .int S.2.2.2.2.2.2.2.2.2.2.2.2]))] ++ (wL cI aL x.1 S.1 x.2.1 ++ (wG cI pa S.2.1 ++ (wT cI ta x.2.2.1 x.2.2.2.1 ++ wT cI da x.2.2.2.2.1 x.2.2.2.2.2)))) H locs := hw
  refine W.eq (g2 := F0 m 8 ls [.int (nI (sT S w).2.2)]) rfl ?_
  refine lv_if_le (tgt := 29) hx hb dX3_undoOrEnd_8 (by decide) (fun c_8 => ?_) (fun c_8 => ?_)
  · have hlt : ¬ 0 < (sT S w).2.2 := by have := (Inv0_TB hI hb4 w).2.2; simp (disch := omega) only [i_le, nI_toInt, z_0] at c_8; omega
    have hE : uoe S w = emT S (rcW S 5 w) := by rw [uoe, if_neg hlt]
    have hE2 : sCap (uoe S w) = sCap (emT S (rcW S 5 w)) := by rw [hE]
    refine lv_aload_n hx hb dX3_undoOrEnd_29 rfl (lv_at hl 0 rfl) ?_
    refine lv_iconst (v := nI 5) hx hb dX3_undoOrEnd_30 (by decide +kernel) ?_
    refine lv_iload_n hx hb dX3_undoOrEnd_31 rfl (lv_at hl 1 rfl) ?_
    refine ww_callA (As := [.int (nI 5), .int (nI w)]) (rest := []) ⟨hx, hb, hml, hown, hts⟩ (cS_app l D cI a aL pa ta da S x b 5 w hI hb4 hrx hp (by omega) (by omega)) gX3_undoOrEnd_X3_appendOfWork rfl hd_X3_appendOfWork ⟨Nat.le_of_ble_eq_true rfl, Nat.le_of_ble_eq_true rfl⟩ hw rfl rfl rfl rfl hl.1 (Nat.le_of_ble_eq_true rfl) dX3_undoOrEnd_32 ⟨by show _ ≤ sCap (uoe S w) - sCap S; rw [hE2]; omega, by show _ ≤ 2 * (sCap (uoe S w) - sCap S); rw [hE2]; omega⟩ (fun rv u H locs hq hw => ?_)
    obtain ⟨rr, rfl, -, hq⟩ := hq
    have hw : ww D cI _ _ s ([(a, .inr (3, [.ref aL, .ref pa.1, .ref ta.1, .ref da.1, .int (nI (emT S (rcW S 5 w)).2.2.2.2.1), .int (nI (emT S (rcW S 5 w)).2.2.2.2.2.1), .int (nI (emT S (rcW S 5 w)).2.2.2.2.2.2.1), .int (nI (emT S (rcW S 5 w)).2.2.2.2.2.2.2.1), .int (nI (emT S (rcW S 5 w)).2.2.2.2.2.2.2.2.1), .int (emT S (rcW S 5 w)).2.2.2.2.2.2.2.2.2.1, .int (emT S (rcW S 5 w)).2.2.2.2.2.2.2.2.2.2.1, .int (emT S (rcW S 5 w)).2.2.2.2.2.2.2.2.2.2.2.1, .int (emT S (rcW S 5 w)).2.2.2.2.2.2.2.2.2.2.2.2]))] ++ (wL cI aL u.1 ((emT S (rcW S 5 w)).1) u.2.1 ++ (wG cI pa ((emT S (rcW S 5 w)).2.1) ++ (wT cI ta u.2.2.1 u.2.2.2.1 ++ wT cI da u.2.2.2.2.1 u.2.2.2.2.2)))) H locs := hw
    refine W.eq (g2 := F0 m 35 ls [.int (rr)]) rfl ?_
    refine lv_pop hx hb dX3_undoOrEnd_35 rfl ?_
    have hw : ww D cI (va_A ([(a, .inr (3, [.ref aL, .ref pa.1, .ref ta.1, .ref da.1, .int (nI S.2.2.2.2.1), .int (nI S.2.2.2.2.2.1), .int (nI S.2.2.2.2.2.2.1), .int (nI S.2.2.2.2.2.2.2.1), .int (nI S.2.2.2.2.2.2.2.2.1), .int S.2.2.2.2.2.2.2.2.2.1, .int S.2.2.2.2.2.2.2.2.2.2.1, .int S.2.2.2.2.2.2.2.2.2.2.2.1, .int S.2.2.2.2.2.2.2.2.2.2.2.2]))] ++ (wL cI aL x.1 S.1 x.2.1 ++ (wG cI pa S.2.1 ++ (wT cI ta x.2.2.1 x.2.2.2.1 ++ wT cI da x.2.2.2.2.1 x.2.2.2.2.2)))) s.heap.size) s.heap s ([(a, .inr (3, [.ref aL, .ref pa.1, .ref ta.1, .ref da.1, .int (nI (uoe S w).2.2.2.2.1), .int (nI (uoe S w).2.2.2.2.2.1), .int (nI (uoe S w).2.2.2.2.2.2.1), .int (nI (uoe S w).2.2.2.2.2.2.2.1), .int (nI (uoe S w).2.2.2.2.2.2.2.2.1), .int (uoe S w).2.2.2.2.2.2.2.2.2.1, .int (uoe S w).2.2.2.2.2.2.2.2.2.2.1, .int (uoe S w).2.2.2.2.2.2.2.2.2.2.2.1, .int (uoe S w).2.2.2.2.2.2.2.2.2.2.2.2]))] ++ (wL cI aL u.1 ((uoe S w).1) u.2.1 ++ (wG cI pa ((uoe S w).2.1) ++ (wT cI ta u.2.2.1 u.2.2.2.1 ++ wT cI da u.2.2.2.2.1 u.2.2.2.2.2)))) H locs := by rw [hE]; exact hw
    exact ww_vret (u := u) hx hb hr hlk hw (by rw [hE]; exact hq) (by rw [hE2]; omega) (by rw [hE2]; omega) rfl dX3_undoOrEnd_36
  · have hlt : 0 < (sT S w).2.2 := by have := (Inv0_TB hI hb4 w).2.2; simp (disch := omega) only [i_le, nI_toInt, z_0] at c_8; omega
    have hE : uoe S w = setC (und S w) (sC2 S) (sC3 S) (sC4 S) (sC5 S + 1) := by rw [uoe, if_pos hlt]
    have hE2 : sCap (uoe S w) = sCap (und S w) := by rw [hE]; rfl
    refine lv_aload_n hx hb dX3_undoOrEnd_11 rfl (lv_at hl 0 rfl) ?_
    refine lv_iload_n hx hb dX3_undoOrEnd_12 rfl (lv_at hl 1 rfl) ?_
    refine ww_callA (As := [.int (nI w)]) (rest := []) ⟨hx, hb, hml, hown, hts⟩ (cS_und l D cI a aL pa ta da S x b w hI hb4 hrx hp (by omega)) gX3_undoOrEnd_X3_undoNext rfl hd_X3_undoNext ⟨Nat.le_of_ble_eq_true rfl, Nat.le_of_ble_eq_true rfl⟩ hw rfl rfl rfl rfl hl.1 (Nat.le_of_ble_eq_true rfl) dX3_undoOrEnd_13 ⟨by show _ ≤ sCap (uoe S w) - sCap S; rw [hE2]; omega, by show _ ≤ 2 * (sCap (uoe S w) - sCap S); rw [hE2]; omega⟩ (fun rv u H locs hq hw => ?_)
    obtain ⟨rfl, hq⟩ := hq
    have hw : ww D cI _ _ s ([(a, .inr (3, [.ref aL, .ref pa.1, .ref ta.1, .ref da.1, .int (nI (und S w).2.2.2.2.1), .int (nI (und S w).2.2.2.2.2.1), .int (nI (und S w).2.2.2.2.2.2.1), .int (nI (und S w).2.2.2.2.2.2.2.1), .int (nI (und S w).2.2.2.2.2.2.2.2.1), .int (und S w).2.2.2.2.2.2.2.2.2.1, .int (und S w).2.2.2.2.2.2.2.2.2.2.1, .int (und S w).2.2.2.2.2.2.2.2.2.2.2.1, .int (und S w).2.2.2.2.2.2.2.2.2.2.2.2]))] ++ (wL cI aL u.1 ((und S w).1) u.2.1 ++ (wG cI pa ((und S w).2.1) ++ (wT cI ta u.2.2.1 u.2.2.2.1 ++ wT cI da u.2.2.2.2.1 u.2.2.2.2.2)))) H locs := hw
    refine W.eq (g2 := F0 m 16 ls []) rfl ?_
    refine lv_aload_n hx hb dX3_undoOrEnd_16 rfl (lv_at hl 0 rfl) ?_
    refine lv_dup hx hb dX3_undoOrEnd_17 rfl ?_
    refine ww_get hx hb hts hin3 hown hw 0 rfl rfl 12 (by decide) k58 rfl dX3_undoOrEnd_18 ?_
    refine lv_iconst (v := nI 1) hx hb dX3_undoOrEnd_21 (by decide +kernel) ?_
    refine lv_iadd hx hb dX3_undoOrEnd_22 ?_
    refine ww_put (ws' := [(a, .inr (3, [.ref aL, .ref pa.1, .ref ta.1, .ref da.1, .int (nI (und S w).2.2.2.2.1), .int (nI (und S w).2.2.2.2.2.1), .int (nI (und S w).2.2.2.2.2.2.1), .int (nI (und S w).2.2.2.2.2.2.2.1), .int (nI (und S w).2.2.2.2.2.2.2.2.1), .int (und S w).2.2.2.2.2.2.2.2.2.1, .int (und S w).2.2.2.2.2.2.2.2.2.2.1, .int (und S w).2.2.2.2.2.2.2.2.2.2.2.1, .int (((und S w).2.2.2.2.2.2.2.2.2.2.2.2) + (nI 1))]))] ++ (wL cI aL u.1 ((und S w).1) u.2.1 ++ (wG cI pa ((und S w).2.1) ++ (wT cI ta u.2.2.1 u.2.2.2.1 ++ wT cI da u.2.2.2.2.1 u.2.2.2.2.2)))) hx hb hts hin3 tyX3 tyX3_ok nmX3 hown hw 0 rfl rfl 12 (by decide) k58 rfl rfl rfl (Nat.le_of_ble_eq_true rfl) rfl dX3_undoOrEnd_23 (fun H locs hw => ?_)
    refine lv_goto (tgt := 36) hx hb dX3_undoOrEnd_26 (by decide) ?_
    have hw : ww D cI (va_A ([(a, .inr (3, [.ref aL, .ref pa.1, .ref ta.1, .ref da.1, .int (nI S.2.2.2.2.1), .int (nI S.2.2.2.2.2.1), .int (nI S.2.2.2.2.2.2.1), .int (nI S.2.2.2.2.2.2.2.1), .int (nI S.2.2.2.2.2.2.2.2.1), .int S.2.2.2.2.2.2.2.2.2.1, .int S.2.2.2.2.2.2.2.2.2.2.1, .int S.2.2.2.2.2.2.2.2.2.2.2.1, .int S.2.2.2.2.2.2.2.2.2.2.2.2]))] ++ (wL cI aL x.1 S.1 x.2.1 ++ (wG cI pa S.2.1 ++ (wT cI ta x.2.2.1 x.2.2.2.1 ++ wT cI da x.2.2.2.2.1 x.2.2.2.2.2)))) s.heap.size) s.heap s ([(a, .inr (3, [.ref aL, .ref pa.1, .ref ta.1, .ref da.1, .int (nI (uoe S w).2.2.2.2.1), .int (nI (uoe S w).2.2.2.2.2.1), .int (nI (uoe S w).2.2.2.2.2.2.1), .int (nI (uoe S w).2.2.2.2.2.2.2.1), .int (nI (uoe S w).2.2.2.2.2.2.2.2.1), .int (uoe S w).2.2.2.2.2.2.2.2.2.1, .int (uoe S w).2.2.2.2.2.2.2.2.2.2.1, .int (uoe S w).2.2.2.2.2.2.2.2.2.2.2.1, .int (uoe S w).2.2.2.2.2.2.2.2.2.2.2.2]))] ++ (wL cI aL u.1 ((uoe S w).1) u.2.1 ++ (wG cI pa ((uoe S w).2.1) ++ (wT cI ta u.2.2.1 u.2.2.2.1 ++ wT cI da u.2.2.2.2.1 u.2.2.2.2.2)))) H locs := by rw [hE]; exact hw
    exact ww_vret (u := u) hx hb hr hlk hw (by rw [hE]; exact hq) (by rw [hE2]; omega) (by rw [hE2]; omega) rfl dX3_undoOrEnd_36
end
