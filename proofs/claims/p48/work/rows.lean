section
/-! these rows are read over the whole library (part 80 names a theorem of the part of it that a round first leaves out): said at once, in the first part -/
theorem am_wide : @Jvm.Stand.multianewarray2F = @Jvm.Stand.multianewarray2F := rfl
end
section
-- ===== PART A: goes FIRST, ahead of the names: the tables' words, and 'selects' of the private methods out of them =====
/-- a private method of a class that the tables say can be made, by its rows of tables_1 -/
def lw_okq (q : MethodName × Nat) : Prop := (q.1.cls ≠ "java/lang/invoke/MethodHandle" ∧ q.1.cls ≠ "java/lang/invoke/VarHandle") ∧ Cond.instantiable q.1.cls q.2 ∈ tables_1 ∧ Cond.privateMethod q.1 ∈ tables_1 ∧ Cond.instanceMethod q.1 ∈ tables_1
theorem lw_p0 : lw_okq (⟨"DoorsForThree$Law", "readLines", "()Z"⟩, 10) := ⟨⟨by decide +kernel, by decide +kernel⟩, List.mem_of_getElem? (i := 83) (by decide +kernel), List.mem_of_getElem? (i := 448) (by decide +kernel), List.mem_of_getElem? (i := 449) (by decide +kernel)⟩
theorem lw_p1 : lw_okq (⟨"DoorsForThree$Law", "readLine", "()Z"⟩, 10) := ⟨⟨by decide +kernel, by decide +kernel⟩, List.mem_of_getElem? (i := 83) (by decide +kernel), List.mem_of_getElem? (i := 452) (by decide +kernel), List.mem_of_getElem? (i := 453) (by decide +kernel)⟩
theorem lw_p2 : lw_okq (⟨"DoorsForThree$Law", "readLevel", "(II)Z"⟩, 10) := ⟨⟨by decide +kernel, by decide +kernel⟩, List.mem_of_getElem? (i := 83) (by decide +kernel), List.mem_of_getElem? (i := 456) (by decide +kernel), List.mem_of_getElem? (i := 457) (by decide +kernel)⟩
theorem lw_p3 : lw_okq (⟨"DoorsForThree$Law", "readOperand", "(I)Z"⟩, 10) := ⟨⟨by decide +kernel, by decide +kernel⟩, List.mem_of_getElem? (i := 83) (by decide +kernel), List.mem_of_getElem? (i := 460) (by decide +kernel), List.mem_of_getElem? (i := 461) (by decide +kernel)⟩
theorem lw_p4 : lw_okq (⟨"DoorsForThree$Law", "pass", "(Ljava/lang/String;)I"⟩, 10) := ⟨⟨by decide +kernel, by decide +kernel⟩, List.mem_of_getElem? (i := 83) (by decide +kernel), List.mem_of_getElem? (i := 465) (by decide +kernel), List.mem_of_getElem? (i := 466) (by decide +kernel)⟩
theorem lw_p5 : lw_okq (⟨"DoorsForThree$Law", "draftStep", "(I)V"⟩, 10) := ⟨⟨by decide +kernel, by decide +kernel⟩, List.mem_of_getElem? (i := 83) (by decide +kernel), List.mem_of_getElem? (i := 555) (by decide +kernel), List.mem_of_getElem? (i := 556) (by decide +kernel)⟩
theorem lw_p6 : lw_okq (⟨"DoorsForThree$Law", "isDigitNext", "()Z"⟩, 10) := ⟨⟨by decide +kernel, by decide +kernel⟩, List.mem_of_getElem? (i := 83) (by decide +kernel), List.mem_of_getElem? (i := 559) (by decide +kernel), List.mem_of_getElem? (i := 560) (by decide +kernel)⟩
theorem lw_p7 : lw_okq (⟨"DoorsForThree$Law", "readNumber", "()V"⟩, 10) := ⟨⟨by decide +kernel, by decide +kernel⟩, List.mem_of_getElem? (i := 83) (by decide +kernel), List.mem_of_getElem? (i := 563) (by decide +kernel), List.mem_of_getElem? (i := 564) (by decide +kernel)⟩
theorem lw_p8 : lw_okq (⟨"DoorsForThree$Law", "pop", "()I"⟩, 10) := ⟨⟨by decide +kernel, by decide +kernel⟩, List.mem_of_getElem? (i := 83) (by decide +kernel), List.mem_of_getElem? (i := 600) (by decide +kernel), List.mem_of_getElem? (i := 601) (by decide +kernel)⟩
theorem lw_p9 : lw_okq (⟨"DoorsForThree$Law", "takeStep", "(I[I)V"⟩, 10) := ⟨⟨by decide +kernel, by decide +kernel⟩, List.mem_of_getElem? (i := 83) (by decide +kernel), List.mem_of_getElem? (i := 604) (by decide +kernel), List.mem_of_getElem? (i := 605) (by decide +kernel)⟩
theorem lw_p10 : lw_okq (⟨"DoorsForThree$Law", "push", "(I)V"⟩, 10) := ⟨⟨by decide +kernel, by decide +kernel⟩, List.mem_of_getElem? (i := 83) (by decide +kernel), List.mem_of_getElem? (i := 608) (by decide +kernel), List.mem_of_getElem? (i := 609) (by decide +kernel)⟩
theorem lw_p11 : lw_okq (⟨"DoorsForThree", "fresh", "()LDoorsForThree$Givings;"⟩, 10) := ⟨⟨by decide +kernel, by decide +kernel⟩, List.mem_of_getElem? (i := 26) (by decide +kernel), List.mem_of_getElem? (i := 623) (by decide +kernel), List.mem_of_getElem? (i := 624) (by decide +kernel)⟩
theorem lw_p12 : lw_okq (⟨"DoorsForThree$Givings", "orderDoors", "()V"⟩, 13) := ⟨⟨by decide +kernel, by decide +kernel⟩, List.mem_of_getElem? (i := 138) (by decide +kernel), List.mem_of_getElem? (i := 635) (by decide +kernel), List.mem_of_getElem? (i := 636) (by decide +kernel)⟩
theorem lw_p13 : lw_okq (⟨"DoorsForThree$Givings", "orderChildren", "()V"⟩, 13) := ⟨⟨by decide +kernel, by decide +kernel⟩, List.mem_of_getElem? (i := 138) (by decide +kernel), List.mem_of_getElem? (i := 640) (by decide +kernel), List.mem_of_getElem? (i := 641) (by decide +kernel)⟩
theorem lw_p14 : lw_okq (⟨"DoorsForThree$Givings", "giveBy", "(I)V"⟩, 13) := ⟨⟨by decide +kernel, by decide +kernel⟩, List.mem_of_getElem? (i := 138) (by decide +kernel), List.mem_of_getElem? (i := 658) (by decide +kernel), List.mem_of_getElem? (i := 659) (by decide +kernel)⟩
theorem lw_p15 : lw_okq (⟨"DoorsForThree$Givings", "giveOffered", "(II[I)I"⟩, 13) := ⟨⟨by decide +kernel, by decide +kernel⟩, List.mem_of_getElem? (i := 138) (by decide +kernel), List.mem_of_getElem? (i := 663) (by decide +kernel), List.mem_of_getElem? (i := 664) (by decide +kernel)⟩
def lw_privs_1 : List (MethodName × Nat) := [(⟨"DoorsForThree$Law", "readLines", "()Z"⟩, 10), (⟨"DoorsForThree$Law", "readLine", "()Z"⟩, 10), (⟨"DoorsForThree$Law", "readLevel", "(II)Z"⟩, 10), (⟨"DoorsForThree$Law", "readOperand", "(I)Z"⟩, 10), (⟨"DoorsForThree$Law", "pass", "(Ljava/lang/String;)I"⟩, 10), (⟨"DoorsForThree$Law", "draftStep", "(I)V"⟩, 10), (⟨"DoorsForThree$Law", "isDigitNext", "()Z"⟩, 10), (⟨"DoorsForThree$Law", "readNumber", "()V"⟩, 10), (⟨"DoorsForThree$Law", "pop", "()I"⟩, 10), (⟨"DoorsForThree$Law", "takeStep", "(I[I)V"⟩, 10), (⟨"DoorsForThree$Law", "push", "(I)V"⟩, 10), (⟨"DoorsForThree", "fresh", "()LDoorsForThree$Givings;"⟩, 10), (⟨"DoorsForThree$Givings", "orderDoors", "()V"⟩, 13), (⟨"DoorsForThree$Givings", "orderChildren", "()V"⟩, 13), (⟨"DoorsForThree$Givings", "giveBy", "(I)V"⟩, 13), (⟨"DoorsForThree$Givings", "giveOffered", "(II[I)I"⟩, 13)]
theorem lw_r1 : ∀ q ∈ lw_privs_1, lw_okq q := List.forall_mem_cons.mpr ⟨lw_p0, List.forall_mem_cons.mpr ⟨lw_p1, List.forall_mem_cons.mpr ⟨lw_p2, List.forall_mem_cons.mpr ⟨lw_p3, List.forall_mem_cons.mpr ⟨lw_p4, List.forall_mem_cons.mpr ⟨lw_p5, List.forall_mem_cons.mpr ⟨lw_p6, List.forall_mem_cons.mpr ⟨lw_p7, List.forall_mem_cons.mpr ⟨lw_p8, List.forall_mem_cons.mpr ⟨lw_p9, List.forall_mem_cons.mpr ⟨lw_p10, List.forall_mem_cons.mpr ⟨lw_p11, List.forall_mem_cons.mpr ⟨lw_p12, List.forall_mem_cons.mpr ⟨lw_p13, List.forall_mem_cons.mpr ⟨lw_p14, List.forall_mem_cons.mpr ⟨lw_p15, fun _ h => absurd h List.not_mem_nil⟩⟩⟩⟩⟩⟩⟩⟩⟩⟩⟩⟩⟩⟩⟩⟩
theorem lw_p16 : lw_okq (⟨"DoorsForThree$Givings", "chosen", "(II[I)I"⟩, 13) := ⟨⟨by decide +kernel, by decide +kernel⟩, List.mem_of_getElem? (i := 138) (by decide +kernel), List.mem_of_getElem? (i := 667) (by decide +kernel), List.mem_of_getElem? (i := 668) (by decide +kernel)⟩
theorem lw_p17 : lw_okq (⟨"DoorsForThree$Givings", "mostWilling", "(I[I)I"⟩, 13) := ⟨⟨by decide +kernel, by decide +kernel⟩, List.mem_of_getElem? (i := 138) (by decide +kernel), List.mem_of_getElem? (i := 671) (by decide +kernel), List.mem_of_getElem? (i := 672) (by decide +kernel)⟩
theorem lw_p18 : lw_okq (⟨"DoorsForThree$Givings", "will", "(II[I)I"⟩, 13) := ⟨⟨by decide +kernel, by decide +kernel⟩, List.mem_of_getElem? (i := 138) (by decide +kernel), List.mem_of_getElem? (i := 675) (by decide +kernel), List.mem_of_getElem? (i := 676) (by decide +kernel)⟩
theorem lw_p19 : lw_okq (⟨"DoorsForThree", "isRuleAndChild", "(I)Z"⟩, 10) := ⟨⟨by decide +kernel, by decide +kernel⟩, List.mem_of_getElem? (i := 26) (by decide +kernel), List.mem_of_getElem? (i := 688) (by decide +kernel), List.mem_of_getElem? (i := 689) (by decide +kernel)⟩
theorem lw_p20 : lw_okq (⟨"DoorsForThree$Givings", "unfairOf", "([I)I"⟩, 13) := ⟨⟨by decide +kernel, by decide +kernel⟩, List.mem_of_getElem? (i := 138) (by decide +kernel), List.mem_of_getElem? (i := 704) (by decide +kernel), List.mem_of_getElem? (i := 705) (by decide +kernel)⟩
theorem lw_p21 : lw_okq (⟨"DoorsForThree$Givings", "worthTo", "(III)I"⟩, 13) := ⟨⟨by decide +kernel, by decide +kernel⟩, List.mem_of_getElem? (i := 138) (by decide +kernel), List.mem_of_getElem? (i := 718) (by decide +kernel), List.mem_of_getElem? (i := 719) (by decide +kernel)⟩
theorem lw_p22 : lw_okq (⟨"DoorsForThree$Fairest", "giveAllToFirst", "()V"⟩, 10) := ⟨⟨by decide +kernel, by decide +kernel⟩, List.mem_of_getElem? (i := 187) (by decide +kernel), List.mem_of_getElem? (i := 745) (by decide +kernel), List.mem_of_getElem? (i := 746) (by decide +kernel)⟩
theorem lw_p23 : lw_okq (⟨"DoorsForThree$Fairest", "howMany", "()I"⟩, 10) := ⟨⟨by decide +kernel, by decide +kernel⟩, List.mem_of_getElem? (i := 187) (by decide +kernel), List.mem_of_getElem? (i := 751) (by decide +kernel), List.mem_of_getElem? (i := 752) (by decide +kernel)⟩
theorem lw_p24 : lw_okq (⟨"DoorsForThree$Fairest", "weigh", "()V"⟩, 10) := ⟨⟨by decide +kernel, by decide +kernel⟩, List.mem_of_getElem? (i := 187) (by decide +kernel), List.mem_of_getElem? (i := 755) (by decide +kernel), List.mem_of_getElem? (i := 756) (by decide +kernel)⟩
theorem lw_p25 : lw_okq (⟨"DoorsForThree$Fairest", "goOn", "()V"⟩, 10) := ⟨⟨by decide +kernel, by decide +kernel⟩, List.mem_of_getElem? (i := 187) (by decide +kernel), List.mem_of_getElem? (i := 762) (by decide +kernel), List.mem_of_getElem? (i := 763) (by decide +kernel)⟩
theorem lw_p26 : lw_okq (⟨"DoorsForThree$Fairest", "handOver", "(II)V"⟩, 10) := ⟨⟨by decide +kernel, by decide +kernel⟩, List.mem_of_getElem? (i := 187) (by decide +kernel), List.mem_of_getElem? (i := 766) (by decide +kernel), List.mem_of_getElem? (i := 767) (by decide +kernel)⟩
theorem lw_p27 : lw_okq (⟨"DoorsForThree$Givings", "firstSwap", "()I"⟩, 13) := ⟨⟨by decide +kernel, by decide +kernel⟩, List.mem_of_getElem? (i := 138) (by decide +kernel), List.mem_of_getElem? (i := 787) (by decide +kernel), List.mem_of_getElem? (i := 788) (by decide +kernel)⟩
theorem lw_p28 : lw_okq (⟨"DoorsForThree$Givings", "pleasesBoth", "(II)Z"⟩, 13) := ⟨⟨by decide +kernel, by decide +kernel⟩, List.mem_of_getElem? (i := 138) (by decide +kernel), List.mem_of_getElem? (i := 791) (by decide +kernel), List.mem_of_getElem? (i := 792) (by decide +kernel)⟩
theorem lw_p29 : lw_okq (⟨"DoorsForThree$Givings", "sumTried", "()V"⟩, 13) := ⟨⟨by decide +kernel, by decide +kernel⟩, List.mem_of_getElem? (i := 138) (by decide +kernel), List.mem_of_getElem? (i := 804) (by decide +kernel), List.mem_of_getElem? (i := 805) (by decide +kernel)⟩
theorem lw_p30 : lw_okq (⟨"DoorsForThree", "isShelf", "(I)Z"⟩, 10) := ⟨⟨by decide +kernel, by decide +kernel⟩, List.mem_of_getElem? (i := 26) (by decide +kernel), List.mem_of_getElem? (i := 876) (by decide +kernel), List.mem_of_getElem? (i := 877) (by decide +kernel)⟩
theorem lw_p31 : lw_okq (⟨"DoorsForThree$Signs", "hasReason", "(III)Z"⟩, 2) := ⟨⟨by decide +kernel, by decide +kernel⟩, List.mem_of_getElem? (i := 228) (by decide +kernel), List.mem_of_getElem? (i := 914) (by decide +kernel), List.mem_of_getElem? (i := 915) (by decide +kernel)⟩
def lw_privs_2 : List (MethodName × Nat) := [(⟨"DoorsForThree$Givings", "chosen", "(II[I)I"⟩, 13), (⟨"DoorsForThree$Givings", "mostWilling", "(I[I)I"⟩, 13), (⟨"DoorsForThree$Givings", "will", "(II[I)I"⟩, 13), (⟨"DoorsForThree", "isRuleAndChild", "(I)Z"⟩, 10), (⟨"DoorsForThree$Givings", "unfairOf", "([I)I"⟩, 13), (⟨"DoorsForThree$Givings", "worthTo", "(III)I"⟩, 13), (⟨"DoorsForThree$Fairest", "giveAllToFirst", "()V"⟩, 10), (⟨"DoorsForThree$Fairest", "howMany", "()I"⟩, 10), (⟨"DoorsForThree$Fairest", "weigh", "()V"⟩, 10), (⟨"DoorsForThree$Fairest", "goOn", "()V"⟩, 10), (⟨"DoorsForThree$Fairest", "handOver", "(II)V"⟩, 10), (⟨"DoorsForThree$Givings", "firstSwap", "()I"⟩, 13), (⟨"DoorsForThree$Givings", "pleasesBoth", "(II)Z"⟩, 13), (⟨"DoorsForThree$Givings", "sumTried", "()V"⟩, 13), (⟨"DoorsForThree", "isShelf", "(I)Z"⟩, 10), (⟨"DoorsForThree$Signs", "hasReason", "(III)Z"⟩, 2)]
theorem lw_r2 : ∀ q ∈ lw_privs_2, lw_okq q := List.forall_mem_cons.mpr ⟨lw_p16, List.forall_mem_cons.mpr ⟨lw_p17, List.forall_mem_cons.mpr ⟨lw_p18, List.forall_mem_cons.mpr ⟨lw_p19, List.forall_mem_cons.mpr ⟨lw_p20, List.forall_mem_cons.mpr ⟨lw_p21, List.forall_mem_cons.mpr ⟨lw_p22, List.forall_mem_cons.mpr ⟨lw_p23, List.forall_mem_cons.mpr ⟨lw_p24, List.forall_mem_cons.mpr ⟨lw_p25, List.forall_mem_cons.mpr ⟨lw_p26, List.forall_mem_cons.mpr ⟨lw_p27, List.forall_mem_cons.mpr ⟨lw_p28, List.forall_mem_cons.mpr ⟨lw_p29, List.forall_mem_cons.mpr ⟨lw_p30, List.forall_mem_cons.mpr ⟨lw_p31, fun _ h => absurd h List.not_mem_nil⟩⟩⟩⟩⟩⟩⟩⟩⟩⟩⟩⟩⟩⟩⟩⟩
theorem lw_p32 : lw_okq (⟨"DoorsForThree$Signs", "isSo", "(III)Z"⟩, 2) := ⟨⟨by decide +kernel, by decide +kernel⟩, List.mem_of_getElem? (i := 228) (by decide +kernel), List.mem_of_getElem? (i := 945) (by decide +kernel), List.mem_of_getElem? (i := 946) (by decide +kernel)⟩
theorem lw_p33 : lw_okq (⟨"DoorsForThree$Givings", "drawOne", "(I)I"⟩, 13) := ⟨⟨by decide +kernel, by decide +kernel⟩, List.mem_of_getElem? (i := 138) (by decide +kernel), List.mem_of_getElem? (i := 975) (by decide +kernel), List.mem_of_getElem? (i := 976) (by decide +kernel)⟩
theorem lw_p34 : lw_okq (⟨"DoorsForThree$Givings", "hasMost", "(I)Z"⟩, 13) := ⟨⟨by decide +kernel, by decide +kernel⟩, List.mem_of_getElem? (i := 138) (by decide +kernel), List.mem_of_getElem? (i := 981) (by decide +kernel), List.mem_of_getElem? (i := 982) (by decide +kernel)⟩
theorem lw_p35 : lw_okq (⟨"DoorsForThree$Shelf", "lowest", "(J)J"⟩, 5) := ⟨⟨by decide +kernel, by decide +kernel⟩, List.mem_of_getElem? (i := 312) (by decide +kernel), List.mem_of_getElem? (i := 1082) (by decide +kernel), List.mem_of_getElem? (i := 1083) (by decide +kernel)⟩
def lw_privs_3 : List (MethodName × Nat) := [(⟨"DoorsForThree$Signs", "isSo", "(III)Z"⟩, 2), (⟨"DoorsForThree$Givings", "drawOne", "(I)I"⟩, 13), (⟨"DoorsForThree$Givings", "hasMost", "(I)Z"⟩, 13), (⟨"DoorsForThree$Shelf", "lowest", "(J)J"⟩, 5)]
theorem lw_r3 : ∀ q ∈ lw_privs_3, lw_okq q := List.forall_mem_cons.mpr ⟨lw_p32, List.forall_mem_cons.mpr ⟨lw_p33, List.forall_mem_cons.mpr ⟨lw_p34, List.forall_mem_cons.mpr ⟨lw_p35, fun _ h => absurd h List.not_mem_nil⟩⟩⟩⟩
def lw_privs : List (MethodName × Nat) := lw_privs_1 ++ (lw_privs_2 ++ (lw_privs_3))
def lw_tbl : List Cond := k2_sels lw_privs ++ tables_1
theorem lw_privs_ok : ∀ q ∈ lw_privs, lw_okq q := by
  show ∀ q ∈ lw_privs_1 ++ (lw_privs_2 ++ (lw_privs_3)), lw_okq q
  exact List.forall_mem_append.mpr ⟨lw_r1, List.forall_mem_append.mpr ⟨lw_r2, lw_r3⟩⟩
end
section
/-! names: lines out of claim/NAMES.whole.lean.txt -/
def RX0 : String := "DoorsForThree$Calendar"
def TX0 : u_T := fun k => match k with
  | 0 => ("DoorsForThree$Calendar", "numbers", "[[I", true)
  | 1 => ("DoorsForThree$Calendar", "doors", "I", false)
  | 2 => ("DoorsForThree$Calendar", "children", "I", false)
  | _ => ("DoorsForThree$Calendar", "version", "I", false)
def tyX0 : Nat → FieldType := fun k => match k with
  | 0 => .array (.array .int)
  | 1 => .int
  | 2 => .int
  | _ => .int
abbrev wsX00 : List Cond := u_ws RX0 TX0 4
theorem nmX0 : ∀ a, a < 4 → ∀ b, b < 4 → a ≠ b → (TX0 a).2.1 ≠ (TX0 b).2.1 := by decide +kernel
theorem tyX0_ok : ∀ k, k < 4 → parseFieldDescriptor (TX0 k).2.2.1 = some (tyX0 k) := by decide +kernel
abbrev cX0_init : ByteArray := prog_2_method_1_code
def yX0_init : MethodName := ⟨RX0, "<init>", "()V"⟩
abbrev cX0_hasDoor : ByteArray := prog_2_method_2_code
def yX0_hasDoor : MethodName := ⟨RX0, "hasDoor", "(I)Z"⟩
abbrev cX0_hasChild : ByteArray := prog_2_method_3_code
def yX0_hasChild : MethodName := ⟨RX0, "hasChild", "(I)Z"⟩
abbrev cX0_has : ByteArray := prog_2_method_4_code
def yX0_has : MethodName := ⟨RX0, "has", "(II)Z"⟩
abbrev cX0_fits : ByteArray := prog_2_method_5_code
def yX0_fits : MethodName := ⟨RX0, "fits", "(II)Z"⟩
abbrev cX0_get : ByteArray := prog_2_method_6_code
def yX0_get : MethodName := ⟨RX0, "get", "(II)I"⟩
abbrev cX0_set : ByteArray := prog_2_method_7_code
def yX0_set : MethodName := ⟨RX0, "set", "(III)V"⟩
abbrev cX0_addDoor : ByteArray := prog_2_method_8_code
def yX0_addDoor : MethodName := ⟨RX0, "addDoor", "(III)Z"⟩
abbrev cX0_addChild : ByteArray := prog_2_method_9_code
def yX0_addChild : MethodName := ⟨RX0, "addChild", "(II)Z"⟩
abbrev cX0_isAway : ByteArray := prog_2_method_10_code
def yX0_isAway : MethodName := ⟨RX0, "isAway", "(II)Z"⟩
abbrev cX0_late : ByteArray := prog_2_method_11_code
def yX0_late : MethodName := ⟨RX0, "late", "(II)I"⟩
abbrev cX0_doorsAway : ByteArray := prog_2_method_12_code
def yX0_doorsAway : MethodName := ⟨RX0, "doorsAway", "(I)I"⟩
abbrev cX0_holdsOutTill : ByteArray := prog_2_method_13_code
def yX0_holdsOutTill : MethodName := ⟨RX0, "holdsOutTill", "(I)I"⟩
def RX1 : String := "DoorsForThree$Changes"
def TX1 : u_T := fun k => match k with
  | 0 => ("DoorsForThree$Changes", "kept", "[I", true)
  | 1 => ("DoorsForThree$Changes", "done", "I", false)
  | _ => ("DoorsForThree$Changes", "undone", "I", false)
def tyX1 : Nat → FieldType := fun k => match k with
  | 0 => .array .int
  | 1 => .int
  | _ => .int
abbrev wsX10 : List Cond := u_ws RX1 TX1 3
theorem nmX1 : ∀ a, a < 3 → ∀ b, b < 3 → a ≠ b → (TX1 a).2.1 ≠ (TX1 b).2.1 := by decide +kernel
theorem tyX1_ok : ∀ k, k < 3 → parseFieldDescriptor (TX1 k).2.2.1 = some (tyX1 k) := by decide +kernel
abbrev cX1_init : ByteArray := prog_3_method_1_code
def yX1_init : MethodName := ⟨RX1, "<init>", "()V"⟩
abbrev cX1_keepChange : ByteArray := prog_3_method_2_code
def yX1_keepChange : MethodName := ⟨RX1, "keepChange", "(IIII)V"⟩
abbrev cX1_takeBack : ByteArray := prog_3_method_3_code
def yX1_takeBack : MethodName := ⟨RX1, "takeBack", "(LDoorsForThree$Calendar;)Z"⟩
def RX2 : String := "DoorsForThree$Deeds"
def TX2 : u_T := fun k => match k with
  | 0 => ("DoorsForThree$Deeds", "calendar", "LDoorsForThree$Calendar;", true)
  | 1 => ("DoorsForThree$Deeds", "openers", "[I", true)
  | 2 => ("DoorsForThree$Deeds", "today", "I", false)
  | 3 => ("DoorsForThree$Deeds", "opened", "I", false)
  | 4 => ("DoorsForThree$Deeds", "early", "I", false)
  | 5 => ("DoorsForThree$Deeds", "worth", "I", false)
  | 6 => ("DoorsForThree$Deeds", "hasImage", "Z", false)
  | 7 => ("DoorsForThree$Deeds", "imageOpeners", "[I", true)
  | 8 => ("DoorsForThree$Deeds", "imageToday", "I", false)
  | 9 => ("DoorsForThree$Deeds", "imageOpened", "I", false)
  | 10 => ("DoorsForThree$Deeds", "imageEarly", "I", false)
  | _ => ("DoorsForThree$Deeds", "imageWorth", "I", false)
def tyX2 : Nat → FieldType := fun k => match k with
  | 0 => .object "DoorsForThree$Calendar"
  | 1 => .array .int
  | 2 => .int
  | 3 => .int
  | 4 => .int
  | 5 => .int
  | 6 => .boolean
  | 7 => .array .int
  | 8 => .int
  | 9 => .int
  | 10 => .int
  | _ => .int
abbrev wsX20 : List Cond := u_ws RX2 TX2 12
theorem nmX2 : ∀ a, a < 12 → ∀ b, b < 12 → a ≠ b → (TX2 a).2.1 ≠ (TX2 b).2.1 := by decide +kernel
theorem tyX2_ok : ∀ k, k < 12 → parseFieldDescriptor (TX2 k).2.2.1 = some (tyX2 k) := by decide +kernel
abbrev cX2_init : ByteArray := prog_4_method_1_code
def yX2_init : MethodName := ⟨RX2, "<init>", "(LDoorsForThree$Calendar;)V"⟩
abbrev cX2_opener : ByteArray := prog_4_method_2_code
def yX2_opener : MethodName := ⟨RX2, "opener", "(I)I"⟩
abbrev cX2_dayPasses : ByteArray := prog_4_method_3_code
def yX2_dayPasses : MethodName := ⟨RX2, "dayPasses", "()Z"⟩
abbrev cX2_lateFor : ByteArray := prog_4_method_4_code
def yX2_lateFor : MethodName := ⟨RX2, "lateFor", "(I)I"⟩
abbrev cX2_openDoor : ByteArray := prog_4_method_5_code
def yX2_openDoor : MethodName := ⟨RX2, "openDoor", "(III)V"⟩
abbrev cX2_closedBehind : ByteArray := prog_4_method_6_code
def yX2_closedBehind : MethodName := ⟨RX2, "closedBehind", "()I"⟩
abbrev cX2_keepImage : ByteArray := prog_4_method_7_code
def yX2_keepImage : MethodName := ⟨RX2, "keepImage", "()V"⟩
abbrev cX2_layBack : ByteArray := prog_4_method_8_code
def yX2_layBack : MethodName := ⟨RX2, "layBack", "()Z"⟩
def RX3 : String := "DoorsForThree$Fairest"
def TX3 : u_T := fun k => match k with
  | 0 => ("DoorsForThree$Fairest", "calendar", "LDoorsForThree$Calendar;", true)
  | 1 => ("DoorsForThree$Fairest", "givings", "LDoorsForThree$Givings;", true)
  | 2 => ("DoorsForThree$Fairest", "seenVersion", "I", false)
  | 3 => ("DoorsForThree$Fairest", "eaten", "[[I", true)
  | 4 => ("DoorsForThree$Fairest", "whose", "[I", true)
  | 5 => ("DoorsForThree$Fairest", "fairest", "[I", true)
  | 6 => ("DoorsForThree$Fairest", "held", "[[I", true)
  | 7 => ("DoorsForThree$Fairest", "unfair", "I", false)
  | 8 => ("DoorsForThree$Fairest", "together", "I", false)
  | _ => ("DoorsForThree$Fairest", "withoutEnvy", "I", false)
def tyX3 : Nat → FieldType := fun k => match k with
  | 0 => .object "DoorsForThree$Calendar"
  | 1 => .object "DoorsForThree$Givings"
  | 2 => .int
  | 3 => .array (.array .int)
  | 4 => .array .int
  | 5 => .array .int
  | 6 => .array (.array .int)
  | 7 => .int
  | 8 => .int
  | _ => .int
abbrev wsX30 : List Cond := u_ws RX3 TX3 10
theorem nmX3 : ∀ a, a < 10 → ∀ b, b < 10 → a ≠ b → (TX3 a).2.1 ≠ (TX3 b).2.1 := by decide +kernel
theorem tyX3_ok : ∀ k, k < 10 → parseFieldDescriptor (TX3 k).2.2.1 = some (tyX3 k) := by decide +kernel
abbrev cX3_init : ByteArray := prog_5_method_1_code
def yX3_init : MethodName := ⟨RX3, "<init>", "(LDoorsForThree$Calendar;LDoorsForThree$Givings;)V"⟩
abbrev cX3_isTooWide : ByteArray := prog_5_method_2_code
def yX3_isTooWide : MethodName := ⟨RX3, "isTooWide", "()Z"⟩
abbrev cX3_owner : ByteArray := prog_5_method_3_code
def yX3_owner : MethodName := ⟨RX3, "owner", "(I)I"⟩
abbrev cX3_findOut : ByteArray := prog_5_method_4_code
def yX3_findOut : MethodName := ⟨RX3, "findOut", "()V"⟩
abbrev cX3_howMany : ByteArray := prog_5_method_5_code
def yX3_howMany : MethodName := ⟨RX3, "howMany", "()I"⟩
abbrev cX3_giveAllToFirst : ByteArray := prog_5_method_6_code
def yX3_giveAllToFirst : MethodName := ⟨RX3, "giveAllToFirst", "()V"⟩
abbrev cX3_weigh : ByteArray := prog_5_method_7_code
def yX3_weigh : MethodName := ⟨RX3, "weigh", "()V"⟩
abbrev cX3_goOn : ByteArray := prog_5_method_8_code
def yX3_goOn : MethodName := ⟨RX3, "goOn", "()V"⟩
abbrev cX3_handOver : ByteArray := prog_5_method_9_code
def yX3_handOver : MethodName := ⟨RX3, "handOver", "(II)V"⟩
def RX4 : String := "DoorsForThree$Givings"
def TX4 : u_T := fun k => match k with
  | 0 => ("DoorsForThree$Givings", "calendar", "LDoorsForThree$Calendar;", true)
  | 1 => ("DoorsForThree$Givings", "worths", "LDoorsForThree$Worths;", true)
  | 2 => ("DoorsForThree$Givings", "seenVersion", "I", false)
  | 3 => ("DoorsForThree$Givings", "byDay", "[I", true)
  | 4 => ("DoorsForThree$Givings", "byAge", "[I", true)
  | 5 => ("DoorsForThree$Givings", "eaten", "[[I", true)
  | 6 => ("DoorsForThree$Givings", "given", "[[I", true)
  | 7 => ("DoorsForThree$Givings", "sums", "[[I", true)
  | 8 => ("DoorsForThree$Givings", "offered", "[I", true)
  | 9 => ("DoorsForThree$Givings", "tried", "[I", true)
  | 10 => ("DoorsForThree$Givings", "triedSums", "[I", true)
  | 11 => ("DoorsForThree$Givings", "mine", "[I", true)
  | _ => ("DoorsForThree$Givings", "mineMany", "I", false)
def tyX4 : Nat → FieldType := fun k => match k with
  | 0 => .object "DoorsForThree$Calendar"
  | 1 => .object "DoorsForThree$Worths"
  | 2 => .int
  | 3 => .array .int
  | 4 => .array .int
  | 5 => .array (.array .int)
  | 6 => .array (.array .int)
  | 7 => .array (.array .int)
  | 8 => .array .int
  | 9 => .array .int
  | 10 => .array .int
  | 11 => .array .int
  | _ => .int
abbrev wsX40 : List Cond := u_ws RX4 TX4 13
theorem nmX4 : ∀ a, a < 13 → ∀ b, b < 13 → a ≠ b → (TX4 a).2.1 ≠ (TX4 b).2.1 := by decide +kernel
theorem tyX4_ok : ∀ k, k < 13 → parseFieldDescriptor (TX4 k).2.2.1 = some (tyX4 k) := by decide +kernel
abbrev cX4_init : ByteArray := prog_6_method_1_code
def yX4_init : MethodName := ⟨RX4, "<init>", "(LDoorsForThree$Calendar;LDoorsForThree$Worths;)V"⟩
abbrev cX4_freshen : ByteArray := prog_6_method_2_code
def yX4_freshen : MethodName := ⟨RX4, "freshen", "()V"⟩
abbrev cX4_orderDoors : ByteArray := prog_6_method_3_code
def yX4_orderDoors : MethodName := ⟨RX4, "orderDoors", "()V"⟩
abbrev cX4_orderChildren : ByteArray := prog_6_method_4_code
def yX4_orderChildren : MethodName := ⟨RX4, "orderChildren", "()V"⟩
abbrev cX4_giveBy : ByteArray := prog_6_method_5_code
def yX4_giveBy : MethodName := ⟨RX4, "giveBy", "(I)V"⟩
abbrev cX4_giveOffered : ByteArray := prog_6_method_6_code
def yX4_giveOffered : MethodName := ⟨RX4, "giveOffered", "(II[I)I"⟩
abbrev cX4_chosen : ByteArray := prog_6_method_7_code
def yX4_chosen : MethodName := ⟨RX4, "chosen", "(II[I)I"⟩
abbrev cX4_mostWilling : ByteArray := prog_6_method_8_code
def yX4_mostWilling : MethodName := ⟨RX4, "mostWilling", "(I[I)I"⟩
abbrev cX4_will : ByteArray := prog_6_method_9_code
def yX4_will : MethodName := ⟨RX4, "will", "(II[I)I"⟩
abbrev cX4_owner : ByteArray := prog_6_method_10_code
def yX4_owner : MethodName := ⟨RX4, "owner", "(II)I"⟩
abbrev cX4_sumOf : ByteArray := prog_6_method_11_code
def yX4_sumOf : MethodName := ⟨RX4, "sumOf", "(II)I"⟩
abbrev cX4_unfairBy : ByteArray := prog_6_method_12_code
def yX4_unfairBy : MethodName := ⟨RX4, "unfairBy", "(I)I"⟩
abbrev cX4_triedUnfair : ByteArray := prog_6_method_13_code
def yX4_triedUnfair : MethodName := ⟨RX4, "triedUnfair", "()I"⟩
abbrev cX4_triedSum : ByteArray := prog_6_method_14_code
def yX4_triedSum : MethodName := ⟨RX4, "triedSum", "(I)I"⟩
abbrev cX4_unfairOf : ByteArray := prog_6_method_15_code
def yX4_unfairOf : MethodName := ⟨RX4, "unfairOf", "([I)I"⟩
abbrev cX4_togetherBy : ByteArray := prog_6_method_16_code
def yX4_togetherBy : MethodName := ⟨RX4, "togetherBy", "(I)I"⟩
abbrev cX4_envyBy : ByteArray := prog_6_method_17_code
def yX4_envyBy : MethodName := ⟨RX4, "envyBy", "(I)I"⟩
abbrev cX4_worthTo : ByteArray := prog_6_method_18_code
def yX4_worthTo : MethodName := ⟨RX4, "worthTo", "(III)I"⟩
abbrev cX4_leastUnfairRule : ByteArray := prog_6_method_19_code
def yX4_leastUnfairRule : MethodName := ⟨RX4, "leastUnfairRule", "()I"⟩
abbrev cX4_firstSwapBy : ByteArray := prog_6_method_20_code
def yX4_firstSwapBy : MethodName := ⟨RX4, "firstSwapBy", "(I)I"⟩
abbrev cX4_firstSwap : ByteArray := prog_6_method_21_code
def yX4_firstSwap : MethodName := ⟨RX4, "firstSwap", "()I"⟩
abbrev cX4_pleasesBoth : ByteArray := prog_6_method_22_code
def yX4_pleasesBoth : MethodName := ⟨RX4, "pleasesBoth", "(II)Z"⟩
abbrev cX4_swapAll : ByteArray := prog_6_method_23_code
def yX4_swapAll : MethodName := ⟨RX4, "swapAll", "(I)I"⟩
abbrev cX4_sumTried : ByteArray := prog_6_method_24_code
def yX4_sumTried : MethodName := ⟨RX4, "sumTried", "()V"⟩
abbrev cX4_divideBig : ByteArray := prog_6_method_25_code
def yX4_divideBig : MethodName := ⟨RX4, "divideBig", "(I)V"⟩
abbrev cX4_neverEaten : ByteArray := prog_6_method_26_code
def yX4_neverEaten : MethodName := ⟨RX4, "neverEaten", "(II)I"⟩
abbrev cX4_daysLate : ByteArray := prog_6_method_27_code
def yX4_daysLate : MethodName := ⟨RX4, "daysLate", "(II)I"⟩
abbrev cX4_ownAfter : ByteArray := prog_6_method_28_code
def yX4_ownAfter : MethodName := ⟨RX4, "ownAfter", "(III)I"⟩
abbrev cX4_takeMine : ByteArray := prog_6_method_29_code
def yX4_takeMine : MethodName := ⟨RX4, "takeMine", "(II)V"⟩
abbrev cX4_gathered : ByteArray := prog_6_method_30_code
def yX4_gathered : MethodName := ⟨RX4, "gathered", "(II)I"⟩
abbrev cX4_bestGathering : ByteArray := prog_6_method_31_code
def yX4_bestGathering : MethodName := ⟨RX4, "bestGathering", "(I)I"⟩
abbrev cX4_giveTwice : ByteArray := prog_6_method_32_code
def yX4_giveTwice : MethodName := ⟨RX4, "giveTwice", "(II)V"⟩
abbrev cX4_bestPair : ByteArray := prog_6_method_33_code
def yX4_bestPair : MethodName := ⟨RX4, "bestPair", "(I)I"⟩
abbrev cX4_gainOf : ByteArray := prog_6_method_34_code
def yX4_gainOf : MethodName := ⟨RX4, "gainOf", "(III)I"⟩
abbrev cX4_drawDecembers : ByteArray := prog_6_method_35_code
def yX4_drawDecembers : MethodName := ⟨RX4, "drawDecembers", "(III)I"⟩
abbrev cX4_drawOne : ByteArray := prog_6_method_36_code
def yX4_drawOne : MethodName := ⟨RX4, "drawOne", "(I)I"⟩
abbrev cX4_hasMost : ByteArray := prog_6_method_37_code
def yX4_hasMost : MethodName := ⟨RX4, "hasMost", "(I)Z"⟩
def RX5 : String := "DoorsForThree$Law"
def TX5 : u_T := fun k => match k with
  | 0 => ("DoorsForThree$Law", "tape", "[I", true)
  | 1 => ("DoorsForThree$Law", "letters", "I", false)
  | 2 => ("DoorsForThree$Law", "at", "I", false)
  | 3 => ("DoorsForThree$Law", "draft", "[I", true)
  | 4 => ("DoorsForThree$Law", "drafted", "I", false)
  | 5 => ("DoorsForThree$Law", "steps", "[I", true)
  | 6 => ("DoorsForThree$Law", "kept", "I", false)
  | 7 => ("DoorsForThree$Law", "version", "I", false)
  | 8 => ("DoorsForThree$Law", "stack", "[I", true)
  | _ => ("DoorsForThree$Law", "top", "I", false)
def tyX5 : Nat → FieldType := fun k => match k with
  | 0 => .array .int
  | 1 => .int
  | 2 => .int
  | 3 => .array .int
  | 4 => .int
  | 5 => .array .int
  | 6 => .int
  | 7 => .int
  | 8 => .array .int
  | _ => .int
abbrev wsX50 : List Cond := u_ws RX5 TX5 10
theorem nmX5 : ∀ a, a < 10 → ∀ b, b < 10 → a ≠ b → (TX5 a).2.1 ≠ (TX5 b).2.1 := by decide +kernel
theorem tyX5_ok : ∀ k, k < 10 → parseFieldDescriptor (TX5 k).2.2.1 = some (tyX5 k) := by decide +kernel
abbrev cX5_init : ByteArray := prog_7_method_1_code
def yX5_init : MethodName := ⟨RX5, "<init>", "()V"⟩
abbrev cX5_takeLetter : ByteArray := prog_7_method_2_code
def yX5_takeLetter : MethodName := ⟨RX5, "takeLetter", "(I)Z"⟩
abbrev cX5_becomeLaw : ByteArray := prog_7_method_3_code
def yX5_becomeLaw : MethodName := ⟨RX5, "becomeLaw", "()I"⟩
abbrev cX5_stands : ByteArray := prog_7_method_4_code
def yX5_stands : MethodName := ⟨RX5, "stands", "()Z"⟩
abbrev cX5_readLines : ByteArray := prog_7_method_5_code
def yX5_readLines : MethodName := ⟨RX5, "readLines", "()Z"⟩
abbrev cX5_readLine : ByteArray := prog_7_method_6_code
def yX5_readLine : MethodName := ⟨RX5, "readLine", "()Z"⟩
abbrev cX5_readLevel : ByteArray := prog_7_method_7_code
def yX5_readLevel : MethodName := ⟨RX5, "readLevel", "(II)Z"⟩
abbrev cX5_signsOf : ByteArray := prog_7_method_8_code
def yX5_signsOf : MethodName := ⟨RX5, "signsOf", "(I)Ljava/lang/String;"⟩
abbrev cX5_readOperand : ByteArray := prog_7_method_9_code
def yX5_readOperand : MethodName := ⟨RX5, "readOperand", "(I)Z"⟩
abbrev cX5_readNumber : ByteArray := prog_7_method_10_code
def yX5_readNumber : MethodName := ⟨RX5, "readNumber", "()V"⟩
abbrev cX5_isDigitNext : ByteArray := prog_7_method_11_code
def yX5_isDigitNext : MethodName := ⟨RX5, "isDigitNext", "()Z"⟩
abbrev cX5_pass : ByteArray := prog_7_method_12_code
def yX5_pass : MethodName := ⟨RX5, "pass", "(Ljava/lang/String;)I"⟩
abbrev cX5_draftStep : ByteArray := prog_7_method_13_code
def yX5_draftStep : MethodName := ⟨RX5, "draftStep", "(I)V"⟩
abbrev cX5_workOut : ByteArray := prog_7_method_14_code
def yX5_workOut : MethodName := ⟨RX5, "workOut", "([I)I"⟩
abbrev cX5_takeStep : ByteArray := prog_7_method_15_code
def yX5_takeStep : MethodName := ⟨RX5, "takeStep", "(I[I)V"⟩
abbrev cX5_joined : ByteArray := prog_7_method_16_code
def yX5_joined : MethodName := ⟨RX5, "joined", "(III)I"⟩
abbrev cX5_push : ByteArray := prog_7_method_17_code
def yX5_push : MethodName := ⟨RX5, "push", "(I)V"⟩
abbrev cX5_pop : ByteArray := prog_7_method_18_code
def yX5_pop : MethodName := ⟨RX5, "pop", "()I"⟩
def RX6 : String := "DoorsForThree$Pictures"
def TX6 : u_T := fun k => match k with
  | 0 => ("DoorsForThree$Pictures", "kinds", "[I", true)
  | 1 => ("DoorsForThree$Pictures", "bodies", "I", false)
  | 2 => ("DoorsForThree$Pictures", "trace", "[I", true)
  | _ => ("DoorsForThree$Pictures", "ran", "I", false)
def tyX6 : Nat → FieldType := fun k => match k with
  | 0 => .array .int
  | 1 => .int
  | 2 => .array .int
  | _ => .int
abbrev wsX60 : List Cond := u_ws RX6 TX6 4
theorem nmX6 : ∀ a, a < 4 → ∀ b, b < 4 → a ≠ b → (TX6 a).2.1 ≠ (TX6 b).2.1 := by decide +kernel
theorem tyX6_ok : ∀ k, k < 4 → parseFieldDescriptor (TX6 k).2.2.1 = some (tyX6 k) := by decide +kernel
abbrev cX6_init : ByteArray := prog_8_method_1_code
def yX6_init : MethodName := ⟨RX6, "<init>", "()V"⟩
abbrev cX6_isKind : ByteArray := prog_8_method_2_code
def yX6_isKind : MethodName := ⟨RX6, "isKind", "(I)Z"⟩
abbrev cX6_addBody : ByteArray := prog_8_method_4_code
def yX6_addBody : MethodName := ⟨RX6, "addBody", "(I)Z"⟩
def RX7 : String := "DoorsForThree$Shelf"
def TX7 : u_T := fun k => match k with
  | 0 => ("DoorsForThree$Shelf", "holds", "I", false)
  | 1 => ("DoorsForThree$Shelf", "body", "I", false)
  | 2 => ("DoorsForThree$Shelf", "sort", "I", false)
  | 3 => ("DoorsForThree$Shelf", "length", "I", false)
  | _ => ("DoorsForThree$Shelf", "cells", "[J", true)
def tyX7 : Nat → FieldType := fun k => match k with
  | 0 => .int
  | 1 => .int
  | 2 => .int
  | 3 => .int
  | _ => .array .long
abbrev wsX70 : List Cond := u_ws RX7 TX7 5
theorem nmX7 : ∀ a, a < 5 → ∀ b, b < 5 → a ≠ b → (TX7 a).2.1 ≠ (TX7 b).2.1 := by decide +kernel
theorem tyX7_ok : ∀ k, k < 5 → parseFieldDescriptor (TX7 k).2.2.1 = some (tyX7 k) := by decide +kernel
abbrev cX7_init : ByteArray := prog_9_method_1_code
def yX7_init : MethodName := ⟨RX7, "<init>", "()V"⟩
abbrev cX7_holdRow : ByteArray := prog_9_method_4_code
def yX7_holdRow : MethodName := ⟨RX7, "holdRow", "(II)V"⟩
abbrev cX7_refusesRow : ByteArray := prog_9_method_5_code
def yX7_refusesRow : MethodName := ⟨RX7, "refusesRow", "()I"⟩
abbrev cX7_refusesBytes : ByteArray := prog_9_method_6_code
def yX7_refusesBytes : MethodName := ⟨RX7, "refusesBytes", "()I"⟩
abbrev cX7_hasPlace : ByteArray := prog_9_method_7_code
def yX7_hasPlace : MethodName := ⟨RX7, "hasPlace", "(I)Z"⟩
abbrev cX7_at : ByteArray := prog_9_method_9_code
def yX7_at : MethodName := ⟨RX7, "at", "(I)J"⟩
abbrev cX7_putIn : ByteArray := prog_9_method_10_code
def yX7_putIn : MethodName := ⟨RX7, "putIn", "(IJ)Z"⟩
abbrev cX7_lowest : ByteArray := prog_9_method_11_code
def yX7_lowest : MethodName := ⟨RX7, "lowest", "(J)J"⟩
def RX8 : String := "DoorsForThree$Signs"
def TX8 : u_T := fun k => match k with
  | 0 => ("DoorsForThree$Signs", "calendar", "LDoorsForThree$Calendar;", true)
  | _ => ("DoorsForThree$Signs", "givings", "LDoorsForThree$Givings;", true)
def tyX8 : Nat → FieldType := fun k => match k with
  | 0 => .object "DoorsForThree$Calendar"
  | _ => .object "DoorsForThree$Givings"
abbrev wsX80 : List Cond := u_ws RX8 TX8 2
theorem nmX8 : ∀ a, a < 2 → ∀ b, b < 2 → a ≠ b → (TX8 a).2.1 ≠ (TX8 b).2.1 := by decide +kernel
theorem tyX8_ok : ∀ k, k < 2 → parseFieldDescriptor (TX8 k).2.2.1 = some (tyX8 k) := by decide +kernel
abbrev cX8_init : ByteArray := prog_10_method_1_code
def yX8_init : MethodName := ⟨RX8, "<init>", "(LDoorsForThree$Calendar;LDoorsForThree$Givings;)V"⟩
abbrev cX8_earlyOnes : ByteArray := prog_10_method_2_code
def yX8_earlyOnes : MethodName := ⟨RX8, "earlyOnes", "(LDoorsForThree$Shelf;I)I"⟩
abbrev cX8_couldHaveBeen : ByteArray := prog_10_method_3_code
def yX8_couldHaveBeen : MethodName := ⟨RX8, "couldHaveBeen", "(LDoorsForThree$Shelf;II)I"⟩
abbrev cX8_hasReason : ByteArray := prog_10_method_4_code
def yX8_hasReason : MethodName := ⟨RX8, "hasReason", "(III)Z"⟩
abbrev cX8_onlyOne : ByteArray := prog_10_method_5_code
def yX8_onlyOne : MethodName := ⟨RX8, "onlyOne", "(I)I"⟩
abbrev cX8_bestGuard : ByteArray := prog_10_method_6_code
def yX8_bestGuard : MethodName := ⟨RX8, "bestGuard", "(I)I"⟩
abbrev cX8_leftBy : ByteArray := prog_10_method_7_code
def yX8_leftBy : MethodName := ⟨RX8, "leftBy", "(II)I"⟩
abbrev cX8_firstNotSo : ByteArray := prog_10_method_8_code
def yX8_firstNotSo : MethodName := ⟨RX8, "firstNotSo", "(LDoorsForThree$Shelf;I)I"⟩
abbrev cX8_isSo : ByteArray := prog_10_method_9_code
def yX8_isSo : MethodName := ⟨RX8, "isSo", "(III)Z"⟩
def RX9 : String := "DoorsForThree$Worths"
def TX9 : u_T := fun k => match k with
  | 0 => ("DoorsForThree$Worths", "calendar", "LDoorsForThree$Calendar;", true)
  | 1 => ("DoorsForThree$Worths", "law", "LDoorsForThree$Law;", true)
  | _ => ("DoorsForThree$Worths", "named", "[I", true)
def tyX9 : Nat → FieldType := fun k => match k with
  | 0 => .object "DoorsForThree$Calendar"
  | 1 => .object "DoorsForThree$Law"
  | _ => .array .int
abbrev wsX90 : List Cond := u_ws RX9 TX9 3
theorem nmX9 : ∀ a, a < 3 → ∀ b, b < 3 → a ≠ b → (TX9 a).2.1 ≠ (TX9 b).2.1 := by decide +kernel
theorem tyX9_ok : ∀ k, k < 3 → parseFieldDescriptor (TX9 k).2.2.1 = some (tyX9 k) := by decide +kernel
abbrev cX9_init : ByteArray := prog_11_method_1_code
def yX9_init : MethodName := ⟨RX9, "<init>", "(LDoorsForThree$Calendar;LDoorsForThree$Law;)V"⟩
abbrev cX9_version : ByteArray := prog_11_method_2_code
def yX9_version : MethodName := ⟨RX9, "version", "()I"⟩
abbrev cX9_worthLate : ByteArray := prog_11_method_3_code
def yX9_worthLate : MethodName := ⟨RX9, "worthLate", "(IIII)I"⟩
abbrev cX9_worthEaten : ByteArray := prog_11_method_4_code
def yX9_worthEaten : MethodName := ⟨RX9, "worthEaten", "(III)I"⟩
def RX10 : String := "DoorsForThree"
def TX10 : u_T := fun k => match k with
  | 0 => ("DoorsForThree", "calendar", "LDoorsForThree$Calendar;", true)
  | 1 => ("DoorsForThree", "changes", "LDoorsForThree$Changes;", true)
  | 2 => ("DoorsForThree", "tape", "LDoorsForThree$Law;", true)
  | 3 => ("DoorsForThree", "worths", "LDoorsForThree$Worths;", true)
  | 4 => ("DoorsForThree", "givings", "LDoorsForThree$Givings;", true)
  | 5 => ("DoorsForThree", "search", "LDoorsForThree$Fairest;", true)
  | 6 => ("DoorsForThree", "signs", "LDoorsForThree$Signs;", true)
  | 7 => ("DoorsForThree", "deeds", "LDoorsForThree$Deeds;", true)
  | 8 => ("DoorsForThree", "pictures", "LDoorsForThree$Pictures;", true)
  | _ => ("DoorsForThree", "shelves", "[LDoorsForThree$Shelf;", true)
def tyX10 : Nat → FieldType := fun k => match k with
  | 0 => .object "DoorsForThree$Calendar"
  | 1 => .object "DoorsForThree$Changes"
  | 2 => .object "DoorsForThree$Law"
  | 3 => .object "DoorsForThree$Worths"
  | 4 => .object "DoorsForThree$Givings"
  | 5 => .object "DoorsForThree$Fairest"
  | 6 => .object "DoorsForThree$Signs"
  | 7 => .object "DoorsForThree$Deeds"
  | 8 => .object "DoorsForThree$Pictures"
  | _ => .array (.object "DoorsForThree$Shelf")
abbrev wsX100 : List Cond := u_ws RX10 TX10 10
theorem nmX10 : ∀ a, a < 10 → ∀ b, b < 10 → a ≠ b → (TX10 a).2.1 ≠ (TX10 b).2.1 := by decide +kernel
theorem tyX10_ok : ∀ k, k < 10 → parseFieldDescriptor (TX10 k).2.2.1 = some (tyX10 k) := by decide +kernel
abbrev cX10_init : ByteArray := prog_1_method_1_code
def yX10_init : MethodName := ⟨RX10, "<init>", "()V"⟩
abbrev cX10_door : ByteArray := prog_1_method_2_code
def yX10_door : MethodName := ⟨RX10, "door", "(II)I"⟩
abbrev cX10_child : ByteArray := prog_1_method_4_code
def yX10_child : MethodName := ⟨RX10, "child", "(II)I"⟩
abbrev cX10_mend : ByteArray := prog_1_method_5_code
def yX10_mend : MethodName := ⟨RX10, "mend", "(III)I"⟩
abbrev cX10_of : ByteArray := prog_1_method_6_code
def yX10_of : MethodName := ⟨RX10, "of", "(II)I"⟩
abbrev cX10_feed : ByteArray := prog_1_method_7_code
def yX10_feed : MethodName := ⟨RX10, "feed", "(I)I"⟩
abbrev cX10_law : ByteArray := prog_1_method_8_code
def yX10_law : MethodName := ⟨RX10, "law", "()I"⟩
abbrev cX10_worth : ByteArray := prog_1_method_9_code
def yX10_worth : MethodName := ⟨RX10, "worth", "(II)I"⟩
abbrev cX10_whose : ByteArray := prog_1_method_10_code
def yX10_whose : MethodName := ⟨RX10, "whose", "(I)I"⟩
abbrev cX10_all : ByteArray := prog_1_method_11_code
def yX10_all : MethodName := ⟨RX10, "all", "(I)I"⟩
abbrev cX10_giving : ByteArray := prog_1_method_12_code
def yX10_giving : MethodName := ⟨RX10, "giving", "(II)I"⟩
abbrev cX10_bestRule : ByteArray := prog_1_method_13_code
def yX10_bestRule : MethodName := ⟨RX10, "bestRule", "(I)I"⟩
abbrev cX10_fairest : ByteArray := prog_1_method_14_code
def yX10_fairest : MethodName := ⟨RX10, "fairest", "(I)I"⟩
abbrev cX10_envyFree : ByteArray := prog_1_method_15_code
def yX10_envyFree : MethodName := ⟨RX10, "envyFree", "()I"⟩
abbrev cX10_swap : ByteArray := prog_1_method_16_code
def yX10_swap : MethodName := ⟨RX10, "swap", "(I)I"⟩
abbrev cX10_swaps : ByteArray := prog_1_method_17_code
def yX10_swaps : MethodName := ⟨RX10, "swaps", "(II)I"⟩
abbrev cX10_big : ByteArray := prog_1_method_18_code
def yX10_big : MethodName := ⟨RX10, "big", "(II)I"⟩
abbrev cX10_away : ByteArray := prog_1_method_19_code
def yX10_away : MethodName := ⟨RX10, "away", "(II)I"⟩
abbrev cX10_gather : ByteArray := prog_1_method_20_code
def yX10_gather : MethodName := ⟨RX10, "gather", "(II)I"⟩
abbrev cX10_waits : ByteArray := prog_1_method_21_code
def yX10_waits : MethodName := ⟨RX10, "waits", "(II)I"⟩
abbrev cX10_atFive : ByteArray := prog_1_method_22_code
def yX10_atFive : MethodName := ⟨RX10, "atFive", "(IIII)I"⟩
abbrev cX10_guard : ByteArray := prog_1_method_23_code
def yX10_guard : MethodName := ⟨RX10, "guard", "(IIII)I"⟩
abbrev cX10_judge : ByteArray := prog_1_method_24_code
def yX10_judge : MethodName := ⟨RX10, "judge", "(II)I"⟩
abbrev cX10_byWhat : ByteArray := prog_1_method_25_code
def yX10_byWhat : MethodName := ⟨RX10, "byWhat", "(I)I"⟩
abbrev cX10_second : ByteArray := prog_1_method_26_code
def yX10_second : MethodName := ⟨RX10, "second", "(II)I"⟩
abbrev cX10_pairs : ByteArray := prog_1_method_27_code
def yX10_pairs : MethodName := ⟨RX10, "pairs", "(II)I"⟩
abbrev cX10_drawn : ByteArray := prog_1_method_28_code
def yX10_drawn : MethodName := ⟨RX10, "drawn", "(III)I"⟩
abbrev cX10_day : ByteArray := prog_1_method_29_code
def yX10_day : MethodName := ⟨RX10, "day", "()I"⟩
abbrev cX10_open : ByteArray := prog_1_method_30_code
def yX10_open : MethodName := ⟨RX10, "open", "(II)I"⟩
abbrev cX10_forgotten : ByteArray := prog_1_method_31_code
def yX10_forgotten : MethodName := ⟨RX10, "forgotten", "()I"⟩
abbrev cX10_led : ByteArray := prog_1_method_32_code
def yX10_led : MethodName := ⟨RX10, "led", "(I)I"⟩
abbrev cX10_image : ByteArray := prog_1_method_33_code
def yX10_image : MethodName := ⟨RX10, "image", "()I"⟩
abbrev cX10_back : ByteArray := prog_1_method_34_code
def yX10_back : MethodName := ⟨RX10, "back", "()I"⟩
abbrev cX10_undo : ByteArray := prog_1_method_35_code
def yX10_undo : MethodName := ⟨RX10, "undo", "()I"⟩
abbrev cX10_body : ByteArray := prog_1_method_37_code
def yX10_body : MethodName := ⟨RX10, "body", "(I)I"⟩
abbrev cX10_row : ByteArray := prog_1_method_41_code
def yX10_row : MethodName := ⟨RX10, "row", "(III)I"⟩
abbrev cX10_put : ByteArray := prog_1_method_42_code
def yX10_put : MethodName := ⟨RX10, "put", "(IIJ)I"⟩
abbrev cX10_count : ByteArray := prog_1_method_46_code
def yX10_count : MethodName := ⟨RX10, "count", "(I)I"⟩
abbrev cX10_isRule : ByteArray := prog_1_method_47_code
def yX10_isRule : MethodName := ⟨RX10, "isRule", "(I)Z"⟩
abbrev cX10_isRuleAndChild : ByteArray := prog_1_method_48_code
def yX10_isRuleAndChild : MethodName := ⟨RX10, "isRuleAndChild", "(I)Z"⟩
abbrev cX10_isShelf : ByteArray := prog_1_method_49_code
def yX10_isShelf : MethodName := ⟨RX10, "isShelf", "(I)Z"⟩
abbrev cX10_fresh : ByteArray := prog_1_method_50_code
def yX10_fresh : MethodName := ⟨RX10, "fresh", "()LDoorsForThree$Givings;"⟩
def RX11 : String := "DoorsForThreeModel"
def TX11 : u_T := fun k => match k with
  | _ => ("", "", "", false)
def tyX11 : Nat → FieldType := fun k => match k with
  | _ => .int
abbrev wsX110 : List Cond := u_ws RX11 TX11 0
theorem nmX11 : ∀ a, a < 0 → ∀ b, b < 0 → a ≠ b → (TX11 a).2.1 ≠ (TX11 b).2.1 := by decide +kernel
theorem tyX11_ok : ∀ k, k < 0 → parseFieldDescriptor (TX11 k).2.2.1 = some (tyX11 k) := by decide +kernel
def RJx145de : String := "java/io/Serializable"
def TJx145de : u_T := fun k => match k with
  | _ => ("", "", "", false)
def tyJx145de : Nat → FieldType := fun k => match k with
  | _ => .int
def RJ5 : String := "java/lang/AbstractStringBuilder"
def TJ5 : u_T := fun k => match k with
  | _ => ("", "", "", false)
def tyJ5 : Nat → FieldType := fun k => match k with
  | _ => .int
abbrev cJ5_init_d00df : ByteArray := prog_14_method_2_code
def yJ5_init_d00df : MethodName := ⟨RJ5, "<init>", "(I)V"⟩
abbrev cJ5_length_8abf5 : ByteArray := prog_14_method_6_code
def yJ5_length_8abf5 : MethodName := ⟨RJ5, "length", "()I"⟩
abbrev cJ5_ensureCapacityInternal_d00df : ByteArray := prog_14_method_9_code
def yJ5_ensureCapacityInternal_d00df : MethodName := ⟨RJ5, "ensureCapacityInternal", "(I)V"⟩
abbrev cJ5_newCapacity_0f7a4 : ByteArray := prog_14_method_10_code
def yJ5_newCapacity_0f7a4 : MethodName := ⟨RJ5, "newCapacity", "(I)I"⟩
abbrev cJ5_inflate_da8c8 : ByteArray := prog_14_method_11_code
def yJ5_inflate_da8c8 : MethodName := ⟨RJ5, "inflate", "()V"⟩
abbrev cJ5_append_cf1ce : ByteArray := prog_14_method_22_code
def yJ5_append_cf1ce : MethodName := ⟨RJ5, "append", "(Ljava/lang/String;)Ljava/lang/AbstractStringBuilder;"⟩
abbrev cJ5_appendNull_278bc : ByteArray := prog_14_method_26_code
def yJ5_appendNull_278bc : MethodName := ⟨RJ5, "appendNull", "()Ljava/lang/AbstractStringBuilder;"⟩
abbrev cJ5_append_3fe6f : ByteArray := prog_14_method_31_code
def yJ5_append_3fe6f : MethodName := ⟨RJ5, "append", "(C)Ljava/lang/AbstractStringBuilder;"⟩
abbrev cJ5_append_c97b9 : ByteArray := prog_14_method_32_code
def yJ5_append_c97b9 : MethodName := ⟨RJ5, "append", "(I)Ljava/lang/AbstractStringBuilder;"⟩
abbrev cJ5_getValue_6d5f1 : ByteArray := prog_14_method_64_code
def yJ5_getValue_6d5f1 : MethodName := ⟨RJ5, "getValue", "()[B"⟩
abbrev cJ5_isLatin1_aae02 : ByteArray := prog_14_method_68_code
def yJ5_isLatin1_aae02 : MethodName := ⟨RJ5, "isLatin1", "()Z"⟩
abbrev cJ5_inflateIfNeededFor_a7421 : ByteArray := prog_14_method_71_code
def yJ5_inflateIfNeededFor_a7421 : MethodName := ⟨RJ5, "inflateIfNeededFor", "(Ljava/lang/String;)V"⟩
abbrev cJ5_putStringAt_47b60 : ByteArray := prog_14_method_73_code
def yJ5_putStringAt_47b60 : MethodName := ⟨RJ5, "putStringAt", "(ILjava/lang/String;)V"⟩
def RJx2cfe8 : String := "java/lang/Appendable"
def TJx2cfe8 : u_T := fun k => match k with
  | _ => ("", "", "", false)
def tyJx2cfe8 : Nat → FieldType := fun k => match k with
  | _ => .int
def RJx9f9b0 : String := "java/lang/CharSequence"
def TJx9f9b0 : u_T := fun k => match k with
  | _ => ("", "", "", false)
def tyJx9f9b0 : Nat → FieldType := fun k => match k with
  | _ => .int
def RJ11 : String := "java/lang/Character"
def TJ11 : u_T := fun k => match k with
  | _ => ("", "", "", false)
def tyJ11 : Nat → FieldType := fun k => match k with
  | _ => .int
abbrev cJ11_isValidCodePoint_9a6ad : ByteArray := prog_15_method_11_code
def yJ11_isValidCodePoint_9a6ad : MethodName := ⟨RJ11, "isValidCodePoint", "(I)Z"⟩
abbrev cJ11_highSurrogate_5068e : ByteArray := prog_15_method_28_code
def yJ11_highSurrogate_5068e : MethodName := ⟨RJ11, "highSurrogate", "(I)C"⟩
abbrev cJ11_lowSurrogate_5068e : ByteArray := prog_15_method_29_code
def yJ11_lowSurrogate_5068e : MethodName := ⟨RJ11, "lowSurrogate", "(I)C"⟩
def RJx8e188 : String := "java/lang/Cloneable"
def TJx8e188 : u_T := fun k => match k with
  | _ => ("", "", "", false)
def tyJx8e188 : Nat → FieldType := fun k => match k with
  | _ => .int
def RJxb160c : String := "java/lang/Comparable"
def TJxb160c : u_T := fun k => match k with
  | _ => ("", "", "", false)
def tyJxb160c : Nat → FieldType := fun k => match k with
  | _ => .int
def RJ6 : String := "java/lang/Integer"
def TJ6 : u_T := fun k => match k with
  | _ => ("", "", "", false)
def tyJ6 : Nat → FieldType := fun k => match k with
  | _ => .int
abbrev cJ6_getChars_ba4f3 : ByteArray := prog_17_method_12_code
def yJ6_getChars_ba4f3 : MethodName := ⟨RJ6, "getChars", "(II[B)I"⟩
abbrev cJ6_stringSize_0f7a4 : ByteArray := prog_17_method_13_code
def yJ6_stringSize_0f7a4 : MethodName := ⟨RJ6, "stringSize", "(I)I"⟩
abbrev cJ6_bitCount_0f7a4 : ByteArray := prog_17_method_49_code
def yJ6_bitCount_0f7a4 : MethodName := ⟨RJ6, "bitCount", "(I)I"⟩
def RJ9 : String := "java/lang/Math"
def TJ9 : u_T := fun k => match k with
  | _ => ("", "", "", false)
def tyJ9 : Nat → FieldType := fun k => match k with
  | _ => .int
abbrev cJ9_max_7cf53 : ByteArray := prog_18_method_65_code
def yJ9_max_7cf53 : MethodName := ⟨RJ9, "max", "(II)I"⟩
abbrev cJ9_min_7cf53 : ByteArray := prog_18_method_69_code
def yJ9_min_7cf53 : MethodName := ⟨RJ9, "min", "(II)I"⟩
def RJxd2413 : String := "java/lang/Number"
def TJxd2413 : u_T := fun k => match k with
  | _ => ("", "", "", false)
def tyJxd2413 : Nat → FieldType := fun k => match k with
  | _ => .int
def RJ0 : String := "java/lang/String"
def TJ0 : u_T := fun k => match k with
  | 0 => ("java/lang/String", "value", "[B", true)
  | 1 => ("java/lang/String", "coder", "B", true)
  | 2 => ("java/lang/String", "hash", "I", false)
  | _ => ("java/lang/String", "hashIsZero", "Z", false)
def tyJ0 : Nat → FieldType := fun k => match k with
  | 0 => .array .byte
  | 1 => .byte
  | 2 => .int
  | _ => .boolean
abbrev wsJ00 : List Cond := u_ws RJ0 TJ0 4
theorem nmJ0 : ∀ a, a < 4 → ∀ b, b < 4 → a ≠ b → (TJ0 a).2.1 ≠ (TJ0 b).2.1 := by decide +kernel
theorem tyJ0_ok : ∀ k, k < 4 → parseFieldDescriptor (TJ0 k).2.2.1 = some (tyJ0 k) := by decide +kernel
abbrev cJ0_init_81219 : ByteArray := prog_20_method_53_code
def yJ0_init_81219 : MethodName := ⟨RJ0, "<init>", "(Ljava/lang/StringBuilder;)V"⟩
abbrev cJ0_length_8abf5 : ByteArray := prog_20_method_54_code
def yJ0_length_8abf5 : MethodName := ⟨RJ0, "length", "()I"⟩
abbrev cJ0_charAt_5068e : ByteArray := prog_20_method_56_code
def yJ0_charAt_5068e : MethodName := ⟨RJ0, "charAt", "(I)C"⟩
abbrev cJ0_indexOf_0f7a4 : ByteArray := prog_20_method_79_code
def yJ0_indexOf_0f7a4 : MethodName := ⟨RJ0, "indexOf", "(I)I"⟩
abbrev cJ0_indexOf_7cf53 : ByteArray := prog_20_method_80_code
def yJ0_indexOf_7cf53 : MethodName := ⟨RJ0, "indexOf", "(II)I"⟩
abbrev cJ0_getBytes_840e7 : ByteArray := prog_20_method_147_code
def yJ0_getBytes_840e7 : MethodName := ⟨RJ0, "getBytes", "([BIB)V"⟩
abbrev cJ0_init_db425 : ByteArray := prog_20_method_150_code
def yJ0_init_db425 : MethodName := ⟨RJ0, "<init>", "(Ljava/lang/AbstractStringBuilder;Ljava/lang/Void;)V"⟩
abbrev cJ0_coder_7d493 : ByteArray := prog_20_method_152_code
def yJ0_coder_7d493 : MethodName := ⟨RJ0, "coder", "()B"⟩
abbrev cJ0_isLatin1_aae02 : ByteArray := prog_20_method_154_code
def yJ0_isLatin1_aae02 : MethodName := ⟨RJ0, "isLatin1", "()Z"⟩
abbrev cJ0_checkIndex_df160 : ByteArray := prog_20_method_155_code
def yJ0_checkIndex_df160 : MethodName := ⟨RJ0, "checkIndex", "(II)V"⟩
abbrev cJ0_checkBoundsOffCount_cabcc : ByteArray := prog_20_method_157_code
def yJ0_checkBoundsOffCount_cabcc : MethodName := ⟨RJ0, "checkBoundsOffCount", "(III)I"⟩
abbrev cJ0_checkBoundsBeginEnd_23922 : ByteArray := prog_20_method_158_code
def yJ0_checkBoundsBeginEnd_23922 : MethodName := ⟨RJ0, "checkBoundsBeginEnd", "(III)V"⟩
def RJ4 : String := "java/lang/StringBuilder"
def TJ4 : u_T := fun k => match k with
  | 0 => ("java/lang/AbstractStringBuilder", "value", "[B", false)
  | 1 => ("java/lang/AbstractStringBuilder", "coder", "B", false)
  | 2 => ("java/lang/AbstractStringBuilder", "maybeLatin1", "Z", false)
  | _ => ("java/lang/AbstractStringBuilder", "count", "I", false)
def tyJ4 : Nat → FieldType := fun k => match k with
  | 0 => .array .byte
  | 1 => .byte
  | 2 => .boolean
  | _ => .int
abbrev wsJ40 : List Cond := u_ws RJ4 TJ4 4
theorem nmJ4 : ∀ a, a < 4 → ∀ b, b < 4 → a ≠ b → (TJ4 a).2.1 ≠ (TJ4 b).2.1 := by decide +kernel
theorem tyJ4_ok : ∀ k, k < 4 → parseFieldDescriptor (TJ4 k).2.2.1 = some (tyJ4 k) := by decide +kernel
abbrev cJ4_init_da8c8 : ByteArray := prog_21_method_1_code
def yJ4_init_da8c8 : MethodName := ⟨RJ4, "<init>", "()V"⟩
abbrev cJ4_append_15ec4 : ByteArray := prog_21_method_7_code
def yJ4_append_15ec4 : MethodName := ⟨RJ4, "append", "(Ljava/lang/String;)Ljava/lang/StringBuilder;"⟩
abbrev cJ4_append_cf468 : ByteArray := prog_21_method_14_code
def yJ4_append_cf468 : MethodName := ⟨RJ4, "append", "(C)Ljava/lang/StringBuilder;"⟩
abbrev cJ4_append_bf812 : ByteArray := prog_21_method_15_code
def yJ4_append_bf812 : MethodName := ⟨RJ4, "append", "(I)Ljava/lang/StringBuilder;"⟩
abbrev cJ4_toString_0e30d : ByteArray := prog_21_method_42_code
def yJ4_toString_0e30d : MethodName := ⟨RJ4, "toString", "()Ljava/lang/String;"⟩
abbrev cJ4_length_8abf5 : ByteArray := prog_21_method_93_code
def yJ4_length_8abf5 : MethodName := ⟨RJ4, "length", "()I"⟩
def RJ1 : String := "java/lang/StringLatin1"
def TJ1 : u_T := fun k => match k with
  | _ => ("", "", "", false)
def tyJ1 : Nat → FieldType := fun k => match k with
  | _ => .int
abbrev cJ1_charAt_3b067 : ByteArray := prog_22_method_2_code
def yJ1_charAt_3b067 : MethodName := ⟨RJ1, "charAt", "([BI)C"⟩
abbrev cJ1_canEncode_fc78d : ByteArray := prog_22_method_3_code
def yJ1_canEncode_fc78d : MethodName := ⟨RJ1, "canEncode", "(C)Z"⟩
abbrev cJ1_canEncode_9a6ad : ByteArray := prog_22_method_4_code
def yJ1_canEncode_9a6ad : MethodName := ⟨RJ1, "canEncode", "(I)Z"⟩
abbrev cJ1_indexOf_4cfef : ByteArray := prog_22_method_22_code
def yJ1_indexOf_4cfef : MethodName := ⟨RJ1, "indexOf", "([BIII)I"⟩
abbrev cJ1_indexOfChar_4cfef : ByteArray := prog_22_method_23_code
def yJ1_indexOfChar_4cfef : MethodName := ⟨RJ1, "indexOfChar", "([BIII)I"⟩
abbrev cJ1_inflate_0e8fd : ByteArray := prog_22_method_50_code
def yJ1_inflate_0e8fd : MethodName := ⟨RJ1, "inflate", "([BI[BII)V"⟩
def RJ2 : String := "java/lang/StringUTF16"
def TJ2 : u_T := fun k => match k with
  | _ => ("", "", "", false)
def tyJ2 : Nat → FieldType := fun k => match k with
  | _ => .int
abbrev cJ2_newBytesFor_77867 : ByteArray := prog_23_method_2_code
def yJ2_newBytesFor_77867 : MethodName := ⟨RJ2, "newBytesFor", "(I)[B"⟩
abbrev cJ2_newBytesLength_0f7a4 : ByteArray := prog_23_method_3_code
def yJ2_newBytesLength_0f7a4 : MethodName := ⟨RJ2, "newBytesLength", "(I)I"⟩
abbrev cJ2_putChar_b72d1 : ByteArray := prog_23_method_4_code
def yJ2_putChar_b72d1 : MethodName := ⟨RJ2, "putChar", "([BII)V"⟩
abbrev cJ2_getChar_3b067 : ByteArray := prog_23_method_5_code
def yJ2_getChar_3b067 : MethodName := ⟨RJ2, "getChar", "([BI)C"⟩
abbrev cJ2_length_9d52b : ByteArray := prog_23_method_6_code
def yJ2_length_9d52b : MethodName := ⟨RJ2, "length", "([B)I"⟩
abbrev cJ2_coderFromArrayLen_85cad : ByteArray := prog_23_method_15_code
def yJ2_coderFromArrayLen_85cad : MethodName := ⟨RJ2, "coderFromArrayLen", "([BI)B"⟩
abbrev cJ2_compress_39247 : ByteArray := prog_23_method_17_code
def yJ2_compress_39247 : MethodName := ⟨RJ2, "compress", "([BII)[B"⟩
abbrev cJ2_compress_5af95 : ByteArray := prog_23_method_22_code
def yJ2_compress_5af95 : MethodName := ⟨RJ2, "compress", "([BI[BII)I"⟩
abbrev cJ2_indexOf_4cfef : ByteArray := prog_23_method_40_code
def yJ2_indexOf_4cfef : MethodName := ⟨RJ2, "indexOf", "([BIII)I"⟩
abbrev cJ2_indexOfChar_4cfef : ByteArray := prog_23_method_47_code
def yJ2_indexOfChar_4cfef : MethodName := ⟨RJ2, "indexOfChar", "([BIII)I"⟩
abbrev cJ2_indexOfCharUnsafe_4cfef : ByteArray := prog_23_method_48_code
def yJ2_indexOfCharUnsafe_4cfef : MethodName := ⟨RJ2, "indexOfCharUnsafe", "([BIII)I"⟩
abbrev cJ2_indexOfSupplementary_4cfef : ByteArray := prog_23_method_49_code
def yJ2_indexOfSupplementary_4cfef : MethodName := ⟨RJ2, "indexOfSupplementary", "([BIII)I"⟩
abbrev cJ2_putCharSB_b72d1 : ByteArray := prog_23_method_71_code
def yJ2_putCharSB_b72d1 : MethodName := ⟨RJ2, "putCharSB", "([BII)V"⟩
abbrev cJ2_getChars_46870 : ByteArray := prog_23_method_77_code
def yJ2_getChars_46870 : MethodName := ⟨RJ2, "getChars", "(III[B)I"⟩
abbrev cJ2_putCharsAt_cd4e5 : ByteArray := prog_23_method_81_code
def yJ2_putCharsAt_cd4e5 : MethodName := ⟨RJ2, "putCharsAt", "([BICCCC)I"⟩
abbrev cJ2_charAt_3b067 : ByteArray := prog_23_method_83_code
def yJ2_charAt_3b067 : MethodName := ⟨RJ2, "charAt", "([BI)C"⟩
abbrev cJ2_inflate_0e8fd : ByteArray := prog_23_method_86_code
def yJ2_inflate_0e8fd : MethodName := ⟨RJ2, "inflate", "([BI[BII)V"⟩
abbrev cJ2_getChars_ba4f3 : ByteArray := prog_23_method_89_code
def yJ2_getChars_ba4f3 : MethodName := ⟨RJ2, "getChars", "(II[B)I"⟩
abbrev cJ2_checkIndex_2214a : ByteArray := prog_23_method_91_code
def yJ2_checkIndex_2214a : MethodName := ⟨RJ2, "checkIndex", "(I[B)V"⟩
abbrev cJ2_checkBoundsBeginEnd_d044e : ByteArray := prog_23_method_93_code
def yJ2_checkBoundsBeginEnd_d044e : MethodName := ⟨RJ2, "checkBoundsBeginEnd", "(II[B)V"⟩
abbrev cJ2_checkBoundsOffCount_d044e : ByteArray := prog_23_method_94_code
def yJ2_checkBoundsOffCount_d044e : MethodName := ⟨RJ2, "checkBoundsOffCount", "(II[B)V"⟩
def RJ10 : String := "java/lang/System"
def TJ10 : u_T := fun k => match k with
  | _ => ("", "", "", false)
def tyJ10 : Nat → FieldType := fun k => match k with
  | _ => .int
def RJxfd54e : String := "java/lang/constant/Constable"
def TJxfd54e : u_T := fun k => match k with
  | _ => ("", "", "", false)
def tyJxfd54e : Nat → FieldType := fun k => match k with
  | _ => .int
def RJx3cf43 : String := "java/lang/constant/ConstantDesc"
def TJx3cf43 : u_T := fun k => match k with
  | _ => ("", "", "", false)
def tyJx3cf43 : Nat → FieldType := fun k => match k with
  | _ => .int
def RJ7 : String := "java/util/Arrays"
def TJ7 : u_T := fun k => match k with
  | _ => ("", "", "", false)
def tyJ7 : Nat → FieldType := fun k => match k with
  | _ => .int
abbrev cJ7_fill_d0a16 : ByteArray := prog_25_method_101_code
def yJ7_fill_d0a16 : MethodName := ⟨RJ7, "fill", "([JJ)V"⟩
abbrev cJ7_fill_53178 : ByteArray := prog_25_method_103_code
def yJ7_fill_53178 : MethodName := ⟨RJ7, "fill", "([II)V"⟩
abbrev cJ7_copyOf_9075b : ByteArray := prog_25_method_121_code
def yJ7_copyOf_9075b : MethodName := ⟨RJ7, "copyOf", "([BI)[B"⟩
abbrev cJ7_checkLength_df160 : ByteArray := prog_25_method_131_code
def yJ7_checkLength_df160 : MethodName := ⟨RJ7, "checkLength", "(II)V"⟩
abbrev cJ7_copyOfRange_39247 : ByteArray := prog_25_method_132_code
def yJ7_copyOfRange_39247 : MethodName := ⟨RJ7, "copyOfRange", "([BII)[B"⟩
abbrev cJ7_copyOfRangeByte_39247 : ByteArray := prog_25_method_133_code
def yJ7_copyOfRangeByte_39247 : MethodName := ⟨RJ7, "copyOfRangeByte", "([BII)[B"⟩
def RJ8 : String := "jdk/internal/util/ArraysSupport"
def TJ8 : u_T := fun k => match k with
  | _ => ("", "", "", false)
def tyJ8 : Nat → FieldType := fun k => match k with
  | _ => .int
abbrev cJ8_newLength_cabcc : ByteArray := prog_26_method_27_code
def yJ8_newLength_cabcc : MethodName := ⟨RJ8, "newLength", "(III)I"⟩
abbrev cJ8_hugeLength_7cf53 : ByteArray := prog_26_method_28_code
def yJ8_hugeLength_7cf53 : MethodName := ⟨RJ8, "hugeLength", "(II)I"⟩
def RJ3 : String := "jdk/internal/util/Preconditions"
def TJ3 : u_T := fun k => match k with
  | _ => ("", "", "", false)
def tyJ3 : Nat → FieldType := fun k => match k with
  | _ => .int
abbrev cJ3_checkIndex_8e157 : ByteArray := prog_27_method_11_code
def yJ3_checkIndex_8e157 : MethodName := ⟨RJ3, "checkIndex", "(IILjava/util/function/BiFunction;)I"⟩
abbrev cJ3_checkFromToIndex_8c36e : ByteArray := prog_27_method_12_code
def yJ3_checkFromToIndex_8c36e : MethodName := ⟨RJ3, "checkFromToIndex", "(IIILjava/util/function/BiFunction;)I"⟩
abbrev cJ3_checkFromIndexSize_8c36e : ByteArray := prog_27_method_13_code
def yJ3_checkFromIndexSize_8c36e : MethodName := ⟨RJ3, "checkFromIndexSize", "(IIILjava/util/function/BiFunction;)I"⟩
def RL : String := "DoorsForThreeLaw"
abbrev cL_at : ByteArray := method_2_code
def yL_at : MethodName := ⟨RL, "at", "([II)I"⟩
abbrev cL_some : ByteArray := method_3_code
def yL_some : MethodName := ⟨RL, "some", "(II)I"⟩
abbrev cL_one : ByteArray := method_4_code
def yL_one : MethodName := ⟨RL, "one", "(I)Ljava/lang/String;"⟩
abbrev cL_says : ByteArray := method_5_code
def yL_says : MethodName := ⟨RL, "says", "(II)Ljava/lang/String;"⟩
abbrev cL_text : ByteArray := method_6_code
def yL_text : MethodName := ⟨RL, "text", "([II)Ljava/lang/String;"⟩
abbrev cL_world : ByteArray := method_7_code
def yL_world : MethodName := ⟨RL, "world", "(LDoorsForThree;[I[ILjava/lang/String;)V"⟩
abbrev cL_told : ByteArray := method_8_code
def yL_told : MethodName := ⟨RL, "told", "(LDoorsForThree;)J"⟩
abbrev cL_law : ByteArray := code
def yL_law : MethodName := ⟨RL, "law", "([I)Z"⟩
abbrev vwCl : List vw_C := [(RX0, TX0, 4), (RX1, TX1, 3), (RX2, TX2, 12), (RX3, TX3, 10), (RX4, TX4, 13), (RX5, TX5, 10), (RX6, TX6, 4), (RX7, TX7, 5), (RX8, TX8, 2), (RX9, TX9, 3), (RX10, TX10, 10), (RJ0, TJ0, 4), (RJ4, TJ4, 4)]
end
section
/-! the cells of the class and of the reference, numbered; references between them -/
abbrev am_cl : List (Nat × Nat × Nat × Nat) := [
  (1, 10, 10, 0), -- 0 DoorsForThree
  (1, 0, 4, 0), -- 1 DoorsForThree$Calendar
  (4, 10, 3, 1), -- 2 DoorsForThree$Calendar.numbers
  (2, 12, 0, 0), -- 3 DoorsForThree$Calendar.numbers[0]
  (2, 12, 0, 0), -- 4 DoorsForThree$Calendar.numbers[1]
  (2, 12, 0, 0), -- 5 DoorsForThree$Calendar.numbers[2]
  (2, 12, 0, 0), -- 6 DoorsForThree$Calendar.numbers[3]
  (2, 12, 0, 0), -- 7 DoorsForThree$Calendar.numbers[4]
  (2, 12, 0, 0), -- 8 DoorsForThree$Calendar.numbers[5]
  (2, 12, 0, 0), -- 9 DoorsForThree$Calendar.numbers[6]
  (2, 12, 0, 0), -- 10 DoorsForThree$Calendar.numbers[7]
  (2, 12, 0, 0), -- 11 DoorsForThree$Calendar.numbers[8]
  (2, 12, 0, 0), -- 12 DoorsForThree$Calendar.numbers[9]
  (1, 1, 3, 0), -- 13 DoorsForThree$Changes
  (2, 160, 0, 0), -- 14 DoorsForThree$Changes.kept
  (1, 5, 10, 0), -- 15 DoorsForThree$Law
  (2, 120, 0, 0), -- 16 DoorsForThree$Law.tape
  (2, 121, 0, 0), -- 17 DoorsForThree$Law.draft
  (2, 121, 0, 0), -- 18 DoorsForThree$Law.steps
  (2, 121, 0, 0), -- 19 DoorsForThree$Law.stack
  (1, 9, 3, 0), -- 20 DoorsForThree$Worths
  (2, 6, 0, 0), -- 21 DoorsForThree$Worths.named
  (1, 4, 13, 0), -- 22 DoorsForThree$Givings
  (2, 12, 0, 0), -- 23 DoorsForThree$Givings.byDay
  (2, 5, 0, 0), -- 24 DoorsForThree$Givings.byAge
  (4, 5, 26, 1), -- 25 DoorsForThree$Givings.eaten
  (2, 12, 0, 0), -- 26 DoorsForThree$Givings.eaten[0]
  (2, 12, 0, 0), -- 27 DoorsForThree$Givings.eaten[1]
  (2, 12, 0, 0), -- 28 DoorsForThree$Givings.eaten[2]
  (2, 12, 0, 0), -- 29 DoorsForThree$Givings.eaten[3]
  (2, 12, 0, 0), -- 30 DoorsForThree$Givings.eaten[4]
  (4, 5, 32, 1), -- 31 DoorsForThree$Givings.given
  (2, 12, 0, 0), -- 32 DoorsForThree$Givings.given[0]
  (2, 12, 0, 0), -- 33 DoorsForThree$Givings.given[1]
  (2, 12, 0, 0), -- 34 DoorsForThree$Givings.given[2]
  (2, 12, 0, 0), -- 35 DoorsForThree$Givings.given[3]
  (2, 12, 0, 0), -- 36 DoorsForThree$Givings.given[4]
  (4, 5, 38, 1), -- 37 DoorsForThree$Givings.sums
  (2, 5, 0, 0), -- 38 DoorsForThree$Givings.sums[0]
  (2, 5, 0, 0), -- 39 DoorsForThree$Givings.sums[1]
  (2, 5, 0, 0), -- 40 DoorsForThree$Givings.sums[2]
  (2, 5, 0, 0), -- 41 DoorsForThree$Givings.sums[3]
  (2, 5, 0, 0), -- 42 DoorsForThree$Givings.sums[4]
  (2, 5, 0, 0), -- 43 DoorsForThree$Givings.offered
  (2, 12, 0, 0), -- 44 DoorsForThree$Givings.tried
  (2, 5, 0, 0), -- 45 DoorsForThree$Givings.triedSums
  (2, 12, 0, 0), -- 46 DoorsForThree$Givings.mine
  (1, 3, 10, 0), -- 47 DoorsForThree$Fairest
  (4, 3, 49, 1), -- 48 DoorsForThree$Fairest.eaten
  (2, 8, 0, 0), -- 49 DoorsForThree$Fairest.eaten[0]
  (2, 8, 0, 0), -- 50 DoorsForThree$Fairest.eaten[1]
  (2, 8, 0, 0), -- 51 DoorsForThree$Fairest.eaten[2]
  (2, 8, 0, 0), -- 52 DoorsForThree$Fairest.whose
  (2, 8, 0, 0), -- 53 DoorsForThree$Fairest.fairest
  (4, 3, 55, 1), -- 54 DoorsForThree$Fairest.held
  (2, 3, 0, 0), -- 55 DoorsForThree$Fairest.held[0]
  (2, 3, 0, 0), -- 56 DoorsForThree$Fairest.held[1]
  (2, 3, 0, 0), -- 57 DoorsForThree$Fairest.held[2]
  (1, 8, 2, 0), -- 58 DoorsForThree$Signs
  (1, 2, 12, 0), -- 59 DoorsForThree$Deeds
  (2, 12, 0, 0), -- 60 DoorsForThree$Deeds.openers
  (2, 12, 0, 0), -- 61 DoorsForThree$Deeds.imageOpeners
  (1, 6, 4, 0), -- 62 DoorsForThree$Pictures
  (2, 50, 0, 0), -- 63 DoorsForThree$Pictures.kinds
  (2, 24, 0, 0), -- 64 DoorsForThree$Pictures.trace
  (4, 6, 66, 2), -- 65 DoorsForThree.shelves
  (1, 7, 5, 0), -- 66 Shelf 0
  (3, 60, 0, 0), -- 67 Shelf 0.cells
  (1, 7, 5, 0), -- 68 Shelf 1
  (3, 60, 0, 0), -- 69 Shelf 1.cells
  (1, 7, 5, 0), -- 70 Shelf 2
  (3, 60, 0, 0), -- 71 Shelf 2.cells
  (1, 7, 5, 0), -- 72 Shelf 3
  (3, 60, 0, 0), -- 73 Shelf 3.cells
  (1, 7, 5, 0), -- 74 Shelf 4
  (3, 60, 0, 0), -- 75 Shelf 4.cells
  (1, 7, 5, 0), -- 76 Shelf 5
  (3, 60, 0, 0), -- 77 Shelf 5.cells
  (10, 37, 0, 0), -- 78 b
  (0, 0, 0, 0), -- 79 -
  (0, 0, 0, 0), -- 80 -
  (0, 0, 0, 0), -- 81 -
  (0, 0, 0, 0), -- 82 -
  (0, 0, 0, 0), -- 83 -
  (0, 0, 0, 0), -- 84 -
  (0, 0, 0, 0), -- 85 -
  (0, 0, 0, 0), -- 86 -
  (0, 0, 0, 0), -- 87 -
  (0, 0, 0, 0), -- 88 -
  (0, 0, 0, 0), -- 89 -
  (0, 0, 0, 0), -- 90 -
  (0, 0, 0, 0), -- 91 -
  (0, 0, 0, 0), -- 92 -
  (0, 0, 0, 0), -- 93 -
  (0, 0, 0, 0), -- 94 -
  (0, 0, 0, 0), -- 95 -
  (0, 0, 0, 0), -- 96 -
  (0, 0, 0, 0), -- 97 -
  (0, 0, 0, 0), -- 98 -
  (0, 0, 0, 0), -- 99 -
  (0, 0, 0, 0), -- 100 -
  (0, 0, 0, 0), -- 101 -
  (0, 0, 0, 0), -- 102 -
  (0, 0, 0, 0), -- 103 -
  (0, 0, 0, 0), -- 104 -
  (0, 0, 0, 0), -- 105 -
  (0, 0, 0, 0), -- 106 -
  (0, 0, 0, 0), -- 107 -
  (0, 0, 0, 0), -- 108 -
  (0, 0, 0, 0), -- 109 -
  (0, 0, 0, 0), -- 110 -
  (0, 0, 0, 0), -- 111 -
  (0, 0, 0, 0), -- 112 -
  (0, 0, 0, 0), -- 113 -
  (5, 10, 0, 0), -- 114 static LEAST
  (5, 10, 0, 0), -- 115 static MOST
  (5, 8, 0, 0), -- 116 static ABOVE
  (6, 0, 0, 0), -- 117 script
  (7, 1, 128, 0), -- 118 text
  (7, 3, 129, 0), -- 119 text
  (7, 1, 130, 0), -- 120 text
  (7, 3, 131, 0), -- 121 text
  (7, 2, 132, 0), -- 122 text
  (7, 1, 133, 0), -- 123 text
  (7, 3, 134, 0), -- 124 text
  (7, 1, 135, 0), -- 125 text
  (7, 6, 136, 0), -- 126 text
  (7, 1, 137, 0), -- 127 text
  (8, 1, 0, 0), -- 128 text
  (8, 3, 0, 0), -- 129 text
  (8, 1, 0, 0), -- 130 text
  (8, 3, 0, 0), -- 131 text
  (8, 2, 0, 0), -- 132 text
  (8, 1, 0, 0), -- 133 text
  (8, 3, 0, 0), -- 134 text
  (8, 1, 0, 0), -- 135 text
  (8, 6, 0, 0), -- 136 text
  (8, 1, 0, 0), -- 137 text
  (7, 0, 139, 0), -- 138 text
  (9, 0, 0, 0) -- 139 bytes of t
  ]
abbrev am_rl : List (List Nat) := [
  [1, 13, 15, 20, 22, 47, 58, 59, 62, 65],
  [2],
  [],
  [],
  [],
  [],
  [],
  [],
  [],
  [],
  [],
  [],
  [],
  [14],
  [],
  [16, 0, 0, 17, 0, 18, 0, 0, 19],
  [],
  [],
  [],
  [],
  [1, 15, 21],
  [],
  [1, 20, 0, 23, 24, 25, 31, 37, 43, 44, 45, 46],
  [],
  [],
  [],
  [],
  [],
  [],
  [],
  [],
  [],
  [],
  [],
  [],
  [],
  [],
  [],
  [],
  [],
  [],
  [],
  [],
  [],
  [],
  [],
  [],
  [1, 22, 0, 48, 52, 53, 54],
  [],
  [],
  [],
  [],
  [],
  [],
  [],
  [],
  [],
  [],
  [1, 22],
  [1, 60, 0, 0, 0, 0, 0, 61],
  [],
  [],
  [63, 0, 64],
  [],
  [],
  [],
  [0, 0, 0, 0, 67],
  [],
  [0, 0, 0, 0, 69],
  [],
  [0, 0, 0, 0, 71],
  [],
  [0, 0, 0, 0, 73],
  [],
  [0, 0, 0, 0, 75],
  [],
  [0, 0, 0, 0, 77],
  [],
  [],
  [],
  [],
  [],
  [],
  [],
  [],
  [],
  [],
  [],
  [],
  [],
  [],
  [],
  [],
  [],
  [],
  [],
  [],
  [],
  [],
  [],
  [],
  [],
  [],
  [],
  [],
  [],
  [],
  [],
  [],
  [],
  [],
  [],
  [],
  [],
  [],
  [],
  [],
  [],
  [128],
  [129],
  [130],
  [131],
  [132],
  [133],
  [134],
  [135],
  [136],
  [137],
  [],
  [],
  [],
  [],
  [],
  [],
  [],
  [],
  [],
  [],
  [139],
  []
  ]
abbrev am_txl : List (List Int32) := [[38], [40, 33, 45], [41], [42, 47, 37], [43, 45], [59], [60, 61, 62], [63], [115, 119, 100, 97, 110, 107], [124]]
/-- the class of each method, by its number among the classes (100: String) -/
abbrev am_mkl : List Nat := [0, 0, 0, 0, 0, 0, 0, 0, 0, 0, 0, 0, 1, 1, 100, 2, 2, 2, 2, 2, 2, 2, 3, 3, 3, 3, 3, 3, 3, 3, 4, 4, 4, 4, 4, 4, 4, 4, 4, 4, 4, 4, 4, 4, 4, 4, 4, 4, 4, 4, 4, 4, 4, 4, 4, 4, 4, 4, 4, 4, 4, 4, 4, 4, 4, 4, 5, 5, 5, 5, 5, 5, 5, 5, 5, 5, 5, 5, 5, 5, 5, 5, 5, 6, 100, 6, 100, 100, 100, 100, 100, 100, 100, 100, 100, 100, 100, 100, 7, 7, 7, 7, 100, 7, 7, 7, 100, 8, 8, 8, 8, 8, 8, 8, 8, 9, 9, 9, 10, 100, 10, 10, 10, 10, 10, 10, 10, 10, 10, 10, 10, 10, 10, 10, 10, 10, 10, 10, 10, 10, 10, 10, 10, 10, 10, 10, 10, 10, 10, 10, 10, 10, 100, 10, 100, 100, 100, 10, 10, 100, 100, 100, 10, 10, 10, 10, 10, 100, 100, 100, 100, 100, 100, 100, 100, 100, 100, 100, 100, 100, 100, 100, 100, 100, 100, 100, 100, 100, 100, 100, 100, 100, 100, 100, 100, 100, 100, 100, 100, 100, 100, 100, 100, 100, 100, 100, 100, 100, 100, 100, 100, 100, 100, 100, 100, 100, 100, 100, 100, 100, 100, 100, 100, 100, 100, 100, 100, 100, 100, 100, 100, 100, 100, 100, 100, 100, 100, 100, 100, 100, 100, 100, 100, 100, 100, 100, 100, 100, 100, 100, 100, 100, 100, 100, 100, 100, 100, 100, 100, 100, 100, 100, 100, 100, 100, 100, 100, 100, 100, 100, 100, 100, 100, 100, 100, 100, 100, 100, 100, 100, 100, 100, 100, 100, 100, 100, 100, 100, 100, 100, 100, 100]
/-- the string constants of the class Law: index, text, cell -/
abbrev am_strs : List (Nat × String × Nat) := [(85, "swdank", 126), (93, "(!-", 119), (95, ")", 120), (75, "|", 127), (77, "&", 118), (79, "<=>", 124), (81, "+-", 122), (83, "*/%", 121), (61, "?", 125), (51, ";", 123)]
end
section
/-! THE SMALL MACHINE: a fixed table of cells, memory mi (ints) and ml (longs) by cell and place; an instruction is a predicate transformer -/
abbrev am_MI : Type := Nat → Nat → Int32
abbrev am_ML : Type := Nat → Nat → Int64
abbrev am_R : Type := Option Value → am_MI → am_ML → Prop
abbrev am_L : Type := List (Option Value)
abbrev am_K : Type := Nat → am_L → List Value → am_MI → am_ML → Prop
abbrev am_C : Type := Nat → List Value → am_MI → am_ML → am_R → Prop
abbrev am_row : Type := Nat × Instr × Nat × Nat × Nat × Nat × Int32 × List (Int32 × Nat)
def am_nth {α : Type} (d : α) : List α → Nat → α
  | [], _ => d
  | x :: _, 0 => x
  | _ :: l, i + 1 => am_nth d l i
def am_ck (a : Nat) : Nat × Nat × Nat × Nat := am_nth (0, 0, 0, 0) am_cl a
def am_kd (a : Nat) : Nat := (am_ck a).1
def am_n (a : Nat) : Nat := (am_ck a).2.1
def am_f (a : Nat) : Nat := (am_ck a).2.2.1
def am_d (a : Nat) : Nat := (am_ck a).2.2.2
def am_rf (a j : Nat) : Nat := am_nth 0 (am_nth [] am_rl a) j
/-- an object's class: its number; 100: String -/
def am_oc (a : Nat) : Nat := match am_kd a with
  | 1 => am_n a
  | 7 => 100
  | _ => 200
def am_mk (g : Nat) : Nat := am_nth 300 am_mkl g
def am_lc : Nat → Int64
  | 0 => 0
  | 1 => 1
  | 2 => 3
  | 3 => 4294967295
  | 5 => 7
  | 6 => 31
  | 7 => 5
  | 8 => 11
  | 9 => 13
  | 10 => 17
  | _ => -9223372036854775808
end
section
/-! the tables of the small machine: each method's rows, printed out of its bytecode -/
def am_lkL : List Cond := [
  (Jvm.Cond.methodLink "DoorsForThreeLaw" (167 : Nat) ({ cls := "DoorsForThree", name := "<init>", desc := "()V" } : Jvm.MethodName)),
  (Jvm.Cond.methodLink "DoorsForThreeLaw" (90 : Nat) ({ cls := "DoorsForThree", name := "door", desc := "(II)I" } : Jvm.MethodName)),
  (Jvm.Cond.methodLink "DoorsForThreeLaw" (99 : Nat) ({ cls := "DoorsForThree", name := "child", desc := "(II)I" } : Jvm.MethodName)),
  (Jvm.Cond.methodLink "DoorsForThreeLaw" (84 : Nat) ({ cls := "DoorsForThree", name := "mend", desc := "(III)I" } : Jvm.MethodName)),
  (Jvm.Cond.methodLink "DoorsForThreeLaw" (116 : Nat) ({ cls := "DoorsForThree", name := "of", desc := "(II)I" } : Jvm.MethodName)),
  (Jvm.Cond.methodLink "DoorsForThreeLaw" (102 : Nat) ({ cls := "DoorsForThree", name := "feed", desc := "(I)I" } : Jvm.MethodName)),
  (Jvm.Cond.methodLink "DoorsForThreeLaw" (106 : Nat) ({ cls := "DoorsForThree", name := "law", desc := "()I" } : Jvm.MethodName)),
  (Jvm.Cond.methodLink "DoorsForThreeLaw" (232 : Nat) ({ cls := "DoorsForThree", name := "worth", desc := "(II)I" } : Jvm.MethodName)),
  (Jvm.Cond.methodLink "DoorsForThreeLaw" (119 : Nat) ({ cls := "DoorsForThree", name := "whose", desc := "(I)I" } : Jvm.MethodName)),
  (Jvm.Cond.methodLink "DoorsForThreeLaw" (122 : Nat) ({ cls := "DoorsForThree", name := "all", desc := "(I)I" } : Jvm.MethodName)),
  (Jvm.Cond.methodLink "DoorsForThreeLaw" (134 : Nat) ({ cls := "DoorsForThree", name := "giving", desc := "(II)I" } : Jvm.MethodName)),
  (Jvm.Cond.methodLink "DoorsForThreeLaw" (155 : Nat) ({ cls := "DoorsForThree", name := "bestRule", desc := "(I)I" } : Jvm.MethodName)),
  (Jvm.Cond.methodLink "DoorsForThreeLaw" (158 : Nat) ({ cls := "DoorsForThree", name := "fairest", desc := "(I)I" } : Jvm.MethodName)),
  (Jvm.Cond.methodLink "DoorsForThreeLaw" (219 : Nat) ({ cls := "DoorsForThree", name := "envyFree", desc := "()I" } : Jvm.MethodName)),
  (Jvm.Cond.methodLink "DoorsForThreeLaw" (137 : Nat) ({ cls := "DoorsForThree", name := "swap", desc := "(I)I" } : Jvm.MethodName)),
  (Jvm.Cond.methodLink "DoorsForThreeLaw" (140 : Nat) ({ cls := "DoorsForThree", name := "swaps", desc := "(II)I" } : Jvm.MethodName)),
  (Jvm.Cond.methodLink "DoorsForThreeLaw" (149 : Nat) ({ cls := "DoorsForThree", name := "big", desc := "(II)I" } : Jvm.MethodName)),
  (Jvm.Cond.methodLink "DoorsForThreeLaw" (131 : Nat) ({ cls := "DoorsForThree", name := "away", desc := "(II)I" } : Jvm.MethodName)),
  (Jvm.Cond.methodLink "DoorsForThreeLaw" (125 : Nat) ({ cls := "DoorsForThree", name := "gather", desc := "(II)I" } : Jvm.MethodName)),
  (Jvm.Cond.methodLink "DoorsForThreeLaw" (128 : Nat) ({ cls := "DoorsForThree", name := "waits", desc := "(II)I" } : Jvm.MethodName)),
  (Jvm.Cond.methodLink "DoorsForThreeLaw" (222 : Nat) ({ cls := "DoorsForThree", name := "atFive", desc := "(IIII)I" } : Jvm.MethodName)),
  (Jvm.Cond.methodLink "DoorsForThreeLaw" (226 : Nat) ({ cls := "DoorsForThree", name := "guard", desc := "(IIII)I" } : Jvm.MethodName)),
  (Jvm.Cond.methodLink "DoorsForThreeLaw" (213 : Nat) ({ cls := "DoorsForThree", name := "judge", desc := "(II)I" } : Jvm.MethodName)),
  (Jvm.Cond.methodLink "DoorsForThreeLaw" (216 : Nat) ({ cls := "DoorsForThree", name := "byWhat", desc := "(I)I" } : Jvm.MethodName)),
  (Jvm.Cond.methodLink "DoorsForThreeLaw" (146 : Nat) ({ cls := "DoorsForThree", name := "pairs", desc := "(II)I" } : Jvm.MethodName)),
  (Jvm.Cond.methodLink "DoorsForThreeLaw" (164 : Nat) ({ cls := "DoorsForThree", name := "drawn", desc := "(III)I" } : Jvm.MethodName)),
  (Jvm.Cond.methodLink "DoorsForThreeLaw" (174 : Nat) ({ cls := "DoorsForThree", name := "day", desc := "()I" } : Jvm.MethodName)),
  (Jvm.Cond.methodLink "DoorsForThreeLaw" (177 : Nat) ({ cls := "DoorsForThree", name := "open", desc := "(II)I" } : Jvm.MethodName)),
  (Jvm.Cond.methodLink "DoorsForThreeLaw" (161 : Nat) ({ cls := "DoorsForThree", name := "forgotten", desc := "()I" } : Jvm.MethodName)),
  (Jvm.Cond.methodLink "DoorsForThreeLaw" (152 : Nat) ({ cls := "DoorsForThree", name := "led", desc := "(I)I" } : Jvm.MethodName)),
  (Jvm.Cond.methodLink "DoorsForThreeLaw" (171 : Nat) ({ cls := "DoorsForThree", name := "image", desc := "()I" } : Jvm.MethodName)),
  (Jvm.Cond.methodLink "DoorsForThreeLaw" (168 : Nat) ({ cls := "DoorsForThree", name := "back", desc := "()I" } : Jvm.MethodName)),
  (Jvm.Cond.methodLink "DoorsForThreeLaw" (229 : Nat) ({ cls := "DoorsForThree", name := "undo", desc := "()I" } : Jvm.MethodName)),
  (Jvm.Cond.methodLink "DoorsForThreeLaw" (195 : Nat) ({ cls := "DoorsForThree", name := "body", desc := "(I)I" } : Jvm.MethodName)),
  (Jvm.Cond.methodLink "DoorsForThreeLaw" (192 : Nat) ({ cls := "DoorsForThree", name := "row", desc := "(III)I" } : Jvm.MethodName)),
  (Jvm.Cond.methodLink "DoorsForThreeLaw" (201 : Nat) ({ cls := "DoorsForThree", name := "put", desc := "(IIJ)I" } : Jvm.MethodName)),
  (Jvm.Cond.methodLink "DoorsForThreeLaw" (64 : Nat) ({ cls := "DoorsForThreeLaw", name := "at", desc := "([II)I" } : Jvm.MethodName)),
  (Jvm.Cond.methodLink "DoorsForThreeLaw" (7 : Nat) ({ cls := "DoorsForThreeLaw", name := "some", desc := "(II)I" } : Jvm.MethodName)),
  (Jvm.Cond.methodLink "DoorsForThreeLaw" (180 : Nat) ({ cls := "DoorsForThreeLaw", name := "text", desc := "([II)Ljava/lang/String;" } : Jvm.MethodName)),
  (Jvm.Cond.stringRef "DoorsForThreeLaw" (16 : Nat) ""),
  (Jvm.Cond.methodLink "DoorsForThreeLaw" (15 : Nat) ({ cls := "java/lang/StringBuilder", name := "<init>", desc := "()V" } : Jvm.MethodName)),
  (Jvm.Cond.methodLink "DoorsForThreeLaw" (18 : Nat) ({ cls := "java/lang/StringBuilder", name := "append", desc := "(Ljava/lang/String;)Ljava/lang/StringBuilder;" } : Jvm.MethodName)),
  (Jvm.Cond.methodLink "DoorsForThreeLaw" (68 : Nat) ({ cls := "DoorsForThreeLaw", name := "says", desc := "(II)Ljava/lang/String;" } : Jvm.MethodName)),
  (Jvm.Cond.methodLink "DoorsForThreeLaw" (44 : Nat) ({ cls := "DoorsForThreeLaw", name := "one", desc := "(I)Ljava/lang/String;" } : Jvm.MethodName)),
  (Jvm.Cond.stringRef "DoorsForThreeLaw" (22 : Nat) "swdank"),
  (Jvm.Cond.methodLink "DoorsForThreeLaw" (24 : Nat) ({ cls := "java/lang/String", name := "charAt", desc := "(I)C" } : Jvm.MethodName)),
  (Jvm.Cond.methodLink "DoorsForThreeLaw" (30 : Nat) ({ cls := "java/lang/StringBuilder", name := "append", desc := "(C)Ljava/lang/StringBuilder;" } : Jvm.MethodName)),
  (Jvm.Cond.methodLink "DoorsForThreeLaw" (33 : Nat) ({ cls := "java/lang/StringBuilder", name := "toString", desc := "()Ljava/lang/String;" } : Jvm.MethodName)),
  (Jvm.Cond.methodLink "DoorsForThreeLaw" (37 : Nat) ({ cls := "java/lang/StringBuilder", name := "append", desc := "(I)Ljava/lang/StringBuilder;" } : Jvm.MethodName)),
  (Jvm.Cond.stringRef "DoorsForThreeLaw" (40 : Nat) "!"),
  (Jvm.Cond.stringRef "DoorsForThreeLaw" (42 : Nat) "-"),
  (Jvm.Cond.stringRef "DoorsForThreeLaw" (48 : Nat) "+-*/%|&<=>"),
  (Jvm.Cond.stringRef "DoorsForThreeLaw" (50 : Nat) "("),
  (Jvm.Cond.stringRef "DoorsForThreeLaw" (52 : Nat) ")*"),
  (Jvm.Cond.stringRef "DoorsForThreeLaw" (54 : Nat) "+20"),
  (Jvm.Cond.stringRef "DoorsForThreeLaw" (56 : Nat) "!("),
  (Jvm.Cond.stringRef "DoorsForThreeLaw" (58 : Nat) "<"),
  (Jvm.Cond.stringRef "DoorsForThreeLaw" (60 : Nat) "|"),
  (Jvm.Cond.stringRef "DoorsForThreeLaw" (62 : Nat) "=3)*30+s"),
  (Jvm.Cond.stringRef "DoorsForThreeLaw" (72 : Nat) "?"),
  (Jvm.Cond.stringRef "DoorsForThreeLaw" (74 : Nat) ";"),
  (Jvm.Cond.stringRef "DoorsForThreeLaw" (76 : Nat) "9*s+w*20-n*2"),
  (Jvm.Cond.methodLink "DoorsForThreeLaw" (78 : Nat) ({ cls := "java/lang/String", name := "length", desc := "()I" } : Jvm.MethodName)),
  (Jvm.Cond.stringRef "DoorsForThreeLaw" (82 : Nat) "w&n<3?60-d;a>9?s;7"),
  (Jvm.Cond.methodLink "DoorsForThreeLaw" (184 : Nat) ({ cls := "DoorsForThreeLaw", name := "world", desc := "(LDoorsForThree;[I[ILjava/lang/String;)V" } : Jvm.MethodName)),
  (Jvm.Cond.methodLink "DoorsForThreeLaw" (93 : Nat) ({ cls := "java/lang/Math", name := "min", desc := "(II)I" } : Jvm.MethodName)),
  (Jvm.Cond.constant "DoorsForThreeLaw" (98 : Nat) (1000000 : Int32)),
  (Jvm.Cond.methodLink "DoorsForThreeLaw" (188 : Nat) ({ cls := "DoorsForThreeLaw", name := "told", desc := "(LDoorsForThree;)J" } : Jvm.MethodName)),
  (Jvm.Cond.constantLong "DoorsForThreeLaw" (109 : Nat) (7 : Int64)),
  (Jvm.Cond.methodLink "DoorsForThreeLaw" (111 : Nat) ({ cls := "DoorsForThree", name := "count", desc := "(I)I" } : Jvm.MethodName)),
  (Jvm.Cond.constantLong "DoorsForThreeLaw" (114 : Nat) (31 : Int64)),
  (Jvm.Cond.methodLink "DoorsForThreeLaw" (143 : Nat) ({ cls := "DoorsForThree", name := "second", desc := "(II)I" } : Jvm.MethodName)),
  (Jvm.Cond.methodLink "DoorsForThreeLaw" (208 : Nat) ({ cls := "java/lang/Integer", name := "bitCount", desc := "(I)I" } : Jvm.MethodName)),
  (Jvm.Cond.methodLink "DoorsForThreeLaw" (205 : Nat) ({ cls := "java/lang/Math", name := "max", desc := "(II)I" } : Jvm.MethodName)),
  (Jvm.Cond.constant "DoorsForThreeLaw" (198 : Nat) (99999 : Int32)),
  (Jvm.Cond.constantLong "DoorsForThreeLaw" (199 : Nat) (-1 : Int64))]
def am_lkX10 : List Cond := [
  (Jvm.Cond.methodLink "DoorsForThree" (1 : Nat) ({ cls := "java/lang/Object", name := "<init>", desc := "()V" } : Jvm.MethodName)),
  (Jvm.Cond.methodLink "DoorsForThree" (9 : Nat) ({ cls := "DoorsForThree$Calendar", name := "<init>", desc := "()V" } : Jvm.MethodName)),
  (Jvm.Cond.fieldLinkNest "DoorsForThree" (95 : Nat) "DoorsForThree$Calendar" "doors" "I" "DoorsForThree"),
  (Jvm.Cond.fieldLinkNest "DoorsForThree" (117 : Nat) "DoorsForThree$Calendar" "children" "I" "DoorsForThree"),
  (Jvm.Cond.methodLinkNest "DoorsForThree" (18 : Nat) ({ cls := "DoorsForThree$Changes", name := "<init>", desc := "()V" } : Jvm.MethodName) "DoorsForThree"),
  (Jvm.Cond.fieldLinkNest "DoorsForThree" (320 : Nat) "DoorsForThree$Changes" "done" "I" "DoorsForThree"),
  (Jvm.Cond.methodLinkNest "DoorsForThree" (25 : Nat) ({ cls := "DoorsForThree$Law", name := "<init>", desc := "()V" } : Jvm.MethodName) "DoorsForThree"),
  (Jvm.Cond.fieldLinkNest "DoorsForThree" (145 : Nat) "DoorsForThree$Law" "letters" "I" "DoorsForThree"),
  (Jvm.Cond.methodLink "DoorsForThree" (32 : Nat) ({ cls := "DoorsForThree$Worths", name := "<init>", desc := "(LDoorsForThree$Calendar;LDoorsForThree$Law;)V" } : Jvm.MethodName)),
  (Jvm.Cond.methodLink "DoorsForThree" (41 : Nat) ({ cls := "DoorsForThree$Givings", name := "<init>", desc := "(LDoorsForThree$Calendar;LDoorsForThree$Worths;)V" } : Jvm.MethodName)),
  (Jvm.Cond.methodLink "DoorsForThree" (50 : Nat) ({ cls := "DoorsForThree$Fairest", name := "<init>", desc := "(LDoorsForThree$Calendar;LDoorsForThree$Givings;)V" } : Jvm.MethodName)),
  (Jvm.Cond.fieldLinkNest "DoorsForThree" (196 : Nat) "DoorsForThree$Fairest" "unfair" "I" "DoorsForThree"),
  (Jvm.Cond.fieldLinkNest "DoorsForThree" (199 : Nat) "DoorsForThree$Fairest" "together" "I" "DoorsForThree"),
  (Jvm.Cond.fieldLinkNest "DoorsForThree" (204 : Nat) "DoorsForThree$Fairest" "withoutEnvy" "I" "DoorsForThree"),
  (Jvm.Cond.methodLink "DoorsForThree" (59 : Nat) ({ cls := "DoorsForThree$Signs", name := "<init>", desc := "(LDoorsForThree$Calendar;LDoorsForThree$Givings;)V" } : Jvm.MethodName)),
  (Jvm.Cond.methodLink "DoorsForThree" (66 : Nat) ({ cls := "DoorsForThree$Deeds", name := "<init>", desc := "(LDoorsForThree$Calendar;)V" } : Jvm.MethodName)),
  (Jvm.Cond.fieldLinkNest "DoorsForThree" (289 : Nat) "DoorsForThree$Deeds" "today" "I" "DoorsForThree"),
  (Jvm.Cond.fieldLinkNest "DoorsForThree" (301 : Nat) "DoorsForThree$Deeds" "opened" "I" "DoorsForThree"),
  (Jvm.Cond.fieldLinkNest "DoorsForThree" (304 : Nat) "DoorsForThree$Deeds" "early" "I" "DoorsForThree"),
  (Jvm.Cond.fieldLinkNest "DoorsForThree" (307 : Nat) "DoorsForThree$Deeds" "worth" "I" "DoorsForThree"),
  (Jvm.Cond.methodLinkNest "DoorsForThree" (75 : Nat) ({ cls := "DoorsForThree$Pictures", name := "<init>", desc := "()V" } : Jvm.MethodName) "DoorsForThree"),
  (Jvm.Cond.fieldLinkNest "DoorsForThree" (335 : Nat) "DoorsForThree$Pictures" "bodies" "I" "DoorsForThree"),
  (Jvm.Cond.fieldLinkNest "DoorsForThree" (396 : Nat) "DoorsForThree$Pictures" "ran" "I" "DoorsForThree"),
  (Jvm.Cond.methodLinkNest "DoorsForThree" (86 : Nat) ({ cls := "DoorsForThree$Shelf", name := "<init>", desc := "()V" } : Jvm.MethodName) "DoorsForThree"),
  (Jvm.Cond.fieldLink "DoorsForThree" (10 : Nat) "DoorsForThree" "calendar" "LDoorsForThree$Calendar;"),
  (Jvm.Cond.fieldLink "DoorsForThree" (19 : Nat) "DoorsForThree" "changes" "LDoorsForThree$Changes;"),
  (Jvm.Cond.fieldLink "DoorsForThree" (26 : Nat) "DoorsForThree" "tape" "LDoorsForThree$Law;"),
  (Jvm.Cond.fieldLink "DoorsForThree" (35 : Nat) "DoorsForThree" "worths" "LDoorsForThree$Worths;"),
  (Jvm.Cond.fieldLink "DoorsForThree" (44 : Nat) "DoorsForThree" "givings" "LDoorsForThree$Givings;"),
  (Jvm.Cond.fieldLink "DoorsForThree" (53 : Nat) "DoorsForThree" "search" "LDoorsForThree$Fairest;"),
  (Jvm.Cond.fieldLink "DoorsForThree" (60 : Nat) "DoorsForThree" "signs" "LDoorsForThree$Signs;"),
  (Jvm.Cond.fieldLink "DoorsForThree" (69 : Nat) "DoorsForThree" "deeds" "LDoorsForThree$Deeds;"),
  (Jvm.Cond.fieldLink "DoorsForThree" (76 : Nat) "DoorsForThree" "pictures" "LDoorsForThree$Pictures;"),
  (Jvm.Cond.fieldLink "DoorsForThree" (82 : Nat) "DoorsForThree" "shelves" "[LDoorsForThree$Shelf;"),
  (Jvm.Cond.methodLink "DoorsForThree" (87 : Nat) ({ cls := "DoorsForThree$Calendar", name := "fits", desc := "(II)Z" } : Jvm.MethodName)),
  (Jvm.Cond.methodLink "DoorsForThree" (91 : Nat) ({ cls := "DoorsForThree$Calendar", name := "addDoor", desc := "(III)Z" } : Jvm.MethodName)),
  (Jvm.Cond.methodLink "DoorsForThree" (114 : Nat) ({ cls := "DoorsForThree$Calendar", name := "addChild", desc := "(II)Z" } : Jvm.MethodName)),
  (Jvm.Cond.methodLink "DoorsForThree" (120 : Nat) ({ cls := "DoorsForThree$Calendar", name := "has", desc := "(II)Z" } : Jvm.MethodName)),
  (Jvm.Cond.methodLink "DoorsForThree" (123 : Nat) ({ cls := "DoorsForThree$Calendar", name := "get", desc := "(II)I" } : Jvm.MethodName)),
  (Jvm.Cond.methodLink "DoorsForThree" (127 : Nat) ({ cls := "DoorsForThree$Changes", name := "keepChange", desc := "(IIII)V" } : Jvm.MethodName)),
  (Jvm.Cond.methodLink "DoorsForThree" (131 : Nat) ({ cls := "DoorsForThree$Calendar", name := "set", desc := "(III)V" } : Jvm.MethodName)),
  (Jvm.Cond.methodLink "DoorsForThree" (135 : Nat) ({ cls := "DoorsForThree$Calendar", name := "hasDoor", desc := "(I)Z" } : Jvm.MethodName)),
  (Jvm.Cond.methodLink "DoorsForThree" (138 : Nat) ({ cls := "DoorsForThree$Deeds", name := "opener", desc := "(I)I" } : Jvm.MethodName)),
  (Jvm.Cond.methodLink "DoorsForThree" (142 : Nat) ({ cls := "DoorsForThree$Law", name := "takeLetter", desc := "(I)Z" } : Jvm.MethodName)),
  (Jvm.Cond.methodLink "DoorsForThree" (148 : Nat) ({ cls := "DoorsForThree$Law", name := "becomeLaw", desc := "()I" } : Jvm.MethodName)),
  (Jvm.Cond.methodLink "DoorsForThree" (151 : Nat) ({ cls := "DoorsForThree$Calendar", name := "hasChild", desc := "(I)Z" } : Jvm.MethodName)),
  (Jvm.Cond.methodLink "DoorsForThree" (154 : Nat) ({ cls := "DoorsForThree$Worths", name := "worthLate", desc := "(IIII)I" } : Jvm.MethodName)),
  (Jvm.Cond.methodLink "DoorsForThree" (158 : Nat) ({ cls := "DoorsForThree", name := "isRule", desc := "(I)Z" } : Jvm.MethodName)),
  (Jvm.Cond.methodLink "DoorsForThree" (161 : Nat) ({ cls := "DoorsForThree", name := "fresh", desc := "()LDoorsForThree$Givings;" } : Jvm.MethodName)),
  (Jvm.Cond.methodLink "DoorsForThree" (190 : Nat) ({ cls := "DoorsForThree$Givings", name := "freshen", desc := "()V" } : Jvm.MethodName)),
  (Jvm.Cond.methodLink "DoorsForThree" (165 : Nat) ({ cls := "DoorsForThree$Givings", name := "owner", desc := "(II)I" } : Jvm.MethodName)),
  (Jvm.Cond.methodLink "DoorsForThree" (168 : Nat) ({ cls := "DoorsForThree", name := "isRuleAndChild", desc := "(I)Z" } : Jvm.MethodName)),
  (Jvm.Cond.methodLink "DoorsForThree" (171 : Nat) ({ cls := "DoorsForThree$Givings", name := "sumOf", desc := "(II)I" } : Jvm.MethodName)),
  (Jvm.Cond.methodLink "DoorsForThree" (174 : Nat) ({ cls := "DoorsForThree$Givings", name := "unfairBy", desc := "(I)I" } : Jvm.MethodName)),
  (Jvm.Cond.methodLink "DoorsForThree" (177 : Nat) ({ cls := "DoorsForThree$Givings", name := "togetherBy", desc := "(I)I" } : Jvm.MethodName)),
  (Jvm.Cond.methodLink "DoorsForThree" (180 : Nat) ({ cls := "DoorsForThree$Givings", name := "envyBy", desc := "(I)I" } : Jvm.MethodName)),
  (Jvm.Cond.methodLink "DoorsForThree" (183 : Nat) ({ cls := "DoorsForThree$Givings", name := "leastUnfairRule", desc := "()I" } : Jvm.MethodName)),
  (Jvm.Cond.methodLink "DoorsForThree" (186 : Nat) ({ cls := "DoorsForThree$Fairest", name := "isTooWide", desc := "()Z" } : Jvm.MethodName)),
  (Jvm.Cond.methodLink "DoorsForThree" (193 : Nat) ({ cls := "DoorsForThree$Fairest", name := "findOut", desc := "()V" } : Jvm.MethodName)),
  (Jvm.Cond.methodLink "DoorsForThree" (202 : Nat) ({ cls := "DoorsForThree$Fairest", name := "owner", desc := "(I)I" } : Jvm.MethodName)),
  (Jvm.Cond.methodLink "DoorsForThree" (207 : Nat) ({ cls := "DoorsForThree$Givings", name := "firstSwapBy", desc := "(I)I" } : Jvm.MethodName)),
  (Jvm.Cond.methodLink "DoorsForThree" (210 : Nat) ({ cls := "DoorsForThree$Givings", name := "swapAll", desc := "(I)I" } : Jvm.MethodName)),
  (Jvm.Cond.methodLink "DoorsForThree" (213 : Nat) ({ cls := "DoorsForThree$Givings", name := "triedUnfair", desc := "()I" } : Jvm.MethodName)),
  (Jvm.Cond.methodLink "DoorsForThree" (216 : Nat) ({ cls := "DoorsForThree$Givings", name := "divideBig", desc := "(I)V" } : Jvm.MethodName)),
  (Jvm.Cond.methodLink "DoorsForThree" (220 : Nat) ({ cls := "DoorsForThree$Givings", name := "triedSum", desc := "(I)I" } : Jvm.MethodName)),
  (Jvm.Cond.methodLink "DoorsForThree" (223 : Nat) ({ cls := "DoorsForThree$Calendar", name := "doorsAway", desc := "(I)I" } : Jvm.MethodName)),
  (Jvm.Cond.methodLink "DoorsForThree" (226 : Nat) ({ cls := "DoorsForThree$Givings", name := "neverEaten", desc := "(II)I" } : Jvm.MethodName)),
  (Jvm.Cond.methodLink "DoorsForThree" (229 : Nat) ({ cls := "DoorsForThree$Givings", name := "daysLate", desc := "(II)I" } : Jvm.MethodName)),
  (Jvm.Cond.methodLink "DoorsForThree" (232 : Nat) ({ cls := "DoorsForThree$Givings", name := "takeMine", desc := "(II)V" } : Jvm.MethodName)),
  (Jvm.Cond.methodLink "DoorsForThree" (236 : Nat) ({ cls := "DoorsForThree$Givings", name := "bestGathering", desc := "(I)I" } : Jvm.MethodName)),
  (Jvm.Cond.methodLink "DoorsForThree" (239 : Nat) ({ cls := "DoorsForThree$Givings", name := "gathered", desc := "(II)I" } : Jvm.MethodName)),
  (Jvm.Cond.methodLink "DoorsForThree" (242 : Nat) ({ cls := "DoorsForThree$Calendar", name := "holdsOutTill", desc := "(I)I" } : Jvm.MethodName)),
  (Jvm.Cond.methodLink "DoorsForThree" (245 : Nat) ({ cls := "DoorsForThree$Givings", name := "ownAfter", desc := "(III)I" } : Jvm.MethodName)),
  (Jvm.Cond.methodLink "DoorsForThree" (99 : Nat) ({ cls := "DoorsForThree", name := "isShelf", desc := "(I)Z" } : Jvm.MethodName)),
  (Jvm.Cond.methodLink "DoorsForThree" (106 : Nat) ({ cls := "DoorsForThree$Shelf", name := "refusesBytes", desc := "()I" } : Jvm.MethodName)),
  (Jvm.Cond.methodLink "DoorsForThree" (249 : Nat) ({ cls := "DoorsForThree$Signs", name := "earlyOnes", desc := "(LDoorsForThree$Shelf;I)I" } : Jvm.MethodName)),
  (Jvm.Cond.methodLink "DoorsForThree" (253 : Nat) ({ cls := "java/lang/Integer", name := "bitCount", desc := "(I)I" } : Jvm.MethodName)),
  (Jvm.Cond.methodLink "DoorsForThree" (258 : Nat) ({ cls := "DoorsForThree$Signs", name := "couldHaveBeen", desc := "(LDoorsForThree$Shelf;II)I" } : Jvm.MethodName)),
  (Jvm.Cond.methodLink "DoorsForThree" (262 : Nat) ({ cls := "DoorsForThree$Signs", name := "onlyOne", desc := "(I)I" } : Jvm.MethodName)),
  (Jvm.Cond.methodLink "DoorsForThree" (265 : Nat) ({ cls := "DoorsForThree$Signs", name := "bestGuard", desc := "(I)I" } : Jvm.MethodName)),
  (Jvm.Cond.methodLink "DoorsForThree" (268 : Nat) ({ cls := "DoorsForThree$Signs", name := "leftBy", desc := "(II)I" } : Jvm.MethodName)),
  (Jvm.Cond.methodLink "DoorsForThree" (271 : Nat) ({ cls := "DoorsForThree$Signs", name := "firstNotSo", desc := "(LDoorsForThree$Shelf;I)I" } : Jvm.MethodName)),
  (Jvm.Cond.methodLink "DoorsForThree" (277 : Nat) ({ cls := "DoorsForThree$Givings", name := "bestPair", desc := "(I)I" } : Jvm.MethodName)),
  (Jvm.Cond.methodLink "DoorsForThree" (280 : Nat) ({ cls := "DoorsForThree$Givings", name := "gainOf", desc := "(III)I" } : Jvm.MethodName)),
  (Jvm.Cond.methodLink "DoorsForThree" (283 : Nat) ({ cls := "DoorsForThree$Givings", name := "drawDecembers", desc := "(III)I" } : Jvm.MethodName)),
  (Jvm.Cond.methodLink "DoorsForThree" (286 : Nat) ({ cls := "DoorsForThree$Deeds", name := "dayPasses", desc := "()Z" } : Jvm.MethodName)),
  (Jvm.Cond.methodLink "DoorsForThree" (292 : Nat) ({ cls := "DoorsForThree$Deeds", name := "lateFor", desc := "(I)I" } : Jvm.MethodName)),
  (Jvm.Cond.methodLink "DoorsForThree" (295 : Nat) ({ cls := "DoorsForThree$Deeds", name := "openDoor", desc := "(III)V" } : Jvm.MethodName)),
  (Jvm.Cond.methodLink "DoorsForThree" (298 : Nat) ({ cls := "DoorsForThree$Deeds", name := "closedBehind", desc := "()I" } : Jvm.MethodName)),
  (Jvm.Cond.methodLink "DoorsForThree" (310 : Nat) ({ cls := "DoorsForThree$Deeds", name := "keepImage", desc := "()V" } : Jvm.MethodName)),
  (Jvm.Cond.methodLink "DoorsForThree" (313 : Nat) ({ cls := "DoorsForThree$Deeds", name := "layBack", desc := "()Z" } : Jvm.MethodName)),
  (Jvm.Cond.methodLink "DoorsForThree" (316 : Nat) ({ cls := "DoorsForThree$Changes", name := "takeBack", desc := "(LDoorsForThree$Calendar;)Z" } : Jvm.MethodName)),
  (Jvm.Cond.methodLink "DoorsForThree" (329 : Nat) ({ cls := "DoorsForThree$Pictures", name := "isKind", desc := "(I)Z" } : Jvm.MethodName)),
  (Jvm.Cond.methodLink "DoorsForThree" (332 : Nat) ({ cls := "DoorsForThree$Pictures", name := "addBody", desc := "(I)Z" } : Jvm.MethodName)),
  (Jvm.Cond.methodLink "DoorsForThree" (356 : Nat) ({ cls := "DoorsForThree$Shelf", name := "holdRow", desc := "(II)V" } : Jvm.MethodName)),
  (Jvm.Cond.methodLink "DoorsForThree" (359 : Nat) ({ cls := "DoorsForThree$Shelf", name := "refusesRow", desc := "()I" } : Jvm.MethodName)),
  (Jvm.Cond.methodLink "DoorsForThree" (362 : Nat) ({ cls := "DoorsForThree$Shelf", name := "putIn", desc := "(IJ)Z" } : Jvm.MethodName)),
  (Jvm.Cond.methodLink "DoorsForThree" (274 : Nat) ({ cls := "DoorsForThree$Givings", name := "giveTwice", desc := "(II)V" } : Jvm.MethodName))]
def am_lkX0 : List Cond := [
  (Jvm.Cond.methodLink "DoorsForThree$Calendar" (1 : Nat) ({ cls := "java/lang/Object", name := "<init>", desc := "()V" } : Jvm.MethodName)),
  (Jvm.Cond.fieldLink "DoorsForThree$Calendar" (11 : Nat) "DoorsForThree$Calendar" "numbers" "[[I"),
  (Jvm.Cond.fieldLink "DoorsForThree$Calendar" (14 : Nat) "DoorsForThree$Calendar" "doors" "I"),
  (Jvm.Cond.fieldLink "DoorsForThree$Calendar" (18 : Nat) "DoorsForThree$Calendar" "children" "I"),
  (Jvm.Cond.fieldLink "DoorsForThree$Calendar" (39 : Nat) "DoorsForThree$Calendar" "version" "I"),
  (Jvm.Cond.fieldLink "DoorsForThree$Calendar" (28 : Nat) "DoorsForThree$Calendar" "LEAST" "[I"),
  (Jvm.Cond.fieldLink "DoorsForThree$Calendar" (32 : Nat) "DoorsForThree$Calendar" "MOST" "[I"),
  (Jvm.Cond.methodLink "DoorsForThree$Calendar" (42 : Nat) ({ cls := "DoorsForThree$Calendar", name := "set", desc := "(III)V" } : Jvm.MethodName)),
  (Jvm.Cond.methodLink "DoorsForThree$Calendar" (35 : Nat) ({ cls := "DoorsForThree$Calendar", name := "has", desc := "(II)Z" } : Jvm.MethodName)),
  (Jvm.Cond.methodLink "DoorsForThree$Calendar" (21 : Nat) ({ cls := "DoorsForThree$Calendar", name := "hasDoor", desc := "(I)Z" } : Jvm.MethodName)),
  (Jvm.Cond.methodLink "DoorsForThree$Calendar" (25 : Nat) ({ cls := "DoorsForThree$Calendar", name := "hasChild", desc := "(I)Z" } : Jvm.MethodName)),
  (Jvm.Cond.methodLink "DoorsForThree$Calendar" (46 : Nat) ({ cls := "DoorsForThree$Calendar", name := "get", desc := "(II)I" } : Jvm.MethodName)),
  (Jvm.Cond.methodLink "DoorsForThree$Calendar" (50 : Nat) ({ cls := "DoorsForThree$Calendar", name := "isAway", desc := "(II)Z" } : Jvm.MethodName)),
  (Jvm.Cond.methodLink "DoorsForThree$Calendar" (53 : Nat) ({ cls := "java/lang/Math", name := "min", desc := "(II)I" } : Jvm.MethodName))]
def am_lkX3 : List Cond := [
  (Jvm.Cond.fieldLinkNest "DoorsForThree$Fairest" (38 : Nat) "DoorsForThree$Calendar" "doors" "I" "DoorsForThree"),
  (Jvm.Cond.fieldLinkNest "DoorsForThree$Fairest" (43 : Nat) "DoorsForThree$Calendar" "children" "I" "DoorsForThree"),
  (Jvm.Cond.fieldLinkNest "DoorsForThree$Fairest" (46 : Nat) "DoorsForThree$Givings" "seenVersion" "I" "DoorsForThree"),
  (Jvm.Cond.fieldLinkNest "DoorsForThree$Fairest" (84 : Nat) "DoorsForThree$Givings" "eaten" "[[I" "DoorsForThree"),
  (Jvm.Cond.methodLink "DoorsForThree$Fairest" (3 : Nat) ({ cls := "java/lang/Object", name := "<init>", desc := "()V" } : Jvm.MethodName)),
  (Jvm.Cond.fieldLink "DoorsForThree$Fairest" (30 : Nat) "DoorsForThree$Fairest" "calendar" "LDoorsForThree$Calendar;"),
  (Jvm.Cond.fieldLink "DoorsForThree$Fairest" (34 : Nat) "DoorsForThree$Fairest" "givings" "LDoorsForThree$Givings;"),
  (Jvm.Cond.fieldLink "DoorsForThree$Fairest" (9 : Nat) "DoorsForThree$Fairest" "seenVersion" "I"),
  (Jvm.Cond.fieldLink "DoorsForThree$Fairest" (17 : Nat) "DoorsForThree$Fairest" "eaten" "[[I"),
  (Jvm.Cond.fieldLink "DoorsForThree$Fairest" (20 : Nat) "DoorsForThree$Fairest" "whose" "[I"),
  (Jvm.Cond.fieldLink "DoorsForThree$Fairest" (24 : Nat) "DoorsForThree$Fairest" "fairest" "[I"),
  (Jvm.Cond.fieldLink "DoorsForThree$Fairest" (27 : Nat) "DoorsForThree$Fairest" "held" "[[I"),
  (Jvm.Cond.fieldLink "DoorsForThree$Fairest" (59 : Nat) "DoorsForThree$Fairest" "unfair" "I"),
  (Jvm.Cond.fieldLink "DoorsForThree$Fairest" (62 : Nat) "DoorsForThree$Fairest" "together" "I"),
  (Jvm.Cond.fieldLink "DoorsForThree$Fairest" (65 : Nat) "DoorsForThree$Fairest" "withoutEnvy" "I"),
  (Jvm.Cond.methodLink "DoorsForThree$Fairest" (49 : Nat) ({ cls := "DoorsForThree$Fairest", name := "isTooWide", desc := "()Z" } : Jvm.MethodName)),
  (Jvm.Cond.methodLink "DoorsForThree$Fairest" (53 : Nat) ({ cls := "DoorsForThree$Fairest", name := "giveAllToFirst", desc := "()V" } : Jvm.MethodName)),
  (Jvm.Cond.methodLink "DoorsForThree$Fairest" (78 : Nat) ({ cls := "java/util/Arrays", name := "fill", desc := "([II)V" } : Jvm.MethodName)),
  (Jvm.Cond.constant "DoorsForThree$Fairest" (58 : Nat) (2147483647 : Int32)),
  (Jvm.Cond.methodLink "DoorsForThree$Fairest" (68 : Nat) ({ cls := "DoorsForThree$Fairest", name := "howMany", desc := "()I" } : Jvm.MethodName)),
  (Jvm.Cond.methodLink "DoorsForThree$Fairest" (72 : Nat) ({ cls := "DoorsForThree$Fairest", name := "weigh", desc := "()V" } : Jvm.MethodName)),
  (Jvm.Cond.methodLink "DoorsForThree$Fairest" (85 : Nat) ({ cls := "java/lang/Math", name := "max", desc := "(II)I" } : Jvm.MethodName)),
  (Jvm.Cond.methodLink "DoorsForThree$Fairest" (91 : Nat) ({ cls := "java/lang/Math", name := "min", desc := "(II)I" } : Jvm.MethodName)),
  (Jvm.Cond.methodLink "DoorsForThree$Fairest" (94 : Nat) ({ cls := "java/lang/System", name := "arraycopy", desc := "(Ljava/lang/Object;ILjava/lang/Object;II)V" } : Jvm.MethodName)),
  (Jvm.Cond.methodLink "DoorsForThree$Fairest" (75 : Nat) ({ cls := "DoorsForThree$Fairest", name := "goOn", desc := "()V" } : Jvm.MethodName)),
  (Jvm.Cond.methodLink "DoorsForThree$Fairest" (100 : Nat) ({ cls := "DoorsForThree$Fairest", name := "handOver", desc := "(II)V" } : Jvm.MethodName))]
def am_lkX4 : List Cond := [
  (Jvm.Cond.fieldLinkNest "DoorsForThree$Givings" (70 : Nat) "DoorsForThree$Calendar" "doors" "I" "DoorsForThree"),
  (Jvm.Cond.fieldLinkNest "DoorsForThree$Givings" (67 : Nat) "DoorsForThree$Calendar" "children" "I" "DoorsForThree"),
  (Jvm.Cond.methodLink "DoorsForThree$Givings" (3 : Nat) ({ cls := "java/lang/Object", name := "<init>", desc := "()V" } : Jvm.MethodName)),
  (Jvm.Cond.fieldLink "DoorsForThree$Givings" (47 : Nat) "DoorsForThree$Givings" "calendar" "LDoorsForThree$Calendar;"),
  (Jvm.Cond.fieldLink "DoorsForThree$Givings" (51 : Nat) "DoorsForThree$Givings" "worths" "LDoorsForThree$Worths;"),
  (Jvm.Cond.fieldLink "DoorsForThree$Givings" (9 : Nat) "DoorsForThree$Givings" "seenVersion" "I"),
  (Jvm.Cond.fieldLink "DoorsForThree$Givings" (17 : Nat) "DoorsForThree$Givings" "byDay" "[I"),
  (Jvm.Cond.fieldLink "DoorsForThree$Givings" (21 : Nat) "DoorsForThree$Givings" "byAge" "[I"),
  (Jvm.Cond.fieldLink "DoorsForThree$Givings" (26 : Nat) "DoorsForThree$Givings" "eaten" "[[I"),
  (Jvm.Cond.fieldLink "DoorsForThree$Givings" (29 : Nat) "DoorsForThree$Givings" "given" "[[I"),
  (Jvm.Cond.fieldLink "DoorsForThree$Givings" (32 : Nat) "DoorsForThree$Givings" "sums" "[[I"),
  (Jvm.Cond.fieldLink "DoorsForThree$Givings" (35 : Nat) "DoorsForThree$Givings" "offered" "[I"),
  (Jvm.Cond.fieldLink "DoorsForThree$Givings" (38 : Nat) "DoorsForThree$Givings" "tried" "[I"),
  (Jvm.Cond.fieldLink "DoorsForThree$Givings" (41 : Nat) "DoorsForThree$Givings" "triedSums" "[I"),
  (Jvm.Cond.fieldLink "DoorsForThree$Givings" (44 : Nat) "DoorsForThree$Givings" "mine" "[I"),
  (Jvm.Cond.fieldLink "DoorsForThree$Givings" (153 : Nat) "DoorsForThree$Givings" "mineMany" "I"),
  (Jvm.Cond.methodLink "DoorsForThree$Givings" (55 : Nat) ({ cls := "DoorsForThree$Worths", name := "version", desc := "()I" } : Jvm.MethodName)),
  (Jvm.Cond.methodLink "DoorsForThree$Givings" (61 : Nat) ({ cls := "DoorsForThree$Givings", name := "orderDoors", desc := "()V" } : Jvm.MethodName)),
  (Jvm.Cond.methodLink "DoorsForThree$Givings" (73 : Nat) ({ cls := "DoorsForThree$Calendar", name := "get", desc := "(II)I" } : Jvm.MethodName)),
  (Jvm.Cond.methodLink "DoorsForThree$Givings" (64 : Nat) ({ cls := "DoorsForThree$Givings", name := "orderChildren", desc := "()V" } : Jvm.MethodName)),
  (Jvm.Cond.methodLink "DoorsForThree$Givings" (77 : Nat) ({ cls := "DoorsForThree$Worths", name := "worthEaten", desc := "(III)I" } : Jvm.MethodName)),
  (Jvm.Cond.methodLink "DoorsForThree$Givings" (81 : Nat) ({ cls := "DoorsForThree$Givings", name := "giveBy", desc := "(I)V" } : Jvm.MethodName)),
  (Jvm.Cond.methodLink "DoorsForThree$Givings" (85 : Nat) ({ cls := "java/util/Arrays", name := "fill", desc := "([II)V" } : Jvm.MethodName)),
  (Jvm.Cond.methodLink "DoorsForThree$Givings" (91 : Nat) ({ cls := "DoorsForThree$Givings", name := "giveOffered", desc := "(II[I)I" } : Jvm.MethodName)),
  (Jvm.Cond.methodLink "DoorsForThree$Givings" (95 : Nat) ({ cls := "DoorsForThree$Givings", name := "chosen", desc := "(II[I)I" } : Jvm.MethodName)),
  (Jvm.Cond.methodLink "DoorsForThree$Givings" (102 : Nat) ({ cls := "DoorsForThree$Givings", name := "mostWilling", desc := "(I[I)I" } : Jvm.MethodName)),
  (Jvm.Cond.methodLink "DoorsForThree$Givings" (106 : Nat) ({ cls := "DoorsForThree$Givings", name := "will", desc := "(II[I)I" } : Jvm.MethodName)),
  (Jvm.Cond.methodLink "DoorsForThree$Givings" (98 : Nat) ({ cls := "DoorsForThree$Calendar", name := "hasChild", desc := "(I)Z" } : Jvm.MethodName)),
  (Jvm.Cond.methodLink "DoorsForThree$Givings" (109 : Nat) ({ cls := "DoorsForThree$Givings", name := "unfairOf", desc := "([I)I" } : Jvm.MethodName)),
  (Jvm.Cond.methodLink "DoorsForThree$Givings" (113 : Nat) ({ cls := "java/lang/Math", name := "max", desc := "(II)I" } : Jvm.MethodName)),
  (Jvm.Cond.methodLink "DoorsForThree$Givings" (118 : Nat) ({ cls := "java/lang/Math", name := "min", desc := "(II)I" } : Jvm.MethodName)),
  (Jvm.Cond.methodLink "DoorsForThree$Givings" (121 : Nat) ({ cls := "DoorsForThree$Givings", name := "worthTo", desc := "(III)I" } : Jvm.MethodName)),
  (Jvm.Cond.methodLink "DoorsForThree$Givings" (124 : Nat) ({ cls := "DoorsForThree$Givings", name := "unfairBy", desc := "(I)I" } : Jvm.MethodName)),
  (Jvm.Cond.methodLink "DoorsForThree$Givings" (128 : Nat) ({ cls := "DoorsForThree$Givings", name := "togetherBy", desc := "(I)I" } : Jvm.MethodName)),
  (Jvm.Cond.methodLink "DoorsForThree$Givings" (131 : Nat) ({ cls := "java/lang/System", name := "arraycopy", desc := "(Ljava/lang/Object;ILjava/lang/Object;II)V" } : Jvm.MethodName)),
  (Jvm.Cond.methodLink "DoorsForThree$Givings" (137 : Nat) ({ cls := "DoorsForThree$Givings", name := "firstSwap", desc := "()I" } : Jvm.MethodName)),
  (Jvm.Cond.methodLink "DoorsForThree$Givings" (140 : Nat) ({ cls := "DoorsForThree$Givings", name := "pleasesBoth", desc := "(II)Z" } : Jvm.MethodName)),
  (Jvm.Cond.methodLink "DoorsForThree$Givings" (144 : Nat) ({ cls := "DoorsForThree$Givings", name := "firstSwapBy", desc := "(I)I" } : Jvm.MethodName)),
  (Jvm.Cond.methodLink "DoorsForThree$Givings" (147 : Nat) ({ cls := "DoorsForThree$Givings", name := "sumTried", desc := "()V" } : Jvm.MethodName)),
  (Jvm.Cond.methodLink "DoorsForThree$Givings" (150 : Nat) ({ cls := "DoorsForThree$Calendar", name := "late", desc := "(II)I" } : Jvm.MethodName)),
  (Jvm.Cond.methodLink "DoorsForThree$Givings" (160 : Nat) ({ cls := "DoorsForThree$Givings", name := "gathered", desc := "(II)I" } : Jvm.MethodName)),
  (Jvm.Cond.methodLink "DoorsForThree$Givings" (156 : Nat) ({ cls := "DoorsForThree$Worths", name := "worthLate", desc := "(IIII)I" } : Jvm.MethodName)),
  (Jvm.Cond.methodLink "DoorsForThree$Givings" (163 : Nat) ({ cls := "DoorsForThree$Givings", name := "gainOf", desc := "(III)I" } : Jvm.MethodName)),
  (Jvm.Cond.methodLink "DoorsForThree$Givings" (166 : Nat) ({ cls := "DoorsForThree$Givings", name := "drawOne", desc := "(I)I" } : Jvm.MethodName)),
  (Jvm.Cond.constant "DoorsForThree$Givings" (175 : Nat) (1103515245 : Int32)),
  (Jvm.Cond.methodLink "DoorsForThree$Givings" (169 : Nat) ({ cls := "DoorsForThree$Givings", name := "triedUnfair", desc := "()I" } : Jvm.MethodName)),
  (Jvm.Cond.methodLink "DoorsForThree$Givings" (172 : Nat) ({ cls := "DoorsForThree$Givings", name := "hasMost", desc := "(I)Z" } : Jvm.MethodName))]
def am_lkX8 : List Cond := [
  (Jvm.Cond.fieldLinkNest "DoorsForThree$Signs" (54 : Nat) "DoorsForThree$Calendar" "doors" "I" "DoorsForThree"),
  (Jvm.Cond.fieldLinkNest "DoorsForThree$Signs" (43 : Nat) "DoorsForThree$Calendar" "children" "I" "DoorsForThree"),
  (Jvm.Cond.methodLink "DoorsForThree$Signs" (3 : Nat) ({ cls := "java/lang/Object", name := "<init>", desc := "()V" } : Jvm.MethodName)),
  (Jvm.Cond.fieldLink "DoorsForThree$Signs" (9 : Nat) "DoorsForThree$Signs" "calendar" "LDoorsForThree$Calendar;"),
  (Jvm.Cond.fieldLink "DoorsForThree$Signs" (15 : Nat) "DoorsForThree$Signs" "givings" "LDoorsForThree$Givings;"),
  (Jvm.Cond.fieldLinkNest "DoorsForThree$Signs" (19 : Nat) "DoorsForThree$Shelf" "length" "I" "DoorsForThree"),
  (Jvm.Cond.methodLink "DoorsForThree$Signs" (25 : Nat) ({ cls := "DoorsForThree$Shelf", name := "at", desc := "(I)J" } : Jvm.MethodName)),
  (Jvm.Cond.methodLink "DoorsForThree$Signs" (29 : Nat) ({ cls := "DoorsForThree$Calendar", name := "hasDoor", desc := "(I)Z" } : Jvm.MethodName)),
  (Jvm.Cond.methodLink "DoorsForThree$Signs" (35 : Nat) ({ cls := "DoorsForThree$Calendar", name := "get", desc := "(II)I" } : Jvm.MethodName)),
  (Jvm.Cond.methodLink "DoorsForThree$Signs" (39 : Nat) ({ cls := "DoorsForThree$Signs", name := "earlyOnes", desc := "(LDoorsForThree$Shelf;I)I" } : Jvm.MethodName)),
  (Jvm.Cond.methodLink "DoorsForThree$Signs" (46 : Nat) ({ cls := "DoorsForThree$Calendar", name := "isAway", desc := "(II)Z" } : Jvm.MethodName)),
  (Jvm.Cond.methodLink "DoorsForThree$Signs" (50 : Nat) ({ cls := "DoorsForThree$Signs", name := "hasReason", desc := "(III)Z" } : Jvm.MethodName)),
  (Jvm.Cond.methodLink "DoorsForThree$Signs" (57 : Nat) ({ cls := "DoorsForThree$Givings", name := "owner", desc := "(II)I" } : Jvm.MethodName)),
  (Jvm.Cond.methodLink "DoorsForThree$Signs" (62 : Nat) ({ cls := "DoorsForThree$Signs", name := "leftBy", desc := "(II)I" } : Jvm.MethodName)),
  (Jvm.Cond.methodLink "DoorsForThree$Signs" (65 : Nat) ({ cls := "java/lang/Integer", name := "bitCount", desc := "(I)I" } : Jvm.MethodName)),
  (Jvm.Cond.methodLink "DoorsForThree$Signs" (71 : Nat) ({ cls := "DoorsForThree$Signs", name := "isSo", desc := "(III)Z" } : Jvm.MethodName)),
  (Jvm.Cond.methodLink "DoorsForThree$Signs" (74 : Nat) ({ cls := "DoorsForThree$Calendar", name := "hasChild", desc := "(I)Z" } : Jvm.MethodName))]
def am_lkX2 : List Cond := [
  (Jvm.Cond.fieldLinkNest "DoorsForThree$Deeds" (52 : Nat) "DoorsForThree$Calendar" "doors" "I" "DoorsForThree"),
  (Jvm.Cond.methodLink "DoorsForThree$Deeds" (3 : Nat) ({ cls := "java/lang/Object", name := "<init>", desc := "()V" } : Jvm.MethodName)),
  (Jvm.Cond.methodLink "DoorsForThree$Deeds" (24 : Nat) ({ cls := "java/util/Arrays", name := "fill", desc := "([II)V" } : Jvm.MethodName)),
  (Jvm.Cond.fieldLink "DoorsForThree$Deeds" (20 : Nat) "DoorsForThree$Deeds" "calendar" "LDoorsForThree$Calendar;"),
  (Jvm.Cond.fieldLink "DoorsForThree$Deeds" (11 : Nat) "DoorsForThree$Deeds" "openers" "[I"),
  (Jvm.Cond.fieldLink "DoorsForThree$Deeds" (30 : Nat) "DoorsForThree$Deeds" "today" "I"),
  (Jvm.Cond.fieldLink "DoorsForThree$Deeds" (43 : Nat) "DoorsForThree$Deeds" "opened" "I"),
  (Jvm.Cond.fieldLink "DoorsForThree$Deeds" (49 : Nat) "DoorsForThree$Deeds" "early" "I"),
  (Jvm.Cond.fieldLink "DoorsForThree$Deeds" (46 : Nat) "DoorsForThree$Deeds" "worth" "I"),
  (Jvm.Cond.fieldLink "DoorsForThree$Deeds" (77 : Nat) "DoorsForThree$Deeds" "hasImage" "Z"),
  (Jvm.Cond.fieldLink "DoorsForThree$Deeds" (17 : Nat) "DoorsForThree$Deeds" "imageOpeners" "[I"),
  (Jvm.Cond.fieldLink "DoorsForThree$Deeds" (65 : Nat) "DoorsForThree$Deeds" "imageToday" "I"),
  (Jvm.Cond.fieldLink "DoorsForThree$Deeds" (68 : Nat) "DoorsForThree$Deeds" "imageOpened" "I"),
  (Jvm.Cond.fieldLink "DoorsForThree$Deeds" (71 : Nat) "DoorsForThree$Deeds" "imageEarly" "I"),
  (Jvm.Cond.fieldLink "DoorsForThree$Deeds" (74 : Nat) "DoorsForThree$Deeds" "imageWorth" "I"),
  (Jvm.Cond.methodLink "DoorsForThree$Deeds" (34 : Nat) ({ cls := "DoorsForThree$Calendar", name := "get", desc := "(II)I" } : Jvm.MethodName)),
  (Jvm.Cond.methodLink "DoorsForThree$Deeds" (38 : Nat) ({ cls := "java/lang/Math", name := "max", desc := "(II)I" } : Jvm.MethodName)),
  (Jvm.Cond.methodLink "DoorsForThree$Deeds" (55 : Nat) ({ cls := "DoorsForThree$Deeds", name := "opener", desc := "(I)I" } : Jvm.MethodName)),
  (Jvm.Cond.methodLink "DoorsForThree$Deeds" (59 : Nat) ({ cls := "java/lang/System", name := "arraycopy", desc := "(Ljava/lang/Object;ILjava/lang/Object;II)V" } : Jvm.MethodName))]
def am_lkX9 : List Cond := [
  (Jvm.Cond.fieldLinkNest "DoorsForThree$Worths" (21 : Nat) "DoorsForThree$Calendar" "version" "I" "DoorsForThree"),
  (Jvm.Cond.fieldLinkNest "DoorsForThree$Worths" (27 : Nat) "DoorsForThree$Law" "version" "I" "DoorsForThree"),
  (Jvm.Cond.methodLink "DoorsForThree$Worths" (1 : Nat) ({ cls := "java/lang/Object", name := "<init>", desc := "()V" } : Jvm.MethodName)),
  (Jvm.Cond.fieldLink "DoorsForThree$Worths" (13 : Nat) "DoorsForThree$Worths" "calendar" "LDoorsForThree$Calendar;"),
  (Jvm.Cond.fieldLink "DoorsForThree$Worths" (17 : Nat) "DoorsForThree$Worths" "law" "LDoorsForThree$Law;"),
  (Jvm.Cond.fieldLink "DoorsForThree$Worths" (7 : Nat) "DoorsForThree$Worths" "named" "[I"),
  (Jvm.Cond.methodLink "DoorsForThree$Worths" (30 : Nat) ({ cls := "DoorsForThree$Calendar", name := "get", desc := "(II)I" } : Jvm.MethodName)),
  (Jvm.Cond.methodLink "DoorsForThree$Worths" (34 : Nat) ({ cls := "DoorsForThree$Law", name := "stands", desc := "()Z" } : Jvm.MethodName)),
  (Jvm.Cond.methodLink "DoorsForThree$Worths" (38 : Nat) ({ cls := "java/lang/Math", name := "max", desc := "(II)I" } : Jvm.MethodName)),
  (Jvm.Cond.methodLink "DoorsForThree$Worths" (43 : Nat) ({ cls := "DoorsForThree$Law", name := "workOut", desc := "([I)I" } : Jvm.MethodName)),
  (Jvm.Cond.methodLink "DoorsForThree$Worths" (47 : Nat) ({ cls := "java/lang/Math", name := "min", desc := "(II)I" } : Jvm.MethodName)),
  (Jvm.Cond.methodLink "DoorsForThree$Worths" (50 : Nat) ({ cls := "DoorsForThree$Calendar", name := "late", desc := "(II)I" } : Jvm.MethodName)),
  (Jvm.Cond.methodLink "DoorsForThree$Worths" (53 : Nat) ({ cls := "DoorsForThree$Worths", name := "worthLate", desc := "(IIII)I" } : Jvm.MethodName))]
def am_lkX1 : List Cond := [
  (Jvm.Cond.methodLink "DoorsForThree$Changes" (1 : Nat) ({ cls := "java/lang/Object", name := "<init>", desc := "()V" } : Jvm.MethodName)),
  (Jvm.Cond.fieldLink "DoorsForThree$Changes" (9 : Nat) "DoorsForThree$Changes" "kept" "[I"),
  (Jvm.Cond.fieldLink "DoorsForThree$Changes" (13 : Nat) "DoorsForThree$Changes" "done" "I"),
  (Jvm.Cond.fieldLink "DoorsForThree$Changes" (23 : Nat) "DoorsForThree$Changes" "undone" "I"),
  (Jvm.Cond.methodLink "DoorsForThree$Changes" (17 : Nat) ({ cls := "java/lang/System", name := "arraycopy", desc := "(Ljava/lang/Object;ILjava/lang/Object;II)V" } : Jvm.MethodName)),
  (Jvm.Cond.methodLink "DoorsForThree$Changes" (26 : Nat) ({ cls := "DoorsForThree$Calendar", name := "set", desc := "(III)V" } : Jvm.MethodName))]
def am_lkX5 : List Cond := [
  (Jvm.Cond.methodLink "DoorsForThree$Law" (3 : Nat) ({ cls := "java/lang/Object", name := "<init>", desc := "()V" } : Jvm.MethodName)),
  (Jvm.Cond.fieldLink "DoorsForThree$Law" (9 : Nat) "DoorsForThree$Law" "tape" "[I"),
  (Jvm.Cond.fieldLink "DoorsForThree$Law" (22 : Nat) "DoorsForThree$Law" "letters" "I"),
  (Jvm.Cond.fieldLink "DoorsForThree$Law" (26 : Nat) "DoorsForThree$Law" "at" "I"),
  (Jvm.Cond.fieldLink "DoorsForThree$Law" (13 : Nat) "DoorsForThree$Law" "draft" "[I"),
  (Jvm.Cond.fieldLink "DoorsForThree$Law" (29 : Nat) "DoorsForThree$Law" "drafted" "I"),
  (Jvm.Cond.fieldLink "DoorsForThree$Law" (16 : Nat) "DoorsForThree$Law" "steps" "[I"),
  (Jvm.Cond.fieldLink "DoorsForThree$Law" (42 : Nat) "DoorsForThree$Law" "kept" "I"),
  (Jvm.Cond.fieldLink "DoorsForThree$Law" (45 : Nat) "DoorsForThree$Law" "version" "I"),
  (Jvm.Cond.fieldLink "DoorsForThree$Law" (19 : Nat) "DoorsForThree$Law" "stack" "[I"),
  (Jvm.Cond.fieldLink "DoorsForThree$Law" (103 : Nat) "DoorsForThree$Law" "top" "I"),
  (Jvm.Cond.methodLink "DoorsForThree$Law" (32 : Nat) ({ cls := "DoorsForThree$Law", name := "readLines", desc := "()Z" } : Jvm.MethodName)),
  (Jvm.Cond.methodLink "DoorsForThree$Law" (48 : Nat) ({ cls := "DoorsForThree$Law", name := "readLine", desc := "()Z" } : Jvm.MethodName)),
  (Jvm.Cond.methodLink "DoorsForThree$Law" (57 : Nat) ({ cls := "DoorsForThree$Law", name := "readLevel", desc := "(II)Z" } : Jvm.MethodName)),
  (Jvm.Cond.methodLink "DoorsForThree$Law" (67 : Nat) ({ cls := "DoorsForThree$Law", name := "readOperand", desc := "(I)Z" } : Jvm.MethodName)),
  (Jvm.Cond.stringRef "DoorsForThree$Law" (85 : Nat) "swdank"),
  (Jvm.Cond.methodLink "DoorsForThree$Law" (53 : Nat) ({ cls := "DoorsForThree$Law", name := "pass", desc := "(Ljava/lang/String;)I" } : Jvm.MethodName)),
  (Jvm.Cond.methodLink "DoorsForThree$Law" (97 : Nat) ({ cls := "java/lang/String", name := "indexOf", desc := "(I)I" } : Jvm.MethodName)),
  (Jvm.Cond.methodLink "DoorsForThree$Law" (63 : Nat) ({ cls := "DoorsForThree$Law", name := "draftStep", desc := "(I)V" } : Jvm.MethodName)),
  (Jvm.Cond.methodLink "DoorsForThree$Law" (87 : Nat) ({ cls := "DoorsForThree$Law", name := "isDigitNext", desc := "()Z" } : Jvm.MethodName)),
  (Jvm.Cond.methodLink "DoorsForThree$Law" (90 : Nat) ({ cls := "DoorsForThree$Law", name := "readNumber", desc := "()V" } : Jvm.MethodName)),
  (Jvm.Cond.stringRef "DoorsForThree$Law" (93 : Nat) "(!-"),
  (Jvm.Cond.stringRef "DoorsForThree$Law" (95 : Nat) ")"),
  (Jvm.Cond.methodLink "DoorsForThree$Law" (71 : Nat) ({ cls := "DoorsForThree$Law", name := "signsOf", desc := "(I)Ljava/lang/String;" } : Jvm.MethodName)),
  (Jvm.Cond.stringRef "DoorsForThree$Law" (75 : Nat) "|"),
  (Jvm.Cond.stringRef "DoorsForThree$Law" (77 : Nat) "&"),
  (Jvm.Cond.stringRef "DoorsForThree$Law" (79 : Nat) "<=>"),
  (Jvm.Cond.stringRef "DoorsForThree$Law" (81 : Nat) "+-"),
  (Jvm.Cond.stringRef "DoorsForThree$Law" (83 : Nat) "*/%"),
  (Jvm.Cond.stringRef "DoorsForThree$Law" (61 : Nat) "?"),
  (Jvm.Cond.stringRef "DoorsForThree$Law" (51 : Nat) ";"),
  (Jvm.Cond.methodLink "DoorsForThree$Law" (36 : Nat) ({ cls := "java/lang/System", name := "arraycopy", desc := "(Ljava/lang/Object;ILjava/lang/Object;II)V" } : Jvm.MethodName)),
  (Jvm.Cond.methodLink "DoorsForThree$Law" (106 : Nat) ({ cls := "DoorsForThree$Law", name := "pop", desc := "()I" } : Jvm.MethodName)),
  (Jvm.Cond.methodLink "DoorsForThree$Law" (110 : Nat) ({ cls := "DoorsForThree$Law", name := "takeStep", desc := "(I[I)V" } : Jvm.MethodName)),
  (Jvm.Cond.methodLink "DoorsForThree$Law" (114 : Nat) ({ cls := "DoorsForThree$Law", name := "push", desc := "(I)V" } : Jvm.MethodName)),
  (Jvm.Cond.methodLink "DoorsForThree$Law" (117 : Nat) ({ cls := "DoorsForThree$Law", name := "joined", desc := "(III)I" } : Jvm.MethodName))]
def am_lkX6 : List Cond := [
  (Jvm.Cond.methodLink "DoorsForThree$Pictures" (1 : Nat) ({ cls := "java/lang/Object", name := "<init>", desc := "()V" } : Jvm.MethodName)),
  (Jvm.Cond.fieldLink "DoorsForThree$Pictures" (9 : Nat) "DoorsForThree$Pictures" "kinds" "[I"),
  (Jvm.Cond.fieldLink "DoorsForThree$Pictures" (19 : Nat) "DoorsForThree$Pictures" "bodies" "I"),
  (Jvm.Cond.fieldLink "DoorsForThree$Pictures" (13 : Nat) "DoorsForThree$Pictures" "trace" "[I"),
  (Jvm.Cond.fieldLink "DoorsForThree$Pictures" (16 : Nat) "DoorsForThree$Pictures" "ABOVE" "[I")]
def am_lkX7 : List Cond := [
  (Jvm.Cond.methodLink "DoorsForThree$Shelf" (3 : Nat) ({ cls := "java/lang/Object", name := "<init>", desc := "()V" } : Jvm.MethodName)),
  (Jvm.Cond.fieldLink "DoorsForThree$Shelf" (11 : Nat) "DoorsForThree$Shelf" "holds" "I"),
  (Jvm.Cond.fieldLink "DoorsForThree$Shelf" (25 : Nat) "DoorsForThree$Shelf" "sort" "I"),
  (Jvm.Cond.fieldLink "DoorsForThree$Shelf" (19 : Nat) "DoorsForThree$Shelf" "length" "I"),
  (Jvm.Cond.fieldLink "DoorsForThree$Shelf" (15 : Nat) "DoorsForThree$Shelf" "cells" "[J"),
  (Jvm.Cond.methodLink "DoorsForThree$Shelf" (43 : Nat) ({ cls := "DoorsForThree$Shelf", name := "refusesRow", desc := "()I" } : Jvm.MethodName)),
  (Jvm.Cond.methodLink "DoorsForThree$Shelf" (47 : Nat) ({ cls := "DoorsForThree$Shelf", name := "hasPlace", desc := "(I)Z" } : Jvm.MethodName)),
  (Jvm.Cond.methodLink "DoorsForThree$Shelf" (28 : Nat) ({ cls := "java/lang/Math", name := "min", desc := "(II)I" } : Jvm.MethodName)),
  (Jvm.Cond.methodLink "DoorsForThree$Shelf" (34 : Nat) ({ cls := "java/lang/Math", name := "max", desc := "(II)I" } : Jvm.MethodName)),
  (Jvm.Cond.methodLink "DoorsForThree$Shelf" (37 : Nat) ({ cls := "java/util/Arrays", name := "fill", desc := "([JJ)V" } : Jvm.MethodName)),
  (Jvm.Cond.methodLink "DoorsForThree$Shelf" (51 : Nat) ({ cls := "DoorsForThree$Shelf", name := "lowest", desc := "(J)J" } : Jvm.MethodName))]
def am_lkJ0 : List Cond := [
  (Jvm.Cond.methodLink "java/lang/String" (633 : Nat) ({ cls := "java/lang/String", name := "indexOf", desc := "(II)I" } : Jvm.MethodName)),
  (Jvm.Cond.methodLink "java/lang/String" (492 : Nat) ({ cls := "java/lang/String", name := "isLatin1", desc := "()Z" } : Jvm.MethodName)),
  (Jvm.Cond.fieldLink "java/lang/String" (38 : Nat) "java/lang/String" "COMPACT_STRINGS" "Z"),
  (Jvm.Cond.methodLink "java/lang/String" (505 : Nat) ({ cls := "java/lang/String", name := "length", desc := "()I" } : Jvm.MethodName)),
  (Jvm.Cond.methodLink "java/lang/String" (335 : Nat) ({ cls := "java/lang/String", name := "coder", desc := "()B" } : Jvm.MethodName)),
  (Jvm.Cond.methodLink "java/lang/String" (637 : Nat) ({ cls := "java/lang/StringLatin1", name := "indexOf", desc := "([BIII)I" } : Jvm.MethodName)),
  (Jvm.Cond.methodLink "java/lang/String" (640 : Nat) ({ cls := "java/lang/StringUTF16", name := "indexOf", desc := "([BIII)I" } : Jvm.MethodName)),
  (Jvm.Cond.fieldLink "java/lang/String" (1053 : Nat) "jdk/internal/util/Preconditions" "SIOOBE_FORMATTER" "Ljava/util/function/BiFunction;"),
  (Jvm.Cond.methodLink "java/lang/String" (1062 : Nat) ({ cls := "jdk/internal/util/Preconditions", name := "checkFromToIndex", desc := "(IIILjava/util/function/BiFunction;)I" } : Jvm.MethodName)),
  (Jvm.Cond.fieldLink "java/lang/String" (1048 : Nat) "java/lang/AbstractStringBuilder" "maybeLatin1" "Z"),
  (Jvm.Cond.methodLink "java/lang/String" (1065 : Nat) ({ cls := "jdk/internal/util/Preconditions", name := "checkFromIndexSize", desc := "(IIILjava/util/function/BiFunction;)I" } : Jvm.MethodName)),
  (Jvm.Cond.methodLink "java/lang/String" (212 : Nat) ({ cls := "java/lang/System", name := "arraycopy", desc := "(Ljava/lang/Object;ILjava/lang/Object;II)V" } : Jvm.MethodName)),
  (Jvm.Cond.methodLink "java/lang/String" (106 : Nat) ({ cls := "java/lang/StringLatin1", name := "inflate", desc := "([BI[BII)V" } : Jvm.MethodName)),
  (Jvm.Cond.methodLink "java/lang/String" (495 : Nat) ({ cls := "java/lang/StringLatin1", name := "charAt", desc := "([BI)C" } : Jvm.MethodName)),
  (Jvm.Cond.methodLink "java/lang/String" (1059 : Nat) ({ cls := "jdk/internal/util/Preconditions", name := "checkIndex", desc := "(IILjava/util/function/BiFunction;)I" } : Jvm.MethodName)),
  (Jvm.Cond.methodLink "java/lang/String" (498 : Nat) ({ cls := "java/lang/StringUTF16", name := "charAt", desc := "([BI)C" } : Jvm.MethodName)),
  (Jvm.Cond.methodLink "java/lang/String" (489 : Nat) ({ cls := "java/lang/String", name := "<init>", desc := "(Ljava/lang/AbstractStringBuilder;Ljava/lang/Void;)V" } : Jvm.MethodName)),
  (Jvm.Cond.methodLink "java/lang/String" (1 : Nat) ({ cls := "java/lang/Object", name := "<init>", desc := "()V" } : Jvm.MethodName)),
  (Jvm.Cond.methodLink "java/lang/String" (552 : Nat) ({ cls := "java/lang/AbstractStringBuilder", name := "getValue", desc := "()[B" } : Jvm.MethodName)),
  (Jvm.Cond.methodLink "java/lang/String" (549 : Nat) ({ cls := "java/lang/AbstractStringBuilder", name := "length", desc := "()I" } : Jvm.MethodName)),
  (Jvm.Cond.methodLink "java/lang/String" (1047 : Nat) ({ cls := "java/lang/AbstractStringBuilder", name := "isLatin1", desc := "()Z" } : Jvm.MethodName)),
  (Jvm.Cond.methodLink "java/lang/String" (54 : Nat) ({ cls := "java/util/Arrays", name := "copyOfRange", desc := "([BII)[B" } : Jvm.MethodName)),
  (Jvm.Cond.methodLink "java/lang/String" (1051 : Nat) ({ cls := "java/lang/StringUTF16", name := "compress", desc := "([BII)[B" } : Jvm.MethodName)),
  (Jvm.Cond.methodLink "java/lang/String" (47 : Nat) ({ cls := "java/lang/StringUTF16", name := "coderFromArrayLen", desc := "([BI)B" } : Jvm.MethodName)),
  (Jvm.Cond.fieldLink "java/lang/String" (9 : Nat) "java/lang/String" "value" "[B"),
  (Jvm.Cond.fieldLink "java/lang/String" (15 : Nat) "java/lang/String" "coder" "B")]
def am_lkJ1 : List Cond := [
  (Jvm.Cond.methodLink "java/lang/StringLatin1" (88 : Nat) ({ cls := "java/lang/StringLatin1", name := "canEncode", desc := "(I)Z" } : Jvm.MethodName)),
  (Jvm.Cond.methodLink "java/lang/StringLatin1" (92 : Nat) ({ cls := "java/lang/Math", name := "max", desc := "(II)I" } : Jvm.MethodName)),
  (Jvm.Cond.methodLink "java/lang/StringLatin1" (38 : Nat) ({ cls := "java/lang/Math", name := "min", desc := "(II)I" } : Jvm.MethodName)),
  (Jvm.Cond.methodLink "java/lang/StringLatin1" (95 : Nat) ({ cls := "java/lang/StringLatin1", name := "indexOfChar", desc := "([BIII)I" } : Jvm.MethodName)),
  (Jvm.Cond.methodLink "java/lang/StringLatin1" (240 : Nat) ({ cls := "java/lang/StringUTF16", name := "inflate", desc := "([BI[BII)V" } : Jvm.MethodName)),
  (Jvm.Cond.methodLink "java/lang/StringLatin1" (9 : Nat) ({ cls := "java/lang/String", name := "checkIndex", desc := "(II)V" } : Jvm.MethodName))]
def am_lkJ6 : List Cond := [
  (Jvm.Cond.constant "java/lang/Integer" (265 : Nat) (1431655765 : Int32)),
  (Jvm.Cond.constant "java/lang/Integer" (266 : Nat) (858993459 : Int32)),
  (Jvm.Cond.constant "java/lang/Integer" (267 : Nat) (252645135 : Int32)),
  (Jvm.Cond.fieldLink "java/lang/Integer" (83 : Nat) "java/lang/Integer" "DigitOnes" "[B"),
  (Jvm.Cond.fieldLink "java/lang/Integer" (87 : Nat) "java/lang/Integer" "DigitTens" "[B")]
def am_lkJ7 : List Cond := [
  (Jvm.Cond.methodLink "java/util/Arrays" (310 : Nat) ({ cls := "[B", name := "clone", desc := "()Ljava/lang/Object;" } : Jvm.MethodName)),
  (Jvm.Cond.methodLink "java/util/Arrays" (304 : Nat) ({ cls := "java/lang/Math", name := "min", desc := "(II)I" } : Jvm.MethodName)),
  (Jvm.Cond.methodLink "java/util/Arrays" (150 : Nat) ({ cls := "java/lang/System", name := "arraycopy", desc := "(Ljava/lang/Object;ILjava/lang/Object;II)V" } : Jvm.MethodName)),
  (Jvm.Cond.methodLink "java/util/Arrays" (339 : Nat) ({ cls := "java/util/Arrays", name := "copyOfRangeByte", desc := "([BII)[B" } : Jvm.MethodName)),
  (Jvm.Cond.methodLink "java/util/Arrays" (343 : Nat) ({ cls := "java/util/Arrays", name := "checkLength", desc := "(II)V" } : Jvm.MethodName))]
def am_lks : Nat → List Cond
  | 0 => am_lkL
  | 1 => am_lkX10
  | 2 => am_lkX0
  | 3 => am_lkX3
  | 4 => am_lkX4
  | 5 => am_lkX8
  | 6 => am_lkX2
  | 7 => am_lkX9
  | 8 => am_lkX1
  | 9 => am_lkX5
  | 10 => am_lkX6
  | 11 => am_lkX7
  | 12 => am_lkJ0
  | 13 => am_lkJ1
  | 14 => am_lkJ6
  | 15 => am_lkJ7
  | _ => []
/-- yX0_hasDoor -/
def mt_0 : List am_row := [
  (0, .iload_n 1, 1, 0, 0, 0, 0, []),
  (1, .ifCond .lt 15, 3, 8, 0, 0, 0, []),
  (4, .iload_n 1, 1, 0, 0, 0, 0, []),
  (5, .aload_n 0, 1, 0, 0, 0, 0, []),
  (6, .getfield 14, 3, 0, 1, 0, 0, []),
  (9, .if_icmp .ge 7, 3, 8, 0, 0, 0, []),
  (12, .iconst 1, 1, 0, 0, 0, 1, []),
  (13, .goto 4, 3, 9, 0, 0, 0, []),
  (16, .iconst 0, 1, 0, 0, 0, 0, []),
  (17, .ireturn, 1, 1, 0, 0, 0, [])]
/-- yX0_hasChild -/
def mt_1 : List am_row := [
  (0, .iload_n 1, 1, 0, 0, 0, 0, []),
  (1, .ifCond .lt 15, 3, 8, 0, 0, 0, []),
  (4, .iload_n 1, 1, 0, 0, 0, 0, []),
  (5, .aload_n 0, 1, 0, 0, 0, 0, []),
  (6, .getfield 18, 3, 0, 2, 0, 0, []),
  (9, .if_icmp .ge 7, 3, 8, 0, 0, 0, []),
  (12, .iconst 1, 1, 0, 0, 0, 1, []),
  (13, .goto 4, 3, 9, 0, 0, 0, []),
  (16, .iconst 0, 1, 0, 0, 0, 0, []),
  (17, .ireturn, 1, 1, 0, 0, 0, [])]
/-- yX0_has -/
def mt_2 : List am_row := [
  (0, .iload_n 1, 1, 0, 0, 0, 0, []),
  (1, .ifCond .lt 9, 3, 5, 0, 0, 0, []),
  (4, .iload_n 1, 1, 0, 0, 0, 0, []),
  (5, .bipush 9, 2, 0, 0, 0, 9, []),
  (7, .if_icmp .le 5, 3, 7, 0, 0, 0, []),
  (10, .iconst 0, 1, 0, 0, 0, 0, []),
  (11, .ireturn, 1, 1, 0, 0, 0, []),
  (12, .iload_n 1, 1, 0, 0, 0, 0, []),
  (13, .iconst 2, 1, 0, 0, 0, 2, []),
  (14, .if_icmp .gt 9, 3, 14, 0, 0, 0, []),
  (17, .aload_n 0, 1, 0, 0, 0, 0, []),
  (18, .iload_n 2, 1, 0, 0, 0, 0, []),
  (19, .invokevirtual 21, 3, 0, 2, 1, 0, []),
  (22, .ireturn, 1, 1, 0, 0, 0, []),
  (23, .iload_n 1, 1, 0, 0, 0, 0, []),
  (24, .bipush 7, 2, 0, 0, 0, 7, []),
  (26, .if_icmp .gt 11, 3, 21, 0, 0, 0, []),
  (29, .aload_n 0, 1, 0, 0, 0, 0, []),
  (30, .iload_n 2, 1, 0, 0, 0, 0, []),
  (31, .invokevirtual 25, 3, 1, 2, 1, 0, []),
  (34, .goto 12, 3, 26, 0, 0, 0, []),
  (37, .iload_n 2, 1, 0, 0, 0, 0, []),
  (38, .ifCond .ne 7, 3, 25, 0, 0, 0, []),
  (41, .iconst 1, 1, 0, 0, 0, 1, []),
  (42, .goto 4, 3, 26, 0, 0, 0, []),
  (45, .iconst 0, 1, 0, 0, 0, 0, []),
  (46, .ireturn, 1, 1, 0, 0, 0, [])]
/-- yX0_fits -/
def mt_3 : List am_row := [
  (0, .iload_n 1, 1, 0, 0, 0, 0, []),
  (1, .ifCond .lt 31, 3, 17, 0, 0, 0, []),
  (4, .iload_n 1, 1, 0, 0, 0, 0, []),
  (5, .bipush 9, 2, 0, 0, 0, 9, []),
  (7, .if_icmp .gt 25, 3, 17, 0, 0, 0, []),
  (10, .iload_n 2, 1, 0, 0, 0, 0, []),
  (11, .getstatic 28, 3, 114, 0, 0, 0, []),
  (14, .iload_n 1, 1, 0, 0, 0, 0, []),
  (15, .iaload, 1, 0, 0, 0, 0, []),
  (16, .if_icmp .lt 16, 3, 17, 0, 0, 0, []),
  (19, .iload_n 2, 1, 0, 0, 0, 0, []),
  (20, .getstatic 32, 3, 115, 0, 0, 0, []),
  (23, .iload_n 1, 1, 0, 0, 0, 0, []),
  (24, .iaload, 1, 0, 0, 0, 0, []),
  (25, .if_icmp .gt 7, 3, 17, 0, 0, 0, []),
  (28, .iconst 1, 1, 0, 0, 0, 1, []),
  (29, .goto 4, 3, 18, 0, 0, 0, []),
  (32, .iconst 0, 1, 0, 0, 0, 0, []),
  (33, .ireturn, 1, 1, 0, 0, 0, [])]
/-- yX0_get -/
def mt_4 : List am_row := [
  (0, .iload_n 1, 1, 0, 0, 0, 0, []),
  (1, .ifCond .lt 19, 3, 10, 0, 0, 0, []),
  (4, .iload_n 1, 1, 0, 0, 0, 0, []),
  (5, .bipush 9, 2, 0, 0, 0, 9, []),
  (7, .if_icmp .gt 13, 3, 10, 0, 0, 0, []),
  (10, .iload_n 2, 1, 0, 0, 0, 0, []),
  (11, .ifCond .lt 9, 3, 10, 0, 0, 0, []),
  (14, .iload_n 2, 1, 0, 0, 0, 0, []),
  (15, .bipush 12, 2, 0, 0, 0, 12, []),
  (17, .if_icmp .lt 5, 3, 12, 0, 0, 0, []),
  (20, .iconst 0, 1, 0, 0, 0, 0, []),
  (21, .ireturn, 1, 0, 0, 0, 0, []),
  (22, .aload_n 0, 1, 0, 0, 0, 0, []),
  (23, .getfield 11, 3, 0, 0, 2, 0, []),
  (26, .iload_n 1, 1, 0, 0, 0, 0, []),
  (27, .aaload, 1, 0, 0, 0, 0, []),
  (28, .iload_n 2, 1, 0, 0, 0, 0, []),
  (29, .iaload, 1, 0, 0, 0, 0, []),
  (30, .ireturn, 1, 0, 0, 0, 0, [])]
/-- yX0_set -/
def mt_5 : List am_row := [
  (0, .aload_n 0, 1, 0, 0, 0, 0, []),
  (1, .iload_n 1, 1, 0, 0, 0, 0, []),
  (2, .iload_n 2, 1, 0, 0, 0, 0, []),
  (3, .invokevirtual 35, 3, 2, 3, 1, 0, []),
  (6, .ifCond .eq 22, 3, 18, 0, 0, 0, []),
  (9, .aload_n 0, 1, 0, 0, 0, 0, []),
  (10, .getfield 11, 3, 0, 0, 2, 0, []),
  (13, .iload_n 1, 1, 0, 0, 0, 0, []),
  (14, .aaload, 1, 0, 0, 0, 0, []),
  (15, .iload_n 2, 1, 0, 0, 0, 0, []),
  (16, .iload_n 3, 1, 0, 0, 0, 0, []),
  (17, .iastore, 1, 0, 0, 0, 0, []),
  (18, .aload_n 0, 1, 0, 0, 0, 0, []),
  (19, .dup, 1, 0, 0, 0, 0, []),
  (20, .getfield 39, 3, 0, 3, 0, 0, []),
  (23, .iconst 1, 1, 0, 0, 0, 1, []),
  (24, .iadd, 1, 0, 0, 0, 0, []),
  (25, .putfield 39, 3, 0, 3, 0, 0, []),
  (28, .return_, 1, 0, 0, 0, 0, [])]
/-- yX0_addDoor -/
def mt_6 : List am_row := [
  (0, .aload_n 0, 1, 0, 0, 0, 0, []),
  (1, .getfield 14, 3, 0, 1, 0, 0, []),
  (4, .bipush 12, 2, 0, 0, 0, 12, []),
  (6, .if_icmp .lt 5, 3, 6, 0, 0, 0, []),
  (9, .iconst 0, 1, 0, 0, 0, 0, []),
  (10, .ireturn, 1, 1, 0, 0, 0, []),
  (11, .aload_n 0, 1, 0, 0, 0, 0, []),
  (12, .dup, 1, 0, 0, 0, 0, []),
  (13, .getfield 14, 3, 0, 1, 0, 0, []),
  (16, .iconst 1, 1, 0, 0, 0, 1, []),
  (17, .iadd, 1, 0, 0, 0, 0, []),
  (18, .putfield 14, 3, 0, 1, 0, 0, []),
  (21, .aload_n 0, 1, 0, 0, 0, 0, []),
  (22, .iconst 0, 1, 0, 0, 0, 0, []),
  (23, .aload_n 0, 1, 0, 0, 0, 0, []),
  (24, .getfield 14, 3, 0, 1, 0, 0, []),
  (27, .iconst 1, 1, 0, 0, 0, 1, []),
  (28, .isub, 1, 0, 0, 0, 0, []),
  (29, .iload_n 1, 1, 0, 0, 0, 0, []),
  (30, .invokevirtual 42, 3, 5, 4, 0, 0, []),
  (33, .aload_n 0, 1, 0, 0, 0, 0, []),
  (34, .iconst 1, 1, 0, 0, 0, 1, []),
  (35, .aload_n 0, 1, 0, 0, 0, 0, []),
  (36, .getfield 14, 3, 0, 1, 0, 0, []),
  (39, .iconst 1, 1, 0, 0, 0, 1, []),
  (40, .isub, 1, 0, 0, 0, 0, []),
  (41, .iload_n 2, 1, 0, 0, 0, 0, []),
  (42, .invokevirtual 42, 3, 5, 4, 0, 0, []),
  (45, .aload_n 0, 1, 0, 0, 0, 0, []),
  (46, .iconst 2, 1, 0, 0, 0, 2, []),
  (47, .aload_n 0, 1, 0, 0, 0, 0, []),
  (48, .getfield 14, 3, 0, 1, 0, 0, []),
  (51, .iconst 1, 1, 0, 0, 0, 1, []),
  (52, .isub, 1, 0, 0, 0, 0, []),
  (53, .iload_n 3, 1, 0, 0, 0, 0, []),
  (54, .invokevirtual 42, 3, 5, 4, 0, 0, []),
  (57, .iconst 1, 1, 0, 0, 0, 1, []),
  (58, .ireturn, 1, 1, 0, 0, 0, [])]
/-- yX0_addChild -/
def mt_7 : List am_row := [
  (0, .aload_n 0, 1, 0, 0, 0, 0, []),
  (1, .getfield 18, 3, 0, 2, 0, 0, []),
  (4, .iconst 5, 1, 0, 0, 0, 5, []),
  (5, .if_icmp .lt 5, 3, 6, 0, 0, 0, []),
  (8, .iconst 0, 1, 0, 0, 0, 0, []),
  (9, .ireturn, 1, 1, 0, 0, 0, []),
  (10, .aload_n 0, 1, 0, 0, 0, 0, []),
  (11, .dup, 1, 0, 0, 0, 0, []),
  (12, .getfield 18, 3, 0, 2, 0, 0, []),
  (15, .iconst 1, 1, 0, 0, 0, 1, []),
  (16, .iadd, 1, 0, 0, 0, 0, []),
  (17, .putfield 18, 3, 0, 2, 0, 0, []),
  (20, .aload_n 0, 1, 0, 0, 0, 0, []),
  (21, .iconst 3, 1, 0, 0, 0, 3, []),
  (22, .aload_n 0, 1, 0, 0, 0, 0, []),
  (23, .getfield 18, 3, 0, 2, 0, 0, []),
  (26, .iconst 1, 1, 0, 0, 0, 1, []),
  (27, .isub, 1, 0, 0, 0, 0, []),
  (28, .iload_n 1, 1, 0, 0, 0, 0, []),
  (29, .invokevirtual 42, 3, 5, 4, 0, 0, []),
  (32, .aload_n 0, 1, 0, 0, 0, 0, []),
  (33, .iconst 4, 1, 0, 0, 0, 4, []),
  (34, .aload_n 0, 1, 0, 0, 0, 0, []),
  (35, .getfield 18, 3, 0, 2, 0, 0, []),
  (38, .iconst 1, 1, 0, 0, 0, 1, []),
  (39, .isub, 1, 0, 0, 0, 0, []),
  (40, .iload_n 2, 1, 0, 0, 0, 0, []),
  (41, .invokevirtual 42, 3, 5, 4, 0, 0, []),
  (44, .aload_n 0, 1, 0, 0, 0, 0, []),
  (45, .iconst 5, 1, 0, 0, 0, 5, []),
  (46, .aload_n 0, 1, 0, 0, 0, 0, []),
  (47, .getfield 18, 3, 0, 2, 0, 0, []),
  (50, .iconst 1, 1, 0, 0, 0, 1, []),
  (51, .isub, 1, 0, 0, 0, 0, []),
  (52, .iconst 5, 1, 0, 0, 0, 5, []),
  (53, .invokevirtual 42, 3, 5, 4, 0, 0, []),
  (56, .iconst 1, 1, 0, 0, 0, 1, []),
  (57, .ireturn, 1, 1, 0, 0, 0, [])]
/-- yX0_isAway -/
def mt_8 : List am_row := [
  (0, .aload_n 0, 1, 0, 0, 0, 0, []),
  (1, .bipush 6, 2, 0, 0, 0, 6, []),
  (3, .iload_n 1, 1, 0, 0, 0, 0, []),
  (4, .invokevirtual 46, 3, 4, 3, 1, 0, []),
  (7, .istore_n 3, 1, 0, 0, 0, 0, []),
  (8, .iload_n 3, 1, 0, 0, 0, 0, []),
  (9, .ifCond .eq 23, 3, 18, 0, 0, 0, []),
  (12, .iload_n 3, 1, 0, 0, 0, 0, []),
  (13, .iload_n 2, 1, 0, 0, 0, 0, []),
  (14, .if_icmp .gt 18, 3, 18, 0, 0, 0, []),
  (17, .iload_n 2, 1, 0, 0, 0, 0, []),
  (18, .aload_n 0, 1, 0, 0, 0, 0, []),
  (19, .bipush 7, 2, 0, 0, 0, 7, []),
  (21, .iload_n 1, 1, 0, 0, 0, 0, []),
  (22, .invokevirtual 46, 3, 4, 3, 1, 0, []),
  (25, .if_icmp .gt 7, 3, 18, 0, 0, 0, []),
  (28, .iconst 1, 1, 0, 0, 0, 1, []),
  (29, .goto 4, 3, 19, 0, 0, 0, []),
  (32, .iconst 0, 1, 0, 0, 0, 0, []),
  (33, .ireturn, 1, 1, 0, 0, 0, [])]
/-- yX0_late -/
def mt_9 : List am_row := [
  (0, .aload_n 0, 1, 0, 0, 0, 0, []),
  (1, .iconst 0, 1, 0, 0, 0, 0, []),
  (2, .iload_n 2, 1, 0, 0, 0, 0, []),
  (3, .invokevirtual 46, 3, 4, 3, 1, 0, []),
  (6, .istore_n 3, 1, 0, 0, 0, 0, []),
  (7, .aload_n 0, 1, 0, 0, 0, 0, []),
  (8, .iload_n 1, 1, 0, 0, 0, 0, []),
  (9, .iload_n 3, 1, 0, 0, 0, 0, []),
  (10, .invokevirtual 50, 3, 8, 3, 1, 0, []),
  (13, .ifCond .ne 5, 3, 12, 0, 0, 0, []),
  (16, .iconst 0, 1, 0, 0, 0, 0, []),
  (17, .ireturn, 1, 0, 0, 0, 0, []),
  (18, .aload_n 0, 1, 0, 0, 0, 0, []),
  (19, .bipush 7, 2, 0, 0, 0, 7, []),
  (21, .iload_n 1, 1, 0, 0, 0, 0, []),
  (22, .invokevirtual 46, 3, 4, 3, 1, 0, []),
  (25, .iconst 1, 1, 0, 0, 0, 1, []),
  (26, .iadd, 1, 0, 0, 0, 0, []),
  (27, .istore 4, 2, 0, 0, 0, 0, []),
  (29, .iload 4, 2, 0, 0, 0, 0, []),
  (31, .bipush 24, 2, 0, 0, 0, 24, []),
  (33, .if_icmp .gt 10, 3, 26, 0, 0, 0, []),
  (36, .iload 4, 2, 0, 0, 0, 0, []),
  (38, .iload_n 3, 1, 0, 0, 0, 0, []),
  (39, .isub, 1, 0, 0, 0, 0, []),
  (40, .goto 4, 3, 27, 0, 0, 0, []),
  (43, .iconst (-1), 1, 0, 0, 0, -1, []),
  (44, .ireturn, 1, 0, 0, 0, 0, [])]
/-- yX0_doorsAway -/
def mt_10 : List am_row := [
  (0, .iconst 0, 1, 0, 0, 0, 0, []),
  (1, .istore_n 2, 1, 0, 0, 0, 0, []),
  (2, .iconst 0, 1, 0, 0, 0, 0, []),
  (3, .istore_n 3, 1, 0, 0, 0, 0, []),
  (4, .iload_n 3, 1, 0, 0, 0, 0, []),
  (5, .aload_n 0, 1, 0, 0, 0, 0, []),
  (6, .getfield 14, 3, 0, 1, 0, 0, []),
  (9, .if_icmp .ge 26, 3, 19, 0, 0, 0, []),
  (12, .aload_n 0, 1, 0, 0, 0, 0, []),
  (13, .iload_n 1, 1, 0, 0, 0, 0, []),
  (14, .aload_n 0, 1, 0, 0, 0, 0, []),
  (15, .iconst 0, 1, 0, 0, 0, 0, []),
  (16, .iload_n 3, 1, 0, 0, 0, 0, []),
  (17, .invokevirtual 46, 3, 4, 3, 1, 0, []),
  (20, .invokevirtual 50, 3, 8, 3, 1, 0, []),
  (23, .ifCond .eq 6, 3, 17, 0, 0, 0, []),
  (26, .iinc 2 1, 3, 0, 0, 0, 1, []),
  (29, .iinc 3 1, 3, 0, 0, 0, 1, []),
  (32, .goto (-28), 3, 4, 0, 0, 0, []),
  (35, .iload_n 2, 1, 0, 0, 0, 0, []),
  (36, .ireturn, 1, 0, 0, 0, 0, [])]
/-- yX0_holdsOutTill -/
def mt_11 : List am_row := [
  (0, .aload_n 0, 1, 0, 0, 0, 0, []),
  (1, .bipush 8, 2, 0, 0, 0, 8, []),
  (3, .iconst 0, 1, 0, 0, 0, 0, []),
  (4, .invokevirtual 46, 3, 4, 3, 1, 0, []),
  (7, .ifCond .ne 7, 3, 7, 0, 0, 0, []),
  (10, .iconst 2, 1, 0, 0, 0, 2, []),
  (11, .goto 4, 3, 8, 0, 0, 0, []),
  (14, .iconst 0, 1, 0, 0, 0, 0, []),
  (15, .istore_n 2, 1, 0, 0, 0, 0, []),
  (16, .aload_n 0, 1, 0, 0, 0, 0, []),
  (17, .iconst 5, 1, 0, 0, 0, 5, []),
  (18, .iload_n 1, 1, 0, 0, 0, 0, []),
  (19, .invokevirtual 46, 3, 4, 3, 1, 0, []),
  (22, .iconst 3, 1, 0, 0, 0, 3, []),
  (23, .imul, 1, 0, 0, 0, 0, []),
  (24, .iload_n 2, 1, 0, 0, 0, 0, []),
  (25, .iadd, 1, 0, 0, 0, 0, []),
  (26, .bipush 24, 2, 0, 0, 0, 24, []),
  (28, .invokestatic 53, 3, 1001, 2, 1, 0, []),
  (31, .ireturn, 1, 0, 0, 0, 0, [])]
/-- yX1_keepChange -/
def mt_12 : List am_row := [
  (0, .aload_n 0, 1, 0, 0, 0, 0, []),
  (1, .getfield 13, 3, 1, 1, 0, 0, []),
  (4, .bipush 40, 2, 0, 0, 0, 40, []),
  (6, .if_icmp .lt 25, 3, 15, 0, 0, 0, []),
  (9, .aload_n 0, 1, 0, 0, 0, 0, []),
  (10, .getfield 9, 3, 1, 0, 2, 0, []),
  (13, .iconst 4, 1, 0, 0, 0, 4, []),
  (14, .aload_n 0, 1, 0, 0, 0, 0, []),
  (15, .getfield 9, 3, 1, 0, 2, 0, []),
  (18, .iconst 0, 1, 0, 0, 0, 0, []),
  (19, .sipush 156, 3, 0, 0, 0, 156, []),
  (22, .invokestatic 17, 3, 1002, 5, 0, 0, []),
  (25, .aload_n 0, 1, 0, 0, 0, 0, []),
  (26, .bipush 39, 2, 0, 0, 0, 39, []),
  (28, .putfield 13, 3, 1, 1, 0, 0, []),
  (31, .aload_n 0, 1, 0, 0, 0, 0, []),
  (32, .getfield 13, 3, 1, 1, 0, 0, []),
  (35, .iconst 4, 1, 0, 0, 0, 4, []),
  (36, .imul, 1, 0, 0, 0, 0, []),
  (37, .istore 5, 2, 0, 0, 0, 0, []),
  (39, .aload_n 0, 1, 0, 0, 0, 0, []),
  (40, .getfield 9, 3, 1, 0, 2, 0, []),
  (43, .iload 5, 2, 0, 0, 0, 0, []),
  (45, .iload_n 1, 1, 0, 0, 0, 0, []),
  (46, .iastore, 1, 0, 0, 0, 0, []),
  (47, .aload_n 0, 1, 0, 0, 0, 0, []),
  (48, .getfield 9, 3, 1, 0, 2, 0, []),
  (51, .iload 5, 2, 0, 0, 0, 0, []),
  (53, .iconst 1, 1, 0, 0, 0, 1, []),
  (54, .iadd, 1, 0, 0, 0, 0, []),
  (55, .iload_n 2, 1, 0, 0, 0, 0, []),
  (56, .iastore, 1, 0, 0, 0, 0, []),
  (57, .aload_n 0, 1, 0, 0, 0, 0, []),
  (58, .getfield 9, 3, 1, 0, 2, 0, []),
  (61, .iload 5, 2, 0, 0, 0, 0, []),
  (63, .iconst 2, 1, 0, 0, 0, 2, []),
  (64, .iadd, 1, 0, 0, 0, 0, []),
  (65, .iload_n 3, 1, 0, 0, 0, 0, []),
  (66, .iastore, 1, 0, 0, 0, 0, []),
  (67, .aload_n 0, 1, 0, 0, 0, 0, []),
  (68, .getfield 9, 3, 1, 0, 2, 0, []),
  (71, .iload 5, 2, 0, 0, 0, 0, []),
  (73, .iconst 3, 1, 0, 0, 0, 3, []),
  (74, .iadd, 1, 0, 0, 0, 0, []),
  (75, .iload 4, 2, 0, 0, 0, 0, []),
  (77, .iastore, 1, 0, 0, 0, 0, []),
  (78, .aload_n 0, 1, 0, 0, 0, 0, []),
  (79, .dup, 1, 0, 0, 0, 0, []),
  (80, .getfield 13, 3, 1, 1, 0, 0, []),
  (83, .iconst 1, 1, 0, 0, 0, 1, []),
  (84, .iadd, 1, 0, 0, 0, 0, []),
  (85, .putfield 13, 3, 1, 1, 0, 0, []),
  (88, .aload_n 0, 1, 0, 0, 0, 0, []),
  (89, .iconst 0, 1, 0, 0, 0, 0, []),
  (90, .putfield 23, 3, 1, 2, 0, 0, []),
  (93, .return_, 1, 0, 0, 0, 0, [])]
/-- yX1_takeBack -/
def mt_13 : List am_row := [
  (0, .aload_n 0, 1, 0, 0, 0, 0, []),
  (1, .getfield 13, 3, 1, 1, 0, 0, []),
  (4, .ifCond .gt 5, 3, 5, 0, 0, 0, []),
  (7, .iconst 0, 1, 0, 0, 0, 0, []),
  (8, .ireturn, 1, 1, 0, 0, 0, []),
  (9, .aload_n 0, 1, 0, 0, 0, 0, []),
  (10, .dup, 1, 0, 0, 0, 0, []),
  (11, .getfield 13, 3, 1, 1, 0, 0, []),
  (14, .iconst 1, 1, 0, 0, 0, 1, []),
  (15, .isub, 1, 0, 0, 0, 0, []),
  (16, .putfield 13, 3, 1, 1, 0, 0, []),
  (19, .aload_n 0, 1, 0, 0, 0, 0, []),
  (20, .dup, 1, 0, 0, 0, 0, []),
  (21, .getfield 23, 3, 1, 2, 0, 0, []),
  (24, .iconst 1, 1, 0, 0, 0, 1, []),
  (25, .iadd, 1, 0, 0, 0, 0, []),
  (26, .putfield 23, 3, 1, 2, 0, 0, []),
  (29, .aload_n 0, 1, 0, 0, 0, 0, []),
  (30, .getfield 13, 3, 1, 1, 0, 0, []),
  (33, .iconst 4, 1, 0, 0, 0, 4, []),
  (34, .imul, 1, 0, 0, 0, 0, []),
  (35, .istore_n 2, 1, 0, 0, 0, 0, []),
  (36, .aload_n 1, 1, 0, 0, 0, 0, []),
  (37, .aload_n 0, 1, 0, 0, 0, 0, []),
  (38, .getfield 9, 3, 1, 0, 2, 0, []),
  (41, .iload_n 2, 1, 0, 0, 0, 0, []),
  (42, .iconst 1, 1, 0, 0, 0, 1, []),
  (43, .iadd, 1, 0, 0, 0, 0, []),
  (44, .iaload, 1, 0, 0, 0, 0, []),
  (45, .aload_n 0, 1, 0, 0, 0, 0, []),
  (46, .getfield 9, 3, 1, 0, 2, 0, []),
  (49, .iload_n 2, 1, 0, 0, 0, 0, []),
  (50, .iaload, 1, 0, 0, 0, 0, []),
  (51, .aload_n 0, 1, 0, 0, 0, 0, []),
  (52, .getfield 9, 3, 1, 0, 2, 0, []),
  (55, .iload_n 2, 1, 0, 0, 0, 0, []),
  (56, .iconst 2, 1, 0, 0, 0, 2, []),
  (57, .iadd, 1, 0, 0, 0, 0, []),
  (58, .iaload, 1, 0, 0, 0, 0, []),
  (59, .invokevirtual 26, 3, 5, 4, 0, 0, []),
  (62, .iconst 1, 1, 0, 0, 0, 1, []),
  (63, .ireturn, 1, 1, 0, 0, 0, [])]
/-- none -/
def mt_14 : List am_row := [
  ]
/-- yX2_opener -/
def mt_15 : List am_row := [
  (0, .iload_n 1, 1, 0, 0, 0, 0, []),
  (1, .ifCond .lt 21, 3, 12, 0, 0, 0, []),
  (4, .iload_n 1, 1, 0, 0, 0, 0, []),
  (5, .aload_n 0, 1, 0, 0, 0, 0, []),
  (6, .getfield 11, 3, 2, 1, 2, 0, []),
  (9, .arraylength, 1, 0, 0, 0, 0, []),
  (10, .if_icmp .ge 12, 3, 12, 0, 0, 0, []),
  (13, .aload_n 0, 1, 0, 0, 0, 0, []),
  (14, .getfield 11, 3, 2, 1, 2, 0, []),
  (17, .iload_n 1, 1, 0, 0, 0, 0, []),
  (18, .iaload, 1, 0, 0, 0, 0, []),
  (19, .goto 5, 3, 13, 0, 0, 0, []),
  (22, .bipush (-2), 2, 0, 0, 0, -2, []),
  (24, .ireturn, 1, 0, 0, 0, 0, [])]
/-- yX2_dayPasses -/
def mt_16 : List am_row := [
  (0, .aload_n 0, 1, 0, 0, 0, 0, []),
  (1, .getfield 30, 3, 2, 2, 0, 0, []),
  (4, .bipush 24, 2, 0, 0, 0, 24, []),
  (6, .if_icmp .lt 5, 3, 6, 0, 0, 0, []),
  (9, .iconst 0, 1, 0, 0, 0, 0, []),
  (10, .ireturn, 1, 1, 0, 0, 0, []),
  (11, .aload_n 0, 1, 0, 0, 0, 0, []),
  (12, .dup, 1, 0, 0, 0, 0, []),
  (13, .getfield 30, 3, 2, 2, 0, 0, []),
  (16, .iconst 1, 1, 0, 0, 0, 1, []),
  (17, .iadd, 1, 0, 0, 0, 0, []),
  (18, .putfield 30, 3, 2, 2, 0, 0, []),
  (21, .iconst 1, 1, 0, 0, 0, 1, []),
  (22, .ireturn, 1, 1, 0, 0, 0, [])]
/-- yX2_lateFor -/
def mt_17 : List am_row := [
  (0, .iconst 0, 1, 0, 0, 0, 0, []),
  (1, .aload_n 0, 1, 0, 0, 0, 0, []),
  (2, .getfield 30, 3, 2, 2, 0, 0, []),
  (5, .aload_n 0, 1, 0, 0, 0, 0, []),
  (6, .getfield 20, 3, 2, 0, 2, 0, []),
  (9, .iconst 0, 1, 0, 0, 0, 0, []),
  (10, .iload_n 1, 1, 0, 0, 0, 0, []),
  (11, .invokevirtual 34, 3, 4, 3, 1, 0, []),
  (14, .isub, 1, 0, 0, 0, 0, []),
  (15, .invokestatic 38, 3, 1000, 2, 1, 0, []),
  (18, .ireturn, 1, 0, 0, 0, 0, [])]
/-- yX2_openDoor -/
def mt_18 : List am_row := [
  (0, .iload_n 2, 1, 0, 0, 0, 0, []),
  (1, .ifCond .lt 12, 3, 7, 0, 0, 0, []),
  (4, .iload_n 2, 1, 0, 0, 0, 0, []),
  (5, .aload_n 0, 1, 0, 0, 0, 0, []),
  (6, .getfield 11, 3, 2, 1, 2, 0, []),
  (9, .arraylength, 1, 0, 0, 0, 0, []),
  (10, .if_icmp .lt 4, 3, 8, 0, 0, 0, []),
  (13, .return_, 1, 0, 0, 0, 0, []),
  (14, .aload_n 0, 1, 0, 0, 0, 0, []),
  (15, .getfield 11, 3, 2, 1, 2, 0, []),
  (18, .iload_n 2, 1, 0, 0, 0, 0, []),
  (19, .iload_n 1, 1, 0, 0, 0, 0, []),
  (20, .iastore, 1, 0, 0, 0, 0, []),
  (21, .aload_n 0, 1, 0, 0, 0, 0, []),
  (22, .dup, 1, 0, 0, 0, 0, []),
  (23, .getfield 43, 3, 2, 3, 0, 0, []),
  (26, .iconst 1, 1, 0, 0, 0, 1, []),
  (27, .iadd, 1, 0, 0, 0, 0, []),
  (28, .putfield 43, 3, 2, 3, 0, 0, []),
  (31, .aload_n 0, 1, 0, 0, 0, 0, []),
  (32, .dup, 1, 0, 0, 0, 0, []),
  (33, .getfield 46, 3, 2, 5, 0, 0, []),
  (36, .iload_n 3, 1, 0, 0, 0, 0, []),
  (37, .iadd, 1, 0, 0, 0, 0, []),
  (38, .putfield 46, 3, 2, 5, 0, 0, []),
  (41, .aload_n 0, 1, 0, 0, 0, 0, []),
  (42, .getfield 20, 3, 2, 0, 2, 0, []),
  (45, .iconst 0, 1, 0, 0, 0, 0, []),
  (46, .iload_n 2, 1, 0, 0, 0, 0, []),
  (47, .invokevirtual 34, 3, 4, 3, 1, 0, []),
  (50, .aload_n 0, 1, 0, 0, 0, 0, []),
  (51, .getfield 30, 3, 2, 2, 0, 0, []),
  (54, .if_icmp .le 13, 3, 39, 0, 0, 0, []),
  (57, .aload_n 0, 1, 0, 0, 0, 0, []),
  (58, .dup, 1, 0, 0, 0, 0, []),
  (59, .getfield 49, 3, 2, 4, 0, 0, []),
  (62, .iconst 1, 1, 0, 0, 0, 1, []),
  (63, .iadd, 1, 0, 0, 0, 0, []),
  (64, .putfield 49, 3, 2, 4, 0, 0, []),
  (67, .return_, 1, 0, 0, 0, 0, [])]
/-- yX2_closedBehind -/
def mt_19 : List am_row := [
  (0, .iconst 0, 1, 0, 0, 0, 0, []),
  (1, .istore_n 1, 1, 0, 0, 0, 0, []),
  (2, .iconst 0, 1, 0, 0, 0, 0, []),
  (3, .istore_n 2, 1, 0, 0, 0, 0, []),
  (4, .iload_n 2, 1, 0, 0, 0, 0, []),
  (5, .aload_n 0, 1, 0, 0, 0, 0, []),
  (6, .getfield 20, 3, 2, 0, 2, 0, []),
  (9, .getfield 52, 3, 0, 1, 0, 0, []),
  (12, .if_icmp .ge 41, 3, 30, 0, 0, 0, []),
  (15, .aload_n 0, 1, 0, 0, 0, 0, []),
  (16, .iload_n 2, 1, 0, 0, 0, 0, []),
  (17, .invokevirtual 55, 3, 15, 2, 1, 0, []),
  (20, .bipush (-2), 2, 0, 0, 0, -2, []),
  (22, .if_icmp .ne 25, 3, 28, 0, 0, 0, []),
  (25, .aload_n 0, 1, 0, 0, 0, 0, []),
  (26, .getfield 20, 3, 2, 0, 2, 0, []),
  (29, .iconst 0, 1, 0, 0, 0, 0, []),
  (30, .iload_n 2, 1, 0, 0, 0, 0, []),
  (31, .invokevirtual 34, 3, 4, 3, 1, 0, []),
  (34, .aload_n 0, 1, 0, 0, 0, 0, []),
  (35, .getfield 30, 3, 2, 2, 0, 0, []),
  (38, .if_icmp .ge 9, 3, 28, 0, 0, 0, []),
  (41, .iload_n 1, 1, 0, 0, 0, 0, []),
  (42, .iconst 1, 1, 0, 0, 0, 1, []),
  (43, .iload_n 2, 1, 0, 0, 0, 0, []),
  (44, .ishl, 1, 0, 0, 0, 0, []),
  (45, .ior, 1, 0, 0, 0, 0, []),
  (46, .istore_n 1, 1, 0, 0, 0, 0, []),
  (47, .iinc 2 1, 3, 0, 0, 0, 1, []),
  (50, .goto (-46), 3, 4, 0, 0, 0, []),
  (53, .iload_n 1, 1, 0, 0, 0, 0, []),
  (54, .ireturn, 1, 0, 0, 0, 0, [])]
/-- yX2_keepImage -/
def mt_20 : List am_row := [
  (0, .aload_n 0, 1, 0, 0, 0, 0, []),
  (1, .getfield 11, 3, 2, 1, 2, 0, []),
  (4, .iconst 0, 1, 0, 0, 0, 0, []),
  (5, .aload_n 0, 1, 0, 0, 0, 0, []),
  (6, .getfield 17, 3, 2, 7, 2, 0, []),
  (9, .iconst 0, 1, 0, 0, 0, 0, []),
  (10, .aload_n 0, 1, 0, 0, 0, 0, []),
  (11, .getfield 11, 3, 2, 1, 2, 0, []),
  (14, .arraylength, 1, 0, 0, 0, 0, []),
  (15, .invokestatic 59, 3, 1002, 5, 0, 0, []),
  (18, .aload_n 0, 1, 0, 0, 0, 0, []),
  (19, .aload_n 0, 1, 0, 0, 0, 0, []),
  (20, .getfield 30, 3, 2, 2, 0, 0, []),
  (23, .putfield 65, 3, 2, 8, 0, 0, []),
  (26, .aload_n 0, 1, 0, 0, 0, 0, []),
  (27, .aload_n 0, 1, 0, 0, 0, 0, []),
  (28, .getfield 43, 3, 2, 3, 0, 0, []),
  (31, .putfield 68, 3, 2, 9, 0, 0, []),
  (34, .aload_n 0, 1, 0, 0, 0, 0, []),
  (35, .aload_n 0, 1, 0, 0, 0, 0, []),
  (36, .getfield 49, 3, 2, 4, 0, 0, []),
  (39, .putfield 71, 3, 2, 10, 0, 0, []),
  (42, .aload_n 0, 1, 0, 0, 0, 0, []),
  (43, .aload_n 0, 1, 0, 0, 0, 0, []),
  (44, .getfield 46, 3, 2, 5, 0, 0, []),
  (47, .putfield 74, 3, 2, 11, 0, 0, []),
  (50, .aload_n 0, 1, 0, 0, 0, 0, []),
  (51, .iconst 1, 1, 0, 0, 0, 1, []),
  (52, .putfield 77, 3, 2, 6, 1, 0, []),
  (55, .return_, 1, 0, 0, 0, 0, [])]
/-- yX2_layBack -/
def mt_21 : List am_row := [
  (0, .aload_n 0, 1, 0, 0, 0, 0, []),
  (1, .getfield 77, 3, 2, 6, 1, 0, []),
  (4, .ifCond .ne 5, 3, 5, 0, 0, 0, []),
  (7, .iconst 0, 1, 0, 0, 0, 0, []),
  (8, .ireturn, 1, 1, 0, 0, 0, []),
  (9, .aload_n 0, 1, 0, 0, 0, 0, []),
  (10, .getfield 17, 3, 2, 7, 2, 0, []),
  (13, .iconst 0, 1, 0, 0, 0, 0, []),
  (14, .aload_n 0, 1, 0, 0, 0, 0, []),
  (15, .getfield 11, 3, 2, 1, 2, 0, []),
  (18, .iconst 0, 1, 0, 0, 0, 0, []),
  (19, .aload_n 0, 1, 0, 0, 0, 0, []),
  (20, .getfield 11, 3, 2, 1, 2, 0, []),
  (23, .arraylength, 1, 0, 0, 0, 0, []),
  (24, .invokestatic 59, 3, 1002, 5, 0, 0, []),
  (27, .aload_n 0, 1, 0, 0, 0, 0, []),
  (28, .aload_n 0, 1, 0, 0, 0, 0, []),
  (29, .getfield 65, 3, 2, 8, 0, 0, []),
  (32, .putfield 30, 3, 2, 2, 0, 0, []),
  (35, .aload_n 0, 1, 0, 0, 0, 0, []),
  (36, .aload_n 0, 1, 0, 0, 0, 0, []),
  (37, .getfield 68, 3, 2, 9, 0, 0, []),
  (40, .putfield 43, 3, 2, 3, 0, 0, []),
  (43, .aload_n 0, 1, 0, 0, 0, 0, []),
  (44, .aload_n 0, 1, 0, 0, 0, 0, []),
  (45, .getfield 71, 3, 2, 10, 0, 0, []),
  (48, .putfield 49, 3, 2, 4, 0, 0, []),
  (51, .aload_n 0, 1, 0, 0, 0, 0, []),
  (52, .aload_n 0, 1, 0, 0, 0, 0, []),
  (53, .getfield 74, 3, 2, 11, 0, 0, []),
  (56, .putfield 46, 3, 2, 5, 0, 0, []),
  (59, .iconst 1, 1, 0, 0, 0, 1, []),
  (60, .ireturn, 1, 1, 0, 0, 0, [])]
/-- yX3_isTooWide -/
def mt_22 : List am_row := [
  (0, .aload_n 0, 1, 0, 0, 0, 0, []),
  (1, .getfield 30, 3, 3, 0, 2, 0, []),
  (4, .getfield 38, 3, 0, 1, 0, 0, []),
  (7, .bipush 8, 2, 0, 0, 0, 8, []),
  (9, .if_icmp .gt 14, 3, 10, 0, 0, 0, []),
  (12, .aload_n 0, 1, 0, 0, 0, 0, []),
  (13, .getfield 30, 3, 3, 0, 2, 0, []),
  (16, .getfield 43, 3, 0, 2, 0, 0, []),
  (19, .iconst 3, 1, 0, 0, 0, 3, []),
  (20, .if_icmp .le 7, 3, 12, 0, 0, 0, []),
  (23, .iconst 1, 1, 0, 0, 0, 1, []),
  (24, .goto 4, 3, 13, 0, 0, 0, []),
  (27, .iconst 0, 1, 0, 0, 0, 0, []),
  (28, .ireturn, 1, 1, 0, 0, 0, [])]
/-- yX3_owner -/
def mt_23 : List am_row := [
  (0, .iload_n 1, 1, 0, 0, 0, 0, []),
  (1, .ifCond .lt 18, 3, 10, 0, 0, 0, []),
  (4, .iload_n 1, 1, 0, 0, 0, 0, []),
  (5, .bipush 8, 2, 0, 0, 0, 8, []),
  (7, .if_icmp .ge 12, 3, 10, 0, 0, 0, []),
  (10, .aload_n 0, 1, 0, 0, 0, 0, []),
  (11, .getfield 24, 3, 3, 5, 2, 0, []),
  (14, .iload_n 1, 1, 0, 0, 0, 0, []),
  (15, .iaload, 1, 0, 0, 0, 0, []),
  (16, .goto 5, 3, 11, 0, 0, 0, []),
  (19, .bipush (-2), 2, 0, 0, 0, -2, []),
  (21, .ireturn, 1, 0, 0, 0, 0, [])]
/-- yX3_findOut -/
def mt_24 : List am_row := [
  (0, .aload_n 0, 1, 0, 0, 0, 0, []),
  (1, .getfield 9, 3, 3, 2, 0, 0, []),
  (4, .aload_n 0, 1, 0, 0, 0, 0, []),
  (5, .getfield 34, 3, 3, 1, 2, 0, []),
  (8, .getfield 46, 3, 4, 2, 0, 0, []),
  (11, .if_icmp .eq 10, 3, 9, 0, 0, 0, []),
  (14, .aload_n 0, 1, 0, 0, 0, 0, []),
  (15, .invokevirtual 49, 3, 22, 1, 1, 0, []),
  (18, .ifCond .eq 4, 3, 10, 0, 0, 0, []),
  (21, .return_, 1, 0, 0, 0, 0, []),
  (22, .aload_n 0, 1, 0, 0, 0, 0, []),
  (23, .aload_n 0, 1, 0, 0, 0, 0, []),
  (24, .getfield 34, 3, 3, 1, 2, 0, []),
  (27, .getfield 46, 3, 4, 2, 0, 0, []),
  (30, .putfield 9, 3, 3, 2, 0, 0, []),
  (33, .aload_n 0, 1, 0, 0, 0, 0, []),
  (34, .invokevirtual 53, 3, 26, 1, 0, 0, []),
  (37, .aload_n 0, 1, 0, 0, 0, 0, []),
  (38, .ldc 58, 2, 0, 0, 0, 2147483647, []),
  (40, .putfield 59, 3, 3, 7, 0, 0, []),
  (43, .aload_n 0, 1, 0, 0, 0, 0, []),
  (44, .iconst 0, 1, 0, 0, 0, 0, []),
  (45, .putfield 62, 3, 3, 8, 0, 0, []),
  (48, .aload_n 0, 1, 0, 0, 0, 0, []),
  (49, .iconst 0, 1, 0, 0, 0, 0, []),
  (50, .putfield 65, 3, 3, 9, 0, 0, []),
  (53, .aload_n 0, 1, 0, 0, 0, 0, []),
  (54, .invokevirtual 68, 3, 25, 1, 1, 0, []),
  (57, .istore_n 1, 1, 0, 0, 0, 0, []),
  (58, .iconst 0, 1, 0, 0, 0, 0, []),
  (59, .istore_n 2, 1, 0, 0, 0, 0, []),
  (60, .iload_n 2, 1, 0, 0, 0, 0, []),
  (61, .iload_n 1, 1, 0, 0, 0, 0, []),
  (62, .if_icmp .ge 17, 3, 40, 0, 0, 0, []),
  (65, .aload_n 0, 1, 0, 0, 0, 0, []),
  (66, .invokevirtual 72, 3, 27, 1, 0, 0, []),
  (69, .aload_n 0, 1, 0, 0, 0, 0, []),
  (70, .invokevirtual 75, 3, 28, 1, 0, 0, []),
  (73, .iinc 2 1, 3, 0, 0, 0, 1, []),
  (76, .goto (-16), 3, 31, 0, 0, 0, []),
  (79, .return_, 1, 0, 0, 0, 0, [])]
/-- yX3_howMany -/
def mt_25 : List am_row := [
  (0, .iconst 1, 1, 0, 0, 0, 1, []),
  (1, .istore_n 1, 1, 0, 0, 0, 0, []),
  (2, .iconst 0, 1, 0, 0, 0, 0, []),
  (3, .istore_n 2, 1, 0, 0, 0, 0, []),
  (4, .iload_n 2, 1, 0, 0, 0, 0, []),
  (5, .aload_n 0, 1, 0, 0, 0, 0, []),
  (6, .getfield 30, 3, 3, 0, 2, 0, []),
  (9, .getfield 38, 3, 0, 1, 0, 0, []),
  (12, .if_icmp .ge 19, 3, 17, 0, 0, 0, []),
  (15, .iload_n 1, 1, 0, 0, 0, 0, []),
  (16, .aload_n 0, 1, 0, 0, 0, 0, []),
  (17, .getfield 30, 3, 3, 0, 2, 0, []),
  (20, .getfield 43, 3, 0, 2, 0, 0, []),
  (23, .imul, 1, 0, 0, 0, 0, []),
  (24, .istore_n 1, 1, 0, 0, 0, 0, []),
  (25, .iinc 2 1, 3, 0, 0, 0, 1, []),
  (28, .goto (-24), 3, 4, 0, 0, 0, []),
  (31, .iload_n 1, 1, 0, 0, 0, 0, []),
  (32, .ireturn, 1, 0, 0, 0, 0, [])]
/-- yX3_giveAllToFirst -/
def mt_26 : List am_row := [
  (0, .aload_n 0, 1, 0, 0, 0, 0, []),
  (1, .getfield 20, 3, 3, 4, 2, 0, []),
  (4, .iconst 0, 1, 0, 0, 0, 0, []),
  (5, .invokestatic 78, 3, 275, 2, 0, 0, []),
  (8, .iconst 0, 1, 0, 0, 0, 0, []),
  (9, .istore_n 1, 1, 0, 0, 0, 0, []),
  (10, .iload_n 1, 1, 0, 0, 0, 0, []),
  (11, .aload_n 0, 1, 0, 0, 0, 0, []),
  (12, .getfield 30, 3, 3, 0, 2, 0, []),
  (15, .getfield 43, 3, 0, 2, 0, 0, []),
  (18, .if_icmp .ge 76, 3, 56, 0, 0, 0, []),
  (21, .aload_n 0, 1, 0, 0, 0, 0, []),
  (22, .getfield 27, 3, 3, 6, 2, 0, []),
  (25, .iload_n 1, 1, 0, 0, 0, 0, []),
  (26, .aaload, 1, 0, 0, 0, 0, []),
  (27, .iconst 0, 1, 0, 0, 0, 0, []),
  (28, .invokestatic 78, 3, 275, 2, 0, 0, []),
  (31, .iconst 0, 1, 0, 0, 0, 0, []),
  (32, .istore_n 2, 1, 0, 0, 0, 0, []),
  (33, .iload_n 2, 1, 0, 0, 0, 0, []),
  (34, .aload_n 0, 1, 0, 0, 0, 0, []),
  (35, .getfield 30, 3, 3, 0, 2, 0, []),
  (38, .getfield 38, 3, 0, 1, 0, 0, []),
  (41, .if_icmp .ge 47, 3, 54, 0, 0, 0, []),
  (44, .aload_n 0, 1, 0, 0, 0, 0, []),
  (45, .getfield 17, 3, 3, 3, 2, 0, []),
  (48, .iload_n 1, 1, 0, 0, 0, 0, []),
  (49, .aaload, 1, 0, 0, 0, 0, []),
  (50, .iload_n 2, 1, 0, 0, 0, 0, []),
  (51, .aload_n 0, 1, 0, 0, 0, 0, []),
  (52, .getfield 34, 3, 3, 1, 2, 0, []),
  (55, .getfield 84, 3, 4, 5, 2, 0, []),
  (58, .iload_n 1, 1, 0, 0, 0, 0, []),
  (59, .aaload, 1, 0, 0, 0, 0, []),
  (60, .iload_n 2, 1, 0, 0, 0, 0, []),
  (61, .iaload, 1, 0, 0, 0, 0, []),
  (62, .iastore, 1, 0, 0, 0, 0, []),
  (63, .aload_n 0, 1, 0, 0, 0, 0, []),
  (64, .getfield 27, 3, 3, 6, 2, 0, []),
  (67, .iload_n 1, 1, 0, 0, 0, 0, []),
  (68, .aaload, 1, 0, 0, 0, 0, []),
  (69, .iconst 0, 1, 0, 0, 0, 0, []),
  (70, .dup2, 1, 0, 0, 0, 0, []),
  (71, .iaload, 1, 0, 0, 0, 0, []),
  (72, .aload_n 0, 1, 0, 0, 0, 0, []),
  (73, .getfield 17, 3, 3, 3, 2, 0, []),
  (76, .iload_n 1, 1, 0, 0, 0, 0, []),
  (77, .aaload, 1, 0, 0, 0, 0, []),
  (78, .iload_n 2, 1, 0, 0, 0, 0, []),
  (79, .iaload, 1, 0, 0, 0, 0, []),
  (80, .iadd, 1, 0, 0, 0, 0, []),
  (81, .iastore, 1, 0, 0, 0, 0, []),
  (82, .iinc 2 1, 3, 0, 0, 0, 1, []),
  (85, .goto (-52), 3, 19, 0, 0, 0, []),
  (88, .iinc 1 1, 3, 0, 0, 0, 1, []),
  (91, .goto (-81), 3, 6, 0, 0, 0, []),
  (94, .return_, 1, 0, 0, 0, 0, [])]
/-- yX3_weigh -/
def mt_27 : List am_row := [
  (0, .aload_n 0, 1, 0, 0, 0, 0, []),
  (1, .getfield 27, 3, 3, 6, 2, 0, []),
  (4, .iconst 0, 1, 0, 0, 0, 0, []),
  (5, .aaload, 1, 0, 0, 0, 0, []),
  (6, .iconst 0, 1, 0, 0, 0, 0, []),
  (7, .iaload, 1, 0, 0, 0, 0, []),
  (8, .istore_n 1, 1, 0, 0, 0, 0, []),
  (9, .iload_n 1, 1, 0, 0, 0, 0, []),
  (10, .istore_n 2, 1, 0, 0, 0, 0, []),
  (11, .iconst 0, 1, 0, 0, 0, 0, []),
  (12, .istore_n 3, 1, 0, 0, 0, 0, []),
  (13, .iconst 0, 1, 0, 0, 0, 0, []),
  (14, .istore 4, 2, 0, 0, 0, 0, []),
  (16, .iconst 0, 1, 0, 0, 0, 0, []),
  (17, .istore 5, 2, 0, 0, 0, 0, []),
  (19, .iload 5, 2, 0, 0, 0, 0, []),
  (21, .aload_n 0, 1, 0, 0, 0, 0, []),
  (22, .getfield 30, 3, 3, 0, 2, 0, []),
  (25, .getfield 43, 3, 0, 2, 0, 0, []),
  (28, .if_icmp .ge 86, 3, 64, 0, 0, 0, []),
  (31, .aload_n 0, 1, 0, 0, 0, 0, []),
  (32, .getfield 27, 3, 3, 6, 2, 0, []),
  (35, .iload 5, 2, 0, 0, 0, 0, []),
  (37, .aaload, 1, 0, 0, 0, 0, []),
  (38, .iload 5, 2, 0, 0, 0, 0, []),
  (40, .iaload, 1, 0, 0, 0, 0, []),
  (41, .istore 6, 2, 0, 0, 0, 0, []),
  (43, .iload_n 1, 1, 0, 0, 0, 0, []),
  (44, .iload 6, 2, 0, 0, 0, 0, []),
  (46, .invokestatic 85, 3, 1000, 2, 1, 0, []),
  (49, .istore_n 1, 1, 0, 0, 0, 0, []),
  (50, .iload_n 2, 1, 0, 0, 0, 0, []),
  (51, .iload 6, 2, 0, 0, 0, 0, []),
  (53, .invokestatic 91, 3, 1001, 2, 1, 0, []),
  (56, .istore_n 2, 1, 0, 0, 0, 0, []),
  (57, .iload_n 3, 1, 0, 0, 0, 0, []),
  (58, .iload 6, 2, 0, 0, 0, 0, []),
  (60, .iadd, 1, 0, 0, 0, 0, []),
  (61, .istore_n 3, 1, 0, 0, 0, 0, []),
  (62, .iconst 0, 1, 0, 0, 0, 0, []),
  (63, .istore 7, 2, 0, 0, 0, 0, []),
  (65, .iload 7, 2, 0, 0, 0, 0, []),
  (67, .aload_n 0, 1, 0, 0, 0, 0, []),
  (68, .getfield 30, 3, 3, 0, 2, 0, []),
  (71, .getfield 43, 3, 0, 2, 0, 0, []),
  (74, .if_icmp .ge 34, 3, 62, 0, 0, 0, []),
  (77, .iload 4, 2, 0, 0, 0, 0, []),
  (79, .aload_n 0, 1, 0, 0, 0, 0, []),
  (80, .getfield 27, 3, 3, 6, 2, 0, []),
  (83, .iload 5, 2, 0, 0, 0, 0, []),
  (85, .aaload, 1, 0, 0, 0, 0, []),
  (86, .iload 7, 2, 0, 0, 0, 0, []),
  (88, .iaload, 1, 0, 0, 0, 0, []),
  (89, .iload 6, 2, 0, 0, 0, 0, []),
  (91, .if_icmp .le 7, 3, 57, 0, 0, 0, []),
  (94, .iconst 1, 1, 0, 0, 0, 1, []),
  (95, .goto 4, 3, 58, 0, 0, 0, []),
  (98, .iconst 0, 1, 0, 0, 0, 0, []),
  (99, .ior, 1, 0, 0, 0, 0, []),
  (100, .istore 4, 2, 0, 0, 0, 0, []),
  (102, .iinc 7 1, 3, 0, 0, 0, 1, []),
  (105, .goto (-40), 3, 41, 0, 0, 0, []),
  (108, .iinc 5 1, 3, 0, 0, 0, 1, []),
  (111, .goto (-92), 3, 15, 0, 0, 0, []),
  (114, .iload 4, 2, 0, 0, 0, 0, []),
  (116, .ifCond .ne 13, 3, 72, 0, 0, 0, []),
  (119, .aload_n 0, 1, 0, 0, 0, 0, []),
  (120, .dup, 1, 0, 0, 0, 0, []),
  (121, .getfield 65, 3, 3, 9, 0, 0, []),
  (124, .iconst 1, 1, 0, 0, 0, 1, []),
  (125, .iadd, 1, 0, 0, 0, 0, []),
  (126, .putfield 65, 3, 3, 9, 0, 0, []),
  (129, .iload_n 1, 1, 0, 0, 0, 0, []),
  (130, .iload_n 2, 1, 0, 0, 0, 0, []),
  (131, .isub, 1, 0, 0, 0, 0, []),
  (132, .aload_n 0, 1, 0, 0, 0, 0, []),
  (133, .getfield 59, 3, 3, 7, 0, 0, []),
  (136, .if_icmp .lt 21, 3, 88, 0, 0, 0, []),
  (139, .iload_n 1, 1, 0, 0, 0, 0, []),
  (140, .iload_n 2, 1, 0, 0, 0, 0, []),
  (141, .isub, 1, 0, 0, 0, 0, []),
  (142, .aload_n 0, 1, 0, 0, 0, 0, []),
  (143, .getfield 59, 3, 3, 7, 0, 0, []),
  (146, .if_icmp .ne 41, 3, 106, 0, 0, 0, []),
  (149, .iload_n 3, 1, 0, 0, 0, 0, []),
  (150, .aload_n 0, 1, 0, 0, 0, 0, []),
  (151, .getfield 62, 3, 3, 8, 0, 0, []),
  (154, .if_icmp .le 33, 3, 106, 0, 0, 0, []),
  (157, .aload_n 0, 1, 0, 0, 0, 0, []),
  (158, .iload_n 1, 1, 0, 0, 0, 0, []),
  (159, .iload_n 2, 1, 0, 0, 0, 0, []),
  (160, .isub, 1, 0, 0, 0, 0, []),
  (161, .putfield 59, 3, 3, 7, 0, 0, []),
  (164, .aload_n 0, 1, 0, 0, 0, 0, []),
  (165, .iload_n 3, 1, 0, 0, 0, 0, []),
  (166, .putfield 62, 3, 3, 8, 0, 0, []),
  (169, .aload_n 0, 1, 0, 0, 0, 0, []),
  (170, .getfield 20, 3, 3, 4, 2, 0, []),
  (173, .iconst 0, 1, 0, 0, 0, 0, []),
  (174, .aload_n 0, 1, 0, 0, 0, 0, []),
  (175, .getfield 24, 3, 3, 5, 2, 0, []),
  (178, .iconst 0, 1, 0, 0, 0, 0, []),
  (179, .aload_n 0, 1, 0, 0, 0, 0, []),
  (180, .getfield 24, 3, 3, 5, 2, 0, []),
  (183, .arraylength, 1, 0, 0, 0, 0, []),
  (184, .invokestatic 94, 3, 1002, 5, 0, 0, []),
  (187, .return_, 1, 0, 0, 0, 0, [])]
/-- yX3_goOn -/
def mt_28 : List am_row := [
  (0, .aload_n 0, 1, 0, 0, 0, 0, []),
  (1, .getfield 30, 3, 3, 0, 2, 0, []),
  (4, .getfield 38, 3, 0, 1, 0, 0, []),
  (7, .iconst 1, 1, 0, 0, 0, 1, []),
  (8, .isub, 1, 0, 0, 0, 0, []),
  (9, .istore_n 1, 1, 0, 0, 0, 0, []),
  (10, .iload_n 1, 1, 0, 0, 0, 0, []),
  (11, .ifCond .lt 59, 3, 40, 0, 0, 0, []),
  (14, .aload_n 0, 1, 0, 0, 0, 0, []),
  (15, .getfield 20, 3, 3, 4, 2, 0, []),
  (18, .iload_n 1, 1, 0, 0, 0, 0, []),
  (19, .iaload, 1, 0, 0, 0, 0, []),
  (20, .aload_n 0, 1, 0, 0, 0, 0, []),
  (21, .getfield 30, 3, 3, 0, 2, 0, []),
  (24, .getfield 43, 3, 0, 2, 0, 0, []),
  (27, .iconst 1, 1, 0, 0, 0, 1, []),
  (28, .isub, 1, 0, 0, 0, 0, []),
  (29, .if_icmp .ne 7, 3, 20, 0, 0, 0, []),
  (32, .iconst 1, 1, 0, 0, 0, 1, []),
  (33, .goto 4, 3, 21, 0, 0, 0, []),
  (36, .iconst 0, 1, 0, 0, 0, 0, []),
  (37, .istore_n 2, 1, 0, 0, 0, 0, []),
  (38, .aload_n 0, 1, 0, 0, 0, 0, []),
  (39, .iload_n 1, 1, 0, 0, 0, 0, []),
  (40, .iload_n 2, 1, 0, 0, 0, 0, []),
  (41, .ifCond .eq 7, 3, 28, 0, 0, 0, []),
  (44, .iconst 0, 1, 0, 0, 0, 0, []),
  (45, .goto 11, 3, 34, 0, 0, 0, []),
  (48, .aload_n 0, 1, 0, 0, 0, 0, []),
  (49, .getfield 20, 3, 3, 4, 2, 0, []),
  (52, .iload_n 1, 1, 0, 0, 0, 0, []),
  (53, .iaload, 1, 0, 0, 0, 0, []),
  (54, .iconst 1, 1, 0, 0, 0, 1, []),
  (55, .iadd, 1, 0, 0, 0, 0, []),
  (56, .invokevirtual 100, 3, 29, 3, 0, 0, []),
  (59, .iload_n 2, 1, 0, 0, 0, 0, []),
  (60, .ifCond .ne 4, 3, 38, 0, 0, 0, []),
  (63, .return_, 1, 0, 0, 0, 0, []),
  (64, .iinc 1 (-1), 3, 0, 0, 0, -1, []),
  (67, .goto (-57), 3, 6, 0, 0, 0, []),
  (70, .return_, 1, 0, 0, 0, 0, [])]
/-- yX3_handOver -/
def mt_29 : List am_row := [
  (0, .aload_n 0, 1, 0, 0, 0, 0, []),
  (1, .getfield 20, 3, 3, 4, 2, 0, []),
  (4, .iload_n 1, 1, 0, 0, 0, 0, []),
  (5, .iaload, 1, 0, 0, 0, 0, []),
  (6, .istore_n 3, 1, 0, 0, 0, 0, []),
  (7, .aload_n 0, 1, 0, 0, 0, 0, []),
  (8, .getfield 20, 3, 3, 4, 2, 0, []),
  (11, .iload_n 1, 1, 0, 0, 0, 0, []),
  (12, .iload_n 2, 1, 0, 0, 0, 0, []),
  (13, .iastore, 1, 0, 0, 0, 0, []),
  (14, .iconst 0, 1, 0, 0, 0, 0, []),
  (15, .istore 4, 2, 0, 0, 0, 0, []),
  (17, .iload 4, 2, 0, 0, 0, 0, []),
  (19, .aload_n 0, 1, 0, 0, 0, 0, []),
  (20, .getfield 30, 3, 3, 0, 2, 0, []),
  (23, .getfield 43, 3, 0, 2, 0, 0, []),
  (26, .if_icmp .ge 51, 3, 49, 0, 0, 0, []),
  (29, .aload_n 0, 1, 0, 0, 0, 0, []),
  (30, .getfield 27, 3, 3, 6, 2, 0, []),
  (33, .iload 4, 2, 0, 0, 0, 0, []),
  (35, .aaload, 1, 0, 0, 0, 0, []),
  (36, .iload_n 3, 1, 0, 0, 0, 0, []),
  (37, .dup2, 1, 0, 0, 0, 0, []),
  (38, .iaload, 1, 0, 0, 0, 0, []),
  (39, .aload_n 0, 1, 0, 0, 0, 0, []),
  (40, .getfield 17, 3, 3, 3, 2, 0, []),
  (43, .iload 4, 2, 0, 0, 0, 0, []),
  (45, .aaload, 1, 0, 0, 0, 0, []),
  (46, .iload_n 1, 1, 0, 0, 0, 0, []),
  (47, .iaload, 1, 0, 0, 0, 0, []),
  (48, .isub, 1, 0, 0, 0, 0, []),
  (49, .iastore, 1, 0, 0, 0, 0, []),
  (50, .aload_n 0, 1, 0, 0, 0, 0, []),
  (51, .getfield 27, 3, 3, 6, 2, 0, []),
  (54, .iload 4, 2, 0, 0, 0, 0, []),
  (56, .aaload, 1, 0, 0, 0, 0, []),
  (57, .iload_n 2, 1, 0, 0, 0, 0, []),
  (58, .dup2, 1, 0, 0, 0, 0, []),
  (59, .iaload, 1, 0, 0, 0, 0, []),
  (60, .aload_n 0, 1, 0, 0, 0, 0, []),
  (61, .getfield 17, 3, 3, 3, 2, 0, []),
  (64, .iload 4, 2, 0, 0, 0, 0, []),
  (66, .aaload, 1, 0, 0, 0, 0, []),
  (67, .iload_n 1, 1, 0, 0, 0, 0, []),
  (68, .iaload, 1, 0, 0, 0, 0, []),
  (69, .iadd, 1, 0, 0, 0, 0, []),
  (70, .iastore, 1, 0, 0, 0, 0, []),
  (71, .iinc 4 1, 3, 0, 0, 0, 1, []),
  (74, .goto (-57), 3, 12, 0, 0, 0, []),
  (77, .return_, 1, 0, 0, 0, 0, [])]
/-- yX4_freshen -/
def mt_30 : List am_row := [
  (0, .aload_n 0, 1, 0, 0, 0, 0, []),
  (1, .getfield 9, 3, 4, 2, 0, 0, []),
  (4, .aload_n 0, 1, 0, 0, 0, 0, []),
  (5, .getfield 51, 3, 4, 1, 2, 0, []),
  (8, .invokevirtual 55, 3, 115, 1, 1, 0, []),
  (11, .if_icmp .ne 4, 3, 7, 0, 0, 0, []),
  (14, .return_, 1, 0, 0, 0, 0, []),
  (15, .aload_n 0, 1, 0, 0, 0, 0, []),
  (16, .aload_n 0, 1, 0, 0, 0, 0, []),
  (17, .getfield 51, 3, 4, 1, 2, 0, []),
  (20, .invokevirtual 55, 3, 115, 1, 1, 0, []),
  (23, .putfield 9, 3, 4, 2, 0, 0, []),
  (26, .aload_n 0, 1, 0, 0, 0, 0, []),
  (27, .invokevirtual 61, 3, 31, 1, 0, 0, []),
  (30, .aload_n 0, 1, 0, 0, 0, 0, []),
  (31, .invokevirtual 64, 3, 32, 1, 0, 0, []),
  (34, .iconst 0, 1, 0, 0, 0, 0, []),
  (35, .istore_n 1, 1, 0, 0, 0, 0, []),
  (36, .iload_n 1, 1, 0, 0, 0, 0, []),
  (37, .aload_n 0, 1, 0, 0, 0, 0, []),
  (38, .getfield 47, 3, 4, 0, 2, 0, []),
  (41, .getfield 67, 3, 0, 2, 0, 0, []),
  (44, .if_icmp .ge 54, 3, 50, 0, 0, 0, []),
  (47, .iconst 0, 1, 0, 0, 0, 0, []),
  (48, .istore_n 2, 1, 0, 0, 0, 0, []),
  (49, .iload_n 2, 1, 0, 0, 0, 0, []),
  (50, .aload_n 0, 1, 0, 0, 0, 0, []),
  (51, .getfield 47, 3, 4, 0, 2, 0, []),
  (54, .getfield 70, 3, 0, 1, 0, 0, []),
  (57, .if_icmp .ge 35, 3, 48, 0, 0, 0, []),
  (60, .aload_n 0, 1, 0, 0, 0, 0, []),
  (61, .getfield 26, 3, 4, 5, 2, 0, []),
  (64, .iload_n 1, 1, 0, 0, 0, 0, []),
  (65, .aaload, 1, 0, 0, 0, 0, []),
  (66, .iload_n 2, 1, 0, 0, 0, 0, []),
  (67, .aload_n 0, 1, 0, 0, 0, 0, []),
  (68, .getfield 51, 3, 4, 1, 2, 0, []),
  (71, .iload_n 1, 1, 0, 0, 0, 0, []),
  (72, .iload_n 2, 1, 0, 0, 0, 0, []),
  (73, .aload_n 0, 1, 0, 0, 0, 0, []),
  (74, .getfield 47, 3, 4, 0, 2, 0, []),
  (77, .iconst 2, 1, 0, 0, 0, 2, []),
  (78, .iload_n 2, 1, 0, 0, 0, 0, []),
  (79, .invokevirtual 73, 3, 4, 3, 1, 0, []),
  (82, .invokevirtual 77, 3, 117, 4, 1, 0, []),
  (85, .iastore, 1, 0, 0, 0, 0, []),
  (86, .iinc 2 1, 3, 0, 0, 0, 1, []),
  (89, .goto (-40), 3, 25, 0, 0, 0, []),
  (92, .iinc 1 1, 3, 0, 0, 0, 1, []),
  (95, .goto (-59), 3, 18, 0, 0, 0, []),
  (98, .iconst 0, 1, 0, 0, 0, 0, []),
  (99, .istore_n 1, 1, 0, 0, 0, 0, []),
  (100, .iload_n 1, 1, 0, 0, 0, 0, []),
  (101, .iconst 5, 1, 0, 0, 0, 5, []),
  (102, .if_icmp .ge 14, 3, 60, 0, 0, 0, []),
  (105, .aload_n 0, 1, 0, 0, 0, 0, []),
  (106, .iload_n 1, 1, 0, 0, 0, 0, []),
  (107, .invokevirtual 81, 3, 33, 2, 0, 0, []),
  (110, .iinc 1 1, 3, 0, 0, 0, 1, []),
  (113, .goto (-13), 3, 52, 0, 0, 0, []),
  (116, .return_, 1, 0, 0, 0, 0, [])]
/-- yX4_orderDoors -/
def mt_31 : List am_row := [
  (0, .iconst 0, 1, 0, 0, 0, 0, []),
  (1, .istore_n 1, 1, 0, 0, 0, 0, []),
  (2, .iload_n 1, 1, 0, 0, 0, 0, []),
  (3, .aload_n 0, 1, 0, 0, 0, 0, []),
  (4, .getfield 47, 3, 4, 0, 2, 0, []),
  (7, .getfield 70, 3, 0, 1, 0, 0, []),
  (10, .if_icmp .ge 72, 3, 48, 0, 0, 0, []),
  (13, .iload_n 1, 1, 0, 0, 0, 0, []),
  (14, .istore_n 2, 1, 0, 0, 0, 0, []),
  (15, .aload_n 0, 1, 0, 0, 0, 0, []),
  (16, .getfield 47, 3, 4, 0, 2, 0, []),
  (19, .iconst 0, 1, 0, 0, 0, 0, []),
  (20, .iload_n 1, 1, 0, 0, 0, 0, []),
  (21, .invokevirtual 73, 3, 4, 3, 1, 0, []),
  (24, .istore_n 3, 1, 0, 0, 0, 0, []),
  (25, .iload_n 2, 1, 0, 0, 0, 0, []),
  (26, .ifCond .le 43, 3, 41, 0, 0, 0, []),
  (29, .aload_n 0, 1, 0, 0, 0, 0, []),
  (30, .getfield 47, 3, 4, 0, 2, 0, []),
  (33, .iconst 0, 1, 0, 0, 0, 0, []),
  (34, .aload_n 0, 1, 0, 0, 0, 0, []),
  (35, .getfield 17, 3, 4, 3, 2, 0, []),
  (38, .iload_n 2, 1, 0, 0, 0, 0, []),
  (39, .iconst 1, 1, 0, 0, 0, 1, []),
  (40, .isub, 1, 0, 0, 0, 0, []),
  (41, .iaload, 1, 0, 0, 0, 0, []),
  (42, .invokevirtual 73, 3, 4, 3, 1, 0, []),
  (45, .iload_n 3, 1, 0, 0, 0, 0, []),
  (46, .if_icmp .le 23, 3, 41, 0, 0, 0, []),
  (49, .aload_n 0, 1, 0, 0, 0, 0, []),
  (50, .getfield 17, 3, 4, 3, 2, 0, []),
  (53, .iload_n 2, 1, 0, 0, 0, 0, []),
  (54, .aload_n 0, 1, 0, 0, 0, 0, []),
  (55, .getfield 17, 3, 4, 3, 2, 0, []),
  (58, .iload_n 2, 1, 0, 0, 0, 0, []),
  (59, .iconst 1, 1, 0, 0, 0, 1, []),
  (60, .isub, 1, 0, 0, 0, 0, []),
  (61, .iaload, 1, 0, 0, 0, 0, []),
  (62, .iastore, 1, 0, 0, 0, 0, []),
  (63, .iinc 2 (-1), 3, 0, 0, 0, -1, []),
  (66, .goto (-41), 3, 15, 0, 0, 0, []),
  (69, .aload_n 0, 1, 0, 0, 0, 0, []),
  (70, .getfield 17, 3, 4, 3, 2, 0, []),
  (73, .iload_n 2, 1, 0, 0, 0, 0, []),
  (74, .iload_n 1, 1, 0, 0, 0, 0, []),
  (75, .iastore, 1, 0, 0, 0, 0, []),
  (76, .iinc 1 1, 3, 0, 0, 0, 1, []),
  (79, .goto (-77), 3, 2, 0, 0, 0, []),
  (82, .return_, 1, 0, 0, 0, 0, [])]
/-- yX4_orderChildren -/
def mt_32 : List am_row := [
  (0, .iconst 0, 1, 0, 0, 0, 0, []),
  (1, .istore_n 1, 1, 0, 0, 0, 0, []),
  (2, .iload_n 1, 1, 0, 0, 0, 0, []),
  (3, .aload_n 0, 1, 0, 0, 0, 0, []),
  (4, .getfield 47, 3, 4, 0, 2, 0, []),
  (7, .getfield 67, 3, 0, 2, 0, 0, []),
  (10, .if_icmp .ge 72, 3, 48, 0, 0, 0, []),
  (13, .iload_n 1, 1, 0, 0, 0, 0, []),
  (14, .istore_n 2, 1, 0, 0, 0, 0, []),
  (15, .aload_n 0, 1, 0, 0, 0, 0, []),
  (16, .getfield 47, 3, 4, 0, 2, 0, []),
  (19, .iconst 3, 1, 0, 0, 0, 3, []),
  (20, .iload_n 1, 1, 0, 0, 0, 0, []),
  (21, .invokevirtual 73, 3, 4, 3, 1, 0, []),
  (24, .istore_n 3, 1, 0, 0, 0, 0, []),
  (25, .iload_n 2, 1, 0, 0, 0, 0, []),
  (26, .ifCond .le 43, 3, 41, 0, 0, 0, []),
  (29, .aload_n 0, 1, 0, 0, 0, 0, []),
  (30, .getfield 47, 3, 4, 0, 2, 0, []),
  (33, .iconst 3, 1, 0, 0, 0, 3, []),
  (34, .aload_n 0, 1, 0, 0, 0, 0, []),
  (35, .getfield 21, 3, 4, 4, 2, 0, []),
  (38, .iload_n 2, 1, 0, 0, 0, 0, []),
  (39, .iconst 1, 1, 0, 0, 0, 1, []),
  (40, .isub, 1, 0, 0, 0, 0, []),
  (41, .iaload, 1, 0, 0, 0, 0, []),
  (42, .invokevirtual 73, 3, 4, 3, 1, 0, []),
  (45, .iload_n 3, 1, 0, 0, 0, 0, []),
  (46, .if_icmp .ge 23, 3, 41, 0, 0, 0, []),
  (49, .aload_n 0, 1, 0, 0, 0, 0, []),
  (50, .getfield 21, 3, 4, 4, 2, 0, []),
  (53, .iload_n 2, 1, 0, 0, 0, 0, []),
  (54, .aload_n 0, 1, 0, 0, 0, 0, []),
  (55, .getfield 21, 3, 4, 4, 2, 0, []),
  (58, .iload_n 2, 1, 0, 0, 0, 0, []),
  (59, .iconst 1, 1, 0, 0, 0, 1, []),
  (60, .isub, 1, 0, 0, 0, 0, []),
  (61, .iaload, 1, 0, 0, 0, 0, []),
  (62, .iastore, 1, 0, 0, 0, 0, []),
  (63, .iinc 2 (-1), 3, 0, 0, 0, -1, []),
  (66, .goto (-41), 3, 15, 0, 0, 0, []),
  (69, .aload_n 0, 1, 0, 0, 0, 0, []),
  (70, .getfield 21, 3, 4, 4, 2, 0, []),
  (73, .iload_n 2, 1, 0, 0, 0, 0, []),
  (74, .iload_n 1, 1, 0, 0, 0, 0, []),
  (75, .iastore, 1, 0, 0, 0, 0, []),
  (76, .iinc 1 1, 3, 0, 0, 0, 1, []),
  (79, .goto (-77), 3, 2, 0, 0, 0, []),
  (82, .return_, 1, 0, 0, 0, 0, [])]
/-- yX4_giveBy -/
def mt_33 : List am_row := [
  (0, .aload_n 0, 1, 0, 0, 0, 0, []),
  (1, .getfield 32, 3, 4, 7, 2, 0, []),
  (4, .iload_n 1, 1, 0, 0, 0, 0, []),
  (5, .aaload, 1, 0, 0, 0, 0, []),
  (6, .iconst 0, 1, 0, 0, 0, 0, []),
  (7, .invokestatic 85, 3, 275, 2, 0, 0, []),
  (10, .iconst 0, 1, 0, 0, 0, 0, []),
  (11, .istore_n 2, 1, 0, 0, 0, 0, []),
  (12, .iload_n 2, 1, 0, 0, 0, 0, []),
  (13, .aload_n 0, 1, 0, 0, 0, 0, []),
  (14, .getfield 47, 3, 4, 0, 2, 0, []),
  (17, .getfield 70, 3, 0, 1, 0, 0, []),
  (20, .if_icmp .ge 73, 3, 53, 0, 0, 0, []),
  (23, .aload_n 0, 1, 0, 0, 0, 0, []),
  (24, .getfield 17, 3, 4, 3, 2, 0, []),
  (27, .iload_n 2, 1, 0, 0, 0, 0, []),
  (28, .iaload, 1, 0, 0, 0, 0, []),
  (29, .istore_n 3, 1, 0, 0, 0, 0, []),
  (30, .iconst 0, 1, 0, 0, 0, 0, []),
  (31, .istore 4, 2, 0, 0, 0, 0, []),
  (33, .iload 4, 2, 0, 0, 0, 0, []),
  (35, .aload_n 0, 1, 0, 0, 0, 0, []),
  (36, .getfield 47, 3, 4, 0, 2, 0, []),
  (39, .getfield 67, 3, 0, 2, 0, 0, []),
  (42, .if_icmp .ge 25, 3, 37, 0, 0, 0, []),
  (45, .aload_n 0, 1, 0, 0, 0, 0, []),
  (46, .getfield 35, 3, 4, 8, 2, 0, []),
  (49, .iload 4, 2, 0, 0, 0, 0, []),
  (51, .aload_n 0, 1, 0, 0, 0, 0, []),
  (52, .getfield 26, 3, 4, 5, 2, 0, []),
  (55, .iload 4, 2, 0, 0, 0, 0, []),
  (57, .aaload, 1, 0, 0, 0, 0, []),
  (58, .iload_n 3, 1, 0, 0, 0, 0, []),
  (59, .iaload, 1, 0, 0, 0, 0, []),
  (60, .iastore, 1, 0, 0, 0, 0, []),
  (61, .iinc 4 1, 3, 0, 0, 0, 1, []),
  (64, .goto (-31), 3, 20, 0, 0, 0, []),
  (67, .aload_n 0, 1, 0, 0, 0, 0, []),
  (68, .getfield 29, 3, 4, 6, 2, 0, []),
  (71, .iload_n 1, 1, 0, 0, 0, 0, []),
  (72, .aaload, 1, 0, 0, 0, 0, []),
  (73, .iload_n 3, 1, 0, 0, 0, 0, []),
  (74, .aload_n 0, 1, 0, 0, 0, 0, []),
  (75, .iload_n 1, 1, 0, 0, 0, 0, []),
  (76, .iload_n 2, 1, 0, 0, 0, 0, []),
  (77, .aload_n 0, 1, 0, 0, 0, 0, []),
  (78, .getfield 32, 3, 4, 7, 2, 0, []),
  (81, .iload_n 1, 1, 0, 0, 0, 0, []),
  (82, .aaload, 1, 0, 0, 0, 0, []),
  (83, .invokevirtual 91, 3, 34, 4, 1, 0, []),
  (86, .iastore, 1, 0, 0, 0, 0, []),
  (87, .iinc 2 1, 3, 0, 0, 0, 1, []),
  (90, .goto (-78), 3, 8, 0, 0, 0, []),
  (93, .return_, 1, 0, 0, 0, 0, [])]
/-- yX4_giveOffered -/
def mt_34 : List am_row := [
  (0, .aload_n 0, 1, 0, 0, 0, 0, []),
  (1, .iload_n 1, 1, 0, 0, 0, 0, []),
  (2, .iload_n 2, 1, 0, 0, 0, 0, []),
  (3, .aload_n 3, 1, 0, 0, 0, 0, []),
  (4, .invokevirtual 95, 3, 35, 4, 1, 0, []),
  (7, .istore 4, 2, 0, 0, 0, 0, []),
  (9, .aload_n 0, 1, 0, 0, 0, 0, []),
  (10, .getfield 47, 3, 4, 0, 2, 0, []),
  (13, .iload 4, 2, 0, 0, 0, 0, []),
  (15, .invokevirtual 98, 3, 1, 2, 1, 0, []),
  (18, .ifCond .eq 17, 3, 21, 0, 0, 0, []),
  (21, .aload_n 3, 1, 0, 0, 0, 0, []),
  (22, .iload 4, 2, 0, 0, 0, 0, []),
  (24, .dup2, 1, 0, 0, 0, 0, []),
  (25, .iaload, 1, 0, 0, 0, 0, []),
  (26, .aload_n 0, 1, 0, 0, 0, 0, []),
  (27, .getfield 35, 3, 4, 8, 2, 0, []),
  (30, .iload 4, 2, 0, 0, 0, 0, []),
  (32, .iaload, 1, 0, 0, 0, 0, []),
  (33, .iadd, 1, 0, 0, 0, 0, []),
  (34, .iastore, 1, 0, 0, 0, 0, []),
  (35, .iload 4, 2, 0, 0, 0, 0, []),
  (37, .ireturn, 1, 0, 0, 0, 0, [])]
/-- yX4_chosen -/
def mt_35 : List am_row := [
  (0, .aload_n 0, 1, 0, 0, 0, 0, []),
  (1, .getfield 47, 3, 4, 0, 2, 0, []),
  (4, .getfield 67, 3, 0, 2, 0, 0, []),
  (7, .istore 4, 2, 0, 0, 0, 0, []),
  (9, .iload 4, 2, 0, 0, 0, 0, []),
  (11, .ifCond .gt 6, 3, 8, 0, 0, 0, []),
  (14, .bipush (-2), 2, 0, 0, 0, -2, []),
  (16, .ireturn, 1, 0, 0, 0, 0, []),
  (17, .iload_n 1, 1, 0, 0, 0, 0, []),
  (18, .tableswitch 71 0 2 #[26, 31, 41], 26, 40, 0, 0, 0, [(0, 10), (1, 14), (2, 21)]),
  (44, .iload_n 2, 1, 0, 0, 0, 0, []),
  (45, .iload 4, 2, 0, 0, 0, 0, []),
  (47, .irem, 1, 0, 0, 0, 0, []),
  (48, .ireturn, 1, 0, 0, 0, 0, []),
  (49, .aload_n 0, 1, 0, 0, 0, 0, []),
  (50, .getfield 21, 3, 4, 4, 2, 0, []),
  (53, .iload_n 2, 1, 0, 0, 0, 0, []),
  (54, .iload 4, 2, 0, 0, 0, 0, []),
  (56, .irem, 1, 0, 0, 0, 0, []),
  (57, .iaload, 1, 0, 0, 0, 0, []),
  (58, .ireturn, 1, 0, 0, 0, 0, []),
  (59, .iload_n 2, 1, 0, 0, 0, 0, []),
  (60, .iconst 2, 1, 0, 0, 0, 2, []),
  (61, .iload 4, 2, 0, 0, 0, 0, []),
  (63, .imul, 1, 0, 0, 0, 0, []),
  (64, .irem, 1, 0, 0, 0, 0, []),
  (65, .istore 5, 2, 0, 0, 0, 0, []),
  (67, .iload 5, 2, 0, 0, 0, 0, []),
  (69, .iload 4, 2, 0, 0, 0, 0, []),
  (71, .if_icmp .ge 8, 3, 32, 0, 0, 0, []),
  (74, .iload 5, 2, 0, 0, 0, 0, []),
  (76, .goto 12, 3, 39, 0, 0, 0, []),
  (79, .iconst 2, 1, 0, 0, 0, 2, []),
  (80, .iload 4, 2, 0, 0, 0, 0, []),
  (82, .imul, 1, 0, 0, 0, 0, []),
  (83, .iconst 1, 1, 0, 0, 0, 1, []),
  (84, .isub, 1, 0, 0, 0, 0, []),
  (85, .iload 5, 2, 0, 0, 0, 0, []),
  (87, .isub, 1, 0, 0, 0, 0, []),
  (88, .ireturn, 1, 0, 0, 0, 0, []),
  (89, .aload_n 0, 1, 0, 0, 0, 0, []),
  (90, .iload_n 1, 1, 0, 0, 0, 0, []),
  (91, .aload_n 3, 1, 0, 0, 0, 0, []),
  (92, .invokevirtual 102, 3, 36, 3, 1, 0, []),
  (95, .ireturn, 1, 0, 0, 0, 0, [])]
/-- yX4_mostWilling -/
def mt_36 : List am_row := [
  (0, .iconst 0, 1, 0, 0, 0, 0, []),
  (1, .istore_n 3, 1, 0, 0, 0, 0, []),
  (2, .iconst 1, 1, 0, 0, 0, 1, []),
  (3, .istore 4, 2, 0, 0, 0, 0, []),
  (5, .iload 4, 2, 0, 0, 0, 0, []),
  (7, .aload_n 0, 1, 0, 0, 0, 0, []),
  (8, .getfield 47, 3, 4, 0, 2, 0, []),
  (11, .getfield 67, 3, 0, 2, 0, 0, []),
  (14, .if_icmp .ge 30, 3, 24, 0, 0, 0, []),
  (17, .aload_n 0, 1, 0, 0, 0, 0, []),
  (18, .iload_n 1, 1, 0, 0, 0, 0, []),
  (19, .iload 4, 2, 0, 0, 0, 0, []),
  (21, .aload_n 2, 1, 0, 0, 0, 0, []),
  (22, .invokevirtual 106, 3, 37, 4, 1, 0, []),
  (25, .aload_n 0, 1, 0, 0, 0, 0, []),
  (26, .iload_n 1, 1, 0, 0, 0, 0, []),
  (27, .iload_n 3, 1, 0, 0, 0, 0, []),
  (28, .aload_n 2, 1, 0, 0, 0, 0, []),
  (29, .invokevirtual 106, 3, 37, 4, 1, 0, []),
  (32, .if_icmp .le 6, 3, 22, 0, 0, 0, []),
  (35, .iload 4, 2, 0, 0, 0, 0, []),
  (37, .istore_n 3, 1, 0, 0, 0, 0, []),
  (38, .iinc 4 1, 3, 0, 0, 0, 1, []),
  (41, .goto (-36), 3, 4, 0, 0, 0, []),
  (44, .iload_n 3, 1, 0, 0, 0, 0, []),
  (45, .ireturn, 1, 0, 0, 0, 0, [])]
/-- yX4_will -/
def mt_37 : List am_row := [
  (0, .iload_n 1, 1, 0, 0, 0, 0, []),
  (1, .iconst 3, 1, 0, 0, 0, 3, []),
  (2, .if_icmp .ne 12, 3, 8, 0, 0, 0, []),
  (5, .aload_n 0, 1, 0, 0, 0, 0, []),
  (6, .getfield 35, 3, 4, 8, 2, 0, []),
  (9, .iload_n 2, 1, 0, 0, 0, 0, []),
  (10, .iaload, 1, 0, 0, 0, 0, []),
  (11, .goto 4, 3, 9, 0, 0, 0, []),
  (14, .iconst 0, 1, 0, 0, 0, 0, []),
  (15, .aload_n 3, 1, 0, 0, 0, 0, []),
  (16, .iload_n 2, 1, 0, 0, 0, 0, []),
  (17, .iaload, 1, 0, 0, 0, 0, []),
  (18, .isub, 1, 0, 0, 0, 0, []),
  (19, .ireturn, 1, 0, 0, 0, 0, [])]
/-- yX4_owner -/
def mt_38 : List am_row := [
  (0, .aload_n 0, 1, 0, 0, 0, 0, []),
  (1, .getfield 29, 3, 4, 6, 2, 0, []),
  (4, .iload_n 1, 1, 0, 0, 0, 0, []),
  (5, .aaload, 1, 0, 0, 0, 0, []),
  (6, .iload_n 2, 1, 0, 0, 0, 0, []),
  (7, .iaload, 1, 0, 0, 0, 0, []),
  (8, .ireturn, 1, 0, 0, 0, 0, [])]
/-- yX4_sumOf -/
def mt_39 : List am_row := [
  (0, .aload_n 0, 1, 0, 0, 0, 0, []),
  (1, .getfield 32, 3, 4, 7, 2, 0, []),
  (4, .iload_n 1, 1, 0, 0, 0, 0, []),
  (5, .aaload, 1, 0, 0, 0, 0, []),
  (6, .iload_n 2, 1, 0, 0, 0, 0, []),
  (7, .iaload, 1, 0, 0, 0, 0, []),
  (8, .ireturn, 1, 0, 0, 0, 0, [])]
/-- yX4_unfairBy -/
def mt_40 : List am_row := [
  (0, .aload_n 0, 1, 0, 0, 0, 0, []),
  (1, .aload_n 0, 1, 0, 0, 0, 0, []),
  (2, .getfield 32, 3, 4, 7, 2, 0, []),
  (5, .iload_n 1, 1, 0, 0, 0, 0, []),
  (6, .aaload, 1, 0, 0, 0, 0, []),
  (7, .invokevirtual 109, 3, 43, 2, 1, 0, []),
  (10, .ireturn, 1, 0, 0, 0, 0, [])]
/-- yX4_triedUnfair -/
def mt_41 : List am_row := [
  (0, .aload_n 0, 1, 0, 0, 0, 0, []),
  (1, .aload_n 0, 1, 0, 0, 0, 0, []),
  (2, .getfield 41, 3, 4, 10, 2, 0, []),
  (5, .invokevirtual 109, 3, 43, 2, 1, 0, []),
  (8, .ireturn, 1, 0, 0, 0, 0, [])]
/-- yX4_triedSum -/
def mt_42 : List am_row := [
  (0, .aload_n 0, 1, 0, 0, 0, 0, []),
  (1, .getfield 41, 3, 4, 10, 2, 0, []),
  (4, .iload_n 1, 1, 0, 0, 0, 0, []),
  (5, .iaload, 1, 0, 0, 0, 0, []),
  (6, .ireturn, 1, 0, 0, 0, 0, [])]
/-- yX4_unfairOf -/
def mt_43 : List am_row := [
  (0, .aload_n 0, 1, 0, 0, 0, 0, []),
  (1, .getfield 47, 3, 4, 0, 2, 0, []),
  (4, .getfield 67, 3, 0, 2, 0, 0, []),
  (7, .ifCond .ne 5, 3, 6, 0, 0, 0, []),
  (10, .iconst 0, 1, 0, 0, 0, 0, []),
  (11, .ireturn, 1, 0, 0, 0, 0, []),
  (12, .aload_n 1, 1, 0, 0, 0, 0, []),
  (13, .iconst 0, 1, 0, 0, 0, 0, []),
  (14, .iaload, 1, 0, 0, 0, 0, []),
  (15, .istore_n 2, 1, 0, 0, 0, 0, []),
  (16, .aload_n 1, 1, 0, 0, 0, 0, []),
  (17, .iconst 0, 1, 0, 0, 0, 0, []),
  (18, .iaload, 1, 0, 0, 0, 0, []),
  (19, .istore_n 3, 1, 0, 0, 0, 0, []),
  (20, .iconst 1, 1, 0, 0, 0, 1, []),
  (21, .istore 4, 2, 0, 0, 0, 0, []),
  (23, .iload 4, 2, 0, 0, 0, 0, []),
  (25, .aload_n 0, 1, 0, 0, 0, 0, []),
  (26, .getfield 47, 3, 4, 0, 2, 0, []),
  (29, .getfield 67, 3, 0, 2, 0, 0, []),
  (32, .if_icmp .ge 27, 3, 35, 0, 0, 0, []),
  (35, .iload_n 2, 1, 0, 0, 0, 0, []),
  (36, .aload_n 1, 1, 0, 0, 0, 0, []),
  (37, .iload 4, 2, 0, 0, 0, 0, []),
  (39, .iaload, 1, 0, 0, 0, 0, []),
  (40, .invokestatic 113, 3, 1000, 2, 1, 0, []),
  (43, .istore_n 2, 1, 0, 0, 0, 0, []),
  (44, .iload_n 3, 1, 0, 0, 0, 0, []),
  (45, .aload_n 1, 1, 0, 0, 0, 0, []),
  (46, .iload 4, 2, 0, 0, 0, 0, []),
  (48, .iaload, 1, 0, 0, 0, 0, []),
  (49, .invokestatic 118, 3, 1001, 2, 1, 0, []),
  (52, .istore_n 3, 1, 0, 0, 0, 0, []),
  (53, .iinc 4 1, 3, 0, 0, 0, 1, []),
  (56, .goto (-33), 3, 16, 0, 0, 0, []),
  (59, .iload_n 2, 1, 0, 0, 0, 0, []),
  (60, .iload_n 3, 1, 0, 0, 0, 0, []),
  (61, .isub, 1, 0, 0, 0, 0, []),
  (62, .ireturn, 1, 0, 0, 0, 0, [])]
/-- yX4_togetherBy -/
def mt_44 : List am_row := [
  (0, .iconst 0, 1, 0, 0, 0, 0, []),
  (1, .istore_n 2, 1, 0, 0, 0, 0, []),
  (2, .iconst 0, 1, 0, 0, 0, 0, []),
  (3, .istore_n 3, 1, 0, 0, 0, 0, []),
  (4, .iload_n 3, 1, 0, 0, 0, 0, []),
  (5, .aload_n 0, 1, 0, 0, 0, 0, []),
  (6, .getfield 47, 3, 4, 0, 2, 0, []),
  (9, .getfield 67, 3, 0, 2, 0, 0, []),
  (12, .if_icmp .ge 20, 3, 20, 0, 0, 0, []),
  (15, .iload_n 2, 1, 0, 0, 0, 0, []),
  (16, .aload_n 0, 1, 0, 0, 0, 0, []),
  (17, .getfield 32, 3, 4, 7, 2, 0, []),
  (20, .iload_n 1, 1, 0, 0, 0, 0, []),
  (21, .aaload, 1, 0, 0, 0, 0, []),
  (22, .iload_n 3, 1, 0, 0, 0, 0, []),
  (23, .iaload, 1, 0, 0, 0, 0, []),
  (24, .iadd, 1, 0, 0, 0, 0, []),
  (25, .istore_n 2, 1, 0, 0, 0, 0, []),
  (26, .iinc 3 1, 3, 0, 0, 0, 1, []),
  (29, .goto (-25), 3, 4, 0, 0, 0, []),
  (32, .iload_n 2, 1, 0, 0, 0, 0, []),
  (33, .ireturn, 1, 0, 0, 0, 0, [])]
/-- yX4_envyBy -/
def mt_45 : List am_row := [
  (0, .iconst 0, 1, 0, 0, 0, 0, []),
  (1, .istore_n 2, 1, 0, 0, 0, 0, []),
  (2, .iconst 0, 1, 0, 0, 0, 0, []),
  (3, .istore_n 3, 1, 0, 0, 0, 0, []),
  (4, .iload_n 3, 1, 0, 0, 0, 0, []),
  (5, .aload_n 0, 1, 0, 0, 0, 0, []),
  (6, .getfield 47, 3, 4, 0, 2, 0, []),
  (9, .getfield 67, 3, 0, 2, 0, 0, []),
  (12, .if_icmp .ge 55, 3, 38, 0, 0, 0, []),
  (15, .iconst 0, 1, 0, 0, 0, 0, []),
  (16, .istore 4, 2, 0, 0, 0, 0, []),
  (18, .iload 4, 2, 0, 0, 0, 0, []),
  (20, .aload_n 0, 1, 0, 0, 0, 0, []),
  (21, .getfield 47, 3, 4, 0, 2, 0, []),
  (24, .getfield 67, 3, 0, 2, 0, 0, []),
  (27, .if_icmp .ge 34, 3, 36, 0, 0, 0, []),
  (30, .aload_n 0, 1, 0, 0, 0, 0, []),
  (31, .iload_n 3, 1, 0, 0, 0, 0, []),
  (32, .iload_n 1, 1, 0, 0, 0, 0, []),
  (33, .iload 4, 2, 0, 0, 0, 0, []),
  (35, .invokevirtual 121, 3, 46, 4, 1, 0, []),
  (38, .aload_n 0, 1, 0, 0, 0, 0, []),
  (39, .getfield 32, 3, 4, 7, 2, 0, []),
  (42, .iload_n 1, 1, 0, 0, 0, 0, []),
  (43, .aaload, 1, 0, 0, 0, 0, []),
  (44, .iload_n 3, 1, 0, 0, 0, 0, []),
  (45, .iaload, 1, 0, 0, 0, 0, []),
  (46, .if_icmp .le 9, 3, 34, 0, 0, 0, []),
  (49, .iload_n 2, 1, 0, 0, 0, 0, []),
  (50, .iconst 1, 1, 0, 0, 0, 1, []),
  (51, .iload_n 3, 1, 0, 0, 0, 0, []),
  (52, .ishl, 1, 0, 0, 0, 0, []),
  (53, .ior, 1, 0, 0, 0, 0, []),
  (54, .istore_n 2, 1, 0, 0, 0, 0, []),
  (55, .iinc 4 1, 3, 0, 0, 0, 1, []),
  (58, .goto (-40), 3, 11, 0, 0, 0, []),
  (61, .iinc 3 1, 3, 0, 0, 0, 1, []),
  (64, .goto (-60), 3, 4, 0, 0, 0, []),
  (67, .iload_n 2, 1, 0, 0, 0, 0, []),
  (68, .ireturn, 1, 0, 0, 0, 0, [])]
/-- yX4_worthTo -/
def mt_46 : List am_row := [
  (0, .iconst 0, 1, 0, 0, 0, 0, []),
  (1, .istore 4, 2, 0, 0, 0, 0, []),
  (3, .iconst 0, 1, 0, 0, 0, 0, []),
  (4, .istore 5, 2, 0, 0, 0, 0, []),
  (6, .iload 5, 2, 0, 0, 0, 0, []),
  (8, .aload_n 0, 1, 0, 0, 0, 0, []),
  (9, .getfield 47, 3, 4, 0, 2, 0, []),
  (12, .getfield 70, 3, 0, 1, 0, 0, []),
  (15, .if_icmp .ge 36, 3, 28, 0, 0, 0, []),
  (18, .aload_n 0, 1, 0, 0, 0, 0, []),
  (19, .getfield 29, 3, 4, 6, 2, 0, []),
  (22, .iload_n 2, 1, 0, 0, 0, 0, []),
  (23, .aaload, 1, 0, 0, 0, 0, []),
  (24, .iload 5, 2, 0, 0, 0, 0, []),
  (26, .iaload, 1, 0, 0, 0, 0, []),
  (27, .iload_n 3, 1, 0, 0, 0, 0, []),
  (28, .if_icmp .ne 17, 3, 26, 0, 0, 0, []),
  (31, .iload 4, 2, 0, 0, 0, 0, []),
  (33, .aload_n 0, 1, 0, 0, 0, 0, []),
  (34, .getfield 26, 3, 4, 5, 2, 0, []),
  (37, .iload_n 1, 1, 0, 0, 0, 0, []),
  (38, .aaload, 1, 0, 0, 0, 0, []),
  (39, .iload 5, 2, 0, 0, 0, 0, []),
  (41, .iaload, 1, 0, 0, 0, 0, []),
  (42, .iadd, 1, 0, 0, 0, 0, []),
  (43, .istore 4, 2, 0, 0, 0, 0, []),
  (45, .iinc 5 1, 3, 0, 0, 0, 1, []),
  (48, .goto (-42), 3, 4, 0, 0, 0, []),
  (51, .iload 4, 2, 0, 0, 0, 0, []),
  (53, .ireturn, 1, 0, 0, 0, 0, [])]
/-- yX4_leastUnfairRule -/
def mt_47 : List am_row := [
  (0, .iconst 0, 1, 0, 0, 0, 0, []),
  (1, .istore_n 1, 1, 0, 0, 0, 0, []),
  (2, .iconst 1, 1, 0, 0, 0, 1, []),
  (3, .istore_n 2, 1, 0, 0, 0, 0, []),
  (4, .iload_n 2, 1, 0, 0, 0, 0, []),
  (5, .iconst 5, 1, 0, 0, 0, 5, []),
  (6, .if_icmp .ge 44, 3, 30, 0, 0, 0, []),
  (9, .aload_n 0, 1, 0, 0, 0, 0, []),
  (10, .iload_n 1, 1, 0, 0, 0, 0, []),
  (11, .invokevirtual 124, 3, 40, 2, 1, 0, []),
  (14, .aload_n 0, 1, 0, 0, 0, 0, []),
  (15, .iload_n 2, 1, 0, 0, 0, 0, []),
  (16, .invokevirtual 124, 3, 40, 2, 1, 0, []),
  (19, .isub, 1, 0, 0, 0, 0, []),
  (20, .istore_n 3, 1, 0, 0, 0, 0, []),
  (21, .iload_n 3, 1, 0, 0, 0, 0, []),
  (22, .ifCond .gt 20, 3, 26, 0, 0, 0, []),
  (25, .iload_n 3, 1, 0, 0, 0, 0, []),
  (26, .ifCond .ne 18, 3, 28, 0, 0, 0, []),
  (29, .aload_n 0, 1, 0, 0, 0, 0, []),
  (30, .iload_n 2, 1, 0, 0, 0, 0, []),
  (31, .invokevirtual 128, 3, 44, 2, 1, 0, []),
  (34, .aload_n 0, 1, 0, 0, 0, 0, []),
  (35, .iload_n 1, 1, 0, 0, 0, 0, []),
  (36, .invokevirtual 128, 3, 44, 2, 1, 0, []),
  (39, .if_icmp .le 5, 3, 28, 0, 0, 0, []),
  (42, .iload_n 2, 1, 0, 0, 0, 0, []),
  (43, .istore_n 1, 1, 0, 0, 0, 0, []),
  (44, .iinc 2 1, 3, 0, 0, 0, 1, []),
  (47, .goto (-43), 3, 4, 0, 0, 0, []),
  (50, .iload_n 1, 1, 0, 0, 0, 0, []),
  (51, .ireturn, 1, 0, 0, 0, 0, [])]
/-- yX4_firstSwapBy -/
def mt_48 : List am_row := [
  (0, .aload_n 0, 1, 0, 0, 0, 0, []),
  (1, .getfield 29, 3, 4, 6, 2, 0, []),
  (4, .iload_n 1, 1, 0, 0, 0, 0, []),
  (5, .aaload, 1, 0, 0, 0, 0, []),
  (6, .iconst 0, 1, 0, 0, 0, 0, []),
  (7, .aload_n 0, 1, 0, 0, 0, 0, []),
  (8, .getfield 38, 3, 4, 9, 2, 0, []),
  (11, .iconst 0, 1, 0, 0, 0, 0, []),
  (12, .aload_n 0, 1, 0, 0, 0, 0, []),
  (13, .getfield 38, 3, 4, 9, 2, 0, []),
  (16, .arraylength, 1, 0, 0, 0, 0, []),
  (17, .invokestatic 131, 3, 1002, 5, 0, 0, []),
  (20, .aload_n 0, 1, 0, 0, 0, 0, []),
  (21, .invokevirtual 137, 3, 49, 1, 1, 0, []),
  (24, .ireturn, 1, 0, 0, 0, 0, [])]
/-- yX4_firstSwap -/
def mt_49 : List am_row := [
  (0, .iconst 0, 1, 0, 0, 0, 0, []),
  (1, .istore_n 1, 1, 0, 0, 0, 0, []),
  (2, .iload_n 1, 1, 0, 0, 0, 0, []),
  (3, .aload_n 0, 1, 0, 0, 0, 0, []),
  (4, .getfield 47, 3, 4, 0, 2, 0, []),
  (7, .getfield 70, 3, 0, 1, 0, 0, []),
  (10, .if_icmp .ge 46, 3, 31, 0, 0, 0, []),
  (13, .iload_n 1, 1, 0, 0, 0, 0, []),
  (14, .iconst 1, 1, 0, 0, 0, 1, []),
  (15, .iadd, 1, 0, 0, 0, 0, []),
  (16, .istore_n 2, 1, 0, 0, 0, 0, []),
  (17, .iload_n 2, 1, 0, 0, 0, 0, []),
  (18, .aload_n 0, 1, 0, 0, 0, 0, []),
  (19, .getfield 47, 3, 4, 0, 2, 0, []),
  (22, .getfield 70, 3, 0, 1, 0, 0, []),
  (25, .if_icmp .ge 25, 3, 29, 0, 0, 0, []),
  (28, .aload_n 0, 1, 0, 0, 0, 0, []),
  (29, .iload_n 1, 1, 0, 0, 0, 0, []),
  (30, .iload_n 2, 1, 0, 0, 0, 0, []),
  (31, .invokevirtual 140, 3, 50, 3, 1, 0, []),
  (34, .ifCond .eq 10, 3, 27, 0, 0, 0, []),
  (37, .bipush 20, 2, 0, 0, 0, 20, []),
  (39, .iload_n 1, 1, 0, 0, 0, 0, []),
  (40, .imul, 1, 0, 0, 0, 0, []),
  (41, .iload_n 2, 1, 0, 0, 0, 0, []),
  (42, .iadd, 1, 0, 0, 0, 0, []),
  (43, .ireturn, 1, 0, 0, 0, 0, []),
  (44, .iinc 2 1, 3, 0, 0, 0, 1, []),
  (47, .goto (-30), 3, 11, 0, 0, 0, []),
  (50, .iinc 1 1, 3, 0, 0, 0, 1, []),
  (53, .goto (-51), 3, 2, 0, 0, 0, []),
  (56, .bipush (-2), 2, 0, 0, 0, -2, []),
  (58, .ireturn, 1, 0, 0, 0, 0, [])]
/-- yX4_pleasesBoth -/
def mt_50 : List am_row := [
  (0, .aload_n 0, 1, 0, 0, 0, 0, []),
  (1, .getfield 38, 3, 4, 9, 2, 0, []),
  (4, .iload_n 1, 1, 0, 0, 0, 0, []),
  (5, .iaload, 1, 0, 0, 0, 0, []),
  (6, .istore_n 3, 1, 0, 0, 0, 0, []),
  (7, .aload_n 0, 1, 0, 0, 0, 0, []),
  (8, .getfield 38, 3, 4, 9, 2, 0, []),
  (11, .iload_n 2, 1, 0, 0, 0, 0, []),
  (12, .iaload, 1, 0, 0, 0, 0, []),
  (13, .istore 4, 2, 0, 0, 0, 0, []),
  (15, .iload_n 3, 1, 0, 0, 0, 0, []),
  (16, .iload 4, 2, 0, 0, 0, 0, []),
  (18, .if_icmp .eq 70, 3, 51, 0, 0, 0, []),
  (21, .aload_n 0, 1, 0, 0, 0, 0, []),
  (22, .getfield 47, 3, 4, 0, 2, 0, []),
  (25, .iload_n 3, 1, 0, 0, 0, 0, []),
  (26, .invokevirtual 98, 3, 1, 2, 1, 0, []),
  (29, .ifCond .eq 59, 3, 51, 0, 0, 0, []),
  (32, .aload_n 0, 1, 0, 0, 0, 0, []),
  (33, .getfield 47, 3, 4, 0, 2, 0, []),
  (36, .iload 4, 2, 0, 0, 0, 0, []),
  (38, .invokevirtual 98, 3, 1, 2, 1, 0, []),
  (41, .ifCond .eq 47, 3, 51, 0, 0, 0, []),
  (44, .aload_n 0, 1, 0, 0, 0, 0, []),
  (45, .getfield 26, 3, 4, 5, 2, 0, []),
  (48, .iload_n 3, 1, 0, 0, 0, 0, []),
  (49, .aaload, 1, 0, 0, 0, 0, []),
  (50, .iload_n 2, 1, 0, 0, 0, 0, []),
  (51, .iaload, 1, 0, 0, 0, 0, []),
  (52, .aload_n 0, 1, 0, 0, 0, 0, []),
  (53, .getfield 26, 3, 4, 5, 2, 0, []),
  (56, .iload_n 3, 1, 0, 0, 0, 0, []),
  (57, .aaload, 1, 0, 0, 0, 0, []),
  (58, .iload_n 1, 1, 0, 0, 0, 0, []),
  (59, .iaload, 1, 0, 0, 0, 0, []),
  (60, .if_icmp .le 28, 3, 51, 0, 0, 0, []),
  (63, .aload_n 0, 1, 0, 0, 0, 0, []),
  (64, .getfield 26, 3, 4, 5, 2, 0, []),
  (67, .iload 4, 2, 0, 0, 0, 0, []),
  (69, .aaload, 1, 0, 0, 0, 0, []),
  (70, .iload_n 1, 1, 0, 0, 0, 0, []),
  (71, .iaload, 1, 0, 0, 0, 0, []),
  (72, .aload_n 0, 1, 0, 0, 0, 0, []),
  (73, .getfield 26, 3, 4, 5, 2, 0, []),
  (76, .iload 4, 2, 0, 0, 0, 0, []),
  (78, .aaload, 1, 0, 0, 0, 0, []),
  (79, .iload_n 2, 1, 0, 0, 0, 0, []),
  (80, .iaload, 1, 0, 0, 0, 0, []),
  (81, .if_icmp .le 7, 3, 51, 0, 0, 0, []),
  (84, .iconst 1, 1, 0, 0, 0, 1, []),
  (85, .goto 4, 3, 52, 0, 0, 0, []),
  (88, .iconst 0, 1, 0, 0, 0, 0, []),
  (89, .ireturn, 1, 1, 0, 0, 0, [])]
/-- yX4_swapAll -/
def mt_51 : List am_row := [
  (0, .aload_n 0, 1, 0, 0, 0, 0, []),
  (1, .iload_n 1, 1, 0, 0, 0, 0, []),
  (2, .invokevirtual 144, 3, 48, 2, 1, 0, []),
  (5, .istore_n 2, 1, 0, 0, 0, 0, []),
  (6, .iconst 0, 1, 0, 0, 0, 0, []),
  (7, .istore_n 3, 1, 0, 0, 0, 0, []),
  (8, .iload_n 3, 1, 0, 0, 0, 0, []),
  (9, .bipush 50, 2, 0, 0, 0, 50, []),
  (11, .if_icmp .ge 60, 3, 43, 0, 0, 0, []),
  (14, .iload_n 2, 1, 0, 0, 0, 0, []),
  (15, .bipush (-2), 2, 0, 0, 0, -2, []),
  (17, .if_icmp .eq 54, 3, 43, 0, 0, 0, []),
  (20, .aload_n 0, 1, 0, 0, 0, 0, []),
  (21, .getfield 38, 3, 4, 9, 2, 0, []),
  (24, .iload_n 2, 1, 0, 0, 0, 0, []),
  (25, .bipush 20, 2, 0, 0, 0, 20, []),
  (27, .idiv, 1, 0, 0, 0, 0, []),
  (28, .iaload, 1, 0, 0, 0, 0, []),
  (29, .istore 4, 2, 0, 0, 0, 0, []),
  (31, .aload_n 0, 1, 0, 0, 0, 0, []),
  (32, .getfield 38, 3, 4, 9, 2, 0, []),
  (35, .iload_n 2, 1, 0, 0, 0, 0, []),
  (36, .bipush 20, 2, 0, 0, 0, 20, []),
  (38, .idiv, 1, 0, 0, 0, 0, []),
  (39, .aload_n 0, 1, 0, 0, 0, 0, []),
  (40, .getfield 38, 3, 4, 9, 2, 0, []),
  (43, .iload_n 2, 1, 0, 0, 0, 0, []),
  (44, .bipush 20, 2, 0, 0, 0, 20, []),
  (46, .irem, 1, 0, 0, 0, 0, []),
  (47, .iaload, 1, 0, 0, 0, 0, []),
  (48, .iastore, 1, 0, 0, 0, 0, []),
  (49, .aload_n 0, 1, 0, 0, 0, 0, []),
  (50, .getfield 38, 3, 4, 9, 2, 0, []),
  (53, .iload_n 2, 1, 0, 0, 0, 0, []),
  (54, .bipush 20, 2, 0, 0, 0, 20, []),
  (56, .irem, 1, 0, 0, 0, 0, []),
  (57, .iload 4, 2, 0, 0, 0, 0, []),
  (59, .iastore, 1, 0, 0, 0, 0, []),
  (60, .iinc 3 1, 3, 0, 0, 0, 1, []),
  (63, .aload_n 0, 1, 0, 0, 0, 0, []),
  (64, .invokevirtual 137, 3, 49, 1, 1, 0, []),
  (67, .istore_n 2, 1, 0, 0, 0, 0, []),
  (68, .goto (-60), 3, 6, 0, 0, 0, []),
  (71, .aload_n 0, 1, 0, 0, 0, 0, []),
  (72, .invokevirtual 147, 3, 52, 1, 0, 0, []),
  (75, .iload_n 3, 1, 0, 0, 0, 0, []),
  (76, .ireturn, 1, 0, 0, 0, 0, [])]
/-- yX4_sumTried -/
def mt_52 : List am_row := [
  (0, .aload_n 0, 1, 0, 0, 0, 0, []),
  (1, .getfield 41, 3, 4, 10, 2, 0, []),
  (4, .iconst 0, 1, 0, 0, 0, 0, []),
  (5, .invokestatic 85, 3, 275, 2, 0, 0, []),
  (8, .iconst 0, 1, 0, 0, 0, 0, []),
  (9, .istore_n 1, 1, 0, 0, 0, 0, []),
  (10, .iload_n 1, 1, 0, 0, 0, 0, []),
  (11, .aload_n 0, 1, 0, 0, 0, 0, []),
  (12, .getfield 47, 3, 4, 0, 2, 0, []),
  (15, .getfield 70, 3, 0, 1, 0, 0, []),
  (18, .if_icmp .ge 44, 3, 36, 0, 0, 0, []),
  (21, .aload_n 0, 1, 0, 0, 0, 0, []),
  (22, .getfield 38, 3, 4, 9, 2, 0, []),
  (25, .iload_n 1, 1, 0, 0, 0, 0, []),
  (26, .iaload, 1, 0, 0, 0, 0, []),
  (27, .istore_n 2, 1, 0, 0, 0, 0, []),
  (28, .aload_n 0, 1, 0, 0, 0, 0, []),
  (29, .getfield 47, 3, 4, 0, 2, 0, []),
  (32, .iload_n 2, 1, 0, 0, 0, 0, []),
  (33, .invokevirtual 98, 3, 1, 2, 1, 0, []),
  (36, .ifCond .eq 20, 3, 34, 0, 0, 0, []),
  (39, .aload_n 0, 1, 0, 0, 0, 0, []),
  (40, .getfield 41, 3, 4, 10, 2, 0, []),
  (43, .iload_n 2, 1, 0, 0, 0, 0, []),
  (44, .dup2, 1, 0, 0, 0, 0, []),
  (45, .iaload, 1, 0, 0, 0, 0, []),
  (46, .aload_n 0, 1, 0, 0, 0, 0, []),
  (47, .getfield 26, 3, 4, 5, 2, 0, []),
  (50, .iload_n 2, 1, 0, 0, 0, 0, []),
  (51, .aaload, 1, 0, 0, 0, 0, []),
  (52, .iload_n 1, 1, 0, 0, 0, 0, []),
  (53, .iaload, 1, 0, 0, 0, 0, []),
  (54, .iadd, 1, 0, 0, 0, 0, []),
  (55, .iastore, 1, 0, 0, 0, 0, []),
  (56, .iinc 1 1, 3, 0, 0, 0, 1, []),
  (59, .goto (-49), 3, 6, 0, 0, 0, []),
  (62, .return_, 1, 0, 0, 0, 0, [])]
/-- yX4_divideBig -/
def mt_53 : List am_row := [
  (0, .iconst 0, 1, 0, 0, 0, 0, []),
  (1, .istore_n 2, 1, 0, 0, 0, 0, []),
  (2, .iconst 1, 1, 0, 0, 0, 1, []),
  (3, .istore_n 3, 1, 0, 0, 0, 0, []),
  (4, .iload_n 3, 1, 0, 0, 0, 0, []),
  (5, .aload_n 0, 1, 0, 0, 0, 0, []),
  (6, .getfield 47, 3, 4, 0, 2, 0, []),
  (9, .getfield 70, 3, 0, 1, 0, 0, []),
  (12, .if_icmp .ge 32, 3, 24, 0, 0, 0, []),
  (15, .aload_n 0, 1, 0, 0, 0, 0, []),
  (16, .getfield 47, 3, 4, 0, 2, 0, []),
  (19, .iconst 2, 1, 0, 0, 0, 2, []),
  (20, .iload_n 3, 1, 0, 0, 0, 0, []),
  (21, .invokevirtual 73, 3, 4, 3, 1, 0, []),
  (24, .aload_n 0, 1, 0, 0, 0, 0, []),
  (25, .getfield 47, 3, 4, 0, 2, 0, []),
  (28, .iconst 2, 1, 0, 0, 0, 2, []),
  (29, .iload_n 2, 1, 0, 0, 0, 0, []),
  (30, .invokevirtual 73, 3, 4, 3, 1, 0, []),
  (33, .if_icmp .le 5, 3, 22, 0, 0, 0, []),
  (36, .iload_n 3, 1, 0, 0, 0, 0, []),
  (37, .istore_n 2, 1, 0, 0, 0, 0, []),
  (38, .iinc 3 1, 3, 0, 0, 0, 1, []),
  (41, .goto (-37), 3, 4, 0, 0, 0, []),
  (44, .aload_n 0, 1, 0, 0, 0, 0, []),
  (45, .getfield 29, 3, 4, 6, 2, 0, []),
  (48, .iload_n 1, 1, 0, 0, 0, 0, []),
  (49, .aaload, 1, 0, 0, 0, 0, []),
  (50, .iconst 0, 1, 0, 0, 0, 0, []),
  (51, .aload_n 0, 1, 0, 0, 0, 0, []),
  (52, .getfield 38, 3, 4, 9, 2, 0, []),
  (55, .iconst 0, 1, 0, 0, 0, 0, []),
  (56, .aload_n 0, 1, 0, 0, 0, 0, []),
  (57, .getfield 38, 3, 4, 9, 2, 0, []),
  (60, .arraylength, 1, 0, 0, 0, 0, []),
  (61, .invokestatic 131, 3, 1002, 5, 0, 0, []),
  (64, .aload_n 0, 1, 0, 0, 0, 0, []),
  (65, .getfield 38, 3, 4, 9, 2, 0, []),
  (68, .iload_n 2, 1, 0, 0, 0, 0, []),
  (69, .bipush (-2), 2, 0, 0, 0, -2, []),
  (71, .iastore, 1, 0, 0, 0, 0, []),
  (72, .aload_n 0, 1, 0, 0, 0, 0, []),
  (73, .invokevirtual 147, 3, 52, 1, 0, 0, []),
  (76, .aload_n 0, 1, 0, 0, 0, 0, []),
  (77, .getfield 47, 3, 4, 0, 2, 0, []),
  (80, .getfield 67, 3, 0, 2, 0, 0, []),
  (83, .istore_n 3, 1, 0, 0, 0, 0, []),
  (84, .iload_n 3, 1, 0, 0, 0, 0, []),
  (85, .ifCond .le 17, 3, 57, 0, 0, 0, []),
  (88, .aload_n 0, 1, 0, 0, 0, 0, []),
  (89, .getfield 47, 3, 4, 0, 2, 0, []),
  (92, .iconst 2, 1, 0, 0, 0, 2, []),
  (93, .iload_n 2, 1, 0, 0, 0, 0, []),
  (94, .invokevirtual 73, 3, 4, 3, 1, 0, []),
  (97, .iload_n 3, 1, 0, 0, 0, 0, []),
  (98, .idiv, 1, 0, 0, 0, 0, []),
  (99, .goto 4, 3, 58, 0, 0, 0, []),
  (102, .iconst 0, 1, 0, 0, 0, 0, []),
  (103, .istore 4, 2, 0, 0, 0, 0, []),
  (105, .iconst 0, 1, 0, 0, 0, 0, []),
  (106, .istore 5, 2, 0, 0, 0, 0, []),
  (108, .iload 5, 2, 0, 0, 0, 0, []),
  (110, .iload_n 3, 1, 0, 0, 0, 0, []),
  (111, .if_icmp .ge 31, 3, 79, 0, 0, 0, []),
  (114, .aload_n 0, 1, 0, 0, 0, 0, []),
  (115, .getfield 41, 3, 4, 10, 2, 0, []),
  (118, .iload 5, 2, 0, 0, 0, 0, []),
  (120, .dup2, 1, 0, 0, 0, 0, []),
  (121, .iaload, 1, 0, 0, 0, 0, []),
  (122, .aload_n 0, 1, 0, 0, 0, 0, []),
  (123, .getfield 51, 3, 4, 1, 2, 0, []),
  (126, .iload 5, 2, 0, 0, 0, 0, []),
  (128, .iload_n 2, 1, 0, 0, 0, 0, []),
  (129, .iload 4, 2, 0, 0, 0, 0, []),
  (131, .invokevirtual 77, 3, 117, 4, 1, 0, []),
  (134, .iadd, 1, 0, 0, 0, 0, []),
  (135, .iastore, 1, 0, 0, 0, 0, []),
  (136, .iinc 5 1, 3, 0, 0, 0, 1, []),
  (139, .goto (-31), 3, 61, 0, 0, 0, []),
  (142, .return_, 1, 0, 0, 0, 0, [])]
/-- yX4_neverEaten -/
def mt_54 : List am_row := [
  (0, .iconst 0, 1, 0, 0, 0, 0, []),
  (1, .istore_n 3, 1, 0, 0, 0, 0, []),
  (2, .iconst 0, 1, 0, 0, 0, 0, []),
  (3, .istore 4, 2, 0, 0, 0, 0, []),
  (5, .iload 4, 2, 0, 0, 0, 0, []),
  (7, .aload_n 0, 1, 0, 0, 0, 0, []),
  (8, .getfield 47, 3, 4, 0, 2, 0, []),
  (11, .getfield 70, 3, 0, 1, 0, 0, []),
  (14, .if_icmp .ge 39, 3, 27, 0, 0, 0, []),
  (17, .aload_n 0, 1, 0, 0, 0, 0, []),
  (18, .getfield 29, 3, 4, 6, 2, 0, []),
  (21, .iload_n 1, 1, 0, 0, 0, 0, []),
  (22, .aaload, 1, 0, 0, 0, 0, []),
  (23, .iload 4, 2, 0, 0, 0, 0, []),
  (25, .iaload, 1, 0, 0, 0, 0, []),
  (26, .iload_n 2, 1, 0, 0, 0, 0, []),
  (27, .if_icmp .ne 20, 3, 25, 0, 0, 0, []),
  (30, .aload_n 0, 1, 0, 0, 0, 0, []),
  (31, .getfield 47, 3, 4, 0, 2, 0, []),
  (34, .iload_n 2, 1, 0, 0, 0, 0, []),
  (35, .iload 4, 2, 0, 0, 0, 0, []),
  (37, .invokevirtual 150, 3, 9, 3, 1, 0, []),
  (40, .iconst (-1), 1, 0, 0, 0, -1, []),
  (41, .if_icmp .ne 6, 3, 25, 0, 0, 0, []),
  (44, .iinc 3 1, 3, 0, 0, 0, 1, []),
  (47, .iinc 4 1, 3, 0, 0, 0, 1, []),
  (50, .goto (-45), 3, 4, 0, 0, 0, []),
  (53, .iload_n 3, 1, 0, 0, 0, 0, []),
  (54, .ireturn, 1, 0, 0, 0, 0, [])]
/-- yX4_daysLate -/
def mt_55 : List am_row := [
  (0, .iconst 0, 1, 0, 0, 0, 0, []),
  (1, .istore_n 3, 1, 0, 0, 0, 0, []),
  (2, .iconst 0, 1, 0, 0, 0, 0, []),
  (3, .istore 4, 2, 0, 0, 0, 0, []),
  (5, .iload 4, 2, 0, 0, 0, 0, []),
  (7, .aload_n 0, 1, 0, 0, 0, 0, []),
  (8, .getfield 47, 3, 4, 0, 2, 0, []),
  (11, .getfield 70, 3, 0, 1, 0, 0, []),
  (14, .if_icmp .ge 39, 3, 29, 0, 0, 0, []),
  (17, .aload_n 0, 1, 0, 0, 0, 0, []),
  (18, .getfield 29, 3, 4, 6, 2, 0, []),
  (21, .iload_n 1, 1, 0, 0, 0, 0, []),
  (22, .aaload, 1, 0, 0, 0, 0, []),
  (23, .iload 4, 2, 0, 0, 0, 0, []),
  (25, .iaload, 1, 0, 0, 0, 0, []),
  (26, .iload_n 2, 1, 0, 0, 0, 0, []),
  (27, .if_icmp .ne 20, 3, 27, 0, 0, 0, []),
  (30, .iload_n 3, 1, 0, 0, 0, 0, []),
  (31, .iconst 0, 1, 0, 0, 0, 0, []),
  (32, .aload_n 0, 1, 0, 0, 0, 0, []),
  (33, .getfield 47, 3, 4, 0, 2, 0, []),
  (36, .iload_n 2, 1, 0, 0, 0, 0, []),
  (37, .iload 4, 2, 0, 0, 0, 0, []),
  (39, .invokevirtual 150, 3, 9, 3, 1, 0, []),
  (42, .invokestatic 113, 3, 1000, 2, 1, 0, []),
  (45, .iadd, 1, 0, 0, 0, 0, []),
  (46, .istore_n 3, 1, 0, 0, 0, 0, []),
  (47, .iinc 4 1, 3, 0, 0, 0, 1, []),
  (50, .goto (-45), 3, 4, 0, 0, 0, []),
  (53, .iload_n 3, 1, 0, 0, 0, 0, []),
  (54, .ireturn, 1, 0, 0, 0, 0, [])]
/-- yX4_ownAfter -/
def mt_56 : List am_row := [
  (0, .iconst 0, 1, 0, 0, 0, 0, []),
  (1, .istore 4, 2, 0, 0, 0, 0, []),
  (3, .iconst 0, 1, 0, 0, 0, 0, []),
  (4, .istore 5, 2, 0, 0, 0, 0, []),
  (6, .iload 5, 2, 0, 0, 0, 0, []),
  (8, .aload_n 0, 1, 0, 0, 0, 0, []),
  (9, .getfield 47, 3, 4, 0, 2, 0, []),
  (12, .getfield 70, 3, 0, 1, 0, 0, []),
  (15, .if_icmp .ge 45, 3, 32, 0, 0, 0, []),
  (18, .aload_n 0, 1, 0, 0, 0, 0, []),
  (19, .getfield 29, 3, 4, 6, 2, 0, []),
  (22, .iload_n 1, 1, 0, 0, 0, 0, []),
  (23, .aaload, 1, 0, 0, 0, 0, []),
  (24, .iload 5, 2, 0, 0, 0, 0, []),
  (26, .iaload, 1, 0, 0, 0, 0, []),
  (27, .iload_n 2, 1, 0, 0, 0, 0, []),
  (28, .if_icmp .ne 26, 3, 30, 0, 0, 0, []),
  (31, .aload_n 0, 1, 0, 0, 0, 0, []),
  (32, .getfield 47, 3, 4, 0, 2, 0, []),
  (35, .iconst 0, 1, 0, 0, 0, 0, []),
  (36, .iload 5, 2, 0, 0, 0, 0, []),
  (38, .invokevirtual 73, 3, 4, 3, 1, 0, []),
  (41, .iload_n 3, 1, 0, 0, 0, 0, []),
  (42, .if_icmp .le 12, 3, 30, 0, 0, 0, []),
  (45, .iload 4, 2, 0, 0, 0, 0, []),
  (47, .iconst 1, 1, 0, 0, 0, 1, []),
  (48, .iload 5, 2, 0, 0, 0, 0, []),
  (50, .ishl, 1, 0, 0, 0, 0, []),
  (51, .ior, 1, 0, 0, 0, 0, []),
  (52, .istore 4, 2, 0, 0, 0, 0, []),
  (54, .iinc 5 1, 3, 0, 0, 0, 1, []),
  (57, .goto (-51), 3, 4, 0, 0, 0, []),
  (60, .iload 4, 2, 0, 0, 0, 0, []),
  (62, .ireturn, 1, 0, 0, 0, 0, [])]
/-- yX4_takeMine -/
def mt_57 : List am_row := [
  (0, .aload_n 0, 1, 0, 0, 0, 0, []),
  (1, .iconst 0, 1, 0, 0, 0, 0, []),
  (2, .putfield 153, 3, 4, 12, 0, 0, []),
  (5, .iconst 0, 1, 0, 0, 0, 0, []),
  (6, .istore_n 3, 1, 0, 0, 0, 0, []),
  (7, .iload_n 3, 1, 0, 0, 0, 0, []),
  (8, .aload_n 0, 1, 0, 0, 0, 0, []),
  (9, .getfield 47, 3, 4, 0, 2, 0, []),
  (12, .getfield 70, 3, 0, 1, 0, 0, []),
  (15, .if_icmp .ge 51, 3, 38, 0, 0, 0, []),
  (18, .aload_n 0, 1, 0, 0, 0, 0, []),
  (19, .getfield 29, 3, 4, 6, 2, 0, []),
  (22, .iload_n 1, 1, 0, 0, 0, 0, []),
  (23, .aaload, 1, 0, 0, 0, 0, []),
  (24, .aload_n 0, 1, 0, 0, 0, 0, []),
  (25, .getfield 17, 3, 4, 3, 2, 0, []),
  (28, .iload_n 3, 1, 0, 0, 0, 0, []),
  (29, .iaload, 1, 0, 0, 0, 0, []),
  (30, .iaload, 1, 0, 0, 0, 0, []),
  (31, .iload_n 2, 1, 0, 0, 0, 0, []),
  (32, .if_icmp .ne 28, 3, 36, 0, 0, 0, []),
  (35, .aload_n 0, 1, 0, 0, 0, 0, []),
  (36, .getfield 44, 3, 4, 11, 2, 0, []),
  (39, .aload_n 0, 1, 0, 0, 0, 0, []),
  (40, .getfield 153, 3, 4, 12, 0, 0, []),
  (43, .aload_n 0, 1, 0, 0, 0, 0, []),
  (44, .getfield 17, 3, 4, 3, 2, 0, []),
  (47, .iload_n 3, 1, 0, 0, 0, 0, []),
  (48, .iaload, 1, 0, 0, 0, 0, []),
  (49, .iastore, 1, 0, 0, 0, 0, []),
  (50, .aload_n 0, 1, 0, 0, 0, 0, []),
  (51, .dup, 1, 0, 0, 0, 0, []),
  (52, .getfield 153, 3, 4, 12, 0, 0, []),
  (55, .iconst 1, 1, 0, 0, 0, 1, []),
  (56, .iadd, 1, 0, 0, 0, 0, []),
  (57, .putfield 153, 3, 4, 12, 0, 0, []),
  (60, .iinc 3 1, 3, 0, 0, 0, 1, []),
  (63, .goto (-56), 3, 5, 0, 0, 0, []),
  (66, .return_, 1, 0, 0, 0, 0, [])]
/-- yX4_gathered -/
def mt_58 : List am_row := [
  (0, .iload_n 2, 1, 0, 0, 0, 0, []),
  (1, .ifCond .gt 5, 3, 4, 0, 0, 0, []),
  (4, .iconst 0, 1, 0, 0, 0, 0, []),
  (5, .ireturn, 1, 0, 0, 0, 0, []),
  (6, .iconst 0, 1, 0, 0, 0, 0, []),
  (7, .istore_n 3, 1, 0, 0, 0, 0, []),
  (8, .iconst 0, 1, 0, 0, 0, 0, []),
  (9, .istore 4, 2, 0, 0, 0, 0, []),
  (11, .iload 4, 2, 0, 0, 0, 0, []),
  (13, .aload_n 0, 1, 0, 0, 0, 0, []),
  (14, .getfield 153, 3, 4, 12, 0, 0, []),
  (17, .if_icmp .ge 108, 3, 70, 0, 0, 0, []),
  (20, .iload 4, 2, 0, 0, 0, 0, []),
  (22, .iload 4, 2, 0, 0, 0, 0, []),
  (24, .iload_n 2, 1, 0, 0, 0, 0, []),
  (25, .irem, 1, 0, 0, 0, 0, []),
  (26, .isub, 1, 0, 0, 0, 0, []),
  (27, .iload_n 2, 1, 0, 0, 0, 0, []),
  (28, .iadd, 1, 0, 0, 0, 0, []),
  (29, .iconst 1, 1, 0, 0, 0, 1, []),
  (30, .isub, 1, 0, 0, 0, 0, []),
  (31, .istore 5, 2, 0, 0, 0, 0, []),
  (33, .iload 5, 2, 0, 0, 0, 0, []),
  (35, .aload_n 0, 1, 0, 0, 0, 0, []),
  (36, .getfield 153, 3, 4, 12, 0, 0, []),
  (39, .if_icmp .ge 21, 3, 35, 0, 0, 0, []),
  (42, .aload_n 0, 1, 0, 0, 0, 0, []),
  (43, .getfield 47, 3, 4, 0, 2, 0, []),
  (46, .iconst 0, 1, 0, 0, 0, 0, []),
  (47, .aload_n 0, 1, 0, 0, 0, 0, []),
  (48, .getfield 44, 3, 4, 11, 2, 0, []),
  (51, .iload 5, 2, 0, 0, 0, 0, []),
  (53, .iaload, 1, 0, 0, 0, 0, []),
  (54, .invokevirtual 73, 3, 4, 3, 1, 0, []),
  (57, .goto 5, 3, 36, 0, 0, 0, []),
  (60, .bipush 24, 2, 0, 0, 0, 24, []),
  (62, .istore 6, 2, 0, 0, 0, 0, []),
  (64, .iload 6, 2, 0, 0, 0, 0, []),
  (66, .aload_n 0, 1, 0, 0, 0, 0, []),
  (67, .getfield 47, 3, 4, 0, 2, 0, []),
  (70, .iconst 0, 1, 0, 0, 0, 0, []),
  (71, .aload_n 0, 1, 0, 0, 0, 0, []),
  (72, .getfield 44, 3, 4, 11, 2, 0, []),
  (75, .iload 4, 2, 0, 0, 0, 0, []),
  (77, .iaload, 1, 0, 0, 0, 0, []),
  (78, .invokevirtual 73, 3, 4, 3, 1, 0, []),
  (81, .isub, 1, 0, 0, 0, 0, []),
  (82, .istore 7, 2, 0, 0, 0, 0, []),
  (84, .iload_n 3, 1, 0, 0, 0, 0, []),
  (85, .aload_n 0, 1, 0, 0, 0, 0, []),
  (86, .getfield 51, 3, 4, 1, 2, 0, []),
  (89, .iload_n 1, 1, 0, 0, 0, 0, []),
  (90, .aload_n 0, 1, 0, 0, 0, 0, []),
  (91, .getfield 44, 3, 4, 11, 2, 0, []),
  (94, .iload 4, 2, 0, 0, 0, 0, []),
  (96, .iaload, 1, 0, 0, 0, 0, []),
  (97, .aload_n 0, 1, 0, 0, 0, 0, []),
  (98, .getfield 47, 3, 4, 0, 2, 0, []),
  (101, .iconst 2, 1, 0, 0, 0, 2, []),
  (102, .aload_n 0, 1, 0, 0, 0, 0, []),
  (103, .getfield 44, 3, 4, 11, 2, 0, []),
  (106, .iload 4, 2, 0, 0, 0, 0, []),
  (108, .iaload, 1, 0, 0, 0, 0, []),
  (109, .invokevirtual 73, 3, 4, 3, 1, 0, []),
  (112, .iload 7, 2, 0, 0, 0, 0, []),
  (114, .invokevirtual 156, 3, 116, 5, 1, 0, []),
  (117, .iadd, 1, 0, 0, 0, 0, []),
  (118, .istore_n 3, 1, 0, 0, 0, 0, []),
  (119, .iinc 4 1, 3, 0, 0, 0, 1, []),
  (122, .goto (-111), 3, 8, 0, 0, 0, []),
  (125, .iload_n 3, 1, 0, 0, 0, 0, []),
  (126, .ireturn, 1, 0, 0, 0, 0, [])]
/-- yX4_bestGathering -/
def mt_59 : List am_row := [
  (0, .iconst 1, 1, 0, 0, 0, 1, []),
  (1, .istore_n 2, 1, 0, 0, 0, 0, []),
  (2, .aload_n 0, 1, 0, 0, 0, 0, []),
  (3, .iload_n 1, 1, 0, 0, 0, 0, []),
  (4, .iconst 1, 1, 0, 0, 0, 1, []),
  (5, .invokevirtual 160, 3, 58, 3, 1, 0, []),
  (8, .istore_n 3, 1, 0, 0, 0, 0, []),
  (9, .iconst 2, 1, 0, 0, 0, 2, []),
  (10, .istore 4, 2, 0, 0, 0, 0, []),
  (12, .iload 4, 2, 0, 0, 0, 0, []),
  (14, .bipush 9, 2, 0, 0, 0, 9, []),
  (16, .if_icmp .gt 30, 3, 26, 0, 0, 0, []),
  (19, .aload_n 0, 1, 0, 0, 0, 0, []),
  (20, .iload_n 1, 1, 0, 0, 0, 0, []),
  (21, .iload 4, 2, 0, 0, 0, 0, []),
  (23, .invokevirtual 160, 3, 58, 3, 1, 0, []),
  (26, .istore 5, 2, 0, 0, 0, 0, []),
  (28, .iload 5, 2, 0, 0, 0, 0, []),
  (30, .iload_n 3, 1, 0, 0, 0, 0, []),
  (31, .if_icmp .le 9, 3, 24, 0, 0, 0, []),
  (34, .iload 4, 2, 0, 0, 0, 0, []),
  (36, .istore_n 2, 1, 0, 0, 0, 0, []),
  (37, .iload 5, 2, 0, 0, 0, 0, []),
  (39, .istore_n 3, 1, 0, 0, 0, 0, []),
  (40, .iinc 4 1, 3, 0, 0, 0, 1, []),
  (43, .goto (-31), 3, 9, 0, 0, 0, []),
  (46, .iload_n 2, 1, 0, 0, 0, 0, []),
  (47, .ireturn, 1, 0, 0, 0, 0, [])]
/-- yX4_giveTwice -/
def mt_60 : List am_row := [
  (0, .aload_n 0, 1, 0, 0, 0, 0, []),
  (1, .getfield 32, 3, 4, 7, 2, 0, []),
  (4, .iload_n 1, 1, 0, 0, 0, 0, []),
  (5, .aaload, 1, 0, 0, 0, 0, []),
  (6, .iconst 0, 1, 0, 0, 0, 0, []),
  (7, .aload_n 0, 1, 0, 0, 0, 0, []),
  (8, .getfield 41, 3, 4, 10, 2, 0, []),
  (11, .iconst 0, 1, 0, 0, 0, 0, []),
  (12, .aload_n 0, 1, 0, 0, 0, 0, []),
  (13, .getfield 41, 3, 4, 10, 2, 0, []),
  (16, .arraylength, 1, 0, 0, 0, 0, []),
  (17, .invokestatic 131, 3, 1002, 5, 0, 0, []),
  (20, .iconst 0, 1, 0, 0, 0, 0, []),
  (21, .istore_n 3, 1, 0, 0, 0, 0, []),
  (22, .iload_n 3, 1, 0, 0, 0, 0, []),
  (23, .aload_n 0, 1, 0, 0, 0, 0, []),
  (24, .getfield 47, 3, 4, 0, 2, 0, []),
  (27, .getfield 70, 3, 0, 1, 0, 0, []),
  (30, .if_icmp .ge 72, 3, 54, 0, 0, 0, []),
  (33, .iconst 0, 1, 0, 0, 0, 0, []),
  (34, .istore 4, 2, 0, 0, 0, 0, []),
  (36, .iload 4, 2, 0, 0, 0, 0, []),
  (38, .aload_n 0, 1, 0, 0, 0, 0, []),
  (39, .getfield 47, 3, 4, 0, 2, 0, []),
  (42, .getfield 67, 3, 0, 2, 0, 0, []),
  (45, .if_icmp .ge 32, 3, 41, 0, 0, 0, []),
  (48, .aload_n 0, 1, 0, 0, 0, 0, []),
  (49, .getfield 35, 3, 4, 8, 2, 0, []),
  (52, .iload 4, 2, 0, 0, 0, 0, []),
  (54, .aload_n 0, 1, 0, 0, 0, 0, []),
  (55, .getfield 51, 3, 4, 1, 2, 0, []),
  (58, .iload 4, 2, 0, 0, 0, 0, []),
  (60, .aload_n 0, 1, 0, 0, 0, 0, []),
  (61, .getfield 17, 3, 4, 3, 2, 0, []),
  (64, .iload_n 3, 1, 0, 0, 0, 0, []),
  (65, .iaload, 1, 0, 0, 0, 0, []),
  (66, .iload_n 2, 1, 0, 0, 0, 0, []),
  (67, .invokevirtual 77, 3, 117, 4, 1, 0, []),
  (70, .iastore, 1, 0, 0, 0, 0, []),
  (71, .iinc 4 1, 3, 0, 0, 0, 1, []),
  (74, .goto (-38), 3, 21, 0, 0, 0, []),
  (77, .aload_n 0, 1, 0, 0, 0, 0, []),
  (78, .iload_n 1, 1, 0, 0, 0, 0, []),
  (79, .aload_n 0, 1, 0, 0, 0, 0, []),
  (80, .getfield 47, 3, 4, 0, 2, 0, []),
  (83, .getfield 70, 3, 0, 1, 0, 0, []),
  (86, .iload_n 3, 1, 0, 0, 0, 0, []),
  (87, .iadd, 1, 0, 0, 0, 0, []),
  (88, .aload_n 0, 1, 0, 0, 0, 0, []),
  (89, .getfield 41, 3, 4, 10, 2, 0, []),
  (92, .invokevirtual 91, 3, 34, 4, 1, 0, []),
  (95, .pop, 1, 0, 0, 0, 0, []),
  (96, .iinc 3 1, 3, 0, 0, 0, 1, []),
  (99, .goto (-77), 3, 14, 0, 0, 0, []),
  (102, .return_, 1, 0, 0, 0, 0, [])]
/-- yX4_bestPair -/
def mt_61 : List am_row := [
  (0, .bipush (-2), 2, 0, 0, 0, -2, []),
  (2, .istore_n 2, 1, 0, 0, 0, 0, []),
  (3, .iconst 0, 1, 0, 0, 0, 0, []),
  (4, .istore_n 3, 1, 0, 0, 0, 0, []),
  (5, .iconst 0, 1, 0, 0, 0, 0, []),
  (6, .istore 4, 2, 0, 0, 0, 0, []),
  (8, .iload 4, 2, 0, 0, 0, 0, []),
  (10, .aload_n 0, 1, 0, 0, 0, 0, []),
  (11, .getfield 47, 3, 4, 0, 2, 0, []),
  (14, .getfield 67, 3, 0, 2, 0, 0, []),
  (17, .if_icmp .ge 62, 3, 41, 0, 0, 0, []),
  (20, .iload 4, 2, 0, 0, 0, 0, []),
  (22, .iconst 1, 1, 0, 0, 0, 1, []),
  (23, .iadd, 1, 0, 0, 0, 0, []),
  (24, .istore 5, 2, 0, 0, 0, 0, []),
  (26, .iload 5, 2, 0, 0, 0, 0, []),
  (28, .aload_n 0, 1, 0, 0, 0, 0, []),
  (29, .getfield 47, 3, 4, 0, 2, 0, []),
  (32, .getfield 67, 3, 0, 2, 0, 0, []),
  (35, .if_icmp .ge 38, 3, 39, 0, 0, 0, []),
  (38, .aload_n 0, 1, 0, 0, 0, 0, []),
  (39, .iload_n 1, 1, 0, 0, 0, 0, []),
  (40, .iload 4, 2, 0, 0, 0, 0, []),
  (42, .iload 5, 2, 0, 0, 0, 0, []),
  (44, .invokevirtual 163, 3, 62, 4, 1, 0, []),
  (47, .istore 6, 2, 0, 0, 0, 0, []),
  (49, .iload 6, 2, 0, 0, 0, 0, []),
  (51, .iload_n 3, 1, 0, 0, 0, 0, []),
  (52, .if_icmp .le 15, 3, 37, 0, 0, 0, []),
  (55, .bipush 10, 2, 0, 0, 0, 10, []),
  (57, .iload 4, 2, 0, 0, 0, 0, []),
  (59, .imul, 1, 0, 0, 0, 0, []),
  (60, .iload 5, 2, 0, 0, 0, 0, []),
  (62, .iadd, 1, 0, 0, 0, 0, []),
  (63, .istore_n 2, 1, 0, 0, 0, 0, []),
  (64, .iload 6, 2, 0, 0, 0, 0, []),
  (66, .istore_n 3, 1, 0, 0, 0, 0, []),
  (67, .iinc 5 1, 3, 0, 0, 0, 1, []),
  (70, .goto (-44), 3, 15, 0, 0, 0, []),
  (73, .iinc 4 1, 3, 0, 0, 0, 1, []),
  (76, .goto (-68), 3, 6, 0, 0, 0, []),
  (79, .iload_n 2, 1, 0, 0, 0, 0, []),
  (80, .ireturn, 1, 0, 0, 0, 0, [])]
/-- yX4_gainOf -/
def mt_62 : List am_row := [
  (0, .aload_n 0, 1, 0, 0, 0, 0, []),
  (1, .iload_n 2, 1, 0, 0, 0, 0, []),
  (2, .iload_n 1, 1, 0, 0, 0, 0, []),
  (3, .iload_n 3, 1, 0, 0, 0, 0, []),
  (4, .invokevirtual 121, 3, 46, 4, 1, 0, []),
  (7, .aload_n 0, 1, 0, 0, 0, 0, []),
  (8, .iload_n 3, 1, 0, 0, 0, 0, []),
  (9, .iload_n 1, 1, 0, 0, 0, 0, []),
  (10, .iload_n 2, 1, 0, 0, 0, 0, []),
  (11, .invokevirtual 121, 3, 46, 4, 1, 0, []),
  (14, .iadd, 1, 0, 0, 0, 0, []),
  (15, .aload_n 0, 1, 0, 0, 0, 0, []),
  (16, .getfield 32, 3, 4, 7, 2, 0, []),
  (19, .iload_n 1, 1, 0, 0, 0, 0, []),
  (20, .aaload, 1, 0, 0, 0, 0, []),
  (21, .iload_n 2, 1, 0, 0, 0, 0, []),
  (22, .iaload, 1, 0, 0, 0, 0, []),
  (23, .isub, 1, 0, 0, 0, 0, []),
  (24, .aload_n 0, 1, 0, 0, 0, 0, []),
  (25, .getfield 32, 3, 4, 7, 2, 0, []),
  (28, .iload_n 1, 1, 0, 0, 0, 0, []),
  (29, .aaload, 1, 0, 0, 0, 0, []),
  (30, .iload_n 3, 1, 0, 0, 0, 0, []),
  (31, .iaload, 1, 0, 0, 0, 0, []),
  (32, .isub, 1, 0, 0, 0, 0, []),
  (33, .ireturn, 1, 0, 0, 0, 0, [])]
/-- yX4_drawDecembers -/
def mt_63 : List am_row := [
  (0, .iload_n 1, 1, 0, 0, 0, 0, []),
  (1, .istore 4, 2, 0, 0, 0, 0, []),
  (3, .iconst 0, 1, 0, 0, 0, 0, []),
  (4, .istore 5, 2, 0, 0, 0, 0, []),
  (6, .iconst 0, 1, 0, 0, 0, 0, []),
  (7, .istore 6, 2, 0, 0, 0, 0, []),
  (9, .iload 6, 2, 0, 0, 0, 0, []),
  (11, .iload_n 2, 1, 0, 0, 0, 0, []),
  (12, .if_icmp .ge 45, 3, 29, 0, 0, 0, []),
  (15, .aload_n 0, 1, 0, 0, 0, 0, []),
  (16, .iload 4, 2, 0, 0, 0, 0, []),
  (18, .invokevirtual 166, 3, 64, 2, 1, 0, []),
  (21, .istore 4, 2, 0, 0, 0, 0, []),
  (23, .iload_n 3, 1, 0, 0, 0, 0, []),
  (24, .iconst (-1), 1, 0, 0, 0, -1, []),
  (25, .if_icmp .ne 15, 3, 22, 0, 0, 0, []),
  (28, .iload 5, 2, 0, 0, 0, 0, []),
  (30, .aload_n 0, 1, 0, 0, 0, 0, []),
  (31, .invokevirtual 169, 3, 41, 1, 1, 0, []),
  (34, .iadd, 1, 0, 0, 0, 0, []),
  (35, .istore 5, 2, 0, 0, 0, 0, []),
  (37, .goto 14, 3, 27, 0, 0, 0, []),
  (40, .aload_n 0, 1, 0, 0, 0, 0, []),
  (41, .iload_n 3, 1, 0, 0, 0, 0, []),
  (42, .invokevirtual 172, 3, 65, 2, 1, 0, []),
  (45, .ifCond .eq 6, 3, 27, 0, 0, 0, []),
  (48, .iinc 5 1, 3, 0, 0, 0, 1, []),
  (51, .iinc 6 1, 3, 0, 0, 0, 1, []),
  (54, .goto (-45), 3, 6, 0, 0, 0, []),
  (57, .iload 5, 2, 0, 0, 0, 0, []),
  (59, .ireturn, 1, 0, 0, 0, 0, [])]
/-- yX4_drawOne -/
def mt_64 : List am_row := [
  (0, .aload_n 0, 1, 0, 0, 0, 0, []),
  (1, .getfield 41, 3, 4, 10, 2, 0, []),
  (4, .iconst 0, 1, 0, 0, 0, 0, []),
  (5, .invokestatic 85, 3, 275, 2, 0, 0, []),
  (8, .iload_n 1, 1, 0, 0, 0, 0, []),
  (9, .istore_n 2, 1, 0, 0, 0, 0, []),
  (10, .iconst 0, 1, 0, 0, 0, 0, []),
  (11, .istore_n 3, 1, 0, 0, 0, 0, []),
  (12, .iload_n 3, 1, 0, 0, 0, 0, []),
  (13, .aload_n 0, 1, 0, 0, 0, 0, []),
  (14, .getfield 47, 3, 4, 0, 2, 0, []),
  (17, .getfield 70, 3, 0, 1, 0, 0, []),
  (20, .if_icmp .ge 66, 3, 49, 0, 0, 0, []),
  (23, .aload_n 0, 1, 0, 0, 0, 0, []),
  (24, .getfield 47, 3, 4, 0, 2, 0, []),
  (27, .getfield 67, 3, 0, 2, 0, 0, []),
  (30, .ifCond .le 56, 3, 49, 0, 0, 0, []),
  (33, .iload_n 2, 1, 0, 0, 0, 0, []),
  (34, .ldc 175, 2, 0, 0, 0, 1103515245, []),
  (36, .imul, 1, 0, 0, 0, 0, []),
  (37, .sipush 12345, 3, 0, 0, 0, 12345, []),
  (40, .iadd, 1, 0, 0, 0, 0, []),
  (41, .istore_n 2, 1, 0, 0, 0, 0, []),
  (42, .iload_n 2, 1, 0, 0, 0, 0, []),
  (43, .bipush 8, 2, 0, 0, 0, 8, []),
  (45, .iushr, 1, 0, 0, 0, 0, []),
  (46, .aload_n 0, 1, 0, 0, 0, 0, []),
  (47, .getfield 47, 3, 4, 0, 2, 0, []),
  (50, .getfield 67, 3, 0, 2, 0, 0, []),
  (53, .irem, 1, 0, 0, 0, 0, []),
  (54, .istore 4, 2, 0, 0, 0, 0, []),
  (56, .aload_n 0, 1, 0, 0, 0, 0, []),
  (57, .getfield 41, 3, 4, 10, 2, 0, []),
  (60, .iload 4, 2, 0, 0, 0, 0, []),
  (62, .dup2, 1, 0, 0, 0, 0, []),
  (63, .iaload, 1, 0, 0, 0, 0, []),
  (64, .aload_n 0, 1, 0, 0, 0, 0, []),
  (65, .getfield 26, 3, 4, 5, 2, 0, []),
  (68, .iload 4, 2, 0, 0, 0, 0, []),
  (70, .aaload, 1, 0, 0, 0, 0, []),
  (71, .aload_n 0, 1, 0, 0, 0, 0, []),
  (72, .getfield 17, 3, 4, 3, 2, 0, []),
  (75, .iload_n 3, 1, 0, 0, 0, 0, []),
  (76, .iaload, 1, 0, 0, 0, 0, []),
  (77, .iaload, 1, 0, 0, 0, 0, []),
  (78, .iadd, 1, 0, 0, 0, 0, []),
  (79, .iastore, 1, 0, 0, 0, 0, []),
  (80, .iinc 3 1, 3, 0, 0, 0, 1, []),
  (83, .goto (-71), 3, 8, 0, 0, 0, []),
  (86, .iload_n 2, 1, 0, 0, 0, 0, []),
  (87, .ireturn, 1, 0, 0, 0, 0, [])]
/-- yX4_hasMost -/
def mt_65 : List am_row := [
  (0, .iconst 0, 1, 0, 0, 0, 0, []),
  (1, .istore_n 2, 1, 0, 0, 0, 0, []),
  (2, .iload_n 2, 1, 0, 0, 0, 0, []),
  (3, .aload_n 0, 1, 0, 0, 0, 0, []),
  (4, .getfield 47, 3, 4, 0, 2, 0, []),
  (7, .getfield 67, 3, 0, 2, 0, 0, []),
  (10, .if_icmp .ge 31, 3, 23, 0, 0, 0, []),
  (13, .iload_n 2, 1, 0, 0, 0, 0, []),
  (14, .iload_n 1, 1, 0, 0, 0, 0, []),
  (15, .if_icmp .eq 20, 3, 21, 0, 0, 0, []),
  (18, .aload_n 0, 1, 0, 0, 0, 0, []),
  (19, .getfield 41, 3, 4, 10, 2, 0, []),
  (22, .iload_n 2, 1, 0, 0, 0, 0, []),
  (23, .iaload, 1, 0, 0, 0, 0, []),
  (24, .aload_n 0, 1, 0, 0, 0, 0, []),
  (25, .getfield 41, 3, 4, 10, 2, 0, []),
  (28, .iload_n 1, 1, 0, 0, 0, 0, []),
  (29, .iaload, 1, 0, 0, 0, 0, []),
  (30, .if_icmp .lt 5, 3, 21, 0, 0, 0, []),
  (33, .iconst 0, 1, 0, 0, 0, 0, []),
  (34, .ireturn, 1, 1, 0, 0, 0, []),
  (35, .iinc 2 1, 3, 0, 0, 0, 1, []),
  (38, .goto (-36), 3, 2, 0, 0, 0, []),
  (41, .iconst 1, 1, 0, 0, 0, 1, []),
  (42, .ireturn, 1, 1, 0, 0, 0, [])]
/-- yX5_takeLetter -/
def mt_66 : List am_row := [
  (0, .aload_n 0, 1, 0, 0, 0, 0, []),
  (1, .getfield 22, 3, 5, 1, 0, 0, []),
  (4, .bipush 120, 2, 0, 0, 0, 120, []),
  (6, .if_icmp .lt 5, 3, 6, 0, 0, 0, []),
  (9, .iconst 0, 1, 0, 0, 0, 0, []),
  (10, .ireturn, 1, 1, 0, 0, 0, []),
  (11, .aload_n 0, 1, 0, 0, 0, 0, []),
  (12, .getfield 9, 3, 5, 0, 2, 0, []),
  (15, .aload_n 0, 1, 0, 0, 0, 0, []),
  (16, .getfield 22, 3, 5, 1, 0, 0, []),
  (19, .iload_n 1, 1, 0, 0, 0, 0, []),
  (20, .iastore, 1, 0, 0, 0, 0, []),
  (21, .aload_n 0, 1, 0, 0, 0, 0, []),
  (22, .dup, 1, 0, 0, 0, 0, []),
  (23, .getfield 22, 3, 5, 1, 0, 0, []),
  (26, .iconst 1, 1, 0, 0, 0, 1, []),
  (27, .iadd, 1, 0, 0, 0, 0, []),
  (28, .putfield 22, 3, 5, 1, 0, 0, []),
  (31, .iconst 1, 1, 0, 0, 0, 1, []),
  (32, .ireturn, 1, 1, 0, 0, 0, [])]
/-- yX5_becomeLaw -/
def mt_67 : List am_row := [
  (0, .aload_n 0, 1, 0, 0, 0, 0, []),
  (1, .iconst 0, 1, 0, 0, 0, 0, []),
  (2, .putfield 26, 3, 5, 2, 0, 0, []),
  (5, .aload_n 0, 1, 0, 0, 0, 0, []),
  (6, .iconst 0, 1, 0, 0, 0, 0, []),
  (7, .putfield 29, 3, 5, 4, 0, 0, []),
  (10, .aload_n 0, 1, 0, 0, 0, 0, []),
  (11, .invokevirtual 32, 3, 69, 1, 1, 0, []),
  (14, .istore_n 1, 1, 0, 0, 0, 0, []),
  (15, .aload_n 0, 1, 0, 0, 0, 0, []),
  (16, .iconst 0, 1, 0, 0, 0, 0, []),
  (17, .putfield 22, 3, 5, 1, 0, 0, []),
  (20, .iload_n 1, 1, 0, 0, 0, 0, []),
  (21, .ifCond .ne 11, 3, 19, 0, 0, 0, []),
  (24, .bipush (-100), 2, 0, 0, 0, -100, []),
  (26, .aload_n 0, 1, 0, 0, 0, 0, []),
  (27, .getfield 26, 3, 5, 2, 0, 0, []),
  (30, .isub, 1, 0, 0, 0, 0, []),
  (31, .ireturn, 1, 0, 0, 0, 0, []),
  (32, .aload_n 0, 1, 0, 0, 0, 0, []),
  (33, .getfield 13, 3, 5, 3, 2, 0, []),
  (36, .iconst 0, 1, 0, 0, 0, 0, []),
  (37, .aload_n 0, 1, 0, 0, 0, 0, []),
  (38, .getfield 16, 3, 5, 5, 2, 0, []),
  (41, .iconst 0, 1, 0, 0, 0, 0, []),
  (42, .aload_n 0, 1, 0, 0, 0, 0, []),
  (43, .getfield 29, 3, 5, 4, 0, 0, []),
  (46, .invokestatic 36, 3, 1002, 5, 0, 0, []),
  (49, .aload_n 0, 1, 0, 0, 0, 0, []),
  (50, .aload_n 0, 1, 0, 0, 0, 0, []),
  (51, .getfield 29, 3, 5, 4, 0, 0, []),
  (54, .putfield 42, 3, 5, 6, 0, 0, []),
  (57, .aload_n 0, 1, 0, 0, 0, 0, []),
  (58, .dup, 1, 0, 0, 0, 0, []),
  (59, .getfield 45, 3, 5, 7, 0, 0, []),
  (62, .iconst 1, 1, 0, 0, 0, 1, []),
  (63, .iadd, 1, 0, 0, 0, 0, []),
  (64, .putfield 45, 3, 5, 7, 0, 0, []),
  (67, .iconst 1, 1, 0, 0, 0, 1, []),
  (68, .ireturn, 1, 0, 0, 0, 0, [])]
/-- yX5_stands -/
def mt_68 : List am_row := [
  (0, .aload_n 0, 1, 0, 0, 0, 0, []),
  (1, .getfield 42, 3, 5, 6, 0, 0, []),
  (4, .ifCond .le 7, 3, 5, 0, 0, 0, []),
  (7, .iconst 1, 1, 0, 0, 0, 1, []),
  (8, .goto 4, 3, 6, 0, 0, 0, []),
  (11, .iconst 0, 1, 0, 0, 0, 0, []),
  (12, .ireturn, 1, 1, 0, 0, 0, [])]
/-- yX5_readLines -/
def mt_69 : List am_row := [
  (0, .iconst 0, 1, 0, 0, 0, 0, []),
  (1, .istore_n 1, 1, 0, 0, 0, 0, []),
  (2, .iload_n 1, 1, 0, 0, 0, 0, []),
  (3, .aload_n 0, 1, 0, 0, 0, 0, []),
  (4, .getfield 22, 3, 5, 1, 0, 0, []),
  (7, .if_icmp .gt 44, 3, 26, 0, 0, 0, []),
  (10, .aload_n 0, 1, 0, 0, 0, 0, []),
  (11, .invokevirtual 48, 3, 70, 1, 1, 0, []),
  (14, .ifCond .ne 5, 3, 11, 0, 0, 0, []),
  (17, .iconst 0, 1, 0, 0, 0, 0, []),
  (18, .ireturn, 1, 1, 0, 0, 0, []),
  (19, .aload_n 0, 1, 0, 0, 0, 0, []),
  (20, .ldc 51, 2, 123, 1, 0, 0, []),
  (22, .invokevirtual 53, 3, 76, 2, 1, 0, []),
  (25, .ifCond .ne 20, 3, 24, 0, 0, 0, []),
  (28, .aload_n 0, 1, 0, 0, 0, 0, []),
  (29, .getfield 26, 3, 5, 2, 0, 0, []),
  (32, .aload_n 0, 1, 0, 0, 0, 0, []),
  (33, .getfield 22, 3, 5, 1, 0, 0, []),
  (36, .if_icmp .ne 7, 3, 22, 0, 0, 0, []),
  (39, .iconst 1, 1, 0, 0, 0, 1, []),
  (40, .goto 4, 3, 23, 0, 0, 0, []),
  (43, .iconst 0, 1, 0, 0, 0, 0, []),
  (44, .ireturn, 1, 1, 0, 0, 0, []),
  (45, .iinc 1 1, 3, 0, 0, 0, 1, []),
  (48, .goto (-46), 3, 2, 0, 0, 0, []),
  (51, .iconst 0, 1, 0, 0, 0, 0, []),
  (52, .ireturn, 1, 1, 0, 0, 0, [])]
/-- yX5_readLine -/
def mt_70 : List am_row := [
  (0, .aload_n 0, 1, 0, 0, 0, 0, []),
  (1, .iconst 0, 1, 0, 0, 0, 0, []),
  (2, .iconst 0, 1, 0, 0, 0, 0, []),
  (3, .invokevirtual 57, 3, 71, 3, 1, 0, []),
  (6, .ifCond .ne 5, 3, 7, 0, 0, 0, []),
  (9, .iconst 0, 1, 0, 0, 0, 0, []),
  (10, .ireturn, 1, 1, 0, 0, 0, []),
  (11, .aload_n 0, 1, 0, 0, 0, 0, []),
  (12, .ldc 61, 2, 125, 1, 0, 0, []),
  (14, .invokevirtual 53, 3, 76, 2, 1, 0, []),
  (17, .ifCond .eq 20, 3, 21, 0, 0, 0, []),
  (20, .aload_n 0, 1, 0, 0, 0, 0, []),
  (21, .bipush (-63), 2, 0, 0, 0, -63, []),
  (23, .invokevirtual 63, 3, 77, 2, 0, 0, []),
  (26, .aload_n 0, 1, 0, 0, 0, 0, []),
  (27, .iconst 0, 1, 0, 0, 0, 0, []),
  (28, .iconst 0, 1, 0, 0, 0, 0, []),
  (29, .invokevirtual 57, 3, 71, 3, 1, 0, []),
  (32, .ifCond .ne 5, 3, 21, 0, 0, 0, []),
  (35, .iconst 0, 1, 0, 0, 0, 0, []),
  (36, .ireturn, 1, 1, 0, 0, 0, []),
  (37, .aload_n 0, 1, 0, 0, 0, 0, []),
  (38, .bipush (-59), 2, 0, 0, 0, -59, []),
  (40, .invokevirtual 63, 3, 77, 2, 0, 0, []),
  (43, .iconst 1, 1, 0, 0, 0, 1, []),
  (44, .ireturn, 1, 1, 0, 0, 0, [])]
/-- yX5_readLevel -/
def mt_71 : List am_row := [
  (0, .iload_n 1, 1, 0, 0, 0, 0, []),
  (1, .iconst 4, 1, 0, 0, 0, 4, []),
  (2, .if_icmp .le 9, 3, 7, 0, 0, 0, []),
  (5, .aload_n 0, 1, 0, 0, 0, 0, []),
  (6, .iload_n 2, 1, 0, 0, 0, 0, []),
  (7, .invokevirtual 67, 3, 73, 2, 1, 0, []),
  (10, .ireturn, 1, 1, 0, 0, 0, []),
  (11, .aload_n 0, 1, 0, 0, 0, 0, []),
  (12, .iload_n 1, 1, 0, 0, 0, 0, []),
  (13, .iconst 1, 1, 0, 0, 0, 1, []),
  (14, .iadd, 1, 0, 0, 0, 0, []),
  (15, .iload_n 2, 1, 0, 0, 0, 0, []),
  (16, .invokevirtual 57, 3, 71, 3, 1, 0, []),
  (19, .istore_n 3, 1, 0, 0, 0, 0, []),
  (20, .iload_n 1, 1, 0, 0, 0, 0, []),
  (21, .iconst 2, 1, 0, 0, 0, 2, []),
  (22, .if_icmp .ne 7, 3, 19, 0, 0, 0, []),
  (25, .iconst 1, 1, 0, 0, 0, 1, []),
  (26, .goto 7, 3, 21, 0, 0, 0, []),
  (29, .aload_n 0, 1, 0, 0, 0, 0, []),
  (30, .getfield 22, 3, 5, 1, 0, 0, []),
  (33, .istore 4, 2, 0, 0, 0, 0, []),
  (35, .iconst 0, 1, 0, 0, 0, 0, []),
  (36, .istore 5, 2, 0, 0, 0, 0, []),
  (38, .iload 5, 2, 0, 0, 0, 0, []),
  (40, .iload 4, 2, 0, 0, 0, 0, []),
  (42, .if_icmp .ge 46, 3, 51, 0, 0, 0, []),
  (45, .iload_n 3, 1, 0, 0, 0, 0, []),
  (46, .ifCond .eq 42, 3, 51, 0, 0, 0, []),
  (49, .aload_n 0, 1, 0, 0, 0, 0, []),
  (50, .iload_n 1, 1, 0, 0, 0, 0, []),
  (51, .invokestatic 71, 3, 72, 1, 3, 0, []),
  (54, .invokevirtual 53, 3, 76, 2, 1, 0, []),
  (57, .istore 6, 2, 0, 0, 0, 0, []),
  (59, .iload 6, 2, 0, 0, 0, 0, []),
  (61, .ifCond .ne 5, 3, 38, 0, 0, 0, []),
  (64, .iconst 1, 1, 0, 0, 0, 1, []),
  (65, .ireturn, 1, 1, 0, 0, 0, []),
  (66, .aload_n 0, 1, 0, 0, 0, 0, []),
  (67, .iload_n 1, 1, 0, 0, 0, 0, []),
  (68, .iconst 1, 1, 0, 0, 0, 1, []),
  (69, .iadd, 1, 0, 0, 0, 0, []),
  (70, .iload_n 2, 1, 0, 0, 0, 0, []),
  (71, .invokevirtual 57, 3, 71, 3, 1, 0, []),
  (74, .istore_n 3, 1, 0, 0, 0, 0, []),
  (75, .aload_n 0, 1, 0, 0, 0, 0, []),
  (76, .iload 6, 2, 0, 0, 0, 0, []),
  (78, .ineg, 1, 0, 0, 0, 0, []),
  (79, .invokevirtual 63, 3, 77, 2, 0, 0, []),
  (82, .iinc 5 1, 3, 0, 0, 0, 1, []),
  (85, .goto (-47), 3, 24, 0, 0, 0, []),
  (88, .iload_n 3, 1, 0, 0, 0, 0, []),
  (89, .ireturn, 1, 1, 0, 0, 0, [])]
/-- yX5_signsOf -/
def mt_72 : List am_row := [
  (0, .iload_n 0, 1, 0, 0, 0, 0, []),
  (1, .tableswitch 43 0 3 #[31, 34, 37, 40], 31, 10, 0, 0, 0, [(0, 2), (1, 4), (2, 6), (3, 8)]),
  (32, .ldc 75, 2, 127, 1, 0, 0, []),
  (34, .areturn, 1, 0, 0, 0, 0, []),
  (35, .ldc 77, 2, 118, 1, 0, 0, []),
  (37, .areturn, 1, 0, 0, 0, 0, []),
  (38, .ldc 79, 2, 124, 1, 0, 0, []),
  (40, .areturn, 1, 0, 0, 0, 0, []),
  (41, .ldc 81, 2, 122, 1, 0, 0, []),
  (43, .areturn, 1, 0, 0, 0, 0, []),
  (44, .ldc 83, 2, 121, 1, 0, 0, []),
  (46, .areturn, 1, 0, 0, 0, 0, [])]
/-- yX5_readOperand -/
def mt_73 : List am_row := [
  (0, .aload_n 0, 1, 0, 0, 0, 0, []),
  (1, .ldc 85, 2, 126, 1, 0, 0, []),
  (3, .invokevirtual 53, 3, 76, 2, 1, 0, []),
  (6, .istore_n 2, 1, 0, 0, 0, 0, []),
  (7, .iload_n 2, 1, 0, 0, 0, 0, []),
  (8, .ifCond .eq 11, 3, 12, 0, 0, 0, []),
  (11, .aload_n 0, 1, 0, 0, 0, 0, []),
  (12, .iload_n 2, 1, 0, 0, 0, 0, []),
  (13, .ineg, 1, 0, 0, 0, 0, []),
  (14, .invokevirtual 63, 3, 77, 2, 0, 0, []),
  (17, .iconst 1, 1, 0, 0, 0, 1, []),
  (18, .ireturn, 1, 1, 0, 0, 0, []),
  (19, .aload_n 0, 1, 0, 0, 0, 0, []),
  (20, .invokevirtual 87, 3, 75, 1, 1, 0, []),
  (23, .ifCond .eq 9, 3, 19, 0, 0, 0, []),
  (26, .aload_n 0, 1, 0, 0, 0, 0, []),
  (27, .invokevirtual 90, 3, 74, 1, 0, 0, []),
  (30, .iconst 1, 1, 0, 0, 0, 1, []),
  (31, .ireturn, 1, 1, 0, 0, 0, []),
  (32, .iload_n 1, 1, 0, 0, 0, 0, []),
  (33, .bipush 6, 2, 0, 0, 0, 6, []),
  (35, .if_icmp .ge 12, 3, 26, 0, 0, 0, []),
  (38, .aload_n 0, 1, 0, 0, 0, 0, []),
  (39, .ldc 93, 2, 119, 1, 0, 0, []),
  (41, .invokevirtual 53, 3, 76, 2, 1, 0, []),
  (44, .goto 4, 3, 27, 0, 0, 0, []),
  (47, .iconst 0, 1, 0, 0, 0, 0, []),
  (48, .istore_n 3, 1, 0, 0, 0, 0, []),
  (49, .iload_n 3, 1, 0, 0, 0, 0, []),
  (50, .ifCond .ne 5, 3, 32, 0, 0, 0, []),
  (53, .iconst 0, 1, 0, 0, 0, 0, []),
  (54, .ireturn, 1, 1, 0, 0, 0, []),
  (55, .iload_n 3, 1, 0, 0, 0, 0, []),
  (56, .bipush 40, 2, 0, 0, 0, 40, []),
  (58, .if_icmp .ne 29, 3, 50, 0, 0, 0, []),
  (61, .aload_n 0, 1, 0, 0, 0, 0, []),
  (62, .iconst 0, 1, 0, 0, 0, 0, []),
  (63, .iload_n 1, 1, 0, 0, 0, 0, []),
  (64, .iconst 1, 1, 0, 0, 0, 1, []),
  (65, .iadd, 1, 0, 0, 0, 0, []),
  (66, .invokevirtual 57, 3, 71, 3, 1, 0, []),
  (69, .ifCond .eq 16, 3, 48, 0, 0, 0, []),
  (72, .aload_n 0, 1, 0, 0, 0, 0, []),
  (73, .ldc 95, 2, 120, 1, 0, 0, []),
  (75, .invokevirtual 53, 3, 76, 2, 1, 0, []),
  (78, .ifCond .eq 7, 3, 48, 0, 0, 0, []),
  (81, .iconst 1, 1, 0, 0, 0, 1, []),
  (82, .goto 4, 3, 49, 0, 0, 0, []),
  (85, .iconst 0, 1, 0, 0, 0, 0, []),
  (86, .ireturn, 1, 1, 0, 0, 0, []),
  (87, .aload_n 0, 1, 0, 0, 0, 0, []),
  (88, .iload_n 1, 1, 0, 0, 0, 0, []),
  (89, .iconst 1, 1, 0, 0, 0, 1, []),
  (90, .iadd, 1, 0, 0, 0, 0, []),
  (91, .invokevirtual 67, 3, 73, 2, 1, 0, []),
  (94, .istore 4, 2, 0, 0, 0, 0, []),
  (96, .aload_n 0, 1, 0, 0, 0, 0, []),
  (97, .iload_n 3, 1, 0, 0, 0, 0, []),
  (98, .bipush 33, 2, 0, 0, 0, 33, []),
  (100, .if_icmp .ne 8, 3, 62, 0, 0, 0, []),
  (103, .bipush (-33), 2, 0, 0, 0, -33, []),
  (105, .goto 5, 3, 63, 0, 0, 0, []),
  (108, .bipush (-126), 2, 0, 0, 0, -126, []),
  (110, .invokevirtual 63, 3, 77, 2, 0, 0, []),
  (113, .iload 4, 2, 0, 0, 0, 0, []),
  (115, .ireturn, 1, 1, 0, 0, 0, [])]
/-- yX5_readNumber -/
def mt_74 : List am_row := [
  (0, .iconst 0, 1, 0, 0, 0, 0, []),
  (1, .istore_n 1, 1, 0, 0, 0, 0, []),
  (2, .iconst 0, 1, 0, 0, 0, 0, []),
  (3, .istore_n 2, 1, 0, 0, 0, 0, []),
  (4, .iload_n 2, 1, 0, 0, 0, 0, []),
  (5, .iconst 4, 1, 0, 0, 0, 4, []),
  (6, .if_icmp .ge 44, 3, 30, 0, 0, 0, []),
  (9, .aload_n 0, 1, 0, 0, 0, 0, []),
  (10, .invokevirtual 87, 3, 75, 1, 1, 0, []),
  (13, .ifCond .eq 37, 3, 30, 0, 0, 0, []),
  (16, .iload_n 1, 1, 0, 0, 0, 0, []),
  (17, .bipush 10, 2, 0, 0, 0, 10, []),
  (19, .imul, 1, 0, 0, 0, 0, []),
  (20, .aload_n 0, 1, 0, 0, 0, 0, []),
  (21, .getfield 9, 3, 5, 0, 2, 0, []),
  (24, .aload_n 0, 1, 0, 0, 0, 0, []),
  (25, .getfield 26, 3, 5, 2, 0, 0, []),
  (28, .iaload, 1, 0, 0, 0, 0, []),
  (29, .iadd, 1, 0, 0, 0, 0, []),
  (30, .bipush 48, 2, 0, 0, 0, 48, []),
  (32, .isub, 1, 0, 0, 0, 0, []),
  (33, .istore_n 1, 1, 0, 0, 0, 0, []),
  (34, .aload_n 0, 1, 0, 0, 0, 0, []),
  (35, .dup, 1, 0, 0, 0, 0, []),
  (36, .getfield 26, 3, 5, 2, 0, 0, []),
  (39, .iconst 1, 1, 0, 0, 0, 1, []),
  (40, .iadd, 1, 0, 0, 0, 0, []),
  (41, .putfield 26, 3, 5, 2, 0, 0, []),
  (44, .iinc 2 1, 3, 0, 0, 0, 1, []),
  (47, .goto (-43), 3, 4, 0, 0, 0, []),
  (50, .aload_n 0, 1, 0, 0, 0, 0, []),
  (51, .iload_n 1, 1, 0, 0, 0, 0, []),
  (52, .invokevirtual 63, 3, 77, 2, 0, 0, []),
  (55, .return_, 1, 0, 0, 0, 0, [])]
/-- yX5_isDigitNext -/
def mt_75 : List am_row := [
  (0, .aload_n 0, 1, 0, 0, 0, 0, []),
  (1, .getfield 26, 3, 5, 2, 0, 0, []),
  (4, .aload_n 0, 1, 0, 0, 0, 0, []),
  (5, .getfield 22, 3, 5, 1, 0, 0, []),
  (8, .if_icmp .ge 35, 3, 21, 0, 0, 0, []),
  (11, .aload_n 0, 1, 0, 0, 0, 0, []),
  (12, .getfield 9, 3, 5, 0, 2, 0, []),
  (15, .aload_n 0, 1, 0, 0, 0, 0, []),
  (16, .getfield 26, 3, 5, 2, 0, 0, []),
  (19, .iaload, 1, 0, 0, 0, 0, []),
  (20, .bipush 48, 2, 0, 0, 0, 48, []),
  (22, .if_icmp .lt 21, 3, 21, 0, 0, 0, []),
  (25, .aload_n 0, 1, 0, 0, 0, 0, []),
  (26, .getfield 9, 3, 5, 0, 2, 0, []),
  (29, .aload_n 0, 1, 0, 0, 0, 0, []),
  (30, .getfield 26, 3, 5, 2, 0, 0, []),
  (33, .iaload, 1, 0, 0, 0, 0, []),
  (34, .bipush 57, 2, 0, 0, 0, 57, []),
  (36, .if_icmp .gt 7, 3, 21, 0, 0, 0, []),
  (39, .iconst 1, 1, 0, 0, 0, 1, []),
  (40, .goto 4, 3, 22, 0, 0, 0, []),
  (43, .iconst 0, 1, 0, 0, 0, 0, []),
  (44, .ireturn, 1, 1, 0, 0, 0, [])]
/-- yX5_pass -/
def mt_76 : List am_row := [
  (0, .aload_n 0, 1, 0, 0, 0, 0, []),
  (1, .getfield 26, 3, 5, 2, 0, 0, []),
  (4, .aload_n 0, 1, 0, 0, 0, 0, []),
  (5, .getfield 22, 3, 5, 1, 0, 0, []),
  (8, .if_icmp .ge 20, 3, 14, 0, 0, 0, []),
  (11, .aload_n 1, 1, 0, 0, 0, 0, []),
  (12, .aload_n 0, 1, 0, 0, 0, 0, []),
  (13, .getfield 9, 3, 5, 0, 2, 0, []),
  (16, .aload_n 0, 1, 0, 0, 0, 0, []),
  (17, .getfield 26, 3, 5, 2, 0, 0, []),
  (20, .iaload, 1, 0, 0, 0, 0, []),
  (21, .i2c, 1, 0, 0, 0, 0, []),
  (22, .invokevirtual 97, 3, 277, 2, 1, 0, []),
  (25, .ifCond .ge 5, 3, 16, 0, 0, 0, []),
  (28, .iconst 0, 1, 0, 0, 0, 0, []),
  (29, .ireturn, 1, 0, 0, 0, 0, []),
  (30, .aload_n 0, 1, 0, 0, 0, 0, []),
  (31, .dup, 1, 0, 0, 0, 0, []),
  (32, .getfield 26, 3, 5, 2, 0, 0, []),
  (35, .iconst 1, 1, 0, 0, 0, 1, []),
  (36, .iadd, 1, 0, 0, 0, 0, []),
  (37, .putfield 26, 3, 5, 2, 0, 0, []),
  (40, .aload_n 0, 1, 0, 0, 0, 0, []),
  (41, .getfield 9, 3, 5, 0, 2, 0, []),
  (44, .aload_n 0, 1, 0, 0, 0, 0, []),
  (45, .getfield 26, 3, 5, 2, 0, 0, []),
  (48, .iconst 1, 1, 0, 0, 0, 1, []),
  (49, .isub, 1, 0, 0, 0, 0, []),
  (50, .iaload, 1, 0, 0, 0, 0, []),
  (51, .ireturn, 1, 0, 0, 0, 0, [])]
/-- yX5_draftStep -/
def mt_77 : List am_row := [
  (0, .aload_n 0, 1, 0, 0, 0, 0, []),
  (1, .getfield 29, 3, 5, 4, 0, 0, []),
  (4, .aload_n 0, 1, 0, 0, 0, 0, []),
  (5, .getfield 13, 3, 5, 3, 2, 0, []),
  (8, .arraylength, 1, 0, 0, 0, 0, []),
  (9, .if_icmp .ge 23, 3, 18, 0, 0, 0, []),
  (12, .aload_n 0, 1, 0, 0, 0, 0, []),
  (13, .getfield 13, 3, 5, 3, 2, 0, []),
  (16, .aload_n 0, 1, 0, 0, 0, 0, []),
  (17, .getfield 29, 3, 5, 4, 0, 0, []),
  (20, .iload_n 1, 1, 0, 0, 0, 0, []),
  (21, .iastore, 1, 0, 0, 0, 0, []),
  (22, .aload_n 0, 1, 0, 0, 0, 0, []),
  (23, .dup, 1, 0, 0, 0, 0, []),
  (24, .getfield 29, 3, 5, 4, 0, 0, []),
  (27, .iconst 1, 1, 0, 0, 0, 1, []),
  (28, .iadd, 1, 0, 0, 0, 0, []),
  (29, .putfield 29, 3, 5, 4, 0, 0, []),
  (32, .return_, 1, 0, 0, 0, 0, [])]
/-- yX5_workOut -/
def mt_78 : List am_row := [
  (0, .aload_n 0, 1, 0, 0, 0, 0, []),
  (1, .iconst 0, 1, 0, 0, 0, 0, []),
  (2, .putfield 103, 3, 5, 9, 0, 0, []),
  (5, .iconst 0, 1, 0, 0, 0, 0, []),
  (6, .istore_n 2, 1, 0, 0, 0, 0, []),
  (7, .iconst 0, 1, 0, 0, 0, 0, []),
  (8, .istore_n 3, 1, 0, 0, 0, 0, []),
  (9, .iload_n 3, 1, 0, 0, 0, 0, []),
  (10, .aload_n 0, 1, 0, 0, 0, 0, []),
  (11, .getfield 42, 3, 5, 6, 0, 0, []),
  (14, .if_icmp .ge 72, 3, 46, 0, 0, 0, []),
  (17, .aload_n 0, 1, 0, 0, 0, 0, []),
  (18, .getfield 16, 3, 5, 5, 2, 0, []),
  (21, .iload_n 3, 1, 0, 0, 0, 0, []),
  (22, .iaload, 1, 0, 0, 0, 0, []),
  (23, .istore 4, 2, 0, 0, 0, 0, []),
  (25, .iload 4, 2, 0, 0, 0, 0, []),
  (27, .bipush (-59), 2, 0, 0, 0, -59, []),
  (29, .if_icmp .ne 17, 3, 27, 0, 0, 0, []),
  (32, .iload_n 2, 1, 0, 0, 0, 0, []),
  (33, .ifCond .ne 8, 3, 24, 0, 0, 0, []),
  (36, .aload_n 0, 1, 0, 0, 0, 0, []),
  (37, .invokevirtual 106, 3, 82, 1, 1, 0, []),
  (40, .ireturn, 1, 0, 0, 0, 0, []),
  (41, .iconst 0, 1, 0, 0, 0, 0, []),
  (42, .istore_n 2, 1, 0, 0, 0, 0, []),
  (43, .goto 37, 3, 44, 0, 0, 0, []),
  (46, .iload 4, 2, 0, 0, 0, 0, []),
  (48, .bipush (-63), 2, 0, 0, 0, -63, []),
  (50, .if_icmp .ne 19, 3, 38, 0, 0, 0, []),
  (53, .aload_n 0, 1, 0, 0, 0, 0, []),
  (54, .invokevirtual 106, 3, 82, 1, 1, 0, []),
  (57, .ifCond .ne 7, 3, 35, 0, 0, 0, []),
  (60, .iconst 1, 1, 0, 0, 0, 1, []),
  (61, .goto 4, 3, 36, 0, 0, 0, []),
  (64, .iconst 0, 1, 0, 0, 0, 0, []),
  (65, .istore_n 2, 1, 0, 0, 0, 0, []),
  (66, .goto 14, 3, 44, 0, 0, 0, []),
  (69, .iload_n 2, 1, 0, 0, 0, 0, []),
  (70, .ifCond .ne 10, 3, 44, 0, 0, 0, []),
  (73, .aload_n 0, 1, 0, 0, 0, 0, []),
  (74, .iload 4, 2, 0, 0, 0, 0, []),
  (76, .aload_n 1, 1, 0, 0, 0, 0, []),
  (77, .invokevirtual 110, 3, 79, 3, 0, 0, []),
  (80, .iinc 3 1, 3, 0, 0, 0, 1, []),
  (83, .goto (-74), 3, 7, 0, 0, 0, []),
  (86, .iconst 0, 1, 0, 0, 0, 0, []),
  (87, .ireturn, 1, 0, 0, 0, 0, [])]
/-- yX5_takeStep -/
def mt_79 : List am_row := [
  (0, .iload_n 1, 1, 0, 0, 0, 0, []),
  (1, .ifCond .lt 9, 3, 6, 0, 0, 0, []),
  (4, .aload_n 0, 1, 0, 0, 0, 0, []),
  (5, .iload_n 1, 1, 0, 0, 0, 0, []),
  (6, .invokevirtual 114, 3, 81, 2, 0, 0, []),
  (9, .return_, 1, 0, 0, 0, 0, []),
  (10, .ldc 85, 2, 126, 1, 0, 0, []),
  (12, .iload_n 1, 1, 0, 0, 0, 0, []),
  (13, .ineg, 1, 0, 0, 0, 0, []),
  (14, .i2c, 1, 0, 0, 0, 0, []),
  (15, .invokevirtual 97, 3, 277, 2, 1, 0, []),
  (18, .istore_n 3, 1, 0, 0, 0, 0, []),
  (19, .iload_n 3, 1, 0, 0, 0, 0, []),
  (20, .ifCond .lt 17, 3, 24, 0, 0, 0, []),
  (23, .iload_n 3, 1, 0, 0, 0, 0, []),
  (24, .aload_n 2, 1, 0, 0, 0, 0, []),
  (25, .arraylength, 1, 0, 0, 0, 0, []),
  (26, .if_icmp .ge 11, 3, 24, 0, 0, 0, []),
  (29, .aload_n 0, 1, 0, 0, 0, 0, []),
  (30, .aload_n 2, 1, 0, 0, 0, 0, []),
  (31, .iload_n 3, 1, 0, 0, 0, 0, []),
  (32, .iaload, 1, 0, 0, 0, 0, []),
  (33, .invokevirtual 114, 3, 81, 2, 0, 0, []),
  (36, .return_, 1, 0, 0, 0, 0, []),
  (37, .aload_n 0, 1, 0, 0, 0, 0, []),
  (38, .invokevirtual 106, 3, 82, 1, 1, 0, []),
  (41, .istore 4, 2, 0, 0, 0, 0, []),
  (43, .iload_n 1, 1, 0, 0, 0, 0, []),
  (44, .bipush (-126), 2, 0, 0, 0, -126, []),
  (46, .if_icmp .ne 13, 3, 35, 0, 0, 0, []),
  (49, .aload_n 0, 1, 0, 0, 0, 0, []),
  (50, .iload 4, 2, 0, 0, 0, 0, []),
  (52, .ineg, 1, 0, 0, 0, 0, []),
  (53, .invokevirtual 114, 3, 81, 2, 0, 0, []),
  (56, .goto 41, 3, 54, 0, 0, 0, []),
  (59, .iload_n 1, 1, 0, 0, 0, 0, []),
  (60, .bipush (-33), 2, 0, 0, 0, -33, []),
  (62, .if_icmp .ne 20, 3, 46, 0, 0, 0, []),
  (65, .aload_n 0, 1, 0, 0, 0, 0, []),
  (66, .iload 4, 2, 0, 0, 0, 0, []),
  (68, .ifCond .ne 7, 3, 43, 0, 0, 0, []),
  (71, .iconst 1, 1, 0, 0, 0, 1, []),
  (72, .goto 4, 3, 44, 0, 0, 0, []),
  (75, .iconst 0, 1, 0, 0, 0, 0, []),
  (76, .invokevirtual 114, 3, 81, 2, 0, 0, []),
  (79, .goto 18, 3, 54, 0, 0, 0, []),
  (82, .aload_n 0, 1, 0, 0, 0, 0, []),
  (83, .iload_n 1, 1, 0, 0, 0, 0, []),
  (84, .ineg, 1, 0, 0, 0, 0, []),
  (85, .aload_n 0, 1, 0, 0, 0, 0, []),
  (86, .invokevirtual 106, 3, 82, 1, 1, 0, []),
  (89, .iload 4, 2, 0, 0, 0, 0, []),
  (91, .invokestatic 117, 3, 80, 3, 1, 0, []),
  (94, .invokevirtual 114, 3, 81, 2, 0, 0, []),
  (97, .return_, 1, 0, 0, 0, 0, [])]
/-- yX5_joined -/
def mt_80 : List am_row := [
  (0, .iload_n 0, 1, 0, 0, 0, 0, []),
  (1, .tableswitch 202 37 62 #[143, 188, 202, 202, 202, 127, 119, 202, 123, 202, 131, 202, 202, 202, 202, 202, 202, 202, 202, 202, 202, 202, 202, 155, 166, 177], 119, 59, 0, 0, 0, [(37, 22), (38, 51), (39, 59), (40, 59), (41, 59), (42, 10), (43, 2), (44, 59), (45, 6), (46, 59), (47, 14), (48, 59), (49, 59), (50, 59), (51, 59), (52, 59), (53, 59), (54, 59), (55, 59), (56, 59), (57, 59), (58, 59), (59, 59), (60, 30), (61, 37), (62, 44)]),
  (120, .iload_n 1, 1, 0, 0, 0, 0, []),
  (121, .iload_n 2, 1, 0, 0, 0, 0, []),
  (122, .iadd, 1, 0, 0, 0, 0, []),
  (123, .ireturn, 1, 0, 0, 0, 0, []),
  (124, .iload_n 1, 1, 0, 0, 0, 0, []),
  (125, .iload_n 2, 1, 0, 0, 0, 0, []),
  (126, .isub, 1, 0, 0, 0, 0, []),
  (127, .ireturn, 1, 0, 0, 0, 0, []),
  (128, .iload_n 1, 1, 0, 0, 0, 0, []),
  (129, .iload_n 2, 1, 0, 0, 0, 0, []),
  (130, .imul, 1, 0, 0, 0, 0, []),
  (131, .ireturn, 1, 0, 0, 0, 0, []),
  (132, .iload_n 2, 1, 0, 0, 0, 0, []),
  (133, .ifCond .ne 7, 3, 18, 0, 0, 0, []),
  (136, .iconst 0, 1, 0, 0, 0, 0, []),
  (137, .goto 6, 3, 21, 0, 0, 0, []),
  (140, .iload_n 1, 1, 0, 0, 0, 0, []),
  (141, .iload_n 2, 1, 0, 0, 0, 0, []),
  (142, .idiv, 1, 0, 0, 0, 0, []),
  (143, .ireturn, 1, 0, 0, 0, 0, []),
  (144, .iload_n 2, 1, 0, 0, 0, 0, []),
  (145, .ifCond .ne 7, 3, 26, 0, 0, 0, []),
  (148, .iconst 0, 1, 0, 0, 0, 0, []),
  (149, .goto 6, 3, 29, 0, 0, 0, []),
  (152, .iload_n 1, 1, 0, 0, 0, 0, []),
  (153, .iload_n 2, 1, 0, 0, 0, 0, []),
  (154, .irem, 1, 0, 0, 0, 0, []),
  (155, .ireturn, 1, 0, 0, 0, 0, []),
  (156, .iload_n 1, 1, 0, 0, 0, 0, []),
  (157, .iload_n 2, 1, 0, 0, 0, 0, []),
  (158, .if_icmp .ge 7, 3, 35, 0, 0, 0, []),
  (161, .iconst 1, 1, 0, 0, 0, 1, []),
  (162, .goto 4, 3, 36, 0, 0, 0, []),
  (165, .iconst 0, 1, 0, 0, 0, 0, []),
  (166, .ireturn, 1, 0, 0, 0, 0, []),
  (167, .iload_n 1, 1, 0, 0, 0, 0, []),
  (168, .iload_n 2, 1, 0, 0, 0, 0, []),
  (169, .if_icmp .ne 7, 3, 42, 0, 0, 0, []),
  (172, .iconst 1, 1, 0, 0, 0, 1, []),
  (173, .goto 4, 3, 43, 0, 0, 0, []),
  (176, .iconst 0, 1, 0, 0, 0, 0, []),
  (177, .ireturn, 1, 0, 0, 0, 0, []),
  (178, .iload_n 1, 1, 0, 0, 0, 0, []),
  (179, .iload_n 2, 1, 0, 0, 0, 0, []),
  (180, .if_icmp .le 7, 3, 49, 0, 0, 0, []),
  (183, .iconst 1, 1, 0, 0, 0, 1, []),
  (184, .goto 4, 3, 50, 0, 0, 0, []),
  (187, .iconst 0, 1, 0, 0, 0, 0, []),
  (188, .ireturn, 1, 0, 0, 0, 0, []),
  (189, .iload_n 1, 1, 0, 0, 0, 0, []),
  (190, .ifCond .eq 11, 3, 57, 0, 0, 0, []),
  (193, .iload_n 2, 1, 0, 0, 0, 0, []),
  (194, .ifCond .eq 7, 3, 57, 0, 0, 0, []),
  (197, .iconst 1, 1, 0, 0, 0, 1, []),
  (198, .goto 4, 3, 58, 0, 0, 0, []),
  (201, .iconst 0, 1, 0, 0, 0, 0, []),
  (202, .ireturn, 1, 0, 0, 0, 0, []),
  (203, .iload_n 1, 1, 0, 0, 0, 0, []),
  (204, .ifCond .ne 7, 3, 63, 0, 0, 0, []),
  (207, .iload_n 2, 1, 0, 0, 0, 0, []),
  (208, .ifCond .eq 7, 3, 65, 0, 0, 0, []),
  (211, .iconst 1, 1, 0, 0, 0, 1, []),
  (212, .goto 4, 3, 66, 0, 0, 0, []),
  (215, .iconst 0, 1, 0, 0, 0, 0, []),
  (216, .ireturn, 1, 0, 0, 0, 0, [])]
/-- yX5_push -/
def mt_81 : List am_row := [
  (0, .aload_n 0, 1, 0, 0, 0, 0, []),
  (1, .getfield 103, 3, 5, 9, 0, 0, []),
  (4, .aload_n 0, 1, 0, 0, 0, 0, []),
  (5, .getfield 19, 3, 5, 8, 2, 0, []),
  (8, .arraylength, 1, 0, 0, 0, 0, []),
  (9, .if_icmp .ge 23, 3, 18, 0, 0, 0, []),
  (12, .aload_n 0, 1, 0, 0, 0, 0, []),
  (13, .getfield 19, 3, 5, 8, 2, 0, []),
  (16, .aload_n 0, 1, 0, 0, 0, 0, []),
  (17, .getfield 103, 3, 5, 9, 0, 0, []),
  (20, .iload_n 1, 1, 0, 0, 0, 0, []),
  (21, .iastore, 1, 0, 0, 0, 0, []),
  (22, .aload_n 0, 1, 0, 0, 0, 0, []),
  (23, .dup, 1, 0, 0, 0, 0, []),
  (24, .getfield 103, 3, 5, 9, 0, 0, []),
  (27, .iconst 1, 1, 0, 0, 0, 1, []),
  (28, .iadd, 1, 0, 0, 0, 0, []),
  (29, .putfield 103, 3, 5, 9, 0, 0, []),
  (32, .return_, 1, 0, 0, 0, 0, [])]
/-- yX5_pop -/
def mt_82 : List am_row := [
  (0, .aload_n 0, 1, 0, 0, 0, 0, []),
  (1, .getfield 103, 3, 5, 9, 0, 0, []),
  (4, .ifCond .gt 5, 3, 5, 0, 0, 0, []),
  (7, .iconst 0, 1, 0, 0, 0, 0, []),
  (8, .ireturn, 1, 0, 0, 0, 0, []),
  (9, .aload_n 0, 1, 0, 0, 0, 0, []),
  (10, .dup, 1, 0, 0, 0, 0, []),
  (11, .getfield 103, 3, 5, 9, 0, 0, []),
  (14, .iconst 1, 1, 0, 0, 0, 1, []),
  (15, .isub, 1, 0, 0, 0, 0, []),
  (16, .putfield 103, 3, 5, 9, 0, 0, []),
  (19, .aload_n 0, 1, 0, 0, 0, 0, []),
  (20, .getfield 19, 3, 5, 8, 2, 0, []),
  (23, .aload_n 0, 1, 0, 0, 0, 0, []),
  (24, .getfield 103, 3, 5, 9, 0, 0, []),
  (27, .iaload, 1, 0, 0, 0, 0, []),
  (28, .ireturn, 1, 0, 0, 0, 0, [])]
/-- yX6_isKind -/
def mt_83 : List am_row := [
  (0, .iload_n 1, 1, 0, 0, 0, 0, []),
  (1, .ifCond .lt 15, 3, 8, 0, 0, 0, []),
  (4, .iload_n 1, 1, 0, 0, 0, 0, []),
  (5, .getstatic 16, 3, 116, 0, 0, 0, []),
  (8, .arraylength, 1, 0, 0, 0, 0, []),
  (9, .if_icmp .ge 7, 3, 8, 0, 0, 0, []),
  (12, .iconst 1, 1, 0, 0, 0, 1, []),
  (13, .goto 4, 3, 9, 0, 0, 0, []),
  (16, .iconst 0, 1, 0, 0, 0, 0, []),
  (17, .ireturn, 1, 1, 0, 0, 0, [])]
/-- none -/
def mt_84 : List am_row := [
  ]
/-- yX6_addBody -/
def mt_85 : List am_row := [
  (0, .aload_n 0, 1, 0, 0, 0, 0, []),
  (1, .getfield 19, 3, 6, 1, 0, 0, []),
  (4, .bipush 50, 2, 0, 0, 0, 50, []),
  (6, .if_icmp .lt 5, 3, 6, 0, 0, 0, []),
  (9, .iconst 0, 1, 0, 0, 0, 0, []),
  (10, .ireturn, 1, 1, 0, 0, 0, []),
  (11, .aload_n 0, 1, 0, 0, 0, 0, []),
  (12, .getfield 9, 3, 6, 0, 2, 0, []),
  (15, .aload_n 0, 1, 0, 0, 0, 0, []),
  (16, .getfield 19, 3, 6, 1, 0, 0, []),
  (19, .iload_n 1, 1, 0, 0, 0, 0, []),
  (20, .iastore, 1, 0, 0, 0, 0, []),
  (21, .aload_n 0, 1, 0, 0, 0, 0, []),
  (22, .dup, 1, 0, 0, 0, 0, []),
  (23, .getfield 19, 3, 6, 1, 0, 0, []),
  (26, .iconst 1, 1, 0, 0, 0, 1, []),
  (27, .iadd, 1, 0, 0, 0, 0, []),
  (28, .putfield 19, 3, 6, 1, 0, 0, []),
  (31, .iconst 1, 1, 0, 0, 0, 1, []),
  (32, .ireturn, 1, 1, 0, 0, 0, [])]
/-- none -/
def mt_86 : List am_row := [
  ]
/-- none -/
def mt_87 : List am_row := [
  ]
/-- none -/
def mt_88 : List am_row := [
  ]
/-- none -/
def mt_89 : List am_row := [
  ]
/-- none -/
def mt_90 : List am_row := [
  ]
/-- none -/
def mt_91 : List am_row := [
  ]
/-- none -/
def mt_92 : List am_row := [
  ]
/-- none -/
def mt_93 : List am_row := [
  ]
/-- none -/
def mt_94 : List am_row := [
  ]
/-- none -/
def mt_95 : List am_row := [
  ]
/-- none -/
def mt_96 : List am_row := [
  ]
/-- none -/
def mt_97 : List am_row := [
  ]
/-- yX7_holdRow -/
def mt_98 : List am_row := [
  (0, .aload_n 0, 1, 0, 0, 0, 0, []),
  (1, .iconst 2, 1, 0, 0, 0, 2, []),
  (2, .putfield 11, 3, 7, 0, 0, 0, []),
  (5, .aload_n 0, 1, 0, 0, 0, 0, []),
  (6, .iload_n 1, 1, 0, 0, 0, 0, []),
  (7, .putfield 25, 3, 7, 2, 0, 0, []),
  (10, .aload_n 0, 1, 0, 0, 0, 0, []),
  (11, .iconst 0, 1, 0, 0, 0, 0, []),
  (12, .iload_n 2, 1, 0, 0, 0, 0, []),
  (13, .bipush 60, 2, 0, 0, 0, 60, []),
  (15, .invokestatic 28, 3, 1001, 2, 1, 0, []),
  (18, .invokestatic 34, 3, 1000, 2, 1, 0, []),
  (21, .putfield 19, 3, 7, 3, 0, 0, []),
  (24, .aload_n 0, 1, 0, 0, 0, 0, []),
  (25, .getfield 15, 3, 7, 4, 2, 0, []),
  (28, .lconst 0, 1, 0, 0, 0, 0, []),
  (29, .invokestatic 37, 3, 274, 2, 0, 0, []),
  (32, .return_, 1, 0, 0, 0, 0, [])]
/-- yX7_refusesRow -/
def mt_99 : List am_row := [
  (0, .aload_n 0, 1, 0, 0, 0, 0, []),
  (1, .getfield 11, 3, 7, 0, 0, 0, []),
  (4, .ifCond .ne 6, 3, 5, 0, 0, 0, []),
  (7, .bipush (-11), 2, 0, 0, 0, -11, []),
  (9, .ireturn, 1, 0, 0, 0, 0, []),
  (10, .aload_n 0, 1, 0, 0, 0, 0, []),
  (11, .getfield 11, 3, 7, 0, 0, 0, []),
  (14, .iconst 2, 1, 0, 0, 0, 2, []),
  (15, .if_icmp .ne 7, 3, 11, 0, 0, 0, []),
  (18, .iconst 0, 1, 0, 0, 0, 0, []),
  (19, .goto 5, 3, 12, 0, 0, 0, []),
  (22, .bipush (-12), 2, 0, 0, 0, -12, []),
  (24, .ireturn, 1, 0, 0, 0, 0, [])]
/-- yX7_refusesBytes -/
def mt_100 : List am_row := [
  (0, .aload_n 0, 1, 0, 0, 0, 0, []),
  (1, .invokevirtual 43, 3, 99, 1, 1, 0, []),
  (4, .istore_n 1, 1, 0, 0, 0, 0, []),
  (5, .iload_n 1, 1, 0, 0, 0, 0, []),
  (6, .ifCond .ne 15, 3, 10, 0, 0, 0, []),
  (9, .aload_n 0, 1, 0, 0, 0, 0, []),
  (10, .getfield 25, 3, 7, 2, 0, 0, []),
  (13, .ifCond .eq 8, 3, 10, 0, 0, 0, []),
  (16, .bipush (-12), 2, 0, 0, 0, -12, []),
  (18, .goto 4, 3, 11, 0, 0, 0, []),
  (21, .iload_n 1, 1, 0, 0, 0, 0, []),
  (22, .ireturn, 1, 0, 0, 0, 0, [])]
/-- yX7_hasPlace -/
def mt_101 : List am_row := [
  (0, .iload_n 1, 1, 0, 0, 0, 0, []),
  (1, .ifCond .lt 15, 3, 8, 0, 0, 0, []),
  (4, .iload_n 1, 1, 0, 0, 0, 0, []),
  (5, .aload_n 0, 1, 0, 0, 0, 0, []),
  (6, .getfield 19, 3, 7, 3, 0, 0, []),
  (9, .if_icmp .ge 7, 3, 8, 0, 0, 0, []),
  (12, .iconst 1, 1, 0, 0, 0, 1, []),
  (13, .goto 4, 3, 9, 0, 0, 0, []),
  (16, .iconst 0, 1, 0, 0, 0, 0, []),
  (17, .ireturn, 1, 1, 0, 0, 0, [])]
/-- none -/
def mt_102 : List am_row := [
  ]
/-- yX7_at -/
def mt_103 : List am_row := [
  (0, .aload_n 0, 1, 0, 0, 0, 0, []),
  (1, .iload_n 1, 1, 0, 0, 0, 0, []),
  (2, .invokevirtual 47, 3, 101, 2, 1, 0, []),
  (5, .ifCond .eq 12, 3, 9, 0, 0, 0, []),
  (8, .aload_n 0, 1, 0, 0, 0, 0, []),
  (9, .getfield 15, 3, 7, 4, 2, 0, []),
  (12, .iload_n 1, 1, 0, 0, 0, 0, []),
  (13, .laload, 1, 0, 0, 0, 0, []),
  (14, .goto 4, 3, 10, 0, 0, 0, []),
  (17, .lconst 0, 1, 0, 0, 0, 0, []),
  (18, .lreturn, 1, 0, 0, 0, 0, [])]
/-- yX7_putIn -/
def mt_104 : List am_row := [
  (0, .aload_n 0, 1, 0, 0, 0, 0, []),
  (1, .iload_n 1, 1, 0, 0, 0, 0, []),
  (2, .invokevirtual 47, 3, 101, 2, 1, 0, []),
  (5, .ifCond .ne 5, 3, 6, 0, 0, 0, []),
  (8, .iconst 0, 1, 0, 0, 0, 0, []),
  (9, .ireturn, 1, 1, 0, 0, 0, []),
  (10, .aload_n 0, 1, 0, 0, 0, 0, []),
  (11, .getfield 15, 3, 7, 4, 2, 0, []),
  (14, .iload_n 1, 1, 0, 0, 0, 0, []),
  (15, .aload_n 0, 1, 0, 0, 0, 0, []),
  (16, .lload_n 2, 1, 0, 0, 0, 0, []),
  (17, .invokevirtual 51, 3, 105, 2, 2, 0, []),
  (20, .lastore, 1, 0, 0, 0, 0, []),
  (21, .iconst 1, 1, 0, 0, 0, 1, []),
  (22, .ireturn, 1, 1, 0, 0, 0, [])]
/-- yX7_lowest -/
def mt_105 : List am_row := [
  (0, .aload_n 0, 1, 0, 0, 0, 0, []),
  (1, .getfield 25, 3, 7, 2, 0, 0, []),
  (4, .tableswitch 48 0 3 #[32, 37, 42, 46], 32, 19, 0, 0, 0, [(0, 3), (1, 8), (2, 13), (3, 17)]),
  (36, .lload_n 1, 1, 0, 0, 0, 0, []),
  (37, .l2i, 1, 0, 0, 0, 0, []),
  (38, .i2b, 1, 0, 0, 0, 0, []),
  (39, .i2l, 1, 0, 0, 0, 0, []),
  (40, .lreturn, 1, 0, 0, 0, 0, []),
  (41, .lload_n 1, 1, 0, 0, 0, 0, []),
  (42, .l2i, 1, 0, 0, 0, 0, []),
  (43, .i2s, 1, 0, 0, 0, 0, []),
  (44, .i2l, 1, 0, 0, 0, 0, []),
  (45, .lreturn, 1, 0, 0, 0, 0, []),
  (46, .lload_n 1, 1, 0, 0, 0, 0, []),
  (47, .l2i, 1, 0, 0, 0, 0, []),
  (48, .i2l, 1, 0, 0, 0, 0, []),
  (49, .lreturn, 1, 0, 0, 0, 0, []),
  (50, .lload_n 1, 1, 0, 0, 0, 0, []),
  (51, .lreturn, 1, 0, 0, 0, 0, []),
  (52, .lload_n 1, 1, 0, 0, 0, 0, []),
  (53, .lconst 0, 1, 0, 0, 0, 0, []),
  (54, .lcmp, 1, 0, 0, 0, 0, []),
  (55, .ifCond .eq 7, 3, 25, 0, 0, 0, []),
  (58, .lconst 1, 1, 1, 0, 0, 0, []),
  (59, .goto 4, 3, 26, 0, 0, 0, []),
  (62, .lconst 0, 1, 0, 0, 0, 0, []),
  (63, .lreturn, 1, 0, 0, 0, 0, [])]
/-- none -/
def mt_106 : List am_row := [
  ]
/-- yX8_earlyOnes -/
def mt_107 : List am_row := [
  (0, .iconst 0, 1, 0, 0, 0, 0, []),
  (1, .istore_n 3, 1, 0, 0, 0, 0, []),
  (2, .iconst 0, 1, 0, 0, 0, 0, []),
  (3, .istore 4, 2, 0, 0, 0, 0, []),
  (5, .iload 4, 2, 0, 0, 0, 0, []),
  (7, .aload_n 1, 1, 0, 0, 0, 0, []),
  (8, .getfield 19, 3, 7, 3, 0, 0, []),
  (11, .if_icmp .ge 51, 3, 33, 0, 0, 0, []),
  (14, .aload_n 1, 1, 0, 0, 0, 0, []),
  (15, .iload 4, 2, 0, 0, 0, 0, []),
  (17, .invokevirtual 25, 3, 103, 2, 2, 0, []),
  (20, .l2i, 1, 0, 0, 0, 0, []),
  (21, .istore 5, 2, 0, 0, 0, 0, []),
  (23, .aload_n 0, 1, 0, 0, 0, 0, []),
  (24, .getfield 9, 3, 8, 0, 2, 0, []),
  (27, .iload 5, 2, 0, 0, 0, 0, []),
  (29, .invokevirtual 29, 3, 0, 2, 1, 0, []),
  (32, .ifCond .eq 24, 3, 31, 0, 0, 0, []),
  (35, .aload_n 0, 1, 0, 0, 0, 0, []),
  (36, .getfield 9, 3, 8, 0, 2, 0, []),
  (39, .iconst 0, 1, 0, 0, 0, 0, []),
  (40, .iload 5, 2, 0, 0, 0, 0, []),
  (42, .invokevirtual 35, 3, 4, 3, 1, 0, []),
  (45, .iload_n 2, 1, 0, 0, 0, 0, []),
  (46, .if_icmp .le 10, 3, 31, 0, 0, 0, []),
  (49, .iload_n 3, 1, 0, 0, 0, 0, []),
  (50, .iconst 1, 1, 0, 0, 0, 1, []),
  (51, .iload 5, 2, 0, 0, 0, 0, []),
  (53, .ishl, 1, 0, 0, 0, 0, []),
  (54, .ior, 1, 0, 0, 0, 0, []),
  (55, .istore_n 3, 1, 0, 0, 0, 0, []),
  (56, .iinc 4 1, 3, 0, 0, 0, 1, []),
  (59, .goto (-54), 3, 4, 0, 0, 0, []),
  (62, .iload_n 3, 1, 0, 0, 0, 0, []),
  (63, .ireturn, 1, 0, 0, 0, 0, [])]
/-- yX8_couldHaveBeen -/
def mt_108 : List am_row := [
  (0, .aload_n 0, 1, 0, 0, 0, 0, []),
  (1, .aload_n 1, 1, 0, 0, 0, 0, []),
  (2, .iload_n 2, 1, 0, 0, 0, 0, []),
  (3, .invokevirtual 39, 3, 107, 3, 1, 0, []),
  (6, .istore 4, 2, 0, 0, 0, 0, []),
  (8, .iconst 0, 1, 0, 0, 0, 0, []),
  (9, .istore 5, 2, 0, 0, 0, 0, []),
  (11, .iconst 0, 1, 0, 0, 0, 0, []),
  (12, .istore 6, 2, 0, 0, 0, 0, []),
  (14, .iload 6, 2, 0, 0, 0, 0, []),
  (16, .aload_n 0, 1, 0, 0, 0, 0, []),
  (17, .getfield 9, 3, 8, 0, 2, 0, []),
  (20, .getfield 43, 3, 0, 2, 0, 0, []),
  (23, .if_icmp .ge 43, 3, 34, 0, 0, 0, []),
  (26, .aload_n 0, 1, 0, 0, 0, 0, []),
  (27, .getfield 9, 3, 8, 0, 2, 0, []),
  (30, .iload 6, 2, 0, 0, 0, 0, []),
  (32, .iload_n 2, 1, 0, 0, 0, 0, []),
  (33, .invokevirtual 46, 3, 8, 3, 1, 0, []),
  (36, .ifCond .ne 24, 3, 32, 0, 0, 0, []),
  (39, .aload_n 0, 1, 0, 0, 0, 0, []),
  (40, .iload 6, 2, 0, 0, 0, 0, []),
  (42, .iload 4, 2, 0, 0, 0, 0, []),
  (44, .iload_n 3, 1, 0, 0, 0, 0, []),
  (45, .invokevirtual 50, 3, 109, 4, 1, 0, []),
  (48, .ifCond .eq 12, 3, 32, 0, 0, 0, []),
  (51, .iload 5, 2, 0, 0, 0, 0, []),
  (53, .iconst 1, 1, 0, 0, 0, 1, []),
  (54, .iload 6, 2, 0, 0, 0, 0, []),
  (56, .ishl, 1, 0, 0, 0, 0, []),
  (57, .ior, 1, 0, 0, 0, 0, []),
  (58, .istore 5, 2, 0, 0, 0, 0, []),
  (60, .iinc 6 1, 3, 0, 0, 0, 1, []),
  (63, .goto (-49), 3, 9, 0, 0, 0, []),
  (66, .iload 5, 2, 0, 0, 0, 0, []),
  (68, .ireturn, 1, 0, 0, 0, 0, [])]
/-- yX8_hasReason -/
def mt_109 : List am_row := [
  (0, .iconst 0, 1, 0, 0, 0, 0, []),
  (1, .istore 4, 2, 0, 0, 0, 0, []),
  (3, .iload 4, 2, 0, 0, 0, 0, []),
  (5, .aload_n 0, 1, 0, 0, 0, 0, []),
  (6, .getfield 9, 3, 8, 0, 2, 0, []),
  (9, .getfield 54, 3, 0, 1, 0, 0, []),
  (12, .if_icmp .ge 69, 3, 42, 0, 0, 0, []),
  (15, .aload_n 0, 1, 0, 0, 0, 0, []),
  (16, .getfield 9, 3, 8, 0, 2, 0, []),
  (19, .iconst 1, 1, 0, 0, 0, 1, []),
  (20, .iload 4, 2, 0, 0, 0, 0, []),
  (22, .invokevirtual 35, 3, 4, 3, 1, 0, []),
  (25, .aload_n 0, 1, 0, 0, 0, 0, []),
  (26, .getfield 9, 3, 8, 0, 2, 0, []),
  (29, .iconst 4, 1, 0, 0, 0, 4, []),
  (30, .iload_n 1, 1, 0, 0, 0, 0, []),
  (31, .invokevirtual 35, 3, 4, 3, 1, 0, []),
  (34, .if_icmp .ne 7, 3, 20, 0, 0, 0, []),
  (37, .iconst 1, 1, 0, 0, 0, 1, []),
  (38, .goto 4, 3, 21, 0, 0, 0, []),
  (41, .iconst 0, 1, 0, 0, 0, 0, []),
  (42, .istore 5, 2, 0, 0, 0, 0, []),
  (44, .iload_n 2, 1, 0, 0, 0, 0, []),
  (45, .iload 4, 2, 0, 0, 0, 0, []),
  (47, .ishr, 1, 0, 0, 0, 0, []),
  (48, .iconst 1, 1, 0, 0, 0, 1, []),
  (49, .iand, 1, 0, 0, 0, 0, []),
  (50, .iconst 1, 1, 0, 0, 0, 1, []),
  (51, .if_icmp .ne 24, 3, 40, 0, 0, 0, []),
  (54, .iload 5, 2, 0, 0, 0, 0, []),
  (56, .ifCond .ne 17, 3, 38, 0, 0, 0, []),
  (59, .aload_n 0, 1, 0, 0, 0, 0, []),
  (60, .getfield 15, 3, 8, 1, 2, 0, []),
  (63, .iload_n 3, 1, 0, 0, 0, 0, []),
  (64, .iload 4, 2, 0, 0, 0, 0, []),
  (66, .invokevirtual 57, 3, 38, 3, 1, 0, []),
  (69, .iload_n 1, 1, 0, 0, 0, 0, []),
  (70, .if_icmp .ne 5, 3, 40, 0, 0, 0, []),
  (73, .iconst 1, 1, 0, 0, 0, 1, []),
  (74, .ireturn, 1, 1, 0, 0, 0, []),
  (75, .iinc 4 1, 3, 0, 0, 0, 1, []),
  (78, .goto (-75), 3, 2, 0, 0, 0, []),
  (81, .iconst 0, 1, 0, 0, 0, 0, []),
  (82, .ireturn, 1, 1, 0, 0, 0, [])]
/-- yX8_onlyOne -/
def mt_110 : List am_row := [
  (0, .iconst 0, 1, 0, 0, 0, 0, []),
  (1, .istore_n 2, 1, 0, 0, 0, 0, []),
  (2, .iload_n 2, 1, 0, 0, 0, 0, []),
  (3, .aload_n 0, 1, 0, 0, 0, 0, []),
  (4, .getfield 9, 3, 8, 0, 2, 0, []),
  (7, .getfield 43, 3, 0, 2, 0, 0, []),
  (10, .if_icmp .ge 18, 3, 16, 0, 0, 0, []),
  (13, .iload_n 1, 1, 0, 0, 0, 0, []),
  (14, .iconst 1, 1, 0, 0, 0, 1, []),
  (15, .iload_n 2, 1, 0, 0, 0, 0, []),
  (16, .ishl, 1, 0, 0, 0, 0, []),
  (17, .if_icmp .ne 5, 3, 14, 0, 0, 0, []),
  (20, .iload_n 2, 1, 0, 0, 0, 0, []),
  (21, .ireturn, 1, 0, 0, 0, 0, []),
  (22, .iinc 2 1, 3, 0, 0, 0, 1, []),
  (25, .goto (-23), 3, 2, 0, 0, 0, []),
  (28, .bipush (-2), 2, 0, 0, 0, -2, []),
  (30, .ireturn, 1, 0, 0, 0, 0, [])]
/-- yX8_bestGuard -/
def mt_111 : List am_row := [
  (0, .iconst 0, 1, 0, 0, 0, 0, []),
  (1, .istore_n 2, 1, 0, 0, 0, 0, []),
  (2, .iconst 1, 1, 0, 0, 0, 1, []),
  (3, .istore_n 3, 1, 0, 0, 0, 0, []),
  (4, .iload_n 3, 1, 0, 0, 0, 0, []),
  (5, .aload_n 0, 1, 0, 0, 0, 0, []),
  (6, .getfield 9, 3, 8, 0, 2, 0, []),
  (9, .getfield 43, 3, 0, 2, 0, 0, []),
  (12, .if_icmp .ge 26, 3, 22, 0, 0, 0, []),
  (15, .aload_n 0, 1, 0, 0, 0, 0, []),
  (16, .iload_n 3, 1, 0, 0, 0, 0, []),
  (17, .iload_n 1, 1, 0, 0, 0, 0, []),
  (18, .invokevirtual 62, 3, 112, 3, 1, 0, []),
  (21, .aload_n 0, 1, 0, 0, 0, 0, []),
  (22, .iload_n 2, 1, 0, 0, 0, 0, []),
  (23, .iload_n 1, 1, 0, 0, 0, 0, []),
  (24, .invokevirtual 62, 3, 112, 3, 1, 0, []),
  (27, .if_icmp .ge 5, 3, 20, 0, 0, 0, []),
  (30, .iload_n 3, 1, 0, 0, 0, 0, []),
  (31, .istore_n 2, 1, 0, 0, 0, 0, []),
  (32, .iinc 3 1, 3, 0, 0, 0, 1, []),
  (35, .goto (-31), 3, 4, 0, 0, 0, []),
  (38, .iload_n 2, 1, 0, 0, 0, 0, []),
  (39, .ireturn, 1, 0, 0, 0, 0, [])]
/-- yX8_leftBy -/
def mt_112 : List am_row := [
  (0, .iload_n 2, 1, 0, 0, 0, 0, []),
  (1, .iconst 1, 1, 0, 0, 0, 1, []),
  (2, .iload_n 1, 1, 0, 0, 0, 0, []),
  (3, .ishl, 1, 0, 0, 0, 0, []),
  (4, .iconst (-1), 1, 0, 0, 0, -1, []),
  (5, .ixor, 1, 0, 0, 0, 0, []),
  (6, .iand, 1, 0, 0, 0, 0, []),
  (7, .invokestatic 65, 3, 273, 1, 1, 0, []),
  (10, .ireturn, 1, 0, 0, 0, 0, [])]
/-- yX8_firstNotSo -/
def mt_113 : List am_row := [
  (0, .iconst 0, 1, 0, 0, 0, 0, []),
  (1, .istore_n 3, 1, 0, 0, 0, 0, []),
  (2, .iload_n 3, 1, 0, 0, 0, 0, []),
  (3, .aload_n 1, 1, 0, 0, 0, 0, []),
  (4, .getfield 19, 3, 7, 3, 0, 0, []),
  (7, .if_icmp .ge 30, 3, 21, 0, 0, 0, []),
  (10, .aload_n 1, 1, 0, 0, 0, 0, []),
  (11, .iload_n 3, 1, 0, 0, 0, 0, []),
  (12, .invokevirtual 25, 3, 103, 2, 2, 0, []),
  (15, .l2i, 1, 0, 0, 0, 0, []),
  (16, .istore 4, 2, 0, 0, 0, 0, []),
  (18, .aload_n 0, 1, 0, 0, 0, 0, []),
  (19, .iload_n 3, 1, 0, 0, 0, 0, []),
  (20, .iload 4, 2, 0, 0, 0, 0, []),
  (22, .iload_n 2, 1, 0, 0, 0, 0, []),
  (23, .invokevirtual 71, 3, 114, 4, 1, 0, []),
  (26, .ifCond .ne 5, 3, 19, 0, 0, 0, []),
  (29, .iload_n 3, 1, 0, 0, 0, 0, []),
  (30, .ireturn, 1, 0, 0, 0, 0, []),
  (31, .iinc 3 1, 3, 0, 0, 0, 1, []),
  (34, .goto (-32), 3, 2, 0, 0, 0, []),
  (37, .bipush (-2), 2, 0, 0, 0, -2, []),
  (39, .ireturn, 1, 0, 0, 0, 0, [])]
/-- yX8_isSo -/
def mt_114 : List am_row := [
  (0, .aload_n 0, 1, 0, 0, 0, 0, []),
  (1, .getfield 9, 3, 8, 0, 2, 0, []),
  (4, .iload_n 1, 1, 0, 0, 0, 0, []),
  (5, .invokevirtual 29, 3, 0, 2, 1, 0, []),
  (8, .ifCond .ne 5, 3, 7, 0, 0, 0, []),
  (11, .iconst 0, 1, 0, 0, 0, 0, []),
  (12, .ireturn, 1, 1, 0, 0, 0, []),
  (13, .iload_n 2, 1, 0, 0, 0, 0, []),
  (14, .iconst (-1), 1, 0, 0, 0, -1, []),
  (15, .if_icmp .eq 27, 3, 22, 0, 0, 0, []),
  (18, .aload_n 0, 1, 0, 0, 0, 0, []),
  (19, .getfield 9, 3, 8, 0, 2, 0, []),
  (22, .iload_n 2, 1, 0, 0, 0, 0, []),
  (23, .invokevirtual 74, 3, 1, 2, 1, 0, []),
  (26, .ifCond .eq 20, 3, 24, 0, 0, 0, []),
  (29, .aload_n 0, 1, 0, 0, 0, 0, []),
  (30, .getfield 15, 3, 8, 1, 2, 0, []),
  (33, .iload_n 3, 1, 0, 0, 0, 0, []),
  (34, .iload_n 1, 1, 0, 0, 0, 0, []),
  (35, .invokevirtual 57, 3, 38, 3, 1, 0, []),
  (38, .iload_n 2, 1, 0, 0, 0, 0, []),
  (39, .if_icmp .ne 7, 3, 24, 0, 0, 0, []),
  (42, .iconst 1, 1, 0, 0, 0, 1, []),
  (43, .goto 4, 3, 25, 0, 0, 0, []),
  (46, .iconst 0, 1, 0, 0, 0, 0, []),
  (47, .ireturn, 1, 1, 0, 0, 0, [])]
/-- yX9_version -/
def mt_115 : List am_row := [
  (0, .aload_n 0, 1, 0, 0, 0, 0, []),
  (1, .getfield 13, 3, 9, 0, 2, 0, []),
  (4, .getfield 21, 3, 0, 3, 0, 0, []),
  (7, .aload_n 0, 1, 0, 0, 0, 0, []),
  (8, .getfield 17, 3, 9, 1, 2, 0, []),
  (11, .getfield 27, 3, 5, 7, 0, 0, []),
  (14, .iadd, 1, 0, 0, 0, 0, []),
  (15, .ireturn, 1, 0, 0, 0, 0, [])]
/-- yX9_worthLate -/
def mt_116 : List am_row := [
  (0, .aload_n 0, 1, 0, 0, 0, 0, []),
  (1, .getfield 13, 3, 9, 0, 2, 0, []),
  (4, .iconst 1, 1, 0, 0, 0, 1, []),
  (5, .iload_n 2, 1, 0, 0, 0, 0, []),
  (6, .invokevirtual 30, 3, 4, 3, 1, 0, []),
  (9, .aload_n 0, 1, 0, 0, 0, 0, []),
  (10, .getfield 13, 3, 9, 0, 2, 0, []),
  (13, .iconst 4, 1, 0, 0, 0, 4, []),
  (14, .iload_n 1, 1, 0, 0, 0, 0, []),
  (15, .invokevirtual 30, 3, 4, 3, 1, 0, []),
  (18, .if_icmp .ne 7, 3, 13, 0, 0, 0, []),
  (21, .iconst 1, 1, 0, 0, 0, 1, []),
  (22, .goto 4, 3, 14, 0, 0, 0, []),
  (25, .iconst 0, 1, 0, 0, 0, 0, []),
  (26, .istore 5, 2, 0, 0, 0, 0, []),
  (28, .aload_n 0, 1, 0, 0, 0, 0, []),
  (29, .getfield 17, 3, 9, 1, 2, 0, []),
  (32, .invokevirtual 34, 3, 68, 1, 1, 0, []),
  (35, .ifCond .ne 30, 3, 37, 0, 0, 0, []),
  (38, .iconst 0, 1, 0, 0, 0, 0, []),
  (39, .iconst 3, 1, 0, 0, 0, 3, []),
  (40, .iload_n 3, 1, 0, 0, 0, 0, []),
  (41, .imul, 1, 0, 0, 0, 0, []),
  (42, .iconst 4, 1, 0, 0, 0, 4, []),
  (43, .iload 5, 2, 0, 0, 0, 0, []),
  (45, .imul, 1, 0, 0, 0, 0, []),
  (46, .iadd, 1, 0, 0, 0, 0, []),
  (47, .aload_n 0, 1, 0, 0, 0, 0, []),
  (48, .getfield 13, 3, 9, 0, 2, 0, []),
  (51, .bipush 9, 2, 0, 0, 0, 9, []),
  (53, .iconst 0, 1, 0, 0, 0, 0, []),
  (54, .invokevirtual 30, 3, 4, 3, 1, 0, []),
  (57, .iload 4, 2, 0, 0, 0, 0, []),
  (59, .imul, 1, 0, 0, 0, 0, []),
  (60, .isub, 1, 0, 0, 0, 0, []),
  (61, .invokestatic 38, 3, 1000, 2, 1, 0, []),
  (64, .ireturn, 1, 0, 0, 0, 0, []),
  (65, .aload_n 0, 1, 0, 0, 0, 0, []),
  (66, .getfield 7, 3, 9, 2, 2, 0, []),
  (69, .iconst 0, 1, 0, 0, 0, 0, []),
  (70, .iload_n 3, 1, 0, 0, 0, 0, []),
  (71, .iastore, 1, 0, 0, 0, 0, []),
  (72, .aload_n 0, 1, 0, 0, 0, 0, []),
  (73, .getfield 7, 3, 9, 2, 2, 0, []),
  (76, .iconst 1, 1, 0, 0, 0, 1, []),
  (77, .iload 5, 2, 0, 0, 0, 0, []),
  (79, .iastore, 1, 0, 0, 0, 0, []),
  (80, .aload_n 0, 1, 0, 0, 0, 0, []),
  (81, .getfield 7, 3, 9, 2, 2, 0, []),
  (84, .iconst 2, 1, 0, 0, 0, 2, []),
  (85, .aload_n 0, 1, 0, 0, 0, 0, []),
  (86, .getfield 13, 3, 9, 0, 2, 0, []),
  (89, .iconst 0, 1, 0, 0, 0, 0, []),
  (90, .iload_n 2, 1, 0, 0, 0, 0, []),
  (91, .invokevirtual 30, 3, 4, 3, 1, 0, []),
  (94, .iastore, 1, 0, 0, 0, 0, []),
  (95, .aload_n 0, 1, 0, 0, 0, 0, []),
  (96, .getfield 7, 3, 9, 2, 2, 0, []),
  (99, .iconst 3, 1, 0, 0, 0, 3, []),
  (100, .aload_n 0, 1, 0, 0, 0, 0, []),
  (101, .getfield 13, 3, 9, 0, 2, 0, []),
  (104, .iconst 3, 1, 0, 0, 0, 3, []),
  (105, .iload_n 1, 1, 0, 0, 0, 0, []),
  (106, .invokevirtual 30, 3, 4, 3, 1, 0, []),
  (109, .iastore, 1, 0, 0, 0, 0, []),
  (110, .aload_n 0, 1, 0, 0, 0, 0, []),
  (111, .getfield 7, 3, 9, 2, 2, 0, []),
  (114, .iconst 4, 1, 0, 0, 0, 4, []),
  (115, .iload 4, 2, 0, 0, 0, 0, []),
  (117, .iastore, 1, 0, 0, 0, 0, []),
  (118, .aload_n 0, 1, 0, 0, 0, 0, []),
  (119, .getfield 7, 3, 9, 2, 2, 0, []),
  (122, .iconst 5, 1, 0, 0, 0, 5, []),
  (123, .aload_n 0, 1, 0, 0, 0, 0, []),
  (124, .getfield 13, 3, 9, 0, 2, 0, []),
  (127, .bipush 8, 2, 0, 0, 0, 8, []),
  (129, .iconst 0, 1, 0, 0, 0, 0, []),
  (130, .invokevirtual 30, 3, 4, 3, 1, 0, []),
  (133, .iastore, 1, 0, 0, 0, 0, []),
  (134, .iconst 0, 1, 0, 0, 0, 0, []),
  (135, .bipush 99, 2, 0, 0, 0, 99, []),
  (137, .aload_n 0, 1, 0, 0, 0, 0, []),
  (138, .getfield 17, 3, 9, 1, 2, 0, []),
  (141, .aload_n 0, 1, 0, 0, 0, 0, []),
  (142, .getfield 7, 3, 9, 2, 2, 0, []),
  (145, .invokevirtual 43, 3, 78, 2, 1, 0, []),
  (148, .invokestatic 47, 3, 1001, 2, 1, 0, []),
  (151, .invokestatic 38, 3, 1000, 2, 1, 0, []),
  (154, .ireturn, 1, 0, 0, 0, 0, [])]
/-- yX9_worthEaten -/
def mt_117 : List am_row := [
  (0, .aload_n 0, 1, 0, 0, 0, 0, []),
  (1, .getfield 13, 3, 9, 0, 2, 0, []),
  (4, .iload_n 1, 1, 0, 0, 0, 0, []),
  (5, .iload_n 2, 1, 0, 0, 0, 0, []),
  (6, .invokevirtual 50, 3, 9, 3, 1, 0, []),
  (9, .istore 4, 2, 0, 0, 0, 0, []),
  (11, .iload 4, 2, 0, 0, 0, 0, []),
  (13, .iconst (-1), 1, 0, 0, 0, -1, []),
  (14, .if_icmp .eq 7, 3, 11, 0, 0, 0, []),
  (17, .iload_n 3, 1, 0, 0, 0, 0, []),
  (18, .ifCond .ne 7, 3, 13, 0, 0, 0, []),
  (21, .iconst 0, 1, 0, 0, 0, 0, []),
  (22, .goto 12, 3, 19, 0, 0, 0, []),
  (25, .aload_n 0, 1, 0, 0, 0, 0, []),
  (26, .iload_n 1, 1, 0, 0, 0, 0, []),
  (27, .iload_n 2, 1, 0, 0, 0, 0, []),
  (28, .iload_n 3, 1, 0, 0, 0, 0, []),
  (29, .iload 4, 2, 0, 0, 0, 0, []),
  (31, .invokevirtual 53, 3, 116, 5, 1, 0, []),
  (34, .ireturn, 1, 0, 0, 0, 0, [])]
/-- yX10_door -/
def mt_118 : List am_row := [
  (0, .aload_n 0, 1, 0, 0, 0, 0, []),
  (1, .getfield 10, 3, 10, 0, 2, 0, []),
  (4, .iconst 0, 1, 0, 0, 0, 0, []),
  (5, .iload_n 1, 1, 0, 0, 0, 0, []),
  (6, .invokevirtual 87, 3, 3, 3, 1, 0, []),
  (9, .ifCond .eq 15, 3, 12, 0, 0, 0, []),
  (12, .aload_n 0, 1, 0, 0, 0, 0, []),
  (13, .getfield 10, 3, 10, 0, 2, 0, []),
  (16, .iconst 1, 1, 0, 0, 0, 1, []),
  (17, .iload_n 2, 1, 0, 0, 0, 0, []),
  (18, .invokevirtual 87, 3, 3, 3, 1, 0, []),
  (21, .ifCond .ne 5, 3, 14, 0, 0, 0, []),
  (24, .iconst (-1), 1, 0, 0, 0, -1, []),
  (25, .ireturn, 1, 0, 0, 0, 0, []),
  (26, .aload_n 0, 1, 0, 0, 0, 0, []),
  (27, .getfield 10, 3, 10, 0, 2, 0, []),
  (30, .iload_n 1, 1, 0, 0, 0, 0, []),
  (31, .iload_n 2, 1, 0, 0, 0, 0, []),
  (32, .iconst 1, 1, 0, 0, 0, 1, []),
  (33, .invokevirtual 91, 3, 6, 4, 1, 0, []),
  (36, .ifCond .eq 15, 3, 27, 0, 0, 0, []),
  (39, .aload_n 0, 1, 0, 0, 0, 0, []),
  (40, .getfield 10, 3, 10, 0, 2, 0, []),
  (43, .getfield 95, 3, 0, 1, 0, 0, []),
  (46, .iconst 1, 1, 0, 0, 0, 1, []),
  (47, .isub, 1, 0, 0, 0, 0, []),
  (48, .goto 5, 3, 28, 0, 0, 0, []),
  (51, .bipush (-3), 2, 0, 0, 0, -3, []),
  (53, .ireturn, 1, 0, 0, 0, 0, [])]
/-- none -/
def mt_119 : List am_row := [
  ]
/-- yX10_child -/
def mt_120 : List am_row := [
  (0, .aload_n 0, 1, 0, 0, 0, 0, []),
  (1, .getfield 10, 3, 10, 0, 2, 0, []),
  (4, .iconst 3, 1, 0, 0, 0, 3, []),
  (5, .iload_n 1, 1, 0, 0, 0, 0, []),
  (6, .invokevirtual 87, 3, 3, 3, 1, 0, []),
  (9, .ifCond .eq 15, 3, 12, 0, 0, 0, []),
  (12, .aload_n 0, 1, 0, 0, 0, 0, []),
  (13, .getfield 10, 3, 10, 0, 2, 0, []),
  (16, .iconst 4, 1, 0, 0, 0, 4, []),
  (17, .iload_n 2, 1, 0, 0, 0, 0, []),
  (18, .invokevirtual 87, 3, 3, 3, 1, 0, []),
  (21, .ifCond .ne 5, 3, 14, 0, 0, 0, []),
  (24, .iconst (-1), 1, 0, 0, 0, -1, []),
  (25, .ireturn, 1, 0, 0, 0, 0, []),
  (26, .aload_n 0, 1, 0, 0, 0, 0, []),
  (27, .getfield 10, 3, 10, 0, 2, 0, []),
  (30, .iload_n 1, 1, 0, 0, 0, 0, []),
  (31, .iload_n 2, 1, 0, 0, 0, 0, []),
  (32, .invokevirtual 114, 3, 7, 3, 1, 0, []),
  (35, .ifCond .eq 15, 3, 26, 0, 0, 0, []),
  (38, .aload_n 0, 1, 0, 0, 0, 0, []),
  (39, .getfield 10, 3, 10, 0, 2, 0, []),
  (42, .getfield 117, 3, 0, 2, 0, 0, []),
  (45, .iconst 1, 1, 0, 0, 0, 1, []),
  (46, .isub, 1, 0, 0, 0, 0, []),
  (47, .goto 5, 3, 27, 0, 0, 0, []),
  (50, .bipush (-3), 2, 0, 0, 0, -3, []),
  (52, .ireturn, 1, 0, 0, 0, 0, [])]
/-- yX10_mend -/
def mt_121 : List am_row := [
  (0, .aload_n 0, 1, 0, 0, 0, 0, []),
  (1, .getfield 10, 3, 10, 0, 2, 0, []),
  (4, .iload_n 2, 1, 0, 0, 0, 0, []),
  (5, .iload_n 1, 1, 0, 0, 0, 0, []),
  (6, .invokevirtual 120, 3, 2, 3, 1, 0, []),
  (9, .ifCond .eq 15, 3, 12, 0, 0, 0, []),
  (12, .aload_n 0, 1, 0, 0, 0, 0, []),
  (13, .getfield 10, 3, 10, 0, 2, 0, []),
  (16, .iload_n 2, 1, 0, 0, 0, 0, []),
  (17, .iload_n 3, 1, 0, 0, 0, 0, []),
  (18, .invokevirtual 87, 3, 3, 3, 1, 0, []),
  (21, .ifCond .ne 5, 3, 14, 0, 0, 0, []),
  (24, .iconst (-1), 1, 0, 0, 0, -1, []),
  (25, .ireturn, 1, 0, 0, 0, 0, []),
  (26, .aload_n 0, 1, 0, 0, 0, 0, []),
  (27, .getfield 10, 3, 10, 0, 2, 0, []),
  (30, .iload_n 2, 1, 0, 0, 0, 0, []),
  (31, .iload_n 1, 1, 0, 0, 0, 0, []),
  (32, .invokevirtual 123, 3, 4, 3, 1, 0, []),
  (35, .istore 4, 2, 0, 0, 0, 0, []),
  (37, .iload 4, 2, 0, 0, 0, 0, []),
  (39, .iload_n 3, 1, 0, 0, 0, 0, []),
  (40, .if_icmp .eq 25, 3, 36, 0, 0, 0, []),
  (43, .aload_n 0, 1, 0, 0, 0, 0, []),
  (44, .getfield 19, 3, 10, 1, 2, 0, []),
  (47, .iload_n 1, 1, 0, 0, 0, 0, []),
  (48, .iload_n 2, 1, 0, 0, 0, 0, []),
  (49, .iload 4, 2, 0, 0, 0, 0, []),
  (51, .iload_n 3, 1, 0, 0, 0, 0, []),
  (52, .invokevirtual 127, 3, 12, 5, 0, 0, []),
  (55, .aload_n 0, 1, 0, 0, 0, 0, []),
  (56, .getfield 10, 3, 10, 0, 2, 0, []),
  (59, .iload_n 2, 1, 0, 0, 0, 0, []),
  (60, .iload_n 1, 1, 0, 0, 0, 0, []),
  (61, .iload_n 3, 1, 0, 0, 0, 0, []),
  (62, .invokevirtual 131, 3, 5, 4, 0, 0, []),
  (65, .iload 4, 2, 0, 0, 0, 0, []),
  (67, .ireturn, 1, 0, 0, 0, 0, [])]
/-- yX10_of -/
def mt_122 : List am_row := [
  (0, .iload_n 2, 1, 0, 0, 0, 0, []),
  (1, .bipush 10, 2, 0, 0, 0, 10, []),
  (3, .if_icmp .ne 27, 3, 15, 0, 0, 0, []),
  (6, .aload_n 0, 1, 0, 0, 0, 0, []),
  (7, .getfield 10, 3, 10, 0, 2, 0, []),
  (10, .iload_n 1, 1, 0, 0, 0, 0, []),
  (11, .invokevirtual 135, 3, 0, 2, 1, 0, []),
  (14, .ifCond .eq 14, 3, 13, 0, 0, 0, []),
  (17, .aload_n 0, 1, 0, 0, 0, 0, []),
  (18, .getfield 69, 3, 10, 7, 2, 0, []),
  (21, .iload_n 1, 1, 0, 0, 0, 0, []),
  (22, .invokevirtual 138, 3, 15, 2, 1, 0, []),
  (25, .goto 4, 3, 14, 0, 0, 0, []),
  (28, .iconst (-1), 1, 0, 0, 0, -1, []),
  (29, .ireturn, 1, 0, 0, 0, 0, []),
  (30, .aload_n 0, 1, 0, 0, 0, 0, []),
  (31, .getfield 10, 3, 10, 0, 2, 0, []),
  (34, .iload_n 2, 1, 0, 0, 0, 0, []),
  (35, .iload_n 1, 1, 0, 0, 0, 0, []),
  (36, .invokevirtual 120, 3, 2, 3, 1, 0, []),
  (39, .ifCond .eq 15, 3, 27, 0, 0, 0, []),
  (42, .aload_n 0, 1, 0, 0, 0, 0, []),
  (43, .getfield 10, 3, 10, 0, 2, 0, []),
  (46, .iload_n 2, 1, 0, 0, 0, 0, []),
  (47, .iload_n 1, 1, 0, 0, 0, 0, []),
  (48, .invokevirtual 123, 3, 4, 3, 1, 0, []),
  (51, .goto 4, 3, 28, 0, 0, 0, []),
  (54, .iconst (-1), 1, 0, 0, 0, -1, []),
  (55, .ireturn, 1, 0, 0, 0, 0, [])]
/-- yX10_feed -/
def mt_123 : List am_row := [
  (0, .iload_n 1, 1, 0, 0, 0, 0, []),
  (1, .ifCond .lt 10, 3, 5, 0, 0, 0, []),
  (4, .iload_n 1, 1, 0, 0, 0, 0, []),
  (5, .sipush 255, 3, 0, 0, 0, 255, []),
  (8, .if_icmp .le 5, 3, 7, 0, 0, 0, []),
  (11, .iconst (-1), 1, 0, 0, 0, -1, []),
  (12, .ireturn, 1, 0, 0, 0, 0, []),
  (13, .aload_n 0, 1, 0, 0, 0, 0, []),
  (14, .getfield 26, 3, 10, 2, 2, 0, []),
  (17, .iload_n 1, 1, 0, 0, 0, 0, []),
  (18, .invokevirtual 142, 3, 66, 2, 1, 0, []),
  (21, .ifCond .eq 13, 3, 16, 0, 0, 0, []),
  (24, .aload_n 0, 1, 0, 0, 0, 0, []),
  (25, .getfield 26, 3, 10, 2, 2, 0, []),
  (28, .getfield 145, 3, 5, 1, 0, 0, []),
  (31, .goto 5, 3, 17, 0, 0, 0, []),
  (34, .bipush (-3), 2, 0, 0, 0, -3, []),
  (36, .ireturn, 1, 0, 0, 0, 0, [])]
/-- yX10_law -/
def mt_124 : List am_row := [
  (0, .aload_n 0, 1, 0, 0, 0, 0, []),
  (1, .getfield 26, 3, 10, 2, 2, 0, []),
  (4, .invokevirtual 148, 3, 67, 1, 1, 0, []),
  (7, .ireturn, 1, 0, 0, 0, 0, [])]
/-- yX10_worth -/
def mt_125 : List am_row := [
  (0, .iload_n 2, 1, 0, 0, 0, 0, []),
  (1, .ifCond .ge 5, 3, 4, 0, 0, 0, []),
  (4, .iconst (-1), 1, 0, 0, 0, -1, []),
  (5, .ireturn, 1, 0, 0, 0, 0, []),
  (6, .iload_n 2, 1, 0, 0, 0, 0, []),
  (7, .bipush 100, 2, 0, 0, 0, 100, []),
  (9, .idiv, 1, 0, 0, 0, 0, []),
  (10, .istore_n 3, 1, 0, 0, 0, 0, []),
  (11, .iload_n 2, 1, 0, 0, 0, 0, []),
  (12, .bipush 100, 2, 0, 0, 0, 100, []),
  (14, .irem, 1, 0, 0, 0, 0, []),
  (15, .istore 4, 2, 0, 0, 0, 0, []),
  (17, .aload_n 0, 1, 0, 0, 0, 0, []),
  (18, .getfield 10, 3, 10, 0, 2, 0, []),
  (21, .iload_n 1, 1, 0, 0, 0, 0, []),
  (22, .invokevirtual 151, 3, 1, 2, 1, 0, []),
  (25, .ifCond .eq 21, 3, 25, 0, 0, 0, []),
  (28, .aload_n 0, 1, 0, 0, 0, 0, []),
  (29, .getfield 10, 3, 10, 0, 2, 0, []),
  (32, .iload_n 3, 1, 0, 0, 0, 0, []),
  (33, .invokevirtual 135, 3, 0, 2, 1, 0, []),
  (36, .ifCond .eq 10, 3, 25, 0, 0, 0, []),
  (39, .iload 4, 2, 0, 0, 0, 0, []),
  (41, .bipush 24, 2, 0, 0, 0, 24, []),
  (43, .if_icmp .le 5, 3, 27, 0, 0, 0, []),
  (46, .iconst (-1), 1, 0, 0, 0, -1, []),
  (47, .ireturn, 1, 0, 0, 0, 0, []),
  (48, .aload_n 0, 1, 0, 0, 0, 0, []),
  (49, .getfield 35, 3, 10, 3, 2, 0, []),
  (52, .iload_n 1, 1, 0, 0, 0, 0, []),
  (53, .iload_n 3, 1, 0, 0, 0, 0, []),
  (54, .aload_n 0, 1, 0, 0, 0, 0, []),
  (55, .getfield 10, 3, 10, 0, 2, 0, []),
  (58, .iconst 2, 1, 0, 0, 0, 2, []),
  (59, .iload_n 3, 1, 0, 0, 0, 0, []),
  (60, .invokevirtual 123, 3, 4, 3, 1, 0, []),
  (63, .iload 4, 2, 0, 0, 0, 0, []),
  (65, .invokevirtual 154, 3, 116, 5, 1, 0, []),
  (68, .ireturn, 1, 0, 0, 0, 0, [])]
/-- yX10_whose -/
def mt_126 : List am_row := [
  (0, .iload_n 1, 1, 0, 0, 0, 0, []),
  (1, .ifCond .lt 27, 3, 14, 0, 0, 0, []),
  (4, .iload_n 1, 1, 0, 0, 0, 0, []),
  (5, .bipush 100, 2, 0, 0, 0, 100, []),
  (7, .idiv, 1, 0, 0, 0, 0, []),
  (8, .invokestatic 158, 3, 163, 1, 1, 0, []),
  (11, .ifCond .eq 17, 3, 14, 0, 0, 0, []),
  (14, .aload_n 0, 1, 0, 0, 0, 0, []),
  (15, .getfield 10, 3, 10, 0, 2, 0, []),
  (18, .iload_n 1, 1, 0, 0, 0, 0, []),
  (19, .bipush 100, 2, 0, 0, 0, 100, []),
  (21, .irem, 1, 0, 0, 0, 0, []),
  (22, .invokevirtual 135, 3, 0, 2, 1, 0, []),
  (25, .ifCond .ne 5, 3, 16, 0, 0, 0, []),
  (28, .iconst (-1), 1, 0, 0, 0, -1, []),
  (29, .ireturn, 1, 0, 0, 0, 0, []),
  (30, .aload_n 0, 1, 0, 0, 0, 0, []),
  (31, .invokevirtual 161, 3, 166, 1, 3, 0, []),
  (34, .iload_n 1, 1, 0, 0, 0, 0, []),
  (35, .bipush 100, 2, 0, 0, 0, 100, []),
  (37, .idiv, 1, 0, 0, 0, 0, []),
  (38, .iload_n 1, 1, 0, 0, 0, 0, []),
  (39, .bipush 100, 2, 0, 0, 0, 100, []),
  (41, .irem, 1, 0, 0, 0, 0, []),
  (42, .invokevirtual 165, 3, 38, 3, 1, 0, []),
  (45, .ireturn, 1, 0, 0, 0, 0, [])]
/-- yX10_all -/
def mt_127 : List am_row := [
  (0, .aload_n 0, 1, 0, 0, 0, 0, []),
  (1, .iload_n 1, 1, 0, 0, 0, 0, []),
  (2, .invokevirtual 168, 3, 164, 2, 1, 0, []),
  (5, .ifCond .eq 21, 3, 14, 0, 0, 0, []),
  (8, .aload_n 0, 1, 0, 0, 0, 0, []),
  (9, .invokevirtual 161, 3, 166, 1, 3, 0, []),
  (12, .iload_n 1, 1, 0, 0, 0, 0, []),
  (13, .bipush 10, 2, 0, 0, 0, 10, []),
  (15, .idiv, 1, 0, 0, 0, 0, []),
  (16, .iload_n 1, 1, 0, 0, 0, 0, []),
  (17, .bipush 10, 2, 0, 0, 0, 10, []),
  (19, .irem, 1, 0, 0, 0, 0, []),
  (20, .invokevirtual 171, 3, 39, 3, 1, 0, []),
  (23, .goto 4, 3, 15, 0, 0, 0, []),
  (26, .iconst (-1), 1, 0, 0, 0, -1, []),
  (27, .ireturn, 1, 0, 0, 0, 0, [])]
/-- yX10_giving -/
def mt_128 : List am_row := [
  (0, .iload_n 1, 1, 0, 0, 0, 0, []),
  (1, .invokestatic 158, 3, 163, 1, 1, 0, []),
  (4, .ifCond .ne 5, 3, 5, 0, 0, 0, []),
  (7, .iconst (-1), 1, 0, 0, 0, -1, []),
  (8, .ireturn, 1, 0, 0, 0, 0, []),
  (9, .iload_n 2, 1, 0, 0, 0, 0, []),
  (10, .tableswitch 53 0 2 #[26, 35, 44], 26, 22, 0, 0, 0, [(0, 7), (1, 12), (2, 17)]),
  (36, .aload_n 0, 1, 0, 0, 0, 0, []),
  (37, .invokevirtual 161, 3, 166, 1, 3, 0, []),
  (40, .iload_n 1, 1, 0, 0, 0, 0, []),
  (41, .invokevirtual 174, 3, 40, 2, 1, 0, []),
  (44, .ireturn, 1, 0, 0, 0, 0, []),
  (45, .aload_n 0, 1, 0, 0, 0, 0, []),
  (46, .invokevirtual 161, 3, 166, 1, 3, 0, []),
  (49, .iload_n 1, 1, 0, 0, 0, 0, []),
  (50, .invokevirtual 177, 3, 44, 2, 1, 0, []),
  (53, .ireturn, 1, 0, 0, 0, 0, []),
  (54, .aload_n 0, 1, 0, 0, 0, 0, []),
  (55, .invokevirtual 161, 3, 166, 1, 3, 0, []),
  (58, .iload_n 1, 1, 0, 0, 0, 0, []),
  (59, .invokevirtual 180, 3, 45, 2, 1, 0, []),
  (62, .ireturn, 1, 0, 0, 0, 0, []),
  (63, .iconst (-1), 1, 0, 0, 0, -1, []),
  (64, .ireturn, 1, 0, 0, 0, 0, [])]
/-- yX10_bestRule -/
def mt_129 : List am_row := [
  (0, .iload_n 1, 1, 0, 0, 0, 0, []),
  (1, .ifCond .eq 10, 3, 7, 0, 0, 0, []),
  (4, .iload_n 1, 1, 0, 0, 0, 0, []),
  (5, .iconst 1, 1, 0, 0, 0, 1, []),
  (6, .if_icmp .eq 5, 3, 7, 0, 0, 0, []),
  (9, .iconst (-1), 1, 0, 0, 0, -1, []),
  (10, .ireturn, 1, 0, 0, 0, 0, []),
  (11, .aload_n 0, 1, 0, 0, 0, 0, []),
  (12, .invokevirtual 161, 3, 166, 1, 3, 0, []),
  (15, .invokevirtual 183, 3, 47, 1, 1, 0, []),
  (18, .istore_n 2, 1, 0, 0, 0, 0, []),
  (19, .iload_n 1, 1, 0, 0, 0, 0, []),
  (20, .ifCond .ne 7, 3, 15, 0, 0, 0, []),
  (23, .iload_n 2, 1, 0, 0, 0, 0, []),
  (24, .goto 11, 3, 19, 0, 0, 0, []),
  (27, .aload_n 0, 1, 0, 0, 0, 0, []),
  (28, .getfield 44, 3, 10, 4, 2, 0, []),
  (31, .iload_n 2, 1, 0, 0, 0, 0, []),
  (32, .invokevirtual 174, 3, 40, 2, 1, 0, []),
  (35, .ireturn, 1, 0, 0, 0, 0, [])]
/-- yX10_fairest -/
def mt_130 : List am_row := [
  (0, .iload_n 1, 1, 0, 0, 0, 0, []),
  (1, .bipush (-2), 2, 0, 0, 0, -2, []),
  (3, .if_icmp .lt 14, 3, 8, 0, 0, 0, []),
  (6, .iload_n 1, 1, 0, 0, 0, 0, []),
  (7, .aload_n 0, 1, 0, 0, 0, 0, []),
  (8, .getfield 10, 3, 10, 0, 2, 0, []),
  (11, .getfield 95, 3, 0, 1, 0, 0, []),
  (14, .if_icmp .lt 5, 3, 10, 0, 0, 0, []),
  (17, .iconst (-1), 1, 0, 0, 0, -1, []),
  (18, .ireturn, 1, 0, 0, 0, 0, []),
  (19, .aload_n 0, 1, 0, 0, 0, 0, []),
  (20, .getfield 53, 3, 10, 5, 2, 0, []),
  (23, .invokevirtual 186, 3, 22, 1, 1, 0, []),
  (26, .ifCond .eq 6, 3, 16, 0, 0, 0, []),
  (29, .bipush (-5), 2, 0, 0, 0, -5, []),
  (31, .ireturn, 1, 0, 0, 0, 0, []),
  (32, .aload_n 0, 1, 0, 0, 0, 0, []),
  (33, .getfield 10, 3, 10, 0, 2, 0, []),
  (36, .getfield 117, 3, 0, 2, 0, 0, []),
  (39, .ifCond .ne 6, 3, 22, 0, 0, 0, []),
  (42, .bipush (-2), 2, 0, 0, 0, -2, []),
  (44, .ireturn, 1, 0, 0, 0, 0, []),
  (45, .aload_n 0, 1, 0, 0, 0, 0, []),
  (46, .getfield 44, 3, 10, 4, 2, 0, []),
  (49, .invokevirtual 190, 3, 30, 1, 0, 0, []),
  (52, .aload_n 0, 1, 0, 0, 0, 0, []),
  (53, .getfield 53, 3, 10, 5, 2, 0, []),
  (56, .invokevirtual 193, 3, 24, 1, 0, 0, []),
  (59, .iload_n 1, 1, 0, 0, 0, 0, []),
  (60, .iconst (-1), 1, 0, 0, 0, -1, []),
  (61, .if_icmp .ne 11, 3, 35, 0, 0, 0, []),
  (64, .aload_n 0, 1, 0, 0, 0, 0, []),
  (65, .getfield 53, 3, 10, 5, 2, 0, []),
  (68, .getfield 196, 3, 3, 7, 0, 0, []),
  (71, .ireturn, 1, 0, 0, 0, 0, []),
  (72, .iload_n 1, 1, 0, 0, 0, 0, []),
  (73, .bipush (-2), 2, 0, 0, 0, -2, []),
  (75, .if_icmp .ne 13, 3, 42, 0, 0, 0, []),
  (78, .aload_n 0, 1, 0, 0, 0, 0, []),
  (79, .getfield 53, 3, 10, 5, 2, 0, []),
  (82, .getfield 199, 3, 3, 8, 0, 0, []),
  (85, .goto 11, 3, 46, 0, 0, 0, []),
  (88, .aload_n 0, 1, 0, 0, 0, 0, []),
  (89, .getfield 53, 3, 10, 5, 2, 0, []),
  (92, .iload_n 1, 1, 0, 0, 0, 0, []),
  (93, .invokevirtual 202, 3, 23, 2, 1, 0, []),
  (96, .ireturn, 1, 0, 0, 0, 0, [])]
/-- yX10_envyFree -/
def mt_131 : List am_row := [
  (0, .aload_n 0, 1, 0, 0, 0, 0, []),
  (1, .getfield 53, 3, 10, 5, 2, 0, []),
  (4, .invokevirtual 186, 3, 22, 1, 1, 0, []),
  (7, .ifCond .eq 6, 3, 6, 0, 0, 0, []),
  (10, .bipush (-5), 2, 0, 0, 0, -5, []),
  (12, .ireturn, 1, 0, 0, 0, 0, []),
  (13, .aload_n 0, 1, 0, 0, 0, 0, []),
  (14, .getfield 10, 3, 10, 0, 2, 0, []),
  (17, .getfield 117, 3, 0, 2, 0, 0, []),
  (20, .ifCond .ne 6, 3, 12, 0, 0, 0, []),
  (23, .bipush (-2), 2, 0, 0, 0, -2, []),
  (25, .ireturn, 1, 0, 0, 0, 0, []),
  (26, .aload_n 0, 1, 0, 0, 0, 0, []),
  (27, .getfield 44, 3, 10, 4, 2, 0, []),
  (30, .invokevirtual 190, 3, 30, 1, 0, 0, []),
  (33, .aload_n 0, 1, 0, 0, 0, 0, []),
  (34, .getfield 53, 3, 10, 5, 2, 0, []),
  (37, .invokevirtual 193, 3, 24, 1, 0, 0, []),
  (40, .aload_n 0, 1, 0, 0, 0, 0, []),
  (41, .getfield 53, 3, 10, 5, 2, 0, []),
  (44, .getfield 204, 3, 3, 9, 0, 0, []),
  (47, .ireturn, 1, 0, 0, 0, 0, [])]
/-- yX10_swap -/
def mt_132 : List am_row := [
  (0, .iload_n 1, 1, 0, 0, 0, 0, []),
  (1, .invokestatic 158, 3, 163, 1, 1, 0, []),
  (4, .ifCond .eq 14, 3, 8, 0, 0, 0, []),
  (7, .aload_n 0, 1, 0, 0, 0, 0, []),
  (8, .invokevirtual 161, 3, 166, 1, 3, 0, []),
  (11, .iload_n 1, 1, 0, 0, 0, 0, []),
  (12, .invokevirtual 207, 3, 48, 2, 1, 0, []),
  (15, .goto 4, 3, 9, 0, 0, 0, []),
  (18, .iconst (-1), 1, 0, 0, 0, -1, []),
  (19, .ireturn, 1, 0, 0, 0, 0, [])]
/-- yX10_swaps -/
def mt_133 : List am_row := [
  (0, .iload_n 1, 1, 0, 0, 0, 0, []),
  (1, .invokestatic 158, 3, 163, 1, 1, 0, []),
  (4, .ifCond .eq 12, 3, 8, 0, 0, 0, []),
  (7, .iload_n 2, 1, 0, 0, 0, 0, []),
  (8, .ifCond .eq 10, 3, 10, 0, 0, 0, []),
  (11, .iload_n 2, 1, 0, 0, 0, 0, []),
  (12, .iconst 1, 1, 0, 0, 0, 1, []),
  (13, .if_icmp .eq 5, 3, 10, 0, 0, 0, []),
  (16, .iconst (-1), 1, 0, 0, 0, -1, []),
  (17, .ireturn, 1, 0, 0, 0, 0, []),
  (18, .aload_n 0, 1, 0, 0, 0, 0, []),
  (19, .invokevirtual 161, 3, 166, 1, 3, 0, []),
  (22, .iload_n 1, 1, 0, 0, 0, 0, []),
  (23, .invokevirtual 210, 3, 51, 2, 1, 0, []),
  (26, .istore_n 3, 1, 0, 0, 0, 0, []),
  (27, .iload_n 2, 1, 0, 0, 0, 0, []),
  (28, .ifCond .ne 7, 3, 19, 0, 0, 0, []),
  (31, .iload_n 3, 1, 0, 0, 0, 0, []),
  (32, .goto 10, 3, 22, 0, 0, 0, []),
  (35, .aload_n 0, 1, 0, 0, 0, 0, []),
  (36, .getfield 44, 3, 10, 4, 2, 0, []),
  (39, .invokevirtual 213, 3, 41, 1, 1, 0, []),
  (42, .ireturn, 1, 0, 0, 0, 0, [])]
/-- yX10_big -/
def mt_134 : List am_row := [
  (0, .iload_n 1, 1, 0, 0, 0, 0, []),
  (1, .invokestatic 158, 3, 163, 1, 1, 0, []),
  (4, .ifCond .eq 19, 3, 11, 0, 0, 0, []),
  (7, .iload_n 2, 1, 0, 0, 0, 0, []),
  (8, .iconst (-1), 1, 0, 0, 0, -1, []),
  (9, .if_icmp .eq 16, 3, 13, 0, 0, 0, []),
  (12, .aload_n 0, 1, 0, 0, 0, 0, []),
  (13, .getfield 10, 3, 10, 0, 2, 0, []),
  (16, .iload_n 2, 1, 0, 0, 0, 0, []),
  (17, .invokevirtual 151, 3, 1, 2, 1, 0, []),
  (20, .ifCond .ne 5, 3, 13, 0, 0, 0, []),
  (23, .iconst (-1), 1, 0, 0, 0, -1, []),
  (24, .ireturn, 1, 0, 0, 0, 0, []),
  (25, .aload_n 0, 1, 0, 0, 0, 0, []),
  (26, .getfield 10, 3, 10, 0, 2, 0, []),
  (29, .getfield 95, 3, 0, 1, 0, 0, []),
  (32, .ifCond .eq 13, 3, 21, 0, 0, 0, []),
  (35, .aload_n 0, 1, 0, 0, 0, 0, []),
  (36, .getfield 10, 3, 10, 0, 2, 0, []),
  (39, .getfield 117, 3, 0, 2, 0, 0, []),
  (42, .ifCond .ne 6, 3, 23, 0, 0, 0, []),
  (45, .bipush (-2), 2, 0, 0, 0, -2, []),
  (47, .ireturn, 1, 0, 0, 0, 0, []),
  (48, .aload_n 0, 1, 0, 0, 0, 0, []),
  (49, .invokevirtual 161, 3, 166, 1, 3, 0, []),
  (52, .iload_n 1, 1, 0, 0, 0, 0, []),
  (53, .invokevirtual 216, 3, 53, 2, 0, 0, []),
  (56, .iload_n 2, 1, 0, 0, 0, 0, []),
  (57, .iconst (-1), 1, 0, 0, 0, -1, []),
  (58, .if_icmp .ne 13, 3, 34, 0, 0, 0, []),
  (61, .aload_n 0, 1, 0, 0, 0, 0, []),
  (62, .getfield 44, 3, 10, 4, 2, 0, []),
  (65, .invokevirtual 213, 3, 41, 1, 1, 0, []),
  (68, .goto 11, 3, 38, 0, 0, 0, []),
  (71, .aload_n 0, 1, 0, 0, 0, 0, []),
  (72, .getfield 44, 3, 10, 4, 2, 0, []),
  (75, .iload_n 2, 1, 0, 0, 0, 0, []),
  (76, .invokevirtual 220, 3, 42, 2, 1, 0, []),
  (79, .ireturn, 1, 0, 0, 0, 0, [])]
/-- yX10_away -/
def mt_135 : List am_row := [
  (0, .aload_n 0, 1, 0, 0, 0, 0, []),
  (1, .iload_n 1, 1, 0, 0, 0, 0, []),
  (2, .invokevirtual 168, 3, 164, 2, 1, 0, []),
  (5, .ifCond .ne 5, 3, 6, 0, 0, 0, []),
  (8, .iconst (-1), 1, 0, 0, 0, -1, []),
  (9, .ireturn, 1, 0, 0, 0, 0, []),
  (10, .iload_n 2, 1, 0, 0, 0, 0, []),
  (11, .tableswitch 69 0 2 #[25, 37, 53], 25, 35, 0, 0, 0, [(0, 8), (1, 15), (2, 25)]),
  (36, .aload_n 0, 1, 0, 0, 0, 0, []),
  (37, .getfield 10, 3, 10, 0, 2, 0, []),
  (40, .iload_n 1, 1, 0, 0, 0, 0, []),
  (41, .bipush 10, 2, 0, 0, 0, 10, []),
  (43, .irem, 1, 0, 0, 0, 0, []),
  (44, .invokevirtual 223, 3, 10, 2, 1, 0, []),
  (47, .ireturn, 1, 0, 0, 0, 0, []),
  (48, .aload_n 0, 1, 0, 0, 0, 0, []),
  (49, .invokevirtual 161, 3, 166, 1, 3, 0, []),
  (52, .iload_n 1, 1, 0, 0, 0, 0, []),
  (53, .bipush 10, 2, 0, 0, 0, 10, []),
  (55, .idiv, 1, 0, 0, 0, 0, []),
  (56, .iload_n 1, 1, 0, 0, 0, 0, []),
  (57, .bipush 10, 2, 0, 0, 0, 10, []),
  (59, .irem, 1, 0, 0, 0, 0, []),
  (60, .invokevirtual 226, 3, 54, 3, 1, 0, []),
  (63, .ireturn, 1, 0, 0, 0, 0, []),
  (64, .aload_n 0, 1, 0, 0, 0, 0, []),
  (65, .invokevirtual 161, 3, 166, 1, 3, 0, []),
  (68, .iload_n 1, 1, 0, 0, 0, 0, []),
  (69, .bipush 10, 2, 0, 0, 0, 10, []),
  (71, .idiv, 1, 0, 0, 0, 0, []),
  (72, .iload_n 1, 1, 0, 0, 0, 0, []),
  (73, .bipush 10, 2, 0, 0, 0, 10, []),
  (75, .irem, 1, 0, 0, 0, 0, []),
  (76, .invokevirtual 229, 3, 55, 3, 1, 0, []),
  (79, .ireturn, 1, 0, 0, 0, 0, []),
  (80, .iconst (-1), 1, 0, 0, 0, -1, []),
  (81, .ireturn, 1, 0, 0, 0, 0, [])]
/-- yX10_gather -/
def mt_136 : List am_row := [
  (0, .aload_n 0, 1, 0, 0, 0, 0, []),
  (1, .iload_n 1, 1, 0, 0, 0, 0, []),
  (2, .invokevirtual 168, 3, 164, 2, 1, 0, []),
  (5, .ifCond .eq 13, 3, 9, 0, 0, 0, []),
  (8, .iload_n 2, 1, 0, 0, 0, 0, []),
  (9, .ifCond .lt 9, 3, 9, 0, 0, 0, []),
  (12, .iload_n 2, 1, 0, 0, 0, 0, []),
  (13, .bipush 9, 2, 0, 0, 0, 9, []),
  (15, .if_icmp .le 5, 3, 11, 0, 0, 0, []),
  (18, .iconst (-1), 1, 0, 0, 0, -1, []),
  (19, .ireturn, 1, 0, 0, 0, 0, []),
  (20, .aload_n 0, 1, 0, 0, 0, 0, []),
  (21, .invokevirtual 161, 3, 166, 1, 3, 0, []),
  (24, .iload_n 1, 1, 0, 0, 0, 0, []),
  (25, .bipush 10, 2, 0, 0, 0, 10, []),
  (27, .idiv, 1, 0, 0, 0, 0, []),
  (28, .iload_n 1, 1, 0, 0, 0, 0, []),
  (29, .bipush 10, 2, 0, 0, 0, 10, []),
  (31, .irem, 1, 0, 0, 0, 0, []),
  (32, .invokevirtual 232, 3, 57, 3, 0, 0, []),
  (35, .iload_n 2, 1, 0, 0, 0, 0, []),
  (36, .ifCond .ne 17, 3, 29, 0, 0, 0, []),
  (39, .aload_n 0, 1, 0, 0, 0, 0, []),
  (40, .getfield 44, 3, 10, 4, 2, 0, []),
  (43, .iload_n 1, 1, 0, 0, 0, 0, []),
  (44, .bipush 10, 2, 0, 0, 0, 10, []),
  (46, .irem, 1, 0, 0, 0, 0, []),
  (47, .invokevirtual 236, 3, 59, 2, 1, 0, []),
  (50, .goto 15, 3, 36, 0, 0, 0, []),
  (53, .aload_n 0, 1, 0, 0, 0, 0, []),
  (54, .getfield 44, 3, 10, 4, 2, 0, []),
  (57, .iload_n 1, 1, 0, 0, 0, 0, []),
  (58, .bipush 10, 2, 0, 0, 0, 10, []),
  (60, .irem, 1, 0, 0, 0, 0, []),
  (61, .iload_n 2, 1, 0, 0, 0, 0, []),
  (62, .invokevirtual 239, 3, 58, 3, 1, 0, []),
  (65, .ireturn, 1, 0, 0, 0, 0, [])]
/-- yX10_waits -/
def mt_137 : List am_row := [
  (0, .aload_n 0, 1, 0, 0, 0, 0, []),
  (1, .iload_n 1, 1, 0, 0, 0, 0, []),
  (2, .invokevirtual 168, 3, 164, 2, 1, 0, []),
  (5, .ifCond .eq 12, 3, 9, 0, 0, 0, []),
  (8, .iload_n 2, 1, 0, 0, 0, 0, []),
  (9, .ifCond .eq 10, 3, 11, 0, 0, 0, []),
  (12, .iload_n 2, 1, 0, 0, 0, 0, []),
  (13, .iconst 1, 1, 0, 0, 0, 1, []),
  (14, .if_icmp .eq 5, 3, 11, 0, 0, 0, []),
  (17, .iconst (-1), 1, 0, 0, 0, -1, []),
  (18, .ireturn, 1, 0, 0, 0, 0, []),
  (19, .aload_n 0, 1, 0, 0, 0, 0, []),
  (20, .getfield 10, 3, 10, 0, 2, 0, []),
  (23, .iload_n 1, 1, 0, 0, 0, 0, []),
  (24, .bipush 10, 2, 0, 0, 0, 10, []),
  (26, .irem, 1, 0, 0, 0, 0, []),
  (27, .invokevirtual 242, 3, 11, 2, 1, 0, []),
  (30, .istore_n 3, 1, 0, 0, 0, 0, []),
  (31, .iload_n 2, 1, 0, 0, 0, 0, []),
  (32, .ifCond .ne 7, 3, 22, 0, 0, 0, []),
  (35, .iload_n 3, 1, 0, 0, 0, 0, []),
  (36, .goto 19, 3, 32, 0, 0, 0, []),
  (39, .aload_n 0, 1, 0, 0, 0, 0, []),
  (40, .invokevirtual 161, 3, 166, 1, 3, 0, []),
  (43, .iload_n 1, 1, 0, 0, 0, 0, []),
  (44, .bipush 10, 2, 0, 0, 0, 10, []),
  (46, .idiv, 1, 0, 0, 0, 0, []),
  (47, .iload_n 1, 1, 0, 0, 0, 0, []),
  (48, .bipush 10, 2, 0, 0, 0, 10, []),
  (50, .irem, 1, 0, 0, 0, 0, []),
  (51, .iload_n 3, 1, 0, 0, 0, 0, []),
  (52, .invokevirtual 245, 3, 56, 4, 1, 0, []),
  (55, .ireturn, 1, 0, 0, 0, 0, [])]
/-- yX10_atFive -/
def mt_138 : List am_row := [
  (0, .aload_n 0, 1, 0, 0, 0, 0, []),
  (1, .iload_n 1, 1, 0, 0, 0, 0, []),
  (2, .invokevirtual 99, 3, 165, 2, 1, 0, []),
  (5, .ifCond .eq 33, 3, 18, 0, 0, 0, []),
  (8, .aload_n 0, 1, 0, 0, 0, 0, []),
  (9, .getfield 10, 3, 10, 0, 2, 0, []),
  (12, .iconst 0, 1, 0, 0, 0, 0, []),
  (13, .iload_n 2, 1, 0, 0, 0, 0, []),
  (14, .invokevirtual 87, 3, 3, 3, 1, 0, []),
  (17, .ifCond .eq 21, 3, 18, 0, 0, 0, []),
  (20, .iload_n 3, 1, 0, 0, 0, 0, []),
  (21, .invokestatic 158, 3, 163, 1, 1, 0, []),
  (24, .ifCond .eq 14, 3, 18, 0, 0, 0, []),
  (27, .iload 4, 2, 0, 0, 0, 0, []),
  (29, .ifCond .lt 9, 3, 18, 0, 0, 0, []),
  (32, .iload 4, 2, 0, 0, 0, 0, []),
  (34, .iconst 2, 1, 0, 0, 0, 2, []),
  (35, .if_icmp .le 5, 3, 20, 0, 0, 0, []),
  (38, .iconst (-1), 1, 0, 0, 0, -1, []),
  (39, .ireturn, 1, 0, 0, 0, 0, []),
  (40, .aload_n 0, 1, 0, 0, 0, 0, []),
  (41, .getfield 82, 3, 10, 9, 2, 0, []),
  (44, .iload_n 1, 1, 0, 0, 0, 0, []),
  (45, .aaload, 1, 0, 0, 0, 0, []),
  (46, .astore 5, 2, 0, 0, 0, 0, []),
  (48, .aload 5, 2, 0, 0, 0, 0, []),
  (50, .invokevirtual 106, 3, 100, 1, 1, 0, []),
  (53, .istore 6, 2, 0, 0, 0, 0, []),
  (55, .iload 6, 2, 0, 0, 0, 0, []),
  (57, .ifCond .eq 6, 3, 32, 0, 0, 0, []),
  (60, .iload 6, 2, 0, 0, 0, 0, []),
  (62, .ireturn, 1, 0, 0, 0, 0, []),
  (63, .iload 4, 2, 0, 0, 0, 0, []),
  (65, .ifCond .ne 17, 3, 41, 0, 0, 0, []),
  (68, .aload_n 0, 1, 0, 0, 0, 0, []),
  (69, .getfield 60, 3, 10, 6, 2, 0, []),
  (72, .aload 5, 2, 0, 0, 0, 0, []),
  (74, .iload_n 2, 1, 0, 0, 0, 0, []),
  (75, .invokevirtual 249, 3, 107, 3, 1, 0, []),
  (78, .invokestatic 253, 3, 273, 1, 1, 0, []),
  (81, .ireturn, 1, 0, 0, 0, 0, []),
  (82, .aload_n 0, 1, 0, 0, 0, 0, []),
  (83, .getfield 44, 3, 10, 4, 2, 0, []),
  (86, .invokevirtual 190, 3, 30, 1, 0, 0, []),
  (89, .aload_n 0, 1, 0, 0, 0, 0, []),
  (90, .getfield 60, 3, 10, 6, 2, 0, []),
  (93, .aload 5, 2, 0, 0, 0, 0, []),
  (95, .iload_n 2, 1, 0, 0, 0, 0, []),
  (96, .iload_n 3, 1, 0, 0, 0, 0, []),
  (97, .invokevirtual 258, 3, 108, 4, 1, 0, []),
  (100, .istore 7, 2, 0, 0, 0, 0, []),
  (102, .iload 4, 2, 0, 0, 0, 0, []),
  (104, .iconst 1, 1, 0, 0, 0, 1, []),
  (105, .if_icmp .ne 8, 3, 56, 0, 0, 0, []),
  (108, .iload 7, 2, 0, 0, 0, 0, []),
  (110, .goto 12, 3, 60, 0, 0, 0, []),
  (113, .aload_n 0, 1, 0, 0, 0, 0, []),
  (114, .getfield 60, 3, 10, 6, 2, 0, []),
  (117, .iload 7, 2, 0, 0, 0, 0, []),
  (119, .invokevirtual 262, 3, 110, 2, 1, 0, []),
  (122, .ireturn, 1, 0, 0, 0, 0, [])]
/-- yX10_guard -/
def mt_139 : List am_row := [
  (0, .aload_n 0, 1, 0, 0, 0, 0, []),
  (1, .iload_n 1, 1, 0, 0, 0, 0, []),
  (2, .invokevirtual 99, 3, 165, 2, 1, 0, []),
  (5, .ifCond .eq 33, 3, 18, 0, 0, 0, []),
  (8, .aload_n 0, 1, 0, 0, 0, 0, []),
  (9, .getfield 10, 3, 10, 0, 2, 0, []),
  (12, .iconst 0, 1, 0, 0, 0, 0, []),
  (13, .iload_n 2, 1, 0, 0, 0, 0, []),
  (14, .invokevirtual 87, 3, 3, 3, 1, 0, []),
  (17, .ifCond .eq 21, 3, 18, 0, 0, 0, []),
  (20, .iload_n 3, 1, 0, 0, 0, 0, []),
  (21, .invokestatic 158, 3, 163, 1, 1, 0, []),
  (24, .ifCond .eq 14, 3, 18, 0, 0, 0, []),
  (27, .iload 4, 2, 0, 0, 0, 0, []),
  (29, .ifCond .eq 11, 3, 20, 0, 0, 0, []),
  (32, .iload 4, 2, 0, 0, 0, 0, []),
  (34, .iconst 1, 1, 0, 0, 0, 1, []),
  (35, .if_icmp .eq 5, 3, 20, 0, 0, 0, []),
  (38, .iconst (-1), 1, 0, 0, 0, -1, []),
  (39, .ireturn, 1, 0, 0, 0, 0, []),
  (40, .aload_n 0, 1, 0, 0, 0, 0, []),
  (41, .getfield 82, 3, 10, 9, 2, 0, []),
  (44, .iload_n 1, 1, 0, 0, 0, 0, []),
  (45, .aaload, 1, 0, 0, 0, 0, []),
  (46, .astore 5, 2, 0, 0, 0, 0, []),
  (48, .aload 5, 2, 0, 0, 0, 0, []),
  (50, .invokevirtual 106, 3, 100, 1, 1, 0, []),
  (53, .istore 6, 2, 0, 0, 0, 0, []),
  (55, .iload 6, 2, 0, 0, 0, 0, []),
  (57, .ifCond .eq 6, 3, 32, 0, 0, 0, []),
  (60, .iload 6, 2, 0, 0, 0, 0, []),
  (62, .ireturn, 1, 0, 0, 0, 0, []),
  (63, .aload_n 0, 1, 0, 0, 0, 0, []),
  (64, .getfield 10, 3, 10, 0, 2, 0, []),
  (67, .getfield 117, 3, 0, 2, 0, 0, []),
  (70, .ifCond .ne 6, 3, 38, 0, 0, 0, []),
  (73, .bipush (-2), 2, 0, 0, 0, -2, []),
  (75, .ireturn, 1, 0, 0, 0, 0, []),
  (76, .aload_n 0, 1, 0, 0, 0, 0, []),
  (77, .getfield 44, 3, 10, 4, 2, 0, []),
  (80, .invokevirtual 190, 3, 30, 1, 0, 0, []),
  (83, .aload_n 0, 1, 0, 0, 0, 0, []),
  (84, .getfield 60, 3, 10, 6, 2, 0, []),
  (87, .aload 5, 2, 0, 0, 0, 0, []),
  (89, .iload_n 2, 1, 0, 0, 0, 0, []),
  (90, .iload_n 3, 1, 0, 0, 0, 0, []),
  (91, .invokevirtual 258, 3, 108, 4, 1, 0, []),
  (94, .istore 7, 2, 0, 0, 0, 0, []),
  (96, .aload_n 0, 1, 0, 0, 0, 0, []),
  (97, .getfield 60, 3, 10, 6, 2, 0, []),
  (100, .iload 7, 2, 0, 0, 0, 0, []),
  (102, .invokevirtual 265, 3, 111, 2, 1, 0, []),
  (105, .istore 8, 2, 0, 0, 0, 0, []),
  (107, .iload 4, 2, 0, 0, 0, 0, []),
  (109, .ifCond .ne 8, 3, 57, 0, 0, 0, []),
  (112, .iload 8, 2, 0, 0, 0, 0, []),
  (114, .goto 14, 3, 62, 0, 0, 0, []),
  (117, .aload_n 0, 1, 0, 0, 0, 0, []),
  (118, .getfield 60, 3, 10, 6, 2, 0, []),
  (121, .iload 8, 2, 0, 0, 0, 0, []),
  (123, .iload 7, 2, 0, 0, 0, 0, []),
  (125, .invokevirtual 268, 3, 112, 3, 1, 0, []),
  (128, .ireturn, 1, 0, 0, 0, 0, [])]
/-- yX10_judge -/
def mt_140 : List am_row := [
  (0, .aload_n 0, 1, 0, 0, 0, 0, []),
  (1, .iload_n 1, 1, 0, 0, 0, 0, []),
  (2, .invokevirtual 99, 3, 165, 2, 1, 0, []),
  (5, .ifCond .eq 10, 3, 7, 0, 0, 0, []),
  (8, .iload_n 2, 1, 0, 0, 0, 0, []),
  (9, .invokestatic 158, 3, 163, 1, 1, 0, []),
  (12, .ifCond .ne 5, 3, 9, 0, 0, 0, []),
  (15, .iconst (-1), 1, 0, 0, 0, -1, []),
  (16, .ireturn, 1, 0, 0, 0, 0, []),
  (17, .aload_n 0, 1, 0, 0, 0, 0, []),
  (18, .getfield 82, 3, 10, 9, 2, 0, []),
  (21, .iload_n 1, 1, 0, 0, 0, 0, []),
  (22, .aaload, 1, 0, 0, 0, 0, []),
  (23, .invokevirtual 106, 3, 100, 1, 1, 0, []),
  (26, .istore_n 3, 1, 0, 0, 0, 0, []),
  (27, .iload_n 3, 1, 0, 0, 0, 0, []),
  (28, .ifCond .eq 5, 3, 19, 0, 0, 0, []),
  (31, .iload_n 3, 1, 0, 0, 0, 0, []),
  (32, .ireturn, 1, 0, 0, 0, 0, []),
  (33, .aload_n 0, 1, 0, 0, 0, 0, []),
  (34, .getfield 44, 3, 10, 4, 2, 0, []),
  (37, .invokevirtual 190, 3, 30, 1, 0, 0, []),
  (40, .aload_n 0, 1, 0, 0, 0, 0, []),
  (41, .getfield 60, 3, 10, 6, 2, 0, []),
  (44, .aload_n 0, 1, 0, 0, 0, 0, []),
  (45, .getfield 82, 3, 10, 9, 2, 0, []),
  (48, .iload_n 1, 1, 0, 0, 0, 0, []),
  (49, .aaload, 1, 0, 0, 0, 0, []),
  (50, .iload_n 2, 1, 0, 0, 0, 0, []),
  (51, .invokevirtual 271, 3, 113, 3, 1, 0, []),
  (54, .ireturn, 1, 0, 0, 0, 0, [])]
/-- yX10_byWhat -/
def mt_141 : List am_row := [
  (0, .aload_n 0, 1, 0, 0, 0, 0, []),
  (1, .iload_n 1, 1, 0, 0, 0, 0, []),
  (2, .invokevirtual 99, 3, 165, 2, 1, 0, []),
  (5, .ifCond .ne 5, 3, 6, 0, 0, 0, []),
  (8, .iconst (-1), 1, 0, 0, 0, -1, []),
  (9, .ireturn, 1, 0, 0, 0, 0, []),
  (10, .aload_n 0, 1, 0, 0, 0, 0, []),
  (11, .getfield 82, 3, 10, 9, 2, 0, []),
  (14, .iload_n 1, 1, 0, 0, 0, 0, []),
  (15, .aaload, 1, 0, 0, 0, 0, []),
  (16, .invokevirtual 106, 3, 100, 1, 1, 0, []),
  (19, .istore_n 2, 1, 0, 0, 0, 0, []),
  (20, .iload_n 2, 1, 0, 0, 0, 0, []),
  (21, .ifCond .eq 5, 3, 16, 0, 0, 0, []),
  (24, .iload_n 2, 1, 0, 0, 0, 0, []),
  (25, .ireturn, 1, 0, 0, 0, 0, []),
  (26, .aload_n 0, 1, 0, 0, 0, 0, []),
  (27, .getfield 44, 3, 10, 4, 2, 0, []),
  (30, .invokevirtual 190, 3, 30, 1, 0, 0, []),
  (33, .iconst 0, 1, 0, 0, 0, 0, []),
  (34, .istore_n 3, 1, 0, 0, 0, 0, []),
  (35, .iconst 0, 1, 0, 0, 0, 0, []),
  (36, .istore 4, 2, 0, 0, 0, 0, []),
  (38, .iload 4, 2, 0, 0, 0, 0, []),
  (40, .iconst 5, 1, 0, 0, 0, 5, []),
  (41, .if_icmp .ge 36, 3, 44, 0, 0, 0, []),
  (44, .aload_n 0, 1, 0, 0, 0, 0, []),
  (45, .getfield 60, 3, 10, 6, 2, 0, []),
  (48, .aload_n 0, 1, 0, 0, 0, 0, []),
  (49, .getfield 82, 3, 10, 9, 2, 0, []),
  (52, .iload_n 1, 1, 0, 0, 0, 0, []),
  (53, .aaload, 1, 0, 0, 0, 0, []),
  (54, .iload 4, 2, 0, 0, 0, 0, []),
  (56, .invokevirtual 271, 3, 113, 3, 1, 0, []),
  (59, .bipush (-2), 2, 0, 0, 0, -2, []),
  (61, .if_icmp .ne 10, 3, 42, 0, 0, 0, []),
  (64, .iload_n 3, 1, 0, 0, 0, 0, []),
  (65, .iconst 1, 1, 0, 0, 0, 1, []),
  (66, .iload 4, 2, 0, 0, 0, 0, []),
  (68, .ishl, 1, 0, 0, 0, 0, []),
  (69, .ior, 1, 0, 0, 0, 0, []),
  (70, .istore_n 3, 1, 0, 0, 0, 0, []),
  (71, .iinc 4 1, 3, 0, 0, 0, 1, []),
  (74, .goto (-36), 3, 23, 0, 0, 0, []),
  (77, .iload_n 3, 1, 0, 0, 0, 0, []),
  (78, .ireturn, 1, 0, 0, 0, 0, [])]
/-- yX10_second -/
def mt_142 : List am_row := [
  (0, .iload_n 1, 1, 0, 0, 0, 0, []),
  (1, .invokestatic 158, 3, 163, 1, 1, 0, []),
  (4, .ifCond .eq 15, 3, 9, 0, 0, 0, []),
  (7, .aload_n 0, 1, 0, 0, 0, 0, []),
  (8, .getfield 10, 3, 10, 0, 2, 0, []),
  (11, .iconst 2, 1, 0, 0, 0, 2, []),
  (12, .iload_n 2, 1, 0, 0, 0, 0, []),
  (13, .invokevirtual 87, 3, 3, 3, 1, 0, []),
  (16, .ifCond .ne 5, 3, 11, 0, 0, 0, []),
  (19, .iconst (-1), 1, 0, 0, 0, -1, []),
  (20, .ireturn, 1, 0, 0, 0, 0, []),
  (21, .aload_n 0, 1, 0, 0, 0, 0, []),
  (22, .invokevirtual 161, 3, 166, 1, 3, 0, []),
  (25, .iload_n 1, 1, 0, 0, 0, 0, []),
  (26, .iload_n 2, 1, 0, 0, 0, 0, []),
  (27, .invokevirtual 274, 3, 60, 3, 0, 0, []),
  (30, .aload_n 0, 1, 0, 0, 0, 0, []),
  (31, .getfield 44, 3, 10, 4, 2, 0, []),
  (34, .invokevirtual 213, 3, 41, 1, 1, 0, []),
  (37, .ireturn, 1, 0, 0, 0, 0, [])]
/-- yX10_pairs -/
def mt_143 : List am_row := [
  (0, .iload_n 1, 1, 0, 0, 0, 0, []),
  (1, .invokestatic 158, 3, 163, 1, 1, 0, []),
  (4, .ifCond .eq 12, 3, 8, 0, 0, 0, []),
  (7, .iload_n 2, 1, 0, 0, 0, 0, []),
  (8, .ifCond .eq 10, 3, 10, 0, 0, 0, []),
  (11, .iload_n 2, 1, 0, 0, 0, 0, []),
  (12, .iconst 1, 1, 0, 0, 0, 1, []),
  (13, .if_icmp .eq 5, 3, 10, 0, 0, 0, []),
  (16, .iconst (-1), 1, 0, 0, 0, -1, []),
  (17, .ireturn, 1, 0, 0, 0, 0, []),
  (18, .aload_n 0, 1, 0, 0, 0, 0, []),
  (19, .invokevirtual 161, 3, 166, 1, 3, 0, []),
  (22, .iload_n 1, 1, 0, 0, 0, 0, []),
  (23, .invokevirtual 277, 3, 61, 2, 1, 0, []),
  (26, .istore_n 3, 1, 0, 0, 0, 0, []),
  (27, .iload_n 2, 1, 0, 0, 0, 0, []),
  (28, .ifCond .ne 5, 3, 19, 0, 0, 0, []),
  (31, .iload_n 3, 1, 0, 0, 0, 0, []),
  (32, .ireturn, 1, 0, 0, 0, 0, []),
  (33, .iload_n 3, 1, 0, 0, 0, 0, []),
  (34, .bipush (-2), 2, 0, 0, 0, -2, []),
  (36, .if_icmp .ne 7, 3, 24, 0, 0, 0, []),
  (39, .iconst 0, 1, 0, 0, 0, 0, []),
  (40, .goto 19, 3, 34, 0, 0, 0, []),
  (43, .aload_n 0, 1, 0, 0, 0, 0, []),
  (44, .getfield 44, 3, 10, 4, 2, 0, []),
  (47, .iload_n 1, 1, 0, 0, 0, 0, []),
  (48, .iload_n 3, 1, 0, 0, 0, 0, []),
  (49, .bipush 10, 2, 0, 0, 0, 10, []),
  (51, .idiv, 1, 0, 0, 0, 0, []),
  (52, .iload_n 3, 1, 0, 0, 0, 0, []),
  (53, .bipush 10, 2, 0, 0, 0, 10, []),
  (55, .irem, 1, 0, 0, 0, 0, []),
  (56, .invokevirtual 280, 3, 62, 4, 1, 0, []),
  (59, .ireturn, 1, 0, 0, 0, 0, [])]
/-- yX10_drawn -/
def mt_144 : List am_row := [
  (0, .iload_n 2, 1, 0, 0, 0, 0, []),
  (1, .iconst 1, 1, 0, 0, 0, 1, []),
  (2, .if_icmp .lt 25, 3, 14, 0, 0, 0, []),
  (5, .iload_n 2, 1, 0, 0, 0, 0, []),
  (6, .bipush 50, 2, 0, 0, 0, 50, []),
  (8, .if_icmp .gt 19, 3, 14, 0, 0, 0, []),
  (11, .iload_n 3, 1, 0, 0, 0, 0, []),
  (12, .iconst (-1), 1, 0, 0, 0, -1, []),
  (13, .if_icmp .eq 16, 3, 16, 0, 0, 0, []),
  (16, .aload_n 0, 1, 0, 0, 0, 0, []),
  (17, .getfield 10, 3, 10, 0, 2, 0, []),
  (20, .iload_n 3, 1, 0, 0, 0, 0, []),
  (21, .invokevirtual 151, 3, 1, 2, 1, 0, []),
  (24, .ifCond .ne 5, 3, 16, 0, 0, 0, []),
  (27, .iconst (-1), 1, 0, 0, 0, -1, []),
  (28, .ireturn, 1, 0, 0, 0, 0, []),
  (29, .aload_n 0, 1, 0, 0, 0, 0, []),
  (30, .invokevirtual 161, 3, 166, 1, 3, 0, []),
  (33, .iload_n 1, 1, 0, 0, 0, 0, []),
  (34, .iload_n 2, 1, 0, 0, 0, 0, []),
  (35, .iload_n 3, 1, 0, 0, 0, 0, []),
  (36, .invokevirtual 283, 3, 63, 4, 1, 0, []),
  (39, .ireturn, 1, 0, 0, 0, 0, [])]
/-- yX10_day -/
def mt_145 : List am_row := [
  (0, .aload_n 0, 1, 0, 0, 0, 0, []),
  (1, .getfield 69, 3, 10, 7, 2, 0, []),
  (4, .invokevirtual 286, 3, 16, 1, 1, 0, []),
  (7, .ifCond .eq 13, 3, 8, 0, 0, 0, []),
  (10, .aload_n 0, 1, 0, 0, 0, 0, []),
  (11, .getfield 69, 3, 10, 7, 2, 0, []),
  (14, .getfield 289, 3, 2, 2, 0, 0, []),
  (17, .goto 5, 3, 9, 0, 0, 0, []),
  (20, .bipush (-5), 2, 0, 0, 0, -5, []),
  (22, .ireturn, 1, 0, 0, 0, 0, [])]
/-- yX10_open -/
def mt_146 : List am_row := [
  (0, .aload_n 0, 1, 0, 0, 0, 0, []),
  (1, .getfield 10, 3, 10, 0, 2, 0, []),
  (4, .iload_n 1, 1, 0, 0, 0, 0, []),
  (5, .invokevirtual 151, 3, 1, 2, 1, 0, []),
  (8, .ifCond .eq 14, 3, 10, 0, 0, 0, []),
  (11, .aload_n 0, 1, 0, 0, 0, 0, []),
  (12, .getfield 10, 3, 10, 0, 2, 0, []),
  (15, .iload_n 2, 1, 0, 0, 0, 0, []),
  (16, .invokevirtual 135, 3, 0, 2, 1, 0, []),
  (19, .ifCond .ne 5, 3, 12, 0, 0, 0, []),
  (22, .iconst (-1), 1, 0, 0, 0, -1, []),
  (23, .ireturn, 1, 0, 0, 0, 0, []),
  (24, .aload_n 0, 1, 0, 0, 0, 0, []),
  (25, .getfield 69, 3, 10, 7, 2, 0, []),
  (28, .iload_n 2, 1, 0, 0, 0, 0, []),
  (29, .invokevirtual 138, 3, 15, 2, 1, 0, []),
  (32, .bipush (-2), 2, 0, 0, 0, -2, []),
  (34, .if_icmp .eq 6, 3, 20, 0, 0, 0, []),
  (37, .bipush (-5), 2, 0, 0, 0, -5, []),
  (39, .ireturn, 1, 0, 0, 0, 0, []),
  (40, .aload_n 0, 1, 0, 0, 0, 0, []),
  (41, .getfield 35, 3, 10, 3, 2, 0, []),
  (44, .iload_n 1, 1, 0, 0, 0, 0, []),
  (45, .iload_n 2, 1, 0, 0, 0, 0, []),
  (46, .aload_n 0, 1, 0, 0, 0, 0, []),
  (47, .getfield 10, 3, 10, 0, 2, 0, []),
  (50, .iconst 2, 1, 0, 0, 0, 2, []),
  (51, .iload_n 2, 1, 0, 0, 0, 0, []),
  (52, .invokevirtual 123, 3, 4, 3, 1, 0, []),
  (55, .aload_n 0, 1, 0, 0, 0, 0, []),
  (56, .getfield 69, 3, 10, 7, 2, 0, []),
  (59, .iload_n 2, 1, 0, 0, 0, 0, []),
  (60, .invokevirtual 292, 3, 17, 2, 1, 0, []),
  (63, .invokevirtual 154, 3, 116, 5, 1, 0, []),
  (66, .istore_n 3, 1, 0, 0, 0, 0, []),
  (67, .aload_n 0, 1, 0, 0, 0, 0, []),
  (68, .getfield 69, 3, 10, 7, 2, 0, []),
  (71, .iload_n 1, 1, 0, 0, 0, 0, []),
  (72, .iload_n 2, 1, 0, 0, 0, 0, []),
  (73, .iload_n 3, 1, 0, 0, 0, 0, []),
  (74, .invokevirtual 295, 3, 18, 4, 0, 0, []),
  (77, .iload_n 3, 1, 0, 0, 0, 0, []),
  (78, .ireturn, 1, 0, 0, 0, 0, [])]
/-- yX10_forgotten -/
def mt_147 : List am_row := [
  (0, .aload_n 0, 1, 0, 0, 0, 0, []),
  (1, .getfield 69, 3, 10, 7, 2, 0, []),
  (4, .invokevirtual 298, 3, 19, 1, 1, 0, []),
  (7, .ireturn, 1, 0, 0, 0, 0, [])]
/-- yX10_led -/
def mt_148 : List am_row := [
  (0, .iload_n 1, 1, 0, 0, 0, 0, []),
  (1, .tableswitch 63 0 3 #[31, 39, 47, 55], 31, 18, 0, 0, 0, [(0, 2), (1, 6), (2, 10), (3, 14)]),
  (32, .aload_n 0, 1, 0, 0, 0, 0, []),
  (33, .getfield 69, 3, 10, 7, 2, 0, []),
  (36, .getfield 301, 3, 2, 3, 0, 0, []),
  (39, .ireturn, 1, 0, 0, 0, 0, []),
  (40, .aload_n 0, 1, 0, 0, 0, 0, []),
  (41, .getfield 69, 3, 10, 7, 2, 0, []),
  (44, .getfield 304, 3, 2, 4, 0, 0, []),
  (47, .ireturn, 1, 0, 0, 0, 0, []),
  (48, .aload_n 0, 1, 0, 0, 0, 0, []),
  (49, .getfield 69, 3, 10, 7, 2, 0, []),
  (52, .getfield 307, 3, 2, 5, 0, 0, []),
  (55, .ireturn, 1, 0, 0, 0, 0, []),
  (56, .aload_n 0, 1, 0, 0, 0, 0, []),
  (57, .getfield 69, 3, 10, 7, 2, 0, []),
  (60, .getfield 289, 3, 2, 2, 0, 0, []),
  (63, .ireturn, 1, 0, 0, 0, 0, []),
  (64, .iconst (-1), 1, 0, 0, 0, -1, []),
  (65, .ireturn, 1, 0, 0, 0, 0, [])]
/-- yX10_image -/
def mt_149 : List am_row := [
  (0, .aload_n 0, 1, 0, 0, 0, 0, []),
  (1, .getfield 69, 3, 10, 7, 2, 0, []),
  (4, .invokevirtual 310, 3, 20, 1, 0, 0, []),
  (7, .aload_n 0, 1, 0, 0, 0, 0, []),
  (8, .getfield 69, 3, 10, 7, 2, 0, []),
  (11, .getfield 301, 3, 2, 3, 0, 0, []),
  (14, .ireturn, 1, 0, 0, 0, 0, [])]
/-- yX10_back -/
def mt_150 : List am_row := [
  (0, .aload_n 0, 1, 0, 0, 0, 0, []),
  (1, .getfield 69, 3, 10, 7, 2, 0, []),
  (4, .invokevirtual 313, 3, 21, 1, 1, 0, []),
  (7, .ifCond .eq 13, 3, 8, 0, 0, 0, []),
  (10, .aload_n 0, 1, 0, 0, 0, 0, []),
  (11, .getfield 69, 3, 10, 7, 2, 0, []),
  (14, .getfield 301, 3, 2, 3, 0, 0, []),
  (17, .goto 5, 3, 9, 0, 0, 0, []),
  (20, .bipush (-5), 2, 0, 0, 0, -5, []),
  (22, .ireturn, 1, 0, 0, 0, 0, [])]
/-- yX10_undo -/
def mt_151 : List am_row := [
  (0, .aload_n 0, 1, 0, 0, 0, 0, []),
  (1, .getfield 19, 3, 10, 1, 2, 0, []),
  (4, .aload_n 0, 1, 0, 0, 0, 0, []),
  (5, .getfield 10, 3, 10, 0, 2, 0, []),
  (8, .invokevirtual 316, 3, 13, 2, 1, 0, []),
  (11, .ifCond .eq 13, 3, 10, 0, 0, 0, []),
  (14, .aload_n 0, 1, 0, 0, 0, 0, []),
  (15, .getfield 19, 3, 10, 1, 2, 0, []),
  (18, .getfield 320, 3, 1, 1, 0, 0, []),
  (21, .goto 5, 3, 11, 0, 0, 0, []),
  (24, .bipush (-5), 2, 0, 0, 0, -5, []),
  (26, .ireturn, 1, 0, 0, 0, 0, [])]
/-- none -/
def mt_152 : List am_row := [
  ]
/-- yX10_body -/
def mt_153 : List am_row := [
  (0, .aload_n 0, 1, 0, 0, 0, 0, []),
  (1, .getfield 76, 3, 10, 8, 2, 0, []),
  (4, .iload_n 1, 1, 0, 0, 0, 0, []),
  (5, .invokevirtual 329, 3, 83, 2, 1, 0, []),
  (8, .ifCond .ne 5, 3, 7, 0, 0, 0, []),
  (11, .iconst (-1), 1, 0, 0, 0, -1, []),
  (12, .ireturn, 1, 0, 0, 0, 0, []),
  (13, .aload_n 0, 1, 0, 0, 0, 0, []),
  (14, .getfield 76, 3, 10, 8, 2, 0, []),
  (17, .iload_n 1, 1, 0, 0, 0, 0, []),
  (18, .invokevirtual 332, 3, 85, 2, 1, 0, []),
  (21, .ifCond .eq 15, 3, 18, 0, 0, 0, []),
  (24, .aload_n 0, 1, 0, 0, 0, 0, []),
  (25, .getfield 76, 3, 10, 8, 2, 0, []),
  (28, .getfield 335, 3, 6, 1, 0, 0, []),
  (31, .iconst 1, 1, 0, 0, 0, 1, []),
  (32, .isub, 1, 0, 0, 0, 0, []),
  (33, .goto 5, 3, 19, 0, 0, 0, []),
  (36, .bipush (-3), 2, 0, 0, 0, -3, []),
  (38, .ireturn, 1, 0, 0, 0, 0, [])]
/-- none -/
def mt_154 : List am_row := [
  ]
/-- none -/
def mt_155 : List am_row := [
  ]
/-- none -/
def mt_156 : List am_row := [
  ]
/-- yX10_row -/
def mt_157 : List am_row := [
  (0, .aload_n 0, 1, 0, 0, 0, 0, []),
  (1, .iload_n 1, 1, 0, 0, 0, 0, []),
  (2, .invokevirtual 99, 3, 165, 2, 1, 0, []),
  (5, .ifCond .eq 18, 3, 12, 0, 0, 0, []),
  (8, .iload_n 2, 1, 0, 0, 0, 0, []),
  (9, .ifCond .lt 14, 3, 12, 0, 0, 0, []),
  (12, .iload_n 2, 1, 0, 0, 0, 0, []),
  (13, .iconst 5, 1, 0, 0, 0, 5, []),
  (14, .if_icmp .ge 9, 3, 12, 0, 0, 0, []),
  (17, .iload_n 3, 1, 0, 0, 0, 0, []),
  (18, .bipush 60, 2, 0, 0, 0, 60, []),
  (20, .if_icmp .le 5, 3, 14, 0, 0, 0, []),
  (23, .iconst (-1), 1, 0, 0, 0, -1, []),
  (24, .ireturn, 1, 0, 0, 0, 0, []),
  (25, .iload_n 3, 1, 0, 0, 0, 0, []),
  (26, .ifCond .ge 6, 3, 18, 0, 0, 0, []),
  (29, .bipush (-14), 2, 0, 0, 0, -14, []),
  (31, .ireturn, 1, 0, 0, 0, 0, []),
  (32, .aload_n 0, 1, 0, 0, 0, 0, []),
  (33, .getfield 82, 3, 10, 9, 2, 0, []),
  (36, .iload_n 1, 1, 0, 0, 0, 0, []),
  (37, .aaload, 1, 0, 0, 0, 0, []),
  (38, .iload_n 2, 1, 0, 0, 0, 0, []),
  (39, .iload_n 3, 1, 0, 0, 0, 0, []),
  (40, .invokevirtual 356, 3, 98, 3, 0, 0, []),
  (43, .iconst 1, 1, 0, 0, 0, 1, []),
  (44, .ireturn, 1, 0, 0, 0, 0, [])]
/-- yX10_put -/
def mt_158 : List am_row := [
  (0, .aload_n 0, 1, 0, 0, 0, 0, []),
  (1, .iload_n 1, 1, 0, 0, 0, 0, []),
  (2, .invokevirtual 99, 3, 165, 2, 1, 0, []),
  (5, .ifCond .ne 5, 3, 6, 0, 0, 0, []),
  (8, .iconst (-1), 1, 0, 0, 0, -1, []),
  (9, .ireturn, 1, 0, 0, 0, 0, []),
  (10, .aload_n 0, 1, 0, 0, 0, 0, []),
  (11, .getfield 82, 3, 10, 9, 2, 0, []),
  (14, .iload_n 1, 1, 0, 0, 0, 0, []),
  (15, .aaload, 1, 0, 0, 0, 0, []),
  (16, .astore 5, 2, 0, 0, 0, 0, []),
  (18, .aload 5, 2, 0, 0, 0, 0, []),
  (20, .invokevirtual 359, 3, 99, 1, 1, 0, []),
  (23, .istore 6, 2, 0, 0, 0, 0, []),
  (25, .iload 6, 2, 0, 0, 0, 0, []),
  (27, .ifCond .eq 6, 3, 18, 0, 0, 0, []),
  (30, .iload 6, 2, 0, 0, 0, 0, []),
  (32, .ireturn, 1, 0, 0, 0, 0, []),
  (33, .aload 5, 2, 0, 0, 0, 0, []),
  (35, .iload_n 2, 1, 0, 0, 0, 0, []),
  (36, .lload_n 3, 1, 0, 0, 0, 0, []),
  (37, .invokevirtual 362, 3, 104, 3, 1, 0, []),
  (40, .ifCond .eq 7, 3, 25, 0, 0, 0, []),
  (43, .iconst 1, 1, 0, 0, 0, 1, []),
  (44, .goto 5, 3, 26, 0, 0, 0, []),
  (47, .bipush (-13), 2, 0, 0, 0, -13, []),
  (49, .ireturn, 1, 0, 0, 0, 0, [])]
/-- none -/
def mt_159 : List am_row := [
  ]
/-- none -/
def mt_160 : List am_row := [
  ]
/-- none -/
def mt_161 : List am_row := [
  ]
/-- yX10_count -/
def mt_162 : List am_row := [
  (0, .iload_n 1, 1, 0, 0, 0, 0, []),
  (1, .tableswitch 87 0 5 #[39, 47, 55, 63, 71, 79], 39, 26, 0, 0, 0, [(0, 2), (1, 6), (2, 10), (3, 14), (4, 18), (5, 22)]),
  (40, .aload_n 0, 1, 0, 0, 0, 0, []),
  (41, .getfield 10, 3, 10, 0, 2, 0, []),
  (44, .getfield 95, 3, 0, 1, 0, 0, []),
  (47, .ireturn, 1, 0, 0, 0, 0, []),
  (48, .aload_n 0, 1, 0, 0, 0, 0, []),
  (49, .getfield 10, 3, 10, 0, 2, 0, []),
  (52, .getfield 117, 3, 0, 2, 0, 0, []),
  (55, .ireturn, 1, 0, 0, 0, 0, []),
  (56, .aload_n 0, 1, 0, 0, 0, 0, []),
  (57, .getfield 26, 3, 10, 2, 2, 0, []),
  (60, .getfield 145, 3, 5, 1, 0, 0, []),
  (63, .ireturn, 1, 0, 0, 0, 0, []),
  (64, .aload_n 0, 1, 0, 0, 0, 0, []),
  (65, .getfield 19, 3, 10, 1, 2, 0, []),
  (68, .getfield 320, 3, 1, 1, 0, 0, []),
  (71, .ireturn, 1, 0, 0, 0, 0, []),
  (72, .aload_n 0, 1, 0, 0, 0, 0, []),
  (73, .getfield 76, 3, 10, 8, 2, 0, []),
  (76, .getfield 335, 3, 6, 1, 0, 0, []),
  (79, .ireturn, 1, 0, 0, 0, 0, []),
  (80, .aload_n 0, 1, 0, 0, 0, 0, []),
  (81, .getfield 76, 3, 10, 8, 2, 0, []),
  (84, .getfield 396, 3, 6, 3, 0, 0, []),
  (87, .ireturn, 1, 0, 0, 0, 0, []),
  (88, .iconst (-1), 1, 0, 0, 0, -1, []),
  (89, .ireturn, 1, 0, 0, 0, 0, [])]
/-- yX10_isRule -/
def mt_163 : List am_row := [
  (0, .iload_n 0, 1, 0, 0, 0, 0, []),
  (1, .ifCond .lt 12, 3, 7, 0, 0, 0, []),
  (4, .iload_n 0, 1, 0, 0, 0, 0, []),
  (5, .iconst 5, 1, 0, 0, 0, 5, []),
  (6, .if_icmp .ge 7, 3, 7, 0, 0, 0, []),
  (9, .iconst 1, 1, 0, 0, 0, 1, []),
  (10, .goto 4, 3, 8, 0, 0, 0, []),
  (13, .iconst 0, 1, 0, 0, 0, 0, []),
  (14, .ireturn, 1, 1, 0, 0, 0, [])]
/-- yX10_isRuleAndChild -/
def mt_164 : List am_row := [
  (0, .iload_n 1, 1, 0, 0, 0, 0, []),
  (1, .ifCond .lt 31, 3, 16, 0, 0, 0, []),
  (4, .iload_n 1, 1, 0, 0, 0, 0, []),
  (5, .bipush 10, 2, 0, 0, 0, 10, []),
  (7, .idiv, 1, 0, 0, 0, 0, []),
  (8, .invokestatic 158, 3, 163, 1, 1, 0, []),
  (11, .ifCond .eq 21, 3, 16, 0, 0, 0, []),
  (14, .aload_n 0, 1, 0, 0, 0, 0, []),
  (15, .getfield 10, 3, 10, 0, 2, 0, []),
  (18, .iload_n 1, 1, 0, 0, 0, 0, []),
  (19, .bipush 10, 2, 0, 0, 0, 10, []),
  (21, .irem, 1, 0, 0, 0, 0, []),
  (22, .invokevirtual 151, 3, 1, 2, 1, 0, []),
  (25, .ifCond .eq 7, 3, 16, 0, 0, 0, []),
  (28, .iconst 1, 1, 0, 0, 0, 1, []),
  (29, .goto 4, 3, 17, 0, 0, 0, []),
  (32, .iconst 0, 1, 0, 0, 0, 0, []),
  (33, .ireturn, 1, 1, 0, 0, 0, [])]
/-- yX10_isShelf -/
def mt_165 : List am_row := [
  (0, .iload_n 1, 1, 0, 0, 0, 0, []),
  (1, .ifCond .lt 16, 3, 9, 0, 0, 0, []),
  (4, .iload_n 1, 1, 0, 0, 0, 0, []),
  (5, .aload_n 0, 1, 0, 0, 0, 0, []),
  (6, .getfield 82, 3, 10, 9, 2, 0, []),
  (9, .arraylength, 1, 0, 0, 0, 0, []),
  (10, .if_icmp .ge 7, 3, 9, 0, 0, 0, []),
  (13, .iconst 1, 1, 0, 0, 0, 1, []),
  (14, .goto 4, 3, 10, 0, 0, 0, []),
  (17, .iconst 0, 1, 0, 0, 0, 0, []),
  (18, .ireturn, 1, 1, 0, 0, 0, [])]
/-- yX10_fresh -/
def mt_166 : List am_row := [
  (0, .aload_n 0, 1, 0, 0, 0, 0, []),
  (1, .getfield 44, 3, 10, 4, 2, 0, []),
  (4, .invokevirtual 190, 3, 30, 1, 0, 0, []),
  (7, .aload_n 0, 1, 0, 0, 0, 0, []),
  (8, .getfield 44, 3, 10, 4, 2, 0, []),
  (11, .areturn, 1, 0, 0, 0, 0, [])]
/-- none -/
def mt_167 : List am_row := [
  ]
/-- none -/
def mt_168 : List am_row := [
  ]
/-- none -/
def mt_169 : List am_row := [
  ]
/-- none -/
def mt_170 : List am_row := [
  ]
/-- none -/
def mt_171 : List am_row := [
  ]
/-- none -/
def mt_172 : List am_row := [
  ]
/-- none -/
def mt_173 : List am_row := [
  ]
/-- none -/
def mt_174 : List am_row := [
  ]
/-- none -/
def mt_175 : List am_row := [
  ]
/-- none -/
def mt_176 : List am_row := [
  ]
/-- none -/
def mt_177 : List am_row := [
  ]
/-- none -/
def mt_178 : List am_row := [
  ]
/-- none -/
def mt_179 : List am_row := [
  ]
/-- none -/
def mt_180 : List am_row := [
  ]
/-- none -/
def mt_181 : List am_row := [
  ]
/-- none -/
def mt_182 : List am_row := [
  ]
/-- none -/
def mt_183 : List am_row := [
  ]
/-- none -/
def mt_184 : List am_row := [
  ]
/-- none -/
def mt_185 : List am_row := [
  ]
/-- none -/
def mt_186 : List am_row := [
  ]
/-- none -/
def mt_187 : List am_row := [
  ]
/-- none -/
def mt_188 : List am_row := [
  ]
/-- none -/
def mt_189 : List am_row := [
  ]
/-- none -/
def mt_190 : List am_row := [
  ]
/-- none -/
def mt_191 : List am_row := [
  ]
/-- none -/
def mt_192 : List am_row := [
  ]
/-- none -/
def mt_193 : List am_row := [
  ]
/-- none -/
def mt_194 : List am_row := [
  ]
/-- none -/
def mt_195 : List am_row := [
  ]
/-- none -/
def mt_196 : List am_row := [
  ]
/-- none -/
def mt_197 : List am_row := [
  ]
/-- none -/
def mt_198 : List am_row := [
  ]
/-- none -/
def mt_199 : List am_row := [
  ]
/-- none -/
def mt_200 : List am_row := [
  ]
/-- none -/
def mt_201 : List am_row := [
  ]
/-- none -/
def mt_202 : List am_row := [
  ]
/-- none -/
def mt_203 : List am_row := [
  ]
/-- none -/
def mt_204 : List am_row := [
  ]
/-- none -/
def mt_205 : List am_row := [
  ]
/-- none -/
def mt_206 : List am_row := [
  ]
/-- none -/
def mt_207 : List am_row := [
  ]
/-- none -/
def mt_208 : List am_row := [
  ]
/-- none -/
def mt_209 : List am_row := [
  ]
/-- none -/
def mt_210 : List am_row := [
  ]
/-- none -/
def mt_211 : List am_row := [
  ]
/-- none -/
def mt_212 : List am_row := [
  ]
/-- none -/
def mt_213 : List am_row := [
  ]
/-- none -/
def mt_214 : List am_row := [
  ]
/-- none -/
def mt_215 : List am_row := [
  ]
/-- none -/
def mt_216 : List am_row := [
  ]
/-- none -/
def mt_217 : List am_row := [
  ]
/-- none -/
def mt_218 : List am_row := [
  ]
/-- none -/
def mt_219 : List am_row := [
  ]
/-- none -/
def mt_220 : List am_row := [
  ]
/-- none -/
def mt_221 : List am_row := [
  ]
/-- none -/
def mt_222 : List am_row := [
  ]
/-- none -/
def mt_223 : List am_row := [
  ]
/-- none -/
def mt_224 : List am_row := [
  ]
/-- none -/
def mt_225 : List am_row := [
  ]
/-- none -/
def mt_226 : List am_row := [
  ]
/-- none -/
def mt_227 : List am_row := [
  ]
/-- none -/
def mt_228 : List am_row := [
  ]
/-- none -/
def mt_229 : List am_row := [
  ]
/-- none -/
def mt_230 : List am_row := [
  ]
/-- none -/
def mt_231 : List am_row := [
  ]
/-- none -/
def mt_232 : List am_row := [
  ]
/-- none -/
def mt_233 : List am_row := [
  ]
/-- none -/
def mt_234 : List am_row := [
  ]
/-- none -/
def mt_235 : List am_row := [
  ]
/-- none -/
def mt_236 : List am_row := [
  ]
/-- none -/
def mt_237 : List am_row := [
  ]
/-- none -/
def mt_238 : List am_row := [
  ]
/-- none -/
def mt_239 : List am_row := [
  ]
/-- none -/
def mt_240 : List am_row := [
  ]
/-- none -/
def mt_241 : List am_row := [
  ]
/-- none -/
def mt_242 : List am_row := [
  ]
/-- none -/
def mt_243 : List am_row := [
  ]
/-- none -/
def mt_244 : List am_row := [
  ]
/-- none -/
def mt_245 : List am_row := [
  ]
/-- none -/
def mt_246 : List am_row := [
  ]
/-- none -/
def mt_247 : List am_row := [
  ]
/-- none -/
def mt_248 : List am_row := [
  ]
/-- none -/
def mt_249 : List am_row := [
  ]
/-- none -/
def mt_250 : List am_row := [
  ]
/-- none -/
def mt_251 : List am_row := [
  ]
/-- none -/
def mt_252 : List am_row := [
  ]
/-- none -/
def mt_253 : List am_row := [
  ]
/-- none -/
def mt_254 : List am_row := [
  ]
/-- none -/
def mt_255 : List am_row := [
  ]
/-- none -/
def mt_256 : List am_row := [
  ]
/-- none -/
def mt_257 : List am_row := [
  ]
/-- none -/
def mt_258 : List am_row := [
  ]
/-- none -/
def mt_259 : List am_row := [
  ]
/-- none -/
def mt_260 : List am_row := [
  ]
/-- none -/
def mt_261 : List am_row := [
  ]
/-- none -/
def mt_262 : List am_row := [
  ]
/-- none -/
def mt_263 : List am_row := [
  ]
/-- none -/
def mt_264 : List am_row := [
  ]
/-- none -/
def mt_265 : List am_row := [
  ]
/-- none -/
def mt_266 : List am_row := [
  ]
/-- none -/
def mt_267 : List am_row := [
  ]
/-- none -/
def mt_268 : List am_row := [
  ]
/-- none -/
def mt_269 : List am_row := [
  ]
/-- none -/
def mt_270 : List am_row := [
  ]
/-- none -/
def mt_271 : List am_row := [
  ]
/-- none -/
def mt_272 : List am_row := [
  ]
/-- yJ6_bitCount_0f7a4 -/
def mt_273 : List am_row := [
  (0, .iload_n 0, 1, 0, 0, 0, 0, []),
  (1, .iload_n 0, 1, 0, 0, 0, 0, []),
  (2, .iconst 1, 1, 0, 0, 0, 1, []),
  (3, .iushr, 1, 0, 0, 0, 0, []),
  (4, .ldc_w 265, 3, 0, 0, 0, 1431655765, []),
  (7, .iand, 1, 0, 0, 0, 0, []),
  (8, .isub, 1, 0, 0, 0, 0, []),
  (9, .istore_n 0, 1, 0, 0, 0, 0, []),
  (10, .iload_n 0, 1, 0, 0, 0, 0, []),
  (11, .ldc_w 266, 3, 0, 0, 0, 858993459, []),
  (14, .iand, 1, 0, 0, 0, 0, []),
  (15, .iload_n 0, 1, 0, 0, 0, 0, []),
  (16, .iconst 2, 1, 0, 0, 0, 2, []),
  (17, .iushr, 1, 0, 0, 0, 0, []),
  (18, .ldc_w 266, 3, 0, 0, 0, 858993459, []),
  (21, .iand, 1, 0, 0, 0, 0, []),
  (22, .iadd, 1, 0, 0, 0, 0, []),
  (23, .istore_n 0, 1, 0, 0, 0, 0, []),
  (24, .iload_n 0, 1, 0, 0, 0, 0, []),
  (25, .iload_n 0, 1, 0, 0, 0, 0, []),
  (26, .iconst 4, 1, 0, 0, 0, 4, []),
  (27, .iushr, 1, 0, 0, 0, 0, []),
  (28, .iadd, 1, 0, 0, 0, 0, []),
  (29, .ldc_w 267, 3, 0, 0, 0, 252645135, []),
  (32, .iand, 1, 0, 0, 0, 0, []),
  (33, .istore_n 0, 1, 0, 0, 0, 0, []),
  (34, .iload_n 0, 1, 0, 0, 0, 0, []),
  (35, .iload_n 0, 1, 0, 0, 0, 0, []),
  (36, .bipush 8, 2, 0, 0, 0, 8, []),
  (38, .iushr, 1, 0, 0, 0, 0, []),
  (39, .iadd, 1, 0, 0, 0, 0, []),
  (40, .istore_n 0, 1, 0, 0, 0, 0, []),
  (41, .iload_n 0, 1, 0, 0, 0, 0, []),
  (42, .iload_n 0, 1, 0, 0, 0, 0, []),
  (43, .bipush 16, 2, 0, 0, 0, 16, []),
  (45, .iushr, 1, 0, 0, 0, 0, []),
  (46, .iadd, 1, 0, 0, 0, 0, []),
  (47, .istore_n 0, 1, 0, 0, 0, 0, []),
  (48, .iload_n 0, 1, 0, 0, 0, 0, []),
  (49, .bipush 63, 2, 0, 0, 0, 63, []),
  (51, .iand, 1, 0, 0, 0, 0, []),
  (52, .ireturn, 1, 0, 0, 0, 0, [])]
/-- yJ7_fill_d0a16 -/
def mt_274 : List am_row := [
  (0, .iconst 0, 1, 0, 0, 0, 0, []),
  (1, .istore_n 3, 1, 0, 0, 0, 0, []),
  (2, .aload_n 0, 1, 0, 0, 0, 0, []),
  (3, .arraylength, 1, 0, 0, 0, 0, []),
  (4, .istore 4, 2, 0, 0, 0, 0, []),
  (6, .iload_n 3, 1, 0, 0, 0, 0, []),
  (7, .iload 4, 2, 0, 0, 0, 0, []),
  (9, .if_icmp .ge 13, 3, 14, 0, 0, 0, []),
  (12, .aload_n 0, 1, 0, 0, 0, 0, []),
  (13, .iload_n 3, 1, 0, 0, 0, 0, []),
  (14, .lload_n 1, 1, 0, 0, 0, 0, []),
  (15, .lastore, 1, 0, 0, 0, 0, []),
  (16, .iinc 3 1, 3, 0, 0, 0, 1, []),
  (19, .goto (-13), 3, 5, 0, 0, 0, []),
  (22, .return_, 1, 0, 0, 0, 0, [])]
/-- yJ7_fill_53178 -/
def mt_275 : List am_row := [
  (0, .iconst 0, 1, 0, 0, 0, 0, []),
  (1, .istore_n 2, 1, 0, 0, 0, 0, []),
  (2, .aload_n 0, 1, 0, 0, 0, 0, []),
  (3, .arraylength, 1, 0, 0, 0, 0, []),
  (4, .istore_n 3, 1, 0, 0, 0, 0, []),
  (5, .iload_n 2, 1, 0, 0, 0, 0, []),
  (6, .iload_n 3, 1, 0, 0, 0, 0, []),
  (7, .if_icmp .ge 13, 3, 14, 0, 0, 0, []),
  (10, .aload_n 0, 1, 0, 0, 0, 0, []),
  (11, .iload_n 2, 1, 0, 0, 0, 0, []),
  (12, .iload_n 1, 1, 0, 0, 0, 0, []),
  (13, .iastore, 1, 0, 0, 0, 0, []),
  (14, .iinc 2 1, 3, 0, 0, 0, 1, []),
  (17, .goto (-12), 3, 5, 0, 0, 0, []),
  (20, .return_, 1, 0, 0, 0, 0, [])]
/-- yJ0_length_8abf5 -/
def mt_276 : List am_row := [
  (0, .aload_n 0, 1, 0, 0, 0, 0, []),
  (1, .getfield 9, 3, 100, 0, 2, 0, []),
  (4, .arraylength, 1, 0, 0, 0, 0, []),
  (5, .aload_n 0, 1, 0, 0, 0, 0, []),
  (6, .invokevirtual 335, 3, 279, 1, 1, 0, []),
  (9, .ishr, 1, 0, 0, 0, 0, []),
  (10, .ireturn, 1, 0, 0, 0, 0, [])]
/-- yJ0_indexOf_0f7a4 -/
def mt_277 : List am_row := [
  (0, .aload_n 0, 1, 0, 0, 0, 0, []),
  (1, .iload_n 1, 1, 0, 0, 0, 0, []),
  (2, .iconst 0, 1, 0, 0, 0, 0, []),
  (3, .invokevirtual 633, 3, 278, 3, 1, 0, []),
  (6, .ireturn, 1, 0, 0, 0, 0, [])]
/-- yJ0_indexOf_7cf53 -/
def mt_278 : List am_row := [
  (0, .aload_n 0, 1, 0, 0, 0, 0, []),
  (1, .invokevirtual 492, 3, 280, 1, 1, 0, []),
  (4, .ifCond .eq 19, 3, 11, 0, 0, 0, []),
  (7, .aload_n 0, 1, 0, 0, 0, 0, []),
  (8, .getfield 9, 3, 100, 0, 2, 0, []),
  (11, .iload_n 1, 1, 0, 0, 0, 0, []),
  (12, .iload_n 2, 1, 0, 0, 0, 0, []),
  (13, .aload_n 0, 1, 0, 0, 0, 0, []),
  (14, .invokevirtual 505, 3, 276, 1, 1, 0, []),
  (17, .invokestatic 637, 3, 282, 4, 1, 0, []),
  (20, .goto 16, 3, 18, 0, 0, 0, []),
  (23, .aload_n 0, 1, 0, 0, 0, 0, []),
  (24, .getfield 9, 3, 100, 0, 2, 0, []),
  (27, .iload_n 1, 1, 0, 0, 0, 0, []),
  (28, .iload_n 2, 1, 0, 0, 0, 0, []),
  (29, .aload_n 0, 1, 0, 0, 0, 0, []),
  (30, .invokevirtual 505, 3, 276, 1, 1, 0, []),
  (33, .invokestatic 640, 3, 2001, 4, 1, 0, []),
  (36, .ireturn, 1, 0, 0, 0, 0, [])]
/-- yJ0_coder_7d493 -/
def mt_279 : List am_row := [
  (0, .getstatic 38, 3, 0, 1, 0, 1, []),
  (3, .ifCond .eq 10, 3, 5, 0, 0, 0, []),
  (6, .aload_n 0, 1, 0, 0, 0, 0, []),
  (7, .getfield 15, 3, 100, 1, 0, 0, []),
  (10, .goto 4, 3, 6, 0, 0, 0, []),
  (13, .iconst 1, 1, 0, 0, 0, 1, []),
  (14, .ireturn, 1, 1, 0, 0, 0, [])]
/-- yJ0_isLatin1_aae02 -/
def mt_280 : List am_row := [
  (0, .getstatic 38, 3, 0, 1, 0, 1, []),
  (3, .ifCond .eq 14, 3, 7, 0, 0, 0, []),
  (6, .aload_n 0, 1, 0, 0, 0, 0, []),
  (7, .getfield 15, 3, 100, 1, 0, 0, []),
  (10, .ifCond .ne 7, 3, 7, 0, 0, 0, []),
  (13, .iconst 1, 1, 0, 0, 0, 1, []),
  (14, .goto 4, 3, 8, 0, 0, 0, []),
  (17, .iconst 0, 1, 0, 0, 0, 0, []),
  (18, .ireturn, 1, 1, 0, 0, 0, [])]
/-- yJ1_canEncode_9a6ad -/
def mt_281 : List am_row := [
  (0, .iload_n 0, 1, 0, 0, 0, 0, []),
  (1, .ifCond .lt 14, 3, 7, 0, 0, 0, []),
  (4, .iload_n 0, 1, 0, 0, 0, 0, []),
  (5, .sipush 255, 3, 0, 0, 0, 255, []),
  (8, .if_icmp .gt 7, 3, 7, 0, 0, 0, []),
  (11, .iconst 1, 1, 0, 0, 0, 1, []),
  (12, .goto 4, 3, 8, 0, 0, 0, []),
  (15, .iconst 0, 1, 0, 0, 0, 0, []),
  (16, .ireturn, 1, 1, 0, 0, 0, [])]
/-- yJ1_indexOf_4cfef -/
def mt_282 : List am_row := [
  (0, .iload_n 1, 1, 0, 0, 0, 0, []),
  (1, .invokestatic 88, 3, 281, 1, 1, 0, []),
  (4, .ifCond .ne 5, 3, 5, 0, 0, 0, []),
  (7, .iconst (-1), 1, 0, 0, 0, -1, []),
  (8, .ireturn, 1, 0, 0, 0, 0, []),
  (9, .iload_n 2, 1, 0, 0, 0, 0, []),
  (10, .iconst 0, 1, 0, 0, 0, 0, []),
  (11, .invokestatic 92, 3, 1000, 2, 1, 0, []),
  (14, .istore_n 2, 1, 0, 0, 0, 0, []),
  (15, .iload_n 3, 1, 0, 0, 0, 0, []),
  (16, .aload_n 0, 1, 0, 0, 0, 0, []),
  (17, .arraylength, 1, 0, 0, 0, 0, []),
  (18, .invokestatic 38, 3, 1001, 2, 1, 0, []),
  (21, .istore_n 3, 1, 0, 0, 0, 0, []),
  (22, .iload_n 2, 1, 0, 0, 0, 0, []),
  (23, .iload_n 3, 1, 0, 0, 0, 0, []),
  (24, .if_icmp .lt 5, 3, 19, 0, 0, 0, []),
  (27, .iconst (-1), 1, 0, 0, 0, -1, []),
  (28, .ireturn, 1, 0, 0, 0, 0, []),
  (29, .aload_n 0, 1, 0, 0, 0, 0, []),
  (30, .iload_n 1, 1, 0, 0, 0, 0, []),
  (31, .iload_n 2, 1, 0, 0, 0, 0, []),
  (32, .iload_n 3, 1, 0, 0, 0, 0, []),
  (33, .invokestatic 95, 3, 283, 4, 1, 0, []),
  (36, .ireturn, 1, 0, 0, 0, 0, [])]
/-- yJ1_indexOfChar_4cfef -/
def mt_283 : List am_row := [
  (0, .iload_n 1, 1, 0, 0, 0, 0, []),
  (1, .i2b, 1, 0, 0, 0, 0, []),
  (2, .istore 4, 2, 0, 0, 0, 0, []),
  (4, .iload_n 2, 1, 0, 0, 0, 0, []),
  (5, .istore 5, 2, 0, 0, 0, 0, []),
  (7, .iload 5, 2, 0, 0, 0, 0, []),
  (9, .iload_n 3, 1, 0, 0, 0, 0, []),
  (10, .if_icmp .ge 21, 3, 17, 0, 0, 0, []),
  (13, .aload_n 0, 1, 0, 0, 0, 0, []),
  (14, .iload 5, 2, 0, 0, 0, 0, []),
  (16, .baload, 1, 0, 0, 0, 0, []),
  (17, .iload 4, 2, 0, 0, 0, 0, []),
  (19, .if_icmp .ne 6, 3, 15, 0, 0, 0, []),
  (22, .iload 5, 2, 0, 0, 0, 0, []),
  (24, .ireturn, 1, 0, 0, 0, 0, []),
  (25, .iinc 5 1, 3, 0, 0, 0, 1, []),
  (28, .goto (-21), 3, 5, 0, 0, 0, []),
  (31, .iconst (-1), 1, 0, 0, 0, -1, []),
  (32, .ireturn, 1, 0, 0, 0, 0, [])]
/-- yJ0_charAt_5068e -/
def mt_284 : List am_row := [
  (0, .aload_n 0, 1, 0, 0, 0, 0, []),
  (1, .invokevirtual 492, 3, 280, 1, 1, 0, []),
  (4, .ifCond .eq 12, 3, 8, 0, 0, 0, []),
  (7, .aload_n 0, 1, 0, 0, 0, 0, []),
  (8, .getfield 9, 3, 100, 0, 2, 0, []),
  (11, .iload_n 1, 1, 0, 0, 0, 0, []),
  (12, .invokestatic 495, 3, 285, 2, 1, 0, []),
  (15, .ireturn, 1, 2, 0, 0, 0, []),
  (16, .aload_n 0, 1, 0, 0, 0, 0, []),
  (17, .getfield 9, 3, 100, 0, 2, 0, []),
  (20, .iload_n 1, 1, 0, 0, 0, 0, []),
  (21, .invokestatic 498, 3, 2001, 2, 1, 0, []),
  (24, .ireturn, 1, 2, 0, 0, 0, [])]
/-- yJ1_charAt_3b067 -/
def mt_285 : List am_row := [
  (0, .iload_n 1, 1, 0, 0, 0, 0, []),
  (1, .aload_n 0, 1, 0, 0, 0, 0, []),
  (2, .arraylength, 1, 0, 0, 0, 0, []),
  (3, .invokestatic 9, 3, 286, 2, 0, 0, []),
  (6, .aload_n 0, 1, 0, 0, 0, 0, []),
  (7, .iload_n 1, 1, 0, 0, 0, 0, []),
  (8, .baload, 1, 0, 0, 0, 0, []),
  (9, .sipush 255, 3, 0, 0, 0, 255, []),
  (12, .iand, 1, 0, 0, 0, 0, []),
  (13, .i2c, 1, 0, 0, 0, 0, []),
  (14, .ireturn, 1, 2, 0, 0, 0, [])]
/-- yJ0_checkIndex_df160 -/
def mt_286 : List am_row := [
  (0, .iload_n 0, 1, 0, 0, 0, 0, []),
  (1, .iload_n 1, 1, 0, 0, 0, 0, []),
  (2, .getstatic 1053, 3, 0, 2, 0, 0, []),
  (5, .invokestatic 1059, 3, 287, 3, 1, 0, []),
  (8, .pop, 1, 0, 0, 0, 0, []),
  (9, .return_, 1, 0, 0, 0, 0, [])]
/-- yJ3_checkIndex_8e157 -/
def mt_287 : List am_row := [
  (0, .iload_n 0, 1, 0, 0, 0, 0, []),
  (1, .ifCond .lt 8, 3, 5, 0, 0, 0, []),
  (4, .iload_n 0, 1, 0, 0, 0, 0, []),
  (5, .iload_n 1, 1, 0, 0, 0, 0, []),
  (6, .if_icmp .lt 10, 3, 10, 0, 0, 0, []),
  (9, .aload_n 2, 1, 0, 0, 0, 0, []),
  (10, .iload_n 0, 1, 0, 0, 0, 0, []),
  (11, .iload_n 1, 1, 0, 0, 0, 0, []),
  (12, .invokestatic 95, 3, 2001, 0, 0, 0, []),
  (15, .athrow, 1, 0, 0, 0, 0, []),
  (16, .iload_n 0, 1, 0, 0, 0, 0, []),
  (17, .ireturn, 1, 0, 0, 0, 0, [])]
/-- yL_at -/
def mt_288 : List am_row := [
  (0, .iload_n 1, 1, 0, 0, 0, 0, []),
  (1, .aload_n 0, 1, 0, 0, 0, 0, []),
  (2, .arraylength, 1, 0, 0, 0, 0, []),
  (3, .if_icmp .ge 9, 3, 8, 0, 0, 0, []),
  (6, .aload_n 0, 1, 0, 0, 0, 0, []),
  (7, .iload_n 1, 1, 0, 0, 0, 0, []),
  (8, .iaload, 1, 0, 0, 0, 0, []),
  (9, .goto 4, 3, 9, 0, 0, 0, []),
  (12, .iconst 0, 1, 0, 0, 0, 0, []),
  (13, .ireturn, 1, 0, 0, 0, 0, [])]
/-- yL_some -/
def mt_289 : List am_row := [
  (0, .iload_n 0, 1, 0, 0, 0, 0, []),
  (1, .iload_n 1, 1, 0, 0, 0, 0, []),
  (2, .irem, 1, 0, 0, 0, 0, []),
  (3, .istore_n 2, 1, 0, 0, 0, 0, []),
  (4, .iload_n 2, 1, 0, 0, 0, 0, []),
  (5, .ifCond .ge 9, 3, 10, 0, 0, 0, []),
  (8, .iload_n 2, 1, 0, 0, 0, 0, []),
  (9, .iload_n 1, 1, 0, 0, 0, 0, []),
  (10, .iadd, 1, 0, 0, 0, 0, []),
  (11, .goto 4, 3, 11, 0, 0, 0, []),
  (14, .iload_n 2, 1, 0, 0, 0, 0, []),
  (15, .ireturn, 1, 0, 0, 0, 0, [])]
/-- yL_told -/
def mt_290 : List am_row := [
  (0, .ldc2_w 109, 3, 5, 0, 0, 0, []),
  (3, .lstore_n 1, 1, 0, 0, 0, 0, []),
  (4, .aload_n 0, 1, 0, 0, 0, 0, []),
  (5, .iconst 0, 1, 0, 0, 0, 0, []),
  (6, .invokevirtual 111, 3, 162, 2, 1, 0, []),
  (9, .istore_n 3, 1, 0, 0, 0, 0, []),
  (10, .aload_n 0, 1, 0, 0, 0, 0, []),
  (11, .iconst 1, 1, 0, 0, 0, 1, []),
  (12, .invokevirtual 111, 3, 162, 2, 1, 0, []),
  (15, .istore 4, 2, 0, 0, 0, 0, []),
  (17, .iconst 0, 1, 0, 0, 0, 0, []),
  (18, .istore 5, 2, 0, 0, 0, 0, []),
  (20, .iload 5, 2, 0, 0, 0, 0, []),
  (22, .iload_n 3, 1, 0, 0, 0, 0, []),
  (23, .if_icmp .ge 89, 3, 69, 0, 0, 0, []),
  (26, .ldc2_w 114, 3, 6, 0, 0, 0, []),
  (29, .lload_n 1, 1, 0, 0, 0, 0, []),
  (30, .lmul, 1, 0, 0, 0, 0, []),
  (31, .aload_n 0, 1, 0, 0, 0, 0, []),
  (32, .iload 5, 2, 0, 0, 0, 0, []),
  (34, .iconst 0, 1, 0, 0, 0, 0, []),
  (35, .invokevirtual 116, 3, 122, 3, 1, 0, []),
  (38, .i2l, 1, 0, 0, 0, 0, []),
  (39, .ladd, 1, 0, 0, 0, 0, []),
  (40, .iconst 3, 1, 0, 0, 0, 3, []),
  (41, .aload_n 0, 1, 0, 0, 0, 0, []),
  (42, .iload 5, 2, 0, 0, 0, 0, []),
  (44, .iconst 1, 1, 0, 0, 0, 1, []),
  (45, .invokevirtual 116, 3, 122, 3, 1, 0, []),
  (48, .imul, 1, 0, 0, 0, 0, []),
  (49, .i2l, 1, 0, 0, 0, 0, []),
  (50, .ladd, 1, 0, 0, 0, 0, []),
  (51, .iconst 5, 1, 0, 0, 0, 5, []),
  (52, .aload_n 0, 1, 0, 0, 0, 0, []),
  (53, .iload 5, 2, 0, 0, 0, 0, []),
  (55, .iconst 2, 1, 0, 0, 0, 2, []),
  (56, .invokevirtual 116, 3, 122, 3, 1, 0, []),
  (59, .imul, 1, 0, 0, 0, 0, []),
  (60, .i2l, 1, 0, 0, 0, 0, []),
  (61, .ladd, 1, 0, 0, 0, 0, []),
  (62, .bipush 7, 2, 0, 0, 0, 7, []),
  (64, .aload_n 0, 1, 0, 0, 0, 0, []),
  (65, .iload 5, 2, 0, 0, 0, 0, []),
  (67, .bipush 10, 2, 0, 0, 0, 10, []),
  (69, .invokevirtual 116, 3, 122, 3, 1, 0, []),
  (72, .imul, 1, 0, 0, 0, 0, []),
  (73, .i2l, 1, 0, 0, 0, 0, []),
  (74, .ladd, 1, 0, 0, 0, 0, []),
  (75, .bipush 11, 2, 0, 0, 0, 11, []),
  (77, .aload_n 0, 1, 0, 0, 0, 0, []),
  (78, .sipush 300, 3, 0, 0, 0, 300, []),
  (81, .iload 5, 2, 0, 0, 0, 0, []),
  (83, .iadd, 1, 0, 0, 0, 0, []),
  (84, .invokevirtual 119, 3, 126, 2, 1, 0, []),
  (87, .imul, 1, 0, 0, 0, 0, []),
  (88, .i2l, 1, 0, 0, 0, 0, []),
  (89, .ladd, 1, 0, 0, 0, 0, []),
  (90, .bipush 13, 2, 0, 0, 0, 13, []),
  (92, .aload_n 0, 1, 0, 0, 0, 0, []),
  (93, .sipush 400, 3, 0, 0, 0, 400, []),
  (96, .iload 5, 2, 0, 0, 0, 0, []),
  (98, .iadd, 1, 0, 0, 0, 0, []),
  (99, .invokevirtual 119, 3, 126, 2, 1, 0, []),
  (102, .imul, 1, 0, 0, 0, 0, []),
  (103, .i2l, 1, 0, 0, 0, 0, []),
  (104, .ladd, 1, 0, 0, 0, 0, []),
  (105, .lstore_n 1, 1, 0, 0, 0, 0, []),
  (106, .iinc 5 1, 3, 0, 0, 0, 1, []),
  (109, .goto (-89), 3, 12, 0, 0, 0, []),
  (112, .iconst 0, 1, 0, 0, 0, 0, []),
  (113, .istore 5, 2, 0, 0, 0, 0, []),
  (115, .iload 5, 2, 0, 0, 0, 0, []),
  (117, .iload 4, 2, 0, 0, 0, 0, []),
  (119, .if_icmp .ge 109, 3, 139, 0, 0, 0, []),
  (122, .iconst 3, 1, 0, 0, 0, 3, []),
  (123, .istore 6, 2, 0, 0, 0, 0, []),
  (125, .iload 6, 2, 0, 0, 0, 0, []),
  (127, .bipush 8, 2, 0, 0, 0, 8, []),
  (129, .if_icmp .ge 25, 3, 91, 0, 0, 0, []),
  (132, .ldc2_w 114, 3, 6, 0, 0, 0, []),
  (135, .lload_n 1, 1, 0, 0, 0, 0, []),
  (136, .lmul, 1, 0, 0, 0, 0, []),
  (137, .aload_n 0, 1, 0, 0, 0, 0, []),
  (138, .iload 5, 2, 0, 0, 0, 0, []),
  (140, .iload 6, 2, 0, 0, 0, 0, []),
  (142, .invokevirtual 116, 3, 122, 3, 1, 0, []),
  (145, .i2l, 1, 0, 0, 0, 0, []),
  (146, .ladd, 1, 0, 0, 0, 0, []),
  (147, .lstore_n 1, 1, 0, 0, 0, 0, []),
  (148, .iinc 6 1, 3, 0, 0, 0, 1, []),
  (151, .goto (-26), 3, 76, 0, 0, 0, []),
  (154, .ldc2_w 114, 3, 6, 0, 0, 0, []),
  (157, .lload_n 1, 1, 0, 0, 0, 0, []),
  (158, .lmul, 1, 0, 0, 0, 0, []),
  (159, .aload_n 0, 1, 0, 0, 0, 0, []),
  (160, .iload 5, 2, 0, 0, 0, 0, []),
  (162, .invokevirtual 122, 3, 127, 2, 1, 0, []),
  (165, .i2l, 1, 0, 0, 0, 0, []),
  (166, .ladd, 1, 0, 0, 0, 0, []),
  (167, .iconst 3, 1, 0, 0, 0, 3, []),
  (168, .aload_n 0, 1, 0, 0, 0, 0, []),
  (169, .bipush 30, 2, 0, 0, 0, 30, []),
  (171, .iload 5, 2, 0, 0, 0, 0, []),
  (173, .iadd, 1, 0, 0, 0, 0, []),
  (174, .invokevirtual 122, 3, 127, 2, 1, 0, []),
  (177, .imul, 1, 0, 0, 0, 0, []),
  (178, .i2l, 1, 0, 0, 0, 0, []),
  (179, .ladd, 1, 0, 0, 0, 0, []),
  (180, .iconst 5, 1, 0, 0, 0, 5, []),
  (181, .aload_n 0, 1, 0, 0, 0, 0, []),
  (182, .bipush 20, 2, 0, 0, 0, 20, []),
  (184, .iload 5, 2, 0, 0, 0, 0, []),
  (186, .iadd, 1, 0, 0, 0, 0, []),
  (187, .iconst 0, 1, 0, 0, 0, 0, []),
  (188, .invokevirtual 125, 3, 136, 3, 1, 0, []),
  (191, .imul, 1, 0, 0, 0, 0, []),
  (192, .i2l, 1, 0, 0, 0, 0, []),
  (193, .ladd, 1, 0, 0, 0, 0, []),
  (194, .bipush 7, 2, 0, 0, 0, 7, []),
  (196, .aload_n 0, 1, 0, 0, 0, 0, []),
  (197, .iload 5, 2, 0, 0, 0, 0, []),
  (199, .iconst 1, 1, 0, 0, 0, 1, []),
  (200, .invokevirtual 128, 3, 137, 3, 1, 0, []),
  (203, .imul, 1, 0, 0, 0, 0, []),
  (204, .i2l, 1, 0, 0, 0, 0, []),
  (205, .ladd, 1, 0, 0, 0, 0, []),
  (206, .bipush 11, 2, 0, 0, 0, 11, []),
  (208, .aload_n 0, 1, 0, 0, 0, 0, []),
  (209, .bipush 10, 2, 0, 0, 0, 10, []),
  (211, .iload 5, 2, 0, 0, 0, 0, []),
  (213, .iadd, 1, 0, 0, 0, 0, []),
  (214, .iconst 2, 1, 0, 0, 0, 2, []),
  (215, .invokevirtual 131, 3, 135, 3, 1, 0, []),
  (218, .imul, 1, 0, 0, 0, 0, []),
  (219, .i2l, 1, 0, 0, 0, 0, []),
  (220, .ladd, 1, 0, 0, 0, 0, []),
  (221, .lstore_n 1, 1, 0, 0, 0, 0, []),
  (222, .iinc 5 1, 3, 0, 0, 0, 1, []),
  (225, .goto (-110), 3, 71, 0, 0, 0, []),
  (228, .iconst 0, 1, 0, 0, 0, 0, []),
  (229, .istore 5, 2, 0, 0, 0, 0, []),
  (231, .iload 5, 2, 0, 0, 0, 0, []),
  (233, .iconst 5, 1, 0, 0, 0, 5, []),
  (234, .if_icmp .ge 93, 3, 203, 0, 0, 0, []),
  (237, .ldc2_w 114, 3, 6, 0, 0, 0, []),
  (240, .lload_n 1, 1, 0, 0, 0, 0, []),
  (241, .lmul, 1, 0, 0, 0, 0, []),
  (242, .aload_n 0, 1, 0, 0, 0, 0, []),
  (243, .iload 5, 2, 0, 0, 0, 0, []),
  (245, .iconst 0, 1, 0, 0, 0, 0, []),
  (246, .invokevirtual 134, 3, 128, 3, 1, 0, []),
  (249, .i2l, 1, 0, 0, 0, 0, []),
  (250, .ladd, 1, 0, 0, 0, 0, []),
  (251, .iconst 3, 1, 0, 0, 0, 3, []),
  (252, .aload_n 0, 1, 0, 0, 0, 0, []),
  (253, .iload 5, 2, 0, 0, 0, 0, []),
  (255, .iconst 2, 1, 0, 0, 0, 2, []),
  (256, .invokevirtual 134, 3, 128, 3, 1, 0, []),
  (259, .imul, 1, 0, 0, 0, 0, []),
  (260, .i2l, 1, 0, 0, 0, 0, []),
  (261, .ladd, 1, 0, 0, 0, 0, []),
  (262, .iconst 5, 1, 0, 0, 0, 5, []),
  (263, .aload_n 0, 1, 0, 0, 0, 0, []),
  (264, .iload 5, 2, 0, 0, 0, 0, []),
  (266, .invokevirtual 137, 3, 132, 2, 1, 0, []),
  (269, .imul, 1, 0, 0, 0, 0, []),
  (270, .i2l, 1, 0, 0, 0, 0, []),
  (271, .ladd, 1, 0, 0, 0, 0, []),
  (272, .bipush 7, 2, 0, 0, 0, 7, []),
  (274, .aload_n 0, 1, 0, 0, 0, 0, []),
  (275, .iload 5, 2, 0, 0, 0, 0, []),
  (277, .iconst 0, 1, 0, 0, 0, 0, []),
  (278, .invokevirtual 140, 3, 133, 3, 1, 0, []),
  (281, .imul, 1, 0, 0, 0, 0, []),
  (282, .i2l, 1, 0, 0, 0, 0, []),
  (283, .ladd, 1, 0, 0, 0, 0, []),
  (284, .bipush 11, 2, 0, 0, 0, 11, []),
  (286, .aload_n 0, 1, 0, 0, 0, 0, []),
  (287, .iload 5, 2, 0, 0, 0, 0, []),
  (289, .iconst 3, 1, 0, 0, 0, 3, []),
  (290, .invokevirtual 143, 3, 142, 3, 1, 0, []),
  (293, .imul, 1, 0, 0, 0, 0, []),
  (294, .i2l, 1, 0, 0, 0, 0, []),
  (295, .ladd, 1, 0, 0, 0, 0, []),
  (296, .bipush 13, 2, 0, 0, 0, 13, []),
  (298, .aload_n 0, 1, 0, 0, 0, 0, []),
  (299, .iload 5, 2, 0, 0, 0, 0, []),
  (301, .iconst 1, 1, 0, 0, 0, 1, []),
  (302, .invokevirtual 146, 3, 143, 3, 1, 0, []),
  (305, .imul, 1, 0, 0, 0, 0, []),
  (306, .i2l, 1, 0, 0, 0, 0, []),
  (307, .ladd, 1, 0, 0, 0, 0, []),
  (308, .bipush 17, 2, 0, 0, 0, 17, []),
  (310, .aload_n 0, 1, 0, 0, 0, 0, []),
  (311, .iload 5, 2, 0, 0, 0, 0, []),
  (313, .iconst (-1), 1, 0, 0, 0, -1, []),
  (314, .invokevirtual 149, 3, 134, 3, 1, 0, []),
  (317, .imul, 1, 0, 0, 0, 0, []),
  (318, .i2l, 1, 0, 0, 0, 0, []),
  (319, .ladd, 1, 0, 0, 0, 0, []),
  (320, .lstore_n 1, 1, 0, 0, 0, 0, []),
  (321, .iinc 5 1, 3, 0, 0, 0, 1, []),
  (324, .goto (-93), 3, 141, 0, 0, 0, []),
  (327, .iconst 0, 1, 0, 0, 0, 0, []),
  (328, .istore 5, 2, 0, 0, 0, 0, []),
  (330, .iload 5, 2, 0, 0, 0, 0, []),
  (332, .iconst 4, 1, 0, 0, 0, 4, []),
  (333, .if_icmp .ge 23, 3, 219, 0, 0, 0, []),
  (336, .ldc2_w 114, 3, 6, 0, 0, 0, []),
  (339, .lload_n 1, 1, 0, 0, 0, 0, []),
  (340, .lmul, 1, 0, 0, 0, 0, []),
  (341, .aload_n 0, 1, 0, 0, 0, 0, []),
  (342, .iload 5, 2, 0, 0, 0, 0, []),
  (344, .invokevirtual 152, 3, 148, 2, 1, 0, []),
  (347, .i2l, 1, 0, 0, 0, 0, []),
  (348, .ladd, 1, 0, 0, 0, 0, []),
  (349, .lstore_n 1, 1, 0, 0, 0, 0, []),
  (350, .iinc 5 1, 3, 0, 0, 0, 1, []),
  (353, .goto (-23), 3, 205, 0, 0, 0, []),
  (356, .ldc2_w 114, 3, 6, 0, 0, 0, []),
  (359, .lload_n 1, 1, 0, 0, 0, 0, []),
  (360, .lmul, 1, 0, 0, 0, 0, []),
  (361, .aload_n 0, 1, 0, 0, 0, 0, []),
  (362, .iconst 0, 1, 0, 0, 0, 0, []),
  (363, .bipush 8, 2, 0, 0, 0, 8, []),
  (365, .invokevirtual 116, 3, 122, 3, 1, 0, []),
  (368, .i2l, 1, 0, 0, 0, 0, []),
  (369, .ladd, 1, 0, 0, 0, 0, []),
  (370, .iconst 3, 1, 0, 0, 0, 3, []),
  (371, .aload_n 0, 1, 0, 0, 0, 0, []),
  (372, .iconst 0, 1, 0, 0, 0, 0, []),
  (373, .bipush 9, 2, 0, 0, 0, 9, []),
  (375, .invokevirtual 116, 3, 122, 3, 1, 0, []),
  (378, .imul, 1, 0, 0, 0, 0, []),
  (379, .i2l, 1, 0, 0, 0, 0, []),
  (380, .ladd, 1, 0, 0, 0, 0, []),
  (381, .iconst 5, 1, 0, 0, 0, 5, []),
  (382, .aload_n 0, 1, 0, 0, 0, 0, []),
  (383, .iconst 0, 1, 0, 0, 0, 0, []),
  (384, .invokevirtual 155, 3, 129, 2, 1, 0, []),
  (387, .imul, 1, 0, 0, 0, 0, []),
  (388, .i2l, 1, 0, 0, 0, 0, []),
  (389, .ladd, 1, 0, 0, 0, 0, []),
  (390, .bipush 7, 2, 0, 0, 0, 7, []),
  (392, .aload_n 0, 1, 0, 0, 0, 0, []),
  (393, .iconst (-1), 1, 0, 0, 0, -1, []),
  (394, .invokevirtual 158, 3, 130, 2, 1, 0, []),
  (397, .imul, 1, 0, 0, 0, 0, []),
  (398, .i2l, 1, 0, 0, 0, 0, []),
  (399, .ladd, 1, 0, 0, 0, 0, []),
  (400, .bipush 11, 2, 0, 0, 0, 11, []),
  (402, .aload_n 0, 1, 0, 0, 0, 0, []),
  (403, .invokevirtual 161, 3, 147, 1, 1, 0, []),
  (406, .imul, 1, 0, 0, 0, 0, []),
  (407, .i2l, 1, 0, 0, 0, 0, []),
  (408, .ladd, 1, 0, 0, 0, 0, []),
  (409, .bipush 13, 2, 0, 0, 0, 13, []),
  (411, .aload_n 0, 1, 0, 0, 0, 0, []),
  (412, .iconst 5, 1, 0, 0, 0, 5, []),
  (413, .iconst 3, 1, 0, 0, 0, 3, []),
  (414, .iconst (-1), 1, 0, 0, 0, -1, []),
  (415, .invokevirtual 164, 3, 144, 4, 1, 0, []),
  (418, .imul, 1, 0, 0, 0, 0, []),
  (419, .i2l, 1, 0, 0, 0, 0, []),
  (420, .ladd, 1, 0, 0, 0, 0, []),
  (421, .lreturn, 1, 0, 0, 0, 0, [])]
/-- yL_world -/
def mt_291 : List am_row := [
  (0, .aload_n 1, 1, 0, 0, 0, 0, []),
  (1, .iconst 0, 1, 0, 0, 0, 0, []),
  (2, .invokestatic 64, 3, 288, 2, 1, 0, []),
  (5, .istore 4, 2, 0, 0, 0, 0, []),
  (7, .aload_n 2, 1, 0, 0, 0, 0, []),
  (8, .iconst 2, 1, 0, 0, 0, 2, []),
  (9, .iload 4, 2, 0, 0, 0, 0, []),
  (11, .iconst 1, 1, 0, 0, 0, 1, []),
  (12, .iand, 1, 0, 0, 0, 0, []),
  (13, .iastore, 1, 0, 0, 0, 0, []),
  (14, .aload_n 2, 1, 0, 0, 0, 0, []),
  (15, .iconst 3, 1, 0, 0, 0, 3, []),
  (16, .iload 4, 2, 0, 0, 0, 0, []),
  (18, .iconst 1, 1, 0, 0, 0, 1, []),
  (19, .ishr, 1, 0, 0, 0, 0, []),
  (20, .bipush 10, 2, 0, 0, 0, 10, []),
  (22, .invokestatic 7, 3, 289, 2, 1, 0, []),
  (25, .iastore, 1, 0, 0, 0, 0, []),
  (26, .aload_n 0, 1, 0, 0, 0, 0, []),
  (27, .iconst 0, 1, 0, 0, 0, 0, []),
  (28, .bipush 8, 2, 0, 0, 0, 8, []),
  (30, .aload_n 2, 1, 0, 0, 0, 0, []),
  (31, .iconst 2, 1, 0, 0, 0, 2, []),
  (32, .iaload, 1, 0, 0, 0, 0, []),
  (33, .invokevirtual 84, 3, 121, 4, 1, 0, []),
  (36, .pop, 1, 0, 0, 0, 0, []),
  (37, .aload_n 0, 1, 0, 0, 0, 0, []),
  (38, .iconst 0, 1, 0, 0, 0, 0, []),
  (39, .bipush 9, 2, 0, 0, 0, 9, []),
  (41, .aload_n 2, 1, 0, 0, 0, 0, []),
  (42, .iconst 3, 1, 0, 0, 0, 3, []),
  (43, .iaload, 1, 0, 0, 0, 0, []),
  (44, .invokevirtual 84, 3, 121, 4, 1, 0, []),
  (47, .pop, 1, 0, 0, 0, 0, []),
  (48, .aload_n 2, 1, 0, 0, 0, 0, []),
  (49, .iconst 0, 1, 0, 0, 0, 0, []),
  (50, .iload 4, 2, 0, 0, 0, 0, []),
  (52, .bipush 48, 2, 0, 0, 0, 48, []),
  (54, .iand, 1, 0, 0, 0, 0, []),
  (55, .ifCond .ne 16, 3, 46, 0, 0, 0, []),
  (58, .iload 4, 2, 0, 0, 0, 0, []),
  (60, .bipush 6, 2, 0, 0, 0, 6, []),
  (62, .ishr, 1, 0, 0, 0, 0, []),
  (63, .bipush 13, 2, 0, 0, 0, 13, []),
  (65, .invokestatic 7, 3, 289, 2, 1, 0, []),
  (68, .goto 15, 3, 53, 0, 0, 0, []),
  (71, .iconst 1, 1, 0, 0, 0, 1, []),
  (72, .iload 4, 2, 0, 0, 0, 0, []),
  (74, .bipush 6, 2, 0, 0, 0, 6, []),
  (76, .ishr, 1, 0, 0, 0, 0, []),
  (77, .bipush 7, 2, 0, 0, 0, 7, []),
  (79, .invokestatic 7, 3, 289, 2, 1, 0, []),
  (82, .iadd, 1, 0, 0, 0, 0, []),
  (83, .iastore, 1, 0, 0, 0, 0, []),
  (84, .iconst 0, 1, 0, 0, 0, 0, []),
  (85, .istore 5, 2, 0, 0, 0, 0, []),
  (87, .iload 5, 2, 0, 0, 0, 0, []),
  (89, .aload_n 2, 1, 0, 0, 0, 0, []),
  (90, .iconst 0, 1, 0, 0, 0, 0, []),
  (91, .iaload, 1, 0, 0, 0, 0, []),
  (92, .if_icmp .ge 147, 3, 144, 0, 0, 0, []),
  (95, .aload_n 1, 1, 0, 0, 0, 0, []),
  (96, .iconst 1, 1, 0, 0, 0, 1, []),
  (97, .iload 5, 2, 0, 0, 0, 0, []),
  (99, .iadd, 1, 0, 0, 0, 0, []),
  (100, .invokestatic 64, 3, 288, 2, 1, 0, []),
  (103, .istore 6, 2, 0, 0, 0, 0, []),
  (105, .iconst 1, 1, 0, 0, 0, 1, []),
  (106, .iload 6, 2, 0, 0, 0, 0, []),
  (108, .iload 4, 2, 0, 0, 0, 0, []),
  (110, .bipush 10, 2, 0, 0, 0, 10, []),
  (112, .ishr, 1, 0, 0, 0, 0, []),
  (113, .iconst 1, 1, 0, 0, 0, 1, []),
  (114, .iand, 1, 0, 0, 0, 0, []),
  (115, .ifCond .ne 8, 3, 77, 0, 0, 0, []),
  (118, .bipush 24, 2, 0, 0, 0, 24, []),
  (120, .goto 5, 3, 78, 0, 0, 0, []),
  (123, .bipush 8, 2, 0, 0, 0, 8, []),
  (125, .invokestatic 7, 3, 289, 2, 1, 0, []),
  (128, .iadd, 1, 0, 0, 0, 0, []),
  (129, .istore 7, 2, 0, 0, 0, 0, []),
  (131, .iload 6, 2, 0, 0, 0, 0, []),
  (133, .iconst 5, 1, 0, 0, 0, 5, []),
  (134, .ishr, 1, 0, 0, 0, 0, []),
  (135, .iload 4, 2, 0, 0, 0, 0, []),
  (137, .bipush 11, 2, 0, 0, 0, 11, []),
  (139, .ishr, 1, 0, 0, 0, 0, []),
  (140, .iconst 1, 1, 0, 0, 0, 1, []),
  (141, .iand, 1, 0, 0, 0, 0, []),
  (142, .ifCond .ne 7, 3, 92, 0, 0, 0, []),
  (145, .iconst 3, 1, 0, 0, 0, 3, []),
  (146, .goto 5, 3, 93, 0, 0, 0, []),
  (149, .bipush 8, 2, 0, 0, 0, 8, []),
  (151, .invokestatic 7, 3, 289, 2, 1, 0, []),
  (154, .istore 8, 2, 0, 0, 0, 0, []),
  (156, .iload 6, 2, 0, 0, 0, 0, []),
  (158, .bipush 9, 2, 0, 0, 0, 9, []),
  (160, .ishr, 1, 0, 0, 0, 0, []),
  (161, .iconst 1, 1, 0, 0, 0, 1, []),
  (162, .iand, 1, 0, 0, 0, 0, []),
  (163, .ifCond .ne 7, 3, 103, 0, 0, 0, []),
  (166, .iconst 1, 1, 0, 0, 0, 1, []),
  (167, .goto 15, 3, 110, 0, 0, 0, []),
  (170, .iconst 1, 1, 0, 0, 0, 1, []),
  (171, .iload 6, 2, 0, 0, 0, 0, []),
  (173, .bipush 10, 2, 0, 0, 0, 10, []),
  (175, .ishr, 1, 0, 0, 0, 0, []),
  (176, .bipush 9, 2, 0, 0, 0, 9, []),
  (178, .invokestatic 7, 3, 289, 2, 1, 0, []),
  (181, .iadd, 1, 0, 0, 0, 0, []),
  (182, .istore 9, 2, 0, 0, 0, 0, []),
  (184, .aload_n 2, 1, 0, 0, 0, 0, []),
  (185, .iconst 5, 1, 0, 0, 0, 5, []),
  (186, .iload 5, 2, 0, 0, 0, 0, []),
  (188, .iadd, 1, 0, 0, 0, 0, []),
  (189, .iload 7, 2, 0, 0, 0, 0, []),
  (191, .bipush 100, 2, 0, 0, 0, 100, []),
  (193, .iload 8, 2, 0, 0, 0, 0, []),
  (195, .imul, 1, 0, 0, 0, 0, []),
  (196, .iadd, 1, 0, 0, 0, 0, []),
  (197, .sipush 1000, 3, 0, 0, 0, 1000, []),
  (200, .iload 9, 2, 0, 0, 0, 0, []),
  (202, .imul, 1, 0, 0, 0, 0, []),
  (203, .iadd, 1, 0, 0, 0, 0, []),
  (204, .iastore, 1, 0, 0, 0, 0, []),
  (205, .aload_n 2, 1, 0, 0, 0, 0, []),
  (206, .bipush 22, 2, 0, 0, 0, 22, []),
  (208, .iload 5, 2, 0, 0, 0, 0, []),
  (210, .iadd, 1, 0, 0, 0, 0, []),
  (211, .bipush (-2), 2, 0, 0, 0, -2, []),
  (213, .iastore, 1, 0, 0, 0, 0, []),
  (214, .aload_n 0, 1, 0, 0, 0, 0, []),
  (215, .iload 7, 2, 0, 0, 0, 0, []),
  (217, .iload 8, 2, 0, 0, 0, 0, []),
  (219, .invokevirtual 90, 3, 118, 3, 1, 0, []),
  (222, .pop, 1, 0, 0, 0, 0, []),
  (223, .aload_n 0, 1, 0, 0, 0, 0, []),
  (224, .iload 5, 2, 0, 0, 0, 0, []),
  (226, .iconst 2, 1, 0, 0, 0, 2, []),
  (227, .iload 9, 2, 0, 0, 0, 0, []),
  (229, .invokevirtual 84, 3, 121, 4, 1, 0, []),
  (232, .pop, 1, 0, 0, 0, 0, []),
  (233, .iinc 5 1, 3, 0, 0, 0, 1, []),
  (236, .goto (-149), 3, 56, 0, 0, 0, []),
  (239, .aload_n 2, 1, 0, 0, 0, 0, []),
  (240, .iconst 1, 1, 0, 0, 0, 1, []),
  (241, .iload 4, 2, 0, 0, 0, 0, []),
  (243, .sipush 192, 3, 0, 0, 0, 192, []),
  (246, .iand, 1, 0, 0, 0, 0, []),
  (247, .ifCond .ne 16, 3, 156, 0, 0, 0, []),
  (250, .iload 4, 2, 0, 0, 0, 0, []),
  (252, .bipush 12, 2, 0, 0, 0, 12, []),
  (254, .ishr, 1, 0, 0, 0, 0, []),
  (255, .bipush 6, 2, 0, 0, 0, 6, []),
  (257, .invokestatic 7, 3, 289, 2, 1, 0, []),
  (260, .goto 14, 3, 163, 0, 0, 0, []),
  (263, .iconst 1, 1, 0, 0, 0, 1, []),
  (264, .iload 4, 2, 0, 0, 0, 0, []),
  (266, .bipush 12, 2, 0, 0, 0, 12, []),
  (268, .ishr, 1, 0, 0, 0, 0, []),
  (269, .iconst 4, 1, 0, 0, 0, 4, []),
  (270, .invokestatic 7, 3, 289, 2, 1, 0, []),
  (273, .iadd, 1, 0, 0, 0, 0, []),
  (274, .iastore, 1, 0, 0, 0, 0, []),
  (275, .iconst 0, 1, 0, 0, 0, 0, []),
  (276, .istore 5, 2, 0, 0, 0, 0, []),
  (278, .iload 5, 2, 0, 0, 0, 0, []),
  (280, .aload_n 2, 1, 0, 0, 0, 0, []),
  (281, .iconst 1, 1, 0, 0, 0, 1, []),
  (282, .iaload, 1, 0, 0, 0, 0, []),
  (283, .if_icmp .ge 212, 3, 286, 0, 0, 0, []),
  (286, .aload_n 1, 1, 0, 0, 0, 0, []),
  (287, .bipush 13, 2, 0, 0, 0, 13, []),
  (289, .iload 5, 2, 0, 0, 0, 0, []),
  (291, .iadd, 1, 0, 0, 0, 0, []),
  (292, .invokestatic 64, 3, 288, 2, 1, 0, []),
  (295, .istore 6, 2, 0, 0, 0, 0, []),
  (297, .iconst 1, 1, 0, 0, 0, 1, []),
  (298, .iload 6, 2, 0, 0, 0, 0, []),
  (300, .bipush 18, 2, 0, 0, 0, 18, []),
  (302, .invokestatic 7, 3, 289, 2, 1, 0, []),
  (305, .iadd, 1, 0, 0, 0, 0, []),
  (306, .istore 7, 2, 0, 0, 0, 0, []),
  (308, .iload 6, 2, 0, 0, 0, 0, []),
  (310, .iconst 5, 1, 0, 0, 0, 5, []),
  (311, .ishr, 1, 0, 0, 0, 0, []),
  (312, .iload 4, 2, 0, 0, 0, 0, []),
  (314, .bipush 11, 2, 0, 0, 0, 11, []),
  (316, .ishr, 1, 0, 0, 0, 0, []),
  (317, .iconst 1, 1, 0, 0, 0, 1, []),
  (318, .iand, 1, 0, 0, 0, 0, []),
  (319, .ifCond .ne 7, 3, 194, 0, 0, 0, []),
  (322, .iconst 3, 1, 0, 0, 0, 3, []),
  (323, .goto 5, 3, 195, 0, 0, 0, []),
  (326, .bipush 8, 2, 0, 0, 0, 8, []),
  (328, .invokestatic 7, 3, 289, 2, 1, 0, []),
  (331, .istore 8, 2, 0, 0, 0, 0, []),
  (333, .iload 6, 2, 0, 0, 0, 0, []),
  (335, .bipush 8, 2, 0, 0, 0, 8, []),
  (337, .ishr, 1, 0, 0, 0, 0, []),
  (338, .bipush 10, 2, 0, 0, 0, 10, []),
  (340, .invokestatic 7, 3, 289, 2, 1, 0, []),
  (343, .istore 9, 2, 0, 0, 0, 0, []),
  (345, .iload 6, 2, 0, 0, 0, 0, []),
  (347, .bipush 12, 2, 0, 0, 0, 12, []),
  (349, .ishr, 1, 0, 0, 0, 0, []),
  (350, .iconst 1, 1, 0, 0, 0, 1, []),
  (351, .iand, 1, 0, 0, 0, 0, []),
  (352, .ifCond .ne 7, 3, 211, 0, 0, 0, []),
  (355, .iconst 0, 1, 0, 0, 0, 0, []),
  (356, .goto 13, 3, 216, 0, 0, 0, []),
  (359, .iload 6, 2, 0, 0, 0, 0, []),
  (361, .bipush 13, 2, 0, 0, 0, 13, []),
  (363, .ishr, 1, 0, 0, 0, 0, []),
  (364, .bipush 25, 2, 0, 0, 0, 25, []),
  (366, .invokestatic 7, 3, 289, 2, 1, 0, []),
  (369, .istore 10, 2, 0, 0, 0, 0, []),
  (371, .iload 6, 2, 0, 0, 0, 0, []),
  (373, .bipush 18, 2, 0, 0, 0, 18, []),
  (375, .ishr, 1, 0, 0, 0, 0, []),
  (376, .iconst 1, 1, 0, 0, 0, 1, []),
  (377, .iand, 1, 0, 0, 0, 0, []),
  (378, .ifCond .ne 23, 3, 233, 0, 0, 0, []),
  (381, .bipush 24, 2, 0, 0, 0, 24, []),
  (383, .iload 10, 2, 0, 0, 0, 0, []),
  (385, .iload 6, 2, 0, 0, 0, 0, []),
  (387, .bipush 19, 2, 0, 0, 0, 19, []),
  (389, .ishr, 1, 0, 0, 0, 0, []),
  (390, .iconst 5, 1, 0, 0, 0, 5, []),
  (391, .invokestatic 7, 3, 289, 2, 1, 0, []),
  (394, .iadd, 1, 0, 0, 0, 0, []),
  (395, .invokestatic 93, 3, 1001, 2, 1, 0, []),
  (398, .goto 13, 3, 238, 0, 0, 0, []),
  (401, .iload 6, 2, 0, 0, 0, 0, []),
  (403, .bipush 19, 2, 0, 0, 0, 19, []),
  (405, .ishr, 1, 0, 0, 0, 0, []),
  (406, .bipush 25, 2, 0, 0, 0, 25, []),
  (408, .invokestatic 7, 3, 289, 2, 1, 0, []),
  (411, .istore 11, 2, 0, 0, 0, 0, []),
  (413, .aload_n 2, 1, 0, 0, 0, 0, []),
  (414, .bipush 17, 2, 0, 0, 0, 17, []),
  (416, .iload 5, 2, 0, 0, 0, 0, []),
  (418, .iadd, 1, 0, 0, 0, 0, []),
  (419, .iload 7, 2, 0, 0, 0, 0, []),
  (421, .bipush 100, 2, 0, 0, 0, 100, []),
  (423, .iload 8, 2, 0, 0, 0, 0, []),
  (425, .imul, 1, 0, 0, 0, 0, []),
  (426, .iadd, 1, 0, 0, 0, 0, []),
  (427, .sipush 1000, 3, 0, 0, 0, 1000, []),
  (430, .iload 9, 2, 0, 0, 0, 0, []),
  (432, .imul, 1, 0, 0, 0, 0, []),
  (433, .iadd, 1, 0, 0, 0, 0, []),
  (434, .sipush 10000, 3, 0, 0, 0, 10000, []),
  (437, .iload 10, 2, 0, 0, 0, 0, []),
  (439, .imul, 1, 0, 0, 0, 0, []),
  (440, .iadd, 1, 0, 0, 0, 0, []),
  (441, .ldc 98, 2, 0, 0, 0, 1000000, []),
  (443, .iload 11, 2, 0, 0, 0, 0, []),
  (445, .imul, 1, 0, 0, 0, 0, []),
  (446, .iadd, 1, 0, 0, 0, 0, []),
  (447, .iastore, 1, 0, 0, 0, 0, []),
  (448, .aload_n 0, 1, 0, 0, 0, 0, []),
  (449, .iload 7, 2, 0, 0, 0, 0, []),
  (451, .iload 8, 2, 0, 0, 0, 0, []),
  (453, .invokevirtual 99, 3, 120, 3, 1, 0, []),
  (456, .pop, 1, 0, 0, 0, 0, []),
  (457, .aload_n 0, 1, 0, 0, 0, 0, []),
  (458, .iload 5, 2, 0, 0, 0, 0, []),
  (460, .iconst 5, 1, 0, 0, 0, 5, []),
  (461, .iload 9, 2, 0, 0, 0, 0, []),
  (463, .invokevirtual 84, 3, 121, 4, 1, 0, []),
  (466, .pop, 1, 0, 0, 0, 0, []),
  (467, .aload_n 0, 1, 0, 0, 0, 0, []),
  (468, .iload 5, 2, 0, 0, 0, 0, []),
  (470, .bipush 6, 2, 0, 0, 0, 6, []),
  (472, .iload 10, 2, 0, 0, 0, 0, []),
  (474, .invokevirtual 84, 3, 121, 4, 1, 0, []),
  (477, .pop, 1, 0, 0, 0, 0, []),
  (478, .aload_n 0, 1, 0, 0, 0, 0, []),
  (479, .iload 5, 2, 0, 0, 0, 0, []),
  (481, .bipush 7, 2, 0, 0, 0, 7, []),
  (483, .iload 11, 2, 0, 0, 0, 0, []),
  (485, .invokevirtual 84, 3, 121, 4, 1, 0, []),
  (488, .pop, 1, 0, 0, 0, 0, []),
  (489, .iinc 5 1, 3, 0, 0, 0, 1, []),
  (492, .goto (-214), 3, 166, 0, 0, 0, []),
  (495, .iconst 0, 1, 0, 0, 0, 0, []),
  (496, .istore 5, 2, 0, 0, 0, 0, []),
  (498, .iload 5, 2, 0, 0, 0, 0, []),
  (500, .aload_n 3, 1, 0, 0, 0, 0, []),
  (501, .invokevirtual 78, 3, 276, 1, 1, 0, []),
  (504, .if_icmp .ge 20, 3, 300, 0, 0, 0, []),
  (507, .aload_n 0, 1, 0, 0, 0, 0, []),
  (508, .aload_n 3, 1, 0, 0, 0, 0, []),
  (509, .iload 5, 2, 0, 0, 0, 0, []),
  (511, .invokevirtual 24, 3, 284, 2, 1, 0, []),
  (514, .invokevirtual 102, 3, 123, 2, 1, 0, []),
  (517, .pop, 1, 0, 0, 0, 0, []),
  (518, .iinc 5 1, 3, 0, 0, 0, 1, []),
  (521, .goto (-23), 3, 288, 0, 0, 0, []),
  (524, .aload_n 3, 1, 0, 0, 0, 0, []),
  (525, .invokevirtual 78, 3, 276, 1, 1, 0, []),
  (528, .ifCond .le 8, 3, 306, 0, 0, 0, []),
  (531, .aload_n 0, 1, 0, 0, 0, 0, []),
  (532, .invokevirtual 106, 3, 124, 1, 1, 0, []),
  (535, .pop, 1, 0, 0, 0, 0, []),
  (536, .return_, 1, 0, 0, 0, 0, [])]
abbrev am_tabs_0 : List (List am_row) := [mt_0, mt_1, mt_2, mt_3, mt_4, mt_5, mt_6, mt_7, mt_8, mt_9, mt_10, mt_11, mt_12, mt_13, mt_14, mt_15, mt_16, mt_17, mt_18, mt_19, mt_20, mt_21, mt_22, mt_23, mt_24, mt_25, mt_26, mt_27, mt_28, mt_29, mt_30, mt_31, mt_32, mt_33, mt_34, mt_35, mt_36, mt_37, mt_38, mt_39]
abbrev am_tabs_1 : List (List am_row) := [mt_40, mt_41, mt_42, mt_43, mt_44, mt_45, mt_46, mt_47, mt_48, mt_49, mt_50, mt_51, mt_52, mt_53, mt_54, mt_55, mt_56, mt_57, mt_58, mt_59, mt_60, mt_61, mt_62, mt_63, mt_64, mt_65, mt_66, mt_67, mt_68, mt_69, mt_70, mt_71, mt_72, mt_73, mt_74, mt_75, mt_76, mt_77, mt_78, mt_79]
abbrev am_tabs_2 : List (List am_row) := [mt_80, mt_81, mt_82, mt_83, mt_84, mt_85, mt_86, mt_87, mt_88, mt_89, mt_90, mt_91, mt_92, mt_93, mt_94, mt_95, mt_96, mt_97, mt_98, mt_99, mt_100, mt_101, mt_102, mt_103, mt_104, mt_105, mt_106, mt_107, mt_108, mt_109, mt_110, mt_111, mt_112, mt_113, mt_114, mt_115, mt_116, mt_117, mt_118, mt_119]
abbrev am_tabs_3 : List (List am_row) := [mt_120, mt_121, mt_122, mt_123, mt_124, mt_125, mt_126, mt_127, mt_128, mt_129, mt_130, mt_131, mt_132, mt_133, mt_134, mt_135, mt_136, mt_137, mt_138, mt_139, mt_140, mt_141, mt_142, mt_143, mt_144, mt_145, mt_146, mt_147, mt_148, mt_149, mt_150, mt_151, mt_152, mt_153, mt_154, mt_155, mt_156, mt_157, mt_158, mt_159]
abbrev am_tabs_4 : List (List am_row) := [mt_160, mt_161, mt_162, mt_163, mt_164, mt_165, mt_166, mt_167, mt_168, mt_169, mt_170, mt_171, mt_172, mt_173, mt_174, mt_175, mt_176, mt_177, mt_178, mt_179, mt_180, mt_181, mt_182, mt_183, mt_184, mt_185, mt_186, mt_187, mt_188, mt_189, mt_190, mt_191, mt_192, mt_193, mt_194, mt_195, mt_196, mt_197, mt_198, mt_199]
abbrev am_tabs_5 : List (List am_row) := [mt_200, mt_201, mt_202, mt_203, mt_204, mt_205, mt_206, mt_207, mt_208, mt_209, mt_210, mt_211, mt_212, mt_213, mt_214, mt_215, mt_216, mt_217, mt_218, mt_219, mt_220, mt_221, mt_222, mt_223, mt_224, mt_225, mt_226, mt_227, mt_228, mt_229, mt_230, mt_231, mt_232, mt_233, mt_234, mt_235, mt_236, mt_237, mt_238, mt_239]
abbrev am_tabs_6 : List (List am_row) := [mt_240, mt_241, mt_242, mt_243, mt_244, mt_245, mt_246, mt_247, mt_248, mt_249, mt_250, mt_251, mt_252, mt_253, mt_254, mt_255, mt_256, mt_257, mt_258, mt_259, mt_260, mt_261, mt_262, mt_263, mt_264, mt_265, mt_266, mt_267, mt_268, mt_269, mt_270, mt_271, mt_272, mt_273, mt_274, mt_275, mt_276, mt_277, mt_278, mt_279]
abbrev am_tabs_7 : List (List am_row) := [mt_280, mt_281, mt_282, mt_283, mt_284, mt_285, mt_286, mt_287, mt_288, mt_289, mt_290, mt_291]
abbrev am_tabs : List (List am_row) := am_tabs_0 ++ am_tabs_1 ++ am_tabs_2 ++ am_tabs_3 ++ am_tabs_4 ++ am_tabs_5 ++ am_tabs_6 ++ am_tabs_7
/-- the method's name, its class's words, maxLocals, return type, static -/
abbrev am_ms_0 : List (MethodName × ByteArray × Nat × Option FieldType × Bool × Nat × Nat) := [
  (yX0_hasDoor, cX0_hasDoor, 2, (Option.some FieldType.boolean), false, 1, 2),
  (yX0_hasChild, cX0_hasChild, 2, (Option.some FieldType.boolean), false, 1, 2),
  (yX0_has, cX0_has, 3, (Option.some FieldType.boolean), false, 2, 2),
  (yX0_fits, cX0_fits, 3, (Option.some FieldType.boolean), false, 2, 2),
  (yX0_get, cX0_get, 3, (Option.some FieldType.int), false, 2, 2),
  (yX0_set, cX0_set, 4, (Option.none : Option FieldType), false, 3, 2),
  (yX0_addDoor, cX0_addDoor, 4, (Option.some FieldType.boolean), false, 3, 2),
  (yX0_addChild, cX0_addChild, 3, (Option.some FieldType.boolean), false, 2, 2),
  (yX0_isAway, cX0_isAway, 4, (Option.some FieldType.boolean), false, 2, 2),
  (yX0_late, cX0_late, 5, (Option.some FieldType.int), false, 2, 2),
  (yX0_doorsAway, cX0_doorsAway, 4, (Option.some FieldType.int), false, 1, 2),
  (yX0_holdsOutTill, cX0_holdsOutTill, 3, (Option.some FieldType.int), false, 1, 2),
  (yX1_keepChange, cX1_keepChange, 6, (Option.none : Option FieldType), false, 4, 8),
  (yX1_takeBack, cX1_takeBack, 3, (Option.some FieldType.boolean), false, 1, 8),
  (yL_some, cL_some, 3, (Option.some FieldType.int), true, 2, 0),
  (yX2_opener, cX2_opener, 2, (Option.some FieldType.int), false, 1, 6),
  (yX2_dayPasses, cX2_dayPasses, 1, (Option.some FieldType.boolean), false, 0, 6),
  (yX2_lateFor, cX2_lateFor, 2, (Option.some FieldType.int), false, 1, 6),
  (yX2_openDoor, cX2_openDoor, 4, (Option.none : Option FieldType), false, 3, 6),
  (yX2_closedBehind, cX2_closedBehind, 3, (Option.some FieldType.int), false, 0, 6),
  (yX2_keepImage, cX2_keepImage, 1, (Option.none : Option FieldType), false, 0, 6),
  (yX2_layBack, cX2_layBack, 1, (Option.some FieldType.boolean), false, 0, 6),
  (yX3_isTooWide, cX3_isTooWide, 1, (Option.some FieldType.boolean), false, 0, 3),
  (yX3_owner, cX3_owner, 2, (Option.some FieldType.int), false, 1, 3),
  (yX3_findOut, cX3_findOut, 3, (Option.none : Option FieldType), false, 0, 3),
  (yX3_howMany, cX3_howMany, 3, (Option.some FieldType.int), false, 0, 3),
  (yX3_giveAllToFirst, cX3_giveAllToFirst, 3, (Option.none : Option FieldType), false, 0, 3),
  (yX3_weigh, cX3_weigh, 8, (Option.none : Option FieldType), false, 0, 3),
  (yX3_goOn, cX3_goOn, 3, (Option.none : Option FieldType), false, 0, 3),
  (yX3_handOver, cX3_handOver, 5, (Option.none : Option FieldType), false, 2, 3),
  (yX4_freshen, cX4_freshen, 3, (Option.none : Option FieldType), false, 0, 4),
  (yX4_orderDoors, cX4_orderDoors, 4, (Option.none : Option FieldType), false, 0, 4),
  (yX4_orderChildren, cX4_orderChildren, 4, (Option.none : Option FieldType), false, 0, 4),
  (yX4_giveBy, cX4_giveBy, 5, (Option.none : Option FieldType), false, 1, 4),
  (yX4_giveOffered, cX4_giveOffered, 5, (Option.some FieldType.int), false, 3, 4),
  (yX4_chosen, cX4_chosen, 6, (Option.some FieldType.int), false, 3, 4),
  (yX4_mostWilling, cX4_mostWilling, 5, (Option.some FieldType.int), false, 2, 4),
  (yX4_will, cX4_will, 4, (Option.some FieldType.int), false, 3, 4),
  (yX4_owner, cX4_owner, 3, (Option.some FieldType.int), false, 2, 4),
  (yX4_sumOf, cX4_sumOf, 3, (Option.some FieldType.int), false, 2, 4)]
abbrev am_ms_1 : List (MethodName × ByteArray × Nat × Option FieldType × Bool × Nat × Nat) := [
  (yX4_unfairBy, cX4_unfairBy, 2, (Option.some FieldType.int), false, 1, 4),
  (yX4_triedUnfair, cX4_triedUnfair, 1, (Option.some FieldType.int), false, 0, 4),
  (yX4_triedSum, cX4_triedSum, 2, (Option.some FieldType.int), false, 1, 4),
  (yX4_unfairOf, cX4_unfairOf, 5, (Option.some FieldType.int), false, 1, 4),
  (yX4_togetherBy, cX4_togetherBy, 4, (Option.some FieldType.int), false, 1, 4),
  (yX4_envyBy, cX4_envyBy, 5, (Option.some FieldType.int), false, 1, 4),
  (yX4_worthTo, cX4_worthTo, 6, (Option.some FieldType.int), false, 3, 4),
  (yX4_leastUnfairRule, cX4_leastUnfairRule, 4, (Option.some FieldType.int), false, 0, 4),
  (yX4_firstSwapBy, cX4_firstSwapBy, 2, (Option.some FieldType.int), false, 1, 4),
  (yX4_firstSwap, cX4_firstSwap, 3, (Option.some FieldType.int), false, 0, 4),
  (yX4_pleasesBoth, cX4_pleasesBoth, 5, (Option.some FieldType.boolean), false, 2, 4),
  (yX4_swapAll, cX4_swapAll, 5, (Option.some FieldType.int), false, 1, 4),
  (yX4_sumTried, cX4_sumTried, 3, (Option.none : Option FieldType), false, 0, 4),
  (yX4_divideBig, cX4_divideBig, 6, (Option.none : Option FieldType), false, 1, 4),
  (yX4_neverEaten, cX4_neverEaten, 5, (Option.some FieldType.int), false, 2, 4),
  (yX4_daysLate, cX4_daysLate, 5, (Option.some FieldType.int), false, 2, 4),
  (yX4_ownAfter, cX4_ownAfter, 6, (Option.some FieldType.int), false, 3, 4),
  (yX4_takeMine, cX4_takeMine, 4, (Option.none : Option FieldType), false, 2, 4),
  (yX4_gathered, cX4_gathered, 8, (Option.some FieldType.int), false, 2, 4),
  (yX4_bestGathering, cX4_bestGathering, 6, (Option.some FieldType.int), false, 1, 4),
  (yX4_giveTwice, cX4_giveTwice, 5, (Option.none : Option FieldType), false, 2, 4),
  (yX4_bestPair, cX4_bestPair, 7, (Option.some FieldType.int), false, 1, 4),
  (yX4_gainOf, cX4_gainOf, 4, (Option.some FieldType.int), false, 3, 4),
  (yX4_drawDecembers, cX4_drawDecembers, 7, (Option.some FieldType.int), false, 3, 4),
  (yX4_drawOne, cX4_drawOne, 5, (Option.some FieldType.int), false, 1, 4),
  (yX4_hasMost, cX4_hasMost, 3, (Option.some FieldType.boolean), false, 1, 4),
  (yX5_takeLetter, cX5_takeLetter, 2, (Option.some FieldType.boolean), false, 1, 9),
  (yX5_becomeLaw, cX5_becomeLaw, 2, (Option.some FieldType.int), false, 0, 9),
  (yX5_stands, cX5_stands, 1, (Option.some FieldType.boolean), false, 0, 9),
  (yX5_readLines, cX5_readLines, 2, (Option.some FieldType.boolean), false, 0, 9),
  (yX5_readLine, cX5_readLine, 1, (Option.some FieldType.boolean), false, 0, 9),
  (yX5_readLevel, cX5_readLevel, 7, (Option.some FieldType.boolean), false, 2, 9),
  (yX5_signsOf, cX5_signsOf, 1, (Option.some (FieldType.object "java/lang/String")), true, 1, 9),
  (yX5_readOperand, cX5_readOperand, 5, (Option.some FieldType.boolean), false, 1, 9),
  (yX5_readNumber, cX5_readNumber, 3, (Option.none : Option FieldType), false, 0, 9),
  (yX5_isDigitNext, cX5_isDigitNext, 1, (Option.some FieldType.boolean), false, 0, 9),
  (yX5_pass, cX5_pass, 2, (Option.some FieldType.int), false, 1, 9),
  (yX5_draftStep, cX5_draftStep, 2, (Option.none : Option FieldType), false, 1, 9),
  (yX5_workOut, cX5_workOut, 5, (Option.some FieldType.int), false, 1, 9),
  (yX5_takeStep, cX5_takeStep, 5, (Option.none : Option FieldType), false, 2, 9)]
abbrev am_ms_2 : List (MethodName × ByteArray × Nat × Option FieldType × Bool × Nat × Nat) := [
  (yX5_joined, cX5_joined, 3, (Option.some FieldType.int), true, 3, 9),
  (yX5_push, cX5_push, 2, (Option.none : Option FieldType), false, 1, 9),
  (yX5_pop, cX5_pop, 1, (Option.some FieldType.int), false, 0, 9),
  (yX6_isKind, cX6_isKind, 2, (Option.some FieldType.boolean), false, 1, 10),
  (yL_some, cL_some, 3, (Option.some FieldType.int), true, 2, 0),
  (yX6_addBody, cX6_addBody, 2, (Option.some FieldType.boolean), false, 1, 10),
  (yL_some, cL_some, 3, (Option.some FieldType.int), true, 2, 0),
  (yL_some, cL_some, 3, (Option.some FieldType.int), true, 2, 0),
  (yL_some, cL_some, 3, (Option.some FieldType.int), true, 2, 0),
  (yL_some, cL_some, 3, (Option.some FieldType.int), true, 2, 0),
  (yL_some, cL_some, 3, (Option.some FieldType.int), true, 2, 0),
  (yL_some, cL_some, 3, (Option.some FieldType.int), true, 2, 0),
  (yL_some, cL_some, 3, (Option.some FieldType.int), true, 2, 0),
  (yL_some, cL_some, 3, (Option.some FieldType.int), true, 2, 0),
  (yL_some, cL_some, 3, (Option.some FieldType.int), true, 2, 0),
  (yL_some, cL_some, 3, (Option.some FieldType.int), true, 2, 0),
  (yL_some, cL_some, 3, (Option.some FieldType.int), true, 2, 0),
  (yL_some, cL_some, 3, (Option.some FieldType.int), true, 2, 0),
  (yX7_holdRow, cX7_holdRow, 3, (Option.none : Option FieldType), false, 2, 11),
  (yX7_refusesRow, cX7_refusesRow, 1, (Option.some FieldType.int), false, 0, 11),
  (yX7_refusesBytes, cX7_refusesBytes, 2, (Option.some FieldType.int), false, 0, 11),
  (yX7_hasPlace, cX7_hasPlace, 2, (Option.some FieldType.boolean), false, 1, 11),
  (yL_some, cL_some, 3, (Option.some FieldType.int), true, 2, 0),
  (yX7_at, cX7_at, 2, (Option.some FieldType.long), false, 1, 11),
  (yX7_putIn, cX7_putIn, 4, (Option.some FieldType.boolean), false, 2, 11),
  (yX7_lowest, cX7_lowest, 3, (Option.some FieldType.long), false, 1, 11),
  (yL_some, cL_some, 3, (Option.some FieldType.int), true, 2, 0),
  (yX8_earlyOnes, cX8_earlyOnes, 6, (Option.some FieldType.int), false, 2, 5),
  (yX8_couldHaveBeen, cX8_couldHaveBeen, 7, (Option.some FieldType.int), false, 3, 5),
  (yX8_hasReason, cX8_hasReason, 6, (Option.some FieldType.boolean), false, 3, 5),
  (yX8_onlyOne, cX8_onlyOne, 3, (Option.some FieldType.int), false, 1, 5),
  (yX8_bestGuard, cX8_bestGuard, 4, (Option.some FieldType.int), false, 1, 5),
  (yX8_leftBy, cX8_leftBy, 3, (Option.some FieldType.int), false, 2, 5),
  (yX8_firstNotSo, cX8_firstNotSo, 5, (Option.some FieldType.int), false, 2, 5),
  (yX8_isSo, cX8_isSo, 4, (Option.some FieldType.boolean), false, 3, 5),
  (yX9_version, cX9_version, 1, (Option.some FieldType.int), false, 0, 7),
  (yX9_worthLate, cX9_worthLate, 6, (Option.some FieldType.int), false, 4, 7),
  (yX9_worthEaten, cX9_worthEaten, 5, (Option.some FieldType.int), false, 3, 7),
  (yX10_door, cX10_door, 3, (Option.some FieldType.int), false, 2, 1),
  (yL_some, cL_some, 3, (Option.some FieldType.int), true, 2, 0)]
abbrev am_ms_3 : List (MethodName × ByteArray × Nat × Option FieldType × Bool × Nat × Nat) := [
  (yX10_child, cX10_child, 3, (Option.some FieldType.int), false, 2, 1),
  (yX10_mend, cX10_mend, 5, (Option.some FieldType.int), false, 3, 1),
  (yX10_of, cX10_of, 3, (Option.some FieldType.int), false, 2, 1),
  (yX10_feed, cX10_feed, 2, (Option.some FieldType.int), false, 1, 1),
  (yX10_law, cX10_law, 1, (Option.some FieldType.int), false, 0, 1),
  (yX10_worth, cX10_worth, 5, (Option.some FieldType.int), false, 2, 1),
  (yX10_whose, cX10_whose, 2, (Option.some FieldType.int), false, 1, 1),
  (yX10_all, cX10_all, 2, (Option.some FieldType.int), false, 1, 1),
  (yX10_giving, cX10_giving, 3, (Option.some FieldType.int), false, 2, 1),
  (yX10_bestRule, cX10_bestRule, 3, (Option.some FieldType.int), false, 1, 1),
  (yX10_fairest, cX10_fairest, 2, (Option.some FieldType.int), false, 1, 1),
  (yX10_envyFree, cX10_envyFree, 1, (Option.some FieldType.int), false, 0, 1),
  (yX10_swap, cX10_swap, 2, (Option.some FieldType.int), false, 1, 1),
  (yX10_swaps, cX10_swaps, 4, (Option.some FieldType.int), false, 2, 1),
  (yX10_big, cX10_big, 3, (Option.some FieldType.int), false, 2, 1),
  (yX10_away, cX10_away, 3, (Option.some FieldType.int), false, 2, 1),
  (yX10_gather, cX10_gather, 3, (Option.some FieldType.int), false, 2, 1),
  (yX10_waits, cX10_waits, 4, (Option.some FieldType.int), false, 2, 1),
  (yX10_atFive, cX10_atFive, 8, (Option.some FieldType.int), false, 4, 1),
  (yX10_guard, cX10_guard, 9, (Option.some FieldType.int), false, 4, 1),
  (yX10_judge, cX10_judge, 4, (Option.some FieldType.int), false, 2, 1),
  (yX10_byWhat, cX10_byWhat, 5, (Option.some FieldType.int), false, 1, 1),
  (yX10_second, cX10_second, 3, (Option.some FieldType.int), false, 2, 1),
  (yX10_pairs, cX10_pairs, 4, (Option.some FieldType.int), false, 2, 1),
  (yX10_drawn, cX10_drawn, 4, (Option.some FieldType.int), false, 3, 1),
  (yX10_day, cX10_day, 1, (Option.some FieldType.int), false, 0, 1),
  (yX10_open, cX10_open, 4, (Option.some FieldType.int), false, 2, 1),
  (yX10_forgotten, cX10_forgotten, 1, (Option.some FieldType.int), false, 0, 1),
  (yX10_led, cX10_led, 2, (Option.some FieldType.int), false, 1, 1),
  (yX10_image, cX10_image, 1, (Option.some FieldType.int), false, 0, 1),
  (yX10_back, cX10_back, 1, (Option.some FieldType.int), false, 0, 1),
  (yX10_undo, cX10_undo, 1, (Option.some FieldType.int), false, 0, 1),
  (yL_some, cL_some, 3, (Option.some FieldType.int), true, 2, 0),
  (yX10_body, cX10_body, 2, (Option.some FieldType.int), false, 1, 1),
  (yL_some, cL_some, 3, (Option.some FieldType.int), true, 2, 0),
  (yL_some, cL_some, 3, (Option.some FieldType.int), true, 2, 0),
  (yL_some, cL_some, 3, (Option.some FieldType.int), true, 2, 0),
  (yX10_row, cX10_row, 4, (Option.some FieldType.int), false, 3, 1),
  (yX10_put, cX10_put, 7, (Option.some FieldType.int), false, 3, 1),
  (yL_some, cL_some, 3, (Option.some FieldType.int), true, 2, 0)]
abbrev am_ms_4 : List (MethodName × ByteArray × Nat × Option FieldType × Bool × Nat × Nat) := [
  (yL_some, cL_some, 3, (Option.some FieldType.int), true, 2, 0),
  (yL_some, cL_some, 3, (Option.some FieldType.int), true, 2, 0),
  (yX10_count, cX10_count, 2, (Option.some FieldType.int), false, 1, 1),
  (yX10_isRule, cX10_isRule, 1, (Option.some FieldType.boolean), true, 1, 1),
  (yX10_isRuleAndChild, cX10_isRuleAndChild, 2, (Option.some FieldType.boolean), false, 1, 1),
  (yX10_isShelf, cX10_isShelf, 2, (Option.some FieldType.boolean), false, 1, 1),
  (yX10_fresh, cX10_fresh, 1, (Option.some (FieldType.object "DoorsForThree$Givings")), false, 0, 1),
  (yL_some, cL_some, 3, (Option.some FieldType.int), true, 2, 0),
  (yL_some, cL_some, 3, (Option.some FieldType.int), true, 2, 0),
  (yL_some, cL_some, 3, (Option.some FieldType.int), true, 2, 0),
  (yL_some, cL_some, 3, (Option.some FieldType.int), true, 2, 0),
  (yL_some, cL_some, 3, (Option.some FieldType.int), true, 2, 0),
  (yL_some, cL_some, 3, (Option.some FieldType.int), true, 2, 0),
  (yL_some, cL_some, 3, (Option.some FieldType.int), true, 2, 0),
  (yL_some, cL_some, 3, (Option.some FieldType.int), true, 2, 0),
  (yL_some, cL_some, 3, (Option.some FieldType.int), true, 2, 0),
  (yL_some, cL_some, 3, (Option.some FieldType.int), true, 2, 0),
  (yL_some, cL_some, 3, (Option.some FieldType.int), true, 2, 0),
  (yL_some, cL_some, 3, (Option.some FieldType.int), true, 2, 0),
  (yL_some, cL_some, 3, (Option.some FieldType.int), true, 2, 0),
  (yL_some, cL_some, 3, (Option.some FieldType.int), true, 2, 0),
  (yL_some, cL_some, 3, (Option.some FieldType.int), true, 2, 0),
  (yL_some, cL_some, 3, (Option.some FieldType.int), true, 2, 0),
  (yL_some, cL_some, 3, (Option.some FieldType.int), true, 2, 0),
  (yL_some, cL_some, 3, (Option.some FieldType.int), true, 2, 0),
  (yL_some, cL_some, 3, (Option.some FieldType.int), true, 2, 0),
  (yL_some, cL_some, 3, (Option.some FieldType.int), true, 2, 0),
  (yL_some, cL_some, 3, (Option.some FieldType.int), true, 2, 0),
  (yL_some, cL_some, 3, (Option.some FieldType.int), true, 2, 0),
  (yL_some, cL_some, 3, (Option.some FieldType.int), true, 2, 0),
  (yL_some, cL_some, 3, (Option.some FieldType.int), true, 2, 0),
  (yL_some, cL_some, 3, (Option.some FieldType.int), true, 2, 0),
  (yL_some, cL_some, 3, (Option.some FieldType.int), true, 2, 0),
  (yL_some, cL_some, 3, (Option.some FieldType.int), true, 2, 0),
  (yL_some, cL_some, 3, (Option.some FieldType.int), true, 2, 0),
  (yL_some, cL_some, 3, (Option.some FieldType.int), true, 2, 0),
  (yL_some, cL_some, 3, (Option.some FieldType.int), true, 2, 0),
  (yL_some, cL_some, 3, (Option.some FieldType.int), true, 2, 0),
  (yL_some, cL_some, 3, (Option.some FieldType.int), true, 2, 0),
  (yL_some, cL_some, 3, (Option.some FieldType.int), true, 2, 0)]
abbrev am_ms_5 : List (MethodName × ByteArray × Nat × Option FieldType × Bool × Nat × Nat) := [
  (yL_some, cL_some, 3, (Option.some FieldType.int), true, 2, 0),
  (yL_some, cL_some, 3, (Option.some FieldType.int), true, 2, 0),
  (yL_some, cL_some, 3, (Option.some FieldType.int), true, 2, 0),
  (yL_some, cL_some, 3, (Option.some FieldType.int), true, 2, 0),
  (yL_some, cL_some, 3, (Option.some FieldType.int), true, 2, 0),
  (yL_some, cL_some, 3, (Option.some FieldType.int), true, 2, 0),
  (yL_some, cL_some, 3, (Option.some FieldType.int), true, 2, 0),
  (yL_some, cL_some, 3, (Option.some FieldType.int), true, 2, 0),
  (yL_some, cL_some, 3, (Option.some FieldType.int), true, 2, 0),
  (yL_some, cL_some, 3, (Option.some FieldType.int), true, 2, 0),
  (yL_some, cL_some, 3, (Option.some FieldType.int), true, 2, 0),
  (yL_some, cL_some, 3, (Option.some FieldType.int), true, 2, 0),
  (yL_some, cL_some, 3, (Option.some FieldType.int), true, 2, 0),
  (yL_some, cL_some, 3, (Option.some FieldType.int), true, 2, 0),
  (yL_some, cL_some, 3, (Option.some FieldType.int), true, 2, 0),
  (yL_some, cL_some, 3, (Option.some FieldType.int), true, 2, 0),
  (yL_some, cL_some, 3, (Option.some FieldType.int), true, 2, 0),
  (yL_some, cL_some, 3, (Option.some FieldType.int), true, 2, 0),
  (yL_some, cL_some, 3, (Option.some FieldType.int), true, 2, 0),
  (yL_some, cL_some, 3, (Option.some FieldType.int), true, 2, 0),
  (yL_some, cL_some, 3, (Option.some FieldType.int), true, 2, 0),
  (yL_some, cL_some, 3, (Option.some FieldType.int), true, 2, 0),
  (yL_some, cL_some, 3, (Option.some FieldType.int), true, 2, 0),
  (yL_some, cL_some, 3, (Option.some FieldType.int), true, 2, 0),
  (yL_some, cL_some, 3, (Option.some FieldType.int), true, 2, 0),
  (yL_some, cL_some, 3, (Option.some FieldType.int), true, 2, 0),
  (yL_some, cL_some, 3, (Option.some FieldType.int), true, 2, 0),
  (yL_some, cL_some, 3, (Option.some FieldType.int), true, 2, 0),
  (yL_some, cL_some, 3, (Option.some FieldType.int), true, 2, 0),
  (yL_some, cL_some, 3, (Option.some FieldType.int), true, 2, 0),
  (yL_some, cL_some, 3, (Option.some FieldType.int), true, 2, 0),
  (yL_some, cL_some, 3, (Option.some FieldType.int), true, 2, 0),
  (yL_some, cL_some, 3, (Option.some FieldType.int), true, 2, 0),
  (yL_some, cL_some, 3, (Option.some FieldType.int), true, 2, 0),
  (yL_some, cL_some, 3, (Option.some FieldType.int), true, 2, 0),
  (yL_some, cL_some, 3, (Option.some FieldType.int), true, 2, 0),
  (yL_some, cL_some, 3, (Option.some FieldType.int), true, 2, 0),
  (yL_some, cL_some, 3, (Option.some FieldType.int), true, 2, 0),
  (yL_some, cL_some, 3, (Option.some FieldType.int), true, 2, 0),
  (yL_some, cL_some, 3, (Option.some FieldType.int), true, 2, 0)]
abbrev am_ms_6 : List (MethodName × ByteArray × Nat × Option FieldType × Bool × Nat × Nat) := [
  (yL_some, cL_some, 3, (Option.some FieldType.int), true, 2, 0),
  (yL_some, cL_some, 3, (Option.some FieldType.int), true, 2, 0),
  (yL_some, cL_some, 3, (Option.some FieldType.int), true, 2, 0),
  (yL_some, cL_some, 3, (Option.some FieldType.int), true, 2, 0),
  (yL_some, cL_some, 3, (Option.some FieldType.int), true, 2, 0),
  (yL_some, cL_some, 3, (Option.some FieldType.int), true, 2, 0),
  (yL_some, cL_some, 3, (Option.some FieldType.int), true, 2, 0),
  (yL_some, cL_some, 3, (Option.some FieldType.int), true, 2, 0),
  (yL_some, cL_some, 3, (Option.some FieldType.int), true, 2, 0),
  (yL_some, cL_some, 3, (Option.some FieldType.int), true, 2, 0),
  (yL_some, cL_some, 3, (Option.some FieldType.int), true, 2, 0),
  (yL_some, cL_some, 3, (Option.some FieldType.int), true, 2, 0),
  (yL_some, cL_some, 3, (Option.some FieldType.int), true, 2, 0),
  (yL_some, cL_some, 3, (Option.some FieldType.int), true, 2, 0),
  (yL_some, cL_some, 3, (Option.some FieldType.int), true, 2, 0),
  (yL_some, cL_some, 3, (Option.some FieldType.int), true, 2, 0),
  (yL_some, cL_some, 3, (Option.some FieldType.int), true, 2, 0),
  (yL_some, cL_some, 3, (Option.some FieldType.int), true, 2, 0),
  (yL_some, cL_some, 3, (Option.some FieldType.int), true, 2, 0),
  (yL_some, cL_some, 3, (Option.some FieldType.int), true, 2, 0),
  (yL_some, cL_some, 3, (Option.some FieldType.int), true, 2, 0),
  (yL_some, cL_some, 3, (Option.some FieldType.int), true, 2, 0),
  (yL_some, cL_some, 3, (Option.some FieldType.int), true, 2, 0),
  (yL_some, cL_some, 3, (Option.some FieldType.int), true, 2, 0),
  (yL_some, cL_some, 3, (Option.some FieldType.int), true, 2, 0),
  (yL_some, cL_some, 3, (Option.some FieldType.int), true, 2, 0),
  (yL_some, cL_some, 3, (Option.some FieldType.int), true, 2, 0),
  (yL_some, cL_some, 3, (Option.some FieldType.int), true, 2, 0),
  (yL_some, cL_some, 3, (Option.some FieldType.int), true, 2, 0),
  (yL_some, cL_some, 3, (Option.some FieldType.int), true, 2, 0),
  (yL_some, cL_some, 3, (Option.some FieldType.int), true, 2, 0),
  (yL_some, cL_some, 3, (Option.some FieldType.int), true, 2, 0),
  (yL_some, cL_some, 3, (Option.some FieldType.int), true, 2, 0),
  (yJ6_bitCount_0f7a4, cJ6_bitCount_0f7a4, 1, (Option.some FieldType.int), true, 1, 14),
  (yJ7_fill_d0a16, cJ7_fill_d0a16, 5, (Option.none : Option FieldType), true, 2, 15),
  (yJ7_fill_53178, cJ7_fill_53178, 4, (Option.none : Option FieldType), true, 2, 15),
  (yJ0_length_8abf5, cJ0_length_8abf5, 1, (Option.some FieldType.int), false, 0, 12),
  (yJ0_indexOf_0f7a4, cJ0_indexOf_0f7a4, 2, (Option.some FieldType.int), false, 1, 12),
  (yJ0_indexOf_7cf53, cJ0_indexOf_7cf53, 3, (Option.some FieldType.int), false, 2, 12),
  (yJ0_coder_7d493, cJ0_coder_7d493, 1, (Option.some FieldType.byte), false, 0, 12)]
abbrev am_ms_7 : List (MethodName × ByteArray × Nat × Option FieldType × Bool × Nat × Nat) := [
  (yJ0_isLatin1_aae02, cJ0_isLatin1_aae02, 1, (Option.some FieldType.boolean), false, 0, 12),
  (yJ1_canEncode_9a6ad, cJ1_canEncode_9a6ad, 1, (Option.some FieldType.boolean), true, 1, 13),
  (yJ1_indexOf_4cfef, cJ1_indexOf_4cfef, 4, (Option.some FieldType.int), true, 4, 13),
  (yJ1_indexOfChar_4cfef, cJ1_indexOfChar_4cfef, 6, (Option.some FieldType.int), true, 4, 13),
  (yJ0_charAt_5068e, cJ0_charAt_5068e, 2, (Option.some FieldType.char), false, 1, 12),
  (yJ1_charAt_3b067, cJ1_charAt_3b067, 2, (Option.some FieldType.char), true, 2, 13),
  (yJ0_checkIndex_df160, cJ0_checkIndex_df160, 2, (Option.none : Option FieldType), true, 2, 12),
  (yJ3_checkIndex_8e157, cJ3_checkIndex_8e157, 3, (Option.some FieldType.int), true, 3, 99),
  (yL_at, cL_at, 2, (Option.some FieldType.int), true, 2, 0),
  (yL_some, cL_some, 3, (Option.some FieldType.int), true, 2, 0),
  (yL_told, cL_told, 7, (Option.some FieldType.long), true, 1, 0),
  (yL_world, cL_world, 12, (Option.none : Option FieldType), true, 4, 0)]
abbrev am_ms : List (MethodName × ByteArray × Nat × Option FieldType × Bool × Nat × Nat) := am_ms_0 ++ am_ms_1 ++ am_ms_2 ++ am_ms_3 ++ am_ms_4 ++ am_ms_5 ++ am_ms_6 ++ am_ms_7
abbrev am_NM : Nat := 292
end
section
/-! the tables hold: a check of each row, decided -/
abbrev am_mrow : Type := MethodName × ByteArray × Nat × Option FieldType × Bool × Nat × Nat
def am_m0 : am_mrow := (⟨"", "", ""⟩, ⟨#[]⟩, 0, none, false, 0, 99)
def am_m (f : Nat) : am_mrow := am_nth am_m0 am_ms f
def am_tab (f : Nat) : List am_row := am_nth [] am_tabs f
def am_pcs (t : List am_row) (i : Nat) : Nat := match t[i]? with
  | some r => r.1
  | none => 0
def am_isr (d : String) : Bool := !(d == "I" || d == "Z")
def am_rko : Option FieldType → Nat
  | none => 0
  | some .long => 2
  | some (.object _) => 3
  | some (.array _) => 3
  | some _ => 1
def am_stn : Nat → String × String
  | 114 => ("DoorsForThree$Calendar", "LEAST")
  | 115 => ("DoorsForThree$Calendar", "MOST")
  | _ => ("DoorsForThree$Pictures", "ABOVE")
def am_sfn : Nat → String × String
  | 0 => ("value", "[B")
  | _ => ("coder", "B")
def am_host : String := "DoorsForThree"
def am_chk (y : MethodName) (bc : ByteArray) (nL : Nat) (rt : Option FieldType) (lk : List Cond) (t : List am_row) (i : Nat) (r : am_row) : Bool :=
  match r with
  | (pc, ins, len, k1, k2, k3, v, sw) =>
    decide (decode bc pc = .ok (ins, len)) && (match ins with
    | .aload _ => len == 2 && am_pcs t (i + 1) == pc + 2
    | .iload _ => len == 2 && am_pcs t (i + 1) == pc + 2
    | .lload _ => len == 2 && am_pcs t (i + 1) == pc + 2
    | .astore n => len == 2 && am_pcs t (i + 1) == pc + 2 && decide (n < nL)
    | .istore n => len == 2 && am_pcs t (i + 1) == pc + 2 && decide (n < nL)
    | .lstore n => len == 2 && am_pcs t (i + 1) == pc + 2 && decide (n + 1 < nL)
    | .astore_n n => len == 1 && am_pcs t (i + 1) == pc + 1 && decide ((n : Nat) < nL)
    | .istore_n n => len == 1 && am_pcs t (i + 1) == pc + 1 && decide ((n : Nat) < nL)
    | .lstore_n n => len == 1 && am_pcs t (i + 1) == pc + 1 && decide ((n : Nat) + 1 < nL)
    | .iinc n c => len == 3 && am_pcs t (i + 1) == pc + 3 && decide (n < nL) && decide (Int32.ofInt c = v)
    | .iconst c => len == 1 && am_pcs t (i + 1) == pc + 1 && decide (Int32.ofInt c = v)
    | .bipush c => len == 2 && am_pcs t (i + 1) == pc + 2 && decide ((Int8.ofInt c).toInt32 = v)
    | .sipush c => len == 3 && am_pcs t (i + 1) == pc + 3 && decide ((Int16.ofInt c).toInt32 = v)
    | .ldc q => len == 2 && am_pcs t (i + 1) == pc + 2 && (match k2 with
      | 0 => decide (Cond.constant y.cls q v ∈ lk)
      | _ => y.cls == "DoorsForThree$Law" && am_strs.any fun e => e.1 == q && e.2.2 == k1)
    | .ldc_w q => len == 3 && am_pcs t (i + 1) == pc + 3 && decide (Cond.constant y.cls q v ∈ lk)
    | .ldc2_w q => len == 3 && am_pcs t (i + 1) == pc + 3 && decide (Cond.constantLong y.cls q (am_lc k1) ∈ lk)
    | .lconst c => len == 1 && am_pcs t (i + 1) == pc + 1 && decide (Int64.ofNat (c : Nat) = am_lc k1)
    | .goto off => len == 3 && decide ((pc : Int) + off = (am_pcs t k1 : Int))
    | .ifCond _ off => len == 3 && am_pcs t (i + 1) == pc + 3 && decide ((pc : Int) + off = (am_pcs t k1 : Int))
    | .if_icmp _ off => len == 3 && am_pcs t (i + 1) == pc + 3 && decide ((pc : Int) + off = (am_pcs t k1 : Int))
    | .tableswitch d lo hi offs => decide ((pc : Int) + d = (am_pcs t k1 : Int)) && sw.length == offs.size && decide (hi + 1 = lo + (offs.size : Int)) &&
        (List.range offs.size).all fun j => match sw[j]?, offs[j]? with
          | some (w, tj), some o => decide (w.toInt = lo + (j : Int)) && decide ((pc : Int) + o = (am_pcs t tj : Int))
          | _, _ => false
    | .lookupswitch d ps => decide ((pc : Int) + d = (am_pcs t k1 : Int)) && sw.length == ps.size && ((ps.toList.zip (ps.toList.drop 1)).all fun (a, next) => a.1 < next.1) &&
        (List.range ps.size).all fun j => match sw[j]?, ps[j]? with
          | some (w, tj), some o => decide (w.toInt = o.1) && decide ((pc : Int) + o.2 = (am_pcs t tj : Int))
          | _, _ => false
    | .getfield q => len == 3 && am_pcs t (i + 1) == pc + 3 && ((k1 == 100 && decide (Cond.fieldLink y.cls q "java/lang/String" (am_sfn k2).1 (am_sfn k2).2 ∈ lk) && ((k2 == 0 && k3 == 2) || (k2 == 1 && k3 == 0))) || match vwCl[k1]? with
      | some (C, T, N) => decide (k2 < N) && (T k2).1 == C && (decide (Cond.fieldLink y.cls q C (T k2).2.1 (T k2).2.2.1 ∈ lk) || decide (Cond.fieldLinkNest y.cls q C (T k2).2.1 (T k2).2.2.1 am_host ∈ lk)) && (am_isr (T k2).2.2.1 == (k3 == 2))
      | none => false)
    | .putfield q => len == 3 && am_pcs t (i + 1) == pc + 3 && (match vwCl[k1]? with
      | some (C, T, N) => decide (k2 < N) && (T k2).1 == C && (T k2).2.2.2 == false && decide (Cond.fieldLink y.cls q C (T k2).2.1 (T k2).2.2.1 ∈ lk) && (((T k2).2.2.1 == "I" && k3 == 0) || ((T k2).2.2.1 == "Z" && k3 == 1))
      | none => false)
    | .getstatic q => len == 3 && am_pcs t (i + 1) == pc + 3 && (match k2 with
      | 2 => decide (Cond.fieldLink y.cls q "jdk/internal/util/Preconditions" "SIOOBE_FORMATTER" "Ljava/util/function/BiFunction;" ∈ lk)
      | 0 => (k1 == 114 || k1 == 115 || k1 == 116) && decide (Cond.fieldLink y.cls q (am_stn k1).1 (am_stn k1).2 "[I" ∈ lk)
      | _ => v == 1 && decide (Cond.fieldLink y.cls q "java/lang/String" "COMPACT_STRINGS" "Z" ∈ lk))
    | .invokevirtual q => len == 3 && am_pcs t (i + 1) == pc + 3 && (match k1 with
      | 1000 => false
      | 1001 => false
      | 1002 => false
      | 2001 => true
      | _ => decide (k1 < am_NM) && decide (Cond.methodLink y.cls q (am_m k1).1 ∈ lk) && (am_m k1).2.2.2.2.1 == false && k2 == (am_m k1).2.2.2.2.2.1 + 1 && k3 == am_rko (am_m k1).2.2.2.1)
    | .invokestatic q => len == 3 && am_pcs t (i + 1) == pc + 3 && (match k1 with
      | 1000 => decide (Cond.methodLink y.cls q Lib.Math.max.name ∈ lk)
      | 1001 => decide (Cond.methodLink y.cls q Lib.Math.min.name ∈ lk)
      | 1002 => decide (Cond.methodLink y.cls q arraycopyName ∈ lk)
      | 2001 => true
      | _ => decide (k1 < am_NM) && decide (Cond.methodLink y.cls q (am_m k1).1 ∈ lk) && (am_m k1).2.2.2.2.1 == true && k2 == (am_m k1).2.2.2.2.2.1 && k3 == am_rko (am_m k1).2.2.2.1)
    | .ireturn => len == 1 && (match k1 with
      | 0 => decide (rt = some .int)
      | 2 => decide (rt = some .char)
      | _ => decide (rt = some .boolean) || decide (rt = some .byte))
    | .lreturn => len == 1 && decide (rt = some .long)
    | .areturn => len == 1 && (match rt with
      | some (.object _) => true
      | _ => false)
    | .return_ => len == 1 && decide (rt = none)
    | _ => len == 1 && am_pcs t (i + 1) == pc + 1)
def am_chks (y : MethodName) (bc : ByteArray) (nL : Nat) (rt : Option FieldType) (lk : List Cond) (t : List am_row) : Nat → List am_row → Bool
  | _, [] => true
  | i, r :: l => am_chk y bc nL rt lk t i r && am_chks y bc nL rt lk t (i + 1) l
def am_okt (f : Nat) : Bool := match am_m f with
  | (y, bc, nL, rt, _, _, lk) => am_chks y bc nL rt (am_lks lk) (am_tab f) 0 (am_tab f) && am_pcs (am_tab f) 0 == 0
end
section
/-! the checks, decided -/
set_option maxRecDepth 1000000 in
theorem am_okt_0 : (List.range' 0 24).all am_okt = true := by decide +kernel
set_option maxRecDepth 1000000 in
theorem am_okt_1 : (List.range' 24 24).all am_okt = true := by decide +kernel
set_option maxRecDepth 1000000 in
theorem am_okt_2 : (List.range' 48 24).all am_okt = true := by decide +kernel
set_option maxRecDepth 1000000 in
theorem am_okt_3 : (List.range' 72 24).all am_okt = true := by decide +kernel
set_option maxRecDepth 1000000 in
theorem am_okt_4 : (List.range' 96 24).all am_okt = true := by decide +kernel
set_option maxRecDepth 1000000 in
theorem am_okt_5 : (List.range' 120 24).all am_okt = true := by decide +kernel
set_option maxRecDepth 1000000 in
theorem am_okt_6 : (List.range' 144 24).all am_okt = true := by decide +kernel
set_option maxRecDepth 1000000 in
theorem am_okt_7 : (List.range' 168 24).all am_okt = true := by decide +kernel
set_option maxRecDepth 1000000 in
theorem am_okt_8 : (List.range' 192 24).all am_okt = true := by decide +kernel
set_option maxRecDepth 1000000 in
theorem am_okt_9 : (List.range' 216 24).all am_okt = true := by decide +kernel
set_option maxRecDepth 1000000 in
theorem am_okt_10 : (List.range' 240 24).all am_okt = true := by decide +kernel
set_option maxRecDepth 1000000 in
theorem am_okt_11 : (List.range' 264 24).all am_okt = true := by decide +kernel
set_option maxRecDepth 1000000 in
theorem am_okt_12 : (List.range' 288 4).all am_okt = true := by decide +kernel
end
section
/-! the words of the calls are among the tables' words, by their places -/
abbrev am_mix : List (Nat × Nat × Nat × Nat) := [(428, 38, 426, 427), (432, 38, 430, 431), (424, 38, 422, 423), (408, 38, 406, 407), (449, 38, 447, 448), (420, 38, 418, 419), (416, 38, 414, 415), (440, 38, 438, 439), (691, 38, 689, 690), (686, 38, 684, 685), (866, 38, 864, 865), (901, 38, 899, 900), (453, 39, 451, 452), (1079, 39, 1077, 1078), (1126, 36, 1125, 0), (466, 45, 464, 465), (1027, 45, 1025, 1026), (1035, 45, 1033, 1034), (1041, 45, 1039, 1040), (1049, 45, 1047, 1048), (1062, 45, 1060, 1061), (1071, 45, 1069, 1070), (774, 43, 772, 773), (808, 43, 806, 807), (778, 43, 776, 777), (789, 43, 788, 23), (783, 43, 782, 22), (793, 43, 792, 24), (800, 43, 799, 25), (804, 43, 803, 26), (665, 42, 663, 664), (673, 42, 672, 12), (678, 42, 677, 13), (696, 42, 695, 14), (701, 42, 700, 15), (705, 42, 704, 16), (709, 42, 708, 17), (713, 42, 712, 18), (718, 42, 716, 717), (730, 42, 728, 729), (738, 42, 736, 737), (846, 42, 844, 845), (858, 42, 856, 857), (742, 42, 741, 20), (748, 42, 746, 747), (752, 42, 750, 751), (756, 42, 755, 21), (764, 42, 762, 763), (820, 42, 818, 819), (825, 42, 824, 27), (829, 42, 828, 28), (837, 42, 835, 836), (842, 42, 841, 29), (854, 42, 852, 853), (870, 42, 868, 869), (875, 42, 873, 874), (906, 42, 904, 905), (883, 42, 881, 882), (891, 42, 889, 890), (887, 42, 885, 886), (1405, 42, 1403, 1404), (996, 42, 994, 995), (1000, 42, 998, 999), (1009, 42, 1007, 1008), (1013, 42, 1012, 33), (1019, 42, 1018, 34), (474, 40, 472, 473), (482, 40, 480, 481), (629, 40, 627, 628), (486, 40, 485, 0), (490, 40, 489, 1), (494, 40, 493, 2), (606, 40, 605, 0), (498, 40, 497, 3), (601, 40, 600, 7), (597, 40, 596, 6), (503, 40, 502, 4), (593, 40, 592, 5), (634, 40, 632, 633), (642, 40, 641, 9), (649, 40, 648, 0), (646, 40, 645, 10), (638, 40, 637, 8), (1088, 47, 1086, 1087), (1126, 36, 1125, 0), (1094, 47, 1092, 1093), (1126, 36, 1125, 0), (1126, 36, 1125, 0), (1126, 36, 1125, 0), (1126, 36, 1125, 0), (1126, 36, 1125, 0), (1126, 36, 1125, 0), (1126, 36, 1125, 0), (1126, 36, 1125, 0), (1126, 36, 1125, 0), (1126, 36, 1125, 0), (1126, 36, 1125, 0), (1126, 36, 1125, 0), (1102, 48, 1100, 1101), (922, 48, 920, 921), (918, 48, 916, 917), (934, 48, 932, 933), (1126, 36, 1125, 0), (930, 48, 928, 929), (1116, 48, 1114, 1115), (1120, 48, 1119, 35), (1126, 36, 1125, 0), (926, 44, 924, 925), (946, 44, 944, 945), (952, 44, 951, 31), (957, 44, 955, 956), (965, 44, 963, 964), (969, 44, 967, 968), (979, 44, 977, 978), (983, 44, 982, 32), (669, 41, 667, 668), (624, 41, 622, 623), (682, 41, 680, 681), (404, 37, 402, 403), (1126, 36, 1125, 0), (436, 37, 434, 435), (444, 37, 442, 443), (461, 37, 459, 460), (470, 37, 468, 469), (478, 37, 476, 477), (619, 37, 617, 618), (654, 37, 652, 653), (722, 37, 720, 721), (734, 37, 732, 733), (760, 37, 758, 759), (770, 37, 768, 769), (812, 37, 810, 811), (816, 37, 814, 815), (833, 37, 831, 832), (850, 37, 848, 849), (862, 37, 860, 861), (879, 37, 877, 878), (897, 37, 895, 896), (910, 37, 908, 909), (961, 37, 959, 960), (975, 37, 973, 974), (988, 37, 986, 987), (1401, 37, 1399, 1400), (992, 37, 990, 991), (1005, 37, 1003, 1004), (1023, 37, 1021, 1022), (1031, 37, 1029, 1030), (1045, 37, 1043, 1044), (1054, 37, 1052, 1053), (1058, 37, 1056, 1057), (1067, 37, 1065, 1066), (1075, 37, 1073, 1074), (1126, 36, 1125, 0), (1084, 37, 1082, 1083), (1126, 36, 1125, 0), (1126, 36, 1125, 0), (1126, 36, 1125, 0), (1098, 37, 1096, 1097), (1111, 37, 1109, 1110), (1126, 36, 1125, 0), (1126, 36, 1125, 0), (1126, 36, 1125, 0), (1396, 37, 1394, 1395), (657, 37, 656, 0), (726, 37, 725, 19), (914, 37, 913, 30), (661, 37, 660, 11), (1126, 36, 1125, 0), (1126, 36, 1125, 0), (1126, 36, 1125, 0), (1126, 36, 1125, 0), (1126, 36, 1125, 0), (1126, 36, 1125, 0), (1126, 36, 1125, 0), (1126, 36, 1125, 0), (1126, 36, 1125, 0), (1126, 36, 1125, 0), (1126, 36, 1125, 0), (1126, 36, 1125, 0), (1126, 36, 1125, 0), (1126, 36, 1125, 0), (1126, 36, 1125, 0), (1126, 36, 1125, 0), (1126, 36, 1125, 0), (1126, 36, 1125, 0), (1126, 36, 1125, 0), (1126, 36, 1125, 0), (1126, 36, 1125, 0), (1126, 36, 1125, 0), (1126, 36, 1125, 0), (1126, 36, 1125, 0), (1126, 36, 1125, 0), (1126, 36, 1125, 0), (1126, 36, 1125, 0), (1126, 36, 1125, 0), (1126, 36, 1125, 0), (1126, 36, 1125, 0), (1126, 36, 1125, 0), (1126, 36, 1125, 0), (1126, 36, 1125, 0), (1126, 36, 1125, 0), (1126, 36, 1125, 0), (1126, 36, 1125, 0), (1126, 36, 1125, 0), (1126, 36, 1125, 0), (1126, 36, 1125, 0), (1126, 36, 1125, 0), (1126, 36, 1125, 0), (1126, 36, 1125, 0), (1126, 36, 1125, 0), (1126, 36, 1125, 0), (1126, 36, 1125, 0), (1126, 36, 1125, 0), (1126, 36, 1125, 0), (1126, 36, 1125, 0), (1126, 36, 1125, 0), (1126, 36, 1125, 0), (1126, 36, 1125, 0), (1126, 36, 1125, 0), (1126, 36, 1125, 0), (1126, 36, 1125, 0), (1126, 36, 1125, 0), (1126, 36, 1125, 0), (1126, 36, 1125, 0), (1126, 36, 1125, 0), (1126, 36, 1125, 0), (1126, 36, 1125, 0), (1126, 36, 1125, 0), (1126, 36, 1125, 0), (1126, 36, 1125, 0), (1126, 36, 1125, 0), (1126, 36, 1125, 0), (1126, 36, 1125, 0), (1126, 36, 1125, 0), (1126, 36, 1125, 0), (1126, 36, 1125, 0), (1126, 36, 1125, 0), (1126, 36, 1125, 0), (1126, 36, 1125, 0), (1126, 36, 1125, 0), (1126, 36, 1125, 0), (1126, 36, 1125, 0), (1126, 36, 1125, 0), (1126, 36, 1125, 0), (1126, 36, 1125, 0), (1126, 36, 1125, 0), (1126, 36, 1125, 0), (1126, 36, 1125, 0), (1126, 36, 1125, 0), (1126, 36, 1125, 0), (1126, 36, 1125, 0), (1126, 36, 1125, 0), (1126, 36, 1125, 0), (1126, 36, 1125, 0), (1126, 36, 1125, 0), (1126, 36, 1125, 0), (1126, 36, 1125, 0), (1126, 36, 1125, 0), (1126, 36, 1125, 0), (1126, 36, 1125, 0), (1126, 36, 1125, 0), (1126, 36, 1125, 0), (1126, 36, 1125, 0), (1126, 36, 1125, 0), (1126, 36, 1125, 0), (1126, 36, 1125, 0), (1126, 36, 1125, 0), (1126, 36, 1125, 0), (1126, 36, 1125, 0), (1126, 36, 1125, 0), (1126, 36, 1125, 0), (1126, 36, 1125, 0), (1126, 36, 1125, 0), (939, 60, 938, 0), (1107, 46, 1106, 0), (284, 46, 283, 0), (521, 51, 519, 520), (507, 51, 505, 506), (511, 51, 509, 510), (525, 51, 523, 524), (515, 51, 513, 514), (531, 52, 530, 0), (528, 52, 527, 0), (540, 52, 539, 0), (1257, 51, 1255, 1256), (1260, 52, 1259, 0), (1263, 51, 1262, 0), (1266, 54, 1265, 0), (1123, 36, 1122, 0), (1126, 36, 1125, 0), (1391, 36, 1390, 0), (1386, 36, 1385, 0)]
/-- what a call of the method asks of the tables -/
def am_okc (f : Nat) : Bool := match am_m f, am_nth (0, 0, 0, 0) am_mix f with
  | (y, bc, nL, rt, stc, na, _), (c, ini, a, b) => plainName y.cls && decide (lw_tbl[ini]? = some (Cond.initialized y.cls)) && decide (nL ≤ 20) &&
      decide (y.cls ≠ "java/lang/invoke/MethodHandle") && decide (y.cls ≠ "java/lang/invoke/VarHandle") && decide ((parseMethodDescriptor y.desc).map (fun d => d.parameters.length) = some na) &&
      (match stc with
      | true => decide (lw_tbl[a]? = some (Cond.static y))
      | false => decide (lw_tbl[a]? = some (Cond.instanceMethod y)) && decide (lw_tbl[b]? = some (Cond.selects y.cls y y)))
/-- the method's code is among the tables' words -/
def am_okd (f : Nat) : Bool := match am_m f, am_nth (0, 0, 0, 0) am_mix f with
  | (y, bc, nL, rt, _, _, _), (c, _, _, _) => decide (lw_tbl[c]? = some (Cond.code y bc nL rt))
set_option maxRecDepth 1000000 in
theorem am_okd_0 : (List.range' 0 24).all am_okd = true := by decide +kernel
set_option maxRecDepth 1000000 in
theorem am_okd_1 : (List.range' 24 24).all am_okd = true := by decide +kernel
set_option maxRecDepth 1000000 in
theorem am_okd_2 : (List.range' 48 24).all am_okd = true := by decide +kernel
set_option maxRecDepth 1000000 in
theorem am_okd_3 : (List.range' 72 24).all am_okd = true := by decide +kernel
set_option maxRecDepth 1000000 in
theorem am_okd_4 : (List.range' 96 24).all am_okd = true := by decide +kernel
set_option maxRecDepth 1000000 in
theorem am_okd_5 : (List.range' 120 24).all am_okd = true := by decide +kernel
set_option maxRecDepth 1000000 in
theorem am_okd_6 : (List.range' 144 24).all am_okd = true := by decide +kernel
set_option maxRecDepth 1000000 in
theorem am_okd_7 : (List.range' 168 24).all am_okd = true := by decide +kernel
set_option maxRecDepth 1000000 in
theorem am_okd_8 : (List.range' 192 24).all am_okd = true := by decide +kernel
set_option maxRecDepth 1000000 in
theorem am_okd_9 : (List.range' 216 24).all am_okd = true := by decide +kernel
set_option maxRecDepth 1000000 in
theorem am_okd_10 : (List.range' 240 24).all am_okd = true := by decide +kernel
set_option maxRecDepth 1000000 in
theorem am_okd_11 : (List.range' 264 24).all am_okd = true := by decide +kernel
set_option maxRecDepth 1000000 in
theorem am_okd_12 : (List.range' 288 2).all am_okd = true := by decide +kernel
set_option maxRecDepth 1000000 in
theorem am_okd_b290 : lw_tbl[1391]? = some (Cond.code (am_m 290).1 (am_m 290).2.1 (am_m 290).2.2.1 (am_m 290).2.2.2.1) := rfl
set_option maxRecDepth 1000000 in
theorem am_okd_b291 : lw_tbl[1386]? = some (Cond.code (am_m 291).1 (am_m 291).2.1 (am_m 291).2.2.1 (am_m 291).2.2.2.1) := rfl
set_option maxRecDepth 1000000 in
theorem am_okc_0 : (List.range' 0 24).all am_okc = true := by decide +kernel
set_option maxRecDepth 1000000 in
theorem am_okc_1 : (List.range' 24 24).all am_okc = true := by decide +kernel
set_option maxRecDepth 1000000 in
theorem am_okc_2 : (List.range' 48 24).all am_okc = true := by decide +kernel
set_option maxRecDepth 1000000 in
theorem am_okc_3 : (List.range' 72 24).all am_okc = true := by decide +kernel
set_option maxRecDepth 1000000 in
theorem am_okc_4 : (List.range' 96 24).all am_okc = true := by decide +kernel
set_option maxRecDepth 1000000 in
theorem am_okc_5 : (List.range' 120 24).all am_okc = true := by decide +kernel
set_option maxRecDepth 1000000 in
theorem am_okc_6 : (List.range' 144 24).all am_okc = true := by decide +kernel
set_option maxRecDepth 1000000 in
theorem am_okc_7 : (List.range' 168 24).all am_okc = true := by decide +kernel
set_option maxRecDepth 1000000 in
theorem am_okc_8 : (List.range' 192 24).all am_okc = true := by decide +kernel
set_option maxRecDepth 1000000 in
theorem am_okc_9 : (List.range' 216 24).all am_okc = true := by decide +kernel
set_option maxRecDepth 1000000 in
theorem am_okc_10 : (List.range' 240 24).all am_okc = true := by decide +kernel
set_option maxRecDepth 1000000 in
theorem am_okc_11 : (List.range' 264 24).all am_okc = true := by decide +kernel
set_option maxRecDepth 1000000 in
theorem am_okc_12 : (List.range' 288 4).all am_okc = true := by decide +kernel
/-- the receiver's class -/
def am_okk (f : Nat) : Bool := match am_m f with
  | (y, _, _, _, stc, _, _) => stc || (match vwCl[am_mk f]? with
    | some r => r.1 == y.cls
    | none => am_mk f == 100 && y.cls == "java/lang/String")
set_option maxRecDepth 1000000 in
theorem am_okk_0 : (List.range' 0 24).all am_okk = true := by decide +kernel
set_option maxRecDepth 1000000 in
theorem am_okk_1 : (List.range' 24 24).all am_okk = true := by decide +kernel
set_option maxRecDepth 1000000 in
theorem am_okk_2 : (List.range' 48 24).all am_okk = true := by decide +kernel
set_option maxRecDepth 1000000 in
theorem am_okk_3 : (List.range' 72 24).all am_okk = true := by decide +kernel
set_option maxRecDepth 1000000 in
theorem am_okk_4 : (List.range' 96 24).all am_okk = true := by decide +kernel
set_option maxRecDepth 1000000 in
theorem am_okk_5 : (List.range' 120 24).all am_okk = true := by decide +kernel
set_option maxRecDepth 1000000 in
theorem am_okk_6 : (List.range' 144 24).all am_okk = true := by decide +kernel
set_option maxRecDepth 1000000 in
theorem am_okk_7 : (List.range' 168 24).all am_okk = true := by decide +kernel
set_option maxRecDepth 1000000 in
theorem am_okk_8 : (List.range' 192 24).all am_okk = true := by decide +kernel
set_option maxRecDepth 1000000 in
theorem am_okk_9 : (List.range' 216 24).all am_okk = true := by decide +kernel
set_option maxRecDepth 1000000 in
theorem am_okk_10 : (List.range' 240 24).all am_okk = true := by decide +kernel
set_option maxRecDepth 1000000 in
theorem am_okk_11 : (List.range' 264 24).all am_okk = true := by decide +kernel
set_option maxRecDepth 1000000 in
theorem am_okk_12 : (List.range' 288 4).all am_okk = true := by decide +kernel
set_option maxRecDepth 1000000 in
theorem am_lkL_ix : [27, 365, 397, 405, 422, 431, 439, 580, 615, 683, 695, 721, 731, 773, 777, 794, 811, 823, 840, 858, 871, 922, 936, 949, 953, 966, 984, 992, 1006, 1015, 1019, 1028, 1036, 1045, 1059, 1072, 1085, 1088, 1091, 1094, 1097, 1125, 1211, 1214, 1217, 1218, 1238, 1251, 1308, 1333, 1334, 1335, 1336, 1337, 1338, 1339, 1340, 1341, 1342, 1343, 1344, 1345, 1346, 1347, 1348, 1351, 1352, 1353, 1356, 1357, 1361, 1362, 1370, 1371, 1372, 1373].map (fun i => tables_1[i]?) = am_lkL.map some := by decide +kernel
set_option maxRecDepth 1000000 in
theorem am_lkX10_ix : [30, 35, 44, 52, 67, 73, 84, 90, 123, 139, 188, 201, 203, 205, 229, 242, 252, 254, 256, 258, 292, 298, 300, 313, 334, 335, 336, 337, 338, 339, 340, 341, 342, 343, 369, 377, 401, 409, 410, 414, 421, 426, 427, 435, 443, 584, 585, 619, 622, 626, 679, 687, 691, 699, 709, 713, 725, 735, 739, 769, 781, 798, 807, 815, 819, 827, 831, 836, 844, 848, 857, 862, 867, 875, 879, 887, 901, 907, 918, 926, 935, 940, 957, 965, 970, 988, 996, 1002, 1010, 1023, 1032, 1040, 1049, 1055, 1063, 1076, 1077, 1366].map (fun i => tables_1[i]?) = am_lkX10.map some := by decide +kernel
set_option maxRecDepth 1000000 in
theorem am_lkX0_ix : [38, 41, 43, 50, 54, 373, 375, 381, 385, 389, 393, 651, 652, 866].map (fun i => tables_1[i]?) = am_lkX0.map some := by decide +kernel
set_option maxRecDepth 1000000 in
theorem am_lkX3_ix : [42, 48, 147, 151, 191, 193, 194, 195, 196, 197, 198, 199, 200, 202, 204, 743, 744, 748, 749, 750, 754, 758, 759, 760, 761, 765].map (fun i => tables_1[i]?) = am_lkX3.map some := by decide +kernel
set_option maxRecDepth 1000000 in
theorem am_lkX4_ix : [45, 49, 142, 144, 145, 146, 148, 149, 150, 152, 153, 154, 155, 156, 157, 158, 630, 634, 638, 639, 643, 657, 661, 662, 666, 670, 674, 678, 703, 707, 708, 717, 729, 730, 785, 786, 790, 802, 803, 835, 852, 856, 961, 974, 978, 979, 980].map (fun i => tables_1[i]?) = am_lkX4.map some := by decide +kernel
set_option maxRecDepth 1000000 in
theorem am_lkX8_ix : [46, 51, 232, 233, 234, 319, 891, 899, 900, 911, 912, 913, 917, 930, 934, 944, 948].map (fun i => tables_1[i]?) = am_lkX8.map some := by decide +kernel
set_option maxRecDepth 1000000 in
theorem am_lkX2_ix : [47, 245, 246, 249, 250, 251, 253, 255, 257, 259, 260, 261, 262, 263, 264, 1000, 1001, 1014, 1027].map (fun i => tables_1[i]?) = am_lkX2.map some := by decide +kernel
set_option maxRecDepth 1000000 in
theorem am_lkX9_ix : [53, 96, 126, 127, 128, 129, 589, 590, 594, 595, 614, 647, 656].map (fun i => tables_1[i]?) = am_lkX9.map some := by decide +kernel
set_option maxRecDepth 1000000 in
theorem am_lkX1_ix : [70, 71, 72, 74, 418, 1044].map (fun i => tables_1[i]?) = am_lkX1.map some := by decide +kernel
set_option maxRecDepth 1000000 in
theorem am_lkX5_ix : [87, 88, 89, 91, 92, 93, 94, 95, 97, 98, 99, 447, 451, 455, 459, 463, 464, 468, 554, 558, 562, 566, 567, 568, 571, 572, 573, 574, 575, 576, 577, 578, 599, 603, 607, 611].map (fun i => tables_1[i]?) = am_lkX5.map some := by decide +kernel
set_option maxRecDepth 1000000 in
theorem am_lkX6_ix : [295, 296, 297, 299, 1053].map (fun i => tables_1[i]?) = am_lkX6.map some := by decide +kernel
set_option maxRecDepth 1000000 in
theorem am_lkX7_ix : [316, 317, 318, 320, 321, 883, 895, 1067, 1068, 1069, 1081].map (fun i => tables_1[i]?) = am_lkX7.map some := by decide +kernel
set_option maxRecDepth 1000000 in
theorem am_lkJ0_ix : [472, 476, 480, 482, 486, 490, 505, 523, 525, 1114, 1202, 1209, 1210, 1222, 1228, 1231, 1260, 1263, 1264, 1269, 1277, 1278, 1287, 1294, 1297, 1298].map (fun i => tables_1[i]?) = am_lkJ0.map some := by decide +kernel
set_option maxRecDepth 1000000 in
theorem am_lkJ1_ix : [493, 496, 499, 502, 1193, 1225].map (fun i => tables_1[i]?) = am_lkJ1.map some := by decide +kernel
set_option maxRecDepth 1000000 in
theorem am_lkJ6_ix : [904, 905, 906, 1321, 1323].map (fun i => tables_1[i]?) = am_lkJ6.map some := by decide +kernel
set_option maxRecDepth 1000000 in
theorem am_lkJ7_ix : [1156, 1163, 1164, 1281, 1284].map (fun i => tables_1[i]?) = am_lkJ7.map some := by decide +kernel
end
section
/-! the small machine: one instruction, one method -/
/-- the length of an array cell; the script's stands in the memory -/
def am_len (mi : am_MI) (a : Nat) : Nat := match am_kd a with
  | 6 => (mi a 100000).toNatClampNeg
  | 9 => (mi a 100000).toNatClampNeg
  | 10 => (mi a 100000).toNatClampNeg
  | _ => am_n a
def am_ui (m : am_MI) (a j : Nat) (x : Int32) : am_MI := fun b i => if b = a ∧ i = j then x else m b i
def am_ul (m : am_ML) (a j : Nat) (x : Int64) : am_ML := fun b i => if b = a ∧ i = j then x else m b i
def am_ci (m : am_MI) (a0 sp a1 dp n : Nat) : am_MI := fun b i => if b = a1 ∧ dp ≤ i ∧ i < dp + n then m a0 (sp + (i - dp)) else m b i
def am_cj (m : am_ML) (a0 sp a1 dp n : Nat) : am_ML := fun b i => if b = a1 ∧ dp ≤ i ∧ i < dp + n then m a0 (sp + (i - dp)) else m b i
def am_lg : am_L → Nat → Option Value
  | [], _ => none
  | v :: _, 0 => v
  | _ :: l, i + 1 => am_lg l i
def am_ls : am_L → Nat → Option Value → am_L
  | [], _, _ => []
  | _ :: l, 0, v => v :: l
  | a :: l, i + 1, v => a :: am_ls l i v
/-- a place is lost if a long begins there -/
def am_kl (lo : am_L) (i : Nat) : am_L := match am_lg lo i with
  | some (.long _) => am_ls lo i none
  | some (.double _) => am_ls lo i none
  | _ => lo
def am_s1 (lo : am_L) (i : Nat) (v : Value) : am_L := match i with
  | 0 => am_ls lo 0 (some v)
  | i + 1 => am_ls (am_kl lo i) (i + 1) (some v)
def am_s2 (lo : am_L) (i : Nat) (v : Value) : am_L := match i with
  | 0 => am_ls (am_ls lo 1 none) 0 (some v)
  | i + 1 => am_ls (am_ls (am_kl lo i) (i + 2) none) (i + 1) (some v)
def am_le : am_L → am_L → Prop
  | [], _ => True
  | none :: l, _ :: l' => am_le l l'
  | some v :: l, o :: l' => o = some v ∧ am_le l l'
  | _ :: _, [] => False
def am_in : Nat → List Value → am_L
  | n, [] => List.replicate n none
  | n, .long x :: r => some (.long x) :: none :: am_in (n - 2) r
  | n, .double x :: r => some (.double x) :: none :: am_in (n - 2) r
  | n, v :: r => some v :: am_in (n - 1) r
def am_rem (x y : Int32) : Int32 := x - x / y * y
def am_shl (x y : Int32) : Int32 := x <<< (y &&& 31)
def am_shr (x y : Int32) : Int32 := x >>> (y &&& 31)
def am_ushr (x y : Int32) : Int32 := (x.toUInt32 >>> (y.toUInt32 &&& Int32.toUInt32 31)).toInt32
def am_lshl (x : Int64) (y : Int32) : Int64 := x <<< (y.toInt64 &&& 63)
def am_max (x y : Int32) : Int32 := if x < y then y else x
def am_min (x y : Int32) : Int32 := if y < x then y else x
def am_i2c (x : Int32) : Int32 := (x.toUInt32 % 65536).toInt32
def am_cat : List Value → Nat
  | [] => 0
  | v :: l => v.category + am_cat l
def am_rv (k : am_MI → am_ML → Prop) : am_R := fun r a b => r = none ∧ k a b
def am_ri (k : Int32 → am_MI → am_ML → Prop) : am_R := fun r a b => ∃ x, r = some (.int x) ∧ k x a b
def am_rj (k : Int64 → am_MI → am_ML → Prop) : am_R := fun r a b => ∃ x, r = some (.long x) ∧ k x a b
def am_rr (k : Nat → am_MI → am_ML → Prop) : am_R := fun r a b => ∃ x, r = some (.ref x) ∧ k x a b
/-- what a literal place shows by itself -/
def am_need (b : Bool) (P : Prop) : Prop := match b with
  | true => P
  | false => False
section AMI
variable (K : am_K) (i : Nat) (lo : am_L) (st : List Value) (mi : am_MI) (ml : am_ML)
def am_ldI (n : Nat) : Prop := match am_lg lo n with
  | some (.int x) => K (i + 1) lo (.int x :: st) mi ml
  | _ => False
def am_ldJ (n : Nat) : Prop := match am_lg lo n with
  | some (.long x) => K (i + 1) lo (.long x :: st) mi ml
  | _ => False
def am_ldA (n : Nat) : Prop := match am_lg lo n with
  | some (.ref x) => K (i + 1) lo (.ref x :: st) mi ml
  | _ => False
def am_stI (n : Nat) : Prop := match st with
  | .int x :: st => K (i + 1) (am_s1 lo n (.int x)) st mi ml
  | _ => False
def am_stJ (n : Nat) : Prop := match st with
  | .long x :: st => K (i + 1) (am_s2 lo n (.long x)) st mi ml
  | _ => False
def am_stA (n : Nat) : Prop := match st with
  | .ref x :: st => K (i + 1) (am_s1 lo n (.ref x)) st mi ml
  | _ => False
def am_inc (n : Nat) (v : Int32) : Prop := match am_lg lo n with
  | some (.int x) => K (i + 1) (am_s1 lo n (.int (x + v))) st mi ml
  | _ => False
def am_b2 (f : Int32 → Int32 → Int32) : Prop := match st with
  | .int y :: .int x :: st => K (i + 1) lo (.int (f x y) :: st) mi ml
  | _ => False
def am_bd (f : Int32 → Int32 → Int32) : Prop := match st with
  | .int y :: .int x :: st => ¬ y = 0 ∧ K (i + 1) lo (.int (f x y) :: st) mi ml
  | _ => False
def am_u1 (f : Int32 → Int32) : Prop := match st with
  | .int x :: st => K (i + 1) lo (.int (f x) :: st) mi ml
  | _ => False
def am_j2 (f : Int64 → Int64 → Int64) : Prop := match st with
  | .long y :: .long x :: st => K (i + 1) lo (.long (f x y) :: st) mi ml
  | _ => False
def am_br (t : Nat) (c : Int32 → Prop) : Prop := match st with
  | .int x :: st => (c x → K t lo st mi ml) ∧ (¬ c x → K (i + 1) lo st mi ml)
  | _ => False
def am_b2r (t : Nat) (c : Int32 → Int32 → Prop) : Prop := match st with
  | .int y :: .int x :: st => (c x y → K t lo st mi ml) ∧ (¬ c x y → K (i + 1) lo st mi ml)
  | _ => False
def am_swt (x : Int32) (dflt : Nat) : List (Int32 × Nat) → Prop
  | [] => K dflt lo st mi ml
  | (v, t) :: r => (x = v → K t lo st mi ml) ∧ (¬ x = v → am_swt x dflt r)
def am_sw (dflt : Nat) (sw : List (Int32 × Nat)) : Prop := match st with
  | .int x :: st => am_swt K lo st mi ml x dflt sw
  | _ => False
def am_get (ci slot kind : Nat) : Prop := match st with
  | .ref a :: st => am_need (am_oc a == ci) (match kind with
      | 2 => K (i + 1) lo (.ref (am_rf a slot) :: st) mi ml
      | _ => K (i + 1) lo (.int (mi a slot) :: st) mi ml)
  | _ => False
def am_put (ci slot kind : Nat) : Prop := match st with
  | .int x :: .ref a :: st => am_need (am_oc a == ci) (match kind with
      | 0 => K (i + 1) lo st (am_ui mi a slot x) ml
      | 1 => (x = 0 ∨ x = 1) ∧ K (i + 1) lo st (am_ui mi a slot x) ml
      | _ => False)
  | _ => False
def am_iald : Prop := match st with
  | .int j :: .ref a :: st => am_need (am_kd a == 2 || am_kd a == 5 || am_kd a == 6 || am_kd a == 10) (vp_in j (am_len mi a) ∧ K (i + 1) lo (.int (mi a j.toNatClampNeg) :: st) mi ml)
  | _ => False
def am_iast : Prop := match st with
  | .int x :: .int j :: .ref a :: st => am_need (am_kd a == 2 || am_kd a == 10) (vp_in j (am_len mi a) ∧ K (i + 1) lo st (am_ui mi a j.toNatClampNeg x) ml)
  | _ => False
def am_bald : Prop := match st with
  | .int j :: .ref a :: st => am_need (am_kd a == 8 || am_kd a == 9) (vp_in j (am_len mi a) ∧ K (i + 1) lo (.int (mi a j.toNatClampNeg) :: st) mi ml)
  | _ => False
def am_lald : Prop := match st with
  | .int j :: .ref a :: st => am_need (am_kd a == 3) (vp_in j (am_n a) ∧ K (i + 1) lo (.long (ml a j.toNatClampNeg) :: st) mi ml)
  | _ => False
def am_last : Prop := match st with
  | .long x :: .int j :: .ref a :: st => am_need (am_kd a == 3) (vp_in j (am_n a) ∧ K (i + 1) lo st mi (am_ul ml a j.toNatClampNeg x))
  | _ => False
def am_aald : Prop := match st with
  | .int j :: .ref a :: st => am_need (am_kd a == 4) (vp_in j (am_n a) ∧ K (i + 1) lo (.ref (am_f a + am_d a * j.toNatClampNeg) :: st) mi ml)
  | _ => False
def am_alen : Prop := match st with
  | .ref a :: st => am_need (Nat.ble 2 (am_kd a) && Nat.ble (am_kd a) 6 || am_kd a == 8 || am_kd a == 9) (K (i + 1) lo (.int (Int32.ofNat (am_len mi a)) :: st) mi ml)
  | _ => False
def am_dup : Prop := match st with
  | v :: st => am_need (v.category == 1) (K (i + 1) lo (v :: v :: st) mi ml)
  | _ => False
def am_dupx1 : Prop := match st with
  | v :: w :: st => am_need (v.category == 1 && w.category == 1) (K (i + 1) lo (v :: w :: v :: st) mi ml)
  | _ => False
def am_dup2 : Prop := match st with
  | .long x :: st => K (i + 1) lo (.long x :: .long x :: st) mi ml
  | v :: w :: st => am_need (v.category == 1 && w.category == 1) (K (i + 1) lo (v :: w :: v :: w :: st) mi ml)
  | _ => False
def am_pop : Prop := match st with
  | v :: st => am_need (v.category == 1) (K (i + 1) lo st mi ml)
  | _ => False
def am_cpy : Prop := match st with
  | .int n :: .int dp :: .ref b :: .int sp :: .ref a :: st => am_need (Nat.ble (am_cat st) 8) (¬ sp < 0 ∧ ¬ dp < 0 ∧ ¬ n < 0 ∧ sp.toNatClampNeg + n.toNatClampNeg ≤ am_n a ∧ dp.toNatClampNeg + n.toNatClampNeg ≤ am_n b ∧
      (match am_kd a, am_kd b with
      | 2, 2 => K (i + 1) lo st (am_ci mi a sp.toNatClampNeg b dp.toNatClampNeg n.toNatClampNeg) ml
      | 3, 3 => K (i + 1) lo st mi (am_cj ml a sp.toNatClampNeg b dp.toNatClampNeg n.toNatClampNeg)
      | _, _ => False))
  | _ => False
def am_bic (f : Int32 → Int32 → Int32) : Prop := match st with
  | .int y :: .int x :: st => am_need (Nat.ble (am_cat st) 8) (K (i + 1) lo (.int (f x y) :: st) mi ml)
  | _ => False
def am_call0 (call : am_C) (g n rk : Nat) : Prop := am_need (Nat.ble n st.length && Nat.ble (am_cat (st.drop n)) 8)
  (call g (st.take n).reverse mi ml (match rk with
    | 0 => am_rv fun mi ml => K (i + 1) lo (st.drop n) mi ml
    | 1 => am_ri fun x mi ml => K (i + 1) lo (.int x :: st.drop n) mi ml
    | 2 => am_rj fun x mi ml => K (i + 1) lo (.long x :: st.drop n) mi ml
    | _ => am_rr fun x mi ml => K (i + 1) lo (.ref x :: st.drop n) mi ml))
def am_inv (call : am_C) (g n rk : Nat) : Prop := match g with
  | 1000 => am_bic K i lo st mi ml am_max
  | 1001 => am_bic K i lo st mi ml am_min
  | 1002 => am_cpy K i lo st mi ml
  | 2001 => False
  | _ => am_call0 K i lo st mi ml call g n rk
/-- the receiver is of the method's class -/
def am_rcv (g n : Nat) : Bool := match st.drop (n - 1) with
  | .ref a :: _ => am_oc a == am_mk g
  | _ => false
end AMI
def am_st (call : am_C) (K : am_K) (R : am_R) (ins : Instr) (k1 k2 k3 : Nat) (v : Int32) (sw : List (Int32 × Nat)) (i : Nat) (lo : am_L) (st : List Value) (mi : am_MI) (ml : am_ML) : Prop :=
  match ins with
  | .aload n => am_ldA K i lo st mi ml n
  | .aload_n n => am_ldA K i lo st mi ml n
  | .iload n => am_ldI K i lo st mi ml n
  | .iload_n n => am_ldI K i lo st mi ml n
  | .lload n => am_ldJ K i lo st mi ml n
  | .lload_n n => am_ldJ K i lo st mi ml n
  | .astore n => am_stA K i lo st mi ml n
  | .astore_n n => am_stA K i lo st mi ml n
  | .istore n => am_stI K i lo st mi ml n
  | .istore_n n => am_stI K i lo st mi ml n
  | .lstore n => am_stJ K i lo st mi ml n
  | .lstore_n n => am_stJ K i lo st mi ml n
  | .iinc n _ => am_inc K i lo st mi ml n v
  | .iconst _ => K (i + 1) lo (.int v :: st) mi ml
  | .bipush _ => K (i + 1) lo (.int v :: st) mi ml
  | .sipush _ => K (i + 1) lo (.int v :: st) mi ml
  | .ldc _ => (match k2 with
    | 0 => K (i + 1) lo (.int v :: st) mi ml
    | _ => K (i + 1) lo (.ref k1 :: st) mi ml)
  | .ldc_w _ => K (i + 1) lo (.int v :: st) mi ml
  | .ldc2_w _ => K (i + 1) lo (.long (am_lc k1) :: st) mi ml
  | .lconst _ => K (i + 1) lo (.long (am_lc k1) :: st) mi ml
  | .dup => am_dup K i lo st mi ml
  | .dup_x1 => am_dupx1 K i lo st mi ml
  | .dup2 => am_dup2 K i lo st mi ml
  | .pop => am_pop K i lo st mi ml
  | .iadd => am_b2 K i lo st mi ml fun x y => x + y
  | .isub => am_b2 K i lo st mi ml fun x y => x - y
  | .imul => am_b2 K i lo st mi ml fun x y => x * y
  | .idiv => am_bd K i lo st mi ml fun x y => x / y
  | .irem => am_bd K i lo st mi ml am_rem
  | .iand => am_b2 K i lo st mi ml fun x y => x &&& y
  | .ior => am_b2 K i lo st mi ml fun x y => x ||| y
  | .ixor => am_b2 K i lo st mi ml fun x y => x ^^^ y
  | .ishl => am_b2 K i lo st mi ml am_shl
  | .ishr => am_b2 K i lo st mi ml am_shr
  | .iushr => am_b2 K i lo st mi ml am_ushr
  | .ineg => am_u1 K i lo st mi ml fun x => -x
  | .i2b => am_u1 K i lo st mi ml fun x => x.toInt8.toInt32
  | .i2s => am_u1 K i lo st mi ml fun x => x.toInt16.toInt32
  | .i2c => am_u1 K i lo st mi ml am_i2c
  | .i2l => (match st with
    | .int x :: st => K (i + 1) lo (.long x.toInt64 :: st) mi ml
    | _ => False)
  | .l2i => (match st with
    | .long x :: st => K (i + 1) lo (.int x.toInt32 :: st) mi ml
    | _ => False)
  | .ladd => am_j2 K i lo st mi ml fun x y => x + y
  | .lmul => am_j2 K i lo st mi ml fun x y => x * y
  | .land => am_j2 K i lo st mi ml fun x y => x &&& y
  | .lor => am_j2 K i lo st mi ml fun x y => x ||| y
  | .lshl => (match st with
    | .int y :: .long x :: st => K (i + 1) lo (.long (am_lshl x y) :: st) mi ml
    | _ => False)
  | .lcmp => (match st with
    | .long y :: .long x :: st => K (i + 1) lo (.int (lg_cmp x y) :: st) mi ml
    | _ => False)
  | .goto _ => K k1 lo st mi ml
  | .ifCond .eq _ => am_br K i lo st mi ml k1 fun x => x = 0
  | .ifCond .ne _ => am_br K i lo st mi ml k1 fun x => x ≠ 0
  | .ifCond .lt _ => am_br K i lo st mi ml k1 fun x => x < 0
  | .ifCond .ge _ => am_br K i lo st mi ml k1 fun x => 0 ≤ x
  | .ifCond .gt _ => am_br K i lo st mi ml k1 fun x => 0 < x
  | .ifCond .le _ => am_br K i lo st mi ml k1 fun x => x ≤ 0
  | .if_icmp .eq _ => am_b2r K i lo st mi ml k1 fun x y => x = y
  | .if_icmp .ne _ => am_b2r K i lo st mi ml k1 fun x y => x ≠ y
  | .if_icmp .lt _ => am_b2r K i lo st mi ml k1 fun x y => x < y
  | .if_icmp .ge _ => am_b2r K i lo st mi ml k1 fun x y => y ≤ x
  | .if_icmp .gt _ => am_b2r K i lo st mi ml k1 fun x y => y < x
  | .if_icmp .le _ => am_b2r K i lo st mi ml k1 fun x y => x ≤ y
  | .tableswitch _ _ _ _ => am_sw K lo st mi ml k1 sw
  | .lookupswitch _ _ => am_sw K lo st mi ml k1 sw
  | .getfield _ => am_get K i lo st mi ml k1 k2 k3
  | .putfield _ => am_put K i lo st mi ml k1 k2 k3
  | .getstatic _ => (match k2 with
    | 0 => K (i + 1) lo (.ref k1 :: st) mi ml
    | 2 => K (i + 1) lo (.null :: st) mi ml
    | _ => K (i + 1) lo (.int v :: st) mi ml)
  | .iaload => am_iald K i lo st mi ml
  | .baload => am_bald K i lo st mi ml
  | .iastore => am_iast K i lo st mi ml
  | .laload => am_lald K i lo st mi ml
  | .lastore => am_last K i lo st mi ml
  | .aaload => am_aald K i lo st mi ml
  | .arraylength => am_alen K i lo st mi ml
  | .invokevirtual _ => am_need (am_rcv st k1 k2) (am_inv K i lo st mi ml call k1 k2 k3)
  | .invokestatic _ => am_inv K i lo st mi ml call k1 k2 k3
  | .ireturn => (match st with
    | [.int x] => (match k1 with
      | 0 => R (some (.int x)) mi ml
      | 2 => am_i2c x = x ∧ R (some (.int x)) mi ml
      | _ => (x = 0 ∨ x = 1) ∧ R (some (.int x)) mi ml)
    | _ => False)
  | .lreturn => (match st with
    | [.long x] => R (some (.long x)) mi ml
    | _ => False)
  | .areturn => (match st with
    | [.ref x] => R (some (.ref x)) mi ml
    | _ => False)
  | .return_ => (match st with
    | [] => R none mi ml
    | _ => False)
  | _ => False
def am_ex (call : am_C) (t : List am_row) (K : am_K) (R : am_R) (i : Nat) (lo : am_L) (st : List Value) (mi : am_MI) (ml : am_ML) : Prop :=
  match t[i]? with
  | some (_, ins, _, k1, k2, k3, v, sw) => am_st call K R ins k1 k2 k3 v sw i lo st mi ml
  | none => False
/-- one method from a row on: the least predicate closed under its rows, and under forgetting locals -/
def am_wp (call : am_C) (t : List am_row) (R : am_R) : am_K := fun i lo st mi ml =>
  ∀ P : am_K, (∀ i lo st mi ml, am_ex call t P R i lo st mi ml → P i lo st mi ml) → (∀ i lo lo' st mi ml, am_le lo' lo → P i lo' st mi ml → P i lo st mi ml) → P i lo st mi ml
end
section
/-! the small machine: monotone; folding; calls by depth -/
def am_leC (c c' : am_C) : Prop := ∀ g args mi ml (R R' : am_R), (∀ r a b, R r a b → R' r a b) → c g args mi ml R → c' g args mi ml R'
theorem am_need_e {b : Bool} {P : Prop} (h : am_need b P) : b = true ∧ P := by
  cases b
  · exact h.elim
  · exact ⟨rfl, h⟩
theorem am_need_i {b : Bool} {P : Prop} (hb : b = true) (h : P) : am_need b P := by
  subst hb
  exact h
theorem am_need_m {b : Bool} {P P' : Prop} (f : P → P') (h : am_need b P) : am_need b P' := by
  cases b
  · exact h.elim
  · exact f h
section AMM
variable {K K' : am_K} {i : Nat} {lo : am_L} {st : List Value} {mi : am_MI} {ml : am_ML}
theorem am_ldI_m (hK : ∀ i lo st mi ml, K i lo st mi ml → K' i lo st mi ml) {n : Nat} (h : am_ldI K i lo st mi ml n) : am_ldI K' i lo st mi ml n := by
  unfold am_ldI at h ⊢
  split at h
  · first
    | exact hK _ _ _ _ _ h
    | (rename_i e; simp only [e]; exact hK _ _ _ _ _ h)
  · exact h.elim
theorem am_ldJ_m (hK : ∀ i lo st mi ml, K i lo st mi ml → K' i lo st mi ml) {n : Nat} (h : am_ldJ K i lo st mi ml n) : am_ldJ K' i lo st mi ml n := by
  unfold am_ldJ at h ⊢
  split at h
  · first
    | exact hK _ _ _ _ _ h
    | (rename_i e; simp only [e]; exact hK _ _ _ _ _ h)
  · exact h.elim
theorem am_ldA_m (hK : ∀ i lo st mi ml, K i lo st mi ml → K' i lo st mi ml) {n : Nat} (h : am_ldA K i lo st mi ml n) : am_ldA K' i lo st mi ml n := by
  unfold am_ldA at h ⊢
  split at h
  · first
    | exact hK _ _ _ _ _ h
    | (rename_i e; simp only [e]; exact hK _ _ _ _ _ h)
  · exact h.elim
theorem am_stI_m (hK : ∀ i lo st mi ml, K i lo st mi ml → K' i lo st mi ml) {n : Nat} (h : am_stI K i lo st mi ml n) : am_stI K' i lo st mi ml n := by
  unfold am_stI at h ⊢
  split at h
  · first
    | exact hK _ _ _ _ _ h
    | (rename_i e; simp only [e]; exact hK _ _ _ _ _ h)
  · exact h.elim
theorem am_stJ_m (hK : ∀ i lo st mi ml, K i lo st mi ml → K' i lo st mi ml) {n : Nat} (h : am_stJ K i lo st mi ml n) : am_stJ K' i lo st mi ml n := by
  unfold am_stJ at h ⊢
  split at h
  · first
    | exact hK _ _ _ _ _ h
    | (rename_i e; simp only [e]; exact hK _ _ _ _ _ h)
  · exact h.elim
theorem am_stA_m (hK : ∀ i lo st mi ml, K i lo st mi ml → K' i lo st mi ml) {n : Nat} (h : am_stA K i lo st mi ml n) : am_stA K' i lo st mi ml n := by
  unfold am_stA at h ⊢
  split at h
  · first
    | exact hK _ _ _ _ _ h
    | (rename_i e; simp only [e]; exact hK _ _ _ _ _ h)
  · exact h.elim
theorem am_inc_m (hK : ∀ i lo st mi ml, K i lo st mi ml → K' i lo st mi ml) {n : Nat} {v : Int32} (h : am_inc K i lo st mi ml n v) : am_inc K' i lo st mi ml n v := by
  unfold am_inc at h ⊢
  split at h
  · first
    | exact hK _ _ _ _ _ h
    | (rename_i e; simp only [e]; exact hK _ _ _ _ _ h)
  · exact h.elim
theorem am_b2_m (hK : ∀ i lo st mi ml, K i lo st mi ml → K' i lo st mi ml) {f : Int32 → Int32 → Int32} (h : am_b2 K i lo st mi ml f) : am_b2 K' i lo st mi ml f := by
  unfold am_b2 at h ⊢
  split at h
  · first
    | exact hK _ _ _ _ _ h
    | (rename_i e; simp only [e]; exact hK _ _ _ _ _ h)
  · exact h.elim
theorem am_u1_m (hK : ∀ i lo st mi ml, K i lo st mi ml → K' i lo st mi ml) {f : Int32 → Int32} (h : am_u1 K i lo st mi ml f) : am_u1 K' i lo st mi ml f := by
  unfold am_u1 at h ⊢
  split at h
  · first
    | exact hK _ _ _ _ _ h
    | (rename_i e; simp only [e]; exact hK _ _ _ _ _ h)
  · exact h.elim
theorem am_j2_m (hK : ∀ i lo st mi ml, K i lo st mi ml → K' i lo st mi ml) {f : Int64 → Int64 → Int64} (h : am_j2 K i lo st mi ml f) : am_j2 K' i lo st mi ml f := by
  unfold am_j2 at h ⊢
  split at h
  · first
    | exact hK _ _ _ _ _ h
    | (rename_i e; simp only [e]; exact hK _ _ _ _ _ h)
  · exact h.elim
theorem am_bd_m (hK : ∀ i lo st mi ml, K i lo st mi ml → K' i lo st mi ml) {f : Int32 → Int32 → Int32} (h : am_bd K i lo st mi ml f) : am_bd K' i lo st mi ml f := by
  unfold am_bd at h ⊢
  split at h
  · first
    | exact ⟨h.1, hK _ _ _ _ _ h.2⟩
    | (rename_i e; simp only [e]; exact ⟨h.1, hK _ _ _ _ _ h.2⟩)
  · exact h.elim
theorem am_iald_m (hK : ∀ i lo st mi ml, K i lo st mi ml → K' i lo st mi ml)  (h : am_iald K i lo st mi ml ) : am_iald K' i lo st mi ml  := by
  unfold am_iald at h ⊢
  split at h
  · first
    | exact am_need_m (fun h => ⟨h.1, hK _ _ _ _ _ h.2⟩) h
    | (rename_i e; simp only [e]; exact am_need_m (fun h => ⟨h.1, hK _ _ _ _ _ h.2⟩) h)
  · exact h.elim
theorem am_iast_m (hK : ∀ i lo st mi ml, K i lo st mi ml → K' i lo st mi ml)  (h : am_iast K i lo st mi ml ) : am_iast K' i lo st mi ml  := by
  unfold am_iast at h ⊢
  split at h
  · first
    | exact am_need_m (fun h => ⟨h.1, hK _ _ _ _ _ h.2⟩) h
    | (rename_i e; simp only [e]; exact am_need_m (fun h => ⟨h.1, hK _ _ _ _ _ h.2⟩) h)
  · exact h.elim
theorem am_bald_m (hK : ∀ i lo st mi ml, K i lo st mi ml → K' i lo st mi ml)  (h : am_bald K i lo st mi ml ) : am_bald K' i lo st mi ml  := by
  unfold am_bald at h ⊢
  split at h
  · first
    | exact am_need_m (fun h => ⟨h.1, hK _ _ _ _ _ h.2⟩) h
    | (rename_i e; simp only [e]; exact am_need_m (fun h => ⟨h.1, hK _ _ _ _ _ h.2⟩) h)
  · exact h.elim
theorem am_lald_m (hK : ∀ i lo st mi ml, K i lo st mi ml → K' i lo st mi ml)  (h : am_lald K i lo st mi ml ) : am_lald K' i lo st mi ml  := by
  unfold am_lald at h ⊢
  split at h
  · first
    | exact am_need_m (fun h => ⟨h.1, hK _ _ _ _ _ h.2⟩) h
    | (rename_i e; simp only [e]; exact am_need_m (fun h => ⟨h.1, hK _ _ _ _ _ h.2⟩) h)
  · exact h.elim
theorem am_last_m (hK : ∀ i lo st mi ml, K i lo st mi ml → K' i lo st mi ml)  (h : am_last K i lo st mi ml ) : am_last K' i lo st mi ml  := by
  unfold am_last at h ⊢
  split at h
  · first
    | exact am_need_m (fun h => ⟨h.1, hK _ _ _ _ _ h.2⟩) h
    | (rename_i e; simp only [e]; exact am_need_m (fun h => ⟨h.1, hK _ _ _ _ _ h.2⟩) h)
  · exact h.elim
theorem am_aald_m (hK : ∀ i lo st mi ml, K i lo st mi ml → K' i lo st mi ml)  (h : am_aald K i lo st mi ml ) : am_aald K' i lo st mi ml  := by
  unfold am_aald at h ⊢
  split at h
  · first
    | exact am_need_m (fun h => ⟨h.1, hK _ _ _ _ _ h.2⟩) h
    | (rename_i e; simp only [e]; exact am_need_m (fun h => ⟨h.1, hK _ _ _ _ _ h.2⟩) h)
  · exact h.elim
theorem am_alen_m (hK : ∀ i lo st mi ml, K i lo st mi ml → K' i lo st mi ml)  (h : am_alen K i lo st mi ml ) : am_alen K' i lo st mi ml  := by
  unfold am_alen at h ⊢
  split at h
  · first
    | exact am_need_m (fun h => hK _ _ _ _ _ h) h
    | (rename_i e; simp only [e]; exact am_need_m (fun h => hK _ _ _ _ _ h) h)
  · exact h.elim
theorem am_dup_m (hK : ∀ i lo st mi ml, K i lo st mi ml → K' i lo st mi ml)  (h : am_dup K i lo st mi ml ) : am_dup K' i lo st mi ml  := by
  unfold am_dup at h ⊢
  split at h
  · first
    | exact am_need_m (fun h => hK _ _ _ _ _ h) h
    | (rename_i e; simp only [e]; exact am_need_m (fun h => hK _ _ _ _ _ h) h)
  · exact h.elim
theorem am_dupx1_m (hK : ∀ i lo st mi ml, K i lo st mi ml → K' i lo st mi ml)  (h : am_dupx1 K i lo st mi ml ) : am_dupx1 K' i lo st mi ml  := by
  unfold am_dupx1 at h ⊢
  split at h
  · first
    | exact am_need_m (fun h => hK _ _ _ _ _ h) h
    | (rename_i e; simp only [e]; exact am_need_m (fun h => hK _ _ _ _ _ h) h)
  · exact h.elim
theorem am_pop_m (hK : ∀ i lo st mi ml, K i lo st mi ml → K' i lo st mi ml)  (h : am_pop K i lo st mi ml ) : am_pop K' i lo st mi ml  := by
  unfold am_pop at h ⊢
  split at h
  · first
    | exact am_need_m (fun h => hK _ _ _ _ _ h) h
    | (rename_i e; simp only [e]; exact am_need_m (fun h => hK _ _ _ _ _ h) h)
  · exact h.elim
theorem am_bic_m (hK : ∀ i lo st mi ml, K i lo st mi ml → K' i lo st mi ml) {f : Int32 → Int32 → Int32} (h : am_bic K i lo st mi ml f) : am_bic K' i lo st mi ml f := by
  unfold am_bic at h ⊢
  split at h
  · first
    | exact am_need_m (fun h => hK _ _ _ _ _ h) h
    | (rename_i e; simp only [e]; exact am_need_m (fun h => hK _ _ _ _ _ h) h)
  · exact h.elim
theorem am_dup2_m (hK : ∀ i lo st mi ml, K i lo st mi ml → K' i lo st mi ml)  (h : am_dup2 K i lo st mi ml) : am_dup2 K' i lo st mi ml := by
  unfold am_dup2 at h ⊢
  split at h
  · exact hK _ _ _ _ _ h
  · rename_i v w st hne
    exact am_need_m (fun h => hK _ _ _ _ _ h) h
  · exact h.elim
theorem am_br_m (hK : ∀ i lo st mi ml, K i lo st mi ml → K' i lo st mi ml) {t : Nat} {c : Int32 → Prop} (h : am_br K i lo st mi ml t c) : am_br K' i lo st mi ml t c := by
  unfold am_br at h ⊢
  split at h
  · exact ⟨fun q => hK _ _ _ _ _ (h.1 q), fun q => hK _ _ _ _ _ (h.2 q)⟩
  · exact h.elim
theorem am_b2r_m (hK : ∀ i lo st mi ml, K i lo st mi ml → K' i lo st mi ml) {t : Nat} {c : Int32 → Int32 → Prop} (h : am_b2r K i lo st mi ml t c) : am_b2r K' i lo st mi ml t c := by
  unfold am_b2r at h ⊢
  split at h
  · exact ⟨fun q => hK _ _ _ _ _ (h.1 q), fun q => hK _ _ _ _ _ (h.2 q)⟩
  · exact h.elim
theorem am_swt_m (hK : ∀ i lo st mi ml, K i lo st mi ml → K' i lo st mi ml) {x : Int32} {d : Nat} (sw : List (Int32 × Nat)) (h : am_swt K lo st mi ml x d sw) : am_swt K' lo st mi ml x d sw := by
  induction sw with
  | nil => exact hK _ _ _ _ _ h
  | cons a r ih => exact ⟨fun q => hK _ _ _ _ _ (h.1 q), fun q => ih (h.2 q)⟩
theorem am_sw_m (hK : ∀ i lo st mi ml, K i lo st mi ml → K' i lo st mi ml) {d : Nat} {sw : List (Int32 × Nat)} (h : am_sw K lo st mi ml d sw) : am_sw K' lo st mi ml d sw := by
  unfold am_sw at h ⊢
  split at h
  · exact am_swt_m hK sw h
  · exact h.elim
theorem am_get_m (hK : ∀ i lo st mi ml, K i lo st mi ml → K' i lo st mi ml) {ci sl kd : Nat} (h : am_get K i lo st mi ml ci sl kd) : am_get K' i lo st mi ml ci sl kd := by
  unfold am_get at h ⊢
  split at h
  · refine am_need_m (fun h2 => ?_) h
    split at h2
    · exact hK _ _ _ _ _ h2
    · exact hK _ _ _ _ _ h2
  · exact h.elim
theorem am_put_m (hK : ∀ i lo st mi ml, K i lo st mi ml → K' i lo st mi ml) {ci sl kd : Nat} (h : am_put K i lo st mi ml ci sl kd) : am_put K' i lo st mi ml ci sl kd := by
  unfold am_put at h ⊢
  split at h
  · refine am_need_m (fun h2 => ?_) h
    split at h2
    · exact hK _ _ _ _ _ h2
    · exact ⟨h2.1, hK _ _ _ _ _ h2.2⟩
    · exact h2.elim
  · exact h.elim
theorem am_cpy_m (hK : ∀ i lo st mi ml, K i lo st mi ml → K' i lo st mi ml)  (h : am_cpy K i lo st mi ml) : am_cpy K' i lo st mi ml := by
  unfold am_cpy at h ⊢
  split at h
  · refine am_need_m (fun h => ⟨h.1, h.2.1, h.2.2.1, h.2.2.2.1, h.2.2.2.2.1, ?_⟩) h
    have h2 := h.2.2.2.2.2
    split at h2
    · exact hK _ _ _ _ _ h2
    · exact hK _ _ _ _ _ h2
    · exact h2.elim
  · exact h.elim
theorem am_rv_m {k k' : am_MI → am_ML → Prop} (h : ∀ a b, k a b → k' a b) (r a b) (q : am_rv k r a b) : am_rv k' r a b := ⟨q.1, h _ _ q.2⟩
theorem am_ri_m {k k' : Int32 → am_MI → am_ML → Prop} (h : ∀ x a b, k x a b → k' x a b) (r a b) (q : am_ri k r a b) : am_ri k' r a b := q.elim fun x w => ⟨x, w.1, h _ _ _ w.2⟩
theorem am_rj_m {k k' : Int64 → am_MI → am_ML → Prop} (h : ∀ x a b, k x a b → k' x a b) (r a b) (q : am_rj k r a b) : am_rj k' r a b := q.elim fun x w => ⟨x, w.1, h _ _ _ w.2⟩
theorem am_rr_m {k k' : Nat → am_MI → am_ML → Prop} (h : ∀ x a b, k x a b → k' x a b) (r a b) (q : am_rr k r a b) : am_rr k' r a b := q.elim fun x w => ⟨x, w.1, h _ _ _ w.2⟩
theorem am_call0_m (hK : ∀ i lo st mi ml, K i lo st mi ml → K' i lo st mi ml) {c c' : am_C} (hC : am_leC c c') {g n rk : Nat} (h : am_call0 K i lo st mi ml c g n rk) : am_call0 K' i lo st mi ml c' g n rk := by
  unfold am_call0 at h ⊢
  refine am_need_m (fun h => hC _ _ _ _ _ _ ?_ h) h
  intro r a b q
  match rk with
  | 0 => exact am_rv_m (fun a b q => hK _ _ _ _ _ q) _ _ _ q
  | 1 => exact am_ri_m (fun x a b q => hK _ _ _ _ _ q) _ _ _ q
  | 2 => exact am_rj_m (fun x a b q => hK _ _ _ _ _ q) _ _ _ q
  | _ + 3 => exact am_rr_m (fun x a b q => hK _ _ _ _ _ q) _ _ _ q
theorem am_inv_m (hK : ∀ i lo st mi ml, K i lo st mi ml → K' i lo st mi ml) {c c' : am_C} (hC : am_leC c c') {g n rk : Nat} (h : am_inv K i lo st mi ml c g n rk) : am_inv K' i lo st mi ml c' g n rk := by
  unfold am_inv at h ⊢
  split at h
  · exact am_bic_m hK h
  · exact am_bic_m hK h
  · exact am_cpy_m hK h
  · exact h.elim
  · exact am_call0_m hK hC h
theorem am_ite_m {p : Prop} {a b a' b' : Prop} (h : (p → a) ∧ (¬ p → b)) (ha : a → a') (hb : b → b') : (p → a') ∧ (¬ p → b') := ⟨fun q => ha (h.1 q), fun q => hb (h.2 q)⟩
set_option maxHeartbeats 4000000 in
theorem am_st_m (hK : ∀ i lo st mi ml, K i lo st mi ml → K' i lo st mi ml) {c c' : am_C} (hC : am_leC c c') {R R' : am_R} (hR : ∀ r a b, R r a b → R' r a b) {ins : Instr} {k1 k2 k3 : Nat} {v : Int32} {sw : List (Int32 × Nat)}
    (h : am_st c K R ins k1 k2 k3 v sw i lo st mi ml) : am_st c' K' R' ins k1 k2 k3 v sw i lo st mi ml := by
  unfold am_st at h
  split at h
  all_goals first
    | exact am_ldA_m hK h
    | exact am_ldI_m hK h
    | exact am_ldJ_m hK h
    | exact am_stA_m hK h
    | exact am_stI_m hK h
    | exact am_stJ_m hK h
    | exact am_inc_m hK h
    | exact hK _ _ _ _ _ h
    | exact am_dup_m hK h
    | exact am_dupx1_m hK h
    | exact am_dup2_m hK h
    | exact am_pop_m hK h
    | exact am_b2_m hK h
    | exact am_bd_m hK h
    | exact am_u1_m hK h
    | exact am_j2_m hK h
    | exact am_br_m hK h
    | exact am_b2r_m hK h
    | exact am_sw_m hK h
    | exact am_get_m hK h
    | exact am_put_m hK h
    | exact am_iald_m hK h
    | exact am_bald_m hK h
    | exact am_iast_m hK h
    | exact am_lald_m hK h
    | exact am_last_m hK h
    | exact am_aald_m hK h
    | exact am_alen_m hK h
    | exact am_need_m (fun h => am_inv_m hK hC h) h
    | exact am_inv_m hK hC h
    | exact h.elim
    | (unfold am_st; split at h <;> first | exact hK _ _ _ _ _ h | exact hR _ _ _ h | exact h.elim | (rename_i hne; split <;> first | exact (hne rfl).elim | exact hK _ _ _ _ _ h) | (rename_i n1 n2; split <;> first | exact (n1 rfl).elim | exact (n2 rfl).elim | exact hK _ _ _ _ _ h))
    | (unfold am_st; split at h <;> (try split at h) <;> first | exact hR _ _ _ h | exact ⟨h.1, hR _ _ _ h.2⟩ | exact h.elim | (rename_i hne; split <;> first | exact (hne rfl).elim | exact ⟨h.1, hR _ _ _ h.2⟩) | (rename_i n1 n2; split <;> first | exact (n1 rfl).elim | exact (n2 rfl).elim | exact ⟨h.1, hR _ _ _ h.2⟩))
theorem am_ex_m (hK : ∀ i lo st mi ml, K i lo st mi ml → K' i lo st mi ml) {c c' : am_C} (hC : am_leC c c') {R R' : am_R} (hR : ∀ r a b, R r a b → R' r a b) {t : List am_row}
    (h : am_ex c t K R i lo st mi ml) : am_ex c' t K' R' i lo st mi ml := by
  unfold am_ex at h ⊢
  split at h
  · exact am_st_m hK hC hR h
  · exact h.elim
end AMM
theorem am_leC_r (c : am_C) (hc : ∀ g args mi ml (R R' : am_R), (∀ r a b, R r a b → R' r a b) → c g args mi ml R → c g args mi ml R') : am_leC c c := hc
/-- one row on -/
theorem am_wp_i {c : am_C} (hc : am_leC c c) {t : List am_row} {R : am_R} {i lo st mi ml} (h : am_ex c t (am_wp c t R) R i lo st mi ml) : am_wp c t R i lo st mi ml :=
  fun P h1 h2 => h1 _ _ _ _ _ (am_ex_m (fun _ _ _ _ _ q => q P h1 h2) hc (fun _ _ _ q => q) h)
/-- forgetting locals -/
theorem am_wp_l {c : am_C} {t : List am_row} {R : am_R} {i lo lo' st mi ml} (hl : am_le lo' lo) (h : am_wp c t R i lo' st mi ml) : am_wp c t R i lo st mi ml :=
  fun P h1 h2 => h2 _ _ _ _ _ _ hl (h P h1 h2)
theorem am_wp_m {c c' : am_C} (hc : am_leC c c') {t : List am_row} {R R' : am_R} (hR : ∀ r a b, R r a b → R' r a b) {i lo st mi ml} (h : am_wp c t R i lo st mi ml) : am_wp c' t R' i lo st mi ml :=
  fun P h1 h2 => h P (fun _ _ _ _ _ q => h1 _ _ _ _ _ (am_ex_m (fun _ _ _ _ _ q => q) hc hR q)) h2
/-- a call of a method by its number, its own calls at most d deep -/
def am_call : Nat → am_C
  | 0 => fun _ _ _ _ _ => False
  | d + 1 => fun f args mi ml R => am_cat args ≤ (am_m f).2.2.1 ∧ am_wp (am_call d) (am_tab f) R 0 (am_in (am_m f).2.2.1 args) [] mi ml
theorem am_call_c : ∀ d, am_leC (am_call d) (am_call d)
  | 0 => fun _ _ _ _ _ _ _ h => h.elim
  | d + 1 => fun _ _ _ _ _ _ hR h => ⟨h.1, am_wp_m (am_call_c d) hR h.2⟩
theorem am_call_s : ∀ d, am_leC (am_call d) (am_call (d + 1))
  | 0 => fun _ _ _ _ _ _ _ h => h.elim
  | d + 1 => fun _ _ _ _ _ _ hR h => ⟨h.1, am_wp_m (am_call_s d) hR h.2⟩
theorem am_call_d {d e : Nat} (h : d ≤ e) : am_leC (am_call d) (am_call e) := by
  induction h with
  | refl => exact am_call_c d
  | step _ ih => exact fun _ _ _ _ _ _ hR q => am_call_s _ _ _ _ _ _ _ (fun _ _ _ w => w) (ih _ _ _ _ _ _ hR q)
theorem am_call_w {d : Nat} {f args mi ml} {R R' : am_R} (hR : ∀ r a b, R r a b → R' r a b) (h : am_call d f args mi ml R) : am_call d f args mi ml R' := am_call_c d _ _ _ _ _ _ hR h
theorem am_call_i {d : Nat} {f args mi ml} {R : am_R} (hl : am_cat args ≤ (am_m f).2.2.1) (h : am_wp (am_call d) (am_tab f) R 0 (am_in (am_m f).2.2.1 args) [] mi ml) : am_call (d + 1) f args mi ml R := ⟨hl, h⟩
end
section
/-! the world that holds the small machine's memory -/
abbrev am_G : Type := (Nat → Nat) × va_G × (Nat × Nat × Nat × Nat) × am_MI
def am_tv (G : am_G) : Value → Value
  | .ref a => .ref (G.1 a)
  | .null => if G.2.2.2 141 0 = 0 then .null else .ref (G.1 141)
  | v => v
/-- how many cells the memory has: with b, or without -/
def am_NN (G : am_G) : Nat := if G.2.2.2 78 100000 = 37 then 79 else 78
abbrev am_N : Nat := 114
def am_fd (c j : Nat) : String := match vwCl[c]? with
  | some r => (r.2.1 j).2.2.1
  | none => "I"
def am_fv (G : am_G) (mi : am_MI) (a c j : Nat) : Value := if am_isr (am_fd c j) = true then .ref (G.1 (am_rf a j)) else .int (mi a j)
def am_fs (G : am_G) (mi : am_MI) (a c n : Nat) : List Value := (List.range n).map (am_fv G mi a c)
def am_en (G : am_G) (mi : am_MI) (ml : am_ML) (a : Nat) : va_E := match am_ck a with
  | (1, c, n, _) => .inr (c, am_fs G mi a c n)
  | (2, n, _, _) => .inl (G.2.2.1.1, n, .inl (mi a))
  | (10, _, _, _) => .inl (G.2.2.1.1, 37, .inl (mi a))
  | (3, n, _, _) => .inl (G.2.2.1.2.1, n, .inr (.inl (ml a)))
  | (_, n, f, d) => .inl (if d = 1 then G.2.2.1.2.2.1 else G.2.2.1.2.2.2, n, .inr (.inr (.inr (.inr (fun j => some (G.1 (f + d * j)))))))
def am_wl (G : am_G) (mi : am_MI) (ml : am_ML) : va_W := (List.range (am_NN G)).map fun a => (G.1 a, am_en G mi ml a)
def am_A (G : am_G) : Nat → Prop := fun q => ∃ k, k < am_NN G ∧ q = G.1 k
def am_ty (G : am_G) : List (ClassId × FieldType) := [(G.2.2.1.1, .int), (G.2.2.1.2.1, .long), (G.2.2.1.2.2.1, .array .int), (G.2.2.1.2.2.2, .object "DoorsForThree$Shelf")]
def am_sx (G : am_G) (U : State) (H : Heap) : Prop :=
  (∀ k, 114 ≤ k → k ≤ 116 → va_Z (am_stn k).1 (am_stn k).2 "[I" (.ref (G.1 k)) (am_A G) U H ∧ va_T .int (G.1 k) (am_n k) (fun j => .int (G.2.2.2 k j)) (am_A G) U H) ∧
  va_Z "java/lang/String" "COMPACT_STRINGS" "Z" (.int 1) (am_A G) U H ∧
  va_T .int (G.1 117) (G.2.2.2 117 100000).toNatClampNeg (fun j => .int (G.2.2.2 117 j)) (am_A G) U H ∧
  (∀ q ∈ am_strs, vk_R "DoorsForThree$Law" q.1 q.2.1 (G.1 q.2.2) U) ∧
  (∀ k, am_kd k = 7 → va_O "java/lang/String" (G.1 k) (am_A G) U H ∧ va_OF "java/lang/String" "coder" "B" (.int (G.2.2.2 k 1)) (G.1 k) (am_A G) U H ∧ va_OF "java/lang/String" "value" "[B" (.ref (G.1 (am_rf k 0))) (G.1 k) (am_A G) U H) ∧
  (∀ k, am_kd k = 8 ∨ am_kd k = 9 → va_T .byte (G.1 k) (am_len G.2.2.2 k) (fun j => .int (G.2.2.2 k j)) (am_A G) U H) ∧
  va_Z "jdk/internal/util/Preconditions" "SIOOBE_FORMATTER" "Ljava/util/function/BiFunction;" (am_tv G .null) (am_A G) U H ∧
  ∀ a i b n d h, Cond.fieldLinkNest a i b n d h ∈ lw_tbl → va_Nw (.fieldLinkNest a i b n d h) U
def am_hp (G : am_G) (H : Heap) (mi : am_MI) (ml : am_ML) : Prop := va_P G.2.1 vwCl (am_wl G mi ml) H ∧ va_D (am_A G) (am_wl G mi ml) ∧ (∀ c, am_N ≤ c → mi c = G.2.2.2 c) ∧ mi 78 100000 = G.2.2.2 78 100000 ∧ (G.2.2.2 78 100000 = 37 ∨ G.2.2.2 78 100000 = 0)
def am_wd (G : am_G) (U : State) (H : Heap) (mi : am_MI) (ml : am_ML) : Prop := am_hp G H mi ml ∧ va_K G.2.1 vwCl (am_ty G) U ∧ am_sx G U H
theorem am_sx_on {G : am_G} {s U : State} {H : Heap} (hW : s.WarmedH U.vm) (hq : ∀ a : Nat, a < s.heap.size → ¬ am_A G a → H[a]? = s.heap[a]?) (h : am_sx G s s.heap) : am_sx G U H := by
  obtain ⟨h1, h2, h3, h4, h5, h6, h8, h7⟩ := h
  have hv := hW.alike
  refine ⟨fun k a b => ⟨va_Z.moved hv ((h1 k a b).1.kept hq), va_T.moved hv ((h1 k a b).2.kept hq)⟩, va_Z.moved hv (h2.kept hq), va_T.moved hv (h3.kept hq), fun q a => (h4 q a).warm hW, fun k a => ?_, fun k a => va_T.moved hv ((h6 k a).kept hq), va_Z.moved hv (h8.kept hq), fun a i b n d h w => (h7 a i b n d h w).warmF hW⟩
  obtain ⟨g1, g2, g3⟩ := h5 k a
  exact ⟨va_O.moved hv (g1.kept hq), va_OF.moved hv (g2.kept hq), va_OF.moved hv (g3.kept hq)⟩
theorem am_sx_vm {G : am_G} {u U : State} {H : Heap} (hv : U.vm = u.vm) (h : am_sx G u H) : am_sx G U H := by
  obtain ⟨h1, h2, h3, h4, h5, h6, h8, h7⟩ := h
  have hv2 : u.vm.Alike U.vm := by rw [hv]; exact Vm.Alike.refl _
  refine ⟨fun k a b => ⟨va_Z.moved hv2 (h1 k a b).1, va_T.moved hv2 (h1 k a b).2⟩, va_Z.moved hv2 h2, va_T.moved hv2 h3, fun q a => (h4 q a).same hv, fun k a => ?_, fun k a => va_T.moved hv2 (h6 k a), va_Z.moved hv2 h8, fun a i b n d h w => (h7 a i b n d h w).same rfl hv.symm⟩
  obtain ⟨g1, g2, g3⟩ := h5 k a
  exact ⟨va_O.moved hv2 g1, va_OF.moved hv2 g2, va_OF.moved hv2 g3⟩
theorem am_wd_vm {G : am_G} {u U : State} {H : Heap} {mi ml} (hv : U.vm = u.vm) (h : am_wd G u H mi ml) : am_wd G U H mi ml :=
  ⟨h.1, h.2.1.moved (by rw [hv]; exact Vm.Alike.refl _), am_sx_vm hv h.2.2⟩
/-! facts of the cells -/
theorem am_nth_out {α : Type} {d : α} : ∀ (l : List α) (i : Nat), l.length ≤ i → am_nth d l i = d
  | [], _, _ => rfl
  | _ :: _, 0, h => absurd h (by simp)
  | _ :: l, i + 1, h => am_nth_out l i (by simpa using h)
theorem am_ck_out {a : Nat} (h : 140 ≤ a) : am_ck a = (0, 0, 0, 0) := am_nth_out _ _ (by exact h)
def am_okcell (a : Nat) : Bool := match am_kd a with
  | 0 => true
  | 1 => decide (a < 78) && (match vwCl[am_n a]? with
    | some r => r.2.2 == am_f a
    | none => false)
  | 2 => decide (a < 78)
  | 3 => decide (a < 78)
  | 4 => decide (a < 78) && (am_d a == 1 || am_d a == 2)
  | 5 => decide (114 ≤ a) && decide (a ≤ 116)
  | 6 => a == 117
  | 7 => decide (118 ≤ a)
  | 8 => decide (118 ≤ a)
  | 9 => decide (118 ≤ a)
  | 10 => a == 78
  | _ => false
theorem am_okcells : ∀ a, a < 140 → am_okcell a = true := by decide +kernel
theorem am_okcell_of {a k : Nat} (h : am_kd a = k) (hk : 1 ≤ k) : am_okcell a = true := by
  refine am_okcells a (Nat.lt_of_not_le fun q => ?_)
  unfold am_kd at h
  rw [am_ck_out q] at h
  simp only at h
  omega
theorem am_k1 {a : Nat} (h : am_kd a = 1) : a < 78 ∧ ∃ C T, vwCl[am_n a]? = some (C, T, am_f a) := by
  have z := am_okcell_of h (by omega)
  unfold am_okcell at z
  rw [h] at z
  simp only [Bool.and_eq_true, decide_eq_true_eq] at z
  refine ⟨z.1, ?_⟩
  have z2 := z.2
  split at z2
  · rename_i r e
    exact ⟨r.1, r.2.1, by rw [e, ← eq_of_beq z2]⟩
  · cases z2
theorem am_k2 {a : Nat} (h : am_kd a = 2) : a < 78 := by
  have z := am_okcell_of h (by omega)
  unfold am_okcell at z
  rw [h] at z
  simpa using z
theorem am_k3 {a : Nat} (h : am_kd a = 3) : a < 78 := by
  have z := am_okcell_of h (by omega)
  unfold am_okcell at z
  rw [h] at z
  simpa using z
theorem am_k4 {a : Nat} (h : am_kd a = 4) : a < 78 ∧ (am_d a = 1 ∨ am_d a = 2) := by
  have z := am_okcell_of h (by omega)
  unfold am_okcell at z
  rw [h] at z
  simpa using z
theorem am_k5 {a : Nat} (h : am_kd a = 5) : 114 ≤ a ∧ a ≤ 116 := by
  have z := am_okcell_of h (by omega)
  unfold am_okcell at z
  rw [h] at z
  simpa using z
theorem am_k6 {a : Nat} (h : am_kd a = 6) : a = 117 := by
  have z := am_okcell_of h (by omega)
  unfold am_okcell at z
  rw [h] at z
  simpa using z
theorem am_k7 {a : Nat} (h : am_kd a = 7) : 118 ≤ a := by
  have z := am_okcell_of h (by omega)
  unfold am_okcell at z
  rw [h] at z
  simpa using z
theorem am_k8 {a : Nat} (h : am_kd a = 8) : 118 ≤ a := by
  have z := am_okcell_of h (by omega)
  unfold am_okcell at z
  rw [h] at z
  simpa using z
theorem am_k9 {a : Nat} (h : am_kd a = 9) : 118 ≤ a := by
  have z := am_okcell_of h (by omega)
  unfold am_okcell at z
  rw [h] at z
  simpa using z
theorem am_k10 {a : Nat} (h : am_kd a = 10) : a = 78 := by
  have z := am_okcell_of h (by omega)
  unfold am_okcell at z
  rw [h] at z
  simpa using z
theorem am_78 {G : am_G} {a : Nat} (h : a < 78) : a < am_NN G := by
  unfold am_NN
  split <;> omega
theorem am_NN_le {G : am_G} : am_NN G ≤ 79 := by
  unfold am_NN
  split <;> omega
theorem am_en1 {G : am_G} {mi ml} {a : Nat} (h : am_kd a = 1) : am_en G mi ml a = .inr (am_n a, am_fs G mi a (am_n a) (am_f a)) := by
  unfold am_kd at h
  unfold am_en am_n am_f
  rcases e : am_ck a with ⟨k, n, f, d⟩
  rw [e] at h
  subst h
  rfl
theorem am_en2 {G : am_G} {mi ml} {a : Nat} (h : am_kd a = 2) : am_en G mi ml a = .inl (G.2.2.1.1, am_n a, .inl (mi a)) := by
  unfold am_kd at h
  unfold am_en am_n
  rcases e : am_ck a with ⟨k, n, f, d⟩
  rw [e] at h
  subst h
  rfl
theorem am_en10 {G : am_G} {mi ml} {a : Nat} (h : am_kd a = 10) : am_en G mi ml a = .inl (G.2.2.1.1, 37, .inl (mi a)) := by
  unfold am_kd at h
  unfold am_en
  rcases e : am_ck a with ⟨k, n, f, d⟩
  rw [e] at h
  subst h
  rfl
theorem am_en3 {G : am_G} {mi ml} {a : Nat} (h : am_kd a = 3) : am_en G mi ml a = .inl (G.2.2.1.2.1, am_n a, .inr (.inl (ml a))) := by
  unfold am_kd at h
  unfold am_en am_n
  rcases e : am_ck a with ⟨k, n, f, d⟩
  rw [e] at h
  subst h
  rfl
theorem am_en4 {G : am_G} {mi ml} {a : Nat} (h : am_kd a = 4) : am_en G mi ml a = .inl (if am_d a = 1 then G.2.2.1.2.2.1 else G.2.2.1.2.2.2, am_n a, .inr (.inr (.inr (.inr (fun j => some (G.1 (am_f a + am_d a * j))))))) := by
  unfold am_kd at h
  unfold am_en am_n am_f am_d
  rcases e : am_ck a with ⟨k, n, f, d⟩
  rw [e] at h
  subst h
  rfl
theorem am_wl_at {G : am_G} {mi ml} {a : Nat} (h : a < am_NN G) : (am_wl G mi ml)[a]? = some (G.1 a, am_en G mi ml a) := by
  unfold am_wl
  rw [List.getElem?_map, List.getElem?_range h]
  rfl
/-- writing an entry in the world is writing the memory -/
theorem am_wl_set {G : am_G} {mi mi' ml ml'} {a : Nat} {v : va_E} (hv : am_en G mi' ml' a = v) (ho : ∀ b, b < am_NN G → ¬ b = a → am_en G mi' ml' b = am_en G mi ml b) : (am_wl G mi ml).set a (G.1 a, v) = am_wl G mi' ml' := by
  apply List.ext_getElem?
  intro k
  rw [List.getElem?_set]
  by_cases hk : k < am_NN G
  · rw [am_wl_at (mi := mi') (ml := ml') hk]
    by_cases e : a = k
    · subst e
      rw [if_pos rfl, if_pos (by unfold am_wl; simpa using hk), hv]
    · rw [if_neg e, am_wl_at hk, ho k hk (fun q => e q.symm)]
  · have hn : (am_wl G mi' ml')[k]? = none := by
      rw [List.getElem?_eq_none]
      unfold am_wl
      simpa using Nat.not_lt.mp hk
    rw [hn]
    by_cases e : a = k
    · subst e
      rw [if_pos rfl, if_neg (by unfold am_wl; simpa using hk)]
    · rw [if_neg e, List.getElem?_eq_none]
      unfold am_wl
      simpa using Nat.not_lt.mp hk
theorem am_ui_o {mi : am_MI} {a j : Nat} {x : Int32} {b : Nat} (h : ¬ b = a) : am_ui mi a j x b = mi b := by
  funext i
  unfold am_ui
  rw [if_neg (fun q => h q.1)]
theorem am_ul_o {ml : am_ML} {a j : Nat} {x : Int64} {b : Nat} (h : ¬ b = a) : am_ul ml a j x b = ml b := by
  funext i
  unfold am_ul
  rw [if_neg (fun q => h q.1)]
theorem am_ci_o {mi : am_MI} {a0 sp a1 dp n b : Nat} (h : ¬ b = a1) : am_ci mi a0 sp a1 dp n b = mi b := by
  funext i
  unfold am_ci
  rw [if_neg (fun q => h q.1)]
theorem am_cj_o {ml : am_ML} {a0 sp a1 dp n b : Nat} (h : ¬ b = a1) : am_cj ml a0 sp a1 dp n b = ml b := by
  funext i
  unfold am_cj
  rw [if_neg (fun q => h q.1)]
/-- the entry of a cell reads its own row of the memory alone -/
theorem am_en_c {G : am_G} {mi mi' ml ml'} {b : Nat} (h1 : mi' b = mi b) (h2 : ml' b = ml b) : am_en G mi' ml' b = am_en G mi ml b := by
  unfold am_en am_fs am_fv
  rw [h1, h2]
theorem am_ui_a {mi : am_MI} {a j : Nat} {x : Int32} : am_ui mi a j x a = upd (mi a) j x := by
  funext i
  unfold am_ui upd
  by_cases h : i = j
  · rw [if_pos ⟨rfl, h⟩, if_pos h]
  · rw [if_neg (fun q => h q.2), if_neg h]
theorem am_ul_a {ml : am_ML} {a j : Nat} {x : Int64} : am_ul ml a j x a = vp_updL (ml a) j x := by
  funext i
  unfold am_ul vp_updL
  by_cases h : i = j
  · rw [if_pos ⟨rfl, h⟩, if_pos h]
  · rw [if_neg (fun q => h q.2), if_neg h]
theorem am_ci_a {mi : am_MI} {a0 sp a1 dp n : Nat} : am_ci mi a0 sp a1 dp n a1 = va_cpy (mi a0) (mi a1) sp dp n := by
  funext i
  unfold am_ci va_cpy
  by_cases h : dp ≤ i ∧ i < dp + n
  · rw [if_pos ⟨rfl, h⟩, if_pos h]
  · rw [if_neg (fun q => h q.2), if_neg h]
theorem am_cj_a {ml : am_ML} {a0 sp a1 dp n : Nat} : am_cj ml a0 sp a1 dp n a1 = va_cpy (ml a0) (ml a1) sp dp n := by
  funext i
  unfold am_cj va_cpy
  by_cases h : dp ≤ i ∧ i < dp + n
  · rw [if_pos ⟨rfl, h⟩, if_pos h]
  · rw [if_neg (fun q => h q.2), if_neg h]
def am_cst (G : am_G) (mi : am_MI) : Prop := (∀ c, am_N ≤ c → mi c = G.2.2.2 c) ∧ mi 78 100000 = G.2.2.2 78 100000 ∧ (G.2.2.2 78 100000 = 37 ∨ G.2.2.2 78 100000 = 0)
theorem am_hp_ui {G : am_G} {mi : am_MI} {a j : Nat} {x : Int32} (ha : a < 78) (h : am_cst G mi) : am_cst G (am_ui mi a j x) :=
  ⟨fun c hc => by have hd : 114 ≤ c := hc; rw [am_ui_o (by omega)]; exact h.1 c hc, by rw [am_ui_o (by omega)]; exact h.2.1, h.2.2⟩
theorem am_hp_ub {G : am_G} {mi : am_MI} {j : Nat} {x : Int32} (hj : j < 37) (h : am_cst G mi) : am_cst G (am_ui mi 78 j x) :=
  ⟨fun c hc => by have hd : 114 ≤ c := hc; rw [am_ui_o (by omega)]; exact h.1 c hc, by unfold am_ui; rw [if_neg (by omega)]; exact h.2.1, h.2.2⟩
theorem am_hp_ci {G : am_G} {mi : am_MI} {a0 sp a1 dp n : Nat} (ha : a1 < 78) (h : am_cst G mi) : am_cst G (am_ci mi a0 sp a1 dp n) :=
  ⟨fun c hc => by have hd : 114 ≤ c := hc; rw [am_ci_o (by omega)]; exact h.1 c hc, by rw [am_ci_o (by omega)]; exact h.2.1, h.2.2⟩
/-- a place in b that is there: b is in the world -/
theorem am_b_in {G : am_G} {mi : am_MI} {j : Int32} (h : am_cst G mi) (hj : vp_in j (mi 78 100000).toNatClampNeg) : 78 < am_NN G ∧ vp_in j 37 := by
  rw [h.2.1] at hj
  rcases h.2.2 with q | q
  · rw [q] at hj
    exact ⟨by unfold am_NN; rw [if_pos q]; omega, hj⟩
  · rw [q] at hj
    exact absurd (Or.inr (Nat.zero_le _)) hj
/-- b's element written -/
theorem am_wl_ub {G : am_G} {mi ml} {a j : Nat} {x : Int32} (h : am_kd a = 10) : (am_wl G mi ml).set a (G.1 a, .inl (G.2.2.1.1, 37, .inl (upd (mi a) j x))) = am_wl G (am_ui mi a j x) ml :=
  am_wl_set (by rw [am_en10 h, am_ui_a]) (fun b _ hb => am_en_c (am_ui_o hb) rfl)
/-- an int array's element written -/
theorem am_wl_ui {G : am_G} {mi ml} {a j : Nat} {x : Int32} (h : am_kd a = 2) : (am_wl G mi ml).set a (G.1 a, .inl (G.2.2.1.1, am_n a, .inl (upd (mi a) j x))) = am_wl G (am_ui mi a j x) ml :=
  am_wl_set (by rw [am_en2 h, am_ui_a]) (fun b _ hb => am_en_c (am_ui_o hb) rfl)
theorem am_wl_ul {G : am_G} {mi ml} {a j : Nat} {x : Int64} (h : am_kd a = 3) : (am_wl G mi ml).set a (G.1 a, .inl (G.2.2.1.2.1, am_n a, .inr (.inl (vp_updL (ml a) j x)))) = am_wl G mi (am_ul ml a j x) :=
  am_wl_set (by rw [am_en3 h, am_ul_a]) (fun b _ hb => am_en_c rfl (am_ul_o hb))
theorem am_wl_ci {G : am_G} {mi ml} {a0 sp a1 dp n : Nat} (h : am_kd a1 = 2) : (am_wl G mi ml).set a1 (G.1 a1, .inl (G.2.2.1.1, am_n a1, .inl (va_cpy (mi a0) (mi a1) sp dp n))) = am_wl G (am_ci mi a0 sp a1 dp n) ml :=
  am_wl_set (by rw [am_en2 h, am_ci_a]) (fun b _ hb => am_en_c (am_ci_o hb) rfl)
theorem am_wl_cj {G : am_G} {mi ml} {a0 sp a1 dp n : Nat} (h : am_kd a1 = 3) : (am_wl G mi ml).set a1 (G.1 a1, .inl (G.2.2.1.2.1, am_n a1, .inr (.inl (va_cpy (ml a0) (ml a1) sp dp n)))) = am_wl G mi (am_cj ml a0 sp a1 dp n) :=
  am_wl_set (by rw [am_en3 h, am_cj_a]) (fun b _ hb => am_en_c rfl (am_cj_o hb))
theorem am_fs_at {G : am_G} {mi a c n j} (h : j < n) : (am_fs G mi a c n)[j]? = some (am_fv G mi a c j) := by
  unfold am_fs
  rw [List.getElem?_map, List.getElem?_range h]
  rfl
theorem am_fs_len {G : am_G} {mi a c n} : (am_fs G mi a c n).length = n := by
  unfold am_fs
  simp
theorem am_fs_set {G : am_G} {mi a c n j} {x : Int32} (hr : am_isr (am_fd c j) = false) : (am_fs G mi a c n).set j (.int x) = am_fs G (am_ui mi a j x) a c n := by
  apply List.ext_getElem?
  intro k
  rw [List.getElem?_set]
  by_cases hk : k < n
  · rw [am_fs_at (mi := am_ui mi a j x) hk]
    by_cases e : j = k
    · subst e
      rw [if_pos rfl, if_pos (by rw [am_fs_len]; exact hk)]
      unfold am_fv am_ui
      rw [hr, if_neg (by decide), if_pos ⟨rfl, rfl⟩]
    · rw [if_neg e, am_fs_at hk]
      unfold am_fv am_ui
      rw [if_neg (c := a = a ∧ k = j) (fun q => e q.2.symm)]
  · have hn : (am_fs G (am_ui mi a j x) a c n)[k]? = none := by
      rw [List.getElem?_eq_none]
      rw [am_fs_len]
      exact Nat.not_lt.mp hk
    rw [hn]
    by_cases e : j = k
    · subst e
      rw [if_pos rfl, if_neg (by rw [am_fs_len]; exact hk)]
    · rw [if_neg e, List.getElem?_eq_none]
      rw [am_fs_len]
      exact Nat.not_lt.mp hk
theorem am_wl_fs {G : am_G} {mi ml} {a j : Nat} {x : Int32} (h : am_kd a = 1) (hr : am_isr (am_fd (am_n a) j) = false) : (am_wl G mi ml).set a (G.1 a, .inr (am_n a, (am_fs G mi a (am_n a) (am_f a)).set j (.int x))) = am_wl G (am_ui mi a j x) ml :=
  am_wl_set (by rw [am_en1 h, am_fs_set hr]) (fun b _ hb => am_en_c (am_ui_o hb) rfl)
/-! locals -/
def am_lt (G : am_G) : Nat → am_L → List (Nat × Value)
  | _, [] => []
  | i, none :: l => am_lt G (i + 1) l
  | i, some v :: l => (i, am_tv G v) :: am_lt G (i + 1) l
theorem am_lt_m {G : am_G} : ∀ (l : am_L) (i : Nat) (q : Nat × Value), q ∈ am_lt G i l ↔ ∃ j v, q = (i + j, am_tv G v) ∧ am_lg l j = some v
  | [], i, q => ⟨fun h => (List.not_mem_nil h).elim, fun ⟨j, v, _, h⟩ => by cases h⟩
  | none :: l, i, q => by
    show q ∈ am_lt G (i + 1) l ↔ _
    rw [am_lt_m l (i + 1) q]
    constructor
    · rintro ⟨j, v, e, h⟩
      exact ⟨j + 1, v, by rw [e, Nat.add_assoc, Nat.add_comm 1 j], h⟩
    · rintro ⟨j, v, e, h⟩
      cases j with
      | zero => cases h
      | succ j => exact ⟨j, v, by rw [e, Nat.add_assoc, Nat.add_comm 1 j], h⟩
  | some w :: l, i, q => by
    show q ∈ (i, am_tv G w) :: am_lt G (i + 1) l ↔ _
    rw [List.mem_cons, am_lt_m l (i + 1) q]
    constructor
    · rintro (e | ⟨j, v, e, h⟩)
      · exact ⟨0, w, e, rfl⟩
      · exact ⟨j + 1, v, by rw [e, Nat.add_assoc, Nat.add_comm 1 j], h⟩
    · rintro ⟨j, v, e, h⟩
      cases j with
      | zero =>
        cases h
        exact Or.inl e
      | succ j => exact Or.inr ⟨j, v, by rw [e, Nat.add_assoc, Nat.add_comm 1 j], h⟩
theorem am_lt_0 {G : am_G} {l : am_L} {q : Nat × Value} : q ∈ am_lt G 0 l ↔ ∃ v, q.2 = am_tv G v ∧ am_lg l q.1 = some v := by
  rw [am_lt_m]
  constructor
  · rintro ⟨j, v, e, h⟩
    rw [e, Nat.zero_add]
    exact ⟨v, rfl, h⟩
  · rintro ⟨v, e, h⟩
    exact ⟨q.1, v, by rw [Nat.zero_add, ← e], h⟩
def am_lv (G : am_G) (nL : Nat) (lo : am_L) (ls : Array Slot) : Prop := lv_has ls nL (am_lt G 0 lo)
theorem am_lv_sub {ls : Array Slot} {nL : Nat} {l l' : List (Nat × Value)} (h : lv_has ls nL l) (hs : ∀ q ∈ l', q ∈ l) : lv_has ls nL l' := ⟨h.1, h.2.1, fun q hq => h.2.2 q (hs q hq)⟩
theorem am_lv_at {G : am_G} {nL lo ls} (h : am_lv G nL lo ls) {n : Nat} {v : Value} (hn : am_lg lo n = some v) : ls[n]? = some (.val (am_tv G v)) :=
  h.2.2 (n, am_tv G v) (am_lt_0.mpr ⟨v, rfl, hn⟩)
theorem am_lv_le {G : am_G} {nL ls} : ∀ {lo' lo : am_L}, am_le lo' lo → am_lv G nL lo ls → am_lv G nL lo' ls := by
  intro lo' lo hle h
  refine am_lv_sub h fun q hq => ?_
  obtain ⟨v, e, hl⟩ := am_lt_0.mp hq
  refine am_lt_0.mpr ⟨v, e, ?_⟩
  have key : ∀ (lo' lo : am_L) (n : Nat) (v : Value), am_le lo' lo → am_lg lo' n = some v → am_lg lo n = some v := by
    intro lo'
    induction lo' with
    | nil => intro lo n v _ h; cases h
    | cons a l ih =>
      intro lo n v hle h
      cases lo with
      | nil =>
        cases a <;> exact hle.elim
      | cons b l2 =>
        cases n with
        | zero =>
          cases a with
          | none => cases h
          | some w => exact hle.1.trans h
        | succ n =>
          cases a with
          | none => exact ih l2 n v hle h
          | some w => exact ih l2 n v hle.2 h
  exact key _ _ _ _ hle hl
theorem am_lg_ls : ∀ (lo : am_L) (i j : Nat) (o : Option Value) (v : Value), am_lg (am_ls lo i o) j = some v → (j = i ∧ o = some v) ∨ (¬ j = i ∧ am_lg lo j = some v)
  | [], _, _, _, _, h => by cases h
  | _ :: l, 0, 0, o, v, h => Or.inl ⟨rfl, h⟩
  | _ :: l, 0, j + 1, o, v, h => Or.inr ⟨by omega, h⟩
  | a :: l, i + 1, 0, o, v, h => Or.inr ⟨by omega, h⟩
  | a :: l, i + 1, j + 1, o, v, h => by
    rcases am_lg_ls l i j o v h with ⟨e, w⟩ | ⟨e, w⟩
    · exact Or.inl ⟨by omega, w⟩
    · exact Or.inr ⟨by omega, w⟩
theorem am_lg_kl {lo : am_L} {i j : Nat} {v : Value} (h : am_lg (am_kl lo i) j = some v) : am_lg lo j = some v ∧ (j = i → ¬ v.category = 2) := by
  unfold am_kl at h
  split at h
  · rcases am_lg_ls _ _ _ _ _ h with ⟨_, e⟩ | ⟨e, w⟩
    · cases e
    · exact ⟨w, fun q => (e q).elim⟩
  · rcases am_lg_ls _ _ _ _ _ h with ⟨_, e⟩ | ⟨e, w⟩
    · cases e
    · exact ⟨w, fun q => (e q).elim⟩
  · rename_i n1 n2
    refine ⟨h, fun e => ?_⟩
    subst e
    cases v <;> first | exact absurd h (n1 _) | exact absurd h (n2 _) | (intro q; cases q)
theorem am_tv_cat {G : am_G} {v : Value} : (am_tv G v).category = v.category := by
  cases v with
  | null =>
    unfold am_tv
    simp only
    split <;> rfl
  | _ => rfl
theorem am_s1_sub {G : am_G} {lo : am_L} {i : Nat} {v : Value} : ∀ q ∈ am_lt G 0 (am_s1 lo i v), q ∈ (i, am_tv G v) :: (am_lt G 0 lo).filter (fun q => !(q.1 == i) && !(q.1 + 1 == i && q.2.category == 2)) := by
  intro q hq
  obtain ⟨w, e, h⟩ := am_lt_0.mp hq
  obtain ⟨j, z⟩ := q
  simp only at e h
  subst e
  unfold am_s1 at h
  split at h
  · rcases am_lg_ls _ _ _ _ _ h with ⟨e1, e2⟩ | ⟨e1, e2⟩
    · cases e2
      subst e1
      exact List.mem_cons_self
    · refine List.mem_cons_of_mem _ (List.mem_filter.mpr ⟨am_lt_0.mpr ⟨w, rfl, e2⟩, ?_⟩)
      simp
      exact e1
  · rename_i i
    rcases am_lg_ls _ _ _ _ _ h with ⟨e1, e2⟩ | ⟨e1, e2⟩
    · cases e2
      subst e1
      exact List.mem_cons_self
    · obtain ⟨g1, g2⟩ := am_lg_kl e2
      refine List.mem_cons_of_mem _ (List.mem_filter.mpr ⟨am_lt_0.mpr ⟨w, rfl, g1⟩, ?_⟩)
      simp only [am_tv_cat]
      simp
      exact ⟨e1, Decidable.not_or_of_imp g2⟩
theorem am_s2_sub {G : am_G} {lo : am_L} {i : Nat} {v : Value} : ∀ q ∈ am_lt G 0 (am_s2 lo i v), q ∈ (i, am_tv G v) :: (am_lt G 0 lo).filter (fun q => !(q.1 == i) && (!(q.1 == i + 1) && !(q.1 + 1 == i && q.2.category == 2))) := by
  intro q hq
  obtain ⟨w, e, h⟩ := am_lt_0.mp hq
  obtain ⟨j, z⟩ := q
  simp only at e h
  subst e
  unfold am_s2 at h
  split at h
  · rcases am_lg_ls _ _ _ _ _ h with ⟨e1, e2⟩ | ⟨e1, e2⟩
    · cases e2
      subst e1
      exact List.mem_cons_self
    · rcases am_lg_ls _ _ _ _ _ e2 with ⟨e3, e4⟩ | ⟨e3, e4⟩
      · cases e4
      · refine List.mem_cons_of_mem _ (List.mem_filter.mpr ⟨am_lt_0.mpr ⟨w, rfl, e4⟩, ?_⟩)
        simp
        exact ⟨e1, e3⟩
  · rename_i i
    rcases am_lg_ls _ _ _ _ _ h with ⟨e1, e2⟩ | ⟨e1, e2⟩
    · cases e2
      subst e1
      exact List.mem_cons_self
    · rcases am_lg_ls _ _ _ _ _ e2 with ⟨e3, e4⟩ | ⟨e3, e4⟩
      · cases e4
      · obtain ⟨g1, g2⟩ := am_lg_kl e4
        refine List.mem_cons_of_mem _ (List.mem_filter.mpr ⟨am_lt_0.mpr ⟨w, rfl, g1⟩, ?_⟩)
        simp only [am_tv_cat]
        simp
        exact ⟨e1, e3, Decidable.not_or_of_imp g2⟩
theorem am_sl_cat : ∀ vs : List Value, (lg_sl vs).length = am_cat vs
  | [] => rfl
  | v :: vs => by
    have ih := am_sl_cat vs
    unfold lg_sl at ih ⊢
    rw [List.flatMap_cons, List.length_append, ih]
    cases v <;> rfl
theorem am_cat_tv {G : am_G} : ∀ vs : List Value, am_cat (vs.map (am_tv G)) = am_cat vs
  | [] => rfl
  | v :: vs => by
    show (am_tv G v).category + am_cat (vs.map (am_tv G)) = v.category + am_cat vs
    rw [am_cat_tv vs, am_tv_cat]
theorem am_lt_rep {G : am_G} : ∀ (n i : Nat), am_lt G i (List.replicate n none) = []
  | 0, _ => rfl
  | n + 1, i => am_lt_rep n (i + 1)
theorem am_in_sub {G : am_G} : ∀ (vs : List Value) (n i : Nat), ∀ q ∈ am_lt G i (am_in n vs), q ∈ lv_args i (vs.map (am_tv G))
  | [], n, i, q, h => by
    unfold am_in at h
    rw [am_lt_rep] at h
    cases h
  | v :: vs, n, i, q, h => by
    have one : ∀ n, q ∈ (i, am_tv G v) :: am_lt G (i + 1) (am_in n vs) → ¬ v.category = 2 → q ∈ lv_args i ((v :: vs).map (am_tv G)) := by
      intro n h hc
      show q ∈ (i, am_tv G v) :: lv_args (if (am_tv G v).category = 2 then i + 2 else i + 1) (vs.map (am_tv G))
      rw [am_tv_cat, if_neg hc]
      rcases List.mem_cons.mp h with h | h
      · exact List.mem_cons.mpr (Or.inl h)
      · exact List.mem_cons_of_mem _ (am_in_sub vs n (i + 1) q h)
    have two : ∀ n, q ∈ (i, am_tv G v) :: am_lt G (i + 1 + 1) (am_in n vs) → v.category = 2 → q ∈ lv_args i ((v :: vs).map (am_tv G)) := by
      intro n h hc
      show q ∈ (i, am_tv G v) :: lv_args (if (am_tv G v).category = 2 then i + 2 else i + 1) (vs.map (am_tv G))
      rw [am_tv_cat, if_pos hc]
      rcases List.mem_cons.mp h with h | h
      · exact List.mem_cons.mpr (Or.inl h)
      · exact List.mem_cons_of_mem _ (am_in_sub vs n (i + 2) q h)
    cases v <;> first | exact one _ h (by intro q; cases q) | exact two _ h rfl
theorem am_lv_in {G : am_G} {vs : List Value} {n : Nat} (h : am_cat vs ≤ n) : am_lv G n (am_in n vs) ((lg_sl (vs.map (am_tv G)) ++ List.replicate (n - (lg_sl (vs.map (am_tv G))).length) Slot.unset).toArray) :=
  am_lv_sub (lv_entry (vs.map (am_tv G)) (n := n) (by rw [am_sl_cat, am_cat_tv]; exact h)) (am_in_sub vs n 0)
theorem am_cat_sum : ∀ vs : List Value, (vs.map fun v => v.category).sum = am_cat vs
  | [] => rfl
  | v :: vs => by
    rw [List.map_cons, List.sum_cons, am_cat_sum vs]
    rfl
end
section
/-! each instruction of the small machine is one of the real one -/
/-- the tables' words that hold wherever the tables do -/
def am_tb : List Cond := lw_tbl.filter goodWord
theorem am_tb_i {w : Cond} (h : w ∈ lw_tbl) (hg : goodWord w = true) : w ∈ am_tb := List.mem_filter.mpr ⟨h, hg⟩
def am_fr (p : Program) (s : State) (m : MethodId) (args : Array Value) (meth : Method) (c : Code) (G : am_G) (y : MethodName) (bc : ByteArray) (nL : Nat) (rt : Option FieldType) (lk : List Cond) : Prop :=
  p.tables.exec = Jvm.exec ∧ c.code = bc ∧ c.maxLocals = nL ∧ meth.sig.returnType = rt ∧ meth.locks = false ∧ (∀ w ∈ am_tb, w.before args s = true) ∧ (∀ w ∈ lk, w ∈ lw_tbl) ∧ s.vm.findClass y.cls = some m.cls ∧ va_K G.2.1 vwCl (am_ty G) s ∧ am_sx G s s.heap
def am_mo (p : Program) (l : Launch) (e : Env) (Rm : Room) (s : State) (m : MethodId) (args : Array Value) (below : List Frame) (meth : Method) (c : Code) (cs ss : Nat) (Q : State → Prop) (G : am_G) (nL : Nat) (t : List am_row) : am_K :=
  fun i lo st mi ml => ∀ (ls : Array Slot) (H : Heap) (locs : List Loc), am_lv G nL lo ls → am_hp G H mi ml → va_S (am_A G) s.heap H locs → W p l e Rm s m args below meth c H locs cs ss Q (F0 m (am_pcs t i) ls (st.map (am_tv G)))
theorem am_uses {T : List Cond} {xs : List Nat} {us : List Cond} (h : xs.map (fun i => T[i]?) = us.map some) : ∀ w ∈ us, w ∈ T := by
  intro w hw
  have h1 : some w ∈ us.map some := List.mem_map.mpr ⟨w, hw, rfl⟩
  rw [← h] at h1
  obtain ⟨i, -, hi⟩ := List.mem_map.mp h1
  exact List.mem_of_getElem? hi
section AMS
variable {p : Program} {l : Launch} {e : Env} {Rm : Room} {s : State} {m : MethodId} {args : Array Value} {below : List Frame} {meth : Method} {c : Code} {cs ss : Nat} {Q : State → Prop}
variable {G : am_G} {y : MethodName} {bc : ByteArray} {nL : Nat} {rt : Option FieldType} {lk : List Cond} {t : List am_row} {Rr : am_R} {cl : am_C}
variable {i pc len k1 k2 k3 : Nat} {v : Int32} {sw : List (Int32 × Nat)} {lo : am_L} {st : List Value} {mi : am_MI} {ml : am_ML}
theorem am_s_iadd (F : am_fr p s m args meth c G y bc nL rt lk)  (hc : am_chk y bc nL rt lk t i (pc, .iadd, len, k1, k2, k3, v, sw) = true) (hi : am_pcs t i = pc) (h : am_b2 (am_mo p l e Rm s m args below meth c cs ss Q G nL t) i lo st mi ml (fun x y => x + y)) : (am_mo p l e Rm s m args below meth c cs ss Q G nL t) i lo st mi ml := by
  obtain ⟨hx, hb, hml, hr, hlocks, hts, hlk, hown, hK, hX⟩ := F
  have hc : (decide (decode bc pc = .ok (.iadd, len)) && (len == 1 && am_pcs t (i + 1) == pc + 1)) = true := hc
  simp only [Bool.and_eq_true, decide_eq_true_eq, beq_iff_eq] at hc
  obtain ⟨hd, hl, hn⟩ := hc
  subst hl
  unfold am_b2 at h
  split at h
  · intro ls H locs g1 g2 g3
    have z := h ls H locs g1 g2 g3
    rw [hn] at z
    rw [hi]
    exact lv_iadd hx hb hd z
  · exact h.elim
theorem am_s_isub (F : am_fr p s m args meth c G y bc nL rt lk)  (hc : am_chk y bc nL rt lk t i (pc, .isub, len, k1, k2, k3, v, sw) = true) (hi : am_pcs t i = pc) (h : am_b2 (am_mo p l e Rm s m args below meth c cs ss Q G nL t) i lo st mi ml (fun x y => x - y)) : (am_mo p l e Rm s m args below meth c cs ss Q G nL t) i lo st mi ml := by
  obtain ⟨hx, hb, hml, hr, hlocks, hts, hlk, hown, hK, hX⟩ := F
  have hc : (decide (decode bc pc = .ok (.isub, len)) && (len == 1 && am_pcs t (i + 1) == pc + 1)) = true := hc
  simp only [Bool.and_eq_true, decide_eq_true_eq, beq_iff_eq] at hc
  obtain ⟨hd, hl, hn⟩ := hc
  subst hl
  unfold am_b2 at h
  split at h
  · intro ls H locs g1 g2 g3
    have z := h ls H locs g1 g2 g3
    rw [hn] at z
    rw [hi]
    exact lv_isub hx hb hd z
  · exact h.elim
theorem am_s_imul (F : am_fr p s m args meth c G y bc nL rt lk)  (hc : am_chk y bc nL rt lk t i (pc, .imul, len, k1, k2, k3, v, sw) = true) (hi : am_pcs t i = pc) (h : am_b2 (am_mo p l e Rm s m args below meth c cs ss Q G nL t) i lo st mi ml (fun x y => x * y)) : (am_mo p l e Rm s m args below meth c cs ss Q G nL t) i lo st mi ml := by
  obtain ⟨hx, hb, hml, hr, hlocks, hts, hlk, hown, hK, hX⟩ := F
  have hc : (decide (decode bc pc = .ok (.imul, len)) && (len == 1 && am_pcs t (i + 1) == pc + 1)) = true := hc
  simp only [Bool.and_eq_true, decide_eq_true_eq, beq_iff_eq] at hc
  obtain ⟨hd, hl, hn⟩ := hc
  subst hl
  unfold am_b2 at h
  split at h
  · intro ls H locs g1 g2 g3
    have z := h ls H locs g1 g2 g3
    rw [hn] at z
    rw [hi]
    exact lv_imul hx hb hd z
  · exact h.elim
theorem am_s_iand (F : am_fr p s m args meth c G y bc nL rt lk)  (hc : am_chk y bc nL rt lk t i (pc, .iand, len, k1, k2, k3, v, sw) = true) (hi : am_pcs t i = pc) (h : am_b2 (am_mo p l e Rm s m args below meth c cs ss Q G nL t) i lo st mi ml (fun x y => x &&& y)) : (am_mo p l e Rm s m args below meth c cs ss Q G nL t) i lo st mi ml := by
  obtain ⟨hx, hb, hml, hr, hlocks, hts, hlk, hown, hK, hX⟩ := F
  have hc : (decide (decode bc pc = .ok (.iand, len)) && (len == 1 && am_pcs t (i + 1) == pc + 1)) = true := hc
  simp only [Bool.and_eq_true, decide_eq_true_eq, beq_iff_eq] at hc
  obtain ⟨hd, hl, hn⟩ := hc
  subst hl
  unfold am_b2 at h
  split at h
  · intro ls H locs g1 g2 g3
    have z := h ls H locs g1 g2 g3
    rw [hn] at z
    rw [hi]
    exact lv_iand hx hb hd z
  · exact h.elim
theorem am_s_ior (F : am_fr p s m args meth c G y bc nL rt lk)  (hc : am_chk y bc nL rt lk t i (pc, .ior, len, k1, k2, k3, v, sw) = true) (hi : am_pcs t i = pc) (h : am_b2 (am_mo p l e Rm s m args below meth c cs ss Q G nL t) i lo st mi ml (fun x y => x ||| y)) : (am_mo p l e Rm s m args below meth c cs ss Q G nL t) i lo st mi ml := by
  obtain ⟨hx, hb, hml, hr, hlocks, hts, hlk, hown, hK, hX⟩ := F
  have hc : (decide (decode bc pc = .ok (.ior, len)) && (len == 1 && am_pcs t (i + 1) == pc + 1)) = true := hc
  simp only [Bool.and_eq_true, decide_eq_true_eq, beq_iff_eq] at hc
  obtain ⟨hd, hl, hn⟩ := hc
  subst hl
  unfold am_b2 at h
  split at h
  · intro ls H locs g1 g2 g3
    have z := h ls H locs g1 g2 g3
    rw [hn] at z
    rw [hi]
    exact lv_ior hx hb hd z
  · exact h.elim
theorem am_s_ixor (F : am_fr p s m args meth c G y bc nL rt lk)  (hc : am_chk y bc nL rt lk t i (pc, .ixor, len, k1, k2, k3, v, sw) = true) (hi : am_pcs t i = pc) (h : am_b2 (am_mo p l e Rm s m args below meth c cs ss Q G nL t) i lo st mi ml (fun x y => x ^^^ y)) : (am_mo p l e Rm s m args below meth c cs ss Q G nL t) i lo st mi ml := by
  obtain ⟨hx, hb, hml, hr, hlocks, hts, hlk, hown, hK, hX⟩ := F
  have hc : (decide (decode bc pc = .ok (.ixor, len)) && (len == 1 && am_pcs t (i + 1) == pc + 1)) = true := hc
  simp only [Bool.and_eq_true, decide_eq_true_eq, beq_iff_eq] at hc
  obtain ⟨hd, hl, hn⟩ := hc
  subst hl
  unfold am_b2 at h
  split at h
  · intro ls H locs g1 g2 g3
    have z := h ls H locs g1 g2 g3
    rw [hn] at z
    rw [hi]
    exact lv_ixor hx hb hd z
  · exact h.elim
theorem am_s_ishl (F : am_fr p s m args meth c G y bc nL rt lk)  (hc : am_chk y bc nL rt lk t i (pc, .ishl, len, k1, k2, k3, v, sw) = true) (hi : am_pcs t i = pc) (h : am_b2 (am_mo p l e Rm s m args below meth c cs ss Q G nL t) i lo st mi ml (am_shl)) : (am_mo p l e Rm s m args below meth c cs ss Q G nL t) i lo st mi ml := by
  obtain ⟨hx, hb, hml, hr, hlocks, hts, hlk, hown, hK, hX⟩ := F
  have hc : (decide (decode bc pc = .ok (.ishl, len)) && (len == 1 && am_pcs t (i + 1) == pc + 1)) = true := hc
  simp only [Bool.and_eq_true, decide_eq_true_eq, beq_iff_eq] at hc
  obtain ⟨hd, hl, hn⟩ := hc
  subst hl
  unfold am_b2 at h
  split at h
  · intro ls H locs g1 g2 g3
    have z := h ls H locs g1 g2 g3
    rw [hn] at z
    rw [hi]
    exact lv_ishl hx hb hd z
  · exact h.elim
theorem am_s_ishr (F : am_fr p s m args meth c G y bc nL rt lk)  (hc : am_chk y bc nL rt lk t i (pc, .ishr, len, k1, k2, k3, v, sw) = true) (hi : am_pcs t i = pc) (h : am_b2 (am_mo p l e Rm s m args below meth c cs ss Q G nL t) i lo st mi ml (am_shr)) : (am_mo p l e Rm s m args below meth c cs ss Q G nL t) i lo st mi ml := by
  obtain ⟨hx, hb, hml, hr, hlocks, hts, hlk, hown, hK, hX⟩ := F
  have hc : (decide (decode bc pc = .ok (.ishr, len)) && (len == 1 && am_pcs t (i + 1) == pc + 1)) = true := hc
  simp only [Bool.and_eq_true, decide_eq_true_eq, beq_iff_eq] at hc
  obtain ⟨hd, hl, hn⟩ := hc
  subst hl
  unfold am_b2 at h
  split at h
  · intro ls H locs g1 g2 g3
    have z := h ls H locs g1 g2 g3
    rw [hn] at z
    rw [hi]
    exact lv_ishr hx hb hd z
  · exact h.elim
theorem am_s_iushr (F : am_fr p s m args meth c G y bc nL rt lk)  (hc : am_chk y bc nL rt lk t i (pc, .iushr, len, k1, k2, k3, v, sw) = true) (hi : am_pcs t i = pc) (h : am_b2 (am_mo p l e Rm s m args below meth c cs ss Q G nL t) i lo st mi ml am_ushr) : (am_mo p l e Rm s m args below meth c cs ss Q G nL t) i lo st mi ml := by
  obtain ⟨hx, hb, hml, hr, hlocks, hts, hlk, hown, hK, hX⟩ := F
  have hc : (decide (decode bc pc = .ok (.iushr, len)) && (len == 1 && am_pcs t (i + 1) == pc + 1)) = true := hc
  simp only [Bool.and_eq_true, decide_eq_true_eq, beq_iff_eq] at hc
  obtain ⟨hd, hl, hn⟩ := hc
  subst hl
  unfold am_b2 at h
  split at h
  · intro ls H locs g1 g2 g3
    have z := h ls H locs g1 g2 g3
    rw [hn] at z
    rw [hi]
    exact lv_iushr hx hb hd rfl z
  · exact h.elim
theorem am_s_ladd (F : am_fr p s m args meth c G y bc nL rt lk)  (hc : am_chk y bc nL rt lk t i (pc, .ladd, len, k1, k2, k3, v, sw) = true) (hi : am_pcs t i = pc) (h : am_j2 (am_mo p l e Rm s m args below meth c cs ss Q G nL t) i lo st mi ml (fun x y => x + y)) : (am_mo p l e Rm s m args below meth c cs ss Q G nL t) i lo st mi ml := by
  obtain ⟨hx, hb, hml, hr, hlocks, hts, hlk, hown, hK, hX⟩ := F
  have hc : (decide (decode bc pc = .ok (.ladd, len)) && (len == 1 && am_pcs t (i + 1) == pc + 1)) = true := hc
  simp only [Bool.and_eq_true, decide_eq_true_eq, beq_iff_eq] at hc
  obtain ⟨hd, hl, hn⟩ := hc
  subst hl
  unfold am_j2 at h
  split at h
  · intro ls H locs g1 g2 g3
    have z := h ls H locs g1 g2 g3
    rw [hn] at z
    rw [hi]
    exact lv_ladd hx hb hd z
  · exact h.elim
theorem am_s_lmul (F : am_fr p s m args meth c G y bc nL rt lk)  (hc : am_chk y bc nL rt lk t i (pc, .lmul, len, k1, k2, k3, v, sw) = true) (hi : am_pcs t i = pc) (h : am_j2 (am_mo p l e Rm s m args below meth c cs ss Q G nL t) i lo st mi ml (fun x y => x * y)) : (am_mo p l e Rm s m args below meth c cs ss Q G nL t) i lo st mi ml := by
  obtain ⟨hx, hb, hml, hr, hlocks, hts, hlk, hown, hK, hX⟩ := F
  have hc : (decide (decode bc pc = .ok (.lmul, len)) && (len == 1 && am_pcs t (i + 1) == pc + 1)) = true := hc
  simp only [Bool.and_eq_true, decide_eq_true_eq, beq_iff_eq] at hc
  obtain ⟨hd, hl, hn⟩ := hc
  subst hl
  unfold am_j2 at h
  split at h
  · intro ls H locs g1 g2 g3
    have z := h ls H locs g1 g2 g3
    rw [hn] at z
    rw [hi]
    exact lv_lmul hx hb hd z
  · exact h.elim
theorem am_s_land (F : am_fr p s m args meth c G y bc nL rt lk)  (hc : am_chk y bc nL rt lk t i (pc, .land, len, k1, k2, k3, v, sw) = true) (hi : am_pcs t i = pc) (h : am_j2 (am_mo p l e Rm s m args below meth c cs ss Q G nL t) i lo st mi ml (fun x y => x &&& y)) : (am_mo p l e Rm s m args below meth c cs ss Q G nL t) i lo st mi ml := by
  obtain ⟨hx, hb, hml, hr, hlocks, hts, hlk, hown, hK, hX⟩ := F
  have hc : (decide (decode bc pc = .ok (.land, len)) && (len == 1 && am_pcs t (i + 1) == pc + 1)) = true := hc
  simp only [Bool.and_eq_true, decide_eq_true_eq, beq_iff_eq] at hc
  obtain ⟨hd, hl, hn⟩ := hc
  subst hl
  unfold am_j2 at h
  split at h
  · intro ls H locs g1 g2 g3
    have z := h ls H locs g1 g2 g3
    rw [hn] at z
    rw [hi]
    exact lv_land hx hb hd z
  · exact h.elim
theorem am_s_lor (F : am_fr p s m args meth c G y bc nL rt lk)  (hc : am_chk y bc nL rt lk t i (pc, .lor, len, k1, k2, k3, v, sw) = true) (hi : am_pcs t i = pc) (h : am_j2 (am_mo p l e Rm s m args below meth c cs ss Q G nL t) i lo st mi ml (fun x y => x ||| y)) : (am_mo p l e Rm s m args below meth c cs ss Q G nL t) i lo st mi ml := by
  obtain ⟨hx, hb, hml, hr, hlocks, hts, hlk, hown, hK, hX⟩ := F
  have hc : (decide (decode bc pc = .ok (.lor, len)) && (len == 1 && am_pcs t (i + 1) == pc + 1)) = true := hc
  simp only [Bool.and_eq_true, decide_eq_true_eq, beq_iff_eq] at hc
  obtain ⟨hd, hl, hn⟩ := hc
  subst hl
  unfold am_j2 at h
  split at h
  · intro ls H locs g1 g2 g3
    have z := h ls H locs g1 g2 g3
    rw [hn] at z
    rw [hi]
    exact lv_lor hx hb hd z
  · exact h.elim
theorem am_s_ineg (F : am_fr p s m args meth c G y bc nL rt lk)  (hc : am_chk y bc nL rt lk t i (pc, .ineg, len, k1, k2, k3, v, sw) = true) (hi : am_pcs t i = pc) (h : am_u1 (am_mo p l e Rm s m args below meth c cs ss Q G nL t) i lo st mi ml (fun x => -x)) : (am_mo p l e Rm s m args below meth c cs ss Q G nL t) i lo st mi ml := by
  obtain ⟨hx, hb, hml, hr, hlocks, hts, hlk, hown, hK, hX⟩ := F
  have hc : (decide (decode bc pc = .ok (.ineg, len)) && (len == 1 && am_pcs t (i + 1) == pc + 1)) = true := hc
  simp only [Bool.and_eq_true, decide_eq_true_eq, beq_iff_eq] at hc
  obtain ⟨hd, hl, hn⟩ := hc
  subst hl
  unfold am_u1 at h
  split at h
  · intro ls H locs g1 g2 g3
    have z := h ls H locs g1 g2 g3
    rw [hn] at z
    rw [hi]
    exact lv_ineg hx hb hd z
  · exact h.elim
theorem am_s_i2b (F : am_fr p s m args meth c G y bc nL rt lk)  (hc : am_chk y bc nL rt lk t i (pc, .i2b, len, k1, k2, k3, v, sw) = true) (hi : am_pcs t i = pc) (h : am_u1 (am_mo p l e Rm s m args below meth c cs ss Q G nL t) i lo st mi ml (fun x => x.toInt8.toInt32)) : (am_mo p l e Rm s m args below meth c cs ss Q G nL t) i lo st mi ml := by
  obtain ⟨hx, hb, hml, hr, hlocks, hts, hlk, hown, hK, hX⟩ := F
  have hc : (decide (decode bc pc = .ok (.i2b, len)) && (len == 1 && am_pcs t (i + 1) == pc + 1)) = true := hc
  simp only [Bool.and_eq_true, decide_eq_true_eq, beq_iff_eq] at hc
  obtain ⟨hd, hl, hn⟩ := hc
  subst hl
  unfold am_u1 at h
  split at h
  · intro ls H locs g1 g2 g3
    have z := h ls H locs g1 g2 g3
    rw [hn] at z
    rw [hi]
    exact lv_i2b hx hb hd rfl z
  · exact h.elim
theorem am_s_i2s (F : am_fr p s m args meth c G y bc nL rt lk)  (hc : am_chk y bc nL rt lk t i (pc, .i2s, len, k1, k2, k3, v, sw) = true) (hi : am_pcs t i = pc) (h : am_u1 (am_mo p l e Rm s m args below meth c cs ss Q G nL t) i lo st mi ml (fun x => x.toInt16.toInt32)) : (am_mo p l e Rm s m args below meth c cs ss Q G nL t) i lo st mi ml := by
  obtain ⟨hx, hb, hml, hr, hlocks, hts, hlk, hown, hK, hX⟩ := F
  have hc : (decide (decode bc pc = .ok (.i2s, len)) && (len == 1 && am_pcs t (i + 1) == pc + 1)) = true := hc
  simp only [Bool.and_eq_true, decide_eq_true_eq, beq_iff_eq] at hc
  obtain ⟨hd, hl, hn⟩ := hc
  subst hl
  unfold am_u1 at h
  split at h
  · intro ls H locs g1 g2 g3
    have z := h ls H locs g1 g2 g3
    rw [hn] at z
    rw [hi]
    exact lv_i2s hx hb hd rfl z
  · exact h.elim
theorem am_s_i2c (F : am_fr p s m args meth c G y bc nL rt lk)  (hc : am_chk y bc nL rt lk t i (pc, .i2c, len, k1, k2, k3, v, sw) = true) (hi : am_pcs t i = pc) (h : am_u1 (am_mo p l e Rm s m args below meth c cs ss Q G nL t) i lo st mi ml (am_i2c)) : (am_mo p l e Rm s m args below meth c cs ss Q G nL t) i lo st mi ml := by
  obtain ⟨hx, hb, hml, hr, hlocks, hts, hlk, hown, hK, hX⟩ := F
  have hc : (decide (decode bc pc = .ok (.i2c, len)) && (len == 1 && am_pcs t (i + 1) == pc + 1)) = true := hc
  simp only [Bool.and_eq_true, decide_eq_true_eq, beq_iff_eq] at hc
  obtain ⟨hd, hl, hn⟩ := hc
  subst hl
  unfold am_u1 at h
  split at h
  · intro ls H locs g1 g2 g3
    have z := h ls H locs g1 g2 g3
    rw [hn] at z
    rw [hi]
    exact lv_i2c hx hb hd rfl z
  · exact h.elim
theorem am_s_idiv (F : am_fr p s m args meth c G y bc nL rt lk)  (hc : am_chk y bc nL rt lk t i (pc, .idiv, len, k1, k2, k3, v, sw) = true) (hi : am_pcs t i = pc) (h : am_bd (am_mo p l e Rm s m args below meth c cs ss Q G nL t) i lo st mi ml (fun x y => x / y)) : (am_mo p l e Rm s m args below meth c cs ss Q G nL t) i lo st mi ml := by
  obtain ⟨hx, hb, hml, hr, hlocks, hts, hlk, hown, hK, hX⟩ := F
  have hc : (decide (decode bc pc = .ok (.idiv, len)) && (len == 1 && am_pcs t (i + 1) == pc + 1)) = true := hc
  simp only [Bool.and_eq_true, decide_eq_true_eq, beq_iff_eq] at hc
  obtain ⟨hd, hl, hn⟩ := hc
  subst hl
  unfold am_bd at h
  split at h
  · intro ls H locs g1 g2 g3
    have z := h.2 ls H locs g1 g2 g3
    rw [hn] at z
    rw [hi]
    exact lv_idiv hx hb hd h.1 z
  · exact h.elim
theorem am_s_irem (F : am_fr p s m args meth c G y bc nL rt lk)  (hc : am_chk y bc nL rt lk t i (pc, .irem, len, k1, k2, k3, v, sw) = true) (hi : am_pcs t i = pc) (h : am_bd (am_mo p l e Rm s m args below meth c cs ss Q G nL t) i lo st mi ml (am_rem)) : (am_mo p l e Rm s m args below meth c cs ss Q G nL t) i lo st mi ml := by
  obtain ⟨hx, hb, hml, hr, hlocks, hts, hlk, hown, hK, hX⟩ := F
  have hc : (decide (decode bc pc = .ok (.irem, len)) && (len == 1 && am_pcs t (i + 1) == pc + 1)) = true := hc
  simp only [Bool.and_eq_true, decide_eq_true_eq, beq_iff_eq] at hc
  obtain ⟨hd, hl, hn⟩ := hc
  subst hl
  unfold am_bd at h
  split at h
  · intro ls H locs g1 g2 g3
    have z := h.2 ls H locs g1 g2 g3
    rw [hn] at z
    rw [hi]
    exact lv_irem hx hb hd h.1 z
  · exact h.elim
theorem am_s_i2l (F : am_fr p s m args meth c G y bc nL rt lk)  (hc : am_chk y bc nL rt lk t i (pc, .i2l, len, k1, k2, k3, v, sw) = true) (hi : am_pcs t i = pc) (h : am_st cl (am_mo p l e Rm s m args below meth c cs ss Q G nL t) Rr .i2l k1 k2 k3 v sw i lo st mi ml) : (am_mo p l e Rm s m args below meth c cs ss Q G nL t) i lo st mi ml := by
  obtain ⟨hx, hb, hml, hr, hlocks, hts, hlk, hown, hK, hX⟩ := F
  have hc : (decide (decode bc pc = .ok (.i2l, len)) && (len == 1 && am_pcs t (i + 1) == pc + 1)) = true := hc
  simp only [Bool.and_eq_true, decide_eq_true_eq, beq_iff_eq] at hc
  obtain ⟨hd, hl, hn⟩ := hc
  subst hl
  simp only [am_st] at h
  split at h
  · intro ls H locs g1 g2 g3
    have z := h ls H locs g1 g2 g3
    rw [hn] at z
    rw [hi]
    exact lv_i2l hx hb hd rfl z
  · exact h.elim
theorem am_s_l2i (F : am_fr p s m args meth c G y bc nL rt lk)  (hc : am_chk y bc nL rt lk t i (pc, .l2i, len, k1, k2, k3, v, sw) = true) (hi : am_pcs t i = pc) (h : am_st cl (am_mo p l e Rm s m args below meth c cs ss Q G nL t) Rr .l2i k1 k2 k3 v sw i lo st mi ml) : (am_mo p l e Rm s m args below meth c cs ss Q G nL t) i lo st mi ml := by
  obtain ⟨hx, hb, hml, hr, hlocks, hts, hlk, hown, hK, hX⟩ := F
  have hc : (decide (decode bc pc = .ok (.l2i, len)) && (len == 1 && am_pcs t (i + 1) == pc + 1)) = true := hc
  simp only [Bool.and_eq_true, decide_eq_true_eq, beq_iff_eq] at hc
  obtain ⟨hd, hl, hn⟩ := hc
  subst hl
  simp only [am_st] at h
  split at h
  · intro ls H locs g1 g2 g3
    have z := h ls H locs g1 g2 g3
    rw [hn] at z
    rw [hi]
    exact lv_l2i hx hb hd rfl z
  · exact h.elim
theorem am_s_lshl (F : am_fr p s m args meth c G y bc nL rt lk)  (hc : am_chk y bc nL rt lk t i (pc, .lshl, len, k1, k2, k3, v, sw) = true) (hi : am_pcs t i = pc) (h : am_st cl (am_mo p l e Rm s m args below meth c cs ss Q G nL t) Rr .lshl k1 k2 k3 v sw i lo st mi ml) : (am_mo p l e Rm s m args below meth c cs ss Q G nL t) i lo st mi ml := by
  obtain ⟨hx, hb, hml, hr, hlocks, hts, hlk, hown, hK, hX⟩ := F
  have hc : (decide (decode bc pc = .ok (.lshl, len)) && (len == 1 && am_pcs t (i + 1) == pc + 1)) = true := hc
  simp only [Bool.and_eq_true, decide_eq_true_eq, beq_iff_eq] at hc
  obtain ⟨hd, hl, hn⟩ := hc
  subst hl
  simp only [am_st] at h
  split at h
  · intro ls H locs g1 g2 g3
    have z := h ls H locs g1 g2 g3
    rw [hn] at z
    rw [hi]
    exact lv_lshl hx hb hd rfl z
  · exact h.elim
theorem am_s_lcmp (F : am_fr p s m args meth c G y bc nL rt lk)  (hc : am_chk y bc nL rt lk t i (pc, .lcmp, len, k1, k2, k3, v, sw) = true) (hi : am_pcs t i = pc) (h : am_st cl (am_mo p l e Rm s m args below meth c cs ss Q G nL t) Rr .lcmp k1 k2 k3 v sw i lo st mi ml) : (am_mo p l e Rm s m args below meth c cs ss Q G nL t) i lo st mi ml := by
  obtain ⟨hx, hb, hml, hr, hlocks, hts, hlk, hown, hK, hX⟩ := F
  have hc : (decide (decode bc pc = .ok (.lcmp, len)) && (len == 1 && am_pcs t (i + 1) == pc + 1)) = true := hc
  simp only [Bool.and_eq_true, decide_eq_true_eq, beq_iff_eq] at hc
  obtain ⟨hd, hl, hn⟩ := hc
  subst hl
  simp only [am_st] at h
  split at h
  · intro ls H locs g1 g2 g3
    have z := h ls H locs g1 g2 g3
    rw [hn] at z
    rw [hi]
    exact W.lcmp hx hb hd z
  · exact h.elim
theorem am_s_iload (F : am_fr p s m args meth c G y bc nL rt lk) {n : Nat} (hc : am_chk y bc nL rt lk t i (pc, (.iload n), len, k1, k2, k3, v, sw) = true) (hi : am_pcs t i = pc) (h : am_ldI (am_mo p l e Rm s m args below meth c cs ss Q G nL t) i lo st mi ml n) : (am_mo p l e Rm s m args below meth c cs ss Q G nL t) i lo st mi ml := by
  obtain ⟨hx, hb, hml, hr, hlocks, hts, hlk, hown, hK, hX⟩ := F
  have hc : (decide (decode bc pc = .ok (.iload n, len)) && (len == 2 && am_pcs t (i + 1) == pc + 2)) = true := hc
  simp only [Bool.and_eq_true, decide_eq_true_eq, beq_iff_eq] at hc
  obtain ⟨hd, hl, hn⟩ := hc
  subst hl
  unfold am_ldI at h
  split at h
  · rename_i x hg
    intro ls H locs g1 g2 g3
    have z := h ls H locs g1 g2 g3
    rw [hn] at z
    rw [hi]
    exact lv_iload hx hb hd (am_lv_at g1 hg) z
  · exact h.elim
theorem am_s_iload_n (F : am_fr p s m args meth c G y bc nL rt lk) {n : Fin 4} (hc : am_chk y bc nL rt lk t i (pc, (.iload_n n), len, k1, k2, k3, v, sw) = true) (hi : am_pcs t i = pc) (h : am_ldI (am_mo p l e Rm s m args below meth c cs ss Q G nL t) i lo st mi ml n) : (am_mo p l e Rm s m args below meth c cs ss Q G nL t) i lo st mi ml := by
  obtain ⟨hx, hb, hml, hr, hlocks, hts, hlk, hown, hK, hX⟩ := F
  have hc : (decide (decode bc pc = .ok (.iload_n n, len)) && (len == 1 && am_pcs t (i + 1) == pc + 1)) = true := hc
  simp only [Bool.and_eq_true, decide_eq_true_eq, beq_iff_eq] at hc
  obtain ⟨hd, hl, hn⟩ := hc
  subst hl
  unfold am_ldI at h
  split at h
  · rename_i x hg
    intro ls H locs g1 g2 g3
    have z := h ls H locs g1 g2 g3
    rw [hn] at z
    rw [hi]
    exact lv_iload_n hx hb hd rfl (am_lv_at g1 hg) z
  · exact h.elim
theorem am_s_lload (F : am_fr p s m args meth c G y bc nL rt lk) {n : Nat} (hc : am_chk y bc nL rt lk t i (pc, (.lload n), len, k1, k2, k3, v, sw) = true) (hi : am_pcs t i = pc) (h : am_ldJ (am_mo p l e Rm s m args below meth c cs ss Q G nL t) i lo st mi ml n) : (am_mo p l e Rm s m args below meth c cs ss Q G nL t) i lo st mi ml := by
  obtain ⟨hx, hb, hml, hr, hlocks, hts, hlk, hown, hK, hX⟩ := F
  have hc : (decide (decode bc pc = .ok (.lload n, len)) && (len == 2 && am_pcs t (i + 1) == pc + 2)) = true := hc
  simp only [Bool.and_eq_true, decide_eq_true_eq, beq_iff_eq] at hc
  obtain ⟨hd, hl, hn⟩ := hc
  subst hl
  unfold am_ldJ at h
  split at h
  · rename_i x hg
    intro ls H locs g1 g2 g3
    have z := h ls H locs g1 g2 g3
    rw [hn] at z
    rw [hi]
    exact lv_lload hx hb hd (am_lv_at g1 hg) z
  · exact h.elim
theorem am_s_lload_n (F : am_fr p s m args meth c G y bc nL rt lk) {n : Fin 4} (hc : am_chk y bc nL rt lk t i (pc, (.lload_n n), len, k1, k2, k3, v, sw) = true) (hi : am_pcs t i = pc) (h : am_ldJ (am_mo p l e Rm s m args below meth c cs ss Q G nL t) i lo st mi ml n) : (am_mo p l e Rm s m args below meth c cs ss Q G nL t) i lo st mi ml := by
  obtain ⟨hx, hb, hml, hr, hlocks, hts, hlk, hown, hK, hX⟩ := F
  have hc : (decide (decode bc pc = .ok (.lload_n n, len)) && (len == 1 && am_pcs t (i + 1) == pc + 1)) = true := hc
  simp only [Bool.and_eq_true, decide_eq_true_eq, beq_iff_eq] at hc
  obtain ⟨hd, hl, hn⟩ := hc
  subst hl
  unfold am_ldJ at h
  split at h
  · rename_i x hg
    intro ls H locs g1 g2 g3
    have z := h ls H locs g1 g2 g3
    rw [hn] at z
    rw [hi]
    exact lv_lload_n hx hb hd rfl (am_lv_at g1 hg) z
  · exact h.elim
theorem am_s_aload (F : am_fr p s m args meth c G y bc nL rt lk) {n : Nat} (hc : am_chk y bc nL rt lk t i (pc, (.aload n), len, k1, k2, k3, v, sw) = true) (hi : am_pcs t i = pc) (h : am_ldA (am_mo p l e Rm s m args below meth c cs ss Q G nL t) i lo st mi ml n) : (am_mo p l e Rm s m args below meth c cs ss Q G nL t) i lo st mi ml := by
  obtain ⟨hx, hb, hml, hr, hlocks, hts, hlk, hown, hK, hX⟩ := F
  have hc : (decide (decode bc pc = .ok (.aload n, len)) && (len == 2 && am_pcs t (i + 1) == pc + 2)) = true := hc
  simp only [Bool.and_eq_true, decide_eq_true_eq, beq_iff_eq] at hc
  obtain ⟨hd, hl, hn⟩ := hc
  subst hl
  unfold am_ldA at h
  split at h
  · rename_i x hg
    intro ls H locs g1 g2 g3
    have z := h ls H locs g1 g2 g3
    rw [hn] at z
    rw [hi]
    exact lv_aload hx hb hd (am_lv_at g1 hg) z
  · exact h.elim
theorem am_s_aload_n (F : am_fr p s m args meth c G y bc nL rt lk) {n : Fin 4} (hc : am_chk y bc nL rt lk t i (pc, (.aload_n n), len, k1, k2, k3, v, sw) = true) (hi : am_pcs t i = pc) (h : am_ldA (am_mo p l e Rm s m args below meth c cs ss Q G nL t) i lo st mi ml n) : (am_mo p l e Rm s m args below meth c cs ss Q G nL t) i lo st mi ml := by
  obtain ⟨hx, hb, hml, hr, hlocks, hts, hlk, hown, hK, hX⟩ := F
  have hc : (decide (decode bc pc = .ok (.aload_n n, len)) && (len == 1 && am_pcs t (i + 1) == pc + 1)) = true := hc
  simp only [Bool.and_eq_true, decide_eq_true_eq, beq_iff_eq] at hc
  obtain ⟨hd, hl, hn⟩ := hc
  subst hl
  unfold am_ldA at h
  split at h
  · rename_i x hg
    intro ls H locs g1 g2 g3
    have z := h ls H locs g1 g2 g3
    rw [hn] at z
    rw [hi]
    exact lv_aload_n hx hb hd rfl (am_lv_at g1 hg) z
  · exact h.elim
theorem am_s_istore (F : am_fr p s m args meth c G y bc nL rt lk) {n : Nat} (hc : am_chk y bc nL rt lk t i (pc, (.istore n), len, k1, k2, k3, v, sw) = true) (hi : am_pcs t i = pc) (h : am_stI (am_mo p l e Rm s m args below meth c cs ss Q G nL t) i lo st mi ml n) : (am_mo p l e Rm s m args below meth c cs ss Q G nL t) i lo st mi ml := by
  obtain ⟨hx, hb, hml, hr, hlocks, hts, hlk, hown, hK, hX⟩ := F
  have hc : (decide (decode bc pc = .ok (.istore n, len)) && (len == 2 && am_pcs t (i + 1) == pc + 2 && decide ((n : Nat) < nL))) = true := hc
  simp only [Bool.and_eq_true, decide_eq_true_eq, beq_iff_eq] at hc
  obtain ⟨hd, ⟨hl, hn⟩, hlt⟩ := hc
  subst hl
  unfold am_stI at h
  split at h
  · intro ls H locs g1 g2 g3
    rw [hi]
    refine lv_istore hx hb hd g1 hlt rfl (fun ls2 g => ?_)
    have z := h ls2 H locs (am_lv_sub g am_s1_sub) g2 g3
    rw [hn] at z
    exact z
  · exact h.elim
theorem am_s_istore_n (F : am_fr p s m args meth c G y bc nL rt lk) {n : Fin 4} (hc : am_chk y bc nL rt lk t i (pc, (.istore_n n), len, k1, k2, k3, v, sw) = true) (hi : am_pcs t i = pc) (h : am_stI (am_mo p l e Rm s m args below meth c cs ss Q G nL t) i lo st mi ml n) : (am_mo p l e Rm s m args below meth c cs ss Q G nL t) i lo st mi ml := by
  obtain ⟨hx, hb, hml, hr, hlocks, hts, hlk, hown, hK, hX⟩ := F
  have hc : (decide (decode bc pc = .ok (.istore_n n, len)) && (len == 1 && am_pcs t (i + 1) == pc + 1 && decide ((n : Nat) < nL))) = true := hc
  simp only [Bool.and_eq_true, decide_eq_true_eq, beq_iff_eq] at hc
  obtain ⟨hd, ⟨hl, hn⟩, hlt⟩ := hc
  subst hl
  unfold am_stI at h
  split at h
  · intro ls H locs g1 g2 g3
    rw [hi]
    refine lv_istore_n hx hb hd rfl g1 hlt rfl (fun ls2 g => ?_)
    have z := h ls2 H locs (am_lv_sub g am_s1_sub) g2 g3
    rw [hn] at z
    exact z
  · exact h.elim
theorem am_s_lstore (F : am_fr p s m args meth c G y bc nL rt lk) {n : Nat} (hc : am_chk y bc nL rt lk t i (pc, (.lstore n), len, k1, k2, k3, v, sw) = true) (hi : am_pcs t i = pc) (h : am_stJ (am_mo p l e Rm s m args below meth c cs ss Q G nL t) i lo st mi ml n) : (am_mo p l e Rm s m args below meth c cs ss Q G nL t) i lo st mi ml := by
  obtain ⟨hx, hb, hml, hr, hlocks, hts, hlk, hown, hK, hX⟩ := F
  have hc : (decide (decode bc pc = .ok (.lstore n, len)) && (len == 2 && am_pcs t (i + 1) == pc + 2 && decide ((n : Nat) + 1 < nL))) = true := hc
  simp only [Bool.and_eq_true, decide_eq_true_eq, beq_iff_eq] at hc
  obtain ⟨hd, ⟨hl, hn⟩, hlt⟩ := hc
  subst hl
  unfold am_stJ at h
  split at h
  · intro ls H locs g1 g2 g3
    rw [hi]
    refine lv_lstore hx hb hd g1 hlt rfl (fun ls2 g => ?_)
    have z := h ls2 H locs (am_lv_sub g am_s2_sub) g2 g3
    rw [hn] at z
    exact z
  · exact h.elim
theorem am_s_lstore_n (F : am_fr p s m args meth c G y bc nL rt lk) {n : Fin 4} (hc : am_chk y bc nL rt lk t i (pc, (.lstore_n n), len, k1, k2, k3, v, sw) = true) (hi : am_pcs t i = pc) (h : am_stJ (am_mo p l e Rm s m args below meth c cs ss Q G nL t) i lo st mi ml n) : (am_mo p l e Rm s m args below meth c cs ss Q G nL t) i lo st mi ml := by
  obtain ⟨hx, hb, hml, hr, hlocks, hts, hlk, hown, hK, hX⟩ := F
  have hc : (decide (decode bc pc = .ok (.lstore_n n, len)) && (len == 1 && am_pcs t (i + 1) == pc + 1 && decide ((n : Nat) + 1 < nL))) = true := hc
  simp only [Bool.and_eq_true, decide_eq_true_eq, beq_iff_eq] at hc
  obtain ⟨hd, ⟨hl, hn⟩, hlt⟩ := hc
  subst hl
  unfold am_stJ at h
  split at h
  · intro ls H locs g1 g2 g3
    rw [hi]
    refine lv_lstore_n hx hb hd rfl g1 hlt rfl (fun ls2 g => ?_)
    have z := h ls2 H locs (am_lv_sub g am_s2_sub) g2 g3
    rw [hn] at z
    exact z
  · exact h.elim
theorem am_s_astore (F : am_fr p s m args meth c G y bc nL rt lk) {n : Nat} (hc : am_chk y bc nL rt lk t i (pc, (.astore n), len, k1, k2, k3, v, sw) = true) (hi : am_pcs t i = pc) (h : am_stA (am_mo p l e Rm s m args below meth c cs ss Q G nL t) i lo st mi ml n) : (am_mo p l e Rm s m args below meth c cs ss Q G nL t) i lo st mi ml := by
  obtain ⟨hx, hb, hml, hr, hlocks, hts, hlk, hown, hK, hX⟩ := F
  have hc : (decide (decode bc pc = .ok (.astore n, len)) && (len == 2 && am_pcs t (i + 1) == pc + 2 && decide ((n : Nat) < nL))) = true := hc
  simp only [Bool.and_eq_true, decide_eq_true_eq, beq_iff_eq] at hc
  obtain ⟨hd, ⟨hl, hn⟩, hlt⟩ := hc
  subst hl
  unfold am_stA at h
  split at h
  · intro ls H locs g1 g2 g3
    rw [hi]
    refine lv_astore hx hb hd g1 hlt rfl (fun ls2 g => ?_)
    have z := h ls2 H locs (am_lv_sub g am_s1_sub) g2 g3
    rw [hn] at z
    exact z
  · exact h.elim
theorem am_s_astore_n (F : am_fr p s m args meth c G y bc nL rt lk) {n : Fin 4} (hc : am_chk y bc nL rt lk t i (pc, (.astore_n n), len, k1, k2, k3, v, sw) = true) (hi : am_pcs t i = pc) (h : am_stA (am_mo p l e Rm s m args below meth c cs ss Q G nL t) i lo st mi ml n) : (am_mo p l e Rm s m args below meth c cs ss Q G nL t) i lo st mi ml := by
  obtain ⟨hx, hb, hml, hr, hlocks, hts, hlk, hown, hK, hX⟩ := F
  have hc : (decide (decode bc pc = .ok (.astore_n n, len)) && (len == 1 && am_pcs t (i + 1) == pc + 1 && decide ((n : Nat) < nL))) = true := hc
  simp only [Bool.and_eq_true, decide_eq_true_eq, beq_iff_eq] at hc
  obtain ⟨hd, ⟨hl, hn⟩, hlt⟩ := hc
  subst hl
  unfold am_stA at h
  split at h
  · intro ls H locs g1 g2 g3
    rw [hi]
    refine lv_astore_n hx hb hd rfl g1 hlt rfl (fun ls2 g => ?_)
    have z := h ls2 H locs (am_lv_sub g am_s1_sub) g2 g3
    rw [hn] at z
    exact z
  · exact h.elim
theorem am_s_iinc (F : am_fr p s m args meth c G y bc nL rt lk) {n : Nat} {w : Int} (hc : am_chk y bc nL rt lk t i (pc, (.iinc n w), len, k1, k2, k3, v, sw) = true) (hi : am_pcs t i = pc) (h : am_inc (am_mo p l e Rm s m args below meth c cs ss Q G nL t) i lo st mi ml n v) : (am_mo p l e Rm s m args below meth c cs ss Q G nL t) i lo st mi ml := by
  obtain ⟨hx, hb, hml, hr, hlocks, hts, hlk, hown, hK, hX⟩ := F
  have hc : (decide (decode bc pc = .ok (.iinc n w, len)) && (len == 3 && am_pcs t (i + 1) == pc + 3 && decide (n < nL) && decide (Int32.ofInt w = v))) = true := hc
  simp only [Bool.and_eq_true, decide_eq_true_eq, beq_iff_eq] at hc
  obtain ⟨hd, ⟨⟨hl, hn⟩, hlt⟩, hv⟩ := hc
  subst hl
  unfold am_inc at h
  split at h
  · rename_i x hg
    intro ls H locs g1 g2 g3
    rw [hi]
    obtain ⟨k, hk⟩ := List.getElem?_of_mem (am_lt_0 (G := G).mpr ⟨_, rfl, hg⟩ : (n, am_tv G (.int x)) ∈ am_lt G 0 lo)
    refine lv_iinc (v := x + v) hx hb hd g1 hk (by rw [hv]) hlt rfl (fun ls2 g => ?_)
    have z := h ls2 H locs (am_lv_sub g am_s1_sub) g2 g3
    rw [hn] at z
    exact z
  · exact h.elim
theorem am_s_iconst (F : am_fr p s m args meth c G y bc nL rt lk) {w : Int} (hc : am_chk y bc nL rt lk t i (pc, (.iconst w), len, k1, k2, k3, v, sw) = true) (hi : am_pcs t i = pc) (h : (am_mo p l e Rm s m args below meth c cs ss Q G nL t) (i + 1) lo (.int v :: st) mi ml) : (am_mo p l e Rm s m args below meth c cs ss Q G nL t) i lo st mi ml := by
  obtain ⟨hx, hb, hml, hr, hlocks, hts, hlk, hown, hK, hX⟩ := F
  have hc : (decide (decode bc pc = .ok (.iconst w, len)) && (len == 1 && am_pcs t (i + 1) == pc + 1 && decide (Int32.ofInt w = v))) = true := hc
  simp only [Bool.and_eq_true, decide_eq_true_eq, beq_iff_eq] at hc
  obtain ⟨hd, ⟨hl, hn⟩, hv⟩ := hc
  subst hl
  intro ls H locs g1 g2 g3
  have z := h ls H locs g1 g2 g3
  rw [hn] at z
  rw [hi]
  exact lv_iconst hx hb hd hv z
theorem am_s_bipush (F : am_fr p s m args meth c G y bc nL rt lk) {w : Int} (hc : am_chk y bc nL rt lk t i (pc, (.bipush w), len, k1, k2, k3, v, sw) = true) (hi : am_pcs t i = pc) (h : (am_mo p l e Rm s m args below meth c cs ss Q G nL t) (i + 1) lo (.int v :: st) mi ml) : (am_mo p l e Rm s m args below meth c cs ss Q G nL t) i lo st mi ml := by
  obtain ⟨hx, hb, hml, hr, hlocks, hts, hlk, hown, hK, hX⟩ := F
  have hc : (decide (decode bc pc = .ok (.bipush w, len)) && (len == 2 && am_pcs t (i + 1) == pc + 2 && decide ((Int8.ofInt w).toInt32 = v))) = true := hc
  simp only [Bool.and_eq_true, decide_eq_true_eq, beq_iff_eq] at hc
  obtain ⟨hd, ⟨hl, hn⟩, hv⟩ := hc
  subst hl
  intro ls H locs g1 g2 g3
  have z := h ls H locs g1 g2 g3
  rw [hn] at z
  rw [hi]
  exact lv_bipush hx hb hd hv z
theorem am_s_sipush (F : am_fr p s m args meth c G y bc nL rt lk) {w : Int} (hc : am_chk y bc nL rt lk t i (pc, (.sipush w), len, k1, k2, k3, v, sw) = true) (hi : am_pcs t i = pc) (h : (am_mo p l e Rm s m args below meth c cs ss Q G nL t) (i + 1) lo (.int v :: st) mi ml) : (am_mo p l e Rm s m args below meth c cs ss Q G nL t) i lo st mi ml := by
  obtain ⟨hx, hb, hml, hr, hlocks, hts, hlk, hown, hK, hX⟩ := F
  have hc : (decide (decode bc pc = .ok (.sipush w, len)) && (len == 3 && am_pcs t (i + 1) == pc + 3 && decide ((Int16.ofInt w).toInt32 = v))) = true := hc
  simp only [Bool.and_eq_true, decide_eq_true_eq, beq_iff_eq] at hc
  obtain ⟨hd, ⟨hl, hn⟩, hv⟩ := hc
  subst hl
  intro ls H locs g1 g2 g3
  have z := h ls H locs g1 g2 g3
  rw [hn] at z
  rw [hi]
  exact lv_sipush hx hb hd hv z
theorem am_s_lconst (F : am_fr p s m args meth c G y bc nL rt lk) {w : Fin 2} (hc : am_chk y bc nL rt lk t i (pc, (.lconst w), len, k1, k2, k3, v, sw) = true) (hi : am_pcs t i = pc) (h : (am_mo p l e Rm s m args below meth c cs ss Q G nL t) (i + 1) lo (.long (am_lc k1) :: st) mi ml) : (am_mo p l e Rm s m args below meth c cs ss Q G nL t) i lo st mi ml := by
  obtain ⟨hx, hb, hml, hr, hlocks, hts, hlk, hown, hK, hX⟩ := F
  have hc : (decide (decode bc pc = .ok (.lconst w, len)) && (len == 1 && am_pcs t (i + 1) == pc + 1 && decide (Int64.ofNat (w : Nat) = am_lc k1))) = true := hc
  simp only [Bool.and_eq_true, decide_eq_true_eq, beq_iff_eq] at hc
  obtain ⟨hd, ⟨hl, hn⟩, hv⟩ := hc
  subst hl
  intro ls H locs g1 g2 g3
  have z := h ls H locs g1 g2 g3
  rw [hn] at z
  rw [hi]
  exact lv_lconst hx hb hd hv z
theorem am_s_ldc_w (F : am_fr p s m args meth c G y bc nL rt lk) {q : Nat} (hc : am_chk y bc nL rt lk t i (pc, (.ldc_w q), len, k1, k2, k3, v, sw) = true) (hi : am_pcs t i = pc) (h : (am_mo p l e Rm s m args below meth c cs ss Q G nL t) (i + 1) lo (.int v :: st) mi ml) : (am_mo p l e Rm s m args below meth c cs ss Q G nL t) i lo st mi ml := by
  obtain ⟨hx, hb, hml, hr, hlocks, hts, hlk, hown, hK, hX⟩ := F
  have hc : (decide (decode bc pc = .ok (.ldc_w q, len)) && (len == 3 && am_pcs t (i + 1) == pc + 3 && decide (Cond.constant y.cls q v ∈ lk))) = true := hc
  simp only [Bool.and_eq_true, decide_eq_true_eq, beq_iff_eq] at hc
  obtain ⟨hd, ⟨hl, hn⟩, hv⟩ := hc
  subst hl
  intro ls H locs g1 g2 g3
  have z := h ls H locs g1 g2 g3
  rw [hn] at z
  rw [hi]
  exact lv_ldcw hx hb hown (hts _ (am_tb_i (hlk _ hv) rfl)) hd z
theorem am_s_ldc2_w (F : am_fr p s m args meth c G y bc nL rt lk) {q : Nat} (hc : am_chk y bc nL rt lk t i (pc, (.ldc2_w q), len, k1, k2, k3, v, sw) = true) (hi : am_pcs t i = pc) (h : (am_mo p l e Rm s m args below meth c cs ss Q G nL t) (i + 1) lo (.long (am_lc k1) :: st) mi ml) : (am_mo p l e Rm s m args below meth c cs ss Q G nL t) i lo st mi ml := by
  obtain ⟨hx, hb, hml, hr, hlocks, hts, hlk, hown, hK, hX⟩ := F
  have hc : (decide (decode bc pc = .ok (.ldc2_w q, len)) && (len == 3 && am_pcs t (i + 1) == pc + 3 && decide (Cond.constantLong y.cls q (am_lc k1) ∈ lk))) = true := hc
  simp only [Bool.and_eq_true, decide_eq_true_eq, beq_iff_eq] at hc
  obtain ⟨hd, ⟨hl, hn⟩, hv⟩ := hc
  subst hl
  intro ls H locs g1 g2 g3
  have z := h ls H locs g1 g2 g3
  rw [hn] at z
  rw [hi]
  exact lv_ldc2 hx hb hown (hts _ (am_tb_i (hlk _ hv) rfl)) hd z
theorem am_s_ldc (F : am_fr p s m args meth c G y bc nL rt lk) {q : Nat} (hc : am_chk y bc nL rt lk t i (pc, (.ldc q), len, k1, k2, k3, v, sw) = true) (hi : am_pcs t i = pc) (h : am_st cl (am_mo p l e Rm s m args below meth c cs ss Q G nL t) Rr (.ldc q) k1 k2 k3 v sw i lo st mi ml) : (am_mo p l e Rm s m args below meth c cs ss Q G nL t) i lo st mi ml := by
  obtain ⟨hx, hb, hml, hr, hlocks, hts, hlk, hown, hK, hX⟩ := F
  have hc : (decide (decode bc pc = .ok (.ldc q, len)) && (len == 2 && am_pcs t (i + 1) == pc + 2 && (match (generalizing := false) k2 with
      | 0 => decide (Cond.constant y.cls q v ∈ lk)
      | _ => y.cls == "DoorsForThree$Law" && am_strs.any fun w => w.1 == q && w.2.2 == k1))) = true := hc
  simp only [Bool.and_eq_true, decide_eq_true_eq, beq_iff_eq] at hc
  obtain ⟨hd, ⟨hl, hn⟩, hv⟩ := hc
  subst hl
  simp only [am_st] at h
  intro ls H locs g1 g2 g3
  rw [hi]
  split at hv
  · have z := h ls H locs g1 g2 g3
    rw [hn] at z
    exact lv_ldc hx hb hown (hts _ (am_tb_i (hlk _ (by simpa using hv)) rfl)) hd z
  · rename_i hne
    have z : am_mo p l e Rm s m args below meth c cs ss Q G nL t (i + 1) lo (.ref k1 :: st) mi ml := by
      split at h
      · exact (hne rfl).elim
      · exact h
    have z := z ls H locs g1 g2 g3
    rw [hn] at z
    simp only [Bool.and_eq_true, beq_iff_eq] at hv
    obtain ⟨w, hw, hw2⟩ := List.any_eq_true.mp hv.2
    simp only [Bool.and_eq_true, beq_iff_eq] at hw2
    have hz := hX.2.2.2.1 w hw
    rw [hw2.1, hw2.2] at hz
    rw [hv.1] at hown
    exact va_ldcS hx hb hown hz hd z
theorem am_s_dup (F : am_fr p s m args meth c G y bc nL rt lk)  (hc : am_chk y bc nL rt lk t i (pc, .dup, len, k1, k2, k3, v, sw) = true) (hi : am_pcs t i = pc) (h : am_dup (am_mo p l e Rm s m args below meth c cs ss Q G nL t) i lo st mi ml) : (am_mo p l e Rm s m args below meth c cs ss Q G nL t) i lo st mi ml := by
  obtain ⟨hx, hb, hml, hr, hlocks, hts, hlk, hown, hK, hX⟩ := F
  have hc : (decide (decode bc pc = .ok (.dup, len)) && (len == 1 && am_pcs t (i + 1) == pc + 1)) = true := hc
  simp only [Bool.and_eq_true, decide_eq_true_eq, beq_iff_eq] at hc
  obtain ⟨hd, hl, hn⟩ := hc
  subst hl
  unfold am_dup at h
  split at h
  · intro ls H locs g1 g2 g3
    have z := (am_need_e h).2 ls H locs g1 g2 g3
    rw [hn] at z
    rw [hi]
    exact lv_dup hx hb hd (am_tv_cat.trans (eq_of_beq (am_need_e h).1)) z
  · exact h.elim
theorem am_s_pop (F : am_fr p s m args meth c G y bc nL rt lk)  (hc : am_chk y bc nL rt lk t i (pc, .pop, len, k1, k2, k3, v, sw) = true) (hi : am_pcs t i = pc) (h : am_pop (am_mo p l e Rm s m args below meth c cs ss Q G nL t) i lo st mi ml) : (am_mo p l e Rm s m args below meth c cs ss Q G nL t) i lo st mi ml := by
  obtain ⟨hx, hb, hml, hr, hlocks, hts, hlk, hown, hK, hX⟩ := F
  have hc : (decide (decode bc pc = .ok (.pop, len)) && (len == 1 && am_pcs t (i + 1) == pc + 1)) = true := hc
  simp only [Bool.and_eq_true, decide_eq_true_eq, beq_iff_eq] at hc
  obtain ⟨hd, hl, hn⟩ := hc
  subst hl
  unfold am_pop at h
  split at h
  · intro ls H locs g1 g2 g3
    have z := (am_need_e h).2 ls H locs g1 g2 g3
    rw [hn] at z
    rw [hi]
    exact lv_pop hx hb hd (am_tv_cat.trans (eq_of_beq (am_need_e h).1)) z
  · exact h.elim
theorem am_s_dup_x1 (F : am_fr p s m args meth c G y bc nL rt lk)  (hc : am_chk y bc nL rt lk t i (pc, .dup_x1, len, k1, k2, k3, v, sw) = true) (hi : am_pcs t i = pc) (h : am_dupx1 (am_mo p l e Rm s m args below meth c cs ss Q G nL t) i lo st mi ml) : (am_mo p l e Rm s m args below meth c cs ss Q G nL t) i lo st mi ml := by
  obtain ⟨hx, hb, hml, hr, hlocks, hts, hlk, hown, hK, hX⟩ := F
  have hc : (decide (decode bc pc = .ok (.dup_x1, len)) && (len == 1 && am_pcs t (i + 1) == pc + 1)) = true := hc
  simp only [Bool.and_eq_true, decide_eq_true_eq, beq_iff_eq] at hc
  obtain ⟨hd, hl, hn⟩ := hc
  subst hl
  unfold am_dupx1 at h
  split at h
  · intro ls H locs g1 g2 g3
    obtain ⟨hcc, h⟩ := am_need_e h
    simp only [Bool.and_eq_true, beq_iff_eq] at hcc
    have z := h ls H locs g1 g2 g3
    rw [hn] at z
    rw [hi]
    exact lv_dup_x1 hx hb hd (am_tv_cat.trans hcc.1) (am_tv_cat.trans hcc.2) z
  · exact h.elim
theorem am_s_dup2 (F : am_fr p s m args meth c G y bc nL rt lk)  (hc : am_chk y bc nL rt lk t i (pc, .dup2, len, k1, k2, k3, v, sw) = true) (hi : am_pcs t i = pc) (h : am_dup2 (am_mo p l e Rm s m args below meth c cs ss Q G nL t) i lo st mi ml) : (am_mo p l e Rm s m args below meth c cs ss Q G nL t) i lo st mi ml := by
  obtain ⟨hx, hb, hml, hr, hlocks, hts, hlk, hown, hK, hX⟩ := F
  have hc : (decide (decode bc pc = .ok (.dup2, len)) && (len == 1 && am_pcs t (i + 1) == pc + 1)) = true := hc
  simp only [Bool.and_eq_true, decide_eq_true_eq, beq_iff_eq] at hc
  obtain ⟨hd, hl, hn⟩ := hc
  subst hl
  unfold am_dup2 at h
  split at h
  · intro ls H locs g1 g2 g3
    have z := h ls H locs g1 g2 g3
    rw [hn] at z
    rw [hi]
    exact lv_dup2_2 hx hb hd rfl z
  · intro ls H locs g1 g2 g3
    obtain ⟨hcc, h⟩ := am_need_e h
    simp only [Bool.and_eq_true, beq_iff_eq] at hcc
    have z := h ls H locs g1 g2 g3
    rw [hn] at z
    rw [hi]
    exact lv_dup2_11 hx hb hd (am_tv_cat.trans hcc.1) (am_tv_cat.trans hcc.2) z
  · exact h.elim
theorem am_s_goto (F : am_fr p s m args meth c G y bc nL rt lk) {off : Int} (hc : am_chk y bc nL rt lk t i (pc, (.goto off), len, k1, k2, k3, v, sw) = true) (hi : am_pcs t i = pc) (h : (am_mo p l e Rm s m args below meth c cs ss Q G nL t) k1 lo st mi ml) : (am_mo p l e Rm s m args below meth c cs ss Q G nL t) i lo st mi ml := by
  obtain ⟨hx, hb, hml, hr, hlocks, hts, hlk, hown, hK, hX⟩ := F
  have hc : (decide (decode bc pc = .ok (.goto off, len)) && (len == 3 && decide ((pc : Int) + off = (am_pcs t k1 : Int)))) = true := hc
  simp only [Bool.and_eq_true, decide_eq_true_eq, beq_iff_eq] at hc
  obtain ⟨hd, hl, ht⟩ := hc
  subst hl
  intro ls H locs g1 g2 g3
  rw [hi]
  exact lv_goto hx hb hd ht (h ls H locs g1 g2 g3)
theorem am_s_if_eq (F : am_fr p s m args meth c G y bc nL rt lk) {off : Int} (hc : am_chk y bc nL rt lk t i (pc, (.ifCond .eq off), len, k1, k2, k3, v, sw) = true) (hi : am_pcs t i = pc) (h : am_br (am_mo p l e Rm s m args below meth c cs ss Q G nL t) i lo st mi ml k1 (fun x => x = 0)) : (am_mo p l e Rm s m args below meth c cs ss Q G nL t) i lo st mi ml := by
  obtain ⟨hx, hb, hml, hr, hlocks, hts, hlk, hown, hK, hX⟩ := F
  have hc : (decide (decode bc pc = .ok (.ifCond .eq off, len)) && (len == 3 && am_pcs t (i + 1) == pc + 3 && decide ((pc : Int) + off = (am_pcs t k1 : Int)))) = true := hc
  simp only [Bool.and_eq_true, decide_eq_true_eq, beq_iff_eq] at hc
  obtain ⟨hd, ⟨hl, hn⟩, ht⟩ := hc
  subst hl
  unfold am_br at h
  split at h
  · intro ls H locs g1 g2 g3
    rw [hi]
    refine lv_if_eq hx hb hd ht (fun q => h.1 q ls H locs g1 g2 g3) (fun q => ?_)
    have z := h.2 q ls H locs g1 g2 g3
    rw [hn] at z
    exact z
  · exact h.elim
theorem am_s_if_ne (F : am_fr p s m args meth c G y bc nL rt lk) {off : Int} (hc : am_chk y bc nL rt lk t i (pc, (.ifCond .ne off), len, k1, k2, k3, v, sw) = true) (hi : am_pcs t i = pc) (h : am_br (am_mo p l e Rm s m args below meth c cs ss Q G nL t) i lo st mi ml k1 (fun x => x ≠ 0)) : (am_mo p l e Rm s m args below meth c cs ss Q G nL t) i lo st mi ml := by
  obtain ⟨hx, hb, hml, hr, hlocks, hts, hlk, hown, hK, hX⟩ := F
  have hc : (decide (decode bc pc = .ok (.ifCond .ne off, len)) && (len == 3 && am_pcs t (i + 1) == pc + 3 && decide ((pc : Int) + off = (am_pcs t k1 : Int)))) = true := hc
  simp only [Bool.and_eq_true, decide_eq_true_eq, beq_iff_eq] at hc
  obtain ⟨hd, ⟨hl, hn⟩, ht⟩ := hc
  subst hl
  unfold am_br at h
  split at h
  · intro ls H locs g1 g2 g3
    rw [hi]
    refine lv_if_ne hx hb hd ht (fun q => h.1 q ls H locs g1 g2 g3) (fun q => ?_)
    have z := h.2 (fun u => u q) ls H locs g1 g2 g3
    rw [hn] at z
    exact z
  · exact h.elim
theorem am_s_if_lt (F : am_fr p s m args meth c G y bc nL rt lk) {off : Int} (hc : am_chk y bc nL rt lk t i (pc, (.ifCond .lt off), len, k1, k2, k3, v, sw) = true) (hi : am_pcs t i = pc) (h : am_br (am_mo p l e Rm s m args below meth c cs ss Q G nL t) i lo st mi ml k1 (fun x => x < 0)) : (am_mo p l e Rm s m args below meth c cs ss Q G nL t) i lo st mi ml := by
  obtain ⟨hx, hb, hml, hr, hlocks, hts, hlk, hown, hK, hX⟩ := F
  have hc : (decide (decode bc pc = .ok (.ifCond .lt off, len)) && (len == 3 && am_pcs t (i + 1) == pc + 3 && decide ((pc : Int) + off = (am_pcs t k1 : Int)))) = true := hc
  simp only [Bool.and_eq_true, decide_eq_true_eq, beq_iff_eq] at hc
  obtain ⟨hd, ⟨hl, hn⟩, ht⟩ := hc
  subst hl
  unfold am_br at h
  split at h
  · intro ls H locs g1 g2 g3
    rw [hi]
    refine lv_if_lt hx hb hd ht (fun q => h.1 q ls H locs g1 g2 g3) (fun q => ?_)
    have z := h.2 q ls H locs g1 g2 g3
    rw [hn] at z
    exact z
  · exact h.elim
theorem am_s_if_ge (F : am_fr p s m args meth c G y bc nL rt lk) {off : Int} (hc : am_chk y bc nL rt lk t i (pc, (.ifCond .ge off), len, k1, k2, k3, v, sw) = true) (hi : am_pcs t i = pc) (h : am_br (am_mo p l e Rm s m args below meth c cs ss Q G nL t) i lo st mi ml k1 (fun x => 0 ≤ x)) : (am_mo p l e Rm s m args below meth c cs ss Q G nL t) i lo st mi ml := by
  obtain ⟨hx, hb, hml, hr, hlocks, hts, hlk, hown, hK, hX⟩ := F
  have hc : (decide (decode bc pc = .ok (.ifCond .ge off, len)) && (len == 3 && am_pcs t (i + 1) == pc + 3 && decide ((pc : Int) + off = (am_pcs t k1 : Int)))) = true := hc
  simp only [Bool.and_eq_true, decide_eq_true_eq, beq_iff_eq] at hc
  obtain ⟨hd, ⟨hl, hn⟩, ht⟩ := hc
  subst hl
  unfold am_br at h
  split at h
  · intro ls H locs g1 g2 g3
    rw [hi]
    refine lv_if_ge hx hb hd ht (fun q => h.1 q ls H locs g1 g2 g3) (fun q => ?_)
    have z := h.2 q ls H locs g1 g2 g3
    rw [hn] at z
    exact z
  · exact h.elim
theorem am_s_if_gt (F : am_fr p s m args meth c G y bc nL rt lk) {off : Int} (hc : am_chk y bc nL rt lk t i (pc, (.ifCond .gt off), len, k1, k2, k3, v, sw) = true) (hi : am_pcs t i = pc) (h : am_br (am_mo p l e Rm s m args below meth c cs ss Q G nL t) i lo st mi ml k1 (fun x => 0 < x)) : (am_mo p l e Rm s m args below meth c cs ss Q G nL t) i lo st mi ml := by
  obtain ⟨hx, hb, hml, hr, hlocks, hts, hlk, hown, hK, hX⟩ := F
  have hc : (decide (decode bc pc = .ok (.ifCond .gt off, len)) && (len == 3 && am_pcs t (i + 1) == pc + 3 && decide ((pc : Int) + off = (am_pcs t k1 : Int)))) = true := hc
  simp only [Bool.and_eq_true, decide_eq_true_eq, beq_iff_eq] at hc
  obtain ⟨hd, ⟨hl, hn⟩, ht⟩ := hc
  subst hl
  unfold am_br at h
  split at h
  · intro ls H locs g1 g2 g3
    rw [hi]
    refine lv_if_gt hx hb hd ht (fun q => h.1 q ls H locs g1 g2 g3) (fun q => ?_)
    have z := h.2 q ls H locs g1 g2 g3
    rw [hn] at z
    exact z
  · exact h.elim
theorem am_s_if_le (F : am_fr p s m args meth c G y bc nL rt lk) {off : Int} (hc : am_chk y bc nL rt lk t i (pc, (.ifCond .le off), len, k1, k2, k3, v, sw) = true) (hi : am_pcs t i = pc) (h : am_br (am_mo p l e Rm s m args below meth c cs ss Q G nL t) i lo st mi ml k1 (fun x => x ≤ 0)) : (am_mo p l e Rm s m args below meth c cs ss Q G nL t) i lo st mi ml := by
  obtain ⟨hx, hb, hml, hr, hlocks, hts, hlk, hown, hK, hX⟩ := F
  have hc : (decide (decode bc pc = .ok (.ifCond .le off, len)) && (len == 3 && am_pcs t (i + 1) == pc + 3 && decide ((pc : Int) + off = (am_pcs t k1 : Int)))) = true := hc
  simp only [Bool.and_eq_true, decide_eq_true_eq, beq_iff_eq] at hc
  obtain ⟨hd, ⟨hl, hn⟩, ht⟩ := hc
  subst hl
  unfold am_br at h
  split at h
  · intro ls H locs g1 g2 g3
    rw [hi]
    refine lv_if_le hx hb hd ht (fun q => h.1 q ls H locs g1 g2 g3) (fun q => ?_)
    have z := h.2 q ls H locs g1 g2 g3
    rw [hn] at z
    exact z
  · exact h.elim
theorem am_s_icmp_eq (F : am_fr p s m args meth c G y bc nL rt lk) {off : Int} (hc : am_chk y bc nL rt lk t i (pc, (.if_icmp .eq off), len, k1, k2, k3, v, sw) = true) (hi : am_pcs t i = pc) (h : am_b2r (am_mo p l e Rm s m args below meth c cs ss Q G nL t) i lo st mi ml k1 (fun x y => x = y)) : (am_mo p l e Rm s m args below meth c cs ss Q G nL t) i lo st mi ml := by
  obtain ⟨hx, hb, hml, hr, hlocks, hts, hlk, hown, hK, hX⟩ := F
  have hc : (decide (decode bc pc = .ok (.if_icmp .eq off, len)) && (len == 3 && am_pcs t (i + 1) == pc + 3 && decide ((pc : Int) + off = (am_pcs t k1 : Int)))) = true := hc
  simp only [Bool.and_eq_true, decide_eq_true_eq, beq_iff_eq] at hc
  obtain ⟨hd, ⟨hl, hn⟩, ht⟩ := hc
  subst hl
  unfold am_b2r at h
  split at h
  · intro ls H locs g1 g2 g3
    rw [hi]
    refine lv_icmp_eq hx hb hd ht (fun q => h.1 q ls H locs g1 g2 g3) (fun q => ?_)
    have z := h.2 q ls H locs g1 g2 g3
    rw [hn] at z
    exact z
  · exact h.elim
theorem am_s_icmp_ne (F : am_fr p s m args meth c G y bc nL rt lk) {off : Int} (hc : am_chk y bc nL rt lk t i (pc, (.if_icmp .ne off), len, k1, k2, k3, v, sw) = true) (hi : am_pcs t i = pc) (h : am_b2r (am_mo p l e Rm s m args below meth c cs ss Q G nL t) i lo st mi ml k1 (fun x y => x ≠ y)) : (am_mo p l e Rm s m args below meth c cs ss Q G nL t) i lo st mi ml := by
  obtain ⟨hx, hb, hml, hr, hlocks, hts, hlk, hown, hK, hX⟩ := F
  have hc : (decide (decode bc pc = .ok (.if_icmp .ne off, len)) && (len == 3 && am_pcs t (i + 1) == pc + 3 && decide ((pc : Int) + off = (am_pcs t k1 : Int)))) = true := hc
  simp only [Bool.and_eq_true, decide_eq_true_eq, beq_iff_eq] at hc
  obtain ⟨hd, ⟨hl, hn⟩, ht⟩ := hc
  subst hl
  unfold am_b2r at h
  split at h
  · intro ls H locs g1 g2 g3
    rw [hi]
    refine lv_icmp_ne hx hb hd ht (fun q => h.1 q ls H locs g1 g2 g3) (fun q => ?_)
    have z := h.2 (fun u => u q) ls H locs g1 g2 g3
    rw [hn] at z
    exact z
  · exact h.elim
theorem am_s_icmp_lt (F : am_fr p s m args meth c G y bc nL rt lk) {off : Int} (hc : am_chk y bc nL rt lk t i (pc, (.if_icmp .lt off), len, k1, k2, k3, v, sw) = true) (hi : am_pcs t i = pc) (h : am_b2r (am_mo p l e Rm s m args below meth c cs ss Q G nL t) i lo st mi ml k1 (fun x y => x < y)) : (am_mo p l e Rm s m args below meth c cs ss Q G nL t) i lo st mi ml := by
  obtain ⟨hx, hb, hml, hr, hlocks, hts, hlk, hown, hK, hX⟩ := F
  have hc : (decide (decode bc pc = .ok (.if_icmp .lt off, len)) && (len == 3 && am_pcs t (i + 1) == pc + 3 && decide ((pc : Int) + off = (am_pcs t k1 : Int)))) = true := hc
  simp only [Bool.and_eq_true, decide_eq_true_eq, beq_iff_eq] at hc
  obtain ⟨hd, ⟨hl, hn⟩, ht⟩ := hc
  subst hl
  unfold am_b2r at h
  split at h
  · intro ls H locs g1 g2 g3
    rw [hi]
    refine lv_icmp_lt hx hb hd ht (fun q => h.1 q ls H locs g1 g2 g3) (fun q => ?_)
    have z := h.2 q ls H locs g1 g2 g3
    rw [hn] at z
    exact z
  · exact h.elim
theorem am_s_icmp_ge (F : am_fr p s m args meth c G y bc nL rt lk) {off : Int} (hc : am_chk y bc nL rt lk t i (pc, (.if_icmp .ge off), len, k1, k2, k3, v, sw) = true) (hi : am_pcs t i = pc) (h : am_b2r (am_mo p l e Rm s m args below meth c cs ss Q G nL t) i lo st mi ml k1 (fun x y => y ≤ x)) : (am_mo p l e Rm s m args below meth c cs ss Q G nL t) i lo st mi ml := by
  obtain ⟨hx, hb, hml, hr, hlocks, hts, hlk, hown, hK, hX⟩ := F
  have hc : (decide (decode bc pc = .ok (.if_icmp .ge off, len)) && (len == 3 && am_pcs t (i + 1) == pc + 3 && decide ((pc : Int) + off = (am_pcs t k1 : Int)))) = true := hc
  simp only [Bool.and_eq_true, decide_eq_true_eq, beq_iff_eq] at hc
  obtain ⟨hd, ⟨hl, hn⟩, ht⟩ := hc
  subst hl
  unfold am_b2r at h
  split at h
  · intro ls H locs g1 g2 g3
    rw [hi]
    refine lv_icmp_ge hx hb hd ht (fun q => h.1 q ls H locs g1 g2 g3) (fun q => ?_)
    have z := h.2 q ls H locs g1 g2 g3
    rw [hn] at z
    exact z
  · exact h.elim
theorem am_s_icmp_gt (F : am_fr p s m args meth c G y bc nL rt lk) {off : Int} (hc : am_chk y bc nL rt lk t i (pc, (.if_icmp .gt off), len, k1, k2, k3, v, sw) = true) (hi : am_pcs t i = pc) (h : am_b2r (am_mo p l e Rm s m args below meth c cs ss Q G nL t) i lo st mi ml k1 (fun x y => y < x)) : (am_mo p l e Rm s m args below meth c cs ss Q G nL t) i lo st mi ml := by
  obtain ⟨hx, hb, hml, hr, hlocks, hts, hlk, hown, hK, hX⟩ := F
  have hc : (decide (decode bc pc = .ok (.if_icmp .gt off, len)) && (len == 3 && am_pcs t (i + 1) == pc + 3 && decide ((pc : Int) + off = (am_pcs t k1 : Int)))) = true := hc
  simp only [Bool.and_eq_true, decide_eq_true_eq, beq_iff_eq] at hc
  obtain ⟨hd, ⟨hl, hn⟩, ht⟩ := hc
  subst hl
  unfold am_b2r at h
  split at h
  · intro ls H locs g1 g2 g3
    rw [hi]
    refine lv_icmp_gt hx hb hd ht (fun q => h.1 q ls H locs g1 g2 g3) (fun q => ?_)
    have z := h.2 q ls H locs g1 g2 g3
    rw [hn] at z
    exact z
  · exact h.elim
theorem am_s_icmp_le (F : am_fr p s m args meth c G y bc nL rt lk) {off : Int} (hc : am_chk y bc nL rt lk t i (pc, (.if_icmp .le off), len, k1, k2, k3, v, sw) = true) (hi : am_pcs t i = pc) (h : am_b2r (am_mo p l e Rm s m args below meth c cs ss Q G nL t) i lo st mi ml k1 (fun x y => x ≤ y)) : (am_mo p l e Rm s m args below meth c cs ss Q G nL t) i lo st mi ml := by
  obtain ⟨hx, hb, hml, hr, hlocks, hts, hlk, hown, hK, hX⟩ := F
  have hc : (decide (decode bc pc = .ok (.if_icmp .le off, len)) && (len == 3 && am_pcs t (i + 1) == pc + 3 && decide ((pc : Int) + off = (am_pcs t k1 : Int)))) = true := hc
  simp only [Bool.and_eq_true, decide_eq_true_eq, beq_iff_eq] at hc
  obtain ⟨hd, ⟨hl, hn⟩, ht⟩ := hc
  subst hl
  unfold am_b2r at h
  split at h
  · intro ls H locs g1 g2 g3
    rw [hi]
    refine lv_icmp_le hx hb hd ht (fun q => h.1 q ls H locs g1 g2 g3) (fun q => ?_)
    have z := h.2 q ls H locs g1 g2 g3
    rw [hn] at z
    exact z
  · exact h.elim
theorem am_swt_in {K : am_K} {x : Int32} {d : Nat} : ∀ {sw : List (Int32 × Nat)} (j : Nat) {w : Int32} {tj : Nat}, am_swt K lo st mi ml x d sw → sw[j]? = some (w, tj) → x = w → (∀ j2 w2 t2, j2 < j → sw[j2]? = some (w2, t2) → ¬ x = w2) → K tj lo st mi ml
  | [], j, w, tj, _, h, _, _ => by simp at h
  | (a, b) :: r, 0, w, tj, h, hj, hx, _ => by
    cases hj
    exact h.1 hx
  | (a, b) :: r, j + 1, w, tj, h, hj, hx, hne =>
    am_swt_in j (h.2 (hne 0 a b (by omega) rfl)) hj hx (fun j2 w2 t2 h2 h3 => hne (j2 + 1) w2 t2 (by omega) h3)
theorem am_swt_out {K : am_K} {x : Int32} {d : Nat} : ∀ {sw : List (Int32 × Nat)}, am_swt K lo st mi ml x d sw → (∀ (j : Nat) w tj, sw[j]? = some (w, tj) → ¬ x = w) → K d lo st mi ml
  | [], h, _ => h
  | (a, b) :: r, h, hne => am_swt_out (h.2 (hne 0 a b rfl)) (fun j w tj h3 => hne (j + 1) w tj h3)
theorem am_swt_look {K : am_K} {x : Int32} {d : Nat} {dd : Int} (hdd : (pc : Int) + dd = (am_pcs t d : Int)) : ∀ {sw : List (Int32 × Nat)} (ps : List (Int × Int)), sw.length = ps.length → (∀ (j : Nat) w tj a o, sw[j]? = some (w, tj) → ps[j]? = some (a, o) → w.toInt = a ∧ (pc : Int) + o = (am_pcs t tj : Int)) → am_swt K lo st mi ml x d sw →
    ∃ tgt off, Op.lookupswitch.offset ps dd x.toInt = off ∧ (pc : Int) + off = (am_pcs t tgt : Int) ∧ K tgt lo st mi ml
  | [], [], _, _, h => ⟨d, dd, rfl, hdd, h⟩
  | [], _ :: _, hl, _, _ => by simp at hl
  | _ :: _, [], hl, _, _ => by simp at hl
  | (w, tj) :: r, (a, o) :: ps, hl, hq, h => by
    obtain ⟨h1, h2⟩ := hq 0 w tj a o rfl rfl
    by_cases hx : x = w
    · refine ⟨tj, o, ?_, h2, h.1 hx⟩
      rw [Op.lookupswitch.offset_cons, if_pos (by rw [hx, h1])]
    · obtain ⟨tgt, off, g1, g2, g3⟩ := am_swt_look hdd (sw := r) ps (by simpa using hl) (fun j w tj a o e1 e2 => hq (j + 1) w tj a o e1 e2) (h.2 hx)
      exact ⟨tgt, off, by rw [lv_osw hx h1]; exact g1, g2, g3⟩
theorem am_s_tableswitch (F : am_fr p s m args meth c G y bc nL rt lk) {d a b : Int} {offs : Array Int} (hc : am_chk y bc nL rt lk t i (pc, (.tableswitch d a b offs), len, k1, k2, k3, v, sw) = true) (hi : am_pcs t i = pc) (h : am_sw (am_mo p l e Rm s m args below meth c cs ss Q G nL t) lo st mi ml k1 sw) : (am_mo p l e Rm s m args below meth c cs ss Q G nL t) i lo st mi ml := by
  obtain ⟨hx, hb, hml, hr, hlocks, hts, hlk, hown, hK, hX⟩ := F
  have hc : (decide (decode bc pc = .ok (.tableswitch d a b offs, len)) && (decide ((pc : Int) + d = (am_pcs t k1 : Int)) && sw.length == offs.size && decide (b + 1 = a + (offs.size : Int)) &&
        (List.range offs.size).all fun j => match sw[j]?, offs[j]? with
          | some (w, tj), some o => decide (w.toInt = a + (j : Int)) && decide ((pc : Int) + o = (am_pcs t tj : Int))
          | _, _ => false)) = true := hc
  simp only [Bool.and_eq_true, decide_eq_true_eq, beq_iff_eq] at hc
  obtain ⟨hd, ⟨⟨ht, hsz⟩, hab⟩, hq⟩ := hc
  unfold am_sw at h
  split at h
  · rename_i x rest
    have hq2 : ∀ j, j < offs.size → ∃ w tj o, sw[j]? = some (w, tj) ∧ offs[j]? = some o ∧ w.toInt = a + (j : Int) ∧ (pc : Int) + o = (am_pcs t tj : Int) := by
      intro j hj
      have z := List.all_eq_true.mp hq j (List.mem_range.mpr hj)
      split at z
      · rename_i w tj o e1 e2
        simp only [Bool.and_eq_true, decide_eq_true_eq] at z
        exact ⟨w, tj, o, e1, e2, z.1, z.2⟩
      · cases z
    intro ls H locs g1 g2 g3
    rw [hi]
    by_cases hin : a ≤ x.toInt ∧ x.toInt ≤ b
    · have hj : (x.toInt - a).toNat < offs.size := by omega
      obtain ⟨w, tj, o, e1, e2, e3, e4⟩ := hq2 _ hj
      have hxw : x = w := Int32.toInt_inj.mp (by rw [e3]; omega)
      refine lv_tableIn hx hb hd (by omega) (by omega) e2 e4 (am_swt_in _ h e1 hxw (fun j2 w2 t2 h2 h3 h4 => ?_) ls H locs g1 g2 g3)
      obtain ⟨w3, t3, o3, f1, -, f3, -⟩ := hq2 j2 (by omega)
      rw [h3] at f1
      cases f1
      rw [h4] at hxw
      rw [hxw, e3] at f3
      omega
    · refine lv_tableOut hx hb hd (by omega) ht (am_swt_out h (fun j w tj h3 h4 => ?_) ls H locs g1 g2 g3)
      have hjl : j < offs.size := by
        rw [← hsz]
        exact (List.getElem?_eq_some_iff.mp h3).1
      obtain ⟨w3, t3, o3, f1, -, f3, -⟩ := hq2 j hjl
      rw [h3] at f1
      cases f1
      rw [h4] at hin
      omega
  · exact h.elim
theorem am_s_lookupswitch (F : am_fr p s m args meth c G y bc nL rt lk) {d : Int} {ps : Array (Int × Int)} (hc : am_chk y bc nL rt lk t i (pc, (.lookupswitch d ps), len, k1, k2, k3, v, sw) = true) (hi : am_pcs t i = pc) (h : am_sw (am_mo p l e Rm s m args below meth c cs ss Q G nL t) lo st mi ml k1 sw) : (am_mo p l e Rm s m args below meth c cs ss Q G nL t) i lo st mi ml := by
  obtain ⟨hx, hb, hml, hr, hlocks, hts, hlk, hown, hK, hX⟩ := F
  have hc : (decide (decode bc pc = .ok (.lookupswitch d ps, len)) && (decide ((pc : Int) + d = (am_pcs t k1 : Int)) && sw.length == ps.size && ((ps.toList.zip (ps.toList.drop 1)).all fun (a, next) => a.1 < next.1) &&
        (List.range ps.size).all fun j => match sw[j]?, ps[j]? with
          | some (w, tj), some o => decide (w.toInt = o.1) && decide ((pc : Int) + o.2 = (am_pcs t tj : Int))
          | _, _ => false)) = true := hc
  simp only [Bool.and_eq_true, decide_eq_true_eq, beq_iff_eq] at hc
  obtain ⟨hd, ⟨⟨ht, hsz⟩, hz⟩, hq⟩ := hc
  unfold am_sw at h
  split at h
  · rename_i x rest
    intro ls H locs g1 g2 g3
    rw [hi]
    obtain ⟨tgt, off, e1, e2, e3⟩ := am_swt_look (t := t) (pc := pc) ht (sw := sw) ps.toList (by rw [hsz]; simp) (fun j w tj a o f1 f2 => by
      have hj : j < ps.size := by
        rw [← hsz]
        exact (List.getElem?_eq_some_iff.mp f1).1
      have z := List.all_eq_true.mp hq j (List.mem_range.mpr hj)
      rw [Array.getElem?_toList] at f2
      rw [f1, f2] at z
      simp only [Bool.and_eq_true, decide_eq_true_eq] at z
      exact z) h
    exact lv_lookup hx hb hd hz e1 e2 (e3 ls H locs g1 g2 g3)
  · exact h.elim
def am_Q (G : am_G) (R : am_R) : Array Value → State → Outcome → State → Prop := fun _ st oc t => (∃ r mi ml, oc = .returned (r.map (am_tv G)) ∧ R r mi ml ∧ am_hp G t.heap mi ml) ∧ va_F (am_A G) st t
theorem am_s_ireturn (F : am_fr p s m args meth c G y bc nL rt lk) (hc : am_chk y bc nL rt lk t i (pc, .ireturn, len, k1, k2, k3, v, sw) = true) (hi : am_pcs t i = pc) (h : am_st cl (am_mo p l e Rm s m args below meth c 0 0 (MQ below (am_Q G Rr) args s 0 0 (am_A G)) G nL t) Rr .ireturn k1 k2 k3 v sw i lo st mi ml) : (am_mo p l e Rm s m args below meth c 0 0 (MQ below (am_Q G Rr) args s 0 0 (am_A G)) G nL t) i lo st mi ml := by
  obtain ⟨hx, hb, hml, hr, hlocks, hts, hlk, hown, hK, hX⟩ := F
  have hc : (decide (decode bc pc = .ok (.ireturn, len)) && (len == 1 && (match (generalizing := false) k1 with
      | 0 => decide (rt = some .int)
      | 2 => decide (rt = some .char)
      | _ => decide (rt = some .boolean) || decide (rt = some .byte)))) = true := hc
  simp only [Bool.and_eq_true, decide_eq_true_eq, beq_iff_eq] at hc
  obtain ⟨hd, hl, hr2⟩ := hc
  subst hl
  simp only [am_st] at h
  split at h
  · rename_i xr
    intro ls H locs g1 g2 g3
    rw [hi]
    split at hr2
    · have h : Rr (some (.int xr)) mi ml := h
      exact W.iret hx hb (hr.trans (by simpa using hr2)) (fun t2 e1 e2 => ⟨⟨_, mi, ml, rfl, h, by rw [e1]; exact g2⟩, g3.F e1⟩) g3.2.2 hd
    · have h : am_i2c xr = xr ∧ Rr (some (.int xr)) mi ml := h
      refine W.zret hx hb (hr.trans (by simpa using hr2)) ?_ (fun t2 e1 e2 => ⟨⟨_, mi, ml, rfl, h.2, by rw [e1]; exact g2⟩, g3.F e1⟩) g3.2.2 hd
      rw [← h.1]
      exact pk_nc xr
    · rename_i hne0 hne
      have h2 : (xr = (0 : Int32) ∨ xr = (1 : Int32)) ∧ Rr (some (.int xr)) mi ml := by
        split at h
        · exact (hne0 rfl).elim
        · exact (hne rfl).elim
        · exact h
      have hr3 : rt = some .boolean ∨ rt = some .byte := by simpa using hr2
      rcases hr3 with hr3 | hr3
      · refine W.zret hx hb (hr.trans hr3) ?_ (fun t2 e1 e2 => ⟨⟨_, mi, ml, rfl, h2.2, by rw [e1]; exact g2⟩, g3.F e1⟩) g3.2.2 hd
        rcases h2.1 with q | q <;> subst q <;> rfl
      · refine W.zret hx hb (hr.trans hr3) ?_ (fun t2 e1 e2 => ⟨⟨_, mi, ml, rfl, h2.2, by rw [e1]; exact g2⟩, g3.F e1⟩) g3.2.2 hd
        rcases h2.1 with q | q <;> subst q <;> rfl
  · exact h.elim
theorem am_s_lreturn (F : am_fr p s m args meth c G y bc nL rt lk) (hc : am_chk y bc nL rt lk t i (pc, .lreturn, len, k1, k2, k3, v, sw) = true) (hi : am_pcs t i = pc) (h : am_st cl (am_mo p l e Rm s m args below meth c 0 0 (MQ below (am_Q G Rr) args s 0 0 (am_A G)) G nL t) Rr .lreturn k1 k2 k3 v sw i lo st mi ml) : (am_mo p l e Rm s m args below meth c 0 0 (MQ below (am_Q G Rr) args s 0 0 (am_A G)) G nL t) i lo st mi ml := by
  obtain ⟨hx, hb, hml, hr, hlocks, hts, hlk, hown, hK, hX⟩ := F
  have hc : (decide (decode bc pc = .ok (.lreturn, len)) && (len == 1 && decide (rt = some .long))) = true := hc
  simp only [Bool.and_eq_true, decide_eq_true_eq, beq_iff_eq] at hc
  obtain ⟨hd, hl, hr2⟩ := hc
  subst hl
  simp only [am_st] at h
  split at h
  · intro ls H locs g1 g2 g3
    rw [hi]
    exact W.lret hx hb (hr.trans hr2) (fun t2 e1 e2 => ⟨⟨_, mi, ml, rfl, h, by rw [e1]; exact g2⟩, g3.F e1⟩) g3.2.2 hd
  · exact h.elim
theorem am_s_areturn (F : am_fr p s m args meth c G y bc nL rt lk) (hc : am_chk y bc nL rt lk t i (pc, .areturn, len, k1, k2, k3, v, sw) = true) (hi : am_pcs t i = pc) (h : am_st cl (am_mo p l e Rm s m args below meth c 0 0 (MQ below (am_Q G Rr) args s 0 0 (am_A G)) G nL t) Rr .areturn k1 k2 k3 v sw i lo st mi ml) : (am_mo p l e Rm s m args below meth c 0 0 (MQ below (am_Q G Rr) args s 0 0 (am_A G)) G nL t) i lo st mi ml := by
  obtain ⟨hx, hb, hml, hr, hlocks, hts, hlk, hown, hK, hX⟩ := F
  have hc : (decide (decode bc pc = .ok (.areturn, len)) && (len == 1 && (match (generalizing := false) rt with
      | some (.object _) => true
      | _ => false))) = true := hc
  simp only [Bool.and_eq_true, decide_eq_true_eq, beq_iff_eq] at hc
  obtain ⟨hd, hl, hr2⟩ := hc
  subst hl
  simp only [am_st] at h
  split at h
  · rename_i xr
    intro ls H locs g1 g2 g3
    rw [hi]
    split at hr2
    · rename_i nm
      exact W.aret hx hb hr (Or.inl ⟨nm, rfl⟩) (Or.inr ⟨_, rfl⟩) (fun t2 e1 e2 => ⟨⟨some (.ref _), mi, ml, rfl, h, by rw [e1]; exact g2⟩, g3.F e1⟩) g3.2.2 hd
    · cases hr2
  · exact h.elim
theorem am_s_return (F : am_fr p s m args meth c G y bc nL rt lk) (hc : am_chk y bc nL rt lk t i (pc, .return_, len, k1, k2, k3, v, sw) = true) (hi : am_pcs t i = pc) (h : am_st cl (am_mo p l e Rm s m args below meth c 0 0 (MQ below (am_Q G Rr) args s 0 0 (am_A G)) G nL t) Rr .return_ k1 k2 k3 v sw i lo st mi ml) : (am_mo p l e Rm s m args below meth c 0 0 (MQ below (am_Q G Rr) args s 0 0 (am_A G)) G nL t) i lo st mi ml := by
  obtain ⟨hx, hb, hml, hr, hlocks, hts, hlk, hown, hK, hX⟩ := F
  have hc : (decide (decode bc pc = .ok (.return_, len)) && (len == 1 && decide (rt = none))) = true := hc
  simp only [Bool.and_eq_true, decide_eq_true_eq, beq_iff_eq] at hc
  obtain ⟨hd, hl, hr2⟩ := hc
  subst hl
  simp only [am_st] at h
  split at h
  · intro ls H locs g1 g2 g3
    rw [hi]
    exact W.vret hx hb (hr.trans hr2) (fun t2 e1 e2 => ⟨⟨none, mi, ml, rfl, h, by rw [e1]; exact g2⟩, g3.F e1⟩) g3.2.2 hd
  · exact h.elim
end AMS
end
section
/-! fields and arrays -/
set_option maxRecDepth 1000000 in
theorem am_uw_0 : [55, 57, 59, 61].map (fun i => tables_1[i]?) = (u_ws RX0 TX0 4).map some := by decide +kernel
set_option maxRecDepth 1000000 in
theorem am_uw_1 : [75, 77, 79].map (fun i => tables_1[i]?) = (u_ws RX1 TX1 3).map some := by decide +kernel
set_option maxRecDepth 1000000 in
theorem am_uw_2 : [265, 267, 269, 271, 273, 275, 277, 279, 281, 283, 285, 287].map (fun i => tables_1[i]?) = (u_ws RX2 TX2 12).map some := by decide +kernel
set_option maxRecDepth 1000000 in
theorem am_uw_3 : [206, 208, 210, 212, 214, 216, 218, 220, 222, 224].map (fun i => tables_1[i]?) = (u_ws RX3 TX3 10).map some := by decide +kernel
set_option maxRecDepth 1000000 in
theorem am_uw_4 : [159, 161, 163, 165, 167, 169, 171, 173, 175, 177, 179, 181, 183].map (fun i => tables_1[i]?) = (u_ws RX4 TX4 13).map some := by decide +kernel
set_option maxRecDepth 1000000 in
theorem am_uw_5 : [100, 102, 104, 106, 108, 110, 112, 114, 116, 118].map (fun i => tables_1[i]?) = (u_ws RX5 TX5 10).map some := by decide +kernel
set_option maxRecDepth 1000000 in
theorem am_uw_6 : [301, 303, 305, 307].map (fun i => tables_1[i]?) = (u_ws RX6 TX6 4).map some := by decide +kernel
set_option maxRecDepth 1000000 in
theorem am_uw_7 : [322, 324, 326, 328, 330].map (fun i => tables_1[i]?) = (u_ws RX7 TX7 5).map some := by decide +kernel
set_option maxRecDepth 1000000 in
theorem am_uw_8 : [235, 237].map (fun i => tables_1[i]?) = (u_ws RX8 TX8 2).map some := by decide +kernel
set_option maxRecDepth 1000000 in
theorem am_uw_9 : [130, 132, 134].map (fun i => tables_1[i]?) = (u_ws RX9 TX9 3).map some := by decide +kernel
set_option maxRecDepth 1000000 in
theorem am_uw_10 : [344, 346, 348, 350, 352, 354, 356, 358, 360, 362].map (fun i => tables_1[i]?) = (u_ws RX10 TX10 10).map some := by decide +kernel
set_option maxRecDepth 1000000 in
theorem am_uw_11 : [1299, 1301, 1303, 1305].map (fun i => tables_1[i]?) = (u_ws RJ0 TJ0 4).map some := by decide +kernel
set_option maxRecDepth 1000000 in
theorem am_uw_12 : [1116, 1118, 1120, 1122].map (fun i => tables_1[i]?) = (u_ws RJ4 TJ4 4).map some := by decide +kernel
theorem am_t1 {w : Cond} (h : w ∈ tables_1) : w ∈ lw_tbl := List.mem_append_right _ h
theorem am_lay_good {C : String} {T : u_T} {N : Nat} : ∀ w ∈ u_ws C T N, goodWord w = true := by
  intro w hw
  obtain ⟨k, -, e⟩ := List.mem_map.mp hw
  subst e
  unfold u_lay
  split <;> rfl
theorem am_vw : ∀ {c : Nat} {r : vw_C}, vwCl[c]? = some r → (∀ w ∈ u_ws r.1 r.2.1 r.2.2, w ∈ am_tb) ∧ (∃ ty0 : Nat → FieldType, ∀ k, k < r.2.2 → parseFieldDescriptor (r.2.1 k).2.2.1 = some (ty0 k)) ∧ ∀ a, a < r.2.2 → ∀ b, b < r.2.2 → a ≠ b → (r.2.1 a).2.1 ≠ (r.2.1 b).2.1
  | 0, r, h => by
    have h := Option.some.inj ((rfl : vwCl[0]? = some (RX0, TX0, 4)).symm.trans h)
    subst h
    exact ⟨fun w hw => am_tb_i (am_t1 (am_uses am_uw_0 w hw)) (am_lay_good w hw), ⟨_, tyX0_ok⟩, nmX0⟩
  | 1, r, h => by
    have h := Option.some.inj ((rfl : vwCl[1]? = some (RX1, TX1, 3)).symm.trans h)
    subst h
    exact ⟨fun w hw => am_tb_i (am_t1 (am_uses am_uw_1 w hw)) (am_lay_good w hw), ⟨_, tyX1_ok⟩, nmX1⟩
  | 2, r, h => by
    have h := Option.some.inj ((rfl : vwCl[2]? = some (RX2, TX2, 12)).symm.trans h)
    subst h
    exact ⟨fun w hw => am_tb_i (am_t1 (am_uses am_uw_2 w hw)) (am_lay_good w hw), ⟨_, tyX2_ok⟩, nmX2⟩
  | 3, r, h => by
    have h := Option.some.inj ((rfl : vwCl[3]? = some (RX3, TX3, 10)).symm.trans h)
    subst h
    exact ⟨fun w hw => am_tb_i (am_t1 (am_uses am_uw_3 w hw)) (am_lay_good w hw), ⟨_, tyX3_ok⟩, nmX3⟩
  | 4, r, h => by
    have h := Option.some.inj ((rfl : vwCl[4]? = some (RX4, TX4, 13)).symm.trans h)
    subst h
    exact ⟨fun w hw => am_tb_i (am_t1 (am_uses am_uw_4 w hw)) (am_lay_good w hw), ⟨_, tyX4_ok⟩, nmX4⟩
  | 5, r, h => by
    have h := Option.some.inj ((rfl : vwCl[5]? = some (RX5, TX5, 10)).symm.trans h)
    subst h
    exact ⟨fun w hw => am_tb_i (am_t1 (am_uses am_uw_5 w hw)) (am_lay_good w hw), ⟨_, tyX5_ok⟩, nmX5⟩
  | 6, r, h => by
    have h := Option.some.inj ((rfl : vwCl[6]? = some (RX6, TX6, 4)).symm.trans h)
    subst h
    exact ⟨fun w hw => am_tb_i (am_t1 (am_uses am_uw_6 w hw)) (am_lay_good w hw), ⟨_, tyX6_ok⟩, nmX6⟩
  | 7, r, h => by
    have h := Option.some.inj ((rfl : vwCl[7]? = some (RX7, TX7, 5)).symm.trans h)
    subst h
    exact ⟨fun w hw => am_tb_i (am_t1 (am_uses am_uw_7 w hw)) (am_lay_good w hw), ⟨_, tyX7_ok⟩, nmX7⟩
  | 8, r, h => by
    have h := Option.some.inj ((rfl : vwCl[8]? = some (RX8, TX8, 2)).symm.trans h)
    subst h
    exact ⟨fun w hw => am_tb_i (am_t1 (am_uses am_uw_8 w hw)) (am_lay_good w hw), ⟨_, tyX8_ok⟩, nmX8⟩
  | 9, r, h => by
    have h := Option.some.inj ((rfl : vwCl[9]? = some (RX9, TX9, 3)).symm.trans h)
    subst h
    exact ⟨fun w hw => am_tb_i (am_t1 (am_uses am_uw_9 w hw)) (am_lay_good w hw), ⟨_, tyX9_ok⟩, nmX9⟩
  | 10, r, h => by
    have h := Option.some.inj ((rfl : vwCl[10]? = some (RX10, TX10, 10)).symm.trans h)
    subst h
    exact ⟨fun w hw => am_tb_i (am_t1 (am_uses am_uw_10 w hw)) (am_lay_good w hw), ⟨_, tyX10_ok⟩, nmX10⟩
  | 11, r, h => by
    have h := Option.some.inj ((rfl : vwCl[11]? = some (RJ0, TJ0, 4)).symm.trans h)
    subst h
    exact ⟨fun w hw => am_tb_i (am_t1 (am_uses am_uw_11 w hw)) (am_lay_good w hw), ⟨_, tyJ0_ok⟩, nmJ0⟩
  | 12, r, h => by
    have h := Option.some.inj ((rfl : vwCl[12]? = some (RJ4, TJ4, 4)).symm.trans h)
    subst h
    exact ⟨fun w hw => am_tb_i (am_t1 (am_uses am_uw_12 w hw)) (am_lay_good w hw), ⟨_, tyJ4_ok⟩, nmJ4⟩
  | n + 13, r, h => by cases h
theorem am_vw_lt {c : Nat} {r : vw_C} (h : vwCl[c]? = some r) : c < 13 := (List.getElem?_eq_some_iff.mp h).1
theorem am_oc_1 {a k : Nat} (h : am_oc a = k) (hk : k < 100) : am_kd a = 1 ∧ am_n a = k := by
  unfold am_oc at h
  split at h
  · rename_i e
    exact ⟨e, h⟩
  · omega
  · omega
theorem am_oc_7 {a : Nat} (h : am_oc a = 100) : am_kd a = 7 := by
  unfold am_oc at h
  split at h
  · rename_i e
    obtain ⟨-, C, T, e2⟩ := am_k1 e
    have := am_vw_lt e2
    omega
  · assumption
  · omega
section AMM2
variable {p : Program} {l : Launch} {e : Env} {Rm : Room} {s : State} {m : MethodId} {args : Array Value} {below : List Frame} {meth : Method} {c : Code} {cs ss : Nat} {Q : State → Prop}
variable {G : am_G} {y : MethodName} {bc : ByteArray} {nL : Nat} {rt : Option FieldType} {lk : List Cond} {t : List am_row} {Rr : am_R} {cl : am_C}
variable {i pc len k1 k2 k3 : Nat} {v : Int32} {sw : List (Int32 × Nat)} {lo : am_L} {st : List Value} {mi : am_MI} {ml : am_ML}
theorem am_s_getfield (F : am_fr p s m args meth c G y bc nL rt lk) {q : Nat} (hc : am_chk y bc nL rt lk t i (pc, (.getfield q), len, k1, k2, k3, v, sw) = true) (hi : am_pcs t i = pc) (h : am_get (am_mo p l e Rm s m args below meth c cs ss Q G nL t) i lo st mi ml k1 k2 k3) : (am_mo p l e Rm s m args below meth c cs ss Q G nL t) i lo st mi ml := by
  obtain ⟨hx, hb, hml, hr, hlocks, hts, hlk, hown, hK, hX⟩ := F
  have hc : (decide (decode bc pc = .ok (.getfield q, len)) && (len == 3 && am_pcs t (i + 1) == pc + 3 && ((k1 == 100 && decide (Cond.fieldLink y.cls q "java/lang/String" (am_sfn k2).1 (am_sfn k2).2 ∈ lk) && ((k2 == 0 && k3 == 2) || (k2 == 1 && k3 == 0))) || match (generalizing := false) vwCl[k1]? with
      | some (C, T, N) => decide (k2 < N) && (T k2).1 == C && (decide (Cond.fieldLink y.cls q C (T k2).2.1 (T k2).2.2.1 ∈ lk) || decide (Cond.fieldLinkNest y.cls q C (T k2).2.1 (T k2).2.2.1 am_host ∈ lk)) && (am_isr (T k2).2.2.1 == (k3 == 2))
      | none => false))) = true := hc
  simp only [Bool.and_eq_true, Bool.or_eq_true, decide_eq_true_eq, beq_iff_eq] at hc
  obtain ⟨hd, ⟨hl, hn⟩, hor⟩ := hc
  subst hl
  unfold am_get at h
  split at h
  · rename_i a rest
    have hoc := eq_of_beq (am_need_e h).1
    replace h := (am_need_e h).2
    intro ls H locs g1 g2 g3
    rw [hi]
    rcases hor with ⟨⟨hk1, hlnk⟩, hkk⟩ | ho
    · subst hk1
      have r0 := am_oc_7 hoc
      have r1 := am_k7 r0
      obtain ⟨hO, hcod, hval⟩ := hX.2.2.2.2.1 a r0
      rcases hkk with ⟨hk2, hk3⟩ | ⟨hk2, hk3⟩
      · subst hk2 hk3
        have z := h ls H locs g1 g2 g3
        rw [hn] at z
        exact va_getX (N := 1) (v := fun _ => .ref (G.1 (am_rf a 0))) (ad := fun _ => G.1 a) (i := 0) hx hb (fun _ _ => hval) (by omega) g3 hown (hts _ (am_tb_i (hlk _ hlnk) rfl)) (fun _ w => w) hd z
      · subst hk2 hk3
        have z := h ls H locs g1 g2 g3
        rw [hn] at z
        have h114 : am_N ≤ a := Nat.le_trans (by decide) r1
        have hv : mi a 1 = G.2.2.2 a 1 := by rw [g2.2.2.1 a h114]
        have z : W p l e Rm s m args below meth c H locs cs ss Q (F0 m (pc + 3) ls (.int (G.2.2.2 a 1) :: rest.map (am_tv G))) := by rw [← hv]; exact z
        exact va_getX (N := 1) (v := fun _ => .int (G.2.2.2 a 1)) (ad := fun _ => G.1 a) (i := 0) hx hb (fun _ _ => hcod) (by omega) g3 hown (hts _ (am_tb_i (hlk _ hlnk) rfl)) (fun _ w => w) hd z
    · split at ho
      · rename_i C T N er
        simp only [Bool.and_eq_true, Bool.or_eq_true, decide_eq_true_eq, beq_iff_eq] at ho
        obtain ⟨⟨⟨hk2, hT1⟩, hlnk⟩, hk3⟩ := ho
        have hlt := am_vw_lt er
        obtain ⟨ha1, ha2⟩ := am_oc_1 hoc (by omega)
        obtain ⟨haN, C2, T2, er2⟩ := am_k1 ha1
        rw [ha2, er] at er2
        cases er2
        obtain ⟨u1, u2, u3⟩ := am_vw er
        have he : (am_wl G mi ml)[a]? = some (G.1 a, .inr (k1, am_fs G mi a k1 (am_f a))) := by rw [am_wl_at (am_78 haN), am_en1 ha1, ha2]
        have hv : (am_fs G mi a k1 (am_f a))[k2]? = some (am_fv G mi a k1 k2) := am_fs_at hk2
        have hfd : am_fd k1 k2 = (T k2).2.2.1 := by unfold am_fd; rw [er]
        have z : W p l e Rm s m args below meth c H locs cs ss Q (F0 m (pc + 3) ls (am_fv G mi a k1 k2 :: rest.map (am_tv G))) := by
          unfold am_fv
          rw [hfd]
          by_cases h3 : k3 = 2
          · subst h3
            have hisr : am_isr (T k2).2.2.1 = true := hk3.trans rfl
            rw [if_pos hisr, ← hn]
            exact h ls H locs g1 g2 g3
          · have hisr : ¬ am_isr (T k2).2.2.1 = true := by
              rw [hk3]
              simpa using h3
            rw [if_neg hisr, ← hn]
            split at h
            · exact absurd rfl h3
            · exact h ls H locs g1 g2 g3
        have hsame : ∀ x, s.fieldFound? (T k2).1 (T k2).2.1 (T k2).2.2.1 = some x → s.fieldFound? C (T k2).2.1 (T k2).2.2.1 = some x := fun x hx => by rw [hT1] at hx; exact hx
        rcases hlnk with hlnk | hlnk
        · exact va_get hx hb hts u1 hown hK g2.1 a he er k2 hk2 (hts _ (am_tb_i (hlk _ hlnk) rfl)) hsame hv hd z
        · exact va_getN hx hb hts u1 hown hK g2.1 a he er k2 hk2 (va_Nw.use rfl (hX.2.2.2.2.2.2.2 _ _ _ _ _ _ (hlk _ hlnk))) hsame hv hd z
      · cases ho
  · exact h.elim
theorem am_s_putfield (F : am_fr p s m args meth c G y bc nL rt lk) {q : Nat} (hc : am_chk y bc nL rt lk t i (pc, (.putfield q), len, k1, k2, k3, v, sw) = true) (hi : am_pcs t i = pc) (h : am_put (am_mo p l e Rm s m args below meth c cs ss Q G nL t) i lo st mi ml k1 k2 k3) : (am_mo p l e Rm s m args below meth c cs ss Q G nL t) i lo st mi ml := by
  obtain ⟨hx, hb, hml, hr, hlocks, hts, hlk, hown, hK, hX⟩ := F
  have hc : (decide (decode bc pc = .ok (.putfield q, len)) && (len == 3 && am_pcs t (i + 1) == pc + 3 && (match (generalizing := false) vwCl[k1]? with
      | some (C, T, N) => decide (k2 < N) && (T k2).1 == C && (T k2).2.2.2 == false && decide (Cond.fieldLink y.cls q C (T k2).2.1 (T k2).2.2.1 ∈ lk) && (((T k2).2.2.1 == "I" && k3 == 0) || ((T k2).2.2.1 == "Z" && k3 == 1))
      | none => false))) = true := hc
  simp only [Bool.and_eq_true, Bool.or_eq_true, decide_eq_true_eq, beq_iff_eq] at hc
  obtain ⟨hd, ⟨hl, hn⟩, ho⟩ := hc
  subst hl
  unfold am_put at h
  split at h
  · rename_i x a rest
    have hoc := eq_of_beq (am_need_e h).1
    replace h := (am_need_e h).2
    intro ls H locs g1 g2 g3
    rw [hi]
    split at ho
    · rename_i C T N er
      simp only [Bool.and_eq_true, Bool.or_eq_true, decide_eq_true_eq, beq_iff_eq] at ho
      obtain ⟨⟨⟨⟨hk2, hT1⟩, hfin⟩, hlnk⟩, hk3⟩ := ho
      have hlt := am_vw_lt er
      obtain ⟨ha1, ha2⟩ := am_oc_1 hoc (by omega)
      obtain ⟨haN, C2, T2, er2⟩ := am_k1 ha1
      rw [ha2, er] at er2
      cases er2
      obtain ⟨u1, ⟨ty0, u2⟩, u3⟩ := am_vw er
      have he : (am_wl G mi ml)[a]? = some (G.1 a, .inr (k1, am_fs G mi a k1 (am_f a))) := by rw [am_wl_at (am_78 haN), am_en1 ha1, ha2]
      have hfd : am_fd k1 k2 = (T k2).2.2.1 := by unfold am_fd; rw [er]
      have hsame : ∀ x, s.fieldFound? (T k2).1 (T k2).2.1 (T k2).2.2.1 = some x → s.fieldFound? C (T k2).2.1 (T k2).2.2.1 = some x := fun x hx => by rw [hT1] at hx; exact hx
      have hset : am_isr (am_fd k1 k2) = false → (am_wl G mi ml).set a (G.1 a, .inr (k1, (am_fs G mi a k1 (am_f a)).set k2 (.int x))) = am_wl G (am_ui mi a k2 x) ml := by
        intro hf
        have z := am_wl_fs (G := G) (mi := mi) (ml := ml) (j := k2) (x := x) ha1 (by rw [ha2]; exact hf)
        rw [ha2] at z
        exact z
      rcases hk3 with ⟨hde, hk3⟩ | ⟨hde, hk3⟩
      · subst hk3
        refine va_put (v := .int x) hx hb hts u1 ty0 u2 u3 hown hK g2.1 g2.2.1 g3 a he er k2 hk2 (hts _ (am_tb_i (hlk _ hlnk) rfl)) hsame hfin (ty := .int) (by rw [hde]; rfl) rfl rfl (by rw [am_fs_len]; exact hk2) hd (fun H1 locs1 f1 f2 f3 => ?_)
        rw [hset (by rw [hfd, hde]; rfl)] at f1 f2
        rw [← hn]
        exact h ls H1 locs1 g1 ⟨f1, f2, am_hp_ui haN g2.2.2⟩ f3
      · subst hk3
        refine va_put (v := .int x) hx hb hts u1 ty0 u2 u3 hown hK g2.1 g2.2.1 g3 a he er k2 hk2 (hts _ (am_tb_i (hlk _ hlnk) rfl)) hsame hfin (ty := .boolean) (by rw [hde]; rfl) (by rcases h.1 with q | q <;> subst q <;> rfl) (by rcases h.1 with q | q <;> subst q <;> rfl) (by rw [am_fs_len]; exact hk2) hd (fun H1 locs1 f1 f2 f3 => ?_)
        rw [hset (by rw [hfd, hde]; rfl)] at f1 f2
        rw [← hn]
        exact h.2 ls H1 locs1 g1 ⟨f1, f2, am_hp_ui haN g2.2.2⟩ f3
    · cases ho
  · exact h.elim
theorem am_s_getstatic (F : am_fr p s m args meth c G y bc nL rt lk) {q : Nat} (hc : am_chk y bc nL rt lk t i (pc, (.getstatic q), len, k1, k2, k3, v, sw) = true) (hi : am_pcs t i = pc) (h : am_st cl (am_mo p l e Rm s m args below meth c cs ss Q G nL t) Rr (.getstatic q) k1 k2 k3 v sw i lo st mi ml) : (am_mo p l e Rm s m args below meth c cs ss Q G nL t) i lo st mi ml := by
  obtain ⟨hx, hb, hml, hr, hlocks, hts, hlk, hown, hK, hX⟩ := F
  have hc : (decide (decode bc pc = .ok (.getstatic q, len)) && (len == 3 && am_pcs t (i + 1) == pc + 3 && (match (generalizing := false) k2 with
      | 2 => decide (Cond.fieldLink y.cls q "jdk/internal/util/Preconditions" "SIOOBE_FORMATTER" "Ljava/util/function/BiFunction;" ∈ lk)
      | 0 => (k1 == 114 || k1 == 115 || k1 == 116) && decide (Cond.fieldLink y.cls q (am_stn k1).1 (am_stn k1).2 "[I" ∈ lk)
      | _ => v == 1 && decide (Cond.fieldLink y.cls q "java/lang/String" "COMPACT_STRINGS" "Z" ∈ lk)))) = true := hc
  simp only [Bool.and_eq_true, Bool.or_eq_true, decide_eq_true_eq, beq_iff_eq] at hc
  obtain ⟨hd, ⟨hl, hn⟩, ho⟩ := hc
  subst hl
  simp only [am_st] at h
  intro ls H locs g1 g2 g3
  rw [hi]
  split at ho
  · have z := h ls H locs g1 g2 g3
    rw [hn] at z
    simp only [decide_eq_true_eq] at ho
    exact va_gets hx hb hX.2.2.2.2.2.2.1 g3 hown (hts _ (am_tb_i (hlk _ ho) rfl)) (fun _ w => w) hd z
  · have z := h ls H locs g1 g2 g3
    rw [hn] at z
    simp only [Bool.and_eq_true, Bool.or_eq_true, decide_eq_true_eq, beq_iff_eq] at ho
    have hZ := (hX.1 k1 (by omega) (by omega)).1
    exact va_gets hx hb hZ g3 hown (hts _ (am_tb_i (hlk _ ho.2) rfl)) (fun _ w => w) hd z
  · rename_i hne1 hne
    have z : am_mo p l e Rm s m args below meth c cs ss Q G nL t (i + 1) lo (.int v :: st) mi ml := by
      split at h
      · exact (hne rfl).elim
      · exact (hne1 rfl).elim
      · exact h
    have z := z ls H locs g1 g2 g3
    rw [hn] at z
    simp only [Bool.and_eq_true, decide_eq_true_eq, beq_iff_eq] at ho
    rw [ho.1] at z
    exact va_gets hx hb hX.2.1 g3 hown (hts _ (am_tb_i (hlk _ ho.2) rfl)) (fun _ w => w) hd z
theorem am_s_iaload (F : am_fr p s m args meth c G y bc nL rt lk)  (hc : am_chk y bc nL rt lk t i (pc, .iaload, len, k1, k2, k3, v, sw) = true) (hi : am_pcs t i = pc) (h : am_iald (am_mo p l e Rm s m args below meth c cs ss Q G nL t) i lo st mi ml) : (am_mo p l e Rm s m args below meth c cs ss Q G nL t) i lo st mi ml := by
  obtain ⟨hx, hb, hml, hr, hlocks, hts, hlk, hown, hK, hX⟩ := F
  have hc : (decide (decode bc pc = .ok (.iaload, len)) && (len == 1 && am_pcs t (i + 1) == pc + 1)) = true := hc
  simp only [Bool.and_eq_true, decide_eq_true_eq, beq_iff_eq] at hc
  obtain ⟨hd, hl, hn⟩ := hc
  subst hl
  unfold am_iald at h
  split at h
  · rename_i j a rest
    obtain ⟨hk, hin, h⟩ := am_need_e h
    simp only [Bool.or_eq_true, beq_iff_eq] at hk
    intro ls H locs g1 g2 g3
    have z := h ls H locs g1 g2 g3
    rw [hn] at z
    rw [hi]
    rcases hk with ((hk | hk) | hk) | hk
    · have hin : vp_in j (am_n a) := by
        unfold am_len at hin
        rw [hk] at hin
        exact hin
      exact va_iald hx hb hK g2.1 a 0 (by rw [am_wl_at (am_78 (am_k2 hk)), am_en2 hk]) rfl hin hd z
    · have hin : vp_in j (am_n a) := by
        unfold am_len at hin
        rw [hk] at hin
        exact hin
      obtain ⟨r1, r2⟩ := am_k5 hk
      have hT := (hX.1 a r1 r2).2
      exact va_ti hx hb hT g3 hin (show Value.int (G.2.2.2 a j.toNatClampNeg) = .int (mi a j.toNatClampNeg) by rw [g2.2.2.1 a r1]) hd z
    · have hin : vp_in j (mi a 100000).toNatClampNeg := by
        unfold am_len at hin
        rw [hk] at hin
        exact hin
      have ha := am_k6 hk
      subst ha
      rw [g2.2.2.1 117 (by decide)] at hin
      exact va_ti hx hb hX.2.2.1 g3 hin (show Value.int (G.2.2.2 117 j.toNatClampNeg) = .int (mi 117 j.toNatClampNeg) by rw [g2.2.2.1 117 (by decide)]) hd z
    · have hin : vp_in j (mi a 100000).toNatClampNeg := by
        unfold am_len at hin
        rw [hk] at hin
        exact hin
      have ha := am_k10 hk
      subst ha
      obtain ⟨q1, q2⟩ := am_b_in g2.2.2 hin
      exact va_iald hx hb hK g2.1 78 0 (by rw [am_wl_at q1, am_en10 hk]) rfl q2 hd z
  · exact h.elim
theorem am_s_baload (F : am_fr p s m args meth c G y bc nL rt lk)  (hc : am_chk y bc nL rt lk t i (pc, .baload, len, k1, k2, k3, v, sw) = true) (hi : am_pcs t i = pc) (h : am_bald (am_mo p l e Rm s m args below meth c cs ss Q G nL t) i lo st mi ml) : (am_mo p l e Rm s m args below meth c cs ss Q G nL t) i lo st mi ml := by
  obtain ⟨hx, hb, hml, hr, hlocks, hts, hlk, hown, hK, hX⟩ := F
  have hc : (decide (decode bc pc = .ok (.baload, len)) && (len == 1 && am_pcs t (i + 1) == pc + 1)) = true := hc
  simp only [Bool.and_eq_true, decide_eq_true_eq, beq_iff_eq] at hc
  obtain ⟨hd, hl, hn⟩ := hc
  subst hl
  unfold am_bald at h
  split at h
  · rename_i j a rest
    obtain ⟨hk, hin, h⟩ := am_need_e h
    simp only [Bool.or_eq_true, beq_iff_eq] at hk
    intro ls H locs g1 g2 g3
    have z := h ls H locs g1 g2 g3
    rw [hn] at z
    rw [hi]
    have h114 : am_N ≤ a := Nat.le_trans (by decide) (hk.elim am_k8 am_k9)
    have hl2 : am_len mi a = am_len G.2.2.2 a := by
      unfold am_len
      rw [g2.2.2.1 a h114]
    rw [hl2] at hin
    exact va_tb hx hb (hX.2.2.2.2.2.1 a hk) g3 hin (show Value.int (G.2.2.2 a j.toNatClampNeg) = .int (mi a j.toNatClampNeg) by rw [g2.2.2.1 a h114]) hd z
  · exact h.elim
theorem am_s_laload (F : am_fr p s m args meth c G y bc nL rt lk)  (hc : am_chk y bc nL rt lk t i (pc, .laload, len, k1, k2, k3, v, sw) = true) (hi : am_pcs t i = pc) (h : am_lald (am_mo p l e Rm s m args below meth c cs ss Q G nL t) i lo st mi ml) : (am_mo p l e Rm s m args below meth c cs ss Q G nL t) i lo st mi ml := by
  obtain ⟨hx, hb, hml, hr, hlocks, hts, hlk, hown, hK, hX⟩ := F
  have hc : (decide (decode bc pc = .ok (.laload, len)) && (len == 1 && am_pcs t (i + 1) == pc + 1)) = true := hc
  simp only [Bool.and_eq_true, decide_eq_true_eq, beq_iff_eq] at hc
  obtain ⟨hd, hl, hn⟩ := hc
  subst hl
  unfold am_lald at h
  split at h
  · rename_i j a rest
    obtain ⟨hk, hin, h⟩ := am_need_e h
    have hk := eq_of_beq hk
    intro ls H locs g1 g2 g3
    have z := h ls H locs g1 g2 g3
    rw [hn] at z
    rw [hi]
    exact va_lald hx hb hK g2.1 a 1 (by rw [am_wl_at (am_78 (am_k3 hk)), am_en3 hk]) rfl hin hd z
  · exact h.elim
theorem am_s_iastore (F : am_fr p s m args meth c G y bc nL rt lk)  (hc : am_chk y bc nL rt lk t i (pc, .iastore, len, k1, k2, k3, v, sw) = true) (hi : am_pcs t i = pc) (h : am_iast (am_mo p l e Rm s m args below meth c cs ss Q G nL t) i lo st mi ml) : (am_mo p l e Rm s m args below meth c cs ss Q G nL t) i lo st mi ml := by
  obtain ⟨hx, hb, hml, hr, hlocks, hts, hlk, hown, hK, hX⟩ := F
  have hc : (decide (decode bc pc = .ok (.iastore, len)) && (len == 1 && am_pcs t (i + 1) == pc + 1)) = true := hc
  simp only [Bool.and_eq_true, decide_eq_true_eq, beq_iff_eq] at hc
  obtain ⟨hd, hl, hn⟩ := hc
  subst hl
  unfold am_iast at h
  split at h
  · rename_i x j a rest
    obtain ⟨hk, hin, h⟩ := am_need_e h
    simp only [Bool.or_eq_true, beq_iff_eq] at hk
    intro ls H locs g1 g2 g3
    rw [hi]
    rcases hk with hk | hk
    · have hin : vp_in j (am_n a) := by
        unfold am_len at hin
        rw [hk] at hin
        exact hin
      refine va_iast hx hb hK g2.1 g2.2.1 g3 a 0 (by rw [am_wl_at (am_78 (am_k2 hk)), am_en2 hk]) rfl hin hd (fun H1 locs1 f1 f2 f3 => ?_)
      rw [am_wl_ui hk] at f1 f2
      rw [← hn]
      exact h ls H1 locs1 g1 ⟨f1, f2, am_hp_ui (am_k2 hk) g2.2.2⟩ f3
    · have hin : vp_in j (mi a 100000).toNatClampNeg := by
        unfold am_len at hin
        rw [hk] at hin
        exact hin
      have ha := am_k10 hk
      subst ha
      obtain ⟨q1, q2⟩ := am_b_in g2.2.2 hin
      refine va_iast hx hb hK g2.1 g2.2.1 g3 78 0 (by rw [am_wl_at q1, am_en10 hk]) rfl q2 hd (fun H1 locs1 f1 f2 f3 => ?_)
      rw [am_wl_ub hk] at f1 f2
      rw [← hn]
      exact h ls H1 locs1 g1 ⟨f1, f2, am_hp_ub (Nat.not_le.mp fun w => q2 (Or.inr w)) g2.2.2⟩ f3
  · exact h.elim
theorem am_s_lastore (F : am_fr p s m args meth c G y bc nL rt lk)  (hc : am_chk y bc nL rt lk t i (pc, .lastore, len, k1, k2, k3, v, sw) = true) (hi : am_pcs t i = pc) (h : am_last (am_mo p l e Rm s m args below meth c cs ss Q G nL t) i lo st mi ml) : (am_mo p l e Rm s m args below meth c cs ss Q G nL t) i lo st mi ml := by
  obtain ⟨hx, hb, hml, hr, hlocks, hts, hlk, hown, hK, hX⟩ := F
  have hc : (decide (decode bc pc = .ok (.lastore, len)) && (len == 1 && am_pcs t (i + 1) == pc + 1)) = true := hc
  simp only [Bool.and_eq_true, decide_eq_true_eq, beq_iff_eq] at hc
  obtain ⟨hd, hl, hn⟩ := hc
  subst hl
  unfold am_last at h
  split at h
  · rename_i x j a rest
    obtain ⟨hk, hin, h⟩ := am_need_e h
    have hk := eq_of_beq hk
    intro ls H locs g1 g2 g3
    rw [hi]
    refine va_last hx hb hK g2.1 g2.2.1 g3 a 1 (by rw [am_wl_at (am_78 (am_k3 hk)), am_en3 hk]) rfl hin hd (fun H1 locs1 f1 f2 f3 => ?_)
    rw [am_wl_ul hk] at f1 f2
    rw [← hn]
    exact h ls H1 locs1 g1 ⟨f1, f2, g2.2.2⟩ f3
  · exact h.elim
theorem am_s_aaload (F : am_fr p s m args meth c G y bc nL rt lk)  (hc : am_chk y bc nL rt lk t i (pc, .aaload, len, k1, k2, k3, v, sw) = true) (hi : am_pcs t i = pc) (h : am_aald (am_mo p l e Rm s m args below meth c cs ss Q G nL t) i lo st mi ml) : (am_mo p l e Rm s m args below meth c cs ss Q G nL t) i lo st mi ml := by
  obtain ⟨hx, hb, hml, hr, hlocks, hts, hlk, hown, hK, hX⟩ := F
  have hc : (decide (decode bc pc = .ok (.aaload, len)) && (len == 1 && am_pcs t (i + 1) == pc + 1)) = true := hc
  simp only [Bool.and_eq_true, decide_eq_true_eq, beq_iff_eq] at hc
  obtain ⟨hd, hl, hn⟩ := hc
  subst hl
  unfold am_aald at h
  split at h
  · rename_i j a rest
    obtain ⟨hk, hin, h⟩ := am_need_e h
    have hk := eq_of_beq hk
    intro ls H locs g1 g2 g3
    have z := h ls H locs g1 g2 g3
    rw [hn] at z
    rw [hi]
    obtain ⟨haN, hd12⟩ := am_k4 hk
    have hlt : j.toNatClampNeg < am_n a := Nat.not_le.mp fun q => hin (Or.inr q)
    have hc0 := g2.1 a _ (by rw [am_wl_at (am_78 haN), am_en4 hk])
    rcases hd12 with q | q
    · rw [q, if_pos rfl] at hc0
      refine W.aald (ty := .array .int) (v := .ref (G.1 (am_f a + 1 * j.toNatClampNeg))) hx hb hc0 ((hK.2 2 _ rfl).1 _ _) rfl (fun q => by cases q) (by show ¬ (j < 0 ∨ (arrV _ _ _).slots.size ≤ _); rw [arrV_size]; exact hin) (by show (arrV _ _ _).slots[_]? = _; rw [arrV_read _ _ hlt]; rfl) rfl rfl hd ?_
      rw [q] at z
      exact z
    · rw [q, if_neg (by decide)] at hc0
      refine W.aald (ty := .object "DoorsForThree$Shelf") (v := .ref (G.1 (am_f a + 2 * j.toNatClampNeg))) hx hb hc0 ((hK.2 3 _ rfl).1 _ _) rfl (fun q => by cases q) (by show ¬ (j < 0 ∨ (arrV _ _ _).slots.size ≤ _); rw [arrV_size]; exact hin) (by show (arrV _ _ _).slots[_]? = _; rw [arrV_read _ _ hlt]; rfl) rfl rfl hd ?_
      rw [q] at z
      exact z
  · exact h.elim
theorem am_s_arraylength (F : am_fr p s m args meth c G y bc nL rt lk)  (hc : am_chk y bc nL rt lk t i (pc, .arraylength, len, k1, k2, k3, v, sw) = true) (hi : am_pcs t i = pc) (h : am_alen (am_mo p l e Rm s m args below meth c cs ss Q G nL t) i lo st mi ml) : (am_mo p l e Rm s m args below meth c cs ss Q G nL t) i lo st mi ml := by
  obtain ⟨hx, hb, hml, hr, hlocks, hts, hlk, hown, hK, hX⟩ := F
  have hc : (decide (decode bc pc = .ok (.arraylength, len)) && (len == 1 && am_pcs t (i + 1) == pc + 1)) = true := hc
  simp only [Bool.and_eq_true, decide_eq_true_eq, beq_iff_eq] at hc
  obtain ⟨hd, hl, hn⟩ := hc
  subst hl
  unfold am_alen at h
  split at h
  · rename_i a rest
    obtain ⟨hk, h⟩ := am_need_e h
    simp only [Bool.or_eq_true, Bool.and_eq_true, Nat.ble_eq, beq_iff_eq] at hk
    intro ls H locs g1 g2 g3
    have z := h ls H locs g1 g2 g3
    rw [hn] at z
    rw [hi]
    have ho : ¬ am_kd a = 6 ∧ ¬ am_kd a = 9 ∧ ¬ am_kd a = 10 → am_len mi a = am_n a := by
      intro q
      unfold am_len
      split
      · rename_i e
        exact (q.1 e).elim
      · rename_i e
        exact (q.2.1 e).elim
      · rename_i e
        exact (q.2.2 e).elim
      · rfl
    by_cases k2 : am_kd a = 2
    · rw [ho (by omega)] at z
      have he : (am_wl G mi ml)[a]? = some (G.1 a, .inl (G.2.2.1.1, am_n a, .inl (mi a))) := by rw [am_wl_at (am_78 (am_k2 k2)), am_en2 k2]
      exact va_alen hx hb hK g2.1 a 0 he rfl rfl hd z
    by_cases k3 : am_kd a = 3
    · rw [ho (by omega)] at z
      have he : (am_wl G mi ml)[a]? = some (G.1 a, .inl (G.2.2.1.2.1, am_n a, .inr (.inl (ml a)))) := by rw [am_wl_at (am_78 (am_k3 k3)), am_en3 k3]
      exact va_alen hx hb hK g2.1 a 1 he rfl rfl hd z
    by_cases k4 : am_kd a = 4
    · rw [ho (by omega)] at z
      obtain ⟨haN, hd12⟩ := am_k4 k4
      rcases hd12 with q | q
      · have he : (am_wl G mi ml)[a]? = some (G.1 a, .inl (G.2.2.1.2.2.1, am_n a, .inr (.inr (.inr (.inr (fun j => some (G.1 (am_f a + am_d a * j)))))))) := by rw [am_wl_at (am_78 haN), am_en4 k4, if_pos q]
        exact va_alen hx hb hK g2.1 a 2 he rfl rfl hd z
      · have he : (am_wl G mi ml)[a]? = some (G.1 a, .inl (G.2.2.1.2.2.2, am_n a, .inr (.inr (.inr (.inr (fun j => some (G.1 (am_f a + am_d a * j)))))))) := by rw [am_wl_at (am_78 haN), am_en4 k4, if_neg (by omega)]
        exact va_alen hx hb hK g2.1 a 3 he rfl rfl hd z
    by_cases k5 : am_kd a = 5
    · rw [ho (by omega)] at z
      obtain ⟨r1, r2⟩ := am_k5 k5
      exact va_tlen hx hb (hX.1 a r1 r2).2 g3 rfl hd z
    by_cases k6 : am_kd a = 6
    · have e1 : am_len mi a = (mi a 100000).toNatClampNeg := by
        unfold am_len
        rw [k6]
        rfl
      have ha := am_k6 k6
      subst ha
      rw [e1, g2.2.2.1 117 (by decide)] at z
      exact va_tlen hx hb hX.2.2.1 g3 rfl hd z
    have k8 : am_kd a = 8 ∨ am_kd a = 9 := by omega
    have hl2 : am_len mi a = am_len G.2.2.2 a := by
      unfold am_len
      rw [g2.2.2.1 a (Nat.le_trans (by decide) (k8.elim am_k8 am_k9))]
    rw [hl2] at z
    exact va_tlen hx hb (hX.2.2.2.2.2.1 a k8) g3 rfl hd z
  · exact h.elim
end AMM2
end
section
/-! calls; the small machine says what the real one does -/
theorem am_okt_all {f : Nat} (hf : f < am_NM) : am_okt f = true := by
  by_cases h0 : f < 24
  · exact List.all_eq_true.mp am_okt_0 f (List.mem_range'_1.mpr ⟨by omega, by omega⟩)
  by_cases h1 : f < 48
  · exact List.all_eq_true.mp am_okt_1 f (List.mem_range'_1.mpr ⟨by omega, by omega⟩)
  by_cases h2 : f < 72
  · exact List.all_eq_true.mp am_okt_2 f (List.mem_range'_1.mpr ⟨by omega, by omega⟩)
  by_cases h3 : f < 96
  · exact List.all_eq_true.mp am_okt_3 f (List.mem_range'_1.mpr ⟨by omega, by omega⟩)
  by_cases h4 : f < 120
  · exact List.all_eq_true.mp am_okt_4 f (List.mem_range'_1.mpr ⟨by omega, by omega⟩)
  by_cases h5 : f < 144
  · exact List.all_eq_true.mp am_okt_5 f (List.mem_range'_1.mpr ⟨by omega, by omega⟩)
  by_cases h6 : f < 168
  · exact List.all_eq_true.mp am_okt_6 f (List.mem_range'_1.mpr ⟨by omega, by omega⟩)
  by_cases h7 : f < 192
  · exact List.all_eq_true.mp am_okt_7 f (List.mem_range'_1.mpr ⟨by omega, by omega⟩)
  by_cases h8 : f < 216
  · exact List.all_eq_true.mp am_okt_8 f (List.mem_range'_1.mpr ⟨by omega, by omega⟩)
  by_cases h9 : f < 240
  · exact List.all_eq_true.mp am_okt_9 f (List.mem_range'_1.mpr ⟨by omega, by omega⟩)
  by_cases h10 : f < 264
  · exact List.all_eq_true.mp am_okt_10 f (List.mem_range'_1.mpr ⟨by omega, by omega⟩)
  by_cases h11 : f < 288
  · exact List.all_eq_true.mp am_okt_11 f (List.mem_range'_1.mpr ⟨by omega, by omega⟩)
  by_cases h12 : f < 292
  · exact List.all_eq_true.mp am_okt_12 f (List.mem_range'_1.mpr ⟨by omega, by omega⟩)
  exact absurd hf h12
theorem am_okc_all {f : Nat} (hf : f < am_NM) : am_okc f = true := by
  by_cases h0 : f < 24
  · exact List.all_eq_true.mp am_okc_0 f (List.mem_range'_1.mpr ⟨by omega, by omega⟩)
  by_cases h1 : f < 48
  · exact List.all_eq_true.mp am_okc_1 f (List.mem_range'_1.mpr ⟨by omega, by omega⟩)
  by_cases h2 : f < 72
  · exact List.all_eq_true.mp am_okc_2 f (List.mem_range'_1.mpr ⟨by omega, by omega⟩)
  by_cases h3 : f < 96
  · exact List.all_eq_true.mp am_okc_3 f (List.mem_range'_1.mpr ⟨by omega, by omega⟩)
  by_cases h4 : f < 120
  · exact List.all_eq_true.mp am_okc_4 f (List.mem_range'_1.mpr ⟨by omega, by omega⟩)
  by_cases h5 : f < 144
  · exact List.all_eq_true.mp am_okc_5 f (List.mem_range'_1.mpr ⟨by omega, by omega⟩)
  by_cases h6 : f < 168
  · exact List.all_eq_true.mp am_okc_6 f (List.mem_range'_1.mpr ⟨by omega, by omega⟩)
  by_cases h7 : f < 192
  · exact List.all_eq_true.mp am_okc_7 f (List.mem_range'_1.mpr ⟨by omega, by omega⟩)
  by_cases h8 : f < 216
  · exact List.all_eq_true.mp am_okc_8 f (List.mem_range'_1.mpr ⟨by omega, by omega⟩)
  by_cases h9 : f < 240
  · exact List.all_eq_true.mp am_okc_9 f (List.mem_range'_1.mpr ⟨by omega, by omega⟩)
  by_cases h10 : f < 264
  · exact List.all_eq_true.mp am_okc_10 f (List.mem_range'_1.mpr ⟨by omega, by omega⟩)
  by_cases h11 : f < 288
  · exact List.all_eq_true.mp am_okc_11 f (List.mem_range'_1.mpr ⟨by omega, by omega⟩)
  by_cases h12 : f < 292
  · exact List.all_eq_true.mp am_okc_12 f (List.mem_range'_1.mpr ⟨by omega, by omega⟩)
  exact absurd hf h12
theorem am_okk_all {f : Nat} (hf : f < am_NM) : am_okk f = true := by
  by_cases h0 : f < 24
  · exact List.all_eq_true.mp am_okk_0 f (List.mem_range'_1.mpr ⟨by omega, by omega⟩)
  by_cases h1 : f < 48
  · exact List.all_eq_true.mp am_okk_1 f (List.mem_range'_1.mpr ⟨by omega, by omega⟩)
  by_cases h2 : f < 72
  · exact List.all_eq_true.mp am_okk_2 f (List.mem_range'_1.mpr ⟨by omega, by omega⟩)
  by_cases h3 : f < 96
  · exact List.all_eq_true.mp am_okk_3 f (List.mem_range'_1.mpr ⟨by omega, by omega⟩)
  by_cases h4 : f < 120
  · exact List.all_eq_true.mp am_okk_4 f (List.mem_range'_1.mpr ⟨by omega, by omega⟩)
  by_cases h5 : f < 144
  · exact List.all_eq_true.mp am_okk_5 f (List.mem_range'_1.mpr ⟨by omega, by omega⟩)
  by_cases h6 : f < 168
  · exact List.all_eq_true.mp am_okk_6 f (List.mem_range'_1.mpr ⟨by omega, by omega⟩)
  by_cases h7 : f < 192
  · exact List.all_eq_true.mp am_okk_7 f (List.mem_range'_1.mpr ⟨by omega, by omega⟩)
  by_cases h8 : f < 216
  · exact List.all_eq_true.mp am_okk_8 f (List.mem_range'_1.mpr ⟨by omega, by omega⟩)
  by_cases h9 : f < 240
  · exact List.all_eq_true.mp am_okk_9 f (List.mem_range'_1.mpr ⟨by omega, by omega⟩)
  by_cases h10 : f < 264
  · exact List.all_eq_true.mp am_okk_10 f (List.mem_range'_1.mpr ⟨by omega, by omega⟩)
  by_cases h11 : f < 288
  · exact List.all_eq_true.mp am_okk_11 f (List.mem_range'_1.mpr ⟨by omega, by omega⟩)
  by_cases h12 : f < 292
  · exact List.all_eq_true.mp am_okk_12 f (List.mem_range'_1.mpr ⟨by omega, by omega⟩)
  exact absurd hf h12
theorem am_okd_all {f : Nat} (hf : f < 290) : am_okd f = true := by
  by_cases h0 : f < 24
  · exact List.all_eq_true.mp am_okd_0 f (List.mem_range'_1.mpr ⟨by omega, by omega⟩)
  by_cases h1 : f < 48
  · exact List.all_eq_true.mp am_okd_1 f (List.mem_range'_1.mpr ⟨by omega, by omega⟩)
  by_cases h2 : f < 72
  · exact List.all_eq_true.mp am_okd_2 f (List.mem_range'_1.mpr ⟨by omega, by omega⟩)
  by_cases h3 : f < 96
  · exact List.all_eq_true.mp am_okd_3 f (List.mem_range'_1.mpr ⟨by omega, by omega⟩)
  by_cases h4 : f < 120
  · exact List.all_eq_true.mp am_okd_4 f (List.mem_range'_1.mpr ⟨by omega, by omega⟩)
  by_cases h5 : f < 144
  · exact List.all_eq_true.mp am_okd_5 f (List.mem_range'_1.mpr ⟨by omega, by omega⟩)
  by_cases h6 : f < 168
  · exact List.all_eq_true.mp am_okd_6 f (List.mem_range'_1.mpr ⟨by omega, by omega⟩)
  by_cases h7 : f < 192
  · exact List.all_eq_true.mp am_okd_7 f (List.mem_range'_1.mpr ⟨by omega, by omega⟩)
  by_cases h8 : f < 216
  · exact List.all_eq_true.mp am_okd_8 f (List.mem_range'_1.mpr ⟨by omega, by omega⟩)
  by_cases h9 : f < 240
  · exact List.all_eq_true.mp am_okd_9 f (List.mem_range'_1.mpr ⟨by omega, by omega⟩)
  by_cases h10 : f < 264
  · exact List.all_eq_true.mp am_okd_10 f (List.mem_range'_1.mpr ⟨by omega, by omega⟩)
  by_cases h11 : f < 288
  · exact List.all_eq_true.mp am_okd_11 f (List.mem_range'_1.mpr ⟨by omega, by omega⟩)
  by_cases h12 : f < 290
  · exact List.all_eq_true.mp am_okd_12 f (List.mem_range'_1.mpr ⟨by omega, by omega⟩)
  exact absurd hf h12
theorem am_lks_in : ∀ (k : Nat), ∀ w ∈ am_lks k, w ∈ lw_tbl
  | 0, w, h => am_t1 (am_uses am_lkL_ix w h)
  | 1, w, h => am_t1 (am_uses am_lkX10_ix w h)
  | 2, w, h => am_t1 (am_uses am_lkX0_ix w h)
  | 3, w, h => am_t1 (am_uses am_lkX3_ix w h)
  | 4, w, h => am_t1 (am_uses am_lkX4_ix w h)
  | 5, w, h => am_t1 (am_uses am_lkX8_ix w h)
  | 6, w, h => am_t1 (am_uses am_lkX2_ix w h)
  | 7, w, h => am_t1 (am_uses am_lkX9_ix w h)
  | 8, w, h => am_t1 (am_uses am_lkX1_ix w h)
  | 9, w, h => am_t1 (am_uses am_lkX5_ix w h)
  | 10, w, h => am_t1 (am_uses am_lkX6_ix w h)
  | 11, w, h => am_t1 (am_uses am_lkX7_ix w h)
  | 12, w, h => am_t1 (am_uses am_lkJ0_ix w h)
  | 13, w, h => am_t1 (am_uses am_lkJ1_ix w h)
  | 14, w, h => am_t1 (am_uses am_lkJ6_ix w h)
  | 15, w, h => am_t1 (am_uses am_lkJ7_ix w h)
  | n + 16, w, h => (List.not_mem_nil h).elim
def am_cd (f : Nat) : Cond := Cond.code (am_m f).1 (am_m f).2.1 (am_m f).2.2.1 (am_m f).2.2.2.1
def am_ws (f : Nat) : List Cond := am_cd f :: am_tb
def am_room (d : Nat) : Room := { frames := d, cells := 0, slots := 0, locals := 40 * d }
def am_rok (Rm : Room) (d cs ss : Nat) : Prop := d + 1 ≤ Rm.frames ∧ 40 * (d + 1) ≤ Rm.locals ∧ cs ≤ Rm.cells ∧ ss ≤ Rm.slots
theorem am_cd_in {f : Nat} (hf : f < am_NM) : am_cd f ∈ lw_tbl := by
  by_cases h : f < 290
  · have z := am_okd_all h
    unfold am_okd at z
    unfold am_cd
    rcases hm : am_m f with ⟨y, bc, nL, rt, stc, na, k⟩
    rcases hx : am_nth (0, 0, 0, 0) am_mix f with ⟨c, ini, a, b⟩
    rw [hm, hx] at z
    exact List.mem_of_getElem? (of_decide_eq_true z)
  · have hf : f < 292 := hf
    by_cases h2 : f = 290
    · subst h2
      exact List.mem_of_getElem? am_okd_b290
    · have h3 : f = 291 := by omega
      subst h3
      exact List.mem_of_getElem? am_okd_b291
theorem am_f_c {f : Nat} (hf : f < am_NM) : plainName (am_m f).1.cls = true ∧ am_cd f ∈ lw_tbl ∧ Cond.initialized (am_m f).1.cls ∈ lw_tbl ∧ (am_m f).2.2.1 ≤ 20 ∧ (am_m f).1.cls ≠ "java/lang/invoke/MethodHandle" ∧ (am_m f).1.cls ≠ "java/lang/invoke/VarHandle" ∧ (parseMethodDescriptor (am_m f).1.desc).map (fun d => d.parameters.length) = some (am_m f).2.2.2.2.2.1 ∧ ((am_m f).2.2.2.2.1 = true → Cond.static (am_m f).1 ∈ lw_tbl) ∧ ((am_m f).2.2.2.2.1 = false → Cond.instanceMethod (am_m f).1 ∈ lw_tbl ∧ Cond.selects (am_m f).1.cls (am_m f).1 (am_m f).1 ∈ lw_tbl) := by
  have z := am_okc_all hf
  have zc := am_cd_in hf
  unfold am_okc at z
  unfold am_cd at zc ⊢
  rcases hm : am_m f with ⟨y, bc, nL, rt, stc, na, k⟩
  rcases hx : am_nth (0, 0, 0, 0) am_mix f with ⟨c, ini, a, b⟩
  rw [hm, hx] at z
  rw [hm] at zc
  simp only [Bool.and_eq_true, decide_eq_true_eq] at z
  obtain ⟨⟨⟨⟨⟨⟨z1, z3⟩, z4⟩, z5⟩, z6⟩, z7⟩, z8⟩ := z
  refine ⟨z1, zc, List.mem_of_getElem? z3, z4, z5, z6, z7, fun q => ?_, fun q => ?_⟩
  · have q : stc = true := q
    subst q
    simp only [decide_eq_true_eq] at z8
    exact List.mem_of_getElem? z8
  · have q : stc = false := q
    subst q
    simp only [Bool.and_eq_true, decide_eq_true_eq] at z8
    exact ⟨List.mem_of_getElem? z8.1, List.mem_of_getElem? z8.2⟩
theorem am_goodIn {f : Nat} (hf : f < am_NM) : GoodIn am_tb (am_ws f) := by
  have all : ∀ w ∈ am_tb, w ∈ am_tb ∧ ((w.onTables && w.keeps) = true ∨ ∃ ty, w = .arrayClass ty) := fun w hw => ⟨hw, good_of_word (List.mem_filter.mp hw).2⟩
  intro w hw
  rcases List.mem_cons.mp hw with e | e
  · subst e
    exact all _ (am_tb_i (am_f_c hf).2.1 rfl)
  · exact all w e
set_option maxRecDepth 1000000 in
theorem am_mx1 : Cond.static Lib.Math.max.name ∈ tables_1 := List.mem_of_getElem? (i := 497) (by decide +kernel)
set_option maxRecDepth 1000000 in
theorem am_mx2 : Cond.code Lib.Math.max.name Lib.Math.max.code 2 (some .int) ∈ tables_1 := List.mem_of_getElem? (i := 498) (by decide +kernel)
set_option maxRecDepth 1000000 in
theorem am_mx3 : Cond.static Lib.Math.min.name ∈ tables_1 := List.mem_of_getElem? (i := 500) (by decide +kernel)
set_option maxRecDepth 1000000 in
theorem am_mx4 : Cond.code Lib.Math.min.name Lib.Math.min.code 2 (some .int) ∈ tables_1 := List.mem_of_getElem? (i := 501) (by decide +kernel)
set_option maxRecDepth 1000000 in
theorem am_mx5 : Cond.initialized "java/lang/Math" ∈ tables_1 := List.mem_of_getElem? (i := 14) (by decide +kernel)
set_option maxRecDepth 1000000 in
theorem am_mx6 : Cond.static arraycopyName ∈ tables_1 := List.mem_of_getElem? (i := 419) (by decide +kernel)
set_option maxRecDepth 1000000 in
theorem am_mx7 : Cond.native arraycopyName ∈ tables_1 := List.mem_of_getElem? (i := 420) (by decide +kernel)
set_option maxRecDepth 1000000 in
theorem am_mx8 : Cond.initialized "java/lang/System" ∈ tables_1 := List.mem_of_getElem? (i := 13) (by decide +kernel)
def am_ih (l : Launch) (G : am_G) (d : Nat) : Prop := ∀ (f : Nat) (args : List Value) (mi : am_MI) (ml : am_ML) (R : am_R), f < am_NM → am_call d f args mi ml R → Met l (am_m f).1 (am_ws f) (am_room d) (va_Pc (args.map (am_tv G)) (fun U => am_wd G U U.heap mi ml)) (am_Q G R) 0 0 (am_A G)
section AMC
variable {p : Program} {l : Launch} {e : Env} {Rm : Room} {s : State} {m : MethodId} {args : Array Value} {below : List Frame} {meth : Method} {c : Code} {cs ss : Nat} {Q : State → Prop}
variable {G : am_G} {y : MethodName} {bc : ByteArray} {nL : Nat} {rt : Option FieldType} {lk : List Cond} {t : List am_row} {Rr : am_R} {cl : am_C}
variable {i pc len k1 k2 k3 d : Nat} {v : Int32} {sw : List (Int32 × Nat)} {lo : am_L} {st : List Value} {mi : am_MI} {ml : am_ML}
theorem am_callk {R' : am_R} {a : Array Value} {ls : Array Slot} {st0 rest : List Value} {H : Heap} {locs : List Loc} (hr : va_Run p l e Rm s m args below meth c H locs cs ss 0 0 (F0 m pc ls st0) rest (am_Q G R' a) (am_A G)) (hS : va_S (am_A G) s.heap H locs)
    (kk : ∀ (r : Option Value) (mi : am_MI) (ml : am_ML) (H1 : Heap) (locs1 : List Loc), R' r mi ml → am_hp G H1 mi ml → va_S (am_A G) s.heap H1 locs1 → W p l e Rm s m args below meth c H1 locs1 cs ss Q (F0 m (pc + 3) ls ((r.map (am_tv G)).toList ++ rest))) : W p l e Rm s m args below meth c H locs cs ss Q (F0 m pc ls st0) := by
  intro T hT X
  obtain ⟨v, st₀, t, T', L, h0, X', hL, e1, e2, ⟨⟨r, mi, ml, hv, hp, hb⟩, hz, hk⟩, st⟩ := hr T hT X
  cases hv
  rw [h0] at hz hk
  obtain ⟨t2, a1, b1⟩ := kk r mi ml T'.heap (locs ++ L) hp (by rw [e1]; exact hb)
    ⟨Nat.le_trans hS.1 (by rw [e1]; exact hz), fun q h1 h2 => by rw [e1, hk q (Nat.lt_of_lt_of_le h1 hS.1) h2]; exact hS.2.1 q h1 h2, fun q hq => (List.mem_append.mp hq).elim (hS.2.2 q) (hL q)⟩ T' rfl X'
  exact ⟨t2, st t2 a1, b1⟩
theorem am_sum_le {st : List Value} (h : am_cat st ≤ 8) : ((st.map (am_tv G)).map fun v => v.category).sum ≤ 8 := by
  rw [am_cat_sum, am_cat_tv]
  exact h
theorem am_room_1 (hR : am_rok Rm d cs ss) : 1 ≤ Rm.frames := Nat.le_trans (Nat.le_add_left 1 d) hR.1
theorem am_room_2 {k : Nat} (hR : am_rok Rm d cs ss) (hk : k ≤ 40) : k ≤ Rm.locals := by
  have := hR.2.1
  omega
theorem am_room_3 {n : Nat} (hR : am_rok Rm d cs ss) (hn : n ≤ 20) : (am_room d).frames + 1 ≤ Rm.frames ∧ 8 + (n + 11) + (am_room d).locals ≤ Rm.locals := by
  refine ⟨hR.1, ?_⟩
  have h2 := hR.2.1
  show 8 + (n + 11) + 40 * d ≤ Rm.locals
  omega
theorem am_kres {ls : Array Slot} {H : Heap} {locs : List Loc} {rest : List Value} (hn : am_pcs t (i + 1) = pc + 3) (g1 : am_lv G nL lo ls) {r : Option Value} {mi : am_MI} {ml : am_ML} (h : (match k3 with
    | 0 => am_rv fun mi ml => am_mo p l e Rm s m args below meth c cs ss Q G nL t (i + 1) lo rest mi ml
    | 1 => am_ri fun x mi ml => am_mo p l e Rm s m args below meth c cs ss Q G nL t (i + 1) lo (.int x :: rest) mi ml
    | 2 => am_rj fun x mi ml => am_mo p l e Rm s m args below meth c cs ss Q G nL t (i + 1) lo (.long x :: rest) mi ml
    | _ => am_rr fun x mi ml => am_mo p l e Rm s m args below meth c cs ss Q G nL t (i + 1) lo (.ref x :: rest) mi ml) r mi ml) (g2 : am_hp G H mi ml) (g3 : va_S (am_A G) s.heap H locs) :
    W p l e Rm s m args below meth c H locs cs ss Q (F0 m (pc + 3) ls ((r.map (am_tv G)).toList ++ rest.map (am_tv G))) := by
  rw [← hn]
  split at h
  · obtain ⟨e, h⟩ := h
    subst e
    exact h ls H locs g1 g2 g3
  · obtain ⟨x, e, h⟩ := h
    subst e
    exact h ls H locs g1 g2 g3
  · obtain ⟨x, e, h⟩ := h
    subst e
    exact h ls H locs g1 g2 g3
  · obtain ⟨x, e, h⟩ := h
    subst e
    exact h ls H locs g1 g2 g3
theorem am_pre {ls : Array Slot} {H : Heap} {locs : List Loc} {vs : List Value} (hK : va_K G.2.1 vwCl (am_ty G) s) (hX : am_sx G s s.heap) (g2 : am_hp G H mi ml) (g3 : va_S (am_A G) s.heap H locs) : PreS s H (va_Pc vs (fun U => am_wd G U U.heap mi ml)) vs := by
  refine ⟨fun a U g mk q => ⟨q.1, am_wd_vm rfl q.2⟩, fun U hU hW => ⟨rfl, ?_⟩⟩
  show am_wd G U U.heap mi ml
  rw [hU]
  exact ⟨g2, hK.moved hW.alike, am_sx_on hW g3.2.1 hX⟩
theorem am_s_invokestatic (F : am_fr p s m args meth c G y bc nL rt lk) {q : Nat} (hR : am_rok Rm d cs ss) (IH : am_ih l G d) (hc : am_chk y bc nL rt lk t i (pc, (.invokestatic q), len, k1, k2, k3, v, sw) = true) (hi : am_pcs t i = pc) (h : am_inv (am_mo p l e Rm s m args below meth c cs ss Q G nL t) i lo st mi ml (am_call d) k1 k2 k3) : (am_mo p l e Rm s m args below meth c cs ss Q G nL t) i lo st mi ml := by
  obtain ⟨hx, hb, hml, hr, hlocks, hts, hlk, hown, hK, hX⟩ := F
  have hc : (decide (decode bc pc = .ok (.invokestatic q, len)) && (len == 3 && am_pcs t (i + 1) == pc + 3 && (match (generalizing := false) k1 with
      | 1000 => decide (Cond.methodLink y.cls q Lib.Math.max.name ∈ lk)
      | 1001 => decide (Cond.methodLink y.cls q Lib.Math.min.name ∈ lk)
      | 1002 => decide (Cond.methodLink y.cls q arraycopyName ∈ lk)
      | 2001 => true
      | _ => decide (k1 < am_NM) && decide (Cond.methodLink y.cls q (am_m k1).1 ∈ lk) && (am_m k1).2.2.2.2.1 == true && k2 == (am_m k1).2.2.2.2.2.1 && k3 == am_rko (am_m k1).2.2.2.1))) = true := hc
  simp only [Bool.and_eq_true, decide_eq_true_eq, beq_iff_eq] at hc
  obtain ⟨hd, ⟨hl, hn⟩, hm⟩ := hc
  subst hl
  unfold am_inv at h
  split at h
  · have hm : decide (Cond.methodLink y.cls q Lib.Math.max.name ∈ lk) = true := hm
    unfold am_bic at h
    split at h
    · intro ls H locs g1 g2 g3
      have hcat := Nat.le_of_ble_eq_true (am_need_e h).1
      have z := (am_need_e h).2 ls H locs g1 g2 g3
      rw [hn] at z
      rw [hi]
      exact va_mmax hx hb (hml.trans g1.1.symm) hown (hts _ (am_tb_i (hlk _ (of_decide_eq_true hm)) rfl)) (hts _ (am_tb_i (am_t1 am_mx1) rfl)) (hts _ (am_tb_i (am_t1 am_mx5) rfl)) (hts _ (am_tb_i (am_t1 am_mx2) rfl)) (am_room_1 hR) (Nat.le_trans (Nat.add_le_add_right (am_sum_le hcat) 13) (am_room_2 hR (by omega))) hR.2.2.1 hR.2.2.2 hd z
    · exact h.elim
  · have hm : decide (Cond.methodLink y.cls q Lib.Math.min.name ∈ lk) = true := hm
    unfold am_bic at h
    split at h
    · intro ls H locs g1 g2 g3
      have hcat := Nat.le_of_ble_eq_true (am_need_e h).1
      have z := (am_need_e h).2 ls H locs g1 g2 g3
      rw [hn] at z
      rw [hi]
      exact va_mmin hx hb (hml.trans g1.1.symm) hown (hts _ (am_tb_i (hlk _ (of_decide_eq_true hm)) rfl)) (hts _ (am_tb_i (am_t1 am_mx3) rfl)) (hts _ (am_tb_i (am_t1 am_mx5) rfl)) (hts _ (am_tb_i (am_t1 am_mx4) rfl)) (am_room_1 hR) (Nat.le_trans (Nat.add_le_add_right (am_sum_le hcat) 13) (am_room_2 hR (by omega))) hR.2.2.1 hR.2.2.2 hd z
    · exact h.elim
  · have hm : decide (Cond.methodLink y.cls q arraycopyName ∈ lk) = true := hm
    unfold am_cpy at h
    split at h
    · rename_i n dp b sp a rest
      obtain ⟨c6, c1, c2, c3, c4, c5, h⟩ := am_need_e h
      have c6 := Nat.le_of_ble_eq_true c6
      have hlocals : ((rest.map (am_tv G)).map fun v => v.category).sum + (nativeFrameWords "java/lang/System" "arraycopy" 5 + 11) ≤ Rm.locals :=
        Nat.le_trans (Nat.add_le_add_right (am_sum_le c6) _) (am_room_2 hR (by decide))
      intro ls H locs g1 g2 g3
      rw [hi]
      split at h
      · rename_i ka kb
        refine va_copyi hx hb (hml.trans g1.1.symm) hown (hts _ (am_tb_i (hlk _ (of_decide_eq_true hm)) rfl)) (hts _ (am_tb_i (am_t1 am_mx7) rfl)) (hts _ (am_tb_i (am_t1 am_mx6) rfl)) (hts _ (am_tb_i (am_t1 am_mx8) rfl)) hK g2.1 g2.2.1 g3 a b 0 0 (by rw [am_wl_at (am_78 (am_k2 ka)), am_en2 ka]) (by rw [am_wl_at (am_78 (am_k2 kb)), am_en2 kb]) rfl rfl rfl c1 c2 c3 c4 c5 (fun _ _ => rfl) (am_room_1 hR) hlocals hd (fun H1 locs1 f1 f2 f3 => ?_)
        rw [am_wl_ci kb] at f1 f2
        rw [← hn]
        exact h ls H1 locs1 g1 ⟨f1, f2, am_hp_ci (am_k2 kb) g2.2.2⟩ f3
      · rename_i ka kb
        refine va_copyl hx hb (hml.trans g1.1.symm) hown (hts _ (am_tb_i (hlk _ (of_decide_eq_true hm)) rfl)) (hts _ (am_tb_i (am_t1 am_mx7) rfl)) (hts _ (am_tb_i (am_t1 am_mx6) rfl)) (hts _ (am_tb_i (am_t1 am_mx8) rfl)) hK g2.1 g2.2.1 g3 a b 1 1 (by rw [am_wl_at (am_78 (am_k3 ka)), am_en3 ka]) (by rw [am_wl_at (am_78 (am_k3 kb)), am_en3 kb]) rfl rfl rfl c1 c2 c3 c4 c5 (fun _ _ => rfl) (am_room_1 hR) hlocals hd (fun H1 locs1 f1 f2 f3 => ?_)
        rw [am_wl_cj kb] at f1 f2
        rw [← hn]
        exact h ls H1 locs1 g1 ⟨f1, f2, g2.2.2⟩ f3
      · exact h.elim
    · exact h.elim
  · exact h.elim
  · rename_i n1 n2 n3 n4
    split at hm
    · exact (n1 rfl).elim
    · exact (n2 rfl).elim
    · exact (n3 rfl).elim
    · exact (n4 rfl).elim
    · simp only [Bool.and_eq_true, decide_eq_true_eq, beq_iff_eq] at hm
      obtain ⟨⟨⟨⟨hlt, hlnk⟩, hst⟩, hk2⟩, -⟩ := hm
      obtain ⟨w1, w2, w3, w4, w5, w6, w7, w8, -⟩ := am_f_c hlt
      unfold am_call0 at h
      obtain ⟨c0, h⟩ := am_need_e h
      simp only [Bool.and_eq_true, Nat.ble_eq] at c0
      obtain ⟨c1, c2⟩ := c0
      intro ls H locs g1 g2 g3
      rw [hi]
      refine am_callk (va_runS (As := ((st.take k2).reverse).map (am_tv G)) (rest := (st.drop k2).map (am_tv G)) ⟨hx, hb, hml, hown, hts⟩ (IH _ _ _ _ _ hlt h) ⟨callB_of k2 hts (am_goodIn hlt) rfl rfl rfl (hts _ (am_tb_i w3 rfl)) (hts _ (am_tb_i (hlk _ hlnk) rfl)) ⟨w5, w6, by rw [w7, hk2]⟩ (am_room_3 hR w4), hts _ (am_tb_i (w8 hst) rfl)⟩ (am_pre (ls := ls) hK hX g2 g3) rfl ?_ g1.1 ?_ (lv_room (am_sum_le c2)) hd ⟨hR.2.2.1, hR.2.2.2⟩) g3 (fun r mi2 ml2 H1 locs1 q1 q2 q3 => am_kres hn g1 q1 q2 q3)
      · rw [List.length_map, List.length_reverse, List.length_take]
        omega
      · show st.map (am_tv G) = (((st.take k2).reverse).map (am_tv G)).reverse ++ (st.drop k2).map (am_tv G)
        rw [← List.map_reverse, List.reverse_reverse, ← List.map_append, List.take_append_drop]
theorem am_s_invokevirtual (F : am_fr p s m args meth c G y bc nL rt lk) {q : Nat} (hR : am_rok Rm d cs ss) (IH : am_ih l G d) (hv : am_rcv st k1 k2 = true) (hc : am_chk y bc nL rt lk t i (pc, (.invokevirtual q), len, k1, k2, k3, v, sw) = true) (hi : am_pcs t i = pc) (h : am_inv (am_mo p l e Rm s m args below meth c cs ss Q G nL t) i lo st mi ml (am_call d) k1 k2 k3) : (am_mo p l e Rm s m args below meth c cs ss Q G nL t) i lo st mi ml := by
  obtain ⟨hx, hb, hml, hr, hlocks, hts, hlk, hown, hK, hX⟩ := F
  have hc : (decide (decode bc pc = .ok (.invokevirtual q, len)) && (len == 3 && am_pcs t (i + 1) == pc + 3 && (match (generalizing := false) k1 with
      | 1000 => false
      | 1001 => false
      | 1002 => false
      | 2001 => true
      | _ => decide (k1 < am_NM) && decide (Cond.methodLink y.cls q (am_m k1).1 ∈ lk) && (am_m k1).2.2.2.2.1 == false && k2 == (am_m k1).2.2.2.2.2.1 + 1 && k3 == am_rko (am_m k1).2.2.2.1))) = true := hc
  simp only [Bool.and_eq_true, decide_eq_true_eq, beq_iff_eq] at hc
  obtain ⟨hd, ⟨hl, hn⟩, hm⟩ := hc
  subst hl
  unfold am_inv at h
  split at h
  · exact Bool.noConfusion (show false = true from hm)
  · exact Bool.noConfusion (show false = true from hm)
  · exact Bool.noConfusion (show false = true from hm)
  · exact h.elim
  · rename_i n1 n2 n3 n4
    split at hm
    · exact (n1 rfl).elim
    · exact (n2 rfl).elim
    · exact (n3 rfl).elim
    · exact (n4 rfl).elim
    · simp only [Bool.and_eq_true, decide_eq_true_eq, beq_iff_eq] at hm
      obtain ⟨⟨⟨⟨hlt, hlnk⟩, hst⟩, hk2⟩, -⟩ := hm
      obtain ⟨w1, w2, w3, w4, w5, w6, w7, -, w9⟩ := am_f_c hlt
      unfold am_call0 at h
      obtain ⟨c0, h⟩ := am_need_e h
      simp only [Bool.and_eq_true, Nat.ble_eq] at c0
      obtain ⟨c1, c2⟩ := c0
      generalize hna : (am_m k1).2.2.2.2.2.1 = na at hk2 w7
      subst hk2
      unfold am_rcv at hv
      rw [Nat.add_sub_cancel] at hv
      split at hv
      · rename_i a rest2 hdr
        have hv := eq_of_beq hv
        have hdr2 : st.drop (na + 1) = rest2 := by
          rw [← List.drop_drop, hdr]
          rfl
        have htk : st.take (na + 1) = st.take na ++ [.ref a] := by
          rw [List.take_add, hdr]
          rfl
        rw [htk, hdr2] at h
        rw [hdr2] at c2
        rw [List.reverse_append] at h
        intro ls H locs g1 g2 g3
        rw [hi]
        have hrec : ∃ cellB : Cell, H[G.1 a]? = some cellB ∧ cellB.vm.isStatics = false ∧ s.vm.findClass (am_m k1).1.cls = some cellB.cls := by
          have hkk := am_okk_all hlt
          unfold am_okk at hkk
          rcases hm1 : am_m k1 with ⟨y1, bc1, nL1, rt1, stc1, na1, lk1⟩
          rw [hm1] at hkk hst
          have hst : stc1 = false := hst
          subst hst
          simp only [Bool.false_or] at hkk
          split at hkk
          · rename_i r er
            have hlt2 := am_vw_lt er
            obtain ⟨ha1, ha2⟩ := am_oc_1 hv (by omega)
            obtain ⟨haN, C2, T2, er2⟩ := am_k1 ha1
            have he : (am_wl G mi ml)[a]? = some (G.1 a, .inr (am_mk k1, am_fs G mi a (am_mk k1) (am_f a))) := by rw [am_wl_at (am_78 haN), am_en1 ha1, ha2]
            have z := va_recv hK g2.1 er he
            rw [eq_of_beq hkk] at z
            exact z
          · simp only [Bool.and_eq_true, beq_iff_eq] at hkk
            rw [hkk.1] at hv
            obtain ⟨⟨cell, e1, e2, e3, e4⟩, -, -⟩ := hX.2.2.2.2.1 a (am_oc_7 hv)
            refine ⟨cell, ?_, e2, ?_⟩
            · rw [g3.2.1 _ (Array.getElem?_eq_some_iff.mp e1).1 e4]
              exact e1
            · show s.vm.findClass y1.cls = _
              rw [hkk.2]
              exact e3
        have hpre := am_pre (ls := ls) (vs := ([Value.ref a].reverse ++ (st.take na).reverse).map (am_tv G)) hK hX g2 g3
        refine am_callk (va_runV (C := (am_m k1).1.cls) (b := G.1 a) (As := ((st.take na).reverse).map (am_tv G)) (rest := rest2.map (am_tv G)) ⟨hx, hb, hml, hown, hts⟩ (IH _ _ _ _ _ hlt h) ⟨callB_of na hts (am_goodIn hlt) rfl rfl rfl (hts _ (am_tb_i w3 rfl)) (hts _ (am_tb_i (hlk _ hlnk) rfl)) ⟨w5, w6, w7⟩ (am_room_3 hR w4), hts _ (am_tb_i (w9 hst).1 rfl), hts _ (am_tb_i (w9 hst).2 rfl)⟩ ⟨hpre.1, hrec, hpre.2⟩ rfl ?_ g1.1 ?_ (lv_room (am_sum_le c2)) hd ⟨hR.2.2.1, hR.2.2.2⟩) g3 (fun r mi2 ml2 H1 locs1 q1 q2 q3 => am_kres hn g1 q1 q2 q3)
        · rw [List.length_map, List.length_reverse, List.length_take]
          omega
        · show st.map (am_tv G) = (((st.take na).reverse).map (am_tv G)).reverse ++ (am_tv G (.ref a) :: rest2.map (am_tv G))
          rw [← List.map_reverse, List.reverse_reverse, ← List.map_cons, ← hdr, ← List.map_append, List.take_append_drop]
      · cases hv
end AMC
end
section
/-! the small machine says what the real one does -/
def am_isret : Instr → Bool
  | .ireturn => true
  | .lreturn => true
  | .areturn => true
  | .return_ => true
  | _ => false
section AMZ
variable {p : Program} {l : Launch} {e : Env} {Rm : Room} {s : State} {m : MethodId} {args : Array Value} {below : List Frame} {meth : Method} {c : Code} {cs ss : Nat} {Q : State → Prop}
variable {G : am_G} {y : MethodName} {bc : ByteArray} {nL : Nat} {rt : Option FieldType} {lk : List Cond} {t : List am_row} {Rr : am_R}
variable {i pc len k1 k2 k3 d : Nat} {v : Int32} {sw : List (Int32 × Nat)} {lo : am_L} {st : List Value} {mi : am_MI} {ml : am_ML}
set_option maxHeartbeats 4000000 in
theorem am_stp (F : am_fr p s m args meth c G y bc nL rt lk) (hR : am_rok Rm d cs ss) (IH : am_ih l G d) {ins : Instr} (hc : am_chk y bc nL rt lk t i (pc, ins, len, k1, k2, k3, v, sw) = true) (hi : am_pcs t i = pc)
    (hret : am_isret ins = true → (am_mo p l e Rm s m args below meth c cs ss Q G nL t) i lo st mi ml)
    (h : am_st (am_call d) (am_mo p l e Rm s m args below meth c cs ss Q G nL t) Rr ins k1 k2 k3 v sw i lo st mi ml) : (am_mo p l e Rm s m args below meth c cs ss Q G nL t) i lo st mi ml := by
  unfold am_st at h
  split at h
  · exact am_s_aload F hc hi h
  · exact am_s_aload_n F hc hi h
  · exact am_s_iload F hc hi h
  · exact am_s_iload_n F hc hi h
  · exact am_s_lload F hc hi h
  · exact am_s_lload_n F hc hi h
  · exact am_s_astore F hc hi h
  · exact am_s_astore_n F hc hi h
  · exact am_s_istore F hc hi h
  · exact am_s_istore_n F hc hi h
  · exact am_s_lstore F hc hi h
  · exact am_s_lstore_n F hc hi h
  · exact am_s_iinc F hc hi h
  · exact am_s_iconst F hc hi h
  · exact am_s_bipush F hc hi h
  · exact am_s_sipush F hc hi h
  · exact am_s_ldc (cl := am_call d) (Rr := Rr) F hc hi h
  · exact am_s_ldc_w F hc hi h
  · exact am_s_ldc2_w F hc hi h
  · exact am_s_lconst F hc hi h
  · exact am_s_dup F hc hi h
  · exact am_s_dup_x1 F hc hi h
  · exact am_s_dup2 F hc hi h
  · exact am_s_pop F hc hi h
  · exact am_s_iadd F hc hi h
  · exact am_s_isub F hc hi h
  · exact am_s_imul F hc hi h
  · exact am_s_idiv F hc hi h
  · exact am_s_irem F hc hi h
  · exact am_s_iand F hc hi h
  · exact am_s_ior F hc hi h
  · exact am_s_ixor F hc hi h
  · exact am_s_ishl F hc hi h
  · exact am_s_ishr F hc hi h
  · exact am_s_iushr F hc hi h
  · exact am_s_ineg F hc hi h
  · exact am_s_i2b F hc hi h
  · exact am_s_i2s F hc hi h
  · exact am_s_i2c F hc hi h
  · exact am_s_i2l (cl := am_call d) (Rr := Rr) F hc hi h
  · exact am_s_l2i (cl := am_call d) (Rr := Rr) F hc hi h
  · exact am_s_ladd F hc hi h
  · exact am_s_lmul F hc hi h
  · exact am_s_land F hc hi h
  · exact am_s_lor F hc hi h
  · exact am_s_lshl (cl := am_call d) (Rr := Rr) F hc hi h
  · exact am_s_lcmp (cl := am_call d) (Rr := Rr) F hc hi h
  · exact am_s_goto F hc hi h
  · exact am_s_if_eq F hc hi h
  · exact am_s_if_ne F hc hi h
  · exact am_s_if_lt F hc hi h
  · exact am_s_if_ge F hc hi h
  · exact am_s_if_gt F hc hi h
  · exact am_s_if_le F hc hi h
  · exact am_s_icmp_eq F hc hi h
  · exact am_s_icmp_ne F hc hi h
  · exact am_s_icmp_lt F hc hi h
  · exact am_s_icmp_ge F hc hi h
  · exact am_s_icmp_gt F hc hi h
  · exact am_s_icmp_le F hc hi h
  · exact am_s_tableswitch F hc hi h
  · exact am_s_lookupswitch F hc hi h
  · exact am_s_getfield F hc hi h
  · exact am_s_putfield F hc hi h
  · exact am_s_getstatic (cl := am_call d) (Rr := Rr) F hc hi h
  · exact am_s_iaload F hc hi h
  · exact am_s_baload F hc hi h
  · exact am_s_iastore F hc hi h
  · exact am_s_laload F hc hi h
  · exact am_s_lastore F hc hi h
  · exact am_s_aaload F hc hi h
  · exact am_s_arraylength F hc hi h
  · exact am_s_invokevirtual F hR IH (am_need_e h).1 hc hi (am_need_e h).2
  · exact am_s_invokestatic F hR IH hc hi h
  · exact hret rfl
  · exact hret rfl
  · exact hret rfl
  · exact hret rfl
  · exact h.elim
theorem am_chks_at : ∀ {rs : List am_row} {i0 : Nat}, am_chks y bc nL rt lk t i0 rs = true → ∀ (j : Nat) (r : am_row), rs[j]? = some r → am_chk y bc nL rt lk t (i0 + j) r = true
  | [], _, _, j, r, h => by simp at h
  | a :: rs, i0, hc, 0, r, h => by
    cases h
    unfold am_chks at hc
    simp only [Bool.and_eq_true] at hc
    exact hc.1
  | a :: rs, i0, hc, j + 1, r, h => by
    unfold am_chks at hc
    simp only [Bool.and_eq_true] at hc
    have z := am_chks_at hc.2 j r h
    rw [Nat.add_assoc, Nat.add_comm 1 j] at z
    exact z
end AMZ
theorem am_sound (l : Launch) (G : am_G) : ∀ d, am_ih l G d
  | 0 => fun f args mi ml R _ h => h.elim
  | d + 1 => fun f args mi ml R hf h => by
    have IH := am_sound l G d
    obtain ⟨hcat, hwp⟩ := h
    have w1 := (am_f_c hf).1
    have hok := am_okt_all hf
    have hok : (am_chks (am_m f).1 (am_m f).2.1 (am_m f).2.2.1 (am_m f).2.2.2.1 (am_lks (am_m f).2.2.2.2.2.2) (am_tab f) 0 (am_tab f) && am_pcs (am_tab f) 0 == 0) = true := hok
    simp only [Bool.and_eq_true, beq_iff_eq] at hok
    obtain ⟨hok, h0⟩ := hok
    refine Met.ofW (cc := (am_m f).2.1) (maxL := (am_m f).2.2.1) (ret := (am_m f).2.2.2.1) w1 rfl ?_
    intro p e s m args2 below meth c s1 B hml hv
    obtain ⟨rfl, g2, hK, hX⟩ := hv
    have F : am_fr p s m (args.map (am_tv G)).toArray meth c G (am_m f).1 (am_m f).2.1 (am_m f).2.2.1 (am_m f).2.2.2.1 (am_lks (am_m f).2.2.2.2.2.2) :=
      ⟨B.exec, B.bytes, hml, B.returns, B.notSynchronized, fun w hw => atoms_spec (ws := am_ws f) B.pre w (List.mem_cons_of_mem _ hw), am_lks_in _, findClass_of_methodNamed B.named, hK, hX⟩
    rw [lg_entry_eq]
    have z := hwp (am_mo p l e (headSpec (am_ws f) (am_room (d + 1))).room s m (args.map (am_tv G)).toArray below meth c 0 0 (MQ below (am_Q G R) (args.map (am_tv G)).toArray s 0 0 (am_A G)) G (am_m f).2.2.1 (am_tab f))
      (fun i lo st mi ml h => by
        unfold am_ex at h
        split at h
        · rename_i pc ins len k1 k2 k3 v sw er
          have hc := am_chks_at hok i _ er
          rw [Nat.zero_add] at hc
          have hi : am_pcs (am_tab f) i = pc := by
            unfold am_pcs
            rw [er]
          refine am_stp F ⟨Nat.le_refl _, Nat.le_refl _, Nat.le_refl _, Nat.le_refl _⟩ IH hc hi (fun hr => ?_) h
          unfold am_isret at hr
          split at hr
          · exact am_s_ireturn (cl := am_call d) F hc hi h
          · exact am_s_lreturn (cl := am_call d) F hc hi h
          · exact am_s_areturn (cl := am_call d) F hc hi h
          · exact am_s_return (cl := am_call d) F hc hi h
          · cases hr
        · exact h.elim)
      (fun i lo lo2 st mi ml hle h ls H locs g1 g2 g3 => h ls H locs (am_lv_le hle g1) g2 g3)
      _ _ [] (am_lv_in hcat) g2 va_S.rf
    rw [h0] at z
    exact z
end
section
/-! many rows at once: up to the rows where one stops -/
def am_msk : List Bool → am_L → am_L
  | [], l => l
  | _ :: _, [] => []
  | true :: m, a :: l => a :: am_msk m l
  | false :: m, _ :: l => none :: am_msk m l
theorem am_msk_le : ∀ (m : List Bool) (l : am_L), am_le (am_msk m l) l
  | [], [] => trivial
  | [], none :: l => am_msk_le [] l
  | [], some _ :: l => ⟨rfl, am_msk_le [] l⟩
  | _ :: _, [] => trivial
  | true :: m, none :: l => am_msk_le m l
  | true :: m, some _ :: l => ⟨rfl, am_msk_le m l⟩
  | false :: m, _ :: l => am_msk_le m l
def am_go (c : am_C) (t : List am_row) (R : am_R) (stop : List (Nat × List Bool)) : Nat → am_K
  | 0 => am_wp c t R
  | n + 1 => am_ex c t (fun i lo st mi ml => match stop.lookup i with
    | some m => am_wp c t R i (am_msk m lo) st mi ml
    | none => am_go c t R stop n i lo st mi ml) R
theorem am_go_i {c : am_C} (hc : am_leC c c) {t : List am_row} {R : am_R} {stop : List (Nat × List Bool)} : ∀ (n : Nat) {i : Nat} {lo : am_L} {st : List Value} {mi : am_MI} {ml : am_ML}, am_go c t R stop n i lo st mi ml → am_wp c t R i lo st mi ml
  | 0, _, _, _, _, _, h => h
  | n + 1, _, _, _, _, _, h => am_wp_i hc (am_ex_m (fun i lo st mi ml h => by
      split at h
      · exact am_wp_l (am_msk_le _ _) h
      · exact am_go_i hc n h) hc (fun _ _ _ h => h) h)
theorem am_bk {d : Nat} {t : List am_row} {R : am_R} (stop : List (Nat × List Bool)) (n : Nat) {i : Nat} {lo : am_L} {st : List Value} {mi : am_MI} {ml : am_ML} (h : am_go (am_call d) t R stop n i lo st mi ml) : am_wp (am_call d) t R i lo st mi ml := am_go_i (am_call_c d) n h
theorem am_rv_i {k : am_MI → am_ML → Prop} {mi ml} (h : k mi ml) : am_rv k none mi ml := ⟨rfl, h⟩
theorem am_ri_i {k : Int32 → am_MI → am_ML → Prop} {x mi ml} (h : k x mi ml) : am_ri k (some (.int x)) mi ml := ⟨x, rfl, h⟩
theorem am_rj_i {k : Int64 → am_MI → am_ML → Prop} {x mi ml} (h : k x mi ml) : am_rj k (some (.long x)) mi ml := ⟨x, rfl, h⟩
theorem am_rr_i {k : Nat → am_MI → am_ML → Prop} {x mi ml} (h : k x mi ml) : am_rr k (some (.ref x)) mi ml := ⟨x, rfl, h⟩
theorem am_call_t {d : Nat} {f : Nat} {t : List am_row} {n : Nat} {args : List Value} {lo : am_L} {mi : am_MI} {ml : am_ML} {R : am_R} (ht : am_tab f = t) (hn : (am_m f).2.2.1 = n) (hc : Nat.ble (am_cat args) n = true) (hi : am_in n args = lo) (h : am_wp (am_call d) t R 0 lo [] mi ml) : am_call (d + 1) f args mi ml R := by
  subst ht
  subst hn
  subst hi
  exact am_call_i (Nat.le_of_ble_eq_true hc) h
end
section
/-! block lemmas of methods 0 to 29 -/
set_option maxRecDepth 100000 in
/-- Calendar.hasDoor I -/
theorem bk_0 {d : Nat} {R : am_R} {a : Int32} {mi : am_MI} {ml : am_ML} (h : ((a < 0 → (((0 : Int32) = 0 ∨ (0 : Int32) = 1) ∧ R (some (.int (0 : Int32))) mi ml)) ∧ (¬ (a < 0) → (((mi 1 1) ≤ a → (((0 : Int32) = 0 ∨ (0 : Int32) = 1) ∧ R (some (.int (0 : Int32))) mi ml)) ∧ (¬ ((mi 1 1) ≤ a) → (((1 : Int32) = 0 ∨ (1 : Int32) = 1) ∧ R (some (.int (1 : Int32))) mi ml)))))) :
    am_call (d + 1) 0 [.ref 1, .int a] mi ml R := am_call_t (t := mt_0) (n := 2) rfl rfl rfl rfl (am_bk [] 9 h)
set_option maxRecDepth 100000 in
/-- Calendar.hasChild I -/
theorem bk_1 {d : Nat} {R : am_R} {a : Int32} {mi : am_MI} {ml : am_ML} (h : ((a < 0 → (((0 : Int32) = 0 ∨ (0 : Int32) = 1) ∧ R (some (.int (0 : Int32))) mi ml)) ∧ (¬ (a < 0) → (((mi 1 2) ≤ a → (((0 : Int32) = 0 ∨ (0 : Int32) = 1) ∧ R (some (.int (0 : Int32))) mi ml)) ∧ (¬ ((mi 1 2) ≤ a) → (((1 : Int32) = 0 ∨ (1 : Int32) = 1) ∧ R (some (.int (1 : Int32))) mi ml)))))) :
    am_call (d + 1) 1 [.ref 1, .int a] mi ml R := am_call_t (t := mt_1) (n := 2) rfl rfl rfl rfl (am_bk [] 9 h)
set_option maxRecDepth 100000 in
/-- Calendar.has I I -/
theorem bk_2 {d : Nat} {R : am_R} {a : Int32} {b : Int32} {mi : am_MI} {ml : am_ML} (h : ((a < 0 → (((0 : Int32) = 0 ∨ (0 : Int32) = 1) ∧ R (some (.int (0 : Int32))) mi ml)) ∧ (¬ (a < 0) → ((a ≤ (9 : Int32) → (((2 : Int32) < a → (((7 : Int32) < a → ((b ≠ 0 → (((0 : Int32) = 0 ∨ (0 : Int32) = 1) ∧ R (some (.int (0 : Int32))) mi ml)) ∧ (¬ (b ≠ 0) → (((1 : Int32) = 0 ∨ (1 : Int32) = 1) ∧ R (some (.int (1 : Int32))) mi ml)))) ∧ (¬ ((7 : Int32) < a) → am_call d 1 [.ref 1, .int b] mi ml (am_ri fun r1 mi1 ml1 => ((r1 = 0 ∨ r1 = 1) ∧ R (some (.int r1)) mi1 ml1))))) ∧ (¬ ((2 : Int32) < a) → am_call d 0 [.ref 1, .int b] mi ml (am_ri fun r2 mi2 ml2 => ((r2 = 0 ∨ r2 = 1) ∧ R (some (.int r2)) mi2 ml2))))) ∧ (¬ (a ≤ (9 : Int32)) → (((0 : Int32) = 0 ∨ (0 : Int32) = 1) ∧ R (some (.int (0 : Int32))) mi ml)))))) :
    am_call (d + 1) 2 [.ref 1, .int a, .int b] mi ml R := am_call_t (t := mt_2) (n := 3) rfl rfl rfl rfl (am_bk [] 16 h)
set_option maxRecDepth 100000 in
/-- Calendar.fits I I -/
theorem bk_3 {d : Nat} {R : am_R} {a : Int32} {b : Int32} {mi : am_MI} {ml : am_ML} (h : ((a < 0 → (((0 : Int32) = 0 ∨ (0 : Int32) = 1) ∧ R (some (.int (0 : Int32))) mi ml)) ∧ (¬ (a < 0) → (((9 : Int32) < a → (((0 : Int32) = 0 ∨ (0 : Int32) = 1) ∧ R (some (.int (0 : Int32))) mi ml)) ∧ (¬ ((9 : Int32) < a) → (vp_in a 10 ∧ ((b < (mi 114 a.toNatClampNeg) → (((0 : Int32) = 0 ∨ (0 : Int32) = 1) ∧ R (some (.int (0 : Int32))) mi ml)) ∧ (¬ (b < (mi 114 a.toNatClampNeg)) → (vp_in a 10 ∧ (((mi 115 a.toNatClampNeg) < b → (((0 : Int32) = 0 ∨ (0 : Int32) = 1) ∧ R (some (.int (0 : Int32))) mi ml)) ∧ (¬ ((mi 115 a.toNatClampNeg) < b) → (((1 : Int32) = 0 ∨ (1 : Int32) = 1) ∧ R (some (.int (1 : Int32))) mi ml)))))))))))) :
    am_call (d + 1) 3 [.ref 1, .int a, .int b] mi ml R := am_call_t (t := mt_3) (n := 3) rfl rfl rfl rfl (am_bk [] 18 h)
set_option maxRecDepth 100000 in
/-- Calendar.get I I -/
theorem bk_4 {d : Nat} {R : am_R} {a : Int32} {b : Int32} {mi : am_MI} {ml : am_ML} (h : ((a < 0 → R (some (.int (0 : Int32))) mi ml) ∧ (¬ (a < 0) → (((9 : Int32) < a → R (some (.int (0 : Int32))) mi ml) ∧ (¬ ((9 : Int32) < a) → ((b < 0 → R (some (.int (0 : Int32))) mi ml) ∧ (¬ (b < 0) → ((b < (12 : Int32) → (vp_in a 10 ∧ am_need (am_kd (3 + 1 * a.toNatClampNeg) == 2 || am_kd (3 + 1 * a.toNatClampNeg) == 5 || am_kd (3 + 1 * a.toNatClampNeg) == 6 || am_kd (3 + 1 * a.toNatClampNeg) == 10) (vp_in b (am_len mi (3 + 1 * a.toNatClampNeg)) ∧ R (some (.int (mi (3 + 1 * a.toNatClampNeg) b.toNatClampNeg))) mi ml))) ∧ (¬ (b < (12 : Int32)) → R (some (.int (0 : Int32))) mi ml))))))))) :
    am_call (d + 1) 4 [.ref 1, .int a, .int b] mi ml R := am_call_t (t := mt_4) (n := 3) rfl rfl rfl rfl (am_bk [] 17 h)
set_option maxRecDepth 100000 in
/-- Calendar.set I I I -/
theorem bk_5 {d : Nat} {R : am_R} {a : Int32} {b : Int32} {x : Int32} {mi : am_MI} {ml : am_ML} (h : am_call d 2 [.ref 1, .int a, .int b] mi ml (am_ri fun r1 mi1 ml1 => ((r1 = 0 → R none mi1 ml1) ∧ (¬ (r1 = 0) → (vp_in a 10 ∧ am_need (am_kd (3 + 1 * a.toNatClampNeg) == 2 || am_kd (3 + 1 * a.toNatClampNeg) == 10) (vp_in b (am_len mi1 (3 + 1 * a.toNatClampNeg)) ∧ R none (am_ui (am_ui mi1 (3 + 1 * a.toNatClampNeg) b.toNatClampNeg x) 1 3 (((am_ui mi1 (3 + 1 * a.toNatClampNeg) b.toNatClampNeg x) 1 3) + (1 : Int32))) ml1)))))) :
    am_call (d + 1) 5 [.ref 1, .int a, .int b, .int x] mi ml R := am_call_t (t := mt_5) (n := 4) rfl rfl rfl rfl (am_bk [] 19 h)
set_option maxRecDepth 100000 in
/-- Calendar.addDoor I I I -/
theorem bk_6 {d : Nat} {R : am_R} {a : Int32} {b : Int32} {x : Int32} {mi : am_MI} {ml : am_ML} (h : (((mi 1 1) < (12 : Int32) → am_call d 5 [.ref 1, .int (0 : Int32), .int (((mi 1 1) + (1 : Int32)) - (1 : Int32)), .int a] (am_ui mi 1 1 ((mi 1 1) + (1 : Int32))) ml (am_rv fun mi1 ml1 => am_call d 5 [.ref 1, .int (1 : Int32), .int ((mi1 1 1) - (1 : Int32)), .int b] mi1 ml1 (am_rv fun mi2 ml2 => am_call d 5 [.ref 1, .int (2 : Int32), .int ((mi2 1 1) - (1 : Int32)), .int x] mi2 ml2 (am_rv fun mi3 ml3 => (((1 : Int32) = 0 ∨ (1 : Int32) = 1) ∧ R (some (.int (1 : Int32))) mi3 ml3))))) ∧ (¬ ((mi 1 1) < (12 : Int32)) → (((0 : Int32) = 0 ∨ (0 : Int32) = 1) ∧ R (some (.int (0 : Int32))) mi ml)))) :
    am_call (d + 1) 6 [.ref 1, .int a, .int b, .int x] mi ml R := am_call_t (t := mt_6) (n := 4) rfl rfl rfl rfl (am_bk [] 36 h)
set_option maxRecDepth 100000 in
/-- Calendar.addChild I I -/
theorem bk_7 {d : Nat} {R : am_R} {a : Int32} {b : Int32} {mi : am_MI} {ml : am_ML} (h : (((mi 1 2) < (5 : Int32) → am_call d 5 [.ref 1, .int (3 : Int32), .int (((mi 1 2) + (1 : Int32)) - (1 : Int32)), .int a] (am_ui mi 1 2 ((mi 1 2) + (1 : Int32))) ml (am_rv fun mi1 ml1 => am_call d 5 [.ref 1, .int (4 : Int32), .int ((mi1 1 2) - (1 : Int32)), .int b] mi1 ml1 (am_rv fun mi2 ml2 => am_call d 5 [.ref 1, .int (5 : Int32), .int ((mi2 1 2) - (1 : Int32)), .int (5 : Int32)] mi2 ml2 (am_rv fun mi3 ml3 => (((1 : Int32) = 0 ∨ (1 : Int32) = 1) ∧ R (some (.int (1 : Int32))) mi3 ml3))))) ∧ (¬ ((mi 1 2) < (5 : Int32)) → (((0 : Int32) = 0 ∨ (0 : Int32) = 1) ∧ R (some (.int (0 : Int32))) mi ml)))) :
    am_call (d + 1) 7 [.ref 1, .int a, .int b] mi ml R := am_call_t (t := mt_7) (n := 3) rfl rfl rfl rfl (am_bk [] 36 h)
set_option maxRecDepth 100000 in
/-- Calendar.isAway I I -/
theorem bk_8 {d : Nat} {R : am_R} {a : Int32} {b : Int32} {mi : am_MI} {ml : am_ML} (h : am_call d 4 [.ref 1, .int (6 : Int32), .int a] mi ml (am_ri fun r1 mi1 ml1 => ((r1 = 0 → (((0 : Int32) = 0 ∨ (0 : Int32) = 1) ∧ R (some (.int (0 : Int32))) mi1 ml1)) ∧ (¬ (r1 = 0) → ((b < r1 → (((0 : Int32) = 0 ∨ (0 : Int32) = 1) ∧ R (some (.int (0 : Int32))) mi1 ml1)) ∧ (¬ (b < r1) → am_call d 4 [.ref 1, .int (7 : Int32), .int a] mi1 ml1 (am_ri fun r2 mi2 ml2 => ((r2 < b → (((0 : Int32) = 0 ∨ (0 : Int32) = 1) ∧ R (some (.int (0 : Int32))) mi2 ml2)) ∧ (¬ (r2 < b) → (((1 : Int32) = 0 ∨ (1 : Int32) = 1) ∧ R (some (.int (1 : Int32))) mi2 ml2)))))))))) :
    am_call (d + 1) 8 [.ref 1, .int a, .int b] mi ml R := am_call_t (t := mt_8) (n := 4) rfl rfl rfl rfl (am_bk [] 19 h)
set_option maxRecDepth 100000 in
/-- Calendar.late I I -/
theorem bk_9 {d : Nat} {R : am_R} {a : Int32} {b : Int32} {mi : am_MI} {ml : am_ML} (h : am_call d 4 [.ref 1, .int (0 : Int32), .int b] mi ml (am_ri fun r1 mi1 ml1 => am_call d 8 [.ref 1, .int a, .int r1] mi1 ml1 (am_ri fun r2 mi2 ml2 => ((r2 ≠ 0 → am_call d 4 [.ref 1, .int (7 : Int32), .int a] mi2 ml2 (am_ri fun r3 mi3 ml3 => (((24 : Int32) < (r3 + (1 : Int32)) → R (some (.int (-1 : Int32))) mi3 ml3) ∧ (¬ ((24 : Int32) < (r3 + (1 : Int32))) → R (some (.int ((r3 + (1 : Int32)) - r1))) mi3 ml3)))) ∧ (¬ (r2 ≠ 0) → R (some (.int (0 : Int32))) mi2 ml2))))) :
    am_call (d + 1) 9 [.ref 1, .int a, .int b] mi ml R := am_call_t (t := mt_9) (n := 5) rfl rfl rfl rfl (am_bk [] 25 h)
set_option maxRecDepth 100000 in
/-- Calendar.doorsAway I -/
theorem bk_10 {d : Nat} {R : am_R} {a : Int32} {mi : am_MI} {ml : am_ML} (h : am_wp (am_call d) mt_10 R 4 [some (.ref 1), some (.int a), some (.int (0 : Int32)), some (.int (0 : Int32))] [] mi ml) :
    am_call (d + 1) 10 [.ref 1, .int a] mi ml R := am_call_t (t := mt_10) (n := 4) rfl rfl rfl rfl (am_bk [(4, [true, true, true, true])] 5 h)
set_option maxRecDepth 100000 in
theorem bk_10_4 {d : Nat} {R : am_R} {l1 : Int32} {l2 : Int32} {l3 : Int32} {mi : am_MI} {ml : am_ML} (h : (((mi 1 1) ≤ l3 → R (some (.int l2)) mi ml) ∧ (¬ ((mi 1 1) ≤ l3) → am_call d 4 [.ref 1, .int (0 : Int32), .int l3] mi ml (am_ri fun r1 mi1 ml1 => am_call d 8 [.ref 1, .int l1, .int r1] mi1 ml1 (am_ri fun r2 mi2 ml2 => ((r2 = 0 → am_wp (am_call d) mt_10 R 4 [some (.ref 1), some (.int l1), some (.int l2), some (.int (l3 + 1))] [] mi2 ml2) ∧ (¬ (r2 = 0) → am_wp (am_call d) mt_10 R 4 [some (.ref 1), some (.int l1), some (.int (l2 + 1)), some (.int (l3 + 1))] [] mi2 ml2))))))) :
    am_wp (am_call d) mt_10 R 4 [some (.ref 1), some (.int l1), some (.int l2), some (.int l3)] [] mi ml := am_bk [(4, [true, true, true, true])] 16 h
set_option maxRecDepth 100000 in
/-- Calendar.holdsOutTill I -/
theorem bk_11 {d : Nat} {R : am_R} {a : Int32} {mi : am_MI} {ml : am_ML} (h : am_call d 4 [.ref 1, .int (8 : Int32), .int (0 : Int32)] mi ml (am_ri fun r1 mi1 ml1 => ((r1 ≠ 0 → am_call d 4 [.ref 1, .int (5 : Int32), .int a] mi1 ml1 (am_ri fun r2 mi2 ml2 => R (some (.int (am_min ((r2 * (3 : Int32)) + (0 : Int32)) (24 : Int32)))) mi2 ml2)) ∧ (¬ (r1 ≠ 0) → am_call d 4 [.ref 1, .int (5 : Int32), .int a] mi1 ml1 (am_ri fun r3 mi3 ml3 => R (some (.int (am_min ((r3 * (3 : Int32)) + (2 : Int32)) (24 : Int32)))) mi3 ml3))))) :
    am_call (d + 1) 11 [.ref 1, .int a] mi ml R := am_call_t (t := mt_11) (n := 3) rfl rfl rfl rfl (am_bk [] 19 h)
set_option maxRecDepth 100000 in
/-- Changes.keepChange I I I I -/
theorem bk_12 {d : Nat} {R : am_R} {a : Int32} {b : Int32} {x : Int32} {y : Int32} {mi : am_MI} {ml : am_ML} (h : (((mi 13 1) < (40 : Int32) → (vp_in ((mi 13 1) * (4 : Int32)) 160 ∧ (vp_in (((mi 13 1) * (4 : Int32)) + (1 : Int32)) 160 ∧ (vp_in (((mi 13 1) * (4 : Int32)) + (2 : Int32)) 160 ∧ (vp_in (((mi 13 1) * (4 : Int32)) + (3 : Int32)) 160 ∧ R none (am_ui (am_ui (am_ui (am_ui (am_ui (am_ui mi 14 ((mi 13 1) * (4 : Int32)).toNatClampNeg a) 14 (((mi 13 1) * (4 : Int32)) + (1 : Int32)).toNatClampNeg b) 14 (((mi 13 1) * (4 : Int32)) + (2 : Int32)).toNatClampNeg x) 14 (((mi 13 1) * (4 : Int32)) + (3 : Int32)).toNatClampNeg y) 13 1 ((mi 13 1) + (1 : Int32))) 13 2 (0 : Int32)) ml))))) ∧ (¬ ((mi 13 1) < (40 : Int32)) → (¬ (4 : Int32) < 0 ∧ ¬ (0 : Int32) < 0 ∧ ¬ (156 : Int32) < 0 ∧ (4 : Int32).toNatClampNeg + (156 : Int32).toNatClampNeg ≤ 160 ∧ (0 : Int32).toNatClampNeg + (156 : Int32).toNatClampNeg ≤ 160 ∧ (vp_in ((39 : Int32) * (4 : Int32)) 160 ∧ (vp_in (((39 : Int32) * (4 : Int32)) + (1 : Int32)) 160 ∧ (vp_in (((39 : Int32) * (4 : Int32)) + (2 : Int32)) 160 ∧ (vp_in (((39 : Int32) * (4 : Int32)) + (3 : Int32)) 160 ∧ R none (am_ui (am_ui (am_ui (am_ui (am_ui (am_ui (am_ui (am_ci mi 14 (4 : Int32).toNatClampNeg 14 (0 : Int32).toNatClampNeg (156 : Int32).toNatClampNeg) 13 1 (39 : Int32)) 14 ((39 : Int32) * (4 : Int32)).toNatClampNeg a) 14 (((39 : Int32) * (4 : Int32)) + (1 : Int32)).toNatClampNeg b) 14 (((39 : Int32) * (4 : Int32)) + (2 : Int32)).toNatClampNeg x) 14 (((39 : Int32) * (4 : Int32)) + (3 : Int32)).toNatClampNeg y) 13 1 ((39 : Int32) + (1 : Int32))) 13 2 (0 : Int32)) ml)))))))) :
    am_call (d + 1) 12 [.ref 13, .int a, .int b, .int x, .int y] mi ml R := am_call_t (t := mt_12) (n := 6) rfl rfl rfl rfl (am_bk [] 56 h)
set_option maxRecDepth 100000 in
/-- Changes.takeBack LDoorsForThree$Calendar; -/
theorem bk_13 {d : Nat} {R : am_R} {mi : am_MI} {ml : am_ML} (h : ((0 < (mi 13 1) → (vp_in ((((mi 13 1) - (1 : Int32)) * (4 : Int32)) + (1 : Int32)) 160 ∧ (vp_in (((mi 13 1) - (1 : Int32)) * (4 : Int32)) 160 ∧ (vp_in ((((mi 13 1) - (1 : Int32)) * (4 : Int32)) + (2 : Int32)) 160 ∧ am_call d 5 [.ref 1, .int (mi 14 ((((mi 13 1) - (1 : Int32)) * (4 : Int32)) + (1 : Int32)).toNatClampNeg), .int (mi 14 (((mi 13 1) - (1 : Int32)) * (4 : Int32)).toNatClampNeg), .int (mi 14 ((((mi 13 1) - (1 : Int32)) * (4 : Int32)) + (2 : Int32)).toNatClampNeg)] (am_ui (am_ui mi 13 1 ((mi 13 1) - (1 : Int32))) 13 2 ((mi 13 2) + (1 : Int32))) ml (am_rv fun mi1 ml1 => (((1 : Int32) = 0 ∨ (1 : Int32) = 1) ∧ R (some (.int (1 : Int32))) mi1 ml1)))))) ∧ (¬ (0 < (mi 13 1)) → (((0 : Int32) = 0 ∨ (0 : Int32) = 1) ∧ R (some (.int (0 : Int32))) mi ml)))) :
    am_call (d + 1) 13 [.ref 13, .ref 1] mi ml R := am_call_t (t := mt_13) (n := 3) rfl rfl rfl rfl (am_bk [] 40 h)
set_option maxRecDepth 100000 in
/-- Deeds.opener I -/
theorem bk_15 {d : Nat} {R : am_R} {a : Int32} {mi : am_MI} {ml : am_ML} (h : ((a < 0 → R (some (.int (-2 : Int32))) mi ml) ∧ (¬ (a < 0) → (((Int32.ofNat 12) ≤ a → R (some (.int (-2 : Int32))) mi ml) ∧ (¬ ((Int32.ofNat 12) ≤ a) → (vp_in a 12 ∧ R (some (.int (mi 60 a.toNatClampNeg))) mi ml)))))) :
    am_call (d + 1) 15 [.ref 59, .int a] mi ml R := am_call_t (t := mt_15) (n := 2) rfl rfl rfl rfl (am_bk [] 13 h)
set_option maxRecDepth 100000 in
/-- Deeds.dayPasses  -/
theorem bk_16 {d : Nat} {R : am_R} {mi : am_MI} {ml : am_ML} (h : (((mi 59 2) < (24 : Int32) → (((1 : Int32) = 0 ∨ (1 : Int32) = 1) ∧ R (some (.int (1 : Int32))) (am_ui mi 59 2 ((mi 59 2) + (1 : Int32))) ml)) ∧ (¬ ((mi 59 2) < (24 : Int32)) → (((0 : Int32) = 0 ∨ (0 : Int32) = 1) ∧ R (some (.int (0 : Int32))) mi ml)))) :
    am_call (d + 1) 16 [.ref 59] mi ml R := am_call_t (t := mt_16) (n := 1) rfl rfl rfl rfl (am_bk [] 12 h)
set_option maxRecDepth 100000 in
/-- Deeds.lateFor I -/
theorem bk_17 {d : Nat} {R : am_R} {a : Int32} {mi : am_MI} {ml : am_ML} (h : am_call d 4 [.ref 1, .int (0 : Int32), .int a] mi ml (am_ri fun r1 mi1 ml1 => R (some (.int (am_max (0 : Int32) ((mi 59 2) - r1)))) mi1 ml1)) :
    am_call (d + 1) 17 [.ref 59, .int a] mi ml R := am_call_t (t := mt_17) (n := 2) rfl rfl rfl rfl (am_bk [] 11 h)
set_option maxRecDepth 100000 in
/-- Deeds.openDoor I I I -/
theorem bk_18 {d : Nat} {R : am_R} {a : Int32} {b : Int32} {x : Int32} {mi : am_MI} {ml : am_ML} (h : ((b < 0 → R none mi ml) ∧ (¬ (b < 0) → ((b < (Int32.ofNat 12) → (vp_in b 12 ∧ am_call d 4 [.ref 1, .int (0 : Int32), .int b] (am_ui (am_ui (am_ui mi 60 b.toNatClampNeg a) 59 3 ((mi 59 3) + (1 : Int32))) 59 5 ((mi 59 5) + x)) ml (am_ri fun r1 mi1 ml1 => ((r1 ≤ (mi1 59 2) → R none mi1 ml1) ∧ (¬ (r1 ≤ (mi1 59 2)) → R none (am_ui mi1 59 4 ((mi1 59 4) + (1 : Int32))) ml1))))) ∧ (¬ (b < (Int32.ofNat 12)) → R none mi ml))))) :
    am_call (d + 1) 18 [.ref 59, .int a, .int b, .int x] mi ml R := am_call_t (t := mt_18) (n := 4) rfl rfl rfl rfl (am_bk [] 39 h)
set_option maxRecDepth 100000 in
/-- Deeds.closedBehind  -/
theorem bk_19 {d : Nat} {R : am_R} {mi : am_MI} {ml : am_ML} (h : am_wp (am_call d) mt_19 R 4 [some (.ref 59), some (.int (0 : Int32)), some (.int (0 : Int32))] [] mi ml) :
    am_call (d + 1) 19 [.ref 59] mi ml R := am_call_t (t := mt_19) (n := 3) rfl rfl rfl rfl (am_bk [(4, [true, true, true])] 5 h)
set_option maxRecDepth 100000 in
theorem bk_19_4 {d : Nat} {R : am_R} {l1 : Int32} {l2 : Int32} {mi : am_MI} {ml : am_ML} (h : (((mi 1 1) ≤ l2 → R (some (.int l1)) mi ml) ∧ (¬ ((mi 1 1) ≤ l2) → am_call d 15 [.ref 59, .int l2] mi ml (am_ri fun r1 mi1 ml1 => ((r1 ≠ (-2 : Int32) → am_wp (am_call d) mt_19 R 4 [some (.ref 59), some (.int l1), some (.int (l2 + 1))] [] mi1 ml1) ∧ (¬ (r1 ≠ (-2 : Int32)) → am_call d 4 [.ref 1, .int (0 : Int32), .int l2] mi1 ml1 (am_ri fun r2 mi2 ml2 => (((mi2 59 2) ≤ r2 → am_wp (am_call d) mt_19 R 4 [some (.ref 59), some (.int l1), some (.int (l2 + 1))] [] mi2 ml2) ∧ (¬ ((mi2 59 2) ≤ r2) → am_wp (am_call d) mt_19 R 4 [some (.ref 59), some (.int (l1 ||| (am_shl (1 : Int32) l2))), some (.int (l2 + 1))] [] mi2 ml2))))))))) :
    am_wp (am_call d) mt_19 R 4 [some (.ref 59), some (.int l1), some (.int l2)] [] mi ml := am_bk [(4, [true, true, true])] 27 h
set_option maxRecDepth 100000 in
/-- Deeds.keepImage  -/
theorem bk_20 {d : Nat} {R : am_R} {mi : am_MI} {ml : am_ML} (h : (¬ (0 : Int32) < 0 ∧ ¬ (0 : Int32) < 0 ∧ ¬ (Int32.ofNat 12) < 0 ∧ (0 : Int32).toNatClampNeg + (Int32.ofNat 12).toNatClampNeg ≤ 12 ∧ (0 : Int32).toNatClampNeg + (Int32.ofNat 12).toNatClampNeg ≤ 12 ∧ (((1 : Int32) = 0 ∨ (1 : Int32) = 1) ∧ R none (am_ui (am_ui (am_ui (am_ui (am_ui (am_ci mi 60 (0 : Int32).toNatClampNeg 61 (0 : Int32).toNatClampNeg (Int32.ofNat 12).toNatClampNeg) 59 8 (mi 59 2)) 59 9 (mi 59 3)) 59 10 (mi 59 4)) 59 11 (mi 59 5)) 59 6 (1 : Int32)) ml))) :
    am_call (d + 1) 20 [.ref 59] mi ml R := am_call_t (t := mt_20) (n := 1) rfl rfl rfl rfl (am_bk [] 30 h)
set_option maxRecDepth 100000 in
/-- Deeds.layBack  -/
theorem bk_21 {d : Nat} {R : am_R} {mi : am_MI} {ml : am_ML} (h : (((mi 59 6) ≠ 0 → (¬ (0 : Int32) < 0 ∧ ¬ (0 : Int32) < 0 ∧ ¬ (Int32.ofNat 12) < 0 ∧ (0 : Int32).toNatClampNeg + (Int32.ofNat 12).toNatClampNeg ≤ 12 ∧ (0 : Int32).toNatClampNeg + (Int32.ofNat 12).toNatClampNeg ≤ 12 ∧ (((1 : Int32) = 0 ∨ (1 : Int32) = 1) ∧ R (some (.int (1 : Int32))) (am_ui (am_ui (am_ui (am_ui (am_ci mi 61 (0 : Int32).toNatClampNeg 60 (0 : Int32).toNatClampNeg (Int32.ofNat 12).toNatClampNeg) 59 2 (mi 59 8)) 59 3 (mi 59 9)) 59 4 (mi 59 10)) 59 5 (mi 59 11)) ml))) ∧ (¬ ((mi 59 6) ≠ 0) → (((0 : Int32) = 0 ∨ (0 : Int32) = 1) ∧ R (some (.int (0 : Int32))) mi ml)))) :
    am_call (d + 1) 21 [.ref 59] mi ml R := am_call_t (t := mt_21) (n := 1) rfl rfl rfl rfl (am_bk [] 31 h)
set_option maxRecDepth 100000 in
/-- Fairest.isTooWide  -/
theorem bk_22 {d : Nat} {R : am_R} {mi : am_MI} {ml : am_ML} (h : (((8 : Int32) < (mi 1 1) → (((1 : Int32) = 0 ∨ (1 : Int32) = 1) ∧ R (some (.int (1 : Int32))) mi ml)) ∧ (¬ ((8 : Int32) < (mi 1 1)) → (((mi 1 2) ≤ (3 : Int32) → (((0 : Int32) = 0 ∨ (0 : Int32) = 1) ∧ R (some (.int (0 : Int32))) mi ml)) ∧ (¬ ((mi 1 2) ≤ (3 : Int32)) → (((1 : Int32) = 0 ∨ (1 : Int32) = 1) ∧ R (some (.int (1 : Int32))) mi ml)))))) :
    am_call (d + 1) 22 [.ref 47] mi ml R := am_call_t (t := mt_22) (n := 1) rfl rfl rfl rfl (am_bk [] 13 h)
set_option maxRecDepth 100000 in
/-- Fairest.owner I -/
theorem bk_23 {d : Nat} {R : am_R} {a : Int32} {mi : am_MI} {ml : am_ML} (h : ((a < 0 → R (some (.int (-2 : Int32))) mi ml) ∧ (¬ (a < 0) → (((8 : Int32) ≤ a → R (some (.int (-2 : Int32))) mi ml) ∧ (¬ ((8 : Int32) ≤ a) → (vp_in a 8 ∧ R (some (.int (mi 53 a.toNatClampNeg))) mi ml)))))) :
    am_call (d + 1) 23 [.ref 47, .int a] mi ml R := am_call_t (t := mt_23) (n := 2) rfl rfl rfl rfl (am_bk [] 11 h)
set_option maxRecDepth 100000 in
/-- Fairest.findOut  -/
theorem bk_24 {d : Nat} {R : am_R} {mi : am_MI} {ml : am_ML} (h : (((mi 47 2) = (mi 22 2) → R none mi ml) ∧ (¬ ((mi 47 2) = (mi 22 2)) → am_call d 22 [.ref 47] mi ml (am_ri fun r1 mi1 ml1 => ((r1 = 0 → am_call d 26 [.ref 47] (am_ui mi1 47 2 (mi1 22 2)) ml1 (am_rv fun mi2 ml2 => am_call d 25 [.ref 47] (am_ui (am_ui (am_ui mi2 47 7 (2147483647 : Int32)) 47 8 (0 : Int32)) 47 9 (0 : Int32)) ml2 (am_ri fun r3 mi3 ml3 => am_wp (am_call d) mt_24 R 31 [some (.ref 47), some (.int r3), some (.int (0 : Int32))] [] mi3 ml3))) ∧ (¬ (r1 = 0) → R none mi1 ml1)))))) :
    am_call (d + 1) 24 [.ref 47] mi ml R := am_call_t (t := mt_24) (n := 3) rfl rfl rfl rfl (am_bk [(31, [true, true, true])] 31 h)
set_option maxRecDepth 100000 in
theorem bk_24_31 {d : Nat} {R : am_R} {l1 : Int32} {l2 : Int32} {mi : am_MI} {ml : am_ML} (h : ((l1 ≤ l2 → R none mi ml) ∧ (¬ (l1 ≤ l2) → am_call d 27 [.ref 47] mi ml (am_rv fun mi1 ml1 => am_call d 28 [.ref 47] mi1 ml1 (am_rv fun mi2 ml2 => am_wp (am_call d) mt_24 R 31 [some (.ref 47), some (.int l1), some (.int (l2 + 1))] [] mi2 ml2))))) :
    am_wp (am_call d) mt_24 R 31 [some (.ref 47), some (.int l1), some (.int l2)] [] mi ml := am_bk [(31, [true, true, true])] 10 h
set_option maxRecDepth 100000 in
/-- Fairest.howMany  -/
theorem bk_25 {d : Nat} {R : am_R} {mi : am_MI} {ml : am_ML} (h : am_wp (am_call d) mt_25 R 4 [some (.ref 47), some (.int (1 : Int32)), some (.int (0 : Int32))] [] mi ml) :
    am_call (d + 1) 25 [.ref 47] mi ml R := am_call_t (t := mt_25) (n := 3) rfl rfl rfl rfl (am_bk [(4, [true, true, true])] 5 h)
set_option maxRecDepth 100000 in
theorem bk_25_4 {d : Nat} {R : am_R} {l1 : Int32} {l2 : Int32} {mi : am_MI} {ml : am_ML} (h : (((mi 1 1) ≤ l2 → R (some (.int l1)) mi ml) ∧ (¬ ((mi 1 1) ≤ l2) → am_wp (am_call d) mt_25 R 4 [some (.ref 47), some (.int (l1 * (mi 1 2))), some (.int (l2 + 1))] [] mi ml))) :
    am_wp (am_call d) mt_25 R 4 [some (.ref 47), some (.int l1), some (.int l2)] [] mi ml := am_bk [(4, [true, true, true])] 14 h
set_option maxRecDepth 100000 in
/-- Fairest.giveAllToFirst  -/
theorem bk_26 {d : Nat} {R : am_R} {mi : am_MI} {ml : am_ML} (h : am_call d 275 [.ref 52, .int (0 : Int32)] mi ml (am_rv fun mi1 ml1 => am_wp (am_call d) mt_26 R 6 [some (.ref 47), some (.int (0 : Int32)), none] [] mi1 ml1)) :
    am_call (d + 1) 26 [.ref 47] mi ml R := am_call_t (t := mt_26) (n := 3) rfl rfl rfl rfl (am_bk [(6, [true, true, false]), (19, [true, true, true])] 7 h)
set_option maxRecDepth 100000 in
theorem bk_26_6 {d : Nat} {R : am_R} {l1 : Int32} {mi : am_MI} {ml : am_ML} (h : (((mi 1 2) ≤ l1 → R none mi ml) ∧ (¬ ((mi 1 2) ≤ l1) → (vp_in l1 3 ∧ am_call d 275 [.ref (55 + 1 * l1.toNatClampNeg), .int (0 : Int32)] mi ml (am_rv fun mi1 ml1 => am_wp (am_call d) mt_26 R 19 [some (.ref 47), some (.int l1), some (.int (0 : Int32))] [] mi1 ml1))))) :
    am_wp (am_call d) mt_26 R 6 [some (.ref 47), some (.int l1), none] [] mi ml := am_bk [(6, [true, true, false]), (19, [true, true, true])] 14 h
set_option maxRecDepth 100000 in
theorem bk_26_19 {d : Nat} {R : am_R} {l1 : Int32} {l2 : Int32} {mi : am_MI} {ml : am_ML} (h : (((mi 1 1) ≤ l2 → am_wp (am_call d) mt_26 R 6 [some (.ref 47), some (.int (l1 + 1)), none] [] mi ml) ∧ (¬ ((mi 1 1) ≤ l2) → (vp_in l1 3 ∧ (vp_in l1 5 ∧ am_need (am_kd (26 + 1 * l1.toNatClampNeg) == 2 || am_kd (26 + 1 * l1.toNatClampNeg) == 5 || am_kd (26 + 1 * l1.toNatClampNeg) == 6 || am_kd (26 + 1 * l1.toNatClampNeg) == 10) (vp_in l2 (am_len mi (26 + 1 * l1.toNatClampNeg)) ∧ am_need (am_kd (49 + 1 * l1.toNatClampNeg) == 2 || am_kd (49 + 1 * l1.toNatClampNeg) == 10) (vp_in l2 (am_len mi (49 + 1 * l1.toNatClampNeg)) ∧ (vp_in l1 3 ∧ am_need (am_kd (55 + 1 * l1.toNatClampNeg) == 2 || am_kd (55 + 1 * l1.toNatClampNeg) == 5 || am_kd (55 + 1 * l1.toNatClampNeg) == 6 || am_kd (55 + 1 * l1.toNatClampNeg) == 10) (vp_in (0 : Int32) (am_len (am_ui mi (49 + 1 * l1.toNatClampNeg) l2.toNatClampNeg (mi (26 + 1 * l1.toNatClampNeg) l2.toNatClampNeg)) (55 + 1 * l1.toNatClampNeg)) ∧ (vp_in l1 3 ∧ am_need (am_kd (49 + 1 * l1.toNatClampNeg) == 2 || am_kd (49 + 1 * l1.toNatClampNeg) == 5 || am_kd (49 + 1 * l1.toNatClampNeg) == 6 || am_kd (49 + 1 * l1.toNatClampNeg) == 10) (vp_in l2 (am_len (am_ui mi (49 + 1 * l1.toNatClampNeg) l2.toNatClampNeg (mi (26 + 1 * l1.toNatClampNeg) l2.toNatClampNeg)) (49 + 1 * l1.toNatClampNeg)) ∧ am_need (am_kd (55 + 1 * l1.toNatClampNeg) == 2 || am_kd (55 + 1 * l1.toNatClampNeg) == 10) (vp_in (0 : Int32) (am_len (am_ui mi (49 + 1 * l1.toNatClampNeg) l2.toNatClampNeg (mi (26 + 1 * l1.toNatClampNeg) l2.toNatClampNeg)) (55 + 1 * l1.toNatClampNeg)) ∧ am_wp (am_call d) mt_26 R 19 [some (.ref 47), some (.int l1), some (.int (l2 + 1))] [] (am_ui (am_ui mi (49 + 1 * l1.toNatClampNeg) l2.toNatClampNeg (mi (26 + 1 * l1.toNatClampNeg) l2.toNatClampNeg)) (55 + 1 * l1.toNatClampNeg) (0 : Int32).toNatClampNeg (((am_ui mi (49 + 1 * l1.toNatClampNeg) l2.toNatClampNeg (mi (26 + 1 * l1.toNatClampNeg) l2.toNatClampNeg)) (55 + 1 * l1.toNatClampNeg) (0 : Int32).toNatClampNeg) + ((am_ui mi (49 + 1 * l1.toNatClampNeg) l2.toNatClampNeg (mi (26 + 1 * l1.toNatClampNeg) l2.toNatClampNeg)) (49 + 1 * l1.toNatClampNeg) l2.toNatClampNeg))) ml)))))))))))) :
    am_wp (am_call d) mt_26 R 19 [some (.ref 47), some (.int l1), some (.int l2)] [] mi ml := am_bk [(6, [true, true, false]), (19, [true, true, true])] 36 h
set_option maxRecDepth 100000 in
/-- Fairest.weigh  -/
theorem bk_27 {d : Nat} {R : am_R} {mi : am_MI} {ml : am_ML} (h : (vp_in (0 : Int32) 3 ∧ am_need (am_kd (55 + 1 * (0 : Int32).toNatClampNeg) == 2 || am_kd (55 + 1 * (0 : Int32).toNatClampNeg) == 5 || am_kd (55 + 1 * (0 : Int32).toNatClampNeg) == 6 || am_kd (55 + 1 * (0 : Int32).toNatClampNeg) == 10) (vp_in (0 : Int32) (am_len mi (55 + 1 * (0 : Int32).toNatClampNeg)) ∧ am_wp (am_call d) mt_27 R 15 [some (.ref 47), some (.int (mi (55 + 1 * (0 : Int32).toNatClampNeg) (0 : Int32).toNatClampNeg)), some (.int (mi (55 + 1 * (0 : Int32).toNatClampNeg) (0 : Int32).toNatClampNeg)), some (.int (0 : Int32)), some (.int (0 : Int32)), some (.int (0 : Int32)), none, none] [] mi ml))) :
    am_call (d + 1) 27 [.ref 47] mi ml R := am_call_t (t := mt_27) (n := 8) rfl rfl rfl rfl (am_bk [(15, [true, true, true, true, true, true, false, false]), (41, [true, true, true, true, true, true, true, true]), (58, [true, true, true, true, false, true, true, true]), (72, [true, true, true, true, false, false, false, false]), (88, [true, true, true, true, false, false, false, false]), (106, [false, false, false, false, false, false, false, false])] 16 h)
set_option maxRecDepth 100000 in
theorem bk_27_15 {d : Nat} {R : am_R} {l1 : Int32} {l2 : Int32} {l3 : Int32} {l4 : Int32} {l5 : Int32} {mi : am_MI} {ml : am_ML} (h : (((mi 1 2) ≤ l5 → ((l4 ≠ 0 → am_wp (am_call d) mt_27 R 72 [some (.ref 47), some (.int l1), some (.int l2), some (.int l3), none, none, none, none] [] mi ml) ∧ (¬ (l4 ≠ 0) → am_wp (am_call d) mt_27 R 72 [some (.ref 47), some (.int l1), some (.int l2), some (.int l3), none, none, none, none] [] (am_ui mi 47 9 ((mi 47 9) + (1 : Int32))) ml))) ∧ (¬ ((mi 1 2) ≤ l5) → (vp_in l5 3 ∧ am_need (am_kd (55 + 1 * l5.toNatClampNeg) == 2 || am_kd (55 + 1 * l5.toNatClampNeg) == 5 || am_kd (55 + 1 * l5.toNatClampNeg) == 6 || am_kd (55 + 1 * l5.toNatClampNeg) == 10) (vp_in l5 (am_len mi (55 + 1 * l5.toNatClampNeg)) ∧ am_wp (am_call d) mt_27 R 41 [some (.ref 47), some (.int (am_max l1 (mi (55 + 1 * l5.toNatClampNeg) l5.toNatClampNeg))), some (.int (am_min l2 (mi (55 + 1 * l5.toNatClampNeg) l5.toNatClampNeg))), some (.int (l3 + (mi (55 + 1 * l5.toNatClampNeg) l5.toNatClampNeg))), some (.int l4), some (.int l5), some (.int (mi (55 + 1 * l5.toNatClampNeg) l5.toNatClampNeg)), some (.int (0 : Int32))] [] mi ml))))) :
    am_wp (am_call d) mt_27 R 15 [some (.ref 47), some (.int l1), some (.int l2), some (.int l3), some (.int l4), some (.int l5), none, none] [] mi ml := am_bk [(15, [true, true, true, true, true, true, false, false]), (41, [true, true, true, true, true, true, true, true]), (58, [true, true, true, true, false, true, true, true]), (72, [true, true, true, true, false, false, false, false]), (88, [true, true, true, true, false, false, false, false]), (106, [false, false, false, false, false, false, false, false])] 27 h
set_option maxRecDepth 100000 in
theorem bk_27_41 {d : Nat} {R : am_R} {l1 : Int32} {l2 : Int32} {l3 : Int32} {l4 : Int32} {l5 : Int32} {l6 : Int32} {l7 : Int32} {mi : am_MI} {ml : am_ML} (h : (((mi 1 2) ≤ l7 → am_wp (am_call d) mt_27 R 15 [some (.ref 47), some (.int l1), some (.int l2), some (.int l3), some (.int l4), some (.int (l5 + 1)), none, none] [] mi ml) ∧ (¬ ((mi 1 2) ≤ l7) → (vp_in l5 3 ∧ am_need (am_kd (55 + 1 * l5.toNatClampNeg) == 2 || am_kd (55 + 1 * l5.toNatClampNeg) == 5 || am_kd (55 + 1 * l5.toNatClampNeg) == 6 || am_kd (55 + 1 * l5.toNatClampNeg) == 10) (vp_in l7 (am_len mi (55 + 1 * l5.toNatClampNeg)) ∧ (((mi (55 + 1 * l5.toNatClampNeg) l7.toNatClampNeg) ≤ l6 → am_wp (am_call d) mt_27 R 58 [some (.ref 47), some (.int l1), some (.int l2), some (.int l3), none, some (.int l5), some (.int l6), some (.int l7)] [.int (0 : Int32), .int l4] mi ml) ∧ (¬ ((mi (55 + 1 * l5.toNatClampNeg) l7.toNatClampNeg) ≤ l6) → am_wp (am_call d) mt_27 R 58 [some (.ref 47), some (.int l1), some (.int l2), some (.int l3), none, some (.int l5), some (.int l6), some (.int l7)] [.int (1 : Int32), .int l4] mi ml))))))) :
    am_wp (am_call d) mt_27 R 41 [some (.ref 47), some (.int l1), some (.int l2), some (.int l3), some (.int l4), some (.int l5), some (.int l6), some (.int l7)] [] mi ml := am_bk [(15, [true, true, true, true, true, true, false, false]), (41, [true, true, true, true, true, true, true, true]), (58, [true, true, true, true, false, true, true, true]), (72, [true, true, true, true, false, false, false, false]), (88, [true, true, true, true, false, false, false, false]), (106, [false, false, false, false, false, false, false, false])] 17 h
set_option maxRecDepth 100000 in
theorem bk_27_58 {d : Nat} {R : am_R} {l1 : Int32} {l2 : Int32} {l3 : Int32} {l5 : Int32} {l6 : Int32} {l7 : Int32} {s0 : Int32} {s1 : Int32} {mi : am_MI} {ml : am_ML} (h : am_wp (am_call d) mt_27 R 41 [some (.ref 47), some (.int l1), some (.int l2), some (.int l3), some (.int (s1 ||| s0)), some (.int l5), some (.int l6), some (.int (l7 + 1))] [] mi ml) :
    am_wp (am_call d) mt_27 R 58 [some (.ref 47), some (.int l1), some (.int l2), some (.int l3), none, some (.int l5), some (.int l6), some (.int l7)] [.int s0, .int s1] mi ml := am_bk [(15, [true, true, true, true, true, true, false, false]), (41, [true, true, true, true, true, true, true, true]), (58, [true, true, true, true, false, true, true, true]), (72, [true, true, true, true, false, false, false, false]), (88, [true, true, true, true, false, false, false, false]), (106, [false, false, false, false, false, false, false, false])] 5 h
set_option maxRecDepth 100000 in
theorem bk_27_72 {d : Nat} {R : am_R} {l1 : Int32} {l2 : Int32} {l3 : Int32} {mi : am_MI} {ml : am_ML} (h : (((l1 - l2) < (mi 47 7) → am_wp (am_call d) mt_27 R 88 [some (.ref 47), some (.int l1), some (.int l2), some (.int l3), none, none, none, none] [] mi ml) ∧ (¬ ((l1 - l2) < (mi 47 7)) → (((l1 - l2) ≠ (mi 47 7) → am_wp (am_call d) mt_27 R 106 [none, none, none, none, none, none, none, none] [] mi ml) ∧ (¬ ((l1 - l2) ≠ (mi 47 7)) → ((l3 ≤ (mi 47 8) → am_wp (am_call d) mt_27 R 106 [none, none, none, none, none, none, none, none] [] mi ml) ∧ (¬ (l3 ≤ (mi 47 8)) → am_wp (am_call d) mt_27 R 88 [some (.ref 47), some (.int l1), some (.int l2), some (.int l3), none, none, none, none] [] mi ml))))))) :
    am_wp (am_call d) mt_27 R 72 [some (.ref 47), some (.int l1), some (.int l2), some (.int l3), none, none, none, none] [] mi ml := am_bk [(15, [true, true, true, true, true, true, false, false]), (41, [true, true, true, true, true, true, true, true]), (58, [true, true, true, true, false, true, true, true]), (72, [true, true, true, true, false, false, false, false]), (88, [true, true, true, true, false, false, false, false]), (106, [false, false, false, false, false, false, false, false])] 17 h
set_option maxRecDepth 100000 in
theorem bk_27_88 {d : Nat} {R : am_R} {l1 : Int32} {l2 : Int32} {l3 : Int32} {mi : am_MI} {ml : am_ML} (h : (¬ (0 : Int32) < 0 ∧ ¬ (0 : Int32) < 0 ∧ ¬ (Int32.ofNat 8) < 0 ∧ (0 : Int32).toNatClampNeg + (Int32.ofNat 8).toNatClampNeg ≤ 8 ∧ (0 : Int32).toNatClampNeg + (Int32.ofNat 8).toNatClampNeg ≤ 8 ∧ am_wp (am_call d) mt_27 R 106 [none, none, none, none, none, none, none, none] [] (am_ci (am_ui (am_ui mi 47 7 (l1 - l2)) 47 8 l3) 52 (0 : Int32).toNatClampNeg 53 (0 : Int32).toNatClampNeg (Int32.ofNat 8).toNatClampNeg) ml)) :
    am_wp (am_call d) mt_27 R 88 [some (.ref 47), some (.int l1), some (.int l2), some (.int l3), none, none, none, none] [] mi ml := am_bk [(15, [true, true, true, true, true, true, false, false]), (41, [true, true, true, true, true, true, true, true]), (58, [true, true, true, true, false, true, true, true]), (72, [true, true, true, true, false, false, false, false]), (88, [true, true, true, true, false, false, false, false]), (106, [false, false, false, false, false, false, false, false])] 19 h
set_option maxRecDepth 100000 in
theorem bk_27_106 {d : Nat} {R : am_R} {mi : am_MI} {ml : am_ML} (h : R none mi ml) :
    am_wp (am_call d) mt_27 R 106 [none, none, none, none, none, none, none, none] [] mi ml := am_bk [(15, [true, true, true, true, true, true, false, false]), (41, [true, true, true, true, true, true, true, true]), (58, [true, true, true, true, false, true, true, true]), (72, [true, true, true, true, false, false, false, false]), (88, [true, true, true, true, false, false, false, false]), (106, [false, false, false, false, false, false, false, false])] 1 h
set_option maxRecDepth 100000 in
/-- Fairest.goOn  -/
theorem bk_28 {d : Nat} {R : am_R} {mi : am_MI} {ml : am_ML} (h : am_wp (am_call d) mt_28 R 6 [some (.ref 47), some (.int ((mi 1 1) - (1 : Int32))), none] [] mi ml) :
    am_call (d + 1) 28 [.ref 47] mi ml R := am_call_t (t := mt_28) (n := 3) rfl rfl rfl rfl (am_bk [(6, [true, true, false])] 7 h)
set_option maxRecDepth 100000 in
theorem bk_28_6 {d : Nat} {R : am_R} {l1 : Int32} {mi : am_MI} {ml : am_ML} (h : ((l1 < 0 → R none mi ml) ∧ (¬ (l1 < 0) → (vp_in l1 8 ∧ (((mi 52 l1.toNatClampNeg) ≠ ((mi 1 2) - (1 : Int32)) → (((0 : Int32) = 0 → (vp_in l1 8 ∧ am_call d 29 [.ref 47, .int l1, .int ((mi 52 l1.toNatClampNeg) + (1 : Int32))] mi ml (am_rv fun mi1 ml1 => (((0 : Int32) ≠ 0 → am_wp (am_call d) mt_28 R 6 [some (.ref 47), some (.int (l1 + (-1))), none] [] mi1 ml1) ∧ (¬ ((0 : Int32) ≠ 0) → R none mi1 ml1))))) ∧ (¬ ((0 : Int32) = 0) → am_call d 29 [.ref 47, .int l1, .int (0 : Int32)] mi ml (am_rv fun mi2 ml2 => (((0 : Int32) ≠ 0 → am_wp (am_call d) mt_28 R 6 [some (.ref 47), some (.int (l1 + (-1))), none] [] mi2 ml2) ∧ (¬ ((0 : Int32) ≠ 0) → R none mi2 ml2)))))) ∧ (¬ ((mi 52 l1.toNatClampNeg) ≠ ((mi 1 2) - (1 : Int32))) → (((1 : Int32) = 0 → (vp_in l1 8 ∧ am_call d 29 [.ref 47, .int l1, .int ((mi 52 l1.toNatClampNeg) + (1 : Int32))] mi ml (am_rv fun mi3 ml3 => (((1 : Int32) ≠ 0 → am_wp (am_call d) mt_28 R 6 [some (.ref 47), some (.int (l1 + (-1))), none] [] mi3 ml3) ∧ (¬ ((1 : Int32) ≠ 0) → R none mi3 ml3))))) ∧ (¬ ((1 : Int32) = 0) → am_call d 29 [.ref 47, .int l1, .int (0 : Int32)] mi ml (am_rv fun mi4 ml4 => (((1 : Int32) ≠ 0 → am_wp (am_call d) mt_28 R 6 [some (.ref 47), some (.int (l1 + (-1))), none] [] mi4 ml4) ∧ (¬ ((1 : Int32) ≠ 0) → R none mi4 ml4))))))))))) :
    am_wp (am_call d) mt_28 R 6 [some (.ref 47), some (.int l1), none] [] mi ml := am_bk [(6, [true, true, false])] 31 h
set_option maxRecDepth 100000 in
/-- Fairest.handOver I I -/
theorem bk_29 {d : Nat} {R : am_R} {a : Int32} {b : Int32} {mi : am_MI} {ml : am_ML} (h : (vp_in a 8 ∧ (vp_in a 8 ∧ am_wp (am_call d) mt_29 R 12 [some (.ref 47), some (.int a), some (.int b), some (.int (mi 52 a.toNatClampNeg)), some (.int (0 : Int32))] [] (am_ui mi 52 a.toNatClampNeg b) ml))) :
    am_call (d + 1) 29 [.ref 47, .int a, .int b] mi ml R := am_call_t (t := mt_29) (n := 5) rfl rfl rfl rfl (am_bk [(12, [true, true, true, true, true])] 13 h)
set_option maxRecDepth 100000 in
theorem bk_29_12 {d : Nat} {R : am_R} {l1 : Int32} {l2 : Int32} {l3 : Int32} {l4 : Int32} {mi : am_MI} {ml : am_ML} (h : (((mi 1 2) ≤ l4 → R none mi ml) ∧ (¬ ((mi 1 2) ≤ l4) → (vp_in l4 3 ∧ am_need (am_kd (55 + 1 * l4.toNatClampNeg) == 2 || am_kd (55 + 1 * l4.toNatClampNeg) == 5 || am_kd (55 + 1 * l4.toNatClampNeg) == 6 || am_kd (55 + 1 * l4.toNatClampNeg) == 10) (vp_in l3 (am_len mi (55 + 1 * l4.toNatClampNeg)) ∧ (vp_in l4 3 ∧ am_need (am_kd (49 + 1 * l4.toNatClampNeg) == 2 || am_kd (49 + 1 * l4.toNatClampNeg) == 5 || am_kd (49 + 1 * l4.toNatClampNeg) == 6 || am_kd (49 + 1 * l4.toNatClampNeg) == 10) (vp_in l1 (am_len mi (49 + 1 * l4.toNatClampNeg)) ∧ am_need (am_kd (55 + 1 * l4.toNatClampNeg) == 2 || am_kd (55 + 1 * l4.toNatClampNeg) == 10) (vp_in l3 (am_len mi (55 + 1 * l4.toNatClampNeg)) ∧ (vp_in l4 3 ∧ am_need (am_kd (55 + 1 * l4.toNatClampNeg) == 2 || am_kd (55 + 1 * l4.toNatClampNeg) == 5 || am_kd (55 + 1 * l4.toNatClampNeg) == 6 || am_kd (55 + 1 * l4.toNatClampNeg) == 10) (vp_in l2 (am_len (am_ui mi (55 + 1 * l4.toNatClampNeg) l3.toNatClampNeg ((mi (55 + 1 * l4.toNatClampNeg) l3.toNatClampNeg) - (mi (49 + 1 * l4.toNatClampNeg) l1.toNatClampNeg))) (55 + 1 * l4.toNatClampNeg)) ∧ (vp_in l4 3 ∧ am_need (am_kd (49 + 1 * l4.toNatClampNeg) == 2 || am_kd (49 + 1 * l4.toNatClampNeg) == 5 || am_kd (49 + 1 * l4.toNatClampNeg) == 6 || am_kd (49 + 1 * l4.toNatClampNeg) == 10) (vp_in l1 (am_len (am_ui mi (55 + 1 * l4.toNatClampNeg) l3.toNatClampNeg ((mi (55 + 1 * l4.toNatClampNeg) l3.toNatClampNeg) - (mi (49 + 1 * l4.toNatClampNeg) l1.toNatClampNeg))) (49 + 1 * l4.toNatClampNeg)) ∧ am_need (am_kd (55 + 1 * l4.toNatClampNeg) == 2 || am_kd (55 + 1 * l4.toNatClampNeg) == 10) (vp_in l2 (am_len (am_ui mi (55 + 1 * l4.toNatClampNeg) l3.toNatClampNeg ((mi (55 + 1 * l4.toNatClampNeg) l3.toNatClampNeg) - (mi (49 + 1 * l4.toNatClampNeg) l1.toNatClampNeg))) (55 + 1 * l4.toNatClampNeg)) ∧ am_wp (am_call d) mt_29 R 12 [some (.ref 47), some (.int l1), some (.int l2), some (.int l3), some (.int (l4 + 1))] [] (am_ui (am_ui mi (55 + 1 * l4.toNatClampNeg) l3.toNatClampNeg ((mi (55 + 1 * l4.toNatClampNeg) l3.toNatClampNeg) - (mi (49 + 1 * l4.toNatClampNeg) l1.toNatClampNeg))) (55 + 1 * l4.toNatClampNeg) l2.toNatClampNeg (((am_ui mi (55 + 1 * l4.toNatClampNeg) l3.toNatClampNeg ((mi (55 + 1 * l4.toNatClampNeg) l3.toNatClampNeg) - (mi (49 + 1 * l4.toNatClampNeg) l1.toNatClampNeg))) (55 + 1 * l4.toNatClampNeg) l2.toNatClampNeg) + ((am_ui mi (55 + 1 * l4.toNatClampNeg) l3.toNatClampNeg ((mi (55 + 1 * l4.toNatClampNeg) l3.toNatClampNeg) - (mi (49 + 1 * l4.toNatClampNeg) l1.toNatClampNeg))) (49 + 1 * l4.toNatClampNeg) l1.toNatClampNeg))) ml))))))))))))) :
    am_wp (am_call d) mt_29 R 12 [some (.ref 47), some (.int l1), some (.int l2), some (.int l3), some (.int l4)] [] mi ml := am_bk [(12, [true, true, true, true, true])] 38 h
end
section
/-! block lemmas of methods 30 to 65 -/
set_option maxRecDepth 100000 in
/-- Givings.freshen  -/
theorem bk_30 {d : Nat} {R : am_R} {mi : am_MI} {ml : am_ML} (h : am_call d 115 [.ref 20] mi ml (am_ri fun r1 mi1 ml1 => (((mi 22 2) ≠ r1 → am_call d 115 [.ref 20] mi1 ml1 (am_ri fun r2 mi2 ml2 => am_call d 31 [.ref 22] (am_ui mi2 22 2 r2) ml2 (am_rv fun mi3 ml3 => am_call d 32 [.ref 22] mi3 ml3 (am_rv fun mi4 ml4 => am_wp (am_call d) mt_30 R 18 [some (.ref 22), some (.int (0 : Int32)), none] [] mi4 ml4)))) ∧ (¬ ((mi 22 2) ≠ r1) → R none mi1 ml1)))) :
    am_call (d + 1) 30 [.ref 22] mi ml R := am_call_t (t := mt_30) (n := 3) rfl rfl rfl rfl (am_bk [(18, [true, true, false]), (25, [true, true, true]), (52, [true, true, false])] 18 h)
set_option maxRecDepth 100000 in
theorem bk_30_18 {d : Nat} {R : am_R} {l1 : Int32} {mi : am_MI} {ml : am_ML} (h : (((mi 1 2) ≤ l1 → am_wp (am_call d) mt_30 R 52 [some (.ref 22), some (.int (0 : Int32)), none] [] mi ml) ∧ (¬ ((mi 1 2) ≤ l1) → am_wp (am_call d) mt_30 R 25 [some (.ref 22), some (.int l1), some (.int (0 : Int32))] [] mi ml))) :
    am_wp (am_call d) mt_30 R 18 [some (.ref 22), some (.int l1), none] [] mi ml := am_bk [(18, [true, true, false]), (25, [true, true, true]), (52, [true, true, false])] 8 h
set_option maxRecDepth 100000 in
theorem bk_30_25 {d : Nat} {R : am_R} {l1 : Int32} {l2 : Int32} {mi : am_MI} {ml : am_ML} (h : (((mi 1 1) ≤ l2 → am_wp (am_call d) mt_30 R 18 [some (.ref 22), some (.int (l1 + 1)), none] [] mi ml) ∧ (¬ ((mi 1 1) ≤ l2) → (vp_in l1 5 ∧ am_call d 4 [.ref 1, .int (2 : Int32), .int l2] mi ml (am_ri fun r1 mi1 ml1 => am_call d 117 [.ref 20, .int l1, .int l2, .int r1] mi1 ml1 (am_ri fun r2 mi2 ml2 => am_need (am_kd (26 + 1 * l1.toNatClampNeg) == 2 || am_kd (26 + 1 * l1.toNatClampNeg) == 10) (vp_in l2 (am_len mi2 (26 + 1 * l1.toNatClampNeg)) ∧ am_wp (am_call d) mt_30 R 25 [some (.ref 22), some (.int l1), some (.int (l2 + 1))] [] (am_ui mi2 (26 + 1 * l1.toNatClampNeg) l2.toNatClampNeg r2) ml2))))))) :
    am_wp (am_call d) mt_30 R 25 [some (.ref 22), some (.int l1), some (.int l2)] [] mi ml := am_bk [(18, [true, true, false]), (25, [true, true, true]), (52, [true, true, false])] 24 h
set_option maxRecDepth 100000 in
theorem bk_30_52 {d : Nat} {R : am_R} {l1 : Int32} {mi : am_MI} {ml : am_ML} (h : (((5 : Int32) ≤ l1 → R none mi ml) ∧ (¬ ((5 : Int32) ≤ l1) → am_call d 33 [.ref 22, .int l1] mi ml (am_rv fun mi1 ml1 => am_wp (am_call d) mt_30 R 52 [some (.ref 22), some (.int (l1 + 1)), none] [] mi1 ml1)))) :
    am_wp (am_call d) mt_30 R 52 [some (.ref 22), some (.int l1), none] [] mi ml := am_bk [(18, [true, true, false]), (25, [true, true, true]), (52, [true, true, false])] 9 h
set_option maxRecDepth 100000 in
/-- Givings.orderDoors  -/
theorem bk_31 {d : Nat} {R : am_R} {mi : am_MI} {ml : am_ML} (h : am_wp (am_call d) mt_31 R 2 [some (.ref 22), some (.int (0 : Int32)), none, none] [] mi ml) :
    am_call (d + 1) 31 [.ref 22] mi ml R := am_call_t (t := mt_31) (n := 4) rfl rfl rfl rfl (am_bk [(2, [true, true, false, false]), (15, [true, true, true, true])] 3 h)
set_option maxRecDepth 100000 in
theorem bk_31_2 {d : Nat} {R : am_R} {l1 : Int32} {mi : am_MI} {ml : am_ML} (h : (((mi 1 1) ≤ l1 → R none mi ml) ∧ (¬ ((mi 1 1) ≤ l1) → am_call d 4 [.ref 1, .int (0 : Int32), .int l1] mi ml (am_ri fun r1 mi1 ml1 => am_wp (am_call d) mt_31 R 15 [some (.ref 22), some (.int l1), some (.int l1), some (.int r1)] [] mi1 ml1)))) :
    am_wp (am_call d) mt_31 R 2 [some (.ref 22), some (.int l1), none, none] [] mi ml := am_bk [(2, [true, true, false, false]), (15, [true, true, true, true])] 14 h
set_option maxRecDepth 100000 in
theorem bk_31_15 {d : Nat} {R : am_R} {l1 : Int32} {l2 : Int32} {l3 : Int32} {mi : am_MI} {ml : am_ML} (h : ((l2 ≤ 0 → (vp_in l2 12 ∧ am_wp (am_call d) mt_31 R 2 [some (.ref 22), some (.int (l1 + 1)), none, none] [] (am_ui mi 23 l2.toNatClampNeg l1) ml)) ∧ (¬ (l2 ≤ 0) → (vp_in (l2 - (1 : Int32)) 12 ∧ am_call d 4 [.ref 1, .int (0 : Int32), .int (mi 23 (l2 - (1 : Int32)).toNatClampNeg)] mi ml (am_ri fun r1 mi1 ml1 => ((r1 ≤ l3 → (vp_in l2 12 ∧ am_wp (am_call d) mt_31 R 2 [some (.ref 22), some (.int (l1 + 1)), none, none] [] (am_ui mi1 23 l2.toNatClampNeg l1) ml1)) ∧ (¬ (r1 ≤ l3) → (vp_in (l2 - (1 : Int32)) 12 ∧ (vp_in l2 12 ∧ am_wp (am_call d) mt_31 R 15 [some (.ref 22), some (.int l1), some (.int (l2 + (-1))), some (.int l3)] [] (am_ui mi1 23 l2.toNatClampNeg (mi1 23 (l2 - (1 : Int32)).toNatClampNeg)) ml1))))))))) :
    am_wp (am_call d) mt_31 R 15 [some (.ref 22), some (.int l1), some (.int l2), some (.int l3)] [] mi ml := am_bk [(2, [true, true, false, false]), (15, [true, true, true, true])] 27 h
set_option maxRecDepth 100000 in
/-- Givings.orderChildren  -/
theorem bk_32 {d : Nat} {R : am_R} {mi : am_MI} {ml : am_ML} (h : am_wp (am_call d) mt_32 R 2 [some (.ref 22), some (.int (0 : Int32)), none, none] [] mi ml) :
    am_call (d + 1) 32 [.ref 22] mi ml R := am_call_t (t := mt_32) (n := 4) rfl rfl rfl rfl (am_bk [(2, [true, true, false, false]), (15, [true, true, true, true])] 3 h)
set_option maxRecDepth 100000 in
theorem bk_32_2 {d : Nat} {R : am_R} {l1 : Int32} {mi : am_MI} {ml : am_ML} (h : (((mi 1 2) ≤ l1 → R none mi ml) ∧ (¬ ((mi 1 2) ≤ l1) → am_call d 4 [.ref 1, .int (3 : Int32), .int l1] mi ml (am_ri fun r1 mi1 ml1 => am_wp (am_call d) mt_32 R 15 [some (.ref 22), some (.int l1), some (.int l1), some (.int r1)] [] mi1 ml1)))) :
    am_wp (am_call d) mt_32 R 2 [some (.ref 22), some (.int l1), none, none] [] mi ml := am_bk [(2, [true, true, false, false]), (15, [true, true, true, true])] 14 h
set_option maxRecDepth 100000 in
theorem bk_32_15 {d : Nat} {R : am_R} {l1 : Int32} {l2 : Int32} {l3 : Int32} {mi : am_MI} {ml : am_ML} (h : ((l2 ≤ 0 → (vp_in l2 5 ∧ am_wp (am_call d) mt_32 R 2 [some (.ref 22), some (.int (l1 + 1)), none, none] [] (am_ui mi 24 l2.toNatClampNeg l1) ml)) ∧ (¬ (l2 ≤ 0) → (vp_in (l2 - (1 : Int32)) 5 ∧ am_call d 4 [.ref 1, .int (3 : Int32), .int (mi 24 (l2 - (1 : Int32)).toNatClampNeg)] mi ml (am_ri fun r1 mi1 ml1 => ((l3 ≤ r1 → (vp_in l2 5 ∧ am_wp (am_call d) mt_32 R 2 [some (.ref 22), some (.int (l1 + 1)), none, none] [] (am_ui mi1 24 l2.toNatClampNeg l1) ml1)) ∧ (¬ (l3 ≤ r1) → (vp_in (l2 - (1 : Int32)) 5 ∧ (vp_in l2 5 ∧ am_wp (am_call d) mt_32 R 15 [some (.ref 22), some (.int l1), some (.int (l2 + (-1))), some (.int l3)] [] (am_ui mi1 24 l2.toNatClampNeg (mi1 24 (l2 - (1 : Int32)).toNatClampNeg)) ml1))))))))) :
    am_wp (am_call d) mt_32 R 15 [some (.ref 22), some (.int l1), some (.int l2), some (.int l3)] [] mi ml := am_bk [(2, [true, true, false, false]), (15, [true, true, true, true])] 27 h
set_option maxRecDepth 100000 in
/-- Givings.giveBy I -/
theorem bk_33 {d : Nat} {R : am_R} {a : Int32} {mi : am_MI} {ml : am_ML} (h : (vp_in a 5 ∧ am_call d 275 [.ref (38 + 1 * a.toNatClampNeg), .int (0 : Int32)] mi ml (am_rv fun mi1 ml1 => am_wp (am_call d) mt_33 R 8 [some (.ref 22), some (.int a), some (.int (0 : Int32)), none, none] [] mi1 ml1))) :
    am_call (d + 1) 33 [.ref 22, .int a] mi ml R := am_call_t (t := mt_33) (n := 5) rfl rfl rfl rfl (am_bk [(8, [true, true, true, false, false]), (20, [true, true, true, true, true])] 9 h)
set_option maxRecDepth 100000 in
theorem bk_33_8 {d : Nat} {R : am_R} {l1 : Int32} {l2 : Int32} {mi : am_MI} {ml : am_ML} (h : (((mi 1 1) ≤ l2 → R none mi ml) ∧ (¬ ((mi 1 1) ≤ l2) → (vp_in l2 12 ∧ am_wp (am_call d) mt_33 R 20 [some (.ref 22), some (.int l1), some (.int l2), some (.int (mi 23 l2.toNatClampNeg)), some (.int (0 : Int32))] [] mi ml)))) :
    am_wp (am_call d) mt_33 R 8 [some (.ref 22), some (.int l1), some (.int l2), none, none] [] mi ml := am_bk [(8, [true, true, true, false, false]), (20, [true, true, true, true, true])] 13 h
set_option maxRecDepth 100000 in
theorem bk_33_20 {d : Nat} {R : am_R} {l1 : Int32} {l2 : Int32} {l3 : Int32} {l4 : Int32} {mi : am_MI} {ml : am_ML} (h : (((mi 1 2) ≤ l4 → (vp_in l1 5 ∧ (vp_in l1 5 ∧ am_call d 34 [.ref 22, .int l1, .int l2, .ref (38 + 1 * l1.toNatClampNeg)] mi ml (am_ri fun r1 mi1 ml1 => am_need (am_kd (32 + 1 * l1.toNatClampNeg) == 2 || am_kd (32 + 1 * l1.toNatClampNeg) == 10) (vp_in l3 (am_len mi1 (32 + 1 * l1.toNatClampNeg)) ∧ am_wp (am_call d) mt_33 R 8 [some (.ref 22), some (.int l1), some (.int (l2 + 1)), none, none] [] (am_ui mi1 (32 + 1 * l1.toNatClampNeg) l3.toNatClampNeg r1) ml1))))) ∧ (¬ ((mi 1 2) ≤ l4) → (vp_in l4 5 ∧ am_need (am_kd (26 + 1 * l4.toNatClampNeg) == 2 || am_kd (26 + 1 * l4.toNatClampNeg) == 5 || am_kd (26 + 1 * l4.toNatClampNeg) == 6 || am_kd (26 + 1 * l4.toNatClampNeg) == 10) (vp_in l3 (am_len mi (26 + 1 * l4.toNatClampNeg)) ∧ (vp_in l4 5 ∧ am_wp (am_call d) mt_33 R 20 [some (.ref 22), some (.int l1), some (.int l2), some (.int l3), some (.int (l4 + 1))] [] (am_ui mi 43 l4.toNatClampNeg (mi (26 + 1 * l4.toNatClampNeg) l3.toNatClampNeg)) ml)))))) :
    am_wp (am_call d) mt_33 R 20 [some (.ref 22), some (.int l1), some (.int l2), some (.int l3), some (.int l4)] [] mi ml := am_bk [(8, [true, true, true, false, false]), (20, [true, true, true, true, true])] 22 h
set_option maxRecDepth 100000 in
/-- Givings.giveOffered I I arr I -/
theorem bk_34 {d : Nat} {R : am_R} {a : Int32} {b : Int32} {x : Nat} {mi : am_MI} {ml : am_ML} (h : am_call d 35 [.ref 22, .int a, .int b, .ref x] mi ml (am_ri fun r1 mi1 ml1 => am_call d 1 [.ref 1, .int r1] mi1 ml1 (am_ri fun r2 mi2 ml2 => ((r2 = 0 → R (some (.int r1)) mi2 ml2) ∧ (¬ (r2 = 0) → am_need (am_kd x == 2 || am_kd x == 5 || am_kd x == 6 || am_kd x == 10) (vp_in r1 (am_len mi2 x) ∧ (vp_in r1 5 ∧ am_need (am_kd x == 2 || am_kd x == 10) (vp_in r1 (am_len mi2 x) ∧ R (some (.int r1)) (am_ui mi2 x r1.toNatClampNeg ((mi2 x r1.toNatClampNeg) + (mi2 43 r1.toNatClampNeg))) ml2)))))))) :
    am_call (d + 1) 34 [.ref 22, .int a, .int b, .ref x] mi ml R := am_call_t (t := mt_34) (n := 5) rfl rfl rfl rfl (am_bk [] 23 h)
set_option maxRecDepth 100000 in
/-- Givings.chosen I I arr I -/
theorem bk_35 {d : Nat} {R : am_R} {a : Int32} {b : Int32} {x : Nat} {mi : am_MI} {ml : am_ML} (h : ((0 < (mi 1 2) → ((a = 0 → (¬ (mi 1 2) = 0 ∧ R (some (.int (am_rem b (mi 1 2)))) mi ml)) ∧ (¬ a = 0 → ((a = 1 → (¬ (mi 1 2) = 0 ∧ (vp_in (am_rem b (mi 1 2)) 5 ∧ R (some (.int (mi 24 (am_rem b (mi 1 2)).toNatClampNeg))) mi ml))) ∧ (¬ a = 1 → ((a = 2 → (¬ ((2 : Int32) * (mi 1 2)) = 0 ∧ (((mi 1 2) ≤ (am_rem b ((2 : Int32) * (mi 1 2))) → R (some (.int ((((2 : Int32) * (mi 1 2)) - (1 : Int32)) - (am_rem b ((2 : Int32) * (mi 1 2)))))) mi ml) ∧ (¬ ((mi 1 2) ≤ (am_rem b ((2 : Int32) * (mi 1 2)))) → R (some (.int (am_rem b ((2 : Int32) * (mi 1 2))))) mi ml)))) ∧ (¬ a = 2 → am_call d 36 [.ref 22, .int a, .ref x] mi ml (am_ri fun r1 mi1 ml1 => R (some (.int r1)) mi1 ml1)))))))) ∧ (¬ (0 < (mi 1 2)) → R (some (.int (-2 : Int32))) mi ml))) :
    am_call (d + 1) 35 [.ref 22, .int a, .int b, .ref x] mi ml R := am_call_t (t := mt_35) (n := 6) rfl rfl rfl rfl (am_bk [] 25 h)
set_option maxRecDepth 100000 in
/-- Givings.mostWilling I arr I -/
theorem bk_36 {d : Nat} {R : am_R} {a : Int32} {b : Nat} {mi : am_MI} {ml : am_ML} (h : am_wp (am_call d) mt_36 R 4 [some (.ref 22), some (.int a), some (.ref b), some (.int (0 : Int32)), some (.int (1 : Int32))] [] mi ml) :
    am_call (d + 1) 36 [.ref 22, .int a, .ref b] mi ml R := am_call_t (t := mt_36) (n := 5) rfl rfl rfl rfl (am_bk [(4, [true, true, true, true, true])] 5 h)
set_option maxRecDepth 100000 in
theorem bk_36_4 {d : Nat} {R : am_R} {l1 : Int32} {l2 : Nat} {l3 : Int32} {l4 : Int32} {mi : am_MI} {ml : am_ML} (h : (((mi 1 2) ≤ l4 → R (some (.int l3)) mi ml) ∧ (¬ ((mi 1 2) ≤ l4) → am_call d 37 [.ref 22, .int l1, .int l4, .ref l2] mi ml (am_ri fun r1 mi1 ml1 => am_call d 37 [.ref 22, .int l1, .int l3, .ref l2] mi1 ml1 (am_ri fun r2 mi2 ml2 => ((r1 ≤ r2 → am_wp (am_call d) mt_36 R 4 [some (.ref 22), some (.int l1), some (.ref l2), some (.int l3), some (.int (l4 + 1))] [] mi2 ml2) ∧ (¬ (r1 ≤ r2) → am_wp (am_call d) mt_36 R 4 [some (.ref 22), some (.int l1), some (.ref l2), some (.int l4), some (.int (l4 + 1))] [] mi2 ml2))))))) :
    am_wp (am_call d) mt_36 R 4 [some (.ref 22), some (.int l1), some (.ref l2), some (.int l3), some (.int l4)] [] mi ml := am_bk [(4, [true, true, true, true, true])] 21 h
set_option maxRecDepth 100000 in
/-- Givings.will I I arr I -/
theorem bk_37 {d : Nat} {R : am_R} {a : Int32} {b : Int32} {x : Nat} {mi : am_MI} {ml : am_ML} (h : ((a ≠ (3 : Int32) → am_need (am_kd x == 2 || am_kd x == 5 || am_kd x == 6 || am_kd x == 10) (vp_in b (am_len mi x) ∧ R (some (.int ((0 : Int32) - (mi x b.toNatClampNeg)))) mi ml)) ∧ (¬ (a ≠ (3 : Int32)) → (vp_in b 5 ∧ am_need (am_kd x == 2 || am_kd x == 5 || am_kd x == 6 || am_kd x == 10) (vp_in b (am_len mi x) ∧ R (some (.int ((mi 43 b.toNatClampNeg) - (mi x b.toNatClampNeg)))) mi ml))))) :
    am_call (d + 1) 37 [.ref 22, .int a, .int b, .ref x] mi ml R := am_call_t (t := mt_37) (n := 4) rfl rfl rfl rfl (am_bk [] 13 h)
set_option maxRecDepth 100000 in
/-- Givings.owner I I -/
theorem bk_38 {d : Nat} {R : am_R} {a : Int32} {b : Int32} {mi : am_MI} {ml : am_ML} (h : (vp_in a 5 ∧ am_need (am_kd (32 + 1 * a.toNatClampNeg) == 2 || am_kd (32 + 1 * a.toNatClampNeg) == 5 || am_kd (32 + 1 * a.toNatClampNeg) == 6 || am_kd (32 + 1 * a.toNatClampNeg) == 10) (vp_in b (am_len mi (32 + 1 * a.toNatClampNeg)) ∧ R (some (.int (mi (32 + 1 * a.toNatClampNeg) b.toNatClampNeg))) mi ml))) :
    am_call (d + 1) 38 [.ref 22, .int a, .int b] mi ml R := am_call_t (t := mt_38) (n := 3) rfl rfl rfl rfl (am_bk [] 7 h)
set_option maxRecDepth 100000 in
/-- Givings.sumOf I I -/
theorem bk_39 {d : Nat} {R : am_R} {a : Int32} {b : Int32} {mi : am_MI} {ml : am_ML} (h : (vp_in a 5 ∧ am_need (am_kd (38 + 1 * a.toNatClampNeg) == 2 || am_kd (38 + 1 * a.toNatClampNeg) == 5 || am_kd (38 + 1 * a.toNatClampNeg) == 6 || am_kd (38 + 1 * a.toNatClampNeg) == 10) (vp_in b (am_len mi (38 + 1 * a.toNatClampNeg)) ∧ R (some (.int (mi (38 + 1 * a.toNatClampNeg) b.toNatClampNeg))) mi ml))) :
    am_call (d + 1) 39 [.ref 22, .int a, .int b] mi ml R := am_call_t (t := mt_39) (n := 3) rfl rfl rfl rfl (am_bk [] 7 h)
set_option maxRecDepth 100000 in
/-- Givings.unfairBy I -/
theorem bk_40 {d : Nat} {R : am_R} {a : Int32} {mi : am_MI} {ml : am_ML} (h : (vp_in a 5 ∧ am_call d 43 [.ref 22, .ref (38 + 1 * a.toNatClampNeg)] mi ml (am_ri fun r1 mi1 ml1 => R (some (.int r1)) mi1 ml1))) :
    am_call (d + 1) 40 [.ref 22, .int a] mi ml R := am_call_t (t := mt_40) (n := 2) rfl rfl rfl rfl (am_bk [] 7 h)
set_option maxRecDepth 100000 in
/-- Givings.triedUnfair  -/
theorem bk_41 {d : Nat} {R : am_R} {mi : am_MI} {ml : am_ML} (h : am_call d 43 [.ref 22, .ref 45] mi ml (am_ri fun r1 mi1 ml1 => R (some (.int r1)) mi1 ml1)) :
    am_call (d + 1) 41 [.ref 22] mi ml R := am_call_t (t := mt_41) (n := 1) rfl rfl rfl rfl (am_bk [] 5 h)
set_option maxRecDepth 100000 in
/-- Givings.triedSum I -/
theorem bk_42 {d : Nat} {R : am_R} {a : Int32} {mi : am_MI} {ml : am_ML} (h : (vp_in a 5 ∧ R (some (.int (mi 45 a.toNatClampNeg))) mi ml)) :
    am_call (d + 1) 42 [.ref 22, .int a] mi ml R := am_call_t (t := mt_42) (n := 2) rfl rfl rfl rfl (am_bk [] 5 h)
set_option maxRecDepth 100000 in
/-- Givings.unfairOf arr I -/
theorem bk_43 {d : Nat} {R : am_R} {a : Nat} {mi : am_MI} {ml : am_ML} (h : (((mi 1 2) ≠ 0 → am_need (am_kd a == 2 || am_kd a == 5 || am_kd a == 6 || am_kd a == 10) (vp_in (0 : Int32) (am_len mi a) ∧ am_need (am_kd a == 2 || am_kd a == 5 || am_kd a == 6 || am_kd a == 10) (vp_in (0 : Int32) (am_len mi a) ∧ am_wp (am_call d) mt_43 R 16 [some (.ref 22), some (.ref a), some (.int (mi a (0 : Int32).toNatClampNeg)), some (.int (mi a (0 : Int32).toNatClampNeg)), some (.int (1 : Int32))] [] mi ml))) ∧ (¬ ((mi 1 2) ≠ 0) → R (some (.int (0 : Int32))) mi ml))) :
    am_call (d + 1) 43 [.ref 22, .ref a] mi ml R := am_call_t (t := mt_43) (n := 5) rfl rfl rfl rfl (am_bk [(16, [true, true, true, true, true])] 15 h)
set_option maxRecDepth 100000 in
theorem bk_43_16 {d : Nat} {R : am_R} {l1 : Nat} {l2 : Int32} {l3 : Int32} {l4 : Int32} {mi : am_MI} {ml : am_ML} (h : (((mi 1 2) ≤ l4 → R (some (.int (l2 - l3))) mi ml) ∧ (¬ ((mi 1 2) ≤ l4) → am_need (am_kd l1 == 2 || am_kd l1 == 5 || am_kd l1 == 6 || am_kd l1 == 10) (vp_in l4 (am_len mi l1) ∧ am_need (am_kd l1 == 2 || am_kd l1 == 5 || am_kd l1 == 6 || am_kd l1 == 10) (vp_in l4 (am_len mi l1) ∧ am_wp (am_call d) mt_43 R 16 [some (.ref 22), some (.ref l1), some (.int (am_max l2 (mi l1 l4.toNatClampNeg))), some (.int (am_min l3 (mi l1 l4.toNatClampNeg))), some (.int (l4 + 1))] [] mi ml))))) :
    am_wp (am_call d) mt_43 R 16 [some (.ref 22), some (.ref l1), some (.int l2), some (.int l3), some (.int l4)] [] mi ml := am_bk [(16, [true, true, true, true, true])] 20 h
set_option maxRecDepth 100000 in
/-- Givings.togetherBy I -/
theorem bk_44 {d : Nat} {R : am_R} {a : Int32} {mi : am_MI} {ml : am_ML} (h : am_wp (am_call d) mt_44 R 4 [some (.ref 22), some (.int a), some (.int (0 : Int32)), some (.int (0 : Int32))] [] mi ml) :
    am_call (d + 1) 44 [.ref 22, .int a] mi ml R := am_call_t (t := mt_44) (n := 4) rfl rfl rfl rfl (am_bk [(4, [true, true, true, true])] 5 h)
set_option maxRecDepth 100000 in
theorem bk_44_4 {d : Nat} {R : am_R} {l1 : Int32} {l2 : Int32} {l3 : Int32} {mi : am_MI} {ml : am_ML} (h : (((mi 1 2) ≤ l3 → R (some (.int l2)) mi ml) ∧ (¬ ((mi 1 2) ≤ l3) → (vp_in l1 5 ∧ am_need (am_kd (38 + 1 * l1.toNatClampNeg) == 2 || am_kd (38 + 1 * l1.toNatClampNeg) == 5 || am_kd (38 + 1 * l1.toNatClampNeg) == 6 || am_kd (38 + 1 * l1.toNatClampNeg) == 10) (vp_in l3 (am_len mi (38 + 1 * l1.toNatClampNeg)) ∧ am_wp (am_call d) mt_44 R 4 [some (.ref 22), some (.int l1), some (.int (l2 + (mi (38 + 1 * l1.toNatClampNeg) l3.toNatClampNeg))), some (.int (l3 + 1))] [] mi ml))))) :
    am_wp (am_call d) mt_44 R 4 [some (.ref 22), some (.int l1), some (.int l2), some (.int l3)] [] mi ml := am_bk [(4, [true, true, true, true])] 17 h
set_option maxRecDepth 100000 in
/-- Givings.envyBy I -/
theorem bk_45 {d : Nat} {R : am_R} {a : Int32} {mi : am_MI} {ml : am_ML} (h : am_wp (am_call d) mt_45 R 4 [some (.ref 22), some (.int a), some (.int (0 : Int32)), some (.int (0 : Int32)), none] [] mi ml) :
    am_call (d + 1) 45 [.ref 22, .int a] mi ml R := am_call_t (t := mt_45) (n := 5) rfl rfl rfl rfl (am_bk [(4, [true, true, true, true, false]), (11, [true, true, true, true, true])] 5 h)
set_option maxRecDepth 100000 in
theorem bk_45_4 {d : Nat} {R : am_R} {l1 : Int32} {l2 : Int32} {l3 : Int32} {mi : am_MI} {ml : am_ML} (h : (((mi 1 2) ≤ l3 → R (some (.int l2)) mi ml) ∧ (¬ ((mi 1 2) ≤ l3) → am_wp (am_call d) mt_45 R 11 [some (.ref 22), some (.int l1), some (.int l2), some (.int l3), some (.int (0 : Int32))] [] mi ml))) :
    am_wp (am_call d) mt_45 R 4 [some (.ref 22), some (.int l1), some (.int l2), some (.int l3), none] [] mi ml := am_bk [(4, [true, true, true, true, false]), (11, [true, true, true, true, true])] 8 h
set_option maxRecDepth 100000 in
theorem bk_45_11 {d : Nat} {R : am_R} {l1 : Int32} {l2 : Int32} {l3 : Int32} {l4 : Int32} {mi : am_MI} {ml : am_ML} (h : (((mi 1 2) ≤ l4 → am_wp (am_call d) mt_45 R 4 [some (.ref 22), some (.int l1), some (.int l2), some (.int (l3 + 1)), none] [] mi ml) ∧ (¬ ((mi 1 2) ≤ l4) → am_call d 46 [.ref 22, .int l3, .int l1, .int l4] mi ml (am_ri fun r1 mi1 ml1 => (vp_in l1 5 ∧ am_need (am_kd (38 + 1 * l1.toNatClampNeg) == 2 || am_kd (38 + 1 * l1.toNatClampNeg) == 5 || am_kd (38 + 1 * l1.toNatClampNeg) == 6 || am_kd (38 + 1 * l1.toNatClampNeg) == 10) (vp_in l3 (am_len mi1 (38 + 1 * l1.toNatClampNeg)) ∧ ((r1 ≤ (mi1 (38 + 1 * l1.toNatClampNeg) l3.toNatClampNeg) → am_wp (am_call d) mt_45 R 11 [some (.ref 22), some (.int l1), some (.int l2), some (.int l3), some (.int (l4 + 1))] [] mi1 ml1) ∧ (¬ (r1 ≤ (mi1 (38 + 1 * l1.toNatClampNeg) l3.toNatClampNeg)) → am_wp (am_call d) mt_45 R 11 [some (.ref 22), some (.int l1), some (.int (l2 ||| (am_shl (1 : Int32) l3))), some (.int l3), some (.int (l4 + 1))] [] mi1 ml1)))))))) :
    am_wp (am_call d) mt_45 R 11 [some (.ref 22), some (.int l1), some (.int l2), some (.int l3), some (.int l4)] [] mi ml := am_bk [(4, [true, true, true, true, false]), (11, [true, true, true, true, true])] 26 h
set_option maxRecDepth 100000 in
/-- Givings.worthTo I I I -/
theorem bk_46 {d : Nat} {R : am_R} {a : Int32} {b : Int32} {x : Int32} {mi : am_MI} {ml : am_ML} (h : am_wp (am_call d) mt_46 R 4 [some (.ref 22), some (.int a), some (.int b), some (.int x), some (.int (0 : Int32)), some (.int (0 : Int32))] [] mi ml) :
    am_call (d + 1) 46 [.ref 22, .int a, .int b, .int x] mi ml R := am_call_t (t := mt_46) (n := 6) rfl rfl rfl rfl (am_bk [(4, [true, true, true, true, true, true])] 5 h)
set_option maxRecDepth 100000 in
theorem bk_46_4 {d : Nat} {R : am_R} {l1 : Int32} {l2 : Int32} {l3 : Int32} {l4 : Int32} {l5 : Int32} {mi : am_MI} {ml : am_ML} (h : (((mi 1 1) ≤ l5 → R (some (.int l4)) mi ml) ∧ (¬ ((mi 1 1) ≤ l5) → (vp_in l2 5 ∧ am_need (am_kd (32 + 1 * l2.toNatClampNeg) == 2 || am_kd (32 + 1 * l2.toNatClampNeg) == 5 || am_kd (32 + 1 * l2.toNatClampNeg) == 6 || am_kd (32 + 1 * l2.toNatClampNeg) == 10) (vp_in l5 (am_len mi (32 + 1 * l2.toNatClampNeg)) ∧ (((mi (32 + 1 * l2.toNatClampNeg) l5.toNatClampNeg) ≠ l3 → am_wp (am_call d) mt_46 R 4 [some (.ref 22), some (.int l1), some (.int l2), some (.int l3), some (.int l4), some (.int (l5 + 1))] [] mi ml) ∧ (¬ ((mi (32 + 1 * l2.toNatClampNeg) l5.toNatClampNeg) ≠ l3) → (vp_in l1 5 ∧ am_need (am_kd (26 + 1 * l1.toNatClampNeg) == 2 || am_kd (26 + 1 * l1.toNatClampNeg) == 5 || am_kd (26 + 1 * l1.toNatClampNeg) == 6 || am_kd (26 + 1 * l1.toNatClampNeg) == 10) (vp_in l5 (am_len mi (26 + 1 * l1.toNatClampNeg)) ∧ am_wp (am_call d) mt_46 R 4 [some (.ref 22), some (.int l1), some (.int l2), some (.int l3), some (.int (l4 + (mi (26 + 1 * l1.toNatClampNeg) l5.toNatClampNeg))), some (.int (l5 + 1))] [] mi ml))))))))) :
    am_wp (am_call d) mt_46 R 4 [some (.ref 22), some (.int l1), some (.int l2), some (.int l3), some (.int l4), some (.int l5)] [] mi ml := am_bk [(4, [true, true, true, true, true, true])] 25 h
set_option maxRecDepth 100000 in
/-- Givings.leastUnfairRule  -/
theorem bk_47 {d : Nat} {R : am_R} {mi : am_MI} {ml : am_ML} (h : am_wp (am_call d) mt_47 R 4 [some (.ref 22), some (.int (0 : Int32)), some (.int (1 : Int32)), none] [] mi ml) :
    am_call (d + 1) 47 [.ref 22] mi ml R := am_call_t (t := mt_47) (n := 4) rfl rfl rfl rfl (am_bk [(4, [true, true, true, false])] 5 h)
set_option maxRecDepth 100000 in
theorem bk_47_4 {d : Nat} {R : am_R} {l1 : Int32} {l2 : Int32} {mi : am_MI} {ml : am_ML} (h : (((5 : Int32) ≤ l2 → R (some (.int l1)) mi ml) ∧ (¬ ((5 : Int32) ≤ l2) → am_call d 40 [.ref 22, .int l1] mi ml (am_ri fun r1 mi1 ml1 => am_call d 40 [.ref 22, .int l2] mi1 ml1 (am_ri fun r2 mi2 ml2 => ((0 < (r1 - r2) → am_wp (am_call d) mt_47 R 4 [some (.ref 22), some (.int l2), some (.int (l2 + 1)), none] [] mi2 ml2) ∧ (¬ (0 < (r1 - r2)) → (((r1 - r2) ≠ 0 → am_wp (am_call d) mt_47 R 4 [some (.ref 22), some (.int l1), some (.int (l2 + 1)), none] [] mi2 ml2) ∧ (¬ ((r1 - r2) ≠ 0) → am_call d 44 [.ref 22, .int l2] mi2 ml2 (am_ri fun r3 mi3 ml3 => am_call d 44 [.ref 22, .int l1] mi3 ml3 (am_ri fun r4 mi4 ml4 => ((r3 ≤ r4 → am_wp (am_call d) mt_47 R 4 [some (.ref 22), some (.int l1), some (.int (l2 + 1)), none] [] mi4 ml4) ∧ (¬ (r3 ≤ r4) → am_wp (am_call d) mt_47 R 4 [some (.ref 22), some (.int l2), some (.int (l2 + 1)), none] [] mi4 ml4))))))))))))) :
    am_wp (am_call d) mt_47 R 4 [some (.ref 22), some (.int l1), some (.int l2), none] [] mi ml := am_bk [(4, [true, true, true, false])] 27 h
set_option maxRecDepth 100000 in
/-- Givings.firstSwapBy I -/
theorem bk_48 {d : Nat} {R : am_R} {a : Int32} {mi : am_MI} {ml : am_ML} (h : (vp_in a 5 ∧ (¬ (0 : Int32) < 0 ∧ ¬ (0 : Int32) < 0 ∧ ¬ (Int32.ofNat 12) < 0 ∧ (0 : Int32).toNatClampNeg + (Int32.ofNat 12).toNatClampNeg ≤ am_n (32 + 1 * a.toNatClampNeg) ∧ (0 : Int32).toNatClampNeg + (Int32.ofNat 12).toNatClampNeg ≤ am_n 44 ∧ (match (generalizing := false) am_kd (32 + 1 * a.toNatClampNeg), am_kd 44 with
  | 2, 2 => am_call d 49 [.ref 22] (am_ci mi (32 + 1 * a.toNatClampNeg) (0 : Int32).toNatClampNeg 44 (0 : Int32).toNatClampNeg (Int32.ofNat 12).toNatClampNeg) ml (am_ri fun r1 mi1 ml1 => R (some (.int r1)) mi1 ml1)
  | 3, 3 => am_call d 49 [.ref 22] mi (am_cj ml (32 + 1 * a.toNatClampNeg) (0 : Int32).toNatClampNeg 44 (0 : Int32).toNatClampNeg (Int32.ofNat 12).toNatClampNeg) (am_ri fun r2 mi2 ml2 => R (some (.int r2)) mi2 ml2)
  | _, _ => False)))) :
    am_call (d + 1) 48 [.ref 22, .int a] mi ml R := am_call_t (t := mt_48) (n := 2) rfl rfl rfl rfl (am_bk [] 15 h)
set_option maxRecDepth 100000 in
/-- Givings.firstSwap  -/
theorem bk_49 {d : Nat} {R : am_R} {mi : am_MI} {ml : am_ML} (h : am_wp (am_call d) mt_49 R 2 [some (.ref 22), some (.int (0 : Int32)), none] [] mi ml) :
    am_call (d + 1) 49 [.ref 22] mi ml R := am_call_t (t := mt_49) (n := 3) rfl rfl rfl rfl (am_bk [(2, [true, true, false]), (11, [true, true, true])] 3 h)
set_option maxRecDepth 100000 in
theorem bk_49_2 {d : Nat} {R : am_R} {l1 : Int32} {mi : am_MI} {ml : am_ML} (h : (((mi 1 1) ≤ l1 → R (some (.int (-2 : Int32))) mi ml) ∧ (¬ ((mi 1 1) ≤ l1) → am_wp (am_call d) mt_49 R 11 [some (.ref 22), some (.int l1), some (.int (l1 + (1 : Int32)))] [] mi ml))) :
    am_wp (am_call d) mt_49 R 2 [some (.ref 22), some (.int l1), none] [] mi ml := am_bk [(2, [true, true, false]), (11, [true, true, true])] 10 h
set_option maxRecDepth 100000 in
theorem bk_49_11 {d : Nat} {R : am_R} {l1 : Int32} {l2 : Int32} {mi : am_MI} {ml : am_ML} (h : (((mi 1 1) ≤ l2 → am_wp (am_call d) mt_49 R 2 [some (.ref 22), some (.int (l1 + 1)), none] [] mi ml) ∧ (¬ ((mi 1 1) ≤ l2) → am_call d 50 [.ref 22, .int l1, .int l2] mi ml (am_ri fun r1 mi1 ml1 => ((r1 = 0 → am_wp (am_call d) mt_49 R 11 [some (.ref 22), some (.int l1), some (.int (l2 + 1))] [] mi1 ml1) ∧ (¬ (r1 = 0) → R (some (.int (((20 : Int32) * l1) + l2))) mi1 ml1)))))) :
    am_wp (am_call d) mt_49 R 11 [some (.ref 22), some (.int l1), some (.int l2)] [] mi ml := am_bk [(2, [true, true, false]), (11, [true, true, true])] 16 h
set_option maxRecDepth 100000 in
/-- Givings.pleasesBoth I I -/
theorem bk_50 {d : Nat} {R : am_R} {a : Int32} {b : Int32} {mi : am_MI} {ml : am_ML} (h : (vp_in a 12 ∧ (vp_in b 12 ∧ (((mi 44 a.toNatClampNeg) = (mi 44 b.toNatClampNeg) → am_wp (am_call d) mt_50 R 51 [none, none, none, none, none] [] mi ml) ∧ (¬ ((mi 44 a.toNatClampNeg) = (mi 44 b.toNatClampNeg)) → am_call d 1 [.ref 1, .int (mi 44 a.toNatClampNeg)] mi ml (am_ri fun r1 mi1 ml1 => ((r1 = 0 → am_wp (am_call d) mt_50 R 51 [none, none, none, none, none] [] mi1 ml1) ∧ (¬ (r1 = 0) → am_call d 1 [.ref 1, .int (mi 44 b.toNatClampNeg)] mi1 ml1 (am_ri fun r2 mi2 ml2 => ((r2 = 0 → am_wp (am_call d) mt_50 R 51 [none, none, none, none, none] [] mi2 ml2) ∧ (¬ (r2 = 0) → (vp_in (mi 44 a.toNatClampNeg) 5 ∧ am_need (am_kd (26 + 1 * (mi 44 a.toNatClampNeg).toNatClampNeg) == 2 || am_kd (26 + 1 * (mi 44 a.toNatClampNeg).toNatClampNeg) == 5 || am_kd (26 + 1 * (mi 44 a.toNatClampNeg).toNatClampNeg) == 6 || am_kd (26 + 1 * (mi 44 a.toNatClampNeg).toNatClampNeg) == 10) (vp_in b (am_len mi2 (26 + 1 * (mi 44 a.toNatClampNeg).toNatClampNeg)) ∧ (vp_in (mi 44 a.toNatClampNeg) 5 ∧ am_need (am_kd (26 + 1 * (mi 44 a.toNatClampNeg).toNatClampNeg) == 2 || am_kd (26 + 1 * (mi 44 a.toNatClampNeg).toNatClampNeg) == 5 || am_kd (26 + 1 * (mi 44 a.toNatClampNeg).toNatClampNeg) == 6 || am_kd (26 + 1 * (mi 44 a.toNatClampNeg).toNatClampNeg) == 10) (vp_in a (am_len mi2 (26 + 1 * (mi 44 a.toNatClampNeg).toNatClampNeg)) ∧ (((mi2 (26 + 1 * (mi 44 a.toNatClampNeg).toNatClampNeg) b.toNatClampNeg) ≤ (mi2 (26 + 1 * (mi 44 a.toNatClampNeg).toNatClampNeg) a.toNatClampNeg) → am_wp (am_call d) mt_50 R 51 [none, none, none, none, none] [] mi2 ml2) ∧ (¬ ((mi2 (26 + 1 * (mi 44 a.toNatClampNeg).toNatClampNeg) b.toNatClampNeg) ≤ (mi2 (26 + 1 * (mi 44 a.toNatClampNeg).toNatClampNeg) a.toNatClampNeg)) → (vp_in (mi 44 b.toNatClampNeg) 5 ∧ am_need (am_kd (26 + 1 * (mi 44 b.toNatClampNeg).toNatClampNeg) == 2 || am_kd (26 + 1 * (mi 44 b.toNatClampNeg).toNatClampNeg) == 5 || am_kd (26 + 1 * (mi 44 b.toNatClampNeg).toNatClampNeg) == 6 || am_kd (26 + 1 * (mi 44 b.toNatClampNeg).toNatClampNeg) == 10) (vp_in a (am_len mi2 (26 + 1 * (mi 44 b.toNatClampNeg).toNatClampNeg)) ∧ (vp_in (mi 44 b.toNatClampNeg) 5 ∧ am_need (am_kd (26 + 1 * (mi 44 b.toNatClampNeg).toNatClampNeg) == 2 || am_kd (26 + 1 * (mi 44 b.toNatClampNeg).toNatClampNeg) == 5 || am_kd (26 + 1 * (mi 44 b.toNatClampNeg).toNatClampNeg) == 6 || am_kd (26 + 1 * (mi 44 b.toNatClampNeg).toNatClampNeg) == 10) (vp_in b (am_len mi2 (26 + 1 * (mi 44 b.toNatClampNeg).toNatClampNeg)) ∧ (((mi2 (26 + 1 * (mi 44 b.toNatClampNeg).toNatClampNeg) a.toNatClampNeg) ≤ (mi2 (26 + 1 * (mi 44 b.toNatClampNeg).toNatClampNeg) b.toNatClampNeg) → am_wp (am_call d) mt_50 R 51 [none, none, none, none, none] [] mi2 ml2) ∧ (¬ ((mi2 (26 + 1 * (mi 44 b.toNatClampNeg).toNatClampNeg) a.toNatClampNeg) ≤ (mi2 (26 + 1 * (mi 44 b.toNatClampNeg).toNatClampNeg) b.toNatClampNeg)) → am_wp (am_call d) mt_50 R 52 [none, none, none, none, none] [.int (1 : Int32)] mi2 ml2))))))))))))))))))))))) :
    am_call (d + 1) 50 [.ref 22, .int a, .int b] mi ml R := am_call_t (t := mt_50) (n := 5) rfl rfl rfl rfl (am_bk [(51, [false, false, false, false, false]), (52, [false, false, false, false, false])] 52 h)
set_option maxRecDepth 100000 in
theorem bk_50_51 {d : Nat} {R : am_R} {mi : am_MI} {ml : am_ML} (h : am_wp (am_call d) mt_50 R 52 [none, none, none, none, none] [.int (0 : Int32)] mi ml) :
    am_wp (am_call d) mt_50 R 51 [none, none, none, none, none] [] mi ml := am_bk [(51, [false, false, false, false, false]), (52, [false, false, false, false, false])] 2 h
set_option maxRecDepth 100000 in
theorem bk_50_52 {d : Nat} {R : am_R} {s0 : Int32} {mi : am_MI} {ml : am_ML} (h : ((s0 = 0 ∨ s0 = 1) ∧ R (some (.int s0)) mi ml)) :
    am_wp (am_call d) mt_50 R 52 [none, none, none, none, none] [.int s0] mi ml := am_bk [(51, [false, false, false, false, false]), (52, [false, false, false, false, false])] 1 h
set_option maxRecDepth 100000 in
/-- Givings.swapAll I -/
theorem bk_51 {d : Nat} {R : am_R} {a : Int32} {mi : am_MI} {ml : am_ML} (h : am_call d 48 [.ref 22, .int a] mi ml (am_ri fun r1 mi1 ml1 => am_wp (am_call d) mt_51 R 6 [some (.ref 22), none, some (.int r1), some (.int (0 : Int32)), none] [] mi1 ml1)) :
    am_call (d + 1) 51 [.ref 22, .int a] mi ml R := am_call_t (t := mt_51) (n := 5) rfl rfl rfl rfl (am_bk [(6, [true, false, true, true, false])] 7 h)
set_option maxRecDepth 100000 in
theorem bk_51_6 {d : Nat} {R : am_R} {l2 : Int32} {l3 : Int32} {mi : am_MI} {ml : am_ML} (h : (((50 : Int32) ≤ l3 → am_call d 52 [.ref 22] mi ml (am_rv fun mi1 ml1 => R (some (.int l3)) mi1 ml1)) ∧ (¬ ((50 : Int32) ≤ l3) → ((l2 = (-2 : Int32) → am_call d 52 [.ref 22] mi ml (am_rv fun mi2 ml2 => R (some (.int l3)) mi2 ml2)) ∧ (¬ (l2 = (-2 : Int32)) → (¬ (20 : Int32) = 0 ∧ (vp_in (l2 / (20 : Int32)) 12 ∧ (¬ (20 : Int32) = 0 ∧ (¬ (20 : Int32) = 0 ∧ (vp_in (am_rem l2 (20 : Int32)) 12 ∧ (vp_in (l2 / (20 : Int32)) 12 ∧ (¬ (20 : Int32) = 0 ∧ (vp_in (am_rem l2 (20 : Int32)) 12 ∧ am_call d 49 [.ref 22] (am_ui (am_ui mi 44 (l2 / (20 : Int32)).toNatClampNeg (mi 44 (am_rem l2 (20 : Int32)).toNatClampNeg)) 44 (am_rem l2 (20 : Int32)).toNatClampNeg (mi 44 (l2 / (20 : Int32)).toNatClampNeg)) ml (am_ri fun r3 mi3 ml3 => am_wp (am_call d) mt_51 R 6 [some (.ref 22), none, some (.int r3), some (.int (l3 + 1)), none] [] mi3 ml3)))))))))))))) :
    am_wp (am_call d) mt_51 R 6 [some (.ref 22), none, some (.int l2), some (.int l3), none] [] mi ml := am_bk [(6, [true, false, true, true, false])] 38 h
set_option maxRecDepth 100000 in
/-- Givings.sumTried  -/
theorem bk_52 {d : Nat} {R : am_R} {mi : am_MI} {ml : am_ML} (h : am_call d 275 [.ref 45, .int (0 : Int32)] mi ml (am_rv fun mi1 ml1 => am_wp (am_call d) mt_52 R 6 [some (.ref 22), some (.int (0 : Int32)), none] [] mi1 ml1)) :
    am_call (d + 1) 52 [.ref 22] mi ml R := am_call_t (t := mt_52) (n := 3) rfl rfl rfl rfl (am_bk [(6, [true, true, false])] 7 h)
set_option maxRecDepth 100000 in
theorem bk_52_6 {d : Nat} {R : am_R} {l1 : Int32} {mi : am_MI} {ml : am_ML} (h : (((mi 1 1) ≤ l1 → R none mi ml) ∧ (¬ ((mi 1 1) ≤ l1) → (vp_in l1 12 ∧ am_call d 1 [.ref 1, .int (mi 44 l1.toNatClampNeg)] mi ml (am_ri fun r1 mi1 ml1 => ((r1 = 0 → am_wp (am_call d) mt_52 R 6 [some (.ref 22), some (.int (l1 + 1)), none] [] mi1 ml1) ∧ (¬ (r1 = 0) → (vp_in (mi 44 l1.toNatClampNeg) 5 ∧ (vp_in (mi 44 l1.toNatClampNeg) 5 ∧ am_need (am_kd (26 + 1 * (mi 44 l1.toNatClampNeg).toNatClampNeg) == 2 || am_kd (26 + 1 * (mi 44 l1.toNatClampNeg).toNatClampNeg) == 5 || am_kd (26 + 1 * (mi 44 l1.toNatClampNeg).toNatClampNeg) == 6 || am_kd (26 + 1 * (mi 44 l1.toNatClampNeg).toNatClampNeg) == 10) (vp_in l1 (am_len mi1 (26 + 1 * (mi 44 l1.toNatClampNeg).toNatClampNeg)) ∧ (vp_in (mi 44 l1.toNatClampNeg) 5 ∧ am_wp (am_call d) mt_52 R 6 [some (.ref 22), some (.int (l1 + 1)), none] [] (am_ui mi1 45 (mi 44 l1.toNatClampNeg).toNatClampNeg ((mi1 45 (mi 44 l1.toNatClampNeg).toNatClampNeg) + (mi1 (26 + 1 * (mi 44 l1.toNatClampNeg).toNatClampNeg) l1.toNatClampNeg))) ml1))))))))))) :
    am_wp (am_call d) mt_52 R 6 [some (.ref 22), some (.int l1), none] [] mi ml := am_bk [(6, [true, true, false])] 31 h
set_option maxRecDepth 100000 in
/-- Givings.divideBig I -/
theorem bk_53 {d : Nat} {R : am_R} {a : Int32} {mi : am_MI} {ml : am_ML} (h : am_wp (am_call d) mt_53 R 4 [some (.ref 22), some (.int a), some (.int (0 : Int32)), some (.int (1 : Int32)), none, none] [] mi ml) :
    am_call (d + 1) 53 [.ref 22, .int a] mi ml R := am_call_t (t := mt_53) (n := 6) rfl rfl rfl rfl (am_bk [(4, [true, true, true, true, false, false]), (22, [true, true, true, true, false, false]), (58, [true, false, true, true, false, false]), (61, [true, false, true, true, true, true])] 5 h)
set_option maxRecDepth 100000 in
theorem bk_53_4 {d : Nat} {R : am_R} {l1 : Int32} {l2 : Int32} {l3 : Int32} {mi : am_MI} {ml : am_ML} (h : (((mi 1 1) ≤ l3 → (vp_in l1 5 ∧ (¬ (0 : Int32) < 0 ∧ ¬ (0 : Int32) < 0 ∧ ¬ (Int32.ofNat 12) < 0 ∧ (0 : Int32).toNatClampNeg + (Int32.ofNat 12).toNatClampNeg ≤ am_n (32 + 1 * l1.toNatClampNeg) ∧ (0 : Int32).toNatClampNeg + (Int32.ofNat 12).toNatClampNeg ≤ am_n 44 ∧ (match (generalizing := false) am_kd (32 + 1 * l1.toNatClampNeg), am_kd 44 with
  | 2, 2 => (vp_in l2 12 ∧ am_call d 52 [.ref 22] (am_ui (am_ci mi (32 + 1 * l1.toNatClampNeg) (0 : Int32).toNatClampNeg 44 (0 : Int32).toNatClampNeg (Int32.ofNat 12).toNatClampNeg) 44 l2.toNatClampNeg (-2 : Int32)) ml (am_rv fun mi1 ml1 => (((mi1 1 2) ≤ 0 → am_wp (am_call d) mt_53 R 58 [some (.ref 22), none, some (.int l2), some (.int (mi1 1 2)), none, none] [.int (0 : Int32)] mi1 ml1) ∧ (¬ ((mi1 1 2) ≤ 0) → am_call d 4 [.ref 1, .int (2 : Int32), .int l2] mi1 ml1 (am_ri fun r2 mi2 ml2 => (¬ (mi1 1 2) = 0 ∧ am_wp (am_call d) mt_53 R 58 [some (.ref 22), none, some (.int l2), some (.int (mi1 1 2)), none, none] [.int (r2 / (mi1 1 2))] mi2 ml2))))))
  | 3, 3 => (vp_in l2 12 ∧ am_call d 52 [.ref 22] (am_ui mi 44 l2.toNatClampNeg (-2 : Int32)) (am_cj ml (32 + 1 * l1.toNatClampNeg) (0 : Int32).toNatClampNeg 44 (0 : Int32).toNatClampNeg (Int32.ofNat 12).toNatClampNeg) (am_rv fun mi3 ml3 => (((mi3 1 2) ≤ 0 → am_wp (am_call d) mt_53 R 58 [some (.ref 22), none, some (.int l2), some (.int (mi3 1 2)), none, none] [.int (0 : Int32)] mi3 ml3) ∧ (¬ ((mi3 1 2) ≤ 0) → am_call d 4 [.ref 1, .int (2 : Int32), .int l2] mi3 ml3 (am_ri fun r4 mi4 ml4 => (¬ (mi3 1 2) = 0 ∧ am_wp (am_call d) mt_53 R 58 [some (.ref 22), none, some (.int l2), some (.int (mi3 1 2)), none, none] [.int (r4 / (mi3 1 2))] mi4 ml4))))))
  | _, _ => False)))) ∧ (¬ ((mi 1 1) ≤ l3) → am_call d 4 [.ref 1, .int (2 : Int32), .int l3] mi ml (am_ri fun r5 mi5 ml5 => am_call d 4 [.ref 1, .int (2 : Int32), .int l2] mi5 ml5 (am_ri fun r6 mi6 ml6 => ((r5 ≤ r6 → am_wp (am_call d) mt_53 R 22 [some (.ref 22), some (.int l1), some (.int l2), some (.int l3), none, none] [] mi6 ml6) ∧ (¬ (r5 ≤ r6) → am_wp (am_call d) mt_53 R 22 [some (.ref 22), some (.int l1), some (.int l3), some (.int l3), none, none] [] mi6 ml6))))))) :
    am_wp (am_call d) mt_53 R 4 [some (.ref 22), some (.int l1), some (.int l2), some (.int l3), none, none] [] mi ml := am_bk [(4, [true, true, true, true, false, false]), (22, [true, true, true, true, false, false]), (58, [true, false, true, true, false, false]), (61, [true, false, true, true, true, true])] 39 h
set_option maxRecDepth 100000 in
theorem bk_53_22 {d : Nat} {R : am_R} {l1 : Int32} {l2 : Int32} {l3 : Int32} {mi : am_MI} {ml : am_ML} (h : am_wp (am_call d) mt_53 R 4 [some (.ref 22), some (.int l1), some (.int l2), some (.int (l3 + 1)), none, none] [] mi ml) :
    am_wp (am_call d) mt_53 R 22 [some (.ref 22), some (.int l1), some (.int l2), some (.int l3), none, none] [] mi ml := am_bk [(4, [true, true, true, true, false, false]), (22, [true, true, true, true, false, false]), (58, [true, false, true, true, false, false]), (61, [true, false, true, true, true, true])] 3 h
set_option maxRecDepth 100000 in
theorem bk_53_58 {d : Nat} {R : am_R} {l2 : Int32} {l3 : Int32} {s0 : Int32} {mi : am_MI} {ml : am_ML} (h : am_wp (am_call d) mt_53 R 61 [some (.ref 22), none, some (.int l2), some (.int l3), some (.int s0), some (.int (0 : Int32))] [] mi ml) :
    am_wp (am_call d) mt_53 R 58 [some (.ref 22), none, some (.int l2), some (.int l3), none, none] [.int s0] mi ml := am_bk [(4, [true, true, true, true, false, false]), (22, [true, true, true, true, false, false]), (58, [true, false, true, true, false, false]), (61, [true, false, true, true, true, true])] 4 h
set_option maxRecDepth 100000 in
theorem bk_53_61 {d : Nat} {R : am_R} {l2 : Int32} {l3 : Int32} {l4 : Int32} {l5 : Int32} {mi : am_MI} {ml : am_ML} (h : ((l3 ≤ l5 → R none mi ml) ∧ (¬ (l3 ≤ l5) → (vp_in l5 5 ∧ am_call d 117 [.ref 20, .int l5, .int l2, .int l4] mi ml (am_ri fun r1 mi1 ml1 => (vp_in l5 5 ∧ am_wp (am_call d) mt_53 R 61 [some (.ref 22), none, some (.int l2), some (.int l3), some (.int l4), some (.int (l5 + 1))] [] (am_ui mi1 45 l5.toNatClampNeg ((mi 45 l5.toNatClampNeg) + r1)) ml1)))))) :
    am_wp (am_call d) mt_53 R 61 [some (.ref 22), none, some (.int l2), some (.int l3), some (.int l4), some (.int l5)] [] mi ml := am_bk [(4, [true, true, true, true, false, false]), (22, [true, true, true, true, false, false]), (58, [true, false, true, true, false, false]), (61, [true, false, true, true, true, true])] 19 h
set_option maxRecDepth 100000 in
/-- Givings.neverEaten I I -/
theorem bk_54 {d : Nat} {R : am_R} {a : Int32} {b : Int32} {mi : am_MI} {ml : am_ML} (h : am_wp (am_call d) mt_54 R 4 [some (.ref 22), some (.int a), some (.int b), some (.int (0 : Int32)), some (.int (0 : Int32))] [] mi ml) :
    am_call (d + 1) 54 [.ref 22, .int a, .int b] mi ml R := am_call_t (t := mt_54) (n := 5) rfl rfl rfl rfl (am_bk [(4, [true, true, true, true, true])] 5 h)
set_option maxRecDepth 100000 in
theorem bk_54_4 {d : Nat} {R : am_R} {l1 : Int32} {l2 : Int32} {l3 : Int32} {l4 : Int32} {mi : am_MI} {ml : am_ML} (h : (((mi 1 1) ≤ l4 → R (some (.int l3)) mi ml) ∧ (¬ ((mi 1 1) ≤ l4) → (vp_in l1 5 ∧ am_need (am_kd (32 + 1 * l1.toNatClampNeg) == 2 || am_kd (32 + 1 * l1.toNatClampNeg) == 5 || am_kd (32 + 1 * l1.toNatClampNeg) == 6 || am_kd (32 + 1 * l1.toNatClampNeg) == 10) (vp_in l4 (am_len mi (32 + 1 * l1.toNatClampNeg)) ∧ (((mi (32 + 1 * l1.toNatClampNeg) l4.toNatClampNeg) ≠ l2 → am_wp (am_call d) mt_54 R 4 [some (.ref 22), some (.int l1), some (.int l2), some (.int l3), some (.int (l4 + 1))] [] mi ml) ∧ (¬ ((mi (32 + 1 * l1.toNatClampNeg) l4.toNatClampNeg) ≠ l2) → am_call d 9 [.ref 1, .int l2, .int l4] mi ml (am_ri fun r1 mi1 ml1 => ((r1 ≠ (-1 : Int32) → am_wp (am_call d) mt_54 R 4 [some (.ref 22), some (.int l1), some (.int l2), some (.int l3), some (.int (l4 + 1))] [] mi1 ml1) ∧ (¬ (r1 ≠ (-1 : Int32)) → am_wp (am_call d) mt_54 R 4 [some (.ref 22), some (.int l1), some (.int l2), some (.int (l3 + 1)), some (.int (l4 + 1))] [] mi1 ml1)))))))))) :
    am_wp (am_call d) mt_54 R 4 [some (.ref 22), some (.int l1), some (.int l2), some (.int l3), some (.int l4)] [] mi ml := am_bk [(4, [true, true, true, true, true])] 24 h
set_option maxRecDepth 100000 in
/-- Givings.daysLate I I -/
theorem bk_55 {d : Nat} {R : am_R} {a : Int32} {b : Int32} {mi : am_MI} {ml : am_ML} (h : am_wp (am_call d) mt_55 R 4 [some (.ref 22), some (.int a), some (.int b), some (.int (0 : Int32)), some (.int (0 : Int32))] [] mi ml) :
    am_call (d + 1) 55 [.ref 22, .int a, .int b] mi ml R := am_call_t (t := mt_55) (n := 5) rfl rfl rfl rfl (am_bk [(4, [true, true, true, true, true])] 5 h)
set_option maxRecDepth 100000 in
theorem bk_55_4 {d : Nat} {R : am_R} {l1 : Int32} {l2 : Int32} {l3 : Int32} {l4 : Int32} {mi : am_MI} {ml : am_ML} (h : (((mi 1 1) ≤ l4 → R (some (.int l3)) mi ml) ∧ (¬ ((mi 1 1) ≤ l4) → (vp_in l1 5 ∧ am_need (am_kd (32 + 1 * l1.toNatClampNeg) == 2 || am_kd (32 + 1 * l1.toNatClampNeg) == 5 || am_kd (32 + 1 * l1.toNatClampNeg) == 6 || am_kd (32 + 1 * l1.toNatClampNeg) == 10) (vp_in l4 (am_len mi (32 + 1 * l1.toNatClampNeg)) ∧ (((mi (32 + 1 * l1.toNatClampNeg) l4.toNatClampNeg) ≠ l2 → am_wp (am_call d) mt_55 R 4 [some (.ref 22), some (.int l1), some (.int l2), some (.int l3), some (.int (l4 + 1))] [] mi ml) ∧ (¬ ((mi (32 + 1 * l1.toNatClampNeg) l4.toNatClampNeg) ≠ l2) → am_call d 9 [.ref 1, .int l2, .int l4] mi ml (am_ri fun r1 mi1 ml1 => am_wp (am_call d) mt_55 R 4 [some (.ref 22), some (.int l1), some (.int l2), some (.int (l3 + (am_max (0 : Int32) r1))), some (.int (l4 + 1))] [] mi1 ml1)))))))) :
    am_wp (am_call d) mt_55 R 4 [some (.ref 22), some (.int l1), some (.int l2), some (.int l3), some (.int l4)] [] mi ml := am_bk [(4, [true, true, true, true, true])] 26 h
set_option maxRecDepth 100000 in
/-- Givings.ownAfter I I I -/
theorem bk_56 {d : Nat} {R : am_R} {a : Int32} {b : Int32} {x : Int32} {mi : am_MI} {ml : am_ML} (h : am_wp (am_call d) mt_56 R 4 [some (.ref 22), some (.int a), some (.int b), some (.int x), some (.int (0 : Int32)), some (.int (0 : Int32))] [] mi ml) :
    am_call (d + 1) 56 [.ref 22, .int a, .int b, .int x] mi ml R := am_call_t (t := mt_56) (n := 6) rfl rfl rfl rfl (am_bk [(4, [true, true, true, true, true, true])] 5 h)
set_option maxRecDepth 100000 in
theorem bk_56_4 {d : Nat} {R : am_R} {l1 : Int32} {l2 : Int32} {l3 : Int32} {l4 : Int32} {l5 : Int32} {mi : am_MI} {ml : am_ML} (h : (((mi 1 1) ≤ l5 → R (some (.int l4)) mi ml) ∧ (¬ ((mi 1 1) ≤ l5) → (vp_in l1 5 ∧ am_need (am_kd (32 + 1 * l1.toNatClampNeg) == 2 || am_kd (32 + 1 * l1.toNatClampNeg) == 5 || am_kd (32 + 1 * l1.toNatClampNeg) == 6 || am_kd (32 + 1 * l1.toNatClampNeg) == 10) (vp_in l5 (am_len mi (32 + 1 * l1.toNatClampNeg)) ∧ (((mi (32 + 1 * l1.toNatClampNeg) l5.toNatClampNeg) ≠ l2 → am_wp (am_call d) mt_56 R 4 [some (.ref 22), some (.int l1), some (.int l2), some (.int l3), some (.int l4), some (.int (l5 + 1))] [] mi ml) ∧ (¬ ((mi (32 + 1 * l1.toNatClampNeg) l5.toNatClampNeg) ≠ l2) → am_call d 4 [.ref 1, .int (0 : Int32), .int l5] mi ml (am_ri fun r1 mi1 ml1 => ((r1 ≤ l3 → am_wp (am_call d) mt_56 R 4 [some (.ref 22), some (.int l1), some (.int l2), some (.int l3), some (.int l4), some (.int (l5 + 1))] [] mi1 ml1) ∧ (¬ (r1 ≤ l3) → am_wp (am_call d) mt_56 R 4 [some (.ref 22), some (.int l1), some (.int l2), some (.int l3), some (.int (l4 ||| (am_shl (1 : Int32) l5))), some (.int (l5 + 1))] [] mi1 ml1)))))))))) :
    am_wp (am_call d) mt_56 R 4 [some (.ref 22), some (.int l1), some (.int l2), some (.int l3), some (.int l4), some (.int l5)] [] mi ml := am_bk [(4, [true, true, true, true, true, true])] 29 h
set_option maxRecDepth 100000 in
/-- Givings.takeMine I I -/
theorem bk_57 {d : Nat} {R : am_R} {a : Int32} {b : Int32} {mi : am_MI} {ml : am_ML} (h : am_wp (am_call d) mt_57 R 5 [some (.ref 22), some (.int a), some (.int b), some (.int (0 : Int32))] [] (am_ui mi 22 12 (0 : Int32)) ml) :
    am_call (d + 1) 57 [.ref 22, .int a, .int b] mi ml R := am_call_t (t := mt_57) (n := 4) rfl rfl rfl rfl (am_bk [(5, [true, true, true, true])] 6 h)
set_option maxRecDepth 100000 in
theorem bk_57_5 {d : Nat} {R : am_R} {l1 : Int32} {l2 : Int32} {l3 : Int32} {mi : am_MI} {ml : am_ML} (h : (((mi 1 1) ≤ l3 → R none mi ml) ∧ (¬ ((mi 1 1) ≤ l3) → (vp_in l1 5 ∧ (vp_in l3 12 ∧ am_need (am_kd (32 + 1 * l1.toNatClampNeg) == 2 || am_kd (32 + 1 * l1.toNatClampNeg) == 5 || am_kd (32 + 1 * l1.toNatClampNeg) == 6 || am_kd (32 + 1 * l1.toNatClampNeg) == 10) (vp_in (mi 23 l3.toNatClampNeg) (am_len mi (32 + 1 * l1.toNatClampNeg)) ∧ (((mi (32 + 1 * l1.toNatClampNeg) (mi 23 l3.toNatClampNeg).toNatClampNeg) ≠ l2 → am_wp (am_call d) mt_57 R 5 [some (.ref 22), some (.int l1), some (.int l2), some (.int (l3 + 1))] [] mi ml) ∧ (¬ ((mi (32 + 1 * l1.toNatClampNeg) (mi 23 l3.toNatClampNeg).toNatClampNeg) ≠ l2) → (vp_in l3 12 ∧ (vp_in (mi 22 12) 12 ∧ am_wp (am_call d) mt_57 R 5 [some (.ref 22), some (.int l1), some (.int l2), some (.int (l3 + 1))] [] (am_ui (am_ui mi 46 (mi 22 12).toNatClampNeg (mi 23 l3.toNatClampNeg)) 22 12 ((mi 22 12) + (1 : Int32))) ml)))))))))) :
    am_wp (am_call d) mt_57 R 5 [some (.ref 22), some (.int l1), some (.int l2), some (.int l3)] [] mi ml := am_bk [(5, [true, true, true, true])] 34 h
set_option maxRecDepth 100000 in
/-- Givings.gathered I I -/
theorem bk_58 {d : Nat} {R : am_R} {a : Int32} {b : Int32} {mi : am_MI} {ml : am_ML} (h : ((0 < b → am_wp (am_call d) mt_58 R 8 [some (.ref 22), some (.int a), some (.int b), some (.int (0 : Int32)), some (.int (0 : Int32)), none, none, none] [] mi ml) ∧ (¬ (0 < b) → R (some (.int (0 : Int32))) mi ml))) :
    am_call (d + 1) 58 [.ref 22, .int a, .int b] mi ml R := am_call_t (t := mt_58) (n := 8) rfl rfl rfl rfl (am_bk [(8, [true, true, true, true, true, false, false, false])] 7 h)
set_option maxRecDepth 100000 in
theorem bk_58_8 {d : Nat} {R : am_R} {l1 : Int32} {l2 : Int32} {l3 : Int32} {l4 : Int32} {mi : am_MI} {ml : am_ML} (h : (((mi 22 12) ≤ l4 → R (some (.int l3)) mi ml) ∧ (¬ ((mi 22 12) ≤ l4) → (¬ l2 = 0 ∧ (((mi 22 12) ≤ (((l4 - (am_rem l4 l2)) + l2) - (1 : Int32)) → (vp_in l4 12 ∧ am_call d 4 [.ref 1, .int (0 : Int32), .int (mi 46 l4.toNatClampNeg)] mi ml (am_ri fun r1 mi1 ml1 => (vp_in l4 12 ∧ (vp_in l4 12 ∧ am_call d 4 [.ref 1, .int (2 : Int32), .int (mi1 46 l4.toNatClampNeg)] mi1 ml1 (am_ri fun r2 mi2 ml2 => am_call d 116 [.ref 20, .int l1, .int (mi1 46 l4.toNatClampNeg), .int r2, .int ((24 : Int32) - r1)] mi2 ml2 (am_ri fun r3 mi3 ml3 => am_wp (am_call d) mt_58 R 8 [some (.ref 22), some (.int l1), some (.int l2), some (.int (l3 + r3)), some (.int (l4 + 1)), none, none, none] [] mi3 ml3))))))) ∧ (¬ ((mi 22 12) ≤ (((l4 - (am_rem l4 l2)) + l2) - (1 : Int32))) → (vp_in (((l4 - (am_rem l4 l2)) + l2) - (1 : Int32)) 12 ∧ am_call d 4 [.ref 1, .int (0 : Int32), .int (mi 46 (((l4 - (am_rem l4 l2)) + l2) - (1 : Int32)).toNatClampNeg)] mi ml (am_ri fun r4 mi4 ml4 => (vp_in l4 12 ∧ am_call d 4 [.ref 1, .int (0 : Int32), .int (mi4 46 l4.toNatClampNeg)] mi4 ml4 (am_ri fun r5 mi5 ml5 => (vp_in l4 12 ∧ (vp_in l4 12 ∧ am_call d 4 [.ref 1, .int (2 : Int32), .int (mi5 46 l4.toNatClampNeg)] mi5 ml5 (am_ri fun r6 mi6 ml6 => am_call d 116 [.ref 20, .int l1, .int (mi5 46 l4.toNatClampNeg), .int r6, .int (r4 - r5)] mi6 ml6 (am_ri fun r7 mi7 ml7 => am_wp (am_call d) mt_58 R 8 [some (.ref 22), some (.int l1), some (.int l2), some (.int (l3 + r7)), some (.int (l4 + 1)), none, none, none] [] mi7 ml7)))))))))))))) :
    am_wp (am_call d) mt_58 R 8 [some (.ref 22), some (.int l1), some (.int l2), some (.int l3), some (.int l4), none, none, none] [] mi ml := am_bk [(8, [true, true, true, true, true, false, false, false])] 62 h
set_option maxRecDepth 100000 in
/-- Givings.bestGathering I -/
theorem bk_59 {d : Nat} {R : am_R} {a : Int32} {mi : am_MI} {ml : am_ML} (h : am_call d 58 [.ref 22, .int a, .int (1 : Int32)] mi ml (am_ri fun r1 mi1 ml1 => am_wp (am_call d) mt_59 R 9 [some (.ref 22), some (.int a), some (.int (1 : Int32)), some (.int r1), some (.int (2 : Int32)), none] [] mi1 ml1)) :
    am_call (d + 1) 59 [.ref 22, .int a] mi ml R := am_call_t (t := mt_59) (n := 6) rfl rfl rfl rfl (am_bk [(9, [true, true, true, true, true, false])] 10 h)
set_option maxRecDepth 100000 in
theorem bk_59_9 {d : Nat} {R : am_R} {l1 : Int32} {l2 : Int32} {l3 : Int32} {l4 : Int32} {mi : am_MI} {ml : am_ML} (h : (((9 : Int32) < l4 → R (some (.int l2)) mi ml) ∧ (¬ ((9 : Int32) < l4) → am_call d 58 [.ref 22, .int l1, .int l4] mi ml (am_ri fun r1 mi1 ml1 => ((r1 ≤ l3 → am_wp (am_call d) mt_59 R 9 [some (.ref 22), some (.int l1), some (.int l2), some (.int l3), some (.int (l4 + 1)), none] [] mi1 ml1) ∧ (¬ (r1 ≤ l3) → am_wp (am_call d) mt_59 R 9 [some (.ref 22), some (.int l1), some (.int l4), some (.int r1), some (.int (l4 + 1)), none] [] mi1 ml1)))))) :
    am_wp (am_call d) mt_59 R 9 [some (.ref 22), some (.int l1), some (.int l2), some (.int l3), some (.int l4), none] [] mi ml := am_bk [(9, [true, true, true, true, true, false])] 18 h
set_option maxRecDepth 100000 in
/-- Givings.giveTwice I I -/
theorem bk_60 {d : Nat} {R : am_R} {a : Int32} {b : Int32} {mi : am_MI} {ml : am_ML} (h : (vp_in a 5 ∧ (¬ (0 : Int32) < 0 ∧ ¬ (0 : Int32) < 0 ∧ ¬ (Int32.ofNat 5) < 0 ∧ (0 : Int32).toNatClampNeg + (Int32.ofNat 5).toNatClampNeg ≤ am_n (38 + 1 * a.toNatClampNeg) ∧ (0 : Int32).toNatClampNeg + (Int32.ofNat 5).toNatClampNeg ≤ am_n 45 ∧ (match (generalizing := false) am_kd (38 + 1 * a.toNatClampNeg), am_kd 45 with
  | 2, 2 => am_wp (am_call d) mt_60 R 14 [some (.ref 22), some (.int a), some (.int b), some (.int (0 : Int32)), none] [] (am_ci mi (38 + 1 * a.toNatClampNeg) (0 : Int32).toNatClampNeg 45 (0 : Int32).toNatClampNeg (Int32.ofNat 5).toNatClampNeg) ml
  | 3, 3 => am_wp (am_call d) mt_60 R 14 [some (.ref 22), some (.int a), some (.int b), some (.int (0 : Int32)), none] [] mi (am_cj ml (38 + 1 * a.toNatClampNeg) (0 : Int32).toNatClampNeg 45 (0 : Int32).toNatClampNeg (Int32.ofNat 5).toNatClampNeg)
  | _, _ => False)))) :
    am_call (d + 1) 60 [.ref 22, .int a, .int b] mi ml R := am_call_t (t := mt_60) (n := 5) rfl rfl rfl rfl (am_bk [(14, [true, true, true, true, false]), (21, [true, true, true, true, true])] 15 h)
set_option maxRecDepth 100000 in
theorem bk_60_14 {d : Nat} {R : am_R} {l1 : Int32} {l2 : Int32} {l3 : Int32} {mi : am_MI} {ml : am_ML} (h : (((mi 1 1) ≤ l3 → R none mi ml) ∧ (¬ ((mi 1 1) ≤ l3) → am_wp (am_call d) mt_60 R 21 [some (.ref 22), some (.int l1), some (.int l2), some (.int l3), some (.int (0 : Int32))] [] mi ml))) :
    am_wp (am_call d) mt_60 R 14 [some (.ref 22), some (.int l1), some (.int l2), some (.int l3), none] [] mi ml := am_bk [(14, [true, true, true, true, false]), (21, [true, true, true, true, true])] 8 h
set_option maxRecDepth 100000 in
theorem bk_60_21 {d : Nat} {R : am_R} {l1 : Int32} {l2 : Int32} {l3 : Int32} {l4 : Int32} {mi : am_MI} {ml : am_ML} (h : (((mi 1 2) ≤ l4 → am_call d 34 [.ref 22, .int l1, .int ((mi 1 1) + l3), .ref 45] mi ml (am_ri fun r1 mi1 ml1 => am_wp (am_call d) mt_60 R 14 [some (.ref 22), some (.int l1), some (.int l2), some (.int (l3 + 1)), none] [] mi1 ml1)) ∧ (¬ ((mi 1 2) ≤ l4) → (vp_in l3 12 ∧ am_call d 117 [.ref 20, .int l4, .int (mi 23 l3.toNatClampNeg), .int l2] mi ml (am_ri fun r2 mi2 ml2 => (vp_in l4 5 ∧ am_wp (am_call d) mt_60 R 21 [some (.ref 22), some (.int l1), some (.int l2), some (.int l3), some (.int (l4 + 1))] [] (am_ui mi2 43 l4.toNatClampNeg r2) ml2)))))) :
    am_wp (am_call d) mt_60 R 21 [some (.ref 22), some (.int l1), some (.int l2), some (.int l3), some (.int l4)] [] mi ml := am_bk [(14, [true, true, true, true, false]), (21, [true, true, true, true, true])] 21 h
set_option maxRecDepth 100000 in
/-- Givings.bestPair I -/
theorem bk_61 {d : Nat} {R : am_R} {a : Int32} {mi : am_MI} {ml : am_ML} (h : am_wp (am_call d) mt_61 R 6 [some (.ref 22), some (.int a), some (.int (-2 : Int32)), some (.int (0 : Int32)), some (.int (0 : Int32)), none, none] [] mi ml) :
    am_call (d + 1) 61 [.ref 22, .int a] mi ml R := am_call_t (t := mt_61) (n := 7) rfl rfl rfl rfl (am_bk [(6, [true, true, true, true, true, false, false]), (15, [true, true, true, true, true, true, false])] 7 h)
set_option maxRecDepth 100000 in
theorem bk_61_6 {d : Nat} {R : am_R} {l1 : Int32} {l2 : Int32} {l3 : Int32} {l4 : Int32} {mi : am_MI} {ml : am_ML} (h : (((mi 1 2) ≤ l4 → R (some (.int l2)) mi ml) ∧ (¬ ((mi 1 2) ≤ l4) → am_wp (am_call d) mt_61 R 15 [some (.ref 22), some (.int l1), some (.int l2), some (.int l3), some (.int l4), some (.int (l4 + (1 : Int32))), none] [] mi ml))) :
    am_wp (am_call d) mt_61 R 6 [some (.ref 22), some (.int l1), some (.int l2), some (.int l3), some (.int l4), none, none] [] mi ml := am_bk [(6, [true, true, true, true, true, false, false]), (15, [true, true, true, true, true, true, false])] 10 h
set_option maxRecDepth 100000 in
theorem bk_61_15 {d : Nat} {R : am_R} {l1 : Int32} {l2 : Int32} {l3 : Int32} {l4 : Int32} {l5 : Int32} {mi : am_MI} {ml : am_ML} (h : (((mi 1 2) ≤ l5 → am_wp (am_call d) mt_61 R 6 [some (.ref 22), some (.int l1), some (.int l2), some (.int l3), some (.int (l4 + 1)), none, none] [] mi ml) ∧ (¬ ((mi 1 2) ≤ l5) → am_call d 62 [.ref 22, .int l1, .int l4, .int l5] mi ml (am_ri fun r1 mi1 ml1 => ((r1 ≤ l3 → am_wp (am_call d) mt_61 R 15 [some (.ref 22), some (.int l1), some (.int l2), some (.int l3), some (.int l4), some (.int (l5 + 1)), none] [] mi1 ml1) ∧ (¬ (r1 ≤ l3) → am_wp (am_call d) mt_61 R 15 [some (.ref 22), some (.int l1), some (.int (((10 : Int32) * l4) + l5)), some (.int r1), some (.int l4), some (.int (l5 + 1)), none] [] mi1 ml1)))))) :
    am_wp (am_call d) mt_61 R 15 [some (.ref 22), some (.int l1), some (.int l2), some (.int l3), some (.int l4), some (.int l5), none] [] mi ml := am_bk [(6, [true, true, true, true, true, false, false]), (15, [true, true, true, true, true, true, false])] 25 h
set_option maxRecDepth 100000 in
/-- Givings.gainOf I I I -/
theorem bk_62 {d : Nat} {R : am_R} {a : Int32} {b : Int32} {x : Int32} {mi : am_MI} {ml : am_ML} (h : am_call d 46 [.ref 22, .int b, .int a, .int x] mi ml (am_ri fun r1 mi1 ml1 => am_call d 46 [.ref 22, .int x, .int a, .int b] mi1 ml1 (am_ri fun r2 mi2 ml2 => (vp_in a 5 ∧ am_need (am_kd (38 + 1 * a.toNatClampNeg) == 2 || am_kd (38 + 1 * a.toNatClampNeg) == 5 || am_kd (38 + 1 * a.toNatClampNeg) == 6 || am_kd (38 + 1 * a.toNatClampNeg) == 10) (vp_in b (am_len mi2 (38 + 1 * a.toNatClampNeg)) ∧ (vp_in a 5 ∧ am_need (am_kd (38 + 1 * a.toNatClampNeg) == 2 || am_kd (38 + 1 * a.toNatClampNeg) == 5 || am_kd (38 + 1 * a.toNatClampNeg) == 6 || am_kd (38 + 1 * a.toNatClampNeg) == 10) (vp_in x (am_len mi2 (38 + 1 * a.toNatClampNeg)) ∧ R (some (.int (((r1 + r2) - (mi2 (38 + 1 * a.toNatClampNeg) b.toNatClampNeg)) - (mi2 (38 + 1 * a.toNatClampNeg) x.toNatClampNeg)))) mi2 ml2))))))) :
    am_call (d + 1) 62 [.ref 22, .int a, .int b, .int x] mi ml R := am_call_t (t := mt_62) (n := 4) rfl rfl rfl rfl (am_bk [] 26 h)
set_option maxRecDepth 100000 in
/-- Givings.drawDecembers I I I -/
theorem bk_63 {d : Nat} {R : am_R} {a : Int32} {b : Int32} {x : Int32} {mi : am_MI} {ml : am_ML} (h : am_wp (am_call d) mt_63 R 6 [some (.ref 22), none, some (.int b), some (.int x), some (.int a), some (.int (0 : Int32)), some (.int (0 : Int32))] [] mi ml) :
    am_call (d + 1) 63 [.ref 22, .int a, .int b, .int x] mi ml R := am_call_t (t := mt_63) (n := 7) rfl rfl rfl rfl (am_bk [(6, [true, false, true, true, true, true, true])] 7 h)
set_option maxRecDepth 100000 in
theorem bk_63_6 {d : Nat} {R : am_R} {l2 : Int32} {l3 : Int32} {l4 : Int32} {l5 : Int32} {l6 : Int32} {mi : am_MI} {ml : am_ML} (h : ((l2 ≤ l6 → R (some (.int l5)) mi ml) ∧ (¬ (l2 ≤ l6) → am_call d 64 [.ref 22, .int l4] mi ml (am_ri fun r1 mi1 ml1 => ((l3 ≠ (-1 : Int32) → am_call d 65 [.ref 22, .int l3] mi1 ml1 (am_ri fun r2 mi2 ml2 => ((r2 = 0 → am_wp (am_call d) mt_63 R 6 [some (.ref 22), none, some (.int l2), some (.int l3), some (.int r1), some (.int l5), some (.int (l6 + 1))] [] mi2 ml2) ∧ (¬ (r2 = 0) → am_wp (am_call d) mt_63 R 6 [some (.ref 22), none, some (.int l2), some (.int l3), some (.int r1), some (.int (l5 + 1)), some (.int (l6 + 1))] [] mi2 ml2)))) ∧ (¬ (l3 ≠ (-1 : Int32)) → am_call d 41 [.ref 22] mi1 ml1 (am_ri fun r3 mi3 ml3 => am_wp (am_call d) mt_63 R 6 [some (.ref 22), none, some (.int l2), some (.int l3), some (.int r1), some (.int (l5 + r3)), some (.int (l6 + 1))] [] mi3 ml3))))))) :
    am_wp (am_call d) mt_63 R 6 [some (.ref 22), none, some (.int l2), some (.int l3), some (.int l4), some (.int l5), some (.int l6)] [] mi ml := am_bk [(6, [true, false, true, true, true, true, true])] 19 h
set_option maxRecDepth 100000 in
/-- Givings.drawOne I -/
theorem bk_64 {d : Nat} {R : am_R} {a : Int32} {mi : am_MI} {ml : am_ML} (h : am_call d 275 [.ref 45, .int (0 : Int32)] mi ml (am_rv fun mi1 ml1 => am_wp (am_call d) mt_64 R 8 [some (.ref 22), none, some (.int a), some (.int (0 : Int32)), none] [] mi1 ml1)) :
    am_call (d + 1) 64 [.ref 22, .int a] mi ml R := am_call_t (t := mt_64) (n := 5) rfl rfl rfl rfl (am_bk [(8, [true, false, true, true, false])] 9 h)
set_option maxRecDepth 100000 in
theorem bk_64_8 {d : Nat} {R : am_R} {l2 : Int32} {l3 : Int32} {mi : am_MI} {ml : am_ML} (h : (((mi 1 1) ≤ l3 → R (some (.int l2)) mi ml) ∧ (¬ ((mi 1 1) ≤ l3) → (((mi 1 2) ≤ 0 → R (some (.int l2)) mi ml) ∧ (¬ ((mi 1 2) ≤ 0) → (¬ (mi 1 2) = 0 ∧ (vp_in (am_rem (am_ushr ((l2 * (1103515245 : Int32)) + (12345 : Int32)) (8 : Int32)) (mi 1 2)) 5 ∧ (vp_in (am_rem (am_ushr ((l2 * (1103515245 : Int32)) + (12345 : Int32)) (8 : Int32)) (mi 1 2)) 5 ∧ (vp_in l3 12 ∧ am_need (am_kd (26 + 1 * (am_rem (am_ushr ((l2 * (1103515245 : Int32)) + (12345 : Int32)) (8 : Int32)) (mi 1 2)).toNatClampNeg) == 2 || am_kd (26 + 1 * (am_rem (am_ushr ((l2 * (1103515245 : Int32)) + (12345 : Int32)) (8 : Int32)) (mi 1 2)).toNatClampNeg) == 5 || am_kd (26 + 1 * (am_rem (am_ushr ((l2 * (1103515245 : Int32)) + (12345 : Int32)) (8 : Int32)) (mi 1 2)).toNatClampNeg) == 6 || am_kd (26 + 1 * (am_rem (am_ushr ((l2 * (1103515245 : Int32)) + (12345 : Int32)) (8 : Int32)) (mi 1 2)).toNatClampNeg) == 10) (vp_in (mi 23 l3.toNatClampNeg) (am_len mi (26 + 1 * (am_rem (am_ushr ((l2 * (1103515245 : Int32)) + (12345 : Int32)) (8 : Int32)) (mi 1 2)).toNatClampNeg)) ∧ (vp_in (am_rem (am_ushr ((l2 * (1103515245 : Int32)) + (12345 : Int32)) (8 : Int32)) (mi 1 2)) 5 ∧ am_wp (am_call d) mt_64 R 8 [some (.ref 22), none, some (.int ((l2 * (1103515245 : Int32)) + (12345 : Int32))), some (.int (l3 + 1)), none] [] (am_ui mi 45 (am_rem (am_ushr ((l2 * (1103515245 : Int32)) + (12345 : Int32)) (8 : Int32)) (mi 1 2)).toNatClampNeg ((mi 45 (am_rem (am_ushr ((l2 * (1103515245 : Int32)) + (12345 : Int32)) (8 : Int32)) (mi 1 2)).toNatClampNeg) + (mi (26 + 1 * (am_rem (am_ushr ((l2 * (1103515245 : Int32)) + (12345 : Int32)) (8 : Int32)) (mi 1 2)).toNatClampNeg) (mi 23 l3.toNatClampNeg).toNatClampNeg))) ml))))))))))) :
    am_wp (am_call d) mt_64 R 8 [some (.ref 22), none, some (.int l2), some (.int l3), none] [] mi ml := am_bk [(8, [true, false, true, true, false])] 42 h
set_option maxRecDepth 100000 in
/-- Givings.hasMost I -/
theorem bk_65 {d : Nat} {R : am_R} {a : Int32} {mi : am_MI} {ml : am_ML} (h : am_wp (am_call d) mt_65 R 2 [some (.ref 22), some (.int a), some (.int (0 : Int32))] [] mi ml) :
    am_call (d + 1) 65 [.ref 22, .int a] mi ml R := am_call_t (t := mt_65) (n := 3) rfl rfl rfl rfl (am_bk [(2, [true, true, true])] 3 h)
set_option maxRecDepth 100000 in
theorem bk_65_2 {d : Nat} {R : am_R} {l1 : Int32} {l2 : Int32} {mi : am_MI} {ml : am_ML} (h : (((mi 1 2) ≤ l2 → (((1 : Int32) = 0 ∨ (1 : Int32) = 1) ∧ R (some (.int (1 : Int32))) mi ml)) ∧ (¬ ((mi 1 2) ≤ l2) → ((l2 = l1 → am_wp (am_call d) mt_65 R 2 [some (.ref 22), some (.int l1), some (.int (l2 + 1))] [] mi ml) ∧ (¬ (l2 = l1) → (vp_in l2 5 ∧ (vp_in l1 5 ∧ (((mi 45 l2.toNatClampNeg) < (mi 45 l1.toNatClampNeg) → am_wp (am_call d) mt_65 R 2 [some (.ref 22), some (.int l1), some (.int (l2 + 1))] [] mi ml) ∧ (¬ ((mi 45 l2.toNatClampNeg) < (mi 45 l1.toNatClampNeg)) → (((0 : Int32) = 0 ∨ (0 : Int32) = 1) ∧ R (some (.int (0 : Int32))) mi ml)))))))))) :
    am_wp (am_call d) mt_65 R 2 [some (.ref 22), some (.int l1), some (.int l2)] [] mi ml := am_bk [(2, [true, true, true])] 20 h
end
section
/-! block lemmas of methods 66 to 117 -/
set_option maxRecDepth 100000 in
/-- Law.takeLetter I -/
theorem bk_66 {d : Nat} {R : am_R} {a : Int32} {mi : am_MI} {ml : am_ML} (h : (((mi 15 1) < (120 : Int32) → (vp_in (mi 15 1) 120 ∧ (((1 : Int32) = 0 ∨ (1 : Int32) = 1) ∧ R (some (.int (1 : Int32))) (am_ui (am_ui mi 16 (mi 15 1).toNatClampNeg a) 15 1 ((mi 15 1) + (1 : Int32))) ml))) ∧ (¬ ((mi 15 1) < (120 : Int32)) → (((0 : Int32) = 0 ∨ (0 : Int32) = 1) ∧ R (some (.int (0 : Int32))) mi ml)))) :
    am_call (d + 1) 66 [.ref 15, .int a] mi ml R := am_call_t (t := mt_66) (n := 2) rfl rfl rfl rfl (am_bk [] 18 h)
set_option maxRecDepth 100000 in
/-- Law.becomeLaw  -/
theorem bk_67 {d : Nat} {R : am_R} {mi : am_MI} {ml : am_ML} (h : am_call d 69 [.ref 15] (am_ui (am_ui mi 15 2 (0 : Int32)) 15 4 (0 : Int32)) ml (am_ri fun r1 mi1 ml1 => ((r1 ≠ 0 → (¬ (0 : Int32) < 0 ∧ ¬ (0 : Int32) < 0 ∧ ¬ (mi1 15 4) < 0 ∧ (0 : Int32).toNatClampNeg + (mi1 15 4).toNatClampNeg ≤ 121 ∧ (0 : Int32).toNatClampNeg + (mi1 15 4).toNatClampNeg ≤ 121 ∧ R (some (.int (1 : Int32))) (am_ui (am_ui (am_ci (am_ui mi1 15 1 (0 : Int32)) 17 (0 : Int32).toNatClampNeg 18 (0 : Int32).toNatClampNeg (mi1 15 4).toNatClampNeg) 15 6 (mi1 15 4)) 15 7 ((mi1 15 7) + (1 : Int32))) ml1)) ∧ (¬ (r1 ≠ 0) → R (some (.int ((-100 : Int32) - (mi1 15 2)))) (am_ui mi1 15 1 (0 : Int32)) ml1)))) :
    am_call (d + 1) 67 [.ref 15] mi ml R := am_call_t (t := mt_67) (n := 2) rfl rfl rfl rfl (am_bk [] 35 h)
set_option maxRecDepth 100000 in
/-- Law.stands  -/
theorem bk_68 {d : Nat} {R : am_R} {mi : am_MI} {ml : am_ML} (h : (((mi 15 6) ≤ 0 → (((0 : Int32) = 0 ∨ (0 : Int32) = 1) ∧ R (some (.int (0 : Int32))) mi ml)) ∧ (¬ ((mi 15 6) ≤ 0) → (((1 : Int32) = 0 ∨ (1 : Int32) = 1) ∧ R (some (.int (1 : Int32))) mi ml)))) :
    am_call (d + 1) 68 [.ref 15] mi ml R := am_call_t (t := mt_68) (n := 1) rfl rfl rfl rfl (am_bk [] 6 h)
set_option maxRecDepth 100000 in
/-- Law.readLines  -/
theorem bk_69 {d : Nat} {R : am_R} {mi : am_MI} {ml : am_ML} (h : am_wp (am_call d) mt_69 R 2 [some (.ref 15), some (.int (0 : Int32))] [] mi ml) :
    am_call (d + 1) 69 [.ref 15] mi ml R := am_call_t (t := mt_69) (n := 2) rfl rfl rfl rfl (am_bk [(2, [true, true])] 3 h)
set_option maxRecDepth 100000 in
theorem bk_69_2 {d : Nat} {R : am_R} {l1 : Int32} {mi : am_MI} {ml : am_ML} (h : (((mi 15 1) < l1 → (((0 : Int32) = 0 ∨ (0 : Int32) = 1) ∧ R (some (.int (0 : Int32))) mi ml)) ∧ (¬ ((mi 15 1) < l1) → am_call d 70 [.ref 15] mi ml (am_ri fun r1 mi1 ml1 => ((r1 ≠ 0 → am_call d 76 [.ref 15, .ref 123] mi1 ml1 (am_ri fun r2 mi2 ml2 => ((r2 ≠ 0 → am_wp (am_call d) mt_69 R 2 [some (.ref 15), some (.int (l1 + 1))] [] mi2 ml2) ∧ (¬ (r2 ≠ 0) → (((mi2 15 2) ≠ (mi2 15 1) → (((0 : Int32) = 0 ∨ (0 : Int32) = 1) ∧ R (some (.int (0 : Int32))) mi2 ml2)) ∧ (¬ ((mi2 15 2) ≠ (mi2 15 1)) → (((1 : Int32) = 0 ∨ (1 : Int32) = 1) ∧ R (some (.int (1 : Int32))) mi2 ml2))))))) ∧ (¬ (r1 ≠ 0) → (((0 : Int32) = 0 ∨ (0 : Int32) = 1) ∧ R (some (.int (0 : Int32))) mi1 ml1))))))) :
    am_wp (am_call d) mt_69 R 2 [some (.ref 15), some (.int l1)] [] mi ml := am_bk [(2, [true, true])] 19 h
set_option maxRecDepth 100000 in
/-- Law.readLine  -/
theorem bk_70 {d : Nat} {R : am_R} {mi : am_MI} {ml : am_ML} (h : am_call d 71 [.ref 15, .int (0 : Int32), .int (0 : Int32)] mi ml (am_ri fun r1 mi1 ml1 => ((r1 ≠ 0 → am_call d 76 [.ref 15, .ref 125] mi1 ml1 (am_ri fun r2 mi2 ml2 => ((r2 = 0 → am_call d 77 [.ref 15, .int (-59 : Int32)] mi2 ml2 (am_rv fun mi3 ml3 => (((1 : Int32) = 0 ∨ (1 : Int32) = 1) ∧ R (some (.int (1 : Int32))) mi3 ml3))) ∧ (¬ (r2 = 0) → am_call d 77 [.ref 15, .int (-63 : Int32)] mi2 ml2 (am_rv fun mi4 ml4 => am_call d 71 [.ref 15, .int (0 : Int32), .int (0 : Int32)] mi4 ml4 (am_ri fun r5 mi5 ml5 => ((r5 ≠ 0 → am_call d 77 [.ref 15, .int (-59 : Int32)] mi5 ml5 (am_rv fun mi6 ml6 => (((1 : Int32) = 0 ∨ (1 : Int32) = 1) ∧ R (some (.int (1 : Int32))) mi6 ml6))) ∧ (¬ (r5 ≠ 0) → (((0 : Int32) = 0 ∨ (0 : Int32) = 1) ∧ R (some (.int (0 : Int32))) mi5 ml5))))))))) ∧ (¬ (r1 ≠ 0) → (((0 : Int32) = 0 ∨ (0 : Int32) = 1) ∧ R (some (.int (0 : Int32))) mi1 ml1))))) :
    am_call (d + 1) 70 [.ref 15] mi ml R := am_call_t (t := mt_70) (n := 1) rfl rfl rfl rfl (am_bk [] 22 h)
set_option maxRecDepth 100000 in
/-- Law.readLevel I I -/
theorem bk_71 {d : Nat} {R : am_R} {a : Int32} {b : Int32} {mi : am_MI} {ml : am_ML} (h : ((a ≤ (4 : Int32) → am_call d 71 [.ref 15, .int (a + (1 : Int32)), .int b] mi ml (am_ri fun r1 mi1 ml1 => ((a ≠ (2 : Int32) → am_wp (am_call d) mt_71 R 24 [some (.ref 15), some (.int a), some (.int b), some (.int r1), some (.int (mi1 15 1)), some (.int (0 : Int32)), none] [] mi1 ml1) ∧ (¬ (a ≠ (2 : Int32)) → am_wp (am_call d) mt_71 R 24 [some (.ref 15), some (.int a), some (.int b), some (.int r1), some (.int (1 : Int32)), some (.int (0 : Int32)), none] [] mi1 ml1)))) ∧ (¬ (a ≤ (4 : Int32)) → am_call d 73 [.ref 15, .int b] mi ml (am_ri fun r2 mi2 ml2 => ((r2 = 0 ∨ r2 = 1) ∧ R (some (.int r2)) mi2 ml2))))) :
    am_call (d + 1) 71 [.ref 15, .int a, .int b] mi ml R := am_call_t (t := mt_71) (n := 7) rfl rfl rfl rfl (am_bk [(24, [true, true, true, true, true, true, false])] 19 h)
set_option maxRecDepth 100000 in
theorem bk_71_24 {d : Nat} {R : am_R} {l1 : Int32} {l2 : Int32} {l3 : Int32} {l4 : Int32} {l5 : Int32} {mi : am_MI} {ml : am_ML} (h : ((l4 ≤ l5 → ((l3 = 0 ∨ l3 = 1) ∧ R (some (.int l3)) mi ml)) ∧ (¬ (l4 ≤ l5) → ((l3 = 0 → ((l3 = 0 ∨ l3 = 1) ∧ R (some (.int l3)) mi ml)) ∧ (¬ (l3 = 0) → am_call d 72 [.int l1] mi ml (am_rr fun r1 mi1 ml1 => am_call d 76 [.ref 15, .ref r1] mi1 ml1 (am_ri fun r2 mi2 ml2 => ((r2 ≠ 0 → am_call d 71 [.ref 15, .int (l1 + (1 : Int32)), .int l2] mi2 ml2 (am_ri fun r3 mi3 ml3 => am_call d 77 [.ref 15, .int (-r2)] mi3 ml3 (am_rv fun mi4 ml4 => am_wp (am_call d) mt_71 R 24 [some (.ref 15), some (.int l1), some (.int l2), some (.int r3), some (.int l4), some (.int (l5 + 1)), none] [] mi4 ml4))) ∧ (¬ (r2 ≠ 0) → (((1 : Int32) = 0 ∨ (1 : Int32) = 1) ∧ R (some (.int (1 : Int32))) mi2 ml2)))))))))) :
    am_wp (am_call d) mt_71 R 24 [some (.ref 15), some (.int l1), some (.int l2), some (.int l3), some (.int l4), some (.int l5), none] [] mi ml := am_bk [(24, [true, true, true, true, true, true, false])] 26 h
set_option maxRecDepth 100000 in
/-- Law.signsOf I -/
theorem bk_72 {d : Nat} {R : am_R} {a : Int32} {mi : am_MI} {ml : am_ML} (h : ((a = 0 → R (some (.ref 127)) mi ml) ∧ (¬ a = 0 → ((a = 1 → R (some (.ref 118)) mi ml) ∧ (¬ a = 1 → ((a = 2 → R (some (.ref 124)) mi ml) ∧ (¬ a = 2 → ((a = 3 → R (some (.ref 122)) mi ml) ∧ (¬ a = 3 → R (some (.ref 121)) mi ml))))))))) :
    am_call (d + 1) 72 [.int a] mi ml R := am_call_t (t := mt_72) (n := 1) rfl rfl rfl rfl (am_bk [] 4 h)
set_option maxRecDepth 100000 in
/-- Law.readOperand I -/
theorem bk_73 {d : Nat} {R : am_R} {a : Int32} {mi : am_MI} {ml : am_ML} (h : am_call d 76 [.ref 15, .ref 126] mi ml (am_ri fun r1 mi1 ml1 => ((r1 = 0 → am_call d 75 [.ref 15] mi1 ml1 (am_ri fun r2 mi2 ml2 => ((r2 = 0 → (((6 : Int32) ≤ a → am_wp (am_call d) mt_73 R 27 [some (.ref 15), some (.int a), none, none, none] [.int (0 : Int32)] mi2 ml2) ∧ (¬ ((6 : Int32) ≤ a) → am_call d 76 [.ref 15, .ref 119] mi2 ml2 (am_ri fun r3 mi3 ml3 => am_wp (am_call d) mt_73 R 27 [some (.ref 15), some (.int a), none, none, none] [.int r3] mi3 ml3)))) ∧ (¬ (r2 = 0) → am_call d 74 [.ref 15] mi2 ml2 (am_rv fun mi4 ml4 => (((1 : Int32) = 0 ∨ (1 : Int32) = 1) ∧ R (some (.int (1 : Int32))) mi4 ml4)))))) ∧ (¬ (r1 = 0) → am_call d 77 [.ref 15, .int (-r1)] mi1 ml1 (am_rv fun mi5 ml5 => (((1 : Int32) = 0 ∨ (1 : Int32) = 1) ∧ R (some (.int (1 : Int32))) mi5 ml5)))))) :
    am_call (d + 1) 73 [.ref 15, .int a] mi ml R := am_call_t (t := mt_73) (n := 5) rfl rfl rfl rfl (am_bk [(27, [true, true, false, false, false]), (48, [false, false, false, false, false]), (49, [false, false, false, false, false]), (63, [false, false, false, false, true])] 17 h)
set_option maxRecDepth 100000 in
theorem bk_73_27 {d : Nat} {R : am_R} {l1 : Int32} {s0 : Int32} {mi : am_MI} {ml : am_ML} (h : ((s0 ≠ 0 → ((s0 ≠ (40 : Int32) → am_call d 73 [.ref 15, .int (l1 + (1 : Int32))] mi ml (am_ri fun r1 mi1 ml1 => ((s0 ≠ (33 : Int32) → am_wp (am_call d) mt_73 R 63 [none, none, none, none, some (.int r1)] [.int (-126 : Int32), .ref 15] mi1 ml1) ∧ (¬ (s0 ≠ (33 : Int32)) → am_wp (am_call d) mt_73 R 63 [none, none, none, none, some (.int r1)] [.int (-33 : Int32), .ref 15] mi1 ml1)))) ∧ (¬ (s0 ≠ (40 : Int32)) → am_call d 71 [.ref 15, .int (0 : Int32), .int (l1 + (1 : Int32))] mi ml (am_ri fun r2 mi2 ml2 => ((r2 = 0 → am_wp (am_call d) mt_73 R 48 [none, none, none, none, none] [] mi2 ml2) ∧ (¬ (r2 = 0) → am_call d 76 [.ref 15, .ref 120] mi2 ml2 (am_ri fun r3 mi3 ml3 => ((r3 = 0 → am_wp (am_call d) mt_73 R 48 [none, none, none, none, none] [] mi3 ml3) ∧ (¬ (r3 = 0) → am_wp (am_call d) mt_73 R 49 [none, none, none, none, none] [.int (1 : Int32)] mi3 ml3))))))))) ∧ (¬ (s0 ≠ 0) → (((0 : Int32) = 0 ∨ (0 : Int32) = 1) ∧ R (some (.int (0 : Int32))) mi ml)))) :
    am_wp (am_call d) mt_73 R 27 [some (.ref 15), some (.int l1), none, none, none] [.int s0] mi ml := am_bk [(27, [true, true, false, false, false]), (48, [false, false, false, false, false]), (49, [false, false, false, false, false]), (63, [false, false, false, false, true])] 20 h
set_option maxRecDepth 100000 in
theorem bk_73_48 {d : Nat} {R : am_R} {mi : am_MI} {ml : am_ML} (h : am_wp (am_call d) mt_73 R 49 [none, none, none, none, none] [.int (0 : Int32)] mi ml) :
    am_wp (am_call d) mt_73 R 48 [none, none, none, none, none] [] mi ml := am_bk [(27, [true, true, false, false, false]), (48, [false, false, false, false, false]), (49, [false, false, false, false, false]), (63, [false, false, false, false, true])] 2 h
set_option maxRecDepth 100000 in
theorem bk_73_49 {d : Nat} {R : am_R} {s0 : Int32} {mi : am_MI} {ml : am_ML} (h : ((s0 = 0 ∨ s0 = 1) ∧ R (some (.int s0)) mi ml)) :
    am_wp (am_call d) mt_73 R 49 [none, none, none, none, none] [.int s0] mi ml := am_bk [(27, [true, true, false, false, false]), (48, [false, false, false, false, false]), (49, [false, false, false, false, false]), (63, [false, false, false, false, true])] 1 h
set_option maxRecDepth 100000 in
theorem bk_73_63 {d : Nat} {R : am_R} {l4 : Int32} {s0 : Int32} {mi : am_MI} {ml : am_ML} (h : am_call d 77 [.ref 15, .int s0] mi ml (am_rv fun mi1 ml1 => ((l4 = 0 ∨ l4 = 1) ∧ R (some (.int l4)) mi1 ml1))) :
    am_wp (am_call d) mt_73 R 63 [none, none, none, none, some (.int l4)] [.int s0, .ref 15] mi ml := am_bk [(27, [true, true, false, false, false]), (48, [false, false, false, false, false]), (49, [false, false, false, false, false]), (63, [false, false, false, false, true])] 3 h
set_option maxRecDepth 100000 in
/-- Law.readNumber  -/
theorem bk_74 {d : Nat} {R : am_R} {mi : am_MI} {ml : am_ML} (h : am_wp (am_call d) mt_74 R 4 [some (.ref 15), some (.int (0 : Int32)), some (.int (0 : Int32))] [] mi ml) :
    am_call (d + 1) 74 [.ref 15] mi ml R := am_call_t (t := mt_74) (n := 3) rfl rfl rfl rfl (am_bk [(4, [true, true, true])] 5 h)
set_option maxRecDepth 100000 in
theorem bk_74_4 {d : Nat} {R : am_R} {l1 : Int32} {l2 : Int32} {mi : am_MI} {ml : am_ML} (h : (((4 : Int32) ≤ l2 → am_call d 77 [.ref 15, .int l1] mi ml (am_rv fun mi1 ml1 => R none mi1 ml1)) ∧ (¬ ((4 : Int32) ≤ l2) → am_call d 75 [.ref 15] mi ml (am_ri fun r2 mi2 ml2 => ((r2 = 0 → am_call d 77 [.ref 15, .int l1] mi2 ml2 (am_rv fun mi3 ml3 => R none mi3 ml3)) ∧ (¬ (r2 = 0) → (vp_in (mi2 15 2) 120 ∧ am_wp (am_call d) mt_74 R 4 [some (.ref 15), some (.int (((l1 * (10 : Int32)) + (mi2 16 (mi2 15 2).toNatClampNeg)) - (48 : Int32))), some (.int (l2 + 1))] [] (am_ui mi2 15 2 ((mi2 15 2) + (1 : Int32))) ml2))))))) :
    am_wp (am_call d) mt_74 R 4 [some (.ref 15), some (.int l1), some (.int l2)] [] mi ml := am_bk [(4, [true, true, true])] 27 h
set_option maxRecDepth 100000 in
/-- Law.isDigitNext  -/
theorem bk_75 {d : Nat} {R : am_R} {mi : am_MI} {ml : am_ML} (h : (((mi 15 1) ≤ (mi 15 2) → (((0 : Int32) = 0 ∨ (0 : Int32) = 1) ∧ R (some (.int (0 : Int32))) mi ml)) ∧ (¬ ((mi 15 1) ≤ (mi 15 2)) → (vp_in (mi 15 2) 120 ∧ (((mi 16 (mi 15 2).toNatClampNeg) < (48 : Int32) → (((0 : Int32) = 0 ∨ (0 : Int32) = 1) ∧ R (some (.int (0 : Int32))) mi ml)) ∧ (¬ ((mi 16 (mi 15 2).toNatClampNeg) < (48 : Int32)) → (vp_in (mi 15 2) 120 ∧ (((57 : Int32) < (mi 16 (mi 15 2).toNatClampNeg) → (((0 : Int32) = 0 ∨ (0 : Int32) = 1) ∧ R (some (.int (0 : Int32))) mi ml)) ∧ (¬ ((57 : Int32) < (mi 16 (mi 15 2).toNatClampNeg)) → (((1 : Int32) = 0 ∨ (1 : Int32) = 1) ∧ R (some (.int (1 : Int32))) mi ml)))))))))) :
    am_call (d + 1) 75 [.ref 15] mi ml R := am_call_t (t := mt_75) (n := 1) rfl rfl rfl rfl (am_bk [] 22 h)
set_option maxRecDepth 100000 in
/-- Law.pass Ljava/lang/String; -/
theorem bk_76 {d : Nat} {R : am_R} {a : Nat} {mi : am_MI} {ml : am_ML} (h : (((mi 15 1) ≤ (mi 15 2) → R (some (.int (0 : Int32))) mi ml) ∧ (¬ ((mi 15 1) ≤ (mi 15 2)) → (vp_in (mi 15 2) 120 ∧ am_need (am_oc a == am_mk 277) (am_call d 277 [.ref a, .int (am_i2c (mi 16 (mi 15 2).toNatClampNeg))] mi ml (am_ri fun r1 mi1 ml1 => ((0 ≤ r1 → (vp_in (((mi1 15 2) + (1 : Int32)) - (1 : Int32)) 120 ∧ R (some (.int (mi1 16 (((mi1 15 2) + (1 : Int32)) - (1 : Int32)).toNatClampNeg))) (am_ui mi1 15 2 ((mi1 15 2) + (1 : Int32))) ml1)) ∧ (¬ (0 ≤ r1) → R (some (.int (0 : Int32))) mi1 ml1)))))))) :
    am_call (d + 1) 76 [.ref 15, .ref a] mi ml R := am_call_t (t := mt_76) (n := 2) rfl rfl rfl rfl (am_bk [] 28 h)
set_option maxRecDepth 100000 in
/-- Law.draftStep I -/
theorem bk_77 {d : Nat} {R : am_R} {a : Int32} {mi : am_MI} {ml : am_ML} (h : (((Int32.ofNat 121) ≤ (mi 15 4) → R none mi ml) ∧ (¬ ((Int32.ofNat 121) ≤ (mi 15 4)) → (vp_in (mi 15 4) 121 ∧ R none (am_ui (am_ui mi 17 (mi 15 4).toNatClampNeg a) 15 4 ((mi 15 4) + (1 : Int32))) ml)))) :
    am_call (d + 1) 77 [.ref 15, .int a] mi ml R := am_call_t (t := mt_77) (n := 2) rfl rfl rfl rfl (am_bk [] 19 h)
set_option maxRecDepth 100000 in
/-- Law.workOut arr I -/
theorem bk_78 {d : Nat} {R : am_R} {a : Nat} {mi : am_MI} {ml : am_ML} (h : am_wp (am_call d) mt_78 R 7 [some (.ref 15), some (.ref a), some (.int (0 : Int32)), some (.int (0 : Int32)), none] [] (am_ui mi 15 9 (0 : Int32)) ml) :
    am_call (d + 1) 78 [.ref 15, .ref a] mi ml R := am_call_t (t := mt_78) (n := 5) rfl rfl rfl rfl (am_bk [(7, [true, true, true, true, false])] 8 h)
set_option maxRecDepth 100000 in
theorem bk_78_7 {d : Nat} {R : am_R} {l1 : Nat} {l2 : Int32} {l3 : Int32} {mi : am_MI} {ml : am_ML} (h : (((mi 15 6) ≤ l3 → R (some (.int (0 : Int32))) mi ml) ∧ (¬ ((mi 15 6) ≤ l3) → (vp_in l3 121 ∧ (((mi 18 l3.toNatClampNeg) ≠ (-59 : Int32) → (((mi 18 l3.toNatClampNeg) ≠ (-63 : Int32) → ((l2 ≠ 0 → am_wp (am_call d) mt_78 R 7 [some (.ref 15), some (.ref l1), some (.int l2), some (.int (l3 + 1)), none] [] mi ml) ∧ (¬ (l2 ≠ 0) → am_call d 79 [.ref 15, .int (mi 18 l3.toNatClampNeg), .ref l1] mi ml (am_rv fun mi1 ml1 => am_wp (am_call d) mt_78 R 7 [some (.ref 15), some (.ref l1), some (.int l2), some (.int (l3 + 1)), none] [] mi1 ml1)))) ∧ (¬ ((mi 18 l3.toNatClampNeg) ≠ (-63 : Int32)) → am_call d 82 [.ref 15] mi ml (am_ri fun r2 mi2 ml2 => ((r2 ≠ 0 → am_wp (am_call d) mt_78 R 7 [some (.ref 15), some (.ref l1), some (.int (0 : Int32)), some (.int (l3 + 1)), none] [] mi2 ml2) ∧ (¬ (r2 ≠ 0) → am_wp (am_call d) mt_78 R 7 [some (.ref 15), some (.ref l1), some (.int (1 : Int32)), some (.int (l3 + 1)), none] [] mi2 ml2)))))) ∧ (¬ ((mi 18 l3.toNatClampNeg) ≠ (-59 : Int32)) → ((l2 ≠ 0 → am_wp (am_call d) mt_78 R 7 [some (.ref 15), some (.ref l1), some (.int (0 : Int32)), some (.int (l3 + 1)), none] [] mi ml) ∧ (¬ (l2 ≠ 0) → am_call d 82 [.ref 15] mi ml (am_ri fun r3 mi3 ml3 => R (some (.int r3)) mi3 ml3))))))))) :
    am_wp (am_call d) mt_78 R 7 [some (.ref 15), some (.ref l1), some (.int l2), some (.int l3), none] [] mi ml := am_bk [(7, [true, true, true, true, false])] 25 h
set_option maxRecDepth 100000 in
/-- Law.takeStep I arr I -/
theorem bk_79 {d : Nat} {R : am_R} {a : Int32} {b : Nat} {mi : am_MI} {ml : am_ML} (h : ((a < 0 → am_call d 277 [.ref 126, .int (am_i2c (-a))] mi ml (am_ri fun r1 mi1 ml1 => ((r1 < 0 → am_call d 82 [.ref 15] mi1 ml1 (am_ri fun r2 mi2 ml2 => ((a ≠ (-126 : Int32) → ((a ≠ (-33 : Int32) → am_call d 82 [.ref 15] mi2 ml2 (am_ri fun r3 mi3 ml3 => am_call d 80 [.int (-a), .int r3, .int r2] mi3 ml3 (am_ri fun r4 mi4 ml4 => am_call d 81 [.ref 15, .int r4] mi4 ml4 (am_rv fun mi5 ml5 => R none mi5 ml5)))) ∧ (¬ (a ≠ (-33 : Int32)) → ((r2 ≠ 0 → am_call d 81 [.ref 15, .int (0 : Int32)] mi2 ml2 (am_rv fun mi6 ml6 => R none mi6 ml6)) ∧ (¬ (r2 ≠ 0) → am_call d 81 [.ref 15, .int (1 : Int32)] mi2 ml2 (am_rv fun mi7 ml7 => R none mi7 ml7)))))) ∧ (¬ (a ≠ (-126 : Int32)) → am_call d 81 [.ref 15, .int (-r2)] mi2 ml2 (am_rv fun mi8 ml8 => R none mi8 ml8))))) ∧ (¬ (r1 < 0) → am_need (Nat.ble 2 (am_kd b) && Nat.ble (am_kd b) 6 || am_kd b == 8 || am_kd b == 9) ((((Int32.ofNat (am_len mi1 b)) ≤ r1 → am_call d 82 [.ref 15] mi1 ml1 (am_ri fun r9 mi9 ml9 => ((a ≠ (-126 : Int32) → ((a ≠ (-33 : Int32) → am_call d 82 [.ref 15] mi9 ml9 (am_ri fun r10 mi10 ml10 => am_call d 80 [.int (-a), .int r10, .int r9] mi10 ml10 (am_ri fun r11 mi11 ml11 => am_call d 81 [.ref 15, .int r11] mi11 ml11 (am_rv fun mi12 ml12 => R none mi12 ml12)))) ∧ (¬ (a ≠ (-33 : Int32)) → ((r9 ≠ 0 → am_call d 81 [.ref 15, .int (0 : Int32)] mi9 ml9 (am_rv fun mi13 ml13 => R none mi13 ml13)) ∧ (¬ (r9 ≠ 0) → am_call d 81 [.ref 15, .int (1 : Int32)] mi9 ml9 (am_rv fun mi14 ml14 => R none mi14 ml14)))))) ∧ (¬ (a ≠ (-126 : Int32)) → am_call d 81 [.ref 15, .int (-r9)] mi9 ml9 (am_rv fun mi15 ml15 => R none mi15 ml15))))) ∧ (¬ ((Int32.ofNat (am_len mi1 b)) ≤ r1) → am_need (am_kd b == 2 || am_kd b == 5 || am_kd b == 6 || am_kd b == 10) (vp_in r1 (am_len mi1 b) ∧ am_call d 81 [.ref 15, .int (mi1 b r1.toNatClampNeg)] mi1 ml1 (am_rv fun mi16 ml16 => R none mi16 ml16))))))))) ∧ (¬ (a < 0) → am_call d 81 [.ref 15, .int a] mi ml (am_rv fun mi17 ml17 => R none mi17 ml17)))) :
    am_call (d + 1) 79 [.ref 15, .int a, .ref b] mi ml R := am_call_t (t := mt_79) (n := 5) rfl rfl rfl rfl (am_bk [] 32 h)
set_option maxRecDepth 100000 in
/-- Law.joined I I I -/
theorem bk_80 {d : Nat} {R : am_R} {a : Int32} {b : Int32} {x : Int32} {mi : am_MI} {ml : am_ML} (h : ((a = 37 → ((x ≠ 0 → (¬ x = 0 ∧ R (some (.int (am_rem b x))) mi ml)) ∧ (¬ (x ≠ 0) → R (some (.int (0 : Int32))) mi ml))) ∧ (¬ a = 37 → ((a = 38 → ((b = 0 → R (some (.int (0 : Int32))) mi ml) ∧ (¬ (b = 0) → ((x = 0 → R (some (.int (0 : Int32))) mi ml) ∧ (¬ (x = 0) → R (some (.int (1 : Int32))) mi ml))))) ∧ (¬ a = 38 → ((a = 39 → ((b ≠ 0 → R (some (.int (1 : Int32))) mi ml) ∧ (¬ (b ≠ 0) → ((x = 0 → R (some (.int (0 : Int32))) mi ml) ∧ (¬ (x = 0) → R (some (.int (1 : Int32))) mi ml))))) ∧ (¬ a = 39 → ((a = 40 → ((b ≠ 0 → R (some (.int (1 : Int32))) mi ml) ∧ (¬ (b ≠ 0) → ((x = 0 → R (some (.int (0 : Int32))) mi ml) ∧ (¬ (x = 0) → R (some (.int (1 : Int32))) mi ml))))) ∧ (¬ a = 40 → ((a = 41 → ((b ≠ 0 → R (some (.int (1 : Int32))) mi ml) ∧ (¬ (b ≠ 0) → ((x = 0 → R (some (.int (0 : Int32))) mi ml) ∧ (¬ (x = 0) → R (some (.int (1 : Int32))) mi ml))))) ∧ (¬ a = 41 → ((a = 42 → R (some (.int (b * x))) mi ml) ∧ (¬ a = 42 → ((a = 43 → R (some (.int (b + x))) mi ml) ∧ (¬ a = 43 → ((a = 44 → ((b ≠ 0 → R (some (.int (1 : Int32))) mi ml) ∧ (¬ (b ≠ 0) → ((x = 0 → R (some (.int (0 : Int32))) mi ml) ∧ (¬ (x = 0) → R (some (.int (1 : Int32))) mi ml))))) ∧ (¬ a = 44 → ((a = 45 → R (some (.int (b - x))) mi ml) ∧ (¬ a = 45 → ((a = 46 → ((b ≠ 0 → R (some (.int (1 : Int32))) mi ml) ∧ (¬ (b ≠ 0) → ((x = 0 → R (some (.int (0 : Int32))) mi ml) ∧ (¬ (x = 0) → R (some (.int (1 : Int32))) mi ml))))) ∧ (¬ a = 46 → ((a = 47 → ((x ≠ 0 → (¬ x = 0 ∧ R (some (.int (b / x))) mi ml)) ∧ (¬ (x ≠ 0) → R (some (.int (0 : Int32))) mi ml))) ∧ (¬ a = 47 → ((a = 48 → ((b ≠ 0 → R (some (.int (1 : Int32))) mi ml) ∧ (¬ (b ≠ 0) → ((x = 0 → R (some (.int (0 : Int32))) mi ml) ∧ (¬ (x = 0) → R (some (.int (1 : Int32))) mi ml))))) ∧ (¬ a = 48 → ((a = 49 → ((b ≠ 0 → R (some (.int (1 : Int32))) mi ml) ∧ (¬ (b ≠ 0) → ((x = 0 → R (some (.int (0 : Int32))) mi ml) ∧ (¬ (x = 0) → R (some (.int (1 : Int32))) mi ml))))) ∧ (¬ a = 49 → ((a = 50 → ((b ≠ 0 → R (some (.int (1 : Int32))) mi ml) ∧ (¬ (b ≠ 0) → ((x = 0 → R (some (.int (0 : Int32))) mi ml) ∧ (¬ (x = 0) → R (some (.int (1 : Int32))) mi ml))))) ∧ (¬ a = 50 → ((a = 51 → ((b ≠ 0 → R (some (.int (1 : Int32))) mi ml) ∧ (¬ (b ≠ 0) → ((x = 0 → R (some (.int (0 : Int32))) mi ml) ∧ (¬ (x = 0) → R (some (.int (1 : Int32))) mi ml))))) ∧ (¬ a = 51 → ((a = 52 → ((b ≠ 0 → R (some (.int (1 : Int32))) mi ml) ∧ (¬ (b ≠ 0) → ((x = 0 → R (some (.int (0 : Int32))) mi ml) ∧ (¬ (x = 0) → R (some (.int (1 : Int32))) mi ml))))) ∧ (¬ a = 52 → ((a = 53 → ((b ≠ 0 → R (some (.int (1 : Int32))) mi ml) ∧ (¬ (b ≠ 0) → ((x = 0 → R (some (.int (0 : Int32))) mi ml) ∧ (¬ (x = 0) → R (some (.int (1 : Int32))) mi ml))))) ∧ (¬ a = 53 → ((a = 54 → ((b ≠ 0 → R (some (.int (1 : Int32))) mi ml) ∧ (¬ (b ≠ 0) → ((x = 0 → R (some (.int (0 : Int32))) mi ml) ∧ (¬ (x = 0) → R (some (.int (1 : Int32))) mi ml))))) ∧ (¬ a = 54 → ((a = 55 → ((b ≠ 0 → R (some (.int (1 : Int32))) mi ml) ∧ (¬ (b ≠ 0) → ((x = 0 → R (some (.int (0 : Int32))) mi ml) ∧ (¬ (x = 0) → R (some (.int (1 : Int32))) mi ml))))) ∧ (¬ a = 55 → ((a = 56 → ((b ≠ 0 → R (some (.int (1 : Int32))) mi ml) ∧ (¬ (b ≠ 0) → ((x = 0 → R (some (.int (0 : Int32))) mi ml) ∧ (¬ (x = 0) → R (some (.int (1 : Int32))) mi ml))))) ∧ (¬ a = 56 → ((a = 57 → ((b ≠ 0 → R (some (.int (1 : Int32))) mi ml) ∧ (¬ (b ≠ 0) → ((x = 0 → R (some (.int (0 : Int32))) mi ml) ∧ (¬ (x = 0) → R (some (.int (1 : Int32))) mi ml))))) ∧ (¬ a = 57 → ((a = 58 → ((b ≠ 0 → R (some (.int (1 : Int32))) mi ml) ∧ (¬ (b ≠ 0) → ((x = 0 → R (some (.int (0 : Int32))) mi ml) ∧ (¬ (x = 0) → R (some (.int (1 : Int32))) mi ml))))) ∧ (¬ a = 58 → ((a = 59 → ((b ≠ 0 → R (some (.int (1 : Int32))) mi ml) ∧ (¬ (b ≠ 0) → ((x = 0 → R (some (.int (0 : Int32))) mi ml) ∧ (¬ (x = 0) → R (some (.int (1 : Int32))) mi ml))))) ∧ (¬ a = 59 → ((a = 60 → ((x ≤ b → R (some (.int (0 : Int32))) mi ml) ∧ (¬ (x ≤ b) → R (some (.int (1 : Int32))) mi ml))) ∧ (¬ a = 60 → ((a = 61 → ((b ≠ x → R (some (.int (0 : Int32))) mi ml) ∧ (¬ (b ≠ x) → R (some (.int (1 : Int32))) mi ml))) ∧ (¬ a = 61 → ((a = 62 → ((b ≤ x → R (some (.int (0 : Int32))) mi ml) ∧ (¬ (b ≤ x) → R (some (.int (1 : Int32))) mi ml))) ∧ (¬ a = 62 → ((b ≠ 0 → R (some (.int (1 : Int32))) mi ml) ∧ (¬ (b ≠ 0) → ((x = 0 → R (some (.int (0 : Int32))) mi ml) ∧ (¬ (x = 0) → R (some (.int (1 : Int32))) mi ml))))))))))))))))))))))))))))))))))))))))))))))))))))))))) :
    am_call (d + 1) 80 [.int a, .int b, .int x] mi ml R := am_call_t (t := mt_80) (n := 3) rfl rfl rfl rfl (am_bk [] 9 h)
set_option maxRecDepth 100000 in
/-- Law.push I -/
theorem bk_81 {d : Nat} {R : am_R} {a : Int32} {mi : am_MI} {ml : am_ML} (h : (((Int32.ofNat 121) ≤ (mi 15 9) → R none mi ml) ∧ (¬ ((Int32.ofNat 121) ≤ (mi 15 9)) → (vp_in (mi 15 9) 121 ∧ R none (am_ui (am_ui mi 19 (mi 15 9).toNatClampNeg a) 15 9 ((mi 15 9) + (1 : Int32))) ml)))) :
    am_call (d + 1) 81 [.ref 15, .int a] mi ml R := am_call_t (t := mt_81) (n := 2) rfl rfl rfl rfl (am_bk [] 19 h)
set_option maxRecDepth 100000 in
/-- Law.pop  -/
theorem bk_82 {d : Nat} {R : am_R} {mi : am_MI} {ml : am_ML} (h : ((0 < (mi 15 9) → (vp_in ((mi 15 9) - (1 : Int32)) 121 ∧ R (some (.int (mi 19 ((mi 15 9) - (1 : Int32)).toNatClampNeg))) (am_ui mi 15 9 ((mi 15 9) - (1 : Int32))) ml)) ∧ (¬ (0 < (mi 15 9)) → R (some (.int (0 : Int32))) mi ml))) :
    am_call (d + 1) 82 [.ref 15] mi ml R := am_call_t (t := mt_82) (n := 1) rfl rfl rfl rfl (am_bk [] 15 h)
set_option maxRecDepth 100000 in
/-- Pictures.isKind I -/
theorem bk_83 {d : Nat} {R : am_R} {a : Int32} {mi : am_MI} {ml : am_ML} (h : ((a < 0 → (((0 : Int32) = 0 ∨ (0 : Int32) = 1) ∧ R (some (.int (0 : Int32))) mi ml)) ∧ (¬ (a < 0) → (((Int32.ofNat 8) ≤ a → (((0 : Int32) = 0 ∨ (0 : Int32) = 1) ∧ R (some (.int (0 : Int32))) mi ml)) ∧ (¬ ((Int32.ofNat 8) ≤ a) → (((1 : Int32) = 0 ∨ (1 : Int32) = 1) ∧ R (some (.int (1 : Int32))) mi ml)))))) :
    am_call (d + 1) 83 [.ref 62, .int a] mi ml R := am_call_t (t := mt_83) (n := 2) rfl rfl rfl rfl (am_bk [] 9 h)
set_option maxRecDepth 100000 in
/-- Pictures.addBody I -/
theorem bk_85 {d : Nat} {R : am_R} {a : Int32} {mi : am_MI} {ml : am_ML} (h : (((mi 62 1) < (50 : Int32) → (vp_in (mi 62 1) 50 ∧ (((1 : Int32) = 0 ∨ (1 : Int32) = 1) ∧ R (some (.int (1 : Int32))) (am_ui (am_ui mi 63 (mi 62 1).toNatClampNeg a) 62 1 ((mi 62 1) + (1 : Int32))) ml))) ∧ (¬ ((mi 62 1) < (50 : Int32)) → (((0 : Int32) = 0 ∨ (0 : Int32) = 1) ∧ R (some (.int (0 : Int32))) mi ml)))) :
    am_call (d + 1) 85 [.ref 62, .int a] mi ml R := am_call_t (t := mt_85) (n := 2) rfl rfl rfl rfl (am_bk [] 18 h)
set_option maxRecDepth 100000 in
/-- Shelf.holdRow I I -/
theorem bk_98 {d : Nat} {R : am_R} {o : Nat} {a : Int32} {b : Int32} {mi : am_MI} {ml : am_ML} (h : am_need (am_oc o == 7) (am_need (am_oc o == 7) (am_need (am_oc o == 7) (am_need (am_oc o == 7) (am_call d 274 [.ref (am_rf o 4), .long (0 : Int64)] (am_ui (am_ui (am_ui mi o 0 (2 : Int32)) o 2 a) o 3 (am_max (0 : Int32) (am_min b (60 : Int32)))) ml (am_rv fun mi1 ml1 => R none mi1 ml1)))))) :
    am_call (d + 1) 98 [.ref o, .int a, .int b] mi ml R := am_call_t (t := mt_98) (n := 3) rfl rfl rfl rfl (am_bk [] 18 h)
set_option maxRecDepth 100000 in
/-- Shelf.refusesRow  -/
theorem bk_99 {d : Nat} {R : am_R} {o : Nat} {mi : am_MI} {ml : am_ML} (h : am_need (am_oc o == 7) ((((mi o 0) ≠ 0 → am_need (am_oc o == 7) ((((mi o 0) ≠ (2 : Int32) → R (some (.int (-12 : Int32))) mi ml) ∧ (¬ ((mi o 0) ≠ (2 : Int32)) → R (some (.int (0 : Int32))) mi ml)))) ∧ (¬ ((mi o 0) ≠ 0) → R (some (.int (-11 : Int32))) mi ml)))) :
    am_call (d + 1) 99 [.ref o] mi ml R := am_call_t (t := mt_99) (n := 1) rfl rfl rfl rfl (am_bk [] 10 h)
set_option maxRecDepth 100000 in
/-- Shelf.refusesBytes  -/
theorem bk_100 {d : Nat} {R : am_R} {o : Nat} {mi : am_MI} {ml : am_ML} (h : am_need (am_oc o == am_mk 99) (am_call d 99 [.ref o] mi ml (am_ri fun r1 mi1 ml1 => ((r1 ≠ 0 → R (some (.int r1)) mi1 ml1) ∧ (¬ (r1 ≠ 0) → am_need (am_oc o == 7) ((((mi1 o 2) = 0 → R (some (.int r1)) mi1 ml1) ∧ (¬ ((mi1 o 2) = 0) → R (some (.int (-12 : Int32))) mi1 ml1)))))))) :
    am_call (d + 1) 100 [.ref o] mi ml R := am_call_t (t := mt_100) (n := 2) rfl rfl rfl rfl (am_bk [] 11 h)
set_option maxRecDepth 100000 in
/-- Shelf.hasPlace I -/
theorem bk_101 {d : Nat} {R : am_R} {o : Nat} {a : Int32} {mi : am_MI} {ml : am_ML} (h : ((a < 0 → (((0 : Int32) = 0 ∨ (0 : Int32) = 1) ∧ R (some (.int (0 : Int32))) mi ml)) ∧ (¬ (a < 0) → am_need (am_oc o == 7) ((((mi o 3) ≤ a → (((0 : Int32) = 0 ∨ (0 : Int32) = 1) ∧ R (some (.int (0 : Int32))) mi ml)) ∧ (¬ ((mi o 3) ≤ a) → (((1 : Int32) = 0 ∨ (1 : Int32) = 1) ∧ R (some (.int (1 : Int32))) mi ml))))))) :
    am_call (d + 1) 101 [.ref o, .int a] mi ml R := am_call_t (t := mt_101) (n := 2) rfl rfl rfl rfl (am_bk [] 9 h)
set_option maxRecDepth 100000 in
/-- Shelf.at I -/
theorem bk_103 {d : Nat} {R : am_R} {o : Nat} {a : Int32} {mi : am_MI} {ml : am_ML} (h : am_need (am_oc o == am_mk 101) (am_call d 101 [.ref o, .int a] mi ml (am_ri fun r1 mi1 ml1 => ((r1 = 0 → R (some (.long (0 : Int64))) mi1 ml1) ∧ (¬ (r1 = 0) → am_need (am_oc o == 7) (am_need (am_kd (am_rf o 4) == 3) (vp_in a (am_n (am_rf o 4)) ∧ R (some (.long (ml1 (am_rf o 4) a.toNatClampNeg))) mi1 ml1))))))) :
    am_call (d + 1) 103 [.ref o, .int a] mi ml R := am_call_t (t := mt_103) (n := 2) rfl rfl rfl rfl (am_bk [] 10 h)
set_option maxRecDepth 100000 in
/-- Shelf.putIn I J -/
theorem bk_104 {d : Nat} {R : am_R} {o : Nat} {a : Int32} {b : Int64} {mi : am_MI} {ml : am_ML} (h : am_need (am_oc o == am_mk 101) (am_call d 101 [.ref o, .int a] mi ml (am_ri fun r1 mi1 ml1 => ((r1 ≠ 0 → am_need (am_oc o == 7) (am_need (am_oc o == am_mk 105) (am_call d 105 [.ref o, .long b] mi1 ml1 (am_rj fun r2 mi2 ml2 => am_need (am_kd (am_rf o 4) == 3) (vp_in a (am_n (am_rf o 4)) ∧ (((1 : Int32) = 0 ∨ (1 : Int32) = 1) ∧ R (some (.int (1 : Int32))) mi2 (am_ul ml2 (am_rf o 4) a.toNatClampNeg r2))))))) ∧ (¬ (r1 ≠ 0) → (((0 : Int32) = 0 ∨ (0 : Int32) = 1) ∧ R (some (.int (0 : Int32))) mi1 ml1)))))) :
    am_call (d + 1) 104 [.ref o, .int a, .long b] mi ml R := am_call_t (t := mt_104) (n := 4) rfl rfl rfl rfl (am_bk [] 13 h)
set_option maxRecDepth 100000 in
/-- Shelf.lowest J -/
theorem bk_105 {d : Nat} {R : am_R} {o : Nat} {a : Int64} {mi : am_MI} {ml : am_ML} (h : am_need (am_oc o == 7) ((((mi o 2) = 0 → R (some (.long a.toInt32.toInt8.toInt32.toInt64)) mi ml) ∧ (¬ (mi o 2) = 0 → (((mi o 2) = 1 → R (some (.long a.toInt32.toInt16.toInt32.toInt64)) mi ml) ∧ (¬ (mi o 2) = 1 → (((mi o 2) = 2 → R (some (.long a.toInt32.toInt64)) mi ml) ∧ (¬ (mi o 2) = 2 → (((mi o 2) = 3 → R (some (.long a)) mi ml) ∧ (¬ (mi o 2) = 3 → (((lg_cmp a (0 : Int64)) = 0 → R (some (.long (0 : Int64))) mi ml) ∧ (¬ ((lg_cmp a (0 : Int64)) = 0) → R (some (.long (1 : Int64))) mi ml)))))))))))) :
    am_call (d + 1) 105 [.ref o, .long a] mi ml R := am_call_t (t := mt_105) (n := 3) rfl rfl rfl rfl (am_bk [] 10 h)
set_option maxRecDepth 100000 in
/-- Signs.earlyOnes LDoorsForThree$Shelf; I -/
theorem bk_107 {d : Nat} {R : am_R} {a : Nat} {b : Int32} {mi : am_MI} {ml : am_ML} (h : am_wp (am_call d) mt_107 R 4 [some (.ref 58), some (.ref a), some (.int b), some (.int (0 : Int32)), some (.int (0 : Int32)), none] [] mi ml) :
    am_call (d + 1) 107 [.ref 58, .ref a, .int b] mi ml R := am_call_t (t := mt_107) (n := 6) rfl rfl rfl rfl (am_bk [(4, [true, true, true, true, true, false])] 5 h)
set_option maxRecDepth 100000 in
theorem bk_107_4 {d : Nat} {R : am_R} {l1 : Nat} {l2 : Int32} {l3 : Int32} {l4 : Int32} {mi : am_MI} {ml : am_ML} (h : am_need (am_oc l1 == 7) ((((mi l1 3) ≤ l4 → R (some (.int l3)) mi ml) ∧ (¬ ((mi l1 3) ≤ l4) → am_need (am_oc l1 == am_mk 103) (am_call d 103 [.ref l1, .int l4] mi ml (am_rj fun r1 mi1 ml1 => am_call d 0 [.ref 1, .int r1.toInt32] mi1 ml1 (am_ri fun r2 mi2 ml2 => ((r2 = 0 → am_wp (am_call d) mt_107 R 4 [some (.ref 58), some (.ref l1), some (.int l2), some (.int l3), some (.int (l4 + 1)), none] [] mi2 ml2) ∧ (¬ (r2 = 0) → am_call d 4 [.ref 1, .int (0 : Int32), .int r1.toInt32] mi2 ml2 (am_ri fun r3 mi3 ml3 => ((r3 ≤ l2 → am_wp (am_call d) mt_107 R 4 [some (.ref 58), some (.ref l1), some (.int l2), some (.int l3), some (.int (l4 + 1)), none] [] mi3 ml3) ∧ (¬ (r3 ≤ l2) → am_wp (am_call d) mt_107 R 4 [some (.ref 58), some (.ref l1), some (.int l2), some (.int (l3 ||| (am_shl (1 : Int32) r1.toInt32))), some (.int (l4 + 1)), none] [] mi3 ml3)))))))))))) :
    am_wp (am_call d) mt_107 R 4 [some (.ref 58), some (.ref l1), some (.int l2), some (.int l3), some (.int l4), none] [] mi ml := am_bk [(4, [true, true, true, true, true, false])] 30 h
set_option maxRecDepth 100000 in
/-- Signs.couldHaveBeen LDoorsForThree$Shelf; I I -/
theorem bk_108 {d : Nat} {R : am_R} {a : Nat} {b : Int32} {x : Int32} {mi : am_MI} {ml : am_ML} (h : am_call d 107 [.ref 58, .ref a, .int b] mi ml (am_ri fun r1 mi1 ml1 => am_wp (am_call d) mt_108 R 9 [some (.ref 58), none, some (.int b), some (.int x), some (.int r1), some (.int (0 : Int32)), some (.int (0 : Int32))] [] mi1 ml1)) :
    am_call (d + 1) 108 [.ref 58, .ref a, .int b, .int x] mi ml R := am_call_t (t := mt_108) (n := 7) rfl rfl rfl rfl (am_bk [(9, [true, false, true, true, true, true, true])] 10 h)
set_option maxRecDepth 100000 in
theorem bk_108_9 {d : Nat} {R : am_R} {l2 : Int32} {l3 : Int32} {l4 : Int32} {l5 : Int32} {l6 : Int32} {mi : am_MI} {ml : am_ML} (h : (((mi 1 2) ≤ l6 → R (some (.int l5)) mi ml) ∧ (¬ ((mi 1 2) ≤ l6) → am_call d 8 [.ref 1, .int l6, .int l2] mi ml (am_ri fun r1 mi1 ml1 => ((r1 ≠ 0 → am_wp (am_call d) mt_108 R 9 [some (.ref 58), none, some (.int l2), some (.int l3), some (.int l4), some (.int l5), some (.int (l6 + 1))] [] mi1 ml1) ∧ (¬ (r1 ≠ 0) → am_call d 109 [.ref 58, .int l6, .int l4, .int l3] mi1 ml1 (am_ri fun r2 mi2 ml2 => ((r2 = 0 → am_wp (am_call d) mt_108 R 9 [some (.ref 58), none, some (.int l2), some (.int l3), some (.int l4), some (.int l5), some (.int (l6 + 1))] [] mi2 ml2) ∧ (¬ (r2 = 0) → am_wp (am_call d) mt_108 R 9 [some (.ref 58), none, some (.int l2), some (.int l3), some (.int l4), some (.int (l5 ||| (am_shl (1 : Int32) l6))), some (.int (l6 + 1))] [] mi2 ml2))))))))) :
    am_wp (am_call d) mt_108 R 9 [some (.ref 58), none, some (.int l2), some (.int l3), some (.int l4), some (.int l5), some (.int l6)] [] mi ml := am_bk [(9, [true, false, true, true, true, true, true])] 26 h
set_option maxRecDepth 100000 in
/-- Signs.hasReason I I I -/
theorem bk_109 {d : Nat} {R : am_R} {a : Int32} {b : Int32} {x : Int32} {mi : am_MI} {ml : am_ML} (h : am_wp (am_call d) mt_109 R 2 [some (.ref 58), some (.int a), some (.int b), some (.int x), some (.int (0 : Int32)), none] [] mi ml) :
    am_call (d + 1) 109 [.ref 58, .int a, .int b, .int x] mi ml R := am_call_t (t := mt_109) (n := 6) rfl rfl rfl rfl (am_bk [(2, [true, true, true, true, true, false])] 3 h)
set_option maxRecDepth 100000 in
theorem bk_109_2 {d : Nat} {R : am_R} {l1 : Int32} {l2 : Int32} {l3 : Int32} {l4 : Int32} {mi : am_MI} {ml : am_ML} (h : (((mi 1 1) ≤ l4 → (((0 : Int32) = 0 ∨ (0 : Int32) = 1) ∧ R (some (.int (0 : Int32))) mi ml)) ∧ (¬ ((mi 1 1) ≤ l4) → am_call d 4 [.ref 1, .int (1 : Int32), .int l4] mi ml (am_ri fun r1 mi1 ml1 => am_call d 4 [.ref 1, .int (4 : Int32), .int l1] mi1 ml1 (am_ri fun r2 mi2 ml2 => ((r1 ≠ r2 → ((((am_shr l2 l4) &&& (1 : Int32)) ≠ (1 : Int32) → am_wp (am_call d) mt_109 R 2 [some (.ref 58), some (.int l1), some (.int l2), some (.int l3), some (.int (l4 + 1)), none] [] mi2 ml2) ∧ (¬ (((am_shr l2 l4) &&& (1 : Int32)) ≠ (1 : Int32)) → (((0 : Int32) ≠ 0 → (((1 : Int32) = 0 ∨ (1 : Int32) = 1) ∧ R (some (.int (1 : Int32))) mi2 ml2)) ∧ (¬ ((0 : Int32) ≠ 0) → am_call d 38 [.ref 22, .int l3, .int l4] mi2 ml2 (am_ri fun r3 mi3 ml3 => ((r3 ≠ l1 → am_wp (am_call d) mt_109 R 2 [some (.ref 58), some (.int l1), some (.int l2), some (.int l3), some (.int (l4 + 1)), none] [] mi3 ml3) ∧ (¬ (r3 ≠ l1) → (((1 : Int32) = 0 ∨ (1 : Int32) = 1) ∧ R (some (.int (1 : Int32))) mi3 ml3))))))))) ∧ (¬ (r1 ≠ r2) → ((((am_shr l2 l4) &&& (1 : Int32)) ≠ (1 : Int32) → am_wp (am_call d) mt_109 R 2 [some (.ref 58), some (.int l1), some (.int l2), some (.int l3), some (.int (l4 + 1)), none] [] mi2 ml2) ∧ (¬ (((am_shr l2 l4) &&& (1 : Int32)) ≠ (1 : Int32)) → (((1 : Int32) ≠ 0 → (((1 : Int32) = 0 ∨ (1 : Int32) = 1) ∧ R (some (.int (1 : Int32))) mi2 ml2)) ∧ (¬ ((1 : Int32) ≠ 0) → am_call d 38 [.ref 22, .int l3, .int l4] mi2 ml2 (am_ri fun r4 mi4 ml4 => ((r4 ≠ l1 → am_wp (am_call d) mt_109 R 2 [some (.ref 58), some (.int l1), some (.int l2), some (.int l3), some (.int (l4 + 1)), none] [] mi4 ml4) ∧ (¬ (r4 ≠ l1) → (((1 : Int32) = 0 ∨ (1 : Int32) = 1) ∧ R (some (.int (1 : Int32))) mi4 ml4))))))))))))))) :
    am_wp (am_call d) mt_109 R 2 [some (.ref 58), some (.int l1), some (.int l2), some (.int l3), some (.int l4), none] [] mi ml := am_bk [(2, [true, true, true, true, true, false])] 38 h
set_option maxRecDepth 100000 in
/-- Signs.onlyOne I -/
theorem bk_110 {d : Nat} {R : am_R} {a : Int32} {mi : am_MI} {ml : am_ML} (h : am_wp (am_call d) mt_110 R 2 [some (.ref 58), some (.int a), some (.int (0 : Int32))] [] mi ml) :
    am_call (d + 1) 110 [.ref 58, .int a] mi ml R := am_call_t (t := mt_110) (n := 3) rfl rfl rfl rfl (am_bk [(2, [true, true, true])] 3 h)
set_option maxRecDepth 100000 in
theorem bk_110_2 {d : Nat} {R : am_R} {l1 : Int32} {l2 : Int32} {mi : am_MI} {ml : am_ML} (h : (((mi 1 2) ≤ l2 → R (some (.int (-2 : Int32))) mi ml) ∧ (¬ ((mi 1 2) ≤ l2) → ((l1 ≠ (am_shl (1 : Int32) l2) → am_wp (am_call d) mt_110 R 2 [some (.ref 58), some (.int l1), some (.int (l2 + 1))] [] mi ml) ∧ (¬ (l1 ≠ (am_shl (1 : Int32) l2)) → R (some (.int l2)) mi ml))))) :
    am_wp (am_call d) mt_110 R 2 [some (.ref 58), some (.int l1), some (.int l2)] [] mi ml := am_bk [(2, [true, true, true])] 13 h
set_option maxRecDepth 100000 in
/-- Signs.bestGuard I -/
theorem bk_111 {d : Nat} {R : am_R} {a : Int32} {mi : am_MI} {ml : am_ML} (h : am_wp (am_call d) mt_111 R 4 [some (.ref 58), some (.int a), some (.int (0 : Int32)), some (.int (1 : Int32))] [] mi ml) :
    am_call (d + 1) 111 [.ref 58, .int a] mi ml R := am_call_t (t := mt_111) (n := 4) rfl rfl rfl rfl (am_bk [(4, [true, true, true, true])] 5 h)
set_option maxRecDepth 100000 in
theorem bk_111_4 {d : Nat} {R : am_R} {l1 : Int32} {l2 : Int32} {l3 : Int32} {mi : am_MI} {ml : am_ML} (h : (((mi 1 2) ≤ l3 → R (some (.int l2)) mi ml) ∧ (¬ ((mi 1 2) ≤ l3) → am_call d 112 [.ref 58, .int l3, .int l1] mi ml (am_ri fun r1 mi1 ml1 => am_call d 112 [.ref 58, .int l2, .int l1] mi1 ml1 (am_ri fun r2 mi2 ml2 => ((r2 ≤ r1 → am_wp (am_call d) mt_111 R 4 [some (.ref 58), some (.int l1), some (.int l2), some (.int (l3 + 1))] [] mi2 ml2) ∧ (¬ (r2 ≤ r1) → am_wp (am_call d) mt_111 R 4 [some (.ref 58), some (.int l1), some (.int l3), some (.int (l3 + 1))] [] mi2 ml2))))))) :
    am_wp (am_call d) mt_111 R 4 [some (.ref 58), some (.int l1), some (.int l2), some (.int l3)] [] mi ml := am_bk [(4, [true, true, true, true])] 19 h
set_option maxRecDepth 100000 in
/-- Signs.leftBy I I -/
theorem bk_112 {d : Nat} {R : am_R} {a : Int32} {b : Int32} {mi : am_MI} {ml : am_ML} (h : am_call d 273 [.int (b &&& ((am_shl (1 : Int32) a) ^^^ (-1 : Int32)))] mi ml (am_ri fun r1 mi1 ml1 => R (some (.int r1)) mi1 ml1)) :
    am_call (d + 1) 112 [.ref 58, .int a, .int b] mi ml R := am_call_t (t := mt_112) (n := 3) rfl rfl rfl rfl (am_bk [] 9 h)
set_option maxRecDepth 100000 in
/-- Signs.firstNotSo LDoorsForThree$Shelf; I -/
theorem bk_113 {d : Nat} {R : am_R} {a : Nat} {b : Int32} {mi : am_MI} {ml : am_ML} (h : am_wp (am_call d) mt_113 R 2 [some (.ref 58), some (.ref a), some (.int b), some (.int (0 : Int32)), none] [] mi ml) :
    am_call (d + 1) 113 [.ref 58, .ref a, .int b] mi ml R := am_call_t (t := mt_113) (n := 5) rfl rfl rfl rfl (am_bk [(2, [true, true, true, true, false])] 3 h)
set_option maxRecDepth 100000 in
theorem bk_113_2 {d : Nat} {R : am_R} {l1 : Nat} {l2 : Int32} {l3 : Int32} {mi : am_MI} {ml : am_ML} (h : am_need (am_oc l1 == 7) ((((mi l1 3) ≤ l3 → R (some (.int (-2 : Int32))) mi ml) ∧ (¬ ((mi l1 3) ≤ l3) → am_need (am_oc l1 == am_mk 103) (am_call d 103 [.ref l1, .int l3] mi ml (am_rj fun r1 mi1 ml1 => am_call d 114 [.ref 58, .int l3, .int r1.toInt32, .int l2] mi1 ml1 (am_ri fun r2 mi2 ml2 => ((r2 ≠ 0 → am_wp (am_call d) mt_113 R 2 [some (.ref 58), some (.ref l1), some (.int l2), some (.int (l3 + 1)), none] [] mi2 ml2) ∧ (¬ (r2 ≠ 0) → R (some (.int l3)) mi2 ml2))))))))) :
    am_wp (am_call d) mt_113 R 2 [some (.ref 58), some (.ref l1), some (.int l2), some (.int l3), none] [] mi ml := am_bk [(2, [true, true, true, true, false])] 18 h
set_option maxRecDepth 100000 in
/-- Signs.isSo I I I -/
theorem bk_114 {d : Nat} {R : am_R} {a : Int32} {b : Int32} {x : Int32} {mi : am_MI} {ml : am_ML} (h : am_call d 0 [.ref 1, .int a] mi ml (am_ri fun r1 mi1 ml1 => ((r1 ≠ 0 → ((b = (-1 : Int32) → (((1 : Int32) = 0 ∨ (1 : Int32) = 1) ∧ R (some (.int (1 : Int32))) mi1 ml1)) ∧ (¬ (b = (-1 : Int32)) → am_call d 1 [.ref 1, .int b] mi1 ml1 (am_ri fun r2 mi2 ml2 => ((r2 = 0 → (((0 : Int32) = 0 ∨ (0 : Int32) = 1) ∧ R (some (.int (0 : Int32))) mi2 ml2)) ∧ (¬ (r2 = 0) → am_call d 38 [.ref 22, .int x, .int a] mi2 ml2 (am_ri fun r3 mi3 ml3 => ((r3 ≠ b → (((0 : Int32) = 0 ∨ (0 : Int32) = 1) ∧ R (some (.int (0 : Int32))) mi3 ml3)) ∧ (¬ (r3 ≠ b) → (((1 : Int32) = 0 ∨ (1 : Int32) = 1) ∧ R (some (.int (1 : Int32))) mi3 ml3)))))))))) ∧ (¬ (r1 ≠ 0) → (((0 : Int32) = 0 ∨ (0 : Int32) = 1) ∧ R (some (.int (0 : Int32))) mi1 ml1))))) :
    am_call (d + 1) 114 [.ref 58, .int a, .int b, .int x] mi ml R := am_call_t (t := mt_114) (n := 4) rfl rfl rfl rfl (am_bk [] 23 h)
set_option maxRecDepth 100000 in
/-- Worths.version  -/
theorem bk_115 {d : Nat} {R : am_R} {mi : am_MI} {ml : am_ML} (h : R (some (.int ((mi 1 3) + (mi 15 7)))) mi ml) :
    am_call (d + 1) 115 [.ref 20] mi ml R := am_call_t (t := mt_115) (n := 1) rfl rfl rfl rfl (am_bk [] 8 h)
set_option maxRecDepth 100000 in
/-- Worths.worthLate I I I I -/
theorem bk_116 {d : Nat} {R : am_R} {a : Int32} {b : Int32} {x : Int32} {y : Int32} {mi : am_MI} {ml : am_ML} (h : am_call d 4 [.ref 1, .int (1 : Int32), .int b] mi ml (am_ri fun r1 mi1 ml1 => am_call d 4 [.ref 1, .int (4 : Int32), .int a] mi1 ml1 (am_ri fun r2 mi2 ml2 => ((r1 ≠ r2 → am_wp (am_call d) mt_116 R 14 [some (.ref 20), some (.int a), some (.int b), some (.int x), some (.int y), none] [.int (0 : Int32)] mi2 ml2) ∧ (¬ (r1 ≠ r2) → am_wp (am_call d) mt_116 R 14 [some (.ref 20), some (.int a), some (.int b), some (.int x), some (.int y), none] [.int (1 : Int32)] mi2 ml2))))) :
    am_call (d + 1) 116 [.ref 20, .int a, .int b, .int x, .int y] mi ml R := am_call_t (t := mt_116) (n := 6) rfl rfl rfl rfl (am_bk [(14, [true, true, true, true, true, false])] 14 h)
set_option maxRecDepth 100000 in
theorem bk_116_14 {d : Nat} {R : am_R} {l1 : Int32} {l2 : Int32} {l3 : Int32} {l4 : Int32} {s0 : Int32} {mi : am_MI} {ml : am_ML} (h : am_call d 68 [.ref 15] mi ml (am_ri fun r1 mi1 ml1 => ((r1 ≠ 0 → (vp_in (0 : Int32) 6 ∧ (vp_in (1 : Int32) 6 ∧ am_call d 4 [.ref 1, .int (0 : Int32), .int l2] (am_ui (am_ui mi1 21 (0 : Int32).toNatClampNeg l3) 21 (1 : Int32).toNatClampNeg s0) ml1 (am_ri fun r2 mi2 ml2 => (vp_in (2 : Int32) 6 ∧ am_call d 4 [.ref 1, .int (3 : Int32), .int l1] (am_ui mi2 21 (2 : Int32).toNatClampNeg r2) ml2 (am_ri fun r3 mi3 ml3 => (vp_in (3 : Int32) 6 ∧ (vp_in (4 : Int32) 6 ∧ am_call d 4 [.ref 1, .int (8 : Int32), .int (0 : Int32)] (am_ui (am_ui mi3 21 (3 : Int32).toNatClampNeg r3) 21 (4 : Int32).toNatClampNeg l4) ml3 (am_ri fun r4 mi4 ml4 => (vp_in (5 : Int32) 6 ∧ am_call d 78 [.ref 15, .ref 21] (am_ui mi4 21 (5 : Int32).toNatClampNeg r4) ml4 (am_ri fun r5 mi5 ml5 => R (some (.int (am_max (0 : Int32) (am_min (99 : Int32) r5)))) mi5 ml5))))))))))) ∧ (¬ (r1 ≠ 0) → am_call d 4 [.ref 1, .int (9 : Int32), .int (0 : Int32)] mi1 ml1 (am_ri fun r6 mi6 ml6 => R (some (.int (am_max (0 : Int32) ((((3 : Int32) * l3) + ((4 : Int32) * s0)) - (r6 * l4))))) mi6 ml6))))) :
    am_wp (am_call d) mt_116 R 14 [some (.ref 20), some (.int l1), some (.int l2), some (.int l3), some (.int l4), none] [.int s0] mi ml := am_bk [(14, [true, true, true, true, true, false])] 57 h
set_option maxRecDepth 100000 in
/-- Worths.worthEaten I I I -/
theorem bk_117 {d : Nat} {R : am_R} {a : Int32} {b : Int32} {x : Int32} {mi : am_MI} {ml : am_ML} (h : am_call d 9 [.ref 1, .int a, .int b] mi ml (am_ri fun r1 mi1 ml1 => ((r1 = (-1 : Int32) → R (some (.int (0 : Int32))) mi1 ml1) ∧ (¬ (r1 = (-1 : Int32)) → ((x ≠ 0 → am_call d 116 [.ref 20, .int a, .int b, .int x, .int r1] mi1 ml1 (am_ri fun r2 mi2 ml2 => R (some (.int r2)) mi2 ml2)) ∧ (¬ (x ≠ 0) → R (some (.int (0 : Int32))) mi1 ml1)))))) :
    am_call (d + 1) 117 [.ref 20, .int a, .int b, .int x] mi ml R := am_call_t (t := mt_117) (n := 5) rfl rfl rfl rfl (am_bk [] 18 h)
end
section
/-! block lemmas of methods 118 to 167 -/
set_option maxRecDepth 100000 in
/-- DoorsForThree.door I I -/
theorem bk_118 {d : Nat} {R : am_R} {a : Int32} {b : Int32} {mi : am_MI} {ml : am_ML} (h : am_call d 3 [.ref 1, .int (0 : Int32), .int a] mi ml (am_ri fun r1 mi1 ml1 => ((r1 = 0 → R (some (.int (-1 : Int32))) mi1 ml1) ∧ (¬ (r1 = 0) → am_call d 3 [.ref 1, .int (1 : Int32), .int b] mi1 ml1 (am_ri fun r2 mi2 ml2 => ((r2 ≠ 0 → am_call d 6 [.ref 1, .int a, .int b, .int (1 : Int32)] mi2 ml2 (am_ri fun r3 mi3 ml3 => ((r3 = 0 → R (some (.int (-3 : Int32))) mi3 ml3) ∧ (¬ (r3 = 0) → R (some (.int ((mi3 1 1) - (1 : Int32)))) mi3 ml3)))) ∧ (¬ (r2 ≠ 0) → R (some (.int (-1 : Int32))) mi2 ml2))))))) :
    am_call (d + 1) 118 [.ref 0, .int a, .int b] mi ml R := am_call_t (t := mt_118) (n := 3) rfl rfl rfl rfl (am_bk [] 26 h)
set_option maxRecDepth 100000 in
/-- DoorsForThree.child I I -/
theorem bk_120 {d : Nat} {R : am_R} {a : Int32} {b : Int32} {mi : am_MI} {ml : am_ML} (h : am_call d 3 [.ref 1, .int (3 : Int32), .int a] mi ml (am_ri fun r1 mi1 ml1 => ((r1 = 0 → R (some (.int (-1 : Int32))) mi1 ml1) ∧ (¬ (r1 = 0) → am_call d 3 [.ref 1, .int (4 : Int32), .int b] mi1 ml1 (am_ri fun r2 mi2 ml2 => ((r2 ≠ 0 → am_call d 7 [.ref 1, .int a, .int b] mi2 ml2 (am_ri fun r3 mi3 ml3 => ((r3 = 0 → R (some (.int (-3 : Int32))) mi3 ml3) ∧ (¬ (r3 = 0) → R (some (.int ((mi3 1 2) - (1 : Int32)))) mi3 ml3)))) ∧ (¬ (r2 ≠ 0) → R (some (.int (-1 : Int32))) mi2 ml2))))))) :
    am_call (d + 1) 120 [.ref 0, .int a, .int b] mi ml R := am_call_t (t := mt_120) (n := 3) rfl rfl rfl rfl (am_bk [] 25 h)
set_option maxRecDepth 100000 in
/-- DoorsForThree.mend I I I -/
theorem bk_121 {d : Nat} {R : am_R} {a : Int32} {b : Int32} {x : Int32} {mi : am_MI} {ml : am_ML} (h : am_call d 2 [.ref 1, .int b, .int a] mi ml (am_ri fun r1 mi1 ml1 => ((r1 = 0 → R (some (.int (-1 : Int32))) mi1 ml1) ∧ (¬ (r1 = 0) → am_call d 3 [.ref 1, .int b, .int x] mi1 ml1 (am_ri fun r2 mi2 ml2 => ((r2 ≠ 0 → am_call d 4 [.ref 1, .int b, .int a] mi2 ml2 (am_ri fun r3 mi3 ml3 => ((r3 = x → R (some (.int r3)) mi3 ml3) ∧ (¬ (r3 = x) → am_call d 12 [.ref 13, .int a, .int b, .int r3, .int x] mi3 ml3 (am_rv fun mi4 ml4 => am_call d 5 [.ref 1, .int b, .int a, .int x] mi4 ml4 (am_rv fun mi5 ml5 => R (some (.int r3)) mi5 ml5)))))) ∧ (¬ (r2 ≠ 0) → R (some (.int (-1 : Int32))) mi2 ml2))))))) :
    am_call (d + 1) 121 [.ref 0, .int a, .int b, .int x] mi ml R := am_call_t (t := mt_121) (n := 5) rfl rfl rfl rfl (am_bk [] 36 h)
set_option maxRecDepth 100000 in
/-- DoorsForThree.of I I -/
theorem bk_122 {d : Nat} {R : am_R} {a : Int32} {b : Int32} {mi : am_MI} {ml : am_ML} (h : ((b ≠ (10 : Int32) → am_call d 2 [.ref 1, .int b, .int a] mi ml (am_ri fun r1 mi1 ml1 => ((r1 = 0 → R (some (.int (-1 : Int32))) mi1 ml1) ∧ (¬ (r1 = 0) → am_call d 4 [.ref 1, .int b, .int a] mi1 ml1 (am_ri fun r2 mi2 ml2 => R (some (.int r2)) mi2 ml2))))) ∧ (¬ (b ≠ (10 : Int32)) → am_call d 0 [.ref 1, .int a] mi ml (am_ri fun r3 mi3 ml3 => ((r3 = 0 → R (some (.int (-1 : Int32))) mi3 ml3) ∧ (¬ (r3 = 0) → am_call d 15 [.ref 59, .int a] mi3 ml3 (am_ri fun r4 mi4 ml4 => R (some (.int r4)) mi4 ml4))))))) :
    am_call (d + 1) 122 [.ref 0, .int a, .int b] mi ml R := am_call_t (t := mt_122) (n := 3) rfl rfl rfl rfl (am_bk [] 16 h)
set_option maxRecDepth 100000 in
/-- DoorsForThree.feed I -/
theorem bk_123 {d : Nat} {R : am_R} {a : Int32} {mi : am_MI} {ml : am_ML} (h : ((a < 0 → R (some (.int (-1 : Int32))) mi ml) ∧ (¬ (a < 0) → ((a ≤ (255 : Int32) → am_call d 66 [.ref 15, .int a] mi ml (am_ri fun r1 mi1 ml1 => ((r1 = 0 → R (some (.int (-3 : Int32))) mi1 ml1) ∧ (¬ (r1 = 0) → R (some (.int (mi1 15 1))) mi1 ml1)))) ∧ (¬ (a ≤ (255 : Int32)) → R (some (.int (-1 : Int32))) mi ml))))) :
    am_call (d + 1) 123 [.ref 0, .int a] mi ml R := am_call_t (t := mt_123) (n := 2) rfl rfl rfl rfl (am_bk [] 15 h)
set_option maxRecDepth 100000 in
/-- DoorsForThree.law  -/
theorem bk_124 {d : Nat} {R : am_R} {mi : am_MI} {ml : am_ML} (h : am_call d 67 [.ref 15] mi ml (am_ri fun r1 mi1 ml1 => R (some (.int r1)) mi1 ml1)) :
    am_call (d + 1) 124 [.ref 0] mi ml R := am_call_t (t := mt_124) (n := 1) rfl rfl rfl rfl (am_bk [] 4 h)
set_option maxRecDepth 100000 in
/-- DoorsForThree.worth I I -/
theorem bk_125 {d : Nat} {R : am_R} {a : Int32} {b : Int32} {mi : am_MI} {ml : am_ML} (h : ((0 ≤ b → (¬ (100 : Int32) = 0 ∧ (¬ (100 : Int32) = 0 ∧ am_call d 1 [.ref 1, .int a] mi ml (am_ri fun r1 mi1 ml1 => ((r1 = 0 → R (some (.int (-1 : Int32))) mi1 ml1) ∧ (¬ (r1 = 0) → am_call d 0 [.ref 1, .int (b / (100 : Int32))] mi1 ml1 (am_ri fun r2 mi2 ml2 => ((r2 = 0 → R (some (.int (-1 : Int32))) mi2 ml2) ∧ (¬ (r2 = 0) → (((am_rem b (100 : Int32)) ≤ (24 : Int32) → am_call d 4 [.ref 1, .int (2 : Int32), .int (b / (100 : Int32))] mi2 ml2 (am_ri fun r3 mi3 ml3 => am_call d 116 [.ref 20, .int a, .int (b / (100 : Int32)), .int r3, .int (am_rem b (100 : Int32))] mi3 ml3 (am_ri fun r4 mi4 ml4 => R (some (.int r4)) mi4 ml4))) ∧ (¬ ((am_rem b (100 : Int32)) ≤ (24 : Int32)) → R (some (.int (-1 : Int32))) mi2 ml2))))))))))) ∧ (¬ (0 ≤ b) → R (some (.int (-1 : Int32))) mi ml))) :
    am_call (d + 1) 125 [.ref 0, .int a, .int b] mi ml R := am_call_t (t := mt_125) (n := 5) rfl rfl rfl rfl (am_bk [] 35 h)
set_option maxRecDepth 100000 in
/-- DoorsForThree.whose I -/
theorem bk_126 {d : Nat} {R : am_R} {a : Int32} {mi : am_MI} {ml : am_ML} (h : ((a < 0 → R (some (.int (-1 : Int32))) mi ml) ∧ (¬ (a < 0) → (¬ (100 : Int32) = 0 ∧ am_call d 163 [.int (a / (100 : Int32))] mi ml (am_ri fun r1 mi1 ml1 => ((r1 = 0 → R (some (.int (-1 : Int32))) mi1 ml1) ∧ (¬ (r1 = 0) → (¬ (100 : Int32) = 0 ∧ am_call d 0 [.ref 1, .int (am_rem a (100 : Int32))] mi1 ml1 (am_ri fun r2 mi2 ml2 => ((r2 ≠ 0 → am_call d 166 [.ref 0] mi2 ml2 (am_rr fun r3 mi3 ml3 => (¬ (100 : Int32) = 0 ∧ (¬ (100 : Int32) = 0 ∧ am_need (am_oc r3 == am_mk 38) (am_call d 38 [.ref r3, .int (a / (100 : Int32)), .int (am_rem a (100 : Int32))] mi3 ml3 (am_ri fun r4 mi4 ml4 => R (some (.int r4)) mi4 ml4)))))) ∧ (¬ (r2 ≠ 0) → R (some (.int (-1 : Int32))) mi2 ml2))))))))))) :
    am_call (d + 1) 126 [.ref 0, .int a] mi ml R := am_call_t (t := mt_126) (n := 2) rfl rfl rfl rfl (am_bk [] 24 h)
set_option maxRecDepth 100000 in
/-- DoorsForThree.all I -/
theorem bk_127 {d : Nat} {R : am_R} {a : Int32} {mi : am_MI} {ml : am_ML} (h : am_call d 164 [.ref 0, .int a] mi ml (am_ri fun r1 mi1 ml1 => ((r1 = 0 → R (some (.int (-1 : Int32))) mi1 ml1) ∧ (¬ (r1 = 0) → am_call d 166 [.ref 0] mi1 ml1 (am_rr fun r2 mi2 ml2 => (¬ (10 : Int32) = 0 ∧ (¬ (10 : Int32) = 0 ∧ am_need (am_oc r2 == am_mk 39) (am_call d 39 [.ref r2, .int (a / (10 : Int32)), .int (am_rem a (10 : Int32))] mi2 ml2 (am_ri fun r3 mi3 ml3 => R (some (.int r3)) mi3 ml3))))))))) :
    am_call (d + 1) 127 [.ref 0, .int a] mi ml R := am_call_t (t := mt_127) (n := 2) rfl rfl rfl rfl (am_bk [] 15 h)
set_option maxRecDepth 100000 in
/-- DoorsForThree.giving I I -/
theorem bk_128 {d : Nat} {R : am_R} {a : Int32} {b : Int32} {mi : am_MI} {ml : am_ML} (h : am_call d 163 [.int a] mi ml (am_ri fun r1 mi1 ml1 => ((r1 ≠ 0 → ((b = 0 → am_call d 166 [.ref 0] mi1 ml1 (am_rr fun r2 mi2 ml2 => am_need (am_oc r2 == am_mk 40) (am_call d 40 [.ref r2, .int a] mi2 ml2 (am_ri fun r3 mi3 ml3 => R (some (.int r3)) mi3 ml3)))) ∧ (¬ b = 0 → ((b = 1 → am_call d 166 [.ref 0] mi1 ml1 (am_rr fun r4 mi4 ml4 => am_need (am_oc r4 == am_mk 44) (am_call d 44 [.ref r4, .int a] mi4 ml4 (am_ri fun r5 mi5 ml5 => R (some (.int r5)) mi5 ml5)))) ∧ (¬ b = 1 → ((b = 2 → am_call d 166 [.ref 0] mi1 ml1 (am_rr fun r6 mi6 ml6 => am_need (am_oc r6 == am_mk 45) (am_call d 45 [.ref r6, .int a] mi6 ml6 (am_ri fun r7 mi7 ml7 => R (some (.int r7)) mi7 ml7)))) ∧ (¬ b = 2 → R (some (.int (-1 : Int32))) mi1 ml1))))))) ∧ (¬ (r1 ≠ 0) → R (some (.int (-1 : Int32))) mi1 ml1)))) :
    am_call (d + 1) 128 [.ref 0, .int a, .int b] mi ml R := am_call_t (t := mt_128) (n := 3) rfl rfl rfl rfl (am_bk [] 10 h)
set_option maxRecDepth 100000 in
/-- DoorsForThree.bestRule I -/
theorem bk_129 {d : Nat} {R : am_R} {a : Int32} {mi : am_MI} {ml : am_ML} (h : ((a = 0 → am_call d 166 [.ref 0] mi ml (am_rr fun r1 mi1 ml1 => am_need (am_oc r1 == am_mk 47) (am_call d 47 [.ref r1] mi1 ml1 (am_ri fun r2 mi2 ml2 => ((a ≠ 0 → am_call d 40 [.ref 22, .int r2] mi2 ml2 (am_ri fun r3 mi3 ml3 => R (some (.int r3)) mi3 ml3)) ∧ (¬ (a ≠ 0) → R (some (.int r2)) mi2 ml2)))))) ∧ (¬ (a = 0) → ((a = (1 : Int32) → am_call d 166 [.ref 0] mi ml (am_rr fun r4 mi4 ml4 => am_need (am_oc r4 == am_mk 47) (am_call d 47 [.ref r4] mi4 ml4 (am_ri fun r5 mi5 ml5 => ((a ≠ 0 → am_call d 40 [.ref 22, .int r5] mi5 ml5 (am_ri fun r6 mi6 ml6 => R (some (.int r6)) mi6 ml6)) ∧ (¬ (a ≠ 0) → R (some (.int r5)) mi5 ml5)))))) ∧ (¬ (a = (1 : Int32)) → R (some (.int (-1 : Int32))) mi ml))))) :
    am_call (d + 1) 129 [.ref 0, .int a] mi ml R := am_call_t (t := mt_129) (n := 3) rfl rfl rfl rfl (am_bk [] 16 h)
set_option maxRecDepth 100000 in
/-- DoorsForThree.fairest I -/
theorem bk_130 {d : Nat} {R : am_R} {a : Int32} {mi : am_MI} {ml : am_ML} (h : ((a < (-2 : Int32) → R (some (.int (-1 : Int32))) mi ml) ∧ (¬ (a < (-2 : Int32)) → ((a < (mi 1 1) → am_call d 22 [.ref 47] mi ml (am_ri fun r1 mi1 ml1 => ((r1 = 0 → (((mi1 1 2) ≠ 0 → am_call d 30 [.ref 22] mi1 ml1 (am_rv fun mi2 ml2 => am_call d 24 [.ref 47] mi2 ml2 (am_rv fun mi3 ml3 => ((a ≠ (-1 : Int32) → ((a ≠ (-2 : Int32) → am_call d 23 [.ref 47, .int a] mi3 ml3 (am_ri fun r4 mi4 ml4 => R (some (.int r4)) mi4 ml4)) ∧ (¬ (a ≠ (-2 : Int32)) → R (some (.int (mi3 47 8))) mi3 ml3))) ∧ (¬ (a ≠ (-1 : Int32)) → R (some (.int (mi3 47 7))) mi3 ml3))))) ∧ (¬ ((mi1 1 2) ≠ 0) → R (some (.int (-2 : Int32))) mi1 ml1))) ∧ (¬ (r1 = 0) → R (some (.int (-5 : Int32))) mi1 ml1)))) ∧ (¬ (a < (mi 1 1)) → R (some (.int (-1 : Int32))) mi ml))))) :
    am_call (d + 1) 130 [.ref 0, .int a] mi ml R := am_call_t (t := mt_130) (n := 2) rfl rfl rfl rfl (am_bk [] 33 h)
set_option maxRecDepth 100000 in
/-- DoorsForThree.envyFree  -/
theorem bk_131 {d : Nat} {R : am_R} {mi : am_MI} {ml : am_ML} (h : am_call d 22 [.ref 47] mi ml (am_ri fun r1 mi1 ml1 => ((r1 = 0 → (((mi1 1 2) ≠ 0 → am_call d 30 [.ref 22] mi1 ml1 (am_rv fun mi2 ml2 => am_call d 24 [.ref 47] mi2 ml2 (am_rv fun mi3 ml3 => R (some (.int (mi3 47 9))) mi3 ml3))) ∧ (¬ ((mi1 1 2) ≠ 0) → R (some (.int (-2 : Int32))) mi1 ml1))) ∧ (¬ (r1 = 0) → R (some (.int (-5 : Int32))) mi1 ml1)))) :
    am_call (d + 1) 131 [.ref 0] mi ml R := am_call_t (t := mt_131) (n := 1) rfl rfl rfl rfl (am_bk [] 18 h)
set_option maxRecDepth 100000 in
/-- DoorsForThree.swap I -/
theorem bk_132 {d : Nat} {R : am_R} {a : Int32} {mi : am_MI} {ml : am_ML} (h : am_call d 163 [.int a] mi ml (am_ri fun r1 mi1 ml1 => ((r1 = 0 → R (some (.int (-1 : Int32))) mi1 ml1) ∧ (¬ (r1 = 0) → am_call d 166 [.ref 0] mi1 ml1 (am_rr fun r2 mi2 ml2 => am_need (am_oc r2 == am_mk 48) (am_call d 48 [.ref r2, .int a] mi2 ml2 (am_ri fun r3 mi3 ml3 => R (some (.int r3)) mi3 ml3))))))) :
    am_call (d + 1) 132 [.ref 0, .int a] mi ml R := am_call_t (t := mt_132) (n := 2) rfl rfl rfl rfl (am_bk [] 9 h)
set_option maxRecDepth 100000 in
/-- DoorsForThree.swaps I I -/
theorem bk_133 {d : Nat} {R : am_R} {a : Int32} {b : Int32} {mi : am_MI} {ml : am_ML} (h : am_call d 163 [.int a] mi ml (am_ri fun r1 mi1 ml1 => ((r1 = 0 → R (some (.int (-1 : Int32))) mi1 ml1) ∧ (¬ (r1 = 0) → ((b = 0 → am_call d 166 [.ref 0] mi1 ml1 (am_rr fun r2 mi2 ml2 => am_need (am_oc r2 == am_mk 51) (am_call d 51 [.ref r2, .int a] mi2 ml2 (am_ri fun r3 mi3 ml3 => ((b ≠ 0 → am_call d 41 [.ref 22] mi3 ml3 (am_ri fun r4 mi4 ml4 => R (some (.int r4)) mi4 ml4)) ∧ (¬ (b ≠ 0) → R (some (.int r3)) mi3 ml3)))))) ∧ (¬ (b = 0) → ((b = (1 : Int32) → am_call d 166 [.ref 0] mi1 ml1 (am_rr fun r5 mi5 ml5 => am_need (am_oc r5 == am_mk 51) (am_call d 51 [.ref r5, .int a] mi5 ml5 (am_ri fun r6 mi6 ml6 => ((b ≠ 0 → am_call d 41 [.ref 22] mi6 ml6 (am_ri fun r7 mi7 ml7 => R (some (.int r7)) mi7 ml7)) ∧ (¬ (b ≠ 0) → R (some (.int r6)) mi6 ml6)))))) ∧ (¬ (b = (1 : Int32)) → R (some (.int (-1 : Int32))) mi1 ml1)))))))) :
    am_call (d + 1) 133 [.ref 0, .int a, .int b] mi ml R := am_call_t (t := mt_133) (n := 4) rfl rfl rfl rfl (am_bk [] 19 h)
set_option maxRecDepth 100000 in
/-- DoorsForThree.big I I -/
theorem bk_134 {d : Nat} {R : am_R} {a : Int32} {b : Int32} {mi : am_MI} {ml : am_ML} (h : am_call d 163 [.int a] mi ml (am_ri fun r1 mi1 ml1 => ((r1 = 0 → R (some (.int (-1 : Int32))) mi1 ml1) ∧ (¬ (r1 = 0) → ((b = (-1 : Int32) → (((mi1 1 1) = 0 → R (some (.int (-2 : Int32))) mi1 ml1) ∧ (¬ ((mi1 1 1) = 0) → (((mi1 1 2) ≠ 0 → am_call d 166 [.ref 0] mi1 ml1 (am_rr fun r2 mi2 ml2 => am_need (am_oc r2 == am_mk 53) (am_call d 53 [.ref r2, .int a] mi2 ml2 (am_rv fun mi3 ml3 => ((b ≠ (-1 : Int32) → am_call d 42 [.ref 22, .int b] mi3 ml3 (am_ri fun r4 mi4 ml4 => R (some (.int r4)) mi4 ml4)) ∧ (¬ (b ≠ (-1 : Int32)) → am_call d 41 [.ref 22] mi3 ml3 (am_ri fun r5 mi5 ml5 => R (some (.int r5)) mi5 ml5))))))) ∧ (¬ ((mi1 1 2) ≠ 0) → R (some (.int (-2 : Int32))) mi1 ml1))))) ∧ (¬ (b = (-1 : Int32)) → am_call d 1 [.ref 1, .int b] mi1 ml1 (am_ri fun r6 mi6 ml6 => ((r6 ≠ 0 → (((mi6 1 1) = 0 → R (some (.int (-2 : Int32))) mi6 ml6) ∧ (¬ ((mi6 1 1) = 0) → (((mi6 1 2) ≠ 0 → am_call d 166 [.ref 0] mi6 ml6 (am_rr fun r7 mi7 ml7 => am_need (am_oc r7 == am_mk 53) (am_call d 53 [.ref r7, .int a] mi7 ml7 (am_rv fun mi8 ml8 => ((b ≠ (-1 : Int32) → am_call d 42 [.ref 22, .int b] mi8 ml8 (am_ri fun r9 mi9 ml9 => R (some (.int r9)) mi9 ml9)) ∧ (¬ (b ≠ (-1 : Int32)) → am_call d 41 [.ref 22] mi8 ml8 (am_ri fun r10 mi10 ml10 => R (some (.int r10)) mi10 ml10))))))) ∧ (¬ ((mi6 1 2) ≠ 0) → R (some (.int (-2 : Int32))) mi6 ml6))))) ∧ (¬ (r6 ≠ 0) → R (some (.int (-1 : Int32))) mi6 ml6))))))))) :
    am_call (d + 1) 134 [.ref 0, .int a, .int b] mi ml R := am_call_t (t := mt_134) (n := 3) rfl rfl rfl rfl (am_bk [] 31 h)
set_option maxRecDepth 100000 in
/-- DoorsForThree.away I I -/
theorem bk_135 {d : Nat} {R : am_R} {a : Int32} {b : Int32} {mi : am_MI} {ml : am_ML} (h : am_call d 164 [.ref 0, .int a] mi ml (am_ri fun r1 mi1 ml1 => ((r1 ≠ 0 → ((b = 0 → (¬ (10 : Int32) = 0 ∧ am_call d 10 [.ref 1, .int (am_rem a (10 : Int32))] mi1 ml1 (am_ri fun r2 mi2 ml2 => R (some (.int r2)) mi2 ml2))) ∧ (¬ b = 0 → ((b = 1 → am_call d 166 [.ref 0] mi1 ml1 (am_rr fun r3 mi3 ml3 => (¬ (10 : Int32) = 0 ∧ (¬ (10 : Int32) = 0 ∧ am_need (am_oc r3 == am_mk 54) (am_call d 54 [.ref r3, .int (a / (10 : Int32)), .int (am_rem a (10 : Int32))] mi3 ml3 (am_ri fun r4 mi4 ml4 => R (some (.int r4)) mi4 ml4)))))) ∧ (¬ b = 1 → ((b = 2 → am_call d 166 [.ref 0] mi1 ml1 (am_rr fun r5 mi5 ml5 => (¬ (10 : Int32) = 0 ∧ (¬ (10 : Int32) = 0 ∧ am_need (am_oc r5 == am_mk 55) (am_call d 55 [.ref r5, .int (a / (10 : Int32)), .int (am_rem a (10 : Int32))] mi5 ml5 (am_ri fun r6 mi6 ml6 => R (some (.int r6)) mi6 ml6)))))) ∧ (¬ b = 2 → R (some (.int (-1 : Int32))) mi1 ml1))))))) ∧ (¬ (r1 ≠ 0) → R (some (.int (-1 : Int32))) mi1 ml1)))) :
    am_call (d + 1) 135 [.ref 0, .int a, .int b] mi ml R := am_call_t (t := mt_135) (n := 3) rfl rfl rfl rfl (am_bk [] 16 h)
set_option maxRecDepth 100000 in
/-- DoorsForThree.gather I I -/
theorem bk_136 {d : Nat} {R : am_R} {a : Int32} {b : Int32} {mi : am_MI} {ml : am_ML} (h : am_call d 164 [.ref 0, .int a] mi ml (am_ri fun r1 mi1 ml1 => ((r1 = 0 → R (some (.int (-1 : Int32))) mi1 ml1) ∧ (¬ (r1 = 0) → ((b < 0 → R (some (.int (-1 : Int32))) mi1 ml1) ∧ (¬ (b < 0) → ((b ≤ (9 : Int32) → am_call d 166 [.ref 0] mi1 ml1 (am_rr fun r2 mi2 ml2 => (¬ (10 : Int32) = 0 ∧ (¬ (10 : Int32) = 0 ∧ am_need (am_oc r2 == am_mk 57) (am_call d 57 [.ref r2, .int (a / (10 : Int32)), .int (am_rem a (10 : Int32))] mi2 ml2 (am_rv fun mi3 ml3 => ((b ≠ 0 → (¬ (10 : Int32) = 0 ∧ am_call d 58 [.ref 22, .int (am_rem a (10 : Int32)), .int b] mi3 ml3 (am_ri fun r4 mi4 ml4 => R (some (.int r4)) mi4 ml4))) ∧ (¬ (b ≠ 0) → (¬ (10 : Int32) = 0 ∧ am_call d 59 [.ref 22, .int (am_rem a (10 : Int32))] mi3 ml3 (am_ri fun r5 mi5 ml5 => R (some (.int r5)) mi5 ml5)))))))))) ∧ (¬ (b ≤ (9 : Int32)) → R (some (.int (-1 : Int32))) mi1 ml1)))))))) :
    am_call (d + 1) 136 [.ref 0, .int a, .int b] mi ml R := am_call_t (t := mt_136) (n := 3) rfl rfl rfl rfl (am_bk [] 28 h)
set_option maxRecDepth 100000 in
/-- DoorsForThree.waits I I -/
theorem bk_137 {d : Nat} {R : am_R} {a : Int32} {b : Int32} {mi : am_MI} {ml : am_ML} (h : am_call d 164 [.ref 0, .int a] mi ml (am_ri fun r1 mi1 ml1 => ((r1 = 0 → R (some (.int (-1 : Int32))) mi1 ml1) ∧ (¬ (r1 = 0) → ((b = 0 → (¬ (10 : Int32) = 0 ∧ am_call d 11 [.ref 1, .int (am_rem a (10 : Int32))] mi1 ml1 (am_ri fun r2 mi2 ml2 => ((b ≠ 0 → am_call d 166 [.ref 0] mi2 ml2 (am_rr fun r3 mi3 ml3 => (¬ (10 : Int32) = 0 ∧ (¬ (10 : Int32) = 0 ∧ am_need (am_oc r3 == am_mk 56) (am_call d 56 [.ref r3, .int (a / (10 : Int32)), .int (am_rem a (10 : Int32)), .int r2] mi3 ml3 (am_ri fun r4 mi4 ml4 => R (some (.int r4)) mi4 ml4)))))) ∧ (¬ (b ≠ 0) → R (some (.int r2)) mi2 ml2))))) ∧ (¬ (b = 0) → ((b = (1 : Int32) → (¬ (10 : Int32) = 0 ∧ am_call d 11 [.ref 1, .int (am_rem a (10 : Int32))] mi1 ml1 (am_ri fun r5 mi5 ml5 => ((b ≠ 0 → am_call d 166 [.ref 0] mi5 ml5 (am_rr fun r6 mi6 ml6 => (¬ (10 : Int32) = 0 ∧ (¬ (10 : Int32) = 0 ∧ am_need (am_oc r6 == am_mk 56) (am_call d 56 [.ref r6, .int (a / (10 : Int32)), .int (am_rem a (10 : Int32)), .int r5] mi6 ml6 (am_ri fun r7 mi7 ml7 => R (some (.int r7)) mi7 ml7)))))) ∧ (¬ (b ≠ 0) → R (some (.int r5)) mi5 ml5))))) ∧ (¬ (b = (1 : Int32)) → R (some (.int (-1 : Int32))) mi1 ml1)))))))) :
    am_call (d + 1) 137 [.ref 0, .int a, .int b] mi ml R := am_call_t (t := mt_137) (n := 4) rfl rfl rfl rfl (am_bk [] 29 h)
set_option maxRecDepth 100000 in
/-- DoorsForThree.atFive I I I I -/
theorem bk_138 {d : Nat} {R : am_R} {a : Int32} {b : Int32} {x : Int32} {y : Int32} {mi : am_MI} {ml : am_ML} (h : am_call d 165 [.ref 0, .int a] mi ml (am_ri fun r1 mi1 ml1 => ((r1 = 0 → R (some (.int (-1 : Int32))) mi1 ml1) ∧ (¬ (r1 = 0) → am_call d 3 [.ref 1, .int (0 : Int32), .int b] mi1 ml1 (am_ri fun r2 mi2 ml2 => ((r2 = 0 → R (some (.int (-1 : Int32))) mi2 ml2) ∧ (¬ (r2 = 0) → am_call d 163 [.int x] mi2 ml2 (am_ri fun r3 mi3 ml3 => ((r3 = 0 → R (some (.int (-1 : Int32))) mi3 ml3) ∧ (¬ (r3 = 0) → ((y < 0 → R (some (.int (-1 : Int32))) mi3 ml3) ∧ (¬ (y < 0) → ((y ≤ (2 : Int32) → (vp_in a 6 ∧ am_need (am_oc (66 + 2 * a.toNatClampNeg) == am_mk 100) (am_call d 100 [.ref (66 + 2 * a.toNatClampNeg)] mi3 ml3 (am_ri fun r4 mi4 ml4 => ((r4 = 0 → ((y ≠ 0 → am_call d 30 [.ref 22] mi4 ml4 (am_rv fun mi5 ml5 => am_call d 108 [.ref 58, .ref (66 + 2 * a.toNatClampNeg), .int b, .int x] mi5 ml5 (am_ri fun r6 mi6 ml6 => ((y ≠ (1 : Int32) → am_call d 110 [.ref 58, .int r6] mi6 ml6 (am_ri fun r7 mi7 ml7 => R (some (.int r7)) mi7 ml7)) ∧ (¬ (y ≠ (1 : Int32)) → R (some (.int r6)) mi6 ml6))))) ∧ (¬ (y ≠ 0) → am_call d 107 [.ref 58, .ref (66 + 2 * a.toNatClampNeg), .int b] mi4 ml4 (am_ri fun r8 mi8 ml8 => am_call d 273 [.int r8] mi8 ml8 (am_ri fun r9 mi9 ml9 => R (some (.int r9)) mi9 ml9))))) ∧ (¬ (r4 = 0) → R (some (.int r4)) mi4 ml4)))))) ∧ (¬ (y ≤ (2 : Int32)) → R (some (.int (-1 : Int32))) mi3 ml3)))))))))))))) :
    am_call (d + 1) 138 [.ref 0, .int a, .int b, .int x, .int y] mi ml R := am_call_t (t := mt_138) (n := 8) rfl rfl rfl rfl (am_bk [] 48 h)
set_option maxRecDepth 100000 in
/-- DoorsForThree.guard I I I I -/
theorem bk_139 {d : Nat} {R : am_R} {a : Int32} {b : Int32} {x : Int32} {y : Int32} {mi : am_MI} {ml : am_ML} (h : am_call d 165 [.ref 0, .int a] mi ml (am_ri fun r1 mi1 ml1 => ((r1 = 0 → R (some (.int (-1 : Int32))) mi1 ml1) ∧ (¬ (r1 = 0) → am_call d 3 [.ref 1, .int (0 : Int32), .int b] mi1 ml1 (am_ri fun r2 mi2 ml2 => ((r2 = 0 → R (some (.int (-1 : Int32))) mi2 ml2) ∧ (¬ (r2 = 0) → am_call d 163 [.int x] mi2 ml2 (am_ri fun r3 mi3 ml3 => ((r3 = 0 → R (some (.int (-1 : Int32))) mi3 ml3) ∧ (¬ (r3 = 0) → ((y = 0 → (vp_in a 6 ∧ am_need (am_oc (66 + 2 * a.toNatClampNeg) == am_mk 100) (am_call d 100 [.ref (66 + 2 * a.toNatClampNeg)] mi3 ml3 (am_ri fun r4 mi4 ml4 => ((r4 = 0 → (((mi4 1 2) ≠ 0 → am_call d 30 [.ref 22] mi4 ml4 (am_rv fun mi5 ml5 => am_call d 108 [.ref 58, .ref (66 + 2 * a.toNatClampNeg), .int b, .int x] mi5 ml5 (am_ri fun r6 mi6 ml6 => am_call d 111 [.ref 58, .int r6] mi6 ml6 (am_ri fun r7 mi7 ml7 => ((y ≠ 0 → am_call d 112 [.ref 58, .int r7, .int r6] mi7 ml7 (am_ri fun r8 mi8 ml8 => R (some (.int r8)) mi8 ml8)) ∧ (¬ (y ≠ 0) → R (some (.int r7)) mi7 ml7)))))) ∧ (¬ ((mi4 1 2) ≠ 0) → R (some (.int (-2 : Int32))) mi4 ml4))) ∧ (¬ (r4 = 0) → R (some (.int r4)) mi4 ml4)))))) ∧ (¬ (y = 0) → ((y = (1 : Int32) → (vp_in a 6 ∧ am_need (am_oc (66 + 2 * a.toNatClampNeg) == am_mk 100) (am_call d 100 [.ref (66 + 2 * a.toNatClampNeg)] mi3 ml3 (am_ri fun r9 mi9 ml9 => ((r9 = 0 → (((mi9 1 2) ≠ 0 → am_call d 30 [.ref 22] mi9 ml9 (am_rv fun mi10 ml10 => am_call d 108 [.ref 58, .ref (66 + 2 * a.toNatClampNeg), .int b, .int x] mi10 ml10 (am_ri fun r11 mi11 ml11 => am_call d 111 [.ref 58, .int r11] mi11 ml11 (am_ri fun r12 mi12 ml12 => ((y ≠ 0 → am_call d 112 [.ref 58, .int r12, .int r11] mi12 ml12 (am_ri fun r13 mi13 ml13 => R (some (.int r13)) mi13 ml13)) ∧ (¬ (y ≠ 0) → R (some (.int r12)) mi12 ml12)))))) ∧ (¬ ((mi9 1 2) ≠ 0) → R (some (.int (-2 : Int32))) mi9 ml9))) ∧ (¬ (r9 = 0) → R (some (.int r9)) mi9 ml9)))))) ∧ (¬ (y = (1 : Int32)) → R (some (.int (-1 : Int32))) mi3 ml3)))))))))))))) :
    am_call (d + 1) 139 [.ref 0, .int a, .int b, .int x, .int y] mi ml R := am_call_t (t := mt_139) (n := 9) rfl rfl rfl rfl (am_bk [] 55 h)
set_option maxRecDepth 100000 in
/-- DoorsForThree.judge I I -/
theorem bk_140 {d : Nat} {R : am_R} {a : Int32} {b : Int32} {mi : am_MI} {ml : am_ML} (h : am_call d 165 [.ref 0, .int a] mi ml (am_ri fun r1 mi1 ml1 => ((r1 = 0 → R (some (.int (-1 : Int32))) mi1 ml1) ∧ (¬ (r1 = 0) → am_call d 163 [.int b] mi1 ml1 (am_ri fun r2 mi2 ml2 => ((r2 ≠ 0 → (vp_in a 6 ∧ am_need (am_oc (66 + 2 * a.toNatClampNeg) == am_mk 100) (am_call d 100 [.ref (66 + 2 * a.toNatClampNeg)] mi2 ml2 (am_ri fun r3 mi3 ml3 => ((r3 = 0 → am_call d 30 [.ref 22] mi3 ml3 (am_rv fun mi4 ml4 => (vp_in a 6 ∧ am_call d 113 [.ref 58, .ref (66 + 2 * a.toNatClampNeg), .int b] mi4 ml4 (am_ri fun r5 mi5 ml5 => R (some (.int r5)) mi5 ml5)))) ∧ (¬ (r3 = 0) → R (some (.int r3)) mi3 ml3)))))) ∧ (¬ (r2 ≠ 0) → R (some (.int (-1 : Int32))) mi2 ml2))))))) :
    am_call (d + 1) 140 [.ref 0, .int a, .int b] mi ml R := am_call_t (t := mt_140) (n := 4) rfl rfl rfl rfl (am_bk [] 27 h)
set_option maxRecDepth 100000 in
/-- DoorsForThree.byWhat I -/
theorem bk_141 {d : Nat} {R : am_R} {a : Int32} {mi : am_MI} {ml : am_ML} (h : am_call d 165 [.ref 0, .int a] mi ml (am_ri fun r1 mi1 ml1 => ((r1 ≠ 0 → (vp_in a 6 ∧ am_need (am_oc (66 + 2 * a.toNatClampNeg) == am_mk 100) (am_call d 100 [.ref (66 + 2 * a.toNatClampNeg)] mi1 ml1 (am_ri fun r2 mi2 ml2 => ((r2 = 0 → am_call d 30 [.ref 22] mi2 ml2 (am_rv fun mi3 ml3 => am_wp (am_call d) mt_141 R 23 [some (.ref 0), some (.int a), none, some (.int (0 : Int32)), some (.int (0 : Int32))] [] mi3 ml3)) ∧ (¬ (r2 = 0) → R (some (.int r2)) mi2 ml2)))))) ∧ (¬ (r1 ≠ 0) → R (some (.int (-1 : Int32))) mi1 ml1)))) :
    am_call (d + 1) 141 [.ref 0, .int a] mi ml R := am_call_t (t := mt_141) (n := 5) rfl rfl rfl rfl (am_bk [(23, [true, true, false, true, true])] 20 h)
set_option maxRecDepth 100000 in
theorem bk_141_23 {d : Nat} {R : am_R} {l1 : Int32} {l3 : Int32} {l4 : Int32} {mi : am_MI} {ml : am_ML} (h : (((5 : Int32) ≤ l4 → R (some (.int l3)) mi ml) ∧ (¬ ((5 : Int32) ≤ l4) → (vp_in l1 6 ∧ am_call d 113 [.ref 58, .ref (66 + 2 * l1.toNatClampNeg), .int l4] mi ml (am_ri fun r1 mi1 ml1 => ((r1 ≠ (-2 : Int32) → am_wp (am_call d) mt_141 R 23 [some (.ref 0), some (.int l1), none, some (.int l3), some (.int (l4 + 1))] [] mi1 ml1) ∧ (¬ (r1 ≠ (-2 : Int32)) → am_wp (am_call d) mt_141 R 23 [some (.ref 0), some (.int l1), none, some (.int (l3 ||| (am_shl (1 : Int32) l4))), some (.int (l4 + 1))] [] mi1 ml1))))))) :
    am_wp (am_call d) mt_141 R 23 [some (.ref 0), some (.int l1), none, some (.int l3), some (.int l4)] [] mi ml := am_bk [(23, [true, true, false, true, true])] 22 h
set_option maxRecDepth 100000 in
/-- DoorsForThree.second I I -/
theorem bk_142 {d : Nat} {R : am_R} {a : Int32} {b : Int32} {mi : am_MI} {ml : am_ML} (h : am_call d 163 [.int a] mi ml (am_ri fun r1 mi1 ml1 => ((r1 = 0 → R (some (.int (-1 : Int32))) mi1 ml1) ∧ (¬ (r1 = 0) → am_call d 3 [.ref 1, .int (2 : Int32), .int b] mi1 ml1 (am_ri fun r2 mi2 ml2 => ((r2 ≠ 0 → am_call d 166 [.ref 0] mi2 ml2 (am_rr fun r3 mi3 ml3 => am_need (am_oc r3 == am_mk 60) (am_call d 60 [.ref r3, .int a, .int b] mi3 ml3 (am_rv fun mi4 ml4 => am_call d 41 [.ref 22] mi4 ml4 (am_ri fun r5 mi5 ml5 => R (some (.int r5)) mi5 ml5))))) ∧ (¬ (r2 ≠ 0) → R (some (.int (-1 : Int32))) mi2 ml2))))))) :
    am_call (d + 1) 142 [.ref 0, .int a, .int b] mi ml R := am_call_t (t := mt_142) (n := 3) rfl rfl rfl rfl (am_bk [] 18 h)
set_option maxRecDepth 100000 in
/-- DoorsForThree.pairs I I -/
theorem bk_143 {d : Nat} {R : am_R} {a : Int32} {b : Int32} {mi : am_MI} {ml : am_ML} (h : am_call d 163 [.int a] mi ml (am_ri fun r1 mi1 ml1 => ((r1 = 0 → R (some (.int (-1 : Int32))) mi1 ml1) ∧ (¬ (r1 = 0) → ((b = 0 → am_call d 166 [.ref 0] mi1 ml1 (am_rr fun r2 mi2 ml2 => am_need (am_oc r2 == am_mk 61) (am_call d 61 [.ref r2, .int a] mi2 ml2 (am_ri fun r3 mi3 ml3 => ((b ≠ 0 → ((r3 ≠ (-2 : Int32) → (¬ (10 : Int32) = 0 ∧ (¬ (10 : Int32) = 0 ∧ am_call d 62 [.ref 22, .int a, .int (r3 / (10 : Int32)), .int (am_rem r3 (10 : Int32))] mi3 ml3 (am_ri fun r4 mi4 ml4 => R (some (.int r4)) mi4 ml4)))) ∧ (¬ (r3 ≠ (-2 : Int32)) → R (some (.int (0 : Int32))) mi3 ml3))) ∧ (¬ (b ≠ 0) → R (some (.int r3)) mi3 ml3)))))) ∧ (¬ (b = 0) → ((b = (1 : Int32) → am_call d 166 [.ref 0] mi1 ml1 (am_rr fun r5 mi5 ml5 => am_need (am_oc r5 == am_mk 61) (am_call d 61 [.ref r5, .int a] mi5 ml5 (am_ri fun r6 mi6 ml6 => ((b ≠ 0 → ((r6 ≠ (-2 : Int32) → (¬ (10 : Int32) = 0 ∧ (¬ (10 : Int32) = 0 ∧ am_call d 62 [.ref 22, .int a, .int (r6 / (10 : Int32)), .int (am_rem r6 (10 : Int32))] mi6 ml6 (am_ri fun r7 mi7 ml7 => R (some (.int r7)) mi7 ml7)))) ∧ (¬ (r6 ≠ (-2 : Int32)) → R (some (.int (0 : Int32))) mi6 ml6))) ∧ (¬ (b ≠ 0) → R (some (.int r6)) mi6 ml6)))))) ∧ (¬ (b = (1 : Int32)) → R (some (.int (-1 : Int32))) mi1 ml1)))))))) :
    am_call (d + 1) 143 [.ref 0, .int a, .int b] mi ml R := am_call_t (t := mt_143) (n := 4) rfl rfl rfl rfl (am_bk [] 29 h)
set_option maxRecDepth 100000 in
/-- DoorsForThree.drawn I I I -/
theorem bk_144 {d : Nat} {R : am_R} {a : Int32} {b : Int32} {x : Int32} {mi : am_MI} {ml : am_ML} (h : ((b < (1 : Int32) → R (some (.int (-1 : Int32))) mi ml) ∧ (¬ (b < (1 : Int32)) → (((50 : Int32) < b → R (some (.int (-1 : Int32))) mi ml) ∧ (¬ ((50 : Int32) < b) → ((x = (-1 : Int32) → am_call d 166 [.ref 0] mi ml (am_rr fun r1 mi1 ml1 => am_need (am_oc r1 == am_mk 63) (am_call d 63 [.ref r1, .int a, .int b, .int x] mi1 ml1 (am_ri fun r2 mi2 ml2 => R (some (.int r2)) mi2 ml2)))) ∧ (¬ (x = (-1 : Int32)) → am_call d 1 [.ref 1, .int x] mi ml (am_ri fun r3 mi3 ml3 => ((r3 ≠ 0 → am_call d 166 [.ref 0] mi3 ml3 (am_rr fun r4 mi4 ml4 => am_need (am_oc r4 == am_mk 63) (am_call d 63 [.ref r4, .int a, .int b, .int x] mi4 ml4 (am_ri fun r5 mi5 ml5 => R (some (.int r5)) mi5 ml5)))) ∧ (¬ (r3 ≠ 0) → R (some (.int (-1 : Int32))) mi3 ml3)))))))))) :
    am_call (d + 1) 144 [.ref 0, .int a, .int b, .int x] mi ml R := am_call_t (t := mt_144) (n := 4) rfl rfl rfl rfl (am_bk [] 21 h)
set_option maxRecDepth 100000 in
/-- DoorsForThree.day  -/
theorem bk_145 {d : Nat} {R : am_R} {mi : am_MI} {ml : am_ML} (h : am_call d 16 [.ref 59] mi ml (am_ri fun r1 mi1 ml1 => ((r1 = 0 → R (some (.int (-5 : Int32))) mi1 ml1) ∧ (¬ (r1 = 0) → R (some (.int (mi1 59 2))) mi1 ml1)))) :
    am_call (d + 1) 145 [.ref 0] mi ml R := am_call_t (t := mt_145) (n := 1) rfl rfl rfl rfl (am_bk [] 9 h)
set_option maxRecDepth 100000 in
/-- DoorsForThree.open I I -/
theorem bk_146 {d : Nat} {R : am_R} {a : Int32} {b : Int32} {mi : am_MI} {ml : am_ML} (h : am_call d 1 [.ref 1, .int a] mi ml (am_ri fun r1 mi1 ml1 => ((r1 = 0 → R (some (.int (-1 : Int32))) mi1 ml1) ∧ (¬ (r1 = 0) → am_call d 0 [.ref 1, .int b] mi1 ml1 (am_ri fun r2 mi2 ml2 => ((r2 ≠ 0 → am_call d 15 [.ref 59, .int b] mi2 ml2 (am_ri fun r3 mi3 ml3 => ((r3 = (-2 : Int32) → am_call d 4 [.ref 1, .int (2 : Int32), .int b] mi3 ml3 (am_ri fun r4 mi4 ml4 => am_call d 17 [.ref 59, .int b] mi4 ml4 (am_ri fun r5 mi5 ml5 => am_call d 116 [.ref 20, .int a, .int b, .int r4, .int r5] mi5 ml5 (am_ri fun r6 mi6 ml6 => am_call d 18 [.ref 59, .int a, .int b, .int r6] mi6 ml6 (am_rv fun mi7 ml7 => R (some (.int r6)) mi7 ml7))))) ∧ (¬ (r3 = (-2 : Int32)) → R (some (.int (-5 : Int32))) mi3 ml3)))) ∧ (¬ (r2 ≠ 0) → R (some (.int (-1 : Int32))) mi2 ml2))))))) :
    am_call (d + 1) 146 [.ref 0, .int a, .int b] mi ml R := am_call_t (t := mt_146) (n := 4) rfl rfl rfl rfl (am_bk [] 39 h)
set_option maxRecDepth 100000 in
/-- DoorsForThree.forgotten  -/
theorem bk_147 {d : Nat} {R : am_R} {mi : am_MI} {ml : am_ML} (h : am_call d 19 [.ref 59] mi ml (am_ri fun r1 mi1 ml1 => R (some (.int r1)) mi1 ml1)) :
    am_call (d + 1) 147 [.ref 0] mi ml R := am_call_t (t := mt_147) (n := 1) rfl rfl rfl rfl (am_bk [] 4 h)
set_option maxRecDepth 100000 in
/-- DoorsForThree.led I -/
theorem bk_148 {d : Nat} {R : am_R} {a : Int32} {mi : am_MI} {ml : am_ML} (h : ((a = 0 → R (some (.int (mi 59 3))) mi ml) ∧ (¬ a = 0 → ((a = 1 → R (some (.int (mi 59 4))) mi ml) ∧ (¬ a = 1 → ((a = 2 → R (some (.int (mi 59 5))) mi ml) ∧ (¬ a = 2 → ((a = 3 → R (some (.int (mi 59 2))) mi ml) ∧ (¬ a = 3 → R (some (.int (-1 : Int32))) mi ml))))))))) :
    am_call (d + 1) 148 [.ref 0, .int a] mi ml R := am_call_t (t := mt_148) (n := 2) rfl rfl rfl rfl (am_bk [] 6 h)
set_option maxRecDepth 100000 in
/-- DoorsForThree.image  -/
theorem bk_149 {d : Nat} {R : am_R} {mi : am_MI} {ml : am_ML} (h : am_call d 20 [.ref 59] mi ml (am_rv fun mi1 ml1 => R (some (.int (mi1 59 3))) mi1 ml1)) :
    am_call (d + 1) 149 [.ref 0] mi ml R := am_call_t (t := mt_149) (n := 1) rfl rfl rfl rfl (am_bk [] 7 h)
set_option maxRecDepth 100000 in
/-- DoorsForThree.back  -/
theorem bk_150 {d : Nat} {R : am_R} {mi : am_MI} {ml : am_ML} (h : am_call d 21 [.ref 59] mi ml (am_ri fun r1 mi1 ml1 => ((r1 = 0 → R (some (.int (-5 : Int32))) mi1 ml1) ∧ (¬ (r1 = 0) → R (some (.int (mi1 59 3))) mi1 ml1)))) :
    am_call (d + 1) 150 [.ref 0] mi ml R := am_call_t (t := mt_150) (n := 1) rfl rfl rfl rfl (am_bk [] 9 h)
set_option maxRecDepth 100000 in
/-- DoorsForThree.undo  -/
theorem bk_151 {d : Nat} {R : am_R} {mi : am_MI} {ml : am_ML} (h : am_call d 13 [.ref 13, .ref 1] mi ml (am_ri fun r1 mi1 ml1 => ((r1 = 0 → R (some (.int (-5 : Int32))) mi1 ml1) ∧ (¬ (r1 = 0) → R (some (.int (mi1 13 1))) mi1 ml1)))) :
    am_call (d + 1) 151 [.ref 0] mi ml R := am_call_t (t := mt_151) (n := 1) rfl rfl rfl rfl (am_bk [] 11 h)
set_option maxRecDepth 100000 in
/-- DoorsForThree.body I -/
theorem bk_153 {d : Nat} {R : am_R} {a : Int32} {mi : am_MI} {ml : am_ML} (h : am_call d 83 [.ref 62, .int a] mi ml (am_ri fun r1 mi1 ml1 => ((r1 ≠ 0 → am_call d 85 [.ref 62, .int a] mi1 ml1 (am_ri fun r2 mi2 ml2 => ((r2 = 0 → R (some (.int (-3 : Int32))) mi2 ml2) ∧ (¬ (r2 = 0) → R (some (.int ((mi2 62 1) - (1 : Int32)))) mi2 ml2)))) ∧ (¬ (r1 ≠ 0) → R (some (.int (-1 : Int32))) mi1 ml1)))) :
    am_call (d + 1) 153 [.ref 0, .int a] mi ml R := am_call_t (t := mt_153) (n := 2) rfl rfl rfl rfl (am_bk [] 17 h)
set_option maxRecDepth 100000 in
/-- DoorsForThree.row I I I -/
theorem bk_157 {d : Nat} {R : am_R} {a : Int32} {b : Int32} {x : Int32} {mi : am_MI} {ml : am_ML} (h : am_call d 165 [.ref 0, .int a] mi ml (am_ri fun r1 mi1 ml1 => ((r1 = 0 → R (some (.int (-1 : Int32))) mi1 ml1) ∧ (¬ (r1 = 0) → ((b < 0 → R (some (.int (-1 : Int32))) mi1 ml1) ∧ (¬ (b < 0) → (((5 : Int32) ≤ b → R (some (.int (-1 : Int32))) mi1 ml1) ∧ (¬ ((5 : Int32) ≤ b) → ((x ≤ (60 : Int32) → ((0 ≤ x → (vp_in a 6 ∧ am_need (am_oc (66 + 2 * a.toNatClampNeg) == am_mk 98) (am_call d 98 [.ref (66 + 2 * a.toNatClampNeg), .int b, .int x] mi1 ml1 (am_rv fun mi2 ml2 => R (some (.int (1 : Int32))) mi2 ml2)))) ∧ (¬ (0 ≤ x) → R (some (.int (-14 : Int32))) mi1 ml1))) ∧ (¬ (x ≤ (60 : Int32)) → R (some (.int (-1 : Int32))) mi1 ml1)))))))))) :
    am_call (d + 1) 157 [.ref 0, .int a, .int b, .int x] mi ml R := am_call_t (t := mt_157) (n := 4) rfl rfl rfl rfl (am_bk [] 23 h)
set_option maxRecDepth 100000 in
/-- DoorsForThree.put I I J -/
theorem bk_158 {d : Nat} {R : am_R} {a : Int32} {b : Int32} {x : Int64} {mi : am_MI} {ml : am_ML} (h : am_call d 165 [.ref 0, .int a] mi ml (am_ri fun r1 mi1 ml1 => ((r1 ≠ 0 → (vp_in a 6 ∧ am_need (am_oc (66 + 2 * a.toNatClampNeg) == am_mk 99) (am_call d 99 [.ref (66 + 2 * a.toNatClampNeg)] mi1 ml1 (am_ri fun r2 mi2 ml2 => ((r2 = 0 → am_need (am_oc (66 + 2 * a.toNatClampNeg) == am_mk 104) (am_call d 104 [.ref (66 + 2 * a.toNatClampNeg), .int b, .long x] mi2 ml2 (am_ri fun r3 mi3 ml3 => ((r3 = 0 → R (some (.int (-13 : Int32))) mi3 ml3) ∧ (¬ (r3 = 0) → R (some (.int (1 : Int32))) mi3 ml3))))) ∧ (¬ (r2 = 0) → R (some (.int r2)) mi2 ml2)))))) ∧ (¬ (r1 ≠ 0) → R (some (.int (-1 : Int32))) mi1 ml1)))) :
    am_call (d + 1) 158 [.ref 0, .int a, .int b, .long x] mi ml R := am_call_t (t := mt_158) (n := 7) rfl rfl rfl rfl (am_bk [] 22 h)
set_option maxRecDepth 100000 in
/-- DoorsForThree.count I -/
theorem bk_162 {d : Nat} {R : am_R} {a : Int32} {mi : am_MI} {ml : am_ML} (h : ((a = 0 → R (some (.int (mi 1 1))) mi ml) ∧ (¬ a = 0 → ((a = 1 → R (some (.int (mi 1 2))) mi ml) ∧ (¬ a = 1 → ((a = 2 → R (some (.int (mi 15 1))) mi ml) ∧ (¬ a = 2 → ((a = 3 → R (some (.int (mi 13 1))) mi ml) ∧ (¬ a = 3 → ((a = 4 → R (some (.int (mi 62 1))) mi ml) ∧ (¬ a = 4 → ((a = 5 → R (some (.int (mi 62 3))) mi ml) ∧ (¬ a = 5 → R (some (.int (-1 : Int32))) mi ml))))))))))))) :
    am_call (d + 1) 162 [.ref 0, .int a] mi ml R := am_call_t (t := mt_162) (n := 2) rfl rfl rfl rfl (am_bk [] 6 h)
set_option maxRecDepth 100000 in
/-- DoorsForThree.isRule I -/
theorem bk_163 {d : Nat} {R : am_R} {a : Int32} {mi : am_MI} {ml : am_ML} (h : ((a < 0 → (((0 : Int32) = 0 ∨ (0 : Int32) = 1) ∧ R (some (.int (0 : Int32))) mi ml)) ∧ (¬ (a < 0) → (((5 : Int32) ≤ a → (((0 : Int32) = 0 ∨ (0 : Int32) = 1) ∧ R (some (.int (0 : Int32))) mi ml)) ∧ (¬ ((5 : Int32) ≤ a) → (((1 : Int32) = 0 ∨ (1 : Int32) = 1) ∧ R (some (.int (1 : Int32))) mi ml)))))) :
    am_call (d + 1) 163 [.int a] mi ml R := am_call_t (t := mt_163) (n := 1) rfl rfl rfl rfl (am_bk [] 8 h)
set_option maxRecDepth 100000 in
/-- DoorsForThree.isRuleAndChild I -/
theorem bk_164 {d : Nat} {R : am_R} {a : Int32} {mi : am_MI} {ml : am_ML} (h : ((a < 0 → (((0 : Int32) = 0 ∨ (0 : Int32) = 1) ∧ R (some (.int (0 : Int32))) mi ml)) ∧ (¬ (a < 0) → (¬ (10 : Int32) = 0 ∧ am_call d 163 [.int (a / (10 : Int32))] mi ml (am_ri fun r1 mi1 ml1 => ((r1 = 0 → (((0 : Int32) = 0 ∨ (0 : Int32) = 1) ∧ R (some (.int (0 : Int32))) mi1 ml1)) ∧ (¬ (r1 = 0) → (¬ (10 : Int32) = 0 ∧ am_call d 1 [.ref 1, .int (am_rem a (10 : Int32))] mi1 ml1 (am_ri fun r2 mi2 ml2 => ((r2 = 0 → (((0 : Int32) = 0 ∨ (0 : Int32) = 1) ∧ R (some (.int (0 : Int32))) mi2 ml2)) ∧ (¬ (r2 = 0) → (((1 : Int32) = 0 ∨ (1 : Int32) = 1) ∧ R (some (.int (1 : Int32))) mi2 ml2)))))))))))) :
    am_call (d + 1) 164 [.ref 0, .int a] mi ml R := am_call_t (t := mt_164) (n := 2) rfl rfl rfl rfl (am_bk [] 17 h)
set_option maxRecDepth 100000 in
/-- DoorsForThree.isShelf I -/
theorem bk_165 {d : Nat} {R : am_R} {a : Int32} {mi : am_MI} {ml : am_ML} (h : ((a < 0 → (((0 : Int32) = 0 ∨ (0 : Int32) = 1) ∧ R (some (.int (0 : Int32))) mi ml)) ∧ (¬ (a < 0) → (((Int32.ofNat 6) ≤ a → (((0 : Int32) = 0 ∨ (0 : Int32) = 1) ∧ R (some (.int (0 : Int32))) mi ml)) ∧ (¬ ((Int32.ofNat 6) ≤ a) → (((1 : Int32) = 0 ∨ (1 : Int32) = 1) ∧ R (some (.int (1 : Int32))) mi ml)))))) :
    am_call (d + 1) 165 [.ref 0, .int a] mi ml R := am_call_t (t := mt_165) (n := 2) rfl rfl rfl rfl (am_bk [] 10 h)
set_option maxRecDepth 100000 in
/-- DoorsForThree.fresh  -/
theorem bk_166 {d : Nat} {R : am_R} {mi : am_MI} {ml : am_ML} (h : am_call d 30 [.ref 22] mi ml (am_rv fun mi1 ml1 => R (some (.ref 22)) mi1 ml1)) :
    am_call (d + 1) 166 [.ref 0] mi ml R := am_call_t (t := mt_166) (n := 1) rfl rfl rfl rfl (am_bk [] 6 h)
end
section
/-! block lemmas of methods 272 to 290 -/
set_option maxRecDepth 100000 in
/-- java/lang/Integer.bitCount I -/
theorem bk_273 {d : Nat} {R : am_R} {a : Int32} {mi : am_MI} {ml : am_ML} (h : R (some (.int ((((((((a - ((am_ushr a (1 : Int32)) &&& (1431655765 : Int32))) &&& (858993459 : Int32)) + ((am_ushr (a - ((am_ushr a (1 : Int32)) &&& (1431655765 : Int32))) (2 : Int32)) &&& (858993459 : Int32))) + (am_ushr (((a - ((am_ushr a (1 : Int32)) &&& (1431655765 : Int32))) &&& (858993459 : Int32)) + ((am_ushr (a - ((am_ushr a (1 : Int32)) &&& (1431655765 : Int32))) (2 : Int32)) &&& (858993459 : Int32))) (4 : Int32))) &&& (252645135 : Int32)) + (am_ushr (((((a - ((am_ushr a (1 : Int32)) &&& (1431655765 : Int32))) &&& (858993459 : Int32)) + ((am_ushr (a - ((am_ushr a (1 : Int32)) &&& (1431655765 : Int32))) (2 : Int32)) &&& (858993459 : Int32))) + (am_ushr (((a - ((am_ushr a (1 : Int32)) &&& (1431655765 : Int32))) &&& (858993459 : Int32)) + ((am_ushr (a - ((am_ushr a (1 : Int32)) &&& (1431655765 : Int32))) (2 : Int32)) &&& (858993459 : Int32))) (4 : Int32))) &&& (252645135 : Int32)) (8 : Int32))) + (am_ushr ((((((a - ((am_ushr a (1 : Int32)) &&& (1431655765 : Int32))) &&& (858993459 : Int32)) + ((am_ushr (a - ((am_ushr a (1 : Int32)) &&& (1431655765 : Int32))) (2 : Int32)) &&& (858993459 : Int32))) + (am_ushr (((a - ((am_ushr a (1 : Int32)) &&& (1431655765 : Int32))) &&& (858993459 : Int32)) + ((am_ushr (a - ((am_ushr a (1 : Int32)) &&& (1431655765 : Int32))) (2 : Int32)) &&& (858993459 : Int32))) (4 : Int32))) &&& (252645135 : Int32)) + (am_ushr (((((a - ((am_ushr a (1 : Int32)) &&& (1431655765 : Int32))) &&& (858993459 : Int32)) + ((am_ushr (a - ((am_ushr a (1 : Int32)) &&& (1431655765 : Int32))) (2 : Int32)) &&& (858993459 : Int32))) + (am_ushr (((a - ((am_ushr a (1 : Int32)) &&& (1431655765 : Int32))) &&& (858993459 : Int32)) + ((am_ushr (a - ((am_ushr a (1 : Int32)) &&& (1431655765 : Int32))) (2 : Int32)) &&& (858993459 : Int32))) (4 : Int32))) &&& (252645135 : Int32)) (8 : Int32))) (16 : Int32))) &&& (63 : Int32)))) mi ml) :
    am_call (d + 1) 273 [.int a] mi ml R := am_call_t (t := mt_273) (n := 1) rfl rfl rfl rfl (am_bk [] 42 h)
set_option maxRecDepth 100000 in
/-- java/util/Arrays.fill arr J J -/
theorem bk_274 {d : Nat} {R : am_R} {a : Nat} {b : Int64} {mi : am_MI} {ml : am_ML} (h : am_need (Nat.ble 2 (am_kd a) && Nat.ble (am_kd a) 6 || am_kd a == 8 || am_kd a == 9) (am_wp (am_call d) mt_274 R 5 [some (.ref a), some (.long b), none, some (.int (0 : Int32)), some (.int (Int32.ofNat (am_len mi a)))] [] mi ml)) :
    am_call (d + 1) 274 [.ref a, .long b] mi ml R := am_call_t (t := mt_274) (n := 5) rfl rfl rfl rfl (am_bk [(5, [true, true, false, true, true])] 6 h)
set_option maxRecDepth 100000 in
theorem bk_274_5 {d : Nat} {R : am_R} {l0 : Nat} {l1 : Int64} {l3 : Int32} {l4 : Int32} {mi : am_MI} {ml : am_ML} (h : ((l4 ≤ l3 → R none mi ml) ∧ (¬ (l4 ≤ l3) → am_need (am_kd l0 == 3) (vp_in l3 (am_n l0) ∧ am_wp (am_call d) mt_274 R 5 [some (.ref l0), some (.long l1), none, some (.int (l3 + 1)), some (.int l4)] [] mi (am_ul ml l0 l3.toNatClampNeg l1))))) :
    am_wp (am_call d) mt_274 R 5 [some (.ref l0), some (.long l1), none, some (.int l3), some (.int l4)] [] mi ml := am_bk [(5, [true, true, false, true, true])] 10 h
set_option maxRecDepth 100000 in
/-- java/util/Arrays.fill arr I I -/
theorem bk_275 {d : Nat} {R : am_R} {a : Nat} {b : Int32} {mi : am_MI} {ml : am_ML} (h : am_need (Nat.ble 2 (am_kd a) && Nat.ble (am_kd a) 6 || am_kd a == 8 || am_kd a == 9) (am_wp (am_call d) mt_275 R 5 [some (.ref a), some (.int b), some (.int (0 : Int32)), some (.int (Int32.ofNat (am_len mi a)))] [] mi ml)) :
    am_call (d + 1) 275 [.ref a, .int b] mi ml R := am_call_t (t := mt_275) (n := 4) rfl rfl rfl rfl (am_bk [(5, [true, true, true, true])] 6 h)
set_option maxRecDepth 100000 in
theorem bk_275_5 {d : Nat} {R : am_R} {l0 : Nat} {l1 : Int32} {l2 : Int32} {l3 : Int32} {mi : am_MI} {ml : am_ML} (h : ((l3 ≤ l2 → R none mi ml) ∧ (¬ (l3 ≤ l2) → am_need (am_kd l0 == 2 || am_kd l0 == 10) (vp_in l2 (am_len mi l0) ∧ am_wp (am_call d) mt_275 R 5 [some (.ref l0), some (.int l1), some (.int (l2 + 1)), some (.int l3)] [] (am_ui mi l0 l2.toNatClampNeg l1) ml)))) :
    am_wp (am_call d) mt_275 R 5 [some (.ref l0), some (.int l1), some (.int l2), some (.int l3)] [] mi ml := am_bk [(5, [true, true, true, true])] 10 h
set_option maxRecDepth 100000 in
/-- java/lang/String.length  -/
theorem bk_276 {d : Nat} {R : am_R} {o : Nat} {mi : am_MI} {ml : am_ML} (h : am_need (am_oc o == 100) (am_need (Nat.ble 2 (am_kd (am_rf o 0)) && Nat.ble (am_kd (am_rf o 0)) 6 || am_kd (am_rf o 0) == 8 || am_kd (am_rf o 0) == 9) (am_need (am_oc o == am_mk 279) (am_call d 279 [.ref o] mi ml (am_ri fun r1 mi1 ml1 => R (some (.int (am_shr (Int32.ofNat (am_len mi (am_rf o 0))) r1))) mi1 ml1))))) :
    am_call (d + 1) 276 [.ref o] mi ml R := am_call_t (t := mt_276) (n := 1) rfl rfl rfl rfl (am_bk [] 7 h)
set_option maxRecDepth 100000 in
/-- java/lang/String.indexOf I -/
theorem bk_277 {d : Nat} {R : am_R} {o : Nat} {a : Int32} {mi : am_MI} {ml : am_ML} (h : am_need (am_oc o == am_mk 278) (am_call d 278 [.ref o, .int a, .int (0 : Int32)] mi ml (am_ri fun r1 mi1 ml1 => R (some (.int r1)) mi1 ml1))) :
    am_call (d + 1) 277 [.ref o, .int a] mi ml R := am_call_t (t := mt_277) (n := 2) rfl rfl rfl rfl (am_bk [] 5 h)
set_option maxRecDepth 100000 in
/-- java/lang/String.indexOf I I -/
theorem bk_278 {d : Nat} {R : am_R} {o : Nat} {a : Int32} {b : Int32} {mi : am_MI} {ml : am_ML} (h : am_need (am_oc o == am_mk 280) (am_call d 280 [.ref o] mi ml (am_ri fun r1 mi1 ml1 => ((r1 = 0 → am_need (am_oc o == 100) (am_need (am_oc o == am_mk 276) (am_call d 276 [.ref o] mi1 ml1 (am_ri fun r2 mi2 ml2 => False)))) ∧ (¬ (r1 = 0) → am_need (am_oc o == 100) (am_need (am_oc o == am_mk 276) (am_call d 276 [.ref o] mi1 ml1 (am_ri fun r3 mi3 ml3 => am_call d 282 [.ref (am_rf o 0), .int a, .int b, .int r3] mi3 ml3 (am_ri fun r4 mi4 ml4 => R (some (.int r4)) mi4 ml4))))))))) :
    am_call (d + 1) 278 [.ref o, .int a, .int b] mi ml R := am_call_t (t := mt_278) (n := 3) rfl rfl rfl rfl (am_bk [] 12 h)
set_option maxRecDepth 100000 in
/-- java/lang/String.coder  -/
theorem bk_279 {d : Nat} {R : am_R} {o : Nat} {mi : am_MI} {ml : am_ML} (h : (((1 : Int32) = 0 → (((1 : Int32) = 0 ∨ (1 : Int32) = 1) ∧ R (some (.int (1 : Int32))) mi ml)) ∧ (¬ ((1 : Int32) = 0) → am_need (am_oc o == 100) ((((mi o 1) = 0 ∨ (mi o 1) = 1) ∧ R (some (.int (mi o 1))) mi ml))))) :
    am_call (d + 1) 279 [.ref o] mi ml R := am_call_t (t := mt_279) (n := 1) rfl rfl rfl rfl (am_bk [] 6 h)
set_option maxRecDepth 100000 in
/-- java/lang/String.isLatin1  -/
theorem bk_280 {d : Nat} {R : am_R} {o : Nat} {mi : am_MI} {ml : am_ML} (h : (((1 : Int32) = 0 → (((0 : Int32) = 0 ∨ (0 : Int32) = 1) ∧ R (some (.int (0 : Int32))) mi ml)) ∧ (¬ ((1 : Int32) = 0) → am_need (am_oc o == 100) ((((mi o 1) ≠ 0 → (((0 : Int32) = 0 ∨ (0 : Int32) = 1) ∧ R (some (.int (0 : Int32))) mi ml)) ∧ (¬ ((mi o 1) ≠ 0) → (((1 : Int32) = 0 ∨ (1 : Int32) = 1) ∧ R (some (.int (1 : Int32))) mi ml))))))) :
    am_call (d + 1) 280 [.ref o] mi ml R := am_call_t (t := mt_280) (n := 1) rfl rfl rfl rfl (am_bk [] 8 h)
set_option maxRecDepth 100000 in
/-- java/lang/StringLatin1.canEncode I -/
theorem bk_281 {d : Nat} {R : am_R} {a : Int32} {mi : am_MI} {ml : am_ML} (h : ((a < 0 → (((0 : Int32) = 0 ∨ (0 : Int32) = 1) ∧ R (some (.int (0 : Int32))) mi ml)) ∧ (¬ (a < 0) → (((255 : Int32) < a → (((0 : Int32) = 0 ∨ (0 : Int32) = 1) ∧ R (some (.int (0 : Int32))) mi ml)) ∧ (¬ ((255 : Int32) < a) → (((1 : Int32) = 0 ∨ (1 : Int32) = 1) ∧ R (some (.int (1 : Int32))) mi ml)))))) :
    am_call (d + 1) 281 [.int a] mi ml R := am_call_t (t := mt_281) (n := 1) rfl rfl rfl rfl (am_bk [] 8 h)
set_option maxRecDepth 100000 in
/-- java/lang/StringLatin1.indexOf arr B I I I -/
theorem bk_282 {d : Nat} {R : am_R} {a : Nat} {b : Int32} {x : Int32} {y : Int32} {mi : am_MI} {ml : am_ML} (h : am_call d 281 [.int b] mi ml (am_ri fun r1 mi1 ml1 => ((r1 ≠ 0 → am_need (Nat.ble 2 (am_kd a) && Nat.ble (am_kd a) 6 || am_kd a == 8 || am_kd a == 9) ((((am_max x (0 : Int32)) < (am_min y (Int32.ofNat (am_len mi1 a))) → am_call d 283 [.ref a, .int b, .int (am_max x (0 : Int32)), .int (am_min y (Int32.ofNat (am_len mi1 a)))] mi1 ml1 (am_ri fun r2 mi2 ml2 => R (some (.int r2)) mi2 ml2)) ∧ (¬ ((am_max x (0 : Int32)) < (am_min y (Int32.ofNat (am_len mi1 a)))) → R (some (.int (-1 : Int32))) mi1 ml1)))) ∧ (¬ (r1 ≠ 0) → R (some (.int (-1 : Int32))) mi1 ml1)))) :
    am_call (d + 1) 282 [.ref a, .int b, .int x, .int y] mi ml R := am_call_t (t := mt_282) (n := 4) rfl rfl rfl rfl (am_bk [] 21 h)
set_option maxRecDepth 100000 in
/-- java/lang/StringLatin1.indexOfChar arr B I I I -/
theorem bk_283 {d : Nat} {R : am_R} {a : Nat} {b : Int32} {x : Int32} {y : Int32} {mi : am_MI} {ml : am_ML} (h : am_wp (am_call d) mt_283 R 5 [some (.ref a), none, none, some (.int y), some (.int b.toInt8.toInt32), some (.int x)] [] mi ml) :
    am_call (d + 1) 283 [.ref a, .int b, .int x, .int y] mi ml R := am_call_t (t := mt_283) (n := 6) rfl rfl rfl rfl (am_bk [(5, [true, false, false, true, true, true])] 6 h)
set_option maxRecDepth 100000 in
theorem bk_283_5 {d : Nat} {R : am_R} {l0 : Nat} {l3 : Int32} {l4 : Int32} {l5 : Int32} {mi : am_MI} {ml : am_ML} (h : ((l3 ≤ l5 → R (some (.int (-1 : Int32))) mi ml) ∧ (¬ (l3 ≤ l5) → am_need (am_kd l0 == 8 || am_kd l0 == 9) (vp_in l5 (am_len mi l0) ∧ (((mi l0 l5.toNatClampNeg) ≠ l4 → am_wp (am_call d) mt_283 R 5 [some (.ref l0), none, none, some (.int l3), some (.int l4), some (.int (l5 + 1))] [] mi ml) ∧ (¬ ((mi l0 l5.toNatClampNeg) ≠ l4) → R (some (.int l5)) mi ml)))))) :
    am_wp (am_call d) mt_283 R 5 [some (.ref l0), none, none, some (.int l3), some (.int l4), some (.int l5)] [] mi ml := am_bk [(5, [true, false, false, true, true, true])] 11 h
set_option maxRecDepth 100000 in
/-- java/lang/String.charAt I -/
theorem bk_284 {d : Nat} {R : am_R} {o : Nat} {a : Int32} {mi : am_MI} {ml : am_ML} (h : am_need (am_oc o == am_mk 280) (am_call d 280 [.ref o] mi ml (am_ri fun r1 mi1 ml1 => ((r1 = 0 → am_need (am_oc o == 100) (False)) ∧ (¬ (r1 = 0) → am_need (am_oc o == 100) (am_call d 285 [.ref (am_rf o 0), .int a] mi1 ml1 (am_ri fun r2 mi2 ml2 => (am_i2c r2 = r2 ∧ R (some (.int r2)) mi2 ml2)))))))) :
    am_call (d + 1) 284 [.ref o, .int a] mi ml R := am_call_t (t := mt_284) (n := 2) rfl rfl rfl rfl (am_bk [] 8 h)
set_option maxRecDepth 100000 in
/-- java/lang/StringLatin1.charAt arr B I -/
theorem bk_285 {d : Nat} {R : am_R} {a : Nat} {b : Int32} {mi : am_MI} {ml : am_ML} (h : am_need (Nat.ble 2 (am_kd a) && Nat.ble (am_kd a) 6 || am_kd a == 8 || am_kd a == 9) (am_call d 286 [.int b, .int (Int32.ofNat (am_len mi a))] mi ml (am_rv fun mi1 ml1 => am_need (am_kd a == 8 || am_kd a == 9) (vp_in b (am_len mi1 a) ∧ (am_i2c (am_i2c ((mi1 a b.toNatClampNeg) &&& (255 : Int32))) = (am_i2c ((mi1 a b.toNatClampNeg) &&& (255 : Int32))) ∧ R (some (.int (am_i2c ((mi1 a b.toNatClampNeg) &&& (255 : Int32))))) mi1 ml1))))) :
    am_call (d + 1) 285 [.ref a, .int b] mi ml R := am_call_t (t := mt_285) (n := 2) rfl rfl rfl rfl (am_bk [] 11 h)
set_option maxRecDepth 100000 in
/-- java/lang/String.checkIndex I I -/
theorem bk_286 {d : Nat} {R : am_R} {a : Int32} {b : Int32} {mi : am_MI} {ml : am_ML} (h : am_call d 287 [.int a, .int b, .null] mi ml (am_ri fun r1 mi1 ml1 => R none mi1 ml1)) :
    am_call (d + 1) 286 [.int a, .int b] mi ml R := am_call_t (t := mt_286) (n := 2) rfl rfl rfl rfl (am_bk [] 6 h)
set_option maxRecDepth 100000 in
/-- jdk/internal/util/Preconditions.checkIndex I I Ljava/util/function/BiFunction; -/
theorem bk_287 {d : Nat} {R : am_R} {a : Int32} {b : Int32} {mi : am_MI} {ml : am_ML} (h : ((a < 0 → False) ∧ (¬ (a < 0) → ((a < b → R (some (.int a)) mi ml) ∧ (¬ (a < b) → False))))) :
    am_call (d + 1) 287 [.int a, .int b, .null] mi ml R := am_call_t (t := mt_287) (n := 3) rfl rfl rfl rfl (am_bk [] 7 h)
set_option maxRecDepth 100000 in
/-- DoorsForThreeLaw.at arr I I -/
theorem bk_288 {d : Nat} {R : am_R} {b : Int32} {mi : am_MI} {ml : am_ML} (h : (((Int32.ofNat ((mi 117 100000)).toNatClampNeg) ≤ b → R (some (.int (0 : Int32))) mi ml) ∧ (¬ ((Int32.ofNat ((mi 117 100000)).toNatClampNeg) ≤ b) → (vp_in b ((mi 117 100000)).toNatClampNeg ∧ R (some (.int (mi 117 b.toNatClampNeg))) mi ml)))) :
    am_call (d + 1) 288 [.ref 117, .int b] mi ml R := am_call_t (t := mt_288) (n := 2) rfl rfl rfl rfl (am_bk [] 9 h)
set_option maxRecDepth 100000 in
/-- DoorsForThreeLaw.some I I -/
theorem bk_289 {d : Nat} {R : am_R} {a : Int32} {b : Int32} {mi : am_MI} {ml : am_ML} (h : (¬ b = 0 ∧ ((0 ≤ (am_rem a b) → R (some (.int (am_rem a b))) mi ml) ∧ (¬ (0 ≤ (am_rem a b)) → R (some (.int ((am_rem a b) + b))) mi ml)))) :
    am_call (d + 1) 289 [.int a, .int b] mi ml R := am_call_t (t := mt_289) (n := 3) rfl rfl rfl rfl (am_bk [] 11 h)
set_option maxRecDepth 100000 in
/-- DoorsForThreeLaw.told LDoorsForThree; -/
theorem bk_290 {d : Nat} {R : am_R} {mi : am_MI} {ml : am_ML} (h : am_call d 162 [.ref 0, .int (0 : Int32)] mi ml (am_ri fun r1 mi1 ml1 => am_call d 162 [.ref 0, .int (1 : Int32)] mi1 ml1 (am_ri fun r2 mi2 ml2 => am_wp (am_call d) mt_290 R 12 [some (.ref 0), some (.long (7 : Int64)), none, some (.int r1), some (.int r2), some (.int (0 : Int32)), none] [] mi2 ml2))) :
    am_call (d + 1) 290 [.ref 0] mi ml R := am_call_t (t := mt_290) (n := 7) rfl rfl rfl rfl (am_bk [(12, [true, true, false, true, true, true, false]), (71, [true, true, false, false, true, true, false]), (76, [true, true, false, false, true, true, true]), (141, [true, true, false, false, false, true, false]), (205, [true, true, false, false, false, true, false])] 13 h)
set_option maxRecDepth 100000 in
theorem bk_290_12 {d : Nat} {R : am_R} {l1 : Int64} {l3 : Int32} {l4 : Int32} {l5 : Int32} {mi : am_MI} {ml : am_ML} (h : ((l3 ≤ l5 → am_wp (am_call d) mt_290 R 71 [some (.ref 0), some (.long l1), none, none, some (.int l4), some (.int (0 : Int32)), none] [] mi ml) ∧ (¬ (l3 ≤ l5) → am_call d 122 [.ref 0, .int l5, .int (0 : Int32)] mi ml (am_ri fun r1 mi1 ml1 => am_call d 122 [.ref 0, .int l5, .int (1 : Int32)] mi1 ml1 (am_ri fun r2 mi2 ml2 => am_call d 122 [.ref 0, .int l5, .int (2 : Int32)] mi2 ml2 (am_ri fun r3 mi3 ml3 => am_call d 122 [.ref 0, .int l5, .int (10 : Int32)] mi3 ml3 (am_ri fun r4 mi4 ml4 => am_call d 126 [.ref 0, .int ((300 : Int32) + l5)] mi4 ml4 (am_ri fun r5 mi5 ml5 => am_call d 126 [.ref 0, .int ((400 : Int32) + l5)] mi5 ml5 (am_ri fun r6 mi6 ml6 => am_wp (am_call d) mt_290 R 12 [some (.ref 0), some (.long ((((((((31 : Int64) * l1) + r1.toInt64) + ((3 : Int32) * r2).toInt64) + ((5 : Int32) * r3).toInt64) + ((7 : Int32) * r4).toInt64) + ((11 : Int32) * r5).toInt64) + ((13 : Int32) * r6).toInt64)), none, some (.int l3), some (.int l4), some (.int (l5 + 1)), none] [] mi6 ml6))))))))) :
    am_wp (am_call d) mt_290 R 12 [some (.ref 0), some (.long l1), none, some (.int l3), some (.int l4), some (.int l5), none] [] mi ml := am_bk [(12, [true, true, false, true, true, true, false]), (71, [true, true, false, false, true, true, false]), (76, [true, true, false, false, true, true, true]), (141, [true, true, false, false, false, true, false]), (205, [true, true, false, false, false, true, false])] 58 h
set_option maxRecDepth 100000 in
theorem bk_290_71 {d : Nat} {R : am_R} {l1 : Int64} {l4 : Int32} {l5 : Int32} {mi : am_MI} {ml : am_ML} (h : ((l4 ≤ l5 → am_wp (am_call d) mt_290 R 141 [some (.ref 0), some (.long l1), none, none, none, some (.int (0 : Int32)), none] [] mi ml) ∧ (¬ (l4 ≤ l5) → am_wp (am_call d) mt_290 R 76 [some (.ref 0), some (.long l1), none, none, some (.int l4), some (.int l5), some (.int (3 : Int32))] [] mi ml))) :
    am_wp (am_call d) mt_290 R 71 [some (.ref 0), some (.long l1), none, none, some (.int l4), some (.int l5), none] [] mi ml := am_bk [(12, [true, true, false, true, true, true, false]), (71, [true, true, false, false, true, true, false]), (76, [true, true, false, false, true, true, true]), (141, [true, true, false, false, false, true, false]), (205, [true, true, false, false, false, true, false])] 6 h
set_option maxRecDepth 100000 in
theorem bk_290_76 {d : Nat} {R : am_R} {l1 : Int64} {l4 : Int32} {l5 : Int32} {l6 : Int32} {mi : am_MI} {ml : am_ML} (h : (((8 : Int32) ≤ l6 → am_call d 127 [.ref 0, .int l5] mi ml (am_ri fun r1 mi1 ml1 => am_call d 127 [.ref 0, .int ((30 : Int32) + l5)] mi1 ml1 (am_ri fun r2 mi2 ml2 => am_call d 136 [.ref 0, .int ((20 : Int32) + l5), .int (0 : Int32)] mi2 ml2 (am_ri fun r3 mi3 ml3 => am_call d 137 [.ref 0, .int l5, .int (1 : Int32)] mi3 ml3 (am_ri fun r4 mi4 ml4 => am_call d 135 [.ref 0, .int ((10 : Int32) + l5), .int (2 : Int32)] mi4 ml4 (am_ri fun r5 mi5 ml5 => am_wp (am_call d) mt_290 R 71 [some (.ref 0), some (.long (((((((31 : Int64) * l1) + r1.toInt64) + ((3 : Int32) * r2).toInt64) + ((5 : Int32) * r3).toInt64) + ((7 : Int32) * r4).toInt64) + ((11 : Int32) * r5).toInt64)), none, none, some (.int l4), some (.int (l5 + 1)), none] [] mi5 ml5)))))) ∧ (¬ ((8 : Int32) ≤ l6) → am_call d 122 [.ref 0, .int l5, .int l6] mi ml (am_ri fun r6 mi6 ml6 => am_wp (am_call d) mt_290 R 76 [some (.ref 0), some (.long (((31 : Int64) * l1) + r6.toInt64)), none, none, some (.int l4), some (.int l5), some (.int (l6 + 1))] [] mi6 ml6)))) :
    am_wp (am_call d) mt_290 R 76 [some (.ref 0), some (.long l1), none, none, some (.int l4), some (.int l5), some (.int l6)] [] mi ml := am_bk [(12, [true, true, false, true, true, true, false]), (71, [true, true, false, false, true, true, false]), (76, [true, true, false, false, true, true, true]), (141, [true, true, false, false, false, true, false]), (205, [true, true, false, false, false, true, false])] 52 h
set_option maxRecDepth 100000 in
theorem bk_290_141 {d : Nat} {R : am_R} {l1 : Int64} {l5 : Int32} {mi : am_MI} {ml : am_ML} (h : (((5 : Int32) ≤ l5 → am_wp (am_call d) mt_290 R 205 [some (.ref 0), some (.long l1), none, none, none, some (.int (0 : Int32)), none] [] mi ml) ∧ (¬ ((5 : Int32) ≤ l5) → am_call d 128 [.ref 0, .int l5, .int (0 : Int32)] mi ml (am_ri fun r1 mi1 ml1 => am_call d 128 [.ref 0, .int l5, .int (2 : Int32)] mi1 ml1 (am_ri fun r2 mi2 ml2 => am_call d 132 [.ref 0, .int l5] mi2 ml2 (am_ri fun r3 mi3 ml3 => am_call d 133 [.ref 0, .int l5, .int (0 : Int32)] mi3 ml3 (am_ri fun r4 mi4 ml4 => am_call d 142 [.ref 0, .int l5, .int (3 : Int32)] mi4 ml4 (am_ri fun r5 mi5 ml5 => am_call d 143 [.ref 0, .int l5, .int (1 : Int32)] mi5 ml5 (am_ri fun r6 mi6 ml6 => am_call d 134 [.ref 0, .int l5, .int (-1 : Int32)] mi6 ml6 (am_ri fun r7 mi7 ml7 => am_wp (am_call d) mt_290 R 141 [some (.ref 0), some (.long (((((((((31 : Int64) * l1) + r1.toInt64) + ((3 : Int32) * r2).toInt64) + ((5 : Int32) * r3).toInt64) + ((7 : Int32) * r4).toInt64) + ((11 : Int32) * r5).toInt64) + ((13 : Int32) * r6).toInt64) + ((17 : Int32) * r7).toInt64)), none, none, none, some (.int (l5 + 1)), none] [] mi7 ml7)))))))))) :
    am_wp (am_call d) mt_290 R 141 [some (.ref 0), some (.long l1), none, none, none, some (.int l5), none] [] mi ml := am_bk [(12, [true, true, false, true, true, true, false]), (71, [true, true, false, false, true, true, false]), (76, [true, true, false, false, true, true, true]), (141, [true, true, false, false, false, true, false]), (205, [true, true, false, false, false, true, false])] 63 h
set_option maxRecDepth 100000 in
theorem bk_290_205 {d : Nat} {R : am_R} {l1 : Int64} {l5 : Int32} {mi : am_MI} {ml : am_ML} (h : (((4 : Int32) ≤ l5 → am_call d 122 [.ref 0, .int (0 : Int32), .int (8 : Int32)] mi ml (am_ri fun r1 mi1 ml1 => am_call d 122 [.ref 0, .int (0 : Int32), .int (9 : Int32)] mi1 ml1 (am_ri fun r2 mi2 ml2 => am_call d 129 [.ref 0, .int (0 : Int32)] mi2 ml2 (am_ri fun r3 mi3 ml3 => am_call d 130 [.ref 0, .int (-1 : Int32)] mi3 ml3 (am_ri fun r4 mi4 ml4 => am_call d 147 [.ref 0] mi4 ml4 (am_ri fun r5 mi5 ml5 => am_call d 144 [.ref 0, .int (5 : Int32), .int (3 : Int32), .int (-1 : Int32)] mi5 ml5 (am_ri fun r6 mi6 ml6 => R (some (.long ((((((((31 : Int64) * l1) + r1.toInt64) + ((3 : Int32) * r2).toInt64) + ((5 : Int32) * r3).toInt64) + ((7 : Int32) * r4).toInt64) + ((11 : Int32) * r5).toInt64) + ((13 : Int32) * r6).toInt64))) mi6 ml6))))))) ∧ (¬ ((4 : Int32) ≤ l5) → am_call d 148 [.ref 0, .int l5] mi ml (am_ri fun r7 mi7 ml7 => am_wp (am_call d) mt_290 R 205 [some (.ref 0), some (.long (((31 : Int64) * l1) + r7.toInt64)), none, none, none, some (.int (l5 + 1)), none] [] mi7 ml7)))) :
    am_wp (am_call d) mt_290 R 205 [some (.ref 0), some (.long l1), none, none, none, some (.int l5), none] [] mi ml := am_bk [(12, [true, true, false, true, true, true, false]), (71, [true, true, false, false, true, true, false]), (76, [true, true, false, false, true, true, true]), (141, [true, true, false, false, false, true, false]), (205, [true, true, false, false, false, true, false])] 50 h
end
section
/-! block lemmas of methods 291 to 291 -/
set_option maxRecDepth 100000 in
/-- DoorsForThreeLaw.world LDoorsForThree; arr I arr I Ljava/lang/String; -/
theorem bk_291 {d : Nat} {R : am_R} {mi : am_MI} {ml : am_ML} (h : am_call d 288 [.ref 117, .int (0 : Int32)] mi ml (am_ri fun r1 mi1 ml1 => (vp_in (2 : Int32) ((mi1 78 100000)).toNatClampNeg ∧ am_call d 289 [.int (am_shr r1 (1 : Int32)), .int (10 : Int32)] (am_ui mi1 78 2 (r1 &&& (1 : Int32))) ml1 (am_ri fun r2 mi2 ml2 => (vp_in (3 : Int32) ((mi2 78 100000)).toNatClampNeg ∧ (vp_in (2 : Int32) ((mi2 78 100000)).toNatClampNeg ∧ am_call d 121 [.ref 0, .int (0 : Int32), .int (8 : Int32), .int (mi2 78 2)] (am_ui mi2 78 3 r2) ml2 (am_ri fun r3 mi3 ml3 => (vp_in (3 : Int32) ((mi3 78 100000)).toNatClampNeg ∧ am_call d 121 [.ref 0, .int (0 : Int32), .int (9 : Int32), .int (mi3 78 3)] mi3 ml3 (am_ri fun r4 mi4 ml4 => (((r1 &&& (48 : Int32)) ≠ 0 → am_call d 289 [.int (am_shr r1 (6 : Int32)), .int (7 : Int32)] mi4 ml4 (am_ri fun r5 mi5 ml5 => am_wp (am_call d) mt_291 R 53 [some (.ref 0), some (.ref 117), some (.ref 78), some (.ref 138), some (.int r1), none, none, none, none, none, none, none] [.int ((1 : Int32) + r5), .int (0 : Int32), .ref 78] mi5 ml5)) ∧ (¬ ((r1 &&& (48 : Int32)) ≠ 0) → am_call d 289 [.int (am_shr r1 (6 : Int32)), .int (13 : Int32)] mi4 ml4 (am_ri fun r6 mi6 ml6 => am_wp (am_call d) mt_291 R 53 [some (.ref 0), some (.ref 117), some (.ref 78), some (.ref 138), some (.int r1), none, none, none, none, none, none, none] [.int r6, .int (0 : Int32), .ref 78] mi6 ml6)))))))))))) :
    am_call (d + 1) 291 [.ref 0, .ref 117, .ref 78, .ref 138] mi ml R := am_call_t (t := mt_291) (n := 12) rfl rfl rfl rfl (am_bk [(53, [true, true, true, true, true, false, false, false, false, false, false, false]), (56, [true, true, true, true, true, true, false, false, false, false, false, false]), (78, [true, true, true, true, true, true, true, false, false, false, false, false]), (93, [true, true, true, true, true, true, true, true, false, false, false, false]), (110, [true, true, true, true, true, true, false, true, true, false, false, false]), (163, [true, true, true, true, true, false, false, false, false, false, false, false]), (166, [true, true, true, true, true, true, false, false, false, false, false, false]), (195, [true, true, true, true, true, true, true, true, false, false, false, false]), (216, [true, true, true, true, true, true, true, true, true, true, false, false]), (238, [true, true, true, true, true, true, false, true, true, true, true, false]), (288, [true, false, false, true, false, true, false, false, false, false, false, false]), (306, [false, false, false, false, false, false, false, false, false, false, false, false])] 48 h)
set_option maxRecDepth 100000 in
theorem bk_291_53 {d : Nat} {R : am_R} {l4 : Int32} {s0 : Int32} {s1 : Int32} {mi : am_MI} {ml : am_ML} (h : (vp_in s1 ((mi 78 100000)).toNatClampNeg ∧ am_wp (am_call d) mt_291 R 56 [some (.ref 0), some (.ref 117), some (.ref 78), some (.ref 138), some (.int l4), some (.int (0 : Int32)), none, none, none, none, none, none] [] (am_ui mi 78 s1.toNatClampNeg s0) ml)) :
    am_wp (am_call d) mt_291 R 53 [some (.ref 0), some (.ref 117), some (.ref 78), some (.ref 138), some (.int l4), none, none, none, none, none, none, none] [.int s0, .int s1, .ref 78] mi ml := am_bk [(53, [true, true, true, true, true, false, false, false, false, false, false, false]), (56, [true, true, true, true, true, true, false, false, false, false, false, false]), (78, [true, true, true, true, true, true, true, false, false, false, false, false]), (93, [true, true, true, true, true, true, true, true, false, false, false, false]), (110, [true, true, true, true, true, true, false, true, true, false, false, false]), (163, [true, true, true, true, true, false, false, false, false, false, false, false]), (166, [true, true, true, true, true, true, false, false, false, false, false, false]), (195, [true, true, true, true, true, true, true, true, false, false, false, false]), (216, [true, true, true, true, true, true, true, true, true, true, false, false]), (238, [true, true, true, true, true, true, false, true, true, true, true, false]), (288, [true, false, false, true, false, true, false, false, false, false, false, false]), (306, [false, false, false, false, false, false, false, false, false, false, false, false])] 4 h
set_option maxRecDepth 100000 in
theorem bk_291_56 {d : Nat} {R : am_R} {l4 : Int32} {l5 : Int32} {mi : am_MI} {ml : am_ML} (h : (vp_in (0 : Int32) ((mi 78 100000)).toNatClampNeg ∧ (((mi 78 0) ≤ l5 → (((l4 &&& (192 : Int32)) ≠ 0 → am_call d 289 [.int (am_shr l4 (12 : Int32)), .int (4 : Int32)] mi ml (am_ri fun r1 mi1 ml1 => am_wp (am_call d) mt_291 R 163 [some (.ref 0), some (.ref 117), some (.ref 78), some (.ref 138), some (.int l4), none, none, none, none, none, none, none] [.int ((1 : Int32) + r1), .int (1 : Int32), .ref 78] mi1 ml1)) ∧ (¬ ((l4 &&& (192 : Int32)) ≠ 0) → am_call d 289 [.int (am_shr l4 (12 : Int32)), .int (6 : Int32)] mi ml (am_ri fun r2 mi2 ml2 => am_wp (am_call d) mt_291 R 163 [some (.ref 0), some (.ref 117), some (.ref 78), some (.ref 138), some (.int l4), none, none, none, none, none, none, none] [.int r2, .int (1 : Int32), .ref 78] mi2 ml2)))) ∧ (¬ ((mi 78 0) ≤ l5) → am_call d 288 [.ref 117, .int ((1 : Int32) + l5)] mi ml (am_ri fun r3 mi3 ml3 => ((((am_shr l4 (10 : Int32)) &&& (1 : Int32)) ≠ 0 → am_wp (am_call d) mt_291 R 78 [some (.ref 0), some (.ref 117), some (.ref 78), some (.ref 138), some (.int l4), some (.int l5), some (.int r3), none, none, none, none, none] [.int (8 : Int32), .int r3, .int (1 : Int32)] mi3 ml3) ∧ (¬ (((am_shr l4 (10 : Int32)) &&& (1 : Int32)) ≠ 0) → am_wp (am_call d) mt_291 R 78 [some (.ref 0), some (.ref 117), some (.ref 78), some (.ref 138), some (.int l4), some (.int l5), some (.int r3), none, none, none, none, none] [.int (24 : Int32), .int r3, .int (1 : Int32)] mi3 ml3))))))) :
    am_wp (am_call d) mt_291 R 56 [some (.ref 0), some (.ref 117), some (.ref 78), some (.ref 138), some (.int l4), some (.int l5), none, none, none, none, none, none] [] mi ml := am_bk [(53, [true, true, true, true, true, false, false, false, false, false, false, false]), (56, [true, true, true, true, true, true, false, false, false, false, false, false]), (78, [true, true, true, true, true, true, true, false, false, false, false, false]), (93, [true, true, true, true, true, true, true, true, false, false, false, false]), (110, [true, true, true, true, true, true, false, true, true, false, false, false]), (163, [true, true, true, true, true, false, false, false, false, false, false, false]), (166, [true, true, true, true, true, true, false, false, false, false, false, false]), (195, [true, true, true, true, true, true, true, true, false, false, false, false]), (216, [true, true, true, true, true, true, true, true, true, true, false, false]), (238, [true, true, true, true, true, true, false, true, true, true, true, false]), (288, [true, false, false, true, false, true, false, false, false, false, false, false]), (306, [false, false, false, false, false, false, false, false, false, false, false, false])] 22 h
set_option maxRecDepth 100000 in
theorem bk_291_78 {d : Nat} {R : am_R} {l4 : Int32} {l5 : Int32} {l6 : Int32} {s0 : Int32} {s1 : Int32} {s2 : Int32} {mi : am_MI} {ml : am_ML} (h : am_call d 289 [.int s1, .int s0] mi ml (am_ri fun r1 mi1 ml1 => ((((am_shr l4 (11 : Int32)) &&& (1 : Int32)) ≠ 0 → am_wp (am_call d) mt_291 R 93 [some (.ref 0), some (.ref 117), some (.ref 78), some (.ref 138), some (.int l4), some (.int l5), some (.int l6), some (.int (s2 + r1)), none, none, none, none] [.int (8 : Int32), .int (am_shr l6 (5 : Int32))] mi1 ml1) ∧ (¬ (((am_shr l4 (11 : Int32)) &&& (1 : Int32)) ≠ 0) → am_wp (am_call d) mt_291 R 93 [some (.ref 0), some (.ref 117), some (.ref 78), some (.ref 138), some (.int l4), some (.int l5), some (.int l6), some (.int (s2 + r1)), none, none, none, none] [.int (3 : Int32), .int (am_shr l6 (5 : Int32))] mi1 ml1)))) :
    am_wp (am_call d) mt_291 R 78 [some (.ref 0), some (.ref 117), some (.ref 78), some (.ref 138), some (.int l4), some (.int l5), some (.int l6), none, none, none, none, none] [.int s0, .int s1, .int s2] mi ml := am_bk [(53, [true, true, true, true, true, false, false, false, false, false, false, false]), (56, [true, true, true, true, true, true, false, false, false, false, false, false]), (78, [true, true, true, true, true, true, true, false, false, false, false, false]), (93, [true, true, true, true, true, true, true, true, false, false, false, false]), (110, [true, true, true, true, true, true, false, true, true, false, false, false]), (163, [true, true, true, true, true, false, false, false, false, false, false, false]), (166, [true, true, true, true, true, true, false, false, false, false, false, false]), (195, [true, true, true, true, true, true, true, true, false, false, false, false]), (216, [true, true, true, true, true, true, true, true, true, true, false, false]), (238, [true, true, true, true, true, true, false, true, true, true, true, false]), (288, [true, false, false, true, false, true, false, false, false, false, false, false]), (306, [false, false, false, false, false, false, false, false, false, false, false, false])] 15 h
set_option maxRecDepth 100000 in
theorem bk_291_93 {d : Nat} {R : am_R} {l4 : Int32} {l5 : Int32} {l6 : Int32} {l7 : Int32} {s0 : Int32} {s1 : Int32} {mi : am_MI} {ml : am_ML} (h : am_call d 289 [.int s1, .int s0] mi ml (am_ri fun r1 mi1 ml1 => ((((am_shr l6 (9 : Int32)) &&& (1 : Int32)) ≠ 0 → am_call d 289 [.int (am_shr l6 (10 : Int32)), .int (9 : Int32)] mi1 ml1 (am_ri fun r2 mi2 ml2 => am_wp (am_call d) mt_291 R 110 [some (.ref 0), some (.ref 117), some (.ref 78), some (.ref 138), some (.int l4), some (.int l5), none, some (.int l7), some (.int r1), none, none, none] [.int ((1 : Int32) + r2)] mi2 ml2)) ∧ (¬ (((am_shr l6 (9 : Int32)) &&& (1 : Int32)) ≠ 0) → am_wp (am_call d) mt_291 R 110 [some (.ref 0), some (.ref 117), some (.ref 78), some (.ref 138), some (.int l4), some (.int l5), none, some (.int l7), some (.int r1), none, none, none] [.int (1 : Int32)] mi1 ml1)))) :
    am_wp (am_call d) mt_291 R 93 [some (.ref 0), some (.ref 117), some (.ref 78), some (.ref 138), some (.int l4), some (.int l5), some (.int l6), some (.int l7), none, none, none, none] [.int s0, .int s1] mi ml := am_bk [(53, [true, true, true, true, true, false, false, false, false, false, false, false]), (56, [true, true, true, true, true, true, false, false, false, false, false, false]), (78, [true, true, true, true, true, true, true, false, false, false, false, false]), (93, [true, true, true, true, true, true, true, true, false, false, false, false]), (110, [true, true, true, true, true, true, false, true, true, false, false, false]), (163, [true, true, true, true, true, false, false, false, false, false, false, false]), (166, [true, true, true, true, true, true, false, false, false, false, false, false]), (195, [true, true, true, true, true, true, true, true, false, false, false, false]), (216, [true, true, true, true, true, true, true, true, true, true, false, false]), (238, [true, true, true, true, true, true, false, true, true, true, true, false]), (288, [true, false, false, true, false, true, false, false, false, false, false, false]), (306, [false, false, false, false, false, false, false, false, false, false, false, false])] 16 h
set_option maxRecDepth 100000 in
theorem bk_291_110 {d : Nat} {R : am_R} {l4 : Int32} {l5 : Int32} {l7 : Int32} {l8 : Int32} {s0 : Int32} {mi : am_MI} {ml : am_ML} (h : (vp_in ((5 : Int32) + l5) ((mi 78 100000)).toNatClampNeg ∧ (vp_in ((22 : Int32) + l5) (((am_ui mi 78 ((5 : Int32) + l5).toNatClampNeg ((l7 + ((100 : Int32) * l8)) + ((1000 : Int32) * s0))) 78 100000)).toNatClampNeg ∧ am_call d 118 [.ref 0, .int l7, .int l8] (am_ui (am_ui mi 78 ((5 : Int32) + l5).toNatClampNeg ((l7 + ((100 : Int32) * l8)) + ((1000 : Int32) * s0))) 78 ((22 : Int32) + l5).toNatClampNeg (-2 : Int32)) ml (am_ri fun r1 mi1 ml1 => am_call d 121 [.ref 0, .int l5, .int (2 : Int32), .int s0] mi1 ml1 (am_ri fun r2 mi2 ml2 => am_wp (am_call d) mt_291 R 56 [some (.ref 0), some (.ref 117), some (.ref 78), some (.ref 138), some (.int l4), some (.int (l5 + 1)), none, none, none, none, none, none] [] mi2 ml2))))) :
    am_wp (am_call d) mt_291 R 110 [some (.ref 0), some (.ref 117), some (.ref 78), some (.ref 138), some (.int l4), some (.int l5), none, some (.int l7), some (.int l8), none, none, none] [.int s0] mi ml := am_bk [(53, [true, true, true, true, true, false, false, false, false, false, false, false]), (56, [true, true, true, true, true, true, false, false, false, false, false, false]), (78, [true, true, true, true, true, true, true, false, false, false, false, false]), (93, [true, true, true, true, true, true, true, true, false, false, false, false]), (110, [true, true, true, true, true, true, false, true, true, false, false, false]), (163, [true, true, true, true, true, false, false, false, false, false, false, false]), (166, [true, true, true, true, true, true, false, false, false, false, false, false]), (195, [true, true, true, true, true, true, true, true, false, false, false, false]), (216, [true, true, true, true, true, true, true, true, true, true, false, false]), (238, [true, true, true, true, true, true, false, true, true, true, true, false]), (288, [true, false, false, true, false, true, false, false, false, false, false, false]), (306, [false, false, false, false, false, false, false, false, false, false, false, false])] 35 h
set_option maxRecDepth 100000 in
theorem bk_291_163 {d : Nat} {R : am_R} {l4 : Int32} {s0 : Int32} {s1 : Int32} {mi : am_MI} {ml : am_ML} (h : (vp_in s1 ((mi 78 100000)).toNatClampNeg ∧ am_wp (am_call d) mt_291 R 166 [some (.ref 0), some (.ref 117), some (.ref 78), some (.ref 138), some (.int l4), some (.int (0 : Int32)), none, none, none, none, none, none] [] (am_ui mi 78 s1.toNatClampNeg s0) ml)) :
    am_wp (am_call d) mt_291 R 163 [some (.ref 0), some (.ref 117), some (.ref 78), some (.ref 138), some (.int l4), none, none, none, none, none, none, none] [.int s0, .int s1, .ref 78] mi ml := am_bk [(53, [true, true, true, true, true, false, false, false, false, false, false, false]), (56, [true, true, true, true, true, true, false, false, false, false, false, false]), (78, [true, true, true, true, true, true, true, false, false, false, false, false]), (93, [true, true, true, true, true, true, true, true, false, false, false, false]), (110, [true, true, true, true, true, true, false, true, true, false, false, false]), (163, [true, true, true, true, true, false, false, false, false, false, false, false]), (166, [true, true, true, true, true, true, false, false, false, false, false, false]), (195, [true, true, true, true, true, true, true, true, false, false, false, false]), (216, [true, true, true, true, true, true, true, true, true, true, false, false]), (238, [true, true, true, true, true, true, false, true, true, true, true, false]), (288, [true, false, false, true, false, true, false, false, false, false, false, false]), (306, [false, false, false, false, false, false, false, false, false, false, false, false])] 4 h
set_option maxRecDepth 100000 in
theorem bk_291_166 {d : Nat} {R : am_R} {l4 : Int32} {l5 : Int32} {mi : am_MI} {ml : am_ML} (h : (vp_in (1 : Int32) ((mi 78 100000)).toNatClampNeg ∧ (((mi 78 1) ≤ l5 → am_wp (am_call d) mt_291 R 288 [some (.ref 0), none, none, some (.ref 138), none, some (.int (0 : Int32)), none, none, none, none, none, none] [] mi ml) ∧ (¬ ((mi 78 1) ≤ l5) → am_call d 288 [.ref 117, .int ((13 : Int32) + l5)] mi ml (am_ri fun r1 mi1 ml1 => am_call d 289 [.int r1, .int (18 : Int32)] mi1 ml1 (am_ri fun r2 mi2 ml2 => ((((am_shr l4 (11 : Int32)) &&& (1 : Int32)) ≠ 0 → am_wp (am_call d) mt_291 R 195 [some (.ref 0), some (.ref 117), some (.ref 78), some (.ref 138), some (.int l4), some (.int l5), some (.int r1), some (.int ((1 : Int32) + r2)), none, none, none, none] [.int (8 : Int32), .int (am_shr r1 (5 : Int32))] mi2 ml2) ∧ (¬ (((am_shr l4 (11 : Int32)) &&& (1 : Int32)) ≠ 0) → am_wp (am_call d) mt_291 R 195 [some (.ref 0), some (.ref 117), some (.ref 78), some (.ref 138), some (.int l4), some (.int l5), some (.int r1), some (.int ((1 : Int32) + r2)), none, none, none, none] [.int (3 : Int32), .int (am_shr r1 (5 : Int32))] mi2 ml2)))))))) :
    am_wp (am_call d) mt_291 R 166 [some (.ref 0), some (.ref 117), some (.ref 78), some (.ref 138), some (.int l4), some (.int l5), none, none, none, none, none, none] [] mi ml := am_bk [(53, [true, true, true, true, true, false, false, false, false, false, false, false]), (56, [true, true, true, true, true, true, false, false, false, false, false, false]), (78, [true, true, true, true, true, true, true, false, false, false, false, false]), (93, [true, true, true, true, true, true, true, true, false, false, false, false]), (110, [true, true, true, true, true, true, false, true, true, false, false, false]), (163, [true, true, true, true, true, false, false, false, false, false, false, false]), (166, [true, true, true, true, true, true, false, false, false, false, false, false]), (195, [true, true, true, true, true, true, true, true, false, false, false, false]), (216, [true, true, true, true, true, true, true, true, true, true, false, false]), (238, [true, true, true, true, true, true, false, true, true, true, true, false]), (288, [true, false, false, true, false, true, false, false, false, false, false, false]), (306, [false, false, false, false, false, false, false, false, false, false, false, false])] 29 h
set_option maxRecDepth 100000 in
theorem bk_291_195 {d : Nat} {R : am_R} {l4 : Int32} {l5 : Int32} {l6 : Int32} {l7 : Int32} {s0 : Int32} {s1 : Int32} {mi : am_MI} {ml : am_ML} (h : am_call d 289 [.int s1, .int s0] mi ml (am_ri fun r1 mi1 ml1 => am_call d 289 [.int (am_shr l6 (8 : Int32)), .int (10 : Int32)] mi1 ml1 (am_ri fun r2 mi2 ml2 => ((((am_shr l6 (12 : Int32)) &&& (1 : Int32)) ≠ 0 → am_call d 289 [.int (am_shr l6 (13 : Int32)), .int (25 : Int32)] mi2 ml2 (am_ri fun r3 mi3 ml3 => am_wp (am_call d) mt_291 R 216 [some (.ref 0), some (.ref 117), some (.ref 78), some (.ref 138), some (.int l4), some (.int l5), some (.int l6), some (.int l7), some (.int r1), some (.int r2), none, none] [.int r3] mi3 ml3)) ∧ (¬ (((am_shr l6 (12 : Int32)) &&& (1 : Int32)) ≠ 0) → am_wp (am_call d) mt_291 R 216 [some (.ref 0), some (.ref 117), some (.ref 78), some (.ref 138), some (.int l4), some (.int l5), some (.int l6), some (.int l7), some (.int r1), some (.int r2), none, none] [.int (0 : Int32)] mi2 ml2))))) :
    am_wp (am_call d) mt_291 R 195 [some (.ref 0), some (.ref 117), some (.ref 78), some (.ref 138), some (.int l4), some (.int l5), some (.int l6), some (.int l7), none, none, none, none] [.int s0, .int s1] mi ml := am_bk [(53, [true, true, true, true, true, false, false, false, false, false, false, false]), (56, [true, true, true, true, true, true, false, false, false, false, false, false]), (78, [true, true, true, true, true, true, true, false, false, false, false, false]), (93, [true, true, true, true, true, true, true, true, false, false, false, false]), (110, [true, true, true, true, true, true, false, true, true, false, false, false]), (163, [true, true, true, true, true, false, false, false, false, false, false, false]), (166, [true, true, true, true, true, true, false, false, false, false, false, false]), (195, [true, true, true, true, true, true, true, true, false, false, false, false]), (216, [true, true, true, true, true, true, true, true, true, true, false, false]), (238, [true, true, true, true, true, true, false, true, true, true, true, false]), (288, [true, false, false, true, false, true, false, false, false, false, false, false]), (306, [false, false, false, false, false, false, false, false, false, false, false, false])] 20 h
set_option maxRecDepth 100000 in
theorem bk_291_216 {d : Nat} {R : am_R} {l4 : Int32} {l5 : Int32} {l6 : Int32} {l7 : Int32} {l8 : Int32} {l9 : Int32} {s0 : Int32} {mi : am_MI} {ml : am_ML} (h : ((((am_shr l6 (18 : Int32)) &&& (1 : Int32)) ≠ 0 → am_call d 289 [.int (am_shr l6 (19 : Int32)), .int (25 : Int32)] mi ml (am_ri fun r1 mi1 ml1 => am_wp (am_call d) mt_291 R 238 [some (.ref 0), some (.ref 117), some (.ref 78), some (.ref 138), some (.int l4), some (.int l5), none, some (.int l7), some (.int l8), some (.int l9), some (.int s0), none] [.int r1] mi1 ml1)) ∧ (¬ (((am_shr l6 (18 : Int32)) &&& (1 : Int32)) ≠ 0) → am_call d 289 [.int (am_shr l6 (19 : Int32)), .int (5 : Int32)] mi ml (am_ri fun r2 mi2 ml2 => am_wp (am_call d) mt_291 R 238 [some (.ref 0), some (.ref 117), some (.ref 78), some (.ref 138), some (.int l4), some (.int l5), none, some (.int l7), some (.int l8), some (.int l9), some (.int s0), none] [.int (am_min (24 : Int32) (s0 + r2))] mi2 ml2)))) :
    am_wp (am_call d) mt_291 R 216 [some (.ref 0), some (.ref 117), some (.ref 78), some (.ref 138), some (.int l4), some (.int l5), some (.int l6), some (.int l7), some (.int l8), some (.int l9), none, none] [.int s0] mi ml := am_bk [(53, [true, true, true, true, true, false, false, false, false, false, false, false]), (56, [true, true, true, true, true, true, false, false, false, false, false, false]), (78, [true, true, true, true, true, true, true, false, false, false, false, false]), (93, [true, true, true, true, true, true, true, true, false, false, false, false]), (110, [true, true, true, true, true, true, false, true, true, false, false, false]), (163, [true, true, true, true, true, false, false, false, false, false, false, false]), (166, [true, true, true, true, true, true, false, false, false, false, false, false]), (195, [true, true, true, true, true, true, true, true, false, false, false, false]), (216, [true, true, true, true, true, true, true, true, true, true, false, false]), (238, [true, true, true, true, true, true, false, true, true, true, true, false]), (288, [true, false, false, true, false, true, false, false, false, false, false, false]), (306, [false, false, false, false, false, false, false, false, false, false, false, false])] 18 h
set_option maxRecDepth 100000 in
theorem bk_291_238 {d : Nat} {R : am_R} {l4 : Int32} {l5 : Int32} {l7 : Int32} {l8 : Int32} {l9 : Int32} {l10 : Int32} {s0 : Int32} {mi : am_MI} {ml : am_ML} (h : (vp_in ((17 : Int32) + l5) ((mi 78 100000)).toNatClampNeg ∧ am_call d 120 [.ref 0, .int l7, .int l8] (am_ui mi 78 ((17 : Int32) + l5).toNatClampNeg ((((l7 + ((100 : Int32) * l8)) + ((1000 : Int32) * l9)) + ((10000 : Int32) * l10)) + ((1000000 : Int32) * s0))) ml (am_ri fun r1 mi1 ml1 => am_call d 121 [.ref 0, .int l5, .int (5 : Int32), .int l9] mi1 ml1 (am_ri fun r2 mi2 ml2 => am_call d 121 [.ref 0, .int l5, .int (6 : Int32), .int l10] mi2 ml2 (am_ri fun r3 mi3 ml3 => am_call d 121 [.ref 0, .int l5, .int (7 : Int32), .int s0] mi3 ml3 (am_ri fun r4 mi4 ml4 => am_wp (am_call d) mt_291 R 166 [some (.ref 0), some (.ref 117), some (.ref 78), some (.ref 138), some (.int l4), some (.int (l5 + 1)), none, none, none, none, none, none] [] mi4 ml4)))))) :
    am_wp (am_call d) mt_291 R 238 [some (.ref 0), some (.ref 117), some (.ref 78), some (.ref 138), some (.int l4), some (.int l5), none, some (.int l7), some (.int l8), some (.int l9), some (.int l10), none] [.int s0] mi ml := am_bk [(53, [true, true, true, true, true, false, false, false, false, false, false, false]), (56, [true, true, true, true, true, true, false, false, false, false, false, false]), (78, [true, true, true, true, true, true, true, false, false, false, false, false]), (93, [true, true, true, true, true, true, true, true, false, false, false, false]), (110, [true, true, true, true, true, true, false, true, true, false, false, false]), (163, [true, true, true, true, true, false, false, false, false, false, false, false]), (166, [true, true, true, true, true, true, false, false, false, false, false, false]), (195, [true, true, true, true, true, true, true, true, false, false, false, false]), (216, [true, true, true, true, true, true, true, true, true, true, false, false]), (238, [true, true, true, true, true, true, false, true, true, true, true, false]), (288, [true, false, false, true, false, true, false, false, false, false, false, false]), (306, [false, false, false, false, false, false, false, false, false, false, false, false])] 49 h
set_option maxRecDepth 100000 in
theorem bk_291_288 {d : Nat} {R : am_R} {l5 : Int32} {mi : am_MI} {ml : am_ML} (h : am_call d 276 [.ref 138] mi ml (am_ri fun r1 mi1 ml1 => ((r1 ≤ l5 → am_call d 276 [.ref 138] mi1 ml1 (am_ri fun r2 mi2 ml2 => ((r2 ≤ 0 → am_wp (am_call d) mt_291 R 306 [none, none, none, none, none, none, none, none, none, none, none, none] [] mi2 ml2) ∧ (¬ (r2 ≤ 0) → am_call d 124 [.ref 0] mi2 ml2 (am_ri fun r3 mi3 ml3 => am_wp (am_call d) mt_291 R 306 [none, none, none, none, none, none, none, none, none, none, none, none] [] mi3 ml3))))) ∧ (¬ (r1 ≤ l5) → am_call d 284 [.ref 138, .int l5] mi1 ml1 (am_ri fun r4 mi4 ml4 => am_call d 123 [.ref 0, .int r4] mi4 ml4 (am_ri fun r5 mi5 ml5 => am_wp (am_call d) mt_291 R 288 [some (.ref 0), none, none, some (.ref 138), none, some (.int (l5 + 1)), none, none, none, none, none, none] [] mi5 ml5)))))) :
    am_wp (am_call d) mt_291 R 288 [some (.ref 0), none, none, some (.ref 138), none, some (.int l5), none, none, none, none, none, none] [] mi ml := am_bk [(53, [true, true, true, true, true, false, false, false, false, false, false, false]), (56, [true, true, true, true, true, true, false, false, false, false, false, false]), (78, [true, true, true, true, true, true, true, false, false, false, false, false]), (93, [true, true, true, true, true, true, true, true, false, false, false, false]), (110, [true, true, true, true, true, true, false, true, true, false, false, false]), (163, [true, true, true, true, true, false, false, false, false, false, false, false]), (166, [true, true, true, true, true, true, false, false, false, false, false, false]), (195, [true, true, true, true, true, true, true, true, false, false, false, false]), (216, [true, true, true, true, true, true, true, true, true, true, false, false]), (238, [true, true, true, true, true, true, false, true, true, true, true, false]), (288, [true, false, false, true, false, true, false, false, false, false, false, false]), (306, [false, false, false, false, false, false, false, false, false, false, false, false])] 13 h
set_option maxRecDepth 100000 in
theorem bk_291_306 {d : Nat} {R : am_R} {mi : am_MI} {ml : am_ML} (h : R none mi ml) :
    am_wp (am_call d) mt_291 R 306 [none, none, none, none, none, none, none, none, none, none, none, none] [] mi ml := am_bk [(53, [true, true, true, true, true, false, false, false, false, false, false, false]), (56, [true, true, true, true, true, true, false, false, false, false, false, false]), (78, [true, true, true, true, true, true, true, false, false, false, false, false]), (93, [true, true, true, true, true, true, true, true, false, false, false, false]), (110, [true, true, true, true, true, true, false, true, true, false, false, false]), (163, [true, true, true, true, true, false, false, false, false, false, false, false]), (166, [true, true, true, true, true, true, false, false, false, false, false, false]), (195, [true, true, true, true, true, true, true, true, false, false, false, false]), (216, [true, true, true, true, true, true, true, true, true, true, false, false]), (238, [true, true, true, true, true, true, false, true, true, true, true, false]), (288, [true, false, false, true, false, true, false, false, false, false, false, false]), (306, [false, false, false, false, false, false, false, false, false, false, false, false])] 1 h
end
section
/-! small rows for specs -/
theorem am_for (n : Nat) (P : Nat → Prop) (hn : P n) (hs : ∀ j, j < n → P (j + 1) → P j) : ∀ j, j ≤ n → P j := by
  intro j hj
  obtain ⟨k, hk⟩ : ∃ k, j + k = n := ⟨n - j, by omega⟩
  induction k generalizing j with
  | zero =>
    have e : j = n := by omega
    subst e
    exact hn
  | succ k ih => exact hs j (by omega) (ih (j + 1) (by omega) (by omega))
/-- what a run keeps: all but the places of F -/
def am_kp (F : Nat → Nat → Bool) (a b : am_MI) : Prop := ∀ c j, F c j = false → b c j = a c j
theorem am_kp_r {F : Nat → Nat → Bool} {a : am_MI} : am_kp F a a := fun _ _ _ => rfl
theorem am_kp_t {F : Nat → Nat → Bool} {a b c : am_MI} (h1 : am_kp F a b) (h2 : am_kp F b c) : am_kp F a c := fun x j h => (h2 x j h).trans (h1 x j h)
theorem am_kp_w {F G : Nat → Nat → Bool} {a b : am_MI} (h : am_kp F a b) (hFG : ∀ c j, G c j = false → F c j = false) : am_kp G a b := fun x j q => h x j (hFG x j q)
theorem am_kp_u {F : Nat → Nat → Bool} {a b : am_MI} {c j : Nat} {x : Int32} (h : am_kp F a b) (hF : F c j = true) : am_kp F a (am_ui b c j x) := by
  intro y k q
  unfold am_ui
  rw [if_neg]
  · exact h y k q
  · rintro ⟨rfl, rfl⟩
    rw [hF] at q
    cases q
theorem am_ui_k {m : am_MI} {a j : Nat} {x : Int32} : am_ui m a j x a j = x := if_pos ⟨rfl, rfl⟩
theorem am_ui_n {m : am_MI} {a j b i : Nat} {x : Int32} (h : b = a → i = j → False) : am_ui m a j x b i = m b i := if_neg fun q => h q.1 q.2
theorem am_ui_c {m : am_MI} {a j b i : Nat} {x : Int32} (h : ¬ b = a) : am_ui m a j x b i = m b i := if_neg fun q => h q.1
/-- a yes or no that is known -/
theorem am_y {A B : Prop} (h : B) : ((1 : Int32) = 0 → A) ∧ (¬ (1 : Int32) = 0 → B) := ⟨fun q => absurd q (by decide), fun _ => h⟩
theorem am_n0 {A B : Prop} (h : A) : ((0 : Int32) = 0 → A) ∧ (¬ (0 : Int32) = 0 → B) := ⟨fun _ => h, fun q => absurd rfl q⟩
theorem am_yn {A B : Prop} (h : A) : ((1 : Int32) ≠ 0 → A) ∧ (¬ ((1 : Int32) ≠ 0) → B) := ⟨fun _ => h, fun q => absurd (by decide) q⟩
theorem am_nn {A B : Prop} (h : B) : ((0 : Int32) ≠ 0 → A) ∧ (¬ ((0 : Int32) ≠ 0) → B) := ⟨fun q => absurd rfl q, fun _ => h⟩
theorem am_b1 : (1 : Int32) = 0 ∨ (1 : Int32) = 1 := Or.inr rfl
theorem am_b0 : (0 : Int32) = 0 ∨ (0 : Int32) = 1 := Or.inl rfl
/-- comparisons by what the numbers are -/
theorem am_ti {n : Nat} (h : n < 2 ^ 31) : (nI n).toInt = (n : Int) := nI_toInt h
theorem am_lt_i {x y : Int32} : x < y ↔ x.toInt < y.toInt := Int32.lt_iff_toInt_lt
theorem am_le_i {x y : Int32} : x ≤ y ↔ x.toInt ≤ y.toInt := Int32.le_iff_toInt_le
theorem am_eq_i {x y : Int32} : x = y ↔ x.toInt = y.toInt := Int32.toInt_inj.symm
theorem am_nat {x : Int32} {n : Nat} (h0 : 0 ≤ x.toInt) (h1 : x.toInt < n) : ∃ k, k < n ∧ x = nI k := by
  refine ⟨x.toInt.toNat, by omega, ?_⟩
  have hb := Int32.toInt_lt x
  rw [am_eq_i, am_ti (by omega)]
  omega
theorem am_if {c : Prop} {x y : Int32} {A B : Prop} (hc : c ↔ x.toInt < y.toInt) (f : x.toInt < y.toInt → A) (g : ¬ x.toInt < y.toInt → B) : (c → A) ∧ (¬ c → B) := ⟨fun h => f (hc.mp h), fun h => g (fun q => h (hc.mpr q))⟩
theorem am_vp {x : Int32} {n : Nat} (h0 : 0 ≤ x.toInt) (h1 : x.toInt < n) : vp_in x n := vp_in_iff.mpr ⟨h0, h1⟩
theorem am_l0 : (0 : Int32).toInt = 0 := rfl
theorem am_l1 : (1 : Int32).toInt = 1 := rfl
theorem am_l2 : (2 : Int32).toInt = 2 := rfl
theorem am_l3 : (3 : Int32).toInt = 3 := rfl
theorem am_l4 : (4 : Int32).toInt = 4 := rfl
theorem am_l5 : (5 : Int32).toInt = 5 := rfl
theorem am_l6 : (6 : Int32).toInt = 6 := rfl
theorem am_l7 : (7 : Int32).toInt = 7 := rfl
theorem am_l8 : (8 : Int32).toInt = 8 := rfl
theorem am_l9 : (9 : Int32).toInt = 9 := rfl
theorem am_l10 : (10 : Int32).toInt = 10 := rfl
theorem am_l11 : (11 : Int32).toInt = 11 := rfl
theorem am_l12 : (12 : Int32).toInt = 12 := rfl
theorem am_l13 : (13 : Int32).toInt = 13 := rfl
theorem am_l14 : (14 : Int32).toInt = 14 := rfl
theorem am_l15 : (15 : Int32).toInt = 15 := rfl
theorem am_l16 : (16 : Int32).toInt = 16 := rfl
theorem am_l17 : (17 : Int32).toInt = 17 := rfl
theorem am_l18 : (18 : Int32).toInt = 18 := rfl
theorem am_l19 : (19 : Int32).toInt = 19 := rfl
theorem am_l20 : (20 : Int32).toInt = 20 := rfl
theorem am_l21 : (21 : Int32).toInt = 21 := rfl
theorem am_l22 : (22 : Int32).toInt = 22 := rfl
theorem am_l23 : (23 : Int32).toInt = 23 := rfl
theorem am_l24 : (24 : Int32).toInt = 24 := rfl
theorem am_l25 : (25 : Int32).toInt = 25 := rfl
theorem am_l26 : (26 : Int32).toInt = 26 := rfl
theorem am_l30 : (30 : Int32).toInt = 30 := rfl
theorem am_l32 : (32 : Int32).toInt = 32 := rfl
theorem am_l33 : (33 : Int32).toInt = 33 := rfl
theorem am_l37 : (37 : Int32).toInt = 37 := rfl
theorem am_l38 : (38 : Int32).toInt = 38 := rfl
theorem am_l40 : (40 : Int32).toInt = 40 := rfl
theorem am_l41 : (41 : Int32).toInt = 41 := rfl
theorem am_l42 : (42 : Int32).toInt = 42 := rfl
theorem am_l43 : (43 : Int32).toInt = 43 := rfl
theorem am_l45 : (45 : Int32).toInt = 45 := rfl
theorem am_l47 : (47 : Int32).toInt = 47 := rfl
theorem am_l48 : (48 : Int32).toInt = 48 := rfl
theorem am_l50 : (50 : Int32).toInt = 50 := rfl
theorem am_l57 : (57 : Int32).toInt = 57 := rfl
theorem am_l59 : (59 : Int32).toInt = 59 := rfl
theorem am_l60 : (60 : Int32).toInt = 60 := rfl
theorem am_l61 : (61 : Int32).toInt = 61 := rfl
theorem am_l62 : (62 : Int32).toInt = 62 := rfl
theorem am_l63 : (63 : Int32).toInt = 63 := rfl
theorem am_l70 : (70 : Int32).toInt = 70 := rfl
theorem am_l80 : (80 : Int32).toInt = 80 := rfl
theorem am_l81 : (81 : Int32).toInt = 81 := rfl
theorem am_l97 : (97 : Int32).toInt = 97 := rfl
theorem am_l99 : (99 : Int32).toInt = 99 := rfl
theorem am_l100 : (100 : Int32).toInt = 100 := rfl
theorem am_l110 : (110 : Int32).toInt = 110 := rfl
theorem am_l115 : (115 : Int32).toInt = 115 := rfl
theorem am_l119 : (119 : Int32).toInt = 119 := rfl
theorem am_l120 : (120 : Int32).toInt = 120 := rfl
theorem am_l121 : (121 : Int32).toInt = 121 := rfl
theorem am_l124 : (124 : Int32).toInt = 124 := rfl
theorem am_l126 : (126 : Int32).toInt = 126 := rfl
theorem am_l156 : (156 : Int32).toInt = 156 := rfl
theorem am_l255 : (255 : Int32).toInt = 255 := rfl
theorem am_l1103515245 : (1103515245 : Int32).toInt = 1103515245 := rfl
theorem am_l12345 : (12345 : Int32).toInt = 12345 := rfl
theorem am_l2147483647 : (2147483647 : Int32).toInt = 2147483647 := rfl
theorem am_lm1 : ((-1) : Int32).toInt = -1 := rfl
theorem am_lm2 : ((-2) : Int32).toInt = -2 := rfl
theorem am_lm3 : ((-3) : Int32).toInt = -3 := rfl
theorem am_lm5 : ((-5) : Int32).toInt = -5 := rfl
theorem am_lm11 : ((-11) : Int32).toInt = -11 := rfl
theorem am_lm12 : ((-12) : Int32).toInt = -12 := rfl
theorem am_lm13 : ((-13) : Int32).toInt = -13 := rfl
theorem am_lm14 : ((-14) : Int32).toInt = -14 := rfl
theorem am_lm33 : ((-33) : Int32).toInt = -33 := rfl
theorem am_lm59 : ((-59) : Int32).toInt = -59 := rfl
theorem am_lm63 : ((-63) : Int32).toInt = -63 := rfl
theorem am_lm100 : ((-100) : Int32).toInt = -100 := rfl
theorem am_lm126 : ((-126) : Int32).toInt = -126 := rfl
end
section
/-! specs: the calendar, of the class and of the reference -/
def am_val (n m w i : Nat) : Prop := (w ≤ 2 ∧ i < n) ∨ (3 ≤ w ∧ w ≤ 7 ∧ i < m) ∨ (8 ≤ w ∧ w ≤ 9 ∧ i = 0)
def am_lo (w : Nat) : Nat := am_nth 0 [1, 0, 1, 1, 0, 0, 0, 0, 0, 0] w
def am_hi (w : Nat) : Nat := am_nth 0 [24, 7, 9, 18, 7, 9, 24, 24, 1, 9] w
/-- what the rows of the class's statics hold -/
def am_sta (mi : am_MI) : Prop := (∀ j, j < 10 → mi 114 j = nI (am_lo j) ∧ mi 115 j = nI (am_hi j)) ∧
  mi 116 0 = -1 ∧ mi 116 1 = 0 ∧ mi 116 2 = 0 ∧ mi 116 3 = 2 ∧ mi 116 4 = 1 ∧ mi 116 5 = 3 ∧ mi 116 6 = 0 ∧ mi 116 7 = 4
/-- the class's calendar: n doors, m children, their numbers u -/
def am_cx (n m : Nat) (u : Nat → Nat → Int32) (mi : am_MI) : Prop := n ≤ 12 ∧ m ≤ 5 ∧ mi 1 1 = nI n ∧ mi 1 2 = nI m ∧ ∀ w i, am_val n m w i → mi (3 + w) i = u w i
theorem am_cx_n {n m u mi} (h : am_cx n m u mi) : (mi 1 1).toInt = (n : Int) := by
  rw [h.2.2.1]
  exact am_ti (by have := h.1; omega)
theorem am_cx_m {n m u mi} (h : am_cx n m u mi) : (mi 1 2).toInt = (m : Int) := by
  rw [h.2.2.2.1]
  exact am_ti (by have := h.2.1; omega)
theorem am_cx_on {n m u} {a b : am_MI} (h : am_cx n m u a) (h1 : b 1 1 = a 1 1) (h2 : b 1 2 = a 1 2) (h3 : ∀ w i, w < 10 → b (3 + w) i = a (3 + w) i) : am_cx n m u b :=
  ⟨h.1, h.2.1, h1.trans h.2.2.1, h2.trans h.2.2.2.1, fun w i q => (h3 w i (by unfold am_val at q; omega)).trans (h.2.2.2.2 w i q)⟩
section SP19
variable {d n m : Nat} {u : Nat → Nat → Int32} {mi : am_MI} {ml : am_ML} {R : am_R}
theorem sp_0 {x : Int32} (hc : am_cx n m u mi) (h1 : ∀ k, k < n → x = nI k → R (some (.int 1)) mi ml) (h0 : (x.toInt < 0 ∨ n ≤ x.toInt) → R (some (.int 0)) mi ml) : am_call (d + 1) 0 [.ref 1, .int x] mi ml R := by
  have hn := am_cx_n hc
  refine bk_0 ⟨fun q => ⟨am_b0, h0 ?_⟩, fun q => ⟨fun q2 => ⟨am_b0, h0 ?_⟩, fun q2 => ⟨am_b1, ?_⟩⟩⟩
  · simp only [am_lt_i, am_le_i, am_eq_i, ne_eq, am_l0, am_l1, am_l2, am_l3, am_l4, am_l5, am_l6, am_l7, am_l8, am_l9, am_l10, am_l11, am_l12, am_l13, am_l14, am_l15, am_l16, am_l17, am_l18, am_l19, am_l20, am_l21, am_l22, am_l23, am_l24, am_l25, am_l26, am_l30, am_l32, am_l33, am_l37, am_l38, am_l40, am_l41, am_l42, am_l43, am_l45, am_l47, am_l48, am_l50, am_l57, am_l59, am_l60, am_l61, am_l62, am_l63, am_l70, am_l80, am_l81, am_l97, am_l99, am_l100, am_l110, am_l115, am_l119, am_l120, am_l121, am_l124, am_l126, am_l156, am_l255, am_l1103515245, am_l12345, am_l2147483647, am_lm1, am_lm2, am_lm3, am_lm5, am_lm11, am_lm12, am_lm13, am_lm14, am_lm33, am_lm59, am_lm63, am_lm100, am_lm126] at q
    omega
  · simp only [am_lt_i, am_le_i, am_eq_i, ne_eq, am_l0, am_l1, am_l2, am_l3, am_l4, am_l5, am_l6, am_l7, am_l8, am_l9, am_l10, am_l11, am_l12, am_l13, am_l14, am_l15, am_l16, am_l17, am_l18, am_l19, am_l20, am_l21, am_l22, am_l23, am_l24, am_l25, am_l26, am_l30, am_l32, am_l33, am_l37, am_l38, am_l40, am_l41, am_l42, am_l43, am_l45, am_l47, am_l48, am_l50, am_l57, am_l59, am_l60, am_l61, am_l62, am_l63, am_l70, am_l80, am_l81, am_l97, am_l99, am_l100, am_l110, am_l115, am_l119, am_l120, am_l121, am_l124, am_l126, am_l156, am_l255, am_l1103515245, am_l12345, am_l2147483647, am_lm1, am_lm2, am_lm3, am_lm5, am_lm11, am_lm12, am_lm13, am_lm14, am_lm33, am_lm59, am_lm63, am_lm100, am_lm126, hn] at q2
    omega
  · simp only [am_lt_i, am_le_i, am_eq_i, ne_eq, am_l0, am_l1, am_l2, am_l3, am_l4, am_l5, am_l6, am_l7, am_l8, am_l9, am_l10, am_l11, am_l12, am_l13, am_l14, am_l15, am_l16, am_l17, am_l18, am_l19, am_l20, am_l21, am_l22, am_l23, am_l24, am_l25, am_l26, am_l30, am_l32, am_l33, am_l37, am_l38, am_l40, am_l41, am_l42, am_l43, am_l45, am_l47, am_l48, am_l50, am_l57, am_l59, am_l60, am_l61, am_l62, am_l63, am_l70, am_l80, am_l81, am_l97, am_l99, am_l100, am_l110, am_l115, am_l119, am_l120, am_l121, am_l124, am_l126, am_l156, am_l255, am_l1103515245, am_l12345, am_l2147483647, am_lm1, am_lm2, am_lm3, am_lm5, am_lm11, am_lm12, am_lm13, am_lm14, am_lm33, am_lm59, am_lm63, am_lm100, am_lm126, hn] at q q2
    obtain ⟨k, hk, e⟩ := am_nat (x := x) (n := n) (by omega) (by omega)
    exact h1 k hk e
theorem sp_1 {x : Int32} (hc : am_cx n m u mi) (h1 : ∀ k, k < m → x = nI k → R (some (.int 1)) mi ml) (h0 : (x.toInt < 0 ∨ m ≤ x.toInt) → R (some (.int 0)) mi ml) : am_call (d + 1) 1 [.ref 1, .int x] mi ml R := by
  have hn := am_cx_m hc
  refine bk_1 ⟨fun q => ⟨am_b0, h0 ?_⟩, fun q => ⟨fun q2 => ⟨am_b0, h0 ?_⟩, fun q2 => ⟨am_b1, ?_⟩⟩⟩
  · simp only [am_lt_i, am_le_i, am_eq_i, ne_eq, am_l0, am_l1, am_l2, am_l3, am_l4, am_l5, am_l6, am_l7, am_l8, am_l9, am_l10, am_l11, am_l12, am_l13, am_l14, am_l15, am_l16, am_l17, am_l18, am_l19, am_l20, am_l21, am_l22, am_l23, am_l24, am_l25, am_l26, am_l30, am_l32, am_l33, am_l37, am_l38, am_l40, am_l41, am_l42, am_l43, am_l45, am_l47, am_l48, am_l50, am_l57, am_l59, am_l60, am_l61, am_l62, am_l63, am_l70, am_l80, am_l81, am_l97, am_l99, am_l100, am_l110, am_l115, am_l119, am_l120, am_l121, am_l124, am_l126, am_l156, am_l255, am_l1103515245, am_l12345, am_l2147483647, am_lm1, am_lm2, am_lm3, am_lm5, am_lm11, am_lm12, am_lm13, am_lm14, am_lm33, am_lm59, am_lm63, am_lm100, am_lm126] at q
    omega
  · simp only [am_lt_i, am_le_i, am_eq_i, ne_eq, am_l0, am_l1, am_l2, am_l3, am_l4, am_l5, am_l6, am_l7, am_l8, am_l9, am_l10, am_l11, am_l12, am_l13, am_l14, am_l15, am_l16, am_l17, am_l18, am_l19, am_l20, am_l21, am_l22, am_l23, am_l24, am_l25, am_l26, am_l30, am_l32, am_l33, am_l37, am_l38, am_l40, am_l41, am_l42, am_l43, am_l45, am_l47, am_l48, am_l50, am_l57, am_l59, am_l60, am_l61, am_l62, am_l63, am_l70, am_l80, am_l81, am_l97, am_l99, am_l100, am_l110, am_l115, am_l119, am_l120, am_l121, am_l124, am_l126, am_l156, am_l255, am_l1103515245, am_l12345, am_l2147483647, am_lm1, am_lm2, am_lm3, am_lm5, am_lm11, am_lm12, am_lm13, am_lm14, am_lm33, am_lm59, am_lm63, am_lm100, am_lm126, hn] at q2
    omega
  · simp only [am_lt_i, am_le_i, am_eq_i, ne_eq, am_l0, am_l1, am_l2, am_l3, am_l4, am_l5, am_l6, am_l7, am_l8, am_l9, am_l10, am_l11, am_l12, am_l13, am_l14, am_l15, am_l16, am_l17, am_l18, am_l19, am_l20, am_l21, am_l22, am_l23, am_l24, am_l25, am_l26, am_l30, am_l32, am_l33, am_l37, am_l38, am_l40, am_l41, am_l42, am_l43, am_l45, am_l47, am_l48, am_l50, am_l57, am_l59, am_l60, am_l61, am_l62, am_l63, am_l70, am_l80, am_l81, am_l97, am_l99, am_l100, am_l110, am_l115, am_l119, am_l120, am_l121, am_l124, am_l126, am_l156, am_l255, am_l1103515245, am_l12345, am_l2147483647, am_lm1, am_lm2, am_lm3, am_lm5, am_lm11, am_lm12, am_lm13, am_lm14, am_lm33, am_lm59, am_lm63, am_lm100, am_lm126, hn] at q q2
    obtain ⟨k, hk, e⟩ := am_nat (x := x) (n := m) (by omega) (by omega)
    exact h1 k hk e
/-- has(what, number) -/
theorem sp_2 {x z : Int32} (hc : am_cx n m u mi) (h1 : ∀ w i, am_val n m w i → x = nI w → z = nI i → R (some (.int 1)) mi ml) (h0 : (∀ w i, am_val n m w i → x = nI w → z = nI i → False) → R (some (.int 0)) mi ml) : am_call (d + 2) 2 [.ref 1, .int x, .int z] mi ml R := by
  have no : ∀ {w i : Nat}, am_val n m w i → w ≤ 9 := by
    intro w i h
    unfold am_val at h
    omega
  refine bk_2 ⟨fun q => ⟨am_b0, h0 ?_⟩, fun q => ⟨fun q2 => ⟨fun q3 => ⟨fun q4 => ⟨fun q5 => ⟨am_b0, h0 ?_⟩, fun q5 => ⟨am_b1, ?_⟩⟩, fun q4 => ?_⟩, fun q3 => ?_⟩, fun q2 => ⟨am_b0, h0 ?_⟩⟩⟩
  · rintro w i hv rfl rfl
    have := no hv
    simp only [am_lt_i, am_le_i, am_eq_i, ne_eq, am_l0, am_l1, am_l2, am_l3, am_l4, am_l5, am_l6, am_l7, am_l8, am_l9, am_l10, am_l11, am_l12, am_l13, am_l14, am_l15, am_l16, am_l17, am_l18, am_l19, am_l20, am_l21, am_l22, am_l23, am_l24, am_l25, am_l26, am_l30, am_l32, am_l33, am_l37, am_l38, am_l40, am_l41, am_l42, am_l43, am_l45, am_l47, am_l48, am_l50, am_l57, am_l59, am_l60, am_l61, am_l62, am_l63, am_l70, am_l80, am_l81, am_l97, am_l99, am_l100, am_l110, am_l115, am_l119, am_l120, am_l121, am_l124, am_l126, am_l156, am_l255, am_l1103515245, am_l12345, am_l2147483647, am_lm1, am_lm2, am_lm3, am_lm5, am_lm11, am_lm12, am_lm13, am_lm14, am_lm33, am_lm59, am_lm63, am_lm100, am_lm126, am_ti (show w < 2 ^ 31 by omega)] at q
    omega
  · rintro w i hv rfl rfl
    have := no hv
    simp only [am_lt_i, am_le_i, am_eq_i, ne_eq, am_l0, am_l1, am_l2, am_l3, am_l4, am_l5, am_l6, am_l7, am_l8, am_l9, am_l10, am_l11, am_l12, am_l13, am_l14, am_l15, am_l16, am_l17, am_l18, am_l19, am_l20, am_l21, am_l22, am_l23, am_l24, am_l25, am_l26, am_l30, am_l32, am_l33, am_l37, am_l38, am_l40, am_l41, am_l42, am_l43, am_l45, am_l47, am_l48, am_l50, am_l57, am_l59, am_l60, am_l61, am_l62, am_l63, am_l70, am_l80, am_l81, am_l97, am_l99, am_l100, am_l110, am_l115, am_l119, am_l120, am_l121, am_l124, am_l126, am_l156, am_l255, am_l1103515245, am_l12345, am_l2147483647, am_lm1, am_lm2, am_lm3, am_lm5, am_lm11, am_lm12, am_lm13, am_lm14, am_lm33, am_lm59, am_lm63, am_lm100, am_lm126, am_ti (show w < 2 ^ 31 by omega)] at q4
    unfold am_val at hv
    have e : i = 0 := by omega
    subst e
    exact q5 rfl
  · simp only [am_lt_i, am_le_i, am_eq_i, ne_eq, am_l0, am_l1, am_l2, am_l3, am_l4, am_l5, am_l6, am_l7, am_l8, am_l9, am_l10, am_l11, am_l12, am_l13, am_l14, am_l15, am_l16, am_l17, am_l18, am_l19, am_l20, am_l21, am_l22, am_l23, am_l24, am_l25, am_l26, am_l30, am_l32, am_l33, am_l37, am_l38, am_l40, am_l41, am_l42, am_l43, am_l45, am_l47, am_l48, am_l50, am_l57, am_l59, am_l60, am_l61, am_l62, am_l63, am_l70, am_l80, am_l81, am_l97, am_l99, am_l100, am_l110, am_l115, am_l119, am_l120, am_l121, am_l124, am_l126, am_l156, am_l255, am_l1103515245, am_l12345, am_l2147483647, am_lm1, am_lm2, am_lm3, am_lm5, am_lm11, am_lm12, am_lm13, am_lm14, am_lm33, am_lm59, am_lm63, am_lm100, am_lm126] at q q2 q3 q4
    obtain ⟨w, hw, e⟩ := am_nat (x := x) (n := 10) (by omega) (by omega)
    subst e
    rw [am_ti (by omega)] at q4
    exact h1 w 0 (by unfold am_val; omega) rfl (Decidable.not_not.mp q5)
  · simp only [am_lt_i, am_le_i, am_eq_i, ne_eq, am_l0, am_l1, am_l2, am_l3, am_l4, am_l5, am_l6, am_l7, am_l8, am_l9, am_l10, am_l11, am_l12, am_l13, am_l14, am_l15, am_l16, am_l17, am_l18, am_l19, am_l20, am_l21, am_l22, am_l23, am_l24, am_l25, am_l26, am_l30, am_l32, am_l33, am_l37, am_l38, am_l40, am_l41, am_l42, am_l43, am_l45, am_l47, am_l48, am_l50, am_l57, am_l59, am_l60, am_l61, am_l62, am_l63, am_l70, am_l80, am_l81, am_l97, am_l99, am_l100, am_l110, am_l115, am_l119, am_l120, am_l121, am_l124, am_l126, am_l156, am_l255, am_l1103515245, am_l12345, am_l2147483647, am_lm1, am_lm2, am_lm3, am_lm5, am_lm11, am_lm12, am_lm13, am_lm14, am_lm33, am_lm59, am_lm63, am_lm100, am_lm126] at q q2 q3 q4
    obtain ⟨w, hw, e⟩ := am_nat (x := x) (n := 10) (by omega) (by omega)
    subst e
    rw [am_ti (by omega)] at q3 q4
    refine sp_1 hc (fun k hk e => am_ri_i ⟨am_b1, h1 w k (by unfold am_val; omega) rfl e⟩) (fun g => am_ri_i ⟨am_b0, h0 ?_⟩)
    rintro w2 i hv e rfl
    have := no hv
    rw [nI_eq (by omega) (by omega)] at e
    subst e
    unfold am_val at hv
    rw [am_ti (by have := hc.2.1; omega)] at g
    omega
  · simp only [am_lt_i, am_le_i, am_eq_i, ne_eq, am_l0, am_l1, am_l2, am_l3, am_l4, am_l5, am_l6, am_l7, am_l8, am_l9, am_l10, am_l11, am_l12, am_l13, am_l14, am_l15, am_l16, am_l17, am_l18, am_l19, am_l20, am_l21, am_l22, am_l23, am_l24, am_l25, am_l26, am_l30, am_l32, am_l33, am_l37, am_l38, am_l40, am_l41, am_l42, am_l43, am_l45, am_l47, am_l48, am_l50, am_l57, am_l59, am_l60, am_l61, am_l62, am_l63, am_l70, am_l80, am_l81, am_l97, am_l99, am_l100, am_l110, am_l115, am_l119, am_l120, am_l121, am_l124, am_l126, am_l156, am_l255, am_l1103515245, am_l12345, am_l2147483647, am_lm1, am_lm2, am_lm3, am_lm5, am_lm11, am_lm12, am_lm13, am_lm14, am_lm33, am_lm59, am_lm63, am_lm100, am_lm126] at q q2 q3
    obtain ⟨w, hw, e⟩ := am_nat (x := x) (n := 10) (by omega) (by omega)
    subst e
    rw [am_ti (by omega)] at q3
    refine sp_0 hc (fun k hk e => am_ri_i ⟨am_b1, h1 w k (by unfold am_val; omega) rfl e⟩) (fun g => am_ri_i ⟨am_b0, h0 ?_⟩)
    rintro w2 i hv e rfl
    have := no hv
    rw [nI_eq (by omega) (by omega)] at e
    subst e
    unfold am_val at hv
    rw [am_ti (by have := hc.1; omega)] at g
    omega
  · rintro w i hv rfl rfl
    have := no hv
    simp only [am_lt_i, am_le_i, am_eq_i, ne_eq, am_l0, am_l1, am_l2, am_l3, am_l4, am_l5, am_l6, am_l7, am_l8, am_l9, am_l10, am_l11, am_l12, am_l13, am_l14, am_l15, am_l16, am_l17, am_l18, am_l19, am_l20, am_l21, am_l22, am_l23, am_l24, am_l25, am_l26, am_l30, am_l32, am_l33, am_l37, am_l38, am_l40, am_l41, am_l42, am_l43, am_l45, am_l47, am_l48, am_l50, am_l57, am_l59, am_l60, am_l61, am_l62, am_l63, am_l70, am_l80, am_l81, am_l97, am_l99, am_l100, am_l110, am_l115, am_l119, am_l120, am_l121, am_l124, am_l126, am_l156, am_l255, am_l1103515245, am_l12345, am_l2147483647, am_lm1, am_lm2, am_lm3, am_lm5, am_lm11, am_lm12, am_lm13, am_lm14, am_lm33, am_lm59, am_lm63, am_lm100, am_lm126, am_ti (show w < 2 ^ 31 by omega)] at q2
    omega
/-- fits(what, v) -/
theorem sp_3 {x z : Int32} {w : Nat} (hs : am_sta mi) (hw : w < 10) (hx : x = nI w) (h1 : ∀ k, am_lo w ≤ k → k ≤ am_hi w → z = nI k → R (some (.int 1)) mi ml) (h0 : (z.toInt < am_lo w ∨ am_hi w < z.toInt) → R (some (.int 0)) mi ml) : am_call (d + 1) 3 [.ref 1, .int x, .int z] mi ml R := by
  subst hx
  have hb : ∀ w, w < 10 → am_lo w ≤ 1 ∧ am_hi w ≤ 24 := by decide
  obtain ⟨b1, b2⟩ := hb w hw
  obtain ⟨e1, e2⟩ := hs.1 w hw
  have hcl : (nI w).toNatClampNeg = w := nI_clamp (by omega)
  have hin : vp_in (nI w) 10 := vp_in_nI hw (by omega)
  rw [← hcl] at e1 e2
  have f1 : (nI (am_lo w)).toInt = am_lo w := am_ti (by omega)
  have f2 : (nI (am_hi w)).toInt = am_hi w := am_ti (by omega)
  have f3 : (nI w).toInt = w := am_ti (by omega)
  rw [hcl] at e1 e2
  refine bk_3 ⟨fun q => ?_, fun q => ⟨fun q2 => ?_, fun q2 => ⟨hin, ⟨fun q3 => ⟨am_b0, h0 ?_⟩, fun q3 => ⟨hin, ⟨fun q4 => ⟨am_b0, h0 ?_⟩, fun q4 => ⟨am_b1, ?_⟩⟩⟩⟩⟩⟩⟩
  · simp only [am_lt_i, am_le_i, am_eq_i, ne_eq, am_l0, am_l1, am_l2, am_l3, am_l4, am_l5, am_l6, am_l7, am_l8, am_l9, am_l10, am_l11, am_l12, am_l13, am_l14, am_l15, am_l16, am_l17, am_l18, am_l19, am_l20, am_l21, am_l22, am_l23, am_l24, am_l25, am_l26, am_l30, am_l32, am_l33, am_l37, am_l38, am_l40, am_l41, am_l42, am_l43, am_l45, am_l47, am_l48, am_l50, am_l57, am_l59, am_l60, am_l61, am_l62, am_l63, am_l70, am_l80, am_l81, am_l97, am_l99, am_l100, am_l110, am_l115, am_l119, am_l120, am_l121, am_l124, am_l126, am_l156, am_l255, am_l1103515245, am_l12345, am_l2147483647, am_lm1, am_lm2, am_lm3, am_lm5, am_lm11, am_lm12, am_lm13, am_lm14, am_lm33, am_lm59, am_lm63, am_lm100, am_lm126, f3] at q
    omega
  · simp only [am_lt_i, am_le_i, am_eq_i, ne_eq, am_l0, am_l1, am_l2, am_l3, am_l4, am_l5, am_l6, am_l7, am_l8, am_l9, am_l10, am_l11, am_l12, am_l13, am_l14, am_l15, am_l16, am_l17, am_l18, am_l19, am_l20, am_l21, am_l22, am_l23, am_l24, am_l25, am_l26, am_l30, am_l32, am_l33, am_l37, am_l38, am_l40, am_l41, am_l42, am_l43, am_l45, am_l47, am_l48, am_l50, am_l57, am_l59, am_l60, am_l61, am_l62, am_l63, am_l70, am_l80, am_l81, am_l97, am_l99, am_l100, am_l110, am_l115, am_l119, am_l120, am_l121, am_l124, am_l126, am_l156, am_l255, am_l1103515245, am_l12345, am_l2147483647, am_lm1, am_lm2, am_lm3, am_lm5, am_lm11, am_lm12, am_lm13, am_lm14, am_lm33, am_lm59, am_lm63, am_lm100, am_lm126, f3] at q2
    omega
  · rw [hcl, e1] at q3
    simp only [am_lt_i, am_le_i, am_eq_i, ne_eq, am_l0, am_l1, am_l2, am_l3, am_l4, am_l5, am_l6, am_l7, am_l8, am_l9, am_l10, am_l11, am_l12, am_l13, am_l14, am_l15, am_l16, am_l17, am_l18, am_l19, am_l20, am_l21, am_l22, am_l23, am_l24, am_l25, am_l26, am_l30, am_l32, am_l33, am_l37, am_l38, am_l40, am_l41, am_l42, am_l43, am_l45, am_l47, am_l48, am_l50, am_l57, am_l59, am_l60, am_l61, am_l62, am_l63, am_l70, am_l80, am_l81, am_l97, am_l99, am_l100, am_l110, am_l115, am_l119, am_l120, am_l121, am_l124, am_l126, am_l156, am_l255, am_l1103515245, am_l12345, am_l2147483647, am_lm1, am_lm2, am_lm3, am_lm5, am_lm11, am_lm12, am_lm13, am_lm14, am_lm33, am_lm59, am_lm63, am_lm100, am_lm126, f1] at q3
    omega
  · rw [hcl, e2] at q4
    simp only [am_lt_i, am_le_i, am_eq_i, ne_eq, am_l0, am_l1, am_l2, am_l3, am_l4, am_l5, am_l6, am_l7, am_l8, am_l9, am_l10, am_l11, am_l12, am_l13, am_l14, am_l15, am_l16, am_l17, am_l18, am_l19, am_l20, am_l21, am_l22, am_l23, am_l24, am_l25, am_l26, am_l30, am_l32, am_l33, am_l37, am_l38, am_l40, am_l41, am_l42, am_l43, am_l45, am_l47, am_l48, am_l50, am_l57, am_l59, am_l60, am_l61, am_l62, am_l63, am_l70, am_l80, am_l81, am_l97, am_l99, am_l100, am_l110, am_l115, am_l119, am_l120, am_l121, am_l124, am_l126, am_l156, am_l255, am_l1103515245, am_l12345, am_l2147483647, am_lm1, am_lm2, am_lm3, am_lm5, am_lm11, am_lm12, am_lm13, am_lm14, am_lm33, am_lm59, am_lm63, am_lm100, am_lm126, f2] at q4
    omega
  · rw [hcl, e1] at q3
    rw [hcl, e2] at q4
    simp only [am_lt_i, am_le_i, am_eq_i, ne_eq, am_l0, am_l1, am_l2, am_l3, am_l4, am_l5, am_l6, am_l7, am_l8, am_l9, am_l10, am_l11, am_l12, am_l13, am_l14, am_l15, am_l16, am_l17, am_l18, am_l19, am_l20, am_l21, am_l22, am_l23, am_l24, am_l25, am_l26, am_l30, am_l32, am_l33, am_l37, am_l38, am_l40, am_l41, am_l42, am_l43, am_l45, am_l47, am_l48, am_l50, am_l57, am_l59, am_l60, am_l61, am_l62, am_l63, am_l70, am_l80, am_l81, am_l97, am_l99, am_l100, am_l110, am_l115, am_l119, am_l120, am_l121, am_l124, am_l126, am_l156, am_l255, am_l1103515245, am_l12345, am_l2147483647, am_lm1, am_lm2, am_lm3, am_lm5, am_lm11, am_lm12, am_lm13, am_lm14, am_lm33, am_lm59, am_lm63, am_lm100, am_lm126, f1, f2] at q3 q4
    obtain ⟨k, hk, e⟩ := am_nat (x := z) (n := 25) (by omega) (by omega)
    subst e
    rw [am_ti (by omega)] at q3 q4
    exact h1 k (by omega) (by omega) rfl
/-- get(what, number), a number that is there -/
theorem sp_4 {x z : Int32} {w i : Nat} (hx : x = nI w) (hz : z = nI i) (hw : w < 10) (hi : i < 12) (h : R (some (.int (mi (3 + w) i))) mi ml) : am_call (d + 1) 4 [.ref 1, .int x, .int z] mi ml R := by
  subst hx
  subst hz
  have f1 : (nI w).toInt = w := am_ti (by omega)
  have f2 : (nI i).toInt = i := am_ti (by omega)
  have c1 : (nI w).toNatClampNeg = w := nI_clamp (by omega)
  have c2 : (nI i).toNatClampNeg = i := nI_clamp (by omega)
  have hk : ∀ w, w < 10 → am_kd (3 + 1 * w) = 2 ∧ am_n (3 + 1 * w) = 12 := by decide
  obtain ⟨k1, k2⟩ := hk w hw
  refine bk_4 ⟨fun q => ?_, fun q => ⟨fun q2 => ?_, fun q2 => ⟨fun q3 => ?_, fun q3 => ⟨fun q4 => ⟨vp_in_nI hw (by omega), ?_⟩, fun q4 => ?_⟩⟩⟩⟩
  · simp only [am_lt_i, am_le_i, am_eq_i, ne_eq, am_l0, am_l1, am_l2, am_l3, am_l4, am_l5, am_l6, am_l7, am_l8, am_l9, am_l10, am_l11, am_l12, am_l13, am_l14, am_l15, am_l16, am_l17, am_l18, am_l19, am_l20, am_l21, am_l22, am_l23, am_l24, am_l25, am_l26, am_l30, am_l32, am_l33, am_l37, am_l38, am_l40, am_l41, am_l42, am_l43, am_l45, am_l47, am_l48, am_l50, am_l57, am_l59, am_l60, am_l61, am_l62, am_l63, am_l70, am_l80, am_l81, am_l97, am_l99, am_l100, am_l110, am_l115, am_l119, am_l120, am_l121, am_l124, am_l126, am_l156, am_l255, am_l1103515245, am_l12345, am_l2147483647, am_lm1, am_lm2, am_lm3, am_lm5, am_lm11, am_lm12, am_lm13, am_lm14, am_lm33, am_lm59, am_lm63, am_lm100, am_lm126, f1] at q
    omega
  · simp only [am_lt_i, am_le_i, am_eq_i, ne_eq, am_l0, am_l1, am_l2, am_l3, am_l4, am_l5, am_l6, am_l7, am_l8, am_l9, am_l10, am_l11, am_l12, am_l13, am_l14, am_l15, am_l16, am_l17, am_l18, am_l19, am_l20, am_l21, am_l22, am_l23, am_l24, am_l25, am_l26, am_l30, am_l32, am_l33, am_l37, am_l38, am_l40, am_l41, am_l42, am_l43, am_l45, am_l47, am_l48, am_l50, am_l57, am_l59, am_l60, am_l61, am_l62, am_l63, am_l70, am_l80, am_l81, am_l97, am_l99, am_l100, am_l110, am_l115, am_l119, am_l120, am_l121, am_l124, am_l126, am_l156, am_l255, am_l1103515245, am_l12345, am_l2147483647, am_lm1, am_lm2, am_lm3, am_lm5, am_lm11, am_lm12, am_lm13, am_lm14, am_lm33, am_lm59, am_lm63, am_lm100, am_lm126, f1] at q2
    omega
  · simp only [am_lt_i, am_le_i, am_eq_i, ne_eq, am_l0, am_l1, am_l2, am_l3, am_l4, am_l5, am_l6, am_l7, am_l8, am_l9, am_l10, am_l11, am_l12, am_l13, am_l14, am_l15, am_l16, am_l17, am_l18, am_l19, am_l20, am_l21, am_l22, am_l23, am_l24, am_l25, am_l26, am_l30, am_l32, am_l33, am_l37, am_l38, am_l40, am_l41, am_l42, am_l43, am_l45, am_l47, am_l48, am_l50, am_l57, am_l59, am_l60, am_l61, am_l62, am_l63, am_l70, am_l80, am_l81, am_l97, am_l99, am_l100, am_l110, am_l115, am_l119, am_l120, am_l121, am_l124, am_l126, am_l156, am_l255, am_l1103515245, am_l12345, am_l2147483647, am_lm1, am_lm2, am_lm3, am_lm5, am_lm11, am_lm12, am_lm13, am_lm14, am_lm33, am_lm59, am_lm63, am_lm100, am_lm126, f2] at q3
    omega
  · rw [c1, c2]
    refine am_need_i (by rw [k1]; rfl) ⟨?_, ?_⟩
    · have e : am_len mi (3 + 1 * w) = 12 := by
        unfold am_len
        rw [k1]
        exact k2
      rw [e]
      exact vp_in_nI hi (by omega)
    · rw [Nat.one_mul]
      exact h
  · simp only [am_lt_i, am_le_i, am_eq_i, ne_eq, am_l0, am_l1, am_l2, am_l3, am_l4, am_l5, am_l6, am_l7, am_l8, am_l9, am_l10, am_l11, am_l12, am_l13, am_l14, am_l15, am_l16, am_l17, am_l18, am_l19, am_l20, am_l21, am_l22, am_l23, am_l24, am_l25, am_l26, am_l30, am_l32, am_l33, am_l37, am_l38, am_l40, am_l41, am_l42, am_l43, am_l45, am_l47, am_l48, am_l50, am_l57, am_l59, am_l60, am_l61, am_l62, am_l63, am_l70, am_l80, am_l81, am_l97, am_l99, am_l100, am_l110, am_l115, am_l119, am_l120, am_l121, am_l124, am_l126, am_l156, am_l255, am_l1103515245, am_l12345, am_l2147483647, am_lm1, am_lm2, am_lm3, am_lm5, am_lm11, am_lm12, am_lm13, am_lm14, am_lm33, am_lm59, am_lm63, am_lm100, am_lm126, f2] at q4
    omega
theorem sp_4c {x z : Int32} {w i : Nat} (hc : am_cx n m u mi) (hx : x = nI w) (hz : z = nI i) (hv : am_val n m w i) (h : R (some (.int (u w i))) mi ml) : am_call (d + 1) 4 [.ref 1, .int x, .int z] mi ml R := by
  have h1 := hc.1
  have h2 := hc.2.1
  refine sp_4 hx hz (by unfold am_val at hv; omega) (by unfold am_val at hv; omega) ?_
  rw [hc.2.2.2.2 w i hv]
  exact h
end SP19
end
section
/-! specs: what changes the class's calendar; away, late -/
def am_uu (u : Nat → Nat → Int32) (w i : Nat) (y : Int32) : Nat → Nat → Int32 := fun w2 i2 => if w2 = w ∧ i2 = i then y else u w2 i2
theorem am_uu_k {u w i y} : am_uu u w i y w i = y := if_pos ⟨rfl, rfl⟩
theorem am_uu_n {u : Nat → Nat → Int32} {w i w2 i2 : Nat} {y : Int32} (h : w2 = w → i2 = i → False) : am_uu u w i y w2 i2 = u w2 i2 := if_neg fun q => h q.1 q.2
/-- the calendar's own places -/
def am_FC : Nat → Nat → Bool := fun c j => decide ((c = 1 ∧ (j = 1 ∨ j = 2 ∨ j = 3)) ∨ (3 ≤ c ∧ c ≤ 12))
def am_cz (m : Nat) (mi : am_MI) : Prop := ∀ i, m ≤ i → i < 12 → mi 9 i = 0 ∧ mi 10 i = 0
theorem am_FC_w {w i : Nat} (h : w < 10) : am_FC (3 + w) i = true := decide_eq_true (by omega)
/-- the numbers of all children and doors are of their kinds -/
def am_ur (n m : Nat) (u : Nat → Nat → Int32) : Prop := ∀ w i, am_val n m w i → ∃ k, am_lo w ≤ k ∧ k ≤ am_hi w ∧ u w i = nI k
theorem am_lohi : ∀ w, w < 10 → am_lo w ≤ 1 ∧ am_hi w ≤ 24 := by decide
theorem am_ur_i {n m u w i} (h : am_ur n m u) (hv : am_val n m w i) : (am_lo w : Int) ≤ (u w i).toInt ∧ (u w i).toInt ≤ am_hi w := by
  obtain ⟨k, h1, h2, h3⟩ := h w i hv
  have := am_lohi w (by unfold am_val at hv; omega)
  rw [h3, am_ti (by omega)]
  omega
/-- a child is away on that day -/
abbrev am_aw (u : Nat → Nat → Int32) (c : Nat) (x : Int32) : Prop := 0 < (u 6 c).toInt ∧ (u 6 c).toInt ≤ x.toInt ∧ x.toInt ≤ (u 7 c).toInt
/-- it never eats that door; how late it eats it else -/
abbrev am_nev (u : Nat → Nat → Int32) (c i : Nat) : Prop := am_aw u c (u 0 i) ∧ (u 7 c).toInt = 24
def am_lat (u : Nat → Nat → Int32) (c i : Nat) : Int32 := if am_aw u c (u 0 i) then u 7 c + 1 - u 0 i else 0
theorem am_vd {n m i : Nat} {w : Nat} (hw : w ≤ 2) (h : i < n) : am_val n m w i := Or.inl ⟨hw, h⟩
theorem am_vc {n m i : Nat} {w : Nat} (h3 : 3 ≤ w) (h7 : w ≤ 7) (h : i < m) : am_val n m w i := Or.inr (Or.inl ⟨h3, h7, h⟩)
theorem am_vs {n m : Nat} {w : Nat} (h8 : 8 ≤ w) (h9 : w ≤ 9) : am_val n m w 0 := Or.inr (Or.inr ⟨h8, h9, rfl⟩)
section SP20
variable {d n m : Nat} {u : Nat → Nat → Int32} {mi : am_MI} {ml : am_ML} {R : am_R}
/-- set(what, number, v), where there is such a number -/
theorem sp_5 {x z y : Int32} {w i : Nat} (hc : am_cx n m u mi) (hv : am_val n m w i) (hx : x = nI w) (hz : z = nI i) (h : ∀ mi2, am_cx n m (am_uu u w i y) mi2 → am_kp am_FC mi mi2 → mi2 1 3 = mi 1 3 + 1 → mi2 1 1 = mi 1 1 → mi2 1 2 = mi 1 2 → (∀ w2 i2, w2 < 10 → (w2 = w → i2 = i → False) → mi2 (3 + w2) i2 = mi (3 + w2) i2) → R none mi2 ml) : am_call (d + 3) 5 [.ref 1, .int x, .int z, .int y] mi ml R := by
  subst hx
  subst hz
  have h1 := hc.1
  have h2 := hc.2.1
  have hw : w < 10 := by unfold am_val at hv; omega
  have hi : i < 12 := by unfold am_val at hv; omega
  have c1 : (nI w).toNatClampNeg = w := nI_clamp (by omega)
  have c2 : (nI i).toNatClampNeg = i := nI_clamp (by omega)
  have hk : ∀ w, w < 10 → am_kd (3 + 1 * w) = 2 ∧ am_n (3 + 1 * w) = 12 := by decide
  obtain ⟨k1, k2⟩ := hk w hw
  refine bk_5 (sp_2 hc (fun w2 i2 hv2 e1 e2 => am_ri_i (am_y ⟨vp_in_nI hw (by omega), ?_⟩)) (fun q => (q w i hv rfl rfl).elim))
  rw [c1, c2]
  refine am_need_i (by rw [k1]; rfl) ⟨by rw [k2]; exact vp_in_nI hi (by omega), ?_⟩
  rw [Nat.one_mul]
  have e3 : am_ui mi (3 + w) i y 1 3 = mi 1 3 := am_ui_c (by omega)
  rw [e3]
  have rd : ∀ c j, ¬ c = 1 → am_ui (am_ui mi (3 + w) i y) 1 3 (mi 1 3 + 1) c j = am_ui mi (3 + w) i y c j := fun c j q => am_ui_c q
  have r1 : ∀ j, ¬ j = 3 → am_ui (am_ui mi (3 + w) i y) 1 3 (mi 1 3 + 1) 1 j = mi 1 j := fun j q => (am_ui_n (fun _ e => q e)).trans (am_ui_c (by omega))
  refine h _ ⟨h1, h2, (r1 1 (by omega)).trans hc.2.2.1, (r1 2 (by omega)).trans hc.2.2.2.1, fun w2 i2 hv2 => ?_⟩ (am_kp_u (am_kp_u am_kp_r (am_FC_w hw)) rfl) am_ui_k (r1 1 (by omega)) (r1 2 (by omega)) (fun w2 i2 _ hne => (rd _ _ (by omega)).trans (am_ui_n (fun e1 e2 => hne (by omega) e2)))
  rw [rd _ _ (by omega)]
  by_cases e : w2 = w ∧ i2 = i
  · obtain ⟨rfl, rfl⟩ := e
    rw [am_ui_k, am_uu_k]
  · rw [am_ui_n (fun e1 e2 => e ⟨by omega, e2⟩), am_uu_n (fun e1 e2 => e ⟨e1, e2⟩)]
    exact hc.2.2.2.2 w2 i2 hv2
theorem am_cx_self {n m : Nat} {mi : am_MI} (hn : n ≤ 12) (hm : m ≤ 5) (e1 : mi 1 1 = nI n) (e2 : mi 1 2 = nI m) : am_cx n m (fun w i => mi (3 + w) i) mi := ⟨hn, hm, e1, e2, fun _ _ _ => rfl⟩
theorem am_cx_of {n m : Nat} {u v : Nat → Nat → Int32} {mi : am_MI} (h : am_cx n m u mi) (he : ∀ w i, am_val n m w i → u w i = v w i) : am_cx n m v mi := ⟨h.1, h.2.1, h.2.2.1, h.2.2.2.1, fun w i hv => (h.2.2.2.2 w i hv).trans (he w i hv)⟩
/-- addDoor -/
theorem sp_6 {x y z : Int32} (hc : am_cx n m u mi) (h0 : n = 12 → R (some (.int 0)) mi ml)
    (h1 : n < 12 → ∀ mi2, am_cx (n + 1) m (am_uu (am_uu (am_uu u 0 n x) 1 n y) 2 n z) mi2 → am_kp am_FC mi mi2 → mi2 1 3 = mi 1 3 + 1 + 1 + 1 → (∀ j, mi2 9 j = mi 9 j ∧ mi2 10 j = mi 10 j) → R (some (.int 1)) mi2 ml) : am_call (d + 4) 6 [.ref 1, .int x, .int y, .int z] mi ml R := by
  have hn := am_cx_n hc
  have hm := hc.2.1
  refine bk_6 ⟨fun q => ?_, fun q => ⟨am_b0, h0 ?_⟩⟩
  · simp only [am_lt_i, am_le_i, am_eq_i, ne_eq, am_l0, am_l1, am_l2, am_l3, am_l4, am_l5, am_l6, am_l7, am_l8, am_l9, am_l10, am_l11, am_l12, am_l13, am_l14, am_l15, am_l16, am_l17, am_l18, am_l19, am_l20, am_l21, am_l22, am_l23, am_l24, am_l25, am_l26, am_l30, am_l32, am_l33, am_l37, am_l38, am_l40, am_l41, am_l42, am_l43, am_l45, am_l47, am_l48, am_l50, am_l57, am_l59, am_l60, am_l61, am_l62, am_l63, am_l70, am_l80, am_l81, am_l97, am_l99, am_l100, am_l110, am_l115, am_l119, am_l120, am_l121, am_l124, am_l126, am_l156, am_l255, am_l1103515245, am_l12345, am_l2147483647, am_lm1, am_lm2, am_lm3, am_lm5, am_lm11, am_lm12, am_lm13, am_lm14, am_lm33, am_lm59, am_lm63, am_lm100, am_lm126, hn] at q
    have hn12 : n < 12 := by omega
    have ea : mi 1 1 + 1 - 1 = nI n := by rw [hc.2.2.1, nI_1, nI_pred]
    have hc0 : am_cx (n + 1) m (fun w i => am_ui mi 1 1 (mi 1 1 + 1) (3 + w) i) (am_ui mi 1 1 (mi 1 1 + 1)) := am_cx_self (by omega) hm (am_ui_k.trans (by rw [hc.2.2.1, nI_1])) ((am_ui_n (fun _ e => by cases e)).trans hc.2.2.2.1)
    have k0 : am_kp am_FC mi (am_ui mi 1 1 (mi 1 1 + 1)) := am_kp_u am_kp_r rfl
    have v0 : am_ui mi 1 1 (mi 1 1 + 1) 1 3 = mi 1 3 := am_ui_n (fun _ e => by cases e)
    have o0 : ∀ w i, am_ui mi 1 1 (mi 1 1 + 1) (3 + w) i = mi (3 + w) i := fun w i => am_ui_c (by omega)
    refine sp_5 (w := 0) (i := n) hc0 (am_vd (by omega) (by omega)) rfl ea (fun mi1 hc1 k1 v1 a1 b1 o1 => am_rv_i ?_)
    refine sp_5 (w := 1) (i := n) hc1 (am_vd (by omega) (by omega)) rfl (by rw [hc1.2.2.1, nI_pred]) (fun mi2 hc2 k2 v2 a2 b2 o2 => am_rv_i ?_)
    refine sp_5 (w := 2) (i := n) hc2 (am_vd (by omega) (by omega)) rfl (by rw [hc2.2.2.1, nI_pred]) (fun mi3 hc3 k3 v3 a3 b3 o3 => am_rv_i ⟨am_b1, ?_⟩)
    refine h1 hn12 mi3 (am_cx_of hc3 (fun w i hv => ?_)) (am_kp_t k0 (am_kp_t k1 (am_kp_t k2 k3))) (by rw [v3, v2, v1, v0]) (fun j => ⟨?_, ?_⟩)
    · by_cases e2 : w = 2 ∧ i = n
      · obtain ⟨rfl, rfl⟩ := e2
        rw [am_uu_k, am_uu_k]
      · rw [am_uu_n (fun p q => e2 ⟨p, q⟩), am_uu_n (fun p q => e2 ⟨p, q⟩)]
        by_cases e1 : w = 1 ∧ i = n
        · obtain ⟨rfl, rfl⟩ := e1
          rw [am_uu_k, am_uu_k]
        · rw [am_uu_n (fun p q => e1 ⟨p, q⟩), am_uu_n (fun p q => e1 ⟨p, q⟩)]
          by_cases e0 : w = 0 ∧ i = n
          · obtain ⟨rfl, rfl⟩ := e0
            rw [am_uu_k, am_uu_k]
          · rw [am_uu_n (fun p q => e0 ⟨p, q⟩), am_uu_n (fun p q => e0 ⟨p, q⟩)]
            exact (o0 w i).trans (hc.2.2.2.2 w i (by unfold am_val at hv ⊢; omega))
    · have z3 := o3 6 j (by omega) (by omega)
      have z2 := o2 6 j (by omega) (by omega)
      have z1 := o1 6 j (by omega) (by omega)
      exact z3.trans (z2.trans (z1.trans (o0 6 j)))
    · have z3 := o3 7 j (by omega) (by omega)
      have z2 := o2 7 j (by omega) (by omega)
      have z1 := o1 7 j (by omega) (by omega)
      exact z3.trans (z2.trans (z1.trans (o0 7 j)))
  · simp only [am_lt_i, am_le_i, am_eq_i, ne_eq, am_l0, am_l1, am_l2, am_l3, am_l4, am_l5, am_l6, am_l7, am_l8, am_l9, am_l10, am_l11, am_l12, am_l13, am_l14, am_l15, am_l16, am_l17, am_l18, am_l19, am_l20, am_l21, am_l22, am_l23, am_l24, am_l25, am_l26, am_l30, am_l32, am_l33, am_l37, am_l38, am_l40, am_l41, am_l42, am_l43, am_l45, am_l47, am_l48, am_l50, am_l57, am_l59, am_l60, am_l61, am_l62, am_l63, am_l70, am_l80, am_l81, am_l97, am_l99, am_l100, am_l110, am_l115, am_l119, am_l120, am_l121, am_l124, am_l126, am_l156, am_l255, am_l1103515245, am_l12345, am_l2147483647, am_lm1, am_lm2, am_lm3, am_lm5, am_lm11, am_lm12, am_lm13, am_lm14, am_lm33, am_lm59, am_lm63, am_lm100, am_lm126, hn] at q
    have := hc.1
    omega
/-- addChild -/
theorem sp_7 {x y : Int32} (hc : am_cx n m u mi) (hz : am_cz m mi) (h0 : m = 5 → R (some (.int 0)) mi ml)
    (h1 : m < 5 → ∀ mi2, am_cx n (m + 1) (am_uu (am_uu (am_uu (am_uu (am_uu u 3 m x) 4 m y) 5 m 5) 6 m 0) 7 m 0) mi2 → am_cz (m + 1) mi2 → am_kp am_FC mi mi2 → mi2 1 3 = mi 1 3 + 1 + 1 + 1 → R (some (.int 1)) mi2 ml) : am_call (d + 4) 7 [.ref 1, .int x, .int y] mi ml R := by
  have hm := am_cx_m hc
  have hn := hc.1
  refine bk_7 ⟨fun q => ?_, fun q => ⟨am_b0, h0 ?_⟩⟩
  · simp only [am_lt_i, am_le_i, am_eq_i, ne_eq, am_l0, am_l1, am_l2, am_l3, am_l4, am_l5, am_l6, am_l7, am_l8, am_l9, am_l10, am_l11, am_l12, am_l13, am_l14, am_l15, am_l16, am_l17, am_l18, am_l19, am_l20, am_l21, am_l22, am_l23, am_l24, am_l25, am_l26, am_l30, am_l32, am_l33, am_l37, am_l38, am_l40, am_l41, am_l42, am_l43, am_l45, am_l47, am_l48, am_l50, am_l57, am_l59, am_l60, am_l61, am_l62, am_l63, am_l70, am_l80, am_l81, am_l97, am_l99, am_l100, am_l110, am_l115, am_l119, am_l120, am_l121, am_l124, am_l126, am_l156, am_l255, am_l1103515245, am_l12345, am_l2147483647, am_lm1, am_lm2, am_lm3, am_lm5, am_lm11, am_lm12, am_lm13, am_lm14, am_lm33, am_lm59, am_lm63, am_lm100, am_lm126, hm] at q
    have hm5 : m < 5 := by omega
    have ea : mi 1 2 + 1 - 1 = nI m := by rw [hc.2.2.2.1, nI_1, nI_pred]
    have hc0 : am_cx n (m + 1) (fun w i => am_ui mi 1 2 (mi 1 2 + 1) (3 + w) i) (am_ui mi 1 2 (mi 1 2 + 1)) := am_cx_self hn (by omega) ((am_ui_n (fun _ e => by cases e)).trans hc.2.2.1) (am_ui_k.trans (by rw [hc.2.2.2.1, nI_1]))
    have k0 : am_kp am_FC mi (am_ui mi 1 2 (mi 1 2 + 1)) := am_kp_u am_kp_r rfl
    have v0 : am_ui mi 1 2 (mi 1 2 + 1) 1 3 = mi 1 3 := am_ui_n (fun _ e => by cases e)
    have o0 : ∀ w i, am_ui mi 1 2 (mi 1 2 + 1) (3 + w) i = mi (3 + w) i := fun w i => am_ui_c (by omega)
    refine sp_5 (w := 3) (i := m) hc0 (am_vc (by omega) (by omega) (by omega)) rfl ea (fun mi1 hc1 k1 v1 a1 b1 o1 => am_rv_i ?_)
    refine sp_5 (w := 4) (i := m) hc1 (am_vc (by omega) (by omega) (by omega)) rfl (by rw [hc1.2.2.2.1, nI_pred]) (fun mi2 hc2 k2 v2 a2 b2 o2 => am_rv_i ?_)
    refine sp_5 (w := 5) (i := m) hc2 (am_vc (by omega) (by omega) (by omega)) rfl (by rw [hc2.2.2.2.1, nI_pred]) (fun mi3 hc3 k3 v3 a3 b3 o3 => am_rv_i ⟨am_b1, ?_⟩)
    have z9 : ∀ j, mi3 9 j = mi 9 j := fun j => (o3 6 j (by omega) (by omega)).trans ((o2 6 j (by omega) (by omega)).trans ((o1 6 j (by omega) (by omega)).trans (o0 6 j)))
    have z10 : ∀ j, mi3 10 j = mi 10 j := fun j => (o3 7 j (by omega) (by omega)).trans ((o2 7 j (by omega) (by omega)).trans ((o1 7 j (by omega) (by omega)).trans (o0 7 j)))
    refine h1 hm5 mi3 (am_cx_of hc3 (fun w i hv => ?_)) (fun i h1 h2 => by rw [z9, z10]; exact hz i (by omega) h2) (am_kp_t k0 (am_kp_t k1 (am_kp_t k2 k3))) (by rw [v3, v2, v1, v0])
    by_cases e7 : w = 7 ∧ i = m
    · obtain ⟨rfl, rfl⟩ := e7
      rw [am_uu_k, am_uu_n (by omega), am_uu_n (by omega), am_uu_n (by omega)]
      exact (o0 7 _).trans (hz _ (Nat.le_refl _) (by omega)).2
    rw [am_uu_n (w := 7) (fun p q => e7 ⟨p, q⟩)]
    by_cases e6 : w = 6 ∧ i = m
    · obtain ⟨rfl, rfl⟩ := e6
      rw [am_uu_k, am_uu_n (by omega), am_uu_n (by omega), am_uu_n (by omega)]
      exact (o0 6 _).trans (hz _ (Nat.le_refl _) (by omega)).1
    rw [am_uu_n (w := 6) (fun p q => e6 ⟨p, q⟩)]
    by_cases e5 : w = 5 ∧ i = m
    · obtain ⟨rfl, rfl⟩ := e5
      rw [am_uu_k, am_uu_k]
    rw [am_uu_n (w := 5) (fun p q => e5 ⟨p, q⟩), am_uu_n (w := 5) (fun p q => e5 ⟨p, q⟩)]
    by_cases e4 : w = 4 ∧ i = m
    · obtain ⟨rfl, rfl⟩ := e4
      rw [am_uu_k, am_uu_k]
    rw [am_uu_n (w := 4) (fun p q => e4 ⟨p, q⟩), am_uu_n (w := 4) (fun p q => e4 ⟨p, q⟩)]
    by_cases e3 : w = 3 ∧ i = m
    · obtain ⟨rfl, rfl⟩ := e3
      rw [am_uu_k, am_uu_k]
    rw [am_uu_n (w := 3) (fun p q => e3 ⟨p, q⟩), am_uu_n (w := 3) (fun p q => e3 ⟨p, q⟩)]
    exact (o0 w i).trans (hc.2.2.2.2 w i (by unfold am_val at hv ⊢; omega))
  · simp only [am_lt_i, am_le_i, am_eq_i, ne_eq, am_l0, am_l1, am_l2, am_l3, am_l4, am_l5, am_l6, am_l7, am_l8, am_l9, am_l10, am_l11, am_l12, am_l13, am_l14, am_l15, am_l16, am_l17, am_l18, am_l19, am_l20, am_l21, am_l22, am_l23, am_l24, am_l25, am_l26, am_l30, am_l32, am_l33, am_l37, am_l38, am_l40, am_l41, am_l42, am_l43, am_l45, am_l47, am_l48, am_l50, am_l57, am_l59, am_l60, am_l61, am_l62, am_l63, am_l70, am_l80, am_l81, am_l97, am_l99, am_l100, am_l110, am_l115, am_l119, am_l120, am_l121, am_l124, am_l126, am_l156, am_l255, am_l1103515245, am_l12345, am_l2147483647, am_lm1, am_lm2, am_lm3, am_lm5, am_lm11, am_lm12, am_lm13, am_lm14, am_lm33, am_lm59, am_lm63, am_lm100, am_lm126, hm] at q
    have := hc.2.1
    omega
/-- isAway(child, day) -/
theorem sp_8 {x z : Int32} {c : Nat} (hc : am_cx n m u mi) (hr : am_ur n m u) (hcm : c < m) (hx : x = nI c) (h1 : am_aw u c z → R (some (.int 1)) mi ml) (h0 : ¬ am_aw u c z → R (some (.int 0)) mi ml) : am_call (d + 2) 8 [.ref 1, .int x, .int z] mi ml R := by
  have b6 := am_ur_i hr (am_vc (n := n) (w := 6) (by omega) (by omega) hcm)
  have e6 : am_lo 6 = 0 := rfl
  refine bk_8 (sp_4c hc (w := 6) rfl hx (am_vc (by omega) (by omega) hcm) (am_ri_i ⟨fun q => ⟨am_b0, h0 ?_⟩, fun q => ⟨fun q2 => ⟨am_b0, h0 ?_⟩, fun q2 => sp_4c hc (w := 7) rfl hx (am_vc (by omega) (by omega) hcm) (am_ri_i ⟨fun q3 => ⟨am_b0, h0 ?_⟩, fun q3 => ⟨am_b1, h1 ?_⟩⟩)⟩⟩))
  · simp only [am_lt_i, am_le_i, am_eq_i, ne_eq, am_l0, am_l1, am_l2, am_l3, am_l4, am_l5, am_l6, am_l7, am_l8, am_l9, am_l10, am_l11, am_l12, am_l13, am_l14, am_l15, am_l16, am_l17, am_l18, am_l19, am_l20, am_l21, am_l22, am_l23, am_l24, am_l25, am_l26, am_l30, am_l32, am_l33, am_l37, am_l38, am_l40, am_l41, am_l42, am_l43, am_l45, am_l47, am_l48, am_l50, am_l57, am_l59, am_l60, am_l61, am_l62, am_l63, am_l70, am_l80, am_l81, am_l97, am_l99, am_l100, am_l110, am_l115, am_l119, am_l120, am_l121, am_l124, am_l126, am_l156, am_l255, am_l1103515245, am_l12345, am_l2147483647, am_lm1, am_lm2, am_lm3, am_lm5, am_lm11, am_lm12, am_lm13, am_lm14, am_lm33, am_lm59, am_lm63, am_lm100, am_lm126] at q
    omega
  · simp only [am_lt_i, am_le_i, am_eq_i, ne_eq, am_l0, am_l1, am_l2, am_l3, am_l4, am_l5, am_l6, am_l7, am_l8, am_l9, am_l10, am_l11, am_l12, am_l13, am_l14, am_l15, am_l16, am_l17, am_l18, am_l19, am_l20, am_l21, am_l22, am_l23, am_l24, am_l25, am_l26, am_l30, am_l32, am_l33, am_l37, am_l38, am_l40, am_l41, am_l42, am_l43, am_l45, am_l47, am_l48, am_l50, am_l57, am_l59, am_l60, am_l61, am_l62, am_l63, am_l70, am_l80, am_l81, am_l97, am_l99, am_l100, am_l110, am_l115, am_l119, am_l120, am_l121, am_l124, am_l126, am_l156, am_l255, am_l1103515245, am_l12345, am_l2147483647, am_lm1, am_lm2, am_lm3, am_lm5, am_lm11, am_lm12, am_lm13, am_lm14, am_lm33, am_lm59, am_lm63, am_lm100, am_lm126] at q q2
    omega
  · simp only [am_lt_i, am_le_i, am_eq_i, ne_eq, am_l0, am_l1, am_l2, am_l3, am_l4, am_l5, am_l6, am_l7, am_l8, am_l9, am_l10, am_l11, am_l12, am_l13, am_l14, am_l15, am_l16, am_l17, am_l18, am_l19, am_l20, am_l21, am_l22, am_l23, am_l24, am_l25, am_l26, am_l30, am_l32, am_l33, am_l37, am_l38, am_l40, am_l41, am_l42, am_l43, am_l45, am_l47, am_l48, am_l50, am_l57, am_l59, am_l60, am_l61, am_l62, am_l63, am_l70, am_l80, am_l81, am_l97, am_l99, am_l100, am_l110, am_l115, am_l119, am_l120, am_l121, am_l124, am_l126, am_l156, am_l255, am_l1103515245, am_l12345, am_l2147483647, am_lm1, am_lm2, am_lm3, am_lm5, am_lm11, am_lm12, am_lm13, am_lm14, am_lm33, am_lm59, am_lm63, am_lm100, am_lm126] at q q2 q3
    omega
  · simp only [am_lt_i, am_le_i, am_eq_i, ne_eq, am_l0, am_l1, am_l2, am_l3, am_l4, am_l5, am_l6, am_l7, am_l8, am_l9, am_l10, am_l11, am_l12, am_l13, am_l14, am_l15, am_l16, am_l17, am_l18, am_l19, am_l20, am_l21, am_l22, am_l23, am_l24, am_l25, am_l26, am_l30, am_l32, am_l33, am_l37, am_l38, am_l40, am_l41, am_l42, am_l43, am_l45, am_l47, am_l48, am_l50, am_l57, am_l59, am_l60, am_l61, am_l62, am_l63, am_l70, am_l80, am_l81, am_l97, am_l99, am_l100, am_l110, am_l115, am_l119, am_l120, am_l121, am_l124, am_l126, am_l156, am_l255, am_l1103515245, am_l12345, am_l2147483647, am_lm1, am_lm2, am_lm3, am_lm5, am_lm11, am_lm12, am_lm13, am_lm14, am_lm33, am_lm59, am_lm63, am_lm100, am_lm126] at q q2 q3
    omega
/-- late(child, door) -/
theorem sp_9 {x z : Int32} {c i : Nat} (hc : am_cx n m u mi) (hr : am_ur n m u) (hcm : c < m) (hin : i < n) (hx : x = nI c) (hz : z = nI i) (h1 : am_nev u c i → R (some (.int (-1))) mi ml) (h0 : ¬ am_nev u c i → R (some (.int (am_lat u c i))) mi ml) : am_call (d + 3) 9 [.ref 1, .int x, .int z] mi ml R := by
  have b7 := am_ur_i hr (am_vc (n := n) (w := 7) (by omega) (by omega) hcm)
  obtain ⟨k, g1, g2, g3⟩ := hr 7 c (am_vc (by omega) (by omega) hcm)
  have e7 : am_hi 7 = 24 := rfl
  have e8 : am_lo 7 = 0 := rfl
  have e9 : (u 7 c + 1).toInt = (u 7 c).toInt + 1 := by
    rw [g3, nI_1, am_ti (by omega), am_ti (by omega)]
    omega
  refine bk_9 (sp_4c hc (w := 0) rfl hz (am_vd (by omega) hin) (am_ri_i (sp_8 hc hr hcm hx (fun ha => am_ri_i (am_yn (sp_4c hc (w := 7) rfl hx (am_vc (by omega) (by omega) hcm) (am_ri_i ⟨fun q => h1 ⟨ha, ?_⟩, fun q => ?_⟩)))) (fun ha => am_ri_i (am_nn ?_)))))
  · simp only [am_lt_i, am_le_i, am_eq_i, ne_eq, am_l0, am_l1, am_l2, am_l3, am_l4, am_l5, am_l6, am_l7, am_l8, am_l9, am_l10, am_l11, am_l12, am_l13, am_l14, am_l15, am_l16, am_l17, am_l18, am_l19, am_l20, am_l21, am_l22, am_l23, am_l24, am_l25, am_l26, am_l30, am_l32, am_l33, am_l37, am_l38, am_l40, am_l41, am_l42, am_l43, am_l45, am_l47, am_l48, am_l50, am_l57, am_l59, am_l60, am_l61, am_l62, am_l63, am_l70, am_l80, am_l81, am_l97, am_l99, am_l100, am_l110, am_l115, am_l119, am_l120, am_l121, am_l124, am_l126, am_l156, am_l255, am_l1103515245, am_l12345, am_l2147483647, am_lm1, am_lm2, am_lm3, am_lm5, am_lm11, am_lm12, am_lm13, am_lm14, am_lm33, am_lm59, am_lm63, am_lm100, am_lm126, e9] at q
    omega
  · have z := h0 (fun w => by
      have w2 := w.2
      simp only [am_lt_i, am_le_i, am_eq_i, ne_eq, am_l0, am_l1, am_l2, am_l3, am_l4, am_l5, am_l6, am_l7, am_l8, am_l9, am_l10, am_l11, am_l12, am_l13, am_l14, am_l15, am_l16, am_l17, am_l18, am_l19, am_l20, am_l21, am_l22, am_l23, am_l24, am_l25, am_l26, am_l30, am_l32, am_l33, am_l37, am_l38, am_l40, am_l41, am_l42, am_l43, am_l45, am_l47, am_l48, am_l50, am_l57, am_l59, am_l60, am_l61, am_l62, am_l63, am_l70, am_l80, am_l81, am_l97, am_l99, am_l100, am_l110, am_l115, am_l119, am_l120, am_l121, am_l124, am_l126, am_l156, am_l255, am_l1103515245, am_l12345, am_l2147483647, am_lm1, am_lm2, am_lm3, am_lm5, am_lm11, am_lm12, am_lm13, am_lm14, am_lm33, am_lm59, am_lm63, am_lm100, am_lm126, e9] at q
      omega)
    unfold am_lat at z
    rw [if_pos ha] at z
    exact z
  · have z := h0 (fun w => ha w.1)
    unfold am_lat at z
    rw [if_neg ha] at z
    exact z
/-- a child holds out till that day -/
def am_hol (u : Nat → Nat → Int32) (c : Nat) : Int32 := am_min (u 5 c * 3 + (if u 8 0 = 0 then 2 else 0)) 24
theorem sp_11 {x : Int32} {c : Nat} (hc : am_cx n m u mi) (hcm : c < m) (hx : x = nI c) (h : R (some (.int (am_hol u c))) mi ml) : am_call (d + 2) 11 [.ref 1, .int x] mi ml R := by
  unfold am_hol at h
  refine bk_11 (sp_4c hc (w := 8) (i := 0) rfl rfl (am_vs (by omega) (by omega)) (am_ri_i ⟨fun q => ?_, fun q => ?_⟩))
  · refine sp_4c hc (w := 5) rfl hx (am_vc (by omega) (by omega) hcm) (am_ri_i ?_)
    rw [if_neg q] at h
    exact h
  · refine sp_4c hc (w := 5) rfl hx (am_vc (by omega) (by omega) hcm) (am_ri_i ?_)
    rw [if_pos (Decidable.not_not.mp q)] at h
    exact h
/-- so many of the first j things -/
def am_cnt (p : Nat → Bool) : Nat → Nat
  | 0 => 0
  | j + 1 => am_cnt p j + (if p j = true then 1 else 0)
theorem am_cnt_le (p : Nat → Bool) : ∀ j, am_cnt p j ≤ j
  | 0 => Nat.le_refl _
  | j + 1 => by
    have := am_cnt_le p j
    unfold am_cnt
    split <;> omega
theorem sp_10 {x : Int32} {c : Nat} (hc : am_cx n m u mi) (hr : am_ur n m u) (hcm : c < m) (hx : x = nI c) (h : R (some (.int (nI (am_cnt (fun i => decide (am_aw u c (u 0 i))) n)))) mi ml) : am_call (d + 3) 10 [.ref 1, .int x] mi ml R := by
  have hn := hc.1
  refine bk_10 (am_for n (fun j => am_wp (am_call (d + 2)) mt_10 R 4 [some (.ref 1), some (.int x), some (.int (nI (am_cnt (fun i => decide (am_aw u c (u 0 i))) j))), some (.int (nI j))] [] mi ml) ?_ (fun j hj ih => ?_) 0 (Nat.zero_le _))
  · exact bk_10_4 (pk_le n n (fun _ => h) (fun q => absurd q (Nat.lt_irrefl _)) hc.2.2.1 rfl)
  · refine bk_10_4 (pk_le n j (fun q => absurd q (by omega)) (fun _ => ?_) hc.2.2.1 rfl)
    refine sp_4c hc (w := 0) rfl rfl (am_vd (by omega) hj) (am_ri_i (sp_8 hc hr hcm hx (fun ha => am_ri_i (am_y ?_)) (fun ha => am_ri_i (am_n0 ?_))))
    · unfold am_cnt at ih
      rw [if_pos (decide_eq_true ha)] at ih
      rw [nI_1, nI_1]
      exact ih
    · unfold am_cnt at ih
      rw [if_neg (by simpa using ha)] at ih
      rw [nI_1]
      exact ih
end SP20
end
