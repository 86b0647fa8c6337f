section
-- ===== PART A: goes FIRST, ahead of the names: the tables' words, and 'selects' of the private methods out of them =====
/-- a private method of a class that the tables say can be made, by its rows of tables_1 -/
def lw_okq (q : MethodName × Nat) : Prop := (q.1.cls ≠ "java/lang/invoke/MethodHandle" ∧ q.1.cls ≠ "java/lang/invoke/VarHandle") ∧ Cond.instantiable q.1.cls q.2 ∈ tables_1 ∧ Cond.privateMethod q.1 ∈ tables_1 ∧ Cond.instanceMethod q.1 ∈ tables_1
theorem lw_p0 : lw_okq (⟨"DoorsForThree", "isShelf", "(I)Z"⟩, 10) := ⟨⟨by decide +kernel, by decide +kernel⟩, List.mem_of_getElem? (i := 23) (by decide +kernel), List.mem_of_getElem? (i := 406) (by decide +kernel), List.mem_of_getElem? (i := 407) (by decide +kernel)⟩
theorem lw_p1 : lw_okq (⟨"DoorsForThree", "doorComes", "(LDoorsForThree$Shelf;II)Z"⟩, 10) := ⟨⟨by decide +kernel, by decide +kernel⟩, List.mem_of_getElem? (i := 23) (by decide +kernel), List.mem_of_getElem? (i := 418) (by decide +kernel), List.mem_of_getElem? (i := 419) (by decide +kernel)⟩
theorem lw_p2 : lw_okq (⟨"DoorsForThree$Law", "readLines", "()Z"⟩, 10) := ⟨⟨by decide +kernel, by decide +kernel⟩, List.mem_of_getElem? (i := 81) (by decide +kernel), List.mem_of_getElem? (i := 480) (by decide +kernel), List.mem_of_getElem? (i := 481) (by decide +kernel)⟩
theorem lw_p3 : lw_okq (⟨"DoorsForThree$Law", "readLine", "()Z"⟩, 10) := ⟨⟨by decide +kernel, by decide +kernel⟩, List.mem_of_getElem? (i := 81) (by decide +kernel), List.mem_of_getElem? (i := 484) (by decide +kernel), List.mem_of_getElem? (i := 485) (by decide +kernel)⟩
theorem lw_p4 : lw_okq (⟨"DoorsForThree$Law", "readLevel", "(II)Z"⟩, 10) := ⟨⟨by decide +kernel, by decide +kernel⟩, List.mem_of_getElem? (i := 81) (by decide +kernel), List.mem_of_getElem? (i := 488) (by decide +kernel), List.mem_of_getElem? (i := 489) (by decide +kernel)⟩
theorem lw_p5 : lw_okq (⟨"DoorsForThree$Law", "readOperand", "(I)Z"⟩, 10) := ⟨⟨by decide +kernel, by decide +kernel⟩, List.mem_of_getElem? (i := 81) (by decide +kernel), List.mem_of_getElem? (i := 492) (by decide +kernel), List.mem_of_getElem? (i := 493) (by decide +kernel)⟩
theorem lw_p6 : lw_okq (⟨"DoorsForThree$Law", "pass", "(Ljava/lang/String;)I"⟩, 10) := ⟨⟨by decide +kernel, by decide +kernel⟩, List.mem_of_getElem? (i := 81) (by decide +kernel), List.mem_of_getElem? (i := 497) (by decide +kernel), List.mem_of_getElem? (i := 498) (by decide +kernel)⟩
theorem lw_p7 : lw_okq (⟨"DoorsForThree$Law", "draftStep", "(I)V"⟩, 10) := ⟨⟨by decide +kernel, by decide +kernel⟩, List.mem_of_getElem? (i := 81) (by decide +kernel), List.mem_of_getElem? (i := 587) (by decide +kernel), List.mem_of_getElem? (i := 588) (by decide +kernel)⟩
theorem lw_p8 : lw_okq (⟨"DoorsForThree$Law", "isDigitNext", "()Z"⟩, 10) := ⟨⟨by decide +kernel, by decide +kernel⟩, List.mem_of_getElem? (i := 81) (by decide +kernel), List.mem_of_getElem? (i := 591) (by decide +kernel), List.mem_of_getElem? (i := 592) (by decide +kernel)⟩
theorem lw_p9 : lw_okq (⟨"DoorsForThree$Law", "readNumber", "()V"⟩, 10) := ⟨⟨by decide +kernel, by decide +kernel⟩, List.mem_of_getElem? (i := 81) (by decide +kernel), List.mem_of_getElem? (i := 595) (by decide +kernel), List.mem_of_getElem? (i := 596) (by decide +kernel)⟩
theorem lw_p10 : lw_okq (⟨"DoorsForThree$Law", "pop", "()I"⟩, 10) := ⟨⟨by decide +kernel, by decide +kernel⟩, List.mem_of_getElem? (i := 81) (by decide +kernel), List.mem_of_getElem? (i := 632) (by decide +kernel), List.mem_of_getElem? (i := 633) (by decide +kernel)⟩
theorem lw_p11 : lw_okq (⟨"DoorsForThree$Law", "takeStep", "(I[I)V"⟩, 10) := ⟨⟨by decide +kernel, by decide +kernel⟩, List.mem_of_getElem? (i := 81) (by decide +kernel), List.mem_of_getElem? (i := 636) (by decide +kernel), List.mem_of_getElem? (i := 637) (by decide +kernel)⟩
theorem lw_p12 : lw_okq (⟨"DoorsForThree$Law", "push", "(I)V"⟩, 10) := ⟨⟨by decide +kernel, by decide +kernel⟩, List.mem_of_getElem? (i := 81) (by decide +kernel), List.mem_of_getElem? (i := 640) (by decide +kernel), List.mem_of_getElem? (i := 641) (by decide +kernel)⟩
theorem lw_p13 : lw_okq (⟨"DoorsForThree", "fresh", "()LDoorsForThree$Givings;"⟩, 10) := ⟨⟨by decide +kernel, by decide +kernel⟩, List.mem_of_getElem? (i := 23) (by decide +kernel), List.mem_of_getElem? (i := 655) (by decide +kernel), List.mem_of_getElem? (i := 656) (by decide +kernel)⟩
theorem lw_p14 : lw_okq (⟨"DoorsForThree$Givings", "orderDoors", "()V"⟩, 13) := ⟨⟨by decide +kernel, by decide +kernel⟩, List.mem_of_getElem? (i := 136) (by decide +kernel), List.mem_of_getElem? (i := 667) (by decide +kernel), List.mem_of_getElem? (i := 668) (by decide +kernel)⟩
theorem lw_p15 : lw_okq (⟨"DoorsForThree$Givings", "orderChildren", "()V"⟩, 13) := ⟨⟨by decide +kernel, by decide +kernel⟩, List.mem_of_getElem? (i := 136) (by decide +kernel), List.mem_of_getElem? (i := 672) (by decide +kernel), List.mem_of_getElem? (i := 673) (by decide +kernel)⟩
def lw_privs_1 : List (MethodName × Nat) := [(⟨"DoorsForThree", "isShelf", "(I)Z"⟩, 10), (⟨"DoorsForThree", "doorComes", "(LDoorsForThree$Shelf;II)Z"⟩, 10), (⟨"DoorsForThree$Law", "readLines", "()Z"⟩, 10), (⟨"DoorsForThree$Law", "readLine", "()Z"⟩, 10), (⟨"DoorsForThree$Law", "readLevel", "(II)Z"⟩, 10), (⟨"DoorsForThree$Law", "readOperand", "(I)Z"⟩, 10), (⟨"DoorsForThree$Law", "pass", "(Ljava/lang/String;)I"⟩, 10), (⟨"DoorsForThree$Law", "draftStep", "(I)V"⟩, 10), (⟨"DoorsForThree$Law", "isDigitNext", "()Z"⟩, 10), (⟨"DoorsForThree$Law", "readNumber", "()V"⟩, 10), (⟨"DoorsForThree$Law", "pop", "()I"⟩, 10), (⟨"DoorsForThree$Law", "takeStep", "(I[I)V"⟩, 10), (⟨"DoorsForThree$Law", "push", "(I)V"⟩, 10), (⟨"DoorsForThree", "fresh", "()LDoorsForThree$Givings;"⟩, 10), (⟨"DoorsForThree$Givings", "orderDoors", "()V"⟩, 13), (⟨"DoorsForThree$Givings", "orderChildren", "()V"⟩, 13)]
theorem lw_r1 : ∀ q ∈ lw_privs_1, lw_okq q := List.forall_mem_cons.mpr ⟨lw_p0, List.forall_mem_cons.mpr ⟨lw_p1, List.forall_mem_cons.mpr ⟨lw_p2, List.forall_mem_cons.mpr ⟨lw_p3, List.forall_mem_cons.mpr ⟨lw_p4, List.forall_mem_cons.mpr ⟨lw_p5, List.forall_mem_cons.mpr ⟨lw_p6, List.forall_mem_cons.mpr ⟨lw_p7, List.forall_mem_cons.mpr ⟨lw_p8, List.forall_mem_cons.mpr ⟨lw_p9, List.forall_mem_cons.mpr ⟨lw_p10, List.forall_mem_cons.mpr ⟨lw_p11, List.forall_mem_cons.mpr ⟨lw_p12, List.forall_mem_cons.mpr ⟨lw_p13, List.forall_mem_cons.mpr ⟨lw_p14, List.forall_mem_cons.mpr ⟨lw_p15, fun _ h => absurd h List.not_mem_nil⟩⟩⟩⟩⟩⟩⟩⟩⟩⟩⟩⟩⟩⟩⟩⟩
theorem lw_p16 : lw_okq (⟨"DoorsForThree$Givings", "giveBy", "(I)V"⟩, 13) := ⟨⟨by decide +kernel, by decide +kernel⟩, List.mem_of_getElem? (i := 136) (by decide +kernel), List.mem_of_getElem? (i := 690) (by decide +kernel), List.mem_of_getElem? (i := 691) (by decide +kernel)⟩
theorem lw_p17 : lw_okq (⟨"DoorsForThree$Givings", "giveOffered", "(II[I)I"⟩, 13) := ⟨⟨by decide +kernel, by decide +kernel⟩, List.mem_of_getElem? (i := 136) (by decide +kernel), List.mem_of_getElem? (i := 695) (by decide +kernel), List.mem_of_getElem? (i := 696) (by decide +kernel)⟩
theorem lw_p18 : lw_okq (⟨"DoorsForThree$Givings", "chosen", "(II[I)I"⟩, 13) := ⟨⟨by decide +kernel, by decide +kernel⟩, List.mem_of_getElem? (i := 136) (by decide +kernel), List.mem_of_getElem? (i := 699) (by decide +kernel), List.mem_of_getElem? (i := 700) (by decide +kernel)⟩
theorem lw_p19 : lw_okq (⟨"DoorsForThree$Givings", "mostWilling", "(I[I)I"⟩, 13) := ⟨⟨by decide +kernel, by decide +kernel⟩, List.mem_of_getElem? (i := 136) (by decide +kernel), List.mem_of_getElem? (i := 703) (by decide +kernel), List.mem_of_getElem? (i := 704) (by decide +kernel)⟩
theorem lw_p20 : lw_okq (⟨"DoorsForThree$Givings", "will", "(II[I)I"⟩, 13) := ⟨⟨by decide +kernel, by decide +kernel⟩, List.mem_of_getElem? (i := 136) (by decide +kernel), List.mem_of_getElem? (i := 707) (by decide +kernel), List.mem_of_getElem? (i := 708) (by decide +kernel)⟩
theorem lw_p21 : lw_okq (⟨"DoorsForThree", "isRuleAndChild", "(I)Z"⟩, 10) := ⟨⟨by decide +kernel, by decide +kernel⟩, List.mem_of_getElem? (i := 23) (by decide +kernel), List.mem_of_getElem? (i := 720) (by decide +kernel), List.mem_of_getElem? (i := 721) (by decide +kernel)⟩
theorem lw_p22 : lw_okq (⟨"DoorsForThree$Givings", "unfairOf", "([I)I"⟩, 13) := ⟨⟨by decide +kernel, by decide +kernel⟩, List.mem_of_getElem? (i := 136) (by decide +kernel), List.mem_of_getElem? (i := 736) (by decide +kernel), List.mem_of_getElem? (i := 737) (by decide +kernel)⟩
theorem lw_p23 : lw_okq (⟨"DoorsForThree$Givings", "worthTo", "(III)I"⟩, 13) := ⟨⟨by decide +kernel, by decide +kernel⟩, List.mem_of_getElem? (i := 136) (by decide +kernel), List.mem_of_getElem? (i := 750) (by decide +kernel), List.mem_of_getElem? (i := 751) (by decide +kernel)⟩
theorem lw_p24 : lw_okq (⟨"DoorsForThree$Fairest", "giveAllToFirst", "()V"⟩, 10) := ⟨⟨by decide +kernel, by decide +kernel⟩, List.mem_of_getElem? (i := 185) (by decide +kernel), List.mem_of_getElem? (i := 777) (by decide +kernel), List.mem_of_getElem? (i := 778) (by decide +kernel)⟩
theorem lw_p25 : lw_okq (⟨"DoorsForThree$Fairest", "howMany", "()I"⟩, 10) := ⟨⟨by decide +kernel, by decide +kernel⟩, List.mem_of_getElem? (i := 185) (by decide +kernel), List.mem_of_getElem? (i := 783) (by decide +kernel), List.mem_of_getElem? (i := 784) (by decide +kernel)⟩
theorem lw_p26 : lw_okq (⟨"DoorsForThree$Fairest", "weigh", "()V"⟩, 10) := ⟨⟨by decide +kernel, by decide +kernel⟩, List.mem_of_getElem? (i := 185) (by decide +kernel), List.mem_of_getElem? (i := 787) (by decide +kernel), List.mem_of_getElem? (i := 788) (by decide +kernel)⟩
theorem lw_p27 : lw_okq (⟨"DoorsForThree$Fairest", "goOn", "()V"⟩, 10) := ⟨⟨by decide +kernel, by decide +kernel⟩, List.mem_of_getElem? (i := 185) (by decide +kernel), List.mem_of_getElem? (i := 794) (by decide +kernel), List.mem_of_getElem? (i := 795) (by decide +kernel)⟩
theorem lw_p28 : lw_okq (⟨"DoorsForThree$Fairest", "handOver", "(II)V"⟩, 10) := ⟨⟨by decide +kernel, by decide +kernel⟩, List.mem_of_getElem? (i := 185) (by decide +kernel), List.mem_of_getElem? (i := 798) (by decide +kernel), List.mem_of_getElem? (i := 799) (by decide +kernel)⟩
theorem lw_p29 : lw_okq (⟨"DoorsForThree$Givings", "firstSwap", "()I"⟩, 13) := ⟨⟨by decide +kernel, by decide +kernel⟩, List.mem_of_getElem? (i := 136) (by decide +kernel), List.mem_of_getElem? (i := 819) (by decide +kernel), List.mem_of_getElem? (i := 820) (by decide +kernel)⟩
theorem lw_p30 : lw_okq (⟨"DoorsForThree$Givings", "pleasesBoth", "(II)Z"⟩, 13) := ⟨⟨by decide +kernel, by decide +kernel⟩, List.mem_of_getElem? (i := 136) (by decide +kernel), List.mem_of_getElem? (i := 823) (by decide +kernel), List.mem_of_getElem? (i := 824) (by decide +kernel)⟩
theorem lw_p31 : lw_okq (⟨"DoorsForThree$Givings", "sumTried", "()V"⟩, 13) := ⟨⟨by decide +kernel, by decide +kernel⟩, List.mem_of_getElem? (i := 136) (by decide +kernel), List.mem_of_getElem? (i := 836) (by decide +kernel), List.mem_of_getElem? (i := 837) (by decide +kernel)⟩
def lw_privs_2 : List (MethodName × Nat) := [(⟨"DoorsForThree$Givings", "giveBy", "(I)V"⟩, 13), (⟨"DoorsForThree$Givings", "giveOffered", "(II[I)I"⟩, 13), (⟨"DoorsForThree$Givings", "chosen", "(II[I)I"⟩, 13), (⟨"DoorsForThree$Givings", "mostWilling", "(I[I)I"⟩, 13), (⟨"DoorsForThree$Givings", "will", "(II[I)I"⟩, 13), (⟨"DoorsForThree", "isRuleAndChild", "(I)Z"⟩, 10), (⟨"DoorsForThree$Givings", "unfairOf", "([I)I"⟩, 13), (⟨"DoorsForThree$Givings", "worthTo", "(III)I"⟩, 13), (⟨"DoorsForThree$Fairest", "giveAllToFirst", "()V"⟩, 10), (⟨"DoorsForThree$Fairest", "howMany", "()I"⟩, 10), (⟨"DoorsForThree$Fairest", "weigh", "()V"⟩, 10), (⟨"DoorsForThree$Fairest", "goOn", "()V"⟩, 10), (⟨"DoorsForThree$Fairest", "handOver", "(II)V"⟩, 10), (⟨"DoorsForThree$Givings", "firstSwap", "()I"⟩, 13), (⟨"DoorsForThree$Givings", "pleasesBoth", "(II)Z"⟩, 13), (⟨"DoorsForThree$Givings", "sumTried", "()V"⟩, 13)]
theorem lw_r2 : ∀ q ∈ lw_privs_2, lw_okq q := List.forall_mem_cons.mpr ⟨lw_p16, List.forall_mem_cons.mpr ⟨lw_p17, List.forall_mem_cons.mpr ⟨lw_p18, List.forall_mem_cons.mpr ⟨lw_p19, List.forall_mem_cons.mpr ⟨lw_p20, List.forall_mem_cons.mpr ⟨lw_p21, List.forall_mem_cons.mpr ⟨lw_p22, List.forall_mem_cons.mpr ⟨lw_p23, List.forall_mem_cons.mpr ⟨lw_p24, List.forall_mem_cons.mpr ⟨lw_p25, List.forall_mem_cons.mpr ⟨lw_p26, List.forall_mem_cons.mpr ⟨lw_p27, List.forall_mem_cons.mpr ⟨lw_p28, List.forall_mem_cons.mpr ⟨lw_p29, List.forall_mem_cons.mpr ⟨lw_p30, List.forall_mem_cons.mpr ⟨lw_p31, fun _ h => absurd h List.not_mem_nil⟩⟩⟩⟩⟩⟩⟩⟩⟩⟩⟩⟩⟩⟩⟩⟩
theorem lw_p32 : lw_okq (⟨"DoorsForThree$Signs", "hasReason", "(III)Z"⟩, 2) := ⟨⟨by decide +kernel, by decide +kernel⟩, List.mem_of_getElem? (i := 226) (by decide +kernel), List.mem_of_getElem? (i := 927) (by decide +kernel), List.mem_of_getElem? (i := 928) (by decide +kernel)⟩
theorem lw_p33 : lw_okq (⟨"DoorsForThree$Signs", "isSo", "(III)Z"⟩, 2) := ⟨⟨by decide +kernel, by decide +kernel⟩, List.mem_of_getElem? (i := 226) (by decide +kernel), List.mem_of_getElem? (i := 958) (by decide +kernel), List.mem_of_getElem? (i := 959) (by decide +kernel)⟩
theorem lw_p34 : lw_okq (⟨"DoorsForThree$Givings", "drawOne", "(I)I"⟩, 13) := ⟨⟨by decide +kernel, by decide +kernel⟩, List.mem_of_getElem? (i := 136) (by decide +kernel), List.mem_of_getElem? (i := 996) (by decide +kernel), List.mem_of_getElem? (i := 997) (by decide +kernel)⟩
theorem lw_p35 : lw_okq (⟨"DoorsForThree$Givings", "hasMost", "(I)Z"⟩, 13) := ⟨⟨by decide +kernel, by decide +kernel⟩, List.mem_of_getElem? (i := 136) (by decide +kernel), List.mem_of_getElem? (i := 1002) (by decide +kernel), List.mem_of_getElem? (i := 1003) (by decide +kernel)⟩
theorem lw_p36 : lw_okq (⟨"DoorsForThree$Pictures", "opensOf", "(II)I"⟩, 4) := ⟨⟨by decide +kernel, by decide +kernel⟩, List.mem_of_getElem? (i := 289) (by decide +kernel), List.mem_of_getElem? (i := 1101) (by decide +kernel), List.mem_of_getElem? (i := 1102) (by decide +kernel)⟩
theorem lw_p37 : lw_okq (⟨"DoorsForThree$Pictures", "begins", "(I)V"⟩, 4) := ⟨⟨by decide +kernel, by decide +kernel⟩, List.mem_of_getElem? (i := 289) (by decide +kernel), List.mem_of_getElem? (i := 1114) (by decide +kernel), List.mem_of_getElem? (i := 1115) (by decide +kernel)⟩
theorem lw_p38 : lw_okq (⟨"DoorsForThree$Pictures", "givesOf", "(II)I"⟩, 4) := ⟨⟨by decide +kernel, by decide +kernel⟩, List.mem_of_getElem? (i := 289) (by decide +kernel), List.mem_of_getElem? (i := 1118) (by decide +kernel), List.mem_of_getElem? (i := 1119) (by decide +kernel)⟩
theorem lw_p39 : lw_okq (⟨"DoorsForThree$Pictures", "waitsOf", "(II)I"⟩, 4) := ⟨⟨by decide +kernel, by decide +kernel⟩, List.mem_of_getElem? (i := 289) (by decide +kernel), List.mem_of_getElem? (i := 1122) (by decide +kernel), List.mem_of_getElem? (i := 1123) (by decide +kernel)⟩
theorem lw_p40 : lw_okq (⟨"DoorsForThree$Pictures", "tellsOf", "(II)I"⟩, 4) := ⟨⟨by decide +kernel, by decide +kernel⟩, List.mem_of_getElem? (i := 289) (by decide +kernel), List.mem_of_getElem? (i := 1126) (by decide +kernel), List.mem_of_getElem? (i := 1127) (by decide +kernel)⟩
theorem lw_p41 : lw_okq (⟨"DoorsForThree$Shelf", "lowest", "(J)J"⟩, 5) := ⟨⟨by decide +kernel, by decide +kernel⟩, List.mem_of_getElem? (i := 311) (by decide +kernel), List.mem_of_getElem? (i := 1178) (by decide +kernel), List.mem_of_getElem? (i := 1179) (by decide +kernel)⟩
theorem lw_p42 : lw_okq (⟨"DoorsForThreeModel", "newDoor", "(III)I"⟩, 52) := ⟨⟨by decide +kernel, by decide +kernel⟩, List.mem_of_getElem? (i := 1212) (by decide +kernel), List.mem_of_getElem? (i := 1385) (by decide +kernel), List.mem_of_getElem? (i := 1386) (by decide +kernel)⟩
theorem lw_p43 : lw_okq (⟨"DoorsForThreeModel", "isOf", "(II)Z"⟩, 52) := ⟨⟨by decide +kernel, by decide +kernel⟩, List.mem_of_getElem? (i := 1212) (by decide +kernel), List.mem_of_getElem? (i := 1405) (by decide +kernel), List.mem_of_getElem? (i := 1406) (by decide +kernel)⟩
theorem lw_p44 : lw_okq (⟨"DoorsForThreeModel", "isDoor", "(I)Z"⟩, 52) := ⟨⟨by decide +kernel, by decide +kernel⟩, List.mem_of_getElem? (i := 1212) (by decide +kernel), List.mem_of_getElem? (i := 1409) (by decide +kernel), List.mem_of_getElem? (i := 1410) (by decide +kernel)⟩
theorem lw_p45 : lw_okq (⟨"DoorsForThreeModel", "isChild", "(I)Z"⟩, 52) := ⟨⟨by decide +kernel, by decide +kernel⟩, List.mem_of_getElem? (i := 1212) (by decide +kernel), List.mem_of_getElem? (i := 1413) (by decide +kernel), List.mem_of_getElem? (i := 1414) (by decide +kernel)⟩
theorem lw_p46 : lw_okq (⟨"DoorsForThreeModel", "get", "(II)I"⟩, 52) := ⟨⟨by decide +kernel, by decide +kernel⟩, List.mem_of_getElem? (i := 1212) (by decide +kernel), List.mem_of_getElem? (i := 1420) (by decide +kernel), List.mem_of_getElem? (i := 1421) (by decide +kernel)⟩
theorem lw_p47 : lw_okq (⟨"DoorsForThreeModel", "becomes", "(III)V"⟩, 52) := ⟨⟨by decide +kernel, by decide +kernel⟩, List.mem_of_getElem? (i := 1212) (by decide +kernel), List.mem_of_getElem? (i := 1424) (by decide +kernel), List.mem_of_getElem? (i := 1425) (by decide +kernel)⟩
def lw_privs_3 : List (MethodName × Nat) := [(⟨"DoorsForThree$Signs", "hasReason", "(III)Z"⟩, 2), (⟨"DoorsForThree$Signs", "isSo", "(III)Z"⟩, 2), (⟨"DoorsForThree$Givings", "drawOne", "(I)I"⟩, 13), (⟨"DoorsForThree$Givings", "hasMost", "(I)Z"⟩, 13), (⟨"DoorsForThree$Pictures", "opensOf", "(II)I"⟩, 4), (⟨"DoorsForThree$Pictures", "begins", "(I)V"⟩, 4), (⟨"DoorsForThree$Pictures", "givesOf", "(II)I"⟩, 4), (⟨"DoorsForThree$Pictures", "waitsOf", "(II)I"⟩, 4), (⟨"DoorsForThree$Pictures", "tellsOf", "(II)I"⟩, 4), (⟨"DoorsForThree$Shelf", "lowest", "(J)J"⟩, 5), (⟨"DoorsForThreeModel", "newDoor", "(III)I"⟩, 52), (⟨"DoorsForThreeModel", "isOf", "(II)Z"⟩, 52), (⟨"DoorsForThreeModel", "isDoor", "(I)Z"⟩, 52), (⟨"DoorsForThreeModel", "isChild", "(I)Z"⟩, 52), (⟨"DoorsForThreeModel", "get", "(II)I"⟩, 52), (⟨"DoorsForThreeModel", "becomes", "(III)V"⟩, 52)]
theorem lw_r3 : ∀ q ∈ lw_privs_3, lw_okq q := List.forall_mem_cons.mpr ⟨lw_p32, List.forall_mem_cons.mpr ⟨lw_p33, List.forall_mem_cons.mpr ⟨lw_p34, List.forall_mem_cons.mpr ⟨lw_p35, List.forall_mem_cons.mpr ⟨lw_p36, List.forall_mem_cons.mpr ⟨lw_p37, List.forall_mem_cons.mpr ⟨lw_p38, List.forall_mem_cons.mpr ⟨lw_p39, List.forall_mem_cons.mpr ⟨lw_p40, List.forall_mem_cons.mpr ⟨lw_p41, List.forall_mem_cons.mpr ⟨lw_p42, List.forall_mem_cons.mpr ⟨lw_p43, List.forall_mem_cons.mpr ⟨lw_p44, List.forall_mem_cons.mpr ⟨lw_p45, List.forall_mem_cons.mpr ⟨lw_p46, List.forall_mem_cons.mpr ⟨lw_p47, fun _ h => absurd h List.not_mem_nil⟩⟩⟩⟩⟩⟩⟩⟩⟩⟩⟩⟩⟩⟩⟩⟩
theorem lw_p48 : lw_okq (⟨"DoorsForThreeModel", "isLine", "()Z"⟩, 52) := ⟨⟨by decide +kernel, by decide +kernel⟩, List.mem_of_getElem? (i := 1212) (by decide +kernel), List.mem_of_getElem? (i := 1448) (by decide +kernel), List.mem_of_getElem? (i := 1449) (by decide +kernel)⟩
theorem lw_p49 : lw_okq (⟨"DoorsForThreeModel", "isE", "()Z"⟩, 52) := ⟨⟨by decide +kernel, by decide +kernel⟩, List.mem_of_getElem? (i := 1212) (by decide +kernel), List.mem_of_getElem? (i := 1452) (by decide +kernel), List.mem_of_getElem? (i := 1453) (by decide +kernel)⟩
theorem lw_p50 : lw_okq (⟨"DoorsForThreeModel", "isA", "()Z"⟩, 52) := ⟨⟨by decide +kernel, by decide +kernel⟩, List.mem_of_getElem? (i := 1212) (by decide +kernel), List.mem_of_getElem? (i := 1456) (by decide +kernel), List.mem_of_getElem? (i := 1457) (by decide +kernel)⟩
theorem lw_p51 : lw_okq (⟨"DoorsForThreeModel", "isB", "()Z"⟩, 52) := ⟨⟨by decide +kernel, by decide +kernel⟩, List.mem_of_getElem? (i := 1212) (by decide +kernel), List.mem_of_getElem? (i := 1460) (by decide +kernel), List.mem_of_getElem? (i := 1461) (by decide +kernel)⟩
theorem lw_p52 : lw_okq (⟨"DoorsForThreeModel", "isS", "()Z"⟩, 52) := ⟨⟨by decide +kernel, by decide +kernel⟩, List.mem_of_getElem? (i := 1212) (by decide +kernel), List.mem_of_getElem? (i := 1464) (by decide +kernel), List.mem_of_getElem? (i := 1465) (by decide +kernel)⟩
theorem lw_p53 : lw_okq (⟨"DoorsForThreeModel", "isP", "()Z"⟩, 52) := ⟨⟨by decide +kernel, by decide +kernel⟩, List.mem_of_getElem? (i := 1212) (by decide +kernel), List.mem_of_getElem? (i := 1468) (by decide +kernel), List.mem_of_getElem? (i := 1469) (by decide +kernel)⟩
theorem lw_p54 : lw_okq (⟨"DoorsForThreeModel", "isO", "()Z"⟩, 52) := ⟨⟨by decide +kernel, by decide +kernel⟩, List.mem_of_getElem? (i := 1212) (by decide +kernel), List.mem_of_getElem? (i := 1472) (by decide +kernel), List.mem_of_getElem? (i := 1473) (by decide +kernel)⟩
theorem lw_p55 : lw_okq (⟨"DoorsForThreeModel", "isDigit", "()Z"⟩, 52) := ⟨⟨by decide +kernel, by decide +kernel⟩, List.mem_of_getElem? (i := 1212) (by decide +kernel), List.mem_of_getElem? (i := 1476) (by decide +kernel), List.mem_of_getElem? (i := 1477) (by decide +kernel)⟩
theorem lw_p56 : lw_okq (⟨"DoorsForThreeModel", "sign", "()I"⟩, 52) := ⟨⟨by decide +kernel, by decide +kernel⟩, List.mem_of_getElem? (i := 1212) (by decide +kernel), List.mem_of_getElem? (i := 1480) (by decide +kernel), List.mem_of_getElem? (i := 1481) (by decide +kernel)⟩
theorem lw_p57 : lw_okq (⟨"DoorsForThreeModel", "codes", "(I)Z"⟩, 52) := ⟨⟨by decide +kernel, by decide +kernel⟩, List.mem_of_getElem? (i := 1212) (by decide +kernel), List.mem_of_getElem? (i := 1484) (by decide +kernel), List.mem_of_getElem? (i := 1485) (by decide +kernel)⟩
theorem lw_p58 : lw_okq (⟨"DoorsForThreeModel", "is", "(I)Z"⟩, 52) := ⟨⟨by decide +kernel, by decide +kernel⟩, List.mem_of_getElem? (i := 1212) (by decide +kernel), List.mem_of_getElem? (i := 1491) (by decide +kernel), List.mem_of_getElem? (i := 1492) (by decide +kernel)⟩
theorem lw_p59 : lw_okq (⟨"DoorsForThreeModel", "worthOf", "(III)I"⟩, 52) := ⟨⟨by decide +kernel, by decide +kernel⟩, List.mem_of_getElem? (i := 1212) (by decide +kernel), List.mem_of_getElem? (i := 1499) (by decide +kernel), List.mem_of_getElem? (i := 1500) (by decide +kernel)⟩
theorem lw_p60 : lw_okq (⟨"DoorsForThreeModel", "worked", "(II)I"⟩, 52) := ⟨⟨by decide +kernel, by decide +kernel⟩, List.mem_of_getElem? (i := 1212) (by decide +kernel), List.mem_of_getElem? (i := 1504) (by decide +kernel), List.mem_of_getElem? (i := 1505) (by decide +kernel)⟩
theorem lw_p61 : lw_okq (⟨"DoorsForThreeModel", "gives", "(I)V"⟩, 52) := ⟨⟨by decide +kernel, by decide +kernel⟩, List.mem_of_getElem? (i := 1212) (by decide +kernel), List.mem_of_getElem? (i := 1519) (by decide +kernel), List.mem_of_getElem? (i := 1520) (by decide +kernel)⟩
theorem lw_p62 : lw_okq (⟨"DoorsForThreeModel", "ages", "()V"⟩, 52) := ⟨⟨by decide +kernel, by decide +kernel⟩, List.mem_of_getElem? (i := 1212) (by decide +kernel), List.mem_of_getElem? (i := 1523) (by decide +kernel), List.mem_of_getElem? (i := 1524) (by decide +kernel)⟩
theorem lw_p63 : lw_okq (⟨"DoorsForThreeModel", "goes", "(III)V"⟩, 52) := ⟨⟨by decide +kernel, by decide +kernel⟩, List.mem_of_getElem? (i := 1212) (by decide +kernel), List.mem_of_getElem? (i := 1527) (by decide +kernel), List.mem_of_getElem? (i := 1528) (by decide +kernel)⟩
def lw_privs_4 : List (MethodName × Nat) := [(⟨"DoorsForThreeModel", "isLine", "()Z"⟩, 52), (⟨"DoorsForThreeModel", "isE", "()Z"⟩, 52), (⟨"DoorsForThreeModel", "isA", "()Z"⟩, 52), (⟨"DoorsForThreeModel", "isB", "()Z"⟩, 52), (⟨"DoorsForThreeModel", "isS", "()Z"⟩, 52), (⟨"DoorsForThreeModel", "isP", "()Z"⟩, 52), (⟨"DoorsForThreeModel", "isO", "()Z"⟩, 52), (⟨"DoorsForThreeModel", "isDigit", "()Z"⟩, 52), (⟨"DoorsForThreeModel", "sign", "()I"⟩, 52), (⟨"DoorsForThreeModel", "codes", "(I)Z"⟩, 52), (⟨"DoorsForThreeModel", "is", "(I)Z"⟩, 52), (⟨"DoorsForThreeModel", "worthOf", "(III)I"⟩, 52), (⟨"DoorsForThreeModel", "worked", "(II)I"⟩, 52), (⟨"DoorsForThreeModel", "gives", "(I)V"⟩, 52), (⟨"DoorsForThreeModel", "ages", "()V"⟩, 52), (⟨"DoorsForThreeModel", "goes", "(III)V"⟩, 52)]
theorem lw_r4 : ∀ q ∈ lw_privs_4, lw_okq q := List.forall_mem_cons.mpr ⟨lw_p48, List.forall_mem_cons.mpr ⟨lw_p49, List.forall_mem_cons.mpr ⟨lw_p50, List.forall_mem_cons.mpr ⟨lw_p51, List.forall_mem_cons.mpr ⟨lw_p52, List.forall_mem_cons.mpr ⟨lw_p53, List.forall_mem_cons.mpr ⟨lw_p54, List.forall_mem_cons.mpr ⟨lw_p55, List.forall_mem_cons.mpr ⟨lw_p56, List.forall_mem_cons.mpr ⟨lw_p57, List.forall_mem_cons.mpr ⟨lw_p58, List.forall_mem_cons.mpr ⟨lw_p59, List.forall_mem_cons.mpr ⟨lw_p60, List.forall_mem_cons.mpr ⟨lw_p61, List.forall_mem_cons.mpr ⟨lw_p62, List.forall_mem_cons.mpr ⟨lw_p63, fun _ h => absurd h List.not_mem_nil⟩⟩⟩⟩⟩⟩⟩⟩⟩⟩⟩⟩⟩⟩⟩⟩
theorem lw_p64 : lw_okq (⟨"DoorsForThreeModel", "orders", "(II)V"⟩, 52) := ⟨⟨by decide +kernel, by decide +kernel⟩, List.mem_of_getElem? (i := 1212) (by decide +kernel), List.mem_of_getElem? (i := 1531) (by decide +kernel), List.mem_of_getElem? (i := 1532) (by decide +kernel)⟩
theorem lw_p65 : lw_okq (⟨"DoorsForThreeModel", "goesTo", "(II)I"⟩, 52) := ⟨⟨by decide +kernel, by decide +kernel⟩, List.mem_of_getElem? (i := 1212) (by decide +kernel), List.mem_of_getElem? (i := 1535) (by decide +kernel), List.mem_of_getElem? (i := 1536) (by decide +kernel)⟩
theorem lw_p66 : lw_okq (⟨"DoorsForThreeModel", "eaten", "(II)I"⟩, 52) := ⟨⟨by decide +kernel, by decide +kernel⟩, List.mem_of_getElem? (i := 1212) (by decide +kernel), List.mem_of_getElem? (i := 1539) (by decide +kernel), List.mem_of_getElem? (i := 1540) (by decide +kernel)⟩
theorem lw_p67 : lw_okq (⟨"DoorsForThreeModel", "late", "(II)I"⟩, 52) := ⟨⟨by decide +kernel, by decide +kernel⟩, List.mem_of_getElem? (i := 1212) (by decide +kernel), List.mem_of_getElem? (i := 1543) (by decide +kernel), List.mem_of_getElem? (i := 1544) (by decide +kernel)⟩
theorem lw_p68 : lw_okq (⟨"DoorsForThreeModel", "isAway", "(II)Z"⟩, 52) := ⟨⟨by decide +kernel, by decide +kernel⟩, List.mem_of_getElem? (i := 1212) (by decide +kernel), List.mem_of_getElem? (i := 1547) (by decide +kernel), List.mem_of_getElem? (i := 1548) (by decide +kernel)⟩
theorem lw_p69 : lw_okq (⟨"DoorsForThreeModel", "isOne", "(I)Z"⟩, 52) := ⟨⟨by decide +kernel, by decide +kernel⟩, List.mem_of_getElem? (i := 1212) (by decide +kernel), List.mem_of_getElem? (i := 1555) (by decide +kernel), List.mem_of_getElem? (i := 1556) (by decide +kernel)⟩
theorem lw_p70 : lw_okq (⟨"DoorsForThreeModel", "unfair", "()I"⟩, 52) := ⟨⟨by decide +kernel, by decide +kernel⟩, List.mem_of_getElem? (i := 1212) (by decide +kernel), List.mem_of_getElem? (i := 1563) (by decide +kernel), List.mem_of_getElem? (i := 1564) (by decide +kernel)⟩
theorem lw_p71 : lw_okq (⟨"DoorsForThreeModel", "together", "()I"⟩, 52) := ⟨⟨by decide +kernel, by decide +kernel⟩, List.mem_of_getElem? (i := 1212) (by decide +kernel), List.mem_of_getElem? (i := 1567) (by decide +kernel), List.mem_of_getElem? (i := 1568) (by decide +kernel)⟩
theorem lw_p72 : lw_okq (⟨"DoorsForThreeModel", "envy", "()I"⟩, 52) := ⟨⟨by decide +kernel, by decide +kernel⟩, List.mem_of_getElem? (i := 1212) (by decide +kernel), List.mem_of_getElem? (i := 1571) (by decide +kernel), List.mem_of_getElem? (i := 1572) (by decide +kernel)⟩
theorem lw_p73 : lw_okq (⟨"DoorsForThreeModel", "worthTo", "(II)I"⟩, 52) := ⟨⟨by decide +kernel, by decide +kernel⟩, List.mem_of_getElem? (i := 1212) (by decide +kernel), List.mem_of_getElem? (i := 1575) (by decide +kernel), List.mem_of_getElem? (i := 1576) (by decide +kernel)⟩
theorem lw_p74 : lw_okq (⟨"DoorsForThreeModel", "isMuch", "()Z"⟩, 52) := ⟨⟨by decide +kernel, by decide +kernel⟩, List.mem_of_getElem? (i := 1212) (by decide +kernel), List.mem_of_getElem? (i := 1587) (by decide +kernel), List.mem_of_getElem? (i := 1588) (by decide +kernel)⟩
theorem lw_p75 : lw_okq (⟨"DoorsForThreeModel", "sums", "()V"⟩, 52) := ⟨⟨by decide +kernel, by decide +kernel⟩, List.mem_of_getElem? (i := 1212) (by decide +kernel), List.mem_of_getElem? (i := 1591) (by decide +kernel), List.mem_of_getElem? (i := 1592) (by decide +kernel)⟩
theorem lw_p76 : lw_okq (⟨"DoorsForThreeModel", "nextGiving", "()Z"⟩, 52) := ⟨⟨by decide +kernel, by decide +kernel⟩, List.mem_of_getElem? (i := 1212) (by decide +kernel), List.mem_of_getElem? (i := 1595) (by decide +kernel), List.mem_of_getElem? (i := 1596) (by decide +kernel)⟩
theorem lw_p77 : lw_okq (⟨"DoorsForThreeModel", "firstSwap", "()I"⟩, 52) := ⟨⟨by decide +kernel, by decide +kernel⟩, List.mem_of_getElem? (i := 1212) (by decide +kernel), List.mem_of_getElem? (i := 1607) (by decide +kernel), List.mem_of_getElem? (i := 1608) (by decide +kernel)⟩
theorem lw_p78 : lw_okq (⟨"DoorsForThreeModel", "bothMore", "(II)Z"⟩, 52) := ⟨⟨by decide +kernel, by decide +kernel⟩, List.mem_of_getElem? (i := 1212) (by decide +kernel), List.mem_of_getElem? (i := 1611) (by decide +kernel), List.mem_of_getElem? (i := 1612) (by decide +kernel)⟩
theorem lw_p79 : lw_okq (⟨"DoorsForThreeModel", "gathered", "(II)I"⟩, 52) := ⟨⟨by decide +kernel, by decide +kernel⟩, List.mem_of_getElem? (i := 1212) (by decide +kernel), List.mem_of_getElem? (i := 1631) (by decide +kernel), List.mem_of_getElem? (i := 1632) (by decide +kernel)⟩
def lw_privs_5 : List (MethodName × Nat) := [(⟨"DoorsForThreeModel", "orders", "(II)V"⟩, 52), (⟨"DoorsForThreeModel", "goesTo", "(II)I"⟩, 52), (⟨"DoorsForThreeModel", "eaten", "(II)I"⟩, 52), (⟨"DoorsForThreeModel", "late", "(II)I"⟩, 52), (⟨"DoorsForThreeModel", "isAway", "(II)Z"⟩, 52), (⟨"DoorsForThreeModel", "isOne", "(I)Z"⟩, 52), (⟨"DoorsForThreeModel", "unfair", "()I"⟩, 52), (⟨"DoorsForThreeModel", "together", "()I"⟩, 52), (⟨"DoorsForThreeModel", "envy", "()I"⟩, 52), (⟨"DoorsForThreeModel", "worthTo", "(II)I"⟩, 52), (⟨"DoorsForThreeModel", "isMuch", "()Z"⟩, 52), (⟨"DoorsForThreeModel", "sums", "()V"⟩, 52), (⟨"DoorsForThreeModel", "nextGiving", "()Z"⟩, 52), (⟨"DoorsForThreeModel", "firstSwap", "()I"⟩, 52), (⟨"DoorsForThreeModel", "bothMore", "(II)Z"⟩, 52), (⟨"DoorsForThreeModel", "gathered", "(II)I"⟩, 52)]
theorem lw_r5 : ∀ q ∈ lw_privs_5, lw_okq q := List.forall_mem_cons.mpr ⟨lw_p64, List.forall_mem_cons.mpr ⟨lw_p65, List.forall_mem_cons.mpr ⟨lw_p66, List.forall_mem_cons.mpr ⟨lw_p67, List.forall_mem_cons.mpr ⟨lw_p68, List.forall_mem_cons.mpr ⟨lw_p69, List.forall_mem_cons.mpr ⟨lw_p70, List.forall_mem_cons.mpr ⟨lw_p71, List.forall_mem_cons.mpr ⟨lw_p72, List.forall_mem_cons.mpr ⟨lw_p73, List.forall_mem_cons.mpr ⟨lw_p74, List.forall_mem_cons.mpr ⟨lw_p75, List.forall_mem_cons.mpr ⟨lw_p76, List.forall_mem_cons.mpr ⟨lw_p77, List.forall_mem_cons.mpr ⟨lw_p78, List.forall_mem_cons.mpr ⟨lw_p79, fun _ h => absurd h List.not_mem_nil⟩⟩⟩⟩⟩⟩⟩⟩⟩⟩⟩⟩⟩⟩⟩⟩
theorem lw_p80 : lw_okq (⟨"DoorsForThreeModel", "noRow", "(I)I"⟩, 52) := ⟨⟨by decide +kernel, by decide +kernel⟩, List.mem_of_getElem? (i := 1212) (by decide +kernel), List.mem_of_getElem? (i := 1643) (by decide +kernel), List.mem_of_getElem? (i := 1644) (by decide +kernel)⟩
theorem lw_p81 : lw_okq (⟨"DoorsForThreeModel", "early", "(II)I"⟩, 52) := ⟨⟨by decide +kernel, by decide +kernel⟩, List.mem_of_getElem? (i := 1212) (by decide +kernel), List.mem_of_getElem? (i := 1647) (by decide +kernel), List.mem_of_getElem? (i := 1648) (by decide +kernel)⟩
theorem lw_p82 : lw_okq (⟨"DoorsForThreeModel", "toldAt", "(II)I"⟩, 52) := ⟨⟨by decide +kernel, by decide +kernel⟩, List.mem_of_getElem? (i := 1212) (by decide +kernel), List.mem_of_getElem? (i := 1651) (by decide +kernel), List.mem_of_getElem? (i := 1652) (by decide +kernel)⟩
theorem lw_p83 : lw_okq (⟨"DoorsForThreeModel", "couldBe", "(II)I"⟩, 52) := ⟨⟨by decide +kernel, by decide +kernel⟩, List.mem_of_getElem? (i := 1212) (by decide +kernel), List.mem_of_getElem? (i := 1656) (by decide +kernel), List.mem_of_getElem? (i := 1657) (by decide +kernel)⟩
theorem lw_p84 : lw_okq (⟨"DoorsForThreeModel", "wrong", "(II)I"⟩, 52) := ⟨⟨by decide +kernel, by decide +kernel⟩, List.mem_of_getElem? (i := 1212) (by decide +kernel), List.mem_of_getElem? (i := 1675) (by decide +kernel), List.mem_of_getElem? (i := 1676) (by decide +kernel)⟩
theorem lw_p85 : lw_okq (⟨"DoorsForThreeModel", "opensBy", "(III)I"⟩, 52) := ⟨⟨by decide +kernel, by decide +kernel⟩, List.mem_of_getElem? (i := 1212) (by decide +kernel), List.mem_of_getElem? (i := 1728) (by decide +kernel), List.mem_of_getElem? (i := 1729) (by decide +kernel)⟩
theorem lw_p86 : lw_okq (⟨"DoorsForThreeModel", "ran", "(I)V"⟩, 52) := ⟨⟨by decide +kernel, by decide +kernel⟩, List.mem_of_getElem? (i := 1212) (by decide +kernel), List.mem_of_getElem? (i := 1732) (by decide +kernel), List.mem_of_getElem? (i := 1733) (by decide +kernel)⟩
theorem lw_p87 : lw_okq (⟨"DoorsForThreeModel", "givesBy", "(III)I"⟩, 52) := ⟨⟨by decide +kernel, by decide +kernel⟩, List.mem_of_getElem? (i := 1212) (by decide +kernel), List.mem_of_getElem? (i := 1739) (by decide +kernel), List.mem_of_getElem? (i := 1740) (by decide +kernel)⟩
theorem lw_p88 : lw_okq (⟨"DoorsForThreeModel", "waitsBy", "(III)I"⟩, 52) := ⟨⟨by decide +kernel, by decide +kernel⟩, List.mem_of_getElem? (i := 1212) (by decide +kernel), List.mem_of_getElem? (i := 1743) (by decide +kernel), List.mem_of_getElem? (i := 1744) (by decide +kernel)⟩
theorem lw_p89 : lw_okq (⟨"DoorsForThreeModel", "tells", "(III)I"⟩, 52) := ⟨⟨by decide +kernel, by decide +kernel⟩, List.mem_of_getElem? (i := 1212) (by decide +kernel), List.mem_of_getElem? (i := 1747) (by decide +kernel), List.mem_of_getElem? (i := 1748) (by decide +kernel)⟩
theorem lw_p90 : lw_okq (⟨"DoorsForThreeModel", "isRow", "(I)Z"⟩, 52) := ⟨⟨by decide +kernel, by decide +kernel⟩, List.mem_of_getElem? (i := 1212) (by decide +kernel), List.mem_of_getElem? (i := 1767) (by decide +kernel), List.mem_of_getElem? (i := 1768) (by decide +kernel)⟩
def lw_privs_6 : List (MethodName × Nat) := [(⟨"DoorsForThreeModel", "noRow", "(I)I"⟩, 52), (⟨"DoorsForThreeModel", "early", "(II)I"⟩, 52), (⟨"DoorsForThreeModel", "toldAt", "(II)I"⟩, 52), (⟨"DoorsForThreeModel", "couldBe", "(II)I"⟩, 52), (⟨"DoorsForThreeModel", "wrong", "(II)I"⟩, 52), (⟨"DoorsForThreeModel", "opensBy", "(III)I"⟩, 52), (⟨"DoorsForThreeModel", "ran", "(I)V"⟩, 52), (⟨"DoorsForThreeModel", "givesBy", "(III)I"⟩, 52), (⟨"DoorsForThreeModel", "waitsBy", "(III)I"⟩, 52), (⟨"DoorsForThreeModel", "tells", "(III)I"⟩, 52), (⟨"DoorsForThreeModel", "isRow", "(I)Z"⟩, 52)]
theorem lw_r6 : ∀ q ∈ lw_privs_6, lw_okq q := List.forall_mem_cons.mpr ⟨lw_p80, List.forall_mem_cons.mpr ⟨lw_p81, List.forall_mem_cons.mpr ⟨lw_p82, List.forall_mem_cons.mpr ⟨lw_p83, List.forall_mem_cons.mpr ⟨lw_p84, List.forall_mem_cons.mpr ⟨lw_p85, List.forall_mem_cons.mpr ⟨lw_p86, List.forall_mem_cons.mpr ⟨lw_p87, List.forall_mem_cons.mpr ⟨lw_p88, List.forall_mem_cons.mpr ⟨lw_p89, List.forall_mem_cons.mpr ⟨lw_p90, fun _ h => absurd h List.not_mem_nil⟩⟩⟩⟩⟩⟩⟩⟩⟩⟩⟩
def lw_privs : List (MethodName × Nat) := lw_privs_1 ++ (lw_privs_2 ++ (lw_privs_3 ++ (lw_privs_4 ++ (lw_privs_5 ++ (lw_privs_6)))))
def lw_tbl : List Cond := k2_sels lw_privs ++ tables_1
theorem lw_privs_ok : ∀ q ∈ lw_privs, lw_okq q := by
  show ∀ q ∈ lw_privs_1 ++ (lw_privs_2 ++ (lw_privs_3 ++ (lw_privs_4 ++ (lw_privs_5 ++ (lw_privs_6))))), lw_okq q
  exact List.forall_mem_append.mpr ⟨lw_r1, List.forall_mem_append.mpr ⟨lw_r2, List.forall_mem_append.mpr ⟨lw_r3, List.forall_mem_append.mpr ⟨lw_r4, List.forall_mem_append.mpr ⟨lw_r5, lw_r6⟩⟩⟩⟩⟩
end
section
/-! names: lines out of claim/NAMES.whole.lean.txt -/
def RX0 : String := "DoorsForThree$Calendar"
def TX0 : u_T := fun k => match k with
  | 0 => ("DoorsForThree$Calendar", "numbers", "[[I", true)
  | 1 => ("DoorsForThree$Calendar", "doors", "I", false)
  | 2 => ("DoorsForThree$Calendar", "children", "I", false)
  | _ => ("DoorsForThree$Calendar", "version", "I", false)
def tyX0 : Nat → FieldType := fun k => match k with
  | 0 => .array (.array .int)
  | 1 => .int
  | 2 => .int
  | _ => .int
abbrev wsX00 : List Cond := u_ws RX0 TX0 4
theorem nmX0 : ∀ a, a < 4 → ∀ b, b < 4 → a ≠ b → (TX0 a).2.1 ≠ (TX0 b).2.1 := by decide +kernel
theorem tyX0_ok : ∀ k, k < 4 → parseFieldDescriptor (TX0 k).2.2.1 = some (tyX0 k) := by decide +kernel
abbrev cX0_init : ByteArray := prog_2_method_1_code
def yX0_init : MethodName := ⟨RX0, "<init>", "()V"⟩
abbrev cX0_hasDoor : ByteArray := prog_2_method_2_code
def yX0_hasDoor : MethodName := ⟨RX0, "hasDoor", "(I)Z"⟩
abbrev cX0_hasChild : ByteArray := prog_2_method_3_code
def yX0_hasChild : MethodName := ⟨RX0, "hasChild", "(I)Z"⟩
abbrev cX0_has : ByteArray := prog_2_method_4_code
def yX0_has : MethodName := ⟨RX0, "has", "(II)Z"⟩
abbrev cX0_fits : ByteArray := prog_2_method_5_code
def yX0_fits : MethodName := ⟨RX0, "fits", "(II)Z"⟩
abbrev cX0_get : ByteArray := prog_2_method_6_code
def yX0_get : MethodName := ⟨RX0, "get", "(II)I"⟩
abbrev cX0_set : ByteArray := prog_2_method_7_code
def yX0_set : MethodName := ⟨RX0, "set", "(III)V"⟩
abbrev cX0_addDoor : ByteArray := prog_2_method_8_code
def yX0_addDoor : MethodName := ⟨RX0, "addDoor", "(III)Z"⟩
abbrev cX0_addChild : ByteArray := prog_2_method_9_code
def yX0_addChild : MethodName := ⟨RX0, "addChild", "(II)Z"⟩
abbrev cX0_isAway : ByteArray := prog_2_method_10_code
def yX0_isAway : MethodName := ⟨RX0, "isAway", "(II)Z"⟩
abbrev cX0_late : ByteArray := prog_2_method_11_code
def yX0_late : MethodName := ⟨RX0, "late", "(II)I"⟩
abbrev cX0_doorsAway : ByteArray := prog_2_method_12_code
def yX0_doorsAway : MethodName := ⟨RX0, "doorsAway", "(I)I"⟩
abbrev cX0_holdsOutTill : ByteArray := prog_2_method_13_code
def yX0_holdsOutTill : MethodName := ⟨RX0, "holdsOutTill", "(I)I"⟩
def RX1 : String := "DoorsForThree$Changes"
def TX1 : u_T := fun k => match k with
  | 0 => ("DoorsForThree$Changes", "kept", "[I", true)
  | 1 => ("DoorsForThree$Changes", "done", "I", false)
  | _ => ("DoorsForThree$Changes", "undone", "I", false)
def tyX1 : Nat → FieldType := fun k => match k with
  | 0 => .array .int
  | 1 => .int
  | _ => .int
abbrev wsX10 : List Cond := u_ws RX1 TX1 3
theorem nmX1 : ∀ a, a < 3 → ∀ b, b < 3 → a ≠ b → (TX1 a).2.1 ≠ (TX1 b).2.1 := by decide +kernel
theorem tyX1_ok : ∀ k, k < 3 → parseFieldDescriptor (TX1 k).2.2.1 = some (tyX1 k) := by decide +kernel
abbrev cX1_init : ByteArray := prog_3_method_1_code
def yX1_init : MethodName := ⟨RX1, "<init>", "()V"⟩
abbrev cX1_keepChange : ByteArray := prog_3_method_2_code
def yX1_keepChange : MethodName := ⟨RX1, "keepChange", "(IIII)V"⟩
abbrev cX1_takeBack : ByteArray := prog_3_method_3_code
def yX1_takeBack : MethodName := ⟨RX1, "takeBack", "(LDoorsForThree$Calendar;)Z"⟩
abbrev cX1_makeAgain : ByteArray := prog_3_method_4_code
def yX1_makeAgain : MethodName := ⟨RX1, "makeAgain", "(LDoorsForThree$Calendar;)Z"⟩
def RX2 : String := "DoorsForThree$Deeds"
def TX2 : u_T := fun k => match k with
  | 0 => ("DoorsForThree$Deeds", "calendar", "LDoorsForThree$Calendar;", true)
  | 1 => ("DoorsForThree$Deeds", "openers", "[I", true)
  | 2 => ("DoorsForThree$Deeds", "today", "I", false)
  | 3 => ("DoorsForThree$Deeds", "opened", "I", false)
  | 4 => ("DoorsForThree$Deeds", "early", "I", false)
  | 5 => ("DoorsForThree$Deeds", "worth", "I", false)
  | 6 => ("DoorsForThree$Deeds", "hasImage", "Z", false)
  | 7 => ("DoorsForThree$Deeds", "imageOpeners", "[I", true)
  | 8 => ("DoorsForThree$Deeds", "imageToday", "I", false)
  | 9 => ("DoorsForThree$Deeds", "imageOpened", "I", false)
  | 10 => ("DoorsForThree$Deeds", "imageEarly", "I", false)
  | _ => ("DoorsForThree$Deeds", "imageWorth", "I", false)
def tyX2 : Nat → FieldType := fun k => match k with
  | 0 => .object "DoorsForThree$Calendar"
  | 1 => .array .int
  | 2 => .int
  | 3 => .int
  | 4 => .int
  | 5 => .int
  | 6 => .boolean
  | 7 => .array .int
  | 8 => .int
  | 9 => .int
  | 10 => .int
  | _ => .int
abbrev wsX20 : List Cond := u_ws RX2 TX2 12
theorem nmX2 : ∀ a, a < 12 → ∀ b, b < 12 → a ≠ b → (TX2 a).2.1 ≠ (TX2 b).2.1 := by decide +kernel
theorem tyX2_ok : ∀ k, k < 12 → parseFieldDescriptor (TX2 k).2.2.1 = some (tyX2 k) := by decide +kernel
abbrev cX2_init : ByteArray := prog_4_method_1_code
def yX2_init : MethodName := ⟨RX2, "<init>", "(LDoorsForThree$Calendar;)V"⟩
abbrev cX2_opener : ByteArray := prog_4_method_2_code
def yX2_opener : MethodName := ⟨RX2, "opener", "(I)I"⟩
abbrev cX2_dayPasses : ByteArray := prog_4_method_3_code
def yX2_dayPasses : MethodName := ⟨RX2, "dayPasses", "()Z"⟩
abbrev cX2_lateFor : ByteArray := prog_4_method_4_code
def yX2_lateFor : MethodName := ⟨RX2, "lateFor", "(I)I"⟩
abbrev cX2_openDoor : ByteArray := prog_4_method_5_code
def yX2_openDoor : MethodName := ⟨RX2, "openDoor", "(III)V"⟩
abbrev cX2_closedBehind : ByteArray := prog_4_method_6_code
def yX2_closedBehind : MethodName := ⟨RX2, "closedBehind", "()I"⟩
abbrev cX2_keepImage : ByteArray := prog_4_method_7_code
def yX2_keepImage : MethodName := ⟨RX2, "keepImage", "()V"⟩
abbrev cX2_layBack : ByteArray := prog_4_method_8_code
def yX2_layBack : MethodName := ⟨RX2, "layBack", "()Z"⟩
def RX3 : String := "DoorsForThree$Fairest"
def TX3 : u_T := fun k => match k with
  | 0 => ("DoorsForThree$Fairest", "calendar", "LDoorsForThree$Calendar;", true)
  | 1 => ("DoorsForThree$Fairest", "givings", "LDoorsForThree$Givings;", true)
  | 2 => ("DoorsForThree$Fairest", "seenVersion", "I", false)
  | 3 => ("DoorsForThree$Fairest", "eaten", "[[I", true)
  | 4 => ("DoorsForThree$Fairest", "whose", "[I", true)
  | 5 => ("DoorsForThree$Fairest", "fairest", "[I", true)
  | 6 => ("DoorsForThree$Fairest", "held", "[[I", true)
  | 7 => ("DoorsForThree$Fairest", "unfair", "I", false)
  | 8 => ("DoorsForThree$Fairest", "together", "I", false)
  | _ => ("DoorsForThree$Fairest", "withoutEnvy", "I", false)
def tyX3 : Nat → FieldType := fun k => match k with
  | 0 => .object "DoorsForThree$Calendar"
  | 1 => .object "DoorsForThree$Givings"
  | 2 => .int
  | 3 => .array (.array .int)
  | 4 => .array .int
  | 5 => .array .int
  | 6 => .array (.array .int)
  | 7 => .int
  | 8 => .int
  | _ => .int
abbrev wsX30 : List Cond := u_ws RX3 TX3 10
theorem nmX3 : ∀ a, a < 10 → ∀ b, b < 10 → a ≠ b → (TX3 a).2.1 ≠ (TX3 b).2.1 := by decide +kernel
theorem tyX3_ok : ∀ k, k < 10 → parseFieldDescriptor (TX3 k).2.2.1 = some (tyX3 k) := by decide +kernel
abbrev cX3_init : ByteArray := prog_5_method_1_code
def yX3_init : MethodName := ⟨RX3, "<init>", "(LDoorsForThree$Calendar;LDoorsForThree$Givings;)V"⟩
abbrev cX3_isTooWide : ByteArray := prog_5_method_2_code
def yX3_isTooWide : MethodName := ⟨RX3, "isTooWide", "()Z"⟩
abbrev cX3_owner : ByteArray := prog_5_method_3_code
def yX3_owner : MethodName := ⟨RX3, "owner", "(I)I"⟩
abbrev cX3_findOut : ByteArray := prog_5_method_4_code
def yX3_findOut : MethodName := ⟨RX3, "findOut", "()V"⟩
abbrev cX3_howMany : ByteArray := prog_5_method_5_code
def yX3_howMany : MethodName := ⟨RX3, "howMany", "()I"⟩
abbrev cX3_giveAllToFirst : ByteArray := prog_5_method_6_code
def yX3_giveAllToFirst : MethodName := ⟨RX3, "giveAllToFirst", "()V"⟩
abbrev cX3_weigh : ByteArray := prog_5_method_7_code
def yX3_weigh : MethodName := ⟨RX3, "weigh", "()V"⟩
abbrev cX3_goOn : ByteArray := prog_5_method_8_code
def yX3_goOn : MethodName := ⟨RX3, "goOn", "()V"⟩
abbrev cX3_handOver : ByteArray := prog_5_method_9_code
def yX3_handOver : MethodName := ⟨RX3, "handOver", "(II)V"⟩
def RX4 : String := "DoorsForThree$Givings"
def TX4 : u_T := fun k => match k with
  | 0 => ("DoorsForThree$Givings", "calendar", "LDoorsForThree$Calendar;", true)
  | 1 => ("DoorsForThree$Givings", "worths", "LDoorsForThree$Worths;", true)
  | 2 => ("DoorsForThree$Givings", "seenVersion", "I", false)
  | 3 => ("DoorsForThree$Givings", "byDay", "[I", true)
  | 4 => ("DoorsForThree$Givings", "byAge", "[I", true)
  | 5 => ("DoorsForThree$Givings", "eaten", "[[I", true)
  | 6 => ("DoorsForThree$Givings", "given", "[[I", true)
  | 7 => ("DoorsForThree$Givings", "sums", "[[I", true)
  | 8 => ("DoorsForThree$Givings", "offered", "[I", true)
  | 9 => ("DoorsForThree$Givings", "tried", "[I", true)
  | 10 => ("DoorsForThree$Givings", "triedSums", "[I", true)
  | 11 => ("DoorsForThree$Givings", "mine", "[I", true)
  | _ => ("DoorsForThree$Givings", "mineMany", "I", false)
def tyX4 : Nat → FieldType := fun k => match k with
  | 0 => .object "DoorsForThree$Calendar"
  | 1 => .object "DoorsForThree$Worths"
  | 2 => .int
  | 3 => .array .int
  | 4 => .array .int
  | 5 => .array (.array .int)
  | 6 => .array (.array .int)
  | 7 => .array (.array .int)
  | 8 => .array .int
  | 9 => .array .int
  | 10 => .array .int
  | 11 => .array .int
  | _ => .int
abbrev wsX40 : List Cond := u_ws RX4 TX4 13
theorem nmX4 : ∀ a, a < 13 → ∀ b, b < 13 → a ≠ b → (TX4 a).2.1 ≠ (TX4 b).2.1 := by decide +kernel
theorem tyX4_ok : ∀ k, k < 13 → parseFieldDescriptor (TX4 k).2.2.1 = some (tyX4 k) := by decide +kernel
abbrev cX4_init : ByteArray := prog_6_method_1_code
def yX4_init : MethodName := ⟨RX4, "<init>", "(LDoorsForThree$Calendar;LDoorsForThree$Worths;)V"⟩
abbrev cX4_freshen : ByteArray := prog_6_method_2_code
def yX4_freshen : MethodName := ⟨RX4, "freshen", "()V"⟩
abbrev cX4_orderDoors : ByteArray := prog_6_method_3_code
def yX4_orderDoors : MethodName := ⟨RX4, "orderDoors", "()V"⟩
abbrev cX4_orderChildren : ByteArray := prog_6_method_4_code
def yX4_orderChildren : MethodName := ⟨RX4, "orderChildren", "()V"⟩
abbrev cX4_giveBy : ByteArray := prog_6_method_5_code
def yX4_giveBy : MethodName := ⟨RX4, "giveBy", "(I)V"⟩
abbrev cX4_giveOffered : ByteArray := prog_6_method_6_code
def yX4_giveOffered : MethodName := ⟨RX4, "giveOffered", "(II[I)I"⟩
abbrev cX4_chosen : ByteArray := prog_6_method_7_code
def yX4_chosen : MethodName := ⟨RX4, "chosen", "(II[I)I"⟩
abbrev cX4_mostWilling : ByteArray := prog_6_method_8_code
def yX4_mostWilling : MethodName := ⟨RX4, "mostWilling", "(I[I)I"⟩
abbrev cX4_will : ByteArray := prog_6_method_9_code
def yX4_will : MethodName := ⟨RX4, "will", "(II[I)I"⟩
abbrev cX4_owner : ByteArray := prog_6_method_10_code
def yX4_owner : MethodName := ⟨RX4, "owner", "(II)I"⟩
abbrev cX4_sumOf : ByteArray := prog_6_method_11_code
def yX4_sumOf : MethodName := ⟨RX4, "sumOf", "(II)I"⟩
abbrev cX4_unfairBy : ByteArray := prog_6_method_12_code
def yX4_unfairBy : MethodName := ⟨RX4, "unfairBy", "(I)I"⟩
abbrev cX4_triedUnfair : ByteArray := prog_6_method_13_code
def yX4_triedUnfair : MethodName := ⟨RX4, "triedUnfair", "()I"⟩
abbrev cX4_triedSum : ByteArray := prog_6_method_14_code
def yX4_triedSum : MethodName := ⟨RX4, "triedSum", "(I)I"⟩
abbrev cX4_unfairOf : ByteArray := prog_6_method_15_code
def yX4_unfairOf : MethodName := ⟨RX4, "unfairOf", "([I)I"⟩
abbrev cX4_togetherBy : ByteArray := prog_6_method_16_code
def yX4_togetherBy : MethodName := ⟨RX4, "togetherBy", "(I)I"⟩
abbrev cX4_envyBy : ByteArray := prog_6_method_17_code
def yX4_envyBy : MethodName := ⟨RX4, "envyBy", "(I)I"⟩
abbrev cX4_worthTo : ByteArray := prog_6_method_18_code
def yX4_worthTo : MethodName := ⟨RX4, "worthTo", "(III)I"⟩
abbrev cX4_leastUnfairRule : ByteArray := prog_6_method_19_code
def yX4_leastUnfairRule : MethodName := ⟨RX4, "leastUnfairRule", "()I"⟩
abbrev cX4_firstSwapBy : ByteArray := prog_6_method_20_code
def yX4_firstSwapBy : MethodName := ⟨RX4, "firstSwapBy", "(I)I"⟩
abbrev cX4_firstSwap : ByteArray := prog_6_method_21_code
def yX4_firstSwap : MethodName := ⟨RX4, "firstSwap", "()I"⟩
abbrev cX4_pleasesBoth : ByteArray := prog_6_method_22_code
def yX4_pleasesBoth : MethodName := ⟨RX4, "pleasesBoth", "(II)Z"⟩
abbrev cX4_swapAll : ByteArray := prog_6_method_23_code
def yX4_swapAll : MethodName := ⟨RX4, "swapAll", "(I)I"⟩
abbrev cX4_sumTried : ByteArray := prog_6_method_24_code
def yX4_sumTried : MethodName := ⟨RX4, "sumTried", "()V"⟩
abbrev cX4_divideBig : ByteArray := prog_6_method_25_code
def yX4_divideBig : MethodName := ⟨RX4, "divideBig", "(I)V"⟩
abbrev cX4_neverEaten : ByteArray := prog_6_method_26_code
def yX4_neverEaten : MethodName := ⟨RX4, "neverEaten", "(II)I"⟩
abbrev cX4_daysLate : ByteArray := prog_6_method_27_code
def yX4_daysLate : MethodName := ⟨RX4, "daysLate", "(II)I"⟩
abbrev cX4_ownAfter : ByteArray := prog_6_method_28_code
def yX4_ownAfter : MethodName := ⟨RX4, "ownAfter", "(III)I"⟩
abbrev cX4_takeMine : ByteArray := prog_6_method_29_code
def yX4_takeMine : MethodName := ⟨RX4, "takeMine", "(II)V"⟩
abbrev cX4_gathered : ByteArray := prog_6_method_30_code
def yX4_gathered : MethodName := ⟨RX4, "gathered", "(II)I"⟩
abbrev cX4_bestGathering : ByteArray := prog_6_method_31_code
def yX4_bestGathering : MethodName := ⟨RX4, "bestGathering", "(I)I"⟩
abbrev cX4_giveTwice : ByteArray := prog_6_method_32_code
def yX4_giveTwice : MethodName := ⟨RX4, "giveTwice", "(II)V"⟩
abbrev cX4_bestPair : ByteArray := prog_6_method_33_code
def yX4_bestPair : MethodName := ⟨RX4, "bestPair", "(I)I"⟩
abbrev cX4_gainOf : ByteArray := prog_6_method_34_code
def yX4_gainOf : MethodName := ⟨RX4, "gainOf", "(III)I"⟩
abbrev cX4_drawDecembers : ByteArray := prog_6_method_35_code
def yX4_drawDecembers : MethodName := ⟨RX4, "drawDecembers", "(III)I"⟩
abbrev cX4_drawOne : ByteArray := prog_6_method_36_code
def yX4_drawOne : MethodName := ⟨RX4, "drawOne", "(I)I"⟩
abbrev cX4_hasMost : ByteArray := prog_6_method_37_code
def yX4_hasMost : MethodName := ⟨RX4, "hasMost", "(I)Z"⟩
def RX5 : String := "DoorsForThree$Law"
def TX5 : u_T := fun k => match k with
  | 0 => ("DoorsForThree$Law", "tape", "[I", true)
  | 1 => ("DoorsForThree$Law", "letters", "I", false)
  | 2 => ("DoorsForThree$Law", "at", "I", false)
  | 3 => ("DoorsForThree$Law", "draft", "[I", true)
  | 4 => ("DoorsForThree$Law", "drafted", "I", false)
  | 5 => ("DoorsForThree$Law", "steps", "[I", true)
  | 6 => ("DoorsForThree$Law", "kept", "I", false)
  | 7 => ("DoorsForThree$Law", "version", "I", false)
  | 8 => ("DoorsForThree$Law", "stack", "[I", true)
  | _ => ("DoorsForThree$Law", "top", "I", false)
def tyX5 : Nat → FieldType := fun k => match k with
  | 0 => .array .int
  | 1 => .int
  | 2 => .int
  | 3 => .array .int
  | 4 => .int
  | 5 => .array .int
  | 6 => .int
  | 7 => .int
  | 8 => .array .int
  | _ => .int
abbrev wsX50 : List Cond := u_ws RX5 TX5 10
theorem nmX5 : ∀ a, a < 10 → ∀ b, b < 10 → a ≠ b → (TX5 a).2.1 ≠ (TX5 b).2.1 := by decide +kernel
theorem tyX5_ok : ∀ k, k < 10 → parseFieldDescriptor (TX5 k).2.2.1 = some (tyX5 k) := by decide +kernel
abbrev cX5_init : ByteArray := prog_7_method_1_code
def yX5_init : MethodName := ⟨RX5, "<init>", "()V"⟩
abbrev cX5_takeLetter : ByteArray := prog_7_method_2_code
def yX5_takeLetter : MethodName := ⟨RX5, "takeLetter", "(I)Z"⟩
abbrev cX5_becomeLaw : ByteArray := prog_7_method_3_code
def yX5_becomeLaw : MethodName := ⟨RX5, "becomeLaw", "()I"⟩
abbrev cX5_stands : ByteArray := prog_7_method_4_code
def yX5_stands : MethodName := ⟨RX5, "stands", "()Z"⟩
abbrev cX5_readLines : ByteArray := prog_7_method_5_code
def yX5_readLines : MethodName := ⟨RX5, "readLines", "()Z"⟩
abbrev cX5_readLine : ByteArray := prog_7_method_6_code
def yX5_readLine : MethodName := ⟨RX5, "readLine", "()Z"⟩
abbrev cX5_readLevel : ByteArray := prog_7_method_7_code
def yX5_readLevel : MethodName := ⟨RX5, "readLevel", "(II)Z"⟩
abbrev cX5_signsOf : ByteArray := prog_7_method_8_code
def yX5_signsOf : MethodName := ⟨RX5, "signsOf", "(I)Ljava/lang/String;"⟩
abbrev cX5_readOperand : ByteArray := prog_7_method_9_code
def yX5_readOperand : MethodName := ⟨RX5, "readOperand", "(I)Z"⟩
abbrev cX5_readNumber : ByteArray := prog_7_method_10_code
def yX5_readNumber : MethodName := ⟨RX5, "readNumber", "()V"⟩
abbrev cX5_isDigitNext : ByteArray := prog_7_method_11_code
def yX5_isDigitNext : MethodName := ⟨RX5, "isDigitNext", "()Z"⟩
abbrev cX5_pass : ByteArray := prog_7_method_12_code
def yX5_pass : MethodName := ⟨RX5, "pass", "(Ljava/lang/String;)I"⟩
abbrev cX5_draftStep : ByteArray := prog_7_method_13_code
def yX5_draftStep : MethodName := ⟨RX5, "draftStep", "(I)V"⟩
abbrev cX5_workOut : ByteArray := prog_7_method_14_code
def yX5_workOut : MethodName := ⟨RX5, "workOut", "([I)I"⟩
abbrev cX5_takeStep : ByteArray := prog_7_method_15_code
def yX5_takeStep : MethodName := ⟨RX5, "takeStep", "(I[I)V"⟩
abbrev cX5_joined : ByteArray := prog_7_method_16_code
def yX5_joined : MethodName := ⟨RX5, "joined", "(III)I"⟩
abbrev cX5_push : ByteArray := prog_7_method_17_code
def yX5_push : MethodName := ⟨RX5, "push", "(I)V"⟩
abbrev cX5_pop : ByteArray := prog_7_method_18_code
def yX5_pop : MethodName := ⟨RX5, "pop", "()I"⟩
def RX6 : String := "DoorsForThree$Pictures"
def TX6 : u_T := fun k => match k with
  | 0 => ("DoorsForThree$Pictures", "kinds", "[I", true)
  | 1 => ("DoorsForThree$Pictures", "bodies", "I", false)
  | 2 => ("DoorsForThree$Pictures", "trace", "[I", true)
  | _ => ("DoorsForThree$Pictures", "ran", "I", false)
def tyX6 : Nat → FieldType := fun k => match k with
  | 0 => .array .int
  | 1 => .int
  | 2 => .array .int
  | _ => .int
abbrev wsX60 : List Cond := u_ws RX6 TX6 4
theorem nmX6 : ∀ a, a < 4 → ∀ b, b < 4 → a ≠ b → (TX6 a).2.1 ≠ (TX6 b).2.1 := by decide +kernel
theorem tyX6_ok : ∀ k, k < 4 → parseFieldDescriptor (TX6 k).2.2.1 = some (tyX6 k) := by decide +kernel
abbrev cX6_init : ByteArray := prog_8_method_1_code
def yX6_init : MethodName := ⟨RX6, "<init>", "()V"⟩
abbrev cX6_isKind : ByteArray := prog_8_method_2_code
def yX6_isKind : MethodName := ⟨RX6, "isKind", "(I)Z"⟩
abbrev cX6_hasBody : ByteArray := prog_8_method_3_code
def yX6_hasBody : MethodName := ⟨RX6, "hasBody", "(I)Z"⟩
abbrev cX6_addBody : ByteArray := prog_8_method_4_code
def yX6_addBody : MethodName := ⟨RX6, "addBody", "(I)Z"⟩
abbrev cX6_kindOf : ByteArray := prog_8_method_5_code
def yX6_kindOf : MethodName := ⟨RX6, "kindOf", "(I)I"⟩
abbrev cX6_isUnder : ByteArray := prog_8_method_6_code
def yX6_isUnder : MethodName := ⟨RX6, "isUnder", "(II)Z"⟩
abbrev cX6_hasTrace : ByteArray := prog_8_method_7_code
def yX6_hasTrace : MethodName := ⟨RX6, "hasTrace", "(I)Z"⟩
abbrev cX6_traceAt : ByteArray := prog_8_method_8_code
def yX6_traceAt : MethodName := ⟨RX6, "traceAt", "(I)I"⟩
abbrev cX6_run : ByteArray := prog_8_method_9_code
def yX6_run : MethodName := ⟨RX6, "run", "(III)I"⟩
abbrev cX6_begins : ByteArray := prog_8_method_10_code
def yX6_begins : MethodName := ⟨RX6, "begins", "(I)V"⟩
abbrev cX6_opensOf : ByteArray := prog_8_method_11_code
def yX6_opensOf : MethodName := ⟨RX6, "opensOf", "(II)I"⟩
abbrev cX6_givesOf : ByteArray := prog_8_method_12_code
def yX6_givesOf : MethodName := ⟨RX6, "givesOf", "(II)I"⟩
abbrev cX6_waitsOf : ByteArray := prog_8_method_13_code
def yX6_waitsOf : MethodName := ⟨RX6, "waitsOf", "(II)I"⟩
abbrev cX6_tellsOf : ByteArray := prog_8_method_14_code
def yX6_tellsOf : MethodName := ⟨RX6, "tellsOf", "(II)I"⟩
def RX7 : String := "DoorsForThree$Shelf"
def TX7 : u_T := fun k => match k with
  | 0 => ("DoorsForThree$Shelf", "holds", "I", false)
  | 1 => ("DoorsForThree$Shelf", "body", "I", false)
  | 2 => ("DoorsForThree$Shelf", "sort", "I", false)
  | 3 => ("DoorsForThree$Shelf", "length", "I", false)
  | _ => ("DoorsForThree$Shelf", "cells", "[J", true)
def tyX7 : Nat → FieldType := fun k => match k with
  | 0 => .int
  | 1 => .int
  | 2 => .int
  | 3 => .int
  | _ => .array .long
abbrev wsX70 : List Cond := u_ws RX7 TX7 5
theorem nmX7 : ∀ a, a < 5 → ∀ b, b < 5 → a ≠ b → (TX7 a).2.1 ≠ (TX7 b).2.1 := by decide +kernel
theorem tyX7_ok : ∀ k, k < 5 → parseFieldDescriptor (TX7 k).2.2.1 = some (tyX7 k) := by decide +kernel
abbrev cX7_init : ByteArray := prog_9_method_1_code
def yX7_init : MethodName := ⟨RX7, "<init>", "()V"⟩
abbrev cX7_holdNothing : ByteArray := prog_9_method_2_code
def yX7_holdNothing : MethodName := ⟨RX7, "holdNothing", "()V"⟩
abbrev cX7_holdBody : ByteArray := prog_9_method_3_code
def yX7_holdBody : MethodName := ⟨RX7, "holdBody", "(I)V"⟩
abbrev cX7_holdRow : ByteArray := prog_9_method_4_code
def yX7_holdRow : MethodName := ⟨RX7, "holdRow", "(II)V"⟩
abbrev cX7_refusesRow : ByteArray := prog_9_method_5_code
def yX7_refusesRow : MethodName := ⟨RX7, "refusesRow", "()I"⟩
abbrev cX7_refusesBytes : ByteArray := prog_9_method_6_code
def yX7_refusesBytes : MethodName := ⟨RX7, "refusesBytes", "()I"⟩
abbrev cX7_hasPlace : ByteArray := prog_9_method_7_code
def yX7_hasPlace : MethodName := ⟨RX7, "hasPlace", "(I)Z"⟩
abbrev cX7_hasPlaces : ByteArray := prog_9_method_8_code
def yX7_hasPlaces : MethodName := ⟨RX7, "hasPlaces", "(II)Z"⟩
abbrev cX7_at : ByteArray := prog_9_method_9_code
def yX7_at : MethodName := ⟨RX7, "at", "(I)J"⟩
abbrev cX7_putIn : ByteArray := prog_9_method_10_code
def yX7_putIn : MethodName := ⟨RX7, "putIn", "(IJ)Z"⟩
abbrev cX7_lowest : ByteArray := prog_9_method_11_code
def yX7_lowest : MethodName := ⟨RX7, "lowest", "(J)J"⟩
abbrev cX7_takeFrom : ByteArray := prog_9_method_12_code
def yX7_takeFrom : MethodName := ⟨RX7, "takeFrom", "(LDoorsForThree$Shelf;III)V"⟩
def RX8 : String := "DoorsForThree$Signs"
def TX8 : u_T := fun k => match k with
  | 0 => ("DoorsForThree$Signs", "calendar", "LDoorsForThree$Calendar;", true)
  | _ => ("DoorsForThree$Signs", "givings", "LDoorsForThree$Givings;", true)
def tyX8 : Nat → FieldType := fun k => match k with
  | 0 => .object "DoorsForThree$Calendar"
  | _ => .object "DoorsForThree$Givings"
abbrev wsX80 : List Cond := u_ws RX8 TX8 2
theorem nmX8 : ∀ a, a < 2 → ∀ b, b < 2 → a ≠ b → (TX8 a).2.1 ≠ (TX8 b).2.1 := by decide +kernel
theorem tyX8_ok : ∀ k, k < 2 → parseFieldDescriptor (TX8 k).2.2.1 = some (tyX8 k) := by decide +kernel
abbrev cX8_init : ByteArray := prog_10_method_1_code
def yX8_init : MethodName := ⟨RX8, "<init>", "(LDoorsForThree$Calendar;LDoorsForThree$Givings;)V"⟩
abbrev cX8_earlyOnes : ByteArray := prog_10_method_2_code
def yX8_earlyOnes : MethodName := ⟨RX8, "earlyOnes", "(LDoorsForThree$Shelf;I)I"⟩
abbrev cX8_couldHaveBeen : ByteArray := prog_10_method_3_code
def yX8_couldHaveBeen : MethodName := ⟨RX8, "couldHaveBeen", "(LDoorsForThree$Shelf;II)I"⟩
abbrev cX8_hasReason : ByteArray := prog_10_method_4_code
def yX8_hasReason : MethodName := ⟨RX8, "hasReason", "(III)Z"⟩
abbrev cX8_onlyOne : ByteArray := prog_10_method_5_code
def yX8_onlyOne : MethodName := ⟨RX8, "onlyOne", "(I)I"⟩
abbrev cX8_bestGuard : ByteArray := prog_10_method_6_code
def yX8_bestGuard : MethodName := ⟨RX8, "bestGuard", "(I)I"⟩
abbrev cX8_leftBy : ByteArray := prog_10_method_7_code
def yX8_leftBy : MethodName := ⟨RX8, "leftBy", "(II)I"⟩
abbrev cX8_firstNotSo : ByteArray := prog_10_method_8_code
def yX8_firstNotSo : MethodName := ⟨RX8, "firstNotSo", "(LDoorsForThree$Shelf;I)I"⟩
abbrev cX8_isSo : ByteArray := prog_10_method_9_code
def yX8_isSo : MethodName := ⟨RX8, "isSo", "(III)Z"⟩
def RX9 : String := "DoorsForThree$Worths"
def TX9 : u_T := fun k => match k with
  | 0 => ("DoorsForThree$Worths", "calendar", "LDoorsForThree$Calendar;", true)
  | 1 => ("DoorsForThree$Worths", "law", "LDoorsForThree$Law;", true)
  | _ => ("DoorsForThree$Worths", "named", "[I", true)
def tyX9 : Nat → FieldType := fun k => match k with
  | 0 => .object "DoorsForThree$Calendar"
  | 1 => .object "DoorsForThree$Law"
  | _ => .array .int
abbrev wsX90 : List Cond := u_ws RX9 TX9 3
theorem nmX9 : ∀ a, a < 3 → ∀ b, b < 3 → a ≠ b → (TX9 a).2.1 ≠ (TX9 b).2.1 := by decide +kernel
theorem tyX9_ok : ∀ k, k < 3 → parseFieldDescriptor (TX9 k).2.2.1 = some (tyX9 k) := by decide +kernel
abbrev cX9_init : ByteArray := prog_11_method_1_code
def yX9_init : MethodName := ⟨RX9, "<init>", "(LDoorsForThree$Calendar;LDoorsForThree$Law;)V"⟩
abbrev cX9_version : ByteArray := prog_11_method_2_code
def yX9_version : MethodName := ⟨RX9, "version", "()I"⟩
abbrev cX9_worthLate : ByteArray := prog_11_method_3_code
def yX9_worthLate : MethodName := ⟨RX9, "worthLate", "(IIII)I"⟩
abbrev cX9_worthEaten : ByteArray := prog_11_method_4_code
def yX9_worthEaten : MethodName := ⟨RX9, "worthEaten", "(III)I"⟩
def RX10 : String := "DoorsForThree"
def TX10 : u_T := fun k => match k with
  | 0 => ("DoorsForThree", "calendar", "LDoorsForThree$Calendar;", true)
  | 1 => ("DoorsForThree", "changes", "LDoorsForThree$Changes;", true)
  | 2 => ("DoorsForThree", "tape", "LDoorsForThree$Law;", true)
  | 3 => ("DoorsForThree", "worths", "LDoorsForThree$Worths;", true)
  | 4 => ("DoorsForThree", "givings", "LDoorsForThree$Givings;", true)
  | 5 => ("DoorsForThree", "search", "LDoorsForThree$Fairest;", true)
  | 6 => ("DoorsForThree", "signs", "LDoorsForThree$Signs;", true)
  | 7 => ("DoorsForThree", "deeds", "LDoorsForThree$Deeds;", true)
  | 8 => ("DoorsForThree", "pictures", "LDoorsForThree$Pictures;", true)
  | _ => ("DoorsForThree", "shelves", "[LDoorsForThree$Shelf;", true)
def tyX10 : Nat → FieldType := fun k => match k with
  | 0 => .object "DoorsForThree$Calendar"
  | 1 => .object "DoorsForThree$Changes"
  | 2 => .object "DoorsForThree$Law"
  | 3 => .object "DoorsForThree$Worths"
  | 4 => .object "DoorsForThree$Givings"
  | 5 => .object "DoorsForThree$Fairest"
  | 6 => .object "DoorsForThree$Signs"
  | 7 => .object "DoorsForThree$Deeds"
  | 8 => .object "DoorsForThree$Pictures"
  | _ => .array (.object "DoorsForThree$Shelf")
abbrev wsX100 : List Cond := u_ws RX10 TX10 10
theorem nmX10 : ∀ a, a < 10 → ∀ b, b < 10 → a ≠ b → (TX10 a).2.1 ≠ (TX10 b).2.1 := by decide +kernel
theorem tyX10_ok : ∀ k, k < 10 → parseFieldDescriptor (TX10 k).2.2.1 = some (tyX10 k) := by decide +kernel
abbrev cX10_init : ByteArray := prog_1_method_1_code
def yX10_init : MethodName := ⟨RX10, "<init>", "()V"⟩
abbrev cX10_door : ByteArray := prog_1_method_2_code
def yX10_door : MethodName := ⟨RX10, "door", "(II)I"⟩
abbrev cX10_doors : ByteArray := prog_1_method_3_code
def yX10_doors : MethodName := ⟨RX10, "doors", "(III)I"⟩
abbrev cX10_child : ByteArray := prog_1_method_4_code
def yX10_child : MethodName := ⟨RX10, "child", "(II)I"⟩
abbrev cX10_mend : ByteArray := prog_1_method_5_code
def yX10_mend : MethodName := ⟨RX10, "mend", "(III)I"⟩
abbrev cX10_of : ByteArray := prog_1_method_6_code
def yX10_of : MethodName := ⟨RX10, "of", "(II)I"⟩
abbrev cX10_feed : ByteArray := prog_1_method_7_code
def yX10_feed : MethodName := ⟨RX10, "feed", "(I)I"⟩
abbrev cX10_law : ByteArray := prog_1_method_8_code
def yX10_law : MethodName := ⟨RX10, "law", "()I"⟩
abbrev cX10_worth : ByteArray := prog_1_method_9_code
def yX10_worth : MethodName := ⟨RX10, "worth", "(II)I"⟩
abbrev cX10_whose : ByteArray := prog_1_method_10_code
def yX10_whose : MethodName := ⟨RX10, "whose", "(I)I"⟩
abbrev cX10_all : ByteArray := prog_1_method_11_code
def yX10_all : MethodName := ⟨RX10, "all", "(I)I"⟩
abbrev cX10_giving : ByteArray := prog_1_method_12_code
def yX10_giving : MethodName := ⟨RX10, "giving", "(II)I"⟩
abbrev cX10_bestRule : ByteArray := prog_1_method_13_code
def yX10_bestRule : MethodName := ⟨RX10, "bestRule", "(I)I"⟩
abbrev cX10_fairest : ByteArray := prog_1_method_14_code
def yX10_fairest : MethodName := ⟨RX10, "fairest", "(I)I"⟩
abbrev cX10_envyFree : ByteArray := prog_1_method_15_code
def yX10_envyFree : MethodName := ⟨RX10, "envyFree", "()I"⟩
abbrev cX10_swap : ByteArray := prog_1_method_16_code
def yX10_swap : MethodName := ⟨RX10, "swap", "(I)I"⟩
abbrev cX10_swaps : ByteArray := prog_1_method_17_code
def yX10_swaps : MethodName := ⟨RX10, "swaps", "(II)I"⟩
abbrev cX10_big : ByteArray := prog_1_method_18_code
def yX10_big : MethodName := ⟨RX10, "big", "(II)I"⟩
abbrev cX10_away : ByteArray := prog_1_method_19_code
def yX10_away : MethodName := ⟨RX10, "away", "(II)I"⟩
abbrev cX10_gather : ByteArray := prog_1_method_20_code
def yX10_gather : MethodName := ⟨RX10, "gather", "(II)I"⟩
abbrev cX10_waits : ByteArray := prog_1_method_21_code
def yX10_waits : MethodName := ⟨RX10, "waits", "(II)I"⟩
abbrev cX10_atFive : ByteArray := prog_1_method_22_code
def yX10_atFive : MethodName := ⟨RX10, "atFive", "(IIII)I"⟩
abbrev cX10_guard : ByteArray := prog_1_method_23_code
def yX10_guard : MethodName := ⟨RX10, "guard", "(IIII)I"⟩
abbrev cX10_judge : ByteArray := prog_1_method_24_code
def yX10_judge : MethodName := ⟨RX10, "judge", "(II)I"⟩
abbrev cX10_byWhat : ByteArray := prog_1_method_25_code
def yX10_byWhat : MethodName := ⟨RX10, "byWhat", "(I)I"⟩
abbrev cX10_second : ByteArray := prog_1_method_26_code
def yX10_second : MethodName := ⟨RX10, "second", "(II)I"⟩
abbrev cX10_pairs : ByteArray := prog_1_method_27_code
def yX10_pairs : MethodName := ⟨RX10, "pairs", "(II)I"⟩
abbrev cX10_drawn : ByteArray := prog_1_method_28_code
def yX10_drawn : MethodName := ⟨RX10, "drawn", "(III)I"⟩
abbrev cX10_day : ByteArray := prog_1_method_29_code
def yX10_day : MethodName := ⟨RX10, "day", "()I"⟩
abbrev cX10_open : ByteArray := prog_1_method_30_code
def yX10_open : MethodName := ⟨RX10, "open", "(II)I"⟩
abbrev cX10_forgotten : ByteArray := prog_1_method_31_code
def yX10_forgotten : MethodName := ⟨RX10, "forgotten", "()I"⟩
abbrev cX10_led : ByteArray := prog_1_method_32_code
def yX10_led : MethodName := ⟨RX10, "led", "(I)I"⟩
abbrev cX10_image : ByteArray := prog_1_method_33_code
def yX10_image : MethodName := ⟨RX10, "image", "()I"⟩
abbrev cX10_back : ByteArray := prog_1_method_34_code
def yX10_back : MethodName := ⟨RX10, "back", "()I"⟩
abbrev cX10_undo : ByteArray := prog_1_method_35_code
def yX10_undo : MethodName := ⟨RX10, "undo", "()I"⟩
abbrev cX10_redo : ByteArray := prog_1_method_36_code
def yX10_redo : MethodName := ⟨RX10, "redo", "()I"⟩
abbrev cX10_body : ByteArray := prog_1_method_37_code
def yX10_body : MethodName := ⟨RX10, "body", "(I)I"⟩
abbrev cX10_act : ByteArray := prog_1_method_38_code
def yX10_act : MethodName := ⟨RX10, "act", "(III)I"⟩
abbrev cX10_trace : ByteArray := prog_1_method_39_code
def yX10_trace : MethodName := ⟨RX10, "trace", "(I)I"⟩
abbrev cX10_keep : ByteArray := prog_1_method_40_code
def yX10_keep : MethodName := ⟨RX10, "keep", "(II)I"⟩
abbrev cX10_row : ByteArray := prog_1_method_41_code
def yX10_row : MethodName := ⟨RX10, "row", "(III)I"⟩
abbrev cX10_put : ByteArray := prog_1_method_42_code
def yX10_put : MethodName := ⟨RX10, "put", "(IIJ)I"⟩
abbrev cX10_element : ByteArray := prog_1_method_43_code
def yX10_element : MethodName := ⟨RX10, "element", "(II)J"⟩
abbrev cX10_shift : ByteArray := prog_1_method_44_code
def yX10_shift : MethodName := ⟨RX10, "shift", "(IIIII)I"⟩
abbrev cX10_taken : ByteArray := prog_1_method_45_code
def yX10_taken : MethodName := ⟨RX10, "taken", "(II)I"⟩
abbrev cX10_count : ByteArray := prog_1_method_46_code
def yX10_count : MethodName := ⟨RX10, "count", "(I)I"⟩
abbrev cX10_isRule : ByteArray := prog_1_method_47_code
def yX10_isRule : MethodName := ⟨RX10, "isRule", "(I)Z"⟩
abbrev cX10_isRuleAndChild : ByteArray := prog_1_method_48_code
def yX10_isRuleAndChild : MethodName := ⟨RX10, "isRuleAndChild", "(I)Z"⟩
abbrev cX10_isShelf : ByteArray := prog_1_method_49_code
def yX10_isShelf : MethodName := ⟨RX10, "isShelf", "(I)Z"⟩
abbrev cX10_fresh : ByteArray := prog_1_method_50_code
def yX10_fresh : MethodName := ⟨RX10, "fresh", "()LDoorsForThree$Givings;"⟩
abbrev cX10_doorComes : ByteArray := prog_1_method_51_code
def yX10_doorComes : MethodName := ⟨RX10, "doorComes", "(LDoorsForThree$Shelf;II)Z"⟩
def RX11 : String := "DoorsForThreeModel"
def TX11 : u_T := fun k => match k with
  | 0 => ("DoorsForThreeModel", "doors", "I", false)
  | 1 => ("DoorsForThreeModel", "day", "[I", true)
  | 2 => ("DoorsForThreeModel", "what", "[I", true)
  | 3 => ("DoorsForThreeModel", "size", "[I", true)
  | 4 => ("DoorsForThreeModel", "opener", "[I", true)
  | 5 => ("DoorsForThreeModel", "children", "I", false)
  | 6 => ("DoorsForThreeModel", "age", "[I", true)
  | 7 => ("DoorsForThreeModel", "likes", "[I", true)
  | 8 => ("DoorsForThreeModel", "holds", "[I", true)
  | 9 => ("DoorsForThreeModel", "from", "[I", true)
  | 10 => ("DoorsForThreeModel", "till", "[I", true)
  | 11 => ("DoorsForThreeModel", "ways", "[I", true)
  | 12 => ("DoorsForThreeModel", "now", "I", false)
  | 13 => ("DoorsForThreeModel", "taped", "I", false)
  | 14 => ("DoorsForThreeModel", "tape", "[I", true)
  | 15 => ("DoorsForThreeModel", "isTold", "Z", false)
  | 16 => ("DoorsForThreeModel", "lines", "I", false)
  | 17 => ("DoorsForThreeModel", "asks", "[I", true)
  | 18 => ("DoorsForThreeModel", "says", "[I", true)
  | 19 => ("DoorsForThreeModel", "ends", "[I", true)
  | 20 => ("DoorsForThreeModel", "code", "[I", true)
  | 21 => ("DoorsForThreeModel", "at", "I", false)
  | 22 => ("DoorsForThreeModel", "open", "I", false)
  | 23 => ("DoorsForThreeModel", "coded", "I", false)
  | 24 => ("DoorsForThreeModel", "newLines", "I", false)
  | 25 => ("DoorsForThreeModel", "newAsks", "[I", true)
  | 26 => ("DoorsForThreeModel", "newSays", "[I", true)
  | 27 => ("DoorsForThreeModel", "newEnds", "[I", true)
  | 28 => ("DoorsForThreeModel", "newCode", "[I", true)
  | 29 => ("DoorsForThreeModel", "stack", "[I", true)
  | 30 => ("DoorsForThreeModel", "names", "[I", true)
  | 31 => ("DoorsForThreeModel", "led", "[I", true)
  | 32 => ("DoorsForThreeModel", "imaged", "Z", false)
  | 33 => ("DoorsForThreeModel", "oldDoors", "I", false)
  | 34 => ("DoorsForThreeModel", "oldNow", "I", false)
  | 35 => ("DoorsForThreeModel", "oldOpener", "[I", true)
  | 36 => ("DoorsForThreeModel", "oldLed", "[I", true)
  | 37 => ("DoorsForThreeModel", "changes", "I", false)
  | 38 => ("DoorsForThreeModel", "done", "I", false)
  | 39 => ("DoorsForThreeModel", "changed", "[I", true)
  | 40 => ("DoorsForThreeModel", "bodies", "I", false)
  | 41 => ("DoorsForThreeModel", "kind", "[I", true)
  | 42 => ("DoorsForThreeModel", "traced", "I", false)
  | 43 => ("DoorsForThreeModel", "traces", "[I", true)
  | 44 => ("DoorsForThreeModel", "holding", "[I", true)
  | 45 => ("DoorsForThreeModel", "rowLength", "[I", true)
  | 46 => ("DoorsForThreeModel", "rowOf", "[J", true)
  | 47 => ("DoorsForThreeModel", "order", "[I", true)
  | 48 => ("DoorsForThreeModel", "whose", "[I", true)
  | 49 => ("DoorsForThreeModel", "all", "[I", true)
  | 50 => ("DoorsForThreeModel", "eldest", "[I", true)
  | _ => ("DoorsForThreeModel", "best", "[I", true)
def tyX11 : Nat → FieldType := fun k => match k with
  | 0 => .int
  | 1 => .array .int
  | 2 => .array .int
  | 3 => .array .int
  | 4 => .array .int
  | 5 => .int
  | 6 => .array .int
  | 7 => .array .int
  | 8 => .array .int
  | 9 => .array .int
  | 10 => .array .int
  | 11 => .array .int
  | 12 => .int
  | 13 => .int
  | 14 => .array .int
  | 15 => .boolean
  | 16 => .int
  | 17 => .array .int
  | 18 => .array .int
  | 19 => .array .int
  | 20 => .array .int
  | 21 => .int
  | 22 => .int
  | 23 => .int
  | 24 => .int
  | 25 => .array .int
  | 26 => .array .int
  | 27 => .array .int
  | 28 => .array .int
  | 29 => .array .int
  | 30 => .array .int
  | 31 => .array .int
  | 32 => .boolean
  | 33 => .int
  | 34 => .int
  | 35 => .array .int
  | 36 => .array .int
  | 37 => .int
  | 38 => .int
  | 39 => .array .int
  | 40 => .int
  | 41 => .array .int
  | 42 => .int
  | 43 => .array .int
  | 44 => .array .int
  | 45 => .array .int
  | 46 => .array .long
  | 47 => .array .int
  | 48 => .array .int
  | 49 => .array .int
  | 50 => .array .int
  | _ => .array .int
abbrev wsX110 : List Cond := u_ws RX11 TX11 52
theorem nmX11 : ∀ a, a < 52 → ∀ b, b < 52 → a ≠ b → (TX11 a).2.1 ≠ (TX11 b).2.1 := by decide +kernel
theorem tyX11_ok : ∀ k, k < 52 → parseFieldDescriptor (TX11 k).2.2.1 = some (tyX11 k) := by decide +kernel
abbrev cX11_init : ByteArray := prog_13_method_1_code
def yX11_init : MethodName := ⟨RX11, "<init>", "()V"⟩
abbrev cX11_within : ByteArray := prog_13_method_2_code
def yX11_within : MethodName := ⟨RX11, "within", "(III)Z"⟩
abbrev cX11_isDoor : ByteArray := prog_13_method_3_code
def yX11_isDoor : MethodName := ⟨RX11, "isDoor", "(I)Z"⟩
abbrev cX11_isChild : ByteArray := prog_13_method_4_code
def yX11_isChild : MethodName := ⟨RX11, "isChild", "(I)Z"⟩
abbrev cX11_isRule : ByteArray := prog_13_method_5_code
def yX11_isRule : MethodName := ⟨RX11, "isRule", "(I)Z"⟩
abbrev cX11_isOne : ByteArray := prog_13_method_6_code
def yX11_isOne : MethodName := ⟨RX11, "isOne", "(I)Z"⟩
abbrev cX11_isDay : ByteArray := prog_13_method_7_code
def yX11_isDay : MethodName := ⟨RX11, "isDay", "(I)Z"⟩
abbrev cX11_isShelf : ByteArray := prog_13_method_8_code
def yX11_isShelf : MethodName := ⟨RX11, "isShelf", "(I)Z"⟩
abbrev cX11_has : ByteArray := prog_13_method_9_code
def yX11_has : MethodName := ⟨RX11, "has", "(II)Z"⟩
abbrev cX11_newDoor : ByteArray := prog_13_method_10_code
def yX11_newDoor : MethodName := ⟨RX11, "newDoor", "(III)I"⟩
abbrev cX11_door : ByteArray := prog_13_method_11_code
def yX11_door : MethodName := ⟨RX11, "door", "(II)I"⟩
abbrev cX11_doors : ByteArray := prog_13_method_12_code
def yX11_doors : MethodName := ⟨RX11, "doors", "(III)I"⟩
abbrev cX11_child : ByteArray := prog_13_method_13_code
def yX11_child : MethodName := ⟨RX11, "child", "(II)I"⟩
abbrev cX11_isOf : ByteArray := prog_13_method_14_code
def yX11_isOf : MethodName := ⟨RX11, "isOf", "(II)Z"⟩
abbrev cX11_isFit : ByteArray := prog_13_method_15_code
def yX11_isFit : MethodName := ⟨RX11, "isFit", "(II)Z"⟩
abbrev cX11_get : ByteArray := prog_13_method_16_code
def yX11_get : MethodName := ⟨RX11, "get", "(II)I"⟩
abbrev cX11_becomes : ByteArray := prog_13_method_17_code
def yX11_becomes : MethodName := ⟨RX11, "becomes", "(III)V"⟩
abbrev cX11_mend : ByteArray := prog_13_method_18_code
def yX11_mend : MethodName := ⟨RX11, "mend", "(III)I"⟩
abbrev cX11_of : ByteArray := prog_13_method_19_code
def yX11_of : MethodName := ⟨RX11, "of", "(II)I"⟩
abbrev cX11_undo : ByteArray := prog_13_method_20_code
def yX11_undo : MethodName := ⟨RX11, "undo", "()I"⟩
abbrev cX11_redo : ByteArray := prog_13_method_21_code
def yX11_redo : MethodName := ⟨RX11, "redo", "()I"⟩
abbrev cX11_feed : ByteArray := prog_13_method_22_code
def yX11_feed : MethodName := ⟨RX11, "feed", "(I)I"⟩
abbrev cX11_sign : ByteArray := prog_13_method_23_code
def yX11_sign : MethodName := ⟨RX11, "sign", "()I"⟩
abbrev cX11_is : ByteArray := prog_13_method_24_code
def yX11_is : MethodName := ⟨RX11, "is", "(I)Z"⟩
abbrev cX11_codes : ByteArray := prog_13_method_25_code
def yX11_codes : MethodName := ⟨RX11, "codes", "(I)Z"⟩
abbrev cX11_isDigit : ByteArray := prog_13_method_26_code
def yX11_isDigit : MethodName := ⟨RX11, "isDigit", "()Z"⟩
abbrev cX11_nameOf : ByteArray := prog_13_method_27_code
def yX11_nameOf : MethodName := ⟨RX11, "nameOf", "(I)I"⟩
abbrev cX11_isO : ByteArray := prog_13_method_28_code
def yX11_isO : MethodName := ⟨RX11, "isO", "()Z"⟩
abbrev cX11_isP : ByteArray := prog_13_method_29_code
def yX11_isP : MethodName := ⟨RX11, "isP", "()Z"⟩
abbrev cX11_isS : ByteArray := prog_13_method_30_code
def yX11_isS : MethodName := ⟨RX11, "isS", "()Z"⟩
abbrev cX11_isB : ByteArray := prog_13_method_31_code
def yX11_isB : MethodName := ⟨RX11, "isB", "()Z"⟩
abbrev cX11_isA : ByteArray := prog_13_method_32_code
def yX11_isA : MethodName := ⟨RX11, "isA", "()Z"⟩
abbrev cX11_isE : ByteArray := prog_13_method_33_code
def yX11_isE : MethodName := ⟨RX11, "isE", "()Z"⟩
abbrev cX11_isLine : ByteArray := prog_13_method_34_code
def yX11_isLine : MethodName := ⟨RX11, "isLine", "()Z"⟩
abbrev cX11_law : ByteArray := prog_13_method_35_code
def yX11_law : MethodName := ⟨RX11, "law", "()I"⟩
abbrev cX11_both : ByteArray := prog_13_method_36_code
def yX11_both : MethodName := ⟨RX11, "both", "(III)I"⟩
abbrev cX11_worked : ByteArray := prog_13_method_37_code
def yX11_worked : MethodName := ⟨RX11, "worked", "(II)I"⟩
abbrev cX11_worthOf : ByteArray := prog_13_method_38_code
def yX11_worthOf : MethodName := ⟨RX11, "worthOf", "(III)I"⟩
abbrev cX11_worth : ByteArray := prog_13_method_39_code
def yX11_worth : MethodName := ⟨RX11, "worth", "(II)I"⟩
abbrev cX11_isAway : ByteArray := prog_13_method_40_code
def yX11_isAway : MethodName := ⟨RX11, "isAway", "(II)Z"⟩
abbrev cX11_late : ByteArray := prog_13_method_41_code
def yX11_late : MethodName := ⟨RX11, "late", "(II)I"⟩
abbrev cX11_eaten : ByteArray := prog_13_method_42_code
def yX11_eaten : MethodName := ⟨RX11, "eaten", "(II)I"⟩
abbrev cX11_orders : ByteArray := prog_13_method_43_code
def yX11_orders : MethodName := ⟨RX11, "orders", "(II)V"⟩
abbrev cX11_ages : ByteArray := prog_13_method_44_code
def yX11_ages : MethodName := ⟨RX11, "ages", "()V"⟩
abbrev cX11_goesTo : ByteArray := prog_13_method_45_code
def yX11_goesTo : MethodName := ⟨RX11, "goesTo", "(II)I"⟩
abbrev cX11_goes : ByteArray := prog_13_method_46_code
def yX11_goes : MethodName := ⟨RX11, "goes", "(III)V"⟩
abbrev cX11_gives : ByteArray := prog_13_method_47_code
def yX11_gives : MethodName := ⟨RX11, "gives", "(I)V"⟩
abbrev cX11_sums : ByteArray := prog_13_method_48_code
def yX11_sums : MethodName := ⟨RX11, "sums", "()V"⟩
abbrev cX11_unfair : ByteArray := prog_13_method_49_code
def yX11_unfair : MethodName := ⟨RX11, "unfair", "()I"⟩
abbrev cX11_together : ByteArray := prog_13_method_50_code
def yX11_together : MethodName := ⟨RX11, "together", "()I"⟩
abbrev cX11_worthTo : ByteArray := prog_13_method_51_code
def yX11_worthTo : MethodName := ⟨RX11, "worthTo", "(II)I"⟩
abbrev cX11_envy : ByteArray := prog_13_method_52_code
def yX11_envy : MethodName := ⟨RX11, "envy", "()I"⟩
abbrev cX11_whose : ByteArray := prog_13_method_53_code
def yX11_whose : MethodName := ⟨RX11, "whose", "(I)I"⟩
abbrev cX11_all : ByteArray := prog_13_method_54_code
def yX11_all : MethodName := ⟨RX11, "all", "(I)I"⟩
abbrev cX11_giving : ByteArray := prog_13_method_55_code
def yX11_giving : MethodName := ⟨RX11, "giving", "(II)I"⟩
abbrev cX11_bestRule : ByteArray := prog_13_method_56_code
def yX11_bestRule : MethodName := ⟨RX11, "bestRule", "(I)I"⟩
abbrev cX11_isMuch : ByteArray := prog_13_method_57_code
def yX11_isMuch : MethodName := ⟨RX11, "isMuch", "()Z"⟩
abbrev cX11_nextGiving : ByteArray := prog_13_method_58_code
def yX11_nextGiving : MethodName := ⟨RX11, "nextGiving", "()Z"⟩
abbrev cX11_fairest : ByteArray := prog_13_method_59_code
def yX11_fairest : MethodName := ⟨RX11, "fairest", "(I)I"⟩
abbrev cX11_envyFree : ByteArray := prog_13_method_60_code
def yX11_envyFree : MethodName := ⟨RX11, "envyFree", "()I"⟩
abbrev cX11_bothMore : ByteArray := prog_13_method_61_code
def yX11_bothMore : MethodName := ⟨RX11, "bothMore", "(II)Z"⟩
abbrev cX11_firstSwap : ByteArray := prog_13_method_62_code
def yX11_firstSwap : MethodName := ⟨RX11, "firstSwap", "()I"⟩
abbrev cX11_swap : ByteArray := prog_13_method_63_code
def yX11_swap : MethodName := ⟨RX11, "swap", "(I)I"⟩
abbrev cX11_swaps : ByteArray := prog_13_method_64_code
def yX11_swaps : MethodName := ⟨RX11, "swaps", "(II)I"⟩
abbrev cX11_big : ByteArray := prog_13_method_65_code
def yX11_big : MethodName := ⟨RX11, "big", "(II)I"⟩
abbrev cX11_away : ByteArray := prog_13_method_66_code
def yX11_away : MethodName := ⟨RX11, "away", "(II)I"⟩
abbrev cX11_gathered : ByteArray := prog_13_method_67_code
def yX11_gathered : MethodName := ⟨RX11, "gathered", "(II)I"⟩
abbrev cX11_gather : ByteArray := prog_13_method_68_code
def yX11_gather : MethodName := ⟨RX11, "gather", "(II)I"⟩
abbrev cX11_waits : ByteArray := prog_13_method_69_code
def yX11_waits : MethodName := ⟨RX11, "waits", "(II)I"⟩
abbrev cX11_noRow : ByteArray := prog_13_method_70_code
def yX11_noRow : MethodName := ⟨RX11, "noRow", "(I)I"⟩
abbrev cX11_toldAt : ByteArray := prog_13_method_71_code
def yX11_toldAt : MethodName := ⟨RX11, "toldAt", "(II)I"⟩
abbrev cX11_early : ByteArray := prog_13_method_72_code
def yX11_early : MethodName := ⟨RX11, "early", "(II)I"⟩
abbrev cX11_couldBe : ByteArray := prog_13_method_73_code
def yX11_couldBe : MethodName := ⟨RX11, "couldBe", "(II)I"⟩
abbrev cX11_atFive : ByteArray := prog_13_method_74_code
def yX11_atFive : MethodName := ⟨RX11, "atFive", "(IIII)I"⟩
abbrev cX11_guard : ByteArray := prog_13_method_75_code
def yX11_guard : MethodName := ⟨RX11, "guard", "(IIII)I"⟩
abbrev cX11_wrong : ByteArray := prog_13_method_76_code
def yX11_wrong : MethodName := ⟨RX11, "wrong", "(II)I"⟩
abbrev cX11_judge : ByteArray := prog_13_method_77_code
def yX11_judge : MethodName := ⟨RX11, "judge", "(II)I"⟩
abbrev cX11_byWhat : ByteArray := prog_13_method_78_code
def yX11_byWhat : MethodName := ⟨RX11, "byWhat", "(I)I"⟩
abbrev cX11_second : ByteArray := prog_13_method_79_code
def yX11_second : MethodName := ⟨RX11, "second", "(II)I"⟩
abbrev cX11_pairs : ByteArray := prog_13_method_80_code
def yX11_pairs : MethodName := ⟨RX11, "pairs", "(II)I"⟩
abbrev cX11_drawn : ByteArray := prog_13_method_81_code
def yX11_drawn : MethodName := ⟨RX11, "drawn", "(III)I"⟩
abbrev cX11_day : ByteArray := prog_13_method_82_code
def yX11_day : MethodName := ⟨RX11, "day", "()I"⟩
abbrev cX11_open : ByteArray := prog_13_method_83_code
def yX11_open : MethodName := ⟨RX11, "open", "(II)I"⟩
abbrev cX11_forgotten : ByteArray := prog_13_method_84_code
def yX11_forgotten : MethodName := ⟨RX11, "forgotten", "()I"⟩
abbrev cX11_led : ByteArray := prog_13_method_85_code
def yX11_led : MethodName := ⟨RX11, "led", "(I)I"⟩
abbrev cX11_image : ByteArray := prog_13_method_86_code
def yX11_image : MethodName := ⟨RX11, "image", "()I"⟩
abbrev cX11_back : ByteArray := prog_13_method_87_code
def yX11_back : MethodName := ⟨RX11, "back", "()I"⟩
abbrev cX11_above : ByteArray := prog_13_method_88_code
def yX11_above : MethodName := ⟨RX11, "above", "(I)I"⟩
abbrev cX11_ran : ByteArray := prog_13_method_89_code
def yX11_ran : MethodName := ⟨RX11, "ran", "(I)V"⟩
abbrev cX11_opensBy : ByteArray := prog_13_method_90_code
def yX11_opensBy : MethodName := ⟨RX11, "opensBy", "(III)I"⟩
abbrev cX11_givesBy : ByteArray := prog_13_method_91_code
def yX11_givesBy : MethodName := ⟨RX11, "givesBy", "(III)I"⟩
abbrev cX11_waitsBy : ByteArray := prog_13_method_92_code
def yX11_waitsBy : MethodName := ⟨RX11, "waitsBy", "(III)I"⟩
abbrev cX11_tells : ByteArray := prog_13_method_93_code
def yX11_tells : MethodName := ⟨RX11, "tells", "(III)I"⟩
abbrev cX11_body : ByteArray := prog_13_method_94_code
def yX11_body : MethodName := ⟨RX11, "body", "(I)I"⟩
abbrev cX11_act : ByteArray := prog_13_method_95_code
def yX11_act : MethodName := ⟨RX11, "act", "(III)I"⟩
abbrev cX11_trace : ByteArray := prog_13_method_96_code
def yX11_trace : MethodName := ⟨RX11, "trace", "(I)I"⟩
abbrev cX11_keep : ByteArray := prog_13_method_97_code
def yX11_keep : MethodName := ⟨RX11, "keep", "(II)I"⟩
abbrev cX11_row : ByteArray := prog_13_method_98_code
def yX11_row : MethodName := ⟨RX11, "row", "(III)I"⟩
abbrev cX11_isRow : ByteArray := prog_13_method_99_code
def yX11_isRow : MethodName := ⟨RX11, "isRow", "(I)Z"⟩
abbrev cX11_kept : ByteArray := prog_13_method_100_code
def yX11_kept : MethodName := ⟨RX11, "kept", "(IJ)J"⟩
abbrev cX11_put : ByteArray := prog_13_method_101_code
def yX11_put : MethodName := ⟨RX11, "put", "(IIJ)I"⟩
abbrev cX11_element : ByteArray := prog_13_method_102_code
def yX11_element : MethodName := ⟨RX11, "element", "(II)J"⟩
abbrev cX11_shift : ByteArray := prog_13_method_103_code
def yX11_shift : MethodName := ⟨RX11, "shift", "(IIIII)I"⟩
abbrev cX11_taken : ByteArray := prog_13_method_104_code
def yX11_taken : MethodName := ⟨RX11, "taken", "(II)I"⟩
abbrev cX11_count : ByteArray := prog_13_method_105_code
def yX11_count : MethodName := ⟨RX11, "count", "(I)I"⟩
def RJx145de : String := "java/io/Serializable"
def TJx145de : u_T := fun k => match k with
  | _ => ("", "", "", false)
def tyJx145de : Nat → FieldType := fun k => match k with
  | _ => .int
def RJx9f9b0 : String := "java/lang/CharSequence"
def TJx9f9b0 : u_T := fun k => match k with
  | _ => ("", "", "", false)
def tyJx9f9b0 : Nat → FieldType := fun k => match k with
  | _ => .int
def RJ11 : String := "java/lang/Character"
def TJ11 : u_T := fun k => match k with
  | _ => ("", "", "", false)
def tyJ11 : Nat → FieldType := fun k => match k with
  | _ => .int
abbrev cJ11_isValidCodePoint_9a6ad : ByteArray := prog_14_method_11_code
def yJ11_isValidCodePoint_9a6ad : MethodName := ⟨RJ11, "isValidCodePoint", "(I)Z"⟩
abbrev cJ11_highSurrogate_5068e : ByteArray := prog_14_method_28_code
def yJ11_highSurrogate_5068e : MethodName := ⟨RJ11, "highSurrogate", "(I)C"⟩
abbrev cJ11_lowSurrogate_5068e : ByteArray := prog_14_method_29_code
def yJ11_lowSurrogate_5068e : MethodName := ⟨RJ11, "lowSurrogate", "(I)C"⟩
def RJxb160c : String := "java/lang/Comparable"
def TJxb160c : u_T := fun k => match k with
  | _ => ("", "", "", false)
def tyJxb160c : Nat → FieldType := fun k => match k with
  | _ => .int
def RJ6 : String := "java/lang/Integer"
def TJ6 : u_T := fun k => match k with
  | _ => ("", "", "", false)
def tyJ6 : Nat → FieldType := fun k => match k with
  | _ => .int
abbrev cJ6_numberOfTrailingZeros_0f7a4 : ByteArray := prog_15_method_48_code
def yJ6_numberOfTrailingZeros_0f7a4 : MethodName := ⟨RJ6, "numberOfTrailingZeros", "(I)I"⟩
abbrev cJ6_bitCount_0f7a4 : ByteArray := prog_15_method_49_code
def yJ6_bitCount_0f7a4 : MethodName := ⟨RJ6, "bitCount", "(I)I"⟩
def RJ9 : String := "java/lang/Math"
def TJ9 : u_T := fun k => match k with
  | _ => ("", "", "", false)
def tyJ9 : Nat → FieldType := fun k => match k with
  | _ => .int
abbrev cJ9_max_7cf53 : ByteArray := prog_16_method_65_code
def yJ9_max_7cf53 : MethodName := ⟨RJ9, "max", "(II)I"⟩
abbrev cJ9_min_7cf53 : ByteArray := prog_16_method_69_code
def yJ9_min_7cf53 : MethodName := ⟨RJ9, "min", "(II)I"⟩
def RJ0 : String := "java/lang/String"
def TJ0 : u_T := fun k => match k with
  | _ => ("", "", "", false)
def tyJ0 : Nat → FieldType := fun k => match k with
  | _ => .int
abbrev cJ0_length_8abf5 : ByteArray := prog_17_method_54_code
def yJ0_length_8abf5 : MethodName := ⟨RJ0, "length", "()I"⟩
abbrev cJ0_indexOf_0f7a4 : ByteArray := prog_17_method_79_code
def yJ0_indexOf_0f7a4 : MethodName := ⟨RJ0, "indexOf", "(I)I"⟩
abbrev cJ0_indexOf_7cf53 : ByteArray := prog_17_method_80_code
def yJ0_indexOf_7cf53 : MethodName := ⟨RJ0, "indexOf", "(II)I"⟩
abbrev cJ0_coder_7d493 : ByteArray := prog_17_method_152_code
def yJ0_coder_7d493 : MethodName := ⟨RJ0, "coder", "()B"⟩
abbrev cJ0_isLatin1_aae02 : ByteArray := prog_17_method_154_code
def yJ0_isLatin1_aae02 : MethodName := ⟨RJ0, "isLatin1", "()Z"⟩
abbrev cJ0_checkBoundsBeginEnd_23922 : ByteArray := prog_17_method_158_code
def yJ0_checkBoundsBeginEnd_23922 : MethodName := ⟨RJ0, "checkBoundsBeginEnd", "(III)V"⟩
def RJ1 : String := "java/lang/StringLatin1"
def TJ1 : u_T := fun k => match k with
  | _ => ("", "", "", false)
def tyJ1 : Nat → FieldType := fun k => match k with
  | _ => .int
abbrev cJ1_canEncode_9a6ad : ByteArray := prog_18_method_4_code
def yJ1_canEncode_9a6ad : MethodName := ⟨RJ1, "canEncode", "(I)Z"⟩
abbrev cJ1_indexOf_4cfef : ByteArray := prog_18_method_22_code
def yJ1_indexOf_4cfef : MethodName := ⟨RJ1, "indexOf", "([BIII)I"⟩
abbrev cJ1_indexOfChar_4cfef : ByteArray := prog_18_method_23_code
def yJ1_indexOfChar_4cfef : MethodName := ⟨RJ1, "indexOfChar", "([BIII)I"⟩
def RJ2 : String := "java/lang/StringUTF16"
def TJ2 : u_T := fun k => match k with
  | _ => ("", "", "", false)
def tyJ2 : Nat → FieldType := fun k => match k with
  | _ => .int
abbrev cJ2_getChar_3b067 : ByteArray := prog_19_method_5_code
def yJ2_getChar_3b067 : MethodName := ⟨RJ2, "getChar", "([BI)C"⟩
abbrev cJ2_length_9d52b : ByteArray := prog_19_method_6_code
def yJ2_length_9d52b : MethodName := ⟨RJ2, "length", "([B)I"⟩
abbrev cJ2_indexOf_4cfef : ByteArray := prog_19_method_40_code
def yJ2_indexOf_4cfef : MethodName := ⟨RJ2, "indexOf", "([BIII)I"⟩
abbrev cJ2_indexOfChar_4cfef : ByteArray := prog_19_method_47_code
def yJ2_indexOfChar_4cfef : MethodName := ⟨RJ2, "indexOfChar", "([BIII)I"⟩
abbrev cJ2_indexOfCharUnsafe_4cfef : ByteArray := prog_19_method_48_code
def yJ2_indexOfCharUnsafe_4cfef : MethodName := ⟨RJ2, "indexOfCharUnsafe", "([BIII)I"⟩
abbrev cJ2_indexOfSupplementary_4cfef : ByteArray := prog_19_method_49_code
def yJ2_indexOfSupplementary_4cfef : MethodName := ⟨RJ2, "indexOfSupplementary", "([BIII)I"⟩
abbrev cJ2_checkBoundsBeginEnd_d044e : ByteArray := prog_19_method_93_code
def yJ2_checkBoundsBeginEnd_d044e : MethodName := ⟨RJ2, "checkBoundsBeginEnd", "(II[B)V"⟩
def RJ10 : String := "java/lang/System"
def TJ10 : u_T := fun k => match k with
  | _ => ("", "", "", false)
def tyJ10 : Nat → FieldType := fun k => match k with
  | _ => .int
def RJxfd54e : String := "java/lang/constant/Constable"
def TJxfd54e : u_T := fun k => match k with
  | _ => ("", "", "", false)
def tyJxfd54e : Nat → FieldType := fun k => match k with
  | _ => .int
def RJx3cf43 : String := "java/lang/constant/ConstantDesc"
def TJx3cf43 : u_T := fun k => match k with
  | _ => ("", "", "", false)
def tyJx3cf43 : Nat → FieldType := fun k => match k with
  | _ => .int
def RJ7 : String := "java/util/Arrays"
def TJ7 : u_T := fun k => match k with
  | _ => ("", "", "", false)
def tyJ7 : Nat → FieldType := fun k => match k with
  | _ => .int
abbrev cJ7_fill_d0a16 : ByteArray := prog_21_method_101_code
def yJ7_fill_d0a16 : MethodName := ⟨RJ7, "fill", "([JJ)V"⟩
abbrev cJ7_fill_53178 : ByteArray := prog_21_method_103_code
def yJ7_fill_53178 : MethodName := ⟨RJ7, "fill", "([II)V"⟩
def RJ3 : String := "jdk/internal/util/Preconditions"
def TJ3 : u_T := fun k => match k with
  | _ => ("", "", "", false)
def tyJ3 : Nat → FieldType := fun k => match k with
  | _ => .int
abbrev cJ3_checkFromToIndex_8c36e : ByteArray := prog_22_method_12_code
def yJ3_checkFromToIndex_8c36e : MethodName := ⟨RJ3, "checkFromToIndex", "(IIILjava/util/function/BiFunction;)I"⟩
def RL : String := "DoorsForThreeLaw"
abbrev cL_law : ByteArray := code
def yL_law : MethodName := ⟨RL, "law", "([I)Z"⟩
abbrev vwCl : List vw_C := [(RX0, TX0, 4), (RX1, TX1, 3), (RX2, TX2, 12), (RX3, TX3, 10), (RX4, TX4, 13), (RX5, TX5, 10), (RX6, TX6, 4), (RX7, TX7, 5), (RX8, TX8, 2), (RX9, TX9, 3), (RX10, TX10, 10), (RX11, TX11, 52)]
end
section
/-! the cells of the class and of the reference, numbered; references between them -/
abbrev am_cl : List (Nat × Nat × Nat × Nat) := [
  (1, 10, 10, 0), -- 0 DoorsForThree
  (1, 0, 4, 0), -- 1 DoorsForThree$Calendar
  (4, 10, 3, 1), -- 2 DoorsForThree$Calendar.numbers
  (2, 12, 0, 0), -- 3 DoorsForThree$Calendar.numbers[0]
  (2, 12, 0, 0), -- 4 DoorsForThree$Calendar.numbers[1]
  (2, 12, 0, 0), -- 5 DoorsForThree$Calendar.numbers[2]
  (2, 12, 0, 0), -- 6 DoorsForThree$Calendar.numbers[3]
  (2, 12, 0, 0), -- 7 DoorsForThree$Calendar.numbers[4]
  (2, 12, 0, 0), -- 8 DoorsForThree$Calendar.numbers[5]
  (2, 12, 0, 0), -- 9 DoorsForThree$Calendar.numbers[6]
  (2, 12, 0, 0), -- 10 DoorsForThree$Calendar.numbers[7]
  (2, 12, 0, 0), -- 11 DoorsForThree$Calendar.numbers[8]
  (2, 12, 0, 0), -- 12 DoorsForThree$Calendar.numbers[9]
  (1, 1, 3, 0), -- 13 DoorsForThree$Changes
  (2, 160, 0, 0), -- 14 DoorsForThree$Changes.kept
  (1, 5, 10, 0), -- 15 DoorsForThree$Law
  (2, 120, 0, 0), -- 16 DoorsForThree$Law.tape
  (2, 121, 0, 0), -- 17 DoorsForThree$Law.draft
  (2, 121, 0, 0), -- 18 DoorsForThree$Law.steps
  (2, 121, 0, 0), -- 19 DoorsForThree$Law.stack
  (1, 9, 3, 0), -- 20 DoorsForThree$Worths
  (2, 6, 0, 0), -- 21 DoorsForThree$Worths.named
  (1, 4, 13, 0), -- 22 DoorsForThree$Givings
  (2, 12, 0, 0), -- 23 DoorsForThree$Givings.byDay
  (2, 5, 0, 0), -- 24 DoorsForThree$Givings.byAge
  (4, 5, 26, 1), -- 25 DoorsForThree$Givings.eaten
  (2, 12, 0, 0), -- 26 DoorsForThree$Givings.eaten[0]
  (2, 12, 0, 0), -- 27 DoorsForThree$Givings.eaten[1]
  (2, 12, 0, 0), -- 28 DoorsForThree$Givings.eaten[2]
  (2, 12, 0, 0), -- 29 DoorsForThree$Givings.eaten[3]
  (2, 12, 0, 0), -- 30 DoorsForThree$Givings.eaten[4]
  (4, 5, 32, 1), -- 31 DoorsForThree$Givings.given
  (2, 12, 0, 0), -- 32 DoorsForThree$Givings.given[0]
  (2, 12, 0, 0), -- 33 DoorsForThree$Givings.given[1]
  (2, 12, 0, 0), -- 34 DoorsForThree$Givings.given[2]
  (2, 12, 0, 0), -- 35 DoorsForThree$Givings.given[3]
  (2, 12, 0, 0), -- 36 DoorsForThree$Givings.given[4]
  (4, 5, 38, 1), -- 37 DoorsForThree$Givings.sums
  (2, 5, 0, 0), -- 38 DoorsForThree$Givings.sums[0]
  (2, 5, 0, 0), -- 39 DoorsForThree$Givings.sums[1]
  (2, 5, 0, 0), -- 40 DoorsForThree$Givings.sums[2]
  (2, 5, 0, 0), -- 41 DoorsForThree$Givings.sums[3]
  (2, 5, 0, 0), -- 42 DoorsForThree$Givings.sums[4]
  (2, 5, 0, 0), -- 43 DoorsForThree$Givings.offered
  (2, 12, 0, 0), -- 44 DoorsForThree$Givings.tried
  (2, 5, 0, 0), -- 45 DoorsForThree$Givings.triedSums
  (2, 12, 0, 0), -- 46 DoorsForThree$Givings.mine
  (1, 3, 10, 0), -- 47 DoorsForThree$Fairest
  (4, 3, 49, 1), -- 48 DoorsForThree$Fairest.eaten
  (2, 8, 0, 0), -- 49 DoorsForThree$Fairest.eaten[0]
  (2, 8, 0, 0), -- 50 DoorsForThree$Fairest.eaten[1]
  (2, 8, 0, 0), -- 51 DoorsForThree$Fairest.eaten[2]
  (2, 8, 0, 0), -- 52 DoorsForThree$Fairest.whose
  (2, 8, 0, 0), -- 53 DoorsForThree$Fairest.fairest
  (4, 3, 55, 1), -- 54 DoorsForThree$Fairest.held
  (2, 3, 0, 0), -- 55 DoorsForThree$Fairest.held[0]
  (2, 3, 0, 0), -- 56 DoorsForThree$Fairest.held[1]
  (2, 3, 0, 0), -- 57 DoorsForThree$Fairest.held[2]
  (1, 8, 2, 0), -- 58 DoorsForThree$Signs
  (1, 2, 12, 0), -- 59 DoorsForThree$Deeds
  (2, 12, 0, 0), -- 60 DoorsForThree$Deeds.openers
  (2, 12, 0, 0), -- 61 DoorsForThree$Deeds.imageOpeners
  (1, 6, 4, 0), -- 62 DoorsForThree$Pictures
  (2, 50, 0, 0), -- 63 DoorsForThree$Pictures.kinds
  (2, 24, 0, 0), -- 64 DoorsForThree$Pictures.trace
  (4, 6, 66, 2), -- 65 DoorsForThree.shelves
  (1, 7, 5, 0), -- 66 Shelf 0
  (3, 60, 0, 0), -- 67 Shelf 0.cells
  (1, 7, 5, 0), -- 68 Shelf 1
  (3, 60, 0, 0), -- 69 Shelf 1.cells
  (1, 7, 5, 0), -- 70 Shelf 2
  (3, 60, 0, 0), -- 71 Shelf 2.cells
  (1, 7, 5, 0), -- 72 Shelf 3
  (3, 60, 0, 0), -- 73 Shelf 3.cells
  (1, 7, 5, 0), -- 74 Shelf 4
  (3, 60, 0, 0), -- 75 Shelf 4.cells
  (1, 7, 5, 0), -- 76 Shelf 5
  (3, 60, 0, 0), -- 77 Shelf 5.cells
  (1, 11, 52, 0), -- 78 DoorsForThreeModel
  (2, 24, 0, 0), -- 79 DoorsForThreeModel.day
  (2, 24, 0, 0), -- 80 DoorsForThreeModel.what
  (2, 24, 0, 0), -- 81 DoorsForThreeModel.size
  (2, 12, 0, 0), -- 82 DoorsForThreeModel.opener
  (2, 5, 0, 0), -- 83 DoorsForThreeModel.age
  (2, 5, 0, 0), -- 84 DoorsForThreeModel.likes
  (2, 5, 0, 0), -- 85 DoorsForThreeModel.holds
  (2, 5, 0, 0), -- 86 DoorsForThreeModel.from
  (2, 5, 0, 0), -- 87 DoorsForThreeModel.till
  (2, 2, 0, 0), -- 88 DoorsForThreeModel.ways
  (2, 120, 0, 0), -- 89 DoorsForThreeModel.tape
  (2, 60, 0, 0), -- 90 DoorsForThreeModel.asks
  (2, 60, 0, 0), -- 91 DoorsForThreeModel.says
  (2, 60, 0, 0), -- 92 DoorsForThreeModel.ends
  (2, 200, 0, 0), -- 93 DoorsForThreeModel.code
  (2, 61, 0, 0), -- 94 DoorsForThreeModel.newAsks
  (2, 61, 0, 0), -- 95 DoorsForThreeModel.newSays
  (2, 61, 0, 0), -- 96 DoorsForThreeModel.newEnds
  (2, 200, 0, 0), -- 97 DoorsForThreeModel.newCode
  (2, 200, 0, 0), -- 98 DoorsForThreeModel.stack
  (2, 6, 0, 0), -- 99 DoorsForThreeModel.names
  (2, 3, 0, 0), -- 100 DoorsForThreeModel.led
  (2, 12, 0, 0), -- 101 DoorsForThreeModel.oldOpener
  (2, 3, 0, 0), -- 102 DoorsForThreeModel.oldLed
  (2, 160, 0, 0), -- 103 DoorsForThreeModel.changed
  (2, 50, 0, 0), -- 104 DoorsForThreeModel.kind
  (2, 24, 0, 0), -- 105 DoorsForThreeModel.traces
  (2, 6, 0, 0), -- 106 DoorsForThreeModel.holding
  (2, 6, 0, 0), -- 107 DoorsForThreeModel.rowLength
  (3, 360, 0, 0), -- 108 DoorsForThreeModel.rowOf
  (2, 24, 0, 0), -- 109 DoorsForThreeModel.order
  (2, 24, 0, 0), -- 110 DoorsForThreeModel.whose
  (2, 5, 0, 0), -- 111 DoorsForThreeModel.all
  (2, 5, 0, 0), -- 112 DoorsForThreeModel.eldest
  (2, 12, 0, 0), -- 113 DoorsForThreeModel.best
  (5, 10, 0, 0), -- 114 static LEAST
  (5, 10, 0, 0), -- 115 static MOST
  (5, 8, 0, 0), -- 116 static ABOVE
  (6, 0, 0, 0), -- 117 script
  (7, 1, 128, 0), -- 118 text
  (7, 3, 129, 0), -- 119 text
  (7, 1, 130, 0), -- 120 text
  (7, 3, 131, 0), -- 121 text
  (7, 2, 132, 0), -- 122 text
  (7, 1, 133, 0), -- 123 text
  (7, 3, 134, 0), -- 124 text
  (7, 1, 135, 0), -- 125 text
  (7, 6, 136, 0), -- 126 text
  (7, 1, 137, 0), -- 127 text
  (8, 1, 0, 0), -- 128 text
  (8, 3, 0, 0), -- 129 text
  (8, 1, 0, 0), -- 130 text
  (8, 3, 0, 0), -- 131 text
  (8, 2, 0, 0), -- 132 text
  (8, 1, 0, 0), -- 133 text
  (8, 3, 0, 0), -- 134 text
  (8, 1, 0, 0), -- 135 text
  (8, 6, 0, 0), -- 136 text
  (8, 1, 0, 0) -- 137 text
  ]
abbrev am_rl : List (List Nat) := [
  [1, 13, 15, 20, 22, 47, 58, 59, 62, 65],
  [2],
  [],
  [],
  [],
  [],
  [],
  [],
  [],
  [],
  [],
  [],
  [],
  [14],
  [],
  [16, 0, 0, 17, 0, 18, 0, 0, 19],
  [],
  [],
  [],
  [],
  [1, 15, 21],
  [],
  [1, 20, 0, 23, 24, 25, 31, 37, 43, 44, 45, 46],
  [],
  [],
  [],
  [],
  [],
  [],
  [],
  [],
  [],
  [],
  [],
  [],
  [],
  [],
  [],
  [],
  [],
  [],
  [],
  [],
  [],
  [],
  [],
  [],
  [1, 22, 0, 48, 52, 53, 54],
  [],
  [],
  [],
  [],
  [],
  [],
  [],
  [],
  [],
  [],
  [1, 22],
  [1, 60, 0, 0, 0, 0, 0, 61],
  [],
  [],
  [63, 0, 64],
  [],
  [],
  [],
  [0, 0, 0, 0, 67],
  [],
  [0, 0, 0, 0, 69],
  [],
  [0, 0, 0, 0, 71],
  [],
  [0, 0, 0, 0, 73],
  [],
  [0, 0, 0, 0, 75],
  [],
  [0, 0, 0, 0, 77],
  [],
  [0, 79, 80, 81, 82, 0, 83, 84, 85, 86, 87, 88, 0, 0, 89, 0, 0, 90, 91, 92, 93, 0, 0, 0, 0, 94, 95, 96, 97, 98, 99, 100, 0, 0, 0, 101, 102, 0, 0, 103, 0, 104, 0, 105, 106, 107, 108, 109, 110, 111, 112, 113],
  [],
  [],
  [],
  [],
  [],
  [],
  [],
  [],
  [],
  [],
  [],
  [],
  [],
  [],
  [],
  [],
  [],
  [],
  [],
  [],
  [],
  [],
  [],
  [],
  [],
  [],
  [],
  [],
  [],
  [],
  [],
  [],
  [],
  [],
  [],
  [],
  [],
  [],
  [],
  [128],
  [129],
  [130],
  [131],
  [132],
  [133],
  [134],
  [135],
  [136],
  [137],
  [],
  [],
  [],
  [],
  [],
  [],
  [],
  [],
  [],
  []
  ]
abbrev am_N : Nat := 114
abbrev am_txl : List (List Int32) := [[38], [40, 33, 45], [41], [42, 47, 37], [43, 45], [59], [60, 61, 62], [63], [115, 119, 100, 97, 110, 107], [124]]
/-- the class of each method, by its number among the classes (100: String) -/
abbrev am_mkl : List Nat := [0, 0, 0, 0, 0, 0, 0, 0, 0, 0, 0, 0, 1, 1, 1, 2, 2, 2, 2, 2, 2, 2, 3, 3, 3, 3, 3, 3, 3, 3, 4, 4, 4, 4, 4, 4, 4, 4, 4, 4, 4, 4, 4, 4, 4, 4, 4, 4, 4, 4, 4, 4, 4, 4, 4, 4, 4, 4, 4, 4, 4, 4, 4, 4, 4, 4, 5, 5, 5, 5, 5, 5, 5, 5, 5, 5, 5, 5, 5, 5, 5, 5, 5, 6, 6, 6, 6, 6, 6, 6, 6, 6, 6, 6, 6, 6, 7, 7, 7, 7, 7, 7, 7, 7, 7, 7, 7, 8, 8, 8, 8, 8, 8, 8, 8, 9, 9, 9, 10, 10, 10, 10, 10, 10, 10, 10, 10, 10, 10, 10, 10, 10, 10, 10, 10, 10, 10, 10, 10, 10, 10, 10, 10, 10, 10, 10, 10, 10, 10, 10, 10, 10, 10, 10, 10, 10, 10, 10, 10, 10, 10, 10, 10, 10, 10, 10, 10, 10, 11, 11, 11, 11, 11, 11, 11, 11, 11, 11, 11, 11, 11, 11, 11, 11, 11, 11, 11, 11, 11, 11, 11, 11, 11, 11, 11, 11, 11, 11, 11, 11, 11, 11, 11, 11, 11, 11, 11, 11, 11, 11, 11, 11, 11, 11, 11, 11, 11, 11, 11, 11, 11, 11, 11, 11, 11, 11, 11, 11, 11, 11, 11, 11, 11, 11, 11, 11, 11, 11, 11, 11, 11, 11, 11, 11, 11, 11, 11, 11, 11, 11, 11, 11, 11, 11, 11, 11, 11, 11, 11, 11, 11, 11, 11, 11, 11, 11, 11, 11, 11, 11, 11, 11, 100, 100, 100, 100, 100, 100, 100, 100, 100, 100, 100, 100]
/-- the string constants of the class Law: index, text, cell -/
abbrev am_strs : List (Nat × String × Nat) := [(85, "swdank", 126), (93, "(!-", 119), (95, ")", 120), (75, "|", 127), (77, "&", 118), (79, "<=>", 124), (81, "+-", 122), (83, "*/%", 121), (61, "?", 125), (51, ";", 123)]
end
section
/-! THE SMALL MACHINE: a fixed table of cells, memory mi (ints) and ml (longs) by cell and place; an instruction is a predicate transformer -/
abbrev am_MI : Type := Nat → Nat → Int32
abbrev am_ML : Type := Nat → Nat → Int64
abbrev am_R : Type := Option Value → am_MI → am_ML → Prop
abbrev am_L : Type := List (Option Value)
abbrev am_K : Type := Nat → am_L → List Value → am_MI → am_ML → Prop
abbrev am_C : Type := Nat → List Value → am_MI → am_ML → am_R → Prop
abbrev am_row : Type := Nat × Instr × Nat × Nat × Nat × Nat × Int32 × List (Int32 × Nat)
def am_nth {α : Type} (d : α) : List α → Nat → α
  | [], _ => d
  | x :: _, 0 => x
  | _ :: l, i + 1 => am_nth d l i
def am_ck (a : Nat) : Nat × Nat × Nat × Nat := am_nth (0, 0, 0, 0) am_cl a
def am_kd (a : Nat) : Nat := (am_ck a).1
def am_n (a : Nat) : Nat := (am_ck a).2.1
def am_f (a : Nat) : Nat := (am_ck a).2.2.1
def am_d (a : Nat) : Nat := (am_ck a).2.2.2
def am_rf (a j : Nat) : Nat := am_nth 0 (am_nth [] am_rl a) j
/-- an object's class: its number; 100: String -/
def am_oc (a : Nat) : Nat := match am_kd a with
  | 1 => am_n a
  | 7 => 100
  | _ => 200
def am_mk (g : Nat) : Nat := am_nth 300 am_mkl g
def am_lc : Nat → Int64
  | 0 => 0
  | 1 => 1
  | 2 => 3
  | 3 => 4294967295
  | _ => -9223372036854775808
end
section
/-! the tables of the small machine: each method's rows, printed out of its bytecode -/
def am_lkL : List Cond := [
  (Jvm.Cond.methodLink "DoorsForThreeLaw" (9 : Nat) ({ cls := "DoorsForThree", name := "<init>", desc := "()V" } : Jvm.MethodName)),
  (Jvm.Cond.methodLink "DoorsForThreeLaw" (13 : Nat) ({ cls := "DoorsForThree", name := "door", desc := "(II)I" } : Jvm.MethodName)),
  (Jvm.Cond.methodLink "DoorsForThreeLaw" (18 : Nat) ({ cls := "DoorsForThree", name := "doors", desc := "(III)I" } : Jvm.MethodName)),
  (Jvm.Cond.methodLink "DoorsForThreeLaw" (23 : Nat) ({ cls := "DoorsForThree", name := "child", desc := "(II)I" } : Jvm.MethodName)),
  (Jvm.Cond.methodLink "DoorsForThreeLaw" (27 : Nat) ({ cls := "DoorsForThree", name := "mend", desc := "(III)I" } : Jvm.MethodName)),
  (Jvm.Cond.methodLink "DoorsForThreeLaw" (31 : Nat) ({ cls := "DoorsForThree", name := "of", desc := "(II)I" } : Jvm.MethodName)),
  (Jvm.Cond.methodLink "DoorsForThreeLaw" (35 : Nat) ({ cls := "DoorsForThree", name := "feed", desc := "(I)I" } : Jvm.MethodName)),
  (Jvm.Cond.methodLink "DoorsForThreeLaw" (40 : Nat) ({ cls := "DoorsForThree", name := "law", desc := "()I" } : Jvm.MethodName)),
  (Jvm.Cond.methodLink "DoorsForThreeLaw" (45 : Nat) ({ cls := "DoorsForThree", name := "worth", desc := "(II)I" } : Jvm.MethodName)),
  (Jvm.Cond.methodLink "DoorsForThreeLaw" (49 : Nat) ({ cls := "DoorsForThree", name := "whose", desc := "(I)I" } : Jvm.MethodName)),
  (Jvm.Cond.methodLink "DoorsForThreeLaw" (53 : Nat) ({ cls := "DoorsForThree", name := "all", desc := "(I)I" } : Jvm.MethodName)),
  (Jvm.Cond.methodLink "DoorsForThreeLaw" (57 : Nat) ({ cls := "DoorsForThree", name := "giving", desc := "(II)I" } : Jvm.MethodName)),
  (Jvm.Cond.methodLink "DoorsForThreeLaw" (61 : Nat) ({ cls := "DoorsForThree", name := "bestRule", desc := "(I)I" } : Jvm.MethodName)),
  (Jvm.Cond.methodLink "DoorsForThreeLaw" (65 : Nat) ({ cls := "DoorsForThree", name := "fairest", desc := "(I)I" } : Jvm.MethodName)),
  (Jvm.Cond.methodLink "DoorsForThreeLaw" (69 : Nat) ({ cls := "DoorsForThree", name := "envyFree", desc := "()I" } : Jvm.MethodName)),
  (Jvm.Cond.methodLink "DoorsForThreeLaw" (73 : Nat) ({ cls := "DoorsForThree", name := "swap", desc := "(I)I" } : Jvm.MethodName)),
  (Jvm.Cond.methodLink "DoorsForThreeLaw" (77 : Nat) ({ cls := "DoorsForThree", name := "swaps", desc := "(II)I" } : Jvm.MethodName)),
  (Jvm.Cond.methodLink "DoorsForThreeLaw" (81 : Nat) ({ cls := "DoorsForThree", name := "big", desc := "(II)I" } : Jvm.MethodName)),
  (Jvm.Cond.methodLink "DoorsForThreeLaw" (85 : Nat) ({ cls := "DoorsForThree", name := "away", desc := "(II)I" } : Jvm.MethodName)),
  (Jvm.Cond.methodLink "DoorsForThreeLaw" (89 : Nat) ({ cls := "DoorsForThree", name := "gather", desc := "(II)I" } : Jvm.MethodName)),
  (Jvm.Cond.methodLink "DoorsForThreeLaw" (93 : Nat) ({ cls := "DoorsForThree", name := "waits", desc := "(II)I" } : Jvm.MethodName)),
  (Jvm.Cond.methodLink "DoorsForThreeLaw" (97 : Nat) ({ cls := "DoorsForThree", name := "atFive", desc := "(IIII)I" } : Jvm.MethodName)),
  (Jvm.Cond.methodLink "DoorsForThreeLaw" (102 : Nat) ({ cls := "DoorsForThree", name := "guard", desc := "(IIII)I" } : Jvm.MethodName)),
  (Jvm.Cond.methodLink "DoorsForThreeLaw" (106 : Nat) ({ cls := "DoorsForThree", name := "judge", desc := "(II)I" } : Jvm.MethodName)),
  (Jvm.Cond.methodLink "DoorsForThreeLaw" (110 : Nat) ({ cls := "DoorsForThree", name := "byWhat", desc := "(I)I" } : Jvm.MethodName)),
  (Jvm.Cond.methodLink "DoorsForThreeLaw" (114 : Nat) ({ cls := "DoorsForThree", name := "second", desc := "(II)I" } : Jvm.MethodName)),
  (Jvm.Cond.methodLink "DoorsForThreeLaw" (118 : Nat) ({ cls := "DoorsForThree", name := "pairs", desc := "(II)I" } : Jvm.MethodName)),
  (Jvm.Cond.methodLink "DoorsForThreeLaw" (122 : Nat) ({ cls := "DoorsForThree", name := "drawn", desc := "(III)I" } : Jvm.MethodName)),
  (Jvm.Cond.methodLink "DoorsForThreeLaw" (126 : Nat) ({ cls := "DoorsForThree", name := "day", desc := "()I" } : Jvm.MethodName)),
  (Jvm.Cond.methodLink "DoorsForThreeLaw" (130 : Nat) ({ cls := "DoorsForThree", name := "open", desc := "(II)I" } : Jvm.MethodName)),
  (Jvm.Cond.methodLink "DoorsForThreeLaw" (134 : Nat) ({ cls := "DoorsForThree", name := "forgotten", desc := "()I" } : Jvm.MethodName)),
  (Jvm.Cond.methodLink "DoorsForThreeLaw" (138 : Nat) ({ cls := "DoorsForThree", name := "led", desc := "(I)I" } : Jvm.MethodName)),
  (Jvm.Cond.methodLink "DoorsForThreeLaw" (142 : Nat) ({ cls := "DoorsForThree", name := "image", desc := "()I" } : Jvm.MethodName)),
  (Jvm.Cond.methodLink "DoorsForThreeLaw" (146 : Nat) ({ cls := "DoorsForThree", name := "back", desc := "()I" } : Jvm.MethodName)),
  (Jvm.Cond.methodLink "DoorsForThreeLaw" (150 : Nat) ({ cls := "DoorsForThree", name := "undo", desc := "()I" } : Jvm.MethodName)),
  (Jvm.Cond.methodLink "DoorsForThreeLaw" (154 : Nat) ({ cls := "DoorsForThree", name := "redo", desc := "()I" } : Jvm.MethodName)),
  (Jvm.Cond.methodLink "DoorsForThreeLaw" (158 : Nat) ({ cls := "DoorsForThree", name := "body", desc := "(I)I" } : Jvm.MethodName)),
  (Jvm.Cond.methodLink "DoorsForThreeLaw" (162 : Nat) ({ cls := "DoorsForThree", name := "act", desc := "(III)I" } : Jvm.MethodName)),
  (Jvm.Cond.methodLink "DoorsForThreeLaw" (166 : Nat) ({ cls := "DoorsForThree", name := "trace", desc := "(I)I" } : Jvm.MethodName)),
  (Jvm.Cond.methodLink "DoorsForThreeLaw" (170 : Nat) ({ cls := "DoorsForThree", name := "keep", desc := "(II)I" } : Jvm.MethodName)),
  (Jvm.Cond.methodLink "DoorsForThreeLaw" (174 : Nat) ({ cls := "DoorsForThree", name := "row", desc := "(III)I" } : Jvm.MethodName)),
  (Jvm.Cond.methodLink "DoorsForThreeLaw" (180 : Nat) ({ cls := "DoorsForThree", name := "put", desc := "(IIJ)I" } : Jvm.MethodName)),
  (Jvm.Cond.methodLink "DoorsForThreeLaw" (185 : Nat) ({ cls := "DoorsForThree", name := "element", desc := "(II)J" } : Jvm.MethodName)),
  (Jvm.Cond.methodLink "DoorsForThreeLaw" (190 : Nat) ({ cls := "DoorsForThree", name := "shift", desc := "(IIIII)I" } : Jvm.MethodName)),
  (Jvm.Cond.methodLink "DoorsForThreeLaw" (195 : Nat) ({ cls := "DoorsForThree", name := "taken", desc := "(II)I" } : Jvm.MethodName)),
  (Jvm.Cond.methodLink "DoorsForThreeLaw" (199 : Nat) ({ cls := "DoorsForThree", name := "count", desc := "(I)I" } : Jvm.MethodName)),
  (Jvm.Cond.methodLink "DoorsForThreeLaw" (12 : Nat) ({ cls := "DoorsForThreeModel", name := "<init>", desc := "()V" } : Jvm.MethodName)),
  (Jvm.Cond.methodLink "DoorsForThreeLaw" (17 : Nat) ({ cls := "DoorsForThreeModel", name := "door", desc := "(II)I" } : Jvm.MethodName)),
  (Jvm.Cond.methodLink "DoorsForThreeLaw" (22 : Nat) ({ cls := "DoorsForThreeModel", name := "doors", desc := "(III)I" } : Jvm.MethodName)),
  (Jvm.Cond.methodLink "DoorsForThreeLaw" (26 : Nat) ({ cls := "DoorsForThreeModel", name := "child", desc := "(II)I" } : Jvm.MethodName)),
  (Jvm.Cond.methodLink "DoorsForThreeLaw" (30 : Nat) ({ cls := "DoorsForThreeModel", name := "mend", desc := "(III)I" } : Jvm.MethodName)),
  (Jvm.Cond.methodLink "DoorsForThreeLaw" (34 : Nat) ({ cls := "DoorsForThreeModel", name := "of", desc := "(II)I" } : Jvm.MethodName)),
  (Jvm.Cond.methodLink "DoorsForThreeLaw" (153 : Nat) ({ cls := "DoorsForThreeModel", name := "undo", desc := "()I" } : Jvm.MethodName)),
  (Jvm.Cond.methodLink "DoorsForThreeLaw" (157 : Nat) ({ cls := "DoorsForThreeModel", name := "redo", desc := "()I" } : Jvm.MethodName)),
  (Jvm.Cond.methodLink "DoorsForThreeLaw" (39 : Nat) ({ cls := "DoorsForThreeModel", name := "feed", desc := "(I)I" } : Jvm.MethodName)),
  (Jvm.Cond.methodLink "DoorsForThreeLaw" (44 : Nat) ({ cls := "DoorsForThreeModel", name := "law", desc := "()I" } : Jvm.MethodName)),
  (Jvm.Cond.methodLink "DoorsForThreeLaw" (48 : Nat) ({ cls := "DoorsForThreeModel", name := "worth", desc := "(II)I" } : Jvm.MethodName)),
  (Jvm.Cond.methodLink "DoorsForThreeLaw" (52 : Nat) ({ cls := "DoorsForThreeModel", name := "whose", desc := "(I)I" } : Jvm.MethodName)),
  (Jvm.Cond.methodLink "DoorsForThreeLaw" (56 : Nat) ({ cls := "DoorsForThreeModel", name := "all", desc := "(I)I" } : Jvm.MethodName)),
  (Jvm.Cond.methodLink "DoorsForThreeLaw" (60 : Nat) ({ cls := "DoorsForThreeModel", name := "giving", desc := "(II)I" } : Jvm.MethodName)),
  (Jvm.Cond.methodLink "DoorsForThreeLaw" (64 : Nat) ({ cls := "DoorsForThreeModel", name := "bestRule", desc := "(I)I" } : Jvm.MethodName)),
  (Jvm.Cond.methodLink "DoorsForThreeLaw" (68 : Nat) ({ cls := "DoorsForThreeModel", name := "fairest", desc := "(I)I" } : Jvm.MethodName)),
  (Jvm.Cond.methodLink "DoorsForThreeLaw" (72 : Nat) ({ cls := "DoorsForThreeModel", name := "envyFree", desc := "()I" } : Jvm.MethodName)),
  (Jvm.Cond.methodLink "DoorsForThreeLaw" (76 : Nat) ({ cls := "DoorsForThreeModel", name := "swap", desc := "(I)I" } : Jvm.MethodName)),
  (Jvm.Cond.methodLink "DoorsForThreeLaw" (80 : Nat) ({ cls := "DoorsForThreeModel", name := "swaps", desc := "(II)I" } : Jvm.MethodName)),
  (Jvm.Cond.methodLink "DoorsForThreeLaw" (84 : Nat) ({ cls := "DoorsForThreeModel", name := "big", desc := "(II)I" } : Jvm.MethodName)),
  (Jvm.Cond.methodLink "DoorsForThreeLaw" (88 : Nat) ({ cls := "DoorsForThreeModel", name := "away", desc := "(II)I" } : Jvm.MethodName)),
  (Jvm.Cond.methodLink "DoorsForThreeLaw" (92 : Nat) ({ cls := "DoorsForThreeModel", name := "gather", desc := "(II)I" } : Jvm.MethodName)),
  (Jvm.Cond.methodLink "DoorsForThreeLaw" (96 : Nat) ({ cls := "DoorsForThreeModel", name := "waits", desc := "(II)I" } : Jvm.MethodName)),
  (Jvm.Cond.methodLink "DoorsForThreeLaw" (101 : Nat) ({ cls := "DoorsForThreeModel", name := "atFive", desc := "(IIII)I" } : Jvm.MethodName)),
  (Jvm.Cond.methodLink "DoorsForThreeLaw" (105 : Nat) ({ cls := "DoorsForThreeModel", name := "guard", desc := "(IIII)I" } : Jvm.MethodName)),
  (Jvm.Cond.methodLink "DoorsForThreeLaw" (109 : Nat) ({ cls := "DoorsForThreeModel", name := "judge", desc := "(II)I" } : Jvm.MethodName)),
  (Jvm.Cond.methodLink "DoorsForThreeLaw" (113 : Nat) ({ cls := "DoorsForThreeModel", name := "byWhat", desc := "(I)I" } : Jvm.MethodName)),
  (Jvm.Cond.methodLink "DoorsForThreeLaw" (117 : Nat) ({ cls := "DoorsForThreeModel", name := "second", desc := "(II)I" } : Jvm.MethodName)),
  (Jvm.Cond.methodLink "DoorsForThreeLaw" (121 : Nat) ({ cls := "DoorsForThreeModel", name := "pairs", desc := "(II)I" } : Jvm.MethodName)),
  (Jvm.Cond.methodLink "DoorsForThreeLaw" (125 : Nat) ({ cls := "DoorsForThreeModel", name := "drawn", desc := "(III)I" } : Jvm.MethodName)),
  (Jvm.Cond.methodLink "DoorsForThreeLaw" (129 : Nat) ({ cls := "DoorsForThreeModel", name := "day", desc := "()I" } : Jvm.MethodName)),
  (Jvm.Cond.methodLink "DoorsForThreeLaw" (133 : Nat) ({ cls := "DoorsForThreeModel", name := "open", desc := "(II)I" } : Jvm.MethodName)),
  (Jvm.Cond.methodLink "DoorsForThreeLaw" (137 : Nat) ({ cls := "DoorsForThreeModel", name := "forgotten", desc := "()I" } : Jvm.MethodName)),
  (Jvm.Cond.methodLink "DoorsForThreeLaw" (141 : Nat) ({ cls := "DoorsForThreeModel", name := "led", desc := "(I)I" } : Jvm.MethodName)),
  (Jvm.Cond.methodLink "DoorsForThreeLaw" (145 : Nat) ({ cls := "DoorsForThreeModel", name := "image", desc := "()I" } : Jvm.MethodName)),
  (Jvm.Cond.methodLink "DoorsForThreeLaw" (149 : Nat) ({ cls := "DoorsForThreeModel", name := "back", desc := "()I" } : Jvm.MethodName)),
  (Jvm.Cond.methodLink "DoorsForThreeLaw" (161 : Nat) ({ cls := "DoorsForThreeModel", name := "body", desc := "(I)I" } : Jvm.MethodName)),
  (Jvm.Cond.methodLink "DoorsForThreeLaw" (165 : Nat) ({ cls := "DoorsForThreeModel", name := "act", desc := "(III)I" } : Jvm.MethodName)),
  (Jvm.Cond.methodLink "DoorsForThreeLaw" (169 : Nat) ({ cls := "DoorsForThreeModel", name := "trace", desc := "(I)I" } : Jvm.MethodName)),
  (Jvm.Cond.methodLink "DoorsForThreeLaw" (173 : Nat) ({ cls := "DoorsForThreeModel", name := "keep", desc := "(II)I" } : Jvm.MethodName)),
  (Jvm.Cond.methodLink "DoorsForThreeLaw" (177 : Nat) ({ cls := "DoorsForThreeModel", name := "row", desc := "(III)I" } : Jvm.MethodName)),
  (Jvm.Cond.methodLink "DoorsForThreeLaw" (184 : Nat) ({ cls := "DoorsForThreeModel", name := "put", desc := "(IIJ)I" } : Jvm.MethodName)),
  (Jvm.Cond.methodLink "DoorsForThreeLaw" (189 : Nat) ({ cls := "DoorsForThreeModel", name := "element", desc := "(II)J" } : Jvm.MethodName)),
  (Jvm.Cond.methodLink "DoorsForThreeLaw" (194 : Nat) ({ cls := "DoorsForThreeModel", name := "shift", desc := "(IIIII)I" } : Jvm.MethodName)),
  (Jvm.Cond.methodLink "DoorsForThreeLaw" (198 : Nat) ({ cls := "DoorsForThreeModel", name := "taken", desc := "(II)I" } : Jvm.MethodName)),
  (Jvm.Cond.methodLink "DoorsForThreeLaw" (202 : Nat) ({ cls := "DoorsForThreeModel", name := "count", desc := "(I)I" } : Jvm.MethodName)),
  (Jvm.Cond.constantLong "DoorsForThreeLaw" (178 : Nat) (4294967295 : Int64))]
def am_lkX10 : List Cond := [
  (Jvm.Cond.methodLink "DoorsForThree" (1 : Nat) ({ cls := "java/lang/Object", name := "<init>", desc := "()V" } : Jvm.MethodName)),
  (Jvm.Cond.methodLink "DoorsForThree" (9 : Nat) ({ cls := "DoorsForThree$Calendar", name := "<init>", desc := "()V" } : Jvm.MethodName)),
  (Jvm.Cond.fieldLinkNest "DoorsForThree" (95 : Nat) "DoorsForThree$Calendar" "doors" "I" "DoorsForThree"),
  (Jvm.Cond.fieldLinkNest "DoorsForThree" (117 : Nat) "DoorsForThree$Calendar" "children" "I" "DoorsForThree"),
  (Jvm.Cond.methodLinkNest "DoorsForThree" (18 : Nat) ({ cls := "DoorsForThree$Changes", name := "<init>", desc := "()V" } : Jvm.MethodName) "DoorsForThree"),
  (Jvm.Cond.fieldLinkNest "DoorsForThree" (320 : Nat) "DoorsForThree$Changes" "done" "I" "DoorsForThree"),
  (Jvm.Cond.fieldLinkNest "DoorsForThree" (326 : Nat) "DoorsForThree$Changes" "undone" "I" "DoorsForThree"),
  (Jvm.Cond.methodLinkNest "DoorsForThree" (25 : Nat) ({ cls := "DoorsForThree$Law", name := "<init>", desc := "()V" } : Jvm.MethodName) "DoorsForThree"),
  (Jvm.Cond.fieldLinkNest "DoorsForThree" (145 : Nat) "DoorsForThree$Law" "letters" "I" "DoorsForThree"),
  (Jvm.Cond.methodLink "DoorsForThree" (32 : Nat) ({ cls := "DoorsForThree$Worths", name := "<init>", desc := "(LDoorsForThree$Calendar;LDoorsForThree$Law;)V" } : Jvm.MethodName)),
  (Jvm.Cond.methodLink "DoorsForThree" (41 : Nat) ({ cls := "DoorsForThree$Givings", name := "<init>", desc := "(LDoorsForThree$Calendar;LDoorsForThree$Worths;)V" } : Jvm.MethodName)),
  (Jvm.Cond.methodLink "DoorsForThree" (50 : Nat) ({ cls := "DoorsForThree$Fairest", name := "<init>", desc := "(LDoorsForThree$Calendar;LDoorsForThree$Givings;)V" } : Jvm.MethodName)),
  (Jvm.Cond.fieldLinkNest "DoorsForThree" (196 : Nat) "DoorsForThree$Fairest" "unfair" "I" "DoorsForThree"),
  (Jvm.Cond.fieldLinkNest "DoorsForThree" (199 : Nat) "DoorsForThree$Fairest" "together" "I" "DoorsForThree"),
  (Jvm.Cond.fieldLinkNest "DoorsForThree" (204 : Nat) "DoorsForThree$Fairest" "withoutEnvy" "I" "DoorsForThree"),
  (Jvm.Cond.methodLink "DoorsForThree" (59 : Nat) ({ cls := "DoorsForThree$Signs", name := "<init>", desc := "(LDoorsForThree$Calendar;LDoorsForThree$Givings;)V" } : Jvm.MethodName)),
  (Jvm.Cond.methodLink "DoorsForThree" (66 : Nat) ({ cls := "DoorsForThree$Deeds", name := "<init>", desc := "(LDoorsForThree$Calendar;)V" } : Jvm.MethodName)),
  (Jvm.Cond.fieldLinkNest "DoorsForThree" (289 : Nat) "DoorsForThree$Deeds" "today" "I" "DoorsForThree"),
  (Jvm.Cond.fieldLinkNest "DoorsForThree" (301 : Nat) "DoorsForThree$Deeds" "opened" "I" "DoorsForThree"),
  (Jvm.Cond.fieldLinkNest "DoorsForThree" (304 : Nat) "DoorsForThree$Deeds" "early" "I" "DoorsForThree"),
  (Jvm.Cond.fieldLinkNest "DoorsForThree" (307 : Nat) "DoorsForThree$Deeds" "worth" "I" "DoorsForThree"),
  (Jvm.Cond.methodLinkNest "DoorsForThree" (75 : Nat) ({ cls := "DoorsForThree$Pictures", name := "<init>", desc := "()V" } : Jvm.MethodName) "DoorsForThree"),
  (Jvm.Cond.fieldLinkNest "DoorsForThree" (335 : Nat) "DoorsForThree$Pictures" "bodies" "I" "DoorsForThree"),
  (Jvm.Cond.fieldLinkNest "DoorsForThree" (396 : Nat) "DoorsForThree$Pictures" "ran" "I" "DoorsForThree"),
  (Jvm.Cond.methodLinkNest "DoorsForThree" (86 : Nat) ({ cls := "DoorsForThree$Shelf", name := "<init>", desc := "()V" } : Jvm.MethodName) "DoorsForThree"),
  (Jvm.Cond.fieldLinkNest "DoorsForThree" (103 : Nat) "DoorsForThree$Shelf" "holds" "I" "DoorsForThree"),
  (Jvm.Cond.fieldLinkNest "DoorsForThree" (387 : Nat) "DoorsForThree$Shelf" "body" "I" "DoorsForThree"),
  (Jvm.Cond.fieldLinkNest "DoorsForThree" (377 : Nat) "DoorsForThree$Shelf" "sort" "I" "DoorsForThree"),
  (Jvm.Cond.fieldLinkNest "DoorsForThree" (399 : Nat) "DoorsForThree$Shelf" "length" "I" "DoorsForThree"),
  (Jvm.Cond.fieldLink "DoorsForThree" (10 : Nat) "DoorsForThree" "calendar" "LDoorsForThree$Calendar;"),
  (Jvm.Cond.fieldLink "DoorsForThree" (19 : Nat) "DoorsForThree" "changes" "LDoorsForThree$Changes;"),
  (Jvm.Cond.fieldLink "DoorsForThree" (26 : Nat) "DoorsForThree" "tape" "LDoorsForThree$Law;"),
  (Jvm.Cond.fieldLink "DoorsForThree" (35 : Nat) "DoorsForThree" "worths" "LDoorsForThree$Worths;"),
  (Jvm.Cond.fieldLink "DoorsForThree" (44 : Nat) "DoorsForThree" "givings" "LDoorsForThree$Givings;"),
  (Jvm.Cond.fieldLink "DoorsForThree" (53 : Nat) "DoorsForThree" "search" "LDoorsForThree$Fairest;"),
  (Jvm.Cond.fieldLink "DoorsForThree" (60 : Nat) "DoorsForThree" "signs" "LDoorsForThree$Signs;"),
  (Jvm.Cond.fieldLink "DoorsForThree" (69 : Nat) "DoorsForThree" "deeds" "LDoorsForThree$Deeds;"),
  (Jvm.Cond.fieldLink "DoorsForThree" (76 : Nat) "DoorsForThree" "pictures" "LDoorsForThree$Pictures;"),
  (Jvm.Cond.fieldLink "DoorsForThree" (82 : Nat) "DoorsForThree" "shelves" "[LDoorsForThree$Shelf;"),
  (Jvm.Cond.methodLink "DoorsForThree" (87 : Nat) ({ cls := "DoorsForThree$Calendar", name := "fits", desc := "(II)Z" } : Jvm.MethodName)),
  (Jvm.Cond.methodLink "DoorsForThree" (91 : Nat) ({ cls := "DoorsForThree$Calendar", name := "addDoor", desc := "(III)Z" } : Jvm.MethodName)),
  (Jvm.Cond.methodLink "DoorsForThree" (99 : Nat) ({ cls := "DoorsForThree", name := "isShelf", desc := "(I)Z" } : Jvm.MethodName)),
  (Jvm.Cond.methodLink "DoorsForThree" (106 : Nat) ({ cls := "DoorsForThree$Shelf", name := "refusesBytes", desc := "()I" } : Jvm.MethodName)),
  (Jvm.Cond.methodLink "DoorsForThree" (110 : Nat) ({ cls := "DoorsForThree", name := "doorComes", desc := "(LDoorsForThree$Shelf;II)Z" } : Jvm.MethodName)),
  (Jvm.Cond.methodLink "DoorsForThree" (373 : Nat) ({ cls := "DoorsForThree$Shelf", name := "at", desc := "(I)J" } : Jvm.MethodName)),
  (Jvm.Cond.methodLink "DoorsForThree" (114 : Nat) ({ cls := "DoorsForThree$Calendar", name := "addChild", desc := "(II)Z" } : Jvm.MethodName)),
  (Jvm.Cond.methodLink "DoorsForThree" (120 : Nat) ({ cls := "DoorsForThree$Calendar", name := "has", desc := "(II)Z" } : Jvm.MethodName)),
  (Jvm.Cond.methodLink "DoorsForThree" (123 : Nat) ({ cls := "DoorsForThree$Calendar", name := "get", desc := "(II)I" } : Jvm.MethodName)),
  (Jvm.Cond.methodLink "DoorsForThree" (127 : Nat) ({ cls := "DoorsForThree$Changes", name := "keepChange", desc := "(IIII)V" } : Jvm.MethodName)),
  (Jvm.Cond.methodLink "DoorsForThree" (131 : Nat) ({ cls := "DoorsForThree$Calendar", name := "set", desc := "(III)V" } : Jvm.MethodName)),
  (Jvm.Cond.methodLink "DoorsForThree" (135 : Nat) ({ cls := "DoorsForThree$Calendar", name := "hasDoor", desc := "(I)Z" } : Jvm.MethodName)),
  (Jvm.Cond.methodLink "DoorsForThree" (138 : Nat) ({ cls := "DoorsForThree$Deeds", name := "opener", desc := "(I)I" } : Jvm.MethodName)),
  (Jvm.Cond.methodLink "DoorsForThree" (142 : Nat) ({ cls := "DoorsForThree$Law", name := "takeLetter", desc := "(I)Z" } : Jvm.MethodName)),
  (Jvm.Cond.methodLink "DoorsForThree" (148 : Nat) ({ cls := "DoorsForThree$Law", name := "becomeLaw", desc := "()I" } : Jvm.MethodName)),
  (Jvm.Cond.methodLink "DoorsForThree" (151 : Nat) ({ cls := "DoorsForThree$Calendar", name := "hasChild", desc := "(I)Z" } : Jvm.MethodName)),
  (Jvm.Cond.methodLink "DoorsForThree" (154 : Nat) ({ cls := "DoorsForThree$Worths", name := "worthLate", desc := "(IIII)I" } : Jvm.MethodName)),
  (Jvm.Cond.methodLink "DoorsForThree" (158 : Nat) ({ cls := "DoorsForThree", name := "isRule", desc := "(I)Z" } : Jvm.MethodName)),
  (Jvm.Cond.methodLink "DoorsForThree" (161 : Nat) ({ cls := "DoorsForThree", name := "fresh", desc := "()LDoorsForThree$Givings;" } : Jvm.MethodName)),
  (Jvm.Cond.methodLink "DoorsForThree" (190 : Nat) ({ cls := "DoorsForThree$Givings", name := "freshen", desc := "()V" } : Jvm.MethodName)),
  (Jvm.Cond.methodLink "DoorsForThree" (165 : Nat) ({ cls := "DoorsForThree$Givings", name := "owner", desc := "(II)I" } : Jvm.MethodName)),
  (Jvm.Cond.methodLink "DoorsForThree" (168 : Nat) ({ cls := "DoorsForThree", name := "isRuleAndChild", desc := "(I)Z" } : Jvm.MethodName)),
  (Jvm.Cond.methodLink "DoorsForThree" (171 : Nat) ({ cls := "DoorsForThree$Givings", name := "sumOf", desc := "(II)I" } : Jvm.MethodName)),
  (Jvm.Cond.methodLink "DoorsForThree" (174 : Nat) ({ cls := "DoorsForThree$Givings", name := "unfairBy", desc := "(I)I" } : Jvm.MethodName)),
  (Jvm.Cond.methodLink "DoorsForThree" (177 : Nat) ({ cls := "DoorsForThree$Givings", name := "togetherBy", desc := "(I)I" } : Jvm.MethodName)),
  (Jvm.Cond.methodLink "DoorsForThree" (180 : Nat) ({ cls := "DoorsForThree$Givings", name := "envyBy", desc := "(I)I" } : Jvm.MethodName)),
  (Jvm.Cond.methodLink "DoorsForThree" (183 : Nat) ({ cls := "DoorsForThree$Givings", name := "leastUnfairRule", desc := "()I" } : Jvm.MethodName)),
  (Jvm.Cond.methodLink "DoorsForThree" (186 : Nat) ({ cls := "DoorsForThree$Fairest", name := "isTooWide", desc := "()Z" } : Jvm.MethodName)),
  (Jvm.Cond.methodLink "DoorsForThree" (193 : Nat) ({ cls := "DoorsForThree$Fairest", name := "findOut", desc := "()V" } : Jvm.MethodName)),
  (Jvm.Cond.methodLink "DoorsForThree" (202 : Nat) ({ cls := "DoorsForThree$Fairest", name := "owner", desc := "(I)I" } : Jvm.MethodName)),
  (Jvm.Cond.methodLink "DoorsForThree" (207 : Nat) ({ cls := "DoorsForThree$Givings", name := "firstSwapBy", desc := "(I)I" } : Jvm.MethodName)),
  (Jvm.Cond.methodLink "DoorsForThree" (210 : Nat) ({ cls := "DoorsForThree$Givings", name := "swapAll", desc := "(I)I" } : Jvm.MethodName)),
  (Jvm.Cond.methodLink "DoorsForThree" (213 : Nat) ({ cls := "DoorsForThree$Givings", name := "triedUnfair", desc := "()I" } : Jvm.MethodName)),
  (Jvm.Cond.methodLink "DoorsForThree" (216 : Nat) ({ cls := "DoorsForThree$Givings", name := "divideBig", desc := "(I)V" } : Jvm.MethodName)),
  (Jvm.Cond.methodLink "DoorsForThree" (220 : Nat) ({ cls := "DoorsForThree$Givings", name := "triedSum", desc := "(I)I" } : Jvm.MethodName)),
  (Jvm.Cond.methodLink "DoorsForThree" (223 : Nat) ({ cls := "DoorsForThree$Calendar", name := "doorsAway", desc := "(I)I" } : Jvm.MethodName)),
  (Jvm.Cond.methodLink "DoorsForThree" (226 : Nat) ({ cls := "DoorsForThree$Givings", name := "neverEaten", desc := "(II)I" } : Jvm.MethodName)),
  (Jvm.Cond.methodLink "DoorsForThree" (229 : Nat) ({ cls := "DoorsForThree$Givings", name := "daysLate", desc := "(II)I" } : Jvm.MethodName)),
  (Jvm.Cond.methodLink "DoorsForThree" (232 : Nat) ({ cls := "DoorsForThree$Givings", name := "takeMine", desc := "(II)V" } : Jvm.MethodName)),
  (Jvm.Cond.methodLink "DoorsForThree" (236 : Nat) ({ cls := "DoorsForThree$Givings", name := "bestGathering", desc := "(I)I" } : Jvm.MethodName)),
  (Jvm.Cond.methodLink "DoorsForThree" (239 : Nat) ({ cls := "DoorsForThree$Givings", name := "gathered", desc := "(II)I" } : Jvm.MethodName)),
  (Jvm.Cond.methodLink "DoorsForThree" (242 : Nat) ({ cls := "DoorsForThree$Calendar", name := "holdsOutTill", desc := "(I)I" } : Jvm.MethodName)),
  (Jvm.Cond.methodLink "DoorsForThree" (245 : Nat) ({ cls := "DoorsForThree$Givings", name := "ownAfter", desc := "(III)I" } : Jvm.MethodName)),
  (Jvm.Cond.methodLink "DoorsForThree" (249 : Nat) ({ cls := "DoorsForThree$Signs", name := "earlyOnes", desc := "(LDoorsForThree$Shelf;I)I" } : Jvm.MethodName)),
  (Jvm.Cond.methodLink "DoorsForThree" (253 : Nat) ({ cls := "java/lang/Integer", name := "bitCount", desc := "(I)I" } : Jvm.MethodName)),
  (Jvm.Cond.methodLink "DoorsForThree" (258 : Nat) ({ cls := "DoorsForThree$Signs", name := "couldHaveBeen", desc := "(LDoorsForThree$Shelf;II)I" } : Jvm.MethodName)),
  (Jvm.Cond.methodLink "DoorsForThree" (262 : Nat) ({ cls := "DoorsForThree$Signs", name := "onlyOne", desc := "(I)I" } : Jvm.MethodName)),
  (Jvm.Cond.methodLink "DoorsForThree" (265 : Nat) ({ cls := "DoorsForThree$Signs", name := "bestGuard", desc := "(I)I" } : Jvm.MethodName)),
  (Jvm.Cond.methodLink "DoorsForThree" (268 : Nat) ({ cls := "DoorsForThree$Signs", name := "leftBy", desc := "(II)I" } : Jvm.MethodName)),
  (Jvm.Cond.methodLink "DoorsForThree" (271 : Nat) ({ cls := "DoorsForThree$Signs", name := "firstNotSo", desc := "(LDoorsForThree$Shelf;I)I" } : Jvm.MethodName)),
  (Jvm.Cond.methodLink "DoorsForThree" (274 : Nat) ({ cls := "DoorsForThree$Givings", name := "giveTwice", desc := "(II)V" } : Jvm.MethodName)),
  (Jvm.Cond.methodLink "DoorsForThree" (277 : Nat) ({ cls := "DoorsForThree$Givings", name := "bestPair", desc := "(I)I" } : Jvm.MethodName)),
  (Jvm.Cond.methodLink "DoorsForThree" (280 : Nat) ({ cls := "DoorsForThree$Givings", name := "gainOf", desc := "(III)I" } : Jvm.MethodName)),
  (Jvm.Cond.methodLink "DoorsForThree" (283 : Nat) ({ cls := "DoorsForThree$Givings", name := "drawDecembers", desc := "(III)I" } : Jvm.MethodName)),
  (Jvm.Cond.methodLink "DoorsForThree" (286 : Nat) ({ cls := "DoorsForThree$Deeds", name := "dayPasses", desc := "()Z" } : Jvm.MethodName)),
  (Jvm.Cond.methodLink "DoorsForThree" (292 : Nat) ({ cls := "DoorsForThree$Deeds", name := "lateFor", desc := "(I)I" } : Jvm.MethodName)),
  (Jvm.Cond.methodLink "DoorsForThree" (295 : Nat) ({ cls := "DoorsForThree$Deeds", name := "openDoor", desc := "(III)V" } : Jvm.MethodName)),
  (Jvm.Cond.methodLink "DoorsForThree" (298 : Nat) ({ cls := "DoorsForThree$Deeds", name := "closedBehind", desc := "()I" } : Jvm.MethodName)),
  (Jvm.Cond.methodLink "DoorsForThree" (310 : Nat) ({ cls := "DoorsForThree$Deeds", name := "keepImage", desc := "()V" } : Jvm.MethodName)),
  (Jvm.Cond.methodLink "DoorsForThree" (313 : Nat) ({ cls := "DoorsForThree$Deeds", name := "layBack", desc := "()Z" } : Jvm.MethodName)),
  (Jvm.Cond.methodLink "DoorsForThree" (316 : Nat) ({ cls := "DoorsForThree$Changes", name := "takeBack", desc := "(LDoorsForThree$Calendar;)Z" } : Jvm.MethodName)),
  (Jvm.Cond.methodLink "DoorsForThree" (323 : Nat) ({ cls := "DoorsForThree$Changes", name := "makeAgain", desc := "(LDoorsForThree$Calendar;)Z" } : Jvm.MethodName)),
  (Jvm.Cond.methodLink "DoorsForThree" (329 : Nat) ({ cls := "DoorsForThree$Pictures", name := "isKind", desc := "(I)Z" } : Jvm.MethodName)),
  (Jvm.Cond.methodLink "DoorsForThree" (332 : Nat) ({ cls := "DoorsForThree$Pictures", name := "addBody", desc := "(I)Z" } : Jvm.MethodName)),
  (Jvm.Cond.methodLink "DoorsForThree" (338 : Nat) ({ cls := "DoorsForThree$Pictures", name := "run", desc := "(III)I" } : Jvm.MethodName)),
  (Jvm.Cond.methodLink "DoorsForThree" (341 : Nat) ({ cls := "DoorsForThree$Pictures", name := "hasTrace", desc := "(I)Z" } : Jvm.MethodName)),
  (Jvm.Cond.methodLink "DoorsForThree" (344 : Nat) ({ cls := "DoorsForThree$Pictures", name := "traceAt", desc := "(I)I" } : Jvm.MethodName)),
  (Jvm.Cond.methodLink "DoorsForThree" (347 : Nat) ({ cls := "DoorsForThree$Pictures", name := "hasBody", desc := "(I)Z" } : Jvm.MethodName)),
  (Jvm.Cond.methodLink "DoorsForThree" (350 : Nat) ({ cls := "DoorsForThree$Shelf", name := "holdNothing", desc := "()V" } : Jvm.MethodName)),
  (Jvm.Cond.methodLink "DoorsForThree" (353 : Nat) ({ cls := "DoorsForThree$Shelf", name := "holdBody", desc := "(I)V" } : Jvm.MethodName)),
  (Jvm.Cond.methodLink "DoorsForThree" (356 : Nat) ({ cls := "DoorsForThree$Shelf", name := "holdRow", desc := "(II)V" } : Jvm.MethodName)),
  (Jvm.Cond.methodLink "DoorsForThree" (359 : Nat) ({ cls := "DoorsForThree$Shelf", name := "refusesRow", desc := "()I" } : Jvm.MethodName)),
  (Jvm.Cond.methodLink "DoorsForThree" (362 : Nat) ({ cls := "DoorsForThree$Shelf", name := "putIn", desc := "(IJ)Z" } : Jvm.MethodName)),
  (Jvm.Cond.constantLong "DoorsForThree" (368 : Nat) (-9223372036854775808 : Int64)),
  (Jvm.Cond.methodLink "DoorsForThree" (370 : Nat) ({ cls := "DoorsForThree$Shelf", name := "hasPlace", desc := "(I)Z" } : Jvm.MethodName)),
  (Jvm.Cond.methodLink "DoorsForThree" (380 : Nat) ({ cls := "DoorsForThree$Shelf", name := "hasPlaces", desc := "(II)Z" } : Jvm.MethodName)),
  (Jvm.Cond.methodLink "DoorsForThree" (383 : Nat) ({ cls := "DoorsForThree$Shelf", name := "takeFrom", desc := "(LDoorsForThree$Shelf;III)V" } : Jvm.MethodName)),
  (Jvm.Cond.methodLink "DoorsForThree" (390 : Nat) ({ cls := "DoorsForThree$Pictures", name := "kindOf", desc := "(I)I" } : Jvm.MethodName)),
  (Jvm.Cond.methodLink "DoorsForThree" (393 : Nat) ({ cls := "DoorsForThree$Pictures", name := "isUnder", desc := "(II)Z" } : Jvm.MethodName))]
def am_lkX0 : List Cond := [
  (Jvm.Cond.methodLink "DoorsForThree$Calendar" (1 : Nat) ({ cls := "java/lang/Object", name := "<init>", desc := "()V" } : Jvm.MethodName)),
  (Jvm.Cond.fieldLink "DoorsForThree$Calendar" (11 : Nat) "DoorsForThree$Calendar" "numbers" "[[I"),
  (Jvm.Cond.fieldLink "DoorsForThree$Calendar" (14 : Nat) "DoorsForThree$Calendar" "doors" "I"),
  (Jvm.Cond.fieldLink "DoorsForThree$Calendar" (18 : Nat) "DoorsForThree$Calendar" "children" "I"),
  (Jvm.Cond.fieldLink "DoorsForThree$Calendar" (39 : Nat) "DoorsForThree$Calendar" "version" "I"),
  (Jvm.Cond.fieldLink "DoorsForThree$Calendar" (28 : Nat) "DoorsForThree$Calendar" "LEAST" "[I"),
  (Jvm.Cond.fieldLink "DoorsForThree$Calendar" (32 : Nat) "DoorsForThree$Calendar" "MOST" "[I"),
  (Jvm.Cond.methodLink "DoorsForThree$Calendar" (42 : Nat) ({ cls := "DoorsForThree$Calendar", name := "set", desc := "(III)V" } : Jvm.MethodName)),
  (Jvm.Cond.methodLink "DoorsForThree$Calendar" (35 : Nat) ({ cls := "DoorsForThree$Calendar", name := "has", desc := "(II)Z" } : Jvm.MethodName)),
  (Jvm.Cond.methodLink "DoorsForThree$Calendar" (21 : Nat) ({ cls := "DoorsForThree$Calendar", name := "hasDoor", desc := "(I)Z" } : Jvm.MethodName)),
  (Jvm.Cond.methodLink "DoorsForThree$Calendar" (25 : Nat) ({ cls := "DoorsForThree$Calendar", name := "hasChild", desc := "(I)Z" } : Jvm.MethodName)),
  (Jvm.Cond.methodLink "DoorsForThree$Calendar" (46 : Nat) ({ cls := "DoorsForThree$Calendar", name := "get", desc := "(II)I" } : Jvm.MethodName)),
  (Jvm.Cond.methodLink "DoorsForThree$Calendar" (50 : Nat) ({ cls := "DoorsForThree$Calendar", name := "isAway", desc := "(II)Z" } : Jvm.MethodName)),
  (Jvm.Cond.methodLink "DoorsForThree$Calendar" (53 : Nat) ({ cls := "java/lang/Math", name := "min", desc := "(II)I" } : Jvm.MethodName))]
def am_lkX3 : List Cond := [
  (Jvm.Cond.fieldLinkNest "DoorsForThree$Fairest" (38 : Nat) "DoorsForThree$Calendar" "doors" "I" "DoorsForThree"),
  (Jvm.Cond.fieldLinkNest "DoorsForThree$Fairest" (43 : Nat) "DoorsForThree$Calendar" "children" "I" "DoorsForThree"),
  (Jvm.Cond.fieldLinkNest "DoorsForThree$Fairest" (46 : Nat) "DoorsForThree$Givings" "seenVersion" "I" "DoorsForThree"),
  (Jvm.Cond.fieldLinkNest "DoorsForThree$Fairest" (84 : Nat) "DoorsForThree$Givings" "eaten" "[[I" "DoorsForThree"),
  (Jvm.Cond.methodLink "DoorsForThree$Fairest" (3 : Nat) ({ cls := "java/lang/Object", name := "<init>", desc := "()V" } : Jvm.MethodName)),
  (Jvm.Cond.fieldLink "DoorsForThree$Fairest" (30 : Nat) "DoorsForThree$Fairest" "calendar" "LDoorsForThree$Calendar;"),
  (Jvm.Cond.fieldLink "DoorsForThree$Fairest" (34 : Nat) "DoorsForThree$Fairest" "givings" "LDoorsForThree$Givings;"),
  (Jvm.Cond.fieldLink "DoorsForThree$Fairest" (9 : Nat) "DoorsForThree$Fairest" "seenVersion" "I"),
  (Jvm.Cond.fieldLink "DoorsForThree$Fairest" (17 : Nat) "DoorsForThree$Fairest" "eaten" "[[I"),
  (Jvm.Cond.fieldLink "DoorsForThree$Fairest" (20 : Nat) "DoorsForThree$Fairest" "whose" "[I"),
  (Jvm.Cond.fieldLink "DoorsForThree$Fairest" (24 : Nat) "DoorsForThree$Fairest" "fairest" "[I"),
  (Jvm.Cond.fieldLink "DoorsForThree$Fairest" (27 : Nat) "DoorsForThree$Fairest" "held" "[[I"),
  (Jvm.Cond.fieldLink "DoorsForThree$Fairest" (59 : Nat) "DoorsForThree$Fairest" "unfair" "I"),
  (Jvm.Cond.fieldLink "DoorsForThree$Fairest" (62 : Nat) "DoorsForThree$Fairest" "together" "I"),
  (Jvm.Cond.fieldLink "DoorsForThree$Fairest" (65 : Nat) "DoorsForThree$Fairest" "withoutEnvy" "I"),
  (Jvm.Cond.methodLink "DoorsForThree$Fairest" (49 : Nat) ({ cls := "DoorsForThree$Fairest", name := "isTooWide", desc := "()Z" } : Jvm.MethodName)),
  (Jvm.Cond.methodLink "DoorsForThree$Fairest" (53 : Nat) ({ cls := "DoorsForThree$Fairest", name := "giveAllToFirst", desc := "()V" } : Jvm.MethodName)),
  (Jvm.Cond.methodLink "DoorsForThree$Fairest" (78 : Nat) ({ cls := "java/util/Arrays", name := "fill", desc := "([II)V" } : Jvm.MethodName)),
  (Jvm.Cond.constant "DoorsForThree$Fairest" (58 : Nat) (2147483647 : Int32)),
  (Jvm.Cond.methodLink "DoorsForThree$Fairest" (68 : Nat) ({ cls := "DoorsForThree$Fairest", name := "howMany", desc := "()I" } : Jvm.MethodName)),
  (Jvm.Cond.methodLink "DoorsForThree$Fairest" (72 : Nat) ({ cls := "DoorsForThree$Fairest", name := "weigh", desc := "()V" } : Jvm.MethodName)),
  (Jvm.Cond.methodLink "DoorsForThree$Fairest" (85 : Nat) ({ cls := "java/lang/Math", name := "max", desc := "(II)I" } : Jvm.MethodName)),
  (Jvm.Cond.methodLink "DoorsForThree$Fairest" (91 : Nat) ({ cls := "java/lang/Math", name := "min", desc := "(II)I" } : Jvm.MethodName)),
  (Jvm.Cond.methodLink "DoorsForThree$Fairest" (94 : Nat) ({ cls := "java/lang/System", name := "arraycopy", desc := "(Ljava/lang/Object;ILjava/lang/Object;II)V" } : Jvm.MethodName)),
  (Jvm.Cond.methodLink "DoorsForThree$Fairest" (75 : Nat) ({ cls := "DoorsForThree$Fairest", name := "goOn", desc := "()V" } : Jvm.MethodName)),
  (Jvm.Cond.methodLink "DoorsForThree$Fairest" (100 : Nat) ({ cls := "DoorsForThree$Fairest", name := "handOver", desc := "(II)V" } : Jvm.MethodName))]
def am_lkX4 : List Cond := [
  (Jvm.Cond.fieldLinkNest "DoorsForThree$Givings" (70 : Nat) "DoorsForThree$Calendar" "doors" "I" "DoorsForThree"),
  (Jvm.Cond.fieldLinkNest "DoorsForThree$Givings" (67 : Nat) "DoorsForThree$Calendar" "children" "I" "DoorsForThree"),
  (Jvm.Cond.methodLink "DoorsForThree$Givings" (3 : Nat) ({ cls := "java/lang/Object", name := "<init>", desc := "()V" } : Jvm.MethodName)),
  (Jvm.Cond.fieldLink "DoorsForThree$Givings" (47 : Nat) "DoorsForThree$Givings" "calendar" "LDoorsForThree$Calendar;"),
  (Jvm.Cond.fieldLink "DoorsForThree$Givings" (51 : Nat) "DoorsForThree$Givings" "worths" "LDoorsForThree$Worths;"),
  (Jvm.Cond.fieldLink "DoorsForThree$Givings" (9 : Nat) "DoorsForThree$Givings" "seenVersion" "I"),
  (Jvm.Cond.fieldLink "DoorsForThree$Givings" (17 : Nat) "DoorsForThree$Givings" "byDay" "[I"),
  (Jvm.Cond.fieldLink "DoorsForThree$Givings" (21 : Nat) "DoorsForThree$Givings" "byAge" "[I"),
  (Jvm.Cond.fieldLink "DoorsForThree$Givings" (26 : Nat) "DoorsForThree$Givings" "eaten" "[[I"),
  (Jvm.Cond.fieldLink "DoorsForThree$Givings" (29 : Nat) "DoorsForThree$Givings" "given" "[[I"),
  (Jvm.Cond.fieldLink "DoorsForThree$Givings" (32 : Nat) "DoorsForThree$Givings" "sums" "[[I"),
  (Jvm.Cond.fieldLink "DoorsForThree$Givings" (35 : Nat) "DoorsForThree$Givings" "offered" "[I"),
  (Jvm.Cond.fieldLink "DoorsForThree$Givings" (38 : Nat) "DoorsForThree$Givings" "tried" "[I"),
  (Jvm.Cond.fieldLink "DoorsForThree$Givings" (41 : Nat) "DoorsForThree$Givings" "triedSums" "[I"),
  (Jvm.Cond.fieldLink "DoorsForThree$Givings" (44 : Nat) "DoorsForThree$Givings" "mine" "[I"),
  (Jvm.Cond.fieldLink "DoorsForThree$Givings" (153 : Nat) "DoorsForThree$Givings" "mineMany" "I"),
  (Jvm.Cond.methodLink "DoorsForThree$Givings" (55 : Nat) ({ cls := "DoorsForThree$Worths", name := "version", desc := "()I" } : Jvm.MethodName)),
  (Jvm.Cond.methodLink "DoorsForThree$Givings" (61 : Nat) ({ cls := "DoorsForThree$Givings", name := "orderDoors", desc := "()V" } : Jvm.MethodName)),
  (Jvm.Cond.methodLink "DoorsForThree$Givings" (73 : Nat) ({ cls := "DoorsForThree$Calendar", name := "get", desc := "(II)I" } : Jvm.MethodName)),
  (Jvm.Cond.methodLink "DoorsForThree$Givings" (64 : Nat) ({ cls := "DoorsForThree$Givings", name := "orderChildren", desc := "()V" } : Jvm.MethodName)),
  (Jvm.Cond.methodLink "DoorsForThree$Givings" (77 : Nat) ({ cls := "DoorsForThree$Worths", name := "worthEaten", desc := "(III)I" } : Jvm.MethodName)),
  (Jvm.Cond.methodLink "DoorsForThree$Givings" (81 : Nat) ({ cls := "DoorsForThree$Givings", name := "giveBy", desc := "(I)V" } : Jvm.MethodName)),
  (Jvm.Cond.methodLink "DoorsForThree$Givings" (85 : Nat) ({ cls := "java/util/Arrays", name := "fill", desc := "([II)V" } : Jvm.MethodName)),
  (Jvm.Cond.methodLink "DoorsForThree$Givings" (91 : Nat) ({ cls := "DoorsForThree$Givings", name := "giveOffered", desc := "(II[I)I" } : Jvm.MethodName)),
  (Jvm.Cond.methodLink "DoorsForThree$Givings" (95 : Nat) ({ cls := "DoorsForThree$Givings", name := "chosen", desc := "(II[I)I" } : Jvm.MethodName)),
  (Jvm.Cond.methodLink "DoorsForThree$Givings" (102 : Nat) ({ cls := "DoorsForThree$Givings", name := "mostWilling", desc := "(I[I)I" } : Jvm.MethodName)),
  (Jvm.Cond.methodLink "DoorsForThree$Givings" (106 : Nat) ({ cls := "DoorsForThree$Givings", name := "will", desc := "(II[I)I" } : Jvm.MethodName)),
  (Jvm.Cond.methodLink "DoorsForThree$Givings" (98 : Nat) ({ cls := "DoorsForThree$Calendar", name := "hasChild", desc := "(I)Z" } : Jvm.MethodName)),
  (Jvm.Cond.methodLink "DoorsForThree$Givings" (109 : Nat) ({ cls := "DoorsForThree$Givings", name := "unfairOf", desc := "([I)I" } : Jvm.MethodName)),
  (Jvm.Cond.methodLink "DoorsForThree$Givings" (113 : Nat) ({ cls := "java/lang/Math", name := "max", desc := "(II)I" } : Jvm.MethodName)),
  (Jvm.Cond.methodLink "DoorsForThree$Givings" (118 : Nat) ({ cls := "java/lang/Math", name := "min", desc := "(II)I" } : Jvm.MethodName)),
  (Jvm.Cond.methodLink "DoorsForThree$Givings" (121 : Nat) ({ cls := "DoorsForThree$Givings", name := "worthTo", desc := "(III)I" } : Jvm.MethodName)),
  (Jvm.Cond.methodLink "DoorsForThree$Givings" (124 : Nat) ({ cls := "DoorsForThree$Givings", name := "unfairBy", desc := "(I)I" } : Jvm.MethodName)),
  (Jvm.Cond.methodLink "DoorsForThree$Givings" (128 : Nat) ({ cls := "DoorsForThree$Givings", name := "togetherBy", desc := "(I)I" } : Jvm.MethodName)),
  (Jvm.Cond.methodLink "DoorsForThree$Givings" (131 : Nat) ({ cls := "java/lang/System", name := "arraycopy", desc := "(Ljava/lang/Object;ILjava/lang/Object;II)V" } : Jvm.MethodName)),
  (Jvm.Cond.methodLink "DoorsForThree$Givings" (137 : Nat) ({ cls := "DoorsForThree$Givings", name := "firstSwap", desc := "()I" } : Jvm.MethodName)),
  (Jvm.Cond.methodLink "DoorsForThree$Givings" (140 : Nat) ({ cls := "DoorsForThree$Givings", name := "pleasesBoth", desc := "(II)Z" } : Jvm.MethodName)),
  (Jvm.Cond.methodLink "DoorsForThree$Givings" (144 : Nat) ({ cls := "DoorsForThree$Givings", name := "firstSwapBy", desc := "(I)I" } : Jvm.MethodName)),
  (Jvm.Cond.methodLink "DoorsForThree$Givings" (147 : Nat) ({ cls := "DoorsForThree$Givings", name := "sumTried", desc := "()V" } : Jvm.MethodName)),
  (Jvm.Cond.methodLink "DoorsForThree$Givings" (150 : Nat) ({ cls := "DoorsForThree$Calendar", name := "late", desc := "(II)I" } : Jvm.MethodName)),
  (Jvm.Cond.methodLink "DoorsForThree$Givings" (160 : Nat) ({ cls := "DoorsForThree$Givings", name := "gathered", desc := "(II)I" } : Jvm.MethodName)),
  (Jvm.Cond.methodLink "DoorsForThree$Givings" (156 : Nat) ({ cls := "DoorsForThree$Worths", name := "worthLate", desc := "(IIII)I" } : Jvm.MethodName)),
  (Jvm.Cond.methodLink "DoorsForThree$Givings" (163 : Nat) ({ cls := "DoorsForThree$Givings", name := "gainOf", desc := "(III)I" } : Jvm.MethodName)),
  (Jvm.Cond.methodLink "DoorsForThree$Givings" (166 : Nat) ({ cls := "DoorsForThree$Givings", name := "drawOne", desc := "(I)I" } : Jvm.MethodName)),
  (Jvm.Cond.constant "DoorsForThree$Givings" (175 : Nat) (1103515245 : Int32)),
  (Jvm.Cond.methodLink "DoorsForThree$Givings" (169 : Nat) ({ cls := "DoorsForThree$Givings", name := "triedUnfair", desc := "()I" } : Jvm.MethodName)),
  (Jvm.Cond.methodLink "DoorsForThree$Givings" (172 : Nat) ({ cls := "DoorsForThree$Givings", name := "hasMost", desc := "(I)Z" } : Jvm.MethodName))]
def am_lkX8 : List Cond := [
  (Jvm.Cond.fieldLinkNest "DoorsForThree$Signs" (54 : Nat) "DoorsForThree$Calendar" "doors" "I" "DoorsForThree"),
  (Jvm.Cond.fieldLinkNest "DoorsForThree$Signs" (43 : Nat) "DoorsForThree$Calendar" "children" "I" "DoorsForThree"),
  (Jvm.Cond.methodLink "DoorsForThree$Signs" (3 : Nat) ({ cls := "java/lang/Object", name := "<init>", desc := "()V" } : Jvm.MethodName)),
  (Jvm.Cond.fieldLink "DoorsForThree$Signs" (9 : Nat) "DoorsForThree$Signs" "calendar" "LDoorsForThree$Calendar;"),
  (Jvm.Cond.fieldLink "DoorsForThree$Signs" (15 : Nat) "DoorsForThree$Signs" "givings" "LDoorsForThree$Givings;"),
  (Jvm.Cond.fieldLinkNest "DoorsForThree$Signs" (19 : Nat) "DoorsForThree$Shelf" "length" "I" "DoorsForThree"),
  (Jvm.Cond.methodLink "DoorsForThree$Signs" (25 : Nat) ({ cls := "DoorsForThree$Shelf", name := "at", desc := "(I)J" } : Jvm.MethodName)),
  (Jvm.Cond.methodLink "DoorsForThree$Signs" (29 : Nat) ({ cls := "DoorsForThree$Calendar", name := "hasDoor", desc := "(I)Z" } : Jvm.MethodName)),
  (Jvm.Cond.methodLink "DoorsForThree$Signs" (35 : Nat) ({ cls := "DoorsForThree$Calendar", name := "get", desc := "(II)I" } : Jvm.MethodName)),
  (Jvm.Cond.methodLink "DoorsForThree$Signs" (39 : Nat) ({ cls := "DoorsForThree$Signs", name := "earlyOnes", desc := "(LDoorsForThree$Shelf;I)I" } : Jvm.MethodName)),
  (Jvm.Cond.methodLink "DoorsForThree$Signs" (46 : Nat) ({ cls := "DoorsForThree$Calendar", name := "isAway", desc := "(II)Z" } : Jvm.MethodName)),
  (Jvm.Cond.methodLink "DoorsForThree$Signs" (50 : Nat) ({ cls := "DoorsForThree$Signs", name := "hasReason", desc := "(III)Z" } : Jvm.MethodName)),
  (Jvm.Cond.methodLink "DoorsForThree$Signs" (57 : Nat) ({ cls := "DoorsForThree$Givings", name := "owner", desc := "(II)I" } : Jvm.MethodName)),
  (Jvm.Cond.methodLink "DoorsForThree$Signs" (62 : Nat) ({ cls := "DoorsForThree$Signs", name := "leftBy", desc := "(II)I" } : Jvm.MethodName)),
  (Jvm.Cond.methodLink "DoorsForThree$Signs" (65 : Nat) ({ cls := "java/lang/Integer", name := "bitCount", desc := "(I)I" } : Jvm.MethodName)),
  (Jvm.Cond.methodLink "DoorsForThree$Signs" (71 : Nat) ({ cls := "DoorsForThree$Signs", name := "isSo", desc := "(III)Z" } : Jvm.MethodName)),
  (Jvm.Cond.methodLink "DoorsForThree$Signs" (74 : Nat) ({ cls := "DoorsForThree$Calendar", name := "hasChild", desc := "(I)Z" } : Jvm.MethodName))]
def am_lkX2 : List Cond := [
  (Jvm.Cond.fieldLinkNest "DoorsForThree$Deeds" (52 : Nat) "DoorsForThree$Calendar" "doors" "I" "DoorsForThree"),
  (Jvm.Cond.methodLink "DoorsForThree$Deeds" (3 : Nat) ({ cls := "java/lang/Object", name := "<init>", desc := "()V" } : Jvm.MethodName)),
  (Jvm.Cond.methodLink "DoorsForThree$Deeds" (24 : Nat) ({ cls := "java/util/Arrays", name := "fill", desc := "([II)V" } : Jvm.MethodName)),
  (Jvm.Cond.fieldLink "DoorsForThree$Deeds" (20 : Nat) "DoorsForThree$Deeds" "calendar" "LDoorsForThree$Calendar;"),
  (Jvm.Cond.fieldLink "DoorsForThree$Deeds" (11 : Nat) "DoorsForThree$Deeds" "openers" "[I"),
  (Jvm.Cond.fieldLink "DoorsForThree$Deeds" (30 : Nat) "DoorsForThree$Deeds" "today" "I"),
  (Jvm.Cond.fieldLink "DoorsForThree$Deeds" (43 : Nat) "DoorsForThree$Deeds" "opened" "I"),
  (Jvm.Cond.fieldLink "DoorsForThree$Deeds" (49 : Nat) "DoorsForThree$Deeds" "early" "I"),
  (Jvm.Cond.fieldLink "DoorsForThree$Deeds" (46 : Nat) "DoorsForThree$Deeds" "worth" "I"),
  (Jvm.Cond.fieldLink "DoorsForThree$Deeds" (77 : Nat) "DoorsForThree$Deeds" "hasImage" "Z"),
  (Jvm.Cond.fieldLink "DoorsForThree$Deeds" (17 : Nat) "DoorsForThree$Deeds" "imageOpeners" "[I"),
  (Jvm.Cond.fieldLink "DoorsForThree$Deeds" (65 : Nat) "DoorsForThree$Deeds" "imageToday" "I"),
  (Jvm.Cond.fieldLink "DoorsForThree$Deeds" (68 : Nat) "DoorsForThree$Deeds" "imageOpened" "I"),
  (Jvm.Cond.fieldLink "DoorsForThree$Deeds" (71 : Nat) "DoorsForThree$Deeds" "imageEarly" "I"),
  (Jvm.Cond.fieldLink "DoorsForThree$Deeds" (74 : Nat) "DoorsForThree$Deeds" "imageWorth" "I"),
  (Jvm.Cond.methodLink "DoorsForThree$Deeds" (34 : Nat) ({ cls := "DoorsForThree$Calendar", name := "get", desc := "(II)I" } : Jvm.MethodName)),
  (Jvm.Cond.methodLink "DoorsForThree$Deeds" (38 : Nat) ({ cls := "java/lang/Math", name := "max", desc := "(II)I" } : Jvm.MethodName)),
  (Jvm.Cond.methodLink "DoorsForThree$Deeds" (55 : Nat) ({ cls := "DoorsForThree$Deeds", name := "opener", desc := "(I)I" } : Jvm.MethodName)),
  (Jvm.Cond.methodLink "DoorsForThree$Deeds" (59 : Nat) ({ cls := "java/lang/System", name := "arraycopy", desc := "(Ljava/lang/Object;ILjava/lang/Object;II)V" } : Jvm.MethodName))]
def am_lkX9 : List Cond := [
  (Jvm.Cond.fieldLinkNest "DoorsForThree$Worths" (21 : Nat) "DoorsForThree$Calendar" "version" "I" "DoorsForThree"),
  (Jvm.Cond.fieldLinkNest "DoorsForThree$Worths" (27 : Nat) "DoorsForThree$Law" "version" "I" "DoorsForThree"),
  (Jvm.Cond.methodLink "DoorsForThree$Worths" (1 : Nat) ({ cls := "java/lang/Object", name := "<init>", desc := "()V" } : Jvm.MethodName)),
  (Jvm.Cond.fieldLink "DoorsForThree$Worths" (13 : Nat) "DoorsForThree$Worths" "calendar" "LDoorsForThree$Calendar;"),
  (Jvm.Cond.fieldLink "DoorsForThree$Worths" (17 : Nat) "DoorsForThree$Worths" "law" "LDoorsForThree$Law;"),
  (Jvm.Cond.fieldLink "DoorsForThree$Worths" (7 : Nat) "DoorsForThree$Worths" "named" "[I"),
  (Jvm.Cond.methodLink "DoorsForThree$Worths" (30 : Nat) ({ cls := "DoorsForThree$Calendar", name := "get", desc := "(II)I" } : Jvm.MethodName)),
  (Jvm.Cond.methodLink "DoorsForThree$Worths" (34 : Nat) ({ cls := "DoorsForThree$Law", name := "stands", desc := "()Z" } : Jvm.MethodName)),
  (Jvm.Cond.methodLink "DoorsForThree$Worths" (38 : Nat) ({ cls := "java/lang/Math", name := "max", desc := "(II)I" } : Jvm.MethodName)),
  (Jvm.Cond.methodLink "DoorsForThree$Worths" (43 : Nat) ({ cls := "DoorsForThree$Law", name := "workOut", desc := "([I)I" } : Jvm.MethodName)),
  (Jvm.Cond.methodLink "DoorsForThree$Worths" (47 : Nat) ({ cls := "java/lang/Math", name := "min", desc := "(II)I" } : Jvm.MethodName)),
  (Jvm.Cond.methodLink "DoorsForThree$Worths" (50 : Nat) ({ cls := "DoorsForThree$Calendar", name := "late", desc := "(II)I" } : Jvm.MethodName)),
  (Jvm.Cond.methodLink "DoorsForThree$Worths" (53 : Nat) ({ cls := "DoorsForThree$Worths", name := "worthLate", desc := "(IIII)I" } : Jvm.MethodName))]
def am_lkX1 : List Cond := [
  (Jvm.Cond.methodLink "DoorsForThree$Changes" (1 : Nat) ({ cls := "java/lang/Object", name := "<init>", desc := "()V" } : Jvm.MethodName)),
  (Jvm.Cond.fieldLink "DoorsForThree$Changes" (9 : Nat) "DoorsForThree$Changes" "kept" "[I"),
  (Jvm.Cond.fieldLink "DoorsForThree$Changes" (13 : Nat) "DoorsForThree$Changes" "done" "I"),
  (Jvm.Cond.fieldLink "DoorsForThree$Changes" (23 : Nat) "DoorsForThree$Changes" "undone" "I"),
  (Jvm.Cond.methodLink "DoorsForThree$Changes" (17 : Nat) ({ cls := "java/lang/System", name := "arraycopy", desc := "(Ljava/lang/Object;ILjava/lang/Object;II)V" } : Jvm.MethodName)),
  (Jvm.Cond.methodLink "DoorsForThree$Changes" (26 : Nat) ({ cls := "DoorsForThree$Calendar", name := "set", desc := "(III)V" } : Jvm.MethodName))]
def am_lkX5 : List Cond := [
  (Jvm.Cond.methodLink "DoorsForThree$Law" (3 : Nat) ({ cls := "java/lang/Object", name := "<init>", desc := "()V" } : Jvm.MethodName)),
  (Jvm.Cond.fieldLink "DoorsForThree$Law" (9 : Nat) "DoorsForThree$Law" "tape" "[I"),
  (Jvm.Cond.fieldLink "DoorsForThree$Law" (22 : Nat) "DoorsForThree$Law" "letters" "I"),
  (Jvm.Cond.fieldLink "DoorsForThree$Law" (26 : Nat) "DoorsForThree$Law" "at" "I"),
  (Jvm.Cond.fieldLink "DoorsForThree$Law" (13 : Nat) "DoorsForThree$Law" "draft" "[I"),
  (Jvm.Cond.fieldLink "DoorsForThree$Law" (29 : Nat) "DoorsForThree$Law" "drafted" "I"),
  (Jvm.Cond.fieldLink "DoorsForThree$Law" (16 : Nat) "DoorsForThree$Law" "steps" "[I"),
  (Jvm.Cond.fieldLink "DoorsForThree$Law" (42 : Nat) "DoorsForThree$Law" "kept" "I"),
  (Jvm.Cond.fieldLink "DoorsForThree$Law" (45 : Nat) "DoorsForThree$Law" "version" "I"),
  (Jvm.Cond.fieldLink "DoorsForThree$Law" (19 : Nat) "DoorsForThree$Law" "stack" "[I"),
  (Jvm.Cond.fieldLink "DoorsForThree$Law" (103 : Nat) "DoorsForThree$Law" "top" "I"),
  (Jvm.Cond.methodLink "DoorsForThree$Law" (32 : Nat) ({ cls := "DoorsForThree$Law", name := "readLines", desc := "()Z" } : Jvm.MethodName)),
  (Jvm.Cond.methodLink "DoorsForThree$Law" (48 : Nat) ({ cls := "DoorsForThree$Law", name := "readLine", desc := "()Z" } : Jvm.MethodName)),
  (Jvm.Cond.methodLink "DoorsForThree$Law" (57 : Nat) ({ cls := "DoorsForThree$Law", name := "readLevel", desc := "(II)Z" } : Jvm.MethodName)),
  (Jvm.Cond.methodLink "DoorsForThree$Law" (67 : Nat) ({ cls := "DoorsForThree$Law", name := "readOperand", desc := "(I)Z" } : Jvm.MethodName)),
  (Jvm.Cond.stringRef "DoorsForThree$Law" (85 : Nat) "swdank"),
  (Jvm.Cond.methodLink "DoorsForThree$Law" (53 : Nat) ({ cls := "DoorsForThree$Law", name := "pass", desc := "(Ljava/lang/String;)I" } : Jvm.MethodName)),
  (Jvm.Cond.methodLink "DoorsForThree$Law" (97 : Nat) ({ cls := "java/lang/String", name := "indexOf", desc := "(I)I" } : Jvm.MethodName)),
  (Jvm.Cond.methodLink "DoorsForThree$Law" (63 : Nat) ({ cls := "DoorsForThree$Law", name := "draftStep", desc := "(I)V" } : Jvm.MethodName)),
  (Jvm.Cond.methodLink "DoorsForThree$Law" (87 : Nat) ({ cls := "DoorsForThree$Law", name := "isDigitNext", desc := "()Z" } : Jvm.MethodName)),
  (Jvm.Cond.methodLink "DoorsForThree$Law" (90 : Nat) ({ cls := "DoorsForThree$Law", name := "readNumber", desc := "()V" } : Jvm.MethodName)),
  (Jvm.Cond.stringRef "DoorsForThree$Law" (93 : Nat) "(!-"),
  (Jvm.Cond.stringRef "DoorsForThree$Law" (95 : Nat) ")"),
  (Jvm.Cond.methodLink "DoorsForThree$Law" (71 : Nat) ({ cls := "DoorsForThree$Law", name := "signsOf", desc := "(I)Ljava/lang/String;" } : Jvm.MethodName)),
  (Jvm.Cond.stringRef "DoorsForThree$Law" (75 : Nat) "|"),
  (Jvm.Cond.stringRef "DoorsForThree$Law" (77 : Nat) "&"),
  (Jvm.Cond.stringRef "DoorsForThree$Law" (79 : Nat) "<=>"),
  (Jvm.Cond.stringRef "DoorsForThree$Law" (81 : Nat) "+-"),
  (Jvm.Cond.stringRef "DoorsForThree$Law" (83 : Nat) "*/%"),
  (Jvm.Cond.stringRef "DoorsForThree$Law" (61 : Nat) "?"),
  (Jvm.Cond.stringRef "DoorsForThree$Law" (51 : Nat) ";"),
  (Jvm.Cond.methodLink "DoorsForThree$Law" (36 : Nat) ({ cls := "java/lang/System", name := "arraycopy", desc := "(Ljava/lang/Object;ILjava/lang/Object;II)V" } : Jvm.MethodName)),
  (Jvm.Cond.methodLink "DoorsForThree$Law" (106 : Nat) ({ cls := "DoorsForThree$Law", name := "pop", desc := "()I" } : Jvm.MethodName)),
  (Jvm.Cond.methodLink "DoorsForThree$Law" (110 : Nat) ({ cls := "DoorsForThree$Law", name := "takeStep", desc := "(I[I)V" } : Jvm.MethodName)),
  (Jvm.Cond.methodLink "DoorsForThree$Law" (114 : Nat) ({ cls := "DoorsForThree$Law", name := "push", desc := "(I)V" } : Jvm.MethodName)),
  (Jvm.Cond.methodLink "DoorsForThree$Law" (117 : Nat) ({ cls := "DoorsForThree$Law", name := "joined", desc := "(III)I" } : Jvm.MethodName))]
def am_lkX6 : List Cond := [
  (Jvm.Cond.methodLink "DoorsForThree$Pictures" (1 : Nat) ({ cls := "java/lang/Object", name := "<init>", desc := "()V" } : Jvm.MethodName)),
  (Jvm.Cond.fieldLink "DoorsForThree$Pictures" (9 : Nat) "DoorsForThree$Pictures" "kinds" "[I"),
  (Jvm.Cond.fieldLink "DoorsForThree$Pictures" (19 : Nat) "DoorsForThree$Pictures" "bodies" "I"),
  (Jvm.Cond.fieldLink "DoorsForThree$Pictures" (13 : Nat) "DoorsForThree$Pictures" "trace" "[I"),
  (Jvm.Cond.fieldLink "DoorsForThree$Pictures" (30 : Nat) "DoorsForThree$Pictures" "ran" "I"),
  (Jvm.Cond.fieldLink "DoorsForThree$Pictures" (16 : Nat) "DoorsForThree$Pictures" "ABOVE" "[I"),
  (Jvm.Cond.methodLink "DoorsForThree$Pictures" (23 : Nat) ({ cls := "DoorsForThree$Pictures", name := "hasBody", desc := "(I)Z" } : Jvm.MethodName)),
  (Jvm.Cond.methodLink "DoorsForThree$Pictures" (36 : Nat) ({ cls := "DoorsForThree$Pictures", name := "opensOf", desc := "(II)I" } : Jvm.MethodName)),
  (Jvm.Cond.methodLink "DoorsForThree$Pictures" (49 : Nat) ({ cls := "DoorsForThree$Pictures", name := "kindOf", desc := "(I)I" } : Jvm.MethodName)),
  (Jvm.Cond.methodLink "DoorsForThree$Pictures" (53 : Nat) ({ cls := "DoorsForThree$Pictures", name := "isUnder", desc := "(II)Z" } : Jvm.MethodName)),
  (Jvm.Cond.methodLink "DoorsForThree$Pictures" (27 : Nat) ({ cls := "DoorsForThree$Pictures", name := "isKind", desc := "(I)Z" } : Jvm.MethodName)),
  (Jvm.Cond.methodLink "DoorsForThree$Pictures" (57 : Nat) ({ cls := "DoorsForThree$Pictures", name := "begins", desc := "(I)V" } : Jvm.MethodName)),
  (Jvm.Cond.methodLink "DoorsForThree$Pictures" (40 : Nat) ({ cls := "DoorsForThree$Pictures", name := "givesOf", desc := "(II)I" } : Jvm.MethodName)),
  (Jvm.Cond.methodLink "DoorsForThree$Pictures" (43 : Nat) ({ cls := "DoorsForThree$Pictures", name := "waitsOf", desc := "(II)I" } : Jvm.MethodName)),
  (Jvm.Cond.methodLink "DoorsForThree$Pictures" (46 : Nat) ({ cls := "DoorsForThree$Pictures", name := "tellsOf", desc := "(II)I" } : Jvm.MethodName)),
  (Jvm.Cond.methodLink "DoorsForThree$Pictures" (33 : Nat) ({ cls := "DoorsForThree$Pictures", name := "hasTrace", desc := "(I)Z" } : Jvm.MethodName))]
def am_lkX7 : List Cond := [
  (Jvm.Cond.methodLink "DoorsForThree$Shelf" (3 : Nat) ({ cls := "java/lang/Object", name := "<init>", desc := "()V" } : Jvm.MethodName)),
  (Jvm.Cond.fieldLink "DoorsForThree$Shelf" (11 : Nat) "DoorsForThree$Shelf" "holds" "I"),
  (Jvm.Cond.fieldLink "DoorsForThree$Shelf" (22 : Nat) "DoorsForThree$Shelf" "body" "I"),
  (Jvm.Cond.fieldLink "DoorsForThree$Shelf" (25 : Nat) "DoorsForThree$Shelf" "sort" "I"),
  (Jvm.Cond.fieldLink "DoorsForThree$Shelf" (19 : Nat) "DoorsForThree$Shelf" "length" "I"),
  (Jvm.Cond.fieldLink "DoorsForThree$Shelf" (15 : Nat) "DoorsForThree$Shelf" "cells" "[J"),
  (Jvm.Cond.methodLink "DoorsForThree$Shelf" (43 : Nat) ({ cls := "DoorsForThree$Shelf", name := "refusesRow", desc := "()I" } : Jvm.MethodName)),
  (Jvm.Cond.methodLink "DoorsForThree$Shelf" (47 : Nat) ({ cls := "DoorsForThree$Shelf", name := "hasPlace", desc := "(I)Z" } : Jvm.MethodName)),
  (Jvm.Cond.methodLink "DoorsForThree$Shelf" (28 : Nat) ({ cls := "java/lang/Math", name := "min", desc := "(II)I" } : Jvm.MethodName)),
  (Jvm.Cond.methodLink "DoorsForThree$Shelf" (34 : Nat) ({ cls := "java/lang/Math", name := "max", desc := "(II)I" } : Jvm.MethodName)),
  (Jvm.Cond.methodLink "DoorsForThree$Shelf" (37 : Nat) ({ cls := "java/util/Arrays", name := "fill", desc := "([JJ)V" } : Jvm.MethodName)),
  (Jvm.Cond.methodLink "DoorsForThree$Shelf" (51 : Nat) ({ cls := "DoorsForThree$Shelf", name := "lowest", desc := "(J)J" } : Jvm.MethodName)),
  (Jvm.Cond.methodLink "DoorsForThree$Shelf" (55 : Nat) ({ cls := "DoorsForThree$Shelf", name := "hasPlaces", desc := "(II)Z" } : Jvm.MethodName)),
  (Jvm.Cond.methodLink "DoorsForThree$Shelf" (59 : Nat) ({ cls := "java/lang/System", name := "arraycopy", desc := "(Ljava/lang/Object;ILjava/lang/Object;II)V" } : Jvm.MethodName))]
def am_lkJ0 : List Cond := [
  (Jvm.Cond.methodLink "java/lang/String" (633 : Nat) ({ cls := "java/lang/String", name := "indexOf", desc := "(II)I" } : Jvm.MethodName)),
  (Jvm.Cond.methodLink "java/lang/String" (492 : Nat) ({ cls := "java/lang/String", name := "isLatin1", desc := "()Z" } : Jvm.MethodName)),
  (Jvm.Cond.fieldLink "java/lang/String" (38 : Nat) "java/lang/String" "COMPACT_STRINGS" "Z"),
  (Jvm.Cond.methodLink "java/lang/String" (505 : Nat) ({ cls := "java/lang/String", name := "length", desc := "()I" } : Jvm.MethodName)),
  (Jvm.Cond.methodLink "java/lang/String" (335 : Nat) ({ cls := "java/lang/String", name := "coder", desc := "()B" } : Jvm.MethodName)),
  (Jvm.Cond.methodLink "java/lang/String" (637 : Nat) ({ cls := "java/lang/StringLatin1", name := "indexOf", desc := "([BIII)I" } : Jvm.MethodName)),
  (Jvm.Cond.methodLink "java/lang/String" (640 : Nat) ({ cls := "java/lang/StringUTF16", name := "indexOf", desc := "([BIII)I" } : Jvm.MethodName)),
  (Jvm.Cond.fieldLink "java/lang/String" (1053 : Nat) "jdk/internal/util/Preconditions" "SIOOBE_FORMATTER" "Ljava/util/function/BiFunction;"),
  (Jvm.Cond.methodLink "java/lang/String" (1062 : Nat) ({ cls := "jdk/internal/util/Preconditions", name := "checkFromToIndex", desc := "(IIILjava/util/function/BiFunction;)I" } : Jvm.MethodName)),
  (Jvm.Cond.fieldLink "java/lang/String" (15 : Nat) "java/lang/String" "coder" "B"),
  (Jvm.Cond.fieldLink "java/lang/String" (9 : Nat) "java/lang/String" "value" "[B")]
def am_lkJ1 : List Cond := [
  (Jvm.Cond.methodLink "java/lang/StringLatin1" (88 : Nat) ({ cls := "java/lang/StringLatin1", name := "canEncode", desc := "(I)Z" } : Jvm.MethodName)),
  (Jvm.Cond.methodLink "java/lang/StringLatin1" (92 : Nat) ({ cls := "java/lang/Math", name := "max", desc := "(II)I" } : Jvm.MethodName)),
  (Jvm.Cond.methodLink "java/lang/StringLatin1" (38 : Nat) ({ cls := "java/lang/Math", name := "min", desc := "(II)I" } : Jvm.MethodName)),
  (Jvm.Cond.methodLink "java/lang/StringLatin1" (95 : Nat) ({ cls := "java/lang/StringLatin1", name := "indexOfChar", desc := "([BIII)I" } : Jvm.MethodName))]
def am_lkJ6 : List Cond := [
  (Jvm.Cond.constant "java/lang/Integer" (265 : Nat) (1431655765 : Int32)),
  (Jvm.Cond.constant "java/lang/Integer" (266 : Nat) (858993459 : Int32)),
  (Jvm.Cond.constant "java/lang/Integer" (267 : Nat) (252645135 : Int32)),
  (Jvm.Cond.constant "java/lang/Integer" (264 : Nat) (65536 : Int32))]
def am_lkX11 : List Cond := [
  (Jvm.Cond.methodLink "DoorsForThreeModel" (3 : Nat) ({ cls := "java/lang/Object", name := "<init>", desc := "()V" } : Jvm.MethodName)),
  (Jvm.Cond.fieldLink "DoorsForThreeModel" (118 : Nat) "DoorsForThreeModel" "doors" "I"),
  (Jvm.Cond.fieldLink "DoorsForThreeModel" (9 : Nat) "DoorsForThreeModel" "day" "[I"),
  (Jvm.Cond.fieldLink "DoorsForThreeModel" (15 : Nat) "DoorsForThreeModel" "what" "[I"),
  (Jvm.Cond.fieldLink "DoorsForThreeModel" (18 : Nat) "DoorsForThreeModel" "size" "[I"),
  (Jvm.Cond.fieldLink "DoorsForThreeModel" (21 : Nat) "DoorsForThreeModel" "opener" "[I"),
  (Jvm.Cond.fieldLink "DoorsForThreeModel" (126 : Nat) "DoorsForThreeModel" "children" "I"),
  (Jvm.Cond.fieldLink "DoorsForThreeModel" (24 : Nat) "DoorsForThreeModel" "age" "[I"),
  (Jvm.Cond.fieldLink "DoorsForThreeModel" (27 : Nat) "DoorsForThreeModel" "likes" "[I"),
  (Jvm.Cond.fieldLink "DoorsForThreeModel" (30 : Nat) "DoorsForThreeModel" "holds" "[I"),
  (Jvm.Cond.fieldLink "DoorsForThreeModel" (33 : Nat) "DoorsForThreeModel" "from" "[I"),
  (Jvm.Cond.fieldLink "DoorsForThreeModel" (36 : Nat) "DoorsForThreeModel" "till" "[I"),
  (Jvm.Cond.fieldLink "DoorsForThreeModel" (39 : Nat) "DoorsForThreeModel" "ways" "[I"),
  (Jvm.Cond.fieldLink "DoorsForThreeModel" (336 : Nat) "DoorsForThreeModel" "now" "I"),
  (Jvm.Cond.fieldLink "DoorsForThreeModel" (172 : Nat) "DoorsForThreeModel" "taped" "I"),
  (Jvm.Cond.fieldLink "DoorsForThreeModel" (42 : Nat) "DoorsForThreeModel" "tape" "[I"),
  (Jvm.Cond.fieldLink "DoorsForThreeModel" (226 : Nat) "DoorsForThreeModel" "isTold" "Z"),
  (Jvm.Cond.fieldLink "DoorsForThreeModel" (230 : Nat) "DoorsForThreeModel" "lines" "I"),
  (Jvm.Cond.fieldLink "DoorsForThreeModel" (45 : Nat) "DoorsForThreeModel" "asks" "[I"),
  (Jvm.Cond.fieldLink "DoorsForThreeModel" (48 : Nat) "DoorsForThreeModel" "says" "[I"),
  (Jvm.Cond.fieldLink "DoorsForThreeModel" (51 : Nat) "DoorsForThreeModel" "ends" "[I"),
  (Jvm.Cond.fieldLink "DoorsForThreeModel" (54 : Nat) "DoorsForThreeModel" "code" "[I"),
  (Jvm.Cond.fieldLink "DoorsForThreeModel" (175 : Nat) "DoorsForThreeModel" "at" "I"),
  (Jvm.Cond.fieldLink "DoorsForThreeModel" (196 : Nat) "DoorsForThreeModel" "open" "I"),
  (Jvm.Cond.fieldLink "DoorsForThreeModel" (182 : Nat) "DoorsForThreeModel" "coded" "I"),
  (Jvm.Cond.fieldLink "DoorsForThreeModel" (220 : Nat) "DoorsForThreeModel" "newLines" "I"),
  (Jvm.Cond.fieldLink "DoorsForThreeModel" (57 : Nat) "DoorsForThreeModel" "newAsks" "[I"),
  (Jvm.Cond.fieldLink "DoorsForThreeModel" (60 : Nat) "DoorsForThreeModel" "newSays" "[I"),
  (Jvm.Cond.fieldLink "DoorsForThreeModel" (63 : Nat) "DoorsForThreeModel" "newEnds" "[I"),
  (Jvm.Cond.fieldLink "DoorsForThreeModel" (66 : Nat) "DoorsForThreeModel" "newCode" "[I"),
  (Jvm.Cond.fieldLink "DoorsForThreeModel" (69 : Nat) "DoorsForThreeModel" "stack" "[I"),
  (Jvm.Cond.fieldLink "DoorsForThreeModel" (72 : Nat) "DoorsForThreeModel" "names" "[I"),
  (Jvm.Cond.fieldLink "DoorsForThreeModel" (75 : Nat) "DoorsForThreeModel" "led" "[I"),
  (Jvm.Cond.fieldLink "DoorsForThreeModel" (339 : Nat) "DoorsForThreeModel" "imaged" "Z"),
  (Jvm.Cond.fieldLink "DoorsForThreeModel" (342 : Nat) "DoorsForThreeModel" "oldDoors" "I"),
  (Jvm.Cond.fieldLink "DoorsForThreeModel" (345 : Nat) "DoorsForThreeModel" "oldNow" "I"),
  (Jvm.Cond.fieldLink "DoorsForThreeModel" (78 : Nat) "DoorsForThreeModel" "oldOpener" "[I"),
  (Jvm.Cond.fieldLink "DoorsForThreeModel" (81 : Nat) "DoorsForThreeModel" "oldLed" "[I"),
  (Jvm.Cond.fieldLink "DoorsForThreeModel" (169 : Nat) "DoorsForThreeModel" "changes" "I"),
  (Jvm.Cond.fieldLink "DoorsForThreeModel" (166 : Nat) "DoorsForThreeModel" "done" "I"),
  (Jvm.Cond.fieldLink "DoorsForThreeModel" (84 : Nat) "DoorsForThreeModel" "changed" "[I"),
  (Jvm.Cond.fieldLink "DoorsForThreeModel" (369 : Nat) "DoorsForThreeModel" "bodies" "I"),
  (Jvm.Cond.fieldLink "DoorsForThreeModel" (87 : Nat) "DoorsForThreeModel" "kind" "[I"),
  (Jvm.Cond.fieldLink "DoorsForThreeModel" (348 : Nat) "DoorsForThreeModel" "traced" "I"),
  (Jvm.Cond.fieldLink "DoorsForThreeModel" (90 : Nat) "DoorsForThreeModel" "traces" "[I"),
  (Jvm.Cond.fieldLink "DoorsForThreeModel" (93 : Nat) "DoorsForThreeModel" "holding" "[I"),
  (Jvm.Cond.fieldLink "DoorsForThreeModel" (96 : Nat) "DoorsForThreeModel" "rowLength" "[I"),
  (Jvm.Cond.fieldLink "DoorsForThreeModel" (99 : Nat) "DoorsForThreeModel" "rowOf" "[J"),
  (Jvm.Cond.fieldLink "DoorsForThreeModel" (103 : Nat) "DoorsForThreeModel" "order" "[I"),
  (Jvm.Cond.fieldLink "DoorsForThreeModel" (106 : Nat) "DoorsForThreeModel" "whose" "[I"),
  (Jvm.Cond.fieldLink "DoorsForThreeModel" (109 : Nat) "DoorsForThreeModel" "all" "[I"),
  (Jvm.Cond.fieldLink "DoorsForThreeModel" (112 : Nat) "DoorsForThreeModel" "eldest" "[I"),
  (Jvm.Cond.fieldLink "DoorsForThreeModel" (115 : Nat) "DoorsForThreeModel" "best" "[I"),
  (Jvm.Cond.methodLink "DoorsForThreeModel" (136 : Nat) ({ cls := "DoorsForThreeModel", name := "isDay", desc := "(I)Z" } : Jvm.MethodName)),
  (Jvm.Cond.methodLink "DoorsForThreeModel" (122 : Nat) ({ cls := "DoorsForThreeModel", name := "within", desc := "(III)Z" } : Jvm.MethodName)),
  (Jvm.Cond.methodLink "DoorsForThreeModel" (139 : Nat) ({ cls := "DoorsForThreeModel", name := "newDoor", desc := "(III)I" } : Jvm.MethodName)),
  (Jvm.Cond.methodLink "DoorsForThreeModel" (143 : Nat) ({ cls := "DoorsForThreeModel", name := "isShelf", desc := "(I)Z" } : Jvm.MethodName)),
  (Jvm.Cond.constantLong "DoorsForThreeModel" (146 : Nat) (3 : Int64)),
  (Jvm.Cond.methodLink "DoorsForThreeModel" (151 : Nat) ({ cls := "DoorsForThreeModel", name := "isOf", desc := "(II)Z" } : Jvm.MethodName)),
  (Jvm.Cond.methodLink "DoorsForThreeModel" (148 : Nat) ({ cls := "DoorsForThreeModel", name := "isDoor", desc := "(I)Z" } : Jvm.MethodName)),
  (Jvm.Cond.methodLink "DoorsForThreeModel" (133 : Nat) ({ cls := "DoorsForThreeModel", name := "isChild", desc := "(I)Z" } : Jvm.MethodName)),
  (Jvm.Cond.methodLink "DoorsForThreeModel" (155 : Nat) ({ cls := "DoorsForThreeModel", name := "isFit", desc := "(II)Z" } : Jvm.MethodName)),
  (Jvm.Cond.methodLink "DoorsForThreeModel" (158 : Nat) ({ cls := "DoorsForThreeModel", name := "get", desc := "(II)I" } : Jvm.MethodName)),
  (Jvm.Cond.methodLink "DoorsForThreeModel" (162 : Nat) ({ cls := "DoorsForThreeModel", name := "becomes", desc := "(III)V" } : Jvm.MethodName)),
  (Jvm.Cond.methodLink "DoorsForThreeModel" (223 : Nat) ({ cls := "DoorsForThreeModel", name := "isLine", desc := "()Z" } : Jvm.MethodName)),
  (Jvm.Cond.methodLink "DoorsForThreeModel" (205 : Nat) ({ cls := "DoorsForThreeModel", name := "isE", desc := "()Z" } : Jvm.MethodName)),
  (Jvm.Cond.methodLink "DoorsForThreeModel" (217 : Nat) ({ cls := "DoorsForThreeModel", name := "isA", desc := "()Z" } : Jvm.MethodName)),
  (Jvm.Cond.methodLink "DoorsForThreeModel" (214 : Nat) ({ cls := "DoorsForThreeModel", name := "isB", desc := "()Z" } : Jvm.MethodName)),
  (Jvm.Cond.methodLink "DoorsForThreeModel" (211 : Nat) ({ cls := "DoorsForThreeModel", name := "isS", desc := "()Z" } : Jvm.MethodName)),
  (Jvm.Cond.methodLink "DoorsForThreeModel" (208 : Nat) ({ cls := "DoorsForThreeModel", name := "isP", desc := "()Z" } : Jvm.MethodName)),
  (Jvm.Cond.methodLink "DoorsForThreeModel" (202 : Nat) ({ cls := "DoorsForThreeModel", name := "isO", desc := "()Z" } : Jvm.MethodName)),
  (Jvm.Cond.methodLink "DoorsForThreeModel" (185 : Nat) ({ cls := "DoorsForThreeModel", name := "isDigit", desc := "()Z" } : Jvm.MethodName)),
  (Jvm.Cond.methodLink "DoorsForThreeModel" (178 : Nat) ({ cls := "DoorsForThreeModel", name := "sign", desc := "()I" } : Jvm.MethodName)),
  (Jvm.Cond.methodLink "DoorsForThreeModel" (189 : Nat) ({ cls := "DoorsForThreeModel", name := "codes", desc := "(I)Z" } : Jvm.MethodName)),
  (Jvm.Cond.methodLink "DoorsForThreeModel" (192 : Nat) ({ cls := "DoorsForThreeModel", name := "nameOf", desc := "(I)I" } : Jvm.MethodName)),
  (Jvm.Cond.methodLink "DoorsForThreeModel" (199 : Nat) ({ cls := "DoorsForThreeModel", name := "is", desc := "(I)Z" } : Jvm.MethodName)),
  (Jvm.Cond.methodLink "DoorsForThreeModel" (247 : Nat) ({ cls := "DoorsForThreeModel", name := "worthOf", desc := "(III)I" } : Jvm.MethodName)),
  (Jvm.Cond.methodLink "DoorsForThreeModel" (236 : Nat) ({ cls := "java/lang/Math", name := "max", desc := "(II)I" } : Jvm.MethodName)),
  (Jvm.Cond.methodLink "DoorsForThreeModel" (241 : Nat) ({ cls := "DoorsForThreeModel", name := "worked", desc := "(II)I" } : Jvm.MethodName)),
  (Jvm.Cond.methodLink "DoorsForThreeModel" (233 : Nat) ({ cls := "DoorsForThreeModel", name := "both", desc := "(III)I" } : Jvm.MethodName)),
  (Jvm.Cond.methodLink "DoorsForThreeModel" (244 : Nat) ({ cls := "java/lang/Math", name := "min", desc := "(II)I" } : Jvm.MethodName)),
  (Jvm.Cond.methodLink "DoorsForThreeModel" (129 : Nat) ({ cls := "DoorsForThreeModel", name := "isRule", desc := "(I)Z" } : Jvm.MethodName)),
  (Jvm.Cond.methodLink "DoorsForThreeModel" (275 : Nat) ({ cls := "DoorsForThreeModel", name := "gives", desc := "(I)V" } : Jvm.MethodName)),
  (Jvm.Cond.methodLink "DoorsForThreeModel" (266 : Nat) ({ cls := "DoorsForThreeModel", name := "ages", desc := "()V" } : Jvm.MethodName)),
  (Jvm.Cond.methodLink "DoorsForThreeModel" (269 : Nat) ({ cls := "DoorsForThreeModel", name := "goes", desc := "(III)V" } : Jvm.MethodName)),
  (Jvm.Cond.methodLink "DoorsForThreeModel" (259 : Nat) ({ cls := "DoorsForThreeModel", name := "orders", desc := "(II)V" } : Jvm.MethodName)),
  (Jvm.Cond.methodLink "DoorsForThreeModel" (263 : Nat) ({ cls := "DoorsForThreeModel", name := "goesTo", desc := "(II)I" } : Jvm.MethodName)),
  (Jvm.Cond.methodLink "DoorsForThreeModel" (256 : Nat) ({ cls := "DoorsForThreeModel", name := "eaten", desc := "(II)I" } : Jvm.MethodName)),
  (Jvm.Cond.methodLink "DoorsForThreeModel" (253 : Nat) ({ cls := "DoorsForThreeModel", name := "late", desc := "(II)I" } : Jvm.MethodName)),
  (Jvm.Cond.methodLink "DoorsForThreeModel" (250 : Nat) ({ cls := "DoorsForThreeModel", name := "isAway", desc := "(II)Z" } : Jvm.MethodName)),
  (Jvm.Cond.methodLink "DoorsForThreeModel" (279 : Nat) ({ cls := "DoorsForThreeModel", name := "isOne", desc := "(I)Z" } : Jvm.MethodName)),
  (Jvm.Cond.methodLink "DoorsForThreeModel" (282 : Nat) ({ cls := "DoorsForThreeModel", name := "unfair", desc := "()I" } : Jvm.MethodName)),
  (Jvm.Cond.methodLink "DoorsForThreeModel" (285 : Nat) ({ cls := "DoorsForThreeModel", name := "together", desc := "()I" } : Jvm.MethodName)),
  (Jvm.Cond.methodLink "DoorsForThreeModel" (288 : Nat) ({ cls := "DoorsForThreeModel", name := "envy", desc := "()I" } : Jvm.MethodName)),
  (Jvm.Cond.methodLink "DoorsForThreeModel" (272 : Nat) ({ cls := "DoorsForThreeModel", name := "worthTo", desc := "(II)I" } : Jvm.MethodName)),
  (Jvm.Cond.methodLink "DoorsForThreeModel" (291 : Nat) ({ cls := "DoorsForThreeModel", name := "isMuch", desc := "()Z" } : Jvm.MethodName)),
  (Jvm.Cond.methodLink "DoorsForThreeModel" (294 : Nat) ({ cls := "DoorsForThreeModel", name := "sums", desc := "()V" } : Jvm.MethodName)),
  (Jvm.Cond.methodLink "DoorsForThreeModel" (297 : Nat) ({ cls := "DoorsForThreeModel", name := "nextGiving", desc := "()Z" } : Jvm.MethodName)),
  (Jvm.Cond.methodLink "DoorsForThreeModel" (303 : Nat) ({ cls := "DoorsForThreeModel", name := "firstSwap", desc := "()I" } : Jvm.MethodName)),
  (Jvm.Cond.methodLink "DoorsForThreeModel" (300 : Nat) ({ cls := "DoorsForThreeModel", name := "bothMore", desc := "(II)Z" } : Jvm.MethodName)),
  (Jvm.Cond.methodLink "DoorsForThreeModel" (306 : Nat) ({ cls := "DoorsForThreeModel", name := "gathered", desc := "(II)I" } : Jvm.MethodName)),
  (Jvm.Cond.methodLink "DoorsForThreeModel" (315 : Nat) ({ cls := "DoorsForThreeModel", name := "noRow", desc := "(I)I" } : Jvm.MethodName)),
  (Jvm.Cond.methodLink "DoorsForThreeModel" (318 : Nat) ({ cls := "DoorsForThreeModel", name := "early", desc := "(II)I" } : Jvm.MethodName)),
  (Jvm.Cond.methodLink "DoorsForThreeModel" (309 : Nat) ({ cls := "DoorsForThreeModel", name := "toldAt", desc := "(II)I" } : Jvm.MethodName)),
  (Jvm.Cond.methodLink "DoorsForThreeModel" (321 : Nat) ({ cls := "java/lang/Integer", name := "bitCount", desc := "(I)I" } : Jvm.MethodName)),
  (Jvm.Cond.methodLink "DoorsForThreeModel" (326 : Nat) ({ cls := "DoorsForThreeModel", name := "couldBe", desc := "(II)I" } : Jvm.MethodName)),
  (Jvm.Cond.methodLink "DoorsForThreeModel" (312 : Nat) ({ cls := "DoorsForThreeModel", name := "has", desc := "(II)Z" } : Jvm.MethodName)),
  (Jvm.Cond.methodLink "DoorsForThreeModel" (329 : Nat) ({ cls := "java/lang/Integer", name := "numberOfTrailingZeros", desc := "(I)I" } : Jvm.MethodName)),
  (Jvm.Cond.methodLink "DoorsForThreeModel" (332 : Nat) ({ cls := "DoorsForThreeModel", name := "wrong", desc := "(II)I" } : Jvm.MethodName)),
  (Jvm.Cond.constant "DoorsForThreeModel" (335 : Nat) (1103515245 : Int32)),
  (Jvm.Cond.methodLink "DoorsForThreeModel" (354 : Nat) ({ cls := "DoorsForThreeModel", name := "opensBy", desc := "(III)I" } : Jvm.MethodName)),
  (Jvm.Cond.methodLink "DoorsForThreeModel" (351 : Nat) ({ cls := "DoorsForThreeModel", name := "ran", desc := "(I)V" } : Jvm.MethodName)),
  (Jvm.Cond.methodLink "DoorsForThreeModel" (357 : Nat) ({ cls := "DoorsForThreeModel", name := "above", desc := "(I)I" } : Jvm.MethodName)),
  (Jvm.Cond.methodLink "DoorsForThreeModel" (360 : Nat) ({ cls := "DoorsForThreeModel", name := "givesBy", desc := "(III)I" } : Jvm.MethodName)),
  (Jvm.Cond.methodLink "DoorsForThreeModel" (363 : Nat) ({ cls := "DoorsForThreeModel", name := "waitsBy", desc := "(III)I" } : Jvm.MethodName)),
  (Jvm.Cond.methodLink "DoorsForThreeModel" (366 : Nat) ({ cls := "DoorsForThreeModel", name := "tells", desc := "(III)I" } : Jvm.MethodName)),
  (Jvm.Cond.methodLink "DoorsForThreeModel" (372 : Nat) ({ cls := "DoorsForThreeModel", name := "isRow", desc := "(I)Z" } : Jvm.MethodName)),
  (Jvm.Cond.methodLink "DoorsForThreeModel" (375 : Nat) ({ cls := "DoorsForThreeModel", name := "kept", desc := "(IJ)J" } : Jvm.MethodName)),
  (Jvm.Cond.constantLong "DoorsForThreeModel" (379 : Nat) (-9223372036854775808 : Int64))]
def am_lks : Nat → List Cond
  | 0 => am_lkL
  | 1 => am_lkX10
  | 2 => am_lkX0
  | 3 => am_lkX3
  | 4 => am_lkX4
  | 5 => am_lkX8
  | 6 => am_lkX2
  | 7 => am_lkX9
  | 8 => am_lkX1
  | 9 => am_lkX5
  | 10 => am_lkX6
  | 11 => am_lkX7
  | 12 => am_lkJ0
  | 13 => am_lkJ1
  | 14 => am_lkJ6
  | 15 => am_lkX11
  | _ => []
/-- yX0_hasDoor -/
def mt_0 : List am_row := [
  (0, .iload_n 1, 1, 0, 0, 0, 0, []),
  (1, .ifCond .lt 15, 3, 8, 0, 0, 0, []),
  (4, .iload_n 1, 1, 0, 0, 0, 0, []),
  (5, .aload_n 0, 1, 0, 0, 0, 0, []),
  (6, .getfield 14, 3, 0, 1, 0, 0, []),
  (9, .if_icmp .ge 7, 3, 8, 0, 0, 0, []),
  (12, .iconst 1, 1, 0, 0, 0, 1, []),
  (13, .goto 4, 3, 9, 0, 0, 0, []),
  (16, .iconst 0, 1, 0, 0, 0, 0, []),
  (17, .ireturn, 1, 1, 0, 0, 0, [])]
/-- yX0_hasChild -/
def mt_1 : List am_row := [
  (0, .iload_n 1, 1, 0, 0, 0, 0, []),
  (1, .ifCond .lt 15, 3, 8, 0, 0, 0, []),
  (4, .iload_n 1, 1, 0, 0, 0, 0, []),
  (5, .aload_n 0, 1, 0, 0, 0, 0, []),
  (6, .getfield 18, 3, 0, 2, 0, 0, []),
  (9, .if_icmp .ge 7, 3, 8, 0, 0, 0, []),
  (12, .iconst 1, 1, 0, 0, 0, 1, []),
  (13, .goto 4, 3, 9, 0, 0, 0, []),
  (16, .iconst 0, 1, 0, 0, 0, 0, []),
  (17, .ireturn, 1, 1, 0, 0, 0, [])]
/-- yX0_has -/
def mt_2 : List am_row := [
  (0, .iload_n 1, 1, 0, 0, 0, 0, []),
  (1, .ifCond .lt 9, 3, 5, 0, 0, 0, []),
  (4, .iload_n 1, 1, 0, 0, 0, 0, []),
  (5, .bipush 9, 2, 0, 0, 0, 9, []),
  (7, .if_icmp .le 5, 3, 7, 0, 0, 0, []),
  (10, .iconst 0, 1, 0, 0, 0, 0, []),
  (11, .ireturn, 1, 1, 0, 0, 0, []),
  (12, .iload_n 1, 1, 0, 0, 0, 0, []),
  (13, .iconst 2, 1, 0, 0, 0, 2, []),
  (14, .if_icmp .gt 9, 3, 14, 0, 0, 0, []),
  (17, .aload_n 0, 1, 0, 0, 0, 0, []),
  (18, .iload_n 2, 1, 0, 0, 0, 0, []),
  (19, .invokevirtual 21, 3, 0, 2, 1, 0, []),
  (22, .ireturn, 1, 1, 0, 0, 0, []),
  (23, .iload_n 1, 1, 0, 0, 0, 0, []),
  (24, .bipush 7, 2, 0, 0, 0, 7, []),
  (26, .if_icmp .gt 11, 3, 21, 0, 0, 0, []),
  (29, .aload_n 0, 1, 0, 0, 0, 0, []),
  (30, .iload_n 2, 1, 0, 0, 0, 0, []),
  (31, .invokevirtual 25, 3, 1, 2, 1, 0, []),
  (34, .goto 12, 3, 26, 0, 0, 0, []),
  (37, .iload_n 2, 1, 0, 0, 0, 0, []),
  (38, .ifCond .ne 7, 3, 25, 0, 0, 0, []),
  (41, .iconst 1, 1, 0, 0, 0, 1, []),
  (42, .goto 4, 3, 26, 0, 0, 0, []),
  (45, .iconst 0, 1, 0, 0, 0, 0, []),
  (46, .ireturn, 1, 1, 0, 0, 0, [])]
/-- yX0_fits -/
def mt_3 : List am_row := [
  (0, .iload_n 1, 1, 0, 0, 0, 0, []),
  (1, .ifCond .lt 31, 3, 17, 0, 0, 0, []),
  (4, .iload_n 1, 1, 0, 0, 0, 0, []),
  (5, .bipush 9, 2, 0, 0, 0, 9, []),
  (7, .if_icmp .gt 25, 3, 17, 0, 0, 0, []),
  (10, .iload_n 2, 1, 0, 0, 0, 0, []),
  (11, .getstatic 28, 3, 114, 0, 0, 0, []),
  (14, .iload_n 1, 1, 0, 0, 0, 0, []),
  (15, .iaload, 1, 0, 0, 0, 0, []),
  (16, .if_icmp .lt 16, 3, 17, 0, 0, 0, []),
  (19, .iload_n 2, 1, 0, 0, 0, 0, []),
  (20, .getstatic 32, 3, 115, 0, 0, 0, []),
  (23, .iload_n 1, 1, 0, 0, 0, 0, []),
  (24, .iaload, 1, 0, 0, 0, 0, []),
  (25, .if_icmp .gt 7, 3, 17, 0, 0, 0, []),
  (28, .iconst 1, 1, 0, 0, 0, 1, []),
  (29, .goto 4, 3, 18, 0, 0, 0, []),
  (32, .iconst 0, 1, 0, 0, 0, 0, []),
  (33, .ireturn, 1, 1, 0, 0, 0, [])]
/-- yX0_get -/
def mt_4 : List am_row := [
  (0, .iload_n 1, 1, 0, 0, 0, 0, []),
  (1, .ifCond .lt 19, 3, 10, 0, 0, 0, []),
  (4, .iload_n 1, 1, 0, 0, 0, 0, []),
  (5, .bipush 9, 2, 0, 0, 0, 9, []),
  (7, .if_icmp .gt 13, 3, 10, 0, 0, 0, []),
  (10, .iload_n 2, 1, 0, 0, 0, 0, []),
  (11, .ifCond .lt 9, 3, 10, 0, 0, 0, []),
  (14, .iload_n 2, 1, 0, 0, 0, 0, []),
  (15, .bipush 12, 2, 0, 0, 0, 12, []),
  (17, .if_icmp .lt 5, 3, 12, 0, 0, 0, []),
  (20, .iconst 0, 1, 0, 0, 0, 0, []),
  (21, .ireturn, 1, 0, 0, 0, 0, []),
  (22, .aload_n 0, 1, 0, 0, 0, 0, []),
  (23, .getfield 11, 3, 0, 0, 2, 0, []),
  (26, .iload_n 1, 1, 0, 0, 0, 0, []),
  (27, .aaload, 1, 0, 0, 0, 0, []),
  (28, .iload_n 2, 1, 0, 0, 0, 0, []),
  (29, .iaload, 1, 0, 0, 0, 0, []),
  (30, .ireturn, 1, 0, 0, 0, 0, [])]
/-- yX0_set -/
def mt_5 : List am_row := [
  (0, .aload_n 0, 1, 0, 0, 0, 0, []),
  (1, .iload_n 1, 1, 0, 0, 0, 0, []),
  (2, .iload_n 2, 1, 0, 0, 0, 0, []),
  (3, .invokevirtual 35, 3, 2, 3, 1, 0, []),
  (6, .ifCond .eq 22, 3, 18, 0, 0, 0, []),
  (9, .aload_n 0, 1, 0, 0, 0, 0, []),
  (10, .getfield 11, 3, 0, 0, 2, 0, []),
  (13, .iload_n 1, 1, 0, 0, 0, 0, []),
  (14, .aaload, 1, 0, 0, 0, 0, []),
  (15, .iload_n 2, 1, 0, 0, 0, 0, []),
  (16, .iload_n 3, 1, 0, 0, 0, 0, []),
  (17, .iastore, 1, 0, 0, 0, 0, []),
  (18, .aload_n 0, 1, 0, 0, 0, 0, []),
  (19, .dup, 1, 0, 0, 0, 0, []),
  (20, .getfield 39, 3, 0, 3, 0, 0, []),
  (23, .iconst 1, 1, 0, 0, 0, 1, []),
  (24, .iadd, 1, 0, 0, 0, 0, []),
  (25, .putfield 39, 3, 0, 3, 0, 0, []),
  (28, .return_, 1, 0, 0, 0, 0, [])]
/-- yX0_addDoor -/
def mt_6 : List am_row := [
  (0, .aload_n 0, 1, 0, 0, 0, 0, []),
  (1, .getfield 14, 3, 0, 1, 0, 0, []),
  (4, .bipush 12, 2, 0, 0, 0, 12, []),
  (6, .if_icmp .lt 5, 3, 6, 0, 0, 0, []),
  (9, .iconst 0, 1, 0, 0, 0, 0, []),
  (10, .ireturn, 1, 1, 0, 0, 0, []),
  (11, .aload_n 0, 1, 0, 0, 0, 0, []),
  (12, .dup, 1, 0, 0, 0, 0, []),
  (13, .getfield 14, 3, 0, 1, 0, 0, []),
  (16, .iconst 1, 1, 0, 0, 0, 1, []),
  (17, .iadd, 1, 0, 0, 0, 0, []),
  (18, .putfield 14, 3, 0, 1, 0, 0, []),
  (21, .aload_n 0, 1, 0, 0, 0, 0, []),
  (22, .iconst 0, 1, 0, 0, 0, 0, []),
  (23, .aload_n 0, 1, 0, 0, 0, 0, []),
  (24, .getfield 14, 3, 0, 1, 0, 0, []),
  (27, .iconst 1, 1, 0, 0, 0, 1, []),
  (28, .isub, 1, 0, 0, 0, 0, []),
  (29, .iload_n 1, 1, 0, 0, 0, 0, []),
  (30, .invokevirtual 42, 3, 5, 4, 0, 0, []),
  (33, .aload_n 0, 1, 0, 0, 0, 0, []),
  (34, .iconst 1, 1, 0, 0, 0, 1, []),
  (35, .aload_n 0, 1, 0, 0, 0, 0, []),
  (36, .getfield 14, 3, 0, 1, 0, 0, []),
  (39, .iconst 1, 1, 0, 0, 0, 1, []),
  (40, .isub, 1, 0, 0, 0, 0, []),
  (41, .iload_n 2, 1, 0, 0, 0, 0, []),
  (42, .invokevirtual 42, 3, 5, 4, 0, 0, []),
  (45, .aload_n 0, 1, 0, 0, 0, 0, []),
  (46, .iconst 2, 1, 0, 0, 0, 2, []),
  (47, .aload_n 0, 1, 0, 0, 0, 0, []),
  (48, .getfield 14, 3, 0, 1, 0, 0, []),
  (51, .iconst 1, 1, 0, 0, 0, 1, []),
  (52, .isub, 1, 0, 0, 0, 0, []),
  (53, .iload_n 3, 1, 0, 0, 0, 0, []),
  (54, .invokevirtual 42, 3, 5, 4, 0, 0, []),
  (57, .iconst 1, 1, 0, 0, 0, 1, []),
  (58, .ireturn, 1, 1, 0, 0, 0, [])]
/-- yX0_addChild -/
def mt_7 : List am_row := [
  (0, .aload_n 0, 1, 0, 0, 0, 0, []),
  (1, .getfield 18, 3, 0, 2, 0, 0, []),
  (4, .iconst 5, 1, 0, 0, 0, 5, []),
  (5, .if_icmp .lt 5, 3, 6, 0, 0, 0, []),
  (8, .iconst 0, 1, 0, 0, 0, 0, []),
  (9, .ireturn, 1, 1, 0, 0, 0, []),
  (10, .aload_n 0, 1, 0, 0, 0, 0, []),
  (11, .dup, 1, 0, 0, 0, 0, []),
  (12, .getfield 18, 3, 0, 2, 0, 0, []),
  (15, .iconst 1, 1, 0, 0, 0, 1, []),
  (16, .iadd, 1, 0, 0, 0, 0, []),
  (17, .putfield 18, 3, 0, 2, 0, 0, []),
  (20, .aload_n 0, 1, 0, 0, 0, 0, []),
  (21, .iconst 3, 1, 0, 0, 0, 3, []),
  (22, .aload_n 0, 1, 0, 0, 0, 0, []),
  (23, .getfield 18, 3, 0, 2, 0, 0, []),
  (26, .iconst 1, 1, 0, 0, 0, 1, []),
  (27, .isub, 1, 0, 0, 0, 0, []),
  (28, .iload_n 1, 1, 0, 0, 0, 0, []),
  (29, .invokevirtual 42, 3, 5, 4, 0, 0, []),
  (32, .aload_n 0, 1, 0, 0, 0, 0, []),
  (33, .iconst 4, 1, 0, 0, 0, 4, []),
  (34, .aload_n 0, 1, 0, 0, 0, 0, []),
  (35, .getfield 18, 3, 0, 2, 0, 0, []),
  (38, .iconst 1, 1, 0, 0, 0, 1, []),
  (39, .isub, 1, 0, 0, 0, 0, []),
  (40, .iload_n 2, 1, 0, 0, 0, 0, []),
  (41, .invokevirtual 42, 3, 5, 4, 0, 0, []),
  (44, .aload_n 0, 1, 0, 0, 0, 0, []),
  (45, .iconst 5, 1, 0, 0, 0, 5, []),
  (46, .aload_n 0, 1, 0, 0, 0, 0, []),
  (47, .getfield 18, 3, 0, 2, 0, 0, []),
  (50, .iconst 1, 1, 0, 0, 0, 1, []),
  (51, .isub, 1, 0, 0, 0, 0, []),
  (52, .iconst 5, 1, 0, 0, 0, 5, []),
  (53, .invokevirtual 42, 3, 5, 4, 0, 0, []),
  (56, .iconst 1, 1, 0, 0, 0, 1, []),
  (57, .ireturn, 1, 1, 0, 0, 0, [])]
/-- yX0_isAway -/
def mt_8 : List am_row := [
  (0, .aload_n 0, 1, 0, 0, 0, 0, []),
  (1, .bipush 6, 2, 0, 0, 0, 6, []),
  (3, .iload_n 1, 1, 0, 0, 0, 0, []),
  (4, .invokevirtual 46, 3, 4, 3, 1, 0, []),
  (7, .istore_n 3, 1, 0, 0, 0, 0, []),
  (8, .iload_n 3, 1, 0, 0, 0, 0, []),
  (9, .ifCond .eq 23, 3, 18, 0, 0, 0, []),
  (12, .iload_n 3, 1, 0, 0, 0, 0, []),
  (13, .iload_n 2, 1, 0, 0, 0, 0, []),
  (14, .if_icmp .gt 18, 3, 18, 0, 0, 0, []),
  (17, .iload_n 2, 1, 0, 0, 0, 0, []),
  (18, .aload_n 0, 1, 0, 0, 0, 0, []),
  (19, .bipush 7, 2, 0, 0, 0, 7, []),
  (21, .iload_n 1, 1, 0, 0, 0, 0, []),
  (22, .invokevirtual 46, 3, 4, 3, 1, 0, []),
  (25, .if_icmp .gt 7, 3, 18, 0, 0, 0, []),
  (28, .iconst 1, 1, 0, 0, 0, 1, []),
  (29, .goto 4, 3, 19, 0, 0, 0, []),
  (32, .iconst 0, 1, 0, 0, 0, 0, []),
  (33, .ireturn, 1, 1, 0, 0, 0, [])]
/-- yX0_late -/
def mt_9 : List am_row := [
  (0, .aload_n 0, 1, 0, 0, 0, 0, []),
  (1, .iconst 0, 1, 0, 0, 0, 0, []),
  (2, .iload_n 2, 1, 0, 0, 0, 0, []),
  (3, .invokevirtual 46, 3, 4, 3, 1, 0, []),
  (6, .istore_n 3, 1, 0, 0, 0, 0, []),
  (7, .aload_n 0, 1, 0, 0, 0, 0, []),
  (8, .iload_n 1, 1, 0, 0, 0, 0, []),
  (9, .iload_n 3, 1, 0, 0, 0, 0, []),
  (10, .invokevirtual 50, 3, 8, 3, 1, 0, []),
  (13, .ifCond .ne 5, 3, 12, 0, 0, 0, []),
  (16, .iconst 0, 1, 0, 0, 0, 0, []),
  (17, .ireturn, 1, 0, 0, 0, 0, []),
  (18, .aload_n 0, 1, 0, 0, 0, 0, []),
  (19, .bipush 7, 2, 0, 0, 0, 7, []),
  (21, .iload_n 1, 1, 0, 0, 0, 0, []),
  (22, .invokevirtual 46, 3, 4, 3, 1, 0, []),
  (25, .iconst 1, 1, 0, 0, 0, 1, []),
  (26, .iadd, 1, 0, 0, 0, 0, []),
  (27, .istore 4, 2, 0, 0, 0, 0, []),
  (29, .iload 4, 2, 0, 0, 0, 0, []),
  (31, .bipush 24, 2, 0, 0, 0, 24, []),
  (33, .if_icmp .gt 10, 3, 26, 0, 0, 0, []),
  (36, .iload 4, 2, 0, 0, 0, 0, []),
  (38, .iload_n 3, 1, 0, 0, 0, 0, []),
  (39, .isub, 1, 0, 0, 0, 0, []),
  (40, .goto 4, 3, 27, 0, 0, 0, []),
  (43, .iconst (-1), 1, 0, 0, 0, -1, []),
  (44, .ireturn, 1, 0, 0, 0, 0, [])]
/-- yX0_doorsAway -/
def mt_10 : List am_row := [
  (0, .iconst 0, 1, 0, 0, 0, 0, []),
  (1, .istore_n 2, 1, 0, 0, 0, 0, []),
  (2, .iconst 0, 1, 0, 0, 0, 0, []),
  (3, .istore_n 3, 1, 0, 0, 0, 0, []),
  (4, .iload_n 3, 1, 0, 0, 0, 0, []),
  (5, .aload_n 0, 1, 0, 0, 0, 0, []),
  (6, .getfield 14, 3, 0, 1, 0, 0, []),
  (9, .if_icmp .ge 26, 3, 19, 0, 0, 0, []),
  (12, .aload_n 0, 1, 0, 0, 0, 0, []),
  (13, .iload_n 1, 1, 0, 0, 0, 0, []),
  (14, .aload_n 0, 1, 0, 0, 0, 0, []),
  (15, .iconst 0, 1, 0, 0, 0, 0, []),
  (16, .iload_n 3, 1, 0, 0, 0, 0, []),
  (17, .invokevirtual 46, 3, 4, 3, 1, 0, []),
  (20, .invokevirtual 50, 3, 8, 3, 1, 0, []),
  (23, .ifCond .eq 6, 3, 17, 0, 0, 0, []),
  (26, .iinc 2 1, 3, 0, 0, 0, 1, []),
  (29, .iinc 3 1, 3, 0, 0, 0, 1, []),
  (32, .goto (-28), 3, 4, 0, 0, 0, []),
  (35, .iload_n 2, 1, 0, 0, 0, 0, []),
  (36, .ireturn, 1, 0, 0, 0, 0, [])]
/-- yX0_holdsOutTill -/
def mt_11 : List am_row := [
  (0, .aload_n 0, 1, 0, 0, 0, 0, []),
  (1, .bipush 8, 2, 0, 0, 0, 8, []),
  (3, .iconst 0, 1, 0, 0, 0, 0, []),
  (4, .invokevirtual 46, 3, 4, 3, 1, 0, []),
  (7, .ifCond .ne 7, 3, 7, 0, 0, 0, []),
  (10, .iconst 2, 1, 0, 0, 0, 2, []),
  (11, .goto 4, 3, 8, 0, 0, 0, []),
  (14, .iconst 0, 1, 0, 0, 0, 0, []),
  (15, .istore_n 2, 1, 0, 0, 0, 0, []),
  (16, .aload_n 0, 1, 0, 0, 0, 0, []),
  (17, .iconst 5, 1, 0, 0, 0, 5, []),
  (18, .iload_n 1, 1, 0, 0, 0, 0, []),
  (19, .invokevirtual 46, 3, 4, 3, 1, 0, []),
  (22, .iconst 3, 1, 0, 0, 0, 3, []),
  (23, .imul, 1, 0, 0, 0, 0, []),
  (24, .iload_n 2, 1, 0, 0, 0, 0, []),
  (25, .iadd, 1, 0, 0, 0, 0, []),
  (26, .bipush 24, 2, 0, 0, 0, 24, []),
  (28, .invokestatic 53, 3, 1001, 2, 1, 0, []),
  (31, .ireturn, 1, 0, 0, 0, 0, [])]
/-- yX1_keepChange -/
def mt_12 : List am_row := [
  (0, .aload_n 0, 1, 0, 0, 0, 0, []),
  (1, .getfield 13, 3, 1, 1, 0, 0, []),
  (4, .bipush 40, 2, 0, 0, 0, 40, []),
  (6, .if_icmp .lt 25, 3, 15, 0, 0, 0, []),
  (9, .aload_n 0, 1, 0, 0, 0, 0, []),
  (10, .getfield 9, 3, 1, 0, 2, 0, []),
  (13, .iconst 4, 1, 0, 0, 0, 4, []),
  (14, .aload_n 0, 1, 0, 0, 0, 0, []),
  (15, .getfield 9, 3, 1, 0, 2, 0, []),
  (18, .iconst 0, 1, 0, 0, 0, 0, []),
  (19, .sipush 156, 3, 0, 0, 0, 156, []),
  (22, .invokestatic 17, 3, 1002, 5, 0, 0, []),
  (25, .aload_n 0, 1, 0, 0, 0, 0, []),
  (26, .bipush 39, 2, 0, 0, 0, 39, []),
  (28, .putfield 13, 3, 1, 1, 0, 0, []),
  (31, .aload_n 0, 1, 0, 0, 0, 0, []),
  (32, .getfield 13, 3, 1, 1, 0, 0, []),
  (35, .iconst 4, 1, 0, 0, 0, 4, []),
  (36, .imul, 1, 0, 0, 0, 0, []),
  (37, .istore 5, 2, 0, 0, 0, 0, []),
  (39, .aload_n 0, 1, 0, 0, 0, 0, []),
  (40, .getfield 9, 3, 1, 0, 2, 0, []),
  (43, .iload 5, 2, 0, 0, 0, 0, []),
  (45, .iload_n 1, 1, 0, 0, 0, 0, []),
  (46, .iastore, 1, 0, 0, 0, 0, []),
  (47, .aload_n 0, 1, 0, 0, 0, 0, []),
  (48, .getfield 9, 3, 1, 0, 2, 0, []),
  (51, .iload 5, 2, 0, 0, 0, 0, []),
  (53, .iconst 1, 1, 0, 0, 0, 1, []),
  (54, .iadd, 1, 0, 0, 0, 0, []),
  (55, .iload_n 2, 1, 0, 0, 0, 0, []),
  (56, .iastore, 1, 0, 0, 0, 0, []),
  (57, .aload_n 0, 1, 0, 0, 0, 0, []),
  (58, .getfield 9, 3, 1, 0, 2, 0, []),
  (61, .iload 5, 2, 0, 0, 0, 0, []),
  (63, .iconst 2, 1, 0, 0, 0, 2, []),
  (64, .iadd, 1, 0, 0, 0, 0, []),
  (65, .iload_n 3, 1, 0, 0, 0, 0, []),
  (66, .iastore, 1, 0, 0, 0, 0, []),
  (67, .aload_n 0, 1, 0, 0, 0, 0, []),
  (68, .getfield 9, 3, 1, 0, 2, 0, []),
  (71, .iload 5, 2, 0, 0, 0, 0, []),
  (73, .iconst 3, 1, 0, 0, 0, 3, []),
  (74, .iadd, 1, 0, 0, 0, 0, []),
  (75, .iload 4, 2, 0, 0, 0, 0, []),
  (77, .iastore, 1, 0, 0, 0, 0, []),
  (78, .aload_n 0, 1, 0, 0, 0, 0, []),
  (79, .dup, 1, 0, 0, 0, 0, []),
  (80, .getfield 13, 3, 1, 1, 0, 0, []),
  (83, .iconst 1, 1, 0, 0, 0, 1, []),
  (84, .iadd, 1, 0, 0, 0, 0, []),
  (85, .putfield 13, 3, 1, 1, 0, 0, []),
  (88, .aload_n 0, 1, 0, 0, 0, 0, []),
  (89, .iconst 0, 1, 0, 0, 0, 0, []),
  (90, .putfield 23, 3, 1, 2, 0, 0, []),
  (93, .return_, 1, 0, 0, 0, 0, [])]
/-- yX1_takeBack -/
def mt_13 : List am_row := [
  (0, .aload_n 0, 1, 0, 0, 0, 0, []),
  (1, .getfield 13, 3, 1, 1, 0, 0, []),
  (4, .ifCond .gt 5, 3, 5, 0, 0, 0, []),
  (7, .iconst 0, 1, 0, 0, 0, 0, []),
  (8, .ireturn, 1, 1, 0, 0, 0, []),
  (9, .aload_n 0, 1, 0, 0, 0, 0, []),
  (10, .dup, 1, 0, 0, 0, 0, []),
  (11, .getfield 13, 3, 1, 1, 0, 0, []),
  (14, .iconst 1, 1, 0, 0, 0, 1, []),
  (15, .isub, 1, 0, 0, 0, 0, []),
  (16, .putfield 13, 3, 1, 1, 0, 0, []),
  (19, .aload_n 0, 1, 0, 0, 0, 0, []),
  (20, .dup, 1, 0, 0, 0, 0, []),
  (21, .getfield 23, 3, 1, 2, 0, 0, []),
  (24, .iconst 1, 1, 0, 0, 0, 1, []),
  (25, .iadd, 1, 0, 0, 0, 0, []),
  (26, .putfield 23, 3, 1, 2, 0, 0, []),
  (29, .aload_n 0, 1, 0, 0, 0, 0, []),
  (30, .getfield 13, 3, 1, 1, 0, 0, []),
  (33, .iconst 4, 1, 0, 0, 0, 4, []),
  (34, .imul, 1, 0, 0, 0, 0, []),
  (35, .istore_n 2, 1, 0, 0, 0, 0, []),
  (36, .aload_n 1, 1, 0, 0, 0, 0, []),
  (37, .aload_n 0, 1, 0, 0, 0, 0, []),
  (38, .getfield 9, 3, 1, 0, 2, 0, []),
  (41, .iload_n 2, 1, 0, 0, 0, 0, []),
  (42, .iconst 1, 1, 0, 0, 0, 1, []),
  (43, .iadd, 1, 0, 0, 0, 0, []),
  (44, .iaload, 1, 0, 0, 0, 0, []),
  (45, .aload_n 0, 1, 0, 0, 0, 0, []),
  (46, .getfield 9, 3, 1, 0, 2, 0, []),
  (49, .iload_n 2, 1, 0, 0, 0, 0, []),
  (50, .iaload, 1, 0, 0, 0, 0, []),
  (51, .aload_n 0, 1, 0, 0, 0, 0, []),
  (52, .getfield 9, 3, 1, 0, 2, 0, []),
  (55, .iload_n 2, 1, 0, 0, 0, 0, []),
  (56, .iconst 2, 1, 0, 0, 0, 2, []),
  (57, .iadd, 1, 0, 0, 0, 0, []),
  (58, .iaload, 1, 0, 0, 0, 0, []),
  (59, .invokevirtual 26, 3, 5, 4, 0, 0, []),
  (62, .iconst 1, 1, 0, 0, 0, 1, []),
  (63, .ireturn, 1, 1, 0, 0, 0, [])]
/-- yX1_makeAgain -/
def mt_14 : List am_row := [
  (0, .aload_n 0, 1, 0, 0, 0, 0, []),
  (1, .getfield 23, 3, 1, 2, 0, 0, []),
  (4, .ifCond .le 12, 3, 7, 0, 0, 0, []),
  (7, .aload_n 0, 1, 0, 0, 0, 0, []),
  (8, .getfield 13, 3, 1, 1, 0, 0, []),
  (11, .bipush 40, 2, 0, 0, 0, 40, []),
  (13, .if_icmp .lt 5, 3, 9, 0, 0, 0, []),
  (16, .iconst 0, 1, 0, 0, 0, 0, []),
  (17, .ireturn, 1, 1, 0, 0, 0, []),
  (18, .aload_n 0, 1, 0, 0, 0, 0, []),
  (19, .getfield 13, 3, 1, 1, 0, 0, []),
  (22, .iconst 4, 1, 0, 0, 0, 4, []),
  (23, .imul, 1, 0, 0, 0, 0, []),
  (24, .istore_n 2, 1, 0, 0, 0, 0, []),
  (25, .aload_n 1, 1, 0, 0, 0, 0, []),
  (26, .aload_n 0, 1, 0, 0, 0, 0, []),
  (27, .getfield 9, 3, 1, 0, 2, 0, []),
  (30, .iload_n 2, 1, 0, 0, 0, 0, []),
  (31, .iconst 1, 1, 0, 0, 0, 1, []),
  (32, .iadd, 1, 0, 0, 0, 0, []),
  (33, .iaload, 1, 0, 0, 0, 0, []),
  (34, .aload_n 0, 1, 0, 0, 0, 0, []),
  (35, .getfield 9, 3, 1, 0, 2, 0, []),
  (38, .iload_n 2, 1, 0, 0, 0, 0, []),
  (39, .iaload, 1, 0, 0, 0, 0, []),
  (40, .aload_n 0, 1, 0, 0, 0, 0, []),
  (41, .getfield 9, 3, 1, 0, 2, 0, []),
  (44, .iload_n 2, 1, 0, 0, 0, 0, []),
  (45, .iconst 3, 1, 0, 0, 0, 3, []),
  (46, .iadd, 1, 0, 0, 0, 0, []),
  (47, .iaload, 1, 0, 0, 0, 0, []),
  (48, .invokevirtual 26, 3, 5, 4, 0, 0, []),
  (51, .aload_n 0, 1, 0, 0, 0, 0, []),
  (52, .dup, 1, 0, 0, 0, 0, []),
  (53, .getfield 13, 3, 1, 1, 0, 0, []),
  (56, .iconst 1, 1, 0, 0, 0, 1, []),
  (57, .iadd, 1, 0, 0, 0, 0, []),
  (58, .putfield 13, 3, 1, 1, 0, 0, []),
  (61, .aload_n 0, 1, 0, 0, 0, 0, []),
  (62, .dup, 1, 0, 0, 0, 0, []),
  (63, .getfield 23, 3, 1, 2, 0, 0, []),
  (66, .iconst 1, 1, 0, 0, 0, 1, []),
  (67, .isub, 1, 0, 0, 0, 0, []),
  (68, .putfield 23, 3, 1, 2, 0, 0, []),
  (71, .iconst 1, 1, 0, 0, 0, 1, []),
  (72, .ireturn, 1, 1, 0, 0, 0, [])]
/-- yX2_opener -/
def mt_15 : List am_row := [
  (0, .iload_n 1, 1, 0, 0, 0, 0, []),
  (1, .ifCond .lt 21, 3, 12, 0, 0, 0, []),
  (4, .iload_n 1, 1, 0, 0, 0, 0, []),
  (5, .aload_n 0, 1, 0, 0, 0, 0, []),
  (6, .getfield 11, 3, 2, 1, 2, 0, []),
  (9, .arraylength, 1, 0, 0, 0, 0, []),
  (10, .if_icmp .ge 12, 3, 12, 0, 0, 0, []),
  (13, .aload_n 0, 1, 0, 0, 0, 0, []),
  (14, .getfield 11, 3, 2, 1, 2, 0, []),
  (17, .iload_n 1, 1, 0, 0, 0, 0, []),
  (18, .iaload, 1, 0, 0, 0, 0, []),
  (19, .goto 5, 3, 13, 0, 0, 0, []),
  (22, .bipush (-2), 2, 0, 0, 0, -2, []),
  (24, .ireturn, 1, 0, 0, 0, 0, [])]
/-- yX2_dayPasses -/
def mt_16 : List am_row := [
  (0, .aload_n 0, 1, 0, 0, 0, 0, []),
  (1, .getfield 30, 3, 2, 2, 0, 0, []),
  (4, .bipush 24, 2, 0, 0, 0, 24, []),
  (6, .if_icmp .lt 5, 3, 6, 0, 0, 0, []),
  (9, .iconst 0, 1, 0, 0, 0, 0, []),
  (10, .ireturn, 1, 1, 0, 0, 0, []),
  (11, .aload_n 0, 1, 0, 0, 0, 0, []),
  (12, .dup, 1, 0, 0, 0, 0, []),
  (13, .getfield 30, 3, 2, 2, 0, 0, []),
  (16, .iconst 1, 1, 0, 0, 0, 1, []),
  (17, .iadd, 1, 0, 0, 0, 0, []),
  (18, .putfield 30, 3, 2, 2, 0, 0, []),
  (21, .iconst 1, 1, 0, 0, 0, 1, []),
  (22, .ireturn, 1, 1, 0, 0, 0, [])]
/-- yX2_lateFor -/
def mt_17 : List am_row := [
  (0, .iconst 0, 1, 0, 0, 0, 0, []),
  (1, .aload_n 0, 1, 0, 0, 0, 0, []),
  (2, .getfield 30, 3, 2, 2, 0, 0, []),
  (5, .aload_n 0, 1, 0, 0, 0, 0, []),
  (6, .getfield 20, 3, 2, 0, 2, 0, []),
  (9, .iconst 0, 1, 0, 0, 0, 0, []),
  (10, .iload_n 1, 1, 0, 0, 0, 0, []),
  (11, .invokevirtual 34, 3, 4, 3, 1, 0, []),
  (14, .isub, 1, 0, 0, 0, 0, []),
  (15, .invokestatic 38, 3, 1000, 2, 1, 0, []),
  (18, .ireturn, 1, 0, 0, 0, 0, [])]
/-- yX2_openDoor -/
def mt_18 : List am_row := [
  (0, .iload_n 2, 1, 0, 0, 0, 0, []),
  (1, .ifCond .lt 12, 3, 7, 0, 0, 0, []),
  (4, .iload_n 2, 1, 0, 0, 0, 0, []),
  (5, .aload_n 0, 1, 0, 0, 0, 0, []),
  (6, .getfield 11, 3, 2, 1, 2, 0, []),
  (9, .arraylength, 1, 0, 0, 0, 0, []),
  (10, .if_icmp .lt 4, 3, 8, 0, 0, 0, []),
  (13, .return_, 1, 0, 0, 0, 0, []),
  (14, .aload_n 0, 1, 0, 0, 0, 0, []),
  (15, .getfield 11, 3, 2, 1, 2, 0, []),
  (18, .iload_n 2, 1, 0, 0, 0, 0, []),
  (19, .iload_n 1, 1, 0, 0, 0, 0, []),
  (20, .iastore, 1, 0, 0, 0, 0, []),
  (21, .aload_n 0, 1, 0, 0, 0, 0, []),
  (22, .dup, 1, 0, 0, 0, 0, []),
  (23, .getfield 43, 3, 2, 3, 0, 0, []),
  (26, .iconst 1, 1, 0, 0, 0, 1, []),
  (27, .iadd, 1, 0, 0, 0, 0, []),
  (28, .putfield 43, 3, 2, 3, 0, 0, []),
  (31, .aload_n 0, 1, 0, 0, 0, 0, []),
  (32, .dup, 1, 0, 0, 0, 0, []),
  (33, .getfield 46, 3, 2, 5, 0, 0, []),
  (36, .iload_n 3, 1, 0, 0, 0, 0, []),
  (37, .iadd, 1, 0, 0, 0, 0, []),
  (38, .putfield 46, 3, 2, 5, 0, 0, []),
  (41, .aload_n 0, 1, 0, 0, 0, 0, []),
  (42, .getfield 20, 3, 2, 0, 2, 0, []),
  (45, .iconst 0, 1, 0, 0, 0, 0, []),
  (46, .iload_n 2, 1, 0, 0, 0, 0, []),
  (47, .invokevirtual 34, 3, 4, 3, 1, 0, []),
  (50, .aload_n 0, 1, 0, 0, 0, 0, []),
  (51, .getfield 30, 3, 2, 2, 0, 0, []),
  (54, .if_icmp .le 13, 3, 39, 0, 0, 0, []),
  (57, .aload_n 0, 1, 0, 0, 0, 0, []),
  (58, .dup, 1, 0, 0, 0, 0, []),
  (59, .getfield 49, 3, 2, 4, 0, 0, []),
  (62, .iconst 1, 1, 0, 0, 0, 1, []),
  (63, .iadd, 1, 0, 0, 0, 0, []),
  (64, .putfield 49, 3, 2, 4, 0, 0, []),
  (67, .return_, 1, 0, 0, 0, 0, [])]
/-- yX2_closedBehind -/
def mt_19 : List am_row := [
  (0, .iconst 0, 1, 0, 0, 0, 0, []),
  (1, .istore_n 1, 1, 0, 0, 0, 0, []),
  (2, .iconst 0, 1, 0, 0, 0, 0, []),
  (3, .istore_n 2, 1, 0, 0, 0, 0, []),
  (4, .iload_n 2, 1, 0, 0, 0, 0, []),
  (5, .aload_n 0, 1, 0, 0, 0, 0, []),
  (6, .getfield 20, 3, 2, 0, 2, 0, []),
  (9, .getfield 52, 3, 0, 1, 0, 0, []),
  (12, .if_icmp .ge 41, 3, 30, 0, 0, 0, []),
  (15, .aload_n 0, 1, 0, 0, 0, 0, []),
  (16, .iload_n 2, 1, 0, 0, 0, 0, []),
  (17, .invokevirtual 55, 3, 15, 2, 1, 0, []),
  (20, .bipush (-2), 2, 0, 0, 0, -2, []),
  (22, .if_icmp .ne 25, 3, 28, 0, 0, 0, []),
  (25, .aload_n 0, 1, 0, 0, 0, 0, []),
  (26, .getfield 20, 3, 2, 0, 2, 0, []),
  (29, .iconst 0, 1, 0, 0, 0, 0, []),
  (30, .iload_n 2, 1, 0, 0, 0, 0, []),
  (31, .invokevirtual 34, 3, 4, 3, 1, 0, []),
  (34, .aload_n 0, 1, 0, 0, 0, 0, []),
  (35, .getfield 30, 3, 2, 2, 0, 0, []),
  (38, .if_icmp .ge 9, 3, 28, 0, 0, 0, []),
  (41, .iload_n 1, 1, 0, 0, 0, 0, []),
  (42, .iconst 1, 1, 0, 0, 0, 1, []),
  (43, .iload_n 2, 1, 0, 0, 0, 0, []),
  (44, .ishl, 1, 0, 0, 0, 0, []),
  (45, .ior, 1, 0, 0, 0, 0, []),
  (46, .istore_n 1, 1, 0, 0, 0, 0, []),
  (47, .iinc 2 1, 3, 0, 0, 0, 1, []),
  (50, .goto (-46), 3, 4, 0, 0, 0, []),
  (53, .iload_n 1, 1, 0, 0, 0, 0, []),
  (54, .ireturn, 1, 0, 0, 0, 0, [])]
/-- yX2_keepImage -/
def mt_20 : List am_row := [
  (0, .aload_n 0, 1, 0, 0, 0, 0, []),
  (1, .getfield 11, 3, 2, 1, 2, 0, []),
  (4, .iconst 0, 1, 0, 0, 0, 0, []),
  (5, .aload_n 0, 1, 0, 0, 0, 0, []),
  (6, .getfield 17, 3, 2, 7, 2, 0, []),
  (9, .iconst 0, 1, 0, 0, 0, 0, []),
  (10, .aload_n 0, 1, 0, 0, 0, 0, []),
  (11, .getfield 11, 3, 2, 1, 2, 0, []),
  (14, .arraylength, 1, 0, 0, 0, 0, []),
  (15, .invokestatic 59, 3, 1002, 5, 0, 0, []),
  (18, .aload_n 0, 1, 0, 0, 0, 0, []),
  (19, .aload_n 0, 1, 0, 0, 0, 0, []),
  (20, .getfield 30, 3, 2, 2, 0, 0, []),
  (23, .putfield 65, 3, 2, 8, 0, 0, []),
  (26, .aload_n 0, 1, 0, 0, 0, 0, []),
  (27, .aload_n 0, 1, 0, 0, 0, 0, []),
  (28, .getfield 43, 3, 2, 3, 0, 0, []),
  (31, .putfield 68, 3, 2, 9, 0, 0, []),
  (34, .aload_n 0, 1, 0, 0, 0, 0, []),
  (35, .aload_n 0, 1, 0, 0, 0, 0, []),
  (36, .getfield 49, 3, 2, 4, 0, 0, []),
  (39, .putfield 71, 3, 2, 10, 0, 0, []),
  (42, .aload_n 0, 1, 0, 0, 0, 0, []),
  (43, .aload_n 0, 1, 0, 0, 0, 0, []),
  (44, .getfield 46, 3, 2, 5, 0, 0, []),
  (47, .putfield 74, 3, 2, 11, 0, 0, []),
  (50, .aload_n 0, 1, 0, 0, 0, 0, []),
  (51, .iconst 1, 1, 0, 0, 0, 1, []),
  (52, .putfield 77, 3, 2, 6, 1, 0, []),
  (55, .return_, 1, 0, 0, 0, 0, [])]
/-- yX2_layBack -/
def mt_21 : List am_row := [
  (0, .aload_n 0, 1, 0, 0, 0, 0, []),
  (1, .getfield 77, 3, 2, 6, 1, 0, []),
  (4, .ifCond .ne 5, 3, 5, 0, 0, 0, []),
  (7, .iconst 0, 1, 0, 0, 0, 0, []),
  (8, .ireturn, 1, 1, 0, 0, 0, []),
  (9, .aload_n 0, 1, 0, 0, 0, 0, []),
  (10, .getfield 17, 3, 2, 7, 2, 0, []),
  (13, .iconst 0, 1, 0, 0, 0, 0, []),
  (14, .aload_n 0, 1, 0, 0, 0, 0, []),
  (15, .getfield 11, 3, 2, 1, 2, 0, []),
  (18, .iconst 0, 1, 0, 0, 0, 0, []),
  (19, .aload_n 0, 1, 0, 0, 0, 0, []),
  (20, .getfield 11, 3, 2, 1, 2, 0, []),
  (23, .arraylength, 1, 0, 0, 0, 0, []),
  (24, .invokestatic 59, 3, 1002, 5, 0, 0, []),
  (27, .aload_n 0, 1, 0, 0, 0, 0, []),
  (28, .aload_n 0, 1, 0, 0, 0, 0, []),
  (29, .getfield 65, 3, 2, 8, 0, 0, []),
  (32, .putfield 30, 3, 2, 2, 0, 0, []),
  (35, .aload_n 0, 1, 0, 0, 0, 0, []),
  (36, .aload_n 0, 1, 0, 0, 0, 0, []),
  (37, .getfield 68, 3, 2, 9, 0, 0, []),
  (40, .putfield 43, 3, 2, 3, 0, 0, []),
  (43, .aload_n 0, 1, 0, 0, 0, 0, []),
  (44, .aload_n 0, 1, 0, 0, 0, 0, []),
  (45, .getfield 71, 3, 2, 10, 0, 0, []),
  (48, .putfield 49, 3, 2, 4, 0, 0, []),
  (51, .aload_n 0, 1, 0, 0, 0, 0, []),
  (52, .aload_n 0, 1, 0, 0, 0, 0, []),
  (53, .getfield 74, 3, 2, 11, 0, 0, []),
  (56, .putfield 46, 3, 2, 5, 0, 0, []),
  (59, .iconst 1, 1, 0, 0, 0, 1, []),
  (60, .ireturn, 1, 1, 0, 0, 0, [])]
/-- yX3_isTooWide -/
def mt_22 : List am_row := [
  (0, .aload_n 0, 1, 0, 0, 0, 0, []),
  (1, .getfield 30, 3, 3, 0, 2, 0, []),
  (4, .getfield 38, 3, 0, 1, 0, 0, []),
  (7, .bipush 8, 2, 0, 0, 0, 8, []),
  (9, .if_icmp .gt 14, 3, 10, 0, 0, 0, []),
  (12, .aload_n 0, 1, 0, 0, 0, 0, []),
  (13, .getfield 30, 3, 3, 0, 2, 0, []),
  (16, .getfield 43, 3, 0, 2, 0, 0, []),
  (19, .iconst 3, 1, 0, 0, 0, 3, []),
  (20, .if_icmp .le 7, 3, 12, 0, 0, 0, []),
  (23, .iconst 1, 1, 0, 0, 0, 1, []),
  (24, .goto 4, 3, 13, 0, 0, 0, []),
  (27, .iconst 0, 1, 0, 0, 0, 0, []),
  (28, .ireturn, 1, 1, 0, 0, 0, [])]
/-- yX3_owner -/
def mt_23 : List am_row := [
  (0, .iload_n 1, 1, 0, 0, 0, 0, []),
  (1, .ifCond .lt 18, 3, 10, 0, 0, 0, []),
  (4, .iload_n 1, 1, 0, 0, 0, 0, []),
  (5, .bipush 8, 2, 0, 0, 0, 8, []),
  (7, .if_icmp .ge 12, 3, 10, 0, 0, 0, []),
  (10, .aload_n 0, 1, 0, 0, 0, 0, []),
  (11, .getfield 24, 3, 3, 5, 2, 0, []),
  (14, .iload_n 1, 1, 0, 0, 0, 0, []),
  (15, .iaload, 1, 0, 0, 0, 0, []),
  (16, .goto 5, 3, 11, 0, 0, 0, []),
  (19, .bipush (-2), 2, 0, 0, 0, -2, []),
  (21, .ireturn, 1, 0, 0, 0, 0, [])]
/-- yX3_findOut -/
def mt_24 : List am_row := [
  (0, .aload_n 0, 1, 0, 0, 0, 0, []),
  (1, .getfield 9, 3, 3, 2, 0, 0, []),
  (4, .aload_n 0, 1, 0, 0, 0, 0, []),
  (5, .getfield 34, 3, 3, 1, 2, 0, []),
  (8, .getfield 46, 3, 4, 2, 0, 0, []),
  (11, .if_icmp .eq 10, 3, 9, 0, 0, 0, []),
  (14, .aload_n 0, 1, 0, 0, 0, 0, []),
  (15, .invokevirtual 49, 3, 22, 1, 1, 0, []),
  (18, .ifCond .eq 4, 3, 10, 0, 0, 0, []),
  (21, .return_, 1, 0, 0, 0, 0, []),
  (22, .aload_n 0, 1, 0, 0, 0, 0, []),
  (23, .aload_n 0, 1, 0, 0, 0, 0, []),
  (24, .getfield 34, 3, 3, 1, 2, 0, []),
  (27, .getfield 46, 3, 4, 2, 0, 0, []),
  (30, .putfield 9, 3, 3, 2, 0, 0, []),
  (33, .aload_n 0, 1, 0, 0, 0, 0, []),
  (34, .invokevirtual 53, 3, 26, 1, 0, 0, []),
  (37, .aload_n 0, 1, 0, 0, 0, 0, []),
  (38, .ldc 58, 2, 0, 0, 0, 2147483647, []),
  (40, .putfield 59, 3, 3, 7, 0, 0, []),
  (43, .aload_n 0, 1, 0, 0, 0, 0, []),
  (44, .iconst 0, 1, 0, 0, 0, 0, []),
  (45, .putfield 62, 3, 3, 8, 0, 0, []),
  (48, .aload_n 0, 1, 0, 0, 0, 0, []),
  (49, .iconst 0, 1, 0, 0, 0, 0, []),
  (50, .putfield 65, 3, 3, 9, 0, 0, []),
  (53, .aload_n 0, 1, 0, 0, 0, 0, []),
  (54, .invokevirtual 68, 3, 25, 1, 1, 0, []),
  (57, .istore_n 1, 1, 0, 0, 0, 0, []),
  (58, .iconst 0, 1, 0, 0, 0, 0, []),
  (59, .istore_n 2, 1, 0, 0, 0, 0, []),
  (60, .iload_n 2, 1, 0, 0, 0, 0, []),
  (61, .iload_n 1, 1, 0, 0, 0, 0, []),
  (62, .if_icmp .ge 17, 3, 40, 0, 0, 0, []),
  (65, .aload_n 0, 1, 0, 0, 0, 0, []),
  (66, .invokevirtual 72, 3, 27, 1, 0, 0, []),
  (69, .aload_n 0, 1, 0, 0, 0, 0, []),
  (70, .invokevirtual 75, 3, 28, 1, 0, 0, []),
  (73, .iinc 2 1, 3, 0, 0, 0, 1, []),
  (76, .goto (-16), 3, 31, 0, 0, 0, []),
  (79, .return_, 1, 0, 0, 0, 0, [])]
/-- yX3_howMany -/
def mt_25 : List am_row := [
  (0, .iconst 1, 1, 0, 0, 0, 1, []),
  (1, .istore_n 1, 1, 0, 0, 0, 0, []),
  (2, .iconst 0, 1, 0, 0, 0, 0, []),
  (3, .istore_n 2, 1, 0, 0, 0, 0, []),
  (4, .iload_n 2, 1, 0, 0, 0, 0, []),
  (5, .aload_n 0, 1, 0, 0, 0, 0, []),
  (6, .getfield 30, 3, 3, 0, 2, 0, []),
  (9, .getfield 38, 3, 0, 1, 0, 0, []),
  (12, .if_icmp .ge 19, 3, 17, 0, 0, 0, []),
  (15, .iload_n 1, 1, 0, 0, 0, 0, []),
  (16, .aload_n 0, 1, 0, 0, 0, 0, []),
  (17, .getfield 30, 3, 3, 0, 2, 0, []),
  (20, .getfield 43, 3, 0, 2, 0, 0, []),
  (23, .imul, 1, 0, 0, 0, 0, []),
  (24, .istore_n 1, 1, 0, 0, 0, 0, []),
  (25, .iinc 2 1, 3, 0, 0, 0, 1, []),
  (28, .goto (-24), 3, 4, 0, 0, 0, []),
  (31, .iload_n 1, 1, 0, 0, 0, 0, []),
  (32, .ireturn, 1, 0, 0, 0, 0, [])]
/-- yX3_giveAllToFirst -/
def mt_26 : List am_row := [
  (0, .aload_n 0, 1, 0, 0, 0, 0, []),
  (1, .getfield 20, 3, 3, 4, 2, 0, []),
  (4, .iconst 0, 1, 0, 0, 0, 0, []),
  (5, .invokestatic 78, 3, 275, 2, 0, 0, []),
  (8, .iconst 0, 1, 0, 0, 0, 0, []),
  (9, .istore_n 1, 1, 0, 0, 0, 0, []),
  (10, .iload_n 1, 1, 0, 0, 0, 0, []),
  (11, .aload_n 0, 1, 0, 0, 0, 0, []),
  (12, .getfield 30, 3, 3, 0, 2, 0, []),
  (15, .getfield 43, 3, 0, 2, 0, 0, []),
  (18, .if_icmp .ge 76, 3, 56, 0, 0, 0, []),
  (21, .aload_n 0, 1, 0, 0, 0, 0, []),
  (22, .getfield 27, 3, 3, 6, 2, 0, []),
  (25, .iload_n 1, 1, 0, 0, 0, 0, []),
  (26, .aaload, 1, 0, 0, 0, 0, []),
  (27, .iconst 0, 1, 0, 0, 0, 0, []),
  (28, .invokestatic 78, 3, 275, 2, 0, 0, []),
  (31, .iconst 0, 1, 0, 0, 0, 0, []),
  (32, .istore_n 2, 1, 0, 0, 0, 0, []),
  (33, .iload_n 2, 1, 0, 0, 0, 0, []),
  (34, .aload_n 0, 1, 0, 0, 0, 0, []),
  (35, .getfield 30, 3, 3, 0, 2, 0, []),
  (38, .getfield 38, 3, 0, 1, 0, 0, []),
  (41, .if_icmp .ge 47, 3, 54, 0, 0, 0, []),
  (44, .aload_n 0, 1, 0, 0, 0, 0, []),
  (45, .getfield 17, 3, 3, 3, 2, 0, []),
  (48, .iload_n 1, 1, 0, 0, 0, 0, []),
  (49, .aaload, 1, 0, 0, 0, 0, []),
  (50, .iload_n 2, 1, 0, 0, 0, 0, []),
  (51, .aload_n 0, 1, 0, 0, 0, 0, []),
  (52, .getfield 34, 3, 3, 1, 2, 0, []),
  (55, .getfield 84, 3, 4, 5, 2, 0, []),
  (58, .iload_n 1, 1, 0, 0, 0, 0, []),
  (59, .aaload, 1, 0, 0, 0, 0, []),
  (60, .iload_n 2, 1, 0, 0, 0, 0, []),
  (61, .iaload, 1, 0, 0, 0, 0, []),
  (62, .iastore, 1, 0, 0, 0, 0, []),
  (63, .aload_n 0, 1, 0, 0, 0, 0, []),
  (64, .getfield 27, 3, 3, 6, 2, 0, []),
  (67, .iload_n 1, 1, 0, 0, 0, 0, []),
  (68, .aaload, 1, 0, 0, 0, 0, []),
  (69, .iconst 0, 1, 0, 0, 0, 0, []),
  (70, .dup2, 1, 0, 0, 0, 0, []),
  (71, .iaload, 1, 0, 0, 0, 0, []),
  (72, .aload_n 0, 1, 0, 0, 0, 0, []),
  (73, .getfield 17, 3, 3, 3, 2, 0, []),
  (76, .iload_n 1, 1, 0, 0, 0, 0, []),
  (77, .aaload, 1, 0, 0, 0, 0, []),
  (78, .iload_n 2, 1, 0, 0, 0, 0, []),
  (79, .iaload, 1, 0, 0, 0, 0, []),
  (80, .iadd, 1, 0, 0, 0, 0, []),
  (81, .iastore, 1, 0, 0, 0, 0, []),
  (82, .iinc 2 1, 3, 0, 0, 0, 1, []),
  (85, .goto (-52), 3, 19, 0, 0, 0, []),
  (88, .iinc 1 1, 3, 0, 0, 0, 1, []),
  (91, .goto (-81), 3, 6, 0, 0, 0, []),
  (94, .return_, 1, 0, 0, 0, 0, [])]
/-- yX3_weigh -/
def mt_27 : List am_row := [
  (0, .aload_n 0, 1, 0, 0, 0, 0, []),
  (1, .getfield 27, 3, 3, 6, 2, 0, []),
  (4, .iconst 0, 1, 0, 0, 0, 0, []),
  (5, .aaload, 1, 0, 0, 0, 0, []),
  (6, .iconst 0, 1, 0, 0, 0, 0, []),
  (7, .iaload, 1, 0, 0, 0, 0, []),
  (8, .istore_n 1, 1, 0, 0, 0, 0, []),
  (9, .iload_n 1, 1, 0, 0, 0, 0, []),
  (10, .istore_n 2, 1, 0, 0, 0, 0, []),
  (11, .iconst 0, 1, 0, 0, 0, 0, []),
  (12, .istore_n 3, 1, 0, 0, 0, 0, []),
  (13, .iconst 0, 1, 0, 0, 0, 0, []),
  (14, .istore 4, 2, 0, 0, 0, 0, []),
  (16, .iconst 0, 1, 0, 0, 0, 0, []),
  (17, .istore 5, 2, 0, 0, 0, 0, []),
  (19, .iload 5, 2, 0, 0, 0, 0, []),
  (21, .aload_n 0, 1, 0, 0, 0, 0, []),
  (22, .getfield 30, 3, 3, 0, 2, 0, []),
  (25, .getfield 43, 3, 0, 2, 0, 0, []),
  (28, .if_icmp .ge 86, 3, 64, 0, 0, 0, []),
  (31, .aload_n 0, 1, 0, 0, 0, 0, []),
  (32, .getfield 27, 3, 3, 6, 2, 0, []),
  (35, .iload 5, 2, 0, 0, 0, 0, []),
  (37, .aaload, 1, 0, 0, 0, 0, []),
  (38, .iload 5, 2, 0, 0, 0, 0, []),
  (40, .iaload, 1, 0, 0, 0, 0, []),
  (41, .istore 6, 2, 0, 0, 0, 0, []),
  (43, .iload_n 1, 1, 0, 0, 0, 0, []),
  (44, .iload 6, 2, 0, 0, 0, 0, []),
  (46, .invokestatic 85, 3, 1000, 2, 1, 0, []),
  (49, .istore_n 1, 1, 0, 0, 0, 0, []),
  (50, .iload_n 2, 1, 0, 0, 0, 0, []),
  (51, .iload 6, 2, 0, 0, 0, 0, []),
  (53, .invokestatic 91, 3, 1001, 2, 1, 0, []),
  (56, .istore_n 2, 1, 0, 0, 0, 0, []),
  (57, .iload_n 3, 1, 0, 0, 0, 0, []),
  (58, .iload 6, 2, 0, 0, 0, 0, []),
  (60, .iadd, 1, 0, 0, 0, 0, []),
  (61, .istore_n 3, 1, 0, 0, 0, 0, []),
  (62, .iconst 0, 1, 0, 0, 0, 0, []),
  (63, .istore 7, 2, 0, 0, 0, 0, []),
  (65, .iload 7, 2, 0, 0, 0, 0, []),
  (67, .aload_n 0, 1, 0, 0, 0, 0, []),
  (68, .getfield 30, 3, 3, 0, 2, 0, []),
  (71, .getfield 43, 3, 0, 2, 0, 0, []),
  (74, .if_icmp .ge 34, 3, 62, 0, 0, 0, []),
  (77, .iload 4, 2, 0, 0, 0, 0, []),
  (79, .aload_n 0, 1, 0, 0, 0, 0, []),
  (80, .getfield 27, 3, 3, 6, 2, 0, []),
  (83, .iload 5, 2, 0, 0, 0, 0, []),
  (85, .aaload, 1, 0, 0, 0, 0, []),
  (86, .iload 7, 2, 0, 0, 0, 0, []),
  (88, .iaload, 1, 0, 0, 0, 0, []),
  (89, .iload 6, 2, 0, 0, 0, 0, []),
  (91, .if_icmp .le 7, 3, 57, 0, 0, 0, []),
  (94, .iconst 1, 1, 0, 0, 0, 1, []),
  (95, .goto 4, 3, 58, 0, 0, 0, []),
  (98, .iconst 0, 1, 0, 0, 0, 0, []),
  (99, .ior, 1, 0, 0, 0, 0, []),
  (100, .istore 4, 2, 0, 0, 0, 0, []),
  (102, .iinc 7 1, 3, 0, 0, 0, 1, []),
  (105, .goto (-40), 3, 41, 0, 0, 0, []),
  (108, .iinc 5 1, 3, 0, 0, 0, 1, []),
  (111, .goto (-92), 3, 15, 0, 0, 0, []),
  (114, .iload 4, 2, 0, 0, 0, 0, []),
  (116, .ifCond .ne 13, 3, 72, 0, 0, 0, []),
  (119, .aload_n 0, 1, 0, 0, 0, 0, []),
  (120, .dup, 1, 0, 0, 0, 0, []),
  (121, .getfield 65, 3, 3, 9, 0, 0, []),
  (124, .iconst 1, 1, 0, 0, 0, 1, []),
  (125, .iadd, 1, 0, 0, 0, 0, []),
  (126, .putfield 65, 3, 3, 9, 0, 0, []),
  (129, .iload_n 1, 1, 0, 0, 0, 0, []),
  (130, .iload_n 2, 1, 0, 0, 0, 0, []),
  (131, .isub, 1, 0, 0, 0, 0, []),
  (132, .aload_n 0, 1, 0, 0, 0, 0, []),
  (133, .getfield 59, 3, 3, 7, 0, 0, []),
  (136, .if_icmp .lt 21, 3, 88, 0, 0, 0, []),
  (139, .iload_n 1, 1, 0, 0, 0, 0, []),
  (140, .iload_n 2, 1, 0, 0, 0, 0, []),
  (141, .isub, 1, 0, 0, 0, 0, []),
  (142, .aload_n 0, 1, 0, 0, 0, 0, []),
  (143, .getfield 59, 3, 3, 7, 0, 0, []),
  (146, .if_icmp .ne 41, 3, 106, 0, 0, 0, []),
  (149, .iload_n 3, 1, 0, 0, 0, 0, []),
  (150, .aload_n 0, 1, 0, 0, 0, 0, []),
  (151, .getfield 62, 3, 3, 8, 0, 0, []),
  (154, .if_icmp .le 33, 3, 106, 0, 0, 0, []),
  (157, .aload_n 0, 1, 0, 0, 0, 0, []),
  (158, .iload_n 1, 1, 0, 0, 0, 0, []),
  (159, .iload_n 2, 1, 0, 0, 0, 0, []),
  (160, .isub, 1, 0, 0, 0, 0, []),
  (161, .putfield 59, 3, 3, 7, 0, 0, []),
  (164, .aload_n 0, 1, 0, 0, 0, 0, []),
  (165, .iload_n 3, 1, 0, 0, 0, 0, []),
  (166, .putfield 62, 3, 3, 8, 0, 0, []),
  (169, .aload_n 0, 1, 0, 0, 0, 0, []),
  (170, .getfield 20, 3, 3, 4, 2, 0, []),
  (173, .iconst 0, 1, 0, 0, 0, 0, []),
  (174, .aload_n 0, 1, 0, 0, 0, 0, []),
  (175, .getfield 24, 3, 3, 5, 2, 0, []),
  (178, .iconst 0, 1, 0, 0, 0, 0, []),
  (179, .aload_n 0, 1, 0, 0, 0, 0, []),
  (180, .getfield 24, 3, 3, 5, 2, 0, []),
  (183, .arraylength, 1, 0, 0, 0, 0, []),
  (184, .invokestatic 94, 3, 1002, 5, 0, 0, []),
  (187, .return_, 1, 0, 0, 0, 0, [])]
/-- yX3_goOn -/
def mt_28 : List am_row := [
  (0, .aload_n 0, 1, 0, 0, 0, 0, []),
  (1, .getfield 30, 3, 3, 0, 2, 0, []),
  (4, .getfield 38, 3, 0, 1, 0, 0, []),
  (7, .iconst 1, 1, 0, 0, 0, 1, []),
  (8, .isub, 1, 0, 0, 0, 0, []),
  (9, .istore_n 1, 1, 0, 0, 0, 0, []),
  (10, .iload_n 1, 1, 0, 0, 0, 0, []),
  (11, .ifCond .lt 59, 3, 40, 0, 0, 0, []),
  (14, .aload_n 0, 1, 0, 0, 0, 0, []),
  (15, .getfield 20, 3, 3, 4, 2, 0, []),
  (18, .iload_n 1, 1, 0, 0, 0, 0, []),
  (19, .iaload, 1, 0, 0, 0, 0, []),
  (20, .aload_n 0, 1, 0, 0, 0, 0, []),
  (21, .getfield 30, 3, 3, 0, 2, 0, []),
  (24, .getfield 43, 3, 0, 2, 0, 0, []),
  (27, .iconst 1, 1, 0, 0, 0, 1, []),
  (28, .isub, 1, 0, 0, 0, 0, []),
  (29, .if_icmp .ne 7, 3, 20, 0, 0, 0, []),
  (32, .iconst 1, 1, 0, 0, 0, 1, []),
  (33, .goto 4, 3, 21, 0, 0, 0, []),
  (36, .iconst 0, 1, 0, 0, 0, 0, []),
  (37, .istore_n 2, 1, 0, 0, 0, 0, []),
  (38, .aload_n 0, 1, 0, 0, 0, 0, []),
  (39, .iload_n 1, 1, 0, 0, 0, 0, []),
  (40, .iload_n 2, 1, 0, 0, 0, 0, []),
  (41, .ifCond .eq 7, 3, 28, 0, 0, 0, []),
  (44, .iconst 0, 1, 0, 0, 0, 0, []),
  (45, .goto 11, 3, 34, 0, 0, 0, []),
  (48, .aload_n 0, 1, 0, 0, 0, 0, []),
  (49, .getfield 20, 3, 3, 4, 2, 0, []),
  (52, .iload_n 1, 1, 0, 0, 0, 0, []),
  (53, .iaload, 1, 0, 0, 0, 0, []),
  (54, .iconst 1, 1, 0, 0, 0, 1, []),
  (55, .iadd, 1, 0, 0, 0, 0, []),
  (56, .invokevirtual 100, 3, 29, 3, 0, 0, []),
  (59, .iload_n 2, 1, 0, 0, 0, 0, []),
  (60, .ifCond .ne 4, 3, 38, 0, 0, 0, []),
  (63, .return_, 1, 0, 0, 0, 0, []),
  (64, .iinc 1 (-1), 3, 0, 0, 0, -1, []),
  (67, .goto (-57), 3, 6, 0, 0, 0, []),
  (70, .return_, 1, 0, 0, 0, 0, [])]
/-- yX3_handOver -/
def mt_29 : List am_row := [
  (0, .aload_n 0, 1, 0, 0, 0, 0, []),
  (1, .getfield 20, 3, 3, 4, 2, 0, []),
  (4, .iload_n 1, 1, 0, 0, 0, 0, []),
  (5, .iaload, 1, 0, 0, 0, 0, []),
  (6, .istore_n 3, 1, 0, 0, 0, 0, []),
  (7, .aload_n 0, 1, 0, 0, 0, 0, []),
  (8, .getfield 20, 3, 3, 4, 2, 0, []),
  (11, .iload_n 1, 1, 0, 0, 0, 0, []),
  (12, .iload_n 2, 1, 0, 0, 0, 0, []),
  (13, .iastore, 1, 0, 0, 0, 0, []),
  (14, .iconst 0, 1, 0, 0, 0, 0, []),
  (15, .istore 4, 2, 0, 0, 0, 0, []),
  (17, .iload 4, 2, 0, 0, 0, 0, []),
  (19, .aload_n 0, 1, 0, 0, 0, 0, []),
  (20, .getfield 30, 3, 3, 0, 2, 0, []),
  (23, .getfield 43, 3, 0, 2, 0, 0, []),
  (26, .if_icmp .ge 51, 3, 49, 0, 0, 0, []),
  (29, .aload_n 0, 1, 0, 0, 0, 0, []),
  (30, .getfield 27, 3, 3, 6, 2, 0, []),
  (33, .iload 4, 2, 0, 0, 0, 0, []),
  (35, .aaload, 1, 0, 0, 0, 0, []),
  (36, .iload_n 3, 1, 0, 0, 0, 0, []),
  (37, .dup2, 1, 0, 0, 0, 0, []),
  (38, .iaload, 1, 0, 0, 0, 0, []),
  (39, .aload_n 0, 1, 0, 0, 0, 0, []),
  (40, .getfield 17, 3, 3, 3, 2, 0, []),
  (43, .iload 4, 2, 0, 0, 0, 0, []),
  (45, .aaload, 1, 0, 0, 0, 0, []),
  (46, .iload_n 1, 1, 0, 0, 0, 0, []),
  (47, .iaload, 1, 0, 0, 0, 0, []),
  (48, .isub, 1, 0, 0, 0, 0, []),
  (49, .iastore, 1, 0, 0, 0, 0, []),
  (50, .aload_n 0, 1, 0, 0, 0, 0, []),
  (51, .getfield 27, 3, 3, 6, 2, 0, []),
  (54, .iload 4, 2, 0, 0, 0, 0, []),
  (56, .aaload, 1, 0, 0, 0, 0, []),
  (57, .iload_n 2, 1, 0, 0, 0, 0, []),
  (58, .dup2, 1, 0, 0, 0, 0, []),
  (59, .iaload, 1, 0, 0, 0, 0, []),
  (60, .aload_n 0, 1, 0, 0, 0, 0, []),
  (61, .getfield 17, 3, 3, 3, 2, 0, []),
  (64, .iload 4, 2, 0, 0, 0, 0, []),
  (66, .aaload, 1, 0, 0, 0, 0, []),
  (67, .iload_n 1, 1, 0, 0, 0, 0, []),
  (68, .iaload, 1, 0, 0, 0, 0, []),
  (69, .iadd, 1, 0, 0, 0, 0, []),
  (70, .iastore, 1, 0, 0, 0, 0, []),
  (71, .iinc 4 1, 3, 0, 0, 0, 1, []),
  (74, .goto (-57), 3, 12, 0, 0, 0, []),
  (77, .return_, 1, 0, 0, 0, 0, [])]
/-- yX4_freshen -/
def mt_30 : List am_row := [
  (0, .aload_n 0, 1, 0, 0, 0, 0, []),
  (1, .getfield 9, 3, 4, 2, 0, 0, []),
  (4, .aload_n 0, 1, 0, 0, 0, 0, []),
  (5, .getfield 51, 3, 4, 1, 2, 0, []),
  (8, .invokevirtual 55, 3, 115, 1, 1, 0, []),
  (11, .if_icmp .ne 4, 3, 7, 0, 0, 0, []),
  (14, .return_, 1, 0, 0, 0, 0, []),
  (15, .aload_n 0, 1, 0, 0, 0, 0, []),
  (16, .aload_n 0, 1, 0, 0, 0, 0, []),
  (17, .getfield 51, 3, 4, 1, 2, 0, []),
  (20, .invokevirtual 55, 3, 115, 1, 1, 0, []),
  (23, .putfield 9, 3, 4, 2, 0, 0, []),
  (26, .aload_n 0, 1, 0, 0, 0, 0, []),
  (27, .invokevirtual 61, 3, 31, 1, 0, 0, []),
  (30, .aload_n 0, 1, 0, 0, 0, 0, []),
  (31, .invokevirtual 64, 3, 32, 1, 0, 0, []),
  (34, .iconst 0, 1, 0, 0, 0, 0, []),
  (35, .istore_n 1, 1, 0, 0, 0, 0, []),
  (36, .iload_n 1, 1, 0, 0, 0, 0, []),
  (37, .aload_n 0, 1, 0, 0, 0, 0, []),
  (38, .getfield 47, 3, 4, 0, 2, 0, []),
  (41, .getfield 67, 3, 0, 2, 0, 0, []),
  (44, .if_icmp .ge 54, 3, 50, 0, 0, 0, []),
  (47, .iconst 0, 1, 0, 0, 0, 0, []),
  (48, .istore_n 2, 1, 0, 0, 0, 0, []),
  (49, .iload_n 2, 1, 0, 0, 0, 0, []),
  (50, .aload_n 0, 1, 0, 0, 0, 0, []),
  (51, .getfield 47, 3, 4, 0, 2, 0, []),
  (54, .getfield 70, 3, 0, 1, 0, 0, []),
  (57, .if_icmp .ge 35, 3, 48, 0, 0, 0, []),
  (60, .aload_n 0, 1, 0, 0, 0, 0, []),
  (61, .getfield 26, 3, 4, 5, 2, 0, []),
  (64, .iload_n 1, 1, 0, 0, 0, 0, []),
  (65, .aaload, 1, 0, 0, 0, 0, []),
  (66, .iload_n 2, 1, 0, 0, 0, 0, []),
  (67, .aload_n 0, 1, 0, 0, 0, 0, []),
  (68, .getfield 51, 3, 4, 1, 2, 0, []),
  (71, .iload_n 1, 1, 0, 0, 0, 0, []),
  (72, .iload_n 2, 1, 0, 0, 0, 0, []),
  (73, .aload_n 0, 1, 0, 0, 0, 0, []),
  (74, .getfield 47, 3, 4, 0, 2, 0, []),
  (77, .iconst 2, 1, 0, 0, 0, 2, []),
  (78, .iload_n 2, 1, 0, 0, 0, 0, []),
  (79, .invokevirtual 73, 3, 4, 3, 1, 0, []),
  (82, .invokevirtual 77, 3, 117, 4, 1, 0, []),
  (85, .iastore, 1, 0, 0, 0, 0, []),
  (86, .iinc 2 1, 3, 0, 0, 0, 1, []),
  (89, .goto (-40), 3, 25, 0, 0, 0, []),
  (92, .iinc 1 1, 3, 0, 0, 0, 1, []),
  (95, .goto (-59), 3, 18, 0, 0, 0, []),
  (98, .iconst 0, 1, 0, 0, 0, 0, []),
  (99, .istore_n 1, 1, 0, 0, 0, 0, []),
  (100, .iload_n 1, 1, 0, 0, 0, 0, []),
  (101, .iconst 5, 1, 0, 0, 0, 5, []),
  (102, .if_icmp .ge 14, 3, 60, 0, 0, 0, []),
  (105, .aload_n 0, 1, 0, 0, 0, 0, []),
  (106, .iload_n 1, 1, 0, 0, 0, 0, []),
  (107, .invokevirtual 81, 3, 33, 2, 0, 0, []),
  (110, .iinc 1 1, 3, 0, 0, 0, 1, []),
  (113, .goto (-13), 3, 52, 0, 0, 0, []),
  (116, .return_, 1, 0, 0, 0, 0, [])]
/-- yX4_orderDoors -/
def mt_31 : List am_row := [
  (0, .iconst 0, 1, 0, 0, 0, 0, []),
  (1, .istore_n 1, 1, 0, 0, 0, 0, []),
  (2, .iload_n 1, 1, 0, 0, 0, 0, []),
  (3, .aload_n 0, 1, 0, 0, 0, 0, []),
  (4, .getfield 47, 3, 4, 0, 2, 0, []),
  (7, .getfield 70, 3, 0, 1, 0, 0, []),
  (10, .if_icmp .ge 72, 3, 48, 0, 0, 0, []),
  (13, .iload_n 1, 1, 0, 0, 0, 0, []),
  (14, .istore_n 2, 1, 0, 0, 0, 0, []),
  (15, .aload_n 0, 1, 0, 0, 0, 0, []),
  (16, .getfield 47, 3, 4, 0, 2, 0, []),
  (19, .iconst 0, 1, 0, 0, 0, 0, []),
  (20, .iload_n 1, 1, 0, 0, 0, 0, []),
  (21, .invokevirtual 73, 3, 4, 3, 1, 0, []),
  (24, .istore_n 3, 1, 0, 0, 0, 0, []),
  (25, .iload_n 2, 1, 0, 0, 0, 0, []),
  (26, .ifCond .le 43, 3, 41, 0, 0, 0, []),
  (29, .aload_n 0, 1, 0, 0, 0, 0, []),
  (30, .getfield 47, 3, 4, 0, 2, 0, []),
  (33, .iconst 0, 1, 0, 0, 0, 0, []),
  (34, .aload_n 0, 1, 0, 0, 0, 0, []),
  (35, .getfield 17, 3, 4, 3, 2, 0, []),
  (38, .iload_n 2, 1, 0, 0, 0, 0, []),
  (39, .iconst 1, 1, 0, 0, 0, 1, []),
  (40, .isub, 1, 0, 0, 0, 0, []),
  (41, .iaload, 1, 0, 0, 0, 0, []),
  (42, .invokevirtual 73, 3, 4, 3, 1, 0, []),
  (45, .iload_n 3, 1, 0, 0, 0, 0, []),
  (46, .if_icmp .le 23, 3, 41, 0, 0, 0, []),
  (49, .aload_n 0, 1, 0, 0, 0, 0, []),
  (50, .getfield 17, 3, 4, 3, 2, 0, []),
  (53, .iload_n 2, 1, 0, 0, 0, 0, []),
  (54, .aload_n 0, 1, 0, 0, 0, 0, []),
  (55, .getfield 17, 3, 4, 3, 2, 0, []),
  (58, .iload_n 2, 1, 0, 0, 0, 0, []),
  (59, .iconst 1, 1, 0, 0, 0, 1, []),
  (60, .isub, 1, 0, 0, 0, 0, []),
  (61, .iaload, 1, 0, 0, 0, 0, []),
  (62, .iastore, 1, 0, 0, 0, 0, []),
  (63, .iinc 2 (-1), 3, 0, 0, 0, -1, []),
  (66, .goto (-41), 3, 15, 0, 0, 0, []),
  (69, .aload_n 0, 1, 0, 0, 0, 0, []),
  (70, .getfield 17, 3, 4, 3, 2, 0, []),
  (73, .iload_n 2, 1, 0, 0, 0, 0, []),
  (74, .iload_n 1, 1, 0, 0, 0, 0, []),
  (75, .iastore, 1, 0, 0, 0, 0, []),
  (76, .iinc 1 1, 3, 0, 0, 0, 1, []),
  (79, .goto (-77), 3, 2, 0, 0, 0, []),
  (82, .return_, 1, 0, 0, 0, 0, [])]
/-- yX4_orderChildren -/
def mt_32 : List am_row := [
  (0, .iconst 0, 1, 0, 0, 0, 0, []),
  (1, .istore_n 1, 1, 0, 0, 0, 0, []),
  (2, .iload_n 1, 1, 0, 0, 0, 0, []),
  (3, .aload_n 0, 1, 0, 0, 0, 0, []),
  (4, .getfield 47, 3, 4, 0, 2, 0, []),
  (7, .getfield 67, 3, 0, 2, 0, 0, []),
  (10, .if_icmp .ge 72, 3, 48, 0, 0, 0, []),
  (13, .iload_n 1, 1, 0, 0, 0, 0, []),
  (14, .istore_n 2, 1, 0, 0, 0, 0, []),
  (15, .aload_n 0, 1, 0, 0, 0, 0, []),
  (16, .getfield 47, 3, 4, 0, 2, 0, []),
  (19, .iconst 3, 1, 0, 0, 0, 3, []),
  (20, .iload_n 1, 1, 0, 0, 0, 0, []),
  (21, .invokevirtual 73, 3, 4, 3, 1, 0, []),
  (24, .istore_n 3, 1, 0, 0, 0, 0, []),
  (25, .iload_n 2, 1, 0, 0, 0, 0, []),
  (26, .ifCond .le 43, 3, 41, 0, 0, 0, []),
  (29, .aload_n 0, 1, 0, 0, 0, 0, []),
  (30, .getfield 47, 3, 4, 0, 2, 0, []),
  (33, .iconst 3, 1, 0, 0, 0, 3, []),
  (34, .aload_n 0, 1, 0, 0, 0, 0, []),
  (35, .getfield 21, 3, 4, 4, 2, 0, []),
  (38, .iload_n 2, 1, 0, 0, 0, 0, []),
  (39, .iconst 1, 1, 0, 0, 0, 1, []),
  (40, .isub, 1, 0, 0, 0, 0, []),
  (41, .iaload, 1, 0, 0, 0, 0, []),
  (42, .invokevirtual 73, 3, 4, 3, 1, 0, []),
  (45, .iload_n 3, 1, 0, 0, 0, 0, []),
  (46, .if_icmp .ge 23, 3, 41, 0, 0, 0, []),
  (49, .aload_n 0, 1, 0, 0, 0, 0, []),
  (50, .getfield 21, 3, 4, 4, 2, 0, []),
  (53, .iload_n 2, 1, 0, 0, 0, 0, []),
  (54, .aload_n 0, 1, 0, 0, 0, 0, []),
  (55, .getfield 21, 3, 4, 4, 2, 0, []),
  (58, .iload_n 2, 1, 0, 0, 0, 0, []),
  (59, .iconst 1, 1, 0, 0, 0, 1, []),
  (60, .isub, 1, 0, 0, 0, 0, []),
  (61, .iaload, 1, 0, 0, 0, 0, []),
  (62, .iastore, 1, 0, 0, 0, 0, []),
  (63, .iinc 2 (-1), 3, 0, 0, 0, -1, []),
  (66, .goto (-41), 3, 15, 0, 0, 0, []),
  (69, .aload_n 0, 1, 0, 0, 0, 0, []),
  (70, .getfield 21, 3, 4, 4, 2, 0, []),
  (73, .iload_n 2, 1, 0, 0, 0, 0, []),
  (74, .iload_n 1, 1, 0, 0, 0, 0, []),
  (75, .iastore, 1, 0, 0, 0, 0, []),
  (76, .iinc 1 1, 3, 0, 0, 0, 1, []),
  (79, .goto (-77), 3, 2, 0, 0, 0, []),
  (82, .return_, 1, 0, 0, 0, 0, [])]
/-- yX4_giveBy -/
def mt_33 : List am_row := [
  (0, .aload_n 0, 1, 0, 0, 0, 0, []),
  (1, .getfield 32, 3, 4, 7, 2, 0, []),
  (4, .iload_n 1, 1, 0, 0, 0, 0, []),
  (5, .aaload, 1, 0, 0, 0, 0, []),
  (6, .iconst 0, 1, 0, 0, 0, 0, []),
  (7, .invokestatic 85, 3, 275, 2, 0, 0, []),
  (10, .iconst 0, 1, 0, 0, 0, 0, []),
  (11, .istore_n 2, 1, 0, 0, 0, 0, []),
  (12, .iload_n 2, 1, 0, 0, 0, 0, []),
  (13, .aload_n 0, 1, 0, 0, 0, 0, []),
  (14, .getfield 47, 3, 4, 0, 2, 0, []),
  (17, .getfield 70, 3, 0, 1, 0, 0, []),
  (20, .if_icmp .ge 73, 3, 53, 0, 0, 0, []),
  (23, .aload_n 0, 1, 0, 0, 0, 0, []),
  (24, .getfield 17, 3, 4, 3, 2, 0, []),
  (27, .iload_n 2, 1, 0, 0, 0, 0, []),
  (28, .iaload, 1, 0, 0, 0, 0, []),
  (29, .istore_n 3, 1, 0, 0, 0, 0, []),
  (30, .iconst 0, 1, 0, 0, 0, 0, []),
  (31, .istore 4, 2, 0, 0, 0, 0, []),
  (33, .iload 4, 2, 0, 0, 0, 0, []),
  (35, .aload_n 0, 1, 0, 0, 0, 0, []),
  (36, .getfield 47, 3, 4, 0, 2, 0, []),
  (39, .getfield 67, 3, 0, 2, 0, 0, []),
  (42, .if_icmp .ge 25, 3, 37, 0, 0, 0, []),
  (45, .aload_n 0, 1, 0, 0, 0, 0, []),
  (46, .getfield 35, 3, 4, 8, 2, 0, []),
  (49, .iload 4, 2, 0, 0, 0, 0, []),
  (51, .aload_n 0, 1, 0, 0, 0, 0, []),
  (52, .getfield 26, 3, 4, 5, 2, 0, []),
  (55, .iload 4, 2, 0, 0, 0, 0, []),
  (57, .aaload, 1, 0, 0, 0, 0, []),
  (58, .iload_n 3, 1, 0, 0, 0, 0, []),
  (59, .iaload, 1, 0, 0, 0, 0, []),
  (60, .iastore, 1, 0, 0, 0, 0, []),
  (61, .iinc 4 1, 3, 0, 0, 0, 1, []),
  (64, .goto (-31), 3, 20, 0, 0, 0, []),
  (67, .aload_n 0, 1, 0, 0, 0, 0, []),
  (68, .getfield 29, 3, 4, 6, 2, 0, []),
  (71, .iload_n 1, 1, 0, 0, 0, 0, []),
  (72, .aaload, 1, 0, 0, 0, 0, []),
  (73, .iload_n 3, 1, 0, 0, 0, 0, []),
  (74, .aload_n 0, 1, 0, 0, 0, 0, []),
  (75, .iload_n 1, 1, 0, 0, 0, 0, []),
  (76, .iload_n 2, 1, 0, 0, 0, 0, []),
  (77, .aload_n 0, 1, 0, 0, 0, 0, []),
  (78, .getfield 32, 3, 4, 7, 2, 0, []),
  (81, .iload_n 1, 1, 0, 0, 0, 0, []),
  (82, .aaload, 1, 0, 0, 0, 0, []),
  (83, .invokevirtual 91, 3, 34, 4, 1, 0, []),
  (86, .iastore, 1, 0, 0, 0, 0, []),
  (87, .iinc 2 1, 3, 0, 0, 0, 1, []),
  (90, .goto (-78), 3, 8, 0, 0, 0, []),
  (93, .return_, 1, 0, 0, 0, 0, [])]
/-- yX4_giveOffered -/
def mt_34 : List am_row := [
  (0, .aload_n 0, 1, 0, 0, 0, 0, []),
  (1, .iload_n 1, 1, 0, 0, 0, 0, []),
  (2, .iload_n 2, 1, 0, 0, 0, 0, []),
  (3, .aload_n 3, 1, 0, 0, 0, 0, []),
  (4, .invokevirtual 95, 3, 35, 4, 1, 0, []),
  (7, .istore 4, 2, 0, 0, 0, 0, []),
  (9, .aload_n 0, 1, 0, 0, 0, 0, []),
  (10, .getfield 47, 3, 4, 0, 2, 0, []),
  (13, .iload 4, 2, 0, 0, 0, 0, []),
  (15, .invokevirtual 98, 3, 1, 2, 1, 0, []),
  (18, .ifCond .eq 17, 3, 21, 0, 0, 0, []),
  (21, .aload_n 3, 1, 0, 0, 0, 0, []),
  (22, .iload 4, 2, 0, 0, 0, 0, []),
  (24, .dup2, 1, 0, 0, 0, 0, []),
  (25, .iaload, 1, 0, 0, 0, 0, []),
  (26, .aload_n 0, 1, 0, 0, 0, 0, []),
  (27, .getfield 35, 3, 4, 8, 2, 0, []),
  (30, .iload 4, 2, 0, 0, 0, 0, []),
  (32, .iaload, 1, 0, 0, 0, 0, []),
  (33, .iadd, 1, 0, 0, 0, 0, []),
  (34, .iastore, 1, 0, 0, 0, 0, []),
  (35, .iload 4, 2, 0, 0, 0, 0, []),
  (37, .ireturn, 1, 0, 0, 0, 0, [])]
/-- yX4_chosen -/
def mt_35 : List am_row := [
  (0, .aload_n 0, 1, 0, 0, 0, 0, []),
  (1, .getfield 47, 3, 4, 0, 2, 0, []),
  (4, .getfield 67, 3, 0, 2, 0, 0, []),
  (7, .istore 4, 2, 0, 0, 0, 0, []),
  (9, .iload 4, 2, 0, 0, 0, 0, []),
  (11, .ifCond .gt 6, 3, 8, 0, 0, 0, []),
  (14, .bipush (-2), 2, 0, 0, 0, -2, []),
  (16, .ireturn, 1, 0, 0, 0, 0, []),
  (17, .iload_n 1, 1, 0, 0, 0, 0, []),
  (18, .tableswitch 71 0 2 #[26, 31, 41], 26, 40, 0, 0, 0, [(0, 10), (1, 14), (2, 21)]),
  (44, .iload_n 2, 1, 0, 0, 0, 0, []),
  (45, .iload 4, 2, 0, 0, 0, 0, []),
  (47, .irem, 1, 0, 0, 0, 0, []),
  (48, .ireturn, 1, 0, 0, 0, 0, []),
  (49, .aload_n 0, 1, 0, 0, 0, 0, []),
  (50, .getfield 21, 3, 4, 4, 2, 0, []),
  (53, .iload_n 2, 1, 0, 0, 0, 0, []),
  (54, .iload 4, 2, 0, 0, 0, 0, []),
  (56, .irem, 1, 0, 0, 0, 0, []),
  (57, .iaload, 1, 0, 0, 0, 0, []),
  (58, .ireturn, 1, 0, 0, 0, 0, []),
  (59, .iload_n 2, 1, 0, 0, 0, 0, []),
  (60, .iconst 2, 1, 0, 0, 0, 2, []),
  (61, .iload 4, 2, 0, 0, 0, 0, []),
  (63, .imul, 1, 0, 0, 0, 0, []),
  (64, .irem, 1, 0, 0, 0, 0, []),
  (65, .istore 5, 2, 0, 0, 0, 0, []),
  (67, .iload 5, 2, 0, 0, 0, 0, []),
  (69, .iload 4, 2, 0, 0, 0, 0, []),
  (71, .if_icmp .ge 8, 3, 32, 0, 0, 0, []),
  (74, .iload 5, 2, 0, 0, 0, 0, []),
  (76, .goto 12, 3, 39, 0, 0, 0, []),
  (79, .iconst 2, 1, 0, 0, 0, 2, []),
  (80, .iload 4, 2, 0, 0, 0, 0, []),
  (82, .imul, 1, 0, 0, 0, 0, []),
  (83, .iconst 1, 1, 0, 0, 0, 1, []),
  (84, .isub, 1, 0, 0, 0, 0, []),
  (85, .iload 5, 2, 0, 0, 0, 0, []),
  (87, .isub, 1, 0, 0, 0, 0, []),
  (88, .ireturn, 1, 0, 0, 0, 0, []),
  (89, .aload_n 0, 1, 0, 0, 0, 0, []),
  (90, .iload_n 1, 1, 0, 0, 0, 0, []),
  (91, .aload_n 3, 1, 0, 0, 0, 0, []),
  (92, .invokevirtual 102, 3, 36, 3, 1, 0, []),
  (95, .ireturn, 1, 0, 0, 0, 0, [])]
/-- yX4_mostWilling -/
def mt_36 : List am_row := [
  (0, .iconst 0, 1, 0, 0, 0, 0, []),
  (1, .istore_n 3, 1, 0, 0, 0, 0, []),
  (2, .iconst 1, 1, 0, 0, 0, 1, []),
  (3, .istore 4, 2, 0, 0, 0, 0, []),
  (5, .iload 4, 2, 0, 0, 0, 0, []),
  (7, .aload_n 0, 1, 0, 0, 0, 0, []),
  (8, .getfield 47, 3, 4, 0, 2, 0, []),
  (11, .getfield 67, 3, 0, 2, 0, 0, []),
  (14, .if_icmp .ge 30, 3, 24, 0, 0, 0, []),
  (17, .aload_n 0, 1, 0, 0, 0, 0, []),
  (18, .iload_n 1, 1, 0, 0, 0, 0, []),
  (19, .iload 4, 2, 0, 0, 0, 0, []),
  (21, .aload_n 2, 1, 0, 0, 0, 0, []),
  (22, .invokevirtual 106, 3, 37, 4, 1, 0, []),
  (25, .aload_n 0, 1, 0, 0, 0, 0, []),
  (26, .iload_n 1, 1, 0, 0, 0, 0, []),
  (27, .iload_n 3, 1, 0, 0, 0, 0, []),
  (28, .aload_n 2, 1, 0, 0, 0, 0, []),
  (29, .invokevirtual 106, 3, 37, 4, 1, 0, []),
  (32, .if_icmp .le 6, 3, 22, 0, 0, 0, []),
  (35, .iload 4, 2, 0, 0, 0, 0, []),
  (37, .istore_n 3, 1, 0, 0, 0, 0, []),
  (38, .iinc 4 1, 3, 0, 0, 0, 1, []),
  (41, .goto (-36), 3, 4, 0, 0, 0, []),
  (44, .iload_n 3, 1, 0, 0, 0, 0, []),
  (45, .ireturn, 1, 0, 0, 0, 0, [])]
/-- yX4_will -/
def mt_37 : List am_row := [
  (0, .iload_n 1, 1, 0, 0, 0, 0, []),
  (1, .iconst 3, 1, 0, 0, 0, 3, []),
  (2, .if_icmp .ne 12, 3, 8, 0, 0, 0, []),
  (5, .aload_n 0, 1, 0, 0, 0, 0, []),
  (6, .getfield 35, 3, 4, 8, 2, 0, []),
  (9, .iload_n 2, 1, 0, 0, 0, 0, []),
  (10, .iaload, 1, 0, 0, 0, 0, []),
  (11, .goto 4, 3, 9, 0, 0, 0, []),
  (14, .iconst 0, 1, 0, 0, 0, 0, []),
  (15, .aload_n 3, 1, 0, 0, 0, 0, []),
  (16, .iload_n 2, 1, 0, 0, 0, 0, []),
  (17, .iaload, 1, 0, 0, 0, 0, []),
  (18, .isub, 1, 0, 0, 0, 0, []),
  (19, .ireturn, 1, 0, 0, 0, 0, [])]
/-- yX4_owner -/
def mt_38 : List am_row := [
  (0, .aload_n 0, 1, 0, 0, 0, 0, []),
  (1, .getfield 29, 3, 4, 6, 2, 0, []),
  (4, .iload_n 1, 1, 0, 0, 0, 0, []),
  (5, .aaload, 1, 0, 0, 0, 0, []),
  (6, .iload_n 2, 1, 0, 0, 0, 0, []),
  (7, .iaload, 1, 0, 0, 0, 0, []),
  (8, .ireturn, 1, 0, 0, 0, 0, [])]
/-- yX4_sumOf -/
def mt_39 : List am_row := [
  (0, .aload_n 0, 1, 0, 0, 0, 0, []),
  (1, .getfield 32, 3, 4, 7, 2, 0, []),
  (4, .iload_n 1, 1, 0, 0, 0, 0, []),
  (5, .aaload, 1, 0, 0, 0, 0, []),
  (6, .iload_n 2, 1, 0, 0, 0, 0, []),
  (7, .iaload, 1, 0, 0, 0, 0, []),
  (8, .ireturn, 1, 0, 0, 0, 0, [])]
/-- yX4_unfairBy -/
def mt_40 : List am_row := [
  (0, .aload_n 0, 1, 0, 0, 0, 0, []),
  (1, .aload_n 0, 1, 0, 0, 0, 0, []),
  (2, .getfield 32, 3, 4, 7, 2, 0, []),
  (5, .iload_n 1, 1, 0, 0, 0, 0, []),
  (6, .aaload, 1, 0, 0, 0, 0, []),
  (7, .invokevirtual 109, 3, 43, 2, 1, 0, []),
  (10, .ireturn, 1, 0, 0, 0, 0, [])]
/-- yX4_triedUnfair -/
def mt_41 : List am_row := [
  (0, .aload_n 0, 1, 0, 0, 0, 0, []),
  (1, .aload_n 0, 1, 0, 0, 0, 0, []),
  (2, .getfield 41, 3, 4, 10, 2, 0, []),
  (5, .invokevirtual 109, 3, 43, 2, 1, 0, []),
  (8, .ireturn, 1, 0, 0, 0, 0, [])]
/-- yX4_triedSum -/
def mt_42 : List am_row := [
  (0, .aload_n 0, 1, 0, 0, 0, 0, []),
  (1, .getfield 41, 3, 4, 10, 2, 0, []),
  (4, .iload_n 1, 1, 0, 0, 0, 0, []),
  (5, .iaload, 1, 0, 0, 0, 0, []),
  (6, .ireturn, 1, 0, 0, 0, 0, [])]
/-- yX4_unfairOf -/
def mt_43 : List am_row := [
  (0, .aload_n 0, 1, 0, 0, 0, 0, []),
  (1, .getfield 47, 3, 4, 0, 2, 0, []),
  (4, .getfield 67, 3, 0, 2, 0, 0, []),
  (7, .ifCond .ne 5, 3, 6, 0, 0, 0, []),
  (10, .iconst 0, 1, 0, 0, 0, 0, []),
  (11, .ireturn, 1, 0, 0, 0, 0, []),
  (12, .aload_n 1, 1, 0, 0, 0, 0, []),
  (13, .iconst 0, 1, 0, 0, 0, 0, []),
  (14, .iaload, 1, 0, 0, 0, 0, []),
  (15, .istore_n 2, 1, 0, 0, 0, 0, []),
  (16, .aload_n 1, 1, 0, 0, 0, 0, []),
  (17, .iconst 0, 1, 0, 0, 0, 0, []),
  (18, .iaload, 1, 0, 0, 0, 0, []),
  (19, .istore_n 3, 1, 0, 0, 0, 0, []),
  (20, .iconst 1, 1, 0, 0, 0, 1, []),
  (21, .istore 4, 2, 0, 0, 0, 0, []),
  (23, .iload 4, 2, 0, 0, 0, 0, []),
  (25, .aload_n 0, 1, 0, 0, 0, 0, []),
  (26, .getfield 47, 3, 4, 0, 2, 0, []),
  (29, .getfield 67, 3, 0, 2, 0, 0, []),
  (32, .if_icmp .ge 27, 3, 35, 0, 0, 0, []),
  (35, .iload_n 2, 1, 0, 0, 0, 0, []),
  (36, .aload_n 1, 1, 0, 0, 0, 0, []),
  (37, .iload 4, 2, 0, 0, 0, 0, []),
  (39, .iaload, 1, 0, 0, 0, 0, []),
  (40, .invokestatic 113, 3, 1000, 2, 1, 0, []),
  (43, .istore_n 2, 1, 0, 0, 0, 0, []),
  (44, .iload_n 3, 1, 0, 0, 0, 0, []),
  (45, .aload_n 1, 1, 0, 0, 0, 0, []),
  (46, .iload 4, 2, 0, 0, 0, 0, []),
  (48, .iaload, 1, 0, 0, 0, 0, []),
  (49, .invokestatic 118, 3, 1001, 2, 1, 0, []),
  (52, .istore_n 3, 1, 0, 0, 0, 0, []),
  (53, .iinc 4 1, 3, 0, 0, 0, 1, []),
  (56, .goto (-33), 3, 16, 0, 0, 0, []),
  (59, .iload_n 2, 1, 0, 0, 0, 0, []),
  (60, .iload_n 3, 1, 0, 0, 0, 0, []),
  (61, .isub, 1, 0, 0, 0, 0, []),
  (62, .ireturn, 1, 0, 0, 0, 0, [])]
/-- yX4_togetherBy -/
def mt_44 : List am_row := [
  (0, .iconst 0, 1, 0, 0, 0, 0, []),
  (1, .istore_n 2, 1, 0, 0, 0, 0, []),
  (2, .iconst 0, 1, 0, 0, 0, 0, []),
  (3, .istore_n 3, 1, 0, 0, 0, 0, []),
  (4, .iload_n 3, 1, 0, 0, 0, 0, []),
  (5, .aload_n 0, 1, 0, 0, 0, 0, []),
  (6, .getfield 47, 3, 4, 0, 2, 0, []),
  (9, .getfield 67, 3, 0, 2, 0, 0, []),
  (12, .if_icmp .ge 20, 3, 20, 0, 0, 0, []),
  (15, .iload_n 2, 1, 0, 0, 0, 0, []),
  (16, .aload_n 0, 1, 0, 0, 0, 0, []),
  (17, .getfield 32, 3, 4, 7, 2, 0, []),
  (20, .iload_n 1, 1, 0, 0, 0, 0, []),
  (21, .aaload, 1, 0, 0, 0, 0, []),
  (22, .iload_n 3, 1, 0, 0, 0, 0, []),
  (23, .iaload, 1, 0, 0, 0, 0, []),
  (24, .iadd, 1, 0, 0, 0, 0, []),
  (25, .istore_n 2, 1, 0, 0, 0, 0, []),
  (26, .iinc 3 1, 3, 0, 0, 0, 1, []),
  (29, .goto (-25), 3, 4, 0, 0, 0, []),
  (32, .iload_n 2, 1, 0, 0, 0, 0, []),
  (33, .ireturn, 1, 0, 0, 0, 0, [])]
/-- yX4_envyBy -/
def mt_45 : List am_row := [
  (0, .iconst 0, 1, 0, 0, 0, 0, []),
  (1, .istore_n 2, 1, 0, 0, 0, 0, []),
  (2, .iconst 0, 1, 0, 0, 0, 0, []),
  (3, .istore_n 3, 1, 0, 0, 0, 0, []),
  (4, .iload_n 3, 1, 0, 0, 0, 0, []),
  (5, .aload_n 0, 1, 0, 0, 0, 0, []),
  (6, .getfield 47, 3, 4, 0, 2, 0, []),
  (9, .getfield 67, 3, 0, 2, 0, 0, []),
  (12, .if_icmp .ge 55, 3, 38, 0, 0, 0, []),
  (15, .iconst 0, 1, 0, 0, 0, 0, []),
  (16, .istore 4, 2, 0, 0, 0, 0, []),
  (18, .iload 4, 2, 0, 0, 0, 0, []),
  (20, .aload_n 0, 1, 0, 0, 0, 0, []),
  (21, .getfield 47, 3, 4, 0, 2, 0, []),
  (24, .getfield 67, 3, 0, 2, 0, 0, []),
  (27, .if_icmp .ge 34, 3, 36, 0, 0, 0, []),
  (30, .aload_n 0, 1, 0, 0, 0, 0, []),
  (31, .iload_n 3, 1, 0, 0, 0, 0, []),
  (32, .iload_n 1, 1, 0, 0, 0, 0, []),
  (33, .iload 4, 2, 0, 0, 0, 0, []),
  (35, .invokevirtual 121, 3, 46, 4, 1, 0, []),
  (38, .aload_n 0, 1, 0, 0, 0, 0, []),
  (39, .getfield 32, 3, 4, 7, 2, 0, []),
  (42, .iload_n 1, 1, 0, 0, 0, 0, []),
  (43, .aaload, 1, 0, 0, 0, 0, []),
  (44, .iload_n 3, 1, 0, 0, 0, 0, []),
  (45, .iaload, 1, 0, 0, 0, 0, []),
  (46, .if_icmp .le 9, 3, 34, 0, 0, 0, []),
  (49, .iload_n 2, 1, 0, 0, 0, 0, []),
  (50, .iconst 1, 1, 0, 0, 0, 1, []),
  (51, .iload_n 3, 1, 0, 0, 0, 0, []),
  (52, .ishl, 1, 0, 0, 0, 0, []),
  (53, .ior, 1, 0, 0, 0, 0, []),
  (54, .istore_n 2, 1, 0, 0, 0, 0, []),
  (55, .iinc 4 1, 3, 0, 0, 0, 1, []),
  (58, .goto (-40), 3, 11, 0, 0, 0, []),
  (61, .iinc 3 1, 3, 0, 0, 0, 1, []),
  (64, .goto (-60), 3, 4, 0, 0, 0, []),
  (67, .iload_n 2, 1, 0, 0, 0, 0, []),
  (68, .ireturn, 1, 0, 0, 0, 0, [])]
/-- yX4_worthTo -/
def mt_46 : List am_row := [
  (0, .iconst 0, 1, 0, 0, 0, 0, []),
  (1, .istore 4, 2, 0, 0, 0, 0, []),
  (3, .iconst 0, 1, 0, 0, 0, 0, []),
  (4, .istore 5, 2, 0, 0, 0, 0, []),
  (6, .iload 5, 2, 0, 0, 0, 0, []),
  (8, .aload_n 0, 1, 0, 0, 0, 0, []),
  (9, .getfield 47, 3, 4, 0, 2, 0, []),
  (12, .getfield 70, 3, 0, 1, 0, 0, []),
  (15, .if_icmp .ge 36, 3, 28, 0, 0, 0, []),
  (18, .aload_n 0, 1, 0, 0, 0, 0, []),
  (19, .getfield 29, 3, 4, 6, 2, 0, []),
  (22, .iload_n 2, 1, 0, 0, 0, 0, []),
  (23, .aaload, 1, 0, 0, 0, 0, []),
  (24, .iload 5, 2, 0, 0, 0, 0, []),
  (26, .iaload, 1, 0, 0, 0, 0, []),
  (27, .iload_n 3, 1, 0, 0, 0, 0, []),
  (28, .if_icmp .ne 17, 3, 26, 0, 0, 0, []),
  (31, .iload 4, 2, 0, 0, 0, 0, []),
  (33, .aload_n 0, 1, 0, 0, 0, 0, []),
  (34, .getfield 26, 3, 4, 5, 2, 0, []),
  (37, .iload_n 1, 1, 0, 0, 0, 0, []),
  (38, .aaload, 1, 0, 0, 0, 0, []),
  (39, .iload 5, 2, 0, 0, 0, 0, []),
  (41, .iaload, 1, 0, 0, 0, 0, []),
  (42, .iadd, 1, 0, 0, 0, 0, []),
  (43, .istore 4, 2, 0, 0, 0, 0, []),
  (45, .iinc 5 1, 3, 0, 0, 0, 1, []),
  (48, .goto (-42), 3, 4, 0, 0, 0, []),
  (51, .iload 4, 2, 0, 0, 0, 0, []),
  (53, .ireturn, 1, 0, 0, 0, 0, [])]
/-- yX4_leastUnfairRule -/
def mt_47 : List am_row := [
  (0, .iconst 0, 1, 0, 0, 0, 0, []),
  (1, .istore_n 1, 1, 0, 0, 0, 0, []),
  (2, .iconst 1, 1, 0, 0, 0, 1, []),
  (3, .istore_n 2, 1, 0, 0, 0, 0, []),
  (4, .iload_n 2, 1, 0, 0, 0, 0, []),
  (5, .iconst 5, 1, 0, 0, 0, 5, []),
  (6, .if_icmp .ge 44, 3, 30, 0, 0, 0, []),
  (9, .aload_n 0, 1, 0, 0, 0, 0, []),
  (10, .iload_n 1, 1, 0, 0, 0, 0, []),
  (11, .invokevirtual 124, 3, 40, 2, 1, 0, []),
  (14, .aload_n 0, 1, 0, 0, 0, 0, []),
  (15, .iload_n 2, 1, 0, 0, 0, 0, []),
  (16, .invokevirtual 124, 3, 40, 2, 1, 0, []),
  (19, .isub, 1, 0, 0, 0, 0, []),
  (20, .istore_n 3, 1, 0, 0, 0, 0, []),
  (21, .iload_n 3, 1, 0, 0, 0, 0, []),
  (22, .ifCond .gt 20, 3, 26, 0, 0, 0, []),
  (25, .iload_n 3, 1, 0, 0, 0, 0, []),
  (26, .ifCond .ne 18, 3, 28, 0, 0, 0, []),
  (29, .aload_n 0, 1, 0, 0, 0, 0, []),
  (30, .iload_n 2, 1, 0, 0, 0, 0, []),
  (31, .invokevirtual 128, 3, 44, 2, 1, 0, []),
  (34, .aload_n 0, 1, 0, 0, 0, 0, []),
  (35, .iload_n 1, 1, 0, 0, 0, 0, []),
  (36, .invokevirtual 128, 3, 44, 2, 1, 0, []),
  (39, .if_icmp .le 5, 3, 28, 0, 0, 0, []),
  (42, .iload_n 2, 1, 0, 0, 0, 0, []),
  (43, .istore_n 1, 1, 0, 0, 0, 0, []),
  (44, .iinc 2 1, 3, 0, 0, 0, 1, []),
  (47, .goto (-43), 3, 4, 0, 0, 0, []),
  (50, .iload_n 1, 1, 0, 0, 0, 0, []),
  (51, .ireturn, 1, 0, 0, 0, 0, [])]
/-- yX4_firstSwapBy -/
def mt_48 : List am_row := [
  (0, .aload_n 0, 1, 0, 0, 0, 0, []),
  (1, .getfield 29, 3, 4, 6, 2, 0, []),
  (4, .iload_n 1, 1, 0, 0, 0, 0, []),
  (5, .aaload, 1, 0, 0, 0, 0, []),
  (6, .iconst 0, 1, 0, 0, 0, 0, []),
  (7, .aload_n 0, 1, 0, 0, 0, 0, []),
  (8, .getfield 38, 3, 4, 9, 2, 0, []),
  (11, .iconst 0, 1, 0, 0, 0, 0, []),
  (12, .aload_n 0, 1, 0, 0, 0, 0, []),
  (13, .getfield 38, 3, 4, 9, 2, 0, []),
  (16, .arraylength, 1, 0, 0, 0, 0, []),
  (17, .invokestatic 131, 3, 1002, 5, 0, 0, []),
  (20, .aload_n 0, 1, 0, 0, 0, 0, []),
  (21, .invokevirtual 137, 3, 49, 1, 1, 0, []),
  (24, .ireturn, 1, 0, 0, 0, 0, [])]
/-- yX4_firstSwap -/
def mt_49 : List am_row := [
  (0, .iconst 0, 1, 0, 0, 0, 0, []),
  (1, .istore_n 1, 1, 0, 0, 0, 0, []),
  (2, .iload_n 1, 1, 0, 0, 0, 0, []),
  (3, .aload_n 0, 1, 0, 0, 0, 0, []),
  (4, .getfield 47, 3, 4, 0, 2, 0, []),
  (7, .getfield 70, 3, 0, 1, 0, 0, []),
  (10, .if_icmp .ge 46, 3, 31, 0, 0, 0, []),
  (13, .iload_n 1, 1, 0, 0, 0, 0, []),
  (14, .iconst 1, 1, 0, 0, 0, 1, []),
  (15, .iadd, 1, 0, 0, 0, 0, []),
  (16, .istore_n 2, 1, 0, 0, 0, 0, []),
  (17, .iload_n 2, 1, 0, 0, 0, 0, []),
  (18, .aload_n 0, 1, 0, 0, 0, 0, []),
  (19, .getfield 47, 3, 4, 0, 2, 0, []),
  (22, .getfield 70, 3, 0, 1, 0, 0, []),
  (25, .if_icmp .ge 25, 3, 29, 0, 0, 0, []),
  (28, .aload_n 0, 1, 0, 0, 0, 0, []),
  (29, .iload_n 1, 1, 0, 0, 0, 0, []),
  (30, .iload_n 2, 1, 0, 0, 0, 0, []),
  (31, .invokevirtual 140, 3, 50, 3, 1, 0, []),
  (34, .ifCond .eq 10, 3, 27, 0, 0, 0, []),
  (37, .bipush 20, 2, 0, 0, 0, 20, []),
  (39, .iload_n 1, 1, 0, 0, 0, 0, []),
  (40, .imul, 1, 0, 0, 0, 0, []),
  (41, .iload_n 2, 1, 0, 0, 0, 0, []),
  (42, .iadd, 1, 0, 0, 0, 0, []),
  (43, .ireturn, 1, 0, 0, 0, 0, []),
  (44, .iinc 2 1, 3, 0, 0, 0, 1, []),
  (47, .goto (-30), 3, 11, 0, 0, 0, []),
  (50, .iinc 1 1, 3, 0, 0, 0, 1, []),
  (53, .goto (-51), 3, 2, 0, 0, 0, []),
  (56, .bipush (-2), 2, 0, 0, 0, -2, []),
  (58, .ireturn, 1, 0, 0, 0, 0, [])]
/-- yX4_pleasesBoth -/
def mt_50 : List am_row := [
  (0, .aload_n 0, 1, 0, 0, 0, 0, []),
  (1, .getfield 38, 3, 4, 9, 2, 0, []),
  (4, .iload_n 1, 1, 0, 0, 0, 0, []),
  (5, .iaload, 1, 0, 0, 0, 0, []),
  (6, .istore_n 3, 1, 0, 0, 0, 0, []),
  (7, .aload_n 0, 1, 0, 0, 0, 0, []),
  (8, .getfield 38, 3, 4, 9, 2, 0, []),
  (11, .iload_n 2, 1, 0, 0, 0, 0, []),
  (12, .iaload, 1, 0, 0, 0, 0, []),
  (13, .istore 4, 2, 0, 0, 0, 0, []),
  (15, .iload_n 3, 1, 0, 0, 0, 0, []),
  (16, .iload 4, 2, 0, 0, 0, 0, []),
  (18, .if_icmp .eq 70, 3, 51, 0, 0, 0, []),
  (21, .aload_n 0, 1, 0, 0, 0, 0, []),
  (22, .getfield 47, 3, 4, 0, 2, 0, []),
  (25, .iload_n 3, 1, 0, 0, 0, 0, []),
  (26, .invokevirtual 98, 3, 1, 2, 1, 0, []),
  (29, .ifCond .eq 59, 3, 51, 0, 0, 0, []),
  (32, .aload_n 0, 1, 0, 0, 0, 0, []),
  (33, .getfield 47, 3, 4, 0, 2, 0, []),
  (36, .iload 4, 2, 0, 0, 0, 0, []),
  (38, .invokevirtual 98, 3, 1, 2, 1, 0, []),
  (41, .ifCond .eq 47, 3, 51, 0, 0, 0, []),
  (44, .aload_n 0, 1, 0, 0, 0, 0, []),
  (45, .getfield 26, 3, 4, 5, 2, 0, []),
  (48, .iload_n 3, 1, 0, 0, 0, 0, []),
  (49, .aaload, 1, 0, 0, 0, 0, []),
  (50, .iload_n 2, 1, 0, 0, 0, 0, []),
  (51, .iaload, 1, 0, 0, 0, 0, []),
  (52, .aload_n 0, 1, 0, 0, 0, 0, []),
  (53, .getfield 26, 3, 4, 5, 2, 0, []),
  (56, .iload_n 3, 1, 0, 0, 0, 0, []),
  (57, .aaload, 1, 0, 0, 0, 0, []),
  (58, .iload_n 1, 1, 0, 0, 0, 0, []),
  (59, .iaload, 1, 0, 0, 0, 0, []),
  (60, .if_icmp .le 28, 3, 51, 0, 0, 0, []),
  (63, .aload_n 0, 1, 0, 0, 0, 0, []),
  (64, .getfield 26, 3, 4, 5, 2, 0, []),
  (67, .iload 4, 2, 0, 0, 0, 0, []),
  (69, .aaload, 1, 0, 0, 0, 0, []),
  (70, .iload_n 1, 1, 0, 0, 0, 0, []),
  (71, .iaload, 1, 0, 0, 0, 0, []),
  (72, .aload_n 0, 1, 0, 0, 0, 0, []),
  (73, .getfield 26, 3, 4, 5, 2, 0, []),
  (76, .iload 4, 2, 0, 0, 0, 0, []),
  (78, .aaload, 1, 0, 0, 0, 0, []),
  (79, .iload_n 2, 1, 0, 0, 0, 0, []),
  (80, .iaload, 1, 0, 0, 0, 0, []),
  (81, .if_icmp .le 7, 3, 51, 0, 0, 0, []),
  (84, .iconst 1, 1, 0, 0, 0, 1, []),
  (85, .goto 4, 3, 52, 0, 0, 0, []),
  (88, .iconst 0, 1, 0, 0, 0, 0, []),
  (89, .ireturn, 1, 1, 0, 0, 0, [])]
/-- yX4_swapAll -/
def mt_51 : List am_row := [
  (0, .aload_n 0, 1, 0, 0, 0, 0, []),
  (1, .iload_n 1, 1, 0, 0, 0, 0, []),
  (2, .invokevirtual 144, 3, 48, 2, 1, 0, []),
  (5, .istore_n 2, 1, 0, 0, 0, 0, []),
  (6, .iconst 0, 1, 0, 0, 0, 0, []),
  (7, .istore_n 3, 1, 0, 0, 0, 0, []),
  (8, .iload_n 3, 1, 0, 0, 0, 0, []),
  (9, .bipush 50, 2, 0, 0, 0, 50, []),
  (11, .if_icmp .ge 60, 3, 43, 0, 0, 0, []),
  (14, .iload_n 2, 1, 0, 0, 0, 0, []),
  (15, .bipush (-2), 2, 0, 0, 0, -2, []),
  (17, .if_icmp .eq 54, 3, 43, 0, 0, 0, []),
  (20, .aload_n 0, 1, 0, 0, 0, 0, []),
  (21, .getfield 38, 3, 4, 9, 2, 0, []),
  (24, .iload_n 2, 1, 0, 0, 0, 0, []),
  (25, .bipush 20, 2, 0, 0, 0, 20, []),
  (27, .idiv, 1, 0, 0, 0, 0, []),
  (28, .iaload, 1, 0, 0, 0, 0, []),
  (29, .istore 4, 2, 0, 0, 0, 0, []),
  (31, .aload_n 0, 1, 0, 0, 0, 0, []),
  (32, .getfield 38, 3, 4, 9, 2, 0, []),
  (35, .iload_n 2, 1, 0, 0, 0, 0, []),
  (36, .bipush 20, 2, 0, 0, 0, 20, []),
  (38, .idiv, 1, 0, 0, 0, 0, []),
  (39, .aload_n 0, 1, 0, 0, 0, 0, []),
  (40, .getfield 38, 3, 4, 9, 2, 0, []),
  (43, .iload_n 2, 1, 0, 0, 0, 0, []),
  (44, .bipush 20, 2, 0, 0, 0, 20, []),
  (46, .irem, 1, 0, 0, 0, 0, []),
  (47, .iaload, 1, 0, 0, 0, 0, []),
  (48, .iastore, 1, 0, 0, 0, 0, []),
  (49, .aload_n 0, 1, 0, 0, 0, 0, []),
  (50, .getfield 38, 3, 4, 9, 2, 0, []),
  (53, .iload_n 2, 1, 0, 0, 0, 0, []),
  (54, .bipush 20, 2, 0, 0, 0, 20, []),
  (56, .irem, 1, 0, 0, 0, 0, []),
  (57, .iload 4, 2, 0, 0, 0, 0, []),
  (59, .iastore, 1, 0, 0, 0, 0, []),
  (60, .iinc 3 1, 3, 0, 0, 0, 1, []),
  (63, .aload_n 0, 1, 0, 0, 0, 0, []),
  (64, .invokevirtual 137, 3, 49, 1, 1, 0, []),
  (67, .istore_n 2, 1, 0, 0, 0, 0, []),
  (68, .goto (-60), 3, 6, 0, 0, 0, []),
  (71, .aload_n 0, 1, 0, 0, 0, 0, []),
  (72, .invokevirtual 147, 3, 52, 1, 0, 0, []),
  (75, .iload_n 3, 1, 0, 0, 0, 0, []),
  (76, .ireturn, 1, 0, 0, 0, 0, [])]
/-- yX4_sumTried -/
def mt_52 : List am_row := [
  (0, .aload_n 0, 1, 0, 0, 0, 0, []),
  (1, .getfield 41, 3, 4, 10, 2, 0, []),
  (4, .iconst 0, 1, 0, 0, 0, 0, []),
  (5, .invokestatic 85, 3, 275, 2, 0, 0, []),
  (8, .iconst 0, 1, 0, 0, 0, 0, []),
  (9, .istore_n 1, 1, 0, 0, 0, 0, []),
  (10, .iload_n 1, 1, 0, 0, 0, 0, []),
  (11, .aload_n 0, 1, 0, 0, 0, 0, []),
  (12, .getfield 47, 3, 4, 0, 2, 0, []),
  (15, .getfield 70, 3, 0, 1, 0, 0, []),
  (18, .if_icmp .ge 44, 3, 36, 0, 0, 0, []),
  (21, .aload_n 0, 1, 0, 0, 0, 0, []),
  (22, .getfield 38, 3, 4, 9, 2, 0, []),
  (25, .iload_n 1, 1, 0, 0, 0, 0, []),
  (26, .iaload, 1, 0, 0, 0, 0, []),
  (27, .istore_n 2, 1, 0, 0, 0, 0, []),
  (28, .aload_n 0, 1, 0, 0, 0, 0, []),
  (29, .getfield 47, 3, 4, 0, 2, 0, []),
  (32, .iload_n 2, 1, 0, 0, 0, 0, []),
  (33, .invokevirtual 98, 3, 1, 2, 1, 0, []),
  (36, .ifCond .eq 20, 3, 34, 0, 0, 0, []),
  (39, .aload_n 0, 1, 0, 0, 0, 0, []),
  (40, .getfield 41, 3, 4, 10, 2, 0, []),
  (43, .iload_n 2, 1, 0, 0, 0, 0, []),
  (44, .dup2, 1, 0, 0, 0, 0, []),
  (45, .iaload, 1, 0, 0, 0, 0, []),
  (46, .aload_n 0, 1, 0, 0, 0, 0, []),
  (47, .getfield 26, 3, 4, 5, 2, 0, []),
  (50, .iload_n 2, 1, 0, 0, 0, 0, []),
  (51, .aaload, 1, 0, 0, 0, 0, []),
  (52, .iload_n 1, 1, 0, 0, 0, 0, []),
  (53, .iaload, 1, 0, 0, 0, 0, []),
  (54, .iadd, 1, 0, 0, 0, 0, []),
  (55, .iastore, 1, 0, 0, 0, 0, []),
  (56, .iinc 1 1, 3, 0, 0, 0, 1, []),
  (59, .goto (-49), 3, 6, 0, 0, 0, []),
  (62, .return_, 1, 0, 0, 0, 0, [])]
/-- yX4_divideBig -/
def mt_53 : List am_row := [
  (0, .iconst 0, 1, 0, 0, 0, 0, []),
  (1, .istore_n 2, 1, 0, 0, 0, 0, []),
  (2, .iconst 1, 1, 0, 0, 0, 1, []),
  (3, .istore_n 3, 1, 0, 0, 0, 0, []),
  (4, .iload_n 3, 1, 0, 0, 0, 0, []),
  (5, .aload_n 0, 1, 0, 0, 0, 0, []),
  (6, .getfield 47, 3, 4, 0, 2, 0, []),
  (9, .getfield 70, 3, 0, 1, 0, 0, []),
  (12, .if_icmp .ge 32, 3, 24, 0, 0, 0, []),
  (15, .aload_n 0, 1, 0, 0, 0, 0, []),
  (16, .getfield 47, 3, 4, 0, 2, 0, []),
  (19, .iconst 2, 1, 0, 0, 0, 2, []),
  (20, .iload_n 3, 1, 0, 0, 0, 0, []),
  (21, .invokevirtual 73, 3, 4, 3, 1, 0, []),
  (24, .aload_n 0, 1, 0, 0, 0, 0, []),
  (25, .getfield 47, 3, 4, 0, 2, 0, []),
  (28, .iconst 2, 1, 0, 0, 0, 2, []),
  (29, .iload_n 2, 1, 0, 0, 0, 0, []),
  (30, .invokevirtual 73, 3, 4, 3, 1, 0, []),
  (33, .if_icmp .le 5, 3, 22, 0, 0, 0, []),
  (36, .iload_n 3, 1, 0, 0, 0, 0, []),
  (37, .istore_n 2, 1, 0, 0, 0, 0, []),
  (38, .iinc 3 1, 3, 0, 0, 0, 1, []),
  (41, .goto (-37), 3, 4, 0, 0, 0, []),
  (44, .aload_n 0, 1, 0, 0, 0, 0, []),
  (45, .getfield 29, 3, 4, 6, 2, 0, []),
  (48, .iload_n 1, 1, 0, 0, 0, 0, []),
  (49, .aaload, 1, 0, 0, 0, 0, []),
  (50, .iconst 0, 1, 0, 0, 0, 0, []),
  (51, .aload_n 0, 1, 0, 0, 0, 0, []),
  (52, .getfield 38, 3, 4, 9, 2, 0, []),
  (55, .iconst 0, 1, 0, 0, 0, 0, []),
  (56, .aload_n 0, 1, 0, 0, 0, 0, []),
  (57, .getfield 38, 3, 4, 9, 2, 0, []),
  (60, .arraylength, 1, 0, 0, 0, 0, []),
  (61, .invokestatic 131, 3, 1002, 5, 0, 0, []),
  (64, .aload_n 0, 1, 0, 0, 0, 0, []),
  (65, .getfield 38, 3, 4, 9, 2, 0, []),
  (68, .iload_n 2, 1, 0, 0, 0, 0, []),
  (69, .bipush (-2), 2, 0, 0, 0, -2, []),
  (71, .iastore, 1, 0, 0, 0, 0, []),
  (72, .aload_n 0, 1, 0, 0, 0, 0, []),
  (73, .invokevirtual 147, 3, 52, 1, 0, 0, []),
  (76, .aload_n 0, 1, 0, 0, 0, 0, []),
  (77, .getfield 47, 3, 4, 0, 2, 0, []),
  (80, .getfield 67, 3, 0, 2, 0, 0, []),
  (83, .istore_n 3, 1, 0, 0, 0, 0, []),
  (84, .iload_n 3, 1, 0, 0, 0, 0, []),
  (85, .ifCond .le 17, 3, 57, 0, 0, 0, []),
  (88, .aload_n 0, 1, 0, 0, 0, 0, []),
  (89, .getfield 47, 3, 4, 0, 2, 0, []),
  (92, .iconst 2, 1, 0, 0, 0, 2, []),
  (93, .iload_n 2, 1, 0, 0, 0, 0, []),
  (94, .invokevirtual 73, 3, 4, 3, 1, 0, []),
  (97, .iload_n 3, 1, 0, 0, 0, 0, []),
  (98, .idiv, 1, 0, 0, 0, 0, []),
  (99, .goto 4, 3, 58, 0, 0, 0, []),
  (102, .iconst 0, 1, 0, 0, 0, 0, []),
  (103, .istore 4, 2, 0, 0, 0, 0, []),
  (105, .iconst 0, 1, 0, 0, 0, 0, []),
  (106, .istore 5, 2, 0, 0, 0, 0, []),
  (108, .iload 5, 2, 0, 0, 0, 0, []),
  (110, .iload_n 3, 1, 0, 0, 0, 0, []),
  (111, .if_icmp .ge 31, 3, 79, 0, 0, 0, []),
  (114, .aload_n 0, 1, 0, 0, 0, 0, []),
  (115, .getfield 41, 3, 4, 10, 2, 0, []),
  (118, .iload 5, 2, 0, 0, 0, 0, []),
  (120, .dup2, 1, 0, 0, 0, 0, []),
  (121, .iaload, 1, 0, 0, 0, 0, []),
  (122, .aload_n 0, 1, 0, 0, 0, 0, []),
  (123, .getfield 51, 3, 4, 1, 2, 0, []),
  (126, .iload 5, 2, 0, 0, 0, 0, []),
  (128, .iload_n 2, 1, 0, 0, 0, 0, []),
  (129, .iload 4, 2, 0, 0, 0, 0, []),
  (131, .invokevirtual 77, 3, 117, 4, 1, 0, []),
  (134, .iadd, 1, 0, 0, 0, 0, []),
  (135, .iastore, 1, 0, 0, 0, 0, []),
  (136, .iinc 5 1, 3, 0, 0, 0, 1, []),
  (139, .goto (-31), 3, 61, 0, 0, 0, []),
  (142, .return_, 1, 0, 0, 0, 0, [])]
/-- yX4_neverEaten -/
def mt_54 : List am_row := [
  (0, .iconst 0, 1, 0, 0, 0, 0, []),
  (1, .istore_n 3, 1, 0, 0, 0, 0, []),
  (2, .iconst 0, 1, 0, 0, 0, 0, []),
  (3, .istore 4, 2, 0, 0, 0, 0, []),
  (5, .iload 4, 2, 0, 0, 0, 0, []),
  (7, .aload_n 0, 1, 0, 0, 0, 0, []),
  (8, .getfield 47, 3, 4, 0, 2, 0, []),
  (11, .getfield 70, 3, 0, 1, 0, 0, []),
  (14, .if_icmp .ge 39, 3, 27, 0, 0, 0, []),
  (17, .aload_n 0, 1, 0, 0, 0, 0, []),
  (18, .getfield 29, 3, 4, 6, 2, 0, []),
  (21, .iload_n 1, 1, 0, 0, 0, 0, []),
  (22, .aaload, 1, 0, 0, 0, 0, []),
  (23, .iload 4, 2, 0, 0, 0, 0, []),
  (25, .iaload, 1, 0, 0, 0, 0, []),
  (26, .iload_n 2, 1, 0, 0, 0, 0, []),
  (27, .if_icmp .ne 20, 3, 25, 0, 0, 0, []),
  (30, .aload_n 0, 1, 0, 0, 0, 0, []),
  (31, .getfield 47, 3, 4, 0, 2, 0, []),
  (34, .iload_n 2, 1, 0, 0, 0, 0, []),
  (35, .iload 4, 2, 0, 0, 0, 0, []),
  (37, .invokevirtual 150, 3, 9, 3, 1, 0, []),
  (40, .iconst (-1), 1, 0, 0, 0, -1, []),
  (41, .if_icmp .ne 6, 3, 25, 0, 0, 0, []),
  (44, .iinc 3 1, 3, 0, 0, 0, 1, []),
  (47, .iinc 4 1, 3, 0, 0, 0, 1, []),
  (50, .goto (-45), 3, 4, 0, 0, 0, []),
  (53, .iload_n 3, 1, 0, 0, 0, 0, []),
  (54, .ireturn, 1, 0, 0, 0, 0, [])]
/-- yX4_daysLate -/
def mt_55 : List am_row := [
  (0, .iconst 0, 1, 0, 0, 0, 0, []),
  (1, .istore_n 3, 1, 0, 0, 0, 0, []),
  (2, .iconst 0, 1, 0, 0, 0, 0, []),
  (3, .istore 4, 2, 0, 0, 0, 0, []),
  (5, .iload 4, 2, 0, 0, 0, 0, []),
  (7, .aload_n 0, 1, 0, 0, 0, 0, []),
  (8, .getfield 47, 3, 4, 0, 2, 0, []),
  (11, .getfield 70, 3, 0, 1, 0, 0, []),
  (14, .if_icmp .ge 39, 3, 29, 0, 0, 0, []),
  (17, .aload_n 0, 1, 0, 0, 0, 0, []),
  (18, .getfield 29, 3, 4, 6, 2, 0, []),
  (21, .iload_n 1, 1, 0, 0, 0, 0, []),
  (22, .aaload, 1, 0, 0, 0, 0, []),
  (23, .iload 4, 2, 0, 0, 0, 0, []),
  (25, .iaload, 1, 0, 0, 0, 0, []),
  (26, .iload_n 2, 1, 0, 0, 0, 0, []),
  (27, .if_icmp .ne 20, 3, 27, 0, 0, 0, []),
  (30, .iload_n 3, 1, 0, 0, 0, 0, []),
  (31, .iconst 0, 1, 0, 0, 0, 0, []),
  (32, .aload_n 0, 1, 0, 0, 0, 0, []),
  (33, .getfield 47, 3, 4, 0, 2, 0, []),
  (36, .iload_n 2, 1, 0, 0, 0, 0, []),
  (37, .iload 4, 2, 0, 0, 0, 0, []),
  (39, .invokevirtual 150, 3, 9, 3, 1, 0, []),
  (42, .invokestatic 113, 3, 1000, 2, 1, 0, []),
  (45, .iadd, 1, 0, 0, 0, 0, []),
  (46, .istore_n 3, 1, 0, 0, 0, 0, []),
  (47, .iinc 4 1, 3, 0, 0, 0, 1, []),
  (50, .goto (-45), 3, 4, 0, 0, 0, []),
  (53, .iload_n 3, 1, 0, 0, 0, 0, []),
  (54, .ireturn, 1, 0, 0, 0, 0, [])]
/-- yX4_ownAfter -/
def mt_56 : List am_row := [
  (0, .iconst 0, 1, 0, 0, 0, 0, []),
  (1, .istore 4, 2, 0, 0, 0, 0, []),
  (3, .iconst 0, 1, 0, 0, 0, 0, []),
  (4, .istore 5, 2, 0, 0, 0, 0, []),
  (6, .iload 5, 2, 0, 0, 0, 0, []),
  (8, .aload_n 0, 1, 0, 0, 0, 0, []),
  (9, .getfield 47, 3, 4, 0, 2, 0, []),
  (12, .getfield 70, 3, 0, 1, 0, 0, []),
  (15, .if_icmp .ge 45, 3, 32, 0, 0, 0, []),
  (18, .aload_n 0, 1, 0, 0, 0, 0, []),
  (19, .getfield 29, 3, 4, 6, 2, 0, []),
  (22, .iload_n 1, 1, 0, 0, 0, 0, []),
  (23, .aaload, 1, 0, 0, 0, 0, []),
  (24, .iload 5, 2, 0, 0, 0, 0, []),
  (26, .iaload, 1, 0, 0, 0, 0, []),
  (27, .iload_n 2, 1, 0, 0, 0, 0, []),
  (28, .if_icmp .ne 26, 3, 30, 0, 0, 0, []),
  (31, .aload_n 0, 1, 0, 0, 0, 0, []),
  (32, .getfield 47, 3, 4, 0, 2, 0, []),
  (35, .iconst 0, 1, 0, 0, 0, 0, []),
  (36, .iload 5, 2, 0, 0, 0, 0, []),
  (38, .invokevirtual 73, 3, 4, 3, 1, 0, []),
  (41, .iload_n 3, 1, 0, 0, 0, 0, []),
  (42, .if_icmp .le 12, 3, 30, 0, 0, 0, []),
  (45, .iload 4, 2, 0, 0, 0, 0, []),
  (47, .iconst 1, 1, 0, 0, 0, 1, []),
  (48, .iload 5, 2, 0, 0, 0, 0, []),
  (50, .ishl, 1, 0, 0, 0, 0, []),
  (51, .ior, 1, 0, 0, 0, 0, []),
  (52, .istore 4, 2, 0, 0, 0, 0, []),
  (54, .iinc 5 1, 3, 0, 0, 0, 1, []),
  (57, .goto (-51), 3, 4, 0, 0, 0, []),
  (60, .iload 4, 2, 0, 0, 0, 0, []),
  (62, .ireturn, 1, 0, 0, 0, 0, [])]
/-- yX4_takeMine -/
def mt_57 : List am_row := [
  (0, .aload_n 0, 1, 0, 0, 0, 0, []),
  (1, .iconst 0, 1, 0, 0, 0, 0, []),
  (2, .putfield 153, 3, 4, 12, 0, 0, []),
  (5, .iconst 0, 1, 0, 0, 0, 0, []),
  (6, .istore_n 3, 1, 0, 0, 0, 0, []),
  (7, .iload_n 3, 1, 0, 0, 0, 0, []),
  (8, .aload_n 0, 1, 0, 0, 0, 0, []),
  (9, .getfield 47, 3, 4, 0, 2, 0, []),
  (12, .getfield 70, 3, 0, 1, 0, 0, []),
  (15, .if_icmp .ge 51, 3, 38, 0, 0, 0, []),
  (18, .aload_n 0, 1, 0, 0, 0, 0, []),
  (19, .getfield 29, 3, 4, 6, 2, 0, []),
  (22, .iload_n 1, 1, 0, 0, 0, 0, []),
  (23, .aaload, 1, 0, 0, 0, 0, []),
  (24, .aload_n 0, 1, 0, 0, 0, 0, []),
  (25, .getfield 17, 3, 4, 3, 2, 0, []),
  (28, .iload_n 3, 1, 0, 0, 0, 0, []),
  (29, .iaload, 1, 0, 0, 0, 0, []),
  (30, .iaload, 1, 0, 0, 0, 0, []),
  (31, .iload_n 2, 1, 0, 0, 0, 0, []),
  (32, .if_icmp .ne 28, 3, 36, 0, 0, 0, []),
  (35, .aload_n 0, 1, 0, 0, 0, 0, []),
  (36, .getfield 44, 3, 4, 11, 2, 0, []),
  (39, .aload_n 0, 1, 0, 0, 0, 0, []),
  (40, .getfield 153, 3, 4, 12, 0, 0, []),
  (43, .aload_n 0, 1, 0, 0, 0, 0, []),
  (44, .getfield 17, 3, 4, 3, 2, 0, []),
  (47, .iload_n 3, 1, 0, 0, 0, 0, []),
  (48, .iaload, 1, 0, 0, 0, 0, []),
  (49, .iastore, 1, 0, 0, 0, 0, []),
  (50, .aload_n 0, 1, 0, 0, 0, 0, []),
  (51, .dup, 1, 0, 0, 0, 0, []),
  (52, .getfield 153, 3, 4, 12, 0, 0, []),
  (55, .iconst 1, 1, 0, 0, 0, 1, []),
  (56, .iadd, 1, 0, 0, 0, 0, []),
  (57, .putfield 153, 3, 4, 12, 0, 0, []),
  (60, .iinc 3 1, 3, 0, 0, 0, 1, []),
  (63, .goto (-56), 3, 5, 0, 0, 0, []),
  (66, .return_, 1, 0, 0, 0, 0, [])]
/-- yX4_gathered -/
def mt_58 : List am_row := [
  (0, .iload_n 2, 1, 0, 0, 0, 0, []),
  (1, .ifCond .gt 5, 3, 4, 0, 0, 0, []),
  (4, .iconst 0, 1, 0, 0, 0, 0, []),
  (5, .ireturn, 1, 0, 0, 0, 0, []),
  (6, .iconst 0, 1, 0, 0, 0, 0, []),
  (7, .istore_n 3, 1, 0, 0, 0, 0, []),
  (8, .iconst 0, 1, 0, 0, 0, 0, []),
  (9, .istore 4, 2, 0, 0, 0, 0, []),
  (11, .iload 4, 2, 0, 0, 0, 0, []),
  (13, .aload_n 0, 1, 0, 0, 0, 0, []),
  (14, .getfield 153, 3, 4, 12, 0, 0, []),
  (17, .if_icmp .ge 108, 3, 70, 0, 0, 0, []),
  (20, .iload 4, 2, 0, 0, 0, 0, []),
  (22, .iload 4, 2, 0, 0, 0, 0, []),
  (24, .iload_n 2, 1, 0, 0, 0, 0, []),
  (25, .irem, 1, 0, 0, 0, 0, []),
  (26, .isub, 1, 0, 0, 0, 0, []),
  (27, .iload_n 2, 1, 0, 0, 0, 0, []),
  (28, .iadd, 1, 0, 0, 0, 0, []),
  (29, .iconst 1, 1, 0, 0, 0, 1, []),
  (30, .isub, 1, 0, 0, 0, 0, []),
  (31, .istore 5, 2, 0, 0, 0, 0, []),
  (33, .iload 5, 2, 0, 0, 0, 0, []),
  (35, .aload_n 0, 1, 0, 0, 0, 0, []),
  (36, .getfield 153, 3, 4, 12, 0, 0, []),
  (39, .if_icmp .ge 21, 3, 35, 0, 0, 0, []),
  (42, .aload_n 0, 1, 0, 0, 0, 0, []),
  (43, .getfield 47, 3, 4, 0, 2, 0, []),
  (46, .iconst 0, 1, 0, 0, 0, 0, []),
  (47, .aload_n 0, 1, 0, 0, 0, 0, []),
  (48, .getfield 44, 3, 4, 11, 2, 0, []),
  (51, .iload 5, 2, 0, 0, 0, 0, []),
  (53, .iaload, 1, 0, 0, 0, 0, []),
  (54, .invokevirtual 73, 3, 4, 3, 1, 0, []),
  (57, .goto 5, 3, 36, 0, 0, 0, []),
  (60, .bipush 24, 2, 0, 0, 0, 24, []),
  (62, .istore 6, 2, 0, 0, 0, 0, []),
  (64, .iload 6, 2, 0, 0, 0, 0, []),
  (66, .aload_n 0, 1, 0, 0, 0, 0, []),
  (67, .getfield 47, 3, 4, 0, 2, 0, []),
  (70, .iconst 0, 1, 0, 0, 0, 0, []),
  (71, .aload_n 0, 1, 0, 0, 0, 0, []),
  (72, .getfield 44, 3, 4, 11, 2, 0, []),
  (75, .iload 4, 2, 0, 0, 0, 0, []),
  (77, .iaload, 1, 0, 0, 0, 0, []),
  (78, .invokevirtual 73, 3, 4, 3, 1, 0, []),
  (81, .isub, 1, 0, 0, 0, 0, []),
  (82, .istore 7, 2, 0, 0, 0, 0, []),
  (84, .iload_n 3, 1, 0, 0, 0, 0, []),
  (85, .aload_n 0, 1, 0, 0, 0, 0, []),
  (86, .getfield 51, 3, 4, 1, 2, 0, []),
  (89, .iload_n 1, 1, 0, 0, 0, 0, []),
  (90, .aload_n 0, 1, 0, 0, 0, 0, []),
  (91, .getfield 44, 3, 4, 11, 2, 0, []),
  (94, .iload 4, 2, 0, 0, 0, 0, []),
  (96, .iaload, 1, 0, 0, 0, 0, []),
  (97, .aload_n 0, 1, 0, 0, 0, 0, []),
  (98, .getfield 47, 3, 4, 0, 2, 0, []),
  (101, .iconst 2, 1, 0, 0, 0, 2, []),
  (102, .aload_n 0, 1, 0, 0, 0, 0, []),
  (103, .getfield 44, 3, 4, 11, 2, 0, []),
  (106, .iload 4, 2, 0, 0, 0, 0, []),
  (108, .iaload, 1, 0, 0, 0, 0, []),
  (109, .invokevirtual 73, 3, 4, 3, 1, 0, []),
  (112, .iload 7, 2, 0, 0, 0, 0, []),
  (114, .invokevirtual 156, 3, 116, 5, 1, 0, []),
  (117, .iadd, 1, 0, 0, 0, 0, []),
  (118, .istore_n 3, 1, 0, 0, 0, 0, []),
  (119, .iinc 4 1, 3, 0, 0, 0, 1, []),
  (122, .goto (-111), 3, 8, 0, 0, 0, []),
  (125, .iload_n 3, 1, 0, 0, 0, 0, []),
  (126, .ireturn, 1, 0, 0, 0, 0, [])]
/-- yX4_bestGathering -/
def mt_59 : List am_row := [
  (0, .iconst 1, 1, 0, 0, 0, 1, []),
  (1, .istore_n 2, 1, 0, 0, 0, 0, []),
  (2, .aload_n 0, 1, 0, 0, 0, 0, []),
  (3, .iload_n 1, 1, 0, 0, 0, 0, []),
  (4, .iconst 1, 1, 0, 0, 0, 1, []),
  (5, .invokevirtual 160, 3, 58, 3, 1, 0, []),
  (8, .istore_n 3, 1, 0, 0, 0, 0, []),
  (9, .iconst 2, 1, 0, 0, 0, 2, []),
  (10, .istore 4, 2, 0, 0, 0, 0, []),
  (12, .iload 4, 2, 0, 0, 0, 0, []),
  (14, .bipush 9, 2, 0, 0, 0, 9, []),
  (16, .if_icmp .gt 30, 3, 26, 0, 0, 0, []),
  (19, .aload_n 0, 1, 0, 0, 0, 0, []),
  (20, .iload_n 1, 1, 0, 0, 0, 0, []),
  (21, .iload 4, 2, 0, 0, 0, 0, []),
  (23, .invokevirtual 160, 3, 58, 3, 1, 0, []),
  (26, .istore 5, 2, 0, 0, 0, 0, []),
  (28, .iload 5, 2, 0, 0, 0, 0, []),
  (30, .iload_n 3, 1, 0, 0, 0, 0, []),
  (31, .if_icmp .le 9, 3, 24, 0, 0, 0, []),
  (34, .iload 4, 2, 0, 0, 0, 0, []),
  (36, .istore_n 2, 1, 0, 0, 0, 0, []),
  (37, .iload 5, 2, 0, 0, 0, 0, []),
  (39, .istore_n 3, 1, 0, 0, 0, 0, []),
  (40, .iinc 4 1, 3, 0, 0, 0, 1, []),
  (43, .goto (-31), 3, 9, 0, 0, 0, []),
  (46, .iload_n 2, 1, 0, 0, 0, 0, []),
  (47, .ireturn, 1, 0, 0, 0, 0, [])]
/-- yX4_giveTwice -/
def mt_60 : List am_row := [
  (0, .aload_n 0, 1, 0, 0, 0, 0, []),
  (1, .getfield 32, 3, 4, 7, 2, 0, []),
  (4, .iload_n 1, 1, 0, 0, 0, 0, []),
  (5, .aaload, 1, 0, 0, 0, 0, []),
  (6, .iconst 0, 1, 0, 0, 0, 0, []),
  (7, .aload_n 0, 1, 0, 0, 0, 0, []),
  (8, .getfield 41, 3, 4, 10, 2, 0, []),
  (11, .iconst 0, 1, 0, 0, 0, 0, []),
  (12, .aload_n 0, 1, 0, 0, 0, 0, []),
  (13, .getfield 41, 3, 4, 10, 2, 0, []),
  (16, .arraylength, 1, 0, 0, 0, 0, []),
  (17, .invokestatic 131, 3, 1002, 5, 0, 0, []),
  (20, .iconst 0, 1, 0, 0, 0, 0, []),
  (21, .istore_n 3, 1, 0, 0, 0, 0, []),
  (22, .iload_n 3, 1, 0, 0, 0, 0, []),
  (23, .aload_n 0, 1, 0, 0, 0, 0, []),
  (24, .getfield 47, 3, 4, 0, 2, 0, []),
  (27, .getfield 70, 3, 0, 1, 0, 0, []),
  (30, .if_icmp .ge 72, 3, 54, 0, 0, 0, []),
  (33, .iconst 0, 1, 0, 0, 0, 0, []),
  (34, .istore 4, 2, 0, 0, 0, 0, []),
  (36, .iload 4, 2, 0, 0, 0, 0, []),
  (38, .aload_n 0, 1, 0, 0, 0, 0, []),
  (39, .getfield 47, 3, 4, 0, 2, 0, []),
  (42, .getfield 67, 3, 0, 2, 0, 0, []),
  (45, .if_icmp .ge 32, 3, 41, 0, 0, 0, []),
  (48, .aload_n 0, 1, 0, 0, 0, 0, []),
  (49, .getfield 35, 3, 4, 8, 2, 0, []),
  (52, .iload 4, 2, 0, 0, 0, 0, []),
  (54, .aload_n 0, 1, 0, 0, 0, 0, []),
  (55, .getfield 51, 3, 4, 1, 2, 0, []),
  (58, .iload 4, 2, 0, 0, 0, 0, []),
  (60, .aload_n 0, 1, 0, 0, 0, 0, []),
  (61, .getfield 17, 3, 4, 3, 2, 0, []),
  (64, .iload_n 3, 1, 0, 0, 0, 0, []),
  (65, .iaload, 1, 0, 0, 0, 0, []),
  (66, .iload_n 2, 1, 0, 0, 0, 0, []),
  (67, .invokevirtual 77, 3, 117, 4, 1, 0, []),
  (70, .iastore, 1, 0, 0, 0, 0, []),
  (71, .iinc 4 1, 3, 0, 0, 0, 1, []),
  (74, .goto (-38), 3, 21, 0, 0, 0, []),
  (77, .aload_n 0, 1, 0, 0, 0, 0, []),
  (78, .iload_n 1, 1, 0, 0, 0, 0, []),
  (79, .aload_n 0, 1, 0, 0, 0, 0, []),
  (80, .getfield 47, 3, 4, 0, 2, 0, []),
  (83, .getfield 70, 3, 0, 1, 0, 0, []),
  (86, .iload_n 3, 1, 0, 0, 0, 0, []),
  (87, .iadd, 1, 0, 0, 0, 0, []),
  (88, .aload_n 0, 1, 0, 0, 0, 0, []),
  (89, .getfield 41, 3, 4, 10, 2, 0, []),
  (92, .invokevirtual 91, 3, 34, 4, 1, 0, []),
  (95, .pop, 1, 0, 0, 0, 0, []),
  (96, .iinc 3 1, 3, 0, 0, 0, 1, []),
  (99, .goto (-77), 3, 14, 0, 0, 0, []),
  (102, .return_, 1, 0, 0, 0, 0, [])]
/-- yX4_bestPair -/
def mt_61 : List am_row := [
  (0, .bipush (-2), 2, 0, 0, 0, -2, []),
  (2, .istore_n 2, 1, 0, 0, 0, 0, []),
  (3, .iconst 0, 1, 0, 0, 0, 0, []),
  (4, .istore_n 3, 1, 0, 0, 0, 0, []),
  (5, .iconst 0, 1, 0, 0, 0, 0, []),
  (6, .istore 4, 2, 0, 0, 0, 0, []),
  (8, .iload 4, 2, 0, 0, 0, 0, []),
  (10, .aload_n 0, 1, 0, 0, 0, 0, []),
  (11, .getfield 47, 3, 4, 0, 2, 0, []),
  (14, .getfield 67, 3, 0, 2, 0, 0, []),
  (17, .if_icmp .ge 62, 3, 41, 0, 0, 0, []),
  (20, .iload 4, 2, 0, 0, 0, 0, []),
  (22, .iconst 1, 1, 0, 0, 0, 1, []),
  (23, .iadd, 1, 0, 0, 0, 0, []),
  (24, .istore 5, 2, 0, 0, 0, 0, []),
  (26, .iload 5, 2, 0, 0, 0, 0, []),
  (28, .aload_n 0, 1, 0, 0, 0, 0, []),
  (29, .getfield 47, 3, 4, 0, 2, 0, []),
  (32, .getfield 67, 3, 0, 2, 0, 0, []),
  (35, .if_icmp .ge 38, 3, 39, 0, 0, 0, []),
  (38, .aload_n 0, 1, 0, 0, 0, 0, []),
  (39, .iload_n 1, 1, 0, 0, 0, 0, []),
  (40, .iload 4, 2, 0, 0, 0, 0, []),
  (42, .iload 5, 2, 0, 0, 0, 0, []),
  (44, .invokevirtual 163, 3, 62, 4, 1, 0, []),
  (47, .istore 6, 2, 0, 0, 0, 0, []),
  (49, .iload 6, 2, 0, 0, 0, 0, []),
  (51, .iload_n 3, 1, 0, 0, 0, 0, []),
  (52, .if_icmp .le 15, 3, 37, 0, 0, 0, []),
  (55, .bipush 10, 2, 0, 0, 0, 10, []),
  (57, .iload 4, 2, 0, 0, 0, 0, []),
  (59, .imul, 1, 0, 0, 0, 0, []),
  (60, .iload 5, 2, 0, 0, 0, 0, []),
  (62, .iadd, 1, 0, 0, 0, 0, []),
  (63, .istore_n 2, 1, 0, 0, 0, 0, []),
  (64, .iload 6, 2, 0, 0, 0, 0, []),
  (66, .istore_n 3, 1, 0, 0, 0, 0, []),
  (67, .iinc 5 1, 3, 0, 0, 0, 1, []),
  (70, .goto (-44), 3, 15, 0, 0, 0, []),
  (73, .iinc 4 1, 3, 0, 0, 0, 1, []),
  (76, .goto (-68), 3, 6, 0, 0, 0, []),
  (79, .iload_n 2, 1, 0, 0, 0, 0, []),
  (80, .ireturn, 1, 0, 0, 0, 0, [])]
/-- yX4_gainOf -/
def mt_62 : List am_row := [
  (0, .aload_n 0, 1, 0, 0, 0, 0, []),
  (1, .iload_n 2, 1, 0, 0, 0, 0, []),
  (2, .iload_n 1, 1, 0, 0, 0, 0, []),
  (3, .iload_n 3, 1, 0, 0, 0, 0, []),
  (4, .invokevirtual 121, 3, 46, 4, 1, 0, []),
  (7, .aload_n 0, 1, 0, 0, 0, 0, []),
  (8, .iload_n 3, 1, 0, 0, 0, 0, []),
  (9, .iload_n 1, 1, 0, 0, 0, 0, []),
  (10, .iload_n 2, 1, 0, 0, 0, 0, []),
  (11, .invokevirtual 121, 3, 46, 4, 1, 0, []),
  (14, .iadd, 1, 0, 0, 0, 0, []),
  (15, .aload_n 0, 1, 0, 0, 0, 0, []),
  (16, .getfield 32, 3, 4, 7, 2, 0, []),
  (19, .iload_n 1, 1, 0, 0, 0, 0, []),
  (20, .aaload, 1, 0, 0, 0, 0, []),
  (21, .iload_n 2, 1, 0, 0, 0, 0, []),
  (22, .iaload, 1, 0, 0, 0, 0, []),
  (23, .isub, 1, 0, 0, 0, 0, []),
  (24, .aload_n 0, 1, 0, 0, 0, 0, []),
  (25, .getfield 32, 3, 4, 7, 2, 0, []),
  (28, .iload_n 1, 1, 0, 0, 0, 0, []),
  (29, .aaload, 1, 0, 0, 0, 0, []),
  (30, .iload_n 3, 1, 0, 0, 0, 0, []),
  (31, .iaload, 1, 0, 0, 0, 0, []),
  (32, .isub, 1, 0, 0, 0, 0, []),
  (33, .ireturn, 1, 0, 0, 0, 0, [])]
/-- yX4_drawDecembers -/
def mt_63 : List am_row := [
  (0, .iload_n 1, 1, 0, 0, 0, 0, []),
  (1, .istore 4, 2, 0, 0, 0, 0, []),
  (3, .iconst 0, 1, 0, 0, 0, 0, []),
  (4, .istore 5, 2, 0, 0, 0, 0, []),
  (6, .iconst 0, 1, 0, 0, 0, 0, []),
  (7, .istore 6, 2, 0, 0, 0, 0, []),
  (9, .iload 6, 2, 0, 0, 0, 0, []),
  (11, .iload_n 2, 1, 0, 0, 0, 0, []),
  (12, .if_icmp .ge 45, 3, 29, 0, 0, 0, []),
  (15, .aload_n 0, 1, 0, 0, 0, 0, []),
  (16, .iload 4, 2, 0, 0, 0, 0, []),
  (18, .invokevirtual 166, 3, 64, 2, 1, 0, []),
  (21, .istore 4, 2, 0, 0, 0, 0, []),
  (23, .iload_n 3, 1, 0, 0, 0, 0, []),
  (24, .iconst (-1), 1, 0, 0, 0, -1, []),
  (25, .if_icmp .ne 15, 3, 22, 0, 0, 0, []),
  (28, .iload 5, 2, 0, 0, 0, 0, []),
  (30, .aload_n 0, 1, 0, 0, 0, 0, []),
  (31, .invokevirtual 169, 3, 41, 1, 1, 0, []),
  (34, .iadd, 1, 0, 0, 0, 0, []),
  (35, .istore 5, 2, 0, 0, 0, 0, []),
  (37, .goto 14, 3, 27, 0, 0, 0, []),
  (40, .aload_n 0, 1, 0, 0, 0, 0, []),
  (41, .iload_n 3, 1, 0, 0, 0, 0, []),
  (42, .invokevirtual 172, 3, 65, 2, 1, 0, []),
  (45, .ifCond .eq 6, 3, 27, 0, 0, 0, []),
  (48, .iinc 5 1, 3, 0, 0, 0, 1, []),
  (51, .iinc 6 1, 3, 0, 0, 0, 1, []),
  (54, .goto (-45), 3, 6, 0, 0, 0, []),
  (57, .iload 5, 2, 0, 0, 0, 0, []),
  (59, .ireturn, 1, 0, 0, 0, 0, [])]
/-- yX4_drawOne -/
def mt_64 : List am_row := [
  (0, .aload_n 0, 1, 0, 0, 0, 0, []),
  (1, .getfield 41, 3, 4, 10, 2, 0, []),
  (4, .iconst 0, 1, 0, 0, 0, 0, []),
  (5, .invokestatic 85, 3, 275, 2, 0, 0, []),
  (8, .iload_n 1, 1, 0, 0, 0, 0, []),
  (9, .istore_n 2, 1, 0, 0, 0, 0, []),
  (10, .iconst 0, 1, 0, 0, 0, 0, []),
  (11, .istore_n 3, 1, 0, 0, 0, 0, []),
  (12, .iload_n 3, 1, 0, 0, 0, 0, []),
  (13, .aload_n 0, 1, 0, 0, 0, 0, []),
  (14, .getfield 47, 3, 4, 0, 2, 0, []),
  (17, .getfield 70, 3, 0, 1, 0, 0, []),
  (20, .if_icmp .ge 66, 3, 49, 0, 0, 0, []),
  (23, .aload_n 0, 1, 0, 0, 0, 0, []),
  (24, .getfield 47, 3, 4, 0, 2, 0, []),
  (27, .getfield 67, 3, 0, 2, 0, 0, []),
  (30, .ifCond .le 56, 3, 49, 0, 0, 0, []),
  (33, .iload_n 2, 1, 0, 0, 0, 0, []),
  (34, .ldc 175, 2, 0, 0, 0, 1103515245, []),
  (36, .imul, 1, 0, 0, 0, 0, []),
  (37, .sipush 12345, 3, 0, 0, 0, 12345, []),
  (40, .iadd, 1, 0, 0, 0, 0, []),
  (41, .istore_n 2, 1, 0, 0, 0, 0, []),
  (42, .iload_n 2, 1, 0, 0, 0, 0, []),
  (43, .bipush 8, 2, 0, 0, 0, 8, []),
  (45, .iushr, 1, 0, 0, 0, 0, []),
  (46, .aload_n 0, 1, 0, 0, 0, 0, []),
  (47, .getfield 47, 3, 4, 0, 2, 0, []),
  (50, .getfield 67, 3, 0, 2, 0, 0, []),
  (53, .irem, 1, 0, 0, 0, 0, []),
  (54, .istore 4, 2, 0, 0, 0, 0, []),
  (56, .aload_n 0, 1, 0, 0, 0, 0, []),
  (57, .getfield 41, 3, 4, 10, 2, 0, []),
  (60, .iload 4, 2, 0, 0, 0, 0, []),
  (62, .dup2, 1, 0, 0, 0, 0, []),
  (63, .iaload, 1, 0, 0, 0, 0, []),
  (64, .aload_n 0, 1, 0, 0, 0, 0, []),
  (65, .getfield 26, 3, 4, 5, 2, 0, []),
  (68, .iload 4, 2, 0, 0, 0, 0, []),
  (70, .aaload, 1, 0, 0, 0, 0, []),
  (71, .aload_n 0, 1, 0, 0, 0, 0, []),
  (72, .getfield 17, 3, 4, 3, 2, 0, []),
  (75, .iload_n 3, 1, 0, 0, 0, 0, []),
  (76, .iaload, 1, 0, 0, 0, 0, []),
  (77, .iaload, 1, 0, 0, 0, 0, []),
  (78, .iadd, 1, 0, 0, 0, 0, []),
  (79, .iastore, 1, 0, 0, 0, 0, []),
  (80, .iinc 3 1, 3, 0, 0, 0, 1, []),
  (83, .goto (-71), 3, 8, 0, 0, 0, []),
  (86, .iload_n 2, 1, 0, 0, 0, 0, []),
  (87, .ireturn, 1, 0, 0, 0, 0, [])]
/-- yX4_hasMost -/
def mt_65 : List am_row := [
  (0, .iconst 0, 1, 0, 0, 0, 0, []),
  (1, .istore_n 2, 1, 0, 0, 0, 0, []),
  (2, .iload_n 2, 1, 0, 0, 0, 0, []),
  (3, .aload_n 0, 1, 0, 0, 0, 0, []),
  (4, .getfield 47, 3, 4, 0, 2, 0, []),
  (7, .getfield 67, 3, 0, 2, 0, 0, []),
  (10, .if_icmp .ge 31, 3, 23, 0, 0, 0, []),
  (13, .iload_n 2, 1, 0, 0, 0, 0, []),
  (14, .iload_n 1, 1, 0, 0, 0, 0, []),
  (15, .if_icmp .eq 20, 3, 21, 0, 0, 0, []),
  (18, .aload_n 0, 1, 0, 0, 0, 0, []),
  (19, .getfield 41, 3, 4, 10, 2, 0, []),
  (22, .iload_n 2, 1, 0, 0, 0, 0, []),
  (23, .iaload, 1, 0, 0, 0, 0, []),
  (24, .aload_n 0, 1, 0, 0, 0, 0, []),
  (25, .getfield 41, 3, 4, 10, 2, 0, []),
  (28, .iload_n 1, 1, 0, 0, 0, 0, []),
  (29, .iaload, 1, 0, 0, 0, 0, []),
  (30, .if_icmp .lt 5, 3, 21, 0, 0, 0, []),
  (33, .iconst 0, 1, 0, 0, 0, 0, []),
  (34, .ireturn, 1, 1, 0, 0, 0, []),
  (35, .iinc 2 1, 3, 0, 0, 0, 1, []),
  (38, .goto (-36), 3, 2, 0, 0, 0, []),
  (41, .iconst 1, 1, 0, 0, 0, 1, []),
  (42, .ireturn, 1, 1, 0, 0, 0, [])]
/-- yX5_takeLetter -/
def mt_66 : List am_row := [
  (0, .aload_n 0, 1, 0, 0, 0, 0, []),
  (1, .getfield 22, 3, 5, 1, 0, 0, []),
  (4, .bipush 120, 2, 0, 0, 0, 120, []),
  (6, .if_icmp .lt 5, 3, 6, 0, 0, 0, []),
  (9, .iconst 0, 1, 0, 0, 0, 0, []),
  (10, .ireturn, 1, 1, 0, 0, 0, []),
  (11, .aload_n 0, 1, 0, 0, 0, 0, []),
  (12, .getfield 9, 3, 5, 0, 2, 0, []),
  (15, .aload_n 0, 1, 0, 0, 0, 0, []),
  (16, .getfield 22, 3, 5, 1, 0, 0, []),
  (19, .iload_n 1, 1, 0, 0, 0, 0, []),
  (20, .iastore, 1, 0, 0, 0, 0, []),
  (21, .aload_n 0, 1, 0, 0, 0, 0, []),
  (22, .dup, 1, 0, 0, 0, 0, []),
  (23, .getfield 22, 3, 5, 1, 0, 0, []),
  (26, .iconst 1, 1, 0, 0, 0, 1, []),
  (27, .iadd, 1, 0, 0, 0, 0, []),
  (28, .putfield 22, 3, 5, 1, 0, 0, []),
  (31, .iconst 1, 1, 0, 0, 0, 1, []),
  (32, .ireturn, 1, 1, 0, 0, 0, [])]
/-- yX5_becomeLaw -/
def mt_67 : List am_row := [
  (0, .aload_n 0, 1, 0, 0, 0, 0, []),
  (1, .iconst 0, 1, 0, 0, 0, 0, []),
  (2, .putfield 26, 3, 5, 2, 0, 0, []),
  (5, .aload_n 0, 1, 0, 0, 0, 0, []),
  (6, .iconst 0, 1, 0, 0, 0, 0, []),
  (7, .putfield 29, 3, 5, 4, 0, 0, []),
  (10, .aload_n 0, 1, 0, 0, 0, 0, []),
  (11, .invokevirtual 32, 3, 69, 1, 1, 0, []),
  (14, .istore_n 1, 1, 0, 0, 0, 0, []),
  (15, .aload_n 0, 1, 0, 0, 0, 0, []),
  (16, .iconst 0, 1, 0, 0, 0, 0, []),
  (17, .putfield 22, 3, 5, 1, 0, 0, []),
  (20, .iload_n 1, 1, 0, 0, 0, 0, []),
  (21, .ifCond .ne 11, 3, 19, 0, 0, 0, []),
  (24, .bipush (-100), 2, 0, 0, 0, -100, []),
  (26, .aload_n 0, 1, 0, 0, 0, 0, []),
  (27, .getfield 26, 3, 5, 2, 0, 0, []),
  (30, .isub, 1, 0, 0, 0, 0, []),
  (31, .ireturn, 1, 0, 0, 0, 0, []),
  (32, .aload_n 0, 1, 0, 0, 0, 0, []),
  (33, .getfield 13, 3, 5, 3, 2, 0, []),
  (36, .iconst 0, 1, 0, 0, 0, 0, []),
  (37, .aload_n 0, 1, 0, 0, 0, 0, []),
  (38, .getfield 16, 3, 5, 5, 2, 0, []),
  (41, .iconst 0, 1, 0, 0, 0, 0, []),
  (42, .aload_n 0, 1, 0, 0, 0, 0, []),
  (43, .getfield 29, 3, 5, 4, 0, 0, []),
  (46, .invokestatic 36, 3, 1002, 5, 0, 0, []),
  (49, .aload_n 0, 1, 0, 0, 0, 0, []),
  (50, .aload_n 0, 1, 0, 0, 0, 0, []),
  (51, .getfield 29, 3, 5, 4, 0, 0, []),
  (54, .putfield 42, 3, 5, 6, 0, 0, []),
  (57, .aload_n 0, 1, 0, 0, 0, 0, []),
  (58, .dup, 1, 0, 0, 0, 0, []),
  (59, .getfield 45, 3, 5, 7, 0, 0, []),
  (62, .iconst 1, 1, 0, 0, 0, 1, []),
  (63, .iadd, 1, 0, 0, 0, 0, []),
  (64, .putfield 45, 3, 5, 7, 0, 0, []),
  (67, .iconst 1, 1, 0, 0, 0, 1, []),
  (68, .ireturn, 1, 0, 0, 0, 0, [])]
/-- yX5_stands -/
def mt_68 : List am_row := [
  (0, .aload_n 0, 1, 0, 0, 0, 0, []),
  (1, .getfield 42, 3, 5, 6, 0, 0, []),
  (4, .ifCond .le 7, 3, 5, 0, 0, 0, []),
  (7, .iconst 1, 1, 0, 0, 0, 1, []),
  (8, .goto 4, 3, 6, 0, 0, 0, []),
  (11, .iconst 0, 1, 0, 0, 0, 0, []),
  (12, .ireturn, 1, 1, 0, 0, 0, [])]
/-- yX5_readLines -/
def mt_69 : List am_row := [
  (0, .iconst 0, 1, 0, 0, 0, 0, []),
  (1, .istore_n 1, 1, 0, 0, 0, 0, []),
  (2, .iload_n 1, 1, 0, 0, 0, 0, []),
  (3, .aload_n 0, 1, 0, 0, 0, 0, []),
  (4, .getfield 22, 3, 5, 1, 0, 0, []),
  (7, .if_icmp .gt 44, 3, 26, 0, 0, 0, []),
  (10, .aload_n 0, 1, 0, 0, 0, 0, []),
  (11, .invokevirtual 48, 3, 70, 1, 1, 0, []),
  (14, .ifCond .ne 5, 3, 11, 0, 0, 0, []),
  (17, .iconst 0, 1, 0, 0, 0, 0, []),
  (18, .ireturn, 1, 1, 0, 0, 0, []),
  (19, .aload_n 0, 1, 0, 0, 0, 0, []),
  (20, .ldc 51, 2, 123, 1, 0, 0, []),
  (22, .invokevirtual 53, 3, 76, 2, 1, 0, []),
  (25, .ifCond .ne 20, 3, 24, 0, 0, 0, []),
  (28, .aload_n 0, 1, 0, 0, 0, 0, []),
  (29, .getfield 26, 3, 5, 2, 0, 0, []),
  (32, .aload_n 0, 1, 0, 0, 0, 0, []),
  (33, .getfield 22, 3, 5, 1, 0, 0, []),
  (36, .if_icmp .ne 7, 3, 22, 0, 0, 0, []),
  (39, .iconst 1, 1, 0, 0, 0, 1, []),
  (40, .goto 4, 3, 23, 0, 0, 0, []),
  (43, .iconst 0, 1, 0, 0, 0, 0, []),
  (44, .ireturn, 1, 1, 0, 0, 0, []),
  (45, .iinc 1 1, 3, 0, 0, 0, 1, []),
  (48, .goto (-46), 3, 2, 0, 0, 0, []),
  (51, .iconst 0, 1, 0, 0, 0, 0, []),
  (52, .ireturn, 1, 1, 0, 0, 0, [])]
/-- yX5_readLine -/
def mt_70 : List am_row := [
  (0, .aload_n 0, 1, 0, 0, 0, 0, []),
  (1, .iconst 0, 1, 0, 0, 0, 0, []),
  (2, .iconst 0, 1, 0, 0, 0, 0, []),
  (3, .invokevirtual 57, 3, 71, 3, 1, 0, []),
  (6, .ifCond .ne 5, 3, 7, 0, 0, 0, []),
  (9, .iconst 0, 1, 0, 0, 0, 0, []),
  (10, .ireturn, 1, 1, 0, 0, 0, []),
  (11, .aload_n 0, 1, 0, 0, 0, 0, []),
  (12, .ldc 61, 2, 125, 1, 0, 0, []),
  (14, .invokevirtual 53, 3, 76, 2, 1, 0, []),
  (17, .ifCond .eq 20, 3, 21, 0, 0, 0, []),
  (20, .aload_n 0, 1, 0, 0, 0, 0, []),
  (21, .bipush (-63), 2, 0, 0, 0, -63, []),
  (23, .invokevirtual 63, 3, 77, 2, 0, 0, []),
  (26, .aload_n 0, 1, 0, 0, 0, 0, []),
  (27, .iconst 0, 1, 0, 0, 0, 0, []),
  (28, .iconst 0, 1, 0, 0, 0, 0, []),
  (29, .invokevirtual 57, 3, 71, 3, 1, 0, []),
  (32, .ifCond .ne 5, 3, 21, 0, 0, 0, []),
  (35, .iconst 0, 1, 0, 0, 0, 0, []),
  (36, .ireturn, 1, 1, 0, 0, 0, []),
  (37, .aload_n 0, 1, 0, 0, 0, 0, []),
  (38, .bipush (-59), 2, 0, 0, 0, -59, []),
  (40, .invokevirtual 63, 3, 77, 2, 0, 0, []),
  (43, .iconst 1, 1, 0, 0, 0, 1, []),
  (44, .ireturn, 1, 1, 0, 0, 0, [])]
/-- yX5_readLevel -/
def mt_71 : List am_row := [
  (0, .iload_n 1, 1, 0, 0, 0, 0, []),
  (1, .iconst 4, 1, 0, 0, 0, 4, []),
  (2, .if_icmp .le 9, 3, 7, 0, 0, 0, []),
  (5, .aload_n 0, 1, 0, 0, 0, 0, []),
  (6, .iload_n 2, 1, 0, 0, 0, 0, []),
  (7, .invokevirtual 67, 3, 73, 2, 1, 0, []),
  (10, .ireturn, 1, 1, 0, 0, 0, []),
  (11, .aload_n 0, 1, 0, 0, 0, 0, []),
  (12, .iload_n 1, 1, 0, 0, 0, 0, []),
  (13, .iconst 1, 1, 0, 0, 0, 1, []),
  (14, .iadd, 1, 0, 0, 0, 0, []),
  (15, .iload_n 2, 1, 0, 0, 0, 0, []),
  (16, .invokevirtual 57, 3, 71, 3, 1, 0, []),
  (19, .istore_n 3, 1, 0, 0, 0, 0, []),
  (20, .iload_n 1, 1, 0, 0, 0, 0, []),
  (21, .iconst 2, 1, 0, 0, 0, 2, []),
  (22, .if_icmp .ne 7, 3, 19, 0, 0, 0, []),
  (25, .iconst 1, 1, 0, 0, 0, 1, []),
  (26, .goto 7, 3, 21, 0, 0, 0, []),
  (29, .aload_n 0, 1, 0, 0, 0, 0, []),
  (30, .getfield 22, 3, 5, 1, 0, 0, []),
  (33, .istore 4, 2, 0, 0, 0, 0, []),
  (35, .iconst 0, 1, 0, 0, 0, 0, []),
  (36, .istore 5, 2, 0, 0, 0, 0, []),
  (38, .iload 5, 2, 0, 0, 0, 0, []),
  (40, .iload 4, 2, 0, 0, 0, 0, []),
  (42, .if_icmp .ge 46, 3, 51, 0, 0, 0, []),
  (45, .iload_n 3, 1, 0, 0, 0, 0, []),
  (46, .ifCond .eq 42, 3, 51, 0, 0, 0, []),
  (49, .aload_n 0, 1, 0, 0, 0, 0, []),
  (50, .iload_n 1, 1, 0, 0, 0, 0, []),
  (51, .invokestatic 71, 3, 72, 1, 3, 0, []),
  (54, .invokevirtual 53, 3, 76, 2, 1, 0, []),
  (57, .istore 6, 2, 0, 0, 0, 0, []),
  (59, .iload 6, 2, 0, 0, 0, 0, []),
  (61, .ifCond .ne 5, 3, 38, 0, 0, 0, []),
  (64, .iconst 1, 1, 0, 0, 0, 1, []),
  (65, .ireturn, 1, 1, 0, 0, 0, []),
  (66, .aload_n 0, 1, 0, 0, 0, 0, []),
  (67, .iload_n 1, 1, 0, 0, 0, 0, []),
  (68, .iconst 1, 1, 0, 0, 0, 1, []),
  (69, .iadd, 1, 0, 0, 0, 0, []),
  (70, .iload_n 2, 1, 0, 0, 0, 0, []),
  (71, .invokevirtual 57, 3, 71, 3, 1, 0, []),
  (74, .istore_n 3, 1, 0, 0, 0, 0, []),
  (75, .aload_n 0, 1, 0, 0, 0, 0, []),
  (76, .iload 6, 2, 0, 0, 0, 0, []),
  (78, .ineg, 1, 0, 0, 0, 0, []),
  (79, .invokevirtual 63, 3, 77, 2, 0, 0, []),
  (82, .iinc 5 1, 3, 0, 0, 0, 1, []),
  (85, .goto (-47), 3, 24, 0, 0, 0, []),
  (88, .iload_n 3, 1, 0, 0, 0, 0, []),
  (89, .ireturn, 1, 1, 0, 0, 0, [])]
/-- yX5_signsOf -/
def mt_72 : List am_row := [
  (0, .iload_n 0, 1, 0, 0, 0, 0, []),
  (1, .tableswitch 43 0 3 #[31, 34, 37, 40], 31, 10, 0, 0, 0, [(0, 2), (1, 4), (2, 6), (3, 8)]),
  (32, .ldc 75, 2, 127, 1, 0, 0, []),
  (34, .areturn, 1, 0, 0, 0, 0, []),
  (35, .ldc 77, 2, 118, 1, 0, 0, []),
  (37, .areturn, 1, 0, 0, 0, 0, []),
  (38, .ldc 79, 2, 124, 1, 0, 0, []),
  (40, .areturn, 1, 0, 0, 0, 0, []),
  (41, .ldc 81, 2, 122, 1, 0, 0, []),
  (43, .areturn, 1, 0, 0, 0, 0, []),
  (44, .ldc 83, 2, 121, 1, 0, 0, []),
  (46, .areturn, 1, 0, 0, 0, 0, [])]
/-- yX5_readOperand -/
def mt_73 : List am_row := [
  (0, .aload_n 0, 1, 0, 0, 0, 0, []),
  (1, .ldc 85, 2, 126, 1, 0, 0, []),
  (3, .invokevirtual 53, 3, 76, 2, 1, 0, []),
  (6, .istore_n 2, 1, 0, 0, 0, 0, []),
  (7, .iload_n 2, 1, 0, 0, 0, 0, []),
  (8, .ifCond .eq 11, 3, 12, 0, 0, 0, []),
  (11, .aload_n 0, 1, 0, 0, 0, 0, []),
  (12, .iload_n 2, 1, 0, 0, 0, 0, []),
  (13, .ineg, 1, 0, 0, 0, 0, []),
  (14, .invokevirtual 63, 3, 77, 2, 0, 0, []),
  (17, .iconst 1, 1, 0, 0, 0, 1, []),
  (18, .ireturn, 1, 1, 0, 0, 0, []),
  (19, .aload_n 0, 1, 0, 0, 0, 0, []),
  (20, .invokevirtual 87, 3, 75, 1, 1, 0, []),
  (23, .ifCond .eq 9, 3, 19, 0, 0, 0, []),
  (26, .aload_n 0, 1, 0, 0, 0, 0, []),
  (27, .invokevirtual 90, 3, 74, 1, 0, 0, []),
  (30, .iconst 1, 1, 0, 0, 0, 1, []),
  (31, .ireturn, 1, 1, 0, 0, 0, []),
  (32, .iload_n 1, 1, 0, 0, 0, 0, []),
  (33, .bipush 6, 2, 0, 0, 0, 6, []),
  (35, .if_icmp .ge 12, 3, 26, 0, 0, 0, []),
  (38, .aload_n 0, 1, 0, 0, 0, 0, []),
  (39, .ldc 93, 2, 119, 1, 0, 0, []),
  (41, .invokevirtual 53, 3, 76, 2, 1, 0, []),
  (44, .goto 4, 3, 27, 0, 0, 0, []),
  (47, .iconst 0, 1, 0, 0, 0, 0, []),
  (48, .istore_n 3, 1, 0, 0, 0, 0, []),
  (49, .iload_n 3, 1, 0, 0, 0, 0, []),
  (50, .ifCond .ne 5, 3, 32, 0, 0, 0, []),
  (53, .iconst 0, 1, 0, 0, 0, 0, []),
  (54, .ireturn, 1, 1, 0, 0, 0, []),
  (55, .iload_n 3, 1, 0, 0, 0, 0, []),
  (56, .bipush 40, 2, 0, 0, 0, 40, []),
  (58, .if_icmp .ne 29, 3, 50, 0, 0, 0, []),
  (61, .aload_n 0, 1, 0, 0, 0, 0, []),
  (62, .iconst 0, 1, 0, 0, 0, 0, []),
  (63, .iload_n 1, 1, 0, 0, 0, 0, []),
  (64, .iconst 1, 1, 0, 0, 0, 1, []),
  (65, .iadd, 1, 0, 0, 0, 0, []),
  (66, .invokevirtual 57, 3, 71, 3, 1, 0, []),
  (69, .ifCond .eq 16, 3, 48, 0, 0, 0, []),
  (72, .aload_n 0, 1, 0, 0, 0, 0, []),
  (73, .ldc 95, 2, 120, 1, 0, 0, []),
  (75, .invokevirtual 53, 3, 76, 2, 1, 0, []),
  (78, .ifCond .eq 7, 3, 48, 0, 0, 0, []),
  (81, .iconst 1, 1, 0, 0, 0, 1, []),
  (82, .goto 4, 3, 49, 0, 0, 0, []),
  (85, .iconst 0, 1, 0, 0, 0, 0, []),
  (86, .ireturn, 1, 1, 0, 0, 0, []),
  (87, .aload_n 0, 1, 0, 0, 0, 0, []),
  (88, .iload_n 1, 1, 0, 0, 0, 0, []),
  (89, .iconst 1, 1, 0, 0, 0, 1, []),
  (90, .iadd, 1, 0, 0, 0, 0, []),
  (91, .invokevirtual 67, 3, 73, 2, 1, 0, []),
  (94, .istore 4, 2, 0, 0, 0, 0, []),
  (96, .aload_n 0, 1, 0, 0, 0, 0, []),
  (97, .iload_n 3, 1, 0, 0, 0, 0, []),
  (98, .bipush 33, 2, 0, 0, 0, 33, []),
  (100, .if_icmp .ne 8, 3, 62, 0, 0, 0, []),
  (103, .bipush (-33), 2, 0, 0, 0, -33, []),
  (105, .goto 5, 3, 63, 0, 0, 0, []),
  (108, .bipush (-126), 2, 0, 0, 0, -126, []),
  (110, .invokevirtual 63, 3, 77, 2, 0, 0, []),
  (113, .iload 4, 2, 0, 0, 0, 0, []),
  (115, .ireturn, 1, 1, 0, 0, 0, [])]
/-- yX5_readNumber -/
def mt_74 : List am_row := [
  (0, .iconst 0, 1, 0, 0, 0, 0, []),
  (1, .istore_n 1, 1, 0, 0, 0, 0, []),
  (2, .iconst 0, 1, 0, 0, 0, 0, []),
  (3, .istore_n 2, 1, 0, 0, 0, 0, []),
  (4, .iload_n 2, 1, 0, 0, 0, 0, []),
  (5, .iconst 4, 1, 0, 0, 0, 4, []),
  (6, .if_icmp .ge 44, 3, 30, 0, 0, 0, []),
  (9, .aload_n 0, 1, 0, 0, 0, 0, []),
  (10, .invokevirtual 87, 3, 75, 1, 1, 0, []),
  (13, .ifCond .eq 37, 3, 30, 0, 0, 0, []),
  (16, .iload_n 1, 1, 0, 0, 0, 0, []),
  (17, .bipush 10, 2, 0, 0, 0, 10, []),
  (19, .imul, 1, 0, 0, 0, 0, []),
  (20, .aload_n 0, 1, 0, 0, 0, 0, []),
  (21, .getfield 9, 3, 5, 0, 2, 0, []),
  (24, .aload_n 0, 1, 0, 0, 0, 0, []),
  (25, .getfield 26, 3, 5, 2, 0, 0, []),
  (28, .iaload, 1, 0, 0, 0, 0, []),
  (29, .iadd, 1, 0, 0, 0, 0, []),
  (30, .bipush 48, 2, 0, 0, 0, 48, []),
  (32, .isub, 1, 0, 0, 0, 0, []),
  (33, .istore_n 1, 1, 0, 0, 0, 0, []),
  (34, .aload_n 0, 1, 0, 0, 0, 0, []),
  (35, .dup, 1, 0, 0, 0, 0, []),
  (36, .getfield 26, 3, 5, 2, 0, 0, []),
  (39, .iconst 1, 1, 0, 0, 0, 1, []),
  (40, .iadd, 1, 0, 0, 0, 0, []),
  (41, .putfield 26, 3, 5, 2, 0, 0, []),
  (44, .iinc 2 1, 3, 0, 0, 0, 1, []),
  (47, .goto (-43), 3, 4, 0, 0, 0, []),
  (50, .aload_n 0, 1, 0, 0, 0, 0, []),
  (51, .iload_n 1, 1, 0, 0, 0, 0, []),
  (52, .invokevirtual 63, 3, 77, 2, 0, 0, []),
  (55, .return_, 1, 0, 0, 0, 0, [])]
/-- yX5_isDigitNext -/
def mt_75 : List am_row := [
  (0, .aload_n 0, 1, 0, 0, 0, 0, []),
  (1, .getfield 26, 3, 5, 2, 0, 0, []),
  (4, .aload_n 0, 1, 0, 0, 0, 0, []),
  (5, .getfield 22, 3, 5, 1, 0, 0, []),
  (8, .if_icmp .ge 35, 3, 21, 0, 0, 0, []),
  (11, .aload_n 0, 1, 0, 0, 0, 0, []),
  (12, .getfield 9, 3, 5, 0, 2, 0, []),
  (15, .aload_n 0, 1, 0, 0, 0, 0, []),
  (16, .getfield 26, 3, 5, 2, 0, 0, []),
  (19, .iaload, 1, 0, 0, 0, 0, []),
  (20, .bipush 48, 2, 0, 0, 0, 48, []),
  (22, .if_icmp .lt 21, 3, 21, 0, 0, 0, []),
  (25, .aload_n 0, 1, 0, 0, 0, 0, []),
  (26, .getfield 9, 3, 5, 0, 2, 0, []),
  (29, .aload_n 0, 1, 0, 0, 0, 0, []),
  (30, .getfield 26, 3, 5, 2, 0, 0, []),
  (33, .iaload, 1, 0, 0, 0, 0, []),
  (34, .bipush 57, 2, 0, 0, 0, 57, []),
  (36, .if_icmp .gt 7, 3, 21, 0, 0, 0, []),
  (39, .iconst 1, 1, 0, 0, 0, 1, []),
  (40, .goto 4, 3, 22, 0, 0, 0, []),
  (43, .iconst 0, 1, 0, 0, 0, 0, []),
  (44, .ireturn, 1, 1, 0, 0, 0, [])]
/-- yX5_pass -/
def mt_76 : List am_row := [
  (0, .aload_n 0, 1, 0, 0, 0, 0, []),
  (1, .getfield 26, 3, 5, 2, 0, 0, []),
  (4, .aload_n 0, 1, 0, 0, 0, 0, []),
  (5, .getfield 22, 3, 5, 1, 0, 0, []),
  (8, .if_icmp .ge 20, 3, 14, 0, 0, 0, []),
  (11, .aload_n 1, 1, 0, 0, 0, 0, []),
  (12, .aload_n 0, 1, 0, 0, 0, 0, []),
  (13, .getfield 9, 3, 5, 0, 2, 0, []),
  (16, .aload_n 0, 1, 0, 0, 0, 0, []),
  (17, .getfield 26, 3, 5, 2, 0, 0, []),
  (20, .iaload, 1, 0, 0, 0, 0, []),
  (21, .i2c, 1, 0, 0, 0, 0, []),
  (22, .invokevirtual 97, 3, 277, 2, 1, 0, []),
  (25, .ifCond .ge 5, 3, 16, 0, 0, 0, []),
  (28, .iconst 0, 1, 0, 0, 0, 0, []),
  (29, .ireturn, 1, 0, 0, 0, 0, []),
  (30, .aload_n 0, 1, 0, 0, 0, 0, []),
  (31, .dup, 1, 0, 0, 0, 0, []),
  (32, .getfield 26, 3, 5, 2, 0, 0, []),
  (35, .iconst 1, 1, 0, 0, 0, 1, []),
  (36, .iadd, 1, 0, 0, 0, 0, []),
  (37, .putfield 26, 3, 5, 2, 0, 0, []),
  (40, .aload_n 0, 1, 0, 0, 0, 0, []),
  (41, .getfield 9, 3, 5, 0, 2, 0, []),
  (44, .aload_n 0, 1, 0, 0, 0, 0, []),
  (45, .getfield 26, 3, 5, 2, 0, 0, []),
  (48, .iconst 1, 1, 0, 0, 0, 1, []),
  (49, .isub, 1, 0, 0, 0, 0, []),
  (50, .iaload, 1, 0, 0, 0, 0, []),
  (51, .ireturn, 1, 0, 0, 0, 0, [])]
/-- yX5_draftStep -/
def mt_77 : List am_row := [
  (0, .aload_n 0, 1, 0, 0, 0, 0, []),
  (1, .getfield 29, 3, 5, 4, 0, 0, []),
  (4, .aload_n 0, 1, 0, 0, 0, 0, []),
  (5, .getfield 13, 3, 5, 3, 2, 0, []),
  (8, .arraylength, 1, 0, 0, 0, 0, []),
  (9, .if_icmp .ge 23, 3, 18, 0, 0, 0, []),
  (12, .aload_n 0, 1, 0, 0, 0, 0, []),
  (13, .getfield 13, 3, 5, 3, 2, 0, []),
  (16, .aload_n 0, 1, 0, 0, 0, 0, []),
  (17, .getfield 29, 3, 5, 4, 0, 0, []),
  (20, .iload_n 1, 1, 0, 0, 0, 0, []),
  (21, .iastore, 1, 0, 0, 0, 0, []),
  (22, .aload_n 0, 1, 0, 0, 0, 0, []),
  (23, .dup, 1, 0, 0, 0, 0, []),
  (24, .getfield 29, 3, 5, 4, 0, 0, []),
  (27, .iconst 1, 1, 0, 0, 0, 1, []),
  (28, .iadd, 1, 0, 0, 0, 0, []),
  (29, .putfield 29, 3, 5, 4, 0, 0, []),
  (32, .return_, 1, 0, 0, 0, 0, [])]
/-- yX5_workOut -/
def mt_78 : List am_row := [
  (0, .aload_n 0, 1, 0, 0, 0, 0, []),
  (1, .iconst 0, 1, 0, 0, 0, 0, []),
  (2, .putfield 103, 3, 5, 9, 0, 0, []),
  (5, .iconst 0, 1, 0, 0, 0, 0, []),
  (6, .istore_n 2, 1, 0, 0, 0, 0, []),
  (7, .iconst 0, 1, 0, 0, 0, 0, []),
  (8, .istore_n 3, 1, 0, 0, 0, 0, []),
  (9, .iload_n 3, 1, 0, 0, 0, 0, []),
  (10, .aload_n 0, 1, 0, 0, 0, 0, []),
  (11, .getfield 42, 3, 5, 6, 0, 0, []),
  (14, .if_icmp .ge 72, 3, 46, 0, 0, 0, []),
  (17, .aload_n 0, 1, 0, 0, 0, 0, []),
  (18, .getfield 16, 3, 5, 5, 2, 0, []),
  (21, .iload_n 3, 1, 0, 0, 0, 0, []),
  (22, .iaload, 1, 0, 0, 0, 0, []),
  (23, .istore 4, 2, 0, 0, 0, 0, []),
  (25, .iload 4, 2, 0, 0, 0, 0, []),
  (27, .bipush (-59), 2, 0, 0, 0, -59, []),
  (29, .if_icmp .ne 17, 3, 27, 0, 0, 0, []),
  (32, .iload_n 2, 1, 0, 0, 0, 0, []),
  (33, .ifCond .ne 8, 3, 24, 0, 0, 0, []),
  (36, .aload_n 0, 1, 0, 0, 0, 0, []),
  (37, .invokevirtual 106, 3, 82, 1, 1, 0, []),
  (40, .ireturn, 1, 0, 0, 0, 0, []),
  (41, .iconst 0, 1, 0, 0, 0, 0, []),
  (42, .istore_n 2, 1, 0, 0, 0, 0, []),
  (43, .goto 37, 3, 44, 0, 0, 0, []),
  (46, .iload 4, 2, 0, 0, 0, 0, []),
  (48, .bipush (-63), 2, 0, 0, 0, -63, []),
  (50, .if_icmp .ne 19, 3, 38, 0, 0, 0, []),
  (53, .aload_n 0, 1, 0, 0, 0, 0, []),
  (54, .invokevirtual 106, 3, 82, 1, 1, 0, []),
  (57, .ifCond .ne 7, 3, 35, 0, 0, 0, []),
  (60, .iconst 1, 1, 0, 0, 0, 1, []),
  (61, .goto 4, 3, 36, 0, 0, 0, []),
  (64, .iconst 0, 1, 0, 0, 0, 0, []),
  (65, .istore_n 2, 1, 0, 0, 0, 0, []),
  (66, .goto 14, 3, 44, 0, 0, 0, []),
  (69, .iload_n 2, 1, 0, 0, 0, 0, []),
  (70, .ifCond .ne 10, 3, 44, 0, 0, 0, []),
  (73, .aload_n 0, 1, 0, 0, 0, 0, []),
  (74, .iload 4, 2, 0, 0, 0, 0, []),
  (76, .aload_n 1, 1, 0, 0, 0, 0, []),
  (77, .invokevirtual 110, 3, 79, 3, 0, 0, []),
  (80, .iinc 3 1, 3, 0, 0, 0, 1, []),
  (83, .goto (-74), 3, 7, 0, 0, 0, []),
  (86, .iconst 0, 1, 0, 0, 0, 0, []),
  (87, .ireturn, 1, 0, 0, 0, 0, [])]
/-- yX5_takeStep -/
def mt_79 : List am_row := [
  (0, .iload_n 1, 1, 0, 0, 0, 0, []),
  (1, .ifCond .lt 9, 3, 6, 0, 0, 0, []),
  (4, .aload_n 0, 1, 0, 0, 0, 0, []),
  (5, .iload_n 1, 1, 0, 0, 0, 0, []),
  (6, .invokevirtual 114, 3, 81, 2, 0, 0, []),
  (9, .return_, 1, 0, 0, 0, 0, []),
  (10, .ldc 85, 2, 126, 1, 0, 0, []),
  (12, .iload_n 1, 1, 0, 0, 0, 0, []),
  (13, .ineg, 1, 0, 0, 0, 0, []),
  (14, .i2c, 1, 0, 0, 0, 0, []),
  (15, .invokevirtual 97, 3, 277, 2, 1, 0, []),
  (18, .istore_n 3, 1, 0, 0, 0, 0, []),
  (19, .iload_n 3, 1, 0, 0, 0, 0, []),
  (20, .ifCond .lt 17, 3, 24, 0, 0, 0, []),
  (23, .iload_n 3, 1, 0, 0, 0, 0, []),
  (24, .aload_n 2, 1, 0, 0, 0, 0, []),
  (25, .arraylength, 1, 0, 0, 0, 0, []),
  (26, .if_icmp .ge 11, 3, 24, 0, 0, 0, []),
  (29, .aload_n 0, 1, 0, 0, 0, 0, []),
  (30, .aload_n 2, 1, 0, 0, 0, 0, []),
  (31, .iload_n 3, 1, 0, 0, 0, 0, []),
  (32, .iaload, 1, 0, 0, 0, 0, []),
  (33, .invokevirtual 114, 3, 81, 2, 0, 0, []),
  (36, .return_, 1, 0, 0, 0, 0, []),
  (37, .aload_n 0, 1, 0, 0, 0, 0, []),
  (38, .invokevirtual 106, 3, 82, 1, 1, 0, []),
  (41, .istore 4, 2, 0, 0, 0, 0, []),
  (43, .iload_n 1, 1, 0, 0, 0, 0, []),
  (44, .bipush (-126), 2, 0, 0, 0, -126, []),
  (46, .if_icmp .ne 13, 3, 35, 0, 0, 0, []),
  (49, .aload_n 0, 1, 0, 0, 0, 0, []),
  (50, .iload 4, 2, 0, 0, 0, 0, []),
  (52, .ineg, 1, 0, 0, 0, 0, []),
  (53, .invokevirtual 114, 3, 81, 2, 0, 0, []),
  (56, .goto 41, 3, 54, 0, 0, 0, []),
  (59, .iload_n 1, 1, 0, 0, 0, 0, []),
  (60, .bipush (-33), 2, 0, 0, 0, -33, []),
  (62, .if_icmp .ne 20, 3, 46, 0, 0, 0, []),
  (65, .aload_n 0, 1, 0, 0, 0, 0, []),
  (66, .iload 4, 2, 0, 0, 0, 0, []),
  (68, .ifCond .ne 7, 3, 43, 0, 0, 0, []),
  (71, .iconst 1, 1, 0, 0, 0, 1, []),
  (72, .goto 4, 3, 44, 0, 0, 0, []),
  (75, .iconst 0, 1, 0, 0, 0, 0, []),
  (76, .invokevirtual 114, 3, 81, 2, 0, 0, []),
  (79, .goto 18, 3, 54, 0, 0, 0, []),
  (82, .aload_n 0, 1, 0, 0, 0, 0, []),
  (83, .iload_n 1, 1, 0, 0, 0, 0, []),
  (84, .ineg, 1, 0, 0, 0, 0, []),
  (85, .aload_n 0, 1, 0, 0, 0, 0, []),
  (86, .invokevirtual 106, 3, 82, 1, 1, 0, []),
  (89, .iload 4, 2, 0, 0, 0, 0, []),
  (91, .invokestatic 117, 3, 80, 3, 1, 0, []),
  (94, .invokevirtual 114, 3, 81, 2, 0, 0, []),
  (97, .return_, 1, 0, 0, 0, 0, [])]
/-- yX5_joined -/
def mt_80 : List am_row := [
  (0, .iload_n 0, 1, 0, 0, 0, 0, []),
  (1, .tableswitch 202 37 62 #[143, 188, 202, 202, 202, 127, 119, 202, 123, 202, 131, 202, 202, 202, 202, 202, 202, 202, 202, 202, 202, 202, 202, 155, 166, 177], 119, 59, 0, 0, 0, [(37, 22), (38, 51), (39, 59), (40, 59), (41, 59), (42, 10), (43, 2), (44, 59), (45, 6), (46, 59), (47, 14), (48, 59), (49, 59), (50, 59), (51, 59), (52, 59), (53, 59), (54, 59), (55, 59), (56, 59), (57, 59), (58, 59), (59, 59), (60, 30), (61, 37), (62, 44)]),
  (120, .iload_n 1, 1, 0, 0, 0, 0, []),
  (121, .iload_n 2, 1, 0, 0, 0, 0, []),
  (122, .iadd, 1, 0, 0, 0, 0, []),
  (123, .ireturn, 1, 0, 0, 0, 0, []),
  (124, .iload_n 1, 1, 0, 0, 0, 0, []),
  (125, .iload_n 2, 1, 0, 0, 0, 0, []),
  (126, .isub, 1, 0, 0, 0, 0, []),
  (127, .ireturn, 1, 0, 0, 0, 0, []),
  (128, .iload_n 1, 1, 0, 0, 0, 0, []),
  (129, .iload_n 2, 1, 0, 0, 0, 0, []),
  (130, .imul, 1, 0, 0, 0, 0, []),
  (131, .ireturn, 1, 0, 0, 0, 0, []),
  (132, .iload_n 2, 1, 0, 0, 0, 0, []),
  (133, .ifCond .ne 7, 3, 18, 0, 0, 0, []),
  (136, .iconst 0, 1, 0, 0, 0, 0, []),
  (137, .goto 6, 3, 21, 0, 0, 0, []),
  (140, .iload_n 1, 1, 0, 0, 0, 0, []),
  (141, .iload_n 2, 1, 0, 0, 0, 0, []),
  (142, .idiv, 1, 0, 0, 0, 0, []),
  (143, .ireturn, 1, 0, 0, 0, 0, []),
  (144, .iload_n 2, 1, 0, 0, 0, 0, []),
  (145, .ifCond .ne 7, 3, 26, 0, 0, 0, []),
  (148, .iconst 0, 1, 0, 0, 0, 0, []),
  (149, .goto 6, 3, 29, 0, 0, 0, []),
  (152, .iload_n 1, 1, 0, 0, 0, 0, []),
  (153, .iload_n 2, 1, 0, 0, 0, 0, []),
  (154, .irem, 1, 0, 0, 0, 0, []),
  (155, .ireturn, 1, 0, 0, 0, 0, []),
  (156, .iload_n 1, 1, 0, 0, 0, 0, []),
  (157, .iload_n 2, 1, 0, 0, 0, 0, []),
  (158, .if_icmp .ge 7, 3, 35, 0, 0, 0, []),
  (161, .iconst 1, 1, 0, 0, 0, 1, []),
  (162, .goto 4, 3, 36, 0, 0, 0, []),
  (165, .iconst 0, 1, 0, 0, 0, 0, []),
  (166, .ireturn, 1, 0, 0, 0, 0, []),
  (167, .iload_n 1, 1, 0, 0, 0, 0, []),
  (168, .iload_n 2, 1, 0, 0, 0, 0, []),
  (169, .if_icmp .ne 7, 3, 42, 0, 0, 0, []),
  (172, .iconst 1, 1, 0, 0, 0, 1, []),
  (173, .goto 4, 3, 43, 0, 0, 0, []),
  (176, .iconst 0, 1, 0, 0, 0, 0, []),
  (177, .ireturn, 1, 0, 0, 0, 0, []),
  (178, .iload_n 1, 1, 0, 0, 0, 0, []),
  (179, .iload_n 2, 1, 0, 0, 0, 0, []),
  (180, .if_icmp .le 7, 3, 49, 0, 0, 0, []),
  (183, .iconst 1, 1, 0, 0, 0, 1, []),
  (184, .goto 4, 3, 50, 0, 0, 0, []),
  (187, .iconst 0, 1, 0, 0, 0, 0, []),
  (188, .ireturn, 1, 0, 0, 0, 0, []),
  (189, .iload_n 1, 1, 0, 0, 0, 0, []),
  (190, .ifCond .eq 11, 3, 57, 0, 0, 0, []),
  (193, .iload_n 2, 1, 0, 0, 0, 0, []),
  (194, .ifCond .eq 7, 3, 57, 0, 0, 0, []),
  (197, .iconst 1, 1, 0, 0, 0, 1, []),
  (198, .goto 4, 3, 58, 0, 0, 0, []),
  (201, .iconst 0, 1, 0, 0, 0, 0, []),
  (202, .ireturn, 1, 0, 0, 0, 0, []),
  (203, .iload_n 1, 1, 0, 0, 0, 0, []),
  (204, .ifCond .ne 7, 3, 63, 0, 0, 0, []),
  (207, .iload_n 2, 1, 0, 0, 0, 0, []),
  (208, .ifCond .eq 7, 3, 65, 0, 0, 0, []),
  (211, .iconst 1, 1, 0, 0, 0, 1, []),
  (212, .goto 4, 3, 66, 0, 0, 0, []),
  (215, .iconst 0, 1, 0, 0, 0, 0, []),
  (216, .ireturn, 1, 0, 0, 0, 0, [])]
/-- yX5_push -/
def mt_81 : List am_row := [
  (0, .aload_n 0, 1, 0, 0, 0, 0, []),
  (1, .getfield 103, 3, 5, 9, 0, 0, []),
  (4, .aload_n 0, 1, 0, 0, 0, 0, []),
  (5, .getfield 19, 3, 5, 8, 2, 0, []),
  (8, .arraylength, 1, 0, 0, 0, 0, []),
  (9, .if_icmp .ge 23, 3, 18, 0, 0, 0, []),
  (12, .aload_n 0, 1, 0, 0, 0, 0, []),
  (13, .getfield 19, 3, 5, 8, 2, 0, []),
  (16, .aload_n 0, 1, 0, 0, 0, 0, []),
  (17, .getfield 103, 3, 5, 9, 0, 0, []),
  (20, .iload_n 1, 1, 0, 0, 0, 0, []),
  (21, .iastore, 1, 0, 0, 0, 0, []),
  (22, .aload_n 0, 1, 0, 0, 0, 0, []),
  (23, .dup, 1, 0, 0, 0, 0, []),
  (24, .getfield 103, 3, 5, 9, 0, 0, []),
  (27, .iconst 1, 1, 0, 0, 0, 1, []),
  (28, .iadd, 1, 0, 0, 0, 0, []),
  (29, .putfield 103, 3, 5, 9, 0, 0, []),
  (32, .return_, 1, 0, 0, 0, 0, [])]
/-- yX5_pop -/
def mt_82 : List am_row := [
  (0, .aload_n 0, 1, 0, 0, 0, 0, []),
  (1, .getfield 103, 3, 5, 9, 0, 0, []),
  (4, .ifCond .gt 5, 3, 5, 0, 0, 0, []),
  (7, .iconst 0, 1, 0, 0, 0, 0, []),
  (8, .ireturn, 1, 0, 0, 0, 0, []),
  (9, .aload_n 0, 1, 0, 0, 0, 0, []),
  (10, .dup, 1, 0, 0, 0, 0, []),
  (11, .getfield 103, 3, 5, 9, 0, 0, []),
  (14, .iconst 1, 1, 0, 0, 0, 1, []),
  (15, .isub, 1, 0, 0, 0, 0, []),
  (16, .putfield 103, 3, 5, 9, 0, 0, []),
  (19, .aload_n 0, 1, 0, 0, 0, 0, []),
  (20, .getfield 19, 3, 5, 8, 2, 0, []),
  (23, .aload_n 0, 1, 0, 0, 0, 0, []),
  (24, .getfield 103, 3, 5, 9, 0, 0, []),
  (27, .iaload, 1, 0, 0, 0, 0, []),
  (28, .ireturn, 1, 0, 0, 0, 0, [])]
/-- yX6_isKind -/
def mt_83 : List am_row := [
  (0, .iload_n 1, 1, 0, 0, 0, 0, []),
  (1, .ifCond .lt 15, 3, 8, 0, 0, 0, []),
  (4, .iload_n 1, 1, 0, 0, 0, 0, []),
  (5, .getstatic 16, 3, 116, 0, 0, 0, []),
  (8, .arraylength, 1, 0, 0, 0, 0, []),
  (9, .if_icmp .ge 7, 3, 8, 0, 0, 0, []),
  (12, .iconst 1, 1, 0, 0, 0, 1, []),
  (13, .goto 4, 3, 9, 0, 0, 0, []),
  (16, .iconst 0, 1, 0, 0, 0, 0, []),
  (17, .ireturn, 1, 1, 0, 0, 0, [])]
/-- yX6_hasBody -/
def mt_84 : List am_row := [
  (0, .iload_n 1, 1, 0, 0, 0, 0, []),
  (1, .ifCond .lt 15, 3, 8, 0, 0, 0, []),
  (4, .iload_n 1, 1, 0, 0, 0, 0, []),
  (5, .aload_n 0, 1, 0, 0, 0, 0, []),
  (6, .getfield 19, 3, 6, 1, 0, 0, []),
  (9, .if_icmp .ge 7, 3, 8, 0, 0, 0, []),
  (12, .iconst 1, 1, 0, 0, 0, 1, []),
  (13, .goto 4, 3, 9, 0, 0, 0, []),
  (16, .iconst 0, 1, 0, 0, 0, 0, []),
  (17, .ireturn, 1, 1, 0, 0, 0, [])]
/-- yX6_addBody -/
def mt_85 : List am_row := [
  (0, .aload_n 0, 1, 0, 0, 0, 0, []),
  (1, .getfield 19, 3, 6, 1, 0, 0, []),
  (4, .bipush 50, 2, 0, 0, 0, 50, []),
  (6, .if_icmp .lt 5, 3, 6, 0, 0, 0, []),
  (9, .iconst 0, 1, 0, 0, 0, 0, []),
  (10, .ireturn, 1, 1, 0, 0, 0, []),
  (11, .aload_n 0, 1, 0, 0, 0, 0, []),
  (12, .getfield 9, 3, 6, 0, 2, 0, []),
  (15, .aload_n 0, 1, 0, 0, 0, 0, []),
  (16, .getfield 19, 3, 6, 1, 0, 0, []),
  (19, .iload_n 1, 1, 0, 0, 0, 0, []),
  (20, .iastore, 1, 0, 0, 0, 0, []),
  (21, .aload_n 0, 1, 0, 0, 0, 0, []),
  (22, .dup, 1, 0, 0, 0, 0, []),
  (23, .getfield 19, 3, 6, 1, 0, 0, []),
  (26, .iconst 1, 1, 0, 0, 0, 1, []),
  (27, .iadd, 1, 0, 0, 0, 0, []),
  (28, .putfield 19, 3, 6, 1, 0, 0, []),
  (31, .iconst 1, 1, 0, 0, 0, 1, []),
  (32, .ireturn, 1, 1, 0, 0, 0, [])]
/-- yX6_kindOf -/
def mt_86 : List am_row := [
  (0, .aload_n 0, 1, 0, 0, 0, 0, []),
  (1, .iload_n 1, 1, 0, 0, 0, 0, []),
  (2, .invokevirtual 23, 3, 84, 2, 1, 0, []),
  (5, .ifCond .eq 12, 3, 9, 0, 0, 0, []),
  (8, .aload_n 0, 1, 0, 0, 0, 0, []),
  (9, .getfield 9, 3, 6, 0, 2, 0, []),
  (12, .iload_n 1, 1, 0, 0, 0, 0, []),
  (13, .iaload, 1, 0, 0, 0, 0, []),
  (14, .goto 4, 3, 10, 0, 0, 0, []),
  (17, .iconst 0, 1, 0, 0, 0, 0, []),
  (18, .ireturn, 1, 0, 0, 0, 0, [])]
/-- yX6_isUnder -/
def mt_87 : List am_row := [
  (0, .iload_n 1, 1, 0, 0, 0, 0, []),
  (1, .istore_n 3, 1, 0, 0, 0, 0, []),
  (2, .iconst 0, 1, 0, 0, 0, 0, []),
  (3, .istore 4, 2, 0, 0, 0, 0, []),
  (5, .iload 4, 2, 0, 0, 0, 0, []),
  (7, .getstatic 16, 3, 116, 0, 0, 0, []),
  (10, .arraylength, 1, 0, 0, 0, 0, []),
  (11, .if_icmp .ge 30, 3, 23, 0, 0, 0, []),
  (14, .aload_n 0, 1, 0, 0, 0, 0, []),
  (15, .iload_n 3, 1, 0, 0, 0, 0, []),
  (16, .invokevirtual 27, 3, 83, 2, 1, 0, []),
  (19, .ifCond .eq 22, 3, 23, 0, 0, 0, []),
  (22, .iload_n 3, 1, 0, 0, 0, 0, []),
  (23, .iload_n 2, 1, 0, 0, 0, 0, []),
  (24, .if_icmp .ne 5, 3, 17, 0, 0, 0, []),
  (27, .iconst 1, 1, 0, 0, 0, 1, []),
  (28, .ireturn, 1, 1, 0, 0, 0, []),
  (29, .getstatic 16, 3, 116, 0, 0, 0, []),
  (32, .iload_n 3, 1, 0, 0, 0, 0, []),
  (33, .iaload, 1, 0, 0, 0, 0, []),
  (34, .istore_n 3, 1, 0, 0, 0, 0, []),
  (35, .iinc 4 1, 3, 0, 0, 0, 1, []),
  (38, .goto (-33), 3, 4, 0, 0, 0, []),
  (41, .iconst 0, 1, 0, 0, 0, 0, []),
  (42, .ireturn, 1, 1, 0, 0, 0, [])]
/-- yX6_hasTrace -/
def mt_88 : List am_row := [
  (0, .iload_n 1, 1, 0, 0, 0, 0, []),
  (1, .ifCond .lt 21, 3, 11, 0, 0, 0, []),
  (4, .iload_n 1, 1, 0, 0, 0, 0, []),
  (5, .aload_n 0, 1, 0, 0, 0, 0, []),
  (6, .getfield 30, 3, 6, 3, 0, 0, []),
  (9, .if_icmp .ge 13, 3, 11, 0, 0, 0, []),
  (12, .iload_n 1, 1, 0, 0, 0, 0, []),
  (13, .bipush 24, 2, 0, 0, 0, 24, []),
  (15, .if_icmp .ge 7, 3, 11, 0, 0, 0, []),
  (18, .iconst 1, 1, 0, 0, 0, 1, []),
  (19, .goto 4, 3, 12, 0, 0, 0, []),
  (22, .iconst 0, 1, 0, 0, 0, 0, []),
  (23, .ireturn, 1, 1, 0, 0, 0, [])]
/-- yX6_traceAt -/
def mt_89 : List am_row := [
  (0, .aload_n 0, 1, 0, 0, 0, 0, []),
  (1, .iload_n 1, 1, 0, 0, 0, 0, []),
  (2, .invokevirtual 33, 3, 88, 2, 1, 0, []),
  (5, .ifCond .eq 12, 3, 9, 0, 0, 0, []),
  (8, .aload_n 0, 1, 0, 0, 0, 0, []),
  (9, .getfield 13, 3, 6, 2, 2, 0, []),
  (12, .iload_n 1, 1, 0, 0, 0, 0, []),
  (13, .iaload, 1, 0, 0, 0, 0, []),
  (14, .goto 4, 3, 10, 0, 0, 0, []),
  (17, .iconst 0, 1, 0, 0, 0, 0, []),
  (18, .ireturn, 1, 0, 0, 0, 0, [])]
/-- yX6_run -/
def mt_90 : List am_row := [
  (0, .aload_n 0, 1, 0, 0, 0, 0, []),
  (1, .iconst 0, 1, 0, 0, 0, 0, []),
  (2, .putfield 30, 3, 6, 3, 0, 0, []),
  (5, .aload_n 0, 1, 0, 0, 0, 0, []),
  (6, .iload_n 1, 1, 0, 0, 0, 0, []),
  (7, .invokevirtual 23, 3, 84, 2, 1, 0, []),
  (10, .ifCond .ne 5, 3, 9, 0, 0, 0, []),
  (13, .iconst 0, 1, 0, 0, 0, 0, []),
  (14, .ireturn, 1, 0, 0, 0, 0, []),
  (15, .iload_n 2, 1, 0, 0, 0, 0, []),
  (16, .tableswitch 60 0 3 #[32, 39, 46, 53], 32, 31, 0, 0, 0, [(0, 11), (1, 16), (2, 21), (3, 26)]),
  (48, .aload_n 0, 1, 0, 0, 0, 0, []),
  (49, .iload_n 1, 1, 0, 0, 0, 0, []),
  (50, .iload_n 3, 1, 0, 0, 0, 0, []),
  (51, .invokevirtual 36, 3, 92, 3, 1, 0, []),
  (54, .ireturn, 1, 0, 0, 0, 0, []),
  (55, .aload_n 0, 1, 0, 0, 0, 0, []),
  (56, .iload_n 1, 1, 0, 0, 0, 0, []),
  (57, .iload_n 3, 1, 0, 0, 0, 0, []),
  (58, .invokevirtual 40, 3, 93, 3, 1, 0, []),
  (61, .ireturn, 1, 0, 0, 0, 0, []),
  (62, .aload_n 0, 1, 0, 0, 0, 0, []),
  (63, .iload_n 1, 1, 0, 0, 0, 0, []),
  (64, .iload_n 3, 1, 0, 0, 0, 0, []),
  (65, .invokevirtual 43, 3, 94, 3, 1, 0, []),
  (68, .ireturn, 1, 0, 0, 0, 0, []),
  (69, .aload_n 0, 1, 0, 0, 0, 0, []),
  (70, .iload_n 1, 1, 0, 0, 0, 0, []),
  (71, .iload_n 3, 1, 0, 0, 0, 0, []),
  (72, .invokevirtual 46, 3, 95, 3, 1, 0, []),
  (75, .ireturn, 1, 0, 0, 0, 0, []),
  (76, .iconst 0, 1, 0, 0, 0, 0, []),
  (77, .ireturn, 1, 0, 0, 0, 0, [])]
/-- yX6_begins -/
def mt_91 : List am_row := [
  (0, .aload_n 0, 1, 0, 0, 0, 0, []),
  (1, .getfield 30, 3, 6, 3, 0, 0, []),
  (4, .bipush 24, 2, 0, 0, 0, 24, []),
  (6, .if_icmp .ge 13, 3, 10, 0, 0, 0, []),
  (9, .aload_n 0, 1, 0, 0, 0, 0, []),
  (10, .getfield 13, 3, 6, 2, 2, 0, []),
  (13, .aload_n 0, 1, 0, 0, 0, 0, []),
  (14, .getfield 30, 3, 6, 3, 0, 0, []),
  (17, .iload_n 1, 1, 0, 0, 0, 0, []),
  (18, .iastore, 1, 0, 0, 0, 0, []),
  (19, .aload_n 0, 1, 0, 0, 0, 0, []),
  (20, .dup, 1, 0, 0, 0, 0, []),
  (21, .getfield 30, 3, 6, 3, 0, 0, []),
  (24, .iconst 1, 1, 0, 0, 0, 1, []),
  (25, .iadd, 1, 0, 0, 0, 0, []),
  (26, .putfield 30, 3, 6, 3, 0, 0, []),
  (29, .return_, 1, 0, 0, 0, 0, [])]
/-- yX6_opensOf -/
def mt_92 : List am_row := [
  (0, .aload_n 0, 1, 0, 0, 0, 0, []),
  (1, .aload_n 0, 1, 0, 0, 0, 0, []),
  (2, .iload_n 1, 1, 0, 0, 0, 0, []),
  (3, .invokevirtual 49, 3, 86, 2, 1, 0, []),
  (6, .iconst 1, 1, 0, 0, 0, 1, []),
  (7, .invokevirtual 53, 3, 87, 3, 1, 0, []),
  (10, .istore_n 3, 1, 0, 0, 0, 0, []),
  (11, .aload_n 0, 1, 0, 0, 0, 0, []),
  (12, .iload_n 1, 1, 0, 0, 0, 0, []),
  (13, .invokevirtual 49, 3, 86, 2, 1, 0, []),
  (16, .bipush 6, 2, 0, 0, 0, 6, []),
  (18, .if_icmp .ne 7, 3, 14, 0, 0, 0, []),
  (21, .iconst 1, 1, 0, 0, 0, 1, []),
  (22, .goto 4, 3, 15, 0, 0, 0, []),
  (25, .iconst 0, 1, 0, 0, 0, 0, []),
  (26, .istore 4, 2, 0, 0, 0, 0, []),
  (28, .iload_n 3, 1, 0, 0, 0, 0, []),
  (29, .ifCond .eq 9, 3, 21, 0, 0, 0, []),
  (32, .aload_n 0, 1, 0, 0, 0, 0, []),
  (33, .bipush 20, 2, 0, 0, 0, 20, []),
  (35, .invokevirtual 57, 3, 91, 2, 0, 0, []),
  (38, .iload 4, 2, 0, 0, 0, 0, []),
  (40, .ifCond .eq 9, 3, 26, 0, 0, 0, []),
  (43, .aload_n 0, 1, 0, 0, 0, 0, []),
  (44, .bipush 70, 2, 0, 0, 0, 70, []),
  (46, .invokevirtual 57, 3, 91, 2, 0, 0, []),
  (49, .aload_n 0, 1, 0, 0, 0, 0, []),
  (50, .iconst 1, 1, 0, 0, 0, 1, []),
  (51, .invokevirtual 57, 3, 91, 2, 0, 0, []),
  (54, .iload_n 2, 1, 0, 0, 0, 0, []),
  (55, .iload_n 1, 1, 0, 0, 0, 0, []),
  (56, .iadd, 1, 0, 0, 0, 0, []),
  (57, .istore 5, 2, 0, 0, 0, 0, []),
  (59, .iload_n 3, 1, 0, 0, 0, 0, []),
  (60, .ifCond .eq 8, 3, 39, 0, 0, 0, []),
  (63, .iload 5, 2, 0, 0, 0, 0, []),
  (65, .iconst 3, 1, 0, 0, 0, 3, []),
  (66, .iadd, 1, 0, 0, 0, 0, []),
  (67, .ireturn, 1, 0, 0, 0, 0, []),
  (68, .iload 4, 2, 0, 0, 0, 0, []),
  (70, .ifCond .eq 10, 3, 45, 0, 0, 0, []),
  (73, .iload 5, 2, 0, 0, 0, 0, []),
  (75, .iconst 2, 1, 0, 0, 0, 2, []),
  (76, .imul, 1, 0, 0, 0, 0, []),
  (77, .goto 5, 3, 46, 0, 0, 0, []),
  (80, .iload 5, 2, 0, 0, 0, 0, []),
  (82, .ireturn, 1, 0, 0, 0, 0, [])]
/-- yX6_givesOf -/
def mt_93 : List am_row := [
  (0, .aload_n 0, 1, 0, 0, 0, 0, []),
  (1, .iload_n 1, 1, 0, 0, 0, 0, []),
  (2, .invokevirtual 49, 3, 86, 2, 1, 0, []),
  (5, .istore_n 3, 1, 0, 0, 0, 0, []),
  (6, .aload_n 0, 1, 0, 0, 0, 0, []),
  (7, .iload_n 3, 1, 0, 0, 0, 0, []),
  (8, .iconst 3, 1, 0, 0, 0, 3, []),
  (9, .invokevirtual 53, 3, 87, 3, 1, 0, []),
  (12, .istore 4, 2, 0, 0, 0, 0, []),
  (14, .aload_n 0, 1, 0, 0, 0, 0, []),
  (15, .iload_n 3, 1, 0, 0, 0, 0, []),
  (16, .iconst 2, 1, 0, 0, 0, 2, []),
  (17, .invokevirtual 53, 3, 87, 3, 1, 0, []),
  (20, .istore 5, 2, 0, 0, 0, 0, []),
  (22, .iload_n 3, 1, 0, 0, 0, 0, []),
  (23, .bipush 7, 2, 0, 0, 0, 7, []),
  (25, .if_icmp .ne 9, 3, 20, 0, 0, 0, []),
  (28, .aload_n 0, 1, 0, 0, 0, 0, []),
  (29, .bipush 80, 2, 0, 0, 0, 80, []),
  (31, .invokevirtual 57, 3, 91, 2, 0, 0, []),
  (34, .iload 4, 2, 0, 0, 0, 0, []),
  (36, .ifCond .eq 9, 3, 25, 0, 0, 0, []),
  (39, .aload_n 0, 1, 0, 0, 0, 0, []),
  (40, .bipush 41, 2, 0, 0, 0, 41, []),
  (42, .invokevirtual 57, 3, 91, 2, 0, 0, []),
  (45, .iload 5, 2, 0, 0, 0, 0, []),
  (47, .ifCond .eq 9, 3, 30, 0, 0, 0, []),
  (50, .aload_n 0, 1, 0, 0, 0, 0, []),
  (51, .bipush 30, 2, 0, 0, 0, 30, []),
  (53, .invokevirtual 57, 3, 91, 2, 0, 0, []),
  (56, .aload_n 0, 1, 0, 0, 0, 0, []),
  (57, .bipush 10, 2, 0, 0, 0, 10, []),
  (59, .invokevirtual 57, 3, 91, 2, 0, 0, []),
  (62, .aload_n 0, 1, 0, 0, 0, 0, []),
  (63, .iload_n 1, 1, 0, 0, 0, 0, []),
  (64, .iload 4, 2, 0, 0, 0, 0, []),
  (66, .ifCond .eq 9, 3, 41, 0, 0, 0, []),
  (69, .iload_n 2, 1, 0, 0, 0, 0, []),
  (70, .iconst 1, 1, 0, 0, 0, 1, []),
  (71, .iadd, 1, 0, 0, 0, 0, []),
  (72, .goto 4, 3, 42, 0, 0, 0, []),
  (75, .iload_n 2, 1, 0, 0, 0, 0, []),
  (76, .invokevirtual 36, 3, 92, 3, 1, 0, []),
  (79, .iconst 2, 1, 0, 0, 0, 2, []),
  (80, .imul, 1, 0, 0, 0, 0, []),
  (81, .istore 6, 2, 0, 0, 0, 0, []),
  (83, .iload_n 3, 1, 0, 0, 0, 0, []),
  (84, .bipush 7, 2, 0, 0, 0, 7, []),
  (86, .if_icmp .ne 13, 3, 56, 0, 0, 0, []),
  (89, .iload 6, 2, 0, 0, 0, 0, []),
  (91, .aload_n 0, 1, 0, 0, 0, 0, []),
  (92, .iload_n 1, 1, 0, 0, 0, 0, []),
  (93, .iconst 2, 1, 0, 0, 0, 2, []),
  (94, .invokevirtual 43, 3, 94, 3, 1, 0, []),
  (97, .iadd, 1, 0, 0, 0, 0, []),
  (98, .ireturn, 1, 0, 0, 0, 0, []),
  (99, .iload 5, 2, 0, 0, 0, 0, []),
  (101, .ifCond .eq 9, 3, 61, 0, 0, 0, []),
  (104, .iload 6, 2, 0, 0, 0, 0, []),
  (106, .ineg, 1, 0, 0, 0, 0, []),
  (107, .goto 5, 3, 62, 0, 0, 0, []),
  (110, .iload 6, 2, 0, 0, 0, 0, []),
  (112, .ireturn, 1, 0, 0, 0, 0, [])]
/-- yX6_waitsOf -/
def mt_94 : List am_row := [
  (0, .aload_n 0, 1, 0, 0, 0, 0, []),
  (1, .aload_n 0, 1, 0, 0, 0, 0, []),
  (2, .iload_n 1, 1, 0, 0, 0, 0, []),
  (3, .invokevirtual 49, 3, 86, 2, 1, 0, []),
  (6, .iconst 4, 1, 0, 0, 0, 4, []),
  (7, .invokevirtual 53, 3, 87, 3, 1, 0, []),
  (10, .istore_n 3, 1, 0, 0, 0, 0, []),
  (11, .aload_n 0, 1, 0, 0, 0, 0, []),
  (12, .aload_n 0, 1, 0, 0, 0, 0, []),
  (13, .iload_n 1, 1, 0, 0, 0, 0, []),
  (14, .invokevirtual 49, 3, 86, 2, 1, 0, []),
  (17, .iconst 3, 1, 0, 0, 0, 3, []),
  (18, .invokevirtual 53, 3, 87, 3, 1, 0, []),
  (21, .istore 4, 2, 0, 0, 0, 0, []),
  (23, .iload_n 3, 1, 0, 0, 0, 0, []),
  (24, .ifCond .eq 9, 3, 19, 0, 0, 0, []),
  (27, .aload_n 0, 1, 0, 0, 0, 0, []),
  (28, .bipush 50, 2, 0, 0, 0, 50, []),
  (30, .invokevirtual 57, 3, 91, 2, 0, 0, []),
  (33, .iload 4, 2, 0, 0, 0, 0, []),
  (35, .ifCond .eq 9, 3, 24, 0, 0, 0, []),
  (38, .aload_n 0, 1, 0, 0, 0, 0, []),
  (39, .bipush 40, 2, 0, 0, 0, 40, []),
  (41, .invokevirtual 57, 3, 91, 2, 0, 0, []),
  (44, .aload_n 0, 1, 0, 0, 0, 0, []),
  (45, .bipush 11, 2, 0, 0, 0, 11, []),
  (47, .invokevirtual 57, 3, 91, 2, 0, 0, []),
  (50, .iload_n 2, 1, 0, 0, 0, 0, []),
  (51, .iload_n 1, 1, 0, 0, 0, 0, []),
  (52, .ixor, 1, 0, 0, 0, 0, []),
  (53, .istore 5, 2, 0, 0, 0, 0, []),
  (55, .iload_n 3, 1, 0, 0, 0, 0, []),
  (56, .ifCond .eq 13, 3, 40, 0, 0, 0, []),
  (59, .iload 5, 2, 0, 0, 0, 0, []),
  (61, .aload_n 0, 1, 0, 0, 0, 0, []),
  (62, .iload_n 1, 1, 0, 0, 0, 0, []),
  (63, .iconst 2, 1, 0, 0, 0, 2, []),
  (64, .invokevirtual 36, 3, 92, 3, 1, 0, []),
  (67, .isub, 1, 0, 0, 0, 0, []),
  (68, .ireturn, 1, 0, 0, 0, 0, []),
  (69, .iload 4, 2, 0, 0, 0, 0, []),
  (71, .ifCond .eq 10, 3, 46, 0, 0, 0, []),
  (74, .iload 5, 2, 0, 0, 0, 0, []),
  (76, .iconst 3, 1, 0, 0, 0, 3, []),
  (77, .imul, 1, 0, 0, 0, 0, []),
  (78, .goto 5, 3, 47, 0, 0, 0, []),
  (81, .iload 5, 2, 0, 0, 0, 0, []),
  (83, .ireturn, 1, 0, 0, 0, 0, [])]
/-- yX6_tellsOf -/
def mt_95 : List am_row := [
  (0, .aload_n 0, 1, 0, 0, 0, 0, []),
  (1, .iload_n 1, 1, 0, 0, 0, 0, []),
  (2, .invokevirtual 49, 3, 86, 2, 1, 0, []),
  (5, .istore_n 3, 1, 0, 0, 0, 0, []),
  (6, .iload_n 3, 1, 0, 0, 0, 0, []),
  (7, .iconst 5, 1, 0, 0, 0, 5, []),
  (8, .if_icmp .ne 9, 3, 10, 0, 0, 0, []),
  (11, .aload_n 0, 1, 0, 0, 0, 0, []),
  (12, .bipush 60, 2, 0, 0, 0, 60, []),
  (14, .invokevirtual 57, 3, 91, 2, 0, 0, []),
  (17, .iload_n 3, 1, 0, 0, 0, 0, []),
  (18, .bipush 7, 2, 0, 0, 0, 7, []),
  (20, .if_icmp .ne 9, 3, 16, 0, 0, 0, []),
  (23, .aload_n 0, 1, 0, 0, 0, 0, []),
  (24, .bipush 81, 2, 0, 0, 0, 81, []),
  (26, .invokevirtual 57, 3, 91, 2, 0, 0, []),
  (29, .aload_n 0, 1, 0, 0, 0, 0, []),
  (30, .iconst 2, 1, 0, 0, 0, 2, []),
  (31, .invokevirtual 57, 3, 91, 2, 0, 0, []),
  (34, .aload_n 0, 1, 0, 0, 0, 0, []),
  (35, .iload_n 1, 1, 0, 0, 0, 0, []),
  (36, .iload_n 2, 1, 0, 0, 0, 0, []),
  (37, .invokevirtual 40, 3, 93, 3, 1, 0, []),
  (40, .istore 4, 2, 0, 0, 0, 0, []),
  (42, .iload 4, 2, 0, 0, 0, 0, []),
  (44, .aload_n 0, 1, 0, 0, 0, 0, []),
  (45, .iload_n 1, 1, 0, 0, 0, 0, []),
  (46, .iconst 1, 1, 0, 0, 0, 1, []),
  (47, .invokevirtual 43, 3, 94, 3, 1, 0, []),
  (50, .isub, 1, 0, 0, 0, 0, []),
  (51, .istore 5, 2, 0, 0, 0, 0, []),
  (53, .iload_n 3, 1, 0, 0, 0, 0, []),
  (54, .iconst 5, 1, 0, 0, 0, 5, []),
  (55, .if_icmp .ne 8, 3, 38, 0, 0, 0, []),
  (58, .iload 5, 2, 0, 0, 0, 0, []),
  (60, .iconst 5, 1, 0, 0, 0, 5, []),
  (61, .ixor, 1, 0, 0, 0, 0, []),
  (62, .ireturn, 1, 0, 0, 0, 0, []),
  (63, .iload_n 3, 1, 0, 0, 0, 0, []),
  (64, .bipush 7, 2, 0, 0, 0, 7, []),
  (66, .if_icmp .ne 10, 3, 45, 0, 0, 0, []),
  (69, .iload 5, 2, 0, 0, 0, 0, []),
  (71, .iconst 1, 1, 0, 0, 0, 1, []),
  (72, .isub, 1, 0, 0, 0, 0, []),
  (73, .goto 5, 3, 46, 0, 0, 0, []),
  (76, .iload 5, 2, 0, 0, 0, 0, []),
  (78, .ireturn, 1, 0, 0, 0, 0, [])]
/-- yX7_holdNothing -/
def mt_96 : List am_row := [
  (0, .aload_n 0, 1, 0, 0, 0, 0, []),
  (1, .iconst 0, 1, 0, 0, 0, 0, []),
  (2, .putfield 11, 3, 7, 0, 0, 0, []),
  (5, .aload_n 0, 1, 0, 0, 0, 0, []),
  (6, .iconst 0, 1, 0, 0, 0, 0, []),
  (7, .putfield 19, 3, 7, 3, 0, 0, []),
  (10, .return_, 1, 0, 0, 0, 0, [])]
/-- yX7_holdBody -/
def mt_97 : List am_row := [
  (0, .aload_n 0, 1, 0, 0, 0, 0, []),
  (1, .iconst 1, 1, 0, 0, 0, 1, []),
  (2, .putfield 11, 3, 7, 0, 0, 0, []),
  (5, .aload_n 0, 1, 0, 0, 0, 0, []),
  (6, .iload_n 1, 1, 0, 0, 0, 0, []),
  (7, .putfield 22, 3, 7, 1, 0, 0, []),
  (10, .aload_n 0, 1, 0, 0, 0, 0, []),
  (11, .iconst 0, 1, 0, 0, 0, 0, []),
  (12, .putfield 19, 3, 7, 3, 0, 0, []),
  (15, .return_, 1, 0, 0, 0, 0, [])]
/-- yX7_holdRow -/
def mt_98 : List am_row := [
  (0, .aload_n 0, 1, 0, 0, 0, 0, []),
  (1, .iconst 2, 1, 0, 0, 0, 2, []),
  (2, .putfield 11, 3, 7, 0, 0, 0, []),
  (5, .aload_n 0, 1, 0, 0, 0, 0, []),
  (6, .iload_n 1, 1, 0, 0, 0, 0, []),
  (7, .putfield 25, 3, 7, 2, 0, 0, []),
  (10, .aload_n 0, 1, 0, 0, 0, 0, []),
  (11, .iconst 0, 1, 0, 0, 0, 0, []),
  (12, .iload_n 2, 1, 0, 0, 0, 0, []),
  (13, .bipush 60, 2, 0, 0, 0, 60, []),
  (15, .invokestatic 28, 3, 1001, 2, 1, 0, []),
  (18, .invokestatic 34, 3, 1000, 2, 1, 0, []),
  (21, .putfield 19, 3, 7, 3, 0, 0, []),
  (24, .aload_n 0, 1, 0, 0, 0, 0, []),
  (25, .getfield 15, 3, 7, 4, 2, 0, []),
  (28, .lconst 0, 1, 0, 0, 0, 0, []),
  (29, .invokestatic 37, 3, 274, 2, 0, 0, []),
  (32, .return_, 1, 0, 0, 0, 0, [])]
/-- yX7_refusesRow -/
def mt_99 : List am_row := [
  (0, .aload_n 0, 1, 0, 0, 0, 0, []),
  (1, .getfield 11, 3, 7, 0, 0, 0, []),
  (4, .ifCond .ne 6, 3, 5, 0, 0, 0, []),
  (7, .bipush (-11), 2, 0, 0, 0, -11, []),
  (9, .ireturn, 1, 0, 0, 0, 0, []),
  (10, .aload_n 0, 1, 0, 0, 0, 0, []),
  (11, .getfield 11, 3, 7, 0, 0, 0, []),
  (14, .iconst 2, 1, 0, 0, 0, 2, []),
  (15, .if_icmp .ne 7, 3, 11, 0, 0, 0, []),
  (18, .iconst 0, 1, 0, 0, 0, 0, []),
  (19, .goto 5, 3, 12, 0, 0, 0, []),
  (22, .bipush (-12), 2, 0, 0, 0, -12, []),
  (24, .ireturn, 1, 0, 0, 0, 0, [])]
/-- yX7_refusesBytes -/
def mt_100 : List am_row := [
  (0, .aload_n 0, 1, 0, 0, 0, 0, []),
  (1, .invokevirtual 43, 3, 99, 1, 1, 0, []),
  (4, .istore_n 1, 1, 0, 0, 0, 0, []),
  (5, .iload_n 1, 1, 0, 0, 0, 0, []),
  (6, .ifCond .ne 15, 3, 10, 0, 0, 0, []),
  (9, .aload_n 0, 1, 0, 0, 0, 0, []),
  (10, .getfield 25, 3, 7, 2, 0, 0, []),
  (13, .ifCond .eq 8, 3, 10, 0, 0, 0, []),
  (16, .bipush (-12), 2, 0, 0, 0, -12, []),
  (18, .goto 4, 3, 11, 0, 0, 0, []),
  (21, .iload_n 1, 1, 0, 0, 0, 0, []),
  (22, .ireturn, 1, 0, 0, 0, 0, [])]
/-- yX7_hasPlace -/
def mt_101 : List am_row := [
  (0, .iload_n 1, 1, 0, 0, 0, 0, []),
  (1, .ifCond .lt 15, 3, 8, 0, 0, 0, []),
  (4, .iload_n 1, 1, 0, 0, 0, 0, []),
  (5, .aload_n 0, 1, 0, 0, 0, 0, []),
  (6, .getfield 19, 3, 7, 3, 0, 0, []),
  (9, .if_icmp .ge 7, 3, 8, 0, 0, 0, []),
  (12, .iconst 1, 1, 0, 0, 0, 1, []),
  (13, .goto 4, 3, 9, 0, 0, 0, []),
  (16, .iconst 0, 1, 0, 0, 0, 0, []),
  (17, .ireturn, 1, 1, 0, 0, 0, [])]
/-- yX7_hasPlaces -/
def mt_102 : List am_row := [
  (0, .iload_n 1, 1, 0, 0, 0, 0, []),
  (1, .ifCond .lt 29, 3, 16, 0, 0, 0, []),
  (4, .iload_n 2, 1, 0, 0, 0, 0, []),
  (5, .ifCond .lt 25, 3, 16, 0, 0, 0, []),
  (8, .iload_n 2, 1, 0, 0, 0, 0, []),
  (9, .aload_n 0, 1, 0, 0, 0, 0, []),
  (10, .getfield 19, 3, 7, 3, 0, 0, []),
  (13, .if_icmp .gt 17, 3, 16, 0, 0, 0, []),
  (16, .iload_n 1, 1, 0, 0, 0, 0, []),
  (17, .aload_n 0, 1, 0, 0, 0, 0, []),
  (18, .getfield 19, 3, 7, 3, 0, 0, []),
  (21, .iload_n 2, 1, 0, 0, 0, 0, []),
  (22, .isub, 1, 0, 0, 0, 0, []),
  (23, .if_icmp .gt 7, 3, 16, 0, 0, 0, []),
  (26, .iconst 1, 1, 0, 0, 0, 1, []),
  (27, .goto 4, 3, 17, 0, 0, 0, []),
  (30, .iconst 0, 1, 0, 0, 0, 0, []),
  (31, .ireturn, 1, 1, 0, 0, 0, [])]
/-- yX7_at -/
def mt_103 : List am_row := [
  (0, .aload_n 0, 1, 0, 0, 0, 0, []),
  (1, .iload_n 1, 1, 0, 0, 0, 0, []),
  (2, .invokevirtual 47, 3, 101, 2, 1, 0, []),
  (5, .ifCond .eq 12, 3, 9, 0, 0, 0, []),
  (8, .aload_n 0, 1, 0, 0, 0, 0, []),
  (9, .getfield 15, 3, 7, 4, 2, 0, []),
  (12, .iload_n 1, 1, 0, 0, 0, 0, []),
  (13, .laload, 1, 0, 0, 0, 0, []),
  (14, .goto 4, 3, 10, 0, 0, 0, []),
  (17, .lconst 0, 1, 0, 0, 0, 0, []),
  (18, .lreturn, 1, 0, 0, 0, 0, [])]
/-- yX7_putIn -/
def mt_104 : List am_row := [
  (0, .aload_n 0, 1, 0, 0, 0, 0, []),
  (1, .iload_n 1, 1, 0, 0, 0, 0, []),
  (2, .invokevirtual 47, 3, 101, 2, 1, 0, []),
  (5, .ifCond .ne 5, 3, 6, 0, 0, 0, []),
  (8, .iconst 0, 1, 0, 0, 0, 0, []),
  (9, .ireturn, 1, 1, 0, 0, 0, []),
  (10, .aload_n 0, 1, 0, 0, 0, 0, []),
  (11, .getfield 15, 3, 7, 4, 2, 0, []),
  (14, .iload_n 1, 1, 0, 0, 0, 0, []),
  (15, .aload_n 0, 1, 0, 0, 0, 0, []),
  (16, .lload_n 2, 1, 0, 0, 0, 0, []),
  (17, .invokevirtual 51, 3, 105, 2, 2, 0, []),
  (20, .lastore, 1, 0, 0, 0, 0, []),
  (21, .iconst 1, 1, 0, 0, 0, 1, []),
  (22, .ireturn, 1, 1, 0, 0, 0, [])]
/-- yX7_lowest -/
def mt_105 : List am_row := [
  (0, .aload_n 0, 1, 0, 0, 0, 0, []),
  (1, .getfield 25, 3, 7, 2, 0, 0, []),
  (4, .tableswitch 48 0 3 #[32, 37, 42, 46], 32, 19, 0, 0, 0, [(0, 3), (1, 8), (2, 13), (3, 17)]),
  (36, .lload_n 1, 1, 0, 0, 0, 0, []),
  (37, .l2i, 1, 0, 0, 0, 0, []),
  (38, .i2b, 1, 0, 0, 0, 0, []),
  (39, .i2l, 1, 0, 0, 0, 0, []),
  (40, .lreturn, 1, 0, 0, 0, 0, []),
  (41, .lload_n 1, 1, 0, 0, 0, 0, []),
  (42, .l2i, 1, 0, 0, 0, 0, []),
  (43, .i2s, 1, 0, 0, 0, 0, []),
  (44, .i2l, 1, 0, 0, 0, 0, []),
  (45, .lreturn, 1, 0, 0, 0, 0, []),
  (46, .lload_n 1, 1, 0, 0, 0, 0, []),
  (47, .l2i, 1, 0, 0, 0, 0, []),
  (48, .i2l, 1, 0, 0, 0, 0, []),
  (49, .lreturn, 1, 0, 0, 0, 0, []),
  (50, .lload_n 1, 1, 0, 0, 0, 0, []),
  (51, .lreturn, 1, 0, 0, 0, 0, []),
  (52, .lload_n 1, 1, 0, 0, 0, 0, []),
  (53, .lconst 0, 1, 0, 0, 0, 0, []),
  (54, .lcmp, 1, 0, 0, 0, 0, []),
  (55, .ifCond .eq 7, 3, 25, 0, 0, 0, []),
  (58, .lconst 1, 1, 1, 0, 0, 0, []),
  (59, .goto 4, 3, 26, 0, 0, 0, []),
  (62, .lconst 0, 1, 0, 0, 0, 0, []),
  (63, .lreturn, 1, 0, 0, 0, 0, [])]
/-- yX7_takeFrom -/
def mt_106 : List am_row := [
  (0, .aload_n 1, 1, 0, 0, 0, 0, []),
  (1, .iload_n 2, 1, 0, 0, 0, 0, []),
  (2, .iload 4, 2, 0, 0, 0, 0, []),
  (4, .invokevirtual 55, 3, 102, 3, 1, 0, []),
  (7, .ifCond .eq 28, 3, 18, 0, 0, 0, []),
  (10, .aload_n 0, 1, 0, 0, 0, 0, []),
  (11, .iload_n 3, 1, 0, 0, 0, 0, []),
  (12, .iload 4, 2, 0, 0, 0, 0, []),
  (14, .invokevirtual 55, 3, 102, 3, 1, 0, []),
  (17, .ifCond .eq 18, 3, 18, 0, 0, 0, []),
  (20, .aload_n 1, 1, 0, 0, 0, 0, []),
  (21, .getfield 15, 3, 7, 4, 2, 0, []),
  (24, .iload_n 2, 1, 0, 0, 0, 0, []),
  (25, .aload_n 0, 1, 0, 0, 0, 0, []),
  (26, .getfield 15, 3, 7, 4, 2, 0, []),
  (29, .iload_n 3, 1, 0, 0, 0, 0, []),
  (30, .iload 4, 2, 0, 0, 0, 0, []),
  (32, .invokestatic 59, 3, 1002, 5, 0, 0, []),
  (35, .return_, 1, 0, 0, 0, 0, [])]
/-- yX8_earlyOnes -/
def mt_107 : List am_row := [
  (0, .iconst 0, 1, 0, 0, 0, 0, []),
  (1, .istore_n 3, 1, 0, 0, 0, 0, []),
  (2, .iconst 0, 1, 0, 0, 0, 0, []),
  (3, .istore 4, 2, 0, 0, 0, 0, []),
  (5, .iload 4, 2, 0, 0, 0, 0, []),
  (7, .aload_n 1, 1, 0, 0, 0, 0, []),
  (8, .getfield 19, 3, 7, 3, 0, 0, []),
  (11, .if_icmp .ge 51, 3, 33, 0, 0, 0, []),
  (14, .aload_n 1, 1, 0, 0, 0, 0, []),
  (15, .iload 4, 2, 0, 0, 0, 0, []),
  (17, .invokevirtual 25, 3, 103, 2, 2, 0, []),
  (20, .l2i, 1, 0, 0, 0, 0, []),
  (21, .istore 5, 2, 0, 0, 0, 0, []),
  (23, .aload_n 0, 1, 0, 0, 0, 0, []),
  (24, .getfield 9, 3, 8, 0, 2, 0, []),
  (27, .iload 5, 2, 0, 0, 0, 0, []),
  (29, .invokevirtual 29, 3, 0, 2, 1, 0, []),
  (32, .ifCond .eq 24, 3, 31, 0, 0, 0, []),
  (35, .aload_n 0, 1, 0, 0, 0, 0, []),
  (36, .getfield 9, 3, 8, 0, 2, 0, []),
  (39, .iconst 0, 1, 0, 0, 0, 0, []),
  (40, .iload 5, 2, 0, 0, 0, 0, []),
  (42, .invokevirtual 35, 3, 4, 3, 1, 0, []),
  (45, .iload_n 2, 1, 0, 0, 0, 0, []),
  (46, .if_icmp .le 10, 3, 31, 0, 0, 0, []),
  (49, .iload_n 3, 1, 0, 0, 0, 0, []),
  (50, .iconst 1, 1, 0, 0, 0, 1, []),
  (51, .iload 5, 2, 0, 0, 0, 0, []),
  (53, .ishl, 1, 0, 0, 0, 0, []),
  (54, .ior, 1, 0, 0, 0, 0, []),
  (55, .istore_n 3, 1, 0, 0, 0, 0, []),
  (56, .iinc 4 1, 3, 0, 0, 0, 1, []),
  (59, .goto (-54), 3, 4, 0, 0, 0, []),
  (62, .iload_n 3, 1, 0, 0, 0, 0, []),
  (63, .ireturn, 1, 0, 0, 0, 0, [])]
/-- yX8_couldHaveBeen -/
def mt_108 : List am_row := [
  (0, .aload_n 0, 1, 0, 0, 0, 0, []),
  (1, .aload_n 1, 1, 0, 0, 0, 0, []),
  (2, .iload_n 2, 1, 0, 0, 0, 0, []),
  (3, .invokevirtual 39, 3, 107, 3, 1, 0, []),
  (6, .istore 4, 2, 0, 0, 0, 0, []),
  (8, .iconst 0, 1, 0, 0, 0, 0, []),
  (9, .istore 5, 2, 0, 0, 0, 0, []),
  (11, .iconst 0, 1, 0, 0, 0, 0, []),
  (12, .istore 6, 2, 0, 0, 0, 0, []),
  (14, .iload 6, 2, 0, 0, 0, 0, []),
  (16, .aload_n 0, 1, 0, 0, 0, 0, []),
  (17, .getfield 9, 3, 8, 0, 2, 0, []),
  (20, .getfield 43, 3, 0, 2, 0, 0, []),
  (23, .if_icmp .ge 43, 3, 34, 0, 0, 0, []),
  (26, .aload_n 0, 1, 0, 0, 0, 0, []),
  (27, .getfield 9, 3, 8, 0, 2, 0, []),
  (30, .iload 6, 2, 0, 0, 0, 0, []),
  (32, .iload_n 2, 1, 0, 0, 0, 0, []),
  (33, .invokevirtual 46, 3, 8, 3, 1, 0, []),
  (36, .ifCond .ne 24, 3, 32, 0, 0, 0, []),
  (39, .aload_n 0, 1, 0, 0, 0, 0, []),
  (40, .iload 6, 2, 0, 0, 0, 0, []),
  (42, .iload 4, 2, 0, 0, 0, 0, []),
  (44, .iload_n 3, 1, 0, 0, 0, 0, []),
  (45, .invokevirtual 50, 3, 109, 4, 1, 0, []),
  (48, .ifCond .eq 12, 3, 32, 0, 0, 0, []),
  (51, .iload 5, 2, 0, 0, 0, 0, []),
  (53, .iconst 1, 1, 0, 0, 0, 1, []),
  (54, .iload 6, 2, 0, 0, 0, 0, []),
  (56, .ishl, 1, 0, 0, 0, 0, []),
  (57, .ior, 1, 0, 0, 0, 0, []),
  (58, .istore 5, 2, 0, 0, 0, 0, []),
  (60, .iinc 6 1, 3, 0, 0, 0, 1, []),
  (63, .goto (-49), 3, 9, 0, 0, 0, []),
  (66, .iload 5, 2, 0, 0, 0, 0, []),
  (68, .ireturn, 1, 0, 0, 0, 0, [])]
/-- yX8_hasReason -/
def mt_109 : List am_row := [
  (0, .iconst 0, 1, 0, 0, 0, 0, []),
  (1, .istore 4, 2, 0, 0, 0, 0, []),
  (3, .iload 4, 2, 0, 0, 0, 0, []),
  (5, .aload_n 0, 1, 0, 0, 0, 0, []),
  (6, .getfield 9, 3, 8, 0, 2, 0, []),
  (9, .getfield 54, 3, 0, 1, 0, 0, []),
  (12, .if_icmp .ge 69, 3, 42, 0, 0, 0, []),
  (15, .aload_n 0, 1, 0, 0, 0, 0, []),
  (16, .getfield 9, 3, 8, 0, 2, 0, []),
  (19, .iconst 1, 1, 0, 0, 0, 1, []),
  (20, .iload 4, 2, 0, 0, 0, 0, []),
  (22, .invokevirtual 35, 3, 4, 3, 1, 0, []),
  (25, .aload_n 0, 1, 0, 0, 0, 0, []),
  (26, .getfield 9, 3, 8, 0, 2, 0, []),
  (29, .iconst 4, 1, 0, 0, 0, 4, []),
  (30, .iload_n 1, 1, 0, 0, 0, 0, []),
  (31, .invokevirtual 35, 3, 4, 3, 1, 0, []),
  (34, .if_icmp .ne 7, 3, 20, 0, 0, 0, []),
  (37, .iconst 1, 1, 0, 0, 0, 1, []),
  (38, .goto 4, 3, 21, 0, 0, 0, []),
  (41, .iconst 0, 1, 0, 0, 0, 0, []),
  (42, .istore 5, 2, 0, 0, 0, 0, []),
  (44, .iload_n 2, 1, 0, 0, 0, 0, []),
  (45, .iload 4, 2, 0, 0, 0, 0, []),
  (47, .ishr, 1, 0, 0, 0, 0, []),
  (48, .iconst 1, 1, 0, 0, 0, 1, []),
  (49, .iand, 1, 0, 0, 0, 0, []),
  (50, .iconst 1, 1, 0, 0, 0, 1, []),
  (51, .if_icmp .ne 24, 3, 40, 0, 0, 0, []),
  (54, .iload 5, 2, 0, 0, 0, 0, []),
  (56, .ifCond .ne 17, 3, 38, 0, 0, 0, []),
  (59, .aload_n 0, 1, 0, 0, 0, 0, []),
  (60, .getfield 15, 3, 8, 1, 2, 0, []),
  (63, .iload_n 3, 1, 0, 0, 0, 0, []),
  (64, .iload 4, 2, 0, 0, 0, 0, []),
  (66, .invokevirtual 57, 3, 38, 3, 1, 0, []),
  (69, .iload_n 1, 1, 0, 0, 0, 0, []),
  (70, .if_icmp .ne 5, 3, 40, 0, 0, 0, []),
  (73, .iconst 1, 1, 0, 0, 0, 1, []),
  (74, .ireturn, 1, 1, 0, 0, 0, []),
  (75, .iinc 4 1, 3, 0, 0, 0, 1, []),
  (78, .goto (-75), 3, 2, 0, 0, 0, []),
  (81, .iconst 0, 1, 0, 0, 0, 0, []),
  (82, .ireturn, 1, 1, 0, 0, 0, [])]
/-- yX8_onlyOne -/
def mt_110 : List am_row := [
  (0, .iconst 0, 1, 0, 0, 0, 0, []),
  (1, .istore_n 2, 1, 0, 0, 0, 0, []),
  (2, .iload_n 2, 1, 0, 0, 0, 0, []),
  (3, .aload_n 0, 1, 0, 0, 0, 0, []),
  (4, .getfield 9, 3, 8, 0, 2, 0, []),
  (7, .getfield 43, 3, 0, 2, 0, 0, []),
  (10, .if_icmp .ge 18, 3, 16, 0, 0, 0, []),
  (13, .iload_n 1, 1, 0, 0, 0, 0, []),
  (14, .iconst 1, 1, 0, 0, 0, 1, []),
  (15, .iload_n 2, 1, 0, 0, 0, 0, []),
  (16, .ishl, 1, 0, 0, 0, 0, []),
  (17, .if_icmp .ne 5, 3, 14, 0, 0, 0, []),
  (20, .iload_n 2, 1, 0, 0, 0, 0, []),
  (21, .ireturn, 1, 0, 0, 0, 0, []),
  (22, .iinc 2 1, 3, 0, 0, 0, 1, []),
  (25, .goto (-23), 3, 2, 0, 0, 0, []),
  (28, .bipush (-2), 2, 0, 0, 0, -2, []),
  (30, .ireturn, 1, 0, 0, 0, 0, [])]
/-- yX8_bestGuard -/
def mt_111 : List am_row := [
  (0, .iconst 0, 1, 0, 0, 0, 0, []),
  (1, .istore_n 2, 1, 0, 0, 0, 0, []),
  (2, .iconst 1, 1, 0, 0, 0, 1, []),
  (3, .istore_n 3, 1, 0, 0, 0, 0, []),
  (4, .iload_n 3, 1, 0, 0, 0, 0, []),
  (5, .aload_n 0, 1, 0, 0, 0, 0, []),
  (6, .getfield 9, 3, 8, 0, 2, 0, []),
  (9, .getfield 43, 3, 0, 2, 0, 0, []),
  (12, .if_icmp .ge 26, 3, 22, 0, 0, 0, []),
  (15, .aload_n 0, 1, 0, 0, 0, 0, []),
  (16, .iload_n 3, 1, 0, 0, 0, 0, []),
  (17, .iload_n 1, 1, 0, 0, 0, 0, []),
  (18, .invokevirtual 62, 3, 112, 3, 1, 0, []),
  (21, .aload_n 0, 1, 0, 0, 0, 0, []),
  (22, .iload_n 2, 1, 0, 0, 0, 0, []),
  (23, .iload_n 1, 1, 0, 0, 0, 0, []),
  (24, .invokevirtual 62, 3, 112, 3, 1, 0, []),
  (27, .if_icmp .ge 5, 3, 20, 0, 0, 0, []),
  (30, .iload_n 3, 1, 0, 0, 0, 0, []),
  (31, .istore_n 2, 1, 0, 0, 0, 0, []),
  (32, .iinc 3 1, 3, 0, 0, 0, 1, []),
  (35, .goto (-31), 3, 4, 0, 0, 0, []),
  (38, .iload_n 2, 1, 0, 0, 0, 0, []),
  (39, .ireturn, 1, 0, 0, 0, 0, [])]
/-- yX8_leftBy -/
def mt_112 : List am_row := [
  (0, .iload_n 2, 1, 0, 0, 0, 0, []),
  (1, .iconst 1, 1, 0, 0, 0, 1, []),
  (2, .iload_n 1, 1, 0, 0, 0, 0, []),
  (3, .ishl, 1, 0, 0, 0, 0, []),
  (4, .iconst (-1), 1, 0, 0, 0, -1, []),
  (5, .ixor, 1, 0, 0, 0, 0, []),
  (6, .iand, 1, 0, 0, 0, 0, []),
  (7, .invokestatic 65, 3, 273, 1, 1, 0, []),
  (10, .ireturn, 1, 0, 0, 0, 0, [])]
/-- yX8_firstNotSo -/
def mt_113 : List am_row := [
  (0, .iconst 0, 1, 0, 0, 0, 0, []),
  (1, .istore_n 3, 1, 0, 0, 0, 0, []),
  (2, .iload_n 3, 1, 0, 0, 0, 0, []),
  (3, .aload_n 1, 1, 0, 0, 0, 0, []),
  (4, .getfield 19, 3, 7, 3, 0, 0, []),
  (7, .if_icmp .ge 30, 3, 21, 0, 0, 0, []),
  (10, .aload_n 1, 1, 0, 0, 0, 0, []),
  (11, .iload_n 3, 1, 0, 0, 0, 0, []),
  (12, .invokevirtual 25, 3, 103, 2, 2, 0, []),
  (15, .l2i, 1, 0, 0, 0, 0, []),
  (16, .istore 4, 2, 0, 0, 0, 0, []),
  (18, .aload_n 0, 1, 0, 0, 0, 0, []),
  (19, .iload_n 3, 1, 0, 0, 0, 0, []),
  (20, .iload 4, 2, 0, 0, 0, 0, []),
  (22, .iload_n 2, 1, 0, 0, 0, 0, []),
  (23, .invokevirtual 71, 3, 114, 4, 1, 0, []),
  (26, .ifCond .ne 5, 3, 19, 0, 0, 0, []),
  (29, .iload_n 3, 1, 0, 0, 0, 0, []),
  (30, .ireturn, 1, 0, 0, 0, 0, []),
  (31, .iinc 3 1, 3, 0, 0, 0, 1, []),
  (34, .goto (-32), 3, 2, 0, 0, 0, []),
  (37, .bipush (-2), 2, 0, 0, 0, -2, []),
  (39, .ireturn, 1, 0, 0, 0, 0, [])]
/-- yX8_isSo -/
def mt_114 : List am_row := [
  (0, .aload_n 0, 1, 0, 0, 0, 0, []),
  (1, .getfield 9, 3, 8, 0, 2, 0, []),
  (4, .iload_n 1, 1, 0, 0, 0, 0, []),
  (5, .invokevirtual 29, 3, 0, 2, 1, 0, []),
  (8, .ifCond .ne 5, 3, 7, 0, 0, 0, []),
  (11, .iconst 0, 1, 0, 0, 0, 0, []),
  (12, .ireturn, 1, 1, 0, 0, 0, []),
  (13, .iload_n 2, 1, 0, 0, 0, 0, []),
  (14, .iconst (-1), 1, 0, 0, 0, -1, []),
  (15, .if_icmp .eq 27, 3, 22, 0, 0, 0, []),
  (18, .aload_n 0, 1, 0, 0, 0, 0, []),
  (19, .getfield 9, 3, 8, 0, 2, 0, []),
  (22, .iload_n 2, 1, 0, 0, 0, 0, []),
  (23, .invokevirtual 74, 3, 1, 2, 1, 0, []),
  (26, .ifCond .eq 20, 3, 24, 0, 0, 0, []),
  (29, .aload_n 0, 1, 0, 0, 0, 0, []),
  (30, .getfield 15, 3, 8, 1, 2, 0, []),
  (33, .iload_n 3, 1, 0, 0, 0, 0, []),
  (34, .iload_n 1, 1, 0, 0, 0, 0, []),
  (35, .invokevirtual 57, 3, 38, 3, 1, 0, []),
  (38, .iload_n 2, 1, 0, 0, 0, 0, []),
  (39, .if_icmp .ne 7, 3, 24, 0, 0, 0, []),
  (42, .iconst 1, 1, 0, 0, 0, 1, []),
  (43, .goto 4, 3, 25, 0, 0, 0, []),
  (46, .iconst 0, 1, 0, 0, 0, 0, []),
  (47, .ireturn, 1, 1, 0, 0, 0, [])]
/-- yX9_version -/
def mt_115 : List am_row := [
  (0, .aload_n 0, 1, 0, 0, 0, 0, []),
  (1, .getfield 13, 3, 9, 0, 2, 0, []),
  (4, .getfield 21, 3, 0, 3, 0, 0, []),
  (7, .aload_n 0, 1, 0, 0, 0, 0, []),
  (8, .getfield 17, 3, 9, 1, 2, 0, []),
  (11, .getfield 27, 3, 5, 7, 0, 0, []),
  (14, .iadd, 1, 0, 0, 0, 0, []),
  (15, .ireturn, 1, 0, 0, 0, 0, [])]
/-- yX9_worthLate -/
def mt_116 : List am_row := [
  (0, .aload_n 0, 1, 0, 0, 0, 0, []),
  (1, .getfield 13, 3, 9, 0, 2, 0, []),
  (4, .iconst 1, 1, 0, 0, 0, 1, []),
  (5, .iload_n 2, 1, 0, 0, 0, 0, []),
  (6, .invokevirtual 30, 3, 4, 3, 1, 0, []),
  (9, .aload_n 0, 1, 0, 0, 0, 0, []),
  (10, .getfield 13, 3, 9, 0, 2, 0, []),
  (13, .iconst 4, 1, 0, 0, 0, 4, []),
  (14, .iload_n 1, 1, 0, 0, 0, 0, []),
  (15, .invokevirtual 30, 3, 4, 3, 1, 0, []),
  (18, .if_icmp .ne 7, 3, 13, 0, 0, 0, []),
  (21, .iconst 1, 1, 0, 0, 0, 1, []),
  (22, .goto 4, 3, 14, 0, 0, 0, []),
  (25, .iconst 0, 1, 0, 0, 0, 0, []),
  (26, .istore 5, 2, 0, 0, 0, 0, []),
  (28, .aload_n 0, 1, 0, 0, 0, 0, []),
  (29, .getfield 17, 3, 9, 1, 2, 0, []),
  (32, .invokevirtual 34, 3, 68, 1, 1, 0, []),
  (35, .ifCond .ne 30, 3, 37, 0, 0, 0, []),
  (38, .iconst 0, 1, 0, 0, 0, 0, []),
  (39, .iconst 3, 1, 0, 0, 0, 3, []),
  (40, .iload_n 3, 1, 0, 0, 0, 0, []),
  (41, .imul, 1, 0, 0, 0, 0, []),
  (42, .iconst 4, 1, 0, 0, 0, 4, []),
  (43, .iload 5, 2, 0, 0, 0, 0, []),
  (45, .imul, 1, 0, 0, 0, 0, []),
  (46, .iadd, 1, 0, 0, 0, 0, []),
  (47, .aload_n 0, 1, 0, 0, 0, 0, []),
  (48, .getfield 13, 3, 9, 0, 2, 0, []),
  (51, .bipush 9, 2, 0, 0, 0, 9, []),
  (53, .iconst 0, 1, 0, 0, 0, 0, []),
  (54, .invokevirtual 30, 3, 4, 3, 1, 0, []),
  (57, .iload 4, 2, 0, 0, 0, 0, []),
  (59, .imul, 1, 0, 0, 0, 0, []),
  (60, .isub, 1, 0, 0, 0, 0, []),
  (61, .invokestatic 38, 3, 1000, 2, 1, 0, []),
  (64, .ireturn, 1, 0, 0, 0, 0, []),
  (65, .aload_n 0, 1, 0, 0, 0, 0, []),
  (66, .getfield 7, 3, 9, 2, 2, 0, []),
  (69, .iconst 0, 1, 0, 0, 0, 0, []),
  (70, .iload_n 3, 1, 0, 0, 0, 0, []),
  (71, .iastore, 1, 0, 0, 0, 0, []),
  (72, .aload_n 0, 1, 0, 0, 0, 0, []),
  (73, .getfield 7, 3, 9, 2, 2, 0, []),
  (76, .iconst 1, 1, 0, 0, 0, 1, []),
  (77, .iload 5, 2, 0, 0, 0, 0, []),
  (79, .iastore, 1, 0, 0, 0, 0, []),
  (80, .aload_n 0, 1, 0, 0, 0, 0, []),
  (81, .getfield 7, 3, 9, 2, 2, 0, []),
  (84, .iconst 2, 1, 0, 0, 0, 2, []),
  (85, .aload_n 0, 1, 0, 0, 0, 0, []),
  (86, .getfield 13, 3, 9, 0, 2, 0, []),
  (89, .iconst 0, 1, 0, 0, 0, 0, []),
  (90, .iload_n 2, 1, 0, 0, 0, 0, []),
  (91, .invokevirtual 30, 3, 4, 3, 1, 0, []),
  (94, .iastore, 1, 0, 0, 0, 0, []),
  (95, .aload_n 0, 1, 0, 0, 0, 0, []),
  (96, .getfield 7, 3, 9, 2, 2, 0, []),
  (99, .iconst 3, 1, 0, 0, 0, 3, []),
  (100, .aload_n 0, 1, 0, 0, 0, 0, []),
  (101, .getfield 13, 3, 9, 0, 2, 0, []),
  (104, .iconst 3, 1, 0, 0, 0, 3, []),
  (105, .iload_n 1, 1, 0, 0, 0, 0, []),
  (106, .invokevirtual 30, 3, 4, 3, 1, 0, []),
  (109, .iastore, 1, 0, 0, 0, 0, []),
  (110, .aload_n 0, 1, 0, 0, 0, 0, []),
  (111, .getfield 7, 3, 9, 2, 2, 0, []),
  (114, .iconst 4, 1, 0, 0, 0, 4, []),
  (115, .iload 4, 2, 0, 0, 0, 0, []),
  (117, .iastore, 1, 0, 0, 0, 0, []),
  (118, .aload_n 0, 1, 0, 0, 0, 0, []),
  (119, .getfield 7, 3, 9, 2, 2, 0, []),
  (122, .iconst 5, 1, 0, 0, 0, 5, []),
  (123, .aload_n 0, 1, 0, 0, 0, 0, []),
  (124, .getfield 13, 3, 9, 0, 2, 0, []),
  (127, .bipush 8, 2, 0, 0, 0, 8, []),
  (129, .iconst 0, 1, 0, 0, 0, 0, []),
  (130, .invokevirtual 30, 3, 4, 3, 1, 0, []),
  (133, .iastore, 1, 0, 0, 0, 0, []),
  (134, .iconst 0, 1, 0, 0, 0, 0, []),
  (135, .bipush 99, 2, 0, 0, 0, 99, []),
  (137, .aload_n 0, 1, 0, 0, 0, 0, []),
  (138, .getfield 17, 3, 9, 1, 2, 0, []),
  (141, .aload_n 0, 1, 0, 0, 0, 0, []),
  (142, .getfield 7, 3, 9, 2, 2, 0, []),
  (145, .invokevirtual 43, 3, 78, 2, 1, 0, []),
  (148, .invokestatic 47, 3, 1001, 2, 1, 0, []),
  (151, .invokestatic 38, 3, 1000, 2, 1, 0, []),
  (154, .ireturn, 1, 0, 0, 0, 0, [])]
/-- yX9_worthEaten -/
def mt_117 : List am_row := [
  (0, .aload_n 0, 1, 0, 0, 0, 0, []),
  (1, .getfield 13, 3, 9, 0, 2, 0, []),
  (4, .iload_n 1, 1, 0, 0, 0, 0, []),
  (5, .iload_n 2, 1, 0, 0, 0, 0, []),
  (6, .invokevirtual 50, 3, 9, 3, 1, 0, []),
  (9, .istore 4, 2, 0, 0, 0, 0, []),
  (11, .iload 4, 2, 0, 0, 0, 0, []),
  (13, .iconst (-1), 1, 0, 0, 0, -1, []),
  (14, .if_icmp .eq 7, 3, 11, 0, 0, 0, []),
  (17, .iload_n 3, 1, 0, 0, 0, 0, []),
  (18, .ifCond .ne 7, 3, 13, 0, 0, 0, []),
  (21, .iconst 0, 1, 0, 0, 0, 0, []),
  (22, .goto 12, 3, 19, 0, 0, 0, []),
  (25, .aload_n 0, 1, 0, 0, 0, 0, []),
  (26, .iload_n 1, 1, 0, 0, 0, 0, []),
  (27, .iload_n 2, 1, 0, 0, 0, 0, []),
  (28, .iload_n 3, 1, 0, 0, 0, 0, []),
  (29, .iload 4, 2, 0, 0, 0, 0, []),
  (31, .invokevirtual 53, 3, 116, 5, 1, 0, []),
  (34, .ireturn, 1, 0, 0, 0, 0, [])]
/-- yX10_door -/
def mt_118 : List am_row := [
  (0, .aload_n 0, 1, 0, 0, 0, 0, []),
  (1, .getfield 10, 3, 10, 0, 2, 0, []),
  (4, .iconst 0, 1, 0, 0, 0, 0, []),
  (5, .iload_n 1, 1, 0, 0, 0, 0, []),
  (6, .invokevirtual 87, 3, 3, 3, 1, 0, []),
  (9, .ifCond .eq 15, 3, 12, 0, 0, 0, []),
  (12, .aload_n 0, 1, 0, 0, 0, 0, []),
  (13, .getfield 10, 3, 10, 0, 2, 0, []),
  (16, .iconst 1, 1, 0, 0, 0, 1, []),
  (17, .iload_n 2, 1, 0, 0, 0, 0, []),
  (18, .invokevirtual 87, 3, 3, 3, 1, 0, []),
  (21, .ifCond .ne 5, 3, 14, 0, 0, 0, []),
  (24, .iconst (-1), 1, 0, 0, 0, -1, []),
  (25, .ireturn, 1, 0, 0, 0, 0, []),
  (26, .aload_n 0, 1, 0, 0, 0, 0, []),
  (27, .getfield 10, 3, 10, 0, 2, 0, []),
  (30, .iload_n 1, 1, 0, 0, 0, 0, []),
  (31, .iload_n 2, 1, 0, 0, 0, 0, []),
  (32, .iconst 1, 1, 0, 0, 0, 1, []),
  (33, .invokevirtual 91, 3, 6, 4, 1, 0, []),
  (36, .ifCond .eq 15, 3, 27, 0, 0, 0, []),
  (39, .aload_n 0, 1, 0, 0, 0, 0, []),
  (40, .getfield 10, 3, 10, 0, 2, 0, []),
  (43, .getfield 95, 3, 0, 1, 0, 0, []),
  (46, .iconst 1, 1, 0, 0, 0, 1, []),
  (47, .isub, 1, 0, 0, 0, 0, []),
  (48, .goto 5, 3, 28, 0, 0, 0, []),
  (51, .bipush (-3), 2, 0, 0, 0, -3, []),
  (53, .ireturn, 1, 0, 0, 0, 0, [])]
/-- yX10_doors -/
def mt_119 : List am_row := [
  (0, .aload_n 0, 1, 0, 0, 0, 0, []),
  (1, .iload_n 1, 1, 0, 0, 0, 0, []),
  (2, .invokevirtual 99, 3, 165, 2, 1, 0, []),
  (5, .ifCond .eq 14, 3, 10, 0, 0, 0, []),
  (8, .iload_n 3, 1, 0, 0, 0, 0, []),
  (9, .iconst 1, 1, 0, 0, 0, 1, []),
  (10, .if_icmp .lt 9, 3, 10, 0, 0, 0, []),
  (13, .iload_n 3, 1, 0, 0, 0, 0, []),
  (14, .bipush 12, 2, 0, 0, 0, 12, []),
  (16, .if_icmp .le 5, 3, 12, 0, 0, 0, []),
  (19, .iconst (-1), 1, 0, 0, 0, -1, []),
  (20, .ireturn, 1, 0, 0, 0, 0, []),
  (21, .aload_n 0, 1, 0, 0, 0, 0, []),
  (22, .getfield 82, 3, 10, 9, 2, 0, []),
  (25, .iload_n 1, 1, 0, 0, 0, 0, []),
  (26, .aaload, 1, 0, 0, 0, 0, []),
  (27, .astore 4, 2, 0, 0, 0, 0, []),
  (29, .aload 4, 2, 0, 0, 0, 0, []),
  (31, .getfield 103, 3, 7, 0, 0, 0, []),
  (34, .ifCond .ne 5, 3, 22, 0, 0, 0, []),
  (37, .iconst 0, 1, 0, 0, 0, 0, []),
  (38, .ireturn, 1, 0, 0, 0, 0, []),
  (39, .aload 4, 2, 0, 0, 0, 0, []),
  (41, .invokevirtual 106, 3, 100, 1, 1, 0, []),
  (44, .ifCond .eq 6, 3, 27, 0, 0, 0, []),
  (47, .bipush (-12), 2, 0, 0, 0, -12, []),
  (49, .ireturn, 1, 0, 0, 0, 0, []),
  (50, .iconst 0, 1, 0, 0, 0, 0, []),
  (51, .istore 5, 2, 0, 0, 0, 0, []),
  (53, .iload 5, 2, 0, 0, 0, 0, []),
  (55, .iload_n 3, 1, 0, 0, 0, 0, []),
  (56, .if_icmp .ge 21, 3, 40, 0, 0, 0, []),
  (59, .aload_n 0, 1, 0, 0, 0, 0, []),
  (60, .aload 4, 2, 0, 0, 0, 0, []),
  (62, .iload_n 2, 1, 0, 0, 0, 0, []),
  (63, .iload 5, 2, 0, 0, 0, 0, []),
  (65, .invokevirtual 110, 3, 167, 4, 1, 0, []),
  (68, .ifCond .eq 9, 3, 40, 0, 0, 0, []),
  (71, .iinc 5 1, 3, 0, 0, 0, 1, []),
  (74, .goto (-21), 3, 29, 0, 0, 0, []),
  (77, .iload 5, 2, 0, 0, 0, 0, []),
  (79, .ireturn, 1, 0, 0, 0, 0, [])]
/-- yX10_child -/
def mt_120 : List am_row := [
  (0, .aload_n 0, 1, 0, 0, 0, 0, []),
  (1, .getfield 10, 3, 10, 0, 2, 0, []),
  (4, .iconst 3, 1, 0, 0, 0, 3, []),
  (5, .iload_n 1, 1, 0, 0, 0, 0, []),
  (6, .invokevirtual 87, 3, 3, 3, 1, 0, []),
  (9, .ifCond .eq 15, 3, 12, 0, 0, 0, []),
  (12, .aload_n 0, 1, 0, 0, 0, 0, []),
  (13, .getfield 10, 3, 10, 0, 2, 0, []),
  (16, .iconst 4, 1, 0, 0, 0, 4, []),
  (17, .iload_n 2, 1, 0, 0, 0, 0, []),
  (18, .invokevirtual 87, 3, 3, 3, 1, 0, []),
  (21, .ifCond .ne 5, 3, 14, 0, 0, 0, []),
  (24, .iconst (-1), 1, 0, 0, 0, -1, []),
  (25, .ireturn, 1, 0, 0, 0, 0, []),
  (26, .aload_n 0, 1, 0, 0, 0, 0, []),
  (27, .getfield 10, 3, 10, 0, 2, 0, []),
  (30, .iload_n 1, 1, 0, 0, 0, 0, []),
  (31, .iload_n 2, 1, 0, 0, 0, 0, []),
  (32, .invokevirtual 114, 3, 7, 3, 1, 0, []),
  (35, .ifCond .eq 15, 3, 26, 0, 0, 0, []),
  (38, .aload_n 0, 1, 0, 0, 0, 0, []),
  (39, .getfield 10, 3, 10, 0, 2, 0, []),
  (42, .getfield 117, 3, 0, 2, 0, 0, []),
  (45, .iconst 1, 1, 0, 0, 0, 1, []),
  (46, .isub, 1, 0, 0, 0, 0, []),
  (47, .goto 5, 3, 27, 0, 0, 0, []),
  (50, .bipush (-3), 2, 0, 0, 0, -3, []),
  (52, .ireturn, 1, 0, 0, 0, 0, [])]
/-- yX10_mend -/
def mt_121 : List am_row := [
  (0, .aload_n 0, 1, 0, 0, 0, 0, []),
  (1, .getfield 10, 3, 10, 0, 2, 0, []),
  (4, .iload_n 2, 1, 0, 0, 0, 0, []),
  (5, .iload_n 1, 1, 0, 0, 0, 0, []),
  (6, .invokevirtual 120, 3, 2, 3, 1, 0, []),
  (9, .ifCond .eq 15, 3, 12, 0, 0, 0, []),
  (12, .aload_n 0, 1, 0, 0, 0, 0, []),
  (13, .getfield 10, 3, 10, 0, 2, 0, []),
  (16, .iload_n 2, 1, 0, 0, 0, 0, []),
  (17, .iload_n 3, 1, 0, 0, 0, 0, []),
  (18, .invokevirtual 87, 3, 3, 3, 1, 0, []),
  (21, .ifCond .ne 5, 3, 14, 0, 0, 0, []),
  (24, .iconst (-1), 1, 0, 0, 0, -1, []),
  (25, .ireturn, 1, 0, 0, 0, 0, []),
  (26, .aload_n 0, 1, 0, 0, 0, 0, []),
  (27, .getfield 10, 3, 10, 0, 2, 0, []),
  (30, .iload_n 2, 1, 0, 0, 0, 0, []),
  (31, .iload_n 1, 1, 0, 0, 0, 0, []),
  (32, .invokevirtual 123, 3, 4, 3, 1, 0, []),
  (35, .istore 4, 2, 0, 0, 0, 0, []),
  (37, .iload 4, 2, 0, 0, 0, 0, []),
  (39, .iload_n 3, 1, 0, 0, 0, 0, []),
  (40, .if_icmp .eq 25, 3, 36, 0, 0, 0, []),
  (43, .aload_n 0, 1, 0, 0, 0, 0, []),
  (44, .getfield 19, 3, 10, 1, 2, 0, []),
  (47, .iload_n 1, 1, 0, 0, 0, 0, []),
  (48, .iload_n 2, 1, 0, 0, 0, 0, []),
  (49, .iload 4, 2, 0, 0, 0, 0, []),
  (51, .iload_n 3, 1, 0, 0, 0, 0, []),
  (52, .invokevirtual 127, 3, 12, 5, 0, 0, []),
  (55, .aload_n 0, 1, 0, 0, 0, 0, []),
  (56, .getfield 10, 3, 10, 0, 2, 0, []),
  (59, .iload_n 2, 1, 0, 0, 0, 0, []),
  (60, .iload_n 1, 1, 0, 0, 0, 0, []),
  (61, .iload_n 3, 1, 0, 0, 0, 0, []),
  (62, .invokevirtual 131, 3, 5, 4, 0, 0, []),
  (65, .iload 4, 2, 0, 0, 0, 0, []),
  (67, .ireturn, 1, 0, 0, 0, 0, [])]
/-- yX10_of -/
def mt_122 : List am_row := [
  (0, .iload_n 2, 1, 0, 0, 0, 0, []),
  (1, .bipush 10, 2, 0, 0, 0, 10, []),
  (3, .if_icmp .ne 27, 3, 15, 0, 0, 0, []),
  (6, .aload_n 0, 1, 0, 0, 0, 0, []),
  (7, .getfield 10, 3, 10, 0, 2, 0, []),
  (10, .iload_n 1, 1, 0, 0, 0, 0, []),
  (11, .invokevirtual 135, 3, 0, 2, 1, 0, []),
  (14, .ifCond .eq 14, 3, 13, 0, 0, 0, []),
  (17, .aload_n 0, 1, 0, 0, 0, 0, []),
  (18, .getfield 69, 3, 10, 7, 2, 0, []),
  (21, .iload_n 1, 1, 0, 0, 0, 0, []),
  (22, .invokevirtual 138, 3, 15, 2, 1, 0, []),
  (25, .goto 4, 3, 14, 0, 0, 0, []),
  (28, .iconst (-1), 1, 0, 0, 0, -1, []),
  (29, .ireturn, 1, 0, 0, 0, 0, []),
  (30, .aload_n 0, 1, 0, 0, 0, 0, []),
  (31, .getfield 10, 3, 10, 0, 2, 0, []),
  (34, .iload_n 2, 1, 0, 0, 0, 0, []),
  (35, .iload_n 1, 1, 0, 0, 0, 0, []),
  (36, .invokevirtual 120, 3, 2, 3, 1, 0, []),
  (39, .ifCond .eq 15, 3, 27, 0, 0, 0, []),
  (42, .aload_n 0, 1, 0, 0, 0, 0, []),
  (43, .getfield 10, 3, 10, 0, 2, 0, []),
  (46, .iload_n 2, 1, 0, 0, 0, 0, []),
  (47, .iload_n 1, 1, 0, 0, 0, 0, []),
  (48, .invokevirtual 123, 3, 4, 3, 1, 0, []),
  (51, .goto 4, 3, 28, 0, 0, 0, []),
  (54, .iconst (-1), 1, 0, 0, 0, -1, []),
  (55, .ireturn, 1, 0, 0, 0, 0, [])]
/-- yX10_feed -/
def mt_123 : List am_row := [
  (0, .iload_n 1, 1, 0, 0, 0, 0, []),
  (1, .ifCond .lt 10, 3, 5, 0, 0, 0, []),
  (4, .iload_n 1, 1, 0, 0, 0, 0, []),
  (5, .sipush 255, 3, 0, 0, 0, 255, []),
  (8, .if_icmp .le 5, 3, 7, 0, 0, 0, []),
  (11, .iconst (-1), 1, 0, 0, 0, -1, []),
  (12, .ireturn, 1, 0, 0, 0, 0, []),
  (13, .aload_n 0, 1, 0, 0, 0, 0, []),
  (14, .getfield 26, 3, 10, 2, 2, 0, []),
  (17, .iload_n 1, 1, 0, 0, 0, 0, []),
  (18, .invokevirtual 142, 3, 66, 2, 1, 0, []),
  (21, .ifCond .eq 13, 3, 16, 0, 0, 0, []),
  (24, .aload_n 0, 1, 0, 0, 0, 0, []),
  (25, .getfield 26, 3, 10, 2, 2, 0, []),
  (28, .getfield 145, 3, 5, 1, 0, 0, []),
  (31, .goto 5, 3, 17, 0, 0, 0, []),
  (34, .bipush (-3), 2, 0, 0, 0, -3, []),
  (36, .ireturn, 1, 0, 0, 0, 0, [])]
/-- yX10_law -/
def mt_124 : List am_row := [
  (0, .aload_n 0, 1, 0, 0, 0, 0, []),
  (1, .getfield 26, 3, 10, 2, 2, 0, []),
  (4, .invokevirtual 148, 3, 67, 1, 1, 0, []),
  (7, .ireturn, 1, 0, 0, 0, 0, [])]
/-- yX10_worth -/
def mt_125 : List am_row := [
  (0, .iload_n 2, 1, 0, 0, 0, 0, []),
  (1, .ifCond .ge 5, 3, 4, 0, 0, 0, []),
  (4, .iconst (-1), 1, 0, 0, 0, -1, []),
  (5, .ireturn, 1, 0, 0, 0, 0, []),
  (6, .iload_n 2, 1, 0, 0, 0, 0, []),
  (7, .bipush 100, 2, 0, 0, 0, 100, []),
  (9, .idiv, 1, 0, 0, 0, 0, []),
  (10, .istore_n 3, 1, 0, 0, 0, 0, []),
  (11, .iload_n 2, 1, 0, 0, 0, 0, []),
  (12, .bipush 100, 2, 0, 0, 0, 100, []),
  (14, .irem, 1, 0, 0, 0, 0, []),
  (15, .istore 4, 2, 0, 0, 0, 0, []),
  (17, .aload_n 0, 1, 0, 0, 0, 0, []),
  (18, .getfield 10, 3, 10, 0, 2, 0, []),
  (21, .iload_n 1, 1, 0, 0, 0, 0, []),
  (22, .invokevirtual 151, 3, 1, 2, 1, 0, []),
  (25, .ifCond .eq 21, 3, 25, 0, 0, 0, []),
  (28, .aload_n 0, 1, 0, 0, 0, 0, []),
  (29, .getfield 10, 3, 10, 0, 2, 0, []),
  (32, .iload_n 3, 1, 0, 0, 0, 0, []),
  (33, .invokevirtual 135, 3, 0, 2, 1, 0, []),
  (36, .ifCond .eq 10, 3, 25, 0, 0, 0, []),
  (39, .iload 4, 2, 0, 0, 0, 0, []),
  (41, .bipush 24, 2, 0, 0, 0, 24, []),
  (43, .if_icmp .le 5, 3, 27, 0, 0, 0, []),
  (46, .iconst (-1), 1, 0, 0, 0, -1, []),
  (47, .ireturn, 1, 0, 0, 0, 0, []),
  (48, .aload_n 0, 1, 0, 0, 0, 0, []),
  (49, .getfield 35, 3, 10, 3, 2, 0, []),
  (52, .iload_n 1, 1, 0, 0, 0, 0, []),
  (53, .iload_n 3, 1, 0, 0, 0, 0, []),
  (54, .aload_n 0, 1, 0, 0, 0, 0, []),
  (55, .getfield 10, 3, 10, 0, 2, 0, []),
  (58, .iconst 2, 1, 0, 0, 0, 2, []),
  (59, .iload_n 3, 1, 0, 0, 0, 0, []),
  (60, .invokevirtual 123, 3, 4, 3, 1, 0, []),
  (63, .iload 4, 2, 0, 0, 0, 0, []),
  (65, .invokevirtual 154, 3, 116, 5, 1, 0, []),
  (68, .ireturn, 1, 0, 0, 0, 0, [])]
/-- yX10_whose -/
def mt_126 : List am_row := [
  (0, .iload_n 1, 1, 0, 0, 0, 0, []),
  (1, .ifCond .lt 27, 3, 14, 0, 0, 0, []),
  (4, .iload_n 1, 1, 0, 0, 0, 0, []),
  (5, .bipush 100, 2, 0, 0, 0, 100, []),
  (7, .idiv, 1, 0, 0, 0, 0, []),
  (8, .invokestatic 158, 3, 163, 1, 1, 0, []),
  (11, .ifCond .eq 17, 3, 14, 0, 0, 0, []),
  (14, .aload_n 0, 1, 0, 0, 0, 0, []),
  (15, .getfield 10, 3, 10, 0, 2, 0, []),
  (18, .iload_n 1, 1, 0, 0, 0, 0, []),
  (19, .bipush 100, 2, 0, 0, 0, 100, []),
  (21, .irem, 1, 0, 0, 0, 0, []),
  (22, .invokevirtual 135, 3, 0, 2, 1, 0, []),
  (25, .ifCond .ne 5, 3, 16, 0, 0, 0, []),
  (28, .iconst (-1), 1, 0, 0, 0, -1, []),
  (29, .ireturn, 1, 0, 0, 0, 0, []),
  (30, .aload_n 0, 1, 0, 0, 0, 0, []),
  (31, .invokevirtual 161, 3, 166, 1, 3, 0, []),
  (34, .iload_n 1, 1, 0, 0, 0, 0, []),
  (35, .bipush 100, 2, 0, 0, 0, 100, []),
  (37, .idiv, 1, 0, 0, 0, 0, []),
  (38, .iload_n 1, 1, 0, 0, 0, 0, []),
  (39, .bipush 100, 2, 0, 0, 0, 100, []),
  (41, .irem, 1, 0, 0, 0, 0, []),
  (42, .invokevirtual 165, 3, 38, 3, 1, 0, []),
  (45, .ireturn, 1, 0, 0, 0, 0, [])]
/-- yX10_all -/
def mt_127 : List am_row := [
  (0, .aload_n 0, 1, 0, 0, 0, 0, []),
  (1, .iload_n 1, 1, 0, 0, 0, 0, []),
  (2, .invokevirtual 168, 3, 164, 2, 1, 0, []),
  (5, .ifCond .eq 21, 3, 14, 0, 0, 0, []),
  (8, .aload_n 0, 1, 0, 0, 0, 0, []),
  (9, .invokevirtual 161, 3, 166, 1, 3, 0, []),
  (12, .iload_n 1, 1, 0, 0, 0, 0, []),
  (13, .bipush 10, 2, 0, 0, 0, 10, []),
  (15, .idiv, 1, 0, 0, 0, 0, []),
  (16, .iload_n 1, 1, 0, 0, 0, 0, []),
  (17, .bipush 10, 2, 0, 0, 0, 10, []),
  (19, .irem, 1, 0, 0, 0, 0, []),
  (20, .invokevirtual 171, 3, 39, 3, 1, 0, []),
  (23, .goto 4, 3, 15, 0, 0, 0, []),
  (26, .iconst (-1), 1, 0, 0, 0, -1, []),
  (27, .ireturn, 1, 0, 0, 0, 0, [])]
/-- yX10_giving -/
def mt_128 : List am_row := [
  (0, .iload_n 1, 1, 0, 0, 0, 0, []),
  (1, .invokestatic 158, 3, 163, 1, 1, 0, []),
  (4, .ifCond .ne 5, 3, 5, 0, 0, 0, []),
  (7, .iconst (-1), 1, 0, 0, 0, -1, []),
  (8, .ireturn, 1, 0, 0, 0, 0, []),
  (9, .iload_n 2, 1, 0, 0, 0, 0, []),
  (10, .tableswitch 53 0 2 #[26, 35, 44], 26, 22, 0, 0, 0, [(0, 7), (1, 12), (2, 17)]),
  (36, .aload_n 0, 1, 0, 0, 0, 0, []),
  (37, .invokevirtual 161, 3, 166, 1, 3, 0, []),
  (40, .iload_n 1, 1, 0, 0, 0, 0, []),
  (41, .invokevirtual 174, 3, 40, 2, 1, 0, []),
  (44, .ireturn, 1, 0, 0, 0, 0, []),
  (45, .aload_n 0, 1, 0, 0, 0, 0, []),
  (46, .invokevirtual 161, 3, 166, 1, 3, 0, []),
  (49, .iload_n 1, 1, 0, 0, 0, 0, []),
  (50, .invokevirtual 177, 3, 44, 2, 1, 0, []),
  (53, .ireturn, 1, 0, 0, 0, 0, []),
  (54, .aload_n 0, 1, 0, 0, 0, 0, []),
  (55, .invokevirtual 161, 3, 166, 1, 3, 0, []),
  (58, .iload_n 1, 1, 0, 0, 0, 0, []),
  (59, .invokevirtual 180, 3, 45, 2, 1, 0, []),
  (62, .ireturn, 1, 0, 0, 0, 0, []),
  (63, .iconst (-1), 1, 0, 0, 0, -1, []),
  (64, .ireturn, 1, 0, 0, 0, 0, [])]
/-- yX10_bestRule -/
def mt_129 : List am_row := [
  (0, .iload_n 1, 1, 0, 0, 0, 0, []),
  (1, .ifCond .eq 10, 3, 7, 0, 0, 0, []),
  (4, .iload_n 1, 1, 0, 0, 0, 0, []),
  (5, .iconst 1, 1, 0, 0, 0, 1, []),
  (6, .if_icmp .eq 5, 3, 7, 0, 0, 0, []),
  (9, .iconst (-1), 1, 0, 0, 0, -1, []),
  (10, .ireturn, 1, 0, 0, 0, 0, []),
  (11, .aload_n 0, 1, 0, 0, 0, 0, []),
  (12, .invokevirtual 161, 3, 166, 1, 3, 0, []),
  (15, .invokevirtual 183, 3, 47, 1, 1, 0, []),
  (18, .istore_n 2, 1, 0, 0, 0, 0, []),
  (19, .iload_n 1, 1, 0, 0, 0, 0, []),
  (20, .ifCond .ne 7, 3, 15, 0, 0, 0, []),
  (23, .iload_n 2, 1, 0, 0, 0, 0, []),
  (24, .goto 11, 3, 19, 0, 0, 0, []),
  (27, .aload_n 0, 1, 0, 0, 0, 0, []),
  (28, .getfield 44, 3, 10, 4, 2, 0, []),
  (31, .iload_n 2, 1, 0, 0, 0, 0, []),
  (32, .invokevirtual 174, 3, 40, 2, 1, 0, []),
  (35, .ireturn, 1, 0, 0, 0, 0, [])]
/-- yX10_fairest -/
def mt_130 : List am_row := [
  (0, .iload_n 1, 1, 0, 0, 0, 0, []),
  (1, .bipush (-2), 2, 0, 0, 0, -2, []),
  (3, .if_icmp .lt 14, 3, 8, 0, 0, 0, []),
  (6, .iload_n 1, 1, 0, 0, 0, 0, []),
  (7, .aload_n 0, 1, 0, 0, 0, 0, []),
  (8, .getfield 10, 3, 10, 0, 2, 0, []),
  (11, .getfield 95, 3, 0, 1, 0, 0, []),
  (14, .if_icmp .lt 5, 3, 10, 0, 0, 0, []),
  (17, .iconst (-1), 1, 0, 0, 0, -1, []),
  (18, .ireturn, 1, 0, 0, 0, 0, []),
  (19, .aload_n 0, 1, 0, 0, 0, 0, []),
  (20, .getfield 53, 3, 10, 5, 2, 0, []),
  (23, .invokevirtual 186, 3, 22, 1, 1, 0, []),
  (26, .ifCond .eq 6, 3, 16, 0, 0, 0, []),
  (29, .bipush (-5), 2, 0, 0, 0, -5, []),
  (31, .ireturn, 1, 0, 0, 0, 0, []),
  (32, .aload_n 0, 1, 0, 0, 0, 0, []),
  (33, .getfield 10, 3, 10, 0, 2, 0, []),
  (36, .getfield 117, 3, 0, 2, 0, 0, []),
  (39, .ifCond .ne 6, 3, 22, 0, 0, 0, []),
  (42, .bipush (-2), 2, 0, 0, 0, -2, []),
  (44, .ireturn, 1, 0, 0, 0, 0, []),
  (45, .aload_n 0, 1, 0, 0, 0, 0, []),
  (46, .getfield 44, 3, 10, 4, 2, 0, []),
  (49, .invokevirtual 190, 3, 30, 1, 0, 0, []),
  (52, .aload_n 0, 1, 0, 0, 0, 0, []),
  (53, .getfield 53, 3, 10, 5, 2, 0, []),
  (56, .invokevirtual 193, 3, 24, 1, 0, 0, []),
  (59, .iload_n 1, 1, 0, 0, 0, 0, []),
  (60, .iconst (-1), 1, 0, 0, 0, -1, []),
  (61, .if_icmp .ne 11, 3, 35, 0, 0, 0, []),
  (64, .aload_n 0, 1, 0, 0, 0, 0, []),
  (65, .getfield 53, 3, 10, 5, 2, 0, []),
  (68, .getfield 196, 3, 3, 7, 0, 0, []),
  (71, .ireturn, 1, 0, 0, 0, 0, []),
  (72, .iload_n 1, 1, 0, 0, 0, 0, []),
  (73, .bipush (-2), 2, 0, 0, 0, -2, []),
  (75, .if_icmp .ne 13, 3, 42, 0, 0, 0, []),
  (78, .aload_n 0, 1, 0, 0, 0, 0, []),
  (79, .getfield 53, 3, 10, 5, 2, 0, []),
  (82, .getfield 199, 3, 3, 8, 0, 0, []),
  (85, .goto 11, 3, 46, 0, 0, 0, []),
  (88, .aload_n 0, 1, 0, 0, 0, 0, []),
  (89, .getfield 53, 3, 10, 5, 2, 0, []),
  (92, .iload_n 1, 1, 0, 0, 0, 0, []),
  (93, .invokevirtual 202, 3, 23, 2, 1, 0, []),
  (96, .ireturn, 1, 0, 0, 0, 0, [])]
/-- yX10_envyFree -/
def mt_131 : List am_row := [
  (0, .aload_n 0, 1, 0, 0, 0, 0, []),
  (1, .getfield 53, 3, 10, 5, 2, 0, []),
  (4, .invokevirtual 186, 3, 22, 1, 1, 0, []),
  (7, .ifCond .eq 6, 3, 6, 0, 0, 0, []),
  (10, .bipush (-5), 2, 0, 0, 0, -5, []),
  (12, .ireturn, 1, 0, 0, 0, 0, []),
  (13, .aload_n 0, 1, 0, 0, 0, 0, []),
  (14, .getfield 10, 3, 10, 0, 2, 0, []),
  (17, .getfield 117, 3, 0, 2, 0, 0, []),
  (20, .ifCond .ne 6, 3, 12, 0, 0, 0, []),
  (23, .bipush (-2), 2, 0, 0, 0, -2, []),
  (25, .ireturn, 1, 0, 0, 0, 0, []),
  (26, .aload_n 0, 1, 0, 0, 0, 0, []),
  (27, .getfield 44, 3, 10, 4, 2, 0, []),
  (30, .invokevirtual 190, 3, 30, 1, 0, 0, []),
  (33, .aload_n 0, 1, 0, 0, 0, 0, []),
  (34, .getfield 53, 3, 10, 5, 2, 0, []),
  (37, .invokevirtual 193, 3, 24, 1, 0, 0, []),
  (40, .aload_n 0, 1, 0, 0, 0, 0, []),
  (41, .getfield 53, 3, 10, 5, 2, 0, []),
  (44, .getfield 204, 3, 3, 9, 0, 0, []),
  (47, .ireturn, 1, 0, 0, 0, 0, [])]
/-- yX10_swap -/
def mt_132 : List am_row := [
  (0, .iload_n 1, 1, 0, 0, 0, 0, []),
  (1, .invokestatic 158, 3, 163, 1, 1, 0, []),
  (4, .ifCond .eq 14, 3, 8, 0, 0, 0, []),
  (7, .aload_n 0, 1, 0, 0, 0, 0, []),
  (8, .invokevirtual 161, 3, 166, 1, 3, 0, []),
  (11, .iload_n 1, 1, 0, 0, 0, 0, []),
  (12, .invokevirtual 207, 3, 48, 2, 1, 0, []),
  (15, .goto 4, 3, 9, 0, 0, 0, []),
  (18, .iconst (-1), 1, 0, 0, 0, -1, []),
  (19, .ireturn, 1, 0, 0, 0, 0, [])]
/-- yX10_swaps -/
def mt_133 : List am_row := [
  (0, .iload_n 1, 1, 0, 0, 0, 0, []),
  (1, .invokestatic 158, 3, 163, 1, 1, 0, []),
  (4, .ifCond .eq 12, 3, 8, 0, 0, 0, []),
  (7, .iload_n 2, 1, 0, 0, 0, 0, []),
  (8, .ifCond .eq 10, 3, 10, 0, 0, 0, []),
  (11, .iload_n 2, 1, 0, 0, 0, 0, []),
  (12, .iconst 1, 1, 0, 0, 0, 1, []),
  (13, .if_icmp .eq 5, 3, 10, 0, 0, 0, []),
  (16, .iconst (-1), 1, 0, 0, 0, -1, []),
  (17, .ireturn, 1, 0, 0, 0, 0, []),
  (18, .aload_n 0, 1, 0, 0, 0, 0, []),
  (19, .invokevirtual 161, 3, 166, 1, 3, 0, []),
  (22, .iload_n 1, 1, 0, 0, 0, 0, []),
  (23, .invokevirtual 210, 3, 51, 2, 1, 0, []),
  (26, .istore_n 3, 1, 0, 0, 0, 0, []),
  (27, .iload_n 2, 1, 0, 0, 0, 0, []),
  (28, .ifCond .ne 7, 3, 19, 0, 0, 0, []),
  (31, .iload_n 3, 1, 0, 0, 0, 0, []),
  (32, .goto 10, 3, 22, 0, 0, 0, []),
  (35, .aload_n 0, 1, 0, 0, 0, 0, []),
  (36, .getfield 44, 3, 10, 4, 2, 0, []),
  (39, .invokevirtual 213, 3, 41, 1, 1, 0, []),
  (42, .ireturn, 1, 0, 0, 0, 0, [])]
/-- yX10_big -/
def mt_134 : List am_row := [
  (0, .iload_n 1, 1, 0, 0, 0, 0, []),
  (1, .invokestatic 158, 3, 163, 1, 1, 0, []),
  (4, .ifCond .eq 19, 3, 11, 0, 0, 0, []),
  (7, .iload_n 2, 1, 0, 0, 0, 0, []),
  (8, .iconst (-1), 1, 0, 0, 0, -1, []),
  (9, .if_icmp .eq 16, 3, 13, 0, 0, 0, []),
  (12, .aload_n 0, 1, 0, 0, 0, 0, []),
  (13, .getfield 10, 3, 10, 0, 2, 0, []),
  (16, .iload_n 2, 1, 0, 0, 0, 0, []),
  (17, .invokevirtual 151, 3, 1, 2, 1, 0, []),
  (20, .ifCond .ne 5, 3, 13, 0, 0, 0, []),
  (23, .iconst (-1), 1, 0, 0, 0, -1, []),
  (24, .ireturn, 1, 0, 0, 0, 0, []),
  (25, .aload_n 0, 1, 0, 0, 0, 0, []),
  (26, .getfield 10, 3, 10, 0, 2, 0, []),
  (29, .getfield 95, 3, 0, 1, 0, 0, []),
  (32, .ifCond .eq 13, 3, 21, 0, 0, 0, []),
  (35, .aload_n 0, 1, 0, 0, 0, 0, []),
  (36, .getfield 10, 3, 10, 0, 2, 0, []),
  (39, .getfield 117, 3, 0, 2, 0, 0, []),
  (42, .ifCond .ne 6, 3, 23, 0, 0, 0, []),
  (45, .bipush (-2), 2, 0, 0, 0, -2, []),
  (47, .ireturn, 1, 0, 0, 0, 0, []),
  (48, .aload_n 0, 1, 0, 0, 0, 0, []),
  (49, .invokevirtual 161, 3, 166, 1, 3, 0, []),
  (52, .iload_n 1, 1, 0, 0, 0, 0, []),
  (53, .invokevirtual 216, 3, 53, 2, 0, 0, []),
  (56, .iload_n 2, 1, 0, 0, 0, 0, []),
  (57, .iconst (-1), 1, 0, 0, 0, -1, []),
  (58, .if_icmp .ne 13, 3, 34, 0, 0, 0, []),
  (61, .aload_n 0, 1, 0, 0, 0, 0, []),
  (62, .getfield 44, 3, 10, 4, 2, 0, []),
  (65, .invokevirtual 213, 3, 41, 1, 1, 0, []),
  (68, .goto 11, 3, 38, 0, 0, 0, []),
  (71, .aload_n 0, 1, 0, 0, 0, 0, []),
  (72, .getfield 44, 3, 10, 4, 2, 0, []),
  (75, .iload_n 2, 1, 0, 0, 0, 0, []),
  (76, .invokevirtual 220, 3, 42, 2, 1, 0, []),
  (79, .ireturn, 1, 0, 0, 0, 0, [])]
/-- yX10_away -/
def mt_135 : List am_row := [
  (0, .aload_n 0, 1, 0, 0, 0, 0, []),
  (1, .iload_n 1, 1, 0, 0, 0, 0, []),
  (2, .invokevirtual 168, 3, 164, 2, 1, 0, []),
  (5, .ifCond .ne 5, 3, 6, 0, 0, 0, []),
  (8, .iconst (-1), 1, 0, 0, 0, -1, []),
  (9, .ireturn, 1, 0, 0, 0, 0, []),
  (10, .iload_n 2, 1, 0, 0, 0, 0, []),
  (11, .tableswitch 69 0 2 #[25, 37, 53], 25, 35, 0, 0, 0, [(0, 8), (1, 15), (2, 25)]),
  (36, .aload_n 0, 1, 0, 0, 0, 0, []),
  (37, .getfield 10, 3, 10, 0, 2, 0, []),
  (40, .iload_n 1, 1, 0, 0, 0, 0, []),
  (41, .bipush 10, 2, 0, 0, 0, 10, []),
  (43, .irem, 1, 0, 0, 0, 0, []),
  (44, .invokevirtual 223, 3, 10, 2, 1, 0, []),
  (47, .ireturn, 1, 0, 0, 0, 0, []),
  (48, .aload_n 0, 1, 0, 0, 0, 0, []),
  (49, .invokevirtual 161, 3, 166, 1, 3, 0, []),
  (52, .iload_n 1, 1, 0, 0, 0, 0, []),
  (53, .bipush 10, 2, 0, 0, 0, 10, []),
  (55, .idiv, 1, 0, 0, 0, 0, []),
  (56, .iload_n 1, 1, 0, 0, 0, 0, []),
  (57, .bipush 10, 2, 0, 0, 0, 10, []),
  (59, .irem, 1, 0, 0, 0, 0, []),
  (60, .invokevirtual 226, 3, 54, 3, 1, 0, []),
  (63, .ireturn, 1, 0, 0, 0, 0, []),
  (64, .aload_n 0, 1, 0, 0, 0, 0, []),
  (65, .invokevirtual 161, 3, 166, 1, 3, 0, []),
  (68, .iload_n 1, 1, 0, 0, 0, 0, []),
  (69, .bipush 10, 2, 0, 0, 0, 10, []),
  (71, .idiv, 1, 0, 0, 0, 0, []),
  (72, .iload_n 1, 1, 0, 0, 0, 0, []),
  (73, .bipush 10, 2, 0, 0, 0, 10, []),
  (75, .irem, 1, 0, 0, 0, 0, []),
  (76, .invokevirtual 229, 3, 55, 3, 1, 0, []),
  (79, .ireturn, 1, 0, 0, 0, 0, []),
  (80, .iconst (-1), 1, 0, 0, 0, -1, []),
  (81, .ireturn, 1, 0, 0, 0, 0, [])]
/-- yX10_gather -/
def mt_136 : List am_row := [
  (0, .aload_n 0, 1, 0, 0, 0, 0, []),
  (1, .iload_n 1, 1, 0, 0, 0, 0, []),
  (2, .invokevirtual 168, 3, 164, 2, 1, 0, []),
  (5, .ifCond .eq 13, 3, 9, 0, 0, 0, []),
  (8, .iload_n 2, 1, 0, 0, 0, 0, []),
  (9, .ifCond .lt 9, 3, 9, 0, 0, 0, []),
  (12, .iload_n 2, 1, 0, 0, 0, 0, []),
  (13, .bipush 9, 2, 0, 0, 0, 9, []),
  (15, .if_icmp .le 5, 3, 11, 0, 0, 0, []),
  (18, .iconst (-1), 1, 0, 0, 0, -1, []),
  (19, .ireturn, 1, 0, 0, 0, 0, []),
  (20, .aload_n 0, 1, 0, 0, 0, 0, []),
  (21, .invokevirtual 161, 3, 166, 1, 3, 0, []),
  (24, .iload_n 1, 1, 0, 0, 0, 0, []),
  (25, .bipush 10, 2, 0, 0, 0, 10, []),
  (27, .idiv, 1, 0, 0, 0, 0, []),
  (28, .iload_n 1, 1, 0, 0, 0, 0, []),
  (29, .bipush 10, 2, 0, 0, 0, 10, []),
  (31, .irem, 1, 0, 0, 0, 0, []),
  (32, .invokevirtual 232, 3, 57, 3, 0, 0, []),
  (35, .iload_n 2, 1, 0, 0, 0, 0, []),
  (36, .ifCond .ne 17, 3, 29, 0, 0, 0, []),
  (39, .aload_n 0, 1, 0, 0, 0, 0, []),
  (40, .getfield 44, 3, 10, 4, 2, 0, []),
  (43, .iload_n 1, 1, 0, 0, 0, 0, []),
  (44, .bipush 10, 2, 0, 0, 0, 10, []),
  (46, .irem, 1, 0, 0, 0, 0, []),
  (47, .invokevirtual 236, 3, 59, 2, 1, 0, []),
  (50, .goto 15, 3, 36, 0, 0, 0, []),
  (53, .aload_n 0, 1, 0, 0, 0, 0, []),
  (54, .getfield 44, 3, 10, 4, 2, 0, []),
  (57, .iload_n 1, 1, 0, 0, 0, 0, []),
  (58, .bipush 10, 2, 0, 0, 0, 10, []),
  (60, .irem, 1, 0, 0, 0, 0, []),
  (61, .iload_n 2, 1, 0, 0, 0, 0, []),
  (62, .invokevirtual 239, 3, 58, 3, 1, 0, []),
  (65, .ireturn, 1, 0, 0, 0, 0, [])]
/-- yX10_waits -/
def mt_137 : List am_row := [
  (0, .aload_n 0, 1, 0, 0, 0, 0, []),
  (1, .iload_n 1, 1, 0, 0, 0, 0, []),
  (2, .invokevirtual 168, 3, 164, 2, 1, 0, []),
  (5, .ifCond .eq 12, 3, 9, 0, 0, 0, []),
  (8, .iload_n 2, 1, 0, 0, 0, 0, []),
  (9, .ifCond .eq 10, 3, 11, 0, 0, 0, []),
  (12, .iload_n 2, 1, 0, 0, 0, 0, []),
  (13, .iconst 1, 1, 0, 0, 0, 1, []),
  (14, .if_icmp .eq 5, 3, 11, 0, 0, 0, []),
  (17, .iconst (-1), 1, 0, 0, 0, -1, []),
  (18, .ireturn, 1, 0, 0, 0, 0, []),
  (19, .aload_n 0, 1, 0, 0, 0, 0, []),
  (20, .getfield 10, 3, 10, 0, 2, 0, []),
  (23, .iload_n 1, 1, 0, 0, 0, 0, []),
  (24, .bipush 10, 2, 0, 0, 0, 10, []),
  (26, .irem, 1, 0, 0, 0, 0, []),
  (27, .invokevirtual 242, 3, 11, 2, 1, 0, []),
  (30, .istore_n 3, 1, 0, 0, 0, 0, []),
  (31, .iload_n 2, 1, 0, 0, 0, 0, []),
  (32, .ifCond .ne 7, 3, 22, 0, 0, 0, []),
  (35, .iload_n 3, 1, 0, 0, 0, 0, []),
  (36, .goto 19, 3, 32, 0, 0, 0, []),
  (39, .aload_n 0, 1, 0, 0, 0, 0, []),
  (40, .invokevirtual 161, 3, 166, 1, 3, 0, []),
  (43, .iload_n 1, 1, 0, 0, 0, 0, []),
  (44, .bipush 10, 2, 0, 0, 0, 10, []),
  (46, .idiv, 1, 0, 0, 0, 0, []),
  (47, .iload_n 1, 1, 0, 0, 0, 0, []),
  (48, .bipush 10, 2, 0, 0, 0, 10, []),
  (50, .irem, 1, 0, 0, 0, 0, []),
  (51, .iload_n 3, 1, 0, 0, 0, 0, []),
  (52, .invokevirtual 245, 3, 56, 4, 1, 0, []),
  (55, .ireturn, 1, 0, 0, 0, 0, [])]
/-- yX10_atFive -/
def mt_138 : List am_row := [
  (0, .aload_n 0, 1, 0, 0, 0, 0, []),
  (1, .iload_n 1, 1, 0, 0, 0, 0, []),
  (2, .invokevirtual 99, 3, 165, 2, 1, 0, []),
  (5, .ifCond .eq 33, 3, 18, 0, 0, 0, []),
  (8, .aload_n 0, 1, 0, 0, 0, 0, []),
  (9, .getfield 10, 3, 10, 0, 2, 0, []),
  (12, .iconst 0, 1, 0, 0, 0, 0, []),
  (13, .iload_n 2, 1, 0, 0, 0, 0, []),
  (14, .invokevirtual 87, 3, 3, 3, 1, 0, []),
  (17, .ifCond .eq 21, 3, 18, 0, 0, 0, []),
  (20, .iload_n 3, 1, 0, 0, 0, 0, []),
  (21, .invokestatic 158, 3, 163, 1, 1, 0, []),
  (24, .ifCond .eq 14, 3, 18, 0, 0, 0, []),
  (27, .iload 4, 2, 0, 0, 0, 0, []),
  (29, .ifCond .lt 9, 3, 18, 0, 0, 0, []),
  (32, .iload 4, 2, 0, 0, 0, 0, []),
  (34, .iconst 2, 1, 0, 0, 0, 2, []),
  (35, .if_icmp .le 5, 3, 20, 0, 0, 0, []),
  (38, .iconst (-1), 1, 0, 0, 0, -1, []),
  (39, .ireturn, 1, 0, 0, 0, 0, []),
  (40, .aload_n 0, 1, 0, 0, 0, 0, []),
  (41, .getfield 82, 3, 10, 9, 2, 0, []),
  (44, .iload_n 1, 1, 0, 0, 0, 0, []),
  (45, .aaload, 1, 0, 0, 0, 0, []),
  (46, .astore 5, 2, 0, 0, 0, 0, []),
  (48, .aload 5, 2, 0, 0, 0, 0, []),
  (50, .invokevirtual 106, 3, 100, 1, 1, 0, []),
  (53, .istore 6, 2, 0, 0, 0, 0, []),
  (55, .iload 6, 2, 0, 0, 0, 0, []),
  (57, .ifCond .eq 6, 3, 32, 0, 0, 0, []),
  (60, .iload 6, 2, 0, 0, 0, 0, []),
  (62, .ireturn, 1, 0, 0, 0, 0, []),
  (63, .iload 4, 2, 0, 0, 0, 0, []),
  (65, .ifCond .ne 17, 3, 41, 0, 0, 0, []),
  (68, .aload_n 0, 1, 0, 0, 0, 0, []),
  (69, .getfield 60, 3, 10, 6, 2, 0, []),
  (72, .aload 5, 2, 0, 0, 0, 0, []),
  (74, .iload_n 2, 1, 0, 0, 0, 0, []),
  (75, .invokevirtual 249, 3, 107, 3, 1, 0, []),
  (78, .invokestatic 253, 3, 273, 1, 1, 0, []),
  (81, .ireturn, 1, 0, 0, 0, 0, []),
  (82, .aload_n 0, 1, 0, 0, 0, 0, []),
  (83, .getfield 44, 3, 10, 4, 2, 0, []),
  (86, .invokevirtual 190, 3, 30, 1, 0, 0, []),
  (89, .aload_n 0, 1, 0, 0, 0, 0, []),
  (90, .getfield 60, 3, 10, 6, 2, 0, []),
  (93, .aload 5, 2, 0, 0, 0, 0, []),
  (95, .iload_n 2, 1, 0, 0, 0, 0, []),
  (96, .iload_n 3, 1, 0, 0, 0, 0, []),
  (97, .invokevirtual 258, 3, 108, 4, 1, 0, []),
  (100, .istore 7, 2, 0, 0, 0, 0, []),
  (102, .iload 4, 2, 0, 0, 0, 0, []),
  (104, .iconst 1, 1, 0, 0, 0, 1, []),
  (105, .if_icmp .ne 8, 3, 56, 0, 0, 0, []),
  (108, .iload 7, 2, 0, 0, 0, 0, []),
  (110, .goto 12, 3, 60, 0, 0, 0, []),
  (113, .aload_n 0, 1, 0, 0, 0, 0, []),
  (114, .getfield 60, 3, 10, 6, 2, 0, []),
  (117, .iload 7, 2, 0, 0, 0, 0, []),
  (119, .invokevirtual 262, 3, 110, 2, 1, 0, []),
  (122, .ireturn, 1, 0, 0, 0, 0, [])]
/-- yX10_guard -/
def mt_139 : List am_row := [
  (0, .aload_n 0, 1, 0, 0, 0, 0, []),
  (1, .iload_n 1, 1, 0, 0, 0, 0, []),
  (2, .invokevirtual 99, 3, 165, 2, 1, 0, []),
  (5, .ifCond .eq 33, 3, 18, 0, 0, 0, []),
  (8, .aload_n 0, 1, 0, 0, 0, 0, []),
  (9, .getfield 10, 3, 10, 0, 2, 0, []),
  (12, .iconst 0, 1, 0, 0, 0, 0, []),
  (13, .iload_n 2, 1, 0, 0, 0, 0, []),
  (14, .invokevirtual 87, 3, 3, 3, 1, 0, []),
  (17, .ifCond .eq 21, 3, 18, 0, 0, 0, []),
  (20, .iload_n 3, 1, 0, 0, 0, 0, []),
  (21, .invokestatic 158, 3, 163, 1, 1, 0, []),
  (24, .ifCond .eq 14, 3, 18, 0, 0, 0, []),
  (27, .iload 4, 2, 0, 0, 0, 0, []),
  (29, .ifCond .eq 11, 3, 20, 0, 0, 0, []),
  (32, .iload 4, 2, 0, 0, 0, 0, []),
  (34, .iconst 1, 1, 0, 0, 0, 1, []),
  (35, .if_icmp .eq 5, 3, 20, 0, 0, 0, []),
  (38, .iconst (-1), 1, 0, 0, 0, -1, []),
  (39, .ireturn, 1, 0, 0, 0, 0, []),
  (40, .aload_n 0, 1, 0, 0, 0, 0, []),
  (41, .getfield 82, 3, 10, 9, 2, 0, []),
  (44, .iload_n 1, 1, 0, 0, 0, 0, []),
  (45, .aaload, 1, 0, 0, 0, 0, []),
  (46, .astore 5, 2, 0, 0, 0, 0, []),
  (48, .aload 5, 2, 0, 0, 0, 0, []),
  (50, .invokevirtual 106, 3, 100, 1, 1, 0, []),
  (53, .istore 6, 2, 0, 0, 0, 0, []),
  (55, .iload 6, 2, 0, 0, 0, 0, []),
  (57, .ifCond .eq 6, 3, 32, 0, 0, 0, []),
  (60, .iload 6, 2, 0, 0, 0, 0, []),
  (62, .ireturn, 1, 0, 0, 0, 0, []),
  (63, .aload_n 0, 1, 0, 0, 0, 0, []),
  (64, .getfield 10, 3, 10, 0, 2, 0, []),
  (67, .getfield 117, 3, 0, 2, 0, 0, []),
  (70, .ifCond .ne 6, 3, 38, 0, 0, 0, []),
  (73, .bipush (-2), 2, 0, 0, 0, -2, []),
  (75, .ireturn, 1, 0, 0, 0, 0, []),
  (76, .aload_n 0, 1, 0, 0, 0, 0, []),
  (77, .getfield 44, 3, 10, 4, 2, 0, []),
  (80, .invokevirtual 190, 3, 30, 1, 0, 0, []),
  (83, .aload_n 0, 1, 0, 0, 0, 0, []),
  (84, .getfield 60, 3, 10, 6, 2, 0, []),
  (87, .aload 5, 2, 0, 0, 0, 0, []),
  (89, .iload_n 2, 1, 0, 0, 0, 0, []),
  (90, .iload_n 3, 1, 0, 0, 0, 0, []),
  (91, .invokevirtual 258, 3, 108, 4, 1, 0, []),
  (94, .istore 7, 2, 0, 0, 0, 0, []),
  (96, .aload_n 0, 1, 0, 0, 0, 0, []),
  (97, .getfield 60, 3, 10, 6, 2, 0, []),
  (100, .iload 7, 2, 0, 0, 0, 0, []),
  (102, .invokevirtual 265, 3, 111, 2, 1, 0, []),
  (105, .istore 8, 2, 0, 0, 0, 0, []),
  (107, .iload 4, 2, 0, 0, 0, 0, []),
  (109, .ifCond .ne 8, 3, 57, 0, 0, 0, []),
  (112, .iload 8, 2, 0, 0, 0, 0, []),
  (114, .goto 14, 3, 62, 0, 0, 0, []),
  (117, .aload_n 0, 1, 0, 0, 0, 0, []),
  (118, .getfield 60, 3, 10, 6, 2, 0, []),
  (121, .iload 8, 2, 0, 0, 0, 0, []),
  (123, .iload 7, 2, 0, 0, 0, 0, []),
  (125, .invokevirtual 268, 3, 112, 3, 1, 0, []),
  (128, .ireturn, 1, 0, 0, 0, 0, [])]
/-- yX10_judge -/
def mt_140 : List am_row := [
  (0, .aload_n 0, 1, 0, 0, 0, 0, []),
  (1, .iload_n 1, 1, 0, 0, 0, 0, []),
  (2, .invokevirtual 99, 3, 165, 2, 1, 0, []),
  (5, .ifCond .eq 10, 3, 7, 0, 0, 0, []),
  (8, .iload_n 2, 1, 0, 0, 0, 0, []),
  (9, .invokestatic 158, 3, 163, 1, 1, 0, []),
  (12, .ifCond .ne 5, 3, 9, 0, 0, 0, []),
  (15, .iconst (-1), 1, 0, 0, 0, -1, []),
  (16, .ireturn, 1, 0, 0, 0, 0, []),
  (17, .aload_n 0, 1, 0, 0, 0, 0, []),
  (18, .getfield 82, 3, 10, 9, 2, 0, []),
  (21, .iload_n 1, 1, 0, 0, 0, 0, []),
  (22, .aaload, 1, 0, 0, 0, 0, []),
  (23, .invokevirtual 106, 3, 100, 1, 1, 0, []),
  (26, .istore_n 3, 1, 0, 0, 0, 0, []),
  (27, .iload_n 3, 1, 0, 0, 0, 0, []),
  (28, .ifCond .eq 5, 3, 19, 0, 0, 0, []),
  (31, .iload_n 3, 1, 0, 0, 0, 0, []),
  (32, .ireturn, 1, 0, 0, 0, 0, []),
  (33, .aload_n 0, 1, 0, 0, 0, 0, []),
  (34, .getfield 44, 3, 10, 4, 2, 0, []),
  (37, .invokevirtual 190, 3, 30, 1, 0, 0, []),
  (40, .aload_n 0, 1, 0, 0, 0, 0, []),
  (41, .getfield 60, 3, 10, 6, 2, 0, []),
  (44, .aload_n 0, 1, 0, 0, 0, 0, []),
  (45, .getfield 82, 3, 10, 9, 2, 0, []),
  (48, .iload_n 1, 1, 0, 0, 0, 0, []),
  (49, .aaload, 1, 0, 0, 0, 0, []),
  (50, .iload_n 2, 1, 0, 0, 0, 0, []),
  (51, .invokevirtual 271, 3, 113, 3, 1, 0, []),
  (54, .ireturn, 1, 0, 0, 0, 0, [])]
/-- yX10_byWhat -/
def mt_141 : List am_row := [
  (0, .aload_n 0, 1, 0, 0, 0, 0, []),
  (1, .iload_n 1, 1, 0, 0, 0, 0, []),
  (2, .invokevirtual 99, 3, 165, 2, 1, 0, []),
  (5, .ifCond .ne 5, 3, 6, 0, 0, 0, []),
  (8, .iconst (-1), 1, 0, 0, 0, -1, []),
  (9, .ireturn, 1, 0, 0, 0, 0, []),
  (10, .aload_n 0, 1, 0, 0, 0, 0, []),
  (11, .getfield 82, 3, 10, 9, 2, 0, []),
  (14, .iload_n 1, 1, 0, 0, 0, 0, []),
  (15, .aaload, 1, 0, 0, 0, 0, []),
  (16, .invokevirtual 106, 3, 100, 1, 1, 0, []),
  (19, .istore_n 2, 1, 0, 0, 0, 0, []),
  (20, .iload_n 2, 1, 0, 0, 0, 0, []),
  (21, .ifCond .eq 5, 3, 16, 0, 0, 0, []),
  (24, .iload_n 2, 1, 0, 0, 0, 0, []),
  (25, .ireturn, 1, 0, 0, 0, 0, []),
  (26, .aload_n 0, 1, 0, 0, 0, 0, []),
  (27, .getfield 44, 3, 10, 4, 2, 0, []),
  (30, .invokevirtual 190, 3, 30, 1, 0, 0, []),
  (33, .iconst 0, 1, 0, 0, 0, 0, []),
  (34, .istore_n 3, 1, 0, 0, 0, 0, []),
  (35, .iconst 0, 1, 0, 0, 0, 0, []),
  (36, .istore 4, 2, 0, 0, 0, 0, []),
  (38, .iload 4, 2, 0, 0, 0, 0, []),
  (40, .iconst 5, 1, 0, 0, 0, 5, []),
  (41, .if_icmp .ge 36, 3, 44, 0, 0, 0, []),
  (44, .aload_n 0, 1, 0, 0, 0, 0, []),
  (45, .getfield 60, 3, 10, 6, 2, 0, []),
  (48, .aload_n 0, 1, 0, 0, 0, 0, []),
  (49, .getfield 82, 3, 10, 9, 2, 0, []),
  (52, .iload_n 1, 1, 0, 0, 0, 0, []),
  (53, .aaload, 1, 0, 0, 0, 0, []),
  (54, .iload 4, 2, 0, 0, 0, 0, []),
  (56, .invokevirtual 271, 3, 113, 3, 1, 0, []),
  (59, .bipush (-2), 2, 0, 0, 0, -2, []),
  (61, .if_icmp .ne 10, 3, 42, 0, 0, 0, []),
  (64, .iload_n 3, 1, 0, 0, 0, 0, []),
  (65, .iconst 1, 1, 0, 0, 0, 1, []),
  (66, .iload 4, 2, 0, 0, 0, 0, []),
  (68, .ishl, 1, 0, 0, 0, 0, []),
  (69, .ior, 1, 0, 0, 0, 0, []),
  (70, .istore_n 3, 1, 0, 0, 0, 0, []),
  (71, .iinc 4 1, 3, 0, 0, 0, 1, []),
  (74, .goto (-36), 3, 23, 0, 0, 0, []),
  (77, .iload_n 3, 1, 0, 0, 0, 0, []),
  (78, .ireturn, 1, 0, 0, 0, 0, [])]
/-- yX10_second -/
def mt_142 : List am_row := [
  (0, .iload_n 1, 1, 0, 0, 0, 0, []),
  (1, .invokestatic 158, 3, 163, 1, 1, 0, []),
  (4, .ifCond .eq 15, 3, 9, 0, 0, 0, []),
  (7, .aload_n 0, 1, 0, 0, 0, 0, []),
  (8, .getfield 10, 3, 10, 0, 2, 0, []),
  (11, .iconst 2, 1, 0, 0, 0, 2, []),
  (12, .iload_n 2, 1, 0, 0, 0, 0, []),
  (13, .invokevirtual 87, 3, 3, 3, 1, 0, []),
  (16, .ifCond .ne 5, 3, 11, 0, 0, 0, []),
  (19, .iconst (-1), 1, 0, 0, 0, -1, []),
  (20, .ireturn, 1, 0, 0, 0, 0, []),
  (21, .aload_n 0, 1, 0, 0, 0, 0, []),
  (22, .invokevirtual 161, 3, 166, 1, 3, 0, []),
  (25, .iload_n 1, 1, 0, 0, 0, 0, []),
  (26, .iload_n 2, 1, 0, 0, 0, 0, []),
  (27, .invokevirtual 274, 3, 60, 3, 0, 0, []),
  (30, .aload_n 0, 1, 0, 0, 0, 0, []),
  (31, .getfield 44, 3, 10, 4, 2, 0, []),
  (34, .invokevirtual 213, 3, 41, 1, 1, 0, []),
  (37, .ireturn, 1, 0, 0, 0, 0, [])]
/-- yX10_pairs -/
def mt_143 : List am_row := [
  (0, .iload_n 1, 1, 0, 0, 0, 0, []),
  (1, .invokestatic 158, 3, 163, 1, 1, 0, []),
  (4, .ifCond .eq 12, 3, 8, 0, 0, 0, []),
  (7, .iload_n 2, 1, 0, 0, 0, 0, []),
  (8, .ifCond .eq 10, 3, 10, 0, 0, 0, []),
  (11, .iload_n 2, 1, 0, 0, 0, 0, []),
  (12, .iconst 1, 1, 0, 0, 0, 1, []),
  (13, .if_icmp .eq 5, 3, 10, 0, 0, 0, []),
  (16, .iconst (-1), 1, 0, 0, 0, -1, []),
  (17, .ireturn, 1, 0, 0, 0, 0, []),
  (18, .aload_n 0, 1, 0, 0, 0, 0, []),
  (19, .invokevirtual 161, 3, 166, 1, 3, 0, []),
  (22, .iload_n 1, 1, 0, 0, 0, 0, []),
  (23, .invokevirtual 277, 3, 61, 2, 1, 0, []),
  (26, .istore_n 3, 1, 0, 0, 0, 0, []),
  (27, .iload_n 2, 1, 0, 0, 0, 0, []),
  (28, .ifCond .ne 5, 3, 19, 0, 0, 0, []),
  (31, .iload_n 3, 1, 0, 0, 0, 0, []),
  (32, .ireturn, 1, 0, 0, 0, 0, []),
  (33, .iload_n 3, 1, 0, 0, 0, 0, []),
  (34, .bipush (-2), 2, 0, 0, 0, -2, []),
  (36, .if_icmp .ne 7, 3, 24, 0, 0, 0, []),
  (39, .iconst 0, 1, 0, 0, 0, 0, []),
  (40, .goto 19, 3, 34, 0, 0, 0, []),
  (43, .aload_n 0, 1, 0, 0, 0, 0, []),
  (44, .getfield 44, 3, 10, 4, 2, 0, []),
  (47, .iload_n 1, 1, 0, 0, 0, 0, []),
  (48, .iload_n 3, 1, 0, 0, 0, 0, []),
  (49, .bipush 10, 2, 0, 0, 0, 10, []),
  (51, .idiv, 1, 0, 0, 0, 0, []),
  (52, .iload_n 3, 1, 0, 0, 0, 0, []),
  (53, .bipush 10, 2, 0, 0, 0, 10, []),
  (55, .irem, 1, 0, 0, 0, 0, []),
  (56, .invokevirtual 280, 3, 62, 4, 1, 0, []),
  (59, .ireturn, 1, 0, 0, 0, 0, [])]
/-- yX10_drawn -/
def mt_144 : List am_row := [
  (0, .iload_n 2, 1, 0, 0, 0, 0, []),
  (1, .iconst 1, 1, 0, 0, 0, 1, []),
  (2, .if_icmp .lt 25, 3, 14, 0, 0, 0, []),
  (5, .iload_n 2, 1, 0, 0, 0, 0, []),
  (6, .bipush 50, 2, 0, 0, 0, 50, []),
  (8, .if_icmp .gt 19, 3, 14, 0, 0, 0, []),
  (11, .iload_n 3, 1, 0, 0, 0, 0, []),
  (12, .iconst (-1), 1, 0, 0, 0, -1, []),
  (13, .if_icmp .eq 16, 3, 16, 0, 0, 0, []),
  (16, .aload_n 0, 1, 0, 0, 0, 0, []),
  (17, .getfield 10, 3, 10, 0, 2, 0, []),
  (20, .iload_n 3, 1, 0, 0, 0, 0, []),
  (21, .invokevirtual 151, 3, 1, 2, 1, 0, []),
  (24, .ifCond .ne 5, 3, 16, 0, 0, 0, []),
  (27, .iconst (-1), 1, 0, 0, 0, -1, []),
  (28, .ireturn, 1, 0, 0, 0, 0, []),
  (29, .aload_n 0, 1, 0, 0, 0, 0, []),
  (30, .invokevirtual 161, 3, 166, 1, 3, 0, []),
  (33, .iload_n 1, 1, 0, 0, 0, 0, []),
  (34, .iload_n 2, 1, 0, 0, 0, 0, []),
  (35, .iload_n 3, 1, 0, 0, 0, 0, []),
  (36, .invokevirtual 283, 3, 63, 4, 1, 0, []),
  (39, .ireturn, 1, 0, 0, 0, 0, [])]
/-- yX10_day -/
def mt_145 : List am_row := [
  (0, .aload_n 0, 1, 0, 0, 0, 0, []),
  (1, .getfield 69, 3, 10, 7, 2, 0, []),
  (4, .invokevirtual 286, 3, 16, 1, 1, 0, []),
  (7, .ifCond .eq 13, 3, 8, 0, 0, 0, []),
  (10, .aload_n 0, 1, 0, 0, 0, 0, []),
  (11, .getfield 69, 3, 10, 7, 2, 0, []),
  (14, .getfield 289, 3, 2, 2, 0, 0, []),
  (17, .goto 5, 3, 9, 0, 0, 0, []),
  (20, .bipush (-5), 2, 0, 0, 0, -5, []),
  (22, .ireturn, 1, 0, 0, 0, 0, [])]
/-- yX10_open -/
def mt_146 : List am_row := [
  (0, .aload_n 0, 1, 0, 0, 0, 0, []),
  (1, .getfield 10, 3, 10, 0, 2, 0, []),
  (4, .iload_n 1, 1, 0, 0, 0, 0, []),
  (5, .invokevirtual 151, 3, 1, 2, 1, 0, []),
  (8, .ifCond .eq 14, 3, 10, 0, 0, 0, []),
  (11, .aload_n 0, 1, 0, 0, 0, 0, []),
  (12, .getfield 10, 3, 10, 0, 2, 0, []),
  (15, .iload_n 2, 1, 0, 0, 0, 0, []),
  (16, .invokevirtual 135, 3, 0, 2, 1, 0, []),
  (19, .ifCond .ne 5, 3, 12, 0, 0, 0, []),
  (22, .iconst (-1), 1, 0, 0, 0, -1, []),
  (23, .ireturn, 1, 0, 0, 0, 0, []),
  (24, .aload_n 0, 1, 0, 0, 0, 0, []),
  (25, .getfield 69, 3, 10, 7, 2, 0, []),
  (28, .iload_n 2, 1, 0, 0, 0, 0, []),
  (29, .invokevirtual 138, 3, 15, 2, 1, 0, []),
  (32, .bipush (-2), 2, 0, 0, 0, -2, []),
  (34, .if_icmp .eq 6, 3, 20, 0, 0, 0, []),
  (37, .bipush (-5), 2, 0, 0, 0, -5, []),
  (39, .ireturn, 1, 0, 0, 0, 0, []),
  (40, .aload_n 0, 1, 0, 0, 0, 0, []),
  (41, .getfield 35, 3, 10, 3, 2, 0, []),
  (44, .iload_n 1, 1, 0, 0, 0, 0, []),
  (45, .iload_n 2, 1, 0, 0, 0, 0, []),
  (46, .aload_n 0, 1, 0, 0, 0, 0, []),
  (47, .getfield 10, 3, 10, 0, 2, 0, []),
  (50, .iconst 2, 1, 0, 0, 0, 2, []),
  (51, .iload_n 2, 1, 0, 0, 0, 0, []),
  (52, .invokevirtual 123, 3, 4, 3, 1, 0, []),
  (55, .aload_n 0, 1, 0, 0, 0, 0, []),
  (56, .getfield 69, 3, 10, 7, 2, 0, []),
  (59, .iload_n 2, 1, 0, 0, 0, 0, []),
  (60, .invokevirtual 292, 3, 17, 2, 1, 0, []),
  (63, .invokevirtual 154, 3, 116, 5, 1, 0, []),
  (66, .istore_n 3, 1, 0, 0, 0, 0, []),
  (67, .aload_n 0, 1, 0, 0, 0, 0, []),
  (68, .getfield 69, 3, 10, 7, 2, 0, []),
  (71, .iload_n 1, 1, 0, 0, 0, 0, []),
  (72, .iload_n 2, 1, 0, 0, 0, 0, []),
  (73, .iload_n 3, 1, 0, 0, 0, 0, []),
  (74, .invokevirtual 295, 3, 18, 4, 0, 0, []),
  (77, .iload_n 3, 1, 0, 0, 0, 0, []),
  (78, .ireturn, 1, 0, 0, 0, 0, [])]
/-- yX10_forgotten -/
def mt_147 : List am_row := [
  (0, .aload_n 0, 1, 0, 0, 0, 0, []),
  (1, .getfield 69, 3, 10, 7, 2, 0, []),
  (4, .invokevirtual 298, 3, 19, 1, 1, 0, []),
  (7, .ireturn, 1, 0, 0, 0, 0, [])]
/-- yX10_led -/
def mt_148 : List am_row := [
  (0, .iload_n 1, 1, 0, 0, 0, 0, []),
  (1, .tableswitch 63 0 3 #[31, 39, 47, 55], 31, 18, 0, 0, 0, [(0, 2), (1, 6), (2, 10), (3, 14)]),
  (32, .aload_n 0, 1, 0, 0, 0, 0, []),
  (33, .getfield 69, 3, 10, 7, 2, 0, []),
  (36, .getfield 301, 3, 2, 3, 0, 0, []),
  (39, .ireturn, 1, 0, 0, 0, 0, []),
  (40, .aload_n 0, 1, 0, 0, 0, 0, []),
  (41, .getfield 69, 3, 10, 7, 2, 0, []),
  (44, .getfield 304, 3, 2, 4, 0, 0, []),
  (47, .ireturn, 1, 0, 0, 0, 0, []),
  (48, .aload_n 0, 1, 0, 0, 0, 0, []),
  (49, .getfield 69, 3, 10, 7, 2, 0, []),
  (52, .getfield 307, 3, 2, 5, 0, 0, []),
  (55, .ireturn, 1, 0, 0, 0, 0, []),
  (56, .aload_n 0, 1, 0, 0, 0, 0, []),
  (57, .getfield 69, 3, 10, 7, 2, 0, []),
  (60, .getfield 289, 3, 2, 2, 0, 0, []),
  (63, .ireturn, 1, 0, 0, 0, 0, []),
  (64, .iconst (-1), 1, 0, 0, 0, -1, []),
  (65, .ireturn, 1, 0, 0, 0, 0, [])]
/-- yX10_image -/
def mt_149 : List am_row := [
  (0, .aload_n 0, 1, 0, 0, 0, 0, []),
  (1, .getfield 69, 3, 10, 7, 2, 0, []),
  (4, .invokevirtual 310, 3, 20, 1, 0, 0, []),
  (7, .aload_n 0, 1, 0, 0, 0, 0, []),
  (8, .getfield 69, 3, 10, 7, 2, 0, []),
  (11, .getfield 301, 3, 2, 3, 0, 0, []),
  (14, .ireturn, 1, 0, 0, 0, 0, [])]
/-- yX10_back -/
def mt_150 : List am_row := [
  (0, .aload_n 0, 1, 0, 0, 0, 0, []),
  (1, .getfield 69, 3, 10, 7, 2, 0, []),
  (4, .invokevirtual 313, 3, 21, 1, 1, 0, []),
  (7, .ifCond .eq 13, 3, 8, 0, 0, 0, []),
  (10, .aload_n 0, 1, 0, 0, 0, 0, []),
  (11, .getfield 69, 3, 10, 7, 2, 0, []),
  (14, .getfield 301, 3, 2, 3, 0, 0, []),
  (17, .goto 5, 3, 9, 0, 0, 0, []),
  (20, .bipush (-5), 2, 0, 0, 0, -5, []),
  (22, .ireturn, 1, 0, 0, 0, 0, [])]
/-- yX10_undo -/
def mt_151 : List am_row := [
  (0, .aload_n 0, 1, 0, 0, 0, 0, []),
  (1, .getfield 19, 3, 10, 1, 2, 0, []),
  (4, .aload_n 0, 1, 0, 0, 0, 0, []),
  (5, .getfield 10, 3, 10, 0, 2, 0, []),
  (8, .invokevirtual 316, 3, 13, 2, 1, 0, []),
  (11, .ifCond .eq 13, 3, 10, 0, 0, 0, []),
  (14, .aload_n 0, 1, 0, 0, 0, 0, []),
  (15, .getfield 19, 3, 10, 1, 2, 0, []),
  (18, .getfield 320, 3, 1, 1, 0, 0, []),
  (21, .goto 5, 3, 11, 0, 0, 0, []),
  (24, .bipush (-5), 2, 0, 0, 0, -5, []),
  (26, .ireturn, 1, 0, 0, 0, 0, [])]
/-- yX10_redo -/
def mt_152 : List am_row := [
  (0, .aload_n 0, 1, 0, 0, 0, 0, []),
  (1, .getfield 19, 3, 10, 1, 2, 0, []),
  (4, .aload_n 0, 1, 0, 0, 0, 0, []),
  (5, .getfield 10, 3, 10, 0, 2, 0, []),
  (8, .invokevirtual 323, 3, 14, 2, 1, 0, []),
  (11, .ifCond .eq 13, 3, 10, 0, 0, 0, []),
  (14, .aload_n 0, 1, 0, 0, 0, 0, []),
  (15, .getfield 19, 3, 10, 1, 2, 0, []),
  (18, .getfield 326, 3, 1, 2, 0, 0, []),
  (21, .goto 5, 3, 11, 0, 0, 0, []),
  (24, .bipush (-5), 2, 0, 0, 0, -5, []),
  (26, .ireturn, 1, 0, 0, 0, 0, [])]
/-- yX10_body -/
def mt_153 : List am_row := [
  (0, .aload_n 0, 1, 0, 0, 0, 0, []),
  (1, .getfield 76, 3, 10, 8, 2, 0, []),
  (4, .iload_n 1, 1, 0, 0, 0, 0, []),
  (5, .invokevirtual 329, 3, 83, 2, 1, 0, []),
  (8, .ifCond .ne 5, 3, 7, 0, 0, 0, []),
  (11, .iconst (-1), 1, 0, 0, 0, -1, []),
  (12, .ireturn, 1, 0, 0, 0, 0, []),
  (13, .aload_n 0, 1, 0, 0, 0, 0, []),
  (14, .getfield 76, 3, 10, 8, 2, 0, []),
  (17, .iload_n 1, 1, 0, 0, 0, 0, []),
  (18, .invokevirtual 332, 3, 85, 2, 1, 0, []),
  (21, .ifCond .eq 15, 3, 18, 0, 0, 0, []),
  (24, .aload_n 0, 1, 0, 0, 0, 0, []),
  (25, .getfield 76, 3, 10, 8, 2, 0, []),
  (28, .getfield 335, 3, 6, 1, 0, 0, []),
  (31, .iconst 1, 1, 0, 0, 0, 1, []),
  (32, .isub, 1, 0, 0, 0, 0, []),
  (33, .goto 5, 3, 19, 0, 0, 0, []),
  (36, .bipush (-3), 2, 0, 0, 0, -3, []),
  (38, .ireturn, 1, 0, 0, 0, 0, [])]
/-- yX10_act -/
def mt_154 : List am_row := [
  (0, .aload_n 0, 1, 0, 0, 0, 0, []),
  (1, .getfield 76, 3, 10, 8, 2, 0, []),
  (4, .iload_n 1, 1, 0, 0, 0, 0, []),
  (5, .iload_n 2, 1, 0, 0, 0, 0, []),
  (6, .iload_n 3, 1, 0, 0, 0, 0, []),
  (7, .invokevirtual 338, 3, 90, 4, 1, 0, []),
  (10, .ireturn, 1, 0, 0, 0, 0, [])]
/-- yX10_trace -/
def mt_155 : List am_row := [
  (0, .aload_n 0, 1, 0, 0, 0, 0, []),
  (1, .getfield 76, 3, 10, 8, 2, 0, []),
  (4, .iload_n 1, 1, 0, 0, 0, 0, []),
  (5, .invokevirtual 341, 3, 88, 2, 1, 0, []),
  (8, .ifCond .eq 14, 3, 10, 0, 0, 0, []),
  (11, .aload_n 0, 1, 0, 0, 0, 0, []),
  (12, .getfield 76, 3, 10, 8, 2, 0, []),
  (15, .iload_n 1, 1, 0, 0, 0, 0, []),
  (16, .invokevirtual 344, 3, 89, 2, 1, 0, []),
  (19, .goto 4, 3, 11, 0, 0, 0, []),
  (22, .iconst (-1), 1, 0, 0, 0, -1, []),
  (23, .ireturn, 1, 0, 0, 0, 0, [])]
/-- yX10_keep -/
def mt_156 : List am_row := [
  (0, .aload_n 0, 1, 0, 0, 0, 0, []),
  (1, .iload_n 1, 1, 0, 0, 0, 0, []),
  (2, .invokevirtual 99, 3, 165, 2, 1, 0, []),
  (5, .ifCond .eq 19, 3, 12, 0, 0, 0, []),
  (8, .iload_n 2, 1, 0, 0, 0, 0, []),
  (9, .iconst (-1), 1, 0, 0, 0, -1, []),
  (10, .if_icmp .eq 16, 3, 14, 0, 0, 0, []),
  (13, .aload_n 0, 1, 0, 0, 0, 0, []),
  (14, .getfield 76, 3, 10, 8, 2, 0, []),
  (17, .iload_n 2, 1, 0, 0, 0, 0, []),
  (18, .invokevirtual 347, 3, 84, 2, 1, 0, []),
  (21, .ifCond .ne 5, 3, 14, 0, 0, 0, []),
  (24, .iconst (-1), 1, 0, 0, 0, -1, []),
  (25, .ireturn, 1, 0, 0, 0, 0, []),
  (26, .iload_n 2, 1, 0, 0, 0, 0, []),
  (27, .iconst (-1), 1, 0, 0, 0, -1, []),
  (28, .if_icmp .ne 15, 3, 23, 0, 0, 0, []),
  (31, .aload_n 0, 1, 0, 0, 0, 0, []),
  (32, .getfield 82, 3, 10, 9, 2, 0, []),
  (35, .iload_n 1, 1, 0, 0, 0, 0, []),
  (36, .aaload, 1, 0, 0, 0, 0, []),
  (37, .invokevirtual 350, 3, 96, 1, 0, 0, []),
  (40, .goto 13, 3, 29, 0, 0, 0, []),
  (43, .aload_n 0, 1, 0, 0, 0, 0, []),
  (44, .getfield 82, 3, 10, 9, 2, 0, []),
  (47, .iload_n 1, 1, 0, 0, 0, 0, []),
  (48, .aaload, 1, 0, 0, 0, 0, []),
  (49, .iload_n 2, 1, 0, 0, 0, 0, []),
  (50, .invokevirtual 353, 3, 97, 2, 0, 0, []),
  (53, .iconst 1, 1, 0, 0, 0, 1, []),
  (54, .ireturn, 1, 0, 0, 0, 0, [])]
/-- yX10_row -/
def mt_157 : List am_row := [
  (0, .aload_n 0, 1, 0, 0, 0, 0, []),
  (1, .iload_n 1, 1, 0, 0, 0, 0, []),
  (2, .invokevirtual 99, 3, 165, 2, 1, 0, []),
  (5, .ifCond .eq 18, 3, 12, 0, 0, 0, []),
  (8, .iload_n 2, 1, 0, 0, 0, 0, []),
  (9, .ifCond .lt 14, 3, 12, 0, 0, 0, []),
  (12, .iload_n 2, 1, 0, 0, 0, 0, []),
  (13, .iconst 5, 1, 0, 0, 0, 5, []),
  (14, .if_icmp .ge 9, 3, 12, 0, 0, 0, []),
  (17, .iload_n 3, 1, 0, 0, 0, 0, []),
  (18, .bipush 60, 2, 0, 0, 0, 60, []),
  (20, .if_icmp .le 5, 3, 14, 0, 0, 0, []),
  (23, .iconst (-1), 1, 0, 0, 0, -1, []),
  (24, .ireturn, 1, 0, 0, 0, 0, []),
  (25, .iload_n 3, 1, 0, 0, 0, 0, []),
  (26, .ifCond .ge 6, 3, 18, 0, 0, 0, []),
  (29, .bipush (-14), 2, 0, 0, 0, -14, []),
  (31, .ireturn, 1, 0, 0, 0, 0, []),
  (32, .aload_n 0, 1, 0, 0, 0, 0, []),
  (33, .getfield 82, 3, 10, 9, 2, 0, []),
  (36, .iload_n 1, 1, 0, 0, 0, 0, []),
  (37, .aaload, 1, 0, 0, 0, 0, []),
  (38, .iload_n 2, 1, 0, 0, 0, 0, []),
  (39, .iload_n 3, 1, 0, 0, 0, 0, []),
  (40, .invokevirtual 356, 3, 98, 3, 0, 0, []),
  (43, .iconst 1, 1, 0, 0, 0, 1, []),
  (44, .ireturn, 1, 0, 0, 0, 0, [])]
/-- yX10_put -/
def mt_158 : List am_row := [
  (0, .aload_n 0, 1, 0, 0, 0, 0, []),
  (1, .iload_n 1, 1, 0, 0, 0, 0, []),
  (2, .invokevirtual 99, 3, 165, 2, 1, 0, []),
  (5, .ifCond .ne 5, 3, 6, 0, 0, 0, []),
  (8, .iconst (-1), 1, 0, 0, 0, -1, []),
  (9, .ireturn, 1, 0, 0, 0, 0, []),
  (10, .aload_n 0, 1, 0, 0, 0, 0, []),
  (11, .getfield 82, 3, 10, 9, 2, 0, []),
  (14, .iload_n 1, 1, 0, 0, 0, 0, []),
  (15, .aaload, 1, 0, 0, 0, 0, []),
  (16, .astore 5, 2, 0, 0, 0, 0, []),
  (18, .aload 5, 2, 0, 0, 0, 0, []),
  (20, .invokevirtual 359, 3, 99, 1, 1, 0, []),
  (23, .istore 6, 2, 0, 0, 0, 0, []),
  (25, .iload 6, 2, 0, 0, 0, 0, []),
  (27, .ifCond .eq 6, 3, 18, 0, 0, 0, []),
  (30, .iload 6, 2, 0, 0, 0, 0, []),
  (32, .ireturn, 1, 0, 0, 0, 0, []),
  (33, .aload 5, 2, 0, 0, 0, 0, []),
  (35, .iload_n 2, 1, 0, 0, 0, 0, []),
  (36, .lload_n 3, 1, 0, 0, 0, 0, []),
  (37, .invokevirtual 362, 3, 104, 3, 1, 0, []),
  (40, .ifCond .eq 7, 3, 25, 0, 0, 0, []),
  (43, .iconst 1, 1, 0, 0, 0, 1, []),
  (44, .goto 5, 3, 26, 0, 0, 0, []),
  (47, .bipush (-13), 2, 0, 0, 0, -13, []),
  (49, .ireturn, 1, 0, 0, 0, 0, [])]
/-- yX10_element -/
def mt_159 : List am_row := [
  (0, .aload_n 0, 1, 0, 0, 0, 0, []),
  (1, .iload_n 1, 1, 0, 0, 0, 0, []),
  (2, .invokevirtual 99, 3, 165, 2, 1, 0, []),
  (5, .ifCond .ne 7, 3, 6, 0, 0, 0, []),
  (8, .ldc2_w 368, 3, 4, 0, 0, 0, []),
  (11, .lreturn, 1, 0, 0, 0, 0, []),
  (12, .aload_n 0, 1, 0, 0, 0, 0, []),
  (13, .getfield 82, 3, 10, 9, 2, 0, []),
  (16, .iload_n 1, 1, 0, 0, 0, 0, []),
  (17, .aaload, 1, 0, 0, 0, 0, []),
  (18, .astore_n 3, 1, 0, 0, 0, 0, []),
  (19, .aload_n 3, 1, 0, 0, 0, 0, []),
  (20, .invokevirtual 359, 3, 99, 1, 1, 0, []),
  (23, .ifCond .ne 19, 3, 22, 0, 0, 0, []),
  (26, .aload_n 3, 1, 0, 0, 0, 0, []),
  (27, .iload_n 2, 1, 0, 0, 0, 0, []),
  (28, .invokevirtual 370, 3, 101, 2, 1, 0, []),
  (31, .ifCond .eq 11, 3, 22, 0, 0, 0, []),
  (34, .aload_n 3, 1, 0, 0, 0, 0, []),
  (35, .iload_n 2, 1, 0, 0, 0, 0, []),
  (36, .invokevirtual 373, 3, 103, 2, 2, 0, []),
  (39, .goto 6, 3, 23, 0, 0, 0, []),
  (42, .ldc2_w 368, 3, 4, 0, 0, 0, []),
  (45, .lreturn, 1, 0, 0, 0, 0, [])]
/-- yX10_shift -/
def mt_160 : List am_row := [
  (0, .aload_n 0, 1, 0, 0, 0, 0, []),
  (1, .iload_n 1, 1, 0, 0, 0, 0, []),
  (2, .invokevirtual 99, 3, 165, 2, 1, 0, []),
  (5, .ifCond .eq 11, 3, 8, 0, 0, 0, []),
  (8, .aload_n 0, 1, 0, 0, 0, 0, []),
  (9, .iload_n 3, 1, 0, 0, 0, 0, []),
  (10, .invokevirtual 99, 3, 165, 2, 1, 0, []),
  (13, .ifCond .ne 5, 3, 10, 0, 0, 0, []),
  (16, .iconst (-1), 1, 0, 0, 0, -1, []),
  (17, .ireturn, 1, 0, 0, 0, 0, []),
  (18, .aload_n 0, 1, 0, 0, 0, 0, []),
  (19, .getfield 82, 3, 10, 9, 2, 0, []),
  (22, .iload_n 1, 1, 0, 0, 0, 0, []),
  (23, .aaload, 1, 0, 0, 0, 0, []),
  (24, .astore 6, 2, 0, 0, 0, 0, []),
  (26, .aload_n 0, 1, 0, 0, 0, 0, []),
  (27, .getfield 82, 3, 10, 9, 2, 0, []),
  (30, .iload_n 3, 1, 0, 0, 0, 0, []),
  (31, .aaload, 1, 0, 0, 0, 0, []),
  (32, .astore 7, 2, 0, 0, 0, 0, []),
  (34, .aload 6, 2, 0, 0, 0, 0, []),
  (36, .getfield 103, 3, 7, 0, 0, 0, []),
  (39, .ifCond .eq 11, 3, 26, 0, 0, 0, []),
  (42, .aload 7, 2, 0, 0, 0, 0, []),
  (44, .getfield 103, 3, 7, 0, 0, 0, []),
  (47, .ifCond .ne 6, 3, 28, 0, 0, 0, []),
  (50, .bipush (-11), 2, 0, 0, 0, -11, []),
  (52, .ireturn, 1, 0, 0, 0, 0, []),
  (53, .aload 6, 2, 0, 0, 0, 0, []),
  (55, .invokevirtual 359, 3, 99, 1, 1, 0, []),
  (58, .ifCond .ne 24, 3, 39, 0, 0, 0, []),
  (61, .aload 7, 2, 0, 0, 0, 0, []),
  (63, .invokevirtual 359, 3, 99, 1, 1, 0, []),
  (66, .ifCond .ne 16, 3, 39, 0, 0, 0, []),
  (69, .aload 6, 2, 0, 0, 0, 0, []),
  (71, .getfield 377, 3, 7, 2, 0, 0, []),
  (74, .aload 7, 2, 0, 0, 0, 0, []),
  (76, .getfield 377, 3, 7, 2, 0, 0, []),
  (79, .if_icmp .eq 6, 3, 41, 0, 0, 0, []),
  (82, .bipush (-12), 2, 0, 0, 0, -12, []),
  (84, .ireturn, 1, 0, 0, 0, 0, []),
  (85, .aload 6, 2, 0, 0, 0, 0, []),
  (87, .iload_n 2, 1, 0, 0, 0, 0, []),
  (88, .iload 5, 2, 0, 0, 0, 0, []),
  (90, .invokevirtual 380, 3, 102, 3, 1, 0, []),
  (93, .ifCond .eq 15, 3, 51, 0, 0, 0, []),
  (96, .aload 7, 2, 0, 0, 0, 0, []),
  (98, .iload 4, 2, 0, 0, 0, 0, []),
  (100, .iload 5, 2, 0, 0, 0, 0, []),
  (102, .invokevirtual 380, 3, 102, 3, 1, 0, []),
  (105, .ifCond .ne 6, 3, 53, 0, 0, 0, []),
  (108, .bipush (-13), 2, 0, 0, 0, -13, []),
  (110, .ireturn, 1, 0, 0, 0, 0, []),
  (111, .aload 7, 2, 0, 0, 0, 0, []),
  (113, .aload 6, 2, 0, 0, 0, 0, []),
  (115, .iload_n 2, 1, 0, 0, 0, 0, []),
  (116, .iload 4, 2, 0, 0, 0, 0, []),
  (118, .iload 5, 2, 0, 0, 0, 0, []),
  (120, .invokevirtual 383, 3, 106, 5, 0, 0, []),
  (123, .iload 5, 2, 0, 0, 0, 0, []),
  (125, .ireturn, 1, 0, 0, 0, 0, [])]
/-- yX10_taken -/
def mt_161 : List am_row := [
  (0, .aload_n 0, 1, 0, 0, 0, 0, []),
  (1, .iload_n 1, 1, 0, 0, 0, 0, []),
  (2, .invokevirtual 99, 3, 165, 2, 1, 0, []),
  (5, .ifCond .eq 14, 3, 9, 0, 0, 0, []),
  (8, .aload_n 0, 1, 0, 0, 0, 0, []),
  (9, .getfield 76, 3, 10, 8, 2, 0, []),
  (12, .iload_n 2, 1, 0, 0, 0, 0, []),
  (13, .invokevirtual 329, 3, 83, 2, 1, 0, []),
  (16, .ifCond .ne 5, 3, 11, 0, 0, 0, []),
  (19, .iconst (-1), 1, 0, 0, 0, -1, []),
  (20, .ireturn, 1, 0, 0, 0, 0, []),
  (21, .aload_n 0, 1, 0, 0, 0, 0, []),
  (22, .getfield 82, 3, 10, 9, 2, 0, []),
  (25, .iload_n 1, 1, 0, 0, 0, 0, []),
  (26, .aaload, 1, 0, 0, 0, 0, []),
  (27, .astore_n 3, 1, 0, 0, 0, 0, []),
  (28, .aload_n 3, 1, 0, 0, 0, 0, []),
  (29, .getfield 103, 3, 7, 0, 0, 0, []),
  (32, .ifCond .ne 6, 3, 21, 0, 0, 0, []),
  (35, .bipush (-11), 2, 0, 0, 0, -11, []),
  (37, .ireturn, 1, 0, 0, 0, 0, []),
  (38, .aload_n 3, 1, 0, 0, 0, 0, []),
  (39, .getfield 103, 3, 7, 0, 0, 0, []),
  (42, .iconst 1, 1, 0, 0, 0, 1, []),
  (43, .if_icmp .ne 17, 3, 31, 0, 0, 0, []),
  (46, .aload_n 0, 1, 0, 0, 0, 0, []),
  (47, .getfield 76, 3, 10, 8, 2, 0, []),
  (50, .aload_n 3, 1, 0, 0, 0, 0, []),
  (51, .getfield 387, 3, 7, 1, 0, 0, []),
  (54, .invokevirtual 347, 3, 84, 2, 1, 0, []),
  (57, .ifCond .ne 6, 3, 33, 0, 0, 0, []),
  (60, .bipush (-12), 2, 0, 0, 0, -12, []),
  (62, .ireturn, 1, 0, 0, 0, 0, []),
  (63, .aload_n 0, 1, 0, 0, 0, 0, []),
  (64, .getfield 76, 3, 10, 8, 2, 0, []),
  (67, .aload_n 3, 1, 0, 0, 0, 0, []),
  (68, .getfield 387, 3, 7, 1, 0, 0, []),
  (71, .invokevirtual 390, 3, 86, 2, 1, 0, []),
  (74, .istore 4, 2, 0, 0, 0, 0, []),
  (76, .aload_n 0, 1, 0, 0, 0, 0, []),
  (77, .getfield 76, 3, 10, 8, 2, 0, []),
  (80, .iload 4, 2, 0, 0, 0, 0, []),
  (82, .iload_n 2, 1, 0, 0, 0, 0, []),
  (83, .invokevirtual 393, 3, 87, 3, 1, 0, []),
  (86, .ifCond .eq 8, 3, 47, 0, 0, 0, []),
  (89, .iload 4, 2, 0, 0, 0, 0, []),
  (91, .goto 5, 3, 48, 0, 0, 0, []),
  (94, .bipush (-12), 2, 0, 0, 0, -12, []),
  (96, .ireturn, 1, 0, 0, 0, 0, [])]
/-- yX10_count -/
def mt_162 : List am_row := [
  (0, .iload_n 1, 1, 0, 0, 0, 0, []),
  (1, .tableswitch 87 0 5 #[39, 47, 55, 63, 71, 79], 39, 26, 0, 0, 0, [(0, 2), (1, 6), (2, 10), (3, 14), (4, 18), (5, 22)]),
  (40, .aload_n 0, 1, 0, 0, 0, 0, []),
  (41, .getfield 10, 3, 10, 0, 2, 0, []),
  (44, .getfield 95, 3, 0, 1, 0, 0, []),
  (47, .ireturn, 1, 0, 0, 0, 0, []),
  (48, .aload_n 0, 1, 0, 0, 0, 0, []),
  (49, .getfield 10, 3, 10, 0, 2, 0, []),
  (52, .getfield 117, 3, 0, 2, 0, 0, []),
  (55, .ireturn, 1, 0, 0, 0, 0, []),
  (56, .aload_n 0, 1, 0, 0, 0, 0, []),
  (57, .getfield 26, 3, 10, 2, 2, 0, []),
  (60, .getfield 145, 3, 5, 1, 0, 0, []),
  (63, .ireturn, 1, 0, 0, 0, 0, []),
  (64, .aload_n 0, 1, 0, 0, 0, 0, []),
  (65, .getfield 19, 3, 10, 1, 2, 0, []),
  (68, .getfield 320, 3, 1, 1, 0, 0, []),
  (71, .ireturn, 1, 0, 0, 0, 0, []),
  (72, .aload_n 0, 1, 0, 0, 0, 0, []),
  (73, .getfield 76, 3, 10, 8, 2, 0, []),
  (76, .getfield 335, 3, 6, 1, 0, 0, []),
  (79, .ireturn, 1, 0, 0, 0, 0, []),
  (80, .aload_n 0, 1, 0, 0, 0, 0, []),
  (81, .getfield 76, 3, 10, 8, 2, 0, []),
  (84, .getfield 396, 3, 6, 3, 0, 0, []),
  (87, .ireturn, 1, 0, 0, 0, 0, []),
  (88, .iconst (-1), 1, 0, 0, 0, -1, []),
  (89, .ireturn, 1, 0, 0, 0, 0, [])]
/-- yX10_isRule -/
def mt_163 : List am_row := [
  (0, .iload_n 0, 1, 0, 0, 0, 0, []),
  (1, .ifCond .lt 12, 3, 7, 0, 0, 0, []),
  (4, .iload_n 0, 1, 0, 0, 0, 0, []),
  (5, .iconst 5, 1, 0, 0, 0, 5, []),
  (6, .if_icmp .ge 7, 3, 7, 0, 0, 0, []),
  (9, .iconst 1, 1, 0, 0, 0, 1, []),
  (10, .goto 4, 3, 8, 0, 0, 0, []),
  (13, .iconst 0, 1, 0, 0, 0, 0, []),
  (14, .ireturn, 1, 1, 0, 0, 0, [])]
/-- yX10_isRuleAndChild -/
def mt_164 : List am_row := [
  (0, .iload_n 1, 1, 0, 0, 0, 0, []),
  (1, .ifCond .lt 31, 3, 16, 0, 0, 0, []),
  (4, .iload_n 1, 1, 0, 0, 0, 0, []),
  (5, .bipush 10, 2, 0, 0, 0, 10, []),
  (7, .idiv, 1, 0, 0, 0, 0, []),
  (8, .invokestatic 158, 3, 163, 1, 1, 0, []),
  (11, .ifCond .eq 21, 3, 16, 0, 0, 0, []),
  (14, .aload_n 0, 1, 0, 0, 0, 0, []),
  (15, .getfield 10, 3, 10, 0, 2, 0, []),
  (18, .iload_n 1, 1, 0, 0, 0, 0, []),
  (19, .bipush 10, 2, 0, 0, 0, 10, []),
  (21, .irem, 1, 0, 0, 0, 0, []),
  (22, .invokevirtual 151, 3, 1, 2, 1, 0, []),
  (25, .ifCond .eq 7, 3, 16, 0, 0, 0, []),
  (28, .iconst 1, 1, 0, 0, 0, 1, []),
  (29, .goto 4, 3, 17, 0, 0, 0, []),
  (32, .iconst 0, 1, 0, 0, 0, 0, []),
  (33, .ireturn, 1, 1, 0, 0, 0, [])]
/-- yX10_isShelf -/
def mt_165 : List am_row := [
  (0, .iload_n 1, 1, 0, 0, 0, 0, []),
  (1, .ifCond .lt 16, 3, 9, 0, 0, 0, []),
  (4, .iload_n 1, 1, 0, 0, 0, 0, []),
  (5, .aload_n 0, 1, 0, 0, 0, 0, []),
  (6, .getfield 82, 3, 10, 9, 2, 0, []),
  (9, .arraylength, 1, 0, 0, 0, 0, []),
  (10, .if_icmp .ge 7, 3, 9, 0, 0, 0, []),
  (13, .iconst 1, 1, 0, 0, 0, 1, []),
  (14, .goto 4, 3, 10, 0, 0, 0, []),
  (17, .iconst 0, 1, 0, 0, 0, 0, []),
  (18, .ireturn, 1, 1, 0, 0, 0, [])]
/-- yX10_fresh -/
def mt_166 : List am_row := [
  (0, .aload_n 0, 1, 0, 0, 0, 0, []),
  (1, .getfield 44, 3, 10, 4, 2, 0, []),
  (4, .invokevirtual 190, 3, 30, 1, 0, 0, []),
  (7, .aload_n 0, 1, 0, 0, 0, 0, []),
  (8, .getfield 44, 3, 10, 4, 2, 0, []),
  (11, .areturn, 1, 0, 0, 0, 0, [])]
/-- yX10_doorComes -/
def mt_167 : List am_row := [
  (0, .iload_n 2, 1, 0, 0, 0, 0, []),
  (1, .ifCond .lt 17, 3, 12, 0, 0, 0, []),
  (4, .iload_n 2, 1, 0, 0, 0, 0, []),
  (5, .aload_n 1, 1, 0, 0, 0, 0, []),
  (6, .getfield 399, 3, 7, 3, 0, 0, []),
  (9, .iconst 3, 1, 0, 0, 0, 3, []),
  (10, .iload_n 3, 1, 0, 0, 0, 0, []),
  (11, .imul, 1, 0, 0, 0, 0, []),
  (12, .isub, 1, 0, 0, 0, 0, []),
  (13, .iconst 3, 1, 0, 0, 0, 3, []),
  (14, .isub, 1, 0, 0, 0, 0, []),
  (15, .if_icmp .le 5, 3, 14, 0, 0, 0, []),
  (18, .iconst 0, 1, 0, 0, 0, 0, []),
  (19, .ireturn, 1, 1, 0, 0, 0, []),
  (20, .iload_n 2, 1, 0, 0, 0, 0, []),
  (21, .iconst 3, 1, 0, 0, 0, 3, []),
  (22, .iload_n 3, 1, 0, 0, 0, 0, []),
  (23, .imul, 1, 0, 0, 0, 0, []),
  (24, .iadd, 1, 0, 0, 0, 0, []),
  (25, .istore 4, 2, 0, 0, 0, 0, []),
  (27, .aload_n 1, 1, 0, 0, 0, 0, []),
  (28, .iload 4, 2, 0, 0, 0, 0, []),
  (30, .invokevirtual 373, 3, 103, 2, 2, 0, []),
  (33, .l2i, 1, 0, 0, 0, 0, []),
  (34, .istore 5, 2, 0, 0, 0, 0, []),
  (36, .aload_n 1, 1, 0, 0, 0, 0, []),
  (37, .iload 4, 2, 0, 0, 0, 0, []),
  (39, .iconst 1, 1, 0, 0, 0, 1, []),
  (40, .iadd, 1, 0, 0, 0, 0, []),
  (41, .invokevirtual 373, 3, 103, 2, 2, 0, []),
  (44, .l2i, 1, 0, 0, 0, 0, []),
  (45, .istore 6, 2, 0, 0, 0, 0, []),
  (47, .aload_n 1, 1, 0, 0, 0, 0, []),
  (48, .iload 4, 2, 0, 0, 0, 0, []),
  (50, .iconst 2, 1, 0, 0, 0, 2, []),
  (51, .iadd, 1, 0, 0, 0, 0, []),
  (52, .invokevirtual 373, 3, 103, 2, 2, 0, []),
  (55, .l2i, 1, 0, 0, 0, 0, []),
  (56, .istore 7, 2, 0, 0, 0, 0, []),
  (58, .aload_n 0, 1, 0, 0, 0, 0, []),
  (59, .getfield 10, 3, 10, 0, 2, 0, []),
  (62, .iconst 0, 1, 0, 0, 0, 0, []),
  (63, .iload 5, 2, 0, 0, 0, 0, []),
  (65, .invokevirtual 87, 3, 3, 3, 1, 0, []),
  (68, .ifCond .eq 49, 3, 66, 0, 0, 0, []),
  (71, .aload_n 0, 1, 0, 0, 0, 0, []),
  (72, .getfield 10, 3, 10, 0, 2, 0, []),
  (75, .iconst 1, 1, 0, 0, 0, 1, []),
  (76, .iload 6, 2, 0, 0, 0, 0, []),
  (78, .invokevirtual 87, 3, 3, 3, 1, 0, []),
  (81, .ifCond .eq 36, 3, 66, 0, 0, 0, []),
  (84, .aload_n 0, 1, 0, 0, 0, 0, []),
  (85, .getfield 10, 3, 10, 0, 2, 0, []),
  (88, .iconst 2, 1, 0, 0, 0, 2, []),
  (89, .iload 7, 2, 0, 0, 0, 0, []),
  (91, .invokevirtual 87, 3, 3, 3, 1, 0, []),
  (94, .ifCond .eq 23, 3, 66, 0, 0, 0, []),
  (97, .aload_n 0, 1, 0, 0, 0, 0, []),
  (98, .getfield 10, 3, 10, 0, 2, 0, []),
  (101, .iload 5, 2, 0, 0, 0, 0, []),
  (103, .iload 6, 2, 0, 0, 0, 0, []),
  (105, .iload 7, 2, 0, 0, 0, 0, []),
  (107, .invokevirtual 91, 3, 6, 4, 1, 0, []),
  (110, .ifCond .eq 7, 3, 66, 0, 0, 0, []),
  (113, .iconst 1, 1, 0, 0, 0, 1, []),
  (114, .goto 4, 3, 67, 0, 0, 0, []),
  (117, .iconst 0, 1, 0, 0, 0, 0, []),
  (118, .ireturn, 1, 1, 0, 0, 0, [])]
/-- yX11_within -/
def mt_168 : List am_row := [
  (0, .iload_n 0, 1, 0, 0, 0, 0, []),
  (1, .iload_n 1, 1, 0, 0, 0, 0, []),
  (2, .if_icmp .lt 12, 3, 8, 0, 0, 0, []),
  (5, .iload_n 0, 1, 0, 0, 0, 0, []),
  (6, .iload_n 2, 1, 0, 0, 0, 0, []),
  (7, .if_icmp .gt 7, 3, 8, 0, 0, 0, []),
  (10, .iconst 1, 1, 0, 0, 0, 1, []),
  (11, .goto 4, 3, 9, 0, 0, 0, []),
  (14, .iconst 0, 1, 0, 0, 0, 0, []),
  (15, .ireturn, 1, 1, 0, 0, 0, [])]
/-- yX11_isDoor -/
def mt_169 : List am_row := [
  (0, .iload_n 1, 1, 0, 0, 0, 0, []),
  (1, .iconst 0, 1, 0, 0, 0, 0, []),
  (2, .aload_n 0, 1, 0, 0, 0, 0, []),
  (3, .getfield 118, 3, 11, 0, 0, 0, []),
  (6, .iconst 1, 1, 0, 0, 0, 1, []),
  (7, .isub, 1, 0, 0, 0, 0, []),
  (8, .invokestatic 122, 3, 168, 3, 1, 0, []),
  (11, .ireturn, 1, 1, 0, 0, 0, [])]
/-- yX11_isChild -/
def mt_170 : List am_row := [
  (0, .iload_n 1, 1, 0, 0, 0, 0, []),
  (1, .iconst 0, 1, 0, 0, 0, 0, []),
  (2, .aload_n 0, 1, 0, 0, 0, 0, []),
  (3, .getfield 126, 3, 11, 5, 0, 0, []),
  (6, .iconst 1, 1, 0, 0, 0, 1, []),
  (7, .isub, 1, 0, 0, 0, 0, []),
  (8, .invokestatic 122, 3, 168, 3, 1, 0, []),
  (11, .ireturn, 1, 1, 0, 0, 0, [])]
/-- yX11_isRule -/
def mt_171 : List am_row := [
  (0, .iload_n 0, 1, 0, 0, 0, 0, []),
  (1, .iconst 0, 1, 0, 0, 0, 0, []),
  (2, .iconst 4, 1, 0, 0, 0, 4, []),
  (3, .invokestatic 122, 3, 168, 3, 1, 0, []),
  (6, .ireturn, 1, 1, 0, 0, 0, [])]
/-- yX11_isOne -/
def mt_172 : List am_row := [
  (0, .iload_n 1, 1, 0, 0, 0, 0, []),
  (1, .ifCond .lt 28, 3, 15, 0, 0, 0, []),
  (4, .iload_n 1, 1, 0, 0, 0, 0, []),
  (5, .bipush 10, 2, 0, 0, 0, 10, []),
  (7, .idiv, 1, 0, 0, 0, 0, []),
  (8, .invokestatic 129, 3, 171, 1, 1, 0, []),
  (11, .ifCond .eq 18, 3, 15, 0, 0, 0, []),
  (14, .aload_n 0, 1, 0, 0, 0, 0, []),
  (15, .iload_n 1, 1, 0, 0, 0, 0, []),
  (16, .bipush 10, 2, 0, 0, 0, 10, []),
  (18, .irem, 1, 0, 0, 0, 0, []),
  (19, .invokevirtual 133, 3, 170, 2, 1, 0, []),
  (22, .ifCond .eq 7, 3, 15, 0, 0, 0, []),
  (25, .iconst 1, 1, 0, 0, 0, 1, []),
  (26, .goto 4, 3, 16, 0, 0, 0, []),
  (29, .iconst 0, 1, 0, 0, 0, 0, []),
  (30, .ireturn, 1, 1, 0, 0, 0, [])]
/-- yX11_isDay -/
def mt_173 : List am_row := [
  (0, .iload_n 0, 1, 0, 0, 0, 0, []),
  (1, .iconst 1, 1, 0, 0, 0, 1, []),
  (2, .bipush 24, 2, 0, 0, 0, 24, []),
  (4, .invokestatic 122, 3, 168, 3, 1, 0, []),
  (7, .ireturn, 1, 1, 0, 0, 0, [])]
/-- yX11_isShelf -/
def mt_174 : List am_row := [
  (0, .iload_n 0, 1, 0, 0, 0, 0, []),
  (1, .iconst 0, 1, 0, 0, 0, 0, []),
  (2, .iconst 5, 1, 0, 0, 0, 5, []),
  (3, .invokestatic 122, 3, 168, 3, 1, 0, []),
  (6, .ireturn, 1, 1, 0, 0, 0, [])]
/-- yX11_has -/
def mt_175 : List am_row := [
  (0, .iload_n 0, 1, 0, 0, 0, 0, []),
  (1, .iload_n 1, 1, 0, 0, 0, 0, []),
  (2, .ishr, 1, 0, 0, 0, 0, []),
  (3, .iconst 1, 1, 0, 0, 0, 1, []),
  (4, .iand, 1, 0, 0, 0, 0, []),
  (5, .iconst 1, 1, 0, 0, 0, 1, []),
  (6, .if_icmp .ne 7, 3, 9, 0, 0, 0, []),
  (9, .iconst 1, 1, 0, 0, 0, 1, []),
  (10, .goto 4, 3, 10, 0, 0, 0, []),
  (13, .iconst 0, 1, 0, 0, 0, 0, []),
  (14, .ireturn, 1, 1, 0, 0, 0, [])]
/-- yX11_newDoor -/
def mt_176 : List am_row := [
  (0, .aload_n 0, 1, 0, 0, 0, 0, []),
  (1, .getfield 9, 3, 11, 1, 2, 0, []),
  (4, .aload_n 0, 1, 0, 0, 0, 0, []),
  (5, .getfield 118, 3, 11, 0, 0, 0, []),
  (8, .iload_n 1, 1, 0, 0, 0, 0, []),
  (9, .iastore, 1, 0, 0, 0, 0, []),
  (10, .aload_n 0, 1, 0, 0, 0, 0, []),
  (11, .getfield 15, 3, 11, 2, 2, 0, []),
  (14, .aload_n 0, 1, 0, 0, 0, 0, []),
  (15, .getfield 118, 3, 11, 0, 0, 0, []),
  (18, .iload_n 2, 1, 0, 0, 0, 0, []),
  (19, .iastore, 1, 0, 0, 0, 0, []),
  (20, .aload_n 0, 1, 0, 0, 0, 0, []),
  (21, .getfield 18, 3, 11, 3, 2, 0, []),
  (24, .aload_n 0, 1, 0, 0, 0, 0, []),
  (25, .getfield 118, 3, 11, 0, 0, 0, []),
  (28, .iload_n 3, 1, 0, 0, 0, 0, []),
  (29, .iastore, 1, 0, 0, 0, 0, []),
  (30, .aload_n 0, 1, 0, 0, 0, 0, []),
  (31, .getfield 21, 3, 11, 4, 2, 0, []),
  (34, .aload_n 0, 1, 0, 0, 0, 0, []),
  (35, .getfield 118, 3, 11, 0, 0, 0, []),
  (38, .bipush (-2), 2, 0, 0, 0, -2, []),
  (40, .iastore, 1, 0, 0, 0, 0, []),
  (41, .aload_n 0, 1, 0, 0, 0, 0, []),
  (42, .dup, 1, 0, 0, 0, 0, []),
  (43, .getfield 118, 3, 11, 0, 0, 0, []),
  (46, .dup_x1, 1, 0, 0, 0, 0, []),
  (47, .iconst 1, 1, 0, 0, 0, 1, []),
  (48, .iadd, 1, 0, 0, 0, 0, []),
  (49, .putfield 118, 3, 11, 0, 0, 0, []),
  (52, .ireturn, 1, 0, 0, 0, 0, [])]
/-- yX11_door -/
def mt_177 : List am_row := [
  (0, .iload_n 1, 1, 0, 0, 0, 0, []),
  (1, .invokestatic 136, 3, 173, 1, 1, 0, []),
  (4, .ifCond .eq 13, 3, 8, 0, 0, 0, []),
  (7, .iload_n 2, 1, 0, 0, 0, 0, []),
  (8, .iconst 0, 1, 0, 0, 0, 0, []),
  (9, .bipush 7, 2, 0, 0, 0, 7, []),
  (11, .invokestatic 122, 3, 168, 3, 1, 0, []),
  (14, .ifCond .ne 5, 3, 10, 0, 0, 0, []),
  (17, .iconst (-1), 1, 0, 0, 0, -1, []),
  (18, .ireturn, 1, 0, 0, 0, 0, []),
  (19, .aload_n 0, 1, 0, 0, 0, 0, []),
  (20, .getfield 118, 3, 11, 0, 0, 0, []),
  (23, .bipush 12, 2, 0, 0, 0, 12, []),
  (25, .if_icmp .ne 8, 3, 16, 0, 0, 0, []),
  (28, .bipush (-3), 2, 0, 0, 0, -3, []),
  (30, .goto 10, 3, 21, 0, 0, 0, []),
  (33, .aload_n 0, 1, 0, 0, 0, 0, []),
  (34, .iload_n 1, 1, 0, 0, 0, 0, []),
  (35, .iload_n 2, 1, 0, 0, 0, 0, []),
  (36, .iconst 1, 1, 0, 0, 0, 1, []),
  (37, .invokevirtual 139, 3, 176, 4, 1, 0, []),
  (40, .ireturn, 1, 0, 0, 0, 0, [])]
/-- yX11_doors -/
def mt_178 : List am_row := [
  (0, .iload_n 1, 1, 0, 0, 0, 0, []),
  (1, .invokestatic 143, 3, 174, 1, 1, 0, []),
  (4, .ifCond .eq 13, 3, 8, 0, 0, 0, []),
  (7, .iload_n 3, 1, 0, 0, 0, 0, []),
  (8, .iconst 1, 1, 0, 0, 0, 1, []),
  (9, .bipush 12, 2, 0, 0, 0, 12, []),
  (11, .invokestatic 122, 3, 168, 3, 1, 0, []),
  (14, .ifCond .ne 5, 3, 10, 0, 0, 0, []),
  (17, .iconst (-1), 1, 0, 0, 0, -1, []),
  (18, .ireturn, 1, 0, 0, 0, 0, []),
  (19, .aload_n 0, 1, 0, 0, 0, 0, []),
  (20, .getfield 93, 3, 11, 44, 2, 0, []),
  (23, .iload_n 1, 1, 0, 0, 0, 0, []),
  (24, .iaload, 1, 0, 0, 0, 0, []),
  (25, .iconst (-1), 1, 0, 0, 0, -1, []),
  (26, .if_icmp .ne 5, 3, 18, 0, 0, 0, []),
  (29, .iconst 0, 1, 0, 0, 0, 0, []),
  (30, .ireturn, 1, 0, 0, 0, 0, []),
  (31, .aload_n 0, 1, 0, 0, 0, 0, []),
  (32, .getfield 93, 3, 11, 44, 2, 0, []),
  (35, .iload_n 1, 1, 0, 0, 0, 0, []),
  (36, .iaload, 1, 0, 0, 0, 0, []),
  (37, .ifCond .eq 6, 3, 25, 0, 0, 0, []),
  (40, .bipush (-12), 2, 0, 0, 0, -12, []),
  (42, .ireturn, 1, 0, 0, 0, 0, []),
  (43, .iconst 0, 1, 0, 0, 0, 0, []),
  (44, .istore 4, 2, 0, 0, 0, 0, []),
  (46, .iconst 0, 1, 0, 0, 0, 0, []),
  (47, .istore 5, 2, 0, 0, 0, 0, []),
  (49, .iload 5, 2, 0, 0, 0, 0, []),
  (51, .iload_n 3, 1, 0, 0, 0, 0, []),
  (52, .if_icmp .ge 158, 3, 123, 0, 0, 0, []),
  (55, .iload_n 2, 1, 0, 0, 0, 0, []),
  (56, .i2l, 1, 0, 0, 0, 0, []),
  (57, .ldc2_w 146, 3, 2, 0, 0, 0, []),
  (60, .iload 5, 2, 0, 0, 0, 0, []),
  (62, .i2l, 1, 0, 0, 0, 0, []),
  (63, .lmul, 1, 0, 0, 0, 0, []),
  (64, .ladd, 1, 0, 0, 0, 0, []),
  (65, .lstore 6, 2, 0, 0, 0, 0, []),
  (67, .lload 6, 2, 0, 0, 0, 0, []),
  (69, .lconst 0, 1, 0, 0, 0, 0, []),
  (70, .lcmp, 1, 0, 0, 0, 0, []),
  (71, .ifCond .lt 29, 3, 58, 0, 0, 0, []),
  (74, .lload 6, 2, 0, 0, 0, 0, []),
  (76, .ldc2_w 146, 3, 2, 0, 0, 0, []),
  (79, .ladd, 1, 0, 0, 0, 0, []),
  (80, .aload_n 0, 1, 0, 0, 0, 0, []),
  (81, .getfield 96, 3, 11, 45, 2, 0, []),
  (84, .iload_n 1, 1, 0, 0, 0, 0, []),
  (85, .iaload, 1, 0, 0, 0, 0, []),
  (86, .i2l, 1, 0, 0, 0, 0, []),
  (87, .lcmp, 1, 0, 0, 0, 0, []),
  (88, .ifCond .gt 12, 3, 58, 0, 0, 0, []),
  (91, .aload_n 0, 1, 0, 0, 0, 0, []),
  (92, .getfield 118, 3, 11, 0, 0, 0, []),
  (95, .bipush 12, 2, 0, 0, 0, 12, []),
  (97, .if_icmp .ne 6, 3, 60, 0, 0, 0, []),
  (100, .iload 4, 2, 0, 0, 0, 0, []),
  (102, .ireturn, 1, 0, 0, 0, 0, []),
  (103, .bipush 60, 2, 0, 0, 0, 60, []),
  (105, .iload_n 1, 1, 0, 0, 0, 0, []),
  (106, .imul, 1, 0, 0, 0, 0, []),
  (107, .lload 6, 2, 0, 0, 0, 0, []),
  (109, .l2i, 1, 0, 0, 0, 0, []),
  (110, .iadd, 1, 0, 0, 0, 0, []),
  (111, .istore 8, 2, 0, 0, 0, 0, []),
  (113, .aload_n 0, 1, 0, 0, 0, 0, []),
  (114, .getfield 99, 3, 11, 46, 2, 0, []),
  (117, .iload 8, 2, 0, 0, 0, 0, []),
  (119, .laload, 1, 0, 0, 0, 0, []),
  (120, .l2i, 1, 0, 0, 0, 0, []),
  (121, .invokestatic 136, 3, 173, 1, 1, 0, []),
  (124, .ifCond .eq 41, 3, 96, 0, 0, 0, []),
  (127, .aload_n 0, 1, 0, 0, 0, 0, []),
  (128, .getfield 99, 3, 11, 46, 2, 0, []),
  (131, .iload 8, 2, 0, 0, 0, 0, []),
  (133, .iconst 1, 1, 0, 0, 0, 1, []),
  (134, .iadd, 1, 0, 0, 0, 0, []),
  (135, .laload, 1, 0, 0, 0, 0, []),
  (136, .l2i, 1, 0, 0, 0, 0, []),
  (137, .iconst 0, 1, 0, 0, 0, 0, []),
  (138, .bipush 7, 2, 0, 0, 0, 7, []),
  (140, .invokestatic 122, 3, 168, 3, 1, 0, []),
  (143, .ifCond .eq 22, 3, 96, 0, 0, 0, []),
  (146, .aload_n 0, 1, 0, 0, 0, 0, []),
  (147, .getfield 99, 3, 11, 46, 2, 0, []),
  (150, .iload 8, 2, 0, 0, 0, 0, []),
  (152, .iconst 2, 1, 0, 0, 0, 2, []),
  (153, .iadd, 1, 0, 0, 0, 0, []),
  (154, .laload, 1, 0, 0, 0, 0, []),
  (155, .l2i, 1, 0, 0, 0, 0, []),
  (156, .iconst 1, 1, 0, 0, 0, 1, []),
  (157, .bipush 9, 2, 0, 0, 0, 9, []),
  (159, .invokestatic 122, 3, 168, 3, 1, 0, []),
  (162, .ifCond .ne 6, 3, 98, 0, 0, 0, []),
  (165, .iload 4, 2, 0, 0, 0, 0, []),
  (167, .ireturn, 1, 0, 0, 0, 0, []),
  (168, .aload_n 0, 1, 0, 0, 0, 0, []),
  (169, .aload_n 0, 1, 0, 0, 0, 0, []),
  (170, .getfield 99, 3, 11, 46, 2, 0, []),
  (173, .iload 8, 2, 0, 0, 0, 0, []),
  (175, .laload, 1, 0, 0, 0, 0, []),
  (176, .l2i, 1, 0, 0, 0, 0, []),
  (177, .aload_n 0, 1, 0, 0, 0, 0, []),
  (178, .getfield 99, 3, 11, 46, 2, 0, []),
  (181, .iload 8, 2, 0, 0, 0, 0, []),
  (183, .iconst 1, 1, 0, 0, 0, 1, []),
  (184, .iadd, 1, 0, 0, 0, 0, []),
  (185, .laload, 1, 0, 0, 0, 0, []),
  (186, .l2i, 1, 0, 0, 0, 0, []),
  (187, .aload_n 0, 1, 0, 0, 0, 0, []),
  (188, .getfield 99, 3, 11, 46, 2, 0, []),
  (191, .iload 8, 2, 0, 0, 0, 0, []),
  (193, .iconst 2, 1, 0, 0, 0, 2, []),
  (194, .iadd, 1, 0, 0, 0, 0, []),
  (195, .laload, 1, 0, 0, 0, 0, []),
  (196, .l2i, 1, 0, 0, 0, 0, []),
  (197, .invokevirtual 139, 3, 176, 4, 1, 0, []),
  (200, .pop, 1, 0, 0, 0, 0, []),
  (201, .iinc 4 1, 3, 0, 0, 0, 1, []),
  (204, .iinc 5 1, 3, 0, 0, 0, 1, []),
  (207, .goto (-158), 3, 29, 0, 0, 0, []),
  (210, .iload 4, 2, 0, 0, 0, 0, []),
  (212, .ireturn, 1, 0, 0, 0, 0, [])]
/-- yX11_child -/
def mt_179 : List am_row := [
  (0, .iload_n 1, 1, 0, 0, 0, 0, []),
  (1, .iconst 1, 1, 0, 0, 0, 1, []),
  (2, .bipush 18, 2, 0, 0, 0, 18, []),
  (4, .invokestatic 122, 3, 168, 3, 1, 0, []),
  (7, .ifCond .eq 13, 3, 10, 0, 0, 0, []),
  (10, .iload_n 2, 1, 0, 0, 0, 0, []),
  (11, .iconst 0, 1, 0, 0, 0, 0, []),
  (12, .bipush 7, 2, 0, 0, 0, 7, []),
  (14, .invokestatic 122, 3, 168, 3, 1, 0, []),
  (17, .ifCond .ne 5, 3, 12, 0, 0, 0, []),
  (20, .iconst (-1), 1, 0, 0, 0, -1, []),
  (21, .ireturn, 1, 0, 0, 0, 0, []),
  (22, .aload_n 0, 1, 0, 0, 0, 0, []),
  (23, .getfield 126, 3, 11, 5, 0, 0, []),
  (26, .iconst 5, 1, 0, 0, 0, 5, []),
  (27, .if_icmp .ne 6, 3, 18, 0, 0, 0, []),
  (30, .bipush (-3), 2, 0, 0, 0, -3, []),
  (32, .ireturn, 1, 0, 0, 0, 0, []),
  (33, .aload_n 0, 1, 0, 0, 0, 0, []),
  (34, .getfield 24, 3, 11, 6, 2, 0, []),
  (37, .aload_n 0, 1, 0, 0, 0, 0, []),
  (38, .getfield 126, 3, 11, 5, 0, 0, []),
  (41, .iload_n 1, 1, 0, 0, 0, 0, []),
  (42, .iastore, 1, 0, 0, 0, 0, []),
  (43, .aload_n 0, 1, 0, 0, 0, 0, []),
  (44, .getfield 27, 3, 11, 7, 2, 0, []),
  (47, .aload_n 0, 1, 0, 0, 0, 0, []),
  (48, .getfield 126, 3, 11, 5, 0, 0, []),
  (51, .iload_n 2, 1, 0, 0, 0, 0, []),
  (52, .iastore, 1, 0, 0, 0, 0, []),
  (53, .aload_n 0, 1, 0, 0, 0, 0, []),
  (54, .getfield 30, 3, 11, 8, 2, 0, []),
  (57, .aload_n 0, 1, 0, 0, 0, 0, []),
  (58, .getfield 126, 3, 11, 5, 0, 0, []),
  (61, .iconst 5, 1, 0, 0, 0, 5, []),
  (62, .iastore, 1, 0, 0, 0, 0, []),
  (63, .aload_n 0, 1, 0, 0, 0, 0, []),
  (64, .getfield 33, 3, 11, 9, 2, 0, []),
  (67, .aload_n 0, 1, 0, 0, 0, 0, []),
  (68, .getfield 126, 3, 11, 5, 0, 0, []),
  (71, .iconst 0, 1, 0, 0, 0, 0, []),
  (72, .iastore, 1, 0, 0, 0, 0, []),
  (73, .aload_n 0, 1, 0, 0, 0, 0, []),
  (74, .getfield 36, 3, 11, 10, 2, 0, []),
  (77, .aload_n 0, 1, 0, 0, 0, 0, []),
  (78, .getfield 126, 3, 11, 5, 0, 0, []),
  (81, .iconst 0, 1, 0, 0, 0, 0, []),
  (82, .iastore, 1, 0, 0, 0, 0, []),
  (83, .aload_n 0, 1, 0, 0, 0, 0, []),
  (84, .dup, 1, 0, 0, 0, 0, []),
  (85, .getfield 126, 3, 11, 5, 0, 0, []),
  (88, .dup_x1, 1, 0, 0, 0, 0, []),
  (89, .iconst 1, 1, 0, 0, 0, 1, []),
  (90, .iadd, 1, 0, 0, 0, 0, []),
  (91, .putfield 126, 3, 11, 5, 0, 0, []),
  (94, .ireturn, 1, 0, 0, 0, 0, [])]
/-- yX11_isOf -/
def mt_180 : List am_row := [
  (0, .iload_n 2, 1, 0, 0, 0, 0, []),
  (1, .iconst 0, 1, 0, 0, 0, 0, []),
  (2, .iconst 2, 1, 0, 0, 0, 2, []),
  (3, .invokestatic 122, 3, 168, 3, 1, 0, []),
  (6, .ifCond .eq 9, 3, 9, 0, 0, 0, []),
  (9, .aload_n 0, 1, 0, 0, 0, 0, []),
  (10, .iload_n 1, 1, 0, 0, 0, 0, []),
  (11, .invokevirtual 148, 3, 169, 2, 1, 0, []),
  (14, .ireturn, 1, 1, 0, 0, 0, []),
  (15, .iload_n 2, 1, 0, 0, 0, 0, []),
  (16, .iconst 3, 1, 0, 0, 0, 3, []),
  (17, .bipush 7, 2, 0, 0, 0, 7, []),
  (19, .invokestatic 122, 3, 168, 3, 1, 0, []),
  (22, .ifCond .eq 11, 3, 18, 0, 0, 0, []),
  (25, .aload_n 0, 1, 0, 0, 0, 0, []),
  (26, .iload_n 1, 1, 0, 0, 0, 0, []),
  (27, .invokevirtual 133, 3, 170, 2, 1, 0, []),
  (30, .goto 23, 3, 28, 0, 0, 0, []),
  (33, .iload_n 2, 1, 0, 0, 0, 0, []),
  (34, .bipush 8, 2, 0, 0, 0, 8, []),
  (36, .bipush 9, 2, 0, 0, 0, 9, []),
  (38, .invokestatic 122, 3, 168, 3, 1, 0, []),
  (41, .ifCond .eq 11, 3, 27, 0, 0, 0, []),
  (44, .iload_n 1, 1, 0, 0, 0, 0, []),
  (45, .ifCond .ne 7, 3, 27, 0, 0, 0, []),
  (48, .iconst 1, 1, 0, 0, 0, 1, []),
  (49, .goto 4, 3, 28, 0, 0, 0, []),
  (52, .iconst 0, 1, 0, 0, 0, 0, []),
  (53, .ireturn, 1, 1, 0, 0, 0, [])]
/-- yX11_isFit -/
def mt_181 : List am_row := [
  (0, .iload_n 0, 1, 0, 0, 0, 0, []),
  (1, .tableswitch 95 0 8 #[51, 56, 64, 72, 56, 95, 80, 80, 88], 51, 30, 0, 0, 0, [(0, 2), (1, 5), (2, 10), (3, 15), (4, 5), (5, 30), (6, 20), (7, 20), (8, 25)]),
  (52, .iload_n 1, 1, 0, 0, 0, 0, []),
  (53, .invokestatic 136, 3, 173, 1, 1, 0, []),
  (56, .ireturn, 1, 1, 0, 0, 0, []),
  (57, .iload_n 1, 1, 0, 0, 0, 0, []),
  (58, .iconst 0, 1, 0, 0, 0, 0, []),
  (59, .bipush 7, 2, 0, 0, 0, 7, []),
  (61, .invokestatic 122, 3, 168, 3, 1, 0, []),
  (64, .ireturn, 1, 1, 0, 0, 0, []),
  (65, .iload_n 1, 1, 0, 0, 0, 0, []),
  (66, .iconst 1, 1, 0, 0, 0, 1, []),
  (67, .bipush 9, 2, 0, 0, 0, 9, []),
  (69, .invokestatic 122, 3, 168, 3, 1, 0, []),
  (72, .ireturn, 1, 1, 0, 0, 0, []),
  (73, .iload_n 1, 1, 0, 0, 0, 0, []),
  (74, .iconst 1, 1, 0, 0, 0, 1, []),
  (75, .bipush 18, 2, 0, 0, 0, 18, []),
  (77, .invokestatic 122, 3, 168, 3, 1, 0, []),
  (80, .ireturn, 1, 1, 0, 0, 0, []),
  (81, .iload_n 1, 1, 0, 0, 0, 0, []),
  (82, .iconst 0, 1, 0, 0, 0, 0, []),
  (83, .bipush 24, 2, 0, 0, 0, 24, []),
  (85, .invokestatic 122, 3, 168, 3, 1, 0, []),
  (88, .ireturn, 1, 1, 0, 0, 0, []),
  (89, .iload_n 1, 1, 0, 0, 0, 0, []),
  (90, .iconst 0, 1, 0, 0, 0, 0, []),
  (91, .iconst 1, 1, 0, 0, 0, 1, []),
  (92, .invokestatic 122, 3, 168, 3, 1, 0, []),
  (95, .ireturn, 1, 1, 0, 0, 0, []),
  (96, .iload_n 1, 1, 0, 0, 0, 0, []),
  (97, .iconst 0, 1, 0, 0, 0, 0, []),
  (98, .bipush 9, 2, 0, 0, 0, 9, []),
  (100, .invokestatic 122, 3, 168, 3, 1, 0, []),
  (103, .ireturn, 1, 1, 0, 0, 0, [])]
/-- yX11_get -/
def mt_182 : List am_row := [
  (0, .iload_n 2, 1, 0, 0, 0, 0, []),
  (1, .tableswitch 103 0 7 #[47, 54, 61, 68, 75, 82, 89, 96], 47, 42, 0, 0, 0, [(0, 2), (1, 7), (2, 12), (3, 17), (4, 22), (5, 27), (6, 32), (7, 37)]),
  (48, .aload_n 0, 1, 0, 0, 0, 0, []),
  (49, .getfield 9, 3, 11, 1, 2, 0, []),
  (52, .iload_n 1, 1, 0, 0, 0, 0, []),
  (53, .iaload, 1, 0, 0, 0, 0, []),
  (54, .ireturn, 1, 0, 0, 0, 0, []),
  (55, .aload_n 0, 1, 0, 0, 0, 0, []),
  (56, .getfield 15, 3, 11, 2, 2, 0, []),
  (59, .iload_n 1, 1, 0, 0, 0, 0, []),
  (60, .iaload, 1, 0, 0, 0, 0, []),
  (61, .ireturn, 1, 0, 0, 0, 0, []),
  (62, .aload_n 0, 1, 0, 0, 0, 0, []),
  (63, .getfield 18, 3, 11, 3, 2, 0, []),
  (66, .iload_n 1, 1, 0, 0, 0, 0, []),
  (67, .iaload, 1, 0, 0, 0, 0, []),
  (68, .ireturn, 1, 0, 0, 0, 0, []),
  (69, .aload_n 0, 1, 0, 0, 0, 0, []),
  (70, .getfield 24, 3, 11, 6, 2, 0, []),
  (73, .iload_n 1, 1, 0, 0, 0, 0, []),
  (74, .iaload, 1, 0, 0, 0, 0, []),
  (75, .ireturn, 1, 0, 0, 0, 0, []),
  (76, .aload_n 0, 1, 0, 0, 0, 0, []),
  (77, .getfield 27, 3, 11, 7, 2, 0, []),
  (80, .iload_n 1, 1, 0, 0, 0, 0, []),
  (81, .iaload, 1, 0, 0, 0, 0, []),
  (82, .ireturn, 1, 0, 0, 0, 0, []),
  (83, .aload_n 0, 1, 0, 0, 0, 0, []),
  (84, .getfield 30, 3, 11, 8, 2, 0, []),
  (87, .iload_n 1, 1, 0, 0, 0, 0, []),
  (88, .iaload, 1, 0, 0, 0, 0, []),
  (89, .ireturn, 1, 0, 0, 0, 0, []),
  (90, .aload_n 0, 1, 0, 0, 0, 0, []),
  (91, .getfield 33, 3, 11, 9, 2, 0, []),
  (94, .iload_n 1, 1, 0, 0, 0, 0, []),
  (95, .iaload, 1, 0, 0, 0, 0, []),
  (96, .ireturn, 1, 0, 0, 0, 0, []),
  (97, .aload_n 0, 1, 0, 0, 0, 0, []),
  (98, .getfield 36, 3, 11, 10, 2, 0, []),
  (101, .iload_n 1, 1, 0, 0, 0, 0, []),
  (102, .iaload, 1, 0, 0, 0, 0, []),
  (103, .ireturn, 1, 0, 0, 0, 0, []),
  (104, .aload_n 0, 1, 0, 0, 0, 0, []),
  (105, .getfield 39, 3, 11, 11, 2, 0, []),
  (108, .iload_n 2, 1, 0, 0, 0, 0, []),
  (109, .bipush 8, 2, 0, 0, 0, 8, []),
  (111, .isub, 1, 0, 0, 0, 0, []),
  (112, .iaload, 1, 0, 0, 0, 0, []),
  (113, .ireturn, 1, 0, 0, 0, 0, [])]
/-- yX11_becomes -/
def mt_183 : List am_row := [
  (0, .iload_n 2, 1, 0, 0, 0, 0, []),
  (1, .tableswitch 111 0 7 #[47, 55, 63, 71, 79, 87, 95, 103], 47, 50, 0, 0, 0, [(0, 2), (1, 8), (2, 14), (3, 20), (4, 26), (5, 32), (6, 38), (7, 44)]),
  (48, .aload_n 0, 1, 0, 0, 0, 0, []),
  (49, .getfield 9, 3, 11, 1, 2, 0, []),
  (52, .iload_n 1, 1, 0, 0, 0, 0, []),
  (53, .iload_n 3, 1, 0, 0, 0, 0, []),
  (54, .iastore, 1, 0, 0, 0, 0, []),
  (55, .return_, 1, 0, 0, 0, 0, []),
  (56, .aload_n 0, 1, 0, 0, 0, 0, []),
  (57, .getfield 15, 3, 11, 2, 2, 0, []),
  (60, .iload_n 1, 1, 0, 0, 0, 0, []),
  (61, .iload_n 3, 1, 0, 0, 0, 0, []),
  (62, .iastore, 1, 0, 0, 0, 0, []),
  (63, .return_, 1, 0, 0, 0, 0, []),
  (64, .aload_n 0, 1, 0, 0, 0, 0, []),
  (65, .getfield 18, 3, 11, 3, 2, 0, []),
  (68, .iload_n 1, 1, 0, 0, 0, 0, []),
  (69, .iload_n 3, 1, 0, 0, 0, 0, []),
  (70, .iastore, 1, 0, 0, 0, 0, []),
  (71, .return_, 1, 0, 0, 0, 0, []),
  (72, .aload_n 0, 1, 0, 0, 0, 0, []),
  (73, .getfield 24, 3, 11, 6, 2, 0, []),
  (76, .iload_n 1, 1, 0, 0, 0, 0, []),
  (77, .iload_n 3, 1, 0, 0, 0, 0, []),
  (78, .iastore, 1, 0, 0, 0, 0, []),
  (79, .return_, 1, 0, 0, 0, 0, []),
  (80, .aload_n 0, 1, 0, 0, 0, 0, []),
  (81, .getfield 27, 3, 11, 7, 2, 0, []),
  (84, .iload_n 1, 1, 0, 0, 0, 0, []),
  (85, .iload_n 3, 1, 0, 0, 0, 0, []),
  (86, .iastore, 1, 0, 0, 0, 0, []),
  (87, .return_, 1, 0, 0, 0, 0, []),
  (88, .aload_n 0, 1, 0, 0, 0, 0, []),
  (89, .getfield 30, 3, 11, 8, 2, 0, []),
  (92, .iload_n 1, 1, 0, 0, 0, 0, []),
  (93, .iload_n 3, 1, 0, 0, 0, 0, []),
  (94, .iastore, 1, 0, 0, 0, 0, []),
  (95, .return_, 1, 0, 0, 0, 0, []),
  (96, .aload_n 0, 1, 0, 0, 0, 0, []),
  (97, .getfield 33, 3, 11, 9, 2, 0, []),
  (100, .iload_n 1, 1, 0, 0, 0, 0, []),
  (101, .iload_n 3, 1, 0, 0, 0, 0, []),
  (102, .iastore, 1, 0, 0, 0, 0, []),
  (103, .return_, 1, 0, 0, 0, 0, []),
  (104, .aload_n 0, 1, 0, 0, 0, 0, []),
  (105, .getfield 36, 3, 11, 10, 2, 0, []),
  (108, .iload_n 1, 1, 0, 0, 0, 0, []),
  (109, .iload_n 3, 1, 0, 0, 0, 0, []),
  (110, .iastore, 1, 0, 0, 0, 0, []),
  (111, .return_, 1, 0, 0, 0, 0, []),
  (112, .aload_n 0, 1, 0, 0, 0, 0, []),
  (113, .getfield 39, 3, 11, 11, 2, 0, []),
  (116, .iload_n 2, 1, 0, 0, 0, 0, []),
  (117, .bipush 8, 2, 0, 0, 0, 8, []),
  (119, .isub, 1, 0, 0, 0, 0, []),
  (120, .iload_n 3, 1, 0, 0, 0, 0, []),
  (121, .iastore, 1, 0, 0, 0, 0, []),
  (122, .return_, 1, 0, 0, 0, 0, [])]
/-- yX11_mend -/
def mt_184 : List am_row := [
  (0, .aload_n 0, 1, 0, 0, 0, 0, []),
  (1, .iload_n 1, 1, 0, 0, 0, 0, []),
  (2, .iload_n 2, 1, 0, 0, 0, 0, []),
  (3, .invokevirtual 151, 3, 180, 3, 1, 0, []),
  (6, .ifCond .eq 11, 3, 9, 0, 0, 0, []),
  (9, .iload_n 2, 1, 0, 0, 0, 0, []),
  (10, .iload_n 3, 1, 0, 0, 0, 0, []),
  (11, .invokestatic 155, 3, 181, 2, 1, 0, []),
  (14, .ifCond .ne 5, 3, 11, 0, 0, 0, []),
  (17, .iconst (-1), 1, 0, 0, 0, -1, []),
  (18, .ireturn, 1, 0, 0, 0, 0, []),
  (19, .aload_n 0, 1, 0, 0, 0, 0, []),
  (20, .iload_n 1, 1, 0, 0, 0, 0, []),
  (21, .iload_n 2, 1, 0, 0, 0, 0, []),
  (22, .invokevirtual 158, 3, 182, 3, 1, 0, []),
  (25, .istore 4, 2, 0, 0, 0, 0, []),
  (27, .iload 4, 2, 0, 0, 0, 0, []),
  (29, .iload_n 3, 1, 0, 0, 0, 0, []),
  (30, .if_icmp .ne 6, 3, 21, 0, 0, 0, []),
  (33, .iload 4, 2, 0, 0, 0, 0, []),
  (35, .ireturn, 1, 0, 0, 0, 0, []),
  (36, .aload_n 0, 1, 0, 0, 0, 0, []),
  (37, .iload_n 1, 1, 0, 0, 0, 0, []),
  (38, .iload_n 2, 1, 0, 0, 0, 0, []),
  (39, .iload_n 3, 1, 0, 0, 0, 0, []),
  (40, .invokevirtual 162, 3, 183, 4, 0, 0, []),
  (43, .aload_n 0, 1, 0, 0, 0, 0, []),
  (44, .getfield 166, 3, 11, 38, 0, 0, []),
  (47, .bipush 40, 2, 0, 0, 0, 40, []),
  (49, .if_icmp .ne 46, 3, 53, 0, 0, 0, []),
  (52, .iconst 0, 1, 0, 0, 0, 0, []),
  (53, .istore 5, 2, 0, 0, 0, 0, []),
  (55, .iload 5, 2, 0, 0, 0, 0, []),
  (57, .sipush 156, 3, 0, 0, 0, 156, []),
  (60, .if_icmp .ge 25, 3, 47, 0, 0, 0, []),
  (63, .aload_n 0, 1, 0, 0, 0, 0, []),
  (64, .getfield 84, 3, 11, 39, 2, 0, []),
  (67, .iload 5, 2, 0, 0, 0, 0, []),
  (69, .aload_n 0, 1, 0, 0, 0, 0, []),
  (70, .getfield 84, 3, 11, 39, 2, 0, []),
  (73, .iload 5, 2, 0, 0, 0, 0, []),
  (75, .iconst 4, 1, 0, 0, 0, 4, []),
  (76, .iadd, 1, 0, 0, 0, 0, []),
  (77, .iaload, 1, 0, 0, 0, 0, []),
  (78, .iastore, 1, 0, 0, 0, 0, []),
  (79, .iinc 5 1, 3, 0, 0, 0, 1, []),
  (82, .goto (-27), 3, 32, 0, 0, 0, []),
  (85, .aload_n 0, 1, 0, 0, 0, 0, []),
  (86, .dup, 1, 0, 0, 0, 0, []),
  (87, .getfield 166, 3, 11, 38, 0, 0, []),
  (90, .iconst 1, 1, 0, 0, 0, 1, []),
  (91, .isub, 1, 0, 0, 0, 0, []),
  (92, .putfield 166, 3, 11, 38, 0, 0, []),
  (95, .aload_n 0, 1, 0, 0, 0, 0, []),
  (96, .getfield 84, 3, 11, 39, 2, 0, []),
  (99, .iconst 4, 1, 0, 0, 0, 4, []),
  (100, .aload_n 0, 1, 0, 0, 0, 0, []),
  (101, .getfield 166, 3, 11, 38, 0, 0, []),
  (104, .imul, 1, 0, 0, 0, 0, []),
  (105, .iload_n 1, 1, 0, 0, 0, 0, []),
  (106, .iastore, 1, 0, 0, 0, 0, []),
  (107, .aload_n 0, 1, 0, 0, 0, 0, []),
  (108, .getfield 84, 3, 11, 39, 2, 0, []),
  (111, .iconst 4, 1, 0, 0, 0, 4, []),
  (112, .aload_n 0, 1, 0, 0, 0, 0, []),
  (113, .getfield 166, 3, 11, 38, 0, 0, []),
  (116, .imul, 1, 0, 0, 0, 0, []),
  (117, .iconst 1, 1, 0, 0, 0, 1, []),
  (118, .iadd, 1, 0, 0, 0, 0, []),
  (119, .iload_n 2, 1, 0, 0, 0, 0, []),
  (120, .iastore, 1, 0, 0, 0, 0, []),
  (121, .aload_n 0, 1, 0, 0, 0, 0, []),
  (122, .getfield 84, 3, 11, 39, 2, 0, []),
  (125, .iconst 4, 1, 0, 0, 0, 4, []),
  (126, .aload_n 0, 1, 0, 0, 0, 0, []),
  (127, .getfield 166, 3, 11, 38, 0, 0, []),
  (130, .imul, 1, 0, 0, 0, 0, []),
  (131, .iconst 2, 1, 0, 0, 0, 2, []),
  (132, .iadd, 1, 0, 0, 0, 0, []),
  (133, .iload 4, 2, 0, 0, 0, 0, []),
  (135, .iastore, 1, 0, 0, 0, 0, []),
  (136, .aload_n 0, 1, 0, 0, 0, 0, []),
  (137, .getfield 84, 3, 11, 39, 2, 0, []),
  (140, .iconst 4, 1, 0, 0, 0, 4, []),
  (141, .aload_n 0, 1, 0, 0, 0, 0, []),
  (142, .getfield 166, 3, 11, 38, 0, 0, []),
  (145, .imul, 1, 0, 0, 0, 0, []),
  (146, .iconst 3, 1, 0, 0, 0, 3, []),
  (147, .iadd, 1, 0, 0, 0, 0, []),
  (148, .iload_n 3, 1, 0, 0, 0, 0, []),
  (149, .iastore, 1, 0, 0, 0, 0, []),
  (150, .aload_n 0, 1, 0, 0, 0, 0, []),
  (151, .dup, 1, 0, 0, 0, 0, []),
  (152, .getfield 166, 3, 11, 38, 0, 0, []),
  (155, .iconst 1, 1, 0, 0, 0, 1, []),
  (156, .iadd, 1, 0, 0, 0, 0, []),
  (157, .putfield 166, 3, 11, 38, 0, 0, []),
  (160, .aload_n 0, 1, 0, 0, 0, 0, []),
  (161, .aload_n 0, 1, 0, 0, 0, 0, []),
  (162, .getfield 166, 3, 11, 38, 0, 0, []),
  (165, .putfield 169, 3, 11, 37, 0, 0, []),
  (168, .iload 4, 2, 0, 0, 0, 0, []),
  (170, .ireturn, 1, 0, 0, 0, 0, [])]
/-- yX11_of -/
def mt_185 : List am_row := [
  (0, .iload_n 2, 1, 0, 0, 0, 0, []),
  (1, .bipush 10, 2, 0, 0, 0, 10, []),
  (3, .if_icmp .ne 22, 3, 14, 0, 0, 0, []),
  (6, .aload_n 0, 1, 0, 0, 0, 0, []),
  (7, .iload_n 1, 1, 0, 0, 0, 0, []),
  (8, .invokevirtual 148, 3, 169, 2, 1, 0, []),
  (11, .ifCond .eq 12, 3, 12, 0, 0, 0, []),
  (14, .aload_n 0, 1, 0, 0, 0, 0, []),
  (15, .getfield 21, 3, 11, 4, 2, 0, []),
  (18, .iload_n 1, 1, 0, 0, 0, 0, []),
  (19, .iaload, 1, 0, 0, 0, 0, []),
  (20, .goto 4, 3, 13, 0, 0, 0, []),
  (23, .iconst (-1), 1, 0, 0, 0, -1, []),
  (24, .ireturn, 1, 0, 0, 0, 0, []),
  (25, .aload_n 0, 1, 0, 0, 0, 0, []),
  (26, .iload_n 1, 1, 0, 0, 0, 0, []),
  (27, .iload_n 2, 1, 0, 0, 0, 0, []),
  (28, .invokevirtual 151, 3, 180, 3, 1, 0, []),
  (31, .ifCond .eq 12, 3, 24, 0, 0, 0, []),
  (34, .aload_n 0, 1, 0, 0, 0, 0, []),
  (35, .iload_n 1, 1, 0, 0, 0, 0, []),
  (36, .iload_n 2, 1, 0, 0, 0, 0, []),
  (37, .invokevirtual 158, 3, 182, 3, 1, 0, []),
  (40, .goto 4, 3, 25, 0, 0, 0, []),
  (43, .iconst (-1), 1, 0, 0, 0, -1, []),
  (44, .ireturn, 1, 0, 0, 0, 0, [])]
/-- yX11_undo -/
def mt_186 : List am_row := [
  (0, .aload_n 0, 1, 0, 0, 0, 0, []),
  (1, .getfield 166, 3, 11, 38, 0, 0, []),
  (4, .ifCond .ne 6, 3, 5, 0, 0, 0, []),
  (7, .bipush (-5), 2, 0, 0, 0, -5, []),
  (9, .ireturn, 1, 0, 0, 0, 0, []),
  (10, .aload_n 0, 1, 0, 0, 0, 0, []),
  (11, .dup, 1, 0, 0, 0, 0, []),
  (12, .getfield 166, 3, 11, 38, 0, 0, []),
  (15, .iconst 1, 1, 0, 0, 0, 1, []),
  (16, .isub, 1, 0, 0, 0, 0, []),
  (17, .putfield 166, 3, 11, 38, 0, 0, []),
  (20, .aload_n 0, 1, 0, 0, 0, 0, []),
  (21, .aload_n 0, 1, 0, 0, 0, 0, []),
  (22, .getfield 84, 3, 11, 39, 2, 0, []),
  (25, .iconst 4, 1, 0, 0, 0, 4, []),
  (26, .aload_n 0, 1, 0, 0, 0, 0, []),
  (27, .getfield 166, 3, 11, 38, 0, 0, []),
  (30, .imul, 1, 0, 0, 0, 0, []),
  (31, .iaload, 1, 0, 0, 0, 0, []),
  (32, .aload_n 0, 1, 0, 0, 0, 0, []),
  (33, .getfield 84, 3, 11, 39, 2, 0, []),
  (36, .iconst 4, 1, 0, 0, 0, 4, []),
  (37, .aload_n 0, 1, 0, 0, 0, 0, []),
  (38, .getfield 166, 3, 11, 38, 0, 0, []),
  (41, .imul, 1, 0, 0, 0, 0, []),
  (42, .iconst 1, 1, 0, 0, 0, 1, []),
  (43, .iadd, 1, 0, 0, 0, 0, []),
  (44, .iaload, 1, 0, 0, 0, 0, []),
  (45, .aload_n 0, 1, 0, 0, 0, 0, []),
  (46, .getfield 84, 3, 11, 39, 2, 0, []),
  (49, .iconst 4, 1, 0, 0, 0, 4, []),
  (50, .aload_n 0, 1, 0, 0, 0, 0, []),
  (51, .getfield 166, 3, 11, 38, 0, 0, []),
  (54, .imul, 1, 0, 0, 0, 0, []),
  (55, .iconst 2, 1, 0, 0, 0, 2, []),
  (56, .iadd, 1, 0, 0, 0, 0, []),
  (57, .iaload, 1, 0, 0, 0, 0, []),
  (58, .invokevirtual 162, 3, 183, 4, 0, 0, []),
  (61, .aload_n 0, 1, 0, 0, 0, 0, []),
  (62, .getfield 166, 3, 11, 38, 0, 0, []),
  (65, .ireturn, 1, 0, 0, 0, 0, [])]
/-- yX11_redo -/
def mt_187 : List am_row := [
  (0, .aload_n 0, 1, 0, 0, 0, 0, []),
  (1, .getfield 166, 3, 11, 38, 0, 0, []),
  (4, .aload_n 0, 1, 0, 0, 0, 0, []),
  (5, .getfield 169, 3, 11, 37, 0, 0, []),
  (8, .if_icmp .ne 6, 3, 7, 0, 0, 0, []),
  (11, .bipush (-5), 2, 0, 0, 0, -5, []),
  (13, .ireturn, 1, 0, 0, 0, 0, []),
  (14, .aload_n 0, 1, 0, 0, 0, 0, []),
  (15, .aload_n 0, 1, 0, 0, 0, 0, []),
  (16, .getfield 84, 3, 11, 39, 2, 0, []),
  (19, .iconst 4, 1, 0, 0, 0, 4, []),
  (20, .aload_n 0, 1, 0, 0, 0, 0, []),
  (21, .getfield 166, 3, 11, 38, 0, 0, []),
  (24, .imul, 1, 0, 0, 0, 0, []),
  (25, .iaload, 1, 0, 0, 0, 0, []),
  (26, .aload_n 0, 1, 0, 0, 0, 0, []),
  (27, .getfield 84, 3, 11, 39, 2, 0, []),
  (30, .iconst 4, 1, 0, 0, 0, 4, []),
  (31, .aload_n 0, 1, 0, 0, 0, 0, []),
  (32, .getfield 166, 3, 11, 38, 0, 0, []),
  (35, .imul, 1, 0, 0, 0, 0, []),
  (36, .iconst 1, 1, 0, 0, 0, 1, []),
  (37, .iadd, 1, 0, 0, 0, 0, []),
  (38, .iaload, 1, 0, 0, 0, 0, []),
  (39, .aload_n 0, 1, 0, 0, 0, 0, []),
  (40, .getfield 84, 3, 11, 39, 2, 0, []),
  (43, .iconst 4, 1, 0, 0, 0, 4, []),
  (44, .aload_n 0, 1, 0, 0, 0, 0, []),
  (45, .getfield 166, 3, 11, 38, 0, 0, []),
  (48, .imul, 1, 0, 0, 0, 0, []),
  (49, .iconst 3, 1, 0, 0, 0, 3, []),
  (50, .iadd, 1, 0, 0, 0, 0, []),
  (51, .iaload, 1, 0, 0, 0, 0, []),
  (52, .invokevirtual 162, 3, 183, 4, 0, 0, []),
  (55, .aload_n 0, 1, 0, 0, 0, 0, []),
  (56, .dup, 1, 0, 0, 0, 0, []),
  (57, .getfield 166, 3, 11, 38, 0, 0, []),
  (60, .iconst 1, 1, 0, 0, 0, 1, []),
  (61, .iadd, 1, 0, 0, 0, 0, []),
  (62, .putfield 166, 3, 11, 38, 0, 0, []),
  (65, .aload_n 0, 1, 0, 0, 0, 0, []),
  (66, .getfield 169, 3, 11, 37, 0, 0, []),
  (69, .aload_n 0, 1, 0, 0, 0, 0, []),
  (70, .getfield 166, 3, 11, 38, 0, 0, []),
  (73, .isub, 1, 0, 0, 0, 0, []),
  (74, .ireturn, 1, 0, 0, 0, 0, [])]
/-- yX11_feed -/
def mt_188 : List am_row := [
  (0, .iload_n 1, 1, 0, 0, 0, 0, []),
  (1, .iconst 0, 1, 0, 0, 0, 0, []),
  (2, .sipush 255, 3, 0, 0, 0, 255, []),
  (5, .invokestatic 122, 3, 168, 3, 1, 0, []),
  (8, .ifCond .ne 5, 3, 7, 0, 0, 0, []),
  (11, .iconst (-1), 1, 0, 0, 0, -1, []),
  (12, .ireturn, 1, 0, 0, 0, 0, []),
  (13, .aload_n 0, 1, 0, 0, 0, 0, []),
  (14, .getfield 172, 3, 11, 13, 0, 0, []),
  (17, .bipush 120, 2, 0, 0, 0, 120, []),
  (19, .if_icmp .ne 6, 3, 13, 0, 0, 0, []),
  (22, .bipush (-3), 2, 0, 0, 0, -3, []),
  (24, .ireturn, 1, 0, 0, 0, 0, []),
  (25, .aload_n 0, 1, 0, 0, 0, 0, []),
  (26, .getfield 42, 3, 11, 14, 2, 0, []),
  (29, .aload_n 0, 1, 0, 0, 0, 0, []),
  (30, .dup, 1, 0, 0, 0, 0, []),
  (31, .getfield 172, 3, 11, 13, 0, 0, []),
  (34, .dup_x1, 1, 0, 0, 0, 0, []),
  (35, .iconst 1, 1, 0, 0, 0, 1, []),
  (36, .iadd, 1, 0, 0, 0, 0, []),
  (37, .putfield 172, 3, 11, 13, 0, 0, []),
  (40, .iload_n 1, 1, 0, 0, 0, 0, []),
  (41, .iastore, 1, 0, 0, 0, 0, []),
  (42, .aload_n 0, 1, 0, 0, 0, 0, []),
  (43, .getfield 172, 3, 11, 13, 0, 0, []),
  (46, .ireturn, 1, 0, 0, 0, 0, [])]
/-- yX11_sign -/
def mt_189 : List am_row := [
  (0, .aload_n 0, 1, 0, 0, 0, 0, []),
  (1, .getfield 175, 3, 11, 21, 0, 0, []),
  (4, .aload_n 0, 1, 0, 0, 0, 0, []),
  (5, .getfield 172, 3, 11, 13, 0, 0, []),
  (8, .if_icmp .ge 15, 3, 11, 0, 0, 0, []),
  (11, .aload_n 0, 1, 0, 0, 0, 0, []),
  (12, .getfield 42, 3, 11, 14, 2, 0, []),
  (15, .aload_n 0, 1, 0, 0, 0, 0, []),
  (16, .getfield 175, 3, 11, 21, 0, 0, []),
  (19, .iaload, 1, 0, 0, 0, 0, []),
  (20, .goto 4, 3, 12, 0, 0, 0, []),
  (23, .iconst (-1), 1, 0, 0, 0, -1, []),
  (24, .ireturn, 1, 0, 0, 0, 0, [])]
/-- yX11_is -/
def mt_190 : List am_row := [
  (0, .aload_n 0, 1, 0, 0, 0, 0, []),
  (1, .invokevirtual 178, 3, 189, 1, 1, 0, []),
  (4, .iload_n 1, 1, 0, 0, 0, 0, []),
  (5, .if_icmp .eq 5, 3, 6, 0, 0, 0, []),
  (8, .iconst 0, 1, 0, 0, 0, 0, []),
  (9, .ireturn, 1, 1, 0, 0, 0, []),
  (10, .aload_n 0, 1, 0, 0, 0, 0, []),
  (11, .dup, 1, 0, 0, 0, 0, []),
  (12, .getfield 175, 3, 11, 21, 0, 0, []),
  (15, .iconst 1, 1, 0, 0, 0, 1, []),
  (16, .iadd, 1, 0, 0, 0, 0, []),
  (17, .putfield 175, 3, 11, 21, 0, 0, []),
  (20, .iconst 1, 1, 0, 0, 0, 1, []),
  (21, .ireturn, 1, 1, 0, 0, 0, [])]
/-- yX11_codes -/
def mt_191 : List am_row := [
  (0, .aload_n 0, 1, 0, 0, 0, 0, []),
  (1, .getfield 66, 3, 11, 28, 2, 0, []),
  (4, .aload_n 0, 1, 0, 0, 0, 0, []),
  (5, .dup, 1, 0, 0, 0, 0, []),
  (6, .getfield 182, 3, 11, 23, 0, 0, []),
  (9, .dup_x1, 1, 0, 0, 0, 0, []),
  (10, .iconst 1, 1, 0, 0, 0, 1, []),
  (11, .iadd, 1, 0, 0, 0, 0, []),
  (12, .putfield 182, 3, 11, 23, 0, 0, []),
  (15, .iload_n 1, 1, 0, 0, 0, 0, []),
  (16, .iastore, 1, 0, 0, 0, 0, []),
  (17, .iconst 1, 1, 0, 0, 0, 1, []),
  (18, .ireturn, 1, 1, 0, 0, 0, [])]
/-- yX11_isDigit -/
def mt_192 : List am_row := [
  (0, .aload_n 0, 1, 0, 0, 0, 0, []),
  (1, .invokevirtual 178, 3, 189, 1, 1, 0, []),
  (4, .bipush 48, 2, 0, 0, 0, 48, []),
  (6, .if_icmp .lt 16, 3, 10, 0, 0, 0, []),
  (9, .aload_n 0, 1, 0, 0, 0, 0, []),
  (10, .invokevirtual 178, 3, 189, 1, 1, 0, []),
  (13, .bipush 57, 2, 0, 0, 0, 57, []),
  (15, .if_icmp .gt 7, 3, 10, 0, 0, 0, []),
  (18, .iconst 1, 1, 0, 0, 0, 1, []),
  (19, .goto 4, 3, 11, 0, 0, 0, []),
  (22, .iconst 0, 1, 0, 0, 0, 0, []),
  (23, .ireturn, 1, 1, 0, 0, 0, [])]
/-- yX11_nameOf -/
def mt_193 : List am_row := [
  (0, .iload_n 0, 1, 0, 0, 0, 0, []),
  (1, .lookupswitch 71 #[(97, 65), (100, 63), (107, 69), (110, 67), (115, 59), (119, 61)], 59, 14, 0, 0, 0, [(97, 8), (100, 6), (107, 12), (110, 10), (115, 2), (119, 4)]),
  (60, .iconst 0, 1, 0, 0, 0, 0, []),
  (61, .ireturn, 1, 0, 0, 0, 0, []),
  (62, .iconst 1, 1, 0, 0, 0, 1, []),
  (63, .ireturn, 1, 0, 0, 0, 0, []),
  (64, .iconst 2, 1, 0, 0, 0, 2, []),
  (65, .ireturn, 1, 0, 0, 0, 0, []),
  (66, .iconst 3, 1, 0, 0, 0, 3, []),
  (67, .ireturn, 1, 0, 0, 0, 0, []),
  (68, .iconst 4, 1, 0, 0, 0, 4, []),
  (69, .ireturn, 1, 0, 0, 0, 0, []),
  (70, .iconst 5, 1, 0, 0, 0, 5, []),
  (71, .ireturn, 1, 0, 0, 0, 0, []),
  (72, .iconst (-1), 1, 0, 0, 0, -1, []),
  (73, .ireturn, 1, 0, 0, 0, 0, [])]
/-- yX11_isO -/
def mt_194 : List am_row := [
  (0, .aload_n 0, 1, 0, 0, 0, 0, []),
  (1, .invokevirtual 185, 3, 192, 1, 1, 0, []),
  (4, .ifCond .eq 62, 3, 39, 0, 0, 0, []),
  (7, .iconst 0, 1, 0, 0, 0, 0, []),
  (8, .istore_n 1, 1, 0, 0, 0, 0, []),
  (9, .iconst 0, 1, 0, 0, 0, 0, []),
  (10, .istore_n 2, 1, 0, 0, 0, 0, []),
  (11, .iload_n 2, 1, 0, 0, 0, 0, []),
  (12, .iconst 4, 1, 0, 0, 0, 4, []),
  (13, .if_icmp .ge 44, 3, 33, 0, 0, 0, []),
  (16, .aload_n 0, 1, 0, 0, 0, 0, []),
  (17, .invokevirtual 185, 3, 192, 1, 1, 0, []),
  (20, .ifCond .eq 37, 3, 33, 0, 0, 0, []),
  (23, .bipush 10, 2, 0, 0, 0, 10, []),
  (25, .iload_n 1, 1, 0, 0, 0, 0, []),
  (26, .imul, 1, 0, 0, 0, 0, []),
  (27, .aload_n 0, 1, 0, 0, 0, 0, []),
  (28, .getfield 42, 3, 11, 14, 2, 0, []),
  (31, .aload_n 0, 1, 0, 0, 0, 0, []),
  (32, .getfield 175, 3, 11, 21, 0, 0, []),
  (35, .iaload, 1, 0, 0, 0, 0, []),
  (36, .iadd, 1, 0, 0, 0, 0, []),
  (37, .bipush 48, 2, 0, 0, 0, 48, []),
  (39, .isub, 1, 0, 0, 0, 0, []),
  (40, .istore_n 1, 1, 0, 0, 0, 0, []),
  (41, .aload_n 0, 1, 0, 0, 0, 0, []),
  (42, .dup, 1, 0, 0, 0, 0, []),
  (43, .getfield 175, 3, 11, 21, 0, 0, []),
  (46, .iconst 1, 1, 0, 0, 0, 1, []),
  (47, .iadd, 1, 0, 0, 0, 0, []),
  (48, .putfield 175, 3, 11, 21, 0, 0, []),
  (51, .iinc 2 1, 3, 0, 0, 0, 1, []),
  (54, .goto (-43), 3, 7, 0, 0, 0, []),
  (57, .aload_n 0, 1, 0, 0, 0, 0, []),
  (58, .bipush 18, 2, 0, 0, 0, 18, []),
  (60, .iload_n 1, 1, 0, 0, 0, 0, []),
  (61, .iadd, 1, 0, 0, 0, 0, []),
  (62, .invokevirtual 189, 3, 191, 2, 1, 0, []),
  (65, .ireturn, 1, 1, 0, 0, 0, []),
  (66, .aload_n 0, 1, 0, 0, 0, 0, []),
  (67, .invokevirtual 178, 3, 189, 1, 1, 0, []),
  (70, .invokestatic 192, 3, 193, 1, 1, 0, []),
  (73, .istore_n 1, 1, 0, 0, 0, 0, []),
  (74, .iload_n 1, 1, 0, 0, 0, 0, []),
  (75, .ifCond .lt 19, 3, 55, 0, 0, 0, []),
  (78, .aload_n 0, 1, 0, 0, 0, 0, []),
  (79, .dup, 1, 0, 0, 0, 0, []),
  (80, .getfield 175, 3, 11, 21, 0, 0, []),
  (83, .iconst 1, 1, 0, 0, 0, 1, []),
  (84, .iadd, 1, 0, 0, 0, 0, []),
  (85, .putfield 175, 3, 11, 21, 0, 0, []),
  (88, .aload_n 0, 1, 0, 0, 0, 0, []),
  (89, .iload_n 1, 1, 0, 0, 0, 0, []),
  (90, .invokevirtual 189, 3, 191, 2, 1, 0, []),
  (93, .ireturn, 1, 1, 0, 0, 0, []),
  (94, .aload_n 0, 1, 0, 0, 0, 0, []),
  (95, .getfield 196, 3, 11, 22, 0, 0, []),
  (98, .bipush 6, 2, 0, 0, 0, 6, []),
  (100, .if_icmp .ne 5, 3, 61, 0, 0, 0, []),
  (103, .iconst 0, 1, 0, 0, 0, 0, []),
  (104, .ireturn, 1, 1, 0, 0, 0, []),
  (105, .aload_n 0, 1, 0, 0, 0, 0, []),
  (106, .dup, 1, 0, 0, 0, 0, []),
  (107, .getfield 196, 3, 11, 22, 0, 0, []),
  (110, .iconst 1, 1, 0, 0, 0, 1, []),
  (111, .iadd, 1, 0, 0, 0, 0, []),
  (112, .putfield 196, 3, 11, 22, 0, 0, []),
  (115, .aload_n 0, 1, 0, 0, 0, 0, []),
  (116, .bipush 33, 2, 0, 0, 0, 33, []),
  (118, .invokevirtual 199, 3, 190, 2, 1, 0, []),
  (121, .ifCond .eq 28, 3, 83, 0, 0, 0, []),
  (124, .aload_n 0, 1, 0, 0, 0, 0, []),
  (125, .invokevirtual 202, 3, 194, 1, 1, 0, []),
  (128, .ifCond .eq 16, 3, 80, 0, 0, 0, []),
  (131, .aload_n 0, 1, 0, 0, 0, 0, []),
  (132, .bipush 16, 2, 0, 0, 0, 16, []),
  (134, .invokevirtual 189, 3, 191, 2, 1, 0, []),
  (137, .ifCond .eq 7, 3, 80, 0, 0, 0, []),
  (140, .iconst 1, 1, 0, 0, 0, 1, []),
  (141, .goto 4, 3, 81, 0, 0, 0, []),
  (144, .iconst 0, 1, 0, 0, 0, 0, []),
  (145, .istore_n 2, 1, 0, 0, 0, 0, []),
  (146, .goto 68, 3, 114, 0, 0, 0, []),
  (149, .aload_n 0, 1, 0, 0, 0, 0, []),
  (150, .bipush 45, 2, 0, 0, 0, 45, []),
  (152, .invokevirtual 199, 3, 190, 2, 1, 0, []),
  (155, .ifCond .eq 28, 3, 99, 0, 0, 0, []),
  (158, .aload_n 0, 1, 0, 0, 0, 0, []),
  (159, .invokevirtual 202, 3, 194, 1, 1, 0, []),
  (162, .ifCond .eq 16, 3, 96, 0, 0, 0, []),
  (165, .aload_n 0, 1, 0, 0, 0, 0, []),
  (166, .bipush 17, 2, 0, 0, 0, 17, []),
  (168, .invokevirtual 189, 3, 191, 2, 1, 0, []),
  (171, .ifCond .eq 7, 3, 96, 0, 0, 0, []),
  (174, .iconst 1, 1, 0, 0, 0, 1, []),
  (175, .goto 4, 3, 97, 0, 0, 0, []),
  (178, .iconst 0, 1, 0, 0, 0, 0, []),
  (179, .istore_n 2, 1, 0, 0, 0, 0, []),
  (180, .goto 34, 3, 114, 0, 0, 0, []),
  (183, .aload_n 0, 1, 0, 0, 0, 0, []),
  (184, .bipush 40, 2, 0, 0, 0, 40, []),
  (186, .invokevirtual 199, 3, 190, 2, 1, 0, []),
  (189, .ifCond .eq 23, 3, 112, 0, 0, 0, []),
  (192, .aload_n 0, 1, 0, 0, 0, 0, []),
  (193, .invokevirtual 205, 3, 199, 1, 1, 0, []),
  (196, .ifCond .eq 16, 3, 112, 0, 0, 0, []),
  (199, .aload_n 0, 1, 0, 0, 0, 0, []),
  (200, .bipush 41, 2, 0, 0, 0, 41, []),
  (202, .invokevirtual 199, 3, 190, 2, 1, 0, []),
  (205, .ifCond .eq 7, 3, 112, 0, 0, 0, []),
  (208, .iconst 1, 1, 0, 0, 0, 1, []),
  (209, .goto 4, 3, 113, 0, 0, 0, []),
  (212, .iconst 0, 1, 0, 0, 0, 0, []),
  (213, .istore_n 2, 1, 0, 0, 0, 0, []),
  (214, .aload_n 0, 1, 0, 0, 0, 0, []),
  (215, .dup, 1, 0, 0, 0, 0, []),
  (216, .getfield 196, 3, 11, 22, 0, 0, []),
  (219, .iconst 1, 1, 0, 0, 0, 1, []),
  (220, .isub, 1, 0, 0, 0, 0, []),
  (221, .putfield 196, 3, 11, 22, 0, 0, []),
  (224, .iload_n 2, 1, 0, 0, 0, 0, []),
  (225, .ireturn, 1, 1, 0, 0, 0, [])]
/-- yX11_isP -/
def mt_195 : List am_row := [
  (0, .aload_n 0, 1, 0, 0, 0, 0, []),
  (1, .invokevirtual 202, 3, 194, 1, 1, 0, []),
  (4, .ifCond .ne 5, 3, 5, 0, 0, 0, []),
  (7, .iconst 0, 1, 0, 0, 0, 0, []),
  (8, .ireturn, 1, 1, 0, 0, 0, []),
  (9, .aload_n 0, 1, 0, 0, 0, 0, []),
  (10, .invokevirtual 178, 3, 189, 1, 1, 0, []),
  (13, .bipush 42, 2, 0, 0, 0, 42, []),
  (15, .if_icmp .ne 8, 3, 11, 0, 0, 0, []),
  (18, .bipush 13, 2, 0, 0, 0, 13, []),
  (20, .goto 32, 3, 24, 0, 0, 0, []),
  (23, .aload_n 0, 1, 0, 0, 0, 0, []),
  (24, .invokevirtual 178, 3, 189, 1, 1, 0, []),
  (27, .bipush 47, 2, 0, 0, 0, 47, []),
  (29, .if_icmp .ne 8, 3, 17, 0, 0, 0, []),
  (32, .bipush 14, 2, 0, 0, 0, 14, []),
  (34, .goto 18, 3, 24, 0, 0, 0, []),
  (37, .aload_n 0, 1, 0, 0, 0, 0, []),
  (38, .invokevirtual 178, 3, 189, 1, 1, 0, []),
  (41, .bipush 37, 2, 0, 0, 0, 37, []),
  (43, .if_icmp .ne 8, 3, 23, 0, 0, 0, []),
  (46, .bipush 15, 2, 0, 0, 0, 15, []),
  (48, .goto 4, 3, 24, 0, 0, 0, []),
  (51, .iconst (-1), 1, 0, 0, 0, -1, []),
  (52, .istore_n 1, 1, 0, 0, 0, 0, []),
  (53, .iload_n 1, 1, 0, 0, 0, 0, []),
  (54, .ifCond .ge 5, 3, 29, 0, 0, 0, []),
  (57, .iconst 1, 1, 0, 0, 0, 1, []),
  (58, .ireturn, 1, 1, 0, 0, 0, []),
  (59, .aload_n 0, 1, 0, 0, 0, 0, []),
  (60, .dup, 1, 0, 0, 0, 0, []),
  (61, .getfield 175, 3, 11, 21, 0, 0, []),
  (64, .iconst 1, 1, 0, 0, 0, 1, []),
  (65, .iadd, 1, 0, 0, 0, 0, []),
  (66, .putfield 175, 3, 11, 21, 0, 0, []),
  (69, .aload_n 0, 1, 0, 0, 0, 0, []),
  (70, .invokevirtual 202, 3, 194, 1, 1, 0, []),
  (73, .ifCond .ne 5, 3, 40, 0, 0, 0, []),
  (76, .iconst 0, 1, 0, 0, 0, 0, []),
  (77, .ireturn, 1, 1, 0, 0, 0, []),
  (78, .aload_n 0, 1, 0, 0, 0, 0, []),
  (79, .iload_n 1, 1, 0, 0, 0, 0, []),
  (80, .invokevirtual 189, 3, 191, 2, 1, 0, []),
  (83, .pop, 1, 0, 0, 0, 0, []),
  (84, .goto (-75), 3, 5, 0, 0, 0, [])]
/-- yX11_isS -/
def mt_196 : List am_row := [
  (0, .aload_n 0, 1, 0, 0, 0, 0, []),
  (1, .invokevirtual 208, 3, 195, 1, 1, 0, []),
  (4, .ifCond .ne 5, 3, 5, 0, 0, 0, []),
  (7, .iconst 0, 1, 0, 0, 0, 0, []),
  (8, .ireturn, 1, 1, 0, 0, 0, []),
  (9, .aload_n 0, 1, 0, 0, 0, 0, []),
  (10, .invokevirtual 178, 3, 189, 1, 1, 0, []),
  (13, .bipush 43, 2, 0, 0, 0, 43, []),
  (15, .if_icmp .ne 8, 3, 11, 0, 0, 0, []),
  (18, .bipush 11, 2, 0, 0, 0, 11, []),
  (20, .goto 18, 3, 18, 0, 0, 0, []),
  (23, .aload_n 0, 1, 0, 0, 0, 0, []),
  (24, .invokevirtual 178, 3, 189, 1, 1, 0, []),
  (27, .bipush 45, 2, 0, 0, 0, 45, []),
  (29, .if_icmp .ne 8, 3, 17, 0, 0, 0, []),
  (32, .bipush 12, 2, 0, 0, 0, 12, []),
  (34, .goto 4, 3, 18, 0, 0, 0, []),
  (37, .iconst (-1), 1, 0, 0, 0, -1, []),
  (38, .istore_n 1, 1, 0, 0, 0, 0, []),
  (39, .iload_n 1, 1, 0, 0, 0, 0, []),
  (40, .ifCond .ge 5, 3, 23, 0, 0, 0, []),
  (43, .iconst 1, 1, 0, 0, 0, 1, []),
  (44, .ireturn, 1, 1, 0, 0, 0, []),
  (45, .aload_n 0, 1, 0, 0, 0, 0, []),
  (46, .dup, 1, 0, 0, 0, 0, []),
  (47, .getfield 175, 3, 11, 21, 0, 0, []),
  (50, .iconst 1, 1, 0, 0, 0, 1, []),
  (51, .iadd, 1, 0, 0, 0, 0, []),
  (52, .putfield 175, 3, 11, 21, 0, 0, []),
  (55, .aload_n 0, 1, 0, 0, 0, 0, []),
  (56, .invokevirtual 208, 3, 195, 1, 1, 0, []),
  (59, .ifCond .ne 5, 3, 34, 0, 0, 0, []),
  (62, .iconst 0, 1, 0, 0, 0, 0, []),
  (63, .ireturn, 1, 1, 0, 0, 0, []),
  (64, .aload_n 0, 1, 0, 0, 0, 0, []),
  (65, .iload_n 1, 1, 0, 0, 0, 0, []),
  (66, .invokevirtual 189, 3, 191, 2, 1, 0, []),
  (69, .pop, 1, 0, 0, 0, 0, []),
  (70, .goto (-61), 3, 5, 0, 0, 0, [])]
/-- yX11_isB -/
def mt_197 : List am_row := [
  (0, .aload_n 0, 1, 0, 0, 0, 0, []),
  (1, .invokevirtual 211, 3, 196, 1, 1, 0, []),
  (4, .ifCond .ne 5, 3, 5, 0, 0, 0, []),
  (7, .iconst 0, 1, 0, 0, 0, 0, []),
  (8, .ireturn, 1, 1, 0, 0, 0, []),
  (9, .aload_n 0, 1, 0, 0, 0, 0, []),
  (10, .invokevirtual 178, 3, 189, 1, 1, 0, []),
  (13, .bipush 60, 2, 0, 0, 0, 60, []),
  (15, .if_icmp .ne 8, 3, 11, 0, 0, 0, []),
  (18, .bipush 8, 2, 0, 0, 0, 8, []),
  (20, .goto 32, 3, 24, 0, 0, 0, []),
  (23, .aload_n 0, 1, 0, 0, 0, 0, []),
  (24, .invokevirtual 178, 3, 189, 1, 1, 0, []),
  (27, .bipush 61, 2, 0, 0, 0, 61, []),
  (29, .if_icmp .ne 8, 3, 17, 0, 0, 0, []),
  (32, .bipush 9, 2, 0, 0, 0, 9, []),
  (34, .goto 18, 3, 24, 0, 0, 0, []),
  (37, .aload_n 0, 1, 0, 0, 0, 0, []),
  (38, .invokevirtual 178, 3, 189, 1, 1, 0, []),
  (41, .bipush 62, 2, 0, 0, 0, 62, []),
  (43, .if_icmp .ne 8, 3, 23, 0, 0, 0, []),
  (46, .bipush 10, 2, 0, 0, 0, 10, []),
  (48, .goto 4, 3, 24, 0, 0, 0, []),
  (51, .iconst (-1), 1, 0, 0, 0, -1, []),
  (52, .istore_n 1, 1, 0, 0, 0, 0, []),
  (53, .iload_n 1, 1, 0, 0, 0, 0, []),
  (54, .ifCond .ge 5, 3, 29, 0, 0, 0, []),
  (57, .iconst 1, 1, 0, 0, 0, 1, []),
  (58, .ireturn, 1, 1, 0, 0, 0, []),
  (59, .aload_n 0, 1, 0, 0, 0, 0, []),
  (60, .dup, 1, 0, 0, 0, 0, []),
  (61, .getfield 175, 3, 11, 21, 0, 0, []),
  (64, .iconst 1, 1, 0, 0, 0, 1, []),
  (65, .iadd, 1, 0, 0, 0, 0, []),
  (66, .putfield 175, 3, 11, 21, 0, 0, []),
  (69, .aload_n 0, 1, 0, 0, 0, 0, []),
  (70, .invokevirtual 211, 3, 196, 1, 1, 0, []),
  (73, .ifCond .eq 15, 3, 44, 0, 0, 0, []),
  (76, .aload_n 0, 1, 0, 0, 0, 0, []),
  (77, .iload_n 1, 1, 0, 0, 0, 0, []),
  (78, .invokevirtual 189, 3, 191, 2, 1, 0, []),
  (81, .ifCond .eq 7, 3, 44, 0, 0, 0, []),
  (84, .iconst 1, 1, 0, 0, 0, 1, []),
  (85, .goto 4, 3, 45, 0, 0, 0, []),
  (88, .iconst 0, 1, 0, 0, 0, 0, []),
  (89, .ireturn, 1, 1, 0, 0, 0, [])]
/-- yX11_isA -/
def mt_198 : List am_row := [
  (0, .aload_n 0, 1, 0, 0, 0, 0, []),
  (1, .invokevirtual 214, 3, 197, 1, 1, 0, []),
  (4, .ifCond .ne 5, 3, 5, 0, 0, 0, []),
  (7, .iconst 0, 1, 0, 0, 0, 0, []),
  (8, .ireturn, 1, 1, 0, 0, 0, []),
  (9, .aload_n 0, 1, 0, 0, 0, 0, []),
  (10, .bipush 38, 2, 0, 0, 0, 38, []),
  (12, .invokevirtual 199, 3, 190, 2, 1, 0, []),
  (15, .ifCond .eq 22, 3, 19, 0, 0, 0, []),
  (18, .aload_n 0, 1, 0, 0, 0, 0, []),
  (19, .invokevirtual 214, 3, 197, 1, 1, 0, []),
  (22, .ifCond .ne 5, 3, 14, 0, 0, 0, []),
  (25, .iconst 0, 1, 0, 0, 0, 0, []),
  (26, .ireturn, 1, 1, 0, 0, 0, []),
  (27, .aload_n 0, 1, 0, 0, 0, 0, []),
  (28, .bipush 7, 2, 0, 0, 0, 7, []),
  (30, .invokevirtual 189, 3, 191, 2, 1, 0, []),
  (33, .pop, 1, 0, 0, 0, 0, []),
  (34, .goto (-25), 3, 5, 0, 0, 0, []),
  (37, .iconst 1, 1, 0, 0, 0, 1, []),
  (38, .ireturn, 1, 1, 0, 0, 0, [])]
/-- yX11_isE -/
def mt_199 : List am_row := [
  (0, .aload_n 0, 1, 0, 0, 0, 0, []),
  (1, .invokevirtual 217, 3, 198, 1, 1, 0, []),
  (4, .ifCond .ne 5, 3, 5, 0, 0, 0, []),
  (7, .iconst 0, 1, 0, 0, 0, 0, []),
  (8, .ireturn, 1, 1, 0, 0, 0, []),
  (9, .aload_n 0, 1, 0, 0, 0, 0, []),
  (10, .bipush 124, 2, 0, 0, 0, 124, []),
  (12, .invokevirtual 199, 3, 190, 2, 1, 0, []),
  (15, .ifCond .eq 22, 3, 19, 0, 0, 0, []),
  (18, .aload_n 0, 1, 0, 0, 0, 0, []),
  (19, .invokevirtual 217, 3, 198, 1, 1, 0, []),
  (22, .ifCond .ne 5, 3, 14, 0, 0, 0, []),
  (25, .iconst 0, 1, 0, 0, 0, 0, []),
  (26, .ireturn, 1, 1, 0, 0, 0, []),
  (27, .aload_n 0, 1, 0, 0, 0, 0, []),
  (28, .bipush 6, 2, 0, 0, 0, 6, []),
  (30, .invokevirtual 189, 3, 191, 2, 1, 0, []),
  (33, .pop, 1, 0, 0, 0, 0, []),
  (34, .goto (-25), 3, 5, 0, 0, 0, []),
  (37, .iconst 1, 1, 0, 0, 0, 1, []),
  (38, .ireturn, 1, 1, 0, 0, 0, [])]
/-- yX11_isLine -/
def mt_200 : List am_row := [
  (0, .aload_n 0, 1, 0, 0, 0, 0, []),
  (1, .getfield 57, 3, 11, 25, 2, 0, []),
  (4, .aload_n 0, 1, 0, 0, 0, 0, []),
  (5, .getfield 220, 3, 11, 24, 0, 0, []),
  (8, .aload_n 0, 1, 0, 0, 0, 0, []),
  (9, .getfield 182, 3, 11, 23, 0, 0, []),
  (12, .iastore, 1, 0, 0, 0, 0, []),
  (13, .aload_n 0, 1, 0, 0, 0, 0, []),
  (14, .invokevirtual 205, 3, 199, 1, 1, 0, []),
  (17, .ifCond .ne 5, 3, 12, 0, 0, 0, []),
  (20, .iconst 0, 1, 0, 0, 0, 0, []),
  (21, .ireturn, 1, 1, 0, 0, 0, []),
  (22, .aload_n 0, 1, 0, 0, 0, 0, []),
  (23, .getfield 60, 3, 11, 26, 2, 0, []),
  (26, .aload_n 0, 1, 0, 0, 0, 0, []),
  (27, .getfield 220, 3, 11, 24, 0, 0, []),
  (30, .aload_n 0, 1, 0, 0, 0, 0, []),
  (31, .getfield 57, 3, 11, 25, 2, 0, []),
  (34, .aload_n 0, 1, 0, 0, 0, 0, []),
  (35, .getfield 220, 3, 11, 24, 0, 0, []),
  (38, .iaload, 1, 0, 0, 0, 0, []),
  (39, .iastore, 1, 0, 0, 0, 0, []),
  (40, .aload_n 0, 1, 0, 0, 0, 0, []),
  (41, .bipush 63, 2, 0, 0, 0, 63, []),
  (43, .invokevirtual 199, 3, 190, 2, 1, 0, []),
  (46, .ifCond .eq 25, 3, 38, 0, 0, 0, []),
  (49, .aload_n 0, 1, 0, 0, 0, 0, []),
  (50, .getfield 60, 3, 11, 26, 2, 0, []),
  (53, .aload_n 0, 1, 0, 0, 0, 0, []),
  (54, .getfield 220, 3, 11, 24, 0, 0, []),
  (57, .aload_n 0, 1, 0, 0, 0, 0, []),
  (58, .getfield 182, 3, 11, 23, 0, 0, []),
  (61, .iastore, 1, 0, 0, 0, 0, []),
  (62, .aload_n 0, 1, 0, 0, 0, 0, []),
  (63, .invokevirtual 205, 3, 199, 1, 1, 0, []),
  (66, .ifCond .ne 5, 3, 38, 0, 0, 0, []),
  (69, .iconst 0, 1, 0, 0, 0, 0, []),
  (70, .ireturn, 1, 1, 0, 0, 0, []),
  (71, .aload_n 0, 1, 0, 0, 0, 0, []),
  (72, .getfield 63, 3, 11, 27, 2, 0, []),
  (75, .aload_n 0, 1, 0, 0, 0, 0, []),
  (76, .dup, 1, 0, 0, 0, 0, []),
  (77, .getfield 220, 3, 11, 24, 0, 0, []),
  (80, .dup_x1, 1, 0, 0, 0, 0, []),
  (81, .iconst 1, 1, 0, 0, 0, 1, []),
  (82, .iadd, 1, 0, 0, 0, 0, []),
  (83, .putfield 220, 3, 11, 24, 0, 0, []),
  (86, .aload_n 0, 1, 0, 0, 0, 0, []),
  (87, .getfield 182, 3, 11, 23, 0, 0, []),
  (90, .iastore, 1, 0, 0, 0, 0, []),
  (91, .iconst 1, 1, 0, 0, 0, 1, []),
  (92, .ireturn, 1, 1, 0, 0, 0, [])]
/-- yX11_law -/
def mt_201 : List am_row := [
  (0, .aload_n 0, 1, 0, 0, 0, 0, []),
  (1, .iconst 0, 1, 0, 0, 0, 0, []),
  (2, .putfield 175, 3, 11, 21, 0, 0, []),
  (5, .aload_n 0, 1, 0, 0, 0, 0, []),
  (6, .iconst 0, 1, 0, 0, 0, 0, []),
  (7, .putfield 196, 3, 11, 22, 0, 0, []),
  (10, .aload_n 0, 1, 0, 0, 0, 0, []),
  (11, .iconst 0, 1, 0, 0, 0, 0, []),
  (12, .putfield 182, 3, 11, 23, 0, 0, []),
  (15, .aload_n 0, 1, 0, 0, 0, 0, []),
  (16, .iconst 0, 1, 0, 0, 0, 0, []),
  (17, .putfield 220, 3, 11, 24, 0, 0, []),
  (20, .aload_n 0, 1, 0, 0, 0, 0, []),
  (21, .invokevirtual 223, 3, 200, 1, 1, 0, []),
  (24, .istore_n 1, 1, 0, 0, 0, 0, []),
  (25, .iload_n 1, 1, 0, 0, 0, 0, []),
  (26, .ifCond .eq 20, 3, 25, 0, 0, 0, []),
  (29, .aload_n 0, 1, 0, 0, 0, 0, []),
  (30, .bipush 59, 2, 0, 0, 0, 59, []),
  (32, .invokevirtual 199, 3, 190, 2, 1, 0, []),
  (35, .ifCond .eq 11, 3, 25, 0, 0, 0, []),
  (38, .aload_n 0, 1, 0, 0, 0, 0, []),
  (39, .invokevirtual 223, 3, 200, 1, 1, 0, []),
  (42, .istore_n 1, 1, 0, 0, 0, 0, []),
  (43, .goto (-18), 3, 15, 0, 0, 0, []),
  (46, .iload_n 1, 1, 0, 0, 0, 0, []),
  (47, .ifCond .eq 18, 3, 34, 0, 0, 0, []),
  (50, .aload_n 0, 1, 0, 0, 0, 0, []),
  (51, .getfield 175, 3, 11, 21, 0, 0, []),
  (54, .aload_n 0, 1, 0, 0, 0, 0, []),
  (55, .getfield 172, 3, 11, 13, 0, 0, []),
  (58, .if_icmp .ne 7, 3, 34, 0, 0, 0, []),
  (61, .iconst 1, 1, 0, 0, 0, 1, []),
  (62, .goto 4, 3, 35, 0, 0, 0, []),
  (65, .iconst 0, 1, 0, 0, 0, 0, []),
  (66, .istore_n 2, 1, 0, 0, 0, 0, []),
  (67, .aload_n 0, 1, 0, 0, 0, 0, []),
  (68, .iconst 0, 1, 0, 0, 0, 0, []),
  (69, .putfield 172, 3, 11, 13, 0, 0, []),
  (72, .iload_n 2, 1, 0, 0, 0, 0, []),
  (73, .ifCond .ne 11, 3, 46, 0, 0, 0, []),
  (76, .bipush (-100), 2, 0, 0, 0, -100, []),
  (78, .aload_n 0, 1, 0, 0, 0, 0, []),
  (79, .getfield 175, 3, 11, 21, 0, 0, []),
  (82, .isub, 1, 0, 0, 0, 0, []),
  (83, .ireturn, 1, 0, 0, 0, 0, []),
  (84, .aload_n 0, 1, 0, 0, 0, 0, []),
  (85, .iconst 1, 1, 0, 0, 0, 1, []),
  (86, .putfield 226, 3, 11, 15, 1, 0, []),
  (89, .aload_n 0, 1, 0, 0, 0, 0, []),
  (90, .aload_n 0, 1, 0, 0, 0, 0, []),
  (91, .getfield 220, 3, 11, 24, 0, 0, []),
  (94, .putfield 230, 3, 11, 16, 0, 0, []),
  (97, .iconst 0, 1, 0, 0, 0, 0, []),
  (98, .istore_n 3, 1, 0, 0, 0, 0, []),
  (99, .iload_n 3, 1, 0, 0, 0, 0, []),
  (100, .aload_n 0, 1, 0, 0, 0, 0, []),
  (101, .getfield 230, 3, 11, 16, 0, 0, []),
  (104, .if_icmp .ge 45, 3, 85, 0, 0, 0, []),
  (107, .aload_n 0, 1, 0, 0, 0, 0, []),
  (108, .getfield 45, 3, 11, 17, 2, 0, []),
  (111, .iload_n 3, 1, 0, 0, 0, 0, []),
  (112, .aload_n 0, 1, 0, 0, 0, 0, []),
  (113, .getfield 57, 3, 11, 25, 2, 0, []),
  (116, .iload_n 3, 1, 0, 0, 0, 0, []),
  (117, .iaload, 1, 0, 0, 0, 0, []),
  (118, .iastore, 1, 0, 0, 0, 0, []),
  (119, .aload_n 0, 1, 0, 0, 0, 0, []),
  (120, .getfield 48, 3, 11, 18, 2, 0, []),
  (123, .iload_n 3, 1, 0, 0, 0, 0, []),
  (124, .aload_n 0, 1, 0, 0, 0, 0, []),
  (125, .getfield 60, 3, 11, 26, 2, 0, []),
  (128, .iload_n 3, 1, 0, 0, 0, 0, []),
  (129, .iaload, 1, 0, 0, 0, 0, []),
  (130, .iastore, 1, 0, 0, 0, 0, []),
  (131, .aload_n 0, 1, 0, 0, 0, 0, []),
  (132, .getfield 51, 3, 11, 19, 2, 0, []),
  (135, .iload_n 3, 1, 0, 0, 0, 0, []),
  (136, .aload_n 0, 1, 0, 0, 0, 0, []),
  (137, .getfield 63, 3, 11, 27, 2, 0, []),
  (140, .iload_n 3, 1, 0, 0, 0, 0, []),
  (141, .iaload, 1, 0, 0, 0, 0, []),
  (142, .iastore, 1, 0, 0, 0, 0, []),
  (143, .iinc 3 1, 3, 0, 0, 0, 1, []),
  (146, .goto (-47), 3, 55, 0, 0, 0, []),
  (149, .iconst 0, 1, 0, 0, 0, 0, []),
  (150, .istore_n 3, 1, 0, 0, 0, 0, []),
  (151, .iload_n 3, 1, 0, 0, 0, 0, []),
  (152, .aload_n 0, 1, 0, 0, 0, 0, []),
  (153, .getfield 182, 3, 11, 23, 0, 0, []),
  (156, .if_icmp .ge 21, 3, 101, 0, 0, 0, []),
  (159, .aload_n 0, 1, 0, 0, 0, 0, []),
  (160, .getfield 54, 3, 11, 20, 2, 0, []),
  (163, .iload_n 3, 1, 0, 0, 0, 0, []),
  (164, .aload_n 0, 1, 0, 0, 0, 0, []),
  (165, .getfield 66, 3, 11, 28, 2, 0, []),
  (168, .iload_n 3, 1, 0, 0, 0, 0, []),
  (169, .iaload, 1, 0, 0, 0, 0, []),
  (170, .iastore, 1, 0, 0, 0, 0, []),
  (171, .iinc 3 1, 3, 0, 0, 0, 1, []),
  (174, .goto (-23), 3, 87, 0, 0, 0, []),
  (177, .iconst 1, 1, 0, 0, 0, 1, []),
  (178, .ireturn, 1, 0, 0, 0, 0, [])]
/-- yX11_both -/
def mt_202 : List am_row := [
  (0, .iload_n 0, 1, 0, 0, 0, 0, []),
  (1, .tableswitch 136 6 14 #[51, 65, 79, 90, 101, 112, 116, 120, 124], 51, 59, 0, 0, 0, [(6, 2), (7, 10), (8, 18), (9, 25), (10, 32), (11, 39), (12, 43), (13, 47), (14, 51)]),
  (52, .iload_n 1, 1, 0, 0, 0, 0, []),
  (53, .ifCond .ne 7, 3, 6, 0, 0, 0, []),
  (56, .iload_n 2, 1, 0, 0, 0, 0, []),
  (57, .ifCond .eq 7, 3, 8, 0, 0, 0, []),
  (60, .iconst 1, 1, 0, 0, 0, 1, []),
  (61, .goto 4, 3, 9, 0, 0, 0, []),
  (64, .iconst 0, 1, 0, 0, 0, 0, []),
  (65, .ireturn, 1, 0, 0, 0, 0, []),
  (66, .iload_n 1, 1, 0, 0, 0, 0, []),
  (67, .ifCond .eq 11, 3, 16, 0, 0, 0, []),
  (70, .iload_n 2, 1, 0, 0, 0, 0, []),
  (71, .ifCond .eq 7, 3, 16, 0, 0, 0, []),
  (74, .iconst 1, 1, 0, 0, 0, 1, []),
  (75, .goto 4, 3, 17, 0, 0, 0, []),
  (78, .iconst 0, 1, 0, 0, 0, 0, []),
  (79, .ireturn, 1, 0, 0, 0, 0, []),
  (80, .iload_n 1, 1, 0, 0, 0, 0, []),
  (81, .iload_n 2, 1, 0, 0, 0, 0, []),
  (82, .if_icmp .ge 7, 3, 23, 0, 0, 0, []),
  (85, .iconst 1, 1, 0, 0, 0, 1, []),
  (86, .goto 4, 3, 24, 0, 0, 0, []),
  (89, .iconst 0, 1, 0, 0, 0, 0, []),
  (90, .ireturn, 1, 0, 0, 0, 0, []),
  (91, .iload_n 1, 1, 0, 0, 0, 0, []),
  (92, .iload_n 2, 1, 0, 0, 0, 0, []),
  (93, .if_icmp .ne 7, 3, 30, 0, 0, 0, []),
  (96, .iconst 1, 1, 0, 0, 0, 1, []),
  (97, .goto 4, 3, 31, 0, 0, 0, []),
  (100, .iconst 0, 1, 0, 0, 0, 0, []),
  (101, .ireturn, 1, 0, 0, 0, 0, []),
  (102, .iload_n 1, 1, 0, 0, 0, 0, []),
  (103, .iload_n 2, 1, 0, 0, 0, 0, []),
  (104, .if_icmp .le 7, 3, 37, 0, 0, 0, []),
  (107, .iconst 1, 1, 0, 0, 0, 1, []),
  (108, .goto 4, 3, 38, 0, 0, 0, []),
  (111, .iconst 0, 1, 0, 0, 0, 0, []),
  (112, .ireturn, 1, 0, 0, 0, 0, []),
  (113, .iload_n 1, 1, 0, 0, 0, 0, []),
  (114, .iload_n 2, 1, 0, 0, 0, 0, []),
  (115, .iadd, 1, 0, 0, 0, 0, []),
  (116, .ireturn, 1, 0, 0, 0, 0, []),
  (117, .iload_n 1, 1, 0, 0, 0, 0, []),
  (118, .iload_n 2, 1, 0, 0, 0, 0, []),
  (119, .isub, 1, 0, 0, 0, 0, []),
  (120, .ireturn, 1, 0, 0, 0, 0, []),
  (121, .iload_n 1, 1, 0, 0, 0, 0, []),
  (122, .iload_n 2, 1, 0, 0, 0, 0, []),
  (123, .imul, 1, 0, 0, 0, 0, []),
  (124, .ireturn, 1, 0, 0, 0, 0, []),
  (125, .iload_n 2, 1, 0, 0, 0, 0, []),
  (126, .ifCond .ne 7, 3, 55, 0, 0, 0, []),
  (129, .iconst 0, 1, 0, 0, 0, 0, []),
  (130, .goto 6, 3, 58, 0, 0, 0, []),
  (133, .iload_n 1, 1, 0, 0, 0, 0, []),
  (134, .iload_n 2, 1, 0, 0, 0, 0, []),
  (135, .idiv, 1, 0, 0, 0, 0, []),
  (136, .ireturn, 1, 0, 0, 0, 0, []),
  (137, .iload_n 2, 1, 0, 0, 0, 0, []),
  (138, .ifCond .ne 7, 3, 63, 0, 0, 0, []),
  (141, .iconst 0, 1, 0, 0, 0, 0, []),
  (142, .goto 6, 3, 66, 0, 0, 0, []),
  (145, .iload_n 1, 1, 0, 0, 0, 0, []),
  (146, .iload_n 2, 1, 0, 0, 0, 0, []),
  (147, .irem, 1, 0, 0, 0, 0, []),
  (148, .ireturn, 1, 0, 0, 0, 0, [])]
/-- yX11_worked -/
def mt_203 : List am_row := [
  (0, .iconst 0, 1, 0, 0, 0, 0, []),
  (1, .istore_n 3, 1, 0, 0, 0, 0, []),
  (2, .iload_n 1, 1, 0, 0, 0, 0, []),
  (3, .istore 4, 2, 0, 0, 0, 0, []),
  (5, .iload 4, 2, 0, 0, 0, 0, []),
  (7, .iload_n 2, 1, 0, 0, 0, 0, []),
  (8, .if_icmp .ge 155, 3, 90, 0, 0, 0, []),
  (11, .aload_n 0, 1, 0, 0, 0, 0, []),
  (12, .getfield 54, 3, 11, 20, 2, 0, []),
  (15, .iload 4, 2, 0, 0, 0, 0, []),
  (17, .iaload, 1, 0, 0, 0, 0, []),
  (18, .istore 5, 2, 0, 0, 0, 0, []),
  (20, .iload 5, 2, 0, 0, 0, 0, []),
  (22, .bipush 18, 2, 0, 0, 0, 18, []),
  (24, .if_icmp .ge 9, 3, 18, 0, 0, 0, []),
  (27, .iload 5, 2, 0, 0, 0, 0, []),
  (29, .iconst 5, 1, 0, 0, 0, 5, []),
  (30, .if_icmp .gt 37, 3, 35, 0, 0, 0, []),
  (33, .aload_n 0, 1, 0, 0, 0, 0, []),
  (34, .getfield 69, 3, 11, 29, 2, 0, []),
  (37, .iload_n 3, 1, 0, 0, 0, 0, []),
  (38, .iinc 3 1, 3, 0, 0, 0, 1, []),
  (41, .iload 5, 2, 0, 0, 0, 0, []),
  (43, .bipush 18, 2, 0, 0, 0, 18, []),
  (45, .if_icmp .lt 11, 3, 29, 0, 0, 0, []),
  (48, .iload 5, 2, 0, 0, 0, 0, []),
  (50, .bipush 18, 2, 0, 0, 0, 18, []),
  (52, .isub, 1, 0, 0, 0, 0, []),
  (53, .goto 10, 3, 33, 0, 0, 0, []),
  (56, .aload_n 0, 1, 0, 0, 0, 0, []),
  (57, .getfield 72, 3, 11, 30, 2, 0, []),
  (60, .iload 5, 2, 0, 0, 0, 0, []),
  (62, .iaload, 1, 0, 0, 0, 0, []),
  (63, .iastore, 1, 0, 0, 0, 0, []),
  (64, .goto 93, 3, 88, 0, 0, 0, []),
  (67, .iload 5, 2, 0, 0, 0, 0, []),
  (69, .bipush 16, 2, 0, 0, 0, 16, []),
  (71, .if_icmp .eq 10, 3, 41, 0, 0, 0, []),
  (74, .iload 5, 2, 0, 0, 0, 0, []),
  (76, .bipush 17, 2, 0, 0, 0, 17, []),
  (78, .if_icmp .ne 49, 3, 69, 0, 0, 0, []),
  (81, .aload_n 0, 1, 0, 0, 0, 0, []),
  (82, .getfield 69, 3, 11, 29, 2, 0, []),
  (85, .iload_n 3, 1, 0, 0, 0, 0, []),
  (86, .iconst 1, 1, 0, 0, 0, 1, []),
  (87, .isub, 1, 0, 0, 0, 0, []),
  (88, .iload 5, 2, 0, 0, 0, 0, []),
  (90, .bipush 17, 2, 0, 0, 0, 17, []),
  (92, .if_icmp .ne 15, 3, 57, 0, 0, 0, []),
  (95, .aload_n 0, 1, 0, 0, 0, 0, []),
  (96, .getfield 69, 3, 11, 29, 2, 0, []),
  (99, .iload_n 3, 1, 0, 0, 0, 0, []),
  (100, .iconst 1, 1, 0, 0, 0, 1, []),
  (101, .isub, 1, 0, 0, 0, 0, []),
  (102, .iaload, 1, 0, 0, 0, 0, []),
  (103, .ineg, 1, 0, 0, 0, 0, []),
  (104, .goto 19, 3, 67, 0, 0, 0, []),
  (107, .aload_n 0, 1, 0, 0, 0, 0, []),
  (108, .getfield 69, 3, 11, 29, 2, 0, []),
  (111, .iload_n 3, 1, 0, 0, 0, 0, []),
  (112, .iconst 1, 1, 0, 0, 0, 1, []),
  (113, .isub, 1, 0, 0, 0, 0, []),
  (114, .iaload, 1, 0, 0, 0, 0, []),
  (115, .ifCond .ne 7, 3, 66, 0, 0, 0, []),
  (118, .iconst 1, 1, 0, 0, 0, 1, []),
  (119, .goto 4, 3, 67, 0, 0, 0, []),
  (122, .iconst 0, 1, 0, 0, 0, 0, []),
  (123, .iastore, 1, 0, 0, 0, 0, []),
  (124, .goto 33, 3, 88, 0, 0, 0, []),
  (127, .iinc 3 (-1), 3, 0, 0, 0, -1, []),
  (130, .aload_n 0, 1, 0, 0, 0, 0, []),
  (131, .getfield 69, 3, 11, 29, 2, 0, []),
  (134, .iload_n 3, 1, 0, 0, 0, 0, []),
  (135, .iconst 1, 1, 0, 0, 0, 1, []),
  (136, .isub, 1, 0, 0, 0, 0, []),
  (137, .iload 5, 2, 0, 0, 0, 0, []),
  (139, .aload_n 0, 1, 0, 0, 0, 0, []),
  (140, .getfield 69, 3, 11, 29, 2, 0, []),
  (143, .iload_n 3, 1, 0, 0, 0, 0, []),
  (144, .iconst 1, 1, 0, 0, 0, 1, []),
  (145, .isub, 1, 0, 0, 0, 0, []),
  (146, .iaload, 1, 0, 0, 0, 0, []),
  (147, .aload_n 0, 1, 0, 0, 0, 0, []),
  (148, .getfield 69, 3, 11, 29, 2, 0, []),
  (151, .iload_n 3, 1, 0, 0, 0, 0, []),
  (152, .iaload, 1, 0, 0, 0, 0, []),
  (153, .invokestatic 233, 3, 202, 3, 1, 0, []),
  (156, .iastore, 1, 0, 0, 0, 0, []),
  (157, .iinc 4 1, 3, 0, 0, 0, 1, []),
  (160, .goto (-155), 3, 4, 0, 0, 0, []),
  (163, .aload_n 0, 1, 0, 0, 0, 0, []),
  (164, .getfield 69, 3, 11, 29, 2, 0, []),
  (167, .iconst 0, 1, 0, 0, 0, 0, []),
  (168, .iaload, 1, 0, 0, 0, 0, []),
  (169, .ireturn, 1, 0, 0, 0, 0, [])]
/-- yX11_worthOf -/
def mt_204 : List am_row := [
  (0, .aload_n 0, 1, 0, 0, 0, 0, []),
  (1, .getfield 72, 3, 11, 30, 2, 0, []),
  (4, .iconst 0, 1, 0, 0, 0, 0, []),
  (5, .aload_n 0, 1, 0, 0, 0, 0, []),
  (6, .getfield 18, 3, 11, 3, 2, 0, []),
  (9, .iload_n 2, 1, 0, 0, 0, 0, []),
  (10, .iaload, 1, 0, 0, 0, 0, []),
  (11, .iastore, 1, 0, 0, 0, 0, []),
  (12, .aload_n 0, 1, 0, 0, 0, 0, []),
  (13, .getfield 72, 3, 11, 30, 2, 0, []),
  (16, .iconst 1, 1, 0, 0, 0, 1, []),
  (17, .aload_n 0, 1, 0, 0, 0, 0, []),
  (18, .getfield 15, 3, 11, 2, 2, 0, []),
  (21, .iload_n 2, 1, 0, 0, 0, 0, []),
  (22, .iaload, 1, 0, 0, 0, 0, []),
  (23, .aload_n 0, 1, 0, 0, 0, 0, []),
  (24, .getfield 27, 3, 11, 7, 2, 0, []),
  (27, .iload_n 1, 1, 0, 0, 0, 0, []),
  (28, .iaload, 1, 0, 0, 0, 0, []),
  (29, .if_icmp .ne 7, 3, 22, 0, 0, 0, []),
  (32, .iconst 1, 1, 0, 0, 0, 1, []),
  (33, .goto 4, 3, 23, 0, 0, 0, []),
  (36, .iconst 0, 1, 0, 0, 0, 0, []),
  (37, .iastore, 1, 0, 0, 0, 0, []),
  (38, .aload_n 0, 1, 0, 0, 0, 0, []),
  (39, .getfield 72, 3, 11, 30, 2, 0, []),
  (42, .iconst 2, 1, 0, 0, 0, 2, []),
  (43, .aload_n 0, 1, 0, 0, 0, 0, []),
  (44, .getfield 9, 3, 11, 1, 2, 0, []),
  (47, .iload_n 2, 1, 0, 0, 0, 0, []),
  (48, .iaload, 1, 0, 0, 0, 0, []),
  (49, .iastore, 1, 0, 0, 0, 0, []),
  (50, .aload_n 0, 1, 0, 0, 0, 0, []),
  (51, .getfield 72, 3, 11, 30, 2, 0, []),
  (54, .iconst 3, 1, 0, 0, 0, 3, []),
  (55, .aload_n 0, 1, 0, 0, 0, 0, []),
  (56, .getfield 24, 3, 11, 6, 2, 0, []),
  (59, .iload_n 1, 1, 0, 0, 0, 0, []),
  (60, .iaload, 1, 0, 0, 0, 0, []),
  (61, .iastore, 1, 0, 0, 0, 0, []),
  (62, .aload_n 0, 1, 0, 0, 0, 0, []),
  (63, .getfield 72, 3, 11, 30, 2, 0, []),
  (66, .iconst 4, 1, 0, 0, 0, 4, []),
  (67, .iload_n 3, 1, 0, 0, 0, 0, []),
  (68, .iastore, 1, 0, 0, 0, 0, []),
  (69, .aload_n 0, 1, 0, 0, 0, 0, []),
  (70, .getfield 72, 3, 11, 30, 2, 0, []),
  (73, .iconst 5, 1, 0, 0, 0, 5, []),
  (74, .aload_n 0, 1, 0, 0, 0, 0, []),
  (75, .getfield 39, 3, 11, 11, 2, 0, []),
  (78, .iconst 0, 1, 0, 0, 0, 0, []),
  (79, .iaload, 1, 0, 0, 0, 0, []),
  (80, .iastore, 1, 0, 0, 0, 0, []),
  (81, .aload_n 0, 1, 0, 0, 0, 0, []),
  (82, .getfield 226, 3, 11, 15, 1, 0, []),
  (85, .ifCond .ne 34, 3, 79, 0, 0, 0, []),
  (88, .iconst 0, 1, 0, 0, 0, 0, []),
  (89, .iconst 3, 1, 0, 0, 0, 3, []),
  (90, .aload_n 0, 1, 0, 0, 0, 0, []),
  (91, .getfield 18, 3, 11, 3, 2, 0, []),
  (94, .iload_n 2, 1, 0, 0, 0, 0, []),
  (95, .iaload, 1, 0, 0, 0, 0, []),
  (96, .imul, 1, 0, 0, 0, 0, []),
  (97, .iconst 4, 1, 0, 0, 0, 4, []),
  (98, .aload_n 0, 1, 0, 0, 0, 0, []),
  (99, .getfield 72, 3, 11, 30, 2, 0, []),
  (102, .iconst 1, 1, 0, 0, 0, 1, []),
  (103, .iaload, 1, 0, 0, 0, 0, []),
  (104, .imul, 1, 0, 0, 0, 0, []),
  (105, .iadd, 1, 0, 0, 0, 0, []),
  (106, .aload_n 0, 1, 0, 0, 0, 0, []),
  (107, .getfield 39, 3, 11, 11, 2, 0, []),
  (110, .iconst 1, 1, 0, 0, 0, 1, []),
  (111, .iaload, 1, 0, 0, 0, 0, []),
  (112, .iload_n 3, 1, 0, 0, 0, 0, []),
  (113, .imul, 1, 0, 0, 0, 0, []),
  (114, .isub, 1, 0, 0, 0, 0, []),
  (115, .invokestatic 236, 3, 1000, 2, 1, 0, []),
  (118, .ireturn, 1, 0, 0, 0, 0, []),
  (119, .iconst 0, 1, 0, 0, 0, 0, []),
  (120, .istore 4, 2, 0, 0, 0, 0, []),
  (122, .iload 4, 2, 0, 0, 0, 0, []),
  (124, .aload_n 0, 1, 0, 0, 0, 0, []),
  (125, .getfield 230, 3, 11, 16, 0, 0, []),
  (128, .if_icmp .ge 78, 3, 123, 0, 0, 0, []),
  (131, .aload_n 0, 1, 0, 0, 0, 0, []),
  (132, .getfield 48, 3, 11, 18, 2, 0, []),
  (135, .iload 4, 2, 0, 0, 0, 0, []),
  (137, .iaload, 1, 0, 0, 0, 0, []),
  (138, .aload_n 0, 1, 0, 0, 0, 0, []),
  (139, .getfield 45, 3, 11, 17, 2, 0, []),
  (142, .iload 4, 2, 0, 0, 0, 0, []),
  (144, .iaload, 1, 0, 0, 0, 0, []),
  (145, .if_icmp .le 27, 3, 106, 0, 0, 0, []),
  (148, .aload_n 0, 1, 0, 0, 0, 0, []),
  (149, .aload_n 0, 1, 0, 0, 0, 0, []),
  (150, .getfield 45, 3, 11, 17, 2, 0, []),
  (153, .iload 4, 2, 0, 0, 0, 0, []),
  (155, .iaload, 1, 0, 0, 0, 0, []),
  (156, .aload_n 0, 1, 0, 0, 0, 0, []),
  (157, .getfield 48, 3, 11, 18, 2, 0, []),
  (160, .iload 4, 2, 0, 0, 0, 0, []),
  (162, .iaload, 1, 0, 0, 0, 0, []),
  (163, .invokevirtual 241, 3, 203, 3, 1, 0, []),
  (166, .ifCond .ne 6, 3, 106, 0, 0, 0, []),
  (169, .goto 31, 3, 121, 0, 0, 0, []),
  (172, .iconst 0, 1, 0, 0, 0, 0, []),
  (173, .bipush 99, 2, 0, 0, 0, 99, []),
  (175, .aload_n 0, 1, 0, 0, 0, 0, []),
  (176, .aload_n 0, 1, 0, 0, 0, 0, []),
  (177, .getfield 48, 3, 11, 18, 2, 0, []),
  (180, .iload 4, 2, 0, 0, 0, 0, []),
  (182, .iaload, 1, 0, 0, 0, 0, []),
  (183, .aload_n 0, 1, 0, 0, 0, 0, []),
  (184, .getfield 51, 3, 11, 19, 2, 0, []),
  (187, .iload 4, 2, 0, 0, 0, 0, []),
  (189, .iaload, 1, 0, 0, 0, 0, []),
  (190, .invokevirtual 241, 3, 203, 3, 1, 0, []),
  (193, .invokestatic 244, 3, 1001, 2, 1, 0, []),
  (196, .invokestatic 236, 3, 1000, 2, 1, 0, []),
  (199, .ireturn, 1, 0, 0, 0, 0, []),
  (200, .iinc 4 1, 3, 0, 0, 0, 1, []),
  (203, .goto (-81), 3, 81, 0, 0, 0, []),
  (206, .iconst 0, 1, 0, 0, 0, 0, []),
  (207, .ireturn, 1, 0, 0, 0, 0, [])]
/-- yX11_worth -/
def mt_205 : List am_row := [
  (0, .aload_n 0, 1, 0, 0, 0, 0, []),
  (1, .iload_n 1, 1, 0, 0, 0, 0, []),
  (2, .invokevirtual 133, 3, 170, 2, 1, 0, []),
  (5, .ifCond .eq 27, 3, 17, 0, 0, 0, []),
  (8, .iload_n 2, 1, 0, 0, 0, 0, []),
  (9, .ifCond .lt 23, 3, 17, 0, 0, 0, []),
  (12, .aload_n 0, 1, 0, 0, 0, 0, []),
  (13, .iload_n 2, 1, 0, 0, 0, 0, []),
  (14, .bipush 100, 2, 0, 0, 0, 100, []),
  (16, .idiv, 1, 0, 0, 0, 0, []),
  (17, .invokevirtual 148, 3, 169, 2, 1, 0, []),
  (20, .ifCond .eq 12, 3, 17, 0, 0, 0, []),
  (23, .iload_n 2, 1, 0, 0, 0, 0, []),
  (24, .bipush 100, 2, 0, 0, 0, 100, []),
  (26, .irem, 1, 0, 0, 0, 0, []),
  (27, .bipush 24, 2, 0, 0, 0, 24, []),
  (29, .if_icmp .le 5, 3, 19, 0, 0, 0, []),
  (32, .iconst (-1), 1, 0, 0, 0, -1, []),
  (33, .ireturn, 1, 0, 0, 0, 0, []),
  (34, .aload_n 0, 1, 0, 0, 0, 0, []),
  (35, .iload_n 1, 1, 0, 0, 0, 0, []),
  (36, .iload_n 2, 1, 0, 0, 0, 0, []),
  (37, .bipush 100, 2, 0, 0, 0, 100, []),
  (39, .idiv, 1, 0, 0, 0, 0, []),
  (40, .iload_n 2, 1, 0, 0, 0, 0, []),
  (41, .bipush 100, 2, 0, 0, 0, 100, []),
  (43, .irem, 1, 0, 0, 0, 0, []),
  (44, .invokevirtual 247, 3, 204, 4, 1, 0, []),
  (47, .ireturn, 1, 0, 0, 0, 0, [])]
/-- yX11_isAway -/
def mt_206 : List am_row := [
  (0, .aload_n 0, 1, 0, 0, 0, 0, []),
  (1, .getfield 33, 3, 11, 9, 2, 0, []),
  (4, .iload_n 1, 1, 0, 0, 0, 0, []),
  (5, .iaload, 1, 0, 0, 0, 0, []),
  (6, .ifCond .le 26, 3, 18, 0, 0, 0, []),
  (9, .iload_n 2, 1, 0, 0, 0, 0, []),
  (10, .aload_n 0, 1, 0, 0, 0, 0, []),
  (11, .getfield 33, 3, 11, 9, 2, 0, []),
  (14, .iload_n 1, 1, 0, 0, 0, 0, []),
  (15, .iaload, 1, 0, 0, 0, 0, []),
  (16, .aload_n 0, 1, 0, 0, 0, 0, []),
  (17, .getfield 36, 3, 11, 10, 2, 0, []),
  (20, .iload_n 1, 1, 0, 0, 0, 0, []),
  (21, .iaload, 1, 0, 0, 0, 0, []),
  (22, .invokestatic 122, 3, 168, 3, 1, 0, []),
  (25, .ifCond .eq 7, 3, 18, 0, 0, 0, []),
  (28, .iconst 1, 1, 0, 0, 0, 1, []),
  (29, .goto 4, 3, 19, 0, 0, 0, []),
  (32, .iconst 0, 1, 0, 0, 0, 0, []),
  (33, .ireturn, 1, 1, 0, 0, 0, [])]
/-- yX11_late -/
def mt_207 : List am_row := [
  (0, .aload_n 0, 1, 0, 0, 0, 0, []),
  (1, .iload_n 1, 1, 0, 0, 0, 0, []),
  (2, .aload_n 0, 1, 0, 0, 0, 0, []),
  (3, .getfield 9, 3, 11, 1, 2, 0, []),
  (6, .iload_n 2, 1, 0, 0, 0, 0, []),
  (7, .iaload, 1, 0, 0, 0, 0, []),
  (8, .invokevirtual 250, 3, 206, 3, 1, 0, []),
  (11, .ifCond .ne 5, 3, 10, 0, 0, 0, []),
  (14, .iconst 0, 1, 0, 0, 0, 0, []),
  (15, .ireturn, 1, 0, 0, 0, 0, []),
  (16, .aload_n 0, 1, 0, 0, 0, 0, []),
  (17, .getfield 36, 3, 11, 10, 2, 0, []),
  (20, .iload_n 1, 1, 0, 0, 0, 0, []),
  (21, .iaload, 1, 0, 0, 0, 0, []),
  (22, .bipush 24, 2, 0, 0, 0, 24, []),
  (24, .if_icmp .ne 8, 3, 18, 0, 0, 0, []),
  (27, .bipush (-2), 2, 0, 0, 0, -2, []),
  (29, .goto 18, 3, 29, 0, 0, 0, []),
  (32, .aload_n 0, 1, 0, 0, 0, 0, []),
  (33, .getfield 36, 3, 11, 10, 2, 0, []),
  (36, .iload_n 1, 1, 0, 0, 0, 0, []),
  (37, .iaload, 1, 0, 0, 0, 0, []),
  (38, .iconst 1, 1, 0, 0, 0, 1, []),
  (39, .iadd, 1, 0, 0, 0, 0, []),
  (40, .aload_n 0, 1, 0, 0, 0, 0, []),
  (41, .getfield 9, 3, 11, 1, 2, 0, []),
  (44, .iload_n 2, 1, 0, 0, 0, 0, []),
  (45, .iaload, 1, 0, 0, 0, 0, []),
  (46, .isub, 1, 0, 0, 0, 0, []),
  (47, .ireturn, 1, 0, 0, 0, 0, [])]
/-- yX11_eaten -/
def mt_208 : List am_row := [
  (0, .aload_n 0, 1, 0, 0, 0, 0, []),
  (1, .iload_n 1, 1, 0, 0, 0, 0, []),
  (2, .iload_n 2, 1, 0, 0, 0, 0, []),
  (3, .invokevirtual 253, 3, 207, 3, 1, 0, []),
  (6, .istore_n 3, 1, 0, 0, 0, 0, []),
  (7, .iload_n 3, 1, 0, 0, 0, 0, []),
  (8, .bipush (-2), 2, 0, 0, 0, -2, []),
  (10, .if_icmp .ne 7, 3, 10, 0, 0, 0, []),
  (13, .iconst 0, 1, 0, 0, 0, 0, []),
  (14, .goto 10, 3, 15, 0, 0, 0, []),
  (17, .aload_n 0, 1, 0, 0, 0, 0, []),
  (18, .iload_n 1, 1, 0, 0, 0, 0, []),
  (19, .iload_n 2, 1, 0, 0, 0, 0, []),
  (20, .iload_n 3, 1, 0, 0, 0, 0, []),
  (21, .invokevirtual 247, 3, 204, 4, 1, 0, []),
  (24, .ireturn, 1, 0, 0, 0, 0, [])]
/-- yX11_orders -/
def mt_209 : List am_row := [
  (0, .iload_n 1, 1, 0, 0, 0, 0, []),
  (1, .istore_n 3, 1, 0, 0, 0, 0, []),
  (2, .iload_n 3, 1, 0, 0, 0, 0, []),
  (3, .iload_n 2, 1, 0, 0, 0, 0, []),
  (4, .if_icmp .ge 71, 3, 43, 0, 0, 0, []),
  (7, .iload_n 3, 1, 0, 0, 0, 0, []),
  (8, .istore 4, 2, 0, 0, 0, 0, []),
  (10, .iload 4, 2, 0, 0, 0, 0, []),
  (12, .iload_n 1, 1, 0, 0, 0, 0, []),
  (13, .if_icmp .le 48, 3, 36, 0, 0, 0, []),
  (16, .aload_n 0, 1, 0, 0, 0, 0, []),
  (17, .getfield 9, 3, 11, 1, 2, 0, []),
  (20, .aload_n 0, 1, 0, 0, 0, 0, []),
  (21, .getfield 103, 3, 11, 47, 2, 0, []),
  (24, .iload 4, 2, 0, 0, 0, 0, []),
  (26, .iconst 1, 1, 0, 0, 0, 1, []),
  (27, .isub, 1, 0, 0, 0, 0, []),
  (28, .iaload, 1, 0, 0, 0, 0, []),
  (29, .iaload, 1, 0, 0, 0, 0, []),
  (30, .aload_n 0, 1, 0, 0, 0, 0, []),
  (31, .getfield 9, 3, 11, 1, 2, 0, []),
  (34, .iload_n 3, 1, 0, 0, 0, 0, []),
  (35, .iaload, 1, 0, 0, 0, 0, []),
  (36, .if_icmp .le 25, 3, 36, 0, 0, 0, []),
  (39, .aload_n 0, 1, 0, 0, 0, 0, []),
  (40, .getfield 103, 3, 11, 47, 2, 0, []),
  (43, .iload 4, 2, 0, 0, 0, 0, []),
  (45, .aload_n 0, 1, 0, 0, 0, 0, []),
  (46, .getfield 103, 3, 11, 47, 2, 0, []),
  (49, .iload 4, 2, 0, 0, 0, 0, []),
  (51, .iconst 1, 1, 0, 0, 0, 1, []),
  (52, .isub, 1, 0, 0, 0, 0, []),
  (53, .iaload, 1, 0, 0, 0, 0, []),
  (54, .iastore, 1, 0, 0, 0, 0, []),
  (55, .iinc 4 (-1), 3, 0, 0, 0, -1, []),
  (58, .goto (-48), 3, 7, 0, 0, 0, []),
  (61, .aload_n 0, 1, 0, 0, 0, 0, []),
  (62, .getfield 103, 3, 11, 47, 2, 0, []),
  (65, .iload 4, 2, 0, 0, 0, 0, []),
  (67, .iload_n 3, 1, 0, 0, 0, 0, []),
  (68, .iastore, 1, 0, 0, 0, 0, []),
  (69, .iinc 3 1, 3, 0, 0, 0, 1, []),
  (72, .goto (-70), 3, 2, 0, 0, 0, []),
  (75, .return_, 1, 0, 0, 0, 0, [])]
/-- yX11_ages -/
def mt_210 : List am_row := [
  (0, .iconst 0, 1, 0, 0, 0, 0, []),
  (1, .istore_n 1, 1, 0, 0, 0, 0, []),
  (2, .iload_n 1, 1, 0, 0, 0, 0, []),
  (3, .aload_n 0, 1, 0, 0, 0, 0, []),
  (4, .getfield 126, 3, 11, 5, 0, 0, []),
  (7, .if_icmp .ge 64, 3, 43, 0, 0, 0, []),
  (10, .iload_n 1, 1, 0, 0, 0, 0, []),
  (11, .istore_n 2, 1, 0, 0, 0, 0, []),
  (12, .iload_n 2, 1, 0, 0, 0, 0, []),
  (13, .ifCond .le 45, 3, 36, 0, 0, 0, []),
  (16, .aload_n 0, 1, 0, 0, 0, 0, []),
  (17, .getfield 24, 3, 11, 6, 2, 0, []),
  (20, .aload_n 0, 1, 0, 0, 0, 0, []),
  (21, .getfield 112, 3, 11, 50, 2, 0, []),
  (24, .iload_n 2, 1, 0, 0, 0, 0, []),
  (25, .iconst 1, 1, 0, 0, 0, 1, []),
  (26, .isub, 1, 0, 0, 0, 0, []),
  (27, .iaload, 1, 0, 0, 0, 0, []),
  (28, .iaload, 1, 0, 0, 0, 0, []),
  (29, .aload_n 0, 1, 0, 0, 0, 0, []),
  (30, .getfield 24, 3, 11, 6, 2, 0, []),
  (33, .iload_n 1, 1, 0, 0, 0, 0, []),
  (34, .iaload, 1, 0, 0, 0, 0, []),
  (35, .if_icmp .ge 23, 3, 36, 0, 0, 0, []),
  (38, .aload_n 0, 1, 0, 0, 0, 0, []),
  (39, .getfield 112, 3, 11, 50, 2, 0, []),
  (42, .iload_n 2, 1, 0, 0, 0, 0, []),
  (43, .aload_n 0, 1, 0, 0, 0, 0, []),
  (44, .getfield 112, 3, 11, 50, 2, 0, []),
  (47, .iload_n 2, 1, 0, 0, 0, 0, []),
  (48, .iconst 1, 1, 0, 0, 0, 1, []),
  (49, .isub, 1, 0, 0, 0, 0, []),
  (50, .iaload, 1, 0, 0, 0, 0, []),
  (51, .iastore, 1, 0, 0, 0, 0, []),
  (52, .iinc 2 (-1), 3, 0, 0, 0, -1, []),
  (55, .goto (-43), 3, 8, 0, 0, 0, []),
  (58, .aload_n 0, 1, 0, 0, 0, 0, []),
  (59, .getfield 112, 3, 11, 50, 2, 0, []),
  (62, .iload_n 2, 1, 0, 0, 0, 0, []),
  (63, .iload_n 1, 1, 0, 0, 0, 0, []),
  (64, .iastore, 1, 0, 0, 0, 0, []),
  (65, .iinc 1 1, 3, 0, 0, 0, 1, []),
  (68, .goto (-66), 3, 2, 0, 0, 0, []),
  (71, .return_, 1, 0, 0, 0, 0, [])]
/-- yX11_goesTo -/
def mt_211 : List am_row := [
  (0, .iload_n 2, 1, 0, 0, 0, 0, []),
  (1, .iconst 2, 1, 0, 0, 0, 2, []),
  (2, .aload_n 0, 1, 0, 0, 0, 0, []),
  (3, .getfield 126, 3, 11, 5, 0, 0, []),
  (6, .imul, 1, 0, 0, 0, 0, []),
  (7, .irem, 1, 0, 0, 0, 0, []),
  (8, .istore_n 3, 1, 0, 0, 0, 0, []),
  (9, .iload_n 1, 1, 0, 0, 0, 0, []),
  (10, .ifCond .ne 10, 3, 14, 0, 0, 0, []),
  (13, .iload_n 2, 1, 0, 0, 0, 0, []),
  (14, .aload_n 0, 1, 0, 0, 0, 0, []),
  (15, .getfield 126, 3, 11, 5, 0, 0, []),
  (18, .irem, 1, 0, 0, 0, 0, []),
  (19, .ireturn, 1, 0, 0, 0, 0, []),
  (20, .iload_n 1, 1, 0, 0, 0, 0, []),
  (21, .iconst 1, 1, 0, 0, 0, 1, []),
  (22, .if_icmp .ne 15, 3, 25, 0, 0, 0, []),
  (25, .aload_n 0, 1, 0, 0, 0, 0, []),
  (26, .getfield 112, 3, 11, 50, 2, 0, []),
  (29, .iload_n 2, 1, 0, 0, 0, 0, []),
  (30, .aload_n 0, 1, 0, 0, 0, 0, []),
  (31, .getfield 126, 3, 11, 5, 0, 0, []),
  (34, .irem, 1, 0, 0, 0, 0, []),
  (35, .iaload, 1, 0, 0, 0, 0, []),
  (36, .ireturn, 1, 0, 0, 0, 0, []),
  (37, .iload_n 1, 1, 0, 0, 0, 0, []),
  (38, .iconst 2, 1, 0, 0, 0, 2, []),
  (39, .if_icmp .ne 26, 3, 43, 0, 0, 0, []),
  (42, .iload_n 3, 1, 0, 0, 0, 0, []),
  (43, .aload_n 0, 1, 0, 0, 0, 0, []),
  (44, .getfield 126, 3, 11, 5, 0, 0, []),
  (47, .if_icmp .ge 7, 3, 34, 0, 0, 0, []),
  (50, .iload_n 3, 1, 0, 0, 0, 0, []),
  (51, .goto 13, 3, 42, 0, 0, 0, []),
  (54, .iconst 2, 1, 0, 0, 0, 2, []),
  (55, .aload_n 0, 1, 0, 0, 0, 0, []),
  (56, .getfield 126, 3, 11, 5, 0, 0, []),
  (59, .imul, 1, 0, 0, 0, 0, []),
  (60, .iconst 1, 1, 0, 0, 0, 1, []),
  (61, .isub, 1, 0, 0, 0, 0, []),
  (62, .iload_n 3, 1, 0, 0, 0, 0, []),
  (63, .isub, 1, 0, 0, 0, 0, []),
  (64, .ireturn, 1, 0, 0, 0, 0, []),
  (65, .iconst 0, 1, 0, 0, 0, 0, []),
  (66, .istore 4, 2, 0, 0, 0, 0, []),
  (68, .iconst 1, 1, 0, 0, 0, 1, []),
  (69, .istore 5, 2, 0, 0, 0, 0, []),
  (71, .iload 5, 2, 0, 0, 0, 0, []),
  (73, .aload_n 0, 1, 0, 0, 0, 0, []),
  (74, .getfield 126, 3, 11, 5, 0, 0, []),
  (77, .if_icmp .ge 92, 3, 100, 0, 0, 0, []),
  (80, .iload_n 1, 1, 0, 0, 0, 0, []),
  (81, .iconst 3, 1, 0, 0, 0, 3, []),
  (82, .if_icmp .ne 26, 3, 67, 0, 0, 0, []),
  (85, .aload_n 0, 1, 0, 0, 0, 0, []),
  (86, .iload 5, 2, 0, 0, 0, 0, []),
  (88, .aload_n 0, 1, 0, 0, 0, 0, []),
  (89, .getfield 103, 3, 11, 47, 2, 0, []),
  (92, .iload_n 2, 1, 0, 0, 0, 0, []),
  (93, .iaload, 1, 0, 0, 0, 0, []),
  (94, .invokevirtual 256, 3, 208, 3, 1, 0, []),
  (97, .aload_n 0, 1, 0, 0, 0, 0, []),
  (98, .getfield 109, 3, 11, 49, 2, 0, []),
  (101, .iload 5, 2, 0, 0, 0, 0, []),
  (103, .iaload, 1, 0, 0, 0, 0, []),
  (104, .isub, 1, 0, 0, 0, 0, []),
  (105, .goto 11, 3, 72, 0, 0, 0, []),
  (108, .aload_n 0, 1, 0, 0, 0, 0, []),
  (109, .getfield 109, 3, 11, 49, 2, 0, []),
  (112, .iload 5, 2, 0, 0, 0, 0, []),
  (114, .iaload, 1, 0, 0, 0, 0, []),
  (115, .ineg, 1, 0, 0, 0, 0, []),
  (116, .istore 6, 2, 0, 0, 0, 0, []),
  (118, .iload 6, 2, 0, 0, 0, 0, []),
  (120, .iload_n 1, 1, 0, 0, 0, 0, []),
  (121, .iconst 3, 1, 0, 0, 0, 3, []),
  (122, .if_icmp .ne 26, 3, 90, 0, 0, 0, []),
  (125, .aload_n 0, 1, 0, 0, 0, 0, []),
  (126, .iload 4, 2, 0, 0, 0, 0, []),
  (128, .aload_n 0, 1, 0, 0, 0, 0, []),
  (129, .getfield 103, 3, 11, 47, 2, 0, []),
  (132, .iload_n 2, 1, 0, 0, 0, 0, []),
  (133, .iaload, 1, 0, 0, 0, 0, []),
  (134, .invokevirtual 256, 3, 208, 3, 1, 0, []),
  (137, .aload_n 0, 1, 0, 0, 0, 0, []),
  (138, .getfield 109, 3, 11, 49, 2, 0, []),
  (141, .iload 4, 2, 0, 0, 0, 0, []),
  (143, .iaload, 1, 0, 0, 0, 0, []),
  (144, .isub, 1, 0, 0, 0, 0, []),
  (145, .goto 11, 3, 95, 0, 0, 0, []),
  (148, .aload_n 0, 1, 0, 0, 0, 0, []),
  (149, .getfield 109, 3, 11, 49, 2, 0, []),
  (152, .iload 4, 2, 0, 0, 0, 0, []),
  (154, .iaload, 1, 0, 0, 0, 0, []),
  (155, .ineg, 1, 0, 0, 0, 0, []),
  (156, .if_icmp .le 7, 3, 98, 0, 0, 0, []),
  (159, .iload 5, 2, 0, 0, 0, 0, []),
  (161, .istore 4, 2, 0, 0, 0, 0, []),
  (163, .iinc 5 1, 3, 0, 0, 0, 1, []),
  (166, .goto (-95), 3, 47, 0, 0, 0, []),
  (169, .iload 4, 2, 0, 0, 0, 0, []),
  (171, .ireturn, 1, 0, 0, 0, 0, [])]
/-- yX11_goes -/
def mt_212 : List am_row := [
  (0, .aload_n 0, 1, 0, 0, 0, 0, []),
  (1, .iload_n 2, 1, 0, 0, 0, 0, []),
  (2, .iload_n 3, 1, 0, 0, 0, 0, []),
  (3, .invokevirtual 259, 3, 209, 3, 0, 0, []),
  (6, .iload_n 2, 1, 0, 0, 0, 0, []),
  (7, .istore 4, 2, 0, 0, 0, 0, []),
  (9, .iload 4, 2, 0, 0, 0, 0, []),
  (11, .iload_n 3, 1, 0, 0, 0, 0, []),
  (12, .if_icmp .ge 79, 3, 50, 0, 0, 0, []),
  (15, .aload_n 0, 1, 0, 0, 0, 0, []),
  (16, .getfield 106, 3, 11, 48, 2, 0, []),
  (19, .aload_n 0, 1, 0, 0, 0, 0, []),
  (20, .getfield 103, 3, 11, 47, 2, 0, []),
  (23, .iload 4, 2, 0, 0, 0, 0, []),
  (25, .iaload, 1, 0, 0, 0, 0, []),
  (26, .bipush (-2), 2, 0, 0, 0, -2, []),
  (28, .iastore, 1, 0, 0, 0, 0, []),
  (29, .aload_n 0, 1, 0, 0, 0, 0, []),
  (30, .getfield 126, 3, 11, 5, 0, 0, []),
  (33, .ifCond .ne 6, 3, 21, 0, 0, 0, []),
  (36, .goto 49, 3, 48, 0, 0, 0, []),
  (39, .aload_n 0, 1, 0, 0, 0, 0, []),
  (40, .iload_n 1, 1, 0, 0, 0, 0, []),
  (41, .iload 4, 2, 0, 0, 0, 0, []),
  (43, .invokevirtual 263, 3, 211, 3, 1, 0, []),
  (46, .istore 5, 2, 0, 0, 0, 0, []),
  (48, .aload_n 0, 1, 0, 0, 0, 0, []),
  (49, .getfield 106, 3, 11, 48, 2, 0, []),
  (52, .aload_n 0, 1, 0, 0, 0, 0, []),
  (53, .getfield 103, 3, 11, 47, 2, 0, []),
  (56, .iload 4, 2, 0, 0, 0, 0, []),
  (58, .iaload, 1, 0, 0, 0, 0, []),
  (59, .iload 5, 2, 0, 0, 0, 0, []),
  (61, .iastore, 1, 0, 0, 0, 0, []),
  (62, .aload_n 0, 1, 0, 0, 0, 0, []),
  (63, .getfield 109, 3, 11, 49, 2, 0, []),
  (66, .iload 5, 2, 0, 0, 0, 0, []),
  (68, .dup2, 1, 0, 0, 0, 0, []),
  (69, .iaload, 1, 0, 0, 0, 0, []),
  (70, .aload_n 0, 1, 0, 0, 0, 0, []),
  (71, .iload 5, 2, 0, 0, 0, 0, []),
  (73, .aload_n 0, 1, 0, 0, 0, 0, []),
  (74, .getfield 103, 3, 11, 47, 2, 0, []),
  (77, .iload 4, 2, 0, 0, 0, 0, []),
  (79, .iaload, 1, 0, 0, 0, 0, []),
  (80, .invokevirtual 256, 3, 208, 3, 1, 0, []),
  (83, .iadd, 1, 0, 0, 0, 0, []),
  (84, .iastore, 1, 0, 0, 0, 0, []),
  (85, .iinc 4 1, 3, 0, 0, 0, 1, []),
  (88, .goto (-79), 3, 6, 0, 0, 0, []),
  (91, .return_, 1, 0, 0, 0, 0, [])]
/-- yX11_gives -/
def mt_213 : List am_row := [
  (0, .aload_n 0, 1, 0, 0, 0, 0, []),
  (1, .invokevirtual 266, 3, 210, 1, 0, 0, []),
  (4, .iconst 0, 1, 0, 0, 0, 0, []),
  (5, .istore_n 2, 1, 0, 0, 0, 0, []),
  (6, .iload_n 2, 1, 0, 0, 0, 0, []),
  (7, .iconst 5, 1, 0, 0, 0, 5, []),
  (8, .if_icmp .ge 16, 3, 14, 0, 0, 0, []),
  (11, .aload_n 0, 1, 0, 0, 0, 0, []),
  (12, .getfield 109, 3, 11, 49, 2, 0, []),
  (15, .iload_n 2, 1, 0, 0, 0, 0, []),
  (16, .iconst 0, 1, 0, 0, 0, 0, []),
  (17, .iastore, 1, 0, 0, 0, 0, []),
  (18, .iinc 2 1, 3, 0, 0, 0, 1, []),
  (21, .goto (-15), 3, 4, 0, 0, 0, []),
  (24, .aload_n 0, 1, 0, 0, 0, 0, []),
  (25, .iload_n 1, 1, 0, 0, 0, 0, []),
  (26, .iconst 0, 1, 0, 0, 0, 0, []),
  (27, .aload_n 0, 1, 0, 0, 0, 0, []),
  (28, .getfield 118, 3, 11, 0, 0, 0, []),
  (31, .invokevirtual 269, 3, 212, 4, 0, 0, []),
  (34, .return_, 1, 0, 0, 0, 0, [])]
/-- yX11_sums -/
def mt_214 : List am_row := [
  (0, .iconst 0, 1, 0, 0, 0, 0, []),
  (1, .istore_n 1, 1, 0, 0, 0, 0, []),
  (2, .iload_n 1, 1, 0, 0, 0, 0, []),
  (3, .iconst 5, 1, 0, 0, 0, 5, []),
  (4, .if_icmp .ge 16, 3, 12, 0, 0, 0, []),
  (7, .aload_n 0, 1, 0, 0, 0, 0, []),
  (8, .getfield 109, 3, 11, 49, 2, 0, []),
  (11, .iload_n 1, 1, 0, 0, 0, 0, []),
  (12, .iconst 0, 1, 0, 0, 0, 0, []),
  (13, .iastore, 1, 0, 0, 0, 0, []),
  (14, .iinc 1 1, 3, 0, 0, 0, 1, []),
  (17, .goto (-15), 3, 2, 0, 0, 0, []),
  (20, .iconst 0, 1, 0, 0, 0, 0, []),
  (21, .istore_n 1, 1, 0, 0, 0, 0, []),
  (22, .iload_n 1, 1, 0, 0, 0, 0, []),
  (23, .aload_n 0, 1, 0, 0, 0, 0, []),
  (24, .getfield 118, 3, 11, 0, 0, 0, []),
  (27, .if_icmp .ge 45, 3, 43, 0, 0, 0, []),
  (30, .aload_n 0, 1, 0, 0, 0, 0, []),
  (31, .getfield 106, 3, 11, 48, 2, 0, []),
  (34, .iload_n 1, 1, 0, 0, 0, 0, []),
  (35, .iaload, 1, 0, 0, 0, 0, []),
  (36, .bipush (-2), 2, 0, 0, 0, -2, []),
  (38, .if_icmp .eq 28, 3, 41, 0, 0, 0, []),
  (41, .aload_n 0, 1, 0, 0, 0, 0, []),
  (42, .getfield 109, 3, 11, 49, 2, 0, []),
  (45, .aload_n 0, 1, 0, 0, 0, 0, []),
  (46, .getfield 106, 3, 11, 48, 2, 0, []),
  (49, .iload_n 1, 1, 0, 0, 0, 0, []),
  (50, .iaload, 1, 0, 0, 0, 0, []),
  (51, .dup2, 1, 0, 0, 0, 0, []),
  (52, .iaload, 1, 0, 0, 0, 0, []),
  (53, .aload_n 0, 1, 0, 0, 0, 0, []),
  (54, .aload_n 0, 1, 0, 0, 0, 0, []),
  (55, .getfield 106, 3, 11, 48, 2, 0, []),
  (58, .iload_n 1, 1, 0, 0, 0, 0, []),
  (59, .iaload, 1, 0, 0, 0, 0, []),
  (60, .iload_n 1, 1, 0, 0, 0, 0, []),
  (61, .invokevirtual 256, 3, 208, 3, 1, 0, []),
  (64, .iadd, 1, 0, 0, 0, 0, []),
  (65, .iastore, 1, 0, 0, 0, 0, []),
  (66, .iinc 1 1, 3, 0, 0, 0, 1, []),
  (69, .goto (-47), 3, 14, 0, 0, 0, []),
  (72, .return_, 1, 0, 0, 0, 0, [])]
/-- yX11_unfair -/
def mt_215 : List am_row := [
  (0, .aload_n 0, 1, 0, 0, 0, 0, []),
  (1, .getfield 126, 3, 11, 5, 0, 0, []),
  (4, .ifCond .ne 5, 3, 5, 0, 0, 0, []),
  (7, .iconst 0, 1, 0, 0, 0, 0, []),
  (8, .ireturn, 1, 0, 0, 0, 0, []),
  (9, .aload_n 0, 1, 0, 0, 0, 0, []),
  (10, .getfield 109, 3, 11, 49, 2, 0, []),
  (13, .iconst 0, 1, 0, 0, 0, 0, []),
  (14, .iaload, 1, 0, 0, 0, 0, []),
  (15, .istore_n 1, 1, 0, 0, 0, 0, []),
  (16, .aload_n 0, 1, 0, 0, 0, 0, []),
  (17, .getfield 109, 3, 11, 49, 2, 0, []),
  (20, .iconst 0, 1, 0, 0, 0, 0, []),
  (21, .iaload, 1, 0, 0, 0, 0, []),
  (22, .istore_n 2, 1, 0, 0, 0, 0, []),
  (23, .iconst 1, 1, 0, 0, 0, 1, []),
  (24, .istore_n 3, 1, 0, 0, 0, 0, []),
  (25, .iload_n 3, 1, 0, 0, 0, 0, []),
  (26, .aload_n 0, 1, 0, 0, 0, 0, []),
  (27, .getfield 126, 3, 11, 5, 0, 0, []),
  (30, .if_icmp .ge 31, 3, 37, 0, 0, 0, []),
  (33, .iload_n 1, 1, 0, 0, 0, 0, []),
  (34, .aload_n 0, 1, 0, 0, 0, 0, []),
  (35, .getfield 109, 3, 11, 49, 2, 0, []),
  (38, .iload_n 3, 1, 0, 0, 0, 0, []),
  (39, .iaload, 1, 0, 0, 0, 0, []),
  (40, .invokestatic 236, 3, 1000, 2, 1, 0, []),
  (43, .istore_n 1, 1, 0, 0, 0, 0, []),
  (44, .iload_n 2, 1, 0, 0, 0, 0, []),
  (45, .aload_n 0, 1, 0, 0, 0, 0, []),
  (46, .getfield 109, 3, 11, 49, 2, 0, []),
  (49, .iload_n 3, 1, 0, 0, 0, 0, []),
  (50, .iaload, 1, 0, 0, 0, 0, []),
  (51, .invokestatic 244, 3, 1001, 2, 1, 0, []),
  (54, .istore_n 2, 1, 0, 0, 0, 0, []),
  (55, .iinc 3 1, 3, 0, 0, 0, 1, []),
  (58, .goto (-33), 3, 17, 0, 0, 0, []),
  (61, .iload_n 1, 1, 0, 0, 0, 0, []),
  (62, .iload_n 2, 1, 0, 0, 0, 0, []),
  (63, .isub, 1, 0, 0, 0, 0, []),
  (64, .ireturn, 1, 0, 0, 0, 0, [])]
/-- yX11_together -/
def mt_216 : List am_row := [
  (0, .iconst 0, 1, 0, 0, 0, 0, []),
  (1, .istore_n 1, 1, 0, 0, 0, 0, []),
  (2, .iconst 0, 1, 0, 0, 0, 0, []),
  (3, .istore_n 2, 1, 0, 0, 0, 0, []),
  (4, .iload_n 2, 1, 0, 0, 0, 0, []),
  (5, .aload_n 0, 1, 0, 0, 0, 0, []),
  (6, .getfield 126, 3, 11, 5, 0, 0, []),
  (9, .if_icmp .ge 18, 3, 17, 0, 0, 0, []),
  (12, .iload_n 1, 1, 0, 0, 0, 0, []),
  (13, .aload_n 0, 1, 0, 0, 0, 0, []),
  (14, .getfield 109, 3, 11, 49, 2, 0, []),
  (17, .iload_n 2, 1, 0, 0, 0, 0, []),
  (18, .iaload, 1, 0, 0, 0, 0, []),
  (19, .iadd, 1, 0, 0, 0, 0, []),
  (20, .istore_n 1, 1, 0, 0, 0, 0, []),
  (21, .iinc 2 1, 3, 0, 0, 0, 1, []),
  (24, .goto (-20), 3, 4, 0, 0, 0, []),
  (27, .iload_n 1, 1, 0, 0, 0, 0, []),
  (28, .ireturn, 1, 0, 0, 0, 0, [])]
/-- yX11_worthTo -/
def mt_217 : List am_row := [
  (0, .iconst 0, 1, 0, 0, 0, 0, []),
  (1, .istore_n 3, 1, 0, 0, 0, 0, []),
  (2, .iconst 0, 1, 0, 0, 0, 0, []),
  (3, .istore 4, 2, 0, 0, 0, 0, []),
  (5, .iload 4, 2, 0, 0, 0, 0, []),
  (7, .aload_n 0, 1, 0, 0, 0, 0, []),
  (8, .getfield 118, 3, 11, 0, 0, 0, []),
  (11, .if_icmp .ge 30, 3, 23, 0, 0, 0, []),
  (14, .aload_n 0, 1, 0, 0, 0, 0, []),
  (15, .getfield 106, 3, 11, 48, 2, 0, []),
  (18, .iload 4, 2, 0, 0, 0, 0, []),
  (20, .iaload, 1, 0, 0, 0, 0, []),
  (21, .iload_n 2, 1, 0, 0, 0, 0, []),
  (22, .if_icmp .ne 13, 3, 21, 0, 0, 0, []),
  (25, .iload_n 3, 1, 0, 0, 0, 0, []),
  (26, .aload_n 0, 1, 0, 0, 0, 0, []),
  (27, .iload_n 1, 1, 0, 0, 0, 0, []),
  (28, .iload 4, 2, 0, 0, 0, 0, []),
  (30, .invokevirtual 256, 3, 208, 3, 1, 0, []),
  (33, .iadd, 1, 0, 0, 0, 0, []),
  (34, .istore_n 3, 1, 0, 0, 0, 0, []),
  (35, .iinc 4 1, 3, 0, 0, 0, 1, []),
  (38, .goto (-33), 3, 4, 0, 0, 0, []),
  (41, .iload_n 3, 1, 0, 0, 0, 0, []),
  (42, .ireturn, 1, 0, 0, 0, 0, [])]
/-- yX11_envy -/
def mt_218 : List am_row := [
  (0, .iconst 0, 1, 0, 0, 0, 0, []),
  (1, .istore_n 1, 1, 0, 0, 0, 0, []),
  (2, .iconst 0, 1, 0, 0, 0, 0, []),
  (3, .istore_n 2, 1, 0, 0, 0, 0, []),
  (4, .iload_n 2, 1, 0, 0, 0, 0, []),
  (5, .aload_n 0, 1, 0, 0, 0, 0, []),
  (6, .getfield 126, 3, 11, 5, 0, 0, []),
  (9, .if_icmp .ge 51, 3, 36, 0, 0, 0, []),
  (12, .iconst 0, 1, 0, 0, 0, 0, []),
  (13, .istore_n 3, 1, 0, 0, 0, 0, []),
  (14, .iload_n 3, 1, 0, 0, 0, 0, []),
  (15, .aload_n 0, 1, 0, 0, 0, 0, []),
  (16, .getfield 126, 3, 11, 5, 0, 0, []),
  (19, .if_icmp .ge 35, 3, 34, 0, 0, 0, []),
  (22, .iload_n 3, 1, 0, 0, 0, 0, []),
  (23, .iload_n 2, 1, 0, 0, 0, 0, []),
  (24, .if_icmp .eq 24, 3, 32, 0, 0, 0, []),
  (27, .aload_n 0, 1, 0, 0, 0, 0, []),
  (28, .iload_n 2, 1, 0, 0, 0, 0, []),
  (29, .iload_n 3, 1, 0, 0, 0, 0, []),
  (30, .invokevirtual 272, 3, 217, 3, 1, 0, []),
  (33, .aload_n 0, 1, 0, 0, 0, 0, []),
  (34, .iload_n 2, 1, 0, 0, 0, 0, []),
  (35, .iload_n 2, 1, 0, 0, 0, 0, []),
  (36, .invokevirtual 272, 3, 217, 3, 1, 0, []),
  (39, .if_icmp .le 9, 3, 32, 0, 0, 0, []),
  (42, .iload_n 1, 1, 0, 0, 0, 0, []),
  (43, .iconst 1, 1, 0, 0, 0, 1, []),
  (44, .iload_n 2, 1, 0, 0, 0, 0, []),
  (45, .ishl, 1, 0, 0, 0, 0, []),
  (46, .ior, 1, 0, 0, 0, 0, []),
  (47, .istore_n 1, 1, 0, 0, 0, 0, []),
  (48, .iinc 3 1, 3, 0, 0, 0, 1, []),
  (51, .goto (-37), 3, 10, 0, 0, 0, []),
  (54, .iinc 2 1, 3, 0, 0, 0, 1, []),
  (57, .goto (-53), 3, 4, 0, 0, 0, []),
  (60, .iload_n 1, 1, 0, 0, 0, 0, []),
  (61, .ireturn, 1, 0, 0, 0, 0, [])]
/-- yX11_whose -/
def mt_219 : List am_row := [
  (0, .iload_n 1, 1, 0, 0, 0, 0, []),
  (1, .ifCond .lt 24, 3, 13, 0, 0, 0, []),
  (4, .iload_n 1, 1, 0, 0, 0, 0, []),
  (5, .bipush 100, 2, 0, 0, 0, 100, []),
  (7, .idiv, 1, 0, 0, 0, 0, []),
  (8, .invokestatic 129, 3, 171, 1, 1, 0, []),
  (11, .ifCond .eq 14, 3, 13, 0, 0, 0, []),
  (14, .aload_n 0, 1, 0, 0, 0, 0, []),
  (15, .iload_n 1, 1, 0, 0, 0, 0, []),
  (16, .bipush 100, 2, 0, 0, 0, 100, []),
  (18, .irem, 1, 0, 0, 0, 0, []),
  (19, .invokevirtual 148, 3, 169, 2, 1, 0, []),
  (22, .ifCond .ne 5, 3, 15, 0, 0, 0, []),
  (25, .iconst (-1), 1, 0, 0, 0, -1, []),
  (26, .ireturn, 1, 0, 0, 0, 0, []),
  (27, .aload_n 0, 1, 0, 0, 0, 0, []),
  (28, .iload_n 1, 1, 0, 0, 0, 0, []),
  (29, .bipush 100, 2, 0, 0, 0, 100, []),
  (31, .idiv, 1, 0, 0, 0, 0, []),
  (32, .invokevirtual 275, 3, 213, 2, 0, 0, []),
  (35, .aload_n 0, 1, 0, 0, 0, 0, []),
  (36, .getfield 106, 3, 11, 48, 2, 0, []),
  (39, .iload_n 1, 1, 0, 0, 0, 0, []),
  (40, .bipush 100, 2, 0, 0, 0, 100, []),
  (42, .irem, 1, 0, 0, 0, 0, []),
  (43, .iaload, 1, 0, 0, 0, 0, []),
  (44, .ireturn, 1, 0, 0, 0, 0, [])]
/-- yX11_all -/
def mt_220 : List am_row := [
  (0, .aload_n 0, 1, 0, 0, 0, 0, []),
  (1, .iload_n 1, 1, 0, 0, 0, 0, []),
  (2, .invokevirtual 279, 3, 172, 2, 1, 0, []),
  (5, .ifCond .ne 5, 3, 6, 0, 0, 0, []),
  (8, .iconst (-1), 1, 0, 0, 0, -1, []),
  (9, .ireturn, 1, 0, 0, 0, 0, []),
  (10, .aload_n 0, 1, 0, 0, 0, 0, []),
  (11, .iload_n 1, 1, 0, 0, 0, 0, []),
  (12, .bipush 10, 2, 0, 0, 0, 10, []),
  (14, .idiv, 1, 0, 0, 0, 0, []),
  (15, .invokevirtual 275, 3, 213, 2, 0, 0, []),
  (18, .aload_n 0, 1, 0, 0, 0, 0, []),
  (19, .getfield 109, 3, 11, 49, 2, 0, []),
  (22, .iload_n 1, 1, 0, 0, 0, 0, []),
  (23, .bipush 10, 2, 0, 0, 0, 10, []),
  (25, .irem, 1, 0, 0, 0, 0, []),
  (26, .iaload, 1, 0, 0, 0, 0, []),
  (27, .ireturn, 1, 0, 0, 0, 0, [])]
/-- yX11_giving -/
def mt_221 : List am_row := [
  (0, .iload_n 1, 1, 0, 0, 0, 0, []),
  (1, .invokestatic 129, 3, 171, 1, 1, 0, []),
  (4, .ifCond .eq 12, 3, 8, 0, 0, 0, []),
  (7, .iload_n 2, 1, 0, 0, 0, 0, []),
  (8, .iconst 0, 1, 0, 0, 0, 0, []),
  (9, .iconst 2, 1, 0, 0, 0, 2, []),
  (10, .invokestatic 122, 3, 168, 3, 1, 0, []),
  (13, .ifCond .ne 5, 3, 10, 0, 0, 0, []),
  (16, .iconst (-1), 1, 0, 0, 0, -1, []),
  (17, .ireturn, 1, 0, 0, 0, 0, []),
  (18, .aload_n 0, 1, 0, 0, 0, 0, []),
  (19, .iload_n 1, 1, 0, 0, 0, 0, []),
  (20, .invokevirtual 275, 3, 213, 2, 0, 0, []),
  (23, .iload_n 2, 1, 0, 0, 0, 0, []),
  (24, .ifCond .ne 10, 3, 18, 0, 0, 0, []),
  (27, .aload_n 0, 1, 0, 0, 0, 0, []),
  (28, .invokevirtual 282, 3, 215, 1, 1, 0, []),
  (31, .goto 19, 3, 26, 0, 0, 0, []),
  (34, .iload_n 2, 1, 0, 0, 0, 0, []),
  (35, .iconst 1, 1, 0, 0, 0, 1, []),
  (36, .if_icmp .ne 10, 3, 24, 0, 0, 0, []),
  (39, .aload_n 0, 1, 0, 0, 0, 0, []),
  (40, .invokevirtual 285, 3, 216, 1, 1, 0, []),
  (43, .goto 7, 3, 26, 0, 0, 0, []),
  (46, .aload_n 0, 1, 0, 0, 0, 0, []),
  (47, .invokevirtual 288, 3, 218, 1, 1, 0, []),
  (50, .ireturn, 1, 0, 0, 0, 0, [])]
/-- yX11_bestRule -/
def mt_222 : List am_row := [
  (0, .iload_n 1, 1, 0, 0, 0, 0, []),
  (1, .iconst 0, 1, 0, 0, 0, 0, []),
  (2, .iconst 1, 1, 0, 0, 0, 1, []),
  (3, .invokestatic 122, 3, 168, 3, 1, 0, []),
  (6, .ifCond .ne 5, 3, 7, 0, 0, 0, []),
  (9, .iconst (-1), 1, 0, 0, 0, -1, []),
  (10, .ireturn, 1, 0, 0, 0, 0, []),
  (11, .iconst 0, 1, 0, 0, 0, 0, []),
  (12, .istore_n 2, 1, 0, 0, 0, 0, []),
  (13, .iconst (-1), 1, 0, 0, 0, -1, []),
  (14, .istore_n 3, 1, 0, 0, 0, 0, []),
  (15, .iconst 0, 1, 0, 0, 0, 0, []),
  (16, .istore 4, 2, 0, 0, 0, 0, []),
  (18, .iconst 0, 1, 0, 0, 0, 0, []),
  (19, .istore 5, 2, 0, 0, 0, 0, []),
  (21, .iload 5, 2, 0, 0, 0, 0, []),
  (23, .iconst 5, 1, 0, 0, 0, 5, []),
  (24, .if_icmp .ge 61, 3, 46, 0, 0, 0, []),
  (27, .aload_n 0, 1, 0, 0, 0, 0, []),
  (28, .iload 5, 2, 0, 0, 0, 0, []),
  (30, .invokevirtual 275, 3, 213, 2, 0, 0, []),
  (33, .iload_n 3, 1, 0, 0, 0, 0, []),
  (34, .ifCond .lt 31, 3, 36, 0, 0, 0, []),
  (37, .aload_n 0, 1, 0, 0, 0, 0, []),
  (38, .invokevirtual 282, 3, 215, 1, 1, 0, []),
  (41, .iload_n 3, 1, 0, 0, 0, 0, []),
  (42, .if_icmp .gt 37, 3, 44, 0, 0, 0, []),
  (45, .aload_n 0, 1, 0, 0, 0, 0, []),
  (46, .invokevirtual 282, 3, 215, 1, 1, 0, []),
  (49, .iload_n 3, 1, 0, 0, 0, 0, []),
  (50, .if_icmp .ne 15, 3, 36, 0, 0, 0, []),
  (53, .aload_n 0, 1, 0, 0, 0, 0, []),
  (54, .invokevirtual 285, 3, 216, 1, 1, 0, []),
  (57, .iload 4, 2, 0, 0, 0, 0, []),
  (59, .if_icmp .gt 6, 3, 36, 0, 0, 0, []),
  (62, .goto 17, 3, 44, 0, 0, 0, []),
  (65, .aload_n 0, 1, 0, 0, 0, 0, []),
  (66, .invokevirtual 282, 3, 215, 1, 1, 0, []),
  (69, .istore_n 3, 1, 0, 0, 0, 0, []),
  (70, .aload_n 0, 1, 0, 0, 0, 0, []),
  (71, .invokevirtual 285, 3, 216, 1, 1, 0, []),
  (74, .istore 4, 2, 0, 0, 0, 0, []),
  (76, .iload 5, 2, 0, 0, 0, 0, []),
  (78, .istore_n 2, 1, 0, 0, 0, 0, []),
  (79, .iinc 5 1, 3, 0, 0, 0, 1, []),
  (82, .goto (-61), 3, 15, 0, 0, 0, []),
  (85, .iload_n 1, 1, 0, 0, 0, 0, []),
  (86, .ifCond .ne 7, 3, 50, 0, 0, 0, []),
  (89, .iload_n 2, 1, 0, 0, 0, 0, []),
  (90, .goto 4, 3, 51, 0, 0, 0, []),
  (93, .iload_n 3, 1, 0, 0, 0, 0, []),
  (94, .ireturn, 1, 0, 0, 0, 0, [])]
/-- yX11_isMuch -/
def mt_223 : List am_row := [
  (0, .aload_n 0, 1, 0, 0, 0, 0, []),
  (1, .getfield 118, 3, 11, 0, 0, 0, []),
  (4, .bipush 8, 2, 0, 0, 0, 8, []),
  (6, .if_icmp .gt 11, 3, 8, 0, 0, 0, []),
  (9, .aload_n 0, 1, 0, 0, 0, 0, []),
  (10, .getfield 126, 3, 11, 5, 0, 0, []),
  (13, .iconst 3, 1, 0, 0, 0, 3, []),
  (14, .if_icmp .le 7, 3, 10, 0, 0, 0, []),
  (17, .iconst 1, 1, 0, 0, 0, 1, []),
  (18, .goto 4, 3, 11, 0, 0, 0, []),
  (21, .iconst 0, 1, 0, 0, 0, 0, []),
  (22, .ireturn, 1, 1, 0, 0, 0, [])]
/-- yX11_nextGiving -/
def mt_224 : List am_row := [
  (0, .aload_n 0, 1, 0, 0, 0, 0, []),
  (1, .getfield 118, 3, 11, 0, 0, 0, []),
  (4, .iconst 1, 1, 0, 0, 0, 1, []),
  (5, .isub, 1, 0, 0, 0, 0, []),
  (6, .istore_n 1, 1, 0, 0, 0, 0, []),
  (7, .iload_n 1, 1, 0, 0, 0, 0, []),
  (8, .ifCond .lt 43, 3, 33, 0, 0, 0, []),
  (11, .aload_n 0, 1, 0, 0, 0, 0, []),
  (12, .getfield 106, 3, 11, 48, 2, 0, []),
  (15, .iload_n 1, 1, 0, 0, 0, 0, []),
  (16, .iaload, 1, 0, 0, 0, 0, []),
  (17, .iconst 1, 1, 0, 0, 0, 1, []),
  (18, .iadd, 1, 0, 0, 0, 0, []),
  (19, .aload_n 0, 1, 0, 0, 0, 0, []),
  (20, .getfield 126, 3, 11, 5, 0, 0, []),
  (23, .if_icmp .ge 15, 3, 26, 0, 0, 0, []),
  (26, .aload_n 0, 1, 0, 0, 0, 0, []),
  (27, .getfield 106, 3, 11, 48, 2, 0, []),
  (30, .iload_n 1, 1, 0, 0, 0, 0, []),
  (31, .dup2, 1, 0, 0, 0, 0, []),
  (32, .iaload, 1, 0, 0, 0, 0, []),
  (33, .iconst 1, 1, 0, 0, 0, 1, []),
  (34, .iadd, 1, 0, 0, 0, 0, []),
  (35, .iastore, 1, 0, 0, 0, 0, []),
  (36, .iconst 1, 1, 0, 0, 0, 1, []),
  (37, .ireturn, 1, 1, 0, 0, 0, []),
  (38, .aload_n 0, 1, 0, 0, 0, 0, []),
  (39, .getfield 106, 3, 11, 48, 2, 0, []),
  (42, .iload_n 1, 1, 0, 0, 0, 0, []),
  (43, .iconst 0, 1, 0, 0, 0, 0, []),
  (44, .iastore, 1, 0, 0, 0, 0, []),
  (45, .iinc 1 (-1), 3, 0, 0, 0, -1, []),
  (48, .goto (-41), 3, 5, 0, 0, 0, []),
  (51, .iconst 0, 1, 0, 0, 0, 0, []),
  (52, .ireturn, 1, 1, 0, 0, 0, [])]
/-- yX11_fairest -/
def mt_225 : List am_row := [
  (0, .iload_n 1, 1, 0, 0, 0, 0, []),
  (1, .bipush (-2), 2, 0, 0, 0, -2, []),
  (3, .if_icmp .lt 11, 3, 7, 0, 0, 0, []),
  (6, .iload_n 1, 1, 0, 0, 0, 0, []),
  (7, .aload_n 0, 1, 0, 0, 0, 0, []),
  (8, .getfield 118, 3, 11, 0, 0, 0, []),
  (11, .if_icmp .lt 5, 3, 9, 0, 0, 0, []),
  (14, .iconst (-1), 1, 0, 0, 0, -1, []),
  (15, .ireturn, 1, 0, 0, 0, 0, []),
  (16, .aload_n 0, 1, 0, 0, 0, 0, []),
  (17, .invokevirtual 291, 3, 223, 1, 1, 0, []),
  (20, .ifCond .eq 6, 3, 14, 0, 0, 0, []),
  (23, .bipush (-5), 2, 0, 0, 0, -5, []),
  (25, .ireturn, 1, 0, 0, 0, 0, []),
  (26, .aload_n 0, 1, 0, 0, 0, 0, []),
  (27, .getfield 126, 3, 11, 5, 0, 0, []),
  (30, .ifCond .ne 6, 3, 19, 0, 0, 0, []),
  (33, .bipush (-2), 2, 0, 0, 0, -2, []),
  (35, .ireturn, 1, 0, 0, 0, 0, []),
  (36, .iconst 0, 1, 0, 0, 0, 0, []),
  (37, .istore_n 2, 1, 0, 0, 0, 0, []),
  (38, .iload_n 2, 1, 0, 0, 0, 0, []),
  (39, .aload_n 0, 1, 0, 0, 0, 0, []),
  (40, .getfield 118, 3, 11, 0, 0, 0, []),
  (43, .if_icmp .ge 16, 3, 32, 0, 0, 0, []),
  (46, .aload_n 0, 1, 0, 0, 0, 0, []),
  (47, .getfield 106, 3, 11, 48, 2, 0, []),
  (50, .iload_n 2, 1, 0, 0, 0, 0, []),
  (51, .iconst 0, 1, 0, 0, 0, 0, []),
  (52, .iastore, 1, 0, 0, 0, 0, []),
  (53, .iinc 2 1, 3, 0, 0, 0, 1, []),
  (56, .goto (-18), 3, 21, 0, 0, 0, []),
  (59, .iconst (-1), 1, 0, 0, 0, -1, []),
  (60, .istore_n 2, 1, 0, 0, 0, 0, []),
  (61, .iconst 0, 1, 0, 0, 0, 0, []),
  (62, .istore_n 3, 1, 0, 0, 0, 0, []),
  (63, .iconst 1, 1, 0, 0, 0, 1, []),
  (64, .istore 4, 2, 0, 0, 0, 0, []),
  (66, .iload 4, 2, 0, 0, 0, 0, []),
  (68, .ifCond .eq 86, 3, 82, 0, 0, 0, []),
  (71, .aload_n 0, 1, 0, 0, 0, 0, []),
  (72, .invokevirtual 294, 3, 214, 1, 0, 0, []),
  (75, .iload_n 2, 1, 0, 0, 0, 0, []),
  (76, .ifCond .lt 27, 3, 56, 0, 0, 0, []),
  (79, .aload_n 0, 1, 0, 0, 0, 0, []),
  (80, .invokevirtual 282, 3, 215, 1, 1, 0, []),
  (83, .iload_n 2, 1, 0, 0, 0, 0, []),
  (84, .if_icmp .lt 19, 3, 56, 0, 0, 0, []),
  (87, .aload_n 0, 1, 0, 0, 0, 0, []),
  (88, .invokevirtual 282, 3, 215, 1, 1, 0, []),
  (91, .iload_n 2, 1, 0, 0, 0, 0, []),
  (92, .if_icmp .ne 53, 3, 78, 0, 0, 0, []),
  (95, .aload_n 0, 1, 0, 0, 0, 0, []),
  (96, .invokevirtual 285, 3, 216, 1, 1, 0, []),
  (99, .iload_n 3, 1, 0, 0, 0, 0, []),
  (100, .if_icmp .le 45, 3, 78, 0, 0, 0, []),
  (103, .aload_n 0, 1, 0, 0, 0, 0, []),
  (104, .invokevirtual 282, 3, 215, 1, 1, 0, []),
  (107, .istore_n 2, 1, 0, 0, 0, 0, []),
  (108, .aload_n 0, 1, 0, 0, 0, 0, []),
  (109, .invokevirtual 285, 3, 216, 1, 1, 0, []),
  (112, .istore_n 3, 1, 0, 0, 0, 0, []),
  (113, .iconst 0, 1, 0, 0, 0, 0, []),
  (114, .istore 5, 2, 0, 0, 0, 0, []),
  (116, .iload 5, 2, 0, 0, 0, 0, []),
  (118, .aload_n 0, 1, 0, 0, 0, 0, []),
  (119, .getfield 118, 3, 11, 0, 0, 0, []),
  (122, .if_icmp .ge 23, 3, 78, 0, 0, 0, []),
  (125, .aload_n 0, 1, 0, 0, 0, 0, []),
  (126, .getfield 115, 3, 11, 51, 2, 0, []),
  (129, .iload 5, 2, 0, 0, 0, 0, []),
  (131, .aload_n 0, 1, 0, 0, 0, 0, []),
  (132, .getfield 106, 3, 11, 48, 2, 0, []),
  (135, .iload 5, 2, 0, 0, 0, 0, []),
  (137, .iaload, 1, 0, 0, 0, 0, []),
  (138, .iastore, 1, 0, 0, 0, 0, []),
  (139, .iinc 5 1, 3, 0, 0, 0, 1, []),
  (142, .goto (-26), 3, 64, 0, 0, 0, []),
  (145, .aload_n 0, 1, 0, 0, 0, 0, []),
  (146, .invokevirtual 297, 3, 224, 1, 1, 0, []),
  (149, .istore 4, 2, 0, 0, 0, 0, []),
  (151, .goto (-85), 3, 38, 0, 0, 0, []),
  (154, .iload_n 1, 1, 0, 0, 0, 0, []),
  (155, .iconst (-1), 1, 0, 0, 0, -1, []),
  (156, .if_icmp .ne 7, 3, 87, 0, 0, 0, []),
  (159, .iload_n 2, 1, 0, 0, 0, 0, []),
  (160, .goto 19, 3, 96, 0, 0, 0, []),
  (163, .iload_n 1, 1, 0, 0, 0, 0, []),
  (164, .bipush (-2), 2, 0, 0, 0, -2, []),
  (166, .if_icmp .ne 7, 3, 92, 0, 0, 0, []),
  (169, .iload_n 3, 1, 0, 0, 0, 0, []),
  (170, .goto 9, 3, 96, 0, 0, 0, []),
  (173, .aload_n 0, 1, 0, 0, 0, 0, []),
  (174, .getfield 115, 3, 11, 51, 2, 0, []),
  (177, .iload_n 1, 1, 0, 0, 0, 0, []),
  (178, .iaload, 1, 0, 0, 0, 0, []),
  (179, .ireturn, 1, 0, 0, 0, 0, [])]
/-- yX11_envyFree -/
def mt_226 : List am_row := [
  (0, .aload_n 0, 1, 0, 0, 0, 0, []),
  (1, .invokevirtual 291, 3, 223, 1, 1, 0, []),
  (4, .ifCond .eq 6, 3, 5, 0, 0, 0, []),
  (7, .bipush (-5), 2, 0, 0, 0, -5, []),
  (9, .ireturn, 1, 0, 0, 0, 0, []),
  (10, .aload_n 0, 1, 0, 0, 0, 0, []),
  (11, .getfield 126, 3, 11, 5, 0, 0, []),
  (14, .ifCond .ne 6, 3, 10, 0, 0, 0, []),
  (17, .bipush (-2), 2, 0, 0, 0, -2, []),
  (19, .ireturn, 1, 0, 0, 0, 0, []),
  (20, .iconst 0, 1, 0, 0, 0, 0, []),
  (21, .istore_n 1, 1, 0, 0, 0, 0, []),
  (22, .iload_n 1, 1, 0, 0, 0, 0, []),
  (23, .aload_n 0, 1, 0, 0, 0, 0, []),
  (24, .getfield 118, 3, 11, 0, 0, 0, []),
  (27, .if_icmp .ge 16, 3, 23, 0, 0, 0, []),
  (30, .aload_n 0, 1, 0, 0, 0, 0, []),
  (31, .getfield 106, 3, 11, 48, 2, 0, []),
  (34, .iload_n 1, 1, 0, 0, 0, 0, []),
  (35, .iconst 0, 1, 0, 0, 0, 0, []),
  (36, .iastore, 1, 0, 0, 0, 0, []),
  (37, .iinc 1 1, 3, 0, 0, 0, 1, []),
  (40, .goto (-18), 3, 12, 0, 0, 0, []),
  (43, .iconst 0, 1, 0, 0, 0, 0, []),
  (44, .istore_n 1, 1, 0, 0, 0, 0, []),
  (45, .iconst 1, 1, 0, 0, 0, 1, []),
  (46, .istore_n 2, 1, 0, 0, 0, 0, []),
  (47, .iload_n 2, 1, 0, 0, 0, 0, []),
  (48, .ifCond .eq 21, 3, 37, 0, 0, 0, []),
  (51, .aload_n 0, 1, 0, 0, 0, 0, []),
  (52, .invokevirtual 288, 3, 218, 1, 1, 0, []),
  (55, .ifCond .ne 6, 3, 33, 0, 0, 0, []),
  (58, .iinc 1 1, 3, 0, 0, 0, 1, []),
  (61, .aload_n 0, 1, 0, 0, 0, 0, []),
  (62, .invokevirtual 297, 3, 224, 1, 1, 0, []),
  (65, .istore_n 2, 1, 0, 0, 0, 0, []),
  (66, .goto (-19), 3, 27, 0, 0, 0, []),
  (69, .iload_n 1, 1, 0, 0, 0, 0, []),
  (70, .ireturn, 1, 0, 0, 0, 0, [])]
/-- yX11_bothMore -/
def mt_227 : List am_row := [
  (0, .aload_n 0, 1, 0, 0, 0, 0, []),
  (1, .getfield 106, 3, 11, 48, 2, 0, []),
  (4, .iload_n 1, 1, 0, 0, 0, 0, []),
  (5, .iaload, 1, 0, 0, 0, 0, []),
  (6, .istore_n 3, 1, 0, 0, 0, 0, []),
  (7, .aload_n 0, 1, 0, 0, 0, 0, []),
  (8, .getfield 106, 3, 11, 48, 2, 0, []),
  (11, .iload_n 2, 1, 0, 0, 0, 0, []),
  (12, .iaload, 1, 0, 0, 0, 0, []),
  (13, .istore 4, 2, 0, 0, 0, 0, []),
  (15, .iload_n 3, 1, 0, 0, 0, 0, []),
  (16, .iload 4, 2, 0, 0, 0, 0, []),
  (18, .if_icmp .eq 39, 3, 33, 0, 0, 0, []),
  (21, .aload_n 0, 1, 0, 0, 0, 0, []),
  (22, .iload_n 3, 1, 0, 0, 0, 0, []),
  (23, .iload_n 2, 1, 0, 0, 0, 0, []),
  (24, .invokevirtual 256, 3, 208, 3, 1, 0, []),
  (27, .aload_n 0, 1, 0, 0, 0, 0, []),
  (28, .iload_n 3, 1, 0, 0, 0, 0, []),
  (29, .iload_n 1, 1, 0, 0, 0, 0, []),
  (30, .invokevirtual 256, 3, 208, 3, 1, 0, []),
  (33, .if_icmp .le 24, 3, 33, 0, 0, 0, []),
  (36, .aload_n 0, 1, 0, 0, 0, 0, []),
  (37, .iload 4, 2, 0, 0, 0, 0, []),
  (39, .iload_n 1, 1, 0, 0, 0, 0, []),
  (40, .invokevirtual 256, 3, 208, 3, 1, 0, []),
  (43, .aload_n 0, 1, 0, 0, 0, 0, []),
  (44, .iload 4, 2, 0, 0, 0, 0, []),
  (46, .iload_n 2, 1, 0, 0, 0, 0, []),
  (47, .invokevirtual 256, 3, 208, 3, 1, 0, []),
  (50, .if_icmp .le 7, 3, 33, 0, 0, 0, []),
  (53, .iconst 1, 1, 0, 0, 0, 1, []),
  (54, .goto 4, 3, 34, 0, 0, 0, []),
  (57, .iconst 0, 1, 0, 0, 0, 0, []),
  (58, .ireturn, 1, 1, 0, 0, 0, [])]
/-- yX11_firstSwap -/
def mt_228 : List am_row := [
  (0, .iconst 0, 1, 0, 0, 0, 0, []),
  (1, .istore_n 1, 1, 0, 0, 0, 0, []),
  (2, .iload_n 1, 1, 0, 0, 0, 0, []),
  (3, .aload_n 0, 1, 0, 0, 0, 0, []),
  (4, .getfield 118, 3, 11, 0, 0, 0, []),
  (7, .if_icmp .ge 43, 3, 29, 0, 0, 0, []),
  (10, .iload_n 1, 1, 0, 0, 0, 0, []),
  (11, .iconst 1, 1, 0, 0, 0, 1, []),
  (12, .iadd, 1, 0, 0, 0, 0, []),
  (13, .istore_n 2, 1, 0, 0, 0, 0, []),
  (14, .iload_n 2, 1, 0, 0, 0, 0, []),
  (15, .aload_n 0, 1, 0, 0, 0, 0, []),
  (16, .getfield 118, 3, 11, 0, 0, 0, []),
  (19, .if_icmp .ge 25, 3, 27, 0, 0, 0, []),
  (22, .aload_n 0, 1, 0, 0, 0, 0, []),
  (23, .iload_n 1, 1, 0, 0, 0, 0, []),
  (24, .iload_n 2, 1, 0, 0, 0, 0, []),
  (25, .invokevirtual 300, 3, 227, 3, 1, 0, []),
  (28, .ifCond .eq 10, 3, 25, 0, 0, 0, []),
  (31, .bipush 20, 2, 0, 0, 0, 20, []),
  (33, .iload_n 1, 1, 0, 0, 0, 0, []),
  (34, .imul, 1, 0, 0, 0, 0, []),
  (35, .iload_n 2, 1, 0, 0, 0, 0, []),
  (36, .iadd, 1, 0, 0, 0, 0, []),
  (37, .ireturn, 1, 0, 0, 0, 0, []),
  (38, .iinc 2 1, 3, 0, 0, 0, 1, []),
  (41, .goto (-27), 3, 10, 0, 0, 0, []),
  (44, .iinc 1 1, 3, 0, 0, 0, 1, []),
  (47, .goto (-45), 3, 2, 0, 0, 0, []),
  (50, .bipush (-2), 2, 0, 0, 0, -2, []),
  (52, .ireturn, 1, 0, 0, 0, 0, [])]
/-- yX11_swap -/
def mt_229 : List am_row := [
  (0, .iload_n 1, 1, 0, 0, 0, 0, []),
  (1, .invokestatic 129, 3, 171, 1, 1, 0, []),
  (4, .ifCond .ne 5, 3, 5, 0, 0, 0, []),
  (7, .iconst (-1), 1, 0, 0, 0, -1, []),
  (8, .ireturn, 1, 0, 0, 0, 0, []),
  (9, .aload_n 0, 1, 0, 0, 0, 0, []),
  (10, .iload_n 1, 1, 0, 0, 0, 0, []),
  (11, .invokevirtual 275, 3, 213, 2, 0, 0, []),
  (14, .aload_n 0, 1, 0, 0, 0, 0, []),
  (15, .getfield 126, 3, 11, 5, 0, 0, []),
  (18, .ifCond .ne 8, 3, 13, 0, 0, 0, []),
  (21, .bipush (-2), 2, 0, 0, 0, -2, []),
  (23, .goto 7, 3, 15, 0, 0, 0, []),
  (26, .aload_n 0, 1, 0, 0, 0, 0, []),
  (27, .invokevirtual 303, 3, 228, 1, 1, 0, []),
  (30, .ireturn, 1, 0, 0, 0, 0, [])]
/-- yX11_swaps -/
def mt_230 : List am_row := [
  (0, .iload_n 1, 1, 0, 0, 0, 0, []),
  (1, .invokestatic 129, 3, 171, 1, 1, 0, []),
  (4, .ifCond .eq 12, 3, 8, 0, 0, 0, []),
  (7, .iload_n 2, 1, 0, 0, 0, 0, []),
  (8, .iconst 0, 1, 0, 0, 0, 0, []),
  (9, .iconst 1, 1, 0, 0, 0, 1, []),
  (10, .invokestatic 122, 3, 168, 3, 1, 0, []),
  (13, .ifCond .ne 5, 3, 10, 0, 0, 0, []),
  (16, .iconst (-1), 1, 0, 0, 0, -1, []),
  (17, .ireturn, 1, 0, 0, 0, 0, []),
  (18, .aload_n 0, 1, 0, 0, 0, 0, []),
  (19, .iload_n 1, 1, 0, 0, 0, 0, []),
  (20, .invokevirtual 275, 3, 213, 2, 0, 0, []),
  (23, .iconst 0, 1, 0, 0, 0, 0, []),
  (24, .istore_n 3, 1, 0, 0, 0, 0, []),
  (25, .iload_n 3, 1, 0, 0, 0, 0, []),
  (26, .bipush 50, 2, 0, 0, 0, 50, []),
  (28, .if_icmp .ge 76, 3, 56, 0, 0, 0, []),
  (31, .aload_n 0, 1, 0, 0, 0, 0, []),
  (32, .getfield 126, 3, 11, 5, 0, 0, []),
  (35, .ifCond .le 69, 3, 56, 0, 0, 0, []),
  (38, .aload_n 0, 1, 0, 0, 0, 0, []),
  (39, .invokevirtual 303, 3, 228, 1, 1, 0, []),
  (42, .istore 4, 2, 0, 0, 0, 0, []),
  (44, .iload 4, 2, 0, 0, 0, 0, []),
  (46, .bipush (-2), 2, 0, 0, 0, -2, []),
  (48, .if_icmp .ne 6, 3, 28, 0, 0, 0, []),
  (51, .goto 53, 3, 56, 0, 0, 0, []),
  (54, .aload_n 0, 1, 0, 0, 0, 0, []),
  (55, .getfield 106, 3, 11, 48, 2, 0, []),
  (58, .iload 4, 2, 0, 0, 0, 0, []),
  (60, .bipush 20, 2, 0, 0, 0, 20, []),
  (62, .idiv, 1, 0, 0, 0, 0, []),
  (63, .iaload, 1, 0, 0, 0, 0, []),
  (64, .istore 5, 2, 0, 0, 0, 0, []),
  (66, .aload_n 0, 1, 0, 0, 0, 0, []),
  (67, .getfield 106, 3, 11, 48, 2, 0, []),
  (70, .iload 4, 2, 0, 0, 0, 0, []),
  (72, .bipush 20, 2, 0, 0, 0, 20, []),
  (74, .idiv, 1, 0, 0, 0, 0, []),
  (75, .aload_n 0, 1, 0, 0, 0, 0, []),
  (76, .getfield 106, 3, 11, 48, 2, 0, []),
  (79, .iload 4, 2, 0, 0, 0, 0, []),
  (81, .bipush 20, 2, 0, 0, 0, 20, []),
  (83, .irem, 1, 0, 0, 0, 0, []),
  (84, .iaload, 1, 0, 0, 0, 0, []),
  (85, .iastore, 1, 0, 0, 0, 0, []),
  (86, .aload_n 0, 1, 0, 0, 0, 0, []),
  (87, .getfield 106, 3, 11, 48, 2, 0, []),
  (90, .iload 4, 2, 0, 0, 0, 0, []),
  (92, .bipush 20, 2, 0, 0, 0, 20, []),
  (94, .irem, 1, 0, 0, 0, 0, []),
  (95, .iload 5, 2, 0, 0, 0, 0, []),
  (97, .iastore, 1, 0, 0, 0, 0, []),
  (98, .iinc 3 1, 3, 0, 0, 0, 1, []),
  (101, .goto (-76), 3, 15, 0, 0, 0, []),
  (104, .aload_n 0, 1, 0, 0, 0, 0, []),
  (105, .invokevirtual 294, 3, 214, 1, 0, 0, []),
  (108, .iload_n 2, 1, 0, 0, 0, 0, []),
  (109, .ifCond .ne 7, 3, 62, 0, 0, 0, []),
  (112, .iload_n 3, 1, 0, 0, 0, 0, []),
  (113, .goto 7, 3, 64, 0, 0, 0, []),
  (116, .aload_n 0, 1, 0, 0, 0, 0, []),
  (117, .invokevirtual 282, 3, 215, 1, 1, 0, []),
  (120, .ireturn, 1, 0, 0, 0, 0, [])]
/-- yX11_big -/
def mt_231 : List am_row := [
  (0, .iload_n 1, 1, 0, 0, 0, 0, []),
  (1, .invokestatic 129, 3, 171, 1, 1, 0, []),
  (4, .ifCond .eq 16, 3, 10, 0, 0, 0, []),
  (7, .iload_n 2, 1, 0, 0, 0, 0, []),
  (8, .iconst (-1), 1, 0, 0, 0, -1, []),
  (9, .if_icmp .eq 13, 3, 12, 0, 0, 0, []),
  (12, .aload_n 0, 1, 0, 0, 0, 0, []),
  (13, .iload_n 2, 1, 0, 0, 0, 0, []),
  (14, .invokevirtual 133, 3, 170, 2, 1, 0, []),
  (17, .ifCond .ne 5, 3, 12, 0, 0, 0, []),
  (20, .iconst (-1), 1, 0, 0, 0, -1, []),
  (21, .ireturn, 1, 0, 0, 0, 0, []),
  (22, .aload_n 0, 1, 0, 0, 0, 0, []),
  (23, .getfield 118, 3, 11, 0, 0, 0, []),
  (26, .ifCond .eq 10, 3, 18, 0, 0, 0, []),
  (29, .aload_n 0, 1, 0, 0, 0, 0, []),
  (30, .getfield 126, 3, 11, 5, 0, 0, []),
  (33, .ifCond .ne 6, 3, 20, 0, 0, 0, []),
  (36, .bipush (-2), 2, 0, 0, 0, -2, []),
  (38, .ireturn, 1, 0, 0, 0, 0, []),
  (39, .aload_n 0, 1, 0, 0, 0, 0, []),
  (40, .iload_n 1, 1, 0, 0, 0, 0, []),
  (41, .invokevirtual 275, 3, 213, 2, 0, 0, []),
  (44, .iconst 0, 1, 0, 0, 0, 0, []),
  (45, .istore_n 3, 1, 0, 0, 0, 0, []),
  (46, .iconst 1, 1, 0, 0, 0, 1, []),
  (47, .istore 4, 2, 0, 0, 0, 0, []),
  (49, .iload 4, 2, 0, 0, 0, 0, []),
  (51, .aload_n 0, 1, 0, 0, 0, 0, []),
  (52, .getfield 118, 3, 11, 0, 0, 0, []),
  (55, .if_icmp .ge 28, 3, 44, 0, 0, 0, []),
  (58, .aload_n 0, 1, 0, 0, 0, 0, []),
  (59, .getfield 18, 3, 11, 3, 2, 0, []),
  (62, .iload 4, 2, 0, 0, 0, 0, []),
  (64, .iaload, 1, 0, 0, 0, 0, []),
  (65, .aload_n 0, 1, 0, 0, 0, 0, []),
  (66, .getfield 18, 3, 11, 3, 2, 0, []),
  (69, .iload_n 3, 1, 0, 0, 0, 0, []),
  (70, .iaload, 1, 0, 0, 0, 0, []),
  (71, .if_icmp .le 6, 3, 42, 0, 0, 0, []),
  (74, .iload 4, 2, 0, 0, 0, 0, []),
  (76, .istore_n 3, 1, 0, 0, 0, 0, []),
  (77, .iinc 4 1, 3, 0, 0, 0, 1, []),
  (80, .goto (-31), 3, 27, 0, 0, 0, []),
  (83, .aload_n 0, 1, 0, 0, 0, 0, []),
  (84, .getfield 18, 3, 11, 3, 2, 0, []),
  (87, .iload_n 3, 1, 0, 0, 0, 0, []),
  (88, .iaload, 1, 0, 0, 0, 0, []),
  (89, .istore 4, 2, 0, 0, 0, 0, []),
  (91, .aload_n 0, 1, 0, 0, 0, 0, []),
  (92, .getfield 106, 3, 11, 48, 2, 0, []),
  (95, .iload_n 3, 1, 0, 0, 0, 0, []),
  (96, .bipush (-2), 2, 0, 0, 0, -2, []),
  (98, .iastore, 1, 0, 0, 0, 0, []),
  (99, .aload_n 0, 1, 0, 0, 0, 0, []),
  (100, .invokevirtual 294, 3, 214, 1, 0, 0, []),
  (103, .aload_n 0, 1, 0, 0, 0, 0, []),
  (104, .getfield 18, 3, 11, 3, 2, 0, []),
  (107, .iload_n 3, 1, 0, 0, 0, 0, []),
  (108, .iload 4, 2, 0, 0, 0, 0, []),
  (110, .aload_n 0, 1, 0, 0, 0, 0, []),
  (111, .getfield 126, 3, 11, 5, 0, 0, []),
  (114, .idiv, 1, 0, 0, 0, 0, []),
  (115, .iastore, 1, 0, 0, 0, 0, []),
  (116, .iconst 0, 1, 0, 0, 0, 0, []),
  (117, .istore 5, 2, 0, 0, 0, 0, []),
  (119, .iload 5, 2, 0, 0, 0, 0, []),
  (121, .aload_n 0, 1, 0, 0, 0, 0, []),
  (122, .getfield 126, 3, 11, 5, 0, 0, []),
  (125, .if_icmp .ge 35, 3, 88, 0, 0, 0, []),
  (128, .aload_n 0, 1, 0, 0, 0, 0, []),
  (129, .getfield 18, 3, 11, 3, 2, 0, []),
  (132, .iload_n 3, 1, 0, 0, 0, 0, []),
  (133, .iaload, 1, 0, 0, 0, 0, []),
  (134, .ifCond .le 26, 3, 88, 0, 0, 0, []),
  (137, .aload_n 0, 1, 0, 0, 0, 0, []),
  (138, .getfield 109, 3, 11, 49, 2, 0, []),
  (141, .iload 5, 2, 0, 0, 0, 0, []),
  (143, .dup2, 1, 0, 0, 0, 0, []),
  (144, .iaload, 1, 0, 0, 0, 0, []),
  (145, .aload_n 0, 1, 0, 0, 0, 0, []),
  (146, .iload 5, 2, 0, 0, 0, 0, []),
  (148, .iload_n 3, 1, 0, 0, 0, 0, []),
  (149, .invokevirtual 256, 3, 208, 3, 1, 0, []),
  (152, .iadd, 1, 0, 0, 0, 0, []),
  (153, .iastore, 1, 0, 0, 0, 0, []),
  (154, .iinc 5 1, 3, 0, 0, 0, 1, []),
  (157, .goto (-38), 3, 66, 0, 0, 0, []),
  (160, .aload_n 0, 1, 0, 0, 0, 0, []),
  (161, .getfield 18, 3, 11, 3, 2, 0, []),
  (164, .iload_n 3, 1, 0, 0, 0, 0, []),
  (165, .iload 4, 2, 0, 0, 0, 0, []),
  (167, .iastore, 1, 0, 0, 0, 0, []),
  (168, .iload_n 2, 1, 0, 0, 0, 0, []),
  (169, .iconst (-1), 1, 0, 0, 0, -1, []),
  (170, .if_icmp .ne 10, 3, 99, 0, 0, 0, []),
  (173, .aload_n 0, 1, 0, 0, 0, 0, []),
  (174, .invokevirtual 282, 3, 215, 1, 1, 0, []),
  (177, .goto 9, 3, 103, 0, 0, 0, []),
  (180, .aload_n 0, 1, 0, 0, 0, 0, []),
  (181, .getfield 109, 3, 11, 49, 2, 0, []),
  (184, .iload_n 2, 1, 0, 0, 0, 0, []),
  (185, .iaload, 1, 0, 0, 0, 0, []),
  (186, .ireturn, 1, 0, 0, 0, 0, [])]
/-- yX11_away -/
def mt_232 : List am_row := [
  (0, .aload_n 0, 1, 0, 0, 0, 0, []),
  (1, .iload_n 1, 1, 0, 0, 0, 0, []),
  (2, .invokevirtual 279, 3, 172, 2, 1, 0, []),
  (5, .ifCond .eq 12, 3, 9, 0, 0, 0, []),
  (8, .iload_n 2, 1, 0, 0, 0, 0, []),
  (9, .iconst 0, 1, 0, 0, 0, 0, []),
  (10, .iconst 2, 1, 0, 0, 0, 2, []),
  (11, .invokestatic 122, 3, 168, 3, 1, 0, []),
  (14, .ifCond .ne 5, 3, 11, 0, 0, 0, []),
  (17, .iconst (-1), 1, 0, 0, 0, -1, []),
  (18, .ireturn, 1, 0, 0, 0, 0, []),
  (19, .iload_n 1, 1, 0, 0, 0, 0, []),
  (20, .bipush 10, 2, 0, 0, 0, 10, []),
  (22, .irem, 1, 0, 0, 0, 0, []),
  (23, .istore_n 3, 1, 0, 0, 0, 0, []),
  (24, .aload_n 0, 1, 0, 0, 0, 0, []),
  (25, .iload_n 1, 1, 0, 0, 0, 0, []),
  (26, .bipush 10, 2, 0, 0, 0, 10, []),
  (28, .idiv, 1, 0, 0, 0, 0, []),
  (29, .invokevirtual 275, 3, 213, 2, 0, 0, []),
  (32, .iconst 0, 1, 0, 0, 0, 0, []),
  (33, .istore 4, 2, 0, 0, 0, 0, []),
  (35, .iconst 0, 1, 0, 0, 0, 0, []),
  (36, .istore 5, 2, 0, 0, 0, 0, []),
  (38, .iload 5, 2, 0, 0, 0, 0, []),
  (40, .aload_n 0, 1, 0, 0, 0, 0, []),
  (41, .getfield 118, 3, 11, 0, 0, 0, []),
  (44, .if_icmp .ge 92, 3, 72, 0, 0, 0, []),
  (47, .iload_n 2, 1, 0, 0, 0, 0, []),
  (48, .ifCond .ne 21, 3, 39, 0, 0, 0, []),
  (51, .aload_n 0, 1, 0, 0, 0, 0, []),
  (52, .iload_n 3, 1, 0, 0, 0, 0, []),
  (53, .aload_n 0, 1, 0, 0, 0, 0, []),
  (54, .getfield 9, 3, 11, 1, 2, 0, []),
  (57, .iload 5, 2, 0, 0, 0, 0, []),
  (59, .iaload, 1, 0, 0, 0, 0, []),
  (60, .invokevirtual 250, 3, 206, 3, 1, 0, []),
  (63, .ifCond .eq 6, 3, 39, 0, 0, 0, []),
  (66, .iinc 4 1, 3, 0, 0, 0, 1, []),
  (69, .iload_n 2, 1, 0, 0, 0, 0, []),
  (70, .ifCond .eq 60, 3, 70, 0, 0, 0, []),
  (73, .aload_n 0, 1, 0, 0, 0, 0, []),
  (74, .getfield 106, 3, 11, 48, 2, 0, []),
  (77, .iload 5, 2, 0, 0, 0, 0, []),
  (79, .iaload, 1, 0, 0, 0, 0, []),
  (80, .iload_n 3, 1, 0, 0, 0, 0, []),
  (81, .if_icmp .eq 6, 3, 48, 0, 0, 0, []),
  (84, .goto 46, 3, 70, 0, 0, 0, []),
  (87, .aload_n 0, 1, 0, 0, 0, 0, []),
  (88, .iload_n 3, 1, 0, 0, 0, 0, []),
  (89, .iload 5, 2, 0, 0, 0, 0, []),
  (91, .invokevirtual 253, 3, 207, 3, 1, 0, []),
  (94, .istore 6, 2, 0, 0, 0, 0, []),
  (96, .iload_n 2, 1, 0, 0, 0, 0, []),
  (97, .iconst 1, 1, 0, 0, 0, 1, []),
  (98, .if_icmp .ne 13, 3, 60, 0, 0, 0, []),
  (101, .iload 6, 2, 0, 0, 0, 0, []),
  (103, .bipush (-2), 2, 0, 0, 0, -2, []),
  (105, .if_icmp .ne 6, 3, 60, 0, 0, 0, []),
  (108, .iinc 4 1, 3, 0, 0, 0, 1, []),
  (111, .iload_n 2, 1, 0, 0, 0, 0, []),
  (112, .iconst 2, 1, 0, 0, 0, 2, []),
  (113, .if_icmp .ne 17, 3, 70, 0, 0, 0, []),
  (116, .iload 6, 2, 0, 0, 0, 0, []),
  (118, .bipush (-2), 2, 0, 0, 0, -2, []),
  (120, .if_icmp .eq 10, 3, 70, 0, 0, 0, []),
  (123, .iload 4, 2, 0, 0, 0, 0, []),
  (125, .iload 6, 2, 0, 0, 0, 0, []),
  (127, .iadd, 1, 0, 0, 0, 0, []),
  (128, .istore 4, 2, 0, 0, 0, 0, []),
  (130, .iinc 5 1, 3, 0, 0, 0, 1, []),
  (133, .goto (-95), 3, 24, 0, 0, 0, []),
  (136, .iload 4, 2, 0, 0, 0, 0, []),
  (138, .ireturn, 1, 0, 0, 0, 0, [])]
/-- yX11_gathered -/
def mt_233 : List am_row := [
  (0, .iconst 0, 1, 0, 0, 0, 0, []),
  (1, .istore_n 3, 1, 0, 0, 0, 0, []),
  (2, .iconst 0, 1, 0, 0, 0, 0, []),
  (3, .istore 4, 2, 0, 0, 0, 0, []),
  (5, .iconst 0, 1, 0, 0, 0, 0, []),
  (6, .istore 5, 2, 0, 0, 0, 0, []),
  (8, .iload 5, 2, 0, 0, 0, 0, []),
  (10, .aload_n 0, 1, 0, 0, 0, 0, []),
  (11, .getfield 118, 3, 11, 0, 0, 0, []),
  (14, .if_icmp .ge 166, 3, 99, 0, 0, 0, []),
  (17, .aload_n 0, 1, 0, 0, 0, 0, []),
  (18, .getfield 106, 3, 11, 48, 2, 0, []),
  (21, .aload_n 0, 1, 0, 0, 0, 0, []),
  (22, .getfield 103, 3, 11, 47, 2, 0, []),
  (25, .iload 5, 2, 0, 0, 0, 0, []),
  (27, .iaload, 1, 0, 0, 0, 0, []),
  (28, .iaload, 1, 0, 0, 0, 0, []),
  (29, .iload_n 1, 1, 0, 0, 0, 0, []),
  (30, .if_icmp .eq 6, 3, 20, 0, 0, 0, []),
  (33, .goto 141, 3, 97, 0, 0, 0, []),
  (36, .iinc 4 1, 3, 0, 0, 0, 1, []),
  (39, .bipush 24, 2, 0, 0, 0, 24, []),
  (41, .istore 6, 2, 0, 0, 0, 0, []),
  (43, .iload 4, 2, 0, 0, 0, 0, []),
  (45, .iload_n 2, 1, 0, 0, 0, 0, []),
  (46, .iadd, 1, 0, 0, 0, 0, []),
  (47, .iconst 1, 1, 0, 0, 0, 1, []),
  (48, .isub, 1, 0, 0, 0, 0, []),
  (49, .iload_n 2, 1, 0, 0, 0, 0, []),
  (50, .idiv, 1, 0, 0, 0, 0, []),
  (51, .iload_n 2, 1, 0, 0, 0, 0, []),
  (52, .imul, 1, 0, 0, 0, 0, []),
  (53, .iload 4, 2, 0, 0, 0, 0, []),
  (55, .isub, 1, 0, 0, 0, 0, []),
  (56, .istore 7, 2, 0, 0, 0, 0, []),
  (58, .iload 7, 2, 0, 0, 0, 0, []),
  (60, .ifCond .ne 17, 3, 45, 0, 0, 0, []),
  (63, .aload_n 0, 1, 0, 0, 0, 0, []),
  (64, .getfield 9, 3, 11, 1, 2, 0, []),
  (67, .aload_n 0, 1, 0, 0, 0, 0, []),
  (68, .getfield 103, 3, 11, 47, 2, 0, []),
  (71, .iload 5, 2, 0, 0, 0, 0, []),
  (73, .iaload, 1, 0, 0, 0, 0, []),
  (74, .iaload, 1, 0, 0, 0, 0, []),
  (75, .istore 6, 2, 0, 0, 0, 0, []),
  (77, .iload 5, 2, 0, 0, 0, 0, []),
  (79, .iconst 1, 1, 0, 0, 0, 1, []),
  (80, .iadd, 1, 0, 0, 0, 0, []),
  (81, .istore 8, 2, 0, 0, 0, 0, []),
  (83, .iload 8, 2, 0, 0, 0, 0, []),
  (85, .aload_n 0, 1, 0, 0, 0, 0, []),
  (86, .getfield 118, 3, 11, 0, 0, 0, []),
  (89, .if_icmp .ge 55, 3, 78, 0, 0, 0, []),
  (92, .iload 7, 2, 0, 0, 0, 0, []),
  (94, .ifCond .le 50, 3, 78, 0, 0, 0, []),
  (97, .aload_n 0, 1, 0, 0, 0, 0, []),
  (98, .getfield 106, 3, 11, 48, 2, 0, []),
  (101, .aload_n 0, 1, 0, 0, 0, 0, []),
  (102, .getfield 103, 3, 11, 47, 2, 0, []),
  (105, .iload 8, 2, 0, 0, 0, 0, []),
  (107, .iaload, 1, 0, 0, 0, 0, []),
  (108, .iaload, 1, 0, 0, 0, 0, []),
  (109, .iload_n 1, 1, 0, 0, 0, 0, []),
  (110, .if_icmp .eq 6, 3, 65, 0, 0, 0, []),
  (113, .goto 25, 3, 76, 0, 0, 0, []),
  (116, .iinc 7 (-1), 3, 0, 0, 0, -1, []),
  (119, .iload 7, 2, 0, 0, 0, 0, []),
  (121, .ifCond .ne 17, 3, 76, 0, 0, 0, []),
  (124, .aload_n 0, 1, 0, 0, 0, 0, []),
  (125, .getfield 9, 3, 11, 1, 2, 0, []),
  (128, .aload_n 0, 1, 0, 0, 0, 0, []),
  (129, .getfield 103, 3, 11, 47, 2, 0, []),
  (132, .iload 8, 2, 0, 0, 0, 0, []),
  (134, .iaload, 1, 0, 0, 0, 0, []),
  (135, .iaload, 1, 0, 0, 0, 0, []),
  (136, .istore 6, 2, 0, 0, 0, 0, []),
  (138, .iinc 8 1, 3, 0, 0, 0, 1, []),
  (141, .goto (-58), 3, 49, 0, 0, 0, []),
  (144, .iload_n 3, 1, 0, 0, 0, 0, []),
  (145, .aload_n 0, 1, 0, 0, 0, 0, []),
  (146, .iload_n 1, 1, 0, 0, 0, 0, []),
  (147, .aload_n 0, 1, 0, 0, 0, 0, []),
  (148, .getfield 103, 3, 11, 47, 2, 0, []),
  (151, .iload 5, 2, 0, 0, 0, 0, []),
  (153, .iaload, 1, 0, 0, 0, 0, []),
  (154, .iload 6, 2, 0, 0, 0, 0, []),
  (156, .aload_n 0, 1, 0, 0, 0, 0, []),
  (157, .getfield 9, 3, 11, 1, 2, 0, []),
  (160, .aload_n 0, 1, 0, 0, 0, 0, []),
  (161, .getfield 103, 3, 11, 47, 2, 0, []),
  (164, .iload 5, 2, 0, 0, 0, 0, []),
  (166, .iaload, 1, 0, 0, 0, 0, []),
  (167, .iaload, 1, 0, 0, 0, 0, []),
  (168, .isub, 1, 0, 0, 0, 0, []),
  (169, .invokevirtual 247, 3, 204, 4, 1, 0, []),
  (172, .iadd, 1, 0, 0, 0, 0, []),
  (173, .istore_n 3, 1, 0, 0, 0, 0, []),
  (174, .iinc 5 1, 3, 0, 0, 0, 1, []),
  (177, .goto (-169), 3, 6, 0, 0, 0, []),
  (180, .iload_n 3, 1, 0, 0, 0, 0, []),
  (181, .ireturn, 1, 0, 0, 0, 0, [])]
/-- yX11_gather -/
def mt_234 : List am_row := [
  (0, .aload_n 0, 1, 0, 0, 0, 0, []),
  (1, .iload_n 1, 1, 0, 0, 0, 0, []),
  (2, .invokevirtual 279, 3, 172, 2, 1, 0, []),
  (5, .ifCond .eq 13, 3, 9, 0, 0, 0, []),
  (8, .iload_n 2, 1, 0, 0, 0, 0, []),
  (9, .iconst 0, 1, 0, 0, 0, 0, []),
  (10, .bipush 9, 2, 0, 0, 0, 9, []),
  (12, .invokestatic 122, 3, 168, 3, 1, 0, []),
  (15, .ifCond .ne 5, 3, 11, 0, 0, 0, []),
  (18, .iconst (-1), 1, 0, 0, 0, -1, []),
  (19, .ireturn, 1, 0, 0, 0, 0, []),
  (20, .aload_n 0, 1, 0, 0, 0, 0, []),
  (21, .iload_n 1, 1, 0, 0, 0, 0, []),
  (22, .bipush 10, 2, 0, 0, 0, 10, []),
  (24, .idiv, 1, 0, 0, 0, 0, []),
  (25, .invokevirtual 275, 3, 213, 2, 0, 0, []),
  (28, .iload_n 2, 1, 0, 0, 0, 0, []),
  (29, .ifCond .le 13, 3, 25, 0, 0, 0, []),
  (32, .aload_n 0, 1, 0, 0, 0, 0, []),
  (33, .iload_n 1, 1, 0, 0, 0, 0, []),
  (34, .bipush 10, 2, 0, 0, 0, 10, []),
  (36, .irem, 1, 0, 0, 0, 0, []),
  (37, .iload_n 2, 1, 0, 0, 0, 0, []),
  (38, .invokevirtual 306, 3, 233, 3, 1, 0, []),
  (41, .ireturn, 1, 0, 0, 0, 0, []),
  (42, .iconst 1, 1, 0, 0, 0, 1, []),
  (43, .istore_n 3, 1, 0, 0, 0, 0, []),
  (44, .iconst 2, 1, 0, 0, 0, 2, []),
  (45, .istore 4, 2, 0, 0, 0, 0, []),
  (47, .iload 4, 2, 0, 0, 0, 0, []),
  (49, .bipush 10, 2, 0, 0, 0, 10, []),
  (51, .if_icmp .ge 34, 3, 49, 0, 0, 0, []),
  (54, .aload_n 0, 1, 0, 0, 0, 0, []),
  (55, .iload_n 1, 1, 0, 0, 0, 0, []),
  (56, .bipush 10, 2, 0, 0, 0, 10, []),
  (58, .irem, 1, 0, 0, 0, 0, []),
  (59, .iload 4, 2, 0, 0, 0, 0, []),
  (61, .invokevirtual 306, 3, 233, 3, 1, 0, []),
  (64, .aload_n 0, 1, 0, 0, 0, 0, []),
  (65, .iload_n 1, 1, 0, 0, 0, 0, []),
  (66, .bipush 10, 2, 0, 0, 0, 10, []),
  (68, .irem, 1, 0, 0, 0, 0, []),
  (69, .iload_n 3, 1, 0, 0, 0, 0, []),
  (70, .invokevirtual 306, 3, 233, 3, 1, 0, []),
  (73, .if_icmp .le 6, 3, 47, 0, 0, 0, []),
  (76, .iload 4, 2, 0, 0, 0, 0, []),
  (78, .istore_n 3, 1, 0, 0, 0, 0, []),
  (79, .iinc 4 1, 3, 0, 0, 0, 1, []),
  (82, .goto (-35), 3, 29, 0, 0, 0, []),
  (85, .iload_n 3, 1, 0, 0, 0, 0, []),
  (86, .ireturn, 1, 0, 0, 0, 0, [])]
/-- yX11_waits -/
def mt_235 : List am_row := [
  (0, .aload_n 0, 1, 0, 0, 0, 0, []),
  (1, .iload_n 1, 1, 0, 0, 0, 0, []),
  (2, .invokevirtual 279, 3, 172, 2, 1, 0, []),
  (5, .ifCond .eq 12, 3, 9, 0, 0, 0, []),
  (8, .iload_n 2, 1, 0, 0, 0, 0, []),
  (9, .iconst 0, 1, 0, 0, 0, 0, []),
  (10, .iconst 1, 1, 0, 0, 0, 1, []),
  (11, .invokestatic 122, 3, 168, 3, 1, 0, []),
  (14, .ifCond .ne 5, 3, 11, 0, 0, 0, []),
  (17, .iconst (-1), 1, 0, 0, 0, -1, []),
  (18, .ireturn, 1, 0, 0, 0, 0, []),
  (19, .iload_n 1, 1, 0, 0, 0, 0, []),
  (20, .bipush 10, 2, 0, 0, 0, 10, []),
  (22, .irem, 1, 0, 0, 0, 0, []),
  (23, .istore_n 3, 1, 0, 0, 0, 0, []),
  (24, .bipush 24, 2, 0, 0, 0, 24, []),
  (26, .iconst 3, 1, 0, 0, 0, 3, []),
  (27, .aload_n 0, 1, 0, 0, 0, 0, []),
  (28, .getfield 30, 3, 11, 8, 2, 0, []),
  (31, .iload_n 3, 1, 0, 0, 0, 0, []),
  (32, .iaload, 1, 0, 0, 0, 0, []),
  (33, .imul, 1, 0, 0, 0, 0, []),
  (34, .aload_n 0, 1, 0, 0, 0, 0, []),
  (35, .getfield 39, 3, 11, 11, 2, 0, []),
  (38, .iconst 0, 1, 0, 0, 0, 0, []),
  (39, .iaload, 1, 0, 0, 0, 0, []),
  (40, .ifCond .ne 7, 3, 29, 0, 0, 0, []),
  (43, .iconst 2, 1, 0, 0, 0, 2, []),
  (44, .goto 4, 3, 30, 0, 0, 0, []),
  (47, .iconst 0, 1, 0, 0, 0, 0, []),
  (48, .iadd, 1, 0, 0, 0, 0, []),
  (49, .invokestatic 244, 3, 1001, 2, 1, 0, []),
  (52, .istore 4, 2, 0, 0, 0, 0, []),
  (54, .iload_n 2, 1, 0, 0, 0, 0, []),
  (55, .ifCond .ne 6, 3, 37, 0, 0, 0, []),
  (58, .iload 4, 2, 0, 0, 0, 0, []),
  (60, .ireturn, 1, 0, 0, 0, 0, []),
  (61, .aload_n 0, 1, 0, 0, 0, 0, []),
  (62, .iload_n 1, 1, 0, 0, 0, 0, []),
  (63, .bipush 10, 2, 0, 0, 0, 10, []),
  (65, .idiv, 1, 0, 0, 0, 0, []),
  (66, .invokevirtual 275, 3, 213, 2, 0, 0, []),
  (69, .iconst 0, 1, 0, 0, 0, 0, []),
  (70, .istore 5, 2, 0, 0, 0, 0, []),
  (72, .iconst 0, 1, 0, 0, 0, 0, []),
  (73, .istore 6, 2, 0, 0, 0, 0, []),
  (75, .iload 6, 2, 0, 0, 0, 0, []),
  (77, .aload_n 0, 1, 0, 0, 0, 0, []),
  (78, .getfield 118, 3, 11, 0, 0, 0, []),
  (81, .if_icmp .ge 41, 3, 70, 0, 0, 0, []),
  (84, .aload_n 0, 1, 0, 0, 0, 0, []),
  (85, .getfield 106, 3, 11, 48, 2, 0, []),
  (88, .iload 6, 2, 0, 0, 0, 0, []),
  (90, .iaload, 1, 0, 0, 0, 0, []),
  (91, .iload_n 3, 1, 0, 0, 0, 0, []),
  (92, .if_icmp .ne 24, 3, 68, 0, 0, 0, []),
  (95, .aload_n 0, 1, 0, 0, 0, 0, []),
  (96, .getfield 9, 3, 11, 1, 2, 0, []),
  (99, .iload 6, 2, 0, 0, 0, 0, []),
  (101, .iaload, 1, 0, 0, 0, 0, []),
  (102, .iload 4, 2, 0, 0, 0, 0, []),
  (104, .if_icmp .le 12, 3, 68, 0, 0, 0, []),
  (107, .iload 5, 2, 0, 0, 0, 0, []),
  (109, .iconst 1, 1, 0, 0, 0, 1, []),
  (110, .iload 6, 2, 0, 0, 0, 0, []),
  (112, .ishl, 1, 0, 0, 0, 0, []),
  (113, .ior, 1, 0, 0, 0, 0, []),
  (114, .istore 5, 2, 0, 0, 0, 0, []),
  (116, .iinc 6 1, 3, 0, 0, 0, 1, []),
  (119, .goto (-44), 3, 46, 0, 0, 0, []),
  (122, .iload 5, 2, 0, 0, 0, 0, []),
  (124, .ireturn, 1, 0, 0, 0, 0, [])]
/-- yX11_noRow -/
def mt_236 : List am_row := [
  (0, .aload_n 0, 1, 0, 0, 0, 0, []),
  (1, .getfield 93, 3, 11, 44, 2, 0, []),
  (4, .iload_n 1, 1, 0, 0, 0, 0, []),
  (5, .iaload, 1, 0, 0, 0, 0, []),
  (6, .iconst (-1), 1, 0, 0, 0, -1, []),
  (7, .if_icmp .ne 8, 3, 8, 0, 0, 0, []),
  (10, .bipush (-11), 2, 0, 0, 0, -11, []),
  (12, .goto 18, 3, 16, 0, 0, 0, []),
  (15, .aload_n 0, 1, 0, 0, 0, 0, []),
  (16, .getfield 93, 3, 11, 44, 2, 0, []),
  (19, .iload_n 1, 1, 0, 0, 0, 0, []),
  (20, .iaload, 1, 0, 0, 0, 0, []),
  (21, .ifCond .eq 8, 3, 15, 0, 0, 0, []),
  (24, .bipush (-12), 2, 0, 0, 0, -12, []),
  (26, .goto 4, 3, 16, 0, 0, 0, []),
  (29, .iconst 0, 1, 0, 0, 0, 0, []),
  (30, .ireturn, 1, 0, 0, 0, 0, [])]
/-- yX11_toldAt -/
def mt_237 : List am_row := [
  (0, .aload_n 0, 1, 0, 0, 0, 0, []),
  (1, .getfield 99, 3, 11, 46, 2, 0, []),
  (4, .bipush 60, 2, 0, 0, 0, 60, []),
  (6, .iload_n 1, 1, 0, 0, 0, 0, []),
  (7, .imul, 1, 0, 0, 0, 0, []),
  (8, .iload_n 2, 1, 0, 0, 0, 0, []),
  (9, .iadd, 1, 0, 0, 0, 0, []),
  (10, .laload, 1, 0, 0, 0, 0, []),
  (11, .l2i, 1, 0, 0, 0, 0, []),
  (12, .ireturn, 1, 0, 0, 0, 0, [])]
/-- yX11_early -/
def mt_238 : List am_row := [
  (0, .iconst 0, 1, 0, 0, 0, 0, []),
  (1, .istore_n 3, 1, 0, 0, 0, 0, []),
  (2, .iconst 0, 1, 0, 0, 0, 0, []),
  (3, .istore 4, 2, 0, 0, 0, 0, []),
  (5, .iload 4, 2, 0, 0, 0, 0, []),
  (7, .aload_n 0, 1, 0, 0, 0, 0, []),
  (8, .getfield 96, 3, 11, 45, 2, 0, []),
  (11, .iload_n 1, 1, 0, 0, 0, 0, []),
  (12, .iaload, 1, 0, 0, 0, 0, []),
  (13, .if_icmp .ge 51, 3, 37, 0, 0, 0, []),
  (16, .aload_n 0, 1, 0, 0, 0, 0, []),
  (17, .aload_n 0, 1, 0, 0, 0, 0, []),
  (18, .iload_n 1, 1, 0, 0, 0, 0, []),
  (19, .iload 4, 2, 0, 0, 0, 0, []),
  (21, .invokevirtual 309, 3, 237, 3, 1, 0, []),
  (24, .invokevirtual 148, 3, 169, 2, 1, 0, []),
  (27, .ifCond .eq 31, 3, 35, 0, 0, 0, []),
  (30, .aload_n 0, 1, 0, 0, 0, 0, []),
  (31, .getfield 9, 3, 11, 1, 2, 0, []),
  (34, .aload_n 0, 1, 0, 0, 0, 0, []),
  (35, .iload_n 1, 1, 0, 0, 0, 0, []),
  (36, .iload 4, 2, 0, 0, 0, 0, []),
  (38, .invokevirtual 309, 3, 237, 3, 1, 0, []),
  (41, .iaload, 1, 0, 0, 0, 0, []),
  (42, .iload_n 2, 1, 0, 0, 0, 0, []),
  (43, .if_icmp .le 15, 3, 35, 0, 0, 0, []),
  (46, .iload_n 3, 1, 0, 0, 0, 0, []),
  (47, .iconst 1, 1, 0, 0, 0, 1, []),
  (48, .aload_n 0, 1, 0, 0, 0, 0, []),
  (49, .iload_n 1, 1, 0, 0, 0, 0, []),
  (50, .iload 4, 2, 0, 0, 0, 0, []),
  (52, .invokevirtual 309, 3, 237, 3, 1, 0, []),
  (55, .ishl, 1, 0, 0, 0, 0, []),
  (56, .ior, 1, 0, 0, 0, 0, []),
  (57, .istore_n 3, 1, 0, 0, 0, 0, []),
  (58, .iinc 4 1, 3, 0, 0, 0, 1, []),
  (61, .goto (-56), 3, 4, 0, 0, 0, []),
  (64, .iload_n 3, 1, 0, 0, 0, 0, []),
  (65, .ireturn, 1, 0, 0, 0, 0, [])]
/-- yX11_couldBe -/
def mt_239 : List am_row := [
  (0, .iconst 0, 1, 0, 0, 0, 0, []),
  (1, .istore_n 3, 1, 0, 0, 0, 0, []),
  (2, .iconst 0, 1, 0, 0, 0, 0, []),
  (3, .istore 4, 2, 0, 0, 0, 0, []),
  (5, .iload 4, 2, 0, 0, 0, 0, []),
  (7, .aload_n 0, 1, 0, 0, 0, 0, []),
  (8, .getfield 118, 3, 11, 0, 0, 0, []),
  (11, .if_icmp .ge 85, 3, 49, 0, 0, 0, []),
  (14, .iload_n 1, 1, 0, 0, 0, 0, []),
  (15, .iload 4, 2, 0, 0, 0, 0, []),
  (17, .invokestatic 312, 3, 175, 2, 1, 0, []),
  (20, .ifCond .ne 6, 3, 13, 0, 0, 0, []),
  (23, .goto 67, 3, 47, 0, 0, 0, []),
  (26, .iconst 0, 1, 0, 0, 0, 0, []),
  (27, .istore 5, 2, 0, 0, 0, 0, []),
  (29, .iload 5, 2, 0, 0, 0, 0, []),
  (31, .aload_n 0, 1, 0, 0, 0, 0, []),
  (32, .getfield 126, 3, 11, 5, 0, 0, []),
  (35, .if_icmp .ge 55, 3, 47, 0, 0, 0, []),
  (38, .aload_n 0, 1, 0, 0, 0, 0, []),
  (39, .iload 5, 2, 0, 0, 0, 0, []),
  (41, .iload_n 2, 1, 0, 0, 0, 0, []),
  (42, .invokevirtual 250, 3, 206, 3, 1, 0, []),
  (45, .ifCond .ne 39, 3, 45, 0, 0, 0, []),
  (48, .aload_n 0, 1, 0, 0, 0, 0, []),
  (49, .getfield 27, 3, 11, 7, 2, 0, []),
  (52, .iload 5, 2, 0, 0, 0, 0, []),
  (54, .iaload, 1, 0, 0, 0, 0, []),
  (55, .aload_n 0, 1, 0, 0, 0, 0, []),
  (56, .getfield 15, 3, 11, 2, 2, 0, []),
  (59, .iload 4, 2, 0, 0, 0, 0, []),
  (61, .iaload, 1, 0, 0, 0, 0, []),
  (62, .if_icmp .eq 15, 3, 39, 0, 0, 0, []),
  (65, .aload_n 0, 1, 0, 0, 0, 0, []),
  (66, .getfield 106, 3, 11, 48, 2, 0, []),
  (69, .iload 4, 2, 0, 0, 0, 0, []),
  (71, .iaload, 1, 0, 0, 0, 0, []),
  (72, .iload 5, 2, 0, 0, 0, 0, []),
  (74, .if_icmp .ne 10, 3, 45, 0, 0, 0, []),
  (77, .iload_n 3, 1, 0, 0, 0, 0, []),
  (78, .iconst 1, 1, 0, 0, 0, 1, []),
  (79, .iload 5, 2, 0, 0, 0, 0, []),
  (81, .ishl, 1, 0, 0, 0, 0, []),
  (82, .ior, 1, 0, 0, 0, 0, []),
  (83, .istore_n 3, 1, 0, 0, 0, 0, []),
  (84, .iinc 5 1, 3, 0, 0, 0, 1, []),
  (87, .goto (-58), 3, 15, 0, 0, 0, []),
  (90, .iinc 4 1, 3, 0, 0, 0, 1, []),
  (93, .goto (-88), 3, 4, 0, 0, 0, []),
  (96, .iload_n 3, 1, 0, 0, 0, 0, []),
  (97, .ireturn, 1, 0, 0, 0, 0, [])]
/-- yX11_atFive -/
def mt_240 : List am_row := [
  (0, .iload_n 1, 1, 0, 0, 0, 0, []),
  (1, .invokestatic 143, 3, 174, 1, 1, 0, []),
  (4, .ifCond .eq 27, 3, 14, 0, 0, 0, []),
  (7, .iload_n 2, 1, 0, 0, 0, 0, []),
  (8, .invokestatic 136, 3, 173, 1, 1, 0, []),
  (11, .ifCond .eq 20, 3, 14, 0, 0, 0, []),
  (14, .iload_n 3, 1, 0, 0, 0, 0, []),
  (15, .invokestatic 129, 3, 171, 1, 1, 0, []),
  (18, .ifCond .eq 13, 3, 14, 0, 0, 0, []),
  (21, .iload 4, 2, 0, 0, 0, 0, []),
  (23, .iconst 0, 1, 0, 0, 0, 0, []),
  (24, .iconst 2, 1, 0, 0, 0, 2, []),
  (25, .invokestatic 122, 3, 168, 3, 1, 0, []),
  (28, .ifCond .ne 5, 3, 16, 0, 0, 0, []),
  (31, .iconst (-1), 1, 0, 0, 0, -1, []),
  (32, .ireturn, 1, 0, 0, 0, 0, []),
  (33, .aload_n 0, 1, 0, 0, 0, 0, []),
  (34, .iload_n 1, 1, 0, 0, 0, 0, []),
  (35, .invokevirtual 315, 3, 236, 2, 1, 0, []),
  (38, .istore 5, 2, 0, 0, 0, 0, []),
  (40, .iload 5, 2, 0, 0, 0, 0, []),
  (42, .ifCond .ge 6, 3, 24, 0, 0, 0, []),
  (45, .iload 5, 2, 0, 0, 0, 0, []),
  (47, .ireturn, 1, 0, 0, 0, 0, []),
  (48, .aload_n 0, 1, 0, 0, 0, 0, []),
  (49, .iload_n 3, 1, 0, 0, 0, 0, []),
  (50, .invokevirtual 275, 3, 213, 2, 0, 0, []),
  (53, .aload_n 0, 1, 0, 0, 0, 0, []),
  (54, .iload_n 1, 1, 0, 0, 0, 0, []),
  (55, .iload_n 2, 1, 0, 0, 0, 0, []),
  (56, .invokevirtual 318, 3, 238, 3, 1, 0, []),
  (59, .istore 6, 2, 0, 0, 0, 0, []),
  (61, .iload 4, 2, 0, 0, 0, 0, []),
  (63, .ifCond .ne 9, 3, 37, 0, 0, 0, []),
  (66, .iload 6, 2, 0, 0, 0, 0, []),
  (68, .invokestatic 321, 3, 273, 1, 1, 0, []),
  (71, .ireturn, 1, 0, 0, 0, 0, []),
  (72, .aload_n 0, 1, 0, 0, 0, 0, []),
  (73, .iload 6, 2, 0, 0, 0, 0, []),
  (75, .iload_n 2, 1, 0, 0, 0, 0, []),
  (76, .invokevirtual 326, 3, 239, 3, 1, 0, []),
  (79, .istore 7, 2, 0, 0, 0, 0, []),
  (81, .iload 4, 2, 0, 0, 0, 0, []),
  (83, .iconst 1, 1, 0, 0, 0, 1, []),
  (84, .if_icmp .ne 6, 3, 47, 0, 0, 0, []),
  (87, .iload 7, 2, 0, 0, 0, 0, []),
  (89, .ireturn, 1, 0, 0, 0, 0, []),
  (90, .iload 7, 2, 0, 0, 0, 0, []),
  (92, .invokestatic 321, 3, 273, 1, 1, 0, []),
  (95, .iconst 1, 1, 0, 0, 0, 1, []),
  (96, .if_icmp .ne 11, 3, 54, 0, 0, 0, []),
  (99, .iload 7, 2, 0, 0, 0, 0, []),
  (101, .invokestatic 329, 3, 272, 1, 1, 0, []),
  (104, .goto 5, 3, 55, 0, 0, 0, []),
  (107, .bipush (-2), 2, 0, 0, 0, -2, []),
  (109, .ireturn, 1, 0, 0, 0, 0, [])]
/-- yX11_guard -/
def mt_241 : List am_row := [
  (0, .iload_n 1, 1, 0, 0, 0, 0, []),
  (1, .invokestatic 143, 3, 174, 1, 1, 0, []),
  (4, .ifCond .eq 27, 3, 14, 0, 0, 0, []),
  (7, .iload_n 2, 1, 0, 0, 0, 0, []),
  (8, .invokestatic 136, 3, 173, 1, 1, 0, []),
  (11, .ifCond .eq 20, 3, 14, 0, 0, 0, []),
  (14, .iload_n 3, 1, 0, 0, 0, 0, []),
  (15, .invokestatic 129, 3, 171, 1, 1, 0, []),
  (18, .ifCond .eq 13, 3, 14, 0, 0, 0, []),
  (21, .iload 4, 2, 0, 0, 0, 0, []),
  (23, .iconst 0, 1, 0, 0, 0, 0, []),
  (24, .iconst 1, 1, 0, 0, 0, 1, []),
  (25, .invokestatic 122, 3, 168, 3, 1, 0, []),
  (28, .ifCond .ne 5, 3, 16, 0, 0, 0, []),
  (31, .iconst (-1), 1, 0, 0, 0, -1, []),
  (32, .ireturn, 1, 0, 0, 0, 0, []),
  (33, .aload_n 0, 1, 0, 0, 0, 0, []),
  (34, .iload_n 1, 1, 0, 0, 0, 0, []),
  (35, .invokevirtual 315, 3, 236, 2, 1, 0, []),
  (38, .istore 5, 2, 0, 0, 0, 0, []),
  (40, .iload 5, 2, 0, 0, 0, 0, []),
  (42, .ifCond .ge 6, 3, 24, 0, 0, 0, []),
  (45, .iload 5, 2, 0, 0, 0, 0, []),
  (47, .ireturn, 1, 0, 0, 0, 0, []),
  (48, .aload_n 0, 1, 0, 0, 0, 0, []),
  (49, .iload_n 3, 1, 0, 0, 0, 0, []),
  (50, .invokevirtual 275, 3, 213, 2, 0, 0, []),
  (53, .aload_n 0, 1, 0, 0, 0, 0, []),
  (54, .aload_n 0, 1, 0, 0, 0, 0, []),
  (55, .iload_n 1, 1, 0, 0, 0, 0, []),
  (56, .iload_n 2, 1, 0, 0, 0, 0, []),
  (57, .invokevirtual 318, 3, 238, 3, 1, 0, []),
  (60, .iload_n 2, 1, 0, 0, 0, 0, []),
  (61, .invokevirtual 326, 3, 239, 3, 1, 0, []),
  (64, .istore 6, 2, 0, 0, 0, 0, []),
  (66, .bipush (-2), 2, 0, 0, 0, -2, []),
  (68, .istore 7, 2, 0, 0, 0, 0, []),
  (70, .bipush (-2), 2, 0, 0, 0, -2, []),
  (72, .istore 8, 2, 0, 0, 0, 0, []),
  (74, .iconst 0, 1, 0, 0, 0, 0, []),
  (75, .istore 9, 2, 0, 0, 0, 0, []),
  (77, .iload 9, 2, 0, 0, 0, 0, []),
  (79, .aload_n 0, 1, 0, 0, 0, 0, []),
  (80, .getfield 126, 3, 11, 5, 0, 0, []),
  (83, .if_icmp .ge 48, 3, 67, 0, 0, 0, []),
  (86, .iload 6, 2, 0, 0, 0, 0, []),
  (88, .iconst 1, 1, 0, 0, 0, 1, []),
  (89, .iload 9, 2, 0, 0, 0, 0, []),
  (91, .ishl, 1, 0, 0, 0, 0, []),
  (92, .iconst (-1), 1, 0, 0, 0, -1, []),
  (93, .ixor, 1, 0, 0, 0, 0, []),
  (94, .iand, 1, 0, 0, 0, 0, []),
  (95, .invokestatic 321, 3, 273, 1, 1, 0, []),
  (98, .istore 10, 2, 0, 0, 0, 0, []),
  (100, .iload 7, 2, 0, 0, 0, 0, []),
  (102, .bipush (-2), 2, 0, 0, 0, -2, []),
  (104, .if_icmp .eq 13, 3, 61, 0, 0, 0, []),
  (107, .iload 10, 2, 0, 0, 0, 0, []),
  (109, .iload 8, 2, 0, 0, 0, 0, []),
  (111, .if_icmp .lt 6, 3, 61, 0, 0, 0, []),
  (114, .goto 11, 3, 65, 0, 0, 0, []),
  (117, .iload 10, 2, 0, 0, 0, 0, []),
  (119, .istore 8, 2, 0, 0, 0, 0, []),
  (121, .iload 9, 2, 0, 0, 0, 0, []),
  (123, .istore 7, 2, 0, 0, 0, 0, []),
  (125, .iinc 9 1, 3, 0, 0, 0, 1, []),
  (128, .goto (-51), 3, 41, 0, 0, 0, []),
  (131, .iload 4, 2, 0, 0, 0, 0, []),
  (133, .ifCond .ne 8, 3, 71, 0, 0, 0, []),
  (136, .iload 7, 2, 0, 0, 0, 0, []),
  (138, .goto 5, 3, 72, 0, 0, 0, []),
  (141, .iload 8, 2, 0, 0, 0, 0, []),
  (143, .ireturn, 1, 0, 0, 0, 0, [])]
/-- yX11_wrong -/
def mt_242 : List am_row := [
  (0, .aload_n 0, 1, 0, 0, 0, 0, []),
  (1, .iload_n 2, 1, 0, 0, 0, 0, []),
  (2, .invokevirtual 275, 3, 213, 2, 0, 0, []),
  (5, .iconst 0, 1, 0, 0, 0, 0, []),
  (6, .istore_n 3, 1, 0, 0, 0, 0, []),
  (7, .iload_n 3, 1, 0, 0, 0, 0, []),
  (8, .aload_n 0, 1, 0, 0, 0, 0, []),
  (9, .getfield 96, 3, 11, 45, 2, 0, []),
  (12, .iload_n 1, 1, 0, 0, 0, 0, []),
  (13, .iaload, 1, 0, 0, 0, 0, []),
  (14, .if_icmp .ge 59, 3, 43, 0, 0, 0, []),
  (17, .aload_n 0, 1, 0, 0, 0, 0, []),
  (18, .iload_n 3, 1, 0, 0, 0, 0, []),
  (19, .invokevirtual 148, 3, 169, 2, 1, 0, []),
  (22, .ifCond .ne 5, 3, 17, 0, 0, 0, []),
  (25, .iload_n 3, 1, 0, 0, 0, 0, []),
  (26, .ireturn, 1, 0, 0, 0, 0, []),
  (27, .aload_n 0, 1, 0, 0, 0, 0, []),
  (28, .iload_n 1, 1, 0, 0, 0, 0, []),
  (29, .iload_n 3, 1, 0, 0, 0, 0, []),
  (30, .invokevirtual 309, 3, 237, 3, 1, 0, []),
  (33, .iconst (-1), 1, 0, 0, 0, -1, []),
  (34, .if_icmp .eq 33, 3, 41, 0, 0, 0, []),
  (37, .aload_n 0, 1, 0, 0, 0, 0, []),
  (38, .aload_n 0, 1, 0, 0, 0, 0, []),
  (39, .iload_n 1, 1, 0, 0, 0, 0, []),
  (40, .iload_n 3, 1, 0, 0, 0, 0, []),
  (41, .invokevirtual 309, 3, 237, 3, 1, 0, []),
  (44, .invokevirtual 133, 3, 170, 2, 1, 0, []),
  (47, .ifCond .eq 18, 3, 39, 0, 0, 0, []),
  (50, .aload_n 0, 1, 0, 0, 0, 0, []),
  (51, .iload_n 1, 1, 0, 0, 0, 0, []),
  (52, .iload_n 3, 1, 0, 0, 0, 0, []),
  (53, .invokevirtual 309, 3, 237, 3, 1, 0, []),
  (56, .aload_n 0, 1, 0, 0, 0, 0, []),
  (57, .getfield 106, 3, 11, 48, 2, 0, []),
  (60, .iload_n 3, 1, 0, 0, 0, 0, []),
  (61, .iaload, 1, 0, 0, 0, 0, []),
  (62, .if_icmp .eq 5, 3, 41, 0, 0, 0, []),
  (65, .iload_n 3, 1, 0, 0, 0, 0, []),
  (66, .ireturn, 1, 0, 0, 0, 0, []),
  (67, .iinc 3 1, 3, 0, 0, 0, 1, []),
  (70, .goto (-63), 3, 5, 0, 0, 0, []),
  (73, .bipush (-2), 2, 0, 0, 0, -2, []),
  (75, .ireturn, 1, 0, 0, 0, 0, [])]
/-- yX11_judge -/
def mt_243 : List am_row := [
  (0, .iload_n 1, 1, 0, 0, 0, 0, []),
  (1, .invokestatic 143, 3, 174, 1, 1, 0, []),
  (4, .ifCond .eq 10, 3, 6, 0, 0, 0, []),
  (7, .iload_n 2, 1, 0, 0, 0, 0, []),
  (8, .invokestatic 129, 3, 171, 1, 1, 0, []),
  (11, .ifCond .ne 5, 3, 8, 0, 0, 0, []),
  (14, .iconst (-1), 1, 0, 0, 0, -1, []),
  (15, .ireturn, 1, 0, 0, 0, 0, []),
  (16, .aload_n 0, 1, 0, 0, 0, 0, []),
  (17, .iload_n 1, 1, 0, 0, 0, 0, []),
  (18, .invokevirtual 315, 3, 236, 2, 1, 0, []),
  (21, .istore_n 3, 1, 0, 0, 0, 0, []),
  (22, .iload_n 3, 1, 0, 0, 0, 0, []),
  (23, .ifCond .ge 7, 3, 16, 0, 0, 0, []),
  (26, .iload_n 3, 1, 0, 0, 0, 0, []),
  (27, .goto 9, 3, 20, 0, 0, 0, []),
  (30, .aload_n 0, 1, 0, 0, 0, 0, []),
  (31, .iload_n 1, 1, 0, 0, 0, 0, []),
  (32, .iload_n 2, 1, 0, 0, 0, 0, []),
  (33, .invokevirtual 332, 3, 242, 3, 1, 0, []),
  (36, .ireturn, 1, 0, 0, 0, 0, [])]
/-- yX11_byWhat -/
def mt_244 : List am_row := [
  (0, .iload_n 1, 1, 0, 0, 0, 0, []),
  (1, .invokestatic 143, 3, 174, 1, 1, 0, []),
  (4, .ifCond .ne 5, 3, 5, 0, 0, 0, []),
  (7, .iconst (-1), 1, 0, 0, 0, -1, []),
  (8, .ireturn, 1, 0, 0, 0, 0, []),
  (9, .aload_n 0, 1, 0, 0, 0, 0, []),
  (10, .iload_n 1, 1, 0, 0, 0, 0, []),
  (11, .invokevirtual 315, 3, 236, 2, 1, 0, []),
  (14, .istore_n 2, 1, 0, 0, 0, 0, []),
  (15, .iload_n 2, 1, 0, 0, 0, 0, []),
  (16, .ifCond .ge 5, 3, 13, 0, 0, 0, []),
  (19, .iload_n 2, 1, 0, 0, 0, 0, []),
  (20, .ireturn, 1, 0, 0, 0, 0, []),
  (21, .iconst 0, 1, 0, 0, 0, 0, []),
  (22, .istore_n 3, 1, 0, 0, 0, 0, []),
  (23, .iconst 0, 1, 0, 0, 0, 0, []),
  (24, .istore 4, 2, 0, 0, 0, 0, []),
  (26, .iload 4, 2, 0, 0, 0, 0, []),
  (28, .iconst 5, 1, 0, 0, 0, 5, []),
  (29, .if_icmp .ge 28, 3, 34, 0, 0, 0, []),
  (32, .aload_n 0, 1, 0, 0, 0, 0, []),
  (33, .iload_n 1, 1, 0, 0, 0, 0, []),
  (34, .iload 4, 2, 0, 0, 0, 0, []),
  (36, .invokevirtual 332, 3, 242, 3, 1, 0, []),
  (39, .bipush (-2), 2, 0, 0, 0, -2, []),
  (41, .if_icmp .ne 10, 3, 32, 0, 0, 0, []),
  (44, .iload_n 3, 1, 0, 0, 0, 0, []),
  (45, .iconst 1, 1, 0, 0, 0, 1, []),
  (46, .iload 4, 2, 0, 0, 0, 0, []),
  (48, .ishl, 1, 0, 0, 0, 0, []),
  (49, .ior, 1, 0, 0, 0, 0, []),
  (50, .istore_n 3, 1, 0, 0, 0, 0, []),
  (51, .iinc 4 1, 3, 0, 0, 0, 1, []),
  (54, .goto (-28), 3, 17, 0, 0, 0, []),
  (57, .iload_n 3, 1, 0, 0, 0, 0, []),
  (58, .ireturn, 1, 0, 0, 0, 0, [])]
/-- yX11_second -/
def mt_245 : List am_row := [
  (0, .iload_n 1, 1, 0, 0, 0, 0, []),
  (1, .invokestatic 129, 3, 171, 1, 1, 0, []),
  (4, .ifCond .eq 13, 3, 8, 0, 0, 0, []),
  (7, .iload_n 2, 1, 0, 0, 0, 0, []),
  (8, .iconst 1, 1, 0, 0, 0, 1, []),
  (9, .bipush 9, 2, 0, 0, 0, 9, []),
  (11, .invokestatic 122, 3, 168, 3, 1, 0, []),
  (14, .ifCond .ne 5, 3, 10, 0, 0, 0, []),
  (17, .iconst (-1), 1, 0, 0, 0, -1, []),
  (18, .ireturn, 1, 0, 0, 0, 0, []),
  (19, .aload_n 0, 1, 0, 0, 0, 0, []),
  (20, .iload_n 1, 1, 0, 0, 0, 0, []),
  (21, .invokevirtual 275, 3, 213, 2, 0, 0, []),
  (24, .iconst 0, 1, 0, 0, 0, 0, []),
  (25, .istore_n 3, 1, 0, 0, 0, 0, []),
  (26, .iload_n 3, 1, 0, 0, 0, 0, []),
  (27, .aload_n 0, 1, 0, 0, 0, 0, []),
  (28, .getfield 118, 3, 11, 0, 0, 0, []),
  (31, .if_icmp .ge 55, 3, 51, 0, 0, 0, []),
  (34, .aload_n 0, 1, 0, 0, 0, 0, []),
  (35, .getfield 9, 3, 11, 1, 2, 0, []),
  (38, .aload_n 0, 1, 0, 0, 0, 0, []),
  (39, .getfield 118, 3, 11, 0, 0, 0, []),
  (42, .iload_n 3, 1, 0, 0, 0, 0, []),
  (43, .iadd, 1, 0, 0, 0, 0, []),
  (44, .aload_n 0, 1, 0, 0, 0, 0, []),
  (45, .getfield 9, 3, 11, 1, 2, 0, []),
  (48, .iload_n 3, 1, 0, 0, 0, 0, []),
  (49, .iaload, 1, 0, 0, 0, 0, []),
  (50, .iastore, 1, 0, 0, 0, 0, []),
  (51, .aload_n 0, 1, 0, 0, 0, 0, []),
  (52, .getfield 15, 3, 11, 2, 2, 0, []),
  (55, .aload_n 0, 1, 0, 0, 0, 0, []),
  (56, .getfield 118, 3, 11, 0, 0, 0, []),
  (59, .iload_n 3, 1, 0, 0, 0, 0, []),
  (60, .iadd, 1, 0, 0, 0, 0, []),
  (61, .aload_n 0, 1, 0, 0, 0, 0, []),
  (62, .getfield 15, 3, 11, 2, 2, 0, []),
  (65, .iload_n 3, 1, 0, 0, 0, 0, []),
  (66, .iaload, 1, 0, 0, 0, 0, []),
  (67, .iastore, 1, 0, 0, 0, 0, []),
  (68, .aload_n 0, 1, 0, 0, 0, 0, []),
  (69, .getfield 18, 3, 11, 3, 2, 0, []),
  (72, .aload_n 0, 1, 0, 0, 0, 0, []),
  (73, .getfield 118, 3, 11, 0, 0, 0, []),
  (76, .iload_n 3, 1, 0, 0, 0, 0, []),
  (77, .iadd, 1, 0, 0, 0, 0, []),
  (78, .iload_n 2, 1, 0, 0, 0, 0, []),
  (79, .iastore, 1, 0, 0, 0, 0, []),
  (80, .iinc 3 1, 3, 0, 0, 0, 1, []),
  (83, .goto (-57), 3, 15, 0, 0, 0, []),
  (86, .aload_n 0, 1, 0, 0, 0, 0, []),
  (87, .iload_n 1, 1, 0, 0, 0, 0, []),
  (88, .aload_n 0, 1, 0, 0, 0, 0, []),
  (89, .getfield 118, 3, 11, 0, 0, 0, []),
  (92, .iconst 2, 1, 0, 0, 0, 2, []),
  (93, .aload_n 0, 1, 0, 0, 0, 0, []),
  (94, .getfield 118, 3, 11, 0, 0, 0, []),
  (97, .imul, 1, 0, 0, 0, 0, []),
  (98, .invokevirtual 269, 3, 212, 4, 0, 0, []),
  (101, .aload_n 0, 1, 0, 0, 0, 0, []),
  (102, .invokevirtual 282, 3, 215, 1, 1, 0, []),
  (105, .ireturn, 1, 0, 0, 0, 0, [])]
/-- yX11_pairs -/
def mt_246 : List am_row := [
  (0, .iload_n 1, 1, 0, 0, 0, 0, []),
  (1, .invokestatic 129, 3, 171, 1, 1, 0, []),
  (4, .ifCond .eq 12, 3, 8, 0, 0, 0, []),
  (7, .iload_n 2, 1, 0, 0, 0, 0, []),
  (8, .iconst 0, 1, 0, 0, 0, 0, []),
  (9, .iconst 1, 1, 0, 0, 0, 1, []),
  (10, .invokestatic 122, 3, 168, 3, 1, 0, []),
  (13, .ifCond .ne 5, 3, 10, 0, 0, 0, []),
  (16, .iconst (-1), 1, 0, 0, 0, -1, []),
  (17, .ireturn, 1, 0, 0, 0, 0, []),
  (18, .aload_n 0, 1, 0, 0, 0, 0, []),
  (19, .iload_n 1, 1, 0, 0, 0, 0, []),
  (20, .invokevirtual 275, 3, 213, 2, 0, 0, []),
  (23, .bipush (-2), 2, 0, 0, 0, -2, []),
  (25, .istore_n 3, 1, 0, 0, 0, 0, []),
  (26, .iconst 0, 1, 0, 0, 0, 0, []),
  (27, .istore 4, 2, 0, 0, 0, 0, []),
  (29, .iconst 0, 1, 0, 0, 0, 0, []),
  (30, .istore 5, 2, 0, 0, 0, 0, []),
  (32, .iload 5, 2, 0, 0, 0, 0, []),
  (34, .aload_n 0, 1, 0, 0, 0, 0, []),
  (35, .getfield 126, 3, 11, 5, 0, 0, []),
  (38, .if_icmp .ge 90, 3, 67, 0, 0, 0, []),
  (41, .iload 5, 2, 0, 0, 0, 0, []),
  (43, .iconst 1, 1, 0, 0, 0, 1, []),
  (44, .iadd, 1, 0, 0, 0, 0, []),
  (45, .istore 6, 2, 0, 0, 0, 0, []),
  (47, .iload 6, 2, 0, 0, 0, 0, []),
  (49, .aload_n 0, 1, 0, 0, 0, 0, []),
  (50, .getfield 126, 3, 11, 5, 0, 0, []),
  (53, .if_icmp .ge 69, 3, 65, 0, 0, 0, []),
  (56, .aload_n 0, 1, 0, 0, 0, 0, []),
  (57, .iload 5, 2, 0, 0, 0, 0, []),
  (59, .iload 6, 2, 0, 0, 0, 0, []),
  (61, .invokevirtual 272, 3, 217, 3, 1, 0, []),
  (64, .aload_n 0, 1, 0, 0, 0, 0, []),
  (65, .iload 6, 2, 0, 0, 0, 0, []),
  (67, .iload 5, 2, 0, 0, 0, 0, []),
  (69, .invokevirtual 272, 3, 217, 3, 1, 0, []),
  (72, .iadd, 1, 0, 0, 0, 0, []),
  (73, .aload_n 0, 1, 0, 0, 0, 0, []),
  (74, .iload 5, 2, 0, 0, 0, 0, []),
  (76, .iload 5, 2, 0, 0, 0, 0, []),
  (78, .invokevirtual 272, 3, 217, 3, 1, 0, []),
  (81, .isub, 1, 0, 0, 0, 0, []),
  (82, .aload_n 0, 1, 0, 0, 0, 0, []),
  (83, .iload 6, 2, 0, 0, 0, 0, []),
  (85, .iload 6, 2, 0, 0, 0, 0, []),
  (87, .invokevirtual 272, 3, 217, 3, 1, 0, []),
  (90, .isub, 1, 0, 0, 0, 0, []),
  (91, .istore 7, 2, 0, 0, 0, 0, []),
  (93, .iload 7, 2, 0, 0, 0, 0, []),
  (95, .iload 4, 2, 0, 0, 0, 0, []),
  (97, .if_icmp .gt 6, 3, 55, 0, 0, 0, []),
  (100, .goto 16, 3, 63, 0, 0, 0, []),
  (103, .iload 7, 2, 0, 0, 0, 0, []),
  (105, .istore 4, 2, 0, 0, 0, 0, []),
  (107, .bipush 10, 2, 0, 0, 0, 10, []),
  (109, .iload 5, 2, 0, 0, 0, 0, []),
  (111, .imul, 1, 0, 0, 0, 0, []),
  (112, .iload 6, 2, 0, 0, 0, 0, []),
  (114, .iadd, 1, 0, 0, 0, 0, []),
  (115, .istore_n 3, 1, 0, 0, 0, 0, []),
  (116, .iinc 6 1, 3, 0, 0, 0, 1, []),
  (119, .goto (-72), 3, 27, 0, 0, 0, []),
  (122, .iinc 5 1, 3, 0, 0, 0, 1, []),
  (125, .goto (-93), 3, 19, 0, 0, 0, []),
  (128, .iload_n 2, 1, 0, 0, 0, 0, []),
  (129, .ifCond .ne 7, 3, 71, 0, 0, 0, []),
  (132, .iload_n 3, 1, 0, 0, 0, 0, []),
  (133, .goto 5, 3, 72, 0, 0, 0, []),
  (136, .iload 4, 2, 0, 0, 0, 0, []),
  (138, .ireturn, 1, 0, 0, 0, 0, [])]
/-- yX11_drawn -/
def mt_247 : List am_row := [
  (0, .iload_n 2, 1, 0, 0, 0, 0, []),
  (1, .iconst 1, 1, 0, 0, 0, 1, []),
  (2, .bipush 50, 2, 0, 0, 0, 50, []),
  (4, .invokestatic 122, 3, 168, 3, 1, 0, []),
  (7, .ifCond .eq 16, 3, 12, 0, 0, 0, []),
  (10, .iload_n 3, 1, 0, 0, 0, 0, []),
  (11, .iconst (-1), 1, 0, 0, 0, -1, []),
  (12, .if_icmp .eq 13, 3, 14, 0, 0, 0, []),
  (15, .aload_n 0, 1, 0, 0, 0, 0, []),
  (16, .iload_n 3, 1, 0, 0, 0, 0, []),
  (17, .invokevirtual 133, 3, 170, 2, 1, 0, []),
  (20, .ifCond .ne 5, 3, 14, 0, 0, 0, []),
  (23, .iconst (-1), 1, 0, 0, 0, -1, []),
  (24, .ireturn, 1, 0, 0, 0, 0, []),
  (25, .aload_n 0, 1, 0, 0, 0, 0, []),
  (26, .iconst 0, 1, 0, 0, 0, 0, []),
  (27, .aload_n 0, 1, 0, 0, 0, 0, []),
  (28, .getfield 118, 3, 11, 0, 0, 0, []),
  (31, .invokevirtual 259, 3, 209, 3, 0, 0, []),
  (34, .iload_n 1, 1, 0, 0, 0, 0, []),
  (35, .istore 4, 2, 0, 0, 0, 0, []),
  (37, .iconst 0, 1, 0, 0, 0, 0, []),
  (38, .istore 5, 2, 0, 0, 0, 0, []),
  (40, .iconst 0, 1, 0, 0, 0, 0, []),
  (41, .istore 6, 2, 0, 0, 0, 0, []),
  (43, .iconst 0, 1, 0, 0, 0, 0, []),
  (44, .istore 7, 2, 0, 0, 0, 0, []),
  (46, .iload 7, 2, 0, 0, 0, 0, []),
  (48, .iload_n 2, 1, 0, 0, 0, 0, []),
  (49, .if_icmp .ge 148, 3, 102, 0, 0, 0, []),
  (52, .aload_n 0, 1, 0, 0, 0, 0, []),
  (53, .getfield 126, 3, 11, 5, 0, 0, []),
  (56, .ifCond .le 141, 3, 102, 0, 0, 0, []),
  (59, .iconst 0, 1, 0, 0, 0, 0, []),
  (60, .istore 8, 2, 0, 0, 0, 0, []),
  (62, .iload 8, 2, 0, 0, 0, 0, []),
  (64, .aload_n 0, 1, 0, 0, 0, 0, []),
  (65, .getfield 118, 3, 11, 0, 0, 0, []),
  (68, .if_icmp .ge 43, 3, 60, 0, 0, 0, []),
  (71, .iload 4, 2, 0, 0, 0, 0, []),
  (73, .ldc_w 335, 3, 0, 0, 0, 1103515245, []),
  (76, .imul, 1, 0, 0, 0, 0, []),
  (77, .sipush 12345, 3, 0, 0, 0, 12345, []),
  (80, .iadd, 1, 0, 0, 0, 0, []),
  (81, .istore 4, 2, 0, 0, 0, 0, []),
  (83, .aload_n 0, 1, 0, 0, 0, 0, []),
  (84, .getfield 106, 3, 11, 48, 2, 0, []),
  (87, .aload_n 0, 1, 0, 0, 0, 0, []),
  (88, .getfield 103, 3, 11, 47, 2, 0, []),
  (91, .iload 8, 2, 0, 0, 0, 0, []),
  (93, .iaload, 1, 0, 0, 0, 0, []),
  (94, .iload 4, 2, 0, 0, 0, 0, []),
  (96, .bipush 8, 2, 0, 0, 0, 8, []),
  (98, .iushr, 1, 0, 0, 0, 0, []),
  (99, .aload_n 0, 1, 0, 0, 0, 0, []),
  (100, .getfield 126, 3, 11, 5, 0, 0, []),
  (103, .irem, 1, 0, 0, 0, 0, []),
  (104, .iastore, 1, 0, 0, 0, 0, []),
  (105, .iinc 8 1, 3, 0, 0, 0, 1, []),
  (108, .goto (-46), 3, 35, 0, 0, 0, []),
  (111, .aload_n 0, 1, 0, 0, 0, 0, []),
  (112, .invokevirtual 294, 3, 214, 1, 0, 0, []),
  (115, .iload 5, 2, 0, 0, 0, 0, []),
  (117, .aload_n 0, 1, 0, 0, 0, 0, []),
  (118, .invokevirtual 282, 3, 215, 1, 1, 0, []),
  (121, .iadd, 1, 0, 0, 0, 0, []),
  (122, .istore 5, 2, 0, 0, 0, 0, []),
  (124, .iload_n 3, 1, 0, 0, 0, 0, []),
  (125, .ifCond .lt 7, 3, 71, 0, 0, 0, []),
  (128, .iconst 1, 1, 0, 0, 0, 1, []),
  (129, .goto 4, 3, 72, 0, 0, 0, []),
  (132, .iconst 0, 1, 0, 0, 0, 0, []),
  (133, .istore 8, 2, 0, 0, 0, 0, []),
  (135, .iconst 0, 1, 0, 0, 0, 0, []),
  (136, .istore 9, 2, 0, 0, 0, 0, []),
  (138, .iload 9, 2, 0, 0, 0, 0, []),
  (140, .aload_n 0, 1, 0, 0, 0, 0, []),
  (141, .getfield 126, 3, 11, 5, 0, 0, []),
  (144, .if_icmp .ge 39, 3, 97, 0, 0, 0, []),
  (147, .iload 9, 2, 0, 0, 0, 0, []),
  (149, .iload_n 3, 1, 0, 0, 0, 0, []),
  (150, .if_icmp .eq 27, 3, 95, 0, 0, 0, []),
  (153, .iload 8, 2, 0, 0, 0, 0, []),
  (155, .ifCond .eq 22, 3, 95, 0, 0, 0, []),
  (158, .aload_n 0, 1, 0, 0, 0, 0, []),
  (159, .getfield 109, 3, 11, 49, 2, 0, []),
  (162, .iload 9, 2, 0, 0, 0, 0, []),
  (164, .iaload, 1, 0, 0, 0, 0, []),
  (165, .aload_n 0, 1, 0, 0, 0, 0, []),
  (166, .getfield 109, 3, 11, 49, 2, 0, []),
  (169, .iload_n 3, 1, 0, 0, 0, 0, []),
  (170, .iaload, 1, 0, 0, 0, 0, []),
  (171, .if_icmp .lt 6, 3, 95, 0, 0, 0, []),
  (174, .iconst 0, 1, 0, 0, 0, 0, []),
  (175, .istore 8, 2, 0, 0, 0, 0, []),
  (177, .iinc 9 1, 3, 0, 0, 0, 1, []),
  (180, .goto (-42), 3, 75, 0, 0, 0, []),
  (183, .iload 8, 2, 0, 0, 0, 0, []),
  (185, .ifCond .eq 6, 3, 100, 0, 0, 0, []),
  (188, .iinc 6 1, 3, 0, 0, 0, 1, []),
  (191, .iinc 7 1, 3, 0, 0, 0, 1, []),
  (194, .goto (-148), 3, 27, 0, 0, 0, []),
  (197, .iload_n 3, 1, 0, 0, 0, 0, []),
  (198, .ifCond .ge 8, 3, 106, 0, 0, 0, []),
  (201, .iload 5, 2, 0, 0, 0, 0, []),
  (203, .goto 5, 3, 107, 0, 0, 0, []),
  (206, .iload 6, 2, 0, 0, 0, 0, []),
  (208, .ireturn, 1, 0, 0, 0, 0, [])]
/-- yX11_day -/
def mt_248 : List am_row := [
  (0, .aload_n 0, 1, 0, 0, 0, 0, []),
  (1, .getfield 336, 3, 11, 12, 0, 0, []),
  (4, .bipush 24, 2, 0, 0, 0, 24, []),
  (6, .if_icmp .ne 6, 3, 6, 0, 0, 0, []),
  (9, .bipush (-5), 2, 0, 0, 0, -5, []),
  (11, .ireturn, 1, 0, 0, 0, 0, []),
  (12, .aload_n 0, 1, 0, 0, 0, 0, []),
  (13, .dup, 1, 0, 0, 0, 0, []),
  (14, .getfield 336, 3, 11, 12, 0, 0, []),
  (17, .iconst 1, 1, 0, 0, 0, 1, []),
  (18, .iadd, 1, 0, 0, 0, 0, []),
  (19, .dup_x1, 1, 0, 0, 0, 0, []),
  (20, .putfield 336, 3, 11, 12, 0, 0, []),
  (23, .ireturn, 1, 0, 0, 0, 0, [])]
/-- yX11_open -/
def mt_249 : List am_row := [
  (0, .aload_n 0, 1, 0, 0, 0, 0, []),
  (1, .iload_n 1, 1, 0, 0, 0, 0, []),
  (2, .invokevirtual 133, 3, 170, 2, 1, 0, []),
  (5, .ifCond .eq 11, 3, 8, 0, 0, 0, []),
  (8, .aload_n 0, 1, 0, 0, 0, 0, []),
  (9, .iload_n 2, 1, 0, 0, 0, 0, []),
  (10, .invokevirtual 148, 3, 169, 2, 1, 0, []),
  (13, .ifCond .ne 5, 3, 10, 0, 0, 0, []),
  (16, .iconst (-1), 1, 0, 0, 0, -1, []),
  (17, .ireturn, 1, 0, 0, 0, 0, []),
  (18, .aload_n 0, 1, 0, 0, 0, 0, []),
  (19, .getfield 21, 3, 11, 4, 2, 0, []),
  (22, .iload_n 2, 1, 0, 0, 0, 0, []),
  (23, .iaload, 1, 0, 0, 0, 0, []),
  (24, .bipush (-2), 2, 0, 0, 0, -2, []),
  (26, .if_icmp .eq 6, 3, 18, 0, 0, 0, []),
  (29, .bipush (-5), 2, 0, 0, 0, -5, []),
  (31, .ireturn, 1, 0, 0, 0, 0, []),
  (32, .aload_n 0, 1, 0, 0, 0, 0, []),
  (33, .iload_n 1, 1, 0, 0, 0, 0, []),
  (34, .iload_n 2, 1, 0, 0, 0, 0, []),
  (35, .iconst 0, 1, 0, 0, 0, 0, []),
  (36, .aload_n 0, 1, 0, 0, 0, 0, []),
  (37, .getfield 336, 3, 11, 12, 0, 0, []),
  (40, .aload_n 0, 1, 0, 0, 0, 0, []),
  (41, .getfield 9, 3, 11, 1, 2, 0, []),
  (44, .iload_n 2, 1, 0, 0, 0, 0, []),
  (45, .iaload, 1, 0, 0, 0, 0, []),
  (46, .isub, 1, 0, 0, 0, 0, []),
  (47, .invokestatic 236, 3, 1000, 2, 1, 0, []),
  (50, .invokevirtual 247, 3, 204, 4, 1, 0, []),
  (53, .istore_n 3, 1, 0, 0, 0, 0, []),
  (54, .aload_n 0, 1, 0, 0, 0, 0, []),
  (55, .getfield 21, 3, 11, 4, 2, 0, []),
  (58, .iload_n 2, 1, 0, 0, 0, 0, []),
  (59, .iload_n 1, 1, 0, 0, 0, 0, []),
  (60, .iastore, 1, 0, 0, 0, 0, []),
  (61, .aload_n 0, 1, 0, 0, 0, 0, []),
  (62, .getfield 75, 3, 11, 31, 2, 0, []),
  (65, .iconst 0, 1, 0, 0, 0, 0, []),
  (66, .dup2, 1, 0, 0, 0, 0, []),
  (67, .iaload, 1, 0, 0, 0, 0, []),
  (68, .iconst 1, 1, 0, 0, 0, 1, []),
  (69, .iadd, 1, 0, 0, 0, 0, []),
  (70, .iastore, 1, 0, 0, 0, 0, []),
  (71, .aload_n 0, 1, 0, 0, 0, 0, []),
  (72, .getfield 9, 3, 11, 1, 2, 0, []),
  (75, .iload_n 2, 1, 0, 0, 0, 0, []),
  (76, .iaload, 1, 0, 0, 0, 0, []),
  (77, .aload_n 0, 1, 0, 0, 0, 0, []),
  (78, .getfield 336, 3, 11, 12, 0, 0, []),
  (81, .if_icmp .le 13, 3, 60, 0, 0, 0, []),
  (84, .aload_n 0, 1, 0, 0, 0, 0, []),
  (85, .getfield 75, 3, 11, 31, 2, 0, []),
  (88, .iconst 1, 1, 0, 0, 0, 1, []),
  (89, .dup2, 1, 0, 0, 0, 0, []),
  (90, .iaload, 1, 0, 0, 0, 0, []),
  (91, .iconst 1, 1, 0, 0, 0, 1, []),
  (92, .iadd, 1, 0, 0, 0, 0, []),
  (93, .iastore, 1, 0, 0, 0, 0, []),
  (94, .aload_n 0, 1, 0, 0, 0, 0, []),
  (95, .getfield 75, 3, 11, 31, 2, 0, []),
  (98, .iconst 2, 1, 0, 0, 0, 2, []),
  (99, .dup2, 1, 0, 0, 0, 0, []),
  (100, .iaload, 1, 0, 0, 0, 0, []),
  (101, .iload_n 3, 1, 0, 0, 0, 0, []),
  (102, .iadd, 1, 0, 0, 0, 0, []),
  (103, .iastore, 1, 0, 0, 0, 0, []),
  (104, .iload_n 3, 1, 0, 0, 0, 0, []),
  (105, .ireturn, 1, 0, 0, 0, 0, [])]
/-- yX11_forgotten -/
def mt_250 : List am_row := [
  (0, .iconst 0, 1, 0, 0, 0, 0, []),
  (1, .istore_n 1, 1, 0, 0, 0, 0, []),
  (2, .iconst 0, 1, 0, 0, 0, 0, []),
  (3, .istore_n 2, 1, 0, 0, 0, 0, []),
  (4, .iload_n 2, 1, 0, 0, 0, 0, []),
  (5, .aload_n 0, 1, 0, 0, 0, 0, []),
  (6, .getfield 118, 3, 11, 0, 0, 0, []),
  (9, .if_icmp .ge 39, 3, 29, 0, 0, 0, []),
  (12, .aload_n 0, 1, 0, 0, 0, 0, []),
  (13, .getfield 21, 3, 11, 4, 2, 0, []),
  (16, .iload_n 2, 1, 0, 0, 0, 0, []),
  (17, .iaload, 1, 0, 0, 0, 0, []),
  (18, .bipush (-2), 2, 0, 0, 0, -2, []),
  (20, .if_icmp .ne 22, 3, 27, 0, 0, 0, []),
  (23, .aload_n 0, 1, 0, 0, 0, 0, []),
  (24, .getfield 9, 3, 11, 1, 2, 0, []),
  (27, .iload_n 2, 1, 0, 0, 0, 0, []),
  (28, .iaload, 1, 0, 0, 0, 0, []),
  (29, .aload_n 0, 1, 0, 0, 0, 0, []),
  (30, .getfield 336, 3, 11, 12, 0, 0, []),
  (33, .if_icmp .ge 9, 3, 27, 0, 0, 0, []),
  (36, .iload_n 1, 1, 0, 0, 0, 0, []),
  (37, .iconst 1, 1, 0, 0, 0, 1, []),
  (38, .iload_n 2, 1, 0, 0, 0, 0, []),
  (39, .ishl, 1, 0, 0, 0, 0, []),
  (40, .ior, 1, 0, 0, 0, 0, []),
  (41, .istore_n 1, 1, 0, 0, 0, 0, []),
  (42, .iinc 2 1, 3, 0, 0, 0, 1, []),
  (45, .goto (-41), 3, 4, 0, 0, 0, []),
  (48, .iload_n 1, 1, 0, 0, 0, 0, []),
  (49, .ireturn, 1, 0, 0, 0, 0, [])]
/-- yX11_led -/
def mt_251 : List am_row := [
  (0, .iload_n 1, 1, 0, 0, 0, 0, []),
  (1, .iconst 3, 1, 0, 0, 0, 3, []),
  (2, .if_icmp .ne 10, 3, 6, 0, 0, 0, []),
  (5, .aload_n 0, 1, 0, 0, 0, 0, []),
  (6, .getfield 336, 3, 11, 12, 0, 0, []),
  (9, .goto 22, 3, 17, 0, 0, 0, []),
  (12, .iload_n 1, 1, 0, 0, 0, 0, []),
  (13, .iconst 0, 1, 0, 0, 0, 0, []),
  (14, .iconst 2, 1, 0, 0, 0, 2, []),
  (15, .invokestatic 122, 3, 168, 3, 1, 0, []),
  (18, .ifCond .eq 12, 3, 16, 0, 0, 0, []),
  (21, .aload_n 0, 1, 0, 0, 0, 0, []),
  (22, .getfield 75, 3, 11, 31, 2, 0, []),
  (25, .iload_n 1, 1, 0, 0, 0, 0, []),
  (26, .iaload, 1, 0, 0, 0, 0, []),
  (27, .goto 4, 3, 17, 0, 0, 0, []),
  (30, .iconst (-1), 1, 0, 0, 0, -1, []),
  (31, .ireturn, 1, 0, 0, 0, 0, [])]
/-- yX11_image -/
def mt_252 : List am_row := [
  (0, .aload_n 0, 1, 0, 0, 0, 0, []),
  (1, .iconst 1, 1, 0, 0, 0, 1, []),
  (2, .putfield 339, 3, 11, 32, 1, 0, []),
  (5, .aload_n 0, 1, 0, 0, 0, 0, []),
  (6, .aload_n 0, 1, 0, 0, 0, 0, []),
  (7, .getfield 118, 3, 11, 0, 0, 0, []),
  (10, .putfield 342, 3, 11, 33, 0, 0, []),
  (13, .aload_n 0, 1, 0, 0, 0, 0, []),
  (14, .aload_n 0, 1, 0, 0, 0, 0, []),
  (15, .getfield 336, 3, 11, 12, 0, 0, []),
  (18, .putfield 345, 3, 11, 34, 0, 0, []),
  (21, .iconst 0, 1, 0, 0, 0, 0, []),
  (22, .istore_n 1, 1, 0, 0, 0, 0, []),
  (23, .iload_n 1, 1, 0, 0, 0, 0, []),
  (24, .bipush 12, 2, 0, 0, 0, 12, []),
  (26, .if_icmp .ge 21, 3, 26, 0, 0, 0, []),
  (29, .aload_n 0, 1, 0, 0, 0, 0, []),
  (30, .getfield 78, 3, 11, 35, 2, 0, []),
  (33, .iload_n 1, 1, 0, 0, 0, 0, []),
  (34, .aload_n 0, 1, 0, 0, 0, 0, []),
  (35, .getfield 21, 3, 11, 4, 2, 0, []),
  (38, .iload_n 1, 1, 0, 0, 0, 0, []),
  (39, .iaload, 1, 0, 0, 0, 0, []),
  (40, .iastore, 1, 0, 0, 0, 0, []),
  (41, .iinc 1 1, 3, 0, 0, 0, 1, []),
  (44, .goto (-21), 3, 13, 0, 0, 0, []),
  (47, .iconst 0, 1, 0, 0, 0, 0, []),
  (48, .istore_n 1, 1, 0, 0, 0, 0, []),
  (49, .iload_n 1, 1, 0, 0, 0, 0, []),
  (50, .iconst 3, 1, 0, 0, 0, 3, []),
  (51, .if_icmp .ge 21, 3, 41, 0, 0, 0, []),
  (54, .aload_n 0, 1, 0, 0, 0, 0, []),
  (55, .getfield 81, 3, 11, 36, 2, 0, []),
  (58, .iload_n 1, 1, 0, 0, 0, 0, []),
  (59, .aload_n 0, 1, 0, 0, 0, 0, []),
  (60, .getfield 75, 3, 11, 31, 2, 0, []),
  (63, .iload_n 1, 1, 0, 0, 0, 0, []),
  (64, .iaload, 1, 0, 0, 0, 0, []),
  (65, .iastore, 1, 0, 0, 0, 0, []),
  (66, .iinc 1 1, 3, 0, 0, 0, 1, []),
  (69, .goto (-20), 3, 28, 0, 0, 0, []),
  (72, .aload_n 0, 1, 0, 0, 0, 0, []),
  (73, .getfield 75, 3, 11, 31, 2, 0, []),
  (76, .iconst 0, 1, 0, 0, 0, 0, []),
  (77, .iaload, 1, 0, 0, 0, 0, []),
  (78, .ireturn, 1, 0, 0, 0, 0, [])]
/-- yX11_back -/
def mt_253 : List am_row := [
  (0, .aload_n 0, 1, 0, 0, 0, 0, []),
  (1, .getfield 339, 3, 11, 32, 1, 0, []),
  (4, .ifCond .ne 6, 3, 5, 0, 0, 0, []),
  (7, .bipush (-5), 2, 0, 0, 0, -5, []),
  (9, .ireturn, 1, 0, 0, 0, 0, []),
  (10, .aload_n 0, 1, 0, 0, 0, 0, []),
  (11, .aload_n 0, 1, 0, 0, 0, 0, []),
  (12, .getfield 345, 3, 11, 34, 0, 0, []),
  (15, .putfield 336, 3, 11, 12, 0, 0, []),
  (18, .iconst 0, 1, 0, 0, 0, 0, []),
  (19, .istore_n 1, 1, 0, 0, 0, 0, []),
  (20, .iload_n 1, 1, 0, 0, 0, 0, []),
  (21, .aload_n 0, 1, 0, 0, 0, 0, []),
  (22, .getfield 118, 3, 11, 0, 0, 0, []),
  (25, .if_icmp .ge 34, 3, 31, 0, 0, 0, []),
  (28, .aload_n 0, 1, 0, 0, 0, 0, []),
  (29, .getfield 21, 3, 11, 4, 2, 0, []),
  (32, .iload_n 1, 1, 0, 0, 0, 0, []),
  (33, .iload_n 1, 1, 0, 0, 0, 0, []),
  (34, .aload_n 0, 1, 0, 0, 0, 0, []),
  (35, .getfield 342, 3, 11, 33, 0, 0, []),
  (38, .if_icmp .ge 12, 3, 27, 0, 0, 0, []),
  (41, .aload_n 0, 1, 0, 0, 0, 0, []),
  (42, .getfield 78, 3, 11, 35, 2, 0, []),
  (45, .iload_n 1, 1, 0, 0, 0, 0, []),
  (46, .iaload, 1, 0, 0, 0, 0, []),
  (47, .goto 5, 3, 28, 0, 0, 0, []),
  (50, .bipush (-2), 2, 0, 0, 0, -2, []),
  (52, .iastore, 1, 0, 0, 0, 0, []),
  (53, .iinc 1 1, 3, 0, 0, 0, 1, []),
  (56, .goto (-36), 3, 11, 0, 0, 0, []),
  (59, .iconst 0, 1, 0, 0, 0, 0, []),
  (60, .istore_n 1, 1, 0, 0, 0, 0, []),
  (61, .iload_n 1, 1, 0, 0, 0, 0, []),
  (62, .iconst 3, 1, 0, 0, 0, 3, []),
  (63, .if_icmp .ge 21, 3, 46, 0, 0, 0, []),
  (66, .aload_n 0, 1, 0, 0, 0, 0, []),
  (67, .getfield 75, 3, 11, 31, 2, 0, []),
  (70, .iload_n 1, 1, 0, 0, 0, 0, []),
  (71, .aload_n 0, 1, 0, 0, 0, 0, []),
  (72, .getfield 81, 3, 11, 36, 2, 0, []),
  (75, .iload_n 1, 1, 0, 0, 0, 0, []),
  (76, .iaload, 1, 0, 0, 0, 0, []),
  (77, .iastore, 1, 0, 0, 0, 0, []),
  (78, .iinc 1 1, 3, 0, 0, 0, 1, []),
  (81, .goto (-20), 3, 33, 0, 0, 0, []),
  (84, .aload_n 0, 1, 0, 0, 0, 0, []),
  (85, .getfield 75, 3, 11, 31, 2, 0, []),
  (88, .iconst 0, 1, 0, 0, 0, 0, []),
  (89, .iaload, 1, 0, 0, 0, 0, []),
  (90, .ireturn, 1, 0, 0, 0, 0, [])]
/-- yX11_above -/
def mt_254 : List am_row := [
  (0, .iload_n 0, 1, 0, 0, 0, 0, []),
  (1, .tableswitch 43 3 7 #[35, 37, 39, 43, 41], 35, 10, 0, 0, 0, [(3, 2), (4, 4), (5, 6), (6, 10), (7, 8)]),
  (36, .iconst 2, 1, 0, 0, 0, 2, []),
  (37, .ireturn, 1, 0, 0, 0, 0, []),
  (38, .iconst 1, 1, 0, 0, 0, 1, []),
  (39, .ireturn, 1, 0, 0, 0, 0, []),
  (40, .iconst 3, 1, 0, 0, 0, 3, []),
  (41, .ireturn, 1, 0, 0, 0, 0, []),
  (42, .iconst 4, 1, 0, 0, 0, 4, []),
  (43, .ireturn, 1, 0, 0, 0, 0, []),
  (44, .iconst 0, 1, 0, 0, 0, 0, []),
  (45, .ireturn, 1, 0, 0, 0, 0, [])]
/-- yX11_ran -/
def mt_255 : List am_row := [
  (0, .aload_n 0, 1, 0, 0, 0, 0, []),
  (1, .getfield 348, 3, 11, 42, 0, 0, []),
  (4, .bipush 24, 2, 0, 0, 0, 24, []),
  (6, .if_icmp .ge 13, 3, 10, 0, 0, 0, []),
  (9, .aload_n 0, 1, 0, 0, 0, 0, []),
  (10, .getfield 90, 3, 11, 43, 2, 0, []),
  (13, .aload_n 0, 1, 0, 0, 0, 0, []),
  (14, .getfield 348, 3, 11, 42, 0, 0, []),
  (17, .iload_n 1, 1, 0, 0, 0, 0, []),
  (18, .iastore, 1, 0, 0, 0, 0, []),
  (19, .aload_n 0, 1, 0, 0, 0, 0, []),
  (20, .dup, 1, 0, 0, 0, 0, []),
  (21, .getfield 348, 3, 11, 42, 0, 0, []),
  (24, .iconst 1, 1, 0, 0, 0, 1, []),
  (25, .iadd, 1, 0, 0, 0, 0, []),
  (26, .putfield 348, 3, 11, 42, 0, 0, []),
  (29, .return_, 1, 0, 0, 0, 0, [])]
/-- yX11_opensBy -/
def mt_256 : List am_row := [
  (0, .iload_n 2, 1, 0, 0, 0, 0, []),
  (1, .lookupswitch 76 #[(0, 35), (1, 44), (6, 60)], 35, 31, 0, 0, 0, [(0, 2), (1, 9), (6, 20)]),
  (36, .aload_n 0, 1, 0, 0, 0, 0, []),
  (37, .iconst 1, 1, 0, 0, 0, 1, []),
  (38, .invokevirtual 351, 3, 255, 2, 0, 0, []),
  (41, .iload_n 3, 1, 0, 0, 0, 0, []),
  (42, .iload_n 1, 1, 0, 0, 0, 0, []),
  (43, .iadd, 1, 0, 0, 0, 0, []),
  (44, .ireturn, 1, 0, 0, 0, 0, []),
  (45, .aload_n 0, 1, 0, 0, 0, 0, []),
  (46, .bipush 20, 2, 0, 0, 0, 20, []),
  (48, .invokevirtual 351, 3, 255, 2, 0, 0, []),
  (51, .aload_n 0, 1, 0, 0, 0, 0, []),
  (52, .iload_n 1, 1, 0, 0, 0, 0, []),
  (53, .iconst 0, 1, 0, 0, 0, 0, []),
  (54, .iload_n 3, 1, 0, 0, 0, 0, []),
  (55, .invokevirtual 354, 3, 256, 4, 1, 0, []),
  (58, .iconst 3, 1, 0, 0, 0, 3, []),
  (59, .iadd, 1, 0, 0, 0, 0, []),
  (60, .ireturn, 1, 0, 0, 0, 0, []),
  (61, .aload_n 0, 1, 0, 0, 0, 0, []),
  (62, .bipush 70, 2, 0, 0, 0, 70, []),
  (64, .invokevirtual 351, 3, 255, 2, 0, 0, []),
  (67, .aload_n 0, 1, 0, 0, 0, 0, []),
  (68, .iload_n 1, 1, 0, 0, 0, 0, []),
  (69, .iconst 0, 1, 0, 0, 0, 0, []),
  (70, .iload_n 3, 1, 0, 0, 0, 0, []),
  (71, .invokevirtual 354, 3, 256, 4, 1, 0, []),
  (74, .iconst 2, 1, 0, 0, 0, 2, []),
  (75, .imul, 1, 0, 0, 0, 0, []),
  (76, .ireturn, 1, 0, 0, 0, 0, []),
  (77, .aload_n 0, 1, 0, 0, 0, 0, []),
  (78, .iload_n 1, 1, 0, 0, 0, 0, []),
  (79, .iload_n 2, 1, 0, 0, 0, 0, []),
  (80, .invokestatic 357, 3, 254, 1, 1, 0, []),
  (83, .iload_n 3, 1, 0, 0, 0, 0, []),
  (84, .invokevirtual 354, 3, 256, 4, 1, 0, []),
  (87, .ireturn, 1, 0, 0, 0, 0, [])]
/-- yX11_givesBy -/
def mt_257 : List am_row := [
  (0, .iload_n 2, 1, 0, 0, 0, 0, []),
  (1, .tableswitch 130 0 7 #[47, 130, 68, 83, 130, 130, 130, 99], 47, 57, 0, 0, 0, [(0, 2), (1, 57), (2, 16), (3, 26), (4, 57), (5, 57), (6, 57), (7, 37)]),
  (48, .aload_n 0, 1, 0, 0, 0, 0, []),
  (49, .bipush 10, 2, 0, 0, 0, 10, []),
  (51, .invokevirtual 351, 3, 255, 2, 0, 0, []),
  (54, .aload_n 0, 1, 0, 0, 0, 0, []),
  (55, .iload_n 1, 1, 0, 0, 0, 0, []),
  (56, .aload_n 0, 1, 0, 0, 0, 0, []),
  (57, .getfield 87, 3, 11, 41, 2, 0, []),
  (60, .iload_n 1, 1, 0, 0, 0, 0, []),
  (61, .iaload, 1, 0, 0, 0, 0, []),
  (62, .iload_n 3, 1, 0, 0, 0, 0, []),
  (63, .invokevirtual 354, 3, 256, 4, 1, 0, []),
  (66, .iconst 2, 1, 0, 0, 0, 2, []),
  (67, .imul, 1, 0, 0, 0, 0, []),
  (68, .ireturn, 1, 0, 0, 0, 0, []),
  (69, .aload_n 0, 1, 0, 0, 0, 0, []),
  (70, .bipush 30, 2, 0, 0, 0, 30, []),
  (72, .invokevirtual 351, 3, 255, 2, 0, 0, []),
  (75, .aload_n 0, 1, 0, 0, 0, 0, []),
  (76, .iload_n 1, 1, 0, 0, 0, 0, []),
  (77, .iconst 0, 1, 0, 0, 0, 0, []),
  (78, .iload_n 3, 1, 0, 0, 0, 0, []),
  (79, .invokevirtual 360, 3, 257, 4, 1, 0, []),
  (82, .ineg, 1, 0, 0, 0, 0, []),
  (83, .ireturn, 1, 0, 0, 0, 0, []),
  (84, .aload_n 0, 1, 0, 0, 0, 0, []),
  (85, .bipush 41, 2, 0, 0, 0, 41, []),
  (87, .invokevirtual 351, 3, 255, 2, 0, 0, []),
  (90, .aload_n 0, 1, 0, 0, 0, 0, []),
  (91, .iload_n 1, 1, 0, 0, 0, 0, []),
  (92, .iconst 2, 1, 0, 0, 0, 2, []),
  (93, .iload_n 3, 1, 0, 0, 0, 0, []),
  (94, .iconst 1, 1, 0, 0, 0, 1, []),
  (95, .iadd, 1, 0, 0, 0, 0, []),
  (96, .invokevirtual 360, 3, 257, 4, 1, 0, []),
  (99, .ireturn, 1, 0, 0, 0, 0, []),
  (100, .aload_n 0, 1, 0, 0, 0, 0, []),
  (101, .bipush 80, 2, 0, 0, 0, 80, []),
  (103, .invokevirtual 351, 3, 255, 2, 0, 0, []),
  (106, .aload_n 0, 1, 0, 0, 0, 0, []),
  (107, .iload_n 1, 1, 0, 0, 0, 0, []),
  (108, .iconst 4, 1, 0, 0, 0, 4, []),
  (109, .iload_n 3, 1, 0, 0, 0, 0, []),
  (110, .invokevirtual 360, 3, 257, 4, 1, 0, []),
  (113, .istore 4, 2, 0, 0, 0, 0, []),
  (115, .iload 4, 2, 0, 0, 0, 0, []),
  (117, .aload_n 0, 1, 0, 0, 0, 0, []),
  (118, .iload_n 1, 1, 0, 0, 0, 0, []),
  (119, .aload_n 0, 1, 0, 0, 0, 0, []),
  (120, .getfield 87, 3, 11, 41, 2, 0, []),
  (123, .iload_n 1, 1, 0, 0, 0, 0, []),
  (124, .iaload, 1, 0, 0, 0, 0, []),
  (125, .iconst 2, 1, 0, 0, 0, 2, []),
  (126, .invokevirtual 363, 3, 258, 4, 1, 0, []),
  (129, .iadd, 1, 0, 0, 0, 0, []),
  (130, .ireturn, 1, 0, 0, 0, 0, []),
  (131, .aload_n 0, 1, 0, 0, 0, 0, []),
  (132, .iload_n 1, 1, 0, 0, 0, 0, []),
  (133, .iload_n 2, 1, 0, 0, 0, 0, []),
  (134, .invokestatic 357, 3, 254, 1, 1, 0, []),
  (137, .iload_n 3, 1, 0, 0, 0, 0, []),
  (138, .invokevirtual 360, 3, 257, 4, 1, 0, []),
  (141, .ireturn, 1, 0, 0, 0, 0, [])]
/-- yX11_waitsBy -/
def mt_258 : List am_row := [
  (0, .iload_n 2, 1, 0, 0, 0, 0, []),
  (1, .tableswitch 92 0 4 #[35, 92, 92, 45, 61], 35, 40, 0, 0, 0, [(0, 2), (1, 40), (2, 40), (3, 9), (4, 20)]),
  (36, .aload_n 0, 1, 0, 0, 0, 0, []),
  (37, .bipush 11, 2, 0, 0, 0, 11, []),
  (39, .invokevirtual 351, 3, 255, 2, 0, 0, []),
  (42, .iload_n 3, 1, 0, 0, 0, 0, []),
  (43, .iload_n 1, 1, 0, 0, 0, 0, []),
  (44, .ixor, 1, 0, 0, 0, 0, []),
  (45, .ireturn, 1, 0, 0, 0, 0, []),
  (46, .aload_n 0, 1, 0, 0, 0, 0, []),
  (47, .bipush 40, 2, 0, 0, 0, 40, []),
  (49, .invokevirtual 351, 3, 255, 2, 0, 0, []),
  (52, .aload_n 0, 1, 0, 0, 0, 0, []),
  (53, .iload_n 1, 1, 0, 0, 0, 0, []),
  (54, .iconst 2, 1, 0, 0, 0, 2, []),
  (55, .iload_n 3, 1, 0, 0, 0, 0, []),
  (56, .invokevirtual 363, 3, 258, 4, 1, 0, []),
  (59, .iconst 3, 1, 0, 0, 0, 3, []),
  (60, .imul, 1, 0, 0, 0, 0, []),
  (61, .ireturn, 1, 0, 0, 0, 0, []),
  (62, .aload_n 0, 1, 0, 0, 0, 0, []),
  (63, .bipush 50, 2, 0, 0, 0, 50, []),
  (65, .invokevirtual 351, 3, 255, 2, 0, 0, []),
  (68, .aload_n 0, 1, 0, 0, 0, 0, []),
  (69, .iload_n 1, 1, 0, 0, 0, 0, []),
  (70, .iconst 1, 1, 0, 0, 0, 1, []),
  (71, .iload_n 3, 1, 0, 0, 0, 0, []),
  (72, .invokevirtual 363, 3, 258, 4, 1, 0, []),
  (75, .istore 4, 2, 0, 0, 0, 0, []),
  (77, .iload 4, 2, 0, 0, 0, 0, []),
  (79, .aload_n 0, 1, 0, 0, 0, 0, []),
  (80, .iload_n 1, 1, 0, 0, 0, 0, []),
  (81, .aload_n 0, 1, 0, 0, 0, 0, []),
  (82, .getfield 87, 3, 11, 41, 2, 0, []),
  (85, .iload_n 1, 1, 0, 0, 0, 0, []),
  (86, .iaload, 1, 0, 0, 0, 0, []),
  (87, .iconst 2, 1, 0, 0, 0, 2, []),
  (88, .invokevirtual 354, 3, 256, 4, 1, 0, []),
  (91, .isub, 1, 0, 0, 0, 0, []),
  (92, .ireturn, 1, 0, 0, 0, 0, []),
  (93, .aload_n 0, 1, 0, 0, 0, 0, []),
  (94, .iload_n 1, 1, 0, 0, 0, 0, []),
  (95, .iload_n 2, 1, 0, 0, 0, 0, []),
  (96, .invokestatic 357, 3, 254, 1, 1, 0, []),
  (99, .iload_n 3, 1, 0, 0, 0, 0, []),
  (100, .invokevirtual 363, 3, 258, 4, 1, 0, []),
  (103, .ireturn, 1, 0, 0, 0, 0, [])]
/-- yX11_tells -/
def mt_259 : List am_row := [
  (0, .iload_n 2, 1, 0, 0, 0, 0, []),
  (1, .lookupswitch 102 #[(0, 35), (5, 70), (7, 86)], 35, 47, 0, 0, 0, [(0, 2), (5, 25), (7, 36)]),
  (36, .aload_n 0, 1, 0, 0, 0, 0, []),
  (37, .iconst 2, 1, 0, 0, 0, 2, []),
  (38, .invokevirtual 351, 3, 255, 2, 0, 0, []),
  (41, .aload_n 0, 1, 0, 0, 0, 0, []),
  (42, .iload_n 1, 1, 0, 0, 0, 0, []),
  (43, .aload_n 0, 1, 0, 0, 0, 0, []),
  (44, .getfield 87, 3, 11, 41, 2, 0, []),
  (47, .iload_n 1, 1, 0, 0, 0, 0, []),
  (48, .iaload, 1, 0, 0, 0, 0, []),
  (49, .iload_n 3, 1, 0, 0, 0, 0, []),
  (50, .invokevirtual 360, 3, 257, 4, 1, 0, []),
  (53, .istore 4, 2, 0, 0, 0, 0, []),
  (55, .iload 4, 2, 0, 0, 0, 0, []),
  (57, .aload_n 0, 1, 0, 0, 0, 0, []),
  (58, .iload_n 1, 1, 0, 0, 0, 0, []),
  (59, .aload_n 0, 1, 0, 0, 0, 0, []),
  (60, .getfield 87, 3, 11, 41, 2, 0, []),
  (63, .iload_n 1, 1, 0, 0, 0, 0, []),
  (64, .iaload, 1, 0, 0, 0, 0, []),
  (65, .iconst 1, 1, 0, 0, 0, 1, []),
  (66, .invokevirtual 363, 3, 258, 4, 1, 0, []),
  (69, .isub, 1, 0, 0, 0, 0, []),
  (70, .ireturn, 1, 0, 0, 0, 0, []),
  (71, .aload_n 0, 1, 0, 0, 0, 0, []),
  (72, .bipush 60, 2, 0, 0, 0, 60, []),
  (74, .invokevirtual 351, 3, 255, 2, 0, 0, []),
  (77, .aload_n 0, 1, 0, 0, 0, 0, []),
  (78, .iload_n 1, 1, 0, 0, 0, 0, []),
  (79, .iconst 3, 1, 0, 0, 0, 3, []),
  (80, .iload_n 3, 1, 0, 0, 0, 0, []),
  (81, .invokevirtual 366, 3, 259, 4, 1, 0, []),
  (84, .iconst 5, 1, 0, 0, 0, 5, []),
  (85, .ixor, 1, 0, 0, 0, 0, []),
  (86, .ireturn, 1, 0, 0, 0, 0, []),
  (87, .aload_n 0, 1, 0, 0, 0, 0, []),
  (88, .bipush 81, 2, 0, 0, 0, 81, []),
  (90, .invokevirtual 351, 3, 255, 2, 0, 0, []),
  (93, .aload_n 0, 1, 0, 0, 0, 0, []),
  (94, .iload_n 1, 1, 0, 0, 0, 0, []),
  (95, .iconst 4, 1, 0, 0, 0, 4, []),
  (96, .iload_n 3, 1, 0, 0, 0, 0, []),
  (97, .invokevirtual 366, 3, 259, 4, 1, 0, []),
  (100, .iconst 1, 1, 0, 0, 0, 1, []),
  (101, .isub, 1, 0, 0, 0, 0, []),
  (102, .ireturn, 1, 0, 0, 0, 0, []),
  (103, .aload_n 0, 1, 0, 0, 0, 0, []),
  (104, .iload_n 1, 1, 0, 0, 0, 0, []),
  (105, .iload_n 2, 1, 0, 0, 0, 0, []),
  (106, .invokestatic 357, 3, 254, 1, 1, 0, []),
  (109, .iload_n 3, 1, 0, 0, 0, 0, []),
  (110, .invokevirtual 366, 3, 259, 4, 1, 0, []),
  (113, .ireturn, 1, 0, 0, 0, 0, [])]
/-- yX11_body -/
def mt_260 : List am_row := [
  (0, .iload_n 1, 1, 0, 0, 0, 0, []),
  (1, .iconst 0, 1, 0, 0, 0, 0, []),
  (2, .bipush 7, 2, 0, 0, 0, 7, []),
  (4, .invokestatic 122, 3, 168, 3, 1, 0, []),
  (7, .ifCond .ne 5, 3, 7, 0, 0, 0, []),
  (10, .iconst (-1), 1, 0, 0, 0, -1, []),
  (11, .ireturn, 1, 0, 0, 0, 0, []),
  (12, .aload_n 0, 1, 0, 0, 0, 0, []),
  (13, .getfield 369, 3, 11, 40, 0, 0, []),
  (16, .bipush 50, 2, 0, 0, 0, 50, []),
  (18, .if_icmp .ne 6, 3, 13, 0, 0, 0, []),
  (21, .bipush (-3), 2, 0, 0, 0, -3, []),
  (23, .ireturn, 1, 0, 0, 0, 0, []),
  (24, .aload_n 0, 1, 0, 0, 0, 0, []),
  (25, .getfield 87, 3, 11, 41, 2, 0, []),
  (28, .aload_n 0, 1, 0, 0, 0, 0, []),
  (29, .getfield 369, 3, 11, 40, 0, 0, []),
  (32, .iload_n 1, 1, 0, 0, 0, 0, []),
  (33, .iastore, 1, 0, 0, 0, 0, []),
  (34, .aload_n 0, 1, 0, 0, 0, 0, []),
  (35, .dup, 1, 0, 0, 0, 0, []),
  (36, .getfield 369, 3, 11, 40, 0, 0, []),
  (39, .dup_x1, 1, 0, 0, 0, 0, []),
  (40, .iconst 1, 1, 0, 0, 0, 1, []),
  (41, .iadd, 1, 0, 0, 0, 0, []),
  (42, .putfield 369, 3, 11, 40, 0, 0, []),
  (45, .ireturn, 1, 0, 0, 0, 0, [])]
/-- yX11_act -/
def mt_261 : List am_row := [
  (0, .aload_n 0, 1, 0, 0, 0, 0, []),
  (1, .iconst 0, 1, 0, 0, 0, 0, []),
  (2, .putfield 348, 3, 11, 42, 0, 0, []),
  (5, .iload_n 1, 1, 0, 0, 0, 0, []),
  (6, .iconst 0, 1, 0, 0, 0, 0, []),
  (7, .aload_n 0, 1, 0, 0, 0, 0, []),
  (8, .getfield 369, 3, 11, 40, 0, 0, []),
  (11, .iconst 1, 1, 0, 0, 0, 1, []),
  (12, .isub, 1, 0, 0, 0, 0, []),
  (13, .invokestatic 122, 3, 168, 3, 1, 0, []),
  (16, .ifCond .eq 12, 3, 16, 0, 0, 0, []),
  (19, .iload_n 2, 1, 0, 0, 0, 0, []),
  (20, .iconst 0, 1, 0, 0, 0, 0, []),
  (21, .iconst 3, 1, 0, 0, 0, 3, []),
  (22, .invokestatic 122, 3, 168, 3, 1, 0, []),
  (25, .ifCond .ne 5, 3, 18, 0, 0, 0, []),
  (28, .iconst 0, 1, 0, 0, 0, 0, []),
  (29, .ireturn, 1, 0, 0, 0, 0, []),
  (30, .aload_n 0, 1, 0, 0, 0, 0, []),
  (31, .getfield 87, 3, 11, 41, 2, 0, []),
  (34, .iload_n 1, 1, 0, 0, 0, 0, []),
  (35, .iaload, 1, 0, 0, 0, 0, []),
  (36, .istore 4, 2, 0, 0, 0, 0, []),
  (38, .iload_n 2, 1, 0, 0, 0, 0, []),
  (39, .ifCond .ne 14, 3, 31, 0, 0, 0, []),
  (42, .aload_n 0, 1, 0, 0, 0, 0, []),
  (43, .iload_n 1, 1, 0, 0, 0, 0, []),
  (44, .iload 4, 2, 0, 0, 0, 0, []),
  (46, .iload_n 3, 1, 0, 0, 0, 0, []),
  (47, .invokevirtual 354, 3, 256, 4, 1, 0, []),
  (50, .goto 43, 3, 54, 0, 0, 0, []),
  (53, .iload_n 2, 1, 0, 0, 0, 0, []),
  (54, .iconst 1, 1, 0, 0, 0, 1, []),
  (55, .if_icmp .ne 14, 3, 40, 0, 0, 0, []),
  (58, .aload_n 0, 1, 0, 0, 0, 0, []),
  (59, .iload_n 1, 1, 0, 0, 0, 0, []),
  (60, .iload 4, 2, 0, 0, 0, 0, []),
  (62, .iload_n 3, 1, 0, 0, 0, 0, []),
  (63, .invokevirtual 360, 3, 257, 4, 1, 0, []),
  (66, .goto 27, 3, 54, 0, 0, 0, []),
  (69, .iload_n 2, 1, 0, 0, 0, 0, []),
  (70, .iconst 2, 1, 0, 0, 0, 2, []),
  (71, .if_icmp .ne 14, 3, 49, 0, 0, 0, []),
  (74, .aload_n 0, 1, 0, 0, 0, 0, []),
  (75, .iload_n 1, 1, 0, 0, 0, 0, []),
  (76, .iload 4, 2, 0, 0, 0, 0, []),
  (78, .iload_n 3, 1, 0, 0, 0, 0, []),
  (79, .invokevirtual 363, 3, 258, 4, 1, 0, []),
  (82, .goto 11, 3, 54, 0, 0, 0, []),
  (85, .aload_n 0, 1, 0, 0, 0, 0, []),
  (86, .iload_n 1, 1, 0, 0, 0, 0, []),
  (87, .iload 4, 2, 0, 0, 0, 0, []),
  (89, .iload_n 3, 1, 0, 0, 0, 0, []),
  (90, .invokevirtual 366, 3, 259, 4, 1, 0, []),
  (93, .ireturn, 1, 0, 0, 0, 0, [])]
/-- yX11_trace -/
def mt_262 : List am_row := [
  (0, .iload_n 1, 1, 0, 0, 0, 0, []),
  (1, .iconst 0, 1, 0, 0, 0, 0, []),
  (2, .bipush 24, 2, 0, 0, 0, 24, []),
  (4, .aload_n 0, 1, 0, 0, 0, 0, []),
  (5, .getfield 348, 3, 11, 42, 0, 0, []),
  (8, .invokestatic 244, 3, 1001, 2, 1, 0, []),
  (11, .iconst 1, 1, 0, 0, 0, 1, []),
  (12, .isub, 1, 0, 0, 0, 0, []),
  (13, .invokestatic 122, 3, 168, 3, 1, 0, []),
  (16, .ifCond .eq 12, 3, 15, 0, 0, 0, []),
  (19, .aload_n 0, 1, 0, 0, 0, 0, []),
  (20, .getfield 90, 3, 11, 43, 2, 0, []),
  (23, .iload_n 1, 1, 0, 0, 0, 0, []),
  (24, .iaload, 1, 0, 0, 0, 0, []),
  (25, .goto 4, 3, 16, 0, 0, 0, []),
  (28, .iconst (-1), 1, 0, 0, 0, -1, []),
  (29, .ireturn, 1, 0, 0, 0, 0, [])]
/-- yX11_keep -/
def mt_263 : List am_row := [
  (0, .iload_n 1, 1, 0, 0, 0, 0, []),
  (1, .invokestatic 143, 3, 174, 1, 1, 0, []),
  (4, .ifCond .eq 17, 3, 11, 0, 0, 0, []),
  (7, .iload_n 2, 1, 0, 0, 0, 0, []),
  (8, .iconst (-1), 1, 0, 0, 0, -1, []),
  (9, .aload_n 0, 1, 0, 0, 0, 0, []),
  (10, .getfield 369, 3, 11, 40, 0, 0, []),
  (13, .iconst 1, 1, 0, 0, 0, 1, []),
  (14, .isub, 1, 0, 0, 0, 0, []),
  (15, .invokestatic 122, 3, 168, 3, 1, 0, []),
  (18, .ifCond .ne 5, 3, 13, 0, 0, 0, []),
  (21, .iconst (-1), 1, 0, 0, 0, -1, []),
  (22, .ireturn, 1, 0, 0, 0, 0, []),
  (23, .aload_n 0, 1, 0, 0, 0, 0, []),
  (24, .getfield 93, 3, 11, 44, 2, 0, []),
  (27, .iload_n 1, 1, 0, 0, 0, 0, []),
  (28, .iload_n 2, 1, 0, 0, 0, 0, []),
  (29, .ifCond .ge 7, 3, 20, 0, 0, 0, []),
  (32, .iconst (-1), 1, 0, 0, 0, -1, []),
  (33, .goto 7, 3, 23, 0, 0, 0, []),
  (36, .bipush 10, 2, 0, 0, 0, 10, []),
  (38, .iload_n 2, 1, 0, 0, 0, 0, []),
  (39, .iadd, 1, 0, 0, 0, 0, []),
  (40, .iastore, 1, 0, 0, 0, 0, []),
  (41, .aload_n 0, 1, 0, 0, 0, 0, []),
  (42, .getfield 96, 3, 11, 45, 2, 0, []),
  (45, .iload_n 1, 1, 0, 0, 0, 0, []),
  (46, .iconst 0, 1, 0, 0, 0, 0, []),
  (47, .iastore, 1, 0, 0, 0, 0, []),
  (48, .iconst 1, 1, 0, 0, 0, 1, []),
  (49, .ireturn, 1, 0, 0, 0, 0, [])]
/-- yX11_row -/
def mt_264 : List am_row := [
  (0, .iload_n 1, 1, 0, 0, 0, 0, []),
  (1, .invokestatic 143, 3, 174, 1, 1, 0, []),
  (4, .ifCond .eq 18, 3, 11, 0, 0, 0, []),
  (7, .iload_n 2, 1, 0, 0, 0, 0, []),
  (8, .iconst 0, 1, 0, 0, 0, 0, []),
  (9, .iconst 4, 1, 0, 0, 0, 4, []),
  (10, .invokestatic 122, 3, 168, 3, 1, 0, []),
  (13, .ifCond .eq 9, 3, 11, 0, 0, 0, []),
  (16, .iload_n 3, 1, 0, 0, 0, 0, []),
  (17, .bipush 60, 2, 0, 0, 0, 60, []),
  (19, .if_icmp .le 5, 3, 13, 0, 0, 0, []),
  (22, .iconst (-1), 1, 0, 0, 0, -1, []),
  (23, .ireturn, 1, 0, 0, 0, 0, []),
  (24, .iload_n 3, 1, 0, 0, 0, 0, []),
  (25, .ifCond .ge 6, 3, 17, 0, 0, 0, []),
  (28, .bipush (-14), 2, 0, 0, 0, -14, []),
  (30, .ireturn, 1, 0, 0, 0, 0, []),
  (31, .aload_n 0, 1, 0, 0, 0, 0, []),
  (32, .getfield 93, 3, 11, 44, 2, 0, []),
  (35, .iload_n 1, 1, 0, 0, 0, 0, []),
  (36, .iload_n 2, 1, 0, 0, 0, 0, []),
  (37, .iastore, 1, 0, 0, 0, 0, []),
  (38, .aload_n 0, 1, 0, 0, 0, 0, []),
  (39, .getfield 96, 3, 11, 45, 2, 0, []),
  (42, .iload_n 1, 1, 0, 0, 0, 0, []),
  (43, .iload_n 3, 1, 0, 0, 0, 0, []),
  (44, .iastore, 1, 0, 0, 0, 0, []),
  (45, .iconst 0, 1, 0, 0, 0, 0, []),
  (46, .istore 4, 2, 0, 0, 0, 0, []),
  (48, .iload 4, 2, 0, 0, 0, 0, []),
  (50, .bipush 60, 2, 0, 0, 0, 60, []),
  (52, .if_icmp .ge 22, 3, 43, 0, 0, 0, []),
  (55, .aload_n 0, 1, 0, 0, 0, 0, []),
  (56, .getfield 99, 3, 11, 46, 2, 0, []),
  (59, .bipush 60, 2, 0, 0, 0, 60, []),
  (61, .iload_n 1, 1, 0, 0, 0, 0, []),
  (62, .imul, 1, 0, 0, 0, 0, []),
  (63, .iload 4, 2, 0, 0, 0, 0, []),
  (65, .iadd, 1, 0, 0, 0, 0, []),
  (66, .lconst 0, 1, 0, 0, 0, 0, []),
  (67, .lastore, 1, 0, 0, 0, 0, []),
  (68, .iinc 4 1, 3, 0, 0, 0, 1, []),
  (71, .goto (-23), 3, 29, 0, 0, 0, []),
  (74, .iconst 1, 1, 0, 0, 0, 1, []),
  (75, .ireturn, 1, 0, 0, 0, 0, [])]
/-- yX11_isRow -/
def mt_265 : List am_row := [
  (0, .aload_n 0, 1, 0, 0, 0, 0, []),
  (1, .getfield 93, 3, 11, 44, 2, 0, []),
  (4, .iload_n 1, 1, 0, 0, 0, 0, []),
  (5, .iaload, 1, 0, 0, 0, 0, []),
  (6, .iconst 0, 1, 0, 0, 0, 0, []),
  (7, .iconst 4, 1, 0, 0, 0, 4, []),
  (8, .invokestatic 122, 3, 168, 3, 1, 0, []),
  (11, .ireturn, 1, 1, 0, 0, 0, [])]
/-- yX11_kept -/
def mt_266 : List am_row := [
  (0, .iload_n 0, 1, 0, 0, 0, 0, []),
  (1, .tableswitch 47 0 3 #[31, 36, 41, 45], 31, 18, 0, 0, 0, [(0, 2), (1, 7), (2, 12), (3, 16)]),
  (32, .lload_n 1, 1, 0, 0, 0, 0, []),
  (33, .l2i, 1, 0, 0, 0, 0, []),
  (34, .i2b, 1, 0, 0, 0, 0, []),
  (35, .i2l, 1, 0, 0, 0, 0, []),
  (36, .lreturn, 1, 0, 0, 0, 0, []),
  (37, .lload_n 1, 1, 0, 0, 0, 0, []),
  (38, .l2i, 1, 0, 0, 0, 0, []),
  (39, .i2s, 1, 0, 0, 0, 0, []),
  (40, .i2l, 1, 0, 0, 0, 0, []),
  (41, .lreturn, 1, 0, 0, 0, 0, []),
  (42, .lload_n 1, 1, 0, 0, 0, 0, []),
  (43, .l2i, 1, 0, 0, 0, 0, []),
  (44, .i2l, 1, 0, 0, 0, 0, []),
  (45, .lreturn, 1, 0, 0, 0, 0, []),
  (46, .lload_n 1, 1, 0, 0, 0, 0, []),
  (47, .lreturn, 1, 0, 0, 0, 0, []),
  (48, .lload_n 1, 1, 0, 0, 0, 0, []),
  (49, .lconst 0, 1, 0, 0, 0, 0, []),
  (50, .lcmp, 1, 0, 0, 0, 0, []),
  (51, .ifCond .eq 7, 3, 24, 0, 0, 0, []),
  (54, .lconst 1, 1, 1, 0, 0, 0, []),
  (55, .goto 4, 3, 25, 0, 0, 0, []),
  (58, .lconst 0, 1, 0, 0, 0, 0, []),
  (59, .lreturn, 1, 0, 0, 0, 0, [])]
/-- yX11_put -/
def mt_267 : List am_row := [
  (0, .iload_n 1, 1, 0, 0, 0, 0, []),
  (1, .invokestatic 143, 3, 174, 1, 1, 0, []),
  (4, .ifCond .ne 5, 3, 5, 0, 0, 0, []),
  (7, .iconst (-1), 1, 0, 0, 0, -1, []),
  (8, .ireturn, 1, 0, 0, 0, 0, []),
  (9, .aload_n 0, 1, 0, 0, 0, 0, []),
  (10, .getfield 93, 3, 11, 44, 2, 0, []),
  (13, .iload_n 1, 1, 0, 0, 0, 0, []),
  (14, .iaload, 1, 0, 0, 0, 0, []),
  (15, .iconst (-1), 1, 0, 0, 0, -1, []),
  (16, .if_icmp .ne 6, 3, 13, 0, 0, 0, []),
  (19, .bipush (-11), 2, 0, 0, 0, -11, []),
  (21, .ireturn, 1, 0, 0, 0, 0, []),
  (22, .aload_n 0, 1, 0, 0, 0, 0, []),
  (23, .iload_n 1, 1, 0, 0, 0, 0, []),
  (24, .invokevirtual 372, 3, 265, 2, 1, 0, []),
  (27, .ifCond .ne 6, 3, 19, 0, 0, 0, []),
  (30, .bipush (-12), 2, 0, 0, 0, -12, []),
  (32, .ireturn, 1, 0, 0, 0, 0, []),
  (33, .iload_n 2, 1, 0, 0, 0, 0, []),
  (34, .iconst 0, 1, 0, 0, 0, 0, []),
  (35, .aload_n 0, 1, 0, 0, 0, 0, []),
  (36, .getfield 96, 3, 11, 45, 2, 0, []),
  (39, .iload_n 1, 1, 0, 0, 0, 0, []),
  (40, .iaload, 1, 0, 0, 0, 0, []),
  (41, .iconst 1, 1, 0, 0, 0, 1, []),
  (42, .isub, 1, 0, 0, 0, 0, []),
  (43, .invokestatic 122, 3, 168, 3, 1, 0, []),
  (46, .ifCond .ne 6, 3, 31, 0, 0, 0, []),
  (49, .bipush (-13), 2, 0, 0, 0, -13, []),
  (51, .ireturn, 1, 0, 0, 0, 0, []),
  (52, .aload_n 0, 1, 0, 0, 0, 0, []),
  (53, .getfield 99, 3, 11, 46, 2, 0, []),
  (56, .bipush 60, 2, 0, 0, 0, 60, []),
  (58, .iload_n 1, 1, 0, 0, 0, 0, []),
  (59, .imul, 1, 0, 0, 0, 0, []),
  (60, .iload_n 2, 1, 0, 0, 0, 0, []),
  (61, .iadd, 1, 0, 0, 0, 0, []),
  (62, .aload_n 0, 1, 0, 0, 0, 0, []),
  (63, .getfield 93, 3, 11, 44, 2, 0, []),
  (66, .iload_n 1, 1, 0, 0, 0, 0, []),
  (67, .iaload, 1, 0, 0, 0, 0, []),
  (68, .lload_n 3, 1, 0, 0, 0, 0, []),
  (69, .invokestatic 375, 3, 266, 2, 2, 0, []),
  (72, .lastore, 1, 0, 0, 0, 0, []),
  (73, .iconst 1, 1, 0, 0, 0, 1, []),
  (74, .ireturn, 1, 0, 0, 0, 0, [])]
/-- yX11_element -/
def mt_268 : List am_row := [
  (0, .iload_n 1, 1, 0, 0, 0, 0, []),
  (1, .invokestatic 143, 3, 174, 1, 1, 0, []),
  (4, .ifCond .eq 41, 3, 26, 0, 0, 0, []),
  (7, .aload_n 0, 1, 0, 0, 0, 0, []),
  (8, .iload_n 1, 1, 0, 0, 0, 0, []),
  (9, .invokevirtual 372, 3, 265, 2, 1, 0, []),
  (12, .ifCond .eq 33, 3, 26, 0, 0, 0, []),
  (15, .iload_n 2, 1, 0, 0, 0, 0, []),
  (16, .iconst 0, 1, 0, 0, 0, 0, []),
  (17, .aload_n 0, 1, 0, 0, 0, 0, []),
  (18, .getfield 96, 3, 11, 45, 2, 0, []),
  (21, .iload_n 1, 1, 0, 0, 0, 0, []),
  (22, .iaload, 1, 0, 0, 0, 0, []),
  (23, .iconst 1, 1, 0, 0, 0, 1, []),
  (24, .isub, 1, 0, 0, 0, 0, []),
  (25, .invokestatic 122, 3, 168, 3, 1, 0, []),
  (28, .ifCond .eq 17, 3, 26, 0, 0, 0, []),
  (31, .aload_n 0, 1, 0, 0, 0, 0, []),
  (32, .getfield 99, 3, 11, 46, 2, 0, []),
  (35, .bipush 60, 2, 0, 0, 0, 60, []),
  (37, .iload_n 1, 1, 0, 0, 0, 0, []),
  (38, .imul, 1, 0, 0, 0, 0, []),
  (39, .iload_n 2, 1, 0, 0, 0, 0, []),
  (40, .iadd, 1, 0, 0, 0, 0, []),
  (41, .laload, 1, 0, 0, 0, 0, []),
  (42, .goto 6, 3, 27, 0, 0, 0, []),
  (45, .ldc2_w 379, 3, 4, 0, 0, 0, []),
  (48, .lreturn, 1, 0, 0, 0, 0, [])]
/-- yX11_shift -/
def mt_269 : List am_row := [
  (0, .iload_n 1, 1, 0, 0, 0, 0, []),
  (1, .invokestatic 143, 3, 174, 1, 1, 0, []),
  (4, .ifCond .eq 10, 3, 6, 0, 0, 0, []),
  (7, .iload_n 3, 1, 0, 0, 0, 0, []),
  (8, .invokestatic 143, 3, 174, 1, 1, 0, []),
  (11, .ifCond .ne 5, 3, 8, 0, 0, 0, []),
  (14, .iconst (-1), 1, 0, 0, 0, -1, []),
  (15, .ireturn, 1, 0, 0, 0, 0, []),
  (16, .aload_n 0, 1, 0, 0, 0, 0, []),
  (17, .getfield 93, 3, 11, 44, 2, 0, []),
  (20, .iload_n 1, 1, 0, 0, 0, 0, []),
  (21, .iaload, 1, 0, 0, 0, 0, []),
  (22, .iconst (-1), 1, 0, 0, 0, -1, []),
  (23, .if_icmp .eq 13, 3, 20, 0, 0, 0, []),
  (26, .aload_n 0, 1, 0, 0, 0, 0, []),
  (27, .getfield 93, 3, 11, 44, 2, 0, []),
  (30, .iload_n 3, 1, 0, 0, 0, 0, []),
  (31, .iaload, 1, 0, 0, 0, 0, []),
  (32, .iconst (-1), 1, 0, 0, 0, -1, []),
  (33, .if_icmp .ne 6, 3, 22, 0, 0, 0, []),
  (36, .bipush (-11), 2, 0, 0, 0, -11, []),
  (38, .ireturn, 1, 0, 0, 0, 0, []),
  (39, .aload_n 0, 1, 0, 0, 0, 0, []),
  (40, .iload_n 1, 1, 0, 0, 0, 0, []),
  (41, .invokevirtual 372, 3, 265, 2, 1, 0, []),
  (44, .ifCond .eq 26, 3, 39, 0, 0, 0, []),
  (47, .aload_n 0, 1, 0, 0, 0, 0, []),
  (48, .iload_n 3, 1, 0, 0, 0, 0, []),
  (49, .invokevirtual 372, 3, 265, 2, 1, 0, []),
  (52, .ifCond .eq 18, 3, 39, 0, 0, 0, []),
  (55, .aload_n 0, 1, 0, 0, 0, 0, []),
  (56, .getfield 93, 3, 11, 44, 2, 0, []),
  (59, .iload_n 1, 1, 0, 0, 0, 0, []),
  (60, .iaload, 1, 0, 0, 0, 0, []),
  (61, .aload_n 0, 1, 0, 0, 0, 0, []),
  (62, .getfield 93, 3, 11, 44, 2, 0, []),
  (65, .iload_n 3, 1, 0, 0, 0, 0, []),
  (66, .iaload, 1, 0, 0, 0, 0, []),
  (67, .if_icmp .eq 6, 3, 41, 0, 0, 0, []),
  (70, .bipush (-12), 2, 0, 0, 0, -12, []),
  (72, .ireturn, 1, 0, 0, 0, 0, []),
  (73, .iload 5, 2, 0, 0, 0, 0, []),
  (75, .ifCond .lt 47, 3, 71, 0, 0, 0, []),
  (78, .iload_n 2, 1, 0, 0, 0, 0, []),
  (79, .ifCond .lt 43, 3, 71, 0, 0, 0, []),
  (82, .iload 4, 2, 0, 0, 0, 0, []),
  (84, .ifCond .lt 38, 3, 71, 0, 0, 0, []),
  (87, .iload_n 2, 1, 0, 0, 0, 0, []),
  (88, .i2l, 1, 0, 0, 0, 0, []),
  (89, .iload 5, 2, 0, 0, 0, 0, []),
  (91, .i2l, 1, 0, 0, 0, 0, []),
  (92, .ladd, 1, 0, 0, 0, 0, []),
  (93, .aload_n 0, 1, 0, 0, 0, 0, []),
  (94, .getfield 96, 3, 11, 45, 2, 0, []),
  (97, .iload_n 1, 1, 0, 0, 0, 0, []),
  (98, .iaload, 1, 0, 0, 0, 0, []),
  (99, .i2l, 1, 0, 0, 0, 0, []),
  (100, .lcmp, 1, 0, 0, 0, 0, []),
  (101, .ifCond .gt 21, 3, 71, 0, 0, 0, []),
  (104, .iload 4, 2, 0, 0, 0, 0, []),
  (106, .i2l, 1, 0, 0, 0, 0, []),
  (107, .iload 5, 2, 0, 0, 0, 0, []),
  (109, .i2l, 1, 0, 0, 0, 0, []),
  (110, .ladd, 1, 0, 0, 0, 0, []),
  (111, .aload_n 0, 1, 0, 0, 0, 0, []),
  (112, .getfield 96, 3, 11, 45, 2, 0, []),
  (115, .iload_n 3, 1, 0, 0, 0, 0, []),
  (116, .iaload, 1, 0, 0, 0, 0, []),
  (117, .i2l, 1, 0, 0, 0, 0, []),
  (118, .lcmp, 1, 0, 0, 0, 0, []),
  (119, .ifCond .le 6, 3, 73, 0, 0, 0, []),
  (122, .bipush (-13), 2, 0, 0, 0, -13, []),
  (124, .ireturn, 1, 0, 0, 0, 0, []),
  (125, .iload_n 1, 1, 0, 0, 0, 0, []),
  (126, .iload_n 3, 1, 0, 0, 0, 0, []),
  (127, .if_icmp .ne 58, 3, 108, 0, 0, 0, []),
  (130, .iload_n 2, 1, 0, 0, 0, 0, []),
  (131, .iload 4, 2, 0, 0, 0, 0, []),
  (133, .if_icmp .ge 52, 3, 108, 0, 0, 0, []),
  (136, .iload 5, 2, 0, 0, 0, 0, []),
  (138, .iconst 1, 1, 0, 0, 0, 1, []),
  (139, .isub, 1, 0, 0, 0, 0, []),
  (140, .istore 6, 2, 0, 0, 0, 0, []),
  (142, .iload 6, 2, 0, 0, 0, 0, []),
  (144, .ifCond .lt 38, 3, 107, 0, 0, 0, []),
  (147, .aload_n 0, 1, 0, 0, 0, 0, []),
  (148, .getfield 99, 3, 11, 46, 2, 0, []),
  (151, .bipush 60, 2, 0, 0, 0, 60, []),
  (153, .iload_n 3, 1, 0, 0, 0, 0, []),
  (154, .imul, 1, 0, 0, 0, 0, []),
  (155, .iload 4, 2, 0, 0, 0, 0, []),
  (157, .iadd, 1, 0, 0, 0, 0, []),
  (158, .iload 6, 2, 0, 0, 0, 0, []),
  (160, .iadd, 1, 0, 0, 0, 0, []),
  (161, .aload_n 0, 1, 0, 0, 0, 0, []),
  (162, .getfield 99, 3, 11, 46, 2, 0, []),
  (165, .bipush 60, 2, 0, 0, 0, 60, []),
  (167, .iload_n 1, 1, 0, 0, 0, 0, []),
  (168, .imul, 1, 0, 0, 0, 0, []),
  (169, .iload_n 2, 1, 0, 0, 0, 0, []),
  (170, .iadd, 1, 0, 0, 0, 0, []),
  (171, .iload 6, 2, 0, 0, 0, 0, []),
  (173, .iadd, 1, 0, 0, 0, 0, []),
  (174, .laload, 1, 0, 0, 0, 0, []),
  (175, .lastore, 1, 0, 0, 0, 0, []),
  (176, .iinc 6 (-1), 3, 0, 0, 0, -1, []),
  (179, .goto (-37), 3, 83, 0, 0, 0, []),
  (182, .goto 48, 3, 135, 0, 0, 0, []),
  (185, .iconst 0, 1, 0, 0, 0, 0, []),
  (186, .istore 6, 2, 0, 0, 0, 0, []),
  (188, .iload 6, 2, 0, 0, 0, 0, []),
  (190, .iload 5, 2, 0, 0, 0, 0, []),
  (192, .if_icmp .ge 38, 3, 135, 0, 0, 0, []),
  (195, .aload_n 0, 1, 0, 0, 0, 0, []),
  (196, .getfield 99, 3, 11, 46, 2, 0, []),
  (199, .bipush 60, 2, 0, 0, 0, 60, []),
  (201, .iload_n 3, 1, 0, 0, 0, 0, []),
  (202, .imul, 1, 0, 0, 0, 0, []),
  (203, .iload 4, 2, 0, 0, 0, 0, []),
  (205, .iadd, 1, 0, 0, 0, 0, []),
  (206, .iload 6, 2, 0, 0, 0, 0, []),
  (208, .iadd, 1, 0, 0, 0, 0, []),
  (209, .aload_n 0, 1, 0, 0, 0, 0, []),
  (210, .getfield 99, 3, 11, 46, 2, 0, []),
  (213, .bipush 60, 2, 0, 0, 0, 60, []),
  (215, .iload_n 1, 1, 0, 0, 0, 0, []),
  (216, .imul, 1, 0, 0, 0, 0, []),
  (217, .iload_n 2, 1, 0, 0, 0, 0, []),
  (218, .iadd, 1, 0, 0, 0, 0, []),
  (219, .iload 6, 2, 0, 0, 0, 0, []),
  (221, .iadd, 1, 0, 0, 0, 0, []),
  (222, .laload, 1, 0, 0, 0, 0, []),
  (223, .lastore, 1, 0, 0, 0, 0, []),
  (224, .iinc 6 1, 3, 0, 0, 0, 1, []),
  (227, .goto (-39), 3, 110, 0, 0, 0, []),
  (230, .iload 5, 2, 0, 0, 0, 0, []),
  (232, .ireturn, 1, 0, 0, 0, 0, [])]
/-- yX11_taken -/
def mt_270 : List am_row := [
  (0, .iload_n 1, 1, 0, 0, 0, 0, []),
  (1, .invokestatic 143, 3, 174, 1, 1, 0, []),
  (4, .ifCond .eq 13, 3, 8, 0, 0, 0, []),
  (7, .iload_n 2, 1, 0, 0, 0, 0, []),
  (8, .iconst 0, 1, 0, 0, 0, 0, []),
  (9, .bipush 7, 2, 0, 0, 0, 7, []),
  (11, .invokestatic 122, 3, 168, 3, 1, 0, []),
  (14, .ifCond .ne 5, 3, 10, 0, 0, 0, []),
  (17, .iconst (-1), 1, 0, 0, 0, -1, []),
  (18, .ireturn, 1, 0, 0, 0, 0, []),
  (19, .aload_n 0, 1, 0, 0, 0, 0, []),
  (20, .getfield 93, 3, 11, 44, 2, 0, []),
  (23, .iload_n 1, 1, 0, 0, 0, 0, []),
  (24, .iaload, 1, 0, 0, 0, 0, []),
  (25, .iconst (-1), 1, 0, 0, 0, -1, []),
  (26, .if_icmp .ne 6, 3, 18, 0, 0, 0, []),
  (29, .bipush (-11), 2, 0, 0, 0, -11, []),
  (31, .ireturn, 1, 0, 0, 0, 0, []),
  (32, .aload_n 0, 1, 0, 0, 0, 0, []),
  (33, .iload_n 1, 1, 0, 0, 0, 0, []),
  (34, .invokevirtual 372, 3, 265, 2, 1, 0, []),
  (37, .ifCond .eq 6, 3, 24, 0, 0, 0, []),
  (40, .bipush (-12), 2, 0, 0, 0, -12, []),
  (42, .ireturn, 1, 0, 0, 0, 0, []),
  (43, .aload_n 0, 1, 0, 0, 0, 0, []),
  (44, .getfield 87, 3, 11, 41, 2, 0, []),
  (47, .aload_n 0, 1, 0, 0, 0, 0, []),
  (48, .getfield 93, 3, 11, 44, 2, 0, []),
  (51, .iload_n 1, 1, 0, 0, 0, 0, []),
  (52, .iaload, 1, 0, 0, 0, 0, []),
  (53, .bipush 10, 2, 0, 0, 0, 10, []),
  (55, .isub, 1, 0, 0, 0, 0, []),
  (56, .iaload, 1, 0, 0, 0, 0, []),
  (57, .istore_n 3, 1, 0, 0, 0, 0, []),
  (58, .iload_n 3, 1, 0, 0, 0, 0, []),
  (59, .istore 4, 2, 0, 0, 0, 0, []),
  (61, .iload 4, 2, 0, 0, 0, 0, []),
  (63, .iload_n 2, 1, 0, 0, 0, 0, []),
  (64, .if_icmp .eq 18, 3, 45, 0, 0, 0, []),
  (67, .iload 4, 2, 0, 0, 0, 0, []),
  (69, .ifCond .le 13, 3, 45, 0, 0, 0, []),
  (72, .iload 4, 2, 0, 0, 0, 0, []),
  (74, .invokestatic 357, 3, 254, 1, 1, 0, []),
  (77, .istore 4, 2, 0, 0, 0, 0, []),
  (79, .goto (-18), 3, 36, 0, 0, 0, []),
  (82, .iload 4, 2, 0, 0, 0, 0, []),
  (84, .iload_n 2, 1, 0, 0, 0, 0, []),
  (85, .if_icmp .ne 7, 3, 50, 0, 0, 0, []),
  (88, .iload_n 3, 1, 0, 0, 0, 0, []),
  (89, .goto 5, 3, 51, 0, 0, 0, []),
  (92, .bipush (-12), 2, 0, 0, 0, -12, []),
  (94, .ireturn, 1, 0, 0, 0, 0, [])]
/-- yX11_count -/
def mt_271 : List am_row := [
  (0, .iload_n 1, 1, 0, 0, 0, 0, []),
  (1, .tableswitch 69 0 5 #[39, 44, 49, 54, 59, 64], 39, 20, 0, 0, 0, [(0, 2), (1, 5), (2, 8), (3, 11), (4, 14), (5, 17)]),
  (40, .aload_n 0, 1, 0, 0, 0, 0, []),
  (41, .getfield 118, 3, 11, 0, 0, 0, []),
  (44, .ireturn, 1, 0, 0, 0, 0, []),
  (45, .aload_n 0, 1, 0, 0, 0, 0, []),
  (46, .getfield 126, 3, 11, 5, 0, 0, []),
  (49, .ireturn, 1, 0, 0, 0, 0, []),
  (50, .aload_n 0, 1, 0, 0, 0, 0, []),
  (51, .getfield 172, 3, 11, 13, 0, 0, []),
  (54, .ireturn, 1, 0, 0, 0, 0, []),
  (55, .aload_n 0, 1, 0, 0, 0, 0, []),
  (56, .getfield 166, 3, 11, 38, 0, 0, []),
  (59, .ireturn, 1, 0, 0, 0, 0, []),
  (60, .aload_n 0, 1, 0, 0, 0, 0, []),
  (61, .getfield 369, 3, 11, 40, 0, 0, []),
  (64, .ireturn, 1, 0, 0, 0, 0, []),
  (65, .aload_n 0, 1, 0, 0, 0, 0, []),
  (66, .getfield 348, 3, 11, 42, 0, 0, []),
  (69, .ireturn, 1, 0, 0, 0, 0, []),
  (70, .iconst (-1), 1, 0, 0, 0, -1, []),
  (71, .ireturn, 1, 0, 0, 0, 0, [])]
/-- yJ6_numberOfTrailingZeros_0f7a4 -/
def mt_272 : List am_row := [
  (0, .iload_n 0, 1, 0, 0, 0, 0, []),
  (1, .iconst (-1), 1, 0, 0, 0, -1, []),
  (2, .ixor, 1, 0, 0, 0, 0, []),
  (3, .iload_n 0, 1, 0, 0, 0, 0, []),
  (4, .iconst 1, 1, 0, 0, 0, 1, []),
  (5, .isub, 1, 0, 0, 0, 0, []),
  (6, .iand, 1, 0, 0, 0, 0, []),
  (7, .istore_n 0, 1, 0, 0, 0, 0, []),
  (8, .iload_n 0, 1, 0, 0, 0, 0, []),
  (9, .ifCond .gt 8, 3, 14, 0, 0, 0, []),
  (12, .iload_n 0, 1, 0, 0, 0, 0, []),
  (13, .bipush 32, 2, 0, 0, 0, 32, []),
  (15, .iand, 1, 0, 0, 0, 0, []),
  (16, .ireturn, 1, 0, 0, 0, 0, []),
  (17, .iconst 1, 1, 0, 0, 0, 1, []),
  (18, .istore_n 1, 1, 0, 0, 0, 0, []),
  (19, .iload_n 0, 1, 0, 0, 0, 0, []),
  (20, .ldc_w 264, 3, 0, 0, 0, 65536, []),
  (23, .if_icmp .le 11, 3, 24, 0, 0, 0, []),
  (26, .iinc 1 16, 3, 0, 0, 0, 16, []),
  (29, .iload_n 0, 1, 0, 0, 0, 0, []),
  (30, .bipush 16, 2, 0, 0, 0, 16, []),
  (32, .iushr, 1, 0, 0, 0, 0, []),
  (33, .istore_n 0, 1, 0, 0, 0, 0, []),
  (34, .iload_n 0, 1, 0, 0, 0, 0, []),
  (35, .sipush 256, 3, 0, 0, 0, 256, []),
  (38, .if_icmp .le 11, 3, 32, 0, 0, 0, []),
  (41, .iinc 1 8, 3, 0, 0, 0, 8, []),
  (44, .iload_n 0, 1, 0, 0, 0, 0, []),
  (45, .bipush 8, 2, 0, 0, 0, 8, []),
  (47, .iushr, 1, 0, 0, 0, 0, []),
  (48, .istore_n 0, 1, 0, 0, 0, 0, []),
  (49, .iload_n 0, 1, 0, 0, 0, 0, []),
  (50, .bipush 16, 2, 0, 0, 0, 16, []),
  (52, .if_icmp .le 10, 3, 40, 0, 0, 0, []),
  (55, .iinc 1 4, 3, 0, 0, 0, 4, []),
  (58, .iload_n 0, 1, 0, 0, 0, 0, []),
  (59, .iconst 4, 1, 0, 0, 0, 4, []),
  (60, .iushr, 1, 0, 0, 0, 0, []),
  (61, .istore_n 0, 1, 0, 0, 0, 0, []),
  (62, .iload_n 0, 1, 0, 0, 0, 0, []),
  (63, .iconst 4, 1, 0, 0, 0, 4, []),
  (64, .if_icmp .le 10, 3, 48, 0, 0, 0, []),
  (67, .iinc 1 2, 3, 0, 0, 0, 2, []),
  (70, .iload_n 0, 1, 0, 0, 0, 0, []),
  (71, .iconst 2, 1, 0, 0, 0, 2, []),
  (72, .iushr, 1, 0, 0, 0, 0, []),
  (73, .istore_n 0, 1, 0, 0, 0, 0, []),
  (74, .iload_n 1, 1, 0, 0, 0, 0, []),
  (75, .iload_n 0, 1, 0, 0, 0, 0, []),
  (76, .iconst 1, 1, 0, 0, 0, 1, []),
  (77, .iushr, 1, 0, 0, 0, 0, []),
  (78, .iadd, 1, 0, 0, 0, 0, []),
  (79, .ireturn, 1, 0, 0, 0, 0, [])]
/-- yJ6_bitCount_0f7a4 -/
def mt_273 : List am_row := [
  (0, .iload_n 0, 1, 0, 0, 0, 0, []),
  (1, .iload_n 0, 1, 0, 0, 0, 0, []),
  (2, .iconst 1, 1, 0, 0, 0, 1, []),
  (3, .iushr, 1, 0, 0, 0, 0, []),
  (4, .ldc_w 265, 3, 0, 0, 0, 1431655765, []),
  (7, .iand, 1, 0, 0, 0, 0, []),
  (8, .isub, 1, 0, 0, 0, 0, []),
  (9, .istore_n 0, 1, 0, 0, 0, 0, []),
  (10, .iload_n 0, 1, 0, 0, 0, 0, []),
  (11, .ldc_w 266, 3, 0, 0, 0, 858993459, []),
  (14, .iand, 1, 0, 0, 0, 0, []),
  (15, .iload_n 0, 1, 0, 0, 0, 0, []),
  (16, .iconst 2, 1, 0, 0, 0, 2, []),
  (17, .iushr, 1, 0, 0, 0, 0, []),
  (18, .ldc_w 266, 3, 0, 0, 0, 858993459, []),
  (21, .iand, 1, 0, 0, 0, 0, []),
  (22, .iadd, 1, 0, 0, 0, 0, []),
  (23, .istore_n 0, 1, 0, 0, 0, 0, []),
  (24, .iload_n 0, 1, 0, 0, 0, 0, []),
  (25, .iload_n 0, 1, 0, 0, 0, 0, []),
  (26, .iconst 4, 1, 0, 0, 0, 4, []),
  (27, .iushr, 1, 0, 0, 0, 0, []),
  (28, .iadd, 1, 0, 0, 0, 0, []),
  (29, .ldc_w 267, 3, 0, 0, 0, 252645135, []),
  (32, .iand, 1, 0, 0, 0, 0, []),
  (33, .istore_n 0, 1, 0, 0, 0, 0, []),
  (34, .iload_n 0, 1, 0, 0, 0, 0, []),
  (35, .iload_n 0, 1, 0, 0, 0, 0, []),
  (36, .bipush 8, 2, 0, 0, 0, 8, []),
  (38, .iushr, 1, 0, 0, 0, 0, []),
  (39, .iadd, 1, 0, 0, 0, 0, []),
  (40, .istore_n 0, 1, 0, 0, 0, 0, []),
  (41, .iload_n 0, 1, 0, 0, 0, 0, []),
  (42, .iload_n 0, 1, 0, 0, 0, 0, []),
  (43, .bipush 16, 2, 0, 0, 0, 16, []),
  (45, .iushr, 1, 0, 0, 0, 0, []),
  (46, .iadd, 1, 0, 0, 0, 0, []),
  (47, .istore_n 0, 1, 0, 0, 0, 0, []),
  (48, .iload_n 0, 1, 0, 0, 0, 0, []),
  (49, .bipush 63, 2, 0, 0, 0, 63, []),
  (51, .iand, 1, 0, 0, 0, 0, []),
  (52, .ireturn, 1, 0, 0, 0, 0, [])]
/-- yJ7_fill_d0a16 -/
def mt_274 : List am_row := [
  (0, .iconst 0, 1, 0, 0, 0, 0, []),
  (1, .istore_n 3, 1, 0, 0, 0, 0, []),
  (2, .aload_n 0, 1, 0, 0, 0, 0, []),
  (3, .arraylength, 1, 0, 0, 0, 0, []),
  (4, .istore 4, 2, 0, 0, 0, 0, []),
  (6, .iload_n 3, 1, 0, 0, 0, 0, []),
  (7, .iload 4, 2, 0, 0, 0, 0, []),
  (9, .if_icmp .ge 13, 3, 14, 0, 0, 0, []),
  (12, .aload_n 0, 1, 0, 0, 0, 0, []),
  (13, .iload_n 3, 1, 0, 0, 0, 0, []),
  (14, .lload_n 1, 1, 0, 0, 0, 0, []),
  (15, .lastore, 1, 0, 0, 0, 0, []),
  (16, .iinc 3 1, 3, 0, 0, 0, 1, []),
  (19, .goto (-13), 3, 5, 0, 0, 0, []),
  (22, .return_, 1, 0, 0, 0, 0, [])]
/-- yJ7_fill_53178 -/
def mt_275 : List am_row := [
  (0, .iconst 0, 1, 0, 0, 0, 0, []),
  (1, .istore_n 2, 1, 0, 0, 0, 0, []),
  (2, .aload_n 0, 1, 0, 0, 0, 0, []),
  (3, .arraylength, 1, 0, 0, 0, 0, []),
  (4, .istore_n 3, 1, 0, 0, 0, 0, []),
  (5, .iload_n 2, 1, 0, 0, 0, 0, []),
  (6, .iload_n 3, 1, 0, 0, 0, 0, []),
  (7, .if_icmp .ge 13, 3, 14, 0, 0, 0, []),
  (10, .aload_n 0, 1, 0, 0, 0, 0, []),
  (11, .iload_n 2, 1, 0, 0, 0, 0, []),
  (12, .iload_n 1, 1, 0, 0, 0, 0, []),
  (13, .iastore, 1, 0, 0, 0, 0, []),
  (14, .iinc 2 1, 3, 0, 0, 0, 1, []),
  (17, .goto (-12), 3, 5, 0, 0, 0, []),
  (20, .return_, 1, 0, 0, 0, 0, [])]
/-- yJ0_length_8abf5 -/
def mt_276 : List am_row := [
  (0, .aload_n 0, 1, 0, 0, 0, 0, []),
  (1, .getfield 9, 3, 100, 0, 2, 0, []),
  (4, .arraylength, 1, 0, 0, 0, 0, []),
  (5, .aload_n 0, 1, 0, 0, 0, 0, []),
  (6, .invokevirtual 335, 3, 279, 1, 1, 0, []),
  (9, .ishr, 1, 0, 0, 0, 0, []),
  (10, .ireturn, 1, 0, 0, 0, 0, [])]
/-- yJ0_indexOf_0f7a4 -/
def mt_277 : List am_row := [
  (0, .aload_n 0, 1, 0, 0, 0, 0, []),
  (1, .iload_n 1, 1, 0, 0, 0, 0, []),
  (2, .iconst 0, 1, 0, 0, 0, 0, []),
  (3, .invokevirtual 633, 3, 278, 3, 1, 0, []),
  (6, .ireturn, 1, 0, 0, 0, 0, [])]
/-- yJ0_indexOf_7cf53 -/
def mt_278 : List am_row := [
  (0, .aload_n 0, 1, 0, 0, 0, 0, []),
  (1, .invokevirtual 492, 3, 280, 1, 1, 0, []),
  (4, .ifCond .eq 19, 3, 11, 0, 0, 0, []),
  (7, .aload_n 0, 1, 0, 0, 0, 0, []),
  (8, .getfield 9, 3, 100, 0, 2, 0, []),
  (11, .iload_n 1, 1, 0, 0, 0, 0, []),
  (12, .iload_n 2, 1, 0, 0, 0, 0, []),
  (13, .aload_n 0, 1, 0, 0, 0, 0, []),
  (14, .invokevirtual 505, 3, 276, 1, 1, 0, []),
  (17, .invokestatic 637, 3, 282, 4, 1, 0, []),
  (20, .goto 16, 3, 18, 0, 0, 0, []),
  (23, .aload_n 0, 1, 0, 0, 0, 0, []),
  (24, .getfield 9, 3, 100, 0, 2, 0, []),
  (27, .iload_n 1, 1, 0, 0, 0, 0, []),
  (28, .iload_n 2, 1, 0, 0, 0, 0, []),
  (29, .aload_n 0, 1, 0, 0, 0, 0, []),
  (30, .invokevirtual 505, 3, 276, 1, 1, 0, []),
  (33, .invokestatic 640, 3, 2001, 4, 1, 0, []),
  (36, .ireturn, 1, 0, 0, 0, 0, [])]
/-- yJ0_coder_7d493 -/
def mt_279 : List am_row := [
  (0, .getstatic 38, 3, 0, 1, 0, 1, []),
  (3, .ifCond .eq 10, 3, 5, 0, 0, 0, []),
  (6, .aload_n 0, 1, 0, 0, 0, 0, []),
  (7, .getfield 15, 3, 100, 1, 0, 0, []),
  (10, .goto 4, 3, 6, 0, 0, 0, []),
  (13, .iconst 1, 1, 0, 0, 0, 1, []),
  (14, .ireturn, 1, 1, 0, 0, 0, [])]
/-- yJ0_isLatin1_aae02 -/
def mt_280 : List am_row := [
  (0, .getstatic 38, 3, 0, 1, 0, 1, []),
  (3, .ifCond .eq 14, 3, 7, 0, 0, 0, []),
  (6, .aload_n 0, 1, 0, 0, 0, 0, []),
  (7, .getfield 15, 3, 100, 1, 0, 0, []),
  (10, .ifCond .ne 7, 3, 7, 0, 0, 0, []),
  (13, .iconst 1, 1, 0, 0, 0, 1, []),
  (14, .goto 4, 3, 8, 0, 0, 0, []),
  (17, .iconst 0, 1, 0, 0, 0, 0, []),
  (18, .ireturn, 1, 1, 0, 0, 0, [])]
/-- yJ1_canEncode_9a6ad -/
def mt_281 : List am_row := [
  (0, .iload_n 0, 1, 0, 0, 0, 0, []),
  (1, .ifCond .lt 14, 3, 7, 0, 0, 0, []),
  (4, .iload_n 0, 1, 0, 0, 0, 0, []),
  (5, .sipush 255, 3, 0, 0, 0, 255, []),
  (8, .if_icmp .gt 7, 3, 7, 0, 0, 0, []),
  (11, .iconst 1, 1, 0, 0, 0, 1, []),
  (12, .goto 4, 3, 8, 0, 0, 0, []),
  (15, .iconst 0, 1, 0, 0, 0, 0, []),
  (16, .ireturn, 1, 1, 0, 0, 0, [])]
/-- yJ1_indexOf_4cfef -/
def mt_282 : List am_row := [
  (0, .iload_n 1, 1, 0, 0, 0, 0, []),
  (1, .invokestatic 88, 3, 281, 1, 1, 0, []),
  (4, .ifCond .ne 5, 3, 5, 0, 0, 0, []),
  (7, .iconst (-1), 1, 0, 0, 0, -1, []),
  (8, .ireturn, 1, 0, 0, 0, 0, []),
  (9, .iload_n 2, 1, 0, 0, 0, 0, []),
  (10, .iconst 0, 1, 0, 0, 0, 0, []),
  (11, .invokestatic 92, 3, 1000, 2, 1, 0, []),
  (14, .istore_n 2, 1, 0, 0, 0, 0, []),
  (15, .iload_n 3, 1, 0, 0, 0, 0, []),
  (16, .aload_n 0, 1, 0, 0, 0, 0, []),
  (17, .arraylength, 1, 0, 0, 0, 0, []),
  (18, .invokestatic 38, 3, 1001, 2, 1, 0, []),
  (21, .istore_n 3, 1, 0, 0, 0, 0, []),
  (22, .iload_n 2, 1, 0, 0, 0, 0, []),
  (23, .iload_n 3, 1, 0, 0, 0, 0, []),
  (24, .if_icmp .lt 5, 3, 19, 0, 0, 0, []),
  (27, .iconst (-1), 1, 0, 0, 0, -1, []),
  (28, .ireturn, 1, 0, 0, 0, 0, []),
  (29, .aload_n 0, 1, 0, 0, 0, 0, []),
  (30, .iload_n 1, 1, 0, 0, 0, 0, []),
  (31, .iload_n 2, 1, 0, 0, 0, 0, []),
  (32, .iload_n 3, 1, 0, 0, 0, 0, []),
  (33, .invokestatic 95, 3, 283, 4, 1, 0, []),
  (36, .ireturn, 1, 0, 0, 0, 0, [])]
/-- yJ1_indexOfChar_4cfef -/
def mt_283 : List am_row := [
  (0, .iload_n 1, 1, 0, 0, 0, 0, []),
  (1, .i2b, 1, 0, 0, 0, 0, []),
  (2, .istore 4, 2, 0, 0, 0, 0, []),
  (4, .iload_n 2, 1, 0, 0, 0, 0, []),
  (5, .istore 5, 2, 0, 0, 0, 0, []),
  (7, .iload 5, 2, 0, 0, 0, 0, []),
  (9, .iload_n 3, 1, 0, 0, 0, 0, []),
  (10, .if_icmp .ge 21, 3, 17, 0, 0, 0, []),
  (13, .aload_n 0, 1, 0, 0, 0, 0, []),
  (14, .iload 5, 2, 0, 0, 0, 0, []),
  (16, .baload, 1, 0, 0, 0, 0, []),
  (17, .iload 4, 2, 0, 0, 0, 0, []),
  (19, .if_icmp .ne 6, 3, 15, 0, 0, 0, []),
  (22, .iload 5, 2, 0, 0, 0, 0, []),
  (24, .ireturn, 1, 0, 0, 0, 0, []),
  (25, .iinc 5 1, 3, 0, 0, 0, 1, []),
  (28, .goto (-21), 3, 5, 0, 0, 0, []),
  (31, .iconst (-1), 1, 0, 0, 0, -1, []),
  (32, .ireturn, 1, 0, 0, 0, 0, [])]
abbrev am_tabs_0 : List (List am_row) := [mt_0, mt_1, mt_2, mt_3, mt_4, mt_5, mt_6, mt_7, mt_8, mt_9, mt_10, mt_11, mt_12, mt_13, mt_14, mt_15, mt_16, mt_17, mt_18, mt_19, mt_20, mt_21, mt_22, mt_23, mt_24, mt_25, mt_26, mt_27, mt_28, mt_29, mt_30, mt_31, mt_32, mt_33, mt_34, mt_35, mt_36, mt_37, mt_38, mt_39]
abbrev am_tabs_1 : List (List am_row) := [mt_40, mt_41, mt_42, mt_43, mt_44, mt_45, mt_46, mt_47, mt_48, mt_49, mt_50, mt_51, mt_52, mt_53, mt_54, mt_55, mt_56, mt_57, mt_58, mt_59, mt_60, mt_61, mt_62, mt_63, mt_64, mt_65, mt_66, mt_67, mt_68, mt_69, mt_70, mt_71, mt_72, mt_73, mt_74, mt_75, mt_76, mt_77, mt_78, mt_79]
abbrev am_tabs_2 : List (List am_row) := [mt_80, mt_81, mt_82, mt_83, mt_84, mt_85, mt_86, mt_87, mt_88, mt_89, mt_90, mt_91, mt_92, mt_93, mt_94, mt_95, mt_96, mt_97, mt_98, mt_99, mt_100, mt_101, mt_102, mt_103, mt_104, mt_105, mt_106, mt_107, mt_108, mt_109, mt_110, mt_111, mt_112, mt_113, mt_114, mt_115, mt_116, mt_117, mt_118, mt_119]
abbrev am_tabs_3 : List (List am_row) := [mt_120, mt_121, mt_122, mt_123, mt_124, mt_125, mt_126, mt_127, mt_128, mt_129, mt_130, mt_131, mt_132, mt_133, mt_134, mt_135, mt_136, mt_137, mt_138, mt_139, mt_140, mt_141, mt_142, mt_143, mt_144, mt_145, mt_146, mt_147, mt_148, mt_149, mt_150, mt_151, mt_152, mt_153, mt_154, mt_155, mt_156, mt_157, mt_158, mt_159]
abbrev am_tabs_4 : List (List am_row) := [mt_160, mt_161, mt_162, mt_163, mt_164, mt_165, mt_166, mt_167, mt_168, mt_169, mt_170, mt_171, mt_172, mt_173, mt_174, mt_175, mt_176, mt_177, mt_178, mt_179, mt_180, mt_181, mt_182, mt_183, mt_184, mt_185, mt_186, mt_187, mt_188, mt_189, mt_190, mt_191, mt_192, mt_193, mt_194, mt_195, mt_196, mt_197, mt_198, mt_199]
abbrev am_tabs_5 : List (List am_row) := [mt_200, mt_201, mt_202, mt_203, mt_204, mt_205, mt_206, mt_207, mt_208, mt_209, mt_210, mt_211, mt_212, mt_213, mt_214, mt_215, mt_216, mt_217, mt_218, mt_219, mt_220, mt_221, mt_222, mt_223, mt_224, mt_225, mt_226, mt_227, mt_228, mt_229, mt_230, mt_231, mt_232, mt_233, mt_234, mt_235, mt_236, mt_237, mt_238, mt_239]
abbrev am_tabs_6 : List (List am_row) := [mt_240, mt_241, mt_242, mt_243, mt_244, mt_245, mt_246, mt_247, mt_248, mt_249, mt_250, mt_251, mt_252, mt_253, mt_254, mt_255, mt_256, mt_257, mt_258, mt_259, mt_260, mt_261, mt_262, mt_263, mt_264, mt_265, mt_266, mt_267, mt_268, mt_269, mt_270, mt_271, mt_272, mt_273, mt_274, mt_275, mt_276, mt_277, mt_278, mt_279]
abbrev am_tabs_7 : List (List am_row) := [mt_280, mt_281, mt_282, mt_283]
abbrev am_tabs : List (List am_row) := am_tabs_0 ++ am_tabs_1 ++ am_tabs_2 ++ am_tabs_3 ++ am_tabs_4 ++ am_tabs_5 ++ am_tabs_6 ++ am_tabs_7
/-- the method's name, its class's words, maxLocals, return type, static -/
abbrev am_ms_0 : List (MethodName × ByteArray × Nat × Option FieldType × Bool × Nat × Nat) := [
  (yX0_hasDoor, cX0_hasDoor, 2, (Option.some FieldType.boolean), false, 1, 2),
  (yX0_hasChild, cX0_hasChild, 2, (Option.some FieldType.boolean), false, 1, 2),
  (yX0_has, cX0_has, 3, (Option.some FieldType.boolean), false, 2, 2),
  (yX0_fits, cX0_fits, 3, (Option.some FieldType.boolean), false, 2, 2),
  (yX0_get, cX0_get, 3, (Option.some FieldType.int), false, 2, 2),
  (yX0_set, cX0_set, 4, (Option.none : Option FieldType), false, 3, 2),
  (yX0_addDoor, cX0_addDoor, 4, (Option.some FieldType.boolean), false, 3, 2),
  (yX0_addChild, cX0_addChild, 3, (Option.some FieldType.boolean), false, 2, 2),
  (yX0_isAway, cX0_isAway, 4, (Option.some FieldType.boolean), false, 2, 2),
  (yX0_late, cX0_late, 5, (Option.some FieldType.int), false, 2, 2),
  (yX0_doorsAway, cX0_doorsAway, 4, (Option.some FieldType.int), false, 1, 2),
  (yX0_holdsOutTill, cX0_holdsOutTill, 3, (Option.some FieldType.int), false, 1, 2),
  (yX1_keepChange, cX1_keepChange, 6, (Option.none : Option FieldType), false, 4, 8),
  (yX1_takeBack, cX1_takeBack, 3, (Option.some FieldType.boolean), false, 1, 8),
  (yX1_makeAgain, cX1_makeAgain, 3, (Option.some FieldType.boolean), false, 1, 8),
  (yX2_opener, cX2_opener, 2, (Option.some FieldType.int), false, 1, 6),
  (yX2_dayPasses, cX2_dayPasses, 1, (Option.some FieldType.boolean), false, 0, 6),
  (yX2_lateFor, cX2_lateFor, 2, (Option.some FieldType.int), false, 1, 6),
  (yX2_openDoor, cX2_openDoor, 4, (Option.none : Option FieldType), false, 3, 6),
  (yX2_closedBehind, cX2_closedBehind, 3, (Option.some FieldType.int), false, 0, 6),
  (yX2_keepImage, cX2_keepImage, 1, (Option.none : Option FieldType), false, 0, 6),
  (yX2_layBack, cX2_layBack, 1, (Option.some FieldType.boolean), false, 0, 6),
  (yX3_isTooWide, cX3_isTooWide, 1, (Option.some FieldType.boolean), false, 0, 3),
  (yX3_owner, cX3_owner, 2, (Option.some FieldType.int), false, 1, 3),
  (yX3_findOut, cX3_findOut, 3, (Option.none : Option FieldType), false, 0, 3),
  (yX3_howMany, cX3_howMany, 3, (Option.some FieldType.int), false, 0, 3),
  (yX3_giveAllToFirst, cX3_giveAllToFirst, 3, (Option.none : Option FieldType), false, 0, 3),
  (yX3_weigh, cX3_weigh, 8, (Option.none : Option FieldType), false, 0, 3),
  (yX3_goOn, cX3_goOn, 3, (Option.none : Option FieldType), false, 0, 3),
  (yX3_handOver, cX3_handOver, 5, (Option.none : Option FieldType), false, 2, 3),
  (yX4_freshen, cX4_freshen, 3, (Option.none : Option FieldType), false, 0, 4),
  (yX4_orderDoors, cX4_orderDoors, 4, (Option.none : Option FieldType), false, 0, 4),
  (yX4_orderChildren, cX4_orderChildren, 4, (Option.none : Option FieldType), false, 0, 4),
  (yX4_giveBy, cX4_giveBy, 5, (Option.none : Option FieldType), false, 1, 4),
  (yX4_giveOffered, cX4_giveOffered, 5, (Option.some FieldType.int), false, 3, 4),
  (yX4_chosen, cX4_chosen, 6, (Option.some FieldType.int), false, 3, 4),
  (yX4_mostWilling, cX4_mostWilling, 5, (Option.some FieldType.int), false, 2, 4),
  (yX4_will, cX4_will, 4, (Option.some FieldType.int), false, 3, 4),
  (yX4_owner, cX4_owner, 3, (Option.some FieldType.int), false, 2, 4),
  (yX4_sumOf, cX4_sumOf, 3, (Option.some FieldType.int), false, 2, 4)]
abbrev am_ms_1 : List (MethodName × ByteArray × Nat × Option FieldType × Bool × Nat × Nat) := [
  (yX4_unfairBy, cX4_unfairBy, 2, (Option.some FieldType.int), false, 1, 4),
  (yX4_triedUnfair, cX4_triedUnfair, 1, (Option.some FieldType.int), false, 0, 4),
  (yX4_triedSum, cX4_triedSum, 2, (Option.some FieldType.int), false, 1, 4),
  (yX4_unfairOf, cX4_unfairOf, 5, (Option.some FieldType.int), false, 1, 4),
  (yX4_togetherBy, cX4_togetherBy, 4, (Option.some FieldType.int), false, 1, 4),
  (yX4_envyBy, cX4_envyBy, 5, (Option.some FieldType.int), false, 1, 4),
  (yX4_worthTo, cX4_worthTo, 6, (Option.some FieldType.int), false, 3, 4),
  (yX4_leastUnfairRule, cX4_leastUnfairRule, 4, (Option.some FieldType.int), false, 0, 4),
  (yX4_firstSwapBy, cX4_firstSwapBy, 2, (Option.some FieldType.int), false, 1, 4),
  (yX4_firstSwap, cX4_firstSwap, 3, (Option.some FieldType.int), false, 0, 4),
  (yX4_pleasesBoth, cX4_pleasesBoth, 5, (Option.some FieldType.boolean), false, 2, 4),
  (yX4_swapAll, cX4_swapAll, 5, (Option.some FieldType.int), false, 1, 4),
  (yX4_sumTried, cX4_sumTried, 3, (Option.none : Option FieldType), false, 0, 4),
  (yX4_divideBig, cX4_divideBig, 6, (Option.none : Option FieldType), false, 1, 4),
  (yX4_neverEaten, cX4_neverEaten, 5, (Option.some FieldType.int), false, 2, 4),
  (yX4_daysLate, cX4_daysLate, 5, (Option.some FieldType.int), false, 2, 4),
  (yX4_ownAfter, cX4_ownAfter, 6, (Option.some FieldType.int), false, 3, 4),
  (yX4_takeMine, cX4_takeMine, 4, (Option.none : Option FieldType), false, 2, 4),
  (yX4_gathered, cX4_gathered, 8, (Option.some FieldType.int), false, 2, 4),
  (yX4_bestGathering, cX4_bestGathering, 6, (Option.some FieldType.int), false, 1, 4),
  (yX4_giveTwice, cX4_giveTwice, 5, (Option.none : Option FieldType), false, 2, 4),
  (yX4_bestPair, cX4_bestPair, 7, (Option.some FieldType.int), false, 1, 4),
  (yX4_gainOf, cX4_gainOf, 4, (Option.some FieldType.int), false, 3, 4),
  (yX4_drawDecembers, cX4_drawDecembers, 7, (Option.some FieldType.int), false, 3, 4),
  (yX4_drawOne, cX4_drawOne, 5, (Option.some FieldType.int), false, 1, 4),
  (yX4_hasMost, cX4_hasMost, 3, (Option.some FieldType.boolean), false, 1, 4),
  (yX5_takeLetter, cX5_takeLetter, 2, (Option.some FieldType.boolean), false, 1, 9),
  (yX5_becomeLaw, cX5_becomeLaw, 2, (Option.some FieldType.int), false, 0, 9),
  (yX5_stands, cX5_stands, 1, (Option.some FieldType.boolean), false, 0, 9),
  (yX5_readLines, cX5_readLines, 2, (Option.some FieldType.boolean), false, 0, 9),
  (yX5_readLine, cX5_readLine, 1, (Option.some FieldType.boolean), false, 0, 9),
  (yX5_readLevel, cX5_readLevel, 7, (Option.some FieldType.boolean), false, 2, 9),
  (yX5_signsOf, cX5_signsOf, 1, (Option.some (FieldType.object "java/lang/String")), true, 1, 9),
  (yX5_readOperand, cX5_readOperand, 5, (Option.some FieldType.boolean), false, 1, 9),
  (yX5_readNumber, cX5_readNumber, 3, (Option.none : Option FieldType), false, 0, 9),
  (yX5_isDigitNext, cX5_isDigitNext, 1, (Option.some FieldType.boolean), false, 0, 9),
  (yX5_pass, cX5_pass, 2, (Option.some FieldType.int), false, 1, 9),
  (yX5_draftStep, cX5_draftStep, 2, (Option.none : Option FieldType), false, 1, 9),
  (yX5_workOut, cX5_workOut, 5, (Option.some FieldType.int), false, 1, 9),
  (yX5_takeStep, cX5_takeStep, 5, (Option.none : Option FieldType), false, 2, 9)]
abbrev am_ms_2 : List (MethodName × ByteArray × Nat × Option FieldType × Bool × Nat × Nat) := [
  (yX5_joined, cX5_joined, 3, (Option.some FieldType.int), true, 3, 9),
  (yX5_push, cX5_push, 2, (Option.none : Option FieldType), false, 1, 9),
  (yX5_pop, cX5_pop, 1, (Option.some FieldType.int), false, 0, 9),
  (yX6_isKind, cX6_isKind, 2, (Option.some FieldType.boolean), false, 1, 10),
  (yX6_hasBody, cX6_hasBody, 2, (Option.some FieldType.boolean), false, 1, 10),
  (yX6_addBody, cX6_addBody, 2, (Option.some FieldType.boolean), false, 1, 10),
  (yX6_kindOf, cX6_kindOf, 2, (Option.some FieldType.int), false, 1, 10),
  (yX6_isUnder, cX6_isUnder, 5, (Option.some FieldType.boolean), false, 2, 10),
  (yX6_hasTrace, cX6_hasTrace, 2, (Option.some FieldType.boolean), false, 1, 10),
  (yX6_traceAt, cX6_traceAt, 2, (Option.some FieldType.int), false, 1, 10),
  (yX6_run, cX6_run, 4, (Option.some FieldType.int), false, 3, 10),
  (yX6_begins, cX6_begins, 2, (Option.none : Option FieldType), false, 1, 10),
  (yX6_opensOf, cX6_opensOf, 6, (Option.some FieldType.int), false, 2, 10),
  (yX6_givesOf, cX6_givesOf, 7, (Option.some FieldType.int), false, 2, 10),
  (yX6_waitsOf, cX6_waitsOf, 6, (Option.some FieldType.int), false, 2, 10),
  (yX6_tellsOf, cX6_tellsOf, 6, (Option.some FieldType.int), false, 2, 10),
  (yX7_holdNothing, cX7_holdNothing, 1, (Option.none : Option FieldType), false, 0, 11),
  (yX7_holdBody, cX7_holdBody, 2, (Option.none : Option FieldType), false, 1, 11),
  (yX7_holdRow, cX7_holdRow, 3, (Option.none : Option FieldType), false, 2, 11),
  (yX7_refusesRow, cX7_refusesRow, 1, (Option.some FieldType.int), false, 0, 11),
  (yX7_refusesBytes, cX7_refusesBytes, 2, (Option.some FieldType.int), false, 0, 11),
  (yX7_hasPlace, cX7_hasPlace, 2, (Option.some FieldType.boolean), false, 1, 11),
  (yX7_hasPlaces, cX7_hasPlaces, 3, (Option.some FieldType.boolean), false, 2, 11),
  (yX7_at, cX7_at, 2, (Option.some FieldType.long), false, 1, 11),
  (yX7_putIn, cX7_putIn, 4, (Option.some FieldType.boolean), false, 2, 11),
  (yX7_lowest, cX7_lowest, 3, (Option.some FieldType.long), false, 1, 11),
  (yX7_takeFrom, cX7_takeFrom, 5, (Option.none : Option FieldType), false, 4, 11),
  (yX8_earlyOnes, cX8_earlyOnes, 6, (Option.some FieldType.int), false, 2, 5),
  (yX8_couldHaveBeen, cX8_couldHaveBeen, 7, (Option.some FieldType.int), false, 3, 5),
  (yX8_hasReason, cX8_hasReason, 6, (Option.some FieldType.boolean), false, 3, 5),
  (yX8_onlyOne, cX8_onlyOne, 3, (Option.some FieldType.int), false, 1, 5),
  (yX8_bestGuard, cX8_bestGuard, 4, (Option.some FieldType.int), false, 1, 5),
  (yX8_leftBy, cX8_leftBy, 3, (Option.some FieldType.int), false, 2, 5),
  (yX8_firstNotSo, cX8_firstNotSo, 5, (Option.some FieldType.int), false, 2, 5),
  (yX8_isSo, cX8_isSo, 4, (Option.some FieldType.boolean), false, 3, 5),
  (yX9_version, cX9_version, 1, (Option.some FieldType.int), false, 0, 7),
  (yX9_worthLate, cX9_worthLate, 6, (Option.some FieldType.int), false, 4, 7),
  (yX9_worthEaten, cX9_worthEaten, 5, (Option.some FieldType.int), false, 3, 7),
  (yX10_door, cX10_door, 3, (Option.some FieldType.int), false, 2, 1),
  (yX10_doors, cX10_doors, 6, (Option.some FieldType.int), false, 3, 1)]
abbrev am_ms_3 : List (MethodName × ByteArray × Nat × Option FieldType × Bool × Nat × Nat) := [
  (yX10_child, cX10_child, 3, (Option.some FieldType.int), false, 2, 1),
  (yX10_mend, cX10_mend, 5, (Option.some FieldType.int), false, 3, 1),
  (yX10_of, cX10_of, 3, (Option.some FieldType.int), false, 2, 1),
  (yX10_feed, cX10_feed, 2, (Option.some FieldType.int), false, 1, 1),
  (yX10_law, cX10_law, 1, (Option.some FieldType.int), false, 0, 1),
  (yX10_worth, cX10_worth, 5, (Option.some FieldType.int), false, 2, 1),
  (yX10_whose, cX10_whose, 2, (Option.some FieldType.int), false, 1, 1),
  (yX10_all, cX10_all, 2, (Option.some FieldType.int), false, 1, 1),
  (yX10_giving, cX10_giving, 3, (Option.some FieldType.int), false, 2, 1),
  (yX10_bestRule, cX10_bestRule, 3, (Option.some FieldType.int), false, 1, 1),
  (yX10_fairest, cX10_fairest, 2, (Option.some FieldType.int), false, 1, 1),
  (yX10_envyFree, cX10_envyFree, 1, (Option.some FieldType.int), false, 0, 1),
  (yX10_swap, cX10_swap, 2, (Option.some FieldType.int), false, 1, 1),
  (yX10_swaps, cX10_swaps, 4, (Option.some FieldType.int), false, 2, 1),
  (yX10_big, cX10_big, 3, (Option.some FieldType.int), false, 2, 1),
  (yX10_away, cX10_away, 3, (Option.some FieldType.int), false, 2, 1),
  (yX10_gather, cX10_gather, 3, (Option.some FieldType.int), false, 2, 1),
  (yX10_waits, cX10_waits, 4, (Option.some FieldType.int), false, 2, 1),
  (yX10_atFive, cX10_atFive, 8, (Option.some FieldType.int), false, 4, 1),
  (yX10_guard, cX10_guard, 9, (Option.some FieldType.int), false, 4, 1),
  (yX10_judge, cX10_judge, 4, (Option.some FieldType.int), false, 2, 1),
  (yX10_byWhat, cX10_byWhat, 5, (Option.some FieldType.int), false, 1, 1),
  (yX10_second, cX10_second, 3, (Option.some FieldType.int), false, 2, 1),
  (yX10_pairs, cX10_pairs, 4, (Option.some FieldType.int), false, 2, 1),
  (yX10_drawn, cX10_drawn, 4, (Option.some FieldType.int), false, 3, 1),
  (yX10_day, cX10_day, 1, (Option.some FieldType.int), false, 0, 1),
  (yX10_open, cX10_open, 4, (Option.some FieldType.int), false, 2, 1),
  (yX10_forgotten, cX10_forgotten, 1, (Option.some FieldType.int), false, 0, 1),
  (yX10_led, cX10_led, 2, (Option.some FieldType.int), false, 1, 1),
  (yX10_image, cX10_image, 1, (Option.some FieldType.int), false, 0, 1),
  (yX10_back, cX10_back, 1, (Option.some FieldType.int), false, 0, 1),
  (yX10_undo, cX10_undo, 1, (Option.some FieldType.int), false, 0, 1),
  (yX10_redo, cX10_redo, 1, (Option.some FieldType.int), false, 0, 1),
  (yX10_body, cX10_body, 2, (Option.some FieldType.int), false, 1, 1),
  (yX10_act, cX10_act, 4, (Option.some FieldType.int), false, 3, 1),
  (yX10_trace, cX10_trace, 2, (Option.some FieldType.int), false, 1, 1),
  (yX10_keep, cX10_keep, 3, (Option.some FieldType.int), false, 2, 1),
  (yX10_row, cX10_row, 4, (Option.some FieldType.int), false, 3, 1),
  (yX10_put, cX10_put, 7, (Option.some FieldType.int), false, 3, 1),
  (yX10_element, cX10_element, 4, (Option.some FieldType.long), false, 2, 1)]
abbrev am_ms_4 : List (MethodName × ByteArray × Nat × Option FieldType × Bool × Nat × Nat) := [
  (yX10_shift, cX10_shift, 8, (Option.some FieldType.int), false, 5, 1),
  (yX10_taken, cX10_taken, 5, (Option.some FieldType.int), false, 2, 1),
  (yX10_count, cX10_count, 2, (Option.some FieldType.int), false, 1, 1),
  (yX10_isRule, cX10_isRule, 1, (Option.some FieldType.boolean), true, 1, 1),
  (yX10_isRuleAndChild, cX10_isRuleAndChild, 2, (Option.some FieldType.boolean), false, 1, 1),
  (yX10_isShelf, cX10_isShelf, 2, (Option.some FieldType.boolean), false, 1, 1),
  (yX10_fresh, cX10_fresh, 1, (Option.some (FieldType.object "DoorsForThree$Givings")), false, 0, 1),
  (yX10_doorComes, cX10_doorComes, 8, (Option.some FieldType.boolean), false, 3, 1),
  (yX11_within, cX11_within, 3, (Option.some FieldType.boolean), true, 3, 15),
  (yX11_isDoor, cX11_isDoor, 2, (Option.some FieldType.boolean), false, 1, 15),
  (yX11_isChild, cX11_isChild, 2, (Option.some FieldType.boolean), false, 1, 15),
  (yX11_isRule, cX11_isRule, 1, (Option.some FieldType.boolean), true, 1, 15),
  (yX11_isOne, cX11_isOne, 2, (Option.some FieldType.boolean), false, 1, 15),
  (yX11_isDay, cX11_isDay, 1, (Option.some FieldType.boolean), true, 1, 15),
  (yX11_isShelf, cX11_isShelf, 1, (Option.some FieldType.boolean), true, 1, 15),
  (yX11_has, cX11_has, 2, (Option.some FieldType.boolean), true, 2, 15),
  (yX11_newDoor, cX11_newDoor, 4, (Option.some FieldType.int), false, 3, 15),
  (yX11_door, cX11_door, 3, (Option.some FieldType.int), false, 2, 15),
  (yX11_doors, cX11_doors, 9, (Option.some FieldType.int), false, 3, 15),
  (yX11_child, cX11_child, 3, (Option.some FieldType.int), false, 2, 15),
  (yX11_isOf, cX11_isOf, 3, (Option.some FieldType.boolean), false, 2, 15),
  (yX11_isFit, cX11_isFit, 2, (Option.some FieldType.boolean), true, 2, 15),
  (yX11_get, cX11_get, 3, (Option.some FieldType.int), false, 2, 15),
  (yX11_becomes, cX11_becomes, 4, (Option.none : Option FieldType), false, 3, 15),
  (yX11_mend, cX11_mend, 6, (Option.some FieldType.int), false, 3, 15),
  (yX11_of, cX11_of, 3, (Option.some FieldType.int), false, 2, 15),
  (yX11_undo, cX11_undo, 1, (Option.some FieldType.int), false, 0, 15),
  (yX11_redo, cX11_redo, 1, (Option.some FieldType.int), false, 0, 15),
  (yX11_feed, cX11_feed, 2, (Option.some FieldType.int), false, 1, 15),
  (yX11_sign, cX11_sign, 1, (Option.some FieldType.int), false, 0, 15),
  (yX11_is, cX11_is, 2, (Option.some FieldType.boolean), false, 1, 15),
  (yX11_codes, cX11_codes, 2, (Option.some FieldType.boolean), false, 1, 15),
  (yX11_isDigit, cX11_isDigit, 1, (Option.some FieldType.boolean), false, 0, 15),
  (yX11_nameOf, cX11_nameOf, 1, (Option.some FieldType.int), true, 1, 15),
  (yX11_isO, cX11_isO, 3, (Option.some FieldType.boolean), false, 0, 15),
  (yX11_isP, cX11_isP, 2, (Option.some FieldType.boolean), false, 0, 15),
  (yX11_isS, cX11_isS, 2, (Option.some FieldType.boolean), false, 0, 15),
  (yX11_isB, cX11_isB, 2, (Option.some FieldType.boolean), false, 0, 15),
  (yX11_isA, cX11_isA, 1, (Option.some FieldType.boolean), false, 0, 15),
  (yX11_isE, cX11_isE, 1, (Option.some FieldType.boolean), false, 0, 15)]
abbrev am_ms_5 : List (MethodName × ByteArray × Nat × Option FieldType × Bool × Nat × Nat) := [
  (yX11_isLine, cX11_isLine, 1, (Option.some FieldType.boolean), false, 0, 15),
  (yX11_law, cX11_law, 4, (Option.some FieldType.int), false, 0, 15),
  (yX11_both, cX11_both, 3, (Option.some FieldType.int), true, 3, 15),
  (yX11_worked, cX11_worked, 6, (Option.some FieldType.int), false, 2, 15),
  (yX11_worthOf, cX11_worthOf, 5, (Option.some FieldType.int), false, 3, 15),
  (yX11_worth, cX11_worth, 3, (Option.some FieldType.int), false, 2, 15),
  (yX11_isAway, cX11_isAway, 3, (Option.some FieldType.boolean), false, 2, 15),
  (yX11_late, cX11_late, 3, (Option.some FieldType.int), false, 2, 15),
  (yX11_eaten, cX11_eaten, 4, (Option.some FieldType.int), false, 2, 15),
  (yX11_orders, cX11_orders, 5, (Option.none : Option FieldType), false, 2, 15),
  (yX11_ages, cX11_ages, 3, (Option.none : Option FieldType), false, 0, 15),
  (yX11_goesTo, cX11_goesTo, 7, (Option.some FieldType.int), false, 2, 15),
  (yX11_goes, cX11_goes, 6, (Option.none : Option FieldType), false, 3, 15),
  (yX11_gives, cX11_gives, 3, (Option.none : Option FieldType), false, 1, 15),
  (yX11_sums, cX11_sums, 2, (Option.none : Option FieldType), false, 0, 15),
  (yX11_unfair, cX11_unfair, 4, (Option.some FieldType.int), false, 0, 15),
  (yX11_together, cX11_together, 3, (Option.some FieldType.int), false, 0, 15),
  (yX11_worthTo, cX11_worthTo, 5, (Option.some FieldType.int), false, 2, 15),
  (yX11_envy, cX11_envy, 4, (Option.some FieldType.int), false, 0, 15),
  (yX11_whose, cX11_whose, 2, (Option.some FieldType.int), false, 1, 15),
  (yX11_all, cX11_all, 2, (Option.some FieldType.int), false, 1, 15),
  (yX11_giving, cX11_giving, 3, (Option.some FieldType.int), false, 2, 15),
  (yX11_bestRule, cX11_bestRule, 6, (Option.some FieldType.int), false, 1, 15),
  (yX11_isMuch, cX11_isMuch, 1, (Option.some FieldType.boolean), false, 0, 15),
  (yX11_nextGiving, cX11_nextGiving, 2, (Option.some FieldType.boolean), false, 0, 15),
  (yX11_fairest, cX11_fairest, 6, (Option.some FieldType.int), false, 1, 15),
  (yX11_envyFree, cX11_envyFree, 3, (Option.some FieldType.int), false, 0, 15),
  (yX11_bothMore, cX11_bothMore, 5, (Option.some FieldType.boolean), false, 2, 15),
  (yX11_firstSwap, cX11_firstSwap, 3, (Option.some FieldType.int), false, 0, 15),
  (yX11_swap, cX11_swap, 2, (Option.some FieldType.int), false, 1, 15),
  (yX11_swaps, cX11_swaps, 6, (Option.some FieldType.int), false, 2, 15),
  (yX11_big, cX11_big, 6, (Option.some FieldType.int), false, 2, 15),
  (yX11_away, cX11_away, 7, (Option.some FieldType.int), false, 2, 15),
  (yX11_gathered, cX11_gathered, 9, (Option.some FieldType.int), false, 2, 15),
  (yX11_gather, cX11_gather, 5, (Option.some FieldType.int), false, 2, 15),
  (yX11_waits, cX11_waits, 7, (Option.some FieldType.int), false, 2, 15),
  (yX11_noRow, cX11_noRow, 2, (Option.some FieldType.int), false, 1, 15),
  (yX11_toldAt, cX11_toldAt, 3, (Option.some FieldType.int), false, 2, 15),
  (yX11_early, cX11_early, 5, (Option.some FieldType.int), false, 2, 15),
  (yX11_couldBe, cX11_couldBe, 6, (Option.some FieldType.int), false, 2, 15)]
abbrev am_ms_6 : List (MethodName × ByteArray × Nat × Option FieldType × Bool × Nat × Nat) := [
  (yX11_atFive, cX11_atFive, 8, (Option.some FieldType.int), false, 4, 15),
  (yX11_guard, cX11_guard, 11, (Option.some FieldType.int), false, 4, 15),
  (yX11_wrong, cX11_wrong, 4, (Option.some FieldType.int), false, 2, 15),
  (yX11_judge, cX11_judge, 4, (Option.some FieldType.int), false, 2, 15),
  (yX11_byWhat, cX11_byWhat, 5, (Option.some FieldType.int), false, 1, 15),
  (yX11_second, cX11_second, 4, (Option.some FieldType.int), false, 2, 15),
  (yX11_pairs, cX11_pairs, 8, (Option.some FieldType.int), false, 2, 15),
  (yX11_drawn, cX11_drawn, 10, (Option.some FieldType.int), false, 3, 15),
  (yX11_day, cX11_day, 1, (Option.some FieldType.int), false, 0, 15),
  (yX11_open, cX11_open, 4, (Option.some FieldType.int), false, 2, 15),
  (yX11_forgotten, cX11_forgotten, 3, (Option.some FieldType.int), false, 0, 15),
  (yX11_led, cX11_led, 2, (Option.some FieldType.int), false, 1, 15),
  (yX11_image, cX11_image, 2, (Option.some FieldType.int), false, 0, 15),
  (yX11_back, cX11_back, 2, (Option.some FieldType.int), false, 0, 15),
  (yX11_above, cX11_above, 1, (Option.some FieldType.int), true, 1, 15),
  (yX11_ran, cX11_ran, 2, (Option.none : Option FieldType), false, 1, 15),
  (yX11_opensBy, cX11_opensBy, 4, (Option.some FieldType.int), false, 3, 15),
  (yX11_givesBy, cX11_givesBy, 5, (Option.some FieldType.int), false, 3, 15),
  (yX11_waitsBy, cX11_waitsBy, 5, (Option.some FieldType.int), false, 3, 15),
  (yX11_tells, cX11_tells, 5, (Option.some FieldType.int), false, 3, 15),
  (yX11_body, cX11_body, 2, (Option.some FieldType.int), false, 1, 15),
  (yX11_act, cX11_act, 5, (Option.some FieldType.int), false, 3, 15),
  (yX11_trace, cX11_trace, 2, (Option.some FieldType.int), false, 1, 15),
  (yX11_keep, cX11_keep, 3, (Option.some FieldType.int), false, 2, 15),
  (yX11_row, cX11_row, 5, (Option.some FieldType.int), false, 3, 15),
  (yX11_isRow, cX11_isRow, 2, (Option.some FieldType.boolean), false, 1, 15),
  (yX11_kept, cX11_kept, 3, (Option.some FieldType.long), true, 2, 15),
  (yX11_put, cX11_put, 5, (Option.some FieldType.int), false, 3, 15),
  (yX11_element, cX11_element, 3, (Option.some FieldType.long), false, 2, 15),
  (yX11_shift, cX11_shift, 7, (Option.some FieldType.int), false, 5, 15),
  (yX11_taken, cX11_taken, 5, (Option.some FieldType.int), false, 2, 15),
  (yX11_count, cX11_count, 2, (Option.some FieldType.int), false, 1, 15),
  (yJ6_numberOfTrailingZeros_0f7a4, cJ6_numberOfTrailingZeros_0f7a4, 2, (Option.some FieldType.int), true, 1, 14),
  (yJ6_bitCount_0f7a4, cJ6_bitCount_0f7a4, 1, (Option.some FieldType.int), true, 1, 14),
  (yJ7_fill_d0a16, cJ7_fill_d0a16, 5, (Option.none : Option FieldType), true, 2, 99),
  (yJ7_fill_53178, cJ7_fill_53178, 4, (Option.none : Option FieldType), true, 2, 99),
  (yJ0_length_8abf5, cJ0_length_8abf5, 1, (Option.some FieldType.int), false, 0, 12),
  (yJ0_indexOf_0f7a4, cJ0_indexOf_0f7a4, 2, (Option.some FieldType.int), false, 1, 12),
  (yJ0_indexOf_7cf53, cJ0_indexOf_7cf53, 3, (Option.some FieldType.int), false, 2, 12),
  (yJ0_coder_7d493, cJ0_coder_7d493, 1, (Option.some FieldType.byte), false, 0, 12)]
abbrev am_ms_7 : List (MethodName × ByteArray × Nat × Option FieldType × Bool × Nat × Nat) := [
  (yJ0_isLatin1_aae02, cJ0_isLatin1_aae02, 1, (Option.some FieldType.boolean), false, 0, 12),
  (yJ1_canEncode_9a6ad, cJ1_canEncode_9a6ad, 1, (Option.some FieldType.boolean), true, 1, 13),
  (yJ1_indexOf_4cfef, cJ1_indexOf_4cfef, 4, (Option.some FieldType.int), true, 4, 13),
  (yJ1_indexOfChar_4cfef, cJ1_indexOfChar_4cfef, 6, (Option.some FieldType.int), true, 4, 13)]
abbrev am_ms : List (MethodName × ByteArray × Nat × Option FieldType × Bool × Nat × Nat) := am_ms_0 ++ am_ms_1 ++ am_ms_2 ++ am_ms_3 ++ am_ms_4 ++ am_ms_5 ++ am_ms_6 ++ am_ms_7
abbrev am_NM : Nat := 284
end
section
/-! the tables hold: a check of each row, decided -/
abbrev am_mrow : Type := MethodName × ByteArray × Nat × Option FieldType × Bool × Nat × Nat
def am_m0 : am_mrow := (⟨"", "", ""⟩, ⟨#[]⟩, 0, none, false, 0, 99)
def am_m (f : Nat) : am_mrow := am_nth am_m0 am_ms f
def am_tab (f : Nat) : List am_row := am_nth [] am_tabs f
def am_pcs (t : List am_row) (i : Nat) : Nat := match t[i]? with
  | some r => r.1
  | none => 0
def am_isr (d : String) : Bool := !(d == "I" || d == "Z")
def am_rko : Option FieldType → Nat
  | none => 0
  | some .long => 2
  | some (.object _) => 3
  | some (.array _) => 3
  | some _ => 1
def am_stn : Nat → String × String
  | 114 => ("DoorsForThree$Calendar", "LEAST")
  | 115 => ("DoorsForThree$Calendar", "MOST")
  | _ => ("DoorsForThree$Pictures", "ABOVE")
def am_sfn : Nat → String × String
  | 0 => ("value", "[B")
  | _ => ("coder", "B")
def am_host : String := "DoorsForThree"
def am_chk (y : MethodName) (bc : ByteArray) (nL : Nat) (rt : Option FieldType) (lk : List Cond) (t : List am_row) (i : Nat) (r : am_row) : Bool :=
  match r with
  | (pc, ins, len, k1, k2, k3, v, sw) =>
    decide (decode bc pc = .ok (ins, len)) && (match ins with
    | .aload _ => len == 2 && am_pcs t (i + 1) == pc + 2
    | .iload _ => len == 2 && am_pcs t (i + 1) == pc + 2
    | .lload _ => len == 2 && am_pcs t (i + 1) == pc + 2
    | .astore n => len == 2 && am_pcs t (i + 1) == pc + 2 && decide (n < nL)
    | .istore n => len == 2 && am_pcs t (i + 1) == pc + 2 && decide (n < nL)
    | .lstore n => len == 2 && am_pcs t (i + 1) == pc + 2 && decide (n + 1 < nL)
    | .astore_n n => len == 1 && am_pcs t (i + 1) == pc + 1 && decide ((n : Nat) < nL)
    | .istore_n n => len == 1 && am_pcs t (i + 1) == pc + 1 && decide ((n : Nat) < nL)
    | .lstore_n n => len == 1 && am_pcs t (i + 1) == pc + 1 && decide ((n : Nat) + 1 < nL)
    | .iinc n c => len == 3 && am_pcs t (i + 1) == pc + 3 && decide (n < nL) && decide (Int32.ofInt c = v)
    | .iconst c => len == 1 && am_pcs t (i + 1) == pc + 1 && decide (Int32.ofInt c = v)
    | .bipush c => len == 2 && am_pcs t (i + 1) == pc + 2 && decide ((Int8.ofInt c).toInt32 = v)
    | .sipush c => len == 3 && am_pcs t (i + 1) == pc + 3 && decide ((Int16.ofInt c).toInt32 = v)
    | .ldc q => len == 2 && am_pcs t (i + 1) == pc + 2 && (match k2 with
      | 0 => decide (Cond.constant y.cls q v ∈ lk)
      | _ => y.cls == "DoorsForThree$Law" && am_strs.any fun e => e.1 == q && e.2.2 == k1)
    | .ldc_w q => len == 3 && am_pcs t (i + 1) == pc + 3 && decide (Cond.constant y.cls q v ∈ lk)
    | .ldc2_w q => len == 3 && am_pcs t (i + 1) == pc + 3 && decide (Cond.constantLong y.cls q (am_lc k1) ∈ lk)
    | .lconst c => len == 1 && am_pcs t (i + 1) == pc + 1 && decide (Int64.ofNat (c : Nat) = am_lc k1)
    | .goto off => len == 3 && decide ((pc : Int) + off = (am_pcs t k1 : Int))
    | .ifCond _ off => len == 3 && am_pcs t (i + 1) == pc + 3 && decide ((pc : Int) + off = (am_pcs t k1 : Int))
    | .if_icmp _ off => len == 3 && am_pcs t (i + 1) == pc + 3 && decide ((pc : Int) + off = (am_pcs t k1 : Int))
    | .tableswitch d lo hi offs => decide ((pc : Int) + d = (am_pcs t k1 : Int)) && sw.length == offs.size && decide (hi + 1 = lo + (offs.size : Int)) &&
        (List.range offs.size).all fun j => match sw[j]?, offs[j]? with
          | some (w, tj), some o => decide (w.toInt = lo + (j : Int)) && decide ((pc : Int) + o = (am_pcs t tj : Int))
          | _, _ => false
    | .lookupswitch d ps => decide ((pc : Int) + d = (am_pcs t k1 : Int)) && sw.length == ps.size && ((ps.toList.zip (ps.toList.drop 1)).all fun (a, next) => a.1 < next.1) &&
        (List.range ps.size).all fun j => match sw[j]?, ps[j]? with
          | some (w, tj), some o => decide (w.toInt = o.1) && decide ((pc : Int) + o.2 = (am_pcs t tj : Int))
          | _, _ => false
    | .getfield q => len == 3 && am_pcs t (i + 1) == pc + 3 && ((k1 == 100 && decide (Cond.fieldLink y.cls q "java/lang/String" (am_sfn k2).1 (am_sfn k2).2 ∈ lk) && ((k2 == 0 && k3 == 2) || (k2 == 1 && k3 == 0))) || match vwCl[k1]? with
      | some (C, T, N) => decide (k2 < N) && (T k2).1 == C && (decide (Cond.fieldLink y.cls q C (T k2).2.1 (T k2).2.2.1 ∈ lk) || decide (Cond.fieldLinkNest y.cls q C (T k2).2.1 (T k2).2.2.1 am_host ∈ lk)) && (am_isr (T k2).2.2.1 == (k3 == 2))
      | none => false)
    | .putfield q => len == 3 && am_pcs t (i + 1) == pc + 3 && (match vwCl[k1]? with
      | some (C, T, N) => decide (k2 < N) && (T k2).1 == C && (T k2).2.2.2 == false && decide (Cond.fieldLink y.cls q C (T k2).2.1 (T k2).2.2.1 ∈ lk) && (((T k2).2.2.1 == "I" && k3 == 0) || ((T k2).2.2.1 == "Z" && k3 == 1))
      | none => false)
    | .getstatic q => len == 3 && am_pcs t (i + 1) == pc + 3 && (match k2 with
      | 0 => (k1 == 114 || k1 == 115 || k1 == 116) && decide (Cond.fieldLink y.cls q (am_stn k1).1 (am_stn k1).2 "[I" ∈ lk)
      | _ => v == 1 && decide (Cond.fieldLink y.cls q "java/lang/String" "COMPACT_STRINGS" "Z" ∈ lk))
    | .invokevirtual q => len == 3 && am_pcs t (i + 1) == pc + 3 && (match k1 with
      | 1000 => false
      | 1001 => false
      | 1002 => false
      | 2001 => true
      | _ => decide (k1 < am_NM) && decide (Cond.methodLink y.cls q (am_m k1).1 ∈ lk) && (am_m k1).2.2.2.2.1 == false && k2 == (am_m k1).2.2.2.2.2.1 + 1 && k3 == am_rko (am_m k1).2.2.2.1)
    | .invokestatic q => len == 3 && am_pcs t (i + 1) == pc + 3 && (match k1 with
      | 1000 => decide (Cond.methodLink y.cls q Lib.Math.max.name ∈ lk)
      | 1001 => decide (Cond.methodLink y.cls q Lib.Math.min.name ∈ lk)
      | 1002 => decide (Cond.methodLink y.cls q arraycopyName ∈ lk)
      | 2001 => true
      | _ => decide (k1 < am_NM) && decide (Cond.methodLink y.cls q (am_m k1).1 ∈ lk) && (am_m k1).2.2.2.2.1 == true && k2 == (am_m k1).2.2.2.2.2.1 && k3 == am_rko (am_m k1).2.2.2.1)
    | .ireturn => len == 1 && (match k1 with
      | 0 => decide (rt = some .int)
      | _ => decide (rt = some .boolean) || decide (rt = some .byte))
    | .lreturn => len == 1 && decide (rt = some .long)
    | .areturn => len == 1 && (match rt with
      | some (.object _) => true
      | _ => false)
    | .return_ => len == 1 && decide (rt = none)
    | _ => len == 1 && am_pcs t (i + 1) == pc + 1)
def am_chks (y : MethodName) (bc : ByteArray) (nL : Nat) (rt : Option FieldType) (lk : List Cond) (t : List am_row) : Nat → List am_row → Bool
  | _, [] => true
  | i, r :: l => am_chk y bc nL rt lk t i r && am_chks y bc nL rt lk t (i + 1) l
def am_okt (f : Nat) : Bool := match am_m f with
  | (y, bc, nL, rt, _, _, lk) => am_chks y bc nL rt (am_lks lk) (am_tab f) 0 (am_tab f) && am_pcs (am_tab f) 0 == 0
end
section
/-! the checks, decided -/
set_option maxRecDepth 1000000 in
theorem am_okt_0 : (List.range' 0 24).all am_okt = true := by decide +kernel
set_option maxRecDepth 1000000 in
theorem am_okt_1 : (List.range' 24 24).all am_okt = true := by decide +kernel
set_option maxRecDepth 1000000 in
theorem am_okt_2 : (List.range' 48 24).all am_okt = true := by decide +kernel
set_option maxRecDepth 1000000 in
theorem am_okt_3 : (List.range' 72 24).all am_okt = true := by decide +kernel
set_option maxRecDepth 1000000 in
theorem am_okt_4 : (List.range' 96 24).all am_okt = true := by decide +kernel
set_option maxRecDepth 1000000 in
theorem am_okt_5 : (List.range' 120 24).all am_okt = true := by decide +kernel
set_option maxRecDepth 1000000 in
theorem am_okt_6 : (List.range' 144 24).all am_okt = true := by decide +kernel
set_option maxRecDepth 1000000 in
theorem am_okt_7 : (List.range' 168 24).all am_okt = true := by decide +kernel
set_option maxRecDepth 1000000 in
theorem am_okt_8 : (List.range' 192 24).all am_okt = true := by decide +kernel
set_option maxRecDepth 1000000 in
theorem am_okt_9 : (List.range' 216 24).all am_okt = true := by decide +kernel
set_option maxRecDepth 1000000 in
theorem am_okt_10 : (List.range' 240 24).all am_okt = true := by decide +kernel
set_option maxRecDepth 1000000 in
theorem am_okt_11 : (List.range' 264 20).all am_okt = true := by decide +kernel
end
section
/-! the words of the calls are among the tables' words, by their places -/
abbrev am_mix : List (Nat × Nat × Nat × Nat) := [(487, 93, 485, 486), (491, 93, 489, 490), (483, 93, 481, 482), (467, 93, 465, 466), (536, 93, 534, 535), (479, 93, 477, 478), (475, 93, 473, 474), (527, 93, 525, 526), (778, 93, 776, 777), (773, 93, 771, 772), (953, 93, 951, 952), (988, 93, 986, 987), (540, 94, 538, 539), (1155, 94, 1153, 1154), (1164, 94, 1162, 1163), (553, 100, 551, 552), (1103, 100, 1101, 1102), (1111, 100, 1109, 1110), (1117, 100, 1115, 1116), (1125, 100, 1123, 1124), (1138, 100, 1136, 1137), (1147, 100, 1145, 1146), (861, 98, 859, 860), (895, 98, 893, 894), (865, 98, 863, 864), (876, 98, 875, 25), (870, 98, 869, 24), (880, 98, 879, 26), (887, 98, 886, 27), (891, 98, 890, 28), (752, 97, 750, 751), (760, 97, 759, 14), (765, 97, 764, 15), (783, 97, 782, 16), (788, 97, 787, 17), (792, 97, 791, 18), (796, 97, 795, 19), (800, 97, 799, 20), (805, 97, 803, 804), (817, 97, 815, 816), (825, 97, 823, 824), (933, 97, 931, 932), (945, 97, 943, 944), (829, 97, 828, 22), (835, 97, 833, 834), (839, 97, 837, 838), (843, 97, 842, 23), (851, 97, 849, 850), (907, 97, 905, 906), (912, 97, 911, 29), (916, 97, 915, 30), (924, 97, 922, 923), (929, 97, 928, 31), (941, 97, 939, 940), (957, 97, 955, 956), (962, 97, 960, 961), (993, 97, 991, 992), (970, 97, 968, 969), (978, 97, 976, 977), (974, 97, 972, 973), (1064, 97, 1062, 1063), (1072, 97, 1070, 1071), (1076, 97, 1074, 1075), (1085, 97, 1083, 1084), (1089, 97, 1088, 34), (1095, 97, 1094, 35), (561, 95, 559, 560), (569, 95, 567, 568), (716, 95, 714, 715), (573, 95, 572, 2), (577, 95, 576, 3), (581, 95, 580, 4), (693, 95, 692, 0), (585, 95, 584, 5), (688, 95, 687, 9), (684, 95, 683, 8), (590, 95, 589, 6), (680, 95, 679, 7), (721, 95, 719, 720), (729, 95, 728, 11), (736, 95, 735, 0), (733, 95, 732, 12), (725, 95, 724, 10), (1172, 102, 1170, 1171), (1190, 102, 1188, 1189), (1178, 102, 1176, 1177), (1198, 102, 1196, 1197), (1202, 102, 1200, 1201), (1227, 102, 1225, 1226), (1231, 102, 1229, 1230), (1186, 102, 1184, 1185), (1207, 102, 1206, 37), (1194, 102, 1193, 36), (1211, 102, 1210, 38), (1215, 102, 1214, 39), (1219, 102, 1218, 40), (1241, 103, 1239, 1240), (1245, 103, 1243, 1244), (1253, 103, 1251, 1252), (507, 103, 505, 506), (503, 103, 501, 502), (519, 103, 517, 518), (1285, 103, 1283, 1284), (515, 103, 513, 514), (1267, 103, 1265, 1266), (1271, 103, 1270, 41), (1289, 103, 1287, 1288), (1001, 99, 999, 1000), (1014, 99, 1012, 1013), (1020, 99, 1019, 32), (1025, 99, 1023, 1024), (1033, 99, 1031, 1032), (1037, 99, 1035, 1036), (1047, 99, 1045, 1046), (1051, 99, 1050, 33), (756, 96, 754, 755), (711, 96, 709, 710), (769, 96, 767, 768), (463, 92, 461, 462), (495, 92, 493, 494), (523, 92, 521, 522), (531, 92, 529, 530), (548, 92, 546, 547), (557, 92, 555, 556), (565, 92, 563, 564), (706, 92, 704, 705), (741, 92, 739, 740), (809, 92, 807, 808), (821, 92, 819, 820), (847, 92, 845, 846), (857, 92, 855, 856), (899, 92, 897, 898), (903, 92, 901, 902), (920, 92, 918, 919), (937, 92, 935, 936), (949, 92, 947, 948), (966, 92, 964, 965), (984, 92, 982, 983), (997, 92, 995, 996), (1029, 92, 1027, 1028), (1043, 92, 1041, 1042), (1056, 92, 1054, 1055), (1060, 92, 1058, 1059), (1068, 92, 1066, 1067), (1081, 92, 1079, 1080), (1099, 92, 1097, 1098), (1107, 92, 1105, 1106), (1121, 92, 1119, 1120), (1130, 92, 1128, 1129), (1134, 92, 1132, 1133), (1143, 92, 1141, 1142), (1151, 92, 1149, 1150), (1160, 92, 1158, 1159), (1168, 92, 1166, 1167), (1182, 92, 1180, 1181), (1223, 92, 1221, 1222), (1236, 92, 1234, 1235), (1249, 92, 1247, 1248), (1262, 92, 1260, 1261), (1275, 92, 1273, 1274), (1281, 92, 1279, 1280), (1295, 92, 1293, 1294), (1301, 92, 1299, 1300), (744, 92, 743, 0), (813, 92, 812, 21), (499, 92, 498, 0), (748, 92, 747, 13), (511, 92, 510, 1), (1474, 104, 1473, 0), (1502, 104, 1501, 44), (1506, 104, 1505, 45), (1608, 104, 1607, 0), (1648, 104, 1647, 69), (1471, 104, 1470, 0), (1485, 104, 1484, 0), (1752, 104, 1751, 0), (1478, 104, 1477, 42), (1468, 104, 1466, 1467), (1482, 104, 1480, 1481), (1490, 104, 1488, 1489), (1498, 104, 1497, 43), (1509, 104, 1508, 0), (1513, 104, 1512, 46), (1517, 104, 1516, 47), (1494, 104, 1492, 1493), (1521, 104, 1519, 1520), (1525, 104, 1523, 1524), (1529, 104, 1527, 1528), (1533, 104, 1531, 1532), (1573, 104, 1572, 56), (1584, 104, 1583, 58), (1577, 104, 1576, 57), (1569, 104, 1568, 55), (1580, 104, 1579, 0), (1565, 104, 1564, 54), (1561, 104, 1560, 53), (1557, 104, 1556, 52), (1553, 104, 1552, 51), (1549, 104, 1548, 50), (1545, 104, 1544, 49), (1541, 104, 1540, 48), (1537, 104, 1535, 1536), (1600, 104, 1599, 0), (1597, 104, 1596, 60), (1592, 104, 1591, 59), (1588, 104, 1586, 1587), (1640, 104, 1639, 68), (1636, 104, 1635, 67), (1632, 104, 1631, 66), (1624, 104, 1623, 64), (1616, 104, 1615, 62), (1628, 104, 1627, 65), (1620, 104, 1619, 63), (1612, 104, 1611, 61), (1684, 104, 1683, 75), (1656, 104, 1655, 70), (1660, 104, 1659, 71), (1668, 104, 1667, 73), (1664, 104, 1663, 72), (1605, 104, 1603, 1604), (1644, 104, 1642, 1643), (1652, 104, 1650, 1651), (1672, 104, 1670, 1671), (1680, 104, 1679, 74), (1688, 104, 1687, 76), (1676, 104, 1674, 1675), (1692, 104, 1690, 1691), (1704, 104, 1703, 78), (1700, 104, 1699, 77), (1696, 104, 1694, 1695), (1708, 104, 1706, 1707), (1712, 104, 1710, 1711), (1716, 104, 1714, 1715), (1724, 104, 1723, 79), (1720, 104, 1718, 1719), (1728, 104, 1726, 1727), (1736, 104, 1735, 80), (1744, 104, 1743, 82), (1740, 104, 1739, 81), (1749, 104, 1748, 83), (1732, 104, 1730, 1731), (1760, 104, 1758, 1759), (1768, 104, 1767, 84), (1764, 104, 1762, 1763), (1772, 104, 1770, 1771), (1776, 104, 1774, 1775), (1780, 104, 1778, 1779), (1784, 104, 1782, 1783), (1789, 104, 1787, 1788), (1793, 104, 1791, 1792), (1797, 104, 1795, 1796), (1801, 104, 1799, 1800), (1805, 104, 1803, 1804), (1809, 104, 1807, 1808), (1828, 104, 1827, 0), (1825, 104, 1824, 86), (1821, 104, 1820, 85), (1832, 104, 1831, 87), (1836, 104, 1835, 88), (1840, 104, 1839, 89), (1813, 104, 1811, 1812), (1817, 104, 1815, 1816), (1844, 104, 1842, 1843), (1848, 104, 1846, 1847), (1852, 104, 1850, 1851), (1860, 104, 1859, 90), (1863, 104, 1862, 0), (1856, 104, 1854, 1855), (1867, 104, 1865, 1866), (1872, 104, 1870, 1871), (1876, 104, 1874, 1875), (1880, 104, 1878, 1879), (1755, 112, 1754, 0), (1007, 112, 1006, 0), (1258, 101, 1257, 0), (337, 101, 336, 0), (608, 106, 606, 607), (594, 106, 592, 593), (598, 106, 596, 597), (612, 106, 610, 611), (602, 106, 600, 601), (618, 107, 617, 0), (615, 107, 614, 0), (627, 107, 626, 0)]
/-- what a call of the method asks of the tables -/
def am_okc (f : Nat) : Bool := match am_m f, am_nth (0, 0, 0, 0) am_mix f with
  | (y, bc, nL, rt, stc, na, _), (c, ini, a, b) => plainName y.cls && decide (lw_tbl[c]? = some (Cond.code y bc nL rt)) && decide (lw_tbl[ini]? = some (Cond.initialized y.cls)) && decide (nL ≤ 20) &&
      decide (y.cls ≠ "java/lang/invoke/MethodHandle") && decide (y.cls ≠ "java/lang/invoke/VarHandle") && decide ((parseMethodDescriptor y.desc).map (fun d => d.parameters.length) = some na) &&
      (match stc with
      | true => decide (lw_tbl[a]? = some (Cond.static y))
      | false => decide (lw_tbl[a]? = some (Cond.instanceMethod y)) && decide (lw_tbl[b]? = some (Cond.selects y.cls y y)))
set_option maxRecDepth 1000000 in
theorem am_okc_0 : (List.range' 0 24).all am_okc = true := sorry
set_option maxRecDepth 1000000 in
theorem am_okc_1 : (List.range' 24 24).all am_okc = true := sorry
set_option maxRecDepth 1000000 in
theorem am_okc_2 : (List.range' 48 24).all am_okc = true := sorry
set_option maxRecDepth 1000000 in
theorem am_okc_3 : (List.range' 72 24).all am_okc = true := sorry
set_option maxRecDepth 1000000 in
theorem am_okc_4 : (List.range' 96 24).all am_okc = true := sorry
set_option maxRecDepth 1000000 in
theorem am_okc_5 : (List.range' 120 24).all am_okc = true := sorry
set_option maxRecDepth 1000000 in
theorem am_okc_6 : (List.range' 144 24).all am_okc = true := sorry
set_option maxRecDepth 1000000 in
theorem am_okc_7 : (List.range' 168 24).all am_okc = true := sorry
set_option maxRecDepth 1000000 in
theorem am_okc_8 : (List.range' 192 24).all am_okc = true := sorry
set_option maxRecDepth 1000000 in
theorem am_okc_9 : (List.range' 216 24).all am_okc = true := sorry
set_option maxRecDepth 1000000 in
theorem am_okc_10 : (List.range' 240 24).all am_okc = true := sorry
set_option maxRecDepth 1000000 in
theorem am_okc_11 : (List.range' 264 20).all am_okc = true := sorry
/-- the receiver's class -/
def am_okk (f : Nat) : Bool := match am_m f with
  | (y, _, _, _, stc, _, _) => stc || (match vwCl[am_mk f]? with
    | some r => r.1 == y.cls
    | none => am_mk f == 100 && y.cls == "java/lang/String")
set_option maxRecDepth 1000000 in
theorem am_okk_0 : (List.range' 0 24).all am_okk = true := sorry
set_option maxRecDepth 1000000 in
theorem am_okk_1 : (List.range' 24 24).all am_okk = true := sorry
set_option maxRecDepth 1000000 in
theorem am_okk_2 : (List.range' 48 24).all am_okk = true := sorry
set_option maxRecDepth 1000000 in
theorem am_okk_3 : (List.range' 72 24).all am_okk = true := sorry
set_option maxRecDepth 1000000 in
theorem am_okk_4 : (List.range' 96 24).all am_okk = true := sorry
set_option maxRecDepth 1000000 in
theorem am_okk_5 : (List.range' 120 24).all am_okk = true := sorry
set_option maxRecDepth 1000000 in
theorem am_okk_6 : (List.range' 144 24).all am_okk = true := sorry
set_option maxRecDepth 1000000 in
theorem am_okk_7 : (List.range' 168 24).all am_okk = true := sorry
set_option maxRecDepth 1000000 in
theorem am_okk_8 : (List.range' 192 24).all am_okk = true := sorry
set_option maxRecDepth 1000000 in
theorem am_okk_9 : (List.range' 216 24).all am_okk = true := sorry
set_option maxRecDepth 1000000 in
theorem am_okk_10 : (List.range' 240 24).all am_okk = true := sorry
set_option maxRecDepth 1000000 in
theorem am_okk_11 : (List.range' 264 20).all am_okk = true := sorry
set_option maxRecDepth 1000000 in
theorem am_lkL_ix : [24, 369, 401, 429, 437, 454, 463, 471, 612, 647, 715, 727, 753, 763, 805, 809, 826, 843, 855, 872, 890, 903, 935, 949, 962, 966, 974, 987, 1005, 1013, 1027, 1036, 1040, 1049, 1057, 1066, 1074, 1088, 1129, 1142, 1155, 1168, 1181, 1187, 1201, 1207, 1213, 1374, 1388, 1396, 1400, 1427, 1431, 1435, 1439, 1443, 1494, 1511, 1550, 1558, 1578, 1582, 1598, 1602, 1614, 1618, 1622, 1626, 1634, 1638, 1666, 1670, 1678, 1682, 1686, 1690, 1695, 1699, 1703, 1707, 1711, 1715, 1719, 1723, 1750, 1754, 1758, 1762, 1773, 1778, 1782, 1786, 1790].map (fun i => tables_1[i]?) = am_lkL.map some := sorry
set_option maxRecDepth 1000000 in
theorem am_lkX10_ix : [27, 32, 41, 49, 64, 70, 72, 82, 88, 121, 137, 186, 199, 201, 203, 227, 240, 250, 252, 254, 256, 290, 296, 299, 312, 317, 319, 321, 324, 338, 339, 340, 341, 342, 343, 344, 345, 346, 347, 373, 381, 405, 409, 417, 421, 433, 441, 442, 446, 453, 458, 459, 467, 475, 616, 617, 651, 654, 658, 711, 719, 723, 731, 741, 745, 757, 767, 771, 801, 813, 830, 839, 847, 851, 859, 863, 868, 876, 880, 889, 894, 899, 907, 914, 920, 931, 939, 948, 953, 970, 978, 986, 991, 1009, 1017, 1023, 1031, 1044, 1053, 1061, 1070, 1078, 1084, 1092, 1133, 1137, 1146, 1147, 1151, 1159, 1172, 1173, 1185, 1186, 1191, 1195, 1205, 1206].map (fun i => tables_1[i]?) = am_lkX10.map some := sorry
set_option maxRecDepth 1000000 in
theorem am_lkX0_ix : [35, 38, 40, 47, 51, 377, 379, 385, 389, 393, 397, 683, 684, 898].map (fun i => tables_1[i]?) = am_lkX0.map some := sorry
set_option maxRecDepth 1000000 in
theorem am_lkX3_ix : [39, 45, 145, 149, 189, 191, 192, 193, 194, 195, 196, 197, 198, 200, 202, 775, 776, 780, 781, 782, 786, 790, 791, 792, 793, 797].map (fun i => tables_1[i]?) = am_lkX3.map some := sorry
set_option maxRecDepth 1000000 in
theorem am_lkX4_ix : [42, 46, 140, 142, 143, 144, 146, 147, 148, 150, 151, 152, 153, 154, 155, 156, 662, 666, 670, 671, 675, 689, 693, 694, 698, 702, 706, 710, 735, 739, 740, 749, 761, 762, 817, 818, 822, 834, 835, 867, 884, 888, 982, 995, 999, 1000, 1001].map (fun i => tables_1[i]?) = am_lkX4.map some := sorry
set_option maxRecDepth 1000000 in
theorem am_lkX8_ix : [43, 48, 230, 231, 232, 323, 911, 912, 913, 924, 925, 926, 930, 943, 947, 957, 961].map (fun i => tables_1[i]?) = am_lkX8.map some := sorry
set_option maxRecDepth 1000000 in
theorem am_lkX2_ix : [44, 243, 244, 247, 248, 249, 251, 253, 255, 257, 258, 259, 260, 261, 262, 1021, 1022, 1035, 1048].map (fun i => tables_1[i]?) = am_lkX2.map some := sorry
set_option maxRecDepth 1000000 in
theorem am_lkX9_ix : [50, 94, 124, 125, 126, 127, 621, 622, 626, 627, 646, 679, 688].map (fun i => tables_1[i]?) = am_lkX9.map some := sorry
set_option maxRecDepth 1000000 in
theorem am_lkX1_ix : [67, 68, 69, 71, 450, 1065].map (fun i => tables_1[i]?) = am_lkX1.map some := sorry
set_option maxRecDepth 1000000 in
theorem am_lkX5_ix : [85, 86, 87, 89, 90, 91, 92, 93, 95, 96, 97, 479, 483, 487, 491, 495, 496, 500, 586, 590, 594, 598, 599, 600, 603, 604, 605, 606, 607, 608, 609, 610, 631, 635, 639, 643].map (fun i => tables_1[i]?) = am_lkX5.map some := sorry
set_option maxRecDepth 1000000 in
theorem am_lkX6_ix : [293, 294, 295, 297, 298, 1082, 1096, 1100, 1104, 1108, 1112, 1113, 1117, 1121, 1125, 1141].map (fun i => tables_1[i]?) = am_lkX6.map some := sorry
set_option maxRecDepth 1000000 in
theorem am_lkX7_ix : [315, 316, 318, 320, 322, 325, 413, 425, 1163, 1164, 1165, 1177, 1199, 1200].map (fun i => tables_1[i]?) = am_lkX7.map some := sorry
set_option maxRecDepth 1000000 in
theorem am_lkJ0_ix : [504, 508, 512, 514, 518, 522, 537, 555, 557, 1791, 1792].map (fun i => tables_1[i]?) = am_lkJ0.map some := sorry
set_option maxRecDepth 1000000 in
theorem am_lkJ1_ix : [525, 528, 531, 534].map (fun i => tables_1[i]?) = am_lkJ1.map some := sorry
set_option maxRecDepth 1000000 in
theorem am_lkJ6_ix : [917, 918, 919, 1665].map (fun i => tables_1[i]?) = am_lkJ6.map some := sorry
set_option maxRecDepth 1000000 in
theorem am_lkX11_ix : [1216, 1217, 1218, 1219, 1220, 1221, 1222, 1223, 1224, 1225, 1226, 1227, 1228, 1229, 1230, 1231, 1232, 1233, 1234, 1235, 1236, 1237, 1238, 1239, 1240, 1241, 1242, 1243, 1244, 1245, 1246, 1247, 1248, 1249, 1250, 1251, 1252, 1253, 1254, 1255, 1256, 1257, 1258, 1259, 1260, 1261, 1262, 1263, 1264, 1265, 1266, 1267, 1268, 1378, 1381, 1384, 1392, 1395, 1404, 1408, 1412, 1416, 1419, 1423, 1447, 1451, 1455, 1459, 1463, 1467, 1471, 1475, 1479, 1483, 1487, 1490, 1498, 1502, 1503, 1507, 1510, 1515, 1518, 1522, 1526, 1530, 1534, 1538, 1542, 1546, 1554, 1562, 1566, 1570, 1574, 1586, 1590, 1594, 1606, 1610, 1630, 1642, 1646, 1650, 1654, 1655, 1659, 1662, 1674, 1694, 1727, 1731, 1735, 1738, 1742, 1746, 1766, 1770, 1777].map (fun i => tables_1[i]?) = am_lkX11.map some := sorry
end
section
/-! the small machine: one instruction, one method -/
/-- the length of an array cell; the script's stands in the memory -/
def am_len (mi : am_MI) (a : Nat) : Nat := match am_kd a with
  | 6 => (mi a 100000).toNatClampNeg
  | _ => am_n a
def am_ui (m : am_MI) (a j : Nat) (x : Int32) : am_MI := fun b i => if b = a ∧ i = j then x else m b i
def am_ul (m : am_ML) (a j : Nat) (x : Int64) : am_ML := fun b i => if b = a ∧ i = j then x else m b i
def am_ci (m : am_MI) (a0 sp a1 dp n : Nat) : am_MI := fun b i => if b = a1 ∧ dp ≤ i ∧ i < dp + n then m a0 (sp + (i - dp)) else m b i
def am_cj (m : am_ML) (a0 sp a1 dp n : Nat) : am_ML := fun b i => if b = a1 ∧ dp ≤ i ∧ i < dp + n then m a0 (sp + (i - dp)) else m b i
def am_lg : am_L → Nat → Option Value
  | [], _ => none
  | v :: _, 0 => v
  | _ :: l, i + 1 => am_lg l i
def am_ls : am_L → Nat → Option Value → am_L
  | [], _, _ => []
  | _ :: l, 0, v => v :: l
  | a :: l, i + 1, v => a :: am_ls l i v
/-- a place is lost if a long begins there -/
def am_kl (lo : am_L) (i : Nat) : am_L := match am_lg lo i with
  | some (.long _) => am_ls lo i none
  | some (.double _) => am_ls lo i none
  | _ => lo
def am_s1 (lo : am_L) (i : Nat) (v : Value) : am_L := match i with
  | 0 => am_ls lo 0 (some v)
  | i + 1 => am_ls (am_kl lo i) (i + 1) (some v)
def am_s2 (lo : am_L) (i : Nat) (v : Value) : am_L := match i with
  | 0 => am_ls (am_ls lo 1 none) 0 (some v)
  | i + 1 => am_ls (am_ls (am_kl lo i) (i + 2) none) (i + 1) (some v)
def am_le : am_L → am_L → Prop
  | [], _ => True
  | none :: l, _ :: l' => am_le l l'
  | some v :: l, o :: l' => o = some v ∧ am_le l l'
  | _ :: _, [] => False
def am_in : Nat → List Value → am_L
  | n, [] => List.replicate n none
  | n, .long x :: r => some (.long x) :: none :: am_in (n - 2) r
  | n, .double x :: r => some (.double x) :: none :: am_in (n - 2) r
  | n, v :: r => some v :: am_in (n - 1) r
def am_rem (x y : Int32) : Int32 := x - x / y * y
def am_shl (x y : Int32) : Int32 := x <<< (y &&& 31)
def am_shr (x y : Int32) : Int32 := x >>> (y &&& 31)
def am_ushr (x y : Int32) : Int32 := (x.toUInt32 >>> (y.toUInt32 &&& Int32.toUInt32 31)).toInt32
def am_lshl (x : Int64) (y : Int32) : Int64 := x <<< (y.toInt64 &&& 63)
def am_max (x y : Int32) : Int32 := if x < y then y else x
def am_min (x y : Int32) : Int32 := if y < x then y else x
def am_i2c (x : Int32) : Int32 := (x.toUInt32 % 65536).toInt32
def am_cat : List Value → Nat
  | [] => 0
  | v :: l => v.category + am_cat l
def am_rv (k : am_MI → am_ML → Prop) : am_R := fun r a b => r = none ∧ k a b
def am_ri (k : Int32 → am_MI → am_ML → Prop) : am_R := fun r a b => ∃ x, r = some (.int x) ∧ k x a b
def am_rj (k : Int64 → am_MI → am_ML → Prop) : am_R := fun r a b => ∃ x, r = some (.long x) ∧ k x a b
def am_rr (k : Nat → am_MI → am_ML → Prop) : am_R := fun r a b => ∃ x, r = some (.ref x) ∧ k x a b
/-- what a literal place shows by itself -/
def am_need (b : Bool) (P : Prop) : Prop := match b with
  | true => P
  | false => False
section AMI
variable (K : am_K) (i : Nat) (lo : am_L) (st : List Value) (mi : am_MI) (ml : am_ML)
def am_ldI (n : Nat) : Prop := match am_lg lo n with
  | some (.int x) => K (i + 1) lo (.int x :: st) mi ml
  | _ => False
def am_ldJ (n : Nat) : Prop := match am_lg lo n with
  | some (.long x) => K (i + 1) lo (.long x :: st) mi ml
  | _ => False
def am_ldA (n : Nat) : Prop := match am_lg lo n with
  | some (.ref x) => K (i + 1) lo (.ref x :: st) mi ml
  | _ => False
def am_stI (n : Nat) : Prop := match st with
  | .int x :: st => K (i + 1) (am_s1 lo n (.int x)) st mi ml
  | _ => False
def am_stJ (n : Nat) : Prop := match st with
  | .long x :: st => K (i + 1) (am_s2 lo n (.long x)) st mi ml
  | _ => False
def am_stA (n : Nat) : Prop := match st with
  | .ref x :: st => K (i + 1) (am_s1 lo n (.ref x)) st mi ml
  | _ => False
def am_inc (n : Nat) (v : Int32) : Prop := match am_lg lo n with
  | some (.int x) => K (i + 1) (am_s1 lo n (.int (x + v))) st mi ml
  | _ => False
def am_b2 (f : Int32 → Int32 → Int32) : Prop := match st with
  | .int y :: .int x :: st => K (i + 1) lo (.int (f x y) :: st) mi ml
  | _ => False
def am_bd (f : Int32 → Int32 → Int32) : Prop := match st with
  | .int y :: .int x :: st => ¬ y = 0 ∧ K (i + 1) lo (.int (f x y) :: st) mi ml
  | _ => False
def am_u1 (f : Int32 → Int32) : Prop := match st with
  | .int x :: st => K (i + 1) lo (.int (f x) :: st) mi ml
  | _ => False
def am_j2 (f : Int64 → Int64 → Int64) : Prop := match st with
  | .long y :: .long x :: st => K (i + 1) lo (.long (f x y) :: st) mi ml
  | _ => False
def am_br (t : Nat) (c : Int32 → Prop) : Prop := match st with
  | .int x :: st => (c x → K t lo st mi ml) ∧ (¬ c x → K (i + 1) lo st mi ml)
  | _ => False
def am_b2r (t : Nat) (c : Int32 → Int32 → Prop) : Prop := match st with
  | .int y :: .int x :: st => (c x y → K t lo st mi ml) ∧ (¬ c x y → K (i + 1) lo st mi ml)
  | _ => False
def am_swt (x : Int32) (dflt : Nat) : List (Int32 × Nat) → Prop
  | [] => K dflt lo st mi ml
  | (v, t) :: r => (x = v → K t lo st mi ml) ∧ (¬ x = v → am_swt x dflt r)
def am_sw (dflt : Nat) (sw : List (Int32 × Nat)) : Prop := match st with
  | .int x :: st => am_swt K lo st mi ml x dflt sw
  | _ => False
def am_get (ci slot kind : Nat) : Prop := match st with
  | .ref a :: st => am_need (am_oc a == ci) (match kind with
      | 2 => K (i + 1) lo (.ref (am_rf a slot) :: st) mi ml
      | _ => K (i + 1) lo (.int (mi a slot) :: st) mi ml)
  | _ => False
def am_put (ci slot kind : Nat) : Prop := match st with
  | .int x :: .ref a :: st => am_need (am_oc a == ci) (match kind with
      | 0 => K (i + 1) lo st (am_ui mi a slot x) ml
      | 1 => (x = 0 ∨ x = 1) ∧ K (i + 1) lo st (am_ui mi a slot x) ml
      | _ => False)
  | _ => False
def am_iald : Prop := match st with
  | .int j :: .ref a :: st => am_need (am_kd a == 2 || am_kd a == 5 || am_kd a == 6) (vp_in j (am_len mi a) ∧ K (i + 1) lo (.int (mi a j.toNatClampNeg) :: st) mi ml)
  | _ => False
def am_iast : Prop := match st with
  | .int x :: .int j :: .ref a :: st => am_need (am_kd a == 2) (vp_in j (am_n a) ∧ K (i + 1) lo st (am_ui mi a j.toNatClampNeg x) ml)
  | _ => False
def am_bald : Prop := match st with
  | .int j :: .ref a :: st => am_need (am_kd a == 8) (vp_in j (am_n a) ∧ K (i + 1) lo (.int (mi a j.toNatClampNeg) :: st) mi ml)
  | _ => False
def am_lald : Prop := match st with
  | .int j :: .ref a :: st => am_need (am_kd a == 3) (vp_in j (am_n a) ∧ K (i + 1) lo (.long (ml a j.toNatClampNeg) :: st) mi ml)
  | _ => False
def am_last : Prop := match st with
  | .long x :: .int j :: .ref a :: st => am_need (am_kd a == 3) (vp_in j (am_n a) ∧ K (i + 1) lo st mi (am_ul ml a j.toNatClampNeg x))
  | _ => False
def am_aald : Prop := match st with
  | .int j :: .ref a :: st => am_need (am_kd a == 4) (vp_in j (am_n a) ∧ K (i + 1) lo (.ref (am_f a + am_d a * j.toNatClampNeg) :: st) mi ml)
  | _ => False
def am_alen : Prop := match st with
  | .ref a :: st => am_need (Nat.ble 2 (am_kd a) && Nat.ble (am_kd a) 6 || am_kd a == 8) (K (i + 1) lo (.int (Int32.ofNat (am_len mi a)) :: st) mi ml)
  | _ => False
def am_dup : Prop := match st with
  | v :: st => am_need (v.category == 1) (K (i + 1) lo (v :: v :: st) mi ml)
  | _ => False
def am_dupx1 : Prop := match st with
  | v :: w :: st => am_need (v.category == 1 && w.category == 1) (K (i + 1) lo (v :: w :: v :: st) mi ml)
  | _ => False
def am_dup2 : Prop := match st with
  | .long x :: st => K (i + 1) lo (.long x :: .long x :: st) mi ml
  | v :: w :: st => am_need (v.category == 1 && w.category == 1) (K (i + 1) lo (v :: w :: v :: w :: st) mi ml)
  | _ => False
def am_pop : Prop := match st with
  | v :: st => am_need (v.category == 1) (K (i + 1) lo st mi ml)
  | _ => False
def am_cpy : Prop := match st with
  | .int n :: .int dp :: .ref b :: .int sp :: .ref a :: st => am_need (Nat.ble (am_cat st) 8) (¬ sp < 0 ∧ ¬ dp < 0 ∧ ¬ n < 0 ∧ sp.toNatClampNeg + n.toNatClampNeg ≤ am_n a ∧ dp.toNatClampNeg + n.toNatClampNeg ≤ am_n b ∧
      (match am_kd a, am_kd b with
      | 2, 2 => K (i + 1) lo st (am_ci mi a sp.toNatClampNeg b dp.toNatClampNeg n.toNatClampNeg) ml
      | 3, 3 => K (i + 1) lo st mi (am_cj ml a sp.toNatClampNeg b dp.toNatClampNeg n.toNatClampNeg)
      | _, _ => False))
  | _ => False
def am_bic (f : Int32 → Int32 → Int32) : Prop := match st with
  | .int y :: .int x :: st => am_need (Nat.ble (am_cat st) 8) (K (i + 1) lo (.int (f x y) :: st) mi ml)
  | _ => False
def am_call0 (call : am_C) (g n rk : Nat) : Prop := am_need (Nat.ble n st.length && Nat.ble (am_cat (st.drop n)) 8)
  (call g (st.take n).reverse mi ml (match rk with
    | 0 => am_rv fun mi ml => K (i + 1) lo (st.drop n) mi ml
    | 1 => am_ri fun x mi ml => K (i + 1) lo (.int x :: st.drop n) mi ml
    | 2 => am_rj fun x mi ml => K (i + 1) lo (.long x :: st.drop n) mi ml
    | _ => am_rr fun x mi ml => K (i + 1) lo (.ref x :: st.drop n) mi ml))
def am_inv (call : am_C) (g n rk : Nat) : Prop := match g with
  | 1000 => am_bic K i lo st mi ml am_max
  | 1001 => am_bic K i lo st mi ml am_min
  | 1002 => am_cpy K i lo st mi ml
  | 2001 => False
  | _ => am_call0 K i lo st mi ml call g n rk
/-- the receiver is of the method's class -/
def am_rcv (g n : Nat) : Bool := match st.drop (n - 1) with
  | .ref a :: _ => am_oc a == am_mk g
  | _ => false
end AMI
def am_st (call : am_C) (K : am_K) (R : am_R) (ins : Instr) (k1 k2 k3 : Nat) (v : Int32) (sw : List (Int32 × Nat)) (i : Nat) (lo : am_L) (st : List Value) (mi : am_MI) (ml : am_ML) : Prop :=
  match ins with
  | .aload n => am_ldA K i lo st mi ml n
  | .aload_n n => am_ldA K i lo st mi ml n
  | .iload n => am_ldI K i lo st mi ml n
  | .iload_n n => am_ldI K i lo st mi ml n
  | .lload n => am_ldJ K i lo st mi ml n
  | .lload_n n => am_ldJ K i lo st mi ml n
  | .astore n => am_stA K i lo st mi ml n
  | .astore_n n => am_stA K i lo st mi ml n
  | .istore n => am_stI K i lo st mi ml n
  | .istore_n n => am_stI K i lo st mi ml n
  | .lstore n => am_stJ K i lo st mi ml n
  | .lstore_n n => am_stJ K i lo st mi ml n
  | .iinc n _ => am_inc K i lo st mi ml n v
  | .iconst _ => K (i + 1) lo (.int v :: st) mi ml
  | .bipush _ => K (i + 1) lo (.int v :: st) mi ml
  | .sipush _ => K (i + 1) lo (.int v :: st) mi ml
  | .ldc _ => (match k2 with
    | 0 => K (i + 1) lo (.int v :: st) mi ml
    | _ => K (i + 1) lo (.ref k1 :: st) mi ml)
  | .ldc_w _ => K (i + 1) lo (.int v :: st) mi ml
  | .ldc2_w _ => K (i + 1) lo (.long (am_lc k1) :: st) mi ml
  | .lconst _ => K (i + 1) lo (.long (am_lc k1) :: st) mi ml
  | .dup => am_dup K i lo st mi ml
  | .dup_x1 => am_dupx1 K i lo st mi ml
  | .dup2 => am_dup2 K i lo st mi ml
  | .pop => am_pop K i lo st mi ml
  | .iadd => am_b2 K i lo st mi ml fun x y => x + y
  | .isub => am_b2 K i lo st mi ml fun x y => x - y
  | .imul => am_b2 K i lo st mi ml fun x y => x * y
  | .idiv => am_bd K i lo st mi ml fun x y => x / y
  | .irem => am_bd K i lo st mi ml am_rem
  | .iand => am_b2 K i lo st mi ml fun x y => x &&& y
  | .ior => am_b2 K i lo st mi ml fun x y => x ||| y
  | .ixor => am_b2 K i lo st mi ml fun x y => x ^^^ y
  | .ishl => am_b2 K i lo st mi ml am_shl
  | .ishr => am_b2 K i lo st mi ml am_shr
  | .iushr => am_b2 K i lo st mi ml am_ushr
  | .ineg => am_u1 K i lo st mi ml fun x => -x
  | .i2b => am_u1 K i lo st mi ml fun x => x.toInt8.toInt32
  | .i2s => am_u1 K i lo st mi ml fun x => x.toInt16.toInt32
  | .i2c => am_u1 K i lo st mi ml am_i2c
  | .i2l => (match st with
    | .int x :: st => K (i + 1) lo (.long x.toInt64 :: st) mi ml
    | _ => False)
  | .l2i => (match st with
    | .long x :: st => K (i + 1) lo (.int x.toInt32 :: st) mi ml
    | _ => False)
  | .ladd => am_j2 K i lo st mi ml fun x y => x + y
  | .lmul => am_j2 K i lo st mi ml fun x y => x * y
  | .land => am_j2 K i lo st mi ml fun x y => x &&& y
  | .lor => am_j2 K i lo st mi ml fun x y => x ||| y
  | .lshl => (match st with
    | .int y :: .long x :: st => K (i + 1) lo (.long (am_lshl x y) :: st) mi ml
    | _ => False)
  | .lcmp => (match st with
    | .long y :: .long x :: st => K (i + 1) lo (.int (lg_cmp x y) :: st) mi ml
    | _ => False)
  | .goto _ => K k1 lo st mi ml
  | .ifCond .eq _ => am_br K i lo st mi ml k1 fun x => x = 0
  | .ifCond .ne _ => am_br K i lo st mi ml k1 fun x => x ≠ 0
  | .ifCond .lt _ => am_br K i lo st mi ml k1 fun x => x < 0
  | .ifCond .ge _ => am_br K i lo st mi ml k1 fun x => 0 ≤ x
  | .ifCond .gt _ => am_br K i lo st mi ml k1 fun x => 0 < x
  | .ifCond .le _ => am_br K i lo st mi ml k1 fun x => x ≤ 0
  | .if_icmp .eq _ => am_b2r K i lo st mi ml k1 fun x y => x = y
  | .if_icmp .ne _ => am_b2r K i lo st mi ml k1 fun x y => x ≠ y
  | .if_icmp .lt _ => am_b2r K i lo st mi ml k1 fun x y => x < y
  | .if_icmp .ge _ => am_b2r K i lo st mi ml k1 fun x y => y ≤ x
  | .if_icmp .gt _ => am_b2r K i lo st mi ml k1 fun x y => y < x
  | .if_icmp .le _ => am_b2r K i lo st mi ml k1 fun x y => x ≤ y
  | .tableswitch _ _ _ _ => am_sw K lo st mi ml k1 sw
  | .lookupswitch _ _ => am_sw K lo st mi ml k1 sw
  | .getfield _ => am_get K i lo st mi ml k1 k2 k3
  | .putfield _ => am_put K i lo st mi ml k1 k2 k3
  | .getstatic _ => (match k2 with
    | 0 => K (i + 1) lo (.ref k1 :: st) mi ml
    | _ => K (i + 1) lo (.int v :: st) mi ml)
  | .iaload => am_iald K i lo st mi ml
  | .baload => am_bald K i lo st mi ml
  | .iastore => am_iast K i lo st mi ml
  | .laload => am_lald K i lo st mi ml
  | .lastore => am_last K i lo st mi ml
  | .aaload => am_aald K i lo st mi ml
  | .arraylength => am_alen K i lo st mi ml
  | .invokevirtual _ => am_need (am_rcv st k1 k2) (am_inv K i lo st mi ml call k1 k2 k3)
  | .invokestatic _ => am_inv K i lo st mi ml call k1 k2 k3
  | .ireturn => (match st with
    | [.int x] => (match k1 with
      | 0 => R (some (.int x)) mi ml
      | _ => (x = 0 ∨ x = 1) ∧ R (some (.int x)) mi ml)
    | _ => False)
  | .lreturn => (match st with
    | [.long x] => R (some (.long x)) mi ml
    | _ => False)
  | .areturn => (match st with
    | [.ref x] => R (some (.ref x)) mi ml
    | _ => False)
  | .return_ => (match st with
    | [] => R none mi ml
    | _ => False)
  | _ => False
def am_ex (call : am_C) (t : List am_row) (K : am_K) (R : am_R) (i : Nat) (lo : am_L) (st : List Value) (mi : am_MI) (ml : am_ML) : Prop :=
  match t[i]? with
  | some (_, ins, _, k1, k2, k3, v, sw) => am_st call K R ins k1 k2 k3 v sw i lo st mi ml
  | none => False
/-- one method from a row on: the least predicate closed under its rows, and under forgetting locals -/
def am_wp (call : am_C) (t : List am_row) (R : am_R) : am_K := fun i lo st mi ml =>
  ∀ P : am_K, (∀ i lo st mi ml, am_ex call t P R i lo st mi ml → P i lo st mi ml) → (∀ i lo lo' st mi ml, am_le lo' lo → P i lo' st mi ml → P i lo st mi ml) → P i lo st mi ml
end
section
/-! the small machine: monotone; folding; calls by depth -/
def am_leC (c c' : am_C) : Prop := ∀ g args mi ml (R R' : am_R), (∀ r a b, R r a b → R' r a b) → c g args mi ml R → c' g args mi ml R'
theorem am_need_e {b : Bool} {P : Prop} (h : am_need b P) : b = true ∧ P := by
  cases b
  · exact h.elim
  · exact ⟨rfl, h⟩
theorem am_need_i {b : Bool} {P : Prop} (hb : b = true) (h : P) : am_need b P := by
  subst hb
  exact h
theorem am_need_m {b : Bool} {P P' : Prop} (f : P → P') (h : am_need b P) : am_need b P' := by
  cases b
  · exact h.elim
  · exact f h
section AMM
variable {K K' : am_K} {i : Nat} {lo : am_L} {st : List Value} {mi : am_MI} {ml : am_ML}
theorem am_ldI_m (hK : ∀ i lo st mi ml, K i lo st mi ml → K' i lo st mi ml) {n : Nat} (h : am_ldI K i lo st mi ml n) : am_ldI K' i lo st mi ml n := by
  unfold am_ldI at h ⊢
  split at h
  · first
    | exact hK _ _ _ _ _ h
    | (rename_i e; simp only [e]; exact hK _ _ _ _ _ h)
  · exact h.elim
theorem am_ldJ_m (hK : ∀ i lo st mi ml, K i lo st mi ml → K' i lo st mi ml) {n : Nat} (h : am_ldJ K i lo st mi ml n) : am_ldJ K' i lo st mi ml n := by
  unfold am_ldJ at h ⊢
  split at h
  · first
    | exact hK _ _ _ _ _ h
    | (rename_i e; simp only [e]; exact hK _ _ _ _ _ h)
  · exact h.elim
theorem am_ldA_m (hK : ∀ i lo st mi ml, K i lo st mi ml → K' i lo st mi ml) {n : Nat} (h : am_ldA K i lo st mi ml n) : am_ldA K' i lo st mi ml n := by
  unfold am_ldA at h ⊢
  split at h
  · first
    | exact hK _ _ _ _ _ h
    | (rename_i e; simp only [e]; exact hK _ _ _ _ _ h)
  · exact h.elim
theorem am_stI_m (hK : ∀ i lo st mi ml, K i lo st mi ml → K' i lo st mi ml) {n : Nat} (h : am_stI K i lo st mi ml n) : am_stI K' i lo st mi ml n := by
  unfold am_stI at h ⊢
  split at h
  · first
    | exact hK _ _ _ _ _ h
    | (rename_i e; simp only [e]; exact hK _ _ _ _ _ h)
  · exact h.elim
theorem am_stJ_m (hK : ∀ i lo st mi ml, K i lo st mi ml → K' i lo st mi ml) {n : Nat} (h : am_stJ K i lo st mi ml n) : am_stJ K' i lo st mi ml n := by
  unfold am_stJ at h ⊢
  split at h
  · first
    | exact hK _ _ _ _ _ h
    | (rename_i e; simp only [e]; exact hK _ _ _ _ _ h)
  · exact h.elim
theorem am_stA_m (hK : ∀ i lo st mi ml, K i lo st mi ml → K' i lo st mi ml) {n : Nat} (h : am_stA K i lo st mi ml n) : am_stA K' i lo st mi ml n := by
  unfold am_stA at h ⊢
  split at h
  · first
    | exact hK _ _ _ _ _ h
    | (rename_i e; simp only [e]; exact hK _ _ _ _ _ h)
  · exact h.elim
theorem am_inc_m (hK : ∀ i lo st mi ml, K i lo st mi ml → K' i lo st mi ml) {n : Nat} {v : Int32} (h : am_inc K i lo st mi ml n v) : am_inc K' i lo st mi ml n v := by
  unfold am_inc at h ⊢
  split at h
  · first
    | exact hK _ _ _ _ _ h
    | (rename_i e; simp only [e]; exact hK _ _ _ _ _ h)
  · exact h.elim
theorem am_b2_m (hK : ∀ i lo st mi ml, K i lo st mi ml → K' i lo st mi ml) {f : Int32 → Int32 → Int32} (h : am_b2 K i lo st mi ml f) : am_b2 K' i lo st mi ml f := by
  unfold am_b2 at h ⊢
  split at h
  · first
    | exact hK _ _ _ _ _ h
    | (rename_i e; simp only [e]; exact hK _ _ _ _ _ h)
  · exact h.elim
theorem am_u1_m (hK : ∀ i lo st mi ml, K i lo st mi ml → K' i lo st mi ml) {f : Int32 → Int32} (h : am_u1 K i lo st mi ml f) : am_u1 K' i lo st mi ml f := by
  unfold am_u1 at h ⊢
  split at h
  · first
    | exact hK _ _ _ _ _ h
    | (rename_i e; simp only [e]; exact hK _ _ _ _ _ h)
  · exact h.elim
theorem am_j2_m (hK : ∀ i lo st mi ml, K i lo st mi ml → K' i lo st mi ml) {f : Int64 → Int64 → Int64} (h : am_j2 K i lo st mi ml f) : am_j2 K' i lo st mi ml f := by
  unfold am_j2 at h ⊢
  split at h
  · first
    | exact hK _ _ _ _ _ h
    | (rename_i e; simp only [e]; exact hK _ _ _ _ _ h)
  · exact h.elim
theorem am_bd_m (hK : ∀ i lo st mi ml, K i lo st mi ml → K' i lo st mi ml) {f : Int32 → Int32 → Int32} (h : am_bd K i lo st mi ml f) : am_bd K' i lo st mi ml f := by
  unfold am_bd at h ⊢
  split at h
  · first
    | exact ⟨h.1, hK _ _ _ _ _ h.2⟩
    | (rename_i e; simp only [e]; exact ⟨h.1, hK _ _ _ _ _ h.2⟩)
  · exact h.elim
theorem am_iald_m (hK : ∀ i lo st mi ml, K i lo st mi ml → K' i lo st mi ml)  (h : am_iald K i lo st mi ml ) : am_iald K' i lo st mi ml  := by
  unfold am_iald at h ⊢
  split at h
  · first
    | exact am_need_m (fun h => ⟨h.1, hK _ _ _ _ _ h.2⟩) h
    | (rename_i e; simp only [e]; exact am_need_m (fun h => ⟨h.1, hK _ _ _ _ _ h.2⟩) h)
  · exact h.elim
theorem am_iast_m (hK : ∀ i lo st mi ml, K i lo st mi ml → K' i lo st mi ml)  (h : am_iast K i lo st mi ml ) : am_iast K' i lo st mi ml  := by
  unfold am_iast at h ⊢
  split at h
  · first
    | exact am_need_m (fun h => ⟨h.1, hK _ _ _ _ _ h.2⟩) h
    | (rename_i e; simp only [e]; exact am_need_m (fun h => ⟨h.1, hK _ _ _ _ _ h.2⟩) h)
  · exact h.elim
theorem am_bald_m (hK : ∀ i lo st mi ml, K i lo st mi ml → K' i lo st mi ml)  (h : am_bald K i lo st mi ml ) : am_bald K' i lo st mi ml  := by
  unfold am_bald at h ⊢
  split at h
  · first
    | exact am_need_m (fun h => ⟨h.1, hK _ _ _ _ _ h.2⟩) h
    | (rename_i e; simp only [e]; exact am_need_m (fun h => ⟨h.1, hK _ _ _ _ _ h.2⟩) h)
  · exact h.elim
theorem am_lald_m (hK : ∀ i lo st mi ml, K i lo st mi ml → K' i lo st mi ml)  (h : am_lald K i lo st mi ml ) : am_lald K' i lo st mi ml  := by
  unfold am_lald at h ⊢
  split at h
  · first
    | exact am_need_m (fun h => ⟨h.1, hK _ _ _ _ _ h.2⟩) h
    | (rename_i e; simp only [e]; exact am_need_m (fun h => ⟨h.1, hK _ _ _ _ _ h.2⟩) h)
  · exact h.elim
theorem am_last_m (hK : ∀ i lo st mi ml, K i lo st mi ml → K' i lo st mi ml)  (h : am_last K i lo st mi ml ) : am_last K' i lo st mi ml  := by
  unfold am_last at h ⊢
  split at h
  · first
    | exact am_need_m (fun h => ⟨h.1, hK _ _ _ _ _ h.2⟩) h
    | (rename_i e; simp only [e]; exact am_need_m (fun h => ⟨h.1, hK _ _ _ _ _ h.2⟩) h)
  · exact h.elim
theorem am_aald_m (hK : ∀ i lo st mi ml, K i lo st mi ml → K' i lo st mi ml)  (h : am_aald K i lo st mi ml ) : am_aald K' i lo st mi ml  := by
  unfold am_aald at h ⊢
  split at h
  · first
    | exact am_need_m (fun h => ⟨h.1, hK _ _ _ _ _ h.2⟩) h
    | (rename_i e; simp only [e]; exact am_need_m (fun h => ⟨h.1, hK _ _ _ _ _ h.2⟩) h)
  · exact h.elim
theorem am_alen_m (hK : ∀ i lo st mi ml, K i lo st mi ml → K' i lo st mi ml)  (h : am_alen K i lo st mi ml ) : am_alen K' i lo st mi ml  := by
  unfold am_alen at h ⊢
  split at h
  · first
    | exact am_need_m (fun h => hK _ _ _ _ _ h) h
    | (rename_i e; simp only [e]; exact am_need_m (fun h => hK _ _ _ _ _ h) h)
  · exact h.elim
theorem am_dup_m (hK : ∀ i lo st mi ml, K i lo st mi ml → K' i lo st mi ml)  (h : am_dup K i lo st mi ml ) : am_dup K' i lo st mi ml  := by
  unfold am_dup at h ⊢
  split at h
  · first
    | exact am_need_m (fun h => hK _ _ _ _ _ h) h
    | (rename_i e; simp only [e]; exact am_need_m (fun h => hK _ _ _ _ _ h) h)
  · exact h.elim
theorem am_dupx1_m (hK : ∀ i lo st mi ml, K i lo st mi ml → K' i lo st mi ml)  (h : am_dupx1 K i lo st mi ml ) : am_dupx1 K' i lo st mi ml  := by
  unfold am_dupx1 at h ⊢
  split at h
  · first
    | exact am_need_m (fun h => hK _ _ _ _ _ h) h
    | (rename_i e; simp only [e]; exact am_need_m (fun h => hK _ _ _ _ _ h) h)
  · exact h.elim
theorem am_pop_m (hK : ∀ i lo st mi ml, K i lo st mi ml → K' i lo st mi ml)  (h : am_pop K i lo st mi ml ) : am_pop K' i lo st mi ml  := by
  unfold am_pop at h ⊢
  split at h
  · first
    | exact am_need_m (fun h => hK _ _ _ _ _ h) h
    | (rename_i e; simp only [e]; exact am_need_m (fun h => hK _ _ _ _ _ h) h)
  · exact h.elim
theorem am_bic_m (hK : ∀ i lo st mi ml, K i lo st mi ml → K' i lo st mi ml) {f : Int32 → Int32 → Int32} (h : am_bic K i lo st mi ml f) : am_bic K' i lo st mi ml f := by
  unfold am_bic at h ⊢
  split at h
  · first
    | exact am_need_m (fun h => hK _ _ _ _ _ h) h
    | (rename_i e; simp only [e]; exact am_need_m (fun h => hK _ _ _ _ _ h) h)
  · exact h.elim
theorem am_dup2_m (hK : ∀ i lo st mi ml, K i lo st mi ml → K' i lo st mi ml)  (h : am_dup2 K i lo st mi ml) : am_dup2 K' i lo st mi ml := by
  unfold am_dup2 at h ⊢
  split at h
  · exact hK _ _ _ _ _ h
  · rename_i v w st hne
    exact am_need_m (fun h => hK _ _ _ _ _ h) h
  · exact h.elim
theorem am_br_m (hK : ∀ i lo st mi ml, K i lo st mi ml → K' i lo st mi ml) {t : Nat} {c : Int32 → Prop} (h : am_br K i lo st mi ml t c) : am_br K' i lo st mi ml t c := by
  unfold am_br at h ⊢
  split at h
  · exact ⟨fun q => hK _ _ _ _ _ (h.1 q), fun q => hK _ _ _ _ _ (h.2 q)⟩
  · exact h.elim
theorem am_b2r_m (hK : ∀ i lo st mi ml, K i lo st mi ml → K' i lo st mi ml) {t : Nat} {c : Int32 → Int32 → Prop} (h : am_b2r K i lo st mi ml t c) : am_b2r K' i lo st mi ml t c := by
  unfold am_b2r at h ⊢
  split at h
  · exact ⟨fun q => hK _ _ _ _ _ (h.1 q), fun q => hK _ _ _ _ _ (h.2 q)⟩
  · exact h.elim
theorem am_swt_m (hK : ∀ i lo st mi ml, K i lo st mi ml → K' i lo st mi ml) {x : Int32} {d : Nat} (sw : List (Int32 × Nat)) (h : am_swt K lo st mi ml x d sw) : am_swt K' lo st mi ml x d sw := by
  induction sw with
  | nil => exact hK _ _ _ _ _ h
  | cons a r ih => exact ⟨fun q => hK _ _ _ _ _ (h.1 q), fun q => ih (h.2 q)⟩
theorem am_sw_m (hK : ∀ i lo st mi ml, K i lo st mi ml → K' i lo st mi ml) {d : Nat} {sw : List (Int32 × Nat)} (h : am_sw K lo st mi ml d sw) : am_sw K' lo st mi ml d sw := by
  unfold am_sw at h ⊢
  split at h
  · exact am_swt_m hK sw h
  · exact h.elim
theorem am_get_m (hK : ∀ i lo st mi ml, K i lo st mi ml → K' i lo st mi ml) {ci sl kd : Nat} (h : am_get K i lo st mi ml ci sl kd) : am_get K' i lo st mi ml ci sl kd := by
  unfold am_get at h ⊢
  split at h
  · refine am_need_m (fun h2 => ?_) h
    split at h2
    · exact hK _ _ _ _ _ h2
    · exact hK _ _ _ _ _ h2
  · exact h.elim
theorem am_put_m (hK : ∀ i lo st mi ml, K i lo st mi ml → K' i lo st mi ml) {ci sl kd : Nat} (h : am_put K i lo st mi ml ci sl kd) : am_put K' i lo st mi ml ci sl kd := by
  unfold am_put at h ⊢
  split at h
  · refine am_need_m (fun h2 => ?_) h
    split at h2
    · exact hK _ _ _ _ _ h2
    · exact ⟨h2.1, hK _ _ _ _ _ h2.2⟩
    · exact h2.elim
  · exact h.elim
theorem am_cpy_m (hK : ∀ i lo st mi ml, K i lo st mi ml → K' i lo st mi ml)  (h : am_cpy K i lo st mi ml) : am_cpy K' i lo st mi ml := by
  unfold am_cpy at h ⊢
  split at h
  · refine am_need_m (fun h => ⟨h.1, h.2.1, h.2.2.1, h.2.2.2.1, h.2.2.2.2.1, ?_⟩) h
    have h2 := h.2.2.2.2.2
    split at h2
    · exact hK _ _ _ _ _ h2
    · exact hK _ _ _ _ _ h2
    · exact h2.elim
  · exact h.elim
theorem am_rv_m {k k' : am_MI → am_ML → Prop} (h : ∀ a b, k a b → k' a b) (r a b) (q : am_rv k r a b) : am_rv k' r a b := ⟨q.1, h _ _ q.2⟩
theorem am_ri_m {k k' : Int32 → am_MI → am_ML → Prop} (h : ∀ x a b, k x a b → k' x a b) (r a b) (q : am_ri k r a b) : am_ri k' r a b := q.elim fun x w => ⟨x, w.1, h _ _ _ w.2⟩
theorem am_rj_m {k k' : Int64 → am_MI → am_ML → Prop} (h : ∀ x a b, k x a b → k' x a b) (r a b) (q : am_rj k r a b) : am_rj k' r a b := q.elim fun x w => ⟨x, w.1, h _ _ _ w.2⟩
theorem am_rr_m {k k' : Nat → am_MI → am_ML → Prop} (h : ∀ x a b, k x a b → k' x a b) (r a b) (q : am_rr k r a b) : am_rr k' r a b := q.elim fun x w => ⟨x, w.1, h _ _ _ w.2⟩
theorem am_call0_m (hK : ∀ i lo st mi ml, K i lo st mi ml → K' i lo st mi ml) {c c' : am_C} (hC : am_leC c c') {g n rk : Nat} (h : am_call0 K i lo st mi ml c g n rk) : am_call0 K' i lo st mi ml c' g n rk := by
  unfold am_call0 at h ⊢
  refine am_need_m (fun h => hC _ _ _ _ _ _ ?_ h) h
  intro r a b q
  match rk with
  | 0 => exact am_rv_m (fun a b q => hK _ _ _ _ _ q) _ _ _ q
  | 1 => exact am_ri_m (fun x a b q => hK _ _ _ _ _ q) _ _ _ q
  | 2 => exact am_rj_m (fun x a b q => hK _ _ _ _ _ q) _ _ _ q
  | _ + 3 => exact am_rr_m (fun x a b q => hK _ _ _ _ _ q) _ _ _ q
theorem am_inv_m (hK : ∀ i lo st mi ml, K i lo st mi ml → K' i lo st mi ml) {c c' : am_C} (hC : am_leC c c') {g n rk : Nat} (h : am_inv K i lo st mi ml c g n rk) : am_inv K' i lo st mi ml c' g n rk := by
  unfold am_inv at h ⊢
  split at h
  · exact am_bic_m hK h
  · exact am_bic_m hK h
  · exact am_cpy_m hK h
  · exact h.elim
  · exact am_call0_m hK hC h
theorem am_ite_m {p : Prop} {a b a' b' : Prop} (h : (p → a) ∧ (¬ p → b)) (ha : a → a') (hb : b → b') : (p → a') ∧ (¬ p → b') := ⟨fun q => ha (h.1 q), fun q => hb (h.2 q)⟩
set_option maxHeartbeats 4000000 in
theorem am_st_m (hK : ∀ i lo st mi ml, K i lo st mi ml → K' i lo st mi ml) {c c' : am_C} (hC : am_leC c c') {R R' : am_R} (hR : ∀ r a b, R r a b → R' r a b) {ins : Instr} {k1 k2 k3 : Nat} {v : Int32} {sw : List (Int32 × Nat)}
    (h : am_st c K R ins k1 k2 k3 v sw i lo st mi ml) : am_st c' K' R' ins k1 k2 k3 v sw i lo st mi ml := by
  unfold am_st at h
  split at h
  all_goals first
    | exact am_ldA_m hK h
    | exact am_ldI_m hK h
    | exact am_ldJ_m hK h
    | exact am_stA_m hK h
    | exact am_stI_m hK h
    | exact am_stJ_m hK h
    | exact am_inc_m hK h
    | exact hK _ _ _ _ _ h
    | exact am_dup_m hK h
    | exact am_dupx1_m hK h
    | exact am_dup2_m hK h
    | exact am_pop_m hK h
    | exact am_b2_m hK h
    | exact am_bd_m hK h
    | exact am_u1_m hK h
    | exact am_j2_m hK h
    | exact am_br_m hK h
    | exact am_b2r_m hK h
    | exact am_sw_m hK h
    | exact am_get_m hK h
    | exact am_put_m hK h
    | exact am_iald_m hK h
    | exact am_bald_m hK h
    | exact am_iast_m hK h
    | exact am_lald_m hK h
    | exact am_last_m hK h
    | exact am_aald_m hK h
    | exact am_alen_m hK h
    | exact am_need_m (fun h => am_inv_m hK hC h) h
    | exact am_inv_m hK hC h
    | exact h.elim
    | (unfold am_st; split at h <;> first | exact hK _ _ _ _ _ h | exact hR _ _ _ h | exact h.elim | (rename_i hne; split <;> first | exact (hne rfl).elim | exact hK _ _ _ _ _ h))
    | (unfold am_st; split at h <;> (try split at h) <;> first | exact hR _ _ _ h | exact ⟨h.1, hR _ _ _ h.2⟩ | exact h.elim | (rename_i hne; split <;> first | exact (hne rfl).elim | exact ⟨h.1, hR _ _ _ h.2⟩))
theorem am_ex_m (hK : ∀ i lo st mi ml, K i lo st mi ml → K' i lo st mi ml) {c c' : am_C} (hC : am_leC c c') {R R' : am_R} (hR : ∀ r a b, R r a b → R' r a b) {t : List am_row}
    (h : am_ex c t K R i lo st mi ml) : am_ex c' t K' R' i lo st mi ml := by
  unfold am_ex at h ⊢
  split at h
  · exact am_st_m hK hC hR h
  · exact h.elim
end AMM
theorem am_leC_r (c : am_C) (hc : ∀ g args mi ml (R R' : am_R), (∀ r a b, R r a b → R' r a b) → c g args mi ml R → c g args mi ml R') : am_leC c c := hc
/-- one row on -/
theorem am_wp_i {c : am_C} (hc : am_leC c c) {t : List am_row} {R : am_R} {i lo st mi ml} (h : am_ex c t (am_wp c t R) R i lo st mi ml) : am_wp c t R i lo st mi ml :=
  fun P h1 h2 => h1 _ _ _ _ _ (am_ex_m (fun _ _ _ _ _ q => q P h1 h2) hc (fun _ _ _ q => q) h)
/-- forgetting locals -/
theorem am_wp_l {c : am_C} {t : List am_row} {R : am_R} {i lo lo' st mi ml} (hl : am_le lo' lo) (h : am_wp c t R i lo' st mi ml) : am_wp c t R i lo st mi ml :=
  fun P h1 h2 => h2 _ _ _ _ _ _ hl (h P h1 h2)
theorem am_wp_m {c c' : am_C} (hc : am_leC c c') {t : List am_row} {R R' : am_R} (hR : ∀ r a b, R r a b → R' r a b) {i lo st mi ml} (h : am_wp c t R i lo st mi ml) : am_wp c' t R' i lo st mi ml :=
  fun P h1 h2 => h P (fun _ _ _ _ _ q => h1 _ _ _ _ _ (am_ex_m (fun _ _ _ _ _ q => q) hc hR q)) h2
/-- a call of a method by its number, its own calls at most d deep -/
def am_call : Nat → am_C
  | 0 => fun _ _ _ _ _ => False
  | d + 1 => fun f args mi ml R => am_cat args ≤ (am_m f).2.2.1 ∧ am_wp (am_call d) (am_tab f) R 0 (am_in (am_m f).2.2.1 args) [] mi ml
theorem am_call_c : ∀ d, am_leC (am_call d) (am_call d)
  | 0 => fun _ _ _ _ _ _ _ h => h.elim
  | d + 1 => fun _ _ _ _ _ _ hR h => ⟨h.1, am_wp_m (am_call_c d) hR h.2⟩
theorem am_call_s : ∀ d, am_leC (am_call d) (am_call (d + 1))
  | 0 => fun _ _ _ _ _ _ _ h => h.elim
  | d + 1 => fun _ _ _ _ _ _ hR h => ⟨h.1, am_wp_m (am_call_s d) hR h.2⟩
theorem am_call_d {d e : Nat} (h : d ≤ e) : am_leC (am_call d) (am_call e) := by
  induction h with
  | refl => exact am_call_c d
  | step _ ih => exact fun _ _ _ _ _ _ hR q => am_call_s _ _ _ _ _ _ _ (fun _ _ _ w => w) (ih _ _ _ _ _ _ hR q)
theorem am_call_w {d : Nat} {f args mi ml} {R R' : am_R} (hR : ∀ r a b, R r a b → R' r a b) (h : am_call d f args mi ml R) : am_call d f args mi ml R' := am_call_c d _ _ _ _ _ _ hR h
theorem am_call_i {d : Nat} {f args mi ml} {R : am_R} (hl : am_cat args ≤ (am_m f).2.2.1) (h : am_wp (am_call d) (am_tab f) R 0 (am_in (am_m f).2.2.1 args) [] mi ml) : am_call (d + 1) f args mi ml R := ⟨hl, h⟩
end
section
/-! the world that holds the small machine's memory -/
abbrev am_G : Type := (Nat → Nat) × va_G × (Nat × Nat × Nat × Nat) × am_MI
def am_tv (G : am_G) : Value → Value
  | .ref a => .ref (G.1 a)
  | v => v
def am_fd (c j : Nat) : String := match vwCl[c]? with
  | some r => (r.2.1 j).2.2.1
  | none => "I"
def am_fv (G : am_G) (mi : am_MI) (a c j : Nat) : Value := if am_isr (am_fd c j) = true then .ref (G.1 (am_rf a j)) else .int (mi a j)
def am_fs (G : am_G) (mi : am_MI) (a c n : Nat) : List Value := (List.range n).map (am_fv G mi a c)
def am_en (G : am_G) (mi : am_MI) (ml : am_ML) (a : Nat) : va_E := match am_ck a with
  | (1, c, n, _) => .inr (c, am_fs G mi a c n)
  | (2, n, _, _) => .inl (G.2.2.1.1, n, .inl (mi a))
  | (3, n, _, _) => .inl (G.2.2.1.2.1, n, .inr (.inl (ml a)))
  | (_, n, f, d) => .inl (if d = 1 then G.2.2.1.2.2.1 else G.2.2.1.2.2.2, n, .inr (.inr (.inr (.inr (fun j => some (G.1 (f + d * j)))))))
def am_wl (G : am_G) (mi : am_MI) (ml : am_ML) : va_W := (List.range am_N).map fun a => (G.1 a, am_en G mi ml a)
def am_A (G : am_G) : Nat → Prop := fun q => ∃ k, k < am_N ∧ q = G.1 k
def am_ty (G : am_G) : List (ClassId × FieldType) := [(G.2.2.1.1, .int), (G.2.2.1.2.1, .long), (G.2.2.1.2.2.1, .array .int), (G.2.2.1.2.2.2, .object "DoorsForThree$Shelf")]
def am_sx (G : am_G) (U : State) (H : Heap) : Prop :=
  (∀ k, 114 ≤ k → k ≤ 116 → va_Z (am_stn k).1 (am_stn k).2 "[I" (.ref (G.1 k)) (am_A G) U H ∧ va_T .int (G.1 k) (am_n k) (fun j => .int (G.2.2.2 k j)) (am_A G) U H) ∧
  va_Z "java/lang/String" "COMPACT_STRINGS" "Z" (.int 1) (am_A G) U H ∧
  va_T .int (G.1 117) (G.2.2.2 117 100000).toNatClampNeg (fun j => .int (G.2.2.2 117 j)) (am_A G) U H ∧
  (∀ q ∈ am_strs, vk_R "DoorsForThree$Law" q.1 q.2.1 (G.1 q.2.2) U) ∧
  (∀ k, 118 ≤ k → k ≤ 127 → va_O "java/lang/String" (G.1 k) (am_A G) U H ∧ va_OF "java/lang/String" "coder" "B" (.int (G.2.2.2 k 1)) (G.1 k) (am_A G) U H ∧ va_OF "java/lang/String" "value" "[B" (.ref (G.1 (am_rf k 0))) (G.1 k) (am_A G) U H) ∧
  (∀ k, 128 ≤ k → k ≤ 137 → va_T .byte (G.1 k) (am_n k) (fun j => .int (G.2.2.2 k j)) (am_A G) U H) ∧
  ∀ a i b n d h, Cond.fieldLinkNest a i b n d h ∈ lw_tbl → va_Nw (.fieldLinkNest a i b n d h) U
def am_hp (G : am_G) (H : Heap) (mi : am_MI) (ml : am_ML) : Prop := va_P G.2.1 vwCl (am_wl G mi ml) H ∧ va_D (am_A G) (am_wl G mi ml) ∧ ∀ c, am_N ≤ c → mi c = G.2.2.2 c
def am_wd (G : am_G) (U : State) (H : Heap) (mi : am_MI) (ml : am_ML) : Prop := am_hp G H mi ml ∧ va_K G.2.1 vwCl (am_ty G) U ∧ am_sx G U H
theorem am_sx_on {G : am_G} {s U : State} {H : Heap} (hW : s.WarmedH U.vm) (hq : ∀ a : Nat, a < s.heap.size → ¬ am_A G a → H[a]? = s.heap[a]?) (h : am_sx G s s.heap) : am_sx G U H := by
  obtain ⟨h1, h2, h3, h4, h5, h6, h7⟩ := h
  have hv := hW.alike
  refine ⟨fun k a b => ⟨va_Z.moved hv ((h1 k a b).1.kept hq), va_T.moved hv ((h1 k a b).2.kept hq)⟩, va_Z.moved hv (h2.kept hq), va_T.moved hv (h3.kept hq), fun q a => (h4 q a).warm hW, fun k a b => ?_, fun k a b => va_T.moved hv ((h6 k a b).kept hq), fun a i b n d h w => (h7 a i b n d h w).warmF hW⟩
  obtain ⟨g1, g2, g3⟩ := h5 k a b
  exact ⟨va_O.moved hv (g1.kept hq), va_OF.moved hv (g2.kept hq), va_OF.moved hv (g3.kept hq)⟩
theorem am_sx_vm {G : am_G} {u U : State} {H : Heap} (hv : U.vm = u.vm) (h : am_sx G u H) : am_sx G U H := by
  obtain ⟨h1, h2, h3, h4, h5, h6, h7⟩ := h
  have hv2 : u.vm.Alike U.vm := by rw [hv]; exact Vm.Alike.refl _
  refine ⟨fun k a b => ⟨va_Z.moved hv2 (h1 k a b).1, va_T.moved hv2 (h1 k a b).2⟩, va_Z.moved hv2 h2, va_T.moved hv2 h3, fun q a => (h4 q a).same hv, fun k a b => ?_, fun k a b => va_T.moved hv2 (h6 k a b), fun a i b n d h w => (h7 a i b n d h w).same rfl hv.symm⟩
  obtain ⟨g1, g2, g3⟩ := h5 k a b
  exact ⟨va_O.moved hv2 g1, va_OF.moved hv2 g2, va_OF.moved hv2 g3⟩
theorem am_wd_vm {G : am_G} {u U : State} {H : Heap} {mi ml} (hv : U.vm = u.vm) (h : am_wd G u H mi ml) : am_wd G U H mi ml :=
  ⟨h.1, h.2.1.moved (by rw [hv]; exact Vm.Alike.refl _), am_sx_vm hv h.2.2⟩
/-! facts of the cells -/
theorem am_nth_out {α : Type} {d : α} : ∀ (l : List α) (i : Nat), l.length ≤ i → am_nth d l i = d
  | [], _, _ => rfl
  | _ :: _, 0, h => absurd h (by simp)
  | _ :: l, i + 1, h => am_nth_out l i (by simpa using h)
theorem am_ck_out {a : Nat} (h : 138 ≤ a) : am_ck a = (0, 0, 0, 0) := am_nth_out _ _ (by exact h)
def am_okcell (a : Nat) : Bool := match am_kd a with
  | 1 => decide (a < 114) && (match vwCl[am_n a]? with
    | some r => r.2.2 == am_f a
    | none => false)
  | 2 => decide (a < 114)
  | 3 => decide (a < 114)
  | 4 => decide (a < 114) && (am_d a == 1 || am_d a == 2)
  | 5 => decide (114 ≤ a) && decide (a ≤ 116)
  | 6 => a == 117
  | 7 => decide (118 ≤ a) && decide (a ≤ 127)
  | 8 => decide (128 ≤ a) && decide (a ≤ 137)
  | _ => false
theorem am_okcells : ∀ a, a < 138 → am_okcell a = true := by decide +kernel
theorem am_okcell_of {a k : Nat} (h : am_kd a = k) (hk : 1 ≤ k) : am_okcell a = true := by
  refine am_okcells a (Nat.lt_of_not_le fun q => ?_)
  unfold am_kd at h
  rw [am_ck_out q] at h
  simp only at h
  omega
theorem am_k1 {a : Nat} (h : am_kd a = 1) : a < am_N ∧ ∃ C T, vwCl[am_n a]? = some (C, T, am_f a) := by
  have z := am_okcell_of h (by omega)
  unfold am_okcell at z
  rw [h] at z
  simp only [Bool.and_eq_true, decide_eq_true_eq] at z
  refine ⟨z.1, ?_⟩
  have z2 := z.2
  split at z2
  · rename_i r e
    exact ⟨r.1, r.2.1, by rw [e, ← eq_of_beq z2]⟩
  · cases z2
theorem am_k2 {a : Nat} (h : am_kd a = 2) : a < am_N := by
  have z := am_okcell_of h (by omega)
  unfold am_okcell at z
  rw [h] at z
  simpa using z
theorem am_k3 {a : Nat} (h : am_kd a = 3) : a < am_N := by
  have z := am_okcell_of h (by omega)
  unfold am_okcell at z
  rw [h] at z
  simpa using z
theorem am_k4 {a : Nat} (h : am_kd a = 4) : a < am_N ∧ (am_d a = 1 ∨ am_d a = 2) := by
  have z := am_okcell_of h (by omega)
  unfold am_okcell at z
  rw [h] at z
  simpa using z
theorem am_k5 {a : Nat} (h : am_kd a = 5) : 114 ≤ a ∧ a ≤ 116 := by
  have z := am_okcell_of h (by omega)
  unfold am_okcell at z
  rw [h] at z
  simpa using z
theorem am_k6 {a : Nat} (h : am_kd a = 6) : a = 117 := by
  have z := am_okcell_of h (by omega)
  unfold am_okcell at z
  rw [h] at z
  simpa using z
theorem am_k7 {a : Nat} (h : am_kd a = 7) : 118 ≤ a ∧ a ≤ 127 := by
  have z := am_okcell_of h (by omega)
  unfold am_okcell at z
  rw [h] at z
  simpa using z
theorem am_k8 {a : Nat} (h : am_kd a = 8) : 128 ≤ a ∧ a ≤ 137 := by
  have z := am_okcell_of h (by omega)
  unfold am_okcell at z
  rw [h] at z
  simpa using z
theorem am_en1 {G : am_G} {mi ml} {a : Nat} (h : am_kd a = 1) : am_en G mi ml a = .inr (am_n a, am_fs G mi a (am_n a) (am_f a)) := by
  unfold am_kd at h
  unfold am_en am_n am_f
  rcases e : am_ck a with ⟨k, n, f, d⟩
  rw [e] at h
  subst h
  rfl
theorem am_en2 {G : am_G} {mi ml} {a : Nat} (h : am_kd a = 2) : am_en G mi ml a = .inl (G.2.2.1.1, am_n a, .inl (mi a)) := by
  unfold am_kd at h
  unfold am_en am_n
  rcases e : am_ck a with ⟨k, n, f, d⟩
  rw [e] at h
  subst h
  rfl
theorem am_en3 {G : am_G} {mi ml} {a : Nat} (h : am_kd a = 3) : am_en G mi ml a = .inl (G.2.2.1.2.1, am_n a, .inr (.inl (ml a))) := by
  unfold am_kd at h
  unfold am_en am_n
  rcases e : am_ck a with ⟨k, n, f, d⟩
  rw [e] at h
  subst h
  rfl
theorem am_en4 {G : am_G} {mi ml} {a : Nat} (h : am_kd a = 4) : am_en G mi ml a = .inl (if am_d a = 1 then G.2.2.1.2.2.1 else G.2.2.1.2.2.2, am_n a, .inr (.inr (.inr (.inr (fun j => some (G.1 (am_f a + am_d a * j))))))) := by
  unfold am_kd at h
  unfold am_en am_n am_f am_d
  rcases e : am_ck a with ⟨k, n, f, d⟩
  rw [e] at h
  subst h
  rfl
theorem am_wl_at {G : am_G} {mi ml} {a : Nat} (h : a < am_N) : (am_wl G mi ml)[a]? = some (G.1 a, am_en G mi ml a) := by
  unfold am_wl
  rw [List.getElem?_map, List.getElem?_range h]
  rfl
/-- writing an entry in the world is writing the memory -/
theorem am_wl_set {G : am_G} {mi mi' ml ml'} {a : Nat} {v : va_E} (hv : am_en G mi' ml' a = v) (ho : ∀ b, b < am_N → ¬ b = a → am_en G mi' ml' b = am_en G mi ml b) : (am_wl G mi ml).set a (G.1 a, v) = am_wl G mi' ml' := by
  apply List.ext_getElem?
  intro k
  rw [List.getElem?_set]
  by_cases hk : k < am_N
  · rw [am_wl_at (mi := mi') (ml := ml') hk]
    by_cases e : a = k
    · subst e
      rw [if_pos rfl, if_pos (by unfold am_wl; simpa using hk), hv]
    · rw [if_neg e, am_wl_at hk, ho k hk (fun q => e q.symm)]
  · have hn : (am_wl G mi' ml')[k]? = none := by
      rw [List.getElem?_eq_none]
      unfold am_wl
      simpa using Nat.not_lt.mp hk
    rw [hn]
    by_cases e : a = k
    · subst e
      rw [if_pos rfl, if_neg (by unfold am_wl; simpa using hk)]
    · rw [if_neg e, List.getElem?_eq_none]
      unfold am_wl
      simpa using Nat.not_lt.mp hk
theorem am_ui_o {mi : am_MI} {a j : Nat} {x : Int32} {b : Nat} (h : ¬ b = a) : am_ui mi a j x b = mi b := by
  funext i
  unfold am_ui
  rw [if_neg (fun q => h q.1)]
theorem am_ul_o {ml : am_ML} {a j : Nat} {x : Int64} {b : Nat} (h : ¬ b = a) : am_ul ml a j x b = ml b := by
  funext i
  unfold am_ul
  rw [if_neg (fun q => h q.1)]
theorem am_ci_o {mi : am_MI} {a0 sp a1 dp n b : Nat} (h : ¬ b = a1) : am_ci mi a0 sp a1 dp n b = mi b := by
  funext i
  unfold am_ci
  rw [if_neg (fun q => h q.1)]
theorem am_cj_o {ml : am_ML} {a0 sp a1 dp n b : Nat} (h : ¬ b = a1) : am_cj ml a0 sp a1 dp n b = ml b := by
  funext i
  unfold am_cj
  rw [if_neg (fun q => h q.1)]
/-- the entry of a cell reads its own row of the memory alone -/
theorem am_en_c {G : am_G} {mi mi' ml ml'} {b : Nat} (h1 : mi' b = mi b) (h2 : ml' b = ml b) : am_en G mi' ml' b = am_en G mi ml b := by
  unfold am_en am_fs am_fv
  rw [h1, h2]
theorem am_ui_a {mi : am_MI} {a j : Nat} {x : Int32} : am_ui mi a j x a = upd (mi a) j x := by
  funext i
  unfold am_ui upd
  by_cases h : i = j
  · rw [if_pos ⟨rfl, h⟩, if_pos h]
  · rw [if_neg (fun q => h q.2), if_neg h]
theorem am_ul_a {ml : am_ML} {a j : Nat} {x : Int64} : am_ul ml a j x a = vp_updL (ml a) j x := by
  funext i
  unfold am_ul vp_updL
  by_cases h : i = j
  · rw [if_pos ⟨rfl, h⟩, if_pos h]
  · rw [if_neg (fun q => h q.2), if_neg h]
theorem am_ci_a {mi : am_MI} {a0 sp a1 dp n : Nat} : am_ci mi a0 sp a1 dp n a1 = va_cpy (mi a0) (mi a1) sp dp n := by
  funext i
  unfold am_ci va_cpy
  by_cases h : dp ≤ i ∧ i < dp + n
  · rw [if_pos ⟨rfl, h⟩, if_pos h]
  · rw [if_neg (fun q => h q.2), if_neg h]
theorem am_cj_a {ml : am_ML} {a0 sp a1 dp n : Nat} : am_cj ml a0 sp a1 dp n a1 = va_cpy (ml a0) (ml a1) sp dp n := by
  funext i
  unfold am_cj va_cpy
  by_cases h : dp ≤ i ∧ i < dp + n
  · rw [if_pos ⟨rfl, h⟩, if_pos h]
  · rw [if_neg (fun q => h q.2), if_neg h]
theorem am_hp_ui {G : am_G} {mi : am_MI} {a j : Nat} {x : Int32} (ha : a < am_N) (h : ∀ c, am_N ≤ c → mi c = G.2.2.2 c) : ∀ c, am_N ≤ c → am_ui mi a j x c = G.2.2.2 c :=
  fun c hc => by rw [am_ui_o (by omega)]; exact h c hc
theorem am_hp_ci {G : am_G} {mi : am_MI} {a0 sp a1 dp n : Nat} (ha : a1 < am_N) (h : ∀ c, am_N ≤ c → mi c = G.2.2.2 c) : ∀ c, am_N ≤ c → am_ci mi a0 sp a1 dp n c = G.2.2.2 c :=
  fun c hc => by rw [am_ci_o (by omega)]; exact h c hc
/-- an int array's element written -/
theorem am_wl_ui {G : am_G} {mi ml} {a j : Nat} {x : Int32} (h : am_kd a = 2) : (am_wl G mi ml).set a (G.1 a, .inl (G.2.2.1.1, am_n a, .inl (upd (mi a) j x))) = am_wl G (am_ui mi a j x) ml :=
  am_wl_set (by rw [am_en2 h, am_ui_a]) (fun b _ hb => am_en_c (am_ui_o hb) rfl)
theorem am_wl_ul {G : am_G} {mi ml} {a j : Nat} {x : Int64} (h : am_kd a = 3) : (am_wl G mi ml).set a (G.1 a, .inl (G.2.2.1.2.1, am_n a, .inr (.inl (vp_updL (ml a) j x)))) = am_wl G mi (am_ul ml a j x) :=
  am_wl_set (by rw [am_en3 h, am_ul_a]) (fun b _ hb => am_en_c rfl (am_ul_o hb))
theorem am_wl_ci {G : am_G} {mi ml} {a0 sp a1 dp n : Nat} (h : am_kd a1 = 2) : (am_wl G mi ml).set a1 (G.1 a1, .inl (G.2.2.1.1, am_n a1, .inl (va_cpy (mi a0) (mi a1) sp dp n))) = am_wl G (am_ci mi a0 sp a1 dp n) ml :=
  am_wl_set (by rw [am_en2 h, am_ci_a]) (fun b _ hb => am_en_c (am_ci_o hb) rfl)
theorem am_wl_cj {G : am_G} {mi ml} {a0 sp a1 dp n : Nat} (h : am_kd a1 = 3) : (am_wl G mi ml).set a1 (G.1 a1, .inl (G.2.2.1.2.1, am_n a1, .inr (.inl (va_cpy (ml a0) (ml a1) sp dp n)))) = am_wl G mi (am_cj ml a0 sp a1 dp n) :=
  am_wl_set (by rw [am_en3 h, am_cj_a]) (fun b _ hb => am_en_c rfl (am_cj_o hb))
theorem am_fs_at {G : am_G} {mi a c n j} (h : j < n) : (am_fs G mi a c n)[j]? = some (am_fv G mi a c j) := by
  unfold am_fs
  rw [List.getElem?_map, List.getElem?_range h]
  rfl
theorem am_fs_len {G : am_G} {mi a c n} : (am_fs G mi a c n).length = n := by
  unfold am_fs
  simp
theorem am_fs_set {G : am_G} {mi a c n j} {x : Int32} (hr : am_isr (am_fd c j) = false) : (am_fs G mi a c n).set j (.int x) = am_fs G (am_ui mi a j x) a c n := by
  apply List.ext_getElem?
  intro k
  rw [List.getElem?_set]
  by_cases hk : k < n
  · rw [am_fs_at (mi := am_ui mi a j x) hk]
    by_cases e : j = k
    · subst e
      rw [if_pos rfl, if_pos (by rw [am_fs_len]; exact hk)]
      unfold am_fv am_ui
      rw [hr, if_neg (by decide), if_pos ⟨rfl, rfl⟩]
    · rw [if_neg e, am_fs_at hk]
      unfold am_fv am_ui
      rw [if_neg (c := a = a ∧ k = j) (fun q => e q.2.symm)]
  · have hn : (am_fs G (am_ui mi a j x) a c n)[k]? = none := by
      rw [List.getElem?_eq_none]
      rw [am_fs_len]
      exact Nat.not_lt.mp hk
    rw [hn]
    by_cases e : j = k
    · subst e
      rw [if_pos rfl, if_neg (by rw [am_fs_len]; exact hk)]
    · rw [if_neg e, List.getElem?_eq_none]
      rw [am_fs_len]
      exact Nat.not_lt.mp hk
theorem am_wl_fs {G : am_G} {mi ml} {a j : Nat} {x : Int32} (h : am_kd a = 1) (hr : am_isr (am_fd (am_n a) j) = false) : (am_wl G mi ml).set a (G.1 a, .inr (am_n a, (am_fs G mi a (am_n a) (am_f a)).set j (.int x))) = am_wl G (am_ui mi a j x) ml :=
  am_wl_set (by rw [am_en1 h, am_fs_set hr]) (fun b _ hb => am_en_c (am_ui_o hb) rfl)
/-! locals -/
def am_lt (G : am_G) : Nat → am_L → List (Nat × Value)
  | _, [] => []
  | i, none :: l => am_lt G (i + 1) l
  | i, some v :: l => (i, am_tv G v) :: am_lt G (i + 1) l
theorem am_lt_m {G : am_G} : ∀ (l : am_L) (i : Nat) (q : Nat × Value), q ∈ am_lt G i l ↔ ∃ j v, q = (i + j, am_tv G v) ∧ am_lg l j = some v
  | [], i, q => ⟨fun h => (List.not_mem_nil h).elim, fun ⟨j, v, _, h⟩ => by cases h⟩
  | none :: l, i, q => by
    show q ∈ am_lt G (i + 1) l ↔ _
    rw [am_lt_m l (i + 1) q]
    constructor
    · rintro ⟨j, v, e, h⟩
      exact ⟨j + 1, v, by rw [e, Nat.add_assoc, Nat.add_comm 1 j], h⟩
    · rintro ⟨j, v, e, h⟩
      cases j with
      | zero => cases h
      | succ j => exact ⟨j, v, by rw [e, Nat.add_assoc, Nat.add_comm 1 j], h⟩
  | some w :: l, i, q => by
    show q ∈ (i, am_tv G w) :: am_lt G (i + 1) l ↔ _
    rw [List.mem_cons, am_lt_m l (i + 1) q]
    constructor
    · rintro (e | ⟨j, v, e, h⟩)
      · exact ⟨0, w, e, rfl⟩
      · exact ⟨j + 1, v, by rw [e, Nat.add_assoc, Nat.add_comm 1 j], h⟩
    · rintro ⟨j, v, e, h⟩
      cases j with
      | zero =>
        cases h
        exact Or.inl e
      | succ j => exact Or.inr ⟨j, v, by rw [e, Nat.add_assoc, Nat.add_comm 1 j], h⟩
theorem am_lt_0 {G : am_G} {l : am_L} {q : Nat × Value} : q ∈ am_lt G 0 l ↔ ∃ v, q.2 = am_tv G v ∧ am_lg l q.1 = some v := by
  rw [am_lt_m]
  constructor
  · rintro ⟨j, v, e, h⟩
    rw [e, Nat.zero_add]
    exact ⟨v, rfl, h⟩
  · rintro ⟨v, e, h⟩
    exact ⟨q.1, v, by rw [Nat.zero_add, ← e], h⟩
def am_lv (G : am_G) (nL : Nat) (lo : am_L) (ls : Array Slot) : Prop := lv_has ls nL (am_lt G 0 lo)
theorem am_lv_sub {ls : Array Slot} {nL : Nat} {l l' : List (Nat × Value)} (h : lv_has ls nL l) (hs : ∀ q ∈ l', q ∈ l) : lv_has ls nL l' := ⟨h.1, h.2.1, fun q hq => h.2.2 q (hs q hq)⟩
theorem am_lv_at {G : am_G} {nL lo ls} (h : am_lv G nL lo ls) {n : Nat} {v : Value} (hn : am_lg lo n = some v) : ls[n]? = some (.val (am_tv G v)) :=
  h.2.2 (n, am_tv G v) (am_lt_0.mpr ⟨v, rfl, hn⟩)
theorem am_lv_le {G : am_G} {nL ls} : ∀ {lo' lo : am_L}, am_le lo' lo → am_lv G nL lo ls → am_lv G nL lo' ls := by
  intro lo' lo hle h
  refine am_lv_sub h fun q hq => ?_
  obtain ⟨v, e, hl⟩ := am_lt_0.mp hq
  refine am_lt_0.mpr ⟨v, e, ?_⟩
  have key : ∀ (lo' lo : am_L) (n : Nat) (v : Value), am_le lo' lo → am_lg lo' n = some v → am_lg lo n = some v := by
    intro lo'
    induction lo' with
    | nil => intro lo n v _ h; cases h
    | cons a l ih =>
      intro lo n v hle h
      cases lo with
      | nil =>
        cases a <;> exact hle.elim
      | cons b l2 =>
        cases n with
        | zero =>
          cases a with
          | none => cases h
          | some w => exact hle.1.trans h
        | succ n =>
          cases a with
          | none => exact ih l2 n v hle h
          | some w => exact ih l2 n v hle.2 h
  exact key _ _ _ _ hle hl
theorem am_lg_ls : ∀ (lo : am_L) (i j : Nat) (o : Option Value) (v : Value), am_lg (am_ls lo i o) j = some v → (j = i ∧ o = some v) ∨ (¬ j = i ∧ am_lg lo j = some v)
  | [], _, _, _, _, h => by cases h
  | _ :: l, 0, 0, o, v, h => Or.inl ⟨rfl, h⟩
  | _ :: l, 0, j + 1, o, v, h => Or.inr ⟨by omega, h⟩
  | a :: l, i + 1, 0, o, v, h => Or.inr ⟨by omega, h⟩
  | a :: l, i + 1, j + 1, o, v, h => by
    rcases am_lg_ls l i j o v h with ⟨e, w⟩ | ⟨e, w⟩
    · exact Or.inl ⟨by omega, w⟩
    · exact Or.inr ⟨by omega, w⟩
theorem am_lg_kl {lo : am_L} {i j : Nat} {v : Value} (h : am_lg (am_kl lo i) j = some v) : am_lg lo j = some v ∧ (j = i → ¬ v.category = 2) := by
  unfold am_kl at h
  split at h
  · rcases am_lg_ls _ _ _ _ _ h with ⟨_, e⟩ | ⟨e, w⟩
    · cases e
    · exact ⟨w, fun q => (e q).elim⟩
  · rcases am_lg_ls _ _ _ _ _ h with ⟨_, e⟩ | ⟨e, w⟩
    · cases e
    · exact ⟨w, fun q => (e q).elim⟩
  · rename_i n1 n2
    refine ⟨h, fun e => ?_⟩
    subst e
    cases v <;> first | exact absurd h (n1 _) | exact absurd h (n2 _) | (intro q; cases q)
theorem am_tv_cat {G : am_G} {v : Value} : (am_tv G v).category = v.category := by
  cases v <;> rfl
theorem am_s1_sub {G : am_G} {lo : am_L} {i : Nat} {v : Value} : ∀ q ∈ am_lt G 0 (am_s1 lo i v), q ∈ (i, am_tv G v) :: (am_lt G 0 lo).filter (fun q => !(q.1 == i) && !(q.1 + 1 == i && q.2.category == 2)) := by
  intro q hq
  obtain ⟨w, e, h⟩ := am_lt_0.mp hq
  obtain ⟨j, z⟩ := q
  simp only at e h
  subst e
  unfold am_s1 at h
  split at h
  · rcases am_lg_ls _ _ _ _ _ h with ⟨e1, e2⟩ | ⟨e1, e2⟩
    · cases e2
      subst e1
      exact List.mem_cons_self
    · refine List.mem_cons_of_mem _ (List.mem_filter.mpr ⟨am_lt_0.mpr ⟨w, rfl, e2⟩, ?_⟩)
      simp
      exact e1
  · rename_i i
    rcases am_lg_ls _ _ _ _ _ h with ⟨e1, e2⟩ | ⟨e1, e2⟩
    · cases e2
      subst e1
      exact List.mem_cons_self
    · obtain ⟨g1, g2⟩ := am_lg_kl e2
      refine List.mem_cons_of_mem _ (List.mem_filter.mpr ⟨am_lt_0.mpr ⟨w, rfl, g1⟩, ?_⟩)
      simp only [am_tv_cat]
      simp
      exact ⟨e1, Decidable.not_or_of_imp g2⟩
theorem am_s2_sub {G : am_G} {lo : am_L} {i : Nat} {v : Value} : ∀ q ∈ am_lt G 0 (am_s2 lo i v), q ∈ (i, am_tv G v) :: (am_lt G 0 lo).filter (fun q => !(q.1 == i) && (!(q.1 == i + 1) && !(q.1 + 1 == i && q.2.category == 2))) := by
  intro q hq
  obtain ⟨w, e, h⟩ := am_lt_0.mp hq
  obtain ⟨j, z⟩ := q
  simp only at e h
  subst e
  unfold am_s2 at h
  split at h
  · rcases am_lg_ls _ _ _ _ _ h with ⟨e1, e2⟩ | ⟨e1, e2⟩
    · cases e2
      subst e1
      exact List.mem_cons_self
    · rcases am_lg_ls _ _ _ _ _ e2 with ⟨e3, e4⟩ | ⟨e3, e4⟩
      · cases e4
      · refine List.mem_cons_of_mem _ (List.mem_filter.mpr ⟨am_lt_0.mpr ⟨w, rfl, e4⟩, ?_⟩)
        simp
        exact ⟨e1, e3⟩
  · rename_i i
    rcases am_lg_ls _ _ _ _ _ h with ⟨e1, e2⟩ | ⟨e1, e2⟩
    · cases e2
      subst e1
      exact List.mem_cons_self
    · rcases am_lg_ls _ _ _ _ _ e2 with ⟨e3, e4⟩ | ⟨e3, e4⟩
      · cases e4
      · obtain ⟨g1, g2⟩ := am_lg_kl e4
        refine List.mem_cons_of_mem _ (List.mem_filter.mpr ⟨am_lt_0.mpr ⟨w, rfl, g1⟩, ?_⟩)
        simp only [am_tv_cat]
        simp
        exact ⟨e1, e3, Decidable.not_or_of_imp g2⟩
theorem am_sl_cat : ∀ vs : List Value, (lg_sl vs).length = am_cat vs
  | [] => rfl
  | v :: vs => by
    have ih := am_sl_cat vs
    unfold lg_sl at ih ⊢
    rw [List.flatMap_cons, List.length_append, ih]
    cases v <;> rfl
theorem am_cat_tv {G : am_G} : ∀ vs : List Value, am_cat (vs.map (am_tv G)) = am_cat vs
  | [] => rfl
  | v :: vs => by
    show (am_tv G v).category + am_cat (vs.map (am_tv G)) = v.category + am_cat vs
    rw [am_cat_tv vs, am_tv_cat]
theorem am_lt_rep {G : am_G} : ∀ (n i : Nat), am_lt G i (List.replicate n none) = []
  | 0, _ => rfl
  | n + 1, i => am_lt_rep n (i + 1)
theorem am_in_sub {G : am_G} : ∀ (vs : List Value) (n i : Nat), ∀ q ∈ am_lt G i (am_in n vs), q ∈ lv_args i (vs.map (am_tv G))
  | [], n, i, q, h => by
    unfold am_in at h
    rw [am_lt_rep] at h
    cases h
  | v :: vs, n, i, q, h => by
    have one : ∀ n, q ∈ (i, am_tv G v) :: am_lt G (i + 1) (am_in n vs) → ¬ v.category = 2 → q ∈ lv_args i ((v :: vs).map (am_tv G)) := by
      intro n h hc
      show q ∈ (i, am_tv G v) :: lv_args (if (am_tv G v).category = 2 then i + 2 else i + 1) (vs.map (am_tv G))
      rw [am_tv_cat, if_neg hc]
      rcases List.mem_cons.mp h with h | h
      · exact List.mem_cons.mpr (Or.inl h)
      · exact List.mem_cons_of_mem _ (am_in_sub vs n (i + 1) q h)
    have two : ∀ n, q ∈ (i, am_tv G v) :: am_lt G (i + 1 + 1) (am_in n vs) → v.category = 2 → q ∈ lv_args i ((v :: vs).map (am_tv G)) := by
      intro n h hc
      show q ∈ (i, am_tv G v) :: lv_args (if (am_tv G v).category = 2 then i + 2 else i + 1) (vs.map (am_tv G))
      rw [am_tv_cat, if_pos hc]
      rcases List.mem_cons.mp h with h | h
      · exact List.mem_cons.mpr (Or.inl h)
      · exact List.mem_cons_of_mem _ (am_in_sub vs n (i + 2) q h)
    cases v <;> first | exact one _ h (by intro q; cases q) | exact two _ h rfl
theorem am_lv_in {G : am_G} {vs : List Value} {n : Nat} (h : am_cat vs ≤ n) : am_lv G n (am_in n vs) ((lg_sl (vs.map (am_tv G)) ++ List.replicate (n - (lg_sl (vs.map (am_tv G))).length) Slot.unset).toArray) :=
  am_lv_sub (lv_entry (vs.map (am_tv G)) (n := n) (by rw [am_sl_cat, am_cat_tv]; exact h)) (am_in_sub vs n 0)
theorem am_cat_sum : ∀ vs : List Value, (vs.map fun v => v.category).sum = am_cat vs
  | [] => rfl
  | v :: vs => by
    rw [List.map_cons, List.sum_cons, am_cat_sum vs]
    rfl
end
section
/-! each instruction of the small machine is one of the real one -/
/-- the tables' words that hold wherever the tables do -/
def am_tb : List Cond := lw_tbl.filter goodWord
theorem am_tb_i {w : Cond} (h : w ∈ lw_tbl) (hg : goodWord w = true) : w ∈ am_tb := List.mem_filter.mpr ⟨h, hg⟩
def am_fr (p : Program) (s : State) (m : MethodId) (args : Array Value) (meth : Method) (c : Code) (G : am_G) (y : MethodName) (bc : ByteArray) (nL : Nat) (rt : Option FieldType) (lk : List Cond) : Prop :=
  p.tables.exec = Jvm.exec ∧ c.code = bc ∧ c.maxLocals = nL ∧ meth.sig.returnType = rt ∧ meth.locks = false ∧ (∀ w ∈ am_tb, w.before args s = true) ∧ (∀ w ∈ lk, w ∈ lw_tbl) ∧ s.vm.findClass y.cls = some m.cls ∧ va_K G.2.1 vwCl (am_ty G) s ∧ am_sx G s s.heap
def am_mo (p : Program) (l : Launch) (e : Env) (Rm : Room) (s : State) (m : MethodId) (args : Array Value) (below : List Frame) (meth : Method) (c : Code) (cs ss : Nat) (Q : State → Prop) (G : am_G) (nL : Nat) (t : List am_row) : am_K :=
  fun i lo st mi ml => ∀ (ls : Array Slot) (H : Heap) (locs : List Loc), am_lv G nL lo ls → am_hp G H mi ml → va_S (am_A G) s.heap H locs → W p l e Rm s m args below meth c H locs cs ss Q (F0 m (am_pcs t i) ls (st.map (am_tv G)))
theorem am_uses {T : List Cond} {xs : List Nat} {us : List Cond} (h : xs.map (fun i => T[i]?) = us.map some) : ∀ w ∈ us, w ∈ T := by
  intro w hw
  have h1 : some w ∈ us.map some := List.mem_map.mpr ⟨w, hw, rfl⟩
  rw [← h] at h1
  obtain ⟨i, -, hi⟩ := List.mem_map.mp h1
  exact List.mem_of_getElem? hi
section AMS
variable {p : Program} {l : Launch} {e : Env} {Rm : Room} {s : State} {m : MethodId} {args : Array Value} {below : List Frame} {meth : Method} {c : Code} {cs ss : Nat} {Q : State → Prop}
variable {G : am_G} {y : MethodName} {bc : ByteArray} {nL : Nat} {rt : Option FieldType} {lk : List Cond} {t : List am_row} {Rr : am_R} {cl : am_C}
variable {i pc len k1 k2 k3 : Nat} {v : Int32} {sw : List (Int32 × Nat)} {lo : am_L} {st : List Value} {mi : am_MI} {ml : am_ML}
theorem am_s_iadd (F : am_fr p s m args meth c G y bc nL rt lk)  (hc : am_chk y bc nL rt lk t i (pc, .iadd, len, k1, k2, k3, v, sw) = true) (hi : am_pcs t i = pc) (h : am_b2 (am_mo p l e Rm s m args below meth c cs ss Q G nL t) i lo st mi ml (fun x y => x + y)) : (am_mo p l e Rm s m args below meth c cs ss Q G nL t) i lo st mi ml := by
  obtain ⟨hx, hb, hml, hr, hlocks, hts, hlk, hown, hK, hX⟩ := F
  have hc : (decide (decode bc pc = .ok (.iadd, len)) && (len == 1 && am_pcs t (i + 1) == pc + 1)) = true := hc
  simp only [Bool.and_eq_true, decide_eq_true_eq, beq_iff_eq] at hc
  obtain ⟨hd, hl, hn⟩ := hc
  subst hl
  unfold am_b2 at h
  split at h
  · intro ls H locs g1 g2 g3
    have z := h ls H locs g1 g2 g3
    rw [hn] at z
    rw [hi]
    exact lv_iadd hx hb hd z
  · exact h.elim
theorem am_s_isub (F : am_fr p s m args meth c G y bc nL rt lk)  (hc : am_chk y bc nL rt lk t i (pc, .isub, len, k1, k2, k3, v, sw) = true) (hi : am_pcs t i = pc) (h : am_b2 (am_mo p l e Rm s m args below meth c cs ss Q G nL t) i lo st mi ml (fun x y => x - y)) : (am_mo p l e Rm s m args below meth c cs ss Q G nL t) i lo st mi ml := by
  obtain ⟨hx, hb, hml, hr, hlocks, hts, hlk, hown, hK, hX⟩ := F
  have hc : (decide (decode bc pc = .ok (.isub, len)) && (len == 1 && am_pcs t (i + 1) == pc + 1)) = true := hc
  simp only [Bool.and_eq_true, decide_eq_true_eq, beq_iff_eq] at hc
  obtain ⟨hd, hl, hn⟩ := hc
  subst hl
  unfold am_b2 at h
  split at h
  · intro ls H locs g1 g2 g3
    have z := h ls H locs g1 g2 g3
    rw [hn] at z
    rw [hi]
    exact lv_isub hx hb hd z
  · exact h.elim
theorem am_s_imul (F : am_fr p s m args meth c G y bc nL rt lk)  (hc : am_chk y bc nL rt lk t i (pc, .imul, len, k1, k2, k3, v, sw) = true) (hi : am_pcs t i = pc) (h : am_b2 (am_mo p l e Rm s m args below meth c cs ss Q G nL t) i lo st mi ml (fun x y => x * y)) : (am_mo p l e Rm s m args below meth c cs ss Q G nL t) i lo st mi ml := by
  obtain ⟨hx, hb, hml, hr, hlocks, hts, hlk, hown, hK, hX⟩ := F
  have hc : (decide (decode bc pc = .ok (.imul, len)) && (len == 1 && am_pcs t (i + 1) == pc + 1)) = true := hc
  simp only [Bool.and_eq_true, decide_eq_true_eq, beq_iff_eq] at hc
  obtain ⟨hd, hl, hn⟩ := hc
  subst hl
  unfold am_b2 at h
  split at h
  · intro ls H locs g1 g2 g3
    have z := h ls H locs g1 g2 g3
    rw [hn] at z
    rw [hi]
    exact lv_imul hx hb hd z
  · exact h.elim
theorem am_s_iand (F : am_fr p s m args meth c G y bc nL rt lk)  (hc : am_chk y bc nL rt lk t i (pc, .iand, len, k1, k2, k3, v, sw) = true) (hi : am_pcs t i = pc) (h : am_b2 (am_mo p l e Rm s m args below meth c cs ss Q G nL t) i lo st mi ml (fun x y => x &&& y)) : (am_mo p l e Rm s m args below meth c cs ss Q G nL t) i lo st mi ml := by
  obtain ⟨hx, hb, hml, hr, hlocks, hts, hlk, hown, hK, hX⟩ := F
  have hc : (decide (decode bc pc = .ok (.iand, len)) && (len == 1 && am_pcs t (i + 1) == pc + 1)) = true := hc
  simp only [Bool.and_eq_true, decide_eq_true_eq, beq_iff_eq] at hc
  obtain ⟨hd, hl, hn⟩ := hc
  subst hl
  unfold am_b2 at h
  split at h
  · intro ls H locs g1 g2 g3
    have z := h ls H locs g1 g2 g3
    rw [hn] at z
    rw [hi]
    exact lv_iand hx hb hd z
  · exact h.elim
theorem am_s_ior (F : am_fr p s m args meth c G y bc nL rt lk)  (hc : am_chk y bc nL rt lk t i (pc, .ior, len, k1, k2, k3, v, sw) = true) (hi : am_pcs t i = pc) (h : am_b2 (am_mo p l e Rm s m args below meth c cs ss Q G nL t) i lo st mi ml (fun x y => x ||| y)) : (am_mo p l e Rm s m args below meth c cs ss Q G nL t) i lo st mi ml := by
  obtain ⟨hx, hb, hml, hr, hlocks, hts, hlk, hown, hK, hX⟩ := F
  have hc : (decide (decode bc pc = .ok (.ior, len)) && (len == 1 && am_pcs t (i + 1) == pc + 1)) = true := hc
  simp only [Bool.and_eq_true, decide_eq_true_eq, beq_iff_eq] at hc
  obtain ⟨hd, hl, hn⟩ := hc
  subst hl
  unfold am_b2 at h
  split at h
  · intro ls H locs g1 g2 g3
    have z := h ls H locs g1 g2 g3
    rw [hn] at z
    rw [hi]
    exact lv_ior hx hb hd z
  · exact h.elim
theorem am_s_ixor (F : am_fr p s m args meth c G y bc nL rt lk)  (hc : am_chk y bc nL rt lk t i (pc, .ixor, len, k1, k2, k3, v, sw) = true) (hi : am_pcs t i = pc) (h : am_b2 (am_mo p l e Rm s m args below meth c cs ss Q G nL t) i lo st mi ml (fun x y => x ^^^ y)) : (am_mo p l e Rm s m args below meth c cs ss Q G nL t) i lo st mi ml := by
  obtain ⟨hx, hb, hml, hr, hlocks, hts, hlk, hown, hK, hX⟩ := F
  have hc : (decide (decode bc pc = .ok (.ixor, len)) && (len == 1 && am_pcs t (i + 1) == pc + 1)) = true := hc
  simp only [Bool.and_eq_true, decide_eq_true_eq, beq_iff_eq] at hc
  obtain ⟨hd, hl, hn⟩ := hc
  subst hl
  unfold am_b2 at h
  split at h
  · intro ls H locs g1 g2 g3
    have z := h ls H locs g1 g2 g3
    rw [hn] at z
    rw [hi]
    exact lv_ixor hx hb hd z
  · exact h.elim
theorem am_s_ishl (F : am_fr p s m args meth c G y bc nL rt lk)  (hc : am_chk y bc nL rt lk t i (pc, .ishl, len, k1, k2, k3, v, sw) = true) (hi : am_pcs t i = pc) (h : am_b2 (am_mo p l e Rm s m args below meth c cs ss Q G nL t) i lo st mi ml (am_shl)) : (am_mo p l e Rm s m args below meth c cs ss Q G nL t) i lo st mi ml := by
  obtain ⟨hx, hb, hml, hr, hlocks, hts, hlk, hown, hK, hX⟩ := F
  have hc : (decide (decode bc pc = .ok (.ishl, len)) && (len == 1 && am_pcs t (i + 1) == pc + 1)) = true := hc
  simp only [Bool.and_eq_true, decide_eq_true_eq, beq_iff_eq] at hc
  obtain ⟨hd, hl, hn⟩ := hc
  subst hl
  unfold am_b2 at h
  split at h
  · intro ls H locs g1 g2 g3
    have z := h ls H locs g1 g2 g3
    rw [hn] at z
    rw [hi]
    exact lv_ishl hx hb hd z
  · exact h.elim
theorem am_s_ishr (F : am_fr p s m args meth c G y bc nL rt lk)  (hc : am_chk y bc nL rt lk t i (pc, .ishr, len, k1, k2, k3, v, sw) = true) (hi : am_pcs t i = pc) (h : am_b2 (am_mo p l e Rm s m args below meth c cs ss Q G nL t) i lo st mi ml (am_shr)) : (am_mo p l e Rm s m args below meth c cs ss Q G nL t) i lo st mi ml := by
  obtain ⟨hx, hb, hml, hr, hlocks, hts, hlk, hown, hK, hX⟩ := F
  have hc : (decide (decode bc pc = .ok (.ishr, len)) && (len == 1 && am_pcs t (i + 1) == pc + 1)) = true := hc
  simp only [Bool.and_eq_true, decide_eq_true_eq, beq_iff_eq] at hc
  obtain ⟨hd, hl, hn⟩ := hc
  subst hl
  unfold am_b2 at h
  split at h
  · intro ls H locs g1 g2 g3
    have z := h ls H locs g1 g2 g3
    rw [hn] at z
    rw [hi]
    exact lv_ishr hx hb hd z
  · exact h.elim
theorem am_s_iushr (F : am_fr p s m args meth c G y bc nL rt lk)  (hc : am_chk y bc nL rt lk t i (pc, .iushr, len, k1, k2, k3, v, sw) = true) (hi : am_pcs t i = pc) (h : am_b2 (am_mo p l e Rm s m args below meth c cs ss Q G nL t) i lo st mi ml am_ushr) : (am_mo p l e Rm s m args below meth c cs ss Q G nL t) i lo st mi ml := by
  obtain ⟨hx, hb, hml, hr, hlocks, hts, hlk, hown, hK, hX⟩ := F
  have hc : (decide (decode bc pc = .ok (.iushr, len)) && (len == 1 && am_pcs t (i + 1) == pc + 1)) = true := hc
  simp only [Bool.and_eq_true, decide_eq_true_eq, beq_iff_eq] at hc
  obtain ⟨hd, hl, hn⟩ := hc
  subst hl
  unfold am_b2 at h
  split at h
  · intro ls H locs g1 g2 g3
    have z := h ls H locs g1 g2 g3
    rw [hn] at z
    rw [hi]
    exact lv_iushr hx hb hd rfl z
  · exact h.elim
theorem am_s_ladd (F : am_fr p s m args meth c G y bc nL rt lk)  (hc : am_chk y bc nL rt lk t i (pc, .ladd, len, k1, k2, k3, v, sw) = true) (hi : am_pcs t i = pc) (h : am_j2 (am_mo p l e Rm s m args below meth c cs ss Q G nL t) i lo st mi ml (fun x y => x + y)) : (am_mo p l e Rm s m args below meth c cs ss Q G nL t) i lo st mi ml := by
  obtain ⟨hx, hb, hml, hr, hlocks, hts, hlk, hown, hK, hX⟩ := F
  have hc : (decide (decode bc pc = .ok (.ladd, len)) && (len == 1 && am_pcs t (i + 1) == pc + 1)) = true := hc
  simp only [Bool.and_eq_true, decide_eq_true_eq, beq_iff_eq] at hc
  obtain ⟨hd, hl, hn⟩ := hc
  subst hl
  unfold am_j2 at h
  split at h
  · intro ls H locs g1 g2 g3
    have z := h ls H locs g1 g2 g3
    rw [hn] at z
    rw [hi]
    exact lv_ladd hx hb hd z
  · exact h.elim
theorem am_s_lmul (F : am_fr p s m args meth c G y bc nL rt lk)  (hc : am_chk y bc nL rt lk t i (pc, .lmul, len, k1, k2, k3, v, sw) = true) (hi : am_pcs t i = pc) (h : am_j2 (am_mo p l e Rm s m args below meth c cs ss Q G nL t) i lo st mi ml (fun x y => x * y)) : (am_mo p l e Rm s m args below meth c cs ss Q G nL t) i lo st mi ml := by
  obtain ⟨hx, hb, hml, hr, hlocks, hts, hlk, hown, hK, hX⟩ := F
  have hc : (decide (decode bc pc = .ok (.lmul, len)) && (len == 1 && am_pcs t (i + 1) == pc + 1)) = true := hc
  simp only [Bool.and_eq_true, decide_eq_true_eq, beq_iff_eq] at hc
  obtain ⟨hd, hl, hn⟩ := hc
  subst hl
  unfold am_j2 at h
  split at h
  · intro ls H locs g1 g2 g3
    have z := h ls H locs g1 g2 g3
    rw [hn] at z
    rw [hi]
    exact lv_lmul hx hb hd z
  · exact h.elim
theorem am_s_land (F : am_fr p s m args meth c G y bc nL rt lk)  (hc : am_chk y bc nL rt lk t i (pc, .land, len, k1, k2, k3, v, sw) = true) (hi : am_pcs t i = pc) (h : am_j2 (am_mo p l e Rm s m args below meth c cs ss Q G nL t) i lo st mi ml (fun x y => x &&& y)) : (am_mo p l e Rm s m args below meth c cs ss Q G nL t) i lo st mi ml := by
  obtain ⟨hx, hb, hml, hr, hlocks, hts, hlk, hown, hK, hX⟩ := F
  have hc : (decide (decode bc pc = .ok (.land, len)) && (len == 1 && am_pcs t (i + 1) == pc + 1)) = true := hc
  simp only [Bool.and_eq_true, decide_eq_true_eq, beq_iff_eq] at hc
  obtain ⟨hd, hl, hn⟩ := hc
  subst hl
  unfold am_j2 at h
  split at h
  · intro ls H locs g1 g2 g3
    have z := h ls H locs g1 g2 g3
    rw [hn] at z
    rw [hi]
    exact lv_land hx hb hd z
  · exact h.elim
theorem am_s_lor (F : am_fr p s m args meth c G y bc nL rt lk)  (hc : am_chk y bc nL rt lk t i (pc, .lor, len, k1, k2, k3, v, sw) = true) (hi : am_pcs t i = pc) (h : am_j2 (am_mo p l e Rm s m args below meth c cs ss Q G nL t) i lo st mi ml (fun x y => x ||| y)) : (am_mo p l e Rm s m args below meth c cs ss Q G nL t) i lo st mi ml := by
  obtain ⟨hx, hb, hml, hr, hlocks, hts, hlk, hown, hK, hX⟩ := F
  have hc : (decide (decode bc pc = .ok (.lor, len)) && (len == 1 && am_pcs t (i + 1) == pc + 1)) = true := hc
  simp only [Bool.and_eq_true, decide_eq_true_eq, beq_iff_eq] at hc
  obtain ⟨hd, hl, hn⟩ := hc
  subst hl
  unfold am_j2 at h
  split at h
  · intro ls H locs g1 g2 g3
    have z := h ls H locs g1 g2 g3
    rw [hn] at z
    rw [hi]
    exact lv_lor hx hb hd z
  · exact h.elim
theorem am_s_ineg (F : am_fr p s m args meth c G y bc nL rt lk)  (hc : am_chk y bc nL rt lk t i (pc, .ineg, len, k1, k2, k3, v, sw) = true) (hi : am_pcs t i = pc) (h : am_u1 (am_mo p l e Rm s m args below meth c cs ss Q G nL t) i lo st mi ml (fun x => -x)) : (am_mo p l e Rm s m args below meth c cs ss Q G nL t) i lo st mi ml := by
  obtain ⟨hx, hb, hml, hr, hlocks, hts, hlk, hown, hK, hX⟩ := F
  have hc : (decide (decode bc pc = .ok (.ineg, len)) && (len == 1 && am_pcs t (i + 1) == pc + 1)) = true := hc
  simp only [Bool.and_eq_true, decide_eq_true_eq, beq_iff_eq] at hc
  obtain ⟨hd, hl, hn⟩ := hc
  subst hl
  unfold am_u1 at h
  split at h
  · intro ls H locs g1 g2 g3
    have z := h ls H locs g1 g2 g3
    rw [hn] at z
    rw [hi]
    exact lv_ineg hx hb hd z
  · exact h.elim
theorem am_s_i2b (F : am_fr p s m args meth c G y bc nL rt lk)  (hc : am_chk y bc nL rt lk t i (pc, .i2b, len, k1, k2, k3, v, sw) = true) (hi : am_pcs t i = pc) (h : am_u1 (am_mo p l e Rm s m args below meth c cs ss Q G nL t) i lo st mi ml (fun x => x.toInt8.toInt32)) : (am_mo p l e Rm s m args below meth c cs ss Q G nL t) i lo st mi ml := by
  obtain ⟨hx, hb, hml, hr, hlocks, hts, hlk, hown, hK, hX⟩ := F
  have hc : (decide (decode bc pc = .ok (.i2b, len)) && (len == 1 && am_pcs t (i + 1) == pc + 1)) = true := hc
  simp only [Bool.and_eq_true, decide_eq_true_eq, beq_iff_eq] at hc
  obtain ⟨hd, hl, hn⟩ := hc
  subst hl
  unfold am_u1 at h
  split at h
  · intro ls H locs g1 g2 g3
    have z := h ls H locs g1 g2 g3
    rw [hn] at z
    rw [hi]
    exact lv_i2b hx hb hd rfl z
  · exact h.elim
theorem am_s_i2s (F : am_fr p s m args meth c G y bc nL rt lk)  (hc : am_chk y bc nL rt lk t i (pc, .i2s, len, k1, k2, k3, v, sw) = true) (hi : am_pcs t i = pc) (h : am_u1 (am_mo p l e Rm s m args below meth c cs ss Q G nL t) i lo st mi ml (fun x => x.toInt16.toInt32)) : (am_mo p l e Rm s m args below meth c cs ss Q G nL t) i lo st mi ml := by
  obtain ⟨hx, hb, hml, hr, hlocks, hts, hlk, hown, hK, hX⟩ := F
  have hc : (decide (decode bc pc = .ok (.i2s, len)) && (len == 1 && am_pcs t (i + 1) == pc + 1)) = true := hc
  simp only [Bool.and_eq_true, decide_eq_true_eq, beq_iff_eq] at hc
  obtain ⟨hd, hl, hn⟩ := hc
  subst hl
  unfold am_u1 at h
  split at h
  · intro ls H locs g1 g2 g3
    have z := h ls H locs g1 g2 g3
    rw [hn] at z
    rw [hi]
    exact lv_i2s hx hb hd rfl z
  · exact h.elim
theorem am_s_i2c (F : am_fr p s m args meth c G y bc nL rt lk)  (hc : am_chk y bc nL rt lk t i (pc, .i2c, len, k1, k2, k3, v, sw) = true) (hi : am_pcs t i = pc) (h : am_u1 (am_mo p l e Rm s m args below meth c cs ss Q G nL t) i lo st mi ml (am_i2c)) : (am_mo p l e Rm s m args below meth c cs ss Q G nL t) i lo st mi ml := by
  obtain ⟨hx, hb, hml, hr, hlocks, hts, hlk, hown, hK, hX⟩ := F
  have hc : (decide (decode bc pc = .ok (.i2c, len)) && (len == 1 && am_pcs t (i + 1) == pc + 1)) = true := hc
  simp only [Bool.and_eq_true, decide_eq_true_eq, beq_iff_eq] at hc
  obtain ⟨hd, hl, hn⟩ := hc
  subst hl
  unfold am_u1 at h
  split at h
  · intro ls H locs g1 g2 g3
    have z := h ls H locs g1 g2 g3
    rw [hn] at z
    rw [hi]
    exact lv_i2c hx hb hd rfl z
  · exact h.elim
theorem am_s_idiv (F : am_fr p s m args meth c G y bc nL rt lk)  (hc : am_chk y bc nL rt lk t i (pc, .idiv, len, k1, k2, k3, v, sw) = true) (hi : am_pcs t i = pc) (h : am_bd (am_mo p l e Rm s m args below meth c cs ss Q G nL t) i lo st mi ml (fun x y => x / y)) : (am_mo p l e Rm s m args below meth c cs ss Q G nL t) i lo st mi ml := by
  obtain ⟨hx, hb, hml, hr, hlocks, hts, hlk, hown, hK, hX⟩ := F
  have hc : (decide (decode bc pc = .ok (.idiv, len)) && (len == 1 && am_pcs t (i + 1) == pc + 1)) = true := hc
  simp only [Bool.and_eq_true, decide_eq_true_eq, beq_iff_eq] at hc
  obtain ⟨hd, hl, hn⟩ := hc
  subst hl
  unfold am_bd at h
  split at h
  · intro ls H locs g1 g2 g3
    have z := h.2 ls H locs g1 g2 g3
    rw [hn] at z
    rw [hi]
    exact lv_idiv hx hb hd h.1 z
  · exact h.elim
theorem am_s_irem (F : am_fr p s m args meth c G y bc nL rt lk)  (hc : am_chk y bc nL rt lk t i (pc, .irem, len, k1, k2, k3, v, sw) = true) (hi : am_pcs t i = pc) (h : am_bd (am_mo p l e Rm s m args below meth c cs ss Q G nL t) i lo st mi ml (am_rem)) : (am_mo p l e Rm s m args below meth c cs ss Q G nL t) i lo st mi ml := by
  obtain ⟨hx, hb, hml, hr, hlocks, hts, hlk, hown, hK, hX⟩ := F
  have hc : (decide (decode bc pc = .ok (.irem, len)) && (len == 1 && am_pcs t (i + 1) == pc + 1)) = true := hc
  simp only [Bool.and_eq_true, decide_eq_true_eq, beq_iff_eq] at hc
  obtain ⟨hd, hl, hn⟩ := hc
  subst hl
  unfold am_bd at h
  split at h
  · intro ls H locs g1 g2 g3
    have z := h.2 ls H locs g1 g2 g3
    rw [hn] at z
    rw [hi]
    exact lv_irem hx hb hd h.1 z
  · exact h.elim
theorem am_s_i2l (F : am_fr p s m args meth c G y bc nL rt lk)  (hc : am_chk y bc nL rt lk t i (pc, .i2l, len, k1, k2, k3, v, sw) = true) (hi : am_pcs t i = pc) (h : am_st cl (am_mo p l e Rm s m args below meth c cs ss Q G nL t) Rr .i2l k1 k2 k3 v sw i lo st mi ml) : (am_mo p l e Rm s m args below meth c cs ss Q G nL t) i lo st mi ml := by
  obtain ⟨hx, hb, hml, hr, hlocks, hts, hlk, hown, hK, hX⟩ := F
  have hc : (decide (decode bc pc = .ok (.i2l, len)) && (len == 1 && am_pcs t (i + 1) == pc + 1)) = true := hc
  simp only [Bool.and_eq_true, decide_eq_true_eq, beq_iff_eq] at hc
  obtain ⟨hd, hl, hn⟩ := hc
  subst hl
  simp only [am_st] at h
  split at h
  · intro ls H locs g1 g2 g3
    have z := h ls H locs g1 g2 g3
    rw [hn] at z
    rw [hi]
    exact lv_i2l hx hb hd rfl z
  · exact h.elim
theorem am_s_l2i (F : am_fr p s m args meth c G y bc nL rt lk)  (hc : am_chk y bc nL rt lk t i (pc, .l2i, len, k1, k2, k3, v, sw) = true) (hi : am_pcs t i = pc) (h : am_st cl (am_mo p l e Rm s m args below meth c cs ss Q G nL t) Rr .l2i k1 k2 k3 v sw i lo st mi ml) : (am_mo p l e Rm s m args below meth c cs ss Q G nL t) i lo st mi ml := by
  obtain ⟨hx, hb, hml, hr, hlocks, hts, hlk, hown, hK, hX⟩ := F
  have hc : (decide (decode bc pc = .ok (.l2i, len)) && (len == 1 && am_pcs t (i + 1) == pc + 1)) = true := hc
  simp only [Bool.and_eq_true, decide_eq_true_eq, beq_iff_eq] at hc
  obtain ⟨hd, hl, hn⟩ := hc
  subst hl
  simp only [am_st] at h
  split at h
  · intro ls H locs g1 g2 g3
    have z := h ls H locs g1 g2 g3
    rw [hn] at z
    rw [hi]
    exact lv_l2i hx hb hd rfl z
  · exact h.elim
theorem am_s_lshl (F : am_fr p s m args meth c G y bc nL rt lk)  (hc : am_chk y bc nL rt lk t i (pc, .lshl, len, k1, k2, k3, v, sw) = true) (hi : am_pcs t i = pc) (h : am_st cl (am_mo p l e Rm s m args below meth c cs ss Q G nL t) Rr .lshl k1 k2 k3 v sw i lo st mi ml) : (am_mo p l e Rm s m args below meth c cs ss Q G nL t) i lo st mi ml := by
  obtain ⟨hx, hb, hml, hr, hlocks, hts, hlk, hown, hK, hX⟩ := F
  have hc : (decide (decode bc pc = .ok (.lshl, len)) && (len == 1 && am_pcs t (i + 1) == pc + 1)) = true := hc
  simp only [Bool.and_eq_true, decide_eq_true_eq, beq_iff_eq] at hc
  obtain ⟨hd, hl, hn⟩ := hc
  subst hl
  simp only [am_st] at h
  split at h
  · intro ls H locs g1 g2 g3
    have z := h ls H locs g1 g2 g3
    rw [hn] at z
    rw [hi]
    exact lv_lshl hx hb hd rfl z
  · exact h.elim
theorem am_s_lcmp (F : am_fr p s m args meth c G y bc nL rt lk)  (hc : am_chk y bc nL rt lk t i (pc, .lcmp, len, k1, k2, k3, v, sw) = true) (hi : am_pcs t i = pc) (h : am_st cl (am_mo p l e Rm s m args below meth c cs ss Q G nL t) Rr .lcmp k1 k2 k3 v sw i lo st mi ml) : (am_mo p l e Rm s m args below meth c cs ss Q G nL t) i lo st mi ml := by
  obtain ⟨hx, hb, hml, hr, hlocks, hts, hlk, hown, hK, hX⟩ := F
  have hc : (decide (decode bc pc = .ok (.lcmp, len)) && (len == 1 && am_pcs t (i + 1) == pc + 1)) = true := hc
  simp only [Bool.and_eq_true, decide_eq_true_eq, beq_iff_eq] at hc
  obtain ⟨hd, hl, hn⟩ := hc
  subst hl
  simp only [am_st] at h
  split at h
  · intro ls H locs g1 g2 g3
    have z := h ls H locs g1 g2 g3
    rw [hn] at z
    rw [hi]
    exact W.lcmp hx hb hd z
  · exact h.elim
theorem am_s_iload (F : am_fr p s m args meth c G y bc nL rt lk) {n : Nat} (hc : am_chk y bc nL rt lk t i (pc, (.iload n), len, k1, k2, k3, v, sw) = true) (hi : am_pcs t i = pc) (h : am_ldI (am_mo p l e Rm s m args below meth c cs ss Q G nL t) i lo st mi ml n) : (am_mo p l e Rm s m args below meth c cs ss Q G nL t) i lo st mi ml := by
  obtain ⟨hx, hb, hml, hr, hlocks, hts, hlk, hown, hK, hX⟩ := F
  have hc : (decide (decode bc pc = .ok (.iload n, len)) && (len == 2 && am_pcs t (i + 1) == pc + 2)) = true := hc
  simp only [Bool.and_eq_true, decide_eq_true_eq, beq_iff_eq] at hc
  obtain ⟨hd, hl, hn⟩ := hc
  subst hl
  unfold am_ldI at h
  split at h
  · rename_i x hg
    intro ls H locs g1 g2 g3
    have z := h ls H locs g1 g2 g3
    rw [hn] at z
    rw [hi]
    exact lv_iload hx hb hd (am_lv_at g1 hg) z
  · exact h.elim
theorem am_s_iload_n (F : am_fr p s m args meth c G y bc nL rt lk) {n : Fin 4} (hc : am_chk y bc nL rt lk t i (pc, (.iload_n n), len, k1, k2, k3, v, sw) = true) (hi : am_pcs t i = pc) (h : am_ldI (am_mo p l e Rm s m args below meth c cs ss Q G nL t) i lo st mi ml n) : (am_mo p l e Rm s m args below meth c cs ss Q G nL t) i lo st mi ml := by
  obtain ⟨hx, hb, hml, hr, hlocks, hts, hlk, hown, hK, hX⟩ := F
  have hc : (decide (decode bc pc = .ok (.iload_n n, len)) && (len == 1 && am_pcs t (i + 1) == pc + 1)) = true := hc
  simp only [Bool.and_eq_true, decide_eq_true_eq, beq_iff_eq] at hc
  obtain ⟨hd, hl, hn⟩ := hc
  subst hl
  unfold am_ldI at h
  split at h
  · rename_i x hg
    intro ls H locs g1 g2 g3
    have z := h ls H locs g1 g2 g3
    rw [hn] at z
    rw [hi]
    exact lv_iload_n hx hb hd rfl (am_lv_at g1 hg) z
  · exact h.elim
theorem am_s_lload (F : am_fr p s m args meth c G y bc nL rt lk) {n : Nat} (hc : am_chk y bc nL rt lk t i (pc, (.lload n), len, k1, k2, k3, v, sw) = true) (hi : am_pcs t i = pc) (h : am_ldJ (am_mo p l e Rm s m args below meth c cs ss Q G nL t) i lo st mi ml n) : (am_mo p l e Rm s m args below meth c cs ss Q G nL t) i lo st mi ml := by
  obtain ⟨hx, hb, hml, hr, hlocks, hts, hlk, hown, hK, hX⟩ := F
  have hc : (decide (decode bc pc = .ok (.lload n, len)) && (len == 2 && am_pcs t (i + 1) == pc + 2)) = true := hc
  simp only [Bool.and_eq_true, decide_eq_true_eq, beq_iff_eq] at hc
  obtain ⟨hd, hl, hn⟩ := hc
  subst hl
  unfold am_ldJ at h
  split at h
  · rename_i x hg
    intro ls H locs g1 g2 g3
    have z := h ls H locs g1 g2 g3
    rw [hn] at z
    rw [hi]
    exact lv_lload hx hb hd (am_lv_at g1 hg) z
  · exact h.elim
theorem am_s_lload_n (F : am_fr p s m args meth c G y bc nL rt lk) {n : Fin 4} (hc : am_chk y bc nL rt lk t i (pc, (.lload_n n), len, k1, k2, k3, v, sw) = true) (hi : am_pcs t i = pc) (h : am_ldJ (am_mo p l e Rm s m args below meth c cs ss Q G nL t) i lo st mi ml n) : (am_mo p l e Rm s m args below meth c cs ss Q G nL t) i lo st mi ml := by
  obtain ⟨hx, hb, hml, hr, hlocks, hts, hlk, hown, hK, hX⟩ := F
  have hc : (decide (decode bc pc = .ok (.lload_n n, len)) && (len == 1 && am_pcs t (i + 1) == pc + 1)) = true := hc
  simp only [Bool.and_eq_true, decide_eq_true_eq, beq_iff_eq] at hc
  obtain ⟨hd, hl, hn⟩ := hc
  subst hl
  unfold am_ldJ at h
  split at h
  · rename_i x hg
    intro ls H locs g1 g2 g3
    have z := h ls H locs g1 g2 g3
    rw [hn] at z
    rw [hi]
    exact lv_lload_n hx hb hd rfl (am_lv_at g1 hg) z
  · exact h.elim
theorem am_s_aload (F : am_fr p s m args meth c G y bc nL rt lk) {n : Nat} (hc : am_chk y bc nL rt lk t i (pc, (.aload n), len, k1, k2, k3, v, sw) = true) (hi : am_pcs t i = pc) (h : am_ldA (am_mo p l e Rm s m args below meth c cs ss Q G nL t) i lo st mi ml n) : (am_mo p l e Rm s m args below meth c cs ss Q G nL t) i lo st mi ml := by
  obtain ⟨hx, hb, hml, hr, hlocks, hts, hlk, hown, hK, hX⟩ := F
  have hc : (decide (decode bc pc = .ok (.aload n, len)) && (len == 2 && am_pcs t (i + 1) == pc + 2)) = true := hc
  simp only [Bool.and_eq_true, decide_eq_true_eq, beq_iff_eq] at hc
  obtain ⟨hd, hl, hn⟩ := hc
  subst hl
  unfold am_ldA at h
  split at h
  · rename_i x hg
    intro ls H locs g1 g2 g3
    have z := h ls H locs g1 g2 g3
    rw [hn] at z
    rw [hi]
    exact lv_aload hx hb hd (am_lv_at g1 hg) z
  · exact h.elim
theorem am_s_aload_n (F : am_fr p s m args meth c G y bc nL rt lk) {n : Fin 4} (hc : am_chk y bc nL rt lk t i (pc, (.aload_n n), len, k1, k2, k3, v, sw) = true) (hi : am_pcs t i = pc) (h : am_ldA (am_mo p l e Rm s m args below meth c cs ss Q G nL t) i lo st mi ml n) : (am_mo p l e Rm s m args below meth c cs ss Q G nL t) i lo st mi ml := by
  obtain ⟨hx, hb, hml, hr, hlocks, hts, hlk, hown, hK, hX⟩ := F
  have hc : (decide (decode bc pc = .ok (.aload_n n, len)) && (len == 1 && am_pcs t (i + 1) == pc + 1)) = true := hc
  simp only [Bool.and_eq_true, decide_eq_true_eq, beq_iff_eq] at hc
  obtain ⟨hd, hl, hn⟩ := hc
  subst hl
  unfold am_ldA at h
  split at h
  · rename_i x hg
    intro ls H locs g1 g2 g3
    have z := h ls H locs g1 g2 g3
    rw [hn] at z
    rw [hi]
    exact lv_aload_n hx hb hd rfl (am_lv_at g1 hg) z
  · exact h.elim
theorem am_s_istore (F : am_fr p s m args meth c G y bc nL rt lk) {n : Nat} (hc : am_chk y bc nL rt lk t i (pc, (.istore n), len, k1, k2, k3, v, sw) = true) (hi : am_pcs t i = pc) (h : am_stI (am_mo p l e Rm s m args below meth c cs ss Q G nL t) i lo st mi ml n) : (am_mo p l e Rm s m args below meth c cs ss Q G nL t) i lo st mi ml := by
  obtain ⟨hx, hb, hml, hr, hlocks, hts, hlk, hown, hK, hX⟩ := F
  have hc : (decide (decode bc pc = .ok (.istore n, len)) && (len == 2 && am_pcs t (i + 1) == pc + 2 && decide ((n : Nat) < nL))) = true := hc
  simp only [Bool.and_eq_true, decide_eq_true_eq, beq_iff_eq] at hc
  obtain ⟨hd, ⟨hl, hn⟩, hlt⟩ := hc
  subst hl
  unfold am_stI at h
  split at h
  · intro ls H locs g1 g2 g3
    rw [hi]
    refine lv_istore hx hb hd g1 hlt rfl (fun ls2 g => ?_)
    have z := h ls2 H locs (am_lv_sub g am_s1_sub) g2 g3
    rw [hn] at z
    exact z
  · exact h.elim
theorem am_s_istore_n (F : am_fr p s m args meth c G y bc nL rt lk) {n : Fin 4} (hc : am_chk y bc nL rt lk t i (pc, (.istore_n n), len, k1, k2, k3, v, sw) = true) (hi : am_pcs t i = pc) (h : am_stI (am_mo p l e Rm s m args below meth c cs ss Q G nL t) i lo st mi ml n) : (am_mo p l e Rm s m args below meth c cs ss Q G nL t) i lo st mi ml := by
  obtain ⟨hx, hb, hml, hr, hlocks, hts, hlk, hown, hK, hX⟩ := F
  have hc : (decide (decode bc pc = .ok (.istore_n n, len)) && (len == 1 && am_pcs t (i + 1) == pc + 1 && decide ((n : Nat) < nL))) = true := hc
  simp only [Bool.and_eq_true, decide_eq_true_eq, beq_iff_eq] at hc
  obtain ⟨hd, ⟨hl, hn⟩, hlt⟩ := hc
  subst hl
  unfold am_stI at h
  split at h
  · intro ls H locs g1 g2 g3
    rw [hi]
    refine lv_istore_n hx hb hd rfl g1 hlt rfl (fun ls2 g => ?_)
    have z := h ls2 H locs (am_lv_sub g am_s1_sub) g2 g3
    rw [hn] at z
    exact z
  · exact h.elim
theorem am_s_lstore (F : am_fr p s m args meth c G y bc nL rt lk) {n : Nat} (hc : am_chk y bc nL rt lk t i (pc, (.lstore n), len, k1, k2, k3, v, sw) = true) (hi : am_pcs t i = pc) (h : am_stJ (am_mo p l e Rm s m args below meth c cs ss Q G nL t) i lo st mi ml n) : (am_mo p l e Rm s m args below meth c cs ss Q G nL t) i lo st mi ml := by
  obtain ⟨hx, hb, hml, hr, hlocks, hts, hlk, hown, hK, hX⟩ := F
  have hc : (decide (decode bc pc = .ok (.lstore n, len)) && (len == 2 && am_pcs t (i + 1) == pc + 2 && decide ((n : Nat) + 1 < nL))) = true := hc
  simp only [Bool.and_eq_true, decide_eq_true_eq, beq_iff_eq] at hc
  obtain ⟨hd, ⟨hl, hn⟩, hlt⟩ := hc
  subst hl
  unfold am_stJ at h
  split at h
  · intro ls H locs g1 g2 g3
    rw [hi]
    refine lv_lstore hx hb hd g1 hlt rfl (fun ls2 g => ?_)
    have z := h ls2 H locs (am_lv_sub g am_s2_sub) g2 g3
    rw [hn] at z
    exact z
  · exact h.elim
theorem am_s_lstore_n (F : am_fr p s m args meth c G y bc nL rt lk) {n : Fin 4} (hc : am_chk y bc nL rt lk t i (pc, (.lstore_n n), len, k1, k2, k3, v, sw) = true) (hi : am_pcs t i = pc) (h : am_stJ (am_mo p l e Rm s m args below meth c cs ss Q G nL t) i lo st mi ml n) : (am_mo p l e Rm s m args below meth c cs ss Q G nL t) i lo st mi ml := by
  obtain ⟨hx, hb, hml, hr, hlocks, hts, hlk, hown, hK, hX⟩ := F
  have hc : (decide (decode bc pc = .ok (.lstore_n n, len)) && (len == 1 && am_pcs t (i + 1) == pc + 1 && decide ((n : Nat) + 1 < nL))) = true := hc
  simp only [Bool.and_eq_true, decide_eq_true_eq, beq_iff_eq] at hc
  obtain ⟨hd, ⟨hl, hn⟩, hlt⟩ := hc
  subst hl
  unfold am_stJ at h
  split at h
  · intro ls H locs g1 g2 g3
    rw [hi]
    refine lv_lstore_n hx hb hd rfl g1 hlt rfl (fun ls2 g => ?_)
    have z := h ls2 H locs (am_lv_sub g am_s2_sub) g2 g3
    rw [hn] at z
    exact z
  · exact h.elim
theorem am_s_astore (F : am_fr p s m args meth c G y bc nL rt lk) {n : Nat} (hc : am_chk y bc nL rt lk t i (pc, (.astore n), len, k1, k2, k3, v, sw) = true) (hi : am_pcs t i = pc) (h : am_stA (am_mo p l e Rm s m args below meth c cs ss Q G nL t) i lo st mi ml n) : (am_mo p l e Rm s m args below meth c cs ss Q G nL t) i lo st mi ml := by
  obtain ⟨hx, hb, hml, hr, hlocks, hts, hlk, hown, hK, hX⟩ := F
  have hc : (decide (decode bc pc = .ok (.astore n, len)) && (len == 2 && am_pcs t (i + 1) == pc + 2 && decide ((n : Nat) < nL))) = true := hc
  simp only [Bool.and_eq_true, decide_eq_true_eq, beq_iff_eq] at hc
  obtain ⟨hd, ⟨hl, hn⟩, hlt⟩ := hc
  subst hl
  unfold am_stA at h
  split at h
  · intro ls H locs g1 g2 g3
    rw [hi]
    refine lv_astore hx hb hd g1 hlt rfl (fun ls2 g => ?_)
    have z := h ls2 H locs (am_lv_sub g am_s1_sub) g2 g3
    rw [hn] at z
    exact z
  · exact h.elim
theorem am_s_astore_n (F : am_fr p s m args meth c G y bc nL rt lk) {n : Fin 4} (hc : am_chk y bc nL rt lk t i (pc, (.astore_n n), len, k1, k2, k3, v, sw) = true) (hi : am_pcs t i = pc) (h : am_stA (am_mo p l e Rm s m args below meth c cs ss Q G nL t) i lo st mi ml n) : (am_mo p l e Rm s m args below meth c cs ss Q G nL t) i lo st mi ml := by
  obtain ⟨hx, hb, hml, hr, hlocks, hts, hlk, hown, hK, hX⟩ := F
  have hc : (decide (decode bc pc = .ok (.astore_n n, len)) && (len == 1 && am_pcs t (i + 1) == pc + 1 && decide ((n : Nat) < nL))) = true := hc
  simp only [Bool.and_eq_true, decide_eq_true_eq, beq_iff_eq] at hc
  obtain ⟨hd, ⟨hl, hn⟩, hlt⟩ := hc
  subst hl
  unfold am_stA at h
  split at h
  · intro ls H locs g1 g2 g3
    rw [hi]
    refine lv_astore_n hx hb hd rfl g1 hlt rfl (fun ls2 g => ?_)
    have z := h ls2 H locs (am_lv_sub g am_s1_sub) g2 g3
    rw [hn] at z
    exact z
  · exact h.elim
theorem am_s_iinc (F : am_fr p s m args meth c G y bc nL rt lk) {n : Nat} {w : Int} (hc : am_chk y bc nL rt lk t i (pc, (.iinc n w), len, k1, k2, k3, v, sw) = true) (hi : am_pcs t i = pc) (h : am_inc (am_mo p l e Rm s m args below meth c cs ss Q G nL t) i lo st mi ml n v) : (am_mo p l e Rm s m args below meth c cs ss Q G nL t) i lo st mi ml := by
  obtain ⟨hx, hb, hml, hr, hlocks, hts, hlk, hown, hK, hX⟩ := F
  have hc : (decide (decode bc pc = .ok (.iinc n w, len)) && (len == 3 && am_pcs t (i + 1) == pc + 3 && decide (n < nL) && decide (Int32.ofInt w = v))) = true := hc
  simp only [Bool.and_eq_true, decide_eq_true_eq, beq_iff_eq] at hc
  obtain ⟨hd, ⟨⟨hl, hn⟩, hlt⟩, hv⟩ := hc
  subst hl
  unfold am_inc at h
  split at h
  · rename_i x hg
    intro ls H locs g1 g2 g3
    rw [hi]
    obtain ⟨k, hk⟩ := List.getElem?_of_mem (am_lt_0 (G := G).mpr ⟨_, rfl, hg⟩ : (n, am_tv G (.int x)) ∈ am_lt G 0 lo)
    refine lv_iinc (v := x + v) hx hb hd g1 hk (by rw [hv]) hlt rfl (fun ls2 g => ?_)
    have z := h ls2 H locs (am_lv_sub g am_s1_sub) g2 g3
    rw [hn] at z
    exact z
  · exact h.elim
theorem am_s_iconst (F : am_fr p s m args meth c G y bc nL rt lk) {w : Int} (hc : am_chk y bc nL rt lk t i (pc, (.iconst w), len, k1, k2, k3, v, sw) = true) (hi : am_pcs t i = pc) (h : (am_mo p l e Rm s m args below meth c cs ss Q G nL t) (i + 1) lo (.int v :: st) mi ml) : (am_mo p l e Rm s m args below meth c cs ss Q G nL t) i lo st mi ml := by
  obtain ⟨hx, hb, hml, hr, hlocks, hts, hlk, hown, hK, hX⟩ := F
  have hc : (decide (decode bc pc = .ok (.iconst w, len)) && (len == 1 && am_pcs t (i + 1) == pc + 1 && decide (Int32.ofInt w = v))) = true := hc
  simp only [Bool.and_eq_true, decide_eq_true_eq, beq_iff_eq] at hc
  obtain ⟨hd, ⟨hl, hn⟩, hv⟩ := hc
  subst hl
  intro ls H locs g1 g2 g3
  have z := h ls H locs g1 g2 g3
  rw [hn] at z
  rw [hi]
  exact lv_iconst hx hb hd hv z
theorem am_s_bipush (F : am_fr p s m args meth c G y bc nL rt lk) {w : Int} (hc : am_chk y bc nL rt lk t i (pc, (.bipush w), len, k1, k2, k3, v, sw) = true) (hi : am_pcs t i = pc) (h : (am_mo p l e Rm s m args below meth c cs ss Q G nL t) (i + 1) lo (.int v :: st) mi ml) : (am_mo p l e Rm s m args below meth c cs ss Q G nL t) i lo st mi ml := by
  obtain ⟨hx, hb, hml, hr, hlocks, hts, hlk, hown, hK, hX⟩ := F
  have hc : (decide (decode bc pc = .ok (.bipush w, len)) && (len == 2 && am_pcs t (i + 1) == pc + 2 && decide ((Int8.ofInt w).toInt32 = v))) = true := hc
  simp only [Bool.and_eq_true, decide_eq_true_eq, beq_iff_eq] at hc
  obtain ⟨hd, ⟨hl, hn⟩, hv⟩ := hc
  subst hl
  intro ls H locs g1 g2 g3
  have z := h ls H locs g1 g2 g3
  rw [hn] at z
  rw [hi]
  exact lv_bipush hx hb hd hv z
theorem am_s_sipush (F : am_fr p s m args meth c G y bc nL rt lk) {w : Int} (hc : am_chk y bc nL rt lk t i (pc, (.sipush w), len, k1, k2, k3, v, sw) = true) (hi : am_pcs t i = pc) (h : (am_mo p l e Rm s m args below meth c cs ss Q G nL t) (i + 1) lo (.int v :: st) mi ml) : (am_mo p l e Rm s m args below meth c cs ss Q G nL t) i lo st mi ml := by
  obtain ⟨hx, hb, hml, hr, hlocks, hts, hlk, hown, hK, hX⟩ := F
  have hc : (decide (decode bc pc = .ok (.sipush w, len)) && (len == 3 && am_pcs t (i + 1) == pc + 3 && decide ((Int16.ofInt w).toInt32 = v))) = true := hc
  simp only [Bool.and_eq_true, decide_eq_true_eq, beq_iff_eq] at hc
  obtain ⟨hd, ⟨hl, hn⟩, hv⟩ := hc
  subst hl
  intro ls H locs g1 g2 g3
  have z := h ls H locs g1 g2 g3
  rw [hn] at z
  rw [hi]
  exact lv_sipush hx hb hd hv z
theorem am_s_lconst (F : am_fr p s m args meth c G y bc nL rt lk) {w : Fin 2} (hc : am_chk y bc nL rt lk t i (pc, (.lconst w), len, k1, k2, k3, v, sw) = true) (hi : am_pcs t i = pc) (h : (am_mo p l e Rm s m args below meth c cs ss Q G nL t) (i + 1) lo (.long (am_lc k1) :: st) mi ml) : (am_mo p l e Rm s m args below meth c cs ss Q G nL t) i lo st mi ml := by
  obtain ⟨hx, hb, hml, hr, hlocks, hts, hlk, hown, hK, hX⟩ := F
  have hc : (decide (decode bc pc = .ok (.lconst w, len)) && (len == 1 && am_pcs t (i + 1) == pc + 1 && decide (Int64.ofNat (w : Nat) = am_lc k1))) = true := hc
  simp only [Bool.and_eq_true, decide_eq_true_eq, beq_iff_eq] at hc
  obtain ⟨hd, ⟨hl, hn⟩, hv⟩ := hc
  subst hl
  intro ls H locs g1 g2 g3
  have z := h ls H locs g1 g2 g3
  rw [hn] at z
  rw [hi]
  exact lv_lconst hx hb hd hv z
theorem am_s_ldc_w (F : am_fr p s m args meth c G y bc nL rt lk) {q : Nat} (hc : am_chk y bc nL rt lk t i (pc, (.ldc_w q), len, k1, k2, k3, v, sw) = true) (hi : am_pcs t i = pc) (h : (am_mo p l e Rm s m args below meth c cs ss Q G nL t) (i + 1) lo (.int v :: st) mi ml) : (am_mo p l e Rm s m args below meth c cs ss Q G nL t) i lo st mi ml := by
  obtain ⟨hx, hb, hml, hr, hlocks, hts, hlk, hown, hK, hX⟩ := F
  have hc : (decide (decode bc pc = .ok (.ldc_w q, len)) && (len == 3 && am_pcs t (i + 1) == pc + 3 && decide (Cond.constant y.cls q v ∈ lk))) = true := hc
  simp only [Bool.and_eq_true, decide_eq_true_eq, beq_iff_eq] at hc
  obtain ⟨hd, ⟨hl, hn⟩, hv⟩ := hc
  subst hl
  intro ls H locs g1 g2 g3
  have z := h ls H locs g1 g2 g3
  rw [hn] at z
  rw [hi]
  exact lv_ldcw hx hb hown (hts _ (am_tb_i (hlk _ hv) rfl)) hd z
theorem am_s_ldc2_w (F : am_fr p s m args meth c G y bc nL rt lk) {q : Nat} (hc : am_chk y bc nL rt lk t i (pc, (.ldc2_w q), len, k1, k2, k3, v, sw) = true) (hi : am_pcs t i = pc) (h : (am_mo p l e Rm s m args below meth c cs ss Q G nL t) (i + 1) lo (.long (am_lc k1) :: st) mi ml) : (am_mo p l e Rm s m args below meth c cs ss Q G nL t) i lo st mi ml := by
  obtain ⟨hx, hb, hml, hr, hlocks, hts, hlk, hown, hK, hX⟩ := F
  have hc : (decide (decode bc pc = .ok (.ldc2_w q, len)) && (len == 3 && am_pcs t (i + 1) == pc + 3 && decide (Cond.constantLong y.cls q (am_lc k1) ∈ lk))) = true := hc
  simp only [Bool.and_eq_true, decide_eq_true_eq, beq_iff_eq] at hc
  obtain ⟨hd, ⟨hl, hn⟩, hv⟩ := hc
  subst hl
  intro ls H locs g1 g2 g3
  have z := h ls H locs g1 g2 g3
  rw [hn] at z
  rw [hi]
  exact lv_ldc2 hx hb hown (hts _ (am_tb_i (hlk _ hv) rfl)) hd z
theorem am_s_ldc (F : am_fr p s m args meth c G y bc nL rt lk) {q : Nat} (hc : am_chk y bc nL rt lk t i (pc, (.ldc q), len, k1, k2, k3, v, sw) = true) (hi : am_pcs t i = pc) (h : am_st cl (am_mo p l e Rm s m args below meth c cs ss Q G nL t) Rr (.ldc q) k1 k2 k3 v sw i lo st mi ml) : (am_mo p l e Rm s m args below meth c cs ss Q G nL t) i lo st mi ml := by
  obtain ⟨hx, hb, hml, hr, hlocks, hts, hlk, hown, hK, hX⟩ := F
  have hc : (decide (decode bc pc = .ok (.ldc q, len)) && (len == 2 && am_pcs t (i + 1) == pc + 2 && (match (generalizing := false) k2 with
      | 0 => decide (Cond.constant y.cls q v ∈ lk)
      | _ => y.cls == "DoorsForThree$Law" && am_strs.any fun w => w.1 == q && w.2.2 == k1))) = true := hc
  simp only [Bool.and_eq_true, decide_eq_true_eq, beq_iff_eq] at hc
  obtain ⟨hd, ⟨hl, hn⟩, hv⟩ := hc
  subst hl
  simp only [am_st] at h
  intro ls H locs g1 g2 g3
  rw [hi]
  split at hv
  · have z := h ls H locs g1 g2 g3
    rw [hn] at z
    exact lv_ldc hx hb hown (hts _ (am_tb_i (hlk _ (by simpa using hv)) rfl)) hd z
  · rename_i hne
    have z : am_mo p l e Rm s m args below meth c cs ss Q G nL t (i + 1) lo (.ref k1 :: st) mi ml := by
      split at h
      · exact (hne rfl).elim
      · exact h
    have z := z ls H locs g1 g2 g3
    rw [hn] at z
    simp only [Bool.and_eq_true, beq_iff_eq] at hv
    obtain ⟨w, hw, hw2⟩ := List.any_eq_true.mp hv.2
    simp only [Bool.and_eq_true, beq_iff_eq] at hw2
    have hz := hX.2.2.2.1 w hw
    rw [hw2.1, hw2.2] at hz
    rw [hv.1] at hown
    exact va_ldcS hx hb hown hz hd z
theorem am_s_dup (F : am_fr p s m args meth c G y bc nL rt lk)  (hc : am_chk y bc nL rt lk t i (pc, .dup, len, k1, k2, k3, v, sw) = true) (hi : am_pcs t i = pc) (h : am_dup (am_mo p l e Rm s m args below meth c cs ss Q G nL t) i lo st mi ml) : (am_mo p l e Rm s m args below meth c cs ss Q G nL t) i lo st mi ml := by
  obtain ⟨hx, hb, hml, hr, hlocks, hts, hlk, hown, hK, hX⟩ := F
  have hc : (decide (decode bc pc = .ok (.dup, len)) && (len == 1 && am_pcs t (i + 1) == pc + 1)) = true := hc
  simp only [Bool.and_eq_true, decide_eq_true_eq, beq_iff_eq] at hc
  obtain ⟨hd, hl, hn⟩ := hc
  subst hl
  unfold am_dup at h
  split at h
  · intro ls H locs g1 g2 g3
    have z := (am_need_e h).2 ls H locs g1 g2 g3
    rw [hn] at z
    rw [hi]
    exact lv_dup hx hb hd (am_tv_cat.trans (eq_of_beq (am_need_e h).1)) z
  · exact h.elim
theorem am_s_pop (F : am_fr p s m args meth c G y bc nL rt lk)  (hc : am_chk y bc nL rt lk t i (pc, .pop, len, k1, k2, k3, v, sw) = true) (hi : am_pcs t i = pc) (h : am_pop (am_mo p l e Rm s m args below meth c cs ss Q G nL t) i lo st mi ml) : (am_mo p l e Rm s m args below meth c cs ss Q G nL t) i lo st mi ml := by
  obtain ⟨hx, hb, hml, hr, hlocks, hts, hlk, hown, hK, hX⟩ := F
  have hc : (decide (decode bc pc = .ok (.pop, len)) && (len == 1 && am_pcs t (i + 1) == pc + 1)) = true := hc
  simp only [Bool.and_eq_true, decide_eq_true_eq, beq_iff_eq] at hc
  obtain ⟨hd, hl, hn⟩ := hc
  subst hl
  unfold am_pop at h
  split at h
  · intro ls H locs g1 g2 g3
    have z := (am_need_e h).2 ls H locs g1 g2 g3
    rw [hn] at z
    rw [hi]
    exact lv_pop hx hb hd (am_tv_cat.trans (eq_of_beq (am_need_e h).1)) z
  · exact h.elim
theorem am_s_dup_x1 (F : am_fr p s m args meth c G y bc nL rt lk)  (hc : am_chk y bc nL rt lk t i (pc, .dup_x1, len, k1, k2, k3, v, sw) = true) (hi : am_pcs t i = pc) (h : am_dupx1 (am_mo p l e Rm s m args below meth c cs ss Q G nL t) i lo st mi ml) : (am_mo p l e Rm s m args below meth c cs ss Q G nL t) i lo st mi ml := by
  obtain ⟨hx, hb, hml, hr, hlocks, hts, hlk, hown, hK, hX⟩ := F
  have hc : (decide (decode bc pc = .ok (.dup_x1, len)) && (len == 1 && am_pcs t (i + 1) == pc + 1)) = true := hc
  simp only [Bool.and_eq_true, decide_eq_true_eq, beq_iff_eq] at hc
  obtain ⟨hd, hl, hn⟩ := hc
  subst hl
  unfold am_dupx1 at h
  split at h
  · intro ls H locs g1 g2 g3
    obtain ⟨hcc, h⟩ := am_need_e h
    simp only [Bool.and_eq_true, beq_iff_eq] at hcc
    have z := h ls H locs g1 g2 g3
    rw [hn] at z
    rw [hi]
    exact lv_dup_x1 hx hb hd (am_tv_cat.trans hcc.1) (am_tv_cat.trans hcc.2) z
  · exact h.elim
theorem am_s_dup2 (F : am_fr p s m args meth c G y bc nL rt lk)  (hc : am_chk y bc nL rt lk t i (pc, .dup2, len, k1, k2, k3, v, sw) = true) (hi : am_pcs t i = pc) (h : am_dup2 (am_mo p l e Rm s m args below meth c cs ss Q G nL t) i lo st mi ml) : (am_mo p l e Rm s m args below meth c cs ss Q G nL t) i lo st mi ml := by
  obtain ⟨hx, hb, hml, hr, hlocks, hts, hlk, hown, hK, hX⟩ := F
  have hc : (decide (decode bc pc = .ok (.dup2, len)) && (len == 1 && am_pcs t (i + 1) == pc + 1)) = true := hc
  simp only [Bool.and_eq_true, decide_eq_true_eq, beq_iff_eq] at hc
  obtain ⟨hd, hl, hn⟩ := hc
  subst hl
  unfold am_dup2 at h
  split at h
  · intro ls H locs g1 g2 g3
    have z := h ls H locs g1 g2 g3
    rw [hn] at z
    rw [hi]
    exact lv_dup2_2 hx hb hd rfl z
  · intro ls H locs g1 g2 g3
    obtain ⟨hcc, h⟩ := am_need_e h
    simp only [Bool.and_eq_true, beq_iff_eq] at hcc
    have z := h ls H locs g1 g2 g3
    rw [hn] at z
    rw [hi]
    exact lv_dup2_11 hx hb hd (am_tv_cat.trans hcc.1) (am_tv_cat.trans hcc.2) z
  · exact h.elim
theorem am_s_goto (F : am_fr p s m args meth c G y bc nL rt lk) {off : Int} (hc : am_chk y bc nL rt lk t i (pc, (.goto off), len, k1, k2, k3, v, sw) = true) (hi : am_pcs t i = pc) (h : (am_mo p l e Rm s m args below meth c cs ss Q G nL t) k1 lo st mi ml) : (am_mo p l e Rm s m args below meth c cs ss Q G nL t) i lo st mi ml := by
  obtain ⟨hx, hb, hml, hr, hlocks, hts, hlk, hown, hK, hX⟩ := F
  have hc : (decide (decode bc pc = .ok (.goto off, len)) && (len == 3 && decide ((pc : Int) + off = (am_pcs t k1 : Int)))) = true := hc
  simp only [Bool.and_eq_true, decide_eq_true_eq, beq_iff_eq] at hc
  obtain ⟨hd, hl, ht⟩ := hc
  subst hl
  intro ls H locs g1 g2 g3
  rw [hi]
  exact lv_goto hx hb hd ht (h ls H locs g1 g2 g3)
theorem am_s_if_eq (F : am_fr p s m args meth c G y bc nL rt lk) {off : Int} (hc : am_chk y bc nL rt lk t i (pc, (.ifCond .eq off), len, k1, k2, k3, v, sw) = true) (hi : am_pcs t i = pc) (h : am_br (am_mo p l e Rm s m args below meth c cs ss Q G nL t) i lo st mi ml k1 (fun x => x = 0)) : (am_mo p l e Rm s m args below meth c cs ss Q G nL t) i lo st mi ml := by
  obtain ⟨hx, hb, hml, hr, hlocks, hts, hlk, hown, hK, hX⟩ := F
  have hc : (decide (decode bc pc = .ok (.ifCond .eq off, len)) && (len == 3 && am_pcs t (i + 1) == pc + 3 && decide ((pc : Int) + off = (am_pcs t k1 : Int)))) = true := hc
  simp only [Bool.and_eq_true, decide_eq_true_eq, beq_iff_eq] at hc
  obtain ⟨hd, ⟨hl, hn⟩, ht⟩ := hc
  subst hl
  unfold am_br at h
  split at h
  · intro ls H locs g1 g2 g3
    rw [hi]
    refine lv_if_eq hx hb hd ht (fun q => h.1 q ls H locs g1 g2 g3) (fun q => ?_)
    have z := h.2 q ls H locs g1 g2 g3
    rw [hn] at z
    exact z
  · exact h.elim
theorem am_s_if_ne (F : am_fr p s m args meth c G y bc nL rt lk) {off : Int} (hc : am_chk y bc nL rt lk t i (pc, (.ifCond .ne off), len, k1, k2, k3, v, sw) = true) (hi : am_pcs t i = pc) (h : am_br (am_mo p l e Rm s m args below meth c cs ss Q G nL t) i lo st mi ml k1 (fun x => x ≠ 0)) : (am_mo p l e Rm s m args below meth c cs ss Q G nL t) i lo st mi ml := by
  obtain ⟨hx, hb, hml, hr, hlocks, hts, hlk, hown, hK, hX⟩ := F
  have hc : (decide (decode bc pc = .ok (.ifCond .ne off, len)) && (len == 3 && am_pcs t (i + 1) == pc + 3 && decide ((pc : Int) + off = (am_pcs t k1 : Int)))) = true := hc
  simp only [Bool.and_eq_true, decide_eq_true_eq, beq_iff_eq] at hc
  obtain ⟨hd, ⟨hl, hn⟩, ht⟩ := hc
  subst hl
  unfold am_br at h
  split at h
  · intro ls H locs g1 g2 g3
    rw [hi]
    refine lv_if_ne hx hb hd ht (fun q => h.1 q ls H locs g1 g2 g3) (fun q => ?_)
    have z := h.2 (fun u => u q) ls H locs g1 g2 g3
    rw [hn] at z
    exact z
  · exact h.elim
theorem am_s_if_lt (F : am_fr p s m args meth c G y bc nL rt lk) {off : Int} (hc : am_chk y bc nL rt lk t i (pc, (.ifCond .lt off), len, k1, k2, k3, v, sw) = true) (hi : am_pcs t i = pc) (h : am_br (am_mo p l e Rm s m args below meth c cs ss Q G nL t) i lo st mi ml k1 (fun x => x < 0)) : (am_mo p l e Rm s m args below meth c cs ss Q G nL t) i lo st mi ml := by
  obtain ⟨hx, hb, hml, hr, hlocks, hts, hlk, hown, hK, hX⟩ := F
  have hc : (decide (decode bc pc = .ok (.ifCond .lt off, len)) && (len == 3 && am_pcs t (i + 1) == pc + 3 && decide ((pc : Int) + off = (am_pcs t k1 : Int)))) = true := hc
  simp only [Bool.and_eq_true, decide_eq_true_eq, beq_iff_eq] at hc
  obtain ⟨hd, ⟨hl, hn⟩, ht⟩ := hc
  subst hl
  unfold am_br at h
  split at h
  · intro ls H locs g1 g2 g3
    rw [hi]
    refine lv_if_lt hx hb hd ht (fun q => h.1 q ls H locs g1 g2 g3) (fun q => ?_)
    have z := h.2 q ls H locs g1 g2 g3
    rw [hn] at z
    exact z
  · exact h.elim
theorem am_s_if_ge (F : am_fr p s m args meth c G y bc nL rt lk) {off : Int} (hc : am_chk y bc nL rt lk t i (pc, (.ifCond .ge off), len, k1, k2, k3, v, sw) = true) (hi : am_pcs t i = pc) (h : am_br (am_mo p l e Rm s m args below meth c cs ss Q G nL t) i lo st mi ml k1 (fun x => 0 ≤ x)) : (am_mo p l e Rm s m args below meth c cs ss Q G nL t) i lo st mi ml := by
  obtain ⟨hx, hb, hml, hr, hlocks, hts, hlk, hown, hK, hX⟩ := F
  have hc : (decide (decode bc pc = .ok (.ifCond .ge off, len)) && (len == 3 && am_pcs t (i + 1) == pc + 3 && decide ((pc : Int) + off = (am_pcs t k1 : Int)))) = true := hc
  simp only [Bool.and_eq_true, decide_eq_true_eq, beq_iff_eq] at hc
  obtain ⟨hd, ⟨hl, hn⟩, ht⟩ := hc
  subst hl
  unfold am_br at h
  split at h
  · intro ls H locs g1 g2 g3
    rw [hi]
    refine lv_if_ge hx hb hd ht (fun q => h.1 q ls H locs g1 g2 g3) (fun q => ?_)
    have z := h.2 q ls H locs g1 g2 g3
    rw [hn] at z
    exact z
  · exact h.elim
theorem am_s_if_gt (F : am_fr p s m args meth c G y bc nL rt lk) {off : Int} (hc : am_chk y bc nL rt lk t i (pc, (.ifCond .gt off), len, k1, k2, k3, v, sw) = true) (hi : am_pcs t i = pc) (h : am_br (am_mo p l e Rm s m args below meth c cs ss Q G nL t) i lo st mi ml k1 (fun x => 0 < x)) : (am_mo p l e Rm s m args below meth c cs ss Q G nL t) i lo st mi ml := by
  obtain ⟨hx, hb, hml, hr, hlocks, hts, hlk, hown, hK, hX⟩ := F
  have hc : (decide (decode bc pc = .ok (.ifCond .gt off, len)) && (len == 3 && am_pcs t (i + 1) == pc + 3 && decide ((pc : Int) + off = (am_pcs t k1 : Int)))) = true := hc
  simp only [Bool.and_eq_true, decide_eq_true_eq, beq_iff_eq] at hc
  obtain ⟨hd, ⟨hl, hn⟩, ht⟩ := hc
  subst hl
  unfold am_br at h
  split at h
  · intro ls H locs g1 g2 g3
    rw [hi]
    refine lv_if_gt hx hb hd ht (fun q => h.1 q ls H locs g1 g2 g3) (fun q => ?_)
    have z := h.2 q ls H locs g1 g2 g3
    rw [hn] at z
    exact z
  · exact h.elim
theorem am_s_if_le (F : am_fr p s m args meth c G y bc nL rt lk) {off : Int} (hc : am_chk y bc nL rt lk t i (pc, (.ifCond .le off), len, k1, k2, k3, v, sw) = true) (hi : am_pcs t i = pc) (h : am_br (am_mo p l e Rm s m args below meth c cs ss Q G nL t) i lo st mi ml k1 (fun x => x ≤ 0)) : (am_mo p l e Rm s m args below meth c cs ss Q G nL t) i lo st mi ml := by
  obtain ⟨hx, hb, hml, hr, hlocks, hts, hlk, hown, hK, hX⟩ := F
  have hc : (decide (decode bc pc = .ok (.ifCond .le off, len)) && (len == 3 && am_pcs t (i + 1) == pc + 3 && decide ((pc : Int) + off = (am_pcs t k1 : Int)))) = true := hc
  simp only [Bool.and_eq_true, decide_eq_true_eq, beq_iff_eq] at hc
  obtain ⟨hd, ⟨hl, hn⟩, ht⟩ := hc
  subst hl
  unfold am_br at h
  split at h
  · intro ls H locs g1 g2 g3
    rw [hi]
    refine lv_if_le hx hb hd ht (fun q => h.1 q ls H locs g1 g2 g3) (fun q => ?_)
    have z := h.2 q ls H locs g1 g2 g3
    rw [hn] at z
    exact z
  · exact h.elim
theorem am_s_icmp_eq (F : am_fr p s m args meth c G y bc nL rt lk) {off : Int} (hc : am_chk y bc nL rt lk t i (pc, (.if_icmp .eq off), len, k1, k2, k3, v, sw) = true) (hi : am_pcs t i = pc) (h : am_b2r (am_mo p l e Rm s m args below meth c cs ss Q G nL t) i lo st mi ml k1 (fun x y => x = y)) : (am_mo p l e Rm s m args below meth c cs ss Q G nL t) i lo st mi ml := by
  obtain ⟨hx, hb, hml, hr, hlocks, hts, hlk, hown, hK, hX⟩ := F
  have hc : (decide (decode bc pc = .ok (.if_icmp .eq off, len)) && (len == 3 && am_pcs t (i + 1) == pc + 3 && decide ((pc : Int) + off = (am_pcs t k1 : Int)))) = true := hc
  simp only [Bool.and_eq_true, decide_eq_true_eq, beq_iff_eq] at hc
  obtain ⟨hd, ⟨hl, hn⟩, ht⟩ := hc
  subst hl
  unfold am_b2r at h
  split at h
  · intro ls H locs g1 g2 g3
    rw [hi]
    refine lv_icmp_eq hx hb hd ht (fun q => h.1 q ls H locs g1 g2 g3) (fun q => ?_)
    have z := h.2 q ls H locs g1 g2 g3
    rw [hn] at z
    exact z
  · exact h.elim
theorem am_s_icmp_ne (F : am_fr p s m args meth c G y bc nL rt lk) {off : Int} (hc : am_chk y bc nL rt lk t i (pc, (.if_icmp .ne off), len, k1, k2, k3, v, sw) = true) (hi : am_pcs t i = pc) (h : am_b2r (am_mo p l e Rm s m args below meth c cs ss Q G nL t) i lo st mi ml k1 (fun x y => x ≠ y)) : (am_mo p l e Rm s m args below meth c cs ss Q G nL t) i lo st mi ml := by
  obtain ⟨hx, hb, hml, hr, hlocks, hts, hlk, hown, hK, hX⟩ := F
  have hc : (decide (decode bc pc = .ok (.if_icmp .ne off, len)) && (len == 3 && am_pcs t (i + 1) == pc + 3 && decide ((pc : Int) + off = (am_pcs t k1 : Int)))) = true := hc
  simp only [Bool.and_eq_true, decide_eq_true_eq, beq_iff_eq] at hc
  obtain ⟨hd, ⟨hl, hn⟩, ht⟩ := hc
  subst hl
  unfold am_b2r at h
  split at h
  · intro ls H locs g1 g2 g3
    rw [hi]
    refine lv_icmp_ne hx hb hd ht (fun q => h.1 q ls H locs g1 g2 g3) (fun q => ?_)
    have z := h.2 (fun u => u q) ls H locs g1 g2 g3
    rw [hn] at z
    exact z
  · exact h.elim
theorem am_s_icmp_lt (F : am_fr p s m args meth c G y bc nL rt lk) {off : Int} (hc : am_chk y bc nL rt lk t i (pc, (.if_icmp .lt off), len, k1, k2, k3, v, sw) = true) (hi : am_pcs t i = pc) (h : am_b2r (am_mo p l e Rm s m args below meth c cs ss Q G nL t) i lo st mi ml k1 (fun x y => x < y)) : (am_mo p l e Rm s m args below meth c cs ss Q G nL t) i lo st mi ml := by
  obtain ⟨hx, hb, hml, hr, hlocks, hts, hlk, hown, hK, hX⟩ := F
  have hc : (decide (decode bc pc = .ok (.if_icmp .lt off, len)) && (len == 3 && am_pcs t (i + 1) == pc + 3 && decide ((pc : Int) + off = (am_pcs t k1 : Int)))) = true := hc
  simp only [Bool.and_eq_true, decide_eq_true_eq, beq_iff_eq] at hc
  obtain ⟨hd, ⟨hl, hn⟩, ht⟩ := hc
  subst hl
  unfold am_b2r at h
  split at h
  · intro ls H locs g1 g2 g3
    rw [hi]
    refine lv_icmp_lt hx hb hd ht (fun q => h.1 q ls H locs g1 g2 g3) (fun q => ?_)
    have z := h.2 q ls H locs g1 g2 g3
    rw [hn] at z
    exact z
  · exact h.elim
theorem am_s_icmp_ge (F : am_fr p s m args meth c G y bc nL rt lk) {off : Int} (hc : am_chk y bc nL rt lk t i (pc, (.if_icmp .ge off), len, k1, k2, k3, v, sw) = true) (hi : am_pcs t i = pc) (h : am_b2r (am_mo p l e Rm s m args below meth c cs ss Q G nL t) i lo st mi ml k1 (fun x y => y ≤ x)) : (am_mo p l e Rm s m args below meth c cs ss Q G nL t) i lo st mi ml := by
  obtain ⟨hx, hb, hml, hr, hlocks, hts, hlk, hown, hK, hX⟩ := F
  have hc : (decide (decode bc pc = .ok (.if_icmp .ge off, len)) && (len == 3 && am_pcs t (i + 1) == pc + 3 && decide ((pc : Int) + off = (am_pcs t k1 : Int)))) = true := hc
  simp only [Bool.and_eq_true, decide_eq_true_eq, beq_iff_eq] at hc
  obtain ⟨hd, ⟨hl, hn⟩, ht⟩ := hc
  subst hl
  unfold am_b2r at h
  split at h
  · intro ls H locs g1 g2 g3
    rw [hi]
    refine lv_icmp_ge hx hb hd ht (fun q => h.1 q ls H locs g1 g2 g3) (fun q => ?_)
    have z := h.2 q ls H locs g1 g2 g3
    rw [hn] at z
    exact z
  · exact h.elim
theorem am_s_icmp_gt (F : am_fr p s m args meth c G y bc nL rt lk) {off : Int} (hc : am_chk y bc nL rt lk t i (pc, (.if_icmp .gt off), len, k1, k2, k3, v, sw) = true) (hi : am_pcs t i = pc) (h : am_b2r (am_mo p l e Rm s m args below meth c cs ss Q G nL t) i lo st mi ml k1 (fun x y => y < x)) : (am_mo p l e Rm s m args below meth c cs ss Q G nL t) i lo st mi ml := by
  obtain ⟨hx, hb, hml, hr, hlocks, hts, hlk, hown, hK, hX⟩ := F
  have hc : (decide (decode bc pc = .ok (.if_icmp .gt off, len)) && (len == 3 && am_pcs t (i + 1) == pc + 3 && decide ((pc : Int) + off = (am_pcs t k1 : Int)))) = true := hc
  simp only [Bool.and_eq_true, decide_eq_true_eq, beq_iff_eq] at hc
  obtain ⟨hd, ⟨hl, hn⟩, ht⟩ := hc
  subst hl
  unfold am_b2r at h
  split at h
  · intro ls H locs g1 g2 g3
    rw [hi]
    refine lv_icmp_gt hx hb hd ht (fun q => h.1 q ls H locs g1 g2 g3) (fun q => ?_)
    have z := h.2 q ls H locs g1 g2 g3
    rw [hn] at z
    exact z
  · exact h.elim
theorem am_s_icmp_le (F : am_fr p s m args meth c G y bc nL rt lk) {off : Int} (hc : am_chk y bc nL rt lk t i (pc, (.if_icmp .le off), len, k1, k2, k3, v, sw) = true) (hi : am_pcs t i = pc) (h : am_b2r (am_mo p l e Rm s m args below meth c cs ss Q G nL t) i lo st mi ml k1 (fun x y => x ≤ y)) : (am_mo p l e Rm s m args below meth c cs ss Q G nL t) i lo st mi ml := by
  obtain ⟨hx, hb, hml, hr, hlocks, hts, hlk, hown, hK, hX⟩ := F
  have hc : (decide (decode bc pc = .ok (.if_icmp .le off, len)) && (len == 3 && am_pcs t (i + 1) == pc + 3 && decide ((pc : Int) + off = (am_pcs t k1 : Int)))) = true := hc
  simp only [Bool.and_eq_true, decide_eq_true_eq, beq_iff_eq] at hc
  obtain ⟨hd, ⟨hl, hn⟩, ht⟩ := hc
  subst hl
  unfold am_b2r at h
  split at h
  · intro ls H locs g1 g2 g3
    rw [hi]
    refine lv_icmp_le hx hb hd ht (fun q => h.1 q ls H locs g1 g2 g3) (fun q => ?_)
    have z := h.2 q ls H locs g1 g2 g3
    rw [hn] at z
    exact z
  · exact h.elim
theorem am_swt_in {K : am_K} {x : Int32} {d : Nat} : ∀ {sw : List (Int32 × Nat)} (j : Nat) {w : Int32} {tj : Nat}, am_swt K lo st mi ml x d sw → sw[j]? = some (w, tj) → x = w → (∀ j2 w2 t2, j2 < j → sw[j2]? = some (w2, t2) → ¬ x = w2) → K tj lo st mi ml
  | [], j, w, tj, _, h, _, _ => by simp at h
  | (a, b) :: r, 0, w, tj, h, hj, hx, _ => by
    cases hj
    exact h.1 hx
  | (a, b) :: r, j + 1, w, tj, h, hj, hx, hne =>
    am_swt_in j (h.2 (hne 0 a b (by omega) rfl)) hj hx (fun j2 w2 t2 h2 h3 => hne (j2 + 1) w2 t2 (by omega) h3)
theorem am_swt_out {K : am_K} {x : Int32} {d : Nat} : ∀ {sw : List (Int32 × Nat)}, am_swt K lo st mi ml x d sw → (∀ (j : Nat) w tj, sw[j]? = some (w, tj) → ¬ x = w) → K d lo st mi ml
  | [], h, _ => h
  | (a, b) :: r, h, hne => am_swt_out (h.2 (hne 0 a b rfl)) (fun j w tj h3 => hne (j + 1) w tj h3)
theorem am_swt_look {K : am_K} {x : Int32} {d : Nat} {dd : Int} (hdd : (pc : Int) + dd = (am_pcs t d : Int)) : ∀ {sw : List (Int32 × Nat)} (ps : List (Int × Int)), sw.length = ps.length → (∀ (j : Nat) w tj a o, sw[j]? = some (w, tj) → ps[j]? = some (a, o) → w.toInt = a ∧ (pc : Int) + o = (am_pcs t tj : Int)) → am_swt K lo st mi ml x d sw →
    ∃ tgt off, Op.lookupswitch.offset ps dd x.toInt = off ∧ (pc : Int) + off = (am_pcs t tgt : Int) ∧ K tgt lo st mi ml
  | [], [], _, _, h => ⟨d, dd, rfl, hdd, h⟩
  | [], _ :: _, hl, _, _ => by simp at hl
  | _ :: _, [], hl, _, _ => by simp at hl
  | (w, tj) :: r, (a, o) :: ps, hl, hq, h => by
    obtain ⟨h1, h2⟩ := hq 0 w tj a o rfl rfl
    by_cases hx : x = w
    · refine ⟨tj, o, ?_, h2, h.1 hx⟩
      rw [Op.lookupswitch.offset_cons, if_pos (by rw [hx, h1])]
    · obtain ⟨tgt, off, g1, g2, g3⟩ := am_swt_look hdd (sw := r) ps (by simpa using hl) (fun j w tj a o e1 e2 => hq (j + 1) w tj a o e1 e2) (h.2 hx)
      exact ⟨tgt, off, by rw [lv_osw hx h1]; exact g1, g2, g3⟩
theorem am_s_tableswitch (F : am_fr p s m args meth c G y bc nL rt lk) {d a b : Int} {offs : Array Int} (hc : am_chk y bc nL rt lk t i (pc, (.tableswitch d a b offs), len, k1, k2, k3, v, sw) = true) (hi : am_pcs t i = pc) (h : am_sw (am_mo p l e Rm s m args below meth c cs ss Q G nL t) lo st mi ml k1 sw) : (am_mo p l e Rm s m args below meth c cs ss Q G nL t) i lo st mi ml := by
  obtain ⟨hx, hb, hml, hr, hlocks, hts, hlk, hown, hK, hX⟩ := F
  have hc : (decide (decode bc pc = .ok (.tableswitch d a b offs, len)) && (decide ((pc : Int) + d = (am_pcs t k1 : Int)) && sw.length == offs.size && decide (b + 1 = a + (offs.size : Int)) &&
        (List.range offs.size).all fun j => match sw[j]?, offs[j]? with
          | some (w, tj), some o => decide (w.toInt = a + (j : Int)) && decide ((pc : Int) + o = (am_pcs t tj : Int))
          | _, _ => false)) = true := hc
  simp only [Bool.and_eq_true, decide_eq_true_eq, beq_iff_eq] at hc
  obtain ⟨hd, ⟨⟨ht, hsz⟩, hab⟩, hq⟩ := hc
  unfold am_sw at h
  split at h
  · rename_i x rest
    have hq2 : ∀ j, j < offs.size → ∃ w tj o, sw[j]? = some (w, tj) ∧ offs[j]? = some o ∧ w.toInt = a + (j : Int) ∧ (pc : Int) + o = (am_pcs t tj : Int) := by
      intro j hj
      have z := List.all_eq_true.mp hq j (List.mem_range.mpr hj)
      split at z
      · rename_i w tj o e1 e2
        simp only [Bool.and_eq_true, decide_eq_true_eq] at z
        exact ⟨w, tj, o, e1, e2, z.1, z.2⟩
      · cases z
    intro ls H locs g1 g2 g3
    rw [hi]
    by_cases hin : a ≤ x.toInt ∧ x.toInt ≤ b
    · have hj : (x.toInt - a).toNat < offs.size := by omega
      obtain ⟨w, tj, o, e1, e2, e3, e4⟩ := hq2 _ hj
      have hxw : x = w := Int32.toInt_inj.mp (by rw [e3]; omega)
      refine lv_tableIn hx hb hd (by omega) (by omega) e2 e4 (am_swt_in _ h e1 hxw (fun j2 w2 t2 h2 h3 h4 => ?_) ls H locs g1 g2 g3)
      obtain ⟨w3, t3, o3, f1, -, f3, -⟩ := hq2 j2 (by omega)
      rw [h3] at f1
      cases f1
      rw [h4] at hxw
      rw [hxw, e3] at f3
      omega
    · refine lv_tableOut hx hb hd (by omega) ht (am_swt_out h (fun j w tj h3 h4 => ?_) ls H locs g1 g2 g3)
      have hjl : j < offs.size := by
        rw [← hsz]
        exact (List.getElem?_eq_some_iff.mp h3).1
      obtain ⟨w3, t3, o3, f1, -, f3, -⟩ := hq2 j hjl
      rw [h3] at f1
      cases f1
      rw [h4] at hin
      omega
  · exact h.elim
theorem am_s_lookupswitch (F : am_fr p s m args meth c G y bc nL rt lk) {d : Int} {ps : Array (Int × Int)} (hc : am_chk y bc nL rt lk t i (pc, (.lookupswitch d ps), len, k1, k2, k3, v, sw) = true) (hi : am_pcs t i = pc) (h : am_sw (am_mo p l e Rm s m args below meth c cs ss Q G nL t) lo st mi ml k1 sw) : (am_mo p l e Rm s m args below meth c cs ss Q G nL t) i lo st mi ml := by
  obtain ⟨hx, hb, hml, hr, hlocks, hts, hlk, hown, hK, hX⟩ := F
  have hc : (decide (decode bc pc = .ok (.lookupswitch d ps, len)) && (decide ((pc : Int) + d = (am_pcs t k1 : Int)) && sw.length == ps.size && ((ps.toList.zip (ps.toList.drop 1)).all fun (a, next) => a.1 < next.1) &&
        (List.range ps.size).all fun j => match sw[j]?, ps[j]? with
          | some (w, tj), some o => decide (w.toInt = o.1) && decide ((pc : Int) + o.2 = (am_pcs t tj : Int))
          | _, _ => false)) = true := hc
  simp only [Bool.and_eq_true, decide_eq_true_eq, beq_iff_eq] at hc
  obtain ⟨hd, ⟨⟨ht, hsz⟩, hz⟩, hq⟩ := hc
  unfold am_sw at h
  split at h
  · rename_i x rest
    intro ls H locs g1 g2 g3
    rw [hi]
    obtain ⟨tgt, off, e1, e2, e3⟩ := am_swt_look (t := t) (pc := pc) ht (sw := sw) ps.toList (by rw [hsz]; simp) (fun j w tj a o f1 f2 => by
      have hj : j < ps.size := by
        rw [← hsz]
        exact (List.getElem?_eq_some_iff.mp f1).1
      have z := List.all_eq_true.mp hq j (List.mem_range.mpr hj)
      rw [Array.getElem?_toList] at f2
      rw [f1, f2] at z
      simp only [Bool.and_eq_true, decide_eq_true_eq] at z
      exact z) h
    exact lv_lookup hx hb hd hz e1 e2 (e3 ls H locs g1 g2 g3)
  · exact h.elim
def am_Q (G : am_G) (R : am_R) : Array Value → State → Outcome → State → Prop := fun _ st oc t => (∃ r mi ml, oc = .returned (r.map (am_tv G)) ∧ R r mi ml ∧ am_hp G t.heap mi ml) ∧ va_F (am_A G) st t
theorem am_s_ireturn (F : am_fr p s m args meth c G y bc nL rt lk) (hc : am_chk y bc nL rt lk t i (pc, .ireturn, len, k1, k2, k3, v, sw) = true) (hi : am_pcs t i = pc) (h : am_st cl (am_mo p l e Rm s m args below meth c 0 0 (MQ below (am_Q G Rr) args s 0 0 (am_A G)) G nL t) Rr .ireturn k1 k2 k3 v sw i lo st mi ml) : (am_mo p l e Rm s m args below meth c 0 0 (MQ below (am_Q G Rr) args s 0 0 (am_A G)) G nL t) i lo st mi ml := by
  obtain ⟨hx, hb, hml, hr, hlocks, hts, hlk, hown, hK, hX⟩ := F
  have hc : (decide (decode bc pc = .ok (.ireturn, len)) && (len == 1 && (match (generalizing := false) k1 with
      | 0 => decide (rt = some .int)
      | _ => decide (rt = some .boolean) || decide (rt = some .byte)))) = true := hc
  simp only [Bool.and_eq_true, decide_eq_true_eq, beq_iff_eq] at hc
  obtain ⟨hd, hl, hr2⟩ := hc
  subst hl
  simp only [am_st] at h
  split at h
  · rename_i xr
    intro ls H locs g1 g2 g3
    rw [hi]
    split at hr2
    · have h : Rr (some (.int xr)) mi ml := h
      exact W.iret hx hb (hr.trans (by simpa using hr2)) (fun t2 e1 e2 => ⟨⟨_, mi, ml, rfl, h, by rw [e1]; exact g2⟩, g3.F e1⟩) g3.2.2 hd
    · rename_i hne
      have h2 : (xr = (0 : Int32) ∨ xr = (1 : Int32)) ∧ Rr (some (.int xr)) mi ml := by
        split at h
        · exact (hne rfl).elim
        · exact h
      have hr3 : rt = some .boolean ∨ rt = some .byte := by simpa using hr2
      rcases hr3 with hr3 | hr3
      · refine W.zret hx hb (hr.trans hr3) ?_ (fun t2 e1 e2 => ⟨⟨_, mi, ml, rfl, h2.2, by rw [e1]; exact g2⟩, g3.F e1⟩) g3.2.2 hd
        rcases h2.1 with q | q <;> subst q <;> rfl
      · refine W.zret hx hb (hr.trans hr3) ?_ (fun t2 e1 e2 => ⟨⟨_, mi, ml, rfl, h2.2, by rw [e1]; exact g2⟩, g3.F e1⟩) g3.2.2 hd
        rcases h2.1 with q | q <;> subst q <;> rfl
  · exact h.elim
theorem am_s_lreturn (F : am_fr p s m args meth c G y bc nL rt lk) (hc : am_chk y bc nL rt lk t i (pc, .lreturn, len, k1, k2, k3, v, sw) = true) (hi : am_pcs t i = pc) (h : am_st cl (am_mo p l e Rm s m args below meth c 0 0 (MQ below (am_Q G Rr) args s 0 0 (am_A G)) G nL t) Rr .lreturn k1 k2 k3 v sw i lo st mi ml) : (am_mo p l e Rm s m args below meth c 0 0 (MQ below (am_Q G Rr) args s 0 0 (am_A G)) G nL t) i lo st mi ml := by
  obtain ⟨hx, hb, hml, hr, hlocks, hts, hlk, hown, hK, hX⟩ := F
  have hc : (decide (decode bc pc = .ok (.lreturn, len)) && (len == 1 && decide (rt = some .long))) = true := hc
  simp only [Bool.and_eq_true, decide_eq_true_eq, beq_iff_eq] at hc
  obtain ⟨hd, hl, hr2⟩ := hc
  subst hl
  simp only [am_st] at h
  split at h
  · intro ls H locs g1 g2 g3
    rw [hi]
    exact W.lret hx hb (hr.trans hr2) (fun t2 e1 e2 => ⟨⟨_, mi, ml, rfl, h, by rw [e1]; exact g2⟩, g3.F e1⟩) g3.2.2 hd
  · exact h.elim
theorem am_s_areturn (F : am_fr p s m args meth c G y bc nL rt lk) (hc : am_chk y bc nL rt lk t i (pc, .areturn, len, k1, k2, k3, v, sw) = true) (hi : am_pcs t i = pc) (h : am_st cl (am_mo p l e Rm s m args below meth c 0 0 (MQ below (am_Q G Rr) args s 0 0 (am_A G)) G nL t) Rr .areturn k1 k2 k3 v sw i lo st mi ml) : (am_mo p l e Rm s m args below meth c 0 0 (MQ below (am_Q G Rr) args s 0 0 (am_A G)) G nL t) i lo st mi ml := by
  obtain ⟨hx, hb, hml, hr, hlocks, hts, hlk, hown, hK, hX⟩ := F
  have hc : (decide (decode bc pc = .ok (.areturn, len)) && (len == 1 && (match (generalizing := false) rt with
      | some (.object _) => true
      | _ => false))) = true := hc
  simp only [Bool.and_eq_true, decide_eq_true_eq, beq_iff_eq] at hc
  obtain ⟨hd, hl, hr2⟩ := hc
  subst hl
  simp only [am_st] at h
  split at h
  · rename_i xr
    intro ls H locs g1 g2 g3
    rw [hi]
    split at hr2
    · rename_i nm
      exact W.aret hx hb hr (Or.inl ⟨nm, rfl⟩) (Or.inr ⟨_, rfl⟩) (fun t2 e1 e2 => ⟨⟨some (.ref _), mi, ml, rfl, h, by rw [e1]; exact g2⟩, g3.F e1⟩) g3.2.2 hd
    · cases hr2
  · exact h.elim
theorem am_s_return (F : am_fr p s m args meth c G y bc nL rt lk) (hc : am_chk y bc nL rt lk t i (pc, .return_, len, k1, k2, k3, v, sw) = true) (hi : am_pcs t i = pc) (h : am_st cl (am_mo p l e Rm s m args below meth c 0 0 (MQ below (am_Q G Rr) args s 0 0 (am_A G)) G nL t) Rr .return_ k1 k2 k3 v sw i lo st mi ml) : (am_mo p l e Rm s m args below meth c 0 0 (MQ below (am_Q G Rr) args s 0 0 (am_A G)) G nL t) i lo st mi ml := by
  obtain ⟨hx, hb, hml, hr, hlocks, hts, hlk, hown, hK, hX⟩ := F
  have hc : (decide (decode bc pc = .ok (.return_, len)) && (len == 1 && decide (rt = none))) = true := hc
  simp only [Bool.and_eq_true, decide_eq_true_eq, beq_iff_eq] at hc
  obtain ⟨hd, hl, hr2⟩ := hc
  subst hl
  simp only [am_st] at h
  split at h
  · intro ls H locs g1 g2 g3
    rw [hi]
    exact W.vret hx hb (hr.trans hr2) (fun t2 e1 e2 => ⟨⟨none, mi, ml, rfl, h, by rw [e1]; exact g2⟩, g3.F e1⟩) g3.2.2 hd
  · exact h.elim
end AMS
end
section
/-! fields and arrays -/
set_option maxRecDepth 1000000 in
theorem am_uw_0 : [52, 54, 56, 58].map (fun i => tables_1[i]?) = (u_ws RX0 TX0 4).map some := by decide +kernel
set_option maxRecDepth 1000000 in
theorem am_uw_1 : [73, 75, 77].map (fun i => tables_1[i]?) = (u_ws RX1 TX1 3).map some := by decide +kernel
set_option maxRecDepth 1000000 in
theorem am_uw_2 : [263, 265, 267, 269, 271, 273, 275, 277, 279, 281, 283, 285].map (fun i => tables_1[i]?) = (u_ws RX2 TX2 12).map some := by decide +kernel
set_option maxRecDepth 1000000 in
theorem am_uw_3 : [204, 206, 208, 210, 212, 214, 216, 218, 220, 222].map (fun i => tables_1[i]?) = (u_ws RX3 TX3 10).map some := by decide +kernel
set_option maxRecDepth 1000000 in
theorem am_uw_4 : [157, 159, 161, 163, 165, 167, 169, 171, 173, 175, 177, 179, 181].map (fun i => tables_1[i]?) = (u_ws RX4 TX4 13).map some := by decide +kernel
set_option maxRecDepth 1000000 in
theorem am_uw_5 : [98, 100, 102, 104, 106, 108, 110, 112, 114, 116].map (fun i => tables_1[i]?) = (u_ws RX5 TX5 10).map some := by decide +kernel
set_option maxRecDepth 1000000 in
theorem am_uw_6 : [300, 302, 304, 306].map (fun i => tables_1[i]?) = (u_ws RX6 TX6 4).map some := by decide +kernel
set_option maxRecDepth 1000000 in
theorem am_uw_7 : [326, 328, 330, 332, 334].map (fun i => tables_1[i]?) = (u_ws RX7 TX7 5).map some := by decide +kernel
set_option maxRecDepth 1000000 in
theorem am_uw_8 : [233, 235].map (fun i => tables_1[i]?) = (u_ws RX8 TX8 2).map some := by decide +kernel
set_option maxRecDepth 1000000 in
theorem am_uw_9 : [128, 130, 132].map (fun i => tables_1[i]?) = (u_ws RX9 TX9 3).map some := by decide +kernel
set_option maxRecDepth 1000000 in
theorem am_uw_10 : [348, 350, 352, 354, 356, 358, 360, 362, 364, 366].map (fun i => tables_1[i]?) = (u_ws RX10 TX10 10).map some := by decide +kernel
set_option maxRecDepth 1000000 in
theorem am_uw_11 : [1269, 1271, 1273, 1275, 1277, 1279, 1281, 1283, 1285, 1287, 1289, 1291, 1293, 1295, 1297, 1299, 1301, 1303, 1305, 1307, 1309, 1311, 1313, 1315, 1317, 1319, 1321, 1323, 1325, 1327, 1329, 1331, 1333, 1335, 1337, 1339, 1341, 1343, 1345, 1347, 1349, 1351, 1353, 1355, 1357, 1359, 1361, 1363, 1365, 1367, 1369, 1371].map (fun i => tables_1[i]?) = (u_ws RX11 TX11 52).map some := by decide +kernel
theorem am_t1 {w : Cond} (h : w ∈ tables_1) : w ∈ lw_tbl := List.mem_append_right _ h
theorem am_lay_good {C : String} {T : u_T} {N : Nat} : ∀ w ∈ u_ws C T N, goodWord w = true := by
  intro w hw
  obtain ⟨k, -, e⟩ := List.mem_map.mp hw
  subst e
  unfold u_lay
  split <;> rfl
theorem am_vw : ∀ {c : Nat} {r : vw_C}, vwCl[c]? = some r → (∀ w ∈ u_ws r.1 r.2.1 r.2.2, w ∈ am_tb) ∧ (∃ ty0 : Nat → FieldType, ∀ k, k < r.2.2 → parseFieldDescriptor (r.2.1 k).2.2.1 = some (ty0 k)) ∧ ∀ a, a < r.2.2 → ∀ b, b < r.2.2 → a ≠ b → (r.2.1 a).2.1 ≠ (r.2.1 b).2.1
  | 0, r, h => by
    have h := Option.some.inj ((rfl : vwCl[0]? = some (RX0, TX0, 4)).symm.trans h)
    subst h
    exact ⟨fun w hw => am_tb_i (am_t1 (am_uses am_uw_0 w hw)) (am_lay_good w hw), ⟨_, tyX0_ok⟩, nmX0⟩
  | 1, r, h => by
    have h := Option.some.inj ((rfl : vwCl[1]? = some (RX1, TX1, 3)).symm.trans h)
    subst h
    exact ⟨fun w hw => am_tb_i (am_t1 (am_uses am_uw_1 w hw)) (am_lay_good w hw), ⟨_, tyX1_ok⟩, nmX1⟩
  | 2, r, h => by
    have h := Option.some.inj ((rfl : vwCl[2]? = some (RX2, TX2, 12)).symm.trans h)
    subst h
    exact ⟨fun w hw => am_tb_i (am_t1 (am_uses am_uw_2 w hw)) (am_lay_good w hw), ⟨_, tyX2_ok⟩, nmX2⟩
  | 3, r, h => by
    have h := Option.some.inj ((rfl : vwCl[3]? = some (RX3, TX3, 10)).symm.trans h)
    subst h
    exact ⟨fun w hw => am_tb_i (am_t1 (am_uses am_uw_3 w hw)) (am_lay_good w hw), ⟨_, tyX3_ok⟩, nmX3⟩
  | 4, r, h => by
    have h := Option.some.inj ((rfl : vwCl[4]? = some (RX4, TX4, 13)).symm.trans h)
    subst h
    exact ⟨fun w hw => am_tb_i (am_t1 (am_uses am_uw_4 w hw)) (am_lay_good w hw), ⟨_, tyX4_ok⟩, nmX4⟩
  | 5, r, h => by
    have h := Option.some.inj ((rfl : vwCl[5]? = some (RX5, TX5, 10)).symm.trans h)
    subst h
    exact ⟨fun w hw => am_tb_i (am_t1 (am_uses am_uw_5 w hw)) (am_lay_good w hw), ⟨_, tyX5_ok⟩, nmX5⟩
  | 6, r, h => by
    have h := Option.some.inj ((rfl : vwCl[6]? = some (RX6, TX6, 4)).symm.trans h)
    subst h
    exact ⟨fun w hw => am_tb_i (am_t1 (am_uses am_uw_6 w hw)) (am_lay_good w hw), ⟨_, tyX6_ok⟩, nmX6⟩
  | 7, r, h => by
    have h := Option.some.inj ((rfl : vwCl[7]? = some (RX7, TX7, 5)).symm.trans h)
    subst h
    exact ⟨fun w hw => am_tb_i (am_t1 (am_uses am_uw_7 w hw)) (am_lay_good w hw), ⟨_, tyX7_ok⟩, nmX7⟩
  | 8, r, h => by
    have h := Option.some.inj ((rfl : vwCl[8]? = some (RX8, TX8, 2)).symm.trans h)
    subst h
    exact ⟨fun w hw => am_tb_i (am_t1 (am_uses am_uw_8 w hw)) (am_lay_good w hw), ⟨_, tyX8_ok⟩, nmX8⟩
  | 9, r, h => by
    have h := Option.some.inj ((rfl : vwCl[9]? = some (RX9, TX9, 3)).symm.trans h)
    subst h
    exact ⟨fun w hw => am_tb_i (am_t1 (am_uses am_uw_9 w hw)) (am_lay_good w hw), ⟨_, tyX9_ok⟩, nmX9⟩
  | 10, r, h => by
    have h := Option.some.inj ((rfl : vwCl[10]? = some (RX10, TX10, 10)).symm.trans h)
    subst h
    exact ⟨fun w hw => am_tb_i (am_t1 (am_uses am_uw_10 w hw)) (am_lay_good w hw), ⟨_, tyX10_ok⟩, nmX10⟩
  | 11, r, h => by
    have h := Option.some.inj ((rfl : vwCl[11]? = some (RX11, TX11, 52)).symm.trans h)
    subst h
    exact ⟨fun w hw => am_tb_i (am_t1 (am_uses am_uw_11 w hw)) (am_lay_good w hw), ⟨_, tyX11_ok⟩, nmX11⟩
  | n + 12, r, h => by cases h
theorem am_vw_lt {c : Nat} {r : vw_C} (h : vwCl[c]? = some r) : c < 12 := (List.getElem?_eq_some_iff.mp h).1
theorem am_oc_1 {a k : Nat} (h : am_oc a = k) (hk : k < 100) : am_kd a = 1 ∧ am_n a = k := by
  unfold am_oc at h
  split at h
  · rename_i e
    exact ⟨e, h⟩
  · omega
  · omega
theorem am_oc_7 {a : Nat} (h : am_oc a = 100) : am_kd a = 7 := by
  unfold am_oc at h
  split at h
  · rename_i e
    obtain ⟨-, C, T, e2⟩ := am_k1 e
    have := am_vw_lt e2
    omega
  · assumption
  · omega
section AMM2
variable {p : Program} {l : Launch} {e : Env} {Rm : Room} {s : State} {m : MethodId} {args : Array Value} {below : List Frame} {meth : Method} {c : Code} {cs ss : Nat} {Q : State → Prop}
variable {G : am_G} {y : MethodName} {bc : ByteArray} {nL : Nat} {rt : Option FieldType} {lk : List Cond} {t : List am_row} {Rr : am_R} {cl : am_C}
variable {i pc len k1 k2 k3 : Nat} {v : Int32} {sw : List (Int32 × Nat)} {lo : am_L} {st : List Value} {mi : am_MI} {ml : am_ML}
theorem am_s_getfield (F : am_fr p s m args meth c G y bc nL rt lk) {q : Nat} (hc : am_chk y bc nL rt lk t i (pc, (.getfield q), len, k1, k2, k3, v, sw) = true) (hi : am_pcs t i = pc) (h : am_get (am_mo p l e Rm s m args below meth c cs ss Q G nL t) i lo st mi ml k1 k2 k3) : (am_mo p l e Rm s m args below meth c cs ss Q G nL t) i lo st mi ml := by
  obtain ⟨hx, hb, hml, hr, hlocks, hts, hlk, hown, hK, hX⟩ := F
  have hc : (decide (decode bc pc = .ok (.getfield q, len)) && (len == 3 && am_pcs t (i + 1) == pc + 3 && ((k1 == 100 && decide (Cond.fieldLink y.cls q "java/lang/String" (am_sfn k2).1 (am_sfn k2).2 ∈ lk) && ((k2 == 0 && k3 == 2) || (k2 == 1 && k3 == 0))) || match (generalizing := false) vwCl[k1]? with
      | some (C, T, N) => decide (k2 < N) && (T k2).1 == C && (decide (Cond.fieldLink y.cls q C (T k2).2.1 (T k2).2.2.1 ∈ lk) || decide (Cond.fieldLinkNest y.cls q C (T k2).2.1 (T k2).2.2.1 am_host ∈ lk)) && (am_isr (T k2).2.2.1 == (k3 == 2))
      | none => false))) = true := hc
  simp only [Bool.and_eq_true, Bool.or_eq_true, decide_eq_true_eq, beq_iff_eq] at hc
  obtain ⟨hd, ⟨hl, hn⟩, hor⟩ := hc
  subst hl
  unfold am_get at h
  split at h
  · rename_i a rest
    have hoc := eq_of_beq (am_need_e h).1
    replace h := (am_need_e h).2
    intro ls H locs g1 g2 g3
    rw [hi]
    rcases hor with ⟨⟨hk1, hlnk⟩, hkk⟩ | ho
    · subst hk1
      obtain ⟨r1, r2⟩ := am_k7 (am_oc_7 hoc)
      obtain ⟨hO, hcod, hval⟩ := hX.2.2.2.2.1 a r1 r2
      rcases hkk with ⟨hk2, hk3⟩ | ⟨hk2, hk3⟩
      · subst hk2 hk3
        have z := h ls H locs g1 g2 g3
        rw [hn] at z
        exact va_getX (N := 1) (v := fun _ => .ref (G.1 (am_rf a 0))) (ad := fun _ => G.1 a) (i := 0) hx hb (fun _ _ => hval) (by omega) g3 hown (hts _ (am_tb_i (hlk _ hlnk) rfl)) (fun _ w => w) hd z
      · subst hk2 hk3
        have z := h ls H locs g1 g2 g3
        rw [hn] at z
        have h114 : am_N ≤ a := Nat.le_trans (by decide) r1
        have hv : mi a 1 = G.2.2.2 a 1 := by rw [g2.2.2 a h114]
        have z : W p l e Rm s m args below meth c H locs cs ss Q (F0 m (pc + 3) ls (.int (G.2.2.2 a 1) :: rest.map (am_tv G))) := by rw [← hv]; exact z
        exact va_getX (N := 1) (v := fun _ => .int (G.2.2.2 a 1)) (ad := fun _ => G.1 a) (i := 0) hx hb (fun _ _ => hcod) (by omega) g3 hown (hts _ (am_tb_i (hlk _ hlnk) rfl)) (fun _ w => w) hd z
    · split at ho
      · rename_i C T N er
        simp only [Bool.and_eq_true, Bool.or_eq_true, decide_eq_true_eq, beq_iff_eq] at ho
        obtain ⟨⟨⟨hk2, hT1⟩, hlnk⟩, hk3⟩ := ho
        have hlt := am_vw_lt er
        obtain ⟨ha1, ha2⟩ := am_oc_1 hoc (by omega)
        obtain ⟨haN, C2, T2, er2⟩ := am_k1 ha1
        rw [ha2, er] at er2
        cases er2
        obtain ⟨u1, u2, u3⟩ := am_vw er
        have he : (am_wl G mi ml)[a]? = some (G.1 a, .inr (k1, am_fs G mi a k1 (am_f a))) := by rw [am_wl_at haN, am_en1 ha1, ha2]
        have hv : (am_fs G mi a k1 (am_f a))[k2]? = some (am_fv G mi a k1 k2) := am_fs_at hk2
        have hfd : am_fd k1 k2 = (T k2).2.2.1 := by unfold am_fd; rw [er]
        have z : W p l e Rm s m args below meth c H locs cs ss Q (F0 m (pc + 3) ls (am_fv G mi a k1 k2 :: rest.map (am_tv G))) := by
          unfold am_fv
          rw [hfd]
          by_cases h3 : k3 = 2
          · subst h3
            have hisr : am_isr (T k2).2.2.1 = true := hk3.trans rfl
            rw [if_pos hisr, ← hn]
            exact h ls H locs g1 g2 g3
          · have hisr : ¬ am_isr (T k2).2.2.1 = true := by
              rw [hk3]
              simpa using h3
            rw [if_neg hisr, ← hn]
            split at h
            · exact absurd rfl h3
            · exact h ls H locs g1 g2 g3
        have hsame : ∀ x, s.fieldFound? (T k2).1 (T k2).2.1 (T k2).2.2.1 = some x → s.fieldFound? C (T k2).2.1 (T k2).2.2.1 = some x := fun x hx => by rw [hT1] at hx; exact hx
        rcases hlnk with hlnk | hlnk
        · exact va_get hx hb hts u1 hown hK g2.1 a he er k2 hk2 (hts _ (am_tb_i (hlk _ hlnk) rfl)) hsame hv hd z
        · exact va_getN hx hb hts u1 hown hK g2.1 a he er k2 hk2 (va_Nw.use rfl (hX.2.2.2.2.2.2 _ _ _ _ _ _ (hlk _ hlnk))) hsame hv hd z
      · cases ho
  · exact h.elim
theorem am_s_putfield (F : am_fr p s m args meth c G y bc nL rt lk) {q : Nat} (hc : am_chk y bc nL rt lk t i (pc, (.putfield q), len, k1, k2, k3, v, sw) = true) (hi : am_pcs t i = pc) (h : am_put (am_mo p l e Rm s m args below meth c cs ss Q G nL t) i lo st mi ml k1 k2 k3) : (am_mo p l e Rm s m args below meth c cs ss Q G nL t) i lo st mi ml := by
  obtain ⟨hx, hb, hml, hr, hlocks, hts, hlk, hown, hK, hX⟩ := F
  have hc : (decide (decode bc pc = .ok (.putfield q, len)) && (len == 3 && am_pcs t (i + 1) == pc + 3 && (match (generalizing := false) vwCl[k1]? with
      | some (C, T, N) => decide (k2 < N) && (T k2).1 == C && (T k2).2.2.2 == false && decide (Cond.fieldLink y.cls q C (T k2).2.1 (T k2).2.2.1 ∈ lk) && (((T k2).2.2.1 == "I" && k3 == 0) || ((T k2).2.2.1 == "Z" && k3 == 1))
      | none => false))) = true := hc
  simp only [Bool.and_eq_true, Bool.or_eq_true, decide_eq_true_eq, beq_iff_eq] at hc
  obtain ⟨hd, ⟨hl, hn⟩, ho⟩ := hc
  subst hl
  unfold am_put at h
  split at h
  · rename_i x a rest
    have hoc := eq_of_beq (am_need_e h).1
    replace h := (am_need_e h).2
    intro ls H locs g1 g2 g3
    rw [hi]
    split at ho
    · rename_i C T N er
      simp only [Bool.and_eq_true, Bool.or_eq_true, decide_eq_true_eq, beq_iff_eq] at ho
      obtain ⟨⟨⟨⟨hk2, hT1⟩, hfin⟩, hlnk⟩, hk3⟩ := ho
      have hlt := am_vw_lt er
      obtain ⟨ha1, ha2⟩ := am_oc_1 hoc (by omega)
      obtain ⟨haN, C2, T2, er2⟩ := am_k1 ha1
      rw [ha2, er] at er2
      cases er2
      obtain ⟨u1, ⟨ty0, u2⟩, u3⟩ := am_vw er
      have he : (am_wl G mi ml)[a]? = some (G.1 a, .inr (k1, am_fs G mi a k1 (am_f a))) := by rw [am_wl_at haN, am_en1 ha1, ha2]
      have hfd : am_fd k1 k2 = (T k2).2.2.1 := by unfold am_fd; rw [er]
      have hsame : ∀ x, s.fieldFound? (T k2).1 (T k2).2.1 (T k2).2.2.1 = some x → s.fieldFound? C (T k2).2.1 (T k2).2.2.1 = some x := fun x hx => by rw [hT1] at hx; exact hx
      have hset : am_isr (am_fd k1 k2) = false → (am_wl G mi ml).set a (G.1 a, .inr (k1, (am_fs G mi a k1 (am_f a)).set k2 (.int x))) = am_wl G (am_ui mi a k2 x) ml := by
        intro hf
        have z := am_wl_fs (G := G) (mi := mi) (ml := ml) (j := k2) (x := x) ha1 (by rw [ha2]; exact hf)
        rw [ha2] at z
        exact z
      rcases hk3 with ⟨hde, hk3⟩ | ⟨hde, hk3⟩
      · subst hk3
        refine va_put (v := .int x) hx hb hts u1 ty0 u2 u3 hown hK g2.1 g2.2.1 g3 a he er k2 hk2 (hts _ (am_tb_i (hlk _ hlnk) rfl)) hsame hfin (ty := .int) (by rw [hde]; rfl) rfl rfl (by rw [am_fs_len]; exact hk2) hd (fun H1 locs1 f1 f2 f3 => ?_)
        rw [hset (by rw [hfd, hde]; rfl)] at f1 f2
        rw [← hn]
        exact h ls H1 locs1 g1 ⟨f1, f2, am_hp_ui haN g2.2.2⟩ f3
      · subst hk3
        refine va_put (v := .int x) hx hb hts u1 ty0 u2 u3 hown hK g2.1 g2.2.1 g3 a he er k2 hk2 (hts _ (am_tb_i (hlk _ hlnk) rfl)) hsame hfin (ty := .boolean) (by rw [hde]; rfl) (by rcases h.1 with q | q <;> subst q <;> rfl) (by rcases h.1 with q | q <;> subst q <;> rfl) (by rw [am_fs_len]; exact hk2) hd (fun H1 locs1 f1 f2 f3 => ?_)
        rw [hset (by rw [hfd, hde]; rfl)] at f1 f2
        rw [← hn]
        exact h.2 ls H1 locs1 g1 ⟨f1, f2, am_hp_ui haN g2.2.2⟩ f3
    · cases ho
  · exact h.elim
theorem am_s_getstatic (F : am_fr p s m args meth c G y bc nL rt lk) {q : Nat} (hc : am_chk y bc nL rt lk t i (pc, (.getstatic q), len, k1, k2, k3, v, sw) = true) (hi : am_pcs t i = pc) (h : am_st cl (am_mo p l e Rm s m args below meth c cs ss Q G nL t) Rr (.getstatic q) k1 k2 k3 v sw i lo st mi ml) : (am_mo p l e Rm s m args below meth c cs ss Q G nL t) i lo st mi ml := by
  obtain ⟨hx, hb, hml, hr, hlocks, hts, hlk, hown, hK, hX⟩ := F
  have hc : (decide (decode bc pc = .ok (.getstatic q, len)) && (len == 3 && am_pcs t (i + 1) == pc + 3 && (match (generalizing := false) k2 with
      | 0 => (k1 == 114 || k1 == 115 || k1 == 116) && decide (Cond.fieldLink y.cls q (am_stn k1).1 (am_stn k1).2 "[I" ∈ lk)
      | _ => v == 1 && decide (Cond.fieldLink y.cls q "java/lang/String" "COMPACT_STRINGS" "Z" ∈ lk)))) = true := hc
  simp only [Bool.and_eq_true, Bool.or_eq_true, decide_eq_true_eq, beq_iff_eq] at hc
  obtain ⟨hd, ⟨hl, hn⟩, ho⟩ := hc
  subst hl
  simp only [am_st] at h
  intro ls H locs g1 g2 g3
  rw [hi]
  split at ho
  · have z := h ls H locs g1 g2 g3
    rw [hn] at z
    simp only [Bool.and_eq_true, Bool.or_eq_true, decide_eq_true_eq, beq_iff_eq] at ho
    have hZ := (hX.1 k1 (by omega) (by omega)).1
    exact va_gets hx hb hZ g3 hown (hts _ (am_tb_i (hlk _ ho.2) rfl)) (fun _ w => w) hd z
  · rename_i hne
    have z : am_mo p l e Rm s m args below meth c cs ss Q G nL t (i + 1) lo (.int v :: st) mi ml := by
      split at h
      · exact (hne rfl).elim
      · exact h
    have z := z ls H locs g1 g2 g3
    rw [hn] at z
    simp only [Bool.and_eq_true, decide_eq_true_eq, beq_iff_eq] at ho
    rw [ho.1] at z
    exact va_gets hx hb hX.2.1 g3 hown (hts _ (am_tb_i (hlk _ ho.2) rfl)) (fun _ w => w) hd z
theorem am_s_iaload (F : am_fr p s m args meth c G y bc nL rt lk)  (hc : am_chk y bc nL rt lk t i (pc, .iaload, len, k1, k2, k3, v, sw) = true) (hi : am_pcs t i = pc) (h : am_iald (am_mo p l e Rm s m args below meth c cs ss Q G nL t) i lo st mi ml) : (am_mo p l e Rm s m args below meth c cs ss Q G nL t) i lo st mi ml := by
  obtain ⟨hx, hb, hml, hr, hlocks, hts, hlk, hown, hK, hX⟩ := F
  have hc : (decide (decode bc pc = .ok (.iaload, len)) && (len == 1 && am_pcs t (i + 1) == pc + 1)) = true := hc
  simp only [Bool.and_eq_true, decide_eq_true_eq, beq_iff_eq] at hc
  obtain ⟨hd, hl, hn⟩ := hc
  subst hl
  unfold am_iald at h
  split at h
  · rename_i j a rest
    obtain ⟨hk, hin, h⟩ := am_need_e h
    simp only [Bool.or_eq_true, beq_iff_eq] at hk
    intro ls H locs g1 g2 g3
    have z := h ls H locs g1 g2 g3
    rw [hn] at z
    rw [hi]
    rcases hk with (hk | hk) | hk
    · have hin : vp_in j (am_n a) := by
        unfold am_len at hin
        rw [hk] at hin
        exact hin
      exact va_iald hx hb hK g2.1 a 0 (by rw [am_wl_at (am_k2 hk), am_en2 hk]) rfl hin hd z
    · have hin : vp_in j (am_n a) := by
        unfold am_len at hin
        rw [hk] at hin
        exact hin
      obtain ⟨r1, r2⟩ := am_k5 hk
      have hT := (hX.1 a r1 r2).2
      exact va_ti hx hb hT g3 hin (show Value.int (G.2.2.2 a j.toNatClampNeg) = .int (mi a j.toNatClampNeg) by rw [g2.2.2 a r1]) hd z
    · have hin : vp_in j (mi a 100000).toNatClampNeg := by
        unfold am_len at hin
        rw [hk] at hin
        exact hin
      have ha := am_k6 hk
      subst ha
      rw [g2.2.2 117 (by decide)] at hin
      exact va_ti hx hb hX.2.2.1 g3 hin (show Value.int (G.2.2.2 117 j.toNatClampNeg) = .int (mi 117 j.toNatClampNeg) by rw [g2.2.2 117 (by decide)]) hd z
  · exact h.elim
theorem am_s_baload (F : am_fr p s m args meth c G y bc nL rt lk)  (hc : am_chk y bc nL rt lk t i (pc, .baload, len, k1, k2, k3, v, sw) = true) (hi : am_pcs t i = pc) (h : am_bald (am_mo p l e Rm s m args below meth c cs ss Q G nL t) i lo st mi ml) : (am_mo p l e Rm s m args below meth c cs ss Q G nL t) i lo st mi ml := by
  obtain ⟨hx, hb, hml, hr, hlocks, hts, hlk, hown, hK, hX⟩ := F
  have hc : (decide (decode bc pc = .ok (.baload, len)) && (len == 1 && am_pcs t (i + 1) == pc + 1)) = true := hc
  simp only [Bool.and_eq_true, decide_eq_true_eq, beq_iff_eq] at hc
  obtain ⟨hd, hl, hn⟩ := hc
  subst hl
  unfold am_bald at h
  split at h
  · rename_i j a rest
    obtain ⟨hk, hin, h⟩ := am_need_e h
    have hk := eq_of_beq hk
    intro ls H locs g1 g2 g3
    have z := h ls H locs g1 g2 g3
    rw [hn] at z
    rw [hi]
    obtain ⟨r1, r2⟩ := am_k8 hk
    have h114 : am_N ≤ a := Nat.le_trans (by decide) r1
    exact va_tb hx hb (hX.2.2.2.2.2.1 a r1 r2) g3 hin (show Value.int (G.2.2.2 a j.toNatClampNeg) = .int (mi a j.toNatClampNeg) by rw [g2.2.2 a h114]) hd z
  · exact h.elim
theorem am_s_laload (F : am_fr p s m args meth c G y bc nL rt lk)  (hc : am_chk y bc nL rt lk t i (pc, .laload, len, k1, k2, k3, v, sw) = true) (hi : am_pcs t i = pc) (h : am_lald (am_mo p l e Rm s m args below meth c cs ss Q G nL t) i lo st mi ml) : (am_mo p l e Rm s m args below meth c cs ss Q G nL t) i lo st mi ml := by
  obtain ⟨hx, hb, hml, hr, hlocks, hts, hlk, hown, hK, hX⟩ := F
  have hc : (decide (decode bc pc = .ok (.laload, len)) && (len == 1 && am_pcs t (i + 1) == pc + 1)) = true := hc
  simp only [Bool.and_eq_true, decide_eq_true_eq, beq_iff_eq] at hc
  obtain ⟨hd, hl, hn⟩ := hc
  subst hl
  unfold am_lald at h
  split at h
  · rename_i j a rest
    obtain ⟨hk, hin, h⟩ := am_need_e h
    have hk := eq_of_beq hk
    intro ls H locs g1 g2 g3
    have z := h ls H locs g1 g2 g3
    rw [hn] at z
    rw [hi]
    exact va_lald hx hb hK g2.1 a 1 (by rw [am_wl_at (am_k3 hk), am_en3 hk]) rfl hin hd z
  · exact h.elim
theorem am_s_iastore (F : am_fr p s m args meth c G y bc nL rt lk)  (hc : am_chk y bc nL rt lk t i (pc, .iastore, len, k1, k2, k3, v, sw) = true) (hi : am_pcs t i = pc) (h : am_iast (am_mo p l e Rm s m args below meth c cs ss Q G nL t) i lo st mi ml) : (am_mo p l e Rm s m args below meth c cs ss Q G nL t) i lo st mi ml := by
  obtain ⟨hx, hb, hml, hr, hlocks, hts, hlk, hown, hK, hX⟩ := F
  have hc : (decide (decode bc pc = .ok (.iastore, len)) && (len == 1 && am_pcs t (i + 1) == pc + 1)) = true := hc
  simp only [Bool.and_eq_true, decide_eq_true_eq, beq_iff_eq] at hc
  obtain ⟨hd, hl, hn⟩ := hc
  subst hl
  unfold am_iast at h
  split at h
  · rename_i x j a rest
    obtain ⟨hk, hin, h⟩ := am_need_e h
    have hk := eq_of_beq hk
    intro ls H locs g1 g2 g3
    rw [hi]
    refine va_iast hx hb hK g2.1 g2.2.1 g3 a 0 (by rw [am_wl_at (am_k2 hk), am_en2 hk]) rfl hin hd (fun H1 locs1 f1 f2 f3 => ?_)
    rw [am_wl_ui hk] at f1 f2
    rw [← hn]
    exact h ls H1 locs1 g1 ⟨f1, f2, am_hp_ui (am_k2 hk) g2.2.2⟩ f3
  · exact h.elim
theorem am_s_lastore (F : am_fr p s m args meth c G y bc nL rt lk)  (hc : am_chk y bc nL rt lk t i (pc, .lastore, len, k1, k2, k3, v, sw) = true) (hi : am_pcs t i = pc) (h : am_last (am_mo p l e Rm s m args below meth c cs ss Q G nL t) i lo st mi ml) : (am_mo p l e Rm s m args below meth c cs ss Q G nL t) i lo st mi ml := by
  obtain ⟨hx, hb, hml, hr, hlocks, hts, hlk, hown, hK, hX⟩ := F
  have hc : (decide (decode bc pc = .ok (.lastore, len)) && (len == 1 && am_pcs t (i + 1) == pc + 1)) = true := hc
  simp only [Bool.and_eq_true, decide_eq_true_eq, beq_iff_eq] at hc
  obtain ⟨hd, hl, hn⟩ := hc
  subst hl
  unfold am_last at h
  split at h
  · rename_i x j a rest
    obtain ⟨hk, hin, h⟩ := am_need_e h
    have hk := eq_of_beq hk
    intro ls H locs g1 g2 g3
    rw [hi]
    refine va_last hx hb hK g2.1 g2.2.1 g3 a 1 (by rw [am_wl_at (am_k3 hk), am_en3 hk]) rfl hin hd (fun H1 locs1 f1 f2 f3 => ?_)
    rw [am_wl_ul hk] at f1 f2
    rw [← hn]
    exact h ls H1 locs1 g1 ⟨f1, f2, g2.2.2⟩ f3
  · exact h.elim
theorem am_s_aaload (F : am_fr p s m args meth c G y bc nL rt lk)  (hc : am_chk y bc nL rt lk t i (pc, .aaload, len, k1, k2, k3, v, sw) = true) (hi : am_pcs t i = pc) (h : am_aald (am_mo p l e Rm s m args below meth c cs ss Q G nL t) i lo st mi ml) : (am_mo p l e Rm s m args below meth c cs ss Q G nL t) i lo st mi ml := by
  obtain ⟨hx, hb, hml, hr, hlocks, hts, hlk, hown, hK, hX⟩ := F
  have hc : (decide (decode bc pc = .ok (.aaload, len)) && (len == 1 && am_pcs t (i + 1) == pc + 1)) = true := hc
  simp only [Bool.and_eq_true, decide_eq_true_eq, beq_iff_eq] at hc
  obtain ⟨hd, hl, hn⟩ := hc
  subst hl
  unfold am_aald at h
  split at h
  · rename_i j a rest
    obtain ⟨hk, hin, h⟩ := am_need_e h
    have hk := eq_of_beq hk
    intro ls H locs g1 g2 g3
    have z := h ls H locs g1 g2 g3
    rw [hn] at z
    rw [hi]
    obtain ⟨haN, hd12⟩ := am_k4 hk
    have hlt : j.toNatClampNeg < am_n a := Nat.not_le.mp fun q => hin (Or.inr q)
    have hc0 := g2.1 a _ (by rw [am_wl_at haN, am_en4 hk])
    rcases hd12 with q | q
    · rw [q, if_pos rfl] at hc0
      refine W.aald (ty := .array .int) (v := .ref (G.1 (am_f a + 1 * j.toNatClampNeg))) hx hb hc0 ((hK.2 2 _ rfl).1 _ _) rfl (fun q => by cases q) (by show ¬ (j < 0 ∨ (arrV _ _ _).slots.size ≤ _); rw [arrV_size]; exact hin) (by show (arrV _ _ _).slots[_]? = _; rw [arrV_read _ _ hlt]; rfl) rfl rfl hd ?_
      rw [q] at z
      exact z
    · rw [q, if_neg (by decide)] at hc0
      refine W.aald (ty := .object "DoorsForThree$Shelf") (v := .ref (G.1 (am_f a + 2 * j.toNatClampNeg))) hx hb hc0 ((hK.2 3 _ rfl).1 _ _) rfl (fun q => by cases q) (by show ¬ (j < 0 ∨ (arrV _ _ _).slots.size ≤ _); rw [arrV_size]; exact hin) (by show (arrV _ _ _).slots[_]? = _; rw [arrV_read _ _ hlt]; rfl) rfl rfl hd ?_
      rw [q] at z
      exact z
  · exact h.elim
theorem am_s_arraylength (F : am_fr p s m args meth c G y bc nL rt lk)  (hc : am_chk y bc nL rt lk t i (pc, .arraylength, len, k1, k2, k3, v, sw) = true) (hi : am_pcs t i = pc) (h : am_alen (am_mo p l e Rm s m args below meth c cs ss Q G nL t) i lo st mi ml) : (am_mo p l e Rm s m args below meth c cs ss Q G nL t) i lo st mi ml := by
  obtain ⟨hx, hb, hml, hr, hlocks, hts, hlk, hown, hK, hX⟩ := F
  have hc : (decide (decode bc pc = .ok (.arraylength, len)) && (len == 1 && am_pcs t (i + 1) == pc + 1)) = true := hc
  simp only [Bool.and_eq_true, decide_eq_true_eq, beq_iff_eq] at hc
  obtain ⟨hd, hl, hn⟩ := hc
  subst hl
  unfold am_alen at h
  split at h
  · rename_i a rest
    obtain ⟨hk, h⟩ := am_need_e h
    simp only [Bool.or_eq_true, Bool.and_eq_true, Nat.ble_eq, beq_iff_eq] at hk
    intro ls H locs g1 g2 g3
    have z := h ls H locs g1 g2 g3
    rw [hn] at z
    rw [hi]
    have ho : ¬ am_kd a = 6 → am_len mi a = am_n a := by
      intro q
      unfold am_len
      split
      · rename_i e
        exact (q e).elim
      · rfl
    by_cases k2 : am_kd a = 2
    · rw [ho (by omega)] at z
      have he : (am_wl G mi ml)[a]? = some (G.1 a, .inl (G.2.2.1.1, am_n a, .inl (mi a))) := by rw [am_wl_at (am_k2 k2), am_en2 k2]
      exact va_alen hx hb hK g2.1 a 0 he rfl rfl hd z
    by_cases k3 : am_kd a = 3
    · rw [ho (by omega)] at z
      have he : (am_wl G mi ml)[a]? = some (G.1 a, .inl (G.2.2.1.2.1, am_n a, .inr (.inl (ml a)))) := by rw [am_wl_at (am_k3 k3), am_en3 k3]
      exact va_alen hx hb hK g2.1 a 1 he rfl rfl hd z
    by_cases k4 : am_kd a = 4
    · rw [ho (by omega)] at z
      obtain ⟨haN, hd12⟩ := am_k4 k4
      rcases hd12 with q | q
      · have he : (am_wl G mi ml)[a]? = some (G.1 a, .inl (G.2.2.1.2.2.1, am_n a, .inr (.inr (.inr (.inr (fun j => some (G.1 (am_f a + am_d a * j)))))))) := by rw [am_wl_at haN, am_en4 k4, if_pos q]
        exact va_alen hx hb hK g2.1 a 2 he rfl rfl hd z
      · have he : (am_wl G mi ml)[a]? = some (G.1 a, .inl (G.2.2.1.2.2.2, am_n a, .inr (.inr (.inr (.inr (fun j => some (G.1 (am_f a + am_d a * j)))))))) := by rw [am_wl_at haN, am_en4 k4, if_neg (by omega)]
        exact va_alen hx hb hK g2.1 a 3 he rfl rfl hd z
    by_cases k5 : am_kd a = 5
    · rw [ho (by omega)] at z
      obtain ⟨r1, r2⟩ := am_k5 k5
      exact va_tlen hx hb (hX.1 a r1 r2).2 g3 rfl hd z
    by_cases k6 : am_kd a = 6
    · have e1 : am_len mi a = (mi a 100000).toNatClampNeg := by
        unfold am_len
        split
        · rfl
        · rename_i u
          exact (u k6).elim
      have ha := am_k6 k6
      subst ha
      rw [e1, g2.2.2 117 (by decide)] at z
      exact va_tlen hx hb hX.2.2.1 g3 rfl hd z
    have k8 : am_kd a = 8 := by omega
    rw [ho (by omega)] at z
    obtain ⟨r1, r2⟩ := am_k8 k8
    exact va_tlen hx hb (hX.2.2.2.2.2.1 a r1 r2) g3 rfl hd z
  · exact h.elim
end AMM2
end
section
/-! calls; the small machine says what the real one does -/
theorem am_okt_all {f : Nat} (hf : f < am_NM) : am_okt f = true := by
  by_cases h0 : f < 24
  · exact List.all_eq_true.mp am_okt_0 f (List.mem_range'_1.mpr ⟨by omega, by omega⟩)
  by_cases h1 : f < 48
  · exact List.all_eq_true.mp am_okt_1 f (List.mem_range'_1.mpr ⟨by omega, by omega⟩)
  by_cases h2 : f < 72
  · exact List.all_eq_true.mp am_okt_2 f (List.mem_range'_1.mpr ⟨by omega, by omega⟩)
  by_cases h3 : f < 96
  · exact List.all_eq_true.mp am_okt_3 f (List.mem_range'_1.mpr ⟨by omega, by omega⟩)
  by_cases h4 : f < 120
  · exact List.all_eq_true.mp am_okt_4 f (List.mem_range'_1.mpr ⟨by omega, by omega⟩)
  by_cases h5 : f < 144
  · exact List.all_eq_true.mp am_okt_5 f (List.mem_range'_1.mpr ⟨by omega, by omega⟩)
  by_cases h6 : f < 168
  · exact List.all_eq_true.mp am_okt_6 f (List.mem_range'_1.mpr ⟨by omega, by omega⟩)
  by_cases h7 : f < 192
  · exact List.all_eq_true.mp am_okt_7 f (List.mem_range'_1.mpr ⟨by omega, by omega⟩)
  by_cases h8 : f < 216
  · exact List.all_eq_true.mp am_okt_8 f (List.mem_range'_1.mpr ⟨by omega, by omega⟩)
  by_cases h9 : f < 240
  · exact List.all_eq_true.mp am_okt_9 f (List.mem_range'_1.mpr ⟨by omega, by omega⟩)
  by_cases h10 : f < 264
  · exact List.all_eq_true.mp am_okt_10 f (List.mem_range'_1.mpr ⟨by omega, by omega⟩)
  by_cases h11 : f < 284
  · exact List.all_eq_true.mp am_okt_11 f (List.mem_range'_1.mpr ⟨by omega, by omega⟩)
  exact absurd hf h11
theorem am_okc_all {f : Nat} (hf : f < am_NM) : am_okc f = true := by
  by_cases h0 : f < 24
  · exact List.all_eq_true.mp am_okc_0 f (List.mem_range'_1.mpr ⟨by omega, by omega⟩)
  by_cases h1 : f < 48
  · exact List.all_eq_true.mp am_okc_1 f (List.mem_range'_1.mpr ⟨by omega, by omega⟩)
  by_cases h2 : f < 72
  · exact List.all_eq_true.mp am_okc_2 f (List.mem_range'_1.mpr ⟨by omega, by omega⟩)
  by_cases h3 : f < 96
  · exact List.all_eq_true.mp am_okc_3 f (List.mem_range'_1.mpr ⟨by omega, by omega⟩)
  by_cases h4 : f < 120
  · exact List.all_eq_true.mp am_okc_4 f (List.mem_range'_1.mpr ⟨by omega, by omega⟩)
  by_cases h5 : f < 144
  · exact List.all_eq_true.mp am_okc_5 f (List.mem_range'_1.mpr ⟨by omega, by omega⟩)
  by_cases h6 : f < 168
  · exact List.all_eq_true.mp am_okc_6 f (List.mem_range'_1.mpr ⟨by omega, by omega⟩)
  by_cases h7 : f < 192
  · exact List.all_eq_true.mp am_okc_7 f (List.mem_range'_1.mpr ⟨by omega, by omega⟩)
  by_cases h8 : f < 216
  · exact List.all_eq_true.mp am_okc_8 f (List.mem_range'_1.mpr ⟨by omega, by omega⟩)
  by_cases h9 : f < 240
  · exact List.all_eq_true.mp am_okc_9 f (List.mem_range'_1.mpr ⟨by omega, by omega⟩)
  by_cases h10 : f < 264
  · exact List.all_eq_true.mp am_okc_10 f (List.mem_range'_1.mpr ⟨by omega, by omega⟩)
  by_cases h11 : f < 284
  · exact List.all_eq_true.mp am_okc_11 f (List.mem_range'_1.mpr ⟨by omega, by omega⟩)
  exact absurd hf h11
theorem am_okk_all {f : Nat} (hf : f < am_NM) : am_okk f = true := by
  by_cases h0 : f < 24
  · exact List.all_eq_true.mp am_okk_0 f (List.mem_range'_1.mpr ⟨by omega, by omega⟩)
  by_cases h1 : f < 48
  · exact List.all_eq_true.mp am_okk_1 f (List.mem_range'_1.mpr ⟨by omega, by omega⟩)
  by_cases h2 : f < 72
  · exact List.all_eq_true.mp am_okk_2 f (List.mem_range'_1.mpr ⟨by omega, by omega⟩)
  by_cases h3 : f < 96
  · exact List.all_eq_true.mp am_okk_3 f (List.mem_range'_1.mpr ⟨by omega, by omega⟩)
  by_cases h4 : f < 120
  · exact List.all_eq_true.mp am_okk_4 f (List.mem_range'_1.mpr ⟨by omega, by omega⟩)
  by_cases h5 : f < 144
  · exact List.all_eq_true.mp am_okk_5 f (List.mem_range'_1.mpr ⟨by omega, by omega⟩)
  by_cases h6 : f < 168
  · exact List.all_eq_true.mp am_okk_6 f (List.mem_range'_1.mpr ⟨by omega, by omega⟩)
  by_cases h7 : f < 192
  · exact List.all_eq_true.mp am_okk_7 f (List.mem_range'_1.mpr ⟨by omega, by omega⟩)
  by_cases h8 : f < 216
  · exact List.all_eq_true.mp am_okk_8 f (List.mem_range'_1.mpr ⟨by omega, by omega⟩)
  by_cases h9 : f < 240
  · exact List.all_eq_true.mp am_okk_9 f (List.mem_range'_1.mpr ⟨by omega, by omega⟩)
  by_cases h10 : f < 264
  · exact List.all_eq_true.mp am_okk_10 f (List.mem_range'_1.mpr ⟨by omega, by omega⟩)
  by_cases h11 : f < 284
  · exact List.all_eq_true.mp am_okk_11 f (List.mem_range'_1.mpr ⟨by omega, by omega⟩)
  exact absurd hf h11
theorem am_lks_in : ∀ (k : Nat), ∀ w ∈ am_lks k, w ∈ lw_tbl
  | 0, w, h => am_t1 (am_uses am_lkL_ix w h)
  | 1, w, h => am_t1 (am_uses am_lkX10_ix w h)
  | 2, w, h => am_t1 (am_uses am_lkX0_ix w h)
  | 3, w, h => am_t1 (am_uses am_lkX3_ix w h)
  | 4, w, h => am_t1 (am_uses am_lkX4_ix w h)
  | 5, w, h => am_t1 (am_uses am_lkX8_ix w h)
  | 6, w, h => am_t1 (am_uses am_lkX2_ix w h)
  | 7, w, h => am_t1 (am_uses am_lkX9_ix w h)
  | 8, w, h => am_t1 (am_uses am_lkX1_ix w h)
  | 9, w, h => am_t1 (am_uses am_lkX5_ix w h)
  | 10, w, h => am_t1 (am_uses am_lkX6_ix w h)
  | 11, w, h => am_t1 (am_uses am_lkX7_ix w h)
  | 12, w, h => am_t1 (am_uses am_lkJ0_ix w h)
  | 13, w, h => am_t1 (am_uses am_lkJ1_ix w h)
  | 14, w, h => am_t1 (am_uses am_lkJ6_ix w h)
  | 15, w, h => am_t1 (am_uses am_lkX11_ix w h)
  | n + 16, w, h => (List.not_mem_nil h).elim
def am_cd (f : Nat) : Cond := Cond.code (am_m f).1 (am_m f).2.1 (am_m f).2.2.1 (am_m f).2.2.2.1
def am_ws (f : Nat) : List Cond := am_cd f :: am_tb
def am_room (d : Nat) : Room := { frames := d, cells := 0, slots := 0, locals := 40 * d }
def am_rok (Rm : Room) (d cs ss : Nat) : Prop := d + 1 ≤ Rm.frames ∧ 40 * (d + 1) ≤ Rm.locals ∧ cs ≤ Rm.cells ∧ ss ≤ Rm.slots
theorem am_f_c {f : Nat} (hf : f < am_NM) : plainName (am_m f).1.cls = true ∧ am_cd f ∈ lw_tbl ∧ Cond.initialized (am_m f).1.cls ∈ lw_tbl ∧ (am_m f).2.2.1 ≤ 20 ∧ (am_m f).1.cls ≠ "java/lang/invoke/MethodHandle" ∧ (am_m f).1.cls ≠ "java/lang/invoke/VarHandle" ∧ (parseMethodDescriptor (am_m f).1.desc).map (fun d => d.parameters.length) = some (am_m f).2.2.2.2.2.1 ∧ ((am_m f).2.2.2.2.1 = true → Cond.static (am_m f).1 ∈ lw_tbl) ∧ ((am_m f).2.2.2.2.1 = false → Cond.instanceMethod (am_m f).1 ∈ lw_tbl ∧ Cond.selects (am_m f).1.cls (am_m f).1 (am_m f).1 ∈ lw_tbl) := by
  have z := am_okc_all hf
  unfold am_okc at z
  unfold am_cd
  rcases hm : am_m f with ⟨y, bc, nL, rt, stc, na, k⟩
  rcases hx : am_nth (0, 0, 0, 0) am_mix f with ⟨c, ini, a, b⟩
  rw [hm, hx] at z
  simp only [Bool.and_eq_true, decide_eq_true_eq] at z
  obtain ⟨⟨⟨⟨⟨⟨⟨z1, z2⟩, z3⟩, z4⟩, z5⟩, z6⟩, z7⟩, z8⟩ := z
  refine ⟨z1, List.mem_of_getElem? z2, List.mem_of_getElem? z3, z4, z5, z6, z7, fun q => ?_, fun q => ?_⟩
  · have q : stc = true := q
    subst q
    simp only [decide_eq_true_eq] at z8
    exact List.mem_of_getElem? z8
  · have q : stc = false := q
    subst q
    simp only [Bool.and_eq_true, decide_eq_true_eq] at z8
    exact ⟨List.mem_of_getElem? z8.1, List.mem_of_getElem? z8.2⟩
theorem am_goodIn {f : Nat} (hf : f < am_NM) : GoodIn am_tb (am_ws f) := by
  have all : ∀ w ∈ am_tb, w ∈ am_tb ∧ ((w.onTables && w.keeps) = true ∨ ∃ ty, w = .arrayClass ty) := fun w hw => ⟨hw, good_of_word (List.mem_filter.mp hw).2⟩
  intro w hw
  rcases List.mem_cons.mp hw with e | e
  · subst e
    exact all _ (am_tb_i (am_f_c hf).2.1 rfl)
  · exact all w e
set_option maxRecDepth 1000000 in
theorem am_mx1 : Cond.static Lib.Math.max.name ∈ tables_1 := List.mem_of_getElem? (i := 529) (by decide +kernel)
set_option maxRecDepth 1000000 in
theorem am_mx2 : Cond.code Lib.Math.max.name Lib.Math.max.code 2 (some .int) ∈ tables_1 := List.mem_of_getElem? (i := 530) (by decide +kernel)
set_option maxRecDepth 1000000 in
theorem am_mx3 : Cond.static Lib.Math.min.name ∈ tables_1 := List.mem_of_getElem? (i := 532) (by decide +kernel)
set_option maxRecDepth 1000000 in
theorem am_mx4 : Cond.code Lib.Math.min.name Lib.Math.min.code 2 (some .int) ∈ tables_1 := List.mem_of_getElem? (i := 533) (by decide +kernel)
set_option maxRecDepth 1000000 in
theorem am_mx5 : Cond.initialized "java/lang/Math" ∈ tables_1 := List.mem_of_getElem? (i := 17) (by decide +kernel)
set_option maxRecDepth 1000000 in
theorem am_mx6 : Cond.static arraycopyName ∈ tables_1 := List.mem_of_getElem? (i := 451) (by decide +kernel)
set_option maxRecDepth 1000000 in
theorem am_mx7 : Cond.native arraycopyName ∈ tables_1 := List.mem_of_getElem? (i := 452) (by decide +kernel)
set_option maxRecDepth 1000000 in
theorem am_mx8 : Cond.initialized "java/lang/System" ∈ tables_1 := List.mem_of_getElem? (i := 14) (by decide +kernel)
def am_ih (l : Launch) (G : am_G) (d : Nat) : Prop := ∀ (f : Nat) (args : List Value) (mi : am_MI) (ml : am_ML) (R : am_R), f < am_NM → am_call d f args mi ml R → Met l (am_m f).1 (am_ws f) (am_room d) (va_Pc (args.map (am_tv G)) (fun U => am_wd G U U.heap mi ml)) (am_Q G R) 0 0 (am_A G)
section AMC
variable {p : Program} {l : Launch} {e : Env} {Rm : Room} {s : State} {m : MethodId} {args : Array Value} {below : List Frame} {meth : Method} {c : Code} {cs ss : Nat} {Q : State → Prop}
variable {G : am_G} {y : MethodName} {bc : ByteArray} {nL : Nat} {rt : Option FieldType} {lk : List Cond} {t : List am_row} {Rr : am_R} {cl : am_C}
variable {i pc len k1 k2 k3 d : Nat} {v : Int32} {sw : List (Int32 × Nat)} {lo : am_L} {st : List Value} {mi : am_MI} {ml : am_ML}
theorem am_callk {R' : am_R} {a : Array Value} {ls : Array Slot} {st0 rest : List Value} {H : Heap} {locs : List Loc} (hr : va_Run p l e Rm s m args below meth c H locs cs ss 0 0 (F0 m pc ls st0) rest (am_Q G R' a) (am_A G)) (hS : va_S (am_A G) s.heap H locs)
    (kk : ∀ (r : Option Value) (mi : am_MI) (ml : am_ML) (H1 : Heap) (locs1 : List Loc), R' r mi ml → am_hp G H1 mi ml → va_S (am_A G) s.heap H1 locs1 → W p l e Rm s m args below meth c H1 locs1 cs ss Q (F0 m (pc + 3) ls ((r.map (am_tv G)).toList ++ rest))) : W p l e Rm s m args below meth c H locs cs ss Q (F0 m pc ls st0) := by
  intro T hT X
  obtain ⟨v, st₀, t, T', L, h0, X', hL, e1, e2, ⟨⟨r, mi, ml, hv, hp, hb⟩, hz, hk⟩, st⟩ := hr T hT X
  cases hv
  rw [h0] at hz hk
  obtain ⟨t2, a1, b1⟩ := kk r mi ml T'.heap (locs ++ L) hp (by rw [e1]; exact hb)
    ⟨Nat.le_trans hS.1 (by rw [e1]; exact hz), fun q h1 h2 => by rw [e1, hk q (Nat.lt_of_lt_of_le h1 hS.1) h2]; exact hS.2.1 q h1 h2, fun q hq => (List.mem_append.mp hq).elim (hS.2.2 q) (hL q)⟩ T' rfl X'
  exact ⟨t2, st t2 a1, b1⟩
theorem am_sum_le {st : List Value} (h : am_cat st ≤ 8) : ((st.map (am_tv G)).map fun v => v.category).sum ≤ 8 := by
  rw [am_cat_sum, am_cat_tv]
  exact h
theorem am_room_1 (hR : am_rok Rm d cs ss) : 1 ≤ Rm.frames := Nat.le_trans (Nat.le_add_left 1 d) hR.1
theorem am_room_2 {k : Nat} (hR : am_rok Rm d cs ss) (hk : k ≤ 40) : k ≤ Rm.locals := by
  have := hR.2.1
  omega
theorem am_room_3 {n : Nat} (hR : am_rok Rm d cs ss) (hn : n ≤ 20) : (am_room d).frames + 1 ≤ Rm.frames ∧ 8 + (n + 11) + (am_room d).locals ≤ Rm.locals := by
  refine ⟨hR.1, ?_⟩
  have h2 := hR.2.1
  show 8 + (n + 11) + 40 * d ≤ Rm.locals
  omega
theorem am_kres {ls : Array Slot} {H : Heap} {locs : List Loc} {rest : List Value} (hn : am_pcs t (i + 1) = pc + 3) (g1 : am_lv G nL lo ls) {r : Option Value} {mi : am_MI} {ml : am_ML} (h : (match k3 with
    | 0 => am_rv fun mi ml => am_mo p l e Rm s m args below meth c cs ss Q G nL t (i + 1) lo rest mi ml
    | 1 => am_ri fun x mi ml => am_mo p l e Rm s m args below meth c cs ss Q G nL t (i + 1) lo (.int x :: rest) mi ml
    | 2 => am_rj fun x mi ml => am_mo p l e Rm s m args below meth c cs ss Q G nL t (i + 1) lo (.long x :: rest) mi ml
    | _ => am_rr fun x mi ml => am_mo p l e Rm s m args below meth c cs ss Q G nL t (i + 1) lo (.ref x :: rest) mi ml) r mi ml) (g2 : am_hp G H mi ml) (g3 : va_S (am_A G) s.heap H locs) :
    W p l e Rm s m args below meth c H locs cs ss Q (F0 m (pc + 3) ls ((r.map (am_tv G)).toList ++ rest.map (am_tv G))) := by
  rw [← hn]
  split at h
  · obtain ⟨e, h⟩ := h
    subst e
    exact h ls H locs g1 g2 g3
  · obtain ⟨x, e, h⟩ := h
    subst e
    exact h ls H locs g1 g2 g3
  · obtain ⟨x, e, h⟩ := h
    subst e
    exact h ls H locs g1 g2 g3
  · obtain ⟨x, e, h⟩ := h
    subst e
    exact h ls H locs g1 g2 g3
theorem am_pre {ls : Array Slot} {H : Heap} {locs : List Loc} {vs : List Value} (hK : va_K G.2.1 vwCl (am_ty G) s) (hX : am_sx G s s.heap) (g2 : am_hp G H mi ml) (g3 : va_S (am_A G) s.heap H locs) : PreS s H (va_Pc vs (fun U => am_wd G U U.heap mi ml)) vs := by
  refine ⟨fun a U g mk q => ⟨q.1, am_wd_vm rfl q.2⟩, fun U hU hW => ⟨rfl, ?_⟩⟩
  show am_wd G U U.heap mi ml
  rw [hU]
  exact ⟨g2, hK.moved hW.alike, am_sx_on hW g3.2.1 hX⟩
theorem am_s_invokestatic (F : am_fr p s m args meth c G y bc nL rt lk) {q : Nat} (hR : am_rok Rm d cs ss) (IH : am_ih l G d) (hc : am_chk y bc nL rt lk t i (pc, (.invokestatic q), len, k1, k2, k3, v, sw) = true) (hi : am_pcs t i = pc) (h : am_inv (am_mo p l e Rm s m args below meth c cs ss Q G nL t) i lo st mi ml (am_call d) k1 k2 k3) : (am_mo p l e Rm s m args below meth c cs ss Q G nL t) i lo st mi ml := by
  obtain ⟨hx, hb, hml, hr, hlocks, hts, hlk, hown, hK, hX⟩ := F
  have hc : (decide (decode bc pc = .ok (.invokestatic q, len)) && (len == 3 && am_pcs t (i + 1) == pc + 3 && (match (generalizing := false) k1 with
      | 1000 => decide (Cond.methodLink y.cls q Lib.Math.max.name ∈ lk)
      | 1001 => decide (Cond.methodLink y.cls q Lib.Math.min.name ∈ lk)
      | 1002 => decide (Cond.methodLink y.cls q arraycopyName ∈ lk)
      | 2001 => true
      | _ => decide (k1 < am_NM) && decide (Cond.methodLink y.cls q (am_m k1).1 ∈ lk) && (am_m k1).2.2.2.2.1 == true && k2 == (am_m k1).2.2.2.2.2.1 && k3 == am_rko (am_m k1).2.2.2.1))) = true := hc
  simp only [Bool.and_eq_true, decide_eq_true_eq, beq_iff_eq] at hc
  obtain ⟨hd, ⟨hl, hn⟩, hm⟩ := hc
  subst hl
  unfold am_inv at h
  split at h
  · have hm : decide (Cond.methodLink y.cls q Lib.Math.max.name ∈ lk) = true := hm
    unfold am_bic at h
    split at h
    · intro ls H locs g1 g2 g3
      have hcat := Nat.le_of_ble_eq_true (am_need_e h).1
      have z := (am_need_e h).2 ls H locs g1 g2 g3
      rw [hn] at z
      rw [hi]
      exact va_mmax hx hb (hml.trans g1.1.symm) hown (hts _ (am_tb_i (hlk _ (of_decide_eq_true hm)) rfl)) (hts _ (am_tb_i (am_t1 am_mx1) rfl)) (hts _ (am_tb_i (am_t1 am_mx5) rfl)) (hts _ (am_tb_i (am_t1 am_mx2) rfl)) (am_room_1 hR) (Nat.le_trans (Nat.add_le_add_right (am_sum_le hcat) 13) (am_room_2 hR (by omega))) hR.2.2.1 hR.2.2.2 hd z
    · exact h.elim
  · have hm : decide (Cond.methodLink y.cls q Lib.Math.min.name ∈ lk) = true := hm
    unfold am_bic at h
    split at h
    · intro ls H locs g1 g2 g3
      have hcat := Nat.le_of_ble_eq_true (am_need_e h).1
      have z := (am_need_e h).2 ls H locs g1 g2 g3
      rw [hn] at z
      rw [hi]
      exact va_mmin hx hb (hml.trans g1.1.symm) hown (hts _ (am_tb_i (hlk _ (of_decide_eq_true hm)) rfl)) (hts _ (am_tb_i (am_t1 am_mx3) rfl)) (hts _ (am_tb_i (am_t1 am_mx5) rfl)) (hts _ (am_tb_i (am_t1 am_mx4) rfl)) (am_room_1 hR) (Nat.le_trans (Nat.add_le_add_right (am_sum_le hcat) 13) (am_room_2 hR (by omega))) hR.2.2.1 hR.2.2.2 hd z
    · exact h.elim
  · have hm : decide (Cond.methodLink y.cls q arraycopyName ∈ lk) = true := hm
    unfold am_cpy at h
    split at h
    · rename_i n dp b sp a rest
      obtain ⟨c6, c1, c2, c3, c4, c5, h⟩ := am_need_e h
      have c6 := Nat.le_of_ble_eq_true c6
      have hlocals : ((rest.map (am_tv G)).map fun v => v.category).sum + (nativeFrameWords "java/lang/System" "arraycopy" 5 + 11) ≤ Rm.locals :=
        Nat.le_trans (Nat.add_le_add_right (am_sum_le c6) _) (am_room_2 hR (by decide))
      intro ls H locs g1 g2 g3
      rw [hi]
      split at h
      · rename_i ka kb
        refine va_copyi hx hb (hml.trans g1.1.symm) hown (hts _ (am_tb_i (hlk _ (of_decide_eq_true hm)) rfl)) (hts _ (am_tb_i (am_t1 am_mx7) rfl)) (hts _ (am_tb_i (am_t1 am_mx6) rfl)) (hts _ (am_tb_i (am_t1 am_mx8) rfl)) hK g2.1 g2.2.1 g3 a b 0 0 (by rw [am_wl_at (am_k2 ka), am_en2 ka]) (by rw [am_wl_at (am_k2 kb), am_en2 kb]) rfl rfl rfl c1 c2 c3 c4 c5 (fun _ _ => rfl) (am_room_1 hR) hlocals hd (fun H1 locs1 f1 f2 f3 => ?_)
        rw [am_wl_ci kb] at f1 f2
        rw [← hn]
        exact h ls H1 locs1 g1 ⟨f1, f2, am_hp_ci (am_k2 kb) g2.2.2⟩ f3
      · rename_i ka kb
        refine va_copyl hx hb (hml.trans g1.1.symm) hown (hts _ (am_tb_i (hlk _ (of_decide_eq_true hm)) rfl)) (hts _ (am_tb_i (am_t1 am_mx7) rfl)) (hts _ (am_tb_i (am_t1 am_mx6) rfl)) (hts _ (am_tb_i (am_t1 am_mx8) rfl)) hK g2.1 g2.2.1 g3 a b 1 1 (by rw [am_wl_at (am_k3 ka), am_en3 ka]) (by rw [am_wl_at (am_k3 kb), am_en3 kb]) rfl rfl rfl c1 c2 c3 c4 c5 (fun _ _ => rfl) (am_room_1 hR) hlocals hd (fun H1 locs1 f1 f2 f3 => ?_)
        rw [am_wl_cj kb] at f1 f2
        rw [← hn]
        exact h ls H1 locs1 g1 ⟨f1, f2, g2.2.2⟩ f3
      · exact h.elim
    · exact h.elim
  · exact h.elim
  · rename_i n1 n2 n3 n4
    split at hm
    · exact (n1 rfl).elim
    · exact (n2 rfl).elim
    · exact (n3 rfl).elim
    · exact (n4 rfl).elim
    · simp only [Bool.and_eq_true, decide_eq_true_eq, beq_iff_eq] at hm
      obtain ⟨⟨⟨⟨hlt, hlnk⟩, hst⟩, hk2⟩, -⟩ := hm
      obtain ⟨w1, w2, w3, w4, w5, w6, w7, w8, -⟩ := am_f_c hlt
      unfold am_call0 at h
      obtain ⟨c0, h⟩ := am_need_e h
      simp only [Bool.and_eq_true, Nat.ble_eq] at c0
      obtain ⟨c1, c2⟩ := c0
      intro ls H locs g1 g2 g3
      rw [hi]
      refine am_callk (va_runS (As := ((st.take k2).reverse).map (am_tv G)) (rest := (st.drop k2).map (am_tv G)) ⟨hx, hb, hml, hown, hts⟩ (IH _ _ _ _ _ hlt h) ⟨callB_of k2 hts (am_goodIn hlt) rfl rfl rfl (hts _ (am_tb_i w3 rfl)) (hts _ (am_tb_i (hlk _ hlnk) rfl)) ⟨w5, w6, by rw [w7, hk2]⟩ (am_room_3 hR w4), hts _ (am_tb_i (w8 hst) rfl)⟩ (am_pre (ls := ls) hK hX g2 g3) rfl ?_ g1.1 ?_ (lv_room (am_sum_le c2)) hd ⟨hR.2.2.1, hR.2.2.2⟩) g3 (fun r mi2 ml2 H1 locs1 q1 q2 q3 => am_kres hn g1 q1 q2 q3)
      · rw [List.length_map, List.length_reverse, List.length_take]
        omega
      · show st.map (am_tv G) = (((st.take k2).reverse).map (am_tv G)).reverse ++ (st.drop k2).map (am_tv G)
        rw [← List.map_reverse, List.reverse_reverse, ← List.map_append, List.take_append_drop]
theorem am_s_invokevirtual (F : am_fr p s m args meth c G y bc nL rt lk) {q : Nat} (hR : am_rok Rm d cs ss) (IH : am_ih l G d) (hv : am_rcv st k1 k2 = true) (hc : am_chk y bc nL rt lk t i (pc, (.invokevirtual q), len, k1, k2, k3, v, sw) = true) (hi : am_pcs t i = pc) (h : am_inv (am_mo p l e Rm s m args below meth c cs ss Q G nL t) i lo st mi ml (am_call d) k1 k2 k3) : (am_mo p l e Rm s m args below meth c cs ss Q G nL t) i lo st mi ml := by
  obtain ⟨hx, hb, hml, hr, hlocks, hts, hlk, hown, hK, hX⟩ := F
  have hc : (decide (decode bc pc = .ok (.invokevirtual q, len)) && (len == 3 && am_pcs t (i + 1) == pc + 3 && (match (generalizing := false) k1 with
      | 1000 => false
      | 1001 => false
      | 1002 => false
      | 2001 => true
      | _ => decide (k1 < am_NM) && decide (Cond.methodLink y.cls q (am_m k1).1 ∈ lk) && (am_m k1).2.2.2.2.1 == false && k2 == (am_m k1).2.2.2.2.2.1 + 1 && k3 == am_rko (am_m k1).2.2.2.1))) = true := hc
  simp only [Bool.and_eq_true, decide_eq_true_eq, beq_iff_eq] at hc
  obtain ⟨hd, ⟨hl, hn⟩, hm⟩ := hc
  subst hl
  unfold am_inv at h
  split at h
  · exact Bool.noConfusion (show false = true from hm)
  · exact Bool.noConfusion (show false = true from hm)
  · exact Bool.noConfusion (show false = true from hm)
  · exact h.elim
  · rename_i n1 n2 n3 n4
    split at hm
    · exact (n1 rfl).elim
    · exact (n2 rfl).elim
    · exact (n3 rfl).elim
    · exact (n4 rfl).elim
    · simp only [Bool.and_eq_true, decide_eq_true_eq, beq_iff_eq] at hm
      obtain ⟨⟨⟨⟨hlt, hlnk⟩, hst⟩, hk2⟩, -⟩ := hm
      obtain ⟨w1, w2, w3, w4, w5, w6, w7, -, w9⟩ := am_f_c hlt
      unfold am_call0 at h
      obtain ⟨c0, h⟩ := am_need_e h
      simp only [Bool.and_eq_true, Nat.ble_eq] at c0
      obtain ⟨c1, c2⟩ := c0
      generalize hna : (am_m k1).2.2.2.2.2.1 = na at hk2 w7
      subst hk2
      unfold am_rcv at hv
      rw [Nat.add_sub_cancel] at hv
      split at hv
      · rename_i a rest2 hdr
        have hv := eq_of_beq hv
        have hdr2 : st.drop (na + 1) = rest2 := by
          rw [← List.drop_drop, hdr]
          rfl
        have htk : st.take (na + 1) = st.take na ++ [.ref a] := by
          rw [List.take_add, hdr]
          rfl
        rw [htk, hdr2] at h
        rw [hdr2] at c2
        rw [List.reverse_append] at h
        intro ls H locs g1 g2 g3
        rw [hi]
        have hrec : ∃ cellB : Cell, H[G.1 a]? = some cellB ∧ cellB.vm.isStatics = false ∧ s.vm.findClass (am_m k1).1.cls = some cellB.cls := by
          have hkk := am_okk_all hlt
          unfold am_okk at hkk
          rcases hm1 : am_m k1 with ⟨y1, bc1, nL1, rt1, stc1, na1, lk1⟩
          rw [hm1] at hkk hst
          have hst : stc1 = false := hst
          subst hst
          simp only [Bool.false_or] at hkk
          split at hkk
          · rename_i r er
            have hlt2 := am_vw_lt er
            obtain ⟨ha1, ha2⟩ := am_oc_1 hv (by omega)
            obtain ⟨haN, C2, T2, er2⟩ := am_k1 ha1
            have he : (am_wl G mi ml)[a]? = some (G.1 a, .inr (am_mk k1, am_fs G mi a (am_mk k1) (am_f a))) := by rw [am_wl_at haN, am_en1 ha1, ha2]
            have z := va_recv hK g2.1 er he
            rw [eq_of_beq hkk] at z
            exact z
          · simp only [Bool.and_eq_true, beq_iff_eq] at hkk
            rw [hkk.1] at hv
            obtain ⟨r1, r2⟩ := am_k7 (am_oc_7 hv)
            obtain ⟨⟨cell, e1, e2, e3, e4⟩, -, -⟩ := hX.2.2.2.2.1 a r1 r2
            refine ⟨cell, ?_, e2, ?_⟩
            · rw [g3.2.1 _ (Array.getElem?_eq_some_iff.mp e1).1 e4]
              exact e1
            · show s.vm.findClass y1.cls = _
              rw [hkk.2]
              exact e3
        have hpre := am_pre (ls := ls) (vs := ([Value.ref a].reverse ++ (st.take na).reverse).map (am_tv G)) hK hX g2 g3
        refine am_callk (va_runV (C := (am_m k1).1.cls) (b := G.1 a) (As := ((st.take na).reverse).map (am_tv G)) (rest := rest2.map (am_tv G)) ⟨hx, hb, hml, hown, hts⟩ (IH _ _ _ _ _ hlt h) ⟨callB_of na hts (am_goodIn hlt) rfl rfl rfl (hts _ (am_tb_i w3 rfl)) (hts _ (am_tb_i (hlk _ hlnk) rfl)) ⟨w5, w6, w7⟩ (am_room_3 hR w4), hts _ (am_tb_i (w9 hst).1 rfl), hts _ (am_tb_i (w9 hst).2 rfl)⟩ ⟨hpre.1, hrec, hpre.2⟩ rfl ?_ g1.1 ?_ (lv_room (am_sum_le c2)) hd ⟨hR.2.2.1, hR.2.2.2⟩) g3 (fun r mi2 ml2 H1 locs1 q1 q2 q3 => am_kres hn g1 q1 q2 q3)
        · rw [List.length_map, List.length_reverse, List.length_take]
          omega
        · show st.map (am_tv G) = (((st.take na).reverse).map (am_tv G)).reverse ++ (am_tv G (.ref a) :: rest2.map (am_tv G))
          rw [← List.map_reverse, List.reverse_reverse, ← List.map_cons, ← hdr, ← List.map_append, List.take_append_drop]
      · cases hv
end AMC
end
section
/-! the small machine says what the real one does -/
def am_isret : Instr → Bool
  | .ireturn => true
  | .lreturn => true
  | .areturn => true
  | .return_ => true
  | _ => false
section AMZ
variable {p : Program} {l : Launch} {e : Env} {Rm : Room} {s : State} {m : MethodId} {args : Array Value} {below : List Frame} {meth : Method} {c : Code} {cs ss : Nat} {Q : State → Prop}
variable {G : am_G} {y : MethodName} {bc : ByteArray} {nL : Nat} {rt : Option FieldType} {lk : List Cond} {t : List am_row} {Rr : am_R}
variable {i pc len k1 k2 k3 d : Nat} {v : Int32} {sw : List (Int32 × Nat)} {lo : am_L} {st : List Value} {mi : am_MI} {ml : am_ML}
set_option maxHeartbeats 4000000 in
theorem am_stp (F : am_fr p s m args meth c G y bc nL rt lk) (hR : am_rok Rm d cs ss) (IH : am_ih l G d) {ins : Instr} (hc : am_chk y bc nL rt lk t i (pc, ins, len, k1, k2, k3, v, sw) = true) (hi : am_pcs t i = pc)
    (hret : am_isret ins = true → (am_mo p l e Rm s m args below meth c cs ss Q G nL t) i lo st mi ml)
    (h : am_st (am_call d) (am_mo p l e Rm s m args below meth c cs ss Q G nL t) Rr ins k1 k2 k3 v sw i lo st mi ml) : (am_mo p l e Rm s m args below meth c cs ss Q G nL t) i lo st mi ml := by
  unfold am_st at h
  split at h
  · exact am_s_aload F hc hi h
  · exact am_s_aload_n F hc hi h
  · exact am_s_iload F hc hi h
  · exact am_s_iload_n F hc hi h
  · exact am_s_lload F hc hi h
  · exact am_s_lload_n F hc hi h
  · exact am_s_astore F hc hi h
  · exact am_s_astore_n F hc hi h
  · exact am_s_istore F hc hi h
  · exact am_s_istore_n F hc hi h
  · exact am_s_lstore F hc hi h
  · exact am_s_lstore_n F hc hi h
  · exact am_s_iinc F hc hi h
  · exact am_s_iconst F hc hi h
  · exact am_s_bipush F hc hi h
  · exact am_s_sipush F hc hi h
  · exact am_s_ldc (cl := am_call d) (Rr := Rr) F hc hi h
  · exact am_s_ldc_w F hc hi h
  · exact am_s_ldc2_w F hc hi h
  · exact am_s_lconst F hc hi h
  · exact am_s_dup F hc hi h
  · exact am_s_dup_x1 F hc hi h
  · exact am_s_dup2 F hc hi h
  · exact am_s_pop F hc hi h
  · exact am_s_iadd F hc hi h
  · exact am_s_isub F hc hi h
  · exact am_s_imul F hc hi h
  · exact am_s_idiv F hc hi h
  · exact am_s_irem F hc hi h
  · exact am_s_iand F hc hi h
  · exact am_s_ior F hc hi h
  · exact am_s_ixor F hc hi h
  · exact am_s_ishl F hc hi h
  · exact am_s_ishr F hc hi h
  · exact am_s_iushr F hc hi h
  · exact am_s_ineg F hc hi h
  · exact am_s_i2b F hc hi h
  · exact am_s_i2s F hc hi h
  · exact am_s_i2c F hc hi h
  · exact am_s_i2l (cl := am_call d) (Rr := Rr) F hc hi h
  · exact am_s_l2i (cl := am_call d) (Rr := Rr) F hc hi h
  · exact am_s_ladd F hc hi h
  · exact am_s_lmul F hc hi h
  · exact am_s_land F hc hi h
  · exact am_s_lor F hc hi h
  · exact am_s_lshl (cl := am_call d) (Rr := Rr) F hc hi h
  · exact am_s_lcmp (cl := am_call d) (Rr := Rr) F hc hi h
  · exact am_s_goto F hc hi h
  · exact am_s_if_eq F hc hi h
  · exact am_s_if_ne F hc hi h
  · exact am_s_if_lt F hc hi h
  · exact am_s_if_ge F hc hi h
  · exact am_s_if_gt F hc hi h
  · exact am_s_if_le F hc hi h
  · exact am_s_icmp_eq F hc hi h
  · exact am_s_icmp_ne F hc hi h
  · exact am_s_icmp_lt F hc hi h
  · exact am_s_icmp_ge F hc hi h
  · exact am_s_icmp_gt F hc hi h
  · exact am_s_icmp_le F hc hi h
  · exact am_s_tableswitch F hc hi h
  · exact am_s_lookupswitch F hc hi h
  · exact am_s_getfield F hc hi h
  · exact am_s_putfield F hc hi h
  · exact am_s_getstatic (cl := am_call d) (Rr := Rr) F hc hi h
  · exact am_s_iaload F hc hi h
  · exact am_s_baload F hc hi h
  · exact am_s_iastore F hc hi h
  · exact am_s_laload F hc hi h
  · exact am_s_lastore F hc hi h
  · exact am_s_aaload F hc hi h
  · exact am_s_arraylength F hc hi h
  · exact am_s_invokevirtual F hR IH (am_need_e h).1 hc hi (am_need_e h).2
  · exact am_s_invokestatic F hR IH hc hi h
  · exact hret rfl
  · exact hret rfl
  · exact hret rfl
  · exact hret rfl
  · exact h.elim
theorem am_chks_at : ∀ {rs : List am_row} {i0 : Nat}, am_chks y bc nL rt lk t i0 rs = true → ∀ (j : Nat) (r : am_row), rs[j]? = some r → am_chk y bc nL rt lk t (i0 + j) r = true
  | [], _, _, j, r, h => by simp at h
  | a :: rs, i0, hc, 0, r, h => by
    cases h
    unfold am_chks at hc
    simp only [Bool.and_eq_true] at hc
    exact hc.1
  | a :: rs, i0, hc, j + 1, r, h => by
    unfold am_chks at hc
    simp only [Bool.and_eq_true] at hc
    have z := am_chks_at hc.2 j r h
    rw [Nat.add_assoc, Nat.add_comm 1 j] at z
    exact z
end AMZ
theorem am_sound (l : Launch) (G : am_G) : ∀ d, am_ih l G d
  | 0 => fun f args mi ml R _ h => h.elim
  | d + 1 => fun f args mi ml R hf h => by
    have IH := am_sound l G d
    obtain ⟨hcat, hwp⟩ := h
    have w1 := (am_f_c hf).1
    have hok := am_okt_all hf
    have hok : (am_chks (am_m f).1 (am_m f).2.1 (am_m f).2.2.1 (am_m f).2.2.2.1 (am_lks (am_m f).2.2.2.2.2.2) (am_tab f) 0 (am_tab f) && am_pcs (am_tab f) 0 == 0) = true := hok
    simp only [Bool.and_eq_true, beq_iff_eq] at hok
    obtain ⟨hok, h0⟩ := hok
    refine Met.ofW (cc := (am_m f).2.1) (maxL := (am_m f).2.2.1) (ret := (am_m f).2.2.2.1) w1 rfl ?_
    intro p e s m args2 below meth c s1 B hml hv
    obtain ⟨rfl, g2, hK, hX⟩ := hv
    have F : am_fr p s m (args.map (am_tv G)).toArray meth c G (am_m f).1 (am_m f).2.1 (am_m f).2.2.1 (am_m f).2.2.2.1 (am_lks (am_m f).2.2.2.2.2.2) :=
      ⟨B.exec, B.bytes, hml, B.returns, B.notSynchronized, fun w hw => atoms_spec (ws := am_ws f) B.pre w (List.mem_cons_of_mem _ hw), am_lks_in _, findClass_of_methodNamed B.named, hK, hX⟩
    rw [lg_entry_eq]
    have z := hwp (am_mo p l e (headSpec (am_ws f) (am_room (d + 1))).room s m (args.map (am_tv G)).toArray below meth c 0 0 (MQ below (am_Q G R) (args.map (am_tv G)).toArray s 0 0 (am_A G)) G (am_m f).2.2.1 (am_tab f))
      (fun i lo st mi ml h => by
        unfold am_ex at h
        split at h
        · rename_i pc ins len k1 k2 k3 v sw er
          have hc := am_chks_at hok i _ er
          rw [Nat.zero_add] at hc
          have hi : am_pcs (am_tab f) i = pc := by
            unfold am_pcs
            rw [er]
          refine am_stp F ⟨Nat.le_refl _, Nat.le_refl _, Nat.le_refl _, Nat.le_refl _⟩ IH hc hi (fun hr => ?_) h
          unfold am_isret at hr
          split at hr
          · exact am_s_ireturn (cl := am_call d) F hc hi h
          · exact am_s_lreturn (cl := am_call d) F hc hi h
          · exact am_s_areturn (cl := am_call d) F hc hi h
          · exact am_s_return (cl := am_call d) F hc hi h
          · cases hr
        · exact h.elim)
      (fun i lo lo2 st mi ml hle h ls H locs g1 g2 g3 => h ls H locs (am_lv_le hle g1) g2 g3)
      _ _ [] (am_lv_in hcat) g2 va_S.rf
    rw [h0] at z
    exact z
end
