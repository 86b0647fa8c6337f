/-! text(): the digits of a number below 30 -/
theorem dJ6_stringSize_0f7a4_0 : decode cJ6_stringSize_0f7a4 0 = .ok (.iconst 1, 1) := by decide +kernel
theorem dJ6_stringSize_0f7a4_1 : decode cJ6_stringSize_0f7a4 1 = .ok (.istore_n 1, 1) := by decide +kernel
theorem dJ6_stringSize_0f7a4_2 : decode cJ6_stringSize_0f7a4 2 = .ok (.iload_n 0, 1) := by decide +kernel
theorem dJ6_stringSize_0f7a4_3 : decode cJ6_stringSize_0f7a4 3 = .ok (.ifCond .lt 8, 3) := by decide +kernel
theorem dJ6_stringSize_0f7a4_6 : decode cJ6_stringSize_0f7a4 6 = .ok (.iconst 0, 1) := by decide +kernel
theorem dJ6_stringSize_0f7a4_7 : decode cJ6_stringSize_0f7a4 7 = .ok (.istore_n 1, 1) := by decide +kernel
theorem dJ6_stringSize_0f7a4_8 : decode cJ6_stringSize_0f7a4 8 = .ok (.iload_n 0, 1) := by decide +kernel
theorem dJ6_stringSize_0f7a4_9 : decode cJ6_stringSize_0f7a4 9 = .ok (.ineg, 1) := by decide +kernel
theorem dJ6_stringSize_0f7a4_10 : decode cJ6_stringSize_0f7a4 10 = .ok (.istore_n 0, 1) := by decide +kernel
theorem dJ6_stringSize_0f7a4_11 : decode cJ6_stringSize_0f7a4 11 = .ok (.bipush (-10), 2) := by decide +kernel
theorem dJ6_stringSize_0f7a4_13 : decode cJ6_stringSize_0f7a4 13 = .ok (.istore_n 2, 1) := by decide +kernel
theorem dJ6_stringSize_0f7a4_14 : decode cJ6_stringSize_0f7a4 14 = .ok (.iconst 1, 1) := by decide +kernel
theorem dJ6_stringSize_0f7a4_15 : decode cJ6_stringSize_0f7a4 15 = .ok (.istore_n 3, 1) := by decide +kernel
theorem dJ6_stringSize_0f7a4_16 : decode cJ6_stringSize_0f7a4 16 = .ok (.iload_n 3, 1) := by decide +kernel
theorem dJ6_stringSize_0f7a4_17 : decode cJ6_stringSize_0f7a4 17 = .ok (.bipush 10, 2) := by decide +kernel
theorem dJ6_stringSize_0f7a4_19 : decode cJ6_stringSize_0f7a4 19 = .ok (.if_icmp .ge 23, 3) := by decide +kernel
theorem dJ6_stringSize_0f7a4_22 : decode cJ6_stringSize_0f7a4 22 = .ok (.iload_n 0, 1) := by decide +kernel
theorem dJ6_stringSize_0f7a4_23 : decode cJ6_stringSize_0f7a4 23 = .ok (.iload_n 2, 1) := by decide +kernel
theorem dJ6_stringSize_0f7a4_24 : decode cJ6_stringSize_0f7a4 24 = .ok (.if_icmp .le 7, 3) := by decide +kernel
theorem dJ6_stringSize_0f7a4_27 : decode cJ6_stringSize_0f7a4 27 = .ok (.iload_n 3, 1) := by decide +kernel
theorem dJ6_stringSize_0f7a4_28 : decode cJ6_stringSize_0f7a4 28 = .ok (.iload_n 1, 1) := by decide +kernel
theorem dJ6_stringSize_0f7a4_29 : decode cJ6_stringSize_0f7a4 29 = .ok (.iadd, 1) := by decide +kernel
theorem dJ6_stringSize_0f7a4_30 : decode cJ6_stringSize_0f7a4 30 = .ok (.ireturn, 1) := by decide +kernel
theorem dJ6_stringSize_0f7a4_31 : decode cJ6_stringSize_0f7a4 31 = .ok (.bipush 10, 2) := by decide +kernel
theorem dJ6_stringSize_0f7a4_33 : decode cJ6_stringSize_0f7a4 33 = .ok (.iload_n 2, 1) := by decide +kernel
theorem dJ6_stringSize_0f7a4_34 : decode cJ6_stringSize_0f7a4 34 = .ok (.imul, 1) := by decide +kernel
theorem dJ6_stringSize_0f7a4_35 : decode cJ6_stringSize_0f7a4 35 = .ok (.istore_n 2, 1) := by decide +kernel
theorem dJ6_stringSize_0f7a4_36 : decode cJ6_stringSize_0f7a4 36 = .ok (.iinc 3 1, 3) := by decide +kernel
theorem dJ6_stringSize_0f7a4_39 : decode cJ6_stringSize_0f7a4 39 = .ok (.goto (-23), 3) := by decide +kernel
theorem dJ6_stringSize_0f7a4_42 : decode cJ6_stringSize_0f7a4 42 = .ok (.bipush 10, 2) := by decide +kernel
theorem dJ6_stringSize_0f7a4_44 : decode cJ6_stringSize_0f7a4 44 = .ok (.iload_n 1, 1) := by decide +kernel
theorem dJ6_stringSize_0f7a4_45 : decode cJ6_stringSize_0f7a4 45 = .ok (.iadd, 1) := by decide +kernel
theorem dJ6_stringSize_0f7a4_46 : decode cJ6_stringSize_0f7a4 46 = .ok (.ireturn, 1) := by decide +kernel
theorem dJ6_getChars_ba4f3_0 : decode cJ6_getChars_ba4f3 0 = .ok (.iload_n 1, 1) := by decide +kernel
theorem dJ6_getChars_ba4f3_1 : decode cJ6_getChars_ba4f3 1 = .ok (.istore 5, 2) := by decide +kernel
theorem dJ6_getChars_ba4f3_3 : decode cJ6_getChars_ba4f3 3 = .ok (.iload_n 0, 1) := by decide +kernel
theorem dJ6_getChars_ba4f3_4 : decode cJ6_getChars_ba4f3 4 = .ok (.ifCond .ge 7, 3) := by decide +kernel
theorem dJ6_getChars_ba4f3_7 : decode cJ6_getChars_ba4f3 7 = .ok (.iconst 1, 1) := by decide +kernel
theorem dJ6_getChars_ba4f3_8 : decode cJ6_getChars_ba4f3 8 = .ok (.goto 4, 3) := by decide +kernel
theorem dJ6_getChars_ba4f3_11 : decode cJ6_getChars_ba4f3 11 = .ok (.iconst 0, 1) := by decide +kernel
theorem dJ6_getChars_ba4f3_12 : decode cJ6_getChars_ba4f3 12 = .ok (.istore 6, 2) := by decide +kernel
theorem dJ6_getChars_ba4f3_14 : decode cJ6_getChars_ba4f3 14 = .ok (.iload 6, 2) := by decide +kernel
theorem dJ6_getChars_ba4f3_16 : decode cJ6_getChars_ba4f3 16 = .ok (.ifCond .ne 6, 3) := by decide +kernel
theorem dJ6_getChars_ba4f3_19 : decode cJ6_getChars_ba4f3 19 = .ok (.iload_n 0, 1) := by decide +kernel
theorem dJ6_getChars_ba4f3_20 : decode cJ6_getChars_ba4f3 20 = .ok (.ineg, 1) := by decide +kernel
theorem dJ6_getChars_ba4f3_21 : decode cJ6_getChars_ba4f3 21 = .ok (.istore_n 0, 1) := by decide +kernel
theorem dJ6_getChars_ba4f3_22 : decode cJ6_getChars_ba4f3 22 = .ok (.iload_n 0, 1) := by decide +kernel
theorem dJ6_getChars_ba4f3_23 : decode cJ6_getChars_ba4f3 23 = .ok (.bipush (-100), 2) := by decide +kernel
theorem dJ6_getChars_ba4f3_25 : decode cJ6_getChars_ba4f3 25 = .ok (.if_icmp .gt 47, 3) := by decide +kernel
theorem dJ6_getChars_ba4f3_28 : decode cJ6_getChars_ba4f3 28 = .ok (.iload_n 0, 1) := by decide +kernel
theorem dJ6_getChars_ba4f3_29 : decode cJ6_getChars_ba4f3 29 = .ok (.bipush 100, 2) := by decide +kernel
theorem dJ6_getChars_ba4f3_31 : decode cJ6_getChars_ba4f3 31 = .ok (.idiv, 1) := by decide +kernel
theorem dJ6_getChars_ba4f3_32 : decode cJ6_getChars_ba4f3 32 = .ok (.istore_n 3, 1) := by decide +kernel
theorem dJ6_getChars_ba4f3_33 : decode cJ6_getChars_ba4f3 33 = .ok (.iload_n 3, 1) := by decide +kernel
theorem dJ6_getChars_ba4f3_34 : decode cJ6_getChars_ba4f3 34 = .ok (.bipush 100, 2) := by decide +kernel
theorem dJ6_getChars_ba4f3_36 : decode cJ6_getChars_ba4f3 36 = .ok (.imul, 1) := by decide +kernel
theorem dJ6_getChars_ba4f3_37 : decode cJ6_getChars_ba4f3 37 = .ok (.iload_n 0, 1) := by decide +kernel
theorem dJ6_getChars_ba4f3_38 : decode cJ6_getChars_ba4f3 38 = .ok (.isub, 1) := by decide +kernel
theorem dJ6_getChars_ba4f3_39 : decode cJ6_getChars_ba4f3 39 = .ok (.istore 4, 2) := by decide +kernel
theorem dJ6_getChars_ba4f3_41 : decode cJ6_getChars_ba4f3 41 = .ok (.iload_n 3, 1) := by decide +kernel
theorem dJ6_getChars_ba4f3_42 : decode cJ6_getChars_ba4f3 42 = .ok (.istore_n 0, 1) := by decide +kernel
theorem dJ6_getChars_ba4f3_43 : decode cJ6_getChars_ba4f3 43 = .ok (.aload_n 2, 1) := by decide +kernel
theorem dJ6_getChars_ba4f3_44 : decode cJ6_getChars_ba4f3 44 = .ok (.iinc 5 (-1), 3) := by decide +kernel
theorem dJ6_getChars_ba4f3_47 : decode cJ6_getChars_ba4f3 47 = .ok (.iload 5, 2) := by decide +kernel
theorem dJ6_getChars_ba4f3_49 : decode cJ6_getChars_ba4f3 49 = .ok (.getstatic 83, 3) := by decide +kernel
theorem dJ6_getChars_ba4f3_52 : decode cJ6_getChars_ba4f3 52 = .ok (.iload 4, 2) := by decide +kernel
theorem dJ6_getChars_ba4f3_54 : decode cJ6_getChars_ba4f3 54 = .ok (.baload, 1) := by decide +kernel
theorem dJ6_getChars_ba4f3_55 : decode cJ6_getChars_ba4f3 55 = .ok (.bastore, 1) := by decide +kernel
theorem dJ6_getChars_ba4f3_56 : decode cJ6_getChars_ba4f3 56 = .ok (.aload_n 2, 1) := by decide +kernel
theorem dJ6_getChars_ba4f3_57 : decode cJ6_getChars_ba4f3 57 = .ok (.iinc 5 (-1), 3) := by decide +kernel
theorem dJ6_getChars_ba4f3_60 : decode cJ6_getChars_ba4f3 60 = .ok (.iload 5, 2) := by decide +kernel
theorem dJ6_getChars_ba4f3_62 : decode cJ6_getChars_ba4f3 62 = .ok (.getstatic 87, 3) := by decide +kernel
theorem dJ6_getChars_ba4f3_65 : decode cJ6_getChars_ba4f3 65 = .ok (.iload 4, 2) := by decide +kernel
theorem dJ6_getChars_ba4f3_67 : decode cJ6_getChars_ba4f3 67 = .ok (.baload, 1) := by decide +kernel
theorem dJ6_getChars_ba4f3_68 : decode cJ6_getChars_ba4f3 68 = .ok (.bastore, 1) := by decide +kernel
theorem dJ6_getChars_ba4f3_69 : decode cJ6_getChars_ba4f3 69 = .ok (.goto (-47), 3) := by decide +kernel
theorem dJ6_getChars_ba4f3_72 : decode cJ6_getChars_ba4f3 72 = .ok (.aload_n 2, 1) := by decide +kernel
theorem dJ6_getChars_ba4f3_73 : decode cJ6_getChars_ba4f3 73 = .ok (.iinc 5 (-1), 3) := by decide +kernel
theorem dJ6_getChars_ba4f3_76 : decode cJ6_getChars_ba4f3 76 = .ok (.iload 5, 2) := by decide +kernel
theorem dJ6_getChars_ba4f3_78 : decode cJ6_getChars_ba4f3 78 = .ok (.getstatic 83, 3) := by decide +kernel
theorem dJ6_getChars_ba4f3_81 : decode cJ6_getChars_ba4f3 81 = .ok (.iload_n 0, 1) := by decide +kernel
theorem dJ6_getChars_ba4f3_82 : decode cJ6_getChars_ba4f3 82 = .ok (.ineg, 1) := by decide +kernel
theorem dJ6_getChars_ba4f3_83 : decode cJ6_getChars_ba4f3 83 = .ok (.baload, 1) := by decide +kernel
theorem dJ6_getChars_ba4f3_84 : decode cJ6_getChars_ba4f3 84 = .ok (.bastore, 1) := by decide +kernel
theorem dJ6_getChars_ba4f3_85 : decode cJ6_getChars_ba4f3 85 = .ok (.iload_n 0, 1) := by decide +kernel
theorem dJ6_getChars_ba4f3_86 : decode cJ6_getChars_ba4f3 86 = .ok (.bipush (-9), 2) := by decide +kernel
theorem dJ6_getChars_ba4f3_88 : decode cJ6_getChars_ba4f3 88 = .ok (.if_icmp .ge 16, 3) := by decide +kernel
theorem dJ6_getChars_ba4f3_91 : decode cJ6_getChars_ba4f3 91 = .ok (.aload_n 2, 1) := by decide +kernel
theorem dJ6_getChars_ba4f3_92 : decode cJ6_getChars_ba4f3 92 = .ok (.iinc 5 (-1), 3) := by decide +kernel
theorem dJ6_getChars_ba4f3_95 : decode cJ6_getChars_ba4f3 95 = .ok (.iload 5, 2) := by decide +kernel
theorem dJ6_getChars_ba4f3_97 : decode cJ6_getChars_ba4f3 97 = .ok (.getstatic 87, 3) := by decide +kernel
theorem dJ6_getChars_ba4f3_100 : decode cJ6_getChars_ba4f3 100 = .ok (.iload_n 0, 1) := by decide +kernel
theorem dJ6_getChars_ba4f3_101 : decode cJ6_getChars_ba4f3 101 = .ok (.ineg, 1) := by decide +kernel
theorem dJ6_getChars_ba4f3_102 : decode cJ6_getChars_ba4f3 102 = .ok (.baload, 1) := by decide +kernel
theorem dJ6_getChars_ba4f3_103 : decode cJ6_getChars_ba4f3 103 = .ok (.bastore, 1) := by decide +kernel
theorem dJ6_getChars_ba4f3_104 : decode cJ6_getChars_ba4f3 104 = .ok (.iload 6, 2) := by decide +kernel
theorem dJ6_getChars_ba4f3_106 : decode cJ6_getChars_ba4f3 106 = .ok (.ifCond .eq 12, 3) := by decide +kernel
theorem dJ6_getChars_ba4f3_109 : decode cJ6_getChars_ba4f3 109 = .ok (.aload_n 2, 1) := by decide +kernel
theorem dJ6_getChars_ba4f3_110 : decode cJ6_getChars_ba4f3 110 = .ok (.iinc 5 (-1), 3) := by decide +kernel
theorem dJ6_getChars_ba4f3_113 : decode cJ6_getChars_ba4f3 113 = .ok (.iload 5, 2) := by decide +kernel
theorem dJ6_getChars_ba4f3_115 : decode cJ6_getChars_ba4f3 115 = .ok (.bipush 45, 2) := by decide +kernel
theorem dJ6_getChars_ba4f3_117 : decode cJ6_getChars_ba4f3 117 = .ok (.bastore, 1) := by decide +kernel
theorem dJ6_getChars_ba4f3_118 : decode cJ6_getChars_ba4f3 118 = .ok (.iload 5, 2) := by decide +kernel
theorem dJ6_getChars_ba4f3_120 : decode cJ6_getChars_ba4f3 120 = .ok (.ireturn, 1) := by decide +kernel
set_option maxRecDepth 1000000 in
theorem tc_sz : (Jvm.Cond.code ({ cls := "java/lang/Integer", name := "stringSize", desc := "(I)I" } : Jvm.MethodName) prog_17_method_13_code (4 : Nat) (Option.some Jvm.ClassFile.FieldType.int)) ∈ lw_tbl := am_t1 (List.mem_of_getElem? (i := 1317) (by decide +kernel))
set_option maxRecDepth 1000000 in
theorem tc_gch : (Jvm.Cond.code ({ cls := "java/lang/Integer", name := "getChars", desc := "(II[B)I" } : Jvm.MethodName) prog_17_method_12_code (7 : Nat) (Option.some Jvm.ClassFile.FieldType.int)) ∈ lw_tbl := am_t1 (List.mem_of_getElem? (i := 1320) (by decide +kernel))
set_option maxRecDepth 1000000 in
theorem tS_sz : (Jvm.Cond.static ({ cls := "java/lang/Integer", name := "stringSize", desc := "(I)I" } : Jvm.MethodName)) ∈ lw_tbl := am_t1 (List.mem_of_getElem? (i := 1316) (by decide +kernel))
set_option maxRecDepth 1000000 in
theorem tS_gch : (Jvm.Cond.static ({ cls := "java/lang/Integer", name := "getChars", desc := "(II[B)I" } : Jvm.MethodName)) ∈ lw_tbl := am_t1 (List.mem_of_getElem? (i := 1319) (by decide +kernel))
set_option maxRecDepth 1000000 in
theorem ti_I : (Jvm.Cond.initialized "java/lang/Integer") ∈ lw_tbl := am_t1 (List.mem_of_getElem? (i := 24) (by decide +kernel))
set_option maxRecDepth 1000000 in
theorem tf_I83 : (Jvm.Cond.fieldLink "java/lang/Integer" (83 : Nat) "java/lang/Integer" "DigitOnes" "[B") ∈ lw_tbl := am_t1 (List.mem_of_getElem? (i := 1321) (by decide +kernel))
set_option maxRecDepth 1000000 in
theorem tf_I87 : (Jvm.Cond.fieldLink "java/lang/Integer" (87 : Nat) "java/lang/Integer" "DigitTens" "[B") ∈ lw_tbl := am_t1 (List.mem_of_getElem? (i := 1323) (by decide +kernel))
/-- the digits' rows: bytes 0..99 -/
def sb_di1 (B0 : Nat) (nm : String) (U : State) (H : Heap) : Prop := ∃ (d : Nat) (f : Nat → Int32), va_Z "java/lang/Integer" nm "[B" (.ref d) (cm_A B0) U H ∧ va_T .byte d 100 (fun j => .int (f j)) (cm_A B0) U H
def sb_di (B0 : Nat) (U : State) (H : Heap) : Prop := sb_di1 B0 "DigitOnes" U H ∧ sb_di1 B0 "DigitTens" U H
/-- how many digits -/
abbrev sb_sz (x : Nat) : Nat := if x < 10 then 1 else 2
theorem dg_10 : ∀ x, x < 30 → ((-(nI x) ≤ (-10 : Int32)) ↔ 10 ≤ x) := by decide +kernel
theorem dg_100 : ∀ x, x < 30 → (-100 : Int32) < -(nI x) := by decide +kernel
theorem dg_100n : ∀ x, x < 30 → ¬ (-(nI x) ≤ (-100 : Int32)) := by decide +kernel
theorem dg_9 : ∀ x, x < 30 → ((-9 : Int32) ≤ -(nI x) ↔ x < 10) := by decide +kernel
theorem dg_neg : ∀ x, x < 30 → -(-(nI x)) = nI x := by decide +kernel
theorem dg_p : ∀ x, x < 30 → ¬ nI x < 0 := by decide +kernel
theorem dg_p2 : ∀ x, x < 30 → (0 : Int32) ≤ nI x := by decide +kernel
theorem nI_dec {j : Nat} : nI (j + 1) + Int32.ofInt (-1) = nI j := by
  have e : (1 : Int32) + Int32.ofInt (-1) = 0 := by decide
  rw [← nI_1, Int32.add_assoc, e, Int32.add_zero]
section SP98v
variable {p : Program} {l : Launch} {e : Env} {Rm : Room} {s : State} {m : MethodId} {args : Array Value} {below : List Frame} {meth : Method} {c : Code} {Q : State → Prop} {H : Heap} {locs : List Loc} {cs ss pc B0 : Nat} {ls : Array Slot}
variable {own : String} {bc : ByteArray} {nL : Nat} {rt : Option FieldType} {st : List Value} {D : va_G} {cB : ClassId} {a v n mm x k : Nat}
theorem sb_di1_on {nm : String} {U V : State} {H H2 : Heap} (hv : U.vm.Alike V.vm) (hq : ∀ q, q < H.size → q < B0 → H2[q]? = H[q]?) (h : sb_di1 B0 nm U H) : sb_di1 B0 nm V H2 := by
  obtain ⟨d, f, h1, h2⟩ := h
  exact ⟨d, f, va_Z.moved hv (h1.kept (fun a h1 h2 => hq a h1 (Nat.not_le.mp h2))), va_T.moved hv (h2.kept (fun a h1 h2 => hq a h1 (Nat.not_le.mp h2)))⟩
theorem sb_di_on {U V : State} {H H2 : Heap} (hv : U.vm.Alike V.vm) (hq : ∀ q, q < H.size → q < B0 → H2[q]? = H[q]?) (h : sb_di B0 U H) : sb_di B0 V H2 := ⟨sb_di1_on hv hq h.1, sb_di1_on hv hq h.2⟩
/-- a digit is laid: buf[--charPos] = row[-(-x)] -/
theorem sb_dis (F : sb_fr p s m args meth c own bc nL rt) {nm : String} {index : Nat} {lv lv' : List (Nat × Value)} {j z i0 : Nat} (hd : sb_di1 B0 nm s H) (hx : x < 30) (hK : sb_K D cB s) (hY : sb_Y cB v mm H) (hj : j < mm) (hmm : mm ≤ 4096) (hlink : Cond.fieldLink own index "java/lang/Integer" nm "[B" ∈ lw_tbl) (hl : lv_has ls nL lv) (h2 : ls[2]? = some (.val (.ref v))) (h0 : lv[i0]? = some (0, .int (-(nI x)))) (h5 : lv[z]? = some (5, .int (nI (j + 1)))) (hn5 : 5 < nL) (hl2 : (5, Value.int (nI j)) :: lv.filter (fun q => !(q.1 == 5) && !(q.1 + 1 == 5 && q.2.category == 2)) = lv') (hi0 : lv'[i0 + 1]? = some (0, .int (-(nI x)))) (h50 : lv'[0]? = some (5, .int (nI j)))
    (d0 : decode bc pc = .ok (.aload_n 2, 1)) (d1 : decode bc (pc + 1) = .ok (.iinc 5 (-1), 3)) (d2 : decode bc (pc + 1 + 3) = .ok (.iload 5, 2)) (d3 : decode bc (pc + 1 + 3 + 2) = .ok (.getstatic index, 3)) (d4 : decode bc (pc + 1 + 3 + 2 + 3) = .ok (.iload_n 0, 1)) (d5 : decode bc (pc + 1 + 3 + 2 + 3 + 1) = .ok (.ineg, 1)) (d6 : decode bc (pc + 1 + 3 + 2 + 3 + 1 + 1) = .ok (.baload, 1)) (d7 : decode bc (pc + 1 + 3 + 2 + 3 + 1 + 1 + 1) = .ok (.bastore, 1))
    (kk : ∀ (ls' : Array Slot) (H1 : Heap) (i : Nat), lv_has ls' nL lv' → sb_Y cB v mm H1 → H1.size = H.size → (∀ q, q ≠ v → H1[q]? = H[q]?) → W p l e Rm s m args below meth c H1 (locs ++ [⟨v, i⟩]) cs ss Q (F0 m (pc + 1 + 3 + 2 + 3 + 1 + 1 + 1 + 1) ls' st)) : W p l e Rm s m args below meth c H locs cs ss Q (F0 m pc ls st) := by
  obtain ⟨hx', hb, hml, hr, hlocks, hts, hown⟩ := id F
  obtain ⟨d, f, hZ, hT⟩ := hd
  obtain ⟨cell, g1, g2, g3, g4, g5, g6, -⟩ := id hT
  refine lv_aload_n hx' hb d0 rfl h2 ?_
  refine lv_iinc (lv' := lv') hx' hb d1 hl h5 nI_dec hn5 hl2 (fun ls' hl' => ?_)
  refine lv_iload hx' hb d2 (lv_at hl' 0 h50) ?_
  refine sb_gets F hZ hlink d3 ?_
  refine lv_iload_n hx' hb d4 rfl (lv_at hl' (i0 + 1) hi0) ?_
  refine lv_ineg hx' hb d5 ?_
  rw [dg_neg x hx]
  refine W.bald (v := .int (f x)) hx' hb g1 g2 g3 (fun q => ?_) (by rw [nI_clamp (by omega)]; exact g6 x (by omega)) rfl rfl d6 ?_
  · rcases q with q | q
    · exact dq_p (by omega) q
    · rw [nI_clamp (by omega)] at q
      omega
  · exact sb_bst F hK hY hj hmm d7 (fun H1 i q1 q2 q3 => kk ls' H1 i hl' q1 q2 q3)
end SP98v
section SP98v2
variable {l : Launch} {B0 : Nat} {D : va_G} {cB : ClassId} {a v n mm x k : Nat}
/-- Integer.stringSize -/
theorem tx_sz (hx : x < 30) : sb_met l B0 yJ6_stringSize_0f7a4 cJ6_stringSize_0f7a4 4 (some .int) 1 0 0 [.int (nI x)] (fun _ => True) (fun r st t => t.heap = st.heap ∧ r = some (.int (nI (sb_sz x)))) sb_no := by
  refine sb_of (by decide) (fun p e s m below meth c F hP => ?_)
  obtain ⟨hx', hb, hml, hr, hlocks, hts, hown⟩ := id F
  have hl := lv_entry ([.int (nI x)]) (n := 4) (Nat.le_of_ble_eq_true rfl)
  rw [lg_entry_eq]
  generalize (lg_sl ([.int (nI x)]) ++ List.replicate (4 - (lg_sl ([.int (nI x)])).length) Slot.unset).toArray = ls at hl ⊢
  have hl : lv_has ls 4 [(0, .int (nI x))] := hl
  refine lv_iconst (v := 1) hx' hb dJ6_stringSize_0f7a4_0 rfl ?_
  refine lv_istore_n (lv' := [(1, .int 1), (0, .int (nI x))]) hx' hb dJ6_stringSize_0f7a4_1 rfl hl (by decide) rfl (fun ls hl => ?_)
  refine lv_iload_n hx' hb dJ6_stringSize_0f7a4_2 rfl (lv_at hl 1 rfl) ?_
  refine lv_if_lt (tgt := 11) hx' hb dJ6_stringSize_0f7a4_3 rfl (fun w => absurd w (dg_p x hx)) (fun _ => ?_)
  refine lv_iconst (v := 0) hx' hb dJ6_stringSize_0f7a4_6 rfl ?_
  refine lv_istore_n (lv' := [(1, .int 0), (0, .int (nI x))]) hx' hb dJ6_stringSize_0f7a4_7 rfl hl (by decide) rfl (fun ls hl => ?_)
  refine lv_iload_n hx' hb dJ6_stringSize_0f7a4_8 rfl (lv_at hl 1 rfl) ?_
  refine lv_ineg hx' hb dJ6_stringSize_0f7a4_9 ?_
  refine lv_istore_n (lv' := [(0, .int (-(nI x))), (1, .int 0)]) hx' hb dJ6_stringSize_0f7a4_10 rfl hl (by decide) rfl (fun ls hl => ?_)
  refine lv_bipush (v := -10) hx' hb dJ6_stringSize_0f7a4_11 rfl ?_
  refine lv_istore_n (lv' := [(2, .int (-10)), (0, .int (-(nI x))), (1, .int 0)]) hx' hb dJ6_stringSize_0f7a4_13 rfl hl (by decide) rfl (fun ls hl => ?_)
  refine lv_iconst (v := 1) hx' hb dJ6_stringSize_0f7a4_14 rfl ?_
  refine lv_istore_n (lv' := [(3, .int 1), (2, .int (-10)), (0, .int (-(nI x))), (1, .int 0)]) hx' hb dJ6_stringSize_0f7a4_15 rfl hl (by decide) rfl (fun ls hl => ?_)
  refine lv_iload_n hx' hb dJ6_stringSize_0f7a4_16 rfl (lv_at hl 0 rfl) ?_
  refine lv_bipush (v := 10) hx' hb dJ6_stringSize_0f7a4_17 rfl ?_
  refine lv_icmp_ge (tgt := 42) hx' hb dJ6_stringSize_0f7a4_19 rfl (fun w => absurd w (by decide)) (fun _ => ?_)
  refine lv_iload_n hx' hb dJ6_stringSize_0f7a4_22 rfl (lv_at hl 2 rfl) ?_
  refine lv_iload_n hx' hb dJ6_stringSize_0f7a4_23 rfl (lv_at hl 1 rfl) ?_
  refine lv_icmp_le (tgt := 31) hx' hb dJ6_stringSize_0f7a4_24 rfl (fun w => ?_) (fun w => ?_)
  · rw [dg_10 x hx] at w
    refine lv_bipush (v := 10) hx' hb dJ6_stringSize_0f7a4_31 rfl ?_
    refine lv_iload_n hx' hb dJ6_stringSize_0f7a4_33 rfl (lv_at hl 1 rfl) ?_
    refine lv_imul hx' hb dJ6_stringSize_0f7a4_34 ?_
    rw [show (10 : Int32) * (-10) = -100 by decide]
    refine lv_istore_n (lv' := [(2, .int (-100)), (3, .int 1), (0, .int (-(nI x))), (1, .int 0)]) hx' hb dJ6_stringSize_0f7a4_35 rfl hl (by decide) rfl (fun ls hl => ?_)
    refine lv_iinc (k := 1) (v := 2) (lv' := [(3, .int 2), (2, .int (-100)), (0, .int (-(nI x))), (1, .int 0)]) hx' hb dJ6_stringSize_0f7a4_36 hl rfl (by decide) (by decide) rfl (fun ls hl => ?_)
    refine lv_goto (tgt := 16) hx' hb dJ6_stringSize_0f7a4_39 rfl ?_
    refine lv_iload_n hx' hb dJ6_stringSize_0f7a4_16 rfl (lv_at hl 0 rfl) ?_
    refine lv_bipush (v := 10) hx' hb dJ6_stringSize_0f7a4_17 rfl ?_
    refine lv_icmp_ge (tgt := 42) hx' hb dJ6_stringSize_0f7a4_19 rfl (fun w => absurd w (by decide)) (fun _ => ?_)
    refine lv_iload_n hx' hb dJ6_stringSize_0f7a4_22 rfl (lv_at hl 2 rfl) ?_
    refine lv_iload_n hx' hb dJ6_stringSize_0f7a4_23 rfl (lv_at hl 1 rfl) ?_
    refine lv_icmp_le (tgt := 31) hx' hb dJ6_stringSize_0f7a4_24 rfl (fun w => absurd w (dg_100n x hx)) (fun _ => ?_)
    refine lv_iload_n hx' hb dJ6_stringSize_0f7a4_27 rfl (lv_at hl 0 rfl) ?_
    refine lv_iload_n hx' hb dJ6_stringSize_0f7a4_28 rfl (lv_at hl 3 rfl) ?_
    refine lv_iadd hx' hb dJ6_stringSize_0f7a4_29 ?_
    have ez : (2 : Int32) + 0 = nI (sb_sz x) := by
      unfold sb_sz
      rw [if_neg (by omega)]
      decide
    rw [ez]
    exact W.iret hx' hb hr (fun t e1 e2 => ⟨_, rfl, ⟨e1, rfl⟩, by rw [e1]; exact Nat.le_refl _, fun q _ _ => by rw [e1]⟩) (fun q hq => by cases hq) dJ6_stringSize_0f7a4_30
  · rw [dg_10 x hx] at w
    refine lv_iload_n hx' hb dJ6_stringSize_0f7a4_27 rfl (lv_at hl 0 rfl) ?_
    refine lv_iload_n hx' hb dJ6_stringSize_0f7a4_28 rfl (lv_at hl 3 rfl) ?_
    refine lv_iadd hx' hb dJ6_stringSize_0f7a4_29 ?_
    have ez : (1 : Int32) + 0 = nI (sb_sz x) := by
      unfold sb_sz
      rw [if_pos (by omega)]
      decide
    rw [ez]
    exact W.iret hx' hb hr (fun t e1 e2 => ⟨_, rfl, ⟨e1, rfl⟩, by rw [e1]; exact Nat.le_refl _, fun q _ _ => by rw [e1]⟩) (fun q hq => by cases hq) dJ6_stringSize_0f7a4_30
/-- Integer.getChars -/
theorem tx_gch {q0 : Nat} (hB0 : B0 ≤ v) (hx : x < 30) (hq0 : sb_sz x ≤ q0) (hk : q0 ≤ mm) (hmm : mm ≤ 4096) : sb_met l B0 yJ6_getChars_ba4f3 cJ6_getChars_ba4f3 7 (some .int) 1 0 0 [.int (nI x), .int (nI q0), .ref v] (fun U => sb_K D cB U ∧ sb_Y cB v mm U.heap ∧ sb_di B0 U U.heap) (fun r st t => (∃ y, r = some (.int y)) ∧ sb_Y cB v mm t.heap) (fun _ q => q = v) := by
  have h1z : 1 ≤ sb_sz x := by
    unfold sb_sz
    split <;> omega
  obtain ⟨j, rfl⟩ : ∃ j, q0 = j + 1 := ⟨q0 - 1, by omega⟩
  refine sb_of (by decide) (fun p e s m below meth c F hP => ?_)
  obtain ⟨hx', hb, hml, hr, hlocks, hts, hown⟩ := id F
  obtain ⟨hK, hY, hD1, hD2⟩ := hP
  have hl := lv_entry ([.int (nI x), .int (nI (j + 1)), .ref v]) (n := 7) (Nat.le_of_ble_eq_true rfl)
  rw [lg_entry_eq]
  generalize (lg_sl ([.int (nI x), .int (nI (j + 1)), .ref v]) ++ List.replicate (7 - (lg_sl ([.int (nI x), .int (nI (j + 1)), .ref v])).length) Slot.unset).toArray = ls at hl ⊢
  have hl : lv_has ls 7 [(0, .int (nI x)), (1, .int (nI (j + 1))), (2, .ref v)] := hl
  refine lv_iload_n hx' hb dJ6_getChars_ba4f3_0 rfl (lv_at hl 1 rfl) ?_
  refine lv_istore (lv' := [(5, .int (nI (j + 1))), (0, .int (nI x)), (1, .int (nI (j + 1))), (2, .ref v)]) hx' hb dJ6_getChars_ba4f3_1 hl (by decide) rfl (fun ls hl => ?_)
  refine lv_iload_n hx' hb dJ6_getChars_ba4f3_3 rfl (lv_at hl 1 rfl) ?_
  refine lv_if_ge (tgt := 11) hx' hb dJ6_getChars_ba4f3_4 rfl (fun _ => ?_) (fun w => absurd (dg_p2 x hx) w)
  refine lv_iconst (v := 0) hx' hb dJ6_getChars_ba4f3_11 rfl ?_
  refine lv_istore (lv' := [(6, .int 0), (5, .int (nI (j + 1))), (0, .int (nI x)), (1, .int (nI (j + 1))), (2, .ref v)]) hx' hb dJ6_getChars_ba4f3_12 hl (by decide) rfl (fun ls hl => ?_)
  refine lv_iload hx' hb dJ6_getChars_ba4f3_14 (lv_at hl 0 rfl) ?_
  refine lv_if_ne (tgt := 22) hx' hb dJ6_getChars_ba4f3_16 rfl (fun w => absurd rfl w) (fun _ => ?_)
  refine lv_iload_n hx' hb dJ6_getChars_ba4f3_19 rfl (lv_at hl 2 rfl) ?_
  refine lv_ineg hx' hb dJ6_getChars_ba4f3_20 ?_
  refine lv_istore_n (lv' := [(0, .int (-(nI x))), (6, .int 0), (5, .int (nI (j + 1))), (1, .int (nI (j + 1))), (2, .ref v)]) hx' hb dJ6_getChars_ba4f3_21 rfl hl (by decide) rfl (fun ls hl => ?_)
  refine lv_iload_n hx' hb dJ6_getChars_ba4f3_22 rfl (lv_at hl 0 rfl) ?_
  refine lv_bipush (v := -100) hx' hb dJ6_getChars_ba4f3_23 rfl ?_
  refine lv_icmp_gt (tgt := 72) hx' hb dJ6_getChars_ba4f3_25 rfl (fun _ => ?_) (fun w => absurd (dg_100 x hx) w)
  have hend : ∀ (ls : Array Slot) (H : Heap) (locs : List Loc) (y : Int32), (∃ (i : Nat) (lv : List (Nat × Value)), lv[i]? = some (6, Value.int 0) ∧ lv_has ls 7 lv) → (∃ (i : Nat) (lv : List (Nat × Value)), lv[i]? = some (5, Value.int y) ∧ lv_has ls 7 lv) → sb_Y cB v mm H → H.size = s.heap.size → (∀ q, q ≠ v → H[q]? = s.heap[q]?) → (∀ q ∈ locs, B0 ≤ q.base) → W p l e (sb_room 1 0 0) s m #[.int (nI x), .int (nI (j + 1)), .ref v] below meth c H locs 0 0 (MQ below (sb_Q (fun r st t => (∃ y, r = some (.int y)) ∧ sb_Y cB v mm t.heap) (fun _ q => q = v)) #[.int (nI x), .int (nI (j + 1)), .ref v] s 0 0 (cm_A B0)) (F0 m 104 ls []) := by
    intro ls H locs y h6 h5 hY2 z o hL
    obtain ⟨i6, lv6, g6, g7⟩ := h6
    obtain ⟨i5, lv5, g8, g9⟩ := h5
    refine lv_iload hx' hb dJ6_getChars_ba4f3_104 (lv_at g7 i6 g6) ?_
    refine lv_if_eq (tgt := 118) hx' hb dJ6_getChars_ba4f3_106 rfl (fun _ => ?_) (fun w => absurd rfl w)
    refine lv_iload hx' hb dJ6_getChars_ba4f3_118 (lv_at g9 i5 g8) ?_
    exact W.iret hx' hb hr (fun t e1 e2 => ⟨_, rfl, ⟨⟨_, rfl⟩, by rw [e1]; exact hY2⟩, by rw [e1, z]; exact Nat.le_refl _, fun q _ h => by rw [e1]; exact o q h⟩) hL dJ6_getChars_ba4f3_120
  refine sb_dis (x := x) (j := j) (z := 2) (i0 := 0) (lv' := [(5, .int (nI j)), (0, .int (-(nI x))), (6, .int 0), (1, .int (nI (j + 1))), (2, .ref v)]) F hD1 hx hK hY (by omega) hmm tf_I83 hl (lv_at hl 4 rfl) rfl rfl (by decide) rfl rfl rfl dJ6_getChars_ba4f3_72 dJ6_getChars_ba4f3_73 dJ6_getChars_ba4f3_76 dJ6_getChars_ba4f3_78 dJ6_getChars_ba4f3_81 dJ6_getChars_ba4f3_82 dJ6_getChars_ba4f3_83 dJ6_getChars_ba4f3_84 (fun ls H1 i hl q1 q2 q3 => ?_)
  have hL1 : ∀ q ∈ ([] ++ [⟨v, i⟩] : List Loc), B0 ≤ q.base := fun q hq => (List.mem_append.mp hq).elim (fun h => by cases h) (fun h => by cases List.mem_singleton.mp h; exact hB0)
  refine lv_iload_n hx' hb dJ6_getChars_ba4f3_85 rfl (lv_at hl 1 rfl) ?_
  refine lv_bipush (v := -9) hx' hb dJ6_getChars_ba4f3_86 rfl ?_
  refine lv_icmp_ge (tgt := 104) hx' hb dJ6_getChars_ba4f3_88 rfl (fun _ => ?_) (fun w => ?_)
  · exact hend ls H1 _ (nI j) ⟨2, _, rfl, hl⟩ ⟨0, _, rfl, hl⟩ q1 q2 q3 hL1
  · rw [dg_9 x hx] at w
    obtain ⟨j2, ej2⟩ : ∃ j2, j = j2 + 1 := ⟨j - 1, by
      have h2 : sb_sz x = 2 := if_neg w
      omega⟩
    subst ej2
    have hD3 : sb_di1 B0 "DigitTens" s H1 := sb_di1_on (Vm.Alike.refl _) (fun q _ h => q3 q (by omega)) hD2
    refine sb_dis (x := x) (j := j2) (z := 1) (i0 := 0) (lv := [(0, .int (-(nI x))), (5, .int (nI (j2 + 1))), (6, .int 0), (2, .ref v)]) (lv' := [(5, .int (nI j2)), (0, .int (-(nI x))), (6, .int 0), (2, .ref v)]) F hD3 hx hK q1 (by omega) hmm tf_I87 (lv_sub hl [1, 0, 2, 4] rfl) (lv_at hl 4 rfl) rfl rfl (by decide) rfl rfl rfl dJ6_getChars_ba4f3_91 dJ6_getChars_ba4f3_92 dJ6_getChars_ba4f3_95 dJ6_getChars_ba4f3_97 dJ6_getChars_ba4f3_100 dJ6_getChars_ba4f3_101 dJ6_getChars_ba4f3_102 dJ6_getChars_ba4f3_103 (fun ls H2 i2 hl r1 r2 r3 => ?_)
    exact hend ls H2 _ (nI j2) ⟨2, _, rfl, hl⟩ ⟨0, _, rfl, hl⟩ r1 (r2.trans q2) (fun q h => (r3 q h).trans (q3 q h)) (fun q hq => (List.mem_append.mp hq).elim (hL1 q) (fun h => by cases List.mem_singleton.mp h; exact hB0))
end SP98v2
