/-! text(): what is read of strings -/
theorem dJ0_coder_7d493_0 : decode cJ0_coder_7d493 0 = .ok (.getstatic 38, 3) := by decide +kernel
theorem dJ0_coder_7d493_3 : decode cJ0_coder_7d493 3 = .ok (.ifCond .eq 10, 3) := by decide +kernel
theorem dJ0_coder_7d493_6 : decode cJ0_coder_7d493 6 = .ok (.aload_n 0, 1) := by decide +kernel
theorem dJ0_coder_7d493_7 : decode cJ0_coder_7d493 7 = .ok (.getfield 15, 3) := by decide +kernel
theorem dJ0_coder_7d493_10 : decode cJ0_coder_7d493 10 = .ok (.goto 4, 3) := by decide +kernel
theorem dJ0_coder_7d493_13 : decode cJ0_coder_7d493 13 = .ok (.iconst 1, 1) := by decide +kernel
theorem dJ0_coder_7d493_14 : decode cJ0_coder_7d493 14 = .ok (.ireturn, 1) := by decide +kernel
theorem dJ0_isLatin1_aae02_0 : decode cJ0_isLatin1_aae02 0 = .ok (.getstatic 38, 3) := by decide +kernel
theorem dJ0_isLatin1_aae02_3 : decode cJ0_isLatin1_aae02 3 = .ok (.ifCond .eq 14, 3) := by decide +kernel
theorem dJ0_isLatin1_aae02_6 : decode cJ0_isLatin1_aae02 6 = .ok (.aload_n 0, 1) := by decide +kernel
theorem dJ0_isLatin1_aae02_7 : decode cJ0_isLatin1_aae02 7 = .ok (.getfield 15, 3) := by decide +kernel
theorem dJ0_isLatin1_aae02_10 : decode cJ0_isLatin1_aae02 10 = .ok (.ifCond .ne 7, 3) := by decide +kernel
theorem dJ0_isLatin1_aae02_13 : decode cJ0_isLatin1_aae02 13 = .ok (.iconst 1, 1) := by decide +kernel
theorem dJ0_isLatin1_aae02_14 : decode cJ0_isLatin1_aae02 14 = .ok (.goto 4, 3) := by decide +kernel
theorem dJ0_isLatin1_aae02_17 : decode cJ0_isLatin1_aae02 17 = .ok (.iconst 0, 1) := by decide +kernel
theorem dJ0_isLatin1_aae02_18 : decode cJ0_isLatin1_aae02 18 = .ok (.ireturn, 1) := by decide +kernel
theorem dJ0_length_8abf5_0 : decode cJ0_length_8abf5 0 = .ok (.aload_n 0, 1) := by decide +kernel
theorem dJ0_length_8abf5_1 : decode cJ0_length_8abf5 1 = .ok (.getfield 9, 3) := by decide +kernel
theorem dJ0_length_8abf5_4 : decode cJ0_length_8abf5 4 = .ok (.arraylength, 1) := by decide +kernel
theorem dJ0_length_8abf5_5 : decode cJ0_length_8abf5 5 = .ok (.aload_n 0, 1) := by decide +kernel
theorem dJ0_length_8abf5_6 : decode cJ0_length_8abf5 6 = .ok (.invokevirtual 335, 3) := by decide +kernel
theorem dJ0_length_8abf5_9 : decode cJ0_length_8abf5 9 = .ok (.ishr, 1) := by decide +kernel
theorem dJ0_length_8abf5_10 : decode cJ0_length_8abf5 10 = .ok (.ireturn, 1) := by decide +kernel
theorem dJ0_charAt_5068e_0 : decode cJ0_charAt_5068e 0 = .ok (.aload_n 0, 1) := by decide +kernel
theorem dJ0_charAt_5068e_1 : decode cJ0_charAt_5068e 1 = .ok (.invokevirtual 492, 3) := by decide +kernel
theorem dJ0_charAt_5068e_4 : decode cJ0_charAt_5068e 4 = .ok (.ifCond .eq 12, 3) := by decide +kernel
theorem dJ0_charAt_5068e_7 : decode cJ0_charAt_5068e 7 = .ok (.aload_n 0, 1) := by decide +kernel
theorem dJ0_charAt_5068e_8 : decode cJ0_charAt_5068e 8 = .ok (.getfield 9, 3) := by decide +kernel
theorem dJ0_charAt_5068e_11 : decode cJ0_charAt_5068e 11 = .ok (.iload_n 1, 1) := by decide +kernel
theorem dJ0_charAt_5068e_12 : decode cJ0_charAt_5068e 12 = .ok (.invokestatic 495, 3) := by decide +kernel
theorem dJ0_charAt_5068e_15 : decode cJ0_charAt_5068e 15 = .ok (.ireturn, 1) := by decide +kernel
theorem dJ0_charAt_5068e_16 : decode cJ0_charAt_5068e 16 = .ok (.aload_n 0, 1) := by decide +kernel
theorem dJ0_charAt_5068e_17 : decode cJ0_charAt_5068e 17 = .ok (.getfield 9, 3) := by decide +kernel
theorem dJ0_charAt_5068e_20 : decode cJ0_charAt_5068e 20 = .ok (.iload_n 1, 1) := by decide +kernel
theorem dJ0_charAt_5068e_21 : decode cJ0_charAt_5068e 21 = .ok (.invokestatic 498, 3) := by decide +kernel
theorem dJ0_charAt_5068e_24 : decode cJ0_charAt_5068e 24 = .ok (.ireturn, 1) := by decide +kernel
theorem dJ0_checkIndex_df160_0 : decode cJ0_checkIndex_df160 0 = .ok (.iload_n 0, 1) := by decide +kernel
theorem dJ0_checkIndex_df160_1 : decode cJ0_checkIndex_df160 1 = .ok (.iload_n 1, 1) := by decide +kernel
theorem dJ0_checkIndex_df160_2 : decode cJ0_checkIndex_df160 2 = .ok (.getstatic 1053, 3) := by decide +kernel
theorem dJ0_checkIndex_df160_5 : decode cJ0_checkIndex_df160 5 = .ok (.invokestatic 1059, 3) := by decide +kernel
theorem dJ0_checkIndex_df160_8 : decode cJ0_checkIndex_df160 8 = .ok (.pop, 1) := by decide +kernel
theorem dJ0_checkIndex_df160_9 : decode cJ0_checkIndex_df160 9 = .ok (.return_, 1) := by decide +kernel
theorem dJ1_charAt_3b067_0 : decode cJ1_charAt_3b067 0 = .ok (.iload_n 1, 1) := by decide +kernel
theorem dJ1_charAt_3b067_1 : decode cJ1_charAt_3b067 1 = .ok (.aload_n 0, 1) := by decide +kernel
theorem dJ1_charAt_3b067_2 : decode cJ1_charAt_3b067 2 = .ok (.arraylength, 1) := by decide +kernel
theorem dJ1_charAt_3b067_3 : decode cJ1_charAt_3b067 3 = .ok (.invokestatic 9, 3) := by decide +kernel
theorem dJ1_charAt_3b067_6 : decode cJ1_charAt_3b067 6 = .ok (.aload_n 0, 1) := by decide +kernel
theorem dJ1_charAt_3b067_7 : decode cJ1_charAt_3b067 7 = .ok (.iload_n 1, 1) := by decide +kernel
theorem dJ1_charAt_3b067_8 : decode cJ1_charAt_3b067 8 = .ok (.baload, 1) := by decide +kernel
theorem dJ1_charAt_3b067_9 : decode cJ1_charAt_3b067 9 = .ok (.sipush 255, 3) := by decide +kernel
theorem dJ1_charAt_3b067_12 : decode cJ1_charAt_3b067 12 = .ok (.iand, 1) := by decide +kernel
theorem dJ1_charAt_3b067_13 : decode cJ1_charAt_3b067 13 = .ok (.i2c, 1) := by decide +kernel
theorem dJ1_charAt_3b067_14 : decode cJ1_charAt_3b067 14 = .ok (.ireturn, 1) := by decide +kernel
theorem dJ3_checkIndex_8e157_0 : decode cJ3_checkIndex_8e157 0 = .ok (.iload_n 0, 1) := by decide +kernel
theorem dJ3_checkIndex_8e157_1 : decode cJ3_checkIndex_8e157 1 = .ok (.ifCond .lt 8, 3) := by decide +kernel
theorem dJ3_checkIndex_8e157_4 : decode cJ3_checkIndex_8e157 4 = .ok (.iload_n 0, 1) := by decide +kernel
theorem dJ3_checkIndex_8e157_5 : decode cJ3_checkIndex_8e157 5 = .ok (.iload_n 1, 1) := by decide +kernel
theorem dJ3_checkIndex_8e157_6 : decode cJ3_checkIndex_8e157 6 = .ok (.if_icmp .lt 10, 3) := by decide +kernel
theorem dJ3_checkIndex_8e157_9 : decode cJ3_checkIndex_8e157 9 = .ok (.aload_n 2, 1) := by decide +kernel
theorem dJ3_checkIndex_8e157_10 : decode cJ3_checkIndex_8e157 10 = .ok (.iload_n 0, 1) := by decide +kernel
theorem dJ3_checkIndex_8e157_11 : decode cJ3_checkIndex_8e157 11 = .ok (.iload_n 1, 1) := by decide +kernel
theorem dJ3_checkIndex_8e157_12 : decode cJ3_checkIndex_8e157 12 = .ok (.invokestatic 95, 3) := by decide +kernel
theorem dJ3_checkIndex_8e157_15 : decode cJ3_checkIndex_8e157 15 = .ok (.athrow, 1) := by decide +kernel
theorem dJ3_checkIndex_8e157_16 : decode cJ3_checkIndex_8e157 16 = .ok (.iload_n 0, 1) := by decide +kernel
theorem dJ3_checkIndex_8e157_17 : decode cJ3_checkIndex_8e157 17 = .ok (.ireturn, 1) := by decide +kernel
set_option maxRecDepth 1000000 in
theorem tc_coder : (Jvm.Cond.code ({ cls := "java/lang/String", name := "coder", desc := "()B" } : Jvm.MethodName) prog_20_method_152_code (1 : Nat) (Option.some Jvm.ClassFile.FieldType.byte)) ∈ lw_tbl := am_t1 (List.mem_of_getElem? (i := 489) (by decide +kernel))
set_option maxRecDepth 1000000 in
theorem tc_isl : (Jvm.Cond.code ({ cls := "java/lang/String", name := "isLatin1", desc := "()Z" } : Jvm.MethodName) prog_20_method_154_code (1 : Nat) (Option.some Jvm.ClassFile.FieldType.boolean)) ∈ lw_tbl := am_t1 (List.mem_of_getElem? (i := 479) (by decide +kernel))
set_option maxRecDepth 1000000 in
theorem tc_len : (Jvm.Cond.code ({ cls := "java/lang/String", name := "length", desc := "()I" } : Jvm.MethodName) prog_20_method_54_code (1 : Nat) (Option.some Jvm.ClassFile.FieldType.int)) ∈ lw_tbl := am_t1 (List.mem_of_getElem? (i := 485) (by decide +kernel))
set_option maxRecDepth 1000000 in
theorem tc_cat : (Jvm.Cond.code ({ cls := "java/lang/String", name := "charAt", desc := "(I)C" } : Jvm.MethodName) prog_20_method_56_code (2 : Nat) (Option.some Jvm.ClassFile.FieldType.char)) ∈ lw_tbl := am_t1 (List.mem_of_getElem? (i := 1221) (by decide +kernel))
set_option maxRecDepth 1000000 in
theorem tc_chk : (Jvm.Cond.code ({ cls := "java/lang/String", name := "checkIndex", desc := "(II)V" } : Jvm.MethodName) prog_20_method_155_code (2 : Nat) (Option.none : Option Jvm.ClassFile.FieldType)) ∈ lw_tbl := am_t1 (List.mem_of_getElem? (i := 1227) (by decide +kernel))
set_option maxRecDepth 1000000 in
theorem tc_cat1 : (Jvm.Cond.code ({ cls := "java/lang/StringLatin1", name := "charAt", desc := "([BI)C" } : Jvm.MethodName) prog_22_method_2_code (2 : Nat) (Option.some Jvm.ClassFile.FieldType.char)) ∈ lw_tbl := am_t1 (List.mem_of_getElem? (i := 1224) (by decide +kernel))
set_option maxRecDepth 1000000 in
theorem tc_chkP : (Jvm.Cond.code ({ cls := "jdk/internal/util/Preconditions", name := "checkIndex", desc := "(IILjava/util/function/BiFunction;)I" } : Jvm.MethodName) prog_27_method_11_code (3 : Nat) (Option.some Jvm.ClassFile.FieldType.int)) ∈ lw_tbl := am_t1 (List.mem_of_getElem? (i := 1230) (by decide +kernel))
set_option maxRecDepth 1000000 in
theorem ti_S : (Jvm.Cond.initialized "java/lang/String") ∈ lw_tbl := am_t1 (List.mem_of_getElem? (i := 15) (by decide +kernel))
set_option maxRecDepth 1000000 in
theorem ti_L1 : (Jvm.Cond.initialized "java/lang/StringLatin1") ∈ lw_tbl := am_t1 (List.mem_of_getElem? (i := 16) (by decide +kernel))
set_option maxRecDepth 1000000 in
theorem ti_P : (Jvm.Cond.initialized "jdk/internal/util/Preconditions") ∈ lw_tbl := am_t1 (List.mem_of_getElem? (i := 18) (by decide +kernel))
set_option maxRecDepth 1000000 in
theorem tf_38 : (Jvm.Cond.fieldLink "java/lang/String" (38 : Nat) "java/lang/String" "COMPACT_STRINGS" "Z") ∈ lw_tbl := am_t1 (List.mem_of_getElem? (i := 480) (by decide +kernel))
set_option maxRecDepth 1000000 in
theorem tf_15 : (Jvm.Cond.fieldLink "java/lang/String" (15 : Nat) "java/lang/String" "coder" "B") ∈ lw_tbl := am_t1 (List.mem_of_getElem? (i := 1298) (by decide +kernel))
set_option maxRecDepth 1000000 in
theorem tf_9 : (Jvm.Cond.fieldLink "java/lang/String" (9 : Nat) "java/lang/String" "value" "[B") ∈ lw_tbl := am_t1 (List.mem_of_getElem? (i := 1297) (by decide +kernel))
set_option maxRecDepth 1000000 in
theorem tf_1053 : (Jvm.Cond.fieldLink "java/lang/String" (1053 : Nat) "jdk/internal/util/Preconditions" "SIOOBE_FORMATTER" "Ljava/util/function/BiFunction;") ∈ lw_tbl := am_t1 (List.mem_of_getElem? (i := 523) (by decide +kernel))
set_option maxRecDepth 1000000 in
theorem tl_335 : (Jvm.Cond.methodLink "java/lang/String" (335 : Nat) ({ cls := "java/lang/String", name := "coder", desc := "()B" } : Jvm.MethodName)) ∈ lw_tbl := am_t1 (List.mem_of_getElem? (i := 486) (by decide +kernel))
set_option maxRecDepth 1000000 in
theorem tl_492 : (Jvm.Cond.methodLink "java/lang/String" (492 : Nat) ({ cls := "java/lang/String", name := "isLatin1", desc := "()Z" } : Jvm.MethodName)) ∈ lw_tbl := am_t1 (List.mem_of_getElem? (i := 476) (by decide +kernel))
set_option maxRecDepth 1000000 in
theorem tl_495 : (Jvm.Cond.methodLink "java/lang/String" (495 : Nat) ({ cls := "java/lang/StringLatin1", name := "charAt", desc := "([BI)C" } : Jvm.MethodName)) ∈ lw_tbl := am_t1 (List.mem_of_getElem? (i := 1222) (by decide +kernel))
set_option maxRecDepth 1000000 in
theorem tl_1059 : (Jvm.Cond.methodLink "java/lang/String" (1059 : Nat) ({ cls := "jdk/internal/util/Preconditions", name := "checkIndex", desc := "(IILjava/util/function/BiFunction;)I" } : Jvm.MethodName)) ∈ lw_tbl := am_t1 (List.mem_of_getElem? (i := 1228) (by decide +kernel))
set_option maxRecDepth 1000000 in
theorem tl_L9 : (Jvm.Cond.methodLink "java/lang/StringLatin1" (9 : Nat) ({ cls := "java/lang/String", name := "checkIndex", desc := "(II)V" } : Jvm.MethodName)) ∈ lw_tbl := am_t1 (List.mem_of_getElem? (i := 1225) (by decide +kernel))
set_option maxRecDepth 1000000 in
theorem tm_coder : (Jvm.Cond.instanceMethod ({ cls := "java/lang/String", name := "coder", desc := "()B" } : Jvm.MethodName)) ∈ lw_tbl := am_t1 (List.mem_of_getElem? (i := 487) (by decide +kernel))
set_option maxRecDepth 1000000 in
theorem tm_isl : (Jvm.Cond.instanceMethod ({ cls := "java/lang/String", name := "isLatin1", desc := "()Z" } : Jvm.MethodName)) ∈ lw_tbl := am_t1 (List.mem_of_getElem? (i := 477) (by decide +kernel))
set_option maxRecDepth 1000000 in
theorem tm_len : (Jvm.Cond.instanceMethod ({ cls := "java/lang/String", name := "length", desc := "()I" } : Jvm.MethodName)) ∈ lw_tbl := am_t1 (List.mem_of_getElem? (i := 483) (by decide +kernel))
set_option maxRecDepth 1000000 in
theorem tm_cat : (Jvm.Cond.instanceMethod ({ cls := "java/lang/String", name := "charAt", desc := "(I)C" } : Jvm.MethodName)) ∈ lw_tbl := am_t1 (List.mem_of_getElem? (i := 1219) (by decide +kernel))
set_option maxRecDepth 1000000 in
theorem tS_cat1 : (Jvm.Cond.static ({ cls := "java/lang/StringLatin1", name := "charAt", desc := "([BI)C" } : Jvm.MethodName)) ∈ lw_tbl := am_t1 (List.mem_of_getElem? (i := 1223) (by decide +kernel))
set_option maxRecDepth 1000000 in
theorem tS_chk : (Jvm.Cond.static ({ cls := "java/lang/String", name := "checkIndex", desc := "(II)V" } : Jvm.MethodName)) ∈ lw_tbl := am_t1 (List.mem_of_getElem? (i := 1226) (by decide +kernel))
set_option maxRecDepth 1000000 in
theorem tS_chkP : (Jvm.Cond.static ({ cls := "jdk/internal/util/Preconditions", name := "checkIndex", desc := "(IILjava/util/function/BiFunction;)I" } : Jvm.MethodName)) ∈ lw_tbl := am_t1 (List.mem_of_getElem? (i := 1229) (by decide +kernel))
set_option maxRecDepth 1000000 in
theorem te_coder : (Jvm.Cond.selects "java/lang/String" ({ cls := "java/lang/String", name := "coder", desc := "()B" } : Jvm.MethodName) ({ cls := "java/lang/String", name := "coder", desc := "()B" } : Jvm.MethodName)) ∈ lw_tbl := am_t1 (List.mem_of_getElem? (i := 488) (by decide +kernel))
set_option maxRecDepth 1000000 in
theorem te_isl : (Jvm.Cond.selects "java/lang/String" ({ cls := "java/lang/String", name := "isLatin1", desc := "()Z" } : Jvm.MethodName) ({ cls := "java/lang/String", name := "isLatin1", desc := "()Z" } : Jvm.MethodName)) ∈ lw_tbl := am_t1 (List.mem_of_getElem? (i := 478) (by decide +kernel))
set_option maxRecDepth 1000000 in
theorem te_len : (Jvm.Cond.selects "java/lang/String" ({ cls := "java/lang/String", name := "length", desc := "()I" } : Jvm.MethodName) ({ cls := "java/lang/String", name := "length", desc := "()I" } : Jvm.MethodName)) ∈ lw_tbl := am_t1 (List.mem_of_getElem? (i := 484) (by decide +kernel))
set_option maxRecDepth 1000000 in
theorem te_cat : (Jvm.Cond.selects "java/lang/String" ({ cls := "java/lang/String", name := "charAt", desc := "(I)C" } : Jvm.MethodName) ({ cls := "java/lang/String", name := "charAt", desc := "(I)C" } : Jvm.MethodName)) ∈ lw_tbl := am_t1 (List.mem_of_getElem? (i := 1220) (by decide +kernel))
abbrev sv_no : Nat → Prop := fun _ => False
/-- a string in the heap: r its object, v its w bytes -/
def sv_S (r v w : Nat) (U : State) (H : Heap) : Prop := ∃ f : Nat → Int32, w ≤ 1000 ∧ va_O "java/lang/String" r sv_no U H ∧ va_OF "java/lang/String" "coder" "B" (.int 0) r sv_no U H ∧ va_OF "java/lang/String" "value" "[B" (.ref v) r sv_no U H ∧ va_T .byte v w (fun j => .int (f j)) sv_no U H ∧ ∀ j, j < w → fits .byte (.int (f j)) = true
/-- the static of String, the formatter -/
def sb_X (B0 : Nat) (U : State) (H : Heap) : Prop := va_Z "java/lang/String" "COMPACT_STRINGS" "Z" (.int 1) (cm_A B0) U H ∧ va_Zq "jdk/internal/util/Preconditions" "SIOOBE_FORMATTER" "Ljava/util/function/BiFunction;" (cm_A B0) U H ∧ va_Nw (.castable "[B" "java/lang/Cloneable") U
theorem sv_on {r v w : Nat} {U V : State} {H H2 : Heap} (hv : U.vm.Alike V.vm) (h1 : H2[r]? = H[r]?) (h2 : H2[v]? = H[v]?) (h : sv_S r v w U H) : sv_S r v w V H2 := by
  obtain ⟨f, hw, ⟨c1, a1, a2, a3, a4⟩, ⟨cf, k, i, fd, c2, b1, b2, b3, b4, b5, b6⟩, ⟨cf3, k3, i3, fd3, c3, d1, d2, d3, d4, d5, d6⟩, ⟨c4, e1, e2, e3, e4, e5, e6, e7⟩, g⟩ := h
  refine ⟨f, hw, va_O.moved hv ⟨c1, by rw [h1]; exact a1, a2, a3, a4⟩, va_OF.moved hv ⟨cf, k, i, fd, c2, b1, b2, by rw [h1]; exact b3, b4, b5, b6⟩, va_OF.moved hv ⟨cf3, k3, i3, fd3, c3, d1, d2, by rw [h1]; exact d3, d4, d5, d6⟩, va_T.moved hv ⟨c4, by rw [h2]; exact e1, e2, e3, e4, e5, e6, e7⟩, g⟩
theorem sb_X_on {B0 : Nat} {U V : State} {H H2 : Heap} (hv : U.vm.Alike V.vm) (hq : ∀ q, q < H.size → q < B0 → H2[q]? = H[q]?) (h : sb_X B0 U H) : sb_X B0 V H2 :=
  ⟨va_Z.moved hv (h.1.kept (fun a h1 h2 => hq a h1 (Nat.not_le.mp h2))), va_Zq.moved hv (h.2.1.kept (fun a h1 h2 => hq a h1 (Nat.not_le.mp h2))), va_tabs rfl (rfl : (U.setVm V.vm).vm = V.vm) (by rw [Cond.castable_setVm hv]; exact h.2.2)⟩
section SP92
variable {p : Program} {l : Launch} {e : Env} {Rm : Room} {s : State} {m : MethodId} {args : Array Value} {below : List Frame} {meth : Method} {c : Code} {Q : State → Prop} {H : Heap} {locs : List Loc} {cs ss pc B0 : Nat} {ls : Array Slot}
variable {own : String} {bc : ByteArray} {nL : Nat} {rt : Option FieldType} {st : List Value}
theorem sb_pvX {Pre : State → Heap → Prop} (h : ∀ (U V : State) (H : Heap), U.vm.Alike V.vm → Pre U H → Pre V H) : sb_pv (fun U => Pre U U.heap) := fun U V h1 h2 q => by
  show Pre V V.heap
  rw [h2]
  exact h U V _ (by rw [h1]; exact Vm.Alike.refl _) q
theorem sb_getf (F : sb_fr p s m args meth c own bc nL rt) {o n d : String} {index q : Nat} {v : Value} (hE : va_OF o n d v q sv_no s H) (hlink : Cond.fieldLink own index o n d ∈ lw_tbl) (hdg : decode bc pc = .ok (.getfield index, 3)) (kk : W p l e Rm s m args below meth c H locs cs ss Q (F0 m (pc + 3) ls (v :: st))) : W p l e Rm s m args below meth c H locs cs ss Q (F0 m pc ls (.ref q :: st)) := by
  obtain ⟨hx, hb, hml, hr, hlocks, hts, hown⟩ := F
  obtain ⟨cf, k, i, fd, cell, h1, h2, h3, h4, h5, -⟩ := hE
  exact W.getf hx hb hown (hts _ (sb_tb_i hlink rfl)) h1 h2 h3 h4 (v := v) h5 rfl rfl hdg kk
theorem sb_gets (F : sb_fr p s m args meth c own bc nL rt) {A : Nat → Prop} {o n d : String} {index : Nat} {v : Value} (hE : va_Z o n d v A s H) (hlink : Cond.fieldLink own index o n d ∈ lw_tbl) (hdg : decode bc pc = .ok (.getstatic index, 3)) (kk : W p l e Rm s m args below meth c H locs cs ss Q (F0 m (pc + 3) ls (v :: st))) : W p l e Rm s m args below meth c H locs cs ss Q (F0 m pc ls st) := by
  obtain ⟨hx, hb, hml, hr, hlocks, hts, hown⟩ := F
  obtain ⟨cf, kf, fi, f, a, cell, h1, h2, h3, h4, h5, h6, h7, h8⟩ := hE
  exact W.gets hx hb hown (hts _ (sb_tb_i hlink rfl)) h1 h2 h3 h4 h5 (fun e => by rw [e] at h6; cases h6) h7 rfl hdg kk
theorem sv_recv {r v w : Nat} (h : sv_S r v w s H) : ∃ cell : Cell, H[r]? = some cell ∧ cell.vm.isStatics = false ∧ s.vm.findClass "java/lang/String" = some cell.cls := by
  obtain ⟨f, hw, ⟨c1, a1, a2, a3, a4⟩, -⟩ := h
  exact ⟨c1, a1, a2, a3⟩
/-- coder -/
theorem tx_coder {r v w : Nat} : sb_met l B0 yJ0_coder_7d493 cJ0_coder_7d493 1 (some .byte) 1 0 0 [.ref r] (fun U => sv_S r v w U U.heap ∧ sb_X B0 U U.heap) (fun x st t => t.heap = st.heap ∧ x = some (.int 0)) sb_no := by
  refine sb_of (by decide) (fun p e s m below meth c F hP => ?_)
  obtain ⟨hx, hb, hml, hr, hlocks, hts, hown⟩ := id F
  obtain ⟨⟨f, hw, hO, hC, hV, hT, hf⟩, hX⟩ := hP
  have hl := lv_entry ([.ref r]) (n := 1) (Nat.le_of_ble_eq_true rfl)
  rw [lg_entry_eq]
  generalize (lg_sl ([.ref r]) ++ List.replicate (1 - (lg_sl ([.ref r])).length) Slot.unset).toArray = ls at hl ⊢
  have hl : lv_has ls 1 [(0, .ref r)] := hl
  refine sb_gets F hX.1 tf_38 dJ0_coder_7d493_0 ?_
  refine lv_if_eq (tgt := 13) hx hb dJ0_coder_7d493_3 rfl (fun w => absurd w (by decide)) (fun _ => ?_)
  refine lv_aload_n hx hb dJ0_coder_7d493_6 rfl (lv_at hl 0 rfl) ?_
  refine sb_getf F hC tf_15 dJ0_coder_7d493_7 ?_
  refine lv_goto (tgt := 14) hx hb dJ0_coder_7d493_10 rfl ?_
  exact W.zret hx hb hr (by decide) (fun t e1 e2 => ⟨_, rfl, ⟨e1, rfl⟩, by rw [e1]; exact Nat.le_refl _, fun q _ _ => by rw [e1]⟩) (fun q hq => by cases hq) dJ0_coder_7d493_14
/-- isLatin1 -/
theorem tx_isl {r v w : Nat} : sb_met l B0 yJ0_isLatin1_aae02 cJ0_isLatin1_aae02 1 (some .boolean) 1 0 0 [.ref r] (fun U => sv_S r v w U U.heap ∧ sb_X B0 U U.heap) (fun x st t => t.heap = st.heap ∧ x = some (.int 1)) sb_no := by
  refine sb_of (by decide) (fun p e s m below meth c F hP => ?_)
  obtain ⟨hx, hb, hml, hr, hlocks, hts, hown⟩ := id F
  obtain ⟨⟨f, hw, hO, hC, hV, hT, hf⟩, hX⟩ := hP
  have hl := lv_entry ([.ref r]) (n := 1) (Nat.le_of_ble_eq_true rfl)
  rw [lg_entry_eq]
  generalize (lg_sl ([.ref r]) ++ List.replicate (1 - (lg_sl ([.ref r])).length) Slot.unset).toArray = ls at hl ⊢
  have hl : lv_has ls 1 [(0, .ref r)] := hl
  refine sb_gets F hX.1 tf_38 dJ0_isLatin1_aae02_0 ?_
  refine lv_if_eq (tgt := 17) hx hb dJ0_isLatin1_aae02_3 rfl (fun w => absurd w (by decide)) (fun _ => ?_)
  refine lv_aload_n hx hb dJ0_isLatin1_aae02_6 rfl (lv_at hl 0 rfl) ?_
  refine sb_getf F hC tf_15 dJ0_isLatin1_aae02_7 ?_
  refine lv_if_ne (tgt := 17) hx hb dJ0_isLatin1_aae02_10 rfl (fun w => absurd rfl w) (fun _ => ?_)
  refine lv_iconst (v := 1) hx hb dJ0_isLatin1_aae02_13 rfl ?_
  refine lv_goto (tgt := 18) hx hb dJ0_isLatin1_aae02_14 rfl ?_
  exact W.zret hx hb hr (by decide) (fun t e1 e2 => ⟨_, rfl, ⟨e1, rfl⟩, by rw [e1]; exact Nat.le_refl _, fun q _ _ => by rw [e1]⟩) (fun q hq => by cases hq) dJ0_isLatin1_aae02_18
theorem sv_pv {r v w : Nat} : sb_pv (fun U => sv_S r v w U U.heap ∧ sb_X B0 U U.heap) := sb_pvX (Pre := fun U H => sv_S r v w U H ∧ sb_X B0 U H) (fun U V H hv q => ⟨sv_on hv rfl rfl q.1, sb_X_on hv (fun _ _ _ => rfl) q.2⟩)
theorem sv_go {r v w : Nat} {U : State} (hS : sv_S r v w s H) (hX : sb_X B0 s H) (hU : U.heap = H) (hW : s.WarmedH U.vm) : sv_S r v w U U.heap ∧ sb_X B0 U U.heap := by
  rw [hU]
  exact ⟨sv_on hW.alike rfl rfl hS, sb_X_on hW.alike (fun _ _ _ => rfl) hX⟩
/-- length -/
theorem tx_len {r v w : Nat} : sb_met l B0 yJ0_length_8abf5 cJ0_length_8abf5 1 (some .int) 2 0 0 [.ref r] (fun U => sv_S r v w U U.heap ∧ sb_X B0 U U.heap) (fun x st t => t.heap = st.heap ∧ x = some (.int (nI w))) sb_no := by
  refine sb_of (by decide) (fun p e s m below meth c F hP => ?_)
  obtain ⟨hx, hb, hml, hr, hlocks, hts, hown⟩ := id F
  obtain ⟨hS, hX⟩ := hP
  obtain ⟨f, hw, hO, hC, hV, hT, hf⟩ := id hS
  obtain ⟨cell, h1, h2, h3, h4, h5, h6, -⟩ := id hT
  have hl := lv_entry ([.ref r]) (n := 1) (Nat.le_of_ble_eq_true rfl)
  rw [lg_entry_eq]
  generalize (lg_sl ([.ref r]) ++ List.replicate (1 - (lg_sl ([.ref r])).length) Slot.unset).toArray = ls at hl ⊢
  have hl : lv_has ls 1 [(0, .ref r)] := hl
  refine lv_aload_n hx hb dJ0_length_8abf5_0 rfl (lv_at hl 0 rfl) ?_
  refine sb_getf F hV tf_9 dJ0_length_8abf5_1 ?_
  refine W.alen (n := Int32.ofNat w) hx hb h1 h2 h5 rfl rfl dJ0_length_8abf5_4 ?_
  refine lv_aload_n hx hb dJ0_length_8abf5_5 rfl (lv_at hl 0 rfl) ?_
  refine sb_callV (C := "java/lang/String") (As := []) (st := [.int (nI w)]) (k := 0) (d := 1) (mc := 0) (ms := 0) F (tx_coder (r := r) (v := v) (w := w)) tc_coder ti_S tl_335 tm_coder (hts _ (sb_tb_i te_coder rfl)) ⟨by decide, by decide, by decide +kernel⟩ rfl (sv_recv hS) dJ0_length_8abf5_6 hl.1 (by decide) (show 1 + 0 ≤ 8 by omega) (show 1 + 1 ≤ 2 by omega) (show 40 * (1 + 1) ≤ 40 * 2 by omega) (show 0 + 0 ≤ 0 by omega) (show 0 + 0 ≤ 0 by omega) sv_pv (fun U hU hW => sv_go hS hX hU hW) (fun q hq => by cases hq) ?_
  intro x st0 t locs1 e0 q1 hal z o hL
  obtain ⟨q1, q2⟩ := q1
  subst q2
  rw [e0] at q1
  refine lv_ishr hx hb dJ0_length_8abf5_9 ?_
  have e : (nI w) >>> ((0 : Int32) &&& 31) = nI w := am_shr0
  rw [e]
  exact W.iret hx hb hr (fun t e1 e2 => ⟨_, rfl, ⟨e1.trans q1, rfl⟩, by rw [e1, q1]; exact Nat.le_refl _, fun q _ _ => by rw [e1, q1]⟩) hL dJ0_length_8abf5_10
end SP92
