/-! text(): the builder, what is read of it -/
theorem dJ5_isLatin1_aae02_0 : decode cJ5_isLatin1_aae02 0 = .ok (.getstatic 18, 3) := by decide +kernel
theorem dJ5_isLatin1_aae02_3 : decode cJ5_isLatin1_aae02 3 = .ok (.ifCond .eq 14, 3) := by decide +kernel
theorem dJ5_isLatin1_aae02_6 : decode cJ5_isLatin1_aae02 6 = .ok (.aload_n 0, 1) := by decide +kernel
theorem dJ5_isLatin1_aae02_7 : decode cJ5_isLatin1_aae02 7 = .ok (.getfield 22, 3) := by decide +kernel
theorem dJ5_isLatin1_aae02_10 : decode cJ5_isLatin1_aae02 10 = .ok (.ifCond .ne 7, 3) := by decide +kernel
theorem dJ5_isLatin1_aae02_13 : decode cJ5_isLatin1_aae02 13 = .ok (.iconst 1, 1) := by decide +kernel
theorem dJ5_isLatin1_aae02_14 : decode cJ5_isLatin1_aae02 14 = .ok (.goto 4, 3) := by decide +kernel
theorem dJ5_isLatin1_aae02_17 : decode cJ5_isLatin1_aae02 17 = .ok (.iconst 0, 1) := by decide +kernel
theorem dJ5_isLatin1_aae02_18 : decode cJ5_isLatin1_aae02 18 = .ok (.ireturn, 1) := by decide +kernel
theorem dJ5_getValue_6d5f1_0 : decode cJ5_getValue_6d5f1 0 = .ok (.aload_n 0, 1) := by decide +kernel
theorem dJ5_getValue_6d5f1_1 : decode cJ5_getValue_6d5f1 1 = .ok (.getfield 15, 3) := by decide +kernel
theorem dJ5_getValue_6d5f1_4 : decode cJ5_getValue_6d5f1 4 = .ok (.areturn, 1) := by decide +kernel
theorem dJ5_length_8abf5_0 : decode cJ5_length_8abf5 0 = .ok (.aload_n 0, 1) := by decide +kernel
theorem dJ5_length_8abf5_1 : decode cJ5_length_8abf5 1 = .ok (.getfield 79, 3) := by decide +kernel
theorem dJ5_length_8abf5_4 : decode cJ5_length_8abf5 4 = .ok (.ireturn, 1) := by decide +kernel
theorem dJ8_newLength_cabcc_0 : decode cJ8_newLength_cabcc 0 = .ok (.iload_n 0, 1) := by decide +kernel
theorem dJ8_newLength_cabcc_1 : decode cJ8_newLength_cabcc 1 = .ok (.iload_n 1, 1) := by decide +kernel
theorem dJ8_newLength_cabcc_2 : decode cJ8_newLength_cabcc 2 = .ok (.iload_n 2, 1) := by decide +kernel
theorem dJ8_newLength_cabcc_3 : decode cJ8_newLength_cabcc 3 = .ok (.invokestatic 194, 3) := by decide +kernel
theorem dJ8_newLength_cabcc_6 : decode cJ8_newLength_cabcc 6 = .ok (.iadd, 1) := by decide +kernel
theorem dJ8_newLength_cabcc_7 : decode cJ8_newLength_cabcc 7 = .ok (.istore_n 3, 1) := by decide +kernel
theorem dJ8_newLength_cabcc_8 : decode cJ8_newLength_cabcc 8 = .ok (.iconst 0, 1) := by decide +kernel
theorem dJ8_newLength_cabcc_9 : decode cJ8_newLength_cabcc 9 = .ok (.iload_n 3, 1) := by decide +kernel
theorem dJ8_newLength_cabcc_10 : decode cJ8_newLength_cabcc 10 = .ok (.if_icmp .ge 11, 3) := by decide +kernel
theorem dJ8_newLength_cabcc_13 : decode cJ8_newLength_cabcc 13 = .ok (.iload_n 3, 1) := by decide +kernel
theorem dJ8_newLength_cabcc_14 : decode cJ8_newLength_cabcc 14 = .ok (.ldc 200, 2) := by decide +kernel
theorem dJ8_newLength_cabcc_16 : decode cJ8_newLength_cabcc 16 = .ok (.if_icmp .gt 5, 3) := by decide +kernel
theorem dJ8_newLength_cabcc_19 : decode cJ8_newLength_cabcc 19 = .ok (.iload_n 3, 1) := by decide +kernel
theorem dJ8_newLength_cabcc_20 : decode cJ8_newLength_cabcc 20 = .ok (.ireturn, 1) := by decide +kernel
theorem dJ8_newLength_cabcc_21 : decode cJ8_newLength_cabcc 21 = .ok (.iload_n 0, 1) := by decide +kernel
theorem dJ8_newLength_cabcc_22 : decode cJ8_newLength_cabcc 22 = .ok (.iload_n 1, 1) := by decide +kernel
theorem dJ8_newLength_cabcc_23 : decode cJ8_newLength_cabcc 23 = .ok (.invokestatic 201, 3) := by decide +kernel
theorem dJ8_newLength_cabcc_26 : decode cJ8_newLength_cabcc 26 = .ok (.ireturn, 1) := by decide +kernel
theorem dJ5_newCapacity_0f7a4_0 : decode cJ5_newCapacity_0f7a4 0 = .ok (.aload_n 0, 1) := by decide +kernel
theorem dJ5_newCapacity_0f7a4_1 : decode cJ5_newCapacity_0f7a4 1 = .ok (.getfield 15, 3) := by decide +kernel
theorem dJ5_newCapacity_0f7a4_4 : decode cJ5_newCapacity_0f7a4 4 = .ok (.arraylength, 1) := by decide +kernel
theorem dJ5_newCapacity_0f7a4_5 : decode cJ5_newCapacity_0f7a4 5 = .ok (.istore_n 2, 1) := by decide +kernel
theorem dJ5_newCapacity_0f7a4_6 : decode cJ5_newCapacity_0f7a4 6 = .ok (.iload_n 1, 1) := by decide +kernel
theorem dJ5_newCapacity_0f7a4_7 : decode cJ5_newCapacity_0f7a4 7 = .ok (.aload_n 0, 1) := by decide +kernel
theorem dJ5_newCapacity_0f7a4_8 : decode cJ5_newCapacity_0f7a4 8 = .ok (.getfield 22, 3) := by decide +kernel
theorem dJ5_newCapacity_0f7a4_11 : decode cJ5_newCapacity_0f7a4 11 = .ok (.ishl, 1) := by decide +kernel
theorem dJ5_newCapacity_0f7a4_12 : decode cJ5_newCapacity_0f7a4 12 = .ok (.istore_n 3, 1) := by decide +kernel
theorem dJ5_newCapacity_0f7a4_13 : decode cJ5_newCapacity_0f7a4 13 = .ok (.iload_n 3, 1) := by decide +kernel
theorem dJ5_newCapacity_0f7a4_14 : decode cJ5_newCapacity_0f7a4 14 = .ok (.iload_n 2, 1) := by decide +kernel
theorem dJ5_newCapacity_0f7a4_15 : decode cJ5_newCapacity_0f7a4 15 = .ok (.isub, 1) := by decide +kernel
theorem dJ5_newCapacity_0f7a4_16 : decode cJ5_newCapacity_0f7a4 16 = .ok (.istore 4, 2) := by decide +kernel
theorem dJ5_newCapacity_0f7a4_18 : decode cJ5_newCapacity_0f7a4 18 = .ok (.iload_n 2, 1) := by decide +kernel
theorem dJ5_newCapacity_0f7a4_19 : decode cJ5_newCapacity_0f7a4 19 = .ok (.iload 4, 2) := by decide +kernel
theorem dJ5_newCapacity_0f7a4_21 : decode cJ5_newCapacity_0f7a4 21 = .ok (.iload_n 2, 1) := by decide +kernel
theorem dJ5_newCapacity_0f7a4_22 : decode cJ5_newCapacity_0f7a4 22 = .ok (.iconst 2, 1) := by decide +kernel
theorem dJ5_newCapacity_0f7a4_23 : decode cJ5_newCapacity_0f7a4 23 = .ok (.aload_n 0, 1) := by decide +kernel
theorem dJ5_newCapacity_0f7a4_24 : decode cJ5_newCapacity_0f7a4 24 = .ok (.getfield 22, 3) := by decide +kernel
theorem dJ5_newCapacity_0f7a4_27 : decode cJ5_newCapacity_0f7a4 27 = .ok (.ishl, 1) := by decide +kernel
theorem dJ5_newCapacity_0f7a4_28 : decode cJ5_newCapacity_0f7a4 28 = .ok (.iadd, 1) := by decide +kernel
theorem dJ5_newCapacity_0f7a4_29 : decode cJ5_newCapacity_0f7a4 29 = .ok (.invokestatic 114, 3) := by decide +kernel
theorem dJ5_newCapacity_0f7a4_32 : decode cJ5_newCapacity_0f7a4 32 = .ok (.istore 5, 2) := by decide +kernel
theorem dJ5_newCapacity_0f7a4_34 : decode cJ5_newCapacity_0f7a4 34 = .ok (.iload 5, 2) := by decide +kernel
theorem dJ5_newCapacity_0f7a4_36 : decode cJ5_newCapacity_0f7a4 36 = .ok (.ldc 39, 2) := by decide +kernel
theorem dJ5_newCapacity_0f7a4_38 : decode cJ5_newCapacity_0f7a4 38 = .ok (.if_icmp .ne 13, 3) := by decide +kernel
theorem dJ5_newCapacity_0f7a4_41 : decode cJ5_newCapacity_0f7a4 41 = .ok (.new 120, 3) := by decide +kernel
theorem dJ5_newCapacity_0f7a4_44 : decode cJ5_newCapacity_0f7a4 44 = .ok (.dup, 1) := by decide +kernel
theorem dJ5_newCapacity_0f7a4_45 : decode cJ5_newCapacity_0f7a4 45 = .ok (.ldc 122, 2) := by decide +kernel
theorem dJ5_newCapacity_0f7a4_47 : decode cJ5_newCapacity_0f7a4 47 = .ok (.invokespecial 124, 3) := by decide +kernel
theorem dJ5_newCapacity_0f7a4_50 : decode cJ5_newCapacity_0f7a4 50 = .ok (.athrow, 1) := by decide +kernel
theorem dJ5_newCapacity_0f7a4_51 : decode cJ5_newCapacity_0f7a4 51 = .ok (.iload 5, 2) := by decide +kernel
theorem dJ5_newCapacity_0f7a4_53 : decode cJ5_newCapacity_0f7a4 53 = .ok (.aload_n 0, 1) := by decide +kernel
theorem dJ5_newCapacity_0f7a4_54 : decode cJ5_newCapacity_0f7a4 54 = .ok (.getfield 22, 3) := by decide +kernel
theorem dJ5_newCapacity_0f7a4_57 : decode cJ5_newCapacity_0f7a4 57 = .ok (.ishr, 1) := by decide +kernel
theorem dJ5_newCapacity_0f7a4_58 : decode cJ5_newCapacity_0f7a4 58 = .ok (.ireturn, 1) := by decide +kernel
set_option maxRecDepth 1000000 in
theorem tc_aisl : (Jvm.Cond.code ({ cls := "java/lang/AbstractStringBuilder", name := "isLatin1", desc := "()Z" } : Jvm.MethodName) prog_14_method_68_code (1 : Nat) (Option.some Jvm.ClassFile.FieldType.boolean)) ∈ lw_tbl := am_t1 (List.mem_of_getElem? (i := 1169) (by decide +kernel))
set_option maxRecDepth 1000000 in
theorem tc_gval : (Jvm.Cond.code ({ cls := "java/lang/AbstractStringBuilder", name := "getValue", desc := "()[B" } : Jvm.MethodName) prog_14_method_64_code (1 : Nat) (Option.some (Jvm.ClassFile.FieldType.array Jvm.ClassFile.FieldType.byte))) ∈ lw_tbl := am_t1 (List.mem_of_getElem? (i := 1268) (by decide +kernel))
set_option maxRecDepth 1000000 in
theorem tc_alen : (Jvm.Cond.code ({ cls := "java/lang/AbstractStringBuilder", name := "length", desc := "()I" } : Jvm.MethodName) prog_14_method_6_code (1 : Nat) (Option.some Jvm.ClassFile.FieldType.int)) ∈ lw_tbl := am_t1 (List.mem_of_getElem? (i := 1276) (by decide +kernel))
set_option maxRecDepth 1000000 in
theorem tc_nlen : (Jvm.Cond.code ({ cls := "jdk/internal/util/ArraysSupport", name := "newLength", desc := "(III)I" } : Jvm.MethodName) prog_26_method_27_code (4 : Nat) (Option.some Jvm.ClassFile.FieldType.int)) ∈ lw_tbl := am_t1 (List.mem_of_getElem? (i := 1146) (by decide +kernel))
set_option maxRecDepth 1000000 in
theorem tc_ncap : (Jvm.Cond.code ({ cls := "java/lang/AbstractStringBuilder", name := "newCapacity", desc := "(I)I" } : Jvm.MethodName) prog_14_method_10_code (6 : Nat) (Option.some Jvm.ClassFile.FieldType.int)) ∈ lw_tbl := am_t1 (List.mem_of_getElem? (i := 1143) (by decide +kernel))
set_option maxRecDepth 1000000 in
theorem ti_A : (Jvm.Cond.initialized "java/lang/AbstractStringBuilder") ∈ lw_tbl := am_t1 (List.mem_of_getElem? (i := 20) (by decide +kernel))
set_option maxRecDepth 1000000 in
theorem ti_B : (Jvm.Cond.initialized "java/lang/StringBuilder") ∈ lw_tbl := am_t1 (List.mem_of_getElem? (i := 21) (by decide +kernel))
set_option maxRecDepth 1000000 in
theorem ti_AS : (Jvm.Cond.initialized "jdk/internal/util/ArraysSupport") ∈ lw_tbl := am_t1 (List.mem_of_getElem? (i := 22) (by decide +kernel))
set_option maxRecDepth 1000000 in
theorem tf_A18 : (Jvm.Cond.fieldLink "java/lang/AbstractStringBuilder" (18 : Nat) "java/lang/String" "COMPACT_STRINGS" "Z") ∈ lw_tbl := am_t1 (List.mem_of_getElem? (i := 1104) (by decide +kernel))
set_option maxRecDepth 1000000 in
theorem tf_A15 : (Jvm.Cond.fieldLink "java/lang/AbstractStringBuilder" (15 : Nat) "java/lang/AbstractStringBuilder" "value" "[B") ∈ lw_tbl := am_t1 (List.mem_of_getElem? (i := 1112) (by decide +kernel))
set_option maxRecDepth 1000000 in
theorem tf_A22 : (Jvm.Cond.fieldLink "java/lang/AbstractStringBuilder" (22 : Nat) "java/lang/AbstractStringBuilder" "coder" "B") ∈ lw_tbl := am_t1 (List.mem_of_getElem? (i := 1113) (by decide +kernel))
set_option maxRecDepth 1000000 in
theorem tf_A79 : (Jvm.Cond.fieldLink "java/lang/AbstractStringBuilder" (79 : Nat) "java/lang/AbstractStringBuilder" "count" "I") ∈ lw_tbl := am_t1 (List.mem_of_getElem? (i := 1115) (by decide +kernel))
set_option maxRecDepth 1000000 in
theorem tl_A114 : (Jvm.Cond.methodLink "java/lang/AbstractStringBuilder" (114 : Nat) ({ cls := "jdk/internal/util/ArraysSupport", name := "newLength", desc := "(III)I" } : Jvm.MethodName)) ∈ lw_tbl := am_t1 (List.mem_of_getElem? (i := 1144) (by decide +kernel))
set_option maxRecDepth 1000000 in
theorem tS_nlen : (Jvm.Cond.static ({ cls := "jdk/internal/util/ArraysSupport", name := "newLength", desc := "(III)I" } : Jvm.MethodName)) ∈ lw_tbl := am_t1 (List.mem_of_getElem? (i := 1145) (by decide +kernel))
set_option maxRecDepth 1000000 in
theorem tm_aisl : (Jvm.Cond.instanceMethod ({ cls := "java/lang/AbstractStringBuilder", name := "isLatin1", desc := "()Z" } : Jvm.MethodName)) ∈ lw_tbl := am_t1 (List.mem_of_getElem? (i := 1166) (by decide +kernel))
set_option maxRecDepth 1000000 in
theorem tm_gval : (Jvm.Cond.instanceMethod ({ cls := "java/lang/AbstractStringBuilder", name := "getValue", desc := "()[B" } : Jvm.MethodName)) ∈ lw_tbl := am_t1 (List.mem_of_getElem? (i := 1265) (by decide +kernel))
set_option maxRecDepth 1000000 in
theorem tm_alen : (Jvm.Cond.instanceMethod ({ cls := "java/lang/AbstractStringBuilder", name := "length", desc := "()I" } : Jvm.MethodName)) ∈ lw_tbl := am_t1 (List.mem_of_getElem? (i := 1270) (by decide +kernel))
set_option maxRecDepth 1000000 in
theorem tm_ncap : (Jvm.Cond.instanceMethod ({ cls := "java/lang/AbstractStringBuilder", name := "newCapacity", desc := "(I)I" } : Jvm.MethodName)) ∈ lw_tbl := am_t1 (List.mem_of_getElem? (i := 1142) (by decide +kernel))
set_option maxRecDepth 1000000 in
theorem te_aisl : (Jvm.Cond.selects "java/lang/StringBuilder" ({ cls := "java/lang/AbstractStringBuilder", name := "isLatin1", desc := "()Z" } : Jvm.MethodName) ({ cls := "java/lang/AbstractStringBuilder", name := "isLatin1", desc := "()Z" } : Jvm.MethodName)) ∈ lw_tbl := am_t1 (List.mem_of_getElem? (i := 1168) (by decide +kernel))
set_option maxRecDepth 1000000 in
theorem te_gval : (Jvm.Cond.selects "java/lang/StringBuilder" ({ cls := "java/lang/AbstractStringBuilder", name := "getValue", desc := "()[B" } : Jvm.MethodName) ({ cls := "java/lang/AbstractStringBuilder", name := "getValue", desc := "()[B" } : Jvm.MethodName)) ∈ lw_tbl := am_t1 (List.mem_of_getElem? (i := 1267) (by decide +kernel))
set_option maxRecDepth 1000000 in
theorem tk_39 : (Jvm.Cond.constant "java/lang/AbstractStringBuilder" (39 : Nat) (2147483647 : Int32)) ∈ lw_tbl := am_t1 (List.mem_of_getElem? (i := 1152) (by decide +kernel))
set_option maxRecDepth 1000000 in
theorem tk_200 : (Jvm.Cond.constant "jdk/internal/util/ArraysSupport" (200 : Nat) (2147483639 : Int32)) ∈ lw_tbl := am_t1 (List.mem_of_getElem? (i := 1148) (by decide +kernel))
set_option maxRecDepth 1000000 in
theorem tl_AS194 : (Jvm.Cond.methodLink "jdk/internal/util/ArraysSupport" (194 : Nat) ({ cls := "java/lang/Math", name := "max", desc := "(II)I" } : Jvm.MethodName)) ∈ lw_tbl := am_t1 (List.mem_of_getElem? (i := 1147) (by decide +kernel))
/-- what the tables have of builders and bytes -/
def sb_K (D : va_G) (cB : ClassId) (U : State) : Prop := va_K D vwCl [(cB, .byte)] U
/-- the builder's cell; its bytes -/
def sb_O (D : va_G) (a v n : Nat) (k : Int32) (H : Heap) : Prop := va_P D vwCl [(a, .inr (12, [.ref v, .int 0, .int k, .int (nI n)]))] H
def sb_Y (cB : ClassId) (v m : Nat) (H : Heap) : Prop := ∃ f : Nat → Int32, H[v]? = some (vp_cell cB (m, .inl f)) ∧ ∀ j, fits .byte (.int (f j)) = true
/-- a builder with n letters and place for m -/
def sb_B (D : va_G) (cB : ClassId) (B0 a v n m : Nat) (U : State) (H : Heap) : Prop := sb_K D cB U ∧ (∃ k, sb_O D a v n k H) ∧ sb_Y cB v m H ∧ a ≠ v ∧ n ≤ m ∧ m ≤ 4096 ∧ B0 ≤ a ∧ B0 ≤ v ∧ sb_X B0 U H
section SP94
variable {p : Program} {l : Launch} {e : Env} {Rm : Room} {s : State} {m : MethodId} {args : Array Value} {below : List Frame} {meth : Method} {c : Code} {Q : State → Prop} {H : Heap} {locs : List Loc} {cs ss pc B0 : Nat} {ls : Array Slot}
variable {own : String} {bc : ByteArray} {nL : Nat} {rt : Option FieldType} {st : List Value} {D : va_G} {cB : ClassId} {a v n mm : Nat}
theorem sb_B_on {U V : State} (hv : U.vm.Alike V.vm) (h : sb_B D cB B0 a v n mm U H) : sb_B D cB B0 a v n mm V H :=
  ⟨h.1.moved hv, h.2.1, h.2.2.1, h.2.2.2.1, h.2.2.2.2.1, h.2.2.2.2.2.1, h.2.2.2.2.2.2.1, h.2.2.2.2.2.2.2.1, sb_X_on hv (fun _ _ _ => rfl) h.2.2.2.2.2.2.2.2⟩
theorem sb_Bpv : sb_pv (fun U => sb_B D cB B0 a v n mm U U.heap) := sb_pvX (Pre := fun U H => sb_B D cB B0 a v n mm U H) (fun U V H hv q => sb_B_on hv q)
theorem sb_Bgo {U : State} (h : sb_B D cB B0 a v n mm s H) (hU : U.heap = H) (hW : s.WarmedH U.vm) : sb_B D cB B0 a v n mm U U.heap := by
  rw [hU]
  exact sb_B_on hW.alike h
theorem sb_recv (h : sb_B D cB B0 a v n mm s H) : ∃ cell : Cell, H[a]? = some cell ∧ cell.vm.isStatics = false ∧ s.vm.findClass "java/lang/StringBuilder" = some cell.cls := by
  obtain ⟨k, hO⟩ := h.2.1
  exact va_recv (q0 := 0) (ci := 12) h.1 hO (show vwCl[12]? = some (RJ4, TJ4, 4) from rfl) rfl
theorem sb_g (F : sb_fr p s m args meth c own bc nL rt) {index : Nat} {fs : List Value} {x : Value} (hK : sb_K D cB s) (hP : va_P D vwCl [(a, .inr (12, fs))] H) (k : Nat) (hk : k < 4) (hT : (TJ4 k).1 = "java/lang/AbstractStringBuilder") (hlink : Cond.fieldLink own index "java/lang/AbstractStringBuilder" (TJ4 k).2.1 (TJ4 k).2.2.1 ∈ lw_tbl) (hv : fs[k]? = some x) (hdg : decode bc pc = .ok (.getfield index, 3))
    (kk : W p l e Rm s m args below meth c H locs cs ss Q (F0 m (pc + 3) ls (x :: st))) : W p l e Rm s m args below meth c H locs cs ss Q (F0 m pc ls (.ref a :: st)) := by
  obtain ⟨hx, hb, hml, hr, hlocks, hts, hown⟩ := F
  exact va_get hx hb (own := own) (ref := "java/lang/AbstractStringBuilder") (Ts := am_tb) (fun w hw => hts w (sb_am hw)) (am_vw (c := 12) (r := (RJ4, TJ4, 4)) rfl).1 hown hK hP 0 rfl (show vwCl[12]? = some (RJ4, TJ4, 4) from rfl) k hk (hts _ (sb_tb_i hlink rfl)) (fun x hx => by rw [hT] at hx; exact hx) hv hdg kk
/-- the bytes' length -/
theorem sb_yl (F : sb_fr p s m args meth c own bc nL rt) (hK : sb_K D cB s) (hY : sb_Y cB v mm H) (hdg : decode bc pc = .ok (.arraylength, 1)) (kk : W p l e Rm s m args below meth c H locs cs ss Q (F0 m (pc + 1) ls (.int (nI mm) :: st))) : W p l e Rm s m args below meth c H locs cs ss Q (F0 m pc ls (.ref v :: st)) := by
  obtain ⟨hx, hb, hml, hr, hlocks, hts, hown⟩ := F
  obtain ⟨f, h1, h2⟩ := hY
  exact W.alen (n := Int32.ofNat mm) hx hb h1 ((hK.2 0 _ rfl).1 mm (fun j => .int (f j))) (by show (arrV cB mm (fun j => .int (f j))).slots.size.toInt32 = _; rw [arrV_size]) rfl rfl hdg kk
theorem tx_aisl : sb_met l B0 yJ5_isLatin1_aae02 cJ5_isLatin1_aae02 1 (some .boolean) 1 0 0 [.ref a] (fun U => sb_B D cB B0 a v n mm U U.heap) (fun x st t => t.heap = st.heap ∧ x = some (.int 1)) sb_no := by
  refine sb_of (by decide) (fun p e s m below meth c F hB => ?_)
  obtain ⟨hx, hb, hml, hr, hlocks, hts, hown⟩ := id F
  obtain ⟨hK, ⟨k, hO⟩, hY, b1, b2, b3, b4, b5, hX⟩ := id hB
  have hl := lv_entry ([.ref a]) (n := 1) (Nat.le_of_ble_eq_true rfl)
  rw [lg_entry_eq]
  generalize (lg_sl ([.ref a]) ++ List.replicate (1 - (lg_sl ([.ref a])).length) Slot.unset).toArray = ls at hl ⊢
  have hl : lv_has ls 1 [(0, .ref a)] := hl
  refine sb_gets F hX.1 tf_A18 dJ5_isLatin1_aae02_0 ?_
  refine lv_if_eq (tgt := 17) hx hb dJ5_isLatin1_aae02_3 rfl (fun w => absurd w (by decide)) (fun _ => ?_)
  refine lv_aload_n hx hb dJ5_isLatin1_aae02_6 rfl (lv_at hl 0 rfl) ?_
  refine sb_g F hK hO 1 (by decide) rfl tf_A22 rfl dJ5_isLatin1_aae02_7 ?_
  refine lv_if_ne (tgt := 17) hx hb dJ5_isLatin1_aae02_10 rfl (fun w => absurd rfl w) (fun _ => ?_)
  refine lv_iconst (v := 1) hx hb dJ5_isLatin1_aae02_13 rfl ?_
  refine lv_goto (tgt := 18) hx hb dJ5_isLatin1_aae02_14 rfl ?_
  exact W.zret hx hb hr (by decide) (fun t e1 e2 => ⟨_, rfl, ⟨e1, rfl⟩, by rw [e1]; exact Nat.le_refl _, fun q _ _ => by rw [e1]⟩) (fun q hq => by cases hq) dJ5_isLatin1_aae02_18
theorem tx_gval : sb_met l B0 yJ5_getValue_6d5f1 cJ5_getValue_6d5f1 1 (some (.array .byte)) 1 0 0 [.ref a] (fun U => sb_B D cB B0 a v n mm U U.heap) (fun x st t => t.heap = st.heap ∧ x = some (.ref v)) sb_no := by
  refine sb_of (by decide) (fun p e s m below meth c F hB => ?_)
  obtain ⟨hx, hb, hml, hr, hlocks, hts, hown⟩ := id F
  obtain ⟨hK, ⟨k, hO⟩, hY, b1, b2, b3, b4, b5, hX⟩ := id hB
  have hl := lv_entry ([.ref a]) (n := 1) (Nat.le_of_ble_eq_true rfl)
  rw [lg_entry_eq]
  generalize (lg_sl ([.ref a]) ++ List.replicate (1 - (lg_sl ([.ref a])).length) Slot.unset).toArray = ls at hl ⊢
  have hl : lv_has ls 1 [(0, .ref a)] := hl
  refine lv_aload_n hx hb dJ5_getValue_6d5f1_0 rfl (lv_at hl 0 rfl) ?_
  refine sb_g F hK hO 0 (by decide) rfl tf_A15 rfl dJ5_getValue_6d5f1_1 ?_
  exact W.aret hx hb hr (Or.inr ⟨_, rfl⟩) (Or.inr ⟨_, rfl⟩) (fun t e1 e2 => ⟨_, rfl, ⟨e1, rfl⟩, by rw [e1]; exact Nat.le_refl _, fun q _ _ => by rw [e1]⟩) (fun q hq => by cases hq) dJ5_getValue_6d5f1_4
theorem tx_alen : sb_met l B0 yJ5_length_8abf5 cJ5_length_8abf5 1 (some .int) 1 0 0 [.ref a] (fun U => sb_B D cB B0 a v n mm U U.heap) (fun x st t => t.heap = st.heap ∧ x = some (.int (nI n))) sb_no := by
  refine sb_of (by decide) (fun p e s m below meth c F hB => ?_)
  obtain ⟨hx, hb, hml, hr, hlocks, hts, hown⟩ := id F
  obtain ⟨hK, ⟨k, hO⟩, hY, b1, b2, b3, b4, b5, hX⟩ := id hB
  have hl := lv_entry ([.ref a]) (n := 1) (Nat.le_of_ble_eq_true rfl)
  rw [lg_entry_eq]
  generalize (lg_sl ([.ref a]) ++ List.replicate (1 - (lg_sl ([.ref a])).length) Slot.unset).toArray = ls at hl ⊢
  have hl : lv_has ls 1 [(0, .ref a)] := hl
  refine lv_aload_n hx hb dJ5_length_8abf5_0 rfl (lv_at hl 0 rfl) ?_
  refine sb_g F hK hO 3 (by decide) rfl tf_A79 rfl dJ5_length_8abf5_1 ?_
  exact W.iret hx hb hr (fun t e1 e2 => ⟨_, rfl, ⟨e1, rfl⟩, by rw [e1]; exact Nat.le_refl _, fun q _ _ => by rw [e1]⟩) (fun q hq => by cases hq) dJ5_length_8abf5_4
/-- the new length: old and the larger of what is wanted and what is preferred -/
theorem tx_nlen {x y z : Nat} (hx0 : 0 < x) (hx : x ≤ 4096) (hy : y ≤ 4096) (hz : z ≤ 5000) : sb_met l B0 yJ8_newLength_cabcc cJ8_newLength_cabcc 4 (some .int) 2 0 0 [.int (nI x), .int (nI y), .int (nI z)] (fun _ => True) (fun r st t => t.heap = st.heap ∧ r = some (.int (nI (x + max y z)))) sb_no := by
  refine sb_of (by decide) (fun p e s m below meth c F _ => ?_)
  obtain ⟨hxx, hb, hml, hr, hlocks, hts, hown⟩ := id F
  have hl := lv_entry ([.int (nI x), .int (nI y), .int (nI z)]) (n := 4) (Nat.le_of_ble_eq_true rfl)
  rw [lg_entry_eq]
  generalize (lg_sl ([.int (nI x), .int (nI y), .int (nI z)]) ++ List.replicate (4 - (lg_sl ([.int (nI x), .int (nI y), .int (nI z)])).length) Slot.unset).toArray = ls at hl ⊢
  have hl : lv_has ls 4 [(0, .int (nI x)), (1, .int (nI y)), (2, .int (nI z))] := hl
  refine lv_iload_n hxx hb dJ8_newLength_cabcc_0 rfl (lv_at hl 0 rfl) ?_
  refine lv_iload_n hxx hb dJ8_newLength_cabcc_1 rfl (lv_at hl 1 rfl) ?_
  refine lv_iload_n hxx hb dJ8_newLength_cabcc_2 rfl (lv_at hl 2 rfl) ?_
  refine va_mmax (R := sb_room 2 0 0) (rest := [.int (nI x)]) hxx hb (hml.trans hl.1.symm) hown (hts _ (sb_tb_i tl_AS194 rfl)) (hts _ (sb_tb_i (am_t1 am_mx1) rfl)) (hts _ (sb_tb_i (am_t1 am_mx5) rfl)) (hts _ (sb_tb_i (am_t1 am_mx2) rfl)) (show 1 ≤ 2 by omega) (show 1 + 0 + 13 ≤ 80 by omega) (show 0 ≤ 0 by omega) (show 0 ≤ 0 by omega) dJ8_newLength_cabcc_3 ?_
  have em : (if nI y < nI z then nI z else nI y) = nI (max y z) := dq_max (by omega) (by omega)
  rw [em]
  refine lv_iadd hxx hb dJ8_newLength_cabcc_6 ?_
  rw [nI_add]
  refine lv_istore_n (lv' := [(3, .int (nI (x + max y z))), (0, .int (nI x)), (1, .int (nI y)), (2, .int (nI z))]) hxx hb dJ8_newLength_cabcc_7 rfl hl (by decide) rfl (fun ls hl => ?_)
  refine lv_iconst (v := 0) hxx hb dJ8_newLength_cabcc_8 rfl ?_
  refine lv_iload_n hxx hb dJ8_newLength_cabcc_9 rfl (lv_at hl 0 rfl) ?_
  have hpos : ¬ nI (x + max y z) ≤ 0 := fun w => by
    have := (dq_le (b := 0) (by omega) (by omega)).mp w
    omega
  refine lv_icmp_ge (tgt := 21) hxx hb dJ8_newLength_cabcc_10 rfl (fun w => absurd w hpos) (fun _ => ?_)
  refine lv_iload_n hxx hb dJ8_newLength_cabcc_13 rfl (lv_at hl 0 rfl) ?_
  refine lv_ldc hxx hb hown (hts _ (sb_tb_i tk_200 rfl)) dJ8_newLength_cabcc_14 ?_
  refine lv_icmp_gt (tgt := 21) hxx hb dJ8_newLength_cabcc_16 rfl (fun w => absurd w ?_) (fun _ => ?_)
  · intro w
    have := (dq_lt (a := 2147483639) (by omega) (by omega)).mp w
    omega
  · refine lv_iload_n hxx hb dJ8_newLength_cabcc_19 rfl (lv_at hl 0 rfl) ?_
    exact W.iret hxx hb hr (fun t e1 e2 => ⟨_, rfl, ⟨e1, rfl⟩, by rw [e1]; exact Nat.le_refl _, fun q _ _ => by rw [e1]⟩) (fun q hq => by cases hq) dJ8_newLength_cabcc_20
/-- newCapacity -/
theorem tx_ncap {q : Nat} (hm0 : 0 < mm) (hq : mm < q) (hq2 : q ≤ 4096) : sb_met l B0 yJ5_newCapacity_0f7a4 cJ5_newCapacity_0f7a4 6 (some .int) 3 0 0 [.ref a, .int (nI q)] (fun U => sb_B D cB B0 a v n mm U U.heap) (fun r st t => t.heap = st.heap ∧ r = some (.int (nI (mm + max (q - mm) (mm + 2))))) sb_no := by
  refine sb_of (by decide) (fun p e s m below meth c F hB => ?_)
  obtain ⟨hx, hb, hml, hr, hlocks, hts, hown⟩ := id F
  obtain ⟨hK, ⟨k, hO⟩, hY, b1, b2, b3, b4, b5, hX⟩ := id hB
  have sh0 : ∀ z : Nat, (nI z) <<< ((0 : Int32) &&& 31) = nI z := fun z => sb_shl0 (nI z)
  have sr0 : ∀ z : Nat, (nI z) >>> ((0 : Int32) &&& 31) = nI z := fun z => am_shr0
  have hl := lv_entry ([.ref a, .int (nI q)]) (n := 6) (Nat.le_of_ble_eq_true rfl)
  rw [lg_entry_eq]
  generalize (lg_sl ([.ref a, .int (nI q)]) ++ List.replicate (6 - (lg_sl ([.ref a, .int (nI q)])).length) Slot.unset).toArray = ls at hl ⊢
  have hl : lv_has ls 6 [(0, .ref a), (1, .int (nI q))] := hl
  refine lv_aload_n hx hb dJ5_newCapacity_0f7a4_0 rfl (lv_at hl 0 rfl) ?_
  refine sb_g F hK hO 0 (by decide) rfl tf_A15 rfl dJ5_newCapacity_0f7a4_1 ?_
  refine sb_yl F hK hY dJ5_newCapacity_0f7a4_4 ?_
  refine lv_istore_n (lv' := [(2, .int (nI mm)), (0, .ref a), (1, .int (nI q))]) hx hb dJ5_newCapacity_0f7a4_5 rfl hl (by decide) rfl (fun ls hl => ?_)
  refine lv_iload_n hx hb dJ5_newCapacity_0f7a4_6 rfl (lv_at hl 2 rfl) ?_
  refine lv_aload_n hx hb dJ5_newCapacity_0f7a4_7 rfl (lv_at hl 1 rfl) ?_
  refine sb_g F hK hO 1 (by decide) rfl tf_A22 rfl dJ5_newCapacity_0f7a4_8 ?_
  refine lv_ishl hx hb dJ5_newCapacity_0f7a4_11 ?_
  rw [sh0]
  refine lv_istore_n (lv' := [(3, .int (nI q)), (2, .int (nI mm)), (0, .ref a), (1, .int (nI q))]) hx hb dJ5_newCapacity_0f7a4_12 rfl hl (by decide) rfl (fun ls hl => ?_)
  refine lv_iload_n hx hb dJ5_newCapacity_0f7a4_13 rfl (lv_at hl 0 rfl) ?_
  refine lv_iload_n hx hb dJ5_newCapacity_0f7a4_14 rfl (lv_at hl 1 rfl) ?_
  refine lv_isub hx hb dJ5_newCapacity_0f7a4_15 ?_
  rw [pk_sub (by omega)]
  refine lv_istore (lv' := [(4, .int (nI (q - mm))), (3, .int (nI q)), (2, .int (nI mm)), (0, .ref a), (1, .int (nI q))]) hx hb dJ5_newCapacity_0f7a4_16 hl (by decide) rfl (fun ls hl => ?_)
  refine lv_iload_n hx hb dJ5_newCapacity_0f7a4_18 rfl (lv_at hl 2 rfl) ?_
  refine lv_iload hx hb dJ5_newCapacity_0f7a4_19 (lv_at hl 0 rfl) ?_
  refine lv_iload_n hx hb dJ5_newCapacity_0f7a4_21 rfl (lv_at hl 2 rfl) ?_
  refine lv_iconst (v := 2) hx hb dJ5_newCapacity_0f7a4_22 rfl ?_
  refine lv_aload_n hx hb dJ5_newCapacity_0f7a4_23 rfl (lv_at hl 3 rfl) ?_
  refine sb_g F hK hO 1 (by decide) rfl tf_A22 rfl dJ5_newCapacity_0f7a4_24 ?_
  refine lv_ishl hx hb dJ5_newCapacity_0f7a4_27 ?_
  refine lv_iadd hx hb dJ5_newCapacity_0f7a4_28 ?_
  have e2 : nI mm + ((2 : Int32) <<< ((0 : Int32) &&& 31)) = nI (mm + 2) := by
    rw [show (2 : Int32) = nI 2 from rfl, sh0, nI_add]
  rw [e2]
  refine sb_callS (B0 := B0) (As := [.int (nI mm), .int (nI (q - mm)), .int (nI (mm + 2))]) (st := []) (k := 3) (d := 2) (mc := 0) (ms := 0) F (tx_nlen hm0 b3 (by omega) (by omega)) tc_nlen ti_AS tl_A114 tS_nlen ⟨by decide, by decide, by decide +kernel⟩ rfl dJ5_newCapacity_0f7a4_29 hl.1 (by decide) (show 0 ≤ 8 by omega) (show 2 + 1 ≤ 3 by omega) (show 40 * (2 + 1) ≤ 40 * 3 by omega) (show 0 + 0 ≤ 0 by omega) (show 0 + 0 ≤ 0 by omega) tx_pvT (fun _ _ _ => trivial) (fun q hq => by cases hq) ?_
  intro x st0 t locs1 e0 q1 hal z o hL
  obtain ⟨q1, q2⟩ := q1
  subst q2
  rw [e0] at q1
  rw [q1]
  refine lv_istore (lv' := [(5, .int (nI (mm + max (q - mm) (mm + 2)))), (4, .int (nI (q - mm))), (3, .int (nI q)), (2, .int (nI mm)), (0, .ref a), (1, .int (nI q))]) hx hb dJ5_newCapacity_0f7a4_32 hl (by decide) rfl (fun ls hl => ?_)
  refine lv_iload hx hb dJ5_newCapacity_0f7a4_34 (lv_at hl 0 rfl) ?_
  refine lv_ldc hx hb hown (hts _ (sb_tb_i tk_39 rfl)) dJ5_newCapacity_0f7a4_36 ?_
  have ne : ¬ nI (mm + max (q - mm) (mm + 2)) ≠ 2147483647 → False := fun w => by
    have := (nI_eq (b := 2147483647) (by omega) (by omega)).mp (Decidable.not_not.mp w)
    omega
  refine lv_icmp_ne (tgt := 51) hx hb dJ5_newCapacity_0f7a4_38 rfl (fun _ => ?_) (fun w => (ne (fun h => h w)).elim)
  refine lv_iload hx hb dJ5_newCapacity_0f7a4_51 (lv_at hl 0 rfl) ?_
  refine lv_aload_n hx hb dJ5_newCapacity_0f7a4_53 rfl (lv_at hl 4 rfl) ?_
  refine sb_g F hK hO 1 (by decide) rfl tf_A22 rfl dJ5_newCapacity_0f7a4_54 ?_
  refine lv_ishr hx hb dJ5_newCapacity_0f7a4_57 ?_
  rw [sr0]
  exact W.iret hx hb hr (fun t e1 e2 => ⟨_, rfl, ⟨e1, rfl⟩, by rw [e1]; exact Nat.le_refl _, fun q _ _ => by rw [e1]⟩) hL dJ5_newCapacity_0f7a4_58
end SP94
