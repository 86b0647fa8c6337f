/-! text(): a string is appended -/
theorem dJ0_getBytes_840e7_0 : decode cJ0_getBytes_840e7 0 = .ok (.aload_n 0, 1) := by decide +kernel
theorem dJ0_getBytes_840e7_1 : decode cJ0_getBytes_840e7 1 = .ok (.invokevirtual 335, 3) := by decide +kernel
theorem dJ0_getBytes_840e7_4 : decode cJ0_getBytes_840e7 4 = .ok (.iload_n 3, 1) := by decide +kernel
theorem dJ0_getBytes_840e7_5 : decode cJ0_getBytes_840e7 5 = .ok (.if_icmp .ne 23, 3) := by decide +kernel
theorem dJ0_getBytes_840e7_8 : decode cJ0_getBytes_840e7 8 = .ok (.aload_n 0, 1) := by decide +kernel
theorem dJ0_getBytes_840e7_9 : decode cJ0_getBytes_840e7 9 = .ok (.getfield 9, 3) := by decide +kernel
theorem dJ0_getBytes_840e7_12 : decode cJ0_getBytes_840e7 12 = .ok (.iconst 0, 1) := by decide +kernel
theorem dJ0_getBytes_840e7_13 : decode cJ0_getBytes_840e7 13 = .ok (.aload_n 1, 1) := by decide +kernel
theorem dJ0_getBytes_840e7_14 : decode cJ0_getBytes_840e7 14 = .ok (.iload_n 2, 1) := by decide +kernel
theorem dJ0_getBytes_840e7_15 : decode cJ0_getBytes_840e7 15 = .ok (.iload_n 3, 1) := by decide +kernel
theorem dJ0_getBytes_840e7_16 : decode cJ0_getBytes_840e7 16 = .ok (.ishl, 1) := by decide +kernel
theorem dJ0_getBytes_840e7_17 : decode cJ0_getBytes_840e7 17 = .ok (.aload_n 0, 1) := by decide +kernel
theorem dJ0_getBytes_840e7_18 : decode cJ0_getBytes_840e7 18 = .ok (.getfield 9, 3) := by decide +kernel
theorem dJ0_getBytes_840e7_21 : decode cJ0_getBytes_840e7 21 = .ok (.arraylength, 1) := by decide +kernel
theorem dJ0_getBytes_840e7_22 : decode cJ0_getBytes_840e7 22 = .ok (.invokestatic 212, 3) := by decide +kernel
theorem dJ0_getBytes_840e7_25 : decode cJ0_getBytes_840e7 25 = .ok (.goto 18, 3) := by decide +kernel
theorem dJ0_getBytes_840e7_28 : decode cJ0_getBytes_840e7 28 = .ok (.aload_n 0, 1) := by decide +kernel
theorem dJ0_getBytes_840e7_29 : decode cJ0_getBytes_840e7 29 = .ok (.getfield 9, 3) := by decide +kernel
theorem dJ0_getBytes_840e7_32 : decode cJ0_getBytes_840e7 32 = .ok (.iconst 0, 1) := by decide +kernel
theorem dJ0_getBytes_840e7_33 : decode cJ0_getBytes_840e7 33 = .ok (.aload_n 1, 1) := by decide +kernel
theorem dJ0_getBytes_840e7_34 : decode cJ0_getBytes_840e7 34 = .ok (.iload_n 2, 1) := by decide +kernel
theorem dJ0_getBytes_840e7_35 : decode cJ0_getBytes_840e7 35 = .ok (.aload_n 0, 1) := by decide +kernel
theorem dJ0_getBytes_840e7_36 : decode cJ0_getBytes_840e7 36 = .ok (.getfield 9, 3) := by decide +kernel
theorem dJ0_getBytes_840e7_39 : decode cJ0_getBytes_840e7 39 = .ok (.arraylength, 1) := by decide +kernel
theorem dJ0_getBytes_840e7_40 : decode cJ0_getBytes_840e7 40 = .ok (.invokestatic 106, 3) := by decide +kernel
theorem dJ0_getBytes_840e7_43 : decode cJ0_getBytes_840e7 43 = .ok (.return_, 1) := by decide +kernel
theorem dJ5_inflateIfNeededFor_a7421_0 : decode cJ5_inflateIfNeededFor_a7421 0 = .ok (.getstatic 18, 3) := by decide +kernel
theorem dJ5_inflateIfNeededFor_a7421_3 : decode cJ5_inflateIfNeededFor_a7421 3 = .ok (.ifCond .eq 18, 3) := by decide +kernel
theorem dJ5_inflateIfNeededFor_a7421_6 : decode cJ5_inflateIfNeededFor_a7421 6 = .ok (.aload_n 0, 1) := by decide +kernel
theorem dJ5_inflateIfNeededFor_a7421_7 : decode cJ5_inflateIfNeededFor_a7421 7 = .ok (.getfield 22, 3) := by decide +kernel
theorem dJ5_inflateIfNeededFor_a7421_10 : decode cJ5_inflateIfNeededFor_a7421 10 = .ok (.aload_n 1, 1) := by decide +kernel
theorem dJ5_inflateIfNeededFor_a7421_11 : decode cJ5_inflateIfNeededFor_a7421 11 = .ok (.invokevirtual 40, 3) := by decide +kernel
theorem dJ5_inflateIfNeededFor_a7421_14 : decode cJ5_inflateIfNeededFor_a7421 14 = .ok (.if_icmp .eq 7, 3) := by decide +kernel
theorem dJ5_inflateIfNeededFor_a7421_17 : decode cJ5_inflateIfNeededFor_a7421 17 = .ok (.aload_n 0, 1) := by decide +kernel
theorem dJ5_inflateIfNeededFor_a7421_18 : decode cJ5_inflateIfNeededFor_a7421 18 = .ok (.invokevirtual 195, 3) := by decide +kernel
theorem dJ5_inflateIfNeededFor_a7421_21 : decode cJ5_inflateIfNeededFor_a7421 21 = .ok (.return_, 1) := by decide +kernel
theorem dJ5_putStringAt_47b60_0 : decode cJ5_putStringAt_47b60 0 = .ok (.aload_n 0, 1) := by decide +kernel
theorem dJ5_putStringAt_47b60_1 : decode cJ5_putStringAt_47b60 1 = .ok (.aload_n 2, 1) := by decide +kernel
theorem dJ5_putStringAt_47b60_2 : decode cJ5_putStringAt_47b60 2 = .ok (.invokevirtual 397, 3) := by decide +kernel
theorem dJ5_putStringAt_47b60_5 : decode cJ5_putStringAt_47b60 5 = .ok (.aload_n 2, 1) := by decide +kernel
theorem dJ5_putStringAt_47b60_6 : decode cJ5_putStringAt_47b60 6 = .ok (.aload_n 0, 1) := by decide +kernel
theorem dJ5_putStringAt_47b60_7 : decode cJ5_putStringAt_47b60 7 = .ok (.getfield 15, 3) := by decide +kernel
theorem dJ5_putStringAt_47b60_10 : decode cJ5_putStringAt_47b60 10 = .ok (.iload_n 1, 1) := by decide +kernel
theorem dJ5_putStringAt_47b60_11 : decode cJ5_putStringAt_47b60 11 = .ok (.aload_n 0, 1) := by decide +kernel
theorem dJ5_putStringAt_47b60_12 : decode cJ5_putStringAt_47b60 12 = .ok (.getfield 22, 3) := by decide +kernel
theorem dJ5_putStringAt_47b60_15 : decode cJ5_putStringAt_47b60 15 = .ok (.invokevirtual 399, 3) := by decide +kernel
theorem dJ5_putStringAt_47b60_18 : decode cJ5_putStringAt_47b60 18 = .ok (.return_, 1) := by decide +kernel
theorem dJ5_append_cf1ce_0 : decode cJ5_append_cf1ce 0 = .ok (.aload_n 1, 1) := by decide +kernel
theorem dJ5_append_cf1ce_1 : decode cJ5_append_cf1ce 1 = .ok (.ifnonnull 8, 3) := by decide +kernel
theorem dJ5_append_cf1ce_4 : decode cJ5_append_cf1ce 4 = .ok (.aload_n 0, 1) := by decide +kernel
theorem dJ5_append_cf1ce_5 : decode cJ5_append_cf1ce 5 = .ok (.invokevirtual 204, 3) := by decide +kernel
theorem dJ5_append_cf1ce_8 : decode cJ5_append_cf1ce 8 = .ok (.areturn, 1) := by decide +kernel
theorem dJ5_append_cf1ce_9 : decode cJ5_append_cf1ce 9 = .ok (.aload_n 1, 1) := by decide +kernel
theorem dJ5_append_cf1ce_10 : decode cJ5_append_cf1ce 10 = .ok (.invokevirtual 32, 3) := by decide +kernel
theorem dJ5_append_cf1ce_13 : decode cJ5_append_cf1ce 13 = .ok (.istore_n 2, 1) := by decide +kernel
theorem dJ5_append_cf1ce_14 : decode cJ5_append_cf1ce 14 = .ok (.aload_n 0, 1) := by decide +kernel
theorem dJ5_append_cf1ce_15 : decode cJ5_append_cf1ce 15 = .ok (.aload_n 0, 1) := by decide +kernel
theorem dJ5_append_cf1ce_16 : decode cJ5_append_cf1ce 16 = .ok (.getfield 79, 3) := by decide +kernel
theorem dJ5_append_cf1ce_19 : decode cJ5_append_cf1ce 19 = .ok (.iload_n 2, 1) := by decide +kernel
theorem dJ5_append_cf1ce_20 : decode cJ5_append_cf1ce 20 = .ok (.iadd, 1) := by decide +kernel
theorem dJ5_append_cf1ce_21 : decode cJ5_append_cf1ce 21 = .ok (.invokevirtual 100, 3) := by decide +kernel
theorem dJ5_append_cf1ce_24 : decode cJ5_append_cf1ce 24 = .ok (.aload_n 0, 1) := by decide +kernel
theorem dJ5_append_cf1ce_25 : decode cJ5_append_cf1ce 25 = .ok (.aload_n 0, 1) := by decide +kernel
theorem dJ5_append_cf1ce_26 : decode cJ5_append_cf1ce 26 = .ok (.getfield 79, 3) := by decide +kernel
theorem dJ5_append_cf1ce_29 : decode cJ5_append_cf1ce 29 = .ok (.aload_n 1, 1) := by decide +kernel
theorem dJ5_append_cf1ce_30 : decode cJ5_append_cf1ce 30 = .ok (.invokevirtual 208, 3) := by decide +kernel
theorem dJ5_append_cf1ce_33 : decode cJ5_append_cf1ce 33 = .ok (.aload_n 0, 1) := by decide +kernel
theorem dJ5_append_cf1ce_34 : decode cJ5_append_cf1ce 34 = .ok (.dup, 1) := by decide +kernel
theorem dJ5_append_cf1ce_35 : decode cJ5_append_cf1ce 35 = .ok (.getfield 79, 3) := by decide +kernel
theorem dJ5_append_cf1ce_38 : decode cJ5_append_cf1ce 38 = .ok (.iload_n 2, 1) := by decide +kernel
theorem dJ5_append_cf1ce_39 : decode cJ5_append_cf1ce 39 = .ok (.iadd, 1) := by decide +kernel
theorem dJ5_append_cf1ce_40 : decode cJ5_append_cf1ce 40 = .ok (.putfield 79, 3) := by decide +kernel
theorem dJ5_append_cf1ce_43 : decode cJ5_append_cf1ce 43 = .ok (.aload_n 0, 1) := by decide +kernel
theorem dJ5_append_cf1ce_44 : decode cJ5_append_cf1ce 44 = .ok (.areturn, 1) := by decide +kernel
theorem dJ4_append_15ec4_0 : decode cJ4_append_15ec4 0 = .ok (.aload_n 0, 1) := by decide +kernel
theorem dJ4_append_15ec4_1 : decode cJ4_append_15ec4 1 = .ok (.aload_n 1, 1) := by decide +kernel
theorem dJ4_append_15ec4_2 : decode cJ4_append_15ec4 2 = .ok (.invokespecial 29, 3) := by decide +kernel
theorem dJ4_append_15ec4_5 : decode cJ4_append_15ec4 5 = .ok (.pop, 1) := by decide +kernel
theorem dJ4_append_15ec4_6 : decode cJ4_append_15ec4 6 = .ok (.aload_n 0, 1) := by decide +kernel
theorem dJ4_append_15ec4_7 : decode cJ4_append_15ec4 7 = .ok (.areturn, 1) := by decide +kernel
set_option maxRecDepth 1000000 in
theorem tc_gby : (Jvm.Cond.code ({ cls := "java/lang/String", name := "getBytes", desc := "([BIB)V" } : Jvm.MethodName) prog_20_method_147_code (4 : Nat) (Option.none : Option Jvm.ClassFile.FieldType)) ∈ lw_tbl := am_t1 (List.mem_of_getElem? (i := 1208) (by decide +kernel))
set_option maxRecDepth 1000000 in
theorem tc_inf : (Jvm.Cond.code ({ cls := "java/lang/AbstractStringBuilder", name := "inflateIfNeededFor", desc := "(Ljava/lang/String;)V" } : Jvm.MethodName) prog_14_method_71_code (2 : Nat) (Option.none : Option Jvm.ClassFile.FieldType)) ∈ lw_tbl := am_t1 (List.mem_of_getElem? (i := 1184) (by decide +kernel))
set_option maxRecDepth 1000000 in
theorem tc_pst : (Jvm.Cond.code ({ cls := "java/lang/AbstractStringBuilder", name := "putStringAt", desc := "(ILjava/lang/String;)V" } : Jvm.MethodName) prog_14_method_73_code (3 : Nat) (Option.none : Option Jvm.ClassFile.FieldType)) ∈ lw_tbl := am_t1 (List.mem_of_getElem? (i := 1180) (by decide +kernel))
set_option maxRecDepth 1000000 in
theorem tc_aS : (Jvm.Cond.code ({ cls := "java/lang/AbstractStringBuilder", name := "append", desc := "(Ljava/lang/String;)Ljava/lang/AbstractStringBuilder;" } : Jvm.MethodName) prog_14_method_22_code (3 : Nat) (Option.some (Jvm.ClassFile.FieldType.object "java/lang/AbstractStringBuilder"))) ∈ lw_tbl := am_t1 (List.mem_of_getElem? (i := 1131) (by decide +kernel))
set_option maxRecDepth 1000000 in
theorem tc_bS : (Jvm.Cond.code ({ cls := "java/lang/StringBuilder", name := "append", desc := "(Ljava/lang/String;)Ljava/lang/StringBuilder;" } : Jvm.MethodName) prog_21_method_7_code (2 : Nat) (Option.some (Jvm.ClassFile.FieldType.object "java/lang/StringBuilder"))) ∈ lw_tbl := am_t1 (List.mem_of_getElem? (i := 1128) (by decide +kernel))
set_option maxRecDepth 1000000 in
theorem tl_S212 : (Jvm.Cond.methodLink "java/lang/String" (212 : Nat) ({ cls := "java/lang/System", name := "arraycopy", desc := "(Ljava/lang/Object;ILjava/lang/Object;II)V" } : Jvm.MethodName)) ∈ lw_tbl := am_t1 (List.mem_of_getElem? (i := 1209) (by decide +kernel))
set_option maxRecDepth 1000000 in
theorem tl_A40 : (Jvm.Cond.methodLink "java/lang/AbstractStringBuilder" (40 : Nat) ({ cls := "java/lang/String", name := "coder", desc := "()B" } : Jvm.MethodName)) ∈ lw_tbl := am_t1 (List.mem_of_getElem? (i := 1185) (by decide +kernel))
set_option maxRecDepth 1000000 in
theorem tl_A397 : (Jvm.Cond.methodLink "java/lang/AbstractStringBuilder" (397 : Nat) ({ cls := "java/lang/AbstractStringBuilder", name := "inflateIfNeededFor", desc := "(Ljava/lang/String;)V" } : Jvm.MethodName)) ∈ lw_tbl := am_t1 (List.mem_of_getElem? (i := 1181) (by decide +kernel))
set_option maxRecDepth 1000000 in
theorem tl_A399 : (Jvm.Cond.methodLink "java/lang/AbstractStringBuilder" (399 : Nat) ({ cls := "java/lang/String", name := "getBytes", desc := "([BIB)V" } : Jvm.MethodName)) ∈ lw_tbl := am_t1 (List.mem_of_getElem? (i := 1205) (by decide +kernel))
set_option maxRecDepth 1000000 in
theorem tl_A32 : (Jvm.Cond.methodLink "java/lang/AbstractStringBuilder" (32 : Nat) ({ cls := "java/lang/String", name := "length", desc := "()I" } : Jvm.MethodName)) ∈ lw_tbl := am_t1 (List.mem_of_getElem? (i := 1176) (by decide +kernel))
set_option maxRecDepth 1000000 in
theorem tl_A100 : (Jvm.Cond.methodLink "java/lang/AbstractStringBuilder" (100 : Nat) ({ cls := "java/lang/AbstractStringBuilder", name := "ensureCapacityInternal", desc := "(I)V" } : Jvm.MethodName)) ∈ lw_tbl := am_t1 (List.mem_of_getElem? (i := 1136) (by decide +kernel))
set_option maxRecDepth 1000000 in
theorem tl_A208 : (Jvm.Cond.methodLink "java/lang/AbstractStringBuilder" (208 : Nat) ({ cls := "java/lang/AbstractStringBuilder", name := "putStringAt", desc := "(ILjava/lang/String;)V" } : Jvm.MethodName)) ∈ lw_tbl := am_t1 (List.mem_of_getElem? (i := 1177) (by decide +kernel))
set_option maxRecDepth 1000000 in
theorem tl_B29 : (Jvm.Cond.methodLink "java/lang/StringBuilder" (29 : Nat) ({ cls := "java/lang/AbstractStringBuilder", name := "append", desc := "(Ljava/lang/String;)Ljava/lang/AbstractStringBuilder;" } : Jvm.MethodName)) ∈ lw_tbl := am_t1 (List.mem_of_getElem? (i := 1129) (by decide +kernel))
set_option maxRecDepth 1000000 in
theorem tm_gby : (Jvm.Cond.instanceMethod ({ cls := "java/lang/String", name := "getBytes", desc := "([BIB)V" } : Jvm.MethodName)) ∈ lw_tbl := am_t1 (List.mem_of_getElem? (i := 1206) (by decide +kernel))
set_option maxRecDepth 1000000 in
theorem tm_inf : (Jvm.Cond.instanceMethod ({ cls := "java/lang/AbstractStringBuilder", name := "inflateIfNeededFor", desc := "(Ljava/lang/String;)V" } : Jvm.MethodName)) ∈ lw_tbl := am_t1 (List.mem_of_getElem? (i := 1183) (by decide +kernel))
set_option maxRecDepth 1000000 in
theorem tm_pst : (Jvm.Cond.instanceMethod ({ cls := "java/lang/AbstractStringBuilder", name := "putStringAt", desc := "(ILjava/lang/String;)V" } : Jvm.MethodName)) ∈ lw_tbl := am_t1 (List.mem_of_getElem? (i := 1179) (by decide +kernel))
set_option maxRecDepth 1000000 in
theorem tm_aS : (Jvm.Cond.instanceMethod ({ cls := "java/lang/AbstractStringBuilder", name := "append", desc := "(Ljava/lang/String;)Ljava/lang/AbstractStringBuilder;" } : Jvm.MethodName)) ∈ lw_tbl := am_t1 (List.mem_of_getElem? (i := 1130) (by decide +kernel))
set_option maxRecDepth 1000000 in
theorem tm_bS : (Jvm.Cond.instanceMethod ({ cls := "java/lang/StringBuilder", name := "append", desc := "(Ljava/lang/String;)Ljava/lang/StringBuilder;" } : Jvm.MethodName)) ∈ lw_tbl := am_t1 (List.mem_of_getElem? (i := 1126) (by decide +kernel))
set_option maxRecDepth 1000000 in
theorem te_gby : (Jvm.Cond.selects "java/lang/String" ({ cls := "java/lang/String", name := "getBytes", desc := "([BIB)V" } : Jvm.MethodName) ({ cls := "java/lang/String", name := "getBytes", desc := "([BIB)V" } : Jvm.MethodName)) ∈ lw_tbl := am_t1 (List.mem_of_getElem? (i := 1207) (by decide +kernel))
set_option maxRecDepth 1000000 in
theorem te_bS : (Jvm.Cond.selects "java/lang/StringBuilder" ({ cls := "java/lang/StringBuilder", name := "append", desc := "(Ljava/lang/String;)Ljava/lang/StringBuilder;" } : Jvm.MethodName) ({ cls := "java/lang/StringBuilder", name := "append", desc := "(Ljava/lang/String;)Ljava/lang/StringBuilder;" } : Jvm.MethodName)) ∈ lw_tbl := am_t1 (List.mem_of_getElem? (i := 1127) (by decide +kernel))
set_option maxRecDepth 1000000 in
theorem tw_sup : (Jvm.Cond.superclass "java/lang/StringBuilder" "java/lang/AbstractStringBuilder") ∈ lw_tbl := am_t1 (List.mem_of_getElem? (i := 1124) (by decide +kernel))
set_option maxRecDepth 1000000 in
theorem tq_aS : (Jvm.Cond.sameMethod "java/lang/AbstractStringBuilder" "java/lang/AbstractStringBuilder" "append" "(Ljava/lang/String;)Ljava/lang/AbstractStringBuilder;") ∈ lw_tbl := am_t1 (List.mem_of_getElem? (i := 1374) (by decide +kernel))
section SP96
variable {p : Program} {l : Launch} {e : Env} {Rm : Room} {s : State} {m : MethodId} {args : Array Value} {below : List Frame} {meth : Method} {c : Code} {Q : State → Prop} {H : Heap} {locs : List Loc} {cs ss pc B0 : Nat} {ls : Array Slot}
variable {own : String} {bc : ByteArray} {nL : Nat} {rt : Option FieldType} {st : List Value} {D : va_G} {cB : ClassId} {a v n mm r v0 w : Nat}
/-- a string's bytes are copied into the builder's -/
theorem sb_cpy (F : sb_fr p s m args meth c own bc nL rt) (hls : ls.size = nL) {index dp : Nat} {f : Nat → Int32} (hK : sb_K D cB s) (hT : va_T .byte v0 w (fun j => .int (f j)) sv_no s H) (hf : ∀ j, j < w → fits .byte (.int (f j)) = true) (hw : w ≤ 1000) (hY : sb_Y cB v mm H) (hdp : dp + w ≤ mm) (hmm : mm ≤ 4096) (hlink : Cond.methodLink own index arraycopyName ∈ lw_tbl) (hframes : 1 ≤ Rm.frames) (hlocals : (st.map fun v => v.category).sum + (nativeFrameWords "java/lang/System" "arraycopy" 5 + 11) ≤ Rm.locals) (hdg : decode bc pc = .ok (.invokestatic index, 3))
    (kk : ∀ (H1 : Heap) (locs1 : List Loc), sb_Y cB v mm H1 → H1.size = H.size → (∀ q, q ≠ v → H1[q]? = H[q]?) → (∀ y ∈ locs1, y ∈ locs ∨ y.base = v) → W p l e Rm s m args below meth c H1 locs1 cs ss Q (F0 m (pc + 3) ls st)) : W p l e Rm s m args below meth c H locs cs ss Q (F0 m pc ls (.int (nI w) :: .int (nI dp) :: .ref v :: .int 0 :: .ref v0 :: st)) := by
  obtain ⟨hx, hb, hml, hr, hlocks, hts, hown⟩ := F
  have c0 : (0 : Int32).toNatClampNeg = 0 := by decide
  have i0 : (0 : Int32).toInt = 0 := rfl
  have iw : (nI w).toInt = w := am_ti (by omega)
  have id' : (nI dp).toInt = dp := am_ti (by omega)
  have cw : (nI w).toNatClampNeg = w := nI_clamp (by omega)
  have cd : (nI dp).toNatClampNeg = dp := nI_clamp (by omega)
  intro T hT2 X
  obtain ⟨scr, hs1, ⟨hs2, k0, hk0, cm0, hkk0⟩, hs3, hs4, hs5, hs6, -⟩ := hT
  obtain ⟨g, y1, y2⟩ := hY
  obtain ⟨-, k1, hk1, cm1, hkk1⟩ := (hK.2 0 _ rfl).1 mm (fun j => .int (g j))
  obtain ⟨vm', X', step⟩ := X.arraycopy hx hown (hts _ (sb_tb_i hlink rfl)) (hts _ (sb_tb_i (am_t1 am_mx7) rfl)) (hts _ (sb_tb_i (am_t1 am_mx6) rfl)) (hts _ (sb_tb_i (am_t1 am_mx8) rfl)) (src := v0) (dst := v) (cs := scr) (cd := vp_cell cB (mm, .inl g)) (srcPos := 0) (destPos := nI dp) (n := nI w) (by rw [hT2]; exact hs1) (by rw [hT2]; exact y1)
    hs2 (fun _ h => by cases h) hs3 (fun h => by cases h) hk0 hk1 hkk0 hkk1 rfl (by decide) (dq_p (by omega)) (dq_p (by omega))
    (by rw [i0, iw]; omega)
    (by rw [id', iw]; show ¬ _ > ((arrV cB mm (fun j => .int (g j))).slots.size : Int); rw [arrV_size]; omega)
    (fun vm₁ hal i hi => by
      rw [cw] at hi
      have e : scr.slots.getD ((0 : Int32).toNatClampNeg + i) .null = .int (f i) := by
        rw [c0, Nat.zero_add, Array.getD_eq_getD_getElem?, hs6 i hi]
        rfl
      refine ⟨?_, ?_⟩
      · rw [e]
        exact hf i hi
      · rw [e]
        exact trivial)
    (g := F0 m pc ls (.int (nI w) :: .int (nI dp) :: .ref v :: .int 0 :: .ref v0 :: st)) rfl (by rw [hml]; exact hls) (rest := st) rfl (by rw [hb]; exact hdg) hframes (by show 2 * 0 + _ + _ ≤ _; omega)
  have e1 : copied scr (vp_cell cB (mm, .inl g)) 0 (nI dp) (nI w) = vp_cell cB (mm, .inl (va_cpy f g (0 : Int32).toNatClampNeg (nI dp).toNatClampNeg (nI w).toNatClampNeg)) := by
    rw [vp_cell_i, vp_cell_i]
    exact va_copiedX (fun z => .int z) scr cB f g (n0 := w) (fun j hj => hs6 j hj) (by rw [c0, cw]; omega)
  rw [e1] at X' step
  have hl : v < H.size := (Array.getElem?_eq_some_iff.mp y1).1
  generalize hz : vp_cell cB (mm, .inl (va_cpy f g (0 : Int32).toNatClampNeg (nI dp).toNatClampNeg (nI w).toNatClampNeg)) = z at X' step
  have hheap : ((T.setVm vm').setCell v z).heap = H.setIfInBounds v z := by rw [← hT2]; rfl
  obtain ⟨t, a1, b1⟩ := kk (H.setIfInBounds v z) _ ⟨va_cpy f g (0 : Int32).toNatClampNeg (nI dp).toNatClampNeg (nI w).toNatClampNeg, by rw [hz]; simp [Array.getElem?_setIfInBounds, hl], fun j => by
    unfold va_cpy
    split
    · rename_i h
      rw [cd, cw] at h
      exact hf _ (by rw [c0, cd]; omega)
    · exact y2 _⟩ (by simp) (fun q hq => by simp [Array.getElem?_setIfInBounds, Ne.symm hq]) (fun y hy => (List.mem_append.mp hy).elim Or.inl (fun h => by
      obtain ⟨z2, -, hz2⟩ := List.mem_map.mp h
      exact Or.inr (by rw [← hz2]))) _ hheap X'
  exact ⟨t, step t a1, b1⟩
/-- String.getBytes: into the builder's bytes -/
theorem tx_gby {dp : Nat} (hB0 : B0 ≤ v) (hdp : dp + w ≤ mm) (hmm : mm ≤ 4096) (hne : ¬ v = v0) (hne2 : ¬ v = r) : sb_met l B0 yJ0_getBytes_840e7 cJ0_getBytes_840e7 4 none 2 0 0 [.ref r, .ref v, .int (nI dp), .int 0] (fun U => sb_K D cB U ∧ sv_S r v0 w U U.heap ∧ sb_Y cB v mm U.heap ∧ sb_X B0 U U.heap) (fun x st t => x = none ∧ sb_Y cB v mm t.heap) (fun _ x => x = v) := by
  refine sb_of (by decide) (fun p e s m below meth c F hP => ?_)
  obtain ⟨hx, hb, hml, hr, hlocks, hts, hown⟩ := id F
  obtain ⟨hK, hS, hY, hX⟩ := hP
  obtain ⟨f, hw, hO, hC, hV, hT, hf⟩ := id hS
  have sh0 : ∀ z : Nat, (nI z) <<< ((0 : Int32) &&& 31) = nI z := fun z => sb_shl0 (nI z)
  have hl := lv_entry ([.ref r, .ref v, .int (nI dp), .int 0]) (n := 4) (Nat.le_of_ble_eq_true rfl)
  rw [lg_entry_eq]
  generalize (lg_sl ([.ref r, .ref v, .int (nI dp), .int 0]) ++ List.replicate (4 - (lg_sl ([.ref r, .ref v, .int (nI dp), .int 0])).length) Slot.unset).toArray = ls at hl ⊢
  have hl : lv_has ls 4 [(0, .ref r), (1, .ref v), (2, .int (nI dp)), (3, .int 0)] := hl
  refine lv_aload_n hx hb dJ0_getBytes_840e7_0 rfl (lv_at hl 0 rfl) ?_
  refine sb_callV (C := "java/lang/String") (As := []) (st := []) (k := 0) (d := 1) (mc := 0) (ms := 0) F (tx_coder (r := r) (v := v0) (w := w)) tc_coder ti_S tl_335 tm_coder (hts _ (sb_tb_i te_coder rfl)) ⟨by decide, by decide, by decide +kernel⟩ rfl (sv_recv hS) dJ0_getBytes_840e7_1 hl.1 (by decide) (show 0 ≤ 8 by omega) (show 1 + 1 ≤ 2 by omega) (show 40 * (1 + 1) ≤ 40 * 2 by omega) (show 0 + 0 ≤ 0 by omega) (show 0 + 0 ≤ 0 by omega) sv_pv (fun U hU hW => sv_go hS hX hU hW) (fun q hq => by cases hq) ?_
  intro x st0 t locs1 e0 q1 hal z o hL
  obtain ⟨q1, q2⟩ := q1
  subst q2
  rw [e0] at q1
  rw [q1]
  refine lv_iload_n hx hb dJ0_getBytes_840e7_4 rfl (lv_at hl 3 rfl) ?_
  refine lv_icmp_ne (tgt := 28) hx hb dJ0_getBytes_840e7_5 rfl (fun w => absurd rfl w) (fun _ => ?_)
  refine lv_aload_n hx hb dJ0_getBytes_840e7_8 rfl (lv_at hl 0 rfl) ?_
  refine sb_getf F hV tf_9 dJ0_getBytes_840e7_9 ?_
  refine lv_iconst (v := 0) hx hb dJ0_getBytes_840e7_12 rfl ?_
  refine lv_aload_n hx hb dJ0_getBytes_840e7_13 rfl (lv_at hl 1 rfl) ?_
  refine lv_iload_n hx hb dJ0_getBytes_840e7_14 rfl (lv_at hl 2 rfl) ?_
  refine lv_iload_n hx hb dJ0_getBytes_840e7_15 rfl (lv_at hl 3 rfl) ?_
  refine lv_ishl hx hb dJ0_getBytes_840e7_16 ?_
  rw [sh0]
  refine lv_aload_n hx hb dJ0_getBytes_840e7_17 rfl (lv_at hl 0 rfl) ?_
  refine sb_getf F hV tf_9 dJ0_getBytes_840e7_18 ?_
  obtain ⟨cell, h1, h2, h3, h4, h5, h6, -⟩ := id hT
  refine W.alen (n := Int32.ofNat w) hx hb h1 h2 h5 rfl rfl dJ0_getBytes_840e7_21 ?_
  refine sb_cpy (st := []) F hl.1 hK hT hf hw hY hdp hmm tl_S212 (show 1 ≤ 2 by omega) (by decide) dJ0_getBytes_840e7_22 (fun H1 locs2 g1 g2 g3 g4 => ?_)
  refine lv_goto (tgt := 43) hx hb dJ0_getBytes_840e7_25 rfl ?_
  exact W.vret hx hb hr (fun t e1 e2 => ⟨_, rfl, ⟨rfl, by rw [e1]; exact g1⟩, by rw [e1, g2]; exact Nat.le_refl _, fun q _ h => by rw [e1]; exact g3 q h⟩) (fun y hy => (g4 y hy).elim (fun h => hL y h) (fun h => by show B0 ≤ y.base; rw [h]; exact hB0)) dJ0_getBytes_840e7_43
end SP96
