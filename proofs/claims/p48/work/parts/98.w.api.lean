/-! text(): append(int) -/
theorem dJ5_append_c97b9_0 : decode cJ5_append_c97b9 0 = .ok (.aload_n 0, 1) := by decide +kernel
theorem dJ5_append_c97b9_1 : decode cJ5_append_c97b9 1 = .ok (.getfield 79, 3) := by decide +kernel
theorem dJ5_append_c97b9_4 : decode cJ5_append_c97b9 4 = .ok (.istore_n 2, 1) := by decide +kernel
theorem dJ5_append_c97b9_5 : decode cJ5_append_c97b9 5 = .ok (.iload_n 2, 1) := by decide +kernel
theorem dJ5_append_c97b9_6 : decode cJ5_append_c97b9 6 = .ok (.iload_n 1, 1) := by decide +kernel
theorem dJ5_append_c97b9_7 : decode cJ5_append_c97b9 7 = .ok (.invokestatic 245, 3) := by decide +kernel
theorem dJ5_append_c97b9_10 : decode cJ5_append_c97b9 10 = .ok (.iadd, 1) := by decide +kernel
theorem dJ5_append_c97b9_11 : decode cJ5_append_c97b9 11 = .ok (.istore_n 3, 1) := by decide +kernel
theorem dJ5_append_c97b9_12 : decode cJ5_append_c97b9 12 = .ok (.aload_n 0, 1) := by decide +kernel
theorem dJ5_append_c97b9_13 : decode cJ5_append_c97b9 13 = .ok (.iload_n 3, 1) := by decide +kernel
theorem dJ5_append_c97b9_14 : decode cJ5_append_c97b9 14 = .ok (.invokevirtual 100, 3) := by decide +kernel
theorem dJ5_append_c97b9_17 : decode cJ5_append_c97b9 17 = .ok (.aload_n 0, 1) := by decide +kernel
theorem dJ5_append_c97b9_18 : decode cJ5_append_c97b9 18 = .ok (.invokevirtual 83, 3) := by decide +kernel
theorem dJ5_append_c97b9_21 : decode cJ5_append_c97b9 21 = .ok (.ifCond .eq 16, 3) := by decide +kernel
theorem dJ5_append_c97b9_24 : decode cJ5_append_c97b9 24 = .ok (.iload_n 1, 1) := by decide +kernel
theorem dJ5_append_c97b9_25 : decode cJ5_append_c97b9 25 = .ok (.iload_n 3, 1) := by decide +kernel
theorem dJ5_append_c97b9_26 : decode cJ5_append_c97b9 26 = .ok (.aload_n 0, 1) := by decide +kernel
theorem dJ5_append_c97b9_27 : decode cJ5_append_c97b9 27 = .ok (.getfield 15, 3) := by decide +kernel
theorem dJ5_append_c97b9_30 : decode cJ5_append_c97b9 30 = .ok (.invokestatic 248, 3) := by decide +kernel
theorem dJ5_append_c97b9_33 : decode cJ5_append_c97b9 33 = .ok (.pop, 1) := by decide +kernel
theorem dJ5_append_c97b9_34 : decode cJ5_append_c97b9 34 = .ok (.goto 14, 3) := by decide +kernel
theorem dJ5_append_c97b9_37 : decode cJ5_append_c97b9 37 = .ok (.iload_n 1, 1) := by decide +kernel
theorem dJ5_append_c97b9_38 : decode cJ5_append_c97b9 38 = .ok (.iload_n 2, 1) := by decide +kernel
theorem dJ5_append_c97b9_39 : decode cJ5_append_c97b9 39 = .ok (.iload_n 3, 1) := by decide +kernel
theorem dJ5_append_c97b9_40 : decode cJ5_append_c97b9 40 = .ok (.aload_n 0, 1) := by decide +kernel
theorem dJ5_append_c97b9_41 : decode cJ5_append_c97b9 41 = .ok (.getfield 15, 3) := by decide +kernel
theorem dJ5_append_c97b9_44 : decode cJ5_append_c97b9 44 = .ok (.invokestatic 251, 3) := by decide +kernel
theorem dJ5_append_c97b9_47 : decode cJ5_append_c97b9 47 = .ok (.pop, 1) := by decide +kernel
theorem dJ5_append_c97b9_48 : decode cJ5_append_c97b9 48 = .ok (.aload_n 0, 1) := by decide +kernel
theorem dJ5_append_c97b9_49 : decode cJ5_append_c97b9 49 = .ok (.iload_n 3, 1) := by decide +kernel
theorem dJ5_append_c97b9_50 : decode cJ5_append_c97b9 50 = .ok (.putfield 79, 3) := by decide +kernel
theorem dJ5_append_c97b9_53 : decode cJ5_append_c97b9 53 = .ok (.aload_n 0, 1) := by decide +kernel
theorem dJ5_append_c97b9_54 : decode cJ5_append_c97b9 54 = .ok (.areturn, 1) := by decide +kernel
theorem dJ4_append_bf812_0 : decode cJ4_append_bf812 0 = .ok (.aload_n 0, 1) := by decide +kernel
theorem dJ4_append_bf812_1 : decode cJ4_append_bf812 1 = .ok (.iload_n 1, 1) := by decide +kernel
theorem dJ4_append_bf812_2 : decode cJ4_append_bf812 2 = .ok (.invokespecial 53, 3) := by decide +kernel
theorem dJ4_append_bf812_5 : decode cJ4_append_bf812 5 = .ok (.pop, 1) := by decide +kernel
theorem dJ4_append_bf812_6 : decode cJ4_append_bf812 6 = .ok (.aload_n 0, 1) := by decide +kernel
theorem dJ4_append_bf812_7 : decode cJ4_append_bf812 7 = .ok (.areturn, 1) := by decide +kernel
set_option maxRecDepth 1000000 in
theorem tc_aI : (Jvm.Cond.code ({ cls := "java/lang/AbstractStringBuilder", name := "append", desc := "(I)Ljava/lang/AbstractStringBuilder;" } : Jvm.MethodName) prog_14_method_32_code (4 : Nat) (Option.some (Jvm.ClassFile.FieldType.object "java/lang/AbstractStringBuilder"))) ∈ lw_tbl := am_t1 (List.mem_of_getElem? (i := 1314) (by decide +kernel))
set_option maxRecDepth 1000000 in
theorem tc_bI : (Jvm.Cond.code ({ cls := "java/lang/StringBuilder", name := "append", desc := "(I)Ljava/lang/StringBuilder;" } : Jvm.MethodName) prog_21_method_15_code (2 : Nat) (Option.some (Jvm.ClassFile.FieldType.object "java/lang/StringBuilder"))) ∈ lw_tbl := am_t1 (List.mem_of_getElem? (i := 1311) (by decide +kernel))
set_option maxRecDepth 1000000 in
theorem tm_aI : (Jvm.Cond.instanceMethod ({ cls := "java/lang/AbstractStringBuilder", name := "append", desc := "(I)Ljava/lang/AbstractStringBuilder;" } : Jvm.MethodName)) ∈ lw_tbl := am_t1 (List.mem_of_getElem? (i := 1313) (by decide +kernel))
set_option maxRecDepth 1000000 in
theorem tm_bI : (Jvm.Cond.instanceMethod ({ cls := "java/lang/StringBuilder", name := "append", desc := "(I)Ljava/lang/StringBuilder;" } : Jvm.MethodName)) ∈ lw_tbl := am_t1 (List.mem_of_getElem? (i := 1309) (by decide +kernel))
set_option maxRecDepth 1000000 in
theorem te_bI : (Jvm.Cond.selects "java/lang/StringBuilder" ({ cls := "java/lang/StringBuilder", name := "append", desc := "(I)Ljava/lang/StringBuilder;" } : Jvm.MethodName) ({ cls := "java/lang/StringBuilder", name := "append", desc := "(I)Ljava/lang/StringBuilder;" } : Jvm.MethodName)) ∈ lw_tbl := am_t1 (List.mem_of_getElem? (i := 1310) (by decide +kernel))
set_option maxRecDepth 1000000 in
theorem tl_A245 : (Jvm.Cond.methodLink "java/lang/AbstractStringBuilder" (245 : Nat) ({ cls := "java/lang/Integer", name := "stringSize", desc := "(I)I" } : Jvm.MethodName)) ∈ lw_tbl := am_t1 (List.mem_of_getElem? (i := 1315) (by decide +kernel))
set_option maxRecDepth 1000000 in
theorem tl_A248 : (Jvm.Cond.methodLink "java/lang/AbstractStringBuilder" (248 : Nat) ({ cls := "java/lang/Integer", name := "getChars", desc := "(II[B)I" } : Jvm.MethodName)) ∈ lw_tbl := am_t1 (List.mem_of_getElem? (i := 1318) (by decide +kernel))
set_option maxRecDepth 1000000 in
theorem tl_B53 : (Jvm.Cond.methodLink "java/lang/StringBuilder" (53 : Nat) ({ cls := "java/lang/AbstractStringBuilder", name := "append", desc := "(I)Ljava/lang/AbstractStringBuilder;" } : Jvm.MethodName)) ∈ lw_tbl := am_t1 (List.mem_of_getElem? (i := 1312) (by decide +kernel))
set_option maxRecDepth 1000000 in
theorem tq_aI : (Jvm.Cond.sameMethod "java/lang/AbstractStringBuilder" "java/lang/AbstractStringBuilder" "append" "(I)Ljava/lang/AbstractStringBuilder;") ∈ lw_tbl := am_t1 (List.mem_of_getElem? (i := 1382) (by decide +kernel))
section SP98w
variable {l : Launch} {B0 : Nat} {D : va_G} {cB : ClassId} {a v n mm x : Nat}
/-- AbstractStringBuilder.append(int), below 30 -/
theorem tx_aI (hm0 : 0 < mm) (hn : n + 2 ≤ 1000) (hx : x < 30) : sb_met l B0 yJ5_append_c97b9 cJ5_append_c97b9 4 (some (.object "java/lang/AbstractStringBuilder")) 5 1 4096 [.ref a, .int (nI x)] (fun U => sb_B D cB B0 a v n mm U U.heap ∧ sb_di B0 U U.heap) (fun r st t => r = some (.ref a) ∧ sb_af D cB a v (n + sb_sz x) st t) (fun _ q => q = a ∨ q = v) := by
  have h2z : sb_sz x ≤ 2 := by
    unfold sb_sz
    split <;> omega
  refine sb_of (by decide) (fun p e s m below meth c F hP => ?_)
  obtain ⟨hx', hb, hml, hr, hlocks, hts, hown⟩ := id F
  obtain ⟨hB, hD⟩ := hP
  obtain ⟨hK, ⟨k, hO⟩, hY, b1, b2, b3, b4, b5, hX⟩ := id hB
  have al := sb_O_lt hO
  have vl := sb_Y_lt hY
  have hl := lv_entry ([.ref a, .int (nI x)]) (n := 4) (Nat.le_of_ble_eq_true rfl)
  rw [lg_entry_eq]
  generalize (lg_sl ([.ref a, .int (nI x)]) ++ List.replicate (4 - (lg_sl ([.ref a, .int (nI x)])).length) Slot.unset).toArray = ls at hl ⊢
  have hl : lv_has ls 4 [(0, .ref a), (1, .int (nI x))] := hl
  refine lv_aload_n hx' hb dJ5_append_c97b9_0 rfl (lv_at hl 0 rfl) ?_
  refine sb_g F hK hO 3 (by decide) rfl tf_A79 rfl dJ5_append_c97b9_1 ?_
  refine lv_istore_n (lv' := [(2, .int (nI n)), (0, .ref a), (1, .int (nI x))]) hx' hb dJ5_append_c97b9_4 rfl hl (by decide) rfl (fun ls hl => ?_)
  refine lv_iload_n hx' hb dJ5_append_c97b9_5 rfl (lv_at hl 0 rfl) ?_
  refine lv_iload_n hx' hb dJ5_append_c97b9_6 rfl (lv_at hl 2 rfl) ?_
  refine sb_callS (B0 := B0) (As := [.int (nI x)]) (st := [.int (nI n)]) (k := 1) (d := 1) (mc := 0) (ms := 0) (Rm := sb_room 5 1 4096) (cs := 0) (ss := 0) F (tx_sz hx) tc_sz ti_I tl_A245 tS_sz ⟨by decide, by decide, by decide +kernel⟩ rfl dJ5_append_c97b9_7 hl.1 (by decide) (show 1 + 0 ≤ 8 by omega) (show 1 + 1 ≤ 5 by omega) (show 40 * (1 + 1) ≤ 40 * 5 by omega) (show 0 + 0 ≤ 1 by omega) (show 0 + 0 ≤ 4096 by omega) tx_pvT (fun _ _ _ => trivial) (fun q hq => by cases hq) ?_
  intro x4 st4 t4 locs4 h0 h1 hal4 z4 o4 hL4
  obtain ⟨h1, h2⟩ := h1
  subst h2
  rw [h0] at h1
  rw [h1]
  refine lv_iadd hx' hb dJ5_append_c97b9_10 ?_
  rw [nI_add]
  refine lv_istore_n (lv' := [(3, .int (nI (n + sb_sz x))), (2, .int (nI n)), (0, .ref a), (1, .int (nI x))]) hx' hb dJ5_append_c97b9_11 rfl hl (by decide) rfl (fun ls hl => ?_)
  refine lv_aload_n hx' hb dJ5_append_c97b9_12 rfl (lv_at hl 2 rfl) ?_
  refine lv_iload_n hx' hb dJ5_append_c97b9_13 rfl (lv_at hl 0 rfl) ?_
  refine sb_callV (C := "java/lang/StringBuilder") (As := [.int (nI (n + sb_sz x))]) (st := []) (k := 1) (d := 4) (mc := 1) (ms := 4096) (Rm := sb_room 5 1 4096) (cs := 0 + 0) (ss := 0 + 0) F (tx_ens (a := a) (v := v) (n := n) (mm := mm) (D := D) (cB := cB) hm0 (by omega)) tc_ens ti_A tl_A100 tm_ens (hts _ (List.mem_append_left _ (by simp [sb_sels]))) ⟨by decide, by decide, by decide +kernel⟩ rfl (sb_recv hB) dJ5_append_c97b9_14 hl.1 (by decide) (show 0 ≤ 8 by omega) (show 4 + 1 ≤ 5 by omega) (show 40 * (4 + 1) ≤ 40 * 5 by omega) (show 0 + 0 + 1 ≤ 1 by omega) (show 0 + 0 + 4096 ≤ 4096 by omega) sb_Bpv (fun U hU hW => sb_Bgo hB hU hW) hL4 ?_
  intro x2 st2 t2 locs2 f0 f1 hal2 z2 o2 hL2
  obtain ⟨f1, v2, m2, ⟨k2, hO2⟩, hY2, c1, c2, c3, c4, c5, c6⟩ := f1
  subst f1
  rw [f0] at c6
  have hX2 : sb_X B0 s t2.heap := sb_X_on (Vm.Alike.refl _) (fun q g1 g2 => o2 q g1 (fun e => by omega)) hX
  have hD2 : sb_di B0 s t2.heap := sb_di_on (Vm.Alike.refl _) (fun q g1 g2 => o2 q g1 (fun e => by omega)) hD
  have hB2 : sb_B D cB B0 a v2 n m2 s t2.heap := ⟨hK, ⟨k2, hO2⟩, hY2, c1, c2, c3, b4, by omega, hX2⟩
  refine lv_aload_n hx' hb dJ5_append_c97b9_17 rfl (lv_at hl 2 rfl) ?_
  refine sb_callV (C := "java/lang/StringBuilder") (As := []) (st := []) (k := 0) (d := 1) (mc := 0) (ms := 0) (Rm := sb_room 5 1 4096) F (tx_aisl (a := a) (v := v2) (n := n) (mm := m2) (D := D) (cB := cB)) tc_aisl ti_A tl_A83 tm_aisl (hts _ (sb_tb_i te_aisl rfl)) ⟨by decide, by decide, by decide +kernel⟩ rfl (sb_recv hB2) dJ5_append_c97b9_18 hl.1 (by decide) (show 0 ≤ 8 by omega) (show 1 + 1 ≤ 5 by omega) (show 40 * (1 + 1) ≤ 40 * 5 by omega) (show 0 + 0 + 1 + 0 ≤ 1 by omega) (show 0 + 0 + 4096 + 0 ≤ 4096 by omega) sb_Bpv (fun U hU hW => sb_Bgo hB2 hU hW) hL2 ?_
  intro x3 st3 t3 locs3 d0 d1 hal3 z3 o3 hL3
  obtain ⟨d1, d2⟩ := d1
  subst d2
  rw [d0] at d1
  rw [d1]
  refine lv_if_eq (tgt := 37) hx' hb dJ5_append_c97b9_21 rfl (fun w => absurd w (by decide)) (fun _ => ?_)
  refine lv_iload_n hx' hb dJ5_append_c97b9_24 rfl (lv_at hl 3 rfl) ?_
  refine lv_iload_n hx' hb dJ5_append_c97b9_25 rfl (lv_at hl 0 rfl) ?_
  refine lv_aload_n hx' hb dJ5_append_c97b9_26 rfl (lv_at hl 2 rfl) ?_
  refine sb_g F hK hO2 0 (by decide) rfl tf_A15 rfl dJ5_append_c97b9_27 ?_
  refine sb_callS (B0 := B0) (As := [.int (nI x), .int (nI (n + sb_sz x)), .ref v2]) (st := []) (k := 3) (d := 1) (mc := 0) (ms := 0) (Rm := sb_room 5 1 4096) F (tx_gch (D := D) (cB := cB) (v := v2) (mm := m2) (by omega) hx (by omega) c4 c3) tc_gch ti_I tl_A248 tS_gch ⟨by decide, by decide, by decide +kernel⟩ rfl dJ5_append_c97b9_30 hl.1 (by decide) (show 0 ≤ 8 by omega) (show 1 + 1 ≤ 5 by omega) (show 40 * (1 + 1) ≤ 40 * 5 by omega) (show 0 + 0 + 1 + 0 + 0 ≤ 1 by omega) (show 0 + 0 + 4096 + 0 + 0 ≤ 4096 by omega) (sb_pvX (Pre := fun U H => sb_K D cB U ∧ sb_Y cB v2 m2 H ∧ sb_di B0 U H) (fun U V H hv q => ⟨q.1.moved hv, q.2.1, sb_di_on hv (fun _ _ _ => rfl) q.2.2⟩)) (fun U hU hW => by rw [hU]; exact ⟨hK.moved hW.alike, hY2, sb_di_on hW.alike (fun _ _ _ => rfl) hD2⟩) hL3 ?_
  intro x5 st5 t5 locs5 g0 g1 hal5 z5 o5 hL5
  obtain ⟨⟨y, g1⟩, hY5⟩ := g1
  subst g1
  refine lv_pop hx' hb dJ5_append_c97b9_33 rfl ?_
  refine lv_goto (tgt := 48) hx' hb dJ5_append_c97b9_34 rfl ?_
  refine lv_aload_n hx' hb dJ5_append_c97b9_48 rfl (lv_at hl 2 rfl) ?_
  refine lv_iload_n hx' hb dJ5_append_c97b9_49 rfl (lv_at hl 0 rfl) ?_
  have al2 := sb_O_lt hO2
  have hO5 := sb_O_ne hO2 (o5 a al2 c1)
  refine sb_p F hK hO5 3 (by decide) rfl rfl (ty := .int) (by decide +kernel) rfl rfl (show 3 < 4 by omega) tf_A79 dJ5_append_c97b9_50 (fun H4 i g1 g2 g3 => ?_)
  refine lv_aload_n hx' hb dJ5_append_c97b9_53 rfl (lv_at hl 2 rfl) ?_
  refine W.aret hx' hb hr (Or.inl ⟨_, rfl⟩) (Or.inr ⟨_, rfl⟩) (fun t e1 e2 => ⟨_, rfl, ⟨rfl, v2, m2, ?_, ?_, c1, c4, c3, c5, c6⟩, ?_, fun y h5 h6 => ?_⟩) (fun y hy => ?_) dJ5_append_c97b9_54
  · rcases List.mem_append.mp hy with w | w
    · exact hL5 y w
    · rw [List.mem_singleton.mp w]
      exact b4
  · rw [e1]
    exact ⟨k2, g1⟩
  · rw [e1]
    obtain ⟨f, y1, y2⟩ := hY5
    exact ⟨f, (g3 _ (fun e => c1 e.symm)).trans y1, y2⟩
  · rw [e1, g2]
    omega
  · rw [e1]
    have a1 : ¬ y = a := fun e => h6 (Or.inl e)
    have a2 : ¬ y = v := fun e => h6 (Or.inr e)
    rw [g3 y a1, o5 y (by omega) (by omega)]
    exact o2 y h5 a1
/-- StringBuilder.append(int) -/
theorem tx_bI (hm0 : 0 < mm) (hn : n + 2 ≤ 1000) (hx : x < 30) : sb_met l B0 yJ4_append_bf812 cJ4_append_bf812 2 (some (.object "java/lang/StringBuilder")) 6 1 4096 [.ref a, .int (nI x)] (fun U => sb_B D cB B0 a v n mm U U.heap ∧ sb_di B0 U U.heap) (fun r st t => r = some (.ref a) ∧ sb_af D cB a v (n + sb_sz x) st t) (fun _ q => q = a ∨ q = v) := by
  refine sb_of (by decide) (fun p e s m below meth c F hP => ?_)
  obtain ⟨hx', hb, hml, hr, hlocks, hts, hown⟩ := id F
  obtain ⟨hB, hD⟩ := id hP
  have hl := lv_entry ([.ref a, .int (nI x)]) (n := 2) (Nat.le_of_ble_eq_true rfl)
  rw [lg_entry_eq]
  generalize (lg_sl ([.ref a, .int (nI x)]) ++ List.replicate (2 - (lg_sl ([.ref a, .int (nI x)])).length) Slot.unset).toArray = ls at hl ⊢
  have hl : lv_has ls 2 [(0, .ref a), (1, .int (nI x))] := hl
  refine lv_aload_n hx' hb dJ4_append_bf812_0 rfl (lv_at hl 0 rfl) ?_
  refine lv_iload_n hx' hb dJ4_append_bf812_1 rfl (lv_at hl 1 rfl) ?_
  refine sb_callU (As := [.int (nI x)]) (st := []) (k := 1) (d := 5) (mc := 1) (ms := 4096) (Rm := sb_room 6 1 4096) F hB.1 (tx_aI (D := D) (cB := cB) (mm := mm) hm0 hn hx) tc_aI ti_A tl_B53 tm_aI tq_aI tw_sup ⟨by decide, by decide +kernel⟩ rfl (sb_recv hB) dJ4_append_bf812_2 hl.1 (by decide) (show 0 ≤ 8 by omega) (show 5 + 1 ≤ 6 by omega) (show 40 * (5 + 1) ≤ 40 * 6 by omega) (show 0 + 1 ≤ 1 by omega) (show 0 + 4096 ≤ 4096 by omega) (sb_pvX (Pre := fun U H => sb_B D cB B0 a v n mm U H ∧ sb_di B0 U H) (fun U V H hv q => ⟨sb_B_on hv q.1, sb_di_on hv (fun _ _ _ => rfl) q.2⟩)) (fun U hU hW => by rw [hU]; exact ⟨sb_B_on hW.alike hB, sb_di_on hW.alike (fun _ _ _ => rfl) hD⟩) (fun q hq => by cases hq) ?_
  intro x st0 t locs1 e0 q1 hal z o hL
  obtain ⟨q1, q2⟩ := q1
  subst q1
  refine lv_pop hx' hb dJ4_append_bf812_5 rfl ?_
  refine lv_aload_n hx' hb dJ4_append_bf812_6 rfl (lv_at hl 0 rfl) ?_
  refine W.aret hx' hb hr (Or.inl ⟨_, rfl⟩) (Or.inr ⟨_, rfl⟩) (fun t3 e1 e2 => ⟨_, rfl, ⟨rfl, ?_⟩, by rw [e1]; exact z, fun y h5 h6 => by rw [e1]; exact o y h5 h6⟩) hL dJ4_append_bf812_7
  obtain ⟨v2, m2, g⟩ := q2
  refine ⟨v2, m2, ?_⟩
  rw [e1, ← e0]
  exact g
end SP98w
