/-! text(): append(char) -/
theorem dJ1_canEncode_fc78d_0 : decode cJ1_canEncode_fc78d 0 = .ok (.iload_n 0, 1) := by decide +kernel
theorem dJ1_canEncode_fc78d_1 : decode cJ1_canEncode_fc78d 1 = .ok (.sipush 255, 3) := by decide +kernel
theorem dJ1_canEncode_fc78d_4 : decode cJ1_canEncode_fc78d 4 = .ok (.if_icmp .gt 7, 3) := by decide +kernel
theorem dJ1_canEncode_fc78d_7 : decode cJ1_canEncode_fc78d 7 = .ok (.iconst 1, 1) := by decide +kernel
theorem dJ1_canEncode_fc78d_8 : decode cJ1_canEncode_fc78d 8 = .ok (.goto 4, 3) := by decide +kernel
theorem dJ1_canEncode_fc78d_11 : decode cJ1_canEncode_fc78d 11 = .ok (.iconst 0, 1) := by decide +kernel
theorem dJ1_canEncode_fc78d_12 : decode cJ1_canEncode_fc78d 12 = .ok (.ireturn, 1) := by decide +kernel
theorem dJ5_append_3fe6f_0 : decode cJ5_append_3fe6f 0 = .ok (.aload_n 0, 1) := by decide +kernel
theorem dJ5_append_3fe6f_1 : decode cJ5_append_3fe6f 1 = .ok (.aload_n 0, 1) := by decide +kernel
theorem dJ5_append_3fe6f_2 : decode cJ5_append_3fe6f 2 = .ok (.getfield 79, 3) := by decide +kernel
theorem dJ5_append_3fe6f_5 : decode cJ5_append_3fe6f 5 = .ok (.iconst 1, 1) := by decide +kernel
theorem dJ5_append_3fe6f_6 : decode cJ5_append_3fe6f 6 = .ok (.iadd, 1) := by decide +kernel
theorem dJ5_append_3fe6f_7 : decode cJ5_append_3fe6f 7 = .ok (.invokevirtual 100, 3) := by decide +kernel
theorem dJ5_append_3fe6f_10 : decode cJ5_append_3fe6f 10 = .ok (.aload_n 0, 1) := by decide +kernel
theorem dJ5_append_3fe6f_11 : decode cJ5_append_3fe6f 11 = .ok (.invokevirtual 83, 3) := by decide +kernel
theorem dJ5_append_3fe6f_14 : decode cJ5_append_3fe6f 14 = .ok (.ifCond .eq 31, 3) := by decide +kernel
theorem dJ5_append_3fe6f_17 : decode cJ5_append_3fe6f 17 = .ok (.iload_n 1, 1) := by decide +kernel
theorem dJ5_append_3fe6f_18 : decode cJ5_append_3fe6f 18 = .ok (.invokestatic 191, 3) := by decide +kernel
theorem dJ5_append_3fe6f_21 : decode cJ5_append_3fe6f 21 = .ok (.ifCond .eq 24, 3) := by decide +kernel
theorem dJ5_append_3fe6f_24 : decode cJ5_append_3fe6f 24 = .ok (.aload_n 0, 1) := by decide +kernel
theorem dJ5_append_3fe6f_25 : decode cJ5_append_3fe6f 25 = .ok (.getfield 15, 3) := by decide +kernel
theorem dJ5_append_3fe6f_28 : decode cJ5_append_3fe6f 28 = .ok (.aload_n 0, 1) := by decide +kernel
theorem dJ5_append_3fe6f_29 : decode cJ5_append_3fe6f 29 = .ok (.dup, 1) := by decide +kernel
theorem dJ5_append_3fe6f_30 : decode cJ5_append_3fe6f 30 = .ok (.getfield 79, 3) := by decide +kernel
theorem dJ5_append_3fe6f_33 : decode cJ5_append_3fe6f 33 = .ok (.dup_x1, 1) := by decide +kernel
theorem dJ5_append_3fe6f_34 : decode cJ5_append_3fe6f 34 = .ok (.iconst 1, 1) := by decide +kernel
theorem dJ5_append_3fe6f_35 : decode cJ5_append_3fe6f 35 = .ok (.iadd, 1) := by decide +kernel
theorem dJ5_append_3fe6f_36 : decode cJ5_append_3fe6f 36 = .ok (.putfield 79, 3) := by decide +kernel
theorem dJ5_append_3fe6f_39 : decode cJ5_append_3fe6f 39 = .ok (.iload_n 1, 1) := by decide +kernel
theorem dJ5_append_3fe6f_40 : decode cJ5_append_3fe6f 40 = .ok (.i2b, 1) := by decide +kernel
theorem dJ5_append_3fe6f_41 : decode cJ5_append_3fe6f 41 = .ok (.bastore, 1) := by decide +kernel
theorem dJ5_append_3fe6f_42 : decode cJ5_append_3fe6f 42 = .ok (.goto 33, 3) := by decide +kernel
theorem dJ5_append_3fe6f_45 : decode cJ5_append_3fe6f 45 = .ok (.aload_n 0, 1) := by decide +kernel
theorem dJ5_append_3fe6f_46 : decode cJ5_append_3fe6f 46 = .ok (.invokevirtual 83, 3) := by decide +kernel
theorem dJ5_append_3fe6f_49 : decode cJ5_append_3fe6f 49 = .ok (.ifCond .eq 7, 3) := by decide +kernel
theorem dJ5_append_3fe6f_52 : decode cJ5_append_3fe6f 52 = .ok (.aload_n 0, 1) := by decide +kernel
theorem dJ5_append_3fe6f_53 : decode cJ5_append_3fe6f 53 = .ok (.invokevirtual 195, 3) := by decide +kernel
theorem dJ5_append_3fe6f_56 : decode cJ5_append_3fe6f 56 = .ok (.aload_n 0, 1) := by decide +kernel
theorem dJ5_append_3fe6f_57 : decode cJ5_append_3fe6f 57 = .ok (.getfield 15, 3) := by decide +kernel
theorem dJ5_append_3fe6f_60 : decode cJ5_append_3fe6f 60 = .ok (.aload_n 0, 1) := by decide +kernel
theorem dJ5_append_3fe6f_61 : decode cJ5_append_3fe6f 61 = .ok (.dup, 1) := by decide +kernel
theorem dJ5_append_3fe6f_62 : decode cJ5_append_3fe6f 62 = .ok (.getfield 79, 3) := by decide +kernel
theorem dJ5_append_3fe6f_65 : decode cJ5_append_3fe6f 65 = .ok (.dup_x1, 1) := by decide +kernel
theorem dJ5_append_3fe6f_66 : decode cJ5_append_3fe6f 66 = .ok (.iconst 1, 1) := by decide +kernel
theorem dJ5_append_3fe6f_67 : decode cJ5_append_3fe6f 67 = .ok (.iadd, 1) := by decide +kernel
theorem dJ5_append_3fe6f_68 : decode cJ5_append_3fe6f 68 = .ok (.putfield 79, 3) := by decide +kernel
theorem dJ5_append_3fe6f_71 : decode cJ5_append_3fe6f 71 = .ok (.iload_n 1, 1) := by decide +kernel
theorem dJ5_append_3fe6f_72 : decode cJ5_append_3fe6f 72 = .ok (.invokestatic 197, 3) := by decide +kernel
theorem dJ5_append_3fe6f_75 : decode cJ5_append_3fe6f 75 = .ok (.aload_n 0, 1) := by decide +kernel
theorem dJ5_append_3fe6f_76 : decode cJ5_append_3fe6f 76 = .ok (.areturn, 1) := by decide +kernel
theorem dJ4_append_cf468_0 : decode cJ4_append_cf468 0 = .ok (.aload_n 0, 1) := by decide +kernel
theorem dJ4_append_cf468_1 : decode cJ4_append_cf468 1 = .ok (.iload_n 1, 1) := by decide +kernel
theorem dJ4_append_cf468_2 : decode cJ4_append_cf468 2 = .ok (.invokespecial 50, 3) := by decide +kernel
theorem dJ4_append_cf468_5 : decode cJ4_append_cf468 5 = .ok (.pop, 1) := by decide +kernel
theorem dJ4_append_cf468_6 : decode cJ4_append_cf468 6 = .ok (.aload_n 0, 1) := by decide +kernel
theorem dJ4_append_cf468_7 : decode cJ4_append_cf468 7 = .ok (.areturn, 1) := by decide +kernel
set_option maxRecDepth 1000000 in
theorem tc_can : (Jvm.Cond.code ({ cls := "java/lang/StringLatin1", name := "canEncode", desc := "(C)Z" } : Jvm.MethodName) prog_22_method_3_code (1 : Nat) (Option.some Jvm.ClassFile.FieldType.boolean)) ∈ lw_tbl := am_t1 (List.mem_of_getElem? (i := 1247) (by decide +kernel))
set_option maxRecDepth 1000000 in
theorem tc_aC : (Jvm.Cond.code ({ cls := "java/lang/AbstractStringBuilder", name := "append", desc := "(C)Ljava/lang/AbstractStringBuilder;" } : Jvm.MethodName) prog_14_method_31_code (2 : Nat) (Option.some (Jvm.ClassFile.FieldType.object "java/lang/AbstractStringBuilder"))) ∈ lw_tbl := am_t1 (List.mem_of_getElem? (i := 1244) (by decide +kernel))
set_option maxRecDepth 1000000 in
theorem tc_bC : (Jvm.Cond.code ({ cls := "java/lang/StringBuilder", name := "append", desc := "(C)Ljava/lang/StringBuilder;" } : Jvm.MethodName) prog_21_method_14_code (2 : Nat) (Option.some (Jvm.ClassFile.FieldType.object "java/lang/StringBuilder"))) ∈ lw_tbl := am_t1 (List.mem_of_getElem? (i := 1241) (by decide +kernel))
set_option maxRecDepth 1000000 in
theorem tl_A83 : (Jvm.Cond.methodLink "java/lang/AbstractStringBuilder" (83 : Nat) ({ cls := "java/lang/AbstractStringBuilder", name := "isLatin1", desc := "()Z" } : Jvm.MethodName)) ∈ lw_tbl := am_t1 (List.mem_of_getElem? (i := 1165) (by decide +kernel))
set_option maxRecDepth 1000000 in
theorem tl_A191 : (Jvm.Cond.methodLink "java/lang/AbstractStringBuilder" (191 : Nat) ({ cls := "java/lang/StringLatin1", name := "canEncode", desc := "(C)Z" } : Jvm.MethodName)) ∈ lw_tbl := am_t1 (List.mem_of_getElem? (i := 1245) (by decide +kernel))
set_option maxRecDepth 1000000 in
theorem tl_B50 : (Jvm.Cond.methodLink "java/lang/StringBuilder" (50 : Nat) ({ cls := "java/lang/AbstractStringBuilder", name := "append", desc := "(C)Ljava/lang/AbstractStringBuilder;" } : Jvm.MethodName)) ∈ lw_tbl := am_t1 (List.mem_of_getElem? (i := 1242) (by decide +kernel))
set_option maxRecDepth 1000000 in
theorem tS_can : (Jvm.Cond.static ({ cls := "java/lang/StringLatin1", name := "canEncode", desc := "(C)Z" } : Jvm.MethodName)) ∈ lw_tbl := am_t1 (List.mem_of_getElem? (i := 1246) (by decide +kernel))
set_option maxRecDepth 1000000 in
theorem tm_aC : (Jvm.Cond.instanceMethod ({ cls := "java/lang/AbstractStringBuilder", name := "append", desc := "(C)Ljava/lang/AbstractStringBuilder;" } : Jvm.MethodName)) ∈ lw_tbl := am_t1 (List.mem_of_getElem? (i := 1243) (by decide +kernel))
set_option maxRecDepth 1000000 in
theorem tm_bC : (Jvm.Cond.instanceMethod ({ cls := "java/lang/StringBuilder", name := "append", desc := "(C)Ljava/lang/StringBuilder;" } : Jvm.MethodName)) ∈ lw_tbl := am_t1 (List.mem_of_getElem? (i := 1239) (by decide +kernel))
set_option maxRecDepth 1000000 in
theorem te_bC : (Jvm.Cond.selects "java/lang/StringBuilder" ({ cls := "java/lang/StringBuilder", name := "append", desc := "(C)Ljava/lang/StringBuilder;" } : Jvm.MethodName) ({ cls := "java/lang/StringBuilder", name := "append", desc := "(C)Ljava/lang/StringBuilder;" } : Jvm.MethodName)) ∈ lw_tbl := am_t1 (List.mem_of_getElem? (i := 1240) (by decide +kernel))
set_option maxRecDepth 1000000 in
theorem tq_aC : (Jvm.Cond.sameMethod "java/lang/AbstractStringBuilder" "java/lang/AbstractStringBuilder" "append" "(C)Ljava/lang/AbstractStringBuilder;") ∈ lw_tbl := am_t1 (List.mem_of_getElem? (i := 1381) (by decide +kernel))
section SP98k
variable {p : Program} {l : Launch} {e : Env} {Rm : Room} {s : State} {m : MethodId} {args : Array Value} {below : List Frame} {meth : Method} {c : Code} {Q : State → Prop} {H : Heap} {locs : List Loc} {cs ss pc B0 : Nat} {ls : Array Slot}
variable {own : String} {bc : ByteArray} {nL : Nat} {rt : Option FieldType} {st : List Value} {D : va_G} {cB : ClassId} {a v n mm b : Nat}
/-- a letter is laid -/
theorem sb_bst (F : sb_fr p s m args meth c own bc nL rt) {i : Nat} {x : Int32} (hK : sb_K D cB s) (hY : sb_Y cB v mm H) (hi : i < mm) (hmm : mm ≤ 4096) (hdg : decode bc pc = .ok (.bastore, 1))
    (kk : ∀ (H1 : Heap) (j : Nat), sb_Y cB v mm H1 → H1.size = H.size → (∀ q, q ≠ v → H1[q]? = H[q]?) → W p l e Rm s m args below meth c H1 (locs ++ [⟨v, j⟩]) cs ss Q (F0 m (pc + 1) ls st)) : W p l e Rm s m args below meth c H locs cs ss Q (F0 m pc ls (.int x :: .int (nI i) :: .ref v :: st)) := by
  obtain ⟨hx, hb, hml, hr, hlocks, hts, hown⟩ := F
  obtain ⟨f, y1, y2⟩ := hY
  have ci : (nI i).toNatClampNeg = i := nI_clamp (by omega)
  refine W.bast hx hb y1 ((hK.2 0 _ rfl).1 mm (fun j => .int (f j))) (fun q => by cases q) (by show ¬ (nI i < 0 ∨ (arrV cB mm (fun j => .int (f j))).slots.size ≤ _); rw [arrV_size, ci]; exact fun q => q.elim (dq_p (by omega)) (fun q => by omega)) rfl rfl hdg fun H1 e z oq => ?_
  refine kk H1 _ ⟨upd f i (vp_nar .byte x), ?_, fun j => ?_⟩ z oq
  · show H1[v]? = some (vp_cell _ _)
    rw [e, ci]
    rw [vp_cell_i, vp_cell_i, arrV_store]
    congr 2
    funext q
    by_cases hq : q = i
    · subst hq
      simp [updV, upd, vp_nar]
      try rfl
    · simp [updV, upd, hq]
  · by_cases hq : j = i
    · subst hq
      rw [dq_upd_k]
      exact Jvm.Stand.fits_byte_narrow x
    · rw [dq_upd_n hq]
      exact y2 j
theorem tx_can (hb2 : b < 256) : sb_met l B0 yJ1_canEncode_fc78d cJ1_canEncode_fc78d 1 (some .boolean) 1 0 0 [.int (nI b)] (fun _ => True) (fun x st t => t.heap = st.heap ∧ x = some (.int 1)) sb_no := by
  refine sb_of (by decide) (fun p e s m below meth c F hP => ?_)
  obtain ⟨hx, hb, hml, hr, hlocks, hts, hown⟩ := id F
  have hl := lv_entry ([.int (nI b)]) (n := 1) (Nat.le_of_ble_eq_true rfl)
  rw [lg_entry_eq]
  generalize (lg_sl ([.int (nI b)]) ++ List.replicate (1 - (lg_sl ([.int (nI b)])).length) Slot.unset).toArray = ls at hl ⊢
  have hl : lv_has ls 1 [(0, .int (nI b))] := hl
  refine lv_iload_n hx hb dJ1_canEncode_fc78d_0 rfl (lv_at hl 0 rfl) ?_
  refine lv_sipush (v := 255) hx hb dJ1_canEncode_fc78d_1 rfl ?_
  refine lv_icmp_gt (tgt := 11) hx hb dJ1_canEncode_fc78d_4 rfl (fun w => absurd ((dq_lt (a := 255) (by omega) (by omega)).mp w) (by omega)) (fun _ => ?_)
  refine lv_iconst (v := 1) hx hb dJ1_canEncode_fc78d_7 rfl ?_
  refine lv_goto (tgt := 12) hx hb dJ1_canEncode_fc78d_8 rfl ?_
  exact W.zret hx hb hr (by decide) (fun t e1 e2 => ⟨_, rfl, ⟨e1, rfl⟩, by rw [e1]; exact Nat.le_refl _, fun q _ _ => by rw [e1]⟩) (fun q hq => by cases hq) dJ1_canEncode_fc78d_12
theorem tx_aC (hm0 : 0 < mm) (hn : n + 1 ≤ 1000) (hb2 : b < 256) : sb_met l B0 yJ5_append_3fe6f cJ5_append_3fe6f 2 (some (.object "java/lang/AbstractStringBuilder")) 5 1 4096 [.ref a, .int (nI b)] (fun U => sb_B D cB B0 a v n mm U U.heap) (fun x st t => x = some (.ref a) ∧ sb_af D cB a v (n + 1) st t) (fun _ x => x = a ∨ x = v) := by
  refine sb_of (by decide) (fun p e s m below meth c F hB => ?_)
  obtain ⟨hx, hb, hml, hr, hlocks, hts, hown⟩ := id F
  obtain ⟨hK, ⟨k, hO⟩, hY, b1, b2, b3, b4, b5, hX⟩ := id hB
  have al := sb_O_lt hO
  have vl := sb_Y_lt hY
  have hl := lv_entry ([.ref a, .int (nI b)]) (n := 2) (Nat.le_of_ble_eq_true rfl)
  rw [lg_entry_eq]
  generalize (lg_sl ([.ref a, .int (nI b)]) ++ List.replicate (2 - (lg_sl ([.ref a, .int (nI b)])).length) Slot.unset).toArray = ls at hl ⊢
  have hl : lv_has ls 2 [(0, .ref a), (1, .int (nI b))] := hl
  refine lv_aload_n hx hb dJ5_append_3fe6f_0 rfl (lv_at hl 0 rfl) ?_
  refine lv_aload_n hx hb dJ5_append_3fe6f_1 rfl (lv_at hl 0 rfl) ?_
  refine sb_g F hK hO 3 (by decide) rfl tf_A79 rfl dJ5_append_3fe6f_2 ?_
  refine lv_iconst (v := 1) hx hb dJ5_append_3fe6f_5 rfl ?_
  refine lv_iadd hx hb dJ5_append_3fe6f_6 ?_
  rw [nI_1]
  refine sb_callV (C := "java/lang/StringBuilder") (As := [.int (nI (n + 1))]) (st := []) (k := 1) (d := 4) (mc := 1) (ms := 4096) (Rm := sb_room 5 1 4096) (cs := 0) (ss := 0) F (tx_ens (a := a) (v := v) (n := n) (mm := mm) (D := D) (cB := cB) hm0 hn) tc_ens ti_A tl_A100 tm_ens (hts _ (List.mem_append_left _ (by simp [sb_sels]))) ⟨by decide, by decide, by decide +kernel⟩ rfl (sb_recv hB) dJ5_append_3fe6f_7 hl.1 (by decide) (show 0 ≤ 8 by omega) (show 4 + 1 ≤ 5 by omega) (show 40 * (4 + 1) ≤ 40 * 5 by omega) (show 0 + 1 ≤ 1 by omega) (show 0 + 4096 ≤ 4096 by omega) sb_Bpv (fun U hU hW => sb_Bgo hB hU hW) (fun q hq => by cases hq) ?_
  intro x2 st2 t2 locs2 f0 f1 hal2 z2 o2 hL2
  obtain ⟨f1, v2, m2, ⟨k2, hO2⟩, hY2, c1, c2, c3, c4, c5, c6⟩ := f1
  subst f1
  rw [f0] at c6
  have hX2 : sb_X B0 s t2.heap := sb_X_on (Vm.Alike.refl _) (fun q g1 g2 => o2 q g1 (fun e => by omega)) hX
  have hB2 : sb_B D cB B0 a v2 n m2 s t2.heap := ⟨hK, ⟨k2, hO2⟩, hY2, c1, c2, c3, b4, by omega, hX2⟩
  refine lv_aload_n hx hb dJ5_append_3fe6f_10 rfl (lv_at hl 0 rfl) ?_
  refine sb_callV (C := "java/lang/StringBuilder") (As := []) (st := []) (k := 0) (d := 1) (mc := 0) (ms := 0) (Rm := sb_room 5 1 4096) F (tx_aisl (a := a) (v := v2) (n := n) (mm := m2) (D := D) (cB := cB)) tc_aisl ti_A tl_A83 tm_aisl (hts _ (sb_tb_i te_aisl rfl)) ⟨by decide, by decide, by decide +kernel⟩ rfl (sb_recv hB2) dJ5_append_3fe6f_11 hl.1 (by decide) (show 0 ≤ 8 by omega) (show 1 + 1 ≤ 5 by omega) (show 40 * (1 + 1) ≤ 40 * 5 by omega) (show 0 + 1 + 0 ≤ 1 by omega) (show 0 + 4096 + 0 ≤ 4096 by omega) sb_Bpv (fun U hU hW => sb_Bgo hB2 hU hW) hL2 ?_
  intro x3 st3 t3 locs3 d0 d1 hal3 z3 o3 hL3
  obtain ⟨d1, d2⟩ := d1
  subst d2
  rw [d0] at d1
  rw [d1]
  refine lv_if_eq (tgt := 45) hx hb dJ5_append_3fe6f_14 rfl (fun w => absurd w (by decide)) (fun _ => ?_)
  refine lv_iload_n hx hb dJ5_append_3fe6f_17 rfl (lv_at hl 1 rfl) ?_
  refine sb_callS (B0 := B0) (As := [.int (nI b)]) (st := []) (k := 1) (d := 1) (mc := 0) (ms := 0) (Rm := sb_room 5 1 4096) F (tx_can hb2) tc_can ti_L1 tl_A191 tS_can ⟨by decide, by decide, by decide +kernel⟩ rfl dJ5_append_3fe6f_18 hl.1 (by decide) (show 0 ≤ 8 by omega) (show 1 + 1 ≤ 5 by omega) (show 40 * (1 + 1) ≤ 40 * 5 by omega) (show 0 + 1 + 0 + 0 ≤ 1 by omega) (show 0 + 4096 + 0 + 0 ≤ 4096 by omega) tx_pvT (fun _ _ _ => trivial) hL3 ?_
  intro x4 st4 t4 locs4 h0 h1 hal4 z4 o4 hL4
  obtain ⟨h1, h2⟩ := h1
  subst h2
  rw [h0] at h1
  rw [h1]
  refine lv_if_eq (tgt := 45) hx hb dJ5_append_3fe6f_21 rfl (fun w => absurd w (by decide)) (fun _ => ?_)
  refine lv_aload_n hx hb dJ5_append_3fe6f_24 rfl (lv_at hl 0 rfl) ?_
  refine sb_g F hK hO2 0 (by decide) rfl tf_A15 rfl dJ5_append_3fe6f_25 ?_
  refine lv_aload_n hx hb dJ5_append_3fe6f_28 rfl (lv_at hl 0 rfl) ?_
  refine lv_dup hx hb dJ5_append_3fe6f_29 rfl ?_
  refine sb_g F hK hO2 3 (by decide) rfl tf_A79 rfl dJ5_append_3fe6f_30 ?_
  refine lv_dup_x1 hx hb dJ5_append_3fe6f_33 rfl rfl ?_
  refine lv_iconst (v := 1) hx hb dJ5_append_3fe6f_34 rfl ?_
  refine lv_iadd hx hb dJ5_append_3fe6f_35 ?_
  rw [nI_1]
  refine sb_p F hK hO2 3 (by decide) rfl rfl (ty := .int) (by decide +kernel) rfl rfl (show 3 < 4 by omega) tf_A79 dJ5_append_3fe6f_36 (fun H4 i g1 g2 g3 => ?_)
  refine lv_iload_n hx hb dJ5_append_3fe6f_39 rfl (lv_at hl 1 rfl) ?_
  refine lv_i2b hx hb dJ5_append_3fe6f_40 rfl ?_
  have hY4 : sb_Y cB v2 m2 H4 := by
    obtain ⟨f, y1, y2⟩ := hY2
    exact ⟨f, (g3 _ (fun e => c1 e.symm)).trans y1, y2⟩
  refine sb_bst F hK hY4 (by omega) c3 dJ5_append_3fe6f_41 (fun H5 j q1 q2 q3 => ?_)
  refine lv_goto (tgt := 75) hx hb dJ5_append_3fe6f_42 rfl ?_
  refine lv_aload_n hx hb dJ5_append_3fe6f_75 rfl (lv_at hl 0 rfl) ?_
  refine W.aret hx hb hr (Or.inl ⟨_, rfl⟩) (Or.inr ⟨_, rfl⟩) (fun t e1 e2 => ⟨_, rfl, ⟨rfl, v2, m2, ?_, by rw [e1]; exact q1, c1, c4, c3, c5, c6⟩, ?_, fun y h5 h6 => ?_⟩) (fun y hy => ?_) dJ5_append_3fe6f_76
  · rcases List.mem_append.mp hy with w | w
    · rcases List.mem_append.mp w with w | w
      · exact hL4 y w
      · rw [List.mem_singleton.mp w]
        exact b4
    · rw [List.mem_singleton.mp w]
      show B0 ≤ v2
      omega
  · rw [e1]
    exact ⟨k2, sb_O_ne g1 (q3 a c1)⟩
  · rw [e1, q2, g2]
    exact z2
  · rw [e1]
    have a1 : ¬ y = a := fun e => h6 (Or.inl e)
    have a2 : ¬ y = v := fun e => h6 (Or.inr e)
    rw [q3 y (by omega), g3 y a1]
    exact o2 y h5 a1
theorem tx_bC (hm0 : 0 < mm) (hn : n + 1 ≤ 1000) (hb2 : b < 256) : sb_met l B0 yJ4_append_cf468 cJ4_append_cf468 2 (some (.object "java/lang/StringBuilder")) 6 1 4096 [.ref a, .int (nI b)] (fun U => sb_B D cB B0 a v n mm U U.heap) (fun x st t => x = some (.ref a) ∧ sb_af D cB a v (n + 1) st t) (fun _ x => x = a ∨ x = v) := by
  refine sb_of (by decide) (fun p e s m below meth c F hB => ?_)
  obtain ⟨hx, hb, hml, hr, hlocks, hts, hown⟩ := id F
  have hl := lv_entry ([.ref a, .int (nI b)]) (n := 2) (Nat.le_of_ble_eq_true rfl)
  rw [lg_entry_eq]
  generalize (lg_sl ([.ref a, .int (nI b)]) ++ List.replicate (2 - (lg_sl ([.ref a, .int (nI b)])).length) Slot.unset).toArray = ls at hl ⊢
  have hl : lv_has ls 2 [(0, .ref a), (1, .int (nI b))] := hl
  refine lv_aload_n hx hb dJ4_append_cf468_0 rfl (lv_at hl 0 rfl) ?_
  refine lv_iload_n hx hb dJ4_append_cf468_1 rfl (lv_at hl 1 rfl) ?_
  refine sb_callU (As := [.int (nI b)]) (st := []) (k := 1) (d := 5) (mc := 1) (ms := 4096) (Rm := sb_room 6 1 4096) F hB.1 (tx_aC (D := D) (cB := cB) (mm := mm) hm0 hn hb2) tc_aC ti_A tl_B50 tm_aC tq_aC tw_sup ⟨by decide, by decide +kernel⟩ rfl (sb_recv hB) dJ4_append_cf468_2 hl.1 (by decide) (show 0 ≤ 8 by omega) (show 5 + 1 ≤ 6 by omega) (show 40 * (5 + 1) ≤ 40 * 6 by omega) (show 0 + 1 ≤ 1 by omega) (show 0 + 4096 ≤ 4096 by omega) sb_Bpv (fun U hU hW => sb_Bgo hB hU hW) (fun q hq => by cases hq) ?_
  intro x st0 t locs1 e0 q1 hal z o hL
  obtain ⟨q1, q2⟩ := q1
  subst q1
  refine lv_pop hx hb dJ4_append_cf468_5 rfl ?_
  refine lv_aload_n hx hb dJ4_append_cf468_6 rfl (lv_at hl 0 rfl) ?_
  refine W.aret hx hb hr (Or.inl ⟨_, rfl⟩) (Or.inr ⟨_, rfl⟩) (fun t3 e1 e2 => ⟨_, rfl, ⟨rfl, ?_⟩, by rw [e1]; exact z, fun y h5 h6 => by rw [e1]; exact o y h5 h6⟩) hL dJ4_append_cf468_7
  obtain ⟨v2, m2, g⟩ := q2
  refine ⟨v2, m2, ?_⟩
  rw [e1, ← e0]
  exact g
end SP98k
