/-! text(): copyOfRange's copy -/
theorem dJ7_checkLength_df160_0 : decode cJ7_checkLength_df160 0 = .ok (.iload_n 1, 1) := by decide +kernel
theorem dJ7_checkLength_df160_1 : decode cJ7_checkLength_df160 1 = .ok (.iload_n 0, 1) := by decide +kernel
theorem dJ7_checkLength_df160_2 : decode cJ7_checkLength_df160 2 = .ok (.if_icmp .ge 35, 3) := by decide +kernel
theorem dJ7_checkLength_df160_5 : decode cJ7_checkLength_df160 5 = .ok (.new 43, 3) := by decide +kernel
theorem dJ7_checkLength_df160_8 : decode cJ7_checkLength_df160 8 = .ok (.dup, 1) := by decide +kernel
theorem dJ7_checkLength_df160_9 : decode cJ7_checkLength_df160 9 = .ok (.new 45, 3) := by decide +kernel
theorem dJ7_checkLength_df160_12 : decode cJ7_checkLength_df160 12 = .ok (.dup, 1) := by decide +kernel
theorem dJ7_checkLength_df160_13 : decode cJ7_checkLength_df160 13 = .ok (.invokespecial 47, 3) := by decide +kernel
theorem dJ7_checkLength_df160_16 : decode cJ7_checkLength_df160 16 = .ok (.iload_n 0, 1) := by decide +kernel
theorem dJ7_checkLength_df160_17 : decode cJ7_checkLength_df160 17 = .ok (.invokevirtual 54, 3) := by decide +kernel
theorem dJ7_checkLength_df160_23 : decode cJ7_checkLength_df160 23 = .ok (.invokevirtual 50, 3) := by decide +kernel
theorem dJ7_checkLength_df160_26 : decode cJ7_checkLength_df160 26 = .ok (.iload_n 1, 1) := by decide +kernel
theorem dJ7_checkLength_df160_27 : decode cJ7_checkLength_df160 27 = .ok (.invokevirtual 54, 3) := by decide +kernel
theorem dJ7_checkLength_df160_30 : decode cJ7_checkLength_df160 30 = .ok (.invokevirtual 61, 3) := by decide +kernel
theorem dJ7_checkLength_df160_33 : decode cJ7_checkLength_df160 33 = .ok (.invokespecial 65, 3) := by decide +kernel
theorem dJ7_checkLength_df160_36 : decode cJ7_checkLength_df160 36 = .ok (.athrow, 1) := by decide +kernel
theorem dJ7_checkLength_df160_37 : decode cJ7_checkLength_df160 37 = .ok (.return_, 1) := by decide +kernel
theorem dJ7_copyOfRangeByte_39247_0 : decode cJ7_copyOfRangeByte_39247 0 = .ok (.iload_n 1, 1) := by decide +kernel
theorem dJ7_copyOfRangeByte_39247_1 : decode cJ7_copyOfRangeByte_39247 1 = .ok (.iload_n 2, 1) := by decide +kernel
theorem dJ7_copyOfRangeByte_39247_2 : decode cJ7_copyOfRangeByte_39247 2 = .ok (.invokestatic 343, 3) := by decide +kernel
theorem dJ7_copyOfRangeByte_39247_5 : decode cJ7_copyOfRangeByte_39247 5 = .ok (.iload_n 2, 1) := by decide +kernel
theorem dJ7_copyOfRangeByte_39247_6 : decode cJ7_copyOfRangeByte_39247 6 = .ok (.iload_n 1, 1) := by decide +kernel
theorem dJ7_copyOfRangeByte_39247_7 : decode cJ7_copyOfRangeByte_39247 7 = .ok (.isub, 1) := by decide +kernel
theorem dJ7_copyOfRangeByte_39247_8 : decode cJ7_copyOfRangeByte_39247 8 = .ok (.istore_n 3, 1) := by decide +kernel
theorem dJ7_copyOfRangeByte_39247_9 : decode cJ7_copyOfRangeByte_39247 9 = .ok (.iload_n 3, 1) := by decide +kernel
theorem dJ7_copyOfRangeByte_39247_10 : decode cJ7_copyOfRangeByte_39247 10 = .ok (.newarray .byte, 2) := by decide +kernel
theorem dJ7_copyOfRangeByte_39247_12 : decode cJ7_copyOfRangeByte_39247 12 = .ok (.astore 4, 2) := by decide +kernel
theorem dJ7_copyOfRangeByte_39247_14 : decode cJ7_copyOfRangeByte_39247 14 = .ok (.aload_n 0, 1) := by decide +kernel
theorem dJ7_copyOfRangeByte_39247_15 : decode cJ7_copyOfRangeByte_39247 15 = .ok (.iload_n 1, 1) := by decide +kernel
theorem dJ7_copyOfRangeByte_39247_16 : decode cJ7_copyOfRangeByte_39247 16 = .ok (.aload 4, 2) := by decide +kernel
theorem dJ7_copyOfRangeByte_39247_18 : decode cJ7_copyOfRangeByte_39247 18 = .ok (.iconst 0, 1) := by decide +kernel
theorem dJ7_copyOfRangeByte_39247_19 : decode cJ7_copyOfRangeByte_39247 19 = .ok (.aload_n 0, 1) := by decide +kernel
theorem dJ7_copyOfRangeByte_39247_20 : decode cJ7_copyOfRangeByte_39247 20 = .ok (.arraylength, 1) := by decide +kernel
theorem dJ7_copyOfRangeByte_39247_21 : decode cJ7_copyOfRangeByte_39247 21 = .ok (.iload_n 1, 1) := by decide +kernel
theorem dJ7_copyOfRangeByte_39247_22 : decode cJ7_copyOfRangeByte_39247 22 = .ok (.isub, 1) := by decide +kernel
theorem dJ7_copyOfRangeByte_39247_23 : decode cJ7_copyOfRangeByte_39247 23 = .ok (.iload_n 3, 1) := by decide +kernel
theorem dJ7_copyOfRangeByte_39247_24 : decode cJ7_copyOfRangeByte_39247 24 = .ok (.invokestatic 304, 3) := by decide +kernel
theorem dJ7_copyOfRangeByte_39247_27 : decode cJ7_copyOfRangeByte_39247 27 = .ok (.invokestatic 150, 3) := by decide +kernel
theorem dJ7_copyOfRangeByte_39247_30 : decode cJ7_copyOfRangeByte_39247 30 = .ok (.aload 4, 2) := by decide +kernel
theorem dJ7_copyOfRangeByte_39247_32 : decode cJ7_copyOfRangeByte_39247 32 = .ok (.areturn, 1) := by decide +kernel
set_option maxRecDepth 1000000 in
theorem tc_ckl : (Jvm.Cond.code ({ cls := "java/util/Arrays", name := "checkLength", desc := "(II)V" } : Jvm.MethodName) prog_25_method_131_code (2 : Nat) (Option.none : Option Jvm.ClassFile.FieldType)) ∈ lw_tbl := am_t1 (List.mem_of_getElem? (i := 1286) (by decide +kernel))
set_option maxRecDepth 1000000 in
theorem tc_crb : (Jvm.Cond.code ({ cls := "java/util/Arrays", name := "copyOfRangeByte", desc := "([BII)[B" } : Jvm.MethodName) prog_25_method_133_code (5 : Nat) (Option.some (Jvm.ClassFile.FieldType.array Jvm.ClassFile.FieldType.byte))) ∈ lw_tbl := am_t1 (List.mem_of_getElem? (i := 1283) (by decide +kernel))
set_option maxRecDepth 1000000 in
theorem tl_AR343 : (Jvm.Cond.methodLink "java/util/Arrays" (343 : Nat) ({ cls := "java/util/Arrays", name := "checkLength", desc := "(II)V" } : Jvm.MethodName)) ∈ lw_tbl := am_t1 (List.mem_of_getElem? (i := 1284) (by decide +kernel))
set_option maxRecDepth 1000000 in
theorem tS_ckl : (Jvm.Cond.static ({ cls := "java/util/Arrays", name := "checkLength", desc := "(II)V" } : Jvm.MethodName)) ∈ lw_tbl := am_t1 (List.mem_of_getElem? (i := 1285) (by decide +kernel))
section SP98m0
variable {p : Program} {l : Launch} {e : Env} {Rm : Room} {s : State} {m : MethodId} {args : Array Value} {below : List Frame} {meth : Method} {c : Code} {Q : State → Prop} {H : Heap} {locs : List Loc} {cs ss pc B0 : Nat} {ls : Array Slot}
variable {own : String} {bc : ByteArray} {nL : Nat} {rt : Option FieldType} {st : List Value} {D : va_G} {cB : ClassId} {v mm v0 w : Nat}
/-- bytes are copied -/
theorem sb_cpy2 (F : sb_fr p s m args meth c own bc nL rt) (hls : ls.size = nL) {index dp : Nat} {f : Nat → Int32} (hK : sb_K D cB s) {m0 : Nat} (hT : H[v0]? = some (vp_cell cB (m0, .inl f))) (hf : ∀ j, fits .byte (.int (f j)) = true) (hw0 : w ≤ m0) (hw : w ≤ 4096) (hY : sb_Y cB v mm H) (hdp : dp + w ≤ mm) (hmm : mm ≤ 4096) (hlink : Cond.methodLink own index arraycopyName ∈ lw_tbl) (hframes : 1 ≤ Rm.frames) (hlocals : (st.map fun v => v.category).sum + (nativeFrameWords "java/lang/System" "arraycopy" 5 + 11) ≤ Rm.locals) (hdg : decode bc pc = .ok (.invokestatic index, 3))
    (kk : ∀ (H1 : Heap) (locs1 : List Loc), sb_Y cB v mm H1 → H1.size = H.size → (∀ q, q ≠ v → H1[q]? = H[q]?) → (∀ y ∈ locs1, y ∈ locs ∨ y.base = v) → W p l e Rm s m args below meth c H1 locs1 cs ss Q (F0 m (pc + 3) ls st)) : W p l e Rm s m args below meth c H locs cs ss Q (F0 m pc ls (.int (nI w) :: .int (nI dp) :: .ref v :: .int 0 :: .ref v0 :: st)) := by
  obtain ⟨hx, hb, hml, hr, hlocks, hts, hown⟩ := F
  have c0 : (0 : Int32).toNatClampNeg = 0 := by decide
  have i0 : (0 : Int32).toInt = 0 := rfl
  have iw : (nI w).toInt = w := am_ti (by omega)
  have id' : (nI dp).toInt = dp := am_ti (by omega)
  have cw : (nI w).toNatClampNeg = w := nI_clamp (by omega)
  have cd : (nI dp).toNatClampNeg = dp := nI_clamp (by omega)
  intro T hT2 X
  obtain ⟨g, y1, y2⟩ := hY
  obtain ⟨-, k0, hk0, cm0, hkk0⟩ := (hK.2 0 _ rfl).1 m0 (fun j => .int (f j))
  obtain ⟨-, k1, hk1, cm1, hkk1⟩ := (hK.2 0 _ rfl).1 mm (fun j => .int (g j))
  obtain ⟨vm', X', step⟩ := X.arraycopy hx hown (hts _ (sb_tb_i hlink rfl)) (hts _ (sb_tb_i (am_t1 am_mx7) rfl)) (hts _ (sb_tb_i (am_t1 am_mx6) rfl)) (hts _ (sb_tb_i (am_t1 am_mx8) rfl)) (src := v0) (dst := v) (cs := vp_cell cB (m0, .inl f)) (cd := vp_cell cB (mm, .inl g)) (srcPos := 0) (destPos := nI dp) (n := nI w) (by rw [hT2]; exact hT) (by rw [hT2]; exact y1)
    (fun _ h => by cases h) (fun _ h => by cases h) (fun h => by cases h) (fun h => by cases h) hk0 hk1 hkk0 hkk1 rfl (by decide) (dq_p (by omega)) (dq_p (by omega))
    (by rw [i0, iw]; show ¬ _ > ((arrV cB m0 (fun j => .int (f j))).slots.size : Int); rw [arrV_size]; omega)
    (by rw [id', iw]; show ¬ _ > ((arrV cB mm (fun j => .int (g j))).slots.size : Int); rw [arrV_size]; omega)
    (fun vm₁ hal i hi => by
      rw [cw] at hi
      have e : (vp_cell cB (m0, .inl f)).slots.getD ((0 : Int32).toNatClampNeg + i) .null = .int (f i) := by
        show (arrV cB m0 (fun j => .int (f j))).slots.getD _ _ = _
        rw [c0, Nat.zero_add, Array.getD_eq_getD_getElem?, arrV_read _ _ (by omega)]
        rfl
      refine ⟨?_, ?_⟩
      · rw [e]
        exact hf i
      · rw [e]
        exact trivial)
    (g := F0 m pc ls (.int (nI w) :: .int (nI dp) :: .ref v :: .int 0 :: .ref v0 :: st)) rfl (by rw [hml]; exact hls) (rest := st) rfl (by rw [hb]; exact hdg) hframes (by show 2 * 0 + _ + _ ≤ _; omega)
  have e1 : copied (vp_cell cB (m0, .inl f)) (vp_cell cB (mm, .inl g)) 0 (nI dp) (nI w) = vp_cell cB (mm, .inl (va_cpy f g (0 : Int32).toNatClampNeg (nI dp).toNatClampNeg (nI w).toNatClampNeg)) := by
    exact va_copied (fun z => .int z) cB cB f g (by rw [c0, cw]; omega)
  rw [e1] at X' step
  have hl : v < H.size := (Array.getElem?_eq_some_iff.mp y1).1
  generalize hz : vp_cell cB (mm, .inl (va_cpy f g (0 : Int32).toNatClampNeg (nI dp).toNatClampNeg (nI w).toNatClampNeg)) = z at X' step
  have hheap : ((T.setVm vm').setCell v z).heap = H.setIfInBounds v z := by rw [← hT2]; rfl
  obtain ⟨t, a1, b1⟩ := kk (H.setIfInBounds v z) _ ⟨va_cpy f g (0 : Int32).toNatClampNeg (nI dp).toNatClampNeg (nI w).toNatClampNeg, by rw [hz]; simp [Array.getElem?_setIfInBounds, hl], fun j => by
    unfold va_cpy
    split
    · exact hf _
    · exact y2 _⟩ (by simp) (fun q hq => by simp [Array.getElem?_setIfInBounds, Ne.symm hq]) (fun y hy => (List.mem_append.mp hy).elim Or.inl (fun h => by
      obtain ⟨z2, -, hz2⟩ := List.mem_map.mp h
      exact Or.inr (by rw [← hz2]))) _ hheap X'
  exact ⟨t, step t a1, b1⟩
end SP98m0
section SP98m
variable {l : Launch} {B0 : Nat} {D : va_G} {cB : ClassId} {v n mm : Nat}
theorem tx_ckl (hn : n ≤ 4096) : sb_met l B0 yJ7_checkLength_df160 cJ7_checkLength_df160 2 none 1 0 0 [.int 0, .int (nI n)] (fun _ => True) (fun x st t => t.heap = st.heap ∧ x = none) sb_no := by
  refine sb_of (by decide) (fun p e s m below meth c F _ => ?_)
  obtain ⟨hx, hb, hml, hr, hlocks, hts, hown⟩ := id F
  have hl := lv_entry ([.int 0, .int (nI n)]) (n := 2) (Nat.le_of_ble_eq_true rfl)
  rw [lg_entry_eq]
  generalize (lg_sl ([.int 0, .int (nI n)]) ++ List.replicate (2 - (lg_sl ([.int 0, .int (nI n)])).length) Slot.unset).toArray = ls at hl ⊢
  have hl : lv_has ls 2 [(0, .int 0), (1, .int (nI n))] := hl
  refine lv_iload_n hx hb dJ7_checkLength_df160_0 rfl (lv_at hl 1 rfl) ?_
  refine lv_iload_n hx hb dJ7_checkLength_df160_1 rfl (lv_at hl 0 rfl) ?_
  refine lv_icmp_ge (tgt := 37) hx hb dJ7_checkLength_df160_2 rfl (fun _ => ?_) (fun w => absurd (nI_pos' (by omega)) w)
  exact W.vret hx hb hr (fun t e1 e2 => ⟨_, rfl, ⟨e1, rfl⟩, by rw [e1]; exact Nat.le_refl _, fun q _ _ => by rw [e1]⟩) (fun q hq => by cases hq) dJ7_checkLength_df160_37
/-- the first n of more -/
theorem tx_crb (hB0 : B0 ≤ v) (h : n < mm) (hq : mm ≤ 4096) : sb_met l B0 yJ7_copyOfRangeByte_39247 cJ7_copyOfRangeByte_39247 5 (some (.array .byte)) 2 1 4096 [.ref v, .int 0, .int (nI n)] (fun U => sb_K D cB U ∧ sb_Y cB v mm U.heap) (fun x st t => x = some (.ref st.heap.size) ∧ sb_Y cB st.heap.size n t.heap) sb_no := by
  refine sb_of (by decide) (fun p e s m below meth c F hP => ?_)
  obtain ⟨hx, hb, hml, hr, hlocks, hts, hown⟩ := id F
  obtain ⟨hK, hY⟩ := hP
  obtain ⟨f, y1, y2⟩ := id hY
  have hvl : v < s.heap.size := (Array.getElem?_eq_some_iff.mp y1).1
  have sub0 : ∀ z : Nat, nI z - (0 : Int32) = nI z := fun z => pk_sub (a := z) (b := 0) (by omega)
  have hl := lv_entry ([.ref v, .int 0, .int (nI n)]) (n := 5) (Nat.le_of_ble_eq_true rfl)
  rw [lg_entry_eq]
  generalize (lg_sl ([.ref v, .int 0, .int (nI n)]) ++ List.replicate (5 - (lg_sl ([.ref v, .int 0, .int (nI n)])).length) Slot.unset).toArray = ls at hl ⊢
  have hl : lv_has ls 5 [(0, .ref v), (1, .int 0), (2, .int (nI n))] := hl
  refine lv_iload_n hx hb dJ7_copyOfRangeByte_39247_0 rfl (lv_at hl 1 rfl) ?_
  refine lv_iload_n hx hb dJ7_copyOfRangeByte_39247_1 rfl (lv_at hl 2 rfl) ?_
  refine sb_callS (B0 := B0) (As := [.int 0, .int (nI n)]) (st := []) (k := 2) (d := 1) (mc := 0) (ms := 0) (Rm := sb_room 2 1 4096) F (tx_ckl (by omega)) tc_ckl ti_AR tl_AR343 tS_ckl ⟨by decide, by decide, by decide +kernel⟩ rfl dJ7_copyOfRangeByte_39247_2 hl.1 (by decide) (show 0 ≤ 8 by omega) (show 1 + 1 ≤ 2 by omega) (show 40 * (1 + 1) ≤ 40 * 2 by omega) (show 0 + 0 ≤ 1 by omega) (show 0 + 0 ≤ 4096 by omega) tx_pvT (fun _ _ _ => trivial) (fun q hq => by cases hq) ?_
  intro x st0 t locs1 e0 q1 hal z o hL
  obtain ⟨q1, q2⟩ := q1
  subst q2
  rw [e0] at q1
  rw [q1]
  refine lv_iload_n hx hb dJ7_copyOfRangeByte_39247_5 rfl (lv_at hl 2 rfl) ?_
  refine lv_iload_n hx hb dJ7_copyOfRangeByte_39247_6 rfl (lv_at hl 1 rfl) ?_
  refine lv_isub hx hb dJ7_copyOfRangeByte_39247_7 ?_
  rw [sub0]
  refine lv_istore_n (lv' := [(3, .int (nI n)), (0, .ref v), (1, .int 0), (2, .int (nI n))]) hx hb dJ7_copyOfRangeByte_39247_8 rfl hl (by decide) rfl (fun ls hl => ?_)
  refine lv_iload_n hx hb dJ7_copyOfRangeByte_39247_9 rfl (lv_at hl 0 rfl) ?_
  refine va_newaK (atype := .byte) hx hb (hts _ (sb_am (List.mem_filter.mpr ⟨ta_byte, rfl⟩))) rfl dJ7_copyOfRangeByte_39247_10 rfl (dq_p (by omega)) (N := n) (nI_clamp (by omega)) (by show n * 1 ≤ 536870912; omega) (show 0 + 0 + 1 ≤ 1 by omega) (show 0 + 0 + n ≤ 4096 by omega) rfl fun H1 cA e1 z1 o1 hAr hNm => ?_
  have ec : cA = cB := Option.some.inj (hNm.symm.trans (hK.2 0 _ rfl).2)
  rw [ec] at e1
  refine lv_astore (lv' := [(4, .ref s.heap.size), (3, .int (nI n)), (0, .ref v), (1, .int 0), (2, .int (nI n))]) hx hb dJ7_copyOfRangeByte_39247_12 hl (by decide) rfl (fun ls hl => ?_)
  refine lv_aload_n hx hb dJ7_copyOfRangeByte_39247_14 rfl (lv_at hl 2 rfl) ?_
  refine lv_iload_n hx hb dJ7_copyOfRangeByte_39247_15 rfl (lv_at hl 3 rfl) ?_
  refine lv_aload hx hb dJ7_copyOfRangeByte_39247_16 (lv_at hl 0 rfl) ?_
  refine lv_iconst (v := 0) hx hb dJ7_copyOfRangeByte_39247_18 rfl ?_
  refine lv_aload_n hx hb dJ7_copyOfRangeByte_39247_19 rfl (lv_at hl 2 rfl) ?_
  have y1' : H1[v]? = some (vp_cell cB (mm, .inl f)) := (o1 v hvl).trans y1
  refine sb_yl F hK ⟨f, y1', y2⟩ dJ7_copyOfRangeByte_39247_20 ?_
  refine lv_iload_n hx hb dJ7_copyOfRangeByte_39247_21 rfl (lv_at hl 3 rfl) ?_
  refine lv_isub hx hb dJ7_copyOfRangeByte_39247_22 ?_
  rw [sub0]
  refine lv_iload_n hx hb dJ7_copyOfRangeByte_39247_23 rfl (lv_at hl 1 rfl) ?_
  refine va_mmin (R := sb_room 2 1 4096) (rest := [.int 0, .ref s.heap.size, .int 0, .ref v]) hx hb (hml.trans hl.1.symm) hown (hts _ (sb_tb_i tl_AR304 rfl)) (hts _ (sb_tb_i (am_t1 am_mx3) rfl)) (hts _ (sb_tb_i (am_t1 am_mx5) rfl)) (hts _ (sb_tb_i (am_t1 am_mx4) rfl)) (show 1 ≤ 2 by omega) (show (1 + (1 + (1 + (1 + 0)))) + 13 ≤ 80 by omega) (show 0 + 0 + 1 ≤ 1 by omega) (show 0 + 0 + n ≤ 4096 by omega) dJ7_copyOfRangeByte_39247_24 ?_
  rw [if_pos ((dq_lt (by omega) (by omega)).mpr h)]
  refine sb_cpy2 (dp := 0) (st := []) F hl.1 hK y1' y2 (Nat.le_of_lt h) (by omega) (⟨fun _ => 0, e1, fun _ => (by decide : fits .byte (.int 0) = true)⟩ : sb_Y cB s.heap.size n H1) (by omega) (by omega) tl_AR150 (show 1 ≤ 2 by omega) (by decide) dJ7_copyOfRangeByte_39247_27 (fun H2 locs2 g1 g2 g3 g4 => ?_)
  refine lv_aload hx hb dJ7_copyOfRangeByte_39247_30 (lv_at hl 0 rfl) ?_
  refine W.widen (k := 1) (n := 4096) (show 0 + 0 + 1 ≤ 1 by omega) (show 0 + 0 + n ≤ 4096 by omega) ?_
  refine W.aret hx hb hr (Or.inr ⟨_, rfl⟩) (Or.inr ⟨_, rfl⟩) (fun t e1 e2 => ⟨_, rfl, ⟨rfl, by rw [e1]; exact g1⟩, by rw [e1]; omega, fun q h1 _ => by rw [e1]; exact (g3 q (by omega)).trans (o1 q h1)⟩) (fun q hq => ?_) dJ7_copyOfRangeByte_39247_32
  rcases g4 q hq with w | w
  · exact hL q w
  · show B0 ≤ q.base
    rw [w]
    exact Nat.le_trans hB0 (Nat.le_of_lt hvl)
end SP98m
