/-! text(): append(String) -/
section SP97
variable {p : Program} {l : Launch} {e : Env} {Rm : Room} {s : State} {m : MethodId} {args : Array Value} {below : List Frame} {meth : Method} {c : Code} {Q : State → Prop} {H : Heap} {locs : List Loc} {cs ss pc B0 : Nat} {ls : Array Slot}
variable {own : String} {bc : ByteArray} {nL : Nat} {rt : Option FieldType} {st : List Value} {D : va_G} {cB : ClassId} {a v n mm r v0 w : Nat}
/-- what an append leaves: n2 letters -/
def sb_af (D : va_G) (cB : ClassId) (a v n2 : Nat) (st t : State) : Prop := ∃ v2 m2, (∃ k, sb_O D a v2 n2 k t.heap) ∧ sb_Y cB v2 m2 t.heap ∧ a ≠ v2 ∧ n2 ≤ m2 ∧ m2 ≤ 4096 ∧ 0 < m2 ∧ (v2 = v ∨ st.heap.size ≤ v2)
theorem sv_lt (h : sv_S r v0 w s H) : r < H.size ∧ v0 < H.size ∧ w ≤ 1000 := by
  obtain ⟨f, hw, ⟨c1, a1, -⟩, -, -, ⟨c2, a2, -⟩, -⟩ := h
  exact ⟨(Array.getElem?_eq_some_iff.mp a1).1, (Array.getElem?_eq_some_iff.mp a2).1, hw⟩
theorem sb_Y_lt (h : sb_Y cB v mm H) : v < H.size := by
  obtain ⟨f, h1, -⟩ := h
  exact (Array.getElem?_eq_some_iff.mp h1).1
/-- a builder and a string beside it -/
def sb_BS (D : va_G) (cB : ClassId) (B0 a v n mm r v0 w : Nat) (U : State) (H : Heap) : Prop := sb_B D cB B0 a v n mm U H ∧ sv_S r v0 w U H
theorem sb_BSpv : sb_pv (fun U => sb_BS D cB B0 a v n mm r v0 w U U.heap) := sb_pvX (Pre := fun U H => sb_BS D cB B0 a v n mm r v0 w U H) (fun U V H hv q => ⟨sb_B_on hv q.1, sv_on hv rfl rfl q.2⟩)
theorem sb_BSgo {U : State} (h : sb_BS D cB B0 a v n mm r v0 w s H) (hU : U.heap = H) (hW : s.WarmedH U.vm) : sb_BS D cB B0 a v n mm r v0 w U U.heap := by
  rw [hU]
  exact ⟨sb_B_on hW.alike h.1, sv_on hW.alike rfl rfl h.2⟩
theorem tx_inf : sb_met l B0 yJ5_inflateIfNeededFor_a7421 cJ5_inflateIfNeededFor_a7421 2 none 2 0 0 [.ref a, .ref r] (fun U => sb_BS D cB B0 a v n mm r v0 w U U.heap) (fun x st t => t.heap = st.heap ∧ x = none) sb_no := by
  refine sb_of (by decide) (fun p e s m below meth c F hP => ?_)
  obtain ⟨hx, hb, hml, hr, hlocks, hts, hown⟩ := id F
  obtain ⟨hB, hS⟩ := hP
  obtain ⟨hK, ⟨k, hO⟩, hY, b1, b2, b3, b4, b5, hX⟩ := id hB
  have hl := lv_entry ([.ref a, .ref r]) (n := 2) (Nat.le_of_ble_eq_true rfl)
  rw [lg_entry_eq]
  generalize (lg_sl ([.ref a, .ref r]) ++ List.replicate (2 - (lg_sl ([.ref a, .ref r])).length) Slot.unset).toArray = ls at hl ⊢
  have hl : lv_has ls 2 [(0, .ref a), (1, .ref r)] := hl
  refine sb_gets F hX.1 tf_A18 dJ5_inflateIfNeededFor_a7421_0 ?_
  refine lv_if_eq (tgt := 21) hx hb dJ5_inflateIfNeededFor_a7421_3 rfl (fun w => absurd w (by decide)) (fun _ => ?_)
  refine lv_aload_n hx hb dJ5_inflateIfNeededFor_a7421_6 rfl (lv_at hl 0 rfl) ?_
  refine sb_g F hK hO 1 (by decide) rfl tf_A22 rfl dJ5_inflateIfNeededFor_a7421_7 ?_
  refine lv_aload_n hx hb dJ5_inflateIfNeededFor_a7421_10 rfl (lv_at hl 1 rfl) ?_
  refine sb_callV (C := "java/lang/String") (As := []) (st := [.int 0]) (k := 0) (d := 1) (mc := 0) (ms := 0) F (tx_coder (r := r) (v := v0) (w := w)) tc_coder ti_S tl_A40 tm_coder (hts _ (sb_tb_i te_coder rfl)) ⟨by decide, by decide, by decide +kernel⟩ rfl (sv_recv hS) dJ5_inflateIfNeededFor_a7421_11 hl.1 (by decide) (show 1 + 0 ≤ 8 by omega) (show 1 + 1 ≤ 2 by omega) (show 40 * (1 + 1) ≤ 40 * 2 by omega) (show 0 + 0 ≤ 0 by omega) (show 0 + 0 ≤ 0 by omega) sv_pv (fun U hU hW => sv_go hS hX hU hW) (fun q hq => by cases hq) ?_
  intro x st0 t locs1 e0 q1 hal z o hL
  obtain ⟨q1, q2⟩ := q1
  subst q2
  rw [e0] at q1
  rw [q1]
  refine lv_icmp_eq (tgt := 21) hx hb dJ5_inflateIfNeededFor_a7421_14 rfl (fun _ => ?_) (fun w => absurd rfl w)
  exact W.vret hx hb hr (fun t e1 e2 => ⟨_, rfl, ⟨e1, rfl⟩, by rw [e1]; exact Nat.le_refl _, fun q _ _ => by rw [e1]⟩) hL dJ5_inflateIfNeededFor_a7421_21
theorem tx_pst (hdp : n + w ≤ mm) (hne : ¬ v = v0) (hne2 : ¬ v = r) : sb_met l B0 yJ5_putStringAt_47b60 cJ5_putStringAt_47b60 3 none 3 0 0 [.ref a, .int (nI n), .ref r] (fun U => sb_BS D cB B0 a v n mm r v0 w U U.heap) (fun x st t => x = none ∧ sb_Y cB v mm t.heap) (fun _ x => x = v) := by
  refine sb_of (by decide) (fun p e s m below meth c F hP => ?_)
  obtain ⟨hx, hb, hml, hr, hlocks, hts, hown⟩ := id F
  obtain ⟨hB, hS⟩ := id hP
  obtain ⟨hK, ⟨k, hO⟩, hY, b1, b2, b3, b4, b5, hX⟩ := id hB
  have hl := lv_entry ([.ref a, .int (nI n), .ref r]) (n := 3) (Nat.le_of_ble_eq_true rfl)
  rw [lg_entry_eq]
  generalize (lg_sl ([.ref a, .int (nI n), .ref r]) ++ List.replicate (3 - (lg_sl ([.ref a, .int (nI n), .ref r])).length) Slot.unset).toArray = ls at hl ⊢
  have hl : lv_has ls 3 [(0, .ref a), (1, .int (nI n)), (2, .ref r)] := hl
  refine lv_aload_n hx hb dJ5_putStringAt_47b60_0 rfl (lv_at hl 0 rfl) ?_
  refine lv_aload_n hx hb dJ5_putStringAt_47b60_1 rfl (lv_at hl 2 rfl) ?_
  refine sb_callV (C := "java/lang/StringBuilder") (As := [.ref r]) (st := []) (k := 1) (d := 2) (mc := 0) (ms := 0) F (tx_inf (a := a) (v := v) (n := n) (mm := mm) (D := D) (cB := cB) (r := r) (v0 := v0) (w := w)) tc_inf ti_A tl_A397 tm_inf (hts _ (List.mem_append_left _ (by simp [sb_sels]))) ⟨by decide, by decide, by decide +kernel⟩ rfl (sb_recv hB) dJ5_putStringAt_47b60_2 hl.1 (by decide) (show 0 ≤ 8 by omega) (show 2 + 1 ≤ 3 by omega) (show 40 * (2 + 1) ≤ 40 * 3 by omega) (show 0 + 0 ≤ 0 by omega) (show 0 + 0 ≤ 0 by omega) sb_BSpv (fun U hU hW => sb_BSgo hP hU hW) (fun q hq => by cases hq) ?_
  intro x st0 t locs1 e0 q1 hal z o hL
  obtain ⟨q1, q2⟩ := q1
  subst q2
  rw [e0] at q1
  rw [q1]
  refine lv_aload_n hx hb dJ5_putStringAt_47b60_5 rfl (lv_at hl 2 rfl) ?_
  refine lv_aload_n hx hb dJ5_putStringAt_47b60_6 rfl (lv_at hl 0 rfl) ?_
  refine sb_g F hK hO 0 (by decide) rfl tf_A15 rfl dJ5_putStringAt_47b60_7 ?_
  refine lv_iload_n hx hb dJ5_putStringAt_47b60_10 rfl (lv_at hl 1 rfl) ?_
  refine lv_aload_n hx hb dJ5_putStringAt_47b60_11 rfl (lv_at hl 0 rfl) ?_
  refine sb_g F hK hO 1 (by decide) rfl tf_A22 rfl dJ5_putStringAt_47b60_12 ?_
  refine sb_callV (C := "java/lang/String") (As := [.ref v, .int (nI n), .int 0]) (st := []) (k := 3) (d := 2) (mc := 0) (ms := 0) F (tx_gby (r := r) (v := v) (v0 := v0) (w := w) (mm := mm) (D := D) (cB := cB) b5 hdp b3 hne hne2) tc_gby ti_S tl_A399 tm_gby (hts _ (sb_tb_i te_gby rfl)) ⟨by decide, by decide, by decide +kernel⟩ rfl (sv_recv hS) dJ5_putStringAt_47b60_15 hl.1 (by decide) (show 0 ≤ 8 by omega) (show 2 + 1 ≤ 3 by omega) (show 40 * (2 + 1) ≤ 40 * 3 by omega) (show 0 + 0 + 0 ≤ 0 by omega) (show 0 + 0 + 0 ≤ 0 by omega) (sb_pvX (Pre := fun U H => sb_K D cB U ∧ sv_S r v0 w U H ∧ sb_Y cB v mm H ∧ sb_X B0 U H) (fun U V H hv q => ⟨q.1.moved hv, sv_on hv rfl rfl q.2.1, q.2.2.1, sb_X_on hv (fun _ _ _ => rfl) q.2.2.2⟩)) (fun U hU hW => by rw [hU]; exact ⟨hK.moved hW.alike, sv_on hW.alike rfl rfl hS, hY, sb_X_on hW.alike (fun _ _ _ => rfl) hX⟩) hL ?_
  intro x2 st2 t2 locs2 f0 f1 hal2 z2 o2 hL2
  obtain ⟨f1, f2⟩ := f1
  subst f1
  exact W.vret hx hb hr (fun t e1 e2 => ⟨_, rfl, ⟨rfl, by rw [e1]; exact f2⟩, by rw [e1]; exact z2, fun q h1 h2 => by rw [e1]; exact o2 q h1 h2⟩) hL2 dJ5_putStringAt_47b60_18
/-- AbstractStringBuilder.append(String) -/
theorem tx_aS (hm0 : 0 < mm) (hn : n + w ≤ 1000) (h1 : ¬ r = a) (h2 : ¬ r = v) (h3 : ¬ v0 = a) (h4 : ¬ v0 = v) : sb_met l B0 yJ5_append_cf1ce cJ5_append_cf1ce 3 (some (.object "java/lang/AbstractStringBuilder")) 5 1 4096 [.ref a, .ref r] (fun U => sb_BS D cB B0 a v n mm r v0 w U U.heap) (fun x st t => x = some (.ref a) ∧ sb_af D cB a v (n + w) st t) (fun _ x => x = a ∨ x = v) := by
  refine sb_of (by decide) (fun p e s m below meth c F hP => ?_)
  obtain ⟨hx, hb, hml, hr, hlocks, hts, hown⟩ := id F
  obtain ⟨hB, hS⟩ := id hP
  obtain ⟨hK, ⟨k, hO⟩, hY, b1, b2, b3, b4, b5, hX⟩ := id hB
  obtain ⟨s1, s2, s3⟩ := sv_lt hS
  have al := sb_O_lt hO
  have vl := sb_Y_lt hY
  have hl := lv_entry ([.ref a, .ref r]) (n := 3) (Nat.le_of_ble_eq_true rfl)
  rw [lg_entry_eq]
  generalize (lg_sl ([.ref a, .ref r]) ++ List.replicate (3 - (lg_sl ([.ref a, .ref r])).length) Slot.unset).toArray = ls at hl ⊢
  have hl : lv_has ls 3 [(0, .ref a), (1, .ref r)] := hl
  refine lv_aload_n hx hb dJ5_append_cf1ce_0 rfl (lv_at hl 1 rfl) ?_
  refine lv_ifnonnull (tgt := 9) hx hb dJ5_append_cf1ce_1 rfl ?_
  refine lv_aload_n hx hb dJ5_append_cf1ce_9 rfl (lv_at hl 1 rfl) ?_
  refine sb_callV (C := "java/lang/String") (As := []) (st := []) (k := 0) (d := 2) (mc := 0) (ms := 0) F (tx_len (r := r) (v := v0) (w := w)) tc_len ti_S tl_A32 tm_len (hts _ (sb_tb_i te_len rfl)) ⟨by decide, by decide, by decide +kernel⟩ rfl (sv_recv hS) dJ5_append_cf1ce_10 hl.1 (by decide) (show 0 ≤ 8 by omega) (show 2 + 1 ≤ 5 by omega) (show 40 * (2 + 1) ≤ 40 * 5 by omega) (show 0 + 0 ≤ 1 by omega) (show 0 + 0 ≤ 4096 by omega) sv_pv (fun U hU hW => sv_go hS hX hU hW) (fun q hq => by cases hq) ?_
  intro x st0 t locs1 e0 q1 hal z o hL
  obtain ⟨q1, q2⟩ := q1
  subst q2
  rw [e0] at q1
  rw [q1]
  refine lv_istore_n (lv' := [(2, .int (nI w)), (0, .ref a), (1, .ref r)]) hx hb dJ5_append_cf1ce_13 rfl hl (by decide) rfl (fun ls hl => ?_)
  refine lv_aload_n hx hb dJ5_append_cf1ce_14 rfl (lv_at hl 1 rfl) ?_
  refine lv_aload_n hx hb dJ5_append_cf1ce_15 rfl (lv_at hl 1 rfl) ?_
  refine sb_g F hK hO 3 (by decide) rfl tf_A79 rfl dJ5_append_cf1ce_16 ?_
  refine lv_iload_n hx hb dJ5_append_cf1ce_19 rfl (lv_at hl 0 rfl) ?_
  refine lv_iadd hx hb dJ5_append_cf1ce_20 ?_
  rw [nI_add]
  refine sb_callV (C := "java/lang/StringBuilder") (As := [.int (nI (n + w))]) (st := []) (k := 1) (d := 4) (mc := 1) (ms := 4096) (Rm := sb_room 5 1 4096) (cs := 0 + 0) (ss := 0 + 0) F (tx_ens (a := a) (v := v) (n := n) (mm := mm) (D := D) (cB := cB) hm0 hn) tc_ens ti_A tl_A100 tm_ens (hts _ (List.mem_append_left _ (by simp [sb_sels]))) ⟨by decide, by decide, by decide +kernel⟩ rfl (sb_recv hB) dJ5_append_cf1ce_21 hl.1 (by decide) (show 0 ≤ 8 by omega) (show 4 + 1 ≤ 5 by omega) (show 40 * (4 + 1) ≤ 40 * 5 by omega) (show 0 + 0 + 1 ≤ 1 by omega) (show 0 + 0 + 4096 ≤ 4096 by omega) sb_Bpv (fun U hU hW => sb_Bgo hB hU hW) hL ?_
  intro x2 st2 t2 locs2 f0 f1 hal2 z2 o2 hL2
  obtain ⟨f1, v2, m2, ⟨k2, hO2⟩, hY2, c1, c2, c3, c4, c5, c6⟩ := f1
  subst f1
  rw [f0] at c6
  have hX2 : sb_X B0 s t2.heap := sb_X_on (Vm.Alike.refl _) (fun q g1 g2 => o2 q g1 (fun e => by omega)) hX
  have hB2 : sb_B D cB B0 a v2 n m2 s t2.heap := ⟨hK, ⟨k2, hO2⟩, hY2, c1, c2, c3, b4, by omega, hX2⟩
  have hS2 : sv_S r v0 w s t2.heap := sv_on (Vm.Alike.refl _) (o2 r s1 h1) (o2 v0 s2 h3) hS
  refine lv_aload_n hx hb dJ5_append_cf1ce_24 rfl (lv_at hl 1 rfl) ?_
  refine lv_aload_n hx hb dJ5_append_cf1ce_25 rfl (lv_at hl 1 rfl) ?_
  refine sb_g F hK hO2 3 (by decide) rfl tf_A79 rfl dJ5_append_cf1ce_26 ?_
  refine lv_aload_n hx hb dJ5_append_cf1ce_29 rfl (lv_at hl 2 rfl) ?_
  refine sb_callV (C := "java/lang/StringBuilder") (As := [.int (nI n), .ref r]) (st := []) (k := 2) (d := 3) (mc := 0) (ms := 0) F (tx_pst (a := a) (v := v2) (n := n) (mm := m2) (D := D) (cB := cB) (r := r) (v0 := v0) (w := w) c4 (by omega) (by omega)) tc_pst ti_A tl_A208 tm_pst (hts _ (List.mem_append_left _ (by simp [sb_sels]))) ⟨by decide, by decide, by decide +kernel⟩ rfl (sb_recv hB2) dJ5_append_cf1ce_30 hl.1 (by decide) (show 0 ≤ 8 by omega) (show 3 + 1 ≤ 5 by omega) (show 40 * (3 + 1) ≤ 40 * 5 by omega) (show 0 + 0 + 1 + 0 ≤ 1 by omega) (show 0 + 0 + 4096 + 0 ≤ 4096 by omega) sb_BSpv (fun U hU hW => sb_BSgo ⟨hB2, hS2⟩ hU hW) hL2 ?_
  intro x3 st3 t3 locs3 d0 d1 hal3 z3 o3 hL3
  obtain ⟨d1, hY3⟩ := d1
  subst d1
  have al2 := sb_O_lt hO2
  have hO3 := sb_O_ne hO2 (o3 a al2 c1)
  refine lv_aload_n hx hb dJ5_append_cf1ce_33 rfl (lv_at hl 1 rfl) ?_
  refine lv_dup hx hb dJ5_append_cf1ce_34 rfl ?_
  refine sb_g F hK hO3 3 (by decide) rfl tf_A79 rfl dJ5_append_cf1ce_35 ?_
  refine lv_iload_n hx hb dJ5_append_cf1ce_38 rfl (lv_at hl 0 rfl) ?_
  refine lv_iadd hx hb dJ5_append_cf1ce_39 ?_
  rw [nI_add]
  refine sb_p F hK hO3 3 (by decide) rfl rfl (ty := .int) (by decide +kernel) rfl rfl (show 3 < 4 by omega) tf_A79 dJ5_append_cf1ce_40 (fun H4 i g1 g2 g3 => ?_)
  refine lv_aload_n hx hb dJ5_append_cf1ce_43 rfl (lv_at hl 1 rfl) ?_
  refine W.aret hx hb hr (Or.inl ⟨_, rfl⟩) (Or.inr ⟨_, rfl⟩) (fun t e1 e2 => ⟨_, rfl, ⟨rfl, v2, m2, ?_, ?_, c1, c4, c3, c5, c6⟩, ?_, fun y h5 h6 => ?_⟩) (fun y hy => ?_) dJ5_append_cf1ce_44
  · rcases List.mem_append.mp hy with w | w
    · exact hL3 y w
    · rw [List.mem_singleton.mp w]
      exact b4
  · rw [e1]
    exact ⟨k2, g1⟩
  · rw [e1]
    obtain ⟨f, y1, y2⟩ := hY3
    exact ⟨f, (g3 _ (fun e => c1 e.symm)).trans y1, y2⟩
  · rw [e1, g2]
    omega
  · rw [e1]
    have a1 : ¬ y = a := fun e => h6 (Or.inl e)
    have a2 : ¬ y = v := fun e => h6 (Or.inr e)
    rw [g3 y a1, o3 y (by omega) (by omega)]
    exact o2 y h5 a1
end SP97
