/-! text(): charAt -/
section SP93
variable {l : Launch} {B0 : Nat}
theorem tx_chkP {i n : Nat} {fm : Value} (hi : i < n) (hn : n ≤ 1000) (hfm : fm = .null ∨ ∃ t, fm = .ref t) : sb_met l B0 yJ3_checkIndex_8e157 cJ3_checkIndex_8e157 3 (some .int) 1 0 0 [.int (nI i), .int (nI n), fm] (fun _ => True) (fun x st t => t.heap = st.heap ∧ x = some (.int (nI i))) sb_no := by
  have key : ∀ (fm : Value) (_ : (lg_sl ([.int (nI i), .int (nI n), fm])).length ≤ 3) (_ : fm.category = 1), sb_met l B0 yJ3_checkIndex_8e157 cJ3_checkIndex_8e157 3 (some .int) 1 0 0 [.int (nI i), .int (nI n), fm] (fun _ => True) (fun x st t => t.heap = st.heap ∧ x = some (.int (nI i))) sb_no := by
    intro fm h1 hcat
    refine sb_of (by decide) (fun p e s m below meth c F _ => ?_)
    obtain ⟨hx, hb, hml, hr, hlocks, hts, hown⟩ := id F
    have hl := lv_entry ([.int (nI i), .int (nI n), fm]) (n := 3) h1
    rw [lg_entry_eq]
    generalize (lg_sl ([.int (nI i), .int (nI n), fm]) ++ List.replicate (3 - (lg_sl ([.int (nI i), .int (nI n), fm])).length) Slot.unset).toArray = ls at hl ⊢
    have hl : lv_has ls 3 [(0, .int (nI i)), (1, .int (nI n)), (2, fm)] := hl
    refine lv_iload_n hx hb dJ3_checkIndex_8e157_0 rfl (lv_at hl 0 rfl) ?_
    refine lv_if_lt (tgt := 9) hx hb dJ3_checkIndex_8e157_1 rfl (fun w => absurd w (dq_p (by omega))) (fun _ => ?_)
    refine lv_iload_n hx hb dJ3_checkIndex_8e157_4 rfl (lv_at hl 0 rfl) ?_
    refine lv_iload_n hx hb dJ3_checkIndex_8e157_5 rfl (lv_at hl 1 rfl) ?_
    refine lv_icmp_lt (tgt := 16) hx hb dJ3_checkIndex_8e157_6 rfl (fun _ => ?_) (fun w => absurd ((dq_lt (by omega) (by omega)).mpr hi) w)
    refine lv_iload_n hx hb dJ3_checkIndex_8e157_16 rfl (lv_at hl 0 rfl) ?_
    exact W.iret hx hb hr (fun t e1 e2 => ⟨_, rfl, ⟨e1, rfl⟩, by rw [e1]; exact Nat.le_refl _, fun q _ _ => by rw [e1]⟩) (fun q hq => by cases hq) dJ3_checkIndex_8e157_17
  rcases hfm with h | ⟨t, h⟩ <;> subst h
  · exact key _ (Nat.le_of_ble_eq_true rfl) rfl
  · exact key _ (Nat.le_of_ble_eq_true rfl) rfl
theorem tx_pvT : sb_pv (fun _ => True) := fun _ _ _ _ _ => trivial
theorem tx_chk {i n : Nat} (hi : i < n) (hn : n ≤ 1000) : sb_met l B0 yJ0_checkIndex_df160 cJ0_checkIndex_df160 2 none 2 0 0 [.int (nI i), .int (nI n)] (fun U => sb_X B0 U U.heap) (fun x st t => t.heap = st.heap ∧ x = none) sb_no := by
  refine sb_of (by decide) (fun p e s m below meth c F hX => ?_)
  obtain ⟨hx, hb, hml, hr, hlocks, hts, hown⟩ := id F
  have hl := lv_entry ([.int (nI i), .int (nI n)]) (n := 2) (Nat.le_of_ble_eq_true rfl)
  rw [lg_entry_eq]
  generalize (lg_sl ([.int (nI i), .int (nI n)]) ++ List.replicate (2 - (lg_sl ([.int (nI i), .int (nI n)])).length) Slot.unset).toArray = ls at hl ⊢
  have hl : lv_has ls 2 [(0, .int (nI i)), (1, .int (nI n))] := hl
  obtain ⟨fm, hfm, hZ⟩ : ∃ fm : Value, (fm = .null ∨ ∃ t, fm = .ref t) ∧ va_Z "jdk/internal/util/Preconditions" "SIOOBE_FORMATTER" "Ljava/util/function/BiFunction;" fm (cm_A B0) s s.heap := by
    rcases hX.2.1 with h | ⟨t, h⟩
    · exact ⟨_, Or.inl rfl, h⟩
    · exact ⟨_, Or.inr ⟨t, rfl⟩, h⟩
  refine lv_iload_n hx hb dJ0_checkIndex_df160_0 rfl (lv_at hl 0 rfl) ?_
  refine lv_iload_n hx hb dJ0_checkIndex_df160_1 rfl (lv_at hl 1 rfl) ?_
  refine sb_gets F hZ tf_1053 dJ0_checkIndex_df160_2 ?_
  refine sb_callS (As := [.int (nI i), .int (nI n), fm]) (st := []) (k := 3) (d := 1) (mc := 0) (ms := 0) F (tx_chkP (B0 := B0) hi hn hfm) tc_chkP ti_P tl_1059 tS_chkP ⟨by decide, by decide, by decide +kernel⟩ rfl dJ0_checkIndex_df160_5 hl.1 (by decide) (show 0 ≤ 8 by omega) (show 1 + 1 ≤ 2 by omega) (show 40 * (1 + 1) ≤ 40 * 2 by omega) (show 0 + 0 ≤ 0 by omega) (show 0 + 0 ≤ 0 by omega) tx_pvT (fun _ _ _ => trivial) (fun q hq => by cases hq) ?_
  intro x st0 t locs1 e0 q1 hal z o hL
  obtain ⟨q1, q2⟩ := q1
  subst q2
  rw [e0] at q1
  refine lv_pop hx hb dJ0_checkIndex_df160_8 rfl ?_
  exact W.vret hx hb hr (fun t e1 e2 => ⟨_, rfl, ⟨e1.trans q1, rfl⟩, by rw [e1, q1]; exact Nat.le_refl _, fun q _ _ => by rw [e1, q1]⟩) hL dJ0_checkIndex_df160_9
def sv_B (v w : Nat) (U : State) (H : Heap) : Prop := ∃ f : Nat → Int32, w ≤ 1000 ∧ va_T .byte v w (fun j => .int (f j)) sv_no U H
theorem sv_B_on {v w : Nat} {U V : State} {H : Heap} (hv : U.vm.Alike V.vm) (h : sv_B v w U H) : sv_B v w V H := by
  obtain ⟨f, hw, hT⟩ := h
  exact ⟨f, hw, va_T.moved hv hT⟩
theorem sv_Bpv {v w : Nat} : sb_pv (fun U => sv_B v w U U.heap ∧ sb_X B0 U U.heap) := sb_pvX (Pre := fun U H => sv_B v w U H ∧ sb_X B0 U H) (fun U V H hv q => ⟨sv_B_on hv q.1, sb_X_on hv (fun _ _ _ => rfl) q.2⟩)
theorem tx_cat1 {v w i : Nat} (hi : i < w) : sb_met l B0 yJ1_charAt_3b067 cJ1_charAt_3b067 2 (some .char) 3 0 0 [.ref v, .int (nI i)] (fun U => sv_B v w U U.heap ∧ sb_X B0 U U.heap) (fun x st t => t.heap = st.heap ∧ ∃ b, b < 256 ∧ x = some (.int (nI b))) sb_no := by
  refine sb_of (by decide) (fun p e s m below meth c F hP => ?_)
  obtain ⟨hx, hb, hml, hr, hlocks, hts, hown⟩ := id F
  obtain ⟨⟨f, hw, hT⟩, hX⟩ := hP
  obtain ⟨cell, h1, h2, h3, h4, h5, h6, -⟩ := id hT
  have hl := lv_entry ([.ref v, .int (nI i)]) (n := 2) (Nat.le_of_ble_eq_true rfl)
  rw [lg_entry_eq]
  generalize (lg_sl ([.ref v, .int (nI i)]) ++ List.replicate (2 - (lg_sl ([.ref v, .int (nI i)])).length) Slot.unset).toArray = ls at hl ⊢
  have hl : lv_has ls 2 [(0, .ref v), (1, .int (nI i))] := hl
  refine lv_iload_n hx hb dJ1_charAt_3b067_0 rfl (lv_at hl 1 rfl) ?_
  refine lv_aload_n hx hb dJ1_charAt_3b067_1 rfl (lv_at hl 0 rfl) ?_
  refine W.alen (n := Int32.ofNat w) hx hb h1 h2 h5 rfl rfl dJ1_charAt_3b067_2 ?_
  refine sb_callS (As := [.int (nI i), .int (nI w)]) (st := []) (k := 2) (d := 2) (mc := 0) (ms := 0) F (tx_chk hi hw) tc_chk ti_S tl_L9 tS_chk ⟨by decide, by decide, by decide +kernel⟩ rfl dJ1_charAt_3b067_3 hl.1 (by decide) (show 0 ≤ 8 by omega) (show 2 + 1 ≤ 3 by omega) (show 40 * (2 + 1) ≤ 40 * 3 by omega) (show 0 + 0 ≤ 0 by omega) (show 0 + 0 ≤ 0 by omega) (sb_pvX (Pre := fun U H => sb_X B0 U H) (fun U V H hv q => sb_X_on hv (fun _ _ _ => rfl) q)) (fun U hU hW => by rw [hU]; exact sb_X_on hW.alike (fun _ _ _ => rfl) hX) (fun q hq => by cases hq) ?_
  intro x st0 t locs1 e0 q1 hal z o hL
  obtain ⟨q1, q2⟩ := q1
  subst q2
  rw [e0] at q1
  rw [q1]
  refine lv_aload_n hx hb dJ1_charAt_3b067_6 rfl (lv_at hl 0 rfl) ?_
  refine lv_iload_n hx hb dJ1_charAt_3b067_7 rfl (lv_at hl 1 rfl) ?_
  refine W.bald (v := .int (f i)) hx hb h1 h2 h3 (fun q => ?_) (by rw [nI_clamp (by omega)]; exact h6 i hi) rfl rfl dJ1_charAt_3b067_8 ?_
  · rcases q with q | q
    · exact dq_p (by omega) q
    · rw [nI_clamp (by omega)] at q
      omega
  · obtain ⟨b, hb2, eb⟩ := dq_and255 (x := f i)
    refine lv_sipush (v := 255) hx hb dJ1_charAt_3b067_9 rfl ?_
    refine lv_iand hx hb dJ1_charAt_3b067_12 ?_
    rw [eb]
    refine lv_i2c (v := nI b) hx hb dJ1_charAt_3b067_13 (dq_i2c b hb2) ?_
    exact W.zret hx hb hr (by rw [← dq_i2c b hb2]; exact pk_nc _) (fun t e1 e2 => ⟨_, rfl, ⟨e1, b, hb2, rfl⟩, by rw [e1]; exact Nat.le_refl _, fun q _ _ => by rw [e1]⟩) hL dJ1_charAt_3b067_14
theorem tx_cat {r v w i : Nat} (hi : i < w) : sb_met l B0 yJ0_charAt_5068e cJ0_charAt_5068e 2 (some .char) 4 0 0 [.ref r, .int (nI i)] (fun U => sv_S r v w U U.heap ∧ sb_X B0 U U.heap) (fun x st t => t.heap = st.heap ∧ ∃ b, b < 256 ∧ x = some (.int (nI b))) sb_no := by
  refine sb_of (by decide) (fun p e s m below meth c F hP => ?_)
  obtain ⟨hx, hb, hml, hr, hlocks, hts, hown⟩ := id F
  obtain ⟨hS, hX⟩ := hP
  obtain ⟨f, hw, hO, hC, hV, hT, hf⟩ := id hS
  have hl := lv_entry ([.ref r, .int (nI i)]) (n := 2) (Nat.le_of_ble_eq_true rfl)
  rw [lg_entry_eq]
  generalize (lg_sl ([.ref r, .int (nI i)]) ++ List.replicate (2 - (lg_sl ([.ref r, .int (nI i)])).length) Slot.unset).toArray = ls at hl ⊢
  have hl : lv_has ls 2 [(0, .ref r), (1, .int (nI i))] := hl
  refine lv_aload_n hx hb dJ0_charAt_5068e_0 rfl (lv_at hl 0 rfl) ?_
  refine sb_callV (C := "java/lang/String") (As := []) (st := []) (k := 0) (d := 1) (mc := 0) (ms := 0) F (tx_isl (r := r) (v := v) (w := w)) tc_isl ti_S tl_492 tm_isl (hts _ (sb_tb_i te_isl rfl)) ⟨by decide, by decide, by decide +kernel⟩ rfl (sv_recv hS) dJ0_charAt_5068e_1 hl.1 (by decide) (show 0 ≤ 8 by omega) (show 1 + 1 ≤ 4 by omega) (show 40 * (1 + 1) ≤ 40 * 4 by omega) (show 0 + 0 ≤ 0 by omega) (show 0 + 0 ≤ 0 by omega) sv_pv (fun U hU hW => sv_go hS hX hU hW) (fun q hq => by cases hq) ?_
  intro x st0 t locs1 e0 q1 hal z o hL
  obtain ⟨q1, q2⟩ := q1
  subst q2
  rw [e0] at q1
  rw [q1]
  refine lv_if_eq (tgt := 16) hx hb dJ0_charAt_5068e_4 rfl (fun w => absurd w (by decide)) (fun _ => ?_)
  refine lv_aload_n hx hb dJ0_charAt_5068e_7 rfl (lv_at hl 0 rfl) ?_
  refine sb_getf F hV tf_9 dJ0_charAt_5068e_8 ?_
  refine lv_iload_n hx hb dJ0_charAt_5068e_11 rfl (lv_at hl 1 rfl) ?_
  refine sb_callS (As := [.ref v, .int (nI i)]) (st := []) (k := 2) (d := 3) (mc := 0) (ms := 0) F (tx_cat1 hi) tc_cat1 ti_L1 tl_495 tS_cat1 ⟨by decide, by decide, by decide +kernel⟩ rfl dJ0_charAt_5068e_12 hl.1 (by decide) (show 0 ≤ 8 by omega) (show 3 + 1 ≤ 4 by omega) (show 40 * (3 + 1) ≤ 40 * 4 by omega) (show 0 + 0 ≤ 0 by omega) (show 0 + 0 ≤ 0 by omega) sv_Bpv (fun U hU hW => by rw [hU]; exact ⟨⟨f, hw, va_T.moved hW.alike hT⟩, sb_X_on hW.alike (fun _ _ _ => rfl) hX⟩) hL ?_
  intro x2 st2 t2 locs2 f0 f1 hal2 z2 o2 hL2
  obtain ⟨f1, b, hb2, f2⟩ := f1
  subst f2
  rw [f0] at f1
  exact W.zret hx hb hr (by rw [← dq_i2c b hb2]; exact pk_nc _) (fun t e1 e2 => ⟨_, rfl, ⟨e1.trans f1, b, hb2, rfl⟩, by rw [e1, f1]; exact Nat.le_refl _, fun q _ _ => by rw [e1, f1]⟩) hL2 dJ0_charAt_5068e_15
end SP93
