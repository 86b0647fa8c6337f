/-! text(): String.<init>(StringBuilder) -/
theorem dJ0_init_81219_0 : decode cJ0_init_81219 0 = .ok (.aload_n 0, 1) := by decide +kernel
theorem dJ0_init_81219_1 : decode cJ0_init_81219 1 = .ok (.aload_n 1, 1) := by decide +kernel
theorem dJ0_init_81219_2 : decode cJ0_init_81219 2 = .ok (.aconst_null, 1) := by decide +kernel
theorem dJ0_init_81219_3 : decode cJ0_init_81219 3 = .ok (.invokespecial 489, 3) := by decide +kernel
theorem dJ0_init_81219_6 : decode cJ0_init_81219 6 = .ok (.return_, 1) := by decide +kernel
set_option maxRecDepth 1000000 in
theorem tl_S489 : (Jvm.Cond.methodLink "java/lang/String" (489 : Nat) ({ cls := "java/lang/String", name := "<init>", desc := "(Ljava/lang/AbstractStringBuilder;Ljava/lang/Void;)V" } : Jvm.MethodName)) ∈ lw_tbl := am_t1 (List.mem_of_getElem? (i := 1260) (by decide +kernel))
set_option maxRecDepth 1000000 in
theorem tc_sI : (Jvm.Cond.code ({ cls := "java/lang/String", name := "<init>", desc := "(Ljava/lang/StringBuilder;)V" } : Jvm.MethodName) prog_20_method_53_code (2 : Nat) (Option.none : Option Jvm.ClassFile.FieldType)) ∈ lw_tbl := am_t1 (List.mem_of_getElem? (i := 1259) (by decide +kernel))
set_option maxRecDepth 1000000 in
theorem tm_sI : (Jvm.Cond.instanceMethod ({ cls := "java/lang/String", name := "<init>", desc := "(Ljava/lang/StringBuilder;)V" } : Jvm.MethodName)) ∈ lw_tbl := am_t1 (List.mem_of_getElem? (i := 1258) (by decide +kernel))
section SP98t
variable {l : Launch} {B0 : Nat} {D : va_G} {cB : ClassId} {a v n mm r : Nat}
/-- String.<init>(StringBuilder) -/
theorem tx_sI (hr0 : B0 ≤ r) (hra : ¬ r = a) (hrv : ¬ r = v) : sb_met l B0 yJ0_init_81219 cJ0_init_81219 2 none 5 1 4096 [.ref r, .ref a] (fun U => sb_B D cB B0 a v n mm U U.heap ∧ va_P D vwCl [(r, .inr (11, [.null, .int 0, .int 0, .int 0]))] U.heap) (fun x st t => x = none ∧ va_P D vwCl [(r, .inr (11, [.ref st.heap.size, .int 0, .int 0, .int 0]))] t.heap ∧ sb_Y cB st.heap.size n t.heap) (fun _ x => x = r) := by
  refine sb_of (by decide) (fun p e s m below meth c F hP => ?_)
  obtain ⟨hx, hb, hml, hr, hlocks, hts, hown⟩ := id F
  obtain ⟨hB, hT⟩ := id hP
  have hl := lv_entry ([.ref r, .ref a]) (n := 2) (Nat.le_of_ble_eq_true rfl)
  rw [lg_entry_eq]
  generalize (lg_sl ([.ref r, .ref a]) ++ List.replicate (2 - (lg_sl ([.ref r, .ref a])).length) Slot.unset).toArray = ls at hl ⊢
  have hl : lv_has ls 2 [(0, .ref r), (1, .ref a)] := hl
  refine lv_aload_n hx hb dJ0_init_81219_0 rfl (lv_at hl 0 rfl) ?_
  refine lv_aload_n hx hb dJ0_init_81219_1 rfl (lv_at hl 1 rfl) ?_
  refine lv_null hx hb dJ0_init_81219_2 ?_
  refine sb_callk (va_runI (As := [.ref a, .null]) (rest := []) ⟨hx, hb, hml, hown, hts⟩ (tx_sV (D := D) (cB := cB) (n := n) (mm := mm) hr0 hra hrv) (cwI 2 hts (sb_goodIn tc_sV) rfl rfl rfl (hts _ (sb_tb_i ti_S rfl)) (hts _ (sb_tb_i tl_S489 rfl)) (hts _ (sb_tb_i tm_sV rfl)) rfl ⟨by decide, by decide, by decide +kernel⟩ ⟨show 4 + 1 ≤ 5 by omega, by show 8 + (5 + 11) + 40 * 4 ≤ 40 * 5; omega⟩) (sb_pre (sb_pvX (Pre := fun U H => sb_B D cB B0 a v n mm U H ∧ va_P D vwCl [(r, .inr (11, [.null, .int 0, .int 0, .int 0]))] H) (fun U V H hv q => ⟨sb_B_on hv q.1, q.2⟩)) (fun U hU hW => by rw [hU]; exact ⟨sb_B_on hW.alike hB, hT⟩)) rfl rfl hl.1 rfl (by show 2 * 0 + 0 ≤ 8; omega) dJ0_init_81219_3 ⟨show 0 + 1 ≤ 1 by omega, show 0 + 4096 ≤ 4096 by omega⟩) (fun q hq => by cases hq) ?_
  intro x st0 t locs1 e0 q1 hal z o hL
  obtain ⟨q1, q2, q3⟩ := q1
  subst q1
  rw [e0] at q2 q3
  exact W.vret hx hb hr (fun t2 e1 e2 => ⟨_, rfl, ⟨rfl, by rw [e1]; exact q2, by rw [e1]; exact q3⟩, by rw [e1]; exact z, fun y h1 h2 => by rw [e1]; exact o y h1 h2⟩) hL dJ0_init_81219_6
end SP98t
