/-! text(): StringBuilder.length -/
theorem dJ4_length_8abf5_0 : decode cJ4_length_8abf5 0 = .ok (.aload_n 0, 1) := by decide +kernel
theorem dJ4_length_8abf5_1 : decode cJ4_length_8abf5 1 = .ok (.invokespecial 343, 3) := by decide +kernel
theorem dJ4_length_8abf5_4 : decode cJ4_length_8abf5 4 = .ok (.ireturn, 1) := by decide +kernel
set_option maxRecDepth 1000000 in
theorem tc_blen : (Jvm.Cond.code ({ cls := "java/lang/StringBuilder", name := "length", desc := "()I" } : Jvm.MethodName) prog_21_method_93_code (1 : Nat) (Option.some Jvm.ClassFile.FieldType.int)) ∈ lw_tbl := am_t1 (List.mem_of_getElem? (i := 1274) (by decide +kernel))
set_option maxRecDepth 1000000 in
theorem tl_B343 : (Jvm.Cond.methodLink "java/lang/StringBuilder" (343 : Nat) ({ cls := "java/lang/AbstractStringBuilder", name := "length", desc := "()I" } : Jvm.MethodName)) ∈ lw_tbl := am_t1 (List.mem_of_getElem? (i := 1275) (by decide +kernel))
set_option maxRecDepth 1000000 in
theorem tm_blen : (Jvm.Cond.instanceMethod ({ cls := "java/lang/StringBuilder", name := "length", desc := "()I" } : Jvm.MethodName)) ∈ lw_tbl := am_t1 (List.mem_of_getElem? (i := 1273) (by decide +kernel))
set_option maxRecDepth 1000000 in
theorem tq_alen : (Jvm.Cond.sameMethod "java/lang/AbstractStringBuilder" "java/lang/AbstractStringBuilder" "length" "()I") ∈ lw_tbl := am_t1 (List.mem_of_getElem? (i := 1271) (by decide +kernel))
section SP98p
variable {p : Program} {l : Launch} {e : Env} {Rm : Room} {s : State} {m : MethodId} {args : Array Value} {below : List Frame} {meth : Method} {c : Code} {Q : State → Prop} {H : Heap} {locs : List Loc} {cs ss pc B0 : Nat} {ls : Array Slot}
variable {D : va_G} {cB : ClassId} {a v n mm : Nat}
/-- StringBuilder.length -/
theorem tx_blen : sb_met l B0 yJ4_length_8abf5 cJ4_length_8abf5 1 (some .int) 2 0 0 [.ref a] (fun U => sb_B D cB B0 a v n mm U U.heap) (fun x st t => t.heap = st.heap ∧ x = some (.int (nI n))) sb_no := by
  refine sb_of (by decide) (fun p e s m below meth c F hB => ?_)
  obtain ⟨hx, hb, hml, hr, hlocks, hts, hown⟩ := id F
  have hl := lv_entry ([.ref a]) (n := 1) (Nat.le_of_ble_eq_true rfl)
  rw [lg_entry_eq]
  generalize (lg_sl ([.ref a]) ++ List.replicate (1 - (lg_sl ([.ref a])).length) Slot.unset).toArray = ls at hl ⊢
  have hl : lv_has ls 1 [(0, .ref a)] := hl
  refine lv_aload_n hx hb dJ4_length_8abf5_0 rfl (lv_at hl 0 rfl) ?_
  refine sb_callU (As := []) (st := []) (k := 0) (d := 1) (mc := 0) (ms := 0) (Rm := sb_room 2 0 0) F hB.1 (tx_alen (D := D) (cB := cB) (a := a) (v := v) (n := n) (mm := mm)) tc_alen ti_A tl_B343 tm_alen tq_alen tw_sup ⟨by decide, by decide +kernel⟩ rfl (sb_recv hB) dJ4_length_8abf5_1 hl.1 (by decide) (show 0 ≤ 8 by omega) (show 1 + 1 ≤ 2 by omega) (show 40 * (1 + 1) ≤ 40 * 2 by omega) (show 0 + 0 ≤ 0 by omega) (show 0 + 0 ≤ 0 by omega) sb_Bpv (fun U hU hW => sb_Bgo hB hU hW) (fun q hq => by cases hq) ?_
  intro x st0 t locs1 e0 q1 hal z o hL
  obtain ⟨q1, q2⟩ := q1
  subst q2
  rw [q1, e0]
  exact W.iret hx hb hr (fun t3 e1 e2 => ⟨_, rfl, ⟨e1, rfl⟩, by rw [e1]; exact Nat.le_refl _, fun y _ _ => by rw [e1]⟩) hL dJ4_length_8abf5_4
end SP98p
