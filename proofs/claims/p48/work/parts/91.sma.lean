/-! the law's helpers: some, at -/
theorem dL_some_0 : decode cL_some 0 = .ok (.iload_n 0, 1) := by decide +kernel
theorem dL_some_1 : decode cL_some 1 = .ok (.iload_n 1, 1) := by decide +kernel
theorem dL_some_2 : decode cL_some 2 = .ok (.irem, 1) := by decide +kernel
theorem dL_some_3 : decode cL_some 3 = .ok (.istore_n 2, 1) := by decide +kernel
theorem dL_some_4 : decode cL_some 4 = .ok (.iload_n 2, 1) := by decide +kernel
theorem dL_some_5 : decode cL_some 5 = .ok (.ifCond .ge 9, 3) := by decide +kernel
theorem dL_some_8 : decode cL_some 8 = .ok (.iload_n 2, 1) := by decide +kernel
theorem dL_some_9 : decode cL_some 9 = .ok (.iload_n 1, 1) := by decide +kernel
theorem dL_some_10 : decode cL_some 10 = .ok (.iadd, 1) := by decide +kernel
theorem dL_some_11 : decode cL_some 11 = .ok (.goto 4, 3) := by decide +kernel
theorem dL_some_14 : decode cL_some 14 = .ok (.iload_n 2, 1) := by decide +kernel
theorem dL_some_15 : decode cL_some 15 = .ok (.ireturn, 1) := by decide +kernel
theorem dL_at_0 : decode cL_at 0 = .ok (.iload_n 1, 1) := by decide +kernel
theorem dL_at_1 : decode cL_at 1 = .ok (.aload_n 0, 1) := by decide +kernel
theorem dL_at_2 : decode cL_at 2 = .ok (.arraylength, 1) := by decide +kernel
theorem dL_at_3 : decode cL_at 3 = .ok (.if_icmp .ge 9, 3) := by decide +kernel
theorem dL_at_6 : decode cL_at 6 = .ok (.aload_n 0, 1) := by decide +kernel
theorem dL_at_7 : decode cL_at 7 = .ok (.iload_n 1, 1) := by decide +kernel
theorem dL_at_8 : decode cL_at 8 = .ok (.iaload, 1) := by decide +kernel
theorem dL_at_9 : decode cL_at 9 = .ok (.goto 4, 3) := by decide +kernel
theorem dL_at_12 : decode cL_at 12 = .ok (.iconst 0, 1) := by decide +kernel
theorem dL_at_13 : decode cL_at 13 = .ok (.ireturn, 1) := by decide +kernel
set_option maxRecDepth 1000000 in
theorem tw_some : (Jvm.Cond.code ({ cls := "DoorsForThreeLaw", name := "some", desc := "(II)I" } : Jvm.MethodName) method_3_code (3 : Nat) (Option.some Jvm.ClassFile.FieldType.int)) ∈ lw_tbl := am_t1 (List.mem_of_getElem? (i := 1090) (by decide +kernel))
set_option maxRecDepth 1000000 in
theorem tw_at : (Jvm.Cond.code ({ cls := "DoorsForThreeLaw", name := "at", desc := "([II)I" } : Jvm.MethodName) method_2_code (2 : Nat) (Option.some Jvm.ClassFile.FieldType.int)) ∈ lw_tbl := am_t1 (List.mem_of_getElem? (i := 1087) (by decide +kernel))
section SP91
variable {l : Launch} {B0 : Nat}
theorem tx_some {x : Int32} {k : Nat} (h0 : 0 < k) (hk : k < 1000) : sb_met l B0 yL_some cL_some 3 (some .int) 1 0 0 [.int x, .int (nI k)] (fun _ => True) (fun r st t => t.heap = st.heap ∧ ∃ j, j < k ∧ r = some (.int (nI j))) sb_no := by
  refine sb_of (by decide) (fun p e s m below meth c F _ => ?_)
  obtain ⟨hx, hb, hml, hr, hlocks, hts, hown⟩ := id F
  have hl := lv_entry ([.int x, .int (nI k)]) (n := 3) (Nat.le_of_ble_eq_true rfl)
  rw [lg_entry_eq]
  generalize (lg_sl ([.int x, .int (nI k)]) ++ List.replicate (3 - (lg_sl ([.int x, .int (nI k)])).length) Slot.unset).toArray = ls at hl ⊢
  have hl : lv_has ls 3 [(0, .int x), (1, .int (nI k))] := hl
  have a1 := Int.tmod_lt_of_pos x.toInt (b := k) (by omega)
  have a2 := Int.lt_tmod_of_pos x.toInt (b := k) (by omega)
  have er := dq_rem_e (x := x) h0 hk
  have k0 : ¬ nI k = 0 := fun w => by
    have := (nI_eq (b := 0) (by omega) (by omega)).mp w
    omega
  have hend : ∀ (ls : Array Slot) (z : Int32) (j : Nat), j < k → z = nI j → W p l e (sb_room 1 0 0) s m #[.int x, .int (nI k)] below meth c s.heap [] 0 0 (MQ below (sb_Q (fun r st t => t.heap = st.heap ∧ ∃ j, j < k ∧ r = some (.int (nI j))) sb_no) #[.int x, .int (nI k)] s 0 0 (cm_A B0)) (F0 m 15 ls [.int z]) := by
    intro ls z j hj ez
    subst ez
    exact W.iret hx hb hr (fun t e1 e2 => ⟨_, rfl, ⟨e1, j, hj, rfl⟩, by rw [e1]; exact Nat.le_refl _, fun q _ _ => by rw [e1]⟩) (fun q hq => by cases hq) dL_some_15
  refine lv_iload_n hx hb dL_some_0 rfl (lv_at hl 0 rfl) ?_
  refine lv_iload_n hx hb dL_some_1 rfl (lv_at hl 1 rfl) ?_
  refine lv_irem hx hb dL_some_2 k0 ?_
  refine lv_istore_n (lv' := [(2, .int (am_rem x (nI k))), (0, .int x), (1, .int (nI k))]) hx hb dL_some_3 rfl hl (by decide) rfl (fun ls hl => ?_)
  refine lv_iload_n hx hb dL_some_4 rfl (lv_at hl 0 rfl) ?_
  refine lv_if_ge (tgt := 14) hx hb dL_some_5 rfl (fun w => ?_) (fun w => ?_)
  · refine lv_iload_n hx hb dL_some_14 rfl (lv_at hl 0 rfl) ?_
    rw [am_le_i, am_l0, er] at w
    obtain ⟨j, hj, ej⟩ := am_nat (x := am_rem x (nI k)) (n := k) (by omega) (by omega)
    exact hend ls _ j hj ej
  · refine lv_iload_n hx hb dL_some_8 rfl (lv_at hl 0 rfl) ?_
    refine lv_iload_n hx hb dL_some_9 rfl (lv_at hl 2 rfl) ?_
    refine lv_iadd hx hb dL_some_10 ?_
    refine lv_goto (tgt := 15) hx hb dL_some_11 rfl ?_
    rw [am_le_i, am_l0, er] at w
    have e2 : (am_rem x (nI k) + nI k).toInt = x.toInt.tmod k + k := by
      rw [Int32.toInt_add, er, am_ti (by omega)]
      exact Int.bmod_eq_of_le (by omega) (by omega)
    obtain ⟨j, hj, ej⟩ := am_nat (x := am_rem x (nI k) + nI k) (n := k) (by omega) (by omega)
    exact hend ls _ j hj ej
/-- what is read of an array that stands in the heap -/
theorem tx_at {b L k : Nat} {xs : Nat → Int32} (hL : L ≤ 260) (hk : k < 1000) : sb_met l B0 yL_at cL_at 2 (some .int) 1 0 0 [.ref b, .int (nI k)] (fun U => va_T .int b L (fun j => .int (xs j)) (fun _ => False) U U.heap) (fun r st t => t.heap = st.heap ∧ ∃ x, r = some (.int x)) sb_no := by
  refine sb_of (by decide) (fun p e s m below meth c F hT => ?_)
  obtain ⟨hx, hb, hml, hr, hlocks, hts, hown⟩ := id F
  obtain ⟨cell, h1, h2, h3, h4, h5, h6, -⟩ := hT
  have hl := lv_entry ([.ref b, .int (nI k)]) (n := 2) (Nat.le_of_ble_eq_true rfl)
  rw [lg_entry_eq]
  generalize (lg_sl ([.ref b, .int (nI k)]) ++ List.replicate (2 - (lg_sl ([.ref b, .int (nI k)])).length) Slot.unset).toArray = ls at hl ⊢
  have hl : lv_has ls 2 [(0, .ref b), (1, .int (nI k))] := hl
  have hend : ∀ (ls : Array Slot) (z : Int32), W p l e (sb_room 1 0 0) s m #[.ref b, .int (nI k)] below meth c s.heap [] 0 0 (MQ below (sb_Q (fun r st t => t.heap = st.heap ∧ ∃ x, r = some (.int x)) sb_no) #[.ref b, .int (nI k)] s 0 0 (cm_A B0)) (F0 m 13 ls [.int z]) := fun ls z =>
    W.iret hx hb hr (fun t e1 e2 => ⟨_, rfl, ⟨e1, z, rfl⟩, by rw [e1]; exact Nat.le_refl _, fun q _ _ => by rw [e1]⟩) (fun q hq => by cases hq) dL_at_13
  refine lv_iload_n hx hb dL_at_0 rfl (lv_at hl 1 rfl) ?_
  refine lv_aload_n hx hb dL_at_1 rfl (lv_at hl 0 rfl) ?_
  refine W.alen (n := Int32.ofNat L) hx hb h1 h2 h5 rfl rfl dL_at_2 ?_
  refine lv_icmp_ge (tgt := 12) hx hb dL_at_3 rfl (fun w => ?_) (fun w => ?_)
  · exact lv_iconst (v := 0) hx hb dL_at_12 rfl (hend ls _)
  · refine lv_aload_n hx hb dL_at_6 rfl (lv_at hl 0 rfl) ?_
    refine lv_iload_n hx hb dL_at_7 rfl (lv_at hl 1 rfl) ?_
    have w2 : ¬ L ≤ k := fun h => w ((dq_le (a := L) (by omega) (by omega)).mpr h)
    refine W.iald (v := .int (xs k)) hx hb h1 h2 h3 (fun q => ?_) (by rw [nI_clamp (by omega)]; exact h6 k (by omega)) rfl rfl dL_at_8 ?_
    · rcases q with q | q
      · exact dq_p (by omega) q
      · rw [nI_clamp (by omega)] at q
        omega
    · exact lv_goto (tgt := 13) hx hb dL_at_9 rfl (hend ls _)
end SP91
