/-! text(): String.<init>(AbstractStringBuilder, Void) -/
theorem dJ0_init_db425_0 : decode cJ0_init_db425 0 = .ok (.aload_n 0, 1) := by decide +kernel
theorem dJ0_init_db425_1 : decode cJ0_init_db425 1 = .ok (.invokespecial 1, 3) := by decide +kernel
theorem dJ0_init_db425_4 : decode cJ0_init_db425 4 = .ok (.aload_n 1, 1) := by decide +kernel
theorem dJ0_init_db425_5 : decode cJ0_init_db425 5 = .ok (.invokevirtual 552, 3) := by decide +kernel
theorem dJ0_init_db425_8 : decode cJ0_init_db425 8 = .ok (.astore_n 3, 1) := by decide +kernel
theorem dJ0_init_db425_9 : decode cJ0_init_db425 9 = .ok (.aload_n 1, 1) := by decide +kernel
theorem dJ0_init_db425_10 : decode cJ0_init_db425 10 = .ok (.invokevirtual 549, 3) := by decide +kernel
theorem dJ0_init_db425_13 : decode cJ0_init_db425 13 = .ok (.istore 4, 2) := by decide +kernel
theorem dJ0_init_db425_15 : decode cJ0_init_db425 15 = .ok (.aload_n 1, 1) := by decide +kernel
theorem dJ0_init_db425_16 : decode cJ0_init_db425 16 = .ok (.invokevirtual 1047, 3) := by decide +kernel
theorem dJ0_init_db425_19 : decode cJ0_init_db425 19 = .ok (.ifCond .eq 22, 3) := by decide +kernel
theorem dJ0_init_db425_22 : decode cJ0_init_db425 22 = .ok (.aload_n 0, 1) := by decide +kernel
theorem dJ0_init_db425_23 : decode cJ0_init_db425 23 = .ok (.iconst 0, 1) := by decide +kernel
theorem dJ0_init_db425_24 : decode cJ0_init_db425 24 = .ok (.putfield 15, 3) := by decide +kernel
theorem dJ0_init_db425_27 : decode cJ0_init_db425 27 = .ok (.aload_n 0, 1) := by decide +kernel
theorem dJ0_init_db425_28 : decode cJ0_init_db425 28 = .ok (.aload_n 3, 1) := by decide +kernel
theorem dJ0_init_db425_29 : decode cJ0_init_db425 29 = .ok (.iconst 0, 1) := by decide +kernel
theorem dJ0_init_db425_30 : decode cJ0_init_db425 30 = .ok (.iload 4, 2) := by decide +kernel
theorem dJ0_init_db425_32 : decode cJ0_init_db425 32 = .ok (.invokestatic 54, 3) := by decide +kernel
theorem dJ0_init_db425_35 : decode cJ0_init_db425 35 = .ok (.putfield 9, 3) := by decide +kernel
theorem dJ0_init_db425_38 : decode cJ0_init_db425 38 = .ok (.goto 59, 3) := by decide +kernel
theorem dJ0_init_db425_41 : decode cJ0_init_db425 41 = .ok (.getstatic 38, 3) := by decide +kernel
theorem dJ0_init_db425_44 : decode cJ0_init_db425 44 = .ok (.ifCond .eq 35, 3) := by decide +kernel
theorem dJ0_init_db425_47 : decode cJ0_init_db425 47 = .ok (.aload_n 1, 1) := by decide +kernel
theorem dJ0_init_db425_48 : decode cJ0_init_db425 48 = .ok (.getfield 1048, 3) := by decide +kernel
theorem dJ0_init_db425_51 : decode cJ0_init_db425 51 = .ok (.ifCond .eq 28, 3) := by decide +kernel
theorem dJ0_init_db425_54 : decode cJ0_init_db425 54 = .ok (.aload_n 0, 1) := by decide +kernel
theorem dJ0_init_db425_55 : decode cJ0_init_db425 55 = .ok (.aload_n 3, 1) := by decide +kernel
theorem dJ0_init_db425_56 : decode cJ0_init_db425 56 = .ok (.iconst 0, 1) := by decide +kernel
theorem dJ0_init_db425_57 : decode cJ0_init_db425 57 = .ok (.iload 4, 2) := by decide +kernel
theorem dJ0_init_db425_59 : decode cJ0_init_db425 59 = .ok (.invokestatic 1051, 3) := by decide +kernel
theorem dJ0_init_db425_62 : decode cJ0_init_db425 62 = .ok (.putfield 9, 3) := by decide +kernel
theorem dJ0_init_db425_65 : decode cJ0_init_db425 65 = .ok (.aload_n 0, 1) := by decide +kernel
theorem dJ0_init_db425_66 : decode cJ0_init_db425 66 = .ok (.aload_n 0, 1) := by decide +kernel
theorem dJ0_init_db425_67 : decode cJ0_init_db425 67 = .ok (.getfield 9, 3) := by decide +kernel
theorem dJ0_init_db425_70 : decode cJ0_init_db425 70 = .ok (.iload 4, 2) := by decide +kernel
theorem dJ0_init_db425_72 : decode cJ0_init_db425 72 = .ok (.invokestatic 47, 3) := by decide +kernel
theorem dJ0_init_db425_75 : decode cJ0_init_db425 75 = .ok (.putfield 15, 3) := by decide +kernel
theorem dJ0_init_db425_78 : decode cJ0_init_db425 78 = .ok (.return_, 1) := by decide +kernel
theorem dJ0_init_db425_79 : decode cJ0_init_db425 79 = .ok (.aload_n 0, 1) := by decide +kernel
theorem dJ0_init_db425_80 : decode cJ0_init_db425 80 = .ok (.iconst 1, 1) := by decide +kernel
theorem dJ0_init_db425_81 : decode cJ0_init_db425 81 = .ok (.putfield 15, 3) := by decide +kernel
theorem dJ0_init_db425_84 : decode cJ0_init_db425 84 = .ok (.aload_n 0, 1) := by decide +kernel
theorem dJ0_init_db425_85 : decode cJ0_init_db425 85 = .ok (.aload_n 3, 1) := by decide +kernel
theorem dJ0_init_db425_86 : decode cJ0_init_db425 86 = .ok (.iconst 0, 1) := by decide +kernel
theorem dJ0_init_db425_87 : decode cJ0_init_db425 87 = .ok (.iload 4, 2) := by decide +kernel
theorem dJ0_init_db425_89 : decode cJ0_init_db425 89 = .ok (.iconst 1, 1) := by decide +kernel
theorem dJ0_init_db425_90 : decode cJ0_init_db425 90 = .ok (.ishl, 1) := by decide +kernel
theorem dJ0_init_db425_91 : decode cJ0_init_db425 91 = .ok (.invokestatic 54, 3) := by decide +kernel
theorem dJ0_init_db425_94 : decode cJ0_init_db425 94 = .ok (.putfield 9, 3) := by decide +kernel
theorem dJ0_init_db425_97 : decode cJ0_init_db425 97 = .ok (.return_, 1) := by decide +kernel
set_option maxRecDepth 1000000 in
theorem tc_sV : (Jvm.Cond.code ({ cls := "java/lang/String", name := "<init>", desc := "(Ljava/lang/AbstractStringBuilder;Ljava/lang/Void;)V" } : Jvm.MethodName) prog_20_method_150_code (5 : Nat) (Option.none : Option Jvm.ClassFile.FieldType)) ∈ lw_tbl := am_t1 (List.mem_of_getElem? (i := 1262) (by decide +kernel))
set_option maxRecDepth 1000000 in
theorem tm_sV : (Jvm.Cond.instanceMethod ({ cls := "java/lang/String", name := "<init>", desc := "(Ljava/lang/AbstractStringBuilder;Ljava/lang/Void;)V" } : Jvm.MethodName)) ∈ lw_tbl := am_t1 (List.mem_of_getElem? (i := 1261) (by decide +kernel))
set_option maxRecDepth 1000000 in
theorem tl_S1 : (Jvm.Cond.methodLink "java/lang/String" (1 : Nat) ({ cls := "java/lang/Object", name := "<init>", desc := "()V" } : Jvm.MethodName)) ∈ lw_tbl := am_t1 (List.mem_of_getElem? (i := 1263) (by decide +kernel))
set_option maxRecDepth 1000000 in
theorem tl_S552 : (Jvm.Cond.methodLink "java/lang/String" (552 : Nat) ({ cls := "java/lang/AbstractStringBuilder", name := "getValue", desc := "()[B" } : Jvm.MethodName)) ∈ lw_tbl := am_t1 (List.mem_of_getElem? (i := 1264) (by decide +kernel))
set_option maxRecDepth 1000000 in
theorem tl_S549 : (Jvm.Cond.methodLink "java/lang/String" (549 : Nat) ({ cls := "java/lang/AbstractStringBuilder", name := "length", desc := "()I" } : Jvm.MethodName)) ∈ lw_tbl := am_t1 (List.mem_of_getElem? (i := 1269) (by decide +kernel))
set_option maxRecDepth 1000000 in
theorem tl_S1047 : (Jvm.Cond.methodLink "java/lang/String" (1047 : Nat) ({ cls := "java/lang/AbstractStringBuilder", name := "isLatin1", desc := "()Z" } : Jvm.MethodName)) ∈ lw_tbl := am_t1 (List.mem_of_getElem? (i := 1277) (by decide +kernel))
set_option maxRecDepth 1000000 in
theorem tl_S54 : (Jvm.Cond.methodLink "java/lang/String" (54 : Nat) ({ cls := "java/util/Arrays", name := "copyOfRange", desc := "([BII)[B" } : Jvm.MethodName)) ∈ lw_tbl := am_t1 (List.mem_of_getElem? (i := 1278) (by decide +kernel))
set_option maxRecDepth 1000000 in
theorem tS_cor : (Jvm.Cond.static ({ cls := "java/util/Arrays", name := "copyOfRange", desc := "([BII)[B" } : Jvm.MethodName)) ∈ lw_tbl := am_t1 (List.mem_of_getElem? (i := 1279) (by decide +kernel))
set_option maxRecDepth 1000000 in
theorem te_blen : (Jvm.Cond.selects "java/lang/StringBuilder" ({ cls := "java/lang/AbstractStringBuilder", name := "length", desc := "()I" } : Jvm.MethodName) ({ cls := "java/lang/StringBuilder", name := "length", desc := "()I" } : Jvm.MethodName)) ∈ lw_tbl := am_t1 (List.mem_of_getElem? (i := 1272) (by decide +kernel))
section SP98s
variable {p : Program} {l : Launch} {e : Env} {Rm : Room} {s : State} {m : MethodId} {args : Array Value} {below : List Frame} {meth : Method} {c : Code} {Q : State → Prop} {H : Heap} {locs : List Loc} {cs ss pc B0 : Nat} {ls : Array Slot}
variable {D : va_G} {cB : ClassId} {a v n mm r : Nat}
theorem sb_T_ne {fs : List Value} (hP : va_P D vwCl [(r, .inr (11, fs))] H) {H1 : Heap} (h : H1[r]? = H[r]?) : va_P D vwCl [(r, .inr (11, fs))] H1 := fun i x hk => (hP i x hk).kept (by
  have h1 := (List.getElem?_eq_some_iff.mp hk).1
  simp at h1
  subst h1
  cases hk
  exact h)
theorem sb_T_lt {fs : List Value} (hP : va_P D vwCl [(r, .inr (11, fs))] H) : r < H.size := by
  obtain ⟨_, _, cell, q1, -⟩ := hP 0 _ rfl
  exact (Array.getElem?_eq_some_iff.mp q1).1
/-- String.<init>(AbstractStringBuilder, Void) -/
theorem tx_sV (hr0 : B0 ≤ r) (hra : ¬ r = a) (hrv : ¬ r = v) : sb_met l B0 yJ0_init_db425 cJ0_init_db425 5 none 4 1 4096 [.ref r, .ref a, .null] (fun U => sb_B D cB B0 a v n mm U U.heap ∧ va_P D vwCl [(r, .inr (11, [.null, .int 0, .int 0, .int 0]))] U.heap) (fun x st t => x = none ∧ va_P D vwCl [(r, .inr (11, [.ref st.heap.size, .int 0, .int 0, .int 0]))] t.heap ∧ sb_Y cB st.heap.size n t.heap) (fun _ x => x = r) := by
  refine sb_ofN (by decide) (fun p e s m below meth c hnm F hB0 => ?_)
  obtain ⟨hB, hT⟩ := hB0
  obtain ⟨hx, hb, hml, hr, hlocks, hts, hown⟩ := id F
  obtain ⟨hK, ⟨k, hO⟩, hY, b1, b2, b3, b4, b5, hX⟩ := id hB
  have hrl := sb_T_lt hT
  have hl := lv_entry ([.ref r, .ref a, .null]) (n := 5) (Nat.le_of_ble_eq_true rfl)
  rw [lg_entry_eq]
  generalize (lg_sl ([.ref r, .ref a, .null]) ++ List.replicate (5 - (lg_sl ([.ref r, .ref a, .null])).length) Slot.unset).toArray = ls at hl ⊢
  have hl : lv_has ls 5 [(0, .ref r), (1, .ref a), (2, .null)] := hl
  refine lv_aload_n hx hb dJ0_init_db425_0 rfl (lv_at hl 0 rfl) ?_
  refine W.objInit hx hb hown (hts _ (sb_tb_i tl_S1 rfl)) (hts _ (sb_tb_i tm_obj rfl)) (hts _ (sb_tb_i cv_obj rfl)) rfl (hl.1.trans hml.symm) rfl dJ0_init_db425_1 (show 1 ≤ 4 by omega) (by show 2 * 0 + 0 + 12 ≤ 160; omega) ?_
  refine lv_aload_n hx hb dJ0_init_db425_4 rfl (lv_at hl 1 rfl) ?_
  refine sb_callV (C := "java/lang/StringBuilder") (As := []) (st := []) (k := 0) (d := 1) (mc := 0) (ms := 0) F (tx_gval (a := a) (v := v) (n := n) (mm := mm) (D := D) (cB := cB)) tc_gval ti_A tl_S552 tm_gval (hts _ (sb_tb_i te_gval rfl)) ⟨by decide, by decide, by decide +kernel⟩ rfl (sb_recv hB) dJ0_init_db425_5 hl.1 (by decide) (show 0 ≤ 8 by omega) (show 1 + 1 ≤ 4 by omega) (show 40 * (1 + 1) ≤ 40 * 4 by omega) (show 0 + 0 ≤ 1 by omega) (show 0 + 0 ≤ 4096 by omega) sb_Bpv (fun U hU hW => sb_Bgo hB hU hW) (fun q hq => by cases hq) ?_
  intro x st0 t locs1 e0 q1 hal z o hL
  obtain ⟨q1, q2⟩ := q1
  subst q2
  rw [q1, e0]
  refine lv_astore_n (lv' := [(3, .ref v), (0, .ref r), (1, .ref a), (2, .null)]) hx hb dJ0_init_db425_8 rfl hl (by decide) rfl (fun ls hl => ?_)
  refine lv_aload_n hx hb dJ0_init_db425_9 rfl (lv_at hl 2 rfl) ?_
  refine sb_callW (C := "java/lang/StringBuilder") (As := []) (st := []) (k := 0) (d := 2) (mc := 0) (ms := 0) F (tx_blen (a := a) (v := v) (n := n) (mm := mm) (D := D) (cB := cB)) tc_blen ti_B tl_S549 tm_blen tq_alen te_blen tm_alen tc_alen ⟨by decide, by decide, by decide +kernel⟩ rfl (sb_recv hB) dJ0_init_db425_10 hl.1 (by decide) (show 0 ≤ 8 by omega) (show 2 + 1 ≤ 4 by omega) (show 40 * (2 + 1) ≤ 40 * 4 by omega) (show 0 + 0 + 0 ≤ 1 by omega) (show 0 + 0 + 0 ≤ 4096 by omega) sb_Bpv (fun U hU hW => sb_Bgo hB hU hW) hL ?_
  intro x st0 t locs1 e0 q1 hal z o hL
  obtain ⟨q1, q2⟩ := q1
  subst q2
  rw [q1, e0]
  refine lv_istore (lv' := [(4, .int (nI n)), (3, .ref v), (0, .ref r), (1, .ref a), (2, .null)]) hx hb dJ0_init_db425_13 hl (by decide) rfl (fun ls hl => ?_)
  refine lv_aload_n hx hb dJ0_init_db425_15 rfl (lv_at hl 3 rfl) ?_
  refine sb_callV (C := "java/lang/StringBuilder") (As := []) (st := []) (k := 0) (d := 1) (mc := 0) (ms := 0) F (tx_aisl (a := a) (v := v) (n := n) (mm := mm) (D := D) (cB := cB)) tc_aisl ti_A tl_S1047 tm_aisl (hts _ (sb_tb_i te_aisl rfl)) ⟨by decide, by decide, by decide +kernel⟩ rfl (sb_recv hB) dJ0_init_db425_16 hl.1 (by decide) (show 0 ≤ 8 by omega) (show 1 + 1 ≤ 4 by omega) (show 40 * (1 + 1) ≤ 40 * 4 by omega) (show 0 + 0 + 0 + 0 ≤ 1 by omega) (show 0 + 0 + 0 + 0 ≤ 4096 by omega) sb_Bpv (fun U hU hW => sb_Bgo hB hU hW) hL ?_
  intro x st0 t locs1 e0 q1 hal z o hL
  obtain ⟨q1, q2⟩ := q1
  subst q2
  rw [q1, e0]
  refine lv_if_eq (tgt := 41) hx hb dJ0_init_db425_19 rfl (fun w => absurd w (by decide)) (fun _ => ?_)
  refine lv_aload_n hx hb dJ0_init_db425_22 rfl (lv_at hl 2 rfl) ?_
  refine lv_iconst (v := 0) hx hb dJ0_init_db425_23 rfl ?_
  refine sb_pF F hnm hK hT 1 (by decide) rfl rfl (ty := .byte) (by decide +kernel) (by decide) (by decide) (show 1 < 4 by omega) tf_15 dJ0_init_db425_24 (fun H1 i g1 g2 g3 => ?_)
  refine lv_aload_n hx hb dJ0_init_db425_27 rfl (lv_at hl 2 rfl) ?_
  refine lv_aload_n hx hb dJ0_init_db425_28 rfl (lv_at hl 1 rfl) ?_
  refine lv_iconst (v := 0) hx hb dJ0_init_db425_29 rfl ?_
  refine lv_iload hx hb dJ0_init_db425_30 (lv_at hl 0 rfl) ?_
  have hX1 : sb_X B0 s H1 := sb_X_on (Vm.Alike.refl _) (fun q h1 h2 => g3 q (by omega)) hX
  have hY1 : sb_Y cB v mm H1 := by
    obtain ⟨f, y1, y2⟩ := hY
    exact ⟨f, by rw [g3 v (fun w => hrv w.symm)]; exact y1, y2⟩
  refine sb_callS (B0 := B0) (As := [.ref v, .int 0, .int (nI n)]) (st := [.ref r]) (k := 3) (d := 3) (mc := 1) (ms := 4096) (Rm := sb_room 4 1 4096) F (tx_cor (D := D) (cB := cB) (v := v) (n := n) (mm := mm) b5 b2 b3) tc_cor ti_AR tl_S54 tS_cor ⟨by decide, by decide, by decide +kernel⟩ rfl dJ0_init_db425_32 hl.1 (by decide) (show 1 + 0 ≤ 8 by omega) (show 3 + 1 ≤ 4 by omega) (show 40 * (3 + 1) ≤ 40 * 4 by omega) (show 0 + 0 + 0 + 0 + 1 ≤ 1 by omega) (show 0 + 0 + 0 + 0 + 4096 ≤ 4096 by omega) (sb_pvX (Pre := fun U H => sb_K D cB U ∧ sb_Y cB v mm H ∧ sb_X B0 U H) (fun U V H hv q => ⟨q.1.moved hv, q.2.1, sb_X_on hv (fun _ _ _ => rfl) q.2.2⟩)) (fun U hU hW => by rw [hU]; exact ⟨hK.moved hW.alike, hY1, sb_X_on hW.alike (fun _ _ _ => rfl) hX1⟩) (fun q hq => (List.mem_append.mp hq).elim (hL q) (fun h => by cases List.mem_singleton.mp h; exact hr0)) ?_
  intro x st0 t locs1 e0 q1 hal z2 o2 hL2
  obtain ⟨q1, q2⟩ := q1
  subst q1
  rw [e0] at q2 ⊢
  have o3 : ∀ q, q < H1.size → t.heap[q]? = H1[q]? := fun q h => o2 q h (fun w => w)
  refine sb_pF F hnm hK (sb_T_ne g1 (o3 r (by omega))) 0 (by decide) rfl rfl (ty := .array .byte) (by decide +kernel) rfl rfl (show 0 < 4 by omega) tf_9 dJ0_init_db425_35 (fun H3 i3 k1 k2 k3 => ?_)
  refine lv_goto (tgt := 97) hx hb dJ0_init_db425_38 rfl ?_
  refine W.vret hx hb hr (fun t3 e1 e2 => ⟨_, rfl, ⟨rfl, ?_, ?_⟩, ?_, fun y h5 h6 => ?_⟩) (fun q hq => (List.mem_append.mp hq).elim (hL2 q) (fun h => by cases List.mem_singleton.mp h; exact hr0)) dJ0_init_db425_97
  · rw [e1, ← g2]
    exact k1
  · obtain ⟨f, y1, y2⟩ := q2
    rw [e1, ← g2]
    exact ⟨f, by rw [k3 _ (by omega)]; exact y1, y2⟩
  · rw [e1, k2]
    omega
  · rw [e1, k3 y h6, o3 y (by omega), g3 y h6]
end SP98s
