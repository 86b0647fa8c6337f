/-! text(): append(String) of a StringBuilder; the constructor -/
theorem dJ5_init_d00df_0 : decode cJ5_init_d00df 0 = .ok (.aload_n 0, 1) := by decide +kernel
theorem dJ5_init_d00df_1 : decode cJ5_init_d00df 1 = .ok (.invokespecial 3, 3) := by decide +kernel
theorem dJ5_init_d00df_4 : decode cJ5_init_d00df 4 = .ok (.getstatic 18, 3) := by decide +kernel
theorem dJ5_init_d00df_7 : decode cJ5_init_d00df 7 = .ok (.ifCond .eq 18, 3) := by decide +kernel
theorem dJ5_init_d00df_10 : decode cJ5_init_d00df 10 = .ok (.aload_n 0, 1) := by decide +kernel
theorem dJ5_init_d00df_11 : decode cJ5_init_d00df 11 = .ok (.iload_n 1, 1) := by decide +kernel
theorem dJ5_init_d00df_12 : decode cJ5_init_d00df 12 = .ok (.newarray .byte, 2) := by decide +kernel
theorem dJ5_init_d00df_14 : decode cJ5_init_d00df 14 = .ok (.putfield 15, 3) := by decide +kernel
theorem dJ5_init_d00df_17 : decode cJ5_init_d00df 17 = .ok (.aload_n 0, 1) := by decide +kernel
theorem dJ5_init_d00df_18 : decode cJ5_init_d00df 18 = .ok (.iconst 0, 1) := by decide +kernel
theorem dJ5_init_d00df_19 : decode cJ5_init_d00df 19 = .ok (.putfield 22, 3) := by decide +kernel
theorem dJ5_init_d00df_22 : decode cJ5_init_d00df 22 = .ok (.goto 16, 3) := by decide +kernel
theorem dJ5_init_d00df_25 : decode cJ5_init_d00df 25 = .ok (.aload_n 0, 1) := by decide +kernel
theorem dJ5_init_d00df_26 : decode cJ5_init_d00df 26 = .ok (.iload_n 1, 1) := by decide +kernel
theorem dJ5_init_d00df_27 : decode cJ5_init_d00df 27 = .ok (.invokestatic 26, 3) := by decide +kernel
theorem dJ5_init_d00df_30 : decode cJ5_init_d00df 30 = .ok (.putfield 15, 3) := by decide +kernel
theorem dJ5_init_d00df_33 : decode cJ5_init_d00df 33 = .ok (.aload_n 0, 1) := by decide +kernel
theorem dJ5_init_d00df_34 : decode cJ5_init_d00df 34 = .ok (.iconst 1, 1) := by decide +kernel
theorem dJ5_init_d00df_35 : decode cJ5_init_d00df 35 = .ok (.putfield 22, 3) := by decide +kernel
theorem dJ5_init_d00df_38 : decode cJ5_init_d00df 38 = .ok (.return_, 1) := by decide +kernel
theorem dJ4_init_da8c8_0 : decode cJ4_init_da8c8 0 = .ok (.aload_n 0, 1) := by decide +kernel
theorem dJ4_init_da8c8_1 : decode cJ4_init_da8c8 1 = .ok (.bipush 16, 2) := by decide +kernel
theorem dJ4_init_da8c8_3 : decode cJ4_init_da8c8 3 = .ok (.invokespecial 1, 3) := by decide +kernel
theorem dJ4_init_da8c8_6 : decode cJ4_init_da8c8 6 = .ok (.return_, 1) := by decide +kernel
set_option maxRecDepth 1000000 in
theorem tc_iA : (Jvm.Cond.code ({ cls := "java/lang/AbstractStringBuilder", name := "<init>", desc := "(I)V" } : Jvm.MethodName) prog_14_method_2_code (2 : Nat) (Option.none : Option Jvm.ClassFile.FieldType)) ∈ lw_tbl := am_t1 (List.mem_of_getElem? (i := 1102) (by decide +kernel))
set_option maxRecDepth 1000000 in
theorem tc_iB : (Jvm.Cond.code ({ cls := "java/lang/StringBuilder", name := "<init>", desc := "()V" } : Jvm.MethodName) prog_21_method_1_code (1 : Nat) (Option.none : Option Jvm.ClassFile.FieldType)) ∈ lw_tbl := am_t1 (List.mem_of_getElem? (i := 1099) (by decide +kernel))
set_option maxRecDepth 1000000 in
theorem tl_A3 : (Jvm.Cond.methodLink "java/lang/AbstractStringBuilder" (3 : Nat) ({ cls := "java/lang/Object", name := "<init>", desc := "()V" } : Jvm.MethodName)) ∈ lw_tbl := am_t1 (List.mem_of_getElem? (i := 1103) (by decide +kernel))
set_option maxRecDepth 1000000 in
theorem tl_B1 : (Jvm.Cond.methodLink "java/lang/StringBuilder" (1 : Nat) ({ cls := "java/lang/AbstractStringBuilder", name := "<init>", desc := "(I)V" } : Jvm.MethodName)) ∈ lw_tbl := am_t1 (List.mem_of_getElem? (i := 1100) (by decide +kernel))
set_option maxRecDepth 1000000 in
theorem tm_iA : (Jvm.Cond.instanceMethod ({ cls := "java/lang/AbstractStringBuilder", name := "<init>", desc := "(I)V" } : Jvm.MethodName)) ∈ lw_tbl := am_t1 (List.mem_of_getElem? (i := 1101) (by decide +kernel))
set_option maxRecDepth 1000000 in
theorem tm_iB : (Jvm.Cond.instanceMethod ({ cls := "java/lang/StringBuilder", name := "<init>", desc := "()V" } : Jvm.MethodName)) ∈ lw_tbl := am_t1 (List.mem_of_getElem? (i := 1098) (by decide +kernel))
set_option maxRecDepth 1000000 in
theorem tm_obj : (Jvm.Cond.instanceMethod ({ cls := "java/lang/Object", name := "<init>", desc := "()V" } : Jvm.MethodName)) ∈ lw_tbl := am_t1 (List.mem_of_getElem? (i := 31) (by decide +kernel))
section SP98
variable {p : Program} {l : Launch} {e : Env} {Rm : Room} {s : State} {m : MethodId} {args : Array Value} {below : List Frame} {meth : Method} {c : Code} {Q : State → Prop} {H : Heap} {locs : List Loc} {cs ss pc B0 : Nat} {ls : Array Slot}
variable {bc : ByteArray} {nL : Nat} {rt : Option FieldType} {D : va_G} {cB : ClassId} {a v n mm r v0 w : Nat}
/-- the superclass's method is called -/
theorem sb_callU (F : sb_fr p s m args meth c "java/lang/StringBuilder" bc nL rt) (hK : sb_K D cB s) {y2 : MethodName} {bc2 : ByteArray} {nL2 d mc ms index k b : Nat} {rt2 : Option FieldType} {As st : List Value} {Pre : State → Prop} {post : Option Value → State → State → Prop} {A : State → Nat → Prop} (hM : sb_met l B0 y2 bc2 nL2 rt2 d mc ms (.ref b :: As) Pre post A)
    (w0 : Cond.code y2 bc2 nL2 rt2 ∈ lw_tbl) (w1 : Cond.initialized y2.cls ∈ lw_tbl) (w2 : Cond.methodLink "java/lang/StringBuilder" index y2 ∈ lw_tbl) (w3 : Cond.instanceMethod y2 ∈ lw_tbl) (w4 : Cond.sameMethod y2.cls y2.cls y2.name y2.desc ∈ lw_tbl) (w5 : Cond.superclass "java/lang/StringBuilder" y2.cls ∈ lw_tbl) (hd : y2.name ≠ "<init>" ∧ (parseMethodDescriptor y2.desc).map (fun d => d.parameters.length) = some k) (hk : As.length = k)
    (hrc : ∃ cell : Cell, H[b]? = some cell ∧ cell.vm.isStatics = false ∧ s.vm.findClass "java/lang/StringBuilder" = some cell.cls)
    (hdg : decode bc pc = .ok (.invokespecial index, 3)) (hls : ls.size = nL) (hnL : nL2 ≤ 20) (hsum : (st.map fun v => v.category).sum ≤ 8) (hr1 : d + 1 ≤ Rm.frames) (hr2 : 40 * (d + 1) ≤ Rm.locals) (hcs : cs + mc ≤ Rm.cells) (hss : ss + ms ≤ Rm.slots) (hv : sb_pv Pre) (hp : ∀ U : State, U.heap = H → s.WarmedH U.vm → Pre U) (hL : ∀ q ∈ locs, B0 ≤ q.base)
    (kk : ∀ (r : Option Value) (st0 t : State) (locs1 : List Loc), st0.heap = H → post r st0 t → s.vm.Alike t.vm → H.size ≤ t.heap.size → (∀ q, q < H.size → ¬ A st0 q → t.heap[q]? = H[q]?) → (∀ q ∈ locs1, B0 ≤ q.base) → W p l e Rm s m args below meth c t.heap locs1 (cs + mc) (ss + ms) Q (F0 m (pc + 3) ls (r.toList ++ st))) : W p l e Rm s m args below meth c H locs cs ss Q (F0 m pc ls (As.reverse ++ .ref b :: st)) := by
  obtain ⟨hx, hb, hml, hr, hlocks, hts, hown⟩ := F
  obtain ⟨-, hfc, kC, hkC, hkind⟩ := hK.1 12 (RJ4, TJ4, 4) rfl
  have hG := sb_goodIn w0
  refine sb_callk (va_runSU (C := "java/lang/StringBuilder") (As := As) (rest := st) ⟨hfc, kC, hkC, hkind⟩ ⟨hx, hb, hml, hown, hts⟩ hM ⟨⟨rfl, rfl, hr1, by show 8 + (nL2 + 11) + 40 * d ≤ _; omega, pay_in hts hG, List.mem_cons_self⟩, hts _ (sb_tb_i w2 rfl), hts _ (sb_tb_i w4 rfl), hts _ (sb_tb_i w5 rfl), hts _ (sb_tb_i w3 rfl), hts _ (sb_tb_i w1 rfl), hts _ (sb_tb_i w0 rfl), hd.1, fun sig h => ?_⟩ ⟨fun a U g mk q => ⟨q.1, hv U _ rfl rfl q.2⟩, hrc, fun U hU hW => ⟨rfl, hp U hU hW⟩⟩ rfl hk hls rfl (lv_room hsum) hdg ⟨hcs, hss⟩) hL kk
  have h2 := hd.2
  rw [h] at h2
  simpa using h2.symm
/-- StringBuilder.append(String) -/
theorem tx_bS (hm0 : 0 < mm) (hn : n + w ≤ 1000) (h1 : ¬ r = a) (h2 : ¬ r = v) (h3 : ¬ v0 = a) (h4 : ¬ v0 = v) : sb_met l B0 yJ4_append_15ec4 cJ4_append_15ec4 2 (some (.object "java/lang/StringBuilder")) 6 1 4096 [.ref a, .ref r] (fun U => sb_BS D cB B0 a v n mm r v0 w U U.heap) (fun x st t => x = some (.ref a) ∧ sb_af D cB a v (n + w) st t) (fun _ x => x = a ∨ x = v) := by
  refine sb_of (by decide) (fun p e s m below meth c F hP => ?_)
  obtain ⟨hx, hb, hml, hr, hlocks, hts, hown⟩ := id F
  obtain ⟨hB, hS⟩ := id hP
  have hl := lv_entry ([.ref a, .ref r]) (n := 2) (Nat.le_of_ble_eq_true rfl)
  rw [lg_entry_eq]
  generalize (lg_sl ([.ref a, .ref r]) ++ List.replicate (2 - (lg_sl ([.ref a, .ref r])).length) Slot.unset).toArray = ls at hl ⊢
  have hl : lv_has ls 2 [(0, .ref a), (1, .ref r)] := hl
  refine lv_aload_n hx hb dJ4_append_15ec4_0 rfl (lv_at hl 0 rfl) ?_
  refine lv_aload_n hx hb dJ4_append_15ec4_1 rfl (lv_at hl 1 rfl) ?_
  refine sb_callU (As := [.ref r]) (st := []) (k := 1) (d := 5) (mc := 1) (ms := 4096) (Rm := sb_room 6 1 4096) F hB.1 (tx_aS (D := D) (cB := cB) (mm := mm) hm0 hn h1 h2 h3 h4) tc_aS ti_A tl_B29 tm_aS tq_aS tw_sup ⟨by decide, by decide +kernel⟩ rfl (sb_recv hB) dJ4_append_15ec4_2 hl.1 (by decide) (show 0 ≤ 8 by omega) (show 5 + 1 ≤ 6 by omega) (show 40 * (5 + 1) ≤ 40 * 6 by omega) (show 0 + 1 ≤ 1 by omega) (show 0 + 4096 ≤ 4096 by omega) sb_BSpv (fun U hU hW => sb_BSgo hP hU hW) (fun q hq => by cases hq) ?_
  intro x st0 t locs1 e0 q1 hal z o hL
  obtain ⟨q1, q2⟩ := q1
  subst q1
  refine lv_pop hx hb dJ4_append_15ec4_5 rfl ?_
  refine lv_aload_n hx hb dJ4_append_15ec4_6 rfl (lv_at hl 0 rfl) ?_
  refine W.aret hx hb hr (Or.inl ⟨_, rfl⟩) (Or.inr ⟨_, rfl⟩) (fun t3 e1 e2 => ⟨_, rfl, ⟨rfl, ?_⟩, by rw [e1]; exact z, fun y h5 h6 => by rw [e1]; exact o y h5 h6⟩) hL dJ4_append_15ec4_7
  obtain ⟨v2, m2, g⟩ := q2
  refine ⟨v2, m2, ?_⟩
  rw [e1, ← e0]
  exact g
/-- AbstractStringBuilder.<init>: sixteen places -/
theorem tx_iA (hB0 : B0 ≤ a) : sb_met l B0 yJ5_init_d00df cJ5_init_d00df 2 none 2 1 16 [.ref a, .int (nI 16)] (fun U => sb_K D cB U ∧ va_P D vwCl [(a, .inr (12, [.null, .int 0, .int 0, .int 0]))] U.heap ∧ sb_X B0 U U.heap) (fun x st t => x = none ∧ sb_O D a st.heap.size 0 0 t.heap ∧ sb_Y cB st.heap.size 16 t.heap) (fun _ x => x = a) := by
  refine sb_of (by decide) (fun p e s m below meth c F hP => ?_)
  obtain ⟨hx, hb, hml, hr, hlocks, hts, hown⟩ := id F
  obtain ⟨hK, hO, hX⟩ := hP
  have al : a < s.heap.size := (hO 0 _ rfl).lt
  have hl := lv_entry ([.ref a, .int (nI 16)]) (n := 2) (Nat.le_of_ble_eq_true rfl)
  rw [lg_entry_eq]
  generalize (lg_sl ([.ref a, .int (nI 16)]) ++ List.replicate (2 - (lg_sl ([.ref a, .int (nI 16)])).length) Slot.unset).toArray = ls at hl ⊢
  have hl : lv_has ls 2 [(0, .ref a), (1, .int (nI 16))] := hl
  refine lv_aload_n hx hb dJ5_init_d00df_0 rfl (lv_at hl 0 rfl) ?_
  refine W.objInit hx hb hown (hts _ (sb_tb_i tl_A3 rfl)) (hts _ (sb_tb_i tm_obj rfl)) (hts _ (sb_tb_i cv_obj rfl)) rfl (hl.1.trans hml.symm) rfl dJ5_init_d00df_1 (show 1 ≤ 2 by omega) (by show 2 * 0 + 0 + 12 ≤ 80; omega) ?_
  refine sb_gets F hX.1 tf_A18 dJ5_init_d00df_4 ?_
  refine lv_if_eq (tgt := 25) hx hb dJ5_init_d00df_7 rfl (fun w => absurd w (by decide)) (fun _ => ?_)
  refine lv_aload_n hx hb dJ5_init_d00df_10 rfl (lv_at hl 0 rfl) ?_
  refine lv_iload_n hx hb dJ5_init_d00df_11 rfl (lv_at hl 1 rfl) ?_
  refine va_newaK (atype := .byte) hx hb (hts _ (sb_am (List.mem_filter.mpr ⟨ta_byte, rfl⟩))) rfl dJ5_init_d00df_12 rfl (by decide) (N := 16) (by decide) (by decide) (show 0 + 1 ≤ 1 by omega) (show 0 + 16 ≤ 16 by omega) rfl fun H1 cA e1 z1 o1 hAr hNm => ?_
  have ec : cA = cB := Option.some.inj (hNm.symm.trans (hK.2 0 _ rfl).2)
  rw [ec] at e1
  have hO1 : va_P D vwCl [(a, .inr (12, [.null, .int 0, .int 0, .int 0]))] H1 := fun i x hk => (hO i x hk).kept (by
    have h1 := (List.getElem?_eq_some_iff.mp hk).1
    simp at h1
    subst h1
    cases hk
    exact o1 a al)
  refine sb_p F hK hO1 0 (by decide) rfl rfl (ty := .array .byte) (by decide +kernel) rfl rfl (show 0 < 4 by omega) tf_A15 dJ5_init_d00df_14 (fun H2 i g1 g2 g3 => ?_)
  refine lv_aload_n hx hb dJ5_init_d00df_17 rfl (lv_at hl 0 rfl) ?_
  refine lv_iconst (v := 0) hx hb dJ5_init_d00df_18 rfl ?_
  refine sb_p F hK g1 1 (by decide) rfl rfl (ty := .byte) (by decide +kernel) (by decide) (by decide) (show 1 < 4 by omega) tf_A22 dJ5_init_d00df_19 (fun H3 i2 g4 g5 g6 => ?_)
  refine lv_goto (tgt := 38) hx hb dJ5_init_d00df_22 rfl ?_
  have hne : ¬ s.heap.size = a := by omega
  refine W.vret hx hb hr (fun t e2 e3 => ⟨_, rfl, ⟨rfl, by rw [e2]; exact g4, ?_⟩, by rw [e2, g5, g2]; omega, fun y h1 h2 => by rw [e2, g6 y h2, g3 y h2]; exact o1 y h1⟩) (fun y hy => ?_) dJ5_init_d00df_38
  · rcases List.mem_append.mp hy with w | w
    · rcases List.mem_append.mp w with w | w
      · cases w
      · rw [List.mem_singleton.mp w]
        exact hB0
    · rw [List.mem_singleton.mp w]
      exact hB0
  · rw [e2]
    refine ⟨fun _ => 0, ?_, fun _ => (by decide : fits .byte (.int 0) = true)⟩
    rw [g6 _ hne, g3 _ hne]
    exact e1
/-- StringBuilder.<init> -/
theorem tx_iB (hB0 : B0 ≤ a) : sb_met l B0 yJ4_init_da8c8 cJ4_init_da8c8 1 none 3 1 16 [.ref a] (fun U => sb_K D cB U ∧ va_P D vwCl [(a, .inr (12, [.null, .int 0, .int 0, .int 0]))] U.heap ∧ sb_X B0 U U.heap) (fun x st t => x = none ∧ sb_O D a st.heap.size 0 0 t.heap ∧ sb_Y cB st.heap.size 16 t.heap) (fun _ x => x = a) := by
  refine sb_of (by decide) (fun p e s m below meth c F hP => ?_)
  obtain ⟨hx, hb, hml, hr, hlocks, hts, hown⟩ := id F
  obtain ⟨hK, hO, hX⟩ := id hP
  have hl := lv_entry ([.ref a]) (n := 1) (Nat.le_of_ble_eq_true rfl)
  rw [lg_entry_eq]
  generalize (lg_sl ([.ref a]) ++ List.replicate (1 - (lg_sl ([.ref a])).length) Slot.unset).toArray = ls at hl ⊢
  have hl : lv_has ls 1 [(0, .ref a)] := hl
  refine lv_aload_n hx hb dJ4_init_da8c8_0 rfl (lv_at hl 0 rfl) ?_
  refine lv_bipush (v := 16) hx hb dJ4_init_da8c8_1 rfl ?_
  refine sb_callk (va_runI (As := [.int (nI 16)]) (rest := []) ⟨hx, hb, hml, hown, hts⟩ (tx_iA (D := D) (cB := cB) hB0) (cwI 1 hts (sb_goodIn tc_iA) rfl rfl rfl (hts _ (sb_tb_i ti_A rfl)) (hts _ (sb_tb_i tl_B1 rfl)) (hts _ (sb_tb_i tm_iA rfl)) rfl ⟨by decide, by decide, by decide +kernel⟩ ⟨show 2 + 1 ≤ 3 by omega, by show 8 + (2 + 11) + 40 * 2 ≤ 40 * 3; omega⟩) (sb_pre (sb_pvX (Pre := fun U H => sb_K D cB U ∧ va_P D vwCl [(a, .inr (12, [.null, .int 0, .int 0, .int 0]))] H ∧ sb_X B0 U H) (fun U V H hv q => ⟨q.1.moved hv, q.2.1, sb_X_on hv (fun _ _ _ => rfl) q.2.2⟩)) (fun U hU hW => by rw [hU]; exact ⟨hK.moved hW.alike, hO, sb_X_on hW.alike (fun _ _ _ => rfl) hX⟩)) rfl rfl hl.1 rfl (by show 2 * 0 + 0 ≤ 8; omega) dJ4_init_da8c8_3 ⟨show 0 + 1 ≤ 1 by omega, show 0 + 16 ≤ 16 by omega⟩) (fun q hq => by cases hq) ?_
  intro x st0 t locs1 e0 q1 hal z o hL
  obtain ⟨q1, q2, q3⟩ := q1
  subst q1
  rw [e0] at q2 q3
  exact W.vret hx hb hr (fun t2 e1 e2 => ⟨_, rfl, ⟨rfl, by rw [e1]; exact q2, by rw [e1]; exact q3⟩, by rw [e1]; exact z, fun y h1 h2 => by rw [e1]; exact o y h1 h2⟩) hL dJ4_init_da8c8_6
end SP98
