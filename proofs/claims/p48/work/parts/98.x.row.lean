/-! text(): rows of the law's helpers: constants, builders -/
set_option maxRecDepth 1000000 in
theorem ti_L : (Jvm.Cond.initialized "DoorsForThreeLaw") ∈ lw_tbl := am_t1 (List.mem_of_getElem? (i := 0) (by decide +kernel))
set_option maxRecDepth 1000000 in
theorem tk_L13 : (Jvm.Cond.classLink "DoorsForThreeLaw" (13 : Nat) "java/lang/StringBuilder") ∈ lw_tbl := am_t1 (List.mem_of_getElem? (i := 1095) (by decide +kernel))
set_option maxRecDepth 1000000 in
theorem tl_L15 : (Jvm.Cond.methodLink "DoorsForThreeLaw" (15 : Nat) ({ cls := "java/lang/StringBuilder", name := "<init>", desc := "()V" } : Jvm.MethodName)) ∈ lw_tbl := am_t1 (List.mem_of_getElem? (i := 1097) (by decide +kernel))
set_option maxRecDepth 1000000 in
theorem tl_L18 : (Jvm.Cond.methodLink "DoorsForThreeLaw" (18 : Nat) ({ cls := "java/lang/StringBuilder", name := "append", desc := "(Ljava/lang/String;)Ljava/lang/StringBuilder;" } : Jvm.MethodName)) ∈ lw_tbl := am_t1 (List.mem_of_getElem? (i := 1125) (by decide +kernel))
set_option maxRecDepth 1000000 in
theorem tl_L30 : (Jvm.Cond.methodLink "DoorsForThreeLaw" (30 : Nat) ({ cls := "java/lang/StringBuilder", name := "append", desc := "(C)Ljava/lang/StringBuilder;" } : Jvm.MethodName)) ∈ lw_tbl := am_t1 (List.mem_of_getElem? (i := 1238) (by decide +kernel))
set_option maxRecDepth 1000000 in
theorem tl_L37 : (Jvm.Cond.methodLink "DoorsForThreeLaw" (37 : Nat) ({ cls := "java/lang/StringBuilder", name := "append", desc := "(I)Ljava/lang/StringBuilder;" } : Jvm.MethodName)) ∈ lw_tbl := am_t1 (List.mem_of_getElem? (i := 1308) (by decide +kernel))
set_option maxRecDepth 1000000 in
theorem tl_L33 : (Jvm.Cond.methodLink "DoorsForThreeLaw" (33 : Nat) ({ cls := "java/lang/StringBuilder", name := "toString", desc := "()Ljava/lang/String;" } : Jvm.MethodName)) ∈ lw_tbl := am_t1 (List.mem_of_getElem? (i := 1251) (by decide +kernel))
set_option maxRecDepth 1000000 in
theorem tl_L24 : (Jvm.Cond.methodLink "DoorsForThreeLaw" (24 : Nat) ({ cls := "java/lang/String", name := "charAt", desc := "(I)C" } : Jvm.MethodName)) ∈ lw_tbl := am_t1 (List.mem_of_getElem? (i := 1218) (by decide +kernel))
set_option maxRecDepth 1000000 in
theorem tl_L7 : (Jvm.Cond.methodLink "DoorsForThreeLaw" (7 : Nat) ({ cls := "DoorsForThreeLaw", name := "some", desc := "(II)I" } : Jvm.MethodName)) ∈ lw_tbl := am_t1 (List.mem_of_getElem? (i := 1088) (by decide +kernel))
set_option maxRecDepth 1000000 in
theorem tl_L64 : (Jvm.Cond.methodLink "DoorsForThreeLaw" (64 : Nat) ({ cls := "DoorsForThreeLaw", name := "at", desc := "([II)I" } : Jvm.MethodName)) ∈ lw_tbl := am_t1 (List.mem_of_getElem? (i := 1085) (by decide +kernel))
set_option maxRecDepth 1000000 in
theorem tl_L44 : (Jvm.Cond.methodLink "DoorsForThreeLaw" (44 : Nat) ({ cls := "DoorsForThreeLaw", name := "one", desc := "(I)Ljava/lang/String;" } : Jvm.MethodName)) ∈ lw_tbl := am_t1 (List.mem_of_getElem? (i := 1214) (by decide +kernel))
set_option maxRecDepth 1000000 in
theorem tl_L68 : (Jvm.Cond.methodLink "DoorsForThreeLaw" (68 : Nat) ({ cls := "DoorsForThreeLaw", name := "says", desc := "(II)Ljava/lang/String;" } : Jvm.MethodName)) ∈ lw_tbl := am_t1 (List.mem_of_getElem? (i := 1211) (by decide +kernel))
set_option maxRecDepth 1000000 in
theorem tl_L78 : (Jvm.Cond.methodLink "DoorsForThreeLaw" (78 : Nat) ({ cls := "java/lang/String", name := "length", desc := "()I" } : Jvm.MethodName)) ∈ lw_tbl := am_t1 (List.mem_of_getElem? (i := 1346) (by decide +kernel))
set_option maxRecDepth 1000000 in
theorem tl_L180 : (Jvm.Cond.methodLink "DoorsForThreeLaw" (180 : Nat) ({ cls := "DoorsForThreeLaw", name := "text", desc := "([II)Ljava/lang/String;" } : Jvm.MethodName)) ∈ lw_tbl := am_t1 (List.mem_of_getElem? (i := 1091) (by decide +kernel))
set_option maxRecDepth 1000000 in
theorem tS_some : (Jvm.Cond.static ({ cls := "DoorsForThreeLaw", name := "some", desc := "(II)I" } : Jvm.MethodName)) ∈ lw_tbl := am_t1 (List.mem_of_getElem? (i := 1089) (by decide +kernel))
set_option maxRecDepth 1000000 in
theorem tS_at : (Jvm.Cond.static ({ cls := "DoorsForThreeLaw", name := "at", desc := "([II)I" } : Jvm.MethodName)) ∈ lw_tbl := am_t1 (List.mem_of_getElem? (i := 1086) (by decide +kernel))
set_option maxRecDepth 1000000 in
theorem tS_one : (Jvm.Cond.static ({ cls := "DoorsForThreeLaw", name := "one", desc := "(I)Ljava/lang/String;" } : Jvm.MethodName)) ∈ lw_tbl := am_t1 (List.mem_of_getElem? (i := 1215) (by decide +kernel))
set_option maxRecDepth 1000000 in
theorem tS_says : (Jvm.Cond.static ({ cls := "DoorsForThreeLaw", name := "says", desc := "(II)Ljava/lang/String;" } : Jvm.MethodName)) ∈ lw_tbl := am_t1 (List.mem_of_getElem? (i := 1212) (by decide +kernel))
set_option maxRecDepth 1000000 in
theorem tS_text : (Jvm.Cond.static ({ cls := "DoorsForThreeLaw", name := "text", desc := "([II)Ljava/lang/String;" } : Jvm.MethodName)) ∈ lw_tbl := am_t1 (List.mem_of_getElem? (i := 1092) (by decide +kernel))
set_option maxRecDepth 1000000 in
theorem tc_one : (Jvm.Cond.code ({ cls := "DoorsForThreeLaw", name := "one", desc := "(I)Ljava/lang/String;" } : Jvm.MethodName) method_4_code (2 : Nat) (Option.some (Jvm.ClassFile.FieldType.object "java/lang/String"))) ∈ lw_tbl := am_t1 (List.mem_of_getElem? (i := 1216) (by decide +kernel))
set_option maxRecDepth 1000000 in
theorem tc_says : (Jvm.Cond.code ({ cls := "DoorsForThreeLaw", name := "says", desc := "(II)Ljava/lang/String;" } : Jvm.MethodName) method_5_code (5 : Nat) (Option.some (Jvm.ClassFile.FieldType.object "java/lang/String"))) ∈ lw_tbl := am_t1 (List.mem_of_getElem? (i := 1213) (by decide +kernel))
set_option maxRecDepth 1000000 in
theorem tc_text : (Jvm.Cond.code ({ cls := "DoorsForThreeLaw", name := "text", desc := "([II)Ljava/lang/String;" } : Jvm.MethodName) method_6_code (6 : Nat) (Option.some (Jvm.ClassFile.FieldType.object "java/lang/String"))) ∈ lw_tbl := am_t1 (List.mem_of_getElem? (i := 1093) (by decide +kernel))
/-- the law's constants: their places, texts, letters -/
abbrev tx_ks : List (Nat × String × Nat) := [(16, "", 0), (22, "swdank", 6), (40, "!", 1), (42, "-", 1), (48, "+-*/%|&<=>", 10), (50, "(", 1), (52, ")*", 2), (54, "+20", 3), (56, "!(", 2), (58, "<", 1), (60, "|", 1), (62, "=3)*30+s", 8), (72, "?", 1), (74, ";", 1), (76, "9*s+w*20-n*2", 12), (82, "w&n<3?60-d;a>9?s;7", 18)]
def tx_c1 (B0 i : Nat) (tx : String) (w : Nat) (U : State) (H : Heap) : Prop := ∃ r v, vk_R "DoorsForThreeLaw" i tx r U ∧ sv_S r v w U H ∧ r < B0 ∧ v < B0
/-- what text() finds: classes, statics, digits, constants -/
def tx_W (D : va_G) (cB : ClassId) (B0 : Nat) (U : State) (H : Heap) : Prop := sb_K D cB U ∧ sb_X B0 U H ∧ sb_di B0 U H ∧ ∀ q ∈ tx_ks, tx_c1 B0 q.1 q.2.1 q.2.2 U H
/-- within a method that began over H0: all that was there stands as it was -/
def tx_I (D : va_G) (cB : ClassId) (B0 : Nat) (H0 : Heap) (U : State) (H : Heap) : Prop := tx_W D cB B0 U H ∧ H0.size ≤ H.size ∧ (∀ q, q < H0.size → H[q]? = H0[q]?) ∧ B0 ≤ H0.size
/-- a builder made by this method -/
def tx_b (D : va_G) (cB : ClassId) (B0 : Nat) (H0 : Heap) (a v n mm : Nat) (U : State) (H : Heap) : Prop := sb_B D cB B0 a v n mm U H ∧ 0 < mm ∧ H0.size ≤ a ∧ H0.size ≤ v
/-- a string apart from the builder -/
def tx_s (a v r v0 w : Nat) (U : State) (H : Heap) : Prop := sv_S r v0 w U H ∧ ¬ r = a ∧ ¬ r = v ∧ ¬ v0 = a ∧ ¬ v0 = v
section SP98x
variable {p : Program} {l : Launch} {e : Env} {Rm : Room} {s : State} {m : MethodId} {args : Array Value} {below : List Frame} {meth : Method} {c : Code} {Q : State → Prop} {H H0 H2 : Heap} {locs : List Loc} {cs ss pc B0 : Nat} {ls : Array Slot}
variable {bc : ByteArray} {nL : Nat} {rt : Option FieldType} {st : List Value} {D : va_G} {cB : ClassId} {a v n mm r v0 w : Nat}
theorem tx_W_h (hq : ∀ q, q < H.size → q < B0 → H2[q]? = H[q]?) (h : tx_W D cB B0 s H) : tx_W D cB B0 s H2 := by
  obtain ⟨h1, h2, h3, h4⟩ := h
  refine ⟨h1, sb_X_on (Vm.Alike.refl _) hq h2, sb_di_on (Vm.Alike.refl _) hq h3, fun q hq2 => ?_⟩
  obtain ⟨r, v, g1, g2, g3, g4⟩ := h4 q hq2
  obtain ⟨l1, l2, -⟩ := sv_lt g2
  exact ⟨r, v, g1, sv_on (Vm.Alike.refl _) (hq r l1 g3) (hq v l2 g4) g2, g3, g4⟩
theorem tx_W_w {U : State} (hW : s.WarmedH U.vm) (h : tx_W D cB B0 s H) : tx_W D cB B0 U H := by
  obtain ⟨h1, h2, h3, h4⟩ := h
  refine ⟨h1.moved hW.alike, sb_X_on hW.alike (fun _ _ _ => rfl) h2, sb_di_on hW.alike (fun _ _ _ => rfl) h3, fun q hq2 => ?_⟩
  obtain ⟨r, v, g1, g2, g3, g4⟩ := h4 q hq2
  exact ⟨r, v, g1.warm hW, sv_on hW.alike rfl rfl g2, g3, g4⟩
theorem tx_W_e {U V : State} (hv : V.vm = U.vm) (h : tx_W D cB B0 U H) : tx_W D cB B0 V H := by
  have hA : U.vm.Alike V.vm := by
    rw [hv]
    exact Vm.Alike.refl _
  obtain ⟨h1, h2, h3, h4⟩ := h
  refine ⟨h1.moved hA, sb_X_on hA (fun _ _ _ => rfl) h2, sb_di_on hA (fun _ _ _ => rfl) h3, fun q hq2 => ?_⟩
  obtain ⟨r, v, g1, g2, g3, g4⟩ := h4 q hq2
  exact ⟨r, v, g1.same hv, sv_on hA rfl rfl g2, g3, g4⟩
theorem tx_Wpv : sb_pv (fun U => tx_W D cB B0 U U.heap ∧ B0 ≤ U.heap.size) := fun U V h1 h2 q => by
  show tx_W D cB B0 V V.heap ∧ B0 ≤ V.heap.size
  rw [h2]
  exact ⟨tx_W_e h1 q.1, q.2⟩
theorem tx_Wgo {U : State} (h : tx_W D cB B0 s H) (hB : B0 ≤ H.size) (hU : U.heap = H) (hW : s.WarmedH U.vm) : tx_W D cB B0 U U.heap ∧ B0 ≤ U.heap.size := by
  rw [hU]
  exact ⟨tx_W_w hW h, hB⟩
theorem tx_I_grow (h : tx_I D cB B0 H0 s H) (z : H.size ≤ H2.size) (o : ∀ q, q < H.size → H2[q]? = H[q]?) : tx_I D cB B0 H0 s H2 := by
  obtain ⟨h1, h2, h3, h4⟩ := h
  exact ⟨tx_W_h (fun q a _ => o q a) h1, Nat.le_trans h2 z, fun q hq => (o q (by omega)).trans (h3 q hq), h4⟩
theorem tx_b_lt (h : tx_b D cB B0 H0 a v n mm s H) : a < H.size ∧ v < H.size ∧ B0 ≤ a ∧ B0 ≤ v := by
  obtain ⟨⟨hK, ⟨k, hO⟩, hY, b1, b2, b3, b4, b5, hX⟩, -⟩ := h
  exact ⟨sb_O_lt hO, sb_Y_lt hY, b4, b5⟩
theorem tx_b_grow (h : tx_b D cB B0 H0 a v n mm s H) (o : ∀ q, q < H.size → H2[q]? = H[q]?) : tx_b D cB B0 H0 a v n mm s H2 := ⟨sb_B_grow h.1 o, h.2⟩
theorem sv_grow (h : sv_S r v0 w s H) (o : ∀ q, q < H.size → H2[q]? = H[q]?) : sv_S r v0 w s H2 := by
  obtain ⟨l1, l2, -⟩ := sv_lt h
  exact sv_on (Vm.Alike.refl _) (o r l1) (o v0 l2) h
theorem tx_s_grow (h : tx_s a v r v0 w s H) (o : ∀ q, q < H.size → H2[q]? = H[q]?) : tx_s a v r v0 w s H2 := ⟨sv_grow h.1 o, h.2⟩
/-- a constant is apart from a builder -/
theorem tx_s_c (hb : tx_b D cB B0 H0 a v n mm s H) (h : sv_S r v0 w s H) (h1 : r < B0) (h2 : v0 < B0) : tx_s a v r v0 w s H := by
  obtain ⟨-, -, b1, b2⟩ := tx_b_lt hb
  exact ⟨h, by omega, by omega, by omega, by omega⟩
/-- what was made later is apart from it -/
theorem tx_s_n (hb : tx_b D cB B0 H0 a v n mm s H) (h : sv_S r v0 w s H2) (h1 : H.size ≤ r) (h2 : H.size ≤ v0) : tx_s a v r v0 w s H2 := by
  obtain ⟨a1, a2, -, -⟩ := tx_b_lt hb
  exact ⟨h, by omega, by omega, by omega, by omega⟩
/-- what an append leaves -/
theorem tx_af {n2 : Nat} (hI : tx_I D cB B0 H0 s H) (hb : tx_b D cB B0 H0 a v n mm s H) (z : H.size ≤ H2.size) (o : ∀ q, q < H.size → ¬ (q = a ∨ q = v) → H2[q]? = H[q]?) (haf : ∃ v2 m2, (∃ k, sb_O D a v2 n2 k H2) ∧ sb_Y cB v2 m2 H2 ∧ a ≠ v2 ∧ n2 ≤ m2 ∧ m2 ≤ 4096 ∧ 0 < m2 ∧ (v2 = v ∨ H.size ≤ v2)) : ∃ v2 m2, tx_I D cB B0 H0 s H2 ∧ tx_b D cB B0 H0 a v2 n2 m2 s H2 ∧ ∀ r v0 w, tx_s a v r v0 w s H → tx_s a v2 r v0 w s H2 := by
  obtain ⟨l1, l2, l3, l4⟩ := tx_b_lt hb
  obtain ⟨⟨hK, -, -, -, -, -, -, -, hX⟩, c0, c1, c2⟩ := hb
  obtain ⟨h1, h2, h3, h4⟩ := hI
  obtain ⟨v2, m2, d1, d2, d3, d4, d5, d6, d7⟩ := haf
  have oB : ∀ q, q < H.size → q < B0 → H2[q]? = H[q]? := fun q g1 g2 => o q g1 (fun w => by omega)
  refine ⟨v2, m2, ⟨tx_W_h oB h1, Nat.le_trans h2 z, fun q hq => (o q (by omega) (fun w => by omega)).trans (h3 q hq), h4⟩, ⟨⟨hK, d1, d2, d3, d4, d5, l3, by omega, sb_X_on (Vm.Alike.refl _) oB hX⟩, d6, c1, by omega⟩, fun r v0 w h => ?_⟩
  obtain ⟨g1, g2, g3, g4, g5⟩ := h
  obtain ⟨k1, k2, -⟩ := sv_lt g1
  exact ⟨sv_on (Vm.Alike.refl _) (o r k1 (fun w => by omega)) (o v0 k2 (fun w => by omega)) g1, g2, by omega, g4, by omega⟩
/-- a constant is loaded -/
theorem tr_ldc {i : Nat} {tx : String} (F : sb_fr p s m args meth c "DoorsForThreeLaw" bc nL rt) (hI : tx_I D cB B0 H0 s H) (hm : (i, tx, w) ∈ tx_ks) (hdg : decode bc pc = .ok (.ldc i, 2))
    (kk : ∀ r v0, sv_S r v0 w s H → r < B0 → v0 < B0 → W p l e Rm s m args below meth c H locs cs ss Q (F0 m (pc + 2) ls (.ref r :: st))) : W p l e Rm s m args below meth c H locs cs ss Q (F0 m pc ls st) := by
  obtain ⟨hx, hb, hml, hr, hlocks, hts, hown⟩ := F
  obtain ⟨r, v0, g1, g2, g3, g4⟩ := hI.1.2.2.2 _ hm
  exact va_ldcS hx hb hown g1 hdg (kk r v0 g2 g3 g4)
/-- new StringBuilder() -/
theorem tr_new (F : sb_fr p s m args meth c "DoorsForThreeLaw" bc nL rt) (hls : ls.size = nL) (hI : tx_I D cB B0 H0 s H) (hR : 7 ≤ Rm.frames ∧ 280 ≤ Rm.locals) (hcs : cs + 2 ≤ Rm.cells) (hss : ss + 20 ≤ Rm.slots) (hsum : (st.map fun v => v.category).sum ≤ 7) (hL : ∀ q ∈ locs, B0 ≤ q.base)
    (d0 : decode bc pc = .ok (.new 13, 3)) (d1 : decode bc (pc + 3) = .ok (.dup, 1)) (d2 : decode bc (pc + 3 + 1) = .ok (.invokespecial 15, 3))
    (kk : ∀ (H2 : Heap) (a v : Nat) (locs1 : List Loc), tx_I D cB B0 H0 s H2 → tx_b D cB B0 H0 a v 0 16 s H2 → (∀ r v0 w, sv_S r v0 w s H → tx_s a v r v0 w s H2) → (∀ q ∈ locs1, B0 ≤ q.base) → W p l e Rm s m args below meth c H2 locs1 (cs + 2) (ss + 20) Q (F0 m (pc + 3 + 1 + 3) ls (.ref a :: st))) : W p l e Rm s m args below meth c H locs cs ss Q (F0 m pc ls st) := by
  obtain ⟨hx, hb, hml, hr, hlocks, hts, hown⟩ := id F
  obtain ⟨⟨hK, hX, -, -⟩, i2, i3, i4⟩ := id hI
  have hB0 : B0 ≤ H.size := Nat.le_trans i4 i2
  refine sb_newB F tk_L13 hK d0 (by omega) (by omega) (fun H1 z1 e1 o1 => ?_)
  refine lv_dup hx hb d1 rfl ?_
  have hX1 : sb_X B0 s H1 := sb_X_on (Vm.Alike.refl _) (fun q g _ => o1 q g) hX
  refine sb_callk (va_runI (As := []) (rest := .ref H.size :: st) ⟨hx, hb, hml, hown, hts⟩ (tx_iB (l := l) (D := D) (cB := cB) hB0) (cwI 0 hts (sb_goodIn tc_iB) rfl rfl rfl (hts _ (sb_tb_i ti_B rfl)) (hts _ (sb_tb_i tl_L15 rfl)) (hts _ (sb_tb_i tm_iB rfl)) rfl ⟨by decide, by decide, by decide +kernel⟩ ⟨show 3 + 1 ≤ Rm.frames by omega, by show 8 + (1 + 11) + 40 * 3 ≤ Rm.locals; omega⟩) (sb_pre (sb_pvX (Pre := fun U H' => sb_K D cB U ∧ va_P D vwCl [(H.size, .inr (12, [.null, .int 0, .int 0, .int 0]))] H' ∧ sb_X B0 U H') (fun U V H hv q => ⟨q.1.moved hv, q.2.1, sb_X_on hv (fun _ _ _ => rfl) q.2.2⟩)) (fun U hU hW => by rw [hU]; exact ⟨hK.moved hW.alike, e1, sb_X_on hW.alike (fun _ _ _ => rfl) hX1⟩)) rfl rfl hls rfl (by show 2 * 0 + (1 + (st.map fun v => v.category).sum) ≤ 8; omega) d2 ⟨show cs + 1 + 1 ≤ Rm.cells by omega, show ss + 4 + 16 ≤ Rm.slots by omega⟩) hL ?_
  intro x st0 t locs1 e0 q1 hal z o hL1
  obtain ⟨q1, q2, q3⟩ := q1
  subst q1
  rw [e0] at q2 q3
  have oo : ∀ q, q < H.size → t.heap[q]? = H[q]? := fun q hq => (o q (by omega) (by omega)).trans (o1 q hq)
  have zz : H.size ≤ t.heap.size := by omega
  have hI2 := tx_I_grow hI zz oo
  refine kk t.heap H.size H1.size locs1 hI2 ⟨⟨hK, ⟨0, q2⟩, q3, by omega, by omega, by omega, hB0, by omega, hI2.1.2.1⟩, by omega, i2, by omega⟩ (fun r v0 w hS => ?_) hL1
  obtain ⟨l1, l2, -⟩ := sv_lt hS
  exact ⟨sv_grow hS oo, by omega, by omega, by omega, by omega⟩
/-- a string is appended -/
theorem tr_aS (F : sb_fr p s m args meth c "DoorsForThreeLaw" bc nL rt) (hls : ls.size = nL) (hI : tx_I D cB B0 H0 s H) (hb : tx_b D cB B0 H0 a v n mm s H) (hS : tx_s a v r v0 w s H) (hn : n + w ≤ 1000) (hR : 7 ≤ Rm.frames ∧ 280 ≤ Rm.locals) (hcs : cs + 1 ≤ Rm.cells) (hss : ss + 4096 ≤ Rm.slots) (hsum : (st.map fun v => v.category).sum ≤ 8) (hL : ∀ q ∈ locs, B0 ≤ q.base) (hdg : decode bc pc = .ok (.invokevirtual 18, 3))
    (kk : ∀ (H2 : Heap) (v2 m2 : Nat) (locs1 : List Loc), tx_I D cB B0 H0 s H2 → tx_b D cB B0 H0 a v2 (n + w) m2 s H2 → (∀ r v0 w, tx_s a v r v0 w s H → tx_s a v2 r v0 w s H2) → (∀ q ∈ locs1, B0 ≤ q.base) → W p l e Rm s m args below meth c H2 locs1 (cs + 1) (ss + 4096) Q (F0 m (pc + 3) ls (.ref a :: st))) : W p l e Rm s m args below meth c H locs cs ss Q (F0 m pc ls (.ref r :: .ref a :: st)) := by
  obtain ⟨hx, hbb, hml, hr, hlocks, hts, hown⟩ := id F
  obtain ⟨g1, g2, g3, g4, g5⟩ := hS
  refine sb_callV (C := "java/lang/StringBuilder") (As := [.ref r]) (st := st) (k := 1) (d := 6) (mc := 1) (ms := 4096) F (tx_bS (l := l) (B0 := B0) (D := D) (cB := cB) (mm := mm) hb.2.1 hn g2 g3 g4 g5) tc_bS ti_B tl_L18 tm_bS (hts _ (sb_tb_i te_bS rfl)) ⟨by decide, by decide, by decide +kernel⟩ rfl (sb_recv hb.1) hdg hls (by decide) hsum hR.1 (by show 40 * (6 + 1) ≤ Rm.locals; omega) hcs hss sb_BSpv (fun U hU hW => sb_BSgo ⟨hb.1, g1⟩ hU hW) hL ?_
  intro x st0 t locs1 e0 q1 hal z o hL1
  obtain ⟨q1, q2⟩ := q1
  subst q1
  unfold sb_af at q2
  rw [e0] at q2
  obtain ⟨v2, m2, k1, k2, k3⟩ := tx_af hI hb z o q2
  exact kk t.heap v2 m2 locs1 k1 k2 k3 hL1
/-- a letter is appended -/
theorem tr_aC {b : Nat} (F : sb_fr p s m args meth c "DoorsForThreeLaw" bc nL rt) (hls : ls.size = nL) (hI : tx_I D cB B0 H0 s H) (hb : tx_b D cB B0 H0 a v n mm s H) (hb2 : b < 256) (hn : n + 1 ≤ 1000) (hR : 7 ≤ Rm.frames ∧ 280 ≤ Rm.locals) (hcs : cs + 1 ≤ Rm.cells) (hss : ss + 4096 ≤ Rm.slots) (hsum : (st.map fun v => v.category).sum ≤ 8) (hL : ∀ q ∈ locs, B0 ≤ q.base) (hdg : decode bc pc = .ok (.invokevirtual 30, 3))
    (kk : ∀ (H2 : Heap) (v2 m2 : Nat) (locs1 : List Loc), tx_I D cB B0 H0 s H2 → tx_b D cB B0 H0 a v2 (n + 1) m2 s H2 → (∀ r v0 w, tx_s a v r v0 w s H → tx_s a v2 r v0 w s H2) → (∀ q ∈ locs1, B0 ≤ q.base) → W p l e Rm s m args below meth c H2 locs1 (cs + 1) (ss + 4096) Q (F0 m (pc + 3) ls (.ref a :: st))) : W p l e Rm s m args below meth c H locs cs ss Q (F0 m pc ls (.int (nI b) :: .ref a :: st)) := by
  obtain ⟨hx, hbb, hml, hr, hlocks, hts, hown⟩ := id F
  refine sb_callV (C := "java/lang/StringBuilder") (As := [.int (nI b)]) (st := st) (k := 1) (d := 6) (mc := 1) (ms := 4096) F (tx_bC (l := l) (B0 := B0) (D := D) (cB := cB) (a := a) (v := v) (mm := mm) hb.2.1 hn hb2) tc_bC ti_B tl_L30 tm_bC (hts _ (sb_tb_i te_bC rfl)) ⟨by decide, by decide, by decide +kernel⟩ rfl (sb_recv hb.1) hdg hls (by decide) hsum hR.1 (by show 40 * (6 + 1) ≤ Rm.locals; omega) hcs hss sb_Bpv (fun U hU hW => sb_Bgo hb.1 hU hW) hL ?_
  intro x st0 t locs1 e0 q1 hal z o hL1
  obtain ⟨q1, q2⟩ := q1
  subst q1
  unfold sb_af at q2
  rw [e0] at q2
  obtain ⟨v2, m2, k1, k2, k3⟩ := tx_af hI hb z o q2
  exact kk t.heap v2 m2 locs1 k1 k2 k3 hL1
/-- a number below 30 is appended -/
theorem tr_aI {x : Nat} (F : sb_fr p s m args meth c "DoorsForThreeLaw" bc nL rt) (hls : ls.size = nL) (hI : tx_I D cB B0 H0 s H) (hb : tx_b D cB B0 H0 a v n mm s H) (hx30 : x < 30) (hn : n + 2 ≤ 1000) (hR : 7 ≤ Rm.frames ∧ 280 ≤ Rm.locals) (hcs : cs + 1 ≤ Rm.cells) (hss : ss + 4096 ≤ Rm.slots) (hsum : (st.map fun v => v.category).sum ≤ 8) (hL : ∀ q ∈ locs, B0 ≤ q.base) (hdg : decode bc pc = .ok (.invokevirtual 37, 3))
    (kk : ∀ (H2 : Heap) (v2 m2 : Nat) (locs1 : List Loc), tx_I D cB B0 H0 s H2 → tx_b D cB B0 H0 a v2 (n + sb_sz x) m2 s H2 → (∀ r v0 w, tx_s a v r v0 w s H → tx_s a v2 r v0 w s H2) → (∀ q ∈ locs1, B0 ≤ q.base) → W p l e Rm s m args below meth c H2 locs1 (cs + 1) (ss + 4096) Q (F0 m (pc + 3) ls (.ref a :: st))) : W p l e Rm s m args below meth c H locs cs ss Q (F0 m pc ls (.int (nI x) :: .ref a :: st)) := by
  obtain ⟨hx, hbb, hml, hr, hlocks, hts, hown⟩ := id F
  have hD := hI.1.2.2.1
  refine sb_callV (C := "java/lang/StringBuilder") (As := [.int (nI x)]) (st := st) (k := 1) (d := 6) (mc := 1) (ms := 4096) F (tx_bI (l := l) (B0 := B0) (D := D) (cB := cB) (a := a) (v := v) (mm := mm) hb.2.1 hn hx30) tc_bI ti_B tl_L37 tm_bI (hts _ (sb_tb_i te_bI rfl)) ⟨by decide, by decide, by decide +kernel⟩ rfl (sb_recv hb.1) hdg hls (by decide) hsum hR.1 (by show 40 * (6 + 1) ≤ Rm.locals; omega) hcs hss (sb_pvX (Pre := fun U H => sb_B D cB B0 a v n mm U H ∧ sb_di B0 U H) (fun U V H hv q => ⟨sb_B_on hv q.1, sb_di_on hv (fun _ _ _ => rfl) q.2⟩)) (fun U hU hW => by rw [hU]; exact ⟨sb_B_on hW.alike hb.1, sb_di_on hW.alike (fun _ _ _ => rfl) hD⟩) hL ?_
  intro y st0 t locs1 e0 q1 hal z o hL1
  obtain ⟨q1, q2⟩ := q1
  subst q1
  unfold sb_af at q2
  rw [e0] at q2
  obtain ⟨v2, m2, k1, k2, k3⟩ := tx_af hI hb z o q2
  exact kk t.heap v2 m2 locs1 k1 k2 k3 hL1
/-- the builder's text -/
theorem tr_toS (F : sb_fr p s m args meth c "DoorsForThreeLaw" bc nL rt) (hls : ls.size = nL) (hI : tx_I D cB B0 H0 s H) (hb : tx_b D cB B0 H0 a v n mm s H) (hn : n ≤ 1000) (hR : 7 ≤ Rm.frames ∧ 280 ≤ Rm.locals) (hcs : cs + 2 ≤ Rm.cells) (hss : ss + 4100 ≤ Rm.slots) (hsum : (st.map fun v => v.category).sum ≤ 8) (hL : ∀ q ∈ locs, B0 ≤ q.base) (hdg : decode bc pc = .ok (.invokevirtual 33, 3))
    (kk : ∀ (H2 : Heap) (r v0 : Nat) (locs1 : List Loc), tx_I D cB B0 H0 s H2 → sv_S r v0 n s H2 → H.size ≤ r → H.size ≤ v0 → H.size ≤ H2.size → (∀ q, q < H.size → H2[q]? = H[q]?) → (∀ q ∈ locs1, B0 ≤ q.base) → W p l e Rm s m args below meth c H2 locs1 (cs + 2) (ss + 4100) Q (F0 m (pc + 3) ls (.ref r :: st))) : W p l e Rm s m args below meth c H locs cs ss Q (F0 m pc ls (.ref a :: st)) := by
  obtain ⟨hx, hbb, hml, hr, hlocks, hts, hown⟩ := id F
  refine sb_callV (C := "java/lang/StringBuilder") (As := []) (st := st) (k := 0) (d := 6) (mc := 2) (ms := 4100) F (tx_tos (l := l) (B0 := B0) (D := D) (cB := cB) (a := a) (v := v) (mm := mm) hn) tc_tos ti_B tl_L33 tm_tos (hts _ (sb_tb_i te_tos rfl)) ⟨by decide, by decide, by decide +kernel⟩ rfl (sb_recv hb.1) hdg hls (by decide) hsum hR.1 (by show 40 * (6 + 1) ≤ Rm.locals; omega) hcs hss sb_Bpv (fun U hU hW => sb_Bgo hb.1 hU hW) hL ?_
  intro x st0 t locs1 e0 q1 hal z o hL1
  obtain ⟨r, v0, q1, q2, q3, q4⟩ := q1
  subst q1
  rw [e0] at q2 q3
  have oo : ∀ q, q < H.size → t.heap[q]? = H[q]? := fun q hq => o q hq (fun w => w)
  exact kk t.heap r v0 locs1 (tx_I_grow hI z oo) (sv_on hal.symm rfl rfl q4) q2 q3 z oo hL1
/-- a letter of a string -/
theorem tr_cat {i : Nat} (F : sb_fr p s m args meth c "DoorsForThreeLaw" bc nL rt) (hls : ls.size = nL) (hI : tx_I D cB B0 H0 s H) (hS : sv_S r v0 w s H) (hi : i < w) (hR : 7 ≤ Rm.frames ∧ 280 ≤ Rm.locals) (hcs : cs ≤ Rm.cells) (hss : ss ≤ Rm.slots) (hsum : (st.map fun v => v.category).sum ≤ 8) (hL : ∀ q ∈ locs, B0 ≤ q.base) (hdg : decode bc pc = .ok (.invokevirtual 24, 3))
    (kk : ∀ (b : Nat) (locs1 : List Loc), b < 256 → (∀ q ∈ locs1, B0 ≤ q.base) → W p l e Rm s m args below meth c H locs1 cs ss Q (F0 m (pc + 3) ls (.int (nI b) :: st))) : W p l e Rm s m args below meth c H locs cs ss Q (F0 m pc ls (.int (nI i) :: .ref r :: st)) := by
  obtain ⟨hx, hbb, hml, hr, hlocks, hts, hown⟩ := id F
  have hX := hI.1.2.1
  refine sb_callV (C := "java/lang/String") (As := [.int (nI i)]) (st := st) (k := 1) (d := 4) (mc := 0) (ms := 0) F (tx_cat (l := l) (B0 := B0) (r := r) (v := v0) (w := w) hi) tc_cat ti_S tl_L24 tm_cat (hts _ (sb_tb_i te_cat rfl)) ⟨by decide, by decide, by decide +kernel⟩ rfl (sv_recv hS) hdg hls (by decide) hsum (show 4 + 1 ≤ Rm.frames by omega) (by show 40 * (4 + 1) ≤ Rm.locals; omega) hcs hss sv_pv (fun U hU hW => sv_go hS hX hU hW) hL ?_
  intro x st0 t locs1 e0 q1 hal z o hL1
  obtain ⟨q1, b, hb, q2⟩ := q1
  subst q2
  rw [e0] at q1
  rw [q1]
  exact kk b locs1 hb hL1
/-- some(x, n) -/
theorem tr_some {x : Int32} {k : Nat} (F : sb_fr p s m args meth c "DoorsForThreeLaw" bc nL rt) (hls : ls.size = nL) (h0 : 0 < k) (hk : k < 1000) (hR : 7 ≤ Rm.frames ∧ 280 ≤ Rm.locals) (hcs : cs ≤ Rm.cells) (hss : ss ≤ Rm.slots) (hsum : (st.map fun v => v.category).sum ≤ 8) (hL : ∀ q ∈ locs, B0 ≤ q.base) (hdg : decode bc pc = .ok (.invokestatic 7, 3))
    (kk : ∀ (j : Nat) (locs1 : List Loc), j < k → (∀ q ∈ locs1, B0 ≤ q.base) → W p l e Rm s m args below meth c H locs1 cs ss Q (F0 m (pc + 3) ls (.int (nI j) :: st))) : W p l e Rm s m args below meth c H locs cs ss Q (F0 m pc ls (.int (nI k) :: .int x :: st)) := by
  refine sb_callS (B0 := B0) (As := [.int x, .int (nI k)]) (st := st) (k := 2) (d := 1) (mc := 0) (ms := 0) F (tx_some (l := l) h0 hk) tw_some ti_L tl_L7 tS_some ⟨by decide, by decide, by decide +kernel⟩ rfl hdg hls (by decide) hsum (show 1 + 1 ≤ Rm.frames by omega) (by show 40 * (1 + 1) ≤ Rm.locals; omega) hcs hss tx_pvT (fun _ _ _ => trivial) hL ?_
  intro y st0 t locs1 e0 q1 hal z o hL1
  obtain ⟨q1, j, hj, q2⟩ := q1
  subst q2
  rw [e0] at q1
  rw [q1]
  exact kk j locs1 hj hL1
end SP98x
