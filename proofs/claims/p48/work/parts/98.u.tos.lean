/-! text(): new objects; StringBuilder.toString -/
theorem dJ4_toString_0e30d_0 : decode cJ4_toString_0e30d 0 = .ok (.new 18, 3) := by decide +kernel
theorem dJ4_toString_0e30d_3 : decode cJ4_toString_0e30d 3 = .ok (.dup, 1) := by decide +kernel
theorem dJ4_toString_0e30d_4 : decode cJ4_toString_0e30d 4 = .ok (.aload_n 0, 1) := by decide +kernel
theorem dJ4_toString_0e30d_5 : decode cJ4_toString_0e30d 5 = .ok (.invokespecial 137, 3) := by decide +kernel
theorem dJ4_toString_0e30d_8 : decode cJ4_toString_0e30d 8 = .ok (.areturn, 1) := by decide +kernel
set_option maxRecDepth 1000000 in
theorem tc_tos : (Jvm.Cond.code ({ cls := "java/lang/StringBuilder", name := "toString", desc := "()Ljava/lang/String;" } : Jvm.MethodName) prog_21_method_42_code (1 : Nat) (Option.some (Jvm.ClassFile.FieldType.object "java/lang/String"))) ∈ lw_tbl := am_t1 (List.mem_of_getElem? (i := 1254) (by decide +kernel))
set_option maxRecDepth 1000000 in
theorem tm_tos : (Jvm.Cond.instanceMethod ({ cls := "java/lang/StringBuilder", name := "toString", desc := "()Ljava/lang/String;" } : Jvm.MethodName)) ∈ lw_tbl := am_t1 (List.mem_of_getElem? (i := 1252) (by decide +kernel))
set_option maxRecDepth 1000000 in
theorem te_tos : (Jvm.Cond.selects "java/lang/StringBuilder" ({ cls := "java/lang/StringBuilder", name := "toString", desc := "()Ljava/lang/String;" } : Jvm.MethodName) ({ cls := "java/lang/StringBuilder", name := "toString", desc := "()Ljava/lang/String;" } : Jvm.MethodName)) ∈ lw_tbl := am_t1 (List.mem_of_getElem? (i := 1253) (by decide +kernel))
set_option maxRecDepth 1000000 in
theorem tk_B18 : (Jvm.Cond.classLink "java/lang/StringBuilder" (18 : Nat) "java/lang/String") ∈ lw_tbl := am_t1 (List.mem_of_getElem? (i := 1255) (by decide +kernel))
set_option maxRecDepth 1000000 in
theorem tn_S : (Jvm.Cond.instantiable "java/lang/String" (4 : Nat)) ∈ lw_tbl := am_t1 (List.mem_of_getElem? (i := 1256) (by decide +kernel))
set_option maxRecDepth 1000000 in
theorem tl_B137 : (Jvm.Cond.methodLink "java/lang/StringBuilder" (137 : Nat) ({ cls := "java/lang/String", name := "<init>", desc := "(Ljava/lang/StringBuilder;)V" } : Jvm.MethodName)) ∈ lw_tbl := am_t1 (List.mem_of_getElem? (i := 1257) (by decide +kernel))
section SP98u
variable {p : Program} {l : Launch} {e : Env} {Rm : Room} {s : State} {m : MethodId} {args : Array Value} {below : List Frame} {meth : Method} {c : Code} {Q : State → Prop} {H : Heap} {locs : List Loc} {cs ss pc B0 : Nat} {ls : Array Slot}
variable {own : String} {bc : ByteArray} {nL : Nat} {rt : Option FieldType} {st : List Value} {D : va_G} {cB : ClassId} {a v n mm r vv : Nat}
theorem sb_lt4 {P : Nat → Prop} (h0 : P 0) (h1 : P 1) (h2 : P 2) (h3 : P 3) : ∀ j, j < 4 → P j := fun j hj => by
  rcases (by omega : j = 0 ∨ j = 1 ∨ j = 2 ∨ j = 3) with q | q | q | q <;> subst q <;> assumption
/-- a new object of four fields, at the heap's end -/
theorem sb_new (F : sb_fr p s m args meth c own bc nL rt) {ci index : Nat} {C : String} {T : u_T} (hc : vwCl[ci]? = some (C, T, 4)) (ty : Nat → FieldType) (hty : ∀ k, k < 4 → parseFieldDescriptor (T k).2.2.1 = some (ty k)) {fs : List Value} (hfs : ∀ j, j < 4 → defaultValue (ty j) = vp_V fs j) (w1 : Cond.classLink own index C ∈ lw_tbl) (w2 : Cond.instantiable C 4 ∈ lw_tbl) (w3 : Cond.initialized C ∈ lw_tbl) (hK : sb_K D cB s) (hdg : decode bc pc = .ok (.new index, 3)) (hcs : cs + 1 ≤ Rm.cells) (hss : ss + 4 ≤ Rm.slots)
    (kk : ∀ H1 : Heap, H1.size = H.size + 1 → va_P D vwCl [(H.size, .inr (ci, fs))] H1 → (∀ q, q < H.size → H1[q]? = H[q]?) → W p l e Rm s m args below meth c H1 locs (cs + 1) (ss + 4) Q (F0 m (pc + 3) ls (.ref H.size :: st))) : W p l e Rm s m args below meth c H locs cs ss Q (F0 m pc ls st) := by
  obtain ⟨hx, hb, hml, hr, hlocks, hts, hown⟩ := F
  have hKn := hK.1 ci _ hc
  refine W.newcK hx hb hown (hts _ (sb_tb_i w1 rfl)) (hts _ (sb_tb_i w2 rfl)) (hts _ (sb_tb_i w3 rfl)) rfl hdg hcs hss hKn.2.1 rfl fun H1 kC hkC e1 z1 o1 => kk H1 z1 (fun k x hk => ?_) o1
  have hz := (List.getElem?_eq_some_iff.mp hk).1
  simp at hz
  subst hz
  cases hk
  exact ⟨_, hc, (u_born ty (fun w hw => hts w (sb_am hw)) (am_vw hc).1 hKn hkC e1 hty).to hfs⟩
theorem sb_newS (F : sb_fr p s m args meth c own bc nL rt) {index : Nat} (w1 : Cond.classLink own index "java/lang/String" ∈ lw_tbl) (w2 : Cond.instantiable "java/lang/String" 4 ∈ lw_tbl) (hK : sb_K D cB s) (hdg : decode bc pc = .ok (.new index, 3)) (hcs : cs + 1 ≤ Rm.cells) (hss : ss + 4 ≤ Rm.slots)
    (kk : ∀ H1 : Heap, H1.size = H.size + 1 → va_P D vwCl [(H.size, .inr (11, [.null, .int 0, .int 0, .int 0]))] H1 → (∀ q, q < H.size → H1[q]? = H[q]?) → W p l e Rm s m args below meth c H1 locs (cs + 1) (ss + 4) Q (F0 m (pc + 3) ls (.ref H.size :: st))) : W p l e Rm s m args below meth c H locs cs ss Q (F0 m pc ls st) :=
  sb_new F (ci := 11) (C := RJ0) (T := TJ0) rfl tyJ0 tyJ0_ok (sb_lt4 rfl rfl rfl rfl) w1 w2 ti_S hK hdg hcs hss kk
theorem sb_newB (F : sb_fr p s m args meth c own bc nL rt) {index : Nat} (w1 : Cond.classLink own index "java/lang/StringBuilder" ∈ lw_tbl) (hK : sb_K D cB s) (hdg : decode bc pc = .ok (.new index, 3)) (hcs : cs + 1 ≤ Rm.cells) (hss : ss + 4 ≤ Rm.slots)
    (kk : ∀ H1 : Heap, H1.size = H.size + 1 → va_P D vwCl [(H.size, .inr (12, [.null, .int 0, .int 0, .int 0]))] H1 → (∀ q, q < H.size → H1[q]? = H[q]?) → W p l e Rm s m args below meth c H1 locs (cs + 1) (ss + 4) Q (F0 m (pc + 3) ls (.ref H.size :: st))) : W p l e Rm s m args below meth c H locs cs ss Q (F0 m pc ls st) :=
  sb_new F (ci := 12) (C := RJ4) (T := TJ4) rfl tyJ4 tyJ4_ok (sb_lt4 rfl rfl rfl rfl) w1 tn_B ti_B hK hdg hcs hss kk
/-- the new object and its bytes: a string -/
theorem sv_of (F : sb_fr p s m args meth c own bc nL rt) (hK : sb_K D cB s) (hP : va_P D vwCl [(r, .inr (11, [.ref vv, .int 0, .int 0, .int 0]))] H) (hY : sb_Y cB vv n H) (hn : n ≤ 1000) : sv_S r vv n s H := by
  obtain ⟨hx, hb, hml, hr, hlocks, hts, hown⟩ := F
  have hc : vwCl[11]? = some (RJ0, TJ0, 4) := rfl
  obtain ⟨q, h1, cell, q1, q2, q3, q4⟩ := hP 0 _ rfl
  have hr2 : q = (RJ0, TJ0, 4) := Option.some.inj (h1.symm.trans hc)
  subst hr2
  obtain ⟨hS, hfc, kC, hkC, hkind⟩ := hK.1 11 _ hc
  obtain ⟨cf0, kf0, fi0, f0, i0, l0⟩ := hS 0 (by decide)
  obtain ⟨cf1, kf1, fi1, f1, i1, l1⟩ := hS 1 (by decide)
  have u1 := (am_vw hc).1
  have s0 := (u_facts hfc hkC (u_lays (fun w hw => hts w (sb_am hw)) u1 (show 0 < 4 by decide)) i0).1
  have s1 := (u_facts hfc hkC (u_lays (fun w hw => hts w (sb_am hw)) u1 (show 1 < 4 by decide)) i1).1
  obtain ⟨f, y1, y2⟩ := hY
  have nu : cell.vm ≠ .unknown := by
    rw [q3]
    exact fun h => by cases h
  have ns : cell.vm.isStatics = false := by
    rw [q3]
    rfl
  have e1 : cell.slots[f1.slot]? = some (.int 0) := by
    rw [l1]
    exact q4 1 (by decide)
  have e0 : cell.slots[f0.slot]? = some (.ref vv) := by
    rw [l0]
    exact q4 0 (by decide)
  have nc : (vp_cell cB (n, .inl f)).vm ≠ .unknown := fun h => by cases h
  refine ⟨f, hn, ⟨cell, q1, ns, by rw [q2]; exact hfc, id⟩, ⟨cf1, kf1, fi1, f1, cell, i1, s1, q1, nu, e1, id⟩, ⟨cf0, kf0, fi0, f0, cell, i0, s0, q1, nu, e0, id⟩, ⟨_, y1, (hK.2 0 _ rfl).1 n (fun j => .int (f j)), nc, ?_, ?_, fun j hj => ?_, id⟩, fun j _ => y2 j⟩
  · rw [vp_cell_i, arrV_size]
    exact Nat.le_refl _
  · rw [vp_cell_i, arrV_size]
  · rw [vp_cell_i]
    exact arrV_read _ _ hj
theorem sb_B_grow (h : sb_B D cB B0 a v n mm s H) {H1 : Heap} (o : ∀ q, q < H.size → H1[q]? = H[q]?) : sb_B D cB B0 a v n mm s H1 := by
  obtain ⟨hK, ⟨k, hO⟩, ⟨f, y1, y2⟩, b1, b2, b3, b4, b5, hX⟩ := h
  have vl : v < H.size := (Array.getElem?_eq_some_iff.mp y1).1
  exact ⟨hK, ⟨k, sb_O_ne hO (o a (sb_O_lt hO))⟩, ⟨f, (o v vl).trans y1, y2⟩, b1, b2, b3, b4, b5, sb_X_on (Vm.Alike.refl _) (fun q h1 _ => o q h1) hX⟩
end SP98u
section SP98ut
variable {l : Launch} {B0 : Nat} {D : va_G} {cB : ClassId} {a v n mm : Nat}
/-- StringBuilder.toString -/
theorem tx_tos (hn : n ≤ 1000) : sb_met l B0 yJ4_toString_0e30d cJ4_toString_0e30d 1 (some (.object "java/lang/String")) 6 2 4100 [.ref a] (fun U => sb_B D cB B0 a v n mm U U.heap) (fun x st t => ∃ r vv, x = some (.ref r) ∧ st.heap.size ≤ r ∧ st.heap.size ≤ vv ∧ sv_S r vv n t t.heap) sb_no := by
  refine sb_of (by decide) (fun p e s m below meth c F hB => ?_)
  obtain ⟨hx, hb, hml, hr, hlocks, hts, hown⟩ := id F
  obtain ⟨hK, ⟨k, hO⟩, hY, b1, b2, b3, b4, b5, hX⟩ := id hB
  have al := sb_O_lt hO
  have vl := sb_Y_lt hY
  have hl := lv_entry ([.ref a]) (n := 1) (Nat.le_of_ble_eq_true rfl)
  rw [lg_entry_eq]
  generalize (lg_sl ([.ref a]) ++ List.replicate (1 - (lg_sl ([.ref a])).length) Slot.unset).toArray = ls at hl ⊢
  have hl : lv_has ls 1 [(0, .ref a)] := hl
  refine sb_newS (cs := 0) (ss := 0) F tk_B18 tn_S hK dJ4_toString_0e30d_0 (show 0 + 1 ≤ 2 by omega) (show 0 + 4 ≤ 4100 by omega) (fun H1 z1 e1 o1 => ?_)
  refine lv_dup hx hb dJ4_toString_0e30d_3 rfl ?_
  refine lv_aload_n hx hb dJ4_toString_0e30d_4 rfl (lv_at hl 0 rfl) ?_
  have hB1 := sb_B_grow hB o1
  refine sb_callk (va_runI (As := [.ref a]) (rest := [.ref s.heap.size]) ⟨hx, hb, hml, hown, hts⟩ (tx_sI (l := l) (B0 := B0) (D := D) (cB := cB) (a := a) (v := v) (n := n) (mm := mm) (r := s.heap.size) (by omega) (by omega) (by omega)) (cwI 1 hts (sb_goodIn tc_sI) rfl rfl rfl (hts _ (sb_tb_i ti_S rfl)) (hts _ (sb_tb_i tl_B137 rfl)) (hts _ (sb_tb_i tm_sI rfl)) rfl ⟨by decide, by decide, by decide +kernel⟩ ⟨show 5 + 1 ≤ 6 by omega, by show 8 + (2 + 11) + 40 * 5 ≤ 40 * 6; omega⟩) (sb_pre (sb_pvX (Pre := fun U H => sb_B D cB B0 a v n mm U H ∧ va_P D vwCl [(s.heap.size, .inr (11, [.null, .int 0, .int 0, .int 0]))] H) (fun U V H hv q => ⟨sb_B_on hv q.1, q.2⟩)) (fun U hU hW => by rw [hU]; exact ⟨sb_B_on hW.alike hB1, e1⟩)) rfl rfl hl.1 rfl (by show 2 * 0 + (1 + 0) ≤ 8; omega) dJ4_toString_0e30d_5 ⟨show 0 + 1 + 1 ≤ 2 by omega, show 0 + 4 + 4096 ≤ 4100 by omega⟩) (fun q hq => by cases hq) ?_
  intro x st0 t locs1 e0 q1 hal z o hL
  obtain ⟨q1, q2, q3⟩ := q1
  subst q1
  rw [e0] at q2 q3
  have hS := sv_of F hK q2 q3 hn
  exact W.aret hx hb hr (Or.inl ⟨_, rfl⟩) (Or.inr ⟨_, rfl⟩) (fun t3 e3 e4 => ⟨_, rfl, ⟨_, _, rfl, Nat.le_refl _, (by omega : s.heap.size ≤ H1.size), sv_on e4.alike (by rw [e3]) (by rw [e3]) hS⟩, by rw [e3]; omega, fun y h5 _ => by rw [e3, o y (by omega) (by omega)]; exact o1 y h5⟩) hL dJ4_toString_0e30d_8
end SP98ut
