/-! text(): copyOfRange -/
theorem dJ7_copyOfRange_39247_0 : decode cJ7_copyOfRange_39247 0 = .ok (.iload_n 1, 1) := by decide +kernel
theorem dJ7_copyOfRange_39247_1 : decode cJ7_copyOfRange_39247 1 = .ok (.ifCond .ne 9, 3) := by decide +kernel
theorem dJ7_copyOfRange_39247_4 : decode cJ7_copyOfRange_39247 4 = .ok (.iload_n 2, 1) := by decide +kernel
theorem dJ7_copyOfRange_39247_5 : decode cJ7_copyOfRange_39247 5 = .ok (.aload_n 0, 1) := by decide +kernel
theorem dJ7_copyOfRange_39247_6 : decode cJ7_copyOfRange_39247 6 = .ok (.arraylength, 1) := by decide +kernel
theorem dJ7_copyOfRange_39247_7 : decode cJ7_copyOfRange_39247 7 = .ok (.if_icmp .eq 10, 3) := by decide +kernel
theorem dJ7_copyOfRange_39247_10 : decode cJ7_copyOfRange_39247 10 = .ok (.aload_n 0, 1) := by decide +kernel
theorem dJ7_copyOfRange_39247_11 : decode cJ7_copyOfRange_39247 11 = .ok (.iload_n 1, 1) := by decide +kernel
theorem dJ7_copyOfRange_39247_12 : decode cJ7_copyOfRange_39247 12 = .ok (.iload_n 2, 1) := by decide +kernel
theorem dJ7_copyOfRange_39247_13 : decode cJ7_copyOfRange_39247 13 = .ok (.invokestatic 339, 3) := by decide +kernel
theorem dJ7_copyOfRange_39247_16 : decode cJ7_copyOfRange_39247 16 = .ok (.areturn, 1) := by decide +kernel
theorem dJ7_copyOfRange_39247_17 : decode cJ7_copyOfRange_39247 17 = .ok (.aload_n 0, 1) := by decide +kernel
theorem dJ7_copyOfRange_39247_18 : decode cJ7_copyOfRange_39247 18 = .ok (.invokevirtual 310, 3) := by decide +kernel
theorem dJ7_copyOfRange_39247_21 : decode cJ7_copyOfRange_39247 21 = .ok (.checkcast 311, 3) := by decide +kernel
theorem dJ7_copyOfRange_39247_24 : decode cJ7_copyOfRange_39247 24 = .ok (.areturn, 1) := by decide +kernel
set_option maxRecDepth 1000000 in
theorem tc_cor : (Jvm.Cond.code ({ cls := "java/util/Arrays", name := "copyOfRange", desc := "([BII)[B" } : Jvm.MethodName) prog_25_method_132_code (3 : Nat) (Option.some (Jvm.ClassFile.FieldType.array Jvm.ClassFile.FieldType.byte))) ∈ lw_tbl := am_t1 (List.mem_of_getElem? (i := 1280) (by decide +kernel))
set_option maxRecDepth 1000000 in
theorem tl_AR339 : (Jvm.Cond.methodLink "java/util/Arrays" (339 : Nat) ({ cls := "java/util/Arrays", name := "copyOfRangeByte", desc := "([BII)[B" } : Jvm.MethodName)) ∈ lw_tbl := am_t1 (List.mem_of_getElem? (i := 1281) (by decide +kernel))
set_option maxRecDepth 1000000 in
theorem tS_crb : (Jvm.Cond.static ({ cls := "java/util/Arrays", name := "copyOfRangeByte", desc := "([BII)[B" } : Jvm.MethodName)) ∈ lw_tbl := am_t1 (List.mem_of_getElem? (i := 1282) (by decide +kernel))
set_option maxRecDepth 1000000 in
theorem tz_1156 : (Jvm.Cond.methodLink "java/util/Arrays" (310 : Nat) ({ cls := "[B", name := "clone", desc := "()Ljava/lang/Object;" } : Jvm.MethodName)) ∈ lw_tbl := am_t1 (List.mem_of_getElem? (i := 1156) (by decide +kernel))
set_option maxRecDepth 1000000 in
theorem tz_1157 : (Jvm.Cond.sameMethod "[B" "java/lang/Object" "clone" "()Ljava/lang/Object;") ∈ lw_tbl := am_t1 (List.mem_of_getElem? (i := 1157) (by decide +kernel))
set_option maxRecDepth 1000000 in
theorem tz_1158 : (Jvm.Cond.native ({ cls := "java/lang/Object", name := "clone", desc := "()Ljava/lang/Object;" } : Jvm.MethodName)) ∈ lw_tbl := am_t1 (List.mem_of_getElem? (i := 1158) (by decide +kernel))
set_option maxRecDepth 1000000 in
theorem tz_1159 : (Jvm.Cond.instanceMethod ({ cls := "java/lang/Object", name := "clone", desc := "()Ljava/lang/Object;" } : Jvm.MethodName)) ∈ lw_tbl := am_t1 (List.mem_of_getElem? (i := 1159) (by decide +kernel))
set_option maxRecDepth 1000000 in
theorem tz_1160 : (Jvm.Cond.selects "[B" ({ cls := "[B", name := "clone", desc := "()Ljava/lang/Object;" } : Jvm.MethodName) ({ cls := "java/lang/Object", name := "clone", desc := "()Ljava/lang/Object;" } : Jvm.MethodName)) ∈ lw_tbl := am_t1 (List.mem_of_getElem? (i := 1160) (by decide +kernel))
set_option maxRecDepth 1000000 in
theorem tz_1162 : (Jvm.Cond.classLink "java/util/Arrays" (311 : Nat) "[B") ∈ lw_tbl := am_t1 (List.mem_of_getElem? (i := 1162) (by decide +kernel))
section SP98n0
variable {p : Program} {l : Launch} {e : Env} {R : Room} {s : State} {m : MethodId} {args : Array Value} {below : List Frame} {meth : Method} {c : Code} {H : Heap} {locs : List Loc} {cells slots pc : Nat} {Q : State → Prop} {ls : Array Slot} {rest : List Value}
variable {own : String} {bc : ByteArray} {nL : Nat} {rt : Option FieldType} {D : va_G} {cA : ClassId} {a n : Nat} {f : Nat → Int32}
/-- bytes cloned: at the heap's end -/
theorem sb_clone (F : sb_fr p s m args meth c own bc nL rt) (hls : ls.size = nL) {index : Nat} (hlink : Cond.methodLink own index ⟨"[B", "clone", "()Ljava/lang/Object;"⟩ ∈ lw_tbl) (hcl : va_Nw (.castable "[B" "java/lang/Cloneable") s) (hK : sb_K D cA s) (hc0 : H[a]? = some (vp_cell cA (n, .inl f))) (hf : ∀ j, fits .byte (.int (f j)) = true)
    (hframes : 1 ≤ R.frames) (hlocals : (rest.map fun v => v.category).sum + 14 ≤ R.locals) (hcells : cells + 1 ≤ R.cells) (hslots : slots + n ≤ R.slots) (hdg : decode bc pc = .ok (.invokevirtual index, 3))
    (kk : ∀ (H1 : Heap), H1.size = H.size + 1 → H1[H.size]? = some (vp_cell cA (n, .inl f)) → (∀ q, q < H.size → H1[q]? = H[q]?) → W p l e R s m args below meth c H1 locs (cells + 1) (slots + n) Q (F0 m (pc + 3) ls (.ref H.size :: rest))) : W p l e R s m args below meth c H locs cells slots Q (F0 m pc ls (.ref a :: rest)) := by
  obtain ⟨hexec, hb, hml0, hr, hlocks, hts, hown⟩ := F
  have hml : c.maxLocals = ls.size := hml0.trans hls.symm
  have hlink := hts _ (sb_tb_i hlink rfl)
  have hsame := hts _ (sb_tb_i tz_1157 rfl)
  have hnat := hts _ (sb_tb_i tz_1158 rfl)
  have hinst := hts _ (sb_tb_i tz_1159 rfl)
  have hsel := hts _ (sb_tb_i tz_1160 rfl)
  have hnm : s.vm.findClass "[B" = some cA := (hK.2 0 _ rfl).2
  obtain ⟨x, hxe⟩ : ∃ x : vp_A, x = (n, .inl f) := ⟨_, rfl⟩
  have hfit : ∀ (i : Nat) (v : Value), (vp_cell cA x).slots[i]? = some v → fits .byte v = true := fun i v hv => by
    rw [hxe] at hv
    have hi : i < n := by
      have := (Array.getElem?_eq_some_iff.mp hv).1
      rw [show (vp_cell cA (n, .inl f)).slots.size = n from arrV_size _ _ _] at this
      exact this
    have z : (vp_cell cA (n, .inl f)).slots[i]? = some (.int (f i)) := arrV_read _ _ hi
    rw [z] at hv
    cases hv
    exact hf i
  have hn : n = x.1 := by rw [hxe]
  rw [← hxe] at hc0 kk
  rw [hn] at hslots kk
  clear hn hxe
  have hsz : (vp_cell cA x).slots.size = x.1 := by
    obtain ⟨n, f | f | f | f | f⟩ := x <;> exact arrV_size _ _ _
  have hvm0 : (vp_cell cA x).vm = .none := by
    obtain ⟨n, f | f | f | f | f⟩ := x <;> rfl
  have hcl0 : (vp_cell cA x).cls = cA := by
    obtain ⟨n, f | f | f | f | f⟩ := x <;> rfl
  have hcellE : ({ cls := (vp_cell cA x).cls, slots := (vp_cell cA x).slots } : Cell) = vp_cell cA x := by
    obtain ⟨n, f | f | f | f | f⟩ := x <;> rfl
  obtain ⟨c0, t0', f1, f2, f3⟩ := Cond.castable_spec (va_Nw.use (A := args) rfl hcl)
  cases hnm.symm.trans f1
  intro T hT X
  have hcellT : T.heap[a]? = some (vp_cell cA x) := by rw [hT]; exact hc0
  obtain ⟨-, kA, hkA, comp, hkind⟩ := State.isArrayOf_alike X.warmed.alike ((hK.2 0 _ rfl).1 0 (fun _ => .null))
  obtain ⟨-, kS, hkS, compS, hkindS⟩ := (hK.2 0 _ rfl).1 0 (fun _ => .null)
  obtain ⟨vm', X', st⟩ := X.cloneArray hexec hown hlink hsame hnat hinst hsel (a := a) (cell := vp_cell cA x) hcellT (fun k h => by rw [hvm0] at h; cases h) (by rw [hvm0]; exact fun h => by cases h) (by rw [hcl0]; exact hnm) f2 (by rw [hcl0]; exact f3)
    (fun i v hv => by
      rw [hcl0]
      have hk' : T.vm.classes[cA]? = some kA := hkA
      simpa [State.fitsSlot, State.slotType?, hk', hkind] using hfit i v hv)
    (g := F0 m pc ls (.ref a :: rest)) rfl (by rw [hml]) rfl (by rw [hb]; exact hdg) hframes (by show 2 * 0 + _ + 14 ≤ _; omega) hcells (by rw [hsz]; exact hslots) (hloader := by rw [hcl0]; exact Vm.clonesLoader_of_array hkS hkindS)
  rw [hcellE, hsz] at X'
  generalize hH1 : H.push (vp_cell cA x) = H1
  have z1 : H1.size = H.size + 1 := by rw [← hH1, Array.size_push]
  have e1 : H1[H.size]? = some (vp_cell cA x) := by rw [← hH1, Array.getElem?_push_size]
  have o1 : ∀ q : Nat, q < H.size → H1[q]? = H[q]? := fun q hq => by rw [← hH1, Array.getElem?_push, if_neg (Nat.ne_of_lt hq)]
  obtain ⟨t, b1, b2⟩ := kk H1 z1 e1 o1 ((T.setVm vm').pushCell (vp_cell cA x)) (by rw [← hH1, ← hT]; rfl) X'
  refine ⟨t, st t ?_, b2⟩
  rw [hcellE, hT]
  exact b1
end SP98n0
section SP98n
variable {l : Launch} {B0 : Nat} {D : va_G} {cB : ClassId} {v n mm : Nat}
/-- Arrays.copyOfRange from 0 -/
theorem tx_cor (hB0 : B0 ≤ v) (h : n ≤ mm) (hq : mm ≤ 4096) : sb_met l B0 yJ7_copyOfRange_39247 cJ7_copyOfRange_39247 3 (some (.array .byte)) 3 1 4096 [.ref v, .int 0, .int (nI n)] (fun U => sb_K D cB U ∧ sb_Y cB v mm U.heap ∧ sb_X B0 U U.heap) (fun x st t => x = some (.ref st.heap.size) ∧ sb_Y cB st.heap.size n t.heap) sb_no := by
  refine sb_of (by decide) (fun p e s m below meth c F hP => ?_)
  obtain ⟨hx, hb, hml, hr, hlocks, hts, hown⟩ := id F
  obtain ⟨hK, hY, hX⟩ := hP
  obtain ⟨f, y1, y2⟩ := id hY
  have hvl : v < s.heap.size := (Array.getElem?_eq_some_iff.mp y1).1
  have hl := lv_entry ([.ref v, .int 0, .int (nI n)]) (n := 3) (Nat.le_of_ble_eq_true rfl)
  rw [lg_entry_eq]
  generalize (lg_sl ([.ref v, .int 0, .int (nI n)]) ++ List.replicate (3 - (lg_sl ([.ref v, .int 0, .int (nI n)])).length) Slot.unset).toArray = ls at hl ⊢
  have hl : lv_has ls 3 [(0, .ref v), (1, .int 0), (2, .int (nI n))] := hl
  refine lv_iload_n hx hb dJ7_copyOfRange_39247_0 rfl (lv_at hl 1 rfl) ?_
  refine lv_if_ne (tgt := 10) hx hb dJ7_copyOfRange_39247_1 rfl (fun w => absurd rfl w) (fun _ => ?_)
  refine lv_iload_n hx hb dJ7_copyOfRange_39247_4 rfl (lv_at hl 2 rfl) ?_
  refine lv_aload_n hx hb dJ7_copyOfRange_39247_5 rfl (lv_at hl 0 rfl) ?_
  refine sb_yl F hK hY dJ7_copyOfRange_39247_6 ?_
  refine lv_icmp_eq (tgt := 17) hx hb dJ7_copyOfRange_39247_7 rfl (fun w => ?_) (fun w => ?_)
  · have e : n = mm := (nI_eq (by omega) (by omega)).mp w
    subst e
    refine lv_aload_n hx hb dJ7_copyOfRange_39247_17 rfl (lv_at hl 0 rfl) ?_
    refine sb_clone (R := sb_room 3 1 4096) (rest := []) F hl.1 tz_1156 hX.2.2 hK y1 y2 (show 1 ≤ 3 by omega) (show 0 + 14 ≤ 120 by omega) (show 0 + 1 ≤ 1 by omega) (show 0 + n ≤ 4096 by omega) dJ7_copyOfRange_39247_18 (fun H1 z1 e1 o1 => ?_)
    have ew : ∀ (k : Nat) (x : Nat × va_E), ([(s.heap.size, .inl (cB, n, .inl f))] : va_W)[k]? = some x → k = 0 ∧ x = (s.heap.size, .inl (cB, n, .inl f)) := fun k x hk => by
      match k, hk with
      | 0, hk => cases hk; exact ⟨rfl, rfl⟩
      | k + 1, hk => cases hk
    have hP1 : va_P D vwCl [(s.heap.size, .inl (cB, n, .inl f))] H1 := fun k x hk => by
      obtain ⟨_, rfl⟩ := ew k x hk
      exact e1
    refine va_castA hx hb hown (hts _ (sb_tb_i tz_1162 rfl)) hP1 0 rfl (hK.2 0 _ rfl).2 dJ7_copyOfRange_39247_21 ?_
    refine W.widen (k := 1) (n := 4096) (show 0 + 1 ≤ 1 by omega) (show 0 + n ≤ 4096 by omega) ?_
    exact W.aret hx hb hr (Or.inr ⟨_, rfl⟩) (Or.inr ⟨_, rfl⟩) (fun t e2 e3 => ⟨_, rfl, ⟨rfl, by rw [e2]; exact ⟨f, e1, y2⟩⟩, by rw [e2]; omega, fun q h1 _ => by rw [e2]; exact o1 q h1⟩) (fun q hq => by cases hq) dJ7_copyOfRange_39247_24
  · have hne : ¬ n = mm := fun e => w (by rw [e])
    refine lv_aload_n hx hb dJ7_copyOfRange_39247_10 rfl (lv_at hl 0 rfl) ?_
    refine lv_iload_n hx hb dJ7_copyOfRange_39247_11 rfl (lv_at hl 1 rfl) ?_
    refine lv_iload_n hx hb dJ7_copyOfRange_39247_12 rfl (lv_at hl 2 rfl) ?_
    refine sb_callS (B0 := B0) (As := [.ref v, .int 0, .int (nI n)]) (st := []) (k := 3) (d := 2) (mc := 1) (ms := 4096) (Rm := sb_room 3 1 4096) (cs := 0) (ss := 0) F (tx_crb (D := D) (cB := cB) hB0 (show n < mm by omega) hq) tc_crb ti_AR tl_AR339 tS_crb ⟨by decide, by decide, by decide +kernel⟩ rfl dJ7_copyOfRange_39247_13 hl.1 (by decide) (show 0 ≤ 8 by omega) (show 2 + 1 ≤ 3 by omega) (show 40 * (2 + 1) ≤ 40 * 3 by omega) (show 0 + 1 ≤ 1 by omega) (show 0 + 4096 ≤ 4096 by omega) (sb_pvX (Pre := fun U H => sb_K D cB U ∧ sb_Y cB v mm H) (fun U V H hv q => ⟨q.1.moved hv, q.2⟩)) (fun U hU hW => by rw [hU]; exact ⟨hK.moved hW.alike, hY⟩) (fun q hq => by cases hq) ?_
    intro x st0 t locs1 e0 q1 hal z o hL
    obtain ⟨q1, q2⟩ := q1
    subst q1
    rw [e0] at q2 ⊢
    exact W.aret hx hb hr (Or.inr ⟨_, rfl⟩) (Or.inr ⟨_, rfl⟩) (fun t2 e1 e2 => ⟨_, rfl, ⟨rfl, by rw [e1]; exact q2⟩, by rw [e1]; exact z, fun y h5 _ => by rw [e1]; exact o y h5 (fun w => w)⟩) hL dJ7_copyOfRange_39247_16
end SP98n
