/-! text(): an overriding method called -/
section SP98r
variable {p : Program} {l : Launch} {e : Env} {Rm : Room} {s : State} {m : MethodId} {args : Array Value} {below : List Frame} {meth : Method} {c : Code} {Q : State → Prop} {H : Heap} {locs : List Loc} {cs ss pc B0 : Nat} {ls : Array Slot}
variable {own : String} {bc : ByteArray} {nL : Nat} {rt : Option FieldType}
/-- an overriding method: the reference names x, y runs -/
theorem sb_callW (F : sb_fr p s m args meth c own bc nL rt) {C : String} {x2 y2 : MethodName} {bc1 bc2 : ByteArray} {nL1 nL2 d mc ms index k b : Nat} {rt1 rt2 : Option FieldType} {As st : List Value} {Pre : State → Prop} {post : Option Value → State → State → Prop} {A : State → Nat → Prop} (hM : sb_met l B0 y2 bc2 nL2 rt2 d mc ms (.ref b :: As) Pre post A)
    (w0 : Cond.code y2 bc2 nL2 rt2 ∈ lw_tbl) (w1 : Cond.initialized y2.cls ∈ lw_tbl) (w2 : Cond.methodLink own index x2 ∈ lw_tbl) (w3 : Cond.instanceMethod y2 ∈ lw_tbl) (w4 : Cond.sameMethod x2.cls x2.cls x2.name x2.desc ∈ lw_tbl) (w5 : Cond.selects C x2 y2 ∈ lw_tbl) (w6 : Cond.instanceMethod x2 ∈ lw_tbl) (w7 : Cond.code x2 bc1 nL1 rt1 ∈ lw_tbl) (hd : x2.cls ≠ "java/lang/invoke/MethodHandle" ∧ x2.cls ≠ "java/lang/invoke/VarHandle" ∧ (parseMethodDescriptor x2.desc).map (fun d => d.parameters.length) = some k) (hk : As.length = k)
    (hrc : ∃ cell : Cell, H[b]? = some cell ∧ cell.vm.isStatics = false ∧ s.vm.findClass C = some cell.cls)
    (hdg : decode bc pc = .ok (.invokevirtual index, 3)) (hls : ls.size = nL) (hnL : nL2 ≤ 20) (hsum : (st.map fun v => v.category).sum ≤ 8) (hr1 : d + 1 ≤ Rm.frames) (hr2 : 40 * (d + 1) ≤ Rm.locals) (hcs : cs + mc ≤ Rm.cells) (hss : ss + ms ≤ Rm.slots) (hv : sb_pv Pre) (hp : ∀ U : State, U.heap = H → s.WarmedH U.vm → Pre U) (hL : ∀ q ∈ locs, B0 ≤ q.base)
    (kk : ∀ (r : Option Value) (st0 t : State) (locs1 : List Loc), st0.heap = H → post r st0 t → s.vm.Alike t.vm → H.size ≤ t.heap.size → (∀ q, q < H.size → ¬ A st0 q → t.heap[q]? = H[q]?) → (∀ q ∈ locs1, B0 ≤ q.base) → W p l e Rm s m args below meth c t.heap locs1 (cs + mc) (ss + ms) Q (F0 m (pc + 3) ls (r.toList ++ st))) : W p l e Rm s m args below meth c H locs cs ss Q (F0 m pc ls (As.reverse ++ .ref b :: st)) := by
  obtain ⟨hx, hb, hml, hr, hlocks, hts, hown⟩ := F
  have hG := sb_goodIn w0
  refine sb_callk (va_runU (C := C) (owner := x2.cls) (x := x2) (n := k) (As := As) (rest := st) ⟨hx, hb, hml, hown, hts⟩ hM ⟨⟨rfl, rfl, hr1, by show 8 + (nL2 + 11) + 40 * d ≤ _; omega, pay_in hts hG, List.mem_cons_self⟩, hts _ (sb_tb_i w0 rfl), hts _ (sb_tb_i w1 rfl), ⟨hd.1, hd.2.1⟩, fun sig h => ?_, hts _ (sb_tb_i w2 rfl), hts _ (sb_tb_i w4 rfl), va_Decl.of (hts _ (sb_tb_i w6 rfl)) (hts _ (sb_tb_i w7 rfl)), hts _ (sb_tb_i w5 rfl), hts _ (sb_tb_i w3 rfl)⟩ ⟨fun a U g mk q => ⟨q.1, hv U _ rfl rfl q.2⟩, hrc, fun U hU hW => ⟨rfl, hp U hU hW⟩⟩ rfl hk hls rfl (lv_room hsum) hdg ⟨hcs, hss⟩) hL kk
  have h2 := hd.2.2
  rw [h] at h2
  simpa using h2.symm
end SP98r
