/-! text(): the frame of the walks; the law's small helpers -/
/-- which of the builder's superclass's private methods is selected -/
def sb_sels : List Cond := [Cond.selects "java/lang/StringBuilder" yJ5_ensureCapacityInternal_d00df yJ5_ensureCapacityInternal_d00df, Cond.selects "java/lang/StringBuilder" yJ5_newCapacity_0f7a4 yJ5_newCapacity_0f7a4, Cond.selects "java/lang/StringBuilder" yJ5_putStringAt_47b60 yJ5_putStringAt_47b60, Cond.selects "java/lang/StringBuilder" yJ5_inflateIfNeededFor_a7421 yJ5_inflateIfNeededFor_a7421]
def sb_tb : List Cond := sb_sels ++ am_tb
theorem sb_am {w : Cond} (h : w ∈ am_tb) : w ∈ sb_tb := List.mem_append_right _ h
theorem sb_tb_i {w : Cond} (h : w ∈ lw_tbl) (hg : goodWord w = true) : w ∈ sb_tb := sb_am (am_tb_i h hg)
def sb_ws (y : MethodName) (bc : ByteArray) (nL : Nat) (rt : Option FieldType) : List Cond := Cond.code y bc nL rt :: sb_tb
def sb_room (d mc ms : Nat) : Room := { frames := d, cells := mc, slots := ms, locals := 40 * d }
def sb_Q (post : Option Value → State → State → Prop) (A : State → Nat → Prop) : Array Value → State → Outcome → State → Prop := fun _ st o t => ∃ r, o = .returned r ∧ post r st t ∧ va_F (A st) st t
/-- a contract: arguments, what is found, what is answered and left, which old cells may change -/
def sb_met (l : Launch) (B0 : Nat) (y : MethodName) (bc : ByteArray) (nL : Nat) (rt : Option FieldType) (d mc ms : Nat) (av : List Value) (Pre : State → Prop) (post : Option Value → State → State → Prop) (A : State → Nat → Prop) : Prop := Met l y (sb_ws y bc nL rt) (sb_room d mc ms) (va_Pc av Pre) (sb_Q post A) mc ms (cm_A B0)
/-- no old cell changes -/
def sb_no : State → Nat → Prop := fun _ _ => False
def sb_fr (p : Program) (s : State) (m : MethodId) (args : Array Value) (meth : Method) (c : Code) (own : String) (bc : ByteArray) (nL : Nat) (rt : Option FieldType) : Prop :=
  p.tables.exec = Jvm.exec ∧ c.code = bc ∧ c.maxLocals = nL ∧ meth.sig.returnType = rt ∧ meth.locks = false ∧ (∀ w ∈ sb_tb, w.before args s = true) ∧ s.vm.findClass own = some m.cls
/-- what is found stays found: it is of the tables and the heap -/
def sb_pv (Pre : State → Prop) : Prop := ∀ U V : State, V.vm = U.vm → V.heap = U.heap → Pre U → Pre V
theorem sb_sgood : ∀ w ∈ sb_sels, goodWord w = true := fun w hw => by
  simp only [sb_sels, List.mem_cons, List.not_mem_nil, or_false] at hw
  rcases hw with e | e | e | e <;> subst e <;> rfl
theorem sb_goodIn {y2 : MethodName} {bc2 : ByteArray} {nL2 : Nat} {rt : Option FieldType} (h : Cond.code y2 bc2 nL2 rt ∈ lw_tbl) : GoodIn sb_tb (sb_ws y2 bc2 nL2 rt) := by
  have all : ∀ w ∈ sb_tb, w ∈ sb_tb ∧ ((w.onTables && w.keeps) = true ∨ ∃ ty, w = .arrayClass ty) := fun w hw => ⟨hw, (List.mem_append.mp hw).elim (fun h => good_of_word (sb_sgood w h)) (fun h => good_of_word (List.mem_filter.mp h).2)⟩
  intro w hw
  rcases List.mem_cons.mp hw with e | e
  · subst e
    exact all _ (sb_tb_i h rfl)
  · exact all w e
section SP90
variable {p : Program} {l : Launch} {e : Env} {Rm : Room} {s : State} {m : MethodId} {args : Array Value} {below : List Frame} {meth : Method} {c : Code} {Q : State → Prop} {H : Heap} {locs : List Loc} {cs ss pc B0 : Nat} {ls : Array Slot}
variable {own : String} {bc : ByteArray} {nL : Nat} {rt : Option FieldType}
/-- behind a call -/
theorem sb_callk {mc ms : Nat} {post : Option Value → State → State → Prop} {A : State → Nat → Prop} {a : Array Value} {st0 rest : List Value} (hr : va_Run p l e Rm s m args below meth c H locs cs ss mc ms (F0 m pc ls st0) rest (sb_Q post A a) (cm_A B0)) (hL : ∀ q ∈ locs, B0 ≤ q.base)
    (kk : ∀ (r : Option Value) (st t : State) (locs1 : List Loc), st.heap = H → post r st t → s.vm.Alike t.vm → H.size ≤ t.heap.size → (∀ q, q < H.size → ¬ A st q → t.heap[q]? = H[q]?) → (∀ q ∈ locs1, B0 ≤ q.base) → W p l e Rm s m args below meth c t.heap locs1 (cs + mc) (ss + ms) Q (F0 m (pc + 3) ls (r.toList ++ rest))) : W p l e Rm s m args below meth c H locs cs ss Q (F0 m pc ls st0) := by
  intro T hT X
  obtain ⟨v, st₀, t, T', L, h0, X', hL2, e1, e2, ⟨r, hv, hp, hz, hk⟩, stp⟩ := hr T hT X
  cases hv
  obtain ⟨t2, a1, b1⟩ := kk v st₀ t (locs ++ L) h0 hp (by rw [← e2]; exact X'.warmed.alike) (by rw [← h0]; exact hz) (fun q h1 h2 => by rw [← h0] at h1 ⊢; exact hk q h1 h2) (fun q hq => (List.mem_append.mp hq).elim (hL q) (fun h => hL2 q h)) T' e1 X'
  exact ⟨t2, stp t2 a1, b1⟩
theorem sb_pre {vs : List Value} {Pre : State → Prop} (hv : sb_pv Pre) (hp : ∀ U : State, U.heap = H → s.WarmedH U.vm → Pre U) : PreS s H (va_Pc vs Pre) vs :=
  ⟨fun a U g mk q => ⟨q.1, hv U _ rfl rfl q.2⟩, fun U hU hW => ⟨rfl, hp U hU hW⟩⟩
/-- a static method's call -/
theorem sb_callS (F : sb_fr p s m args meth c own bc nL rt) {y2 : MethodName} {bc2 : ByteArray} {nL2 d mc ms index k : Nat} {rt2 : Option FieldType} {As st : List Value} {Pre : State → Prop} {post : Option Value → State → State → Prop} {A : State → Nat → Prop} (hM : sb_met l B0 y2 bc2 nL2 rt2 d mc ms As Pre post A)
    (w0 : Cond.code y2 bc2 nL2 rt2 ∈ lw_tbl) (w1 : Cond.initialized y2.cls ∈ lw_tbl) (w2 : Cond.methodLink own index y2 ∈ lw_tbl) (w3 : Cond.static y2 ∈ lw_tbl) (hd : y2.cls ≠ "java/lang/invoke/MethodHandle" ∧ y2.cls ≠ "java/lang/invoke/VarHandle" ∧ (parseMethodDescriptor y2.desc).map (fun d => d.parameters.length) = some k) (hk : As.length = k)
    (hdg : decode bc pc = .ok (.invokestatic index, 3)) (hls : ls.size = nL) (hnL : nL2 ≤ 20) (hsum : (st.map fun v => v.category).sum ≤ 8) (hr1 : d + 1 ≤ Rm.frames) (hr2 : 40 * (d + 1) ≤ Rm.locals) (hcs : cs + mc ≤ Rm.cells) (hss : ss + ms ≤ Rm.slots) (hv : sb_pv Pre) (hp : ∀ U : State, U.heap = H → s.WarmedH U.vm → Pre U) (hL : ∀ q ∈ locs, B0 ≤ q.base)
    (kk : ∀ (r : Option Value) (st0 t : State) (locs1 : List Loc), st0.heap = H → post r st0 t → s.vm.Alike t.vm → H.size ≤ t.heap.size → (∀ q, q < H.size → ¬ A st0 q → t.heap[q]? = H[q]?) → (∀ q ∈ locs1, B0 ≤ q.base) → W p l e Rm s m args below meth c t.heap locs1 (cs + mc) (ss + ms) Q (F0 m (pc + 3) ls (r.toList ++ st))) : W p l e Rm s m args below meth c H locs cs ss Q (F0 m pc ls (As.reverse ++ st)) := by
  obtain ⟨hx, hb, hml, hr, hlocks, hts, hown⟩ := F
  exact sb_callk (va_runS (As := As) (rest := st) ⟨hx, hb, hml, hown, hts⟩ hM ⟨callB_of k hts (sb_goodIn w0) rfl rfl rfl (hts _ (sb_tb_i w1 rfl)) (hts _ (sb_tb_i w2 rfl)) hd ⟨hr1, by show 8 + (nL2 + 11) + 40 * d ≤ _; omega⟩, hts _ (sb_tb_i w3 rfl)⟩ (sb_pre hv hp) rfl hk hls rfl (lv_room hsum) hdg ⟨hcs, hss⟩) hL kk
/-- a virtual method's call; the receiver is exactly of class C -/
theorem sb_callV (F : sb_fr p s m args meth c own bc nL rt) {C : String} {y2 : MethodName} {bc2 : ByteArray} {nL2 d mc ms index k b : Nat} {rt2 : Option FieldType} {As st : List Value} {Pre : State → Prop} {post : Option Value → State → State → Prop} {A : State → Nat → Prop} (hM : sb_met l B0 y2 bc2 nL2 rt2 d mc ms (.ref b :: As) Pre post A)
    (w0 : Cond.code y2 bc2 nL2 rt2 ∈ lw_tbl) (w1 : Cond.initialized y2.cls ∈ lw_tbl) (w2 : Cond.methodLink own index y2 ∈ lw_tbl) (w3 : Cond.instanceMethod y2 ∈ lw_tbl) (w4 : (Cond.selects C y2 y2).before args s = true) (hd : y2.cls ≠ "java/lang/invoke/MethodHandle" ∧ y2.cls ≠ "java/lang/invoke/VarHandle" ∧ (parseMethodDescriptor y2.desc).map (fun d => d.parameters.length) = some k) (hk : As.length = k)
    (hrc : ∃ cell : Cell, H[b]? = some cell ∧ cell.vm.isStatics = false ∧ s.vm.findClass C = some cell.cls)
    (hdg : decode bc pc = .ok (.invokevirtual index, 3)) (hls : ls.size = nL) (hnL : nL2 ≤ 20) (hsum : (st.map fun v => v.category).sum ≤ 8) (hr1 : d + 1 ≤ Rm.frames) (hr2 : 40 * (d + 1) ≤ Rm.locals) (hcs : cs + mc ≤ Rm.cells) (hss : ss + ms ≤ Rm.slots) (hv : sb_pv Pre) (hp : ∀ U : State, U.heap = H → s.WarmedH U.vm → Pre U) (hL : ∀ q ∈ locs, B0 ≤ q.base)
    (kk : ∀ (r : Option Value) (st0 t : State) (locs1 : List Loc), st0.heap = H → post r st0 t → s.vm.Alike t.vm → H.size ≤ t.heap.size → (∀ q, q < H.size → ¬ A st0 q → t.heap[q]? = H[q]?) → (∀ q ∈ locs1, B0 ≤ q.base) → W p l e Rm s m args below meth c t.heap locs1 (cs + mc) (ss + ms) Q (F0 m (pc + 3) ls (r.toList ++ st))) : W p l e Rm s m args below meth c H locs cs ss Q (F0 m pc ls (As.reverse ++ .ref b :: st)) := by
  obtain ⟨hx, hb, hml, hr, hlocks, hts, hown⟩ := F
  refine sb_callk (va_runV (C := C) (As := As) (rest := st) ⟨hx, hb, hml, hown, hts⟩ hM ⟨callB_of k hts (sb_goodIn w0) rfl rfl rfl (hts _ (sb_tb_i w1 rfl)) (hts _ (sb_tb_i w2 rfl)) hd ⟨hr1, by show 8 + (nL2 + 11) + 40 * d ≤ _; omega⟩, hts _ (sb_tb_i w3 rfl), w4⟩ ⟨fun a U g mk q => ⟨q.1, hv U _ rfl rfl q.2⟩, hrc, fun U hU hW => ⟨rfl, hp U hU hW⟩⟩ rfl hk hls rfl (lv_room hsum) hdg ⟨hcs, hss⟩) hL kk
/-- the start of a walk -/
theorem sb_of {l : Launch} {B0 : Nat} {y : MethodName} {bc : ByteArray} {nL : Nat} {rt : Option FieldType} {d mc ms : Nat} {av : List Value} {Pre : State → Prop} {post : Option Value → State → State → Prop} {A : State → Nat → Prop} (hy : plainName y.cls = true)
    (hw : ∀ (p : Program) (e : Env) (s : State) (m : MethodId) (below : List Frame) (meth : Method) (c : Code), sb_fr p s m av.toArray meth c y.cls bc nL rt → Pre s → W p l e (sb_room d mc ms) s m av.toArray below meth c s.heap [] 0 0 (MQ below (sb_Q post A) av.toArray s mc ms (cm_A B0)) (entryFrame m av.toArray nL)) : sb_met l B0 y bc nL rt d mc ms av Pre post A := by
  refine Met.ofW (cc := bc) (maxL := nL) (ret := rt) hy rfl ?_
  intro p e s m args2 below meth c s1 B hml hv
  obtain ⟨rfl, hp⟩ := hv
  exact hw p e s m below meth c ⟨B.exec, B.bytes, hml, B.returns, B.notSynchronized, fun w hw => atoms_spec (ws := sb_ws y bc nL rt) B.pre w (List.mem_cons_of_mem _ hw), findClass_of_methodNamed B.named⟩ hp
end SP90
