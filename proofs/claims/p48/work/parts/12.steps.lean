/-! each instruction of the small machine is one of the real one -/
/-- the tables' words that hold wherever the tables do -/
def am_tb : List Cond := lw_tbl.filter goodWord
theorem am_tb_i {w : Cond} (h : w ∈ lw_tbl) (hg : goodWord w = true) : w ∈ am_tb := List.mem_filter.mpr ⟨h, hg⟩
def am_fr (p : Program) (s : State) (m : MethodId) (args : Array Value) (meth : Method) (c : Code) (G : am_G) (y : MethodName) (bc : ByteArray) (nL : Nat) (rt : Option FieldType) (lk : List Cond) : Prop :=
  p.tables.exec = Jvm.exec ∧ c.code = bc ∧ c.maxLocals = nL ∧ meth.sig.returnType = rt ∧ meth.locks = false ∧ (∀ w ∈ am_tb, w.before args s = true) ∧ (∀ w ∈ lk, w ∈ lw_tbl) ∧ s.vm.findClass y.cls = some m.cls ∧ va_K G.2.1 vwCl (am_ty G) s ∧ am_sx G s s.heap
def am_mo (p : Program) (l : Launch) (e : Env) (Rm : Room) (s : State) (m : MethodId) (args : Array Value) (below : List Frame) (meth : Method) (c : Code) (cs ss : Nat) (Q : State → Prop) (G : am_G) (nL : Nat) (t : List am_row) : am_K :=
  fun i lo st mi ml => ∀ (ls : Array Slot) (H : Heap) (locs : List Loc), am_lv G nL lo ls → am_hp G H mi ml → va_S (am_A G) s.heap H locs → W p l e Rm s m args below meth c H locs cs ss Q (F0 m (am_pcs t i) ls (st.map (am_tv G)))
theorem am_uses {T : List Cond} {xs : List Nat} {us : List Cond} (h : xs.map (fun i => T[i]?) = us.map some) : ∀ w ∈ us, w ∈ T := by
  intro w hw
  have h1 : some w ∈ us.map some := List.mem_map.mpr ⟨w, hw, rfl⟩
  rw [← h] at h1
  obtain ⟨i, -, hi⟩ := List.mem_map.mp h1
  exact List.mem_of_getElem? hi
section AMS
variable {p : Program} {l : Launch} {e : Env} {Rm : Room} {s : State} {m : MethodId} {args : Array Value} {below : List Frame} {meth : Method} {c : Code} {cs ss : Nat} {Q : State → Prop}
variable {G : am_G} {y : MethodName} {bc : ByteArray} {nL : Nat} {rt : Option FieldType} {lk : List Cond} {t : List am_row} {Rr : am_R} {cl : am_C}
variable {i pc len k1 k2 k3 : Nat} {v : Int32} {sw : List (Int32 × Nat)} {lo : am_L} {st : List Value} {mi : am_MI} {ml : am_ML}
theorem am_s_iadd (F : am_fr p s m args meth c G y bc nL rt lk)  (hc : am_chk y bc nL rt lk t i (pc, .iadd, len, k1, k2, k3, v, sw) = true) (hi : am_pcs t i = pc) (h : am_b2 (am_mo p l e Rm s m args below meth c cs ss Q G nL t) i lo st mi ml (fun x y => x + y)) : (am_mo p l e Rm s m args below meth c cs ss Q G nL t) i lo st mi ml := by
  obtain ⟨hx, hb, hml, hr, hlocks, hts, hlk, hown, hK, hX⟩ := F
  have hc : (decide (decode bc pc = .ok (.iadd, len)) && (len == 1 && am_pcs t (i + 1) == pc + 1)) = true := hc
  simp only [Bool.and_eq_true, decide_eq_true_eq, beq_iff_eq] at hc
  obtain ⟨hd, hl, hn⟩ := hc
  subst hl
  unfold am_b2 at h
  split at h
  · intro ls H locs g1 g2 g3
    have z := h ls H locs g1 g2 g3
    rw [hn] at z
    rw [hi]
    exact lv_iadd hx hb hd z
  · exact h.elim
theorem am_s_isub (F : am_fr p s m args meth c G y bc nL rt lk)  (hc : am_chk y bc nL rt lk t i (pc, .isub, len, k1, k2, k3, v, sw) = true) (hi : am_pcs t i = pc) (h : am_b2 (am_mo p l e Rm s m args below meth c cs ss Q G nL t) i lo st mi ml (fun x y => x - y)) : (am_mo p l e Rm s m args below meth c cs ss Q G nL t) i lo st mi ml := by
  obtain ⟨hx, hb, hml, hr, hlocks, hts, hlk, hown, hK, hX⟩ := F
  have hc : (decide (decode bc pc = .ok (.isub, len)) && (len == 1 && am_pcs t (i + 1) == pc + 1)) = true := hc
  simp only [Bool.and_eq_true, decide_eq_true_eq, beq_iff_eq] at hc
  obtain ⟨hd, hl, hn⟩ := hc
  subst hl
  unfold am_b2 at h
  split at h
  · intro ls H locs g1 g2 g3
    have z := h ls H locs g1 g2 g3
    rw [hn] at z
    rw [hi]
    exact lv_isub hx hb hd z
  · exact h.elim
theorem am_s_imul (F : am_fr p s m args meth c G y bc nL rt lk)  (hc : am_chk y bc nL rt lk t i (pc, .imul, len, k1, k2, k3, v, sw) = true) (hi : am_pcs t i = pc) (h : am_b2 (am_mo p l e Rm s m args below meth c cs ss Q G nL t) i lo st mi ml (fun x y => x * y)) : (am_mo p l e Rm s m args below meth c cs ss Q G nL t) i lo st mi ml := by
  obtain ⟨hx, hb, hml, hr, hlocks, hts, hlk, hown, hK, hX⟩ := F
  have hc : (decide (decode bc pc = .ok (.imul, len)) && (len == 1 && am_pcs t (i + 1) == pc + 1)) = true := hc
  simp only [Bool.and_eq_true, decide_eq_true_eq, beq_iff_eq] at hc
  obtain ⟨hd, hl, hn⟩ := hc
  subst hl
  unfold am_b2 at h
  split at h
  · intro ls H locs g1 g2 g3
    have z := h ls H locs g1 g2 g3
    rw [hn] at z
    rw [hi]
    exact lv_imul hx hb hd z
  · exact h.elim
theorem am_s_iand (F : am_fr p s m args meth c G y bc nL rt lk)  (hc : am_chk y bc nL rt lk t i (pc, .iand, len, k1, k2, k3, v, sw) = true) (hi : am_pcs t i = pc) (h : am_b2 (am_mo p l e Rm s m args below meth c cs ss Q G nL t) i lo st mi ml (fun x y => x &&& y)) : (am_mo p l e Rm s m args below meth c cs ss Q G nL t) i lo st mi ml := by
  obtain ⟨hx, hb, hml, hr, hlocks, hts, hlk, hown, hK, hX⟩ := F
  have hc : (decide (decode bc pc = .ok (.iand, len)) && (len == 1 && am_pcs t (i + 1) == pc + 1)) = true := hc
  simp only [Bool.and_eq_true, decide_eq_true_eq, beq_iff_eq] at hc
  obtain ⟨hd, hl, hn⟩ := hc
  subst hl
  unfold am_b2 at h
  split at h
  · intro ls H locs g1 g2 g3
    have z := h ls H locs g1 g2 g3
    rw [hn] at z
    rw [hi]
    exact lv_iand hx hb hd z
  · exact h.elim
theorem am_s_ior (F : am_fr p s m args meth c G y bc nL rt lk)  (hc : am_chk y bc nL rt lk t i (pc, .ior, len, k1, k2, k3, v, sw) = true) (hi : am_pcs t i = pc) (h : am_b2 (am_mo p l e Rm s m args below meth c cs ss Q G nL t) i lo st mi ml (fun x y => x ||| y)) : (am_mo p l e Rm s m args below meth c cs ss Q G nL t) i lo st mi ml := by
  obtain ⟨hx, hb, hml, hr, hlocks, hts, hlk, hown, hK, hX⟩ := F
  have hc : (decide (decode bc pc = .ok (.ior, len)) && (len == 1 && am_pcs t (i + 1) == pc + 1)) = true := hc
  simp only [Bool.and_eq_true, decide_eq_true_eq, beq_iff_eq] at hc
  obtain ⟨hd, hl, hn⟩ := hc
  subst hl
  unfold am_b2 at h
  split at h
  · intro ls H locs g1 g2 g3
    have z := h ls H locs g1 g2 g3
    rw [hn] at z
    rw [hi]
    exact lv_ior hx hb hd z
  · exact h.elim
theorem am_s_ixor (F : am_fr p s m args meth c G y bc nL rt lk)  (hc : am_chk y bc nL rt lk t i (pc, .ixor, len, k1, k2, k3, v, sw) = true) (hi : am_pcs t i = pc) (h : am_b2 (am_mo p l e Rm s m args below meth c cs ss Q G nL t) i lo st mi ml (fun x y => x ^^^ y)) : (am_mo p l e Rm s m args below meth c cs ss Q G nL t) i lo st mi ml := by
  obtain ⟨hx, hb, hml, hr, hlocks, hts, hlk, hown, hK, hX⟩ := F
  have hc : (decide (decode bc pc = .ok (.ixor, len)) && (len == 1 && am_pcs t (i + 1) == pc + 1)) = true := hc
  simp only [Bool.and_eq_true, decide_eq_true_eq, beq_iff_eq] at hc
  obtain ⟨hd, hl, hn⟩ := hc
  subst hl
  unfold am_b2 at h
  split at h
  · intro ls H locs g1 g2 g3
    have z := h ls H locs g1 g2 g3
    rw [hn] at z
    rw [hi]
    exact lv_ixor hx hb hd z
  · exact h.elim
theorem am_s_ishl (F : am_fr p s m args meth c G y bc nL rt lk)  (hc : am_chk y bc nL rt lk t i (pc, .ishl, len, k1, k2, k3, v, sw) = true) (hi : am_pcs t i = pc) (h : am_b2 (am_mo p l e Rm s m args below meth c cs ss Q G nL t) i lo st mi ml (am_shl)) : (am_mo p l e Rm s m args below meth c cs ss Q G nL t) i lo st mi ml := by
  obtain ⟨hx, hb, hml, hr, hlocks, hts, hlk, hown, hK, hX⟩ := F
  have hc : (decide (decode bc pc = .ok (.ishl, len)) && (len == 1 && am_pcs t (i + 1) == pc + 1)) = true := hc
  simp only [Bool.and_eq_true, decide_eq_true_eq, beq_iff_eq] at hc
  obtain ⟨hd, hl, hn⟩ := hc
  subst hl
  unfold am_b2 at h
  split at h
  · intro ls H locs g1 g2 g3
    have z := h ls H locs g1 g2 g3
    rw [hn] at z
    rw [hi]
    exact lv_ishl hx hb hd z
  · exact h.elim
theorem am_s_ishr (F : am_fr p s m args meth c G y bc nL rt lk)  (hc : am_chk y bc nL rt lk t i (pc, .ishr, len, k1, k2, k3, v, sw) = true) (hi : am_pcs t i = pc) (h : am_b2 (am_mo p l e Rm s m args below meth c cs ss Q G nL t) i lo st mi ml (am_shr)) : (am_mo p l e Rm s m args below meth c cs ss Q G nL t) i lo st mi ml := by
  obtain ⟨hx, hb, hml, hr, hlocks, hts, hlk, hown, hK, hX⟩ := F
  have hc : (decide (decode bc pc = .ok (.ishr, len)) && (len == 1 && am_pcs t (i + 1) == pc + 1)) = true := hc
  simp only [Bool.and_eq_true, decide_eq_true_eq, beq_iff_eq] at hc
  obtain ⟨hd, hl, hn⟩ := hc
  subst hl
  unfold am_b2 at h
  split at h
  · intro ls H locs g1 g2 g3
    have z := h ls H locs g1 g2 g3
    rw [hn] at z
    rw [hi]
    exact lv_ishr hx hb hd z
  · exact h.elim
theorem am_s_iushr (F : am_fr p s m args meth c G y bc nL rt lk)  (hc : am_chk y bc nL rt lk t i (pc, .iushr, len, k1, k2, k3, v, sw) = true) (hi : am_pcs t i = pc) (h : am_b2 (am_mo p l e Rm s m args below meth c cs ss Q G nL t) i lo st mi ml am_ushr) : (am_mo p l e Rm s m args below meth c cs ss Q G nL t) i lo st mi ml := by
  obtain ⟨hx, hb, hml, hr, hlocks, hts, hlk, hown, hK, hX⟩ := F
  have hc : (decide (decode bc pc = .ok (.iushr, len)) && (len == 1 && am_pcs t (i + 1) == pc + 1)) = true := hc
  simp only [Bool.and_eq_true, decide_eq_true_eq, beq_iff_eq] at hc
  obtain ⟨hd, hl, hn⟩ := hc
  subst hl
  unfold am_b2 at h
  split at h
  · intro ls H locs g1 g2 g3
    have z := h ls H locs g1 g2 g3
    rw [hn] at z
    rw [hi]
    exact lv_iushr hx hb hd rfl z
  · exact h.elim
theorem am_s_ladd (F : am_fr p s m args meth c G y bc nL rt lk)  (hc : am_chk y bc nL rt lk t i (pc, .ladd, len, k1, k2, k3, v, sw) = true) (hi : am_pcs t i = pc) (h : am_j2 (am_mo p l e Rm s m args below meth c cs ss Q G nL t) i lo st mi ml (fun x y => x + y)) : (am_mo p l e Rm s m args below meth c cs ss Q G nL t) i lo st mi ml := by
  obtain ⟨hx, hb, hml, hr, hlocks, hts, hlk, hown, hK, hX⟩ := F
  have hc : (decide (decode bc pc = .ok (.ladd, len)) && (len == 1 && am_pcs t (i + 1) == pc + 1)) = true := hc
  simp only [Bool.and_eq_true, decide_eq_true_eq, beq_iff_eq] at hc
  obtain ⟨hd, hl, hn⟩ := hc
  subst hl
  unfold am_j2 at h
  split at h
  · intro ls H locs g1 g2 g3
    have z := h ls H locs g1 g2 g3
    rw [hn] at z
    rw [hi]
    exact lv_ladd hx hb hd z
  · exact h.elim
theorem am_s_lmul (F : am_fr p s m args meth c G y bc nL rt lk)  (hc : am_chk y bc nL rt lk t i (pc, .lmul, len, k1, k2, k3, v, sw) = true) (hi : am_pcs t i = pc) (h : am_j2 (am_mo p l e Rm s m args below meth c cs ss Q G nL t) i lo st mi ml (fun x y => x * y)) : (am_mo p l e Rm s m args below meth c cs ss Q G nL t) i lo st mi ml := by
  obtain ⟨hx, hb, hml, hr, hlocks, hts, hlk, hown, hK, hX⟩ := F
  have hc : (decide (decode bc pc = .ok (.lmul, len)) && (len == 1 && am_pcs t (i + 1) == pc + 1)) = true := hc
  simp only [Bool.and_eq_true, decide_eq_true_eq, beq_iff_eq] at hc
  obtain ⟨hd, hl, hn⟩ := hc
  subst hl
  unfold am_j2 at h
  split at h
  · intro ls H locs g1 g2 g3
    have z := h ls H locs g1 g2 g3
    rw [hn] at z
    rw [hi]
    exact lv_lmul hx hb hd z
  · exact h.elim
theorem am_s_land (F : am_fr p s m args meth c G y bc nL rt lk)  (hc : am_chk y bc nL rt lk t i (pc, .land, len, k1, k2, k3, v, sw) = true) (hi : am_pcs t i = pc) (h : am_j2 (am_mo p l e Rm s m args below meth c cs ss Q G nL t) i lo st mi ml (fun x y => x &&& y)) : (am_mo p l e Rm s m args below meth c cs ss Q G nL t) i lo st mi ml := by
  obtain ⟨hx, hb, hml, hr, hlocks, hts, hlk, hown, hK, hX⟩ := F
  have hc : (decide (decode bc pc = .ok (.land, len)) && (len == 1 && am_pcs t (i + 1) == pc + 1)) = true := hc
  simp only [Bool.and_eq_true, decide_eq_true_eq, beq_iff_eq] at hc
  obtain ⟨hd, hl, hn⟩ := hc
  subst hl
  unfold am_j2 at h
  split at h
  · intro ls H locs g1 g2 g3
    have z := h ls H locs g1 g2 g3
    rw [hn] at z
    rw [hi]
    exact lv_land hx hb hd z
  · exact h.elim
theorem am_s_lor (F : am_fr p s m args meth c G y bc nL rt lk)  (hc : am_chk y bc nL rt lk t i (pc, .lor, len, k1, k2, k3, v, sw) = true) (hi : am_pcs t i = pc) (h : am_j2 (am_mo p l e Rm s m args below meth c cs ss Q G nL t) i lo st mi ml (fun x y => x ||| y)) : (am_mo p l e Rm s m args below meth c cs ss Q G nL t) i lo st mi ml := by
  obtain ⟨hx, hb, hml, hr, hlocks, hts, hlk, hown, hK, hX⟩ := F
  have hc : (decide (decode bc pc = .ok (.lor, len)) && (len == 1 && am_pcs t (i + 1) == pc + 1)) = true := hc
  simp only [Bool.and_eq_true, decide_eq_true_eq, beq_iff_eq] at hc
  obtain ⟨hd, hl, hn⟩ := hc
  subst hl
  unfold am_j2 at h
  split at h
  · intro ls H locs g1 g2 g3
    have z := h ls H locs g1 g2 g3
    rw [hn] at z
    rw [hi]
    exact lv_lor hx hb hd z
  · exact h.elim
theorem am_s_ineg (F : am_fr p s m args meth c G y bc nL rt lk)  (hc : am_chk y bc nL rt lk t i (pc, .ineg, len, k1, k2, k3, v, sw) = true) (hi : am_pcs t i = pc) (h : am_u1 (am_mo p l e Rm s m args below meth c cs ss Q G nL t) i lo st mi ml (fun x => -x)) : (am_mo p l e Rm s m args below meth c cs ss Q G nL t) i lo st mi ml := by
  obtain ⟨hx, hb, hml, hr, hlocks, hts, hlk, hown, hK, hX⟩ := F
  have hc : (decide (decode bc pc = .ok (.ineg, len)) && (len == 1 && am_pcs t (i + 1) == pc + 1)) = true := hc
  simp only [Bool.and_eq_true, decide_eq_true_eq, beq_iff_eq] at hc
  obtain ⟨hd, hl, hn⟩ := hc
  subst hl
  unfold am_u1 at h
  split at h
  · intro ls H locs g1 g2 g3
    have z := h ls H locs g1 g2 g3
    rw [hn] at z
    rw [hi]
    exact lv_ineg hx hb hd z
  · exact h.elim
theorem am_s_i2b (F : am_fr p s m args meth c G y bc nL rt lk)  (hc : am_chk y bc nL rt lk t i (pc, .i2b, len, k1, k2, k3, v, sw) = true) (hi : am_pcs t i = pc) (h : am_u1 (am_mo p l e Rm s m args below meth c cs ss Q G nL t) i lo st mi ml (fun x => x.toInt8.toInt32)) : (am_mo p l e Rm s m args below meth c cs ss Q G nL t) i lo st mi ml := by
  obtain ⟨hx, hb, hml, hr, hlocks, hts, hlk, hown, hK, hX⟩ := F
  have hc : (decide (decode bc pc = .ok (.i2b, len)) && (len == 1 && am_pcs t (i + 1) == pc + 1)) = true := hc
  simp only [Bool.and_eq_true, decide_eq_true_eq, beq_iff_eq] at hc
  obtain ⟨hd, hl, hn⟩ := hc
  subst hl
  unfold am_u1 at h
  split at h
  · intro ls H locs g1 g2 g3
    have z := h ls H locs g1 g2 g3
    rw [hn] at z
    rw [hi]
    exact lv_i2b hx hb hd rfl z
  · exact h.elim
theorem am_s_i2s (F : am_fr p s m args meth c G y bc nL rt lk)  (hc : am_chk y bc nL rt lk t i (pc, .i2s, len, k1, k2, k3, v, sw) = true) (hi : am_pcs t i = pc) (h : am_u1 (am_mo p l e Rm s m args below meth c cs ss Q G nL t) i lo st mi ml (fun x => x.toInt16.toInt32)) : (am_mo p l e Rm s m args below meth c cs ss Q G nL t) i lo st mi ml := by
  obtain ⟨hx, hb, hml, hr, hlocks, hts, hlk, hown, hK, hX⟩ := F
  have hc : (decide (decode bc pc = .ok (.i2s, len)) && (len == 1 && am_pcs t (i + 1) == pc + 1)) = true := hc
  simp only [Bool.and_eq_true, decide_eq_true_eq, beq_iff_eq] at hc
  obtain ⟨hd, hl, hn⟩ := hc
  subst hl
  unfold am_u1 at h
  split at h
  · intro ls H locs g1 g2 g3
    have z := h ls H locs g1 g2 g3
    rw [hn] at z
    rw [hi]
    exact lv_i2s hx hb hd rfl z
  · exact h.elim
theorem am_s_i2c (F : am_fr p s m args meth c G y bc nL rt lk)  (hc : am_chk y bc nL rt lk t i (pc, .i2c, len, k1, k2, k3, v, sw) = true) (hi : am_pcs t i = pc) (h : am_u1 (am_mo p l e Rm s m args below meth c cs ss Q G nL t) i lo st mi ml (am_i2c)) : (am_mo p l e Rm s m args below meth c cs ss Q G nL t) i lo st mi ml := by
  obtain ⟨hx, hb, hml, hr, hlocks, hts, hlk, hown, hK, hX⟩ := F
  have hc : (decide (decode bc pc = .ok (.i2c, len)) && (len == 1 && am_pcs t (i + 1) == pc + 1)) = true := hc
  simp only [Bool.and_eq_true, decide_eq_true_eq, beq_iff_eq] at hc
  obtain ⟨hd, hl, hn⟩ := hc
  subst hl
  unfold am_u1 at h
  split at h
  · intro ls H locs g1 g2 g3
    have z := h ls H locs g1 g2 g3
    rw [hn] at z
    rw [hi]
    exact lv_i2c hx hb hd rfl z
  · exact h.elim
theorem am_s_idiv (F : am_fr p s m args meth c G y bc nL rt lk)  (hc : am_chk y bc nL rt lk t i (pc, .idiv, len, k1, k2, k3, v, sw) = true) (hi : am_pcs t i = pc) (h : am_bd (am_mo p l e Rm s m args below meth c cs ss Q G nL t) i lo st mi ml (fun x y => x / y)) : (am_mo p l e Rm s m args below meth c cs ss Q G nL t) i lo st mi ml := by
  obtain ⟨hx, hb, hml, hr, hlocks, hts, hlk, hown, hK, hX⟩ := F
  have hc : (decide (decode bc pc = .ok (.idiv, len)) && (len == 1 && am_pcs t (i + 1) == pc + 1)) = true := hc
  simp only [Bool.and_eq_true, decide_eq_true_eq, beq_iff_eq] at hc
  obtain ⟨hd, hl, hn⟩ := hc
  subst hl
  unfold am_bd at h
  split at h
  · intro ls H locs g1 g2 g3
    have z := h.2 ls H locs g1 g2 g3
    rw [hn] at z
    rw [hi]
    exact lv_idiv hx hb hd h.1 z
  · exact h.elim
theorem am_s_irem (F : am_fr p s m args meth c G y bc nL rt lk)  (hc : am_chk y bc nL rt lk t i (pc, .irem, len, k1, k2, k3, v, sw) = true) (hi : am_pcs t i = pc) (h : am_bd (am_mo p l e Rm s m args below meth c cs ss Q G nL t) i lo st mi ml (am_rem)) : (am_mo p l e Rm s m args below meth c cs ss Q G nL t) i lo st mi ml := by
  obtain ⟨hx, hb, hml, hr, hlocks, hts, hlk, hown, hK, hX⟩ := F
  have hc : (decide (decode bc pc = .ok (.irem, len)) && (len == 1 && am_pcs t (i + 1) == pc + 1)) = true := hc
  simp only [Bool.and_eq_true, decide_eq_true_eq, beq_iff_eq] at hc
  obtain ⟨hd, hl, hn⟩ := hc
  subst hl
  unfold am_bd at h
  split at h
  · intro ls H locs g1 g2 g3
    have z := h.2 ls H locs g1 g2 g3
    rw [hn] at z
    rw [hi]
    exact lv_irem hx hb hd h.1 z
  · exact h.elim
theorem am_s_i2l (F : am_fr p s m args meth c G y bc nL rt lk)  (hc : am_chk y bc nL rt lk t i (pc, .i2l, len, k1, k2, k3, v, sw) = true) (hi : am_pcs t i = pc) (h : am_st cl (am_mo p l e Rm s m args below meth c cs ss Q G nL t) Rr .i2l k1 k2 k3 v sw i lo st mi ml) : (am_mo p l e Rm s m args below meth c cs ss Q G nL t) i lo st mi ml := by
  obtain ⟨hx, hb, hml, hr, hlocks, hts, hlk, hown, hK, hX⟩ := F
  have hc : (decide (decode bc pc = .ok (.i2l, len)) && (len == 1 && am_pcs t (i + 1) == pc + 1)) = true := hc
  simp only [Bool.and_eq_true, decide_eq_true_eq, beq_iff_eq] at hc
  obtain ⟨hd, hl, hn⟩ := hc
  subst hl
  simp only [am_st] at h
  split at h
  · intro ls H locs g1 g2 g3
    have z := h ls H locs g1 g2 g3
    rw [hn] at z
    rw [hi]
    exact lv_i2l hx hb hd rfl z
  · exact h.elim
theorem am_s_l2i (F : am_fr p s m args meth c G y bc nL rt lk)  (hc : am_chk y bc nL rt lk t i (pc, .l2i, len, k1, k2, k3, v, sw) = true) (hi : am_pcs t i = pc) (h : am_st cl (am_mo p l e Rm s m args below meth c cs ss Q G nL t) Rr .l2i k1 k2 k3 v sw i lo st mi ml) : (am_mo p l e Rm s m args below meth c cs ss Q G nL t) i lo st mi ml := by
  obtain ⟨hx, hb, hml, hr, hlocks, hts, hlk, hown, hK, hX⟩ := F
  have hc : (decide (decode bc pc = .ok (.l2i, len)) && (len == 1 && am_pcs t (i + 1) == pc + 1)) = true := hc
  simp only [Bool.and_eq_true, decide_eq_true_eq, beq_iff_eq] at hc
  obtain ⟨hd, hl, hn⟩ := hc
  subst hl
  simp only [am_st] at h
  split at h
  · intro ls H locs g1 g2 g3
    have z := h ls H locs g1 g2 g3
    rw [hn] at z
    rw [hi]
    exact lv_l2i hx hb hd rfl z
  · exact h.elim
theorem am_s_lshl (F : am_fr p s m args meth c G y bc nL rt lk)  (hc : am_chk y bc nL rt lk t i (pc, .lshl, len, k1, k2, k3, v, sw) = true) (hi : am_pcs t i = pc) (h : am_st cl (am_mo p l e Rm s m args below meth c cs ss Q G nL t) Rr .lshl k1 k2 k3 v sw i lo st mi ml) : (am_mo p l e Rm s m args below meth c cs ss Q G nL t) i lo st mi ml := by
  obtain ⟨hx, hb, hml, hr, hlocks, hts, hlk, hown, hK, hX⟩ := F
  have hc : (decide (decode bc pc = .ok (.lshl, len)) && (len == 1 && am_pcs t (i + 1) == pc + 1)) = true := hc
  simp only [Bool.and_eq_true, decide_eq_true_eq, beq_iff_eq] at hc
  obtain ⟨hd, hl, hn⟩ := hc
  subst hl
  simp only [am_st] at h
  split at h
  · intro ls H locs g1 g2 g3
    have z := h ls H locs g1 g2 g3
    rw [hn] at z
    rw [hi]
    exact lv_lshl hx hb hd rfl z
  · exact h.elim
theorem am_s_lcmp (F : am_fr p s m args meth c G y bc nL rt lk)  (hc : am_chk y bc nL rt lk t i (pc, .lcmp, len, k1, k2, k3, v, sw) = true) (hi : am_pcs t i = pc) (h : am_st cl (am_mo p l e Rm s m args below meth c cs ss Q G nL t) Rr .lcmp k1 k2 k3 v sw i lo st mi ml) : (am_mo p l e Rm s m args below meth c cs ss Q G nL t) i lo st mi ml := by
  obtain ⟨hx, hb, hml, hr, hlocks, hts, hlk, hown, hK, hX⟩ := F
  have hc : (decide (decode bc pc = .ok (.lcmp, len)) && (len == 1 && am_pcs t (i + 1) == pc + 1)) = true := hc
  simp only [Bool.and_eq_true, decide_eq_true_eq, beq_iff_eq] at hc
  obtain ⟨hd, hl, hn⟩ := hc
  subst hl
  simp only [am_st] at h
  split at h
  · intro ls H locs g1 g2 g3
    have z := h ls H locs g1 g2 g3
    rw [hn] at z
    rw [hi]
    exact W.lcmp hx hb hd z
  · exact h.elim
theorem am_s_iload (F : am_fr p s m args meth c G y bc nL rt lk) {n : Nat} (hc : am_chk y bc nL rt lk t i (pc, (.iload n), len, k1, k2, k3, v, sw) = true) (hi : am_pcs t i = pc) (h : am_ldI (am_mo p l e Rm s m args below meth c cs ss Q G nL t) i lo st mi ml n) : (am_mo p l e Rm s m args below meth c cs ss Q G nL t) i lo st mi ml := by
  obtain ⟨hx, hb, hml, hr, hlocks, hts, hlk, hown, hK, hX⟩ := F
  have hc : (decide (decode bc pc = .ok (.iload n, len)) && (len == 2 && am_pcs t (i + 1) == pc + 2)) = true := hc
  simp only [Bool.and_eq_true, decide_eq_true_eq, beq_iff_eq] at hc
  obtain ⟨hd, hl, hn⟩ := hc
  subst hl
  unfold am_ldI at h
  split at h
  · rename_i x hg
    intro ls H locs g1 g2 g3
    have z := h ls H locs g1 g2 g3
    rw [hn] at z
    rw [hi]
    exact lv_iload hx hb hd (am_lv_at g1 hg) z
  · exact h.elim
theorem am_s_iload_n (F : am_fr p s m args meth c G y bc nL rt lk) {n : Fin 4} (hc : am_chk y bc nL rt lk t i (pc, (.iload_n n), len, k1, k2, k3, v, sw) = true) (hi : am_pcs t i = pc) (h : am_ldI (am_mo p l e Rm s m args below meth c cs ss Q G nL t) i lo st mi ml n) : (am_mo p l e Rm s m args below meth c cs ss Q G nL t) i lo st mi ml := by
  obtain ⟨hx, hb, hml, hr, hlocks, hts, hlk, hown, hK, hX⟩ := F
  have hc : (decide (decode bc pc = .ok (.iload_n n, len)) && (len == 1 && am_pcs t (i + 1) == pc + 1)) = true := hc
  simp only [Bool.and_eq_true, decide_eq_true_eq, beq_iff_eq] at hc
  obtain ⟨hd, hl, hn⟩ := hc
  subst hl
  unfold am_ldI at h
  split at h
  · rename_i x hg
    intro ls H locs g1 g2 g3
    have z := h ls H locs g1 g2 g3
    rw [hn] at z
    rw [hi]
    exact lv_iload_n hx hb hd rfl (am_lv_at g1 hg) z
  · exact h.elim
theorem am_s_lload (F : am_fr p s m args meth c G y bc nL rt lk) {n : Nat} (hc : am_chk y bc nL rt lk t i (pc, (.lload n), len, k1, k2, k3, v, sw) = true) (hi : am_pcs t i = pc) (h : am_ldJ (am_mo p l e Rm s m args below meth c cs ss Q G nL t) i lo st mi ml n) : (am_mo p l e Rm s m args below meth c cs ss Q G nL t) i lo st mi ml := by
  obtain ⟨hx, hb, hml, hr, hlocks, hts, hlk, hown, hK, hX⟩ := F
  have hc : (decide (decode bc pc = .ok (.lload n, len)) && (len == 2 && am_pcs t (i + 1) == pc + 2)) = true := hc
  simp only [Bool.and_eq_true, decide_eq_true_eq, beq_iff_eq] at hc
  obtain ⟨hd, hl, hn⟩ := hc
  subst hl
  unfold am_ldJ at h
  split at h
  · rename_i x hg
    intro ls H locs g1 g2 g3
    have z := h ls H locs g1 g2 g3
    rw [hn] at z
    rw [hi]
    exact lv_lload hx hb hd (am_lv_at g1 hg) z
  · exact h.elim
theorem am_s_lload_n (F : am_fr p s m args meth c G y bc nL rt lk) {n : Fin 4} (hc : am_chk y bc nL rt lk t i (pc, (.lload_n n), len, k1, k2, k3, v, sw) = true) (hi : am_pcs t i = pc) (h : am_ldJ (am_mo p l e Rm s m args below meth c cs ss Q G nL t) i lo st mi ml n) : (am_mo p l e Rm s m args below meth c cs ss Q G nL t) i lo st mi ml := by
  obtain ⟨hx, hb, hml, hr, hlocks, hts, hlk, hown, hK, hX⟩ := F
  have hc : (decide (decode bc pc = .ok (.lload_n n, len)) && (len == 1 && am_pcs t (i + 1) == pc + 1)) = true := hc
  simp only [Bool.and_eq_true, decide_eq_true_eq, beq_iff_eq] at hc
  obtain ⟨hd, hl, hn⟩ := hc
  subst hl
  unfold am_ldJ at h
  split at h
  · rename_i x hg
    intro ls H locs g1 g2 g3
    have z := h ls H locs g1 g2 g3
    rw [hn] at z
    rw [hi]
    exact lv_lload_n hx hb hd rfl (am_lv_at g1 hg) z
  · exact h.elim
theorem am_s_aload (F : am_fr p s m args meth c G y bc nL rt lk) {n : Nat} (hc : am_chk y bc nL rt lk t i (pc, (.aload n), len, k1, k2, k3, v, sw) = true) (hi : am_pcs t i = pc) (h : am_ldA (am_mo p l e Rm s m args below meth c cs ss Q G nL t) i lo st mi ml n) : (am_mo p l e Rm s m args below meth c cs ss Q G nL t) i lo st mi ml := by
  obtain ⟨hx, hb, hml, hr, hlocks, hts, hlk, hown, hK, hX⟩ := F
  have hc : (decide (decode bc pc = .ok (.aload n, len)) && (len == 2 && am_pcs t (i + 1) == pc + 2)) = true := hc
  simp only [Bool.and_eq_true, decide_eq_true_eq, beq_iff_eq] at hc
  obtain ⟨hd, hl, hn⟩ := hc
  subst hl
  unfold am_ldA at h
  split at h
  · rename_i x hg
    intro ls H locs g1 g2 g3
    have z := h ls H locs g1 g2 g3
    rw [hn] at z
    rw [hi]
    exact lv_aload hx hb hd (am_lv_at g1 hg) z
  · exact h.elim
theorem am_s_aload_n (F : am_fr p s m args meth c G y bc nL rt lk) {n : Fin 4} (hc : am_chk y bc nL rt lk t i (pc, (.aload_n n), len, k1, k2, k3, v, sw) = true) (hi : am_pcs t i = pc) (h : am_ldA (am_mo p l e Rm s m args below meth c cs ss Q G nL t) i lo st mi ml n) : (am_mo p l e Rm s m args below meth c cs ss Q G nL t) i lo st mi ml := by
  obtain ⟨hx, hb, hml, hr, hlocks, hts, hlk, hown, hK, hX⟩ := F
  have hc : (decide (decode bc pc = .ok (.aload_n n, len)) && (len == 1 && am_pcs t (i + 1) == pc + 1)) = true := hc
  simp only [Bool.and_eq_true, decide_eq_true_eq, beq_iff_eq] at hc
  obtain ⟨hd, hl, hn⟩ := hc
  subst hl
  unfold am_ldA at h
  split at h
  · rename_i x hg
    intro ls H locs g1 g2 g3
    have z := h ls H locs g1 g2 g3
    rw [hn] at z
    rw [hi]
    exact lv_aload_n hx hb hd rfl (am_lv_at g1 hg) z
  · exact h.elim
theorem am_s_istore (F : am_fr p s m args meth c G y bc nL rt lk) {n : Nat} (hc : am_chk y bc nL rt lk t i (pc, (.istore n), len, k1, k2, k3, v, sw) = true) (hi : am_pcs t i = pc) (h : am_stI (am_mo p l e Rm s m args below meth c cs ss Q G nL t) i lo st mi ml n) : (am_mo p l e Rm s m args below meth c cs ss Q G nL t) i lo st mi ml := by
  obtain ⟨hx, hb, hml, hr, hlocks, hts, hlk, hown, hK, hX⟩ := F
  have hc : (decide (decode bc pc = .ok (.istore n, len)) && (len == 2 && am_pcs t (i + 1) == pc + 2 && decide ((n : Nat) < nL))) = true := hc
  simp only [Bool.and_eq_true, decide_eq_true_eq, beq_iff_eq] at hc
  obtain ⟨hd, ⟨hl, hn⟩, hlt⟩ := hc
  subst hl
  unfold am_stI at h
  split at h
  · intro ls H locs g1 g2 g3
    rw [hi]
    refine lv_istore hx hb hd g1 hlt rfl (fun ls2 g => ?_)
    have z := h ls2 H locs (am_lv_sub g am_s1_sub) g2 g3
    rw [hn] at z
    exact z
  · exact h.elim
theorem am_s_istore_n (F : am_fr p s m args meth c G y bc nL rt lk) {n : Fin 4} (hc : am_chk y bc nL rt lk t i (pc, (.istore_n n), len, k1, k2, k3, v, sw) = true) (hi : am_pcs t i = pc) (h : am_stI (am_mo p l e Rm s m args below meth c cs ss Q G nL t) i lo st mi ml n) : (am_mo p l e Rm s m args below meth c cs ss Q G nL t) i lo st mi ml := by
  obtain ⟨hx, hb, hml, hr, hlocks, hts, hlk, hown, hK, hX⟩ := F
  have hc : (decide (decode bc pc = .ok (.istore_n n, len)) && (len == 1 && am_pcs t (i + 1) == pc + 1 && decide ((n : Nat) < nL))) = true := hc
  simp only [Bool.and_eq_true, decide_eq_true_eq, beq_iff_eq] at hc
  obtain ⟨hd, ⟨hl, hn⟩, hlt⟩ := hc
  subst hl
  unfold am_stI at h
  split at h
  · intro ls H locs g1 g2 g3
    rw [hi]
    refine lv_istore_n hx hb hd rfl g1 hlt rfl (fun ls2 g => ?_)
    have z := h ls2 H locs (am_lv_sub g am_s1_sub) g2 g3
    rw [hn] at z
    exact z
  · exact h.elim
theorem am_s_lstore (F : am_fr p s m args meth c G y bc nL rt lk) {n : Nat} (hc : am_chk y bc nL rt lk t i (pc, (.lstore n), len, k1, k2, k3, v, sw) = true) (hi : am_pcs t i = pc) (h : am_stJ (am_mo p l e Rm s m args below meth c cs ss Q G nL t) i lo st mi ml n) : (am_mo p l e Rm s m args below meth c cs ss Q G nL t) i lo st mi ml := by
  obtain ⟨hx, hb, hml, hr, hlocks, hts, hlk, hown, hK, hX⟩ := F
  have hc : (decide (decode bc pc = .ok (.lstore n, len)) && (len == 2 && am_pcs t (i + 1) == pc + 2 && decide ((n : Nat) + 1 < nL))) = true := hc
  simp only [Bool.and_eq_true, decide_eq_true_eq, beq_iff_eq] at hc
  obtain ⟨hd, ⟨hl, hn⟩, hlt⟩ := hc
  subst hl
  unfold am_stJ at h
  split at h
  · intro ls H locs g1 g2 g3
    rw [hi]
    refine lv_lstore hx hb hd g1 hlt rfl (fun ls2 g => ?_)
    have z := h ls2 H locs (am_lv_sub g am_s2_sub) g2 g3
    rw [hn] at z
    exact z
  · exact h.elim
theorem am_s_lstore_n (F : am_fr p s m args meth c G y bc nL rt lk) {n : Fin 4} (hc : am_chk y bc nL rt lk t i (pc, (.lstore_n n), len, k1, k2, k3, v, sw) = true) (hi : am_pcs t i = pc) (h : am_stJ (am_mo p l e Rm s m args below meth c cs ss Q G nL t) i lo st mi ml n) : (am_mo p l e Rm s m args below meth c cs ss Q G nL t) i lo st mi ml := by
  obtain ⟨hx, hb, hml, hr, hlocks, hts, hlk, hown, hK, hX⟩ := F
  have hc : (decide (decode bc pc = .ok (.lstore_n n, len)) && (len == 1 && am_pcs t (i + 1) == pc + 1 && decide ((n : Nat) + 1 < nL))) = true := hc
  simp only [Bool.and_eq_true, decide_eq_true_eq, beq_iff_eq] at hc
  obtain ⟨hd, ⟨hl, hn⟩, hlt⟩ := hc
  subst hl
  unfold am_stJ at h
  split at h
  · intro ls H locs g1 g2 g3
    rw [hi]
    refine lv_lstore_n hx hb hd rfl g1 hlt rfl (fun ls2 g => ?_)
    have z := h ls2 H locs (am_lv_sub g am_s2_sub) g2 g3
    rw [hn] at z
    exact z
  · exact h.elim
theorem am_s_astore (F : am_fr p s m args meth c G y bc nL rt lk) {n : Nat} (hc : am_chk y bc nL rt lk t i (pc, (.astore n), len, k1, k2, k3, v, sw) = true) (hi : am_pcs t i = pc) (h : am_stA (am_mo p l e Rm s m args below meth c cs ss Q G nL t) i lo st mi ml n) : (am_mo p l e Rm s m args below meth c cs ss Q G nL t) i lo st mi ml := by
  obtain ⟨hx, hb, hml, hr, hlocks, hts, hlk, hown, hK, hX⟩ := F
  have hc : (decide (decode bc pc = .ok (.astore n, len)) && (len == 2 && am_pcs t (i + 1) == pc + 2 && decide ((n : Nat) < nL))) = true := hc
  simp only [Bool.and_eq_true, decide_eq_true_eq, beq_iff_eq] at hc
  obtain ⟨hd, ⟨hl, hn⟩, hlt⟩ := hc
  subst hl
  unfold am_stA at h
  split at h
  · intro ls H locs g1 g2 g3
    rw [hi]
    refine lv_astore hx hb hd g1 hlt rfl (fun ls2 g => ?_)
    have z := h ls2 H locs (am_lv_sub g am_s1_sub) g2 g3
    rw [hn] at z
    exact z
  · exact h.elim
theorem am_s_astore_n (F : am_fr p s m args meth c G y bc nL rt lk) {n : Fin 4} (hc : am_chk y bc nL rt lk t i (pc, (.astore_n n), len, k1, k2, k3, v, sw) = true) (hi : am_pcs t i = pc) (h : am_stA (am_mo p l e Rm s m args below meth c cs ss Q G nL t) i lo st mi ml n) : (am_mo p l e Rm s m args below meth c cs ss Q G nL t) i lo st mi ml := by
  obtain ⟨hx, hb, hml, hr, hlocks, hts, hlk, hown, hK, hX⟩ := F
  have hc : (decide (decode bc pc = .ok (.astore_n n, len)) && (len == 1 && am_pcs t (i + 1) == pc + 1 && decide ((n : Nat) < nL))) = true := hc
  simp only [Bool.and_eq_true, decide_eq_true_eq, beq_iff_eq] at hc
  obtain ⟨hd, ⟨hl, hn⟩, hlt⟩ := hc
  subst hl
  unfold am_stA at h
  split at h
  · intro ls H locs g1 g2 g3
    rw [hi]
    refine lv_astore_n hx hb hd rfl g1 hlt rfl (fun ls2 g => ?_)
    have z := h ls2 H locs (am_lv_sub g am_s1_sub) g2 g3
    rw [hn] at z
    exact z
  · exact h.elim
theorem am_s_iinc (F : am_fr p s m args meth c G y bc nL rt lk) {n : Nat} {w : Int} (hc : am_chk y bc nL rt lk t i (pc, (.iinc n w), len, k1, k2, k3, v, sw) = true) (hi : am_pcs t i = pc) (h : am_inc (am_mo p l e Rm s m args below meth c cs ss Q G nL t) i lo st mi ml n v) : (am_mo p l e Rm s m args below meth c cs ss Q G nL t) i lo st mi ml := by
  obtain ⟨hx, hb, hml, hr, hlocks, hts, hlk, hown, hK, hX⟩ := F
  have hc : (decide (decode bc pc = .ok (.iinc n w, len)) && (len == 3 && am_pcs t (i + 1) == pc + 3 && decide (n < nL) && decide (Int32.ofInt w = v))) = true := hc
  simp only [Bool.and_eq_true, decide_eq_true_eq, beq_iff_eq] at hc
  obtain ⟨hd, ⟨⟨hl, hn⟩, hlt⟩, hv⟩ := hc
  subst hl
  unfold am_inc at h
  split at h
  · rename_i x hg
    intro ls H locs g1 g2 g3
    rw [hi]
    obtain ⟨k, hk⟩ := List.getElem?_of_mem (am_lt_0 (G := G).mpr ⟨_, rfl, hg⟩ : (n, am_tv G (.int x)) ∈ am_lt G 0 lo)
    refine lv_iinc (v := x + v) hx hb hd g1 hk (by rw [hv]) hlt rfl (fun ls2 g => ?_)
    have z := h ls2 H locs (am_lv_sub g am_s1_sub) g2 g3
    rw [hn] at z
    exact z
  · exact h.elim
theorem am_s_iconst (F : am_fr p s m args meth c G y bc nL rt lk) {w : Int} (hc : am_chk y bc nL rt lk t i (pc, (.iconst w), len, k1, k2, k3, v, sw) = true) (hi : am_pcs t i = pc) (h : (am_mo p l e Rm s m args below meth c cs ss Q G nL t) (i + 1) lo (.int v :: st) mi ml) : (am_mo p l e Rm s m args below meth c cs ss Q G nL t) i lo st mi ml := by
  obtain ⟨hx, hb, hml, hr, hlocks, hts, hlk, hown, hK, hX⟩ := F
  have hc : (decide (decode bc pc = .ok (.iconst w, len)) && (len == 1 && am_pcs t (i + 1) == pc + 1 && decide (Int32.ofInt w = v))) = true := hc
  simp only [Bool.and_eq_true, decide_eq_true_eq, beq_iff_eq] at hc
  obtain ⟨hd, ⟨hl, hn⟩, hv⟩ := hc
  subst hl
  intro ls H locs g1 g2 g3
  have z := h ls H locs g1 g2 g3
  rw [hn] at z
  rw [hi]
  exact lv_iconst hx hb hd hv z
theorem am_s_bipush (F : am_fr p s m args meth c G y bc nL rt lk) {w : Int} (hc : am_chk y bc nL rt lk t i (pc, (.bipush w), len, k1, k2, k3, v, sw) = true) (hi : am_pcs t i = pc) (h : (am_mo p l e Rm s m args below meth c cs ss Q G nL t) (i + 1) lo (.int v :: st) mi ml) : (am_mo p l e Rm s m args below meth c cs ss Q G nL t) i lo st mi ml := by
  obtain ⟨hx, hb, hml, hr, hlocks, hts, hlk, hown, hK, hX⟩ := F
  have hc : (decide (decode bc pc = .ok (.bipush w, len)) && (len == 2 && am_pcs t (i + 1) == pc + 2 && decide ((Int8.ofInt w).toInt32 = v))) = true := hc
  simp only [Bool.and_eq_true, decide_eq_true_eq, beq_iff_eq] at hc
  obtain ⟨hd, ⟨hl, hn⟩, hv⟩ := hc
  subst hl
  intro ls H locs g1 g2 g3
  have z := h ls H locs g1 g2 g3
  rw [hn] at z
  rw [hi]
  exact lv_bipush hx hb hd hv z
theorem am_s_sipush (F : am_fr p s m args meth c G y bc nL rt lk) {w : Int} (hc : am_chk y bc nL rt lk t i (pc, (.sipush w), len, k1, k2, k3, v, sw) = true) (hi : am_pcs t i = pc) (h : (am_mo p l e Rm s m args below meth c cs ss Q G nL t) (i + 1) lo (.int v :: st) mi ml) : (am_mo p l e Rm s m args below meth c cs ss Q G nL t) i lo st mi ml := by
  obtain ⟨hx, hb, hml, hr, hlocks, hts, hlk, hown, hK, hX⟩ := F
  have hc : (decide (decode bc pc = .ok (.sipush w, len)) && (len == 3 && am_pcs t (i + 1) == pc + 3 && decide ((Int16.ofInt w).toInt32 = v))) = true := hc
  simp only [Bool.and_eq_true, decide_eq_true_eq, beq_iff_eq] at hc
  obtain ⟨hd, ⟨hl, hn⟩, hv⟩ := hc
  subst hl
  intro ls H locs g1 g2 g3
  have z := h ls H locs g1 g2 g3
  rw [hn] at z
  rw [hi]
  exact lv_sipush hx hb hd hv z
theorem am_s_lconst (F : am_fr p s m args meth c G y bc nL rt lk) {w : Fin 2} (hc : am_chk y bc nL rt lk t i (pc, (.lconst w), len, k1, k2, k3, v, sw) = true) (hi : am_pcs t i = pc) (h : (am_mo p l e Rm s m args below meth c cs ss Q G nL t) (i + 1) lo (.long (am_lc k1) :: st) mi ml) : (am_mo p l e Rm s m args below meth c cs ss Q G nL t) i lo st mi ml := by
  obtain ⟨hx, hb, hml, hr, hlocks, hts, hlk, hown, hK, hX⟩ := F
  have hc : (decide (decode bc pc = .ok (.lconst w, len)) && (len == 1 && am_pcs t (i + 1) == pc + 1 && decide (Int64.ofNat (w : Nat) = am_lc k1))) = true := hc
  simp only [Bool.and_eq_true, decide_eq_true_eq, beq_iff_eq] at hc
  obtain ⟨hd, ⟨hl, hn⟩, hv⟩ := hc
  subst hl
  intro ls H locs g1 g2 g3
  have z := h ls H locs g1 g2 g3
  rw [hn] at z
  rw [hi]
  exact lv_lconst hx hb hd hv z
theorem am_s_ldc_w (F : am_fr p s m args meth c G y bc nL rt lk) {q : Nat} (hc : am_chk y bc nL rt lk t i (pc, (.ldc_w q), len, k1, k2, k3, v, sw) = true) (hi : am_pcs t i = pc) (h : (am_mo p l e Rm s m args below meth c cs ss Q G nL t) (i + 1) lo (.int v :: st) mi ml) : (am_mo p l e Rm s m args below meth c cs ss Q G nL t) i lo st mi ml := by
  obtain ⟨hx, hb, hml, hr, hlocks, hts, hlk, hown, hK, hX⟩ := F
  have hc : (decide (decode bc pc = .ok (.ldc_w q, len)) && (len == 3 && am_pcs t (i + 1) == pc + 3 && decide (Cond.constant y.cls q v ∈ lk))) = true := hc
  simp only [Bool.and_eq_true, decide_eq_true_eq, beq_iff_eq] at hc
  obtain ⟨hd, ⟨hl, hn⟩, hv⟩ := hc
  subst hl
  intro ls H locs g1 g2 g3
  have z := h ls H locs g1 g2 g3
  rw [hn] at z
  rw [hi]
  exact lv_ldcw hx hb hown (hts _ (am_tb_i (hlk _ hv) rfl)) hd z
theorem am_s_ldc2_w (F : am_fr p s m args meth c G y bc nL rt lk) {q : Nat} (hc : am_chk y bc nL rt lk t i (pc, (.ldc2_w q), len, k1, k2, k3, v, sw) = true) (hi : am_pcs t i = pc) (h : (am_mo p l e Rm s m args below meth c cs ss Q G nL t) (i + 1) lo (.long (am_lc k1) :: st) mi ml) : (am_mo p l e Rm s m args below meth c cs ss Q G nL t) i lo st mi ml := by
  obtain ⟨hx, hb, hml, hr, hlocks, hts, hlk, hown, hK, hX⟩ := F
  have hc : (decide (decode bc pc = .ok (.ldc2_w q, len)) && (len == 3 && am_pcs t (i + 1) == pc + 3 && decide (Cond.constantLong y.cls q (am_lc k1) ∈ lk))) = true := hc
  simp only [Bool.and_eq_true, decide_eq_true_eq, beq_iff_eq] at hc
  obtain ⟨hd, ⟨hl, hn⟩, hv⟩ := hc
  subst hl
  intro ls H locs g1 g2 g3
  have z := h ls H locs g1 g2 g3
  rw [hn] at z
  rw [hi]
  exact lv_ldc2 hx hb hown (hts _ (am_tb_i (hlk _ hv) rfl)) hd z
theorem am_s_ldc (F : am_fr p s m args meth c G y bc nL rt lk) {q : Nat} (hc : am_chk y bc nL rt lk t i (pc, (.ldc q), len, k1, k2, k3, v, sw) = true) (hi : am_pcs t i = pc) (h : am_st cl (am_mo p l e Rm s m args below meth c cs ss Q G nL t) Rr (.ldc q) k1 k2 k3 v sw i lo st mi ml) : (am_mo p l e Rm s m args below meth c cs ss Q G nL t) i lo st mi ml := by
  obtain ⟨hx, hb, hml, hr, hlocks, hts, hlk, hown, hK, hX⟩ := F
  have hc : (decide (decode bc pc = .ok (.ldc q, len)) && (len == 2 && am_pcs t (i + 1) == pc + 2 && (match (generalizing := false) k2 with
      | 0 => decide (Cond.constant y.cls q v ∈ lk)
      | _ => y.cls == "DoorsForThree$Law" && am_strs.any fun w => w.1 == q && w.2.2 == k1))) = true := hc
  simp only [Bool.and_eq_true, decide_eq_true_eq, beq_iff_eq] at hc
  obtain ⟨hd, ⟨hl, hn⟩, hv⟩ := hc
  subst hl
  simp only [am_st] at h
  intro ls H locs g1 g2 g3
  rw [hi]
  split at hv
  · have z := h ls H locs g1 g2 g3
    rw [hn] at z
    exact lv_ldc hx hb hown (hts _ (am_tb_i (hlk _ (by simpa using hv)) rfl)) hd z
  · rename_i hne
    have z : am_mo p l e Rm s m args below meth c cs ss Q G nL t (i + 1) lo (.ref k1 :: st) mi ml := by
      split at h
      · exact (hne rfl).elim
      · exact h
    have z := z ls H locs g1 g2 g3
    rw [hn] at z
    simp only [Bool.and_eq_true, beq_iff_eq] at hv
    obtain ⟨w, hw, hw2⟩ := List.any_eq_true.mp hv.2
    simp only [Bool.and_eq_true, beq_iff_eq] at hw2
    have hz := hX.2.2.2.1 w hw
    rw [hw2.1, hw2.2] at hz
    rw [hv.1] at hown
    exact va_ldcS hx hb hown hz hd z
theorem am_s_dup (F : am_fr p s m args meth c G y bc nL rt lk)  (hc : am_chk y bc nL rt lk t i (pc, .dup, len, k1, k2, k3, v, sw) = true) (hi : am_pcs t i = pc) (h : am_dup (am_mo p l e Rm s m args below meth c cs ss Q G nL t) i lo st mi ml) : (am_mo p l e Rm s m args below meth c cs ss Q G nL t) i lo st mi ml := by
  obtain ⟨hx, hb, hml, hr, hlocks, hts, hlk, hown, hK, hX⟩ := F
  have hc : (decide (decode bc pc = .ok (.dup, len)) && (len == 1 && am_pcs t (i + 1) == pc + 1)) = true := hc
  simp only [Bool.and_eq_true, decide_eq_true_eq, beq_iff_eq] at hc
  obtain ⟨hd, hl, hn⟩ := hc
  subst hl
  unfold am_dup at h
  split at h
  · intro ls H locs g1 g2 g3
    have z := (am_need_e h).2 ls H locs g1 g2 g3
    rw [hn] at z
    rw [hi]
    exact lv_dup hx hb hd (am_tv_cat.trans (eq_of_beq (am_need_e h).1)) z
  · exact h.elim
theorem am_s_pop (F : am_fr p s m args meth c G y bc nL rt lk)  (hc : am_chk y bc nL rt lk t i (pc, .pop, len, k1, k2, k3, v, sw) = true) (hi : am_pcs t i = pc) (h : am_pop (am_mo p l e Rm s m args below meth c cs ss Q G nL t) i lo st mi ml) : (am_mo p l e Rm s m args below meth c cs ss Q G nL t) i lo st mi ml := by
  obtain ⟨hx, hb, hml, hr, hlocks, hts, hlk, hown, hK, hX⟩ := F
  have hc : (decide (decode bc pc = .ok (.pop, len)) && (len == 1 && am_pcs t (i + 1) == pc + 1)) = true := hc
  simp only [Bool.and_eq_true, decide_eq_true_eq, beq_iff_eq] at hc
  obtain ⟨hd, hl, hn⟩ := hc
  subst hl
  unfold am_pop at h
  split at h
  · intro ls H locs g1 g2 g3
    have z := (am_need_e h).2 ls H locs g1 g2 g3
    rw [hn] at z
    rw [hi]
    exact lv_pop hx hb hd (am_tv_cat.trans (eq_of_beq (am_need_e h).1)) z
  · exact h.elim
theorem am_s_dup_x1 (F : am_fr p s m args meth c G y bc nL rt lk)  (hc : am_chk y bc nL rt lk t i (pc, .dup_x1, len, k1, k2, k3, v, sw) = true) (hi : am_pcs t i = pc) (h : am_dupx1 (am_mo p l e Rm s m args below meth c cs ss Q G nL t) i lo st mi ml) : (am_mo p l e Rm s m args below meth c cs ss Q G nL t) i lo st mi ml := by
  obtain ⟨hx, hb, hml, hr, hlocks, hts, hlk, hown, hK, hX⟩ := F
  have hc : (decide (decode bc pc = .ok (.dup_x1, len)) && (len == 1 && am_pcs t (i + 1) == pc + 1)) = true := hc
  simp only [Bool.and_eq_true, decide_eq_true_eq, beq_iff_eq] at hc
  obtain ⟨hd, hl, hn⟩ := hc
  subst hl
  unfold am_dupx1 at h
  split at h
  · intro ls H locs g1 g2 g3
    obtain ⟨hcc, h⟩ := am_need_e h
    simp only [Bool.and_eq_true, beq_iff_eq] at hcc
    have z := h ls H locs g1 g2 g3
    rw [hn] at z
    rw [hi]
    exact lv_dup_x1 hx hb hd (am_tv_cat.trans hcc.1) (am_tv_cat.trans hcc.2) z
  · exact h.elim
theorem am_s_dup2 (F : am_fr p s m args meth c G y bc nL rt lk)  (hc : am_chk y bc nL rt lk t i (pc, .dup2, len, k1, k2, k3, v, sw) = true) (hi : am_pcs t i = pc) (h : am_dup2 (am_mo p l e Rm s m args below meth c cs ss Q G nL t) i lo st mi ml) : (am_mo p l e Rm s m args below meth c cs ss Q G nL t) i lo st mi ml := by
  obtain ⟨hx, hb, hml, hr, hlocks, hts, hlk, hown, hK, hX⟩ := F
  have hc : (decide (decode bc pc = .ok (.dup2, len)) && (len == 1 && am_pcs t (i + 1) == pc + 1)) = true := hc
  simp only [Bool.and_eq_true, decide_eq_true_eq, beq_iff_eq] at hc
  obtain ⟨hd, hl, hn⟩ := hc
  subst hl
  unfold am_dup2 at h
  split at h
  · intro ls H locs g1 g2 g3
    have z := h ls H locs g1 g2 g3
    rw [hn] at z
    rw [hi]
    exact lv_dup2_2 hx hb hd rfl z
  · intro ls H locs g1 g2 g3
    obtain ⟨hcc, h⟩ := am_need_e h
    simp only [Bool.and_eq_true, beq_iff_eq] at hcc
    have z := h ls H locs g1 g2 g3
    rw [hn] at z
    rw [hi]
    exact lv_dup2_11 hx hb hd (am_tv_cat.trans hcc.1) (am_tv_cat.trans hcc.2) z
  · exact h.elim
theorem am_s_goto (F : am_fr p s m args meth c G y bc nL rt lk) {off : Int} (hc : am_chk y bc nL rt lk t i (pc, (.goto off), len, k1, k2, k3, v, sw) = true) (hi : am_pcs t i = pc) (h : (am_mo p l e Rm s m args below meth c cs ss Q G nL t) k1 lo st mi ml) : (am_mo p l e Rm s m args below meth c cs ss Q G nL t) i lo st mi ml := by
  obtain ⟨hx, hb, hml, hr, hlocks, hts, hlk, hown, hK, hX⟩ := F
  have hc : (decide (decode bc pc = .ok (.goto off, len)) && (len == 3 && decide ((pc : Int) + off = (am_pcs t k1 : Int)))) = true := hc
  simp only [Bool.and_eq_true, decide_eq_true_eq, beq_iff_eq] at hc
  obtain ⟨hd, hl, ht⟩ := hc
  subst hl
  intro ls H locs g1 g2 g3
  rw [hi]
  exact lv_goto hx hb hd ht (h ls H locs g1 g2 g3)
theorem am_s_if_eq (F : am_fr p s m args meth c G y bc nL rt lk) {off : Int} (hc : am_chk y bc nL rt lk t i (pc, (.ifCond .eq off), len, k1, k2, k3, v, sw) = true) (hi : am_pcs t i = pc) (h : am_br (am_mo p l e Rm s m args below meth c cs ss Q G nL t) i lo st mi ml k1 (fun x => x = 0)) : (am_mo p l e Rm s m args below meth c cs ss Q G nL t) i lo st mi ml := by
  obtain ⟨hx, hb, hml, hr, hlocks, hts, hlk, hown, hK, hX⟩ := F
  have hc : (decide (decode bc pc = .ok (.ifCond .eq off, len)) && (len == 3 && am_pcs t (i + 1) == pc + 3 && decide ((pc : Int) + off = (am_pcs t k1 : Int)))) = true := hc
  simp only [Bool.and_eq_true, decide_eq_true_eq, beq_iff_eq] at hc
  obtain ⟨hd, ⟨hl, hn⟩, ht⟩ := hc
  subst hl
  unfold am_br at h
  split at h
  · intro ls H locs g1 g2 g3
    rw [hi]
    refine lv_if_eq hx hb hd ht (fun q => h.1 q ls H locs g1 g2 g3) (fun q => ?_)
    have z := h.2 q ls H locs g1 g2 g3
    rw [hn] at z
    exact z
  · exact h.elim
theorem am_s_if_ne (F : am_fr p s m args meth c G y bc nL rt lk) {off : Int} (hc : am_chk y bc nL rt lk t i (pc, (.ifCond .ne off), len, k1, k2, k3, v, sw) = true) (hi : am_pcs t i = pc) (h : am_br (am_mo p l e Rm s m args below meth c cs ss Q G nL t) i lo st mi ml k1 (fun x => x ≠ 0)) : (am_mo p l e Rm s m args below meth c cs ss Q G nL t) i lo st mi ml := by
  obtain ⟨hx, hb, hml, hr, hlocks, hts, hlk, hown, hK, hX⟩ := F
  have hc : (decide (decode bc pc = .ok (.ifCond .ne off, len)) && (len == 3 && am_pcs t (i + 1) == pc + 3 && decide ((pc : Int) + off = (am_pcs t k1 : Int)))) = true := hc
  simp only [Bool.and_eq_true, decide_eq_true_eq, beq_iff_eq] at hc
  obtain ⟨hd, ⟨hl, hn⟩, ht⟩ := hc
  subst hl
  unfold am_br at h
  split at h
  · intro ls H locs g1 g2 g3
    rw [hi]
    refine lv_if_ne hx hb hd ht (fun q => h.1 q ls H locs g1 g2 g3) (fun q => ?_)
    have z := h.2 (fun u => u q) ls H locs g1 g2 g3
    rw [hn] at z
    exact z
  · exact h.elim
theorem am_s_if_lt (F : am_fr p s m args meth c G y bc nL rt lk) {off : Int} (hc : am_chk y bc nL rt lk t i (pc, (.ifCond .lt off), len, k1, k2, k3, v, sw) = true) (hi : am_pcs t i = pc) (h : am_br (am_mo p l e Rm s m args below meth c cs ss Q G nL t) i lo st mi ml k1 (fun x => x < 0)) : (am_mo p l e Rm s m args below meth c cs ss Q G nL t) i lo st mi ml := by
  obtain ⟨hx, hb, hml, hr, hlocks, hts, hlk, hown, hK, hX⟩ := F
  have hc : (decide (decode bc pc = .ok (.ifCond .lt off, len)) && (len == 3 && am_pcs t (i + 1) == pc + 3 && decide ((pc : Int) + off = (am_pcs t k1 : Int)))) = true := hc
  simp only [Bool.and_eq_true, decide_eq_true_eq, beq_iff_eq] at hc
  obtain ⟨hd, ⟨hl, hn⟩, ht⟩ := hc
  subst hl
  unfold am_br at h
  split at h
  · intro ls H locs g1 g2 g3
    rw [hi]
    refine lv_if_lt hx hb hd ht (fun q => h.1 q ls H locs g1 g2 g3) (fun q => ?_)
    have z := h.2 q ls H locs g1 g2 g3
    rw [hn] at z
    exact z
  · exact h.elim
theorem am_s_if_ge (F : am_fr p s m args meth c G y bc nL rt lk) {off : Int} (hc : am_chk y bc nL rt lk t i (pc, (.ifCond .ge off), len, k1, k2, k3, v, sw) = true) (hi : am_pcs t i = pc) (h : am_br (am_mo p l e Rm s m args below meth c cs ss Q G nL t) i lo st mi ml k1 (fun x => 0 ≤ x)) : (am_mo p l e Rm s m args below meth c cs ss Q G nL t) i lo st mi ml := by
  obtain ⟨hx, hb, hml, hr, hlocks, hts, hlk, hown, hK, hX⟩ := F
  have hc : (decide (decode bc pc = .ok (.ifCond .ge off, len)) && (len == 3 && am_pcs t (i + 1) == pc + 3 && decide ((pc : Int) + off = (am_pcs t k1 : Int)))) = true := hc
  simp only [Bool.and_eq_true, decide_eq_true_eq, beq_iff_eq] at hc
  obtain ⟨hd, ⟨hl, hn⟩, ht⟩ := hc
  subst hl
  unfold am_br at h
  split at h
  · intro ls H locs g1 g2 g3
    rw [hi]
    refine lv_if_ge hx hb hd ht (fun q => h.1 q ls H locs g1 g2 g3) (fun q => ?_)
    have z := h.2 q ls H locs g1 g2 g3
    rw [hn] at z
    exact z
  · exact h.elim
theorem am_s_if_gt (F : am_fr p s m args meth c G y bc nL rt lk) {off : Int} (hc : am_chk y bc nL rt lk t i (pc, (.ifCond .gt off), len, k1, k2, k3, v, sw) = true) (hi : am_pcs t i = pc) (h : am_br (am_mo p l e Rm s m args below meth c cs ss Q G nL t) i lo st mi ml k1 (fun x => 0 < x)) : (am_mo p l e Rm s m args below meth c cs ss Q G nL t) i lo st mi ml := by
  obtain ⟨hx, hb, hml, hr, hlocks, hts, hlk, hown, hK, hX⟩ := F
  have hc : (decide (decode bc pc = .ok (.ifCond .gt off, len)) && (len == 3 && am_pcs t (i + 1) == pc + 3 && decide ((pc : Int) + off = (am_pcs t k1 : Int)))) = true := hc
  simp only [Bool.and_eq_true, decide_eq_true_eq, beq_iff_eq] at hc
  obtain ⟨hd, ⟨hl, hn⟩, ht⟩ := hc
  subst hl
  unfold am_br at h
  split at h
  · intro ls H locs g1 g2 g3
    rw [hi]
    refine lv_if_gt hx hb hd ht (fun q => h.1 q ls H locs g1 g2 g3) (fun q => ?_)
    have z := h.2 q ls H locs g1 g2 g3
    rw [hn] at z
    exact z
  · exact h.elim
theorem am_s_if_le (F : am_fr p s m args meth c G y bc nL rt lk) {off : Int} (hc : am_chk y bc nL rt lk t i (pc, (.ifCond .le off), len, k1, k2, k3, v, sw) = true) (hi : am_pcs t i = pc) (h : am_br (am_mo p l e Rm s m args below meth c cs ss Q G nL t) i lo st mi ml k1 (fun x => x ≤ 0)) : (am_mo p l e Rm s m args below meth c cs ss Q G nL t) i lo st mi ml := by
  obtain ⟨hx, hb, hml, hr, hlocks, hts, hlk, hown, hK, hX⟩ := F
  have hc : (decide (decode bc pc = .ok (.ifCond .le off, len)) && (len == 3 && am_pcs t (i + 1) == pc + 3 && decide ((pc : Int) + off = (am_pcs t k1 : Int)))) = true := hc
  simp only [Bool.and_eq_true, decide_eq_true_eq, beq_iff_eq] at hc
  obtain ⟨hd, ⟨hl, hn⟩, ht⟩ := hc
  subst hl
  unfold am_br at h
  split at h
  · intro ls H locs g1 g2 g3
    rw [hi]
    refine lv_if_le hx hb hd ht (fun q => h.1 q ls H locs g1 g2 g3) (fun q => ?_)
    have z := h.2 q ls H locs g1 g2 g3
    rw [hn] at z
    exact z
  · exact h.elim
theorem am_s_icmp_eq (F : am_fr p s m args meth c G y bc nL rt lk) {off : Int} (hc : am_chk y bc nL rt lk t i (pc, (.if_icmp .eq off), len, k1, k2, k3, v, sw) = true) (hi : am_pcs t i = pc) (h : am_b2r (am_mo p l e Rm s m args below meth c cs ss Q G nL t) i lo st mi ml k1 (fun x y => x = y)) : (am_mo p l e Rm s m args below meth c cs ss Q G nL t) i lo st mi ml := by
  obtain ⟨hx, hb, hml, hr, hlocks, hts, hlk, hown, hK, hX⟩ := F
  have hc : (decide (decode bc pc = .ok (.if_icmp .eq off, len)) && (len == 3 && am_pcs t (i + 1) == pc + 3 && decide ((pc : Int) + off = (am_pcs t k1 : Int)))) = true := hc
  simp only [Bool.and_eq_true, decide_eq_true_eq, beq_iff_eq] at hc
  obtain ⟨hd, ⟨hl, hn⟩, ht⟩ := hc
  subst hl
  unfold am_b2r at h
  split at h
  · intro ls H locs g1 g2 g3
    rw [hi]
    refine lv_icmp_eq hx hb hd ht (fun q => h.1 q ls H locs g1 g2 g3) (fun q => ?_)
    have z := h.2 q ls H locs g1 g2 g3
    rw [hn] at z
    exact z
  · exact h.elim
theorem am_s_icmp_ne (F : am_fr p s m args meth c G y bc nL rt lk) {off : Int} (hc : am_chk y bc nL rt lk t i (pc, (.if_icmp .ne off), len, k1, k2, k3, v, sw) = true) (hi : am_pcs t i = pc) (h : am_b2r (am_mo p l e Rm s m args below meth c cs ss Q G nL t) i lo st mi ml k1 (fun x y => x ≠ y)) : (am_mo p l e Rm s m args below meth c cs ss Q G nL t) i lo st mi ml := by
  obtain ⟨hx, hb, hml, hr, hlocks, hts, hlk, hown, hK, hX⟩ := F
  have hc : (decide (decode bc pc = .ok (.if_icmp .ne off, len)) && (len == 3 && am_pcs t (i + 1) == pc + 3 && decide ((pc : Int) + off = (am_pcs t k1 : Int)))) = true := hc
  simp only [Bool.and_eq_true, decide_eq_true_eq, beq_iff_eq] at hc
  obtain ⟨hd, ⟨hl, hn⟩, ht⟩ := hc
  subst hl
  unfold am_b2r at h
  split at h
  · intro ls H locs g1 g2 g3
    rw [hi]
    refine lv_icmp_ne hx hb hd ht (fun q => h.1 q ls H locs g1 g2 g3) (fun q => ?_)
    have z := h.2 (fun u => u q) ls H locs g1 g2 g3
    rw [hn] at z
    exact z
  · exact h.elim
theorem am_s_icmp_lt (F : am_fr p s m args meth c G y bc nL rt lk) {off : Int} (hc : am_chk y bc nL rt lk t i (pc, (.if_icmp .lt off), len, k1, k2, k3, v, sw) = true) (hi : am_pcs t i = pc) (h : am_b2r (am_mo p l e Rm s m args below meth c cs ss Q G nL t) i lo st mi ml k1 (fun x y => x < y)) : (am_mo p l e Rm s m args below meth c cs ss Q G nL t) i lo st mi ml := by
  obtain ⟨hx, hb, hml, hr, hlocks, hts, hlk, hown, hK, hX⟩ := F
  have hc : (decide (decode bc pc = .ok (.if_icmp .lt off, len)) && (len == 3 && am_pcs t (i + 1) == pc + 3 && decide ((pc : Int) + off = (am_pcs t k1 : Int)))) = true := hc
  simp only [Bool.and_eq_true, decide_eq_true_eq, beq_iff_eq] at hc
  obtain ⟨hd, ⟨hl, hn⟩, ht⟩ := hc
  subst hl
  unfold am_b2r at h
  split at h
  · intro ls H locs g1 g2 g3
    rw [hi]
    refine lv_icmp_lt hx hb hd ht (fun q => h.1 q ls H locs g1 g2 g3) (fun q => ?_)
    have z := h.2 q ls H locs g1 g2 g3
    rw [hn] at z
    exact z
  · exact h.elim
theorem am_s_icmp_ge (F : am_fr p s m args meth c G y bc nL rt lk) {off : Int} (hc : am_chk y bc nL rt lk t i (pc, (.if_icmp .ge off), len, k1, k2, k3, v, sw) = true) (hi : am_pcs t i = pc) (h : am_b2r (am_mo p l e Rm s m args below meth c cs ss Q G nL t) i lo st mi ml k1 (fun x y => y ≤ x)) : (am_mo p l e Rm s m args below meth c cs ss Q G nL t) i lo st mi ml := by
  obtain ⟨hx, hb, hml, hr, hlocks, hts, hlk, hown, hK, hX⟩ := F
  have hc : (decide (decode bc pc = .ok (.if_icmp .ge off, len)) && (len == 3 && am_pcs t (i + 1) == pc + 3 && decide ((pc : Int) + off = (am_pcs t k1 : Int)))) = true := hc
  simp only [Bool.and_eq_true, decide_eq_true_eq, beq_iff_eq] at hc
  obtain ⟨hd, ⟨hl, hn⟩, ht⟩ := hc
  subst hl
  unfold am_b2r at h
  split at h
  · intro ls H locs g1 g2 g3
    rw [hi]
    refine lv_icmp_ge hx hb hd ht (fun q => h.1 q ls H locs g1 g2 g3) (fun q => ?_)
    have z := h.2 q ls H locs g1 g2 g3
    rw [hn] at z
    exact z
  · exact h.elim
theorem am_s_icmp_gt (F : am_fr p s m args meth c G y bc nL rt lk) {off : Int} (hc : am_chk y bc nL rt lk t i (pc, (.if_icmp .gt off), len, k1, k2, k3, v, sw) = true) (hi : am_pcs t i = pc) (h : am_b2r (am_mo p l e Rm s m args below meth c cs ss Q G nL t) i lo st mi ml k1 (fun x y => y < x)) : (am_mo p l e Rm s m args below meth c cs ss Q G nL t) i lo st mi ml := by
  obtain ⟨hx, hb, hml, hr, hlocks, hts, hlk, hown, hK, hX⟩ := F
  have hc : (decide (decode bc pc = .ok (.if_icmp .gt off, len)) && (len == 3 && am_pcs t (i + 1) == pc + 3 && decide ((pc : Int) + off = (am_pcs t k1 : Int)))) = true := hc
  simp only [Bool.and_eq_true, decide_eq_true_eq, beq_iff_eq] at hc
  obtain ⟨hd, ⟨hl, hn⟩, ht⟩ := hc
  subst hl
  unfold am_b2r at h
  split at h
  · intro ls H locs g1 g2 g3
    rw [hi]
    refine lv_icmp_gt hx hb hd ht (fun q => h.1 q ls H locs g1 g2 g3) (fun q => ?_)
    have z := h.2 q ls H locs g1 g2 g3
    rw [hn] at z
    exact z
  · exact h.elim
theorem am_s_icmp_le (F : am_fr p s m args meth c G y bc nL rt lk) {off : Int} (hc : am_chk y bc nL rt lk t i (pc, (.if_icmp .le off), len, k1, k2, k3, v, sw) = true) (hi : am_pcs t i = pc) (h : am_b2r (am_mo p l e Rm s m args below meth c cs ss Q G nL t) i lo st mi ml k1 (fun x y => x ≤ y)) : (am_mo p l e Rm s m args below meth c cs ss Q G nL t) i lo st mi ml := by
  obtain ⟨hx, hb, hml, hr, hlocks, hts, hlk, hown, hK, hX⟩ := F
  have hc : (decide (decode bc pc = .ok (.if_icmp .le off, len)) && (len == 3 && am_pcs t (i + 1) == pc + 3 && decide ((pc : Int) + off = (am_pcs t k1 : Int)))) = true := hc
  simp only [Bool.and_eq_true, decide_eq_true_eq, beq_iff_eq] at hc
  obtain ⟨hd, ⟨hl, hn⟩, ht⟩ := hc
  subst hl
  unfold am_b2r at h
  split at h
  · intro ls H locs g1 g2 g3
    rw [hi]
    refine lv_icmp_le hx hb hd ht (fun q => h.1 q ls H locs g1 g2 g3) (fun q => ?_)
    have z := h.2 q ls H locs g1 g2 g3
    rw [hn] at z
    exact z
  · exact h.elim
theorem am_swt_in {K : am_K} {x : Int32} {d : Nat} : ∀ {sw : List (Int32 × Nat)} (j : Nat) {w : Int32} {tj : Nat}, am_swt K lo st mi ml x d sw → sw[j]? = some (w, tj) → x = w → (∀ j2 w2 t2, j2 < j → sw[j2]? = some (w2, t2) → ¬ x = w2) → K tj lo st mi ml
  | [], j, w, tj, _, h, _, _ => by simp at h
  | (a, b) :: r, 0, w, tj, h, hj, hx, _ => by
    cases hj
    exact h.1 hx
  | (a, b) :: r, j + 1, w, tj, h, hj, hx, hne =>
    am_swt_in j (h.2 (hne 0 a b (by omega) rfl)) hj hx (fun j2 w2 t2 h2 h3 => hne (j2 + 1) w2 t2 (by omega) h3)
theorem am_swt_out {K : am_K} {x : Int32} {d : Nat} : ∀ {sw : List (Int32 × Nat)}, am_swt K lo st mi ml x d sw → (∀ (j : Nat) w tj, sw[j]? = some (w, tj) → ¬ x = w) → K d lo st mi ml
  | [], h, _ => h
  | (a, b) :: r, h, hne => am_swt_out (h.2 (hne 0 a b rfl)) (fun j w tj h3 => hne (j + 1) w tj h3)
theorem am_swt_look {K : am_K} {x : Int32} {d : Nat} {dd : Int} (hdd : (pc : Int) + dd = (am_pcs t d : Int)) : ∀ {sw : List (Int32 × Nat)} (ps : List (Int × Int)), sw.length = ps.length → (∀ (j : Nat) w tj a o, sw[j]? = some (w, tj) → ps[j]? = some (a, o) → w.toInt = a ∧ (pc : Int) + o = (am_pcs t tj : Int)) → am_swt K lo st mi ml x d sw →
    ∃ tgt off, Op.lookupswitch.offset ps dd x.toInt = off ∧ (pc : Int) + off = (am_pcs t tgt : Int) ∧ K tgt lo st mi ml
  | [], [], _, _, h => ⟨d, dd, rfl, hdd, h⟩
  | [], _ :: _, hl, _, _ => by simp at hl
  | _ :: _, [], hl, _, _ => by simp at hl
  | (w, tj) :: r, (a, o) :: ps, hl, hq, h => by
    obtain ⟨h1, h2⟩ := hq 0 w tj a o rfl rfl
    by_cases hx : x = w
    · refine ⟨tj, o, ?_, h2, h.1 hx⟩
      rw [Op.lookupswitch.offset_cons, if_pos (by rw [hx, h1])]
    · obtain ⟨tgt, off, g1, g2, g3⟩ := am_swt_look hdd (sw := r) ps (by simpa using hl) (fun j w tj a o e1 e2 => hq (j + 1) w tj a o e1 e2) (h.2 hx)
      exact ⟨tgt, off, by rw [lv_osw hx h1]; exact g1, g2, g3⟩
theorem am_s_tableswitch (F : am_fr p s m args meth c G y bc nL rt lk) {d a b : Int} {offs : Array Int} (hc : am_chk y bc nL rt lk t i (pc, (.tableswitch d a b offs), len, k1, k2, k3, v, sw) = true) (hi : am_pcs t i = pc) (h : am_sw (am_mo p l e Rm s m args below meth c cs ss Q G nL t) lo st mi ml k1 sw) : (am_mo p l e Rm s m args below meth c cs ss Q G nL t) i lo st mi ml := by
  obtain ⟨hx, hb, hml, hr, hlocks, hts, hlk, hown, hK, hX⟩ := F
  have hc : (decide (decode bc pc = .ok (.tableswitch d a b offs, len)) && (decide ((pc : Int) + d = (am_pcs t k1 : Int)) && sw.length == offs.size && decide (b + 1 = a + (offs.size : Int)) &&
        (List.range offs.size).all fun j => match sw[j]?, offs[j]? with
          | some (w, tj), some o => decide (w.toInt = a + (j : Int)) && decide ((pc : Int) + o = (am_pcs t tj : Int))
          | _, _ => false)) = true := hc
  simp only [Bool.and_eq_true, decide_eq_true_eq, beq_iff_eq] at hc
  obtain ⟨hd, ⟨⟨ht, hsz⟩, hab⟩, hq⟩ := hc
  unfold am_sw at h
  split at h
  · rename_i x rest
    have hq2 : ∀ j, j < offs.size → ∃ w tj o, sw[j]? = some (w, tj) ∧ offs[j]? = some o ∧ w.toInt = a + (j : Int) ∧ (pc : Int) + o = (am_pcs t tj : Int) := by
      intro j hj
      have z := List.all_eq_true.mp hq j (List.mem_range.mpr hj)
      split at z
      · rename_i w tj o e1 e2
        simp only [Bool.and_eq_true, decide_eq_true_eq] at z
        exact ⟨w, tj, o, e1, e2, z.1, z.2⟩
      · cases z
    intro ls H locs g1 g2 g3
    rw [hi]
    by_cases hin : a ≤ x.toInt ∧ x.toInt ≤ b
    · have hj : (x.toInt - a).toNat < offs.size := by omega
      obtain ⟨w, tj, o, e1, e2, e3, e4⟩ := hq2 _ hj
      have hxw : x = w := Int32.toInt_inj.mp (by rw [e3]; omega)
      refine lv_tableIn hx hb hd (by omega) (by omega) e2 e4 (am_swt_in _ h e1 hxw (fun j2 w2 t2 h2 h3 h4 => ?_) ls H locs g1 g2 g3)
      obtain ⟨w3, t3, o3, f1, -, f3, -⟩ := hq2 j2 (by omega)
      rw [h3] at f1
      cases f1
      rw [h4] at hxw
      rw [hxw, e3] at f3
      omega
    · refine lv_tableOut hx hb hd (by omega) ht (am_swt_out h (fun j w tj h3 h4 => ?_) ls H locs g1 g2 g3)
      have hjl : j < offs.size := by
        rw [← hsz]
        exact (List.getElem?_eq_some_iff.mp h3).1
      obtain ⟨w3, t3, o3, f1, -, f3, -⟩ := hq2 j hjl
      rw [h3] at f1
      cases f1
      rw [h4] at hin
      omega
  · exact h.elim
theorem am_s_lookupswitch (F : am_fr p s m args meth c G y bc nL rt lk) {d : Int} {ps : Array (Int × Int)} (hc : am_chk y bc nL rt lk t i (pc, (.lookupswitch d ps), len, k1, k2, k3, v, sw) = true) (hi : am_pcs t i = pc) (h : am_sw (am_mo p l e Rm s m args below meth c cs ss Q G nL t) lo st mi ml k1 sw) : (am_mo p l e Rm s m args below meth c cs ss Q G nL t) i lo st mi ml := by
  obtain ⟨hx, hb, hml, hr, hlocks, hts, hlk, hown, hK, hX⟩ := F
  have hc : (decide (decode bc pc = .ok (.lookupswitch d ps, len)) && (decide ((pc : Int) + d = (am_pcs t k1 : Int)) && sw.length == ps.size && ((ps.toList.zip (ps.toList.drop 1)).all fun (a, next) => a.1 < next.1) &&
        (List.range ps.size).all fun j => match sw[j]?, ps[j]? with
          | some (w, tj), some o => decide (w.toInt = o.1) && decide ((pc : Int) + o.2 = (am_pcs t tj : Int))
          | _, _ => false)) = true := hc
  simp only [Bool.and_eq_true, decide_eq_true_eq, beq_iff_eq] at hc
  obtain ⟨hd, ⟨⟨ht, hsz⟩, hz⟩, hq⟩ := hc
  unfold am_sw at h
  split at h
  · rename_i x rest
    intro ls H locs g1 g2 g3
    rw [hi]
    obtain ⟨tgt, off, e1, e2, e3⟩ := am_swt_look (t := t) (pc := pc) ht (sw := sw) ps.toList (by rw [hsz]; simp) (fun j w tj a o f1 f2 => by
      have hj : j < ps.size := by
        rw [← hsz]
        exact (List.getElem?_eq_some_iff.mp f1).1
      have z := List.all_eq_true.mp hq j (List.mem_range.mpr hj)
      rw [Array.getElem?_toList] at f2
      rw [f1, f2] at z
      simp only [Bool.and_eq_true, decide_eq_true_eq] at z
      exact z) h
    exact lv_lookup hx hb hd hz e1 e2 (e3 ls H locs g1 g2 g3)
  · exact h.elim
def am_Q (G : am_G) (R : am_R) : Array Value → State → Outcome → State → Prop := fun _ st oc t => (∃ r mi ml, oc = .returned (r.map (am_tv G)) ∧ R r mi ml ∧ am_hp G t.heap mi ml) ∧ va_F (am_A G) st t
theorem am_s_ireturn (F : am_fr p s m args meth c G y bc nL rt lk) (hc : am_chk y bc nL rt lk t i (pc, .ireturn, len, k1, k2, k3, v, sw) = true) (hi : am_pcs t i = pc) (h : am_st cl (am_mo p l e Rm s m args below meth c 0 0 (MQ below (am_Q G Rr) args s 0 0 (am_A G)) G nL t) Rr .ireturn k1 k2 k3 v sw i lo st mi ml) : (am_mo p l e Rm s m args below meth c 0 0 (MQ below (am_Q G Rr) args s 0 0 (am_A G)) G nL t) i lo st mi ml := by
  obtain ⟨hx, hb, hml, hr, hlocks, hts, hlk, hown, hK, hX⟩ := F
  have hc : (decide (decode bc pc = .ok (.ireturn, len)) && (len == 1 && (match (generalizing := false) k1 with
      | 0 => decide (rt = some .int)
      | 2 => decide (rt = some .char)
      | _ => decide (rt = some .boolean) || decide (rt = some .byte)))) = true := hc
  simp only [Bool.and_eq_true, decide_eq_true_eq, beq_iff_eq] at hc
  obtain ⟨hd, hl, hr2⟩ := hc
  subst hl
  simp only [am_st] at h
  split at h
  · rename_i xr
    intro ls H locs g1 g2 g3
    rw [hi]
    split at hr2
    · have h : Rr (some (.int xr)) mi ml := h
      exact W.iret hx hb (hr.trans (by simpa using hr2)) (fun t2 e1 e2 => ⟨⟨_, mi, ml, rfl, h, by rw [e1]; exact g2⟩, g3.F e1⟩) g3.2.2 hd
    · have h : am_i2c xr = xr ∧ Rr (some (.int xr)) mi ml := h
      refine W.zret hx hb (hr.trans (by simpa using hr2)) ?_ (fun t2 e1 e2 => ⟨⟨_, mi, ml, rfl, h.2, by rw [e1]; exact g2⟩, g3.F e1⟩) g3.2.2 hd
      rw [← h.1]
      exact pk_nc xr
    · rename_i hne0 hne
      have h2 : (xr = (0 : Int32) ∨ xr = (1 : Int32)) ∧ Rr (some (.int xr)) mi ml := by
        split at h
        · exact (hne0 rfl).elim
        · exact (hne rfl).elim
        · exact h
      have hr3 : rt = some .boolean ∨ rt = some .byte := by simpa using hr2
      rcases hr3 with hr3 | hr3
      · refine W.zret hx hb (hr.trans hr3) ?_ (fun t2 e1 e2 => ⟨⟨_, mi, ml, rfl, h2.2, by rw [e1]; exact g2⟩, g3.F e1⟩) g3.2.2 hd
        rcases h2.1 with q | q <;> subst q <;> rfl
      · refine W.zret hx hb (hr.trans hr3) ?_ (fun t2 e1 e2 => ⟨⟨_, mi, ml, rfl, h2.2, by rw [e1]; exact g2⟩, g3.F e1⟩) g3.2.2 hd
        rcases h2.1 with q | q <;> subst q <;> rfl
  · exact h.elim
theorem am_s_lreturn (F : am_fr p s m args meth c G y bc nL rt lk) (hc : am_chk y bc nL rt lk t i (pc, .lreturn, len, k1, k2, k3, v, sw) = true) (hi : am_pcs t i = pc) (h : am_st cl (am_mo p l e Rm s m args below meth c 0 0 (MQ below (am_Q G Rr) args s 0 0 (am_A G)) G nL t) Rr .lreturn k1 k2 k3 v sw i lo st mi ml) : (am_mo p l e Rm s m args below meth c 0 0 (MQ below (am_Q G Rr) args s 0 0 (am_A G)) G nL t) i lo st mi ml := by
  obtain ⟨hx, hb, hml, hr, hlocks, hts, hlk, hown, hK, hX⟩ := F
  have hc : (decide (decode bc pc = .ok (.lreturn, len)) && (len == 1 && decide (rt = some .long))) = true := hc
  simp only [Bool.and_eq_true, decide_eq_true_eq, beq_iff_eq] at hc
  obtain ⟨hd, hl, hr2⟩ := hc
  subst hl
  simp only [am_st] at h
  split at h
  · intro ls H locs g1 g2 g3
    rw [hi]
    exact W.lret hx hb (hr.trans hr2) (fun t2 e1 e2 => ⟨⟨_, mi, ml, rfl, h, by rw [e1]; exact g2⟩, g3.F e1⟩) g3.2.2 hd
  · exact h.elim
theorem am_s_areturn (F : am_fr p s m args meth c G y bc nL rt lk) (hc : am_chk y bc nL rt lk t i (pc, .areturn, len, k1, k2, k3, v, sw) = true) (hi : am_pcs t i = pc) (h : am_st cl (am_mo p l e Rm s m args below meth c 0 0 (MQ below (am_Q G Rr) args s 0 0 (am_A G)) G nL t) Rr .areturn k1 k2 k3 v sw i lo st mi ml) : (am_mo p l e Rm s m args below meth c 0 0 (MQ below (am_Q G Rr) args s 0 0 (am_A G)) G nL t) i lo st mi ml := by
  obtain ⟨hx, hb, hml, hr, hlocks, hts, hlk, hown, hK, hX⟩ := F
  have hc : (decide (decode bc pc = .ok (.areturn, len)) && (len == 1 && (match (generalizing := false) rt with
      | some (.object _) => true
      | _ => false))) = true := hc
  simp only [Bool.and_eq_true, decide_eq_true_eq, beq_iff_eq] at hc
  obtain ⟨hd, hl, hr2⟩ := hc
  subst hl
  simp only [am_st] at h
  split at h
  · rename_i xr
    intro ls H locs g1 g2 g3
    rw [hi]
    split at hr2
    · rename_i nm
      exact W.aret hx hb hr (Or.inl ⟨nm, rfl⟩) (Or.inr ⟨_, rfl⟩) (fun t2 e1 e2 => ⟨⟨some (.ref _), mi, ml, rfl, h, by rw [e1]; exact g2⟩, g3.F e1⟩) g3.2.2 hd
    · cases hr2
  · exact h.elim
theorem am_s_return (F : am_fr p s m args meth c G y bc nL rt lk) (hc : am_chk y bc nL rt lk t i (pc, .return_, len, k1, k2, k3, v, sw) = true) (hi : am_pcs t i = pc) (h : am_st cl (am_mo p l e Rm s m args below meth c 0 0 (MQ below (am_Q G Rr) args s 0 0 (am_A G)) G nL t) Rr .return_ k1 k2 k3 v sw i lo st mi ml) : (am_mo p l e Rm s m args below meth c 0 0 (MQ below (am_Q G Rr) args s 0 0 (am_A G)) G nL t) i lo st mi ml := by
  obtain ⟨hx, hb, hml, hr, hlocks, hts, hlk, hown, hK, hX⟩ := F
  have hc : (decide (decode bc pc = .ok (.return_, len)) && (len == 1 && decide (rt = none))) = true := hc
  simp only [Bool.and_eq_true, decide_eq_true_eq, beq_iff_eq] at hc
  obtain ⟨hd, hl, hr2⟩ := hc
  subst hl
  simp only [am_st] at h
  split at h
  · intro ls H locs g1 g2 g3
    rw [hi]
    exact W.vret hx hb (hr.trans hr2) (fun t2 e1 e2 => ⟨⟨none, mi, ml, rfl, h, by rw [e1]; exact g2⟩, g3.F e1⟩) g3.2.2 hd
  · exact h.elim
end AMS
