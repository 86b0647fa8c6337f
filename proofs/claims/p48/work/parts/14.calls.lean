/-! calls; the small machine says what the real one does -/
theorem am_okt_all {f : Nat} (hf : f < am_NM) : am_okt f = true := by
  by_cases h0 : f < 24
  · exact List.all_eq_true.mp am_okt_0 f (List.mem_range'_1.mpr ⟨by omega, by omega⟩)
  by_cases h1 : f < 48
  · exact List.all_eq_true.mp am_okt_1 f (List.mem_range'_1.mpr ⟨by omega, by omega⟩)
  by_cases h2 : f < 72
  · exact List.all_eq_true.mp am_okt_2 f (List.mem_range'_1.mpr ⟨by omega, by omega⟩)
  by_cases h3 : f < 96
  · exact List.all_eq_true.mp am_okt_3 f (List.mem_range'_1.mpr ⟨by omega, by omega⟩)
  by_cases h4 : f < 120
  · exact List.all_eq_true.mp am_okt_4 f (List.mem_range'_1.mpr ⟨by omega, by omega⟩)
  by_cases h5 : f < 144
  · exact List.all_eq_true.mp am_okt_5 f (List.mem_range'_1.mpr ⟨by omega, by omega⟩)
  by_cases h6 : f < 168
  · exact List.all_eq_true.mp am_okt_6 f (List.mem_range'_1.mpr ⟨by omega, by omega⟩)
  by_cases h7 : f < 192
  · exact List.all_eq_true.mp am_okt_7 f (List.mem_range'_1.mpr ⟨by omega, by omega⟩)
  by_cases h8 : f < 216
  · exact List.all_eq_true.mp am_okt_8 f (List.mem_range'_1.mpr ⟨by omega, by omega⟩)
  by_cases h9 : f < 240
  · exact List.all_eq_true.mp am_okt_9 f (List.mem_range'_1.mpr ⟨by omega, by omega⟩)
  by_cases h10 : f < 264
  · exact List.all_eq_true.mp am_okt_10 f (List.mem_range'_1.mpr ⟨by omega, by omega⟩)
  by_cases h11 : f < 288
  · exact List.all_eq_true.mp am_okt_11 f (List.mem_range'_1.mpr ⟨by omega, by omega⟩)
  by_cases h12 : f < 292
  · exact List.all_eq_true.mp am_okt_12 f (List.mem_range'_1.mpr ⟨by omega, by omega⟩)
  exact absurd hf h12
theorem am_okc_all {f : Nat} (hf : f < am_NM) : am_okc f = true := by
  by_cases h0 : f < 24
  · exact List.all_eq_true.mp am_okc_0 f (List.mem_range'_1.mpr ⟨by omega, by omega⟩)
  by_cases h1 : f < 48
  · exact List.all_eq_true.mp am_okc_1 f (List.mem_range'_1.mpr ⟨by omega, by omega⟩)
  by_cases h2 : f < 72
  · exact List.all_eq_true.mp am_okc_2 f (List.mem_range'_1.mpr ⟨by omega, by omega⟩)
  by_cases h3 : f < 96
  · exact List.all_eq_true.mp am_okc_3 f (List.mem_range'_1.mpr ⟨by omega, by omega⟩)
  by_cases h4 : f < 120
  · exact List.all_eq_true.mp am_okc_4 f (List.mem_range'_1.mpr ⟨by omega, by omega⟩)
  by_cases h5 : f < 144
  · exact List.all_eq_true.mp am_okc_5 f (List.mem_range'_1.mpr ⟨by omega, by omega⟩)
  by_cases h6 : f < 168
  · exact List.all_eq_true.mp am_okc_6 f (List.mem_range'_1.mpr ⟨by omega, by omega⟩)
  by_cases h7 : f < 192
  · exact List.all_eq_true.mp am_okc_7 f (List.mem_range'_1.mpr ⟨by omega, by omega⟩)
  by_cases h8 : f < 216
  · exact List.all_eq_true.mp am_okc_8 f (List.mem_range'_1.mpr ⟨by omega, by omega⟩)
  by_cases h9 : f < 240
  · exact List.all_eq_true.mp am_okc_9 f (List.mem_range'_1.mpr ⟨by omega, by omega⟩)
  by_cases h10 : f < 264
  · exact List.all_eq_true.mp am_okc_10 f (List.mem_range'_1.mpr ⟨by omega, by omega⟩)
  by_cases h11 : f < 288
  · exact List.all_eq_true.mp am_okc_11 f (List.mem_range'_1.mpr ⟨by omega, by omega⟩)
  by_cases h12 : f < 292
  · exact List.all_eq_true.mp am_okc_12 f (List.mem_range'_1.mpr ⟨by omega, by omega⟩)
  exact absurd hf h12
theorem am_okk_all {f : Nat} (hf : f < am_NM) : am_okk f = true := by
  by_cases h0 : f < 24
  · exact List.all_eq_true.mp am_okk_0 f (List.mem_range'_1.mpr ⟨by omega, by omega⟩)
  by_cases h1 : f < 48
  · exact List.all_eq_true.mp am_okk_1 f (List.mem_range'_1.mpr ⟨by omega, by omega⟩)
  by_cases h2 : f < 72
  · exact List.all_eq_true.mp am_okk_2 f (List.mem_range'_1.mpr ⟨by omega, by omega⟩)
  by_cases h3 : f < 96
  · exact List.all_eq_true.mp am_okk_3 f (List.mem_range'_1.mpr ⟨by omega, by omega⟩)
  by_cases h4 : f < 120
  · exact List.all_eq_true.mp am_okk_4 f (List.mem_range'_1.mpr ⟨by omega, by omega⟩)
  by_cases h5 : f < 144
  · exact List.all_eq_true.mp am_okk_5 f (List.mem_range'_1.mpr ⟨by omega, by omega⟩)
  by_cases h6 : f < 168
  · exact List.all_eq_true.mp am_okk_6 f (List.mem_range'_1.mpr ⟨by omega, by omega⟩)
  by_cases h7 : f < 192
  · exact List.all_eq_true.mp am_okk_7 f (List.mem_range'_1.mpr ⟨by omega, by omega⟩)
  by_cases h8 : f < 216
  · exact List.all_eq_true.mp am_okk_8 f (List.mem_range'_1.mpr ⟨by omega, by omega⟩)
  by_cases h9 : f < 240
  · exact List.all_eq_true.mp am_okk_9 f (List.mem_range'_1.mpr ⟨by omega, by omega⟩)
  by_cases h10 : f < 264
  · exact List.all_eq_true.mp am_okk_10 f (List.mem_range'_1.mpr ⟨by omega, by omega⟩)
  by_cases h11 : f < 288
  · exact List.all_eq_true.mp am_okk_11 f (List.mem_range'_1.mpr ⟨by omega, by omega⟩)
  by_cases h12 : f < 292
  · exact List.all_eq_true.mp am_okk_12 f (List.mem_range'_1.mpr ⟨by omega, by omega⟩)
  exact absurd hf h12
theorem am_okd_all {f : Nat} (hf : f < 290) : am_okd f = true := by
  by_cases h0 : f < 24
  · exact List.all_eq_true.mp am_okd_0 f (List.mem_range'_1.mpr ⟨by omega, by omega⟩)
  by_cases h1 : f < 48
  · exact List.all_eq_true.mp am_okd_1 f (List.mem_range'_1.mpr ⟨by omega, by omega⟩)
  by_cases h2 : f < 72
  · exact List.all_eq_true.mp am_okd_2 f (List.mem_range'_1.mpr ⟨by omega, by omega⟩)
  by_cases h3 : f < 96
  · exact List.all_eq_true.mp am_okd_3 f (List.mem_range'_1.mpr ⟨by omega, by omega⟩)
  by_cases h4 : f < 120
  · exact List.all_eq_true.mp am_okd_4 f (List.mem_range'_1.mpr ⟨by omega, by omega⟩)
  by_cases h5 : f < 144
  · exact List.all_eq_true.mp am_okd_5 f (List.mem_range'_1.mpr ⟨by omega, by omega⟩)
  by_cases h6 : f < 168
  · exact List.all_eq_true.mp am_okd_6 f (List.mem_range'_1.mpr ⟨by omega, by omega⟩)
  by_cases h7 : f < 192
  · exact List.all_eq_true.mp am_okd_7 f (List.mem_range'_1.mpr ⟨by omega, by omega⟩)
  by_cases h8 : f < 216
  · exact List.all_eq_true.mp am_okd_8 f (List.mem_range'_1.mpr ⟨by omega, by omega⟩)
  by_cases h9 : f < 240
  · exact List.all_eq_true.mp am_okd_9 f (List.mem_range'_1.mpr ⟨by omega, by omega⟩)
  by_cases h10 : f < 264
  · exact List.all_eq_true.mp am_okd_10 f (List.mem_range'_1.mpr ⟨by omega, by omega⟩)
  by_cases h11 : f < 288
  · exact List.all_eq_true.mp am_okd_11 f (List.mem_range'_1.mpr ⟨by omega, by omega⟩)
  by_cases h12 : f < 290
  · exact List.all_eq_true.mp am_okd_12 f (List.mem_range'_1.mpr ⟨by omega, by omega⟩)
  exact absurd hf h12
theorem am_lks_in : ∀ (k : Nat), ∀ w ∈ am_lks k, w ∈ lw_tbl
  | 0, w, h => am_t1 (am_uses am_lkL_ix w h)
  | 1, w, h => am_t1 (am_uses am_lkX10_ix w h)
  | 2, w, h => am_t1 (am_uses am_lkX0_ix w h)
  | 3, w, h => am_t1 (am_uses am_lkX3_ix w h)
  | 4, w, h => am_t1 (am_uses am_lkX4_ix w h)
  | 5, w, h => am_t1 (am_uses am_lkX8_ix w h)
  | 6, w, h => am_t1 (am_uses am_lkX2_ix w h)
  | 7, w, h => am_t1 (am_uses am_lkX9_ix w h)
  | 8, w, h => am_t1 (am_uses am_lkX1_ix w h)
  | 9, w, h => am_t1 (am_uses am_lkX5_ix w h)
  | 10, w, h => am_t1 (am_uses am_lkX6_ix w h)
  | 11, w, h => am_t1 (am_uses am_lkX7_ix w h)
  | 12, w, h => am_t1 (am_uses am_lkJ0_ix w h)
  | 13, w, h => am_t1 (am_uses am_lkJ1_ix w h)
  | 14, w, h => am_t1 (am_uses am_lkJ6_ix w h)
  | 15, w, h => am_t1 (am_uses am_lkJ7_ix w h)
  | n + 16, w, h => (List.not_mem_nil h).elim
def am_cd (f : Nat) : Cond := Cond.code (am_m f).1 (am_m f).2.1 (am_m f).2.2.1 (am_m f).2.2.2.1
def am_ws (f : Nat) : List Cond := am_cd f :: am_tb
def am_room (d : Nat) : Room := { frames := d, cells := 0, slots := 0, locals := 40 * d }
def am_rok (Rm : Room) (d cs ss : Nat) : Prop := d + 1 ≤ Rm.frames ∧ 40 * (d + 1) ≤ Rm.locals ∧ cs ≤ Rm.cells ∧ ss ≤ Rm.slots
theorem am_cd_in {f : Nat} (hf : f < am_NM) : am_cd f ∈ lw_tbl := by
  by_cases h : f < 290
  · have z := am_okd_all h
    unfold am_okd at z
    unfold am_cd
    rcases hm : am_m f with ⟨y, bc, nL, rt, stc, na, k⟩
    rcases hx : am_nth (0, 0, 0, 0) am_mix f with ⟨c, ini, a, b⟩
    rw [hm, hx] at z
    exact List.mem_of_getElem? (of_decide_eq_true z)
  · have hf : f < 292 := hf
    by_cases h2 : f = 290
    · subst h2
      exact List.mem_of_getElem? am_okd_b290
    · have h3 : f = 291 := by omega
      subst h3
      exact List.mem_of_getElem? am_okd_b291
theorem am_f_c {f : Nat} (hf : f < am_NM) : plainName (am_m f).1.cls = true ∧ am_cd f ∈ lw_tbl ∧ Cond.initialized (am_m f).1.cls ∈ lw_tbl ∧ (am_m f).2.2.1 ≤ 20 ∧ (am_m f).1.cls ≠ "java/lang/invoke/MethodHandle" ∧ (am_m f).1.cls ≠ "java/lang/invoke/VarHandle" ∧ (parseMethodDescriptor (am_m f).1.desc).map (fun d => d.parameters.length) = some (am_m f).2.2.2.2.2.1 ∧ ((am_m f).2.2.2.2.1 = true → Cond.static (am_m f).1 ∈ lw_tbl) ∧ ((am_m f).2.2.2.2.1 = false → Cond.instanceMethod (am_m f).1 ∈ lw_tbl ∧ Cond.selects (am_m f).1.cls (am_m f).1 (am_m f).1 ∈ lw_tbl) := by
  have z := am_okc_all hf
  have zc := am_cd_in hf
  unfold am_okc at z
  unfold am_cd at zc ⊢
  rcases hm : am_m f with ⟨y, bc, nL, rt, stc, na, k⟩
  rcases hx : am_nth (0, 0, 0, 0) am_mix f with ⟨c, ini, a, b⟩
  rw [hm, hx] at z
  rw [hm] at zc
  simp only [Bool.and_eq_true, decide_eq_true_eq] at z
  obtain ⟨⟨⟨⟨⟨⟨z1, z3⟩, z4⟩, z5⟩, z6⟩, z7⟩, z8⟩ := z
  refine ⟨z1, zc, List.mem_of_getElem? z3, z4, z5, z6, z7, fun q => ?_, fun q => ?_⟩
  · have q : stc = true := q
    subst q
    simp only [decide_eq_true_eq] at z8
    exact List.mem_of_getElem? z8
  · have q : stc = false := q
    subst q
    simp only [Bool.and_eq_true, decide_eq_true_eq] at z8
    exact ⟨List.mem_of_getElem? z8.1, List.mem_of_getElem? z8.2⟩
theorem am_goodIn {f : Nat} (hf : f < am_NM) : GoodIn am_tb (am_ws f) := by
  have all : ∀ w ∈ am_tb, w ∈ am_tb ∧ ((w.onTables && w.keeps) = true ∨ ∃ ty, w = .arrayClass ty) := fun w hw => ⟨hw, good_of_word (List.mem_filter.mp hw).2⟩
  intro w hw
  rcases List.mem_cons.mp hw with e | e
  · subst e
    exact all _ (am_tb_i (am_f_c hf).2.1 rfl)
  · exact all w e
set_option maxRecDepth 1000000 in
theorem am_mx1 : Cond.static Lib.Math.max.name ∈ tables_1 := List.mem_of_getElem? (i := 497) (by decide +kernel)
set_option maxRecDepth 1000000 in
theorem am_mx2 : Cond.code Lib.Math.max.name Lib.Math.max.code 2 (some .int) ∈ tables_1 := List.mem_of_getElem? (i := 498) (by decide +kernel)
set_option maxRecDepth 1000000 in
theorem am_mx3 : Cond.static Lib.Math.min.name ∈ tables_1 := List.mem_of_getElem? (i := 500) (by decide +kernel)
set_option maxRecDepth 1000000 in
theorem am_mx4 : Cond.code Lib.Math.min.name Lib.Math.min.code 2 (some .int) ∈ tables_1 := List.mem_of_getElem? (i := 501) (by decide +kernel)
set_option maxRecDepth 1000000 in
theorem am_mx5 : Cond.initialized "java/lang/Math" ∈ tables_1 := List.mem_of_getElem? (i := 14) (by decide +kernel)
set_option maxRecDepth 1000000 in
theorem am_mx6 : Cond.static arraycopyName ∈ tables_1 := List.mem_of_getElem? (i := 419) (by decide +kernel)
set_option maxRecDepth 1000000 in
theorem am_mx7 : Cond.native arraycopyName ∈ tables_1 := List.mem_of_getElem? (i := 420) (by decide +kernel)
set_option maxRecDepth 1000000 in
theorem am_mx8 : Cond.initialized "java/lang/System" ∈ tables_1 := List.mem_of_getElem? (i := 13) (by decide +kernel)
def am_ih (l : Launch) (G : am_G) (d : Nat) : Prop := ∀ (f : Nat) (args : List Value) (mi : am_MI) (ml : am_ML) (R : am_R), f < am_NM → am_call d f args mi ml R → Met l (am_m f).1 (am_ws f) (am_room d) (va_Pc (args.map (am_tv G)) (fun U => am_wd G U U.heap mi ml)) (am_Q G R) 0 0 (am_A G)
section AMC
variable {p : Program} {l : Launch} {e : Env} {Rm : Room} {s : State} {m : MethodId} {args : Array Value} {below : List Frame} {meth : Method} {c : Code} {cs ss : Nat} {Q : State → Prop}
variable {G : am_G} {y : MethodName} {bc : ByteArray} {nL : Nat} {rt : Option FieldType} {lk : List Cond} {t : List am_row} {Rr : am_R} {cl : am_C}
variable {i pc len k1 k2 k3 d : Nat} {v : Int32} {sw : List (Int32 × Nat)} {lo : am_L} {st : List Value} {mi : am_MI} {ml : am_ML}
theorem am_callk {R' : am_R} {a : Array Value} {ls : Array Slot} {st0 rest : List Value} {H : Heap} {locs : List Loc} (hr : va_Run p l e Rm s m args below meth c H locs cs ss 0 0 (F0 m pc ls st0) rest (am_Q G R' a) (am_A G)) (hS : va_S (am_A G) s.heap H locs)
    (kk : ∀ (r : Option Value) (mi : am_MI) (ml : am_ML) (H1 : Heap) (locs1 : List Loc), R' r mi ml → am_hp G H1 mi ml → va_S (am_A G) s.heap H1 locs1 → W p l e Rm s m args below meth c H1 locs1 cs ss Q (F0 m (pc + 3) ls ((r.map (am_tv G)).toList ++ rest))) : W p l e Rm s m args below meth c H locs cs ss Q (F0 m pc ls st0) := by
  intro T hT X
  obtain ⟨v, st₀, t, T', L, h0, X', hL, e1, e2, ⟨⟨r, mi, ml, hv, hp, hb⟩, hz, hk⟩, st⟩ := hr T hT X
  cases hv
  rw [h0] at hz hk
  obtain ⟨t2, a1, b1⟩ := kk r mi ml T'.heap (locs ++ L) hp (by rw [e1]; exact hb)
    ⟨Nat.le_trans hS.1 (by rw [e1]; exact hz), fun q h1 h2 => by rw [e1, hk q (Nat.lt_of_lt_of_le h1 hS.1) h2]; exact hS.2.1 q h1 h2, fun q hq => (List.mem_append.mp hq).elim (hS.2.2 q) (hL q)⟩ T' rfl X'
  exact ⟨t2, st t2 a1, b1⟩
theorem am_sum_le {st : List Value} (h : am_cat st ≤ 8) : ((st.map (am_tv G)).map fun v => v.category).sum ≤ 8 := by
  rw [am_cat_sum, am_cat_tv]
  exact h
theorem am_room_1 (hR : am_rok Rm d cs ss) : 1 ≤ Rm.frames := Nat.le_trans (Nat.le_add_left 1 d) hR.1
theorem am_room_2 {k : Nat} (hR : am_rok Rm d cs ss) (hk : k ≤ 40) : k ≤ Rm.locals := by
  have := hR.2.1
  omega
theorem am_room_3 {n : Nat} (hR : am_rok Rm d cs ss) (hn : n ≤ 20) : (am_room d).frames + 1 ≤ Rm.frames ∧ 8 + (n + 11) + (am_room d).locals ≤ Rm.locals := by
  refine ⟨hR.1, ?_⟩
  have h2 := hR.2.1
  show 8 + (n + 11) + 40 * d ≤ Rm.locals
  omega
theorem am_kres {ls : Array Slot} {H : Heap} {locs : List Loc} {rest : List Value} (hn : am_pcs t (i + 1) = pc + 3) (g1 : am_lv G nL lo ls) {r : Option Value} {mi : am_MI} {ml : am_ML} (h : (match k3 with
    | 0 => am_rv fun mi ml => am_mo p l e Rm s m args below meth c cs ss Q G nL t (i + 1) lo rest mi ml
    | 1 => am_ri fun x mi ml => am_mo p l e Rm s m args below meth c cs ss Q G nL t (i + 1) lo (.int x :: rest) mi ml
    | 2 => am_rj fun x mi ml => am_mo p l e Rm s m args below meth c cs ss Q G nL t (i + 1) lo (.long x :: rest) mi ml
    | _ => am_rr fun x mi ml => am_mo p l e Rm s m args below meth c cs ss Q G nL t (i + 1) lo (.ref x :: rest) mi ml) r mi ml) (g2 : am_hp G H mi ml) (g3 : va_S (am_A G) s.heap H locs) :
    W p l e Rm s m args below meth c H locs cs ss Q (F0 m (pc + 3) ls ((r.map (am_tv G)).toList ++ rest.map (am_tv G))) := by
  rw [← hn]
  split at h
  · obtain ⟨e, h⟩ := h
    subst e
    exact h ls H locs g1 g2 g3
  · obtain ⟨x, e, h⟩ := h
    subst e
    exact h ls H locs g1 g2 g3
  · obtain ⟨x, e, h⟩ := h
    subst e
    exact h ls H locs g1 g2 g3
  · obtain ⟨x, e, h⟩ := h
    subst e
    exact h ls H locs g1 g2 g3
theorem am_pre {ls : Array Slot} {H : Heap} {locs : List Loc} {vs : List Value} (hK : va_K G.2.1 vwCl (am_ty G) s) (hX : am_sx G s s.heap) (g2 : am_hp G H mi ml) (g3 : va_S (am_A G) s.heap H locs) : PreS s H (va_Pc vs (fun U => am_wd G U U.heap mi ml)) vs := by
  refine ⟨fun a U g mk q => ⟨q.1, am_wd_vm rfl q.2⟩, fun U hU hW => ⟨rfl, ?_⟩⟩
  show am_wd G U U.heap mi ml
  rw [hU]
  exact ⟨g2, hK.moved hW.alike, am_sx_on hW g3.2.1 hX⟩
theorem am_s_invokestatic (F : am_fr p s m args meth c G y bc nL rt lk) {q : Nat} (hR : am_rok Rm d cs ss) (IH : am_ih l G d) (hc : am_chk y bc nL rt lk t i (pc, (.invokestatic q), len, k1, k2, k3, v, sw) = true) (hi : am_pcs t i = pc) (h : am_inv (am_mo p l e Rm s m args below meth c cs ss Q G nL t) i lo st mi ml (am_call d) k1 k2 k3) : (am_mo p l e Rm s m args below meth c cs ss Q G nL t) i lo st mi ml := by
  obtain ⟨hx, hb, hml, hr, hlocks, hts, hlk, hown, hK, hX⟩ := F
  have hc : (decide (decode bc pc = .ok (.invokestatic q, len)) && (len == 3 && am_pcs t (i + 1) == pc + 3 && (match (generalizing := false) k1 with
      | 1000 => decide (Cond.methodLink y.cls q Lib.Math.max.name ∈ lk)
      | 1001 => decide (Cond.methodLink y.cls q Lib.Math.min.name ∈ lk)
      | 1002 => decide (Cond.methodLink y.cls q arraycopyName ∈ lk)
      | 2001 => true
      | _ => decide (k1 < am_NM) && decide (Cond.methodLink y.cls q (am_m k1).1 ∈ lk) && (am_m k1).2.2.2.2.1 == true && k2 == (am_m k1).2.2.2.2.2.1 && k3 == am_rko (am_m k1).2.2.2.1))) = true := hc
  simp only [Bool.and_eq_true, decide_eq_true_eq, beq_iff_eq] at hc
  obtain ⟨hd, ⟨hl, hn⟩, hm⟩ := hc
  subst hl
  unfold am_inv at h
  split at h
  · have hm : decide (Cond.methodLink y.cls q Lib.Math.max.name ∈ lk) = true := hm
    unfold am_bic at h
    split at h
    · intro ls H locs g1 g2 g3
      have hcat := Nat.le_of_ble_eq_true (am_need_e h).1
      have z := (am_need_e h).2 ls H locs g1 g2 g3
      rw [hn] at z
      rw [hi]
      exact va_mmax hx hb (hml.trans g1.1.symm) hown (hts _ (am_tb_i (hlk _ (of_decide_eq_true hm)) rfl)) (hts _ (am_tb_i (am_t1 am_mx1) rfl)) (hts _ (am_tb_i (am_t1 am_mx5) rfl)) (hts _ (am_tb_i (am_t1 am_mx2) rfl)) (am_room_1 hR) (Nat.le_trans (Nat.add_le_add_right (am_sum_le hcat) 13) (am_room_2 hR (by omega))) hR.2.2.1 hR.2.2.2 hd z
    · exact h.elim
  · have hm : decide (Cond.methodLink y.cls q Lib.Math.min.name ∈ lk) = true := hm
    unfold am_bic at h
    split at h
    · intro ls H locs g1 g2 g3
      have hcat := Nat.le_of_ble_eq_true (am_need_e h).1
      have z := (am_need_e h).2 ls H locs g1 g2 g3
      rw [hn] at z
      rw [hi]
      exact va_mmin hx hb (hml.trans g1.1.symm) hown (hts _ (am_tb_i (hlk _ (of_decide_eq_true hm)) rfl)) (hts _ (am_tb_i (am_t1 am_mx3) rfl)) (hts _ (am_tb_i (am_t1 am_mx5) rfl)) (hts _ (am_tb_i (am_t1 am_mx4) rfl)) (am_room_1 hR) (Nat.le_trans (Nat.add_le_add_right (am_sum_le hcat) 13) (am_room_2 hR (by omega))) hR.2.2.1 hR.2.2.2 hd z
    · exact h.elim
  · have hm : decide (Cond.methodLink y.cls q arraycopyName ∈ lk) = true := hm
    unfold am_cpy at h
    split at h
    · rename_i n dp b sp a rest
      obtain ⟨c6, c1, c2, c3, c4, c5, h⟩ := am_need_e h
      have c6 := Nat.le_of_ble_eq_true c6
      have hlocals : ((rest.map (am_tv G)).map fun v => v.category).sum + (nativeFrameWords "java/lang/System" "arraycopy" 5 + 11) ≤ Rm.locals :=
        Nat.le_trans (Nat.add_le_add_right (am_sum_le c6) _) (am_room_2 hR (by decide))
      intro ls H locs g1 g2 g3
      rw [hi]
      split at h
      · rename_i ka kb
        refine va_copyi hx hb (hml.trans g1.1.symm) hown (hts _ (am_tb_i (hlk _ (of_decide_eq_true hm)) rfl)) (hts _ (am_tb_i (am_t1 am_mx7) rfl)) (hts _ (am_tb_i (am_t1 am_mx6) rfl)) (hts _ (am_tb_i (am_t1 am_mx8) rfl)) hK g2.1 g2.2.1 g3 a b 0 0 (by rw [am_wl_at (am_78 (am_k2 ka)), am_en2 ka]) (by rw [am_wl_at (am_78 (am_k2 kb)), am_en2 kb]) rfl rfl rfl c1 c2 c3 c4 c5 (fun _ _ => rfl) (am_room_1 hR) hlocals hd (fun H1 locs1 f1 f2 f3 => ?_)
        rw [am_wl_ci kb] at f1 f2
        rw [← hn]
        exact h ls H1 locs1 g1 ⟨f1, f2, am_hp_ci (am_k2 kb) g2.2.2⟩ f3
      · rename_i ka kb
        refine va_copyl hx hb (hml.trans g1.1.symm) hown (hts _ (am_tb_i (hlk _ (of_decide_eq_true hm)) rfl)) (hts _ (am_tb_i (am_t1 am_mx7) rfl)) (hts _ (am_tb_i (am_t1 am_mx6) rfl)) (hts _ (am_tb_i (am_t1 am_mx8) rfl)) hK g2.1 g2.2.1 g3 a b 1 1 (by rw [am_wl_at (am_78 (am_k3 ka)), am_en3 ka]) (by rw [am_wl_at (am_78 (am_k3 kb)), am_en3 kb]) rfl rfl rfl c1 c2 c3 c4 c5 (fun _ _ => rfl) (am_room_1 hR) hlocals hd (fun H1 locs1 f1 f2 f3 => ?_)
        rw [am_wl_cj kb] at f1 f2
        rw [← hn]
        exact h ls H1 locs1 g1 ⟨f1, f2, g2.2.2⟩ f3
      · exact h.elim
    · exact h.elim
  · exact h.elim
  · rename_i n1 n2 n3 n4
    split at hm
    · exact (n1 rfl).elim
    · exact (n2 rfl).elim
    · exact (n3 rfl).elim
    · exact (n4 rfl).elim
    · simp only [Bool.and_eq_true, decide_eq_true_eq, beq_iff_eq] at hm
      obtain ⟨⟨⟨⟨hlt, hlnk⟩, hst⟩, hk2⟩, -⟩ := hm
      obtain ⟨w1, w2, w3, w4, w5, w6, w7, w8, -⟩ := am_f_c hlt
      unfold am_call0 at h
      obtain ⟨c0, h⟩ := am_need_e h
      simp only [Bool.and_eq_true, Nat.ble_eq] at c0
      obtain ⟨c1, c2⟩ := c0
      intro ls H locs g1 g2 g3
      rw [hi]
      refine am_callk (va_runS (As := ((st.take k2).reverse).map (am_tv G)) (rest := (st.drop k2).map (am_tv G)) ⟨hx, hb, hml, hown, hts⟩ (IH _ _ _ _ _ hlt h) ⟨callB_of k2 hts (am_goodIn hlt) rfl rfl rfl (hts _ (am_tb_i w3 rfl)) (hts _ (am_tb_i (hlk _ hlnk) rfl)) ⟨w5, w6, by rw [w7, hk2]⟩ (am_room_3 hR w4), hts _ (am_tb_i (w8 hst) rfl)⟩ (am_pre (ls := ls) hK hX g2 g3) rfl ?_ g1.1 ?_ (lv_room (am_sum_le c2)) hd ⟨hR.2.2.1, hR.2.2.2⟩) g3 (fun r mi2 ml2 H1 locs1 q1 q2 q3 => am_kres hn g1 q1 q2 q3)
      · rw [List.length_map, List.length_reverse, List.length_take]
        omega
      · show st.map (am_tv G) = (((st.take k2).reverse).map (am_tv G)).reverse ++ (st.drop k2).map (am_tv G)
        rw [← List.map_reverse, List.reverse_reverse, ← List.map_append, List.take_append_drop]
theorem am_s_invokevirtual (F : am_fr p s m args meth c G y bc nL rt lk) {q : Nat} (hR : am_rok Rm d cs ss) (IH : am_ih l G d) (hv : am_rcv st k1 k2 = true) (hc : am_chk y bc nL rt lk t i (pc, (.invokevirtual q), len, k1, k2, k3, v, sw) = true) (hi : am_pcs t i = pc) (h : am_inv (am_mo p l e Rm s m args below meth c cs ss Q G nL t) i lo st mi ml (am_call d) k1 k2 k3) : (am_mo p l e Rm s m args below meth c cs ss Q G nL t) i lo st mi ml := by
  obtain ⟨hx, hb, hml, hr, hlocks, hts, hlk, hown, hK, hX⟩ := F
  have hc : (decide (decode bc pc = .ok (.invokevirtual q, len)) && (len == 3 && am_pcs t (i + 1) == pc + 3 && (match (generalizing := false) k1 with
      | 1000 => false
      | 1001 => false
      | 1002 => false
      | 2001 => true
      | _ => decide (k1 < am_NM) && decide (Cond.methodLink y.cls q (am_m k1).1 ∈ lk) && (am_m k1).2.2.2.2.1 == false && k2 == (am_m k1).2.2.2.2.2.1 + 1 && k3 == am_rko (am_m k1).2.2.2.1))) = true := hc
  simp only [Bool.and_eq_true, decide_eq_true_eq, beq_iff_eq] at hc
  obtain ⟨hd, ⟨hl, hn⟩, hm⟩ := hc
  subst hl
  unfold am_inv at h
  split at h
  · exact Bool.noConfusion (show false = true from hm)
  · exact Bool.noConfusion (show false = true from hm)
  · exact Bool.noConfusion (show false = true from hm)
  · exact h.elim
  · rename_i n1 n2 n3 n4
    split at hm
    · exact (n1 rfl).elim
    · exact (n2 rfl).elim
    · exact (n3 rfl).elim
    · exact (n4 rfl).elim
    · simp only [Bool.and_eq_true, decide_eq_true_eq, beq_iff_eq] at hm
      obtain ⟨⟨⟨⟨hlt, hlnk⟩, hst⟩, hk2⟩, -⟩ := hm
      obtain ⟨w1, w2, w3, w4, w5, w6, w7, -, w9⟩ := am_f_c hlt
      unfold am_call0 at h
      obtain ⟨c0, h⟩ := am_need_e h
      simp only [Bool.and_eq_true, Nat.ble_eq] at c0
      obtain ⟨c1, c2⟩ := c0
      generalize hna : (am_m k1).2.2.2.2.2.1 = na at hk2 w7
      subst hk2
      unfold am_rcv at hv
      rw [Nat.add_sub_cancel] at hv
      split at hv
      · rename_i a rest2 hdr
        have hv := eq_of_beq hv
        have hdr2 : st.drop (na + 1) = rest2 := by
          rw [← List.drop_drop, hdr]
          rfl
        have htk : st.take (na + 1) = st.take na ++ [.ref a] := by
          rw [List.take_add, hdr]
          rfl
        rw [htk, hdr2] at h
        rw [hdr2] at c2
        rw [List.reverse_append] at h
        intro ls H locs g1 g2 g3
        rw [hi]
        have hrec : ∃ cellB : Cell, H[G.1 a]? = some cellB ∧ cellB.vm.isStatics = false ∧ s.vm.findClass (am_m k1).1.cls = some cellB.cls := by
          have hkk := am_okk_all hlt
          unfold am_okk at hkk
          rcases hm1 : am_m k1 with ⟨y1, bc1, nL1, rt1, stc1, na1, lk1⟩
          rw [hm1] at hkk hst
          have hst : stc1 = false := hst
          subst hst
          simp only [Bool.false_or] at hkk
          split at hkk
          · rename_i r er
            have hlt2 := am_vw_lt er
            obtain ⟨ha1, ha2⟩ := am_oc_1 hv (by omega)
            obtain ⟨haN, C2, T2, er2⟩ := am_k1 ha1
            have he : (am_wl G mi ml)[a]? = some (G.1 a, .inr (am_mk k1, am_fs G mi a (am_mk k1) (am_f a))) := by rw [am_wl_at (am_78 haN), am_en1 ha1, ha2]
            have z := va_recv hK g2.1 er he
            rw [eq_of_beq hkk] at z
            exact z
          · simp only [Bool.and_eq_true, beq_iff_eq] at hkk
            rw [hkk.1] at hv
            obtain ⟨⟨cell, e1, e2, e3, e4⟩, -, -⟩ := hX.2.2.2.2.1 a (am_oc_7 hv)
            refine ⟨cell, ?_, e2, ?_⟩
            · rw [g3.2.1 _ (Array.getElem?_eq_some_iff.mp e1).1 e4]
              exact e1
            · show s.vm.findClass y1.cls = _
              rw [hkk.2]
              exact e3
        have hpre := am_pre (ls := ls) (vs := ([Value.ref a].reverse ++ (st.take na).reverse).map (am_tv G)) hK hX g2 g3
        refine am_callk (va_runV (C := (am_m k1).1.cls) (b := G.1 a) (As := ((st.take na).reverse).map (am_tv G)) (rest := rest2.map (am_tv G)) ⟨hx, hb, hml, hown, hts⟩ (IH _ _ _ _ _ hlt h) ⟨callB_of na hts (am_goodIn hlt) rfl rfl rfl (hts _ (am_tb_i w3 rfl)) (hts _ (am_tb_i (hlk _ hlnk) rfl)) ⟨w5, w6, w7⟩ (am_room_3 hR w4), hts _ (am_tb_i (w9 hst).1 rfl), hts _ (am_tb_i (w9 hst).2 rfl)⟩ ⟨hpre.1, hrec, hpre.2⟩ rfl ?_ g1.1 ?_ (lv_room (am_sum_le c2)) hd ⟨hR.2.2.1, hR.2.2.2⟩) g3 (fun r mi2 ml2 H1 locs1 q1 q2 q3 => am_kres hn g1 q1 q2 q3)
        · rw [List.length_map, List.length_reverse, List.length_take]
          omega
        · show st.map (am_tv G) = (((st.take na).reverse).map (am_tv G)).reverse ++ (am_tv G (.ref a) :: rest2.map (am_tv G))
          rw [← List.map_reverse, List.reverse_reverse, ← List.map_cons, ← hdr, ← List.map_append, List.take_append_drop]
      · cases hv
end AMC
