/-! fields and arrays -/
set_option maxRecDepth 1000000 in
theorem am_uw_0 : [55, 57, 59, 61].map (fun i => tables_1[i]?) = (u_ws RX0 TX0 4).map some := by decide +kernel
set_option maxRecDepth 1000000 in
theorem am_uw_1 : [75, 77, 79].map (fun i => tables_1[i]?) = (u_ws RX1 TX1 3).map some := by decide +kernel
set_option maxRecDepth 1000000 in
theorem am_uw_2 : [265, 267, 269, 271, 273, 275, 277, 279, 281, 283, 285, 287].map (fun i => tables_1[i]?) = (u_ws RX2 TX2 12).map some := by decide +kernel
set_option maxRecDepth 1000000 in
theorem am_uw_3 : [206, 208, 210, 212, 214, 216, 218, 220, 222, 224].map (fun i => tables_1[i]?) = (u_ws RX3 TX3 10).map some := by decide +kernel
set_option maxRecDepth 1000000 in
theorem am_uw_4 : [159, 161, 163, 165, 167, 169, 171, 173, 175, 177, 179, 181, 183].map (fun i => tables_1[i]?) = (u_ws RX4 TX4 13).map some := by decide +kernel
set_option maxRecDepth 1000000 in
theorem am_uw_5 : [100, 102, 104, 106, 108, 110, 112, 114, 116, 118].map (fun i => tables_1[i]?) = (u_ws RX5 TX5 10).map some := by decide +kernel
set_option maxRecDepth 1000000 in
theorem am_uw_6 : [301, 303, 305, 307].map (fun i => tables_1[i]?) = (u_ws RX6 TX6 4).map some := by decide +kernel
set_option maxRecDepth 1000000 in
theorem am_uw_7 : [322, 324, 326, 328, 330].map (fun i => tables_1[i]?) = (u_ws RX7 TX7 5).map some := by decide +kernel
set_option maxRecDepth 1000000 in
theorem am_uw_8 : [235, 237].map (fun i => tables_1[i]?) = (u_ws RX8 TX8 2).map some := by decide +kernel
set_option maxRecDepth 1000000 in
theorem am_uw_9 : [130, 132, 134].map (fun i => tables_1[i]?) = (u_ws RX9 TX9 3).map some := by decide +kernel
set_option maxRecDepth 1000000 in
theorem am_uw_10 : [344, 346, 348, 350, 352, 354, 356, 358, 360, 362].map (fun i => tables_1[i]?) = (u_ws RX10 TX10 10).map some := by decide +kernel
set_option maxRecDepth 1000000 in
theorem am_uw_11 : [1299, 1301, 1303, 1305].map (fun i => tables_1[i]?) = (u_ws RJ0 TJ0 4).map some := by decide +kernel
set_option maxRecDepth 1000000 in
theorem am_uw_12 : [1116, 1118, 1120, 1122].map (fun i => tables_1[i]?) = (u_ws RJ4 TJ4 4).map some := by decide +kernel
theorem am_t1 {w : Cond} (h : w ∈ tables_1) : w ∈ lw_tbl := List.mem_append_right _ h
theorem am_lay_good {C : String} {T : u_T} {N : Nat} : ∀ w ∈ u_ws C T N, goodWord w = true := by
  intro w hw
  obtain ⟨k, -, e⟩ := List.mem_map.mp hw
  subst e
  unfold u_lay
  split <;> rfl
theorem am_vw : ∀ {c : Nat} {r : vw_C}, vwCl[c]? = some r → (∀ w ∈ u_ws r.1 r.2.1 r.2.2, w ∈ am_tb) ∧ (∃ ty0 : Nat → FieldType, ∀ k, k < r.2.2 → parseFieldDescriptor (r.2.1 k).2.2.1 = some (ty0 k)) ∧ ∀ a, a < r.2.2 → ∀ b, b < r.2.2 → a ≠ b → (r.2.1 a).2.1 ≠ (r.2.1 b).2.1
  | 0, r, h => by
    have h := Option.some.inj ((rfl : vwCl[0]? = some (RX0, TX0, 4)).symm.trans h)
    subst h
    exact ⟨fun w hw => am_tb_i (am_t1 (am_uses am_uw_0 w hw)) (am_lay_good w hw), ⟨_, tyX0_ok⟩, nmX0⟩
  | 1, r, h => by
    have h := Option.some.inj ((rfl : vwCl[1]? = some (RX1, TX1, 3)).symm.trans h)
    subst h
    exact ⟨fun w hw => am_tb_i (am_t1 (am_uses am_uw_1 w hw)) (am_lay_good w hw), ⟨_, tyX1_ok⟩, nmX1⟩
  | 2, r, h => by
    have h := Option.some.inj ((rfl : vwCl[2]? = some (RX2, TX2, 12)).symm.trans h)
    subst h
    exact ⟨fun w hw => am_tb_i (am_t1 (am_uses am_uw_2 w hw)) (am_lay_good w hw), ⟨_, tyX2_ok⟩, nmX2⟩
  | 3, r, h => by
    have h := Option.some.inj ((rfl : vwCl[3]? = some (RX3, TX3, 10)).symm.trans h)
    subst h
    exact ⟨fun w hw => am_tb_i (am_t1 (am_uses am_uw_3 w hw)) (am_lay_good w hw), ⟨_, tyX3_ok⟩, nmX3⟩
  | 4, r, h => by
    have h := Option.some.inj ((rfl : vwCl[4]? = some (RX4, TX4, 13)).symm.trans h)
    subst h
    exact ⟨fun w hw => am_tb_i (am_t1 (am_uses am_uw_4 w hw)) (am_lay_good w hw), ⟨_, tyX4_ok⟩, nmX4⟩
  | 5, r, h => by
    have h := Option.some.inj ((rfl : vwCl[5]? = some (RX5, TX5, 10)).symm.trans h)
    subst h
    exact ⟨fun w hw => am_tb_i (am_t1 (am_uses am_uw_5 w hw)) (am_lay_good w hw), ⟨_, tyX5_ok⟩, nmX5⟩
  | 6, r, h => by
    have h := Option.some.inj ((rfl : vwCl[6]? = some (RX6, TX6, 4)).symm.trans h)
    subst h
    exact ⟨fun w hw => am_tb_i (am_t1 (am_uses am_uw_6 w hw)) (am_lay_good w hw), ⟨_, tyX6_ok⟩, nmX6⟩
  | 7, r, h => by
    have h := Option.some.inj ((rfl : vwCl[7]? = some (RX7, TX7, 5)).symm.trans h)
    subst h
    exact ⟨fun w hw => am_tb_i (am_t1 (am_uses am_uw_7 w hw)) (am_lay_good w hw), ⟨_, tyX7_ok⟩, nmX7⟩
  | 8, r, h => by
    have h := Option.some.inj ((rfl : vwCl[8]? = some (RX8, TX8, 2)).symm.trans h)
    subst h
    exact ⟨fun w hw => am_tb_i (am_t1 (am_uses am_uw_8 w hw)) (am_lay_good w hw), ⟨_, tyX8_ok⟩, nmX8⟩
  | 9, r, h => by
    have h := Option.some.inj ((rfl : vwCl[9]? = some (RX9, TX9, 3)).symm.trans h)
    subst h
    exact ⟨fun w hw => am_tb_i (am_t1 (am_uses am_uw_9 w hw)) (am_lay_good w hw), ⟨_, tyX9_ok⟩, nmX9⟩
  | 10, r, h => by
    have h := Option.some.inj ((rfl : vwCl[10]? = some (RX10, TX10, 10)).symm.trans h)
    subst h
    exact ⟨fun w hw => am_tb_i (am_t1 (am_uses am_uw_10 w hw)) (am_lay_good w hw), ⟨_, tyX10_ok⟩, nmX10⟩
  | 11, r, h => by
    have h := Option.some.inj ((rfl : vwCl[11]? = some (RJ0, TJ0, 4)).symm.trans h)
    subst h
    exact ⟨fun w hw => am_tb_i (am_t1 (am_uses am_uw_11 w hw)) (am_lay_good w hw), ⟨_, tyJ0_ok⟩, nmJ0⟩
  | 12, r, h => by
    have h := Option.some.inj ((rfl : vwCl[12]? = some (RJ4, TJ4, 4)).symm.trans h)
    subst h
    exact ⟨fun w hw => am_tb_i (am_t1 (am_uses am_uw_12 w hw)) (am_lay_good w hw), ⟨_, tyJ4_ok⟩, nmJ4⟩
  | n + 13, r, h => by cases h
theorem am_vw_lt {c : Nat} {r : vw_C} (h : vwCl[c]? = some r) : c < 13 := (List.getElem?_eq_some_iff.mp h).1
theorem am_oc_1 {a k : Nat} (h : am_oc a = k) (hk : k < 100) : am_kd a = 1 ∧ am_n a = k := by
  unfold am_oc at h
  split at h
  · rename_i e
    exact ⟨e, h⟩
  · omega
  · omega
theorem am_oc_7 {a : Nat} (h : am_oc a = 100) : am_kd a = 7 := by
  unfold am_oc at h
  split at h
  · rename_i e
    obtain ⟨-, C, T, e2⟩ := am_k1 e
    have := am_vw_lt e2
    omega
  · assumption
  · omega
section AMM2
variable {p : Program} {l : Launch} {e : Env} {Rm : Room} {s : State} {m : MethodId} {args : Array Value} {below : List Frame} {meth : Method} {c : Code} {cs ss : Nat} {Q : State → Prop}
variable {G : am_G} {y : MethodName} {bc : ByteArray} {nL : Nat} {rt : Option FieldType} {lk : List Cond} {t : List am_row} {Rr : am_R} {cl : am_C}
variable {i pc len k1 k2 k3 : Nat} {v : Int32} {sw : List (Int32 × Nat)} {lo : am_L} {st : List Value} {mi : am_MI} {ml : am_ML}
theorem am_s_getfield (F : am_fr p s m args meth c G y bc nL rt lk) {q : Nat} (hc : am_chk y bc nL rt lk t i (pc, (.getfield q), len, k1, k2, k3, v, sw) = true) (hi : am_pcs t i = pc) (h : am_get (am_mo p l e Rm s m args below meth c cs ss Q G nL t) i lo st mi ml k1 k2 k3) : (am_mo p l e Rm s m args below meth c cs ss Q G nL t) i lo st mi ml := by
  obtain ⟨hx, hb, hml, hr, hlocks, hts, hlk, hown, hK, hX⟩ := F
  have hc : (decide (decode bc pc = .ok (.getfield q, len)) && (len == 3 && am_pcs t (i + 1) == pc + 3 && ((k1 == 100 && decide (Cond.fieldLink y.cls q "java/lang/String" (am_sfn k2).1 (am_sfn k2).2 ∈ lk) && ((k2 == 0 && k3 == 2) || (k2 == 1 && k3 == 0))) || match (generalizing := false) vwCl[k1]? with
      | some (C, T, N) => decide (k2 < N) && (T k2).1 == C && (decide (Cond.fieldLink y.cls q C (T k2).2.1 (T k2).2.2.1 ∈ lk) || decide (Cond.fieldLinkNest y.cls q C (T k2).2.1 (T k2).2.2.1 am_host ∈ lk)) && (am_isr (T k2).2.2.1 == (k3 == 2))
      | none => false))) = true := hc
  simp only [Bool.and_eq_true, Bool.or_eq_true, decide_eq_true_eq, beq_iff_eq] at hc
  obtain ⟨hd, ⟨hl, hn⟩, hor⟩ := hc
  subst hl
  unfold am_get at h
  split at h
  · rename_i a rest
    have hoc := eq_of_beq (am_need_e h).1
    replace h := (am_need_e h).2
    intro ls H locs g1 g2 g3
    rw [hi]
    rcases hor with ⟨⟨hk1, hlnk⟩, hkk⟩ | ho
    · subst hk1
      have r0 := am_oc_7 hoc
      have r1 := am_k7 r0
      obtain ⟨hO, hcod, hval⟩ := hX.2.2.2.2.1 a r0
      rcases hkk with ⟨hk2, hk3⟩ | ⟨hk2, hk3⟩
      · subst hk2 hk3
        have z := h ls H locs g1 g2 g3
        rw [hn] at z
        exact va_getX (N := 1) (v := fun _ => .ref (G.1 (am_rf a 0))) (ad := fun _ => G.1 a) (i := 0) hx hb (fun _ _ => hval) (by omega) g3 hown (hts _ (am_tb_i (hlk _ hlnk) rfl)) (fun _ w => w) hd z
      · subst hk2 hk3
        have z := h ls H locs g1 g2 g3
        rw [hn] at z
        have h114 : am_N ≤ a := Nat.le_trans (by decide) r1
        have hv : mi a 1 = G.2.2.2 a 1 := by rw [g2.2.2.1 a h114]
        have z : W p l e Rm s m args below meth c H locs cs ss Q (F0 m (pc + 3) ls (.int (G.2.2.2 a 1) :: rest.map (am_tv G))) := by rw [← hv]; exact z
        exact va_getX (N := 1) (v := fun _ => .int (G.2.2.2 a 1)) (ad := fun _ => G.1 a) (i := 0) hx hb (fun _ _ => hcod) (by omega) g3 hown (hts _ (am_tb_i (hlk _ hlnk) rfl)) (fun _ w => w) hd z
    · split at ho
      · rename_i C T N er
        simp only [Bool.and_eq_true, Bool.or_eq_true, decide_eq_true_eq, beq_iff_eq] at ho
        obtain ⟨⟨⟨hk2, hT1⟩, hlnk⟩, hk3⟩ := ho
        have hlt := am_vw_lt er
        obtain ⟨ha1, ha2⟩ := am_oc_1 hoc (by omega)
        obtain ⟨haN, C2, T2, er2⟩ := am_k1 ha1
        rw [ha2, er] at er2
        cases er2
        obtain ⟨u1, u2, u3⟩ := am_vw er
        have he : (am_wl G mi ml)[a]? = some (G.1 a, .inr (k1, am_fs G mi a k1 (am_f a))) := by rw [am_wl_at (am_78 haN), am_en1 ha1, ha2]
        have hv : (am_fs G mi a k1 (am_f a))[k2]? = some (am_fv G mi a k1 k2) := am_fs_at hk2
        have hfd : am_fd k1 k2 = (T k2).2.2.1 := by unfold am_fd; rw [er]
        have z : W p l e Rm s m args below meth c H locs cs ss Q (F0 m (pc + 3) ls (am_fv G mi a k1 k2 :: rest.map (am_tv G))) := by
          unfold am_fv
          rw [hfd]
          by_cases h3 : k3 = 2
          · subst h3
            have hisr : am_isr (T k2).2.2.1 = true := hk3.trans rfl
            rw [if_pos hisr, ← hn]
            exact h ls H locs g1 g2 g3
          · have hisr : ¬ am_isr (T k2).2.2.1 = true := by
              rw [hk3]
              simpa using h3
            rw [if_neg hisr, ← hn]
            split at h
            · exact absurd rfl h3
            · exact h ls H locs g1 g2 g3
        have hsame : ∀ x, s.fieldFound? (T k2).1 (T k2).2.1 (T k2).2.2.1 = some x → s.fieldFound? C (T k2).2.1 (T k2).2.2.1 = some x := fun x hx => by rw [hT1] at hx; exact hx
        rcases hlnk with hlnk | hlnk
        · exact va_get hx hb hts u1 hown hK g2.1 a he er k2 hk2 (hts _ (am_tb_i (hlk _ hlnk) rfl)) hsame hv hd z
        · exact va_getN hx hb hts u1 hown hK g2.1 a he er k2 hk2 (va_Nw.use rfl (hX.2.2.2.2.2.2.2 _ _ _ _ _ _ (hlk _ hlnk))) hsame hv hd z
      · cases ho
  · exact h.elim
theorem am_s_putfield (F : am_fr p s m args meth c G y bc nL rt lk) {q : Nat} (hc : am_chk y bc nL rt lk t i (pc, (.putfield q), len, k1, k2, k3, v, sw) = true) (hi : am_pcs t i = pc) (h : am_put (am_mo p l e Rm s m args below meth c cs ss Q G nL t) i lo st mi ml k1 k2 k3) : (am_mo p l e Rm s m args below meth c cs ss Q G nL t) i lo st mi ml := by
  obtain ⟨hx, hb, hml, hr, hlocks, hts, hlk, hown, hK, hX⟩ := F
  have hc : (decide (decode bc pc = .ok (.putfield q, len)) && (len == 3 && am_pcs t (i + 1) == pc + 3 && (match (generalizing := false) vwCl[k1]? with
      | some (C, T, N) => decide (k2 < N) && (T k2).1 == C && (T k2).2.2.2 == false && decide (Cond.fieldLink y.cls q C (T k2).2.1 (T k2).2.2.1 ∈ lk) && (((T k2).2.2.1 == "I" && k3 == 0) || ((T k2).2.2.1 == "Z" && k3 == 1))
      | none => false))) = true := hc
  simp only [Bool.and_eq_true, Bool.or_eq_true, decide_eq_true_eq, beq_iff_eq] at hc
  obtain ⟨hd, ⟨hl, hn⟩, ho⟩ := hc
  subst hl
  unfold am_put at h
  split at h
  · rename_i x a rest
    have hoc := eq_of_beq (am_need_e h).1
    replace h := (am_need_e h).2
    intro ls H locs g1 g2 g3
    rw [hi]
    split at ho
    · rename_i C T N er
      simp only [Bool.and_eq_true, Bool.or_eq_true, decide_eq_true_eq, beq_iff_eq] at ho
      obtain ⟨⟨⟨⟨hk2, hT1⟩, hfin⟩, hlnk⟩, hk3⟩ := ho
      have hlt := am_vw_lt er
      obtain ⟨ha1, ha2⟩ := am_oc_1 hoc (by omega)
      obtain ⟨haN, C2, T2, er2⟩ := am_k1 ha1
      rw [ha2, er] at er2
      cases er2
      obtain ⟨u1, ⟨ty0, u2⟩, u3⟩ := am_vw er
      have he : (am_wl G mi ml)[a]? = some (G.1 a, .inr (k1, am_fs G mi a k1 (am_f a))) := by rw [am_wl_at (am_78 haN), am_en1 ha1, ha2]
      have hfd : am_fd k1 k2 = (T k2).2.2.1 := by unfold am_fd; rw [er]
      have hsame : ∀ x, s.fieldFound? (T k2).1 (T k2).2.1 (T k2).2.2.1 = some x → s.fieldFound? C (T k2).2.1 (T k2).2.2.1 = some x := fun x hx => by rw [hT1] at hx; exact hx
      have hset : am_isr (am_fd k1 k2) = false → (am_wl G mi ml).set a (G.1 a, .inr (k1, (am_fs G mi a k1 (am_f a)).set k2 (.int x))) = am_wl G (am_ui mi a k2 x) ml := by
        intro hf
        have z := am_wl_fs (G := G) (mi := mi) (ml := ml) (j := k2) (x := x) ha1 (by rw [ha2]; exact hf)
        rw [ha2] at z
        exact z
      rcases hk3 with ⟨hde, hk3⟩ | ⟨hde, hk3⟩
      · subst hk3
        refine va_put (v := .int x) hx hb hts u1 ty0 u2 u3 hown hK g2.1 g2.2.1 g3 a he er k2 hk2 (hts _ (am_tb_i (hlk _ hlnk) rfl)) hsame hfin (ty := .int) (by rw [hde]; rfl) rfl rfl (by rw [am_fs_len]; exact hk2) hd (fun H1 locs1 f1 f2 f3 => ?_)
        rw [hset (by rw [hfd, hde]; rfl)] at f1 f2
        rw [← hn]
        exact h ls H1 locs1 g1 ⟨f1, f2, am_hp_ui haN g2.2.2⟩ f3
      · subst hk3
        refine va_put (v := .int x) hx hb hts u1 ty0 u2 u3 hown hK g2.1 g2.2.1 g3 a he er k2 hk2 (hts _ (am_tb_i (hlk _ hlnk) rfl)) hsame hfin (ty := .boolean) (by rw [hde]; rfl) (by rcases h.1 with q | q <;> subst q <;> rfl) (by rcases h.1 with q | q <;> subst q <;> rfl) (by rw [am_fs_len]; exact hk2) hd (fun H1 locs1 f1 f2 f3 => ?_)
        rw [hset (by rw [hfd, hde]; rfl)] at f1 f2
        rw [← hn]
        exact h.2 ls H1 locs1 g1 ⟨f1, f2, am_hp_ui haN g2.2.2⟩ f3
    · cases ho
  · exact h.elim
theorem am_s_getstatic (F : am_fr p s m args meth c G y bc nL rt lk) {q : Nat} (hc : am_chk y bc nL rt lk t i (pc, (.getstatic q), len, k1, k2, k3, v, sw) = true) (hi : am_pcs t i = pc) (h : am_st cl (am_mo p l e Rm s m args below meth c cs ss Q G nL t) Rr (.getstatic q) k1 k2 k3 v sw i lo st mi ml) : (am_mo p l e Rm s m args below meth c cs ss Q G nL t) i lo st mi ml := by
  obtain ⟨hx, hb, hml, hr, hlocks, hts, hlk, hown, hK, hX⟩ := F
  have hc : (decide (decode bc pc = .ok (.getstatic q, len)) && (len == 3 && am_pcs t (i + 1) == pc + 3 && (match (generalizing := false) k2 with
      | 2 => decide (Cond.fieldLink y.cls q "jdk/internal/util/Preconditions" "SIOOBE_FORMATTER" "Ljava/util/function/BiFunction;" ∈ lk)
      | 0 => (k1 == 114 || k1 == 115 || k1 == 116) && decide (Cond.fieldLink y.cls q (am_stn k1).1 (am_stn k1).2 "[I" ∈ lk)
      | _ => v == 1 && decide (Cond.fieldLink y.cls q "java/lang/String" "COMPACT_STRINGS" "Z" ∈ lk)))) = true := hc
  simp only [Bool.and_eq_true, Bool.or_eq_true, decide_eq_true_eq, beq_iff_eq] at hc
  obtain ⟨hd, ⟨hl, hn⟩, ho⟩ := hc
  subst hl
  simp only [am_st] at h
  intro ls H locs g1 g2 g3
  rw [hi]
  split at ho
  · have z := h ls H locs g1 g2 g3
    rw [hn] at z
    simp only [decide_eq_true_eq] at ho
    exact va_gets hx hb hX.2.2.2.2.2.2.1 g3 hown (hts _ (am_tb_i (hlk _ ho) rfl)) (fun _ w => w) hd z
  · have z := h ls H locs g1 g2 g3
    rw [hn] at z
    simp only [Bool.and_eq_true, Bool.or_eq_true, decide_eq_true_eq, beq_iff_eq] at ho
    have hZ := (hX.1 k1 (by omega) (by omega)).1
    exact va_gets hx hb hZ g3 hown (hts _ (am_tb_i (hlk _ ho.2) rfl)) (fun _ w => w) hd z
  · rename_i hne1 hne
    have z : am_mo p l e Rm s m args below meth c cs ss Q G nL t (i + 1) lo (.int v :: st) mi ml := by
      split at h
      · exact (hne rfl).elim
      · exact (hne1 rfl).elim
      · exact h
    have z := z ls H locs g1 g2 g3
    rw [hn] at z
    simp only [Bool.and_eq_true, decide_eq_true_eq, beq_iff_eq] at ho
    rw [ho.1] at z
    exact va_gets hx hb hX.2.1 g3 hown (hts _ (am_tb_i (hlk _ ho.2) rfl)) (fun _ w => w) hd z
theorem am_s_iaload (F : am_fr p s m args meth c G y bc nL rt lk)  (hc : am_chk y bc nL rt lk t i (pc, .iaload, len, k1, k2, k3, v, sw) = true) (hi : am_pcs t i = pc) (h : am_iald (am_mo p l e Rm s m args below meth c cs ss Q G nL t) i lo st mi ml) : (am_mo p l e Rm s m args below meth c cs ss Q G nL t) i lo st mi ml := by
  obtain ⟨hx, hb, hml, hr, hlocks, hts, hlk, hown, hK, hX⟩ := F
  have hc : (decide (decode bc pc = .ok (.iaload, len)) && (len == 1 && am_pcs t (i + 1) == pc + 1)) = true := hc
  simp only [Bool.and_eq_true, decide_eq_true_eq, beq_iff_eq] at hc
  obtain ⟨hd, hl, hn⟩ := hc
  subst hl
  unfold am_iald at h
  split at h
  · rename_i j a rest
    obtain ⟨hk, hin, h⟩ := am_need_e h
    simp only [Bool.or_eq_true, beq_iff_eq] at hk
    intro ls H locs g1 g2 g3
    have z := h ls H locs g1 g2 g3
    rw [hn] at z
    rw [hi]
    rcases hk with ((hk | hk) | hk) | hk
    · have hin : vp_in j (am_n a) := by
        unfold am_len at hin
        rw [hk] at hin
        exact hin
      exact va_iald hx hb hK g2.1 a 0 (by rw [am_wl_at (am_78 (am_k2 hk)), am_en2 hk]) rfl hin hd z
    · have hin : vp_in j (am_n a) := by
        unfold am_len at hin
        rw [hk] at hin
        exact hin
      obtain ⟨r1, r2⟩ := am_k5 hk
      have hT := (hX.1 a r1 r2).2
      exact va_ti hx hb hT g3 hin (show Value.int (G.2.2.2 a j.toNatClampNeg) = .int (mi a j.toNatClampNeg) by rw [g2.2.2.1 a r1]) hd z
    · have hin : vp_in j (mi a 100000).toNatClampNeg := by
        unfold am_len at hin
        rw [hk] at hin
        exact hin
      have ha := am_k6 hk
      subst ha
      rw [g2.2.2.1 117 (by decide)] at hin
      exact va_ti hx hb hX.2.2.1 g3 hin (show Value.int (G.2.2.2 117 j.toNatClampNeg) = .int (mi 117 j.toNatClampNeg) by rw [g2.2.2.1 117 (by decide)]) hd z
    · have hin : vp_in j (mi a 100000).toNatClampNeg := by
        unfold am_len at hin
        rw [hk] at hin
        exact hin
      have ha := am_k10 hk
      subst ha
      obtain ⟨q1, q2⟩ := am_b_in g2.2.2 hin
      exact va_iald hx hb hK g2.1 78 0 (by rw [am_wl_at q1, am_en10 hk]) rfl q2 hd z
  · exact h.elim
theorem am_s_baload (F : am_fr p s m args meth c G y bc nL rt lk)  (hc : am_chk y bc nL rt lk t i (pc, .baload, len, k1, k2, k3, v, sw) = true) (hi : am_pcs t i = pc) (h : am_bald (am_mo p l e Rm s m args below meth c cs ss Q G nL t) i lo st mi ml) : (am_mo p l e Rm s m args below meth c cs ss Q G nL t) i lo st mi ml := by
  obtain ⟨hx, hb, hml, hr, hlocks, hts, hlk, hown, hK, hX⟩ := F
  have hc : (decide (decode bc pc = .ok (.baload, len)) && (len == 1 && am_pcs t (i + 1) == pc + 1)) = true := hc
  simp only [Bool.and_eq_true, decide_eq_true_eq, beq_iff_eq] at hc
  obtain ⟨hd, hl, hn⟩ := hc
  subst hl
  unfold am_bald at h
  split at h
  · rename_i j a rest
    obtain ⟨hk, hin, h⟩ := am_need_e h
    simp only [Bool.or_eq_true, beq_iff_eq] at hk
    intro ls H locs g1 g2 g3
    have z := h ls H locs g1 g2 g3
    rw [hn] at z
    rw [hi]
    have h114 : am_N ≤ a := Nat.le_trans (by decide) (hk.elim am_k8 am_k9)
    have hl2 : am_len mi a = am_len G.2.2.2 a := by
      unfold am_len
      rw [g2.2.2.1 a h114]
    rw [hl2] at hin
    exact va_tb hx hb (hX.2.2.2.2.2.1 a hk) g3 hin (show Value.int (G.2.2.2 a j.toNatClampNeg) = .int (mi a j.toNatClampNeg) by rw [g2.2.2.1 a h114]) hd z
  · exact h.elim
theorem am_s_laload (F : am_fr p s m args meth c G y bc nL rt lk)  (hc : am_chk y bc nL rt lk t i (pc, .laload, len, k1, k2, k3, v, sw) = true) (hi : am_pcs t i = pc) (h : am_lald (am_mo p l e Rm s m args below meth c cs ss Q G nL t) i lo st mi ml) : (am_mo p l e Rm s m args below meth c cs ss Q G nL t) i lo st mi ml := by
  obtain ⟨hx, hb, hml, hr, hlocks, hts, hlk, hown, hK, hX⟩ := F
  have hc : (decide (decode bc pc = .ok (.laload, len)) && (len == 1 && am_pcs t (i + 1) == pc + 1)) = true := hc
  simp only [Bool.and_eq_true, decide_eq_true_eq, beq_iff_eq] at hc
  obtain ⟨hd, hl, hn⟩ := hc
  subst hl
  unfold am_lald at h
  split at h
  · rename_i j a rest
    obtain ⟨hk, hin, h⟩ := am_need_e h
    have hk := eq_of_beq hk
    intro ls H locs g1 g2 g3
    have z := h ls H locs g1 g2 g3
    rw [hn] at z
    rw [hi]
    exact va_lald hx hb hK g2.1 a 1 (by rw [am_wl_at (am_78 (am_k3 hk)), am_en3 hk]) rfl hin hd z
  · exact h.elim
theorem am_s_iastore (F : am_fr p s m args meth c G y bc nL rt lk)  (hc : am_chk y bc nL rt lk t i (pc, .iastore, len, k1, k2, k3, v, sw) = true) (hi : am_pcs t i = pc) (h : am_iast (am_mo p l e Rm s m args below meth c cs ss Q G nL t) i lo st mi ml) : (am_mo p l e Rm s m args below meth c cs ss Q G nL t) i lo st mi ml := by
  obtain ⟨hx, hb, hml, hr, hlocks, hts, hlk, hown, hK, hX⟩ := F
  have hc : (decide (decode bc pc = .ok (.iastore, len)) && (len == 1 && am_pcs t (i + 1) == pc + 1)) = true := hc
  simp only [Bool.and_eq_true, decide_eq_true_eq, beq_iff_eq] at hc
  obtain ⟨hd, hl, hn⟩ := hc
  subst hl
  unfold am_iast at h
  split at h
  · rename_i x j a rest
    obtain ⟨hk, hin, h⟩ := am_need_e h
    simp only [Bool.or_eq_true, beq_iff_eq] at hk
    intro ls H locs g1 g2 g3
    rw [hi]
    rcases hk with hk | hk
    · have hin : vp_in j (am_n a) := by
        unfold am_len at hin
        rw [hk] at hin
        exact hin
      refine va_iast hx hb hK g2.1 g2.2.1 g3 a 0 (by rw [am_wl_at (am_78 (am_k2 hk)), am_en2 hk]) rfl hin hd (fun H1 locs1 f1 f2 f3 => ?_)
      rw [am_wl_ui hk] at f1 f2
      rw [← hn]
      exact h ls H1 locs1 g1 ⟨f1, f2, am_hp_ui (am_k2 hk) g2.2.2⟩ f3
    · have hin : vp_in j (mi a 100000).toNatClampNeg := by
        unfold am_len at hin
        rw [hk] at hin
        exact hin
      have ha := am_k10 hk
      subst ha
      obtain ⟨q1, q2⟩ := am_b_in g2.2.2 hin
      refine va_iast hx hb hK g2.1 g2.2.1 g3 78 0 (by rw [am_wl_at q1, am_en10 hk]) rfl q2 hd (fun H1 locs1 f1 f2 f3 => ?_)
      rw [am_wl_ub hk] at f1 f2
      rw [← hn]
      exact h ls H1 locs1 g1 ⟨f1, f2, am_hp_ub (Nat.not_le.mp fun w => q2 (Or.inr w)) g2.2.2⟩ f3
  · exact h.elim
theorem am_s_lastore (F : am_fr p s m args meth c G y bc nL rt lk)  (hc : am_chk y bc nL rt lk t i (pc, .lastore, len, k1, k2, k3, v, sw) = true) (hi : am_pcs t i = pc) (h : am_last (am_mo p l e Rm s m args below meth c cs ss Q G nL t) i lo st mi ml) : (am_mo p l e Rm s m args below meth c cs ss Q G nL t) i lo st mi ml := by
  obtain ⟨hx, hb, hml, hr, hlocks, hts, hlk, hown, hK, hX⟩ := F
  have hc : (decide (decode bc pc = .ok (.lastore, len)) && (len == 1 && am_pcs t (i + 1) == pc + 1)) = true := hc
  simp only [Bool.and_eq_true, decide_eq_true_eq, beq_iff_eq] at hc
  obtain ⟨hd, hl, hn⟩ := hc
  subst hl
  unfold am_last at h
  split at h
  · rename_i x j a rest
    obtain ⟨hk, hin, h⟩ := am_need_e h
    have hk := eq_of_beq hk
    intro ls H locs g1 g2 g3
    rw [hi]
    refine va_last hx hb hK g2.1 g2.2.1 g3 a 1 (by rw [am_wl_at (am_78 (am_k3 hk)), am_en3 hk]) rfl hin hd (fun H1 locs1 f1 f2 f3 => ?_)
    rw [am_wl_ul hk] at f1 f2
    rw [← hn]
    exact h ls H1 locs1 g1 ⟨f1, f2, g2.2.2⟩ f3
  · exact h.elim
theorem am_s_aaload (F : am_fr p s m args meth c G y bc nL rt lk)  (hc : am_chk y bc nL rt lk t i (pc, .aaload, len, k1, k2, k3, v, sw) = true) (hi : am_pcs t i = pc) (h : am_aald (am_mo p l e Rm s m args below meth c cs ss Q G nL t) i lo st mi ml) : (am_mo p l e Rm s m args below meth c cs ss Q G nL t) i lo st mi ml := by
  obtain ⟨hx, hb, hml, hr, hlocks, hts, hlk, hown, hK, hX⟩ := F
  have hc : (decide (decode bc pc = .ok (.aaload, len)) && (len == 1 && am_pcs t (i + 1) == pc + 1)) = true := hc
  simp only [Bool.and_eq_true, decide_eq_true_eq, beq_iff_eq] at hc
  obtain ⟨hd, hl, hn⟩ := hc
  subst hl
  unfold am_aald at h
  split at h
  · rename_i j a rest
    obtain ⟨hk, hin, h⟩ := am_need_e h
    have hk := eq_of_beq hk
    intro ls H locs g1 g2 g3
    have z := h ls H locs g1 g2 g3
    rw [hn] at z
    rw [hi]
    obtain ⟨haN, hd12⟩ := am_k4 hk
    have hlt : j.toNatClampNeg < am_n a := Nat.not_le.mp fun q => hin (Or.inr q)
    have hc0 := g2.1 a _ (by rw [am_wl_at (am_78 haN), am_en4 hk])
    rcases hd12 with q | q
    · rw [q, if_pos rfl] at hc0
      refine W.aald (ty := .array .int) (v := .ref (G.1 (am_f a + 1 * j.toNatClampNeg))) hx hb hc0 ((hK.2 2 _ rfl).1 _ _) rfl (fun q => by cases q) (by show ¬ (j < 0 ∨ (arrV _ _ _).slots.size ≤ _); rw [arrV_size]; exact hin) (by show (arrV _ _ _).slots[_]? = _; rw [arrV_read _ _ hlt]; rfl) rfl rfl hd ?_
      rw [q] at z
      exact z
    · rw [q, if_neg (by decide)] at hc0
      refine W.aald (ty := .object "DoorsForThree$Shelf") (v := .ref (G.1 (am_f a + 2 * j.toNatClampNeg))) hx hb hc0 ((hK.2 3 _ rfl).1 _ _) rfl (fun q => by cases q) (by show ¬ (j < 0 ∨ (arrV _ _ _).slots.size ≤ _); rw [arrV_size]; exact hin) (by show (arrV _ _ _).slots[_]? = _; rw [arrV_read _ _ hlt]; rfl) rfl rfl hd ?_
      rw [q] at z
      exact z
  · exact h.elim
theorem am_s_arraylength (F : am_fr p s m args meth c G y bc nL rt lk)  (hc : am_chk y bc nL rt lk t i (pc, .arraylength, len, k1, k2, k3, v, sw) = true) (hi : am_pcs t i = pc) (h : am_alen (am_mo p l e Rm s m args below meth c cs ss Q G nL t) i lo st mi ml) : (am_mo p l e Rm s m args below meth c cs ss Q G nL t) i lo st mi ml := by
  obtain ⟨hx, hb, hml, hr, hlocks, hts, hlk, hown, hK, hX⟩ := F
  have hc : (decide (decode bc pc = .ok (.arraylength, len)) && (len == 1 && am_pcs t (i + 1) == pc + 1)) = true := hc
  simp only [Bool.and_eq_true, decide_eq_true_eq, beq_iff_eq] at hc
  obtain ⟨hd, hl, hn⟩ := hc
  subst hl
  unfold am_alen at h
  split at h
  · rename_i a rest
    obtain ⟨hk, h⟩ := am_need_e h
    simp only [Bool.or_eq_true, Bool.and_eq_true, Nat.ble_eq, beq_iff_eq] at hk
    intro ls H locs g1 g2 g3
    have z := h ls H locs g1 g2 g3
    rw [hn] at z
    rw [hi]
    have ho : ¬ am_kd a = 6 ∧ ¬ am_kd a = 9 ∧ ¬ am_kd a = 10 → am_len mi a = am_n a := by
      intro q
      unfold am_len
      split
      · rename_i e
        exact (q.1 e).elim
      · rename_i e
        exact (q.2.1 e).elim
      · rename_i e
        exact (q.2.2 e).elim
      · rfl
    by_cases k2 : am_kd a = 2
    · rw [ho (by omega)] at z
      have he : (am_wl G mi ml)[a]? = some (G.1 a, .inl (G.2.2.1.1, am_n a, .inl (mi a))) := by rw [am_wl_at (am_78 (am_k2 k2)), am_en2 k2]
      exact va_alen hx hb hK g2.1 a 0 he rfl rfl hd z
    by_cases k3 : am_kd a = 3
    · rw [ho (by omega)] at z
      have he : (am_wl G mi ml)[a]? = some (G.1 a, .inl (G.2.2.1.2.1, am_n a, .inr (.inl (ml a)))) := by rw [am_wl_at (am_78 (am_k3 k3)), am_en3 k3]
      exact va_alen hx hb hK g2.1 a 1 he rfl rfl hd z
    by_cases k4 : am_kd a = 4
    · rw [ho (by omega)] at z
      obtain ⟨haN, hd12⟩ := am_k4 k4
      rcases hd12 with q | q
      · have he : (am_wl G mi ml)[a]? = some (G.1 a, .inl (G.2.2.1.2.2.1, am_n a, .inr (.inr (.inr (.inr (fun j => some (G.1 (am_f a + am_d a * j)))))))) := by rw [am_wl_at (am_78 haN), am_en4 k4, if_pos q]
        exact va_alen hx hb hK g2.1 a 2 he rfl rfl hd z
      · have he : (am_wl G mi ml)[a]? = some (G.1 a, .inl (G.2.2.1.2.2.2, am_n a, .inr (.inr (.inr (.inr (fun j => some (G.1 (am_f a + am_d a * j)))))))) := by rw [am_wl_at (am_78 haN), am_en4 k4, if_neg (by omega)]
        exact va_alen hx hb hK g2.1 a 3 he rfl rfl hd z
    by_cases k5 : am_kd a = 5
    · rw [ho (by omega)] at z
      obtain ⟨r1, r2⟩ := am_k5 k5
      exact va_tlen hx hb (hX.1 a r1 r2).2 g3 rfl hd z
    by_cases k6 : am_kd a = 6
    · have e1 : am_len mi a = (mi a 100000).toNatClampNeg := by
        unfold am_len
        rw [k6]
        rfl
      have ha := am_k6 k6
      subst ha
      rw [e1, g2.2.2.1 117 (by decide)] at z
      exact va_tlen hx hb hX.2.2.1 g3 rfl hd z
    have k8 : am_kd a = 8 ∨ am_kd a = 9 := by omega
    have hl2 : am_len mi a = am_len G.2.2.2 a := by
      unfold am_len
      rw [g2.2.2.1 a (Nat.le_trans (by decide) (k8.elim am_k8 am_k9))]
    rw [hl2] at z
    exact va_tlen hx hb (hX.2.2.2.2.2.1 a k8) g3 rfl hd z
  · exact h.elim
end AMM2
