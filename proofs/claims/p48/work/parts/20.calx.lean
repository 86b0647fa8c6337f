/-! specs: what changes the class's calendar; away, late -/
def am_uu (u : Nat → Nat → Int32) (w i : Nat) (y : Int32) : Nat → Nat → Int32 := fun w2 i2 => if w2 = w ∧ i2 = i then y else u w2 i2
theorem am_uu_k {u w i y} : am_uu u w i y w i = y := if_pos ⟨rfl, rfl⟩
theorem am_uu_n {u : Nat → Nat → Int32} {w i w2 i2 : Nat} {y : Int32} (h : w2 = w → i2 = i → False) : am_uu u w i y w2 i2 = u w2 i2 := if_neg fun q => h q.1 q.2
/-- the calendar's own places -/
def am_FC : Nat → Nat → Bool := fun c j => decide ((c = 1 ∧ (j = 1 ∨ j = 2 ∨ j = 3)) ∨ (3 ≤ c ∧ c ≤ 12))
def am_cz (m : Nat) (mi : am_MI) : Prop := ∀ i, m ≤ i → i < 12 → mi 9 i = 0 ∧ mi 10 i = 0
theorem am_FC_w {w i : Nat} (h : w < 10) : am_FC (3 + w) i = true := decide_eq_true (by omega)
/-- the numbers of all children and doors are of their kinds -/
def am_ur (n m : Nat) (u : Nat → Nat → Int32) : Prop := ∀ w i, am_val n m w i → ∃ k, am_lo w ≤ k ∧ k ≤ am_hi w ∧ u w i = nI k
theorem am_lohi : ∀ w, w < 10 → am_lo w ≤ 1 ∧ am_hi w ≤ 24 := by decide
theorem am_ur_i {n m u w i} (h : am_ur n m u) (hv : am_val n m w i) : (am_lo w : Int) ≤ (u w i).toInt ∧ (u w i).toInt ≤ am_hi w := by
  obtain ⟨k, h1, h2, h3⟩ := h w i hv
  have := am_lohi w (by unfold am_val at hv; omega)
  rw [h3, am_ti (by omega)]
  omega
/-- a child is away on that day -/
abbrev am_aw (u : Nat → Nat → Int32) (c : Nat) (x : Int32) : Prop := 0 < (u 6 c).toInt ∧ (u 6 c).toInt ≤ x.toInt ∧ x.toInt ≤ (u 7 c).toInt
/-- it never eats that door; how late it eats it else -/
abbrev am_nev (u : Nat → Nat → Int32) (c i : Nat) : Prop := am_aw u c (u 0 i) ∧ (u 7 c).toInt = 24
def am_lat (u : Nat → Nat → Int32) (c i : Nat) : Int32 := if am_aw u c (u 0 i) then u 7 c + 1 - u 0 i else 0
theorem am_vd {n m i : Nat} {w : Nat} (hw : w ≤ 2) (h : i < n) : am_val n m w i := Or.inl ⟨hw, h⟩
theorem am_vc {n m i : Nat} {w : Nat} (h3 : 3 ≤ w) (h7 : w ≤ 7) (h : i < m) : am_val n m w i := Or.inr (Or.inl ⟨h3, h7, h⟩)
theorem am_vs {n m : Nat} {w : Nat} (h8 : 8 ≤ w) (h9 : w ≤ 9) : am_val n m w 0 := Or.inr (Or.inr ⟨h8, h9, rfl⟩)
section SP20
variable {d n m : Nat} {u : Nat → Nat → Int32} {mi : am_MI} {ml : am_ML} {R : am_R}
/-- set(what, number, v), where there is such a number -/
theorem sp_5 {x z y : Int32} {w i : Nat} (hc : am_cx n m u mi) (hv : am_val n m w i) (hx : x = nI w) (hz : z = nI i) (h : ∀ mi2, am_cx n m (am_uu u w i y) mi2 → am_kp am_FC mi mi2 → mi2 1 3 = mi 1 3 + 1 → mi2 1 1 = mi 1 1 → mi2 1 2 = mi 1 2 → (∀ w2 i2, w2 < 10 → (w2 = w → i2 = i → False) → mi2 (3 + w2) i2 = mi (3 + w2) i2) → R none mi2 ml) : am_call (d + 3) 5 [.ref 1, .int x, .int z, .int y] mi ml R := by
  subst hx
  subst hz
  have h1 := hc.1
  have h2 := hc.2.1
  have hw : w < 10 := by unfold am_val at hv; omega
  have hi : i < 12 := by unfold am_val at hv; omega
  have c1 : (nI w).toNatClampNeg = w := nI_clamp (by omega)
  have c2 : (nI i).toNatClampNeg = i := nI_clamp (by omega)
  have hk : ∀ w, w < 10 → am_kd (3 + 1 * w) = 2 ∧ am_n (3 + 1 * w) = 12 := by decide
  obtain ⟨k1, k2⟩ := hk w hw
  refine bk_5 (sp_2 hc (fun w2 i2 hv2 e1 e2 => am_ri_i (am_y ⟨vp_in_nI hw (by omega), ?_⟩)) (fun q => (q w i hv rfl rfl).elim))
  rw [c1, c2]
  refine am_need_i (by rw [k1]; rfl) ⟨by rw [show am_len mi (3 + 1 * w) = 12 from by unfold am_len; rw [k1]; exact k2]; exact vp_in_nI hi (by omega), ?_⟩
  rw [Nat.one_mul]
  have e3 : am_ui mi (3 + w) i y 1 3 = mi 1 3 := am_ui_c (by omega)
  rw [e3]
  have rd : ∀ c j, ¬ c = 1 → am_ui (am_ui mi (3 + w) i y) 1 3 (mi 1 3 + 1) c j = am_ui mi (3 + w) i y c j := fun c j q => am_ui_c q
  have r1 : ∀ j, ¬ j = 3 → am_ui (am_ui mi (3 + w) i y) 1 3 (mi 1 3 + 1) 1 j = mi 1 j := fun j q => (am_ui_n (fun _ e => q e)).trans (am_ui_c (by omega))
  refine h _ ⟨h1, h2, (r1 1 (by omega)).trans hc.2.2.1, (r1 2 (by omega)).trans hc.2.2.2.1, fun w2 i2 hv2 => ?_⟩ (am_kp_u (am_kp_u am_kp_r (am_FC_w hw)) rfl) am_ui_k (r1 1 (by omega)) (r1 2 (by omega)) (fun w2 i2 _ hne => (rd _ _ (by omega)).trans (am_ui_n (fun e1 e2 => hne (by omega) e2)))
  rw [rd _ _ (by omega)]
  by_cases e : w2 = w ∧ i2 = i
  · obtain ⟨rfl, rfl⟩ := e
    rw [am_ui_k, am_uu_k]
  · rw [am_ui_n (fun e1 e2 => e ⟨by omega, e2⟩), am_uu_n (fun e1 e2 => e ⟨e1, e2⟩)]
    exact hc.2.2.2.2 w2 i2 hv2
theorem am_cx_self {n m : Nat} {mi : am_MI} (hn : n ≤ 12) (hm : m ≤ 5) (e1 : mi 1 1 = nI n) (e2 : mi 1 2 = nI m) : am_cx n m (fun w i => mi (3 + w) i) mi := ⟨hn, hm, e1, e2, fun _ _ _ => rfl⟩
theorem am_cx_of {n m : Nat} {u v : Nat → Nat → Int32} {mi : am_MI} (h : am_cx n m u mi) (he : ∀ w i, am_val n m w i → u w i = v w i) : am_cx n m v mi := ⟨h.1, h.2.1, h.2.2.1, h.2.2.2.1, fun w i hv => (h.2.2.2.2 w i hv).trans (he w i hv)⟩
/-- addDoor -/
theorem sp_6 {x y z : Int32} (hc : am_cx n m u mi) (h0 : n = 12 → R (some (.int 0)) mi ml)
    (h1 : n < 12 → ∀ mi2, am_cx (n + 1) m (am_uu (am_uu (am_uu u 0 n x) 1 n y) 2 n z) mi2 → am_kp am_FC mi mi2 → mi2 1 3 = mi 1 3 + 1 + 1 + 1 → (∀ j, mi2 9 j = mi 9 j ∧ mi2 10 j = mi 10 j) → R (some (.int 1)) mi2 ml) : am_call (d + 4) 6 [.ref 1, .int x, .int y, .int z] mi ml R := by
  have hn := am_cx_n hc
  have hm := hc.2.1
  refine bk_6 ⟨fun q => ?_, fun q => ⟨am_b0, h0 ?_⟩⟩
  · simp only [am_lt_i, am_le_i, am_eq_i, ne_eq, am_l0, am_l1, am_l2, am_l3, am_l4, am_l5, am_l6, am_l7, am_l8, am_l9, am_l10, am_l11, am_l12, am_l13, am_l14, am_l15, am_l16, am_l17, am_l18, am_l19, am_l20, am_l21, am_l22, am_l23, am_l24, am_l25, am_l26, am_l30, am_l32, am_l33, am_l37, am_l38, am_l40, am_l41, am_l42, am_l43, am_l45, am_l47, am_l48, am_l50, am_l57, am_l59, am_l60, am_l61, am_l62, am_l63, am_l70, am_l80, am_l81, am_l97, am_l99, am_l100, am_l110, am_l115, am_l119, am_l120, am_l121, am_l124, am_l126, am_l156, am_l255, am_l1103515245, am_l12345, am_l2147483647, am_lm1, am_lm2, am_lm3, am_lm5, am_lm11, am_lm12, am_lm13, am_lm14, am_lm33, am_lm59, am_lm63, am_lm100, am_lm126, hn] at q
    have hn12 : n < 12 := by omega
    have ea : mi 1 1 + 1 - 1 = nI n := by rw [hc.2.2.1, nI_1, nI_pred]
    have hc0 : am_cx (n + 1) m (fun w i => am_ui mi 1 1 (mi 1 1 + 1) (3 + w) i) (am_ui mi 1 1 (mi 1 1 + 1)) := am_cx_self (by omega) hm (am_ui_k.trans (by rw [hc.2.2.1, nI_1])) ((am_ui_n (fun _ e => by cases e)).trans hc.2.2.2.1)
    have k0 : am_kp am_FC mi (am_ui mi 1 1 (mi 1 1 + 1)) := am_kp_u am_kp_r rfl
    have v0 : am_ui mi 1 1 (mi 1 1 + 1) 1 3 = mi 1 3 := am_ui_n (fun _ e => by cases e)
    have o0 : ∀ w i, am_ui mi 1 1 (mi 1 1 + 1) (3 + w) i = mi (3 + w) i := fun w i => am_ui_c (by omega)
    refine sp_5 (w := 0) (i := n) hc0 (am_vd (by omega) (by omega)) rfl ea (fun mi1 hc1 k1 v1 a1 b1 o1 => am_rv_i ?_)
    refine sp_5 (w := 1) (i := n) hc1 (am_vd (by omega) (by omega)) rfl (by rw [hc1.2.2.1, nI_pred]) (fun mi2 hc2 k2 v2 a2 b2 o2 => am_rv_i ?_)
    refine sp_5 (w := 2) (i := n) hc2 (am_vd (by omega) (by omega)) rfl (by rw [hc2.2.2.1, nI_pred]) (fun mi3 hc3 k3 v3 a3 b3 o3 => am_rv_i ⟨am_b1, ?_⟩)
    refine h1 hn12 mi3 (am_cx_of hc3 (fun w i hv => ?_)) (am_kp_t k0 (am_kp_t k1 (am_kp_t k2 k3))) (by rw [v3, v2, v1, v0]) (fun j => ⟨?_, ?_⟩)
    · by_cases e2 : w = 2 ∧ i = n
      · obtain ⟨rfl, rfl⟩ := e2
        rw [am_uu_k, am_uu_k]
      · rw [am_uu_n (fun p q => e2 ⟨p, q⟩), am_uu_n (fun p q => e2 ⟨p, q⟩)]
        by_cases e1 : w = 1 ∧ i = n
        · obtain ⟨rfl, rfl⟩ := e1
          rw [am_uu_k, am_uu_k]
        · rw [am_uu_n (fun p q => e1 ⟨p, q⟩), am_uu_n (fun p q => e1 ⟨p, q⟩)]
          by_cases e0 : w = 0 ∧ i = n
          · obtain ⟨rfl, rfl⟩ := e0
            rw [am_uu_k, am_uu_k]
          · rw [am_uu_n (fun p q => e0 ⟨p, q⟩), am_uu_n (fun p q => e0 ⟨p, q⟩)]
            exact (o0 w i).trans (hc.2.2.2.2 w i (by unfold am_val at hv ⊢; omega))
    · have z3 := o3 6 j (by omega) (by omega)
      have z2 := o2 6 j (by omega) (by omega)
      have z1 := o1 6 j (by omega) (by omega)
      exact z3.trans (z2.trans (z1.trans (o0 6 j)))
    · have z3 := o3 7 j (by omega) (by omega)
      have z2 := o2 7 j (by omega) (by omega)
      have z1 := o1 7 j (by omega) (by omega)
      exact z3.trans (z2.trans (z1.trans (o0 7 j)))
  · simp only [am_lt_i, am_le_i, am_eq_i, ne_eq, am_l0, am_l1, am_l2, am_l3, am_l4, am_l5, am_l6, am_l7, am_l8, am_l9, am_l10, am_l11, am_l12, am_l13, am_l14, am_l15, am_l16, am_l17, am_l18, am_l19, am_l20, am_l21, am_l22, am_l23, am_l24, am_l25, am_l26, am_l30, am_l32, am_l33, am_l37, am_l38, am_l40, am_l41, am_l42, am_l43, am_l45, am_l47, am_l48, am_l50, am_l57, am_l59, am_l60, am_l61, am_l62, am_l63, am_l70, am_l80, am_l81, am_l97, am_l99, am_l100, am_l110, am_l115, am_l119, am_l120, am_l121, am_l124, am_l126, am_l156, am_l255, am_l1103515245, am_l12345, am_l2147483647, am_lm1, am_lm2, am_lm3, am_lm5, am_lm11, am_lm12, am_lm13, am_lm14, am_lm33, am_lm59, am_lm63, am_lm100, am_lm126, hn] at q
    have := hc.1
    omega
/-- addChild -/
theorem sp_7 {x y : Int32} (hc : am_cx n m u mi) (hz : am_cz m mi) (h0 : m = 5 → R (some (.int 0)) mi ml)
    (h1 : m < 5 → ∀ mi2, am_cx n (m + 1) (am_uu (am_uu (am_uu (am_uu (am_uu u 3 m x) 4 m y) 5 m 5) 6 m 0) 7 m 0) mi2 → am_cz (m + 1) mi2 → am_kp am_FC mi mi2 → mi2 1 3 = mi 1 3 + 1 + 1 + 1 → R (some (.int 1)) mi2 ml) : am_call (d + 4) 7 [.ref 1, .int x, .int y] mi ml R := by
  have hm := am_cx_m hc
  have hn := hc.1
  refine bk_7 ⟨fun q => ?_, fun q => ⟨am_b0, h0 ?_⟩⟩
  · simp only [am_lt_i, am_le_i, am_eq_i, ne_eq, am_l0, am_l1, am_l2, am_l3, am_l4, am_l5, am_l6, am_l7, am_l8, am_l9, am_l10, am_l11, am_l12, am_l13, am_l14, am_l15, am_l16, am_l17, am_l18, am_l19, am_l20, am_l21, am_l22, am_l23, am_l24, am_l25, am_l26, am_l30, am_l32, am_l33, am_l37, am_l38, am_l40, am_l41, am_l42, am_l43, am_l45, am_l47, am_l48, am_l50, am_l57, am_l59, am_l60, am_l61, am_l62, am_l63, am_l70, am_l80, am_l81, am_l97, am_l99, am_l100, am_l110, am_l115, am_l119, am_l120, am_l121, am_l124, am_l126, am_l156, am_l255, am_l1103515245, am_l12345, am_l2147483647, am_lm1, am_lm2, am_lm3, am_lm5, am_lm11, am_lm12, am_lm13, am_lm14, am_lm33, am_lm59, am_lm63, am_lm100, am_lm126, hm] at q
    have hm5 : m < 5 := by omega
    have ea : mi 1 2 + 1 - 1 = nI m := by rw [hc.2.2.2.1, nI_1, nI_pred]
    have hc0 : am_cx n (m + 1) (fun w i => am_ui mi 1 2 (mi 1 2 + 1) (3 + w) i) (am_ui mi 1 2 (mi 1 2 + 1)) := am_cx_self hn (by omega) ((am_ui_n (fun _ e => by cases e)).trans hc.2.2.1) (am_ui_k.trans (by rw [hc.2.2.2.1, nI_1]))
    have k0 : am_kp am_FC mi (am_ui mi 1 2 (mi 1 2 + 1)) := am_kp_u am_kp_r rfl
    have v0 : am_ui mi 1 2 (mi 1 2 + 1) 1 3 = mi 1 3 := am_ui_n (fun _ e => by cases e)
    have o0 : ∀ w i, am_ui mi 1 2 (mi 1 2 + 1) (3 + w) i = mi (3 + w) i := fun w i => am_ui_c (by omega)
    refine sp_5 (w := 3) (i := m) hc0 (am_vc (by omega) (by omega) (by omega)) rfl ea (fun mi1 hc1 k1 v1 a1 b1 o1 => am_rv_i ?_)
    refine sp_5 (w := 4) (i := m) hc1 (am_vc (by omega) (by omega) (by omega)) rfl (by rw [hc1.2.2.2.1, nI_pred]) (fun mi2 hc2 k2 v2 a2 b2 o2 => am_rv_i ?_)
    refine sp_5 (w := 5) (i := m) hc2 (am_vc (by omega) (by omega) (by omega)) rfl (by rw [hc2.2.2.2.1, nI_pred]) (fun mi3 hc3 k3 v3 a3 b3 o3 => am_rv_i ⟨am_b1, ?_⟩)
    have z9 : ∀ j, mi3 9 j = mi 9 j := fun j => (o3 6 j (by omega) (by omega)).trans ((o2 6 j (by omega) (by omega)).trans ((o1 6 j (by omega) (by omega)).trans (o0 6 j)))
    have z10 : ∀ j, mi3 10 j = mi 10 j := fun j => (o3 7 j (by omega) (by omega)).trans ((o2 7 j (by omega) (by omega)).trans ((o1 7 j (by omega) (by omega)).trans (o0 7 j)))
    refine h1 hm5 mi3 (am_cx_of hc3 (fun w i hv => ?_)) (fun i h1 h2 => by rw [z9, z10]; exact hz i (by omega) h2) (am_kp_t k0 (am_kp_t k1 (am_kp_t k2 k3))) (by rw [v3, v2, v1, v0])
    by_cases e7 : w = 7 ∧ i = m
    · obtain ⟨rfl, rfl⟩ := e7
      rw [am_uu_k, am_uu_n (by omega), am_uu_n (by omega), am_uu_n (by omega)]
      exact (o0 7 _).trans (hz _ (Nat.le_refl _) (by omega)).2
    rw [am_uu_n (w := 7) (fun p q => e7 ⟨p, q⟩)]
    by_cases e6 : w = 6 ∧ i = m
    · obtain ⟨rfl, rfl⟩ := e6
      rw [am_uu_k, am_uu_n (by omega), am_uu_n (by omega), am_uu_n (by omega)]
      exact (o0 6 _).trans (hz _ (Nat.le_refl _) (by omega)).1
    rw [am_uu_n (w := 6) (fun p q => e6 ⟨p, q⟩)]
    by_cases e5 : w = 5 ∧ i = m
    · obtain ⟨rfl, rfl⟩ := e5
      rw [am_uu_k, am_uu_k]
    rw [am_uu_n (w := 5) (fun p q => e5 ⟨p, q⟩), am_uu_n (w := 5) (fun p q => e5 ⟨p, q⟩)]
    by_cases e4 : w = 4 ∧ i = m
    · obtain ⟨rfl, rfl⟩ := e4
      rw [am_uu_k, am_uu_k]
    rw [am_uu_n (w := 4) (fun p q => e4 ⟨p, q⟩), am_uu_n (w := 4) (fun p q => e4 ⟨p, q⟩)]
    by_cases e3 : w = 3 ∧ i = m
    · obtain ⟨rfl, rfl⟩ := e3
      rw [am_uu_k, am_uu_k]
    rw [am_uu_n (w := 3) (fun p q => e3 ⟨p, q⟩), am_uu_n (w := 3) (fun p q => e3 ⟨p, q⟩)]
    exact (o0 w i).trans (hc.2.2.2.2 w i (by unfold am_val at hv ⊢; omega))
  · simp only [am_lt_i, am_le_i, am_eq_i, ne_eq, am_l0, am_l1, am_l2, am_l3, am_l4, am_l5, am_l6, am_l7, am_l8, am_l9, am_l10, am_l11, am_l12, am_l13, am_l14, am_l15, am_l16, am_l17, am_l18, am_l19, am_l20, am_l21, am_l22, am_l23, am_l24, am_l25, am_l26, am_l30, am_l32, am_l33, am_l37, am_l38, am_l40, am_l41, am_l42, am_l43, am_l45, am_l47, am_l48, am_l50, am_l57, am_l59, am_l60, am_l61, am_l62, am_l63, am_l70, am_l80, am_l81, am_l97, am_l99, am_l100, am_l110, am_l115, am_l119, am_l120, am_l121, am_l124, am_l126, am_l156, am_l255, am_l1103515245, am_l12345, am_l2147483647, am_lm1, am_lm2, am_lm3, am_lm5, am_lm11, am_lm12, am_lm13, am_lm14, am_lm33, am_lm59, am_lm63, am_lm100, am_lm126, hm] at q
    have := hc.2.1
    omega
/-- isAway(child, day) -/
theorem sp_8 {x z : Int32} {c : Nat} (hc : am_cx n m u mi) (hr : am_ur n m u) (hcm : c < m) (hx : x = nI c) (h1 : am_aw u c z → R (some (.int 1)) mi ml) (h0 : ¬ am_aw u c z → R (some (.int 0)) mi ml) : am_call (d + 2) 8 [.ref 1, .int x, .int z] mi ml R := by
  have b6 := am_ur_i hr (am_vc (n := n) (w := 6) (by omega) (by omega) hcm)
  have e6 : am_lo 6 = 0 := rfl
  refine bk_8 (sp_4c hc (w := 6) rfl hx (am_vc (by omega) (by omega) hcm) (am_ri_i ⟨fun q => ⟨am_b0, h0 ?_⟩, fun q => ⟨fun q2 => ⟨am_b0, h0 ?_⟩, fun q2 => sp_4c hc (w := 7) rfl hx (am_vc (by omega) (by omega) hcm) (am_ri_i ⟨fun q3 => ⟨am_b0, h0 ?_⟩, fun q3 => ⟨am_b1, h1 ?_⟩⟩)⟩⟩))
  · simp only [am_lt_i, am_le_i, am_eq_i, ne_eq, am_l0, am_l1, am_l2, am_l3, am_l4, am_l5, am_l6, am_l7, am_l8, am_l9, am_l10, am_l11, am_l12, am_l13, am_l14, am_l15, am_l16, am_l17, am_l18, am_l19, am_l20, am_l21, am_l22, am_l23, am_l24, am_l25, am_l26, am_l30, am_l32, am_l33, am_l37, am_l38, am_l40, am_l41, am_l42, am_l43, am_l45, am_l47, am_l48, am_l50, am_l57, am_l59, am_l60, am_l61, am_l62, am_l63, am_l70, am_l80, am_l81, am_l97, am_l99, am_l100, am_l110, am_l115, am_l119, am_l120, am_l121, am_l124, am_l126, am_l156, am_l255, am_l1103515245, am_l12345, am_l2147483647, am_lm1, am_lm2, am_lm3, am_lm5, am_lm11, am_lm12, am_lm13, am_lm14, am_lm33, am_lm59, am_lm63, am_lm100, am_lm126] at q
    omega
  · simp only [am_lt_i, am_le_i, am_eq_i, ne_eq, am_l0, am_l1, am_l2, am_l3, am_l4, am_l5, am_l6, am_l7, am_l8, am_l9, am_l10, am_l11, am_l12, am_l13, am_l14, am_l15, am_l16, am_l17, am_l18, am_l19, am_l20, am_l21, am_l22, am_l23, am_l24, am_l25, am_l26, am_l30, am_l32, am_l33, am_l37, am_l38, am_l40, am_l41, am_l42, am_l43, am_l45, am_l47, am_l48, am_l50, am_l57, am_l59, am_l60, am_l61, am_l62, am_l63, am_l70, am_l80, am_l81, am_l97, am_l99, am_l100, am_l110, am_l115, am_l119, am_l120, am_l121, am_l124, am_l126, am_l156, am_l255, am_l1103515245, am_l12345, am_l2147483647, am_lm1, am_lm2, am_lm3, am_lm5, am_lm11, am_lm12, am_lm13, am_lm14, am_lm33, am_lm59, am_lm63, am_lm100, am_lm126] at q q2
    omega
  · simp only [am_lt_i, am_le_i, am_eq_i, ne_eq, am_l0, am_l1, am_l2, am_l3, am_l4, am_l5, am_l6, am_l7, am_l8, am_l9, am_l10, am_l11, am_l12, am_l13, am_l14, am_l15, am_l16, am_l17, am_l18, am_l19, am_l20, am_l21, am_l22, am_l23, am_l24, am_l25, am_l26, am_l30, am_l32, am_l33, am_l37, am_l38, am_l40, am_l41, am_l42, am_l43, am_l45, am_l47, am_l48, am_l50, am_l57, am_l59, am_l60, am_l61, am_l62, am_l63, am_l70, am_l80, am_l81, am_l97, am_l99, am_l100, am_l110, am_l115, am_l119, am_l120, am_l121, am_l124, am_l126, am_l156, am_l255, am_l1103515245, am_l12345, am_l2147483647, am_lm1, am_lm2, am_lm3, am_lm5, am_lm11, am_lm12, am_lm13, am_lm14, am_lm33, am_lm59, am_lm63, am_lm100, am_lm126] at q q2 q3
    omega
  · simp only [am_lt_i, am_le_i, am_eq_i, ne_eq, am_l0, am_l1, am_l2, am_l3, am_l4, am_l5, am_l6, am_l7, am_l8, am_l9, am_l10, am_l11, am_l12, am_l13, am_l14, am_l15, am_l16, am_l17, am_l18, am_l19, am_l20, am_l21, am_l22, am_l23, am_l24, am_l25, am_l26, am_l30, am_l32, am_l33, am_l37, am_l38, am_l40, am_l41, am_l42, am_l43, am_l45, am_l47, am_l48, am_l50, am_l57, am_l59, am_l60, am_l61, am_l62, am_l63, am_l70, am_l80, am_l81, am_l97, am_l99, am_l100, am_l110, am_l115, am_l119, am_l120, am_l121, am_l124, am_l126, am_l156, am_l255, am_l1103515245, am_l12345, am_l2147483647, am_lm1, am_lm2, am_lm3, am_lm5, am_lm11, am_lm12, am_lm13, am_lm14, am_lm33, am_lm59, am_lm63, am_lm100, am_lm126] at q q2 q3
    omega
/-- late(child, door) -/
theorem sp_9 {x z : Int32} {c i : Nat} (hc : am_cx n m u mi) (hr : am_ur n m u) (hcm : c < m) (hin : i < n) (hx : x = nI c) (hz : z = nI i) (h1 : am_nev u c i → R (some (.int (-1))) mi ml) (h0 : ¬ am_nev u c i → R (some (.int (am_lat u c i))) mi ml) : am_call (d + 3) 9 [.ref 1, .int x, .int z] mi ml R := by
  have b7 := am_ur_i hr (am_vc (n := n) (w := 7) (by omega) (by omega) hcm)
  obtain ⟨k, g1, g2, g3⟩ := hr 7 c (am_vc (by omega) (by omega) hcm)
  have e7 : am_hi 7 = 24 := rfl
  have e8 : am_lo 7 = 0 := rfl
  have e9 : (u 7 c + 1).toInt = (u 7 c).toInt + 1 := by
    rw [g3, nI_1, am_ti (by omega), am_ti (by omega)]
    omega
  refine bk_9 (sp_4c hc (w := 0) rfl hz (am_vd (by omega) hin) (am_ri_i (sp_8 hc hr hcm hx (fun ha => am_ri_i (am_yn (sp_4c hc (w := 7) rfl hx (am_vc (by omega) (by omega) hcm) (am_ri_i ⟨fun q => h1 ⟨ha, ?_⟩, fun q => ?_⟩)))) (fun ha => am_ri_i (am_nn ?_)))))
  · simp only [am_lt_i, am_le_i, am_eq_i, ne_eq, am_l0, am_l1, am_l2, am_l3, am_l4, am_l5, am_l6, am_l7, am_l8, am_l9, am_l10, am_l11, am_l12, am_l13, am_l14, am_l15, am_l16, am_l17, am_l18, am_l19, am_l20, am_l21, am_l22, am_l23, am_l24, am_l25, am_l26, am_l30, am_l32, am_l33, am_l37, am_l38, am_l40, am_l41, am_l42, am_l43, am_l45, am_l47, am_l48, am_l50, am_l57, am_l59, am_l60, am_l61, am_l62, am_l63, am_l70, am_l80, am_l81, am_l97, am_l99, am_l100, am_l110, am_l115, am_l119, am_l120, am_l121, am_l124, am_l126, am_l156, am_l255, am_l1103515245, am_l12345, am_l2147483647, am_lm1, am_lm2, am_lm3, am_lm5, am_lm11, am_lm12, am_lm13, am_lm14, am_lm33, am_lm59, am_lm63, am_lm100, am_lm126, e9] at q
    omega
  · have z := h0 (fun w => by
      have w2 := w.2
      simp only [am_lt_i, am_le_i, am_eq_i, ne_eq, am_l0, am_l1, am_l2, am_l3, am_l4, am_l5, am_l6, am_l7, am_l8, am_l9, am_l10, am_l11, am_l12, am_l13, am_l14, am_l15, am_l16, am_l17, am_l18, am_l19, am_l20, am_l21, am_l22, am_l23, am_l24, am_l25, am_l26, am_l30, am_l32, am_l33, am_l37, am_l38, am_l40, am_l41, am_l42, am_l43, am_l45, am_l47, am_l48, am_l50, am_l57, am_l59, am_l60, am_l61, am_l62, am_l63, am_l70, am_l80, am_l81, am_l97, am_l99, am_l100, am_l110, am_l115, am_l119, am_l120, am_l121, am_l124, am_l126, am_l156, am_l255, am_l1103515245, am_l12345, am_l2147483647, am_lm1, am_lm2, am_lm3, am_lm5, am_lm11, am_lm12, am_lm13, am_lm14, am_lm33, am_lm59, am_lm63, am_lm100, am_lm126, e9] at q
      omega)
    unfold am_lat at z
    rw [if_pos ha] at z
    exact z
  · have z := h0 (fun w => ha w.1)
    unfold am_lat at z
    rw [if_neg ha] at z
    exact z
/-- a child holds out till that day -/
def am_hol (u : Nat → Nat → Int32) (c : Nat) : Int32 := am_min (u 5 c * 3 + (if u 8 0 = 0 then 2 else 0)) 24
theorem sp_11 {x : Int32} {c : Nat} (hc : am_cx n m u mi) (hcm : c < m) (hx : x = nI c) (h : R (some (.int (am_hol u c))) mi ml) : am_call (d + 2) 11 [.ref 1, .int x] mi ml R := by
  unfold am_hol at h
  refine bk_11 (sp_4c hc (w := 8) (i := 0) rfl rfl (am_vs (by omega) (by omega)) (am_ri_i ⟨fun q => ?_, fun q => ?_⟩))
  · refine sp_4c hc (w := 5) rfl hx (am_vc (by omega) (by omega) hcm) (am_ri_i ?_)
    rw [if_neg q] at h
    exact h
  · refine sp_4c hc (w := 5) rfl hx (am_vc (by omega) (by omega) hcm) (am_ri_i ?_)
    rw [if_pos (Decidable.not_not.mp q)] at h
    exact h
/-- so many of the first j things -/
def am_cnt (p : Nat → Bool) : Nat → Nat
  | 0 => 0
  | j + 1 => am_cnt p j + (if p j = true then 1 else 0)
theorem am_cnt_le (p : Nat → Bool) : ∀ j, am_cnt p j ≤ j
  | 0 => Nat.le_refl _
  | j + 1 => by
    have := am_cnt_le p j
    unfold am_cnt
    split <;> omega
theorem sp_10 {x : Int32} {c : Nat} (hc : am_cx n m u mi) (hr : am_ur n m u) (hcm : c < m) (hx : x = nI c) (h : R (some (.int (nI (am_cnt (fun i => decide (am_aw u c (u 0 i))) n)))) mi ml) : am_call (d + 3) 10 [.ref 1, .int x] mi ml R := by
  have hn := hc.1
  refine bk_10 (am_for n (fun j => am_wp (am_call (d + 2)) mt_10 R 4 [some (.ref 1), some (.int x), some (.int (nI (am_cnt (fun i => decide (am_aw u c (u 0 i))) j))), some (.int (nI j))] [] mi ml) ?_ (fun j hj ih => ?_) 0 (Nat.zero_le _))
  · exact bk_10_4 (pk_le n n (fun _ => h) (fun q => absurd q (Nat.lt_irrefl _)) hc.2.2.1 rfl)
  · refine bk_10_4 (pk_le n j (fun q => absurd q (by omega)) (fun _ => ?_) hc.2.2.1 rfl)
    refine sp_4c hc (w := 0) rfl rfl (am_vd (by omega) hj) (am_ri_i (sp_8 hc hr hcm hx (fun ha => am_ri_i (am_y ?_)) (fun ha => am_ri_i (am_n0 ?_))))
    · unfold am_cnt at ih
      rw [if_pos (decide_eq_true ha)] at ih
      rw [nI_1, nI_1]
      exact ih
    · unfold am_cnt at ih
      rw [if_neg (by simpa using ha)] at ih
      rw [nI_1]
      exact ih
end SP20
