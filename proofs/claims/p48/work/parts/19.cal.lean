/-! specs: the calendar, of the class and of the reference -/
def am_val (n m w i : Nat) : Prop := (w ≤ 2 ∧ i < n) ∨ (3 ≤ w ∧ w ≤ 7 ∧ i < m) ∨ (8 ≤ w ∧ w ≤ 9 ∧ i = 0)
def am_lo (w : Nat) : Nat := am_nth 0 [1, 0, 1, 1, 0, 0, 0, 0, 0, 0] w
def am_hi (w : Nat) : Nat := am_nth 0 [24, 7, 9, 18, 7, 9, 24, 24, 1, 9] w
/-- what the rows of the class's statics hold; how long the script is -/
def am_sta (mi : am_MI) : Prop := (∀ j, j < 10 → mi 114 j = nI (am_lo j) ∧ mi 115 j = nI (am_hi j)) ∧
  mi 116 0 = -1 ∧ mi 116 1 = 0 ∧ mi 116 2 = 0 ∧ mi 116 3 = 2 ∧ mi 116 4 = 1 ∧ mi 116 5 = 3 ∧ mi 116 6 = 0 ∧ mi 116 7 = 4 ∧ (mi 117 100000).toNatClampNeg ≤ 260
/-- the class's calendar: n doors, m children, their numbers u -/
def am_cx (n m : Nat) (u : Nat → Nat → Int32) (mi : am_MI) : Prop := n ≤ 12 ∧ m ≤ 5 ∧ mi 1 1 = nI n ∧ mi 1 2 = nI m ∧ ∀ w i, am_val n m w i → mi (3 + w) i = u w i
theorem am_cx_n {n m u mi} (h : am_cx n m u mi) : (mi 1 1).toInt = (n : Int) := by
  rw [h.2.2.1]
  exact am_ti (by have := h.1; omega)
theorem am_cx_m {n m u mi} (h : am_cx n m u mi) : (mi 1 2).toInt = (m : Int) := by
  rw [h.2.2.2.1]
  exact am_ti (by have := h.2.1; omega)
theorem am_cx_on {n m u} {a b : am_MI} (h : am_cx n m u a) (h1 : b 1 1 = a 1 1) (h2 : b 1 2 = a 1 2) (h3 : ∀ w i, w < 10 → b (3 + w) i = a (3 + w) i) : am_cx n m u b :=
  ⟨h.1, h.2.1, h1.trans h.2.2.1, h2.trans h.2.2.2.1, fun w i q => (h3 w i (by unfold am_val at q; omega)).trans (h.2.2.2.2 w i q)⟩
section SP19
variable {d n m : Nat} {u : Nat → Nat → Int32} {mi : am_MI} {ml : am_ML} {R : am_R}
theorem sp_0 {x : Int32} (hc : am_cx n m u mi) (h1 : ∀ k, k < n → x = nI k → R (some (.int 1)) mi ml) (h0 : (x.toInt < 0 ∨ n ≤ x.toInt) → R (some (.int 0)) mi ml) : am_call (d + 1) 0 [.ref 1, .int x] mi ml R := by
  have hn := am_cx_n hc
  refine bk_0 ⟨fun q => ⟨am_b0, h0 ?_⟩, fun q => ⟨fun q2 => ⟨am_b0, h0 ?_⟩, fun q2 => ⟨am_b1, ?_⟩⟩⟩
  · simp only [am_lt_i, am_le_i, am_eq_i, ne_eq, am_l0, am_l1, am_l2, am_l3, am_l4, am_l5, am_l6, am_l7, am_l8, am_l9, am_l10, am_l11, am_l12, am_l13, am_l14, am_l15, am_l16, am_l17, am_l18, am_l19, am_l20, am_l21, am_l22, am_l23, am_l24, am_l25, am_l26, am_l30, am_l32, am_l33, am_l37, am_l38, am_l40, am_l41, am_l42, am_l43, am_l45, am_l47, am_l48, am_l50, am_l57, am_l59, am_l60, am_l61, am_l62, am_l63, am_l70, am_l80, am_l81, am_l97, am_l99, am_l100, am_l110, am_l115, am_l119, am_l120, am_l121, am_l124, am_l126, am_l156, am_l255, am_l1103515245, am_l12345, am_l2147483647, am_lm1, am_lm2, am_lm3, am_lm5, am_lm11, am_lm12, am_lm13, am_lm14, am_lm33, am_lm59, am_lm63, am_lm100, am_lm126] at q
    omega
  · simp only [am_lt_i, am_le_i, am_eq_i, ne_eq, am_l0, am_l1, am_l2, am_l3, am_l4, am_l5, am_l6, am_l7, am_l8, am_l9, am_l10, am_l11, am_l12, am_l13, am_l14, am_l15, am_l16, am_l17, am_l18, am_l19, am_l20, am_l21, am_l22, am_l23, am_l24, am_l25, am_l26, am_l30, am_l32, am_l33, am_l37, am_l38, am_l40, am_l41, am_l42, am_l43, am_l45, am_l47, am_l48, am_l50, am_l57, am_l59, am_l60, am_l61, am_l62, am_l63, am_l70, am_l80, am_l81, am_l97, am_l99, am_l100, am_l110, am_l115, am_l119, am_l120, am_l121, am_l124, am_l126, am_l156, am_l255, am_l1103515245, am_l12345, am_l2147483647, am_lm1, am_lm2, am_lm3, am_lm5, am_lm11, am_lm12, am_lm13, am_lm14, am_lm33, am_lm59, am_lm63, am_lm100, am_lm126, hn] at q2
    omega
  · simp only [am_lt_i, am_le_i, am_eq_i, ne_eq, am_l0, am_l1, am_l2, am_l3, am_l4, am_l5, am_l6, am_l7, am_l8, am_l9, am_l10, am_l11, am_l12, am_l13, am_l14, am_l15, am_l16, am_l17, am_l18, am_l19, am_l20, am_l21, am_l22, am_l23, am_l24, am_l25, am_l26, am_l30, am_l32, am_l33, am_l37, am_l38, am_l40, am_l41, am_l42, am_l43, am_l45, am_l47, am_l48, am_l50, am_l57, am_l59, am_l60, am_l61, am_l62, am_l63, am_l70, am_l80, am_l81, am_l97, am_l99, am_l100, am_l110, am_l115, am_l119, am_l120, am_l121, am_l124, am_l126, am_l156, am_l255, am_l1103515245, am_l12345, am_l2147483647, am_lm1, am_lm2, am_lm3, am_lm5, am_lm11, am_lm12, am_lm13, am_lm14, am_lm33, am_lm59, am_lm63, am_lm100, am_lm126, hn] at q q2
    obtain ⟨k, hk, e⟩ := am_nat (x := x) (n := n) (by omega) (by omega)
    exact h1 k hk e
theorem sp_1 {x : Int32} (hc : am_cx n m u mi) (h1 : ∀ k, k < m → x = nI k → R (some (.int 1)) mi ml) (h0 : (x.toInt < 0 ∨ m ≤ x.toInt) → R (some (.int 0)) mi ml) : am_call (d + 1) 1 [.ref 1, .int x] mi ml R := by
  have hn := am_cx_m hc
  refine bk_1 ⟨fun q => ⟨am_b0, h0 ?_⟩, fun q => ⟨fun q2 => ⟨am_b0, h0 ?_⟩, fun q2 => ⟨am_b1, ?_⟩⟩⟩
  · simp only [am_lt_i, am_le_i, am_eq_i, ne_eq, am_l0, am_l1, am_l2, am_l3, am_l4, am_l5, am_l6, am_l7, am_l8, am_l9, am_l10, am_l11, am_l12, am_l13, am_l14, am_l15, am_l16, am_l17, am_l18, am_l19, am_l20, am_l21, am_l22, am_l23, am_l24, am_l25, am_l26, am_l30, am_l32, am_l33, am_l37, am_l38, am_l40, am_l41, am_l42, am_l43, am_l45, am_l47, am_l48, am_l50, am_l57, am_l59, am_l60, am_l61, am_l62, am_l63, am_l70, am_l80, am_l81, am_l97, am_l99, am_l100, am_l110, am_l115, am_l119, am_l120, am_l121, am_l124, am_l126, am_l156, am_l255, am_l1103515245, am_l12345, am_l2147483647, am_lm1, am_lm2, am_lm3, am_lm5, am_lm11, am_lm12, am_lm13, am_lm14, am_lm33, am_lm59, am_lm63, am_lm100, am_lm126] at q
    omega
  · simp only [am_lt_i, am_le_i, am_eq_i, ne_eq, am_l0, am_l1, am_l2, am_l3, am_l4, am_l5, am_l6, am_l7, am_l8, am_l9, am_l10, am_l11, am_l12, am_l13, am_l14, am_l15, am_l16, am_l17, am_l18, am_l19, am_l20, am_l21, am_l22, am_l23, am_l24, am_l25, am_l26, am_l30, am_l32, am_l33, am_l37, am_l38, am_l40, am_l41, am_l42, am_l43, am_l45, am_l47, am_l48, am_l50, am_l57, am_l59, am_l60, am_l61, am_l62, am_l63, am_l70, am_l80, am_l81, am_l97, am_l99, am_l100, am_l110, am_l115, am_l119, am_l120, am_l121, am_l124, am_l126, am_l156, am_l255, am_l1103515245, am_l12345, am_l2147483647, am_lm1, am_lm2, am_lm3, am_lm5, am_lm11, am_lm12, am_lm13, am_lm14, am_lm33, am_lm59, am_lm63, am_lm100, am_lm126, hn] at q2
    omega
  · simp only [am_lt_i, am_le_i, am_eq_i, ne_eq, am_l0, am_l1, am_l2, am_l3, am_l4, am_l5, am_l6, am_l7, am_l8, am_l9, am_l10, am_l11, am_l12, am_l13, am_l14, am_l15, am_l16, am_l17, am_l18, am_l19, am_l20, am_l21, am_l22, am_l23, am_l24, am_l25, am_l26, am_l30, am_l32, am_l33, am_l37, am_l38, am_l40, am_l41, am_l42, am_l43, am_l45, am_l47, am_l48, am_l50, am_l57, am_l59, am_l60, am_l61, am_l62, am_l63, am_l70, am_l80, am_l81, am_l97, am_l99, am_l100, am_l110, am_l115, am_l119, am_l120, am_l121, am_l124, am_l126, am_l156, am_l255, am_l1103515245, am_l12345, am_l2147483647, am_lm1, am_lm2, am_lm3, am_lm5, am_lm11, am_lm12, am_lm13, am_lm14, am_lm33, am_lm59, am_lm63, am_lm100, am_lm126, hn] at q q2
    obtain ⟨k, hk, e⟩ := am_nat (x := x) (n := m) (by omega) (by omega)
    exact h1 k hk e
/-- has(what, number) -/
theorem sp_2 {x z : Int32} (hc : am_cx n m u mi) (h1 : ∀ w i, am_val n m w i → x = nI w → z = nI i → R (some (.int 1)) mi ml) (h0 : (∀ w i, am_val n m w i → x = nI w → z = nI i → False) → R (some (.int 0)) mi ml) : am_call (d + 2) 2 [.ref 1, .int x, .int z] mi ml R := by
  have no : ∀ {w i : Nat}, am_val n m w i → w ≤ 9 := by
    intro w i h
    unfold am_val at h
    omega
  refine bk_2 ⟨fun q => ⟨am_b0, h0 ?_⟩, fun q => ⟨fun q2 => ⟨fun q3 => ⟨fun q4 => ⟨fun q5 => ⟨am_b0, h0 ?_⟩, fun q5 => ⟨am_b1, ?_⟩⟩, fun q4 => ?_⟩, fun q3 => ?_⟩, fun q2 => ⟨am_b0, h0 ?_⟩⟩⟩
  · rintro w i hv rfl rfl
    have := no hv
    simp only [am_lt_i, am_le_i, am_eq_i, ne_eq, am_l0, am_l1, am_l2, am_l3, am_l4, am_l5, am_l6, am_l7, am_l8, am_l9, am_l10, am_l11, am_l12, am_l13, am_l14, am_l15, am_l16, am_l17, am_l18, am_l19, am_l20, am_l21, am_l22, am_l23, am_l24, am_l25, am_l26, am_l30, am_l32, am_l33, am_l37, am_l38, am_l40, am_l41, am_l42, am_l43, am_l45, am_l47, am_l48, am_l50, am_l57, am_l59, am_l60, am_l61, am_l62, am_l63, am_l70, am_l80, am_l81, am_l97, am_l99, am_l100, am_l110, am_l115, am_l119, am_l120, am_l121, am_l124, am_l126, am_l156, am_l255, am_l1103515245, am_l12345, am_l2147483647, am_lm1, am_lm2, am_lm3, am_lm5, am_lm11, am_lm12, am_lm13, am_lm14, am_lm33, am_lm59, am_lm63, am_lm100, am_lm126, am_ti (show w < 2 ^ 31 by omega)] at q
    omega
  · rintro w i hv rfl rfl
    have := no hv
    simp only [am_lt_i, am_le_i, am_eq_i, ne_eq, am_l0, am_l1, am_l2, am_l3, am_l4, am_l5, am_l6, am_l7, am_l8, am_l9, am_l10, am_l11, am_l12, am_l13, am_l14, am_l15, am_l16, am_l17, am_l18, am_l19, am_l20, am_l21, am_l22, am_l23, am_l24, am_l25, am_l26, am_l30, am_l32, am_l33, am_l37, am_l38, am_l40, am_l41, am_l42, am_l43, am_l45, am_l47, am_l48, am_l50, am_l57, am_l59, am_l60, am_l61, am_l62, am_l63, am_l70, am_l80, am_l81, am_l97, am_l99, am_l100, am_l110, am_l115, am_l119, am_l120, am_l121, am_l124, am_l126, am_l156, am_l255, am_l1103515245, am_l12345, am_l2147483647, am_lm1, am_lm2, am_lm3, am_lm5, am_lm11, am_lm12, am_lm13, am_lm14, am_lm33, am_lm59, am_lm63, am_lm100, am_lm126, am_ti (show w < 2 ^ 31 by omega)] at q4
    unfold am_val at hv
    have e : i = 0 := by omega
    subst e
    exact q5 rfl
  · simp only [am_lt_i, am_le_i, am_eq_i, ne_eq, am_l0, am_l1, am_l2, am_l3, am_l4, am_l5, am_l6, am_l7, am_l8, am_l9, am_l10, am_l11, am_l12, am_l13, am_l14, am_l15, am_l16, am_l17, am_l18, am_l19, am_l20, am_l21, am_l22, am_l23, am_l24, am_l25, am_l26, am_l30, am_l32, am_l33, am_l37, am_l38, am_l40, am_l41, am_l42, am_l43, am_l45, am_l47, am_l48, am_l50, am_l57, am_l59, am_l60, am_l61, am_l62, am_l63, am_l70, am_l80, am_l81, am_l97, am_l99, am_l100, am_l110, am_l115, am_l119, am_l120, am_l121, am_l124, am_l126, am_l156, am_l255, am_l1103515245, am_l12345, am_l2147483647, am_lm1, am_lm2, am_lm3, am_lm5, am_lm11, am_lm12, am_lm13, am_lm14, am_lm33, am_lm59, am_lm63, am_lm100, am_lm126] at q q2 q3 q4
    obtain ⟨w, hw, e⟩ := am_nat (x := x) (n := 10) (by omega) (by omega)
    subst e
    rw [am_ti (by omega)] at q4
    exact h1 w 0 (by unfold am_val; omega) rfl (Decidable.not_not.mp q5)
  · simp only [am_lt_i, am_le_i, am_eq_i, ne_eq, am_l0, am_l1, am_l2, am_l3, am_l4, am_l5, am_l6, am_l7, am_l8, am_l9, am_l10, am_l11, am_l12, am_l13, am_l14, am_l15, am_l16, am_l17, am_l18, am_l19, am_l20, am_l21, am_l22, am_l23, am_l24, am_l25, am_l26, am_l30, am_l32, am_l33, am_l37, am_l38, am_l40, am_l41, am_l42, am_l43, am_l45, am_l47, am_l48, am_l50, am_l57, am_l59, am_l60, am_l61, am_l62, am_l63, am_l70, am_l80, am_l81, am_l97, am_l99, am_l100, am_l110, am_l115, am_l119, am_l120, am_l121, am_l124, am_l126, am_l156, am_l255, am_l1103515245, am_l12345, am_l2147483647, am_lm1, am_lm2, am_lm3, am_lm5, am_lm11, am_lm12, am_lm13, am_lm14, am_lm33, am_lm59, am_lm63, am_lm100, am_lm126] at q q2 q3 q4
    obtain ⟨w, hw, e⟩ := am_nat (x := x) (n := 10) (by omega) (by omega)
    subst e
    rw [am_ti (by omega)] at q3 q4
    refine sp_1 hc (fun k hk e => am_ri_i ⟨am_b1, h1 w k (by unfold am_val; omega) rfl e⟩) (fun g => am_ri_i ⟨am_b0, h0 ?_⟩)
    rintro w2 i hv e rfl
    have := no hv
    rw [nI_eq (by omega) (by omega)] at e
    subst e
    unfold am_val at hv
    rw [am_ti (by have := hc.2.1; omega)] at g
    omega
  · simp only [am_lt_i, am_le_i, am_eq_i, ne_eq, am_l0, am_l1, am_l2, am_l3, am_l4, am_l5, am_l6, am_l7, am_l8, am_l9, am_l10, am_l11, am_l12, am_l13, am_l14, am_l15, am_l16, am_l17, am_l18, am_l19, am_l20, am_l21, am_l22, am_l23, am_l24, am_l25, am_l26, am_l30, am_l32, am_l33, am_l37, am_l38, am_l40, am_l41, am_l42, am_l43, am_l45, am_l47, am_l48, am_l50, am_l57, am_l59, am_l60, am_l61, am_l62, am_l63, am_l70, am_l80, am_l81, am_l97, am_l99, am_l100, am_l110, am_l115, am_l119, am_l120, am_l121, am_l124, am_l126, am_l156, am_l255, am_l1103515245, am_l12345, am_l2147483647, am_lm1, am_lm2, am_lm3, am_lm5, am_lm11, am_lm12, am_lm13, am_lm14, am_lm33, am_lm59, am_lm63, am_lm100, am_lm126] at q q2 q3
    obtain ⟨w, hw, e⟩ := am_nat (x := x) (n := 10) (by omega) (by omega)
    subst e
    rw [am_ti (by omega)] at q3
    refine sp_0 hc (fun k hk e => am_ri_i ⟨am_b1, h1 w k (by unfold am_val; omega) rfl e⟩) (fun g => am_ri_i ⟨am_b0, h0 ?_⟩)
    rintro w2 i hv e rfl
    have := no hv
    rw [nI_eq (by omega) (by omega)] at e
    subst e
    unfold am_val at hv
    rw [am_ti (by have := hc.1; omega)] at g
    omega
  · rintro w i hv rfl rfl
    have := no hv
    simp only [am_lt_i, am_le_i, am_eq_i, ne_eq, am_l0, am_l1, am_l2, am_l3, am_l4, am_l5, am_l6, am_l7, am_l8, am_l9, am_l10, am_l11, am_l12, am_l13, am_l14, am_l15, am_l16, am_l17, am_l18, am_l19, am_l20, am_l21, am_l22, am_l23, am_l24, am_l25, am_l26, am_l30, am_l32, am_l33, am_l37, am_l38, am_l40, am_l41, am_l42, am_l43, am_l45, am_l47, am_l48, am_l50, am_l57, am_l59, am_l60, am_l61, am_l62, am_l63, am_l70, am_l80, am_l81, am_l97, am_l99, am_l100, am_l110, am_l115, am_l119, am_l120, am_l121, am_l124, am_l126, am_l156, am_l255, am_l1103515245, am_l12345, am_l2147483647, am_lm1, am_lm2, am_lm3, am_lm5, am_lm11, am_lm12, am_lm13, am_lm14, am_lm33, am_lm59, am_lm63, am_lm100, am_lm126, am_ti (show w < 2 ^ 31 by omega)] at q2
    omega
/-- fits(what, v) -/
theorem sp_3 {x z : Int32} {w : Nat} (hs : am_sta mi) (hw : w < 10) (hx : x = nI w) (h1 : ∀ k, am_lo w ≤ k → k ≤ am_hi w → z = nI k → R (some (.int 1)) mi ml) (h0 : (z.toInt < am_lo w ∨ am_hi w < z.toInt) → R (some (.int 0)) mi ml) : am_call (d + 1) 3 [.ref 1, .int x, .int z] mi ml R := by
  subst hx
  have hb : ∀ w, w < 10 → am_lo w ≤ 1 ∧ am_hi w ≤ 24 := by decide
  obtain ⟨b1, b2⟩ := hb w hw
  obtain ⟨e1, e2⟩ := hs.1 w hw
  have hcl : (nI w).toNatClampNeg = w := nI_clamp (by omega)
  have hin : vp_in (nI w) 10 := vp_in_nI hw (by omega)
  rw [← hcl] at e1 e2
  have f1 : (nI (am_lo w)).toInt = am_lo w := am_ti (by omega)
  have f2 : (nI (am_hi w)).toInt = am_hi w := am_ti (by omega)
  have f3 : (nI w).toInt = w := am_ti (by omega)
  rw [hcl] at e1 e2
  refine bk_3 ⟨fun q => ?_, fun q => ⟨fun q2 => ?_, fun q2 => ⟨hin, ⟨fun q3 => ⟨am_b0, h0 ?_⟩, fun q3 => ⟨hin, ⟨fun q4 => ⟨am_b0, h0 ?_⟩, fun q4 => ⟨am_b1, ?_⟩⟩⟩⟩⟩⟩⟩
  · simp only [am_lt_i, am_le_i, am_eq_i, ne_eq, am_l0, am_l1, am_l2, am_l3, am_l4, am_l5, am_l6, am_l7, am_l8, am_l9, am_l10, am_l11, am_l12, am_l13, am_l14, am_l15, am_l16, am_l17, am_l18, am_l19, am_l20, am_l21, am_l22, am_l23, am_l24, am_l25, am_l26, am_l30, am_l32, am_l33, am_l37, am_l38, am_l40, am_l41, am_l42, am_l43, am_l45, am_l47, am_l48, am_l50, am_l57, am_l59, am_l60, am_l61, am_l62, am_l63, am_l70, am_l80, am_l81, am_l97, am_l99, am_l100, am_l110, am_l115, am_l119, am_l120, am_l121, am_l124, am_l126, am_l156, am_l255, am_l1103515245, am_l12345, am_l2147483647, am_lm1, am_lm2, am_lm3, am_lm5, am_lm11, am_lm12, am_lm13, am_lm14, am_lm33, am_lm59, am_lm63, am_lm100, am_lm126, f3] at q
    omega
  · simp only [am_lt_i, am_le_i, am_eq_i, ne_eq, am_l0, am_l1, am_l2, am_l3, am_l4, am_l5, am_l6, am_l7, am_l8, am_l9, am_l10, am_l11, am_l12, am_l13, am_l14, am_l15, am_l16, am_l17, am_l18, am_l19, am_l20, am_l21, am_l22, am_l23, am_l24, am_l25, am_l26, am_l30, am_l32, am_l33, am_l37, am_l38, am_l40, am_l41, am_l42, am_l43, am_l45, am_l47, am_l48, am_l50, am_l57, am_l59, am_l60, am_l61, am_l62, am_l63, am_l70, am_l80, am_l81, am_l97, am_l99, am_l100, am_l110, am_l115, am_l119, am_l120, am_l121, am_l124, am_l126, am_l156, am_l255, am_l1103515245, am_l12345, am_l2147483647, am_lm1, am_lm2, am_lm3, am_lm5, am_lm11, am_lm12, am_lm13, am_lm14, am_lm33, am_lm59, am_lm63, am_lm100, am_lm126, f3] at q2
    omega
  · rw [hcl, e1] at q3
    simp only [am_lt_i, am_le_i, am_eq_i, ne_eq, am_l0, am_l1, am_l2, am_l3, am_l4, am_l5, am_l6, am_l7, am_l8, am_l9, am_l10, am_l11, am_l12, am_l13, am_l14, am_l15, am_l16, am_l17, am_l18, am_l19, am_l20, am_l21, am_l22, am_l23, am_l24, am_l25, am_l26, am_l30, am_l32, am_l33, am_l37, am_l38, am_l40, am_l41, am_l42, am_l43, am_l45, am_l47, am_l48, am_l50, am_l57, am_l59, am_l60, am_l61, am_l62, am_l63, am_l70, am_l80, am_l81, am_l97, am_l99, am_l100, am_l110, am_l115, am_l119, am_l120, am_l121, am_l124, am_l126, am_l156, am_l255, am_l1103515245, am_l12345, am_l2147483647, am_lm1, am_lm2, am_lm3, am_lm5, am_lm11, am_lm12, am_lm13, am_lm14, am_lm33, am_lm59, am_lm63, am_lm100, am_lm126, f1] at q3
    omega
  · rw [hcl, e2] at q4
    simp only [am_lt_i, am_le_i, am_eq_i, ne_eq, am_l0, am_l1, am_l2, am_l3, am_l4, am_l5, am_l6, am_l7, am_l8, am_l9, am_l10, am_l11, am_l12, am_l13, am_l14, am_l15, am_l16, am_l17, am_l18, am_l19, am_l20, am_l21, am_l22, am_l23, am_l24, am_l25, am_l26, am_l30, am_l32, am_l33, am_l37, am_l38, am_l40, am_l41, am_l42, am_l43, am_l45, am_l47, am_l48, am_l50, am_l57, am_l59, am_l60, am_l61, am_l62, am_l63, am_l70, am_l80, am_l81, am_l97, am_l99, am_l100, am_l110, am_l115, am_l119, am_l120, am_l121, am_l124, am_l126, am_l156, am_l255, am_l1103515245, am_l12345, am_l2147483647, am_lm1, am_lm2, am_lm3, am_lm5, am_lm11, am_lm12, am_lm13, am_lm14, am_lm33, am_lm59, am_lm63, am_lm100, am_lm126, f2] at q4
    omega
  · rw [hcl, e1] at q3
    rw [hcl, e2] at q4
    simp only [am_lt_i, am_le_i, am_eq_i, ne_eq, am_l0, am_l1, am_l2, am_l3, am_l4, am_l5, am_l6, am_l7, am_l8, am_l9, am_l10, am_l11, am_l12, am_l13, am_l14, am_l15, am_l16, am_l17, am_l18, am_l19, am_l20, am_l21, am_l22, am_l23, am_l24, am_l25, am_l26, am_l30, am_l32, am_l33, am_l37, am_l38, am_l40, am_l41, am_l42, am_l43, am_l45, am_l47, am_l48, am_l50, am_l57, am_l59, am_l60, am_l61, am_l62, am_l63, am_l70, am_l80, am_l81, am_l97, am_l99, am_l100, am_l110, am_l115, am_l119, am_l120, am_l121, am_l124, am_l126, am_l156, am_l255, am_l1103515245, am_l12345, am_l2147483647, am_lm1, am_lm2, am_lm3, am_lm5, am_lm11, am_lm12, am_lm13, am_lm14, am_lm33, am_lm59, am_lm63, am_lm100, am_lm126, f1, f2] at q3 q4
    obtain ⟨k, hk, e⟩ := am_nat (x := z) (n := 25) (by omega) (by omega)
    subst e
    rw [am_ti (by omega)] at q3 q4
    exact h1 k (by omega) (by omega) rfl
/-- get(what, number), a number that is there -/
theorem sp_4 {x z : Int32} {w i : Nat} (hx : x = nI w) (hz : z = nI i) (hw : w < 10) (hi : i < 12) (h : R (some (.int (mi (3 + w) i))) mi ml) : am_call (d + 1) 4 [.ref 1, .int x, .int z] mi ml R := by
  subst hx
  subst hz
  have f1 : (nI w).toInt = w := am_ti (by omega)
  have f2 : (nI i).toInt = i := am_ti (by omega)
  have c1 : (nI w).toNatClampNeg = w := nI_clamp (by omega)
  have c2 : (nI i).toNatClampNeg = i := nI_clamp (by omega)
  have hk : ∀ w, w < 10 → am_kd (3 + 1 * w) = 2 ∧ am_n (3 + 1 * w) = 12 := by decide
  obtain ⟨k1, k2⟩ := hk w hw
  refine bk_4 ⟨fun q => ?_, fun q => ⟨fun q2 => ?_, fun q2 => ⟨fun q3 => ?_, fun q3 => ⟨fun q4 => ⟨vp_in_nI hw (by omega), ?_⟩, fun q4 => ?_⟩⟩⟩⟩
  · simp only [am_lt_i, am_le_i, am_eq_i, ne_eq, am_l0, am_l1, am_l2, am_l3, am_l4, am_l5, am_l6, am_l7, am_l8, am_l9, am_l10, am_l11, am_l12, am_l13, am_l14, am_l15, am_l16, am_l17, am_l18, am_l19, am_l20, am_l21, am_l22, am_l23, am_l24, am_l25, am_l26, am_l30, am_l32, am_l33, am_l37, am_l38, am_l40, am_l41, am_l42, am_l43, am_l45, am_l47, am_l48, am_l50, am_l57, am_l59, am_l60, am_l61, am_l62, am_l63, am_l70, am_l80, am_l81, am_l97, am_l99, am_l100, am_l110, am_l115, am_l119, am_l120, am_l121, am_l124, am_l126, am_l156, am_l255, am_l1103515245, am_l12345, am_l2147483647, am_lm1, am_lm2, am_lm3, am_lm5, am_lm11, am_lm12, am_lm13, am_lm14, am_lm33, am_lm59, am_lm63, am_lm100, am_lm126, f1] at q
    omega
  · simp only [am_lt_i, am_le_i, am_eq_i, ne_eq, am_l0, am_l1, am_l2, am_l3, am_l4, am_l5, am_l6, am_l7, am_l8, am_l9, am_l10, am_l11, am_l12, am_l13, am_l14, am_l15, am_l16, am_l17, am_l18, am_l19, am_l20, am_l21, am_l22, am_l23, am_l24, am_l25, am_l26, am_l30, am_l32, am_l33, am_l37, am_l38, am_l40, am_l41, am_l42, am_l43, am_l45, am_l47, am_l48, am_l50, am_l57, am_l59, am_l60, am_l61, am_l62, am_l63, am_l70, am_l80, am_l81, am_l97, am_l99, am_l100, am_l110, am_l115, am_l119, am_l120, am_l121, am_l124, am_l126, am_l156, am_l255, am_l1103515245, am_l12345, am_l2147483647, am_lm1, am_lm2, am_lm3, am_lm5, am_lm11, am_lm12, am_lm13, am_lm14, am_lm33, am_lm59, am_lm63, am_lm100, am_lm126, f1] at q2
    omega
  · simp only [am_lt_i, am_le_i, am_eq_i, ne_eq, am_l0, am_l1, am_l2, am_l3, am_l4, am_l5, am_l6, am_l7, am_l8, am_l9, am_l10, am_l11, am_l12, am_l13, am_l14, am_l15, am_l16, am_l17, am_l18, am_l19, am_l20, am_l21, am_l22, am_l23, am_l24, am_l25, am_l26, am_l30, am_l32, am_l33, am_l37, am_l38, am_l40, am_l41, am_l42, am_l43, am_l45, am_l47, am_l48, am_l50, am_l57, am_l59, am_l60, am_l61, am_l62, am_l63, am_l70, am_l80, am_l81, am_l97, am_l99, am_l100, am_l110, am_l115, am_l119, am_l120, am_l121, am_l124, am_l126, am_l156, am_l255, am_l1103515245, am_l12345, am_l2147483647, am_lm1, am_lm2, am_lm3, am_lm5, am_lm11, am_lm12, am_lm13, am_lm14, am_lm33, am_lm59, am_lm63, am_lm100, am_lm126, f2] at q3
    omega
  · rw [c1, c2]
    refine am_need_i (by rw [k1]; rfl) ⟨?_, ?_⟩
    · have e : am_len mi (3 + 1 * w) = 12 := by
        unfold am_len
        rw [k1]
        exact k2
      rw [e]
      exact vp_in_nI hi (by omega)
    · rw [Nat.one_mul]
      exact h
  · simp only [am_lt_i, am_le_i, am_eq_i, ne_eq, am_l0, am_l1, am_l2, am_l3, am_l4, am_l5, am_l6, am_l7, am_l8, am_l9, am_l10, am_l11, am_l12, am_l13, am_l14, am_l15, am_l16, am_l17, am_l18, am_l19, am_l20, am_l21, am_l22, am_l23, am_l24, am_l25, am_l26, am_l30, am_l32, am_l33, am_l37, am_l38, am_l40, am_l41, am_l42, am_l43, am_l45, am_l47, am_l48, am_l50, am_l57, am_l59, am_l60, am_l61, am_l62, am_l63, am_l70, am_l80, am_l81, am_l97, am_l99, am_l100, am_l110, am_l115, am_l119, am_l120, am_l121, am_l124, am_l126, am_l156, am_l255, am_l1103515245, am_l12345, am_l2147483647, am_lm1, am_lm2, am_lm3, am_lm5, am_lm11, am_lm12, am_lm13, am_lm14, am_lm33, am_lm59, am_lm63, am_lm100, am_lm126, f2] at q4
    omega
theorem sp_4c {x z : Int32} {w i : Nat} (hc : am_cx n m u mi) (hx : x = nI w) (hz : z = nI i) (hv : am_val n m w i) (h : R (some (.int (u w i))) mi ml) : am_call (d + 1) 4 [.ref 1, .int x, .int z] mi ml R := by
  have h1 := hc.1
  have h2 := hc.2.1
  refine sp_4 hx hz (by unfold am_val at hv; omega) (by unfold am_val at hv; omega) ?_
  rw [hc.2.2.2.2 w i hv]
  exact h
end SP19
