/-! specs: the calendar of the reference -/
def am_mc (w : Nat) : Nat := am_nth 0 [79, 80, 81, 83, 84, 85, 86, 87, 88, 88] w
def am_mj (w i : Nat) : Nat := if w = 9 then 1 else i
def am_cm (n m : Nat) (u : Nat → Nat → Int32) (mi : am_MI) : Prop := n ≤ 12 ∧ m ≤ 5 ∧ mi 78 0 = nI n ∧ mi 78 5 = nI m ∧ ∀ w i, am_val n m w i → mi (am_mc w) (am_mj w i) = u w i
/-- the calendar's own places -/
def am_FM : Nat → Nat → Bool := fun c j => decide ((c = 78 ∧ (j = 0 ∨ j = 5)) ∨ (79 ≤ c ∧ c ≤ 88))
theorem am_cm_n {n m u mi} (h : am_cm n m u mi) : (mi 78 0).toInt = (n : Int) := by
  rw [h.2.2.1]
  exact am_ti (by have := h.1; omega)
theorem am_cm_m {n m u mi} (h : am_cm n m u mi) : (mi 78 5).toInt = (m : Int) := by
  rw [h.2.2.2.1]
  exact am_ti (by have := h.2.1; omega)
theorem am_mc_r : ∀ w, w < 10 → 79 ≤ am_mc w ∧ am_mc w ≤ 88 ∧ ¬ am_mc w = 82 := by decide
theorem am_FM_w {w i : Nat} (h : w < 10) : am_FM (am_mc w) i = true := by
  have := am_mc_r w h
  exact decide_eq_true (by omega)
theorem am_m1 {n : Nat} (h : n < 2 ^ 30) : (nI n - 1).toInt = (n : Int) - 1 := pk_sub_toInt (b := 1) h (by omega)
section SP21
variable {d n m : Nat} {u : Nat → Nat → Int32} {mi : am_MI} {ml : am_ML} {R : am_R}
theorem sp_168 {v lo hi : Int32} (h1 : lo.toInt ≤ v.toInt → v.toInt ≤ hi.toInt → R (some (.int 1)) mi ml) (h0 : (v.toInt < lo.toInt ∨ hi.toInt < v.toInt) → R (some (.int 0)) mi ml) : am_call (d + 1) 168 [.int v, .int lo, .int hi] mi ml R := by
  refine bk_168 ⟨fun q => ⟨am_b0, h0 ?_⟩, fun q => ⟨fun q2 => ⟨am_b0, h0 ?_⟩, fun q2 => ⟨am_b1, h1 ?_ ?_⟩⟩⟩
  · simp only [am_lt_i, am_le_i, am_eq_i, ne_eq, am_l0, am_l1, am_l2, am_l3, am_l4, am_l5, am_l6, am_l7, am_l8, am_l9, am_l10, am_l11, am_l12, am_l13, am_l14, am_l15, am_l16, am_l17, am_l18, am_l19, am_l20, am_l21, am_l22, am_l23, am_l24, am_l25, am_l26, am_l30, am_l32, am_l33, am_l37, am_l38, am_l40, am_l41, am_l42, am_l43, am_l45, am_l47, am_l48, am_l50, am_l57, am_l59, am_l60, am_l61, am_l62, am_l63, am_l70, am_l80, am_l81, am_l97, am_l99, am_l100, am_l110, am_l115, am_l119, am_l120, am_l121, am_l124, am_l126, am_l156, am_l255, am_l1103515245, am_l12345, am_l2147483647, am_lm1, am_lm2, am_lm3, am_lm5, am_lm11, am_lm12, am_lm13, am_lm14, am_lm33, am_lm59, am_lm63, am_lm100, am_lm126] at q
    omega
  · simp only [am_lt_i, am_le_i, am_eq_i, ne_eq, am_l0, am_l1, am_l2, am_l3, am_l4, am_l5, am_l6, am_l7, am_l8, am_l9, am_l10, am_l11, am_l12, am_l13, am_l14, am_l15, am_l16, am_l17, am_l18, am_l19, am_l20, am_l21, am_l22, am_l23, am_l24, am_l25, am_l26, am_l30, am_l32, am_l33, am_l37, am_l38, am_l40, am_l41, am_l42, am_l43, am_l45, am_l47, am_l48, am_l50, am_l57, am_l59, am_l60, am_l61, am_l62, am_l63, am_l70, am_l80, am_l81, am_l97, am_l99, am_l100, am_l110, am_l115, am_l119, am_l120, am_l121, am_l124, am_l126, am_l156, am_l255, am_l1103515245, am_l12345, am_l2147483647, am_lm1, am_lm2, am_lm3, am_lm5, am_lm11, am_lm12, am_lm13, am_lm14, am_lm33, am_lm59, am_lm63, am_lm100, am_lm126] at q2
    omega
  · simp only [am_lt_i, am_le_i, am_eq_i, ne_eq, am_l0, am_l1, am_l2, am_l3, am_l4, am_l5, am_l6, am_l7, am_l8, am_l9, am_l10, am_l11, am_l12, am_l13, am_l14, am_l15, am_l16, am_l17, am_l18, am_l19, am_l20, am_l21, am_l22, am_l23, am_l24, am_l25, am_l26, am_l30, am_l32, am_l33, am_l37, am_l38, am_l40, am_l41, am_l42, am_l43, am_l45, am_l47, am_l48, am_l50, am_l57, am_l59, am_l60, am_l61, am_l62, am_l63, am_l70, am_l80, am_l81, am_l97, am_l99, am_l100, am_l110, am_l115, am_l119, am_l120, am_l121, am_l124, am_l126, am_l156, am_l255, am_l1103515245, am_l12345, am_l2147483647, am_lm1, am_lm2, am_lm3, am_lm5, am_lm11, am_lm12, am_lm13, am_lm14, am_lm33, am_lm59, am_lm63, am_lm100, am_lm126] at q
    omega
  · simp only [am_lt_i, am_le_i, am_eq_i, ne_eq, am_l0, am_l1, am_l2, am_l3, am_l4, am_l5, am_l6, am_l7, am_l8, am_l9, am_l10, am_l11, am_l12, am_l13, am_l14, am_l15, am_l16, am_l17, am_l18, am_l19, am_l20, am_l21, am_l22, am_l23, am_l24, am_l25, am_l26, am_l30, am_l32, am_l33, am_l37, am_l38, am_l40, am_l41, am_l42, am_l43, am_l45, am_l47, am_l48, am_l50, am_l57, am_l59, am_l60, am_l61, am_l62, am_l63, am_l70, am_l80, am_l81, am_l97, am_l99, am_l100, am_l110, am_l115, am_l119, am_l120, am_l121, am_l124, am_l126, am_l156, am_l255, am_l1103515245, am_l12345, am_l2147483647, am_lm1, am_lm2, am_lm3, am_lm5, am_lm11, am_lm12, am_lm13, am_lm14, am_lm33, am_lm59, am_lm63, am_lm100, am_lm126] at q2
    omega
theorem sp_169 {x : Int32} (hc : am_cm n m u mi) (h1 : ∀ k, k < n → x = nI k → R (some (.int 1)) mi ml) (h0 : (x.toInt < 0 ∨ n ≤ x.toInt) → R (some (.int 0)) mi ml) : am_call (d + 2) 169 [.ref 78, .int x] mi ml R := by
  have hn := hc.1
  have e : (mi 78 0 - 1).toInt = (n : Int) - 1 := by rw [hc.2.2.1]; exact am_m1 (by omega)
  refine bk_169 (sp_168 (fun a b => am_ri_i ⟨am_b1, ?_⟩) (fun q => am_ri_i ⟨am_b0, h0 ?_⟩))
  · rw [am_l0] at a
    obtain ⟨k, hk, e2⟩ := am_nat (x := x) (n := n) a (by omega)
    exact h1 k hk e2
  · rw [am_l0] at q
    omega
theorem sp_170 {x : Int32} (hc : am_cm n m u mi) (h1 : ∀ k, k < m → x = nI k → R (some (.int 1)) mi ml) (h0 : (x.toInt < 0 ∨ m ≤ x.toInt) → R (some (.int 0)) mi ml) : am_call (d + 2) 170 [.ref 78, .int x] mi ml R := by
  have hn := hc.2.1
  have e : (mi 78 5 - 1).toInt = (m : Int) - 1 := by rw [hc.2.2.2.1]; exact am_m1 (by omega)
  refine bk_170 (sp_168 (fun a b => am_ri_i ⟨am_b1, ?_⟩) (fun q => am_ri_i ⟨am_b0, h0 ?_⟩))
  · rw [am_l0] at a
    obtain ⟨k, hk, e2⟩ := am_nat (x := x) (n := m) a (by omega)
    exact h1 k hk e2
  · rw [am_l0] at q
    omega
/-- isRule -/
theorem sp_171 {x : Int32} (h1 : ∀ k,  k ≤ 4 → x = nI k → R (some (.int 1)) mi ml) (h0 : (x.toInt < 0 ∨ 4 < x.toInt) → R (some (.int 0)) mi ml) : am_call (d + 2) 171 [.int x] mi ml R := by
  refine bk_171 (sp_168 (fun a b => am_ri_i ⟨am_b1, ?_⟩) (fun q => am_ri_i ⟨am_b0, h0 ?_⟩))
  · rw [am_l0] at a
    rw [am_l4] at b
    obtain ⟨k, hk, e2⟩ := am_nat (x := x) (n := 5) (by omega) (by omega)
    subst e2
    rw [am_ti (by omega)] at a
    exact h1 k (by omega) rfl
  · rw [am_l0, am_l4] at q
    exact q
/-- isDay -/
theorem sp_173 {x : Int32} (h1 : ∀ k, 1 ≤ k → k ≤ 24 → x = nI k → R (some (.int 1)) mi ml) (h0 : (x.toInt < 1 ∨ 24 < x.toInt) → R (some (.int 0)) mi ml) : am_call (d + 2) 173 [.int x] mi ml R := by
  refine bk_173 (sp_168 (fun a b => am_ri_i ⟨am_b1, ?_⟩) (fun q => am_ri_i ⟨am_b0, h0 ?_⟩))
  · rw [am_l1] at a
    rw [am_l24] at b
    obtain ⟨k, hk, e2⟩ := am_nat (x := x) (n := 25) (by omega) (by omega)
    subst e2
    rw [am_ti (by omega)] at a
    exact h1 k (by omega) (by omega) rfl
  · rw [am_l1, am_l24] at q
    exact q
/-- isShelf -/
theorem sp_174 {x : Int32} (h1 : ∀ k,  k ≤ 5 → x = nI k → R (some (.int 1)) mi ml) (h0 : (x.toInt < 0 ∨ 5 < x.toInt) → R (some (.int 0)) mi ml) : am_call (d + 2) 174 [.int x] mi ml R := by
  refine bk_174 (sp_168 (fun a b => am_ri_i ⟨am_b1, ?_⟩) (fun q => am_ri_i ⟨am_b0, h0 ?_⟩))
  · rw [am_l0] at a
    rw [am_l5] at b
    obtain ⟨k, hk, e2⟩ := am_nat (x := x) (n := 6) (by omega) (by omega)
    subst e2
    rw [am_ti (by omega)] at a
    exact h1 k (by omega) rfl
  · rw [am_l0, am_l5] at q
    exact q
theorem am_d10 {j : Nat} (h : j < 2 ^ 31) : nI j / 10 = nI (j / 10) := pk_div (d := 10) h (by omega) (by omega)
theorem am_r10 {j : Nat} (h : j < 2 ^ 31) : am_rem (nI j) 10 = nI (j % 10) := pk_rem (d := 10) h (by omega) (by omega)
theorem am_d100 {j : Nat} (h : j < 2 ^ 31) : nI j / 100 = nI (j / 100) := pk_div (d := 100) h (by omega) (by omega)
theorem am_r100 {j : Nat} (h : j < 2 ^ 31) : am_rem (nI j) 100 = nI (j % 100) := pk_rem (d := 100) h (by omega) (by omega)
/-- isOne: a rule and a child -/
theorem sp_172 {x : Int32} (hc : am_cm n m u mi) (h1 : ∀ r c, r < 5 → c < m → x = nI (10 * r + c) → R (some (.int 1)) mi ml) (h0 : (∀ r c, r < 5 → c < m → x = nI (10 * r + c) → False) → R (some (.int 0)) mi ml) : am_call (d + 3) 172 [.ref 78, .int x] mi ml R := by
  have hm := hc.2.1
  refine bk_172 ⟨fun q => ⟨am_b0, h0 ?_⟩, fun q => ?_⟩
  · rintro r c hr hcm rfl
    simp only [am_lt_i, am_le_i, am_eq_i, ne_eq, am_l0, am_l1, am_l2, am_l3, am_l4, am_l5, am_l6, am_l7, am_l8, am_l9, am_l10, am_l11, am_l12, am_l13, am_l14, am_l15, am_l16, am_l17, am_l18, am_l19, am_l20, am_l21, am_l22, am_l23, am_l24, am_l25, am_l26, am_l30, am_l32, am_l33, am_l37, am_l38, am_l40, am_l41, am_l42, am_l43, am_l45, am_l47, am_l48, am_l50, am_l57, am_l59, am_l60, am_l61, am_l62, am_l63, am_l70, am_l80, am_l81, am_l97, am_l99, am_l100, am_l110, am_l115, am_l119, am_l120, am_l121, am_l124, am_l126, am_l156, am_l255, am_l1103515245, am_l12345, am_l2147483647, am_lm1, am_lm2, am_lm3, am_lm5, am_lm11, am_lm12, am_lm13, am_lm14, am_lm33, am_lm59, am_lm63, am_lm100, am_lm126, am_ti (show 10 * r + c < 2 ^ 31 by omega)] at q
    omega
  · obtain ⟨j, hj, rfl⟩ := nI_of q
    refine ⟨by decide, ?_⟩
    rw [am_d10 hj]
    refine sp_171 (fun k hk e => am_ri_i (am_y ⟨by decide, ?_⟩)) (fun g => am_ri_i (am_n0 ⟨am_b0, h0 ?_⟩))
    · have ek : j / 10 = k := (nI_eq (by omega) (by omega)).mp e
      rw [am_r10 hj]
      refine sp_170 hc (fun c hcm e2 => am_ri_i (am_y ⟨am_b1, ?_⟩)) (fun g => am_ri_i (am_n0 ⟨am_b0, h0 ?_⟩))
      · have ec : j % 10 = c := (nI_eq (by omega) (by omega)).mp e2
        exact h1 k c (by omega) hcm (by congr 1; omega)
      · intro r c hr hcm e3
        have ej : j = 10 * r + c := (nI_eq (by omega) (by omega)).mp e3
        rw [am_ti (by omega)] at g
        omega
    · intro r c hr hcm e3
      have ej : j = 10 * r + c := (nI_eq (by omega) (by omega)).mp e3
      rw [am_ti (by omega)] at g
      omega
theorem am_cm_uu {n m : Nat} {u : Nat → Nat → Int32} {mi mi2 : am_MI} {w i : Nat} {y : Int32} (hv : am_val n m w i) (h : ∀ w i, am_val n m w i → mi (am_mc w) (am_mj w i) = u w i) (hm : mi2 = am_ui mi (am_mc w) (am_mj w i) y) : ∀ w2 i2, am_val n m w2 i2 → mi2 (am_mc w2) (am_mj w2 i2) = am_uu u w i y w2 i2 := by
  intro w2 i2 hv2
  subst hm
  by_cases e : w2 = w ∧ i2 = i
  · obtain ⟨rfl, rfl⟩ := e
    rw [am_ui_k, am_uu_k]
  · rw [am_uu_n (fun p q => e ⟨p, q⟩), am_ui_n]
    · exact h w2 i2 hv2
    · have inj : ∀ w, w < 10 → ∀ w2, w2 < 10 → am_mc w2 = am_mc w → w2 = w ∨ (w = 8 ∧ w2 = 9) ∨ (w = 9 ∧ w2 = 8) := by decide
      intro e1 e2
      have hw : w < 10 := by unfold am_val at hv; omega
      have hw2 : w2 < 10 := by unfold am_val at hv2; omega
      rcases inj w hw w2 hw2 e1 with q | ⟨q1, q2⟩ | ⟨q1, q2⟩
      · subst q
        refine e ⟨rfl, ?_⟩
        unfold am_mj at e2
        unfold am_val at hv hv2
        split at e2 <;> omega
      · subst q1 q2
        unfold am_mj at e2
        unfold am_val at hv hv2
        rw [if_pos rfl, if_neg (by decide)] at e2
        omega
      · subst q1 q2
        unfold am_mj at e2
        unfold am_val at hv hv2
        rw [if_neg (by decide), if_pos rfl] at e2
        omega
/-- newDoor -/
theorem sp_176 {x y z : Int32} (hc : am_cm n m u mi) (hn : n < 12)
    (h : ∀ mi2, am_cm (n + 1) m (am_uu (am_uu (am_uu u 0 n x) 1 n y) 2 n z) mi2 → am_kp am_FM mi mi2 → mi2 82 n = -2 → (∀ j, ¬ j = n → mi2 82 j = mi 82 j) → R (some (.int (nI n))) mi2 ml) : am_call (d + 1) 176 [.ref 78, .int x, .int y, .int z] mi ml R := by
  have e0 := hc.2.2.1
  have hcl : (nI n).toNatClampNeg = n := nI_clamp (by omega)
  have hin : vp_in (nI n) 24 := vp_in_nI (by omega) (by omega)
  have hin2 : vp_in (nI n) 12 := vp_in_nI (by omega) (by omega)
  refine bk_176 ?_
  rw [e0, hcl]
  refine ⟨hin, hin, hin, hin2, ?_⟩
  refine h _ ⟨by omega, hc.2.1, ?_, ?_, fun w i hv => ?_⟩ (am_kp_u (am_kp_u (am_kp_u (am_kp_u (am_kp_u am_kp_r rfl) rfl) rfl) rfl) rfl) ?_ (fun j hj => ?_)
  · rw [am_ui_k, nI_1]
  · rw [am_ui_n (by omega), am_ui_c (by omega), am_ui_c (by omega), am_ui_c (by omega), am_ui_c (by omega)]
    exact hc.2.2.2.1
  · have hr := am_mc_r w (by unfold am_val at hv; omega)
    rw [am_ui_c (by omega), am_ui_c (by omega)]
    have base : ∀ w i, am_val (n + 1) m w i → mi (am_mc w) (am_mj w i) = (fun w i => mi (am_mc w) (am_mj w i)) w i := fun _ _ _ => rfl
    have v0 : am_val (n + 1) m 0 n := am_vd (by omega) (by omega)
    have v1 : am_val (n + 1) m 1 n := am_vd (by omega) (by omega)
    have v2 : am_val (n + 1) m 2 n := am_vd (by omega) (by omega)
    have z3 := am_cm_uu v2 (am_cm_uu v1 (am_cm_uu (y := x) v0 base rfl) (y := y) rfl) (y := z) rfl w i hv
    refine z3.trans ?_
    by_cases e2 : w = 2 ∧ i = n
    · obtain ⟨rfl, rfl⟩ := e2
      rw [am_uu_k, am_uu_k]
    rw [am_uu_n (w := 2) (fun p q => e2 ⟨p, q⟩), am_uu_n (w := 2) (fun p q => e2 ⟨p, q⟩)]
    by_cases e1 : w = 1 ∧ i = n
    · obtain ⟨rfl, rfl⟩ := e1
      rw [am_uu_k, am_uu_k]
    rw [am_uu_n (w := 1) (fun p q => e1 ⟨p, q⟩), am_uu_n (w := 1) (fun p q => e1 ⟨p, q⟩)]
    by_cases e3 : w = 0 ∧ i = n
    · obtain ⟨rfl, rfl⟩ := e3
      rw [am_uu_k, am_uu_k]
    rw [am_uu_n (w := 0) (fun p q => e3 ⟨p, q⟩), am_uu_n (w := 0) (fun p q => e3 ⟨p, q⟩)]
    exact hc.2.2.2.2 w i (by unfold am_val at hv ⊢; omega)
  · rw [am_ui_c (by omega), am_ui_k]
  · rw [am_ui_c (by omega), am_ui_n (fun _ e => hj e), am_ui_c (by omega), am_ui_c (by omega), am_ui_c (by omega)]
/-- isOf(number, what) -/
theorem sp_180 {x z : Int32} (hc : am_cm n m u mi) (h1 : ∀ w i, am_val n m w i → x = nI w → z = nI i → R (some (.int 1)) mi ml) (h0 : (∀ w i, am_val n m w i → x = nI w → z = nI i → False) → R (some (.int 0)) mi ml) : am_call (d + 3) 180 [.ref 78, .int z, .int x] mi ml R := by
  have no : ∀ {w i : Nat}, am_val n m w i → w ≤ 9 := by
    intro w i h
    unfold am_val at h
    omega
  have hn := hc.1
  have hm := hc.2.1
  refine bk_180 (sp_168 (fun a b => am_ri_i (am_y ?_)) (fun q1 => am_ri_i (am_n0 (sp_168 (fun a b => am_ri_i (am_y ?_)) (fun q2 => am_ri_i (am_n0 (sp_168 (fun a b => am_ri_i (am_y ⟨fun q => ⟨am_b0, h0 ?_⟩, fun q => ⟨am_b1, ?_⟩⟩)) (fun q3 => am_ri_i (am_n0 ⟨am_b0, h0 ?_⟩)))))))))
  · rw [am_l0] at a
    rw [am_l2] at b
    obtain ⟨w, hw, e⟩ := am_nat (x := x) (n := 3) (by omega) (by omega)
    subst e
    refine sp_169 hc (fun k hk e => am_ri_i ⟨am_b1, h1 w k (by unfold am_val; omega) rfl e⟩) (fun g => am_ri_i ⟨am_b0, h0 ?_⟩)
    rintro w2 i hv e rfl
    have := no hv
    rw [nI_eq (by omega) (by omega)] at e
    subst e
    unfold am_val at hv
    rw [am_ti (by omega)] at g
    omega
  · rw [am_l3] at a
    rw [am_l7] at b
    obtain ⟨w, hw, e⟩ := am_nat (x := x) (n := 8) (by omega) (by omega)
    subst e
    rw [am_ti (by omega)] at a
    refine sp_170 hc (fun k hk e => am_ri_i ⟨am_b1, h1 w k (by unfold am_val; omega) rfl e⟩) (fun g => am_ri_i ⟨am_b0, h0 ?_⟩)
    rintro w2 i hv e rfl
    have := no hv
    rw [nI_eq (by omega) (by omega)] at e
    subst e
    unfold am_val at hv
    rw [am_ti (by omega)] at g
    omega
  · rintro w i hv rfl rfl
    have := no hv
    rw [am_ti (by omega), am_l8] at a
    unfold am_val at hv
    have e : i = 0 := by omega
    subst e
    exact q rfl
  · rw [am_l8] at a
    rw [am_l9] at b
    obtain ⟨w, hw, e⟩ := am_nat (x := x) (n := 10) (by omega) (by omega)
    subst e
    rw [am_ti (by omega)] at a
    exact h1 w 0 (by unfold am_val; omega) rfl (Decidable.not_not.mp q)
  · rintro w i hv rfl rfl
    have := no hv
    rw [am_l0, am_l2, am_ti (by omega)] at q1
    rw [am_l3, am_l7, am_ti (by omega)] at q2
    rw [am_l8, am_l9, am_ti (by omega)] at q3
    omega
/-- isFit(what, v) -/
theorem sp_181 {x z : Int32} {w : Nat} (hw : w < 10) (hx : x = nI w) (h1 : ∀ k, am_lo w ≤ k → k ≤ am_hi w → z = nI k → R (some (.int 1)) mi ml) (h0 : (z.toInt < am_lo w ∨ am_hi w < z.toInt) → R (some (.int 0)) mi ml) : am_call (d + 3) 181 [.int x, .int z] mi ml R := by
  subst hx
  have fin : ∀ lo hi : Nat, lo = am_lo w → hi = am_hi w → hi < 30 → (lo : Int) ≤ z.toInt → z.toInt ≤ (hi : Int) → R (some (.int 1)) mi ml := by
    intro lo hi e1 e2 h30 q1 q2
    obtain ⟨k, hk, e⟩ := am_nat (x := z) (n := hi + 1) (by omega) (by omega)
    subst e
    rw [am_ti (by omega)] at q1 q2
    exact h1 k (by omega) (by omega) rfl
  have no : ∀ lo hi : Nat, lo = am_lo w → hi = am_hi w → (z.toInt < (lo : Int) ∨ (hi : Int) < z.toInt) → R (some (.int 0)) mi ml := by
    intro lo hi e1 e2 q
    exact h0 (by rw [← e1, ← e2]; exact q)
  have eqw : ∀ k : Nat, k < 10 → nI w = nI k → w = k := fun k hk e => (nI_eq (by omega) (by omega)).mp e
  refine bk_181 ?_
  refine ⟨fun q => ?_, fun q0 => ?_⟩
  · have e := eqw 0 (by omega) q
    subst e
    refine sp_173 (fun k a b e => am_ri_i ⟨am_b1, h1 k a b e⟩) (fun g => am_ri_i ⟨am_b0, no 1 24 rfl rfl g⟩)
  refine ⟨fun q => ?_, fun q1 => ?_⟩
  · have e := eqw 1 (by omega) q
    subst e
    refine sp_168 (fun a b => am_ri_i ⟨am_b1, fin 0 7 rfl rfl (by omega) a b⟩) (fun g => am_ri_i ⟨am_b0, no 0 7 rfl rfl g⟩)
  refine ⟨fun q => ?_, fun q2 => ?_⟩
  · have e := eqw 2 (by omega) q
    subst e
    refine sp_168 (fun a b => am_ri_i ⟨am_b1, fin 1 9 rfl rfl (by omega) a b⟩) (fun g => am_ri_i ⟨am_b0, no 1 9 rfl rfl g⟩)
  refine ⟨fun q => ?_, fun q3 => ?_⟩
  · have e := eqw 3 (by omega) q
    subst e
    refine sp_168 (fun a b => am_ri_i ⟨am_b1, fin 1 18 rfl rfl (by omega) a b⟩) (fun g => am_ri_i ⟨am_b0, no 1 18 rfl rfl g⟩)
  refine ⟨fun q => ?_, fun q4 => ?_⟩
  · have e := eqw 4 (by omega) q
    subst e
    refine sp_168 (fun a b => am_ri_i ⟨am_b1, fin 0 7 rfl rfl (by omega) a b⟩) (fun g => am_ri_i ⟨am_b0, no 0 7 rfl rfl g⟩)
  refine ⟨fun q => ?_, fun q5 => ?_⟩
  · have e := eqw 5 (by omega) q
    subst e
    refine sp_168 (fun a b => am_ri_i ⟨am_b1, fin 0 9 rfl rfl (by omega) a b⟩) (fun g => am_ri_i ⟨am_b0, no 0 9 rfl rfl g⟩)
  refine ⟨fun q => ?_, fun q6 => ?_⟩
  · have e := eqw 6 (by omega) q
    subst e
    refine sp_168 (fun a b => am_ri_i ⟨am_b1, fin 0 24 rfl rfl (by omega) a b⟩) (fun g => am_ri_i ⟨am_b0, no 0 24 rfl rfl g⟩)
  refine ⟨fun q => ?_, fun q7 => ?_⟩
  · have e := eqw 7 (by omega) q
    subst e
    refine sp_168 (fun a b => am_ri_i ⟨am_b1, fin 0 24 rfl rfl (by omega) a b⟩) (fun g => am_ri_i ⟨am_b0, no 0 24 rfl rfl g⟩)
  refine ⟨fun q => ?_, fun q8 => ?_⟩
  · have e := eqw 8 (by omega) q
    subst e
    refine sp_168 (fun a b => am_ri_i ⟨am_b1, fin 0 1 rfl rfl (by omega) a b⟩) (fun g => am_ri_i ⟨am_b0, no 0 1 rfl rfl g⟩)
  have e : w = 9 := by
    have hne : ∀ k : Nat, ¬ nI w = nI k → ¬ w = k := fun k h e => h (by rw [e])
    have n0 := hne 0 q0
    have n1 := hne 1 q1
    have n2 := hne 2 q2
    have n3 := hne 3 q3
    have n4 := hne 4 q4
    have n5 := hne 5 q5
    have n6 := hne 6 q6
    have n7 := hne 7 q7
    have n8 := hne 8 q8
    omega
  subst e
  refine sp_168 (fun a b => am_ri_i ⟨am_b1, fin 0 9 rfl rfl (by omega) a b⟩) (fun g => am_ri_i ⟨am_b0, no 0 9 rfl rfl g⟩)
/-- get(number, what) -/
theorem sp_182 {x z : Int32} {w i : Nat} (hn : n ≤ 12) (hm : m ≤ 5) (hv : am_val n m w i) (hx : x = nI w) (hz : z = nI i) (h : R (some (.int (mi (am_mc w) (am_mj w i)))) mi ml) : am_call (d + 1) 182 [.ref 78, .int z, .int x] mi ml R := by
  subst hx
  subst hz
  have hw : w < 10 := by unfold am_val at hv; omega
  have hi : i < 12 := by unfold am_val at hv; omega
  have hcl : (nI i).toNatClampNeg = i := nI_clamp (by omega)
  have eqw : ∀ k : Nat, k < 10 → nI w = nI k → w = k := fun k hk e => (nI_eq (by omega) (by omega)).mp e
  refine bk_182 ?_
  rw [hcl]
  refine ⟨fun q => ?_, fun q0 => ?_⟩
  · have e := eqw 0 (by omega) q
    subst e
    unfold am_val at hv
    exact ⟨vp_in_nI (by omega) (by omega), h⟩
  refine ⟨fun q => ?_, fun q1 => ?_⟩
  · have e := eqw 1 (by omega) q
    subst e
    unfold am_val at hv
    exact ⟨vp_in_nI (by omega) (by omega), h⟩
  refine ⟨fun q => ?_, fun q2 => ?_⟩
  · have e := eqw 2 (by omega) q
    subst e
    unfold am_val at hv
    exact ⟨vp_in_nI (by omega) (by omega), h⟩
  refine ⟨fun q => ?_, fun q3 => ?_⟩
  · have e := eqw 3 (by omega) q
    subst e
    unfold am_val at hv
    exact ⟨vp_in_nI (by omega) (by omega), h⟩
  refine ⟨fun q => ?_, fun q4 => ?_⟩
  · have e := eqw 4 (by omega) q
    subst e
    unfold am_val at hv
    exact ⟨vp_in_nI (by omega) (by omega), h⟩
  refine ⟨fun q => ?_, fun q5 => ?_⟩
  · have e := eqw 5 (by omega) q
    subst e
    unfold am_val at hv
    exact ⟨vp_in_nI (by omega) (by omega), h⟩
  refine ⟨fun q => ?_, fun q6 => ?_⟩
  · have e := eqw 6 (by omega) q
    subst e
    unfold am_val at hv
    exact ⟨vp_in_nI (by omega) (by omega), h⟩
  refine ⟨fun q => ?_, fun q7 => ?_⟩
  · have e := eqw 7 (by omega) q
    subst e
    unfold am_val at hv
    exact ⟨vp_in_nI (by omega) (by omega), h⟩
  have hne : ∀ k : Nat, ¬ nI w = nI k → ¬ w = k := fun k h e => h (by rw [e])
  have n0 := hne 0 q0
  have n1 := hne 1 q1
  have n2 := hne 2 q2
  have n3 := hne 3 q3
  have n4 := hne 4 q4
  have n5 := hne 5 q5
  have n6 := hne 6 q6
  have n7 := hne 7 q7
  have e0 : i = 0 := by unfold am_val at hv; omega
  subst e0
  rcases (show w = 8 ∨ w = 9 by omega) with e | e
  · subst e
    exact ⟨by rw [show nI 8 - 8 = nI 0 from rfl]; exact vp_in_nI (by omega) (by omega), h⟩
  · subst e
    exact ⟨by rw [show nI 9 - 8 = nI 1 from rfl]; exact vp_in_nI (by omega) (by omega), h⟩
/-- becomes(number, what) -/
theorem sp_183 {x z : Int32} {y : Int32} {w i : Nat} (hn : n ≤ 12) (hm : m ≤ 5) (hv : am_val n m w i) (hx : x = nI w) (hz : z = nI i) (h : R none (am_ui mi (am_mc w) (am_mj w i) y) ml) : am_call (d + 1) 183 [.ref 78, .int z, .int x, .int y] mi ml R := by
  subst hx
  subst hz
  have hw : w < 10 := by unfold am_val at hv; omega
  have hi : i < 12 := by unfold am_val at hv; omega
  have hcl : (nI i).toNatClampNeg = i := nI_clamp (by omega)
  have eqw : ∀ k : Nat, k < 10 → nI w = nI k → w = k := fun k hk e => (nI_eq (by omega) (by omega)).mp e
  refine bk_183 ?_
  rw [hcl]
  refine ⟨fun q => ?_, fun q0 => ?_⟩
  · have e := eqw 0 (by omega) q
    subst e
    unfold am_val at hv
    exact ⟨vp_in_nI (by omega) (by omega), h⟩
  refine ⟨fun q => ?_, fun q1 => ?_⟩
  · have e := eqw 1 (by omega) q
    subst e
    unfold am_val at hv
    exact ⟨vp_in_nI (by omega) (by omega), h⟩
  refine ⟨fun q => ?_, fun q2 => ?_⟩
  · have e := eqw 2 (by omega) q
    subst e
    unfold am_val at hv
    exact ⟨vp_in_nI (by omega) (by omega), h⟩
  refine ⟨fun q => ?_, fun q3 => ?_⟩
  · have e := eqw 3 (by omega) q
    subst e
    unfold am_val at hv
    exact ⟨vp_in_nI (by omega) (by omega), h⟩
  refine ⟨fun q => ?_, fun q4 => ?_⟩
  · have e := eqw 4 (by omega) q
    subst e
    unfold am_val at hv
    exact ⟨vp_in_nI (by omega) (by omega), h⟩
  refine ⟨fun q => ?_, fun q5 => ?_⟩
  · have e := eqw 5 (by omega) q
    subst e
    unfold am_val at hv
    exact ⟨vp_in_nI (by omega) (by omega), h⟩
  refine ⟨fun q => ?_, fun q6 => ?_⟩
  · have e := eqw 6 (by omega) q
    subst e
    unfold am_val at hv
    exact ⟨vp_in_nI (by omega) (by omega), h⟩
  refine ⟨fun q => ?_, fun q7 => ?_⟩
  · have e := eqw 7 (by omega) q
    subst e
    unfold am_val at hv
    exact ⟨vp_in_nI (by omega) (by omega), h⟩
  have hne : ∀ k : Nat, ¬ nI w = nI k → ¬ w = k := fun k h e => h (by rw [e])
  have n0 := hne 0 q0
  have n1 := hne 1 q1
  have n2 := hne 2 q2
  have n3 := hne 3 q3
  have n4 := hne 4 q4
  have n5 := hne 5 q5
  have n6 := hne 6 q6
  have n7 := hne 7 q7
  have e0 : i = 0 := by unfold am_val at hv; omega
  subst e0
  rcases (show w = 8 ∨ w = 9 by omega) with e | e
  · subst e
    exact ⟨by rw [show nI 8 - 8 = nI 0 from rfl]; exact vp_in_nI (by omega) (by omega), h⟩
  · subst e
    exact ⟨by rw [show nI 9 - 8 = nI 1 from rfl]; exact vp_in_nI (by omega) (by omega), h⟩
end SP21
