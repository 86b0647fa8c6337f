/-! pairs: the class's method, then the reference's: doors opened, the image -/
def am_pr (d f : Nat) (a : List Value) (g : Nat) (b : List Value) (mi : am_MI) (ml : am_ML) (Q : Int32 → Int32 → am_MI → am_ML → Prop) : Prop :=
  am_call d f a mi ml (am_ri fun r1 mi1 ml1 => am_call d g b mi1 ml1 (am_ri fun r2 mi2 ml2 => Q r1 r2 mi2 ml2))
def am_bt (p : Nat → Bool) : Nat → Int32
  | 0 => 0
  | j + 1 => if p j = true then am_bt p j ||| am_shl 1 (nI j) else am_bt p j
theorem am_bt_y {p : Nat → Bool} {j : Nat} (h : p j = true) : am_bt p (j + 1) = am_bt p j ||| am_shl 1 (nI j) := if_pos h
theorem am_bt_n {p : Nat → Bool} {j : Nat} (h : ¬ p j = true) : am_bt p (j + 1) = am_bt p j := if_neg h
def am_deeds (n : Nat) (mi : am_MI) : Prop := ∃ t, t ≤ 24 ∧ mi 59 2 = nI t ∧ mi 78 12 = nI t ∧ mi 59 3 = mi 100 0 ∧ mi 59 4 = mi 100 1 ∧ mi 59 5 = mi 100 2 ∧ (∀ j, j < n → mi 60 j = mi 82 j) ∧ (∀ j, n ≤ j → j < 12 → mi 60 j = -2) ∧
  ((mi 59 6 = 0 ∧ mi 78 32 = 0) ∨ (mi 59 6 = 1 ∧ mi 78 32 = 1 ∧ ∃ t2 o, t2 ≤ 24 ∧ o ≤ n ∧ mi 59 8 = nI t2 ∧ mi 78 34 = nI t2 ∧ mi 78 33 = nI o ∧ mi 59 9 = mi 102 0 ∧ mi 59 10 = mi 102 1 ∧ mi 59 11 = mi 102 2 ∧ (∀ j, j < o → mi 61 j = mi 101 j) ∧ (∀ j, o ≤ j → j < 12 → mi 61 j = -2)))
/-- the places of the deeds, on both sides -/
def am_F59 : Nat → Nat → Bool := fun c j => decide ((59 ≤ c ∧ c ≤ 61) ∨ c = 82 ∨ (100 ≤ c ∧ c ≤ 102) ∨ (c = 78 ∧ (j = 12 ∨ j = 32 ∨ j = 33 ∨ j = 34)))
theorem am_deeds_on {n : Nat} {a b : am_MI} (h : am_deeds n a) (he : ∀ c j, am_F59 c j = true → b c j = a c j) : am_deeds n b := by
  unfold am_deeds at h ⊢
  have e59 : ∀ j, b 59 j = a 59 j := fun j => he 59 j rfl
  have e60 : ∀ j, b 60 j = a 60 j := fun j => he 60 j rfl
  have e61 : ∀ j, b 61 j = a 61 j := fun j => he 61 j rfl
  have e82 : ∀ j, b 82 j = a 82 j := fun j => he 82 j rfl
  have e100 : ∀ j, b 100 j = a 100 j := fun j => he 100 j rfl
  have e101 : ∀ j, b 101 j = a 101 j := fun j => he 101 j rfl
  have e102 : ∀ j, b 102 j = a 102 j := fun j => he 102 j rfl
  have e1 : b 78 12 = a 78 12 := he 78 12 rfl
  have e2 : b 78 32 = a 78 32 := he 78 32 rfl
  have e3 : b 78 33 = a 78 33 := he 78 33 rfl
  have e4 : b 78 34 = a 78 34 := he 78 34 rfl
  simp only [e59, e60, e61, e82, e100, e101, e102, e1, e2, e3, e4]
  exact h
section SP23
variable {d n m : Nat} {u : Nat → Nat → Int32} {mi : am_MI} {ml : am_ML} {R : am_R} {Q : Int32 → Int32 → am_MI → am_ML → Prop}
theorem sp_15 {x : Int32} {i : Nat} (hx : x = nI i) (hi : i < 12) (h : R (some (.int (mi 60 i))) mi ml) : am_call (d + 1) 15 [.ref 59, .int x] mi ml R := by
  subst hx
  have f1 : (nI i).toInt = i := am_ti (by omega)
  have f2 : (Int32.ofNat 12).toInt = 12 := rfl
  refine bk_15 ⟨fun q => ?_, fun q => ⟨fun q2 => ?_, fun q2 => ⟨vp_in_nI hi (by omega), by rw [nI_clamp (by omega)]; exact h⟩⟩⟩
  · simp only [am_lt_i, am_le_i, am_eq_i, ne_eq, am_l0, am_l1, am_l2, am_l3, am_l4, am_l5, am_l6, am_l7, am_l8, am_l9, am_l10, am_l11, am_l12, am_l13, am_l14, am_l15, am_l16, am_l17, am_l18, am_l19, am_l20, am_l21, am_l22, am_l23, am_l24, am_l25, am_l26, am_l30, am_l32, am_l33, am_l37, am_l38, am_l40, am_l41, am_l42, am_l43, am_l45, am_l47, am_l48, am_l50, am_l57, am_l59, am_l60, am_l61, am_l62, am_l63, am_l70, am_l80, am_l81, am_l97, am_l99, am_l100, am_l110, am_l115, am_l119, am_l120, am_l121, am_l124, am_l126, am_l156, am_l255, am_l1103515245, am_l12345, am_l2147483647, am_lm1, am_lm2, am_lm3, am_lm5, am_lm11, am_lm12, am_lm13, am_lm14, am_lm33, am_lm59, am_lm63, am_lm100, am_lm126, f1] at q
    omega
  · simp only [am_lt_i, am_le_i, am_eq_i, ne_eq, am_l0, am_l1, am_l2, am_l3, am_l4, am_l5, am_l6, am_l7, am_l8, am_l9, am_l10, am_l11, am_l12, am_l13, am_l14, am_l15, am_l16, am_l17, am_l18, am_l19, am_l20, am_l21, am_l22, am_l23, am_l24, am_l25, am_l26, am_l30, am_l32, am_l33, am_l37, am_l38, am_l40, am_l41, am_l42, am_l43, am_l45, am_l47, am_l48, am_l50, am_l57, am_l59, am_l60, am_l61, am_l62, am_l63, am_l70, am_l80, am_l81, am_l97, am_l99, am_l100, am_l110, am_l115, am_l119, am_l120, am_l121, am_l124, am_l126, am_l156, am_l255, am_l1103515245, am_l12345, am_l2147483647, am_lm1, am_lm2, am_lm3, am_lm5, am_lm11, am_lm12, am_lm13, am_lm14, am_lm33, am_lm59, am_lm63, am_lm100, am_lm126, f1, f2] at q2
    omega
/-- day -/
theorem pr_27 (hd : am_deeds n mi) (h : ∀ r mi2, am_deeds n mi2 → am_kp am_F59 mi mi2 → Q r r mi2 ml) : am_pr (d + 2) 145 [.ref 0] 248 [.ref 78] mi ml Q := by
  obtain ⟨t, ht, e1, e2, hd⟩ := hd
  refine bk_145 (bk_16 ?_)
  rw [e1]
  refine pk_lt t 24 (fun q => ⟨am_b1, am_ri_i (am_y (am_ri_i (bk_248 ⟨fun q2 => am_ri_i ?_, fun q2 => ?_⟩)))⟩) (fun q => ⟨am_b0, am_ri_i (am_n0 (am_ri_i (bk_248 ⟨fun q2 => ?_, fun q2 => am_ri_i ?_⟩)))⟩) rfl rfl
  · have f : am_ui mi 59 2 (nI t + 1) 78 12 = nI t := (am_ui_c (by omega)).trans e2
    rw [f, am_ui_k, nI_1]
    refine h _ _ ⟨t + 1, by omega, ?_, am_ui_k, ?_⟩ (am_kp_u (am_kp_u am_kp_r rfl) rfl)
    · rw [am_ui_c (by omega), am_ui_k]
    · have o : ∀ c j, (c = 59 → ¬ j = 2) → (c = 78 → ¬ j = 12) → am_ui (am_ui mi 59 2 (nI (t + 1))) 78 12 (nI (t + 1)) c j = mi c j := fun c j q1 q2 => (am_ui_n (fun a b => q2 a b)).trans (am_ui_n (fun a b => q1 a b))
      simp only [o 59 3 (by omega) (by omega), o 59 4 (by omega) (by omega), o 59 5 (by omega) (by omega), o 59 6 (by omega) (by omega), o 59 8 (by omega) (by omega), o 59 9 (by omega) (by omega), o 59 10 (by omega) (by omega), o 59 11 (by omega) (by omega), o 78 32 (by omega) (by omega), o 78 33 (by omega) (by omega), o 78 34 (by omega) (by omega), fun j => o 60 j (by omega) (by omega), fun j => o 61 j (by omega) (by omega), fun j => o 82 j (by omega) (by omega), fun j => o 100 j (by omega) (by omega), fun j => o 101 j (by omega) (by omega), fun j => o 102 j (by omega) (by omega)]
      exact hd
  · have f : am_ui mi 59 2 (nI t + 1) 78 12 = nI t := (am_ui_c (by omega)).trans e2
    rw [f] at q2
    have z := (nI_eq (a := t) (b := 24) (by omega) (by omega)).mp (Decidable.not_not.mp q2)
    omega
  · have e : t = 24 := by omega
    subst e
    exact (q2 e2).elim
  · exact h _ _ ⟨t, ht, e1, e2, hd⟩ am_kp_r
/-- forgotten -/
theorem pr_29 (hc : am_cx n m u mi) (hm : am_cm n m u mi) (hd : am_deeds n mi) (h : ∀ r, Q r r mi ml) : am_pr (d + 3) 147 [.ref 0] 250 [.ref 78] mi ml Q := by
  obtain ⟨t, ht, e1, e2, -, -, -, e6, -⟩ := hd
  have hn := hc.1
  have e79 : ∀ j, j < n → mi 79 j = u 0 j := fun j hj => hm.2.2.2.2 0 j (am_vd (by omega) hj)
  have ft : (nI t).toInt = (t : Int) := am_ti (by omega)
  refine bk_147 (bk_19 (am_for n (fun j => am_wp (am_call (d + 1)) mt_19 _ 4 [some (.ref 59), some (.int (am_bt (fun i => decide (mi 82 i = -2) && decide ((u 0 i).toInt < t)) j)), some (.int (nI j))] [] mi ml) ?_ (fun j hj ih => ?_) 0 (Nat.zero_le _)))
  · refine bk_19_4 (pk_le n n (fun _ => am_ri_i (am_ri_i ?_)) (fun q => absurd q (Nat.lt_irrefl _)) hc.2.2.1 rfl)
    refine bk_250 (am_for n (fun j => am_wp (am_call (d + 2)) mt_250 _ 4 [some (.ref 78), some (.int (am_bt (fun i => decide (mi 82 i = -2) && decide ((u 0 i).toInt < t)) j)), some (.int (nI j))] [] mi ml) ?_ (fun j hj ih => ?_) 0 (Nat.zero_le _))
    · exact bk_250_4 (pk_le n n (fun _ => am_ri_i (h _)) (fun q => absurd q (Nat.lt_irrefl _)) hm.2.2.1 rfl)
    · refine bk_250_4 (pk_le n j (fun q => absurd q (by omega)) (fun _ => ⟨vp_in_nI (by omega) (by omega), ?_⟩) hm.2.2.1 rfl)
      rw [nI_clamp (show j < 2 ^ 31 by omega), nI_1, e79 j hj, e2]
      refine ⟨fun q => ?_, fun q => ⟨vp_in_nI (by omega) (by omega), fun q2 => ?_, fun q2 => ?_⟩⟩
      · rw [am_bt_n (by simp [q])] at ih
        exact ih
      · simp only [am_lt_i, am_le_i, am_eq_i, ne_eq, am_l0, am_l1, am_l2, am_l3, am_l4, am_l5, am_l6, am_l7, am_l8, am_l9, am_l10, am_l11, am_l12, am_l13, am_l14, am_l15, am_l16, am_l17, am_l18, am_l19, am_l20, am_l21, am_l22, am_l23, am_l24, am_l25, am_l26, am_l30, am_l32, am_l33, am_l37, am_l38, am_l40, am_l41, am_l42, am_l43, am_l45, am_l47, am_l48, am_l50, am_l57, am_l59, am_l60, am_l61, am_l62, am_l63, am_l70, am_l80, am_l81, am_l97, am_l99, am_l100, am_l110, am_l115, am_l119, am_l120, am_l121, am_l124, am_l126, am_l156, am_l255, am_l1103515245, am_l12345, am_l2147483647, am_lm1, am_lm2, am_lm3, am_lm5, am_lm11, am_lm12, am_lm13, am_lm14, am_lm33, am_lm59, am_lm63, am_lm100, am_lm126, ft] at q2
        rw [am_bt_n (by simp; omega)] at ih
        exact ih
      · simp only [am_lt_i, am_le_i, am_eq_i, ne_eq, am_l0, am_l1, am_l2, am_l3, am_l4, am_l5, am_l6, am_l7, am_l8, am_l9, am_l10, am_l11, am_l12, am_l13, am_l14, am_l15, am_l16, am_l17, am_l18, am_l19, am_l20, am_l21, am_l22, am_l23, am_l24, am_l25, am_l26, am_l30, am_l32, am_l33, am_l37, am_l38, am_l40, am_l41, am_l42, am_l43, am_l45, am_l47, am_l48, am_l50, am_l57, am_l59, am_l60, am_l61, am_l62, am_l63, am_l70, am_l80, am_l81, am_l97, am_l99, am_l100, am_l110, am_l115, am_l119, am_l120, am_l121, am_l124, am_l126, am_l156, am_l255, am_l1103515245, am_l12345, am_l2147483647, am_lm1, am_lm2, am_lm3, am_lm5, am_lm11, am_lm12, am_lm13, am_lm14, am_lm33, am_lm59, am_lm63, am_lm100, am_lm126, ft] at q2
        rw [am_bt_y (by simp [Decidable.not_not.mp q]; omega)] at ih
        exact ih
  · refine bk_19_4 (pk_le n j (fun q => absurd q (by omega)) (fun _ => sp_15 rfl (by omega) (am_ri_i ?_)) hc.2.2.1 rfl)
    rw [e6 j hj, nI_1]
    refine ⟨fun q => ?_, fun q => sp_4c hc (w := 0) rfl rfl (am_vd (by omega) hj) (am_ri_i ?_)⟩
    · rw [am_bt_n (by simp [q])] at ih
      exact ih
    · rw [e1]
      refine ⟨fun q2 => ?_, fun q2 => ?_⟩
      · simp only [am_lt_i, am_le_i, am_eq_i, ne_eq, am_l0, am_l1, am_l2, am_l3, am_l4, am_l5, am_l6, am_l7, am_l8, am_l9, am_l10, am_l11, am_l12, am_l13, am_l14, am_l15, am_l16, am_l17, am_l18, am_l19, am_l20, am_l21, am_l22, am_l23, am_l24, am_l25, am_l26, am_l30, am_l32, am_l33, am_l37, am_l38, am_l40, am_l41, am_l42, am_l43, am_l45, am_l47, am_l48, am_l50, am_l57, am_l59, am_l60, am_l61, am_l62, am_l63, am_l70, am_l80, am_l81, am_l97, am_l99, am_l100, am_l110, am_l115, am_l119, am_l120, am_l121, am_l124, am_l126, am_l156, am_l255, am_l1103515245, am_l12345, am_l2147483647, am_lm1, am_lm2, am_lm3, am_lm5, am_lm11, am_lm12, am_lm13, am_lm14, am_lm33, am_lm59, am_lm63, am_lm100, am_lm126, ft] at q2
        rw [am_bt_n (by simp; omega)] at ih
        exact ih
      · simp only [am_lt_i, am_le_i, am_eq_i, ne_eq, am_l0, am_l1, am_l2, am_l3, am_l4, am_l5, am_l6, am_l7, am_l8, am_l9, am_l10, am_l11, am_l12, am_l13, am_l14, am_l15, am_l16, am_l17, am_l18, am_l19, am_l20, am_l21, am_l22, am_l23, am_l24, am_l25, am_l26, am_l30, am_l32, am_l33, am_l37, am_l38, am_l40, am_l41, am_l42, am_l43, am_l45, am_l47, am_l48, am_l50, am_l57, am_l59, am_l60, am_l61, am_l62, am_l63, am_l70, am_l80, am_l81, am_l97, am_l99, am_l100, am_l110, am_l115, am_l119, am_l120, am_l121, am_l124, am_l126, am_l156, am_l255, am_l1103515245, am_l12345, am_l2147483647, am_lm1, am_lm2, am_lm3, am_lm5, am_lm11, am_lm12, am_lm13, am_lm14, am_lm33, am_lm59, am_lm63, am_lm100, am_lm126, ft] at q2
        rw [am_bt_y (by simp [Decidable.not_not.mp q]; omega)] at ih
        exact ih
/-- led -/
theorem pr_30 {x : Int32} (hd : am_deeds n mi) (h : ∀ r, Q r r mi ml) : am_pr (d + 2) 148 [.ref 0, .int x] 251 [.ref 78, .int x] mi ml Q := by
  obtain ⟨t, ht, e1, e2, e3, e4, e5, -⟩ := hd
  refine bk_148 ⟨fun q => ?_, fun q0 => ⟨fun q => ?_, fun q1 => ⟨fun q => ?_, fun q2 => ⟨fun q => ?_, fun q3 => ?_⟩⟩⟩⟩
  · subst q
    refine am_ri_i (bk_251 ⟨fun _ => sp_168 (fun _ _ => am_ri_i (am_y ⟨am_vp (by decide) (by decide), am_ri_i ?_⟩)) (fun g => absurd g (by decide)), fun g => absurd (by decide) g⟩)
    rw [e3]
    exact h _
  · subst q
    refine am_ri_i (bk_251 ⟨fun _ => sp_168 (fun _ _ => am_ri_i (am_y ⟨am_vp (by decide) (by decide), am_ri_i ?_⟩)) (fun g => absurd g (by decide)), fun g => absurd (by decide) g⟩)
    rw [e4]
    exact h _
  · subst q
    refine am_ri_i (bk_251 ⟨fun _ => sp_168 (fun _ _ => am_ri_i (am_y ⟨am_vp (by decide) (by decide), am_ri_i ?_⟩)) (fun g => absurd g (by decide)), fun g => absurd (by decide) g⟩)
    rw [e5]
    exact h _
  · subst q
    refine am_ri_i (bk_251 ⟨fun g => absurd rfl g, fun _ => am_ri_i ?_⟩)
    rw [e1, e2]
    exact h _
  · refine am_ri_i (bk_251 ⟨fun _ => sp_168 (fun a b => ?_) (fun g => am_ri_i (am_n0 (am_ri_i (h _)))), fun g => absurd (Decidable.not_not.mp g) q3⟩)
    exfalso
    simp only [am_lt_i, am_le_i, am_eq_i, ne_eq, am_l0, am_l1, am_l2, am_l3, am_l4, am_l5, am_l6, am_l7, am_l8, am_l9, am_l10, am_l11, am_l12, am_l13, am_l14, am_l15, am_l16, am_l17, am_l18, am_l19, am_l20, am_l21, am_l22, am_l23, am_l24, am_l25, am_l26, am_l30, am_l32, am_l33, am_l37, am_l38, am_l40, am_l41, am_l42, am_l43, am_l45, am_l47, am_l48, am_l50, am_l57, am_l59, am_l60, am_l61, am_l62, am_l63, am_l70, am_l80, am_l81, am_l97, am_l99, am_l100, am_l110, am_l115, am_l119, am_l120, am_l121, am_l124, am_l126, am_l156, am_l255, am_l1103515245, am_l12345, am_l2147483647, am_lm1, am_lm2, am_lm3, am_lm5, am_lm11, am_lm12, am_lm13, am_lm14, am_lm33, am_lm59, am_lm63, am_lm100, am_lm126] at a b q0 q1 q2
    omega
/-- image -/
theorem pr_31 (hm : am_cm n m u mi) (hd : am_deeds n mi) (h : ∀ r mi2, am_deeds n mi2 → am_kp am_F59 mi mi2 → Q r r mi2 ml) : am_pr (d + 2) 149 [.ref 0] 252 [.ref 78] mi ml Q := by
  obtain ⟨t, ht, e1, e2, e3, e4, e5, e6, e7, -⟩ := hd
  have hn := hm.1
  refine bk_149 (bk_20 ⟨by decide, by decide, by decide, by decide, by decide, am_b1, am_rv_i (am_ri_i ?_)⟩)
  have c0 : (0 : Int32).toNatClampNeg = 0 := by decide
  have c12 : (Int32.ofNat 12).toNatClampNeg = 12 := by decide
  rw [c0, c12]
  generalize hmx : am_ui (am_ui (am_ui (am_ui (am_ui (am_ci mi 60 0 61 0 12) 59 8 (mi 59 2)) 59 9 (mi 59 3)) 59 10 (mi 59 4)) 59 11 (mi 59 5)) 59 6 1 = mx
  have o : ∀ c j, ¬ c = 59 → ¬ c = 61 → mx c j = mi c j := fun c j q1 q2 => by
    rw [← hmx, am_ui_c q1, am_ui_c q1, am_ui_c q1, am_ui_c q1, am_ui_c q1]
    unfold am_ci
    rw [if_neg (fun q => q2 q.1)]
  have x61 : ∀ j, j < 12 → mx 61 j = mi 60 j := fun j hj => by
    rw [← hmx, am_ui_c (by omega), am_ui_c (by omega), am_ui_c (by omega), am_ui_c (by omega), am_ui_c (by omega)]
    unfold am_ci
    rw [if_pos ⟨rfl, by omega, by omega⟩]
    congr 1
    omega
  have x59 : ∀ j, ¬ j = 6 → ¬ j = 8 → ¬ j = 9 → ¬ j = 10 → ¬ j = 11 → mx 59 j = mi 59 j := fun j a b c d e => by
    rw [← hmx, am_ui_n (fun _ q => a q), am_ui_n (fun _ q => e q), am_ui_n (fun _ q => d q), am_ui_n (fun _ q => c q), am_ui_n (fun _ q => b q)]
    unfold am_ci
    rw [if_neg (by omega)]
  have x6 : mx 59 6 = 1 := by rw [← hmx, am_ui_k]
  have x8 : mx 59 8 = mi 59 2 := by rw [← hmx, am_ui_n (by omega), am_ui_n (by omega), am_ui_n (by omega), am_ui_n (by omega), am_ui_k]
  have x9 : mx 59 9 = mi 59 3 := by rw [← hmx, am_ui_n (by omega), am_ui_n (by omega), am_ui_n (by omega), am_ui_k]
  have x10 : mx 59 10 = mi 59 4 := by rw [← hmx, am_ui_n (by omega), am_ui_n (by omega), am_ui_k]
  have x11 : mx 59 11 = mi 59 5 := by rw [← hmx, am_ui_n (by omega), am_ui_k]
  have kx : am_kp am_F59 mi mx := fun c j q => o c j (by have := of_decide_eq_false q; omega) (by have := of_decide_eq_false q; omega)
  refine bk_252 ⟨am_b1, ?_⟩
  generalize hmy : am_ui (am_ui (am_ui mx 78 32 1) 78 33 (mx 78 0)) 78 34 (mx 78 12) = my
  have y0 : ∀ c j, ¬ c = 78 → my c j = mx c j := fun c j q => by rw [← hmy, am_ui_c q, am_ui_c q, am_ui_c q]
  have y1 : ∀ j, ¬ j = 32 → ¬ j = 33 → ¬ j = 34 → my 78 j = mx 78 j := fun j a b c => by rw [← hmy, am_ui_n (fun _ q => c q), am_ui_n (fun _ q => b q), am_ui_n (fun _ q => a q)]
  have y32 : my 78 32 = 1 := by rw [← hmy, am_ui_n (by omega), am_ui_n (by omega), am_ui_k]
  have y33 : my 78 33 = nI n := by rw [← hmy, am_ui_n (by omega), am_ui_k, o 78 0 (by omega) (by omega)]; exact hm.2.2.1
  have y34 : my 78 34 = nI t := by rw [← hmy, am_ui_k, o 78 12 (by omega) (by omega), e2]
  refine am_for 12 (fun j => ∀ mz : am_MI, (∀ c i, ¬ c = 101 → mz c i = my c i) → (∀ i, i < j → mz 101 i = mi 82 i) → am_wp (am_call (d + 1)) mt_252 _ 13 [some (.ref 78), some (.int (nI j))] [] mz ml) ?_ (fun j hj ih => ?_) 0 (Nat.zero_le _) my (fun _ _ _ => rfl) (fun i q => absurd q (by omega))
  · intro mz z1 z2
    refine bk_252_13 (pk_le 12 12 (fun _ => ?_) (fun q => absurd q (Nat.lt_irrefl _)) rfl rfl)
    refine am_for 3 (fun j => ∀ mw : am_MI, (∀ c i, ¬ c = 102 → mw c i = mz c i) → (∀ i, i < j → mw 102 i = mi 100 i) → am_wp (am_call (d + 1)) mt_252 _ 28 [some (.ref 78), some (.int (nI j))] [] mw ml) ?_ (fun j hj ih => ?_) 0 (Nat.zero_le _) mz (fun _ _ _ => rfl) (fun i q => absurd q (by omega))
    · intro mw w1 w2
      refine bk_252_28 (pk_le 3 3 (fun _ => ⟨am_vp (by decide) (by decide), am_ri_i ?_⟩) (fun q => absurd q (Nat.lt_irrefl _)) rfl rfl)
      have r0 : mw 100 (0 : Int32).toNatClampNeg = mx 59 3 := by
        rw [c0, w1 100 0 (by omega), z1 100 0 (by omega), y0 100 0 (by omega), o 100 0 (by omega) (by omega), x59 3 (by omega) (by omega) (by omega) (by omega) (by omega), e3]
      rw [r0]
      have al : ∀ c i, ¬ c = 101 → ¬ c = 102 → ¬ c = 78 → mw c i = mx c i := fun c i q1 q2 q3 => by rw [w1 c i q2, z1 c i q1, y0 c i q3]
      have al78 : ∀ i, mw 78 i = my 78 i := fun i => by rw [w1 78 i (by omega), z1 78 i (by omega)]
      refine h _ mw ⟨t, ht, ?_, ?_, ?_, ?_, ?_, fun j hj => ?_, fun j h1 h2 => ?_, Or.inr ⟨?_, ?_, t, n, ht, Nat.le_refl _, ?_, ?_, ?_, ?_, ?_, ?_, fun j hj => ?_, fun j h1 h2 => ?_⟩⟩ (fun c j q => ?_)
      · rw [al 59 2 (by omega) (by omega) (by omega), x59 2 (by omega) (by omega) (by omega) (by omega) (by omega), e1]
      · rw [al78, y1 12 (by omega) (by omega) (by omega), o 78 12 (by omega) (by omega), e2]
      · rw [al 59 3 (by omega) (by omega) (by omega), al 100 0 (by omega) (by omega) (by omega), x59 3 (by omega) (by omega) (by omega) (by omega) (by omega), o 100 0 (by omega) (by omega), e3]
      · rw [al 59 4 (by omega) (by omega) (by omega), al 100 1 (by omega) (by omega) (by omega), x59 4 (by omega) (by omega) (by omega) (by omega) (by omega), o 100 1 (by omega) (by omega), e4]
      · rw [al 59 5 (by omega) (by omega) (by omega), al 100 2 (by omega) (by omega) (by omega), x59 5 (by omega) (by omega) (by omega) (by omega) (by omega), o 100 2 (by omega) (by omega), e5]
      · rw [al 60 j (by omega) (by omega) (by omega), al 82 j (by omega) (by omega) (by omega), o 60 j (by omega) (by omega), o 82 j (by omega) (by omega), e6 j hj]
      · rw [al 60 j (by omega) (by omega) (by omega), o 60 j (by omega) (by omega), e7 j h1 h2]
      · rw [al 59 6 (by omega) (by omega) (by omega), x6]
      · rw [al78, y32]
      · rw [al 59 8 (by omega) (by omega) (by omega), x8, e1]
      · rw [al78, y34]
      · rw [al78, y33]
      · rw [al 59 9 (by omega) (by omega) (by omega), x9, w2 0 (by omega), e3]
      · rw [al 59 10 (by omega) (by omega) (by omega), x10, w2 1 (by omega), e4]
      · rw [al 59 11 (by omega) (by omega) (by omega), x11, w2 2 (by omega), e5]
      · rw [al 61 j (by omega) (by omega) (by omega), x61 j (by omega), w1 101 j (by omega), z2 j (by omega), e6 j hj]
      · rw [al 61 j (by omega) (by omega) (by omega), x61 j h2, e7 j h1 h2]
      · have q := of_decide_eq_false q
        by_cases q78 : c = 78
        · subst q78
          rw [al78, y1 j (by omega) (by omega) (by omega), o 78 j (by omega) (by omega)]
        · rw [al c j (by omega) (by omega) q78, o c j (by omega) (by omega)]
    · intro mw w1 w2
      refine bk_252_28 (pk_le 3 j (fun q => absurd q (by omega)) (fun _ => ⟨vp_in_nI (by omega) (by omega), vp_in_nI (by omega) (by omega), ?_⟩) rfl rfl)
      rw [nI_clamp (show j < 2 ^ 31 by omega), nI_1]
      refine ih _ (fun c i q => (am_ui_c q).trans (w1 c i q)) (fun i hi => ?_)
      by_cases e : i = j
      · subst e
        rw [am_ui_k, w1 100 i (by omega), z1 100 i (by omega), y0 100 i (by omega), o 100 i (by omega) (by omega)]
      · rw [am_ui_n (fun _ q => e q)]
        exact w2 i (by omega)
  · intro mz z1 z2
    refine bk_252_13 (pk_le 12 j (fun q => absurd q (by omega)) (fun _ => ⟨vp_in_nI (by omega) (by omega), vp_in_nI (by omega) (by omega), ?_⟩) rfl rfl)
    rw [nI_clamp (show j < 2 ^ 31 by omega), nI_1]
    refine ih _ (fun c i q => (am_ui_c q).trans (z1 c i q)) (fun i hi => ?_)
    by_cases e : i = j
    · subst e
      rw [am_ui_k, z1 82 i (by omega), y0 82 i (by omega), o 82 i (by omega) (by omega)]
    · rw [am_ui_n (fun _ q => e q)]
      exact z2 i (by omega)
end SP23
