/-! pairs: the class's method, then the reference's: doors opened, the image -/
def am_pr (d f : Nat) (a : List Value) (g : Nat) (b : List Value) (mi : am_MI) (ml : am_ML) (Q : Int32 → Int32 → am_MI → am_ML → Prop) : Prop :=
  am_call d f a mi ml (am_ri fun r1 mi1 ml1 => am_call d g b mi1 ml1 (am_ri fun r2 mi2 ml2 => Q r1 r2 mi2 ml2))
def am_bt (p : Nat → Bool) : Nat → Int32
  | 0 => 0
  | j + 1 => if p j = true then am_bt p j ||| am_shl 1 (nI j) else am_bt p j
theorem am_bt_y {p : Nat → Bool} {j : Nat} (h : p j = true) : am_bt p (j + 1) = am_bt p j ||| am_shl 1 (nI j) := if_pos h
theorem am_bt_n {p : Nat → Bool} {j : Nat} (h : ¬ p j = true) : am_bt p (j + 1) = am_bt p j := if_neg h
def am_deeds (n : Nat) (mi : am_MI) : Prop := ∃ t, t ≤ 24 ∧ mi 59 2 = nI t ∧ mi 78 12 = nI t ∧ mi 59 3 = mi 100 0 ∧ mi 59 4 = mi 100 1 ∧ mi 59 5 = mi 100 2 ∧ (∀ j, j < n → mi 60 j = mi 82 j) ∧ (∀ j, n ≤ j → j < 12 → mi 60 j = -2) ∧
  ((mi 59 6 = 0 ∧ mi 78 32 = 0) ∨ (mi 59 6 = 1 ∧ mi 78 32 = 1 ∧ ∃ t2 o, t2 ≤ 24 ∧ o ≤ n ∧ mi 59 8 = nI t2 ∧ mi 78 34 = nI t2 ∧ mi 78 33 = nI o ∧ mi 59 9 = mi 102 0 ∧ mi 59 10 = mi 102 1 ∧ mi 59 11 = mi 102 2 ∧ (∀ j, j < o → mi 61 j = mi 101 j) ∧ (∀ j, o ≤ j → j < 12 → mi 61 j = -2)))
/-- the places of the deeds, on both sides -/
def am_F59 : Nat → Nat → Bool := fun c j => decide ((59 ≤ c ∧ c ≤ 61) ∨ c = 82 ∨ (100 ≤ c ∧ c ≤ 102) ∨ (c = 78 ∧ (j = 12 ∨ j = 32 ∨ j = 33 ∨ j = 34)))
theorem am_deeds_on {n : Nat} {a b : am_MI} (h : am_deeds n a) (he : ∀ c j, am_F59 c j = true → b c j = a c j) : am_deeds n b := by
  unfold am_deeds at h ⊢
  have e59 : ∀ j, b 59 j = a 59 j := fun j => he 59 j rfl
  have e60 : ∀ j, b 60 j = a 60 j := fun j => he 60 j rfl
  have e61 : ∀ j, b 61 j = a 61 j := fun j => he 61 j rfl
  have e82 : ∀ j, b 82 j = a 82 j := fun j => he 82 j rfl
  have e100 : ∀ j, b 100 j = a 100 j := fun j => he 100 j rfl
  have e101 : ∀ j, b 101 j = a 101 j := fun j => he 101 j rfl
  have e102 : ∀ j, b 102 j = a 102 j := fun j => he 102 j rfl
  have e1 : b 78 12 = a 78 12 := he 78 12 rfl
  have e2 : b 78 32 = a 78 32 := he 78 32 rfl
  have e3 : b 78 33 = a 78 33 := he 78 33 rfl
  have e4 : b 78 34 = a 78 34 := he 78 34 rfl
  simp only [e59, e60, e61, e82, e100, e101, e102, e1, e2, e3, e4]
  exact h
section SP23
variable {d n m : Nat} {u : Nat → Nat → Int32} {mi : am_MI} {ml : am_ML} {R : am_R} {Q : Int32 → Int32 → am_MI → am_ML → Prop}
theorem sp_15 {x : Int32} {i : Nat} (hx : x = nI i) (hi : i < 12) (h : R (some (.int (mi 60 i))) mi ml) : am_call (d + 1) 15 [.ref 59, .int x] mi ml R := by
  subst hx
  have f1 : (nI i).toInt = i := am_ti (by omega)
  have f2 : (Int32.ofNat 12).toInt = 12 := rfl
  refine bk_15 ⟨fun q => ?_, fun q => ⟨fun q2 => ?_, fun q2 => ⟨vp_in_nI hi (by omega), by rw [nI_clamp (by omega)]; exact h⟩⟩⟩
  · simp only [am_lt_i, am_le_i, am_eq_i, ne_eq, am_l0, am_l1, am_l2, am_l3, am_l4, am_l5, am_l6, am_l7, am_l8, am_l9, am_l10, am_l11, am_l12, am_l13, am_l14, am_l15, am_l16, am_l17, am_l18, am_l19, am_l20, am_l21, am_l22, am_l23, am_l24, am_l25, am_l26, am_l30, am_l32, am_l33, am_l37, am_l38, am_l40, am_l41, am_l42, am_l43, am_l45, am_l47, am_l48, am_l50, am_l57, am_l59, am_l60, am_l61, am_l62, am_l63, am_l70, am_l80, am_l81, am_l97, am_l99, am_l100, am_l110, am_l115, am_l119, am_l120, am_l121, am_l124, am_l126, am_l156, am_l255, am_l1103515245, am_l12345, am_l2147483647, am_lm1, am_lm2, am_lm3, am_lm5, am_lm11, am_lm12, am_lm13, am_lm14, am_lm33, am_lm59, am_lm63, am_lm100, am_lm126, f1] at q
    omega
  · simp only [am_lt_i, am_le_i, am_eq_i, ne_eq, am_l0, am_l1, am_l2, am_l3, am_l4, am_l5, am_l6, am_l7, am_l8, am_l9, am_l10, am_l11, am_l12, am_l13, am_l14, am_l15, am_l16, am_l17, am_l18, am_l19, am_l20, am_l21, am_l22, am_l23, am_l24, am_l25, am_l26, am_l30, am_l32, am_l33, am_l37, am_l38, am_l40, am_l41, am_l42, am_l43, am_l45, am_l47, am_l48, am_l50, am_l57, am_l59, am_l60, am_l61, am_l62, am_l63, am_l70, am_l80, am_l81, am_l97, am_l99, am_l100, am_l110, am_l115, am_l119, am_l120, am_l121, am_l124, am_l126, am_l156, am_l255, am_l1103515245, am_l12345, am_l2147483647, am_lm1, am_lm2, am_lm3, am_lm5, am_lm11, am_lm12, am_lm13, am_lm14, am_lm33, am_lm59, am_lm63, am_lm100, am_lm126, f1, f2] at q2
    omega
end SP23
