/-! pairs: shelves: keep, row, put, element, taken -/
def am_F66 : Nat → Nat → Bool := fun c _ => decide ((66 ≤ c ∧ c ≤ 77) ∨ c = 106 ∨ c = 107)
theorem am_shc : ∀ s, s < 6 → am_oc (66 + 2 * s) = 7 ∧ am_rf (66 + 2 * s) 4 = 67 + 2 * s ∧ am_kd (67 + 2 * s) = 3 ∧ am_n (67 + 2 * s) = 60 := by decide
def am_prj (d f : Nat) (a : List Value) (g : Nat) (b : List Value) (mi : am_MI) (ml : am_ML) (Q : Int64 → Int64 → am_MI → am_ML → Prop) : Prop :=
  am_call d f a mi ml (am_rj fun r1 mi1 ml1 => am_call d g b mi1 ml1 (am_rj fun r2 mi2 ml2 => Q r1 r2 mi2 ml2))
def am_low (q : Nat) (v : Int64) : Int64 := if q = 0 then v.toInt32.toInt8.toInt32.toInt64 else if q = 1 then v.toInt32.toInt16.toInt32.toInt64 else if q = 2 then v.toInt32.toInt64 else if q = 3 then v else if lg_cmp v 0 = 0 then 0 else 1
section SP29
variable {d : Nat} {mi : am_MI} {ml : am_ML} {R : am_R} {Q : Int32 → Int32 → am_MI → am_ML → Prop} {QJ : Int64 → Int64 → am_MI → am_ML → Prop} {s nb : Nat}
theorem am_need_o {P : Prop} {k : Nat} (hs : s < 6) (hk : k = 7) (h : P) : am_need (am_oc (66 + 2 * s) == k) P := am_need_i (by rw [(am_shc s hs).1, hk]; rfl) h
theorem am_need_k {P : Prop} (hs : s < 6) (h : P) : am_need (am_kd (67 + 2 * s) == 3) P := am_need_i (by rw [(am_shc s hs).2.2.1]; rfl) h
theorem sp_165 {x : Int32} (h1 : ∀ s, s < 6 → x = nI s → R (some (.int 1)) mi ml) (h0 : (x.toInt < 0 ∨ 5 < x.toInt) → R (some (.int 0)) mi ml) : am_call (d + 1) 165 [.ref 0, .int x] mi ml R := by
  have e6 : (Int32.ofNat 6).toInt = 6 := rfl
  refine bk_165 ⟨fun q => ⟨am_b0, h0 ?_⟩, fun q => ⟨fun q2 => ⟨am_b0, h0 ?_⟩, fun q2 => ⟨am_b1, ?_⟩⟩⟩
  · simp only [am_lt_i, am_le_i, am_eq_i, ne_eq, am_l0, am_l1, am_l2, am_l3, am_l4, am_l5, am_l6, am_l7, am_l8, am_l9, am_l10, am_l11, am_l12, am_l13, am_l14, am_l15, am_l16, am_l17, am_l18, am_l19, am_l20, am_l21, am_l22, am_l23, am_l24, am_l25, am_l26, am_l30, am_l32, am_l33, am_l37, am_l38, am_l40, am_l41, am_l42, am_l43, am_l45, am_l47, am_l48, am_l50, am_l57, am_l59, am_l60, am_l61, am_l62, am_l63, am_l70, am_l80, am_l81, am_l97, am_l99, am_l100, am_l110, am_l115, am_l119, am_l120, am_l121, am_l124, am_l126, am_l156, am_l255, am_l1103515245, am_l12345, am_l2147483647, am_lm1, am_lm2, am_lm3, am_lm5, am_lm11, am_lm12, am_lm13, am_lm14, am_lm33, am_lm59, am_lm63, am_lm100, am_lm126] at q
    omega
  · simp only [am_lt_i, am_le_i, am_eq_i, ne_eq, am_l0, am_l1, am_l2, am_l3, am_l4, am_l5, am_l6, am_l7, am_l8, am_l9, am_l10, am_l11, am_l12, am_l13, am_l14, am_l15, am_l16, am_l17, am_l18, am_l19, am_l20, am_l21, am_l22, am_l23, am_l24, am_l25, am_l26, am_l30, am_l32, am_l33, am_l37, am_l38, am_l40, am_l41, am_l42, am_l43, am_l45, am_l47, am_l48, am_l50, am_l57, am_l59, am_l60, am_l61, am_l62, am_l63, am_l70, am_l80, am_l81, am_l97, am_l99, am_l100, am_l110, am_l115, am_l119, am_l120, am_l121, am_l124, am_l126, am_l156, am_l255, am_l1103515245, am_l12345, am_l2147483647, am_lm1, am_lm2, am_lm3, am_lm5, am_lm11, am_lm12, am_lm13, am_lm14, am_lm33, am_lm59, am_lm63, am_lm100, am_lm126, e6] at q2
    omega
  · simp only [am_lt_i, am_le_i, am_eq_i, ne_eq, am_l0, am_l1, am_l2, am_l3, am_l4, am_l5, am_l6, am_l7, am_l8, am_l9, am_l10, am_l11, am_l12, am_l13, am_l14, am_l15, am_l16, am_l17, am_l18, am_l19, am_l20, am_l21, am_l22, am_l23, am_l24, am_l25, am_l26, am_l30, am_l32, am_l33, am_l37, am_l38, am_l40, am_l41, am_l42, am_l43, am_l45, am_l47, am_l48, am_l50, am_l57, am_l59, am_l60, am_l61, am_l62, am_l63, am_l70, am_l80, am_l81, am_l97, am_l99, am_l100, am_l110, am_l115, am_l119, am_l120, am_l121, am_l124, am_l126, am_l156, am_l255, am_l1103515245, am_l12345, am_l2147483647, am_lm1, am_lm2, am_lm3, am_lm5, am_lm11, am_lm12, am_lm13, am_lm14, am_lm33, am_lm59, am_lm63, am_lm100, am_lm126, e6] at q q2
    obtain ⟨k, hk, e⟩ := am_nat (x := x) (n := 6) (by omega) (by omega)
    exact h1 k hk e
/-- refusesRow -/
theorem sp_99 (hs : s < 6) (h0 : mi (66 + 2 * s) 0 = 0 → R (some (.int (-11))) mi ml) (h2 : mi (66 + 2 * s) 0 = 2 → R (some (.int 0)) mi ml) (h1 : ¬ mi (66 + 2 * s) 0 = 0 → ¬ mi (66 + 2 * s) 0 = 2 → R (some (.int (-12))) mi ml) : am_call (d + 1) 99 [.ref (66 + 2 * s)] mi ml R :=
  bk_99 (am_need_o hs rfl ⟨fun q => am_need_o hs rfl ⟨fun q2 => h1 q q2, fun q2 => h2 (Decidable.not_not.mp q2)⟩, fun q => h0 (Decidable.not_not.mp q)⟩)
end SP29
