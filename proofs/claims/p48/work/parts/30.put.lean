/-! pairs: put, element, taken -/
section SP30
variable {d : Nat} {mi : am_MI} {ml : am_ML} {R : am_R} {Q : Int32 → Int32 → am_MI → am_ML → Prop} {QJ : Int64 → Int64 → am_MI → am_ML → Prop} {s nb q l : Nat}
/-- hasPlace -/
theorem sp_101 {x : Int32} (hs : s < 6) (hl : l ≤ 60) (e : mi (66 + 2 * s) 3 = nI l) (h1 : ∀ j, j < l → x = nI j → R (some (.int 1)) mi ml) (h0 : (x.toInt < 0 ∨ l ≤ x.toInt) → R (some (.int 0)) mi ml) : am_call (d + 1) 101 [.ref (66 + 2 * s), .int x] mi ml R := by
  have f : (mi (66 + 2 * s) 3).toInt = l := by rw [e]; exact am_ti (by omega)
  refine bk_101 ⟨fun q => ⟨am_b0, h0 ?_⟩, fun q => am_need_o hs rfl ⟨fun q2 => ⟨am_b0, h0 ?_⟩, fun q2 => ⟨am_b1, ?_⟩⟩⟩
  · simp only [am_lt_i, am_le_i, am_eq_i, ne_eq, am_l0, am_l1, am_l2, am_l3, am_l4, am_l5, am_l6, am_l7, am_l8, am_l9, am_l10, am_l11, am_l12, am_l13, am_l14, am_l15, am_l16, am_l17, am_l18, am_l19, am_l20, am_l21, am_l22, am_l23, am_l24, am_l25, am_l26, am_l30, am_l32, am_l33, am_l37, am_l38, am_l40, am_l41, am_l42, am_l43, am_l45, am_l47, am_l48, am_l50, am_l57, am_l59, am_l60, am_l61, am_l62, am_l63, am_l70, am_l80, am_l81, am_l97, am_l99, am_l100, am_l110, am_l115, am_l119, am_l120, am_l121, am_l124, am_l126, am_l156, am_l255, am_l1103515245, am_l12345, am_l2147483647, am_lm1, am_lm2, am_lm3, am_lm5, am_lm11, am_lm12, am_lm13, am_lm14, am_lm33, am_lm59, am_lm63, am_lm100, am_lm126] at q
    omega
  · simp only [am_lt_i, am_le_i, am_eq_i, ne_eq, am_l0, am_l1, am_l2, am_l3, am_l4, am_l5, am_l6, am_l7, am_l8, am_l9, am_l10, am_l11, am_l12, am_l13, am_l14, am_l15, am_l16, am_l17, am_l18, am_l19, am_l20, am_l21, am_l22, am_l23, am_l24, am_l25, am_l26, am_l30, am_l32, am_l33, am_l37, am_l38, am_l40, am_l41, am_l42, am_l43, am_l45, am_l47, am_l48, am_l50, am_l57, am_l59, am_l60, am_l61, am_l62, am_l63, am_l70, am_l80, am_l81, am_l97, am_l99, am_l100, am_l110, am_l115, am_l119, am_l120, am_l121, am_l124, am_l126, am_l156, am_l255, am_l1103515245, am_l12345, am_l2147483647, am_lm1, am_lm2, am_lm3, am_lm5, am_lm11, am_lm12, am_lm13, am_lm14, am_lm33, am_lm59, am_lm63, am_lm100, am_lm126, f] at q2
    omega
  · simp only [am_lt_i, am_le_i, am_eq_i, ne_eq, am_l0, am_l1, am_l2, am_l3, am_l4, am_l5, am_l6, am_l7, am_l8, am_l9, am_l10, am_l11, am_l12, am_l13, am_l14, am_l15, am_l16, am_l17, am_l18, am_l19, am_l20, am_l21, am_l22, am_l23, am_l24, am_l25, am_l26, am_l30, am_l32, am_l33, am_l37, am_l38, am_l40, am_l41, am_l42, am_l43, am_l45, am_l47, am_l48, am_l50, am_l57, am_l59, am_l60, am_l61, am_l62, am_l63, am_l70, am_l80, am_l81, am_l97, am_l99, am_l100, am_l110, am_l115, am_l119, am_l120, am_l121, am_l124, am_l126, am_l156, am_l255, am_l1103515245, am_l12345, am_l2147483647, am_lm1, am_lm2, am_lm3, am_lm5, am_lm11, am_lm12, am_lm13, am_lm14, am_lm33, am_lm59, am_lm63, am_lm100, am_lm126, f] at q q2
    obtain ⟨k, hk, e⟩ := am_nat (x := x) (n := l) (by omega) (by omega)
    exact h1 k hk e
theorem am_low_5 {q : Nat} {v : Int64} (hq : q < 5) {x : Int32} (hx : x = nI q) {P : Int64 → Prop} (h : P (am_low q v)) :
    (x = 0 → P v.toInt32.toInt8.toInt32.toInt64) ∧ (¬ x = 0 → ((x = 1 → P v.toInt32.toInt16.toInt32.toInt64) ∧ (¬ x = 1 → ((x = 2 → P v.toInt32.toInt64) ∧ (¬ x = 2 → ((x = 3 → P v) ∧ (¬ x = 3 → ((lg_cmp v 0 = 0 → P 0) ∧ (¬ lg_cmp v 0 = 0 → P 1))))))))) := by
  subst hx
  have e : ∀ k : Nat, k < 10 → nI q = nI k → q = k := fun k hk e => (nI_eq (by omega) (by omega)).mp e
  have n : ∀ k : Nat, ¬ nI q = nI k → ¬ q = k := fun k h e => h (by rw [e])
  unfold am_low at h
  refine ⟨fun w => ?_, fun w0 => ⟨fun w => ?_, fun w1 => ⟨fun w => ?_, fun w2 => ⟨fun w => ?_, fun w3 => ⟨fun w => ?_, fun w => ?_⟩⟩⟩⟩⟩
  · rw [if_pos (e 0 (by omega) w)] at h
    exact h
  · rw [if_neg (n 0 w0), if_pos (e 1 (by omega) w)] at h
    exact h
  · rw [if_neg (n 0 w0), if_neg (n 1 w1), if_pos (e 2 (by omega) w)] at h
    exact h
  · rw [if_neg (n 0 w0), if_neg (n 1 w1), if_neg (n 2 w2), if_pos (e 3 (by omega) w)] at h
    exact h
  · rw [if_neg (n 0 w0), if_neg (n 1 w1), if_neg (n 2 w2), if_neg (n 3 w3), if_pos w] at h
    exact h
  · rw [if_neg (n 0 w0), if_neg (n 1 w1), if_neg (n 2 w2), if_neg (n 3 w3), if_neg w] at h
    exact h
theorem sp_105 {v : Int64} (hs : s < 6) (hq : q < 5) (e : mi (66 + 2 * s) 2 = nI q) (h : R (some (.long (am_low q v))) mi ml) : am_call (d + 1) 105 [.ref (66 + 2 * s), .long v] mi ml R :=
  bk_105 (am_need_o hs rfl (am_low_5 hq e (P := fun w => R (some (.long w)) mi ml) h))
end SP30
