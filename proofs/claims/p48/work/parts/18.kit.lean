/-! small rows for specs -/
theorem am_for (n : Nat) (P : Nat → Prop) (hn : P n) (hs : ∀ j, j < n → P (j + 1) → P j) : ∀ j, j ≤ n → P j := by
  intro j hj
  obtain ⟨k, hk⟩ : ∃ k, j + k = n := ⟨n - j, by omega⟩
  induction k generalizing j with
  | zero =>
    have e : j = n := by omega
    subst e
    exact hn
  | succ k ih => exact hs j (by omega) (ih (j + 1) (by omega) (by omega))
/-- what a run keeps: all but the places of F -/
def am_kp (F : Nat → Nat → Bool) (a b : am_MI) : Prop := ∀ c j, F c j = false → b c j = a c j
theorem am_kp_r {F : Nat → Nat → Bool} {a : am_MI} : am_kp F a a := fun _ _ _ => rfl
theorem am_kp_t {F : Nat → Nat → Bool} {a b c : am_MI} (h1 : am_kp F a b) (h2 : am_kp F b c) : am_kp F a c := fun x j h => (h2 x j h).trans (h1 x j h)
theorem am_kp_w {F G : Nat → Nat → Bool} {a b : am_MI} (h : am_kp F a b) (hFG : ∀ c j, G c j = false → F c j = false) : am_kp G a b := fun x j q => h x j (hFG x j q)
theorem am_kp_u {F : Nat → Nat → Bool} {a b : am_MI} {c j : Nat} {x : Int32} (h : am_kp F a b) (hF : F c j = true) : am_kp F a (am_ui b c j x) := by
  intro y k q
  unfold am_ui
  rw [if_neg]
  · exact h y k q
  · rintro ⟨rfl, rfl⟩
    rw [hF] at q
    cases q
theorem am_ui_k {m : am_MI} {a j : Nat} {x : Int32} : am_ui m a j x a j = x := if_pos ⟨rfl, rfl⟩
theorem am_ui_n {m : am_MI} {a j b i : Nat} {x : Int32} (h : b = a → i = j → False) : am_ui m a j x b i = m b i := if_neg fun q => h q.1 q.2
theorem am_ui_c {m : am_MI} {a j b i : Nat} {x : Int32} (h : ¬ b = a) : am_ui m a j x b i = m b i := if_neg fun q => h q.1
/-- a yes or no that is known -/
theorem am_y {A B : Prop} (h : B) : ((1 : Int32) = 0 → A) ∧ (¬ (1 : Int32) = 0 → B) := ⟨fun q => absurd q (by decide), fun _ => h⟩
theorem am_n0 {A B : Prop} (h : A) : ((0 : Int32) = 0 → A) ∧ (¬ (0 : Int32) = 0 → B) := ⟨fun _ => h, fun q => absurd rfl q⟩
theorem am_yn {A B : Prop} (h : A) : ((1 : Int32) ≠ 0 → A) ∧ (¬ ((1 : Int32) ≠ 0) → B) := ⟨fun _ => h, fun q => absurd (by decide) q⟩
theorem am_nn {A B : Prop} (h : B) : ((0 : Int32) ≠ 0 → A) ∧ (¬ ((0 : Int32) ≠ 0) → B) := ⟨fun q => absurd rfl q, fun _ => h⟩
theorem am_b1 : (1 : Int32) = 0 ∨ (1 : Int32) = 1 := Or.inr rfl
theorem am_b0 : (0 : Int32) = 0 ∨ (0 : Int32) = 1 := Or.inl rfl
/-- comparisons by what the numbers are -/
theorem am_ti {n : Nat} (h : n < 2 ^ 31) : (nI n).toInt = (n : Int) := nI_toInt h
theorem am_lt_i {x y : Int32} : x < y ↔ x.toInt < y.toInt := Int32.lt_iff_toInt_lt
theorem am_le_i {x y : Int32} : x ≤ y ↔ x.toInt ≤ y.toInt := Int32.le_iff_toInt_le
theorem am_eq_i {x y : Int32} : x = y ↔ x.toInt = y.toInt := Int32.toInt_inj.symm
theorem am_nat {x : Int32} {n : Nat} (h0 : 0 ≤ x.toInt) (h1 : x.toInt < n) : ∃ k, k < n ∧ x = nI k := by
  refine ⟨x.toInt.toNat, by omega, ?_⟩
  have hb := Int32.toInt_lt x
  rw [am_eq_i, am_ti (by omega)]
  omega
theorem am_if {c : Prop} {x y : Int32} {A B : Prop} (hc : c ↔ x.toInt < y.toInt) (f : x.toInt < y.toInt → A) (g : ¬ x.toInt < y.toInt → B) : (c → A) ∧ (¬ c → B) := ⟨fun h => f (hc.mp h), fun h => g (fun q => h (hc.mpr q))⟩
theorem am_vp {x : Int32} {n : Nat} (h0 : 0 ≤ x.toInt) (h1 : x.toInt < n) : vp_in x n := vp_in_iff.mpr ⟨h0, h1⟩
theorem am_l0 : (0 : Int32).toInt = 0 := rfl
theorem am_l1 : (1 : Int32).toInt = 1 := rfl
theorem am_l2 : (2 : Int32).toInt = 2 := rfl
theorem am_l3 : (3 : Int32).toInt = 3 := rfl
theorem am_l4 : (4 : Int32).toInt = 4 := rfl
theorem am_l5 : (5 : Int32).toInt = 5 := rfl
theorem am_l6 : (6 : Int32).toInt = 6 := rfl
theorem am_l7 : (7 : Int32).toInt = 7 := rfl
theorem am_l8 : (8 : Int32).toInt = 8 := rfl
theorem am_l9 : (9 : Int32).toInt = 9 := rfl
theorem am_l10 : (10 : Int32).toInt = 10 := rfl
theorem am_l11 : (11 : Int32).toInt = 11 := rfl
theorem am_l12 : (12 : Int32).toInt = 12 := rfl
theorem am_l13 : (13 : Int32).toInt = 13 := rfl
theorem am_l14 : (14 : Int32).toInt = 14 := rfl
theorem am_l15 : (15 : Int32).toInt = 15 := rfl
theorem am_l16 : (16 : Int32).toInt = 16 := rfl
theorem am_l17 : (17 : Int32).toInt = 17 := rfl
theorem am_l18 : (18 : Int32).toInt = 18 := rfl
theorem am_l19 : (19 : Int32).toInt = 19 := rfl
theorem am_l20 : (20 : Int32).toInt = 20 := rfl
theorem am_l21 : (21 : Int32).toInt = 21 := rfl
theorem am_l22 : (22 : Int32).toInt = 22 := rfl
theorem am_l23 : (23 : Int32).toInt = 23 := rfl
theorem am_l24 : (24 : Int32).toInt = 24 := rfl
theorem am_l25 : (25 : Int32).toInt = 25 := rfl
theorem am_l26 : (26 : Int32).toInt = 26 := rfl
theorem am_l30 : (30 : Int32).toInt = 30 := rfl
theorem am_l32 : (32 : Int32).toInt = 32 := rfl
theorem am_l33 : (33 : Int32).toInt = 33 := rfl
theorem am_l37 : (37 : Int32).toInt = 37 := rfl
theorem am_l38 : (38 : Int32).toInt = 38 := rfl
theorem am_l40 : (40 : Int32).toInt = 40 := rfl
theorem am_l41 : (41 : Int32).toInt = 41 := rfl
theorem am_l42 : (42 : Int32).toInt = 42 := rfl
theorem am_l43 : (43 : Int32).toInt = 43 := rfl
theorem am_l45 : (45 : Int32).toInt = 45 := rfl
theorem am_l47 : (47 : Int32).toInt = 47 := rfl
theorem am_l48 : (48 : Int32).toInt = 48 := rfl
theorem am_l50 : (50 : Int32).toInt = 50 := rfl
theorem am_l57 : (57 : Int32).toInt = 57 := rfl
theorem am_l59 : (59 : Int32).toInt = 59 := rfl
theorem am_l60 : (60 : Int32).toInt = 60 := rfl
theorem am_l61 : (61 : Int32).toInt = 61 := rfl
theorem am_l62 : (62 : Int32).toInt = 62 := rfl
theorem am_l63 : (63 : Int32).toInt = 63 := rfl
theorem am_l70 : (70 : Int32).toInt = 70 := rfl
theorem am_l80 : (80 : Int32).toInt = 80 := rfl
theorem am_l81 : (81 : Int32).toInt = 81 := rfl
theorem am_l97 : (97 : Int32).toInt = 97 := rfl
theorem am_l99 : (99 : Int32).toInt = 99 := rfl
theorem am_l100 : (100 : Int32).toInt = 100 := rfl
theorem am_l110 : (110 : Int32).toInt = 110 := rfl
theorem am_l115 : (115 : Int32).toInt = 115 := rfl
theorem am_l119 : (119 : Int32).toInt = 119 := rfl
theorem am_l120 : (120 : Int32).toInt = 120 := rfl
theorem am_l121 : (121 : Int32).toInt = 121 := rfl
theorem am_l124 : (124 : Int32).toInt = 124 := rfl
theorem am_l126 : (126 : Int32).toInt = 126 := rfl
theorem am_l156 : (156 : Int32).toInt = 156 := rfl
theorem am_l255 : (255 : Int32).toInt = 255 := rfl
theorem am_l1103515245 : (1103515245 : Int32).toInt = 1103515245 := rfl
theorem am_l12345 : (12345 : Int32).toInt = 12345 := rfl
theorem am_l2147483647 : (2147483647 : Int32).toInt = 2147483647 := rfl
theorem am_lm1 : ((-1) : Int32).toInt = -1 := rfl
theorem am_lm2 : ((-2) : Int32).toInt = -2 := rfl
theorem am_lm3 : ((-3) : Int32).toInt = -3 := rfl
theorem am_lm5 : ((-5) : Int32).toInt = -5 := rfl
theorem am_lm11 : ((-11) : Int32).toInt = -11 := rfl
theorem am_lm12 : ((-12) : Int32).toInt = -12 := rfl
theorem am_lm13 : ((-13) : Int32).toInt = -13 := rfl
theorem am_lm14 : ((-14) : Int32).toInt = -14 := rfl
theorem am_lm33 : ((-33) : Int32).toInt = -33 := rfl
theorem am_lm59 : ((-59) : Int32).toInt = -59 := rfl
theorem am_lm63 : ((-63) : Int32).toInt = -63 := rfl
theorem am_lm100 : ((-100) : Int32).toInt = -100 := rfl
theorem am_lm126 : ((-126) : Int32).toInt = -126 := rfl
