/-! pictures: bodies, acts, traces -/
def am_ab (k : Nat) : Nat := am_nth 0 [0, 0, 0, 2, 1, 3, 0, 4] k
def am_und (k t : Nat) : Bool := (am_nth [] [[0], [1, 0], [2, 0], [3, 2, 0], [4, 1, 0], [5, 3, 2, 0], [6, 0], [7, 4, 1, 0]] k).contains t
theorem am_und_s : ∀ k, k < 8 → ∀ t, t < 8 → am_und k t = (k == t || (0 < k && am_und (am_ab k) t)) := by decide
theorem am_ab_l : ∀ k, k < 8 → 0 < k → am_ab k < k := by decide
def am_opE (k : Nat) : List Int32 := if am_und k 1 = true then [20, 1] else if k = 6 then [70, 1] else [1]
def am_opV (k : Nat) (b x : Int32) : Int32 := if am_und k 1 = true then x + b + 3 else if k = 6 then (x + b) * 2 else x + b
def am_waE (k : Nat) : List Int32 := (if am_und k 4 = true then [50] else []) ++ (if am_und k 3 = true then [40] else []) ++ [11] ++ (if am_und k 4 = true then am_opE k else [])
def am_waV (k : Nat) (b x : Int32) : Int32 := if am_und k 4 = true then (x ^^^ b) - am_opV k b 2 else if am_und k 3 = true then (x ^^^ b) * 3 else x ^^^ b
def am_giE (k : Nat) : List Int32 := (if k = 7 then [80] else []) ++ (if am_und k 3 = true then [41] else []) ++ (if am_und k 2 = true then [30] else []) ++ [10] ++ am_opE k ++ (if k = 7 then am_waE k else [])
def am_giV (k : Nat) (b x : Int32) : Int32 := if k = 7 then am_opV k b (if am_und k 3 = true then x + 1 else x) * 2 + am_waV k b 2 else if am_und k 2 = true then -(am_opV k b (if am_und k 3 = true then x + 1 else x) * 2) else am_opV k b (if am_und k 3 = true then x + 1 else x) * 2
def am_teE (k : Nat) : List Int32 := (if k = 5 then [60] else []) ++ (if k = 7 then [81] else []) ++ [2] ++ am_giE k ++ am_waE k
def am_teV (k : Nat) (b x : Int32) : Int32 := if k = 5 then (am_giV k b x - am_waV k b 1) ^^^ 5 else if k = 7 then am_giV k b x - am_waV k b 1 - 1 else am_giV k b x - am_waV k b 1
/-- the class's trace, the reference's trace -/
def am_trx (es : List Int32) (mi : am_MI) : Prop := es.length ≤ 100 ∧ mi 62 3 = nI es.length ∧ ∀ j, j < 24 → j < es.length → es[j]? = some (mi 64 j)
def am_trm (es : List Int32) (mi : am_MI) : Prop := es.length ≤ 100 ∧ mi 78 42 = nI es.length ∧ ∀ j, j < 24 → j < es.length → es[j]? = some (mi 105 j)
def am_Ftx : Nat → Nat → Bool := fun c j => decide (c = 64 ∨ (c = 62 ∧ j = 3))
def am_Ftm : Nat → Nat → Bool := fun c j => decide (c = 105 ∨ (c = 78 ∧ j = 42))
section SP25
variable {d : Nat} {mi : am_MI} {ml : am_ML} {R : am_R} {Q : Int32 → Int32 → am_MI → am_ML → Prop}
/-- isKind -/
theorem sp_83 {x : Int32} (h1 : ∀ k, k < 8 → x = nI k → R (some (.int 1)) mi ml) (h0 : (x.toInt < 0 ∨ 8 ≤ x.toInt) → R (some (.int 0)) mi ml) : am_call (d + 1) 83 [.ref 62, .int x] mi ml R := by
  have e8 : (Int32.ofNat 8).toInt = 8 := rfl
  refine bk_83 ⟨fun q => ⟨am_b0, h0 ?_⟩, fun q => ⟨fun q2 => ⟨am_b0, h0 ?_⟩, fun q2 => ⟨am_b1, ?_⟩⟩⟩
  · simp only [am_lt_i, am_le_i, am_eq_i, ne_eq, am_l0, am_l1, am_l2, am_l3, am_l4, am_l5, am_l6, am_l7, am_l8, am_l9, am_l10, am_l11, am_l12, am_l13, am_l14, am_l15, am_l16, am_l17, am_l18, am_l19, am_l20, am_l21, am_l22, am_l23, am_l24, am_l25, am_l26, am_l30, am_l32, am_l33, am_l37, am_l38, am_l40, am_l41, am_l42, am_l43, am_l45, am_l47, am_l48, am_l50, am_l57, am_l59, am_l60, am_l61, am_l62, am_l63, am_l70, am_l80, am_l81, am_l97, am_l99, am_l100, am_l110, am_l115, am_l119, am_l120, am_l121, am_l124, am_l126, am_l156, am_l255, am_l1103515245, am_l12345, am_l2147483647, am_lm1, am_lm2, am_lm3, am_lm5, am_lm11, am_lm12, am_lm13, am_lm14, am_lm33, am_lm59, am_lm63, am_lm100, am_lm126] at q
    omega
  · simp only [am_lt_i, am_le_i, am_eq_i, ne_eq, am_l0, am_l1, am_l2, am_l3, am_l4, am_l5, am_l6, am_l7, am_l8, am_l9, am_l10, am_l11, am_l12, am_l13, am_l14, am_l15, am_l16, am_l17, am_l18, am_l19, am_l20, am_l21, am_l22, am_l23, am_l24, am_l25, am_l26, am_l30, am_l32, am_l33, am_l37, am_l38, am_l40, am_l41, am_l42, am_l43, am_l45, am_l47, am_l48, am_l50, am_l57, am_l59, am_l60, am_l61, am_l62, am_l63, am_l70, am_l80, am_l81, am_l97, am_l99, am_l100, am_l110, am_l115, am_l119, am_l120, am_l121, am_l124, am_l126, am_l156, am_l255, am_l1103515245, am_l12345, am_l2147483647, am_lm1, am_lm2, am_lm3, am_lm5, am_lm11, am_lm12, am_lm13, am_lm14, am_lm33, am_lm59, am_lm63, am_lm100, am_lm126, e8] at q2
    omega
  · simp only [am_lt_i, am_le_i, am_eq_i, ne_eq, am_l0, am_l1, am_l2, am_l3, am_l4, am_l5, am_l6, am_l7, am_l8, am_l9, am_l10, am_l11, am_l12, am_l13, am_l14, am_l15, am_l16, am_l17, am_l18, am_l19, am_l20, am_l21, am_l22, am_l23, am_l24, am_l25, am_l26, am_l30, am_l32, am_l33, am_l37, am_l38, am_l40, am_l41, am_l42, am_l43, am_l45, am_l47, am_l48, am_l50, am_l57, am_l59, am_l60, am_l61, am_l62, am_l63, am_l70, am_l80, am_l81, am_l97, am_l99, am_l100, am_l110, am_l115, am_l119, am_l120, am_l121, am_l124, am_l126, am_l156, am_l255, am_l1103515245, am_l12345, am_l2147483647, am_lm1, am_lm2, am_lm3, am_lm5, am_lm11, am_lm12, am_lm13, am_lm14, am_lm33, am_lm59, am_lm63, am_lm100, am_lm126, e8] at q q2
    obtain ⟨k, hk, e⟩ := am_nat (x := x) (n := 8) (by omega) (by omega)
    exact h1 k hk e
end SP25
