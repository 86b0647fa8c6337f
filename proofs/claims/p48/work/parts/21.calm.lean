/-! specs: the calendar of the reference -/
/-- the calendar's own places -/
def am_FM : Nat → Nat → Bool := fun c j => decide ((c = 78 ∧ (j = 0 ∨ j = 5)) ∨ (79 ≤ c ∧ c ≤ 88))
theorem am_m1 {n : Nat} (h : n < 2 ^ 30) : (nI n - 1).toInt = (n : Int) - 1 := pk_sub_toInt (b := 1) h (by omega)
section SP21
variable {d n m : Nat} {u : Nat → Nat → Int32} {mi : am_MI} {ml : am_ML} {R : am_R}
theorem am_d10 {j : Nat} (h : j < 2 ^ 31) : nI j / 10 = nI (j / 10) := pk_div (d := 10) h (by omega) (by omega)
theorem am_r10 {j : Nat} (h : j < 2 ^ 31) : am_rem (nI j) 10 = nI (j % 10) := pk_rem (d := 10) h (by omega) (by omega)
theorem am_d100 {j : Nat} (h : j < 2 ^ 31) : nI j / 100 = nI (j / 100) := pk_div (d := 100) h (by omega) (by omega)
theorem am_r100 {j : Nat} (h : j < 2 ^ 31) : am_rem (nI j) 100 = nI (j % 100) := pk_rem (d := 100) h (by omega) (by omega)
end SP21
