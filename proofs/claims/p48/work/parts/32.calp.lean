/-! pairs: door, doors, child, mend, of -/
theorem am_w5 {w : Nat} (h1 : 3 ≤ w) (h2 : w ≤ 7) : w = 3 ∨ w = 4 ∨ w = 5 ∨ w = 6 ∨ w = 7 := by omega
theorem am_vm5 {n m w i : Nat} (hv : am_val n (m + 1) w i) (h : ¬ (i = m ∧ 3 ≤ w ∧ w ≤ 7)) : am_val n m w i := by
  unfold am_val at hv ⊢
  omega
section SP32
variable {d n m : Nat} {u : Nat → Nat → Int32} {mi : am_MI} {ml : am_ML} {R : am_R} {Q : Int32 → Int32 → am_MI → am_ML → Prop} {s nb q l p v1 : Nat} {f : Nat → Int32}
theorem am_cx_kM {a b : am_MI} (h : am_cx n m u a) (hk : am_kp am_FM a b) : am_cx n m u b := am_cx_on h (hk 1 1 rfl) (hk 1 2 rfl) (fun w i hw => hk _ _ (decide_eq_false (by omega)))
theorem am_cz_kM {a b : am_MI} (h : am_cz m a) (hk : am_kp am_FM a b) : am_cz m b := fun i h1 h2 => by
  rw [hk 9 i rfl, hk 10 i rfl]
  exact h i h1 h2
end SP32
