/-! the new memory -/
def am_us : List (Nat × Nat × Int32) → am_MI → am_MI
  | [], mi => mi
  | (a, j, x) :: r, mi => am_us r (am_ui mi a j x)
def cw_L : List (Nat × Nat × Int32) := [(1, 0, 1), (12, 0, 1), (0, 0, 1), (13, 0, 1), (0, 1, 1), (15, 0, 1), (15, 3, 1), (15, 5, 1), (15, 8, 1), (0, 2, 1), (20, 2, 1), (20, 0, 1), (20, 1, 1), (0, 3, 1), (22, 2, (-1)), (22, 3, 1), (22, 4, 1), (22, 5, 1), (22, 6, 1), (22, 7, 1), (22, 8, 1), (22, 9, 1), (22, 10, 1), (22, 11, 1), (22, 0, 1), (22, 1, 1), (0, 4, 1), (47, 2, (-1)), (47, 3, 1), (47, 4, 1), (47, 5, 1), (47, 6, 1), (47, 0, 1), (47, 1, 1), (0, 5, 1), (58, 0, 1), (58, 1, 1), (0, 6, 1), (59, 1, 1), (59, 7, 1), (59, 0, 1), (60, 0, (-2)), (60, 1, (-2)), (60, 2, (-2)), (60, 3, (-2)), (60, 4, (-2)), (60, 5, (-2)), (60, 6, (-2)), (60, 7, (-2)), (60, 8, (-2)), (60, 9, (-2)), (60, 10, (-2)), (60, 11, (-2)), (0, 7, 1), (62, 0, 1), (62, 2, 1), (0, 8, 1), (0, 9, 1), (66, 0, 0), (66, 4, 1), (65, 0, 1), (68, 0, 0), (68, 4, 1), (65, 1, 1), (70, 0, 0), (70, 4, 1), (65, 2, 1), (72, 0, 0), (72, 4, 1), (65, 3, 1), (74, 0, 0), (74, 4, 1), (65, 4, 1), (76, 0, 0), (76, 4, 1), (65, 5, 1)]
theorem am_us_c {a j : Nat} : ∀ (L : List (Nat × Nat × Int32)) {m m2 : am_MI}, m a j = m2 a j → am_us L m a j = am_us L m2 a j
  | [], _, _, h => h
  | (b, i, x) :: r, m, m2, h => am_us_c r (by
      unfold am_ui
      by_cases e : a = b ∧ j = i
      · rw [if_pos e, if_pos e]
      · rw [if_neg e, if_neg e]
        exact h)
theorem am_us_o {a : Nat} : ∀ (L : List (Nat × Nat × Int32)) {m : am_MI}, L.all (fun q => !(q.1 == a)) = true → am_us L m a = m a
  | [], _, _ => rfl
  | (b, i, x) :: r, m, h => by
    have h2 := Bool.and_eq_true_iff.mp (show (!(b == a) && r.all (fun q => !(q.1 == a))) = true from h)
    have hb : ¬ a = b := fun e => by
      have z := h2.1
      rw [e] at z
      simp at z
    show am_us r (am_ui m b i x) a = m a
    rw [am_us_o r h2.2, am_ui_o hb]
def cw_z : am_MI := fun _ _ => 0
theorem cw_flag : ∀ a, a < cm_N → am_kd a = 1 → ∀ j, j < am_f a → am_isr (am_fd (am_n a) j) = true → ¬ am_us cw_L cw_z a j = 0 := by decide +kernel
theorem cw_shel : ∀ a, a < cm_N → am_kd a = 4 → ¬ am_d a = 1 → ∀ j, j < am_n a → ¬ am_us cw_L cw_z a j = 0 := by decide +kernel
