/-! a giving by a rule: the reference's side; a filled array -/
section SP42
variable {d n m : Nat} {u : Nat → Nat → Int32} {mi : am_MI} {ml : am_ML} {R : am_R} {r : Nat} {P : List (List Nat × List Nat)}
theorem am_lwr_kM {a b : am_MI} (h : am_lwr P a) (hk : am_kp am_F98b a b) : am_lwr P b := am_lwr_kW h (am_kW_m hk)
/-- fill -/
theorem sp_275 {x : Nat} {y : Int32} (hk : am_kd x = 2) (hn : am_n x < 1000) (h : ∀ m2, am_kp (fun c _ => decide (c = x)) mi m2 → (∀ j, j < am_n x → m2 x j = y) → R none m2 ml) : am_call (d + 1) 275 [.ref x, .int y] mi ml R := by
  refine bk_275 (am_need_i (by rw [hk]; rfl) ?_)
  rw [am_len2 hk]
  have loop : ∀ q k, k + q = am_n x → ∀ m2, am_kp (fun c _ => decide (c = x)) mi m2 → (∀ j, j < k → m2 x j = y) → am_wp (am_call d) mt_275 R 5 [some (.ref x), some (.int y), some (.int (nI k)), some (.int (nI (am_n x)))] [] m2 ml := by
    intro q
    induction q with
    | zero =>
      intro k e m2 k2 h2
      have e : k = am_n x := e
      rw [e] at h2 ⊢
      exact bk_275_5 (pk_le _ _ (fun _ => h m2 k2 h2) (fun w => absurd w (Nat.lt_irrefl _)) rfl rfl)
    | succ q ih =>
      intro k e m2 k2 h2
      refine bk_275_5 (pk_le (am_n x) k (fun w => absurd w (by omega)) (fun _ => am_need_i (by rw [hk]; rfl) ⟨by rw [am_len2 hk]; exact vp_in_nI (by omega) (by omega), ?_⟩) rfl rfl)
      rw [nI_clamp (by omega), nI_1]
      refine ih (k + 1) (by omega) _ (am_kp_u k2 (decide_eq_true rfl)) (fun j hj => ?_)
      by_cases e2 : j = k
      · rw [e2, am_ui_k]
      · rw [am_ui_n (fun _ w => e2 w)]
        exact h2 j (by omega)
  exact loop (am_n x) 0 (Nat.zero_add _) mi am_kp_r (fun j hj => absurd hj (Nat.not_lt_zero _))
end SP42
