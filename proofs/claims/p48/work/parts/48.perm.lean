/-! adding along the order is adding along the doors; no door comes twice -/
def am_sm (F : Nat → Int32) : Nat → Int32
  | 0 => 0
  | k + 1 => am_sm F k + F k
theorem am_sm_c {F G : Nat → Int32} : ∀ k, (∀ j, j < k → F j = G j) → am_sm F k = am_sm G k
  | 0, _ => rfl
  | k + 1, h => by
    unfold am_sm
    rw [am_sm_c k (fun j hj => h j (by omega)), h k (by omega)]
theorem am_sm_w {F G : Nat → Int32} {p : Nat} (h1 : F p = G (p + 1)) (h2 : F (p + 1) = G p) (h : ∀ j, ¬ j = p → ¬ j = p + 1 → F j = G j) : ∀ k, p + 1 < k → am_sm F k = am_sm G k
  | 0, hk => absurd hk (Nat.not_lt_zero _)
  | k + 1, hk => by
    by_cases e : k = p + 1
    · subst e
      show am_sm F p + F p + F (p + 1) = am_sm G p + G p + G (p + 1)
      rw [h1, h2, am_sm_c p (fun j hj => h j (by omega) (by omega)), Int32.add_assoc, Int32.add_assoc, Int32.add_comm (G (p + 1)) (G p)]
    · unfold am_sm
      rw [am_sm_w h1 h2 h k (by omega), h k (by omega) (by omega)]
theorem am_ins_m {le : Nat → Nat → Bool} {v : Nat} (F : Nat → Int32) (k : Nat) : ∀ (p : Nat) (f : Nat → Nat), p ≤ k → am_sm (fun j => F (am_ins le v p f j)) (k + 1) = am_sm (fun j => F (am_un f p v j)) (k + 1)
  | 0, _, _ => rfl
  | p + 1, f, hp => by
    unfold am_ins
    split
    · rfl
    · rw [am_ins_m F k p (am_un f (p + 1) (f p)) (by omega)]
      refine am_sm_w (p := p) ?_ ?_ (fun j h1 h2 => ?_) (k + 1) (by omega)
      · rw [am_un_k, am_un_k]
      · rw [am_un_n (show ¬ p + 1 = p by omega), am_un_k, am_un_n (show ¬ p = p + 1 by omega)]
      · rw [am_un_n h1, am_un_n h2, am_un_n h2]
theorem am_srt_m (le : Nat → Nat → Bool) (a : Nat) (F : Nat → Int32) : ∀ k, am_sm (fun j => F (am_srt le a k j)) k = am_sm (fun j => F (a + j)) k
  | 0 => rfl
  | k + 1 => by
    show am_sm (fun j => F (am_ins le (a + k) k (am_srt le a k) j)) (k + 1) = am_sm (fun j => F (a + j)) k + F (a + k)
    rw [am_ins_m F k k _ (Nat.le_refl _)]
    show am_sm (fun j => F (am_un (am_srt le a k) k (a + k) j)) k + F (am_un (am_srt le a k) k (a + k) k) = _
    rw [am_un_k, ← am_srt_m le a F k, am_sm_c k (fun j hj => by rw [am_un_n (show ¬ j = k by omega)])]
theorem am_ins_j {le : Nat → Nat → Bool} {v : Nat} (k : Nat) : ∀ (p : Nat) (f : Nat → Nat), p ≤ k → (∀ i j, i ≤ k → j ≤ k → ¬ i = p → ¬ j = p → f i = f j → i = j) → (∀ j, j ≤ k → ¬ j = p → ¬ f j = v) → ∀ i j, i ≤ k → j ≤ k → am_ins le v p f i = am_ins le v p f j → i = j := by
  have base : ∀ (p : Nat) (f : Nat → Nat), (∀ i j, i ≤ k → j ≤ k → ¬ i = p → ¬ j = p → f i = f j → i = j) → (∀ j, j ≤ k → ¬ j = p → ¬ f j = v) → ∀ i j, i ≤ k → j ≤ k → am_un f p v i = am_un f p v j → i = j := by
    intro p f h1 h2 i j hi hj e
    by_cases ei : i = p
    · by_cases ej : j = p
      · rw [ei, ej]
      · rw [ei, am_un_k, am_un_n ej] at e
        exact absurd e.symm (h2 j hj ej)
    · by_cases ej : j = p
      · rw [ej, am_un_k, am_un_n ei] at e
        exact absurd e (h2 i hi ei)
      · rw [am_un_n ei, am_un_n ej] at e
        exact h1 i j hi hj ei ej e
  intro p
  induction p with
  | zero =>
    intro f _ h1 h2
    exact base 0 f h1 h2
  | succ p ih =>
    intro f hp h1 h2
    unfold am_ins
    split
    · exact base (p + 1) f h1 h2
    · refine ih _ (by omega) (fun i j hi hj e1 e2 e => ?_) (fun j hj e1 => ?_)
      · by_cases a1 : i = p + 1
        · by_cases a2 : j = p + 1
          · rw [a1, a2]
          · rw [a1, am_un_k, am_un_n a2] at e
            exact absurd (h1 p j (by omega) hj (by omega) a2 e) (fun w => e2 w.symm)
        · by_cases a2 : j = p + 1
          · rw [a2, am_un_k, am_un_n a1] at e
            exact absurd (h1 i p hi (by omega) a1 (by omega) e) e1
          · rw [am_un_n a1, am_un_n a2] at e
            exact h1 i j hi hj a1 a2 e
      · by_cases a1 : j = p + 1
        · rw [a1, am_un_k]
          exact h2 p (by omega) (by omega)
        · rw [am_un_n a1]
          exact h2 j hj a1
theorem am_srt_j (le : Nat → Nat → Bool) (a : Nat) : ∀ k i j, i < k → j < k → am_srt le a k i = am_srt le a k j → i = j
  | 0, _, _, h, _, _ => absurd h (Nat.not_lt_zero _)
  | k + 1, i, j, hi, hj, e => by
    refine am_ins_j (le := le) (v := a + k) k k (am_srt le a k) (Nat.le_refl _) (fun i j hi hj e1 e2 e => am_srt_j le a k i j (by omega) (by omega) e) (fun j hj e1 => ?_) i j (by omega) (by omega) e
    have := am_srt_b le a k j (by omega)
    omega
