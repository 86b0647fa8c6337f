/-! the invariant at the start -/
theorem cw_I {m0 : am_MI} {ml : am_ML} (hz : ∀ k j, k < am_N → m0 k j = 0) (hs : am_sta m0) (hx : am_txs m0) : am_I 0 (am_us cw_L m0) ml := by
  have E : ∀ c j x, c < am_N → am_us cw_L cw_z c j = x → am_us cw_L m0 c j = x := fun c j x hc h => (am_us_c cw_L (hz c j hc)).trans h
  have out : ∀ c j, am_N ≤ c → am_us cw_L m0 c j = m0 c j := fun c j hc => by
    have z : am_us cw_L m0 c = m0 c := am_us_o cw_L (List.all_eq_true.mpr (fun q hq => by
      have key : ∀ q ∈ cw_L, q.1 < am_N := by decide +kernel
      have := key q hq
      simp
      omega))
    rw [z]
  have hs2 : am_sta (am_us cw_L m0) := am_sta_on hs (fun c j q => out c j q)
  have hx2 : am_txs (am_us cw_L m0) := am_txs_on hx (fun c j q1 q2 => out c j (Nat.le_trans (by decide) q1))
  have z912 : ∀ i, i < 12 → am_us cw_L cw_z 9 i = 0 ∧ am_us cw_L cw_z 10 i = 0 := by decide +kernel
  have z60 : ∀ i, i < 12 → am_us cw_L cw_z 60 i = -2 := by decide +kernel
  have zsh : ∀ s, s < 6 → am_us cw_L cw_z (66 + 2 * s) 0 = 0 ∧ am_us cw_L cw_z 106 s = -1 := by decide +kernel
  refine ⟨0, 0, fun w _ => if w = 9 then 1 else 0, [], 0, 0, 0, ⟨⟨⟨trivial, by decide, by decide, by decide, Or.inl ⟨E 78 15 0 (by decide) (by decide +kernel), rfl⟩, E 78 16 0 (by decide) (by decide +kernel), trivial, E 15 6 0 (by decide) (by decide +kernel), fun j hj => absurd hj (Nat.not_lt_zero j), am_txs_w hx2⟩, ⟨by omega, by omega, E 1 1 0 (by decide) (by decide +kernel), E 1 2 0 (by decide) (by decide +kernel), fun w i hv => ?_⟩, ⟨by omega, by omega, E 78 0 0 (by decide) (by decide +kernel), E 78 5 0 (by decide) (by decide +kernel), fun w i hv => ?_⟩, fun w i hv => ?_⟩, fun i _ hi => ⟨E 9 i 0 (by decide) (z912 i hi).1, E 10 i 0 (by decide) (z912 i hi).2⟩, hs2, hx2, ⟨0, 0, by omega, by omega, E 13 1 0 (by decide) (by decide +kernel), E 13 2 0 (by decide) (by decide +kernel), E 78 38 0 (by decide) (by decide +kernel), E 78 37 0 (by decide) (by decide +kernel), fun j hj => absurd hj (Nat.not_lt_zero j), fun j hj => absurd hj (Nat.not_lt_zero j)⟩, ⟨0, by omega, E 15 1 0 (by decide) (by decide +kernel), E 78 13 0 (by decide) (by decide +kernel), fun j hj => absurd hj (Nat.not_lt_zero j)⟩, ⟨0, by omega, E 59 2 0 (by decide) (by decide +kernel), E 78 12 0 (by decide) (by decide +kernel), ?_, ?_, ?_, fun j hj => absurd hj (Nat.not_lt_zero j), fun j _ hj => E 60 j (-2) (by decide) (z60 j hj), Or.inl ⟨E 59 6 0 (by decide) (by decide +kernel), E 78 32 0 (by decide) (by decide +kernel)⟩⟩, ⟨0, [], by omega, E 62 1 0 (by decide) (by decide +kernel), E 78 40 0 (by decide) (by decide +kernel), fun j hj => absurd hj (Nat.not_lt_zero j), ⟨by decide, E 62 3 0 (by decide) (by decide +kernel), fun j _ hj => absurd hj (Nat.not_lt_zero j)⟩, ⟨by decide, E 78 42 0 (by decide) (by decide +kernel), fun j _ hj => absurd hj (Nat.not_lt_zero j)⟩⟩, ⟨by omega, fun s hs => Or.inl ⟨E (66 + 2 * s) 0 0 (by show 66 + 2 * s < 114; omega) (zsh s hs).1, E 106 s (-1) (by decide) (zsh s hs).2⟩⟩, E 62 1 0 (by decide) (by decide +kernel), Or.inr ?_, Or.inr ?_, E 1 3 0 (by decide) (by decide +kernel), E 15 7 0 (by decide) (by decide +kernel)⟩, by omega⟩
  · have h : (w = 8 ∨ w = 9) ∧ i = 0 := by unfold am_val at hv; omega
    obtain ⟨h1, h2⟩ := h
    subst h2
    rcases h1 with e | e <;> subst e
    · exact E 11 0 0 (by decide) (by decide +kernel)
    · exact E 12 0 1 (by decide) (by decide +kernel)
  · have h : (w = 8 ∨ w = 9) ∧ i = 0 := by unfold am_val at hv; omega
    obtain ⟨h1, h2⟩ := h
    subst h2
    rcases h1 with e | e <;> subst e
    · exact E 88 0 0 (by decide) (by decide +kernel)
    · exact E 88 1 1 (by decide) (by decide +kernel)
  · have h : (w = 8 ∨ w = 9) ∧ i = 0 := by unfold am_val at hv; omega
    obtain ⟨h1, h2⟩ := h
    subst h2
    rcases h1 with e | e <;> subst e
    · exact ⟨0, by decide, by decide, rfl⟩
    · exact ⟨1, by decide, by decide, rfl⟩
  · exact (E 59 3 0 (by decide) (by decide +kernel)).trans (E 100 0 0 (by decide) (by decide +kernel)).symm
  · exact (E 59 4 0 (by decide) (by decide +kernel)).trans (E 100 1 0 (by decide) (by decide +kernel)).symm
  · exact (E 59 5 0 (by decide) (by decide +kernel)).trans (E 100 2 0 (by decide) (by decide +kernel)).symm
  · rw [E 22 2 (-1) (by decide) (by decide +kernel), E 1 3 0 (by decide) (by decide +kernel), E 15 7 0 (by decide) (by decide +kernel)]
    decide
  · rw [E 47 2 (-1) (by decide) (by decide +kernel), E 1 3 0 (by decide) (by decide +kernel), E 15 7 0 (by decide) (by decide +kernel)]
    decide
