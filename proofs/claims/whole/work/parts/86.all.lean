/-! all is made: the small machine's own world -/
section SP86
variable {G : am_G} {B : Nat} {H : Heap} {mi : am_MI} {ml : am_ML}
theorem cm_en_all {a : Nat} (ha : a < am_N) (hf : am_kd a = 1 → ∀ j, j < am_f a → am_isr (am_fd (am_n a) j) = true → ¬ mi a j = 0) (hs : am_kd a = 4 → ¬ am_d a = 1 → ∀ j, j < am_n a → ¬ mi a j = 0) : ∀ H, va_at G.2.1 vwCl (G.1 a, cm_en G mi ml a) H → va_at G.2.1 vwCl (G.1 a, am_en G mi ml a) H := by
  intro H h
  have kk : am_kd a = 1 ∨ am_kd a = 2 ∨ am_kd a = 3 ∨ am_kd a = 4 := by
    have key : ∀ a, a < am_N → am_kd a = 1 ∨ am_kd a = 2 ∨ am_kd a = 3 ∨ am_kd a = 4 := by decide
    exact key a ha
  rcases kk with k | k | k | k
  · have e : cm_en G mi ml a = am_en G mi ml a := by
      rw [cm_en1 k, am_en1 k]
      congr 2
      unfold cm_fs am_fs
      refine List.map_congr_left (fun j hj => ?_)
      have hj := List.mem_range.mp hj
      unfold cm_fv am_fv
      by_cases r : am_isr (am_fd (am_n a) j) = true
      · rw [if_pos r, if_pos r, if_neg (hf k j hj r)]
      · rw [if_neg r, if_neg r]
    rw [← e]
    exact h
  · rw [am_en2 k]
    rw [cm_en2 k] at h
    exact h
  · rw [am_en3 k]
    rw [cm_en3 k] at h
    exact h
  · rw [am_en4 k]
    rw [cm_en4 k] at h
    have h : H[G.1 a]? = some (vp_cell _ _) := h
    show H[G.1 a]? = some (vp_cell _ _)
    rw [h, vp_cell_q, vp_cell_q]
    refine congrArg some (cq_arr (fun j hj => ?_))
    by_cases d : am_d a = 1
    · rw [if_pos d]
    · rw [if_neg d, if_neg (hs k d j hj)]
theorem cm_all (hG : cm_ad G B) (h : cm_hp G B am_N H mi ml) (hf : ∀ a, a < am_N → am_kd a = 1 → ∀ j, j < am_f a → am_isr (am_fd (am_n a) j) = true → ¬ mi a j = 0) (hs : ∀ a, a < am_N → am_kd a = 4 → ¬ am_d a = 1 → ∀ j, j < am_n a → ¬ mi a j = 0) : am_hp G H mi ml := by
  obtain ⟨h1, h2, h3, h4, h5⟩ := h
  refine ⟨fun k q hk => ?_, ⟨fun i j p q hi hj e => ?_, fun k q hk => ?_⟩, h5⟩
  · have hkN : k < am_N := by
      apply Decidable.byContradiction
      intro w
      have z : (am_wl G mi ml)[k]? = none := by
        rw [List.getElem?_eq_none]
        unfold am_wl
        simpa using Nat.not_lt.mp w
      rw [z] at hk
      cases hk
    rw [am_wl_at hkN] at hk
    cases hk
    exact cm_en_all hkN (hf k hkN) (hs k hkN) H (h1 k _ (cm_wl_at hkN))
  · have lt : ∀ {i : Nat} {p : Nat × va_E}, (am_wl G mi ml)[i]? = some p → i < am_N ∧ p.1 = B + i := by
      intro i p hi
      have hkN : i < am_N := by
        apply Decidable.byContradiction
        intro w
        have z : (am_wl G mi ml)[i]? = none := by
          rw [List.getElem?_eq_none]
          unfold am_wl
          simpa using Nat.not_lt.mp w
        rw [z] at hi
        cases hi
      rw [am_wl_at hkN] at hi
      cases hi
      exact ⟨hkN, hG i hkN⟩
    obtain ⟨i1, i2⟩ := lt hi
    obtain ⟨j1, j2⟩ := lt hj
    omega
  · have hkN : k < am_N := by
      apply Decidable.byContradiction
      intro w
      have z : (am_wl G mi ml)[k]? = none := by
        rw [List.getElem?_eq_none]
        unfold am_wl
        simpa using Nat.not_lt.mp w
      rw [z] at hk
      cases hk
    rw [am_wl_at hkN] at hk
    cases hk
    exact ⟨k, hkN, rfl⟩
end SP86
