/-! pairs: atFive, guard, judge, byWhat -/
theorem am_cv {R : am_R} {x y : Int32} {mi : am_MI} {ml : am_ML} (e : x = y) (h : R (some (.int y)) mi ml) : R (some (.int x)) mi ml := by
  rw [e]
  exact h
section SP63
variable {d n m : Nat} {u : Nat → Nat → Int32} {mi : am_MI} {ml : am_ML} {R : am_R} {r c s l nb : Nat} {P : List (List Nat × List Nat)} {Q : Int32 → Int32 → am_MI → am_ML → Prop} {f own : Nat → Int32}
/-- onlyOne -/
theorem sp_110 {x : Int32} (hc : am_cx n m u mi) (h : R (some (.int (am_onl x m 0))) mi ml) : am_call (d + 1) 110 [.ref 58, .int x] mi ml R := by
  have hm5 := hc.2.1
  have loop : ∀ v k, k + v = m → R (some (.int (am_onl x v k))) mi ml → am_wp (am_call d) mt_110 R 2 [some (.ref 58), some (.int x), some (.int (nI k))] [] mi ml := by
    intro v
    induction v with
    | zero =>
      intro k ek g
      have ek : k = m := ek
      subst ek
      exact bk_110_2 (pk_le _ _ (fun _ => g) (fun q => absurd q (Nat.lt_irrefl _)) hc.2.2.2.1 rfl)
    | succ v ih =>
      intro k ek g
      unfold am_onl at g
      refine bk_110_2 (pk_le m k (fun q => absurd q (by omega)) (fun _ => ⟨fun q => ?_, fun q => ?_⟩) hc.2.2.2.1 rfl)
      · rw [if_neg q] at g
        rw [nI_1]
        exact ih (k + 1) (by omega) g
      · rw [if_pos (Decidable.not_not.mp q)] at g
        exact g
  exact bk_110 (loop m 0 (Nat.zero_add _) h)
/-- leftBy -/
theorem sp_112 {x y : Int32} (hx : x = nI c) (h : R (some (.int (am_lft2 y c))) mi ml) : am_call (d + 2) 112 [.ref 58, .int x, .int y] mi ml R := by
  subst hx
  exact bk_112 (sp_273 (am_ri_i h))
/-- bestGuard -/
theorem sp_111 {x : Int32} (hc : am_cx n m u mi) (hm : 0 < m) (h : R (some (.int (nI (am_grd x (m - 1))))) mi ml) : am_call (d + 3) 111 [.ref 58, .int x] mi ml R := by
  have hm5 := hc.2.1
  have loop : ∀ v k, k + 1 + v = m → am_wp (am_call (d + 2)) mt_111 R 4 [some (.ref 58), some (.int x), some (.int (nI (am_grd x k))), some (.int (nI (k + 1)))] [] mi ml := by
    intro v
    induction v with
    | zero =>
      intro k ek
      have ek : k = m - 1 := by omega
      subst ek
      exact bk_111_4 (pk_le m (m - 1 + 1) (fun _ => h) (fun q => absurd q (by omega)) hc.2.2.2.1 rfl)
    | succ v ih =>
      intro k ek
      have ih := ih (k + 1) (by omega)
      have un : am_grd x (k + 1) = if am_lft2 x (am_grd x k) ≤ am_lft2 x (k + 1) then am_grd x k else k + 1 := rfl
      rw [un] at ih
      refine bk_111_4 (pk_le m (k + 1) (fun q => absurd q (by omega)) (fun _ => sp_112 (c := k + 1) rfl (am_ri_i (sp_112 (c := am_grd x k) rfl (am_ri_i ⟨fun q => ?_, fun q => ?_⟩)))) hc.2.2.2.1 rfl)
      · rw [if_pos q] at ih
        rw [nI_1]
        exact ih
      · rw [if_neg q] at ih
        rw [nI_1]
        exact ih
  exact bk_111 (loop (m - 1) 0 (by omega))
/-- isSo -/
theorem sp_114 {x y z : Int32} {j : Nat} (hr : r < 5) (hc : am_cx n m u mi) (ho : ∀ i, i < n → mi (32 + r) i = own i) (hj : j < 1000) (hx : x = nI j) (hy : y = f j) (hz : z = nI r) (h1 : am_sop n m own f j = true → R (some (.int 1)) mi ml) (h0 : ¬ am_sop n m own f j = true → R (some (.int 0)) mi ml) : am_call (d + 2) 114 [.ref 58, .int x, .int y, .int z] mi ml R := by
  subst hx
  subst hy
  subst hz
  have hn := hc.1
  have hm5 := hc.2.1
  refine bk_114 (sp_0 hc (fun k hk e => am_ri_i (am_yn ?_)) (fun g => am_ri_i (am_nn ⟨am_b0, h0 (fun q => ?_)⟩)))
  · have ek : j = k := (nI_eq (by omega) (by omega)).mp e
    subst ek
    refine ⟨fun q => ⟨am_b1, h1 (decide_eq_true ⟨hk, Or.inl q⟩)⟩, fun q => sp_1 hc (fun c hc2 ec => am_ri_i (am_y (sp_38 hr (by omega) rfl rfl (am_ri_i ?_)))) (fun g => am_ri_i (am_n0 ⟨am_b0, h0 (fun y => ?_)⟩))⟩
    · rw [ho j hk]
      refine ⟨fun w => ⟨am_b0, h0 (fun y => ?_)⟩, fun w => ⟨am_b1, h1 (decide_eq_true ⟨hk, Or.inr ⟨?_, ?_, Decidable.not_not.mp w⟩⟩)⟩⟩
      · rcases (of_decide_eq_true y).2 with y | y
        · exact q y
        · exact w y.2.2
      · rw [ec, am_ti (by omega)]
        omega
      · rw [ec, am_ti (by omega)]
        omega
    · rcases (of_decide_eq_true y).2 with y | y
      · exact q y
      · omega
  · have q := (of_decide_eq_true q).1
    rw [am_ti (by omega)] at g
    omega
/-- firstNotSo -/
theorem sp_113 {z : Int32} (hs : s < 6) (h : am_rw s l mi ml) (hr : r < 5) (hc : am_cx n m u mi) (ho : ∀ i, i < n → mi (32 + r) i = own i) (hf : ∀ j, j < l → (ml (67 + 2 * s) j).toInt32 = f j) (hz : z = nI r) (hR : R (some (.int (am_fns (am_sop n m own f) l 0))) mi ml) : am_call (d + 3) 113 [.ref 58, .ref (66 + 2 * s), .int z] mi ml R := by
  obtain ⟨-, -, -, h4, -, hl⟩ := h
  have loop : ∀ v k, k + v = l → R (some (.int (am_fns (am_sop n m own f) v k))) mi ml → am_wp (am_call (d + 2)) mt_113 R 2 [some (.ref 58), some (.ref (66 + 2 * s)), some (.int z), some (.int (nI k)), none] [] mi ml := by
    intro v
    induction v with
    | zero =>
      intro k ek g
      have ek : k = l := ek
      subst ek
      exact bk_113_2 (am_need_o hs rfl (pk_le _ _ (fun _ => g) (fun q => absurd q (Nat.lt_irrefl _)) h4 rfl))
    | succ v ih =>
      intro k ek g
      have hk : k < l := by omega
      unfold am_fns at g
      refine bk_113_2 (am_need_o hs rfl (pk_le l k (fun q => absurd q (by omega)) (fun _ => am_need_o hs rfl (sp_103 hs hl h4 hk rfl (am_rj_i ?_))) h4 rfl))
      rw [nI_1]
      refine sp_114 (f := f) (own := own) hr hc ho (by omega) rfl (hf k hk) hz (fun q => am_ri_i (am_yn ?_)) (fun q => am_ri_i (am_nn ?_))
      · rw [if_pos q] at g
        exact ih (k + 1) (by omega) g
      · rw [if_neg q] at g
        exact g
  exact bk_113 (loop l 0 (Nat.zero_add _) hR)
end SP63
