/-! sums: how unfair, all together; on both sides -/
def am_mxs (s : Nat → Int32) : Nat → Int32
  | 0 => s 0
  | k + 1 => am_max (am_mxs s k) (s (k + 1))
def am_mns (s : Nat → Int32) : Nat → Int32
  | 0 => s 0
  | k + 1 => am_min (am_mns s k) (s (k + 1))
def am_unf (m : Nat) (s : Nat → Int32) : Int32 := if m = 0 then 0 else am_mxs s (m - 1) - am_mns s (m - 1)
def am_tgs (s : Nat → Int32) : Nat → Int32
  | 0 => 0
  | k + 1 => am_tgs s k + s k
theorem am_mxs_c {m : Nat} {s s2 : Nat → Int32} (h : ∀ c, c < m → s c = s2 c) : ∀ k, k < m → am_mxs s k = am_mxs s2 k ∧ am_mns s k = am_mns s2 k
  | 0, hk => ⟨h 0 hk, h 0 hk⟩
  | k + 1, hk => by
    obtain ⟨a, b⟩ := am_mxs_c h k (by omega)
    unfold am_mxs am_mns
    rw [a, b, h (k + 1) hk]
    exact ⟨rfl, rfl⟩
theorem am_unf_c {m : Nat} {s s2 : Nat → Int32} (h : ∀ c, c < m → s c = s2 c) : am_unf m s = am_unf m s2 := by
  unfold am_unf
  by_cases e : m = 0
  · rw [if_pos e, if_pos e]
  · obtain ⟨a, b⟩ := am_mxs_c h (m - 1) (by omega)
    rw [if_neg e, if_neg e, a, b]
theorem am_tgs_c {s s2 : Nat → Int32} : ∀ k, (∀ c, c < k → s c = s2 c) → am_tgs s k = am_tgs s2 k
  | 0, _ => rfl
  | k + 1, h => by
    unfold am_tgs
    rw [am_tgs_c k (fun c hc => h c (by omega)), h k (by omega)]
section SP47
variable {d n m : Nat} {u : Nat → Nat → Int32} {mi : am_MI} {ml : am_ML} {R : am_R} {r x : Nat}
/-- unfairOf -/
theorem sp_43 (hk : am_kd x = 2) (hn : am_n x = 5) (hc : am_cx n m u mi) (h : R (some (.int (am_unf m (mi x)))) mi ml) : am_call (d + 1) 43 [.ref 22, .ref x] mi ml R := by
  have hm5 := hc.2.1
  have em : mi 1 2 = nI m := hc.2.2.2.1
  unfold am_unf at h
  refine bk_43 ?_
  rw [em, hk, am_len2 hk, hn]
  by_cases e : m = 0
  · rw [if_pos e] at h
    refine ⟨fun w => ?_, fun _ => h⟩
    rw [e] at w
    exact absurd rfl w
  · rw [if_neg e] at h
    have loop : ∀ w k, k + 1 + w = m → am_wp (am_call d) mt_43 R 16 [some (.ref 22), some (.ref x), some (.int (am_mxs (mi x) k)), some (.int (am_mns (mi x) k)), some (.int (nI (k + 1)))] [] mi ml := by
      intro w
      induction w with
      | zero =>
        intro k ek
        have ek : k + 1 = m := ek
        subst ek
        exact bk_43_16 (pk_le _ _ (fun _ => h) (fun w => absurd w (Nat.lt_irrefl _)) em rfl)
      | succ w ih =>
        intro k ek
        have v5 : vp_in (nI (k + 1)) 5 := vp_in_nI (by omega) (by omega)
        refine bk_43_16 (pk_le m (k + 1) (fun w => absurd w (by omega)) (fun _ => ?_) em rfl)
        rw [hk, am_len2 hk, hn, nI_clamp (by omega), nI_1]
        exact am_need_i rfl ⟨v5, am_need_i rfl ⟨v5, ih (k + 1) (by omega)⟩⟩
    refine ⟨fun _ => am_need_i rfl ⟨am_vp (by decide) (by decide), am_need_i rfl ⟨am_vp (by decide) (by decide), loop (m - 1) 0 (by omega)⟩⟩, fun w => ?_⟩
    exact absurd ((nI_eq (a := m) (b := 0) (by omega) (by omega)).mp (Decidable.not_not.mp w)) e
/-- togetherBy -/
theorem sp_44 {y : Int32} (hr : r < 5) (hc : am_cx n m u mi) (hy : y = nI r) (h : R (some (.int (am_tgs (mi (38 + r)) m))) mi ml) : am_call (d + 1) 44 [.ref 22, .int y] mi ml R := by
  subst hy
  have hm5 := hc.2.1
  obtain ⟨a1, a2, -⟩ := am_k38 r hr
  refine bk_44 (am_for m (fun k => am_wp (am_call d) mt_44 R 4 [some (.ref 22), some (.int (nI r)), some (.int (am_tgs (mi (38 + r)) k)), some (.int (nI k))] [] mi ml) ?_ (fun k hk ih => ?_) 0 (Nat.zero_le _))
  · exact bk_44_4 (pk_le m m (fun _ => h) (fun w => absurd w (Nat.lt_irrefl _)) hc.2.2.2.1 rfl)
  · refine bk_44_4 (pk_le m k (fun w => absurd w (by omega)) (fun _ => ?_) hc.2.2.2.1 rfl)
    rw [nI_clamp (show r < 2 ^ 31 by omega), Nat.one_mul, am_len2 a1, a1, a2, nI_clamp (show k < 2 ^ 31 by omega), nI_1]
    exact ⟨vp_in_nI hr (by omega), am_need_i rfl ⟨vp_in_nI (by omega) (by omega), ih⟩⟩
end SP47
