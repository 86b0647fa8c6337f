/-! doors from a row: both sides; count -/
theorem am_lc1 {x y : Int64} : (0 < lg_cmp x y) ↔ y.toInt < x.toInt := by
  unfold lg_cmp
  rw [← Int64.lt_iff_toInt_lt]
  by_cases h : x > y
  · rw [if_pos h]
    exact ⟨fun _ => h, fun _ => by decide⟩
  · rw [if_neg h]
    refine ⟨fun q => ?_, fun q => absurd q h⟩
    split at q <;> exact absurd q (by decide)
theorem am_lc2 {x y : Int64} : (lg_cmp x y ≤ 0) ↔ x.toInt ≤ y.toInt := by
  have z := am_lc1 (x := x) (y := y)
  rw [am_lt_i, am_l0] at z
  rw [am_le_i, am_l0]
  omega
theorem am_lc3 {x y : Int64} : (lg_cmp x y < 0) ↔ x.toInt < y.toInt := by
  unfold lg_cmp
  rw [← Int64.lt_iff_toInt_lt]
  by_cases h : x > y
  · rw [if_pos h]
    refine ⟨fun q => absurd q (by decide), fun q => ?_⟩
    have h1 := Int64.lt_iff_toInt_lt.mp h
    have h2 := Int64.lt_iff_toInt_lt.mp q
    omega
  · rw [if_neg h]
    by_cases e : x = y
    · rw [if_pos e]
      refine ⟨fun q => absurd q (by decide), fun q => ?_⟩
      have h2 := Int64.lt_iff_toInt_lt.mp q
      rw [e] at h2
      omega
    · rw [if_neg e]
      refine ⟨fun _ => ?_, fun _ => by decide⟩
      rw [Int64.lt_iff_toInt_lt]
      have h1 : ¬ y.toInt < x.toInt := fun q => h (Int64.lt_iff_toInt_lt.mpr q)
      have h2 : ¬ x.toInt = y.toInt := fun q => e (Int64.toInt_inj.mp q)
      omega
theorem am_tl {n : Nat} (h : n < 2 ^ 62) : (lN n).toInt = (n : Int) := lg_ofNat_toInt (by omega)
def am_du (u : Nat → Nat → Int32) (n : Nat) (f : Nat → Int32) : Nat → Nat → Nat → Int32
  | 0 => u
  | k + 1 => am_uu (am_uu (am_uu (am_du u n f k) 0 (n + k) (f (3 * k))) 1 (n + k) (f (3 * k + 1))) 2 (n + k) (f (3 * k + 2))
def am_dok (n l p : Nat) (f : Nat → Int32) (k : Nat) : Prop := p + 3 * k + 3 ≤ l ∧ n + k < 12 ∧ (1 ≤ (f (3 * k)).toInt ∧ (f (3 * k)).toInt ≤ 24) ∧ (0 ≤ (f (3 * k + 1)).toInt ∧ (f (3 * k + 1)).toInt ≤ 7) ∧ 1 ≤ (f (3 * k + 2)).toInt ∧ (f (3 * k + 2)).toInt ≤ 9
section SP31
variable {d n m : Nat} {u : Nat → Nat → Int32} {mi : am_MI} {ml : am_ML} {R : am_R} {Q : Int32 → Int32 → am_MI → am_ML → Prop} {s nb q l p : Nat} {f : Nat → Int32}
theorem am_sta_on {a b : am_MI} (h : am_sta a) (he : ∀ c j, 114 ≤ c → b c j = a c j) : am_sta b := by
  obtain ⟨s1, s2, s3, s4, s5, s6, s7, s8, s9, s10⟩ := h
  exact ⟨fun j hj => ⟨(he 114 j (by omega)).trans (s1 j hj).1, (he 115 j (by omega)).trans (s1 j hj).2⟩, (he 116 0 (by omega)).trans s2, (he 116 1 (by omega)).trans s3, (he 116 2 (by omega)).trans s4, (he 116 3 (by omega)).trans s5, (he 116 4 (by omega)).trans s6, (he 116 5 (by omega)).trans s7, (he 116 6 (by omega)).trans s8, (he 116 7 (by omega)).trans s9, by rw [he 117 100000 (by omega)]; exact s10⟩
/-- at, a place that is there -/
theorem sp_103 {x : Int32} {j : Nat} (hs : s < 6) (hl : l ≤ 60) (e : mi (66 + 2 * s) 3 = nI l) (hj : j < l) (hx : x = nI j) (h : R (some (.long (ml (67 + 2 * s) j))) mi ml) : am_call (d + 2) 103 [.ref (66 + 2 * s), .int x] mi ml R := by
  obtain ⟨c1, c2, c3, c4⟩ := am_shc s hs
  refine bk_103 (am_need_o hs rfl (sp_101 hs hl e (fun j2 hj2 e2 => am_ri_i (am_y (am_need_o hs rfl ?_))) (fun g => ?_)))
  · rw [c2]
    refine am_need_k hs ?_
    rw [c4, hx, nI_clamp (by omega)]
    exact ⟨vp_in_nI (by omega) (by omega), h⟩
  · rw [hx, am_ti (by omega)] at g
    omega
end SP31
