/-! the fresh object -/
def cw_u : Nat → Nat → Int32 := fun w _ => if w = 9 then 1 else 0
section SP89n
variable {L : Nat} {xs : Nat → Int32} {q φ : Int32} {b : am_MI}
theorem cw_o {c j : Nat} (hc : 78 ≤ c) : am_us cw_L (nw_mi L xs q φ) c j = nw_mi L xs q φ c j := by
  have z : am_us cw_L (nw_mi L xs q φ) c = nw_mi L xs q φ c := am_us_o cw_L (List.all_eq_true.mpr (fun q hq => by
    have key : ∀ q ∈ cw_L, q.1 < 78 := by decide +kernel
    have := key q hq
    simp
    omega))
  rw [z]
theorem cw_e (hb : ∀ c j, c < 138 → b c j = am_us cw_L (nw_mi L xs q φ) c j) {c j : Nat} {x : Int32} (hc : c < 78) (h : am_us cw_L cw_z c j = x) : b c j = x :=
  (hb c j (by omega)).trans ((am_us_c cw_L (nw_mi_0 hc)).trans h)
theorem cw_Q (hL : L ≤ 260) (hb : ∀ c j, c < 138 → b c j = am_us cw_L (nw_mi L xs q φ) c j) : dq_Q [] cw_u 0 0 b := by
  have E := fun {c j : Nat} {x : Int32} (hc : c < 78) (h : am_us cw_L cw_z c j = x) => cw_e hb hc h
  have out : ∀ c j, 78 ≤ c → c < 138 → b c j = nw_mi L xs q φ c j := fun c j h1 h2 => (hb c j h2).trans (cw_o h1)
  have hs2 : am_sta b := by
    obtain ⟨h0, h1, h2, h3, h4, h5, h6, h7, h8, h9⟩ := nw_sta (L := L) (xs := xs) (q := q) (φ := φ) hL
    have o6 := fun j => out 116 j (by omega) (by omega)
    exact ⟨fun j hj => ⟨(out 114 j (by omega) (by omega)).trans (h0 j hj).1, (out 115 j (by omega) (by omega)).trans (h0 j hj).2⟩, (o6 0).trans h1, (o6 1).trans h2, (o6 2).trans h3, (o6 3).trans h4, (o6 4).trans h5, (o6 5).trans h6, (o6 6).trans h7, (o6 7).trans h8, by rw [out 117 100000 (by omega) (by omega)]; exact h9⟩
  have hx2 : am_txs b := am_txs_on nw_txs (fun c j h1 h2 => out c j (by omega) (by omega))
  refine ⟨⟨⟨trivial, by decide, E (by decide) (by decide +kernel), fun j hj => absurd hj (Nat.not_lt_zero j), am_txs_w hx2⟩, ⟨by omega, by omega, E (by decide) (by decide +kernel), E (by decide) (by decide +kernel), fun w i hv => ?_⟩, trivial, fun w i hv => ?_⟩, hs2, hx2, Or.inr ?_, Or.inr ?_⟩
  · have h : (w = 8 ∨ w = 9) ∧ i = 0 := by unfold am_val at hv; omega
    obtain ⟨h1, h2⟩ := h
    subst h2
    rcases h1 with e | e <;> subst e
    · exact E (by decide) (by decide +kernel)
    · exact E (by decide) (by decide +kernel)
  · have h : (w = 8 ∨ w = 9) ∧ i = 0 := by unfold am_val at hv; omega
    obtain ⟨h1, h2⟩ := h
    subst h2
    rcases h1 with e | e <;> subst e
    · exact ⟨0, by decide, by decide, rfl⟩
    · exact ⟨1, by decide, by decide, rfl⟩
  · rw [E (c := 22) (j := 2) (x := -1) (by decide) (by decide +kernel), E (c := 1) (j := 3) (x := 0) (by decide) (by decide +kernel), E (c := 15) (j := 7) (x := 0) (by decide) (by decide +kernel)]
    decide
  · rw [E (c := 47) (j := 2) (x := -1) (by decide) (by decide +kernel), E (c := 1) (j := 3) (x := 0) (by decide) (by decide +kernel), E (c := 15) (j := 7) (x := 0) (by decide) (by decide +kernel)]
    decide
theorem cw_E (hL : L ≤ 260) (hb : ∀ c j, c < 138 → b c j = am_us cw_L (nw_mi L xs 37 φ) c j) (h1 : b 138 1 = 0) : dw_E 0 0 0 b := by
  have E := fun {c j : Nat} {x : Int32} (hc : c < 78) (h : am_us cw_L cw_z c j = x) => cw_e hb hc h
  have z912 : ∀ i, i < 12 → am_us cw_L cw_z 9 i = 0 ∧ am_us cw_L cw_z 10 i = 0 := by decide +kernel
  have z60 : ∀ i, i < 12 → am_us cw_L cw_z 60 i = -2 := by decide +kernel
  have z59 : ∀ i, i < 6 → 2 ≤ i → am_us cw_L cw_z 59 i = 0 := by decide +kernel
  refine ⟨⟨cw_u, cw_Q hL hb, ⟨0, 0, E (by decide) (by decide +kernel), E (by decide) (by decide +kernel), by omega⟩, ⟨0, by omega, E (by decide) (by decide +kernel)⟩, ⟨fun j hj => E (by decide) (z60 j hj), fun j h1 h2 => E (by decide) (z59 j (by omega) h1)⟩, E (by decide) (by decide +kernel)⟩, fun i _ hi => ⟨E (by decide) (z912 i hi).1, E (by decide) (z912 i hi).2⟩, ?_, h1⟩
  rw [hb 78 100000 (by decide), cw_o (by decide)]
  rfl
/-- what the temporary objects answer -/
theorem cw_brl : dq_brl [] cw_u 0 0 = 0 := by
  have hU : ∀ r, am_ufr [] cw_u 0 0 r = am_ufr [] cw_u 0 0 0 := fun r => rfl
  have hT : ∀ r, am_tgr [] cw_u 0 0 r = am_tgr [] cw_u 0 0 0 := fun r => rfl
  have lt : ∀ x : Int32, ¬ x < x := fun x h => by
    rw [am_lt_i] at h
    omega
  have key : ∀ k, am_brl (am_ufr [] cw_u 0 0) (am_tgr [] cw_u 0 0) k = 0 := by
    intro k
    induction k with
    | zero => rfl
    | succ k ih =>
      unfold am_brl
      rw [ih, hU (k + 1), hT (k + 1), if_neg (lt _), if_neg (fun h => lt _ h.2)]
  exact key 4
theorem ct_back {d : Nat} {R : am_R} {ml : am_ML} (hb : ∀ c j, c < 138 → b c j = am_us cw_L (nw_mi L xs q φ) c j) (h : R (some (.int (-5))) b ml) : am_call (d + 2) 150 [.ref 0] b ml R :=
  dq_150n (cw_e hb (by decide) (by decide +kernel)) h
theorem ct_image {d : Nat} {R : am_R} {ml : am_ML} (hb : ∀ c j, c < 138 → b c j = am_us cw_L (nw_mi L xs q φ) c j) (h : ∀ m2, R (some (.int 0)) m2 ml) : am_call (d + 2) 149 [.ref 0] b ml R := by
  refine dq_149 (fun m2 _ _ _ _ _ _ _ _ _ => ?_)
  rw [cw_e hb (c := 59) (j := 3) (x := 0) (by decide) (by decide +kernel)]
  exact h m2
theorem ct_day {d : Nat} {R : am_R} {ml : am_ML} (hb : ∀ c j, c < 138 → b c j = am_us cw_L (nw_mi L xs q φ) c j) (h : ∀ m2, R (some (.int 1)) m2 ml) : am_call (d + 2) 145 [.ref 0] b ml R :=
  dq_145 (t := 0) (by omega) (cw_e hb (by decide) (by decide +kernel)) (fun w => absurd w (by omega)) (fun _ => h _)
theorem ct_open {d : Nat} {R : am_R} {ml : am_ML} (hL : L ≤ 260) (hb : ∀ c j, c < 138 → b c j = am_us cw_L (nw_mi L xs q φ) c j) (h : R (some (.int (-1))) b ml) : am_call (d + 11) 146 [.ref 0, .int 0, .int 0] b ml R :=
  dq_146c (cw_Q hL hb) h
theorem ct_best {d : Nat} {R : am_R} {ml : am_ML} (hL : L ≤ 260) (hb : ∀ c j, c < 138 → b c j = am_us cw_L (nw_mi L xs q φ) c j) (h : ∀ m2, R (some (.int 0)) m2 ml) : am_call (d + 11) 129 [.ref 0, .int 0] b ml R :=
  dq_129a (cw_Q hL hb) (fun m2 _ _ => by
    rw [cw_brl]
    exact h m2)
theorem ct_drawn {d : Nat} {R : am_R} {ml : am_ML} (hL : L ≤ 260) (hb : ∀ c j, c < 138 → b c j = am_us cw_L (nw_mi L xs q φ) c j) (h : ∀ m2, R (some (.int 0)) m2 ml) : am_call (d + 11) 144 [.ref 0, .int 1, .int 1, .int (-1)] b ml R :=
  dq_144 (N := 1) (cw_Q hL hb) (by omega) (by omega) rfl (fun m2 _ _ => by
    rw [am_drs_0]
    exact h m2)
end SP89n
