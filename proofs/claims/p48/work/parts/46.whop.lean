/-! pairs: whose, all -/
def am_fvn (P : List (List Nat × List Nat)) (u : Nat → Nat → Int32) (n m : Nat) (mi : am_MI) : Prop := am_fre P u n m mi ∨ (mi 22 2).toInt < (mi 1 3 + mi 15 7).toInt
/-- all that what is kept hangs on is the same -/
def am_sfr (a b : am_MI) : Prop := ∀ c j, (c = 1 ∨ c = 15 ∨ 22 ≤ c) → ((23 ≤ c ∧ c ≤ 42) ∨ (c = 22 ∧ j = 2) ∨ (c = 1 ∧ j = 3) ∨ (c = 15 ∧ j = 7)) → b c j = a c j
def am_FXG : Nat → Nat → Bool := fun c j => decide (c = 19 ∨ c = 21 ∨ (c = 15 ∧ j = 9) ∨ (c = 22 ∧ j = 2) ∨ c = 23 ∨ c = 24 ∨ (26 ≤ c ∧ c ≤ 30) ∨ (32 ≤ c ∧ c ≤ 36) ∨ (38 ≤ c ∧ c ≤ 43) ∨ c = 98 ∨ c = 99 ∨ c = 109 ∨ c = 110 ∨ c = 111 ∨ c = 112)
section SP46
variable {d n m : Nat} {u : Nat → Nat → Int32} {mi : am_MI} {ml : am_ML} {R : am_R} {r : Nat} {P : List (List Nat × List Nat)} {Q : Int32 → Int32 → am_MI → am_ML → Prop}
theorem am_kXX {a b : am_MI} (h : am_kp am_FX a b) : am_kp am_FXG a b := am_kp_w h (fun c j q => by
  have q := of_decide_eq_false q
  exact decide_eq_false (by omega))
theorem am_kXG {a b : am_MI} (h : am_kp am_FG a b) : am_kp am_FXG a b := am_kp_w h (fun c j q => by
  have q := of_decide_eq_false q
  exact decide_eq_false (by omega))
theorem am_fre_on {a b : am_MI} (hm : m ≤ 5) (h : am_fre P u n m a) (he : am_sfr a b) : am_fre P u n m b := by
  obtain ⟨h1, h2, h3, h4, h5⟩ := h
  have e1 : b 22 2 = a 22 2 := he 22 2 (by omega) (by omega)
  have e2 : b 1 3 = a 1 3 := he 1 3 (by omega) (by omega)
  have e3 : b 15 7 = a 15 7 := he 15 7 (by omega) (by omega)
  refine ⟨fun j hj => (he 23 j (by omega) (by omega)).trans (h1 j hj), fun j hj => (he 24 j (by omega) (by omega)).trans (h2 j hj), fun c i hc hi => (he _ i (by omega) (by omega)).trans (h3 c i hc hi), fun r hr => ⟨fun i hi => (he _ i (by omega) (by omega)).trans ((h4 r hr).1 i hi), fun c hc => (he _ c (by omega) (by omega)).trans ((h4 r hr).2 c hc)⟩, by rw [e1, e2, e3]; exact h5⟩
theorem am_fvn_u (h : am_fvn P u n m mi) (e : mi 22 2 = mi 1 3 + mi 15 7) : am_fre P u n m mi := h.resolve_right (fun q => by
  rw [e] at q
  omega)
theorem am_fvn_on {a b : am_MI} (hm : m ≤ 5) (h : am_fvn P u n m a) (he : am_sfr a b) : am_fvn P u n m b := by
  rcases h with h | h
  · exact Or.inl (am_fre_on hm h he)
  · refine Or.inr ?_
    have e1 : b 22 2 = a 22 2 := he 22 2 (by omega) (by omega)
    have e2 : b 1 3 = a 1 3 := he 1 3 (by omega) (by omega)
    have e3 : b 15 7 = a 15 7 := he 15 7 (by omega) (by omega)
    rw [e1, e2, e3]
    exact h
/-- fresh -/
theorem sp_166 (hl : am_lwr P mi) (hc : am_cx n m u mi) (hu : am_ur n m u) (hv : am_fvn P u n m mi)
    (h : ∀ m2, am_kp am_FX mi m2 → am_fre P u n m m2 → R (some (.ref 22)) m2 ml) : am_call (d + 10) 166 [.ref 0] mi ml R :=
  bk_166 (sp_30 hl hc hu (am_fvn_u hv) (fun m2 k2 f2 _ => am_rv_i (h m2 k2 f2)))
/-- isRule -/
theorem sp_163 {x : Int32} (h1 : ∀ k, k < 5 → x = nI k → R (some (.int 1)) mi ml) (h0 : (x.toInt < 0 ∨ 5 ≤ x.toInt) → R (some (.int 0)) mi ml) : am_call (d + 1) 163 [.int x] mi ml R := by
  refine bk_163 ⟨fun w => ⟨am_b0, h0 ?_⟩, fun w => ⟨fun w2 => ⟨am_b0, h0 ?_⟩, fun w2 => ⟨am_b1, ?_⟩⟩⟩
  · rw [am_lt_i, am_l0] at w
    exact Or.inl w
  · rw [am_le_i, am_l5] at w2
    exact Or.inr w2
  · rw [am_lt_i, am_l0] at w
    rw [am_le_i, am_l5] at w2
    obtain ⟨k, hk, e⟩ := am_nat (x := x) (n := 5) (by omega) (by omega)
    exact h1 k hk e
/-- owner, sumOf -/
theorem sp_38 {x y : Int32} {i : Nat} (hr : r < 5) (hi : i < 12) (hx : x = nI r) (hy : y = nI i) (h : R (some (.int (mi (32 + r) i))) mi ml) : am_call (d + 1) 38 [.ref 22, .int x, .int y] mi ml R := by
  subst hx
  subst hy
  obtain ⟨-, -, a1, a2, -⟩ := am_k38 r hr
  refine bk_38 ?_
  rw [nI_clamp (show r < 2 ^ 31 by omega), Nat.one_mul, am_len2 a1, a1, a2, nI_clamp (show i < 2 ^ 31 by omega)]
  exact ⟨vp_in_nI hr (by omega), am_need_i rfl ⟨vp_in_nI hi (by omega), h⟩⟩
theorem sp_39 {x y : Int32} {i : Nat} (hr : r < 5) (hi : i < 5) (hx : x = nI r) (hy : y = nI i) (h : R (some (.int (mi (38 + r) i))) mi ml) : am_call (d + 1) 39 [.ref 22, .int x, .int y] mi ml R := by
  subst hx
  subst hy
  obtain ⟨a1, a2, -⟩ := am_k38 r hr
  refine bk_39 ?_
  rw [nI_clamp (show r < 2 ^ 31 by omega), Nat.one_mul, am_len2 a1, a1, a2, nI_clamp (show i < 2 ^ 31 by omega)]
  exact ⟨vp_in_nI hr (by omega), am_need_i rfl ⟨vp_in_nI hi (by omega), h⟩⟩
/-- isRuleAndChild -/
theorem sp_164 {x : Int32} (hc : am_cx n m u mi) (h1 : ∀ r c, r < 5 → c < m → x = nI (10 * r + c) → R (some (.int 1)) mi ml) (h0 : (∀ r c, r < 5 → c < m → x = nI (10 * r + c) → False) → R (some (.int 0)) mi ml) : am_call (d + 2) 164 [.ref 0, .int x] mi ml R := by
  have hm5 := hc.2.1
  have n10 : ¬ (10 : Int32) = 0 := by decide
  by_cases hx : x < 0
  · refine bk_164 ⟨fun _ => ⟨am_b0, h0 (fun r c hr hc e => ?_)⟩, fun w => absurd hx w⟩
    rw [am_lt_i, e, am_ti (by omega), am_l0] at hx
    omega
  · obtain ⟨k, hk, e⟩ := am_nat (x := x) (n := 2 ^ 31) (by rw [am_lt_i, am_l0] at hx; omega) (by have := Int32.toInt_lt x; omega)
    subst e
    refine bk_164 ⟨fun w => absurd w hx, fun _ => ⟨n10, ?_⟩⟩
    rw [am_d10 hk, am_r10 hk]
    refine sp_163 (fun r hr er => am_ri_i (am_y ⟨n10, sp_1 hc (fun c hc ec => am_ri_i (am_y ⟨am_b1, h1 r c hr hc ?_⟩)) (fun g => am_ri_i (am_n0 ⟨am_b0, h0 (fun r2 c2 hr2 hc2 e2 => ?_)⟩))⟩)) (fun g => am_ri_i (am_n0 ⟨am_b0, h0 (fun r2 c2 hr2 hc2 e2 => ?_)⟩))
    · have a := (nI_eq (by omega) (by omega)).mp er
      have b := (nI_eq (by omega) (by omega)).mp ec
      rw [show 10 * r + c = k from by omega]
    · have a := (nI_eq (by omega) (by omega)).mp e2
      rw [am_ti (by omega)] at g
      omega
    · have a := (nI_eq (by omega) (by omega)).mp e2
      rw [am_ti (by omega)] at g
      omega
end SP46
