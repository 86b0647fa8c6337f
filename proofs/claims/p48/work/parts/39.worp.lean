/-! worth late and eaten on both sides; pairs: worth, open -/
theorem am_xl_p : ∀ {P : List (List Nat × List Nat)}, P ≠ [] → 0 < (am_xl P).length
  | [], h => absurd rfl h
  | ([], e) :: r, _ => by
    simp only [am_xl, List.length_append, List.length_cons]
    omega
  | (t :: c, e) :: r, _ => by
    simp only [am_xl, List.length_append, List.length_cons]
    omega
def am_FW : Nat → Nat → Bool := fun c j => decide (c = 19 ∨ c = 21 ∨ (c = 15 ∧ j = 9))
def am_FWM : Nat → Nat → Bool := fun c j => decide (c = 19 ∨ c = 21 ∨ (c = 15 ∧ j = 9) ∨ c = 98 ∨ c = 99)
/-- as it is eaten -/
def am_ea (P : List (List Nat × List Nat)) (u : Nat → Nat → Int32) (a b : Nat) (z : Int32) : Int32 := if am_nev u a b then 0 else if z = 0 then 0 else am_wo P u a b z (am_lat u a b)
theorem am_lat_p {n m : Nat} {u : Nat → Nat → Int32} {a b : Nat} (hr : am_ur n m u) (ha : a < m) (hb : b < n) : 0 ≤ (am_lat u a b).toInt := by
  unfold am_lat
  by_cases q : am_aw u a (u 0 b)
  · rw [if_pos q]
    obtain ⟨k0, l0, h0, e0⟩ := hr 0 b (am_vd (by omega) hb)
    obtain ⟨k7, l7, h7, e7⟩ := hr 7 a (am_vc (by omega) (by omega) ha)
    have g0 : k0 ≤ 24 := h0
    have g7 : k7 ≤ 24 := h7
    have q3 := q.2.2
    rw [e0, e7, am_ti (by omega), am_ti (by omega)] at q3
    rw [e0, e7, nI_1, show nI (k7 + 1) - nI k0 = nI (k7 + 1 - k0) from pk_sub (by omega), am_ti (by omega)]
    omega
  · rw [if_neg q]
    decide
section SP39
variable {d n m : Nat} {u : Nat → Nat → Int32} {mi : am_MI} {ml : am_ML} {R : am_R} {P : List (List Nat × List Nat)} {Q : Int32 → Int32 → am_MI → am_ML → Prop}
theorem sp_68 (hl : am_lwr P mi) (h1 : P ≠ [] → R (some (.int 1)) mi ml) (h0 : P = [] → R (some (.int 0)) mi ml) : am_call (d + 1) 68 [.ref 15] mi ml R := by
  obtain ⟨-, g4, g8, -⟩ := hl
  refine bk_68 ?_
  rw [g8]
  by_cases q : P = []
  · refine ⟨fun _ => ⟨am_b0, h0 q⟩, fun w => absurd ?_ w⟩
    rw [q]
    decide
  · have p := am_xl_p q
    refine ⟨fun w => ?_, fun _ => ⟨am_b1, h1 q⟩⟩
    rw [am_le_i, am_ti (by omega), am_l0] at w
    omega
theorem am_cx_kW {a b : am_MI} (h : am_cx n m u a) (hk : am_kp am_FWM a b) : am_cx n m u b := am_cx_on h (hk 1 1 rfl) (hk 1 2 rfl) (fun w i hw => hk _ _ (decide_eq_false (by omega)))
theorem am_lwr_kW {a b : am_MI} (h : am_lwr P a) (hk : am_kp am_FWM a b) : am_lwr P b := am_lwr_on h (hk _ _ rfl) (hk _ _ rfl) (hk _ _ rfl) (fun j => hk _ _ rfl) (fun c j q1 q2 => hk _ _ (decide_eq_false (by omega))) (hk _ _ rfl) (fun j => hk _ _ rfl)
theorem am_kW_x {a b : am_MI} (h : am_kp am_FW a b) : am_kp am_FWM a b := am_kp_w h (fun c j q => by
  have q := of_decide_eq_false q
  exact decide_eq_false (by omega))
theorem am_kW_m {a b : am_MI} (h : am_kp am_F98b a b) : am_kp am_FWM a b := am_kp_w h (fun c j q => by
  have q := of_decide_eq_false q
  exact decide_eq_false (by omega))
/-- worthLate -/
theorem sp_116 {x y z v : Int32} {a b : Nat} (hl : am_lwr P mi) (hc : am_cx n m u mi) (ha : a < m) (hb : b < n) (hx : x = nI a) (hy : y = nI b) (h : ∀ m3, am_kp am_FW mi m3 → R (some (.int (am_wo P u a b z v))) m3 ml) : am_call (d + 7) 116 [.ref 20, .int x, .int y, .int z, .int v] mi ml R := by
  subst hx
  subst hy
  have c0 : (0 : Int32).toNatClampNeg = 0 := rfl
  have c1 : (1 : Int32).toNatClampNeg = 1 := rfl
  have c2 : (2 : Int32).toNatClampNeg = 2 := rfl
  have c3 : (3 : Int32).toNatClampNeg = 3 := rfl
  have c4 : (4 : Int32).toNatClampNeg = 4 := rfl
  have c5 : (5 : Int32).toNatClampNeg = 5 := rfl
  have main : ∀ s : Int32, s = am_lik u a b → am_wp (am_call (d + 6)) mt_116 R 14 [some (.ref 20), some (.int (nI a)), some (.int (nI b)), some (.int z), some (.int v), none] [.int s] mi ml := by
    intro s hs
    refine bk_116_14 (sp_68 hl (fun hp => am_ri_i (am_yn ⟨am_vp (by decide) (by decide), am_vp (by decide) (by decide), ?_⟩)) (fun hp => am_ri_i (am_nn ?_)))
    · rw [c0, c1, c2, c3, c4, c5]
      have k1 : am_kp am_FWM mi (am_ui (am_ui mi 21 0 z) 21 1 s) := am_kp_u (am_kp_u am_kp_r rfl) rfl
      refine sp_4c (am_cx_kW hc k1) (w := 0) rfl rfl (am_vd (by omega) hb) (am_ri_i ⟨am_vp (by decide) (by decide), ?_⟩)
      have k2 := am_kp_u (c := 21) (j := 2) (x := u 0 b) k1 rfl
      refine sp_4c (am_cx_kW hc k2) (w := 3) rfl rfl (am_vc (by omega) (by omega) ha) (am_ri_i ⟨am_vp (by decide) (by decide), am_vp (by decide) (by decide), ?_⟩)
      have k3 := am_kp_u (c := 21) (j := 4) (x := v) (am_kp_u (c := 21) (j := 3) (x := u 3 a) k2 rfl) rfl
      refine sp_4c (am_cx_kW hc k3) (w := 8) rfl rfl (am_vs (by omega) (by omega)) (am_ri_i ⟨am_vp (by decide) (by decide), ?_⟩)
      have k4 := am_kp_u (c := 21) (j := 5) (x := u 8 0) k3 rfl
      have k5 : am_kp am_FW mi (am_ui (am_ui (am_ui (am_ui (am_ui (am_ui mi 21 0 z) 21 1 s) 21 2 (u 0 b)) 21 3 (u 3 a)) 21 4 v) 21 5 (u 8 0)) := am_kp_u (am_kp_u (am_kp_u (am_kp_u (am_kp_u (am_kp_u am_kp_r rfl) rfl) rfl) rfl) rfl) rfl
      refine sp_78 (σ := am_nm u a b z v) (am_lwr_kW hl k4) (fun t ht => ?_) (fun m3 k => am_ri_i ?_)
      · have : t = 0 ∨ t = 1 ∨ t = 2 ∨ t = 3 ∨ t = 4 ∨ t = 5 := by omega
        rcases this with e | e | e | e | e | e <;> subst e
        · rw [am_ui_n (by omega), am_ui_n (by omega), am_ui_n (by omega), am_ui_n (by omega), am_ui_n (by omega), am_ui_k]
          rfl
        · rw [am_ui_n (by omega), am_ui_n (by omega), am_ui_n (by omega), am_ui_n (by omega), am_ui_k]
          exact hs
        · rw [am_ui_n (by omega), am_ui_n (by omega), am_ui_n (by omega), am_ui_k]
          rfl
        · rw [am_ui_n (by omega), am_ui_n (by omega), am_ui_k]
          rfl
        · rw [am_ui_n (by omega), am_ui_k]
          rfl
        · rw [am_ui_k]
          rfl
      · have z2 := h m3 (am_kp_t k5 (am_kp_w k (fun c j q => decide_eq_false (by have := of_decide_eq_false q; omega))))
        unfold am_wo at z2
        rw [if_neg hp] at z2
        exact z2
    · refine sp_4c hc (w := 9) rfl rfl (am_vs (by omega) (by omega)) (am_ri_i ?_)
      have z2 := h mi am_kp_r
      unfold am_wo at z2
      rw [if_pos hp] at z2
      rw [hs]
      exact z2
  refine bk_116 (sp_4c hc (w := 1) rfl rfl (am_vd (by omega) hb) (am_ri_i (sp_4c hc (w := 4) rfl rfl (am_vc (by omega) (by omega) ha) (am_ri_i ⟨fun q => main 0 ?_, fun q => main 1 ?_⟩))))
  · unfold am_lik
    rw [if_neg q]
  · unfold am_lik
    rw [if_pos (Decidable.not_not.mp q)]
/-- worthEaten -/
theorem sp_117 {x y z : Int32} {a b : Nat} (hl : am_lwr P mi) (hc : am_cx n m u mi) (hr : am_ur n m u) (ha : a < m) (hb : b < n) (hx : x = nI a) (hy : y = nI b) (h : ∀ m3, am_kp am_FW mi m3 → R (some (.int (am_ea P u a b z))) m3 ml) : am_call (d + 8) 117 [.ref 20, .int x, .int y, .int z] mi ml R := by
  refine bk_117 (sp_9 hc hr ha hb hx hy (fun q => am_ri_i ⟨fun _ => ?_, fun w => absurd rfl w⟩) (fun q => am_ri_i ⟨fun w => ?_, fun _ => ⟨fun g => sp_116 hl hc ha hb hx hy (fun m3 k => am_ri_i ?_), fun g => ?_⟩⟩))
  · have z2 := h mi am_kp_r
    unfold am_ea at z2
    rw [if_pos q] at z2
    exact z2
  · exfalso
    have := am_lat_p hr ha hb
    rw [w] at this
    exact absurd this (by decide)
  · have z2 := h m3 k
    unfold am_ea at z2
    rw [if_neg q, if_neg g] at z2
    exact z2
  · have z2 := h mi am_kp_r
    unfold am_ea at z2
    rw [if_neg q, if_pos (Decidable.not_not.mp g)] at z2
    exact z2
/-- lateFor -/
theorem sp_17 {x : Int32} {b : Nat} (hc : am_cx n m u mi) (hb : b < n) (hx : x = nI b) (h : R (some (.int (am_max 0 (mi 59 2 - u 0 b)))) mi ml) : am_call (d + 2) 17 [.ref 59, .int x] mi ml R :=
  bk_17 (sp_4c hc (w := 0) rfl hx (am_vd (by omega) hb) (am_ri_i h))
def am_F18 : Nat → Nat → Bool := fun c j => decide (c = 60 ∨ (c = 59 ∧ (j = 3 ∨ j = 4 ∨ j = 5)))
/-- openDoor -/
theorem sp_18 {x y z : Int32} {b : Nat} (hc : am_cx n m u mi) (hb : b < n) (hy : y = nI b) (h : ∀ m2, am_kp am_F18 mi m2 → (∀ j, m2 60 j = upd (mi 60) b x j) → m2 59 3 = mi 59 3 + 1 → m2 59 4 = (if u 0 b ≤ mi 59 2 then mi 59 4 else mi 59 4 + 1) → m2 59 5 = mi 59 5 + z → R none m2 ml) : am_call (d + 2) 18 [.ref 59, .int x, .int y, .int z] mi ml R := by
  subst hy
  have hn := hc.1
  have f2 : (Int32.ofNat 12).toInt = 12 := rfl
  refine bk_18 ⟨fun w => ?_, fun _ => ⟨fun _ => ⟨vp_in_nI (by omega) (by omega), ?_⟩, fun w => ?_⟩⟩
  · exfalso
    rw [am_lt_i, am_ti (by omega), am_l0] at w
    omega
  · rw [nI_clamp (by omega)]
    generalize hM : am_ui (am_ui (am_ui mi 60 b x) 59 3 (mi 59 3 + 1)) 59 5 (mi 59 5 + z) = M
    have kM : am_kp am_F18 mi M := by
      rw [← hM]
      exact am_kp_u (am_kp_u (am_kp_u am_kp_r rfl) rfl) rfl
    have e60 : ∀ j, M 60 j = upd (mi 60) b x j := fun j => by
      rw [← hM, am_ui_c (by decide), am_ui_c (by decide)]
      unfold upd
      by_cases e : j = b
      · rw [if_pos e, e, am_ui_k]
      · rw [if_neg e, am_ui_n (fun _ w => e w)]
    have e3 : M 59 3 = mi 59 3 + 1 := by rw [← hM, am_ui_n (by omega), am_ui_k]
    have e4 : M 59 4 = mi 59 4 := by rw [← hM, am_ui_n (by omega), am_ui_n (by omega), am_ui_c (by decide)]
    have e5 : M 59 5 = mi 59 5 + z := by rw [← hM, am_ui_k]
    have e2 : M 59 2 = mi 59 2 := kM 59 2 rfl
    refine sp_4c (am_cx_on hc (kM 1 1 rfl) (kM 1 2 rfl) (fun w i hw => kM _ _ (decide_eq_false (by omega)))) (w := 0) rfl rfl (am_vd (by omega) hb) (am_ri_i ?_)
    rw [e2]
    refine ⟨fun q => h M kM e60 e3 ?_ e5, fun q => h _ (am_kp_u kM rfl) (fun j => ?_) ?_ ?_ ?_⟩
    · rw [if_pos q, e4]
    · rw [am_ui_c (by decide)]
      exact e60 j
    · rw [am_ui_n (by omega), e3]
    · rw [if_neg q, am_ui_k, e4]
    · rw [am_ui_n (by omega), e5]
  · exfalso
    rw [am_lt_i, am_ti (by omega), f2] at w
    omega
def am_F28 : Nat → Nat → Bool := fun c j => decide (c = 19 ∨ c = 21 ∨ (c = 15 ∧ j = 9) ∨ c = 98 ∨ c = 99 ∨ c = 60 ∨ (c = 59 ∧ (j = 3 ∨ j = 4 ∨ j = 5)) ∨ c = 82 ∨ c = 100)
theorem am_kW_28 {a b : am_MI} (h : am_kp am_FWM a b) : am_kp am_F28 a b := am_kp_w h (fun c j q => by
  have q := of_decide_eq_false q
  exact decide_eq_false (by omega))
theorem am_k18_28 {a b : am_MI} (h : am_kp am_F18 a b) : am_kp am_F28 a b := am_kp_w h (fun c j q => by
  have q := of_decide_eq_false q
  exact decide_eq_false (by omega))
end SP39
