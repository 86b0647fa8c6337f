/-! worth late and eaten on both sides; pairs: worth, open -/
theorem am_xl_p : ∀ {P : List (List Nat × List Nat)}, P ≠ [] → 0 < (am_xl P).length
  | [], h => absurd rfl h
  | ([], e) :: r, _ => by
    simp only [am_xl, List.length_append, List.length_cons]
    omega
  | (t :: c, e) :: r, _ => by
    simp only [am_xl, List.length_append, List.length_cons]
    omega
def am_FW : Nat → Nat → Bool := fun c j => decide (c = 19 ∨ c = 21 ∨ (c = 15 ∧ j = 9))
def am_FWM : Nat → Nat → Bool := fun c j => decide (c = 19 ∨ c = 21 ∨ (c = 15 ∧ j = 9) ∨ c = 98 ∨ c = 99)
/-- as it is eaten -/
def am_ea (P : List (List Nat × List Nat)) (u : Nat → Nat → Int32) (a b : Nat) (z : Int32) : Int32 := if am_nev u a b then 0 else if z = 0 then 0 else am_wo P u a b z (am_lat u a b)
theorem am_lat_p {n m : Nat} {u : Nat → Nat → Int32} {a b : Nat} (hr : am_ur n m u) (ha : a < m) (hb : b < n) : 0 ≤ (am_lat u a b).toInt := by
  unfold am_lat
  by_cases q : am_aw u a (u 0 b)
  · rw [if_pos q]
    obtain ⟨k0, l0, h0, e0⟩ := hr 0 b (am_vd (by omega) hb)
    obtain ⟨k7, l7, h7, e7⟩ := hr 7 a (am_vc (by omega) (by omega) ha)
    have g0 : k0 ≤ 24 := h0
    have g7 : k7 ≤ 24 := h7
    have q3 := q.2.2
    rw [e0, e7, am_ti (by omega), am_ti (by omega)] at q3
    rw [e0, e7, nI_1, show nI (k7 + 1) - nI k0 = nI (k7 + 1 - k0) from pk_sub (by omega), am_ti (by omega)]
    omega
  · rw [if_neg q]
    decide
section SP39
variable {d n m : Nat} {u : Nat → Nat → Int32} {mi : am_MI} {ml : am_ML} {R : am_R} {P : List (List Nat × List Nat)} {Q : Int32 → Int32 → am_MI → am_ML → Prop}
theorem sp_68 (hl : am_lwr P mi) (h1 : P ≠ [] → R (some (.int 1)) mi ml) (h0 : P = [] → R (some (.int 0)) mi ml) : am_call (d + 1) 68 [.ref 15] mi ml R := by
  obtain ⟨-, -, -, g4, -, -, -, g8, -⟩ := hl
  refine bk_68 ?_
  rw [g8]
  by_cases q : P = []
  · refine ⟨fun _ => ⟨am_b0, h0 q⟩, fun w => absurd ?_ w⟩
    rw [q]
    decide
  · have p := am_xl_p q
    refine ⟨fun w => ?_, fun _ => ⟨am_b1, h1 q⟩⟩
    rw [am_le_i, am_ti (by omega), am_l0] at w
    omega
theorem am_cx_kW {a b : am_MI} (h : am_cx n m u a) (hk : am_kp am_FWM a b) : am_cx n m u b := am_cx_on h (hk 1 1 rfl) (hk 1 2 rfl) (fun w i hw => hk _ _ (decide_eq_false (by omega)))
theorem am_cm_kW {a b : am_MI} (h : am_cm n m u a) (hk : am_kp am_FWM a b) : am_cm n m u b := by
  refine ⟨h.1, h.2.1, (hk 78 0 rfl).trans h.2.2.1, (hk 78 5 rfl).trans h.2.2.2.1, fun w i hv => ?_⟩
  have hr := am_mc_r w (by unfold am_val at hv; omega)
  exact (hk _ _ (decide_eq_false (by omega))).trans (h.2.2.2.2 w i hv)
theorem am_lwr_kW {a b : am_MI} (h : am_lwr P a) (hk : am_kp am_FWM a b) : am_lwr P b := am_lwr_on h (hk _ _ rfl) (hk _ _ rfl) (hk _ _ rfl) (fun j => hk _ _ rfl) (fun c j q1 q2 => hk _ _ (decide_eq_false (by omega))) (hk _ _ rfl) (fun j => hk _ _ rfl)
theorem am_kW_x {a b : am_MI} (h : am_kp am_FW a b) : am_kp am_FWM a b := am_kp_w h (fun c j q => by
  have q := of_decide_eq_false q
  exact decide_eq_false (by omega))
theorem am_kW_m {a b : am_MI} (h : am_kp am_F98b a b) : am_kp am_FWM a b := am_kp_w h (fun c j q => by
  have q := of_decide_eq_false q
  exact decide_eq_false (by omega))
/-- worthLate -/
theorem sp_116 {x y z v : Int32} {a b : Nat} (hl : am_lwr P mi) (hc : am_cx n m u mi) (ha : a < m) (hb : b < n) (hx : x = nI a) (hy : y = nI b) (h : ∀ m3, am_kp am_FW mi m3 → R (some (.int (am_wo P u a b z v))) m3 ml) : am_call (d + 7) 116 [.ref 20, .int x, .int y, .int z, .int v] mi ml R := by
  subst hx
  subst hy
  have c0 : (0 : Int32).toNatClampNeg = 0 := rfl
  have c1 : (1 : Int32).toNatClampNeg = 1 := rfl
  have c2 : (2 : Int32).toNatClampNeg = 2 := rfl
  have c3 : (3 : Int32).toNatClampNeg = 3 := rfl
  have c4 : (4 : Int32).toNatClampNeg = 4 := rfl
  have c5 : (5 : Int32).toNatClampNeg = 5 := rfl
  have main : ∀ s : Int32, s = am_lik u a b → am_wp (am_call (d + 6)) mt_116 R 14 [some (.ref 20), some (.int (nI a)), some (.int (nI b)), some (.int z), some (.int v), none] [.int s] mi ml := by
    intro s hs
    refine bk_116_14 (sp_68 hl (fun hp => am_ri_i (am_yn ⟨am_vp (by decide) (by decide), am_vp (by decide) (by decide), ?_⟩)) (fun hp => am_ri_i (am_nn ?_)))
    · rw [c0, c1, c2, c3, c4, c5]
      have k1 : am_kp am_FWM mi (am_ui (am_ui mi 21 0 z) 21 1 s) := am_kp_u (am_kp_u am_kp_r rfl) rfl
      refine sp_4c (am_cx_kW hc k1) (w := 0) rfl rfl (am_vd (by omega) hb) (am_ri_i ⟨am_vp (by decide) (by decide), ?_⟩)
      have k2 := am_kp_u (c := 21) (j := 2) (x := u 0 b) k1 rfl
      refine sp_4c (am_cx_kW hc k2) (w := 3) rfl rfl (am_vc (by omega) (by omega) ha) (am_ri_i ⟨am_vp (by decide) (by decide), am_vp (by decide) (by decide), ?_⟩)
      have k3 := am_kp_u (c := 21) (j := 4) (x := v) (am_kp_u (c := 21) (j := 3) (x := u 3 a) k2 rfl) rfl
      refine sp_4c (am_cx_kW hc k3) (w := 8) rfl rfl (am_vs (by omega) (by omega)) (am_ri_i ⟨am_vp (by decide) (by decide), ?_⟩)
      have k4 := am_kp_u (c := 21) (j := 5) (x := u 8 0) k3 rfl
      have k5 : am_kp am_FW mi (am_ui (am_ui (am_ui (am_ui (am_ui (am_ui mi 21 0 z) 21 1 s) 21 2 (u 0 b)) 21 3 (u 3 a)) 21 4 v) 21 5 (u 8 0)) := am_kp_u (am_kp_u (am_kp_u (am_kp_u (am_kp_u (am_kp_u am_kp_r rfl) rfl) rfl) rfl) rfl) rfl
      refine sp_78 (σ := am_nm u a b z v) (am_lwr_kW hl k4) (fun t ht => ?_) (fun m3 k => am_ri_i ?_)
      · have : t = 0 ∨ t = 1 ∨ t = 2 ∨ t = 3 ∨ t = 4 ∨ t = 5 := by omega
        rcases this with e | e | e | e | e | e <;> subst e
        · rw [am_ui_n (by omega), am_ui_n (by omega), am_ui_n (by omega), am_ui_n (by omega), am_ui_n (by omega), am_ui_k]
          rfl
        · rw [am_ui_n (by omega), am_ui_n (by omega), am_ui_n (by omega), am_ui_n (by omega), am_ui_k]
          exact hs
        · rw [am_ui_n (by omega), am_ui_n (by omega), am_ui_n (by omega), am_ui_k]
          rfl
        · rw [am_ui_n (by omega), am_ui_n (by omega), am_ui_k]
          rfl
        · rw [am_ui_n (by omega), am_ui_k]
          rfl
        · rw [am_ui_k]
          rfl
      · have z2 := h m3 (am_kp_t k5 (am_kp_w k (fun c j q => decide_eq_false (by have := of_decide_eq_false q; omega))))
        unfold am_wo at z2
        rw [if_neg hp] at z2
        exact z2
    · refine sp_4c hc (w := 9) rfl rfl (am_vs (by omega) (by omega)) (am_ri_i ?_)
      have z2 := h mi am_kp_r
      unfold am_wo at z2
      rw [if_pos hp] at z2
      rw [hs]
      exact z2
  refine bk_116 (sp_4c hc (w := 1) rfl rfl (am_vd (by omega) hb) (am_ri_i (sp_4c hc (w := 4) rfl rfl (am_vc (by omega) (by omega) ha) (am_ri_i ⟨fun q => main 0 ?_, fun q => main 1 ?_⟩))))
  · unfold am_lik
    rw [if_neg q]
  · unfold am_lik
    rw [if_pos (Decidable.not_not.mp q)]
/-- worthEaten -/
theorem sp_117 {x y z : Int32} {a b : Nat} (hl : am_lwr P mi) (hc : am_cx n m u mi) (hr : am_ur n m u) (ha : a < m) (hb : b < n) (hx : x = nI a) (hy : y = nI b) (h : ∀ m3, am_kp am_FW mi m3 → R (some (.int (am_ea P u a b z))) m3 ml) : am_call (d + 8) 117 [.ref 20, .int x, .int y, .int z] mi ml R := by
  refine bk_117 (sp_9 hc hr ha hb hx hy (fun q => am_ri_i ⟨fun _ => ?_, fun w => absurd rfl w⟩) (fun q => am_ri_i ⟨fun w => ?_, fun _ => ⟨fun g => sp_116 hl hc ha hb hx hy (fun m3 k => am_ri_i ?_), fun g => ?_⟩⟩))
  · have z2 := h mi am_kp_r
    unfold am_ea at z2
    rw [if_pos q] at z2
    exact z2
  · exfalso
    have := am_lat_p hr ha hb
    rw [w] at this
    exact absurd this (by decide)
  · have z2 := h m3 k
    unfold am_ea at z2
    rw [if_neg q, if_neg g] at z2
    exact z2
  · have z2 := h mi am_kp_r
    unfold am_ea at z2
    rw [if_neg q, if_pos (Decidable.not_not.mp g)] at z2
    exact z2
/-- the reference's isAway -/
theorem sp_206 {x z : Int32} {c : Nat} (hc : am_cm n m u mi) (hr : am_ur n m u) (hcm : c < m) (hx : x = nI c) (h1 : am_aw u c z → R (some (.int 1)) mi ml) (h0 : ¬ am_aw u c z → R (some (.int 0)) mi ml) : am_call (d + 2) 206 [.ref 78, .int x, .int z] mi ml R := by
  subst hx
  have hm := hc.2.1
  have cc : (nI c).toNatClampNeg = c := nI_clamp (by omega)
  have v5 : vp_in (nI c) 5 := vp_in_nI (by omega) (by omega)
  have u6 : mi 86 c = u 6 c := hc.2.2.2.2 6 c (am_vc (by omega) (by omega) hcm)
  have u7 : mi 87 c = u 7 c := hc.2.2.2.2 7 c (am_vc (by omega) (by omega) hcm)
  refine bk_206 ⟨v5, ?_⟩
  rw [cc, u6, u7]
  refine ⟨fun w => ⟨am_b0, h0 (fun q => ?_)⟩, fun w => ⟨v5, v5, sp_168 (fun a b => am_ri_i (am_y ⟨am_b1, h1 ⟨?_, a, b⟩⟩)) (fun g => am_ri_i (am_n0 ⟨am_b0, h0 (fun q => ?_)⟩))⟩⟩
  · have q := q.1
    rw [am_le_i, am_l0] at w
    omega
  · rw [am_le_i, am_l0] at w
    omega
  · have q := q.2
    omega
/-- the reference's late -/
theorem sp_207 {x z : Int32} {c i : Nat} (hc : am_cm n m u mi) (hr : am_ur n m u) (hcm : c < m) (hin : i < n) (hx : x = nI c) (hz : z = nI i) (h1 : am_nev u c i → R (some (.int (-2))) mi ml) (h0 : ¬ am_nev u c i → R (some (.int (am_lat u c i))) mi ml) : am_call (d + 3) 207 [.ref 78, .int x, .int z] mi ml R := by
  subst hx
  subst hz
  have hn := hc.1
  have hm := hc.2.1
  have cc : (nI c).toNatClampNeg = c := nI_clamp (by omega)
  have ci : (nI i).toNatClampNeg = i := nI_clamp (by omega)
  have v5 : vp_in (nI c) 5 := vp_in_nI (by omega) (by omega)
  have v24 : vp_in (nI i) 24 := vp_in_nI (by omega) (by omega)
  have u0 : mi 79 i = u 0 i := hc.2.2.2.2 0 i (am_vd (by omega) hin)
  have u7 : mi 87 c = u 7 c := hc.2.2.2.2 7 c (am_vc (by omega) (by omega) hcm)
  refine bk_207 ⟨v24, ?_⟩
  rw [ci, u0]
  refine sp_206 hc hr hcm rfl (fun q => am_ri_i (am_yn ⟨v5, ?_⟩)) (fun q => am_ri_i (am_nn ?_))
  · rw [cc, u7]
    refine ⟨fun w => ⟨v5, v24, ?_⟩, fun w => h1 ⟨q, ?_⟩⟩
    · have g := h0 (fun p => w (by rw [am_eq_i]; exact p.2))
      unfold am_lat at g
      rw [if_pos q] at g
      rw [u0]
      exact g
    · rw [Decidable.not_not.mp w]
      rfl
  · have g := h0 (fun p => q p.1)
    unfold am_lat at g
    rw [if_neg q] at g
    exact g
/-- the reference's eaten -/
theorem sp_208 {x y : Int32} {a b : Nat} (hl : am_lwr P mi) (hc : am_cm n m u mi) (hr : am_ur n m u) (ha : a < m) (hb : b < n) (hx : x = nI a) (hy : y = nI b) (h : ∀ m3, am_kp am_F98b mi m3 → R (some (.int (am_ea P u a b (u 2 b)))) m3 ml) : am_call (d + 4) 208 [.ref 78, .int x, .int y] mi ml R := by
  refine bk_208 (sp_207 hc hr ha hb hx hy (fun q => am_ri_i ⟨fun w => absurd rfl w, fun _ => ?_⟩) (fun q => am_ri_i ⟨fun _ => sp_204 hl hc ha hb hx hy (fun m3 k => am_ri_i ?_), fun w => ?_⟩))
  · have z2 := h mi am_kp_r
    unfold am_ea at z2
    rw [if_pos q] at z2
    exact z2
  · have z2 := h m3 k
    unfold am_ea at z2
    obtain ⟨k2, l2, h2, e2⟩ := hr 2 b (am_vd (by omega) hb)
    have l2 : 1 ≤ k2 := l2
    have h2 : k2 ≤ 9 := h2
    rw [if_neg q, if_neg (fun g => by
      rw [e2, am_eq_i, am_ti (by omega), am_l0] at g
      omega)] at z2
    exact z2
  · exfalso
    have := am_lat_p hr ha hb
    rw [Decidable.not_not.mp w] at this
    exact absurd this (by decide)
/-- worth -/
theorem pr_7 {x y : Int32} (hl : am_lwr P mi) (hc : am_cx n m u mi) (hm : am_cm n m u mi) (h : ∀ r mi2, am_kp am_FWM mi mi2 → Q r r mi2 ml) : am_pr (d + 8) 125 [.ref 0, .int x, .int y] 205 [.ref 78, .int x, .int y] mi ml Q := by
  have hn := hc.1
  have h0 : ∀ r, Q r r mi ml := fun r => h r mi am_kp_r
  have n100 : ¬ (100 : Int32) = 0 := by decide
  -- the reference refuses
  have bad : ((x.toInt < 0 ∨ m ≤ x.toInt) ∨ y < 0 ∨ ((y / 100).toInt < 0 ∨ n ≤ (y / 100).toInt) ∨ ¬ am_rem y 100 ≤ 24) → am_call (d + 8) 205 [.ref 78, .int x, .int y] mi ml (am_ri fun r2 mi2 ml2 => Q (-1) r2 mi2 ml2) := by
    intro g
    refine bk_205 (sp_170 hm (fun k hk e => am_ri_i (am_y ⟨fun _ => am_ri_i (h0 _), fun w => ⟨n100, sp_169 hm (fun k2 hk2 e2 => am_ri_i (am_y ⟨n100, fun w2 => ?_, fun _ => am_ri_i (h0 _)⟩)) (fun _ => am_ri_i (am_n0 (am_ri_i (h0 _))))⟩⟩)) (fun _ => am_ri_i (am_n0 (am_ri_i (h0 _)))))
    exfalso
    have hm5 := hm.2.1
    rcases g with g | g | g | g
    · rw [e, am_ti (by omega)] at g
      omega
    · exact w g
    · rw [e2, am_ti (by omega)] at g
      omega
    · exact g w2
  refine bk_125 ⟨fun w => ⟨n100, n100, sp_1 hc (fun a ha ea => am_ri_i (am_y (sp_0 hc (fun b hb eb => am_ri_i (am_y ⟨fun w2 => ?_, fun w2 => am_ri_i (bad (Or.inr (Or.inr (Or.inr w2))))⟩)) (fun g => am_ri_i (am_n0 (am_ri_i (bad (Or.inr (Or.inr (Or.inl g)))))))))) (fun g => am_ri_i (am_n0 (am_ri_i (bad (Or.inl g)))))⟩, fun w => am_ri_i (bad (Or.inr (Or.inl ?_)))⟩
  · refine sp_4c hc (w := 2) rfl eb (am_vd (by omega) hb) (am_ri_i (sp_116 hl hc ha hb ea eb (fun m3 k3 => am_ri_i (am_ri_i ?_))))
    have k3 := am_kW_x k3
    have hm3 := am_cm_kW hm k3
    have hm5 := hm.2.1
    refine bk_205 (sp_170 hm3 (fun k hk e => am_ri_i (am_y ⟨fun w3 => ?_, fun w3 => ⟨n100, sp_169 hm3 (fun k2 hk2 e2 => am_ri_i (am_y ⟨n100, fun w4 => ⟨n100, n100, ?_⟩, fun w4 => absurd w2 w4⟩)) (fun g => ?_)⟩⟩)) (fun g => ?_))
    · rw [am_lt_i, am_l0] at w3
      rw [am_le_i, am_l0] at w
      omega
    · exact sp_204 (am_lwr_kW hl k3) hm3 ha hb ea eb (fun m4 k4 => am_ri_i (am_ri_i (h _ _ (am_kp_t k3 (am_kW_m k4)))))
    · rw [eb, am_ti (by omega)] at g
      omega
    · rw [ea, am_ti (by omega)] at g
      omega
  · rw [am_le_i, am_l0] at w
    rw [am_lt_i, am_l0]
    omega
/-- lateFor -/
theorem sp_17 {x : Int32} {b : Nat} (hc : am_cx n m u mi) (hb : b < n) (hx : x = nI b) (h : R (some (.int (am_max 0 (mi 59 2 - u 0 b)))) mi ml) : am_call (d + 2) 17 [.ref 59, .int x] mi ml R :=
  bk_17 (sp_4c hc (w := 0) rfl hx (am_vd (by omega) hb) (am_ri_i h))
def am_F18 : Nat → Nat → Bool := fun c j => decide (c = 60 ∨ (c = 59 ∧ (j = 3 ∨ j = 4 ∨ j = 5)))
/-- openDoor -/
theorem sp_18 {x y z : Int32} {b : Nat} (hc : am_cx n m u mi) (hb : b < n) (hy : y = nI b) (h : ∀ m2, am_kp am_F18 mi m2 → (∀ j, m2 60 j = upd (mi 60) b x j) → m2 59 3 = mi 59 3 + 1 → m2 59 4 = (if u 0 b ≤ mi 59 2 then mi 59 4 else mi 59 4 + 1) → m2 59 5 = mi 59 5 + z → R none m2 ml) : am_call (d + 2) 18 [.ref 59, .int x, .int y, .int z] mi ml R := by
  subst hy
  have hn := hc.1
  have f2 : (Int32.ofNat 12).toInt = 12 := rfl
  refine bk_18 ⟨fun w => ?_, fun _ => ⟨fun _ => ⟨vp_in_nI (by omega) (by omega), ?_⟩, fun w => ?_⟩⟩
  · exfalso
    rw [am_lt_i, am_ti (by omega), am_l0] at w
    omega
  · rw [nI_clamp (by omega)]
    generalize hM : am_ui (am_ui (am_ui mi 60 b x) 59 3 (mi 59 3 + 1)) 59 5 (mi 59 5 + z) = M
    have kM : am_kp am_F18 mi M := by
      rw [← hM]
      exact am_kp_u (am_kp_u (am_kp_u am_kp_r rfl) rfl) rfl
    have e60 : ∀ j, M 60 j = upd (mi 60) b x j := fun j => by
      rw [← hM, am_ui_c (by decide), am_ui_c (by decide)]
      unfold upd
      by_cases e : j = b
      · rw [if_pos e, e, am_ui_k]
      · rw [if_neg e, am_ui_n (fun _ w => e w)]
    have e3 : M 59 3 = mi 59 3 + 1 := by rw [← hM, am_ui_n (by omega), am_ui_k]
    have e4 : M 59 4 = mi 59 4 := by rw [← hM, am_ui_n (by omega), am_ui_n (by omega), am_ui_c (by decide)]
    have e5 : M 59 5 = mi 59 5 + z := by rw [← hM, am_ui_k]
    have e2 : M 59 2 = mi 59 2 := kM 59 2 rfl
    refine sp_4c (am_cx_on hc (kM 1 1 rfl) (kM 1 2 rfl) (fun w i hw => kM _ _ (decide_eq_false (by omega)))) (w := 0) rfl rfl (am_vd (by omega) hb) (am_ri_i ?_)
    rw [e2]
    refine ⟨fun q => h M kM e60 e3 ?_ e5, fun q => h _ (am_kp_u kM rfl) (fun j => ?_) ?_ ?_ ?_⟩
    · rw [if_pos q, e4]
    · rw [am_ui_c (by decide)]
      exact e60 j
    · rw [am_ui_n (by omega), e3]
    · rw [if_neg q, am_ui_k, e4]
    · rw [am_ui_n (by omega), e5]
  · exfalso
    rw [am_lt_i, am_ti (by omega), f2] at w
    omega
def am_F28 : Nat → Nat → Bool := fun c j => decide (c = 19 ∨ c = 21 ∨ (c = 15 ∧ j = 9) ∨ c = 98 ∨ c = 99 ∨ c = 60 ∨ (c = 59 ∧ (j = 3 ∨ j = 4 ∨ j = 5)) ∨ c = 82 ∨ c = 100)
theorem am_kW_28 {a b : am_MI} (h : am_kp am_FWM a b) : am_kp am_F28 a b := am_kp_w h (fun c j q => by
  have q := of_decide_eq_false q
  exact decide_eq_false (by omega))
theorem am_k18_28 {a b : am_MI} (h : am_kp am_F18 a b) : am_kp am_F28 a b := am_kp_w h (fun c j q => by
  have q := of_decide_eq_false q
  exact decide_eq_false (by omega))
/-- open -/
theorem pr_28 {x y : Int32} (hl : am_lwr P mi) (hc : am_cx n m u mi) (hm : am_cm n m u mi) (hd : am_deeds n mi) (h : ∀ r mi2, am_deeds n mi2 → am_kp am_F28 mi mi2 → Q r r mi2 ml) : am_pr (d + 8) 146 [.ref 0, .int x, .int y] 249 [.ref 78, .int x, .int y] mi ml Q := by
  have hn := hc.1
  have hm5 := hm.2.1
  have h0 : ∀ r, Q r r mi ml := fun r => h r mi hd am_kp_r
  obtain ⟨t, ht, d1, d2, d3, d4, d5, d6, d7, d8⟩ := hd
  refine bk_146 (sp_1 hc (fun a ha ea => am_ri_i (am_y (sp_0 hc (fun b hb eb => am_ri_i (am_yn (sp_15 eb (by omega) (am_ri_i ⟨fun w => ?_, fun w => am_ri_i ?_⟩)))) (fun g => am_ri_i (am_nn (am_ri_i ?_)))))) (fun g => am_ri_i (am_n0 (am_ri_i ?_))))
  · -- closed as yet
    have w2 : mi 82 b = -2 := by rw [← d6 b hb]; exact w
    refine sp_4c hc (w := 2) rfl eb (am_vd (by omega) hb) (am_ri_i (sp_17 hc hb eb (am_ri_i (sp_116 hl hc ha hb ea eb (fun m3 k3 => am_ri_i ?_)))))
    have k3 := am_kW_x k3
    generalize hr : am_wo P u a b (u 2 b) (am_max 0 (mi 59 2 - u 0 b)) = r
    refine sp_18 (am_cx_kW hc k3) hb eb (fun m4 k4 s60 s3 s4 s5 => am_rv_i (am_ri_i ?_))
    have k34 := am_kp_t (am_kW_28 k3) (am_k18_28 k4)
    have hm4 : am_cm n m u m4 := by
      refine ⟨hm.1, hm.2.1, (k34 78 0 rfl).trans hm.2.2.1, (k34 78 5 rfl).trans hm.2.2.2.1, fun w i hv => ?_⟩
      have hr := am_mc_r w (by unfold am_val at hv; omega)
      exact (k34 _ _ (decide_eq_false (by omega))).trans (hm.2.2.2.2 w i hv)
    have hl4 : am_lwr P m4 := am_lwr_on hl (k34 _ _ rfl) (k34 _ _ rfl) (k34 _ _ rfl) (fun j => k34 _ _ rfl) (fun c j q1 q2 => k34 _ _ (decide_eq_false (by omega))) (k34 _ _ rfl) (fun j => k34 _ _ rfl)
    subst ea
    subst eb
    have cb : (nI b).toNatClampNeg = b := nI_clamp (by omega)
    have v12 : vp_in (nI b) 12 := vp_in_nI (by omega) (by omega)
    have v24 : vp_in (nI b) 24 := vp_in_nI (by omega) (by omega)
    have c0 : (0 : Int32).toNatClampNeg = 0 := rfl
    have c1 : (1 : Int32).toNatClampNeg = 1 := rfl
    have c2 : (2 : Int32).toNatClampNeg = 2 := rfl
    have u0 : m4 79 b = u 0 b := hm4.2.2.2.2 0 b (am_vd (by omega) hb)
    have t12 : m4 78 12 = mi 59 2 := (k34 78 12 rfl).trans (d2.trans d1.symm)
    refine bk_249 (sp_170 hm4 (fun k hk e => am_ri_i (am_y (sp_169 hm4 (fun k2 hk2 e2 => am_ri_i (am_yn ⟨v12, ⟨fun _ => ⟨v24, ?_⟩, fun w3 => absurd ?_ w3⟩⟩)) (fun g => ?_)))) (fun g => ?_))
    · rw [cb, u0, t12]
      refine sp_204 hl4 hm4 ha hb rfl rfl (fun m5 k5 => am_ri_i ⟨v12, am_vp (by decide) (by decide), am_vp (by decide) (by decide), v24, ?_⟩)
      rw [hr, c0, c1, c2]
      have k45 := am_kp_t k34 (am_kW_28 (am_kW_m k5))
      have u05 : m5 79 b = u 0 b := (k5 79 b rfl).trans u0
      have t5 : m5 78 12 = mi 59 2 := (k5 78 12 rfl).trans t12
      rw [u05, t5]
      have q60 : ∀ j, m5 60 j = upd (mi 60) b (nI a) j := fun j => by
        rw [k5 60 j rfl, s60 j]
        unfold upd
        rw [k3 60 j rfl]
      have q3 : m5 59 3 = mi 59 3 + 1 := by rw [k5 59 3 rfl, s3, k3 59 3 rfl]
      have q4 : m5 59 4 = if u 0 b ≤ mi 59 2 then mi 59 4 else mi 59 4 + 1 := by rw [k5 59 4 rfl, s4, k3 59 4 rfl, k3 59 2 rfl]
      have q5 : m5 59 5 = mi 59 5 + r := by rw [k5 59 5 rfl, s5, k3 59 5 rfl]
      have x82 : ∀ j, m5 82 j = mi 82 j := fun j => by rw [k5 82 j rfl, k4 82 j rfl, k3 82 j rfl]
      have x100 : ∀ j, m5 100 j = mi 100 j := fun j => by rw [k5 100 j rfl, k4 100 j rfl, k3 100 j rfl]
      have fin : ∀ m6 : am_MI, am_kp am_F28 m5 m6 → (∀ j, m6 82 j = upd (m5 82) b (nI a) j) → m6 100 0 = m5 100 0 + 1 → m6 100 1 = (if u 0 b ≤ mi 59 2 then m5 100 1 else m5 100 1 + 1) → m6 100 2 = m5 100 2 + r → (∀ j, m6 60 j = m5 60 j) → (∀ j, m6 59 j = m5 59 j) → Q r r m6 ml := by
        intro m6 k6 a82 a0 a1 a2 a60 a59
        have kk := am_kp_t k45 k6
        refine h r m6 ⟨t, ht, (kk 59 2 rfl).trans d1, (kk 78 12 rfl).trans d2, ?_, ?_, ?_, fun j hj => ?_, fun j h1 h2 => ?_, ?_⟩ kk
        · rw [a59, q3, a0, x100, d3]
        · rw [a59, q4, a1, x100, d4]
        · rw [a59, q5, a2, x100, d5]
        · rw [a60, q60, a82]
          unfold upd
          rw [x82, d6 j hj]
        · rw [a60, q60]
          unfold upd
          rw [if_neg (by omega)]
          exact d7 j h1 h2
        · rw [kk 59 6 rfl, kk 78 32 rfl, kk 59 8 rfl, kk 78 34 rfl, kk 78 33 rfl, kk 59 9 rfl, kk 59 10 rfl, kk 59 11 rfl, kk 102 0 rfl, kk 102 1 rfl, kk 102 2 rfl]
          have f61 : ∀ j, m6 61 j = mi 61 j := fun j => kk 61 j rfl
          have f101 : ∀ j, m6 101 j = mi 101 j := fun j => kk 101 j rfl
          simp only [f61, f101]
          exact d8
      refine ⟨fun g => ⟨am_vp (by decide) (by decide), am_vp (by decide) (by decide), am_ri_i ?_⟩, fun g => ⟨am_vp (by decide) (by decide), am_vp (by decide) (by decide), am_vp (by decide) (by decide), am_vp (by decide) (by decide), am_ri_i ?_⟩⟩
      · refine fin _ (am_kp_u (am_kp_u (am_kp_u am_kp_r rfl) rfl) rfl) (fun j => ?_) ?_ ?_ ?_ (fun j => ?_) (fun j => ?_)
        · rw [am_ui_c (by decide), am_ui_c (by decide)]
          unfold upd
          by_cases e : j = b
          · rw [if_pos e, e, am_ui_k]
          · rw [if_neg e, am_ui_n (fun _ w => e w)]
        · rw [am_ui_n (by omega), am_ui_k]
        · rw [if_pos g, am_ui_n (by omega), am_ui_n (by omega), am_ui_c (by decide)]
        · rw [am_ui_k, am_ui_n (by omega), am_ui_c (by decide)]
        · rw [am_ui_c (by decide), am_ui_c (by decide), am_ui_c (by decide)]
        · rw [am_ui_c (by decide), am_ui_c (by decide), am_ui_c (by decide)]
      · refine fin _ (am_kp_u (am_kp_u (am_kp_u (am_kp_u am_kp_r rfl) rfl) rfl) rfl) (fun j => ?_) ?_ ?_ ?_ (fun j => ?_) (fun j => ?_)
        · rw [am_ui_c (by decide), am_ui_c (by decide), am_ui_c (by decide)]
          unfold upd
          by_cases e : j = b
          · rw [if_pos e, e, am_ui_k]
          · rw [if_neg e, am_ui_n (fun _ w => e w)]
        · rw [am_ui_n (by omega), am_ui_n (by omega), am_ui_k]
        · rw [if_neg g, am_ui_n (by omega), am_ui_k, am_ui_n (by omega), am_ui_c (by decide)]
        · rw [am_ui_k, am_ui_n (by omega), am_ui_n (by omega), am_ui_c (by decide)]
        · rw [am_ui_c (by decide), am_ui_c (by decide), am_ui_c (by decide), am_ui_c (by decide)]
        · rw [am_ui_c (by decide), am_ui_c (by decide), am_ui_c (by decide), am_ui_c (by decide)]
    · rw [cb, k4 82 b rfl, k3 82 b rfl]
      exact w2
    · rw [am_ti (by omega)] at g
      omega
    · rw [am_ti (by omega)] at g
      omega
  · -- opened before
    have w2 : ¬ mi 82 b = -2 := by rw [← d6 b hb]; exact w
    subst eb
    refine bk_249 (sp_170 hm (fun k hk e => am_ri_i (am_y (sp_169 hm (fun k2 hk2 e2 => am_ri_i (am_yn ⟨vp_in_nI (by omega) (by omega), ⟨fun w3 => absurd ?_ w2, fun w3 => am_ri_i (h0 _)⟩⟩)) (fun g => ?_)))) (fun g => am_ri_i ?_))
    · rw [nI_clamp (by omega)] at w3
      exact w3
    · rw [am_ti (by omega)] at g
      omega
    · rw [ea, am_ti (by omega)] at g
      omega
  · refine bk_249 (sp_170 hm (fun k hk e => am_ri_i (am_y (sp_169 hm (fun k2 hk2 e2 => ?_) (fun g => am_ri_i (am_nn (am_ri_i (h0 _))))))) (fun g => am_ri_i (am_n0 (am_ri_i (h0 _)))))
    rw [e2, am_ti (by omega)] at g
    omega
  · refine bk_249 (sp_170 hm (fun k hk e => ?_) (fun g => am_ri_i (am_n0 (am_ri_i (h0 _)))))
    rw [e, am_ti (by omega)] at g
    omega
end SP39
