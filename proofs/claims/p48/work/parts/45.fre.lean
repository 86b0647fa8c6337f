/-! givings: gives of the reference; freshen of the class -/
def am_gvn (P : List (List Nat × List Nat)) (u : Nat → Nat → Int32) (n m r : Nat) : (Nat → Int32) × (Nat → Int32) := am_gv r m (am_gg u m) (am_god u 0 n) (am_ge P u) 0 (fun _ => -2, fun _ => 0) n
/-- what the class keeps of givings -/
def am_fre (P : List (List Nat × List Nat)) (u : Nat → Nat → Int32) (n m : Nat) (mi : am_MI) : Prop := (∀ j, j < n → mi 23 j = nI (am_god u 0 n j)) ∧ (∀ j, j < m → mi 24 j = nI (am_gg u m j)) ∧ (∀ c i, c < m → i < n → mi (26 + c) i = am_ge P u c i) ∧ (∀ r, r < 5 → (∀ i, i < n → mi (32 + r) i = (am_gvn P u n m r).1 i) ∧ ∀ c, c < m → mi (38 + r) c = (am_gvn P u n m r).2 c) ∧ mi 22 2 = mi 1 3 + mi 15 7
theorem am_god_s {u : Nat → Nat → Int32} {n : Nat} : ∀ i, i < n → ∃ j, j < n ∧ am_god u 0 n (0 + j) = i := fun i hi => by
  obtain ⟨j, hj, ej⟩ := am_srt_s (am_led u) 0 n i hi
  refine ⟨j, hj, ?_⟩
  unfold am_god
  rw [Nat.zero_add, Nat.sub_zero, ej, Nat.zero_add]
theorem am_god_lt {u : Nat → Nat → Int32} {n : Nat} : ∀ j, j < n → am_god u 0 n j < n := fun j hj => by
  have := am_srt_b (am_led u) 0 n j hj
  unfold am_god
  rw [Nat.sub_zero]
  omega
section SP45
variable {d n m : Nat} {u : Nat → Nat → Int32} {mi : am_MI} {ml : am_ML} {R : am_R} {r : Nat} {P : List (List Nat × List Nat)}
theorem am_gvn_i {q : (Nat → Int32) × (Nat → Int32)} (h : ∀ c, c < m → q.2 c = 0) : (∀ c, c < m → (am_gv r m (am_gg u m) (am_god u 0 n) (am_ge P u) 0 q n).2 c = (am_gvn P u n m r).2 c) ∧ ∀ i, i < n → (am_gv r m (am_gg u m) (am_god u 0 n) (am_ge P u) 0 q n).1 i = (am_gvn P u n m r).1 i := by
  obtain ⟨a, b⟩ := am_gv_i (r := r) (o := am_god u 0 n) (e := am_ge P u) (t0 := 0) (q := q) (p := (fun _ => -2, fun _ => 0)) (am_gg_lt (u := u) (m := m)) h n
  refine ⟨a, fun i hi => ?_⟩
  obtain ⟨j, hj, ej⟩ := am_god_s (u := u) i hi
  have z := b j hj
  rw [ej] at z
  exact z
def am_FY : Nat → Nat → Bool := fun c j => decide (c = 19 ∨ c = 21 ∨ (c = 15 ∧ j = 9) ∨ (26 ≤ c ∧ c ≤ 30) ∨ (32 ≤ c ∧ c ≤ 36) ∨ (38 ≤ c ∧ c ≤ 43))
def am_FX : Nat → Nat → Bool := fun c j => decide (c = 19 ∨ c = 21 ∨ (c = 15 ∧ j = 9) ∨ (c = 22 ∧ j = 2) ∨ c = 23 ∨ c = 24 ∨ (26 ≤ c ∧ c ≤ 30) ∨ (32 ≤ c ∧ c ≤ 36) ∨ (38 ≤ c ∧ c ≤ 43))
theorem am_cx_kX {a b : am_MI} (h : am_cx n m u a) (hk : am_kp am_FX a b) : am_cx n m u b := am_cx_on h (hk 1 1 rfl) (hk 1 2 rfl) (fun w i hw => hk _ _ (decide_eq_false (by omega)))
theorem am_lwr_kX {a b : am_MI} (h : am_lwr P a) (hk : am_kp am_FX a b) : am_lwr P b := am_lwr_on h (hk _ _ rfl) (hk _ _ rfl) (hk _ _ rfl) (fun j => hk _ _ rfl) (fun c j q1 q2 => hk _ _ (decide_eq_false (by omega))) (hk _ _ rfl) (fun j => hk _ _ rfl)
theorem am_kYX {a b : am_MI} (h : am_kp am_FY a b) : am_kp am_FX a b := am_kp_w h (fun c j q => by
  have q := of_decide_eq_false q
  exact decide_eq_false (by omega))
/-- freshen -/
theorem sp_30 (hl : am_lwr P mi) (hc : am_cx n m u mi) (hu : am_ur n m u) (hv : mi 22 2 = mi 1 3 + mi 15 7 → am_fre P u n m mi)
    (h : ∀ m2, am_kp am_FX mi m2 → am_fre P u n m m2 → m2 22 2 = mi 1 3 + mi 15 7 → R none m2 ml) : am_call (d + 9) 30 [.ref 22] mi ml R := by
  have hn := hc.1
  have hm5 := hc.2.1
  refine bk_30 (bk_115 (am_ri_i ⟨fun w => bk_115 (am_ri_i ?_), fun w => h mi am_kp_r (hv (Decidable.not_not.mp w)) (Decidable.not_not.mp w)⟩))
  have k0 : am_kp am_FX mi (am_ui mi 22 2 (mi 1 3 + mi 15 7)) := am_kp_u am_kp_r rfl
  refine sp_31 (am_cx_kX hc k0) (fun m1 k1 o1 => am_rv_i ?_)
  have v1 : m1 22 2 = mi 1 3 + mi 15 7 := (k1 22 2 rfl).trans am_ui_k
  have k1 : am_kp am_FX mi m1 := am_kp_t k0 (am_kp_w k1 (fun c j q => by
    have q := of_decide_eq_false q
    exact decide_eq_false (by omega)))
  refine sp_32 (am_cx_kX hc k1) (fun B kB o2 => am_rv_i ?_)
  have v2 : B 22 2 = mi 1 3 + mi 15 7 := by
    rw [kB 22 2 rfl]
    exact v1
  have o1 : ∀ j, j < n → B 23 j = nI (am_god u 0 n j) := fun j hj => by
    rw [kB 23 j rfl, o1 j hj]
    rfl
  have o2 : ∀ j, j < m → B 24 j = nI (am_gg u m j) := o2
  have kB : am_kp am_FX mi B := am_kp_t k1 (am_kp_w kB (fun c j q => by
    have q := of_decide_eq_false q
    exact decide_eq_false (by omega)))
  have kX : ∀ m2, am_kp am_FY B m2 → am_kp am_FX mi m2 := fun m2 k => am_kp_t kB (am_kYX k)
  -- rules
  have rules : ∀ w k, k + w = 5 → ∀ m2, am_kp am_FY B m2 → (∀ c i, c < m → i < n → m2 (26 + c) i = am_ge P u c i) → (∀ r, r < k → (∀ i, i < n → m2 (32 + r) i = (am_gvn P u n m r).1 i) ∧ ∀ c, c < m → m2 (38 + r) c = (am_gvn P u n m r).2 c) → am_wp (am_call (d + 8)) mt_30 R 52 [some (.ref 22), some (.int (nI k)), none] [] m2 ml := by
    intro w
    induction w with
    | zero =>
      intro k e m2 k2 he hr
      have e : k = 5 := e
      subst e
      refine bk_30_52 (pk_le 5 5 (fun _ => h m2 (kX m2 k2) ⟨fun j hj => ?_, fun j hj => ?_, he, hr, ?_⟩ ?_) (fun w => absurd w (Nat.lt_irrefl _)) rfl rfl)
      · rw [k2 23 j rfl]
        exact o1 j hj
      · rw [k2 24 j rfl]
        exact o2 j hj
      · rw [k2 22 2 rfl, (kX m2 k2) 1 3 rfl, (kX m2 k2) 15 7 rfl]
        exact v2
      · rw [k2 22 2 rfl]
        exact v2
    | succ w ih =>
      intro k e m2 k2 he hr
      refine bk_30_52 (pk_le 5 k (fun w => absurd w (by omega)) (fun _ => ?_) rfl rfl)
      refine sp_33 (g := am_gg u m) (o := am_god u 0 n) (e := am_ge P u) (r := k) (by omega) (am_cx_kX hc (kX m2 k2)) (fun j hj => ⟨by rw [k2 24 j rfl]; exact o2 j hj, am_gg_lt j hj⟩) (fun t ht => ⟨by rw [k2 23 t rfl]; exact o1 t ht, am_god_lt t ht⟩) he rfl (fun m3 k3 a b => am_rv_i ?_)
      rw [nI_1]
      have k3' : am_kp am_FY B m3 := am_kp_t k2 (am_kp_w k3 (fun c j q => by
        have q := of_decide_eq_false q
        exact decide_eq_false (by omega)))
      obtain ⟨g2, g1⟩ := am_gvn_i (r := k) (n := n) (m := m) (u := u) (P := P) (q := (m2 (32 + k), fun _ => 0)) (fun c hc => rfl)
      refine ih (k + 1) (by omega) m3 k3' (fun c i hc hi => ?_) (fun r hr2 => ?_)
      · rw [k3 (26 + c) i (decide_eq_false (by omega))]
        exact he c i hc hi
      · by_cases er : r = k
        · rw [er]
          refine ⟨fun i hi => ?_, fun c hc => ?_⟩
          · rw [a]
            exact g1 i hi
          · rw [b c hc]
            exact g2 c hc
        · obtain ⟨x1, x2⟩ := hr r (by omega)
          refine ⟨fun i hi => ?_, fun c hc => ?_⟩
          · rw [k3 (32 + r) i (decide_eq_false (by omega))]
            exact x1 i hi
          · rw [k3 (38 + r) c (decide_eq_false (by omega))]
            exact x2 c hc
  -- worths
  have worths : ∀ w k, k + w = m → ∀ m2, am_kp am_FY B m2 → (∀ c i, c < k → i < n → m2 (26 + c) i = am_ge P u c i) → am_wp (am_call (d + 8)) mt_30 R 18 [some (.ref 22), some (.int (nI k)), none] [] m2 ml := by
    intro w
    induction w with
    | zero =>
      intro k e m2 k2 he
      have e : k = m := e
      subst e
      exact bk_30_18 (pk_le _ _ (fun _ => rules 5 0 rfl m2 k2 he (fun r hr => absurd hr (Nat.not_lt_zero _))) (fun w => absurd w (Nat.lt_irrefl _)) (am_cx_kX hc (kX m2 k2)).2.2.2.1 rfl)
    | succ w ih =>
      intro k e m2 k2 he
      obtain ⟨-, -, -, -, a1, a2⟩ := am_k38 k (by omega)
      have ck : (nI k).toNatClampNeg = k := nI_clamp (by omega)
      refine bk_30_18 (pk_le m k (fun w => absurd w (by omega)) (fun _ => ?_) (am_cx_kX hc (kX m2 k2)).2.2.2.1 rfl)
      have inner : ∀ v i, i + v = n → ∀ m3, am_kp am_FY B m3 → (∀ c i, c < k → i < n → m3 (26 + c) i = am_ge P u c i) → (∀ j, j < i → m3 (26 + k) j = am_ge P u k j) → am_wp (am_call (d + 8)) mt_30 R 25 [some (.ref 22), some (.int (nI k)), some (.int (nI i))] [] m3 ml := by
        intro v
        induction v with
        | zero =>
          intro i ei m3 k3 he3 hi3
          have ei : i = n := ei
          subst ei
          refine bk_30_25 (pk_le _ _ (fun _ => ?_) (fun w => absurd w (Nat.lt_irrefl _)) (am_cx_kX hc (kX m3 k3)).2.2.1 rfl)
          rw [nI_1]
          refine ih (k + 1) (by omega) m3 k3 (fun c j hc hj => ?_)
          by_cases ec : c = k
          · rw [ec]
            exact hi3 j hj
          · exact he3 c j (by omega) hj
        | succ v iv =>
          intro i ei m3 k3 he3 hi3
          have hcx := am_cx_kX hc (kX m3 k3)
          refine bk_30_25 (pk_le n i (fun w => absurd w (by omega)) (fun hi => ⟨vp_in_nI (by omega) (by omega), sp_4c hcx (w := 2) rfl rfl (am_vd (by omega) hi) (am_ri_i (sp_117 (am_lwr_kX hl (kX m3 k3)) hcx hu (show k < m by omega) hi rfl rfl (fun m4 k4 => am_ri_i ?_)))⟩) hcx.2.2.1 rfl)
          have ci : (nI i).toNatClampNeg = i := nI_clamp (by omega)
          rw [ck, Nat.one_mul, ci, nI_1, am_len2 a1, a1, a2]
          refine am_need_i rfl ⟨vp_in_nI (by omega) (by omega), ?_⟩
          have k4' : am_kp am_FY B m4 := am_kp_t k3 (am_kp_w k4 (fun c j q => by
            have q := of_decide_eq_false q
            exact decide_eq_false (by omega)))
          refine iv (i + 1) (by omega) _ (am_kp_u k4' (decide_eq_true (by omega))) (fun c j hc hj => ?_) (fun j hj => ?_)
          · rw [am_ui_c (by omega), k4 (26 + c) j (decide_eq_false (by omega))]
            exact he3 c j hc hj
          · by_cases ej : j = i
            · rw [ej, am_ui_k]
              rfl
            · rw [am_ui_n (fun _ w => ej w), k4 (26 + k) j (decide_eq_false (by omega))]
              exact hi3 j (by omega)
      exact inner n 0 (Nat.zero_add _) m2 k2 he (fun j hj => absurd hj (Nat.not_lt_zero _))
  exact worths m 0 (Nat.zero_add _) B am_kp_r (fun c i hc => absurd hc (Nat.not_lt_zero _))
end SP45
