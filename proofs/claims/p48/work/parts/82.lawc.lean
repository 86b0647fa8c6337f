/-! the law's run: its start, the fairest, at five -/
/-- the object behind world(): nothing in deed, no image -/
def dq_A (P : List (List Nat × List Nat)) (u : Nat → Nat → Int32) (n m v : Nat) (mi : am_MI) : Prop := dq_Q P u n m mi ∧ dq_V v mi ∧ dq_C mi ∧ ((∀ j, j < 12 → mi 60 j = -2) ∧ ∀ j, 2 ≤ j → j ≤ 5 → mi 59 j = 0) ∧ mi 15 1 = 0
def dq_B5 (P : List (List Nat × List Nat)) (u : Nat → Nat → Int32) (n m v d : Nat) (mi : am_MI) (ml : am_ML) : Prop := dq_B P u n m v mi ∧ am_rw 1 n mi ml ∧ ∀ j, j < d → (ml 69 j).toInt32 = nI j
section SP82
variable {K : am_K} {n m r v : Nat} {u : Nat → Nat → Int32} {R : am_R} {P : List (List Nat × List Nat)}
theorem dq_B_O {F : Nat → Nat → Bool} {a b : am_MI} (hB : dq_B P u n m v a) (k : am_kp F a b) (hF : ∀ c j, F c j = true → dq_FO c j = true ∧ ¬ (59 ≤ c ∧ c ≤ 61) ∧ ¬ c = 13) (e : b 15 1 = 0) : dq_B P u n m v b := by
  have kO : am_kp dq_FO a b := fun c j q => k c j (by
    cases g : F c j with
    | false => rfl
    | true =>
      rw [(hF c j g).1] at q
      cases q)
  refine ⟨dq_Q_O hB.1 kO, dq_V_on hB.2.1 (kO 1 3 rfl) (kO 15 7 rfl), dq_C_on hB.2.2.1 (k 13 1 ?_), dq_D0_on hB.2.2.2.1 (fun c j h1 h2 => k c j ?_), e⟩
  · cases g : F 13 1 with
    | false => rfl
    | true => exact ((hF 13 1 g).2.2 rfl).elim
  · cases g : F c j with
    | false => rfl
    | true => exact ((hF c j g).2.1 ⟨h1, h2⟩).elim
theorem dq_B5_Z {d : Nat} {a b : am_MI} {ml : am_ML} (hB : dq_B5 P u n m v d a ml) (k : am_kp (am_FZ n) a b) (q : dq_Q P u n m b) : dq_B5 P u n m v d b ml :=
  ⟨dq_B_Z hB.1 k q, dq_rw_Z (by omega) hB.2.1 k, hB.2.2⟩
/-- told twice, an image, told -/
theorem dl_0 (hcl : am_lawK K) {mi : am_MI} {ml : am_ML} (hA : dq_A P u n m v mi) (b0 : mi 78 0 = nI n) (b1 : mi 78 1 = nI m) (bl : mi 78 100000 = 37) (hnext : ∀ mi ml, dq_B P u n m v mi → K 26 [some (.ref 117), some (.ref 0), none, some (.int (nI n)), some (.int (nI m)), some (.long (dq_S P u n m)), none, none, none, none, none, none, none, none, none, none, none, none] [] mi ml) : K 0 [some (.ref 117), some (.ref 0), some (.ref 78), none, none, none, none, none, none, none, none, none, none, none, none, none, none, none] [] mi ml := by
  have hn := hA.1.1.2.1.1
  have S1 : ∀ {m2 : am_MI}, am_kp (am_FZ n) mi m2 → dq_told P u n m (m2 60) (m2 59) = dq_S P u n m := fun {m2} k =>
    dq_told_c (fun j hj => (k 60 j (dq_Z (by omega) (by omega))).trans (hA.2.2.2.1.1 j (by omega))) (fun j h1 h2 => (k 59 j (dq_Z (by omega) (by omega))).trans (hA.2.2.2.1.2 j h1 h2))
  refine lb_0 hcl ?_
  rw [bl]
  refine ⟨am_vp (by decide) (by decide), am_vp (by decide) (by decide), dq_290 hA.1 (fun m2 k2 q2 => am_rj_i (dq_290 q2 (fun m3 k3 q3 => am_rj_i ?_)))⟩
  rw [S1 am_kp_r, S1 k2, dq_lc]
  have k23 := am_kp_t k2 k3
  refine ⟨fun w => absurd rfl w, fun _ => dq_149 (fun m4 k4 e61 e60 e6 e8 e9 e10 e11 e25 => am_ri_i ?_)⟩
  have z60 : ∀ j, j < 12 → m3 60 j = -2 := fun j hj => (k23 60 j (dq_Z (by omega) (by omega))).trans (hA.2.2.2.1.1 j hj)
  have z59 : ∀ j, 2 ≤ j → j ≤ 5 → m3 59 j = 0 := fun j a b => (k23 59 j (dq_Z (by omega) (by omega))).trans (hA.2.2.2.1.2 j a b)
  have hB : dq_B P u n m v m4 := by
    have kO := dq_OD k4
    refine ⟨dq_Q_O q3 kO, dq_V_on hA.2.1 ((kO 1 3 rfl).trans (k23 1 3 (dq_Z1 (by omega) (by omega)))) ((kO 15 7 rfl).trans (k23 15 7 (dq_Z1 (by omega) (by omega)))), dq_C_on hA.2.2.1 ((k4 13 1 rfl).trans (k23 13 1 (dq_Z1 (by omega) (by omega)))), ⟨fun j hj => (e60 j).trans (z60 j hj), fun j hj => (e61 j hj).trans (z60 j hj), fun j a b => (e25 j a b).trans (z59 j a b), e6, fun j a b => ?_⟩, ?_⟩
    · rcases (show j = 8 ∨ j = 9 ∨ j = 10 ∨ j = 11 by omega) with e | e | e | e <;> subst e
      · exact e8.trans (z59 2 (by omega) (by omega))
      · exact e9.trans (z59 3 (by omega) (by omega))
      · exact e10.trans (z59 4 (by omega) (by omega))
      · exact e11.trans (z59 5 (by omega) (by omega))
    · exact ((k4 15 1 rfl).trans (k23 15 1 (dq_Z1 (by omega) (by omega)))).trans hA.2.2.2.2
  rw [z59 3 (by omega) (by omega)]
  refine ⟨fun w => absurd rfl w, fun _ => dq_290B hB (fun m5 k5 hB5 => am_rj_i ?_)⟩
  rw [dq_lc, b0, b1]
  exact ⟨fun _ => hnext m5 ml hB5, fun w => absurd rfl w⟩
/-- what is refused changes nothing -/
theorem dl_26 (hcl : am_lawK K) {mi : am_MI} {ml : am_ML} (hn : n ≤ 12) (hm : m ≤ 5) (hB : dq_B P u n m v mi) (hnext : ∀ mi ml, dq_B P u n m v mi → K 107 [some (.ref 117), some (.ref 0), none, some (.int (nI n)), some (.int (nI m)), some (.long (dq_S P u n m)), none, none, none, none, none, none, none, none, none, none, none, none] [] mi ml) : K 26 [some (.ref 117), some (.ref 0), none, some (.int (nI n)), some (.int (nI m)), some (.long (dq_S P u n m)), none, none, none, none, none, none, none, none, none, none, none, none] [] mi ml := by
  have hq := hB.1
  have no9 : ∀ {w i : Nat}, am_val n m w i → w < 10 := fun {w i} h => by
    unfold am_val at h
    omega
  refine lb_26 hcl (dq_118n hq (Or.inl (Or.inl (by decide))) (am_ri_i ⟨fun w => absurd rfl w, fun _ => ?_⟩))
  refine dq_118n hq (Or.inl (Or.inr (by decide))) (am_ri_i ⟨fun w => absurd rfl w, fun _ => ?_⟩)
  refine dq_118n hq (Or.inr (Or.inr (by decide))) (am_ri_i ⟨fun w => absurd rfl w, fun _ => ?_⟩)
  refine dq_120n hq (am_ri_i ⟨fun w => absurd rfl w, fun _ => ?_⟩)
  refine dq_121n hq hB.2.2.1 (fun w i p hv _ _ ey ex _ => ?_) (am_ri_i ⟨fun w => absurd rfl w, fun _ => ?_⟩)
  · have hw := no9 hv
    have e1 : w = 0 := ((nI_eq (a := 0) (by omega) (by omega)).mp ey).symm
    subst e1
    unfold am_val at hv
    have e2 : n = i := (nI_eq (by omega) (by omega)).mp ex
    omega
  refine dq_121n hq hB.2.2.1 (fun w i p hv _ h2 ey _ ev => ?_) (am_ri_i ⟨fun w => absurd rfl w, fun _ => ?_⟩)
  · have hw := no9 hv
    have e1 : 8 = w := (nI_eq (a := 8) (by omega) (by omega)).mp ey
    subst e1
    have h8 : am_hi 8 = 1 := rfl
    have e2 : 2 = p := (nI_eq (a := 2) (by omega) (by omega)).mp ev
    omega
  refine dq_121n hq hB.2.2.1 (fun w i p hv _ _ ey ex _ => ?_) (am_ri_i ⟨fun w => absurd rfl w, fun _ => ?_⟩)
  · have hw := no9 hv
    have e1 : 9 = w := (nI_eq (a := 9) (by omega) (by omega)).mp ey
    subst e1
    unfold am_val at hv
    have e2 : 1 = i := (nI_eq (a := 1) (by omega) (by omega)).mp ex
    omega
  refine dq_146c hq (am_ri_i ⟨fun w => absurd rfl w, fun _ => ?_⟩)
  refine dq_146d hq (am_ri_i ⟨fun w => absurd rfl w, fun _ => ?_⟩)
  refine dq_123n (am_ri_i ⟨fun w => absurd rfl w, fun _ => ?_⟩)
  refine dq_157b (s := 0) (by omega) rfl (am_ri_i ⟨fun w => absurd rfl w, fun _ => ?_⟩)
  refine dq_153 (am_ri_i ⟨fun w => absurd rfl w, fun _ => ?_⟩)
  refine dq_290B hB (fun m2 k2 hB2 => am_rj_i ?_)
  rw [dq_lc]
  exact ⟨fun _ => hnext m2 ml hB2, fun w => absurd rfl w⟩
/-- a bracket fed, no law -/
theorem dl_107 (hcl : am_lawK K) {mi : am_MI} {ml : am_ML} (hB : dq_B P u n m v mi) (hnext : ∀ mi ml, dq_B P u n m v mi → K 123 [some (.ref 117), some (.ref 0), none, some (.int (nI n)), some (.int (nI m)), some (.long (dq_S P u n m)), none, none, none, none, none, none, none, none, none, none, none, none] [] mi ml) : K 107 [some (.ref 117), some (.ref 0), none, some (.int (nI n)), some (.int (nI m)), some (.long (dq_S P u n m)), none, none, none, none, none, none, none, none, none, none, none, none] [] mi ml := by
  refine lb_107 hcl (dq_123 (t := 0) (b := 40) ⟨by omega, hB.2.2.2.2, fun j hj => absurd hj (Nat.not_lt_zero _)⟩ (by omega) rfl (fun v1 t2 m2 k2 hT h0 => am_ri_i ?_))
  obtain ⟨e1, e2, e3⟩ := h0 rfl
  subst e1
  subst e2
  have kO : am_kp dq_FO mi m2 := fun c j q => k2 c j (by
    have q := of_decide_eq_false q
    exact decide_eq_false (by omega))
  refine ⟨fun w => absurd rfl w, fun _ => dq_124p (dq_Q_O hB.1 kO) hT.2.1 e3 (fun m3 k3 e4 q3 => am_ri_i ⟨fun w => absurd rfl w, fun _ => ?_⟩)⟩
  have kk : am_kp dq_FO mi m3 := am_kp_t kO (am_kp_w k3 (fun c j q => by
    have q := of_decide_eq_false q
    exact decide_eq_false (by omega)))
  have hB3 : dq_B P u n m v m3 := ⟨q3, dq_V_on hB.2.1 (kk 1 3 rfl) (kk 15 7 rfl), dq_C_on hB.2.2.1 ((k3 13 1 rfl).trans (k2 13 1 rfl)), dq_D0_on hB.2.2.2.1 (fun c j h1 h2 => (k3 c j (decide_eq_false (by omega))).trans (k2 c j (decide_eq_false (by omega)))), e4⟩
  refine dq_290B hB3 (fun m4 k4 hB4 => am_rj_i ?_)
  rw [dq_lc]
  exact ⟨fun _ => hnext m4 ml hB4, fun w => absurd rfl w⟩
theorem dl_123 (hcl : am_lawK K) {mi : am_MI} {ml : am_ML} {S : Int64} (hB : dq_B P u n m v mi) (hnext : ∀ mi ml, dq_B P u n m v mi → K 133 [some (.ref 117), some (.ref 0), none, some (.int (nI n)), some (.int (nI m)), some (.long (S)), none, some (.int (am_ufr P u n m (dq_brl P u n m))), some (.int (dq_fai P u n m (-1))), some (.int (nI 0)), none, none, none, none, none, none, none, none] [] mi ml) : K 123 [some (.ref 117), some (.ref 0), none, some (.int (nI n)), some (.int (nI m)), some (.long (S)), none, none, none, none, none, none, none, none, none, none, none, none] [] mi ml :=
  lb_123 hcl (dq_129b hB.1 (fun m2 k2 q2 => am_ri_i (dq_130 q2 (Or.inl rfl) (fun m3 k3 q3 => am_ri_i (hnext m3 ml (dq_B_Z hB (am_kp_t k2 k3) q3))))))
theorem dl_454 (hcl : am_lawK K) {mi : am_MI} {ml : am_ML} {S : Int64} (hB : dq_B P u n m v mi) (hnext : ∀ mi ml, dq_B P u n m v mi → K 464 [some (.ref 117), some (.ref 0), none, some (.int (nI n)), some (.int (nI m)), some (.long (S)), none, none, some (.int (dq_fai P u n m (-1))), none, none, none, none, none, none, none, none, none] [] mi ml) : K 454 [some (.ref 117), some (.ref 0), none, some (.int (nI n)), some (.int (nI m)), some (.long (S)), none, some (.int (am_ufr P u n m (dq_brl P u n m))), some (.int (dq_fai P u n m (-1))), none, none, none, none, none, none, none, none, none] [] mi ml := by
  refine lb_454 hcl (dq_129a hB.1 (fun m2 k2 q2 => am_ri_i (dq_128 (t := 0) (r := dq_brl P u n m) q2 dq_brl_lt rfl rfl (by omega) (fun m3 k3 q3 => am_ri_i ?_))))
  rw [if_pos rfl]
  exact ⟨fun _ => hnext m3 ml (dq_B_Z hB (am_kp_t k2 k3) q3), fun w => absurd rfl w⟩
theorem dq_fai_y {x : Int32} (h1 : n ≤ 8) (h2 : m ≤ 3) (h3 : 0 < m) : dq_fai P u n m x = am_fan P u n m x := by
  unfold dq_fai
  rw [if_neg (by omega), if_neg (by omega)]
theorem dq_fai_n (h : ¬ dq_fai P u n m (-1) < 0) : n ≤ 8 ∧ m ≤ 3 ∧ 0 < m := by
  unfold dq_fai at h
  by_cases g : 8 < n ∨ 3 < m
  · rw [if_pos g] at h
    exact absurd (by decide) h
  · rw [if_neg g] at h
    by_cases g0 : m = 0
    · rw [if_pos g0] at h
      exact absurd (by decide) h
    · omega
theorem dq_tgs_b {s : Nat → Int32} {B : Nat} : ∀ k, (∀ c, c < k → ∃ q, q ≤ B ∧ s c = nI q) → ∃ q, q ≤ k * B ∧ am_tgs s k = nI q
  | 0, _ => ⟨0, Nat.zero_le _, rfl⟩
  | k + 1, h => by
    obtain ⟨q, hq, e⟩ := dq_tgs_b k (fun c hc => h c (by omega))
    obtain ⟨a, ha, ea⟩ := h k (by omega)
    refine ⟨q + a, by rw [Nat.add_mul]; omega, ?_⟩
    show am_tgs s k + s k = _
    rw [e, ea, nI_add]
theorem dq_fT_0 (hu : am_ur n m u) (hn : n ≤ 8) (hm : m ≤ 3) (i : Nat) : 0 ≤ (am_fT P u n m i).toInt := by
  obtain ⟨q, hq, e⟩ := dq_tgs_b (s := am_fS P u n (am_fq m n i)) (B := 792) m (fun k hk => by
    obtain ⟨a, ha, ea⟩ := am_sto_b (own := am_wn (am_fq m n i)) (e := am_ge P u k) (x := nI k) (k := n) (fun i hi => am_ge_c hu hk hi)
    exact ⟨a, by omega, ea⟩)
  show 0 ≤ (am_tgs (am_fS P u n (am_fq m n i)) m).toInt
  have hq : q ≤ 2376 := Nat.le_trans hq (by omega)
  rw [e, am_ti (by omega)]
  omega
/-- the fairest: somebody's each, most together, free of envy -/
theorem dl_464 (hcl : am_lawK K) {mi : am_MI} {ml : am_ML} {S : Int64} (hn : n ≤ 12) (hm : m ≤ 5) (hB : dq_B P u n m v mi) (hnext : ∀ mi ml, dq_B P u n m v mi → K 523 [some (.ref 117), some (.ref 0), none, some (.int (nI n)), some (.int (nI m)), some (.long (S)), none, none, none, none, none, none, none, none, none, none, none, none] [] mi ml) : K 464 [some (.ref 117), some (.ref 0), none, some (.int (nI n)), some (.int (nI m)), some (.long (S)), none, none, some (.int (dq_fai P u n m (-1))), none, none, none, none, none, none, none, none, none] [] mi ml := by
  have hu := hB.1.1.2.2.2
  refine lb_464 hcl ⟨fun _ => hnext mi ml hB, fun w => ?_⟩
  obtain ⟨n8, m3, m0⟩ := dq_fai_n w
  have eU : dq_fai P u n m (-1) = am_fU P u n m (am_fB P u n m (m ^ n - 1)) := dq_fai_y n8 m3 m0
  have eT : dq_fai P u n m (-2) = am_fT P u n m (am_fB P u n m (m ^ n - 1)) := by
    rw [dq_fai_y n8 m3 m0]
    unfold am_fan
    rw [if_neg (by decide), if_pos rfl]
  have eD : ∀ d, d < n → ∃ q, q < m ∧ dq_fai P u n m (nI d) = nI q := fun d hd => by
    refine ⟨am_fq m n (am_fB P u n m (m ^ n - 1)) d, am_fq_b m0 _ d hd, ?_⟩
    rw [dq_fai_y n8 m3 m0]
    unfold am_fan
    rw [if_neg (fun w => by rw [am_eq_i, am_ti (by omega), am_lm1] at w; omega), if_neg (fun w => by rw [am_eq_i, am_ti (by omega), am_lm2] at w; omega), nI_clamp (by omega)]
  have h506 : ∀ l9 : Int32, l9.toInt ≤ (am_fT P u n m (am_fB P u n m (m ^ n - 1))).toInt → ∀ mi ml, dq_B P u n m v mi → K 506 [some (.ref 117), some (.ref 0), none, some (.int (nI n)), some (.int (nI m)), some (.long (S)), none, none, none, some (.int (l9)), none, none, none, none, none, none, none, none] [] mi ml := by
    intro l9 h9 mi ml hB
    refine lb_506 hcl (dq_130 hB.1 (Or.inr (Or.inl rfl)) (fun m2 k2 q2 => am_ri_i ?_))
    rw [eT]
    refine ⟨fun w => absurd w (by rw [am_lt_i]; omega), fun _ => dq_131 q2 (fun m3 k3 q3 => am_ri_i ?_)⟩
    have hB3 := dq_B_Z hB (am_kp_t k2 k3) q3
    refine ⟨fun _ => hnext m3 ml hB3, fun w2 => ⟨fun _ => hnext m3 ml hB3, fun w3 => dq_131 q3 (fun m4 k4 q4 => am_ri_i ⟨fun _ => hnext m4 ml (dq_B_Z hB3 k4 q4), fun w4 => absurd ?_ w4⟩)⟩⟩
    have e1 : m = 1 := (nI_eq (b := 1) (by omega) (by omega)).mp (Decidable.not_not.mp w3)
    subst e1
    rw [if_neg (by omega), if_neg (by omega)] at w2 ⊢
    rw [Nat.one_pow] at w2 ⊢
    have le := am_cnt_le (am_fE P u n 1) 1
    have ne : ¬ am_cnt (am_fE P u n 1) 1 = 0 := fun z => w2 (by rw [z]; decide)
    rw [show am_cnt (am_fE P u n 1) 1 = 1 by omega]
    rfl
  have h488 : ∀ r, r ≤ 5 → ∀ l9 : Int32, l9.toInt ≤ (am_fT P u n m (am_fB P u n m (m ^ n - 1))).toInt → ∀ mi ml, dq_B P u n m v mi → K 488 [some (.ref 117), some (.ref 0), none, some (.int (nI n)), some (.int (nI m)), some (.long (S)), none, none, some (.int (dq_fai P u n m (-1))), some (.int (l9)), some (.int (nI r)), none, none, none, none, none, none, none] [] mi ml := by
    refine am_for 5 _ (fun l9 h9 mi ml hB => lb_488 hcl (pk_le 5 5 (fun _ => h506 l9 h9 mi ml hB) (fun w => absurd w (by omega)) rfl rfl)) (fun r hr ih l9 h9 mi ml hB => ?_)
    refine lb_488 hcl (pk_le 5 r (fun w => absurd w (by omega)) (fun _ => ?_) rfl rfl)
    refine dq_128 (t := 0) hB.1 hr rfl rfl (by omega) (fun m2 k2 q2 => am_ri_i ?_)
    rw [if_pos rfl]
    refine ⟨fun _ => lb_504 hcl ?_, fun g => dq_128 (t := 1) q2 hr rfl rfl (by omega) (fun m3 k3 q3 => am_ri_i (lb_504 hcl ?_))⟩
    · rw [nI_1]
      exact ih l9 h9 m2 ml (dq_B_Z hB k2 q2)
    · rw [nI_1, if_neg (show ¬ 1 = 0 by omega), if_pos rfl]
      refine ih _ ?_ m3 ml (dq_B_Z hB (am_kp_t k2 k3) q3)
      have e := Decidable.not_not.mp g
      rw [eU] at e
      have z := (dq_fair (P := P) (u := u) (n := n) (r := r) hm m0).2 e.symm
      unfold am_max
      split <;> assumption
  have h470 : ∀ d, d ≤ n → ∀ mi ml, dq_B P u n m v mi → K 470 [some (.ref 117), some (.ref 0), none, some (.int (nI n)), some (.int (nI m)), some (.long (S)), none, none, some (.int (dq_fai P u n m (-1))), some (.int (0)), some (.int (nI d)), none, none, none, none, none, none, none] [] mi ml := by
    refine am_for n _ (fun mi ml hB => lb_470 hcl (pk_le n n (fun _ => lb_486 hcl (h488 0 (by omega) 0 (dq_fT_0 hu n8 m3 _) mi ml hB)) (fun w => absurd w (by omega)) rfl rfl)) (fun d hd ih mi ml hB => ?_)
    obtain ⟨q, hq, e⟩ := eD d hd
    refine lb_470 hcl (pk_le n d (fun w => absurd w (by omega)) (fun _ => ?_) rfl rfl)
    refine dq_130 hB.1 (Or.inr (Or.inr ⟨d, hd, rfl⟩)) (fun m2 k2 q2 => am_ri_i ?_)
    rw [e]
    refine ⟨fun w => absurd w (dq_p (by omega)), fun _ => dq_130 q2 (Or.inr (Or.inr ⟨d, hd, rfl⟩)) (fun m3 k3 q3 => am_ri_i ?_)⟩
    rw [e]
    refine ⟨fun _ => lb_484 hcl ?_, fun w => absurd ((dq_lt (by omega) (by omega)).mpr hq) w⟩
    rw [nI_1]
    exact ih m3 ml (dq_B_Z hB (am_kp_t k2 k3) q3)
  exact h470 0 (Nat.zero_le _) mi ml hB
end SP82
