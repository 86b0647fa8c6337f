/-! a giving by a rule: the reference's side; a filled array -/
section SP42
variable {d n m : Nat} {u : Nat → Nat → Int32} {mi : am_MI} {ml : am_ML} {R : am_R} {r : Nat} {P : List (List Nat × List Nat)}
theorem am_lwr_kM {a b : am_MI} (h : am_lwr P a) (hk : am_kp am_F98b a b) : am_lwr P b := am_lwr_kW h (am_kW_m hk)
theorem am_cm_kM {a b : am_MI} (h : am_cm n m u a) (hk : am_kp am_F98b a b) : am_cm n m u b := am_cm_kW h (am_kW_m hk)
/-- goesTo -/
theorem sp_211 {y z : Int32} {g o : Nat → Nat} {t : Nat} (hr : r < 5) (ht : t < 24) (hl : am_lwr P mi) (hc : am_cm n m u mi) (hu : am_ur n m u) (hm : 0 < m) (hg : ∀ j, j < m → mi 112 j = nI (g j)) (ho : mi 109 t = nI (o t)) (hon : o t < n) (hy : y = nI r) (hz : z = nI t)
    (h : ∀ m2, am_kp am_F98b mi m2 → R (some (.int (nI (am_who r m g (fun c => am_ea P u c (o t) (u 2 (o t))) (mi 111) t)))) m2 ml) : am_call (d + 5) 211 [.ref 78, .int y, .int z] mi ml R := by
  subst hy
  subst hz
  have hm5 := hc.2.1
  have em : mi 78 5 = nI m := hc.2.2.2.1
  have ct : (nI t).toNatClampNeg = t := nI_clamp (by omega)
  have vt : vp_in (nI t) 24 := vp_in_nI ht (by omega)
  have e0 : nI r = 0 ↔ r = 0 := nI_eq (a := r) (b := 0) (by omega) (by omega)
  have e1 : nI r = 1 ↔ r = 1 := nI_eq (a := r) (b := 1) (by omega) (by omega)
  have e2 : nI r = 2 ↔ r = 2 := nI_eq (a := r) (b := 2) (by omega) (by omega)
  have e3 : nI r = 3 ↔ r = 3 := nI_eq (a := r) (b := 3) (by omega) (by omega)
  generalize he : (fun c => am_ea P u c (o t) (u 2 (o t))) = e at h
  have ee : ∀ c, am_ea P u c (o t) (u 2 (o t)) = e c := fun c => by rw [← he]
  have wy : ∀ c, r = 3 → am_wil r e (mi 111) c = e c - mi 111 c := fun c q => if_pos q
  have wn : ∀ c, ¬ r = 3 → am_wil r e (mi 111) c = -(mi 111 c) := fun c q => if_neg q
  have s72 : ∀ b k (v : Int32), b < m → k < m → ∀ m2, am_kp am_F98b mi m2 → (∀ m3, am_kp am_F98b mi m3 → am_wp (am_call (d + 4)) mt_211 R 95 [some (.ref 78), some (.int (nI r)), some (.int (nI t)), none, some (.int (nI b)), some (.int (nI k)), none] [.int (am_wil r e (mi 111) b), .int v] m3 ml) →
      am_wp (am_call (d + 4)) mt_211 R 72 [some (.ref 78), some (.int (nI r)), some (.int (nI t)), none, some (.int (nI b)), some (.int (nI k)), none] [.int v] m2 ml := by
    intro b k v hb hk m2 k2 hh
    have cb : (nI b).toNatClampNeg = b := nI_clamp (by omega)
    have vb : vp_in (nI b) 5 := vp_in_nI (by omega) (by omega)
    refine bk_211_72 ?_
    rw [cb, ct, k2 109 t rfl, ho]
    refine ⟨fun w => ⟨vb, ?_⟩, fun w => ⟨vt, sp_208 (am_lwr_kM hl k2) (am_cm_kM hc k2) hu hb hon rfl rfl (fun m3 k3 => am_ri_i ⟨vb, ?_⟩)⟩⟩
    · have z := hh m2 k2
      rw [wn b (fun q => w (e3.mpr q))] at z
      rw [k2 111 b rfl]
      exact z
    · have z := hh m3 (am_kp_t k2 k3)
      rw [wy b (e3.mp (Decidable.not_not.mp w))] at z
      rw [ee, k3 111 b rfl, k2 111 b rfl]
      exact z
  have loop : ∀ q k, k + q = m → 0 < k → ∀ m2, am_kp am_F98b mi m2 → (∀ m3, am_kp am_F98b mi m3 → R (some (.int (nI (am_mst r e (mi 111) (m - 1))))) m3 ml) → am_wp (am_call (d + 4)) mt_211 R 47 [some (.ref 78), some (.int (nI r)), some (.int (nI t)), none, some (.int (nI (am_mst r e (mi 111) (k - 1)))), some (.int (nI k)), none] [] m2 ml := by
    intro q
    induction q with
    | zero =>
      intro k e h0 m2 k2 hh
      have e : k = m := e
      subst e
      exact bk_211_47 (pk_le _ _ (fun _ => hh m2 k2) (fun w => absurd w (Nat.lt_irrefl _)) ((k2 78 5 rfl).trans em) rfl)
    | succ q ih =>
      intro k e6 h0 m2 k2 hh
      obtain ⟨j, ej⟩ : ∃ j, k = j + 1 := ⟨k - 1, by omega⟩
      subst ej
      have l := am_mst_le r e (mi 111) j
      have un : am_mst r e (mi 111) (j + 1) = if am_wil r e (mi 111) (j + 1) ≤ am_wil r e (mi 111) (am_mst r e (mi 111) j) then am_mst r e (mi 111) j else j + 1 := rfl
      rw [show j + 1 - 1 = j from rfl]
      have nx : ∀ m2, am_kp am_F98b mi m2 → am_wp (am_call (d + 4)) mt_211 R 72 [some (.ref 78), some (.int (nI r)), some (.int (nI t)), none, some (.int (nI (am_mst r e (mi 111) j))), some (.int (nI (j + 1))), none] [.int (am_wil r e (mi 111) (j + 1))] m2 ml := by
        intro m2 k2
        refine s72 _ _ _ (by omega) (by omega) m2 k2 (fun m3 k3 => ?_)
        have z := ih (j + 1 + 1) (by omega) (by omega) m3 k3 hh
        rw [show j + 1 + 1 - 1 = j + 1 from rfl, un] at z
        refine bk_211_95 ⟨fun w => bk_211_98 ?_, fun w => bk_211_98 ?_⟩
        · rw [if_pos w] at z
          rw [nI_1]
          exact z
        · rw [if_neg w] at z
          rw [nI_1]
          exact z
      have ck : (nI (j + 1)).toNatClampNeg = j + 1 := nI_clamp (by omega)
      have vk : vp_in (nI (j + 1)) 5 := vp_in_nI (by omega) (by omega)
      refine bk_211_47 (pk_le m (j + 1) (fun w => absurd w (by omega)) (fun _ => ?_) ((k2 78 5 rfl).trans em) rfl)
      rw [ck, ct, k2 109 t rfl, ho]
      refine ⟨fun w => ⟨vk, ?_⟩, fun w => ⟨vt, sp_208 (am_lwr_kM hl k2) (am_cm_kM hc k2) hu (show j + 1 < m by omega) hon rfl rfl (fun m3 k3 => am_ri_i ⟨vk, ?_⟩)⟩⟩
      · have z := nx m2 k2
        rw [wn (j + 1) (fun q => w (e3.mpr q))] at z
        rw [k2 111 (j + 1) rfl]
        exact z
      · have z := nx m3 (am_kp_t k2 k3)
        rw [wy (j + 1) (e3.mp (Decidable.not_not.mp w))] at z
        rw [ee, k3 111 (j + 1) rfl, k2 111 (j + 1) rfl]
        exact z
  have nz : ¬ nI m = 0 := fun q => absurd ((nI_eq (a := m) (b := 0) (by omega) (by omega)).mp q) (by omega)
  have tm : (2 : Int32) * nI m = nI (2 * m) := pk_mul (a := 2) (b := m)
  have nz2 : ¬ nI (2 * m) = 0 := fun q => absurd ((nI_eq (a := 2 * m) (b := 0) (by omega) (by omega)).mp q) (by omega)
  have r1 : am_rem (nI t) (nI m) = nI (t % m) := pk_rem (by omega) (by omega) (by omega)
  have r2 : am_rem (nI t) (nI (2 * m)) = nI (t % (2 * m)) := pk_rem (by omega) (by omega) (by omega)
  have l1 := Nat.mod_lt t hm
  have l2 := Nat.mod_lt t (show 2 * m > 0 by omega)
  have g0 := h mi am_kp_r
  unfold am_who at g0
  refine bk_211 ?_
  rw [em, tm, r1, r2]
  refine ⟨nz2, fun w0 => ⟨fun w1 => ⟨fun w2 => ?_, fun w2 => ?_⟩, fun w1 => ⟨nz, vp_in_nI (by omega) (by omega), ?_⟩⟩, fun w0 => ⟨nz, ?_⟩⟩
  · refine loop (m - 1) 1 (by omega) (by omega) mi am_kp_r (fun m3 k3 => ?_)
    have z := h m3 k3
    unfold am_who at z
    rw [if_neg (fun q => w0 (e0.mpr q)), if_neg (fun q => w1 (e1.mpr q)), if_neg (fun q => w2 (e2.mpr q))] at z
    exact z
  · rw [if_neg (fun q => w0 (e0.mpr q)), if_neg (fun q => w1 (e1.mpr q)), if_pos (e2.mp (Decidable.not_not.mp w2))] at g0
    refine pk_le m (t % (2 * m)) (fun q => bk_211_42 ?_) (fun q => bk_211_42 ?_) rfl rfl
    · rw [if_pos q] at g0
      rw [show nI (2 * m) - 1 = nI (2 * m - 1) from pk_sub (b := 1) (by omega), show nI (2 * m - 1) - nI (t % (2 * m)) = nI (2 * m - 1 - t % (2 * m)) from pk_sub (by omega)]
      exact g0
    · rw [if_neg (by omega)] at g0
      exact g0
  · rw [if_neg (fun q => w0 (e0.mpr q)), if_pos (e1.mp (Decidable.not_not.mp w1))] at g0
    rw [nI_clamp (by omega), hg _ l1]
    exact g0
  · rw [if_pos (e0.mp (Decidable.not_not.mp w0))] at g0
    exact g0
/-- fill -/
theorem sp_275 {x : Nat} {y : Int32} (hk : am_kd x = 2) (hn : am_n x < 1000) (h : ∀ m2, am_kp (fun c _ => decide (c = x)) mi m2 → (∀ j, j < am_n x → m2 x j = y) → R none m2 ml) : am_call (d + 1) 275 [.ref x, .int y] mi ml R := by
  refine bk_275 (am_need_i (by rw [hk]; rfl) ?_)
  rw [am_len2 hk]
  have loop : ∀ q k, k + q = am_n x → ∀ m2, am_kp (fun c _ => decide (c = x)) mi m2 → (∀ j, j < k → m2 x j = y) → am_wp (am_call d) mt_275 R 5 [some (.ref x), some (.int y), some (.int (nI k)), some (.int (nI (am_n x)))] [] m2 ml := by
    intro q
    induction q with
    | zero =>
      intro k e m2 k2 h2
      have e : k = am_n x := e
      rw [e] at h2 ⊢
      exact bk_275_5 (pk_le _ _ (fun _ => h m2 k2 h2) (fun w => absurd w (Nat.lt_irrefl _)) rfl rfl)
    | succ q ih =>
      intro k e m2 k2 h2
      refine bk_275_5 (pk_le (am_n x) k (fun w => absurd w (by omega)) (fun _ => am_need_i (by rw [hk]; rfl) ⟨vp_in_nI (by omega) (by omega), ?_⟩) rfl rfl)
      rw [nI_clamp (by omega), nI_1]
      refine ih (k + 1) (by omega) _ (am_kp_u k2 (decide_eq_true rfl)) (fun j hj => ?_)
      by_cases e2 : j = k
      · rw [e2, am_ui_k]
      · rw [am_ui_n (fun _ w => e2 w)]
        exact h2 j (by omega)
  exact loop (am_n x) 0 (Nat.zero_add _) mi am_kp_r (fun j hj => absurd hj (Nat.not_lt_zero _))
end SP42
