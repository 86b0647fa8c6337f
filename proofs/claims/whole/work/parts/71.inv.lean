/-! what holds before each call of the law, and that each call keeps it -/
def am_H1 (n : Nat) : Nat → Nat → Bool := fun c j => decide (c = 19 ∨ c = 21 ∨ (c = 15 ∧ j = 9) ∨ (c = 22 ∧ (j = 2 ∨ j = 12)) ∨ (23 ≤ c ∧ c ≤ 57) ∨ c = 98 ∨ c = 99 ∨ (109 ≤ c ∧ c ≤ 113) ∨ (79 ≤ c ∧ c ≤ 81 ∧ n ≤ j))
def am_H2 : Nat → Nat → Bool := fun c j => decide (c = 19 ∨ c = 21 ∨ (c = 15 ∧ j = 9) ∨ c = 98 ∨ c = 99 ∨ (59 ≤ c ∧ c ≤ 61) ∨ c = 82 ∨ (100 ≤ c ∧ c ≤ 102) ∨ (c = 78 ∧ (j = 12 ∨ j = 32 ∨ j = 33 ∨ j = 34)))
def am_J (n m : Nat) (u : Nat → Nat → Int32) (P : List (List Nat × List Nat)) (nb v1 v2 : Nat) (mi : am_MI) (ml : am_ML) : Prop :=
  am_X P u n m mi ∧ am_cz m mi ∧ am_sta mi ∧ am_txs mi ∧ am_chg n m mi ∧ am_tap mi ∧ am_deeds n mi ∧ am_pics mi ∧ am_shv nb mi ml ∧ mi 62 1 = nI nb ∧ am_fvn P u n m mi ∧ am_fvi P u n m mi ∧ mi 1 3 = nI v1 ∧ mi 15 7 = nI v2
/-- the law's state, t calls on -/
def am_I (t : Nat) (mi : am_MI) (ml : am_ML) : Prop := ∃ n m u P nb v1 v2, am_J n m u P nb v1 v2 mi ml ∧ v1 + v2 ≤ 40 * t
theorem am_tap_on {a b : am_MI} (h : am_tap a) (h1 : ∀ j, b 16 j = a 16 j) (h2 : ∀ j, b 89 j = a 89 j) (h3 : b 15 1 = a 15 1) (h4 : b 78 13 = a 78 13) : am_tap b := by
  obtain ⟨t, t1, t2, t3, t4⟩ := h
  refine ⟨t, t1, h3.trans t2, h4.trans t3, fun j hj => ?_⟩
  obtain ⟨x, x1, x2, x3⟩ := t4 j hj
  exact ⟨x, x1, (h1 j).trans x2, (h2 j).trans x3⟩
theorem am_shv_m {nb nb2 : Nat} {mi : am_MI} {ml : am_ML} (h : nb ≤ nb2) (h2 : nb2 ≤ 50) (hv : am_shv nb mi ml) : am_shv nb2 mi ml := by
  refine ⟨h2, fun s hs => ?_⟩
  rcases hv.2 s hs with z | ⟨b, z1, z2⟩ | z
  · exact Or.inl z
  · exact Or.inr (Or.inl ⟨b, by omega, z2⟩)
  · exact Or.inr (Or.inr z)
section SP71
variable {n m nb v1 v2 : Nat} {u : Nat → Nat → Int32} {P : List (List Nat × List Nat)} {ml : am_ML}
theorem am_cm_H {a b : am_MI} (h3 : am_cm n m u a) (hk : am_kp (am_H1 n) a b) : am_cm n m u b := by
  refine ⟨h3.1, h3.2.1, (hk 78 0 (decide_eq_false (by omega))).trans h3.2.2.1, (hk 78 5 (decide_eq_false (by omega))).trans h3.2.2.2.1, fun w i hv => ?_⟩
  have hw : w < 10 := by unfold am_val at hv; omega
  have hr := am_mc_r w hw
  have h3w := am_mc_3 w hw
  refine (hk _ _ (decide_eq_false ?_)).trans (h3.2.2.2.2 w i hv)
  by_cases g : 3 ≤ w
  · have := h3w g
    omega
  · have e : am_mj w i = i := if_neg (by omega)
    rw [e]
    have hi : i < n := by unfold am_val at hv; omega
    omega
theorem am_J_V {a b : am_MI} (hJ : am_J n m u P nb v1 v2 a ml) (hk : am_kp (am_H1 n) a b) (kf : am_fvn P u n m b) (kw : am_fvi P u n m b) : am_J n m u P nb v1 v2 b ml := by
  obtain ⟨hX, hz, hs, hx, hc, ht, hd, hp, hv, hb, hf, hw, he1, he2⟩ := hJ
  exact ⟨⟨am_lwr_on hX.1 (hk _ _ (decide_eq_false (by omega))) (hk _ _ (decide_eq_false (by omega))) (hk _ _ (decide_eq_false (by omega))) (fun j => (hk _ _ (decide_eq_false (by omega)))) (fun c j q1 q2 => (hk _ _ (decide_eq_false (by omega)))) (hk _ _ (decide_eq_false (by omega))) (fun j => (hk _ _ (decide_eq_false (by omega)))), am_cx_on hX.2.1 (hk _ _ (decide_eq_false (by omega))) (hk _ _ (decide_eq_false (by omega))) (fun w i hw => (hk _ _ (decide_eq_false (by omega)))), am_cm_H hX.2.2.1 hk, hX.2.2.2⟩, (fun i q1 q2 => ⟨(hk _ _ (decide_eq_false (by omega))).trans (hz i q1 q2).1, (hk _ _ (decide_eq_false (by omega))).trans (hz i q1 q2).2⟩), am_sta_on hs (fun c j q => (hk _ _ (decide_eq_false (by omega)))), am_txs_on hx (fun c j q1 q2 => (hk _ _ (decide_eq_false (by omega)))), am_chg_on hc (fun j => (hk _ _ (decide_eq_false (by omega)))) (fun j => (hk _ _ (decide_eq_false (by omega)))) (fun j => (hk _ _ (decide_eq_false (by omega)))) (hk _ _ (decide_eq_false (by omega))) (hk _ _ (decide_eq_false (by omega))), am_tap_on ht (fun j => (hk _ _ (decide_eq_false (by omega)))) (fun j => (hk _ _ (decide_eq_false (by omega)))) (hk _ _ (decide_eq_false (by omega))) (hk _ _ (decide_eq_false (by omega))), (am_deeds_on hd (fun c j q => by
    have q := of_decide_eq_true q
    exact (hk _ _ (decide_eq_false (by omega))))), (am_pics_on hp (fun c j q => by
    have q := of_decide_eq_true q
    exact (hk _ _ (decide_eq_false (by omega))))), (am_shv_on hv (fun c j q => by
    have q := of_decide_eq_true q
    exact (hk _ _ (decide_eq_false (by omega))))), (hk _ _ (decide_eq_false (by omega))).trans hb, kf, kw, (hk _ _ (decide_eq_false (by omega))).trans he1, (hk _ _ (decide_eq_false (by omega))).trans he2⟩
theorem am_J_D {a b : am_MI} (hJ : am_J n m u P nb v1 v2 a ml) (hk : am_kp am_H2 a b) (kd : am_deeds n b) : am_J n m u P nb v1 v2 b ml := by
  obtain ⟨hX, hz, hs, hx, hc, ht, hd, hp, hv, hb, hf, hw, he1, he2⟩ := hJ
  exact ⟨(⟨am_lwr_on hX.1 (hk _ _ (decide_eq_false (by omega))) (hk _ _ (decide_eq_false (by omega))) (hk _ _ (decide_eq_false (by omega))) (fun j => (hk _ _ (decide_eq_false (by omega)))) (fun c j q1 q2 => (hk _ _ (decide_eq_false (by omega)))) (hk _ _ (decide_eq_false (by omega))) (fun j => (hk _ _ (decide_eq_false (by omega)))), am_cx_on hX.2.1 (hk _ _ (decide_eq_false (by omega))) (hk _ _ (decide_eq_false (by omega))) (fun w i hw => (hk _ _ (decide_eq_false (by omega)))), ⟨hX.2.2.1.1, hX.2.2.1.2.1, (hk _ _ (decide_eq_false (by omega))).trans hX.2.2.1.2.2.1, (hk _ _ (decide_eq_false (by omega))).trans hX.2.2.1.2.2.2.1, fun w i hv => by
      have hr := am_mc_r w (by unfold am_val at hv; omega)
      exact (hk _ _ (decide_eq_false (by omega))).trans (hX.2.2.1.2.2.2.2 w i hv)⟩, hX.2.2.2⟩), (fun i q1 q2 => ⟨(hk _ _ (decide_eq_false (by omega))).trans (hz i q1 q2).1, (hk _ _ (decide_eq_false (by omega))).trans (hz i q1 q2).2⟩), am_sta_on hs (fun c j q => (hk _ _ (decide_eq_false (by omega)))), am_txs_on hx (fun c j q1 q2 => (hk _ _ (decide_eq_false (by omega)))), am_chg_on hc (fun j => (hk _ _ (decide_eq_false (by omega)))) (fun j => (hk _ _ (decide_eq_false (by omega)))) (fun j => (hk _ _ (decide_eq_false (by omega)))) (hk _ _ (decide_eq_false (by omega))) (hk _ _ (decide_eq_false (by omega))), am_tap_on ht (fun j => (hk _ _ (decide_eq_false (by omega)))) (fun j => (hk _ _ (decide_eq_false (by omega)))) (hk _ _ (decide_eq_false (by omega))) (hk _ _ (decide_eq_false (by omega))), kd, (am_pics_on hp (fun c j q => by
    have q := of_decide_eq_true q
    exact (hk _ _ (decide_eq_false (by omega))))), (am_shv_on hv (fun c j q => by
    have q := of_decide_eq_true q
    exact (hk _ _ (decide_eq_false (by omega))))), (hk _ _ (decide_eq_false (by omega))).trans hb, am_fvn_on hX.2.1.2.1 hf (fun c j q1 q2 => (hk _ _ (decide_eq_false (by omega)))), am_fvi_on hw (fun c j q1 q2 => (hk _ _ (decide_eq_false (by omega)))) (hk _ _ (decide_eq_false (by omega))) (hk _ _ (decide_eq_false (by omega))), (hk _ _ (decide_eq_false (by omega))).trans he1, (hk _ _ (decide_eq_false (by omega))).trans he2⟩
theorem am_J_P {a b : am_MI} (hJ : am_J n m u P nb v1 v2 a ml) (hk : am_kp am_F62 a b) (kp : am_pics b) {nb2 : Nat} (h50 : nb ≤ nb2) (h51 : nb2 ≤ 50) (kb : b 62 1 = nI nb2) : am_J n m u P nb2 v1 v2 b ml := by
  obtain ⟨hX, hz, hs, hx, hc, ht, hd, hp, hv, hb, hf, hw, he1, he2⟩ := hJ
  exact ⟨(⟨am_lwr_on hX.1 (hk _ _ (decide_eq_false (by omega))) (hk _ _ (decide_eq_false (by omega))) (hk _ _ (decide_eq_false (by omega))) (fun j => (hk _ _ (decide_eq_false (by omega)))) (fun c j q1 q2 => (hk _ _ (decide_eq_false (by omega)))) (hk _ _ (decide_eq_false (by omega))) (fun j => (hk _ _ (decide_eq_false (by omega)))), am_cx_on hX.2.1 (hk _ _ (decide_eq_false (by omega))) (hk _ _ (decide_eq_false (by omega))) (fun w i hw => (hk _ _ (decide_eq_false (by omega)))), ⟨hX.2.2.1.1, hX.2.2.1.2.1, (hk _ _ (decide_eq_false (by omega))).trans hX.2.2.1.2.2.1, (hk _ _ (decide_eq_false (by omega))).trans hX.2.2.1.2.2.2.1, fun w i hv => by
      have hr := am_mc_r w (by unfold am_val at hv; omega)
      exact (hk _ _ (decide_eq_false (by omega))).trans (hX.2.2.1.2.2.2.2 w i hv)⟩, hX.2.2.2⟩), (fun i q1 q2 => ⟨(hk _ _ (decide_eq_false (by omega))).trans (hz i q1 q2).1, (hk _ _ (decide_eq_false (by omega))).trans (hz i q1 q2).2⟩), am_sta_on hs (fun c j q => (hk _ _ (decide_eq_false (by omega)))), am_txs_on hx (fun c j q1 q2 => (hk _ _ (decide_eq_false (by omega)))), am_chg_on hc (fun j => (hk _ _ (decide_eq_false (by omega)))) (fun j => (hk _ _ (decide_eq_false (by omega)))) (fun j => (hk _ _ (decide_eq_false (by omega)))) (hk _ _ (decide_eq_false (by omega))) (hk _ _ (decide_eq_false (by omega))), am_tap_on ht (fun j => (hk _ _ (decide_eq_false (by omega)))) (fun j => (hk _ _ (decide_eq_false (by omega)))) (hk _ _ (decide_eq_false (by omega))) (hk _ _ (decide_eq_false (by omega))), (am_deeds_on hd (fun c j q => by
    have q := of_decide_eq_true q
    exact (hk _ _ (decide_eq_false (by omega))))), kp, (am_shv_m h50 h51 (am_shv_on hv (fun c j q => by
    have q := of_decide_eq_true q
    exact (hk _ _ (decide_eq_false (by omega)))))), kb, am_fvn_on hX.2.1.2.1 hf (fun c j q1 q2 => (hk _ _ (decide_eq_false (by omega)))), am_fvi_on hw (fun c j q1 q2 => (hk _ _ (decide_eq_false (by omega)))) (hk _ _ (decide_eq_false (by omega))) (hk _ _ (decide_eq_false (by omega))), (hk _ _ (decide_eq_false (by omega))).trans he1, (hk _ _ (decide_eq_false (by omega))).trans he2⟩
theorem am_J_S {a b : am_MI} (hJ : am_J n m u P nb v1 v2 a ml) {ml2 : am_ML} (hk : am_kp am_F66 a b) (kv : am_shv nb b ml2) : am_J n m u P nb v1 v2 b ml2 := by
  obtain ⟨hX, hz, hs, hx, hc, ht, hd, hp, hv, hb, hf, hw, he1, he2⟩ := hJ
  exact ⟨(⟨am_lwr_on hX.1 (hk _ _ (decide_eq_false (by omega))) (hk _ _ (decide_eq_false (by omega))) (hk _ _ (decide_eq_false (by omega))) (fun j => (hk _ _ (decide_eq_false (by omega)))) (fun c j q1 q2 => (hk _ _ (decide_eq_false (by omega)))) (hk _ _ (decide_eq_false (by omega))) (fun j => (hk _ _ (decide_eq_false (by omega)))), am_cx_on hX.2.1 (hk _ _ (decide_eq_false (by omega))) (hk _ _ (decide_eq_false (by omega))) (fun w i hw => (hk _ _ (decide_eq_false (by omega)))), ⟨hX.2.2.1.1, hX.2.2.1.2.1, (hk _ _ (decide_eq_false (by omega))).trans hX.2.2.1.2.2.1, (hk _ _ (decide_eq_false (by omega))).trans hX.2.2.1.2.2.2.1, fun w i hv => by
      have hr := am_mc_r w (by unfold am_val at hv; omega)
      exact (hk _ _ (decide_eq_false (by omega))).trans (hX.2.2.1.2.2.2.2 w i hv)⟩, hX.2.2.2⟩), (fun i q1 q2 => ⟨(hk _ _ (decide_eq_false (by omega))).trans (hz i q1 q2).1, (hk _ _ (decide_eq_false (by omega))).trans (hz i q1 q2).2⟩), am_sta_on hs (fun c j q => (hk _ _ (decide_eq_false (by omega)))), am_txs_on hx (fun c j q1 q2 => (hk _ _ (decide_eq_false (by omega)))), am_chg_on hc (fun j => (hk _ _ (decide_eq_false (by omega)))) (fun j => (hk _ _ (decide_eq_false (by omega)))) (fun j => (hk _ _ (decide_eq_false (by omega)))) (hk _ _ (decide_eq_false (by omega))) (hk _ _ (decide_eq_false (by omega))), am_tap_on ht (fun j => (hk _ _ (decide_eq_false (by omega)))) (fun j => (hk _ _ (decide_eq_false (by omega)))) (hk _ _ (decide_eq_false (by omega))) (hk _ _ (decide_eq_false (by omega))), (am_deeds_on hd (fun c j q => by
    have q := of_decide_eq_true q
    exact (hk _ _ (decide_eq_false (by omega))))), (am_pics_on hp (fun c j q => by
    have q := of_decide_eq_true q
    exact (hk _ _ (decide_eq_false (by omega))))), kv, (hk _ _ (decide_eq_false (by omega))).trans hb, am_fvn_on hX.2.1.2.1 hf (fun c j q1 q2 => (hk _ _ (decide_eq_false (by omega)))), am_fvi_on hw (fun c j q1 q2 => (hk _ _ (decide_eq_false (by omega)))) (hk _ _ (decide_eq_false (by omega))) (hk _ _ (decide_eq_false (by omega))), (hk _ _ (decide_eq_false (by omega))).trans he1, (hk _ _ (decide_eq_false (by omega))).trans he2⟩
theorem am_J_T {a b : am_MI} (hJ : am_J n m u P nb v1 v2 a ml) (hk : am_kp am_Ftp a b) (kt : am_tap b) : am_J n m u P nb v1 v2 b ml := by
  obtain ⟨hX, hz, hs, hx, hc, ht, hd, hp, hv, hb, hf, hw, he1, he2⟩ := hJ
  exact ⟨(⟨am_lwr_on hX.1 (hk _ _ (decide_eq_false (by omega))) (hk _ _ (decide_eq_false (by omega))) (hk _ _ (decide_eq_false (by omega))) (fun j => (hk _ _ (decide_eq_false (by omega)))) (fun c j q1 q2 => (hk _ _ (decide_eq_false (by omega)))) (hk _ _ (decide_eq_false (by omega))) (fun j => (hk _ _ (decide_eq_false (by omega)))), am_cx_on hX.2.1 (hk _ _ (decide_eq_false (by omega))) (hk _ _ (decide_eq_false (by omega))) (fun w i hw => (hk _ _ (decide_eq_false (by omega)))), ⟨hX.2.2.1.1, hX.2.2.1.2.1, (hk _ _ (decide_eq_false (by omega))).trans hX.2.2.1.2.2.1, (hk _ _ (decide_eq_false (by omega))).trans hX.2.2.1.2.2.2.1, fun w i hv => by
      have hr := am_mc_r w (by unfold am_val at hv; omega)
      exact (hk _ _ (decide_eq_false (by omega))).trans (hX.2.2.1.2.2.2.2 w i hv)⟩, hX.2.2.2⟩), (fun i q1 q2 => ⟨(hk _ _ (decide_eq_false (by omega))).trans (hz i q1 q2).1, (hk _ _ (decide_eq_false (by omega))).trans (hz i q1 q2).2⟩), am_sta_on hs (fun c j q => (hk _ _ (decide_eq_false (by omega)))), am_txs_on hx (fun c j q1 q2 => (hk _ _ (decide_eq_false (by omega)))), am_chg_on hc (fun j => (hk _ _ (decide_eq_false (by omega)))) (fun j => (hk _ _ (decide_eq_false (by omega)))) (fun j => (hk _ _ (decide_eq_false (by omega)))) (hk _ _ (decide_eq_false (by omega))) (hk _ _ (decide_eq_false (by omega))), kt, (am_deeds_on hd (fun c j q => by
    have q := of_decide_eq_true q
    exact (hk _ _ (decide_eq_false (by omega))))), (am_pics_on hp (fun c j q => by
    have q := of_decide_eq_true q
    exact (hk _ _ (decide_eq_false (by omega))))), (am_shv_on hv (fun c j q => by
    have q := of_decide_eq_true q
    exact (hk _ _ (decide_eq_false (by omega))))), (hk _ _ (decide_eq_false (by omega))).trans hb, am_fvn_on hX.2.1.2.1 hf (fun c j q1 q2 => (hk _ _ (decide_eq_false (by omega)))), am_fvi_on hw (fun c j q1 q2 => (hk _ _ (decide_eq_false (by omega)))) (hk _ _ (decide_eq_false (by omega))) (hk _ _ (decide_eq_false (by omega))), (hk _ _ (decide_eq_false (by omega))).trans he1, (hk _ _ (decide_eq_false (by omega))).trans he2⟩
theorem am_J_L {a b : am_MI} (hJ : am_J n m u P nb v1 v2 a ml) {P2 : List (List Nat × List Nat)} {w2 : Nat} (hk : am_kp am_F6 a b) (kt : am_tap b) (kl : am_lwr P2 b) (k2 : b 15 7 = nI w2) (kf : am_fvn P2 u n m b) (kw : am_fvi P2 u n m b) : am_J n m u P2 nb v1 w2 b ml := by
  obtain ⟨hX, hz, hs, hx, hc, ht, hd, hp, hv, hb, hf, hw, he1, he2⟩ := hJ
  exact ⟨(⟨kl, am_cx_on hX.2.1 (hk _ _ (decide_eq_false (by omega))) (hk _ _ (decide_eq_false (by omega))) (fun w i hw => (hk _ _ (decide_eq_false (by omega)))), ⟨hX.2.2.1.1, hX.2.2.1.2.1, (hk _ _ (decide_eq_false (by omega))).trans hX.2.2.1.2.2.1, (hk _ _ (decide_eq_false (by omega))).trans hX.2.2.1.2.2.2.1, fun w i hv => by
      have hr := am_mc_r w (by unfold am_val at hv; omega)
      exact (hk _ _ (decide_eq_false (by omega))).trans (hX.2.2.1.2.2.2.2 w i hv)⟩, hX.2.2.2⟩), (fun i q1 q2 => ⟨(hk _ _ (decide_eq_false (by omega))).trans (hz i q1 q2).1, (hk _ _ (decide_eq_false (by omega))).trans (hz i q1 q2).2⟩), am_sta_on hs (fun c j q => (hk _ _ (decide_eq_false (by omega)))), am_txs_on hx (fun c j q1 q2 => (hk _ _ (decide_eq_false (by omega)))), am_chg_on hc (fun j => (hk _ _ (decide_eq_false (by omega)))) (fun j => (hk _ _ (decide_eq_false (by omega)))) (fun j => (hk _ _ (decide_eq_false (by omega)))) (hk _ _ (decide_eq_false (by omega))) (hk _ _ (decide_eq_false (by omega))), kt, (am_deeds_on hd (fun c j q => by
    have q := of_decide_eq_true q
    exact (hk _ _ (decide_eq_false (by omega))))), (am_pics_on hp (fun c j q => by
    have q := of_decide_eq_true q
    exact (hk _ _ (decide_eq_false (by omega))))), (am_shv_on hv (fun c j q => by
    have q := of_decide_eq_true q
    exact (hk _ _ (decide_eq_false (by omega))))), (hk _ _ (decide_eq_false (by omega))).trans hb, kf, kw, (hk _ _ (decide_eq_false (by omega))).trans he1, k2⟩
theorem am_J_C {a b : am_MI} (hJ : am_J n m u P nb v1 v2 a ml) {n2 m2 w1 : Nat} {u2 : Nat → Nat → Int32} (hk : am_kp am_Fch a b) (kx : am_cx n2 m2 u2 b) (km : am_cm n2 m2 u2 b) (ku : am_ur n2 m2 u2) (kz : am_cz m2 b) (kc : am_chg n2 m2 b) (kd : am_deeds n2 b) (k1 : b 1 3 = nI w1) (kf : am_fvn P u2 n2 m2 b) (kw : am_fvi P u2 n2 m2 b) : am_J n2 m2 u2 P nb w1 v2 b ml := by
  obtain ⟨hX, hz, hs, hx, hc, ht, hd, hp, hv, hb, hf, hw, he1, he2⟩ := hJ
  exact ⟨⟨am_lwr_on hX.1 (hk _ _ (decide_eq_false (by omega))) (hk _ _ (decide_eq_false (by omega))) (hk _ _ (decide_eq_false (by omega))) (fun j => (hk _ _ (decide_eq_false (by omega)))) (fun c j q1 q2 => (hk _ _ (decide_eq_false (by omega)))) (hk _ _ (decide_eq_false (by omega))) (fun j => (hk _ _ (decide_eq_false (by omega)))), kx, km, ku⟩, kz, am_sta_on hs (fun c j q => (hk _ _ (decide_eq_false (by omega)))), am_txs_on hx (fun c j q1 q2 => (hk _ _ (decide_eq_false (by omega)))), kc, am_tap_on ht (fun j => (hk _ _ (decide_eq_false (by omega)))) (fun j => (hk _ _ (decide_eq_false (by omega)))) (hk _ _ (decide_eq_false (by omega))) (hk _ _ (decide_eq_false (by omega))), kd, (am_pics_on hp (fun c j q => by
    have q := of_decide_eq_true q
    exact (hk _ _ (decide_eq_false (by omega))))), (am_shv_on hv (fun c j q => by
    have q := of_decide_eq_true q
    exact (hk _ _ (decide_eq_false (by omega))))), (hk _ _ (decide_eq_false (by omega))).trans hb, kf, kw, k1, (hk _ _ (decide_eq_false (by omega))).trans he2⟩
theorem am_fvn_le {a : am_MI} (h : am_fvn P u n m a) (e1 : a 1 3 = nI v1) (e2 : a 15 7 = nI v2) (hv : v1 + v2 < 2 ^ 31) : (a 22 2).toInt ≤ ((v1 + v2 : Nat) : Int) := by
  rcases h with h | h
  · rw [h.2.2.2.2, e1, e2, nI_add, am_ti hv]
    exact Int.le_refl _
  · rw [e1, e2, nI_add, am_ti hv] at h
    omega
theorem am_fvi_le {a : am_MI} (h : am_fvi P u n m a) (e1 : a 1 3 = nI v1) (e2 : a 15 7 = nI v2) (hv : v1 + v2 < 2 ^ 31) : (a 47 2).toInt ≤ ((v1 + v2 : Nat) : Int) := by
  rcases h with h | h
  · rw [h.1, e1, e2, nI_add, am_ti hv]
    exact Int.le_refl _
  · rw [e1, e2, nI_add, am_ti hv] at h
    omega
/-- what is kept is of an elder version -/
theorem am_new {n2 m2 w1 w2 : Nat} {u2 : Nat → Nat → Int32} {P2 : List (List Nat × List Nat)} {a b : am_MI} (hf : am_fvn P u n m a) (hw : am_fvi P u n m a) (e1 : a 1 3 = nI v1) (e2 : a 15 7 = nI v2) (h22 : b 22 2 = a 22 2) (h47 : b 47 2 = a 47 2) (k1 : b 1 3 = nI w1) (k2 : b 15 7 = nI w2) (hlt : v1 + v2 < w1 + w2) (hs : w1 + w2 < 2 ^ 31) : am_fvn P2 u2 n2 m2 b ∧ am_fvi P2 u2 n2 m2 b := by
  have l1 := am_fvn_le hf e1 e2 (by omega)
  have l2 := am_fvi_le hw e1 e2 (by omega)
  refine ⟨Or.inr ?_, Or.inr ?_⟩
  · rw [h22, k1, k2, nI_add, am_ti hs]
    omega
  · rw [h47, k1, k2, nI_add, am_ti hs]
    omega
theorem am_ur_u {w i p : Nat} (h : am_ur n m u) (h1 : am_lo w ≤ p) (h2 : p ≤ am_hi w) : am_ur n m (am_uu u w i (nI p)) := fun w2 i2 hv => by
  by_cases e : w2 = w ∧ i2 = i
  · obtain ⟨e1, e2⟩ := e
    subst e1
    subst e2
    exact ⟨p, h1, h2, am_uu_k⟩
  · rw [am_uu_n (fun a b => e ⟨a, b⟩)]
    exact h w2 i2 hv
/-- a number's range, for a place that is new -/
theorem am_ur_w {N M : Nat} {w i p : Nat} {x : Int32} (h : ∀ w2 i2, am_val N M w2 i2 → (w2 = w → ¬ i2 = i) → ∃ k, am_lo w2 ≤ k ∧ k ≤ am_hi w2 ∧ u w2 i2 = nI k) (h1 : am_lo w ≤ p) (h2 : p ≤ am_hi w) (hx : x = nI p) : am_ur N M (am_uu u w i x) := fun w2 i2 hv => by
  by_cases e : w2 = w ∧ i2 = i
  · obtain ⟨e1, e2⟩ := e
    subst e1
    subst e2
    exact ⟨p, h1, h2, am_uu_k.trans hx⟩
  · rw [am_uu_n (fun a b => e ⟨a, b⟩)]
    exact h w2 i2 hv (fun a b => e ⟨a, b⟩)
theorem am_ur_d {k1 k2 k3 : Nat} {x y z : Int32} (h : am_ur n m u) (h1 : 1 ≤ k1) (h2 : k1 ≤ 24) (h3 : k2 ≤ 7) (h4 : 1 ≤ k3) (h5 : k3 ≤ 9) (hx : x = nI k1) (hy : y = nI k2) (hz : z = nI k3) : am_ur (n + 1) m (am_uu (am_uu (am_uu u 0 n x) 1 n y) 2 n z) := fun w i hv => by
  by_cases e2 : w = 2 ∧ i = n
  · obtain ⟨a, b⟩ := e2
    subst a
    subst b
    exact ⟨k3, h4, h5, am_uu_k.trans hz⟩
  rw [am_uu_n (fun a b => e2 ⟨a, b⟩)]
  by_cases e1 : w = 1 ∧ i = n
  · obtain ⟨a, b⟩ := e1
    subst a
    subst b
    exact ⟨k2, Nat.zero_le _, h3, am_uu_k.trans hy⟩
  rw [am_uu_n (fun a b => e1 ⟨a, b⟩)]
  by_cases e0 : w = 0 ∧ i = n
  · obtain ⟨a, b⟩ := e0
    subst a
    subst b
    exact ⟨k1, h1, h2, am_uu_k.trans hx⟩
  rw [am_uu_n (fun a b => e0 ⟨a, b⟩)]
  refine h w i ?_
  unfold am_val at hv ⊢
  omega
theorem am_ur_c {k1 k2 : Nat} {x y : Int32} (h : am_ur n m u) (h1 : 1 ≤ k1) (h2 : k1 ≤ 18) (h3 : k2 ≤ 7) (hx : x = nI k1) (hy : y = nI k2) : am_ur n (m + 1) (am_uu (am_uu (am_uu (am_uu (am_uu u 3 m x) 4 m y) 5 m 5) 6 m 0) 7 m 0) := fun w i hv => by
  by_cases e7 : w = 7 ∧ i = m
  · obtain ⟨a, b⟩ := e7
    subst a
    subst b
    exact ⟨0, Nat.zero_le _, Nat.zero_le _, am_uu_k⟩
  rw [am_uu_n (fun a b => e7 ⟨a, b⟩)]
  by_cases e6 : w = 6 ∧ i = m
  · obtain ⟨a, b⟩ := e6
    subst a
    subst b
    exact ⟨0, Nat.zero_le _, Nat.zero_le _, am_uu_k⟩
  rw [am_uu_n (fun a b => e6 ⟨a, b⟩)]
  by_cases e5 : w = 5 ∧ i = m
  · obtain ⟨a, b⟩ := e5
    subst a
    subst b
    exact ⟨5, Nat.zero_le _, by decide, am_uu_k⟩
  rw [am_uu_n (fun a b => e5 ⟨a, b⟩)]
  by_cases e4 : w = 4 ∧ i = m
  · obtain ⟨a, b⟩ := e4
    subst a
    subst b
    exact ⟨k2, Nat.zero_le _, h3, am_uu_k.trans hy⟩
  rw [am_uu_n (fun a b => e4 ⟨a, b⟩)]
  by_cases e3 : w = 3 ∧ i = m
  · obtain ⟨a, b⟩ := e3
    subst a
    subst b
    exact ⟨k1, h1, h2, am_uu_k.trans hx⟩
  rw [am_uu_n (fun a b => e3 ⟨a, b⟩)]
  refine h w i ?_
  unfold am_val at hv ⊢
  omega
theorem am_ur_ds {l p : Nat} {f : Nat → Int32} (h : am_ur n m u) : ∀ k, (∀ j, j < k → am_dok n l p f j) → am_ur (n + k) m (am_du u n f k)
  | 0, _ => h
  | k + 1, hd => by
    have ih := am_ur_ds h k (fun j hj => hd j (by omega))
    obtain ⟨d1, d2, d3, d4, d5⟩ := hd k (by omega)
    obtain ⟨a, ha, ea⟩ := am_nat (x := f (3 * k)) (n := 25) (by omega) (by omega)
    obtain ⟨b, hb, eb⟩ := am_nat (x := f (3 * k + 1)) (n := 8) (by omega) (by omega)
    obtain ⟨c, hc, ec⟩ := am_nat (x := f (3 * k + 2)) (n := 10) (by omega) (by omega)
    rw [ea, am_ti (by omega)] at d3
    rw [ec, am_ti (by omega)] at d5
    exact am_ur_d (n := n + k) ih (by omega) (by omega) (by omega) (by omega) (by omega) ea eb ec
theorem am_chg_m {n2 m2 : Nat} {mi : am_MI} (h : am_chg n m mi) (hn : n ≤ n2) (hm : m ≤ m2) : am_chg n2 m2 mi := by
  obtain ⟨k, c, c1, c2, c3, c4, c5, c6, c7, c8⟩ := h
  refine ⟨k, c, c1, c2, c3, c4, c5, c6, c7, fun j hj => ?_⟩
  obtain ⟨w, i, p, q, hv, r⟩ := c8 j hj
  refine ⟨w, i, p, q, ?_, r⟩
  unfold am_val at hv ⊢
  omega
/-- deeds, when doors came -/
theorem am_deeds_n {n2 : Nat} {a b : am_MI} (h : am_deeds n a) (hn : n ≤ n2) (h12 : n2 ≤ 12) (he : ∀ c j, am_F59 c j = true → ¬ c = 82 → b c j = a c j) (h82 : ∀ j, j < n → b 82 j = a 82 j) (hnew : ∀ j, n ≤ j → j < n2 → b 82 j = -2) : am_deeds n2 b := by
  obtain ⟨t, t1, t2, t3, t4, t5, t6, t7, t8, t9⟩ := h
  have E : ∀ c j, am_F59 c j = true → ¬ c = 82 → b c j = a c j := he
  refine ⟨t, t1, (E 59 2 rfl (by decide)).trans t2, (E 78 12 rfl (by decide)).trans t3, ?_, ?_, ?_, fun j hj => ?_, fun j h1 h2 => ?_, ?_⟩
  · rw [E 59 3 rfl (by decide), E 100 0 rfl (by decide)]
    exact t4
  · rw [E 59 4 rfl (by decide), E 100 1 rfl (by decide)]
    exact t5
  · rw [E 59 5 rfl (by decide), E 100 2 rfl (by decide)]
    exact t6
  · rw [E 60 j rfl (by decide)]
    by_cases g : j < n
    · rw [h82 j g]
      exact t7 j g
    · rw [hnew j (by omega) hj]
      exact t8 j (by omega) (by omega)
  · rw [E 60 j rfl (by decide)]
    exact t8 j (by omega) h2
  · rcases t9 with ⟨z1, z2⟩ | ⟨z1, z2, t', o, z3, z4, z5, z6, z7, z8, z9, z10, z11, z12⟩
    · exact Or.inl ⟨(E 59 6 rfl (by decide)).trans z1, (E 78 32 rfl (by decide)).trans z2⟩
    · refine Or.inr ⟨(E 59 6 rfl (by decide)).trans z1, (E 78 32 rfl (by decide)).trans z2, t', o, z3, by omega, (E 59 8 rfl (by decide)).trans z5, (E 78 34 rfl (by decide)).trans z6, (E 78 33 rfl (by decide)).trans z7, ?_, ?_, ?_, fun j hj => ?_, fun j h1 h2 => ?_⟩
      · rw [E 59 9 rfl (by decide), E 102 0 rfl (by decide)]
        exact z8
      · rw [E 59 10 rfl (by decide), E 102 1 rfl (by decide)]
        exact z9
      · rw [E 59 11 rfl (by decide), E 102 2 rfl (by decide)]
        exact z10
      · rw [E 61 j rfl (by decide), E 101 j rfl (by decide)]
        exact z11 j hj
      · rw [E 61 j rfl (by decide)]
        exact z12 j h1 h2
end SP71
