/-! twins: doors beyond the calendar's own, too; the order kept -/
def am_cn (n m : Nat) (u : Nat → Nat → Int32) (mi : am_MI) : Prop := n ≤ 24 ∧ m ≤ 5 ∧ True ∧ mi 78 5 = nI m ∧ ∀ w i, am_val n m w i → mi (am_mc w) (am_mj w i) = u w i
section SP57
variable {d n m : Nat} {u : Nat → Nat → Int32} {mi : am_MI} {ml : am_ML} {R : am_R} {r : Nat} {P : List (List Nat × List Nat)} {Q : Int32 → Int32 → am_MI → am_ML → Prop}
theorem am_cn_of (h : am_cm n m u mi) : am_cn n m u mi := ⟨by have := h.1; omega, h.2.1, trivial, h.2.2.2.1, h.2.2.2.2⟩
theorem am_cn_kG {a b : am_MI} (h : am_cn n m u a) (hk : am_kp am_FG a b) : am_cn n m u b := by
  refine ⟨h.1, h.2.1, trivial, (hk 78 5 rfl).trans h.2.2.2.1, fun w i hv => ?_⟩
  have hr := am_mc_r w (by unfold am_val at hv; omega)
  exact (hk _ _ (decide_eq_false (by omega))).trans (h.2.2.2.2 w i hv)
theorem am_cn_kM {a b : am_MI} (h : am_cn n m u a) (hk : am_kp am_F98b a b) : am_cn n m u b := am_cn_kG h (am_kG_m hk)
theorem sp_204c {x y z : Int32} {a b : Nat} (hl : am_lwr P mi) (hc : am_cn n m u mi) (ha : a < m) (hb : b < n) (hx : x = nI a) (hy : y = nI b) (h : ∀ m3, am_kp am_F98b mi m3 → R (some (.int (am_wo P u a b (u 2 b) z))) m3 ml) : am_call (d + 3) 204 [.ref 78, .int x, .int y, .int z] mi ml R := by
  subst hx
  subst hy
  have hn := hc.1
  have hm := hc.2.1
  have ca : (nI a).toNatClampNeg = a := nI_clamp (by omega)
  have cb : (nI b).toNatClampNeg = b := nI_clamp (by omega)
  have v5 : vp_in (nI a) 5 := vp_in_nI (by omega) (by omega)
  have v24 : vp_in (nI b) 24 := vp_in_nI (by omega) (by omega)
  have u0 : mi 79 b = u 0 b := hc.2.2.2.2 0 b (am_vd (by omega) hb)
  have u1 : mi 80 b = u 1 b := hc.2.2.2.2 1 b (am_vd (by omega) hb)
  have u2 : mi 81 b = u 2 b := hc.2.2.2.2 2 b (am_vd (by omega) hb)
  have u3 : mi 83 a = u 3 a := hc.2.2.2.2 3 a (am_vc (by omega) (by omega) ha)
  have u4 : mi 84 a = u 4 a := hc.2.2.2.2 4 a (am_vc (by omega) (by omega) ha)
  have u8 : mi 88 0 = u 8 0 := hc.2.2.2.2 8 0 (am_vs (by omega) (by omega))
  have u9 : mi 88 1 = u 9 0 := hc.2.2.2.2 9 0 (am_vs (by omega) (by omega))
  have c0 : (0 : Int32).toNatClampNeg = 0 := rfl
  have c1 : (1 : Int32).toNatClampNeg = 1 := rfl
  have c2 : (2 : Int32).toNatClampNeg = 2 := rfl
  have c3 : (3 : Int32).toNatClampNeg = 3 := rfl
  have c4 : (4 : Int32).toNatClampNeg = 4 := rfl
  have c5 : (5 : Int32).toNatClampNeg = 5 := rfl
  have main : ∀ s : Int32, s = am_lik u a b → am_wp (am_call (d + 2)) mt_204 R 23 [some (.ref 78), some (.int (nI a)), some (.int (nI b)), some (.int z), none] [.int s, .int 1, .ref 99] (am_ui mi 99 0 (mi 81 b)) ml := by
    intro s hs
    refine bk_204_23 ⟨am_vp (by decide) (by decide), v24, am_vp (by decide) (by decide), v5, am_vp (by decide) (by decide), am_vp (by decide) (by decide), am_vp (by decide) (by decide), am_vp (by decide) (by decide), ?_⟩
    rw [c0, c1, c2, c3, c4, c5, ca, cb]
    simp only [am_ui_c (show ¬ 81 = 99 by omega), am_ui_c (show ¬ 79 = 99 by omega), am_ui_c (show ¬ 83 = 99 by omega), am_ui_c (show ¬ 88 = 99 by omega), am_ui_c (show ¬ 78 = 99 by omega), u0, u2, u3, u8, u9]
    generalize hM : am_ui (am_ui (am_ui (am_ui (am_ui (am_ui mi 99 0 (u 2 b)) 99 1 s) 99 2 (u 0 b)) 99 3 (u 3 a)) 99 4 z) 99 5 (u 8 0) = M
    have kM : ∀ c j, ¬ c = 99 → M c j = mi c j := fun c j q => by
      rw [← hM, am_ui_c q, am_ui_c q, am_ui_c q, am_ui_c q, am_ui_c q, am_ui_c q]
    have kk : am_kp am_F98b mi M := fun c j q => kM c j (by have := of_decide_eq_false q; omega)
    have hσ : ∀ t, t < 6 → M 99 t = am_nm u a b (u 2 b) z t := by
      intro t ht
      have : t = 0 ∨ t = 1 ∨ t = 2 ∨ t = 3 ∨ t = 4 ∨ t = 5 := by omega
      rw [← hM]
      rcases this with e | e | e | e | e | e <;> subst e
      · rw [am_ui_n (by omega), am_ui_n (by omega), am_ui_n (by omega), am_ui_n (by omega), am_ui_n (by omega), am_ui_k]
        rfl
      · rw [am_ui_n (by omega), am_ui_n (by omega), am_ui_n (by omega), am_ui_n (by omega), am_ui_k]
        exact hs
      · rw [am_ui_n (by omega), am_ui_n (by omega), am_ui_n (by omega), am_ui_k]
        rfl
      · rw [am_ui_n (by omega), am_ui_n (by omega), am_ui_k]
        rfl
      · rw [am_ui_n (by omega), am_ui_k]
        rfl
      · rw [am_ui_k]
        rfl
    obtain ⟨g1, g2, g3, g4, g5, g6, g7, g8, g9, g10⟩ := hl
    rcases g5 with ⟨t0, p0⟩ | ⟨t1, p1⟩
    · rw [t0]
      refine am_nn ⟨v24, am_vp (by decide) (by decide), am_vp (by decide) (by decide), ?_⟩
      rw [hσ 1 (by omega)]
      have z2 := h M kk
      unfold am_wo at z2
      rw [if_pos p0] at z2
      exact z2
    · rw [t1]
      refine am_yn ?_
      refine sp_204l hσ ((kM 78 16 (by omega)).trans g6) g2 P 0 0 g1 (am_mln_on (fun c j q1 q2 => kM c j (by omega)) P 0 0 g7) (Nat.zero_add _) (by omega) M am_kp_r (fun m3 k3 => ?_)
      have z2 := h m3 (am_kp_t kk (am_kp_w k3 (fun c j q => decide_eq_false (by have := of_decide_eq_false q; omega))))
      unfold am_wo at z2
      rw [if_neg p1] at z2
      exact z2
  refine bk_204 ⟨v24, am_vp (by decide) (by decide), v24, v5, ?_⟩
  rw [c0, ca, cb, u1, u4]
  refine ⟨fun w => main 0 ?_, fun w => main 1 ?_⟩
  · unfold am_lik
    rw [if_neg w]
  · unfold am_lik
    rw [if_pos (Decidable.not_not.mp w)]
theorem sp_206c {x z : Int32} {c : Nat} (hc : am_cn n m u mi) (hr : am_ur n m u) (hcm : c < m) (hx : x = nI c) (h1 : am_aw u c z → R (some (.int 1)) mi ml) (h0 : ¬ am_aw u c z → R (some (.int 0)) mi ml) : am_call (d + 2) 206 [.ref 78, .int x, .int z] mi ml R := by
  subst hx
  have hm := hc.2.1
  have cc : (nI c).toNatClampNeg = c := nI_clamp (by omega)
  have v5 : vp_in (nI c) 5 := vp_in_nI (by omega) (by omega)
  have u6 : mi 86 c = u 6 c := hc.2.2.2.2 6 c (am_vc (by omega) (by omega) hcm)
  have u7 : mi 87 c = u 7 c := hc.2.2.2.2 7 c (am_vc (by omega) (by omega) hcm)
  refine bk_206 ⟨v5, ?_⟩
  rw [cc, u6, u7]
  refine ⟨fun w => ⟨am_b0, h0 (fun q => ?_)⟩, fun w => ⟨v5, v5, sp_168 (fun a b => am_ri_i (am_y ⟨am_b1, h1 ⟨?_, a, b⟩⟩)) (fun g => am_ri_i (am_n0 ⟨am_b0, h0 (fun q => ?_)⟩))⟩⟩
  · have q := q.1
    rw [am_le_i, am_l0] at w
    omega
  · rw [am_le_i, am_l0] at w
    omega
  · have q := q.2
    omega
theorem sp_207c {x z : Int32} {c i : Nat} (hc : am_cn n m u mi) (hr : am_ur n m u) (hcm : c < m) (hin : i < n) (hx : x = nI c) (hz : z = nI i) (h1 : am_nev u c i → R (some (.int (-2))) mi ml) (h0 : ¬ am_nev u c i → R (some (.int (am_lat u c i))) mi ml) : am_call (d + 3) 207 [.ref 78, .int x, .int z] mi ml R := by
  subst hx
  subst hz
  have hn := hc.1
  have hm := hc.2.1
  have cc : (nI c).toNatClampNeg = c := nI_clamp (by omega)
  have ci : (nI i).toNatClampNeg = i := nI_clamp (by omega)
  have v5 : vp_in (nI c) 5 := vp_in_nI (by omega) (by omega)
  have v24 : vp_in (nI i) 24 := vp_in_nI (by omega) (by omega)
  have u0 : mi 79 i = u 0 i := hc.2.2.2.2 0 i (am_vd (by omega) hin)
  have u7 : mi 87 c = u 7 c := hc.2.2.2.2 7 c (am_vc (by omega) (by omega) hcm)
  refine bk_207 ⟨v24, ?_⟩
  rw [ci, u0]
  refine sp_206c hc hr hcm rfl (fun q => am_ri_i (am_yn ⟨v5, ?_⟩)) (fun q => am_ri_i (am_nn ?_))
  · rw [cc, u7]
    refine ⟨fun w => ⟨v5, v24, ?_⟩, fun w => h1 ⟨q, ?_⟩⟩
    · have g := h0 (fun p => w (by rw [am_eq_i]; exact p.2))
      unfold am_lat at g
      rw [if_pos q] at g
      rw [u0]
      exact g
    · rw [Decidable.not_not.mp w]
      rfl
  · have g := h0 (fun p => q p.1)
    unfold am_lat at g
    rw [if_neg q] at g
    exact g
theorem sp_208c {x y : Int32} {a b : Nat} (hl : am_lwr P mi) (hc : am_cn n m u mi) (hr : am_ur n m u) (ha : a < m) (hb : b < n) (hx : x = nI a) (hy : y = nI b) (h : ∀ m3, am_kp am_F98b mi m3 → R (some (.int (am_ea P u a b (u 2 b)))) m3 ml) : am_call (d + 4) 208 [.ref 78, .int x, .int y] mi ml R := by
  refine bk_208 (sp_207c hc hr ha hb hx hy (fun q => am_ri_i ⟨fun w => absurd rfl w, fun _ => ?_⟩) (fun q => am_ri_i ⟨fun _ => sp_204c hl hc ha hb hx hy (fun m3 k => am_ri_i ?_), fun w => ?_⟩))
  · have z2 := h mi am_kp_r
    unfold am_ea at z2
    rw [if_pos q] at z2
    exact z2
  · have z2 := h m3 k
    unfold am_ea at z2
    obtain ⟨k2, l2, h2, e2⟩ := hr 2 b (am_vd (by omega) hb)
    have l2 : 1 ≤ k2 := l2
    have h2 : k2 ≤ 9 := h2
    rw [if_neg q, if_neg (fun g => by
      rw [e2, am_eq_i, am_ti (by omega), am_l0] at g
      omega)] at z2
    exact z2
  · exfalso
    have := am_lat_p hr ha hb
    rw [Decidable.not_not.mp w] at this
    exact absurd this (by decide)
theorem sp_211c {y z : Int32} {g o : Nat → Nat} {t : Nat} (hr : r < 5) (ht : t < 24) (hl : am_lwr P mi) (hc : am_cn n m u mi) (hu : am_ur n m u) (hm : 0 < m) (hg : ∀ j, j < m → mi 112 j = nI (g j)) (ho : mi 109 t = nI (o t)) (hon : o t < n) (hy : y = nI r) (hz : z = nI t)
    (h : ∀ m2, am_kp am_F98b mi m2 → R (some (.int (nI (am_who r m g (fun c => am_ea P u c (o t) (u 2 (o t))) (mi 111) t)))) m2 ml) : am_call (d + 5) 211 [.ref 78, .int y, .int z] mi ml R := by
  subst hy
  subst hz
  have hm5 := hc.2.1
  have em : mi 78 5 = nI m := hc.2.2.2.1
  have ct : (nI t).toNatClampNeg = t := nI_clamp (by omega)
  have vt : vp_in (nI t) 24 := vp_in_nI ht (by omega)
  have e0 : nI r = 0 ↔ r = 0 := nI_eq (a := r) (b := 0) (by omega) (by omega)
  have e1 : nI r = 1 ↔ r = 1 := nI_eq (a := r) (b := 1) (by omega) (by omega)
  have e2 : nI r = 2 ↔ r = 2 := nI_eq (a := r) (b := 2) (by omega) (by omega)
  have e3 : nI r = 3 ↔ r = 3 := nI_eq (a := r) (b := 3) (by omega) (by omega)
  generalize he : (fun c => am_ea P u c (o t) (u 2 (o t))) = e at h
  have ee : ∀ c, am_ea P u c (o t) (u 2 (o t)) = e c := fun c => by rw [← he]
  have wy : ∀ c, r = 3 → am_wil r e (mi 111) c = e c - mi 111 c := fun c q => if_pos q
  have wn : ∀ c, ¬ r = 3 → am_wil r e (mi 111) c = -(mi 111 c) := fun c q => if_neg q
  have s72 : ∀ b k (v : Int32), b < m → k < m → ∀ m2, am_kp am_F98b mi m2 → (∀ m3, am_kp am_F98b mi m3 → am_wp (am_call (d + 4)) mt_211 R 95 [some (.ref 78), some (.int (nI r)), some (.int (nI t)), none, some (.int (nI b)), some (.int (nI k)), none] [.int (am_wil r e (mi 111) b), .int v] m3 ml) →
      am_wp (am_call (d + 4)) mt_211 R 72 [some (.ref 78), some (.int (nI r)), some (.int (nI t)), none, some (.int (nI b)), some (.int (nI k)), none] [.int v] m2 ml := by
    intro b k v hb hk m2 k2 hh
    have cb : (nI b).toNatClampNeg = b := nI_clamp (by omega)
    have vb : vp_in (nI b) 5 := vp_in_nI (by omega) (by omega)
    refine bk_211_72 ?_
    rw [cb, ct, k2 109 t rfl, ho]
    refine ⟨fun w => ⟨vb, ?_⟩, fun w => ⟨vt, sp_208c (am_lwr_kM hl k2) (am_cn_kM hc k2) hu hb hon rfl rfl (fun m3 k3 => am_ri_i ⟨vb, ?_⟩)⟩⟩
    · have z := hh m2 k2
      rw [wn b (fun q => w (e3.mpr q))] at z
      rw [k2 111 b rfl]
      exact z
    · have z := hh m3 (am_kp_t k2 k3)
      rw [wy b (e3.mp (Decidable.not_not.mp w))] at z
      rw [ee, k3 111 b rfl, k2 111 b rfl]
      exact z
  have loop : ∀ q k, k + q = m → 0 < k → ∀ m2, am_kp am_F98b mi m2 → (∀ m3, am_kp am_F98b mi m3 → R (some (.int (nI (am_mst r e (mi 111) (m - 1))))) m3 ml) → am_wp (am_call (d + 4)) mt_211 R 47 [some (.ref 78), some (.int (nI r)), some (.int (nI t)), none, some (.int (nI (am_mst r e (mi 111) (k - 1)))), some (.int (nI k)), none] [] m2 ml := by
    intro q
    induction q with
    | zero =>
      intro k e h0 m2 k2 hh
      have e : k = m := e
      subst e
      exact bk_211_47 (pk_le _ _ (fun _ => hh m2 k2) (fun w => absurd w (Nat.lt_irrefl _)) ((k2 78 5 rfl).trans em) rfl)
    | succ q ih =>
      intro k e6 h0 m2 k2 hh
      obtain ⟨j, ej⟩ : ∃ j, k = j + 1 := ⟨k - 1, by omega⟩
      subst ej
      have l := am_mst_le r e (mi 111) j
      have un : am_mst r e (mi 111) (j + 1) = if am_wil r e (mi 111) (j + 1) ≤ am_wil r e (mi 111) (am_mst r e (mi 111) j) then am_mst r e (mi 111) j else j + 1 := rfl
      rw [show j + 1 - 1 = j from rfl]
      have nx : ∀ m2, am_kp am_F98b mi m2 → am_wp (am_call (d + 4)) mt_211 R 72 [some (.ref 78), some (.int (nI r)), some (.int (nI t)), none, some (.int (nI (am_mst r e (mi 111) j))), some (.int (nI (j + 1))), none] [.int (am_wil r e (mi 111) (j + 1))] m2 ml := by
        intro m2 k2
        refine s72 _ _ _ (by omega) (by omega) m2 k2 (fun m3 k3 => ?_)
        have z := ih (j + 1 + 1) (by omega) (by omega) m3 k3 hh
        rw [show j + 1 + 1 - 1 = j + 1 from rfl, un] at z
        refine bk_211_95 ⟨fun w => bk_211_98 ?_, fun w => bk_211_98 ?_⟩
        · rw [if_pos w] at z
          rw [nI_1]
          exact z
        · rw [if_neg w] at z
          rw [nI_1]
          exact z
      have ck : (nI (j + 1)).toNatClampNeg = j + 1 := nI_clamp (by omega)
      have vk : vp_in (nI (j + 1)) 5 := vp_in_nI (by omega) (by omega)
      refine bk_211_47 (pk_le m (j + 1) (fun w => absurd w (by omega)) (fun _ => ?_) ((k2 78 5 rfl).trans em) rfl)
      rw [ck, ct, k2 109 t rfl, ho]
      refine ⟨fun w => ⟨vk, ?_⟩, fun w => ⟨vt, sp_208c (am_lwr_kM hl k2) (am_cn_kM hc k2) hu (show j + 1 < m by omega) hon rfl rfl (fun m3 k3 => am_ri_i ⟨vk, ?_⟩)⟩⟩
      · have z := nx m2 k2
        rw [wn (j + 1) (fun q => w (e3.mpr q))] at z
        rw [k2 111 (j + 1) rfl]
        exact z
      · have z := nx m3 (am_kp_t k2 k3)
        rw [wy (j + 1) (e3.mp (Decidable.not_not.mp w))] at z
        rw [ee, k3 111 (j + 1) rfl, k2 111 (j + 1) rfl]
        exact z
  have nz : ¬ nI m = 0 := fun q => absurd ((nI_eq (a := m) (b := 0) (by omega) (by omega)).mp q) (by omega)
  have tm : (2 : Int32) * nI m = nI (2 * m) := pk_mul (a := 2) (b := m)
  have nz2 : ¬ nI (2 * m) = 0 := fun q => absurd ((nI_eq (a := 2 * m) (b := 0) (by omega) (by omega)).mp q) (by omega)
  have r1 : am_rem (nI t) (nI m) = nI (t % m) := pk_rem (by omega) (by omega) (by omega)
  have r2 : am_rem (nI t) (nI (2 * m)) = nI (t % (2 * m)) := pk_rem (by omega) (by omega) (by omega)
  have l1 := Nat.mod_lt t hm
  have l2 := Nat.mod_lt t (show 2 * m > 0 by omega)
  have g0 := h mi am_kp_r
  unfold am_who at g0
  refine bk_211 ?_
  rw [em, tm, r1, r2]
  refine ⟨nz2, fun w0 => ⟨fun w1 => ⟨fun w2 => ?_, fun w2 => ?_⟩, fun w1 => ⟨nz, vp_in_nI (by omega) (by omega), ?_⟩⟩, fun w0 => ⟨nz, ?_⟩⟩
  · refine loop (m - 1) 1 (by omega) (by omega) mi am_kp_r (fun m3 k3 => ?_)
    have z := h m3 k3
    unfold am_who at z
    rw [if_neg (fun q => w0 (e0.mpr q)), if_neg (fun q => w1 (e1.mpr q)), if_neg (fun q => w2 (e2.mpr q))] at z
    exact z
  · rw [if_neg (fun q => w0 (e0.mpr q)), if_neg (fun q => w1 (e1.mpr q)), if_pos (e2.mp (Decidable.not_not.mp w2))] at g0
    refine pk_le m (t % (2 * m)) (fun q => bk_211_42 ?_) (fun q => bk_211_42 ?_) rfl rfl
    · rw [if_pos q] at g0
      rw [show nI (2 * m) - 1 = nI (2 * m - 1) from pk_sub (b := 1) (by omega), show nI (2 * m - 1) - nI (t % (2 * m)) = nI (2 * m - 1 - t % (2 * m)) from pk_sub (by omega)]
      exact g0
    · rw [if_neg (by omega)] at g0
      exact g0
  · rw [if_neg (fun q => w0 (e0.mpr q)), if_pos (e1.mp (Decidable.not_not.mp w1))] at g0
    rw [nI_clamp (by omega), hg _ l1]
    exact g0
  · rw [if_pos (e0.mp (Decidable.not_not.mp w0))] at g0
    exact g0
theorem sp_212c {x y z : Int32} {t0 k : Nat} (hr : r < 5) (hl : am_lwr P mi) (hc : am_cn n m u mi) (hu : am_ur n m u) (hg : ∀ j, j < m → mi 112 j = nI (am_gg u m j)) (hk : t0 + k ≤ n) (hx : x = nI r) (hy : y = nI t0) (hz : z = nI (t0 + k))
    (h : ∀ m2, am_kp am_FG mi m2 → m2 110 = (am_gv r m (am_gg u m) (am_god u t0 k) (am_ge P u) t0 (mi 110, mi 111) k).1 → m2 111 = (am_gv r m (am_gg u m) (am_god u t0 k) (am_ge P u) t0 (mi 110, mi 111) k).2 → (∀ j, j < k → m2 109 (t0 + j) = nI (am_god u t0 k (t0 + j))) → (∀ i, m2 112 i = mi 112 i) → R none m2 ml) : am_call (d + 6) 212 [.ref 78, .int x, .int y, .int z] mi ml R := by
  subst hx
  have hn := hc.1
  have hm5 := hc.2.1
  refine bk_212 (sp_209 (u := u) hy hz (by omega) (fun i _ hi => hc.2.2.2.2 0 i (am_vd (by omega) (by omega))) (fun mo ko oo => am_rv_i ?_))
  subst hy
  subst hz
  have o9 : ∀ m2, am_kp am_FG mi m2 → (∀ i, m2 109 i = mo 109 i) → ∀ j, j < k → m2 109 (t0 + j) = nI (am_god u t0 k (t0 + j)) := by
    intro m2 _ e j hj
    rw [e, oo j hj]
    unfold am_god
    rw [show t0 + j - t0 = j from by omega]
  have on : ∀ j, j < k → am_god u t0 k (t0 + j) < n := by
    intro j hj
    unfold am_god
    rw [show t0 + j - t0 = j from by omega]
    have := am_srt_b (am_led u) t0 k j hj
    omega
  have loop : ∀ w j, j + w = k → ∀ m2, am_kp am_FG mi m2 → (∀ i, m2 109 i = mo 109 i) → (∀ i, m2 112 i = mi 112 i) → m2 110 = (am_gv r m (am_gg u m) (am_god u t0 k) (am_ge P u) t0 (mi 110, mi 111) j).1 → m2 111 = (am_gv r m (am_gg u m) (am_god u t0 k) (am_ge P u) t0 (mi 110, mi 111) j).2 →
      am_wp (am_call (d + 5)) mt_212 R 6 [some (.ref 78), some (.int (nI r)), none, some (.int (nI (t0 + k))), some (.int (nI (t0 + j))), none] [] m2 ml := by
    intro w
    induction w with
    | zero =>
      intro j e m2 k2 e9 e12 h1 h2
      have e : j = k := e
      subst e
      exact bk_212_6 (pk_le _ _ (fun _ => h m2 k2 h1 h2 (fun i hi => o9 m2 k2 e9 i hi) e12) (fun w => absurd w (Nat.lt_irrefl _)) rfl rfl)
    | succ w ih =>
      intro j e m2 k2 e9 e12 h1 h2
      have hj : j < k := by omega
      have oj := o9 m2 k2 e9 j hj
      have onj := on j hj
      have ih := ih (j + 1) (by omega)
      have un : am_gv r m (am_gg u m) (am_god u t0 k) (am_ge P u) t0 (mi 110, mi 111) (j + 1) = am_gst r m (am_gg u m) (am_god u t0 k) (am_ge P u) (am_gv r m (am_gg u m) (am_god u t0 k) (am_ge P u) t0 (mi 110, mi 111) j) (t0 + j) := rfl
      rw [un] at ih
      generalize am_gv r m (am_gg u m) (am_god u t0 k) (am_ge P u) t0 (mi 110, mi 111) j = q at h1 h2 ih
      generalize hoo : am_god u t0 k (t0 + j) = i at oj onj
      have ct : (nI (t0 + j)).toNatClampNeg = t0 + j := nI_clamp (by omega)
      have ci : (nI i).toNatClampNeg = i := nI_clamp (by omega)
      have vt : vp_in (nI (t0 + j)) 24 := vp_in_nI (by omega) (by omega)
      have vi : vp_in (nI i) 24 := vp_in_nI (by omega) (by omega)
      refine bk_212_6 (pk_le (t0 + k) (t0 + j) (fun w => absurd w (by omega)) (fun _ => ?_) rfl rfl)
      rw [ct, oj, ci, nI_1, (am_cn_kG hc k2).2.2.2.1]
      refine ⟨vt, vi, fun w => ?_, fun w => ?_⟩
      · have hp : 0 < m := by
          rcases Nat.eq_zero_or_pos m with q | q
          · rw [q] at w
            exact absurd rfl w
          · exact q
        generalize hA : am_ui m2 110 i (-2) = A
        have kA : am_kp am_FG m2 A := by
          rw [← hA]
          exact am_kp_u am_kp_r rfl
        have k2A := am_kp_t k2 kA
        have A9 : ∀ j, A 109 j = m2 109 j := fun j => by rw [← hA, am_ui_c (by decide)]
        have A11 : A 111 = q.2 := by
          rw [← h2, ← hA]
          funext j
          exact am_ui_c (by decide)
        have A12 : ∀ j, A 112 j = m2 112 j := fun j => by rw [← hA, am_ui_c (by decide)]
        have A10 : A 110 = upd q.1 i (-2) := by rw [← hA, am_upd_f, h1]
        refine sp_211c (g := am_gg u m) (o := am_god u t0 k) (t := t0 + j) hr (by omega) (am_lwr_kG hl k2A) (am_cn_kG hc k2A) hu hp (fun j hj => by rw [A12, e12]; exact hg j hj) (by rw [A9, oj, hoo]) (by omega) rfl rfl (fun m3 k3 => am_ri_i ?_)
        rw [A11, hoo]
        have lc := am_who_lt (r := r) (g := am_gg u m) (e := fun c => am_ge P u c i) (s := q.2) (t := t0 + j) hp am_gg_lt
        have eg : am_gst r m (am_gg u m) (am_god u t0 k) (am_ge P u) q (t0 + j) = am_gs1 (am_god u t0 k) (am_ge P u) q (t0 + j) (am_who r m (am_gg u m) (fun c => am_ge P u c i) q.2 (t0 + j)) := by
          unfold am_gst
          rw [if_neg (by omega), hoo]
        rw [eg] at ih
        change vp_in _ _ ∧ _
        have ec : am_who r m (am_gg u m) (fun c => am_ea P u c i (u 2 i)) q.2 (t0 + j) = am_who r m (am_gg u m) (fun c => am_ge P u c i) q.2 (t0 + j) := rfl
        rw [ec]
        generalize am_who r m (am_gg u m) (fun c => am_ge P u c i) q.2 (t0 + j) = c at lc ih
        have cc : (nI c).toNatClampNeg = c := nI_clamp (by omega)
        have vc : vp_in (nI c) 5 := vp_in_nI (by omega) (by omega)
        have k23 := am_kp_t k2A (am_kG_m k3)
        have j3 : m3 109 (t0 + j) = nI i := by rw [k3 109 _ rfl, A9, oj]
        rw [j3, ci, cc]
        have k4 : am_kp am_FG mi (am_ui m3 110 i (nI c)) := am_kp_u k23 rfl
        refine ⟨vt, vi, vc, vt, sp_208c (am_lwr_kG hl k4) (am_cn_kG hc k4) hu lc onj rfl rfl (fun m5 k5 => am_ri_i ⟨vc, ?_⟩)⟩
        have k45 := am_kp_t k4 (am_kG_m k5)
        refine ih _ (am_kp_u k45 rfl) (fun j => ?_) (fun j => ?_) ?_ ?_
        · rw [am_ui_c (by decide), k5 109 j rfl, am_ui_c (by decide), k3 109 j rfl, A9, e9]
        · rw [am_ui_c (by decide), k5 112 j rfl, am_ui_c (by decide), k3 112 j rfl, A12, e12]
        · show _ = upd q.1 (am_god u t0 k (t0 + j)) (nI c)
          rw [hoo]
          funext s
          rw [am_ui_c (by decide), k5 110 s rfl, am_upd_f]
          unfold upd
          by_cases es : s = i
          · rw [if_pos es, if_pos es]
          · rw [if_neg es, if_neg es, k3 110 s rfl, A10]
            unfold upd
            rw [if_neg es]
        · show _ = upd q.2 c (q.2 c + am_ge P u c (am_god u t0 k (t0 + j)))
          rw [hoo, am_upd_f]
          have m31 : m3 111 = q.2 := by
            rw [← A11]
            funext s
            exact k3 111 s rfl
          have m51 : m5 111 = q.2 := by
            rw [← m31]
            funext s
            rw [k5 111 s rfl, am_ui_c (by decide)]
          rw [m51, m31]
          rfl
      · have m0 : m = 0 := by
          have w := Decidable.not_not.mp w
          exact (nI_eq (a := m) (b := 0) (by omega) (by omega)).mp w
        have eg : am_gst r m (am_gg u m) (am_god u t0 k) (am_ge P u) q (t0 + j) = (upd q.1 i (-2), q.2) := by
          unfold am_gst
          rw [if_pos m0, hoo]
        rw [eg] at ih
        refine ih _ (am_kp_u k2 rfl) (fun j => ?_) (fun j => ?_) ?_ ?_
        · rw [am_ui_c (by decide), e9]
        · rw [am_ui_c (by decide), e12]
        · rw [am_upd_f, h1]
        · rw [← h2]
          funext s
          exact am_ui_c (by decide)
  refine loop k 0 (Nat.zero_add _) mo (am_kG_9 ko) (fun _ => rfl) (fun i => ko 112 i rfl) ?_ ?_
  · funext s
    exact ko 110 s rfl
  · funext s
    exact ko 111 s rfl
theorem sp_213c {x : Int32} (hr : r < 5) (hl : am_lwr P mi) (hc : am_cm n m u mi) (hu : am_ur n m u) (hx : x = nI r)
    (h : ∀ m2, am_kp am_FG mi m2 → (∀ i, i < n → m2 110 i = (am_gvn P u n m r).1 i) → (∀ c, c < m → m2 111 c = (am_gvn P u n m r).2 c) → (∀ j, j < n → m2 109 j = nI (am_god u 0 n j)) → (∀ j, j < m → m2 112 j = nI (am_gg u m j)) → R none m2 ml) : am_call (d + 7) 213 [.ref 78, .int x] mi ml R := by
  subst hx
  have hm5 := hc.2.1
  refine bk_213 (sp_210 hc (fun m1 k1 o1 => am_rv_i ?_))
  have loop : ∀ w k, k + w = 5 → ∀ m2, am_kp am_FG mi m2 → (∀ i, m2 112 i = m1 112 i) → (∀ j, j < k → m2 111 j = 0) → am_wp (am_call (d + 6)) mt_213 R 4 [some (.ref 78), some (.int (nI r)), some (.int (nI k))] [] m2 ml := by
    intro w
    induction w with
    | zero =>
      intro k e m2 k2 e12 h2
      have e : k = 5 := e
      subst e
      refine bk_213_4 (pk_le 5 5 (fun _ => ?_) (fun w => absurd w (Nat.lt_irrefl _)) rfl rfl)
      have hc2 := am_cm_kG hc k2
      refine sp_212c (t0 := 0) (k := n) hr (am_lwr_kG hl k2) (am_cn_of hc2) hu (fun j hj => by rw [e12]; exact o1 j hj) (by omega) rfl rfl (by rw [hc2.2.2.1, Nat.zero_add]) (fun m3 k3 a b o3 q3 => am_rv_i ?_)
      obtain ⟨g2, g1⟩ := am_gvn_i (r := r) (n := n) (m := m) (u := u) (P := P) (q := (m2 110, m2 111)) (fun c hc => h2 c (by omega))
      refine h m3 (am_kp_t k2 k3) (fun i hi => ?_) (fun c hc => ?_) (fun j hj => ?_) (fun j hj => ?_)
      · rw [a]
        exact g1 i hi
      · rw [b]
        exact g2 c hc
      · have z := o3 j hj
        rw [Nat.zero_add] at z
        exact z
      · rw [q3 j, e12 j]
        exact o1 j hj
    | succ w ih =>
      intro k e m2 k2 e12 h2
      refine bk_213_4 (pk_le 5 k (fun w => absurd w (by omega)) (fun _ => ⟨vp_in_nI (by omega) (by omega), ?_⟩) rfl rfl)
      rw [nI_clamp (by omega), nI_1]
      refine ih (k + 1) (by omega) _ (am_kp_u k2 rfl) (fun i => ?_) (fun j hj => ?_)
      · rw [am_ui_c (by decide)]
        exact e12 i
      · by_cases ej : j = k
        · rw [ej, am_ui_k]
        · rw [am_ui_n (fun _ w => ej w)]
          exact h2 j (by omega)
  exact loop 5 0 rfl m1 (am_kG_2 k1) (fun _ => rfl) (fun j hj => absurd hj (Nat.not_lt_zero _))
end SP57
