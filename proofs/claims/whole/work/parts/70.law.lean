/-! the law's lines, read by the reference; law on both sides -/
def am_cds : List (List Nat × List Nat) → List Nat
  | [] => []
  | (c, e) :: r => c ++ (e ++ am_cds r)
theorem am_cds_l : ∀ Q : List (List Nat × List Nat), (am_cds Q).length = am_tot Q
  | [] => rfl
  | (c, e) :: r => by
    show (c ++ (e ++ am_cds r)).length = c.length + e.length + am_tot r
    rw [List.length_append, List.length_append, am_cds_l r]
    omega
theorem am_cds_a : ∀ {Q : List (List Nat × List Nat)} {c e : List Nat}, am_cds (Q ++ [(c, e)]) = am_cds Q ++ c ++ e
  | [], c, e => by
    show c ++ (e ++ []) = [] ++ c ++ e
    rw [List.append_nil, List.nil_append]
  | (c1, e1) :: r, c, e => by
    show c1 ++ (e1 ++ am_cds (r ++ [(c, e)])) = (c1 ++ (e1 ++ am_cds r)) ++ c ++ e
    rw [am_cds_a (Q := r)]
    simp only [List.append_assoc]
/-- where the lines being read begin, part, end -/
def am_mlx (m : am_MI) : Nat → Nat → List (List Nat × List Nat) → Prop
  | _, _, [] => True
  | i, a, (c, e) :: r => m 94 i = nI a ∧ m 95 i = nI (a + c.length) ∧ m 96 i = nI (a + c.length + e.length) ∧ am_mlx m (i + 1) (a + c.length + e.length) r
theorem am_mlx_on {a b : am_MI} : ∀ (Q : List (List Nat × List Nat)) (i k : Nat), (∀ c j, 94 ≤ c → c ≤ 96 → j < i + Q.length → b c j = a c j) → am_mlx a i k Q → am_mlx b i k Q
  | [], _, _, _, _ => trivial
  | (c, e) :: r, i, k, h, h2 => by
    obtain ⟨g1, g2, g3, g4⟩ := h2
    have hl : ((c, e) :: r).length = r.length + 1 := rfl
    rw [hl] at h
    exact ⟨(h 94 i (by omega) (by omega) (by omega)).trans g1, (h 95 i (by omega) (by omega) (by omega)).trans g2, (h 96 i (by omega) (by omega) (by omega)).trans g3, am_mlx_on r _ _ (fun x j h1 h2 h3 => h x j h1 h2 (by omega)) g4⟩
theorem am_mlx_a {m : am_MI} {c e : List Nat} : ∀ (Q : List (List Nat × List Nat)) (i k : Nat), am_mlx m i k Q → m 94 (i + Q.length) = nI (k + am_tot Q) → m 95 (i + Q.length) = nI (k + am_tot Q + c.length) → m 96 (i + Q.length) = nI (k + am_tot Q + c.length + e.length) → am_mlx m i k (Q ++ [(c, e)])
  | [], _, _, _, h1, h2, h3 => ⟨h1, h2, h3, trivial⟩
  | (c1, e1) :: r, i, k, h, h1, h2, h3 => by
    obtain ⟨g1, g2, g3, g4⟩ := h
    have hl : i + ((c1, e1) :: r).length = i + 1 + r.length := by
      show i + (r.length + 1) = _
      omega
    have ht : k + am_tot ((c1, e1) :: r) = k + c1.length + e1.length + am_tot r := by
      show k + (c1.length + e1.length + am_tot r) = _
      omega
    rw [hl, ht] at h1 h2 h3
    exact ⟨g1, g2, g3, am_mlx_a r _ _ g4 h1 h2 h3⟩
theorem am_mlx_m {m M : am_MI} : ∀ (Q : List (List Nat × List Nat)) (i a : Nat), (∀ j, j < i + Q.length → M 90 j = m 94 j ∧ M 91 j = m 95 j ∧ M 92 j = m 96 j) → (∀ j, j < (am_cds Q).length → M 93 (a + j) = nI ((am_cds Q).getD j 0)) → am_mlx m i a Q → am_mln M i a Q
  | [], _, _, _, _, _ => trivial
  | (c, e) :: r, i, a, h, hc, h2 => by
    obtain ⟨g1, g2, g3, g4⟩ := h2
    have hl : ((c, e) :: r).length = r.length + 1 := rfl
    rw [hl] at h
    obtain ⟨x1, x2, x3⟩ := h i (by omega)
    have hc : ∀ j, j < (c ++ (e ++ am_cds r)).length → M 93 (a + j) = nI ((c ++ (e ++ am_cds r)).getD j 0) := hc
    simp only [List.length_append] at hc
    refine ⟨x1.trans g1, x2.trans g2, x3.trans g3, fun j hj => ?_, fun j hj => ?_, am_mlx_m r _ _ (fun j hj => h j (by omega)) (fun j hj => ?_) g4⟩
    · rw [hc j (by omega), am_gn_l hj]
    · rw [Nat.add_assoc, hc (c.length + j) (by omega), am_gn_r, am_gn_l hj]
    · rw [show a + c.length + e.length + j = a + (c.length + (e.length + j)) by omega, hc (c.length + (e.length + j)) (by omega), am_gn_r, am_gn_r]
def am_F200 : Nat → Nat → Bool := fun c j => decide ((94 ≤ c ∧ c ≤ 97) ∨ (c = 78 ∧ (j = 21 ∨ j = 22 ∨ j = 23 ∨ j = 24)))
theorem am_k200 {a b : am_MI} (h : am_kp am_F194 a b) : am_kp am_F200 a b := am_kp_w h (fun c j q => decide_eq_false (by have := of_decide_eq_false q; omega))
/-- at a line's begin -/
def am_lsx (B : am_MI) (p : Nat) (Q : List (List Nat × List Nat)) (m : am_MI) : Prop := am_kp am_F200 B m ∧ m 78 21 = nI p ∧ m 78 22 = 0 ∧ m 78 23 = nI (am_tot Q) ∧ (∀ j, j < am_tot Q → m 97 j = nI ((am_cds Q).getD j 0)) ∧ m 78 24 = nI Q.length ∧ am_mlx m 0 0 Q
section SP70
variable {D L p : Nat} {T : Nat → Nat} {B m : am_MI} {ml : am_ML} {R : am_R} {Q : List (List Nat × List Nat)}
theorem am_mb_on {a b : am_MI} (h : am_mb T L a) (k : am_kp am_F200 a b) : am_mb T L b := ⟨h.1, (k 78 13 rfl).trans h.2.1, fun j hj => ⟨(k 89 j rfl).trans (h.2.2 j hj).1, (h.2.2 j hj).2⟩⟩
/-- isLine -/
theorem sp_200 (hD : 50 ≤ D) (hb : am_mb T L B) (hp : p ≤ L) (hq : am_gQ p Q) (hs : am_lsx B p Q m) (h1 : (am_line T L p).1 = true → ∀ m2, am_lsx B (am_line T L p).2.1 (Q ++ [(am_line T L p).2.2]) m2 → R (some (.int 1)) m2 ml) (h0 : (am_line T L p).1 = false → ∀ m2, am_kp am_F200 B m2 → m2 78 21 = nI (am_line T L p).2.1 → R (some (.int 0)) m2 ml) : am_call D 200 [.ref 78] m ml R := by
  obtain ⟨d, rfl⟩ : ∃ d, D = d + 1 := ⟨D - 1, by omega⟩
  have hL := hb.1
  obtain ⟨k0, s21, s22, s23, s97, s24, sx⟩ := hs
  obtain ⟨q1, q2, q3, q4⟩ := hq
  obtain ⟨a1, a2, a3⟩ := am_E_g (T := T) (L := L) hp
  have un : am_line T L p = if (am_E T L p).1 = true then (if (am_E T L p).2.1 < L ∧ T (am_E T L p).2.1 = 63 then ((am_E T L ((am_E T L p).2.1 + 1)).1, (am_E T L ((am_E T L p).2.1 + 1)).2.1, (am_E T L p).2.2, (am_E T L ((am_E T L p).2.1 + 1)).2.2) else (true, (am_E T L p).2.1, [], (am_E T L p).2.2)) else (false, (am_E T L p).2.1, [], []) := rfl
  have vq : vp_in (nI Q.length) 61 := vp_in_nI (by omega) (by omega)
  refine bk_200 ?_
  rw [s24, s23, nI_clamp (by omega)]
  refine ⟨vq, ?_⟩
  have k1 : am_kp am_F200 B (am_ui m 94 Q.length (nI (am_tot Q))) := am_kp_u k0 rfl
  have s1 : am_mse (am_ui m 94 Q.length (nI (am_tot Q))) p 0 (am_cds Q) (am_ui m 94 Q.length (nI (am_tot Q))) := by
    refine ⟨am_kp_r, ?_, ?_, ?_, fun j hj => ?_⟩
    · rw [am_ui_c (by decide)]
      exact s21
    · rw [am_ui_c (by decide)]
      exact s22
    · rw [am_ui_c (by decide), am_cds_l]
      exact s23
    · rw [am_ui_c (by decide)]
      exact s97 j (by rw [am_cds_l] at hj; exact hj)
  have sx1 : am_mlx (am_ui m 94 Q.length (nI (am_tot Q))) 0 0 Q := am_mlx_on Q 0 0 (fun c j w1 w2 w3 => am_ui_n (fun _ e => by omega)) sx
  have e94 : am_ui m 94 Q.length (nI (am_tot Q)) 94 Q.length = nI (am_tot Q) := am_ui_k
  have e24 : am_ui m 94 Q.length (nI (am_tot Q)) 78 24 = nI Q.length := (am_ui_c (by decide)).trans s24
  generalize hM1 : am_ui m 94 Q.length (nI (am_tot Q)) = M1 at k1 s1 sx1 e94 e24
  have first := sp_199e (D := d) (ml := ml) (am_mb_on hb k1) (by omega) hp (by rw [am_cds_l]; exact q4) s1
  generalize am_E T L p = e1 at a1 a2 a3 un first
  refine first _ (fun ok m2 s2 => am_ri_i (am_yn ?_)) (fun ok m2 s2 => am_ri_i (am_nn ⟨am_b0, ?_⟩))
  · obtain ⟨a4, a5, a6⟩ := a3 ok
    rw [if_pos ok] at un
    have lC : (am_cds Q ++ e1.2.2).length = am_tot Q + e1.2.2.length := by rw [List.length_append, am_cds_l]
    obtain ⟨k2, t21, t22, t23, t97⟩ := s2
    rw [lC] at t23 t97
    have f24 : m2 78 24 = nI Q.length := (k2 78 24 rfl).trans e24
    have f94 : m2 94 Q.length = nI (am_tot Q) := (k2 94 _ rfl).trans e94
    rw [f24, nI_clamp (show Q.length < 2 ^ 31 by omega), f94]
    refine ⟨vq, vq, ?_⟩
    have k3 : am_kp am_F200 B (am_ui m2 95 Q.length (nI (am_tot Q))) := am_kp_u (am_kp_t k1 (am_k200 k2)) rfl
    have g21 : am_ui m2 95 Q.length (nI (am_tot Q)) 78 21 = nI e1.2.1 := (am_ui_c (by decide)).trans t21
    have sx2 : am_mlx (am_ui m2 95 Q.length (nI (am_tot Q))) 0 0 Q := am_mlx_on Q 0 0 (fun c j w1 w2 w3 => (am_ui_n (fun _ e => by omega)).trans (k2 c j (decide_eq_false (by omega)))) sx1
    refine sp_190 (T := T) (L := L) (B := am_ui m2 95 Q.length (nI (am_tot Q))) (b := 63) (by omega) (am_mb_on hb k3) am_kp_r a2 g21 rfl (by omega) (fun y1 y2 => am_ri_i (am_y ?_)) (fun y => am_ri_i (am_n0 ?_))
    · rw [if_pos ⟨y1, y2⟩] at un
      rw [un] at h1 h0
      have hu24 : am_ui (am_ui m2 95 Q.length (nI (am_tot Q))) 78 21 (nI (e1.2.1 + 1)) 78 24 = nI Q.length := by rw [am_ui_n (by omega), am_ui_c (by decide), f24]
      have hu23 : am_ui (am_ui m2 95 Q.length (nI (am_tot Q))) 78 21 (nI (e1.2.1 + 1)) 78 23 = nI (am_tot Q + e1.2.2.length) := by rw [am_ui_n (by omega), am_ui_c (by decide), t23]
      rw [hu24, hu23, nI_clamp (show Q.length < 2 ^ 31 by omega)]
      refine ⟨vq, ?_⟩
      have k4 : am_kp am_F200 B (am_ui (am_ui (am_ui m2 95 Q.length (nI (am_tot Q))) 78 21 (nI (e1.2.1 + 1))) 95 Q.length (nI (am_tot Q + e1.2.2.length))) := am_kp_u (am_kp_u k3 rfl) rfl
      have s4 : am_mse (am_ui (am_ui (am_ui m2 95 Q.length (nI (am_tot Q))) 78 21 (nI (e1.2.1 + 1))) 95 Q.length (nI (am_tot Q + e1.2.2.length))) (e1.2.1 + 1) 0 (am_cds Q ++ e1.2.2) (am_ui (am_ui (am_ui m2 95 Q.length (nI (am_tot Q))) 78 21 (nI (e1.2.1 + 1))) 95 Q.length (nI (am_tot Q + e1.2.2.length))) := by
        refine ⟨am_kp_r, ?_, ?_, ?_, fun j hj => ?_⟩
        · rw [am_ui_c (by decide), am_ui_k]
        · rw [am_ui_c (by decide), am_ui_n (by omega), am_ui_c (by decide)]
          exact t22
        · rw [am_ui_c (by decide), am_ui_n (by omega), am_ui_c (by decide), lC]
          exact t23
        · rw [am_ui_c (by decide), am_ui_c (by decide), am_ui_c (by decide)]
          exact t97 j (by rw [lC] at hj; exact hj)
      have x24 : am_ui (am_ui (am_ui m2 95 Q.length (nI (am_tot Q))) 78 21 (nI (e1.2.1 + 1))) 95 Q.length (nI (am_tot Q + e1.2.2.length)) 78 24 = nI Q.length := (am_ui_c (by decide)).trans hu24
      have x94 : am_ui (am_ui (am_ui m2 95 Q.length (nI (am_tot Q))) 78 21 (nI (e1.2.1 + 1))) 95 Q.length (nI (am_tot Q + e1.2.2.length)) 94 Q.length = nI (am_tot Q) := by rw [am_ui_c (by decide), am_ui_c (by decide), am_ui_c (by decide), f94]
      have x95 : am_ui (am_ui (am_ui m2 95 Q.length (nI (am_tot Q))) 78 21 (nI (e1.2.1 + 1))) 95 Q.length (nI (am_tot Q + e1.2.2.length)) 95 Q.length = nI (am_tot Q + e1.2.2.length) := am_ui_k
      have sx4 : am_mlx (am_ui (am_ui (am_ui m2 95 Q.length (nI (am_tot Q))) 78 21 (nI (e1.2.1 + 1))) 95 Q.length (nI (am_tot Q + e1.2.2.length))) 0 0 Q := am_mlx_on Q 0 0 (fun c j w1 w2 w3 => (am_ui_n (fun _ e => by omega)).trans (am_ui_c (by omega))) sx2
      generalize am_ui (am_ui (am_ui m2 95 Q.length (nI (am_tot Q))) 78 21 (nI (e1.2.1 + 1))) 95 Q.length (nI (am_tot Q + e1.2.2.length)) = M4 at k4 s4 x24 x94 x95 sx4 ⊢
      obtain ⟨b1, b2, b3⟩ := am_E_g (T := T) (L := L) (p := e1.2.1 + 1) (by omega)
      refine sp_199e (D := d) (am_mb_on hb k4) (by omega) (by omega) (by rw [lC]; omega) s4 _ (fun ok2 m5 s5 => am_ri_i (am_yn ?_)) (fun ok2 m5 s5 => am_ri_i (am_nn ⟨am_b0, ?_⟩))
      · obtain ⟨b4, b5, b6⟩ := b3 ok2
        obtain ⟨k5, v21, v22, v23, v97⟩ := s5
        have h1 := h1 ok2
        have h1 : ∀ m2, am_lsx B (am_E T L (e1.2.1 + 1)).2.1 (Q ++ [(e1.2.2, (am_E T L (e1.2.1 + 1)).2.2)]) m2 → R (some (.int 1)) m2 ml := h1
        generalize am_E T L (e1.2.1 + 1) = e2 at b1 b2 b4 b5 b6 v21 v23 v97 h1
        have lC2 : (am_cds Q ++ e1.2.2 ++ e2.2.2).length = am_tot Q + e1.2.2.length + e2.2.2.length := by rw [List.length_append, lC]
        rw [lC2] at v23 v97
        have y24 : m5 78 24 = nI Q.length := (k5 78 24 rfl).trans x24
        rw [y24, v23, nI_clamp (show Q.length < 2 ^ 31 by omega), nI_1]
        have tQ : am_tot (Q ++ [(e1.2.2, e2.2.2)]) = am_tot Q + e1.2.2.length + e2.2.2.length := by
          rw [am_tot_a]
          show am_tot Q + (e1.2.2.length + e2.2.2.length + 0) = _
          omega
        refine ⟨vq, am_b1, h1 _ ⟨am_kp_u (am_kp_u (am_kp_t k4 (am_k200 k5)) rfl) rfl, ?_, ?_, ?_, fun j hj => ?_, ?_, ?_⟩⟩
        · rw [am_ui_c (by decide), am_ui_n (by omega)]
          exact v21
        · rw [am_ui_c (by decide), am_ui_n (by omega)]
          exact v22
        · rw [am_ui_c (by decide), am_ui_n (by omega), tQ]
          exact v23
        · rw [am_ui_c (by decide), am_ui_c (by decide), am_cds_a]
          exact v97 j (by rw [tQ] at hj; exact hj)
        · rw [am_ui_c (by decide), am_ui_k, List.length_append]
          rfl
        · refine am_mlx_a Q 0 0 (am_mlx_on Q 0 0 (fun c j w1 w2 w3 => ?_) sx4) ?_ ?_ ?_
          · rw [am_ui_n (fun _ e => by omega), am_ui_c (by omega)]
            exact k5 c j (decide_eq_false (by omega))
          · rw [Nat.zero_add, Nat.zero_add, am_ui_c (by decide), am_ui_c (by decide), k5 94 _ rfl]
            exact x94
          · rw [Nat.zero_add, Nat.zero_add, am_ui_c (by decide), am_ui_c (by decide), k5 95 _ rfl]
            exact x95
          · rw [Nat.zero_add, Nat.zero_add, am_ui_k]
      · exact h0 ok2 m5 (am_kp_t k4 (am_k200 s5.1)) s5.2.1
    · rw [if_neg y] at un
      rw [un] at h1
      have h1 : ∀ m2, am_lsx B e1.2.1 (Q ++ [([], e1.2.2)]) m2 → R (some (.int 1)) m2 ml := h1 rfl
      have hu24 : am_ui m2 95 Q.length (nI (am_tot Q)) 78 24 = nI Q.length := by rw [am_ui_c (by decide), f24]
      have hu23 : am_ui m2 95 Q.length (nI (am_tot Q)) 78 23 = nI (am_tot Q + e1.2.2.length) := by rw [am_ui_c (by decide), t23]
      rw [hu24, hu23, nI_clamp (show Q.length < 2 ^ 31 by omega), nI_1]
      have tQ : am_tot (Q ++ [([], e1.2.2)]) = am_tot Q + e1.2.2.length := by
        rw [am_tot_a]
        show am_tot Q + (0 + e1.2.2.length + 0) = _
        omega
      have h95 : am_ui m2 95 Q.length (nI (am_tot Q)) 95 Q.length = nI (am_tot Q) := am_ui_k
      have h94 : am_ui m2 95 Q.length (nI (am_tot Q)) 94 Q.length = nI (am_tot Q) := by rw [am_ui_c (by decide), f94]
      have h22 : am_ui m2 95 Q.length (nI (am_tot Q)) 78 22 = 0 := (am_ui_c (by decide)).trans t22
      have h97 : ∀ j, j < am_tot Q + e1.2.2.length → am_ui m2 95 Q.length (nI (am_tot Q)) 97 j = nI ((am_cds Q ++ e1.2.2).getD j 0) := fun j hj => (am_ui_c (by decide)).trans (t97 j hj)
      generalize am_ui m2 95 Q.length (nI (am_tot Q)) = M4 at k3 g21 sx2 hu24 hu23 h95 h94 h22 h97 ⊢
      refine ⟨vq, am_b1, h1 _ ⟨am_kp_u (am_kp_u k3 rfl) rfl, ?_, ?_, ?_, fun j hj => ?_, ?_, ?_⟩⟩
      · rw [am_ui_c (by decide), am_ui_n (by omega)]
        exact g21
      · rw [am_ui_c (by decide), am_ui_n (by omega)]
        exact h22
      · rw [am_ui_c (by decide), am_ui_n (by omega), tQ]
        exact hu23
      · rw [am_ui_c (by decide), am_ui_c (by decide), am_cds_a, List.append_nil]
        exact h97 j (by rw [tQ] at hj; exact hj)
      · rw [am_ui_c (by decide), am_ui_k, List.length_append]
        rfl
      · refine am_mlx_a Q 0 0 (am_mlx_on Q 0 0 (fun c j w1 w2 w3 => ?_) sx2) ?_ ?_ ?_
        · rw [am_ui_n (fun _ e => by omega), am_ui_c (by omega)]
        · rw [Nat.zero_add, Nat.zero_add, am_ui_c (by decide), am_ui_c (by decide)]
          exact h94
        · rw [Nat.zero_add, Nat.zero_add, am_ui_c (by decide), am_ui_c (by decide)]
          exact h95
        · rw [Nat.zero_add, Nat.zero_add, am_ui_k]
          rfl
  · rw [if_neg (by rw [ok]; decide)] at un
    rw [un] at h0
    exact h0 rfl m2 (am_kp_t k1 (am_k200 s2.1)) s2.2.1
/-- the loop of law -/
theorem sp_201l (hD : 50 ≤ D) (hb : am_mb T L B) : ∀ k i p Q m, i + k = L + 1 → i ≤ p → p ≤ L → am_gQ p Q → am_lsx B p Q m → ((am_lns T L k p Q).1 = true → ∀ m2, am_lsx B (am_lns T L k p Q).2.1 (am_lns T L k p Q).2.2 m2 → am_wp (am_call D) mt_201 R 35 [some (.ref 78), none, none, none] [.int 1] m2 ml) → ((am_lns T L k p Q).1 = false → ∀ m2, am_kp am_F200 B m2 → m2 78 21 = nI (am_lns T L k p Q).2.1 → am_wp (am_call D) mt_201 R 35 [some (.ref 78), none, none, none] [.int 0] m2 ml) →
    am_call D 200 [.ref 78] m ml (am_ri fun r1 mi1 ml1 => am_wp (am_call D) mt_201 R 15 [some (.ref 78), some (.int r1), none, none] [] mi1 ml1) := by
  have hL := hb.1
  intro k
  induction k with
  | zero =>
    intro i p Q m e1 e2 e3
    omega
  | succ k ih =>
    intro i p Q m ei hip hp hq hs h1 h0
    have un : am_lns T L (k + 1) p Q = if (am_line T L p).1 = true then (if (am_line T L p).2.1 < L ∧ T (am_line T L p).2.1 = 59 then am_lns T L k ((am_line T L p).2.1 + 1) (Q ++ [(am_line T L p).2.2]) else (decide ((am_line T L p).2.1 = L), (am_line T L p).2.1, Q ++ [(am_line T L p).2.2])) else (false, (am_line T L p).2.1, Q) := rfl
    rw [un] at h1 h0
    obtain ⟨a1, a2, a3⟩ := am_line_g (T := T) hp hq
    refine sp_200 hD hb hp hq hs (fun ok m2 s2 => am_ri_i (bk_201_15 (am_y ?_))) (fun ok m2 k2 v2 => am_ri_i (bk_201_15 (am_n0 (bk_201_25 (am_n0 (bk_201_34 ?_))))))
    · rw [if_pos ok] at h1 h0
      have a3 := a3 ok
      have a4 := a3.1
      refine sp_190 (T := T) (L := L) (B := m2) (b := 59) (by omega) (am_mb_on hb s2.1) am_kp_r a2 s2.2.1 rfl (by omega) (fun y1 y2 => am_ri_i (am_y ?_)) (fun y => am_ri_i (am_n0 (bk_201_25 (am_y ?_))))
      · rw [if_pos ⟨y1, y2⟩] at h1 h0
        obtain ⟨z1, z2, z3, z4, z5, z6, z7⟩ := s2
        refine ih (i + 1) _ _ _ (by omega) (by omega) (by omega) (am_gR_q a3) ⟨am_kp_u z1 rfl, am_ui_k, ?_, ?_, fun j hj => ?_, ?_, ?_⟩ h1 h0
        · rw [am_ui_n (by omega)]
          exact z3
        · rw [am_ui_n (by omega)]
          exact z4
        · rw [am_ui_c (by decide)]
          exact z5 j hj
        · rw [am_ui_n (by omega)]
          exact z6
        · exact am_mlx_on _ 0 0 (fun c j w1 w2 w3 => am_ui_c (by omega)) z7
      · rw [if_neg y] at h1 h0
        rw [s2.2.1, s2.1 78 13 rfl, hb.2.1]
        refine ⟨fun z => bk_201_34 ?_, fun z => ?_⟩
        · exact h0 (decide_eq_false (fun e => z (by rw [e]))) m2 s2.1 s2.2.1
        · exact h1 (decide_eq_true ((nI_eq (a := (am_line T L p).2.1) (b := L) (by omega) (by omega)).mp (Decidable.not_not.mp z))) m2 s2
    · rw [if_neg (by rw [ok]; decide)] at h0
      exact h0 rfl m2 k2 v2
def am_F201 : Nat → Nat → Bool := fun c j => decide ((90 ≤ c ∧ c ≤ 97) ∨ (c = 78 ∧ (j = 13 ∨ j = 15 ∨ j = 16 ∨ j = 21 ∨ j = 22 ∨ j = 23 ∨ j = 24)))
def am_F201f : Nat → Nat → Bool := fun c j => decide ((94 ≤ c ∧ c ≤ 97) ∨ (c = 78 ∧ (j = 13 ∨ j = 21 ∨ j = 22 ∨ j = 23 ∨ j = 24)))
/-- law's end: what was read becomes the law -/
theorem sp_201e (hl : Q.length ≤ 60) (ht : am_tot Q ≤ 120) (hs : am_lsx B p Q m) (h : ∀ m2, am_kp am_F201 B m2 → m2 78 13 = 0 → m2 78 15 = 1 → m2 78 16 = nI Q.length → am_mln m2 0 0 Q → R (some (.int 1)) m2 ml) : am_wp (am_call D) mt_201 R 35 [some (.ref 78), none, none, none] [.int 1] m ml := by
  obtain ⟨k0, s21, s22, s23, s97, s24, sx⟩ := hs
  refine bk_201_35 (am_yn ⟨am_b1, ?_⟩)
  rw [s24]
  have kM : am_kp am_F201 B (am_ui (am_ui (am_ui m 78 13 0) 78 15 1) 78 16 (nI Q.length)) := am_kp_u (am_kp_u (am_kp_u (am_kp_w k0 (fun c j q => decide_eq_false (by have := of_decide_eq_false q; omega))) rfl) rfl) rfl
  have m13 : am_ui (am_ui (am_ui m 78 13 0) 78 15 1) 78 16 (nI Q.length) 78 13 = 0 := by rw [am_ui_n (by omega), am_ui_n (by omega), am_ui_k]
  have m15 : am_ui (am_ui (am_ui m 78 13 0) 78 15 1) 78 16 (nI Q.length) 78 15 = 1 := by rw [am_ui_n (by omega), am_ui_k]
  have m16 : am_ui (am_ui (am_ui m 78 13 0) 78 15 1) 78 16 (nI Q.length) 78 16 = nI Q.length := am_ui_k
  have m23 : am_ui (am_ui (am_ui m 78 13 0) 78 15 1) 78 16 (nI Q.length) 78 23 = nI (am_tot Q) := by rw [am_ui_n (by omega), am_ui_n (by omega), am_ui_n (by omega), s23]
  have m97 : ∀ c j, ¬ c = 78 → am_ui (am_ui (am_ui m 78 13 0) 78 15 1) 78 16 (nI Q.length) c j = m c j := fun c j w => by rw [am_ui_c w, am_ui_c w, am_ui_c w]
  generalize am_ui (am_ui (am_ui m 78 13 0) 78 15 1) 78 16 (nI Q.length) = M at kM m13 m15 m16 m23 m97
  have l2 : ∀ k i m2, i + k = am_tot Q → am_kp (fun c _ => decide (90 ≤ c ∧ c ≤ 93)) M m2 → (∀ j, j < Q.length → m2 90 j = M 94 j ∧ m2 91 j = M 95 j ∧ m2 92 j = M 96 j) → (∀ j, j < i → m2 93 j = M 97 j) → am_wp (am_call D) mt_201 R 87 [some (.ref 78), none, none, some (.int (nI i))] [] m2 ml := by
    intro k
    induction k with
    | zero =>
      intro i m2 ei k2 v2 w2
      have ei : i = am_tot Q := ei
      subst ei
      refine bk_201_87 (pk_le (am_tot Q) (am_tot Q) (fun _ => h m2 ?_ ((k2 78 13 rfl).trans m13) ((k2 78 15 rfl).trans m15) ((k2 78 16 rfl).trans m16) ?_) (fun q => absurd q (Nat.lt_irrefl _)) ((k2 78 23 rfl).trans m23) rfl)
      · exact am_kp_t kM (am_kp_w k2 (fun c j q => decide_eq_false (by have := of_decide_eq_false q; omega)))
      · refine am_mlx_m (m := m) Q 0 0 (fun j hj => ?_) (fun j hj => ?_) sx
        · obtain ⟨v3, v4, v5⟩ := v2 j (by omega)
          rw [v3, v4, v5, m97 94 j (by omega), m97 95 j (by omega), m97 96 j (by omega)]
          exact ⟨rfl, rfl, rfl⟩
        · rw [am_cds_l] at hj
          rw [Nat.zero_add, w2 j hj, m97 97 j (by omega)]
          exact s97 j hj
    | succ k ih =>
      intro i m2 ei k2 v2 w2
      have vi : vp_in (nI i) 200 := vp_in_nI (by omega) (by omega)
      refine bk_201_87 (pk_le (am_tot Q) i (fun q => absurd q (by omega)) (fun _ => ⟨vi, vi, ?_⟩) ((k2 78 23 rfl).trans m23) rfl)
      rw [nI_clamp (by omega), nI_1]
      refine ih (i + 1) _ (by omega) (am_kp_u k2 rfl) (fun j hj => ?_) (fun j hj => ?_)
      · rw [am_ui_c (by decide), am_ui_c (by decide), am_ui_c (by decide)]
        exact v2 j hj
      · by_cases e : j = i
        · rw [e, am_ui_k]
          exact k2 97 i rfl
        · rw [am_ui_n (fun _ q => e q)]
          exact w2 j (by omega)
  have l1 : ∀ k i m2, i + k = Q.length → am_kp (fun c _ => decide (90 ≤ c ∧ c ≤ 93)) M m2 → (∀ j, j < i → m2 90 j = M 94 j ∧ m2 91 j = M 95 j ∧ m2 92 j = M 96 j) → am_wp (am_call D) mt_201 R 55 [some (.ref 78), none, none, some (.int (nI i))] [] m2 ml := by
    intro k
    induction k with
    | zero =>
      intro i m2 ei k2 v2
      have ei : i = Q.length := ei
      subst ei
      exact bk_201_55 (pk_le Q.length Q.length (fun _ => l2 (am_tot Q) 0 m2 (Nat.zero_add _) k2 v2 (fun j hj => absurd hj (Nat.not_lt_zero j))) (fun q => absurd q (Nat.lt_irrefl _)) ((k2 78 16 rfl).trans m16) rfl)
    | succ k ih =>
      intro i m2 ei k2 v2
      have vi : vp_in (nI i) 60 := vp_in_nI (by omega) (by omega)
      have vj : vp_in (nI i) 61 := vp_in_nI (by omega) (by omega)
      refine bk_201_55 (pk_le Q.length i (fun q => absurd q (by omega)) (fun _ => ⟨vj, vi, vj, vi, vj, vi, ?_⟩) ((k2 78 16 rfl).trans m16) rfl)
      rw [nI_clamp (by omega), nI_1]
      refine ih (i + 1) _ (by omega) (am_kp_u (am_kp_u (am_kp_u k2 rfl) rfl) rfl) (fun j hj => ?_)
      by_cases e : j = i
      · subst e
        refine ⟨?_, ?_, am_ui_k.trans (k2 96 j rfl)⟩
        · rw [am_ui_c (by decide), am_ui_c (by decide), am_ui_k]
          exact k2 94 j rfl
        · rw [am_ui_c (by decide), am_ui_k]
          exact k2 95 j rfl
      · rw [am_ui_c (by decide), am_ui_c (by decide), am_ui_n (fun _ q => e q), am_ui_c (by decide), am_ui_n (fun _ q => e q), am_ui_c (by decide), am_ui_n (fun _ q => e q), am_ui_c (by decide), am_ui_c (by decide)]
        exact v2 j (by omega)
  exact l1 Q.length 0 M (Nat.zero_add _) am_kp_r (fun j hj => absurd hj (Nat.not_lt_zero j))
/-- law, the reference's -/
theorem sp_201 (hD : 51 ≤ D) (hb : am_mb T L m) (h1 : (am_lns T L (L + 1) 0 []).1 = true → ∀ m2, am_kp am_F201 m m2 → m2 78 13 = 0 → m2 78 15 = 1 → m2 78 16 = nI (am_lns T L (L + 1) 0 []).2.2.length → am_mln m2 0 0 (am_lns T L (L + 1) 0 []).2.2 → R (some (.int 1)) m2 ml)
    (h0 : (am_lns T L (L + 1) 0 []).1 = false → ∀ m2, am_kp am_F201f m m2 → m2 78 13 = 0 → R (some (.int (-100 - nI (am_lns T L (L + 1) 0 []).2.1))) m2 ml) : am_call D 201 [.ref 78] m ml R := by
  obtain ⟨d, rfl⟩ : ∃ d, D = d + 1 := ⟨D - 1, by omega⟩
  have gq : am_gQ 0 [] := ⟨trivial, Nat.le_refl _, Nat.le_refl _, Nat.le_refl _⟩
  have s0 : am_lsx m 0 [] (am_ui (am_ui (am_ui (am_ui m 78 21 0) 78 22 0) 78 23 0) 78 24 0) := by
    refine ⟨am_kp_u (am_kp_u (am_kp_u (am_kp_u am_kp_r rfl) rfl) rfl) rfl, ?_, ?_, ?_, fun j hj => absurd hj (Nat.not_lt_zero j), am_ui_k, trivial⟩
    · rw [am_ui_n (by omega), am_ui_n (by omega), am_ui_n (by omega), am_ui_k]
      rfl
    · rw [am_ui_n (by omega), am_ui_n (by omega), am_ui_k]
    · rw [am_ui_n (by omega), am_ui_k]
      rfl
  have gl := am_lns_g (T := T) hb.1 (L + 1) 0 [] (by omega) gq
  refine bk_201 (sp_201l (D := d) (by omega) hb (L + 1) 0 0 [] _ (Nat.zero_add _) (Nat.le_refl _) (by omega) gq s0 (fun ok m2 s2 => ?_) (fun ok m2 k2 v2 => ?_))
  · obtain ⟨g1, g2, g3, g4, g5⟩ := gl ok
    exact sp_201e g2 g3 s2 (h1 ok)
  · refine bk_201_35 (am_nn ?_)
    rw [v2]
    exact h0 ok _ (am_kp_u (am_kp_w k2 (fun c j q => decide_eq_false (by have := of_decide_eq_false q; omega))) rfl) am_ui_k
end SP70
section SP70b
variable {d : Nat} {mi : am_MI} {ml : am_ML} {P : List (List Nat × List Nat)} {Q : Int32 → Int32 → am_MI → am_ML → Prop}
def am_F6 : Nat → Nat → Bool := fun c j => decide (c = 17 ∨ c = 18 ∨ (90 ≤ c ∧ c ≤ 97) ∨ (c = 15 ∧ (j = 1 ∨ j = 2 ∨ j = 4 ∨ j = 6 ∨ j = 7)) ∨ (c = 78 ∧ (j = 13 ∨ j = 15 ∨ j = 16 ∨ j = 21 ∨ j = 22 ∨ j = 23 ∨ j = 24)))
theorem am_txs_w {m : am_MI} (h : am_txs m) : am_swd m := ⟨(h 8 (by omega)).1, fun j hj => by
  rw [(h 8 (by omega)).2 j hj]
  have : ∀ j, j < 6 → (am_tx 8).getD j 0 = am_chr j := by decide
  rw [this j hj]⟩
theorem am_txs_on {a b : am_MI} (h : am_txs a) (k : ∀ c j, 118 ≤ c → c ≤ 137 → b c j = a c j) : am_txs b := fun i hi => ⟨(k _ _ (by omega) (by omega)).trans (h i hi).1, fun j hj => (k _ _ (by omega) (by omega)).trans ((h i hi).2 j hj)⟩
/-- law -/
theorem pr_6 (hl : am_lwr P mi) (ht : am_tap mi) (hx : am_txs mi) (h : ∀ r mi2, am_kp am_F6 mi mi2 → am_tap mi2 → (am_lwr P mi2 ∧ mi2 15 7 = mi 15 7 ∨ (∃ P2, am_lwr P2 mi2) ∧ mi2 15 7 = mi 15 7 + 1) → Q r r mi2 ml) : am_pr (d + 58) 124 [.ref 0] 201 [.ref 78] mi ml Q := by
  obtain ⟨L, t1, t2, t3, t4⟩ := ht
  obtain ⟨T, hT⟩ : ∃ T : Nat → Nat, ∀ j, j < L → T j < 256 ∧ mi 16 j = nI (T j) ∧ mi 89 j = nI (T j) := ⟨fun j => (mi 16 j).toNatClampNeg, fun j hj => by
    obtain ⟨b, b1, b2, b3⟩ := t4 j hj
    have e : (mi 16 j).toNatClampNeg = b := by rw [b2, nI_clamp (by omega)]
    show (mi 16 j).toNatClampNeg < 256 ∧ mi 16 j = nI (mi 16 j).toNatClampNeg ∧ mi 89 j = nI (mi 16 j).toNatClampNeg
    rw [e]
    exact ⟨b1, b2, b3⟩⟩
  have hb : am_cb T L mi := ⟨t1, t2, fun j hj => ⟨(hT j hj).2.1, (hT j hj).1⟩, hx⟩
  have hm : am_mb T L mi := ⟨t1, t3, fun j hj => ⟨(hT j hj).2.2, (hT j hj).1⟩⟩
  have gq : am_gQ 0 [] := ⟨trivial, Nat.le_refl _, Nat.le_refl _, Nat.le_refl _⟩
  have gl := am_lns_g (T := T) t1 (L + 1) 0 [] (by omega) gq
  have tap : ∀ m2 : am_MI, m2 15 1 = 0 → m2 78 13 = 0 → am_tap m2 := fun m2 e1 e2 => ⟨0, by omega, e1, e2, fun j hj => absurd hj (Nat.not_lt_zero j)⟩
  refine bk_124 (sp_67 (by omega) hb (fun ok m2 k2 e1 e6 eat e7 => am_ri_i (am_ri_i ?_)) (fun no m2 k2 e1 => am_ri_i (am_ri_i ?_)))
  · obtain ⟨g1, g2, g3, g4, g5⟩ := gl ok
    have hm2 : am_mb T L m2 := ⟨t1, (k2 78 13 rfl).trans t3, fun j hj => ⟨(k2 89 j rfl).trans (hT j hj).2.2, (hT j hj).1⟩⟩
    refine sp_201 (by omega) hm2 (fun _ m3 k3 f13 f15 f16 fl => am_ri_i (h _ m3 (fun c j q => ?_) (tap m3 ((k3 15 1 rfl).trans e1) f13) (Or.inr ⟨⟨(am_lns T L (L + 1) 0 []).2.2, g1, g2, by omega, g4, Or.inr ⟨f15, g5⟩, f16, fl, (k3 15 6 rfl).trans e6, fun j hj => ?_, ?_⟩, (k3 15 7 rfl).trans e7⟩))) (fun no => absurd (ok.symm.trans no) (by decide))
    · have q := of_decide_eq_false q
      rw [k3 c j (decide_eq_false (by omega))]
      exact k2 c j (decide_eq_false (by omega))
    · rw [k3 18 _ rfl]
      exact eat j hj
    · refine am_txs_w (am_txs_on hx (fun c j w1 w2 => ?_))
      rw [k3 c j (decide_eq_false (by omega))]
      exact k2 c j (decide_eq_false (by omega))
  · have hm2 : am_mb T L m2 := ⟨t1, (k2 78 13 rfl).trans t3, fun j hj => ⟨(k2 89 j rfl).trans (hT j hj).2.2, (hT j hj).1⟩⟩
    refine sp_201 (by omega) hm2 (fun ok => absurd (ok.symm.trans no) (by decide)) (fun _ m3 k3 f13 => am_ri_i (h _ m3 (fun c j q => ?_) (tap m3 ((k3 15 1 rfl).trans e1) f13) (Or.inl ⟨am_lwr_on hl ?_ ?_ ?_ (fun j => ?_) (fun c j w1 w2 => ?_) ?_ (fun j => ?_), ?_⟩)))
    · have q := of_decide_eq_false q
      rw [k3 c j (decide_eq_false (by omega))]
      exact k2 c j (decide_eq_false (by omega))
    all_goals first
      | exact (k3 _ _ rfl).trans (k2 _ _ rfl)
      | exact (k3 _ _ (decide_eq_false (by omega))).trans (k2 _ _ (decide_eq_false (by omega)))
end SP70b
