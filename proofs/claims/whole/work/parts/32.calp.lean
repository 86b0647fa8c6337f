/-! pairs: door, doors, child, mend, of -/
def am_FCM : Nat → Nat → Bool := fun c j => decide ((c = 1 ∧ (j = 1 ∨ j = 2 ∨ j = 3)) ∨ (3 ≤ c ∧ c ≤ 12) ∨ (c = 78 ∧ (j = 0 ∨ j = 5)) ∨ (79 ≤ c ∧ c ≤ 88))
theorem am_kC_CM {a b : am_MI} (h : am_kp am_FC a b) : am_kp am_FCM a b := am_kp_w h (fun c j q => by
  have q := of_decide_eq_false q
  exact decide_eq_false (by omega))
theorem am_kM_CM {a b : am_MI} (h : am_kp am_FM a b) : am_kp am_FCM a b := am_kp_w h (fun c j q => by
  have q := of_decide_eq_false q
  exact decide_eq_false (by omega))
theorem am_w5 {w : Nat} (h1 : 3 ≤ w) (h2 : w ≤ 7) : w = 3 ∨ w = 4 ∨ w = 5 ∨ w = 6 ∨ w = 7 := by omega
theorem am_vm5 {n m w i : Nat} (hv : am_val n (m + 1) w i) (h : ¬ (i = m ∧ 3 ≤ w ∧ w ≤ 7)) : am_val n m w i := by
  unfold am_val at hv ⊢
  omega
section SP32
variable {d n m : Nat} {u : Nat → Nat → Int32} {mi : am_MI} {ml : am_ML} {R : am_R} {Q : Int32 → Int32 → am_MI → am_ML → Prop} {s nb q l p v1 : Nat} {f : Nat → Int32}
theorem am_cx_kM {a b : am_MI} (h : am_cx n m u a) (hk : am_kp am_FM a b) : am_cx n m u b := am_cx_on h (hk 1 1 rfl) (hk 1 2 rfl) (fun w i hw => hk _ _ (decide_eq_false (by omega)))
theorem am_cm_kC {a b : am_MI} (h : am_cm n m u a) (hk : am_kp am_FC a b) : am_cm n m u b := by
  refine ⟨h.1, h.2.1, (hk 78 0 rfl).trans h.2.2.1, (hk 78 5 rfl).trans h.2.2.2.1, fun w i hv => ?_⟩
  have hr := am_mc_r w (by unfold am_val at hv; omega)
  exact (hk _ _ (decide_eq_false (by omega))).trans (h.2.2.2.2 w i hv)
theorem am_cz_kM {a b : am_MI} (h : am_cz m a) (hk : am_kp am_FM a b) : am_cz m b := fun i h1 h2 => by
  rw [hk 9 i rfl, hk 10 i rfl]
  exact h i h1 h2
/-- door -/
theorem pr_0 {x y : Int32} (hst : am_sta mi) (hc : am_cx n m u mi) (hm : am_cm n m u mi) (hz : am_cz m mi) (hv1 : mi 1 3 = nI v1) (hs : ∀ r, Q r r mi ml)
    (hn : n < 12 → ∀ k1 k2 mi2, 1 ≤ k1 → k1 ≤ 24 → k2 ≤ 7 → x = nI k1 → y = nI k2 → am_cx (n + 1) m (am_uu (am_uu (am_uu u 0 n x) 1 n y) 2 n 1) mi2 → am_cm (n + 1) m (am_uu (am_uu (am_uu u 0 n x) 1 n y) 2 n 1) mi2 → am_cz m mi2 → am_kp am_FCM mi mi2 → mi2 1 3 = nI (v1 + 3) → mi2 82 n = -2 → (∀ j, ¬ j = n → mi2 82 j = mi 82 j) → Q (nI n) (nI n) mi2 ml) :
    am_pr (d + 5) 118 [.ref 0, .int x, .int y] 177 [.ref 78, .int x, .int y] mi ml Q := by
  have l0 : am_lo 0 = 1 := rfl
  have h0 : am_hi 0 = 24 := rfl
  have l1 : am_lo 1 = 0 := rfl
  have h1 : am_hi 1 = 7 := rfl
  have bad : (x.toInt < 1 ∨ 24 < x.toInt ∨ y.toInt < 0 ∨ 7 < y.toInt) → am_call (d + 5) 177 [.ref 78, .int x, .int y] mi ml (am_ri fun r2 mi2 ml2 => Q (-1) r2 mi2 ml2) := by
    intro g
    refine bk_177 (sp_173 (fun k a b e => am_ri_i (am_y (sp_168 (fun a1 b1 => ?_) (fun _ => am_ri_i (am_nn (am_ri_i (hs _))))))) (fun _ => am_ri_i (am_n0 (am_ri_i (hs _)))))
    rw [am_l0] at a1
    rw [am_l7] at b1
    rw [e, am_ti (by omega)] at g
    omega
  refine bk_118 (sp_3 hst (w := 0) (by omega) rfl (fun k1 a1 b1 e1 => am_ri_i (am_y (sp_3 hst (w := 1) (by omega) rfl (fun k2 a2 b2 e2 => am_ri_i (am_yn (sp_6 hc (fun e12 => am_ri_i (am_n0 (am_ri_i ?_))) (fun h12 mi2 hc2 kp2 ver cz => am_ri_i (am_y (am_ri_i ?_)))))) (fun g => am_ri_i (am_nn (am_ri_i (bad (by omega)))))))) (fun g => am_ri_i (am_n0 (am_ri_i (bad (by omega))))))
  · refine bk_177 (sp_173 (fun k a b e => am_ri_i (am_y (sp_168 (fun a1 b1 => am_ri_i (am_yn ⟨fun w => absurd (by rw [hm.2.2.1, e12]; rfl) w, fun _ => am_ri_i (hs _)⟩)) (fun g => ?_)))) (fun g => ?_))
    · rw [am_l0, am_l7, e2, am_ti (by omega)] at g
      omega
    · rw [e1, am_ti (by omega)] at g
      omega
  · rw [hc2.2.2.1, nI_pred]
    have hm2 := am_cm_kC hm kp2
    refine bk_177 (sp_173 (fun k a b e => am_ri_i (am_y (sp_168 (fun a1 b1 => am_ri_i (am_yn ⟨fun _ => sp_176 hm2 h12 (fun mi3 hm3 kp3 o1 o2 => am_ri_i (am_ri_i ?_)), fun w => ?_⟩)) (fun g => ?_)))) (fun g => ?_))
    · refine hn h12 k1 k2 mi3 (by omega) (by omega) (by omega) e1 e2 (am_cx_kM hc2 kp3) hm3 (am_cz_kM (fun i h1 h2 => by rw [(cz i).1, (cz i).2]; exact hz i h1 h2) kp3) (am_kp_t (am_kC_CM kp2) (am_kM_CM kp3)) ?_ o1 (fun j hj => (o2 j hj).trans (kp2 82 j rfl))
      rw [kp3 1 3 rfl, ver, hv1, nI_1, nI_1, nI_1]
    · have w := Decidable.not_not.mp w
      rw [hm2.2.2.1] at w
      have := (nI_eq (a := n) (b := 12) (by omega) (by omega)).mp w
      omega
    · rw [am_l0, am_l7, e2, am_ti (by omega)] at g
      omega
    · rw [e1, am_ti (by omega)] at g
      omega
/-- child -/
theorem pr_2 {x y : Int32} (hst : am_sta mi) (hc : am_cx n m u mi) (hm : am_cm n m u mi) (hz : am_cz m mi) (hv1 : mi 1 3 = nI v1) (hs : ∀ r, Q r r mi ml)
    (hn : m < 5 → ∀ k1 k2 mi2, 1 ≤ k1 → k1 ≤ 18 → k2 ≤ 7 → x = nI k1 → y = nI k2 → am_cx n (m + 1) (am_uu (am_uu (am_uu (am_uu (am_uu u 3 m x) 4 m y) 5 m 5) 6 m 0) 7 m 0) mi2 → am_cm n (m + 1) (am_uu (am_uu (am_uu (am_uu (am_uu u 3 m x) 4 m y) 5 m 5) 6 m 0) 7 m 0) mi2 → am_cz (m + 1) mi2 → am_kp am_FCM mi mi2 → mi2 1 3 = nI (v1 + 3) → (∀ j, mi2 82 j = mi 82 j) → Q (nI m) (nI m) mi2 ml) :
    am_pr (d + 5) 120 [.ref 0, .int x, .int y] 179 [.ref 78, .int x, .int y] mi ml Q := by
  have l0 : am_lo 3 = 1 := rfl
  have h0 : am_hi 3 = 18 := rfl
  have l1 : am_lo 4 = 0 := rfl
  have h1 : am_hi 4 = 7 := rfl
  have bad : (x.toInt < 1 ∨ 18 < x.toInt ∨ y.toInt < 0 ∨ 7 < y.toInt) → am_call (d + 5) 179 [.ref 78, .int x, .int y] mi ml (am_ri fun r2 mi2 ml2 => Q (-1) r2 mi2 ml2) := by
    intro g
    refine bk_179 (sp_168 (fun a b => am_ri_i (am_y (sp_168 (fun a1 b1 => ?_) (fun _ => am_ri_i (am_nn (am_ri_i (hs _))))))) (fun _ => am_ri_i (am_n0 (am_ri_i (hs _)))))
    rw [am_l0] at a1
    rw [am_l7] at b1
    rw [am_l1] at a
    rw [am_l18] at b
    omega
  refine bk_120 (sp_3 hst (w := 3) (by omega) rfl (fun k1 a1 b1 e1 => am_ri_i (am_y (sp_3 hst (w := 4) (by omega) rfl (fun k2 a2 b2 e2 => am_ri_i (am_yn (sp_7 hc hz (fun e5 => am_ri_i (am_n0 (am_ri_i ?_))) (fun h5 mi2 hc2 cz2 kp2 ver => am_ri_i (am_y (am_ri_i ?_)))))) (fun g => am_ri_i (am_nn (am_ri_i (bad (by omega)))))))) (fun g => am_ri_i (am_n0 (am_ri_i (bad (by omega))))))
  · refine bk_179 (sp_168 (fun a b => am_ri_i (am_y (sp_168 (fun a1 b1 => am_ri_i (am_yn ⟨fun w => absurd (by rw [hm.2.2.2.1, e5]; rfl) w, fun _ => am_ri_i (hs _)⟩)) (fun g => ?_)))) (fun g => ?_))
    · rw [am_l0, am_l7, e2, am_ti (by omega)] at g
      omega
    · rw [am_l1, am_l18, e1, am_ti (by omega)] at g
      omega
  · rw [hc2.2.2.2.1, nI_pred]
    have hm2 := am_cm_kC hm kp2
    have e0 := hm2.2.2.2.1
    have hcl : (nI m).toNatClampNeg = m := nI_clamp (by omega)
    have hin : vp_in (nI m) 5 := vp_in_nI h5 (by omega)
    refine bk_179 (sp_168 (fun a b => am_ri_i (am_y (sp_168 (fun a1 b1 => am_ri_i (am_yn ⟨fun _ => ?_, fun w => ?_⟩)) (fun g => ?_)))) (fun g => ?_))
    · rw [e0, hcl]
      refine ⟨hin, hin, hin, hin, hin, am_ri_i ?_⟩
      generalize hmy : am_ui (am_ui (am_ui (am_ui (am_ui (am_ui mi2 83 m x) 84 m y) 85 m 5) 86 m 0) 87 m 0) 78 5 (nI m + 1) = my
      have base : ∀ w i, am_val n (m + 1) w i → mi2 (am_mc w) (am_mj w i) = (fun w i => mi2 (am_mc w) (am_mj w i)) w i := fun _ _ _ => rfl
      have v3 : am_val n (m + 1) 3 m := am_vc (by omega) (by omega) (by omega)
      have v4 : am_val n (m + 1) 4 m := am_vc (by omega) (by omega) (by omega)
      have v5 : am_val n (m + 1) 5 m := am_vc (by omega) (by omega) (by omega)
      have v6 : am_val n (m + 1) 6 m := am_vc (by omega) (by omega) (by omega)
      have v7 : am_val n (m + 1) 7 m := am_vc (by omega) (by omega) (by omega)
      have z5 := am_cm_uu (y := 0) v7 (am_cm_uu (y := 0) v6 (am_cm_uu (y := 5) v5 (am_cm_uu (y := y) v4 (am_cm_uu (y := x) v3 base rfl) rfl) rfl) rfl) rfl
      have kp3 : am_kp am_FM mi2 my := by
        rw [← hmy]
        exact am_kp_u (am_kp_u (am_kp_u (am_kp_u (am_kp_u (am_kp_u am_kp_r rfl) rfl) rfl) rfl) rfl) rfl
      have o82 : ∀ j, my 82 j = mi2 82 j := fun j => by rw [← hmy, am_ui_c (by omega), am_ui_c (by omega), am_ui_c (by omega), am_ui_c (by omega), am_ui_c (by omega), am_ui_c (by omega)]
      have hm3 : am_cm n (m + 1) (am_uu (am_uu (am_uu (am_uu (am_uu u 3 m x) 4 m y) 5 m 5) 6 m 0) 7 m 0) my := by
        refine ⟨hm2.1, by omega, ?_, ?_, fun w i hv => ?_⟩
        · rw [← hmy, am_ui_n (by omega), am_ui_c (by omega), am_ui_c (by omega), am_ui_c (by omega), am_ui_c (by omega), am_ui_c (by omega)]
          exact hm2.2.2.1
        · rw [← hmy, am_ui_k, nI_1]
        · have hr := am_mc_r w (by unfold am_val at hv; omega)
          rw [← hmy, am_ui_c (by omega)]
          refine (z5 w i hv).trans ?_
          have st : ∀ (w0 : Nat) (y0 : Int32) (g1 g2 : Nat → Nat → Int32), ((w = w0 → i = m → False) → g1 w i = g2 w i) → am_uu g1 w0 m y0 w i = am_uu g2 w0 m y0 w i := by
            intro w0 y0 g1 g2 hh
            by_cases e : w = w0 ∧ i = m
            · obtain ⟨rfl, rfl⟩ := e
              rw [am_uu_k, am_uu_k]
            · rw [am_uu_n (fun p q => e ⟨p, q⟩), am_uu_n (fun p q => e ⟨p, q⟩)]
              exact hh (fun p q => e ⟨p, q⟩)
          refine st 7 0 _ _ (fun n7 => st 6 0 _ _ (fun n6 => st 5 5 _ _ (fun n5 => st 4 y _ _ (fun n4 => st 3 x _ _ (fun n3 => ?_)))))
          have h9 : ¬ (i = m ∧ 3 ≤ w ∧ w ≤ 7) := by
            rintro ⟨q1, q2, q3⟩
            rcases am_w5 q2 q3 with q | q | q | q | q
            · exact n3 q q1
            · exact n4 q q1
            · exact n5 q q1
            · exact n6 q q1
            · exact n7 q q1
          exact hm2.2.2.2.2 w i (am_vm5 hv h9)
      refine hn h5 k1 k2 my (by omega) (by omega) (by omega) e1 e2 (am_cx_kM hc2 kp3) hm3 (am_cz_kM cz2 kp3) (am_kp_t (am_kC_CM kp2) (am_kM_CM kp3)) ?_ (fun j => (o82 j).trans (kp2 82 j rfl))
      rw [kp3 1 3 rfl, ver, hv1, nI_1, nI_1, nI_1]
    · have w := Decidable.not_not.mp w
      rw [e0] at w
      have := (nI_eq (a := m) (b := 5) (by omega) (by omega)).mp w
      omega
    · rw [am_l0, am_l7, e2, am_ti (by omega)] at g
      omega
    · rw [am_l1, am_l18, e1, am_ti (by omega)] at g
      omega
/-- doors -/
theorem pr_1 {x y z : Int32} (hst : am_sta mi) (hc : am_cx n m u mi) (hm : am_cm n m u mi) (hz : am_cz m mi) (hv1 : mi 1 3 = nI v1) (hv : am_shv nb mi ml) (hs : ∀ r, Q r r mi ml)
    (hn : ∀ (l p : Nat) (f : Nat → Int32) k mi2, k ≤ 12 → (∀ j, j < k → am_dok n l p f j) → am_cx (n + k) m (am_du u n f k) mi2 → am_cm (n + k) m (am_du u n f k) mi2 → am_cz m mi2 → am_kp am_FCM mi mi2 → mi2 1 3 = nI (v1 + 3 * k) → (∀ j, n ≤ j → j < n + k → mi2 82 j = -2) → (∀ j, j < n → mi2 82 j = mi 82 j) → Q (nI k) (nI k) mi2 ml) :
    am_pr (d + 6) 119 [.ref 0, .int x, .int y, .int z] 178 [.ref 78, .int x, .int y, .int z] mi ml Q := by
  have hb := hv.1
  refine bk_119 (sp_165 (fun s hs6 ex => am_ri_i (am_y ?_)) (fun g => am_ri_i (am_n0 (am_ri_i (bk_178 (sp_174n g (am_ri_i (am_n0 (am_ri_i (hs _))))))))))
  have hvp : vp_in x 6 := by rw [ex]; exact vp_in_nI hs6 (by omega)
  have hcl : x.toNatClampNeg = s := by rw [ex]; exact nI_clamp (by omega)
  have badN : (z.toInt < 1 ∨ 12 < z.toInt) → am_call (d + 6) 178 [.ref 78, .int x, .int y, .int z] mi ml (am_ri fun r2 mi2 ml2 => Q (-1) r2 mi2 ml2) := by
    intro g
    refine bk_178 (sp_174s hs6 ex (am_ri_i (am_y (sp_168 (fun a b => ?_) (fun _ => am_ri_i (am_nn (am_ri_i (hs _))))))))
    rw [am_l1] at a
    rw [am_l12] at b
    omega
  refine ⟨fun w => am_ri_i (badN ?_), fun w1 => ⟨fun w2 => ⟨hvp, ?_⟩, fun w => am_ri_i (badN ?_)⟩⟩
  · rw [am_lt_i, am_l1] at w
    omega
  · rw [am_lt_i, am_l1] at w1
    rw [am_le_i, am_l12] at w2
    obtain ⟨N, hN, eN⟩ := am_nat (x := z) (n := 13) (by omega) (by omega)
    have hN1 : 1 ≤ N := by
      rw [eN, am_ti (by omega)] at w1
      omega
    have goM : ∀ {mi2 : am_MI} {R2 : am_R}, (mi2 106 s ≠ -1 → (mi2 106 s = 0 → am_wp (am_call (d + 5)) mt_178 R2 29 [some (.ref 78), some (.int x), some (.int y), some (.int z), some (.int 0), some (.int 0), none, none, none] [] mi2 ml) ∧ (¬ mi2 106 s = 0 → R2 (some (.int (-12))) mi2 ml)) → (¬ mi2 106 s ≠ -1 → R2 (some (.int 0)) mi2 ml) → am_call (d + 6) 178 [.ref 78, .int x, .int y, .int z] mi2 ml R2 := by
      intro mi2 R2 g1 g2
      refine bk_178 (sp_174s hs6 ex (am_ri_i (am_y (sp_168 (fun _ _ => am_ri_i (am_yn ⟨hvp, ?_⟩)) (fun g => ?_)))))
      · rw [hcl]
        exact ⟨fun w => ⟨hvp, g1 w⟩, g2⟩
      · rw [am_l1, am_l12] at g
        omega
    rw [hcl]
    refine am_need_o hs6 rfl ?_
    rcases hv.2 s hs6 with ⟨z1, z2⟩ | ⟨b, z1, z2, z3, z4⟩ | ⟨q, l, z1, z2, z3, z4, z5, z6, z7, z8⟩
    · refine ⟨fun w => absurd z1 w, fun _ => am_ri_i (goM (fun w => absurd z2 w) (fun _ => am_ri_i (hs _)))⟩
    · refine ⟨fun _ => am_need_o hs6 rfl (bk_100 (am_need_o hs6 rfl (sp_99 hs6 (fun w => ?_) (fun w => ?_) (fun _ _ => am_ri_i ⟨fun _ => am_ri_i ⟨fun w => absurd w (by decide), fun _ => am_ri_i (goM (fun _ => ⟨fun w => ?_, fun _ => am_ri_i (hs _)⟩) (fun w => ?_))⟩, fun w => absurd (by decide) w⟩)))), fun w => ?_⟩
      · rw [z2] at w
        exact absurd w (by decide)
      · rw [z2] at w
        exact absurd w (by decide)
      · rw [z4] at w
        have := (nI_eq (a := 10 + b) (b := 0) (by omega) (by omega)).mp w
        omega
      · have w := Decidable.not_not.mp w
        have e2 : (mi 106 s).toInt = (-1 : Int32).toInt := by rw [w]
        rw [z4, am_ti (by omega), am_lm1] at e2
        omega
      · rw [z2] at w
        exact absurd (by decide) w
    · have h1 : mi 106 s ≠ -1 := fun w => by
        have e2 : (mi 106 s).toInt = (-1 : Int32).toInt := by rw [w]
        rw [z5, am_ti (by omega), am_lm1] at e2
        omega
      have n0 : mi (66 + 2 * s) 0 ≠ 0 := fun w => by
        rw [z3] at w
        exact absurd w (by decide)
      refine ⟨fun _ => am_need_o hs6 rfl (bk_100 (am_need_o hs6 rfl (sp_99 hs6 (fun w => absurd w n0) (fun _ => am_ri_i (am_nn (am_need_o hs6 rfl ⟨fun q0 => am_ri_i (am_n0 ?_), fun q0 => am_ri_i ⟨fun w => absurd w (by decide), fun _ => am_ri_i (goM (fun _ => ⟨fun w => absurd (z4.trans (z5.symm.trans w)) q0, fun _ => am_ri_i (hs _)⟩) (fun w => absurd h1 w))⟩⟩))) (fun _ w => absurd z3 w)))), fun w => absurd n0 w⟩
      have M0 : mi 106 s = 0 := z5.trans (z4.symm.trans q0)
      by_cases yneg : y.toInt < 0
      · refine bk_119_29 (pk_le N 0 (fun w => by omega) (fun _ => bk_167 ⟨fun _ => ⟨am_b0, am_ri_i (am_n0 (am_ri_i ?_))⟩, fun w => absurd (am_lt_i.mpr (by rw [am_l0]; exact yneg)) w⟩) eN rfl)
        refine goM (fun _ => ⟨fun _ => bk_178_29 (pk_le N 0 (fun w => by omega) (fun _ => ⟨fun _ => am_ri_i (hs _), fun w => ?_⟩) eN rfl), fun w => absurd M0 w⟩) (fun w => absurd h1 w)
        exfalso
        rw [am_lc3] at w
        have e3 : y.toInt64 + (3 : Int64) * (0 : Int32).toInt64 = y.toInt64 := by
          rw [show (3 : Int64) * (0 : Int32).toInt64 = 0 by decide, Int64.add_zero]
        rw [e3] at w
        have e4 : y.toInt64.toInt = y.toInt := Int32.toInt_toInt64 y
        have e5 : (0 : Int64).toInt = 0 := rfl
        rw [e4, e5] at w
        exact w yneg
      · have hy31 := Int32.toInt_lt y
        obtain ⟨p, hp, ep⟩ := nI_of (x := y) (by rw [am_lt_i, am_l0]; exact yneg)
        have hf : ∀ j, p + j < l → (ml (67 + 2 * s) (p + j)).toInt32 = (fun j => (ml 108 (60 * s + (p + j))).toInt32) j := fun j hj => by rw [z8 (p + j) (by omega)]
        refine sp_119l (p := p) (N := N) (f := fun j => (ml 108 (60 * s + (p + j))).toInt32) hst hs6 z2 z6 ep hp (by omega) eN hf hc hv1 hz (fun k mi2 hk ok fin hc2 kp2 ver cz => am_ri_i ?_)
        have e106 : mi2 106 s = mi 106 s := kp2 106 s rfl
        refine goM (fun _ => ⟨fun _ => ?_, fun w => absurd (e106.trans M0) w⟩) (fun w => absurd (by rw [e106]; exact h1) w)
        refine sp_178l (p := p) (N := N) (f := fun j => (ml 108 (60 * s + (p + j))).toInt32) hs6 z2 ((kp2 107 s rfl).trans z7) ex ep hp (by omega) eN (fun j _ => rfl) (am_cm_kC hm kp2) k hk ok fin (fun mi3 hm3 kp3 o1 o2 => am_ri_i ?_)
        exact hn l p _ k mi3 (by omega) ok (am_cx_kM hc2 kp3) hm3 (am_cz_kM cz kp3) (am_kp_t (am_kC_CM kp2) (am_kM_CM kp3)) ((kp3 1 3 rfl).trans ver) o1 (fun j hj => (o2 j hj).trans (kp2 82 j rfl))
  · rw [am_le_i, am_l12] at w
    omega
/-- of -/
theorem pr_4 {x y : Int32} (hc : am_cx n m u mi) (hm : am_cm n m u mi) (hd : am_deeds n mi) (hs : ∀ r, Q r r mi ml) : am_pr (d + 4) 122 [.ref 0, .int x, .int y] 185 [.ref 78, .int x, .int y] mi ml Q := by
  have h12 := hc.1
  have h5 := hc.2.1
  obtain ⟨t, ht, e1, e2, e3, e4, e5, e6, -⟩ := hd
  refine bk_122 ⟨fun q => sp_2 hc (fun w i hv f1 f2 => am_ri_i (am_y (sp_4c hc f1 f2 hv (am_ri_i (am_ri_i ?_))))) (fun g => am_ri_i (am_n0 (am_ri_i ?_))), fun q => sp_0 hc (fun k hk ek => am_ri_i (am_y (sp_15 ek (by omega) (am_ri_i (am_ri_i ?_))))) (fun g => am_ri_i (am_n0 (am_ri_i ?_)))⟩
  · refine bk_185 ⟨fun _ => sp_180 hm (fun w2 i2 hv2 g1 g2 => am_ri_i (am_y (sp_182 h12 h5 hv f1 f2 (am_ri_i (am_ri_i ?_))))) (fun g => absurd (g w i hv f1 f2) id), fun w => absurd q w⟩
    rw [hm.2.2.2.2 w i hv]
    exact hs _
  · exact bk_185 ⟨fun _ => sp_180 hm (fun w2 i2 hv2 g1 g2 => absurd (g w2 i2 hv2 g1 g2) id) (fun _ => am_ri_i (am_n0 (am_ri_i (hs _)))), fun w => absurd q w⟩
  · refine bk_185 ⟨fun w => absurd (Decidable.not_not.mp q) w, fun _ => sp_169 hm (fun k2 hk2 ek2 => am_ri_i (am_y ⟨?_, am_ri_i ?_⟩)) (fun g => ?_)⟩
    · rw [ek]
      exact vp_in_nI (by omega) (by omega)
    · rw [ek, nI_clamp (by omega), ← e6 k hk]
      exact hs _
    · rw [ek, am_ti (by omega)] at g
      omega
  · refine bk_185 ⟨fun w => absurd (Decidable.not_not.mp q) w, fun _ => sp_169 hm (fun k2 hk2 ek2 => ?_) (fun _ => am_ri_i (am_n0 (am_ri_i (hs _))))⟩
    rw [ek2, am_ti (by omega)] at g
    omega
end SP32
