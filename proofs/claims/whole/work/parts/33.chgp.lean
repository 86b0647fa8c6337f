/-! pairs: mend, undo, redo, feed, count -/
def am_chg (n m : Nat) (mi : am_MI) : Prop := ∃ k c, k ≤ c ∧ c ≤ 40 ∧ mi 13 1 = nI k ∧ mi 13 2 = nI (c - k) ∧ mi 78 38 = nI k ∧ mi 78 37 = nI c ∧ (∀ j, j < 4 * c → mi 14 j = mi 103 j) ∧
  ∀ j, j < c → ∃ w i p q, am_val n m w i ∧ am_lo w ≤ p ∧ p ≤ am_hi w ∧ am_lo w ≤ q ∧ q ≤ am_hi w ∧ mi 103 (4 * j) = nI i ∧ mi 103 (4 * j + 1) = nI w ∧ mi 103 (4 * j + 2) = nI p ∧ mi 103 (4 * j + 3) = nI q
def am_Fch : Nat → Nat → Bool := fun c j => decide ((c = 1 ∧ (j = 1 ∨ j = 2 ∨ j = 3)) ∨ (3 ≤ c ∧ c ≤ 12) ∨ c = 13 ∨ c = 14 ∨ c = 103 ∨ (c = 78 ∧ (j = 0 ∨ j = 5 ∨ j = 37 ∨ j = 38)) ∨ (79 ≤ c ∧ c ≤ 88))
theorem am_chg_on {n m : Nat} {a b : am_MI} (h : am_chg n m a) (h13 : ∀ j, b 13 j = a 13 j) (h14 : ∀ j, b 14 j = a 14 j) (h103 : ∀ j, b 103 j = a 103 j) (e1 : b 78 37 = a 78 37) (e2 : b 78 38 = a 78 38) : am_chg n m b := by
  unfold am_chg at h ⊢
  simp only [h13, h14, h103, e1, e2]
  exact h
theorem am_chg_more {n m n2 m2 : Nat} {a : am_MI} (h : am_chg n m a) (hn : n ≤ n2) (hm : m ≤ m2) : am_chg n2 m2 a := by
  obtain ⟨k, c, a1, a2, a3, a4, a5, a6, a7, a8⟩ := h
  refine ⟨k, c, a1, a2, a3, a4, a5, a6, a7, fun j hj => ?_⟩
  obtain ⟨w, i, p, q, hv, rest⟩ := a8 j hj
  exact ⟨w, i, p, q, by unfold am_val at hv ⊢; omega, rest⟩
section SP33
variable {d n m : Nat} {u : Nat → Nat → Int32} {mi : am_MI} {ml : am_ML} {R : am_R} {Q : Int32 → Int32 → am_MI → am_ML → Prop} {v1 : Nat}
theorem am_cz_set {a b : am_MI} {w i : Nat} (hz : am_cz m a) (hv : am_val n m w i) (o : ∀ w2 i2, w2 < 10 → (w2 = w → i2 = i → False) → b (3 + w2) i2 = a (3 + w2) i2) : am_cz m b := by
  intro j h1 h2
  have z := hz j h1 h2
  have e6 := o 6 j (by omega) (fun e1 e2 => by
    subst e1 e2
    unfold am_val at hv
    omega)
  have e7 := o 7 j (by omega) (fun e1 e2 => by
    subst e1 e2
    unfold am_val at hv
    omega)
  exact ⟨e6.trans z.1, e7.trans z.2⟩
/-- mend -/
theorem pr_3 {x y v : Int32} (hst : am_sta mi) (hc : am_cx n m u mi) (hm : am_cm n m u mi) (hz : am_cz m mi) (hv1 : mi 1 3 = nI v1) (hch : am_chg n m mi) (hr : am_ur n m u) (hs : ∀ r, Q r r mi ml)
    (hn : ∀ w i p mi2, am_val n m w i → am_lo w ≤ p → p ≤ am_hi w → am_cx n m (am_uu u w i (nI p)) mi2 → am_cm n m (am_uu u w i (nI p)) mi2 → am_cz m mi2 → am_chg n m mi2 → am_kp am_Fch mi mi2 → mi2 1 3 = nI (v1 + 1) → (∀ j, mi2 82 j = mi 82 j) → Q (u w i) (u w i) mi2 ml) :
    am_pr (d + 4) 121 [.ref 0, .int x, .int y, .int v] 184 [.ref 78, .int x, .int y, .int v] mi ml Q := by
  obtain ⟨k, c, c1, c2, c3, c4, c5, c6, c7, c8⟩ := hch
  have inj : ∀ {w i p w2 i2 p2 : Nat}, am_val n m w i → am_val n m w2 i2 → y = nI w → x = nI i → y = nI w2 → x = nI i2 → w = w2 ∧ i = i2 := by
    intro w i p w2 i2 p2 h1 h2 a1 a2 a3 a4
    have b1 := hc.1
    have b2 := hc.2.1
    refine ⟨(nI_eq ?_ ?_).mp (a1.symm.trans a3), (nI_eq ?_ ?_).mp (a2.symm.trans a4)⟩ <;> unfold am_val at h1 h2 <;> omega
  refine sp_121 hc hst (by omega) c3 (fun no => am_ri_i ?_) (fun w i p hv a1 a2 e1 e2 e3 heq => am_ri_i ?_) (fun w i p hv a1 a2 e1 e2 e3 hne mx mi2 k1 f1 f2 f3 f4 f5 f6 f7 hc2 k2 ver o2 => am_ri_i ?_)
  · exact sp_184 hm (by omega) c5 (fun _ => am_ri_i (hs _)) (fun w i p hv a1 a2 e1 e2 e3 _ => absurd (no w i p hv a1 a2 e1 e2 e3) id) (fun w i p hv a1 a2 e1 e2 e3 => absurd (no w i p hv a1 a2 e1 e2 e3) id)
  · refine sp_184 hm (by omega) c5 (fun no => absurd (no w i p hv a1 a2 e1 e2 e3) id) (fun w2 i2 p2 hv2 _ _ g1 g2 g3 _ => am_ri_i ?_) (fun w2 i2 p2 hv2 _ _ g1 g2 g3 hne => ?_)
    · obtain ⟨rfl, rfl⟩ := inj (p := 0) (p2 := 0) hv hv2 e1 e2 g1 g2
      exact hs _
    · obtain ⟨rfl, rfl⟩ := inj (p := 0) (p2 := 0) hv hv2 e1 e2 g1 g2
      exact absurd heq hne
  · have al : am_kp (fun c j => decide ((c = 1 ∧ (j = 1 ∨ j = 2 ∨ j = 3)) ∨ (3 ≤ c ∧ c ≤ 12) ∨ c = 13 ∨ c = 14)) mi mi2 := fun c j w => by
      have w := of_decide_eq_false w
      rw [k2 c j (decide_eq_false (by omega)), k1 c j (decide_eq_false (by omega))]
    have hm2 : am_cm n m u mi2 := by
      refine ⟨hm.1, hm.2.1, (al 78 0 rfl).trans hm.2.2.1, (al 78 5 rfl).trans hm.2.2.2.1, fun w i hv => ?_⟩
      have hr := am_mc_r w (by unfold am_val at hv; omega)
      exact (al _ _ (decide_eq_false (by omega))).trans (hm.2.2.2.2 w i hv)
    refine sp_184 hm2 (by omega) ((al 78 38 rfl).trans c5) (fun no => absurd (no w i p hv a1 a2 e1 e2 e3) id) (fun w2 i2 p2 hv2 _ _ g1 g2 g3 heq => ?_) (fun w2 i2 p2 hv2 b1 b2 g1 g2 g3 _ mi3 hm3 k3 m1 m2 m3 m4 m5 m6 m7 m8 => am_ri_i ?_)
    · obtain ⟨rfl, rfl⟩ := inj (p := 0) (p2 := 0) hv hv2 e1 e2 g1 g2
      exact absurd heq hne
    · obtain ⟨rfl, rfl⟩ := inj (p := 0) (p2 := 0) hv hv2 e1 e2 g1 g2
      have hk39 : am_k39 k + 1 ≤ 40 ∧ (∀ j, j < am_k39 k → ∃ j2, j2 < c ∧ ∀ r, r < 4 → 4 * j + r + am_s40 k = 4 * j2 + r) := by
        by_cases q : k = 40
        · have x1 : am_k39 k = 39 := if_pos q
          have x2 : am_s40 k = 4 := if_pos q
          rw [x1, x2]
          exact ⟨by omega, fun j hj => ⟨j + 1, by omega, fun r _ => by omega⟩⟩
        · have x1 : am_k39 k = k := if_neg q
          have x2 : am_s40 k = 0 := if_neg q
          rw [x1, x2]
          exact ⟨by omega, fun j hj => ⟨j, by omega, fun r _ => by omega⟩⟩
      obtain ⟨h40, hent⟩ := hk39
      have x14 : ∀ j, mi3 14 j = mx 14 j := fun j => by rw [k3 14 j rfl, k2 14 j rfl]
      have x13 : ∀ j, mi3 13 j = mx 13 j := fun j => by rw [k3 13 j rfl, k2 13 j rfl]
      have y103 : ∀ j, mi2 103 j = mi 103 j := fun j => al 103 j rfl
      have hv2p : v = nI p := e3
      rw [hv2p] at hc2 hm3
      refine hn w i p mi3 hv a1 a2 (am_cx_on hc2 (k3 1 1 rfl) (k3 1 2 rfl) (fun w i hw => k3 _ _ (decide_eq_false (by omega)))) hm3 ?_ ⟨am_k39 k + 1, am_k39 k + 1, Nat.le_refl _, h40, ?_, ?_, m1, m2, fun j hj => ?_, fun j hj => ?_⟩ (fun c j w => ?_) ?_ (fun j => ?_)
      · have z1 : am_cz m mi2 := am_cz_set (a := mx) (fun j q1 q2 => by rw [k1 9 j rfl, k1 10 j rfl]; exact hz j q1 q2) hv o2
        exact fun j q1 q2 => by rw [k3 9 j rfl, k3 10 j rfl]; exact z1 j q1 q2
      · rw [x13, f1]
      · rw [x13, f2, Nat.sub_self]
        rfl
      · rw [x14]
        rcases Nat.lt_or_ge j (4 * am_k39 k) with q | q
        · rw [f3 j q, m3 j q, y103]
          have : j + am_s40 k < 4 * c := by
            obtain ⟨j2, hj2, hh⟩ := hent (j / 4) (by omega)
            have := hh (j % 4) (by omega)
            omega
          exact c7 _ this
        · rcases (show j = 4 * am_k39 k ∨ j = 4 * am_k39 k + 1 ∨ j = 4 * am_k39 k + 2 ∨ j = 4 * am_k39 k + 3 by omega) with e | e | e | e <;> subst e
          · rw [f4, m4]
          · rw [f5, m5]
          · rw [f6, m6]
          · rw [f7, m7]
      · rcases Nat.lt_or_ge j (am_k39 k) with q | q
        · obtain ⟨j2, hj2, hh⟩ := hent j q
          obtain ⟨w9, i9, p9, q9, hv9, s1, s2, s3, s4, s5, s6, s7, s8⟩ := c8 j2 hj2
          refine ⟨w9, i9, p9, q9, hv9, s1, s2, s3, s4, ?_, ?_, ?_, ?_⟩
          · have h0 := hh 0 (by omega)
            rw [m3 _ (by omega), y103, show 4 * j + am_s40 k = 4 * j2 by omega, s5]
          · have h0 := hh 1 (by omega)
            rw [m3 _ (by omega), y103, h0, s6]
          · have h0 := hh 2 (by omega)
            rw [m3 _ (by omega), y103, h0, s7]
          · have h0 := hh 3 (by omega)
            rw [m3 _ (by omega), y103, h0, s8]
        · have ej : j = am_k39 k := by omega
          subst ej
          obtain ⟨p0, r1, r2, r3⟩ := hr w i hv
          exact ⟨w, i, p0, p, hv, r1, r2, a1, a2, m4.trans e2, m5.trans e1, m6.trans r3, m7.trans e3⟩
      · have w := of_decide_eq_false w
        rw [k3 c j (decide_eq_false (by omega)), al c j (decide_eq_false (by omega))]
      · rw [k3 1 3 rfl, ver, k1 1 3 rfl, hv1, nI_1]
      · rw [m8, al 82 j rfl]
/-- undo -/
theorem pr_33 (hc : am_cx n m u mi) (hm : am_cm n m u mi) (hz : am_cz m mi) (hv1 : mi 1 3 = nI v1) (hch : am_chg n m mi) (hs : ∀ r, Q r r mi ml)
    (hn : ∀ r w i p mi2, am_val n m w i → am_lo w ≤ p → p ≤ am_hi w → am_cx n m (am_uu u w i (nI p)) mi2 → am_cm n m (am_uu u w i (nI p)) mi2 → am_cz m mi2 → am_chg n m mi2 → am_kp am_Fch mi mi2 → mi2 1 3 = nI (v1 + 1) → (∀ j, mi2 82 j = mi 82 j) → Q r r mi2 ml) :
    am_pr (d + 5) 151 [.ref 0] 186 [.ref 78] mi ml Q := by
  obtain ⟨k, c, c1, c2, c3, c4, c5, c6, c7, c8⟩ := hch
  have b1 := hc.1
  have b2 := hc.2.1
  refine bk_151 (bk_13 ?_)
  rw [c3]
  refine pk_lt 0 k (fun q => ?_) (fun q => ⟨am_b0, am_ri_i (am_n0 (am_ri_i (bk_186 ⟨fun w => absurd (by rw [c5, show k = 0 by omega]; rfl) w, fun _ => am_ri_i (hs _)⟩)))⟩) rfl rfl
  · obtain ⟨j, rfl⟩ : ∃ j, k = j + 1 := ⟨k - 1, by omega⟩
    have j40 : j < 40 := by omega
    obtain ⟨w, i, p, q9, hv, s1, s2, s3, s4, s5, s6, s7, s8⟩ := c8 j (by omega)
    obtain ⟨a0, g0⟩ := am_n40 j40
    obtain ⟨a1, g1⟩ := am_n4 1 j40 (by omega)
    obtain ⟨a2, g2⟩ := am_n4 2 j40 (by omega)
    obtain ⟨a0', g0'⟩ := am_w40 j40
    obtain ⟨a1', g1'⟩ := am_w4 1 j40 (by omega)
    obtain ⟨a2', g2'⟩ := am_w4 2 j40 (by omega)
    rw [nI_pred]
    refine ⟨g1, g0, g2, ?_⟩
    rw [show (1 : Int32) = nI 1 from rfl, show (2 : Int32) = nI 2 from rfl, a0, a1, a2, c7 _ (by omega), c7 _ (by omega), c7 _ (by omega), s5, s6, s7, c4, nI_add]
    generalize hmx : am_ui (am_ui mi 13 1 (nI j)) 13 2 (nI (c - (j + 1) + 1)) = mx
    have ox : ∀ c2 j2, ¬ c2 = 13 → mx c2 j2 = mi c2 j2 := fun c2 j2 h => by rw [← hmx, am_ui_c h, am_ui_c h]
    have x1 : mx 13 1 = nI j := by rw [← hmx, am_ui_n (by omega), am_ui_k]
    have x2 : mx 13 2 = nI (c - j) := by rw [← hmx, am_ui_k]; congr 1; omega
    have hcx : am_cx n m u mx := am_cx_on hc (ox _ _ (by omega)) (ox _ _ (by omega)) (fun w i hw => ox _ _ (by omega))
    refine sp_5 hcx hv rfl rfl (fun mi2 hc2 k2 ver _ _ o2 => am_rv_i ⟨am_b1, am_ri_i (am_y (am_ri_i ?_))⟩)
    have e1 : mi2 13 1 = nI j := (k2 13 1 rfl).trans x1
    have y2 : ∀ c2 j2, 13 < c2 → mi2 c2 j2 = mi c2 j2 := fun c2 j2 h => (k2 c2 j2 (decide_eq_false (by omega))).trans (ox c2 j2 (by omega))
    rw [e1]
    have z5 : mi2 78 38 = nI (j + 1) := (y2 78 38 (by omega)).trans c5
    refine bk_186 ⟨fun _ => ?_, fun w => ?_⟩
    · rw [z5, nI_pred, show (1 : Int32) = nI 1 from rfl, show (2 : Int32) = nI 2 from rfl, a0', a1', a2', y2 103 _ (by omega), y2 103 _ (by omega), y2 103 _ (by omega), s5, s6, s7]
      refine ⟨g0', g1', g2', ?_⟩
      generalize hmy : am_ui mi2 78 38 (nI j) = my
      have oy : ∀ c2 j2, (c2 = 78 → ¬ j2 = 38) → my c2 j2 = mi2 c2 j2 := fun c2 j2 h => by rw [← hmy, am_ui_n (fun a b => h a b)]
      have y38 : my 78 38 = nI j := by rw [← hmy, am_ui_k]
      have hr := am_mc_r w (by unfold am_val at hv; omega)
      refine sp_183 b1 b2 hv rfl rfl (am_rv_i (am_ri_i ?_))
      have e38 : am_ui my (am_mc w) (am_mj w i) (nI p) 78 38 = nI j := (am_ui_c (by omega)).trans y38
      rw [e38]
      generalize hmz : am_ui my (am_mc w) (am_mj w i) (nI p) = mz at e38
      have oz : ∀ c2 j2, ¬ c2 = am_mc w → mz c2 j2 = my c2 j2 := fun c2 j2 h => by rw [← hmz, am_ui_c h]
      have base : ∀ w i, am_val n m w i → my (am_mc w) (am_mj w i) = u w i := fun w i hv => by
        have hr := am_mc_r w (by unfold am_val at hv; omega)
        rw [oy _ _ (by omega), y2 _ _ (by omega)]
        exact hm.2.2.2.2 w i hv
      have al : ∀ c2 j2, 13 < c2 → (c2 = 78 → ¬ j2 = 38) → ¬ c2 = am_mc w → mz c2 j2 = mi c2 j2 := fun c2 j2 h1 h2 h3 => by rw [oz _ _ h3, oy _ _ h2, y2 _ _ h1]
      refine hn _ w i p mz hv s1 s2 (am_cx_on hc2 ?_ ?_ (fun w2 i2 hw2 => ?_)) ⟨b1, b2, ?_, ?_, am_cm_uu hv base hmz.symm⟩ (fun j2 h1 h2 => ?_) ⟨j, c, by omega, c2, ?_, ?_, e38, ?_, fun j2 hj2 => ?_, fun j2 hj2 => ?_⟩ (fun c2 j2 h => ?_) ?_ (fun j2 => ?_)
      · rw [oz _ _ (by omega), oy _ _ (by omega)]
      · rw [oz _ _ (by omega), oy _ _ (by omega)]
      · rw [oz _ _ (by omega), oy _ _ (by omega)]
      · rw [al _ _ (by omega) (by omega) (by omega)]
        exact hm.2.2.1
      · rw [al _ _ (by omega) (by omega) (by omega)]
        exact hm.2.2.2.1
      · rw [oz _ _ (by omega), oy _ _ (by omega), oz _ _ (by omega), oy _ _ (by omega)]
        exact am_cz_set (a := mx) (fun j q1 q2 => by rw [ox _ _ (by omega), ox _ _ (by omega)]; exact hz j q1 q2) hv o2 j2 h1 h2
      · rw [oz _ _ (by omega), oy _ _ (by omega), e1]
      · rw [oz _ _ (by omega), oy _ _ (by omega), k2 13 2 rfl, x2]
      · rw [al _ _ (by omega) (by omega) (by omega), c6]
      · rw [al _ _ (by omega) (by omega) (by omega), al _ _ (by omega) (by omega) (by omega)]
        exact c7 j2 hj2
      · rw [al _ _ (by omega) (by omega) (by omega), al _ _ (by omega) (by omega) (by omega), al _ _ (by omega) (by omega) (by omega), al _ _ (by omega) (by omega) (by omega)]
        exact c8 j2 hj2
      · have h := of_decide_eq_false h
        rw [oz _ _ (by omega), oy _ _ (by omega), k2 _ _ (decide_eq_false (by omega)), ox _ _ (by omega)]
      · rw [oz _ _ (by omega), oy _ _ (by omega), ver, ox _ _ (by omega), hv1, nI_1]
      · rw [al _ _ (by omega) (by omega) (by omega)]
    · have w := Decidable.not_not.mp w
      rw [z5] at w
      have := (nI_eq (a := j + 1) (b := 0) (by omega) (by omega)).mp w
      omega
/-- redo -/
theorem pr_34 (hc : am_cx n m u mi) (hm : am_cm n m u mi) (hz : am_cz m mi) (hv1 : mi 1 3 = nI v1) (hch : am_chg n m mi) (hs : ∀ r, Q r r mi ml)
    (hn : ∀ r w i p mi2, am_val n m w i → am_lo w ≤ p → p ≤ am_hi w → am_cx n m (am_uu u w i (nI p)) mi2 → am_cm n m (am_uu u w i (nI p)) mi2 → am_cz m mi2 → am_chg n m mi2 → am_kp am_Fch mi mi2 → mi2 1 3 = nI (v1 + 1) → (∀ j, mi2 82 j = mi 82 j) → Q r r mi2 ml) :
    am_pr (d + 5) 152 [.ref 0] 187 [.ref 78] mi ml Q := by
  obtain ⟨k, c, c1, c2, c3, c4, c5, c6, c7, c8⟩ := hch
  have b1 := hc.1
  have b2 := hc.2.1
  refine bk_152 (bk_14 ?_)
  rw [c4]
  refine pk_le (c - k) 0 (fun q => ⟨am_b0, am_ri_i (am_n0 (am_ri_i (bk_187 ⟨fun w => absurd (by rw [c5, c6, show k = c by omega]) w, fun _ => am_ri_i (hs _)⟩)))⟩) (fun q => ?_) rfl rfl
  · have j40 : k < 40 := by omega
    obtain ⟨w, i, p9, p, hv, s3, s4, s1, s2, s5, s6, s7, s8⟩ := c8 k (by omega)
    obtain ⟨a0, g0⟩ := am_n40 j40
    obtain ⟨a1, g1⟩ := am_n4 1 j40 (by omega)
    obtain ⟨a2, g2⟩ := am_n4 3 j40 (by omega)
    obtain ⟨a0', g0'⟩ := am_w40 j40
    obtain ⟨a1', g1'⟩ := am_w4 1 j40 (by omega)
    obtain ⟨a2', g2'⟩ := am_w4 3 j40 (by omega)
    rw [c3]
    refine pk_lt k 40 (fun _ => ⟨g1, g0, g2, ?_⟩) (fun w => absurd w (by omega)) rfl rfl
    rw [show (1 : Int32) = nI 1 from rfl, show (3 : Int32) = nI 3 from rfl, a0, a1, a2, c7 _ (by omega), c7 _ (by omega), c7 _ (by omega), s5, s6, s8]
    refine sp_5 hc hv rfl rfl (fun mi1 hc1 k1 ver _ _ o2 => am_rv_i ⟨am_b1, am_ri_i (am_y (am_ri_i ?_))⟩)
    have e1 : mi1 13 1 = nI k := (k1 13 1 rfl).trans c3
    have e2 : mi1 13 2 = nI (c - k) := (k1 13 2 rfl).trans c4
    rw [e1, e2, nI_add, show nI 1 = (1 : Int32) from rfl]
    obtain ⟨t, ht⟩ : ∃ t, c - k = t + 1 := ⟨c - k - 1, by omega⟩
    rw [ht, nI_pred]
    generalize hmx : am_ui (am_ui mi1 13 1 (nI (k + 1))) 13 2 (nI t) = mx
    have ox : ∀ c2 j2, ¬ c2 = 13 → mx c2 j2 = mi1 c2 j2 := fun c2 j2 h => by rw [← hmx, am_ui_c h, am_ui_c h]
    have x1 : mx 13 1 = nI (k + 1) := by rw [← hmx, am_ui_n (by omega), am_ui_k]
    have x2 : mx 13 2 = nI t := by rw [← hmx, am_ui_k]
    rw [x2]
    have y2 : ∀ c2 j2, 13 < c2 → mx c2 j2 = mi c2 j2 := fun c2 j2 h => (ox c2 j2 (by omega)).trans (k1 c2 j2 (decide_eq_false (by omega)))
    have z5 : mx 78 38 = nI k := (y2 78 38 (by omega)).trans c5
    have z6 : mx 78 37 = nI c := (y2 78 37 (by omega)).trans c6
    refine bk_187 ⟨fun _ => ?_, fun w => ?_⟩
    · rw [z5, show (1 : Int32) = nI 1 from rfl, show (3 : Int32) = nI 3 from rfl, a0', a1', a2', y2 103 _ (by omega), y2 103 _ (by omega), y2 103 _ (by omega), s5, s6, s8]
      refine ⟨g0', g1', g2', ?_⟩
      have hr := am_mc_r w (by unfold am_val at hv; omega)
      refine sp_183 b1 b2 hv rfl rfl (am_rv_i (am_ri_i ?_))
      have e38 : am_ui mx (am_mc w) (am_mj w i) (nI p) 78 38 = nI k := (am_ui_c (by omega)).trans z5
      have e37 : am_ui mx (am_mc w) (am_mj w i) (nI p) 78 37 = nI c := (am_ui_c (by omega)).trans z6
      rw [e38, e37, nI_add, pk_sub (by omega), show c - (k + 1) = t by omega]
      generalize hmz : am_ui mx (am_mc w) (am_mj w i) (nI p) = mz at e38 e37
      generalize hmw : am_ui mz 78 38 (nI (k + 1)) = mw
      have oz : ∀ c2 j2, ¬ c2 = am_mc w → mz c2 j2 = mx c2 j2 := fun c2 j2 h => by rw [← hmz, am_ui_c h]
      have ow : ∀ c2 j2, (c2 = 78 → ¬ j2 = 38) → mw c2 j2 = mz c2 j2 := fun c2 j2 h => by rw [← hmw, am_ui_n (fun a b => h a b)]
      have w38 : mw 78 38 = nI (k + 1) := by rw [← hmw, am_ui_k]
      have base : ∀ w i, am_val n m w i → mx (am_mc w) (am_mj w i) = u w i := fun w i hv => by
        have hr := am_mc_r w (by unfold am_val at hv; omega)
        rw [y2 _ _ (by omega)]
        exact hm.2.2.2.2 w i hv
      have al : ∀ c2 j2, 13 < c2 → (c2 = 78 → ¬ j2 = 38) → ¬ c2 = am_mc w → mw c2 j2 = mi c2 j2 := fun c2 j2 h1 h2 h3 => by rw [ow _ _ h2, oz _ _ h3, y2 _ _ h1]
      refine hn _ w i p mw hv s1 s2 (am_cx_on hc1 ?_ ?_ (fun w2 i2 hw2 => ?_)) ⟨b1, b2, ?_, ?_, fun w2 i2 hv2 => ?_⟩ (fun j2 h1 h2 => ?_) ⟨k + 1, c, by omega, c2, ?_, ?_, w38, ?_, fun j2 hj2 => ?_, fun j2 hj2 => ?_⟩ (fun c2 j2 h => ?_) ?_ (fun j2 => ?_)
      · rw [ow _ _ (by omega), oz _ _ (by omega), ox _ _ (by omega)]
      · rw [ow _ _ (by omega), oz _ _ (by omega), ox _ _ (by omega)]
      · rw [ow _ _ (by omega), oz _ _ (by omega), ox _ _ (by omega)]
      · rw [al _ _ (by omega) (by omega) (by omega)]
        exact hm.2.2.1
      · rw [al _ _ (by omega) (by omega) (by omega)]
        exact hm.2.2.2.1
      · have hr2 := am_mc_r w2 (by unfold am_val at hv2; omega)
        rw [ow _ _ (by omega)]
        exact am_cm_uu hv base hmz.symm w2 i2 hv2
      · rw [ow _ _ (by omega), oz _ _ (by omega), ox _ _ (by omega), ow _ _ (by omega), oz _ _ (by omega), ox _ _ (by omega)]
        exact am_cz_set hz hv o2 j2 h1 h2
      · rw [ow _ _ (by omega), oz _ _ (by omega), x1]
      · rw [ow _ _ (by omega), oz _ _ (by omega), x2, show c - (k + 1) = t by omega]
      · rw [al _ _ (by omega) (by omega) (by omega), c6]
      · rw [al _ _ (by omega) (by omega) (by omega), al _ _ (by omega) (by omega) (by omega)]
        exact c7 j2 hj2
      · rw [al _ _ (by omega) (by omega) (by omega), al _ _ (by omega) (by omega) (by omega), al _ _ (by omega) (by omega) (by omega), al _ _ (by omega) (by omega) (by omega)]
        exact c8 j2 hj2
      · have h := of_decide_eq_false h
        rw [ow _ _ (by omega), oz _ _ (by omega), ox _ _ (by omega), k1 _ _ (decide_eq_false (by omega))]
      · rw [ow _ _ (by omega), oz _ _ (by omega), ox _ _ (by omega), ver, hv1, nI_1]
      · rw [al _ _ (by omega) (by omega) (by omega)]
    · have w := Decidable.not_not.mp w
      rw [z5, z6] at w
      have := (nI_eq (a := k) (b := c) (by omega) (by omega)).mp w
      omega
def am_tap (mi : am_MI) : Prop := ∃ t, t ≤ 120 ∧ mi 15 1 = nI t ∧ mi 78 13 = nI t ∧ ∀ j, j < t → ∃ b, b < 256 ∧ mi 16 j = nI b ∧ mi 89 j = nI b
def am_Ftp : Nat → Nat → Bool := fun c j => decide (c = 16 ∨ c = 89 ∨ (c = 15 ∧ j = 1) ∨ (c = 78 ∧ j = 13))
/-- feed -/
theorem pr_5 {x : Int32} (ht : am_tap mi) (h : ∀ r mi2, am_tap mi2 → am_kp am_Ftp mi mi2 → Q r r mi2 ml) : am_pr (d + 2) 123 [.ref 0, .int x] 188 [.ref 78, .int x] mi ml Q := by
  have ht0 := ht
  obtain ⟨t, t1, t2, t3, t4⟩ := ht
  have bad : (x.toInt < 0 ∨ 255 < x.toInt) → am_call (d + 2) 188 [.ref 78, .int x] mi ml (am_ri fun r2 mi2 ml2 => Q (-1) r2 mi2 ml2) := by
    intro g
    refine bk_188 (sp_168 (fun a b => ?_) (fun _ => am_ri_i (am_nn (am_ri_i (h _ _ ht0 am_kp_r)))))
    rw [am_l0] at a
    rw [am_l255] at b
    omega
  refine bk_123 ⟨fun w => am_ri_i (bad ?_), fun w => ⟨fun w2 => bk_66 ?_, fun w2 => am_ri_i (bad ?_)⟩⟩
  · simp only [am_lt_i, am_le_i, am_eq_i, ne_eq, am_l0, am_l1, am_l2, am_l3, am_l4, am_l5, am_l6, am_l7, am_l8, am_l9, am_l10, am_l11, am_l12, am_l13, am_l14, am_l15, am_l16, am_l17, am_l18, am_l19, am_l20, am_l21, am_l22, am_l23, am_l24, am_l25, am_l26, am_l30, am_l32, am_l33, am_l37, am_l38, am_l40, am_l41, am_l42, am_l43, am_l45, am_l47, am_l48, am_l50, am_l57, am_l59, am_l60, am_l61, am_l62, am_l63, am_l70, am_l80, am_l81, am_l97, am_l99, am_l100, am_l110, am_l115, am_l119, am_l120, am_l121, am_l124, am_l126, am_l156, am_l255, am_l1103515245, am_l12345, am_l2147483647, am_lm1, am_lm2, am_lm3, am_lm5, am_lm11, am_lm12, am_lm13, am_lm14, am_lm33, am_lm59, am_lm63, am_lm100, am_lm126] at w
    omega
  · simp only [am_lt_i, am_le_i, am_eq_i, ne_eq, am_l0, am_l1, am_l2, am_l3, am_l4, am_l5, am_l6, am_l7, am_l8, am_l9, am_l10, am_l11, am_l12, am_l13, am_l14, am_l15, am_l16, am_l17, am_l18, am_l19, am_l20, am_l21, am_l22, am_l23, am_l24, am_l25, am_l26, am_l30, am_l32, am_l33, am_l37, am_l38, am_l40, am_l41, am_l42, am_l43, am_l45, am_l47, am_l48, am_l50, am_l57, am_l59, am_l60, am_l61, am_l62, am_l63, am_l70, am_l80, am_l81, am_l97, am_l99, am_l100, am_l110, am_l115, am_l119, am_l120, am_l121, am_l124, am_l126, am_l156, am_l255, am_l1103515245, am_l12345, am_l2147483647, am_lm1, am_lm2, am_lm3, am_lm5, am_lm11, am_lm12, am_lm13, am_lm14, am_lm33, am_lm59, am_lm63, am_lm100, am_lm126] at w w2
    obtain ⟨b, hb, eb⟩ := am_nat (x := x) (n := 256) (by omega) (by omega)
    have inM : ∀ {mi2 : am_MI} {R2 : am_R}, R2 (some (.int 1)) mi2 ml → am_call (d + 1) 168 [.int x, .int 0, .int 255] mi2 ml R2 := fun hR => sp_168 (fun _ _ => hR) (fun g => by
      rw [am_l0, am_l255] at g
      omega)
    rw [t2]
    refine pk_lt t 120 (fun q => ⟨vp_in_nI q (by omega), am_b1, am_ri_i (am_y (am_ri_i ?_))⟩) (fun q => ⟨am_b0, am_ri_i (am_n0 (am_ri_i (bk_188 (inM (am_ri_i (am_yn ⟨fun w => absurd (by rw [t3, show t = 120 by omega]; rfl) w, fun _ => am_ri_i (h _ _ ht0 am_kp_r)⟩))))))⟩) rfl rfl
    have f : (nI t).toNatClampNeg = t := nI_clamp (by omega)
    rw [f, nI_1, am_ui_k]
    generalize hmx : am_ui (am_ui mi 16 t x) 15 1 (nI (t + 1)) = mx
    have ox : ∀ c j, ¬ c = 16 → (c = 15 → ¬ j = 1) → mx c j = mi c j := fun c j h1 h2 => by rw [← hmx, am_ui_n (fun a b => h2 a b), am_ui_c h1]
    have x16 : ∀ j, mx 16 j = if j = t then x else mi 16 j := fun j => by
      rw [← hmx, am_ui_c (by omega)]
      by_cases e : j = t
      · rw [if_pos e, e, am_ui_k]
      · rw [if_neg e, am_ui_n (fun _ q => e q)]
    have x1 : mx 15 1 = nI (t + 1) := by rw [← hmx, am_ui_k]
    have z3 : mx 78 13 = nI t := (ox 78 13 (by omega) (by omega)).trans t3
    refine bk_188 (inM (am_ri_i (am_yn ⟨fun _ => ?_, fun w => ?_⟩)))
    · rw [z3, f, nI_1]
      refine ⟨vp_in_nI q (by omega), am_ri_i ?_⟩
      generalize hmy : am_ui (am_ui mx 78 13 (nI (t + 1))) 89 t x = my
      have oy : ∀ c j, ¬ c = 89 → (c = 78 → ¬ j = 13) → my c j = mx c j := fun c j h1 h2 => by rw [← hmy, am_ui_c h1, am_ui_n (fun a b => h2 a b)]
      have y89 : ∀ j, my 89 j = if j = t then x else mi 89 j := fun j => by
        rw [← hmy]
        by_cases e : j = t
        · rw [if_pos e, e, am_ui_k]
        · rw [if_neg e, am_ui_n (fun _ q => e q), am_ui_c (by omega), ox _ _ (by omega) (by omega)]
      have y13 : my 78 13 = nI (t + 1) := by rw [← hmy, am_ui_c (by omega), am_ui_k]
      refine h _ my ⟨t + 1, by omega, ?_, y13, fun j hj => ?_⟩ (fun c j w => ?_)
      · rw [oy _ _ (by omega) (by omega), x1]
      · rw [oy _ _ (by omega) (by omega), x16, y89]
        by_cases e : j = t
        · rw [if_pos e, if_pos e]
          exact ⟨b, hb, eb, eb⟩
        · rw [if_neg e, if_neg e]
          exact t4 j (by omega)
      · have w := of_decide_eq_false w
        rw [oy _ _ (by omega) (by omega), ox _ _ (by omega) (by omega)]
    · have w := Decidable.not_not.mp w
      rw [z3] at w
      have := (nI_eq (a := t) (b := 120) (by omega) (by omega)).mp w
      omega
  · simp only [am_lt_i, am_le_i, am_eq_i, ne_eq, am_l0, am_l1, am_l2, am_l3, am_l4, am_l5, am_l6, am_l7, am_l8, am_l9, am_l10, am_l11, am_l12, am_l13, am_l14, am_l15, am_l16, am_l17, am_l18, am_l19, am_l20, am_l21, am_l22, am_l23, am_l24, am_l25, am_l26, am_l30, am_l32, am_l33, am_l37, am_l38, am_l40, am_l41, am_l42, am_l43, am_l45, am_l47, am_l48, am_l50, am_l57, am_l59, am_l60, am_l61, am_l62, am_l63, am_l70, am_l80, am_l81, am_l97, am_l99, am_l100, am_l110, am_l115, am_l119, am_l120, am_l121, am_l124, am_l126, am_l156, am_l255, am_l1103515245, am_l12345, am_l2147483647, am_lm1, am_lm2, am_lm3, am_lm5, am_lm11, am_lm12, am_lm13, am_lm14, am_lm33, am_lm59, am_lm63, am_lm100, am_lm126] at w2
    omega
/-- count -/
theorem pr_44 {x : Int32} (e0 : mi 1 1 = mi 78 0) (e1 : mi 1 2 = mi 78 5) (e2 : mi 15 1 = mi 78 13) (e3 : mi 13 1 = mi 78 38) (e4 : mi 62 1 = mi 78 40) (e5 : mi 62 3 = mi 78 42) (h : ∀ r, Q r r mi ml) : am_pr (d + 1) 162 [.ref 0, .int x] 271 [.ref 78, .int x] mi ml Q := by
  refine bk_162 ⟨fun q => ?_, fun q0 => ⟨fun q => ?_, fun q1 => ⟨fun q => ?_, fun q2 => ⟨fun q => ?_, fun q3 => ⟨fun q => ?_, fun q4 => ⟨fun q => ?_, fun q5 => ?_⟩⟩⟩⟩⟩⟩
  · refine am_ri_i (bk_271 ⟨fun _ => am_ri_i ?_, fun w => absurd q w⟩)
    rw [e0]
    exact h _
  · refine am_ri_i (bk_271 ⟨fun w => absurd w q0, fun _ => ⟨fun _ => am_ri_i ?_, fun w => absurd q w⟩⟩)
    rw [e1]
    exact h _
  · refine am_ri_i (bk_271 ⟨fun w => absurd w q0, fun _ => ⟨fun w => absurd w q1, fun _ => ⟨fun _ => am_ri_i ?_, fun w => absurd q w⟩⟩⟩)
    rw [e2]
    exact h _
  · refine am_ri_i (bk_271 ⟨fun w => absurd w q0, fun _ => ⟨fun w => absurd w q1, fun _ => ⟨fun w => absurd w q2, fun _ => ⟨fun _ => am_ri_i ?_, fun w => absurd q w⟩⟩⟩⟩)
    rw [e3]
    exact h _
  · refine am_ri_i (bk_271 ⟨fun w => absurd w q0, fun _ => ⟨fun w => absurd w q1, fun _ => ⟨fun w => absurd w q2, fun _ => ⟨fun w => absurd w q3, fun _ => ⟨fun _ => am_ri_i ?_, fun w => absurd q w⟩⟩⟩⟩⟩)
    rw [e4]
    exact h _
  · refine am_ri_i (bk_271 ⟨fun w => absurd w q0, fun _ => ⟨fun w => absurd w q1, fun _ => ⟨fun w => absurd w q2, fun _ => ⟨fun w => absurd w q3, fun _ => ⟨fun w => absurd w q4, fun _ => ⟨fun _ => am_ri_i ?_, fun w => absurd q w⟩⟩⟩⟩⟩⟩)
    rw [e5]
    exact h _
  · exact am_ri_i (bk_271 ⟨fun w => absurd w q0, fun _ => ⟨fun w => absurd w q1, fun _ => ⟨fun w => absurd w q2, fun _ => ⟨fun w => absurd w q3, fun _ => ⟨fun w => absurd w q4, fun _ => ⟨fun w => absurd w q5, fun _ => am_ri_i (h _)⟩⟩⟩⟩⟩⟩)
end SP33
