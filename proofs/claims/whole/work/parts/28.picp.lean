/-! pairs: body, act, trace -/
def am_pics (mi : am_MI) : Prop := ∃ nb es, nb ≤ 50 ∧ mi 62 1 = nI nb ∧ mi 78 40 = nI nb ∧ (∀ j, j < nb → ∃ k, k < 8 ∧ mi 63 j = nI k ∧ mi 104 j = nI k) ∧ am_trx es mi ∧ am_trm es mi
def am_F62 : Nat → Nat → Bool := fun c j => decide ((62 ≤ c ∧ c ≤ 64) ∨ c = 104 ∨ c = 105 ∨ (c = 78 ∧ (j = 40 ∨ j = 42)))
theorem am_pics_on {a b : am_MI} (h : am_pics a) (he : ∀ c j, am_F62 c j = true → b c j = a c j) : am_pics b := by
  unfold am_pics am_trx am_trm at h ⊢
  have e62 : ∀ j, b 62 j = a 62 j := fun j => he 62 j rfl
  have e63 : ∀ j, b 63 j = a 63 j := fun j => he 63 j rfl
  have e64 : ∀ j, b 64 j = a 64 j := fun j => he 64 j rfl
  have e104 : ∀ j, b 104 j = a 104 j := fun j => he 104 j rfl
  have e105 : ∀ j, b 105 j = a 105 j := fun j => he 105 j rfl
  have e1 : b 78 40 = a 78 40 := he 78 40 rfl
  have e2 : b 78 42 = a 78 42 := he 78 42 rfl
  simp only [e62, e63, e64, e104, e105, e1, e2]
  exact h
theorem am_kx_F62 {a b : am_MI} (h : am_kp am_Ftx a b) : am_kp am_F62 a b := am_kp_w h (fun c j q => by
  have q := of_decide_eq_false q
  exact decide_eq_false (by omega))
theorem am_km_F62 {a b : am_MI} (h : am_kp am_Ftm a b) : am_kp am_F62 a b := am_kp_w h (fun c j q => by
  have q := of_decide_eq_false q
  exact decide_eq_false (by omega))
section SP28
variable {d : Nat} {mi : am_MI} {ml : am_ML} {R : am_R} {Q : Int32 → Int32 → am_MI → am_ML → Prop}
/-- body -/
theorem pr_35 {x : Int32} (hp : am_pics mi) (h : ∀ r mi2, am_pics mi2 → am_kp am_F62 mi mi2 → (mi2 62 1 = mi 62 1 ∨ mi2 62 1 = mi 62 1 + 1) → Q r r mi2 ml) : am_pr (d + 2) 153 [.ref 0, .int x] 260 [.ref 78, .int x] mi ml Q := by
  have hp0 := hp
  obtain ⟨nb, es, hb, e1, e2, hk, tx, tm⟩ := hp
  refine bk_153 (sp_83 (fun k hk8 ek => am_ri_i (am_yn (bk_85 ?_))) (fun g => am_ri_i (am_nn (am_ri_i (bk_260 (sp_168 (fun a b => ?_) (fun g2 => am_ri_i (am_nn (am_ri_i (h _ _ hp0 am_kp_r (Or.inl rfl)))))))))))
  · rw [e1]
    refine pk_lt nb 50 (fun q => ⟨vp_in_nI q (by omega), am_b1, am_ri_i (am_y (am_ri_i ?_))⟩) (fun q => ⟨am_b0, am_ri_i (am_n0 (am_ri_i ?_))⟩) rfl rfl
    · have f : (nI nb).toNatClampNeg = nb := nI_clamp (by omega)
      rw [f]
      generalize hmx : am_ui (am_ui mi 63 nb x) 62 1 (nI nb + 1) = mx
      have o : ∀ c j, ¬ c = 63 → (c = 62 → ¬ j = 1) → mx c j = mi c j := fun c j q1 q2 => by rw [← hmx, am_ui_n (fun a b => q2 a b), am_ui_c q1]
      have x1 : mx 62 1 = nI (nb + 1) := by rw [← hmx, am_ui_k, nI_1]
      have x63 : ∀ j, mx 63 j = if j = nb then x else mi 63 j := fun j => by
        rw [← hmx, am_ui_c (by omega)]
        by_cases e : j = nb
        · rw [if_pos e, e, am_ui_k]
        · rw [if_neg e, am_ui_n (fun _ q => e q)]
      refine bk_260 (sp_168 (fun a b => am_ri_i (am_yn ⟨fun _ => ?_, fun q2 => ?_⟩)) (fun g => ?_))
      · rw [o 78 40 (by omega) (by omega), e2, f]
        refine ⟨vp_in_nI q (by omega), am_ri_i ?_⟩
        rw [x1, nI_pred, nI_1]
        generalize hmy : am_ui (am_ui mx 104 nb x) 78 40 (nI (nb + 1)) = my
        have p : ∀ c j, ¬ c = 104 → (c = 78 → ¬ j = 40) → my c j = mx c j := fun c j q1 q2 => by rw [← hmy, am_ui_n (fun a b => q2 a b), am_ui_c q1]
        have y104 : ∀ j, my 104 j = if j = nb then x else mi 104 j := fun j => by
          rw [← hmy, am_ui_c (by omega)]
          by_cases e : j = nb
          · rw [if_pos e, e, am_ui_k]
          · rw [if_neg e, am_ui_n (fun _ q => e q), o 104 j (by omega) (by omega)]
        have y40 : my 78 40 = nI (nb + 1) := by rw [← hmy, am_ui_k]
        have al : ∀ c j, ¬ c = 63 → ¬ c = 104 → (c = 62 → ¬ j = 1) → (c = 78 → ¬ j = 40) → my c j = mi c j := fun c j a b c2 d2 => by rw [p c j b d2, o c j a c2]
        refine h _ my ⟨nb + 1, es, by omega, ?_, y40, fun j hj => ?_, ⟨tx.1, ?_, fun j h1 h2 => ?_⟩, ⟨tm.1, ?_, fun j h1 h2 => ?_⟩⟩ (fun c j w => ?_) (Or.inr (by rw [p 62 1 (by omega) (by omega), x1, e1, nI_1]))
        · rw [p 62 1 (by omega) (by omega), x1]
        · rw [p 63 j (by omega) (by omega), x63, y104]
          by_cases e : j = nb
          · rw [if_pos e, if_pos e]
            exact ⟨k, hk8, ek, ek⟩
          · rw [if_neg e, if_neg e]
            exact hk j (by omega)
        · rw [al 62 3 (by omega) (by omega) (by omega) (by omega)]
          exact tx.2.1
        · rw [al 64 j (by omega) (by omega) (by omega) (by omega)]
          exact tx.2.2 j h1 h2
        · rw [al 78 42 (by omega) (by omega) (by omega) (by omega)]
          exact tm.2.1
        · rw [al 105 j (by omega) (by omega) (by omega) (by omega)]
          exact tm.2.2 j h1 h2
        · have w := of_decide_eq_false w
          exact al c j (by omega) (by omega) (by omega) (by omega)
      · rw [o 78 40 (by omega) (by omega), e2] at q2
        have z := (nI_eq (a := nb) (b := 50) (by omega) (by omega)).mp (Decidable.not_not.mp q2)
        omega
      · rw [ek, am_ti (by omega), am_l0, am_l7] at g
        omega
    · have eb : nb = 50 := by omega
      subst eb
      refine bk_260 (sp_168 (fun a b => am_ri_i (am_yn ⟨fun q2 => absurd e2 q2, fun _ => am_ri_i (h _ _ hp0 am_kp_r (Or.inl rfl))⟩)) (fun g => ?_))
      rw [ek, am_ti (by omega), am_l0, am_l7] at g
      omega
  · rw [am_l0] at a
    rw [am_l7] at b
    omega
/-- trace -/
theorem pr_37 {x : Int32} (hp : am_pics mi) (h : ∀ r, Q r r mi ml) : am_pr (d + 3) 155 [.ref 0, .int x] 262 [.ref 78, .int x] mi ml Q := by
  obtain ⟨nb, es, hb, e1, e2, hk, tx, tm⟩ := hp
  obtain ⟨l1, x1, x2⟩ := tx
  obtain ⟨-, y1, y2⟩ := tm
  have fx : (mi 62 3).toInt = es.length := by rw [x1]; exact am_ti (by omega)
  have fy : (am_min 24 (mi 78 42) - 1).toInt = (if es.length < 24 then (es.length : Int) else 24) - 1 := by
    rw [y1]
    unfold am_min
    by_cases e : es.length < 24
    · rw [if_pos (show nI es.length < 24 from nI_lt (b := 24) e (by omega)), if_pos e]
      exact am_m1 (by omega)
    · rw [if_neg (show ¬ nI es.length < 24 from nI_nlt (a := es.length) (b := 24) (by omega) (by omega)), if_neg e]
      rfl
  have bad : (x.toInt < 0 ∨ es.length ≤ x.toInt ∨ 24 ≤ x.toInt) → am_call (d + 3) 262 [.ref 78, .int x] mi ml (am_ri fun r2 mi2 ml2 => Q (-1) r2 mi2 ml2) := by
    intro g
    refine bk_262 (sp_168 (fun a b => ?_) (fun _ => am_ri_i (am_n0 (am_ri_i (h _)))))
    rw [am_l0] at a
    rw [fy] at b
    split at b <;> omega
  have e88 : am_call (d + 2) 88 [.ref 62, .int x] mi ml (am_ri fun r1 mi1 ml1 => (r1 = 1 ∧ mi1 = mi ∧ ml1 = ml ∧ ∃ j, j < 24 ∧ j < es.length ∧ x = nI j) ∨ (r1 = 0 ∧ mi1 = mi ∧ ml1 = ml ∧ (x.toInt < 0 ∨ es.length ≤ x.toInt ∨ 24 ≤ x.toInt))) := by
    refine bk_88 ⟨fun q => ⟨am_b0, am_ri_i (Or.inr ⟨rfl, rfl, rfl, ?_⟩)⟩, fun q => ⟨fun q2 => ⟨am_b0, am_ri_i (Or.inr ⟨rfl, rfl, rfl, ?_⟩)⟩, fun q2 => ⟨fun q3 => ⟨am_b0, am_ri_i (Or.inr ⟨rfl, rfl, rfl, ?_⟩)⟩, fun q3 => ⟨am_b1, am_ri_i (Or.inl ⟨rfl, rfl, rfl, ?_⟩)⟩⟩⟩⟩
    · simp only [am_lt_i, am_le_i, am_eq_i, ne_eq, am_l0, am_l1, am_l2, am_l3, am_l4, am_l5, am_l6, am_l7, am_l8, am_l9, am_l10, am_l11, am_l12, am_l13, am_l14, am_l15, am_l16, am_l17, am_l18, am_l19, am_l20, am_l21, am_l22, am_l23, am_l24, am_l25, am_l26, am_l30, am_l32, am_l33, am_l37, am_l38, am_l40, am_l41, am_l42, am_l43, am_l45, am_l47, am_l48, am_l50, am_l57, am_l59, am_l60, am_l61, am_l62, am_l63, am_l70, am_l80, am_l81, am_l97, am_l99, am_l100, am_l110, am_l115, am_l119, am_l120, am_l121, am_l124, am_l126, am_l156, am_l255, am_l1103515245, am_l12345, am_l2147483647, am_lm1, am_lm2, am_lm3, am_lm5, am_lm11, am_lm12, am_lm13, am_lm14, am_lm33, am_lm59, am_lm63, am_lm100, am_lm126] at q
      omega
    · simp only [am_lt_i, am_le_i, am_eq_i, ne_eq, am_l0, am_l1, am_l2, am_l3, am_l4, am_l5, am_l6, am_l7, am_l8, am_l9, am_l10, am_l11, am_l12, am_l13, am_l14, am_l15, am_l16, am_l17, am_l18, am_l19, am_l20, am_l21, am_l22, am_l23, am_l24, am_l25, am_l26, am_l30, am_l32, am_l33, am_l37, am_l38, am_l40, am_l41, am_l42, am_l43, am_l45, am_l47, am_l48, am_l50, am_l57, am_l59, am_l60, am_l61, am_l62, am_l63, am_l70, am_l80, am_l81, am_l97, am_l99, am_l100, am_l110, am_l115, am_l119, am_l120, am_l121, am_l124, am_l126, am_l156, am_l255, am_l1103515245, am_l12345, am_l2147483647, am_lm1, am_lm2, am_lm3, am_lm5, am_lm11, am_lm12, am_lm13, am_lm14, am_lm33, am_lm59, am_lm63, am_lm100, am_lm126, fx] at q2
      omega
    · simp only [am_lt_i, am_le_i, am_eq_i, ne_eq, am_l0, am_l1, am_l2, am_l3, am_l4, am_l5, am_l6, am_l7, am_l8, am_l9, am_l10, am_l11, am_l12, am_l13, am_l14, am_l15, am_l16, am_l17, am_l18, am_l19, am_l20, am_l21, am_l22, am_l23, am_l24, am_l25, am_l26, am_l30, am_l32, am_l33, am_l37, am_l38, am_l40, am_l41, am_l42, am_l43, am_l45, am_l47, am_l48, am_l50, am_l57, am_l59, am_l60, am_l61, am_l62, am_l63, am_l70, am_l80, am_l81, am_l97, am_l99, am_l100, am_l110, am_l115, am_l119, am_l120, am_l121, am_l124, am_l126, am_l156, am_l255, am_l1103515245, am_l12345, am_l2147483647, am_lm1, am_lm2, am_lm3, am_lm5, am_lm11, am_lm12, am_lm13, am_lm14, am_lm33, am_lm59, am_lm63, am_lm100, am_lm126] at q3
      omega
    · simp only [am_lt_i, am_le_i, am_eq_i, ne_eq, am_l0, am_l1, am_l2, am_l3, am_l4, am_l5, am_l6, am_l7, am_l8, am_l9, am_l10, am_l11, am_l12, am_l13, am_l14, am_l15, am_l16, am_l17, am_l18, am_l19, am_l20, am_l21, am_l22, am_l23, am_l24, am_l25, am_l26, am_l30, am_l32, am_l33, am_l37, am_l38, am_l40, am_l41, am_l42, am_l43, am_l45, am_l47, am_l48, am_l50, am_l57, am_l59, am_l60, am_l61, am_l62, am_l63, am_l70, am_l80, am_l81, am_l97, am_l99, am_l100, am_l110, am_l115, am_l119, am_l120, am_l121, am_l124, am_l126, am_l156, am_l255, am_l1103515245, am_l12345, am_l2147483647, am_lm1, am_lm2, am_lm3, am_lm5, am_lm11, am_lm12, am_lm13, am_lm14, am_lm33, am_lm59, am_lm63, am_lm100, am_lm126, fx] at q q2 q3
      obtain ⟨j, hj, e⟩ := am_nat (x := x) (n := 24) (by omega) (by omega)
      subst e
      rw [am_ti (by omega)] at q2
      exact ⟨j, hj, by omega, rfl⟩
  have up : ∀ {d2 : Nat} {R : am_R}, am_call d2 88 [.ref 62, .int x] mi ml R → am_call (d2 + 1) 88 [.ref 62, .int x] mi ml R := fun h => am_call_s _ _ _ _ _ _ _ (fun _ _ _ q => q) h
  refine bk_155 (am_call_w (fun r a b q => ?_) e88)
  obtain ⟨r1, er, q⟩ := q
  subst er
  rcases q with ⟨q1, q2, q3, j, hj, hj2, ex⟩ | ⟨q1, q2, q3, g⟩
  · subst q1
    subst q2
    subst q3
    refine am_ri_i (am_y (bk_89 (bk_88 ⟨fun q => ?_, fun q => ⟨fun q2 => ?_, fun q2 => ⟨fun q3 => ?_, fun q3 => ⟨am_b1, am_ri_i (am_y ⟨?_, am_ri_i (am_ri_i ?_)⟩)⟩⟩⟩⟩)))
    · rw [ex] at q
      simp only [am_lt_i, am_le_i, am_eq_i, ne_eq, am_l0, am_l1, am_l2, am_l3, am_l4, am_l5, am_l6, am_l7, am_l8, am_l9, am_l10, am_l11, am_l12, am_l13, am_l14, am_l15, am_l16, am_l17, am_l18, am_l19, am_l20, am_l21, am_l22, am_l23, am_l24, am_l25, am_l26, am_l30, am_l32, am_l33, am_l37, am_l38, am_l40, am_l41, am_l42, am_l43, am_l45, am_l47, am_l48, am_l50, am_l57, am_l59, am_l60, am_l61, am_l62, am_l63, am_l70, am_l80, am_l81, am_l97, am_l99, am_l100, am_l110, am_l115, am_l119, am_l120, am_l121, am_l124, am_l126, am_l156, am_l255, am_l1103515245, am_l12345, am_l2147483647, am_lm1, am_lm2, am_lm3, am_lm5, am_lm11, am_lm12, am_lm13, am_lm14, am_lm33, am_lm59, am_lm63, am_lm100, am_lm126, am_ti (show j < 2 ^ 31 by omega)] at q
      omega
    · rw [ex] at q2
      simp only [am_lt_i, am_le_i, am_eq_i, ne_eq, am_l0, am_l1, am_l2, am_l3, am_l4, am_l5, am_l6, am_l7, am_l8, am_l9, am_l10, am_l11, am_l12, am_l13, am_l14, am_l15, am_l16, am_l17, am_l18, am_l19, am_l20, am_l21, am_l22, am_l23, am_l24, am_l25, am_l26, am_l30, am_l32, am_l33, am_l37, am_l38, am_l40, am_l41, am_l42, am_l43, am_l45, am_l47, am_l48, am_l50, am_l57, am_l59, am_l60, am_l61, am_l62, am_l63, am_l70, am_l80, am_l81, am_l97, am_l99, am_l100, am_l110, am_l115, am_l119, am_l120, am_l121, am_l124, am_l126, am_l156, am_l255, am_l1103515245, am_l12345, am_l2147483647, am_lm1, am_lm2, am_lm3, am_lm5, am_lm11, am_lm12, am_lm13, am_lm14, am_lm33, am_lm59, am_lm63, am_lm100, am_lm126, fx, am_ti (show j < 2 ^ 31 by omega)] at q2
      omega
    · rw [ex] at q3
      simp only [am_lt_i, am_le_i, am_eq_i, ne_eq, am_l0, am_l1, am_l2, am_l3, am_l4, am_l5, am_l6, am_l7, am_l8, am_l9, am_l10, am_l11, am_l12, am_l13, am_l14, am_l15, am_l16, am_l17, am_l18, am_l19, am_l20, am_l21, am_l22, am_l23, am_l24, am_l25, am_l26, am_l30, am_l32, am_l33, am_l37, am_l38, am_l40, am_l41, am_l42, am_l43, am_l45, am_l47, am_l48, am_l50, am_l57, am_l59, am_l60, am_l61, am_l62, am_l63, am_l70, am_l80, am_l81, am_l97, am_l99, am_l100, am_l110, am_l115, am_l119, am_l120, am_l121, am_l124, am_l126, am_l156, am_l255, am_l1103515245, am_l12345, am_l2147483647, am_lm1, am_lm2, am_lm3, am_lm5, am_lm11, am_lm12, am_lm13, am_lm14, am_lm33, am_lm59, am_lm63, am_lm100, am_lm126, am_ti (show j < 2 ^ 31 by omega)] at q3
      omega
    · rw [ex]
      exact vp_in_nI hj (by omega)
    · refine bk_262 (sp_168 (fun a b => am_ri_i (am_y ⟨?_, am_ri_i ?_⟩)) (fun g => ?_))
      · rw [ex]
        exact vp_in_nI hj (by omega)
      · rw [ex, nI_clamp (by omega)]
        have z := Option.some.inj ((x2 j hj hj2).symm.trans (y2 j hj hj2))
        rw [z]
        exact h _
      · rw [ex, fy, am_ti (by omega), am_l0] at g
        split at g <;> omega
  · subst q1
    subst q2
    subst q3
    exact am_ri_i (am_n0 (am_ri_i (bad g)))
/-- act -/
theorem pr_36 {x y z : Int32} (hs : am_sta mi) (hp : am_pics mi) (h : ∀ r mi2, am_pics mi2 → am_kp am_F62 mi mi2 → mi2 62 1 = mi 62 1 → Q r r mi2 ml) : am_pr (d + 14) 154 [.ref 0, .int x, .int y, .int z] 261 [.ref 78, .int x, .int y, .int z] mi ml Q := by
  obtain ⟨nb, es, hb, e1, e2, hk, tx, tm⟩ := hp
  generalize hm0 : am_ui mi 62 3 0 = m0
  have o0 : ∀ c j, (c = 62 → ¬ j = 3) → m0 c j = mi c j := fun c j q => by rw [← hm0, am_ui_n (fun a b => q a b)]
  have t0 : am_trx [] m0 := ⟨by decide, by rw [← hm0, am_ui_k]; rfl, fun j _ h => absurd h (by simp)⟩
  have s0 : am_sta m0 := by
    obtain ⟨s1, s2, s3, s4, s5, s6, s7, s8, s9⟩ := hs
    exact ⟨fun j hj => ⟨(o0 114 j (by omega)).trans (s1 j hj).1, (o0 115 j (by omega)).trans (s1 j hj).2⟩, (o0 116 0 (by omega)).trans s2, (o0 116 1 (by omega)).trans s3, (o0 116 2 (by omega)).trans s4, (o0 116 3 (by omega)).trans s5, (o0 116 4 (by omega)).trans s6, (o0 116 5 (by omega)).trans s7, (o0 116 6 (by omega)).trans s8, (o0 116 7 (by omega)).trans s9⟩
  have k0 : am_kp am_F62 mi m0 := fun c j q => o0 c j (by have := of_decide_eq_false q; omega)
  -- behind the class: the reference, with a fresh trace
  have fin : ∀ (v : Int32) (ev : List Int32) (m1 : am_MI), am_trx ev m1 → am_kp am_Ftx m0 m1 → (∀ m2, am_trm [] m2 → m2 = am_ui m1 78 42 0 → am_call (d + 14) 261 [.ref 78, .int x, .int y, .int z] m1 ml (am_ri fun r2 mi2 ml2 => (r2 = v ∧ ml2 = ml ∧ am_trm ev mi2 ∧ am_kp am_Ftm m2 mi2))) → am_call (d + 14) 261 [.ref 78, .int x, .int y, .int z] m1 ml (am_ri fun r2 mi2 ml2 => Q v r2 mi2 ml2) := by
    intro v ev m1 t1 k1 hc
    have tz : am_trm [] (am_ui m1 78 42 0) := ⟨by decide, by rw [am_ui_k]; rfl, fun j _ h => absurd h (by simp)⟩
    refine am_call_w (fun r a b q => ?_) (hc _ tz rfl)
    obtain ⟨r2, er, q1, q2, q3, q4⟩ := q
    subst er
    subst q1
    subst q2
    have al : ∀ c j, ¬ c = 64 → ¬ c = 105 → (c = 62 → ¬ j = 3) → (c = 78 → ¬ j = 42) → a c j = mi c j := fun c j a1 a2 a3 a4 => by
      rw [q4 c j (decide_eq_false (by omega)), am_ui_n (fun a b => a4 a b), k1 c j (decide_eq_false (by omega)), o0 c j a3]
    have alx : ∀ c j, (c = 64 ∨ (c = 62 ∧ j = 3)) → a c j = m1 c j := fun c j hh => by
      rw [q4 c j (decide_eq_false (by omega)), am_ui_n (by omega)]
    refine am_ri_i (h _ a ⟨nb, ev, hb, ?_, ?_, fun j hj => ?_, ⟨t1.1, ?_, fun j h1 h2 => ?_⟩, q3⟩ (fun c j w => ?_) (al 62 1 (by omega) (by omega) (by omega) (by omega)))
    · rw [al 62 1 (by omega) (by omega) (by omega) (by omega), e1]
    · rw [al 78 40 (by omega) (by omega) (by omega) (by omega), e2]
    · rw [al 63 j (by omega) (by omega) (by omega) (by omega), al 104 j (by omega) (by omega) (by omega) (by omega)]
      exact hk j hj
    · rw [alx 62 3 (by omega)]
      exact t1.2.1
    · rw [alx 64 j (by omega)]
      exact t1.2.2 j h1 h2
    · have w := of_decide_eq_false w
      exact al c j (by omega) (by omega) (by omega) (by omega)
  have n40 : ∀ m1 : am_MI, am_kp am_Ftx m0 m1 → m1 78 40 = nI nb := fun m1 k1 => by rw [k1 78 40 rfl, o0 78 40 (by omega), e2]
  refine bk_154 (bk_90 ?_)
  rw [hm0]
  refine sp_84 hb ((o0 62 1 (by omega)).trans e1) (fun i hi ex => am_ri_i (am_yn ?_)) (fun g => am_ri_i (am_nn (am_ri_i (am_ri_i (fin 0 [] m0 t0 am_kp_r (fun m2 t2 em => bk_261 ?_))))))
  · obtain ⟨K, hK, f1, f2⟩ := hk i hi
    have hbx : am_bx nb i K x m0 := ⟨s0, hb, (o0 62 1 (by omega)).trans e1, hi, ex, hK, (o0 63 i (by omega)).trans f1⟩
    have hv : vp_in x 50 := by rw [ex]; exact vp_in_nI (by omega) (by omega)
    have hcl : x.toNatClampNeg = i := by rw [ex]; exact nI_clamp (by omega)
    have f3 : ∀ m1 m2 : am_MI, am_kp am_Ftx m0 m1 → m2 = am_ui m1 78 42 0 → m2 104 i = nI K := fun m1 m2 k1 em => by rw [em, am_ui_c (by omega), k1 104 i rfl, o0 104 i (by omega), f2]
    have inb : ∀ (m1 : am_MI), am_kp am_Ftx m0 m1 → ∀ {R : am_R} {m2 : am_MI}, (∀ {d2 : Nat}, True) → R (some (.int 1)) m2 ml → am_call (d + 13) 168 [.int x, .int 0, .int (m1 78 40 - 1)] m2 ml R := fun m1 k1 R m2 _ hR => sp_168 (fun _ _ => hR) (fun g => by
      rw [n40 m1 k1, ex, am_ti (by omega), am_m1 (by omega), am_l0] at g
      omega)
    refine ⟨fun q0 => ?_, fun q0 => ⟨fun q1 => ?_, fun q1 => ⟨fun q2 => ?_, fun q2 => ⟨fun q3 => ?_, fun q3 => ?_⟩⟩⟩⟩
    · refine sp_92 hbx t0 (by decide) (fun m1 t1 k1 => am_ri_i (am_ri_i (am_ri_i (fin _ (am_opE K) m1 t1 k1 (fun m2 t2 em => bk_261 ?_)))))
      rw [← em]
      refine inb m1 k1 trivial (am_ri_i (am_y (sp_168 (fun _ _ => am_ri_i (am_yn ⟨hv, ⟨fun q => absurd q0 q, fun _ => ?_⟩⟩)) (fun g => ?_))))
      · rw [hcl, f3 m1 m2 k1 em]
        exact sp_256 hK t2 (by decide) (fun m3 t3 k3 => am_ri_i (am_ri_i ⟨rfl, rfl, t3, k3⟩))
      · rw [q0] at g
        exact absurd g (by decide)
    · refine sp_93 hbx t0 (by decide) (fun m1 t1 k1 => am_ri_i (am_ri_i (am_ri_i (fin _ (am_giE K) m1 t1 k1 (fun m2 t2 em => bk_261 ?_)))))
      rw [← em]
      refine inb m1 k1 trivial (am_ri_i (am_y (sp_168 (fun _ _ => am_ri_i (am_yn ⟨hv, ⟨fun _ => ⟨fun q => absurd q1 q, fun _ => ?_⟩, fun q => absurd (Decidable.not_not.mp q) q0⟩⟩)) (fun g => ?_))))
      · rw [hcl, f3 m1 m2 k1 em]
        have e4 : i < 50 := by omega
        exact sp_257 hK hK e4 ex (f3 m1 m2 k1 em) t2 (by decide) (fun m3 t3 k3 => am_ri_i (am_ri_i ⟨by rw [am_mgV_e _ _ K hK], rfl, by rw [am_mgE_e K hK] at t3; exact t3, k3⟩))
      · rw [q1] at g
        exact absurd g (by decide)
    · refine sp_94 hbx t0 (by decide) (fun m1 t1 k1 => am_ri_i (am_ri_i (am_ri_i (fin _ (am_waE K) m1 t1 k1 (fun m2 t2 em => bk_261 ?_)))))
      rw [← em]
      refine inb m1 k1 trivial (am_ri_i (am_y (sp_168 (fun _ _ => am_ri_i (am_yn ⟨hv, ⟨fun _ => ⟨fun _ => ⟨fun q => absurd q2 q, fun _ => ?_⟩, fun q => absurd (Decidable.not_not.mp q) q1⟩, fun q => absurd (Decidable.not_not.mp q) q0⟩⟩)) (fun g => ?_))))
      · rw [hcl, f3 m1 m2 k1 em]
        have e4 : i < 50 := by omega
        exact sp_258 hK hK e4 ex (f3 m1 m2 k1 em) t2 (by decide) (fun m3 t3 k3 => am_ri_i (am_ri_i ⟨by rw [am_mwV_e _ _ K hK], rfl, by rw [am_mwE_e K hK] at t3; exact t3, k3⟩))
      · rw [q2] at g
        exact absurd g (by decide)
    · refine sp_95 hbx t0 (by decide) (fun m1 t1 k1 => am_ri_i (am_ri_i (am_ri_i (fin _ (am_teE K) m1 t1 k1 (fun m2 t2 em => bk_261 ?_)))))
      rw [← em]
      refine inb m1 k1 trivial (am_ri_i (am_y (sp_168 (fun _ _ => am_ri_i (am_yn ⟨hv, ⟨fun _ => ⟨fun _ => ⟨fun _ => ?_, fun q => absurd (Decidable.not_not.mp q) q2⟩, fun q => absurd (Decidable.not_not.mp q) q1⟩, fun q => absurd (Decidable.not_not.mp q) q0⟩⟩)) (fun g => ?_))))
      · rw [hcl, f3 m1 m2 k1 em]
        have e4 : i < 50 := by omega
        exact sp_259 hK hK e4 ex (f3 m1 m2 k1 em) t2 (by decide) (fun m3 t3 k3 => am_ri_i (am_ri_i ⟨by rw [am_mtV_e _ _ K hK], rfl, by rw [am_mtE_e K hK] at t3; exact t3, k3⟩))
      · rw [q3] at g
        exact absurd g (by decide)
    · refine am_ri_i (am_ri_i (fin 0 [] m0 t0 am_kp_r (fun m2 t2 em => bk_261 ?_)))
      rw [← em]
      refine inb m0 am_kp_r trivial (am_ri_i (am_y (sp_168 (fun a b => ?_) (fun g => am_ri_i (am_nn (am_ri_i ⟨rfl, rfl, t2, am_kp_r⟩))))))
      exfalso
      simp only [am_lt_i, am_le_i, am_eq_i, ne_eq, am_l0, am_l1, am_l2, am_l3, am_l4, am_l5, am_l6, am_l7, am_l8, am_l9, am_l10, am_l11, am_l12, am_l13, am_l14, am_l15, am_l16, am_l17, am_l18, am_l19, am_l20, am_l21, am_l22, am_l23, am_l24, am_l25, am_l26, am_l30, am_l32, am_l33, am_l37, am_l38, am_l40, am_l41, am_l42, am_l43, am_l45, am_l47, am_l48, am_l50, am_l57, am_l59, am_l60, am_l61, am_l62, am_l63, am_l70, am_l80, am_l81, am_l97, am_l99, am_l100, am_l110, am_l115, am_l119, am_l120, am_l121, am_l124, am_l126, am_l156, am_l255, am_l1103515245, am_l12345, am_l2147483647, am_lm1, am_lm2, am_lm3, am_lm5, am_lm11, am_lm12, am_lm13, am_lm14, am_lm33, am_lm59, am_lm63, am_lm100, am_lm126] at a b q0 q1 q2 q3
      omega
  · rw [← em]
    refine sp_168 (fun a b => ?_) (fun _ => am_ri_i (am_n0 (am_ri_i ⟨rfl, rfl, t2, am_kp_r⟩)))
    rw [n40 m0 am_kp_r, am_m1 (by omega)] at b
    rw [am_l0] at a
    omega
end SP28
