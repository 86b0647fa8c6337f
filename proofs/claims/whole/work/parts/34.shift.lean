/-! pair: shift -/
section SP34
variable {d : Nat} {mi : am_MI} {ml : am_ML} {R : am_R} {Q : Int32 → Int32 → am_MI → am_ML → Prop} {s nb q l p v1 : Nat}
/-- hasPlaces -/
theorem sp_102 {x y : Int32} (hs : s < 6) (hl : l ≤ 60) (e : mi (66 + 2 * s) 3 = nI l) (h1 : ∀ p c, p + c ≤ l → x = nI p → y = nI c → R (some (.int 1)) mi ml) (h0 : (∀ p c, p + c ≤ l → x = nI p → y = nI c → False) → R (some (.int 0)) mi ml) : am_call (d + 1) 102 [.ref (66 + 2 * s), .int x, .int y] mi ml R := by
  have f : (mi (66 + 2 * s) 3).toInt = l := by rw [e]; exact am_ti (by omega)
  refine bk_102 ⟨fun w => ⟨am_b0, h0 ?_⟩, fun w => ⟨fun w2 => ⟨am_b0, h0 ?_⟩, fun w2 => am_need_o hs rfl ⟨fun w3 => ⟨am_b0, h0 ?_⟩, fun w3 => am_need_o hs rfl ⟨fun w4 => ⟨am_b0, h0 ?_⟩, fun w4 => ⟨am_b1, ?_⟩⟩⟩⟩⟩
  · rintro p c hpc rfl rfl
    rw [am_lt_i, am_l0, am_ti (by omega)] at w
    omega
  · rintro p c hpc rfl rfl
    rw [am_lt_i, am_l0, am_ti (by omega)] at w2
    omega
  · rintro p c hpc rfl rfl
    rw [am_lt_i, f, am_ti (by omega)] at w3
    omega
  · rintro p c hpc rfl rfl
    rw [e, pk_sub (by omega), am_lt_i, am_ti (by omega), am_ti (by omega)] at w4
    omega
  · simp only [am_lt_i, am_le_i, am_eq_i, ne_eq, am_l0, am_l1, am_l2, am_l3, am_l4, am_l5, am_l6, am_l7, am_l8, am_l9, am_l10, am_l11, am_l12, am_l13, am_l14, am_l15, am_l16, am_l17, am_l18, am_l19, am_l20, am_l21, am_l22, am_l23, am_l24, am_l25, am_l26, am_l30, am_l32, am_l33, am_l37, am_l38, am_l40, am_l41, am_l42, am_l43, am_l45, am_l47, am_l48, am_l50, am_l57, am_l59, am_l60, am_l61, am_l62, am_l63, am_l70, am_l80, am_l81, am_l97, am_l99, am_l100, am_l110, am_l115, am_l119, am_l120, am_l121, am_l124, am_l126, am_l156, am_l255, am_l1103515245, am_l12345, am_l2147483647, am_lm1, am_lm2, am_lm3, am_lm5, am_lm11, am_lm12, am_lm13, am_lm14, am_lm33, am_lm59, am_lm63, am_lm100, am_lm126] at w w2
    rw [am_lt_i, f] at w3
    obtain ⟨c, hc, ec⟩ := am_nat (x := y) (n := l + 1) (by omega) (by omega)
    subst ec
    rw [e, pk_sub (by omega), am_lt_i, am_ti (by omega)] at w4
    obtain ⟨p, hp, ep⟩ := am_nat (x := x) (n := l - c + 1) (by omega) (by omega)
    exact h1 p c (by omega) ep rfl
/-- takeFrom -/
theorem sp_106 {x y z : Int32} {t p1 p2 c l2 : Nat} (hs : s < 6) (ht : t < 6) (hl : l ≤ 60) (hl2 : l2 ≤ 60) (e : mi (66 + 2 * s) 3 = nI l) (e2 : mi (66 + 2 * t) 3 = nI l2) (hx : x = nI p1) (hy : y = nI p2) (hz : z = nI c) (g1 : p1 + c ≤ l) (g2 : p2 + c ≤ l2)
    (h : R none mi (am_cj ml (67 + 2 * s) p1 (67 + 2 * t) p2 c)) : am_call (d + 2) 106 [.ref (66 + 2 * t), .ref (66 + 2 * s), .int x, .int y, .int z] mi ml R := by
  subst hx
  subst hy
  subst hz
  obtain ⟨c1, c2, c3, c4⟩ := am_shc s hs
  obtain ⟨b1, b2, b3, b4⟩ := am_shc t ht
  refine bk_106 (am_need_o hs rfl (sp_102 hs hl e (fun _ _ _ _ _ => am_ri_i (am_y (am_need_o ht rfl (sp_102 ht hl2 e2 (fun _ _ _ _ _ => am_ri_i (am_y (am_need_o hs rfl (am_need_o ht rfl ?_)))) (fun no => absurd (no p2 c g2 rfl rfl) id))))) (fun no => absurd (no p1 c g1 rfl rfl) id)))
  rw [c2, b2, c3, b3, c4, b4, nI_clamp (show p1 < 2 ^ 31 by omega), nI_clamp (show p2 < 2 ^ 31 by omega), nI_clamp (show c < 2 ^ 31 by omega)]
  exact ⟨nI_pos (by omega), nI_pos (by omega), nI_pos (by omega), by omega, by omega, h⟩
/-- the reference's two loops -/
theorem sp_269u {x y z v w : Int32} {t p1 p2 c : Nat} (hs : s < 6) (ht : t < 6) (hx : x = nI s) (hy : y = nI p1) (hz : z = nI t) (hv : v = nI p2) (hw : w = nI c) (g1 : p1 + c ≤ 60) (g2 : p2 + c ≤ 60) (hne : s = t → p2 ≤ p1)
    (h : ∀ ml2 : am_ML, (∀ cc i, ¬ cc = 108 → ml2 cc i = ml cc i) → (∀ i, ml2 108 i = if 60 * t + p2 ≤ i ∧ i < 60 * t + p2 + c then ml 108 (60 * s + p1 + (i - (60 * t + p2))) else ml 108 i) → R (some (.int w)) mi ml2) :
    am_wp (am_call (d + 1)) mt_269 R 110 [some (.ref 78), some (.int x), some (.int y), some (.int z), some (.int v), some (.int w), some (.int 0)] [] mi ml := by
  subst hx
  subst hy
  subst hz
  subst hv
  refine am_for c (fun k => ∀ m2 : am_ML, (∀ cc i, ¬ cc = 108 → m2 cc i = ml cc i) → (∀ i, m2 108 i = if 60 * t + p2 ≤ i ∧ i < 60 * t + p2 + k then ml 108 (60 * s + p1 + (i - (60 * t + p2))) else ml 108 i) → am_wp (am_call (d + 1)) mt_269 R 110 [some (.ref 78), some (.int (nI s)), some (.int (nI p1)), some (.int (nI t)), some (.int (nI p2)), some (.int w), some (.int (nI k))] [] mi m2) ?_ (fun k hk ih => ?_) 0 (Nat.zero_le _) ml (fun _ _ _ => rfl) (fun i => by rw [if_neg (by omega)])
  · intro m2 a1 a2
    exact bk_269_110 (pk_le c c (fun _ => h m2 a1 a2) (fun q => absurd q (Nat.lt_irrefl _)) hw rfl)
  · intro m2 a1 a2
    have i1 : 60 * nI s + nI p1 + nI k = nI (60 * s + p1 + k) := by rw [show (60 : Int32) = nI 60 from rfl, pk_mul, nI_add, nI_add]
    have i2 : 60 * nI t + nI p2 + nI k = nI (60 * t + p2 + k) := by rw [show (60 : Int32) = nI 60 from rfl, pk_mul, nI_add, nI_add]
    refine bk_269_110 (pk_le c k (fun q => absurd q (by omega)) (fun _ => ?_) hw rfl)
    rw [i1, i2, nI_clamp (show 60 * s + p1 + k < 2 ^ 31 by omega), nI_clamp (show 60 * t + p2 + k < 2 ^ 31 by omega), nI_1]
    refine ⟨vp_in_nI (by omega) (by omega), vp_in_nI (by omega) (by omega), ih _ (fun cc i hc => ?_) (fun i => ?_)⟩
    · unfold am_ul
      rw [if_neg (fun q => hc q.1)]
      exact a1 cc i hc
    · unfold am_ul
      by_cases e : i = 60 * t + p2 + k
      · rw [if_pos ⟨rfl, e⟩, if_pos (by omega), a2, if_neg (by omega)]
        congr 1
        omega
      · rw [if_neg (by omega), a2]
        by_cases e2 : 60 * t + p2 ≤ i ∧ i < 60 * t + p2 + k
        · rw [if_pos e2, if_pos (by omega)]
        · rw [if_neg e2, if_neg (by omega)]
theorem sp_269d {x y z v w : Int32} {t p1 p2 c : Nat} (hs : s < 6) (ht : t < 6) (hx : x = nI s) (hy : y = nI p1) (hz : z = nI t) (hv : v = nI p2) (hw : w = nI c) (g1 : p1 + c ≤ 60) (g2 : p2 + c ≤ 60) (hst : s = t) (hlt : p1 < p2)
    (h : ∀ ml2 : am_ML, (∀ cc i, ¬ cc = 108 → ml2 cc i = ml cc i) → (∀ i, ml2 108 i = if 60 * t + p2 ≤ i ∧ i < 60 * t + p2 + c then ml 108 (60 * s + p1 + (i - (60 * t + p2))) else ml 108 i) → R (some (.int w)) mi ml2) :
    am_wp (am_call (d + 1)) mt_269 R 83 [some (.ref 78), some (.int x), some (.int y), some (.int z), some (.int v), some (.int w), some (.int (w - 1))] [] mi ml := by
  subst hx
  subst hy
  subst hz
  subst hv
  have stp : ∀ (k : Nat), k ≤ c → ∀ (j : Int32), (k = 0 ∧ j = -1 ∨ ∃ k2, k = k2 + 1 ∧ j = nI k2) → ∀ m2 : am_ML, (∀ cc i, ¬ cc = 108 → m2 cc i = ml cc i) → (∀ i, m2 108 i = if 60 * t + p2 + k ≤ i ∧ i < 60 * t + p2 + c then ml 108 (60 * s + p1 + (i - (60 * t + p2))) else ml 108 i) → am_wp (am_call (d + 1)) mt_269 R 83 [some (.ref 78), some (.int (nI s)), some (.int (nI p1)), some (.int (nI t)), some (.int (nI p2)), some (.int w), some (.int j)] [] mi m2 := by
    intro k
    induction k with
    | zero =>
      intro _ j hj m2 a1 a2
      have ej : j = -1 := by
        rcases hj with ⟨_, e⟩ | ⟨k2, e, _⟩
        · exact e
        · omega
      subst ej
      exact bk_269_83 ⟨fun _ => h m2 a1 (fun i => by rw [a2, Nat.add_zero]), fun q => absurd (by decide) q⟩
    | succ k ih =>
      intro hk j hj m2 a1 a2
      have ej : j = nI k := by
        rcases hj with ⟨e, _⟩ | ⟨k2, e, e2⟩
        · omega
        · rw [e2, show k2 = k by omega]
      subst ej
      have i1 : 60 * nI s + nI p1 + nI k = nI (60 * s + p1 + k) := by rw [show (60 : Int32) = nI 60 from rfl, pk_mul, nI_add, nI_add]
      have i2 : 60 * nI t + nI p2 + nI k = nI (60 * t + p2 + k) := by rw [show (60 : Int32) = nI 60 from rfl, pk_mul, nI_add, nI_add]
      refine bk_269_83 ⟨fun q => absurd q (nI_pos (by omega)), fun _ => ?_⟩
      rw [i1, i2, nI_clamp (show 60 * s + p1 + k < 2 ^ 31 by omega), nI_clamp (show 60 * t + p2 + k < 2 ^ 31 by omega)]
      refine ⟨vp_in_nI (by omega) (by omega), vp_in_nI (by omega) (by omega), ih (by omega) (nI k + -1) ?_ _ (fun cc i hc => ?_) (fun i => ?_)⟩
      · by_cases k0 : k = 0
        · subst k0
          exact Or.inl ⟨rfl, rfl⟩
        · obtain ⟨k2, rfl⟩ : ∃ k2, k = k2 + 1 := ⟨k - 1, by omega⟩
          exact Or.inr ⟨k2, rfl, pk_m1 k2⟩
      · unfold am_ul
        rw [if_neg (fun q => hc q.1)]
        exact a1 cc i hc
      · unfold am_ul
        by_cases e : i = 60 * t + p2 + k
        · rw [if_pos ⟨rfl, e⟩, if_pos (by omega), a2, if_neg (by omega)]
          congr 1
          omega
        · rw [if_neg (by omega), a2]
          by_cases e2 : 60 * t + p2 + (k + 1) ≤ i ∧ i < 60 * t + p2 + c
          · rw [if_pos e2, if_pos (by omega)]
          · rw [if_neg e2, if_neg (by omega)]
  refine stp c (Nat.le_refl _) (w - 1) ?_ ml (fun _ _ _ => rfl) (fun i => by rw [if_neg (by omega)])
  by_cases c0 : c = 0
  · exact Or.inl ⟨c0, by rw [hw, c0]; rfl⟩
  · obtain ⟨k2, rfl⟩ : ∃ k2, c = k2 + 1 := ⟨c - 1, by omega⟩
    exact Or.inr ⟨k2, rfl, by rw [hw, nI_pred]⟩
/-- what the reference's shift asks, once both shelves hold rows -/
def am_shw (d : Nat) (x y z v w : Int32) (s t : Nat) (mi : am_MI) (ml : am_ML) (R2 : am_R) : Prop :=
  (mi 106 s = mi 106 t → (w < 0 → R2 (some (.int (-13))) mi ml) ∧ (¬ w < 0 → (y < 0 → R2 (some (.int (-13))) mi ml) ∧ (¬ y < 0 → (v < 0 → R2 (some (.int (-13))) mi ml) ∧ (¬ v < 0 →
    (0 < lg_cmp (y.toInt64 + w.toInt64) (mi 107 s).toInt64 → R2 (some (.int (-13))) mi ml) ∧ (¬ 0 < lg_cmp (y.toInt64 + w.toInt64) (mi 107 s).toInt64 →
    (lg_cmp (v.toInt64 + w.toInt64) (mi 107 t).toInt64 ≤ 0 →
      (x ≠ z → am_wp (am_call (d + 2)) mt_269 R2 110 [some (.ref 78), some (.int x), some (.int y), some (.int z), some (.int v), some (.int w), some (.int (0 : Int32))] [] mi ml) ∧
      (¬ x ≠ z → (v ≤ y → am_wp (am_call (d + 2)) mt_269 R2 110 [some (.ref 78), some (.int x), some (.int y), some (.int z), some (.int v), some (.int w), some (.int (0 : Int32))] [] mi ml) ∧
        (¬ v ≤ y → am_wp (am_call (d + 2)) mt_269 R2 83 [some (.ref 78), some (.int x), some (.int y), some (.int z), some (.int v), some (.int w), some (.int (w - (1 : Int32)))] [] mi ml))) ∧
    (¬ lg_cmp (v.toInt64 + w.toInt64) (mi 107 t).toInt64 ≤ 0 → R2 (some (.int (-13))) mi ml)))))) ∧
  (¬ mi 106 s = mi 106 t → R2 (some (.int (-12))) mi ml)
/-- shift -/
theorem pr_42 {x y z v w : Int32} (hv : am_shv nb mi ml) (h : ∀ r ml2, am_shv nb mi ml2 → Q r r mi ml2) : am_pr (d + 3) 160 [.ref 0, .int x, .int y, .int z, .int v, .int w] 269 [.ref 78, .int x, .int y, .int z, .int v, .int w] mi ml Q := by
  have hb := hv.1
  refine bk_160 (sp_165 (fun s hs ex => am_ri_i (am_y ?_)) (fun g => am_ri_i (am_n0 (am_ri_i (bk_269 (sp_174n g (am_ri_i (am_n0 (am_ri_i (h _ _ hv))))))))))
  refine sp_165 (fun t ht ez => am_ri_i (am_yn ?_)) (fun g => am_ri_i (am_nn (am_ri_i (bk_269 (sp_174s hs ex (am_ri_i (am_y (sp_174n g (am_ri_i (am_nn (am_ri_i (h _ _ hv))))))))))))
  have hvx : vp_in x 6 := by rw [ex]; exact vp_in_nI hs (by omega)
  have hvz : vp_in z 6 := by rw [ez]; exact vp_in_nI ht (by omega)
  have hcx : x.toNatClampNeg = s := by rw [ex]; exact nI_clamp (by omega)
  have hcz : z.toNatClampNeg = t := by rw [ez]; exact nI_clamp (by omega)
  have h106 : ∀ t, t < 6 → (mi (66 + 2 * t) 0 = 0 ↔ mi 106 t = -1) := by
    intro t ht
    rcases hv.2 t ht with ⟨z1, z2⟩ | ⟨b, z1, z2, z3, z4⟩ | ⟨q, l, z1, z2, z3, z4, z5, z6, z7, z8⟩
    · exact ⟨fun _ => z2, fun _ => z1⟩
    · rw [z2, z4]
      refine ⟨fun q => absurd q (by decide), fun q => ?_⟩
      have e2 : (nI (10 + b)).toInt = (-1 : Int32).toInt := by rw [q]
      rw [am_ti (by omega), am_lm1] at e2
      omega
    · rw [z3, z5]
      refine ⟨fun q => absurd q (by decide), fun w => ?_⟩
      have e2 : (nI q).toInt = (-1 : Int32).toInt := by rw [w]
      rw [am_ti (by omega), am_lm1] at e2
      omega
  have go : ∀ {m2 : am_ML} {R2 : am_R}, ((mi 106 s = -1 → R2 (some (.int (-11))) mi m2) ∧ (¬ mi 106 s = -1 → (vp_in z 6 ∧ ((mi 106 t ≠ -1 → am_call (d + 2) 265 [.ref 78, .int x] mi m2 (am_ri fun r3 mi3 ml3 => (r3 = 0 → R2 (some (.int (-12))) mi3 ml3) ∧ (¬ r3 = 0 → am_call (d + 2) 265 [.ref 78, .int z] mi3 ml3 (am_ri fun r4 mi4 ml4 => (r4 = 0 → R2 (some (.int (-12))) mi4 ml4) ∧ (¬ r4 = 0 → mi4 = mi ∧ ml4 = m2 ∧ am_shw d x y z v w s t mi m2 R2))))) ∧ (¬ mi 106 t ≠ -1 → R2 (some (.int (-11))) mi m2))))) → am_call (d + 3) 269 [.ref 78, .int x, .int y, .int z, .int v, .int w] mi m2 R2 := by
    intro m2 R2 g
    refine bk_269 (sp_174s hs ex (am_ri_i (am_y (sp_174s ht ez (am_ri_i (am_yn ⟨hvx, ?_⟩))))))
    rw [hcx, hcz]
    refine ⟨g.1, fun q => ⟨hvz, fun q2 => ?_, ((g.2 q).2).2⟩⟩
    refine am_call_w (fun r a b hr => ?_) (((g.2 q).2).1 q2)
    obtain ⟨r3, er, k0, k1⟩ := hr
    refine ⟨r3, er, k0, fun n3 => am_call_w (fun r a b hr => ?_) (k1 n3)⟩
    obtain ⟨r4, er4, j0, j1⟩ := hr
    refine ⟨r4, er4, j0, fun n4 => ?_⟩
    obtain ⟨ea, eb, hw⟩ := j1 n4
    subst ea
    subst eb
    obtain ⟨w0, w1⟩ := hw
    exact ⟨hvx, hvz, fun e => ⟨(w0 e).1, fun q => ⟨((w0 e).2 q).1, fun q2 => ⟨(((w0 e).2 q).2 q2).1, fun q3 => ⟨hvx, ((((w0 e).2 q).2 q2).2 q3).1, fun q4 => ⟨hvz, ((((w0 e).2 q).2 q2).2 q3).2 q4⟩⟩⟩⟩⟩, w1⟩
  have g11 : ∀ {m2 : am_ML} {R2 : am_R}, (mi 106 s = -1 ∨ mi 106 t = -1) → R2 (some (.int (-11))) mi m2 → am_call (d + 3) 269 [.ref 78, .int x, .int y, .int z, .int v, .int w] mi m2 R2 := by
    intro m2 R2 e hR
    exact go ⟨fun _ => hR, fun n => ⟨hvz, fun n2 => absurd (e.resolve_left n) n2, fun _ => hR⟩⟩
  have g265 : ∀ {t2 : Nat} {x2 : Int32} {m2 : am_ML} {R2 : am_R}, t2 < 6 → x2 = nI t2 → (∀ r, (r = 0 ∨ (r = 1 ∧ ∃ k, k < 5 ∧ mi 106 t2 = nI k)) → R2 (some (.int r)) mi m2) → am_call (d + 2) 265 [.ref 78, .int x2] mi m2 R2 := fun h6 e hR => sp_265 h6 e (fun k hk ek => hR 1 (Or.inr ⟨rfl, k, hk, ek⟩)) (fun _ => hR 0 (Or.inl rfl))
  have g12 : ∀ {m2 : am_ML} {R2 : am_R}, ¬ mi 106 s = -1 → ¬ mi 106 t = -1 → ((∀ k, k < 5 → ¬ mi 106 s = nI k) ∨ (∀ k, k < 5 → ¬ mi 106 t = nI k) ∨ ¬ mi 106 s = mi 106 t) → R2 (some (.int (-12))) mi m2 → am_call (d + 3) 269 [.ref 78, .int x, .int y, .int z, .int v, .int w] mi m2 R2 := by
    intro m2 R2 n1 n2 hh hR
    refine go ⟨fun e => absurd e n1, fun _ => ⟨hvz, fun _ => g265 hs ex (fun r hr => am_ri_i ⟨fun _ => hR, fun nr => g265 ht ez (fun r2 hr2 => am_ri_i ⟨fun _ => hR, fun nr2 => ⟨rfl, rfl, fun e => ?_, fun _ => hR⟩⟩)⟩), fun e => absurd (Decidable.not_not.mp e) n2⟩⟩
    exfalso
    rcases hr with hr | ⟨_, k, hk, ek⟩
    · exact nr hr
    · rcases hr2 with hr2 | ⟨_, k2, hk2, ek2⟩
      · exact nr2 hr2
      · rcases hh with hh | hh | hh
        · exact hh k hk ek
        · exact hh k2 hk2 ek2
        · exact hh e
  have gW : ∀ {m2 : am_ML} {R2 : am_R} {k : Nat}, k < 5 → mi 106 s = nI k → mi 106 s = mi 106 t → am_shw d x y z v w s t mi m2 R2 → am_call (d + 3) 269 [.ref 78, .int x, .int y, .int z, .int v, .int w] mi m2 R2 := by
    intro m2 R2 k hk ek em hw
    have n1 : ¬ mi 106 s = -1 := fun w => by
      have e2 : (mi 106 s).toInt = (-1 : Int32).toInt := by rw [w]
      rw [ek, am_ti (by omega), am_lm1] at e2
      omega
    have n2 : ¬ mi 106 t = -1 := by rw [← em]; exact n1
    have one : ∀ {t2 : Nat} {x2 : Int32} {R3 : am_R}, t2 < 6 → x2 = nI t2 → mi 106 t2 = nI k → R3 (some (.int 1)) mi m2 → am_call (d + 2) 265 [.ref 78, .int x2] mi m2 R3 := fun h6 e e106 hR => sp_265 h6 e (fun _ _ _ => hR) (fun g => by
      rw [e106, am_ti (by omega)] at g
      omega)
    exact go ⟨fun e => absurd e n1, fun _ => ⟨hvz, fun _ => one hs ex ek (am_ri_i (am_y (one ht ez (em.symm.trans ek) (am_ri_i (am_y ⟨rfl, rfl, hw⟩))))), fun e => absurd (Decidable.not_not.mp e) n2⟩⟩
  refine ⟨hvx, hvz, ?_⟩
  rw [hcx, hcz]
  refine am_need_o hs rfl ⟨fun q => am_ri_i (g11 (Or.inl ((h106 s hs).mp q)) (am_ri_i (h _ _ hv))), fun q => am_need_o ht rfl ⟨fun q2 => ?_, fun q2 => ?_⟩⟩
  · have n1 : ¬ mi 106 s = -1 := fun e => q ((h106 s hs).mpr e)
    have n2 : ¬ mi 106 t = -1 := fun e => q2 ((h106 t ht).mpr e)
    have nb10 : ∀ {b k : Nat}, b < nb → k < 5 → ¬ nI (10 + b) = nI k := fun hb2 hk e => by
      have := (nI_eq (by omega) (by omega)).mp e
      omega
    refine am_need_o hs rfl ?_
    rcases hv.2 s hs with ⟨z1, z2⟩ | ⟨b, z1, z2, z3, z4⟩ | ⟨qs, l, z1, z2, z3, z4, z5, z6, z7, z8⟩
    · exact absurd z1 q
    · refine sp_99 hs (fun e => absurd e q) (fun e => ?_) (fun _ _ => am_ri_i ⟨fun _ => am_ri_i (g12 n1 n2 (Or.inl (fun k hk => by rw [z4]; exact nb10 z1 hk)) (am_ri_i (h _ _ hv))), fun w => absurd (by decide) w⟩)
      rw [z2] at e
      exact absurd e (by decide)
    · refine sp_99 hs (fun e => absurd e q) (fun _ => am_ri_i (am_nn (am_need_o ht rfl ?_))) (fun _ e => absurd z3 e)
      rcases hv.2 t ht with ⟨y1, y2⟩ | ⟨b, y1, y2, y3, y4⟩ | ⟨qt, l2, y1, y2, y3, y4, y5, y6, y7, y8⟩
      · exact absurd y1 q2
      · refine sp_99 ht (fun e => absurd e q2) (fun e => ?_) (fun _ _ => am_ri_i ⟨fun _ => am_ri_i (g12 n1 n2 (Or.inr (Or.inl (fun k hk => by rw [y4]; exact nb10 y1 hk))) (am_ri_i (h _ _ hv))), fun w => absurd (by decide) w⟩)
        rw [y2] at e
        exact absurd e (by decide)
      · refine sp_99 ht (fun e => absurd e q2) (fun _ => am_ri_i (am_nn (am_need_o hs rfl (am_need_o ht rfl ⟨fun es => ?_, fun es => ?_⟩)))) (fun _ e => absurd y3 e)
        · have m106 : mi 106 s = mi 106 t := by rw [z5, y5, ← z4, ← y4]; exact es
          have cmp : ∀ {p c L : Nat}, p < 2 ^ 31 → c < 2 ^ 31 → L ≤ 60 → ((0 < lg_cmp ((nI p).toInt64 + (nI c).toInt64) (nI L).toInt64) ↔ L < p + c) ∧ (lg_cmp ((nI p).toInt64 + (nI c).toInt64) (nI L).toInt64 ≤ 0 ↔ p + c ≤ L) := by
            intro p c L hp hc hL
            rw [nI_l hp, nI_l hc, nI_l (by omega), lN_add, am_lc1, am_lc2, am_tl (by omega), am_tl (by omega)]
            omega
          have badM : (∀ p1 p2 c, p1 + c ≤ l → p2 + c ≤ l2 → y = nI p1 → v = nI p2 → w = nI c → False) → am_call (d + 3) 269 [.ref 78, .int x, .int y, .int z, .int v, .int w] mi ml (am_ri fun r2 mi2 ml2 => Q (-13) r2 mi2 ml2) := by
            intro no
            refine gW z1 z5 m106 ⟨fun _ => ⟨fun _ => am_ri_i (h _ _ hv), fun w0 => ⟨fun _ => am_ri_i (h _ _ hv), fun w1 => ⟨fun _ => am_ri_i (h _ _ hv), fun w2 => ?_⟩⟩⟩, fun e => absurd m106 e⟩
            obtain ⟨c, hc, ec⟩ := nI_of w0
            obtain ⟨p1, hp1, ep1⟩ := nI_of w1
            obtain ⟨p2, hp2, ep2⟩ := nI_of w2
            rw [ec, ep1, ep2, z7, y7]
            refine ⟨fun _ => am_ri_i (h _ _ hv), fun g => ⟨fun g2 => ?_, fun _ => am_ri_i (h _ _ hv)⟩⟩
            exfalso
            rw [(cmp hp1 hc z2).1] at g
            rw [(cmp hp2 hc y2).2] at g2
            exact no p1 p2 c (by omega) g2 ep1 ep2 ec
          refine am_need_o hs rfl (sp_102 hs z2 z6 (fun p1 c g1 ep1 ec => am_ri_i (am_y (am_need_o ht rfl ?_))) (fun no => am_ri_i (am_n0 (am_ri_i (badM (fun a b c2 h1 h2 f1 f2 f3 => no a c2 h1 f1 f3))))))
          refine sp_102 ht y2 y6 (fun p2 c2 g2 ep2 ec2 => am_ri_i (am_yn (am_need_o ht rfl ?_))) (fun no => am_ri_i (am_nn (am_ri_i (badM (fun a b c2 h1 h2 f1 f2 f3 => no b c2 h2 f2 f3)))))
          have ecc : c = c2 := (nI_eq (by omega) (by omega)).mp (ec.symm.trans ec2)
          subst ecc
          refine sp_106 hs ht z2 y2 z6 y6 ep1 ep2 ec g1 g2 (am_rv_i (am_ri_i ?_))
          generalize hmx : am_cj ml (67 + 2 * s) p1 (67 + 2 * t) p2 c = mx
          have ox : ∀ cc i, ¬ cc = 67 + 2 * t → mx cc i = ml cc i := fun cc i hc => by
            rw [← hmx]
            unfold am_cj
            rw [if_neg (fun q => hc q.1)]
          have xt : ∀ i, mx (67 + 2 * t) i = if p2 ≤ i ∧ i < p2 + c then ml (67 + 2 * s) (p1 + (i - p2)) else ml (67 + 2 * t) i := fun i => by
            rw [← hmx]
            unfold am_cj
            by_cases e : p2 ≤ i ∧ i < p2 + c
            · rw [if_pos ⟨rfl, e⟩, if_pos e]
            · rw [if_neg (fun q => e q.2), if_neg e]
          have fin : ∀ ml2 : am_ML, (∀ cc i, ¬ cc = 108 → ml2 cc i = mx cc i) → (∀ i, ml2 108 i = if 60 * t + p2 ≤ i ∧ i < 60 * t + p2 + c then mx 108 (60 * s + p1 + (i - (60 * t + p2))) else mx 108 i) → am_ri (fun r2 mi2 ml2 => Q w r2 mi2 ml2) (some (.int w)) mi ml2 := by
            intro ml2 a1 a2
            refine am_ri_i (h w ml2 (am_shv_u (s := t) hv (Or.inr (Or.inr ⟨qt, l2, y1, y2, y3, y4, y5, y6, y7, fun i hi => ?_⟩)) (fun t2 ht2 hne => ⟨fun _ => rfl, rfl, rfl, fun i => ?_, fun i hi => ?_⟩)))
            · rw [a1 _ _ (by omega), xt, a2]
              by_cases e : p2 ≤ i ∧ i < p2 + c
              · rw [if_pos e, if_pos (by omega), ox _ _ (by omega), z8 _ (by omega)]
                congr 1
                omega
              · rw [if_neg e, if_neg (by omega), ox _ _ (by omega), y8 i hi]
            · rw [a1 _ _ (by omega), ox _ _ (by omega)]
            · rw [a2, if_neg (by omega), ox _ _ (by omega)]
          refine gW z1 z5 m106 ⟨fun _ => ⟨fun g => ?_, fun _ => ⟨fun g => ?_, fun _ => ⟨fun g => ?_, fun _ => ⟨fun g => ?_, fun _ => ⟨fun _ => ⟨fun ne => sp_269u hs ht ex ep1 ez ep2 ec (by omega) (by omega) (fun e => absurd (by rw [ex, ez, e]) ne) fin, fun eq => ?_⟩, fun g => ?_⟩⟩⟩⟩⟩, fun e => absurd m106 e⟩
          · rw [ec] at g
            exact absurd g (nI_pos (by omega))
          · rw [ep1] at g
            exact absurd g (nI_pos (by omega))
          · rw [ep2] at g
            exact absurd g (nI_pos (by omega))
          · rw [ep1, ec, z7, (cmp (by omega) (by omega) z2).1] at g
            omega
          · have est : s = t := (nI_eq (by omega) (by omega)).mp (ex.symm.trans ((Decidable.not_not.mp eq).trans ez))
            refine ⟨fun g => sp_269u hs ht ex ep1 ez ep2 ec (by omega) (by omega) (fun _ => ?_) fin, fun g => sp_269d hs ht ex ep1 ez ep2 ec (by omega) (by omega) est ?_ fin⟩
            · rw [ep2, ep1, nI_leI (by omega) (by omega)] at g
              exact g
            · rw [ep2, ep1, nI_leI (by omega) (by omega)] at g
              omega
          · rw [ep2, ec, y7, (cmp (by omega) (by omega) y2).2] at g
            omega
        · refine am_ri_i (g12 n1 n2 (Or.inr (Or.inr (fun e => ?_))) (am_ri_i (h _ _ hv)))
          exact absurd (z4.trans (z5.symm.trans (e.trans (y5.trans y4.symm)))) es
  · exact am_ri_i (g11 (Or.inr ((h106 t ht).mp (Decidable.not_not.mp q2))) (am_ri_i (h _ _ hv)))
end SP34
