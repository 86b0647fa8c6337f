/-! pairs: shelves: keep, row, put, element, taken -/
def am_sh1 (s nb : Nat) (mi : am_MI) (ml : am_ML) : Prop :=
  (mi (66 + 2 * s) 0 = 0 ∧ mi 106 s = -1) ∨
  (∃ b, b < nb ∧ mi (66 + 2 * s) 0 = 1 ∧ mi (66 + 2 * s) 1 = nI b ∧ mi 106 s = nI (10 + b)) ∨
  (∃ q l, q < 5 ∧ l ≤ 60 ∧ mi (66 + 2 * s) 0 = 2 ∧ mi (66 + 2 * s) 2 = nI q ∧ mi 106 s = nI q ∧ mi (66 + 2 * s) 3 = nI l ∧ mi 107 s = nI l ∧ ∀ j, j < 60 → ml (67 + 2 * s) j = ml 108 (60 * s + j))
def am_shv (nb : Nat) (mi : am_MI) (ml : am_ML) : Prop := nb ≤ 50 ∧ ∀ s, s < 6 → am_sh1 s nb mi ml
def am_F66 : Nat → Nat → Bool := fun c _ => decide ((66 ≤ c ∧ c ≤ 77) ∨ c = 106 ∨ c = 107)
theorem am_shv_on {nb : Nat} {a b : am_MI} {ml : am_ML} (h : am_shv nb a ml) (he : ∀ c j, am_F66 c j = true → b c j = a c j) : am_shv nb b ml := by
  refine ⟨h.1, fun s hs => ?_⟩
  have z := h.2 s hs
  unfold am_sh1 at z ⊢
  have e1 : ∀ j, b (66 + 2 * s) j = a (66 + 2 * s) j := fun j => he _ _ (decide_eq_true (by omega))
  have e2 : ∀ j, b 106 j = a 106 j := fun j => he 106 j rfl
  have e3 : ∀ j, b 107 j = a 107 j := fun j => he 107 j rfl
  simp only [e1, e2, e3]
  exact z
theorem am_shv_more {nb nb2 : Nat} {a : am_MI} {ml : am_ML} (h : am_shv nb a ml) (hb : nb ≤ nb2) (h50 : nb2 ≤ 50) : am_shv nb2 a ml := by
  refine ⟨h50, fun s hs => ?_⟩
  rcases h.2 s hs with z | ⟨b, z1, z2⟩ | z
  · exact Or.inl z
  · exact Or.inr (Or.inl ⟨b, by omega, z2⟩)
  · exact Or.inr (Or.inr z)
theorem am_shv_u {nb s : Nat} {mi mi2 : am_MI} {ml ml2 : am_ML} (h : am_shv nb mi ml) (h1 : am_sh1 s nb mi2 ml2)
    (ho : ∀ t, t < 6 → ¬ t = s → (∀ j, mi2 (66 + 2 * t) j = mi (66 + 2 * t) j) ∧ mi2 106 t = mi 106 t ∧ mi2 107 t = mi 107 t ∧ (∀ j, ml2 (67 + 2 * t) j = ml (67 + 2 * t) j) ∧ ∀ j, j < 60 → ml2 108 (60 * t + j) = ml 108 (60 * t + j)) : am_shv nb mi2 ml2 := by
  refine ⟨h.1, fun t ht => ?_⟩
  by_cases e : t = s
  · subst e
    exact h1
  · obtain ⟨a1, a2, a3, a4, a5⟩ := ho t ht e
    rcases h.2 t ht with ⟨z1, z2⟩ | ⟨b, z1, z2, z3, z4⟩ | ⟨q, l, z1, z2, z3, z4, z5, z6, z7, z8⟩
    · exact Or.inl ⟨(a1 0).trans z1, a2.trans z2⟩
    · exact Or.inr (Or.inl ⟨b, z1, (a1 0).trans z2, (a1 1).trans z3, a2.trans z4⟩)
    · exact Or.inr (Or.inr ⟨q, l, z1, z2, (a1 0).trans z3, (a1 2).trans z4, a2.trans z5, (a1 3).trans z6, a3.trans z7, fun j hj => by rw [a4, a5 j hj]; exact z8 j hj⟩)
theorem am_shc : ∀ s, s < 6 → am_oc (66 + 2 * s) = 7 ∧ am_rf (66 + 2 * s) 4 = 67 + 2 * s ∧ am_kd (67 + 2 * s) = 3 ∧ am_n (67 + 2 * s) = 60 := by decide
def am_prj (d f : Nat) (a : List Value) (g : Nat) (b : List Value) (mi : am_MI) (ml : am_ML) (Q : Int64 → Int64 → am_MI → am_ML → Prop) : Prop :=
  am_call d f a mi ml (am_rj fun r1 mi1 ml1 => am_call d g b mi1 ml1 (am_rj fun r2 mi2 ml2 => Q r1 r2 mi2 ml2))
def am_low (q : Nat) (v : Int64) : Int64 := if q = 0 then v.toInt32.toInt8.toInt32.toInt64 else if q = 1 then v.toInt32.toInt16.toInt32.toInt64 else if q = 2 then v.toInt32.toInt64 else if q = 3 then v else if lg_cmp v 0 = 0 then 0 else 1
section SP29
variable {d : Nat} {mi : am_MI} {ml : am_ML} {R : am_R} {Q : Int32 → Int32 → am_MI → am_ML → Prop} {QJ : Int64 → Int64 → am_MI → am_ML → Prop} {s nb : Nat}
theorem am_need_o {P : Prop} {k : Nat} (hs : s < 6) (hk : k = 7) (h : P) : am_need (am_oc (66 + 2 * s) == k) P := am_need_i (by rw [(am_shc s hs).1, hk]; rfl) h
theorem am_need_k {P : Prop} (hs : s < 6) (h : P) : am_need (am_kd (67 + 2 * s) == 3) P := am_need_i (by rw [(am_shc s hs).2.2.1]; rfl) h
theorem sp_165 {x : Int32} (h1 : ∀ s, s < 6 → x = nI s → R (some (.int 1)) mi ml) (h0 : (x.toInt < 0 ∨ 5 < x.toInt) → R (some (.int 0)) mi ml) : am_call (d + 1) 165 [.ref 0, .int x] mi ml R := by
  have e6 : (Int32.ofNat 6).toInt = 6 := rfl
  refine bk_165 ⟨fun q => ⟨am_b0, h0 ?_⟩, fun q => ⟨fun q2 => ⟨am_b0, h0 ?_⟩, fun q2 => ⟨am_b1, ?_⟩⟩⟩
  · simp only [am_lt_i, am_le_i, am_eq_i, ne_eq, am_l0, am_l1, am_l2, am_l3, am_l4, am_l5, am_l6, am_l7, am_l8, am_l9, am_l10, am_l11, am_l12, am_l13, am_l14, am_l15, am_l16, am_l17, am_l18, am_l19, am_l20, am_l21, am_l22, am_l23, am_l24, am_l25, am_l26, am_l30, am_l32, am_l33, am_l37, am_l38, am_l40, am_l41, am_l42, am_l43, am_l45, am_l47, am_l48, am_l50, am_l57, am_l59, am_l60, am_l61, am_l62, am_l63, am_l70, am_l80, am_l81, am_l97, am_l99, am_l100, am_l110, am_l115, am_l119, am_l120, am_l121, am_l124, am_l126, am_l156, am_l255, am_l1103515245, am_l12345, am_l2147483647, am_lm1, am_lm2, am_lm3, am_lm5, am_lm11, am_lm12, am_lm13, am_lm14, am_lm33, am_lm59, am_lm63, am_lm100, am_lm126] at q
    omega
  · simp only [am_lt_i, am_le_i, am_eq_i, ne_eq, am_l0, am_l1, am_l2, am_l3, am_l4, am_l5, am_l6, am_l7, am_l8, am_l9, am_l10, am_l11, am_l12, am_l13, am_l14, am_l15, am_l16, am_l17, am_l18, am_l19, am_l20, am_l21, am_l22, am_l23, am_l24, am_l25, am_l26, am_l30, am_l32, am_l33, am_l37, am_l38, am_l40, am_l41, am_l42, am_l43, am_l45, am_l47, am_l48, am_l50, am_l57, am_l59, am_l60, am_l61, am_l62, am_l63, am_l70, am_l80, am_l81, am_l97, am_l99, am_l100, am_l110, am_l115, am_l119, am_l120, am_l121, am_l124, am_l126, am_l156, am_l255, am_l1103515245, am_l12345, am_l2147483647, am_lm1, am_lm2, am_lm3, am_lm5, am_lm11, am_lm12, am_lm13, am_lm14, am_lm33, am_lm59, am_lm63, am_lm100, am_lm126, e6] at q2
    omega
  · simp only [am_lt_i, am_le_i, am_eq_i, ne_eq, am_l0, am_l1, am_l2, am_l3, am_l4, am_l5, am_l6, am_l7, am_l8, am_l9, am_l10, am_l11, am_l12, am_l13, am_l14, am_l15, am_l16, am_l17, am_l18, am_l19, am_l20, am_l21, am_l22, am_l23, am_l24, am_l25, am_l26, am_l30, am_l32, am_l33, am_l37, am_l38, am_l40, am_l41, am_l42, am_l43, am_l45, am_l47, am_l48, am_l50, am_l57, am_l59, am_l60, am_l61, am_l62, am_l63, am_l70, am_l80, am_l81, am_l97, am_l99, am_l100, am_l110, am_l115, am_l119, am_l120, am_l121, am_l124, am_l126, am_l156, am_l255, am_l1103515245, am_l12345, am_l2147483647, am_lm1, am_lm2, am_lm3, am_lm5, am_lm11, am_lm12, am_lm13, am_lm14, am_lm33, am_lm59, am_lm63, am_lm100, am_lm126, e6] at q q2
    obtain ⟨k, hk, e⟩ := am_nat (x := x) (n := 6) (by omega) (by omega)
    exact h1 k hk e
theorem sp_174s {x : Int32} (hs : s < 6) (hx : x = nI s) (h1 : R (some (.int 1)) mi ml) : am_call (d + 2) 174 [.int x] mi ml R := sp_174 (fun _ _ _ => h1) (fun g => by
  rw [hx, am_ti (by omega)] at g
  omega)
theorem sp_174n {x : Int32} (g : x.toInt < 0 ∨ 5 < x.toInt) (h0 : R (some (.int 0)) mi ml) : am_call (d + 2) 174 [.int x] mi ml R := sp_174 (fun k hk e => by
  rw [e, am_ti (by omega)] at g
  omega) (fun _ => h0)
/-- refusesRow -/
theorem sp_99 (hs : s < 6) (h0 : mi (66 + 2 * s) 0 = 0 → R (some (.int (-11))) mi ml) (h2 : mi (66 + 2 * s) 0 = 2 → R (some (.int 0)) mi ml) (h1 : ¬ mi (66 + 2 * s) 0 = 0 → ¬ mi (66 + 2 * s) 0 = 2 → R (some (.int (-12))) mi ml) : am_call (d + 1) 99 [.ref (66 + 2 * s)] mi ml R :=
  bk_99 (am_need_o hs rfl ⟨fun q => am_need_o hs rfl ⟨fun q2 => h1 q q2, fun q2 => h2 (Decidable.not_not.mp q2)⟩, fun q => h0 (Decidable.not_not.mp q)⟩)
/-- keep -/
theorem pr_38 {x y : Int32} (hm1 : mi 62 1 = nI nb) (hm2 : mi 78 40 = nI nb) (hv : am_shv nb mi ml) (h : ∀ r mi2, am_shv nb mi2 ml → am_kp am_F66 mi mi2 → Q r r mi2 ml) : am_pr (d + 3) 156 [.ref 0, .int x, .int y] 263 [.ref 78, .int x, .int y] mi ml Q := by
  have hb := hv.1
  refine bk_156 (sp_165 (fun s hs ex => am_ri_i (am_y ?_)) (fun g => am_ri_i (am_n0 (am_ri_i (bk_263 (sp_174n g (am_ri_i (am_n0 (am_ri_i (h _ _ hv am_kp_r))))))))))
  have hvp : vp_in x 6 := by rw [ex]; exact vp_in_nI hs (by omega)
  have hcl : x.toNatClampNeg = s := by rw [ex]; exact nI_clamp (by omega)
  rw [hcl]
  have fin : ∀ (mx : am_MI), (∀ c j, ¬ c = 66 + 2 * s → mx c j = mi c j) → ∀ v : Int32, (∀ my : am_MI, (∀ c j, ¬ c = 106 → ¬ c = 107 → my c j = mx c j) → my 106 s = v → am_sh1 s nb my ml) → Q 1 1 (am_ui (am_ui mx 106 s v) 107 s 0) ml := by
    intro mx o v hh
    have o2 : ∀ c j, ¬ c = 106 → ¬ c = 107 → am_ui (am_ui mx 106 s v) 107 s 0 c j = mx c j := fun c j a b => by rw [am_ui_c b, am_ui_c a]
    refine h 1 _ (am_shv_u (s := s) hv (hh _ o2 (by rw [am_ui_c (by omega), am_ui_k])) (fun t ht hts => ⟨fun j => ?_, ?_, ?_, fun j => rfl, fun j _ => rfl⟩)) (fun c j w => ?_)
    · rw [o2 _ _ (by omega) (by omega), o _ _ (by omega)]
    · rw [am_ui_c (by omega), am_ui_n (fun _ e => hts e), o _ _ (by omega)]
    · rw [am_ui_n (fun _ e => hts e), am_ui_c (by omega), o _ _ (by omega)]
    · have w := of_decide_eq_false w
      rw [o2 _ _ (by omega) (by omega), o _ _ (by omega)]
  refine ⟨fun q => ⟨fun q2 => absurd q q2, fun _ => ⟨hvp, am_need_o hs rfl ?_⟩⟩, fun q => sp_84 hb hm1 (fun k hk ek => am_ri_i (am_yn ⟨fun _ => ⟨hvp, am_need_o hs rfl ?_⟩, fun q2 => absurd (Decidable.not_not.mp q2) q⟩)) (fun g => am_ri_i (am_nn (am_ri_i ?_)))⟩
  · refine bk_96 (am_need_o hs rfl (am_need_o hs rfl (am_rv_i (am_ri_i ?_))))
    refine bk_263 (sp_174s hs ex (am_ri_i (am_y (sp_168 (fun _ _ => am_ri_i (am_yn ⟨fun q0 => ?_, fun _ => ⟨hvp, hvp, ?_⟩⟩)) (fun g => ?_)))))
    · rw [q] at q0
      exact absurd q0 (by decide)
    · rw [hcl]
      refine am_ri_i (fin _ (fun c j hc => by rw [am_ui_c hc, am_ui_c hc]) (-1) (fun my o e => Or.inl ⟨?_, e⟩))
      rw [o _ _ (by omega) (by omega), am_ui_n (by omega), am_ui_k]
    · have e : (am_ui (am_ui mi (66 + 2 * s) 0 0) (66 + 2 * s) 3 0) 78 40 = nI nb := by rw [am_ui_c (by omega), am_ui_c (by omega), hm2]
      rw [e, am_m1 (by omega), q, am_lm1] at g
      omega
  · refine bk_97 (am_need_o hs rfl (am_need_o hs rfl (am_need_o hs rfl (am_rv_i (am_ri_i ?_)))))
    have e : (am_ui (am_ui (am_ui mi (66 + 2 * s) 0 1) (66 + 2 * s) 1 y) (66 + 2 * s) 3 0) 78 40 = nI nb := by rw [am_ui_c (by omega), am_ui_c (by omega), am_ui_c (by omega), hm2]
    refine bk_263 (sp_174s hs ex (am_ri_i (am_y (sp_168 (fun _ _ => am_ri_i (am_yn ⟨fun q0 => ⟨hvp, hvp, ?_⟩, fun q0 => ?_⟩)) (fun g => ?_)))))
    · rw [hcl]
      refine am_ri_i (fin _ (fun c j hc => by rw [am_ui_c hc, am_ui_c hc, am_ui_c hc]) (10 + y) (fun my o e => Or.inr (Or.inl ⟨k, hk, ?_, ?_, ?_⟩)))
      · rw [o _ _ (by omega) (by omega), am_ui_n (by omega), am_ui_n (by omega), am_ui_k]
      · rw [o _ _ (by omega) (by omega), am_ui_n (by omega), am_ui_k, ek]
      · rw [e, ek, show (10 : Int32) = nI 10 from rfl, nI_add]
    · rw [ek] at q0
      exact absurd (nI_pos' (by omega)) q0
    · rw [e, am_m1 (by omega), ek, am_ti (by omega), am_lm1] at g
      omega
  · refine bk_263 (sp_174s hs ex (am_ri_i (am_y (sp_168 (fun a b => ?_) (fun _ => am_ri_i (am_nn (am_ri_i (h _ _ hv am_kp_r))))))))
    rw [am_lm1] at a
    rw [hm2, am_m1 (by omega)] at b
    have : y.toInt = -1 := by omega
    exact absurd (am_eq_i.mpr (by rw [this]; rfl)) q
/-- row -/
theorem pr_39 {x y z : Int32} (hv : am_shv nb mi ml) (h : ∀ r mi2 ml2, am_shv nb mi2 ml2 → am_kp am_F66 mi mi2 → Q r r mi2 ml2) : am_pr (d + 3) 157 [.ref 0, .int x, .int y, .int z] 264 [.ref 78, .int x, .int y, .int z] mi ml Q := by
  refine bk_157 (sp_165 (fun s hs ex => am_ri_i (am_y ?_)) (fun g => am_ri_i (am_n0 (am_ri_i (bk_264 (sp_174n g (am_ri_i (am_n0 (am_ri_i (h _ _ _ hv am_kp_r))))))))))
  have hvp : vp_in x 6 := by rw [ex]; exact vp_in_nI hs (by omega)
  have hcl : x.toNatClampNeg = s := by rw [ex]; exact nI_clamp (by omega)
  rw [hcl]
  have badM : (y.toInt < 0 ∨ 4 < y.toInt ∨ 60 < z.toInt) → am_call (d + 3) 264 [.ref 78, .int x, .int y, .int z] mi ml (am_ri fun r2 mi2 ml2 => Q (-1) r2 mi2 ml2) := by
    intro g
    refine bk_264 (sp_174s hs ex (am_ri_i (am_y (sp_168 (fun a b => am_ri_i (am_y ⟨fun q => ?_, fun q => am_ri_i (h _ _ _ hv am_kp_r)⟩)) (fun _ => am_ri_i (am_n0 (am_ri_i (h _ _ _ hv am_kp_r))))))))
    exfalso
    simp only [am_lt_i, am_le_i, am_eq_i, ne_eq, am_l0, am_l1, am_l2, am_l3, am_l4, am_l5, am_l6, am_l7, am_l8, am_l9, am_l10, am_l11, am_l12, am_l13, am_l14, am_l15, am_l16, am_l17, am_l18, am_l19, am_l20, am_l21, am_l22, am_l23, am_l24, am_l25, am_l26, am_l30, am_l32, am_l33, am_l37, am_l38, am_l40, am_l41, am_l42, am_l43, am_l45, am_l47, am_l48, am_l50, am_l57, am_l59, am_l60, am_l61, am_l62, am_l63, am_l70, am_l80, am_l81, am_l97, am_l99, am_l100, am_l110, am_l115, am_l119, am_l120, am_l121, am_l124, am_l126, am_l156, am_l255, am_l1103515245, am_l12345, am_l2147483647, am_lm1, am_lm2, am_lm3, am_lm5, am_lm11, am_lm12, am_lm13, am_lm14, am_lm33, am_lm59, am_lm63, am_lm100, am_lm126] at a b q
    omega
  refine ⟨fun q => am_ri_i (badM ?_), fun q => ⟨fun q2 => am_ri_i (badM ?_), fun q2 => ⟨fun q3 => ⟨fun q4 => ?_, fun q4 => ?_⟩, fun q3 => am_ri_i (badM ?_)⟩⟩⟩
  · simp only [am_lt_i, am_le_i, am_eq_i, ne_eq, am_l0, am_l1, am_l2, am_l3, am_l4, am_l5, am_l6, am_l7, am_l8, am_l9, am_l10, am_l11, am_l12, am_l13, am_l14, am_l15, am_l16, am_l17, am_l18, am_l19, am_l20, am_l21, am_l22, am_l23, am_l24, am_l25, am_l26, am_l30, am_l32, am_l33, am_l37, am_l38, am_l40, am_l41, am_l42, am_l43, am_l45, am_l47, am_l48, am_l50, am_l57, am_l59, am_l60, am_l61, am_l62, am_l63, am_l70, am_l80, am_l81, am_l97, am_l99, am_l100, am_l110, am_l115, am_l119, am_l120, am_l121, am_l124, am_l126, am_l156, am_l255, am_l1103515245, am_l12345, am_l2147483647, am_lm1, am_lm2, am_lm3, am_lm5, am_lm11, am_lm12, am_lm13, am_lm14, am_lm33, am_lm59, am_lm63, am_lm100, am_lm126] at q
    omega
  · simp only [am_lt_i, am_le_i, am_eq_i, ne_eq, am_l0, am_l1, am_l2, am_l3, am_l4, am_l5, am_l6, am_l7, am_l8, am_l9, am_l10, am_l11, am_l12, am_l13, am_l14, am_l15, am_l16, am_l17, am_l18, am_l19, am_l20, am_l21, am_l22, am_l23, am_l24, am_l25, am_l26, am_l30, am_l32, am_l33, am_l37, am_l38, am_l40, am_l41, am_l42, am_l43, am_l45, am_l47, am_l48, am_l50, am_l57, am_l59, am_l60, am_l61, am_l62, am_l63, am_l70, am_l80, am_l81, am_l97, am_l99, am_l100, am_l110, am_l115, am_l119, am_l120, am_l121, am_l124, am_l126, am_l156, am_l255, am_l1103515245, am_l12345, am_l2147483647, am_lm1, am_lm2, am_lm3, am_lm5, am_lm11, am_lm12, am_lm13, am_lm14, am_lm33, am_lm59, am_lm63, am_lm100, am_lm126] at q2
    omega
  · simp only [am_lt_i, am_le_i, am_eq_i, ne_eq, am_l0, am_l1, am_l2, am_l3, am_l4, am_l5, am_l6, am_l7, am_l8, am_l9, am_l10, am_l11, am_l12, am_l13, am_l14, am_l15, am_l16, am_l17, am_l18, am_l19, am_l20, am_l21, am_l22, am_l23, am_l24, am_l25, am_l26, am_l30, am_l32, am_l33, am_l37, am_l38, am_l40, am_l41, am_l42, am_l43, am_l45, am_l47, am_l48, am_l50, am_l57, am_l59, am_l60, am_l61, am_l62, am_l63, am_l70, am_l80, am_l81, am_l97, am_l99, am_l100, am_l110, am_l115, am_l119, am_l120, am_l121, am_l124, am_l126, am_l156, am_l255, am_l1103515245, am_l12345, am_l2147483647, am_lm1, am_lm2, am_lm3, am_lm5, am_lm11, am_lm12, am_lm13, am_lm14, am_lm33, am_lm59, am_lm63, am_lm100, am_lm126] at q q2 q3 q4
    obtain ⟨k, hk, ek⟩ := am_nat (x := y) (n := 5) (by omega) (by omega)
    obtain ⟨l, hl, el⟩ := am_nat (x := z) (n := 61) (by omega) (by omega)
    obtain ⟨c1, c2, c3, c4⟩ := am_shc s hs
    have emx : am_max 0 (am_min z 60) = nI l := by
      rw [el]
      unfold am_min am_max
      rw [if_neg (show ¬ (60 : Int32) < nI l from nI_nlt (a := 60) (b := l) (by omega) (by omega))]
      by_cases l0 : l = 0
      · subst l0
        rfl
      · rw [if_pos (show (0 : Int32) < nI l from nI_lt (a := 0) (by omega) (by omega))]
    refine ⟨hvp, am_need_o hs rfl (bk_98 (am_need_o hs rfl (am_need_o hs rfl (am_need_o hs rfl (am_need_o hs rfl ?_)))))⟩
    rw [emx, c2]
    generalize hmx : am_ui (am_ui (am_ui mi (66 + 2 * s) 0 2) (66 + 2 * s) 2 y) (66 + 2 * s) 3 (nI l) = mx
    have o : ∀ c j, ¬ c = 66 + 2 * s → mx c j = mi c j := fun c j hc => by rw [← hmx, am_ui_c hc, am_ui_c hc, am_ui_c hc]
    have x0 : mx (66 + 2 * s) 0 = 2 := by rw [← hmx, am_ui_n (by omega), am_ui_n (by omega), am_ui_k]
    have x2 : mx (66 + 2 * s) 2 = nI k := by rw [← hmx, am_ui_n (by omega), am_ui_k, ek]
    have x3 : mx (66 + 2 * s) 3 = nI l := by rw [← hmx, am_ui_k]
    have elen : am_len mx (67 + 2 * s) = 60 := by
      unfold am_len
      rw [c3]
      exact c4
    refine bk_274 (am_need_i (by rw [c3]; rfl) ?_)
    rw [elen]
    refine am_for 60 (fun j => ∀ mw : am_ML, (∀ c i, ¬ c = 67 + 2 * s → mw c i = ml c i) → (∀ i, i < j → mw (67 + 2 * s) i = 0) → am_wp (am_call d) mt_274 _ 5 [some (.ref (67 + 2 * s)), some (.long 0), none, some (.int (nI j)), some (.int (Int32.ofNat 60))] [] mx mw) ?_ (fun j hj ih => ?_) 0 (Nat.zero_le _) ml (fun _ _ _ => rfl) (fun i q => absurd q (by omega))
    · intro mw w1 w2
      refine bk_274_5 (pk_le 60 60 (fun _ => am_rv_i (am_rv_i (am_ri_i ?_))) (fun q => absurd q (Nat.lt_irrefl _)) rfl rfl)
      refine bk_264 (sp_174s hs ex (am_ri_i (am_y (sp_168 (fun a b => am_ri_i (am_y ⟨fun _ => ⟨fun _ => ⟨hvp, hvp, ?_⟩, fun w => absurd (am_le_i.mpr (by rw [am_l0]; omega)) w⟩, fun w => absurd (am_le_i.mpr (by rw [am_l60]; omega)) w⟩)) (fun g => ?_)))))
      · rw [hcl]
        generalize hmy : am_ui (am_ui mx 106 s y) 107 s z = my
        have p : ∀ c j, ¬ c = 106 → ¬ c = 107 → my c j = mx c j := fun c j a b => by rw [← hmy, am_ui_c b, am_ui_c a]
        have y106 : ∀ t, my 106 t = if t = s then y else mi 106 t := fun t => by
          rw [← hmy, am_ui_c (by omega)]
          by_cases e : t = s
          · rw [if_pos e, e, am_ui_k]
          · rw [if_neg e, am_ui_n (fun _ q => e q), o _ _ (by omega)]
        have y107 : ∀ t, my 107 t = if t = s then z else mi 107 t := fun t => by
          rw [← hmy]
          by_cases e : t = s
          · rw [if_pos e, e, am_ui_k]
          · rw [if_neg e, am_ui_n (fun _ q => e q), am_ui_c (by omega), o _ _ (by omega)]
        refine am_for 60 (fun j => ∀ mv : am_ML, (∀ c i, ¬ c = 108 → mv c i = mw c i) → (∀ i, i < j → mv 108 (60 * s + i) = 0) → (∀ i, (i < 60 * s ∨ 60 * s + 60 ≤ i) → mv 108 i = mw 108 i) → am_wp (am_call (d + 2)) mt_264 _ 29 [some (.ref 78), some (.int x), none, none, some (.int (nI j))] [] my mv) ?_ (fun j hj ih => ?_) 0 (Nat.zero_le _) mw (fun _ _ _ => rfl) (fun i q => absurd q (by omega)) (fun _ _ => rfl)
        · intro mv v1 v2 v3
          refine bk_264_29 (pk_le 60 60 (fun _ => am_ri_i ?_) (fun q => absurd q (Nat.lt_irrefl _)) rfl rfl)
          refine h _ my mv (am_shv_u (s := s) hv (Or.inr (Or.inr ⟨k, l, hk, by omega, ?_, ?_, ?_, ?_, ?_, fun j hj => ?_⟩)) (fun t ht hts => ⟨fun j => ?_, ?_, ?_, fun j => ?_, fun j hj => ?_⟩)) (fun c j w => ?_)
          · rw [p _ _ (by omega) (by omega), x0]
          · rw [p _ _ (by omega) (by omega), x2]
          · rw [y106, if_pos rfl, ek]
          · rw [p _ _ (by omega) (by omega), x3]
          · rw [y107, if_pos rfl, el]
          · rw [v1 _ _ (by omega), w2 j hj, v2 j hj]
          · rw [p _ _ (by omega) (by omega), o _ _ (by omega)]
          · rw [y106, if_neg hts]
          · rw [y107, if_neg hts]
          · rw [v1 _ _ (by omega), w1 _ _ (by omega)]
          · rw [v3 _ (by omega), w1 _ _ (by omega)]
          · have w := of_decide_eq_false w
            rw [p _ _ (by omega) (by omega), o _ _ (by omega)]
        · intro mv v1 v2 v3
          have eix : 60 * x + nI j = nI (60 * s + j) := by rw [ex, show (60 : Int32) = nI 60 from rfl, pk_mul, nI_add]
          refine bk_264_29 (pk_le 60 j (fun q => absurd q (by omega)) (fun _ => ?_) rfl rfl)
          rw [eix, nI_clamp (show 60 * s + j < 2 ^ 31 by omega), nI_1]
          refine ⟨vp_in_nI (by omega) (by omega), ih _ (fun c i hc => ?_) (fun i hi => ?_) (fun i hi => ?_)⟩
          · unfold am_ul
            rw [if_neg (fun q => hc q.1)]
            exact v1 c i hc
          · unfold am_ul
            by_cases e : i = j
            · rw [if_pos ⟨rfl, by omega⟩]
            · rw [if_neg (by omega)]
              exact v2 i (by omega)
          · unfold am_ul
            rw [if_neg (by omega)]
            exact v3 i hi
      · rw [ek, am_ti (by omega), am_l0, am_l4] at g
        omega
    · intro mw w1 w2
      refine bk_274_5 (pk_le 60 j (fun q => absurd q (by omega)) (fun _ => am_need_k hs ?_) rfl rfl)
      rw [c4, nI_clamp (show j < 2 ^ 31 by omega), nI_1]
      refine ⟨vp_in_nI (by omega) (by omega), ih _ (fun c i hc => ?_) (fun i hi => ?_)⟩
      · unfold am_ul
        rw [if_neg (fun q => hc q.1)]
        exact w1 c i hc
      · unfold am_ul
        by_cases e : i = j
        · rw [if_pos ⟨rfl, e⟩]
        · rw [if_neg (by omega)]
          exact w2 i (by omega)
  · refine am_ri_i (bk_264 (sp_174s hs ex (am_ri_i (am_y (sp_168 (fun a b => am_ri_i (am_y ⟨fun _ => ⟨fun w => absurd w q4, fun _ => am_ri_i (h _ _ _ hv am_kp_r)⟩, fun w => absurd q3 w⟩)) (fun g => ?_))))))
    simp only [am_lt_i, am_le_i, am_eq_i, ne_eq, am_l0, am_l1, am_l2, am_l3, am_l4, am_l5, am_l6, am_l7, am_l8, am_l9, am_l10, am_l11, am_l12, am_l13, am_l14, am_l15, am_l16, am_l17, am_l18, am_l19, am_l20, am_l21, am_l22, am_l23, am_l24, am_l25, am_l26, am_l30, am_l32, am_l33, am_l37, am_l38, am_l40, am_l41, am_l42, am_l43, am_l45, am_l47, am_l48, am_l50, am_l57, am_l59, am_l60, am_l61, am_l62, am_l63, am_l70, am_l80, am_l81, am_l97, am_l99, am_l100, am_l110, am_l115, am_l119, am_l120, am_l121, am_l124, am_l126, am_l156, am_l255, am_l1103515245, am_l12345, am_l2147483647, am_lm1, am_lm2, am_lm3, am_lm5, am_lm11, am_lm12, am_lm13, am_lm14, am_lm33, am_lm59, am_lm63, am_lm100, am_lm126] at q q2
    rw [am_l0, am_l4] at g
    omega
  · simp only [am_lt_i, am_le_i, am_eq_i, ne_eq, am_l0, am_l1, am_l2, am_l3, am_l4, am_l5, am_l6, am_l7, am_l8, am_l9, am_l10, am_l11, am_l12, am_l13, am_l14, am_l15, am_l16, am_l17, am_l18, am_l19, am_l20, am_l21, am_l22, am_l23, am_l24, am_l25, am_l26, am_l30, am_l32, am_l33, am_l37, am_l38, am_l40, am_l41, am_l42, am_l43, am_l45, am_l47, am_l48, am_l50, am_l57, am_l59, am_l60, am_l61, am_l62, am_l63, am_l70, am_l80, am_l81, am_l97, am_l99, am_l100, am_l110, am_l115, am_l119, am_l120, am_l121, am_l124, am_l126, am_l156, am_l255, am_l1103515245, am_l12345, am_l2147483647, am_lm1, am_lm2, am_lm3, am_lm5, am_lm11, am_lm12, am_lm13, am_lm14, am_lm33, am_lm59, am_lm63, am_lm100, am_lm126] at q3
    omega
end SP29
