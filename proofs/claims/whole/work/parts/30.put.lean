/-! pairs: put, element, taken -/
section SP30
variable {d : Nat} {mi : am_MI} {ml : am_ML} {R : am_R} {Q : Int32 → Int32 → am_MI → am_ML → Prop} {QJ : Int64 → Int64 → am_MI → am_ML → Prop} {s nb q l : Nat}
/-- hasPlace -/
theorem sp_101 {x : Int32} (hs : s < 6) (hl : l ≤ 60) (e : mi (66 + 2 * s) 3 = nI l) (h1 : ∀ j, j < l → x = nI j → R (some (.int 1)) mi ml) (h0 : (x.toInt < 0 ∨ l ≤ x.toInt) → R (some (.int 0)) mi ml) : am_call (d + 1) 101 [.ref (66 + 2 * s), .int x] mi ml R := by
  have f : (mi (66 + 2 * s) 3).toInt = l := by rw [e]; exact am_ti (by omega)
  refine bk_101 ⟨fun q => ⟨am_b0, h0 ?_⟩, fun q => am_need_o hs rfl ⟨fun q2 => ⟨am_b0, h0 ?_⟩, fun q2 => ⟨am_b1, ?_⟩⟩⟩
  · simp only [am_lt_i, am_le_i, am_eq_i, ne_eq, am_l0, am_l1, am_l2, am_l3, am_l4, am_l5, am_l6, am_l7, am_l8, am_l9, am_l10, am_l11, am_l12, am_l13, am_l14, am_l15, am_l16, am_l17, am_l18, am_l19, am_l20, am_l21, am_l22, am_l23, am_l24, am_l25, am_l26, am_l30, am_l32, am_l33, am_l37, am_l38, am_l40, am_l41, am_l42, am_l43, am_l45, am_l47, am_l48, am_l50, am_l57, am_l59, am_l60, am_l61, am_l62, am_l63, am_l70, am_l80, am_l81, am_l97, am_l99, am_l100, am_l110, am_l115, am_l119, am_l120, am_l121, am_l124, am_l126, am_l156, am_l255, am_l1103515245, am_l12345, am_l2147483647, am_lm1, am_lm2, am_lm3, am_lm5, am_lm11, am_lm12, am_lm13, am_lm14, am_lm33, am_lm59, am_lm63, am_lm100, am_lm126] at q
    omega
  · simp only [am_lt_i, am_le_i, am_eq_i, ne_eq, am_l0, am_l1, am_l2, am_l3, am_l4, am_l5, am_l6, am_l7, am_l8, am_l9, am_l10, am_l11, am_l12, am_l13, am_l14, am_l15, am_l16, am_l17, am_l18, am_l19, am_l20, am_l21, am_l22, am_l23, am_l24, am_l25, am_l26, am_l30, am_l32, am_l33, am_l37, am_l38, am_l40, am_l41, am_l42, am_l43, am_l45, am_l47, am_l48, am_l50, am_l57, am_l59, am_l60, am_l61, am_l62, am_l63, am_l70, am_l80, am_l81, am_l97, am_l99, am_l100, am_l110, am_l115, am_l119, am_l120, am_l121, am_l124, am_l126, am_l156, am_l255, am_l1103515245, am_l12345, am_l2147483647, am_lm1, am_lm2, am_lm3, am_lm5, am_lm11, am_lm12, am_lm13, am_lm14, am_lm33, am_lm59, am_lm63, am_lm100, am_lm126, f] at q2
    omega
  · simp only [am_lt_i, am_le_i, am_eq_i, ne_eq, am_l0, am_l1, am_l2, am_l3, am_l4, am_l5, am_l6, am_l7, am_l8, am_l9, am_l10, am_l11, am_l12, am_l13, am_l14, am_l15, am_l16, am_l17, am_l18, am_l19, am_l20, am_l21, am_l22, am_l23, am_l24, am_l25, am_l26, am_l30, am_l32, am_l33, am_l37, am_l38, am_l40, am_l41, am_l42, am_l43, am_l45, am_l47, am_l48, am_l50, am_l57, am_l59, am_l60, am_l61, am_l62, am_l63, am_l70, am_l80, am_l81, am_l97, am_l99, am_l100, am_l110, am_l115, am_l119, am_l120, am_l121, am_l124, am_l126, am_l156, am_l255, am_l1103515245, am_l12345, am_l2147483647, am_lm1, am_lm2, am_lm3, am_lm5, am_lm11, am_lm12, am_lm13, am_lm14, am_lm33, am_lm59, am_lm63, am_lm100, am_lm126, f] at q q2
    obtain ⟨k, hk, e⟩ := am_nat (x := x) (n := l) (by omega) (by omega)
    exact h1 k hk e
theorem am_low_5 {q : Nat} {v : Int64} (hq : q < 5) {x : Int32} (hx : x = nI q) {P : Int64 → Prop} (h : P (am_low q v)) :
    (x = 0 → P v.toInt32.toInt8.toInt32.toInt64) ∧ (¬ x = 0 → ((x = 1 → P v.toInt32.toInt16.toInt32.toInt64) ∧ (¬ x = 1 → ((x = 2 → P v.toInt32.toInt64) ∧ (¬ x = 2 → ((x = 3 → P v) ∧ (¬ x = 3 → ((lg_cmp v 0 = 0 → P 0) ∧ (¬ lg_cmp v 0 = 0 → P 1))))))))) := by
  subst hx
  have e : ∀ k : Nat, k < 10 → nI q = nI k → q = k := fun k hk e => (nI_eq (by omega) (by omega)).mp e
  have n : ∀ k : Nat, ¬ nI q = nI k → ¬ q = k := fun k h e => h (by rw [e])
  unfold am_low at h
  refine ⟨fun w => ?_, fun w0 => ⟨fun w => ?_, fun w1 => ⟨fun w => ?_, fun w2 => ⟨fun w => ?_, fun w3 => ⟨fun w => ?_, fun w => ?_⟩⟩⟩⟩⟩
  · rw [if_pos (e 0 (by omega) w)] at h
    exact h
  · rw [if_neg (n 0 w0), if_pos (e 1 (by omega) w)] at h
    exact h
  · rw [if_neg (n 0 w0), if_neg (n 1 w1), if_pos (e 2 (by omega) w)] at h
    exact h
  · rw [if_neg (n 0 w0), if_neg (n 1 w1), if_neg (n 2 w2), if_pos (e 3 (by omega) w)] at h
    exact h
  · rw [if_neg (n 0 w0), if_neg (n 1 w1), if_neg (n 2 w2), if_neg (n 3 w3), if_pos w] at h
    exact h
  · rw [if_neg (n 0 w0), if_neg (n 1 w1), if_neg (n 2 w2), if_neg (n 3 w3), if_neg w] at h
    exact h
theorem sp_105 {v : Int64} (hs : s < 6) (hq : q < 5) (e : mi (66 + 2 * s) 2 = nI q) (h : R (some (.long (am_low q v))) mi ml) : am_call (d + 1) 105 [.ref (66 + 2 * s), .long v] mi ml R :=
  bk_105 (am_need_o hs rfl (am_low_5 hq e (P := fun w => R (some (.long w)) mi ml) h))
theorem sp_266 {x : Int32} {v : Int64} (hq : q < 5) (e : x = nI q) (h : R (some (.long (am_low q v))) mi ml) : am_call (d + 1) 266 [.int x, .long v] mi ml R :=
  bk_266 (am_low_5 hq e (P := fun w => R (some (.long w)) mi ml) h)
/-- isRow of the reference -/
theorem sp_265 {x : Int32} (hs : s < 6) (hx : x = nI s) (h1 : ∀ k, k < 5 → mi 106 s = nI k → R (some (.int 1)) mi ml) (h0 : ((mi 106 s).toInt < 0 ∨ 4 < (mi 106 s).toInt) → R (some (.int 0)) mi ml) : am_call (d + 2) 265 [.ref 78, .int x] mi ml R := by
  subst hx
  refine bk_265 ⟨vp_in_nI hs (by omega), ?_⟩
  rw [nI_clamp (by omega)]
  refine sp_168 (fun a b => am_ri_i ⟨am_b1, ?_⟩) (fun g => am_ri_i ⟨am_b0, h0 ?_⟩)
  · rw [am_l0] at a
    rw [am_l4] at b
    obtain ⟨k, hk, e⟩ := am_nat (x := mi 106 s) (n := 5) (by omega) (by omega)
    exact h1 k hk e
  · rw [am_l0, am_l4] at g
    exact g
/-- put -/
theorem pr_40 {x y : Int32} {v : Int64} (hv : am_shv nb mi ml) (h : ∀ r ml2, am_shv nb mi ml2 → Q r r mi ml2) : am_pr (d + 3) 158 [.ref 0, .int x, .int y, .long v] 267 [.ref 78, .int x, .int y, .long v] mi ml Q := by
  refine bk_158 (sp_165 (fun s hs ex => am_ri_i (am_yn ?_)) (fun g => am_ri_i (am_nn (am_ri_i (bk_267 (sp_174n g (am_ri_i (am_nn (am_ri_i (h _ _ hv))))))))))
  have hvp : vp_in x 6 := by rw [ex]; exact vp_in_nI hs (by omega)
  have hcl : x.toNatClampNeg = s := by rw [ex]; exact nI_clamp (by omega)
  have hb := hv.1
  refine ⟨hvp, ?_⟩
  rw [hcl]
  refine am_need_o hs rfl ?_
  rcases hv.2 s hs with ⟨z1, z2⟩ | ⟨b, z1, z2, z3, z4⟩ | ⟨q, l, z1, z2, z3, z4, z5, z6, z7, z8⟩
  · refine sp_99 hs (fun _ => am_ri_i ⟨fun w => absurd w (by decide), fun _ => am_ri_i ?_⟩) (fun w => ?_) (fun w => absurd z1 w)
    · refine bk_267 (sp_174s hs ex (am_ri_i (am_yn ⟨hvp, ?_⟩)))
      rw [hcl, z2]
      exact ⟨fun w => absurd rfl w, fun _ => am_ri_i (h _ _ hv)⟩
    · rw [z1] at w
      exact absurd w (by decide)
  · refine sp_99 hs (fun w => ?_) (fun w => ?_) (fun _ _ => am_ri_i ⟨fun w => absurd w (by decide), fun _ => am_ri_i ?_⟩)
    · rw [z2] at w
      exact absurd w (by decide)
    · rw [z2] at w
      exact absurd w (by decide)
    · refine bk_267 (sp_174s hs ex (am_ri_i (am_yn ⟨hvp, ?_⟩)))
      rw [hcl]
      have e10 : (mi 106 s).toInt = 10 + b := by rw [z4, am_ti (by omega)]; omega
      refine ⟨fun _ => sp_265 hs ex (fun k hk ek => ?_) (fun g => am_ri_i (am_nn (am_ri_i (h _ _ hv)))), fun w => ?_⟩
      · rw [ek, am_ti (by omega)] at e10
        omega
      · rw [Decidable.not_not.mp w, am_lm1] at e10
        omega
  · refine sp_99 hs (fun w => ?_) (fun _ => am_ri_i (am_n0 ?_)) (fun _ w => absurd z3 w)
    · rw [z3] at w
      exact absurd w (by decide)
    · obtain ⟨c1, c2, c3, c4⟩ := am_shc s hs
      have hM : ∀ {S : Prop}, ∀ {R2 : am_R}, ((y.toInt < 0 ∨ l ≤ y.toInt) → R2 (some (.int (-13))) mi ml) → True := fun _ => trivial
      refine am_need_o hs rfl (bk_104 (am_need_o hs rfl (sp_101 hs z2 z6 (fun j hj ej => am_ri_i (am_yn (am_need_o hs rfl (am_need_o hs rfl (sp_105 hs z1 z4 (am_rj_i ?_)))))) (fun g => am_ri_i (am_nn ⟨am_b0, am_ri_i (am_n0 (am_ri_i ?_))⟩)))))
      · rw [c2]
        refine am_need_k hs ?_
        have hvj : vp_in y 60 := by rw [ej]; exact vp_in_nI (by omega) (by omega)
        have hcj : y.toNatClampNeg = j := by rw [ej]; exact nI_clamp (by omega)
        rw [c4, hcj]
        refine ⟨hvj, am_b1, am_ri_i (am_y (am_ri_i ?_))⟩
        generalize hmx : am_ul ml (67 + 2 * s) j (am_low q v) = mx
        have ox : ∀ c i, ¬ (c = 67 + 2 * s ∧ i = j) → mx c i = ml c i := fun c i hc => by rw [← hmx]; exact if_neg hc
        have xj : mx (67 + 2 * s) j = am_low q v := by rw [← hmx]; exact if_pos ⟨rfl, rfl⟩
        refine bk_267 (sp_174s hs ex (am_ri_i (am_yn ⟨hvp, ?_⟩)))
        rw [hcl]
        refine ⟨fun _ => sp_265 hs ex (fun k hk ek => am_ri_i (am_yn ⟨hvp, ?_⟩)) (fun g => ?_), fun w => ?_⟩
        · rw [z7]
          refine sp_168 (fun a b => am_ri_i (am_yn ⟨hvp, sp_266 z1 z5 (am_rj_i ⟨?_, am_ri_i ?_⟩)⟩)) (fun g => ?_)
          · rw [ex, ej, show (60 : Int32) = nI 60 from rfl, pk_mul, nI_add]
            exact vp_in_nI (by omega) (by omega)
          · have eix : 60 * x + y = nI (60 * s + j) := by rw [ex, ej, show (60 : Int32) = nI 60 from rfl, pk_mul, nI_add]
            rw [eix, nI_clamp (by omega)]
            generalize hmy : am_ul mx 108 (60 * s + j) (am_low q v) = my
            have oy : ∀ c i, ¬ (c = 108 ∧ i = 60 * s + j) → my c i = mx c i := fun c i hc => by rw [← hmy]; exact if_neg hc
            have yj : my 108 (60 * s + j) = am_low q v := by rw [← hmy]; exact if_pos ⟨rfl, rfl⟩
            refine h 1 my (am_shv_u (s := s) hv (Or.inr (Or.inr ⟨q, l, z1, z2, z3, z4, z5, z6, z7, fun i hi => ?_⟩)) (fun t ht hts => ⟨fun _ => rfl, rfl, rfl, fun i => ?_, fun i hi => ?_⟩))
            · by_cases e : i = j
              · subst e
                rw [oy _ _ (by omega), xj, yj]
              · rw [oy _ _ (by omega), ox _ _ (by omega), oy _ _ (by omega), ox _ _ (by omega)]
                exact z8 i hi
            · rw [oy _ _ (by omega), ox _ _ (by omega)]
            · rw [oy _ _ (by omega), ox _ _ (by omega)]
          · rw [ej, am_m1 (by omega), am_ti (by omega), am_l0] at g
            omega
        · rw [z5, am_ti (by omega)] at g
          omega
        · have w := Decidable.not_not.mp w
          rw [z5] at w
          have e2 : (nI q).toInt = (-1 : Int32).toInt := by rw [w]
          rw [am_ti (by omega), am_lm1] at e2
          omega
      · refine bk_267 (sp_174s hs ex (am_ri_i (am_yn ⟨hvp, ?_⟩)))
        rw [hcl]
        refine ⟨fun _ => sp_265 hs ex (fun k hk ek => am_ri_i (am_yn ⟨hvp, ?_⟩)) (fun g => ?_), fun w => ?_⟩
        · rw [z7]
          refine sp_168 (fun a b => ?_) (fun _ => am_ri_i (am_nn (am_ri_i (h _ _ hv))))
          rw [am_l0] at a
          rw [am_m1 (by omega)] at b
          omega
        · rw [z5, am_ti (by omega)] at g
          omega
        · have w := Decidable.not_not.mp w
          rw [z5] at w
          have e2 : (nI q).toInt = (-1 : Int32).toInt := by rw [w]
          rw [am_ti (by omega), am_lm1] at e2
          omega
/-- element -/
theorem pr_41 {x y : Int32} (hv : am_shv nb mi ml) (h : ∀ r, QJ r r mi ml) : am_prj (d + 3) 159 [.ref 0, .int x, .int y] 268 [.ref 78, .int x, .int y] mi ml QJ := by
  refine bk_159 (sp_165 (fun s hs ex => am_ri_i (am_yn ?_)) (fun g => am_ri_i (am_nn (am_rj_i (bk_268 (sp_174n g (am_ri_i (am_n0 (am_rj_i (h _))))))))))
  have hvp : vp_in x 6 := by rw [ex]; exact vp_in_nI hs (by omega)
  have hcl : x.toNatClampNeg = s := by rw [ex]; exact nI_clamp (by omega)
  have hb := hv.1
  have no : ((mi 106 s).toInt < 0 ∨ 4 < (mi 106 s).toInt) → am_call (d + 3) 268 [.ref 78, .int x, .int y] mi ml (am_rj fun r2 mi2 ml2 => QJ (-9223372036854775808) r2 mi2 ml2) := by
    intro g
    refine bk_268 (sp_174s hs ex (am_ri_i (am_y (sp_265 hs ex (fun k hk ek => ?_) (fun _ => am_ri_i (am_n0 (am_rj_i (h _))))))))
    rw [ek, am_ti (by omega)] at g
    omega
  refine ⟨hvp, ?_⟩
  rw [hcl]
  refine am_need_o hs rfl ?_
  rcases hv.2 s hs with ⟨z1, z2⟩ | ⟨b, z1, z2, z3, z4⟩ | ⟨q, l, z1, z2, z3, z4, z5, z6, z7, z8⟩
  · refine sp_99 hs (fun _ => am_ri_i ⟨fun _ => am_rj_i (no ?_), fun w => absurd (by decide) w⟩) (fun w => ?_) (fun w => absurd z1 w)
    · rw [z2, am_lm1]
      omega
    · rw [z1] at w
      exact absurd w (by decide)
  · refine sp_99 hs (fun w => ?_) (fun w => ?_) (fun _ _ => am_ri_i ⟨fun _ => am_rj_i (no ?_), fun w => absurd (by decide) w⟩)
    · rw [z2] at w
      exact absurd w (by decide)
    · rw [z2] at w
      exact absurd w (by decide)
    · rw [z4, am_ti (by omega)]
      omega
  · refine sp_99 hs (fun w => ?_) (fun _ => am_ri_i (am_nn ?_)) (fun _ w => absurd z3 w)
    · rw [z3] at w
      exact absurd w (by decide)
    · obtain ⟨c1, c2, c3, c4⟩ := am_shc s hs
      refine am_need_o hs rfl (sp_101 hs z2 z6 (fun j hj ej => am_ri_i (am_y (am_need_o hs rfl (bk_103 (am_need_o hs rfl (sp_101 hs z2 z6 (fun j2 hj2 ej2 => am_ri_i (am_y (am_need_o hs rfl ?_))) (fun g => ?_))))))) (fun g => am_ri_i (am_n0 (am_rj_i ?_))))
      · have hvj : vp_in y 60 := by rw [ej]; exact vp_in_nI (by omega) (by omega)
        have hcj : y.toNatClampNeg = j := by rw [ej]; exact nI_clamp (by omega)
        rw [c2]
        refine am_need_k hs ?_
        rw [c4, hcj]
        refine ⟨hvj, am_rj_i (am_rj_i ?_)⟩
        refine bk_268 (sp_174s hs ex (am_ri_i (am_y (sp_265 hs ex (fun k hk ek => am_ri_i (am_y ⟨hvp, ?_⟩)) (fun g => ?_)))))
        · rw [hcl, z7]
          refine sp_168 (fun a b => am_ri_i (am_y ⟨?_, am_rj_i ?_⟩)) (fun g => ?_)
          · rw [ex, ej, show (60 : Int32) = nI 60 from rfl, pk_mul, nI_add]
            exact vp_in_nI (by omega) (by omega)
          · have eix : 60 * x + y = nI (60 * s + j) := by rw [ex, ej, show (60 : Int32) = nI 60 from rfl, pk_mul, nI_add]
            rw [eix, nI_clamp (by omega), z8 j (by omega)]
            exact h _
          · rw [ej, am_m1 (by omega), am_ti (by omega), am_l0] at g
            omega
        · rw [z5, am_ti (by omega)] at g
          omega
      · rw [ej, am_ti (by omega)] at g
        omega
      · refine bk_268 (sp_174s hs ex (am_ri_i (am_y (sp_265 hs ex (fun k hk ek => am_ri_i (am_y ⟨hvp, ?_⟩)) (fun g => ?_)))))
        · rw [hcl, z7]
          refine sp_168 (fun a b => ?_) (fun _ => am_ri_i (am_n0 (am_rj_i (h _))))
          rw [am_l0] at a
          rw [am_m1 (by omega)] at b
          omega
        · rw [z5, am_ti (by omega)] at g
          omega
/-- taken -/
theorem pr_43 {x y : Int32} (hst : am_sta mi) (hp : am_pics mi) (hm1 : mi 62 1 = nI nb) (hv : am_shv nb mi ml) (h : ∀ r, Q r r mi ml) : am_pr (d + 3) 161 [.ref 0, .int x, .int y] 270 [.ref 78, .int x, .int y] mi ml Q := by
  refine bk_161 (sp_165 (fun s hs ex => am_ri_i (am_y ?_)) (fun g => am_ri_i (am_n0 (am_ri_i (bk_270 (sp_174n g (am_ri_i (am_n0 (am_ri_i (h _))))))))))
  have hvp : vp_in x 6 := by rw [ex]; exact vp_in_nI hs (by omega)
  have hcl : x.toNatClampNeg = s := by rw [ex]; exact nI_clamp (by omega)
  have hb := hv.1
  obtain ⟨nb2, es, hb2, e1, e2, hk, -, -⟩ := hp
  refine sp_83 (fun t ht et => am_ri_i (am_yn ⟨hvp, ?_⟩)) (fun g => am_ri_i (am_nn (am_ri_i (bk_270 (sp_174s hs ex (am_ri_i (am_y (sp_168 (fun a b => ?_) (fun _ => am_ri_i (am_nn (am_ri_i (h _))))))))))))
  · have inM : ∀ {R2 : am_R}, R2 (some (.int 1)) mi ml → am_call (d + 2) 168 [.int y, .int 0, .int 7] mi ml R2 := fun hR => sp_168 (fun _ _ => hR) (fun g => by
      rw [et, am_ti (by omega), am_l0, am_l7] at g
      omega)
    rw [hcl]
    refine am_need_o hs rfl ?_
    rcases hv.2 s hs with ⟨z1, z2⟩ | ⟨b, z1, z2, z3, z4⟩ | ⟨q, l, z1, z2, z3, z4, z5, z6, z7, z8⟩
    · refine ⟨fun w => absurd z1 w, fun _ => am_ri_i (bk_270 (sp_174s hs ex (am_ri_i (am_y (inM (am_ri_i (am_yn ⟨hvp, ?_⟩)))))))⟩
      rw [hcl, z2]
      exact ⟨fun w => absurd rfl w, fun _ => am_ri_i (h _)⟩
    · obtain ⟨K, hK, f1, f2⟩ := hk b (by
        have := (nI_eq (a := nb) (b := nb2) (by omega) (by omega)).mp (hm1.symm.trans e1)
        omega)
      have e10 : (mi 106 s).toInt = 10 + b := by rw [z4, am_ti (by omega)]; omega
      have tail : am_call (d + 3) 270 [.ref 78, .int x, .int y] mi ml (am_ri fun r2 mi2 ml2 => Q (if am_und K t = true then nI K else -12) r2 mi2 ml2) := by
        refine bk_270 (sp_174s hs ex (am_ri_i (am_y (inM (am_ri_i (am_yn ⟨hvp, ?_⟩))))))
        rw [hcl]
        refine ⟨fun _ => sp_265 hs ex (fun k hk ek => ?_) (fun _ => am_ri_i (am_n0 ⟨hvp, ?_⟩)), fun w => ?_⟩
        · rw [ek, am_ti (by omega)] at e10
          omega
        · have e11 : mi 106 s - 10 = nI b := by rw [z4, show (10 : Int32) = nI 10 from rfl, pk_sub (by omega)]; congr 1; omega
          rw [e11, nI_clamp (by omega), f2, et]
          refine ⟨vp_in_nI (by omega) (by omega), ?_⟩
          have loop : ∀ k, k < 8 → (am_und k t = am_und K t) → am_wp (am_call (d + 2)) mt_270 (am_ri fun r2 mi2 ml2 => Q (if am_und K t = true then nI K else -12) r2 mi2 ml2) 36 [none, none, some (.int (nI t)), some (.int (nI K)), some (.int (nI k))] [] mi ml := by
            intro k
            induction k using Nat.strongRecOn with
            | ind k ih =>
              intro hk8 hu
              have st := am_und_s k hk8 t ht
              refine bk_270_36 ⟨fun w => ⟨fun w2 => absurd w w2, fun _ => am_ri_i ?_⟩, fun w => ⟨fun w2 => ⟨fun _ => am_ri_i ?_, fun w3 => absurd (Decidable.not_not.mp w3) w⟩, fun w2 => ?_⟩⟩
              · have ekt : k = t := (nI_eq (by omega) (by omega)).mp w
                have hy : am_und K t = true := by rw [← hu, st]; simp [ekt]
                rw [if_pos hy]
                exact h _
              · have k0 : k = 0 := by
                  simp only [am_lt_i, am_le_i, am_eq_i, ne_eq, am_l0, am_l1, am_l2, am_l3, am_l4, am_l5, am_l6, am_l7, am_l8, am_l9, am_l10, am_l11, am_l12, am_l13, am_l14, am_l15, am_l16, am_l17, am_l18, am_l19, am_l20, am_l21, am_l22, am_l23, am_l24, am_l25, am_l26, am_l30, am_l32, am_l33, am_l37, am_l38, am_l40, am_l41, am_l42, am_l43, am_l45, am_l47, am_l48, am_l50, am_l57, am_l59, am_l60, am_l61, am_l62, am_l63, am_l70, am_l80, am_l81, am_l97, am_l99, am_l100, am_l110, am_l115, am_l119, am_l120, am_l121, am_l124, am_l126, am_l156, am_l255, am_l1103515245, am_l12345, am_l2147483647, am_lm1, am_lm2, am_lm3, am_lm5, am_lm11, am_lm12, am_lm13, am_lm14, am_lm33, am_lm59, am_lm63, am_lm100, am_lm126, am_ti (show k < 2 ^ 31 by omega)] at w2
                  omega
                have hne : ¬ k = t := fun e => w (by rw [e])
                have hno : ¬ am_und K t = true := by
                  rw [← hu, st]
                  simp
                  omega
                rw [if_neg hno]
                exact h _
              · have k0 : 0 < k := by
                  simp only [am_lt_i, am_le_i, am_eq_i, ne_eq, am_l0, am_l1, am_l2, am_l3, am_l4, am_l5, am_l6, am_l7, am_l8, am_l9, am_l10, am_l11, am_l12, am_l13, am_l14, am_l15, am_l16, am_l17, am_l18, am_l19, am_l20, am_l21, am_l22, am_l23, am_l24, am_l25, am_l26, am_l30, am_l32, am_l33, am_l37, am_l38, am_l40, am_l41, am_l42, am_l43, am_l45, am_l47, am_l48, am_l50, am_l57, am_l59, am_l60, am_l61, am_l62, am_l63, am_l70, am_l80, am_l81, am_l97, am_l99, am_l100, am_l110, am_l115, am_l119, am_l120, am_l121, am_l124, am_l126, am_l156, am_l255, am_l1103515245, am_l12345, am_l2147483647, am_lm1, am_lm2, am_lm3, am_lm5, am_lm11, am_lm12, am_lm13, am_lm14, am_lm33, am_lm59, am_lm63, am_lm100, am_lm126, am_ti (show k < 2 ^ 31 by omega)] at w2
                  omega
                have hne : ¬ k = t := fun e => w (by rw [e])
                have hlt := am_ab_l k hk8 k0
                have go : am_wp (am_call (d + 2)) mt_270 (am_ri fun r2 mi2 ml2 => Q (if am_und K t = true then nI K else -12) r2 mi2 ml2) 36 [none, none, some (.int (nI t)), some (.int (nI K)), some (.int (nI (am_ab k)))] [] mi ml := by
                  refine ih (am_ab k) hlt (by omega) ?_
                  rw [← hu, st]
                  have q1 : (k == t) = false := by simpa using hne
                  have q2 : decide (0 < k) = true := decide_eq_true k0
                  rw [q1, q2]
                  simp
                rcases (show k = 1 ∨ k = 2 ∨ k = 3 ∨ k = 4 ∨ k = 5 ∨ k = 6 ∨ k = 7 by omega) with e | e | e | e | e | e | e <;> subst e
                · exact sp_254_1 (am_ri_i go)
                · exact sp_254_2 (am_ri_i go)
                · exact sp_254_3 (am_ri_i go)
                · exact sp_254_4 (am_ri_i go)
                · exact sp_254_5 (am_ri_i go)
                · exact sp_254_6 (am_ri_i go)
                · exact sp_254_7 (am_ri_i go)
          exact loop K hK rfl
        · rw [Decidable.not_not.mp w, am_lm1] at e10
          omega
      refine ⟨fun _ => am_need_o hs rfl ⟨fun w => absurd z2 w, fun _ => am_need_o hs rfl ?_⟩, fun w => ?_⟩
      · rw [z3]
        refine sp_84 hb hm1 (fun k2 hk2 ek2 => am_ri_i (am_yn (am_need_o hs rfl ?_))) (fun g => ?_)
        · rw [z3]
          refine sp_86 hb hm1 z1 rfl ?_
          rw [f1]
          refine am_ri_i (sp_87b (k := K) (t := t) hst hK ht rfl et (fun u => am_ri_i (am_y (am_ri_i ?_))) (fun u => am_ri_i (am_n0 (am_ri_i ?_))))
          · rw [if_pos u] at tail
            exact tail
          · rw [if_neg u] at tail
            exact tail
        · rw [am_ti (by omega)] at g
          omega
      · rw [z2] at w
        exact absurd (by decide) w
    · refine ⟨fun _ => am_need_o hs rfl ⟨fun _ => am_ri_i (bk_270 (sp_174s hs ex (am_ri_i (am_y (inM (am_ri_i (am_yn ⟨hvp, ?_⟩))))))), fun w => ?_⟩, fun w => ?_⟩
      · rw [hcl]
        refine ⟨fun _ => sp_265 hs ex (fun k hk ek => am_ri_i (am_y (am_ri_i (h _)))) (fun g => ?_), fun w => ?_⟩
        · rw [z5, am_ti (by omega)] at g
          omega
        · have w := Decidable.not_not.mp w
          rw [z5] at w
          have e2 : (nI q).toInt = (-1 : Int32).toInt := by rw [w]
          rw [am_ti (by omega), am_lm1] at e2
          omega
      · rw [z3] at w
        exact absurd (by decide) w
      · rw [z3] at w
        exact absurd (by decide) w
  · rw [am_l0] at a
    rw [am_l7] at b
    omega
end SP30
