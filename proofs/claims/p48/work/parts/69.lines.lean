/-! the law's lines, read by the class -/
theorem am_xl_a : ∀ P Q : List (List Nat × List Nat), am_xl (P ++ Q) = am_xl P ++ am_xl Q
  | [], _ => rfl
  | ([], e) :: r, Q => by
    show [] ++ (e.map am_xc ++ ((-59) :: am_xl (r ++ Q))) = ([] ++ (e.map am_xc ++ ((-59) :: am_xl r))) ++ am_xl Q
    rw [am_xl_a r Q]
    simp only [List.append_assoc, List.cons_append, List.nil_append]
  | (t :: c, e) :: r, Q => by
    show ((t :: c).map am_xc ++ [-63]) ++ (e.map am_xc ++ ((-59) :: am_xl (r ++ Q))) = (((t :: c).map am_xc ++ [-63]) ++ (e.map am_xc ++ ((-59) :: am_xl r))) ++ am_xl Q
    rw [am_xl_a r Q]
    simp only [List.append_assoc, List.cons_append, List.nil_append]
theorem am_xl_s0 {Q : List (List Nat × List Nat)} {e : List Nat} : am_xl (Q ++ [([], e)]) = am_xl Q ++ e.map am_xc ++ [-59] := by
  rw [am_xl_a, List.append_assoc]
  rfl
theorem am_xl_s1 {Q : List (List Nat × List Nat)} {c e : List Nat} (hc : c ≠ []) : am_xl (Q ++ [(c, e)]) = am_xl Q ++ c.map am_xc ++ [-63] ++ e.map am_xc ++ [-59] := by
  rw [am_xl_a]
  cases c with
  | nil => exact absurd rfl hc
  | cons t c =>
    show am_xl Q ++ (((t :: c).map am_xc ++ [-63]) ++ (e.map am_xc ++ [-59])) = _
    simp only [List.append_assoc]
theorem am_tot_a : ∀ P Q : List (List Nat × List Nat), am_tot (P ++ Q) = am_tot P + am_tot Q
  | [], _ => by
    show _ = 0 + _
    rw [Nat.zero_add]
    rfl
  | (c, e) :: r, Q => by
    show c.length + e.length + am_tot (r ++ Q) = c.length + e.length + am_tot r + am_tot Q
    rw [am_tot_a r Q]
    omega
theorem am_lwf_a : ∀ {P Q : List (List Nat × List Nat)}, am_lwf P → am_lwf Q → am_lwf (P ++ Q)
  | [], _, _, h => h
  | (_, _) :: _, _, h, g => ⟨h.1, h.2.1, am_lwf_a h.2.2 g⟩
def am_gQ (p : Nat) (Q : List (List Nat × List Nat)) : Prop := am_lwf Q ∧ (am_xl Q).length ≤ p ∧ 2 * Q.length ≤ p ∧ am_tot Q ≤ p
/-- how much after one more line -/
def am_gR (p q : Nat) (Q : List (List Nat × List Nat)) : Prop := p < q ∧ am_lwf Q ∧ (am_xl Q).length ≤ q + 1 ∧ 2 * Q.length ≤ q + 1 ∧ am_tot Q ≤ q
theorem am_gR_q {p q : Nat} {Q : List (List Nat × List Nat)} (h : am_gR p q Q) : am_gQ (q + 1) Q := ⟨h.2.1, h.2.2.1, h.2.2.2.1, Nat.le_succ_of_le h.2.2.2.2⟩
theorem am_gR_0 {p q : Nat} {Q : List (List Nat × List Nat)} {e : List Nat} (hq : am_gQ p Q) (hpq : p < q) (he : am_wf e) (hl : e.length + p ≤ q) : am_gR p q (Q ++ [([], e)]) := by
  obtain ⟨h1, h2, h3, h4⟩ := hq
  refine ⟨hpq, am_lwf_a h1 ⟨Or.inl rfl, he, trivial⟩, ?_, ?_, ?_⟩
  · rw [am_xl_s0, List.length_append, List.length_append, List.length_map]
    show (am_xl Q).length + e.length + 1 ≤ q + 1
    omega
  · rw [List.length_append]
    show 2 * (Q.length + 1) ≤ q + 1
    omega
  · rw [am_tot_a]
    show am_tot Q + (0 + e.length + 0) ≤ q
    omega
theorem am_gR_1 {p q : Nat} {Q : List (List Nat × List Nat)} {c e : List Nat} (hq : am_gQ p Q) (hpq : p < q) (hn : c ≠ []) (hc : am_wf c) (he : am_wf e) (hl : c.length + 1 + e.length + p ≤ q) : am_gR p q (Q ++ [(c, e)]) := by
  obtain ⟨h1, h2, h3, h4⟩ := hq
  refine ⟨hpq, am_lwf_a h1 ⟨Or.inr hc, he, trivial⟩, ?_, ?_, ?_⟩
  · rw [am_xl_s1 hn]
    simp only [List.length_append, List.length_map]
    show (am_xl Q).length + c.length + 1 + e.length + 1 ≤ q + 1
    omega
  · rw [List.length_append]
    show 2 * (Q.length + 1) ≤ q + 1
    omega
  · rw [am_tot_a]
    show am_tot Q + (c.length + e.length + 0) ≤ q
    omega
section SP69a
variable {T : Nat → Nat} {L : Nat}
theorem am_line_g {p : Nat} {Q : List (List Nat × List Nat)} (hp : p ≤ L) (hq : am_gQ p Q) : p ≤ (am_line T L p).2.1 ∧ (am_line T L p).2.1 ≤ L ∧ ((am_line T L p).1 = true → am_gR p (am_line T L p).2.1 (Q ++ [(am_line T L p).2.2])) := by
  obtain ⟨a1, a2, a3⟩ := am_E_g (T := T) (L := L) hp
  unfold am_line
  split
  · rename_i ok
    obtain ⟨a4, a5, a6⟩ := a3 ok
    split
    · rename_i y
      obtain ⟨b1, b2, b3⟩ := am_E_g (T := T) (L := L) (p := (am_E T L p).2.1 + 1) (by omega)
      refine ⟨?_, b2, fun ok2 => ?_⟩
      · show p ≤ (am_E T L ((am_E T L p).2.1 + 1)).2.1
        omega
      · obtain ⟨b4, b5, b6⟩ := b3 ok2
        refine am_gR_1 hq ?_ (am_exp_n a6) (am_exp_w a6) (am_exp_w b6) ?_
        · show p < (am_E T L ((am_E T L p).2.1 + 1)).2.1
          omega
        · show (am_E T L p).2.2.length + 1 + (am_E T L ((am_E T L p).2.1 + 1)).2.2.length + p ≤ (am_E T L ((am_E T L p).2.1 + 1)).2.1
          omega
    · exact ⟨a1, a2, fun _ => am_gR_0 hq a4 (am_exp_w a6) a5⟩
  · exact ⟨a1, a2, fun q => absurd (show false = true from q) (by decide)⟩
theorem am_lns_g (hL : L ≤ 120) : ∀ k p Q, p ≤ L → am_gQ p Q → (am_lns T L k p Q).1 = true → am_lwf (am_lns T L k p Q).2.2 ∧ (am_lns T L k p Q).2.2.length ≤ 60 ∧ am_tot (am_lns T L k p Q).2.2 ≤ 120 ∧ (am_xl (am_lns T L k p Q).2.2).length ≤ 121 ∧ (am_lns T L k p Q).2.2 ≠ []
  | 0, p, Q, _, _, h => absurd (show false = true from h) (by decide)
  | k + 1, p, Q, hp, hq, h => by
    obtain ⟨a1, a2, a3⟩ := am_line_g (T := T) hp hq
    have un : am_lns T L (k + 1) p Q = if (am_line T L p).1 = true then (if (am_line T L p).2.1 < L ∧ T (am_line T L p).2.1 = 59 then am_lns T L k ((am_line T L p).2.1 + 1) (Q ++ [(am_line T L p).2.2]) else (decide ((am_line T L p).2.1 = L), (am_line T L p).2.1, Q ++ [(am_line T L p).2.2])) else (false, (am_line T L p).2.1, Q) := rfl
    rw [un] at h ⊢
    by_cases ok : (am_line T L p).1 = true
    · rw [if_pos ok] at h ⊢
      have a3 := a3 ok
      by_cases y : (am_line T L p).2.1 < L ∧ T (am_line T L p).2.1 = 59
      · rw [if_pos y] at h ⊢
        exact am_lns_g hL k _ _ y.1 (am_gR_q a3) h
      · rw [if_neg y]
        obtain ⟨c1, c2, c3, c4, c5⟩ := a3
        refine ⟨c2, ?_, ?_, ?_, fun z => ?_⟩
        · show (Q ++ [(am_line T L p).2.2]).length ≤ 60
          omega
        · show am_tot (Q ++ [(am_line T L p).2.2]) ≤ 120
          omega
        · show (am_xl (Q ++ [(am_line T L p).2.2])).length ≤ 121
          omega
        · have z : Q ++ [(am_line T L p).2.2] = [] := z
          have := congrArg List.length z
          rw [List.length_append] at this
          exact absurd this (by show ¬ Q.length + 1 = 0; omega)
    · rw [if_neg ok] at h
      exact absurd (show false = true from h) (by decide)
end SP69a
def am_F67 : Nat → Nat → Bool := fun c j => decide (c = 17 ∨ c = 18 ∨ (c = 15 ∧ (j = 1 ∨ j = 2 ∨ j = 4 ∨ j = 6 ∨ j = 7)))
def am_F67f : Nat → Nat → Bool := fun c j => decide (c = 17 ∨ (c = 15 ∧ (j = 1 ∨ j = 2 ∨ j = 4)))
section SP69b
variable {D L p : Nat} {T : Nat → Nat} {B m : am_MI} {ml : am_ML} {R : am_R} {Q : List (List Nat × List Nat)}
theorem sp_71e {S : List Int32} (hb : am_cb T L B) (hD : 54 ≤ D) (hp : p ≤ L) (hl : S.length ≤ p) (hs : am_cs B p S m) : am_cG B D 71 [.ref 15, .int 0, .int 0] (am_E T L p) S m ml :=
  sp_71 (F := am_O T L 6) (o := 0) (c := 48) hb (by omega) (fun p hp => am_O_g 6 p hp) (fun D hD p S m hp hl hs => sp_73 hb 6 (Nat.le_refl _) D (by omega) p S m hp hl hs) 5 (Nat.le_refl _) D (by omega) p S m hp hl hs
/-- readLine -/
theorem sp_70 (hD : 55 ≤ D) (hb : am_cb T L B) (hp : p ≤ L) (hq : am_gQ p Q) (hs : am_cs B p (am_xl Q) m) (h1 : (am_line T L p).1 = true → ∀ m2, am_cs B (am_line T L p).2.1 (am_xl (Q ++ [(am_line T L p).2.2])) m2 → R (some (.int 1)) m2 ml) (h0 : (am_line T L p).1 = false → ∀ m2, am_cf B (am_line T L p).2.1 m2 → R (some (.int 0)) m2 ml) : am_call D 70 [.ref 15] m ml R := by
  obtain ⟨d, rfl⟩ : ∃ d, D = d + 1 := ⟨D - 1, by omega⟩
  have hL := hb.1
  have hg := am_line_g (T := T) hp hq
  obtain ⟨a1, a2, a3⟩ := am_E_g (T := T) (L := L) hp
  have un : am_line T L p = if (am_E T L p).1 = true then (if (am_E T L p).2.1 < L ∧ T (am_E T L p).2.1 = 63 then ((am_E T L ((am_E T L p).2.1 + 1)).1, (am_E T L ((am_E T L p).2.1 + 1)).2.1, (am_E T L p).2.2, (am_E T L ((am_E T L p).2.1 + 1)).2.2) else (true, (am_E T L p).2.1, [], (am_E T L p).2.2)) else (false, (am_E T L p).2.1, [], []) := rfl
  have first := sp_71e (D := d) (ml := ml) hb (by omega) hp hq.2.1 hs
  generalize am_E T L p = e1 at a1 a2 a3 un first
  generalize am_line T L p = rl at un h1 h0 hg
  refine bk_70 (first _ (fun ok m2 s2 => am_ri_i (am_yn (sp_76 (i := 7) (by omega) (by omega) hb s2.1 a2 s2.2.1 (fun y1 y2 => am_ri_i ?_) (fun y => am_ri_i (am_n0 ?_))))) (fun ok m2 s2 => am_ri_i (am_nn ⟨am_b0, ?_⟩)))
  · obtain ⟨a4, a5, a6⟩ := a3 ok
    have hT := (hb.2.2.1 _ y1).2
    have e63 := (am_opx _ hT).2.2.2.mp y2
    rw [if_pos ok, if_pos ⟨y1, e63⟩] at un
    rw [e63]
    refine ⟨fun z => absurd z (by decide), fun _ => ?_⟩
    obtain ⟨b1, b2, b3⟩ := am_E_g (T := T) (L := L) (p := e1.2.1 + 1) (by omega)
    have l1 : (am_xl Q ++ e1.2.2.map am_xc).length ≤ e1.2.1 := by
      rw [List.length_append, List.length_map]
      have := hq.2.1
      omega
    refine sp_77 (by omega) (am_cs_p s2) (by omega) (fun m3 s3 => am_rv_i (sp_71e (D := d) hb (by omega) (by omega) (by rw [List.length_append]; show (am_xl Q ++ e1.2.2.map am_xc).length + 1 ≤ _; omega) s3 _ (fun ok2 m4 s4 => am_ri_i (am_yn ?_)) (fun ok2 m4 s4 => am_ri_i (am_nn ⟨am_b0, ?_⟩))))
    · obtain ⟨b4, b5, b6⟩ := b3 ok2
      rw [un] at h1 hg
      obtain ⟨c1, c2, c3, c4, c5⟩ := hg.2.2 ok2
      have ex := am_xl_s1 (Q := Q) (e := (am_E T L (e1.2.1 + 1)).2.2) (am_exp_n a6)
      have c3 : (am_xl (Q ++ [(e1.2.2, (am_E T L (e1.2.1 + 1)).2.2)])).length ≤ (am_E T L (e1.2.1 + 1)).2.1 + 1 := c3
      rw [ex, List.length_append] at c3
      have c3 : (am_xl Q ++ e1.2.2.map am_xc ++ [-63] ++ (am_E T L (e1.2.1 + 1)).2.2.map am_xc).length + 1 ≤ (am_E T L (e1.2.1 + 1)).2.1 + 1 := c3
      refine sp_77 (by omega) s4 (by omega) (fun m5 s5 => am_rv_i ⟨am_b1, h1 ok2 m5 ?_⟩)
      show am_cs B (am_E T L (e1.2.1 + 1)).2.1 (am_xl (Q ++ [(e1.2.2, (am_E T L (e1.2.1 + 1)).2.2)])) m5
      rw [ex]
      exact s5
    · rw [un] at h0
      exact h0 ok2 m4 (s4)
  · obtain ⟨a4, a5, a6⟩ := a3 ok
    rw [if_pos ok, if_neg (fun z => y ⟨z.1, (am_opx _ (hb.2.2.1 _ z.1).2).2.2.2.mpr z.2⟩)] at un
    rw [un] at h1
    refine sp_77 (by omega) s2 ?_ (fun m3 s3 => am_rv_i ⟨am_b1, h1 rfl m3 ?_⟩)
    · rw [List.length_append, List.length_map]
      have := hq.2.1
      omega
    · show am_cs B e1.2.1 (am_xl (Q ++ [([], e1.2.2)])) m3
      rw [am_xl_s0]
      exact s3
  · rw [if_neg (by rw [ok]; decide)] at un
    rw [un] at h0
    exact h0 rfl m2 s2
/-- readLines -/
theorem sp_69l (hD : 55 ≤ D) (hb : am_cb T L B) : ∀ k i p Q m, i + k = L + 1 → i ≤ p → p ≤ L → am_gQ p Q → am_cs B p (am_xl Q) m → ((am_lns T L k p Q).1 = true → ∀ m2, am_cs B (am_lns T L k p Q).2.1 (am_xl (am_lns T L k p Q).2.2) m2 → R (some (.int 1)) m2 ml) → ((am_lns T L k p Q).1 = false → ∀ m2, am_cf B (am_lns T L k p Q).2.1 m2 → R (some (.int 0)) m2 ml) → am_wp (am_call D) mt_69 R 2 [some (.ref 15), some (.int (nI i))] [] m ml := by
  have hL := hb.1
  intro k
  induction k with
  | zero =>
    intro i p Q m e1 e2 e3
    omega
  | succ k ih =>
    intro i p Q m ei hip hp hq hs h1 h0
    have un : am_lns T L (k + 1) p Q = if (am_line T L p).1 = true then (if (am_line T L p).2.1 < L ∧ T (am_line T L p).2.1 = 59 then am_lns T L k ((am_line T L p).2.1 + 1) (Q ++ [(am_line T L p).2.2]) else (decide ((am_line T L p).2.1 = L), (am_line T L p).2.1, Q ++ [(am_line T L p).2.2])) else (false, (am_line T L p).2.1, Q) := rfl
    rw [un] at h1 h0
    obtain ⟨a1, a2, a3⟩ := am_line_g (T := T) hp hq
    have e151 : ∀ {m2 : am_MI}, am_kp am_F71 B m2 → m2 15 1 = nI L := fun k => (k 15 1 rfl).trans hb.2.1
    refine bk_69_2 (pk_lt L i (fun q => absurd q (by omega)) (fun _ => sp_70 hD hb hp hq hs (fun ok m2 s2 => am_ri_i (am_yn ?_)) (fun ok m2 s2 => am_ri_i (am_nn ⟨am_b0, ?_⟩))) (e151 hs.1) rfl)
    · rw [if_pos ok] at h1 h0
      have a3 := a3 ok
      have a4 := a3.1
      refine sp_76 (i := 5) (by omega) (by omega) hb s2.1 a2 s2.2.1 (fun y1 y2 => am_ri_i ?_) (fun y => am_ri_i (am_nn ?_))
      · have e59 := (am_opx _ (hb.2.2.1 _ y1).2).2.2.1.mp y2
        rw [if_pos ⟨y1, e59⟩] at h1 h0
        rw [e59]
        refine ⟨fun _ => ?_, fun z => absurd (by decide) z⟩
        rw [nI_1]
        exact ih (i + 1) _ _ _ (by omega) (by omega) (by omega) (am_gR_q a3) (am_cs_p s2) h1 h0
      · rw [if_neg (fun z => y ⟨z.1, (am_opx _ (hb.2.2.1 _ z.1).2).2.2.1.mpr z.2⟩)] at h1 h0
        rw [s2.2.1, e151 s2.1]
        refine ⟨fun z => ⟨am_b0, ?_⟩, fun z => ⟨am_b1, ?_⟩⟩
        · exact h0 (decide_eq_false (fun e => z (by rw [e]))) m2 (am_cs_f s2)
        · exact h1 (decide_eq_true ((nI_eq (a := (am_line T L p).2.1) (b := L) (by omega) (by omega)).mp (Decidable.not_not.mp z))) m2 s2
    · rw [if_neg (by rw [ok]; decide)] at h0
      exact h0 rfl m2 s2
/-- becomeLaw -/
theorem sp_67 (hD : 57 ≤ D) (hb : am_cb T L m) (h1 : (am_lns T L (L + 1) 0 []).1 = true → ∀ m2, am_kp am_F67 m m2 → m2 15 1 = 0 → m2 15 6 = nI (am_xl (am_lns T L (L + 1) 0 []).2.2).length → am_at m2 0 (am_xl (am_lns T L (L + 1) 0 []).2.2) → m2 15 7 = m 15 7 + 1 → R (some (.int 1)) m2 ml)
    (h0 : (am_lns T L (L + 1) 0 []).1 = false → ∀ m2, am_kp am_F67f m m2 → m2 15 1 = 0 → R (some (.int (-100 - nI (am_lns T L (L + 1) 0 []).2.1))) m2 ml) : am_call D 67 [.ref 15] m ml R := by
  obtain ⟨d, rfl⟩ : ∃ d, D = d + 1 + 1 := ⟨D - 2, by omega⟩
  have gq : am_gQ 0 [] := ⟨trivial, Nat.le_refl _, Nat.le_refl _, Nat.le_refl _⟩
  have s0 : am_cs m 0 (am_xl []) (am_ui (am_ui m 15 2 0) 15 4 0) := ⟨am_kp_u (am_kp_u am_kp_r rfl) rfl, by rw [am_ui_n (by omega), am_ui_k]; rfl, am_ui_k, by decide, fun j hj => absurd hj (Nat.not_lt_zero j)⟩
  have gl := am_lns_g (T := T) hb.1 (L + 1) 0 [] (by omega) gq
  refine bk_67 (bk_69 (sp_69l (D := d) (by omega) hb (L + 1) 0 0 [] _ (Nat.zero_add _) (Nat.le_refl _) (by omega) gq s0 (fun ok m2 s2 => am_ri_i (am_yn ?_)) (fun ok m2 s2 => am_ri_i (am_nn ?_))))
  · obtain ⟨k1, k2, k3, k4, k5⟩ := s2
    obtain ⟨g1, g2, g3, g4, g5⟩ := gl ok
    generalize am_lns T L (L + 1) 0 [] = res at ok k2 k3 k4 k5 h1 g1 g2 g3 g4 g5
    rw [k3, nI_clamp (show (am_xl res.2.2).length < 2 ^ 31 by omega)]
    refine ⟨by decide, by decide, fun q => ?_, by show 0 + _ ≤ 121; omega, by show 0 + _ ≤ 121; omega, h1 ok _ (fun c j w => ?_) ?_ ?_ ?_ ?_⟩
    · rw [am_lt_i, am_l0, am_ti (by omega)] at q
      omega
    · have w := of_decide_eq_false w
      rw [am_ui_n (by omega), am_ui_n (by omega)]
      unfold am_ci
      rw [if_neg (by omega), am_ui_n (by omega), k1 c j (decide_eq_false (by omega))]
    · rw [am_ui_n (by omega), am_ui_n (by omega)]
      unfold am_ci
      rw [if_neg (by omega), am_ui_k]
    · rw [am_ui_n (by omega), am_ui_k]
    · intro j hj
      rw [am_ui_c (by decide), am_ui_c (by decide)]
      unfold am_ci
      rw [if_pos ⟨rfl, by show 0 ≤ _; omega, by show _ < 0 + _; omega⟩]
      show (am_ui m2 15 1 0) 17 (0 + (0 + j - 0)) = _
      rw [show 0 + (0 + j - 0) = j by omega, am_ui_c (by decide)]
      exact k5 j hj
    · rw [am_ui_k, show m2 15 7 = m 15 7 from k1 15 7 rfl]
  · obtain ⟨k1, k2, k3⟩ := s2
    rw [k2]
    exact h0 ok _ (am_kp_u (am_kp_w k1 (fun c j q => decide_eq_false (by have := of_decide_eq_false q; omega))) rfl) am_ui_k
end SP69b
