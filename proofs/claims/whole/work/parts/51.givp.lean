/-! pair: giving -/
section SP51
variable {d n m : Nat} {u : Nat → Nat → Int32} {mi : am_MI} {ml : am_ML} {R : am_R} {r : Nat} {P : List (List Nat × List Nat)} {Q : Int32 → Int32 → am_MI → am_ML → Prop}
theorem sp_40 {x : Int32} (hr : r < 5) (hc : am_cx n m u mi) (hx : x = nI r) (h : R (some (.int (am_unf m (mi (38 + r))))) mi ml) : am_call (d + 2) 40 [.ref 22, .int x] mi ml R := by
  subst hx
  obtain ⟨a1, a2, -⟩ := am_k38 r hr
  refine bk_40 ⟨vp_in_nI hr (by omega), ?_⟩
  rw [nI_clamp (by omega), Nat.one_mul]
  exact sp_43 a1 a2 hc (am_ri_i h)
/-- giving -/
theorem pr_10 {x y : Int32} (hl : am_lwr P mi) (hc : am_cx n m u mi) (hm : am_cm n m u mi) (hu : am_ur n m u) (hv : am_fvn P u n m mi) (h : ∀ r mi2, am_kp am_FXG mi mi2 → am_fvn P u n m mi2 → Q r r mi2 ml) : am_pr (d + 11) 128 [.ref 0, .int x, .int y] 221 [.ref 78, .int x, .int y] mi ml Q := by
  have hn := hc.1
  have hm5 := hc.2.1
  have h0 : ∀ r, Q r r mi ml := fun r => h r mi am_kp_r hv
  have bad : ((x.toInt < 0 ∨ 5 ≤ x.toInt) ∨ (y.toInt < 0 ∨ 2 < y.toInt)) → am_call (d + 11) 221 [.ref 78, .int x, .int y] mi ml (am_ri fun r2 mi2 ml2 => Q (-1) r2 mi2 ml2) := by
    intro g
    refine bk_221 (sp_171 (fun k hk e => am_ri_i (am_y (sp_168 (fun a b => ?_) (fun _ => am_ri_i (am_nn (am_ri_i (h0 _))))))) (fun _ => am_ri_i (am_n0 (am_ri_i (h0 _)))))
    exfalso
    rw [am_l0] at a
    rw [am_l2] at b
    rcases g with g | g
    · rw [e, am_ti (by omega)] at g
      omega
    · omega
  -- the reference gives
  have good : ∀ r v, r < 5 → x = nI r → (0 ≤ y.toInt ∧ y.toInt ≤ 2) → ∀ m2, am_kp am_FX mi m2 → am_fre P u n m m2 →
      (∀ m3, am_lwr P m3 → am_cm n m u m3 → am_kp am_FG m2 m3 → (∀ i, i < n → m3 110 i = (am_gvn P u n m r).1 i) → (∀ c, c < m → m3 111 c = (am_gvn P u n m r).2 c) → (∀ m4, am_kp am_F98b m3 m4 → am_ri (fun r2 mi2 ml2 => Q v r2 mi2 ml2) (some (.int v)) m4 ml) →
        ((y ≠ 0 → ((y ≠ 1 → am_call (d + 10) 218 [.ref 78] m3 ml (am_ri fun r4 mi4 ml4 => am_ri (fun r2 mi2 ml2 => Q v r2 mi2 ml2) (some (.int r4)) mi4 ml4)) ∧ (¬ (y ≠ 1) → am_call (d + 10) 216 [.ref 78] m3 ml (am_ri fun r5 mi5 ml5 => am_ri (fun r2 mi2 ml2 => Q v r2 mi2 ml2) (some (.int r5)) mi5 ml5)))) ∧ (¬ (y ≠ 0) → am_call (d + 10) 215 [.ref 78] m3 ml (am_ri fun r6 mi6 ml6 => am_ri (fun r2 mi2 ml2 => Q v r2 mi2 ml2) (some (.int r6)) mi6 ml6)))) →
      am_call (d + 11) 221 [.ref 78, .int x, .int y] m2 ml (am_ri fun r2 mi2 ml2 => Q v r2 mi2 ml2) := by
    intro r v hr er hy m2 k2 f2 hh
    have hm2 := am_cm_kXX hm k2
    refine bk_221 (sp_171 (fun k hk e => am_ri_i (am_y (sp_168 (fun a b => am_ri_i (am_yn (sp_213 hr (am_lwr_kX hl k2) hm2 hu er (fun m3 k3 a b => am_rv_i (hh m3 (am_lwr_kG (am_lwr_kX hl k2) k3) (am_cm_kG hm2 k3) k3 a b (fun m4 k4 => am_ri_i ?_)))))) (fun g => ?_)))) (fun g => ?_))
    · exact h _ m4 (am_kp_t (am_kXX k2) (am_kXG (am_kp_t k3 (am_kG_m k4)))) (Or.inl (am_fre_on hm5 f2 (fun c j q1 q2 => (k4 c j (decide_eq_false (by omega))).trans (k3 c j (decide_eq_false (by omega))))))
    · rw [am_l0, am_l2] at g
      omega
    · rw [er, am_ti (by omega)] at g
      omega
  refine bk_128 (sp_163 (fun r hr er => am_ri_i (am_yn ⟨fun w => sp_166 hl hc hu hv (fun m2 k2 f2 => am_rr_i (am_need_i rfl (sp_40 hr (am_cx_kX hc k2) er (am_ri_i (am_ri_i ?_))))), fun w0 => ⟨fun w => sp_166 hl hc hu hv (fun m2 k2 f2 => am_rr_i (am_need_i rfl (sp_44 hr (am_cx_kX hc k2) er (am_ri_i (am_ri_i ?_))))), fun w1 => ⟨fun w => sp_166 hl hc hu hv (fun m2 k2 f2 => am_rr_i (am_need_i rfl (sp_45 hr (am_cx_kX hc k2) f2 er (am_ri_i (am_ri_i ?_))))), fun w2 => am_ri_i (bad (Or.inr ?_))⟩⟩⟩)) (fun g => am_ri_i (am_nn (am_ri_i (bad (Or.inl g))))))
  · refine good r _ hr er (by rw [w]; decide) m2 k2 f2 (fun m3 hl3 hm3 k3 a b hq => ⟨fun q => absurd w q, fun _ => sp_215 hm3 (am_ri_i ?_)⟩)
    rw [am_unf_c (s := m3 111) (s2 := m2 (38 + r)) (fun c hc => by rw [b c hc, (f2.2.2.2.1 r hr).2 c hc])]
    exact hq m3 am_kp_r
  · refine good r _ hr er (by rw [w]; decide) m2 k2 f2 (fun m3 hl3 hm3 k3 a b hq => ⟨fun _ => ⟨fun q => absurd w q, fun _ => sp_216 hm3 (am_ri_i ?_)⟩, fun q => absurd (Decidable.not_not.mp q) w0⟩)
    rw [am_tgs_c (s := m3 111) (s2 := m2 (38 + r)) m (fun c hc => by rw [b c hc, (f2.2.2.2.1 r hr).2 c hc])]
    exact hq m3 am_kp_r
  · refine good r _ hr er (by rw [w]; decide) m2 k2 f2 (fun m3 hl3 hm3 k3 a b hq => ⟨fun _ => ⟨fun _ => sp_218 (r := r) hl3 hm3 hu a (fun m4 k4 => am_ri_i (hq m4 k4)), fun q => absurd (Decidable.not_not.mp q) w1⟩, fun q => absurd (Decidable.not_not.mp q) w0⟩)
  · rw [am_eq_i, am_l0] at w0
    rw [am_eq_i, am_l1] at w1
    rw [am_eq_i, am_l2] at w2
    omega
end SP51
