/-! the law's run: the rest of its loop over the rules -/
theorem dq_pri_j {W : Nat → Nat → Int32} {x : Nat} {q : Int32 × Int32} (h : 0 ≤ q.2.toInt ∧ (q.1 = -2 ∨ 0 < q.2.toInt)) : ∀ k, 0 ≤ (am_pri W x q k).2.toInt ∧ ((am_pri W x q k).1 = -2 ∨ 0 < (am_pri W x q k).2.toInt)
  | 0 => h
  | k + 1 => by
    have ih := dq_pri_j (W := W) (x := x) h k
    unfold am_pri am_prs
    by_cases g : am_gan W x (x + 1 + k) ≤ (am_pri W x q k).2
    · rw [if_pos g]
      exact ih
    · rw [if_neg g]
      rw [am_le_i] at g
      show 0 ≤ (am_gan W x (x + 1 + k)).toInt ∧ (_ ∨ 0 < (am_gan W x (x + 1 + k)).toInt)
      exact ⟨by omega, Or.inr (by omega)⟩
theorem dq_pro_j {W : Nat → Nat → Int32} {m : Nat} : ∀ x, 0 ≤ (am_pro W m x).2.toInt ∧ ((am_pro W m x).1 = -2 ∨ 0 < (am_pro W m x).2.toInt)
  | 0 => ⟨Int.le_refl _, Or.inl rfl⟩
  | x + 1 => by
    unfold am_pro
    exact dq_pri_j (dq_pro_j x) _
theorem dq_fns_t {p : Nat → Bool} : ∀ k j, (∀ i, j ≤ i → i < j + k → p i = true) → am_fns p k j = -2
  | 0, _, _ => rfl
  | k + 1, j, h => by
    unfold am_fns
    rw [if_pos (h j (Nat.le_refl _) (by omega))]
    exact dq_fns_t k (j + 1) (fun i a b => h i (by omega) (by omega))
section SP81
variable {K : am_K} {n m r v : Nat} {u : Nat → Nat → Int32} {R : am_R} {P : List (List Nat × List Nat)}
theorem dq_unf_e (hn : n ≤ 12) (hm : m ≤ 5) (hu : am_ur n m u) (h0 : ¬ m = 0) : am_ufr P u n m r = dq_mx (am_gvn P u n m r).2 m - dq_mi (am_gvn P u n m r).2 m := by
  obtain ⟨k, rfl⟩ : ∃ k, m = k + 1 := ⟨m - 1, by omega⟩
  obtain ⟨a, b⟩ := dq_mm (s := (am_gvn P u n (k + 1) r).2) (m := k + 1) (fun c hc => am_gvn_b hu hn hm hc) k (Nat.le_refl _)
  unfold am_ufr am_unf
  rw [if_neg h0, a, b, Nat.add_sub_cancel]
theorem dq_swu_e (hm : m ≤ 5) (h : dq_swp P u n m r = none) : (dq_sws P u n m r).1 = 0 ∧ dq_swu P u n m r = am_ufr P u n m r := by
  have e : dq_sws P u n m r = (0, (am_gvn P u n m r).1) := am_swl_n h 50
  refine ⟨by rw [e], ?_⟩
  unfold dq_swu am_ufr
  rw [e]
  exact am_unf_c (fun c hc => (am_gvn_s hm hc).symm)
theorem dq_sws_p {q : Nat × Nat} (h : dq_swp P u n m r = some q) : 0 < (dq_sws P u n m r).1 ∧ (dq_sws P u n m r).1 ≤ 50 := by
  have e : dq_sws P u n m r = _ := am_swl_s (k := 49) h
  refine ⟨?_, am_swl_le 50 _⟩
  rw [e]
  exact Nat.succ_pos _
theorem dq_big_n (hn : n ≤ 12) (hm : m ≤ 5) (hu : am_ur n m u) (h : ¬ (n = 0 ∨ m = 0)) : ∃ q, q ≤ 2000 ∧ dq_big P u n m r = nI q := by
  unfold dq_big
  rw [if_neg h]
  obtain ⟨k, hk, ek⟩ := am_bgp_i hu (by omega) (by omega) hm
  have bl := am_bgs_le u (n - 1)
  obtain ⟨q, hq, e⟩ := am_unf_b (s := am_bga P u n m r) (m := m) (B := 1287) (by omega) (fun c hc => by
    obtain ⟨a, ha, ea⟩ := am_sto_b (own := am_bgw P u n m r) (e := am_ge P u c) (x := nI c) (k := n) (fun i hi => am_ge_c hu hc hi)
    obtain ⟨b, hb, eb⟩ := am_ge_b (P := P) hu hc (show am_bgs u (n - 1) < n by omega) (z := am_bgp u n m) (by rw [ek, am_ti (by omega)]; omega)
    refine ⟨a + b, by omega, ?_⟩
    unfold am_bga am_bg0
    rw [ea, eb, nI_add])
  exact ⟨q, by omega, e⟩
theorem dq_judged (hm : m ≤ 5) {ml : am_ML} (h : dq_row P u n m r n ml) : dq_fns P u n m (fun j => (ml 67 j).toInt32) n r = -2 := by
  refine dq_fns_t n 0 (fun i _ hi => ?_)
  have hi : i < n := by omega
  refine decide_eq_true ⟨hi, ?_⟩
  have e := h i hi
  by_cases h0 : m = 0
  · rw [if_pos h0] at e
    exact Or.inl e
  · rw [if_neg h0] at e
    obtain ⟨c, hc, ec⟩ := am_gvn_p (P := P) (u := u) (r := r) (show 0 < m by omega) i hi
    refine Or.inr ⟨?_, ?_, e.symm⟩
    · show 0 ≤ (ml 67 i).toInt32.toInt
      rw [e, ec, am_ti (by omega)]
      omega
    · show (ml 67 i).toInt32.toInt < m
      rw [e, ec, am_ti (by omega)]
      omega
theorem dq_byw_r (hr : r < 5) {f : Nat → Int32} {l : Nat} (h : dq_fns P u n m f l r = -2) : ¬ (am_shr (dq_byw P u n m f l) (nI r)) &&& 1 = 0 := by
  obtain ⟨e, hk⟩ := dq_bt_e (q := fun r => decide (dq_fns P u n m f l r = -2)) 5 (by omega)
  unfold dq_byw
  rw [e]
  intro w
  have z := (dq_bit5 _ (by omega) r hr).mp w
  rw [dq_btn_t, decide_eq_true hr, decide_eq_true h] at z
  cases z
theorem dq_evo_1 (hm : m < 2) {W : Nat → Nat → Int32} : am_evo m W m = 0 := by
  have q : m = 0 ∨ m = 1 := by omega
  rcases q with e | e <;> subst e
  · rfl
  · show (if W 0 0 ≤ W 0 0 then (0 : Int32) else 0 ||| am_shl 1 (nI 0)) = 0
    rw [if_pos (am_le_i.mpr (Int.le_refl _))]
section LOOPS
variable {S : Int64}
/-- pairs, big -/
theorem dl_441 (hcl : am_lawK K) {mi : am_MI} {ml : am_ML} {l7 l8 l9 : Int32} (hn : n ≤ 12) (hm : m ≤ 5) (h : ¬ (n = 0 ∨ m = 0)) (hK : K 452 [some (.ref 117), some (.ref 0), none, some (.int (nI n)), some (.int (nI m)), some (.long (S)), none, some (.int (l7)), some (.int (l8)), some (.int (l9)), none, none, none, none, none, none, none, none] [] mi ml) : K 441 [some (.ref 117), some (.ref 0), none, some (.int (nI n)), some (.int (nI m)), some (.long (S)), none, some (.int (l7)), some (.int (l8)), some (.int (l9)), none, none, none, none, none, none, none, none] [] mi ml := by
  refine lb_441 hcl ⟨fun w => ?_, fun _ => ⟨fun _ => ⟨fun _ => hK, fun w => absurd rfl w⟩, fun w => ?_⟩⟩
  · have := (nI_eq (b := 0) (by omega) (by omega)).mp w
    omega
  · have := (nI_eq (b := 0) (by omega) (by omega)).mp (Decidable.not_not.mp w)
    omega
theorem dq_bigK {mi : am_MI} {ml : am_ML} {l7 l8 l9 r4 : Int32} (hcl : am_lawK K) (hn : n ≤ 12) (hm : m ≤ 5) (hu : am_ur n m u) (e4 : r4 = dq_big P u n m r) (hK : K 452 [some (.ref 117), some (.ref 0), none, some (.int (nI n)), some (.int (nI m)), some (.long (S)), none, some (.int (l7)), some (.int (l8)), some (.int (l9)), none, none, none, none, none, none, none, none] [] mi ml) :
    ((r4 ≠ (-2 : Int32) → K 441 [some (.ref 117), some (.ref 0), none, some (.int (nI n)), some (.int (nI m)), some (.long (S)), none, some (.int (l7)), some (.int (l8)), some (.int (l9)), none, none, none, none, none, none, none, none] [] mi ml) ∧ (¬ (r4 ≠ (-2 : Int32)) → ((nI n = 0 → (((1 : Int32) = (1 : Int32) → K 452 [some (.ref 117), some (.ref 0), none, some (.int (nI n)), some (.int (nI m)), some (.long (S)), none, some (.int (l7)), some (.int (l8)), some (.int (l9)), none, none, none, none, none, none, none, none] [] mi ml) ∧ (¬ (1 : Int32) = (1 : Int32) → (((0 : Int32) = 0 ∨ (0 : Int32) = 1) ∧ False)))) ∧ (¬ nI n = 0 → ((nI m ≠ 0 → (((1 : Int32) = (0 : Int32) → K 452 [some (.ref 117), some (.ref 0), none, some (.int (nI n)), some (.int (nI m)), some (.long (S)), none, some (.int (l7)), some (.int (l8)), some (.int (l9)), none, none, none, none, none, none, none, none] [] mi ml) ∧ (¬ (1 : Int32) = (0 : Int32) → (((0 : Int32) = 0 ∨ (0 : Int32) = 1) ∧ False)))) ∧ (¬ (nI m ≠ 0) → (((1 : Int32) = (1 : Int32) → K 452 [some (.ref 117), some (.ref 0), none, some (.int (nI n)), some (.int (nI m)), some (.long (S)), none, some (.int (l7)), some (.int (l8)), some (.int (l9)), none, none, none, none, none, none, none, none] [] mi ml) ∧ (¬ (1 : Int32) = (1 : Int32) → (((0 : Int32) = 0 ∨ (0 : Int32) = 1) ∧ False))))))))) := by
  refine ⟨fun w => dl_441 hcl hn hm (fun g => w ?_) hK, fun w => ⟨fun _ => ⟨fun _ => hK, fun w => absurd rfl w⟩, fun w0 => ⟨fun wm => ?_, fun _ => ⟨fun _ => hK, fun w => absurd rfl w⟩⟩⟩⟩
  · rw [e4]
    unfold dq_big
    exact if_pos g
  · exfalso
    have g : ¬ (n = 0 ∨ m = 0) := by
      rintro (g | g)
      · exact w0 (by rw [g]; rfl)
      · exact wm (by rw [g]; rfl)
    obtain ⟨q, hq, e⟩ := dq_big_n (P := P) (r := r) hn hm hu g
    have w := Decidable.not_not.mp w
    rw [e4, e, am_eq_i, am_ti (by omega), am_lm2] at w
    omega
theorem dl_411 (hcl : am_lawK K) {mi : am_MI} {ml : am_ML} {l7 l8 : Int32} (hn : n ≤ 12) (hm : m ≤ 5) (hr : r < 5) (hB : dq_Br P u n m v r n mi ml) (hnext : ∀ mi ml, dq_B P u n m v mi → K 452 [some (.ref 117), some (.ref 0), none, some (.int (nI n)), some (.int (nI m)), some (.long (S)), none, some (.int (l7)), some (.int (l8)), some (.int (nI r)), none, none, none, none, none, none, none, none] [] mi ml) : K 411 [some (.ref 117), some (.ref 0), none, some (.int (nI n)), some (.int (nI m)), some (.long (S)), none, some (.int (l7)), some (.int (l8)), some (.int (nI r)), none, none, none, none, none, none, none, none] [] mi ml := by
  have hu := hB.1.1.1.2.2.2
  obtain ⟨j1, j2⟩ := dq_pro_j (W := am_wwo P u n m r) (m := m) m
  have j1 : 0 ≤ (dq_pr P u n m r).2.toInt := j1
  have nn : ¬ (dq_pr P u n m r).2 < 0 := by
    rw [am_lt_i, am_l0]
    omega
  refine lb_411 hcl (dq_143a hB.1.1 hr rfl (fun m2 k2 q2 => am_ri_i ?_))
  rcases am_pro_g (W := am_wwo P u n m r) (m := m) m (Nat.le_refl _) with ⟨g1, g2⟩ | ⟨a, b, hab, hb, g1, g2⟩
  · have g1 : (dq_pr P u n m r).1 = -2 := g1
    have g2 : (dq_pr P u n m r).2 = 0 := g2
    rw [g1]
    refine ⟨fun w => absurd w (by decide), fun _ => dq_143b q2 hr rfl (fun m3 k3 q3 => am_ri_i ⟨fun w => absurd g2 w, fun _ => ⟨fun w => absurd rfl w, fun _ => dq_143b q3 hr rfl (fun m4 k4 q4 => am_ri_i ⟨fun w => absurd w nn, fun _ => dq_134 q4 hr rfl (fun m5 k5 q5 => am_ri_i ?_)⟩)⟩⟩)⟩
    exact dq_bigK (P := P) (r := r) hcl hn hm hu rfl (hnext m5 ml (dq_B_Z hB.1 (am_kp_t k2 (am_kp_t k3 (am_kp_t k4 k5))) q5))
  · have g1 : (dq_pr P u n m r).1 = nI (10 * a + b) := g1
    have g3 : ¬ (dq_pr P u n m r).2 = 0 := by
      intro w
      rcases j2 with z | z
      · have z : (dq_pr P u n m r).1 = -2 := z
        rw [g1, am_eq_i, am_ti (by omega), am_lm2] at z
        omega
      · have z : 0 < (dq_pr P u n m r).2.toInt := z
        rw [w, am_l0] at z
        omega
    rw [g1]
    refine ⟨fun _ => lb_418 hcl (dq_143b q2 hr rfl (fun m3 k3 q3 => am_ri_i ⟨fun _ => ⟨fun w => absurd rfl w, fun _ => dq_143b q3 hr rfl (fun m4 k4 q4 => am_ri_i ⟨fun w => absurd w nn, fun _ => dq_134 q4 hr rfl (fun m5 k5 q5 => am_ri_i ?_)⟩)⟩, fun w => absurd g3 w⟩)), fun w => absurd (nI_pos' (by omega)) w⟩
    exact dq_bigK (P := P) (r := r) hcl hn hm hu rfl (hnext m5 ml (dq_B_Z hB.1 (am_kp_t k2 (am_kp_t k3 (am_kp_t k4 k5))) q5))
/-- swap, swaps -/
theorem dl_359 (hcl : am_lawK K) {mi : am_MI} {ml : am_ML} {l7 l8 : Int32} (hn : n ≤ 12) (hm : m ≤ 5) (hr : r < 5) (hB : dq_Br P u n m v r n mi ml) (hnext : ∀ mi ml, dq_Br P u n m v r n mi ml → K 411 [some (.ref 117), some (.ref 0), none, some (.int (nI n)), some (.int (nI m)), some (.long (S)), none, some (.int (l7)), some (.int (l8)), some (.int (nI r)), none, none, none, none, none, none, none, none] [] mi ml) : K 359 [some (.ref 117), some (.ref 0), none, some (.int (nI n)), some (.int (nI m)), some (.long (S)), none, some (.int (l7)), some (.int (l8)), some (.int (nI r)), some (.int (am_ufr P u n m r)), none, none, none, none, none, none, none] [] mi ml := by
  have n20 : ¬ (20 : Int32) = 0 := by decide
  have h398 : ∀ mi ml, dq_Br P u n m v r n mi ml → K 398 [some (.ref 117), some (.ref 0), none, some (.int (nI n)), some (.int (nI m)), some (.long (S)), none, some (.int (l7)), some (.int (l8)), some (.int (nI r)), some (.int (am_ufr P u n m r)), none, none, none, none, none, none, none] [] mi ml := by
    intro mi ml hB
    refine lb_398 hcl (dq_133a hB.1.1 hr rfl (fun m2 k2 q2 => am_ri_i ⟨fun _ => hnext m2 ml (dq_Br_Z hB k2 q2), fun w => dq_133b q2 hr rfl (fun m3 k3 q3 => am_ri_i ⟨fun _ => hnext m3 ml (dq_Br_Z hB (am_kp_t k2 k3) q3), fun w2 => absurd ?_ w2⟩)⟩))
    cases e : dq_swp P u n m r with
    | none => exact (dq_swu_e hm e).2
    | some q =>
      obtain ⟨a, b⟩ := dq_sws_p e
      have := (nI_eq (b := 0) (by omega) (by omega)).mp (Decidable.not_not.mp w)
      omega
  refine lb_359 hcl (dq_132 hB.1.1 hr rfl (fun m2 k2 q2 => am_ri_i ?_))
  cases e : dq_swp P u n m r with
  | none =>
    have z := (dq_swu_e (P := P) hm e).1
    refine ⟨fun w => absurd w (by decide), fun _ => dq_133a q2 hr rfl (fun m3 k3 q3 => am_ri_i ⟨fun w => absurd (by rw [z]; rfl) w, fun _ => ⟨fun w => absurd rfl w, fun _ => ⟨fun _ => h398 m3 ml (dq_Br_Z hB (am_kp_t k2 k3) q3), fun w => absurd (by decide) w⟩⟩⟩)⟩
  | some q =>
    obtain ⟨f1, f2, f3⟩ := am_fsi_b (p := am_pls (am_ge P u) (am_gvn P u n m r).1) n 0 (Nat.zero_add _) q e
    obtain ⟨d1, d2, -⟩ := am_dec20 (q := q) (by omega) (by omega)
    obtain ⟨a, b⟩ := dq_sws_p e
    have w0 : nI (dq_sws P u n m r).1 ≠ 0 := fun w => by
      have := (nI_eq (b := 0) (by omega) (by omega)).mp w
      omega
    have p0 : (0 : Int32) ≤ am_enc (some q) := nI_pos' (show 20 * q.1 + q.2 < 2 ^ 31 by omega)
    have n0 : ¬ am_enc (some q) < 0 := nI_pos (show 20 * q.1 + q.2 < 2 ^ 31 by omega)
    have ne : ¬ (am_gvn P u n m r).1 q.1 = (am_gvn P u n m r).1 q.2 := by
      have f3 := of_decide_eq_true f3
      exact f3.1
    refine ⟨fun _ => lb_367 hcl (dq_133a q2 hr rfl (fun m3 k3 q3 => am_ri_i ⟨fun _ => ⟨fun w => absurd rfl w, fun _ => ⟨fun w => absurd w n0, fun _ => ⟨n20, ?_⟩⟩⟩, fun w => absurd w0 w⟩)), fun w => absurd p0 w⟩
    rw [d1, d2, dq_rc]
    refine dq_126 q3 hr (show q.1 < n by omega) rfl (fun m4 k4 q4 => am_ri_i ⟨n20, ?_⟩)
    rw [dq_rc]
    exact dq_126 q4 hr f2 rfl (fun m5 k5 q5 => am_ri_i ⟨fun w => absurd w ne, fun _ => h398 m5 ml (dq_Br_Z hB (am_kp_t k2 (am_kp_t k3 (am_kp_t k4 k5))) q5)⟩)
/-- together, unfair, judged, by what, envy of one -/
theorem dl_314 (hcl : am_lawK K) {mi : am_MI} {ml : am_ML} (hn : n ≤ 12) (hm : m ≤ 5) (hr : r < 5) (hB : dq_Br P u n m v r n mi ml) (hnext : ∀ mi ml, dq_Br P u n m v r n mi ml → K 359 [some (.ref 117), some (.ref 0), none, some (.int (nI n)), some (.int (nI m)), some (.long (S)), none, some (.int (am_ufr P u n m (dq_brl P u n m))), some (.int (dq_fai P u n m (-1))), some (.int (nI r)), some (.int (am_ufr P u n m r)), none, none, none, none, none, none, none] [] mi ml) : K 314 [some (.ref 117), some (.ref 0), none, some (.int (nI n)), some (.int (nI m)), some (.long (S)), none, some (.int (am_ufr P u n m (dq_brl P u n m))), some (.int (dq_fai P u n m (-1))), some (.int (nI r)), some (.int (am_ufr P u n m r)), some (.int (dq_mx (am_gvn P u n m r).2 m)), some (.int (dq_mi (am_gvn P u n m r).2 m)), some (.int (am_tgs (am_gvn P u n m r).2 m)), none, none, none, none] [] mi ml := by
  have hu := hB.1.1.1.2.2.2
  have least := dq_least (P := P) (u := u) (n := n) (m := m) hr
  have h335 : ∀ mi ml, dq_Br P u n m v r n mi ml → K 335 [some (.ref 117), some (.ref 0), none, some (.int (nI n)), some (.int (nI m)), some (.long (S)), none, some (.int (am_ufr P u n m (dq_brl P u n m))), some (.int (dq_fai P u n m (-1))), some (.int (nI r)), some (.int (am_ufr P u n m r)), none, none, none, none, none, none, none] [] mi ml := by
    intro mi ml hB
    have hj := dq_judged (r := r) hm hB.2.2
    refine lb_335 hcl (dq_140 (s := 0) (l := n) (f := fun j => (ml 67 j).toInt32) hB.1.1 (by omega) hB.2.1 (fun j hj => rfl) rfl hr rfl (fun m2 k2 q2 => am_ri_i ⟨fun w => absurd hj w, fun _ => ?_⟩))
    have hB2 := dq_Br_Z hB k2 q2
    refine dq_141 (s := 0) (l := n) (f := fun j => (ml 67 j).toInt32) q2 (by omega) hB2.2.1 (fun j hj => rfl) rfl (fun m3 k3 q3 => am_ri_i ⟨fun w => absurd w (dq_byw_r hr hj), fun _ => ⟨fun _ => hnext m3 ml (dq_Br_Z hB2 k3 q3), fun w => ?_⟩⟩)
    refine dq_128 (t := 2) q3 hr rfl rfl (by omega) (fun m4 k4 q4 => am_ri_i ⟨fun _ => hnext m4 ml (dq_Br_Z hB2 (am_kp_t k3 k4) q4), fun w2 => absurd ?_ w2⟩)
    rw [if_neg (by omega), if_neg (by omega)]
    refine dq_evo_1 ?_
    rcases Nat.lt_or_ge m 2 with g | g
    · exact g
    · exact absurd ((dq_le (a := 2) (by omega) (by omega)).mpr g) w
  have h327 : ∀ mi ml, dq_Br P u n m v r n mi ml → K 327 [some (.ref 117), some (.ref 0), none, some (.int (nI n)), some (.int (nI m)), some (.long (S)), none, some (.int (am_ufr P u n m (dq_brl P u n m))), some (.int (dq_fai P u n m (-1))), some (.int (nI r)), some (.int (am_ufr P u n m r)), none, none, none, none, none, none, none] [] mi ml := by
    intro mi ml hB
    refine lb_327 hcl ⟨fun w => absurd w (by rw [am_lt_i]; omega), fun _ => ⟨fun _ => h335 mi ml hB, fun w => ⟨fun w2 => absurd w2 ?_, fun _ => h335 mi ml hB⟩⟩⟩
    unfold dq_fai at w ⊢
    by_cases g : 8 < n ∨ 3 < m
    · rw [if_pos g] at w
      exact absurd (by decide) w
    · rw [if_neg g] at w ⊢
      by_cases g0 : m = 0
      · rw [if_pos g0] at w
        exact absurd (by decide) w
      · rw [if_neg g0]
        have z := (dq_fair (P := P) (u := u) (n := n) (r := r) hm (show 0 < m by omega)).1
        show ¬ am_ufr P u n m r < am_fU P u n m (am_fB P u n m (m ^ n - 1))
        rw [am_lt_i]
        omega
  refine lb_314 hcl (dq_128 (t := 1) hB.1.1 hr rfl rfl (by omega) (fun m2 k2 q2 => am_ri_i ?_))
  rw [if_neg (show ¬ 1 = 0 by omega), if_pos rfl]
  have hB2 := dq_Br_Z hB k2 q2
  refine ⟨fun w => absurd rfl w, fun _ => ⟨fun _ => h327 m2 ml hB2, fun w => ⟨fun w2 => absurd ?_ w2, fun _ => h327 m2 ml hB2⟩⟩⟩
  exact dq_unf_e hn hm hu (fun g => w (by rw [g]; decide))
/-- the loop over the rules -/
theorem dl_133 (hcl : am_lawK K) (hn : n ≤ 12) (hm : m ≤ 5) (hnext : ∀ mi ml, dq_B P u n m v mi → K 454 [some (.ref 117), some (.ref 0), none, some (.int (nI n)), some (.int (nI m)), some (.long (S)), none, some (.int (am_ufr P u n m (dq_brl P u n m))), some (.int (dq_fai P u n m (-1))), none, none, none, none, none, none, none, none, none] [] mi ml) : ∀ r, r ≤ 5 → ∀ mi ml, dq_B P u n m v mi → K 133 [some (.ref 117), some (.ref 0), none, some (.int (nI n)), some (.int (nI m)), some (.long (S)), none, some (.int (am_ufr P u n m (dq_brl P u n m))), some (.int (dq_fai P u n m (-1))), some (.int (nI r)), none, none, none, none, none, none, none, none] [] mi ml := by
  refine am_for 5 _ (fun mi ml hB => lb_133 hcl (pk_le 5 5 (fun _ => hnext mi ml hB) (fun w => absurd w (by omega)) rfl rfl)) (fun r hr ih mi ml hB => ?_)
  refine lb_133 hcl (pk_le 5 r (fun w => absurd w (by omega)) (fun _ => ?_) rfl rfl)
  refine dq_128 (t := 0) hB.1 hr rfl rfl (by omega) (fun m2 k2 q2 => am_ri_i ?_)
  rw [if_pos rfl]
  have hB2 := dq_B_Z hB k2 q2
  refine dq_157 (s := 0) (l := n) (by omega) rfl (by omega) rfl (fun m3 ml3 k3 e3 hrow => am_ri_i ⟨fun _ => ?_, fun w => absurd rfl w⟩)
  have kO : am_kp dq_FO m2 m3 := fun c j q => k3 c j (decide_eq_false (by have := of_decide_eq_false q; omega))
  have hB3 : dq_B P u n m v m3 := ⟨dq_Q_O q2 kO, dq_V_on hB2.2.1 (k3 1 3 rfl) (k3 15 7 rfl), dq_C_on hB2.2.2.1 (k3 13 1 rfl), dq_D0_on hB2.2.2.2.1 (fun c j h1 h2 => k3 c j (decide_eq_false (by omega))), (k3 15 1 rfl).trans hB2.2.2.2.2⟩
  refine lb_158 hcl (dl_160 hcl hn hm hr (fun mi ml hB => lb_211 hcl (dl_213 hcl hn hm hr (fun mi ml hB => dl_314 hcl hn hm hr hB (fun mi ml hB => dl_359 hcl hn hm hr hB (fun mi ml hB => dl_411 hcl hn hm hr hB (fun mi ml hB => lb_452 hcl ?_)))) 0 (Nat.zero_le _) mi ml hB)) 0 (Nat.zero_le _) m3 ml3 ⟨hB3, hrow, fun j hj => absurd hj (Nat.not_lt_zero _)⟩)
  rw [nI_1]
  exact ih mi ml hB
end LOOPS
end SP81
