/-! the law's run: at five, guards; what is mended undone -/
section SP83
variable {K : am_K} {n m r v : Nat} {u : Nat → Nat → Int32} {R : am_R} {P : List (List Nat × List Nat)}
/-- the only one, among few -/
theorem dq_onl {k m : Nat} (hm : m ≤ 5) (hk : k < 2 ^ m) : (am_bc (nI k) = 1 → ∃ c, c < 5 ∧ nI k = am_shl 1 (nI c) ∧ am_onl (nI k) m 0 = nI c) ∧ (¬ am_bc (nI k) = 1 → am_onl (nI k) m 0 = -2) := by
  obtain ⟨a, b⟩ := am_onl_d m hm k hk
  have d5 : ∀ c, c < 5 → nI (2 ^ c) = am_shl 1 (nI c) := by decide
  refine ⟨fun w => ?_, b⟩
  obtain ⟨c, hc, e1, e2⟩ := a w
  exact ⟨c, hc, by rw [e1]; exact d5 c hc, e2⟩
theorem dl_525 (hcl : am_lawK K) {S : Int64} (hn : n ≤ 12) (hm : m ≤ 5) (hnext : ∀ mi ml, dq_B P u n m v mi → K 651 [some (.ref 117), some (.ref 0), none, some (.int (nI n)), some (.int (nI m)), some (.long (S)), none, none, none, none, none, none, none, none, none, none, none, none] [] mi ml) : ∀ k, k ≤ 5 → ∀ mi ml, dq_B P u n m v mi → K 525 [some (.ref 117), some (.ref 0), none, some (.int (nI n)), some (.int (nI m)), some (.long (S)), none, none, none, some (.int (nI (1 + 5 * k))), none, none, none, none, none, none, none, none] [] mi ml := by
  refine am_for 5 _ (fun mi ml hB => lb_525 hcl (pk_le 25 26 (fun _ => hnext mi ml hB) (fun w => absurd w (by omega)) rfl rfl)) (fun k hk ih mi ml hB => ?_)
  refine lb_525 hcl (pk_le 25 (1 + 5 * k) (fun w => absurd w (by omega)) (fun _ => ?_) rfl rfl)
  have h649 : ∀ mi ml, dq_B P u n m v mi → K 649 [some (.ref 117), some (.ref 0), none, some (.int (nI n)), some (.int (nI m)), some (.long (S)), none, none, none, some (.int (nI (1 + 5 * k))), none, none, none, none, none, none, none, none] [] mi ml := by
    intro mi ml hB
    refine lb_649 hcl ?_
    rw [show (5 : Int32) = nI 5 from rfl, nI_add, show 1 + 5 * k + 5 = 1 + 5 * (k + 1) by omega]
    exact ih mi ml hB
  -- behind the row
  have h554 : ∀ mi ml, dq_B5 P u n m v n mi ml → K 554 [some (.ref 117), some (.ref 0), none, some (.int (nI n)), some (.int (nI m)), some (.long (S)), none, none, none, some (.int (nI (1 + 5 * k))), none, none, none, none, none, none, none, none] [] mi ml := by
    intro mi ml hB
    obtain ⟨w, hw, ew⟩ := dq_who_k (P := P) (u := u) (n := n) (r := 0) (f := fun j => (ml 69 j).toInt32) (l := n) (z := nI (1 + 5 * k)) hm
    obtain ⟨o1, o2⟩ := dq_onl hm hw
    have w32 : w < 32 := Nat.lt_of_lt_of_le hw (Nat.le_trans (Nat.pow_le_pow_right (by omega) hm) (by decide))
    have h615 : ∀ mi2, am_kp (am_FZ n) mi mi2 → dq_Q P u n m mi2 → K 615 [some (.ref 117), some (.ref 0), none, some (.int (nI n)), some (.int (nI m)), some (.long (S)), none, none, none, some (.int (nI (1 + 5 * k))), some (.int (nI w)), none, none, none, none, none, none, none] [] mi2 ml := by
      intro m2 k2 q2
      have hB2 := dq_B5_Z hB k2 q2
      refine lb_615 hcl (dq_139 (s := 1) (l := n) (f := fun j => (ml 69 j).toInt32) (k := 1 + 5 * k) (r := 0) (t := 0) q2 (by omega) hB2.2.1 (fun j hj => rfl) rfl (by omega) (by omega) rfl (by omega) rfl (by omega) rfl (fun m3 k3 q3 => am_ri_i ?_))
      have hB3 := dq_B5_Z hB2 k3 q3
      by_cases m0 : m = 0
      · rw [if_pos m0]
        exact ⟨fun _ => h649 m3 ml hB3.1, fun w => absurd (by decide) w⟩
      · rw [if_neg m0, if_pos rfl, ew]
        have gl := am_grd_le (nI w) (m - 1)
        refine ⟨fun w => absurd w (dq_p (by omega)), fun _ => dq_139 (s := 1) (l := n) (f := fun j => (ml 69 j).toInt32) (k := 1 + 5 * k) (r := 0) (t := 1) q3 (by omega) hB3.2.1 (fun j hj => rfl) rfl (by omega) (by omega) rfl (by omega) rfl (by omega) rfl (fun m4 k4 q4 => am_ri_i (sp_273 (am_ri_i ?_)))⟩
        rw [if_neg m0, if_neg (show ¬ 1 = 0 by omega), ew]
        have hB4 := dq_B5_Z hB3 k4 q4
        refine ⟨fun w => absurd rfl w, fun _ => ⟨fun _ => h649 m4 ml hB4.1, fun w0 => ⟨fun _ => h649 m4 ml hB4.1, fun w2 => absurd ?_ w2⟩⟩⟩
        exact dq_grd_in m (by omega) (by omega) w hw (fun z => w0 (by rw [z]; rfl))
    have h597 : ∀ mi2, am_kp (am_FZ n) mi mi2 → dq_Q P u n m mi2 → K 597 [some (.ref 117), some (.ref 0), none, some (.int (nI n)), some (.int (nI m)), some (.long (S)), none, none, none, some (.int (nI (1 + 5 * k))), some (.int (nI w)), none, none, none, none, none, none, none] [] mi2 ml := by
      intro m2 k2 q2
      have hB2 := dq_B5_Z hB k2 q2
      refine lb_597 hcl (dq_139 (s := 1) (l := n) (f := fun j => (ml 69 j).toInt32) (k := 1 + 5 * k) (r := 0) (t := 0) q2 (by omega) hB2.2.1 (fun j hj => rfl) rfl (by omega) (by omega) rfl (by omega) rfl (by omega) rfl (fun m3 k3 q3 => am_ri_i ?_))
      have z := h615 m3 (am_kp_t k2 k3) q3
      by_cases m0 : m = 0
      · rw [if_pos m0]
        refine ⟨fun w => absurd w (by decide), fun _ => ⟨fun w => absurd (by rw [m0]; rfl) w, fun _ => ⟨fun _ => z, fun w => absurd rfl w⟩⟩⟩
      · rw [if_neg m0, if_pos rfl]
        have gl := am_grd_le (dq_who P u n m 0 (fun j => (ml 69 j).toInt32) n (nI (1 + 5 * k))) (m - 1)
        have mne : nI m ≠ 0 := fun w => m0 ((nI_eq (b := 0) (by omega) (by omega)).mp w)
        refine ⟨fun _ => lb_606 hcl ⟨fun _ => ⟨fun _ => z, fun w => absurd rfl w⟩, fun w => absurd mne w⟩, fun w => absurd (nI_pos' (by omega)) w⟩
    have h588 : ∀ mi2, am_kp (am_FZ n) mi mi2 → dq_Q P u n m mi2 → K 588 [some (.ref 117), some (.ref 0), none, some (.int (nI n)), some (.int (nI m)), some (.long (S)), none, none, none, some (.int (nI (1 + 5 * k))), some (.int (nI w)), none, none, none, none, none, none, none] [] mi2 ml := by
      intro m2 k2 q2
      have hB2 := dq_B5_Z hB k2 q2
      refine lb_588 hcl (dq_138 (s := 1) (l := n) (f := fun j => (ml 69 j).toInt32) (k := 1 + 5 * k) (r := 0) (t := 0) q2 (by omega) hB2.2.1 (fun j hj => rfl) rfl (by omega) (by omega) rfl (by omega) rfl (by omega) rfl (fun m3 k3 q3 => am_ri_i ?_))
      rw [if_pos rfl]
      have z := h597 m3 (am_kp_t k2 k3) q3
      refine ⟨fun _ => z, fun w0 => ⟨fun w1 => absurd ?_ w1, fun _ => z⟩⟩
      rw [← ew]
      exact dq_who_0 hn (fun j hj => hB.2.2 j hj) (Decidable.not_not.mp w0)
    refine lb_554 hcl (dq_138 (s := 1) (l := n) (f := fun j => (ml 69 j).toInt32) (k := 1 + 5 * k) (r := 0) (t := 1) hB.1.1 (by omega) hB.2.1 (fun j hj => rfl) rfl (by omega) (by omega) rfl (by omega) rfl (by omega) rfl (fun m2 k2 q2 => am_ri_i ?_))
    rw [if_neg (show ¬ 1 = 0 by omega), if_pos rfl, ew]
    have hB2 := dq_B5_Z hB k2 q2
    refine dq_138 (s := 1) (l := n) (f := fun j => (ml 69 j).toInt32) (k := 1 + 5 * k) (r := 0) (t := 2) q2 (by omega) hB2.2.1 (fun j hj => rfl) rfl (by omega) (by omega) rfl (by omega) rfl (by omega) rfl (fun m3 k3 q3 => am_ri_i ?_)
    rw [if_neg (show ¬ 2 = 0 by omega), if_neg (show ¬ 2 = 1 by omega), ew]
    have z := h588 m3 (am_kp_t k2 k3) q3
    by_cases one : am_bc (nI w) = 1
    · obtain ⟨c, hc, e1, e2⟩ := o1 one
      rw [e2]
      have nneg : ¬ nI c < 0 := dq_p (by omega)
      refine ⟨fun w => absurd w nneg, fun _ => sp_273 (am_ri_i ?_)⟩
      rw [one]
      exact ⟨fun w => absurd rfl w, fun _ => ⟨fun w => absurd rfl w, fun _ => ⟨fun w => absurd w nneg, fun _ => ⟨fun w => absurd e1 w, fun _ => z⟩⟩⟩⟩
    · rw [o2 one]
      refine ⟨fun _ => lb_572 hcl (sp_273 (am_ri_i ⟨fun _ => ⟨fun w => absurd rfl w, fun _ => ⟨fun _ => z, fun w => absurd (by decide) w⟩⟩, fun w => absurd (Decidable.not_not.mp w) one⟩)), fun w => absurd (by decide) w⟩
  -- the row
  have h539 : ∀ d, d ≤ n → ∀ mi ml, dq_B5 P u n m v d mi ml → K 539 [some (.ref 117), some (.ref 0), none, some (.int (nI n)), some (.int (nI m)), some (.long (S)), none, none, none, some (.int (nI (1 + 5 * k))), some (.int (nI d)), none, none, none, none, none, none, none] [] mi ml := by
    refine am_for n _ (fun mi ml hB => lb_539 hcl (pk_le n n (fun _ => h554 mi ml hB) (fun w => absurd w (by omega)) rfl rfl)) (fun d hd it mi ml hB => ?_)
    refine lb_539 hcl (pk_le n d (fun w => absurd w (by omega)) (fun _ => ?_) rfl rfl)
    refine dq_158 (s := 1) (j := d) (by omega) hB.2.1 rfl hd rfl (am_ri_i ⟨fun _ => lb_552 hcl ?_, fun w => absurd rfl w⟩)
    rw [nI_1]
    refine it mi _ ⟨hB.1, hB.2.1, fun j hj => ?_⟩
    by_cases ej : j = d
    · subst ej
      show (am_ul ml 69 j (am_low 0 (nI j).toInt64) 69 j).toInt32 = _
      unfold am_ul
      rw [if_pos ⟨rfl, rfl⟩]
      exact dq_low j (by omega)
    · show (am_ul ml 69 d (am_low 0 (nI d).toInt64) 69 j).toInt32 = _
      unfold am_ul
      rw [if_neg (fun w => ej w.2)]
      exact hB.2.2 j (by omega)
  refine dq_157 (s := 1) (l := n) (by omega) rfl (by omega) rfl (fun m3 ml3 k3 e3 hrow => am_ri_i ⟨fun _ => lb_537 hcl ?_, fun w => absurd rfl w⟩)
  have hB3 : dq_B P u n m v m3 := dq_B_O hB k3 (fun c j g => by
    have g := of_decide_eq_true g
    exact ⟨decide_eq_true (by omega), by omega, by omega⟩) ((k3 15 1 rfl).trans hB.2.2.2.2)
  exact h539 0 (Nat.zero_le _) m3 ml3 ⟨hB3, hrow, fun j hj => absurd hj (Nat.not_lt_zero _)⟩
end SP83
