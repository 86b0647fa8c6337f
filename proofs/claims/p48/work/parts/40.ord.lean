/-! doors by day, children from the eldest: the same insertion on both sides -/
def am_un (f : Nat → Nat) (i v : Nat) : Nat → Nat := fun j => if j = i then v else f j
def am_ins (le : Nat → Nat → Bool) (v : Nat) : Nat → (Nat → Nat) → Nat → Nat
  | 0, f => am_un f 0 v
  | p + 1, f => if le (f p) v = true then am_un f (p + 1) v else am_ins le v p (am_un f (p + 1) (f p))
def am_srt (le : Nat → Nat → Bool) (a : Nat) : Nat → Nat → Nat
  | 0 => fun _ => 0
  | k + 1 => am_ins le (a + k) k (am_srt le a k)
theorem am_un_k {f : Nat → Nat} {i v : Nat} : am_un f i v i = v := if_pos rfl
theorem am_un_n {f : Nat → Nat} {i v j : Nat} (h : ¬ j = i) : am_un f i v j = f j := if_neg h
/-- whatever holds of all that stands there and of the new one holds of all -/
theorem am_ins_a {le : Nat → Nat → Bool} {v : Nat} {W : Nat → Prop} (hv : W v) (k : Nat) : ∀ (p : Nat) (f : Nat → Nat), p ≤ k → (∀ j, j ≤ k → ¬ j = p → W (f j)) → ∀ j, j ≤ k → W (am_ins le v p f j)
  | 0, f, _, h, j, hj => by
    unfold am_ins
    by_cases e : j = 0
    · rw [e, am_un_k]
      exact hv
    · rw [am_un_n e]
      exact h j hj e
  | p + 1, f, hp, h, j, hj => by
    unfold am_ins
    split
    · by_cases e : j = p + 1
      · rw [e, am_un_k]
        exact hv
      · rw [am_un_n e]
        exact h j hj e
    · refine am_ins_a hv k p _ (by omega) (fun i hi e => ?_) j hj
      by_cases e2 : i = p + 1
      · rw [e2, am_un_k]
        exact h p (by omega) (by omega)
      · rw [am_un_n e2]
        exact h i hi e2
/-- none is lost -/
theorem am_ins_s {le : Nat → Nat → Bool} {v : Nat} (k : Nat) : ∀ (p : Nat) (f : Nat → Nat), p ≤ k → (∃ j, j ≤ k ∧ am_ins le v p f j = v) ∧ ∀ i, i ≤ k → ¬ i = p → ∃ j, j ≤ k ∧ am_ins le v p f j = f i
  | 0, f, _ => by
    unfold am_ins
    exact ⟨⟨0, Nat.zero_le _, am_un_k⟩, fun i hi e => ⟨i, hi, am_un_n e⟩⟩
  | p + 1, f, hp => by
    unfold am_ins
    split
    · exact ⟨⟨p + 1, hp, am_un_k⟩, fun i hi e => ⟨i, hi, am_un_n e⟩⟩
    · obtain ⟨a1, a2⟩ := am_ins_s (le := le) (v := v) k p (am_un f (p + 1) (f p)) (by omega)
      refine ⟨a1, fun i hi e => ?_⟩
      by_cases e2 : i = p
      · obtain ⟨j, hj, ej⟩ := a2 (p + 1) hp (by omega)
        rw [am_un_k] at ej
        exact ⟨j, hj, by rw [ej, e2]⟩
      · obtain ⟨j, hj, ej⟩ := a2 i hi e2
        rw [am_un_n e] at ej
        exact ⟨j, hj, ej⟩
theorem am_srt_b (le : Nat → Nat → Bool) (a : Nat) : ∀ k j, j < k → a ≤ am_srt le a k j ∧ am_srt le a k j < a + k
  | 0, _, h => absurd h (Nat.not_lt_zero _)
  | k + 1, j, h => am_ins_a (W := fun x => a ≤ x ∧ x < a + (k + 1)) ⟨by omega, by omega⟩ k k _ (Nat.le_refl _) (fun i hi e => by
      have := am_srt_b le a k i (by omega)
      exact ⟨this.1, by omega⟩) j (by omega)
theorem am_srt_s (le : Nat → Nat → Bool) (a : Nat) : ∀ k d, d < k → ∃ j, j < k ∧ am_srt le a k j = a + d
  | 0, _, h => absurd h (Nat.not_lt_zero _)
  | k + 1, d, h => by
    obtain ⟨⟨j, hj, ej⟩, a2⟩ := am_ins_s (le := le) (v := a + k) k k (am_srt le a k) (Nat.le_refl _)
    by_cases e : d = k
    · exact ⟨j, by omega, by rw [e]; exact ej⟩
    · obtain ⟨i, hi, ei⟩ := am_srt_s le a k d (by omega)
      obtain ⟨j, hj, ej⟩ := a2 i (by omega) (by omega)
      exact ⟨j, by omega, by rw [← ei]; exact ej⟩
/-- days: stays behind one of the same day; ages: behind one as old -/
def am_led (u : Nat → Nat → Int32) (x y : Nat) : Bool := decide (u 0 x ≤ u 0 y)
def am_lea (u : Nat → Nat → Int32) (x y : Nat) : Bool := decide (u 3 y ≤ u 3 x)
section SP40
variable {d n m : Nat} {u : Nat → Nat → Int32} {mi : am_MI} {ml : am_ML} {R : am_R}
theorem am_pm1 {p : Nat} : nI (p + 1) + -1 = nI p := pk_m1 _
theorem am_ps1 {p : Nat} : nI (p + 1) - 1 = nI p := nI_pred _
def am_F23 : Nat → Nat → Bool := fun c _ => decide (c = 23)
def am_F24 : Nat → Nat → Bool := fun c _ => decide (c = 24)
def am_F109 : Nat → Nat → Bool := fun c _ => decide (c = 109)
def am_F112 : Nat → Nat → Bool := fun c _ => decide (c = 112)
/-- orderDoors -/
theorem sp_31 (hc : am_cx n m u mi) (h : ∀ m2, am_kp am_F23 mi m2 → (∀ j, j < n → m2 23 j = nI (am_srt (am_led u) 0 n j)) → R none m2 ml) : am_call (d + 2) 31 [.ref 22] mi ml R := by
  have hn := hc.1
  have hm := hc.2.1
  have cx : ∀ m2, am_kp am_F23 mi m2 → am_cx n m u m2 := fun m2 k2 => am_cx_on hc (k2 1 1 rfl) (k2 1 2 rfl) (fun w i hw => k2 _ _ (decide_eq_false (by omega)))
  have inner : ∀ k, k < n → ∀ p, p ≤ k → ∀ (f : Nat → Nat) (m2 : am_MI), am_kp am_F23 mi m2 → (∀ j, j ≤ k → ¬ j = p → m2 23 j = nI (f j) ∧ f j < n) → (∀ m3, am_kp am_F23 mi m3 → (∀ j, j ≤ k → m3 23 j = nI (am_ins (am_led u) k p f j)) → am_wp (am_call (d + 1)) mt_31 R 2 [some (.ref 22), some (.int (nI (k + 1))), none, none] [] m3 ml) →
      am_wp (am_call (d + 1)) mt_31 R 15 [some (.ref 22), some (.int (nI k)), some (.int (nI p)), some (.int (u 0 k))] [] m2 ml := by
    intro k hk p
    induction p with
    | zero =>
      intro hp f m2 k2 hf hh
      refine bk_31_15 ⟨fun _ => ⟨am_vp (by decide) (by decide), ?_⟩, fun w => absurd (by decide) w⟩
      rw [show (nI 0).toNatClampNeg = 0 from rfl, nI_1]
      refine hh _ (am_kp_u k2 rfl) (fun j hj => ?_)
      unfold am_ins
      by_cases e : j = 0
      · rw [e, am_un_k]
        exact am_ui_k
      · rw [am_un_n e, am_ui_n (fun _ w => e w)]
        exact (hf j hj e).1
    | succ p ih =>
      intro hp f m2 k2 hf hh
      have z := hf p (by omega) (by omega)
      have vp : vp_in (nI (p + 1)) 12 := vp_in_nI (by omega) (by omega)
      have put : am_led u (f p) k = true → am_wp (am_call (d + 1)) mt_31 R 2 [some (.ref 22), some (.int (nI k + 1)), none, none] [] (am_ui m2 23 (nI (p + 1)).toNatClampNeg (nI k)) ml := by
        intro g
        rw [nI_clamp (by omega), nI_1]
        refine hh _ (am_kp_u k2 rfl) (fun j hj => ?_)
        unfold am_ins
        rw [if_pos g]
        by_cases e : j = p + 1
        · rw [e, am_un_k, am_ui_k]
        · rw [am_un_n e, am_ui_n (fun _ w => e w)]
          exact (hf j hj e).1
      refine bk_31_15 ⟨fun w => ?_, fun _ => ?_⟩
      · exfalso
        rw [am_le_i, am_ti (by omega), am_l0] at w
        omega
      · rw [am_ps1, am_pm1, nI_clamp (show p < 2 ^ 31 by omega), z.1]
        refine ⟨vp_in_nI (by omega) (by omega), sp_4c (cx m2 k2) (w := 0) rfl rfl (am_vd (by omega) z.2) (am_ri_i ⟨fun g => ⟨vp, put ?_⟩, fun g => ⟨vp_in_nI (by omega) (by omega), vp, ?_⟩⟩)⟩
        · unfold am_led
          exact decide_eq_true g
        · rw [z.1, nI_clamp (show p + 1 < 2 ^ 31 by omega)]
          refine ih (by omega) (am_un f (p + 1) (f p)) _ (am_kp_u k2 rfl) (fun j hj e => ?_) (fun m3 k3 h3 => hh m3 k3 (fun j hj => ?_))
          · by_cases e2 : j = p + 1
            · rw [e2, am_un_k, am_ui_k]
              exact ⟨rfl, z.2⟩
            · rw [am_un_n e2, am_ui_n (fun _ w => e2 w)]
              exact hf j hj e2
          · rw [h3 j hj]
            congr 1
            show _ = (if am_led u (f p) k = true then am_un f (p + 1) k else am_ins (am_led u) k p (am_un f (p + 1) (f p))) j
            rw [if_neg (show ¬ am_led u (f p) k = true from fun q => g (of_decide_eq_true q))]
  have loop : ∀ r k, k + r = n → ∀ m2, am_kp am_F23 mi m2 → (∀ j, j < k → m2 23 j = nI (am_srt (am_led u) 0 k j)) → am_wp (am_call (d + 1)) mt_31 R 2 [some (.ref 22), some (.int (nI k)), none, none] [] m2 ml := by
    intro r
    induction r with
    | zero =>
      intro k e m2 k2 h2
      have e : k = n := e
      subst e
      have hc2 := cx m2 k2
      exact bk_31_2 (pk_le _ _ (fun _ => h m2 k2 h2) (fun w => absurd w (Nat.lt_irrefl _)) hc2.2.2.1 rfl)
    | succ r ih =>
      intro k e m2 k2 h2
      have hc2 := cx m2 k2
      refine bk_31_2 (pk_le n k (fun w => absurd w (by omega)) (fun hk => sp_4c hc2 (w := 0) rfl rfl (am_vd (by omega) hk) (am_ri_i ?_)) hc2.2.2.1 rfl)
      refine inner k hk k (Nat.le_refl _) (am_srt (am_led u) 0 k) m2 k2 (fun j hj e2 => ⟨h2 j (by omega), ?_⟩) (fun m3 k3 h3 => ih (k + 1) (by omega) m3 k3 (fun j hj => ?_))
      · have := (am_srt_b (am_led u) 0 k j (by omega)).2
        omega
      · rw [h3 j (by omega)]
        show _ = nI (am_ins (am_led u) (0 + k) k (am_srt (am_led u) 0 k) j)
        rw [Nat.zero_add]
  exact bk_31 (loop n 0 (Nat.zero_add _) mi am_kp_r (fun j hj => absurd hj (Nat.not_lt_zero _)))
/-- orderChildren -/
theorem sp_32 (hc : am_cx n m u mi) (h : ∀ m2, am_kp am_F24 mi m2 → (∀ j, j < m → m2 24 j = nI (am_srt (am_lea u) 0 m j)) → R none m2 ml) : am_call (d + 2) 32 [.ref 22] mi ml R := by
  have hn := hc.1
  have hm := hc.2.1
  have cx : ∀ m2, am_kp am_F24 mi m2 → am_cx n m u m2 := fun m2 k2 => am_cx_on hc (k2 1 1 rfl) (k2 1 2 rfl) (fun w i hw => k2 _ _ (decide_eq_false (by omega)))
  have inner : ∀ k, k < m → ∀ p, p ≤ k → ∀ (f : Nat → Nat) (m2 : am_MI), am_kp am_F24 mi m2 → (∀ j, j ≤ k → ¬ j = p → m2 24 j = nI (f j) ∧ f j < m) → (∀ m3, am_kp am_F24 mi m3 → (∀ j, j ≤ k → m3 24 j = nI (am_ins (am_lea u) k p f j)) → am_wp (am_call (d + 1)) mt_32 R 2 [some (.ref 22), some (.int (nI (k + 1))), none, none] [] m3 ml) →
      am_wp (am_call (d + 1)) mt_32 R 15 [some (.ref 22), some (.int (nI k)), some (.int (nI p)), some (.int (u 3 k))] [] m2 ml := by
    intro k hk p
    induction p with
    | zero =>
      intro hp f m2 k2 hf hh
      refine bk_32_15 ⟨fun _ => ⟨am_vp (by decide) (by decide), ?_⟩, fun w => absurd (by decide) w⟩
      rw [show (nI 0).toNatClampNeg = 0 from rfl, nI_1]
      refine hh _ (am_kp_u k2 rfl) (fun j hj => ?_)
      unfold am_ins
      by_cases e : j = 0
      · rw [e, am_un_k]
        exact am_ui_k
      · rw [am_un_n e, am_ui_n (fun _ w => e w)]
        exact (hf j hj e).1
    | succ p ih =>
      intro hp f m2 k2 hf hh
      have z := hf p (by omega) (by omega)
      have vp : vp_in (nI (p + 1)) 5 := vp_in_nI (by omega) (by omega)
      have put : am_lea u (f p) k = true → am_wp (am_call (d + 1)) mt_32 R 2 [some (.ref 22), some (.int (nI k + 1)), none, none] [] (am_ui m2 24 (nI (p + 1)).toNatClampNeg (nI k)) ml := by
        intro g
        rw [nI_clamp (by omega), nI_1]
        refine hh _ (am_kp_u k2 rfl) (fun j hj => ?_)
        unfold am_ins
        rw [if_pos g]
        by_cases e : j = p + 1
        · rw [e, am_un_k, am_ui_k]
        · rw [am_un_n e, am_ui_n (fun _ w => e w)]
          exact (hf j hj e).1
      refine bk_32_15 ⟨fun w => ?_, fun _ => ?_⟩
      · exfalso
        rw [am_le_i, am_ti (by omega), am_l0] at w
        omega
      · rw [am_ps1, am_pm1, nI_clamp (show p < 2 ^ 31 by omega), z.1]
        refine ⟨vp_in_nI (by omega) (by omega), sp_4c (cx m2 k2) (w := 3) rfl rfl (am_vc (by omega) (by omega) z.2) (am_ri_i ⟨fun g => ⟨vp, put ?_⟩, fun g => ⟨vp_in_nI (by omega) (by omega), vp, ?_⟩⟩)⟩
        · unfold am_lea
          exact decide_eq_true g
        · rw [z.1, nI_clamp (show p + 1 < 2 ^ 31 by omega)]
          refine ih (by omega) (am_un f (p + 1) (f p)) _ (am_kp_u k2 rfl) (fun j hj e => ?_) (fun m3 k3 h3 => hh m3 k3 (fun j hj => ?_))
          · by_cases e2 : j = p + 1
            · rw [e2, am_un_k, am_ui_k]
              exact ⟨rfl, z.2⟩
            · rw [am_un_n e2, am_ui_n (fun _ w => e2 w)]
              exact hf j hj e2
          · rw [h3 j hj]
            congr 1
            show _ = (if am_lea u (f p) k = true then am_un f (p + 1) k else am_ins (am_lea u) k p (am_un f (p + 1) (f p))) j
            rw [if_neg (show ¬ am_lea u (f p) k = true from fun q => g (of_decide_eq_true q))]
  have loop : ∀ r k, k + r = m → ∀ m2, am_kp am_F24 mi m2 → (∀ j, j < k → m2 24 j = nI (am_srt (am_lea u) 0 k j)) → am_wp (am_call (d + 1)) mt_32 R 2 [some (.ref 22), some (.int (nI k)), none, none] [] m2 ml := by
    intro r
    induction r with
    | zero =>
      intro k e m2 k2 h2
      have e : k = m := e
      subst e
      have hc2 := cx m2 k2
      exact bk_32_2 (pk_le _ _ (fun _ => h m2 k2 h2) (fun w => absurd w (Nat.lt_irrefl _)) hc2.2.2.2.1 rfl)
    | succ r ih =>
      intro k e m2 k2 h2
      have hc2 := cx m2 k2
      refine bk_32_2 (pk_le m k (fun w => absurd w (by omega)) (fun hk => sp_4c hc2 (w := 3) rfl rfl (am_vc (by omega) (by omega) hk) (am_ri_i ?_)) hc2.2.2.2.1 rfl)
      refine inner k hk k (Nat.le_refl _) (am_srt (am_lea u) 0 k) m2 k2 (fun j hj e2 => ⟨h2 j (by omega), ?_⟩) (fun m3 k3 h3 => ih (k + 1) (by omega) m3 k3 (fun j hj => ?_))
      · have := (am_srt_b (am_lea u) 0 k j (by omega)).2
        omega
      · rw [h3 j (by omega)]
        show _ = nI (am_ins (am_lea u) (0 + k) k (am_srt (am_lea u) 0 k) j)
        rw [Nat.zero_add]
  exact bk_32 (loop m 0 (Nat.zero_add _) mi am_kp_r (fun j hj => absurd hj (Nat.not_lt_zero _)))
end SP40
