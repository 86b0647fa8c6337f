/-! sums of a giving that is tried; pairs: swaps, big -/
def am_F45 : Nat → Nat → Bool := fun c _ => decide (c = 45)
def am_F4445 : Nat → Nat → Bool := fun c _ => decide (c = 44 ∨ c = 45)
def am_F111 : Nat → Nat → Bool := fun c _ => decide (c = 98 ∨ c = 99 ∨ c = 111)
theorem am_sto_s {own e : Nat → Int32} {x : Int32} {k : Nat} : am_sto own e x (k + 1) = am_sto own e x k + (if own k = x then e k else 0) := rfl
def am_swp (w : Nat → Int32) (q : Nat × Nat) : Nat → Int32 := upd (upd w q.1 (w q.2)) q.2 (w q.1)
/-- swaps, one after the other: how many, whose doors are then -/
def am_swl (e : Nat → Nat → Int32) (n : Nat) : Nat → (Nat → Int32) → Nat × (Nat → Int32)
  | 0, w => (0, w)
  | k + 1, w => match am_fsi (am_pls e w) n 0 n with
    | none => (0, w)
    | some q => ((am_swl e n k (am_swp w q)).1 + 1, (am_swl e n k (am_swp w q)).2)
theorem am_swl_n {e : Nat → Nat → Int32} {n : Nat} {w : Nat → Int32} (h : am_fsi (am_pls e w) n 0 n = none) : ∀ k, am_swl e n k w = (0, w)
  | 0 => rfl
  | k + 1 => by
    unfold am_swl
    rw [h]
theorem am_swl_s {e : Nat → Nat → Int32} {n k : Nat} {w : Nat → Int32} {q : Nat × Nat} (h : am_fsi (am_pls e w) n 0 n = some q) : am_swl e n (k + 1) w = ((am_swl e n k (am_swp w q)).1 + 1, (am_swl e n k (am_swp w q)).2) := by
  conv => lhs; unfold am_swl
  rw [h]
theorem am_swl_le {e : Nat → Nat → Int32} {n : Nat} : ∀ k w, (am_swl e n k w).1 ≤ k
  | 0, _ => Nat.le_refl _
  | k + 1, w => by
    cases h : am_fsi (am_pls e w) n 0 n with
    | none =>
      rw [am_swl_n h]
      exact Nat.zero_le _
    | some q =>
      rw [am_swl_s h]
      have := am_swl_le (e := e) (n := n) k (am_swp w q)
      show _ + 1 ≤ _
      omega
theorem am_swp_o {n m : Nat} {w : Nat → Int32} {q : Nat × Nat} (h1 : q.1 < n) (h2 : q.2 < n) (h : ∀ i, i < n → ∃ c, c < m ∧ w i = nI c) : ∀ i, i < n → ∃ c, c < m ∧ am_swp w q i = nI c := fun i hi => by
  unfold am_swp upd
  split
  · exact h _ h1
  · split
    · exact h _ h2
    · exact h i hi
theorem am_own_2 {n m : Nat} {w : Nat → Int32} (h : ∀ i, i < n → ∃ c, c < m ∧ w i = nI c) : am_own n m w := fun i hi => Or.inl (h i hi)
section SP54
variable {d n m : Nat} {u : Nat → Nat → Int32} {mi : am_MI} {ml : am_ML} {R : am_R} {r : Nat} {P : List (List Nat × List Nat)} {Q : Int32 → Int32 → am_MI → am_ML → Prop} {e : Nat → Nat → Int32} {w : Nat → Int32}
/-- sumTried -/
theorem sp_52 (hc : am_cx n m u mi) (he : ∀ c i, c < m → i < n → mi (26 + c) i = e c i) (hw : ∀ i, i < n → mi 44 i = w i) (ho : am_own n m w) (h : ∀ m2, am_kp am_F45 mi m2 → (∀ c, c < m → m2 45 c = am_sto w (e c) (nI c) n) → R none m2 ml) : am_call (d + 2) 52 [.ref 22] mi ml R := by
  have hn := hc.1
  have hm5 := hc.2.1
  have cx : ∀ m2, am_kp am_F45 mi m2 → am_cx n m u m2 := fun m2 k2 => am_cx_on hc (k2 1 1 rfl) (k2 1 2 rfl) (fun w i hw => k2 _ _ (decide_eq_false (by omega)))
  have loop : ∀ v k, k + v = n → ∀ m2, am_kp am_F45 mi m2 → (∀ c, c < m → m2 45 c = am_sto w (e c) (nI c) k) → am_wp (am_call (d + 1)) mt_52 R 6 [some (.ref 22), some (.int (nI k)), none] [] m2 ml := by
    intro v
    induction v with
    | zero =>
      intro k ek m2 k2 h2
      have ek : k = n := ek
      subst ek
      exact bk_52_6 (pk_le _ _ (fun _ => h m2 k2 h2) (fun q => absurd q (Nat.lt_irrefl _)) (cx m2 k2).2.2.1 rfl)
    | succ v ih =>
      intro k ek m2 k2 h2
      have hk : k < n := by omega
      have ih := ih (k + 1) (by omega)
      refine bk_52_6 (pk_le n k (fun q => absurd q (by omega)) (fun _ => ⟨vp_in_nI (by omega) (by omega), ?_⟩) (cx m2 k2).2.2.1 rfl)
      rw [nI_clamp (show k < 2 ^ 31 by omega), k2 44 k rfl, hw k hk, nI_1]
      rcases ho k hk with ⟨a, ha, ea⟩ | ea
      · refine sp_1 (cx m2 k2) (fun _ _ _ => am_ri_i (am_y ?_)) (fun g => ?_)
        · obtain ⟨-, -, -, -, a1, a2⟩ := am_k38 a (by omega)
          rw [ea, nI_clamp (show a < 2 ^ 31 by omega), Nat.one_mul, a1, am_len2 a1, a2]
          refine ⟨vp_in_nI (by omega) (by omega), vp_in_nI (by omega) (by omega), am_need_i rfl ⟨vp_in_nI (by omega) (by omega), vp_in_nI (by omega) (by omega), ?_⟩⟩
          refine ih _ (am_kp_u k2 rfl) (fun c hc2 => ?_)
          rw [am_sto_s, ea]
          by_cases ec : c = a
          · rw [ec, am_ui_k, if_pos rfl, h2 a ha, k2 (26 + a) k (decide_eq_false (by omega)), he a k ha hk]
          · rw [am_ui_n (fun _ z => ec z), if_neg (fun z => ec ((nI_eq (by omega) (by omega)).mp z).symm), h2 c hc2, Int32.add_zero]
        · rw [ea, am_ti (by omega)] at g
          omega
      · refine sp_1 (cx m2 k2) (fun c hc2 ec => ?_) (fun g => am_ri_i (am_n0 (ih m2 k2 (fun c hc2 => ?_))))
        · exfalso
          rw [ea, am_eq_i, am_lm2, am_ti (by omega)] at ec
          omega
        · rw [am_sto_s, ea, if_neg (fun z => by rw [am_eq_i, am_lm2, am_ti (by omega)] at z; omega), h2 c hc2, Int32.add_zero]
  refine bk_52 (sp_275 (x := 45) (y := 0) rfl (by decide) (fun m1 k1 f1 => am_rv_i (loop n 0 (Nat.zero_add _) m1 k1 (fun c hc2 => f1 c ?_))))
  show c < 5
  omega
theorem am_dec20 {q : Nat × Nat} (h1 : q.1 < 12) (h2 : q.2 < 12) : am_enc (some q) / 20 = nI q.1 ∧ am_rem (am_enc (some q)) 20 = nI q.2 ∧ ¬ am_enc (some q) = -2 := by
  have e : am_enc (some q) = nI (20 * q.1 + q.2) := rfl
  rw [e]
  refine ⟨?_, ?_, fun z => ?_⟩
  · rw [show (20 : Int32) = nI 20 from rfl, pk_div (by omega) (by omega) (by omega), show (20 * q.1 + q.2) / 20 = q.1 from by omega]
  · rw [show am_rem (nI (20 * q.1 + q.2)) 20 = nI ((20 * q.1 + q.2) % 20) from pk_rem (d := 20) (by omega) (by omega) (by omega), show (20 * q.1 + q.2) % 20 = q.2 from by omega]
  · rw [am_eq_i, am_lm2, am_ti (by omega)] at z
    omega
theorem am_swp_m {M : am_MI} {a : Nat} {q : Nat × Nat} {w : Nat → Int32} (hw : ∀ i, i < n → M a i = w i) (h1 : q.1 < n) (h2 : q.2 < n) : ∀ i, i < n → am_ui (am_ui M a q.1 (M a q.2)) a q.2 (M a q.1) a i = am_swp w q i := fun i hi => by
  rw [am_upd_f]
  unfold am_swp
  have z : am_ui M a q.1 (M a q.2) a i = upd w q.1 (w q.2) i := by
    rw [am_upd_f]
    unfold upd
    rw [hw _ h2, hw i hi]
  show (if i = q.2 then M a q.1 else am_ui M a q.1 (M a q.2) a i) = (if i = q.2 then w q.1 else upd w q.1 (w q.2) i)
  rw [z, hw _ h1]
/-- swapAll -/
theorem sp_51l (hc : am_cx n m u mi) (he : ∀ c i, c < m → i < n → mi (26 + c) i = e c i) : ∀ k made, made + k = 50 → ∀ (w : Nat → Int32) (x : Int32) (m2 : am_MI), am_kp am_F4445 mi m2 → (∀ i, i < n → m2 44 i = w i) → am_own2 n m w → x = am_enc (am_fsi (am_pls e w) n 0 n) →
    (∀ m3, am_kp am_F4445 mi m3 → (∀ c, c < m → m3 45 c = am_sto (am_swl e n k w).2 (e c) (nI c) n) → R (some (.int (nI (made + (am_swl e n k w).1)))) m3 ml) → am_wp (am_call (d + 4)) mt_51 R 6 [some (.ref 22), none, some (.int x), some (.int (nI made)), none] [] m2 ml := by
  have hn := hc.1
  have cx : ∀ m2, am_kp am_F4445 mi m2 → am_cx n m u m2 := fun m2 k2 => am_cx_on hc (k2 1 1 rfl) (k2 1 2 rfl) (fun w i hw => k2 _ _ (decide_eq_false (by omega)))
  have ex : ∀ m2, am_kp am_F4445 mi m2 → ∀ c i, c < m → i < n → m2 (26 + c) i = e c i := fun m2 k2 c i hc2 hi => (k2 _ _ (decide_eq_false (by have := hc.2.1; omega))).trans (he c i hc2 hi)
  have k45 : ∀ m2 m3, am_kp am_F4445 mi m2 → am_kp am_F45 m2 m3 → am_kp am_F4445 mi m3 := fun m2 m3 k2 k3 => am_kp_t k2 (am_kp_w k3 (fun c j q => by
    have q := of_decide_eq_false q
    exact decide_eq_false (by omega)))
  have oo : ∀ w, am_own2 n m w → am_own n m w := fun w h i hi => by
    rcases h with h | h
    · exact Or.inl (h i hi)
    · exact Or.inr (h i hi)
  intro k
  induction k with
  | zero =>
    intro made em w x m2 k2 hw ho hx h
    have em : made = 50 := em
    subst em
    exact bk_51_6 (pk_le 50 50 (fun _ => sp_52 (cx m2 k2) (ex m2 k2) hw (oo w ho) (fun m3 k3 s3 => am_rv_i (h m3 (k45 m2 m3 k2 k3) s3))) (fun q => absurd q (Nat.lt_irrefl _)) rfl rfl)
  | succ k ih =>
    intro made em w x m2 k2 hw ho hx h
    refine bk_51_6 (pk_le 50 made (fun q => absurd q (by omega)) (fun _ => ?_) rfl rfl)
    cases hq : am_fsi (am_pls e w) n 0 n with
    | none =>
      rw [am_swl_n hq] at h
      rw [hq] at hx
      subst hx
      exact ⟨fun _ => sp_52 (cx m2 k2) (ex m2 k2) hw (oo w ho) (fun m3 k3 s3 => am_rv_i (h m3 (k45 m2 m3 k2 k3) s3)), fun z => absurd rfl z⟩
    | some q =>
      rw [am_swl_s hq] at h
      obtain ⟨b1, b2, b3⟩ := am_fsi_b n 0 (Nat.zero_add _) q hq
      rw [hq] at hx
      subst hx
      obtain ⟨d1, d2, d3⟩ := am_dec20 (q := q) (by omega) (by omega)
      have v1 : vp_in (nI q.1) 12 := vp_in_nI (by omega) (by omega)
      have v2 : vp_in (nI q.2) 12 := vp_in_nI (by omega) (by omega)
      refine ⟨fun z => absurd z d3, fun _ => ?_⟩
      rw [d1, d2, nI_clamp (show q.1 < 2 ^ 31 by omega), nI_clamp (show q.2 < 2 ^ 31 by omega), nI_1]
      have k3 : am_kp am_F4445 mi (am_ui (am_ui m2 44 q.1 (m2 44 q.2)) 44 q.2 (m2 44 q.1)) := am_kp_u (am_kp_u k2 rfl) rfl
      have hw3 := am_swp_m hw (show q.1 < n by omega) b2
      have ho1 : ∀ i, i < n → ∃ c, c < m ∧ w i = nI c := by
        rcases ho with ho | ho
        · exact ho
        · exfalso
          have b3 := of_decide_eq_true b3
          exact b3.1 ((ho _ (by omega)).trans (ho _ b2).symm)
      have ho3 : am_own2 n m (am_swp w q) := Or.inl (am_swp_o (by omega) b2 ho1)
      refine ⟨by decide, v1, by decide, by decide, v2, v1, by decide, v2, sp_49 (cx _ k3) (ex _ k3) hw3 ho3 (am_ri_i ?_)⟩
      refine ih (made + 1) (by omega) _ _ _ k3 hw3 ho3 rfl (fun m4 k4 s4 => ?_)
      have z := h m4 k4 s4
      rw [show made + 1 + (am_swl e n k (am_swp w q)).1 = made + ((am_swl e n k (am_swp w q)).1 + 1) from by omega]
      exact z
theorem am_kV_4445 {a b : am_MI} (h : am_kp am_F4445 a b) : am_kp (am_FV n) a b := am_kp_w h (fun c j q => by
  have q := of_decide_eq_false q
  exact decide_eq_false (by omega))
/-- triedUnfair -/
theorem sp_41 (hc : am_cx n m u mi) (h : R (some (.int (am_unf m (mi 45)))) mi ml) : am_call (d + 2) 41 [.ref 22] mi ml R := bk_41 (sp_43 rfl rfl hc (am_ri_i h))
end SP54
