/-! both sides at once; how much it can be; pair: bestRule -/
/-- the law, the calendar, its numbers in range -/
def am_X (P : List (List Nat × List Nat)) (u : Nat → Nat → Int32) (n m : Nat) (mi : am_MI) : Prop := am_lwr P mi ∧ am_cx n m u mi ∧ True ∧ am_ur n m u
/-- what asking may change: places of work on both sides -/
def am_FV (n : Nat) : Nat → Nat → Bool := fun c j => decide (c = 19 ∨ c = 21 ∨ (c = 15 ∧ j = 9) ∨ (c = 22 ∧ (j = 2 ∨ j = 12)) ∨ (23 ≤ c ∧ c ≤ 46) ∨ c = 98 ∨ c = 99 ∨ (109 ≤ c ∧ c ≤ 113) ∨ (79 ≤ c ∧ c ≤ 81 ∧ n ≤ j))
/-- whole numbers -/
theorem am_cl0 {w : Int32} (h : w.toInt ≤ 99) : ∃ k, k ≤ 99 ∧ am_max 0 w = nI k := by
  unfold am_max
  split
  · rename_i g
    rw [am_lt_i, am_l0] at g
    obtain ⟨k, hk, e⟩ := am_nat (x := w) (n := 100) (by omega) (by omega)
    exact ⟨k, by omega, e⟩
  · exact ⟨0, by omega, rfl⟩
theorem am_cl99 {w : Int32} : (am_min 99 w).toInt ≤ 99 := by
  unfold am_min
  split
  · rename_i g
    rw [am_lt_i, am_l99] at g
    omega
  · exact Int.le_refl _
theorem am_sm_b {F : Nat → Int32} {B : Nat} : ∀ k, (∀ j, j < k → ∃ q, q ≤ B ∧ F j = nI q) → ∃ q, q ≤ k * B ∧ am_sm F k = nI q
  | 0, _ => ⟨0, Nat.zero_le _, rfl⟩
  | k + 1, h => by
    obtain ⟨q, hq, e⟩ := am_sm_b k (fun j hj => h j (by omega))
    obtain ⟨p, hp, f⟩ := h k (by omega)
    refine ⟨q + p, ?_, ?_⟩
    · rw [Nat.add_mul, Nat.one_mul]
      omega
    · show am_sm F k + F k = _
      rw [e, f, nI_add]
theorem am_mxs_b {s : Nat → Int32} {m B : Nat} (hB : B < 2 ^ 30) (h : ∀ c, c < m → ∃ q, q ≤ B ∧ s c = nI q) : ∀ k, k < m → ∃ p q, p ≤ q ∧ q ≤ B ∧ am_mxs s k = nI q ∧ am_mns s k = nI p
  | 0, hk => by
    obtain ⟨q, hq, e⟩ := h 0 hk
    exact ⟨q, q, Nat.le_refl _, hq, e, e⟩
  | k + 1, hk => by
    obtain ⟨p, q, hpq, hq, e, f⟩ := am_mxs_b hB h k (by omega)
    obtain ⟨r, hr, g⟩ := h (k + 1) hk
    unfold am_mxs am_mns
    rw [e, f, g]
    unfold am_max am_min
    have ia : nI q < nI r ↔ q < r := nI_ltI (by omega) (by omega)
    have ib : nI r < nI p ↔ r < p := nI_ltI (by omega) (by omega)
    by_cases a : nI q < nI r
    · have a2 := ia.mp a
      rw [if_pos a, if_neg (fun z => by have := ib.mp z; omega)]
      exact ⟨p, r, by omega, hr, rfl, rfl⟩
    · have a2 : ¬ q < r := fun z => a (ia.mpr z)
      rw [if_neg a]
      by_cases b : nI r < nI p
      · have b2 := ib.mp b
        rw [if_pos b]
        exact ⟨r, q, by omega, hq, rfl, rfl⟩
      · rw [if_neg b]
        exact ⟨p, q, hpq, hq, rfl, rfl⟩
theorem am_unf_b {s : Nat → Int32} {m B : Nat} (hB : B < 2 ^ 30) (h : ∀ c, c < m → ∃ q, q ≤ B ∧ s c = nI q) : ∃ q, q ≤ B ∧ am_unf m s = nI q := by
  unfold am_unf
  by_cases e : m = 0
  · rw [if_pos e]
    exact ⟨0, Nat.zero_le _, rfl⟩
  · rw [if_neg e]
    obtain ⟨p, q, hpq, hq, e1, e2⟩ := am_mxs_b hB h (m - 1) (by omega)
    rw [e1, e2, pk_sub hpq]
    exact ⟨q - p, by omega, rfl⟩
section SP52
variable {d n m : Nat} {u : Nat → Nat → Int32} {mi : am_MI} {ml : am_ML} {R : am_R} {r : Nat} {P : List (List Nat × List Nat)} {Q : Int32 → Int32 → am_MI → am_ML → Prop}
theorem am_X_V {a b : am_MI} (h : am_X P u n m a) (hk : am_kp (am_FV n) a b) : am_X P u n m b := by
  obtain ⟨h1, h2, h3, h4⟩ := h
  exact ⟨am_lwr_on h1 (hk _ _ rfl) (hk _ _ rfl) (hk _ _ rfl) (fun j => hk _ _ rfl) (fun c j q1 q2 => hk _ _ (decide_eq_false (by omega))) (hk _ _ rfl) (fun j => hk _ _ rfl), am_cx_on h2 (hk 1 1 rfl) (hk 1 2 rfl) (fun w i hw => hk _ _ (decide_eq_false (by omega))), trivial, h4⟩
theorem am_kV_X {a b : am_MI} (h : am_kp am_FX a b) : am_kp (am_FV n) a b := am_kp_w h (fun c j q => by
  have q := of_decide_eq_false q
  exact decide_eq_false (by omega))
theorem am_kV_G {a b : am_MI} (h : am_kp am_FG a b) : am_kp (am_FV n) a b := am_kp_w h (fun c j q => by
  have q := of_decide_eq_false q
  exact decide_eq_false (by omega))
theorem am_kV_M {a b : am_MI} (h : am_kp am_F98b a b) : am_kp (am_FV n) a b := am_kp_w h (fun c j q => by
  have q := of_decide_eq_false q
  exact decide_eq_false (by omega))
theorem am_kV_W {a b : am_MI} (h : am_kp am_FW a b) : am_kp (am_FV n) a b := am_kp_w h (fun c j q => by
  have q := of_decide_eq_false q
  exact decide_eq_false (by omega))
/-- fresh, with all that stands -/
theorem am_frs (hX : am_X P u n m mi) (hv : am_fvn P u n m mi) (h : ∀ m2, am_kp am_FX mi m2 → am_X P u n m m2 → am_fre P u n m m2 → R (some (.ref 22)) m2 ml) : am_call (d + 10) 166 [.ref 0] mi ml R :=
  sp_166 hX.1 hX.2.1 hX.2.2.2 hv (fun m2 k2 f2 => h m2 k2 (am_X_V hX (am_kV_X k2)) f2)
theorem am_fvn_i {a b : am_MI} (hX : am_X P u n m a) (hf : am_fre P u n m a) (he : am_sfr a b) : am_fvn P u n m b := Or.inl (am_fre_on hX.2.1.2.1 hf he)
/-- what a door is worth, as it is eaten -/
theorem am_ge_b (hu : am_ur n m u) {a b : Nat} (ha : a < m) (hb : b < n) {z : Int32} (hz : 0 ≤ z.toInt ∧ z.toInt ≤ 9) : ∃ k, k ≤ 99 ∧ am_ea P u a b z = nI k := by
  unfold am_ea
  split
  · exact ⟨0, by omega, rfl⟩
  · split
    · exact ⟨0, by omega, rfl⟩
    · unfold am_wo
      split
      · refine am_cl0 ?_
        obtain ⟨k9, -, h9, e9⟩ := hu 9 0 (am_vs (by omega) (by omega))
        have h9 : k9 ≤ 9 := h9
        obtain ⟨kz, hz1, ez⟩ := am_nat (x := z) (n := 10) hz.1 (by omega)
        have l1 : ∃ q, q ≤ 1 ∧ am_lik u a b = nI q := by
          unfold am_lik
          split
          · exact ⟨1, by omega, rfl⟩
          · exact ⟨0, by omega, rfl⟩
        obtain ⟨q, hq, el⟩ := l1
        have lt : ∃ t, t ≤ 24 ∧ am_lat u a b = nI t := by
          unfold am_lat
          split
          · rename_i g
            obtain ⟨k7, -, h7, e7⟩ := hu 7 a (am_vc (by omega) (by omega) ha)
            have h7 : k7 ≤ 24 := h7
            obtain ⟨k0, l0, h0, e0⟩ := hu 0 b (am_vd (by omega) hb)
            have l0 : 1 ≤ k0 := l0
            have h0 : k0 ≤ 24 := h0
            have g3 := g.2.2
            rw [e0, e7, am_ti (by omega), am_ti (by omega)] at g3
            rw [e7, e0, nI_1, pk_sub (by omega)]
            exact ⟨k7 + 1 - k0, by omega, rfl⟩
          · exact ⟨0, by omega, rfl⟩
        obtain ⟨t, ht, et⟩ := lt
        rw [ez, el, e9, et]
        have e3 : (3 : Int32) * nI kz = nI (3 * kz) := pk_mul 3 kz
        have e4 : (4 : Int32) * nI q = nI (4 * q) := pk_mul 4 q
        rw [e3, e4, nI_add, pk_mul]
        have hm : k9 * t ≤ 9 * 24 := Nat.mul_le_mul h9 ht
        rw [pk_sub_toInt (by omega) (by omega)]
        omega
      · exact am_cl0 am_cl99
theorem am_ge_c (hu : am_ur n m u) {a b : Nat} (ha : a < m) (hb : b < n) : ∃ k, k ≤ 99 ∧ am_ge P u a b = nI k := by
  obtain ⟨k2, l2, h2, e2⟩ := hu 2 b (am_vd (by omega) hb)
  have l2 : 1 ≤ k2 := l2
  have h2 : k2 ≤ 9 := h2
  refine am_ge_b hu ha hb ?_
  rw [e2, am_ti (by omega)]
  omega
theorem am_sto_b {own e : Nat → Int32} {x : Int32} {k : Nat} (h : ∀ i, i < k → ∃ q, q ≤ 99 ∧ e i = nI q) : ∃ q, q ≤ k * 99 ∧ am_sto own e x k = nI q := am_sm_b k (fun j hj => by
  split
  · exact h j hj
  · exact ⟨0, Nat.zero_le _, rfl⟩)
theorem am_gvn_b (hu : am_ur n m u) (hn : n ≤ 12) (hm : m ≤ 5) {c : Nat} (hc : c < m) : ∃ q, q ≤ 1188 ∧ (am_gvn P u n m r).2 c = nI q := by
  rw [am_gvn_s hm hc]
  obtain ⟨q, hq, e⟩ := am_sto_b (own := (am_gvn P u n m r).1) (e := am_ge P u c) (x := nI c) (k := n) (fun i hi => am_ge_c hu hc hi)
  exact ⟨q, by omega, e⟩
/-- how unfair a rule is, all together by it -/
def am_ufr (P : List (List Nat × List Nat)) (u : Nat → Nat → Int32) (n m r : Nat) : Int32 := am_unf m (am_gvn P u n m r).2
def am_tgr (P : List (List Nat × List Nat)) (u : Nat → Nat → Int32) (n m r : Nat) : Int32 := am_tgs (am_gvn P u n m r).2 m
theorem am_ufr_b (hu : am_ur n m u) (hn : n ≤ 12) (hm : m ≤ 5) : ∃ q, q ≤ 1188 ∧ am_ufr P u n m r = nI q := am_unf_b (by omega) (fun c hc => am_gvn_b hu hn hm hc)
theorem sp_40f {x : Int32} (hr : r < 5) (hc : am_cx n m u mi) (hf : am_fre P u n m mi) (hx : x = nI r) (h : R (some (.int (am_ufr P u n m r))) mi ml) : am_call (d + 2) 40 [.ref 22, .int x] mi ml R :=
  sp_40 hr hc hx (by
    rw [am_unf_c (s := mi (38 + r)) (s2 := (am_gvn P u n m r).2) (fun c hc => (hf.2.2.2.1 r hr).2 c hc)]
    exact h)
theorem sp_44f {x : Int32} (hr : r < 5) (hc : am_cx n m u mi) (hf : am_fre P u n m mi) (hx : x = nI r) (h : R (some (.int (am_tgr P u n m r))) mi ml) : am_call (d + 1) 44 [.ref 22, .int x] mi ml R :=
  sp_44 hr hc hx (by
    rw [am_tgs_c (s := mi (38 + r)) (s2 := (am_gvn P u n m r).2) m (fun c hc => (hf.2.2.2.1 r hr).2 c hc)]
    exact h)
/-- the best of the first k + 1 rules -/
def am_brl (U T : Nat → Int32) : Nat → Nat
  | 0 => 0
  | k + 1 => if U (k + 1) < U (am_brl U T k) then k + 1 else if U (am_brl U T k) = U (k + 1) ∧ T (am_brl U T k) < T (k + 1) then k + 1 else am_brl U T k
theorem am_brl_le (U T : Nat → Int32) : ∀ k, am_brl U T k ≤ k
  | 0 => Nat.le_refl _
  | k + 1 => by
    unfold am_brl
    have := am_brl_le U T k
    split
    · omega
    · split
      · omega
      · omega
/-- leastUnfairRule -/
theorem sp_47 (hX : am_X P u n m mi) (hf : am_fre P u n m mi) (h : R (some (.int (nI (am_brl (am_ufr P u n m) (am_tgr P u n m) 4)))) mi ml) : am_call (d + 3) 47 [.ref 22] mi ml R := by
  have hc := hX.2.1
  have loop : ∀ w k, k + 1 + w = 5 → am_wp (am_call (d + 2)) mt_47 R 4 [some (.ref 22), some (.int (nI (am_brl (am_ufr P u n m) (am_tgr P u n m) k))), some (.int (nI (k + 1))), none] [] mi ml := by
    intro w
    induction w with
    | zero =>
      intro k e
      have e : k = 4 := by omega
      subst e
      exact bk_47_4 (pk_le 5 5 (fun _ => h) (fun w => absurd w (Nat.lt_irrefl _)) rfl rfl)
    | succ w ih =>
      intro k e
      have ih := ih (k + 1) (by omega)
      have l := am_brl_le (am_ufr P u n m) (am_tgr P u n m) k
      have un : am_brl (am_ufr P u n m) (am_tgr P u n m) (k + 1) = if (am_ufr P u n m) (k + 1) < (am_ufr P u n m) (am_brl (am_ufr P u n m) (am_tgr P u n m) k) then k + 1 else if (am_ufr P u n m) (am_brl (am_ufr P u n m) (am_tgr P u n m) k) = (am_ufr P u n m) (k + 1) ∧ (am_tgr P u n m) (am_brl (am_ufr P u n m) (am_tgr P u n m) k) < (am_tgr P u n m) (k + 1) then k + 1 else am_brl (am_ufr P u n m) (am_tgr P u n m) k := rfl
      rw [un] at ih
      generalize am_brl (am_ufr P u n m) (am_tgr P u n m) k = b at l ih
      obtain ⟨p, hp, ep⟩ := am_ufr_b (P := P) (r := b) hX.2.2.2 hc.1 hc.2.1
      obtain ⟨q, hq, eq⟩ := am_ufr_b (P := P) (r := k + 1) hX.2.2.2 hc.1 hc.2.1
      have lt : (am_ufr P u n m) (k + 1) < (am_ufr P u n m) b ↔ q < p := by
        rw [ep, eq, nI_ltI (by omega) (by omega)]
      have ee : (am_ufr P u n m) b = (am_ufr P u n m) (k + 1) ↔ p = q := by
        rw [ep, eq, nI_eq (by omega) (by omega)]
      refine bk_47_4 (pk_le 5 (k + 1) (fun w => absurd w (by omega)) (fun _ => sp_40f (r := b) (by omega) hc hf rfl (am_ri_i (sp_40f (r := k + 1) (by omega) hc hf rfl (am_ri_i ⟨fun w => ?_, fun w => ⟨fun w2 => ?_, fun w2 => sp_44f (r := k + 1) (by omega) hc hf rfl (am_ri_i (sp_44f (r := b) (by omega) hc hf rfl (am_ri_i ⟨fun w3 => ?_, fun w3 => ?_⟩)))⟩⟩)))) rfl rfl)
      · rw [ep, eq, am_lt_i, am_l0, pk_sub_toInt (by omega) (by omega)] at w
        rw [if_pos (lt.mpr (by omega))] at ih
        rw [nI_1]
        exact ih
      · rw [ep, eq, am_lt_i, am_l0, pk_sub_toInt (by omega) (by omega)] at w
        rw [ep, eq, ne_eq, am_eq_i, am_l0, pk_sub_toInt (by omega) (by omega)] at w2
        rw [if_neg (fun z => by have := lt.mp z; omega), if_neg (fun z => by have := ee.mp z.1; omega)] at ih
        rw [nI_1]
        exact ih
      · rw [ep, eq, am_lt_i, am_l0, pk_sub_toInt (by omega) (by omega)] at w
        rw [am_le_i] at w3
        rw [if_neg (fun z => by have := lt.mp z; omega), if_neg (fun g => by have g := g.2; rw [am_lt_i] at g; omega)] at ih
        rw [nI_1]
        exact ih
      · rw [ep, eq, am_lt_i, am_l0, pk_sub_toInt (by omega) (by omega)] at w
        rw [ep, eq, ne_eq, am_eq_i, am_l0, pk_sub_toInt (by omega) (by omega)] at w2
        rw [am_le_i] at w3
        rw [if_neg (fun z => by have := lt.mp z; omega), if_pos ⟨ee.mpr (by omega), by rw [am_lt_i]; omega⟩] at ih
        rw [nI_1]
        exact ih
  exact bk_47 (loop 4 0 rfl)
end SP52
