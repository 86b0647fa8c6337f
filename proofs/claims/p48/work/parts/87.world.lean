/-! world: the doors, the children, the law -/
theorem dq_and1 {x : Int32} : ∃ b, b < 2 ∧ x &&& 1 = nI b := by
  have hlt : x.toBitVec.toNat % 2 ^ 1 < 2 := Nat.mod_lt _ (by decide)
  refine ⟨x.toBitVec.toNat % 2 ^ 1, hlt, ?_⟩
  apply Int32.toBitVec_inj.1
  rw [Int32.toBitVec_and]
  apply BitVec.eq_of_toNat_eq
  rw [BitVec.toNat_and, show ((1 : Int32).toBitVec.toNat) = 2 ^ 1 - 1 from rfl, Nat.and_two_pow_sub_one_eq_mod]
  show _ = (BitVec.ofNat 32 (x.toBitVec.toNat % 2 ^ 1)).toNat
  rw [BitVec.toNat_ofNat, Nat.mod_eq_of_lt (b := 2 ^ 32) (by omega)]
theorem dq_and255 {x : Int32} : ∃ b, b < 256 ∧ x &&& 255 = nI b := by
  have hlt : x.toBitVec.toNat % 2 ^ 8 < 256 := Nat.mod_lt _ (by decide)
  refine ⟨x.toBitVec.toNat % 2 ^ 8, hlt, ?_⟩
  apply Int32.toBitVec_inj.1
  rw [Int32.toBitVec_and]
  apply BitVec.eq_of_toNat_eq
  rw [BitVec.toNat_and, show ((255 : Int32).toBitVec.toNat) = 2 ^ 8 - 1 from rfl, Nat.and_two_pow_sub_one_eq_mod]
  show _ = (BitVec.ofNat 32 (x.toBitVec.toNat % 2 ^ 8)).toNat
  rw [BitVec.toNat_ofNat, Nat.mod_eq_of_lt (b := 2 ^ 32) (by omega)]
set_option maxRecDepth 20000 in
theorem dq_i2c : ∀ b, b < 256 → am_i2c (nI b) = nI b := by decide
/-- the object while it is filled -/
def dw_E (n m v : Nat) (mi : am_MI) : Prop := (∃ u, dq_A [] u n m v mi) ∧ am_cz m mi ∧ mi 78 100000 = 37 ∧ mi 138 1 = 0
def dq_F8 : Nat → Nat → Bool := fun c j => decide (c = 78 ∧ j < 37)
section SP87
variable {d n m v : Nat} {u : Nat → Nat → Int32} {mi : am_MI} {ml : am_ML} {R : am_R} {P : List (List Nat × List Nat)}
theorem dw_A_M {P2 : List (List Nat × List Nat)} {u2 : Nat → Nat → Int32} {n2 m2 v2 : Nat} {a b : am_MI} (h : dq_A P u n m v a) (k : am_kp dq_FM a b) (q : dq_Q P2 u2 n2 m2 b) (V : dq_V v2 b) (C : dq_C b) : dq_A P2 u2 n2 m2 v2 b :=
  ⟨q, V, C, ⟨fun j hj => (k 60 j rfl).trans (h.2.2.2.1.1 j hj), fun j h1 h2 => (k 59 j rfl).trans (h.2.2.2.1.2 j h1 h2)⟩, (k 15 1 rfl).trans h.2.2.2.2⟩
theorem dw_E_s (h : dw_E n m v mi) : am_sta mi := by
  obtain ⟨⟨u, hA⟩, _⟩ := h
  exact hA.1.2.1
theorem dw_E_l (h : dw_E n m v mi) : (mi 78 100000).toNatClampNeg = 37 := by
  rw [h.2.2.1]
  rfl
theorem dw_E_in {k : Nat} (h : dw_E n m v mi) (hk : k < 37) : vp_in (nI k) (mi 78 100000).toNatClampNeg := by
  rw [dw_E_l h]
  exact vp_in_nI (by omega) (by omega)
theorem dw_E_v {v2 : Nat} (h : dw_E n m v mi) (hv : v ≤ v2) : dw_E n m v2 mi := by
  obtain ⟨⟨u, hA⟩, h2⟩ := h
  exact ⟨⟨u, hA.1, dq_V_m hA.2.1 hv, hA.2.2⟩, h2⟩
theorem dw_E_ui {k : Nat} {x : Int32} (h : dw_E n m v mi) (hk : k < 37) : dw_E n m v (am_ui mi 78 k x) := by
  obtain ⟨⟨u, hA⟩, h2, h3, h4⟩ := h
  have kk : ∀ c j, ¬ c = 78 → am_ui mi 78 k x c j = mi c j := fun c j w => am_ui_c w
  have kO : am_kp dq_FO mi (am_ui mi 78 k x) := fun c j q => am_ui_c (fun w => by
    have q := of_decide_eq_false q
    omega)
  refine ⟨⟨u, dq_Q_O hA.1 kO, dq_V_on hA.2.1 (kk 1 3 (by omega)) (kk 15 7 (by omega)), dq_C_on hA.2.2.1 (kk 13 1 (by omega)), ⟨fun j hj => (kk 60 j (by omega)).trans (hA.2.2.2.1.1 j hj), fun j a b => (kk 59 j (by omega)).trans (hA.2.2.2.1.2 j a b)⟩, (kk 15 1 (by omega)).trans hA.2.2.2.2⟩, fun i a b => ⟨(kk 9 i (by omega)).trans (h2 i a b).1, (kk 10 i (by omega)).trans (h2 i a b).2⟩, (am_ui_n (fun _ w => by omega)).trans h3, (kk 138 1 (by omega)).trans h4⟩
theorem dq_288x {b : Nat} {x : Int32} (hx : x = nI b) (hb : b < 1000) (hs : am_sta mi) (h : ∀ x, R (some (.int x)) mi ml) : am_call (d + 1) 288 [.ref 117, .int x] mi ml R := by
  rw [hx]
  exact dq_288 hb hs h
theorem dq_289x {k : Nat} {x y : Int32} (hy : y = nI k) (h0 : 0 < k) (hk : k < 1000) (h : ∀ j, j < k → R (some (.int (nI j))) mi ml) : am_call (d + 1) 289 [.int x, .int y] mi ml R := by
  rw [hy]
  exact dq_289 h0 hk h
/-- a mend of what is being filled -/
theorem dw_E_121 {x y z : Int32} {w i p : Nat} (hE : dw_E n m v mi) (hv : v ≤ 800) (hval : am_val n m w i) (hp1 : am_lo w ≤ p) (hp2 : p ≤ am_hi w) (hx : x = nI i) (hy : y = nI w) (hz : z = nI p) (h : ∀ r m2, dw_E n m (v + 1) m2 → (∀ j, m2 78 j = mi 78 j) → R (some (.int r)) m2 ml) : am_call (d + 4) 121 [.ref 0, .int x, .int y, .int z] mi ml R := by
  obtain ⟨⟨u, hA⟩, h2, h3, h4⟩ := hE
  refine dq_121 hA.1 hA.2.2.1 hA.2.1 (by omega) hval hp1 hp2 hx hy hz (fun _ => h _ mi (dw_E_v ⟨⟨u, hA⟩, h2, h3, h4⟩ (by omega)) (fun _ => rfl)) (fun _ m2 k2 q2 V2 cz C2 => h _ m2 ?_ (fun j => k2 78 j rfl))
  obtain ⟨k, hk, e, _⟩ := C2
  exact ⟨⟨_, dw_A_M hA k2 q2 V2 ⟨k + 1, by omega, e⟩⟩, cz h2, (k2 78 100000 rfl).trans h3, (k2 138 1 rfl).trans h4⟩
theorem dw_E_118 {x y : Int32} {k1 k2 : Nat} (hE : dw_E n m v mi) (hv : v ≤ 800) (hn : n < 12) (h1 : 1 ≤ k1) (h2 : k1 ≤ 24) (h3 : k2 ≤ 7) (hx : x = nI k1) (hy : y = nI k2) (h : ∀ r m2, dw_E (n + 1) m (v + 3) m2 → (∀ j, m2 78 j = mi 78 j) → R (some (.int r)) m2 ml) : am_call (d + 5) 118 [.ref 0, .int x, .int y] mi ml R := by
  obtain ⟨⟨u, hA⟩, z2, z3, z4⟩ := hE
  exact dq_118 hA.1 hA.2.1 (by omega) hn h1 h2 h3 hx hy (fun m2 k2 q2 V2 z e => h _ m2 ⟨⟨_, dw_A_M hA k2 q2 V2 (dq_C_on hA.2.2.1 e)⟩, fun i a b => ⟨(z i).1.trans (z2 i a b).1, (z i).2.trans (z2 i a b).2⟩, (k2 78 100000 rfl).trans z3, (k2 138 1 rfl).trans z4⟩ (fun j => k2 78 j rfl))
theorem dw_E_120 {x y : Int32} {k1 k2 : Nat} (hE : dw_E n m v mi) (hv : v ≤ 800) (hm : m < 5) (h1 : 1 ≤ k1) (h2 : k1 ≤ 18) (h3 : k2 ≤ 7) (hx : x = nI k1) (hy : y = nI k2) (h : ∀ r m2, dw_E n (m + 1) (v + 3) m2 → (∀ j, m2 78 j = mi 78 j) → R (some (.int r)) m2 ml) : am_call (d + 5) 120 [.ref 0, .int x, .int y] mi ml R := by
  obtain ⟨⟨u, hA⟩, z2, z3, z4⟩ := hE
  exact dq_120 hA.1 z2 hA.2.1 (by omega) hm h1 h2 h3 hx hy (fun m2 k2 q2 V2 z e => h _ m2 ⟨⟨_, dw_A_M hA k2 q2 V2 (dq_C_on hA.2.2.1 e)⟩, z, (k2 78 100000 rfl).trans z3, (k2 138 1 rfl).trans z4⟩ (fun j => k2 78 j rfl))
/-- the doors -/
theorem dq_w56 {N : Nat} {l4 : Int32} (hN : N ≤ 12) (hv : v ≤ 600) (hnext : ∀ mi, dw_E N 0 (v + 5 * N) mi → mi 78 0 = nI N → ∀ k, k ≤ 5 → am_wp (am_call (d + 5)) mt_291 R 163 [some (.ref 0), some (.ref 117), some (.ref 78), some (.ref 138), some (.int l4), none, none, none, none, none, none, none] [.int (nI k), .int 1, .ref 78] mi ml) : ∀ i, i ≤ N → ∀ mi, dw_E i 0 (v + 5 * i) mi → mi 78 0 = nI N → am_wp (am_call (d + 5)) mt_291 R 56 [some (.ref 0), some (.ref 117), some (.ref 78), some (.ref 138), some (.int l4), some (.int (nI i)), none, none, none, none, none, none] [] mi ml := by
  refine am_for N _ (fun mi hE e0 => bk_291_56 ⟨dw_E_in (k := 0) hE (by omega), pk_le N N (fun _ => ⟨fun _ => dq_289x (k := 4) rfl (by omega) (by omega) (fun j hj => am_ri_i ?_), fun _ => dq_289x (k := 6) rfl (by omega) (by omega) (fun j hj => am_ri_i (hnext mi hE e0 j (by omega)))⟩) (fun w => absurd w (by omega)) e0 rfl⟩) (fun i hi ih mi hE e0 => ?_)
  · rw [show (1 : Int32) + nI j = nI (1 + j) from nI_add _ _]
    exact hnext mi hE e0 (1 + j) (by omega)
  have h110 : ∀ k1 k2 p, 1 ≤ k1 → k1 ≤ 24 → k2 ≤ 7 → 1 ≤ p → p ≤ 9 → am_wp (am_call (d + 5)) mt_291 R 110 [some (.ref 0), some (.ref 117), some (.ref 78), some (.ref 138), some (.int l4), some (.int (nI i)), none, some (.int (nI k1)), some (.int (nI k2)), none, none, none] [.int (nI p)] mi ml := by
    intro k1 k2 p h1 h2 h3 h4 h5
    have e5 : (5 : Int32) + nI i = nI (5 + i) := nI_add _ _
    have e22 : (22 : Int32) + nI i = nI (22 + i) := nI_add _ _
    have E1 := dw_E_ui (k := 5 + i) (x := (nI k1 + (100 : Int32) * nI k2) + (1000 : Int32) * nI p) hE (by omega)
    have E2 := dw_E_ui (k := 22 + i) (x := -2) E1 (by omega)
    refine bk_291_110 ?_
    rw [e5, e22, nI_clamp (by omega), nI_clamp (by omega)]
    have l2 : am_lo 2 = 1 := rfl
    have g2 : am_hi 2 = 9 := rfl
    refine ⟨dw_E_in hE (by omega), dw_E_in E1 (by omega), dw_E_118 E2 (by omega) (by omega) h1 h2 h3 rfl rfl (fun r m2 E3 k78 => am_ri_i (dw_E_121 (w := 2) (i := i) (p := p) E3 (by omega) (am_vd (by omega) (by omega)) (by omega) (by omega) rfl rfl rfl (fun r2 m3 E4 k78b => am_ri_i ?_)))⟩
    rw [nI_1]
    refine ih m3 (dw_E_v E4 (by omega)) ?_
    rw [k78b, k78, am_ui_n (fun _ w => by omega), am_ui_n (fun _ w => by omega)]
    exact e0
  have h93 : ∀ k1 q (x y : Int32), 1 ≤ k1 → k1 ≤ 24 → 0 < q → q ≤ 8 → am_wp (am_call (d + 5)) mt_291 R 93 [some (.ref 0), some (.ref 117), some (.ref 78), some (.ref 138), some (.int l4), some (.int (nI i)), some (.int x), some (.int (nI k1)), none, none, none, none] [.int (nI q), .int y] mi ml := by
    intro k1 q x y h1 h2 h3 h4
    refine bk_291_93 (dq_289 h3 (by omega) (fun j hj => am_ri_i ⟨fun _ => dq_289x (k := 9) rfl (by omega) (by omega) (fun j2 hj2 => am_ri_i ?_), fun _ => h110 k1 j 1 h1 h2 (by omega) (by omega) (by omega)⟩))
    rw [show (1 : Int32) + nI j2 = nI (1 + j2) from nI_add _ _]
    exact h110 k1 j (1 + j2) h1 h2 (by omega) (by omega) (by omega)
  have h78 : ∀ q (x : Int32), 0 < q → q ≤ 24 → am_wp (am_call (d + 5)) mt_291 R 78 [some (.ref 0), some (.ref 117), some (.ref 78), some (.ref 138), some (.int l4), some (.int (nI i)), some (.int x), none, none, none, none, none] [.int (nI q), .int x, .int 1] mi ml := by
    intro q x h1 h2
    refine bk_291_78 (dq_289 h1 (by omega) (fun j hj => am_ri_i ?_))
    rw [show (1 : Int32) + nI j = nI (1 + j) from nI_add _ _]
    exact ⟨fun _ => h93 (1 + j) 8 x _ (by omega) (by omega) (by omega) (by omega), fun _ => h93 (1 + j) 3 x _ (by omega) (by omega) (by omega) (by omega)⟩
  exact bk_291_56 ⟨dw_E_in (k := 0) hE (by omega), pk_le N i (fun w => absurd w (by omega)) (fun _ => dq_288x (b := 1 + i) (nI_add _ _) (by omega) (dw_E_s hE) (fun x => am_ri_i ⟨fun _ => h78 8 x (by omega) (by omega), fun _ => h78 24 x (by omega) (by omega)⟩)) e0 rfl⟩
/-- the children -/
theorem dq_w166 {M : Nat} {l4 : Int32} (hM : M ≤ 5) (hn : n ≤ 12) (hv : v ≤ 700) (hnext : ∀ mi, dw_E n M (v + 6 * M) mi → mi 78 0 = nI n → mi 78 1 = nI M → am_wp (am_call (d + 5)) mt_291 R 288 [some (.ref 0), none, none, some (.ref 138), none, some (.int (nI 0)), none, none, none, none, none, none] [] mi ml) : ∀ i, i ≤ M → ∀ mi, dw_E n i (v + 6 * i) mi → mi 78 0 = nI n → mi 78 1 = nI M → am_wp (am_call (d + 5)) mt_291 R 166 [some (.ref 0), some (.ref 117), some (.ref 78), some (.ref 138), some (.int l4), some (.int (nI i)), none, none, none, none, none, none] [] mi ml := by
  refine am_for M _ (fun mi hE e0 e1 => bk_291_166 ⟨dw_E_in (k := 1) hE (by omega), pk_le M M (fun _ => hnext mi hE e0 e1) (fun w => absurd w (by omega)) e1 rfl⟩) (fun i hi ih mi hE e0 e1 => ?_)
  have h238 : ∀ k1 k2 a b c, 1 ≤ k1 → k1 ≤ 18 → k2 ≤ 7 → a ≤ 9 → b ≤ 24 → c ≤ 24 → am_wp (am_call (d + 5)) mt_291 R 238 [some (.ref 0), some (.ref 117), some (.ref 78), some (.ref 138), some (.int l4), some (.int (nI i)), none, some (.int (nI k1)), some (.int (nI k2)), some (.int (nI a)), some (.int (nI b)), none] [.int (nI c)] mi ml := by
    intro k1 k2 a b c h1 h2 h3 h4 h5 h6
    have e17 : (17 : Int32) + nI i = nI (17 + i) := nI_add _ _
    have E1 : ∀ x, dw_E n i (v + 6 * i) (am_ui mi 78 (17 + i) x) := fun x => dw_E_ui hE (by omega)
    refine bk_291_238 ?_
    rw [e17, nI_clamp (by omega)]
    have l5 : am_lo 5 = 0 := rfl
    have g5 : am_hi 5 = 9 := rfl
    have l6 : am_lo 6 = 0 := rfl
    have g6 : am_hi 6 = 24 := rfl
    have l7 : am_lo 7 = 0 := rfl
    have g7 : am_hi 7 = 24 := rfl
    refine ⟨dw_E_in hE (by omega), dw_E_120 (E1 _) (by omega) (by omega) h1 h2 h3 rfl rfl (fun r m2 E2 ka => am_ri_i (dw_E_121 (w := 5) (i := i) (p := a) E2 (by omega) (am_vc (by omega) (by omega) (by omega)) (by omega) (by omega) rfl rfl rfl (fun r2 m3 E3 kb => am_ri_i (dw_E_121 (w := 6) (i := i) (p := b) E3 (by omega) (am_vc (by omega) (by omega) (by omega)) (by omega) (by omega) rfl rfl rfl (fun r3 m4 E4 kc => am_ri_i (dw_E_121 (w := 7) (i := i) (p := c) E4 (by omega) (am_vc (by omega) (by omega) (by omega)) (by omega) (by omega) rfl rfl rfl (fun r4 m5 E5 kd => am_ri_i ?_)))))))⟩
    rw [nI_1]
    refine ih m5 (dw_E_v E5 (by omega)) ?_ ?_
    · rw [kd, kc, kb, ka, am_ui_n (fun _ w => by omega)]
      exact e0
    · rw [kd, kc, kb, ka, am_ui_n (fun _ w => by omega)]
      exact e1
  have h216 : ∀ k1 k2 a b (x : Int32), 1 ≤ k1 → k1 ≤ 18 → k2 ≤ 7 → a ≤ 9 → b ≤ 24 → am_wp (am_call (d + 5)) mt_291 R 216 [some (.ref 0), some (.ref 117), some (.ref 78), some (.ref 138), some (.int l4), some (.int (nI i)), some (.int x), some (.int (nI k1)), some (.int (nI k2)), some (.int (nI a)), none, none] [.int (nI b)] mi ml := by
    intro k1 k2 a b x h1 h2 h3 h4 h5
    refine bk_291_216 ⟨fun _ => dq_289x (k := 25) rfl (by omega) (by omega) (fun j hj => am_ri_i (h238 k1 k2 a b j h1 h2 h3 h4 h5 (by omega))), fun _ => dq_289x (k := 5) rfl (by omega) (by omega) (fun j hj => am_ri_i ?_)⟩
    have e : am_min (24 : Int32) (nI b + nI j) = nI (min 24 (b + j)) := by
      rw [nI_add]
      exact dq_min (a := 24) (by omega) (by omega)
    rw [e]
    exact h238 k1 k2 a b _ h1 h2 h3 h4 h5 (by omega)
  have h195 : ∀ k1 q (x y : Int32), 1 ≤ k1 → k1 ≤ 18 → 0 < q → q ≤ 8 → am_wp (am_call (d + 5)) mt_291 R 195 [some (.ref 0), some (.ref 117), some (.ref 78), some (.ref 138), some (.int l4), some (.int (nI i)), some (.int x), some (.int (nI k1)), none, none, none, none] [.int (nI q), .int y] mi ml := by
    intro k1 q x y h1 h2 h3 h4
    exact bk_291_195 (dq_289 h3 (by omega) (fun j hj => am_ri_i (dq_289x (k := 10) rfl (by omega) (by omega) (fun a ha => am_ri_i ⟨fun _ => dq_289x (k := 25) rfl (by omega) (by omega) (fun b hb => am_ri_i (h216 k1 j a b x h1 h2 (by omega) (by omega) (by omega))), fun _ => h216 k1 j a 0 x h1 h2 (by omega) (by omega) (by omega)⟩))))
  refine bk_291_166 ⟨dw_E_in (k := 1) hE (by omega), pk_le M i (fun w => absurd w (by omega)) (fun _ => dq_288x (b := 13 + i) (nI_add _ _) (by omega) (dw_E_s hE) (fun x => am_ri_i (dq_289x (k := 18) rfl (by omega) (by omega) (fun j hj => am_ri_i ?_)))) e1 rfl⟩
  rw [show (1 : Int32) + nI j = nI (1 + j) from nI_add _ _]
  exact ⟨fun _ => h195 (1 + j) 8 x _ (by omega) (by omega) (by omega) (by omega), fun _ => h195 (1 + j) 3 x _ (by omega) (by omega) (by omega) (by omega)⟩
end SP87
