/-! specs: what is mended, kept, undone -/
def am_k39 (k : Nat) : Nat := if k = 40 then 39 else k
def am_s40 (k : Nat) : Nat := if k = 40 then 4 else 0
def am_F13 : Nat → Nat → Bool := fun c _ => decide (c = 13 ∨ c = 14)
/-- the changes of the reference, its calendar -/
def am_F103 : Nat → Nat → Bool := fun c j => decide ((c = 78 ∧ (j = 0 ∨ j = 5 ∨ j = 37 ∨ j = 38)) ∨ (79 ≤ c ∧ c ≤ 88) ∨ c = 103)
section SP22
variable {d n m : Nat} {u : Nat → Nat → Int32} {mi : am_MI} {ml : am_ML} {R : am_R}
theorem am_n4 {k : Nat} (i : Nat) (hk : k < 40) (hi : i < 4) : (nI k * 4 + nI i).toNatClampNeg = 4 * k + i ∧ vp_in (nI k * 4 + nI i) 160 := by
  have e : nI k * 4 + nI i = nI (4 * k + i) := by
    rw [show (4 : Int32) = nI 4 from rfl, pk_mul, nI_add]
    congr 1
    omega
  rw [e]
  exact ⟨nI_clamp (by omega), vp_in_nI (by omega) (by omega)⟩
theorem am_n40 {k : Nat} (hk : k < 40) : (nI k * 4).toNatClampNeg = 4 * k ∧ vp_in (nI k * 4) 160 := by
  have z := am_n4 0 hk (by omega)
  rw [show nI k * 4 + nI 0 = nI k * 4 from Int32.add_zero _] at z
  exact z
theorem am_w4 {k : Nat} (i : Nat) (hk : k < 40) (hi : i < 4) : (4 * nI k + nI i).toNatClampNeg = 4 * k + i ∧ vp_in (4 * nI k + nI i) 160 := by
  rw [Int32.mul_comm]
  exact am_n4 i hk hi
theorem am_w40 {k : Nat} (hk : k < 40) : (4 * nI k).toNatClampNeg = 4 * k ∧ vp_in (4 * nI k) 160 := by
  rw [Int32.mul_comm]
  exact am_n40 hk
/-- keepChange -/
theorem sp_12 {x y z v : Int32} {k : Nat} (hk : k ≤ 40) (e : mi 13 1 = nI k)
    (h : ∀ mi2, am_kp am_F13 mi mi2 → mi2 13 1 = nI (am_k39 k + 1) → mi2 13 2 = 0 → (∀ j, j < 4 * am_k39 k → mi2 14 j = mi 14 (j + am_s40 k)) → mi2 14 (4 * am_k39 k) = x → mi2 14 (4 * am_k39 k + 1) = y → mi2 14 (4 * am_k39 k + 2) = z → mi2 14 (4 * am_k39 k + 3) = v → R none mi2 ml) : am_call (d + 1) 12 [.ref 13, .int x, .int y, .int z, .int v] mi ml R := by
  refine bk_12 ?_
  rw [e]
  refine pk_lt k 40 (fun q => ?_) (fun q => ?_) rfl rfl
  · obtain ⟨a0, b0⟩ := am_n40 q
    obtain ⟨a1, b1⟩ := am_n4 1 q (by omega)
    obtain ⟨a2, b2⟩ := am_n4 2 q (by omega)
    obtain ⟨a3, b3⟩ := am_n4 3 q (by omega)
    have e1 : am_k39 k = k := if_neg (by omega)
    have e2 : am_s40 k = 0 := if_neg (by omega)
    rw [e1, e2] at h
    refine ⟨b0, b1, b2, b3, ?_⟩
    rw [show (1 : Int32) = nI 1 from rfl, show (2 : Int32) = nI 2 from rfl, show (3 : Int32) = nI 3 from rfl, a0, a1, a2, a3]
    refine h _ (am_kp_u (am_kp_u (am_kp_u (am_kp_u (am_kp_u (am_kp_u am_kp_r rfl) rfl) rfl) rfl) rfl) rfl) ?_ am_ui_k (fun j hj => ?_) ?_ ?_ ?_ ?_
    · rw [am_ui_n (by omega), am_ui_k, nI_add]
    · rw [am_ui_c (by omega), am_ui_c (by omega), am_ui_n (by omega), am_ui_n (by omega), am_ui_n (by omega), am_ui_n (by omega)]
      rfl
    · rw [am_ui_c (by omega), am_ui_c (by omega), am_ui_n (by omega), am_ui_n (by omega), am_ui_n (by omega), am_ui_k]
    · rw [am_ui_c (by omega), am_ui_c (by omega), am_ui_n (by omega), am_ui_n (by omega), am_ui_k]
    · rw [am_ui_c (by omega), am_ui_c (by omega), am_ui_n (by omega), am_ui_k]
    · rw [am_ui_c (by omega), am_ui_c (by omega), am_ui_k]
  · have e0 : k = 40 := by omega
    subst e0
    have e1 : am_k39 40 = 39 := rfl
    have e2 : am_s40 40 = 4 := rfl
    rw [e1, e2] at h
    refine ⟨by decide, by decide, by decide, by decide, by decide, am_vp (by decide) (by decide), am_vp (by decide) (by decide), am_vp (by decide) (by decide), am_vp (by decide) (by decide), ?_⟩
    have c0 : ((39 : Int32) * 4).toNatClampNeg = 156 := by decide
    have c1 : ((39 : Int32) * 4 + 1).toNatClampNeg = 157 := by decide
    have c2 : ((39 : Int32) * 4 + 2).toNatClampNeg = 158 := by decide
    have c3 : ((39 : Int32) * 4 + 3).toNatClampNeg = 159 := by decide
    have c4 : (4 : Int32).toNatClampNeg = 4 := by decide
    have c5 : (0 : Int32).toNatClampNeg = 0 := by decide
    have c6 : (156 : Int32).toNatClampNeg = 156 := by decide
    rw [c0, c1, c2, c3, c4, c5, c6]
    refine h _ (am_kp_u (am_kp_u (am_kp_u (am_kp_u (am_kp_u (am_kp_u (am_kp_u (fun c j q => ?_) rfl) rfl) rfl) rfl) rfl) rfl) rfl) ?_ am_ui_k (fun j hj => ?_) ?_ ?_ ?_ ?_
    · unfold am_ci
      rw [if_neg]
      rintro ⟨rfl, -⟩
      cases q
    · rw [am_ui_n (by omega), am_ui_k]
      rfl
    · rw [am_ui_c (by omega), am_ui_c (by omega), am_ui_n (by omega), am_ui_n (by omega), am_ui_n (by omega), am_ui_n (by omega), am_ui_c (by omega)]
      unfold am_ci
      rw [if_pos ⟨rfl, by omega, by omega⟩]
      congr 1
      omega
    · rw [am_ui_c (by omega), am_ui_c (by omega), am_ui_n (by omega), am_ui_n (by omega), am_ui_n (by omega), am_ui_k]
    · rw [am_ui_c (by omega), am_ui_c (by omega), am_ui_n (by omega), am_ui_n (by omega), am_ui_k]
    · rw [am_ui_c (by omega), am_ui_c (by omega), am_ui_n (by omega), am_ui_k]
    · rw [am_ui_c (by omega), am_ui_c (by omega), am_ui_k]
/-- mend, of the class -/
theorem sp_121 {x y v : Int32} {k : Nat} (hc : am_cx n m u mi) (hs : am_sta mi) (hk : k ≤ 40) (e : mi 13 1 = nI k)
    (hb : (∀ w i p, am_val n m w i → am_lo w ≤ p → p ≤ am_hi w → y = nI w → x = nI i → v = nI p → False) → R (some (.int (-1))) mi ml)
    (h0 : ∀ w i p, am_val n m w i → am_lo w ≤ p → p ≤ am_hi w → y = nI w → x = nI i → v = nI p → u w i = v → R (some (.int (u w i))) mi ml)
    (h1 : ∀ w i p, am_val n m w i → am_lo w ≤ p → p ≤ am_hi w → y = nI w → x = nI i → v = nI p → ¬ u w i = v → ∀ mi1 mi2, am_kp am_F13 mi mi1 → mi1 13 1 = nI (am_k39 k + 1) → mi1 13 2 = 0 → (∀ j, j < 4 * am_k39 k → mi1 14 j = mi 14 (j + am_s40 k)) → mi1 14 (4 * am_k39 k) = x → mi1 14 (4 * am_k39 k + 1) = y → mi1 14 (4 * am_k39 k + 2) = u w i → mi1 14 (4 * am_k39 k + 3) = v →
      am_cx n m (am_uu u w i v) mi2 → am_kp am_FC mi1 mi2 → mi2 1 3 = mi1 1 3 + 1 → (∀ w2 i2, w2 < 10 → (w2 = w → i2 = i → False) → mi2 (3 + w2) i2 = mi1 (3 + w2) i2) → R (some (.int (u w i))) mi2 ml) : am_call (d + 4) 121 [.ref 0, .int x, .int y, .int v] mi ml R := by
  have no : ∀ {w i : Nat}, am_val n m w i → w < 10 := by
    intro w i h
    unfold am_val at h
    omega
  refine bk_121 (sp_2 hc (fun w i hv e1 e2 => am_ri_i (am_y ?_)) (fun g => am_ri_i (am_n0 (hb fun w i p hv _ _ e1 e2 _ => g w i hv e1 e2))))
  have hw := no hv
  refine sp_3 hs hw e1 (fun p g1 g2 e3 => am_ri_i (am_yn ?_)) (fun g => am_ri_i (am_nn (hb fun w2 i2 p hv2 g1 g2 f1 f2 f3 => ?_)))
  · refine sp_4c hc e1 e2 hv (am_ri_i ⟨fun q => h0 w i p hv g1 g2 e1 e2 e3 q, fun q => ?_⟩)
    refine sp_12 hk e (fun mi1 k1 a1 a2 a3 a4 a5 a6 a7 => am_rv_i ?_)
    have hc1 : am_cx n m u mi1 := am_cx_on hc (k1 _ _ rfl) (k1 _ _ rfl) (fun w i hw => k1 _ _ (decide_eq_false (by omega)))
    exact sp_5 hc1 hv e1 e2 (fun mi2 hc2 k2 b1 _ _ b4 => am_rv_i (h1 w i p hv g1 g2 e1 e2 e3 q mi1 mi2 k1 a1 a2 a3 a4 a5 a6 a7 hc2 k2 b1 b4))
  · have hw2 := no hv2
    have ew : w = w2 := (nI_eq (by omega) (by omega)).mp (e1.symm.trans f1)
    subst ew
    have := am_lohi w hw
    rw [f3, am_ti (by omega)] at g
    omega
/-- mend, of the reference -/
theorem sp_184 {x y v : Int32} {k : Nat} (hc : am_cm n m u mi) (hk : k ≤ 40) (e : mi 78 38 = nI k)
    (hb : (∀ w i p, am_val n m w i → am_lo w ≤ p → p ≤ am_hi w → y = nI w → x = nI i → v = nI p → False) → R (some (.int (-1))) mi ml)
    (h0 : ∀ w i p, am_val n m w i → am_lo w ≤ p → p ≤ am_hi w → y = nI w → x = nI i → v = nI p → u w i = v → R (some (.int (u w i))) mi ml)
    (h1 : ∀ w i p, am_val n m w i → am_lo w ≤ p → p ≤ am_hi w → y = nI w → x = nI i → v = nI p → ¬ u w i = v → ∀ mi2, am_cm n m (am_uu u w i v) mi2 → am_kp am_F103 mi mi2 → mi2 78 38 = nI (am_k39 k + 1) → mi2 78 37 = nI (am_k39 k + 1) → (∀ j, j < 4 * am_k39 k → mi2 103 j = mi 103 (j + am_s40 k)) → mi2 103 (4 * am_k39 k) = x → mi2 103 (4 * am_k39 k + 1) = y → mi2 103 (4 * am_k39 k + 2) = u w i → mi2 103 (4 * am_k39 k + 3) = v → (∀ j, mi2 82 j = mi 82 j) → R (some (.int (u w i))) mi2 ml) : am_call (d + 4) 184 [.ref 78, .int x, .int y, .int v] mi ml R := by
  have no : ∀ {w i : Nat}, am_val n m w i → w < 10 := by
    intro w i h
    unfold am_val at h
    omega
  have hn := hc.1
  have hm := hc.2.1
  refine bk_184 (sp_180 hc (fun w i hv e1 e2 => am_ri_i (am_y ?_)) (fun g => am_ri_i (am_n0 (hb fun w i p hv _ _ e1 e2 _ => g w i hv e1 e2))))
  have hw := no hv
  refine sp_181 hw e1 (fun p g1 g2 e3 => am_ri_i (am_yn ?_)) (fun g => am_ri_i (am_nn (hb fun w2 i2 p hv2 g1 g2 f1 f2 f3 => ?_)))
  · refine sp_182 hn hm hv e1 e2 ?_
    rw [hc.2.2.2.2 w i hv]
    refine am_ri_i ⟨fun q => ?_, fun q => ?_⟩
    · have h1 := h1 w i p hv g1 g2 e1 e2 e3 q
      refine sp_183 hn hm hv e1 e2 (am_rv_i ?_)
      have hr := am_mc_r w hw
      have z0 : am_ui mi (am_mc w) (am_mj w i) v 78 38 = nI k := (am_ui_c (by omega)).trans e
      have zc : ∀ c j, ¬ c = 78 → ¬ c = 103 → ∀ mj : am_MI, (∀ c j, (c = 78 → ¬ j = 38 ∧ ¬ j = 37) → ¬ c = 103 → mj c j = am_ui mi (am_mc w) (am_mj w i) v c j) → mj c j = am_ui mi (am_mc w) (am_mj w i) v c j := fun c j q1 q2 mj hh => hh c j (fun e => (q1 e).elim) q2
      have fin : ∀ mj : am_MI, (∀ c j, (c = 78 → ¬ j = 38 ∧ ¬ j = 37) → ¬ c = 103 → mj c j = am_ui mi (am_mc w) (am_mj w i) v c j) → mj 78 38 = nI (am_k39 k + 1) → mj 78 37 = nI (am_k39 k + 1) → (∀ j, j < 4 * am_k39 k → mj 103 j = mi 103 (j + am_s40 k)) → mj 103 (4 * am_k39 k) = x → mj 103 (4 * am_k39 k + 1) = y → mj 103 (4 * am_k39 k + 2) = u w i → mj 103 (4 * am_k39 k + 3) = v → R (some (.int (u w i))) mj ml := by
        intro mj hj f1 f2 f3 f4 f5 f6 f7
        refine h1 mj ⟨hn, hm, ?_, ?_, fun w2 i2 hv2 => ?_⟩ (fun c j q => ?_) f1 f2 f3 f4 f5 f6 f7 (fun j => ?_)
        · rw [hj 78 0 (by omega) (by omega), am_ui_c (by omega)]
          exact hc.2.2.1
        · rw [hj 78 5 (by omega) (by omega), am_ui_c (by omega)]
          exact hc.2.2.2.1
        · have hr2 := am_mc_r w2 (no hv2)
          rw [hj _ _ (by omega) (by omega)]
          exact am_cm_uu hv hc.2.2.2.2 rfl w2 i2 hv2
        · have q := of_decide_eq_false q
          rw [hj c j (by omega) (by omega), am_ui_c (by omega)]
        · rw [hj 82 j (by omega) (by omega), am_ui_c (by omega)]
      refine ⟨fun q40 => ?_, fun q40 => ?_⟩
      · rw [z0]
        have k40 : k < 40 := by
          rw [z0] at q40
          have : ¬ k = 40 := fun e => q40 (by rw [e]; rfl)
          omega
        obtain ⟨a0, b0⟩ := am_w40 k40
        obtain ⟨a1, b1⟩ := am_w4 1 k40 (by omega)
        obtain ⟨a2, b2⟩ := am_w4 2 k40 (by omega)
        obtain ⟨a3, b3⟩ := am_w4 3 k40 (by omega)
        have x1 : am_k39 k = k := if_neg (by omega)
        have x2 : am_s40 k = 0 := if_neg (by omega)
        rw [x1, x2] at fin
        refine ⟨b0, b1, b2, b3, ?_⟩
        rw [show (1 : Int32) = nI 1 from rfl, show (2 : Int32) = nI 2 from rfl, show (3 : Int32) = nI 3 from rfl, a0, a1, a2, a3]
        refine fin _ (fun c j g1 g2 => ?_) ?_ ?_ (fun j hj => ?_) ?_ ?_ ?_ ?_
        · rw [am_ui_n (by omega), am_ui_n (by omega), am_ui_c g2, am_ui_c g2, am_ui_c g2, am_ui_c g2]
        · rw [am_ui_n (by omega), am_ui_k, nI_add]
        · rw [am_ui_k, nI_add]
        · rw [am_ui_c (by omega), am_ui_c (by omega), am_ui_n (by omega), am_ui_n (by omega), am_ui_n (by omega), am_ui_n (by omega), am_ui_c (by omega)]
          rfl
        · rw [am_ui_c (by omega), am_ui_c (by omega), am_ui_n (by omega), am_ui_n (by omega), am_ui_n (by omega), am_ui_k]
        · rw [am_ui_c (by omega), am_ui_c (by omega), am_ui_n (by omega), am_ui_n (by omega), am_ui_k]
        · rw [am_ui_c (by omega), am_ui_c (by omega), am_ui_n (by omega), am_ui_k]
        · rw [am_ui_c (by omega), am_ui_c (by omega), am_ui_k]
      · have ek : k = 40 := by
          rw [z0] at q40
          exact (nI_eq (by omega) (by omega)).mp (Decidable.not_not.mp q40)
        subst ek
        have x1 : am_k39 40 = 39 := rfl
        have x2 : am_s40 40 = 4 := rfl
        rw [x1, x2] at fin
        refine am_for 156 (fun j => ∀ mj : am_MI, (∀ c i2, ¬ c = 103 → mj c i2 = am_ui mi (am_mc w) (am_mj w i) v c i2) → (∀ i2, i2 < j → mj 103 i2 = mi 103 (i2 + 4)) → (∀ i2, j ≤ i2 → mj 103 i2 = mi 103 i2) → am_wp (am_call (d + 3)) mt_184 R 32 [some (.ref 78), some (.int x), some (.int y), some (.int v), some (.int (u w i)), some (.int (nI j))] [] mj ml) ?_ (fun j hj ih => ?_) 0 (Nat.zero_le _) _ (fun _ _ _ => rfl) (fun i2 h => absurd h (by omega)) (fun i2 _ => am_ui_c (by omega))
        · intro mj j1 j2 j3
          have z1 : mj 78 38 = nI 40 := (j1 78 38 (by omega)).trans z0
          refine bk_184_32 (pk_le 156 156 (fun _ => ?_) (fun q => absurd q (Nat.lt_irrefl _)) rfl rfl)
          rw [z1, show nI 40 - 1 = nI 39 from rfl]
          obtain ⟨a0, b0⟩ := am_w40 (k := 39) (by omega)
          obtain ⟨a1, b1⟩ := am_w4 (k := 39) 1 (by omega) (by omega)
          obtain ⟨a2, b2⟩ := am_w4 (k := 39) 2 (by omega) (by omega)
          obtain ⟨a3, b3⟩ := am_w4 (k := 39) 3 (by omega) (by omega)
          refine ⟨b0, b1, b2, b3, ?_⟩
          rw [show (1 : Int32) = nI 1 from rfl, show (2 : Int32) = nI 2 from rfl, show (3 : Int32) = nI 3 from rfl, a0, a1, a2, a3]
          refine fin _ (fun c j g1 g2 => ?_) ?_ ?_ (fun j hj => ?_) ?_ ?_ ?_ ?_
          · rw [am_ui_n (by omega), am_ui_n (by omega), am_ui_c g2, am_ui_c g2, am_ui_c g2, am_ui_c g2, am_ui_n (by omega)]
            exact j1 c j g2
          · rw [am_ui_n (by omega), am_ui_k]
            rfl
          · rw [am_ui_k]
            rfl
          · rw [am_ui_c (by omega), am_ui_c (by omega), am_ui_n (by omega), am_ui_n (by omega), am_ui_n (by omega), am_ui_n (by omega), am_ui_c (by omega)]
            exact j2 j (by omega)
          · rw [am_ui_c (by omega), am_ui_c (by omega), am_ui_n (by omega), am_ui_n (by omega), am_ui_n (by omega), am_ui_k]
          · rw [am_ui_c (by omega), am_ui_c (by omega), am_ui_n (by omega), am_ui_n (by omega), am_ui_k]
          · rw [am_ui_c (by omega), am_ui_c (by omega), am_ui_n (by omega), am_ui_k]
          · rw [am_ui_c (by omega), am_ui_c (by omega), am_ui_k]
        · intro mj j1 j2 j3
          refine bk_184_32 (pk_le 156 j (fun q => absurd q (by omega)) (fun _ => ?_) rfl rfl)
          rw [show nI j + 4 = nI (j + 4) from nI_add j 4, nI_clamp (show j < 2 ^ 31 by omega), nI_clamp (show j + 4 < 2 ^ 31 by omega), nI_1]
          refine ⟨vp_in_nI (by omega) (by omega), vp_in_nI (by omega) (by omega), ih _ (fun c i2 g => (am_ui_c g).trans (j1 c i2 g)) (fun i2 hi => ?_) (fun i2 hi => ?_)⟩
          · by_cases e2 : i2 = j
            · subst e2
              rw [am_ui_k]
              exact j3 (i2 + 4) (by omega)
            · rw [am_ui_n (fun _ e => e2 e)]
              exact j2 i2 (by omega)
          · rw [am_ui_n (by omega)]
            exact j3 i2 (by omega)
    · exact h0 w i p hv g1 g2 e1 e2 e3 (Decidable.not_not.mp q)
  · have hw2 := no hv2
    have ew : w = w2 := (nI_eq (by omega) (by omega)).mp (e1.symm.trans f1)
    subst ew
    have := am_lohi w hw
    rw [f3, am_ti (by omega)] at g
    omega
end SP22
