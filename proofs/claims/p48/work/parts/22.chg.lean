/-! specs: what is mended, kept, undone -/
def am_k39 (k : Nat) : Nat := if k = 40 then 39 else k
def am_s40 (k : Nat) : Nat := if k = 40 then 4 else 0
def am_F13 : Nat → Nat → Bool := fun c _ => decide (c = 13 ∨ c = 14)
/-- the changes of the reference, its calendar -/
def am_F103 : Nat → Nat → Bool := fun c j => decide ((c = 78 ∧ (j = 0 ∨ j = 5 ∨ j = 37 ∨ j = 38)) ∨ (79 ≤ c ∧ c ≤ 88) ∨ c = 103)
section SP22
variable {d n m : Nat} {u : Nat → Nat → Int32} {mi : am_MI} {ml : am_ML} {R : am_R}
theorem am_n4 {k : Nat} (i : Nat) (hk : k < 40) (hi : i < 4) : (nI k * 4 + nI i).toNatClampNeg = 4 * k + i ∧ vp_in (nI k * 4 + nI i) 160 := by
  have e : nI k * 4 + nI i = nI (4 * k + i) := by
    rw [show (4 : Int32) = nI 4 from rfl, pk_mul, nI_add]
    congr 1
    omega
  rw [e]
  exact ⟨nI_clamp (by omega), vp_in_nI (by omega) (by omega)⟩
theorem am_n40 {k : Nat} (hk : k < 40) : (nI k * 4).toNatClampNeg = 4 * k ∧ vp_in (nI k * 4) 160 := by
  have z := am_n4 0 hk (by omega)
  rw [show nI k * 4 + nI 0 = nI k * 4 from Int32.add_zero _] at z
  exact z
theorem am_w4 {k : Nat} (i : Nat) (hk : k < 40) (hi : i < 4) : (4 * nI k + nI i).toNatClampNeg = 4 * k + i ∧ vp_in (4 * nI k + nI i) 160 := by
  rw [Int32.mul_comm]
  exact am_n4 i hk hi
theorem am_w40 {k : Nat} (hk : k < 40) : (4 * nI k).toNatClampNeg = 4 * k ∧ vp_in (4 * nI k) 160 := by
  rw [Int32.mul_comm]
  exact am_n40 hk
/-- keepChange -/
theorem sp_12 {x y z v : Int32} {k : Nat} (hk : k ≤ 40) (e : mi 13 1 = nI k)
    (h : ∀ mi2, am_kp am_F13 mi mi2 → mi2 13 1 = nI (am_k39 k + 1) → mi2 13 2 = 0 → (∀ j, j < 4 * am_k39 k → mi2 14 j = mi 14 (j + am_s40 k)) → mi2 14 (4 * am_k39 k) = x → mi2 14 (4 * am_k39 k + 1) = y → mi2 14 (4 * am_k39 k + 2) = z → mi2 14 (4 * am_k39 k + 3) = v → R none mi2 ml) : am_call (d + 1) 12 [.ref 13, .int x, .int y, .int z, .int v] mi ml R := by
  refine bk_12 ?_
  rw [e]
  refine pk_lt k 40 (fun q => ?_) (fun q => ?_) rfl rfl
  · obtain ⟨a0, b0⟩ := am_n40 q
    obtain ⟨a1, b1⟩ := am_n4 1 q (by omega)
    obtain ⟨a2, b2⟩ := am_n4 2 q (by omega)
    obtain ⟨a3, b3⟩ := am_n4 3 q (by omega)
    have e1 : am_k39 k = k := if_neg (by omega)
    have e2 : am_s40 k = 0 := if_neg (by omega)
    rw [e1, e2] at h
    refine ⟨b0, b1, b2, b3, ?_⟩
    rw [show (1 : Int32) = nI 1 from rfl, show (2 : Int32) = nI 2 from rfl, show (3 : Int32) = nI 3 from rfl, a0, a1, a2, a3]
    refine h _ (am_kp_u (am_kp_u (am_kp_u (am_kp_u (am_kp_u (am_kp_u am_kp_r rfl) rfl) rfl) rfl) rfl) rfl) ?_ am_ui_k (fun j hj => ?_) ?_ ?_ ?_ ?_
    · rw [am_ui_n (by omega), am_ui_k, nI_add]
    · rw [am_ui_c (by omega), am_ui_c (by omega), am_ui_n (by omega), am_ui_n (by omega), am_ui_n (by omega), am_ui_n (by omega)]
      rfl
    · rw [am_ui_c (by omega), am_ui_c (by omega), am_ui_n (by omega), am_ui_n (by omega), am_ui_n (by omega), am_ui_k]
    · rw [am_ui_c (by omega), am_ui_c (by omega), am_ui_n (by omega), am_ui_n (by omega), am_ui_k]
    · rw [am_ui_c (by omega), am_ui_c (by omega), am_ui_n (by omega), am_ui_k]
    · rw [am_ui_c (by omega), am_ui_c (by omega), am_ui_k]
  · have e0 : k = 40 := by omega
    subst e0
    have e1 : am_k39 40 = 39 := rfl
    have e2 : am_s40 40 = 4 := rfl
    rw [e1, e2] at h
    refine ⟨by decide, by decide, by decide, by decide, by decide, am_vp (by decide) (by decide), am_vp (by decide) (by decide), am_vp (by decide) (by decide), am_vp (by decide) (by decide), ?_⟩
    have c0 : ((39 : Int32) * 4).toNatClampNeg = 156 := by decide
    have c1 : ((39 : Int32) * 4 + 1).toNatClampNeg = 157 := by decide
    have c2 : ((39 : Int32) * 4 + 2).toNatClampNeg = 158 := by decide
    have c3 : ((39 : Int32) * 4 + 3).toNatClampNeg = 159 := by decide
    have c4 : (4 : Int32).toNatClampNeg = 4 := by decide
    have c5 : (0 : Int32).toNatClampNeg = 0 := by decide
    have c6 : (156 : Int32).toNatClampNeg = 156 := by decide
    rw [c0, c1, c2, c3, c4, c5, c6]
    refine h _ (am_kp_u (am_kp_u (am_kp_u (am_kp_u (am_kp_u (am_kp_u (am_kp_u (fun c j q => ?_) rfl) rfl) rfl) rfl) rfl) rfl) rfl) ?_ am_ui_k (fun j hj => ?_) ?_ ?_ ?_ ?_
    · unfold am_ci
      rw [if_neg]
      rintro ⟨rfl, -⟩
      cases q
    · rw [am_ui_n (by omega), am_ui_k]
      rfl
    · rw [am_ui_c (by omega), am_ui_c (by omega), am_ui_n (by omega), am_ui_n (by omega), am_ui_n (by omega), am_ui_n (by omega), am_ui_c (by omega)]
      unfold am_ci
      rw [if_pos ⟨rfl, by omega, by omega⟩]
      congr 1
      omega
    · rw [am_ui_c (by omega), am_ui_c (by omega), am_ui_n (by omega), am_ui_n (by omega), am_ui_n (by omega), am_ui_k]
    · rw [am_ui_c (by omega), am_ui_c (by omega), am_ui_n (by omega), am_ui_n (by omega), am_ui_k]
    · rw [am_ui_c (by omega), am_ui_c (by omega), am_ui_n (by omega), am_ui_k]
    · rw [am_ui_c (by omega), am_ui_c (by omega), am_ui_k]
/-- mend, of the class -/
theorem sp_121 {x y v : Int32} {k : Nat} (hc : am_cx n m u mi) (hs : am_sta mi) (hk : k ≤ 40) (e : mi 13 1 = nI k)
    (hb : (∀ w i p, am_val n m w i → am_lo w ≤ p → p ≤ am_hi w → y = nI w → x = nI i → v = nI p → False) → R (some (.int (-1))) mi ml)
    (h0 : ∀ w i p, am_val n m w i → am_lo w ≤ p → p ≤ am_hi w → y = nI w → x = nI i → v = nI p → u w i = v → R (some (.int (u w i))) mi ml)
    (h1 : ∀ w i p, am_val n m w i → am_lo w ≤ p → p ≤ am_hi w → y = nI w → x = nI i → v = nI p → ¬ u w i = v → ∀ mi1 mi2, am_kp am_F13 mi mi1 → mi1 13 1 = nI (am_k39 k + 1) → mi1 13 2 = 0 → (∀ j, j < 4 * am_k39 k → mi1 14 j = mi 14 (j + am_s40 k)) → mi1 14 (4 * am_k39 k) = x → mi1 14 (4 * am_k39 k + 1) = y → mi1 14 (4 * am_k39 k + 2) = u w i → mi1 14 (4 * am_k39 k + 3) = v →
      am_cx n m (am_uu u w i v) mi2 → am_kp am_FC mi1 mi2 → mi2 1 3 = mi1 1 3 + 1 → (∀ w2 i2, w2 < 10 → (w2 = w → i2 = i → False) → mi2 (3 + w2) i2 = mi1 (3 + w2) i2) → R (some (.int (u w i))) mi2 ml) : am_call (d + 4) 121 [.ref 0, .int x, .int y, .int v] mi ml R := by
  have no : ∀ {w i : Nat}, am_val n m w i → w < 10 := by
    intro w i h
    unfold am_val at h
    omega
  refine bk_121 (sp_2 hc (fun w i hv e1 e2 => am_ri_i (am_y ?_)) (fun g => am_ri_i (am_n0 (hb fun w i p hv _ _ e1 e2 _ => g w i hv e1 e2))))
  have hw := no hv
  refine sp_3 hs hw e1 (fun p g1 g2 e3 => am_ri_i (am_yn ?_)) (fun g => am_ri_i (am_nn (hb fun w2 i2 p hv2 g1 g2 f1 f2 f3 => ?_)))
  · refine sp_4c hc e1 e2 hv (am_ri_i ⟨fun q => h0 w i p hv g1 g2 e1 e2 e3 q, fun q => ?_⟩)
    refine sp_12 hk e (fun mi1 k1 a1 a2 a3 a4 a5 a6 a7 => am_rv_i ?_)
    have hc1 : am_cx n m u mi1 := am_cx_on hc (k1 _ _ rfl) (k1 _ _ rfl) (fun w i hw => k1 _ _ (decide_eq_false (by omega)))
    exact sp_5 hc1 hv e1 e2 (fun mi2 hc2 k2 b1 _ _ b4 => am_rv_i (h1 w i p hv g1 g2 e1 e2 e3 q mi1 mi2 k1 a1 a2 a3 a4 a5 a6 a7 hc2 k2 b1 b4))
  · have hw2 := no hv2
    have ew : w = w2 := (nI_eq (by omega) (by omega)).mp (e1.symm.trans f1)
    subst ew
    have := am_lohi w hw
    rw [f3, am_ti (by omega)] at g
    omega
end SP22
