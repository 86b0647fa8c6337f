/-! the class's law: searching a text, stack, steps -/
def am_ix (w : Nat → Int32) (c : Int32) : Nat → Nat → Int32
  | _, 0 => -1
  | i, n + 1 => if w i = c then nI i else am_ix w c (i + 1) n
theorem am_ix_c {w w2 : Nat → Int32} {c : Int32} : ∀ n i, (∀ j, i ≤ j → j < i + n → w j = w2 j) → am_ix w c i n = am_ix w2 c i n
  | 0, _, _ => rfl
  | n + 1, i, h => by
    unfold am_ix
    rw [h i (Nat.le_refl i) (by omega), am_ix_c n (i + 1) (fun j a b => h j (by omega) (by omega))]
def am_chr (t : Nat) : Nat := am_nth 0 [115, 119, 100, 97, 110, 107, 124, 38, 60, 61, 62, 43, 45, 42, 47, 37, 33, 126] t
theorem am_chr_r : ∀ t, t < 18 → 33 ≤ am_chr t ∧ am_chr t < 127 ∧ am_chr t ≠ 59 ∧ am_chr t ≠ 63 := by decide
theorem am_chr_i : ∀ t, t < 18 → ∀ s, s < 18 → am_chr t = am_chr s → t = s := by decide
def am_xc (t : Nat) : Int32 := if t < 18 then -(nI (am_chr t)) else nI (t - 18)
theorem am_neg_i {n : Nat} (h : n < 2 ^ 31) : (-(nI n)).toInt = -(n : Int) := by
  rw [Int32.toInt_neg, am_ti h]
  have : (n : Int) < 2147483648 := by omega
  rw [Int.bmod_eq_of_le] <;> omega
theorem am_neg_neg {x : Int32} : -(-x) = x := by simp
theorem am_i2c_k : ∀ k, k < 128 → am_i2c (nI k) = nI k := by decide
theorem am_i8 : ∀ k, k < 128 → (nI k).toInt8.toInt32 = nI k := by decide
theorem am_shr0 {x : Int32} : am_shr x 0 = x := by
  unfold am_shr
  simp
theorem am_ixw : ∀ t, t < 18 → am_ix (fun j => nI (am_chr j)) (nI (am_chr t)) 0 6 = if t < 6 then nI t else -1 := by decide
section SP36
variable {d : Nat} {mi : am_MI} {ml : am_ML} {R : am_R} {o b : Nat}
theorem sp_279 (ho : am_oc o = 100) (hc : mi o 1 = 0) (h : R (some (.int 0)) mi ml) : am_call (d + 1) 279 [.ref o] mi ml R := by
  refine bk_279 ⟨fun q => absurd q (by decide), fun _ => am_need_i (by rw [ho]; rfl) ⟨Or.inl hc, ?_⟩⟩
  rw [hc]
  exact h
theorem sp_280 (ho : am_oc o = 100) (hc : mi o 1 = 0) (h : R (some (.int 1)) mi ml) : am_call (d + 1) 280 [.ref o] mi ml R :=
  bk_280 ⟨fun q => absurd q (by decide), fun _ => am_need_i (by rw [ho]; rfl) ⟨fun q => absurd hc q, fun _ => ⟨am_b1, h⟩⟩⟩
theorem am_len8 {mi : am_MI} (hk : am_kd b = 8) : am_len mi b = am_n b := by
  unfold am_len
  rw [hk]
  rfl
theorem sp_276 (ho : am_oc o = 100) (hk : am_kd b = 8) (hr : am_rf o 0 = b) (hc : mi o 1 = 0) (h : R (some (.int (nI (am_n b)))) mi ml) : am_call (d + 2) 276 [.ref o] mi ml R := by
  refine bk_276 (am_need_i (by rw [ho]; rfl) (am_need_i (by rw [hr, hk]; rfl) (am_need_i (by rw [ho]; rfl) (sp_279 ho hc (am_ri_i ?_)))))
  rw [hr, am_len8 hk, am_shr0]
  exact h
theorem sp_281 {k : Nat} {x : Int32} (hx : x = nI k) (hk : k < 128) (h : R (some (.int 1)) mi ml) : am_call (d + 1) 281 [.int x] mi ml R := by
  have e := am_ti (n := k) (by omega)
  refine bk_281 ⟨fun q => ?_, fun _ => ⟨fun q => ?_, fun _ => ⟨am_b1, h⟩⟩⟩
  · rw [am_lt_i, hx, e, am_l0] at q
    omega
  · rw [am_lt_i, hx, e, am_l255] at q
    omega
theorem sp_283 {k n : Nat} {x y z : Int32} (hkd : am_kd b = 8) (hx : x = nI k) (hk : k < 128) (hy : y = 0) (hz : z = nI n) (hn : n ≤ am_n b) (hb : am_n b < 1000) (h : R (some (.int (am_ix (mi b) (nI k) 0 n))) mi ml) : am_call (d + 1) 283 [.ref b, .int x, .int y, .int z] mi ml R := by
  subst hz
  refine bk_283 ?_
  rw [hx, am_i8 k hk, hy]
  have loop := am_for n (fun j => R (some (.int (am_ix (mi b) (nI k) j (n - j)))) mi ml → am_wp (am_call d) mt_283 R 5 [some (.ref b), none, none, some (.int (nI n)), some (.int (nI k)), some (.int (nI j))] [] mi ml) (fun h => by
    refine bk_283_5 (pk_le n n (fun _ => ?_) (fun w => absurd w (Nat.lt_irrefl _)) rfl rfl)
    rw [Nat.sub_self] at h
    exact h) (fun j hj ih h => by
    refine bk_283_5 (pk_le n j (fun w => absurd w (by omega)) (fun _ => am_need_i (by rw [hkd]; rfl) ⟨by rw [am_len8 hkd]; exact vp_in_nI (by omega) (by omega), ?_⟩) rfl rfl)
    rw [nI_clamp (by omega)]
    rw [show n - j = n - (j + 1) + 1 from by omega] at h
    unfold am_ix at h
    refine ⟨fun w => ?_, fun w => ?_⟩
    · rw [if_neg w] at h
      rw [nI_1]
      exact ih h
    · rw [if_pos (Decidable.not_not.mp w)] at h
      exact h)
  exact loop 0 (Nat.zero_le _) h
theorem am_max0 {n : Nat} : am_max 0 0 = 0 := rfl
theorem sp_282 {k : Nat} {x y z : Int32} (hkd : am_kd b = 8) (hx : x = nI k) (hk : k < 128) (hy : y = 0) (hz : z = nI (am_n b)) (hb : am_n b < 1000) (hp : 0 < am_n b) (h : R (some (.int (am_ix (mi b) (nI k) 0 (am_n b)))) mi ml) : am_call (d + 2) 282 [.ref b, .int x, .int y, .int z] mi ml R := by
  have e0 : am_max y 0 = 0 := by rw [hy]; rfl
  have e1 : am_min z (Int32.ofNat (am_len mi b)) = nI (am_n b) := by
    rw [am_len8 hkd, hz]
    unfold am_min
    by_cases q : Int32.ofNat (am_n b) < nI (am_n b)
    · rw [if_pos q]
      rfl
    · rw [if_neg q]
  refine bk_282 (sp_281 hx hk (am_ri_i (am_yn (am_need_i (by rw [hkd]; rfl) ?_))))
  rw [e0, e1]
  refine ⟨fun _ => sp_283 hkd hx hk rfl rfl (Nat.le_refl _) hb (am_ri_i h), fun w => absurd ?_ w⟩
  rw [am_lt_i, am_l0, am_ti (by omega)]
  omega
theorem sp_277 {k : Nat} {x : Int32} (ho : am_oc o = 100) (hkd : am_kd b = 8) (hr : am_rf o 0 = b) (hb : am_n b < 1000) (hp : 0 < am_n b) (hc : mi o 1 = 0) (hx : x = nI k) (hk : k < 128)
    (h : R (some (.int (am_ix (mi b) (nI k) 0 (am_n b)))) mi ml) : am_call (d + 4) 277 [.ref o, .int x] mi ml R := by
  refine bk_277 (am_need_i (by rw [ho]; rfl) (bk_278 (am_need_i (by rw [ho]; rfl) (sp_280 ho hc (am_ri_i (am_y (am_need_i (by rw [ho]; rfl) (am_need_i (by rw [ho]; rfl) (sp_276 ho hkd hr hc (am_ri_i ?_))))))))))
  rw [hr]
  exact sp_282 hkd hx hk rfl rfl hb hp (am_ri_i (am_ri_i h))
def am_F19 : Nat → Nat → Bool := fun c j => decide (c = 19 ∨ (c = 15 ∧ j = 9))
/-- push -/
theorem sp_81 {x : Int32} {n : Nat} (hn : n < 121) (h9 : mi 15 9 = nI n) (h : ∀ m2, am_kp am_F19 mi m2 → m2 15 9 = nI (n + 1) → (∀ j, m2 19 j = upd (mi 19) n x j) → R none m2 ml) : am_call (d + 1) 81 [.ref 15, .int x] mi ml R := by
  refine bk_81 ⟨fun w => ?_, fun _ => ?_⟩
  · have w : nI 121 ≤ mi 15 9 := w
    rw [h9, am_le_i, am_ti (by omega), am_ti (by omega)] at w
    omega
  · rw [h9, nI_1, nI_clamp (by omega)]
    refine ⟨vp_in_nI hn (by omega), h _ (am_kp_u (am_kp_u am_kp_r rfl) rfl) am_ui_k (fun j => ?_)⟩
    rw [am_ui_c (by decide)]
    unfold upd
    by_cases e : j = n
    · rw [if_pos e, e, am_ui_k]
    · rw [if_neg e, am_ui_n (fun _ w => e w)]
/-- pop -/
theorem sp_82 {n : Nat} (h1 : 1 ≤ n) (hn : n ≤ 121) (h9 : mi 15 9 = nI n) (h : ∀ m2, am_kp am_F19 mi m2 → m2 15 9 = nI (n - 1) → (∀ j, m2 19 j = mi 19 j) → R (some (.int (mi 19 (n - 1)))) m2 ml) : am_call (d + 1) 82 [.ref 15] mi ml R := by
  refine bk_82 ⟨fun _ => ?_, fun w => absurd ?_ w⟩
  · rw [h9, show nI n - 1 = nI (n - 1) from pk_sub (b := 1) h1, nI_clamp (by omega)]
    exact ⟨vp_in_nI (by omega) (by omega), h _ (am_kp_u am_kp_r rfl) am_ui_k (fun j => am_ui_c (by decide))⟩
  · rw [h9, am_lt_i, am_l0, am_ti (by omega)]
    omega
/-- joined -/
theorem sp_80 {x y z : Int32} {t : Nat} (h6 : 6 ≤ t) (h16 : t < 16) (hx : x = nI (am_chr t)) (h : R (some (.int (am_bin t y z))) mi ml) : am_call (d + 1) 80 [.int x, .int y, .int z] mi ml R := by
  subst hx
  have e : t = 6 ∨ t = 7 ∨ t = 8 ∨ t = 9 ∨ t = 10 ∨ t = 11 ∨ t = 12 ∨ t = 13 ∨ t = 14 ∨ t = 15 := by omega
  rcases e with e | e | e | e | e | e | e | e | e | e
  · subst e
    have h : R (some (.int (if y = 0 ∧ z = 0 then 0 else 1))) mi ml := h
    refine bk_80 ⟨fun w => absurd w (by decide), fun _ => ⟨fun w => absurd w (by decide), fun _ => ⟨fun w => absurd w (by decide), fun _ => ⟨fun w => absurd w (by decide), fun _ => ⟨fun w => absurd w (by decide), fun _ => ⟨fun w => absurd w (by decide), fun _ => ⟨fun w => absurd w (by decide), fun _ => ⟨fun w => absurd w (by decide), fun _ => ⟨fun w => absurd w (by decide), fun _ => ⟨fun w => absurd w (by decide), fun _ => ⟨fun w => absurd w (by decide), fun _ => ⟨fun w => absurd w (by decide), fun _ => ⟨fun w => absurd w (by decide), fun _ => ⟨fun w => absurd w (by decide), fun _ => ⟨fun w => absurd w (by decide), fun _ => ⟨fun w => absurd w (by decide), fun _ => ⟨fun w => absurd w (by decide), fun _ => ⟨fun w => absurd w (by decide), fun _ => ⟨fun w => absurd w (by decide), fun _ => ⟨fun w => absurd w (by decide), fun _ => ⟨fun w => absurd w (by decide), fun _ => ⟨fun w => absurd w (by decide), fun _ => ⟨fun w => absurd w (by decide), fun _ => ⟨fun w => absurd w (by decide), fun _ => ⟨fun w => absurd w (by decide), fun _ => ⟨fun w => absurd w (by decide), fun _ => ?_⟩⟩⟩⟩⟩⟩⟩⟩⟩⟩⟩⟩⟩⟩⟩⟩⟩⟩⟩⟩⟩⟩⟩⟩⟩⟩
    exact ⟨fun q => by
      rw [if_neg (fun w => q w.1)] at h
      exact h, fun q => ⟨fun q2 => by
      rw [if_pos ⟨Decidable.not_not.mp q, q2⟩] at h
      exact h, fun q2 => by
      rw [if_neg (fun w => q2 w.2)] at h
      exact h⟩⟩
  · subst e
    have h : R (some (.int (if y = 0 ∨ z = 0 then 0 else 1))) mi ml := h
    refine bk_80 ⟨fun w => absurd w (by decide), fun _ => ⟨fun _ => ?_, fun w => absurd rfl w⟩⟩
    exact ⟨fun q => by
      rw [if_pos (Or.inl q)] at h
      exact h, fun q => ⟨fun q2 => by
      rw [if_pos (Or.inr q2)] at h
      exact h, fun q2 => by
      rw [if_neg (fun w => w.elim q q2)] at h
      exact h⟩⟩
  · subst e
    have h : R (some (.int (if y < z then 1 else 0))) mi ml := h
    refine bk_80 ⟨fun w => absurd w (by decide), fun _ => ⟨fun w => absurd w (by decide), fun _ => ⟨fun w => absurd w (by decide), fun _ => ⟨fun w => absurd w (by decide), fun _ => ⟨fun w => absurd w (by decide), fun _ => ⟨fun w => absurd w (by decide), fun _ => ⟨fun w => absurd w (by decide), fun _ => ⟨fun w => absurd w (by decide), fun _ => ⟨fun w => absurd w (by decide), fun _ => ⟨fun w => absurd w (by decide), fun _ => ⟨fun w => absurd w (by decide), fun _ => ⟨fun w => absurd w (by decide), fun _ => ⟨fun w => absurd w (by decide), fun _ => ⟨fun w => absurd w (by decide), fun _ => ⟨fun w => absurd w (by decide), fun _ => ⟨fun w => absurd w (by decide), fun _ => ⟨fun w => absurd w (by decide), fun _ => ⟨fun w => absurd w (by decide), fun _ => ⟨fun w => absurd w (by decide), fun _ => ⟨fun w => absurd w (by decide), fun _ => ⟨fun w => absurd w (by decide), fun _ => ⟨fun w => absurd w (by decide), fun _ => ⟨fun w => absurd w (by decide), fun _ => ⟨fun _ => ?_, fun w => absurd rfl w⟩⟩⟩⟩⟩⟩⟩⟩⟩⟩⟩⟩⟩⟩⟩⟩⟩⟩⟩⟩⟩⟩⟩⟩
    exact ⟨fun q => by
      rw [if_neg (by rw [am_le_i] at q; rw [am_lt_i]; omega)] at h
      exact h, fun q => by
      rw [if_pos (by rw [am_le_i] at q; rw [am_lt_i]; omega)] at h
      exact h⟩
  · subst e
    have h : R (some (.int (if y = z then 1 else 0))) mi ml := h
    refine bk_80 ⟨fun w => absurd w (by decide), fun _ => ⟨fun w => absurd w (by decide), fun _ => ⟨fun w => absurd w (by decide), fun _ => ⟨fun w => absurd w (by decide), fun _ => ⟨fun w => absurd w (by decide), fun _ => ⟨fun w => absurd w (by decide), fun _ => ⟨fun w => absurd w (by decide), fun _ => ⟨fun w => absurd w (by decide), fun _ => ⟨fun w => absurd w (by decide), fun _ => ⟨fun w => absurd w (by decide), fun _ => ⟨fun w => absurd w (by decide), fun _ => ⟨fun w => absurd w (by decide), fun _ => ⟨fun w => absurd w (by decide), fun _ => ⟨fun w => absurd w (by decide), fun _ => ⟨fun w => absurd w (by decide), fun _ => ⟨fun w => absurd w (by decide), fun _ => ⟨fun w => absurd w (by decide), fun _ => ⟨fun w => absurd w (by decide), fun _ => ⟨fun w => absurd w (by decide), fun _ => ⟨fun w => absurd w (by decide), fun _ => ⟨fun w => absurd w (by decide), fun _ => ⟨fun w => absurd w (by decide), fun _ => ⟨fun w => absurd w (by decide), fun _ => ⟨fun w => absurd w (by decide), fun _ => ⟨fun _ => ?_, fun w => absurd rfl w⟩⟩⟩⟩⟩⟩⟩⟩⟩⟩⟩⟩⟩⟩⟩⟩⟩⟩⟩⟩⟩⟩⟩⟩⟩
    exact ⟨fun q => by
      rw [if_neg q] at h
      exact h, fun q => by
      rw [if_pos (Decidable.not_not.mp q)] at h
      exact h⟩
  · subst e
    have h : R (some (.int (if z < y then 1 else 0))) mi ml := h
    refine bk_80 ⟨fun w => absurd w (by decide), fun _ => ⟨fun w => absurd w (by decide), fun _ => ⟨fun w => absurd w (by decide), fun _ => ⟨fun w => absurd w (by decide), fun _ => ⟨fun w => absurd w (by decide), fun _ => ⟨fun w => absurd w (by decide), fun _ => ⟨fun w => absurd w (by decide), fun _ => ⟨fun w => absurd w (by decide), fun _ => ⟨fun w => absurd w (by decide), fun _ => ⟨fun w => absurd w (by decide), fun _ => ⟨fun w => absurd w (by decide), fun _ => ⟨fun w => absurd w (by decide), fun _ => ⟨fun w => absurd w (by decide), fun _ => ⟨fun w => absurd w (by decide), fun _ => ⟨fun w => absurd w (by decide), fun _ => ⟨fun w => absurd w (by decide), fun _ => ⟨fun w => absurd w (by decide), fun _ => ⟨fun w => absurd w (by decide), fun _ => ⟨fun w => absurd w (by decide), fun _ => ⟨fun w => absurd w (by decide), fun _ => ⟨fun w => absurd w (by decide), fun _ => ⟨fun w => absurd w (by decide), fun _ => ⟨fun w => absurd w (by decide), fun _ => ⟨fun w => absurd w (by decide), fun _ => ⟨fun w => absurd w (by decide), fun _ => ⟨fun _ => ?_, fun w => absurd rfl w⟩⟩⟩⟩⟩⟩⟩⟩⟩⟩⟩⟩⟩⟩⟩⟩⟩⟩⟩⟩⟩⟩⟩⟩⟩⟩
    exact ⟨fun q => by
      rw [if_neg (by rw [am_le_i] at q; rw [am_lt_i]; omega)] at h
      exact h, fun q => by
      rw [if_pos (by rw [am_le_i] at q; rw [am_lt_i]; omega)] at h
      exact h⟩
  · subst e
    have h : R (some (.int (y + z))) mi ml := h
    refine bk_80 ⟨fun w => absurd w (by decide), fun _ => ⟨fun w => absurd w (by decide), fun _ => ⟨fun w => absurd w (by decide), fun _ => ⟨fun w => absurd w (by decide), fun _ => ⟨fun w => absurd w (by decide), fun _ => ⟨fun w => absurd w (by decide), fun _ => ⟨fun _ => ?_, fun w => absurd rfl w⟩⟩⟩⟩⟩⟩⟩
    exact h
  · subst e
    have h : R (some (.int (y - z))) mi ml := h
    refine bk_80 ⟨fun w => absurd w (by decide), fun _ => ⟨fun w => absurd w (by decide), fun _ => ⟨fun w => absurd w (by decide), fun _ => ⟨fun w => absurd w (by decide), fun _ => ⟨fun w => absurd w (by decide), fun _ => ⟨fun w => absurd w (by decide), fun _ => ⟨fun w => absurd w (by decide), fun _ => ⟨fun w => absurd w (by decide), fun _ => ⟨fun _ => ?_, fun w => absurd rfl w⟩⟩⟩⟩⟩⟩⟩⟩⟩
    exact h
  · subst e
    have h : R (some (.int (y * z))) mi ml := h
    refine bk_80 ⟨fun w => absurd w (by decide), fun _ => ⟨fun w => absurd w (by decide), fun _ => ⟨fun w => absurd w (by decide), fun _ => ⟨fun w => absurd w (by decide), fun _ => ⟨fun w => absurd w (by decide), fun _ => ⟨fun _ => ?_, fun w => absurd rfl w⟩⟩⟩⟩⟩⟩
    exact h
  · subst e
    have h : R (some (.int (if z = 0 then 0 else y / z))) mi ml := h
    refine bk_80 ⟨fun w => absurd w (by decide), fun _ => ⟨fun w => absurd w (by decide), fun _ => ⟨fun w => absurd w (by decide), fun _ => ⟨fun w => absurd w (by decide), fun _ => ⟨fun w => absurd w (by decide), fun _ => ⟨fun w => absurd w (by decide), fun _ => ⟨fun w => absurd w (by decide), fun _ => ⟨fun w => absurd w (by decide), fun _ => ⟨fun w => absurd w (by decide), fun _ => ⟨fun w => absurd w (by decide), fun _ => ⟨fun _ => ?_, fun w => absurd rfl w⟩⟩⟩⟩⟩⟩⟩⟩⟩⟩⟩
    exact ⟨fun q => ⟨q, by
      rw [if_neg q] at h
      exact h⟩, fun q => by
      rw [if_pos (Decidable.not_not.mp q)] at h
      exact h⟩
  · subst e
    have h : R (some (.int (if z = 0 then 0 else am_rem y z))) mi ml := h
    refine bk_80 ⟨fun _ => ?_, fun w => absurd rfl w⟩
    exact ⟨fun q => ⟨q, by
      rw [if_neg q] at h
      exact h⟩, fun q => by
      rw [if_pos (Decidable.not_not.mp q)] at h
      exact h⟩
end SP36
