/-! the law's text, read by the class -/
def am_tx (i : Nat) : List Nat := am_nth [] [[38], [40, 33, 45], [41], [42, 47, 37], [43, 45], [59], [60, 61, 62], [63], [115, 119, 100, 97, 110, 107], [124]] i
def am_txs (mi : am_MI) : Prop := ∀ i, i < 10 → mi (118 + i) 1 = 0 ∧ ∀ j, j < (am_tx i).length → mi (128 + i) j = nI ((am_tx i).getD j 0)
theorem am_k118 : ∀ i, i < 10 → am_oc (118 + i) = 100 ∧ am_rf (118 + i) 0 = 128 + i ∧ am_kd (128 + i) = 8 ∧ am_n (128 + i) = (am_tx i).length ∧ 0 < (am_tx i).length ∧ (am_tx i).length < 1000 := by decide
theorem am_ixt : ∀ i, i < 10 → ∀ k, k < 256 → decide (0 ≤ am_ix (fun j => nI ((am_tx i).getD j 0)) ((nI k).toInt8.toInt32) 0 (am_tx i).length) = (am_tx i).contains k := by decide +kernel
theorem am_i2c_w : ∀ k, k < 256 → am_i2c (nI k) = nI k := by decide +kernel
def am_ti5 (lv : Nat) : Nat := am_nth 3 [9, 0, 6, 4, 3] lv
theorem am_sgx : ∀ lv, lv < 5 → ∀ b, b < 256 → ((am_tx (am_ti5 lv)).contains b = true ↔ am_sgn lv b ≠ 0) ∧ (am_sgn lv b ≠ 0 → am_chr (am_sgn lv b) = b ∧ b ≠ 0) := by decide +kernel
theorem am_nmx : ∀ b, b < 256 → ((am_tx 8).contains b = true ↔ am_nmo b < 6) ∧ (am_nmo b < 6 → am_chr (am_nmo b) = b ∧ b ≠ 0) := by decide +kernel
theorem am_opx : ∀ b, b < 256 → ((am_tx 1).contains b = true ↔ b = 33 ∨ b = 45 ∨ b = 40) ∧ ((am_tx 2).contains b = true ↔ b = 41) ∧ ((am_tx 5).contains b = true ↔ b = 59) ∧ ((am_tx 7).contains b = true ↔ b = 63) := by decide +kernel
theorem am_nmd : ∀ b, b < 256 → am_dig b = true → ¬ am_nmo b < 6 := by decide +kernel
theorem am_gd_l {a b : List Int32} {j : Nat} (h : j < a.length) : (a ++ b).getD j 0 = a.getD j 0 := by
  rw [List.getD_eq_getElem?_getD, List.getD_eq_getElem?_getD, List.getElem?_append_left h]
theorem am_gd_r {a b : List Int32} {j : Nat} : (a ++ b).getD (a.length + j) 0 = b.getD j 0 := by
  rw [List.getD_eq_getElem?_getD, List.getD_eq_getElem?_getD, List.getElem?_append_right (Nat.le_add_right _ _), Nat.add_sub_cancel_left]
def am_F71 : Nat → Nat → Bool := fun c j => decide (c = 17 ∨ (c = 15 ∧ (j = 2 ∨ j = 4)))
/-- what is read from: so many bytes; where the class stands, what it has drafted -/
def am_cb (T : Nat → Nat) (L : Nat) (B : am_MI) : Prop := L ≤ 120 ∧ B 15 1 = nI L ∧ (∀ j, j < L → B 16 j = nI (T j) ∧ T j < 256) ∧ am_txs B
def am_cs (B : am_MI) (p : Nat) (S : List Int32) (m : am_MI) : Prop := am_kp am_F71 B m ∧ m 15 2 = nI p ∧ m 15 4 = nI S.length ∧ S.length ≤ 121 ∧ ∀ j, j < S.length → m 17 j = S.getD j 0
def am_cf (B : am_MI) (p : Nat) (m : am_MI) : Prop := am_kp am_F71 B m ∧ m 15 2 = nI p ∧ ∃ k, k ≤ 121 ∧ m 15 4 = nI k
theorem am_cs_f {B : am_MI} {p : Nat} {S : List Int32} {m : am_MI} (h : am_cs B p S m) : am_cf B p m := ⟨h.1, h.2.1, S.length, h.2.2.2.1, h.2.2.1⟩
def am_cG (B : am_MI) (D g : Nat) (a : List Value) (r : am_Res) (S : List Int32) (m : am_MI) (ml : am_ML) : Prop := ∀ R : am_R, (r.1 = true → ∀ m2, am_cs B r.2.1 (S ++ r.2.2.map am_xc) m2 → R (some (.int 1)) m2 ml) → (r.1 = false → ∀ m2, am_cf B r.2.1 m2 → R (some (.int 0)) m2 ml) → am_call D g a m ml R
section SP67
variable {d : Nat} {mi : am_MI} {ml : am_ML} {R : am_R} {o b : Nat}
theorem sp_281w {k : Nat} {x : Int32} (hx : x = nI k) (hk : k < 256) (h : R (some (.int 1)) mi ml) : am_call (d + 1) 281 [.int x] mi ml R := by
  have e := am_ti (n := k) (by omega)
  refine bk_281 ⟨fun q => ?_, fun _ => ⟨fun q => ?_, fun _ => ⟨am_b1, h⟩⟩⟩
  · rw [am_lt_i, hx, e, am_l0] at q
    omega
  · rw [am_lt_i, hx, e, am_l255] at q
    omega
theorem sp_283w {k n : Nat} {x y z : Int32} (hkd : am_kd b = 8) (hx : x = nI k) (hk : k < 256) (hy : y = 0) (hz : z = nI n) (hn : n ≤ am_n b) (hb : am_n b < 1000) (h : R (some (.int (am_ix (mi b) ((nI k).toInt8.toInt32) 0 n))) mi ml) : am_call (d + 1) 283 [.ref b, .int x, .int y, .int z] mi ml R := by
  subst hz
  refine bk_283 ?_
  rw [hx, hy]
  have loop := am_for n (fun j => R (some (.int (am_ix (mi b) ((nI k).toInt8.toInt32) j (n - j)))) mi ml → am_wp (am_call d) mt_283 R 5 [some (.ref b), none, none, some (.int (nI n)), some (.int ((nI k).toInt8.toInt32)), some (.int (nI j))] [] mi ml) (fun h => by
    refine bk_283_5 (pk_le n n (fun _ => ?_) (fun w => absurd w (Nat.lt_irrefl _)) rfl rfl)
    rw [Nat.sub_self] at h
    exact h) (fun j hj ih h => by
    refine bk_283_5 (pk_le n j (fun w => absurd w (by omega)) (fun _ => am_need_i (by rw [hkd]; rfl) ⟨by rw [am_len8 hkd]; exact vp_in_nI (by omega) (by omega), ?_⟩) rfl rfl)
    rw [nI_clamp (by omega)]
    rw [show n - j = n - (j + 1) + 1 from by omega] at h
    unfold am_ix at h
    refine ⟨fun w => ?_, fun w => ?_⟩
    · rw [if_neg w] at h
      rw [nI_1]
      exact ih h
    · rw [if_pos (Decidable.not_not.mp w)] at h
      exact h)
  exact loop 0 (Nat.zero_le _) h
theorem sp_282w {k : Nat} {x y z : Int32} (hkd : am_kd b = 8) (hx : x = nI k) (hk : k < 256) (hy : y = 0) (hz : z = nI (am_n b)) (hb : am_n b < 1000) (hp : 0 < am_n b) (h : R (some (.int (am_ix (mi b) ((nI k).toInt8.toInt32) 0 (am_n b)))) mi ml) : am_call (d + 2) 282 [.ref b, .int x, .int y, .int z] mi ml R := by
  have e0 : am_max y 0 = 0 := by rw [hy]; rfl
  have e1 : am_min z (Int32.ofNat (am_len mi b)) = nI (am_n b) := by
    rw [am_len8 hkd, hz]
    unfold am_min
    by_cases q : Int32.ofNat (am_n b) < nI (am_n b)
    · rw [if_pos q]
      rfl
    · rw [if_neg q]
  refine bk_282 (sp_281w hx hk (am_ri_i (am_yn (am_need_i (by rw [hkd]; rfl) ?_))))
  rw [e0, e1]
  refine ⟨fun _ => sp_283w hkd hx hk rfl rfl (Nat.le_refl _) hb (am_ri_i h), fun w => absurd ?_ w⟩
  rw [am_lt_i, am_l0, am_ti (by omega)]
  omega
theorem sp_277w {k : Nat} {x : Int32} (ho : am_oc o = 100) (hkd : am_kd b = 8) (hr : am_rf o 0 = b) (hb : am_n b < 1000) (hp : 0 < am_n b) (hc : mi o 1 = 0) (hx : x = nI k) (hk : k < 256)
    (h : R (some (.int (am_ix (mi b) ((nI k).toInt8.toInt32) 0 (am_n b)))) mi ml) : am_call (d + 4) 277 [.ref o, .int x] mi ml R := by
  refine bk_277 (am_need_i (by rw [ho]; rfl) (bk_278 (am_need_i (by rw [ho]; rfl) (sp_280 ho hc (am_ri_i (am_y (am_need_i (by rw [ho]; rfl) (am_need_i (by rw [ho]; rfl) (sp_276 ho hkd hr hc (am_ri_i ?_))))))))))
  rw [hr]
  exact sp_282w hkd hx hk rfl rfl hb hp (am_ri_i (am_ri_i h))
end SP67
section SP67b
variable {D L p : Nat} {T : Nat → Nat} {B m : am_MI} {ml : am_ML} {R : am_R} {S : List Int32}
theorem am_cs_p {q : Nat} (h : am_cs B p S m) : am_cs B q S (am_ui m 15 2 (nI q)) := by
  obtain ⟨h1, h2, h3, h4, h5⟩ := h
  refine ⟨am_kp_u h1 rfl, am_ui_k, ?_, h4, fun j hj => ?_⟩
  · rw [am_ui_n (by omega)]
    exact h3
  · rw [am_ui_c (by decide)]
    exact h5 j hj
/-- pass -/
theorem sp_76 {i : Nat} (hD : 5 ≤ D) (hi : i < 10) (hb : am_cb T L B) (hk : am_kp am_F71 B m) (hp : p ≤ L) (hat : m 15 2 = nI p) (h1 : p < L → (am_tx i).contains (T p) = true → R (some (.int (nI (T p)))) (am_ui m 15 2 (nI (p + 1))) ml) (h0 : ¬ (p < L ∧ (am_tx i).contains (T p) = true) → R (some (.int 0)) m ml) : am_call D 76 [.ref 15, .ref (118 + i)] m ml R := by
  obtain ⟨d, rfl⟩ : ∃ d, D = d + 5 := ⟨D - 5, by omega⟩
  obtain ⟨b1, b2, b3, b4⟩ := hb
  obtain ⟨a1, a2, a3, a4, a5, a6⟩ := am_k118 i hi
  have e1 : m 15 1 = nI L := (hk 15 1 rfl).trans b2
  refine bk_76 (pk_le L p (fun q => h0 (fun z => by omega)) (fun q => ?_) e1 hat)
  obtain ⟨b5, b6⟩ := b3 p q
  have e16 : m 16 p = nI (T p) := (hk 16 p rfl).trans b5
  rw [hat, nI_clamp (show p < 2 ^ 31 by omega), e16, am_i2c_w (T p) b6]
  refine ⟨vp_in_nI (by omega) (by omega), am_need_i (by rw [a1]; rfl) (sp_277w (k := T p) a1 a3 a2 (by rw [a4]; exact a6) (by rw [a4]; exact a5) ((hk _ _ (decide_eq_false (by omega))).trans (b4 i hi).1) rfl b6 (am_ri_i ?_))⟩
  have ex : am_ix (m (128 + i)) ((nI (T p)).toInt8.toInt32) 0 (am_n (128 + i)) = am_ix (fun j => nI ((am_tx i).getD j 0)) ((nI (T p)).toInt8.toInt32) 0 (am_tx i).length := by
    rw [a4]
    exact am_ix_c _ 0 (fun j _ hj => (hk _ _ (decide_eq_false (by omega))).trans ((b4 i hi).2 j (by omega)))
  have ed := am_ixt i hi (T p) b6
  rw [ex]
  have e2 : (m 15 2 + 1 - 1).toNatClampNeg = p ∧ vp_in (m 15 2 + 1 - 1) 120 := by
    rw [hat, nI_1, nI_pred, nI_clamp (by omega)]
    exact ⟨rfl, vp_in_nI (by omega) (by omega)⟩
  refine ⟨fun g => ⟨e2.2, ?_⟩, fun g => h0 (fun z => ?_)⟩
  · rw [e2.1, e16, hat, nI_1]
    exact h1 q (by rw [← ed]; exact decide_eq_true g)
  · rw [← ed] at z
    exact g (of_decide_eq_true z.2)
/-- isDigitNext -/
theorem sp_75 (hD : 1 ≤ D) (hb : am_cb T L B) (hk : am_kp am_F71 B m) (hp : p ≤ L) (hat : m 15 2 = nI p) (h1 : p < L → am_dig (T p) = true → R (some (.int 1)) m ml) (h0 : ¬ (p < L ∧ am_dig (T p) = true) → R (some (.int 0)) m ml) : am_call D 75 [.ref 15] m ml R := by
  obtain ⟨d, rfl⟩ : ∃ d, D = d + 1 := ⟨D - 1, by omega⟩
  obtain ⟨b1, b2, b3, b4⟩ := hb
  have e1 : m 15 1 = nI L := (hk 15 1 rfl).trans b2
  have l48 : (48 : Int32).toInt = 48 := rfl
  refine bk_75 (pk_le L p (fun q => ⟨am_b0, h0 (fun z => by omega)⟩) (fun q => ?_) e1 hat)
  obtain ⟨b5, b6⟩ := b3 p q
  have e16 : m 16 p = nI (T p) := (hk 16 p rfl).trans b5
  rw [hat, nI_clamp (show p < 2 ^ 31 by omega), e16]
  have vp : vp_in (nI p) 120 := vp_in_nI (by omega) (by omega)
  refine ⟨vp, fun g => ⟨am_b0, h0 (fun z => ?_)⟩, fun g => ⟨vp, fun g2 => ⟨am_b0, h0 (fun z => ?_)⟩, fun g2 => ⟨am_b1, h1 q (decide_eq_true ?_)⟩⟩⟩
  · have z := of_decide_eq_true z.2
    rw [am_lt_i, l48, am_ti (by omega)] at g
    omega
  · have z := of_decide_eq_true z.2
    rw [am_lt_i, am_l57, am_ti (by omega)] at g2
    omega
  · rw [am_lt_i, l48, am_ti (by omega)] at g
    rw [am_lt_i, am_l57, am_ti (by omega)] at g2
    omega
/-- draftStep -/
theorem sp_77 {x : Int32} (hD : 1 ≤ D) (hs : am_cs B p S m) (hl : S.length < 121) (h : ∀ m2, am_cs B p (S ++ [x]) m2 → R none m2 ml) : am_call D 77 [.ref 15, .int x] m ml R := by
  obtain ⟨d, rfl⟩ : ∃ d, D = d + 1 := ⟨D - 1, by omega⟩
  obtain ⟨h1, h2, h3, h4, h5⟩ := hs
  refine bk_77 (pk_le 121 S.length (fun q => absurd q (by omega)) (fun _ => ?_) rfl h3)
  rw [h3, nI_clamp (show S.length < 2 ^ 31 by omega), nI_1]
  refine ⟨vp_in_nI hl (by omega), h _ ⟨am_kp_u (am_kp_u h1 rfl) rfl, ?_, ?_, ?_, fun j hj => ?_⟩⟩
  · rw [am_ui_n (by omega), am_ui_c (by decide)]
    exact h2
  · rw [am_ui_k, List.length_append]
    rfl
  · rw [List.length_append]
    show S.length + 1 ≤ 121
    omega
  · rw [List.length_append] at hj
    have hj : j < S.length + 1 := hj
    rw [am_ui_c (by decide)]
    by_cases e : j = S.length
    · have z := am_gd_r (a := S) (b := [x]) (j := 0)
      rw [Nat.add_zero] at z
      rw [e, am_ui_k, z]
      rfl
    · rw [am_ui_n (fun _ q => e q), am_gd_l (by omega)]
      exact h5 j (by omega)
theorem sp_77f {x : Int32} (hD : 1 ≤ D) (hs : am_cf B p m) (h : ∀ m2, am_cf B p m2 → R none m2 ml) : am_call D 77 [.ref 15, .int x] m ml R := by
  obtain ⟨d, rfl⟩ : ∃ d, D = d + 1 := ⟨D - 1, by omega⟩
  obtain ⟨h1, h2, k, hk, h3⟩ := hs
  refine bk_77 (pk_le 121 k (fun q => h m ⟨h1, h2, k, hk, h3⟩) (fun q => ?_) rfl h3)
  rw [h3, nI_clamp (show k < 2 ^ 31 by omega), nI_1]
  refine ⟨vp_in_nI q (by omega), h _ ⟨am_kp_u (am_kp_u h1 rfl) rfl, ?_, k + 1, by omega, am_ui_k⟩⟩
  rw [am_ui_n (by omega), am_ui_c (by decide)]
  exact h2
/-- readNumber -/
theorem sp_74 (hD : 2 ≤ D) (hb : am_cb T L B) (hs : am_cs B p S m) (hp : p ≤ L) (hl : S.length < 121) (h : ∀ m2, am_cs B (am_dg T L 4 p 0).1 (S ++ [nI (am_dg T L 4 p 0).2]) m2 → R none m2 ml) : am_call D 74 [.ref 15] m ml R := by
  obtain ⟨d, rfl⟩ : ∃ d, D = d + 2 := ⟨D - 2, by omega⟩
  have loop : ∀ k i, i + k = 4 → ∀ p v m2, p ≤ L → am_cs B p S m2 → (∀ m3, am_cs B (am_dg T L k p v).1 (S ++ [nI (am_dg T L k p v).2]) m3 → R none m3 ml) → am_wp (am_call (d + 1)) mt_74 R 4 [some (.ref 15), some (.int (nI v)), some (.int (nI i))] [] m2 ml := by
    intro k
    induction k with
    | zero =>
      intro i ei p v m2 hp hs h
      have ei : i = 4 := ei
      subst ei
      exact bk_74_4 (pk_le 4 4 (fun _ => sp_77 (by omega) hs hl (fun m3 s3 => am_rv_i (h m3 s3))) (fun q => absurd q (Nat.lt_irrefl _)) rfl rfl)
    | succ k ih =>
      intro i ei p v m2 hp hs h
      have un : am_dg T L (k + 1) p v = if p < L ∧ am_dig (T p) = true then am_dg T L k (p + 1) (10 * v + (T p - 48)) else (p, v) := rfl
      rw [un] at h
      refine bk_74_4 (pk_le 4 i (fun q => absurd q (by omega)) (fun _ => sp_75 (by omega) hb hs.1 hp hs.2.1 (fun g1 g2 => am_ri_i (am_y ?_)) (fun g => am_ri_i (am_n0 ?_))) rfl rfl)
      · rw [if_pos ⟨g1, g2⟩] at h
        obtain ⟨b1, b2, b3, b4⟩ := hb
        have e16 : m2 16 p = nI (T p) := (hs.1 16 p rfl).trans (b3 p g1).1
        have dg := of_decide_eq_true g2
        rw [hs.2.1, nI_clamp (show p < 2 ^ 31 by omega), e16, nI_1, nI_1]
        have ev : nI v * 10 + nI (T p) - 48 = nI (10 * v + (T p - 48)) := by
          rw [show nI v * 10 = nI (v * 10) from pk_mul v 10, nI_add, show nI (v * 10 + T p) - 48 = nI (v * 10 + T p - 48) from pk_sub (b := 48) (by omega)]
          congr 1
          omega
        rw [ev]
        exact ⟨vp_in_nI (by omega) (by omega), ih (i + 1) (by omega) (p + 1) _ _ (by omega) (am_cs_p hs) h⟩
      · rw [if_neg g] at h
        exact sp_77 (by omega) hs hl (fun m3 s3 => am_rv_i (h m3 s3))
  exact bk_74 (loop 4 0 rfl p 0 m hp hs h)
/-- signsOf -/
theorem sp_72 {lv : Nat} {x : Int32} (hD : 1 ≤ D) (hlv : lv < 5) (hx : x = nI lv) (h : R (some (.ref (118 + am_ti5 lv))) m ml) : am_call D 72 [.int x] m ml R := by
  obtain ⟨d, rfl⟩ : ∃ d, D = d + 1 := ⟨D - 1, by omega⟩
  subst hx
  have e : lv = 0 ∨ lv = 1 ∨ lv = 2 ∨ lv = 3 ∨ lv = 4 := by omega
  rcases e with e | e | e | e | e <;> subst e
  · exact bk_72 ⟨fun _ => h, fun q => absurd rfl q⟩
  · exact bk_72 ⟨fun q => absurd q (by decide), fun _ => ⟨fun _ => h, fun q => absurd rfl q⟩⟩
  · exact bk_72 ⟨fun q => absurd q (by decide), fun _ => ⟨fun q => absurd q (by decide), fun _ => ⟨fun _ => h, fun q => absurd rfl q⟩⟩⟩
  · exact bk_72 ⟨fun q => absurd q (by decide), fun _ => ⟨fun q => absurd q (by decide), fun _ => ⟨fun q => absurd q (by decide), fun _ => ⟨fun _ => h, fun q => absurd rfl q⟩⟩⟩⟩
  · exact bk_72 ⟨fun q => absurd q (by decide), fun _ => ⟨fun q => absurd q (by decide), fun _ => ⟨fun q => absurd q (by decide), fun _ => ⟨fun q => absurd q (by decide), fun _ => h⟩⟩⟩⟩
theorem am_ml {a b : List Nat} {S : List Int32} : S ++ a.map am_xc ++ b.map am_xc = S ++ (a ++ b).map am_xc := by
  rw [List.map_append, List.append_assoc]
/-- the loop of readLevel -/
theorem sp_71l {f : Nat → am_Res} {lv o c : Nat} (hb : am_cb T L B) (hlv : lv < 5) (hc : 5 ≤ c) (hg : ∀ p, p ≤ L → am_god1 L p (f p)) (hf : ∀ D, c ≤ D → ∀ p S m, p ≤ L → S.length ≤ p → am_cs B p S m → am_cG B D 71 [.ref 15, .int (nI (lv + 1)), .int (nI o)] (f p) S m ml) (hD : c ≤ D) :
    ∀ k i p (ts : List Nat) m, (lv = 2 → i + k = 1) → (¬ lv = 2 → i + k = L ∧ i < p) → p ≤ L → (S ++ ts.map am_xc).length ≤ p → am_cs B p (S ++ ts.map am_xc) m → ∀ R : am_R, ((am_lp T L f lv k p ts).1 = true → ∀ m2, am_cs B (am_lp T L f lv k p ts).2.1 (S ++ (am_lp T L f lv k p ts).2.2.map am_xc) m2 → R (some (.int 1)) m2 ml) → ((am_lp T L f lv k p ts).1 = false → ∀ m2, am_cf B (am_lp T L f lv k p ts).2.1 m2 → R (some (.int 0)) m2 ml) →
      am_wp (am_call D) mt_71 R 24 [some (.ref 15), some (.int (nI lv)), some (.int (nI o)), some (.int 1), some (.int (nI (if lv = 2 then 1 else L))), some (.int (nI i)), none] [] m ml := by
  have hL := hb.1
  intro k
  induction k with
  | zero =>
    intro i p ts m g2 gn hp hl hs R h1 h0
    by_cases e : lv = 2
    · have ei := g2 e
      rw [if_pos e]
      exact bk_71_24 (pk_le 1 i (fun _ => ⟨am_b1, h1 rfl m hs⟩) (fun q => absurd q (by omega)) rfl rfl (by omega) (by omega))
    · have := gn e
      omega
  | succ k ih =>
    intro i p ts m g2 gn hp hl hs R h1 h0
    have un : am_lp T L f lv (k + 1) p ts = if p < L ∧ am_sgn lv (T p) ≠ 0 then (if (f (p + 1)).1 = true then am_lp T L f lv k (f (p + 1)).2.1 (ts ++ (f (p + 1)).2.2 ++ [am_sgn lv (T p)]) else (false, (f (p + 1)).2.1, [])) else (true, p, ts) := rfl
    rw [un] at h1 h0
    have lim : i < (if lv = 2 then 1 else L) := by
      by_cases e : lv = 2
      · have := g2 e
        rw [if_pos e]
        omega
      · have := gn e
        rw [if_neg e]
        omega
    have lim2 : (if lv = 2 then 1 else L) < 1000 := by split <;> omega
    generalize hM : (if lv = 2 then 1 else L) = M at lim lim2 ih ⊢
    refine bk_71_24 (pk_le M i (fun q => absurd q (by omega)) (fun _ => ⟨fun z => absurd z (by decide), fun _ => sp_72 (by omega) hlv rfl (am_rr_i (sp_76 (i := am_ti5 lv) (by omega) ?_ hb hs.1 hp hs.2.1 (fun q1 q2 => am_ri_i ?_) (fun q => am_ri_i ?_)))⟩) rfl rfl)
    · have : ∀ lv, lv < 5 → am_ti5 lv < 10 := by decide
      exact this lv hlv
    · have hT := (hb.2.2.1 p q1).2
      obtain ⟨s1, s2⟩ := am_sgx lv hlv (T p) hT
      have sn := s1.mp q2
      obtain ⟨s3, s4⟩ := s2 sn
      have sb := am_sgn_b lv (T p) sn
      rw [if_pos ⟨q1, sn⟩] at h1 h0
      have ne : nI (T p) ≠ 0 := fun z => s4 ((nI_eq (a := T p) (b := 0) (by omega) (by omega)).mp z)
      obtain ⟨g1, g3, g4⟩ := hg (p + 1) (by omega)
      refine ⟨fun _ => ?_, fun z => absurd ne z⟩
      rw [nI_1]
      refine hf D hD (p + 1) _ _ (by omega) (by omega) (am_cs_p hs) _ (fun ok m2 s2 => am_ri_i ?_) (fun ok m2 s2 => am_ri_i ?_)
      · rw [if_pos ok] at h1 h0
        obtain ⟨g5, g6, g7⟩ := g4 ok
        rw [am_ml] at s2
        have lS : (S ++ (ts ++ (f (p + 1)).2.2).map am_xc).length ≤ (f (p + 1)).2.1 := by
          rw [List.length_append, List.length_map] at hl ⊢
          rw [List.length_append]
          omega
        refine sp_77 (x := -(nI (T p))) (by omega) s2 (by omega) (fun m3 v3 => am_rv_i ?_)
        have ex : [-(nI (T p))] = [am_sgn lv (T p)].map am_xc := by
          show [-(nI (T p))] = [am_xc (am_sgn lv (T p))]
          rw [am_xc_n (by omega), s3]
        rw [ex, am_ml] at v3
        rw [nI_1]
        refine ih (i + 1) _ _ m3 (fun e => by have := g2 e; omega) (fun e => ?_) g3 ?_ v3 R h1 h0
        · have := gn e
          omega
        · rw [List.length_append, List.length_map] at lS ⊢
          rw [List.length_append]
          show S.length + ((ts ++ (f (p + 1)).2.2).length + 1) ≤ _
          rw [List.length_append, List.length_map] at hl
          rw [List.length_append]
          omega
      · rw [if_neg (by rw [ok]; decide)] at h1 h0
        refine sp_77f (by omega) s2 (fun m3 s3 => am_rv_i ?_)
        have z := h0 rfl m3 s3
        exact bk_71_24 ⟨fun _ => ⟨am_b0, z⟩, fun _ => ⟨fun _ => ⟨am_b0, z⟩, fun q => absurd rfl q⟩⟩
    · have hn : ¬ (p < L ∧ am_sgn lv (T p) ≠ 0) := fun z => q ⟨z.1, (am_sgx lv hlv (T p) (hb.2.2.1 p z.1).2).1.mpr z.2⟩
      rw [if_neg hn] at h1 h0
      exact ⟨fun z => absurd rfl z, fun _ => ⟨am_b1, h1 rfl m hs⟩⟩
/-- readLevel, from an operand -/
theorem sp_71 {F : Nat → am_Res} {o c : Nat} (hb : am_cb T L B) (hc : 6 ≤ c) (hg : ∀ p, p ≤ L → am_god1 L p (F p)) (hf : ∀ D, c ≤ D → ∀ p S m, p ≤ L → S.length ≤ p → am_cs B p S m → am_cG B D 73 [.ref 15, .int (nI o)] (F p) S m ml) :
    ∀ j, j ≤ 5 → ∀ D, c + 1 + j ≤ D → ∀ p S m, p ≤ L → S.length ≤ p → am_cs B p S m → am_cG B D 71 [.ref 15, .int (nI (5 - j)), .int (nI o)] (am_lvs T L F j p) S m ml := by
  have hL := hb.1
  intro j
  induction j with
  | zero =>
    intro _ D hD p S m hp hl hs R h1 h0
    obtain ⟨d, rfl⟩ : ∃ d, D = d + 1 := ⟨D - 1, by omega⟩
    exact bk_71 ⟨fun q => absurd q (by decide), fun _ => hf d (by omega) p S m hp hl hs _ (fun ok m2 s2 => am_ri_i ⟨am_b1, h1 ok m2 s2⟩) (fun ok m2 s2 => am_ri_i ⟨am_b0, h0 ok m2 s2⟩)⟩
  | succ j ih =>
    intro hj D hD p S m hp hl hs R h1 h0
    obtain ⟨d, rfl⟩ : ∃ d, D = d + 1 := ⟨D - 1, by omega⟩
    have ih := ih (by omega)
    have e5 : 5 - (j + 1) = 4 - j := by omega
    have e6 : nI (4 - j) + 1 = nI (5 - j) := by rw [nI_1, show 4 - j + 1 = 5 - j from by omega]
    have un : am_lvs T L F (j + 1) p = if (am_lvs T L F j p).1 = true then am_lp T L (am_lvs T L F j) (4 - j) (if 4 - j = 2 then 1 else L) (am_lvs T L F j p).2.1 (am_lvs T L F j p).2.2 else (false, (am_lvs T L F j p).2.1, []) := rfl
    rw [un] at h1 h0
    have gj := am_lvs_g (T := T) hg j
    obtain ⟨a1, a2, a3⟩ := gj p hp
    rw [e5]
    refine bk_71 (pk_le (4 - j) 4 (fun _ => ?_) (fun q => absurd q (by omega)) rfl rfl)
    rw [e6]
    refine ih d (by omega) p S m hp hl hs _ (fun ok m2 s2 => am_ri_i ?_) (fun ok m2 s2 => am_ri_i ?_)
    · rw [if_pos ok] at h1 h0
      obtain ⟨a4, a5, a6⟩ := a3 ok
      have e151 : m2 15 1 = nI L := (s2.1 15 1 rfl).trans hb.2.1
      rw [e151]
      have lp := sp_71l (D := d) (S := S) (f := am_lvs T L F j) (lv := 4 - j) (o := o) (c := c + 1 + j) hb (by omega) (by omega) gj (fun D hD p S m hp hl hs => by rw [show 4 - j + 1 = 5 - j from by omega]; exact ih D hD p S m hp hl hs) (by omega) (if 4 - j = 2 then 1 else L) 0 (am_lvs T L F j p).2.1 (am_lvs T L F j p).2.2 m2 (fun e => by rw [if_pos e]) (fun e => by rw [if_neg e]; omega) a2 (by rw [List.length_append, List.length_map]; omega) s2 R h1 h0
      by_cases e : 4 - j = 2
      · rw [if_pos e] at lp
        refine ⟨fun z => absurd (by rw [e]; rfl) z, fun _ => lp⟩
      · rw [if_neg e] at lp
        refine ⟨fun _ => lp, fun z => ?_⟩
        exact absurd ((nI_eq (a := 4 - j) (b := 2) (by omega) (by omega)).mp (Decidable.not_not.mp z)) e
    · rw [if_neg (by rw [ok]; decide)] at h1 h0
      have z := h0 rfl m2 s2
      have end0 : ∀ x : Int32, am_wp (am_call d) mt_71 R 24 [some (.ref 15), some (.int (nI (4 - j))), some (.int (nI o)), some (.int 0), some (.int x), some (.int 0), none] [] m2 ml := fun x => bk_71_24 ⟨fun _ => ⟨am_b0, z⟩, fun _ => ⟨fun _ => ⟨am_b0, z⟩, fun q => absurd rfl q⟩⟩
      exact ⟨fun _ => end0 _, fun _ => end0 _⟩
/-- readOperand -/
theorem sp_73 (hb : am_cb T L B) : ∀ k, k ≤ 6 → ∀ D, 6 + 7 * k ≤ D → ∀ p S m, p ≤ L → S.length ≤ p → am_cs B p S m → am_cG B D 73 [.ref 15, .int (nI (6 - k))] (am_O T L k p) S m ml := by
  have hL := hb.1
  intro k
  induction k with
  | zero =>
    intro _ D hD p S m hp hl hs R h1 h0
    obtain ⟨d, rfl⟩ : ∃ d, D = d + 1 := ⟨D - 1, by omega⟩
    have un : am_O T L 0 p = am_opn T L none p := rfl
    rw [un] at h1 h0
    unfold am_opn at h1 h0
    refine bk_73 (sp_76 (i := 8) (by omega) (by omega) hb hs.1 hp hs.2.1 (fun q1 q2 => am_ri_i ?_) (fun q => am_ri_i (am_n0 (sp_75 (by omega) hb hs.1 hp hs.2.1 (fun g1 g2 => am_ri_i (am_y ?_)) (fun g => am_ri_i (am_n0 ?_))))))
    · have hT := (hb.2.2.1 p q1).2
      obtain ⟨s1, s2⟩ := am_nmx (T p) hT
      obtain ⟨s3, s4⟩ := s2 (s1.mp q2)
      rw [if_pos q1, if_pos (s1.mp q2)] at h1
      refine ⟨fun z => absurd ((nI_eq (a := T p) (b := 0) (by omega) (by omega)).mp z) s4, fun _ => sp_77 (by omega) (am_cs_p hs) (by omega) (fun m2 s2 => am_rv_i ⟨am_b1, h1 rfl m2 ?_⟩)⟩
      have ex : [-(nI (T p))] = [am_nmo (T p)].map am_xc := by
        show [-(nI (T p))] = [am_xc (am_nmo (T p))]
        rw [am_xc_n (by have := s1.mp q2; omega), s3]
      rw [ex] at s2
      exact s2
    · have hT := (hb.2.2.1 p g1).2
      rw [if_pos g1, if_neg (am_nmd (T p) hT g2), if_pos g2] at h1
      refine sp_74 (by omega) hb hs hp (by omega) (fun m2 s2 => am_rv_i ⟨am_b1, h1 rfl m2 ?_⟩)
      have ex : [nI (am_dg T L 4 p 0).2] = [18 + (am_dg T L 4 p 0).2].map am_xc := by
        show _ = [am_xc (18 + (am_dg T L 4 p 0).2)]
        rw [am_xc_v (by omega), Nat.add_sub_cancel_left]
      rw [ex] at s2
      exact s2
    · have er : am_opn T L none p = (false, p, []) := by
        unfold am_opn
        by_cases hpL : p < L
        · have hT := (hb.2.2.1 p hpL).2
          rw [if_pos hpL, if_neg (fun z => q ⟨hpL, (am_nmx (T p) hT).1.mpr z⟩), if_neg (fun z => g ⟨hpL, z⟩)]
        · rw [if_neg hpL]
      have h0 : ∀ m2, am_cf B p m2 → R (some (.int 0)) m2 ml := by
        have h0 : (am_opn T L none p).1 = false → ∀ m2, am_cf B (am_opn T L none p).2.1 m2 → R (some (.int 0)) m2 ml := h0
        rw [er] at h0
        exact h0 rfl
      refine ⟨fun _ => bk_73_27 ⟨fun z => absurd rfl z, fun _ => ⟨am_b0, h0 m (am_cs_f hs)⟩⟩, fun z => absurd (by decide) z⟩
  | succ k ih =>
    intro hk D hD p S m hp hl hs R h1 h0
    obtain ⟨d, rfl⟩ : ∃ d, D = d + 1 := ⟨D - 1, by omega⟩
    have ih := ih (by omega)
    have un : am_O T L (k + 1) p = am_opn T L (some (am_O T L k)) p := rfl
    rw [un] at h1 h0
    have e6 : nI (6 - (k + 1)) + 1 = nI (6 - k) := by rw [nI_1, show 6 - (k + 1) + 1 = 6 - k from by omega]
    have gO := am_O_g (T := T) (L := L) k
    refine bk_73 (sp_76 (i := 8) (by omega) (by omega) hb hs.1 hp hs.2.1 (fun q1 q2 => am_ri_i ?_) (fun q => am_ri_i (am_n0 (sp_75 (by omega) hb hs.1 hp hs.2.1 (fun g1 g2 => am_ri_i (am_y ?_)) (fun g => am_ri_i (am_n0 ?_))))))
    · unfold am_opn at h1
      have hT := (hb.2.2.1 p q1).2
      obtain ⟨s1, s2⟩ := am_nmx (T p) hT
      obtain ⟨s3, s4⟩ := s2 (s1.mp q2)
      rw [if_pos q1, if_pos (s1.mp q2)] at h1
      refine ⟨fun z => absurd ((nI_eq (a := T p) (b := 0) (by omega) (by omega)).mp z) s4, fun _ => sp_77 (by omega) (am_cs_p hs) (by omega) (fun m2 s2 => am_rv_i ⟨am_b1, h1 rfl m2 ?_⟩)⟩
      have ex : [-(nI (T p))] = [am_nmo (T p)].map am_xc := by
        show [-(nI (T p))] = [am_xc (am_nmo (T p))]
        rw [am_xc_n (by have := s1.mp q2; omega), s3]
      rw [ex] at s2
      exact s2
    · unfold am_opn at h1
      have hT := (hb.2.2.1 p g1).2
      rw [if_pos g1, if_neg (am_nmd (T p) hT g2), if_pos g2] at h1
      refine sp_74 (by omega) hb hs hp (by omega) (fun m2 s2 => am_rv_i ⟨am_b1, h1 rfl m2 ?_⟩)
      have ex : [nI (am_dg T L 4 p 0).2] = [18 + (am_dg T L 4 p 0).2].map am_xc := by
        show _ = [am_xc (18 + (am_dg T L 4 p 0).2)]
        rw [am_xc_v (by omega), Nat.add_sub_cancel_left]
      rw [ex] at s2
      exact s2
    · refine pk_le 6 (6 - (k + 1)) (fun z => absurd z (by omega)) (fun _ => sp_76 (i := 1) (by omega) (by omega) hb hs.1 hp hs.2.1 (fun q1 q2 => am_ri_i ?_) (fun q2 => am_ri_i ?_)) rfl rfl
      · have hT := (hb.2.2.1 p q1).2
        have cs := (am_opx (T p) hT).1.mp q2
        have er : am_opn T L (some (am_O T L k)) p = if T p = 33 then (if (am_O T L k (p + 1)).1 = true then (true, (am_O T L k (p + 1)).2.1, (am_O T L k (p + 1)).2.2 ++ [16]) else (false, (am_O T L k (p + 1)).2.1, []))
            else if T p = 45 then (if (am_O T L k (p + 1)).1 = true then (true, (am_O T L k (p + 1)).2.1, (am_O T L k (p + 1)).2.2 ++ [17]) else (false, (am_O T L k (p + 1)).2.1, []))
            else if T p = 40 then (if (am_lvs T L (am_O T L k) 5 (p + 1)).1 = true ∧ (am_lvs T L (am_O T L k) 5 (p + 1)).2.1 < L ∧ T (am_lvs T L (am_O T L k) 5 (p + 1)).2.1 = 41 then (true, (am_lvs T L (am_O T L k) 5 (p + 1)).2.1 + 1, (am_lvs T L (am_O T L k) 5 (p + 1)).2.2) else (false, (am_lvs T L (am_O T L k) 5 (p + 1)).2.1, []))
            else (false, p, []) := by
          unfold am_opn
          rw [if_pos q1, if_neg (fun z => q ⟨q1, (am_nmx (T p) hT).1.mpr z⟩), if_neg (fun z => g ⟨q1, z⟩)]
        rw [er] at h1 h0
        have l33 : (33 : Int32) = nI 33 := rfl
        have l40 : (40 : Int32) = nI 40 := rfl
        have nz : nI (T p) ≠ 0 := fun z => by
          have := (nI_eq (a := T p) (b := 0) (by omega) (by omega)).mp z
          omega
        obtain ⟨o1, o2, o3⟩ := gO (p + 1) (by omega)
        -- ! and -
        have un1 : ∀ t (st : Int32), st = am_xc t → (((am_O T L k (p + 1)).1 = true → ∀ m2, am_cs B (am_O T L k (p + 1)).2.1 (S ++ ((am_O T L k (p + 1)).2.2 ++ [t]).map am_xc) m2 → R (some (.int 1)) m2 ml)) → ((am_O T L k (p + 1)).1 = false → ∀ m2, am_cf B (am_O T L k (p + 1)).2.1 m2 → R (some (.int 0)) m2 ml) →
            ∀ K : am_R, (∀ x m2, am_wp (am_call d) mt_73 R 63 [none, none, none, none, some (.int x)] [.int st, .ref 15] m2 ml → K (some (.int x)) m2 ml) → am_call d 73 [.ref 15, .int (nI (6 - (k + 1)) + 1)] (am_ui m 15 2 (nI (p + 1))) ml K := by
          intro t st est k1 k0 K hK
          rw [e6]
          refine ih d (by omega) (p + 1) S _ (by omega) (by omega) (am_cs_p hs) _ (fun ok m2 s2 => hK 1 m2 (bk_73_63 ?_)) (fun ok m2 s2 => hK 0 m2 (bk_73_63 (sp_77f (by omega) s2 (fun m3 s3 => am_rv_i ⟨am_b0, k0 ok m3 s3⟩))))
          have lS : (S ++ (am_O T L k (p + 1)).2.2.map am_xc).length ≤ (am_O T L k (p + 1)).2.1 := by
            rw [List.length_append, List.length_map]
            have := (o3 ok).2.1
            omega
          refine sp_77 (by omega) s2 (by omega) (fun m3 s3 => am_rv_i ⟨am_b1, k1 ok m3 ?_⟩)
          have ex : [st] = [t].map am_xc := by rw [est]; rfl
          rw [ex, am_ml] at s3
          exact s3
        refine bk_73_27 ⟨fun _ => ⟨fun z40 => ?_, fun z40 => ?_⟩, fun z => absurd nz z⟩
        · have n40 : ¬ T p = 40 := fun z => z40 (by rw [z]; rfl)
          rcases cs with e | e | e
          · rw [e] at h1 h0 ⊢
            rw [if_pos rfl] at h1 h0
            refine un1 16 (-33) rfl (fun ok m2 s2 => ?_) (fun ok m2 s2 => ?_) _ (fun x m2 w => am_ri_i ⟨fun z => absurd rfl z, fun _ => w⟩)
            · rw [if_pos ok] at h1
              exact h1 rfl m2 s2
            · rw [if_neg (by rw [ok]; decide)] at h0
              exact h0 rfl m2 s2
          · rw [e] at h1 h0 ⊢
            rw [if_neg (by decide), if_pos rfl] at h1 h0
            refine un1 17 (-126) rfl (fun ok m2 s2 => ?_) (fun ok m2 s2 => ?_) _ (fun x m2 w => am_ri_i ⟨fun _ => w, fun z => absurd (by decide) z⟩)
            · rw [if_pos ok] at h1
              exact h1 rfl m2 s2
            · rw [if_neg (by rw [ok]; decide)] at h0
              exact h0 rfl m2 s2
          · exact absurd e n40
        · have e : T p = 40 := (nI_eq (a := T p) (b := 40) (by omega) (by omega)).mp (Decidable.not_not.mp z40)
          rw [if_neg (by omega), if_neg (by omega), if_pos e] at h1 h0
          have gl := am_lvs_g (T := T) gO 5 (p + 1) (by omega)
          have sl := sp_71 (T := T) (L := L) (B := B) (ml := ml) (F := am_O T L k) (o := 6 - k) (c := 6 + 7 * k) hb (by omega) gO ih 5 (Nat.le_refl _) d (by omega) (p + 1) S _ (by omega) (by omega) (am_cs_p hs)
          rw [e6]
          generalize am_lvs T L (am_O T L k) 5 (p + 1) = r at h1 h0 gl sl
          obtain ⟨r1, r2, r3⟩ := gl
          refine sl _ (fun ok m2 s2 => am_ri_i ⟨fun z => absurd z (by decide), fun _ => sp_76 (i := 2) (by omega) (by omega) hb s2.1 r2 s2.2.1 (fun y1 y2 => am_ri_i ?_) (fun y => am_ri_i ?_)⟩) (fun ok m2 s2 => am_ri_i ⟨fun _ => bk_73_48 (bk_73_49 ⟨am_b0, ?_⟩), fun z => absurd rfl z⟩)
          · have e41 := (am_opx (T r.2.1) (hb.2.2.1 _ y1).2).2.1.mp y2
            rw [if_pos ⟨ok, y1, e41⟩] at h1
            refine ⟨fun z => ?_, fun _ => bk_73_49 ⟨am_b1, h1 rfl _ (am_cs_p s2)⟩⟩
            rw [e41] at z
            exact absurd z (by decide)
          · rw [if_neg (fun z => y ⟨z.2.1, (am_opx (T r.2.1) (hb.2.2.1 _ z.2.1).2).2.1.mpr z.2.2⟩)] at h0
            exact ⟨fun _ => bk_73_48 (bk_73_49 ⟨am_b0, h0 rfl m2 (am_cs_f s2)⟩), fun z => absurd rfl z⟩
          · rw [if_neg (fun z => by rw [ok] at z; exact absurd z.1 (by decide))] at h0
            exact h0 rfl m2 s2
      · have er : am_opn T L (some (am_O T L k)) p = (false, p, []) := by
          unfold am_opn
          by_cases hpL : p < L
          · have hT := (hb.2.2.1 p hpL).2
            have nn : ¬ (T p = 33 ∨ T p = 45 ∨ T p = 40) := fun z => q2 ⟨hpL, (am_opx (T p) hT).1.mpr z⟩
            rw [if_pos hpL, if_neg (fun z => q ⟨hpL, (am_nmx (T p) hT).1.mpr z⟩), if_neg (fun z => g ⟨hpL, z⟩)]
            show (if T p = 33 then _ else if T p = 45 then _ else if T p = 40 then _ else (false, p, [])) = ((false, p, []) : am_Res)
            rw [if_neg (fun z => nn (Or.inl z)), if_neg (fun z => nn (Or.inr (Or.inl z))), if_neg (fun z => nn (Or.inr (Or.inr z)))]
          · rw [if_neg hpL]
        rw [er] at h0
        exact bk_73_27 ⟨fun z => absurd rfl z, fun _ => ⟨am_b0, h0 rfl m (am_cs_f hs)⟩⟩
end SP67b
