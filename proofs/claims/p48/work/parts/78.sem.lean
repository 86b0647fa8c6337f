/-! what the numbers mean: counts, sums, the least unfair, the fairest -/
theorem dq_lt {a b : Nat} (ha : a < 2 ^ 31) (hb : b < 2 ^ 31) : nI a < nI b ↔ a < b := by
  rw [am_lt_i, am_ti ha, am_ti hb]
  omega
theorem dq_le {a b : Nat} (ha : a < 2 ^ 31) (hb : b < 2 ^ 31) : nI a ≤ nI b ↔ a ≤ b := by
  rw [am_le_i, am_ti ha, am_ti hb]
  omega
theorem dq_max {a b : Nat} (ha : a < 2 ^ 31) (hb : b < 2 ^ 31) : am_max (nI a) (nI b) = nI (max a b) := by
  unfold am_max
  by_cases h : a < b
  · rw [if_pos ((dq_lt ha hb).mpr h)]
    congr 1
    omega
  · rw [if_neg (fun w => h ((dq_lt ha hb).mp w))]
    congr 1
    omega
theorem dq_min {a b : Nat} (ha : a < 2 ^ 31) (hb : b < 2 ^ 31) : am_min (nI a) (nI b) = nI (min a b) := by
  unfold am_min
  by_cases h : b < a
  · rw [if_pos ((dq_lt hb ha).mpr h)]
    congr 1
    omega
  · rw [if_neg (fun w => h ((dq_lt hb ha).mp w))]
    congr 1
    omega
/-- who has how many -/
def dq_cn (W : Nat → Int32) (c k : Nat) : Nat := am_cnt (fun i => decide (W i = nI c)) k
theorem dq_cn_s {W : Nat → Int32} {c k : Nat} : dq_cn W c (k + 1) = dq_cn W c k + (if W k = nI c then 1 else 0) := by
  unfold dq_cn
  rw [am_cnt_s]
  by_cases h : W k = nI c
  · rw [if_pos h, if_pos (decide_eq_true h)]
  · rw [if_neg h, if_neg (by simpa using h)]
theorem dq_cn_le {W : Nat → Int32} {c k : Nat} : dq_cn W c k ≤ k := am_cnt_le _ k
/-- the law's number of hexadecimal places -/
def dq_hN (W : Nat → Int32) : Nat → Nat
  | 0 => 0
  | d + 1 => dq_hN W d + (if W d < 0 then 0 else 16 ^ (W d).toNatClampNeg)
theorem dq_hN_z {W : Nat → Int32} (h : ∀ i, W i = -2) : ∀ k, dq_hN W k = 0
  | 0 => rfl
  | k + 1 => by
    unfold dq_hN
    rw [dq_hN_z h k, h k, if_pos (by decide)]
theorem dq_hN_e {W : Nat → Int32} {n m : Nat} (hm : m ≤ 5) (h : ∀ i, i < n → ∃ c, c < m ∧ W i = nI c) : ∀ k, k ≤ n → dq_hN W k = dq_cn W 0 k + 16 * dq_cn W 1 k + 256 * dq_cn W 2 k + 4096 * dq_cn W 3 k + 65536 * dq_cn W 4 k
  | 0, _ => rfl
  | k + 1, hk => by
    obtain ⟨c, hc, e⟩ := h k (by omega)
    have ih := dq_hN_e hm h k (by omega)
    unfold dq_hN
    rw [dq_cn_s, dq_cn_s, dq_cn_s, dq_cn_s, dq_cn_s, e, if_neg (nI_pos (show c < 2 ^ 31 by omega)), nI_clamp (show c < 2 ^ 31 by omega)]
    have q : ∀ a, a < 5 → (nI c = nI a ↔ c = a) := fun a ha => nI_eq (by omega) (by omega)
    have c5 : c = 0 ∨ c = 1 ∨ c = 2 ∨ c = 3 ∨ c = 4 := by omega
    rcases c5 with e | e | e | e | e <;> subst e
    · rw [if_pos rfl, if_neg (fun w => absurd ((q 1 (by omega)).mp w) (by omega)), if_neg (fun w => absurd ((q 2 (by omega)).mp w) (by omega)), if_neg (fun w => absurd ((q 3 (by omega)).mp w) (by omega)), if_neg (fun w => absurd ((q 4 (by omega)).mp w) (by omega))]
      omega
    · rw [if_pos rfl, if_neg (fun w => absurd ((q 0 (by omega)).mp w) (by omega)), if_neg (fun w => absurd ((q 2 (by omega)).mp w) (by omega)), if_neg (fun w => absurd ((q 3 (by omega)).mp w) (by omega)), if_neg (fun w => absurd ((q 4 (by omega)).mp w) (by omega))]
      omega
    · rw [if_pos rfl, if_neg (fun w => absurd ((q 0 (by omega)).mp w) (by omega)), if_neg (fun w => absurd ((q 1 (by omega)).mp w) (by omega)), if_neg (fun w => absurd ((q 3 (by omega)).mp w) (by omega)), if_neg (fun w => absurd ((q 4 (by omega)).mp w) (by omega))]
      omega
    · rw [if_pos rfl, if_neg (fun w => absurd ((q 0 (by omega)).mp w) (by omega)), if_neg (fun w => absurd ((q 1 (by omega)).mp w) (by omega)), if_neg (fun w => absurd ((q 2 (by omega)).mp w) (by omega)), if_neg (fun w => absurd ((q 4 (by omega)).mp w) (by omega))]
      omega
    · rw [if_pos rfl, if_neg (fun w => absurd ((q 0 (by omega)).mp w) (by omega)), if_neg (fun w => absurd ((q 1 (by omega)).mp w) (by omega)), if_neg (fun w => absurd ((q 2 (by omega)).mp w) (by omega)), if_neg (fun w => absurd ((q 3 (by omega)).mp w) (by omega))]
      omega
theorem dq_shr4 {H : Nat} (hH : H < 2 ^ 31) : ∀ c, c < 5 → am_shr (nI H) (4 * nI c) = nI (H / 16 ^ c) := by
  intro c hc
  unfold am_shr
  have c5 : c = 0 ∨ c = 1 ∨ c = 2 ∨ c = 3 ∨ c = 4 := by omega
  rcases c5 with e | e | e | e | e <;> subst e
  · exact pk_shrN hH _ 0 (by decide)
  · exact pk_shrN hH _ 4 (by decide)
  · exact pk_shrN hH _ 8 (by decide)
  · exact pk_shrN hH _ 12 (by decide)
  · exact pk_shrN hH _ 16 (by decide)
theorem dq_dig {W : Nat → Int32} {n m c : Nat} (hn : n ≤ 12) (hm : m ≤ 5) (h : ∀ i, i < n → ∃ c, c < m ∧ W i = nI c) (hc : c < 5) : (am_shr (nI (dq_hN W n)) (4 * nI c)) &&& 15 = nI (dq_cn W c n) := by
  have e := dq_hN_e hm h n (Nat.le_refl _)
  have b : ∀ a, dq_cn W a n ≤ 12 := fun a => Nat.le_trans dq_cn_le hn
  have b0 := b 0
  have b1 := b 1
  have b2 := b 2
  have b3 := b 3
  have b4 := b 4
  rw [dq_shr4 (by omega) c hc, pk_andN (Nat.lt_of_le_of_lt (Nat.div_le_self _ _) (by omega)) 4 (by decide)]
  congr 1
  have c5 : c = 0 ∨ c = 1 ∨ c = 2 ∨ c = 3 ∨ c = 4 := by omega
  rcases c5 with e5 | e5 | e5 | e5 | e5 <;> subst e5 <;> omega
theorem dq_hN_b {W : Nat → Int32} {n m k : Nat} (hn : n ≤ 12) (hm : m ≤ 5) (h : ∀ i, i < n → ∃ c, c < m ∧ W i = nI c) (hk : k ≤ n) : dq_hN W k ≤ 838860 := by
  have e := dq_hN_e hm h k hk
  have b : ∀ a, dq_cn W a k ≤ 12 := fun a => Nat.le_trans dq_cn_le (by omega)
  have b0 := b 0
  have b1 := b 1
  have b2 := b 2
  have b3 := b 3
  have b4 := b 4
  omega
theorem dq_shl4 : ∀ c, c < 5 → am_shl 1 (4 * nI c) = nI (16 ^ c) := by decide
/-- counting along the order is counting -/
theorem dq_cnt_o (le : Nat → Nat → Bool) (p : Nat → Bool) (k : Nat) (hk : k < 1000) : am_cnt (fun j => p (am_srt le 0 k j)) k = am_cnt p k := by
  have z := am_srt_m le 0 (fun i => if p i = true then 1 else 0) k
  have z1 := am_cnt_m (fun j => p (am_srt le 0 k j)) k
  have z2 := am_cnt_m p k
  have e : nI (am_cnt (fun j => p (am_srt le 0 k j)) k) = nI (am_cnt p k) := by
    rw [z1, z2]
    refine z.trans ?_
    congr 1
    funext j
    rw [Nat.zero_add]
  have l1 := am_cnt_le (fun j => p (am_srt le 0 k j)) k
  have l2 := am_cnt_le p k
  exact (nI_eq (by omega) (by omega)).mp e
theorem dq_cnt_c {p q : Nat → Bool} : ∀ k, (∀ j, j < k → p j = q j) → am_cnt p k = am_cnt q k
  | 0, _ => rfl
  | k + 1, h => by
    rw [am_cnt_s, am_cnt_s, dq_cnt_c k (fun j hj => h j (by omega)), h k (by omega)]
theorem dq_cnt_mono {p q : Nat → Bool} : ∀ k, (∀ j, j < k → p j = true → q j = true) → am_cnt p k ≤ am_cnt q k
  | 0, _ => Nat.le_refl _
  | k + 1, h => by
    have ih := dq_cnt_mono k (fun j hj => h j (by omega))
    rw [am_cnt_s, am_cnt_s]
    by_cases e : p k = true
    · rw [if_pos e, if_pos (h k (by omega) e)]
      omega
    · rw [if_neg e]
      omega
/-- by turns and by age: each as many as the other, one more or less -/
theorem dq_turn : ∀ m, m < 6 → 0 < m → ∀ n, n < 13 → ∀ c, c < m → n / m ≤ am_cnt (fun t => decide (t % m = c)) n ∧ am_cnt (fun t => decide (t % m = c)) n ≤ (n + m - 1) / m := by decide +kernel
section SP78
variable {n m r : Nat} {u : Nat → Nat → Int32} {P : List (List Nat × List Nat)}
theorem dq_gv_w {e : Nat → Nat → Int32} {q : (Nat → Int32) × (Nat → Int32)} {g o : Nat → Nat} {K : Nat} (hm : 0 < m) (hr : r < 2) (hi : ∀ i j, i < K → j < K → o i = o j → i = j) : ∀ k, k ≤ K → ∀ j, j < k → (am_gv r m g o e 0 q k).1 (o j) = nI (if r = 0 then j % m else g (j % m))
  | 0, _, j, hj => absurd hj (Nat.not_lt_zero _)
  | k + 1, hk, j, hj => by
    have st : am_gv r m g o e 0 q (k + 1) = am_gs1 o e (am_gv r m g o e 0 q k) (0 + k) (am_who r m g (fun c => e c (o (0 + k))) (am_gv r m g o e 0 q k).2 (0 + k)) := by
      show am_gst r m g o e (am_gv r m g o e 0 q k) (0 + k) = _
      unfold am_gst
      rw [if_neg (by omega)]
    rw [st]
    unfold am_gs1
    rw [Nat.zero_add]
    show upd (am_gv r m g o e 0 q k).1 (o k) _ (o j) = _
    by_cases ej : j = k
    · subst ej
      rw [pk_us]
      congr 1
      unfold am_who
      by_cases e0 : r = 0
      · rw [if_pos e0, if_pos e0]
      · rw [if_neg e0, if_neg e0, if_pos (by omega)]
    · rw [pk_un (fun w => ej (hi j k (by omega) (by omega) w))]
      exact dq_gv_w hm hr hi k (by omega) j (by omega)
theorem dq_cn_t (hn : n ≤ 12) (hm5 : m ≤ 5) (hm : 0 < m) (hr : r < 2) {c : Nat} (hc : c < m) : n / m ≤ dq_cn (am_gvn P u n m r).1 c n ∧ dq_cn (am_gvn P u n m r).1 c n ≤ (n + m - 1) / m := by
  have e1 : dq_cn (am_gvn P u n m r).1 c n = am_cnt (fun j => decide ((am_gvn P u n m r).1 (am_srt (am_led u) 0 n j) = nI c)) n := (dq_cnt_o (am_led u) (fun i => decide ((am_gvn P u n m r).1 i = nI c)) n (by omega)).symm
  have w : ∀ j, j < n → (am_gvn P u n m r).1 (am_srt (am_led u) 0 n j) = nI (if r = 0 then j % m else am_gg u m (j % m)) := fun j hj => dq_gv_w (o := am_god u 0 n) hm hr (fun i j a b h => am_srt_j (am_led u) 0 n i j a b h) n (Nat.le_refl _) j hj
  rw [e1]
  by_cases e0 : r = 0
  · have e2 : am_cnt (fun j => decide ((am_gvn P u n m r).1 (am_srt (am_led u) 0 n j) = nI c)) n = am_cnt (fun t => decide (t % m = c)) n := dq_cnt_c n (fun j hj => by
      rw [w j hj, if_pos e0]
      have := Nat.mod_lt j hm
      have q := nI_eq (a := j % m) (b := c) (by omega) (by omega)
      exact decide_eq_decide.mpr q)
    rw [e2]
    exact dq_turn m (by omega) hm n (by omega) c hc
  · obtain ⟨c2, hc2, ec⟩ := am_srt_s (am_lea u) 0 m c hc
    have e2 : am_cnt (fun j => decide ((am_gvn P u n m r).1 (am_srt (am_led u) 0 n j) = nI c)) n = am_cnt (fun t => decide (t % m = c2)) n := dq_cnt_c n (fun j hj => by
      rw [w j hj, if_neg e0]
      have h1 := Nat.mod_lt j hm
      have h2 : am_gg u m (j % m) < m := am_gg_lt _ h1
      have q := nI_eq (a := am_gg u m (j % m)) (b := c) (by omega) (by omega)
      refine decide_eq_decide.mpr (q.trans ⟨fun w => am_srt_j (am_lea u) 0 m _ _ h1 hc2 ?_, fun w => ?_⟩)
      · show am_gg u m (j % m) = _
        rw [w, ec, Nat.zero_add]
      · rw [w]
        show am_srt (am_lea u) 0 m c2 = c
        rw [ec, Nat.zero_add])
    rw [e2]
    exact dq_turn m (by omega) hm n (by omega) c2 hc2
/-- none of its doors: nothing -/
theorem dq_sto_0 {W e : Nat → Int32} {c : Nat} : ∀ k, dq_cn W c k = 0 → am_sto W e (nI c) k = 0
  | 0, _ => rfl
  | k + 1, h => by
    rw [dq_cn_s] at h
    rw [am_sto_s, dq_sto_0 k (by omega)]
    by_cases g : W k = nI c
    · rw [if_pos g] at h
      omega
    · rw [if_neg g]
      rfl
/-- never eaten ones are its own -/
theorem dq_aw_e {c : Nat} : ∃ q, q ≤ dq_cn (am_gvn P u n m r).1 c n ∧ dq_aw P u n m r c 1 = nI q := by
  refine ⟨am_cnt (fun i => decide ((am_gvn P u n m r).1 i = nI c) && decide (am_nev u c i)) n, dq_cnt_mono n (fun j _ h => (Bool.and_eq_true_iff.mp h).1), ?_⟩
  rw [am_cnt_m]
  unfold dq_aw
  refine am_sm_c n (fun j hj => ?_)
  show am_aw1 (am_gvn P u n m r).1 u c j = _
  unfold am_aw1
  by_cases g : (am_gvn P u n m r).1 j = nI c
  · rw [if_pos g]
    by_cases g2 : am_nev u c j
    · rw [if_pos g2, if_pos (by simp only [Bool.and_eq_true, decide_eq_true_eq]; exact ⟨g, g2⟩)]
    · rw [if_neg g2, if_neg (by simp only [Bool.and_eq_true, decide_eq_true_eq]; exact fun w => g2 w.2)]
  · rw [if_neg g, if_neg (by simp only [Bool.and_eq_true, decide_eq_true_eq]; exact fun w => g w.1)]
/-- the best gathering -/
theorem dq_gbt_1 (G : Nat → Int32) : ∀ k, (G 1).toInt ≤ (G (am_gbt G k)).toInt
  | 0 => Int.le_refl _
  | k + 1 => by
    have ih := dq_gbt_1 G k
    unfold am_gbt
    by_cases h : G (k + 2) ≤ G (am_gbt G k)
    · rw [if_pos h]
      exact ih
    · rw [if_neg h]
      rw [am_le_i] at h
      omega
/-- the least unfair -/
theorem dq_brl_m (U T : Nat → Int32) : ∀ k j, j ≤ k → (U (am_brl U T k)).toInt ≤ (U j).toInt ∧ (U (am_brl U T k) = U j → (T j).toInt ≤ (T (am_brl U T k)).toInt)
  | 0, j, hj => by
    have e : j = 0 := by omega
    subst e
    exact ⟨Int.le_refl _, fun _ => Int.le_refl _⟩
  | k + 1, j, hj => by
    have ih := dq_brl_m U T k
    unfold am_brl
    by_cases g : U (k + 1) < U (am_brl U T k)
    · rw [if_pos g]
      rw [am_lt_i] at g
      by_cases e : j = k + 1
      · subst e
        exact ⟨Int.le_refl _, fun _ => Int.le_refl _⟩
      · obtain ⟨i1, i2⟩ := ih j (by omega)
        refine ⟨by omega, fun w => ?_⟩
        rw [am_eq_i] at w
        omega
    · rw [if_neg g]
      rw [am_lt_i] at g
      by_cases g2 : U (am_brl U T k) = U (k + 1) ∧ T (am_brl U T k) < T (k + 1)
      · rw [if_pos g2]
        obtain ⟨h1, h2⟩ := g2
        rw [am_lt_i] at h2
        by_cases e : j = k + 1
        · subst e
          exact ⟨Int.le_refl _, fun _ => Int.le_refl _⟩
        · obtain ⟨i1, i2⟩ := ih j (by omega)
          rw [← h1]
          exact ⟨i1, fun w => by have := i2 w; omega⟩
      · rw [if_neg g2]
        by_cases e : j = k + 1
        · subst e
          refine ⟨by omega, fun w => ?_⟩
          by_cases h2 : T (am_brl U T k) < T (k + 1)
          · exact absurd ⟨w, h2⟩ g2
          · rw [am_lt_i] at h2
            omega
        · exact ih j (by omega)
theorem dq_least (hr : r < 5) : (am_ufr P u n m (dq_brl P u n m)).toInt ≤ (am_ufr P u n m r).toInt := (dq_brl_m (am_ufr P u n m) (am_tgr P u n m) 4 r (by omega)).1
/-- each giving is among all of them -/
theorem dq_nV_i {w v : Nat → Nat} (hm : 0 < m) : ∀ k, (∀ i, i < k → w i < m) → (∀ i, i < k → v i < m) → am_nV m k w = am_nV m k v → ∀ i, i < k → w i = v i
  | 0, _, _, _, i, hi => absurd hi (Nat.not_lt_zero _)
  | k + 1, hw, hv, h, i, hi => by
    have h : am_nV m k w * m + w k = am_nV m k v * m + v k := h
    have a1 := hw k (by omega)
    have a2 := hv k (by omega)
    have d1 : (am_nV m k w * m + w k) / m = am_nV m k w := by
      rw [Nat.mul_comm, Nat.mul_add_div hm, Nat.div_eq_of_lt a1, Nat.add_zero]
    have d2 : (am_nV m k v * m + v k) / m = am_nV m k v := by
      rw [Nat.mul_comm, Nat.mul_add_div hm, Nat.div_eq_of_lt a2, Nat.add_zero]
    have e1 : am_nV m k w = am_nV m k v := by rw [← d1, h, d2]
    have e2 : w k = v k := by
      rw [e1] at h
      omega
    by_cases e : i = k
    · rw [e, e2]
    · exact dq_nV_i hm k (fun i hi => hw i (by omega)) (fun i hi => hv i (by omega)) e1 i (by omega)
theorem dq_sto_w {W W2 e : Nat → Int32} {x : Int32} {k : Nat} (h : ∀ i, i < k → W i = W2 i) : am_sto W e x k = am_sto W2 e x k := am_sto_c (fun i hi => ⟨h i hi, rfl⟩)
/-- a rule's giving by its number -/
theorem dq_ix (hm5 : m ≤ 5) (hm : 0 < m) : ∃ i, i < m ^ n ∧ am_fU P u n m i = am_ufr P u n m r ∧ am_fT P u n m i = am_tgr P u n m r := by
  have hw : ∀ i, i < n → ((am_gvn P u n m r).1 i).toNatClampNeg < m ∧ (am_gvn P u n m r).1 i = nI ((am_gvn P u n m r).1 i).toNatClampNeg := fun i hi => by
    obtain ⟨c, hc, e⟩ := am_gvn_p (P := P) (u := u) (r := r) hm i hi
    rw [e, nI_clamp (by omega)]
    exact ⟨hc, rfl⟩
  have hlt := am_nV_lt (m := m) (w := fun i => ((am_gvn P u n m r).1 i).toNatClampNeg) n (fun i hi => (hw i hi).1)
  have key : ∀ i, i < n → am_fq m n (am_nV m n (fun i => ((am_gvn P u n m r).1 i).toNatClampNeg)) i = ((am_gvn P u n m r).1 i).toNatClampNeg := dq_nV_i hm n (fun i hi => am_fq_b hm _ i hi) (fun i hi => (hw i hi).1) (am_fq_V hm _ hlt)
  have hS : ∀ c, c < m → am_fS P u n (am_fq m n (am_nV m n (fun i => ((am_gvn P u n m r).1 i).toNatClampNeg))) c = (am_gvn P u n m r).2 c := fun c hc => by
    rw [am_gvn_s hm5 hc]
    unfold am_fS am_wog
    exact dq_sto_w (fun i hi => by
      unfold am_wn
      rw [key i hi]
      exact (hw i hi).2.symm)
  exact ⟨_, hlt, am_unf_c hS, am_tgs_c m hS⟩
/-- none is fairer than the fairest; of like ones it has most together -/
theorem dq_fair (hm5 : m ≤ 5) (hm : 0 < m) : (am_fU P u n m (am_fB P u n m (m ^ n - 1))).toInt ≤ (am_ufr P u n m r).toInt ∧ (am_fU P u n m (am_fB P u n m (m ^ n - 1)) = am_ufr P u n m r → (am_tgr P u n m r).toInt ≤ (am_fT P u n m (am_fB P u n m (m ^ n - 1))).toInt) := by
  obtain ⟨i, hi, e1, e2⟩ := dq_ix (P := P) (u := u) (n := n) (m := m) (r := r) hm5 hm
  have z := dq_brl_m (am_fU P u n m) (am_fT P u n m) (m ^ n - 1) i (by omega)
  rw [← e1, ← e2]
  exact z
end SP78
