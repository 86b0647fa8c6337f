/-! the law's run: what it keeps, and its loop over the rules -/
/-- deeds as at first, and an image of them -/
def dq_D0 (mi : am_MI) : Prop := (∀ j, j < 12 → mi 60 j = -2) ∧ (∀ j, j < 12 → mi 61 j = -2) ∧ (∀ j, 2 ≤ j → j ≤ 5 → mi 59 j = 0) ∧ mi 59 6 = 1 ∧ ∀ j, 8 ≤ j → j ≤ 11 → mi 59 j = 0
def dq_B (P : List (List Nat × List Nat)) (u : Nat → Nat → Int32) (n m v : Nat) (mi : am_MI) : Prop := dq_Q P u n m mi ∧ dq_V v mi ∧ dq_C mi ∧ dq_D0 mi ∧ mi 15 1 = 0
/-- what told is then -/
def dq_S (P : List (List Nat × List Nat)) (u : Nat → Nat → Int32) (n m : Nat) : Int64 := dq_told P u n m (fun _ => -2) (fun _ => 0)
def dq_mx (s : Nat → Int32) : Nat → Int32
  | 0 => 0
  | k + 1 => am_max (dq_mx s k) (s k)
def dq_mi (s : Nat → Int32) : Nat → Int32
  | 0 => 99999
  | k + 1 => am_min (dq_mi s k) (s k)
theorem dq_mm {s : Nat → Int32} {m : Nat} (h : ∀ c, c < m → ∃ q, q ≤ 1188 ∧ s c = nI q) : ∀ k, k + 1 ≤ m → dq_mx s (k + 1) = am_mxs s k ∧ dq_mi s (k + 1) = am_mns s k
  | 0, hk => by
    obtain ⟨q, hq, e⟩ := h 0 (by omega)
    refine ⟨?_, ?_⟩
    · show am_max 0 (s 0) = s 0
      rw [e, show (0 : Int32) = nI 0 from rfl, dq_max (by omega) (by omega), show max 0 q = q by omega]
    · show am_min 99999 (s 0) = s 0
      rw [e, show (99999 : Int32) = nI 99999 from rfl, dq_min (by omega) (by omega), show min 99999 q = q by omega]
  | k + 1, hk => by
    obtain ⟨a, b⟩ := dq_mm h k (by omega)
    refine ⟨?_, ?_⟩
    · show am_max (dq_mx s (k + 1)) (s (k + 1)) = am_max (am_mxs s k) (s (k + 1))
      rw [a]
    · show am_min (dq_mi s (k + 1)) (s (k + 1)) = am_min (am_mns s k) (s (k + 1))
      rw [b]
/-- the row told: whose each door is -/
def dq_row (P : List (List Nat × List Nat)) (u : Nat → Nat → Int32) (n m r d : Nat) (ml : am_ML) : Prop := ∀ j, j < d → (ml 67 j).toInt32 = if m = 0 then -1 else (am_gvn P u n m r).1 j
def dq_Br (P : List (List Nat × List Nat)) (u : Nat → Nat → Int32) (n m v r d : Nat) (mi : am_MI) (ml : am_ML) : Prop := dq_B P u n m v mi ∧ am_rw 0 n mi ml ∧ dq_row P u n m r d ml
theorem dq_low : ∀ c, c < 12 → (am_low 0 (nI c).toInt64).toInt32 = nI c := by decide
theorem dq_lowm : (am_low 0 (-1)).toInt32 = -1 := by decide
theorem dq_lc {x : Int64} : lg_cmp x x = 0 := by
  have a : ¬ 0 < lg_cmp x x := fun w => by have := am_lc1.mp w; omega
  have b : ¬ lg_cmp x x < 0 := fun w => by have := am_lc3.mp w; omega
  rw [am_lt_i, am_l0] at a b
  rw [am_eq_i, am_l0]
  omega
section SP80
variable {K : am_K} {n m r v : Nat} {u : Nat → Nat → Int32} {R : am_R} {P : List (List Nat × List Nat)}
theorem dq_D0_on {a b : am_MI} (h : dq_D0 a) (k : ∀ c j, 59 ≤ c → c ≤ 61 → b c j = a c j) : dq_D0 b := by
  obtain ⟨h1, h2, h3, h4, h5⟩ := h
  exact ⟨fun j hj => (k 60 j (by omega) (by omega)).trans (h1 j hj), fun j hj => (k 61 j (by omega) (by omega)).trans (h2 j hj), fun j a b => (k 59 j (by omega) (by omega)).trans (h3 j a b), (k 59 6 (by omega) (by omega)).trans h4, fun j a b => (k 59 j (by omega) (by omega)).trans (h5 j a b)⟩
theorem dq_B_Z {a b : am_MI} (hB : dq_B P u n m v a) (k : am_kp (am_FZ n) a b) (q : dq_Q P u n m b) : dq_B P u n m v b :=
  ⟨q, dq_V_on hB.2.1 (k 1 3 (dq_Z1 (by omega) (by omega))) (k 15 7 (dq_Z1 (by omega) (by omega))), dq_C_on hB.2.2.1 (k 13 1 (dq_Z1 (by omega) (by omega))), dq_D0_on hB.2.2.2.1 (fun c j h1 h2 => k c j (dq_Z (by omega) (by omega))), (k 15 1 (dq_Z1 (by omega) (by omega))).trans hB.2.2.2.2⟩
theorem dq_rw_Z {s l : Nat} {a b : am_MI} {ml : am_ML} (hs : s < 6) (hrow : am_rw s l a ml) (k : am_kp (am_FZ n) a b) : am_rw s l b ml :=
  ⟨(k _ _ (dq_Z (by omega) (by omega))).trans hrow.1, (k _ _ (dq_Z (by omega) (by omega))).trans hrow.2.1, trivial, (k _ _ (dq_Z (by omega) (by omega))).trans hrow.2.2.2.1, trivial, hrow.2.2.2.2.2⟩
theorem dq_Br_Z {d : Nat} {a b : am_MI} {ml : am_ML} (hB : dq_Br P u n m v r d a ml) (k : am_kp (am_FZ n) a b) (q : dq_Q P u n m b) : dq_Br P u n m v r d b ml :=
  ⟨dq_B_Z hB.1 k q, dq_rw_Z (by omega) hB.2.1 k, hB.2.2⟩
theorem dq_S_e {a : am_MI} (h : dq_D0 a) (hn : n ≤ 12) : dq_told P u n m (a 60) (a 59) = dq_S P u n m :=
  dq_told_c (fun j hj => h.1 j (by omega)) (fun j h1 h2 => h.2.2.1 j h1 h2)
/-- told, in the law's run -/
theorem dq_290B {d : Nat} {a : am_MI} {ml : am_ML} (hB : dq_B P u n m v a) (h : ∀ m2, am_kp (am_FZ n) a m2 → dq_B P u n m v m2 → R (some (.long (dq_S P u n m))) m2 ml) : am_call (d + 13) 290 [.ref 0] a ml R :=
  dq_290 hB.1 (fun m2 k q => by
    rw [dq_S_e hB.2.2.2.1 hB.1.1.2.1.1]
    exact h m2 k (dq_B_Z hB k q))
theorem dq_rc {a b : Nat} : (100 : Int32) * nI a + nI b = nI (100 * a + b) := by
  rw [show (100 : Int32) = nI 100 from rfl, pk_mul, nI_add]
theorem dq_rt {a b : Nat} : (10 : Int32) * nI a + nI b = nI (10 * a + b) := by
  rw [show (10 : Int32) = nI 10 from rfl, pk_mul, nI_add]
section LOOPS
variable {S : Int64} {l7 l8 l10 : Int32}
/-- each door's owner into the row -/
theorem dl_160 (hcl : am_lawK K) (hn : n ≤ 12) (hm : m ≤ 5) (hr : r < 5)
    (hnext : ∀ mi ml, dq_Br P u n m v r n mi ml → K 211 [some (.ref 117), some (.ref 0), none, some (.int (nI n)), some (.int (nI m)), some (.long (S)), none, some (.int (l7)), some (.int (l8)), some (.int (nI r)), some (.int (l10)), some (.int (0)), some (.int (99999)), some (.int (0)), some (.int (nI (dq_hN (am_gvn P u n m r).1 n))), none, none, none] [] mi ml) : ∀ d, d ≤ n → ∀ mi ml, dq_Br P u n m v r d mi ml → K 160 [some (.ref 117), some (.ref 0), none, some (.int (nI n)), some (.int (nI m)), some (.long (S)), none, some (.int (l7)), some (.int (l8)), some (.int (nI r)), some (.int (l10)), some (.int (0)), some (.int (99999)), some (.int (0)), some (.int (nI (dq_hN (am_gvn P u n m r).1 d))), some (.int (nI d)), none, none] [] mi ml := by
  refine am_for n _ (fun mi ml hB => lb_160 hcl (pk_le n n (fun _ => hnext mi ml hB) (fun w => absurd w (by omega)) rfl rfl)) (fun d hd ih mi ml hB => ?_)
  have go : ∀ mi ml, dq_Br P u n m v r (d + 1) mi ml → K 199 [some (.ref 117), some (.ref 0), none, some (.int (nI n)), some (.int (nI m)), some (.long (S)), none, some (.int (l7)), some (.int (l8)), some (.int (nI r)), some (.int (l10)), some (.int (0)), some (.int (99999)), some (.int (0)), some (.int (nI (dq_hN (am_gvn P u n m r).1 d))), some (.int (nI d)), some (.int ((am_gvn P u n m r).1 d)), none] [] mi ml := by
    intro mi ml hB
    have z := ih mi ml hB
    rw [← nI_1] at z
    by_cases hm0 : m = 0
    · subst hm0
      have e : (am_gvn P u n 0 r).1 d = -2 := am_gvn_z d
      have eH : dq_hN (am_gvn P u n 0 r).1 (d + 1) = dq_hN (am_gvn P u n 0 r).1 d := by rw [dq_hN_z (fun i => am_gvn_z i), dq_hN_z (fun i => am_gvn_z i)]
      rw [eH] at z
      exact lb_199 hcl ⟨fun _ => lb_209 hcl z, fun w => absurd (by rw [e]; decide) w⟩
    · obtain ⟨c, hc, e⟩ := am_gvn_p (P := P) (u := u) (r := r) (show 0 < m by omega) d hd
      have neg : ¬ (am_gvn P u n m r).1 d < 0 := by rw [e]; exact dq_p (by omega)
      have eH : dq_hN (am_gvn P u n m r).1 (d + 1) = dq_hN (am_gvn P u n m r).1 d + 16 ^ c := by
        show dq_hN (am_gvn P u n m r).1 d + (if (am_gvn P u n m r).1 d < 0 then 0 else 16 ^ ((am_gvn P u n m r).1 d).toNatClampNeg) = _
        rw [if_neg neg, e, nI_clamp (by omega)]
      rw [eH] at z
      refine lb_199 hcl ⟨fun w => absurd w neg, fun _ => ?_⟩
      rw [e, dq_shl4 c (by omega), nI_add]
      exact lb_209 hcl z
  refine lb_160 hcl (pk_le n d (fun w => absurd w (by omega)) (fun _ => ?_) rfl rfl)
  rw [dq_rc]
  refine dq_126 hB.1.1 hr hd rfl (fun m2 k2 q2 => am_ri_i ?_)
  have hB2 := dq_Br_Z hB k2 q2
  by_cases hm0 : m = 0
  · have e : (am_gvn P u n m r).1 d = -2 := by rw [hm0]; exact am_gvn_z d
    have ge := go
    rw [e] at ge ⊢
    refine ⟨fun w => absurd w (by decide), fun _ => ⟨fun w => absurd (by rw [hm0]; rfl) w, fun _ => ⟨fun w => absurd rfl w, fun _ => ⟨fun w => absurd w (by rw [hm0]; decide), fun _ => ⟨fun w => absurd w (by decide), fun _ => ?_⟩⟩⟩⟩⟩
    refine dq_158 (s := 0) (j := d) (by omega) hB2.2.1 rfl hd rfl (am_ri_i ⟨fun _ => ge _ _ ⟨hB2.1, hB2.2.1, fun j hj => ?_⟩, fun w => absurd rfl w⟩)
    rw [if_pos hm0]
    by_cases ej : j = d
    · subst ej
      show (am_ul ml 67 j (am_low 0 (-1)) 67 j).toInt32 = -1
      unfold am_ul
      rw [if_pos ⟨rfl, rfl⟩]
      exact dq_lowm
    · show (am_ul ml 67 d (am_low 0 (-1)) 67 j).toInt32 = -1
      unfold am_ul
      rw [if_neg (fun w => ej w.2), hB2.2.2 j (by omega), if_pos hm0]
  · obtain ⟨c, hc, e⟩ := am_gvn_p (P := P) (u := u) (r := r) (show 0 < m by omega) d hd
    have ge := go
    rw [e] at ge ⊢
    have nm : ¬ nI m ≤ nI c := fun w => by
      have := (dq_le (by omega) (by omega)).mp w
      omega
    have m0 : nI m ≠ 0 := fun w => hm0 ((nI_eq (b := 0) (by omega) (by omega)).mp w)
    refine ⟨fun _ => lb_175 hcl ⟨fun _ => ⟨fun w => absurd rfl w, fun _ => ⟨fun w => absurd w nm, fun _ => ⟨fun _ => ?_, fun w => absurd (nI_pos' (by omega)) w⟩⟩⟩, fun w => absurd m0 w⟩, fun w => absurd (nI_pos' (by omega)) w⟩
    refine dq_158 (s := 0) (j := d) (by omega) hB2.2.1 rfl hd rfl (am_ri_i ⟨fun _ => ge _ _ ⟨hB2.1, hB2.2.1, fun j hj => ?_⟩, fun w => absurd rfl w⟩)
    rw [if_neg hm0]
    by_cases ej : j = d
    · subst ej
      show (am_ul ml 67 j (am_low 0 (nI c).toInt64) 67 j).toInt32 = _
      unfold am_ul
      rw [if_pos ⟨rfl, rfl⟩, e]
      exact dq_low c (by omega)
    · show (am_ul ml 67 d (am_low 0 (nI c).toInt64) 67 j).toInt32 = _
      unfold am_ul
      rw [if_neg (fun w => ej w.2), hB2.2.2 j (by omega), if_neg hm0]
/-- each child's all -/
theorem dl_213 (hcl : am_lawK K) (hn : n ≤ 12) (hm : m ≤ 5) (hr : r < 5)
    (hnext : ∀ mi ml, dq_Br P u n m v r n mi ml → K 314 [some (.ref 117), some (.ref 0), none, some (.int (nI n)), some (.int (nI m)), some (.long (S)), none, some (.int (l7)), some (.int (l8)), some (.int (nI r)), some (.int (l10)), some (.int (dq_mx (am_gvn P u n m r).2 m)), some (.int (dq_mi (am_gvn P u n m r).2 m)), some (.int (am_tgs (am_gvn P u n m r).2 m)), none, none, none, none] [] mi ml) : ∀ c, c ≤ m → ∀ mi ml, dq_Br P u n m v r n mi ml → K 213 [some (.ref 117), some (.ref 0), none, some (.int (nI n)), some (.int (nI m)), some (.long (S)), none, some (.int (l7)), some (.int (l8)), some (.int (nI r)), some (.int (l10)), some (.int (dq_mx (am_gvn P u n m r).2 c)), some (.int (dq_mi (am_gvn P u n m r).2 c)), some (.int (am_tgs (am_gvn P u n m r).2 c)), some (.int (nI (dq_hN (am_gvn P u n m r).1 n))), some (.int (nI c)), none, none] [] mi ml := by
  refine am_for m _ (fun mi ml hB => lb_213 hcl (pk_le m m (fun _ => hnext mi ml hB) (fun w => absurd w (by omega)) rfl rfl)) (fun c hc ih mi ml hB => ?_)
  have own := am_gvn_p (P := P) (u := u) (n := n) (r := r) (show 0 < m by omega)
  have cnl : dq_cn (am_gvn P u n m r).1 c n ≤ n := dq_cn_le
  have h286 : ∀ mi ml, dq_Br P u n m v r n mi ml → K 286 [some (.ref 117), some (.ref 0), none, some (.int (nI n)), some (.int (nI m)), some (.long (S)), none, some (.int (l7)), some (.int (l8)), some (.int (nI r)), some (.int (l10)), some (.int (dq_mx (am_gvn P u n m r).2 (c + 1))), some (.int (dq_mi (am_gvn P u n m r).2 (c + 1))), some (.int (am_tgs (am_gvn P u n m r).2 (c + 1))), some (.int (nI (dq_hN (am_gvn P u n m r).1 n))), some (.int (nI c)), none, none] [] mi ml := by
    intro mi ml hB
    refine lb_286 hcl ?_
    rw [dq_rt]
    refine dq_136 (g := 0) hB.1.1 hr hc rfl (by omega) rfl (fun m2 k2 q2 => am_ri_i ?_)
    rw [if_pos rfl]
    obtain ⟨g1, g2⟩ := am_gbt_b (dq_gsm P u n m r c) 8
    refine dq_136 (g := dq_gb P u n m r c) q2 hr hc rfl g2 rfl (fun m3 k3 q3 => am_ri_i ?_)
    have gne : ¬ dq_gb P u n m r c = 0 := by
      show ¬ am_gbt (dq_gsm P u n m r c) 8 = 0
      omega
    rw [if_neg gne]
    refine dq_136 (g := 1) q3 hr hc rfl (by omega) rfl (fun m4 k4 q4 => am_ri_i ?_)
    rw [if_neg (show ¬ 1 = 0 by omega)]
    refine ⟨fun _ => lb_312 hcl ?_, fun w => absurd (am_le_i.mpr (dq_gbt_1 (dq_gsm P u n m r c) 8)) w⟩
    rw [nI_1]
    exact ih m4 ml (dq_Br_Z hB (am_kp_t k2 (am_kp_t k3 k4)) q4)
  have h261 : ∀ mi ml, dq_Br P u n m v r n mi ml → K 261 [some (.ref 117), some (.ref 0), none, some (.int (nI n)), some (.int (nI m)), some (.long (S)), none, some (.int (l7)), some (.int (l8)), some (.int (nI r)), some (.int (l10)), some (.int (dq_mx (am_gvn P u n m r).2 (c + 1))), some (.int (dq_mi (am_gvn P u n m r).2 (c + 1))), some (.int (am_tgs (am_gvn P u n m r).2 (c + 1))), some (.int (nI (dq_hN (am_gvn P u n m r).1 n))), some (.int (nI c)), some (.int ((am_gvn P u n m r).2 c)), some (.int (nI (dq_cn (am_gvn P u n m r).1 c n)))] [] mi ml := by
    intro mi ml hB
    refine lb_261 hcl ?_
    rw [dq_rt]
    refine dq_135 (t := 1) hB.1.1 hr hc rfl (Or.inl rfl) rfl (fun m2 k2 q2 => am_ri_i ?_)
    obtain ⟨q, hq, e⟩ := dq_aw_e (P := P) (u := u) (n := n) (m := m) (r := r) (c := c)
    rw [e]
    refine ⟨fun w => absurd ((dq_lt (by omega) (by omega)).mp w) (by omega), fun _ => ?_⟩
    refine dq_137 q2 hr hc rfl (fun m3 k3 q3 => am_ri_i (sp_273 (am_ri_i ?_)))
    obtain ⟨q', hq', e'⟩ := dq_wt_e (P := P) (u := u) (n := n) (m := m) (r := r) (c := c) hn
    rw [e']
    have hB3 := dq_Br_Z hB (am_kp_t k2 k3) q3
    refine ⟨fun w => absurd ((dq_lt (by omega) (by omega)).mp w) (by omega), fun _ => ⟨fun _ => h286 m3 ml hB3, fun w => ⟨fun w2 => absurd ?_ w2, fun _ => h286 m3 ml hB3⟩⟩⟩
    have c0 : dq_cn (am_gvn P u n m r).1 c n = 0 := (nI_eq (b := 0) (by omega) (by omega)).mp (Decidable.not_not.mp w)
    rw [am_gvn_s hm hc]
    exact dq_sto_0 n c0
  refine lb_213 hcl (pk_le m c (fun w => absurd w (by omega)) (fun _ => ?_) rfl rfl)
  rw [dq_rt]
  refine dq_127 hB.1.1 hr hc rfl (fun m2 k2 q2 => am_ri_i ?_)
  have hB2 := dq_Br_Z hB k2 q2
  rw [dq_dig hn hm own (show c < 5 by omega)]
  refine ⟨fun _ => h261 m2 ml hB2, fun w => ?_⟩
  have hr2 : r < 2 := by
    rcases Nat.lt_or_ge r 2 with q | q
    · exact q
    · exact absurd ((dq_le (a := 2) (by omega) (by omega)).mpr q) w
  obtain ⟨t1, t2⟩ := dq_cn_t (P := P) (u := u) (n := n) (m := m) (r := r) hn hm (by omega) hr2 hc
  have m0 : ¬ nI m = 0 := fun w => by
    have := (nI_eq (b := 0) (by omega) (by omega)).mp w
    omega
  have d1 : (nI n + nI m - 1) / nI m = nI ((n + m - 1) / m) := by
    rw [nI_add, show (1 : Int32) = nI 1 from rfl, pk_sub (by omega), pk_div (by omega) (by omega) (by omega)]
  have d2 : nI n / nI m = nI (n / m) := pk_div (by omega) (by omega) (by omega)
  have b1 : (n + m - 1) / m ≤ n + m := Nat.le_trans (Nat.div_le_self _ _) (by omega)
  have b2 : n / m ≤ n := Nat.div_le_self _ _
  rw [d1, d2]
  exact ⟨m0, fun w => absurd ((dq_lt (by omega) (by omega)).mp w) (by omega), fun _ => ⟨m0, fun w => absurd ((dq_lt (by omega) (by omega)).mp w) (by omega), fun _ => h261 m2 ml hB2⟩⟩
end LOOPS
end SP80
