/-! pairs: fairest, envyFree -/
/-- what the class keeps is of this calendar, if its version is -/
def am_fvi (P : List (List Nat × List Nat)) (u : Nat → Nat → Int32) (n m : Nat) (mi : am_MI) : Prop := (mi 47 2 = mi 1 3 + mi 15 7 ∧ (n ≤ 8 → m ≤ 3 → 0 < m → am_fai P u n m (m ^ n - 1) mi)) ∨ (mi 47 2).toInt < (mi 1 3 + mi 15 7).toInt
def am_Ffo : Nat → Nat → Bool := fun c _ => decide (47 ≤ c ∧ c ≤ 57)
def am_FZ (n : Nat) : Nat → Nat → Bool := fun c j => am_FV n c j || am_Ffo c j
section SP65
variable {d n m : Nat} {u : Nat → Nat → Int32} {mi : am_MI} {ml : am_ML} {R : am_R} {P : List (List Nat × List Nat)} {Q : Int32 → Int32 → am_MI → am_ML → Prop} {w : Nat → Nat} {own : Nat → Int32}
theorem am_FZ_f {c j : Nat} (h : am_FZ n c j = false) : am_FV n c j = false ∧ am_Ffo c j = false := by
  unfold am_FZ at h
  exact Bool.or_eq_false_iff.mp h
theorem am_kZ_V {a b : am_MI} (h : am_kp (am_FV n) a b) : am_kp (am_FZ n) a b := am_kp_w h (fun _ _ q => (am_FZ_f q).1)
theorem am_kZ_24 {a b : am_MI} (h : am_kp am_Ffo a b) : am_kp (am_FZ n) a b := am_kp_w h (fun _ _ q => (am_FZ_f q).2)
theorem am_X_24 {a b : am_MI} (h : am_X P u n m a) (hk : am_kp am_Ffo a b) : am_X P u n m b := by
  obtain ⟨h1, h2, h3, h4⟩ := h
  refine ⟨am_lwr_on h1 (hk _ _ rfl) (hk _ _ rfl) (hk _ _ rfl) (fun j => hk _ _ rfl) (fun c j q1 q2 => hk _ _ (decide_eq_false (by omega))) (hk _ _ rfl) (fun j => hk _ _ rfl), am_cx_on h2 (hk 1 1 rfl) (hk 1 2 rfl) (fun w i hw => hk _ _ (decide_eq_false (by omega))), ⟨h3.1, h3.2.1, (hk 78 0 rfl).trans h3.2.2.1, (hk 78 5 rfl).trans h3.2.2.2.1, fun w i hv => ?_⟩, h4⟩
  have hr := am_mc_r w (by unfold am_val at hv; omega)
  exact (hk _ _ (decide_eq_false (by omega))).trans (h3.2.2.2.2 w i hv)
theorem am_fai_on {i : Nat} {a b : am_MI} (h : am_fai P u n m i a) (he : ∀ c j, 47 ≤ c → c ≤ 57 → b c j = a c j) : am_fai P u n m i b := by
  obtain ⟨h1, h2, h3, h4⟩ := h
  exact ⟨(he 47 7 (by omega) (by omega)).trans h1, (he 47 8 (by omega) (by omega)).trans h2, fun j hj => (he 53 j (by omega) (by omega)).trans (h3 j hj), (he 47 9 (by omega) (by omega)).trans h4⟩
theorem am_fU_b (hu : am_ur n m u) (hn : n ≤ 8) (i : Nat) : ∃ q, q ≤ 792 ∧ am_fU P u n m i = nI q := am_unf_b (by omega) (fun c hc => by
  obtain ⟨q, hq, e⟩ := am_sto_b (own := am_wn (am_fq m n i)) (e := am_ge P u c) (x := nI c) (k := n) (fun i hi => am_ge_c hu hc hi)
  exact ⟨q, by omega, e⟩)
theorem am_fvi_u (h : am_fvi P u n m mi) (e : mi 47 2 = mi 1 3 + mi 15 7) : n ≤ 8 → m ≤ 3 → 0 < m → am_fai P u n m (m ^ n - 1) mi := (h.resolve_right (fun q => by
  rw [e] at q
  omega)).2
theorem am_fvi_on {a b : am_MI} (h : am_fvi P u n m a) (he : ∀ c j, 47 ≤ c → c ≤ 57 → b c j = a c j) (e1 : b 1 3 = a 1 3) (e2 : b 15 7 = a 15 7) : am_fvi P u n m b := by
  unfold am_fvi
  rw [he 47 2 (by omega) (by omega), e1, e2]
  rcases h with ⟨h1, h2⟩ | h
  · exact Or.inl ⟨h1, fun q1 q2 q3 => am_fai_on (h2 q1 q2 q3) he⟩
  · exact Or.inr h
theorem am_fvi_V {a b : am_MI} (h : am_fvi P u n m a) (hk : am_kp (am_FV n) a b) : am_fvi P u n m b := am_fvi_on h (fun c j q1 q2 => hk c j (decide_eq_false (by omega))) (hk 1 3 rfl) (hk 15 7 rfl)
/-- the step from one giving to the next, in what is kept -/
theorem am_fB_s {i : Nat} : am_fB P u n m (i + 1) = if am_fU P u n m (i + 1) < am_fU P u n m (am_fB P u n m i) then i + 1 else if am_fU P u n m (am_fB P u n m i) = am_fU P u n m (i + 1) ∧ am_fT P u n m (am_fB P u n m i) < am_fT P u n m (i + 1) then i + 1 else am_fB P u n m i := rfl
theorem am_fB_y {i : Nat} (h : am_fU P u n m (i + 1) < am_fU P u n m (am_fB P u n m i) ∨ (am_fU P u n m (i + 1) = am_fU P u n m (am_fB P u n m i) ∧ am_fT P u n m (am_fB P u n m i) < am_fT P u n m (i + 1))) : am_fB P u n m (i + 1) = i + 1 := by
  rw [am_fB_s]
  by_cases g : am_fU P u n m (i + 1) < am_fU P u n m (am_fB P u n m i)
  · rw [if_pos g]
  · rw [if_neg g]
    have h := h.resolve_left g
    rw [if_pos ⟨h.1.symm, h.2⟩]
theorem am_fB_n {i : Nat} (h : ¬ (am_fU P u n m (i + 1) < am_fU P u n m (am_fB P u n m i) ∨ (am_fU P u n m (i + 1) = am_fU P u n m (am_fB P u n m i) ∧ am_fT P u n m (am_fB P u n m i) < am_fT P u n m (i + 1)))) : am_fB P u n m (i + 1) = am_fB P u n m i := by
  rw [am_fB_s, if_neg (fun g => h (Or.inl g)), if_neg (fun g => h (Or.inr ⟨g.1.symm, g.2⟩))]
theorem am_cnt_s {p : Nat → Bool} {k : Nat} : am_cnt p (k + 1) = am_cnt p k + (if p k = true then 1 else 0) := rfl
/-- isTooWide -/
theorem sp_22 (hc : am_cx n m u mi) (h1 : (8 < n ∨ 3 < m) → R (some (.int 1)) mi ml) (h0 : n ≤ 8 → m ≤ 3 → R (some (.int 0)) mi ml) : am_call (d + 1) 22 [.ref 47] mi ml R :=
  bk_22 (pk_lt 8 n (fun q => ⟨am_b1, h1 (Or.inl q)⟩) (fun q => pk_le m 3 (fun q2 => ⟨am_b0, h0 q q2⟩) (fun q2 => ⟨am_b1, h1 (Or.inr q2)⟩) hc.2.2.2.1 rfl (by have := hc.2.1; omega)) rfl hc.2.2.1 (by omega) (by have := hc.1; omega))
theorem sp_223 (hm : am_cm n m u mi) (h1 : (8 < n ∨ 3 < m) → R (some (.int 1)) mi ml) (h0 : n ≤ 8 → m ≤ 3 → R (some (.int 0)) mi ml) : am_call (d + 1) 223 [.ref 78] mi ml R :=
  bk_223 (pk_lt 8 n (fun q => ⟨am_b1, h1 (Or.inl q)⟩) (fun q => pk_le m 3 (fun q2 => ⟨am_b0, h0 q q2⟩) (fun q2 => ⟨am_b1, h1 (Or.inr q2)⟩) hm.2.2.2.1 rfl (by have := hm.2.1; omega)) rfl hm.2.2.1 (by omega) (by have := hm.1; omega))
/-- findOut -/
theorem sp_24 (hX : am_X P u n m mi) (hf : am_fre P u n m mi) (hn : n ≤ 8) (hm : m ≤ 3) (hm0 : 0 < m) (hcur : mi 22 2 = mi 1 3 + mi 15 7) (hv : am_fvi P u n m mi) (h : ∀ m2, am_kp am_Ffo mi m2 → m2 47 2 = mi 22 2 → am_fai P u n m (m ^ n - 1) m2 → R none m2 ml) : am_call (d + 3) 24 [.ref 47] mi ml R := by
  have pb := am_pow_b (m := m) (n := n) hm hn
  have pp := am_pow_p (m := m) (n := n) hm0
  have cx := hX.2.1
  refine bk_24 ⟨fun q => h mi am_kp_r q (am_fvi_u hv (q.trans hcur) hn hm hm0), fun q => sp_22 cx (fun g => by omega) (fun _ _ => am_ri_i (am_n0 ?_))⟩
  generalize hM : am_ui mi 47 2 (mi 22 2) = M
  have kM : am_kp am_Ffo mi M := by
    rw [← hM]
    exact am_kp_u am_kp_r rfl
  have eM : M 47 2 = mi 22 2 := by rw [← hM, am_ui_k]
  refine sp_26 hn hm hm0 ((kM 1 1 rfl).trans cx.2.2.1) ((kM 1 2 rfl).trans cx.2.2.2.1) (fun c i hc hi => (kM (26 + c) i (decide_eq_false (by omega))).trans (hf.2.2.1 c i hc hi)) (fun m2 k2 s2 => am_rv_i ?_)
  have k2' : am_kp am_Ffo mi m2 := am_kp_t kM (am_kp_w k2 (fun c j q => by
    have q := of_decide_eq_false q
    exact decide_eq_false (by omega)))
  have e2 : m2 47 2 = mi 22 2 := (k2 47 2 rfl).trans eM
  generalize hN : am_ui (am_ui (am_ui m2 47 7 2147483647) 47 8 0) 47 9 0 = N
  have kN : am_kp am_Ffo mi N := by
    rw [← hN]
    exact am_kp_u (am_kp_u (am_kp_u k2' rfl) rfl) rfl
  have oN : ∀ c j, ¬ c = 47 → N c j = m2 c j := fun c j q => by rw [← hN, am_ui_c q, am_ui_c q, am_ui_c q]
  have n2 : N 47 2 = mi 22 2 := by rw [← hN, am_ui_n (by omega), am_ui_n (by omega), am_ui_n (by omega), e2]
  have n7 : N 47 7 = 2147483647 := by rw [← hN, am_ui_n (by omega), am_ui_n (by omega), am_ui_k]
  have n9 : N 47 9 = 0 := by rw [← hN, am_ui_k]
  have sN : am_fst P u n m (am_fq m n 0) N := ⟨fun i hi => ⟨by rw [oN 52 i (by decide)]; exact (s2.1 i hi).1, hm0⟩, fun c o hc ho => by rw [oN (55 + c) o (by omega)]; exact s2.2.1 c o hc ho, fun c i hc hi => by rw [oN (49 + c) i (by omega)]; exact s2.2.2 c i hc hi⟩
  refine sp_25 hn hm ((kN 1 1 rfl).trans cx.2.2.1) ((kN 1 2 rfl).trans cx.2.2.2.1) (am_ri_i ?_)
  have loop : ∀ v i, i + v = m ^ n → ∀ m3, am_kp am_Ffo mi m3 → m3 47 2 = mi 22 2 → am_fst P u n m (am_fq m n i) m3 → (i = 0 → m3 47 7 = 2147483647 ∧ m3 47 9 = 0) → (∀ j, i = j + 1 → am_fai P u n m j m3) → am_wp (am_call (d + 2)) mt_24 R 31 [some (.ref 47), some (.int (nI (m ^ n))), some (.int (nI i))] [] m3 ml := by
    intro v
    induction v with
    | zero =>
      intro i ei m3 k3 e3 _ _ g
      have ei : i = m ^ n := ei
      refine bk_24_31 (pk_le (m ^ n) i (fun _ => h m3 k3 e3 (g _ (by omega))) (fun q => by omega) rfl rfl)
    | succ v ih =>
      intro i ei m3 k3 e3 s3 g0 g1
      have hi : i < m ^ n := by omega
      have en3 : m3 1 1 = nI n := (k3 1 1 rfl).trans cx.2.2.1
      have em3 : m3 1 2 = nI m := (k3 1 2 rfl).trans cx.2.2.2.1
      refine bk_24_31 (pk_le (m ^ n) i (fun q => absurd q (by omega)) (fun _ => sp_27 hn hm hm0 em3 s3 (fun m4 k4 c9 t1 t0 => am_rv_i ?_)) rfl rfl)
      have k4' : am_kp am_Ffo mi m4 := am_kp_t k3 (am_kp_w k4 (fun c j q => by
        have q := of_decide_eq_false q
        exact decide_eq_false (by omega)))
      have s4 : am_fst P u n m (am_fq m n i) m4 := ⟨fun j hj => ⟨(k4 52 j rfl).trans (s3.1 j hj).1, (s3.1 j hj).2⟩, fun c o hc ho => (k4 (55 + c) o (decide_eq_false (by omega))).trans (s3.2.1 c o hc ho), fun c j hc hj => (k4 (49 + c) j (decide_eq_false (by omega))).trans (s3.2.2 c j hc hj)⟩
      have eU : am_unf m (am_fS P u n (am_fq m n i)) = am_fU P u n m i := rfl
      have eT : am_tgs (am_fS P u n (am_fq m n i)) m = am_fT P u n m i := rfl
      rw [eU, eT] at t1 t0
      obtain ⟨q, hq, eq⟩ := am_fU_b (P := P) (m := m) hX.2.2.2 hn i
      -- what is kept then
      have fa : am_fai P u n m i m4 := by
        have e9 : m4 47 9 = nI (am_cnt (am_fE P u n m) (i + 1)) := by
          rw [c9, am_cnt_s]
          have eE : am_fE P u n m i = decide (am_evo m (am_wog (am_wn (am_fq m n i)) P u n) m = 0) := rfl
          have e0 : m3 47 9 = nI (am_cnt (am_fE P u n m) i) := by
            cases i with
            | zero => exact (g0 rfl).2
            | succ j => exact (g1 j rfl).2.2.2
          rw [eE, e0]
          by_cases z : am_evo m (am_wog (am_wn (am_fq m n i)) P u n) m = 0
          · rw [if_pos z, if_pos (decide_eq_true z), nI_1]
          · rw [if_neg z, if_neg (fun y => z (of_decide_eq_true y)), Nat.add_zero]
        cases i with
        | zero =>
          have tk : am_fU P u n m 0 < m3 47 7 := by
            rw [(g0 rfl).1, eq, am_lt_i, am_ti (by omega)]
            show (q : Int) < 2147483647
            omega
          obtain ⟨a, b, c⟩ := t1 (Or.inl tk)
          exact ⟨a, b, c, e9⟩
        | succ j =>
          obtain ⟨a, b, c, -⟩ := g1 j rfl
          rw [a, b] at t1 t0
          by_cases z : am_fU P u n m (j + 1) < am_fU P u n m (am_fB P u n m j) ∨ (am_fU P u n m (j + 1) = am_fU P u n m (am_fB P u n m j) ∧ am_fT P u n m (am_fB P u n m j) < am_fT P u n m (j + 1))
          · obtain ⟨x, y, w⟩ := t1 z
            unfold am_fai
            rw [am_fB_y z]
            exact ⟨x, y, w, e9⟩
          · obtain ⟨x, y, w⟩ := t0 z
            unfold am_fai
            rw [am_fB_n z]
            exact ⟨x, y, fun j hj => (w j).trans (c j hj), e9⟩
      have en4 : m4 1 1 = nI n := (k4' 1 1 rfl).trans cx.2.2.1
      have em4 : m4 1 2 = nI m := (k4' 1 2 rfl).trans cx.2.2.2.1
      refine sp_28 hn hm hm0 en4 em4 s4 (fun m5 k5 s5 => am_rv_i ?_)
      rw [nI_1]
      have k5' : am_kp am_Ffo mi m5 := am_kp_t k4' (am_kp_w k5 (fun c j q => by
        have q := of_decide_eq_false q
        exact decide_eq_false (by omega)))
      refine ih (i + 1) (by omega) m5 k5' ?_ s5 (fun z => absurd z (by omega)) (fun j ej => ?_)
      · rw [k5 47 2 rfl, k4 47 2 rfl]
        exact e3
      · have ej : j = i := by omega
        subst ej
        obtain ⟨a, b, c, e⟩ := fa
        exact ⟨(k5 47 7 rfl).trans a, (k5 47 8 rfl).trans b, fun i hi => (k5 53 i rfl).trans (c i hi), (k5 47 9 rfl).trans e⟩
  exact loop (m ^ n) 0 (Nat.zero_add _) N kN n2 sN (fun _ => ⟨n7, n9⟩) (fun j ej => absurd ej (by omega))
def am_F110 : Nat → Nat → Bool := fun c _ => decide (c = 110)
/-- the reference's nextGiving -/
theorem sp_224 (hc : am_cm n m u mi) (hw : ∀ i, i < n → mi 110 i = nI (w i) ∧ w i < m) (h : ∀ m2, am_kp am_F110 mi m2 → (∀ i, i < n → m2 110 i = nI (am_nx m n w i)) → R (some (.int (am_b2i (am_nxb m n w)))) m2 ml) : am_call (d + 1) 224 [.ref 78] mi ml R := by
  have hn := hc.1
  have hm5 := hc.2.1
  have loop : ∀ k, k ≤ n → ∀ (w2 : Nat → Nat) m2, am_kp am_F110 mi m2 → (∀ i, i < n → m2 110 i = nI (w2 i) ∧ w2 i < m) → (∀ m3, am_kp am_F110 mi m3 → (∀ i, i < n → m3 110 i = nI (am_nx m k w2 i)) → R (some (.int (am_b2i (am_nxb m k w2)))) m3 ml) → am_wp (am_call d) mt_224 R 5 [some (.ref 78), some (.int (nI k - 1))] [] m2 ml := by
    intro k
    induction k with
    | zero =>
      intro _ w2 m2 k2 s2 g
      exact bk_224_5 ⟨fun _ => ⟨am_b0, g m2 k2 (fun i hi => (s2 i hi).1)⟩, fun q => absurd (by decide) q⟩
    | succ k ih =>
      intro hk w2 m2 k2 s2 g
      have un : am_nx m (k + 1) w2 = if w2 k + 1 < m then am_un w2 k (w2 k + 1) else am_nx m k (am_un w2 k 0) := rfl
      have ub : am_nxb m (k + 1) w2 = if w2 k + 1 < m then true else am_nxb m k w2 := rfl
      rw [un, ub] at g
      have wk := s2 k (by omega)
      have em2 : m2 78 5 = nI m := (k2 78 5 rfl).trans hc.2.2.2.1
      have vk : vp_in (nI k) 24 := vp_in_nI (by omega) (by omega)
      rw [nI_pred]
      refine bk_224_5 ⟨fun q => ?_, fun _ => ⟨vk, ?_⟩⟩
      · exfalso
        rw [am_lt_i, am_ti (by omega), am_l0] at q
        omega
      · rw [nI_clamp (show k < 2 ^ 31 by omega), wk.1, nI_1, am_m1e]
        refine pk_le m (w2 k + 1) (fun q => ⟨vk, ?_⟩) (fun q => ⟨vk, vk, am_b1, ?_⟩) em2 rfl
        · rw [if_neg (by omega), if_neg (by omega)] at g
          refine ih (by omega) (am_un w2 k 0) _ (am_kp_u k2 rfl) (fun i hi => ?_) (fun m3 k3 s3 => ?_)
          · by_cases e : i = k
            · rw [e, am_ui_k, am_un_k]
              exact ⟨rfl, by omega⟩
            · rw [am_ui_n (fun _ z => e z), am_un_n e]
              exact s2 i hi
          · rw [am_nxb_c (w := am_un w2 k 0) (v := w2) k (fun i hi => am_un_n (by omega))]
            exact g m3 k3 s3
        · rw [if_pos q, if_pos q] at g
          refine g _ (am_kp_u k2 rfl) (fun i hi => ?_)
          by_cases e : i = k
          · rw [e, am_ui_k, am_un_k]
          · rw [am_ui_n (fun _ z => e z), am_un_n e]
            exact (s2 i hi).1
  refine bk_224 ?_
  rw [hc.2.2.1]
  exact loop n (Nat.le_refl _) w mi am_kp_r hw h
def am_F225 : Nat → Nat → Bool := fun c _ => decide (c = 98 ∨ c = 99 ∨ c = 110 ∨ c = 111 ∨ c = 113)
theorem am_kV_225 {a b : am_MI} (h : am_kp am_F225 a b) : am_kp (am_FV n) a b := am_kp_w h (fun c j q => by
  have q := of_decide_eq_false q
  exact decide_eq_false (by omega))
/-- the answer -/
def am_fan (P : List (List Nat × List Nat)) (u : Nat → Nat → Int32) (n m : Nat) (x : Int32) : Int32 := if x = -1 then am_fU P u n m (am_fB P u n m (m ^ n - 1)) else if x = -2 then am_fT P u n m (am_fB P u n m (m ^ n - 1)) else nI (am_fq m n (am_fB P u n m (m ^ n - 1)) x.toNatClampNeg)
/-- the reference's search: one giving -/
theorem sp_225b {x : Int32} {B : am_MI} (hX : am_X P u n m B) (hn : n ≤ 8) (hm : m ≤ 3) (hm0 : 0 < m) {i : Nat} (hi : i < m ^ n) {l2 l3 : Int32} {m2 : am_MI} (k2 : am_kp am_F225 B m2) (h1 : ∀ j, j < n → m2 110 j = nI (am_fq m n i j)) (g0 : i = 0 → l2 = -1) (g1 : ∀ j, i = j + 1 → l2 = am_fU P u n m (am_fB P u n m j) ∧ l3 = am_fT P u n m (am_fB P u n m j) ∧ ∀ k, k < n → m2 113 k = nI (am_fq m n (am_fB P u n m j) k))
    (h : ∀ m3, am_kp am_F225 B m3 → (∀ j, j < n → m3 110 j = nI (am_fq m n (i + 1) j)) → (∀ k, k < n → m3 113 k = nI (am_fq m n (am_fB P u n m i) k)) → am_wp (am_call (d + 5)) mt_225 R 38 [some (.ref 78), some (.int x), some (.int (am_fU P u n m (am_fB P u n m i))), some (.int (am_fT P u n m (am_fB P u n m i))), some (.int (am_b2i (decide (i + 1 < m ^ n)))), none] [] m3 ml) :
    am_wp (am_call (d + 5)) mt_225 R 38 [some (.ref 78), some (.int x), some (.int l2), some (.int l3), some (.int 1), none] [] m2 ml := by
  have xm : ∀ m2, am_kp am_F225 B m2 → am_X P u n m m2 := fun m2 k2 => am_X_V hX (am_kV_225 k2)
  have lq := am_fq_b (m := m) (n := n) hm0 i
  -- on to the next
  have next : ∀ m4, am_kp am_F225 B m4 → (∀ j, j < n → m4 110 j = nI (am_fq m n i j)) → (∀ k, k < n → m4 113 k = nI (am_fq m n (am_fB P u n m i) k)) → am_call (d + 5) 224 [.ref 78] m4 ml (am_ri fun r1 mi1 ml1 => am_wp (am_call (d + 5)) mt_225 R 38 [some (.ref 78), some (.int x), some (.int (am_fU P u n m (am_fB P u n m i))), some (.int (am_fT P u n m (am_fB P u n m i))), some (.int r1), none] [] mi1 ml1) := by
    intro m4 k4 e1 e2
    refine sp_224 (w := am_fq m n i) (xm m4 k4).2.2.1 (fun j hj => ⟨e1 j hj, lq j hj⟩) (fun m5 k5 e5 => am_ri_i ?_)
    rw [am_fq_n hm0 hi]
    exact h m5 (am_kp_t k4 (am_kp_w k5 (fun c j q => by
      have q := of_decide_eq_false q
      exact decide_eq_false (by omega)))) e5 (fun k hk => (k5 113 k rfl).trans (e2 k hk))
  refine bk_225_38 ⟨fun q => absurd q (by decide), fun _ => sp_214 (w := am_wn (am_fq m n i)) (xm m2 k2) h1 (am_own_2 (fun j hj => ⟨_, lq j hj, rfl⟩)) (fun m3 k3 s3 => am_rv_i ?_)⟩
  have k3' : am_kp am_F225 B m3 := am_kp_t k2 (am_kp_w k3 (fun c j q => by
    have q := of_decide_eq_false q
    exact decide_eq_false (by omega)))
  have e3 : ∀ j, j < n → m3 110 j = nI (am_fq m n i j) := fun j hj => (k3 110 j rfl).trans (h1 j hj)
  have s215 : ∀ K : am_R, K (some (.int (am_fU P u n m i))) m3 ml → am_call (d + 5) 215 [.ref 78] m3 ml K := fun K g => sp_215 (xm m3 k3').2.2.1 (by
    rw [am_unf_c (s := m3 111) (s2 := am_fS P u n (am_fq m n i)) s3]
    exact g)
  have s216 : ∀ K : am_R, K (some (.int (am_fT P u n m i))) m3 ml → am_call (d + 5) 216 [.ref 78] m3 ml K := fun K g => sp_216 (xm m3 k3').2.2.1 (by
    rw [am_tgs_c (s := m3 111) (s2 := am_fS P u n (am_fq m n i)) m s3]
    exact g)
  obtain ⟨q, hq, eq⟩ := am_fU_b (P := P) (m := m) hX.2.2.2 hn i
  -- it is taken
  have take : am_fB P u n m i = i → am_wp (am_call (d + 5)) mt_225 R 64 [some (.ref 78), some (.int x), some (.int (am_fU P u n m i)), some (.int (am_fT P u n m i)), none, some (.int (0 : Int32))] [] m3 ml := by
    intro eb
    have loop : ∀ v k, k + v = n → ∀ m4, am_kp am_F225 B m4 → (∀ j, j < n → m4 110 j = nI (am_fq m n i j)) → (∀ j, j < k → m4 113 j = nI (am_fq m n i j)) → am_wp (am_call (d + 5)) mt_225 R 64 [some (.ref 78), some (.int x), some (.int (am_fU P u n m i)), some (.int (am_fT P u n m i)), none, some (.int (nI k))] [] m4 ml := by
      intro v
      induction v with
      | zero =>
        intro k ek m4 k4 e4 e5
        have ek : k = n := ek
        rw [ek] at e5 ⊢
        refine bk_225_64 (pk_le n n (fun _ => ?_) (fun q => absurd q (Nat.lt_irrefl _)) (xm m4 k4).2.2.1.2.2.1 rfl)
        have z := next m4 k4 e4 (fun k hk => by rw [eb]; exact e5 k hk)
        rw [eb] at z
        exact z
      | succ v ih =>
        intro k ek m4 k4 e4 e5
        have hk : k < n := by omega
        refine bk_225_64 (pk_le n k (fun q => absurd q (by omega)) (fun _ => ⟨vp_in_nI (by omega) (by omega), vp_in_nI (by omega) (by omega), ?_⟩) (xm m4 k4).2.2.1.2.2.1 rfl)
        rw [nI_clamp (show k < 2 ^ 31 by omega), nI_1]
        refine ih (k + 1) (by omega) _ (am_kp_u k4 rfl) (fun j hj => ?_) (fun j hj => ?_)
        · rw [am_ui_c (by decide)]
          exact e4 j hj
        · by_cases e : j = k
          · rw [e, am_ui_k]
            exact e4 k hk
          · rw [am_ui_n (fun _ z => e z)]
            exact e5 j (by omega)
    exact loop n 0 (Nat.zero_add _) m3 k3' e3 (fun j hj => absurd hj (Nat.not_lt_zero _))
  cases i with
  | zero =>
    rw [g0 rfl]
    refine ⟨fun _ => s215 _ (am_ri_i (s216 _ (am_ri_i (take rfl)))), fun z => absurd (by decide) z⟩
  | succ j =>
    obtain ⟨e2, e4, e5⟩ := g1 j rfl
    obtain ⟨p, hp, ep⟩ := am_fU_b (P := P) (m := m) hX.2.2.2 hn (am_fB P u n m j)
    have keep : am_fB P u n m (j + 1) = am_fB P u n m j → am_call (d + 5) 224 [.ref 78] m3 ml (am_ri fun r1 mi1 ml1 => am_wp (am_call (d + 5)) mt_225 R 38 [some (.ref 78), some (.int x), some (.int l2), some (.int l3), some (.int r1), none] [] mi1 ml1) := by
      intro eb
      have z := next m3 k3' e3 (fun k hk => by rw [eb, k3 113 k rfl]; exact e5 k hk)
      rw [eb, ← e2, ← e4] at z
      exact z
    rw [e2] at keep ⊢
    rw [e4] at keep ⊢
    refine ⟨fun z => ?_, fun _ => s215 _ (am_ri_i ⟨fun z => s215 _ (am_ri_i (s216 _ (am_ri_i (take (am_fB_y (Or.inl z)))))), fun z => s215 _ (am_ri_i ⟨fun z2 => keep (am_fB_n (fun g => ?_)), fun z2 => s216 _ (am_ri_i ⟨fun z3 => keep (am_fB_n (fun g => ?_)), fun z3 => s215 _ (am_ri_i (s216 _ (am_ri_i (take (am_fB_y (Or.inr ⟨Decidable.not_not.mp z2, ?_⟩))))))⟩)⟩)⟩)⟩
    · exfalso
      rw [ep, am_lt_i, am_ti (by omega), am_l0] at z
      omega
    · rcases g with g | g
      · exact z g
      · exact z2 g.1
    · rcases g with g | g
      · exact z g
      · have g := g.2
        rw [am_lt_i] at g
        rw [am_le_i] at z3
        omega
    · rw [am_le_i] at z3
      rw [am_lt_i]
      omega
/-- the reference's search -/
theorem sp_225l {x : Int32} {B : am_MI} (hX : am_X P u n m B) (hn : n ≤ 8) (hm : m ≤ 3) (hm0 : 0 < m) (hx : x = -1 ∨ x = -2 ∨ ∃ k, k < n ∧ x = nI k) (h : ∀ m2, am_kp am_F225 B m2 → R (some (.int (am_fan P u n m x))) m2 ml) :
    ∀ v i, i + v + 1 = m ^ n → ∀ (l2 l3 : Int32) m2, am_kp am_F225 B m2 → (∀ j, j < n → m2 110 j = nI (am_fq m n i j)) → (i = 0 → l2 = -1) → (∀ j, i = j + 1 → l2 = am_fU P u n m (am_fB P u n m j) ∧ l3 = am_fT P u n m (am_fB P u n m j) ∧ ∀ k, k < n → m2 113 k = nI (am_fq m n (am_fB P u n m j) k)) → am_wp (am_call (d + 5)) mt_225 R 38 [some (.ref 78), some (.int x), some (.int l2), some (.int l3), some (.int 1), none] [] m2 ml := by
  intro v
  induction v with
  | zero =>
    intro i ei l2 l3 m2 k2 h1 g0 g1
    refine sp_225b hX hn hm hm0 (i := i) (by omega) k2 h1 g0 g1 (fun m3 k3 e3 e4 => ?_)
    rw [decide_eq_false (show ¬ i + 1 < m ^ n by omega)]
    have h := h m3 k3
    have ek : m ^ n - 1 = i := by omega
    unfold am_fan at h
    rw [ek] at h
    refine bk_225_38 ⟨fun _ => ⟨fun z1 => ⟨fun z2 => ?_, fun z2 => ?_⟩, fun z1 => ?_⟩, fun z => absurd rfl z⟩
    · rw [if_neg z1, if_neg z2] at h
      obtain ⟨k, hk, e⟩ := (hx.resolve_left z1).resolve_left z2
      rw [e, nI_clamp (show k < 2 ^ 31 by omega)] at h ⊢
      rw [e4 k hk]
      exact ⟨vp_in_nI (by omega) (by omega), h⟩
    · rw [if_neg z1, if_pos (Decidable.not_not.mp z2)] at h
      exact h
    · rw [if_pos (Decidable.not_not.mp z1)] at h
      exact h
  | succ v ih =>
    intro i ei l2 l3 m2 k2 h1 g0 g1
    refine sp_225b hX hn hm hm0 (i := i) (by omega) k2 h1 g0 g1 (fun m3 k3 e3 e4 => ?_)
    rw [decide_eq_true (show i + 1 < m ^ n by omega)]
    exact ih (i + 1) (by omega) _ _ m3 k3 e3 (fun z => absurd z (by omega)) (fun j ej => by
      have ej : j = i := by omega
      subst ej
      exact ⟨rfl, rfl, e4⟩)
/-- fairest -/
theorem pr_12 {x : Int32} (hX : am_X P u n m mi) (hv : am_fvn P u n m mi) (hw : am_fvi P u n m mi) (h : ∀ r mi2, am_kp (am_FZ n) mi mi2 → am_fvn P u n m mi2 → am_fvi P u n m mi2 → Q r r mi2 ml) : am_pr (d + 11) 130 [.ref 0, .int x] 225 [.ref 78, .int x] mi ml Q := by
  have hm5 := hX.2.1.2.1
  have h0 : ∀ r, Q r r mi ml := fun r => h r mi am_kp_r hv hw
  have ex0 : mi 1 1 = nI n := hX.2.1.2.2.1
  have ex5 : mi 1 2 = nI m := hX.2.1.2.2.2.1
  have em0 : mi 78 0 = nI n := hX.2.2.1.2.2.1
  have em5 : mi 78 5 = nI m := hX.2.2.1.2.2.2.1
  have hn12 := hX.2.1.1
  have mz : ∀ z : nI m = 0, m = 0 := fun z => (nI_eq (a := m) (b := 0) (by omega) (by omega)).mp z
  refine bk_130 ?_
  rw [ex0]
  refine ⟨fun q => am_ri_i (bk_225 ⟨fun _ => am_ri_i (h0 _), fun z => absurd q z⟩), fun q => ⟨fun q2 => ?_, fun q2 => am_ri_i (bk_225 ⟨fun z => absurd z q, fun _ => ⟨fun z => absurd (by rw [em0] at z; exact z) q2, fun _ => am_ri_i (h0 _)⟩⟩)⟩⟩
  have q2m : x < mi 78 0 := by rw [em0]; exact q2
  refine sp_22 hX.2.1 (fun g => am_ri_i (am_y (am_ri_i (bk_225 ⟨fun z => absurd z q, fun _ => ⟨fun _ => sp_223 hX.2.2.1 (fun _ => am_ri_i (am_y (am_ri_i (h0 _)))) (fun a b => by omega), fun z => absurd q2m z⟩⟩)))) (fun hn hm => am_ri_i (am_n0 ?_))
  rw [ex5]
  refine ⟨fun m0 => ?_, fun m0 => am_ri_i (bk_225 ⟨fun z => absurd z q, fun _ => ⟨fun _ => sp_223 hX.2.2.1 (fun g => by omega) (fun _ _ => am_ri_i (am_n0 ?_)), fun z => absurd q2m z⟩⟩)⟩
  · have hm0 : 0 < m := by
      have : ¬ m = 0 := fun z => m0 (by rw [z]; rfl)
      omega
    have pp := am_pow_p (m := m) (n := n) hm0
    have hx : x = -1 ∨ x = -2 ∨ ∃ k, k < n ∧ x = nI k := by
      rw [am_lt_i, am_lm2] at q
      rw [am_lt_i, am_ti (by omega)] at q2
      by_cases e1 : x.toInt = -1
      · exact Or.inl (by rw [am_eq_i, am_lm1]; exact e1)
      · by_cases e2 : x.toInt = -2
        · exact Or.inr (Or.inl (by rw [am_eq_i, am_lm2]; exact e2))
        · exact Or.inr (Or.inr (am_nat (by omega) q2))
    refine sp_30 hX.1 hX.2.1 hX.2.2.2 (am_fvn_u hv) (fun m2 k2 f2 v2 => am_rv_i ?_)
    have hX2 := am_X_V hX (am_kV_X (n := n) k2)
    have cur : m2 22 2 = m2 1 3 + m2 15 7 := f2.2.2.2.2
    refine sp_24 hX2 f2 hn hm hm0 cur (am_fvi_V hw (am_kV_X (n := n) k2)) (fun m3 k3 e3 fa => am_rv_i ?_)
    have hX3 := am_X_24 hX2 k3
    have k13 : am_kp (am_FZ n) mi m3 := am_kp_t (am_kZ_V (am_kV_X k2)) (am_kZ_24 k3)
    have f3 : am_fre P u n m m3 := am_fre_on hm5 f2 (fun c j q1 q2 => k3 c j (decide_eq_false (by omega)))
    have w3 : am_fvi P u n m m3 := Or.inl ⟨by rw [e3, k3 1 3 rfl, k3 15 7 rfl]; exact cur, fun _ _ _ => fa⟩
    have ref : ∀ v, v = am_fan P u n m x → am_call (d + 11) 225 [.ref 78, .int x] m3 ml (am_ri fun r2 mi2 ml2 => Q v r2 mi2 ml2) := by
      intro v ev
      have e30 : m3 78 0 = nI n := hX3.2.2.1.2.2.1
      have e35 : m3 78 5 = nI m := hX3.2.2.1.2.2.2.1
      refine bk_225 ⟨fun z => absurd z q, fun _ => ⟨fun _ => sp_223 hX3.2.2.1 (fun g => by omega) (fun _ _ => am_ri_i (am_n0 ?_)), fun z => absurd (by rw [e30]; exact q2) z⟩⟩
      rw [e35]
      refine ⟨fun _ => ?_, fun z => absurd (mz (Decidable.not_not.mp z)) (by omega)⟩
      have zero : ∀ v2 k, k + v2 = n → ∀ m4, am_kp am_F225 m3 m4 → (∀ j, j < k → m4 110 j = nI 0) → am_wp (am_call (d + 10)) mt_225 (am_ri fun r2 mi2 ml2 => Q v r2 mi2 ml2) 21 [some (.ref 78), some (.int x), some (.int (nI k)), none, none, none] [] m4 ml := by
        intro v2
        induction v2 with
        | zero =>
          intro k ek m4 k4 e4
          have ek : k = n := ek
          rw [ek] at e4 ⊢
          refine bk_225_21 (pk_le n n (fun _ => ?_) (fun q => absurd q (Nat.lt_irrefl _)) ((k4 78 0 rfl).trans e30) rfl)
          refine sp_225l (d := d + 5) hX3 hn hm hm0 hx (fun m5 k5 => am_ri_i ?_) (m ^ n - 1) 0 (by omega) _ _ m4 k4 e4 (fun _ => rfl) (fun j ej => absurd ej (by omega))
          rw [← ev]
          have k5v := am_kV_225 (n := n) k5
          refine h v m5 (am_kp_t k13 (am_kZ_V k5v)) (am_fvn_i hX3 f3 (fun c j q1 q2 => k5 c j (decide_eq_false (by omega)))) (am_fvi_V w3 k5v)
        | succ v2 ih =>
          intro k ek m4 k4 e4
          have hk : k < n := by omega
          refine bk_225_21 (pk_le n k (fun q => absurd q (by omega)) (fun _ => ⟨vp_in_nI (by omega) (by omega), ?_⟩) ((k4 78 0 rfl).trans e30) rfl)
          rw [nI_clamp (show k < 2 ^ 31 by omega), nI_1]
          refine ih (k + 1) (by omega) _ (am_kp_u k4 rfl) (fun j hj => ?_)
          by_cases e : j = k
          · rw [e, am_ui_k]
            rfl
          · rw [am_ui_n (fun _ z => e z)]
            exact e4 j (by omega)
      exact zero n 0 (Nat.zero_add _) m3 am_kp_r (fun j hj => absurd hj (Nat.not_lt_zero _))
    obtain ⟨a7, a8, a53, -⟩ := fa
    unfold am_fan at ref
    refine ⟨fun z1 => ⟨fun z2 => ?_, fun z2 => am_ri_i (ref _ ?_)⟩, fun z1 => am_ri_i (ref _ ?_)⟩
    · obtain ⟨k, hk, e⟩ := (hx.resolve_left z1).resolve_left z2
      have ck : x.toNatClampNeg = k := by rw [e, nI_clamp (by omega)]
      refine bk_23 ⟨fun z => ?_, fun _ => ⟨fun z => ?_, fun _ => ⟨?_, am_ri_i (am_ri_i (ref _ ?_))⟩⟩⟩
      · exfalso
        rw [e, am_lt_i, am_l0, am_ti (by omega)] at z
        omega
      · exfalso
        rw [e, am_le_i, am_l8, am_ti (by omega)] at z
        omega
      · rw [e]
        exact vp_in_nI (by omega) (by omega)
      · rw [if_neg z1, if_neg z2, ck, a53 k hk]
    · rw [if_neg z1, if_pos (Decidable.not_not.mp z2), a8]
    · rw [if_pos (Decidable.not_not.mp z1), a7]
  · rw [em5]
    exact ⟨fun z => absurd z m0, fun _ => am_ri_i (h0 _)⟩
/-- envyFree -/
theorem pr_13 (hX : am_X P u n m mi) (hv : am_fvn P u n m mi) (hw : am_fvi P u n m mi) (h : ∀ r mi2, am_kp (am_FZ n) mi mi2 → am_fvn P u n m mi2 → am_fvi P u n m mi2 → Q r r mi2 ml) : am_pr (d + 11) 131 [.ref 0] 226 [.ref 78] mi ml Q := by
  have hm5 := hX.2.1.2.1
  have h0 : ∀ r, Q r r mi ml := fun r => h r mi am_kp_r hv hw
  have ex5 : mi 1 2 = nI m := hX.2.1.2.2.2.1
  have em5 : mi 78 5 = nI m := hX.2.2.1.2.2.2.1
  have hn12 := hX.2.1.1
  have mz : ∀ z : nI m = 0, m = 0 := fun z => (nI_eq (a := m) (b := 0) (by omega) (by omega)).mp z
  refine bk_131 (sp_22 hX.2.1 (fun g => am_ri_i (am_y (am_ri_i (bk_226 (sp_223 hX.2.2.1 (fun _ => am_ri_i (am_y (am_ri_i (h0 _)))) (fun a b => by omega)))))) (fun hn hm => am_ri_i (am_n0 ?_)))
  rw [ex5]
  refine ⟨fun m0 => ?_, fun m0 => am_ri_i (bk_226 (sp_223 hX.2.2.1 (fun g => by omega) (fun _ _ => am_ri_i (am_n0 ?_))))⟩
  · have hm0 : 0 < m := by
      have : ¬ m = 0 := fun z => m0 (by rw [z]; rfl)
      omega
    have pp := am_pow_p (m := m) (n := n) hm0
    have pb := am_pow_b (m := m) (n := n) hm hn
    refine sp_30 hX.1 hX.2.1 hX.2.2.2 (am_fvn_u hv) (fun m2 k2 f2 v2 => am_rv_i ?_)
    have hX2 := am_X_V hX (am_kV_X (n := n) k2)
    have cur : m2 22 2 = m2 1 3 + m2 15 7 := f2.2.2.2.2
    refine sp_24 hX2 f2 hn hm hm0 cur (am_fvi_V hw (am_kV_X (n := n) k2)) (fun m3 k3 e3 fa => am_rv_i (am_ri_i ?_))
    have hX3 := am_X_24 hX2 k3
    have k13 : am_kp (am_FZ n) mi m3 := am_kp_t (am_kZ_V (am_kV_X k2)) (am_kZ_24 k3)
    have f3 : am_fre P u n m m3 := am_fre_on hm5 f2 (fun c j q1 q2 => k3 c j (decide_eq_false (by omega)))
    have w3 : am_fvi P u n m m3 := Or.inl ⟨by rw [e3, k3 1 3 rfl, k3 15 7 rfl]; exact cur, fun _ _ _ => fa⟩
    have e30 : m3 78 0 = nI n := hX3.2.2.1.2.2.1
    have e35 : m3 78 5 = nI m := hX3.2.2.1.2.2.2.1
    rw [fa.2.2.2, show m ^ n - 1 + 1 = m ^ n from by omega]
    refine bk_226 (sp_223 hX3.2.2.1 (fun g => by omega) (fun _ _ => am_ri_i (am_n0 ?_)))
    rw [e35]
    refine ⟨fun _ => ?_, fun z => absurd (mz (Decidable.not_not.mp z)) (by omega)⟩
    have xm : ∀ m4, am_kp am_F225 m3 m4 → am_X P u n m m4 := fun m4 k4 => am_X_V hX3 (am_kV_225 k4)
    have loop : ∀ v i, i + v = m ^ n → 0 < v → ∀ m4, am_kp am_F225 m3 m4 → (∀ j, j < n → m4 110 j = nI (am_fq m n i j)) → am_wp (am_call (d + 10)) mt_226 (am_ri fun r2 mi2 ml2 => Q (nI (am_cnt (am_fE P u n m) (m ^ n))) r2 mi2 ml2) 27 [some (.ref 78), some (.int (nI (am_cnt (am_fE P u n m) i))), some (.int 1)] [] m4 ml := by
      intro v
      induction v with
      | zero =>
        intro i ei hv0
        exact absurd hv0 (Nat.lt_irrefl _)
      | succ v ih =>
        intro i ei _ m4 k4 e4
        have hi : i < m ^ n := by omega
        have lq := am_fq_b (m := m) (n := n) hm0 i
        -- on to the next
        have next : ∀ m5, am_kp am_F225 m3 m5 → (∀ j, j < n → m5 110 j = nI (am_fq m n i j)) → am_call (d + 10) 224 [.ref 78] m5 ml (am_ri fun r2 mi2 ml2 => am_wp (am_call (d + 10)) mt_226 (am_ri fun r2 mi2 ml2 => Q (nI (am_cnt (am_fE P u n m) (m ^ n))) r2 mi2 ml2) 27 [some (.ref 78), some (.int (nI (am_cnt (am_fE P u n m) (i + 1)))), some (.int r2)] [] mi2 ml2) := by
          intro m5 k5 e5
          refine sp_224 (w := am_fq m n i) (xm m5 k5).2.2.1 (fun j hj => ⟨e5 j hj, lq j hj⟩) (fun m6 k6 e6 => am_ri_i ?_)
          have k6' : am_kp am_F225 m3 m6 := am_kp_t k5 (am_kp_w k6 (fun c j q => by
            have q := of_decide_eq_false q
            exact decide_eq_false (by omega)))
          rw [am_fq_n hm0 hi]
          by_cases g : i + 1 < m ^ n
          · rw [decide_eq_true g]
            exact ih (i + 1) (by omega) (by omega) m6 k6' e6
          · rw [decide_eq_false g]
            have ei : i + 1 = m ^ n := by omega
            rw [ei]
            have k6v := am_kV_225 (n := n) k6'
            exact bk_226_27 ⟨fun _ => am_ri_i (h _ m6 (am_kp_t k13 (am_kZ_V k6v)) (am_fvn_i hX3 f3 (fun c j q1 q2 => k6' c j (decide_eq_false (by omega)))) (am_fvi_V w3 k6v)), fun z => absurd rfl z⟩
        have cs : am_cnt (am_fE P u n m) (i + 1) = am_cnt (am_fE P u n m) i + (if am_fE P u n m i = true then 1 else 0) := rfl
        have eE : am_fE P u n m i = decide (am_evo m (am_wog (am_wn (am_fq m n i)) P u n) m = 0) := rfl
        refine bk_226_27 ⟨fun z => absurd z (by decide), fun _ => sp_218g (own := am_wn (am_fq m n i)) (xm m4 k4).1 (xm m4 k4).2.2.1 (xm m4 k4).2.2.2 e4 (fun m5 k5 => am_ri_i ⟨fun g => ?_, fun g => ?_⟩)⟩
        · have k5' : am_kp am_F225 m3 m5 := am_kp_t k4 (am_kp_w k5 (fun c j q => by
            have q := of_decide_eq_false q
            exact decide_eq_false (by omega)))
          have z := next m5 k5' (fun j hj => (k5 110 j rfl).trans (e4 j hj))
          rw [cs, eE, decide_eq_false g, if_neg (by decide), Nat.add_zero] at z
          exact z
        · have k5' : am_kp am_F225 m3 m5 := am_kp_t k4 (am_kp_w k5 (fun c j q => by
            have q := of_decide_eq_false q
            exact decide_eq_false (by omega)))
          have z := next m5 k5' (fun j hj => (k5 110 j rfl).trans (e4 j hj))
          rw [cs, eE, decide_eq_true (Decidable.not_not.mp g), if_pos rfl] at z
          rw [nI_1]
          exact z
    have zero : ∀ v2 k, k + v2 = n → ∀ m4, am_kp am_F225 m3 m4 → (∀ j, j < k → m4 110 j = nI 0) → am_wp (am_call (d + 10)) mt_226 (am_ri fun r2 mi2 ml2 => Q (nI (am_cnt (am_fE P u n m) (m ^ n))) r2 mi2 ml2) 12 [some (.ref 78), some (.int (nI k)), none] [] m4 ml := by
      intro v2
      induction v2 with
      | zero =>
        intro k ek m4 k4 e4
        have ek : k = n := ek
        rw [ek] at e4 ⊢
        exact bk_226_12 (pk_le n n (fun _ => loop (m ^ n) 0 (Nat.zero_add _) pp m4 k4 e4) (fun q => absurd q (Nat.lt_irrefl _)) ((k4 78 0 rfl).trans e30) rfl)
      | succ v2 ih =>
        intro k ek m4 k4 e4
        have hk : k < n := by omega
        refine bk_226_12 (pk_le n k (fun q => absurd q (by omega)) (fun _ => ⟨vp_in_nI (by omega) (by omega), ?_⟩) ((k4 78 0 rfl).trans e30) rfl)
        rw [nI_clamp (show k < 2 ^ 31 by omega), nI_1]
        refine ih (k + 1) (by omega) _ (am_kp_u k4 rfl) (fun j hj => ?_)
        by_cases e : j = k
        · rw [e, am_ui_k]
          rfl
        · rw [am_ui_n (fun _ z => e z)]
          exact e4 j (by omega)
    exact zero n 0 (Nat.zero_add _) m3 am_kp_r (fun j hj => absurd hj (Nat.not_lt_zero _))
  · rw [em5]
    exact ⟨fun z => absurd z m0, fun _ => am_ri_i (h0 _)⟩
end SP65
