/-! pairs: fairest, envyFree -/
/-- what the class keeps is of this calendar, if its version is -/
def am_fvi (P : List (List Nat × List Nat)) (u : Nat → Nat → Int32) (n m : Nat) (mi : am_MI) : Prop := (mi 47 2 = mi 1 3 + mi 15 7 ∧ (n ≤ 8 → m ≤ 3 → 0 < m → am_fai P u n m (m ^ n - 1) mi)) ∨ (mi 47 2).toInt < (mi 1 3 + mi 15 7).toInt
def am_Ffo : Nat → Nat → Bool := fun c _ => decide (47 ≤ c ∧ c ≤ 57)
def am_FZ (n : Nat) : Nat → Nat → Bool := fun c j => am_FV n c j || am_Ffo c j
section SP65
variable {d n m : Nat} {u : Nat → Nat → Int32} {mi : am_MI} {ml : am_ML} {R : am_R} {P : List (List Nat × List Nat)} {Q : Int32 → Int32 → am_MI → am_ML → Prop} {w : Nat → Nat} {own : Nat → Int32}
theorem am_FZ_f {c j : Nat} (h : am_FZ n c j = false) : am_FV n c j = false ∧ am_Ffo c j = false := by
  unfold am_FZ at h
  exact Bool.or_eq_false_iff.mp h
theorem am_kZ_V {a b : am_MI} (h : am_kp (am_FV n) a b) : am_kp (am_FZ n) a b := am_kp_w h (fun _ _ q => (am_FZ_f q).1)
theorem am_kZ_24 {a b : am_MI} (h : am_kp am_Ffo a b) : am_kp (am_FZ n) a b := am_kp_w h (fun _ _ q => (am_FZ_f q).2)
theorem am_X_24 {a b : am_MI} (h : am_X P u n m a) (hk : am_kp am_Ffo a b) : am_X P u n m b := by
  obtain ⟨h1, h2, h3, h4⟩ := h
  exact ⟨am_lwr_on h1 (hk _ _ rfl) (hk _ _ rfl) (hk _ _ rfl) (fun j => hk _ _ rfl) (fun c j q1 q2 => hk _ _ (decide_eq_false (by omega))) (hk _ _ rfl) (fun j => hk _ _ rfl), am_cx_on h2 (hk 1 1 rfl) (hk 1 2 rfl) (fun w i hw => hk _ _ (decide_eq_false (by omega))), trivial, h4⟩
theorem am_fai_on {i : Nat} {a b : am_MI} (h : am_fai P u n m i a) (he : ∀ c j, 47 ≤ c → c ≤ 57 → b c j = a c j) : am_fai P u n m i b := by
  obtain ⟨h1, h2, h3, h4⟩ := h
  exact ⟨(he 47 7 (by omega) (by omega)).trans h1, (he 47 8 (by omega) (by omega)).trans h2, fun j hj => (he 53 j (by omega) (by omega)).trans (h3 j hj), (he 47 9 (by omega) (by omega)).trans h4⟩
theorem am_fU_b (hu : am_ur n m u) (hn : n ≤ 8) (i : Nat) : ∃ q, q ≤ 792 ∧ am_fU P u n m i = nI q := am_unf_b (by omega) (fun c hc => by
  obtain ⟨q, hq, e⟩ := am_sto_b (own := am_wn (am_fq m n i)) (e := am_ge P u c) (x := nI c) (k := n) (fun i hi => am_ge_c hu hc hi)
  exact ⟨q, by omega, e⟩)
theorem am_fvi_u (h : am_fvi P u n m mi) (e : mi 47 2 = mi 1 3 + mi 15 7) : n ≤ 8 → m ≤ 3 → 0 < m → am_fai P u n m (m ^ n - 1) mi := (h.resolve_right (fun q => by
  rw [e] at q
  omega)).2
theorem am_fvi_on {a b : am_MI} (h : am_fvi P u n m a) (he : ∀ c j, 47 ≤ c → c ≤ 57 → b c j = a c j) (e1 : b 1 3 = a 1 3) (e2 : b 15 7 = a 15 7) : am_fvi P u n m b := by
  unfold am_fvi
  rw [he 47 2 (by omega) (by omega), e1, e2]
  rcases h with ⟨h1, h2⟩ | h
  · exact Or.inl ⟨h1, fun q1 q2 q3 => am_fai_on (h2 q1 q2 q3) he⟩
  · exact Or.inr h
theorem am_fvi_V {a b : am_MI} (h : am_fvi P u n m a) (hk : am_kp (am_FV n) a b) : am_fvi P u n m b := am_fvi_on h (fun c j q1 q2 => hk c j (decide_eq_false (by omega))) (hk 1 3 rfl) (hk 15 7 rfl)
/-- the step from one giving to the next, in what is kept -/
theorem am_fB_s {i : Nat} : am_fB P u n m (i + 1) = if am_fU P u n m (i + 1) < am_fU P u n m (am_fB P u n m i) then i + 1 else if am_fU P u n m (am_fB P u n m i) = am_fU P u n m (i + 1) ∧ am_fT P u n m (am_fB P u n m i) < am_fT P u n m (i + 1) then i + 1 else am_fB P u n m i := rfl
theorem am_fB_y {i : Nat} (h : am_fU P u n m (i + 1) < am_fU P u n m (am_fB P u n m i) ∨ (am_fU P u n m (i + 1) = am_fU P u n m (am_fB P u n m i) ∧ am_fT P u n m (am_fB P u n m i) < am_fT P u n m (i + 1))) : am_fB P u n m (i + 1) = i + 1 := by
  rw [am_fB_s]
  by_cases g : am_fU P u n m (i + 1) < am_fU P u n m (am_fB P u n m i)
  · rw [if_pos g]
  · rw [if_neg g]
    have h := h.resolve_left g
    rw [if_pos ⟨h.1.symm, h.2⟩]
theorem am_fB_n {i : Nat} (h : ¬ (am_fU P u n m (i + 1) < am_fU P u n m (am_fB P u n m i) ∨ (am_fU P u n m (i + 1) = am_fU P u n m (am_fB P u n m i) ∧ am_fT P u n m (am_fB P u n m i) < am_fT P u n m (i + 1)))) : am_fB P u n m (i + 1) = am_fB P u n m i := by
  rw [am_fB_s, if_neg (fun g => h (Or.inl g)), if_neg (fun g => h (Or.inr ⟨g.1.symm, g.2⟩))]
theorem am_cnt_s {p : Nat → Bool} {k : Nat} : am_cnt p (k + 1) = am_cnt p k + (if p k = true then 1 else 0) := rfl
/-- isTooWide -/
theorem sp_22 (hc : am_cx n m u mi) (h1 : (8 < n ∨ 3 < m) → R (some (.int 1)) mi ml) (h0 : n ≤ 8 → m ≤ 3 → R (some (.int 0)) mi ml) : am_call (d + 1) 22 [.ref 47] mi ml R :=
  bk_22 (pk_lt 8 n (fun q => ⟨am_b1, h1 (Or.inl q)⟩) (fun q => pk_le m 3 (fun q2 => ⟨am_b0, h0 q q2⟩) (fun q2 => ⟨am_b1, h1 (Or.inr q2)⟩) hc.2.2.2.1 rfl (by have := hc.2.1; omega)) rfl hc.2.2.1 (by omega) (by have := hc.1; omega))
/-- findOut -/
theorem sp_24 (hX : am_X P u n m mi) (hf : am_fre P u n m mi) (hn : n ≤ 8) (hm : m ≤ 3) (hm0 : 0 < m) (hcur : mi 22 2 = mi 1 3 + mi 15 7) (hv : am_fvi P u n m mi) (h : ∀ m2, am_kp am_Ffo mi m2 → m2 47 2 = mi 22 2 → am_fai P u n m (m ^ n - 1) m2 → R none m2 ml) : am_call (d + 3) 24 [.ref 47] mi ml R := by
  have pb := am_pow_b (m := m) (n := n) hm hn
  have pp := am_pow_p (m := m) (n := n) hm0
  have cx := hX.2.1
  refine bk_24 ⟨fun q => h mi am_kp_r q (am_fvi_u hv (q.trans hcur) hn hm hm0), fun q => sp_22 cx (fun g => by omega) (fun _ _ => am_ri_i (am_n0 ?_))⟩
  generalize hM : am_ui mi 47 2 (mi 22 2) = M
  have kM : am_kp am_Ffo mi M := by
    rw [← hM]
    exact am_kp_u am_kp_r rfl
  have eM : M 47 2 = mi 22 2 := by rw [← hM, am_ui_k]
  refine sp_26 hn hm hm0 ((kM 1 1 rfl).trans cx.2.2.1) ((kM 1 2 rfl).trans cx.2.2.2.1) (fun c i hc hi => (kM (26 + c) i (decide_eq_false (by omega))).trans (hf.2.2.1 c i hc hi)) (fun m2 k2 s2 => am_rv_i ?_)
  have k2' : am_kp am_Ffo mi m2 := am_kp_t kM (am_kp_w k2 (fun c j q => by
    have q := of_decide_eq_false q
    exact decide_eq_false (by omega)))
  have e2 : m2 47 2 = mi 22 2 := (k2 47 2 rfl).trans eM
  generalize hN : am_ui (am_ui (am_ui m2 47 7 2147483647) 47 8 0) 47 9 0 = N
  have kN : am_kp am_Ffo mi N := by
    rw [← hN]
    exact am_kp_u (am_kp_u (am_kp_u k2' rfl) rfl) rfl
  have oN : ∀ c j, ¬ c = 47 → N c j = m2 c j := fun c j q => by rw [← hN, am_ui_c q, am_ui_c q, am_ui_c q]
  have n2 : N 47 2 = mi 22 2 := by rw [← hN, am_ui_n (by omega), am_ui_n (by omega), am_ui_n (by omega), e2]
  have n7 : N 47 7 = 2147483647 := by rw [← hN, am_ui_n (by omega), am_ui_n (by omega), am_ui_k]
  have n9 : N 47 9 = 0 := by rw [← hN, am_ui_k]
  have sN : am_fst P u n m (am_fq m n 0) N := ⟨fun i hi => ⟨by rw [oN 52 i (by decide)]; exact (s2.1 i hi).1, hm0⟩, fun c o hc ho => by rw [oN (55 + c) o (by omega)]; exact s2.2.1 c o hc ho, fun c i hc hi => by rw [oN (49 + c) i (by omega)]; exact s2.2.2 c i hc hi⟩
  refine sp_25 hn hm ((kN 1 1 rfl).trans cx.2.2.1) ((kN 1 2 rfl).trans cx.2.2.2.1) (am_ri_i ?_)
  have loop : ∀ v i, i + v = m ^ n → ∀ m3, am_kp am_Ffo mi m3 → m3 47 2 = mi 22 2 → am_fst P u n m (am_fq m n i) m3 → (i = 0 → m3 47 7 = 2147483647 ∧ m3 47 9 = 0) → (∀ j, i = j + 1 → am_fai P u n m j m3) → am_wp (am_call (d + 2)) mt_24 R 31 [some (.ref 47), some (.int (nI (m ^ n))), some (.int (nI i))] [] m3 ml := by
    intro v
    induction v with
    | zero =>
      intro i ei m3 k3 e3 _ _ g
      have ei : i = m ^ n := ei
      refine bk_24_31 (pk_le (m ^ n) i (fun _ => h m3 k3 e3 (g _ (by omega))) (fun q => by omega) rfl rfl)
    | succ v ih =>
      intro i ei m3 k3 e3 s3 g0 g1
      have hi : i < m ^ n := by omega
      have en3 : m3 1 1 = nI n := (k3 1 1 rfl).trans cx.2.2.1
      have em3 : m3 1 2 = nI m := (k3 1 2 rfl).trans cx.2.2.2.1
      refine bk_24_31 (pk_le (m ^ n) i (fun q => absurd q (by omega)) (fun _ => sp_27 hn hm hm0 em3 s3 (fun m4 k4 c9 t1 t0 => am_rv_i ?_)) rfl rfl)
      have k4' : am_kp am_Ffo mi m4 := am_kp_t k3 (am_kp_w k4 (fun c j q => by
        have q := of_decide_eq_false q
        exact decide_eq_false (by omega)))
      have s4 : am_fst P u n m (am_fq m n i) m4 := ⟨fun j hj => ⟨(k4 52 j rfl).trans (s3.1 j hj).1, (s3.1 j hj).2⟩, fun c o hc ho => (k4 (55 + c) o (decide_eq_false (by omega))).trans (s3.2.1 c o hc ho), fun c j hc hj => (k4 (49 + c) j (decide_eq_false (by omega))).trans (s3.2.2 c j hc hj)⟩
      have eU : am_unf m (am_fS P u n (am_fq m n i)) = am_fU P u n m i := rfl
      have eT : am_tgs (am_fS P u n (am_fq m n i)) m = am_fT P u n m i := rfl
      rw [eU, eT] at t1 t0
      obtain ⟨q, hq, eq⟩ := am_fU_b (P := P) (m := m) hX.2.2.2 hn i
      -- what is kept then
      have fa : am_fai P u n m i m4 := by
        have e9 : m4 47 9 = nI (am_cnt (am_fE P u n m) (i + 1)) := by
          rw [c9, am_cnt_s]
          have eE : am_fE P u n m i = decide (am_evo m (am_wog (am_wn (am_fq m n i)) P u n) m = 0) := rfl
          have e0 : m3 47 9 = nI (am_cnt (am_fE P u n m) i) := by
            cases i with
            | zero => exact (g0 rfl).2
            | succ j => exact (g1 j rfl).2.2.2
          rw [eE, e0]
          by_cases z : am_evo m (am_wog (am_wn (am_fq m n i)) P u n) m = 0
          · rw [if_pos z, if_pos (decide_eq_true z), nI_1]
          · rw [if_neg z, if_neg (fun y => z (of_decide_eq_true y)), Nat.add_zero]
        cases i with
        | zero =>
          have tk : am_fU P u n m 0 < m3 47 7 := by
            rw [(g0 rfl).1, eq, am_lt_i, am_ti (by omega)]
            show (q : Int) < 2147483647
            omega
          obtain ⟨a, b, c⟩ := t1 (Or.inl tk)
          exact ⟨a, b, c, e9⟩
        | succ j =>
          obtain ⟨a, b, c, -⟩ := g1 j rfl
          rw [a, b] at t1 t0
          by_cases z : am_fU P u n m (j + 1) < am_fU P u n m (am_fB P u n m j) ∨ (am_fU P u n m (j + 1) = am_fU P u n m (am_fB P u n m j) ∧ am_fT P u n m (am_fB P u n m j) < am_fT P u n m (j + 1))
          · obtain ⟨x, y, w⟩ := t1 z
            unfold am_fai
            rw [am_fB_y z]
            exact ⟨x, y, w, e9⟩
          · obtain ⟨x, y, w⟩ := t0 z
            unfold am_fai
            rw [am_fB_n z]
            exact ⟨x, y, fun j hj => (w j).trans (c j hj), e9⟩
      have en4 : m4 1 1 = nI n := (k4' 1 1 rfl).trans cx.2.2.1
      have em4 : m4 1 2 = nI m := (k4' 1 2 rfl).trans cx.2.2.2.1
      refine sp_28 hn hm hm0 en4 em4 s4 (fun m5 k5 s5 => am_rv_i ?_)
      rw [nI_1]
      have k5' : am_kp am_Ffo mi m5 := am_kp_t k4' (am_kp_w k5 (fun c j q => by
        have q := of_decide_eq_false q
        exact decide_eq_false (by omega)))
      refine ih (i + 1) (by omega) m5 k5' ?_ s5 (fun z => absurd z (by omega)) (fun j ej => ?_)
      · rw [k5 47 2 rfl, k4 47 2 rfl]
        exact e3
      · have ej : j = i := by omega
        subst ej
        obtain ⟨a, b, c, e⟩ := fa
        exact ⟨(k5 47 7 rfl).trans a, (k5 47 8 rfl).trans b, fun i hi => (k5 53 i rfl).trans (c i hi), (k5 47 9 rfl).trans e⟩
  exact loop (m ^ n) 0 (Nat.zero_add _) N kN n2 sN (fun _ => ⟨n7, n9⟩) (fun j ej => absurd ej (by omega))
def am_F110 : Nat → Nat → Bool := fun c _ => decide (c = 110)
def am_F225 : Nat → Nat → Bool := fun c _ => decide (c = 98 ∨ c = 99 ∨ c = 110 ∨ c = 111 ∨ c = 113)
theorem am_kV_225 {a b : am_MI} (h : am_kp am_F225 a b) : am_kp (am_FV n) a b := am_kp_w h (fun c j q => by
  have q := of_decide_eq_false q
  exact decide_eq_false (by omega))
/-- the answer -/
def am_fan (P : List (List Nat × List Nat)) (u : Nat → Nat → Int32) (n m : Nat) (x : Int32) : Int32 := if x = -1 then am_fU P u n m (am_fB P u n m (m ^ n - 1)) else if x = -2 then am_fT P u n m (am_fB P u n m (m ^ n - 1)) else nI (am_fq m n (am_fB P u n m (m ^ n - 1)) x.toNatClampNeg)
end SP65
