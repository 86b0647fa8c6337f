/-! the calls that change something: deeds, shelves -/
/-- what no question of the givings reads -/
def dq_FO : Nat → Nat → Bool := fun c j => decide (c = 13 ∨ c = 14 ∨ c = 16 ∨ c = 17 ∨ (c = 15 ∧ (j = 1 ∨ j = 2 ∨ j = 4)) ∨ (58 ≤ c ∧ c ≤ 78))
def dq_FD : Nat → Nat → Bool := fun c _ => decide (59 ≤ c ∧ c ≤ 61)
/-- an open: deeds, and what worth works with -/
def dq_FP : Nat → Nat → Bool := fun c j => decide (c = 19 ∨ c = 21 ∨ (c = 15 ∧ j = 9) ∨ c = 60 ∨ (c = 59 ∧ (j = 3 ∨ j = 4 ∨ j = 5)))
section SP73
variable {d n m r c i s l : Nat} {u : Nat → Nat → Int32} {mi : am_MI} {ml : am_ML} {R : am_R} {P : List (List Nat × List Nat)} {f : Nat → Int32}
theorem dq_X_O {a b : am_MI} (h : am_X P u n m a) (hk : am_kp dq_FO a b) : am_X P u n m b := by
  obtain ⟨h1, h2, h3, h4⟩ := h
  obtain ⟨g1, g4, g8, g9, g10⟩ := h1
  exact ⟨⟨g1, g4, (hk 15 6 rfl).trans g8, fun j hj => (hk 18 _ rfl).trans (g9 j hj), (hk 126 1 rfl).trans g10.1, fun j hj => (hk 136 j rfl).trans (g10.2 j hj)⟩, am_cx_on h2 (hk 1 1 rfl) (hk 1 2 rfl) (fun w i hw => hk _ _ (decide_eq_false (by omega))), trivial, h4⟩
theorem dq_Q_O {a b : am_MI} (hq : dq_Q P u n m a) (k : am_kp dq_FO a b) : dq_Q P u n m b := by
  obtain ⟨h1, h2, h3, h4, h5⟩ := hq
  exact ⟨dq_X_O h1 k, am_sta_on h2 (fun c j h => k c j (decide_eq_false (by omega))), am_txs_on h3 (fun c j h _ => k c j (decide_eq_false (by omega))), am_fvn_on h1.2.1.2.1 h4 (fun c j q1 q2 => k c j (decide_eq_false (by omega))), am_fvi_on h5 (fun c j q1 q2 => k c j (decide_eq_false (by omega))) (k 1 3 rfl) (k 15 7 rfl)⟩
theorem dq_OD {a b : am_MI} (h : am_kp dq_FD a b) : am_kp dq_FO a b := am_kp_w h (fun c j q => by
  have q := of_decide_eq_false q
  exact decide_eq_false (by omega))
/-- image -/
theorem dq_149 (h : ∀ m2, am_kp dq_FD mi m2 → (∀ j, j < 12 → m2 61 j = mi 60 j) → (∀ j, m2 60 j = mi 60 j) → m2 59 6 = 1 → m2 59 8 = mi 59 2 → m2 59 9 = mi 59 3 → m2 59 10 = mi 59 4 → m2 59 11 = mi 59 5 → (∀ j, 2 ≤ j → j ≤ 5 → m2 59 j = mi 59 j) → R (some (.int (mi 59 3))) m2 ml) : am_call (d + 2) 149 [.ref 0] mi ml R := by
  refine bk_149 (bk_20 ⟨by decide, by decide, by decide, by decide, by decide, am_b1, am_rv_i ?_⟩)
  have c0 : (0 : Int32).toNatClampNeg = 0 := by decide
  have c12 : (Int32.ofNat 12).toNatClampNeg = 12 := by decide
  rw [c0, c12]
  generalize hmx : am_ui (am_ui (am_ui (am_ui (am_ui (am_ci mi 60 0 61 0 12) 59 8 (mi 59 2)) 59 9 (mi 59 3)) 59 10 (mi 59 4)) 59 11 (mi 59 5)) 59 6 1 = mx
  have o : ∀ c j, ¬ c = 59 → ¬ c = 61 → mx c j = mi c j := fun c j q1 q2 => by
    rw [← hmx, am_ui_c q1, am_ui_c q1, am_ui_c q1, am_ui_c q1, am_ui_c q1]
    unfold am_ci
    rw [if_neg (fun q => q2 q.1)]
  have x61 : ∀ j, j < 12 → mx 61 j = mi 60 j := fun j hj => by
    rw [← hmx, am_ui_c (by omega), am_ui_c (by omega), am_ui_c (by omega), am_ui_c (by omega), am_ui_c (by omega)]
    unfold am_ci
    rw [if_pos ⟨rfl, by omega, by omega⟩]
    congr 1
    omega
  have x59 : ∀ j, ¬ j = 6 → ¬ j = 8 → ¬ j = 9 → ¬ j = 10 → ¬ j = 11 → mx 59 j = mi 59 j := fun j a b c d e => by
    rw [← hmx, am_ui_n (fun _ q => a q), am_ui_n (fun _ q => e q), am_ui_n (fun _ q => d q), am_ui_n (fun _ q => c q), am_ui_n (fun _ q => b q)]
    unfold am_ci
    rw [if_neg (by omega)]
  have x6 : mx 59 6 = 1 := by rw [← hmx, am_ui_k]
  have x8 : mx 59 8 = mi 59 2 := by rw [← hmx, am_ui_n (by omega), am_ui_n (by omega), am_ui_n (by omega), am_ui_n (by omega), am_ui_k]
  have x9 : mx 59 9 = mi 59 3 := by rw [← hmx, am_ui_n (by omega), am_ui_n (by omega), am_ui_n (by omega), am_ui_k]
  have x10 : mx 59 10 = mi 59 4 := by rw [← hmx, am_ui_n (by omega), am_ui_n (by omega), am_ui_k]
  have x11 : mx 59 11 = mi 59 5 := by rw [← hmx, am_ui_n (by omega), am_ui_k]
  have z := h mx (fun c j q => o c j (by have := of_decide_eq_false q; omega) (by have := of_decide_eq_false q; omega)) x61 (fun j => o 60 j (by omega) (by omega)) x6 x8 x9 x10 x11 (fun j a b => x59 j (by omega) (by omega) (by omega) (by omega) (by omega))
  rw [x59 3 (by omega) (by omega) (by omega) (by omega) (by omega)]
  exact z
/-- back -/
theorem dq_150n (h0 : mi 59 6 = 0) (h : R (some (.int (-5))) mi ml) : am_call (d + 2) 150 [.ref 0] mi ml R :=
  bk_150 (bk_21 ⟨fun q => absurd h0 q, fun _ => ⟨am_b0, am_ri_i (am_n0 h)⟩⟩)
theorem dq_150 (h1 : mi 59 6 = 1) (h : ∀ m2, am_kp dq_FD mi m2 → (∀ j, j < 12 → m2 60 j = mi 61 j) → (∀ j, m2 61 j = mi 61 j) → m2 59 2 = mi 59 8 → m2 59 3 = mi 59 9 → m2 59 4 = mi 59 10 → m2 59 5 = mi 59 11 → (∀ j, 6 ≤ j → m2 59 j = mi 59 j) → R (some (.int (mi 59 9))) m2 ml) : am_call (d + 2) 150 [.ref 0] mi ml R := by
  have c0 : (0 : Int32).toNatClampNeg = 0 := by decide
  have c12 : (Int32.ofNat 12).toNatClampNeg = 12 := by decide
  refine bk_150 (bk_21 ⟨fun _ => ⟨by decide, by decide, by decide, by decide, by decide, am_b1, am_ri_i (am_y ?_)⟩, fun q => absurd (by rw [h1]; decide) q⟩)
  rw [c0, c12]
  generalize hmx : am_ui (am_ui (am_ui (am_ui (am_ci mi 61 0 60 0 12) 59 2 (mi 59 8)) 59 3 (mi 59 9)) 59 4 (mi 59 10)) 59 5 (mi 59 11) = mx
  have k : ∀ c j, ¬ c = 59 → ¬ c = 60 → mx c j = mi c j := fun c j q1 q2 => by
    rw [← hmx, am_ui_c q1, am_ui_c q1, am_ui_c q1, am_ui_c q1]
    unfold am_ci
    rw [if_neg (fun q => q2 q.1)]
  have x60 : ∀ j, j < 12 → mx 60 j = mi 61 j := fun j hj => by
    rw [← hmx, am_ui_c (by omega), am_ui_c (by omega), am_ui_c (by omega), am_ui_c (by omega)]
    unfold am_ci
    rw [if_pos ⟨rfl, by omega, by omega⟩]
    congr 1
    omega
  have x59 : ∀ j, ¬ j = 2 → ¬ j = 3 → ¬ j = 4 → ¬ j = 5 → mx 59 j = mi 59 j := fun j a b c d => by
    rw [← hmx, am_ui_n (fun _ q => d q), am_ui_n (fun _ q => c q), am_ui_n (fun _ q => b q), am_ui_n (fun _ q => a q)]
    unfold am_ci
    rw [if_neg (by omega)]
  have x2 : mx 59 2 = mi 59 8 := by rw [← hmx, am_ui_n (by omega), am_ui_n (by omega), am_ui_n (by omega), am_ui_k]
  have x3 : mx 59 3 = mi 59 9 := by rw [← hmx, am_ui_n (by omega), am_ui_n (by omega), am_ui_k]
  have x4 : mx 59 4 = mi 59 10 := by rw [← hmx, am_ui_n (by omega), am_ui_k]
  have x5 : mx 59 5 = mi 59 11 := by rw [← hmx, am_ui_k]
  rw [x3]
  exact h mx (fun c j q => k c j (by have := of_decide_eq_false q; omega) (by have := of_decide_eq_false q; omega)) x60 (fun j => k 61 j (by omega) (by omega)) x2 x3 x4 x5 (fun j a => x59 j (by omega) (by omega) (by omega) (by omega))
/-- day -/
theorem dq_145 {t : Nat} (ht : t ≤ 24) (e : mi 59 2 = nI t) (h0 : t = 24 → R (some (.int (-5))) mi ml) (h1 : t < 24 → R (some (.int (nI (t + 1)))) (am_ui mi 59 2 (nI (t + 1))) ml) : am_call (d + 2) 145 [.ref 0] mi ml R := by
  refine bk_145 (bk_16 ?_)
  rw [e]
  refine pk_lt t 24 (fun q => ⟨am_b1, am_ri_i (am_y ?_)⟩) (fun q => ⟨am_b0, am_ri_i (am_n0 (h0 (by omega)))⟩) rfl rfl
  rw [am_ui_k, nI_1]
  exact h1 q
/-- open, of a child and a door that are there -/
def dq_opw (P : List (List Nat × List Nat)) (u : Nat → Nat → Int32) (c i : Nat) (t : Int32) : Int32 := am_wo P u c i (u 2 i) (am_max 0 (t - u 0 i))
theorem dq_P_F {a b : am_MI} (hq : dq_Q P u n m a) (k : am_kp dq_FP a b) : dq_Q P u n m b := by
  obtain ⟨h1, h2, h3, h4, h5⟩ := hq
  obtain ⟨⟨g1, g4, g8, g9, g10⟩, x2, x3, x4⟩ := h1
  exact ⟨⟨⟨g1, g4, (k 15 6 rfl).trans g8, fun j hj => (k 18 _ rfl).trans (g9 j hj), (k 126 1 rfl).trans g10.1, fun j hj => (k 136 j rfl).trans (g10.2 j hj)⟩, am_cx_on x2 (k 1 1 rfl) (k 1 2 rfl) (fun w i hw => k _ _ (decide_eq_false (by omega))), trivial, x4⟩, am_sta_on h2 (fun c j h => k c j (decide_eq_false (by omega))), am_txs_on h3 (fun c j h _ => k c j (decide_eq_false (by omega))), am_fvn_on x2.2.1 h4 (fun c j q1 q2 => k c j (decide_eq_false (by omega))), am_fvi_on h5 (fun c j q1 q2 => k c j (decide_eq_false (by omega))) (k 1 3 rfl) (k 15 7 rfl)⟩
theorem dq_146 {x y : Int32} (hq : dq_Q P u n m mi) (hcm : c < m) (hi : i < n) (hx : x = nI c) (hy : y = nI i) (h0 : ¬ mi 60 i = -2 → R (some (.int (-5))) mi ml)
    (h1 : mi 60 i = -2 → ∀ m2, am_kp dq_FP mi m2 → dq_Q P u n m m2 → (∀ j, m2 60 j = upd (mi 60) i (nI c) j) → m2 59 3 = mi 59 3 + 1 → m2 59 4 = (if u 0 i ≤ mi 59 2 then mi 59 4 else mi 59 4 + 1) → m2 59 5 = mi 59 5 + dq_opw P u c i (mi 59 2) → R (some (.int (dq_opw P u c i (mi 59 2)))) m2 ml) : am_call (d + 11) 146 [.ref 0, .int x, .int y] mi ml R := by
  have hn := hq.1.2.1.1
  refine bk_146 (dq_1 hq.1.2.1 hcm hx (am_ri_i (am_y (dq_0 hq.1.2.1 hi hy (am_ri_i (am_yn (sp_15 hy (by omega) (am_ri_i ⟨fun g => ?_, fun g => h0 g⟩))))))))
  refine sp_4c hq.1.2.1 (w := 2) rfl hy (am_vd (by omega) hi) (am_ri_i (sp_17 hq.1.2.1 hi hy (am_ri_i (sp_116 hq.1.1 hq.1.2.1 hcm hi hx hy (fun m3 k3 => am_ri_i ?_)))))
  have hq3 := (dq_W hq k3).2
  refine sp_18 hq3.1.2.1 hi hy (fun m2 k2 e60 e3 e4 e5 => am_rv_i ?_)
  have k : am_kp dq_FP mi m2 := fun c j q => by
    have q := of_decide_eq_false q
    rw [k2 c j (decide_eq_false (by omega)), k3 c j (decide_eq_false (by omega))]
  refine h1 g m2 k (dq_P_F hq k) (fun j => ?_) ?_ ?_ ?_
  · rw [e60 j, hx, show m3 60 = mi 60 from funext fun j => k3 60 j rfl]
  · rw [e3, k3 59 3 rfl]
  · rw [e4, k3 59 2 rfl, k3 59 4 rfl]
  · rw [e5, k3 59 5 rfl]
    rfl
/-- open, whatever is asked -/
theorem dq_146g {x y : Int32} (hq : dq_Q P u n m mi) (hcm : c < 1000) (hi : i < 1000) (hx : x = nI c) (hy : y = nI i) (h : ∀ v m2, am_kp dq_FP mi m2 → dq_Q P u n m m2 → (∀ j, n ≤ j → m2 60 j = mi 60 j) → R (some (.int v)) m2 ml) : am_call (d + 11) 146 [.ref 0, .int x, .int y] mi ml R := by
  have hn := hq.1.2.1.1
  have hm := hq.1.2.1.2.1
  have same : ∀ v, R (some (.int v)) mi ml := fun v => h v mi am_kp_r hq (fun _ _ => rfl)
  by_cases g : c < m
  · by_cases g2 : i < n
    · refine dq_146 hq g g2 hx hy (fun _ => same _) (fun _ m2 k2 q2 e _ _ _ => h _ m2 k2 q2 (fun j hj => ?_))
      rw [e j]
      exact pk_un (by omega)
    · refine bk_146 (dq_1 hq.1.2.1 g hx (am_ri_i (am_y (sp_0 hq.1.2.1 (fun k hk e => ?_) (fun _ => am_ri_i (am_nn (same _)))))))
      rw [hy] at e
      have := (nI_eq (by omega) (by omega)).mp e
      omega
  · refine bk_146 (sp_1 hq.1.2.1 (fun k hk e => ?_) (fun _ => am_ri_i (am_n0 (same _))))
    rw [hx] at e
    have := (nI_eq (by omega) (by omega)).mp e
    omega
/-- open of a child that is not there; of a door that is not there -/
theorem dq_146c {y : Int32} (hq : dq_Q P u n m mi) (h : R (some (.int (-1))) mi ml) : am_call (d + 11) 146 [.ref 0, .int (nI m), .int y] mi ml R := by
  have hm := hq.1.2.1.2.1
  refine bk_146 (sp_1 hq.1.2.1 (fun k hk e => ?_) (fun _ => am_ri_i (am_n0 h)))
  have := (nI_eq (by omega) (by omega)).mp e
  omega
theorem dq_146d {x : Int32} (hq : dq_Q P u n m mi) (h : R (some (.int (-1))) mi ml) : am_call (d + 11) 146 [.ref 0, .int x, .int (nI n)] mi ml R := by
  have hn := hq.1.2.1.1
  refine bk_146 (sp_1 hq.1.2.1 (fun k hk e => am_ri_i (am_y (sp_0 hq.1.2.1 (fun k hk e => ?_) (fun _ => am_ri_i (am_nn h))))) (fun _ => am_ri_i (am_n0 h)))
  have := (nI_eq (by omega) (by omega)).mp e
  omega
/-- row of bytes -/
def dq_FS (s : Nat) : Nat → Nat → Bool := fun c _ => decide (c = 66 + 2 * s)
theorem dq_157 {x z : Int32} (hs : s < 6) (hx : x = nI s) (hl : l ≤ 60) (hz : z = nI l) (h : ∀ m2 ml2, am_kp (dq_FS s) mi m2 → (∀ c, ¬ c = 67 + 2 * s → ml2 c = ml c) → am_rw s l m2 ml2 → R (some (.int 1)) m2 ml2) : am_call (d + 3) 157 [.ref 0, .int x, .int 0, .int z] mi ml R := by
  obtain ⟨c1, c2, c3, c4⟩ := am_shc s hs
  have ck : x.toNatClampNeg = s := by rw [hx]; exact nI_clamp (by omega)
  have z60 : z ≤ 60 := by
    rw [hz, am_le_i, am_ti (by omega), am_l60]
    omega
  have z0 : 0 ≤ z := by rw [hz]; exact nI_pos' (by omega)
  refine bk_157 (dq_165 hs hx (am_ri_i (am_y ⟨fun q => absurd q (by decide), fun _ => ⟨fun q => absurd q (by decide), fun _ => ⟨fun _ => ⟨fun _ => ⟨by rw [hx]; exact vp_in_nI hs (by omega), ?_⟩, fun q => absurd z0 q⟩, fun q => absurd z60 q⟩⟩⟩)))
  rw [ck]
  have emx : am_max 0 (am_min z 60) = nI l := by
    rw [hz]
    unfold am_min am_max
    rw [if_neg (show ¬ (60 : Int32) < nI l from nI_nlt (a := 60) (b := l) (by omega) (by omega))]
    by_cases l0 : l = 0
    · subst l0
      rfl
    · rw [if_pos (show (0 : Int32) < nI l from nI_lt (a := 0) (by omega) (by omega))]
  refine am_need_o hs rfl (bk_98 (am_need_o hs rfl (am_need_o hs rfl (am_need_o hs rfl (am_need_o hs rfl ?_)))))
  rw [emx, c2]
  generalize hmx : am_ui (am_ui (am_ui mi (66 + 2 * s) 0 2) (66 + 2 * s) 2 0) (66 + 2 * s) 3 (nI l) = mx
  have o : ∀ c j, ¬ c = 66 + 2 * s → mx c j = mi c j := fun c j hc => by rw [← hmx, am_ui_c hc, am_ui_c hc, am_ui_c hc]
  have x0 : mx (66 + 2 * s) 0 = 2 := by rw [← hmx, am_ui_n (by omega), am_ui_n (by omega), am_ui_k]
  have x2 : mx (66 + 2 * s) 2 = 0 := by rw [← hmx, am_ui_n (by omega), am_ui_k]
  have x3 : mx (66 + 2 * s) 3 = nI l := by rw [← hmx, am_ui_k]
  have elen : am_len mx (67 + 2 * s) = 60 := by
    unfold am_len
    rw [c3]
    exact c4
  refine bk_274 (am_need_i (by rw [c3]; rfl) ?_)
  rw [elen]
  refine am_for 60 (fun j => ∀ mw : am_ML, (∀ c, ¬ c = 67 + 2 * s → mw c = ml c) → am_wp (am_call d) mt_274 _ 5 [some (.ref (67 + 2 * s)), some (.long 0), none, some (.int (nI j)), some (.int (Int32.ofNat 60))] [] mx mw) ?_ (fun j hj ih => ?_) 0 (Nat.zero_le _) ml (fun _ _ => rfl)
  · intro mw w1
    exact bk_274_5 (pk_le 60 60 (fun _ => am_rv_i (am_rv_i (h mx mw (fun c j q => o c j (of_decide_eq_false q)) w1 ⟨x0, x2, trivial, x3, trivial, hl⟩))) (fun q => absurd q (Nat.lt_irrefl _)) rfl rfl)
  · intro mw w1
    refine bk_274_5 (pk_le 60 j (fun q => absurd q (by omega)) (fun _ => am_need_k hs ?_) rfl rfl)
    rw [c4, nI_1]
    exact ⟨vp_in_nI hj (by omega), ih _ (fun c hc => (am_ul_o hc).trans (w1 c hc))⟩
/-- put into a row of bytes -/
theorem dq_158 {x y : Int32} {j : Nat} {v : Int64} (hs : s < 6) (hrow : am_rw s l mi ml) (hx : x = nI s) (hj : j < l) (hy : y = nI j) (h : R (some (.int 1)) mi (am_ul ml (67 + 2 * s) j (am_low 0 v))) : am_call (d + 3) 158 [.ref 0, .int x, .int y, .long v] mi ml R := by
  obtain ⟨c1, c2, c3, c4⟩ := am_shc s hs
  obtain ⟨r1, r2, -, r3, -, r4⟩ := hrow
  have ck : x.toNatClampNeg = s := by rw [hx]; exact nI_clamp (by omega)
  have cj : y.toNatClampNeg = j := by rw [hy]; exact nI_clamp (by omega)
  refine bk_158 (dq_165 hs hx (am_ri_i (am_yn ⟨by rw [hx]; exact vp_in_nI hs (by omega), ?_⟩)))
  rw [ck]
  refine am_need_o hs rfl (sp_99 hs (fun g => absurd (r1.symm.trans g) (by decide)) (fun _ => am_ri_i (am_n0 (am_need_o hs rfl (bk_104 (am_need_o hs rfl (sp_101 hs r4 r3 (fun _ _ _ => am_ri_i (am_yn (am_need_o hs rfl (am_need_o hs rfl (sp_105 (q := 0) hs (by omega) r2 (am_rj_i ?_)))))) (fun g => ?_))))))) (fun _ g => absurd r1 g))
  · rw [c2, c4, cj]
    exact am_need_k hs ⟨by rw [hy]; exact vp_in_nI (by omega) (by omega), am_b1, am_ri_i (am_y h)⟩
  · rw [hy, am_ti (by omega)] at g
    omega
/-- refusals: row of a sort that is none, body of a kind that is none -/
theorem dq_157b {x z : Int32} (hs : s < 6) (hx : x = nI s) (h : R (some (.int (-1))) mi ml) : am_call (d + 3) 157 [.ref 0, .int x, .int 5, .int z] mi ml R :=
  bk_157 (dq_165 hs hx (am_ri_i (am_y ⟨fun q => absurd q (by decide), fun _ => ⟨fun _ => h, fun q => absurd (by decide) q⟩⟩)))
theorem dq_153 (h : R (some (.int (-1))) mi ml) : am_call (d + 3) 153 [.ref 0, .int 9] mi ml R :=
  bk_153 (bk_83 ⟨fun q => absurd q (by decide), fun _ => ⟨fun _ => ⟨am_b0, am_ri_i (am_nn h)⟩, fun q => absurd (by decide) q⟩⟩)
end SP73
