/-! the calls that change numbers, doors, children, the law -/
def dq_V (v : Nat) (mi : am_MI) : Prop := ∃ a b, mi 1 3 = nI a ∧ mi 15 7 = nI b ∧ a + b ≤ v
def dq_C (mi : am_MI) : Prop := ∃ k, k ≤ 40 ∧ mi 13 1 = nI k
def dq_FM : Nat → Nat → Bool := fun c j => decide ((c = 1 ∧ (j = 1 ∨ j = 2 ∨ j = 3)) ∨ (3 ≤ c ∧ c ≤ 12) ∨ c = 13 ∨ c = 14)
section SP74
variable {d n m r c i s l vv : Nat} {u : Nat → Nat → Int32} {mi : am_MI} {ml : am_ML} {R : am_R} {P : List (List Nat × List Nat)}
theorem dq_V_m {v v2 : Nat} (h : dq_V v mi) (hv : v ≤ v2) : dq_V v2 mi := by
  obtain ⟨a, b, h1, h2, h3⟩ := h
  exact ⟨a, b, h1, h2, by omega⟩
theorem dq_V_on {v : Nat} {a b : am_MI} (h : dq_V v a) (e1 : b 1 3 = a 1 3) (e2 : b 15 7 = a 15 7) : dq_V v b := by
  obtain ⟨x, y, h1, h2, h3⟩ := h
  exact ⟨x, y, e1.trans h1, e2.trans h2, h3⟩
theorem dq_C_on {a b : am_MI} (h : dq_C a) (e : b 13 1 = a 13 1) : dq_C b := by
  obtain ⟨k, h1, h2⟩ := h
  exact ⟨k, h1, e.trans h2⟩
/-- another calendar or law, with a version above -/
theorem dq_nw {a b : am_MI} {P2 : List (List Nat × List Nat)} {u2 : Nat → Nat → Int32} {n2 m2 x y p q : Nat} (hq : dq_Q P u n m a) (ex : a 1 3 = nI x) (ey : a 15 7 = nI y) (hX : am_X P2 u2 n2 m2 b) (k : ∀ c j, 114 ≤ c → b c j = a c j) (e22 : b 22 2 = a 22 2) (e47 : b 47 2 = a 47 2) (ep : b 1 3 = nI p) (eq : b 15 7 = nI q) (h1 : x + y < p + q) (h2 : p + q ≤ 1000000) : dq_Q P2 u2 n2 m2 b := by
  have s1 : (a 1 3 + a 15 7).toInt = (x + y : Nat) := by
    rw [ex, ey, nI_add, am_ti (by omega)]
  have s2 : (b 1 3 + b 15 7).toInt = (p + q : Nat) := by
    rw [ep, eq, nI_add, am_ti (by omega)]
  refine ⟨hX, am_sta_on hq.2.1 (fun c j h => k c j h), am_txs_on hq.2.2.1 (fun c j h _ => k c j (by omega)), Or.inr ?_, Or.inr ?_⟩
  · rw [s2, e22]
    rcases hq.2.2.2.1 with z | z
    · rw [z.2.2.2.2, s1]
      omega
    · omega
  · rw [s2, e47]
    rcases hq.2.2.2.2 with z | z
    · rw [z.1, s1]
      omega
    · omega
theorem dq_ur_uu {w i p : Nat} (h : am_ur n m u) (h1 : am_lo w ≤ p) (h2 : p ≤ am_hi w) : am_ur n m (am_uu u w i (nI p)) := fun w2 i2 hv => by
  by_cases e : w2 = w ∧ i2 = i
  · obtain ⟨rfl, rfl⟩ := e
    exact ⟨p, h1, h2, am_uu_k⟩
  · rw [am_uu_n (fun a b => e ⟨a, b⟩)]
    exact h w2 i2 hv
theorem dq_uu_b {w i : Nat} {y z : Int32} : am_uu (am_uu u w i y) w i z = am_uu u w i z := by
  funext w2 i2
  by_cases e : w2 = w ∧ i2 = i
  · obtain ⟨rfl, rfl⟩ := e
    rw [am_uu_k, am_uu_k]
  · rw [am_uu_n (fun a b => e ⟨a, b⟩), am_uu_n (fun a b => e ⟨a, b⟩), am_uu_n (fun a b => e ⟨a, b⟩)]
theorem dq_uu_s {w i : Nat} : am_uu u w i (u w i) = u := by
  funext w2 i2
  by_cases e : w2 = w ∧ i2 = i
  · obtain ⟨rfl, rfl⟩ := e
    rw [am_uu_k]
  · rw [am_uu_n (fun a b => e ⟨a, b⟩)]
theorem dq_lwr_M {a b : am_MI} (h : am_lwr P a) (k : am_kp dq_FM a b) : am_lwr P b := by
  obtain ⟨g1, g4, g8, g9, g10⟩ := h
  exact ⟨g1, g4, (k 15 6 rfl).trans g8, fun j hj => (k 18 _ rfl).trans (g9 j hj), (k 126 1 rfl).trans g10.1, fun j hj => (k 136 j rfl).trans (g10.2 j hj)⟩
/-- mend, a number that is there, to what it may be -/
theorem dq_121 {x y v : Int32} {w i p : Nat} (hq : dq_Q P u n m mi) (hC : dq_C mi) (hV : dq_V vv mi) (hvv : vv ≤ 1000) (hval : am_val n m w i) (hp1 : am_lo w ≤ p) (hp2 : p ≤ am_hi w) (hx : x = nI i) (hy : y = nI w) (hv : v = nI p)
    (h0 : u w i = v → R (some (.int (u w i))) mi ml)
    (h1 : ¬ u w i = v → ∀ m2, am_kp dq_FM mi m2 → dq_Q P (am_uu u w i v) n m m2 → dq_V (vv + 1) m2 → (am_cz m mi → am_cz m m2) → (∃ k, k ≤ 39 ∧ m2 13 1 = nI (k + 1) ∧ m2 14 (4 * k) = nI i ∧ m2 14 (4 * k + 1) = nI w ∧ m2 14 (4 * k + 2) = u w i) → R (some (.int (u w i))) m2 ml) : am_call (d + 4) 121 [.ref 0, .int x, .int y, .int v] mi ml R := by
  have b1 := hq.1.2.1.1
  have b2 := hq.1.2.1.2.1
  obtain ⟨k, hk, ek⟩ := hC
  obtain ⟨va, vb, e13, e157, hab⟩ := hV
  have inj : ∀ {w2 i2 : Nat}, am_val n m w2 i2 → y = nI w2 → x = nI i2 → w2 = w ∧ i2 = i := by
    intro w2 i2 h2 a3 a4
    refine ⟨(nI_eq ?_ ?_).mp (a3.symm.trans hy), (nI_eq ?_ ?_).mp (a4.symm.trans hx)⟩ <;> unfold am_val at hval h2 <;> omega
  refine sp_121 hq.1.2.1 hq.2.1 hk ek (fun no => (no w i p hval hp1 hp2 hy hx hv).elim) (fun w2 i2 p2 hv2 _ _ e1 e2 _ heq => ?_) (fun w2 i2 p2 hv2 _ _ e1 e2 _ hne mx m2 k1 f1 f2 f3 f4 f5 f6 f7 hc2 k2 ver o2 => ?_)
  · obtain ⟨rfl, rfl⟩ := inj hv2 e1 e2
    exact h0 heq
  · obtain ⟨rfl, rfl⟩ := inj hv2 e1 e2
    have al : am_kp dq_FM mi m2 := fun c j q => by
      have q := of_decide_eq_false q
      rw [k2 c j (decide_eq_false (by omega)), k1 c j (decide_eq_false (by omega))]
    have ev : m2 1 3 = nI (va + 1) := by rw [ver, k1 1 3 rfl, e13, nI_1]
    have e7 : m2 15 7 = nI vb := (al 15 7 rfl).trans e157
    have hX2 : am_X P (am_uu u w2 i2 v) n m m2 := ⟨dq_lwr_M hq.1.1 al, hc2, trivial, by rw [hv]; exact dq_ur_uu hq.1.2.2.2 hp1 hp2⟩
    refine h1 hne m2 al (dq_nw hq e13 e157 hX2 (fun c j h => al c j (decide_eq_false (by omega))) (al 22 2 rfl) (al 47 2 rfl) ev e7 (by omega) (by omega)) ⟨va + 1, vb, ev, e7, by omega⟩ (fun hz => ?_) ⟨am_k39 k, ?_, ?_, ?_, ?_, ?_⟩
    · exact am_cz_set (a := mx) (fun j q1 q2 => by rw [k1 9 j rfl, k1 10 j rfl]; exact hz j q1 q2) hv2 o2
    · unfold am_k39
      split <;> omega
    · rw [k2 13 1 rfl, f1]
    · rw [k2 14 _ rfl, f4, hx]
    · rw [k2 14 _ rfl, f5, hy]
    · rw [k2 14 _ rfl, f6]
/-- mend refused -/
theorem dq_121n {x y v : Int32} (hq : dq_Q P u n m mi) (hC : dq_C mi) (hno : ∀ w i p, am_val n m w i → am_lo w ≤ p → p ≤ am_hi w → y = nI w → x = nI i → v = nI p → False) (h : R (some (.int (-1))) mi ml) : am_call (d + 4) 121 [.ref 0, .int x, .int y, .int v] mi ml R := by
  obtain ⟨k, hk, ek⟩ := hC
  exact sp_121 hq.1.2.1 hq.2.1 hk ek (fun _ => h) (fun w i p a b c e f g _ => (hno w i p a b c e f g).elim) (fun w i p a b c e f g => (hno w i p a b c e f g).elim)
/-- undo of what is kept last -/
theorem dq_151 {w i p k : Nat} (hq : dq_Q P u n m mi) (hV : dq_V vv mi) (hvv : vv ≤ 1000) (hval : am_val n m w i) (hp1 : am_lo w ≤ p) (hp2 : p ≤ am_hi w) (hk : k ≤ 39) (e1 : mi 13 1 = nI (k + 1)) (a0 : mi 14 (4 * k) = nI i) (a1 : mi 14 (4 * k + 1) = nI w) (a2 : mi 14 (4 * k + 2) = nI p)
    (h : ∀ m2, am_kp dq_FM mi m2 → dq_Q P (am_uu u w i (nI p)) n m m2 → dq_V (vv + 1) m2 → dq_C m2 → R (some (.int (nI k))) m2 ml) : am_call (d + 5) 151 [.ref 0] mi ml R := by
  obtain ⟨va, vb, e13, e157, hab⟩ := hV
  obtain ⟨c0, g0⟩ := am_n40 (k := k) (by omega)
  obtain ⟨c1, g1⟩ := am_n4 1 (k := k) (by omega) (by omega)
  obtain ⟨c2, g2⟩ := am_n4 2 (k := k) (by omega) (by omega)
  refine bk_151 (bk_13 ?_)
  rw [e1]
  refine pk_lt 0 (k + 1) (fun _ => ?_) (fun q => absurd q (by omega)) rfl rfl
  rw [nI_pred]
  refine ⟨g1, g0, g2, ?_⟩
  rw [show (1 : Int32) = nI 1 from rfl, show (2 : Int32) = nI 2 from rfl, c0, c1, c2, a0, a1, a2]
  generalize hmx : am_ui (am_ui mi 13 1 (nI k)) 13 2 (mi 13 2 + nI 1) = mx
  have ox : ∀ c2 j2, ¬ c2 = 13 → mx c2 j2 = mi c2 j2 := fun c2 j2 h => by rw [← hmx, am_ui_c h, am_ui_c h]
  have x1 : mx 13 1 = nI k := by rw [← hmx, am_ui_n (by omega), am_ui_k]
  have hcx : am_cx n m u mx := am_cx_on hq.1.2.1 (ox _ _ (by omega)) (ox _ _ (by omega)) (fun w i hw => ox _ _ (by omega))
  refine sp_5 hcx hval rfl rfl (fun m2 hc2 k2 ver _ _ o2 => am_rv_i ⟨am_b1, am_ri_i (am_y ?_)⟩)
  have e2 : m2 13 1 = nI k := (k2 13 1 rfl).trans x1
  have al : am_kp dq_FM mi m2 := fun c j q => by
    have q := of_decide_eq_false q
    rw [k2 c j (decide_eq_false (by omega)), ox c j (by omega)]
  have ev : m2 1 3 = nI (va + 1) := by rw [ver, ox 1 3 (by omega), e13, nI_1]
  have e7 : m2 15 7 = nI vb := (al 15 7 rfl).trans e157
  have hX2 : am_X P (am_uu u w i (nI p)) n m m2 := ⟨dq_lwr_M hq.1.1 al, hc2, trivial, dq_ur_uu hq.1.2.2.2 hp1 hp2⟩
  rw [e2]
  exact h m2 al (dq_nw hq e13 e157 hX2 (fun c j h => al c j (decide_eq_false (by omega))) (al 22 2 rfl) (al 47 2 rfl) ev e7 (by omega) (by omega)) ⟨va + 1, vb, ev, e7, by omega⟩ ⟨k, by omega, e2⟩
/-- a door more; a child more -/
def dq_ud (u : Nat → Nat → Int32) (n : Nat) (x y : Int32) : Nat → Nat → Int32 := am_uu (am_uu (am_uu u 0 n x) 1 n y) 2 n 1
def dq_uc (u : Nat → Nat → Int32) (m : Nat) (x y : Int32) : Nat → Nat → Int32 := am_uu (am_uu (am_uu (am_uu (am_uu u 3 m x) 4 m y) 5 m 5) 6 m 0) 7 m 0
theorem dq_118 {x y : Int32} {k1 k2 : Nat} (hq : dq_Q P u n m mi) (hV : dq_V vv mi) (hvv : vv ≤ 1000) (hn : n < 12) (h1 : 1 ≤ k1) (h2 : k1 ≤ 24) (h3 : k2 ≤ 7) (hx : x = nI k1) (hy : y = nI k2)
    (h : ∀ m2, am_kp dq_FM mi m2 → dq_Q P (dq_ud u n x y) (n + 1) m m2 → dq_V (vv + 3) m2 → (∀ j, m2 9 j = mi 9 j ∧ m2 10 j = mi 10 j) → m2 13 1 = mi 13 1 → R (some (.int (nI n))) m2 ml) : am_call (d + 5) 118 [.ref 0, .int x, .int y] mi ml R := by
  obtain ⟨va, vb, e13, e157, hab⟩ := hV
  have l1 : am_lo 1 = 0 := rfl
  have g1 : am_hi 1 = 7 := rfl
  refine bk_118 (dq_day hq h1 h2 hx (am_ri_i (am_y (sp_3 hq.2.1 (w := 1) (by omega) rfl (fun _ _ _ _ => am_ri_i (am_yn (sp_6 hq.1.2.1 (fun e => absurd e (by omega)) (fun _ m2 hc2 kp2 ver cz => am_ri_i (am_y ?_))))) (fun g => ?_)))))
  · rw [hc2.2.2.1, nI_pred]
    have al : am_kp dq_FM mi m2 := am_kp_w kp2 (fun c j q => by
      have q := of_decide_eq_false q
      exact decide_eq_false (by omega))
    have ev : m2 1 3 = nI (va + 3) := by rw [ver, e13, nI_1, nI_1, nI_1]
    have e7 : m2 15 7 = nI vb := (al 15 7 rfl).trans e157
    have ur : am_ur (n + 1) m (dq_ud u n x y) := by
      intro w i hv
      unfold dq_ud
      by_cases e2 : w = 2 ∧ i = n
      · obtain ⟨rfl, rfl⟩ := e2
        exact ⟨1, by decide, by decide, am_uu_k⟩
      · rw [am_uu_n (fun a b => e2 ⟨a, b⟩)]
        by_cases e1 : w = 1 ∧ i = n
        · obtain ⟨rfl, rfl⟩ := e1
          exact ⟨k2, by omega, by omega, am_uu_k.trans hy⟩
        · rw [am_uu_n (fun a b => e1 ⟨a, b⟩)]
          by_cases e0 : w = 0 ∧ i = n
          · obtain ⟨rfl, rfl⟩ := e0
            exact ⟨k1, h1, h2, am_uu_k.trans hx⟩
          · rw [am_uu_n (fun a b => e0 ⟨a, b⟩)]
            exact hq.1.2.2.2 w i (by unfold am_val at hv ⊢; omega)
    exact h m2 al (dq_nw hq e13 e157 ⟨dq_lwr_M hq.1.1 al, hc2, trivial, ur⟩ (fun c j h => al c j (decide_eq_false (by omega))) (al 22 2 rfl) (al 47 2 rfl) ev e7 (by omega) (by omega)) ⟨va + 3, vb, ev, e7, by omega⟩ cz (kp2 13 1 rfl)
  · rw [hy, am_ti (by omega)] at g
    omega
theorem dq_118n {x y : Int32} (hq : dq_Q P u n m mi) (hno : (x.toInt < 1 ∨ 24 < x.toInt) ∨ (y.toInt < 0 ∨ 7 < y.toInt)) (h : R (some (.int (-1))) mi ml) : am_call (d + 5) 118 [.ref 0, .int x, .int y] mi ml R := by
  have l0 : am_lo 0 = 1 := rfl
  have g0 : am_hi 0 = 24 := rfl
  have l1 : am_lo 1 = 0 := rfl
  have g1 : am_hi 1 = 7 := rfl
  refine bk_118 (sp_3 hq.2.1 (w := 0) (by omega) rfl (fun k1 a b e1 => am_ri_i (am_y (sp_3 hq.2.1 (w := 1) (by omega) rfl (fun k2 a2 b2 e2 => ?_) (fun _ => am_ri_i (am_nn h))))) (fun _ => am_ri_i (am_n0 h)))
  exfalso
  rw [e1, e2, am_ti (by omega), am_ti (by omega)] at hno
  omega
theorem dq_120 {x y : Int32} {k1 k2 : Nat} (hq : dq_Q P u n m mi) (hz : am_cz m mi) (hV : dq_V vv mi) (hvv : vv ≤ 1000) (hm : m < 5) (h1 : 1 ≤ k1) (h2 : k1 ≤ 18) (h3 : k2 ≤ 7) (hx : x = nI k1) (hy : y = nI k2)
    (h : ∀ m2, am_kp dq_FM mi m2 → dq_Q P (dq_uc u m x y) n (m + 1) m2 → dq_V (vv + 3) m2 → am_cz (m + 1) m2 → m2 13 1 = mi 13 1 → R (some (.int (nI m))) m2 ml) : am_call (d + 5) 120 [.ref 0, .int x, .int y] mi ml R := by
  obtain ⟨va, vb, e13, e157, hab⟩ := hV
  have l0 : am_lo 3 = 1 := rfl
  have g0 : am_hi 3 = 18 := rfl
  have l1 : am_lo 4 = 0 := rfl
  have g1 : am_hi 4 = 7 := rfl
  refine bk_120 (sp_3 hq.2.1 (w := 3) (by omega) rfl (fun _ _ _ _ => am_ri_i (am_y (sp_3 hq.2.1 (w := 4) (by omega) rfl (fun _ _ _ _ => am_ri_i (am_yn (sp_7 hq.1.2.1 hz (fun e => absurd e (by omega)) (fun _ m2 hc2 cz2 kp2 ver => am_ri_i (am_y ?_))))) (fun g => ?_)))) (fun g => ?_))
  · rw [hc2.2.2.2.1, nI_pred]
    have al : am_kp dq_FM mi m2 := am_kp_w kp2 (fun c j q => by
      have q := of_decide_eq_false q
      exact decide_eq_false (by omega))
    have ev : m2 1 3 = nI (va + 3) := by rw [ver, e13, nI_1, nI_1, nI_1]
    have e7 : m2 15 7 = nI vb := (al 15 7 rfl).trans e157
    have ur : am_ur n (m + 1) (dq_uc u m x y) := by
      intro w i hv
      unfold dq_uc
      by_cases e7 : w = 7 ∧ i = m
      · obtain ⟨rfl, rfl⟩ := e7
        exact ⟨0, by decide, by decide, am_uu_k⟩
      rw [am_uu_n (fun a b => e7 ⟨a, b⟩)]
      by_cases e6 : w = 6 ∧ i = m
      · obtain ⟨rfl, rfl⟩ := e6
        exact ⟨0, by decide, by decide, am_uu_k⟩
      rw [am_uu_n (fun a b => e6 ⟨a, b⟩)]
      by_cases e5 : w = 5 ∧ i = m
      · obtain ⟨rfl, rfl⟩ := e5
        exact ⟨5, by decide, by decide, am_uu_k⟩
      rw [am_uu_n (fun a b => e5 ⟨a, b⟩)]
      by_cases e4 : w = 4 ∧ i = m
      · obtain ⟨rfl, rfl⟩ := e4
        exact ⟨k2, by omega, by omega, am_uu_k.trans hy⟩
      rw [am_uu_n (fun a b => e4 ⟨a, b⟩)]
      by_cases e3 : w = 3 ∧ i = m
      · obtain ⟨rfl, rfl⟩ := e3
        exact ⟨k1, by omega, by omega, am_uu_k.trans hx⟩
      rw [am_uu_n (fun a b => e3 ⟨a, b⟩)]
      exact hq.1.2.2.2 w i (by unfold am_val at hv ⊢; omega)
    exact h m2 al (dq_nw hq e13 e157 ⟨dq_lwr_M hq.1.1 al, hc2, trivial, ur⟩ (fun c j h => al c j (decide_eq_false (by omega))) (al 22 2 rfl) (al 47 2 rfl) ev e7 (by omega) (by omega)) ⟨va + 3, vb, ev, e7, by omega⟩ cz2 (kp2 13 1 rfl)
  · rw [hy, am_ti (by omega)] at g
    omega
  · rw [hx, am_ti (by omega)] at g
    omega
theorem dq_120n (hq : dq_Q P u n m mi) {y : Int32} (h : R (some (.int (-1))) mi ml) : am_call (d + 5) 120 [.ref 0, .int 0, .int y] mi ml R := by
  have l0 : am_lo 3 = 1 := rfl
  have g0 : am_hi 3 = 18 := rfl
  refine bk_120 (sp_3 hq.2.1 (w := 3) (by omega) rfl (fun k1 a b e1 => ?_) (fun _ => am_ri_i (am_n0 h)))
  exfalso
  have := (nI_eq (a := 0) (by omega) (by omega)).mp e1
  omega
/-- the tape -/
def dq_T (t : Nat) (mi : am_MI) : Prop := t ≤ 120 ∧ mi 15 1 = nI t ∧ ∀ j, j < t → ∃ b, b < 256 ∧ mi 16 j = nI b
def dq_Ft : Nat → Nat → Bool := fun c j => decide (c = 16 ∨ (c = 15 ∧ j = 1))
theorem dq_123 {x : Int32} {b t : Nat} (hT : dq_T t mi) (hb : b < 256) (hx : x = nI b) (h : ∀ v t2 m2, am_kp dq_Ft mi m2 → dq_T t2 m2 → (t = 0 → v = 1 ∧ t2 = 1 ∧ m2 16 0 = x) → R (some (.int v)) m2 ml) : am_call (d + 2) 123 [.ref 0, .int x] mi ml R := by
  obtain ⟨t1, t2, t3⟩ := hT
  have x0 : ¬ x < 0 := by rw [hx]; exact dq_p (by omega)
  have x1 : x ≤ 255 := by
    rw [hx, am_le_i, am_ti (by omega), am_l255]
    omega
  refine bk_123 ⟨fun q => absurd q x0, fun _ => ⟨fun _ => bk_66 ?_, fun q => absurd x1 q⟩⟩
  rw [t2]
  refine pk_lt t 120 (fun q => ⟨vp_in_nI q (by omega), am_b1, am_ri_i (am_y ?_)⟩) (fun q => ⟨am_b0, am_ri_i (am_n0 (h _ t mi am_kp_r ⟨t1, t2, t3⟩ (fun e => absurd e (by omega))))⟩) rfl rfl
  rw [nI_clamp (by omega), nI_1, am_ui_k]
  refine h _ (t + 1) _ (am_kp_u (am_kp_u am_kp_r rfl) rfl) ⟨by omega, am_ui_k, fun j hj => ?_⟩ (fun e => ⟨by rw [e]; rfl, by omega, ?_⟩)
  · rw [am_ui_c (by omega)]
    by_cases e : j = t
    · rw [e, am_ui_k]
      exact ⟨b, hb, hx⟩
    · rw [am_ui_n (fun _ w => e w)]
      exact t3 j (by omega)
  · rw [am_ui_c (by omega), ← e, am_ui_k]
theorem dq_123n (h : R (some (.int (-1))) mi ml) : am_call (d + 2) 123 [.ref 0, .int 300] mi ml R :=
  bk_123 ⟨fun q => absurd q (by decide), fun _ => ⟨fun q => absurd q (by decide), fun _ => h⟩⟩
/-- law: a text or none -/
theorem dq_124 {t : Nat} (hq : dq_Q P u n m mi) (hV : dq_V vv mi) (hvv : vv ≤ 1000) (hT : dq_T t mi)
    (h1 : ∀ P2 m2, am_kp am_F67 mi m2 → m2 15 1 = 0 → dq_Q P2 u n m m2 → dq_V (vv + 1) m2 → R (some (.int 1)) m2 ml)
    (h0 : ∀ v m2, am_kp am_F67f mi m2 → m2 15 1 = 0 → dq_Q P u n m m2 → R (some (.int v)) m2 ml) : am_call (d + 58) 124 [.ref 0] mi ml R := by
  obtain ⟨va, vb, e13, e157, hab⟩ := hV
  obtain ⟨t1, t2, t3⟩ := hT
  have hb : am_cb (fun j => (mi 16 j).toNatClampNeg) t mi := ⟨t1, t2, fun j hj => by
    obtain ⟨b, hb, e⟩ := t3 j hj
    show mi 16 j = nI (mi 16 j).toNatClampNeg ∧ (mi 16 j).toNatClampNeg < 256
    rw [e, nI_clamp (by omega)]
    exact ⟨rfl, hb⟩, hq.2.2.1⟩
  refine bk_124 (sp_67 (by omega) hb (fun ok m2 k a1 a2 a3 a4 => am_ri_i ?_) (fun _ m2 k a1 => am_ri_i ?_))
  · obtain ⟨g1, -, -, g4, -⟩ := am_lns_g (L := t) t1 (t + 1) 0 [] (Nat.zero_le _) ⟨trivial, Nat.le_refl _, Nat.le_refl _, Nat.le_refl _⟩ ok
    have ev : m2 1 3 = nI va := (k 1 3 rfl).trans e13
    have e7 : m2 15 7 = nI (vb + 1) := by rw [a4, e157, nI_1]
    refine h1 _ m2 k a1 (dq_nw hq e13 e157 ⟨⟨g1, g4, a2, a3, (k 126 1 rfl).trans hq.1.1.2.2.2.2.1, fun j hj => (k 136 j rfl).trans (hq.1.1.2.2.2.2.2 j hj)⟩, am_cx_on hq.1.2.1 (k 1 1 rfl) (k 1 2 rfl) (fun w i hw => k _ _ (decide_eq_false (by omega))), trivial, hq.1.2.2.2⟩ (fun c j h => k c j (decide_eq_false (by omega))) (k 22 2 rfl) (k 47 2 rfl) ev e7 (by omega) (by omega)) ⟨va, vb + 1, ev, e7, by omega⟩
  · exact h0 _ m2 k a1 (dq_Q_O hq (am_kp_w k (fun c j q => by
      have q := of_decide_eq_false q
      exact decide_eq_false (by omega))))
/-- law of an open bracket alone -/
theorem dq_124p (hq : dq_Q P u n m mi) (e1 : mi 15 1 = 1) (e2 : mi 16 0 = 40) (h : ∀ m2, am_kp am_F67f mi m2 → m2 15 1 = 0 → dq_Q P u n m m2 → R (some (.int (-101))) m2 ml) : am_call (d + 58) 124 [.ref 0] mi ml R := by
  have hb : am_cb (fun _ => 40) 1 mi := ⟨by omega, e1, fun j hj => by
    have e : j = 0 := by omega
    subst e
    exact ⟨e2, by show 40 < 256; omega⟩, hq.2.2.1⟩
  have ev : (am_lns (fun _ => 40) 1 (1 + 1) 0 []).1 = false ∧ (am_lns (fun _ => 40) 1 (1 + 1) 0 []).2.1 = 1 := by decide
  refine bk_124 (sp_67 (by omega) hb (fun ok m2 k a1 a2 a3 a4 => ?_) (fun _ m2 k a1 => am_ri_i ?_))
  · rw [ev.1] at ok
    cases ok
  · rw [ev.2]
    exact h m2 k a1 (dq_Q_O hq (am_kp_w k (fun c j q => by
      have q := of_decide_eq_false q
      exact decide_eq_false (by omega))))
end SP74
