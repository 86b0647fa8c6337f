/-! the law's run: the days -/
def dq_I (P : List (List Nat × List Nat)) (u : Nat → Nat → Int32) (n m v : Nat) (mi : am_MI) : Prop := dq_Q P u n m mi ∧ dq_V v mi ∧ dq_C mi ∧ ((∀ j, j < 12 → mi 61 j = -2) ∧ mi 59 6 = 1 ∧ ∀ j, 8 ≤ j → j ≤ 11 → mi 59 j = 0) ∧ mi 15 1 = 0
/-- the doors that are opened, at door d of day t -/
def dq_op (u : Nat → Nat → Int32) (t d j : Nat) : Bool := decide (u 0 j < nI t ∨ (u 0 j = nI t ∧ j < d))
def dq_G (P : List (List Nat × List Nat)) (u : Nat → Nat → Int32) (n m v t d : Nat) (mi : am_MI) : Prop := dq_I P u n m v mi ∧ mi 59 2 = nI t ∧ mi 59 4 = 0 ∧ mi 59 3 = nI (am_cnt (dq_op u t d) n) ∧ (∀ j, j < n → mi 60 j = if dq_op u t d j = true then (am_gvn P u n m 0).1 j else -2) ∧ ∀ j, n ≤ j → j < 12 → mi 60 j = -2
/-- on any day, the image kept -/
def dq_J (P : List (List Nat × List Nat)) (u : Nat → Nat → Int32) (n m v k : Nat) (mi : am_MI) : Prop := dq_I P u n m v mi ∧ (∃ s, s ≤ k ∧ mi 59 2 = nI s) ∧ ∀ j, n ≤ j → j < 12 → mi 60 j = -2
theorem dq_cnt_1 {p q : Nat → Bool} {d : Nat} (hp : p d = false) (hq : q d = true) (h : ∀ j, ¬ j = d → q j = p j) : ∀ k, am_cnt q k = am_cnt p k + (if d < k then 1 else 0)
  | 0 => rfl
  | k + 1 => by
    show am_cnt q k + (if q k = true then 1 else 0) = am_cnt p k + (if p k = true then 1 else 0) + (if d < k + 1 then 1 else 0)
    rw [dq_cnt_1 hp hq h k]
    by_cases e : k = d
    · subst e
      rw [hp, hq, if_neg (Nat.lt_irrefl _), if_pos rfl, if_neg (by decide), if_pos (Nat.lt_succ_self _)]
    · rw [h k e]
      by_cases g : d < k
      · rw [if_pos g, if_pos (show d < k + 1 by omega)]
        omega
      · rw [if_neg g, if_neg (show ¬ d < k + 1 by omega), Nat.add_zero, Nat.add_zero]
theorem dq_cnu {p q : Nat → Bool} : ∀ k, (∀ j, j < k → q j = p j) → am_cnt q k = am_cnt p k
  | 0, _ => rfl
  | k + 1, h => by
    show am_cnt q k + (if q k = true then 1 else 0) = am_cnt p k + (if p k = true then 1 else 0)
    rw [dq_cnu k (fun j hj => h j (by omega)), h k (by omega)]
theorem dq_cnt_a {p : Nat → Bool} : ∀ k, (∀ j, j < k → p j = true) → am_cnt p k = k
  | 0, _ => rfl
  | k + 1, h => by
    show am_cnt p k + (if p k = true then 1 else 0) = k + 1
    rw [dq_cnt_a k (fun j hj => h j (by omega)), if_pos (h k (by omega))]
theorem dq_upd_k {f : Nat → Int32} {j : Nat} {x : Int32} : upd f j x j = x := if_pos rfl
theorem dq_upd_n {f : Nat → Int32} {j k : Nat} {x : Int32} (h : ¬ k = j) : upd f j x k = f k := if_neg h
section SP85
variable {K : am_K} {d n m r v t : Nat} {u : Nat → Nat → Int32} {mi : am_MI} {ml : am_ML} {R : am_R} {P : List (List Nat × List Nat)} {S : Int64}
theorem dq_I_P {a b : am_MI} (h : dq_I P u n m v a) (k : am_kp dq_FP a b) (q : dq_Q P u n m b) : dq_I P u n m v b :=
  ⟨q, dq_V_on h.2.1 (k 1 3 rfl) (k 15 7 rfl), dq_C_on h.2.2.1 (k 13 1 rfl), ⟨fun j hj => (k 61 j (decide_eq_false (by omega))).trans (h.2.2.2.1.1 j hj), (k 59 6 rfl).trans h.2.2.2.1.2.1, fun j h1 h2 => (k 59 j (decide_eq_false (by omega))).trans (h.2.2.2.1.2.2 j h1 h2)⟩, (k 15 1 rfl).trans h.2.2.2.2⟩
theorem dq_I_Z {a b : am_MI} (h : dq_I P u n m v a) (k : am_kp (am_FZ n) a b) (q : dq_Q P u n m b) : dq_I P u n m v b :=
  ⟨q, dq_V_on h.2.1 (k 1 3 (dq_Z1 (by omega) (by omega))) (k 15 7 (dq_Z1 (by omega) (by omega))), dq_C_on h.2.2.1 (k 13 1 (dq_Z1 (by omega) (by omega))), ⟨fun j hj => (k 61 j (dq_Z (by omega) (by omega))).trans (h.2.2.2.1.1 j hj), (k 59 6 (dq_Z (by omega) (by omega))).trans h.2.2.2.1.2.1, fun j h1 h2 => (k 59 j (dq_Z (by omega) (by omega))).trans (h.2.2.2.1.2.2 j h1 h2)⟩, (k 15 1 (dq_Z1 (by omega) (by omega))).trans h.2.2.2.2⟩
theorem dq_B_I {a : am_MI} (h : dq_B P u n m v a) : dq_I P u n m v a := ⟨h.1, h.2.1, h.2.2.1, ⟨h.2.2.2.1.2.1, h.2.2.2.1.2.2.2.1, h.2.2.2.1.2.2.2.2⟩, h.2.2.2.2⟩
theorem dq_G_Z {a b : am_MI} (h : dq_G P u n m v t d a) (k : am_kp (am_FZ n) a b) (q : dq_Q P u n m b) : dq_G P u n m v t d b :=
  ⟨dq_I_Z h.1 k q, (k 59 2 (dq_Z (by omega) (by omega))).trans h.2.1, (k 59 4 (dq_Z (by omega) (by omega))).trans h.2.2.1, (k 59 3 (dq_Z (by omega) (by omega))).trans h.2.2.2.1, fun j hj => (k 60 j (dq_Z (by omega) (by omega))).trans (h.2.2.2.2.1 j hj), fun j h1 h2 => (k 60 j (dq_Z (by omega) (by omega))).trans (h.2.2.2.2.2 j h1 h2)⟩
theorem dq_I_D {a b : am_MI} (h : dq_I P u n m v a) (k : am_kp dq_FD a b) (e : ∀ j, b 61 j = a 61 j) (e2 : ∀ j, 6 ≤ j → b 59 j = a 59 j) : dq_I P u n m v b := by
  have kO := dq_OD k
  exact ⟨dq_Q_O h.1 kO, dq_V_on h.2.1 (kO 1 3 rfl) (kO 15 7 rfl), dq_C_on h.2.2.1 (k 13 1 rfl), ⟨fun j hj => (e j).trans (h.2.2.2.1.1 j hj), (e2 6 (by omega)).trans h.2.2.2.1.2.1, fun j h1 h2 => (e2 j (by omega)).trans (h.2.2.2.1.2.2 j h1 h2)⟩, (k 15 1 rfl).trans h.2.2.2.2⟩
/-- the day's number, in another place -/
theorem dq_I_day {a : am_MI} {x : Int32} (h : dq_I P u n m v a) : dq_I P u n m v (am_ui a 59 2 x) := by
  refine dq_I_D h (fun c j q => ?_) (fun j => am_ui_c (fun w => absurd w (by omega))) (fun j hj => am_ui_n (fun _ w => absurd w (by omega)))
  have q := of_decide_eq_false q
  exact am_ui_c (fun w => absurd w (by omega))
theorem dq_u0 (hq : dq_Q P u n m mi) {j : Nat} (hj : j < n) : ∃ p, 1 ≤ p ∧ p ≤ 24 ∧ u 0 j = nI p := by
  obtain ⟨p, p1, p2, e⟩ := hq.1.2.2.2 0 j (am_vd (by omega) hj)
  exact ⟨p, p1, p2, e⟩
/-- the doors of a day -/
theorem dl_762 (hcl : am_lawK K) (hn : n ≤ 12) (hm : m ≤ 5) (hm0 : 0 < m) (ht : t ≤ 24) (hnext : ∀ mi ml, dq_G P u n m v t n mi → K 804 [some (.ref 117), some (.ref 0), none, some (.int (nI n)), some (.int (nI m)), some (.long (S)), none, none, none, some (.int (nI (am_cnt (dq_op u t n) n))), some (.int (nI t)), none, none, none, none, none, none, none] [] mi ml) : ∀ d, d ≤ n → ∀ mi ml, dq_G P u n m v t d mi → K 762 [some (.ref 117), some (.ref 0), none, some (.int (nI n)), some (.int (nI m)), some (.long (S)), none, none, none, some (.int (nI (am_cnt (dq_op u t d) n))), some (.int (nI t)), some (.int (nI d)), none, none, none, none, none, none] [] mi ml := by
  refine am_for n _ (fun mi ml hB => lb_762 hcl (pk_le n n (fun _ => hnext mi ml hB) (fun w => absurd w (by omega)) rfl rfl)) (fun d hd ih mi ml hB => ?_)
  have h802 : ∀ mi ml, dq_G P u n m v t (d + 1) mi → K 802 [some (.ref 117), some (.ref 0), none, some (.int (nI n)), some (.int (nI m)), some (.long (S)), none, none, none, some (.int (nI (am_cnt (dq_op u t (d + 1)) n))), some (.int (nI t)), some (.int (nI d)), none, none, none, none, none, none] [] mi ml := by
    intro mi ml hB
    refine lb_802 hcl ?_
    rw [nI_1]
    exact ih mi ml hB
  have oth : ∀ j, ¬ j = d → dq_op u t (d + 1) j = dq_op u t d j := fun j ne => by
    unfold dq_op
    by_cases g : j < d
    · rw [decide_eq_decide]
      exact ⟨fun w => w.elim Or.inl (fun w => Or.inr ⟨w.1, g⟩), fun w => w.elim Or.inl (fun w => Or.inr ⟨w.1, by omega⟩)⟩
    · rw [decide_eq_decide]
      exact ⟨fun w => w.elim Or.inl (fun w => absurd w.2 (by omega)), fun w => w.elim Or.inl (fun w => absurd w.2 g)⟩
  refine lb_762 hcl (pk_le n d (fun w => absurd w (by omega)) (fun _ => ?_) rfl rfl)
  refine dq_122 (w := 0) hB.1.1.1.2.1 (am_vd (by omega) hd) rfl rfl (am_ri_i ⟨fun now => ?_, fun ne => ?_⟩)
  · have isf : dq_op u t d d = false := decide_eq_false (fun w => w.elim (fun w => by
      rw [now] at w
      have := (dq_lt (by omega) (by omega)).mp w
      omega) (fun w => absurd w.2 (Nat.lt_irrefl _)))
    have ist : dq_op u t (d + 1) d = true := decide_eq_true (Or.inr ⟨now, Nat.lt_succ_self _⟩)
    have ec := dq_cnt_1 isf ist oth n
    rw [if_pos hd] at ec
    have z60 : mi 60 d = -2 := by rw [hB.2.2.2.2.1 d hd, isf, if_neg (by decide)]
    refine lb_772 hcl (dq_126 (r := 0) hB.1.1 (by omega) hd (by rw [Nat.mul_zero, Nat.zero_add]) (fun m2 k2 q2 => am_ri_i ?_))
    have hB2 := dq_G_Z hB k2 q2
    have z602 : m2 60 d = -2 := (k2 60 d (dq_Z (by omega) (by omega))).trans z60
    obtain ⟨c, hc, eW⟩ := am_gvn_p (P := P) (u := u) (r := 0) hm0 d hd
    refine dq_146 q2 hc hd eW rfl (fun w => absurd z602 w) (fun _ m3 k3 q3 e60 e3 e4 _ => am_ri_i ?_)
    have hI3 := dq_I_P hB2.1 k3 q3
    have w3 : dq_opw P u c d (m2 59 2) = am_wo P u c d (u 2 d) (nI 0) := by
      unfold dq_opw
      rw [hB2.2.1, now, show nI t - nI t = 0 from Int32.sub_self _]
      rfl
    have hG3 : dq_G P u n m v t (d + 1) m3 := by
      refine ⟨hI3, (k3 59 2 rfl).trans hB2.2.1, ?_, ?_, fun j hj => ?_, fun j h1 h2 => ?_⟩
      · rw [e4, if_pos (by rw [hB2.2.1, now]; exact am_le_i.mpr (Int.le_refl _))]
        exact hB2.2.2.1
      · rw [e3, hB2.2.2.2.1, ec, nI_1]
      · rw [e60 j]
        by_cases ej : j = d
        · subst ej
          rw [dq_upd_k, ist, if_pos rfl, eW]
        · rw [dq_upd_n ej, oth j ej]
          exact hB2.2.2.2.2.1 j hj
      · rw [e60 j, dq_upd_n (show ¬ j = d by omega)]
        exact hB2.2.2.2.2.2 j h1 h2
    refine dq_125 (t := 0) q3 hc hd (by omega) eW (by rw [show (100 : Int32) = nI 100 from rfl, pk_mul]; rfl) (fun m4 k4 q4 => am_ri_i ⟨fun w => absurd w3 w, fun _ => ?_⟩)
    have hG4 := dq_G_Z hG3 k4 q4
    have z604 : m4 60 d = nI c := by rw [hG4.2.2.2.2.1 d hd, ist, if_pos rfl, eW]
    refine dq_146 q4 hc hd eW rfl (fun _ => am_ri_i ⟨fun w => absurd rfl w, fun _ => dq_122o hG4.1.1.1.2.1 hd rfl (am_ri_i ⟨fun _ => lb_801 hcl ?_, fun w => absurd (z604.trans eW.symm) w⟩)⟩) (fun w => absurd (z604.symm.trans w) (fun w => absurd (show nI c < 0 by rw [w]; decide) (dq_p (by omega))))
    rw [nI_1]
    have z := h802 m4 ml hG4
    rw [ec] at z
    exact z
  · have isf : dq_op u t (d + 1) d = dq_op u t d d := by
      unfold dq_op
      rw [decide_eq_decide]
      exact ⟨fun w => w.elim Or.inl (fun w => absurd w.1 ne), fun w => w.elim Or.inl (fun w => absurd w.1 ne)⟩
    have al : ∀ j, dq_op u t (d + 1) j = dq_op u t d j := fun j => by
      by_cases ej : j = d
      · subst ej
        exact isf
      · exact oth j ej
    have ef : dq_op u t (d + 1) = dq_op u t d := funext al
    have z := h802 mi ml
    unfold dq_G at z
    rw [ef] at z
    exact z hB
/-- the days -/
theorem dl_746 (hcl : am_lawK K) (hn : n ≤ 12) (hm : m ≤ 5) (hm0 : 0 < m) (hnext : ∀ mi ml, dq_G P u n m v 24 n mi → K 817 [some (.ref 117), some (.ref 0), none, some (.int (nI n)), some (.int (nI m)), some (.long (S)), none, none, none, some (.int (nI (am_cnt (dq_op u 24 n) n))), none, none, none, none, none, none, none, none] [] mi ml) : ∀ t, t ≤ 24 → ∀ mi ml, dq_G P u n m v t n mi → K 746 [some (.ref 117), some (.ref 0), none, some (.int (nI n)), some (.int (nI m)), some (.long (S)), none, none, none, some (.int (nI (am_cnt (dq_op u t n) n))), some (.int (nI (t + 1))), none, none, none, none, none, none, none] [] mi ml := by
  have m0 : ¬ nI m ≤ 0 := fun w => by
    have := (dq_le (b := 0) (by omega) (by omega)).mp w
    omega
  refine am_for 24 _ (fun mi ml hB => lb_746 hcl ⟨fun _ => hnext mi ml hB, fun w => absurd (by decide) w⟩) (fun t ht ih mi ml hB => ?_)
  refine lb_746 hcl (pk_le 25 (t + 1) (fun w => absurd w (by omega)) (fun _ => ⟨fun w => absurd w m0, fun _ => ?_⟩) rfl rfl)
  refine dq_145 (t := t) (by omega) hB.2.1 (fun w => absurd w (by omega)) (fun _ => am_ri_i ⟨fun w => absurd rfl w, fun _ => ?_⟩)
  generalize hmx : am_ui mi 59 2 (nI (t + 1)) = mx
  have same : ∀ j, j < n → dq_op u (t + 1) 0 j = dq_op u t n j := fun j hj => by
    obtain ⟨p, p1, p2, e⟩ := dq_u0 hB.1.1 hj
    unfold dq_op
    rw [decide_eq_decide, e, dq_lt (by omega) (by omega), dq_lt (by omega) (by omega), nI_eq (by omega) (by omega), nI_eq (by omega) (by omega)]
    omega
  have ec := dq_cnu n same
  have hI : dq_I P u n m v mx := by rw [← hmx]; exact dq_I_day hB.1
  have k60 : ∀ j, mx 60 j = mi 60 j := fun j => by rw [← hmx]; exact am_ui_c (by omega)
  have k59 : ∀ j, ¬ j = 2 → mx 59 j = mi 59 j := fun j h => by rw [← hmx]; exact am_ui_n (fun _ e => h e)
  have k592 : mx 59 2 = nI (t + 1) := by rw [← hmx]; exact am_ui_k
  have hG : dq_G P u n m v (t + 1) 0 mx := by
    refine ⟨hI, k592, (k59 4 (by omega)).trans hB.2.2.1, ?_, fun j hj => ?_, fun j h1 h2 => (k60 j).trans (hB.2.2.2.2.2 j h1 h2)⟩
    · rw [ec, k59 3 (by omega)]
      exact hB.2.2.2.1
    · rw [same j hj, k60 j]
      exact hB.2.2.2.2.1 j hj
  have fg : dq_fg n u (mx 60) (mx 59 2) = 0 := dq_bt_0 n (fun j hj => decide_eq_false (fun w => by
    obtain ⟨w1, w2⟩ := w
    rw [k592] at w2
    have ot : dq_op u (t + 1) 0 j = true := decide_eq_true (Or.inl w2)
    obtain ⟨c, hc, eW⟩ := am_gvn_p (P := P) (u := u) (r := 0) hm0 j hj
    rw [hG.2.2.2.2.1 j hj, ot, if_pos rfl, eW] at w1
    exact absurd (show nI c < 0 by rw [w1]; decide) (dq_p (by omega))))
  refine dq_147 hI.1.1.2.1 (am_ri_i ⟨fun _ => lb_760 hcl ?_, fun w => absurd fg w⟩)
  have z := dl_762 (P := P) (u := u) (v := v) (S := S) (t := t + 1) hcl hn hm hm0 (by omega) (fun m3 ml3 hG3 => lb_804 hcl (dq_148 (t := 0) (by omega) rfl (am_ri_i ⟨fun w => absurd hG3.2.2.2.1 w, fun _ => dq_148 (t := 1) (by omega) rfl (am_ri_i ⟨fun _ => lb_815 hcl (by rw [nI_1]; exact ih m3 ml3 hG3), fun w => absurd hG3.2.2.1 w⟩)⟩))) 0 (by omega) mx ml hG
  rw [ec] at z
  exact z
/-- behind the days -/
theorem dl_817 (hcl : am_lawK K) (hn : n ≤ 12) (hm : m ≤ 5) (hm0 : 0 < m) (hnext : ∀ mi ml, dq_I P u n m v mi → K 831 [some (.ref 117), some (.ref 0), none, some (.int (nI n)), some (.int (nI m)), some (.long (S)), none, none, none, none, none, none, none, none, none, none, none, none] [] mi ml) : ∀ mi ml, dq_G P u n m v 24 n mi → K 817 [some (.ref 117), some (.ref 0), none, some (.int (nI n)), some (.int (nI m)), some (.long (S)), none, none, none, some (.int (nI (am_cnt (dq_op u 24 n) n))), none, none, none, none, none, none, none, none] [] mi ml := by
  intro mi ml hG
  have m0 : ¬ nI m ≤ 0 := fun w => by
    have := (dq_le (b := 0) (by omega) (by omega)).mp w
    omega
  have al : ∀ j, j < n → dq_op u 24 n j = true := fun j hj => by
    obtain ⟨p, p1, p2, e⟩ := dq_u0 hG.1.1 hj
    refine decide_eq_true ?_
    rw [e, dq_lt (by omega) (by omega), nI_eq (by omega) (by omega)]
    omega
  have fg : dq_fg n u (mi 60) (mi 59 2) = 0 := dq_bt_0 n (fun j hj => decide_eq_false (fun w => by
    obtain ⟨c, hc, eW⟩ := am_gvn_p (P := P) (u := u) (r := 0) hm0 j hj
    have w1 := w.1
    rw [hG.2.2.2.2.1 j hj, al j hj, if_pos rfl, eW] at w1
    exact absurd (show nI c < 0 by rw [w1]; decide) (dq_p (by omega))))
  refine lb_817 hcl ⟨fun w => absurd w m0, fun _ => ⟨fun w => absurd (by rw [dq_cnt_a n al]) w, fun _ => dq_145 (t := 24) (by omega) hG.2.1 (fun _ => am_ri_i ⟨fun w => absurd rfl w, fun _ => dq_147 hG.1.1.1.2.1 (am_ri_i ⟨fun _ => hnext mi ml hG.1, fun w => absurd fg w⟩)⟩) (fun w => absurd w (by omega))⟩⟩
theorem dq_B_G (hB : dq_B P u n m v mi) : dq_G P u n m v 0 n mi ∧ am_cnt (dq_op u 0 n) n = 0 := by
  have no : ∀ j, j < n → dq_op u 0 n j = false := fun j hj => by
    obtain ⟨p, p1, p2, e⟩ := dq_u0 hB.1 hj
    refine decide_eq_false ?_
    rw [e, dq_lt (by omega) (by omega), nI_eq (by omega) (by omega)]
    omega
  have hn := hB.1.1.2.1.1
  have z : am_cnt (dq_op u 0 n) n = 0 := by
    rw [dq_cnu (p := fun _ => false) n no]
    clear no hB hn
    induction n with
    | zero => rfl
    | succ k ih => exact ih
  refine ⟨⟨dq_B_I hB, hB.2.2.2.1.2.2.1 2 (by omega) (by omega), hB.2.2.2.1.2.2.1 4 (by omega) (by omega), ?_, fun j hj => ?_, fun j _ h2 => hB.2.2.2.1.1 j h2⟩, z⟩
  · rw [z]
    exact hB.2.2.2.1.2.2.1 3 (by omega) (by omega)
  · rw [no j hj, if_neg (by decide)]
    exact hB.2.2.2.1.1 j (by omega)
/-- from the days' start to behind them -/
theorem dl_days (hcl : am_lawK K) (hn : n ≤ 12) (hm : m ≤ 5) (hnext : ∀ mi ml, dq_I P u n m v mi → K 831 [some (.ref 117), some (.ref 0), none, some (.int (nI n)), some (.int (nI m)), some (.long (S)), none, none, none, none, none, none, none, none, none, none, none, none] [] mi ml) (hB : dq_B P u n m v mi) : K 746 [some (.ref 117), some (.ref 0), none, some (.int (nI n)), some (.int (nI m)), some (.long (S)), none, none, none, some (.int (nI 0)), some (.int (nI 1)), none, none, none, none, none, none, none] [] mi ml := by
  by_cases hm0 : m = 0
  · subst hm0
    exact lb_746 hcl ⟨fun w => absurd w (by decide), fun _ => ⟨fun _ => lb_817 hcl ⟨fun _ => hnext mi ml (dq_B_I hB), fun w => absurd (by decide) w⟩, fun w => absurd (by decide) w⟩⟩
  · obtain ⟨hG, z⟩ := dq_B_G hB
    have y := dl_746 (P := P) (u := u) (v := v) (S := S) hcl hn hm (by omega) (dl_817 hcl hn hm (by omega) hnext) 0 (by omega) mi ml hG
    rw [z] at y
    exact y
/-- back -/
theorem dq_I_b {a : am_MI} (h : dq_I P u n m v a) (hR : ∀ m2, dq_B P u n m v m2 → R (some (.int 0)) m2 ml) : am_call (d + 2) 150 [.ref 0] a ml R :=
  dq_150 h.2.2.2.1.2.1 (fun m2 k2 e60 e61 e2 e3 e4 e5 e6 => by
    have z := h.2.2.2.1.2.2
    rw [z 9 (by omega) (by omega)]
    have hI := dq_I_D h k2 e61 e6
    refine hR m2 ⟨hI.1, hI.2.1, hI.2.2.1, ⟨fun j hj => (e60 j hj).trans (h.2.2.2.1.1 j hj), hI.2.2.2.1.1, fun j h1 h2 => ?_, hI.2.2.2.1.2.1, hI.2.2.2.1.2.2⟩, hI.2.2.2.2⟩
    rcases (show j = 2 ∨ j = 3 ∨ j = 4 ∨ j = 5 by omega) with e | e | e | e <;> subst e
    · exact e2.trans (z 8 (by omega) (by omega))
    · exact e3.trans (z 9 (by omega) (by omega))
    · exact e4.trans (z 10 (by omega) (by omega))
    · exact e5.trans (z 11 (by omega) (by omega)))
theorem dl_831 (hcl : am_lawK K) (hnext : ∀ mi ml, dq_J P u n m v 0 mi → K 843 [some (.ref 117), some (.ref 0), none, some (.int (nI n)), some (.int (nI m)), some (.long (dq_S P u n m)), none, none, none, none, some (.int (nI 0)), none, none, none, none, none, none, none] [] mi ml) (h : dq_I P u n m v mi) : K 831 [some (.ref 117), some (.ref 0), none, some (.int (nI n)), some (.int (nI m)), some (.long (dq_S P u n m)), none, none, none, none, none, none, none, none, none, none, none, none] [] mi ml := by
  refine lb_831 hcl (dq_I_b h (fun m2 hB2 => am_ri_i ⟨fun w => absurd rfl w, fun _ => dq_290B hB2 (fun m3 k3 hB3 => am_rj_i ?_)⟩))
  rw [dq_lc]
  exact ⟨fun _ => lb_841 hcl (hnext m3 ml ⟨dq_B_I hB3, ⟨0, by omega, hB3.2.2.2.1.2.2.1 2 (by omega) (by omega)⟩, fun j _ h2 => hB3.2.2.2.1.1 j h2⟩), fun w => absurd rfl w⟩
theorem dl_843 (hcl : am_lawK K) (hnext : ∀ mi ml, dq_J P u n m v 9 mi → K 874 [none, some (.ref 0), none, some (.int (nI n)), some (.int (nI m)), some (.long (S)), none, none, none, none, none, none, none, none, none, none, none, none] [] mi ml) : ∀ k, k ≤ 9 → ∀ mi ml, dq_J P u n m v k mi → K 843 [some (.ref 117), some (.ref 0), none, some (.int (nI n)), some (.int (nI m)), some (.long (S)), none, none, none, none, some (.int (nI k)), none, none, none, none, none, none, none] [] mi ml := by
  refine am_for 9 _ (fun mi ml hB => lb_843 hcl (pk_le 9 9 (fun _ => hnext mi ml hB) (fun w => absurd w (by omega)) rfl rfl)) (fun k hk ih mi ml hB => ?_)
  have h855 : ∀ mi ml, dq_J P u n m v (k + 1) mi → K 855 [some (.ref 117), some (.ref 0), none, some (.int (nI n)), some (.int (nI m)), some (.long (S)), none, none, none, none, some (.int (nI k)), none, none, none, none, none, none, none] [] mi ml := by
    intro mi ml hB
    refine lb_855 hcl (dq_288 (b := 26) (by omega) hB.1.1.2.1 (fun x => am_ri_i (dq_289 (k := 5) (by omega) (by omega) (fun c hc => am_ri_i (dq_288 (b := 27) (by omega) hB.1.1.2.1 (fun y => am_ri_i (dq_289 (k := 12) (by omega) (by omega) (fun i hi => am_ri_i (dq_146g hB.1.1 (by omega) (by omega) rfl rfl (fun w m2 k2 q2 e60 => am_ri_i ?_))))))))))
    rw [nI_1]
    obtain ⟨s, hs, es⟩ := hB.2.1
    exact ih m2 ml ⟨dq_I_P hB.1 k2 q2, ⟨s, hs, (k2 59 2 rfl).trans es⟩, fun j h1 h2 => (e60 j h1).trans (hB.2.2 j h1 h2)⟩
  obtain ⟨s, hs, es⟩ := hB.2.1
  refine lb_843 hcl (pk_le 9 k (fun w => absurd w (by omega)) (fun _ => ⟨by decide, fun _ => h855 mi ml ⟨hB.1, ⟨s, by omega, es⟩, hB.2.2⟩, fun _ => ?_⟩) rfl rfl)
  refine dq_145 (t := s) (by omega) es (fun w => absurd w (by omega)) (fun _ => am_ri_i ⟨fun _ => h855 _ ml ⟨dq_I_day hB.1, ⟨s + 1, by omega, am_ui_k⟩, fun j h1 h2 => (am_ui_c (by omega)).trans (hB.2.2 j h1 h2)⟩, fun w => absurd (nI_pos' (by omega)) w⟩)
theorem dq_pos {P : List (List Nat × List Nat)} {a b : Nat} {z x : Int32} : 0 ≤ am_wo P u a b z x := by
  have mx : ∀ y, (0 : Int32) ≤ am_max 0 y := fun y => by
    unfold am_max
    rw [am_le_i]
    split
    · rename_i g
      rw [am_lt_i] at g
      omega
    · rename_i g
      rw [am_lt_i] at g
      omega
  unfold am_wo
  split
  · exact mx _
  · exact mx _
/-- the end -/
theorem dl_898 (hcl : am_lawK K) {l10 : Int32} (hl : (l10 = -1 ∧ S = dq_S P u n m) ∨ ∃ i, i < n ∧ l10 = nI i) (hend : ∀ mi ml, K 929 [none, none, none, none, none, none, none, none, none, none, none, none, none, none, none, none, none, none] [.int 1] mi ml) (h : dq_I P u n m v mi) : K 898 [none, some (.ref 0), none, none, none, some (.long (S)), none, none, none, none, some (.int (l10)), none, none, none, none, none, none, none] [] mi ml := by
  refine lb_898 hcl (dq_I_b h (fun m2 hB => am_ri_i ⟨fun w => absurd rfl w, fun _ => ?_⟩))
  have z := hB.2.2.2.1.2.2.1
  have hn := hB.1.1.2.1.1
  refine dq_148 (t := 3) (by omega) rfl (am_ri_i ⟨fun w => absurd (z 2 (by omega) (by omega)) w, fun _ => dq_148 (t := 2) (by omega) rfl (am_ri_i ⟨fun w => absurd (z 5 (by omega) (by omega)) w, fun _ => ?_⟩)⟩)
  rcases hl with ⟨e, eS⟩ | ⟨i, hi, e⟩
  · subst e
    subst eS
    refine ⟨fun _ => lb_919 hcl ⟨fun w => absurd w (by decide), fun _ => dq_290B hB (fun m3 k3 hB3 => am_rj_i ?_)⟩, fun w => absurd (by decide) w⟩
    rw [dq_lc]
    exact ⟨fun w => absurd rfl w, fun _ => lb_926 hcl (hend m3 ml)⟩
  · subst e
    exact ⟨fun w => absurd w (dq_p (by omega)), fun _ => dq_122o hB.1.1.2.1 hi rfl (am_ri_i ⟨fun _ => lb_919 hcl ⟨fun _ => lb_926 hcl (hend m2 ml), fun w => absurd (nI_pos' (by omega)) w⟩, fun w => absurd (hB.2.2.2.1.1 i (by omega)) w⟩)⟩
theorem dl_874 (hcl : am_lawK K) (hm : m ≤ 5) (hv : v ≤ 1000) (hend : ∀ mi ml, K 929 [none, none, none, none, none, none, none, none, none, none, none, none, none, none, none, none, none, none] [.int 1] mi ml) (h : dq_J P u n m v 9 mi) : K 874 [none, some (.ref 0), none, some (.int (nI n)), some (.int (nI m)), some (.long (dq_S P u n m)), none, none, none, none, none, none, none, none, none, none, none, none] [] mi ml := by
  have hn := h.1.1.1.2.1.1
  obtain ⟨s, hs, es⟩ := h.2.1
  refine lb_874 hcl (pk_le 12 n (fun g => lb_882 hcl ⟨fun _ => dl_898 hcl (Or.inl ⟨rfl, rfl⟩) hend h.1, fun w => absurd (by decide) w⟩) (fun g => ?_) rfl rfl)
  refine dq_118 h.1.1 h.1.2.1 hv (by omega) (k1 := 9) (k2 := 3) (by omega) (by omega) (by omega) rfl rfl (fun m2 k2 q2 V2 _ e13 => am_ri_i ⟨fun w => absurd w (dq_p (by omega)), fun _ => ⟨fun w => absurd rfl w, fun _ => ?_⟩⟩)
  have hI2 : dq_I P (dq_ud u n 9 3) (n + 1) m (v + 3) m2 := ⟨q2, V2, dq_C_on h.1.2.2.1 e13, ⟨fun j hj => (k2 61 j rfl).trans (h.1.2.2.2.1.1 j hj), (k2 59 6 rfl).trans h.1.2.2.2.1.2.1, fun j a b => (k2 59 j rfl).trans (h.1.2.2.2.1.2.2 j a b)⟩, (k2 15 1 rfl).trans h.1.2.2.2.2⟩
  by_cases m0 : m = 0
  · subst m0
    exact ⟨fun _ => dl_898 hcl (Or.inr ⟨n, Nat.lt_succ_self _, rfl⟩) hend hI2, fun w => absurd (by decide) w⟩
  · refine ⟨fun w => absurd w (fun w => ?_), fun _ => ?_⟩
    · have := (dq_le (b := 0) (by omega) (by omega)).mp w
      omega
    · refine dq_146 q2 (c := 0) (i := n) (by omega) (Nat.lt_succ_self _) rfl rfl (fun w => absurd ((k2 60 n rfl).trans (h.2.2 n (Nat.le_refl _) (by omega))) w) (fun _ m3 k3 q3 _ _ _ _ => am_ri_i ⟨fun _ => dl_898 hcl (Or.inr ⟨n, Nat.lt_succ_self _, rfl⟩) hend (dq_I_P hI2 k3 q3), fun w => absurd dq_pos w⟩)
/-- behind the days, to the end -/
theorem dl_tail (hcl : am_lawK K) (hm : m ≤ 5) (hv : v ≤ 1000) (hend : ∀ mi ml, K 929 [none, none, none, none, none, none, none, none, none, none, none, none, none, none, none, none, none, none] [.int 1] mi ml) (h : dq_I P u n m v mi) : K 831 [some (.ref 117), some (.ref 0), none, some (.int (nI n)), some (.int (nI m)), some (.long (dq_S P u n m)), none, none, none, none, none, none, none, none, none, none, none, none] [] mi ml :=
  dl_831 hcl (dl_843 hcl (fun _ _ h3 => dl_874 hcl hm hv hend h3) 0 (by omega)) h
end SP85
