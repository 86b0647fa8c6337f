/-! the class's law: a step taken, lines worked out -/
def am_swd (mi : am_MI) : Prop := mi 126 1 = 0 ∧ ∀ j, j < 6 → mi 136 j = nI (am_chr j)
theorem am_swd_on {a b : am_MI} (h : am_swd a) (hk : am_kp am_F19 a b) : am_swd b := ⟨(hk 126 1 rfl).trans h.1, fun j hj => (hk 136 j rfl).trans (h.2 j hj)⟩
/-- a suffix of steps from a place on -/
def am_at (mi : am_MI) (i : Nat) (r : List Int32) : Prop := ∀ j, j < r.length → mi 18 (i + j) = r.getD j 0
theorem am_at_h {mi : am_MI} {i : Nat} {x : Int32} {r : List Int32} (h : am_at mi i (x :: r)) : mi 18 i = x := h 0 (Nat.succ_pos _)
theorem am_at_t {mi : am_MI} {i : Nat} {x : Int32} {r : List Int32} (h : am_at mi i (x :: r)) : am_at mi (i + 1) r := fun j hj => by
  have := h (j + 1) (Nat.succ_lt_succ hj)
  rw [show i + 1 + j = i + (j + 1) from by omega]
  exact this
theorem am_at_l {mi : am_MI} : ∀ {r s : List Int32} {i : Nat}, am_at mi i (r ++ s) → am_at mi i r ∧ am_at mi (i + r.length) s
  | [], _, _, h => ⟨fun _ hj => absurd hj (Nat.not_lt_zero _), h⟩
  | x :: r, s, i, h => by
    have z := am_at_l (r := r) (s := s) (i := i + 1) (am_at_t h)
    refine ⟨fun j hj => ?_, ?_⟩
    · cases j with
      | zero => exact am_at_h h
      | succ j =>
        have := z.1 j (Nat.lt_of_succ_lt_succ hj)
        rw [show i + (j + 1) = i + 1 + j from by omega]
        exact this
    · rw [show i + (x :: r).length = i + 1 + r.length from by rw [List.length_cons]; omega]
      exact z.2
theorem am_xc_n {t : Nat} (h : t < 18) : am_xc t = -(nI (am_chr t)) := if_pos h
theorem am_xc_v {t : Nat} (h : 18 ≤ t) : am_xc t = nI (t - 18) := if_neg (by omega)
theorem am_xc_i {t : Nat} (h : t < 18) : (am_xc t).toInt = -(am_chr t : Int) := by
  have := am_chr_r t h
  rw [am_xc_n h, am_neg_i (by omega)]
theorem am_xc_j {t : Nat} (h : 18 ≤ t) (h2 : t < 10018) : (am_xc t).toInt = (t : Int) - 18 := by
  rw [am_xc_v h, am_ti (by omega)]
  omega
theorem am_xc_59 {t : Nat} (h2 : t < 10018) : am_xc t ≠ -59 ∧ am_xc t ≠ -63 := by
  by_cases h : t < 18
  · have := am_chr_r t h
    refine ⟨fun e => ?_, fun e => ?_⟩
    · rw [am_eq_i, am_xc_i h, am_lm59] at e
      omega
    · rw [am_eq_i, am_xc_i h, am_lm63] at e
      omega
  · refine ⟨fun e => ?_, fun e => ?_⟩
    · rw [am_eq_i, am_xc_j (by omega) h2, am_lm59] at e
      omega
    · rw [am_eq_i, am_xc_j (by omega) h2, am_lm63] at e
      omega
section SP37
variable {d : Nat} {mi : am_MI} {ml : am_ML} {R : am_R}
theorem am_swi (hw : am_swd mi) {t : Nat} (ht : t < 18) : am_ix (mi 136) (nI (am_chr t)) 0 (am_n 136) = if t < 6 then nI t else -1 := by
  have e : am_n 136 = 6 := rfl
  rw [e, am_ix_c (w2 := fun j => nI (am_chr j)) 6 0 (fun j _ hj => hw.2 j (by omega))]
  exact am_ixw t ht
/-- a step taken -/
theorem sp_79 {σ : Nat → Int32} {t : Nat} {q : Nat × (Nat → Int32)} {x : Int32} (hw : am_swd mi) (hσ : ∀ t, t < 6 → mi 21 t = σ t) (hd : am_dk t q.1) (hq : q.1 < 121) (ht : t < 10018) (hx : x = am_xc t) (h9 : mi 15 9 = nI q.1) (hs : ∀ j, j < q.1 → mi 19 j = q.2 j)
    (h : ∀ m2, am_kp am_F19 mi m2 → m2 15 9 = nI (am_tk σ t q).1 → (∀ j, j < (am_tk σ t q).1 → m2 19 j = (am_tk σ t q).2 j) → R none m2 ml) : am_call (d + 5) 79 [.ref 15, .int x, .ref 21] mi ml R := by
  subst hx
  by_cases c1 : 18 ≤ t
  · have e := am_xc_j c1 ht
    refine bk_79 ⟨fun w => ?_, fun _ => ?_⟩
    · rw [am_lt_i, e, am_l0] at w
      omega
    · refine sp_81 hq h9 (fun m2 k2 n2 s2 => am_rv_i (h m2 k2 ?_ (fun j hj => ?_)))
      · rw [n2]
        unfold am_tk
        rw [if_neg (by omega), if_pos c1]
      · rw [s2, am_xc_v c1]
        unfold am_tk at hj ⊢
        rw [if_neg (by omega), if_pos c1] at hj ⊢
        show upd (mi 19) q.1 _ j = upd q.2 q.1 _ j
        unfold upd
        by_cases e : j = q.1
        · rw [if_pos e, if_pos e]
        · rw [if_neg e, if_neg e]
          exact hs j (by omega)
  · have c1 : t < 18 := by omega
    have cr := am_chr_r t c1
    have neg : am_xc t < 0 := by
      rw [am_lt_i, am_xc_i c1, am_l0]
      omega
    have ec : am_i2c (-(am_xc t)) = nI (am_chr t) := by
      rw [am_xc_n c1, am_neg_neg]
      exact am_i2c_k _ (by omega)
    refine bk_79 ⟨fun _ => ?_, fun w => absurd neg w⟩
    refine sp_277 (b := 136) rfl rfl rfl (by decide) (by decide) hw.1 ec (by omega) (am_ri_i ?_)
    rw [am_swi hw c1]
    by_cases c2 : t < 6
    · rw [if_pos c2]
      have e6 : am_len mi 21 = 6 := rfl
      refine ⟨fun w => ?_, fun _ => am_need_i rfl ⟨fun w => ?_, fun _ => am_need_i rfl ⟨?_, ?_⟩⟩⟩
      · rw [am_lt_i, am_ti (by omega), am_l0] at w
        omega
      · rw [e6, am_le_i, am_ti (by omega)] at w
        have : (Int32.ofNat 6).toInt = 6 := rfl
        omega
      · rw [e6]
        exact vp_in_nI (by omega) (by omega)
      · rw [nI_clamp (by omega), hσ t c2]
        refine sp_81 hq h9 (fun m2 k2 n2 s2 => am_rv_i (h m2 k2 ?_ (fun j hj => ?_)))
        · rw [n2]
          unfold am_tk
          rw [if_pos c2]
        · rw [s2]
          unfold am_tk at hj ⊢
          rw [if_pos c2] at hj ⊢
          show upd (mi 19) q.1 _ j = upd q.2 q.1 _ j
          unfold upd
          by_cases e : j = q.1
          · rw [if_pos e, if_pos e]
          · rw [if_neg e, if_neg e]
            exact hs j (by omega)
    · rw [if_neg c2]
      refine ⟨fun _ => ?_, fun w => absurd (by decide) w⟩
      have h1 : 1 ≤ q.1 := by
        unfold am_dk at hd
        omega
      refine sp_82 h1 (by omega) h9 (fun m2 k2 n2 s2 => am_ri_i ?_)
      rw [hs (q.1 - 1) (by omega)]
      -- one place: not, minus
      have un : ∀ v : Int32, (am_tk σ t q) = (q.1, upd q.2 (q.1 - 1) v) → am_call (d + 4) 81 [.ref 15, .int v] m2 ml (am_rv fun m3 l3 => R none m3 l3) := by
        intro v ev
        refine sp_81 (n := q.1 - 1) (by omega) n2 (fun m3 k3 n3 s3 => am_rv_i (h m3 (am_kp_t k2 k3) ?_ (fun j hj => ?_)))
        · rw [n3, ev]
          show nI (q.1 - 1 + 1) = nI q.1
          rw [show q.1 - 1 + 1 = q.1 from by omega]
        · rw [ev] at hj ⊢
          have hj : j < q.1 := hj
          rw [s3]
          show upd (m2 19) (q.1 - 1) v j = upd q.2 (q.1 - 1) v j
          unfold upd
          by_cases e : j = q.1 - 1
          · rw [if_pos e, if_pos e]
          · rw [if_neg e, if_neg e, s2 j]
            exact hs j hj
      refine ⟨fun w => ⟨fun w2 => ?_, fun w2 => ?_⟩, fun w => ?_⟩
      · have n17 : ¬ t = 17 := fun e => w (by rw [e]; rfl)
        have n16 : ¬ t = 16 := fun e => w2 (by rw [e]; rfl)
        have h2 : 2 ≤ q.1 := by
          unfold am_dk at hd
          omega
        refine sp_82 (n := q.1 - 1) (by omega) (by omega) n2 (fun m3 k3 n3 s3 => am_ri_i ?_)
        rw [s2, hs (q.1 - 1 - 1) (by omega), show q.1 - 1 - 1 = q.1 - 2 from by omega]
        refine sp_80 (t := t) (by omega) (by omega) (by rw [am_xc_n c1, am_neg_neg]) (am_ri_i ?_)
        have ev : am_tk σ t q = (q.1 - 1, upd q.2 (q.1 - 2) (am_bin t (q.2 (q.1 - 2)) (q.2 (q.1 - 1)))) := by
          unfold am_tk
          rw [if_neg c2, if_neg (by omega), if_neg n16, if_neg n17]
        refine sp_81 (n := q.1 - 1 - 1) (by omega) n3 (fun m4 k4 n4 s4 => am_rv_i (h m4 (am_kp_t k2 (am_kp_t k3 k4)) ?_ (fun j hj => ?_)))
        · rw [n4, ev]
          show nI (q.1 - 1 - 1 + 1) = nI (q.1 - 1)
          rw [show q.1 - 1 - 1 + 1 = q.1 - 1 from by omega]
        · rw [ev] at hj ⊢
          have hj : j < q.1 - 1 := hj
          rw [s4, show q.1 - 1 - 1 = q.1 - 2 from by omega]
          show upd (m3 19) (q.1 - 2) _ j = upd q.2 (q.1 - 2) _ j
          unfold upd
          by_cases e : j = q.1 - 2
          · rw [if_pos e, if_pos e]
          · rw [if_neg e, if_neg e, s3 j, s2 j]
            exact hs j (by omega)
      · have w2 := Decidable.not_not.mp w2
        have e16 : t = 16 := by
          rw [am_eq_i, am_xc_i c1, am_lm33] at w2
          exact am_chr_i t c1 16 (by decide) (by show am_chr t = 33; omega)
        have ev : ∀ v, v = (if q.2 (q.1 - 1) = 0 then (1 : Int32) else 0) → am_tk σ t q = (q.1, upd q.2 (q.1 - 1) v) := by
          intro v ev
          rw [ev]
          unfold am_tk
          rw [if_neg c2, if_neg (by omega), if_pos e16]
        exact ⟨fun z => un 0 (ev 0 (by rw [if_neg z])), fun z => un 1 (ev 1 (by rw [if_pos (Decidable.not_not.mp z)]))⟩
      · have w := Decidable.not_not.mp w
        have e17 : t = 17 := by
          rw [am_eq_i, am_xc_i c1, am_lm126] at w
          exact am_chr_i t c1 17 (by decide) (by show am_chr t = 126; omega)
        refine un _ ?_
        unfold am_tk
        rw [if_neg c2, if_neg (by omega), if_neg (by omega), if_pos e17]
/-- the steps of lines: conditions (or none) and what they give -/
def am_xl : List (List Nat × List Nat) → List Int32
  | [] => []
  | (c, e) :: r => (match c with
    | [] => []
    | t :: c => (t :: c).map am_xc ++ [-63]) ++ (e.map am_xc ++ ((-59) :: am_xl r))
def am_lwf : List (List Nat × List Nat) → Prop
  | [] => True
  | (c, e) :: r => (c = [] ∨ am_wf c) ∧ am_wf e ∧ am_lwf r
/-- what lines give -/
def am_lw (σ : Nat → Int32) : List (List Nat × List Nat) → Int32
  | [] => 0
  | (c, e) :: r => if c = [] ∨ ¬ am_val1 σ c = 0 then am_val1 σ e else am_lw σ r
/-- tokens worked -/
theorem sp_78t {σ : Nat → Int32} {m : am_MI} {K : Nat} (hw : am_swd m) (hσ : ∀ t, t < 6 → m 21 t = σ t) (h6 : m 15 6 = nI K) (hK : K ≤ 121) : ∀ (r : List Nat) (i : Nat) (q : Nat × (Nat → Int32)), am_wfp r q.1 → q.1 ≤ i → am_at m i (r.map am_xc) → i + r.length ≤ K →
    ∀ m2, am_kp am_F19 m m2 → m2 15 9 = nI q.1 → (∀ j, j < q.1 → m2 19 j = q.2 j) →
    (∀ m3, am_kp am_F19 m m3 → m3 15 9 = nI (am_run σ r q).1 → (∀ j, j < (am_run σ r q).1 → m3 19 j = (am_run σ r q).2 j) → am_wp (am_call (d + 5)) mt_78 R 7 [some (.ref 15), some (.ref 21), some (.int 0), some (.int (nI (i + r.length))), none] [] m3 ml) →
    am_wp (am_call (d + 5)) mt_78 R 7 [some (.ref 15), some (.ref 21), some (.int 0), some (.int (nI i)), none] [] m2 ml
  | [], i, q, _, _, _, _, m2, k2, n2, s2, h => h m2 k2 n2 s2
  | t :: r, i, q, hwf, hq, hat, hl, m2, k2, n2, s2, h => by
    have hl' : i + (r.length + 1) ≤ K := hl
    obtain ⟨w1, w2, w3⟩ := hwf
    have e6 : m2 15 6 = nI K := (k2 15 6 rfl).trans h6
    have et : m2 18 (nI i).toNatClampNeg = am_xc t := by
      rw [nI_clamp (by omega), k2 18 i rfl]
      exact am_at_h hat
    have x59 := am_xc_59 (t := t) w2
    refine bk_78_7 ?_
    rw [e6, et]
    refine pk_le K i (fun w => absurd w (by omega)) (fun _ => ⟨vp_in_nI (by omega) (by omega), ⟨fun _ => ⟨fun _ => am_nn ?_, fun w => absurd x59.2 w⟩, fun w => absurd x59.1 w⟩⟩) rfl rfl
    refine sp_79 (σ := σ) (t := t) (q := q) (am_swd_on hw k2) (fun j hj => (k2 21 j rfl).trans (hσ j hj)) w1 (by omega) w2 rfl n2 s2 (fun m3 k3 n3 s3 => am_rv_i ?_)
    rw [nI_1]
    refine sp_78t hw hσ h6 hK r (i + 1) (am_tk σ t q) (by rw [am_tk_n]; exact w3) ?_ (am_at_t hat) (by omega) m3 (am_kp_t k2 k3) n3 s3 (fun m4 k4 n4 s4 => ?_)
    · rw [am_tk_n]
      have := am_dn_le t q.1
      omega
    · have z := h m4 k4 n4 s4
      rw [show i + (t :: r).length = i + 1 + r.length from by rw [List.length_cons]; omega] at z
      exact z
/-- tokens passed over -/
theorem sp_78s {m : am_MI} {K : Nat} (h6 : m 15 6 = nI K) (hK : K ≤ 121) : ∀ (r : List Nat) (i : Nat), (∀ t, t ∈ r → t < 10018) → am_at m i (r.map am_xc) → i + r.length ≤ K →
    am_wp (am_call (d + 5)) mt_78 R 7 [some (.ref 15), some (.ref 21), some (.int 1), some (.int (nI (i + r.length))), none] [] m ml →
    am_wp (am_call (d + 5)) mt_78 R 7 [some (.ref 15), some (.ref 21), some (.int 1), some (.int (nI i)), none] [] m ml
  | [], i, _, _, _, h => h
  | t :: r, i, hb, hat, hl, h => by
    have hl' : i + (r.length + 1) ≤ K := hl
    have et : m 18 (nI i).toNatClampNeg = am_xc t := by
      rw [nI_clamp (by omega)]
      exact am_at_h hat
    have x59 := am_xc_59 (t := t) (hb t (List.mem_cons_self ..))
    refine bk_78_7 ?_
    rw [h6, et]
    refine pk_le K i (fun w => absurd w (by omega)) (fun _ => ⟨vp_in_nI (by omega) (by omega), ⟨fun _ => ⟨fun _ => am_yn ?_, fun w => absurd x59.2 w⟩, fun w => absurd x59.1 w⟩⟩) rfl rfl
    rw [nI_1]
    refine sp_78s h6 hK r (i + 1) (fun t ht => hb t (List.mem_cons_of_mem _ ht)) (am_at_t hat) (by omega) ?_
    rw [show i + (t :: r).length = i + 1 + r.length from by rw [List.length_cons]; omega] at h
    exact h
theorem am_wfp_b : ∀ (r : List Nat) (n : Nat), am_wfp r n → ∀ t, t ∈ r → t < 10018
  | [], _, _, _, h => absurd h (List.not_mem_nil)
  | a :: r, n, hw, t, h => by
    rcases List.mem_cons.mp h with e | e
    · rw [e]
      exact hw.2.1
    · exact am_wfp_b r _ hw.2.2 t e
end SP37
