/-! what a law's line is worth: tokens by the reference's codes, worked on a stack (depth, places) -/
def am_bin (t : Nat) (x y : Int32) : Int32 :=
  if t = 6 then (if x = 0 ∧ y = 0 then 0 else 1) else if t = 7 then (if x = 0 ∨ y = 0 then 0 else 1) else if t = 8 then (if x < y then 1 else 0) else if t = 9 then (if x = y then 1 else 0) else if t = 10 then (if y < x then 1 else 0) else
  if t = 11 then x + y else if t = 12 then x - y else if t = 13 then x * y else if t = 14 then (if y = 0 then 0 else x / y) else (if y = 0 then 0 else am_rem x y)
/-- a token: a name (0 to 5), of two (6 to 15), not (16), minus (17), a number (18 and on) -/
def am_tk (σ : Nat → Int32) (t : Nat) (q : Nat × (Nat → Int32)) : Nat × (Nat → Int32) :=
  if t < 6 then (q.1 + 1, upd q.2 q.1 (σ t)) else if 18 ≤ t then (q.1 + 1, upd q.2 q.1 (nI (t - 18))) else if t = 16 then (q.1, upd q.2 (q.1 - 1) (if q.2 (q.1 - 1) = 0 then 1 else 0)) else if t = 17 then (q.1, upd q.2 (q.1 - 1) (-(q.2 (q.1 - 1)))) else
  (q.1 - 1, upd q.2 (q.1 - 2) (am_bin t (q.2 (q.1 - 2)) (q.2 (q.1 - 1))))
def am_dk (t n : Nat) : Prop := t < 6 ∨ 18 ≤ t ∨ ((t = 16 ∨ t = 17) ∧ 1 ≤ n) ∨ (6 ≤ t ∧ t < 16 ∧ 2 ≤ n)
def am_dn (t n : Nat) : Nat := if t < 6 then n + 1 else if 18 ≤ t then n + 1 else if t = 16 then n else if t = 17 then n else n - 1
def am_wfp : List Nat → Nat → Prop
  | [], _ => True
  | t :: r, n => am_dk t n ∧ t < 10018 ∧ am_wfp r (am_dn t n)
def am_dns : List Nat → Nat → Nat
  | [], n => n
  | t :: r, n => am_dns r (am_dn t n)
def am_run (σ : Nat → Int32) : List Nat → Nat × (Nat → Int32) → Nat × (Nat → Int32)
  | [], q => q
  | t :: r, q => am_run σ r (am_tk σ t q)
/-- a whole expression -/
def am_wf (l : List Nat) : Prop := am_wfp l 0 ∧ am_dns l 0 = 1
def am_val1 (σ : Nat → Int32) (l : List Nat) : Int32 := (am_run σ l (0, fun _ => 0)).2 0
theorem am_tk_n {σ : Nat → Int32} {t : Nat} {q : Nat × (Nat → Int32)} : (am_tk σ t q).1 = am_dn t q.1 := by
  unfold am_tk am_dn
  split
  · rfl
  · split
    · rfl
    · split
      · rfl
      · split <;> rfl
theorem am_run_n {σ : Nat → Int32} : ∀ (l : List Nat) (q : Nat × (Nat → Int32)), (am_run σ l q).1 = am_dns l q.1
  | [], _ => rfl
  | t :: r, q => by
    show (am_run σ r (am_tk σ t q)).1 = am_dns r (am_dn t q.1)
    rw [am_run_n r, am_tk_n]
/-- only the places below the depth count -/
theorem am_tk_c {σ σ2 : Nat → Int32} {t : Nat} {q p : Nat × (Nat → Int32)} (hσ : ∀ i, i < 6 → σ i = σ2 i) (hd : am_dk t q.1) (e : q.1 = p.1) (h : ∀ j, j < q.1 → q.2 j = p.2 j) : ∀ j, j < (am_tk σ t q).1 → (am_tk σ t q).2 j = (am_tk σ2 t p).2 j := by
  intro j
  rw [am_tk_n]
  obtain ⟨n, f⟩ := q
  obtain ⟨n2, g⟩ := p
  simp only at e
  subst e
  simp only at h hd ⊢
  unfold am_dk at hd
  unfold am_tk am_dn upd
  intro hj
  by_cases c1 : t < 6
  · simp only [if_pos c1] at hj ⊢
    by_cases ej : j = n
    · rw [if_pos ej, if_pos ej, hσ t c1]
    · rw [if_neg ej, if_neg ej, h j (by omega)]
  · simp only [if_neg c1] at hj ⊢
    by_cases c2 : 18 ≤ t
    · simp only [if_pos c2] at hj ⊢
      by_cases ej : j = n
      · rw [if_pos ej, if_pos ej]
      · rw [if_neg ej, if_neg ej, h j (by omega)]
    · simp only [if_neg c2] at hj ⊢
      by_cases c3 : t = 16
      · simp only [if_pos c3] at hj ⊢
        by_cases ej : j = n - 1
        · have e1 : f (n - 1) = g (n - 1) := h (n - 1) (by omega)
          rw [if_pos ej, if_pos ej]
          show (if f (n - 1) = 0 then (1 : Int32) else 0) = if g (n - 1) = 0 then 1 else 0
          simp only [e1]
        · rw [if_neg ej, if_neg ej, h j (by omega)]
      · simp only [if_neg c3] at hj ⊢
        by_cases c4 : t = 17
        · simp only [if_pos c4] at hj ⊢
          by_cases ej : j = n - 1
          · have e1 := h (n - 1) (by omega)
            rw [if_pos ej, if_pos ej, e1]
          · rw [if_neg ej, if_neg ej, h j (by omega)]
        · simp only [if_neg c4] at hj ⊢
          by_cases ej : j = n - 2
          · rw [if_pos ej, if_pos ej, h (n - 2) (by omega), h (n - 1) (by omega)]
          · rw [if_neg ej, if_neg ej, h j (by omega)]
theorem am_run_c {σ σ2 : Nat → Int32} (hσ : ∀ i, i < 6 → σ i = σ2 i) : ∀ (l : List Nat) (q p : Nat × (Nat → Int32)), am_wfp l q.1 → q.1 = p.1 → (∀ j, j < q.1 → q.2 j = p.2 j) → ∀ j, j < (am_run σ l q).1 → (am_run σ l q).2 j = (am_run σ2 l p).2 j
  | [], _, _, _, _, h => h
  | t :: r, q, p, hw, e, h => by
    refine am_run_c hσ r (am_tk σ t q) (am_tk σ2 t p) ?_ ?_ (am_tk_c hσ hw.1 e h)
    · rw [am_tk_n]
      exact hw.2.2
    · rw [am_tk_n, am_tk_n, e]
theorem am_val1_c {σ σ2 : Nat → Int32} {l : List Nat} (hσ : ∀ i, i < 6 → σ i = σ2 i) (hw : am_wf l) (f : Nat → Int32) : (am_run σ l (0, f)).2 0 = am_val1 σ2 l := by
  refine am_run_c hσ l (0, f) (0, fun _ => 0) hw.1 rfl (fun j hj => absurd hj (Nat.not_lt_zero _)) 0 ?_
  rw [am_run_n, hw.2]
  exact Nat.lt_succ_self 0
/-- the depth never passes the number of tokens -/
theorem am_dn_le (t n : Nat) : am_dn t n ≤ n + 1 := by
  unfold am_dn
  split
  · omega
  · split
    · omega
    · split
      · omega
      · split <;> omega
section SP35
variable {d : Nat} {mi : am_MI} {ml : am_ML} {R : am_R}
/-- both -/
theorem sp_202 {x y z : Int32} {t : Nat} (h6 : 6 ≤ t) (h16 : t < 16) (hx : x = nI t) (h : R (some (.int (am_bin t y z))) mi ml) : am_call (d + 1) 202 [.int x, .int y, .int z] mi ml R := by
  subst hx
  have e : ∀ k : Nat, k < 100 → nI t = nI k → t = k := fun k hk e => (nI_eq (by omega) (by omega)).mp e
  have n : ∀ k : Nat, ¬ nI t = nI k → ¬ t = k := fun k h e => h (by rw [e])
  unfold am_bin at h
  refine bk_202 ⟨fun w => ?_, fun w6 => ⟨fun w => ?_, fun w7 => ⟨fun w => ?_, fun w8 => ⟨fun w => ?_, fun w9 => ⟨fun w => ?_, fun w10 => ⟨fun w => ?_, fun w11 => ⟨fun w => ?_, fun w12 => ⟨fun w => ?_, fun w13 => ⟨fun w => ?_, fun w14 => ?_⟩⟩⟩⟩⟩⟩⟩⟩⟩
  · rw [if_pos (e 6 (by omega) w)] at h
    refine ⟨fun q => ?_, fun q => ⟨fun q2 => ?_, fun q2 => ?_⟩⟩
    · rw [if_neg (fun q2 => q q2.1)] at h
      exact h
    · rw [if_pos ⟨Decidable.not_not.mp q, q2⟩] at h
      exact h
    · rw [if_neg (fun q3 => q2 q3.2)] at h
      exact h
  · rw [if_neg (n 6 w6), if_pos (e 7 (by omega) w)] at h
    refine ⟨fun q => ?_, fun q => ⟨fun q2 => ?_, fun q2 => ?_⟩⟩
    · rw [if_pos (Or.inl q)] at h
      exact h
    · rw [if_pos (Or.inr q2)] at h
      exact h
    · rw [if_neg (fun q3 => q3.elim q q2)] at h
      exact h
  · rw [if_neg (n 6 w6), if_neg (n 7 w7), if_pos (e 8 (by omega) w)] at h
    refine ⟨fun q => ?_, fun q => ?_⟩
    · rw [if_neg (by rw [am_le_i] at q; rw [am_lt_i]; omega)] at h
      exact h
    · rw [if_pos (by rw [am_le_i] at q; rw [am_lt_i]; omega)] at h
      exact h
  · rw [if_neg (n 6 w6), if_neg (n 7 w7), if_neg (n 8 w8), if_pos (e 9 (by omega) w)] at h
    refine ⟨fun q => ?_, fun q => ?_⟩
    · rw [if_neg q] at h
      exact h
    · rw [if_pos (Decidable.not_not.mp q)] at h
      exact h
  · rw [if_neg (n 6 w6), if_neg (n 7 w7), if_neg (n 8 w8), if_neg (n 9 w9), if_pos (e 10 (by omega) w)] at h
    refine ⟨fun q => ?_, fun q => ?_⟩
    · rw [if_neg (by rw [am_le_i] at q; rw [am_lt_i]; omega)] at h
      exact h
    · rw [if_pos (by rw [am_le_i] at q; rw [am_lt_i]; omega)] at h
      exact h
  · rw [if_neg (n 6 w6), if_neg (n 7 w7), if_neg (n 8 w8), if_neg (n 9 w9), if_neg (n 10 w10), if_pos (e 11 (by omega) w)] at h
    exact h
  · rw [if_neg (n 6 w6), if_neg (n 7 w7), if_neg (n 8 w8), if_neg (n 9 w9), if_neg (n 10 w10), if_neg (n 11 w11), if_pos (e 12 (by omega) w)] at h
    exact h
  · rw [if_neg (n 6 w6), if_neg (n 7 w7), if_neg (n 8 w8), if_neg (n 9 w9), if_neg (n 10 w10), if_neg (n 11 w11), if_neg (n 12 w12), if_pos (e 13 (by omega) w)] at h
    exact h
  · rw [if_neg (n 6 w6), if_neg (n 7 w7), if_neg (n 8 w8), if_neg (n 9 w9), if_neg (n 10 w10), if_neg (n 11 w11), if_neg (n 12 w12), if_neg (n 13 w13), if_pos (e 14 (by omega) w)] at h
    refine ⟨fun q => ⟨q, ?_⟩, fun q => ?_⟩
    · rw [if_neg q] at h
      exact h
    · rw [if_pos (Decidable.not_not.mp q)] at h
      exact h
  · rw [if_neg (n 6 w6), if_neg (n 7 w7), if_neg (n 8 w8), if_neg (n 9 w9), if_neg (n 10 w10), if_neg (n 11 w11), if_neg (n 12 w12), if_neg (n 13 w13), if_neg (n 14 w14)] at h
    refine ⟨fun q => ⟨q, ?_⟩, fun q => ?_⟩
    · rw [if_neg q] at h
      exact h
    · rw [if_pos (Decidable.not_not.mp q)] at h
      exact h
def am_F98 : Nat → Nat → Bool := fun c _ => decide (c = 98)
/-- worked -/
theorem sp_203 {x y : Int32} {σ : Nat → Int32} {a : Nat} {l : List Nat} (hx : x = nI a) (hy : y = nI (a + l.length)) (hl : a + l.length ≤ 200) (hc : ∀ j, j < l.length → mi 93 (a + j) = nI (l.getD j 0)) (hσ : ∀ t, t < 6 → mi 99 t = σ t) (hw : am_wf l)
    (h : ∀ mi2, am_kp am_F98 mi mi2 → R (some (.int (am_val1 σ l))) mi2 ml) : am_call (d + 2) 203 [.ref 78, .int x, .int y] mi ml R := by
  subst hx
  subst hy
  have loop : ∀ (r : List Nat) (k : Nat) (q : Nat × (Nat → Int32)), k + r.length = l.length → (∀ j, j < r.length → r.getD j 0 = l.getD (k + j) 0) → am_wfp r q.1 → am_dns r q.1 = 1 → q.1 ≤ k → (∀ f, (am_run σ r q).2 0 = f → f = am_val1 σ l) → ∀ m2 : am_MI, am_kp am_F98 mi m2 → (∀ j, j < q.1 → m2 98 j = q.2 j) →
      am_wp (am_call (d + 1)) mt_203 R 4 [some (.ref 78), none, some (.int (nI (a + l.length))), some (.int (nI q.1)), some (.int (nI (a + k))), none] [] m2 ml := by
    intro r
    induction r with
    | nil =>
      intro k q e1 e2 hwf hd hq hv m2 k2 s2
      have ek : a + k = a + l.length := by simp at e1; omega
      rw [ek]
      refine bk_203_4 (pk_le (a + l.length) (a + l.length) (fun _ => ⟨am_vp (by decide) (by decide), ?_⟩) (fun w => absurd w (Nat.lt_irrefl _)) rfl rfl)
      have d1 : q.1 = 1 := hd
      have z := s2 0 (by omega)
      rw [show (0 : Int32).toNatClampNeg = 0 from rfl, z, hv (q.2 0) rfl]
      exact h m2 k2
    | cons t r ih =>
      intro k q e1 e2 hwf hd hq hv m2 k2 s2
      obtain ⟨w1, w2, w3⟩ := hwf
      have hk : k < l.length := by simp at e1; omega
      have hk200 : a + k < 200 := by omega
      have et : m2 93 (a + k) = nI t := by
        rw [k2 93 (a + k) rfl, hc k hk]
        have e3 : t = l.getD (k + 0) 0 := e2 0 (Nat.succ_pos _)
        rw [e3, Nat.add_zero]
      have hcl : (nI (a + k)).toNatClampNeg = a + k := nI_clamp (by omega)
      have ft : (nI t).toInt = t := am_ti (by omega)
      -- on to the next token, once the stack holds what the token leaves
      have nx : ∀ m3 : am_MI, am_kp am_F98 mi m3 → (∀ j, j < (am_tk σ t q).1 → m3 98 j = (am_tk σ t q).2 j) → am_wp (am_call (d + 1)) mt_203 R 4 [some (.ref 78), none, some (.int (nI (a + l.length))), some (.int (nI (am_tk σ t q).1)), some (.int (nI (a + k) + 1)), none] [] m3 ml := by
        intro m3 k3 s3
        rw [nI_1]
        refine ih (k + 1) (am_tk σ t q) (by simp at e1; omega) (fun j hj => ?_) (by rw [am_tk_n]; exact w3) (by rw [am_tk_n]; exact hd) ?_ hv m3 k3 s3
        · have e3 : r.getD j 0 = l.getD (k + (j + 1)) 0 := e2 (j + 1) (Nat.succ_lt_succ hj)
          rw [e3, show k + (j + 1) = k + 1 + j from by omega]
        · rw [am_tk_n]
          have := am_dn_le t q.1
          omega
      have st1 : ∀ v : Int32, (∀ j, (am_tk σ t q).2 j = upd q.2 q.1 v j) → (am_tk σ t q).1 = q.1 + 1 → am_wp (am_call (d + 1)) mt_203 R 33 [some (.ref 78), none, some (.int (nI (a + l.length))), some (.int (nI q.1 + 1)), some (.int (nI (a + k))), none] [.int v, .int (nI q.1), .ref 98] m2 ml := by
        intro v hv2 hn
        refine bk_203_33 ⟨vp_in_nI (by omega) (by omega), bk_203_88 ?_⟩
        have z := nx (am_ui m2 98 q.1 v) (am_kp_u k2 rfl) (fun j hj => by
          rw [hv2]
          unfold upd
          by_cases e : j = q.1
          · rw [if_pos e, e, am_ui_k]
          · rw [if_neg e, am_ui_n (fun _ w => e w)]
            exact s2 j (by omega))
        rw [hn] at z
        rw [nI_clamp (show q.1 < 2 ^ 31 by omega), nI_1 q.1]
        exact z
      have st2 : ∀ v : Int32, 1 ≤ q.1 → (∀ j, (am_tk σ t q).2 j = upd q.2 (q.1 - 1) v j) → (am_tk σ t q).1 = q.1 → am_wp (am_call (d + 1)) mt_203 R 67 [some (.ref 78), none, some (.int (nI (a + l.length))), some (.int (nI q.1)), some (.int (nI (a + k))), none] [.int v, .int (nI q.1 - 1), .ref 98] m2 ml := by
        intro v h1 hv2 hn
        have em : nI q.1 - 1 = nI (q.1 - 1) := pk_sub (b := 1) h1
        rw [em]
        refine bk_203_67 ⟨vp_in_nI (by omega) (by omega), bk_203_88 ?_⟩
        have z := nx (am_ui m2 98 (q.1 - 1) v) (am_kp_u k2 rfl) (fun j hj => by
          rw [hv2]
          unfold upd
          by_cases e : j = q.1 - 1
          · rw [if_pos e, e, am_ui_k]
          · rw [if_neg e, am_ui_n (fun _ w => e w)]
            exact s2 j (by omega))
        rw [hn] at z
        rw [nI_clamp (show q.1 - 1 < 2 ^ 31 by omega)]
        exact z
      have un : (t = 16 ∨ t = 17) → am_wp (am_call (d + 1)) mt_203 R 41 [some (.ref 78), none, some (.int (nI (a + l.length))), some (.int (nI q.1)), some (.int (nI (a + k))), some (.int (nI t))] [] m2 ml := by
        intro h67
        have h1 : 1 ≤ q.1 := by
          unfold am_dk at w1
          omega
        have em : nI q.1 - 1 = nI (q.1 - 1) := pk_sub (b := 1) h1
        have hin : vp_in (nI q.1 - 1) 200 := by
          rw [em]
          exact vp_in_nI (by omega) (by omega)
        have hrd : m2 98 (nI q.1 - 1).toNatClampNeg = q.2 (q.1 - 1) := by
          rw [em, nI_clamp (by omega)]
          exact s2 _ (by omega)
        rcases h67 with e | e
        · subst e
          refine bk_203_41 ⟨fun _ => ⟨hin, ?_⟩, fun w => absurd (by decide) w⟩
          rw [hrd]
          refine ⟨fun w => st2 0 h1 (fun j => ?_) rfl, fun w => st2 1 h1 (fun j => ?_) rfl⟩
          · show upd q.2 (q.1 - 1) (if q.2 (q.1 - 1) = 0 then 1 else 0) j = _
            rw [if_neg w]
          · show upd q.2 (q.1 - 1) (if q.2 (q.1 - 1) = 0 then 1 else 0) j = _
            rw [if_pos (Decidable.not_not.mp w)]
        · subst e
          refine bk_203_41 ⟨fun w => absurd rfl w, fun _ => ⟨hin, ?_⟩⟩
          rw [hrd]
          exact st2 _ h1 (fun j => rfl) rfl
      refine bk_203_4 (pk_le (a + l.length) (a + k) (fun w => absurd w (by omega)) (fun _ => ⟨vp_in_nI hk200 (by omega), ?_⟩) rfl rfl)
      rw [hcl, et]
      refine ⟨fun w => ?_, fun w => ⟨fun w5 => ⟨fun w16 => un (Or.inl ?_), fun w16 => ⟨fun w17 => ?_, fun w17 => un (Or.inr ?_)⟩⟩, fun w5 => ?_⟩⟩
      · rw [am_le_i, am_l18, ft] at w
        have h18 : 18 ≤ t := by omega
        refine bk_203_18 ⟨fun q2 => ?_, fun _ => ?_⟩
        · rw [am_lt_i, am_l18, ft] at q2
          omega
        · rw [show nI t - 18 = nI (t - 18) from pk_sub (b := 18) h18]
          refine st1 _ (fun j => ?_) ?_
          · unfold am_tk
            rw [if_neg (by omega), if_pos h18]
          · unfold am_tk
            rw [if_neg (by omega), if_pos h18]
      · exact (nI_eq (a := t) (b := 16) (by omega) (by omega)).mp w16
      · rw [am_le_i, am_l18, ft] at w
        rw [am_lt_i, am_l5, ft] at w5
        have n16 : ¬ t = 16 := fun e => w16 (by rw [e]; rfl)
        have n17 : ¬ t = 17 := fun e => w17 (by rw [e]; rfl)
        have h2 : 2 ≤ q.1 := by
          unfold am_dk at w1
          omega
        have em : nI q.1 + -1 = nI (q.1 - 1) := by
          obtain ⟨z, hz⟩ : ∃ z, q.1 = z + 1 := ⟨q.1 - 1, by omega⟩
          rw [hz, pk_m1]
          rfl
        have em2 : nI (q.1 - 1) - 1 = nI (q.1 - 2) := by
          rw [show nI (q.1 - 1) - 1 = nI (q.1 - 1 - 1) from pk_sub (b := 1) (by omega)]
          rfl
        rw [em, em2, nI_clamp (show q.1 - 2 < 2 ^ 31 by omega), nI_clamp (show q.1 - 1 < 2 ^ 31 by omega), s2 _ (by omega), s2 _ (by omega)]
        refine ⟨vp_in_nI (by omega) (by omega), vp_in_nI (by omega) (by omega), sp_202 (t := t) (by omega) (by omega) rfl (am_ri_i ⟨vp_in_nI (by omega) (by omega), bk_203_88 ?_⟩)⟩
        have z := nx (am_ui m2 98 (q.1 - 2) (am_bin t (q.2 (q.1 - 2)) (q.2 (q.1 - 1)))) (am_kp_u k2 rfl) (fun j hj => by
          have e2 : (am_tk σ t q).2 = upd q.2 (q.1 - 2) (am_bin t (q.2 (q.1 - 2)) (q.2 (q.1 - 1))) := by
            unfold am_tk
            rw [if_neg (by omega), if_neg (by omega), if_neg n16, if_neg n17]
          rw [am_tk_n] at hj
          have hj2 : j < q.1 := by
            unfold am_dn at hj
            rw [if_neg (by omega), if_neg (by omega), if_neg n16, if_neg n17] at hj
            omega
          rw [e2]
          unfold upd
          by_cases e : j = q.1 - 2
          · rw [if_pos e, e, am_ui_k]
          · rw [if_neg e, am_ui_n (fun _ w => e w)]
            exact s2 j hj2)
        have e1 : (am_tk σ t q).1 = q.1 - 1 := by
          unfold am_tk
          rw [if_neg (by omega), if_neg (by omega), if_neg n16, if_neg n17]
        rw [e1] at z
        exact z
      · exact (nI_eq (a := t) (b := 17) (by omega) (by omega)).mp (Decidable.not_not.mp w17)
      · rw [am_lt_i, am_l5, ft] at w5
        have h6 : t < 6 := by omega
        refine bk_203_18 ⟨fun _ => ⟨vp_in_nI h6 (by omega), ?_⟩, fun w => absurd (show nI t < 18 from nI_lt (b := 18) (by omega) (by omega)) w⟩
        rw [nI_clamp (by omega), k2 99 t rfl, hσ t h6]
        refine st1 _ (fun j => ?_) ?_
        · unfold am_tk
          rw [if_pos h6]
        · unfold am_tk
          rw [if_pos h6]
  refine bk_203 (loop l 0 (0, fun j => mi 98 j) (by omega) (fun j _ => by rw [Nat.zero_add]) hw.1 hw.2 (Nat.le_refl _) (fun f e => ?_) mi am_kp_r (fun j hj => absurd hj (Nat.not_lt_zero _)))
  rw [← e]
  exact am_val1_c (fun _ _ => rfl) hw _
end SP35
