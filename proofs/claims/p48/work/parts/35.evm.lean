/-! what a law's line is worth: tokens by the reference's codes, worked on a stack (depth, places) -/
def am_bin (t : Nat) (x y : Int32) : Int32 :=
  if t = 6 then (if x = 0 ∧ y = 0 then 0 else 1) else if t = 7 then (if x = 0 ∨ y = 0 then 0 else 1) else if t = 8 then (if x < y then 1 else 0) else if t = 9 then (if x = y then 1 else 0) else if t = 10 then (if y < x then 1 else 0) else
  if t = 11 then x + y else if t = 12 then x - y else if t = 13 then x * y else if t = 14 then (if y = 0 then 0 else x / y) else (if y = 0 then 0 else am_rem x y)
/-- a token: a name (0 to 5), of two (6 to 15), not (16), minus (17), a number (18 and on) -/
def am_tk (σ : Nat → Int32) (t : Nat) (q : Nat × (Nat → Int32)) : Nat × (Nat → Int32) :=
  if t < 6 then (q.1 + 1, upd q.2 q.1 (σ t)) else if 18 ≤ t then (q.1 + 1, upd q.2 q.1 (nI (t - 18))) else if t = 16 then (q.1, upd q.2 (q.1 - 1) (if q.2 (q.1 - 1) = 0 then 1 else 0)) else if t = 17 then (q.1, upd q.2 (q.1 - 1) (-(q.2 (q.1 - 1)))) else
  (q.1 - 1, upd q.2 (q.1 - 2) (am_bin t (q.2 (q.1 - 2)) (q.2 (q.1 - 1))))
def am_dk (t n : Nat) : Prop := t < 6 ∨ 18 ≤ t ∨ ((t = 16 ∨ t = 17) ∧ 1 ≤ n) ∨ (6 ≤ t ∧ t < 16 ∧ 2 ≤ n)
def am_dn (t n : Nat) : Nat := if t < 6 then n + 1 else if 18 ≤ t then n + 1 else if t = 16 then n else if t = 17 then n else n - 1
def am_wfp : List Nat → Nat → Prop
  | [], _ => True
  | t :: r, n => am_dk t n ∧ t < 10018 ∧ am_wfp r (am_dn t n)
def am_dns : List Nat → Nat → Nat
  | [], n => n
  | t :: r, n => am_dns r (am_dn t n)
def am_run (σ : Nat → Int32) : List Nat → Nat × (Nat → Int32) → Nat × (Nat → Int32)
  | [], q => q
  | t :: r, q => am_run σ r (am_tk σ t q)
/-- a whole expression -/
def am_wf (l : List Nat) : Prop := am_wfp l 0 ∧ am_dns l 0 = 1
def am_val1 (σ : Nat → Int32) (l : List Nat) : Int32 := (am_run σ l (0, fun _ => 0)).2 0
theorem am_tk_n {σ : Nat → Int32} {t : Nat} {q : Nat × (Nat → Int32)} : (am_tk σ t q).1 = am_dn t q.1 := by
  unfold am_tk am_dn
  split
  · rfl
  · split
    · rfl
    · split
      · rfl
      · split <;> rfl
theorem am_run_n {σ : Nat → Int32} : ∀ (l : List Nat) (q : Nat × (Nat → Int32)), (am_run σ l q).1 = am_dns l q.1
  | [], _ => rfl
  | t :: r, q => by
    show (am_run σ r (am_tk σ t q)).1 = am_dns r (am_dn t q.1)
    rw [am_run_n r, am_tk_n]
/-- only the places below the depth count -/
theorem am_tk_c {σ σ2 : Nat → Int32} {t : Nat} {q p : Nat × (Nat → Int32)} (hσ : ∀ i, i < 6 → σ i = σ2 i) (hd : am_dk t q.1) (e : q.1 = p.1) (h : ∀ j, j < q.1 → q.2 j = p.2 j) : ∀ j, j < (am_tk σ t q).1 → (am_tk σ t q).2 j = (am_tk σ2 t p).2 j := by
  intro j
  rw [am_tk_n]
  obtain ⟨n, f⟩ := q
  obtain ⟨n2, g⟩ := p
  simp only at e
  subst e
  simp only at h hd ⊢
  unfold am_dk at hd
  unfold am_tk am_dn upd
  intro hj
  by_cases c1 : t < 6
  · simp only [if_pos c1] at hj ⊢
    by_cases ej : j = n
    · rw [if_pos ej, if_pos ej, hσ t c1]
    · rw [if_neg ej, if_neg ej, h j (by omega)]
  · simp only [if_neg c1] at hj ⊢
    by_cases c2 : 18 ≤ t
    · simp only [if_pos c2] at hj ⊢
      by_cases ej : j = n
      · rw [if_pos ej, if_pos ej]
      · rw [if_neg ej, if_neg ej, h j (by omega)]
    · simp only [if_neg c2] at hj ⊢
      by_cases c3 : t = 16
      · simp only [if_pos c3] at hj ⊢
        by_cases ej : j = n - 1
        · have e1 : f (n - 1) = g (n - 1) := h (n - 1) (by omega)
          rw [if_pos ej, if_pos ej]
          show (if f (n - 1) = 0 then (1 : Int32) else 0) = if g (n - 1) = 0 then 1 else 0
          simp only [e1]
        · rw [if_neg ej, if_neg ej, h j (by omega)]
      · simp only [if_neg c3] at hj ⊢
        by_cases c4 : t = 17
        · simp only [if_pos c4] at hj ⊢
          by_cases ej : j = n - 1
          · have e1 := h (n - 1) (by omega)
            rw [if_pos ej, if_pos ej, e1]
          · rw [if_neg ej, if_neg ej, h j (by omega)]
        · simp only [if_neg c4] at hj ⊢
          by_cases ej : j = n - 2
          · rw [if_pos ej, if_pos ej, h (n - 2) (by omega), h (n - 1) (by omega)]
          · rw [if_neg ej, if_neg ej, h j (by omega)]
theorem am_run_c {σ σ2 : Nat → Int32} (hσ : ∀ i, i < 6 → σ i = σ2 i) : ∀ (l : List Nat) (q p : Nat × (Nat → Int32)), am_wfp l q.1 → q.1 = p.1 → (∀ j, j < q.1 → q.2 j = p.2 j) → ∀ j, j < (am_run σ l q).1 → (am_run σ l q).2 j = (am_run σ2 l p).2 j
  | [], _, _, _, _, h => h
  | t :: r, q, p, hw, e, h => by
    refine am_run_c hσ r (am_tk σ t q) (am_tk σ2 t p) ?_ ?_ (am_tk_c hσ hw.1 e h)
    · rw [am_tk_n]
      exact hw.2.2
    · rw [am_tk_n, am_tk_n, e]
theorem am_val1_c {σ σ2 : Nat → Int32} {l : List Nat} (hσ : ∀ i, i < 6 → σ i = σ2 i) (hw : am_wf l) (f : Nat → Int32) : (am_run σ l (0, f)).2 0 = am_val1 σ2 l := by
  refine am_run_c hσ l (0, f) (0, fun _ => 0) hw.1 rfl (fun j hj => absurd hj (Nat.not_lt_zero _)) 0 ?_
  rw [am_run_n, hw.2]
  exact Nat.lt_succ_self 0
/-- the depth never passes the number of tokens -/
theorem am_dn_le (t n : Nat) : am_dn t n ≤ n + 1 := by
  unfold am_dn
  split
  · omega
  · split
    · omega
    · split
      · omega
      · split <;> omega
section SP35
variable {d : Nat} {mi : am_MI} {ml : am_ML} {R : am_R}
def am_F98 : Nat → Nat → Bool := fun c _ => decide (c = 98)
end SP35
