/-! the law's text, read: what is read, up to where, its tokens -/
abbrev am_Res : Type := Bool × Nat × List Nat
/-- the sign of a level that a byte is (its code; 0: none) -/
def am_sgn (lv b : Nat) : Nat := if lv = 0 then (if b = 124 then 6 else 0) else if lv = 1 then (if b = 38 then 7 else 0) else if lv = 2 then (if b = 60 then 8 else if b = 61 then 9 else if b = 62 then 10 else 0) else if lv = 3 then (if b = 43 then 11 else if b = 45 then 12 else 0) else (if b = 42 then 13 else if b = 47 then 14 else if b = 37 then 15 else 0)
/-- a name's code (6: none) -/
def am_nmo (b : Nat) : Nat := if b = 115 then 0 else if b = 119 then 1 else if b = 100 then 2 else if b = 97 then 3 else if b = 110 then 4 else if b = 107 then 5 else 6
def am_dig (b : Nat) : Bool := decide (48 ≤ b ∧ b ≤ 57)
section SPA
variable (T : Nat → Nat) (L : Nat)
def am_lp (f : Nat → am_Res) (lv : Nat) : Nat → Nat → List Nat → am_Res
  | 0, p, ts => (true, p, ts)
  | k + 1, p, ts => if p < L ∧ am_sgn lv (T p) ≠ 0 then (if (f (p + 1)).1 = true then am_lp f lv k (f (p + 1)).2.1 (ts ++ (f (p + 1)).2.2 ++ [am_sgn lv (T p)]) else (false, (f (p + 1)).2.1, [])) else (true, p, ts)
def am_lve (f : Nat → am_Res) (lv p : Nat) : am_Res := if (f p).1 = true then am_lp T L f lv (if lv = 2 then 1 else L) (f p).2.1 (f p).2.2 else (false, (f p).2.1, [])
def am_lvs (f : Nat → am_Res) : Nat → Nat → am_Res
  | 0 => f
  | j + 1 => am_lve T L (am_lvs f j) (4 - j)
def am_dg : Nat → Nat → Nat → Nat × Nat
  | 0, p, v => (p, v)
  | k + 1, p, v => if p < L ∧ am_dig (T p) = true then am_dg k (p + 1) (10 * v + (T p - 48)) else (p, v)
def am_opn (g : Option (Nat → am_Res)) (p : Nat) : am_Res :=
  if p < L then (if am_nmo (T p) < 6 then (true, p + 1, [am_nmo (T p)]) else if am_dig (T p) = true then (true, (am_dg T L 4 p 0).1, [18 + (am_dg T L 4 p 0).2]) else match g with
    | none => (false, p, [])
    | some f => if T p = 33 then (if (f (p + 1)).1 = true then (true, (f (p + 1)).2.1, (f (p + 1)).2.2 ++ [16]) else (false, (f (p + 1)).2.1, []))
      else if T p = 45 then (if (f (p + 1)).1 = true then (true, (f (p + 1)).2.1, (f (p + 1)).2.2 ++ [17]) else (false, (f (p + 1)).2.1, []))
      else if T p = 40 then (if (am_lvs T L f 5 (p + 1)).1 = true ∧ (am_lvs T L f 5 (p + 1)).2.1 < L ∧ T (am_lvs T L f 5 (p + 1)).2.1 = 41 then (true, (am_lvs T L f 5 (p + 1)).2.1 + 1, (am_lvs T L f 5 (p + 1)).2.2) else (false, (am_lvs T L f 5 (p + 1)).2.1, []))
      else (false, p, []))
  else (false, p, [])
/-- an O with so many more that may be open -/
def am_O : Nat → Nat → am_Res
  | 0 => am_opn T L none
  | k + 1 => am_opn T L (some (am_O k))
def am_E (p : Nat) : am_Res := am_lvs T L (am_O T L 6) 5 p
/-- lines -/
def am_line (p : Nat) : Bool × Nat × List Nat × List Nat :=
  if (am_E T L p).1 = true then (if (am_E T L p).2.1 < L ∧ T (am_E T L p).2.1 = 63 then ((am_E T L ((am_E T L p).2.1 + 1)).1, (am_E T L ((am_E T L p).2.1 + 1)).2.1, (am_E T L p).2.2, (am_E T L ((am_E T L p).2.1 + 1)).2.2) else (true, (am_E T L p).2.1, [], (am_E T L p).2.2)) else (false, (am_E T L p).2.1, [], [])
def am_lns : Nat → Nat → List (List Nat × List Nat) → Bool × Nat × List (List Nat × List Nat)
  | 0, p, Q => (false, p, Q)
  | k + 1, p, Q => if (am_line T L p).1 = true then (if (am_line T L p).2.1 < L ∧ T (am_line T L p).2.1 = 59 then am_lns k ((am_line T L p).2.1 + 1) (Q ++ [(am_line T L p).2.2]) else (decide ((am_line T L p).2.1 = L), (am_line T L p).2.1, Q ++ [(am_line T L p).2.2])) else (false, (am_line T L p).2.1, Q)
end SPA
/-- tokens that add one to any stack -/
def am_exp (l : List Nat) : Prop := ∀ n, am_wfp l n ∧ am_dns l n = n + 1
theorem am_wfp_a : ∀ (a b : List Nat) (n : Nat), am_wfp a n → am_wfp b (am_dns a n) → am_wfp (a ++ b) n ∧ am_dns (a ++ b) n = am_dns b (am_dns a n)
  | [], _, _, _, h => ⟨h, rfl⟩
  | t :: a, b, n, h, h2 => by
    obtain ⟨x, y⟩ := am_wfp_a a b (am_dn t n) h.2.2 h2
    exact ⟨⟨h.1, h.2.1, x⟩, y⟩
theorem am_exp_2 {a b : List Nat} {t : Nat} (ha : am_exp a) (hb : am_exp b) (h6 : 6 ≤ t) (h16 : t < 16) : am_exp (a ++ b ++ [t]) := fun n => by
  obtain ⟨a1, a2⟩ := ha n
  obtain ⟨b1, b2⟩ := hb (n + 1)
  rw [← a2] at b1
  obtain ⟨c1, c2⟩ := am_wfp_a a b n a1 b1
  rw [a2, b2] at c2
  have hd : am_dk t (n + 1 + 1) := Or.inr (Or.inr (Or.inr ⟨h6, h16, by omega⟩))
  have hn : am_dn t (n + 1 + 1) = n + 1 := by
    unfold am_dn
    rw [if_neg (by omega), if_neg (by omega), if_neg (by omega)]
    split <;> omega
  obtain ⟨d1, d2⟩ := am_wfp_a (a ++ b) [t] n c1 (by rw [c2]; exact ⟨hd, by omega, trivial⟩)
  refine ⟨d1, ?_⟩
  rw [d2, c2]
  exact hn
theorem am_exp_1 {a : List Nat} {t : Nat} (ha : am_exp a) (ht : t = 16 ∨ t = 17) : am_exp (a ++ [t]) := fun n => by
  obtain ⟨a1, a2⟩ := ha n
  have hd : am_dk t (n + 1) := Or.inr (Or.inr (Or.inl ⟨ht, by omega⟩))
  have hn : am_dn t (n + 1) = n + 1 := by
    unfold am_dn
    rcases ht with e | e <;> subst e <;> rfl
  obtain ⟨d1, d2⟩ := am_wfp_a a [t] n a1 (by rw [a2]; exact ⟨hd, by omega, trivial⟩)
  refine ⟨d1, ?_⟩
  rw [d2, a2]
  exact hn
theorem am_exp_0 {t : Nat} (ht : t < 6 ∨ (18 ≤ t ∧ t < 10018)) : am_exp [t] := fun n => by
  have hd : am_dk t n := by
    rcases ht with h | h
    · exact Or.inl h
    · exact Or.inr (Or.inl h.1)
  have hn : am_dn t n = n + 1 := by
    unfold am_dn
    rcases ht with h | h
    · rw [if_pos h]
    · rw [if_neg (by omega), if_pos h.1]
  exact ⟨⟨hd, by omega, trivial⟩, hn⟩
theorem am_exp_n {l : List Nat} (h : am_exp l) : l ≠ [] := fun e => by
  have := (h 0).2
  rw [e] at this
  exact absurd this (by decide)
theorem am_exp_w {l : List Nat} (h : am_exp l) : am_wf l := h 0
/-- how far, how much -/
def am_god1 (L : Nat) (p : Nat) (r : am_Res) : Prop := p ≤ r.2.1 ∧ r.2.1 ≤ L ∧ (r.1 = true → p < r.2.1 ∧ r.2.2.length + p ≤ r.2.1 ∧ am_exp r.2.2)
theorem am_sgn_b (lv b : Nat) (h : am_sgn lv b ≠ 0) : 6 ≤ am_sgn lv b ∧ am_sgn lv b < 16 := by
  have key : ∀ x, x = am_sgn lv b → x = 0 ∨ (6 ≤ x ∧ x < 16) := by
    intro x e
    unfold am_sgn at e
    split at e
    · split at e <;> omega
    · split at e
      · split at e <;> omega
      · split at e
        · split at e
          · omega
          · split at e
            · omega
            · split at e <;> omega
        · split at e
          · split at e
            · omega
            · split at e <;> omega
          · split at e
            · omega
            · split at e
              · omega
              · split at e <;> omega
  exact (key _ rfl).resolve_left h
section SP66
variable {T : Nat → Nat} {L : Nat} {f : Nat → am_Res}
theorem am_lp_g (hf : ∀ p, p ≤ L → am_god1 L p (f p)) {lv p0 : Nat} : ∀ k p ts, p0 < p → p ≤ L → ts.length + p0 ≤ p → am_exp ts → am_god1 L p0 (am_lp T L f lv k p ts)
  | 0, p, ts, h1, h2, h3, h4 => ⟨by show p0 ≤ p; omega, h2, fun _ => ⟨h1, h3, h4⟩⟩
  | k + 1, p, ts, h1, h2, h3, h4 => by
    unfold am_lp
    split
    · rename_i g
      obtain ⟨a, b, c⟩ := hf (p + 1) (by omega)
      split
      · rename_i ok
        obtain ⟨d, e, w⟩ := c ok
        have sb := am_sgn_b lv (T p) g.2
        refine am_lp_g hf k _ _ (by omega) b ?_ (am_exp_2 h4 w sb.1 sb.2)
        rw [List.length_append, List.length_append]
        show ts.length + (f (p + 1)).2.2.length + 1 + p0 ≤ _
        omega
      · exact ⟨by show p0 ≤ (f (p + 1)).2.1; omega, b, fun q => absurd (show false = true from q) (by decide)⟩
    · exact ⟨by show p0 ≤ p; omega, h2, fun _ => ⟨h1, h3, h4⟩⟩
theorem am_lve_g (hf : ∀ p, p ≤ L → am_god1 L p (f p)) {lv p : Nat} (hp : p ≤ L) : am_god1 L p (am_lve T L f lv p) := by
  obtain ⟨a, b, c⟩ := hf p hp
  unfold am_lve
  split
  · rename_i ok
    obtain ⟨d, e, w⟩ := c ok
    exact am_lp_g hf _ _ _ d b e w
  · exact ⟨a, b, fun q => absurd (show false = true from q) (by decide)⟩
theorem am_lvs_g (hf : ∀ p, p ≤ L → am_god1 L p (f p)) : ∀ j p, p ≤ L → am_god1 L p (am_lvs T L f j p)
  | 0, p, hp => hf p hp
  | j + 1, p, hp => am_lve_g (fun p hp => am_lvs_g hf j p hp) hp
theorem am_dg_g : ∀ k p v, p ≤ L → p ≤ (am_dg T L k p v).1 ∧ (am_dg T L k p v).1 ≤ L ∧ (am_dg T L k p v).2 < (v + 1) * 10 ^ k
  | 0, p, v, hp => ⟨Nat.le_refl _, hp, by rw [Nat.pow_zero, Nat.mul_one]; exact Nat.lt_succ_self v⟩
  | k + 1, p, v, hp => by
    unfold am_dg
    split
    · rename_i g
      obtain ⟨a, b, c⟩ := am_dg_g k (p + 1) (10 * v + (T p - 48)) (by omega)
      have d := of_decide_eq_true g.2
      refine ⟨by omega, b, Nat.lt_of_lt_of_le c ?_⟩
      have h1 : 10 * v + (T p - 48) + 1 ≤ (v + 1) * 10 := by omega
      have h2 := Nat.mul_le_mul_right (10 ^ k) h1
      rw [Nat.pow_succ, Nat.mul_comm (10 ^ k) 10, ← Nat.mul_assoc]
      exact h2
    · refine ⟨Nat.le_refl _, hp, ?_⟩
      have h1 : 1 ≤ 10 ^ (k + 1) := Nat.pow_pos (by omega)
      have h2 := Nat.mul_le_mul_left (v + 1) h1
      show v < (v + 1) * 10 ^ (k + 1)
      omega
theorem am_dg_1 {k p v : Nat} (hp : p < L) (hd : am_dig (T p) = true) : p < (am_dg T L (k + 1) p v).1 := by
  have : am_dg T L (k + 1) p v = am_dg T L k (p + 1) (10 * v + (T p - 48)) := if_pos ⟨hp, hd⟩
  rw [this]
  have := (am_dg_g (T := T) (L := L) k (p + 1) (10 * v + (T p - 48)) (by omega)).1
  omega
theorem am_opn_g {g : Option (Nat → am_Res)} (hg : ∀ f, g = some f → ∀ p, p ≤ L → am_god1 L p (f p)) {p : Nat} (hp : p ≤ L) : am_god1 L p (am_opn T L g p) := by
  have no : ∀ q, p ≤ q → q ≤ L → am_god1 L p (false, q, []) := fun q h1 h2 => ⟨h1, h2, fun z => absurd (show false = true from z) (by decide)⟩
  unfold am_opn
  split
  · rename_i hpL
    split
    · rename_i h6
      exact ⟨by show p ≤ p + 1; omega, by show p + 1 ≤ L; omega, fun _ => ⟨by show p < p + 1; omega, by show 1 + p ≤ p + 1; omega, am_exp_0 (Or.inl h6)⟩⟩
    · split
      · rename_i hd
        obtain ⟨a, b, c⟩ := am_dg_g (T := T) 4 p 0 hp
        have s : p < (am_dg T L 4 p 0).1 := am_dg_1 (T := T) (L := L) (k := 3) (v := 0) hpL hd
        have c : (am_dg T L 4 p 0).2 < 10000 := c
        exact ⟨a, b, fun _ => ⟨s, by show 1 + p ≤ (am_dg T L 4 p 0).1; omega, am_exp_0 (Or.inr ⟨by omega, by omega⟩)⟩⟩
      · cases g with
        | none => exact no p (Nat.le_refl _) hp
        | some f =>
          have hf := hg f rfl
          have un : ∀ t, t = 16 ∨ t = 17 → am_god1 L p (if (f (p + 1)).1 = true then (true, (f (p + 1)).2.1, (f (p + 1)).2.2 ++ [t]) else (false, (f (p + 1)).2.1, [])) := by
            intro t ht
            obtain ⟨a, b, c⟩ := hf (p + 1) (by omega)
            split
            · rename_i ok
              obtain ⟨d, e, w⟩ := c ok
              refine ⟨by show p ≤ (f (p + 1)).2.1; omega, b, fun _ => ⟨by show p < (f (p + 1)).2.1; omega, ?_, am_exp_1 w ht⟩⟩
              show ((f (p + 1)).2.2 ++ [t]).length + p ≤ (f (p + 1)).2.1
              rw [List.length_append]
              show (f (p + 1)).2.2.length + 1 + p ≤ _
              omega
            · exact no _ (by omega) b
          show am_god1 L p (if T p = 33 then (if (f (p + 1)).1 = true then (true, (f (p + 1)).2.1, (f (p + 1)).2.2 ++ [16]) else (false, (f (p + 1)).2.1, [])) else if T p = 45 then (if (f (p + 1)).1 = true then (true, (f (p + 1)).2.1, (f (p + 1)).2.2 ++ [17]) else (false, (f (p + 1)).2.1, [])) else if T p = 40 then (if (am_lvs T L f 5 (p + 1)).1 = true ∧ (am_lvs T L f 5 (p + 1)).2.1 < L ∧ T (am_lvs T L f 5 (p + 1)).2.1 = 41 then (true, (am_lvs T L f 5 (p + 1)).2.1 + 1, (am_lvs T L f 5 (p + 1)).2.2) else (false, (am_lvs T L f 5 (p + 1)).2.1, [])) else (false, p, []))
          split
          · exact un 16 (Or.inl rfl)
          · split
            · exact un 17 (Or.inr rfl)
            · split
              · obtain ⟨a, b, c⟩ := am_lvs_g (T := T) hf 5 (p + 1) (by omega)
                generalize am_lvs T L f 5 (p + 1) = r at a b c
                split
                · rename_i ok
                  obtain ⟨d, e, w⟩ := c ok.1
                  exact ⟨by show p ≤ r.2.1 + 1; omega, by show r.2.1 + 1 ≤ L; omega, fun _ => ⟨by show p < r.2.1 + 1; omega, by show r.2.2.length + p ≤ r.2.1 + 1; omega, w⟩⟩
                · exact no _ (by omega) b
              · exact no p (Nat.le_refl _) hp
  · exact no p (Nat.le_refl _) hp
theorem am_O_g : ∀ k p, p ≤ L → am_god1 L p (am_O T L k p)
  | 0, p, hp => am_opn_g (fun f e => by cases e) hp
  | k + 1, p, hp => am_opn_g (fun f e => by
      cases e
      exact am_O_g k) hp
theorem am_E_g {p : Nat} (hp : p ≤ L) : am_god1 L p (am_E T L p) := am_lvs_g (fun p hp => am_O_g 6 p hp) 5 p hp
end SP66
