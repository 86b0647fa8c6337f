/-! the law's lines, read by the reference; law on both sides -/
def am_cds : List (List Nat × List Nat) → List Nat
  | [] => []
  | (c, e) :: r => c ++ (e ++ am_cds r)
theorem am_cds_l : ∀ Q : List (List Nat × List Nat), (am_cds Q).length = am_tot Q
  | [] => rfl
  | (c, e) :: r => by
    show (c ++ (e ++ am_cds r)).length = c.length + e.length + am_tot r
    rw [List.length_append, List.length_append, am_cds_l r]
    omega
theorem am_cds_a : ∀ {Q : List (List Nat × List Nat)} {c e : List Nat}, am_cds (Q ++ [(c, e)]) = am_cds Q ++ c ++ e
  | [], c, e => by
    show c ++ (e ++ []) = [] ++ c ++ e
    rw [List.append_nil, List.nil_append]
  | (c1, e1) :: r, c, e => by
    show c1 ++ (e1 ++ am_cds (r ++ [(c, e)])) = (c1 ++ (e1 ++ am_cds r)) ++ c ++ e
    rw [am_cds_a (Q := r)]
    simp only [List.append_assoc]
/-- where the lines being read begin, part, end -/
def am_mlx (m : am_MI) : Nat → Nat → List (List Nat × List Nat) → Prop
  | _, _, [] => True
  | i, a, (c, e) :: r => m 94 i = nI a ∧ m 95 i = nI (a + c.length) ∧ m 96 i = nI (a + c.length + e.length) ∧ am_mlx m (i + 1) (a + c.length + e.length) r
theorem am_mlx_on {a b : am_MI} : ∀ (Q : List (List Nat × List Nat)) (i k : Nat), (∀ c j, 94 ≤ c → c ≤ 96 → j < i + Q.length → b c j = a c j) → am_mlx a i k Q → am_mlx b i k Q
  | [], _, _, _, _ => trivial
  | (c, e) :: r, i, k, h, h2 => by
    obtain ⟨g1, g2, g3, g4⟩ := h2
    have hl : ((c, e) :: r).length = r.length + 1 := rfl
    rw [hl] at h
    exact ⟨(h 94 i (by omega) (by omega) (by omega)).trans g1, (h 95 i (by omega) (by omega) (by omega)).trans g2, (h 96 i (by omega) (by omega) (by omega)).trans g3, am_mlx_on r _ _ (fun x j h1 h2 h3 => h x j h1 h2 (by omega)) g4⟩
theorem am_mlx_a {m : am_MI} {c e : List Nat} : ∀ (Q : List (List Nat × List Nat)) (i k : Nat), am_mlx m i k Q → m 94 (i + Q.length) = nI (k + am_tot Q) → m 95 (i + Q.length) = nI (k + am_tot Q + c.length) → m 96 (i + Q.length) = nI (k + am_tot Q + c.length + e.length) → am_mlx m i k (Q ++ [(c, e)])
  | [], _, _, _, h1, h2, h3 => ⟨h1, h2, h3, trivial⟩
  | (c1, e1) :: r, i, k, h, h1, h2, h3 => by
    obtain ⟨g1, g2, g3, g4⟩ := h
    have hl : i + ((c1, e1) :: r).length = i + 1 + r.length := by
      show i + (r.length + 1) = _
      omega
    have ht : k + am_tot ((c1, e1) :: r) = k + c1.length + e1.length + am_tot r := by
      show k + (c1.length + e1.length + am_tot r) = _
      omega
    rw [hl, ht] at h1 h2 h3
    exact ⟨g1, g2, g3, am_mlx_a r _ _ g4 h1 h2 h3⟩
def am_F200 : Nat → Nat → Bool := fun c j => decide ((94 ≤ c ∧ c ≤ 97) ∨ (c = 78 ∧ (j = 21 ∨ j = 22 ∨ j = 23 ∨ j = 24)))
theorem am_k200 {a b : am_MI} (h : am_kp am_F194 a b) : am_kp am_F200 a b := am_kp_w h (fun c j q => decide_eq_false (by have := of_decide_eq_false q; omega))
/-- at a line's begin -/
def am_lsx (B : am_MI) (p : Nat) (Q : List (List Nat × List Nat)) (m : am_MI) : Prop := am_kp am_F200 B m ∧ m 78 21 = nI p ∧ m 78 22 = 0 ∧ m 78 23 = nI (am_tot Q) ∧ (∀ j, j < am_tot Q → m 97 j = nI ((am_cds Q).getD j 0)) ∧ m 78 24 = nI Q.length ∧ am_mlx m 0 0 Q
section SP70
variable {D L p : Nat} {T : Nat → Nat} {B m : am_MI} {ml : am_ML} {R : am_R} {Q : List (List Nat × List Nat)}
theorem am_mb_on {a b : am_MI} (h : am_mb T L a) (k : am_kp am_F200 a b) : am_mb T L b := ⟨h.1, (k 78 13 rfl).trans h.2.1, fun j hj => ⟨(k 89 j rfl).trans (h.2.2 j hj).1, (h.2.2 j hj).2⟩⟩
def am_F201 : Nat → Nat → Bool := fun c j => decide ((90 ≤ c ∧ c ≤ 97) ∨ (c = 78 ∧ (j = 13 ∨ j = 15 ∨ j = 16 ∨ j = 21 ∨ j = 22 ∨ j = 23 ∨ j = 24)))
def am_F201f : Nat → Nat → Bool := fun c j => decide ((94 ≤ c ∧ c ≤ 97) ∨ (c = 78 ∧ (j = 13 ∨ j = 21 ∨ j = 22 ∨ j = 23 ∨ j = 24)))
end SP70
section SP70b
variable {d : Nat} {mi : am_MI} {ml : am_ML} {P : List (List Nat × List Nat)} {Q : Int32 → Int32 → am_MI → am_ML → Prop}
def am_F6 : Nat → Nat → Bool := fun c j => decide (c = 17 ∨ c = 18 ∨ (90 ≤ c ∧ c ≤ 97) ∨ (c = 15 ∧ (j = 1 ∨ j = 2 ∨ j = 4 ∨ j = 6 ∨ j = 7)) ∨ (c = 78 ∧ (j = 13 ∨ j = 15 ∨ j = 16 ∨ j = 21 ∨ j = 22 ∨ j = 23 ∨ j = 24)))
theorem am_txs_w {m : am_MI} (h : am_txs m) : am_swd m := ⟨(h 8 (by omega)).1, fun j hj => by
  rw [(h 8 (by omega)).2 j hj]
  have : ∀ j, j < 6 → (am_tx 8).getD j 0 = am_chr j := by decide
  rw [this j hj]⟩
theorem am_txs_on {a b : am_MI} (h : am_txs a) (k : ∀ c j, 118 ≤ c → c ≤ 137 → b c j = a c j) : am_txs b := fun i hi => ⟨(k _ _ (by omega) (by omega)).trans (h i hi).1, fun j hj => (k _ _ (by omega) (by omega)).trans ((h i hi).2 j hj)⟩
end SP70b
