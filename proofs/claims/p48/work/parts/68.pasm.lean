/-! the law's text, read by the reference -/
def am_F194 : Nat → Nat → Bool := fun c j => decide (c = 97 ∨ (c = 78 ∧ (j = 21 ∨ j = 22 ∨ j = 23)))
def am_mb (T : Nat → Nat) (L : Nat) (B : am_MI) : Prop := L ≤ 120 ∧ B 78 13 = nI L ∧ ∀ j, j < L → B 89 j = nI (T j) ∧ T j < 256
def am_mse (B : am_MI) (p o : Nat) (C : List Nat) (m : am_MI) : Prop := am_kp am_F194 B m ∧ m 78 21 = nI p ∧ m 78 22 = nI o ∧ m 78 23 = nI C.length ∧ ∀ j, j < C.length → m 97 j = nI (C.getD j 0)
def am_mf (B : am_MI) (p o : Nat) (m : am_MI) : Prop := am_kp am_F194 B m ∧ m 78 21 = nI p ∧ m 78 22 = nI o
def am_mG (B : am_MI) (D g : Nat) (r : am_Res) (o : Nat) (C : List Nat) (m : am_MI) (ml : am_ML) : Prop := ∀ R : am_R, (r.1 = true → ∀ m2, am_mse B r.2.1 o (C ++ r.2.2) m2 → R (some (.int 1)) m2 ml) → (r.1 = false → ∀ m2, am_mf B r.2.1 o m2 → R (some (.int 0)) m2 ml) → am_call D g [.ref 78] m ml R
def am_sv (T : Nat → Nat) (L p : Nat) : Int32 := if p < L then nI (T p) else -1
theorem am_gn_l {a b : List Nat} {j : Nat} (h : j < a.length) : (a ++ b).getD j 0 = a.getD j 0 := by
  rw [List.getD_eq_getElem?_getD, List.getD_eq_getElem?_getD, List.getElem?_append_left h]
theorem am_gn_r {a b : List Nat} {j : Nat} : (a ++ b).getD (a.length + j) 0 = b.getD j 0 := by
  rw [List.getD_eq_getElem?_getD, List.getD_eq_getElem?_getD, List.getElem?_append_right (Nat.le_add_right _ _), Nat.add_sub_cancel_left]
theorem am_nmn : ∀ b, b < 256 → am_nmo b < 6 → ¬ am_dig b = true := by decide +kernel
section SP68
variable {D L p o : Nat} {T : Nat → Nat} {B m : am_MI} {ml : am_ML} {R : am_R} {C : List Nat}
theorem am_mse_f (h : am_mse B p o C m) : am_mf B p o m := ⟨h.1, h.2.1, h.2.2.1⟩
theorem am_mse_p {q : Nat} (h : am_mse B p o C m) : am_mse B q o C (am_ui m 78 21 (nI q)) := by
  obtain ⟨h1, h2, h3, h4, h5⟩ := h
  refine ⟨am_kp_u h1 rfl, am_ui_k, ?_, ?_, fun j hj => ?_⟩
  · rw [am_ui_n (by omega)]
    exact h3
  · rw [am_ui_n (by omega)]
    exact h4
  · rw [am_ui_c (by decide)]
    exact h5 j hj
theorem am_mse_o {q : Nat} (h : am_mse B p o C m) : am_mse B p q C (am_ui m 78 22 (nI q)) := by
  obtain ⟨h1, h2, h3, h4, h5⟩ := h
  refine ⟨am_kp_u h1 rfl, ?_, am_ui_k, ?_, fun j hj => ?_⟩
  · rw [am_ui_n (by omega)]
    exact h2
  · rw [am_ui_n (by omega)]
    exact h4
  · rw [am_ui_c (by decide)]
    exact h5 j hj
theorem am_mf_o {q : Nat} (h : am_mf B p o m) : am_mf B p q (am_ui m 78 22 (nI q)) := by
  obtain ⟨h1, h2, h3⟩ := h
  refine ⟨am_kp_u h1 rfl, ?_, am_ui_k⟩
  rw [am_ui_n (by omega)]
  exact h2
theorem am_sv_e {b : Nat} (hb : am_mb T L B) (h : b < 1000) : am_sv T L p = nI b ↔ p < L ∧ T p = b := by
  unfold am_sv
  by_cases g : p < L
  · have hT := (hb.2.2 p g).2
    rw [if_pos g, nI_eq (by omega) (by omega)]
    exact ⟨fun e => ⟨g, e⟩, fun e => e.2⟩
  · rw [if_neg g]
    refine ⟨fun e => ?_, fun e => absurd e.1 g⟩
    rw [am_eq_i, am_lm1, am_ti (by omega)] at e
    omega
end SP68
