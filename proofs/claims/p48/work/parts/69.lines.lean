/-! the law's lines, read by the class -/
theorem am_xl_a : ∀ P Q : List (List Nat × List Nat), am_xl (P ++ Q) = am_xl P ++ am_xl Q
  | [], _ => rfl
  | ([], e) :: r, Q => by
    show [] ++ (e.map am_xc ++ ((-59) :: am_xl (r ++ Q))) = ([] ++ (e.map am_xc ++ ((-59) :: am_xl r))) ++ am_xl Q
    rw [am_xl_a r Q]
    simp only [List.append_assoc, List.cons_append, List.nil_append]
  | (t :: c, e) :: r, Q => by
    show ((t :: c).map am_xc ++ [-63]) ++ (e.map am_xc ++ ((-59) :: am_xl (r ++ Q))) = (((t :: c).map am_xc ++ [-63]) ++ (e.map am_xc ++ ((-59) :: am_xl r))) ++ am_xl Q
    rw [am_xl_a r Q]
    simp only [List.append_assoc, List.cons_append, List.nil_append]
theorem am_xl_s0 {Q : List (List Nat × List Nat)} {e : List Nat} : am_xl (Q ++ [([], e)]) = am_xl Q ++ e.map am_xc ++ [-59] := by
  rw [am_xl_a, List.append_assoc]
  rfl
theorem am_xl_s1 {Q : List (List Nat × List Nat)} {c e : List Nat} (hc : c ≠ []) : am_xl (Q ++ [(c, e)]) = am_xl Q ++ c.map am_xc ++ [-63] ++ e.map am_xc ++ [-59] := by
  rw [am_xl_a]
  cases c with
  | nil => exact absurd rfl hc
  | cons t c =>
    show am_xl Q ++ (((t :: c).map am_xc ++ [-63]) ++ (e.map am_xc ++ [-59])) = _
    simp only [List.append_assoc]
theorem am_lwf_a : ∀ {P Q : List (List Nat × List Nat)}, am_lwf P → am_lwf Q → am_lwf (P ++ Q)
  | [], _, _, h => h
  | (_, _) :: _, _, h, g => ⟨h.1, h.2.1, am_lwf_a h.2.2 g⟩
section SP69a
variable {T : Nat → Nat} {L : Nat}
end SP69a
def am_F67 : Nat → Nat → Bool := fun c j => decide (c = 17 ∨ c = 18 ∨ (c = 15 ∧ (j = 1 ∨ j = 2 ∨ j = 4 ∨ j = 6 ∨ j = 7)))
def am_F67f : Nat → Nat → Bool := fun c j => decide (c = 17 ∨ (c = 15 ∧ (j = 1 ∨ j = 2 ∨ j = 4)))
section SP69b
variable {D L p : Nat} {T : Nat → Nat} {B m : am_MI} {ml : am_ML} {R : am_R} {Q : List (List Nat × List Nat)}
theorem sp_71e {S : List Int32} (hb : am_cb T L B) (hD : 54 ≤ D) (hp : p ≤ L) (hl : S.length ≤ p) (hs : am_cs B p S m) : am_cG B D 71 [.ref 15, .int 0, .int 0] (am_E T L p) S m ml :=
  sp_71 (F := am_O T L 6) (o := 0) (c := 48) hb (by omega) (fun p hp => am_O_g 6 p hp) (fun D hD p S m hp hl hs => sp_73 hb 6 (Nat.le_refl _) D (by omega) p S m hp hl hs) 5 (Nat.le_refl _) D (by omega) p S m hp hl hs
end SP69b
