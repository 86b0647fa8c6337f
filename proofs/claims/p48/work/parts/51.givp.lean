/-! pair: giving -/
section SP51
variable {d n m : Nat} {u : Nat → Nat → Int32} {mi : am_MI} {ml : am_ML} {R : am_R} {r : Nat} {P : List (List Nat × List Nat)} {Q : Int32 → Int32 → am_MI → am_ML → Prop}
theorem sp_40 {x : Int32} (hr : r < 5) (hc : am_cx n m u mi) (hx : x = nI r) (h : R (some (.int (am_unf m (mi (38 + r))))) mi ml) : am_call (d + 2) 40 [.ref 22, .int x] mi ml R := by
  subst hx
  obtain ⟨a1, a2, -⟩ := am_k38 r hr
  refine bk_40 ⟨vp_in_nI hr (by omega), ?_⟩
  rw [nI_clamp (by omega), Nat.one_mul]
  exact sp_43 a1 a2 hc (am_ri_i h)
end SP51
