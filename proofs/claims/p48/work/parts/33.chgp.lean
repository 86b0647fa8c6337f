/-! pairs: mend, undo, redo, feed, count -/
section SP33
variable {d n m : Nat} {u : Nat → Nat → Int32} {mi : am_MI} {ml : am_ML} {R : am_R} {Q : Int32 → Int32 → am_MI → am_ML → Prop} {v1 : Nat}
theorem am_cz_set {a b : am_MI} {w i : Nat} (hz : am_cz m a) (hv : am_val n m w i) (o : ∀ w2 i2, w2 < 10 → (w2 = w → i2 = i → False) → b (3 + w2) i2 = a (3 + w2) i2) : am_cz m b := by
  intro j h1 h2
  have z := hz j h1 h2
  have e6 := o 6 j (by omega) (fun e1 e2 => by
    subst e1 e2
    unfold am_val at hv
    omega)
  have e7 := o 7 j (by omega) (fun e1 e2 => by
    subst e1 e2
    unfold am_val at hv
    omega)
  exact ⟨e6.trans z.1, e7.trans z.2⟩
end SP33
