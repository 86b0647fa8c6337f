/-! givings turn by turn: the reference's side -/
def am_god (u : Nat → Nat → Int32) (t0 k t : Nat) : Nat := am_srt (am_led u) t0 k (t - t0)
def am_gg (u : Nat → Nat → Int32) (m : Nat) : Nat → Nat := am_srt (am_lea u) 0 m
def am_ge (P : List (List Nat × List Nat)) (u : Nat → Nat → Int32) (c i : Nat) : Int32 := am_ea P u c i (u 2 i)
/-- what was there before counts for nothing once each door was given -/
theorem am_gv_i {r m : Nat} {g o : Nat → Nat} {e : Nat → Nat → Int32} {t0 : Nat} {q p : (Nat → Int32) × (Nat → Int32)} (hg : ∀ j, j < m → g j < m) (h : ∀ c, c < m → q.2 c = p.2 c) : ∀ k, (∀ c, c < m → (am_gv r m g o e t0 q k).2 c = (am_gv r m g o e t0 p k).2 c) ∧ ∀ j, j < k → (am_gv r m g o e t0 q k).1 (o (t0 + j)) = (am_gv r m g o e t0 p k).1 (o (t0 + j))
  | 0 => ⟨h, fun j hj => absurd hj (Nat.not_lt_zero _)⟩
  | k + 1 => by
    obtain ⟨i1, i2⟩ := am_gv_i (r := r) (g := g) (o := o) (e := e) (t0 := t0) hg h k
    show (∀ c, c < m → (am_gst r m g o e (am_gv r m g o e t0 q k) (t0 + k)).2 c = (am_gst r m g o e (am_gv r m g o e t0 p k) (t0 + k)).2 c) ∧ ∀ j, j < k + 1 → (am_gst r m g o e (am_gv r m g o e t0 q k) (t0 + k)).1 (o (t0 + j)) = (am_gst r m g o e (am_gv r m g o e t0 p k) (t0 + k)).1 (o (t0 + j))
    generalize am_gv r m g o e t0 q k = q at *
    generalize am_gv r m g o e t0 p k = p at *
    have step : ∀ v j, j < k + 1 → upd q.1 (o (t0 + k)) v (o (t0 + j)) = upd p.1 (o (t0 + k)) v (o (t0 + j)) := by
      intro v j hj
      unfold upd
      by_cases ej : o (t0 + j) = o (t0 + k)
      · rw [if_pos ej, if_pos ej]
      · rw [if_neg ej, if_neg ej]
        refine i2 j ?_
        have : ¬ j = k := fun w => ej (by rw [w])
        omega
    by_cases m0 : m = 0
    · unfold am_gst
      rw [if_pos m0, if_pos m0]
      exact ⟨i1, step _⟩
    · unfold am_gst
      rw [if_neg m0, if_neg m0]
      have hp : 0 < m := by omega
      have ew := am_who_c (r := r) (g := g) (t := t0 + k) (e := fun c => e c (o (t0 + k))) (e2 := fun c => e c (o (t0 + k))) (s := q.2) (s2 := p.2) hp (fun _ _ => rfl) i1
      have lw := am_who_lt (r := r) (g := g) (t := t0 + k) (e := fun c => e c (o (t0 + k))) (s := p.2) hp hg
      rw [ew]
      generalize am_who r m g (fun c => e c (o (t0 + k))) p.2 (t0 + k) = w at *
      refine ⟨fun c hc => ?_, step _⟩
      show upd q.2 w (q.2 w + e w (o (t0 + k))) c = upd p.2 w (p.2 w + e w (o (t0 + k))) c
      rw [i1 w lw]
      unfold upd
      by_cases ec : c = w
      · rw [if_pos ec, if_pos ec]
      · rw [if_neg ec, if_neg ec]
        exact i1 c hc
def am_FG : Nat → Nat → Bool := fun c _ => decide (c = 98 ∨ c = 99 ∨ c = 109 ∨ c = 110 ∨ c = 111 ∨ c = 112)
section SP44
variable {d n m : Nat} {u : Nat → Nat → Int32} {mi : am_MI} {ml : am_ML} {R : am_R} {r : Nat} {P : List (List Nat × List Nat)}
theorem am_lwr_kG {a b : am_MI} (h : am_lwr P a) (hk : am_kp am_FG a b) : am_lwr P b := am_lwr_on h (hk _ _ rfl) (hk _ _ rfl) (hk _ _ rfl) (fun j => hk _ _ rfl) (fun c j q1 q2 => hk _ _ (decide_eq_false (by omega))) (hk _ _ rfl) (fun j => hk _ _ rfl)
theorem am_kG_m {a b : am_MI} (h : am_kp am_F98b a b) : am_kp am_FG a b := am_kp_w h (fun c j q => by
  have q := of_decide_eq_false q
  exact decide_eq_false (by omega))
theorem am_kG_9 {a b : am_MI} (h : am_kp am_F109 a b) : am_kp am_FG a b := am_kp_w h (fun c j q => by
  have q := of_decide_eq_false q
  exact decide_eq_false (by omega))
theorem am_kG_2 {a b : am_MI} (h : am_kp am_F112 a b) : am_kp am_FG a b := am_kp_w h (fun c j q => by
  have q := of_decide_eq_false q
  exact decide_eq_false (by omega))
theorem am_gg_lt : ∀ j, j < m → am_gg u m j < m := fun j hj => by
  have := am_srt_b (am_lea u) 0 m j hj
  unfold am_gg
  omega
end SP44
