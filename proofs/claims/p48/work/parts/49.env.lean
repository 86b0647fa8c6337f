/-! what one's doors are worth to another; one's own is what is kept by turns -/
def am_sto (own e : Nat → Int32) (x : Int32) (k : Nat) : Int32 := am_sm (fun i => if own i = x then e i else 0) k
theorem am_gv_s {r m : Nat} {g o : Nat → Nat} {e : Nat → Nat → Int32} {t0 K : Nat} {q : (Nat → Int32) × (Nat → Int32)} (hm : m ≤ 5) (hg : ∀ j, j < m → g j < m) (hi : ∀ i j, i < K → j < K → o (t0 + i) = o (t0 + j) → i = j) (h : ∀ c, c < m → q.2 c = 0) : ∀ k, k ≤ K → ∀ c, c < m → (am_gv r m g o e t0 q k).2 c = am_sm (fun j => if (am_gv r m g o e t0 q k).1 (o (t0 + j)) = nI c then e c (o (t0 + j)) else 0) k
  | 0, _, c, hc => h c hc
  | k + 1, hk, c, hc => by
    have ih := am_gv_s (r := r) (g := g) (o := o) (e := e) (q := q) hm hg hi h k (by omega) c hc
    show (am_gst r m g o e (am_gv r m g o e t0 q k) (t0 + k)).2 c = am_sm (fun j => if (am_gst r m g o e (am_gv r m g o e t0 q k) (t0 + k)).1 (o (t0 + j)) = nI c then e c (o (t0 + j)) else 0) (k + 1)
    generalize am_gv r m g o e t0 q k = p at ih
    have hp : 0 < m := by omega
    have lw := am_who_lt (r := r) (g := g) (t := t0 + k) (e := fun c => e c (o (t0 + k))) (s := p.2) hp hg
    unfold am_gst
    rw [if_neg (show ¬ m = 0 by omega)]
    generalize am_who r m g (fun c => e c (o (t0 + k))) p.2 (t0 + k) = w at lw
    show upd p.2 w (p.2 w + e w (o (t0 + k))) c = am_sm (fun j => if upd p.1 (o (t0 + k)) (nI w) (o (t0 + j)) = nI c then e c (o (t0 + j)) else 0) k + (if upd p.1 (o (t0 + k)) (nI w) (o (t0 + k)) = nI c then e c (o (t0 + k)) else 0)
    have e1 : upd p.1 (o (t0 + k)) (nI w) (o (t0 + k)) = nI w := if_pos rfl
    rw [e1, am_sm_c (G := fun j => if p.1 (o (t0 + j)) = nI c then e c (o (t0 + j)) else 0) k (fun j hj => by
      have e2 : upd p.1 (o (t0 + k)) (nI w) (o (t0 + j)) = p.1 (o (t0 + j)) := if_neg (fun q => absurd (hi j k (by omega) (by omega) q) (by omega))
      simp only [e2]), ← ih]
    unfold upd
    by_cases ec : c = w
    · rw [if_pos ec, if_pos (by rw [ec]), ec]
    · rw [if_neg ec, if_neg (fun q => ec ((nI_eq (a := w) (b := c) (by omega) (by omega)).mp q).symm), Int32.add_zero]
section SP49
variable {d n m : Nat} {u : Nat → Nat → Int32} {mi : am_MI} {ml : am_ML} {R : am_R} {r : Nat} {P : List (List Nat × List Nat)}
/-- what is kept by turns is what one's own doors are worth -/
theorem am_gvn_s (hm : m ≤ 5) {c : Nat} (hc : c < m) : (am_gvn P u n m r).2 c = am_sto (am_gvn P u n m r).1 (am_ge P u c) (nI c) n := by
  have z := am_gv_s (r := r) (o := am_god u 0 n) (e := am_ge P u) (t0 := 0) (K := n) (q := (fun _ => -2, fun _ => 0)) hm (am_gg_lt (u := u) (m := m)) (fun i j hi hj e => by
    unfold am_god at e
    rw [Nat.zero_add, Nat.zero_add, Nat.sub_zero, Nat.sub_zero] at e
    exact am_srt_j (am_led u) 0 n i j hi hj e) (fun c hc => rfl) n (Nat.le_refl _) c hc
  have y := am_srt_m (am_led u) 0 (fun i => if (am_gvn P u n m r).1 i = nI c then am_ge P u c i else 0) n
  unfold am_sto
  refine z.trans (Eq.trans (am_sm_c n (fun j hj => ?_)) (y.trans (am_sm_c n (fun j hj => ?_))))
  · show (if (am_gvn P u n m r).1 (am_god u 0 n (0 + j)) = nI c then am_ge P u c (am_god u 0 n (0 + j)) else 0) = _
    unfold am_god
    rw [Nat.zero_add, Nat.sub_zero]
  · rw [Nat.zero_add]
/-- worthTo -/
theorem sp_46 {x y z : Int32} {c : Nat} (hr : r < 5) (hcm : c < m) (hc : am_cx n m u mi) (hx : x = nI c) (hy : y = nI r) (h : R (some (.int (am_sto (mi (32 + r)) (mi (26 + c)) z n))) mi ml) : am_call (d + 1) 46 [.ref 22, .int x, .int y, .int z] mi ml R := by
  subst hx
  subst hy
  have hn := hc.1
  have hm5 := hc.2.1
  obtain ⟨-, -, a1, a2, -⟩ := am_k38 r hr
  obtain ⟨-, -, -, -, b1, b2⟩ := am_k38 c (by omega)
  refine bk_46 (am_for n (fun k => am_wp (am_call d) mt_46 R 4 [some (.ref 22), some (.int (nI c)), some (.int (nI r)), some (.int z), some (.int (am_sto (mi (32 + r)) (mi (26 + c)) z k)), some (.int (nI k))] [] mi ml) ?_ (fun k hk ih => ?_) 0 (Nat.zero_le _))
  · exact bk_46_4 (pk_le n n (fun _ => h) (fun w => absurd w (Nat.lt_irrefl _)) hc.2.2.1 rfl)
  · have vk : vp_in (nI k) 12 := vp_in_nI (by omega) (by omega)
    have un : am_sto (mi (32 + r)) (mi (26 + c)) z (k + 1) = am_sto (mi (32 + r)) (mi (26 + c)) z k + (if mi (32 + r) k = z then mi (26 + c) k else 0) := rfl
    rw [un] at ih
    refine bk_46_4 (pk_le n k (fun w => absurd w (by omega)) (fun _ => ?_) hc.2.2.1 rfl)
    rw [nI_clamp (show r < 2 ^ 31 by omega), nI_clamp (show c < 2 ^ 31 by omega), Nat.one_mul, Nat.one_mul, am_len2 a1, am_len2 b1, a1, a2, b1, b2, nI_clamp (show k < 2 ^ 31 by omega), nI_1]
    refine ⟨vp_in_nI hr (by omega), am_need_i rfl ⟨vk, fun w => ?_, fun w => ⟨vp_in_nI (by omega) (by omega), am_need_i rfl ⟨vk, ?_⟩⟩⟩⟩
    · rw [if_neg w, Int32.add_zero] at ih
      exact ih
    · rw [if_pos (Decidable.not_not.mp w)] at ih
      exact ih
end SP49
