/-! givings turn by turn: the reference's side -/
def am_god (u : Nat → Nat → Int32) (t0 k t : Nat) : Nat := am_srt (am_led u) t0 k (t - t0)
def am_gg (u : Nat → Nat → Int32) (m : Nat) : Nat → Nat := am_srt (am_lea u) 0 m
def am_ge (P : List (List Nat × List Nat)) (u : Nat → Nat → Int32) (c i : Nat) : Int32 := am_ea P u c i (u 2 i)
/-- what was there before counts for nothing once each door was given -/
theorem am_gv_i {r m : Nat} {g o : Nat → Nat} {e : Nat → Nat → Int32} {t0 : Nat} {q p : (Nat → Int32) × (Nat → Int32)} (hg : ∀ j, j < m → g j < m) (h : ∀ c, c < m → q.2 c = p.2 c) : ∀ k, (∀ c, c < m → (am_gv r m g o e t0 q k).2 c = (am_gv r m g o e t0 p k).2 c) ∧ ∀ j, j < k → (am_gv r m g o e t0 q k).1 (o (t0 + j)) = (am_gv r m g o e t0 p k).1 (o (t0 + j))
  | 0 => ⟨h, fun j hj => absurd hj (Nat.not_lt_zero _)⟩
  | k + 1 => by
    obtain ⟨i1, i2⟩ := am_gv_i (r := r) (g := g) (o := o) (e := e) (t0 := t0) hg h k
    show (∀ c, c < m → (am_gst r m g o e (am_gv r m g o e t0 q k) (t0 + k)).2 c = (am_gst r m g o e (am_gv r m g o e t0 p k) (t0 + k)).2 c) ∧ ∀ j, j < k + 1 → (am_gst r m g o e (am_gv r m g o e t0 q k) (t0 + k)).1 (o (t0 + j)) = (am_gst r m g o e (am_gv r m g o e t0 p k) (t0 + k)).1 (o (t0 + j))
    generalize am_gv r m g o e t0 q k = q at *
    generalize am_gv r m g o e t0 p k = p at *
    have step : ∀ v j, j < k + 1 → upd q.1 (o (t0 + k)) v (o (t0 + j)) = upd p.1 (o (t0 + k)) v (o (t0 + j)) := by
      intro v j hj
      unfold upd
      by_cases ej : o (t0 + j) = o (t0 + k)
      · rw [if_pos ej, if_pos ej]
      · rw [if_neg ej, if_neg ej]
        refine i2 j ?_
        have : ¬ j = k := fun w => ej (by rw [w])
        omega
    by_cases m0 : m = 0
    · unfold am_gst
      rw [if_pos m0, if_pos m0]
      exact ⟨i1, step _⟩
    · unfold am_gst
      rw [if_neg m0, if_neg m0]
      have hp : 0 < m := by omega
      have ew := am_who_c (r := r) (g := g) (t := t0 + k) (e := fun c => e c (o (t0 + k))) (e2 := fun c => e c (o (t0 + k))) (s := q.2) (s2 := p.2) hp (fun _ _ => rfl) i1
      have lw := am_who_lt (r := r) (g := g) (t := t0 + k) (e := fun c => e c (o (t0 + k))) (s := p.2) hp hg
      rw [ew]
      generalize am_who r m g (fun c => e c (o (t0 + k))) p.2 (t0 + k) = w at *
      refine ⟨fun c hc => ?_, step _⟩
      show upd q.2 w (q.2 w + e w (o (t0 + k))) c = upd p.2 w (p.2 w + e w (o (t0 + k))) c
      rw [i1 w lw]
      unfold upd
      by_cases ec : c = w
      · rw [if_pos ec, if_pos ec]
      · rw [if_neg ec, if_neg ec]
        exact i1 c hc
def am_FG : Nat → Nat → Bool := fun c _ => decide (c = 98 ∨ c = 99 ∨ c = 109 ∨ c = 110 ∨ c = 111 ∨ c = 112)
section SP44
variable {d n m : Nat} {u : Nat → Nat → Int32} {mi : am_MI} {ml : am_ML} {R : am_R} {r : Nat} {P : List (List Nat × List Nat)}
theorem am_lwr_kG {a b : am_MI} (h : am_lwr P a) (hk : am_kp am_FG a b) : am_lwr P b := am_lwr_on h (hk _ _ rfl) (hk _ _ rfl) (hk _ _ rfl) (fun j => hk _ _ rfl) (fun c j q1 q2 => hk _ _ (decide_eq_false (by omega))) (hk _ _ rfl) (fun j => hk _ _ rfl)
theorem am_cm_kG {a b : am_MI} (h : am_cm n m u a) (hk : am_kp am_FG a b) : am_cm n m u b := by
  refine ⟨h.1, h.2.1, (hk 78 0 rfl).trans h.2.2.1, (hk 78 5 rfl).trans h.2.2.2.1, fun w i hv => ?_⟩
  have hr := am_mc_r w (by unfold am_val at hv; omega)
  exact (hk _ _ (decide_eq_false (by omega))).trans (h.2.2.2.2 w i hv)
theorem am_kG_m {a b : am_MI} (h : am_kp am_F98b a b) : am_kp am_FG a b := am_kp_w h (fun c j q => by
  have q := of_decide_eq_false q
  exact decide_eq_false (by omega))
theorem am_kG_9 {a b : am_MI} (h : am_kp am_F109 a b) : am_kp am_FG a b := am_kp_w h (fun c j q => by
  have q := of_decide_eq_false q
  exact decide_eq_false (by omega))
theorem am_kG_2 {a b : am_MI} (h : am_kp am_F112 a b) : am_kp am_FG a b := am_kp_w h (fun c j q => by
  have q := of_decide_eq_false q
  exact decide_eq_false (by omega))
theorem am_gg_lt : ∀ j, j < m → am_gg u m j < m := fun j hj => by
  have := am_srt_b (am_lea u) 0 m j hj
  unfold am_gg
  omega
/-- goes -/
theorem sp_212 {x y z : Int32} {t0 k : Nat} (hr : r < 5) (hl : am_lwr P mi) (hc : am_cm n m u mi) (hu : am_ur n m u) (hg : ∀ j, j < m → mi 112 j = nI (am_gg u m j)) (hk : t0 + k ≤ n) (hx : x = nI r) (hy : y = nI t0) (hz : z = nI (t0 + k))
    (h : ∀ m2, am_kp am_FG mi m2 → m2 110 = (am_gv r m (am_gg u m) (am_god u t0 k) (am_ge P u) t0 (mi 110, mi 111) k).1 → m2 111 = (am_gv r m (am_gg u m) (am_god u t0 k) (am_ge P u) t0 (mi 110, mi 111) k).2 → R none m2 ml) : am_call (d + 6) 212 [.ref 78, .int x, .int y, .int z] mi ml R := by
  subst hx
  have hn := hc.1
  have hm5 := hc.2.1
  refine bk_212 (sp_209 (u := u) hy hz (by omega) (fun i _ hi => hc.2.2.2.2 0 i (am_vd (by omega) (by omega))) (fun mo ko oo => am_rv_i ?_))
  subst hy
  subst hz
  have o9 : ∀ m2, am_kp am_FG mi m2 → (∀ i, m2 109 i = mo 109 i) → ∀ j, j < k → m2 109 (t0 + j) = nI (am_god u t0 k (t0 + j)) := by
    intro m2 _ e j hj
    rw [e, oo j hj]
    unfold am_god
    rw [show t0 + j - t0 = j from by omega]
  have on : ∀ j, j < k → am_god u t0 k (t0 + j) < n := by
    intro j hj
    unfold am_god
    rw [show t0 + j - t0 = j from by omega]
    have := am_srt_b (am_led u) t0 k j hj
    omega
  have loop : ∀ w j, j + w = k → ∀ m2, am_kp am_FG mi m2 → (∀ i, m2 109 i = mo 109 i) → (∀ i, m2 112 i = mi 112 i) → m2 110 = (am_gv r m (am_gg u m) (am_god u t0 k) (am_ge P u) t0 (mi 110, mi 111) j).1 → m2 111 = (am_gv r m (am_gg u m) (am_god u t0 k) (am_ge P u) t0 (mi 110, mi 111) j).2 →
      am_wp (am_call (d + 5)) mt_212 R 6 [some (.ref 78), some (.int (nI r)), none, some (.int (nI (t0 + k))), some (.int (nI (t0 + j))), none] [] m2 ml := by
    intro w
    induction w with
    | zero =>
      intro j e m2 k2 _ _ h1 h2
      have e : j = k := e
      subst e
      exact bk_212_6 (pk_le _ _ (fun _ => h m2 k2 h1 h2) (fun w => absurd w (Nat.lt_irrefl _)) rfl rfl)
    | succ w ih =>
      intro j e m2 k2 e9 e12 h1 h2
      have hj : j < k := by omega
      have oj := o9 m2 k2 e9 j hj
      have onj := on j hj
      have ih := ih (j + 1) (by omega)
      have un : am_gv r m (am_gg u m) (am_god u t0 k) (am_ge P u) t0 (mi 110, mi 111) (j + 1) = am_gst r m (am_gg u m) (am_god u t0 k) (am_ge P u) (am_gv r m (am_gg u m) (am_god u t0 k) (am_ge P u) t0 (mi 110, mi 111) j) (t0 + j) := rfl
      rw [un] at ih
      generalize am_gv r m (am_gg u m) (am_god u t0 k) (am_ge P u) t0 (mi 110, mi 111) j = q at h1 h2 ih
      generalize hoo : am_god u t0 k (t0 + j) = i at oj onj
      have ct : (nI (t0 + j)).toNatClampNeg = t0 + j := nI_clamp (by omega)
      have ci : (nI i).toNatClampNeg = i := nI_clamp (by omega)
      have vt : vp_in (nI (t0 + j)) 24 := vp_in_nI (by omega) (by omega)
      have vi : vp_in (nI i) 24 := vp_in_nI (by omega) (by omega)
      refine bk_212_6 (pk_le (t0 + k) (t0 + j) (fun w => absurd w (by omega)) (fun _ => ?_) rfl rfl)
      rw [ct, oj, ci, nI_1, (am_cm_kG hc k2).2.2.2.1]
      refine ⟨vt, vi, fun w => ?_, fun w => ?_⟩
      · have hp : 0 < m := by
          rcases Nat.eq_zero_or_pos m with q | q
          · rw [q] at w
            exact absurd rfl w
          · exact q
        generalize hA : am_ui m2 110 i (-2) = A
        have kA : am_kp am_FG m2 A := by
          rw [← hA]
          exact am_kp_u am_kp_r rfl
        have k2A := am_kp_t k2 kA
        have A9 : ∀ j, A 109 j = m2 109 j := fun j => by rw [← hA, am_ui_c (by decide)]
        have A11 : A 111 = q.2 := by
          rw [← h2, ← hA]
          funext j
          exact am_ui_c (by decide)
        have A12 : ∀ j, A 112 j = m2 112 j := fun j => by rw [← hA, am_ui_c (by decide)]
        have A10 : A 110 = upd q.1 i (-2) := by rw [← hA, am_upd_f, h1]
        refine sp_211 (g := am_gg u m) (o := am_god u t0 k) (t := t0 + j) hr (by omega) (am_lwr_kG hl k2A) (am_cm_kG hc k2A) hu hp (fun j hj => by rw [A12, e12]; exact hg j hj) (by rw [A9, oj, hoo]) (by omega) rfl rfl (fun m3 k3 => am_ri_i ?_)
        rw [A11, hoo]
        have lc := am_who_lt (r := r) (g := am_gg u m) (e := fun c => am_ge P u c i) (s := q.2) (t := t0 + j) hp am_gg_lt
        have eg : am_gst r m (am_gg u m) (am_god u t0 k) (am_ge P u) q (t0 + j) = am_gs1 (am_god u t0 k) (am_ge P u) q (t0 + j) (am_who r m (am_gg u m) (fun c => am_ge P u c i) q.2 (t0 + j)) := by
          unfold am_gst
          rw [if_neg (by omega), hoo]
        rw [eg] at ih
        change vp_in _ _ ∧ _
        have ec : am_who r m (am_gg u m) (fun c => am_ea P u c i (u 2 i)) q.2 (t0 + j) = am_who r m (am_gg u m) (fun c => am_ge P u c i) q.2 (t0 + j) := rfl
        rw [ec]
        generalize am_who r m (am_gg u m) (fun c => am_ge P u c i) q.2 (t0 + j) = c at lc ih
        have cc : (nI c).toNatClampNeg = c := nI_clamp (by omega)
        have vc : vp_in (nI c) 5 := vp_in_nI (by omega) (by omega)
        have k23 := am_kp_t k2A (am_kG_m k3)
        have j3 : m3 109 (t0 + j) = nI i := by rw [k3 109 _ rfl, A9, oj]
        rw [j3, ci, cc]
        have k4 : am_kp am_FG mi (am_ui m3 110 i (nI c)) := am_kp_u k23 rfl
        refine ⟨vt, vi, vc, vt, sp_208 (am_lwr_kG hl k4) (am_cm_kG hc k4) hu lc onj rfl rfl (fun m5 k5 => am_ri_i ⟨vc, ?_⟩)⟩
        have k45 := am_kp_t k4 (am_kG_m k5)
        refine ih _ (am_kp_u k45 rfl) (fun j => ?_) (fun j => ?_) ?_ ?_
        · rw [am_ui_c (by decide), k5 109 j rfl, am_ui_c (by decide), k3 109 j rfl, A9, e9]
        · rw [am_ui_c (by decide), k5 112 j rfl, am_ui_c (by decide), k3 112 j rfl, A12, e12]
        · show _ = upd q.1 (am_god u t0 k (t0 + j)) (nI c)
          rw [hoo]
          funext s
          rw [am_ui_c (by decide), k5 110 s rfl, am_upd_f]
          unfold upd
          by_cases es : s = i
          · rw [if_pos es, if_pos es]
          · rw [if_neg es, if_neg es, k3 110 s rfl, A10]
            unfold upd
            rw [if_neg es]
        · show _ = upd q.2 c (q.2 c + am_ge P u c (am_god u t0 k (t0 + j)))
          rw [hoo, am_upd_f]
          have m31 : m3 111 = q.2 := by
            rw [← A11]
            funext s
            exact k3 111 s rfl
          have m51 : m5 111 = q.2 := by
            rw [← m31]
            funext s
            rw [k5 111 s rfl, am_ui_c (by decide)]
          rw [m51, m31]
          rfl
      · have m0 : m = 0 := by
          have w := Decidable.not_not.mp w
          exact (nI_eq (a := m) (b := 0) (by omega) (by omega)).mp w
        have eg : am_gst r m (am_gg u m) (am_god u t0 k) (am_ge P u) q (t0 + j) = (upd q.1 i (-2), q.2) := by
          unfold am_gst
          rw [if_pos m0, hoo]
        rw [eg] at ih
        refine ih _ (am_kp_u k2 rfl) (fun j => ?_) (fun j => ?_) ?_ ?_
        · rw [am_ui_c (by decide), e9]
        · rw [am_ui_c (by decide), e12]
        · rw [am_upd_f, h1]
        · rw [← h2]
          funext s
          exact am_ui_c (by decide)
  refine loop k 0 (Nat.zero_add _) mo (am_kG_9 ko) (fun _ => rfl) (fun i => ko 112 i rfl) ?_ ?_
  · funext s
    exact ko 110 s rfl
  · funext s
    exact ko 111 s rfl
end SP44
