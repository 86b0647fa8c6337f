/-! givings turn by turn: the class's side -/
def am_gs1 (o : Nat → Nat) (e : Nat → Nat → Int32) (q : (Nat → Int32) × (Nat → Int32)) (t c : Nat) : (Nat → Int32) × (Nat → Int32) := (upd q.1 (o t) (nI c), upd q.2 c (q.2 c + e c (o t)))
/-- one turn: whose each door is, what each has -/
def am_gst (r m : Nat) (g o : Nat → Nat) (e : Nat → Nat → Int32) (q : (Nat → Int32) × (Nat → Int32)) (t : Nat) : (Nat → Int32) × (Nat → Int32) :=
  if m = 0 then (upd q.1 (o t) (-2), q.2) else am_gs1 o e q t (am_who r m g (fun c => e c (o t)) q.2 t)
/-- turns from t0 on -/
def am_gv (r m : Nat) (g o : Nat → Nat) (e : Nat → Nat → Int32) (t0 : Nat) (q0 : (Nat → Int32) × (Nat → Int32)) : Nat → (Nat → Int32) × (Nat → Int32)
  | 0 => q0
  | k + 1 => am_gst r m g o e (am_gv r m g o e t0 q0 k) (t0 + k)
theorem am_k38 : ∀ r, r < 5 → am_kd (38 + r) = 2 ∧ am_n (38 + r) = 5 ∧ am_kd (32 + r) = 2 ∧ am_n (32 + r) = 12 ∧ am_kd (26 + r) = 2 ∧ am_n (26 + r) = 12 := by decide
theorem am_upd_f {M : am_MI} {a i : Nat} {v : Int32} : am_ui M a i v a = upd (M a) i v := by
  funext j
  unfold upd
  by_cases e : j = i
  · rw [if_pos e, e, am_ui_k]
  · rw [if_neg e, am_ui_n (fun _ w => e w)]
def am_F33 (r : Nat) : Nat → Nat → Bool := fun c _ => decide (c = 43 ∨ c = 32 + r ∨ c = 38 + r)
section SP43
variable {d n m : Nat} {u : Nat → Nat → Int32} {mi : am_MI} {ml : am_ML} {R : am_R} {r : Nat}
/-- giveBy -/
theorem sp_33 {y : Int32} {g o : Nat → Nat} {e : Nat → Nat → Int32} (hr : r < 5) (hc : am_cx n m u mi) (hg : ∀ j, j < m → mi 24 j = nI (g j) ∧ g j < m) (ho : ∀ t, t < n → mi 23 t = nI (o t) ∧ o t < n) (he : ∀ c i, c < m → i < n → mi (26 + c) i = e c i) (hy : y = nI r)
    (h : ∀ m2, am_kp (am_F33 r) mi m2 → m2 (32 + r) = (am_gv r m g o e 0 (mi (32 + r), fun _ => 0) n).1 → (∀ c, c < m → m2 (38 + r) c = (am_gv r m g o e 0 (mi (32 + r), fun _ => 0) n).2 c) → R none m2 ml) : am_call (d + 5) 33 [.ref 22, .int y] mi ml R := by
  subst hy
  have hn := hc.1
  have hm5 := hc.2.1
  have cr : (nI r).toNatClampNeg = r := nI_clamp (by omega)
  have vr : vp_in (nI r) 5 := vp_in_nI hr (by omega)
  obtain ⟨k1, k2, k3, k4, -⟩ := am_k38 r hr
  have cx : ∀ m2, am_kp (am_F33 r) mi m2 → am_cx n m u m2 := fun m2 k => am_cx_on hc (k 1 1 (decide_eq_false (by omega))) (k 1 2 (decide_eq_false (by omega))) (fun w i hw => k _ _ (decide_eq_false (by omega)))
  have x23 : ∀ m2, am_kp (am_F33 r) mi m2 → ∀ j, m2 23 j = mi 23 j := fun m2 k j => k 23 j (decide_eq_false (by omega))
  have x24 : ∀ m2, am_kp (am_F33 r) mi m2 → ∀ j, m2 24 j = mi 24 j := fun m2 k j => k 24 j (decide_eq_false (by omega))
  have x26 : ∀ m2, am_kp (am_F33 r) mi m2 → ∀ c, c < 5 → ∀ j, m2 (26 + c) j = mi (26 + c) j := fun m2 k c hc j => k (26 + c) j (decide_eq_false (by omega))
  -- what a door is worth to each
  have off : ∀ t, t < n → ∀ w k, k + w = m → ∀ m2, am_kp (am_F33 r) mi m2 → (∀ j, j < k → m2 43 j = e j (o t)) →
      (∀ m3, am_kp (am_F33 r) mi m3 → (∀ j, j < m → m3 43 j = e j (o t)) → m3 (32 + r) = m2 (32 + r) → m3 (38 + r) = m2 (38 + r) → am_call (d + 4) 34 [.ref 22, .int (nI r), .int (nI t), .ref (38 + r)] m3 ml (am_ri fun r1 mi1 ml1 => am_wp (am_call (d + 4)) mt_33 R 8 [some (.ref 22), some (.int (nI r)), some (.int (nI (t + 1))), none, none] [] (am_ui mi1 (32 + r) (o t) r1) ml1)) →
      am_wp (am_call (d + 4)) mt_33 R 20 [some (.ref 22), some (.int (nI r)), some (.int (nI t)), some (.int (nI (o t))), some (.int (nI k))] [] m2 ml := by
    intro t ht w
    have on := (ho t ht).2
    have co : (nI (o t)).toNatClampNeg = o t := nI_clamp (by omega)
    have vo : vp_in (nI (o t)) 12 := vp_in_nI (by omega) (by omega)
    induction w with
    | zero =>
      intro k e1 m2 q2 h2 hh
      have e1 : k = m := e1
      subst e1
      refine bk_33_20 (pk_le _ _ (fun _ => ⟨vr, vr, ?_⟩) (fun w => absurd w (Nat.lt_irrefl _)) (cx m2 q2).2.2.2.1 rfl)
      rw [cr, Nat.one_mul, co, k3, nI_1]
      refine am_call_w ?_ (hh m2 q2 h2 rfl rfl)
      rintro v a b ⟨x, ex, hx⟩
      exact ⟨x, ex, am_need_i rfl ⟨by rw [am_len2 k3, k4]; exact vo, hx⟩⟩
    | succ w ih =>
      intro k e1 m2 q2 h2 hh
      obtain ⟨-, -, -, -, a1, a2⟩ := am_k38 k (by omega)
      have ck : (nI k).toNatClampNeg = k := nI_clamp (by omega)
      have vk : vp_in (nI k) 5 := vp_in_nI (by omega) (by omega)
      refine bk_33_20 (pk_le m k (fun w => absurd w (by omega)) (fun _ => ?_) (cx m2 q2).2.2.2.1 rfl)
      rw [ck, Nat.one_mul, co, am_len2 a1, a1, a2]
      refine ⟨vk, am_need_i rfl ⟨vo, vk, ?_⟩⟩
      rw [nI_1, x26 m2 q2 k (by omega), he k (o t) (by omega) on]
      refine ih (k + 1) (by omega) _ (am_kp_u q2 (decide_eq_true (by omega))) (fun j hj => ?_) (fun m3 q3 h3 e3 e4 => hh m3 q3 h3 ?_ ?_)
      · by_cases e2 : j = k
        · rw [e2, am_ui_k]
        · rw [am_ui_n (fun _ w => e2 w)]
          exact h2 j (by omega)
      · rw [e3]
        funext j
        exact am_ui_c (by omega)
      · rw [e4]
        funext j
        exact am_ui_c (by omega)
  have loop : ∀ w k, k + w = n → ∀ m2, am_kp (am_F33 r) mi m2 → m2 (32 + r) = (am_gv r m g o e 0 (mi (32 + r), fun _ => 0) k).1 → (∀ c, c < m → m2 (38 + r) c = (am_gv r m g o e 0 (mi (32 + r), fun _ => 0) k).2 c) → am_wp (am_call (d + 4)) mt_33 R 8 [some (.ref 22), some (.int (nI r)), some (.int (nI k)), none, none] [] m2 ml := by
    intro w
    induction w with
    | zero =>
      intro k e1 m2 q2 h2 h3
      have e1 : k = n := e1
      subst e1
      exact bk_33_8 (pk_le _ _ (fun _ => h m2 q2 h2 h3) (fun w => absurd w (Nat.lt_irrefl _)) (cx m2 q2).2.2.1 rfl)
    | succ w ih =>
      intro k e1 m2 q2 h2 h3
      have hk : k < n := by omega
      refine bk_33_8 (pk_le n k (fun w => absurd w (by omega)) (fun _ => ⟨vp_in_nI (by omega) (by omega), ?_⟩) (cx m2 q2).2.2.1 rfl)
      rw [nI_clamp (by omega), x23 m2 q2, (ho k hk).1]
      refine off k hk m 0 (Nat.zero_add _) m2 q2 (fun j hj => absurd hj (Nat.not_lt_zero _)) (fun m3 q3 o3 g3 s3 => ?_)
      generalize hq : am_gv r m g o e 0 (mi (32 + r), fun _ => 0) k = q at h2 h3
      have un : am_gv r m g o e 0 (mi (32 + r), fun _ => 0) (k + 1) = am_gst r m g o e q k := by
        show am_gst r m g o e (am_gv r m g o e 0 (mi (32 + r), fun _ => 0) k) (0 + k) = _
        rw [hq, Nat.zero_add]
      have sx : ∀ c, c < m → m3 (38 + r) c = q.2 c := fun c hc => by
        rw [s3]
        exact h3 c hc
      refine sp_34 (g := g) k1 k2 hr (by omega) (cx m3 q3) (fun j hj => by rw [x24 m3 q3 j]; exact hg j hj) rfl rfl (fun m0 => am_ri_i ?_) (fun hp c ec => am_ri_i ?_)
      · have eg : am_gst r m g o e q k = (upd q.1 (o k) (-2), q.2) := if_pos m0
        refine ih (k + 1) (by omega) _ (am_kp_u q3 (decide_eq_true (by omega))) ?_ (fun c hc => ?_)
        · rw [am_upd_f, g3, h2, un, eg]
        · omega
      · have ew := am_who_c (r := r) (g := g) (t := k) (e := m3 43) (e2 := fun c => e c (o k)) (s := m3 (38 + r)) (s2 := q.2) hp o3 sx
        rw [ew] at ec
        have lc := am_who_lt (r := r) (g := g) (e := fun c => e c (o k)) (s := q.2) (t := k) hp (fun j hj => (hg j hj).2)
        rw [← ec] at lc
        have eg : am_gst r m g o e q k = am_gs1 o e q k c := by
          unfold am_gst
          rw [if_neg (by omega), ec]
        refine ih (k + 1) (by omega) _ (am_kp_u (am_kp_u q3 (decide_eq_true (by omega))) (decide_eq_true (by omega))) ?_ (fun c2 hc2 => ?_)
        · rw [am_upd_f, un, eg]
          show upd _ (o k) (nI c) = upd q.1 (o k) (nI c)
          congr 1
          rw [← h2, ← g3]
          funext j
          exact am_ui_c (by omega)
        · rw [am_ui_c (by omega), un, eg, am_upd_f, sx c lc, o3 c lc]
          show upd (m3 (38 + r)) c _ c2 = upd q.2 c (q.2 c + e c (o k)) c2
          unfold upd
          by_cases e2 : c2 = c
          · rw [if_pos e2, if_pos e2]
          · rw [if_neg e2, if_neg e2]
            exact sx c2 hc2
  refine bk_33 ⟨vr, ?_⟩
  rw [cr, Nat.one_mul]
  refine sp_275 k1 (by omega) (fun m2 q0 h2 => am_rv_i ?_)
  have q2 : am_kp (am_F33 r) mi m2 := am_kp_w q0 (fun c j w => decide_eq_false (by have := of_decide_eq_false w; omega))
  refine loop n 0 (Nat.zero_add _) m2 q2 ?_ (fun c hc => h2 c (by omega))
  show m2 (32 + r) = mi (32 + r)
  funext j
  exact q0 (32 + r) j (decide_eq_false (by omega))
end SP43
