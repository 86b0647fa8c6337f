/-! each kind of call: equal answers, and the invariant -/
def am_kI (t : Nat) : Int32 → Int32 → am_MI → am_ML → Prop := fun r1 r2 mi2 ml2 => r1 = r2 ∧ am_I (t + 1) mi2 ml2
def am_kJ (t : Nat) : Int64 → Int64 → am_MI → am_ML → Prop := fun r1 r2 mi2 ml2 => r1 = r2 ∧ am_I (t + 1) mi2 ml2
section SP72
variable {n m nb v1 v2 t : Nat} {u : Nat → Nat → Int32} {P : List (List Nat × List Nat)} {mi : am_MI} {ml : am_ML}
theorem am_I_s (hJ : am_J n m u P nb v1 v2 mi ml) (h : v1 + v2 ≤ 40 * (t + 1)) : am_I (t + 1) mi ml := ⟨n, m, u, P, nb, v1, v2, hJ, h⟩
theorem am_J_W {a b : am_MI} (hJ : am_J n m u P nb v1 v2 a ml) (k : am_kp (am_FV n) a b) (kf : am_fvn P u n m b) : am_J n m u P nb v1 v2 b ml := am_J_V hJ (am_kp_w k (fun c j q => by
  have q := of_decide_eq_false q
  exact decide_eq_false (by omega))) kf (am_fvi_V hJ.2.2.2.2.2.2.2.2.2.2.2.1 k)
theorem am_H1_Z : ∀ c j, am_H1 n c j = false → am_FZ n c j = false := fun c j q => by
  have q := of_decide_eq_false q
  unfold am_FZ
  exact Bool.or_eq_false_iff.mpr ⟨decide_eq_false (by omega), decide_eq_false (by omega)⟩
theorem am_nbm (hp : am_pics mi) (hb : mi 62 1 = nI nb) : mi 78 40 = nI nb := by
  obtain ⟨pb, es, p1, p2, p3, p4⟩ := hp
  rw [p3, ← p2, hb]
theorem am_I_p {b : am_MI} (hJ : am_J n m u P nb v1 v2 mi ml) (hk : am_kp am_F62 mi b) (kp : am_pics b) (kb : b 62 1 = mi 62 1 ∨ b 62 1 = mi 62 1 + 1) (h : v1 + v2 ≤ 40 * t) : am_I (t + 1) b ml := by
  obtain ⟨pb, es, p1, p2, p3⟩ := id kp
  have hb := hJ.2.2.2.2.2.2.2.2.2.1
  have h50 := hJ.2.2.2.2.2.2.2.2.1.1
  have e : pb = nb ∨ pb = nb + 1 := by
    rw [hb, p2, nI_1, nI_eq (by omega) (by omega), nI_eq (by omega) (by omega)] at kb
    exact kb
  exact am_I_s (am_J_P hJ hk kp (nb2 := pb) (by omega) p1 p2) (by omega)
theorem st_0 {x y : Int32} (hI : am_I t mi ml) (ht : t ≤ 512) : am_pr 64 118 [.ref 0, .int x, .int y] 177 [.ref 78, .int x, .int y] mi ml (am_kI t) := by
  obtain ⟨n, m, u, P, nb, v1, v2, hJ, hv⟩ := hI
  obtain ⟨hX, hz, hs, hx, hc, htp, hd, hp, hsv, hb, hf, hw, he1, he2⟩ := id hJ
  exact pr_0 (d := 59) hs hX.2.1 hX.2.2.1 hz he1 (fun r => ⟨rfl, am_I_s hJ (by omega)⟩) (fun h12 k1 k2 mi2 a1 a2 a3 ex ey kx km kz k kv k82 o82 => ⟨rfl, am_I_s (am_J_C hJ (am_kp_w k (fun c j q => by
    have q := of_decide_eq_false q
    exact decide_eq_false (by omega))) kx km (am_ur_d hX.2.2.2 a1 a2 a3 (Nat.le_refl _) (by omega) ex ey rfl) kz (am_chg_m (am_chg_on hc (fun j => k 13 j rfl) (fun j => k 14 j rfl) (fun j => k 103 j rfl) (k 78 37 rfl) (k 78 38 rfl)) (Nat.le_succ _) (Nat.le_refl _)) (am_deeds_n hd (Nat.le_succ _) h12 (fun c j q e => by
    have q := of_decide_eq_true q
    exact k c j (decide_eq_false (by omega))) (fun j hj => o82 j (by omega)) (fun j h1 h2 => by
    rw [show j = n by omega]
    exact k82)) kv (am_new hf hw he1 he2 (k 22 2 rfl) (k 47 2 rfl) kv ((k 15 7 rfl).trans he2) (by omega) (by omega)).1 (am_new hf hw he1 he2 (k 22 2 rfl) (k 47 2 rfl) kv ((k 15 7 rfl).trans he2) (by omega) (by omega)).2) (by omega)⟩)
theorem st_1 {x y z : Int32} (hI : am_I t mi ml) (ht : t ≤ 512) : am_pr 64 119 [.ref 0, .int x, .int y, .int z] 178 [.ref 78, .int x, .int y, .int z] mi ml (am_kI t) := by
  obtain ⟨n, m, u, P, nb, v1, v2, hJ, hv⟩ := hI
  obtain ⟨hX, hz, hs, hx, hc, htp, hd, hp, hsv, hb, hf, hw, he1, he2⟩ := id hJ
  refine pr_1 (d := 58) hs hX.2.1 hX.2.2.1 hz he1 hsv (fun r => ⟨rfl, am_I_s hJ (by omega)⟩) (fun l p f k0 mi2 a1 hk kx km kz k kv k82 o82 => ⟨rfl, ?_⟩)
  have h12 := kx.1
  by_cases e : k0 = 0
  · subst e
    rw [Nat.mul_zero, Nat.add_zero] at kv
    exact am_I_s (am_J_C hJ (am_kp_w k (fun c j q => by
      have q := of_decide_eq_false q
      exact decide_eq_false (by omega))) kx km hX.2.2.2 kz (am_chg_on hc (fun j => k 13 j rfl) (fun j => k 14 j rfl) (fun j => k 103 j rfl) (k 78 37 rfl) (k 78 38 rfl)) (am_deeds_n hd (Nat.le_refl _) kx.1 (fun c j q e => by
      have q := of_decide_eq_true q
      exact k c j (decide_eq_false (by omega))) (fun j hj => o82 j hj) (fun j h1 h2 => absurd h2 (Nat.not_lt.mpr h1))) kv (am_fvn_on hX.2.1.2.1 hf (fun c j q1 q2 => by
      by_cases e1 : c = 1 ∧ j = 3
      · obtain ⟨rfl, rfl⟩ := e1
        rw [kv, he1]
      · exact k c j (decide_eq_false (by omega)))) (am_fvi_on hw (fun c j q1 q2 => k c j (decide_eq_false (by omega))) (by rw [kv, he1]) (k 15 7 rfl))) (by omega)
  · exact am_I_s (am_J_C hJ (am_kp_w k (fun c j q => by
    have q := of_decide_eq_false q
    exact decide_eq_false (by omega))) kx km (am_ur_ds hX.2.2.2 k0 hk) kz (am_chg_m (am_chg_on hc (fun j => k 13 j rfl) (fun j => k 14 j rfl) (fun j => k 103 j rfl) (k 78 37 rfl) (k 78 38 rfl)) (Nat.le_add_right _ _) (Nat.le_refl _)) (am_deeds_n hd (Nat.le_add_right _ _) kx.1 (fun c j q e => by
    have q := of_decide_eq_true q
    exact k c j (decide_eq_false (by omega))) (fun j hj => o82 j hj) (fun j h1 h2 => k82 j h1 h2)) kv (am_new hf hw he1 he2 (k 22 2 rfl) (k 47 2 rfl) kv ((k 15 7 rfl).trans he2) (by omega) (by omega)).1 (am_new hf hw he1 he2 (k 22 2 rfl) (k 47 2 rfl) kv ((k 15 7 rfl).trans he2) (by omega) (by omega)).2) (by omega)
theorem st_2 {x y : Int32} (hI : am_I t mi ml) (ht : t ≤ 512) : am_pr 64 120 [.ref 0, .int x, .int y] 179 [.ref 78, .int x, .int y] mi ml (am_kI t) := by
  obtain ⟨n, m, u, P, nb, v1, v2, hJ, hv⟩ := hI
  obtain ⟨hX, hz, hs, hx, hc, htp, hd, hp, hsv, hb, hf, hw, he1, he2⟩ := id hJ
  exact pr_2 (d := 59) hs hX.2.1 hX.2.2.1 hz he1 (fun r => ⟨rfl, am_I_s hJ (by omega)⟩) (fun h5 k1 k2 mi2 a1 a2 a3 ex ey kx km kz k kv k82 => ⟨rfl, am_I_s (am_J_C hJ (am_kp_w k (fun c j q => by
    have q := of_decide_eq_false q
    exact decide_eq_false (by omega))) kx km (am_ur_c hX.2.2.2 a1 a2 a3 ex ey) kz (am_chg_m (am_chg_on hc (fun j => k 13 j rfl) (fun j => k 14 j rfl) (fun j => k 103 j rfl) (k 78 37 rfl) (k 78 38 rfl)) (Nat.le_refl _) (Nat.le_succ _)) (am_deeds_n hd (Nat.le_refl _) hX.2.1.1 (fun c j q e => by
    have q := of_decide_eq_true q
    exact k c j (decide_eq_false (by omega))) (fun j _ => k82 j) (fun j h1 h2 => absurd h2 (by omega))) kv (am_new hf hw he1 he2 (k 22 2 rfl) (k 47 2 rfl) kv ((k 15 7 rfl).trans he2) (by omega) (by omega)).1 (am_new hf hw he1 he2 (k 22 2 rfl) (k 47 2 rfl) kv ((k 15 7 rfl).trans he2) (by omega) (by omega)).2) (by omega)⟩)
theorem st_3 {v x y : Int32} (hI : am_I t mi ml) (ht : t ≤ 512) : am_pr 64 121 [.ref 0, .int x, .int y, .int v] 184 [.ref 78, .int x, .int y, .int v] mi ml (am_kI t) := by
  obtain ⟨n, m, u, P, nb, v1, v2, hJ, hv⟩ := hI
  obtain ⟨hX, hz, hs, hx, hc, htp, hd, hp, hsv, hb, hf, hw, he1, he2⟩ := id hJ
  exact pr_3 (d := 60) hs hX.2.1 hX.2.2.1 hz he1 hc hX.2.2.2 (fun r => ⟨rfl, am_I_s hJ (by omega)⟩) (fun w i p mi2 a1 a2 a3 kx km kz kc k kv k82 => ⟨rfl, am_I_s (am_J_C hJ k kx km (am_ur_u hX.2.2.2 a2 a3) kz kc (am_deeds_n hd (Nat.le_refl _) hX.2.1.1 (fun c j q e => by
    have q := of_decide_eq_true q
    exact k c j (decide_eq_false (by omega))) (fun j _ => k82 j) (fun j h1 h2 => absurd h2 (by omega))) kv (am_new hf hw he1 he2 (k 22 2 rfl) (k 47 2 rfl) kv ((k 15 7 rfl).trans he2) (by omega) (by omega)).1 (am_new hf hw he1 he2 (k 22 2 rfl) (k 47 2 rfl) kv ((k 15 7 rfl).trans he2) (by omega) (by omega)).2) (by omega)⟩)
theorem st_4 {x y : Int32} (hI : am_I t mi ml) (ht : t ≤ 512) : am_pr 64 122 [.ref 0, .int x, .int y] 185 [.ref 78, .int x, .int y] mi ml (am_kI t) := by
  obtain ⟨n, m, u, P, nb, v1, v2, hJ, hv⟩ := hI
  obtain ⟨hX, hz, hs, hx, hc, htp, hd, hp, hsv, hb, hf, hw, he1, he2⟩ := id hJ
  exact pr_4 (d := 60) hX.2.1 hX.2.2.1 hd (fun r => ⟨rfl, am_I_s hJ (by omega)⟩)
theorem st_5 {x : Int32} (hI : am_I t mi ml) (ht : t ≤ 512) : am_pr 64 123 [.ref 0, .int x] 188 [.ref 78, .int x] mi ml (am_kI t) := by
  obtain ⟨n, m, u, P, nb, v1, v2, hJ, hv⟩ := hI
  obtain ⟨hX, hz, hs, hx, hc, htp, hd, hp, hsv, hb, hf, hw, he1, he2⟩ := id hJ
  exact pr_5 (d := 62) htp (fun r mi2 kt k => ⟨rfl, am_I_s (am_J_T hJ k kt) (by omega)⟩)
theorem st_6 (hI : am_I t mi ml) (ht : t ≤ 512) : am_pr 64 124 [.ref 0] 201 [.ref 78] mi ml (am_kI t) := by
  obtain ⟨n, m, u, P, nb, v1, v2, hJ, hv⟩ := hI
  obtain ⟨hX, hz, hs, hx, hc, htp, hd, hp, hsv, hb, hf, hw, he1, he2⟩ := id hJ
  refine pr_6 (d := 6) hX.1 htp hx (fun r mi2 k kt hh => ⟨rfl, ?_⟩)
  rcases hh with ⟨kl, k7⟩ | ⟨⟨P2, kl⟩, k7⟩
  · exact am_I_s (am_J_L hJ k kt kl (k7.trans he2) (am_fvn_on hX.2.1.2.1 hf (fun c j q1 q2 => by
      by_cases e1 : c = 15 ∧ j = 7
      · obtain ⟨rfl, rfl⟩ := e1
        exact k7
      · exact k c j (decide_eq_false (by omega)))) (am_fvi_on hw (fun c j q1 q2 => k c j (decide_eq_false (by omega))) (k 1 3 rfl) k7)) (by omega)
  · have kv2 : mi2 15 7 = nI (v2 + 1) := by rw [k7, he2, nI_1]
    obtain ⟨z1, z2⟩ := am_new (P2 := P2) (n2 := n) (m2 := m) (u2 := u) hf hw he1 he2 (k 22 2 rfl) (k 47 2 rfl) ((k 1 3 rfl).trans he1) kv2 (by omega) (by omega)
    exact am_I_s (am_J_L hJ k kt kl kv2 z1 z2) (by omega)
theorem st_7 {x y : Int32} (hI : am_I t mi ml) (ht : t ≤ 512) : am_pr 64 125 [.ref 0, .int x, .int y] 205 [.ref 78, .int x, .int y] mi ml (am_kI t) := by
  obtain ⟨n, m, u, P, nb, v1, v2, hJ, hv⟩ := hI
  obtain ⟨hX, hz, hs, hx, hc, htp, hd, hp, hsv, hb, hf, hw, he1, he2⟩ := id hJ
  exact pr_7 (d := 56) hX.1 hX.2.1 hX.2.2.1 (fun r mi2 k => ⟨rfl, am_I_s (am_J_W hJ (am_kp_w k (fun c j q => by
    have q := of_decide_eq_false q
    exact decide_eq_false (by omega))) (am_fvn_on hX.2.1.2.1 hf (fun c j q1 q2 => k c j (decide_eq_false (by omega))))) (by omega)⟩)
theorem st_8 {x : Int32} (hI : am_I t mi ml) (ht : t ≤ 512) : am_pr 64 126 [.ref 0, .int x] 219 [.ref 78, .int x] mi ml (am_kI t) := by
  obtain ⟨n, m, u, P, nb, v1, v2, hJ, hv⟩ := hI
  obtain ⟨hX, hz, hs, hx, hc, htp, hd, hp, hsv, hb, hf, hw, he1, he2⟩ := id hJ
  exact pr_8 (d := 53) hX.1 hX.2.1 hX.2.2.1 hX.2.2.2 hf (fun r mi2 k kf => ⟨rfl, am_I_s (am_J_W hJ (am_kp_w k (fun c j q => by
    have q := of_decide_eq_false q
    exact decide_eq_false (by omega))) kf) (by omega)⟩)
theorem st_9 {x : Int32} (hI : am_I t mi ml) (ht : t ≤ 512) : am_pr 64 127 [.ref 0, .int x] 220 [.ref 78, .int x] mi ml (am_kI t) := by
  obtain ⟨n, m, u, P, nb, v1, v2, hJ, hv⟩ := hI
  obtain ⟨hX, hz, hs, hx, hc, htp, hd, hp, hsv, hb, hf, hw, he1, he2⟩ := id hJ
  exact pr_9 (d := 53) hX.1 hX.2.1 hX.2.2.1 hX.2.2.2 hf (fun r mi2 k kf => ⟨rfl, am_I_s (am_J_W hJ (am_kp_w k (fun c j q => by
    have q := of_decide_eq_false q
    exact decide_eq_false (by omega))) kf) (by omega)⟩)
theorem st_10 {x y : Int32} (hI : am_I t mi ml) (ht : t ≤ 512) : am_pr 64 128 [.ref 0, .int x, .int y] 221 [.ref 78, .int x, .int y] mi ml (am_kI t) := by
  obtain ⟨n, m, u, P, nb, v1, v2, hJ, hv⟩ := hI
  obtain ⟨hX, hz, hs, hx, hc, htp, hd, hp, hsv, hb, hf, hw, he1, he2⟩ := id hJ
  exact pr_10 (d := 53) hX.1 hX.2.1 hX.2.2.1 hX.2.2.2 hf (fun r mi2 k kf => ⟨rfl, am_I_s (am_J_W hJ (am_kp_w k (fun c j q => by
    have q := of_decide_eq_false q
    exact decide_eq_false (by omega))) kf) (by omega)⟩)
theorem st_11 {x : Int32} (hI : am_I t mi ml) (ht : t ≤ 512) : am_pr 64 129 [.ref 0, .int x] 222 [.ref 78, .int x] mi ml (am_kI t) := by
  obtain ⟨n, m, u, P, nb, v1, v2, hJ, hv⟩ := hI
  obtain ⟨hX, hz, hs, hx, hc, htp, hd, hp, hsv, hb, hf, hw, he1, he2⟩ := id hJ
  exact pr_11 (d := 53) hX hf (fun r mi2 k kf => ⟨rfl, am_I_s (am_J_W hJ k kf) (by omega)⟩)
theorem st_12 {x : Int32} (hI : am_I t mi ml) (ht : t ≤ 512) : am_pr 64 130 [.ref 0, .int x] 225 [.ref 78, .int x] mi ml (am_kI t) := by
  obtain ⟨n, m, u, P, nb, v1, v2, hJ, hv⟩ := hI
  obtain ⟨hX, hz, hs, hx, hc, htp, hd, hp, hsv, hb, hf, hw, he1, he2⟩ := id hJ
  exact pr_12 (d := 53) hX hf hw (fun r mi2 k kf kw => ⟨rfl, am_I_s (am_J_V hJ (am_kp_w k am_H1_Z) kf kw) (by omega)⟩)
theorem st_13 (hI : am_I t mi ml) (ht : t ≤ 512) : am_pr 64 131 [.ref 0] 226 [.ref 78] mi ml (am_kI t) := by
  obtain ⟨n, m, u, P, nb, v1, v2, hJ, hv⟩ := hI
  obtain ⟨hX, hz, hs, hx, hc, htp, hd, hp, hsv, hb, hf, hw, he1, he2⟩ := id hJ
  exact pr_13 (d := 53) hX hf hw (fun r mi2 k kf kw => ⟨rfl, am_I_s (am_J_V hJ (am_kp_w k am_H1_Z) kf kw) (by omega)⟩)
theorem st_14 {x : Int32} (hI : am_I t mi ml) (ht : t ≤ 512) : am_pr 64 132 [.ref 0, .int x] 229 [.ref 78, .int x] mi ml (am_kI t) := by
  obtain ⟨n, m, u, P, nb, v1, v2, hJ, hv⟩ := hI
  obtain ⟨hX, hz, hs, hx, hc, htp, hd, hp, hsv, hb, hf, hw, he1, he2⟩ := id hJ
  exact pr_14 (d := 53) hX hf (fun r mi2 k kf => ⟨rfl, am_I_s (am_J_W hJ k kf) (by omega)⟩)
theorem st_15 {x y : Int32} (hI : am_I t mi ml) (ht : t ≤ 512) : am_pr 64 133 [.ref 0, .int x, .int y] 230 [.ref 78, .int x, .int y] mi ml (am_kI t) := by
  obtain ⟨n, m, u, P, nb, v1, v2, hJ, hv⟩ := hI
  obtain ⟨hX, hz, hs, hx, hc, htp, hd, hp, hsv, hb, hf, hw, he1, he2⟩ := id hJ
  exact pr_15 (d := 53) hX hf (fun r mi2 k kf => ⟨rfl, am_I_s (am_J_W hJ k kf) (by omega)⟩)
theorem st_16 {x y : Int32} (hI : am_I t mi ml) (ht : t ≤ 512) : am_pr 64 134 [.ref 0, .int x, .int y] 231 [.ref 78, .int x, .int y] mi ml (am_kI t) := by
  obtain ⟨n, m, u, P, nb, v1, v2, hJ, hv⟩ := hI
  obtain ⟨hX, hz, hs, hx, hc, htp, hd, hp, hsv, hb, hf, hw, he1, he2⟩ := id hJ
  exact pr_16 (d := 53) hX hf (fun r mi2 k kf => ⟨rfl, am_I_s (am_J_W hJ k kf) (by omega)⟩)
theorem st_17 {x y : Int32} (hI : am_I t mi ml) (ht : t ≤ 512) : am_pr 64 135 [.ref 0, .int x, .int y] 232 [.ref 78, .int x, .int y] mi ml (am_kI t) := by
  obtain ⟨n, m, u, P, nb, v1, v2, hJ, hv⟩ := hI
  obtain ⟨hX, hz, hs, hx, hc, htp, hd, hp, hsv, hb, hf, hw, he1, he2⟩ := id hJ
  exact pr_17 (d := 53) hX hf (fun r mi2 k kf => ⟨rfl, am_I_s (am_J_W hJ k kf) (by omega)⟩)
theorem st_18 {x y : Int32} (hI : am_I t mi ml) (ht : t ≤ 512) : am_pr 64 136 [.ref 0, .int x, .int y] 234 [.ref 78, .int x, .int y] mi ml (am_kI t) := by
  obtain ⟨n, m, u, P, nb, v1, v2, hJ, hv⟩ := hI
  obtain ⟨hX, hz, hs, hx, hc, htp, hd, hp, hsv, hb, hf, hw, he1, he2⟩ := id hJ
  exact pr_18 (d := 53) hX hf (fun r mi2 k kf => ⟨rfl, am_I_s (am_J_W hJ k kf) (by omega)⟩)
theorem st_19 {x y : Int32} (hI : am_I t mi ml) (ht : t ≤ 512) : am_pr 64 137 [.ref 0, .int x, .int y] 235 [.ref 78, .int x, .int y] mi ml (am_kI t) := by
  obtain ⟨n, m, u, P, nb, v1, v2, hJ, hv⟩ := hI
  obtain ⟨hX, hz, hs, hx, hc, htp, hd, hp, hsv, hb, hf, hw, he1, he2⟩ := id hJ
  exact pr_19 (d := 53) hX hf (fun r mi2 k kf => ⟨rfl, am_I_s (am_J_W hJ k kf) (by omega)⟩)
theorem st_20 {w x y z : Int32} (hI : am_I t mi ml) (ht : t ≤ 512) : am_pr 64 138 [.ref 0, .int x, .int y, .int z, .int w] 240 [.ref 78, .int x, .int y, .int z, .int w] mi ml (am_kI t) := by
  obtain ⟨n, m, u, P, nb, v1, v2, hJ, hv⟩ := hI
  obtain ⟨hX, hz, hs, hx, hc, htp, hd, hp, hsv, hb, hf, hw, he1, he2⟩ := id hJ
  exact pr_20 (d := 53) hs hsv hX hf (fun r mi2 k kf => ⟨rfl, am_I_s (am_J_W hJ k kf) (by omega)⟩)
theorem st_21 {w x y z : Int32} (hI : am_I t mi ml) (ht : t ≤ 512) : am_pr 64 139 [.ref 0, .int x, .int y, .int z, .int w] 241 [.ref 78, .int x, .int y, .int z, .int w] mi ml (am_kI t) := by
  obtain ⟨n, m, u, P, nb, v1, v2, hJ, hv⟩ := hI
  obtain ⟨hX, hz, hs, hx, hc, htp, hd, hp, hsv, hb, hf, hw, he1, he2⟩ := id hJ
  exact pr_21 (d := 53) hs hsv hX hf (fun r mi2 k kf => ⟨rfl, am_I_s (am_J_W hJ k kf) (by omega)⟩)
theorem st_22 {x y : Int32} (hI : am_I t mi ml) (ht : t ≤ 512) : am_pr 64 140 [.ref 0, .int x, .int y] 243 [.ref 78, .int x, .int y] mi ml (am_kI t) := by
  obtain ⟨n, m, u, P, nb, v1, v2, hJ, hv⟩ := hI
  obtain ⟨hX, hz, hs, hx, hc, htp, hd, hp, hsv, hb, hf, hw, he1, he2⟩ := id hJ
  exact pr_22 (d := 53) hsv hX hf (fun r mi2 k kf => ⟨rfl, am_I_s (am_J_W hJ k kf) (by omega)⟩)
theorem st_23 {x : Int32} (hI : am_I t mi ml) (ht : t ≤ 512) : am_pr 64 141 [.ref 0, .int x] 244 [.ref 78, .int x] mi ml (am_kI t) := by
  obtain ⟨n, m, u, P, nb, v1, v2, hJ, hv⟩ := hI
  obtain ⟨hX, hz, hs, hx, hc, htp, hd, hp, hsv, hb, hf, hw, he1, he2⟩ := id hJ
  exact pr_23 (d := 53) hsv hX hf (fun r mi2 k kf => ⟨rfl, am_I_s (am_J_W hJ k kf) (by omega)⟩)
theorem st_24 {x y : Int32} (hI : am_I t mi ml) (ht : t ≤ 512) : am_pr 64 142 [.ref 0, .int x, .int y] 245 [.ref 78, .int x, .int y] mi ml (am_kI t) := by
  obtain ⟨n, m, u, P, nb, v1, v2, hJ, hv⟩ := hI
  obtain ⟨hX, hz, hs, hx, hc, htp, hd, hp, hsv, hb, hf, hw, he1, he2⟩ := id hJ
  exact pr_24 (d := 53) hs hX hf (fun r mi2 k kf => ⟨rfl, am_I_s (am_J_W hJ k kf) (by omega)⟩)
theorem st_25 {x y : Int32} (hI : am_I t mi ml) (ht : t ≤ 512) : am_pr 64 143 [.ref 0, .int x, .int y] 246 [.ref 78, .int x, .int y] mi ml (am_kI t) := by
  obtain ⟨n, m, u, P, nb, v1, v2, hJ, hv⟩ := hI
  obtain ⟨hX, hz, hs, hx, hc, htp, hd, hp, hsv, hb, hf, hw, he1, he2⟩ := id hJ
  exact pr_25 (d := 53) hX hf (fun r mi2 k kf => ⟨rfl, am_I_s (am_J_W hJ k kf) (by omega)⟩)
theorem st_26 {x y z : Int32} (hI : am_I t mi ml) (ht : t ≤ 512) : am_pr 64 144 [.ref 0, .int z, .int y, .int x] 247 [.ref 78, .int z, .int y, .int x] mi ml (am_kI t) := by
  obtain ⟨n, m, u, P, nb, v1, v2, hJ, hv⟩ := hI
  obtain ⟨hX, hz, hs, hx, hc, htp, hd, hp, hsv, hb, hf, hw, he1, he2⟩ := id hJ
  exact pr_26 (d := 53) hX hf (fun r mi2 k kf => ⟨rfl, am_I_s (am_J_W hJ k kf) (by omega)⟩)
theorem st_27 (hI : am_I t mi ml) (ht : t ≤ 512) : am_pr 64 145 [.ref 0] 248 [.ref 78] mi ml (am_kI t) := by
  obtain ⟨n, m, u, P, nb, v1, v2, hJ, hv⟩ := hI
  obtain ⟨hX, hz, hs, hx, hc, htp, hd, hp, hsv, hb, hf, hw, he1, he2⟩ := id hJ
  exact pr_27 (d := 62) hd (fun r mi2 kd k => ⟨rfl, am_I_s (am_J_D hJ (am_kp_w k (fun c j q => by
    have q := of_decide_eq_false q
    exact decide_eq_false (by omega))) kd) (by omega)⟩)
theorem st_28 {x y : Int32} (hI : am_I t mi ml) (ht : t ≤ 512) : am_pr 64 146 [.ref 0, .int x, .int y] 249 [.ref 78, .int x, .int y] mi ml (am_kI t) := by
  obtain ⟨n, m, u, P, nb, v1, v2, hJ, hv⟩ := hI
  obtain ⟨hX, hz, hs, hx, hc, htp, hd, hp, hsv, hb, hf, hw, he1, he2⟩ := id hJ
  exact pr_28 (d := 56) hX.1 hX.2.1 hX.2.2.1 hd (fun r mi2 kd k => ⟨rfl, am_I_s (am_J_D hJ (am_kp_w k (fun c j q => by
    have q := of_decide_eq_false q
    exact decide_eq_false (by omega))) kd) (by omega)⟩)
theorem st_29 (hI : am_I t mi ml) (ht : t ≤ 512) : am_pr 64 147 [.ref 0] 250 [.ref 78] mi ml (am_kI t) := by
  obtain ⟨n, m, u, P, nb, v1, v2, hJ, hv⟩ := hI
  obtain ⟨hX, hz, hs, hx, hc, htp, hd, hp, hsv, hb, hf, hw, he1, he2⟩ := id hJ
  exact pr_29 (d := 61) hX.2.1 hX.2.2.1 hd (fun r => ⟨rfl, am_I_s hJ (by omega)⟩)
theorem st_30 {x : Int32} (hI : am_I t mi ml) (ht : t ≤ 512) : am_pr 64 148 [.ref 0, .int x] 251 [.ref 78, .int x] mi ml (am_kI t) := by
  obtain ⟨n, m, u, P, nb, v1, v2, hJ, hv⟩ := hI
  obtain ⟨hX, hz, hs, hx, hc, htp, hd, hp, hsv, hb, hf, hw, he1, he2⟩ := id hJ
  exact pr_30 (d := 62) hd (fun r => ⟨rfl, am_I_s hJ (by omega)⟩)
theorem st_31 (hI : am_I t mi ml) (ht : t ≤ 512) : am_pr 64 149 [.ref 0] 252 [.ref 78] mi ml (am_kI t) := by
  obtain ⟨n, m, u, P, nb, v1, v2, hJ, hv⟩ := hI
  obtain ⟨hX, hz, hs, hx, hc, htp, hd, hp, hsv, hb, hf, hw, he1, he2⟩ := id hJ
  exact pr_31 (d := 62) hX.2.2.1 hd (fun r mi2 kd k => ⟨rfl, am_I_s (am_J_D hJ (am_kp_w k (fun c j q => by
    have q := of_decide_eq_false q
    exact decide_eq_false (by omega))) kd) (by omega)⟩)
theorem st_32 (hI : am_I t mi ml) (ht : t ≤ 512) : am_pr 64 150 [.ref 0] 253 [.ref 78] mi ml (am_kI t) := by
  obtain ⟨n, m, u, P, nb, v1, v2, hJ, hv⟩ := hI
  obtain ⟨hX, hz, hs, hx, hc, htp, hd, hp, hsv, hb, hf, hw, he1, he2⟩ := id hJ
  exact pr_32 (d := 62) hX.2.2.1 hd (fun r mi2 kd k => ⟨rfl, am_I_s (am_J_D hJ (am_kp_w k (fun c j q => by
    have q := of_decide_eq_false q
    exact decide_eq_false (by omega))) kd) (by omega)⟩)
theorem st_33 (hI : am_I t mi ml) (ht : t ≤ 512) : am_pr 64 151 [.ref 0] 186 [.ref 78] mi ml (am_kI t) := by
  obtain ⟨n, m, u, P, nb, v1, v2, hJ, hv⟩ := hI
  obtain ⟨hX, hz, hs, hx, hc, htp, hd, hp, hsv, hb, hf, hw, he1, he2⟩ := id hJ
  exact pr_33 (d := 59) hX.2.1 hX.2.2.1 hz he1 hc (fun r => ⟨rfl, am_I_s hJ (by omega)⟩) (fun r w i p mi2 a1 a2 a3 kx km kz kc k kv k82 => ⟨rfl, am_I_s (am_J_C hJ k kx km (am_ur_u hX.2.2.2 a2 a3) kz kc (am_deeds_n hd (Nat.le_refl _) hX.2.1.1 (fun c j q e => by
    have q := of_decide_eq_true q
    exact k c j (decide_eq_false (by omega))) (fun j _ => k82 j) (fun j h1 h2 => absurd h2 (by omega))) kv (am_new hf hw he1 he2 (k 22 2 rfl) (k 47 2 rfl) kv ((k 15 7 rfl).trans he2) (by omega) (by omega)).1 (am_new hf hw he1 he2 (k 22 2 rfl) (k 47 2 rfl) kv ((k 15 7 rfl).trans he2) (by omega) (by omega)).2) (by omega)⟩)
theorem st_34 (hI : am_I t mi ml) (ht : t ≤ 512) : am_pr 64 152 [.ref 0] 187 [.ref 78] mi ml (am_kI t) := by
  obtain ⟨n, m, u, P, nb, v1, v2, hJ, hv⟩ := hI
  obtain ⟨hX, hz, hs, hx, hc, htp, hd, hp, hsv, hb, hf, hw, he1, he2⟩ := id hJ
  exact pr_34 (d := 59) hX.2.1 hX.2.2.1 hz he1 hc (fun r => ⟨rfl, am_I_s hJ (by omega)⟩) (fun r w i p mi2 a1 a2 a3 kx km kz kc k kv k82 => ⟨rfl, am_I_s (am_J_C hJ k kx km (am_ur_u hX.2.2.2 a2 a3) kz kc (am_deeds_n hd (Nat.le_refl _) hX.2.1.1 (fun c j q e => by
    have q := of_decide_eq_true q
    exact k c j (decide_eq_false (by omega))) (fun j _ => k82 j) (fun j h1 h2 => absurd h2 (by omega))) kv (am_new hf hw he1 he2 (k 22 2 rfl) (k 47 2 rfl) kv ((k 15 7 rfl).trans he2) (by omega) (by omega)).1 (am_new hf hw he1 he2 (k 22 2 rfl) (k 47 2 rfl) kv ((k 15 7 rfl).trans he2) (by omega) (by omega)).2) (by omega)⟩)
theorem st_35 {x : Int32} (hI : am_I t mi ml) (ht : t ≤ 512) : am_pr 64 153 [.ref 0, .int x] 260 [.ref 78, .int x] mi ml (am_kI t) := by
  obtain ⟨n, m, u, P, nb, v1, v2, hJ, hv⟩ := hI
  obtain ⟨hX, hz, hs, hx, hc, htp, hd, hp, hsv, hb, hf, hw, he1, he2⟩ := id hJ
  exact pr_35 (d := 62) hp (fun r mi2 kp k kb => ⟨rfl, am_I_p hJ k kp kb hv⟩)
theorem st_36 {x y z : Int32} (hI : am_I t mi ml) (ht : t ≤ 512) : am_pr 64 154 [.ref 0, .int x, .int y, .int z] 261 [.ref 78, .int x, .int y, .int z] mi ml (am_kI t) := by
  obtain ⟨n, m, u, P, nb, v1, v2, hJ, hv⟩ := hI
  obtain ⟨hX, hz, hs, hx, hc, htp, hd, hp, hsv, hb, hf, hw, he1, he2⟩ := id hJ
  exact pr_36 (d := 50) hs hp (fun r mi2 kp k kb => ⟨rfl, am_I_s (am_J_P hJ k kp (Nat.le_refl _) hsv.1 (kb.trans hb)) (by omega)⟩)
theorem st_37 {x : Int32} (hI : am_I t mi ml) (ht : t ≤ 512) : am_pr 64 155 [.ref 0, .int x] 262 [.ref 78, .int x] mi ml (am_kI t) := by
  obtain ⟨n, m, u, P, nb, v1, v2, hJ, hv⟩ := hI
  obtain ⟨hX, hz, hs, hx, hc, htp, hd, hp, hsv, hb, hf, hw, he1, he2⟩ := id hJ
  exact pr_37 (d := 61) hp (fun r => ⟨rfl, am_I_s hJ (by omega)⟩)
theorem st_38 {x y : Int32} (hI : am_I t mi ml) (ht : t ≤ 512) : am_pr 64 156 [.ref 0, .int x, .int y] 263 [.ref 78, .int x, .int y] mi ml (am_kI t) := by
  obtain ⟨n, m, u, P, nb, v1, v2, hJ, hv⟩ := hI
  obtain ⟨hX, hz, hs, hx, hc, htp, hd, hp, hsv, hb, hf, hw, he1, he2⟩ := id hJ
  exact pr_38 (d := 61) hb (am_nbm hp hb) hsv (fun r mi2 kv k => ⟨rfl, am_I_s (am_J_S hJ k kv) (by omega)⟩)
theorem st_39 {x y z : Int32} (hI : am_I t mi ml) (ht : t ≤ 512) : am_pr 64 157 [.ref 0, .int x, .int y, .int z] 264 [.ref 78, .int x, .int y, .int z] mi ml (am_kI t) := by
  obtain ⟨n, m, u, P, nb, v1, v2, hJ, hv⟩ := hI
  obtain ⟨hX, hz, hs, hx, hc, htp, hd, hp, hsv, hb, hf, hw, he1, he2⟩ := id hJ
  exact pr_39 (d := 61) hsv (fun r mi2 ml2 kv k => ⟨rfl, am_I_s (am_J_S hJ k kv) (by omega)⟩)
theorem st_40 {x y : Int32} {v : Int64} (hI : am_I t mi ml) (ht : t ≤ 512) : am_pr 64 158 [.ref 0, .int x, .int y, .long v] 267 [.ref 78, .int x, .int y, .long v] mi ml (am_kI t) := by
  obtain ⟨n, m, u, P, nb, v1, v2, hJ, hv⟩ := hI
  obtain ⟨hX, hz, hs, hx, hc, htp, hd, hp, hsv, hb, hf, hw, he1, he2⟩ := id hJ
  exact pr_40 (d := 61) hsv (fun r ml2 kv => ⟨rfl, am_I_s (am_J_S hJ am_kp_r kv) (by omega)⟩)
theorem st_41 {x y : Int32} (hI : am_I t mi ml) (ht : t ≤ 512) : am_prj 64 159 [.ref 0, .int x, .int y] 268 [.ref 78, .int x, .int y] mi ml (am_kJ t) := by
  obtain ⟨n, m, u, P, nb, v1, v2, hJ, hv⟩ := hI
  obtain ⟨hX, hz, hs, hx, hc, htp, hd, hp, hsv, hb, hf, hw, he1, he2⟩ := id hJ
  exact pr_41 (d := 61) hsv (fun r => ⟨rfl, am_I_s hJ (by omega)⟩)
theorem st_42 {v w x y z : Int32} (hI : am_I t mi ml) (ht : t ≤ 512) : am_pr 64 160 [.ref 0, .int x, .int y, .int z, .int v, .int w] 269 [.ref 78, .int x, .int y, .int z, .int v, .int w] mi ml (am_kI t) := by
  obtain ⟨n, m, u, P, nb, v1, v2, hJ, hv⟩ := hI
  obtain ⟨hX, hz, hs, hx, hc, htp, hd, hp, hsv, hb, hf, hw, he1, he2⟩ := id hJ
  exact pr_42 (d := 61) hsv (fun r ml2 kv => ⟨rfl, am_I_s (am_J_S hJ am_kp_r kv) (by omega)⟩)
theorem st_43 {x y : Int32} (hI : am_I t mi ml) (ht : t ≤ 512) : am_pr 64 161 [.ref 0, .int x, .int y] 270 [.ref 78, .int x, .int y] mi ml (am_kI t) := by
  obtain ⟨n, m, u, P, nb, v1, v2, hJ, hv⟩ := hI
  obtain ⟨hX, hz, hs, hx, hc, htp, hd, hp, hsv, hb, hf, hw, he1, he2⟩ := id hJ
  exact pr_43 (d := 61) hs hp hb hsv (fun r => ⟨rfl, am_I_s hJ (by omega)⟩)
theorem st_44 {x : Int32} (hI : am_I t mi ml) (ht : t ≤ 512) : am_pr 64 162 [.ref 0, .int x] 271 [.ref 78, .int x] mi ml (am_kI t) := by
  obtain ⟨n, m, u, P, nb, v1, v2, hJ, hv⟩ := hI
  obtain ⟨hX, hz, hs, hx, hc, htp, hd, hp, hsv, hb, hf, hw, he1, he2⟩ := id hJ
  obtain ⟨tt, t1, t2, t3, t4⟩ := htp
  obtain ⟨ck, cc, c1, c2, c3, c4, c5, c6⟩ := hc
  obtain ⟨pb, es, p1, p2, p3, p4, p5, p6⟩ := hp
  exact pr_44 (d := 63) (hX.2.1.2.2.1.trans hX.2.2.1.2.2.1.symm) (hX.2.1.2.2.2.1.trans hX.2.2.1.2.2.2.1.symm) (t2.trans t3.symm) (c3.trans c5.symm) (p2.trans p3.symm) (p5.2.1.trans p6.2.1.symm) (fun r => ⟨rfl, am_I_s hJ (by omega)⟩)
end SP72
