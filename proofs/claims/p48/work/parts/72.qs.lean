/-! the questions that read a shelf, and those of deeds, numbers, worth -/
def dq_E (n : Nat) (u : Nat → Nat → Int32) (f : Nat → Int32) (l : Nat) (z : Int32) : Int32 := am_erl n u f z l
/-- who could have been -/
def dq_who (P : List (List Nat × List Nat)) (u : Nat → Nat → Int32) (n m r : Nat) (f : Nat → Int32) (l : Nat) (z : Int32) : Int32 := am_cbe n m u (am_gvn P u n m r).1 (am_erl n u f z l) z
def dq_fns (P : List (List Nat × List Nat)) (u : Nat → Nat → Int32) (n m : Nat) (f : Nat → Int32) (l r : Nat) : Int32 := am_fns (am_sop n m (am_gvn P u n m r).1 f) l 0
def dq_byw (P : List (List Nat × List Nat)) (u : Nat → Nat → Int32) (n m : Nat) (f : Nat → Int32) (l : Nat) : Int32 := am_bt (fun r => decide (dq_fns P u n m f l r = -2)) 5
def dq_fg (n : Nat) (u : Nat → Nat → Int32) (O : Nat → Int32) (t : Int32) : Int32 := am_bt (fun i => decide (O i = -2 ∧ u 0 i < t)) n
section SP72
variable {d n m r c i s l : Nat} {u : Nat → Nat → Int32} {mi : am_MI} {ml : am_ML} {R : am_R} {P : List (List Nat × List Nat)} {f : Nat → Int32}
theorem dq_165 {x : Int32} (hs : s < 6) (hx : x = nI s) (h : R (some (.int 1)) mi ml) : am_call (d + 1) 165 [.ref 0, .int x] mi ml R :=
  sp_165 (fun _ _ _ => h) (fun g => by rw [hx, am_ti (by omega)] at g; omega)
theorem dq_30 (hq : dq_Q P u n m mi) (h : ∀ m2, am_kp am_FX mi m2 → am_X P u n m m2 → am_fre P u n m m2 → R none m2 ml) : am_call (d + 9) 30 [.ref 22] mi ml R :=
  sp_30 hq.1.1 hq.1.2.1 hq.1.2.2.2 (am_fvn_u hq.2.2.2.1) (fun m2 k2 f2 _ => h m2 k2 (am_X_V hq.1 (am_kV_X (n := n) k2)) f2)
theorem dq_day {z : Int32} {k : Nat} (hq : dq_Q P u n m mi) (h1 : 1 ≤ k) (h2 : k ≤ 24) (hz : z = nI k) (h : R (some (.int 1)) mi ml) : am_call (d + 1) 3 [.ref 1, .int 0, .int z] mi ml R := by
  have l0 : am_lo 0 = 1 := rfl
  have h0 : am_hi 0 = 24 := rfl
  exact sp_3 hq.2.1 (w := 0) (by omega) rfl (fun _ _ _ _ => h) (fun g => by rw [hz, am_ti (by omega)] at g; omega)
theorem dq_rwX {m2 : am_MI} (hs : s < 6) (hrow : am_rw s l mi ml) (k : am_kp am_FX mi m2) : am_rw s l m2 ml := am_rw_V (n := 0) hs hrow (am_kV_X k)
/-- atFive -/
theorem dq_138 {x z y w : Int32} {k t : Nat} (hq : dq_Q P u n m mi) (hs : s < 6) (hrow : am_rw s l mi ml) (hf : ∀ j, j < l → (ml (67 + 2 * s) j).toInt32 = f j) (hx : x = nI s) (h1 : 1 ≤ k) (h2 : k ≤ 24) (hz : z = nI k) (hr : r < 5) (hy : y = nI r) (ht : t < 3) (hw : w = nI t)
    (h : dq_K P u n m R mi ml (if t = 0 then am_bc (dq_E n u f l z) else if t = 1 then dq_who P u n m r f l z else am_onl (dq_who P u n m r f l z) m 0)) : am_call (d + 11) 138 [.ref 0, .int x, .int z, .int y, .int w] mi ml R := by
  have ck : x.toNatClampNeg = s := by rw [hx]; exact nI_clamp (by omega)
  have w0 : ¬ w < 0 := by rw [hw]; exact dq_p (by omega)
  have w2 : w ≤ 2 := by
    rw [hw, am_le_i, am_ti (by omega), am_l2]
    omega
  refine bk_138 (dq_165 hs hx (am_ri_i (am_y (dq_day hq h1 h2 hz (am_ri_i (am_y (dq_163 hr hy (am_ri_i (am_y ⟨fun g => absurd g w0, fun _ => ⟨fun _ => ⟨by rw [hx]; exact vp_in_nI hs (by omega), ?_⟩, fun g => absurd w2 g⟩⟩)))))))))
  rw [ck]
  refine am_need_o hs rfl (sp_100r hs hrow (am_ri_i (am_n0 ⟨fun g => dq_30 hq (fun m2 k2 X2 f2 => am_rv_i (sp_108 (own := (am_gvn P u n m r).1) hs (dq_rwX hs hrow k2) hr X2.2.1 X2.2.2.2 (f2.2.2.2.1 r hr).1 hf hy (am_ri_i ⟨fun g2 => ?_, fun g2 => ?_⟩))), fun g => sp_107 hs hrow hq.1.2.1 hf (am_ri_i (sp_273 (am_ri_i ?_)))⟩)))
  · have e0 : ¬ t = 0 := fun e => g (by rw [hw, e]; rfl)
    have e1 : ¬ t = 1 := fun e => g2 (by rw [hw, e]; rfl)
    rw [if_neg e0, if_neg e1] at h
    exact sp_110 X2.2.1 (am_ri_i (dq_k hq h k2 f2 am_kp_r))
  · have e1 : t = 1 := by
      have g2 := Decidable.not_not.mp g2
      rw [hw] at g2
      exact (nI_eq (b := 1) (by omega) (by omega)).mp g2
    rw [if_neg (by omega), if_pos e1] at h
    exact dq_k hq h k2 f2 am_kp_r
  · have e0 : t = 0 := by
      have g := Decidable.not_not.mp g
      rw [hw] at g
      exact (nI_eq (b := 0) (by omega) (by omega)).mp g
    rw [if_pos e0] at h
    exact h mi am_kp_r hq
/-- guard -/
theorem dq_139 {x z y w : Int32} {k t : Nat} (hq : dq_Q P u n m mi) (hs : s < 6) (hrow : am_rw s l mi ml) (hf : ∀ j, j < l → (ml (67 + 2 * s) j).toInt32 = f j) (hx : x = nI s) (h1 : 1 ≤ k) (h2 : k ≤ 24) (hz : z = nI k) (hr : r < 5) (hy : y = nI r) (ht : t < 2) (hw : w = nI t)
    (h : dq_K P u n m R mi ml (if m = 0 then -2 else if t = 0 then nI (am_grd (dq_who P u n m r f l z) (m - 1)) else am_lft2 (dq_who P u n m r f l z) (am_grd (dq_who P u n m r f l z) (m - 1)))) : am_call (d + 11) 139 [.ref 0, .int x, .int z, .int y, .int w] mi ml R := by
  have ck : x.toNatClampNeg = s := by rw [hx]; exact nI_clamp (by omega)
  have em : mi 1 2 = nI m := hq.1.2.1.2.2.2.1
  have hm5 := hq.1.2.1.2.1
  have body : am_call (d + 10) 100 [.ref (66 + 2 * s)] mi ml (am_ri fun r4 mi4 ml4 => ((r4 = 0 → (((mi4 1 2) ≠ 0 → am_call (d + 10) 30 [.ref 22] mi4 ml4 (am_rv fun mi5 ml5 => am_call (d + 10) 108 [.ref 58, .ref (66 + 2 * s), .int z, .int y] mi5 ml5 (am_ri fun r6 mi6 ml6 => am_call (d + 10) 111 [.ref 58, .int r6] mi6 ml6 (am_ri fun r7 mi7 ml7 => ((w ≠ 0 → am_call (d + 10) 112 [.ref 58, .int r7, .int r6] mi7 ml7 (am_ri fun r8 mi8 ml8 => R (some (.int r8)) mi8 ml8)) ∧ (¬ (w ≠ 0) → R (some (.int r7)) mi7 ml7)))))) ∧ (¬ ((mi4 1 2) ≠ 0) → R (some (.int (-2 : Int32))) mi4 ml4))) ∧ (¬ (r4 = 0) → R (some (.int r4)) mi4 ml4))) := by
    refine sp_100r hs hrow (am_ri_i (am_n0 ?_))
    rw [em]
    refine ⟨fun m0 => ?_, fun m0 => ?_⟩
    · have hm0 : ¬ m = 0 := fun e => m0 (by rw [e]; rfl)
      rw [if_neg hm0] at h
      refine dq_30 hq (fun m2 k2 X2 f2 => am_rv_i (sp_108 (own := (am_gvn P u n m r).1) hs (dq_rwX hs hrow k2) hr X2.2.1 X2.2.2.2 (f2.2.2.2.1 r hr).1 hf hy (am_ri_i (sp_111 X2.2.1 (by omega) (am_ri_i ⟨fun g => sp_112 rfl (am_ri_i ?_), fun g => ?_⟩)))))
      · have e0 : ¬ t = 0 := fun e => g (by rw [hw, e]; rfl)
        rw [if_neg e0] at h
        exact dq_k hq h k2 f2 am_kp_r
      · have e0 : t = 0 := by
          have g := Decidable.not_not.mp g
          rw [hw] at g
          exact (nI_eq (b := 0) (by omega) (by omega)).mp g
        rw [if_pos e0] at h
        exact dq_k hq h k2 f2 am_kp_r
    · have e : m = 0 := (nI_eq (b := 0) (by omega) (by omega)).mp (Decidable.not_not.mp m0)
      rw [if_pos e] at h
      exact h mi am_kp_r hq
  refine bk_139 (dq_165 hs hx (am_ri_i (am_y (dq_day hq h1 h2 hz (am_ri_i (am_y (dq_163 hr hy (am_ri_i (am_y ⟨fun _ => ⟨by rw [hx]; exact vp_in_nI hs (by omega), ?_⟩, fun g => ⟨fun _ => ⟨by rw [hx]; exact vp_in_nI hs (by omega), ?_⟩, fun g2 => ?_⟩⟩)))))))))
  · rw [ck]
    exact am_need_o hs rfl body
  · rw [ck]
    exact am_need_o hs rfl body
  · exfalso
    have e0 : ¬ t = 0 := fun e => g (by rw [hw, e]; rfl)
    have e1 : ¬ t = 1 := fun e => g2 (by rw [hw, e]; rfl)
    omega
/-- judge -/
theorem dq_140 {x y : Int32} (hq : dq_Q P u n m mi) (hs : s < 6) (hrow : am_rw s l mi ml) (hf : ∀ j, j < l → (ml (67 + 2 * s) j).toInt32 = f j) (hx : x = nI s) (hr : r < 5) (hy : y = nI r) (h : dq_K P u n m R mi ml (dq_fns P u n m f l r)) : am_call (d + 11) 140 [.ref 0, .int x, .int y] mi ml R := by
  have ck : x.toNatClampNeg = s := by rw [hx]; exact nI_clamp (by omega)
  have vs : vp_in x 6 := by rw [hx]; exact vp_in_nI hs (by omega)
  refine bk_140 (dq_165 hs hx (am_ri_i (am_y (dq_163 hr hy (am_ri_i (am_yn ⟨vs, ?_⟩))))))
  rw [ck]
  refine am_need_o hs rfl (sp_100r hs hrow (am_ri_i (am_n0 (dq_30 hq (fun m2 k2 X2 f2 => am_rv_i ⟨vs, ?_⟩)))))
  exact sp_113 (own := (am_gvn P u n m r).1) hs (dq_rwX hs hrow k2) hr X2.2.1 (f2.2.2.2.1 r hr).1 hf hy (am_ri_i (dq_k hq h k2 f2 am_kp_r))
/-- byWhat -/
theorem dq_141 {x : Int32} (hq : dq_Q P u n m mi) (hs : s < 6) (hrow : am_rw s l mi ml) (hf : ∀ j, j < l → (ml (67 + 2 * s) j).toInt32 = f j) (hx : x = nI s) (h : dq_K P u n m R mi ml (dq_byw P u n m f l)) : am_call (d + 11) 141 [.ref 0, .int x] mi ml R := by
  have ck : x.toNatClampNeg = s := by rw [hx]; exact nI_clamp (by omega)
  have vs : vp_in x 6 := by rw [hx]; exact vp_in_nI hs (by omega)
  refine bk_141 (dq_165 hs hx (am_ri_i (am_yn ⟨vs, ?_⟩)))
  rw [ck]
  refine am_need_o hs rfl (sp_100r hs hrow (am_ri_i (am_n0 (dq_30 hq (fun m2 k2 X2 f2 => am_rv_i ?_)))))
  have hh := dq_k hq h k2 f2 am_kp_r
  refine am_for 5 (fun j => am_wp (am_call (d + 10)) mt_141 R 23 [some (.ref 0), some (.int x), none, some (.int (am_bt (fun r => decide (dq_fns P u n m f l r = -2)) j)), some (.int (nI j))] [] m2 ml) ?_ (fun j hj ih => ?_) 0 (Nat.zero_le _)
  · exact bk_141_23 (pk_le 5 5 (fun _ => hh) (fun w => absurd w (by omega)) rfl rfl)
  · refine bk_141_23 (pk_le 5 j (fun w => absurd w (by omega)) (fun _ => ⟨vs, ?_⟩) rfl rfl)
    rw [ck]
    refine sp_113 (own := (am_gvn P u n m j).1) (r := j) hs (dq_rwX hs hrow k2) hj X2.2.1 (f2.2.2.2.1 j hj).1 hf rfl (am_ri_i ⟨fun g => ?_, fun g => ?_⟩)
    · rw [am_bt_n (by simp only [decide_eq_true_eq]; exact g)] at ih
      rw [nI_1]
      exact ih
    · rw [am_bt_y (by simp only [decide_eq_true_eq]; exact Decidable.not_not.mp g)] at ih
      rw [nI_1]
      exact ih
/-- of: a number -/
theorem dq_122 {x y : Int32} {w : Nat} (hc : am_cx n m u mi) (hv : am_val n m w i) (hx : x = nI i) (hy : y = nI w) (h : R (some (.int (u w i))) mi ml) : am_call (d + 4) 122 [.ref 0, .int x, .int y] mi ml R := by
  have h1 := hc.1
  have h2 := hc.2.1
  have hw : w < 10 := by unfold am_val at hv; omega
  refine bk_122 ⟨fun _ => sp_2 hc (fun _ _ _ _ _ => am_ri_i (am_y (sp_4c hc hy hx hv (am_ri_i h)))) (fun g => (g w i hv hy hx).elim), fun g => absurd (Decidable.not_not.mp g) ?_⟩
  rw [hy, am_eq_i, am_ti (by omega), am_l10]
  omega
/-- of: who opened it -/
theorem dq_122o {x : Int32} (hc : am_cx n m u mi) (hi : i < n) (hx : x = nI i) (h : R (some (.int (mi 60 i))) mi ml) : am_call (d + 4) 122 [.ref 0, .int x, .int 10] mi ml R := by
  have h1 := hc.1
  exact bk_122 ⟨fun g => absurd rfl g, fun _ => dq_0 hc hi hx (am_ri_i (am_y (sp_15 hx (by omega) (am_ri_i h))))⟩
theorem dq_W {b : am_MI} (hq : dq_Q P u n m mi) (k : am_kp am_FW mi b) : am_kp (am_FZ n) mi b ∧ dq_Q P u n m b := by
  have kV : am_kp (am_FV n) mi b := dq_TV (dq_TW k)
  exact ⟨am_kZ_V kV, dq_Q_m hq (am_kZ_V kV) (am_X_V hq.1 kV) (am_fvn_on hq.1.2.1.2.1 hq.2.2.2.1 (dq_T_s (dq_TW k))) (am_fvi_V hq.2.2.2.2 kV)⟩
/-- worth -/
theorem dq_125 {x y : Int32} {t : Nat} (hq : dq_Q P u n m mi) (hcm : c < m) (hi : i < n) (ht : t ≤ 24) (hx : x = nI c) (hy : y = nI (100 * i + t)) (h : dq_K P u n m R mi ml (am_wo P u c i (u 2 i) (nI t))) : am_call (d + 11) 125 [.ref 0, .int x, .int y] mi ml R := by
  have hn := hq.1.2.1.1
  obtain ⟨e1, e2⟩ := dq_rd (r := i) (i := t) (by omega) (by omega)
  have y0 : 0 ≤ y := by rw [hy]; exact nI_pos' (by omega)
  subst hy
  refine bk_125 ⟨fun _ => ⟨dq_n100, dq_n100, dq_1 hq.1.2.1 hcm hx (am_ri_i (am_y (dq_0 hq.1.2.1 hi e1 (am_ri_i (am_y ⟨fun _ => sp_4c hq.1.2.1 (w := 2) rfl e1 (am_vd (by omega) hi) (am_ri_i ?_), fun g => absurd ?_ g⟩)))))⟩, fun g => absurd y0 g⟩
  · rw [e1, e2]
    exact sp_116 hq.1.1 hq.1.2.1 hcm hi hx rfl (fun m3 k3 => am_ri_i (h m3 (dq_W hq k3).1 (dq_W hq k3).2))
  · rw [e2, am_le_i, am_ti (by omega), am_l24]
    omega
/-- forgotten -/
theorem dq_147 (hc : am_cx n m u mi) (h : R (some (.int (dq_fg n u (mi 60) (mi 59 2)))) mi ml) : am_call (d + 3) 147 [.ref 0] mi ml R := by
  have hn := hc.1
  refine bk_147 (bk_19 (am_for n (fun j => am_wp (am_call (d + 1)) mt_19 _ 4 [some (.ref 59), some (.int (am_bt (fun i => decide (mi 60 i = -2 ∧ u 0 i < mi 59 2)) j)), some (.int (nI j))] [] mi ml) ?_ (fun j hj ih => ?_) 0 (Nat.zero_le _)))
  · exact bk_19_4 (pk_le n n (fun _ => am_ri_i h) (fun q => absurd q (Nat.lt_irrefl _)) hc.2.2.1 rfl)
  · refine bk_19_4 (pk_le n j (fun q => absurd q (by omega)) (fun _ => sp_15 rfl (by omega) (am_ri_i ?_)) hc.2.2.1 rfl)
    rw [nI_1]
    refine ⟨fun q => ?_, fun q => sp_4c hc (w := 0) rfl rfl (am_vd (by omega) hj) (am_ri_i ⟨fun q2 => ?_, fun q2 => ?_⟩)⟩
    · rw [am_bt_n (by simp [q])] at ih
      exact ih
    · rw [am_bt_n (by simp only [decide_eq_true_eq]; rintro ⟨_, q3⟩; rw [am_le_i] at q2; rw [am_lt_i] at q3; omega)] at ih
      exact ih
    · rw [am_bt_y (by simp only [decide_eq_true_eq]; refine ⟨Decidable.not_not.mp q, ?_⟩; rw [am_le_i] at q2; rw [am_lt_i]; omega)] at ih
      exact ih
/-- led -/
def dq_led (mi : am_MI) (t : Nat) : Int32 := mi 59 (if t = 0 then 3 else if t = 1 then 4 else if t = 2 then 5 else 2)
theorem dq_148 {x : Int32} {t : Nat} (ht : t < 4) (hx : x = nI t) (h : R (some (.int (dq_led mi t))) mi ml) : am_call (d + 1) 148 [.ref 0, .int x] mi ml R := by
  have q : t = 0 ∨ t = 1 ∨ t = 2 ∨ t = 3 := by omega
  subst hx
  rcases q with e | e | e | e <;> subst e
  · exact bk_148 ⟨fun _ => h, fun w => absurd rfl w⟩
  · exact bk_148 ⟨fun w => absurd w (by decide), fun _ => ⟨fun _ => h, fun w => absurd rfl w⟩⟩
  · exact bk_148 ⟨fun w => absurd w (by decide), fun _ => ⟨fun w => absurd w (by decide), fun _ => ⟨fun _ => h, fun w => absurd rfl w⟩⟩⟩
  · exact bk_148 ⟨fun w => absurd w (by decide), fun _ => ⟨fun w => absurd w (by decide), fun _ => ⟨fun w => absurd w (by decide), fun _ => ⟨fun _ => h, fun w => absurd rfl w⟩⟩⟩⟩
theorem dq_162a (hc : am_cx n m u mi) (h : R (some (.int (nI n))) mi ml) : am_call (d + 1) 162 [.ref 0, .int 0] mi ml R :=
  bk_162 ⟨fun _ => by rw [hc.2.2.1]; exact h, fun w => absurd rfl w⟩
theorem dq_162b (hc : am_cx n m u mi) (h : R (some (.int (nI m))) mi ml) : am_call (d + 1) 162 [.ref 0, .int 1] mi ml R :=
  bk_162 ⟨fun w => absurd w (by decide), fun _ => ⟨fun _ => by rw [hc.2.2.2.1]; exact h, fun w => absurd rfl w⟩⟩
end SP72
