/-! pairs: atFive, guard, judge, byWhat -/
theorem am_cv {R : am_R} {x y : Int32} {mi : am_MI} {ml : am_ML} (e : x = y) (h : R (some (.int y)) mi ml) : R (some (.int x)) mi ml := by
  rw [e]
  exact h
section SP63
variable {d n m : Nat} {u : Nat → Nat → Int32} {mi : am_MI} {ml : am_ML} {R : am_R} {r c s l nb : Nat} {P : List (List Nat × List Nat)} {Q : Int32 → Int32 → am_MI → am_ML → Prop} {f own : Nat → Int32}
/-- the place of the only bit -/
theorem sp_272 {x : Int32} (hc : c < 5) (hx : x = nI (2 ^ c)) (h : R (some (.int (nI c))) mi ml) : am_call (d + 1) 272 [.int x] mi ml R := by
  subst hx
  have : c = 0 ∨ c = 1 ∨ c = 2 ∨ c = 3 ∨ c = 4 := by omega
  rcases this with e | e | e | e | e <;> subst e
  · exact bk_272 ⟨fun q => absurd q (by decide), fun _ => am_cv (by decide) h⟩
  · exact bk_272 ⟨fun _ => ⟨fun _ => bk_272_24 ⟨fun _ => bk_272_32 ⟨fun _ => bk_272_40 ⟨fun _ => bk_272_48 (am_cv (by decide) h), fun q => absurd (by decide) q⟩, fun q => absurd (by decide) q⟩, fun q => absurd (by decide) q⟩, fun q => absurd (by decide) q⟩, fun q => absurd (by decide) q⟩
  · exact bk_272 ⟨fun _ => ⟨fun _ => bk_272_24 ⟨fun _ => bk_272_32 ⟨fun _ => bk_272_40 ⟨fun _ => bk_272_48 (am_cv (by decide) h), fun q => absurd (by decide) q⟩, fun q => absurd (by decide) q⟩, fun q => absurd (by decide) q⟩, fun q => absurd (by decide) q⟩, fun q => absurd (by decide) q⟩
  · exact bk_272 ⟨fun _ => ⟨fun _ => bk_272_24 ⟨fun _ => bk_272_32 ⟨fun _ => bk_272_40 ⟨fun q => absurd q (by decide), fun _ => bk_272_48 (am_cv (by decide) h)⟩, fun q => absurd (by decide) q⟩, fun q => absurd (by decide) q⟩, fun q => absurd (by decide) q⟩, fun q => absurd (by decide) q⟩
  · exact bk_272 ⟨fun _ => ⟨fun _ => bk_272_24 ⟨fun _ => bk_272_32 ⟨fun _ => bk_272_40 ⟨fun q => absurd q (by decide), fun _ => bk_272_48 (am_cv (by decide) h)⟩, fun q => absurd (by decide) q⟩, fun q => absurd (by decide) q⟩, fun q => absurd (by decide) q⟩, fun q => absurd (by decide) q⟩
/-- onlyOne -/
theorem sp_110 {x : Int32} (hc : am_cx n m u mi) (h : R (some (.int (am_onl x m 0))) mi ml) : am_call (d + 1) 110 [.ref 58, .int x] mi ml R := by
  have hm5 := hc.2.1
  have loop : ∀ v k, k + v = m → R (some (.int (am_onl x v k))) mi ml → am_wp (am_call d) mt_110 R 2 [some (.ref 58), some (.int x), some (.int (nI k))] [] mi ml := by
    intro v
    induction v with
    | zero =>
      intro k ek g
      have ek : k = m := ek
      subst ek
      exact bk_110_2 (pk_le _ _ (fun _ => g) (fun q => absurd q (Nat.lt_irrefl _)) hc.2.2.2.1 rfl)
    | succ v ih =>
      intro k ek g
      unfold am_onl at g
      refine bk_110_2 (pk_le m k (fun q => absurd q (by omega)) (fun _ => ⟨fun q => ?_, fun q => ?_⟩) hc.2.2.2.1 rfl)
      · rw [if_neg q] at g
        rw [nI_1]
        exact ih (k + 1) (by omega) g
      · rw [if_pos (Decidable.not_not.mp q)] at g
        exact g
  exact bk_110 (loop m 0 (Nat.zero_add _) h)
/-- leftBy -/
theorem sp_112 {x y : Int32} (hx : x = nI c) (h : R (some (.int (am_lft2 y c))) mi ml) : am_call (d + 2) 112 [.ref 58, .int x, .int y] mi ml R := by
  subst hx
  exact bk_112 (sp_273 (am_ri_i h))
/-- bestGuard -/
theorem sp_111 {x : Int32} (hc : am_cx n m u mi) (hm : 0 < m) (h : R (some (.int (nI (am_grd x (m - 1))))) mi ml) : am_call (d + 3) 111 [.ref 58, .int x] mi ml R := by
  have hm5 := hc.2.1
  have loop : ∀ v k, k + 1 + v = m → am_wp (am_call (d + 2)) mt_111 R 4 [some (.ref 58), some (.int x), some (.int (nI (am_grd x k))), some (.int (nI (k + 1)))] [] mi ml := by
    intro v
    induction v with
    | zero =>
      intro k ek
      have ek : k = m - 1 := by omega
      subst ek
      exact bk_111_4 (pk_le m (m - 1 + 1) (fun _ => h) (fun q => absurd q (by omega)) hc.2.2.2.1 rfl)
    | succ v ih =>
      intro k ek
      have ih := ih (k + 1) (by omega)
      have un : am_grd x (k + 1) = if am_lft2 x (am_grd x k) ≤ am_lft2 x (k + 1) then am_grd x k else k + 1 := rfl
      rw [un] at ih
      refine bk_111_4 (pk_le m (k + 1) (fun q => absurd q (by omega)) (fun _ => sp_112 (c := k + 1) rfl (am_ri_i (sp_112 (c := am_grd x k) rfl (am_ri_i ⟨fun q => ?_, fun q => ?_⟩)))) hc.2.2.2.1 rfl)
      · rw [if_pos q] at ih
        rw [nI_1]
        exact ih
      · rw [if_neg q] at ih
        rw [nI_1]
        exact ih
  exact bk_111 (loop (m - 1) 0 (by omega))
/-- isSo -/
theorem sp_114 {x y z : Int32} {j : Nat} (hr : r < 5) (hc : am_cx n m u mi) (ho : ∀ i, i < n → mi (32 + r) i = own i) (hj : j < 1000) (hx : x = nI j) (hy : y = f j) (hz : z = nI r) (h1 : am_sop n m own f j = true → R (some (.int 1)) mi ml) (h0 : ¬ am_sop n m own f j = true → R (some (.int 0)) mi ml) : am_call (d + 2) 114 [.ref 58, .int x, .int y, .int z] mi ml R := by
  subst hx
  subst hy
  subst hz
  have hn := hc.1
  have hm5 := hc.2.1
  refine bk_114 (sp_0 hc (fun k hk e => am_ri_i (am_yn ?_)) (fun g => am_ri_i (am_nn ⟨am_b0, h0 (fun q => ?_)⟩)))
  · have ek : j = k := (nI_eq (by omega) (by omega)).mp e
    subst ek
    refine ⟨fun q => ⟨am_b1, h1 (decide_eq_true ⟨hk, Or.inl q⟩)⟩, fun q => sp_1 hc (fun c hc2 ec => am_ri_i (am_y (sp_38 hr (by omega) rfl rfl (am_ri_i ?_)))) (fun g => am_ri_i (am_n0 ⟨am_b0, h0 (fun y => ?_)⟩))⟩
    · rw [ho j hk]
      refine ⟨fun w => ⟨am_b0, h0 (fun y => ?_)⟩, fun w => ⟨am_b1, h1 (decide_eq_true ⟨hk, Or.inr ⟨?_, ?_, Decidable.not_not.mp w⟩⟩)⟩⟩
      · rcases (of_decide_eq_true y).2 with y | y
        · exact q y
        · exact w y.2.2
      · rw [ec, am_ti (by omega)]
        omega
      · rw [ec, am_ti (by omega)]
        omega
    · rcases (of_decide_eq_true y).2 with y | y
      · exact q y
      · omega
  · have q := (of_decide_eq_true q).1
    rw [am_ti (by omega)] at g
    omega
/-- firstNotSo -/
theorem sp_113 {z : Int32} (hs : s < 6) (h : am_rw s l mi ml) (hr : r < 5) (hc : am_cx n m u mi) (ho : ∀ i, i < n → mi (32 + r) i = own i) (hf : ∀ j, j < l → (ml (67 + 2 * s) j).toInt32 = f j) (hz : z = nI r) (hR : R (some (.int (am_fns (am_sop n m own f) l 0))) mi ml) : am_call (d + 3) 113 [.ref 58, .ref (66 + 2 * s), .int z] mi ml R := by
  obtain ⟨-, -, -, h4, -, hl, -⟩ := h
  have loop : ∀ v k, k + v = l → R (some (.int (am_fns (am_sop n m own f) v k))) mi ml → am_wp (am_call (d + 2)) mt_113 R 2 [some (.ref 58), some (.ref (66 + 2 * s)), some (.int z), some (.int (nI k)), none] [] mi ml := by
    intro v
    induction v with
    | zero =>
      intro k ek g
      have ek : k = l := ek
      subst ek
      exact bk_113_2 (am_need_o hs rfl (pk_le _ _ (fun _ => g) (fun q => absurd q (Nat.lt_irrefl _)) h4 rfl))
    | succ v ih =>
      intro k ek g
      have hk : k < l := by omega
      unfold am_fns at g
      refine bk_113_2 (am_need_o hs rfl (pk_le l k (fun q => absurd q (by omega)) (fun _ => am_need_o hs rfl (sp_103 hs hl h4 hk rfl (am_rj_i ?_))) h4 rfl))
      rw [nI_1]
      refine sp_114 (f := f) (own := own) hr hc ho (by omega) rfl (hf k hk) hz (fun q => am_ri_i (am_yn ?_)) (fun q => am_ri_i (am_nn ?_))
      · rw [if_pos q] at g
        exact ih (k + 1) (by omega) g
      · rw [if_neg q] at g
        exact g
  exact bk_113 (loop l 0 (Nat.zero_add _) hR)
/-- the reference's wrong -/
theorem sp_242 {x y : Int32} (hs : s < 6) (h : am_rw s l mi ml) (hr : r < 5) (hX : am_X P u n m mi) (hf : ∀ j, j < l → (ml (67 + 2 * s) j).toInt32 = f j) (hx : x = nI s) (hy : y = nI r) (hR : ∀ m2, am_kp am_FG mi m2 → R (some (.int (am_fns (am_sop n m (am_gvn P u n m r).1 f) l 0))) m2 ml) : am_call (d + 8) 242 [.ref 78, .int x, .int y] mi ml R := by
  subst hx
  have hn := hX.2.1.1
  have hm5 := hX.2.1.2.1
  refine bk_242 (am_gvs hr hX hy (fun m2 k2 hX2 a b => am_rv_i ?_))
  obtain ⟨-, -, -, -, h5, hl, h7⟩ := am_rw_V (n := n) hs h (am_kV_G k2)
  have hm := hX2.2.2.1
  have hR := hR m2 k2
  have v6 : vp_in (nI s) 6 := vp_in_nI hs (by omega)
  have cs : (nI s).toNatClampNeg = s := nI_clamp (by omega)
  have fm : ∀ j, j < l → (ml 108 (60 * s + j)).toInt32 = f j := fun j hj => by rw [← h7 j (by omega), hf j hj]
  have loop : ∀ v k, k + v = l → R (some (.int (am_fns (am_sop n m (am_gvn P u n m r).1 f) v k))) m2 ml → am_wp (am_call (d + 7)) mt_242 R 5 [some (.ref 78), some (.int (nI s)), none, some (.int (nI k))] [] m2 ml := by
    intro v
    induction v with
    | zero =>
      intro k ek g
      have ek : k = l := ek
      subst ek
      exact bk_242_5 ⟨v6, pk_le _ _ (fun _ => g) (fun q => absurd q (Nat.lt_irrefl _)) (by rw [cs]; exact h5) rfl⟩
    | succ v ih =>
      intro k ek g
      have hk : k < l := by omega
      unfold am_fns at g
      have yes : am_sop n m (am_gvn P u n m r).1 f k = true → am_wp (am_call (d + 7)) mt_242 R 5 [some (.ref 78), some (.int (nI s)), none, some (.int (nI k + 1))] [] m2 ml := fun q => by
        rw [if_pos q] at g
        rw [nI_1]
        exact ih (k + 1) (by omega) g
      have no : ¬ am_sop n m (am_gvn P u n m r).1 f k = true → R (some (.int (nI k))) m2 ml := fun q => by
        rw [if_neg q] at g
        exact g
      refine bk_242_5 ⟨v6, pk_le l k (fun q => absurd q (by omega)) (fun _ => sp_169 hm (fun j hj e => am_ri_i (am_yn ?_)) (fun q => am_ri_i (am_nn (no (fun y => ?_))))) (by rw [cs]; exact h5) rfl⟩
      · have ej : k = j := (nI_eq (by omega) (by omega)).mp e
        subst ej
        refine sp_237 hs (show k < 60 by omega) rfl rfl (am_ri_i ?_)
        rw [fm k hk]
        refine ⟨fun q => yes (decide_eq_true ⟨hj, Or.inl q⟩), fun q => sp_237 hs (show k < 60 by omega) rfl rfl (am_ri_i ?_)⟩
        rw [fm k hk]
        refine sp_170 hm (fun c hc ec => am_ri_i (am_y (sp_237 hs (show k < 60 by omega) rfl rfl (am_ri_i ⟨vp_in_nI (by omega) (by omega), ?_⟩)))) (fun w => am_ri_i (am_n0 (no (fun y => ?_))))
        · rw [fm k hk, nI_clamp (show k < 2 ^ 31 by omega), a k hj]
          refine ⟨fun w => yes (decide_eq_true ⟨hj, Or.inr ⟨?_, ?_, w.symm⟩⟩), fun w => no (fun y => ?_)⟩
          · rw [ec, am_ti (by omega)]
            omega
          · rw [ec, am_ti (by omega)]
            omega
          · rcases (of_decide_eq_true y).2 with y | y
            · exact q y
            · exact w y.2.2.symm
        · rcases (of_decide_eq_true y).2 with y | y
          · exact q y
          · omega
      · have y := (of_decide_eq_true y).1
        rw [am_ti (by omega)] at q
        omega
  exact loop l 0 (Nat.zero_add _) hR
/-- judge -/
theorem pr_22 {x y : Int32} (hsv : am_shv nb mi ml) (hX : am_X P u n m mi) (hv : am_fvn P u n m mi) (h : ∀ r mi2, am_kp (am_FV n) mi mi2 → am_fvn P u n m mi2 → Q r r mi2 ml) : am_pr (d + 11) 140 [.ref 0, .int x, .int y] 243 [.ref 78, .int x, .int y] mi ml Q := by
  have hm5 := hX.2.1.2.1
  have h0 : ∀ r, Q r r mi ml := fun r => h r mi am_kp_r hv
  have bad : ((x.toInt < 0 ∨ 5 < x.toInt) ∨ (y.toInt < 0 ∨ 5 ≤ y.toInt)) → am_call (d + 11) 243 [.ref 78, .int x, .int y] mi ml (am_ri fun r2 mi2 ml2 => Q (-1) r2 mi2 ml2) := fun g => bk_243 (sp_174 (fun k hk e => am_ri_i (am_y (sp_171 (fun k2 hk2 e2 => by
    exfalso
    rcases g with g | g
    · rw [e, am_ti (by omega)] at g
      omega
    · rw [e2, am_ti (by omega)] at g
      omega) (fun _ => am_ri_i (am_nn (am_ri_i (h0 _))))))) (fun _ => am_ri_i (am_n0 (am_ri_i (h0 _)))))
  refine bk_140 (sp_165 (fun s hs es => am_ri_i (am_y (sp_163 (fun r hr er => am_ri_i (am_yn ?_)) (fun g => am_ri_i (am_nn (am_ri_i (bad (Or.inr g)))))))) (fun g => am_ri_i (am_n0 (am_ri_i (bad (Or.inl g))))))
  subst es
  have v6 : vp_in (nI s) 6 := vp_in_nI hs (by omega)
  rw [nI_clamp (show s < 2 ^ 31 by omega)]
  have ref : ∀ m2 v, am_call (d + 10) 236 [.ref 78, .int (nI s)] m2 ml (am_ri fun r3 mi3 ml3 => ((0 ≤ r3 → am_call (d + 10) 242 [.ref 78, .int (nI s), .int y] mi3 ml3 (am_ri fun r4 mi4 ml4 => (am_ri fun r2 mi2 ml2 => Q v r2 mi2 ml2) (some (.int r4)) mi4 ml4)) ∧ (¬ (0 ≤ r3) → (am_ri fun r2 mi2 ml2 => Q v r2 mi2 ml2) (some (.int r3)) mi3 ml3))) → am_call (d + 11) 243 [.ref 78, .int (nI s), .int y] m2 ml (am_ri fun r2 mi2 ml2 => Q v r2 mi2 ml2) := fun m2 v g => bk_243 (sp_174s hs rfl (am_ri_i (am_y (sp_171 (fun _ _ _ => am_ri_i (am_yn g)) (fun q => by
    exfalso
    rw [er, am_ti (by omega)] at q
    omega)))))
  rcases am_sh_c hsv.1 (hsv.2 s hs) with ⟨l, hw⟩ | ⟨v, hw⟩
  · refine ⟨v6, am_need_o hs rfl (sp_100r hs hw (am_ri_i (am_n0 (sp_30 hX.1 hX.2.1 hX.2.2.2 (am_fvn_u hv) (fun m2 k2 f2 _ => am_rv_i ⟨v6, ?_⟩)))))⟩
    have hX2 := am_X_V hX (am_kV_X (n := n) k2)
    have hw2 := am_rw_V (n := n) hs hw (am_kV_X k2)
    refine sp_113 (f := fun j => (ml (67 + 2 * s) j).toInt32) (own := (am_gvn P u n m r).1) hs hw2 hr hX2.2.1 (f2.2.2.2.1 r hr).1 (fun _ _ => rfl) er (am_ri_i (am_ri_i (ref m2 _ (sp_236r hs hw2 rfl (am_ri_i ⟨fun _ => sp_242 (f := fun j => (ml (67 + 2 * s) j).toInt32) hs hw2 hr hX2 (fun _ _ => rfl) rfl er (fun m3 k3 => am_ri_i (am_ri_i ?_)), fun q => absurd (by decide) q⟩)))))
    exact h _ m3 (am_kp_t (am_kV_X k2) (am_kV_G k3)) (am_fvn_i hX2 f2 (fun c j q1 q2 => k3 c j (decide_eq_false (by omega))))
  · have vn : ¬ v = 0 ∧ ¬ 0 ≤ v := by
      rcases hw with ⟨e, -⟩ | ⟨e, -⟩ <;> subst e <;> exact ⟨by decide, by decide⟩
    exact ⟨v6, am_need_o hs rfl (sp_100n hs hw (am_ri_i ⟨fun q => absurd q vn.1, fun _ => am_ri_i (ref mi v (sp_236n hs hw rfl (am_ri_i ⟨fun q => absurd q vn.2, fun _ => am_ri_i (h0 _)⟩)))⟩))⟩
/-- byWhat -/
theorem pr_23 {x : Int32} (hsv : am_shv nb mi ml) (hX : am_X P u n m mi) (hv : am_fvn P u n m mi) (h : ∀ r mi2, am_kp (am_FV n) mi mi2 → am_fvn P u n m mi2 → Q r r mi2 ml) : am_pr (d + 11) 141 [.ref 0, .int x] 244 [.ref 78, .int x] mi ml Q := by
  have hm5 := hX.2.1.2.1
  have h0 : ∀ r, Q r r mi ml := fun r => h r mi am_kp_r hv
  refine bk_141 (sp_165 (fun s hs es => am_ri_i (am_yn ?_)) (fun g => am_ri_i (am_nn (am_ri_i (bk_244 (sp_174n g (am_ri_i (am_nn (am_ri_i (h0 _))))))))))
  subst es
  have v6 : vp_in (nI s) 6 := vp_in_nI hs (by omega)
  rw [nI_clamp (show s < 2 ^ 31 by omega)]
  rcases am_sh_c hsv.1 (hsv.2 s hs) with ⟨l, hw⟩ | ⟨v, hw⟩
  · refine ⟨v6, am_need_o hs rfl (sp_100r hs hw (am_ri_i (am_n0 (sp_30 hX.1 hX.2.1 hX.2.2.2 (am_fvn_u hv) (fun m2 k2 f2 _ => am_rv_i ?_)))))⟩
    have hX2 := am_X_V hX (am_kV_X (n := n) k2)
    have hw2 := am_rw_V (n := n) hs hw (am_kV_X k2)
    generalize hT : (fun r => decide (am_fns (am_sop n m (am_gvn P u n m r).1 (fun j => (ml (67 + 2 * s) j).toInt32)) l 0 = -2)) = T
    have eT : ∀ r, T r = decide (am_fns (am_sop n m (am_gvn P u n m r).1 (fun j => (ml (67 + 2 * s) j).toInt32)) l 0 = -2) := fun r => by rw [← hT]
    refine am_for 5 (fun k => am_wp (am_call (d + 10)) mt_141 _ 23 [some (.ref 0), some (.int (nI s)), none, some (.int (am_bt T k)), some (.int (nI k))] [] m2 ml) ?_ (fun k hk ih => ?_) 0 (Nat.zero_le _)
    · refine bk_141_23 (pk_le 5 5 (fun _ => am_ri_i ?_) (fun q => absurd q (Nat.lt_irrefl _)) rfl rfl)
      refine bk_244 (sp_174s hs rfl (am_ri_i (am_yn (sp_236r hs hw2 rfl (am_ri_i ⟨fun _ => ?_, fun q => absurd (by decide) q⟩)))))
      have loop : ∀ v k, k + v = 5 → ∀ m3, am_kp am_FG m2 m3 → am_wp (am_call (d + 10)) mt_244 (am_ri fun r2 mi2 ml2 => Q (am_bt T 5) r2 mi2 ml2) 17 [some (.ref 78), some (.int (nI s)), none, some (.int (am_bt T k)), some (.int (nI k))] [] m3 ml := by
        intro v
        induction v with
        | zero =>
          intro k ek m3 k3
          have ek : k = 5 := ek
          subst ek
          exact bk_244_17 (pk_le 5 5 (fun _ => am_ri_i (h _ m3 (am_kp_t (am_kV_X k2) (am_kV_G k3)) (am_fvn_i hX2 f2 (fun c j q1 q2 => k3 c j (decide_eq_false (by omega)))))) (fun q => absurd q (Nat.lt_irrefl _)) rfl rfl)
        | succ v ih =>
          intro k ek m3 k3
          have ih := ih (k + 1) (by omega)
          refine bk_244_17 (pk_le 5 k (fun q => absurd q (by omega)) (fun _ => sp_242 (r := k) (f := fun j => (ml (67 + 2 * s) j).toInt32) hs (am_rw_V (n := n) hs hw2 (am_kV_G k3)) (by omega) (am_X_V hX2 (am_kV_G k3)) (fun _ _ => rfl) rfl rfl (fun m4 k4 => am_ri_i ⟨fun q => ?_, fun q => ?_⟩)) rfl rfl)
          · have ih := ih m4 (am_kp_t k3 k4)
            rw [am_bt_n (p := T) (j := k) (by rw [eT]; exact fun z => q (of_decide_eq_true z))] at ih
            rw [nI_1]
            exact ih
          · have ih := ih m4 (am_kp_t k3 k4)
            rw [am_bt_y (p := T) (j := k) (by rw [eT]; exact decide_eq_true (Decidable.not_not.mp q))] at ih
            rw [nI_1]
            exact ih
      exact loop 5 0 rfl m2 am_kp_r
    · refine bk_141_23 (pk_le 5 k (fun q => absurd q (by omega)) (fun _ => ⟨v6, ?_⟩) rfl rfl)
      rw [nI_clamp (show s < 2 ^ 31 by omega), nI_1]
      refine sp_113 (f := fun j => (ml (67 + 2 * s) j).toInt32) (own := (am_gvn P u n m k).1) hs hw2 hk hX2.2.1 (f2.2.2.2.1 k hk).1 (fun _ _ => rfl) rfl (am_ri_i ⟨fun q => ?_, fun q => ?_⟩)
      · rw [am_bt_n (p := T) (j := k) (by rw [eT]; exact fun z => q (of_decide_eq_true z))] at ih
        exact ih
      · rw [am_bt_y (p := T) (j := k) (by rw [eT]; exact decide_eq_true (Decidable.not_not.mp q))] at ih
        exact ih
  · have vn : ¬ v = 0 ∧ ¬ 0 ≤ v := by
      rcases hw with ⟨e, -⟩ | ⟨e, -⟩ <;> subst e <;> exact ⟨by decide, by decide⟩
    exact ⟨v6, am_need_o hs rfl (sp_100n hs hw (am_ri_i ⟨fun q => absurd q vn.1, fun _ => am_ri_i (bk_244 (sp_174s hs rfl (am_ri_i (am_yn (sp_236n hs hw rfl (am_ri_i ⟨fun q => absurd q vn.2, fun _ => am_ri_i (h0 _)⟩))))))⟩))⟩
/-- atFive -/
theorem pr_20 {x y z w : Int32} (hst : am_sta mi) (hsv : am_shv nb mi ml) (hX : am_X P u n m mi) (hv : am_fvn P u n m mi) (h : ∀ r mi2, am_kp (am_FV n) mi mi2 → am_fvn P u n m mi2 → Q r r mi2 ml) : am_pr (d + 11) 138 [.ref 0, .int x, .int y, .int z, .int w] 240 [.ref 78, .int x, .int y, .int z, .int w] mi ml Q := by
  have hm5 := hX.2.1.2.1
  have h0 : ∀ r, Q r r mi ml := fun r => h r mi am_kp_r hv
  have bad : ((x.toInt < 0 ∨ 5 < x.toInt) ∨ (y.toInt < 1 ∨ 24 < y.toInt) ∨ (z.toInt < 0 ∨ 5 ≤ z.toInt) ∨ (w.toInt < 0 ∨ 2 < w.toInt)) → am_call (d + 11) 240 [.ref 78, .int x, .int y, .int z, .int w] mi ml (am_ri fun r2 mi2 ml2 => Q (-1) r2 mi2 ml2) := fun g => bk_240 (sp_174 (fun k hk e => am_ri_i (am_y (sp_173 (fun k1 hk1 hk1' e1 => am_ri_i (am_y (sp_171 (fun k2 hk2 e2 => am_ri_i (am_y (sp_168 (fun a b => by
    exfalso
    rw [am_l0] at a
    rw [am_l2] at b
    rcases g with g | g | g | g
    · rw [e, am_ti (by omega)] at g
      omega
    · rw [e1, am_ti (by omega)] at g
      omega
    · rw [e2, am_ti (by omega)] at g
      omega
    · omega) (fun _ => am_ri_i (am_nn (am_ri_i (h0 _))))))) (fun _ => am_ri_i (am_n0 (am_ri_i (h0 _))))))) (fun _ => am_ri_i (am_n0 (am_ri_i (h0 _))))))) (fun _ => am_ri_i (am_n0 (am_ri_i (h0 _)))))
  refine bk_138 (sp_165 (fun s hs es => am_ri_i (am_y (sp_3 hst (w := 0) (by omega) rfl (fun k l1 l2 ek => am_ri_i (am_y (sp_163 (fun r hr er => am_ri_i (am_y ⟨fun q => am_ri_i (bad (Or.inr (Or.inr (Or.inr (Or.inl ?_))))), fun q => ⟨fun q2 => ?_, fun q2 => am_ri_i (bad (Or.inr (Or.inr (Or.inr (Or.inr ?_)))))⟩⟩)) (fun g => am_ri_i (am_n0 (am_ri_i (bad (Or.inr (Or.inr (Or.inl g)))))))))) (fun g => am_ri_i (am_n0 (am_ri_i (bad (Or.inr (Or.inl g)))))))) ) (fun g => am_ri_i (am_n0 (am_ri_i (bad (Or.inl g))))))
  · rw [am_lt_i, am_l0] at q
    exact q
  · have l1 : 1 ≤ k := l1
    have l2 : k ≤ 24 := l2
    rw [am_lt_i, am_l0] at q
    rw [am_le_i, am_l2] at q2
    subst es
    have v6 : vp_in (nI s) 6 := vp_in_nI hs (by omega)
    rw [nI_clamp (show s < 2 ^ 31 by omega)]
    -- the reference, up to the row
    have ref : ∀ m2 v, am_call (d + 10) 236 [.ref 78, .int (nI s)] m2 ml (am_ri fun r5 mi5 ml5 => ((0 ≤ r5 → am_call (d + 10) 213 [.ref 78, .int z] mi5 ml5 (am_rv fun mi6 ml6 => am_call (d + 10) 238 [.ref 78, .int (nI s), .int y] mi6 ml6 (am_ri fun r7 mi7 ml7 => ((w ≠ 0 → am_call (d + 10) 239 [.ref 78, .int r7, .int y] mi7 ml7 (am_ri fun r8 mi8 ml8 => ((w ≠ (1 : Int32) → am_call (d + 10) 273 [.int r8] mi8 ml8 (am_ri fun r9 mi9 ml9 => ((r9 ≠ (1 : Int32) → (am_ri fun r2 mi2 ml2 => Q v r2 mi2 ml2) (some (.int (-2 : Int32))) mi9 ml9) ∧ (¬ (r9 ≠ (1 : Int32)) → am_call (d + 10) 272 [.int r8] mi9 ml9 (am_ri fun r10 mi10 ml10 => (am_ri fun r2 mi2 ml2 => Q v r2 mi2 ml2) (some (.int r10)) mi10 ml10))))) ∧ (¬ (w ≠ (1 : Int32)) → (am_ri fun r2 mi2 ml2 => Q v r2 mi2 ml2) (some (.int r8)) mi8 ml8)))) ∧ (¬ (w ≠ 0) → am_call (d + 10) 273 [.int r7] mi7 ml7 (am_ri fun r11 mi11 ml11 => (am_ri fun r2 mi2 ml2 => Q v r2 mi2 ml2) (some (.int r11)) mi11 ml11)))))) ∧ (¬ (0 ≤ r5) → (am_ri fun r2 mi2 ml2 => Q v r2 mi2 ml2) (some (.int r5)) mi5 ml5))) → am_call (d + 11) 240 [.ref 78, .int (nI s), .int y, .int z, .int w] m2 ml (am_ri fun r2 mi2 ml2 => Q v r2 mi2 ml2) := fun m2 v g => bk_240 (sp_174s hs rfl (am_ri_i (am_y (sp_173 (fun _ _ _ _ => am_ri_i (am_y (sp_171 (fun _ _ _ => am_ri_i (am_y (sp_168 (fun _ _ => am_ri_i (am_yn g)) (fun q3 => by
      exfalso
      rw [am_l0, am_l2] at q3
      omega)))) (fun q3 => by
      exfalso
      rw [er, am_ti (by omega)] at q3
      omega)))) (fun q3 => by
      exfalso
      rw [ek, am_ti (by omega)] at q3
      omega)))))
    rcases am_sh_c hsv.1 (hsv.2 s hs) with ⟨l, hw⟩ | ⟨v, hw⟩
    · generalize hE : am_erl n u (fun j => (ml (67 + 2 * s) j).toInt32) y l = E
      generalize hW : am_cbe n m u (am_gvn P u n m r).1 E y = W
      -- the reference behind the class
      have refg : ∀ m2, am_kp (am_FV n) mi m2 → am_X P u n m m2 → (∀ m3, (am_sfr m2 m3) → m3 22 2 = m2 22 2 → m3 1 3 = m2 1 3 → m3 15 7 = m2 15 7 → am_fvn P u n m m3) → ∀ v, v = (if w = 0 then am_bc E else if w = 1 then W else am_onl W m 0) → am_call (d + 11) 240 [.ref 78, .int (nI s), .int y, .int z, .int w] m2 ml (am_ri fun r2 mi2 ml2 => Q v r2 mi2 ml2) := by
        intro m2 k2 hX2 hf v ev
        have hw2 := am_rw_V (n := n) hs hw k2
        refine ref m2 v (sp_236r hs hw2 rfl (am_ri_i ⟨fun _ => am_gvs hr hX2 er (fun m3 k3 hX3 a b => am_rv_i ?_), fun q => absurd (by decide) q⟩))
        have hw3 := am_rw_V (n := n) hs hw2 (am_kV_G k3)
        refine sp_238 (f := fun j => (ml (67 + 2 * s) j).toInt32) hs hw3 hX3.2.2.1 (fun _ _ => rfl) rfl (am_ri_i ?_)
        rw [hE]
        have fin : am_ri (fun r2 mi2 ml2 => Q v r2 mi2 ml2) (some (.int v)) m3 ml := am_ri_i (h v m3 (am_kp_t k2 (am_kV_G k3)) (hf m3 (fun c j q1 q2 => k3 c j (decide_eq_false (by omega))) (k3 22 2 rfl) (k3 1 3 rfl) (k3 15 7 rfl)))
        refine ⟨fun w0 => sp_239 (own := (am_gvn P u n m r).1) hX3.2.2.1 hX3.2.2.2 a (am_ri_i ?_), fun w0 => sp_273 (am_ri_i ?_)⟩
        · rw [hW]
          rw [if_neg w0] at ev
          refine ⟨fun w1 => sp_273 (am_ri_i ?_), fun w1 => ?_⟩
          · rw [if_neg w1] at ev
            obtain ⟨k, hk, eW⟩ := am_bt_k (q := am_cbp u (am_gvn P u n m r).1 E y n) m hm5
            have eW : W = nI k := hW.symm.trans eW
            obtain ⟨d1, d2⟩ := am_onl_d m hm5 k hk
            rw [eW] at ev ⊢
            refine ⟨fun g => ?_, fun g => ?_⟩
            · rw [d2 g] at ev
              rw [← ev]
              exact fin
            · obtain ⟨c, hc, ec, e2⟩ := d1 (Decidable.not_not.mp g)
              rw [e2] at ev
              refine sp_272 hc (by rw [ec]) (am_ri_i ?_)
              rw [← ev]
              exact fin
          · rw [if_pos (Decidable.not_not.mp w1)] at ev
            rw [← ev]
            exact fin
        · rw [if_pos (Decidable.not_not.mp w0)] at ev
          rw [← ev]
          exact fin
      refine ⟨v6, am_need_o hs rfl (sp_100r hs hw (am_ri_i (am_n0 ⟨fun w0 => sp_30 hX.1 hX.2.1 hX.2.2.2 (am_fvn_u hv) (fun m2 k2 f2 _ => am_rv_i ?_), fun w0 => sp_107 (f := fun j => (ml (67 + 2 * s) j).toInt32) hs hw hX.2.1 (fun _ _ => rfl) (am_ri_i (sp_273 (am_ri_i (am_ri_i ?_))))⟩)))⟩
      · have hX2 := am_X_V hX (am_kV_X (n := n) k2)
        have hw2 := am_rw_V (n := n) hs hw (am_kV_X k2)
        refine sp_108 (f := fun j => (ml (67 + 2 * s) j).toInt32) (own := (am_gvn P u n m r).1) hs hw2 hr hX2.2.1 hX2.2.2.2 (f2.2.2.2.1 r hr).1 (fun _ _ => rfl) er (am_ri_i ?_)
        rw [hE, hW]
        refine ⟨fun w1 => sp_110 hX2.2.1 (am_ri_i (am_ri_i (refg m2 (am_kV_X k2) hX2 (fun m3 q1 _ _ _ => am_fvn_i hX2 f2 q1) _ ?_))), fun w1 => am_ri_i (refg m2 (am_kV_X k2) hX2 (fun m3 q1 _ _ _ => am_fvn_i hX2 f2 q1) _ ?_)⟩
        · rw [if_neg w0, if_neg w1]
        · rw [if_neg w0, if_pos (Decidable.not_not.mp w1)]
      · rw [hE]
        exact refg mi am_kp_r hX (fun m3 q1 _ _ _ => am_fvn_on hm5 hv q1) _ (by rw [if_pos (Decidable.not_not.mp w0)])
    · have vn : ¬ v = 0 ∧ ¬ 0 ≤ v := by
        rcases hw with ⟨e, -⟩ | ⟨e, -⟩ <;> subst e <;> exact ⟨by decide, by decide⟩
      exact ⟨v6, am_need_o hs rfl (sp_100n hs hw (am_ri_i ⟨fun q => absurd q vn.1, fun _ => am_ri_i (ref mi v (sp_236n hs hw rfl (am_ri_i ⟨fun q => absurd q vn.2, fun _ => am_ri_i (h0 _)⟩)))⟩))⟩
  · rw [am_le_i, am_l2] at q2
    omega
/-- guard -/
theorem pr_21 {x y z w : Int32} (hst : am_sta mi) (hsv : am_shv nb mi ml) (hX : am_X P u n m mi) (hv : am_fvn P u n m mi) (h : ∀ r mi2, am_kp (am_FV n) mi mi2 → am_fvn P u n m mi2 → Q r r mi2 ml) : am_pr (d + 11) 139 [.ref 0, .int x, .int y, .int z, .int w] 241 [.ref 78, .int x, .int y, .int z, .int w] mi ml Q := by
  have hm5 := hX.2.1.2.1
  have h0 : ∀ r, Q r r mi ml := fun r => h r mi am_kp_r hv
  have bad : ((x.toInt < 0 ∨ 5 < x.toInt) ∨ (y.toInt < 1 ∨ 24 < y.toInt) ∨ (z.toInt < 0 ∨ 5 ≤ z.toInt) ∨ (¬ w = 0 ∧ ¬ w = 1)) → am_call (d + 11) 241 [.ref 78, .int x, .int y, .int z, .int w] mi ml (am_ri fun r2 mi2 ml2 => Q (-1) r2 mi2 ml2) := fun g => bk_241 (sp_174 (fun k hk e => am_ri_i (am_y (sp_173 (fun k1 hk1 hk1' e1 => am_ri_i (am_y (sp_171 (fun k2 hk2 e2 => am_ri_i (am_y (sp_168 (fun a b => by
    exfalso
    rw [am_l0] at a
    rw [am_l1] at b
    rcases g with g | g | g | ⟨g1, g2⟩
    · rw [e, am_ti (by omega)] at g
      omega
    · rw [e1, am_ti (by omega)] at g
      omega
    · rw [e2, am_ti (by omega)] at g
      omega
    · rw [am_eq_i, am_l0] at g1
      rw [am_eq_i, am_l1] at g2
      omega) (fun _ => am_ri_i (am_nn (am_ri_i (h0 _))))))) (fun _ => am_ri_i (am_n0 (am_ri_i (h0 _))))))) (fun _ => am_ri_i (am_n0 (am_ri_i (h0 _))))))) (fun _ => am_ri_i (am_n0 (am_ri_i (h0 _)))))
  have ex5 : mi 1 2 = nI m := hX.2.1.2.2.2.1
  -- all else is good
  have good : ∀ s k r, s < 6 → x = nI s → 1 ≤ k → k ≤ 24 → y = nI k → r < 5 → z = nI r → (w = 0 ∨ w = 1) → (vp_in x 6 ∧ am_need (am_oc (66 + 2 * x.toNatClampNeg) == am_mk 100) (am_call (d + 10) 100 [.ref (66 + 2 * x.toNatClampNeg)] mi ml (am_ri fun r4 mi4 ml4 => ((r4 = 0 → (((mi4 1 2) ≠ 0 → am_call (d + 10) 30 [.ref 22] mi4 ml4 (am_rv fun mi5 ml5 => am_call (d + 10) 108 [.ref 58, .ref (66 + 2 * x.toNatClampNeg), .int y, .int z] mi5 ml5 (am_ri fun r6 mi6 ml6 => am_call (d + 10) 111 [.ref 58, .int r6] mi6 ml6 (am_ri fun r7 mi7 ml7 => ((w ≠ 0 → am_call (d + 10) 112 [.ref 58, .int r7, .int r6] mi7 ml7 (am_ri fun r8 mi8 ml8 => am_ri (fun r1 mi1 ml1 => am_call (d + 11) 241 [.ref 78, .int x, .int y, .int z, .int w] mi1 ml1 (am_ri fun r2 mi2 ml2 => Q r1 r2 mi2 ml2)) (some (.int r8)) mi8 ml8)) ∧ (¬ (w ≠ 0) → am_ri (fun r1 mi1 ml1 => am_call (d + 11) 241 [.ref 78, .int x, .int y, .int z, .int w] mi1 ml1 (am_ri fun r2 mi2 ml2 => Q r1 r2 mi2 ml2)) (some (.int r7)) mi7 ml7)))))) ∧ (¬ ((mi4 1 2) ≠ 0) → am_ri (fun r1 mi1 ml1 => am_call (d + 11) 241 [.ref 78, .int x, .int y, .int z, .int w] mi1 ml1 (am_ri fun r2 mi2 ml2 => Q r1 r2 mi2 ml2)) (some (.int (-2 : Int32))) mi4 ml4))) ∧ (¬ (r4 = 0) → am_ri (fun r1 mi1 ml1 => am_call (d + 11) 241 [.ref 78, .int x, .int y, .int z, .int w] mi1 ml1 (am_ri fun r2 mi2 ml2 => Q r1 r2 mi2 ml2)) (some (.int r4)) mi4 ml4))))) := by
    intro s k r hs es l1 l2 ek hr er hw01
    subst es
    have v6 : vp_in (nI s) 6 := vp_in_nI hs (by omega)
    rw [nI_clamp (show s < 2 ^ 31 by omega)]
    have ref : ∀ m2 v, am_call (d + 10) 236 [.ref 78, .int (nI s)] m2 ml (am_ri fun r5 mi5 ml5 => ((0 ≤ r5 → am_call (d + 10) 213 [.ref 78, .int z] mi5 ml5 (am_rv fun mi6 ml6 => am_call (d + 10) 238 [.ref 78, .int (nI s), .int y] mi6 ml6 (am_ri fun r7 mi7 ml7 => am_call (d + 10) 239 [.ref 78, .int r7, .int y] mi7 ml7 (am_ri fun r8 mi8 ml8 => am_wp (am_call (d + 10)) mt_241 (am_ri fun r2 mi2 ml2 => Q v r2 mi2 ml2) 41 [some (.ref 78), none, none, none, some (.int w), none, some (.int r8), some (.int (-2 : Int32)), some (.int (-2 : Int32)), some (.int (0 : Int32)), none] [] mi8 ml8)))) ∧ (¬ (0 ≤ r5) → (am_ri fun r2 mi2 ml2 => Q v r2 mi2 ml2) (some (.int r5)) mi5 ml5))) → am_call (d + 11) 241 [.ref 78, .int (nI s), .int y, .int z, .int w] m2 ml (am_ri fun r2 mi2 ml2 => Q v r2 mi2 ml2) := fun m2 v g => bk_241 (sp_174s hs rfl (am_ri_i (am_y (sp_173 (fun _ _ _ _ => am_ri_i (am_y (sp_171 (fun _ _ _ => am_ri_i (am_y (sp_168 (fun _ _ => am_ri_i (am_yn g)) (fun q3 => by
      exfalso
      rw [am_l0, am_l1] at q3
      rcases hw01 with e | e
      · rw [e, am_l0] at q3
        omega
      · rw [e, am_l1] at q3
        omega)))) (fun q3 => by
      exfalso
      rw [er, am_ti (by omega)] at q3
      omega)))) (fun q3 => by
      exfalso
      rw [ek, am_ti (by omega)] at q3
      omega)))))
    rcases am_sh_c hsv.1 (hsv.2 s hs) with ⟨l, hw⟩ | ⟨v, hw⟩
    · generalize hE : am_erl n u (fun j => (ml (67 + 2 * s) j).toInt32) y l = E
      generalize hW : am_cbe n m u (am_gvn P u n m r).1 E y = W
      have refg : ∀ m2, am_kp (am_FV n) mi m2 → am_X P u n m m2 → (∀ m3, (am_sfr m2 m3) → m3 22 2 = m2 22 2 → m3 1 3 = m2 1 3 → m3 15 7 = m2 15 7 → am_fvn P u n m m3) → ∀ v, v = (if m = 0 then -2 else if w = 0 then nI (am_grd W (m - 1)) else am_lft2 W (am_grd W (m - 1))) → am_call (d + 11) 241 [.ref 78, .int (nI s), .int y, .int z, .int w] m2 ml (am_ri fun r2 mi2 ml2 => Q v r2 mi2 ml2) := by
        intro m2 k2 hX2 hf v ev
        have hw2 := am_rw_V (n := n) hs hw k2
        refine ref m2 v (sp_236r hs hw2 rfl (am_ri_i ⟨fun _ => am_gvs hr hX2 er (fun m3 k3 hX3 a b => am_rv_i ?_), fun q => absurd (by decide) q⟩))
        have hw3 := am_rw_V (n := n) hs hw2 (am_kV_G k3)
        refine sp_238 (f := fun j => (ml (67 + 2 * s) j).toInt32) hs hw3 hX3.2.2.1 (fun _ _ => rfl) rfl (am_ri_i ?_)
        rw [hE]
        refine sp_239 (own := (am_gvn P u n m r).1) hX3.2.2.1 hX3.2.2.2 a (am_ri_i ?_)
        rw [hW]
        have em : m3 78 5 = nI m := hX3.2.2.1.2.2.2.1
        have fin : am_ri (fun r2 mi2 ml2 => Q v r2 mi2 ml2) (some (.int v)) m3 ml := am_ri_i (h v m3 (am_kp_t k2 (am_kV_G k3)) (hf m3 (fun c j q1 q2 => k3 c j (decide_eq_false (by omega))) (k3 22 2 rfl) (k3 1 3 rfl) (k3 15 7 rfl)))
        by_cases m0 : m = 0
        · rw [if_pos m0] at ev
          refine bk_241_41 (pk_le m 0 (fun _ => ⟨fun _ => ?_, fun _ => ?_⟩) (fun q => absurd q (by omega)) em rfl)
          · rw [← ev]
            exact fin
          · rw [← ev]
            exact fin
        · rw [if_neg m0] at ev
          have loop : ∀ t k, k + 1 + t = m → am_wp (am_call (d + 10)) mt_241 (am_ri fun r2 mi2 ml2 => Q v r2 mi2 ml2) 41 [some (.ref 78), none, none, none, some (.int w), none, some (.int W), some (.int (nI (am_grd W k))), some (.int (am_lft2 W (am_grd W k))), some (.int (nI (k + 1))), none] [] m3 ml := by
            intro t
            induction t with
            | zero =>
              intro k ek
              have ek : k = m - 1 := by omega
              subst ek
              refine bk_241_41 (pk_le m (m - 1 + 1) (fun _ => ⟨fun w0 => ?_, fun w0 => ?_⟩) (fun q => absurd q (by omega)) em rfl)
              · rw [if_neg w0] at ev
                rw [← ev]
                exact fin
              · rw [if_pos (Decidable.not_not.mp w0)] at ev
                rw [← ev]
                exact fin
            | succ t ih =>
              intro k ek
              have ih := ih (k + 1) (by omega)
              have gl := am_grd_le W k
              have un : am_grd W (k + 1) = if am_lft2 W (am_grd W k) ≤ am_lft2 W (k + 1) then am_grd W k else k + 1 := rfl
              rw [un] at ih
              refine bk_241_41 (pk_le m (k + 1) (fun q => absurd q (by omega)) (fun _ => sp_273 (am_ri_i ⟨fun q => ?_, fun q => ⟨fun q2 => ?_, fun q2 => ?_⟩⟩)) em rfl)
              · exfalso
                rw [am_eq_i, am_ti (by omega), am_lm2] at q
                omega
              · have e1 : ¬ am_lft2 W (am_grd W k) ≤ am_lft2 W (k + 1) := fun z => by
                  have q2 : am_lft2 W (k + 1) < am_lft2 W (am_grd W k) := q2
                  rw [am_lt_i] at q2
                  rw [am_le_i] at z
                  omega
                rw [if_neg e1] at ih
                rw [nI_1]
                exact ih
              · have e1 : am_lft2 W (am_grd W k) ≤ am_lft2 W (k + 1) := by
                  have q2 : ¬ am_lft2 W (k + 1) < am_lft2 W (am_grd W k) := q2
                  rw [am_lt_i] at q2
                  rw [am_le_i]
                  omega
                rw [if_pos e1] at ih
                rw [nI_1]
                exact ih
          refine bk_241_41 (pk_le m 0 (fun q => absurd q (by omega)) (fun _ => sp_273 (am_ri_i ⟨fun _ => ?_, fun q => absurd rfl q⟩)) em rfl)
          exact loop (m - 1) 0 (by omega)
      refine ⟨v6, am_need_o hs rfl (sp_100r hs hw (am_ri_i (am_n0 ?_)))⟩
      rw [ex5]
      refine ⟨fun mz => sp_30 hX.1 hX.2.1 hX.2.2.2 (am_fvn_u hv) (fun m2 k2 f2 _ => am_rv_i ?_), fun mz => am_ri_i (refg mi am_kp_r hX (fun m3 q1 _ _ _ => am_fvn_on hm5 hv q1) _ ?_)⟩
      · have m0 : ¬ m = 0 := fun q => mz (by rw [q]; rfl)
        have hX2 := am_X_V hX (am_kV_X (n := n) k2)
        have hw2 := am_rw_V (n := n) hs hw (am_kV_X k2)
        refine sp_108 (f := fun j => (ml (67 + 2 * s) j).toInt32) (own := (am_gvn P u n m r).1) hs hw2 hr hX2.2.1 hX2.2.2.2 (f2.2.2.2.1 r hr).1 (fun _ _ => rfl) er (am_ri_i ?_)
        rw [hE, hW]
        have rg := fun v ev => refg m2 (am_kV_X k2) hX2 (fun m3 q1 _ _ _ => am_fvn_i hX2 f2 q1) v ev
        refine sp_111 hX2.2.1 (by omega) (am_ri_i ⟨fun w0 => sp_112 rfl (am_ri_i (am_ri_i (rg _ ?_))), fun w0 => am_ri_i (rg _ ?_)⟩)
        · rw [if_neg m0, if_neg w0]
        · rw [if_neg m0, if_pos (Decidable.not_not.mp w0)]
      · have m0 : m = 0 := (nI_eq (a := m) (b := 0) (by omega) (by omega)).mp (Decidable.not_not.mp mz)
        rw [if_pos m0]
    · have vn : ¬ v = 0 ∧ ¬ 0 ≤ v := by
        rcases hw with ⟨e, -⟩ | ⟨e, -⟩ <;> subst e <;> exact ⟨by decide, by decide⟩
      exact ⟨v6, am_need_o hs rfl (sp_100n hs hw (am_ri_i ⟨fun q => absurd q vn.1, fun _ => am_ri_i (ref mi v (sp_236n hs hw rfl (am_ri_i ⟨fun q => absurd q vn.2, fun _ => am_ri_i (h0 _)⟩)))⟩))⟩
  exact bk_139 (sp_165 (fun s hs es => am_ri_i (am_y (sp_3 hst (w := 0) (by omega) rfl (fun k l1 l2 ek => am_ri_i (am_y (sp_163 (fun r hr er => am_ri_i (am_y ⟨fun w0 => good s k r hs es l1 l2 ek hr er (Or.inl w0), fun w0 => ⟨fun w1 => good s k r hs es l1 l2 ek hr er (Or.inr w1), fun w1 => am_ri_i (bad (Or.inr (Or.inr (Or.inr ⟨w0, w1⟩))))⟩⟩)) (fun g => am_ri_i (am_n0 (am_ri_i (bad (Or.inr (Or.inr (Or.inl g)))))))))) (fun g => am_ri_i (am_n0 (am_ri_i (bad (Or.inr (Or.inl g)))))))) ) (fun g => am_ri_i (am_n0 (am_ri_i (bad (Or.inl g))))))
end SP63
