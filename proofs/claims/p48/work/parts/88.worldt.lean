/-! world: the text fed, the law -/
/-- while the text is fed -/
def dw_T (n m v t L : Nat) (mi : am_MI) : Prop := (∃ u, dq_Q [] u n m mi ∧ dq_V v mi ∧ dq_C mi ∧ ((∀ j, j < 12 → mi 60 j = -2) ∧ ∀ j, 2 ≤ j → j ≤ 5 → mi 59 j = 0)) ∧ dq_T t mi ∧ mi 78 0 = nI n ∧ mi 78 1 = nI m ∧ mi 78 100000 = 37 ∧ mi 138 1 = 0 ∧ (mi 139 100000).toNatClampNeg = L
section SP88
variable {d n m v t L : Nat} {u : Nat → Nat → Int32} {mi : am_MI} {ml : am_ML} {R : am_R} {P : List (List Nat × List Nat)}
theorem dw_276 (hc : mi 138 1 = 0) (hL : (mi 139 100000).toNatClampNeg = L) (h : R (some (.int (nI L))) mi ml) : am_call (d + 2) 276 [.ref 138] mi ml R := by
  refine bk_276 (am_need_i rfl (am_need_i rfl (am_need_i rfl (sp_279 rfl hc (am_ri_i ?_)))))
  rw [am_shr0]
  show R (some (.int (Int32.ofNat (mi 139 100000).toNatClampNeg))) mi ml
  rw [hL]
  exact h
theorem dw_284 {i : Nat} (hc : mi 138 1 = 0) (hL : (mi 139 100000).toNatClampNeg = L) (hL2 : L < 2 ^ 31) (hi : i < L) (h : ∀ b, b < 256 → R (some (.int (nI b))) mi ml) : am_call (d + 4) 284 [.ref 138, .int (nI i)] mi ml R := by
  refine bk_284 (am_need_i rfl (sp_280 rfl hc (am_ri_i ⟨fun w => absurd w (by decide), fun _ => am_need_i rfl (bk_285 (am_need_i rfl (bk_286 (bk_287 ?_))))⟩)))
  have hlen : am_len mi 139 = L := hL
  obtain ⟨b, hb, eb⟩ := dq_and255 (x := mi 139 (nI i).toNatClampNeg)
  refine ⟨fun w => absurd w (dq_p (by omega)), fun _ => ⟨fun _ => am_ri_i (am_rv_i (am_need_i rfl ⟨?_, ?_, am_ri_i ?_⟩)), fun w => absurd ?_ w⟩⟩
  · show vp_in (nI i) (am_len mi 139)
    rw [hlen]
    exact vp_in_nI (by omega) (by omega)
  · show am_i2c (am_i2c (mi 139 (nI i).toNatClampNeg &&& 255)) = am_i2c (mi 139 (nI i).toNatClampNeg &&& 255)
    rw [eb, dq_i2c b hb, dq_i2c b hb]
  · show am_i2c (am_i2c (mi 139 (nI i).toNatClampNeg &&& 255)) = am_i2c (mi 139 (nI i).toNatClampNeg &&& 255) ∧ R (some (.int (am_i2c (mi 139 (nI i).toNatClampNeg &&& 255)))) mi ml
    rw [eb, dq_i2c b hb, dq_i2c b hb]
    exact ⟨rfl, h b hb⟩
  · show nI i < nI (am_len mi 139)
    rw [hlen]
    exact (dq_lt (by omega) (by omega)).mpr hi
theorem dw_A (h : dw_T n m v 0 L mi) : ∃ u, dq_A [] u n m v mi := by
  obtain ⟨⟨u, q, V, C, z⟩, hT, _⟩ := h
  exact ⟨u, q, V, C, z, hT.2.1⟩
theorem dw_feed {b : Nat} {x : Int32} (h : dw_T n m v t L mi) (hb : b < 256) (hx : x = nI b) (hR : ∀ r t2 m2, dw_T n m v t2 L m2 → R (some (.int r)) m2 ml) : am_call (d + 2) 123 [.ref 0, .int x] mi ml R := by
  obtain ⟨⟨u, q, V, C, z1, z2⟩, hT, g1, g2, g3, g4, g5⟩ := h
  refine dq_123 hT hb hx (fun r t2 m2 k2 T2 _ => hR r t2 m2 ⟨⟨u, dq_Q_O q (am_kp_w k2 (fun c j w => ?_)), dq_V_on V (k2 1 3 rfl) (k2 15 7 rfl), dq_C_on C (k2 13 1 rfl), fun j hj => (k2 60 j rfl).trans (z1 j hj), fun j a b => (k2 59 j rfl).trans (z2 j a b)⟩, T2, (k2 78 0 rfl).trans g1, (k2 78 1 rfl).trans g2, (k2 78 100000 rfl).trans g3, (k2 138 1 rfl).trans g4, by rw [k2 139 100000 rfl]; exact g5⟩)
  have w := of_decide_eq_false w
  exact decide_eq_false (by omega)
theorem dw_288 (hv : v ≤ 800) (hL2 : L < 2 ^ 31) (h : ∀ P u mi, dq_A P u n m (v + 1) mi → mi 78 0 = nI n → mi 78 1 = nI m → mi 78 100000 = 37 → R none mi ml) : ∀ i, i ≤ L → ∀ mi t, (i = 0 → t = 0) → dw_T n m v t L mi → am_wp (am_call (d + 58)) mt_291 R 288 [some (.ref 0), none, none, some (.ref 138), none, some (.int (nI i)), none, none, none, none, none, none] [] mi ml := by
  refine am_for L _ (fun mi t ht hT => ?_) (fun i hi ih mi t ht hT => ?_)
  · have g5 := hT.2.2.2.2.2
    refine bk_291_288 (dw_276 g5.1 g5.2 (am_ri_i (pk_le L L (fun _ => dw_276 g5.1 g5.2 (am_ri_i (pk_le L 0 (fun w => bk_291_306 ?_) (fun w => ?_) rfl rfl))) (fun w => absurd w (by omega)) rfl rfl)))
    · have t0 := ht (by omega)
      subst t0
      obtain ⟨u, hA⟩ := dw_A hT
      exact h [] u mi ⟨hA.1, dq_V_m hA.2.1 (by omega), hA.2.2⟩ hT.2.2.1 hT.2.2.2.1 hT.2.2.2.2.1
    · obtain ⟨⟨u, q, V, C, z1, z2⟩, hT2, g1, g2, g3, g4, g5⟩ := hT
      refine dq_124 q V (by omega) hT2 (fun P2 m2 k2 e q2 V2 => am_ri_i (bk_291_306 ?_)) (fun r m2 k2 e q2 => am_ri_i (bk_291_306 ?_))
      · exact h P2 u m2 ⟨q2, V2, dq_C_on C (k2 13 1 rfl), ⟨fun j hj => (k2 60 j rfl).trans (z1 j hj), fun j a b => (k2 59 j rfl).trans (z2 j a b)⟩, e⟩ ((k2 78 0 rfl).trans g1) ((k2 78 1 rfl).trans g2) ((k2 78 100000 rfl).trans g3)
      · exact h [] u m2 ⟨q2, dq_V_m (dq_V_on V (k2 1 3 rfl) (k2 15 7 rfl)) (by omega), dq_C_on C (k2 13 1 rfl), ⟨fun j hj => (k2 60 j rfl).trans (z1 j hj), fun j a b => (k2 59 j rfl).trans (z2 j a b)⟩, e⟩ ((k2 78 0 rfl).trans g1) ((k2 78 1 rfl).trans g2) ((k2 78 100000 rfl).trans g3)
  · have g5 := hT.2.2.2.2.2
    refine bk_291_288 (dw_276 g5.1 g5.2 (am_ri_i (pk_le L i (fun w => absurd w (by omega)) (fun _ => dw_284 g5.1 g5.2 hL2 hi (fun b hb => am_ri_i (dw_feed hT hb rfl (fun r t2 m2 hT2 => am_ri_i ?_)))) rfl rfl)))
    rw [nI_1]
    exact ih m2 t2 (fun w => absurd w (by omega)) hT2
/-- world -/
theorem dq_291 (hE : dw_E 0 0 v mi) (hv : v ≤ 500) (h : ∀ P u n m mi, dq_A P u n m 850 mi → n ≤ 12 → m ≤ 5 → mi 78 0 = nI n → mi 78 1 = nI m → mi 78 100000 = 37 → R none mi ml) : am_call (d + 59) 291 [.ref 0, .ref 117, .ref 78, .ref 138] mi ml R := by
  have clamp0 : (0 : Int32).toNatClampNeg = 0 := by decide
  have clamp1 : (1 : Int32).toNatClampNeg = 1 := by decide
  -- the text
  have h288 : ∀ n m v mi, n ≤ 12 → m ≤ 5 → v ≤ 800 → dw_E n m v mi → mi 78 0 = nI n → mi 78 1 = nI m → am_wp (am_call (d + 58)) mt_291 R 288 [some (.ref 0), none, none, some (.ref 138), none, some (.int (nI 0)), none, none, none, none, none, none] [] mi ml := by
    intro n m v mi hn hm hv hE e0 e1
    obtain ⟨⟨u, hA⟩, _, h3, h4⟩ := hE
    refine dw_288 (n := n) (m := m) (v := v) (L := (mi 139 100000).toNatClampNeg) hv (Int32.toNatClampNeg_lt _) (fun P u mi hA a b c => h P u n m mi ⟨hA.1, dq_V_m hA.2.1 (by omega), hA.2.2⟩ hn hm a b c) 0 (Nat.zero_le _) mi 0 (fun _ => rfl) ⟨⟨u, hA.1, hA.2.1, hA.2.2.1, hA.2.2.2.1⟩, ⟨by omega, hA.2.2.2.2, fun j hj => absurd hj (Nat.not_lt_zero _)⟩, e0, e1, h3, h4, rfl⟩
  -- the children
  have h163 : ∀ n v mi, n ≤ 12 → v ≤ 700 → dw_E n 0 v mi → mi 78 0 = nI n → ∀ l4 k, k ≤ 5 → am_wp (am_call (d + 58)) mt_291 R 163 [some (.ref 0), some (.ref 117), some (.ref 78), some (.ref 138), some (.int l4), none, none, none, none, none, none, none] [.int (nI k), .int 1, .ref 78] mi ml := by
    intro n v mi hn hv hE e0 l4 k hk
    refine bk_291_163 ⟨dw_E_in (k := 1) hE (by omega), ?_⟩
    rw [clamp1]
    exact dq_w166 (d := d + 53) (v := v) hk hn hv (fun mi hE e0 e1 => h288 n k _ mi hn hk (by omega) hE e0 e1) 0 (Nat.zero_le _) _ (dw_E_ui hE (by omega)) ((am_ui_n (fun _ w => by omega)).trans e0) am_ui_k
  -- the doors
  have h53 : ∀ v mi, v ≤ 600 → dw_E 0 0 v mi → ∀ l4 N, N ≤ 12 → am_wp (am_call (d + 58)) mt_291 R 53 [some (.ref 0), some (.ref 117), some (.ref 78), some (.ref 138), some (.int l4), none, none, none, none, none, none, none] [.int (nI N), .int 0, .ref 78] mi ml := by
    intro v mi hv hE l4 N hN
    refine bk_291_53 ⟨dw_E_in (k := 0) hE (by omega), ?_⟩
    rw [clamp0]
    exact dq_w56 (d := d + 53) (v := v) hN hv (fun mi hE e0 k hk => h163 N _ mi hN (by omega) hE e0 l4 k hk) 0 (Nat.zero_le _) _ (dw_E_ui hE (by omega)) am_ui_k
  -- from the start
  have c2 : (2 : Int32).toNatClampNeg = 2 := by decide
  have c3 : (3 : Int32).toNatClampNeg = 3 := by decide
  refine bk_291 (dq_288 (b := 0) (by omega) (dw_E_s hE) (fun x => am_ri_i ⟨dw_E_in (k := 2) hE (by omega), dq_289x (k := 10) rfl (by omega) (by omega) (fun a ha => am_ri_i ?_)⟩))
  obtain ⟨b, hb, eb⟩ := dq_and1 (x := x)
  rw [eb]
  have E1 := dw_E_ui (k := 2) (x := nI b) hE (by omega)
  have E2 := dw_E_ui (k := 3) (x := nI a) E1 (by omega)
  generalize hm1 : am_ui mi 78 2 (nI b) = m1 at E1 E2 ⊢
  generalize hm2 : am_ui m1 78 3 (nI a) = m2 at E2 ⊢
  have v2 : m1 78 2 = nI b := by
    rw [← hm1]
    exact am_ui_k
  have v3 : m2 78 3 = nI a := by
    rw [← hm2]
    exact am_ui_k
  have l8 : am_lo 8 = 0 := rfl
  have g8 : am_hi 8 = 1 := rfl
  have l9 : am_lo 9 = 0 := rfl
  have g9 : am_hi 9 = 9 := rfl
  refine ⟨dw_E_in (k := 3) E1 (by omega), dw_E_in (k := 2) E1 (by omega), dw_E_121 (w := 8) (i := 0) (p := b) E2 (by omega) (am_vs (by omega) (by omega)) (by omega) (by omega) rfl rfl v2 (fun r m3 E3 ka => am_ri_i ⟨dw_E_in (k := 3) E3 (by omega), dw_E_121 (w := 9) (i := 0) (p := a) E3 (by omega) (am_vs (by omega) (by omega)) (by omega) (by omega) rfl rfl ((ka 3).trans v3) (fun r2 m4 E4 kb => am_ri_i ⟨fun _ => dq_289x (k := 7) rfl (by omega) (by omega) (fun j hj => am_ri_i ?_), fun _ => dq_289x (k := 13) rfl (by omega) (by omega) (fun j hj => am_ri_i (h53 _ m4 (by omega) E4 x j (by omega)))⟩)⟩)⟩
  rw [show (1 : Int32) + nI j = nI (1 + j) from nI_add _ _]
  exact h53 _ m4 (by omega) E4 x (1 + j) (by omega)
end SP88
