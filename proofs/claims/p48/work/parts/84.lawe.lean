/-! the law's run: what is mended undone -/
section SP84
variable {K : am_K} {d n m r v : Nat} {u : Nat → Nat → Int32} {mi : am_MI} {ml : am_ML} {R : am_R} {P : List (List Nat × List Nat)}
/-- at: some int of the script, or 0 -/
theorem dq_288 {b : Nat} (hb : b < 1000) (hs : am_sta mi) (h : ∀ x, R (some (.int x)) mi ml) : am_call (d + 1) 288 [.ref 117, .int (nI b)] mi ml R := by
  have hl : (mi 117 100000).toNatClampNeg ≤ 260 := hs.2.2.2.2.2.2.2.2.2
  refine bk_288 ⟨fun _ => h _, fun w => ⟨?_, h _⟩⟩
  have e : ¬ nI (mi 117 100000).toNatClampNeg ≤ nI b := w
  rw [dq_le (by omega) (by omega)] at e
  exact vp_in_nI (by omega) (by omega)
theorem dq_rem_e {x : Int32} {k : Nat} (h0 : 0 < k) (hk : k < 1000) : (am_rem x (nI k)).toInt = x.toInt.tmod k := by
  have hx1 := Int32.le_toInt x
  have hx2 := Int32.toInt_lt x
  have ek : (nI k).toInt = k := am_ti (by omega)
  have ne : nI k ≠ -1 := fun w => by
    rw [am_eq_i, ek, am_lm1] at w
    omega
  unfold am_rem
  rw [Int32.toInt_sub, Int32.toInt_mul, Int32.toInt_div_of_ne_right _ _ ne, ek, Int.sub_bmod_bmod]
  have e : x.toInt - x.toInt.tdiv k * k = x.toInt.tmod k := by
    have := Int.tdiv_mul_add_tmod x.toInt k
    omega
  have a1 := Int.tmod_lt_of_pos x.toInt (b := k) (by omega)
  have a2 := Int.lt_tmod_of_pos x.toInt (b := k) (by omega)
  rw [e]
  exact Int.bmod_eq_of_le (by omega) (by omega)
/-- some: a number below -/
theorem dq_289 {x : Int32} {k : Nat} (h0 : 0 < k) (hk : k < 1000) (h : ∀ j, j < k → R (some (.int (nI j))) mi ml) : am_call (d + 1) 289 [.int x, .int (nI k)] mi ml R := by
  have a1 := Int.tmod_lt_of_pos x.toInt (b := k) (by omega)
  have a2 := Int.lt_tmod_of_pos x.toInt (b := k) (by omega)
  have e := dq_rem_e (x := x) h0 hk
  have k0 : ¬ nI k = 0 := fun w => by
    have := (nI_eq (b := 0) (by omega) (by omega)).mp w
    omega
  refine bk_289 ⟨k0, fun w => ?_, fun w => ?_⟩
  · rw [am_le_i, am_l0, e] at w
    obtain ⟨j, hj, ej⟩ := am_nat (x := am_rem x (nI k)) (n := k) (by omega) (by omega)
    rw [ej]
    exact h j hj
  · rw [am_le_i, am_l0, e] at w
    have e2 : (am_rem x (nI k) + nI k).toInt = x.toInt.tmod k + k := by
      rw [Int32.toInt_add, e, am_ti (by omega)]
      exact Int.bmod_eq_of_le (by omega) (by omega)
    obtain ⟨j, hj, ej⟩ := am_nat (x := am_rem x (nI k) + nI k) (n := k) (by omega) (by omega)
    rw [ej]
    exact h j hj
/-- mended, and undone: all as it was -/
theorem dq_mend {w i p q : Nat} {x y z : Int32} (hB : dq_B P u n m v mi) (hv : v ≤ 990) (hval : am_val n m w i) (hp1 : am_lo w ≤ p) (hp2 : p ≤ am_hi w) (hx : x = nI i) (hy : y = nI w) (hz : z = nI p)
    (h0 : u w i = z → R (some (.int (u w i))) mi ml)
    (h1 : ¬ u w i = z → ∀ m2, dq_Q P (am_uu u w i z) n m m2 → (∀ (R2 : am_R) (e : Nat), (∀ k m3, k ≤ 39 → dq_B P u n m (v + 2) m3 → R2 (some (.int (nI k))) m3 ml) → am_call (e + 5) 151 [.ref 0] m2 ml R2) → R (some (.int (u w i))) m2 ml) : am_call (d + 4) 121 [.ref 0, .int x, .int y, .int z] mi ml R := by
  obtain ⟨p0, q1, q2, ep0⟩ := hB.1.1.2.2.2 w i hval
  refine dq_121 hB.1 hB.2.2.1 hB.2.1 (by omega) hval hp1 hp2 hx hy hz h0 (fun ne m2 k2 hq2 hV2 _ hk => h1 ne m2 hq2 (fun R2 e hR => ?_))
  obtain ⟨k, hk39, e13, a0, a1, a2⟩ := hk
  refine dq_151 (p := p0) hq2 hV2 (by omega) hval q1 q2 hk39 e13 a0 a1 (by rw [a2, ep0]) (fun m3 k3 hq3 hV3 hC3 => hR k m3 hk39 ?_)
  rw [← ep0, dq_uu_b, dq_uu_s] at hq3
  refine ⟨hq3, hV3, hC3, dq_D0_on hB.2.2.2.1 (fun c j h1 h2 => (k3 c j (decide_eq_false (by omega))).trans (k2 c j (decide_eq_false (by omega)))), ((k3 15 1 rfl).trans (k2 15 1 rfl)).trans hB.2.2.2.2⟩
theorem dq_B_v {v2 : Nat} (hB : dq_B P u n m v mi) (h : v ≤ v2) : dq_B P u n m v2 mi := ⟨hB.1, dq_V_m hB.2.1 h, hB.2.2⟩
section LOOPS
variable {S : Int64}
/-- sizes -/
theorem dl_653 (hcl : am_lawK K) (hn : n ≤ 12) (hv : v ≤ 900) (hnext : ∀ mi ml, dq_B P u n m (v + 2 * n) mi → K 694 [some (.ref 117), some (.ref 0), none, some (.int (nI n)), some (.int (nI m)), some (.long (S)), none, none, none, none, none, none, none, none, none, none, none, none] [] mi ml) : ∀ j, j ≤ n → ∀ mi ml, dq_B P u n m (v + 2 * j) mi → K 653 [some (.ref 117), some (.ref 0), none, some (.int (nI n)), some (.int (nI m)), some (.long (S)), none, none, none, some (.int (nI j)), none, none, none, none, none, none, none, none] [] mi ml := by
  refine am_for n _ (fun mi ml hB => lb_653 hcl (pk_le n n (fun _ => hnext mi ml hB) (fun w => absurd w (by omega)) rfl rfl)) (fun j hj ih mi ml hB => ?_)
  have h684 : ∀ mi ml, dq_B P u n m (v + 2 * (j + 1)) mi → K 684 [some (.ref 117), some (.ref 0), none, some (.int (nI n)), some (.int (nI m)), some (.long (S)), none, none, none, some (.int (nI j)), some (.int (u 2 j)), none, none, none, none, none, none, none] [] mi ml := by
    intro mi ml hB
    refine lb_684 hcl (dq_122 (w := 2) hB.1.1.2.1 (am_vd (by omega) hj) rfl rfl (am_ri_i ⟨fun _ => lb_692 hcl ?_, fun w => absurd rfl w⟩))
    rw [nI_1]
    exact ih mi ml hB
  refine lb_653 hcl (pk_le n j (fun w => absurd w (by omega)) (fun _ => ?_) rfl rfl)
  refine dq_122 (w := 2) hB.1.1.2.1 (am_vd (by omega) hj) rfl rfl (am_ri_i ?_)
  obtain ⟨s, s1, s2, es⟩ := hB.1.1.2.2.2 2 j (am_vd (by omega) hj)
  have l2 : am_lo 2 = 1 := rfl
  have h2 : am_hi 2 = 9 := rfl
  have es10 : (10 : Int32) - u 2 j = nI (10 - s) := by rw [es, show (10 : Int32) = nI 10 from rfl, pk_sub (by omega)]
  refine dq_mend (w := 2) (i := j) (p := 10 - s) (q := 0) hB (by omega) (am_vd (by omega) hj) (by omega) (by omega) rfl rfl es10 (fun same => am_ri_i ⟨fun w => absurd rfl w, fun _ => dq_122 (w := 2) hB.1.1.2.1 (am_vd (by omega) hj) rfl rfl (am_ri_i ⟨fun w => absurd same w, fun _ => ⟨fun _ => h684 mi ml (dq_B_v hB (by omega)), fun w => absurd ?_ w⟩⟩)⟩) (fun ne m2 hq2 hun => am_ri_i ⟨fun w => absurd rfl w, fun _ => dq_122 (w := 2) hq2.1.2.1 (am_vd (by omega) hj) rfl rfl (am_ri_i ⟨fun w => absurd am_uu_k w, fun _ => ⟨fun w => absurd ?_ ne, fun _ => hun _ _ (fun k m3 hk hB3 => am_ri_i ⟨fun w => absurd w (dq_p (by omega)), fun _ => h684 m3 ml (by rw [Nat.mul_add, ← Nat.add_assoc]; exact hB3)⟩)⟩⟩)⟩)
  · rw [es10, es] at same
    have e : s = 10 - s := (nI_eq (by omega) (by omega)).mp same
    rw [es, show s = 5 by omega]
    rfl
  · rw [w]
    decide
/-- away till -/
theorem dl_696 (hcl : am_lawK K) (hm : m ≤ 5) (hv : v ≤ 900) (hnext : ∀ mi ml, dq_B P u n m (v + 2 * m) mi → K 735 [some (.ref 117), some (.ref 0), none, some (.int (nI n)), some (.int (nI m)), some (.long (S)), none, none, none, none, none, none, none, none, none, none, none, none] [] mi ml) : ∀ j, j ≤ m → ∀ mi ml, dq_B P u n m (v + 2 * j) mi → K 696 [some (.ref 117), some (.ref 0), none, some (.int (nI n)), some (.int (nI m)), some (.long (S)), none, none, none, some (.int (nI j)), none, none, none, none, none, none, none, none] [] mi ml := by
  refine am_for m _ (fun mi ml hB => lb_696 hcl (pk_le m m (fun _ => hnext mi ml hB) (fun w => absurd w (by omega)) rfl rfl)) (fun j hj ih mi ml hB => ?_)
  have h725 : ∀ mi ml, dq_B P u n m (v + 2 * (j + 1)) mi → K 725 [some (.ref 117), some (.ref 0), none, some (.int (nI n)), some (.int (nI m)), some (.long (S)), none, none, none, some (.int (nI j)), some (.int (u 7 j)), none, none, none, none, none, none, none] [] mi ml := by
    intro mi ml hB
    refine lb_725 hcl (dq_122 (w := 7) hB.1.1.2.1 (am_vc (by omega) (by omega) hj) rfl rfl (am_ri_i ⟨fun _ => lb_733 hcl ?_, fun w => absurd rfl w⟩))
    rw [nI_1]
    exact ih mi ml hB
  have l7 : am_lo 7 = 0 := rfl
  have h7 : am_hi 7 = 24 := rfl
  refine lb_696 hcl (pk_le m j (fun w => absurd w (by omega)) (fun _ => ?_) rfl rfl)
  refine dq_122 (w := 7) hB.1.1.2.1 (am_vc (by omega) (by omega) hj) rfl rfl (am_ri_i (dq_288 (b := 24) (by omega) hB.1.2.1 (fun x => am_ri_i (dq_289 (k := 25) (by omega) (by omega) (fun t ht => am_ri_i ?_)))))
  refine dq_mend (w := 7) (i := j) (p := t) (q := 0) hB (by omega) (am_vc (by omega) (by omega) hj) (by omega) (by omega) rfl rfl rfl (fun same => am_ri_i ⟨fun w => absurd rfl w, fun _ => ⟨fun _ => h725 mi ml (dq_B_v hB (by omega)), fun w => absurd same.symm w⟩⟩) (fun ne m2 hq2 hun => am_ri_i ⟨fun w => absurd rfl w, fun _ => ⟨fun w => absurd w.symm ne, fun _ => hun _ _ (fun k m3 hk hB3 => am_ri_i ⟨fun w => absurd w (dq_p (by omega)), fun _ => h725 m3 ml (by rw [Nat.mul_add, ← Nat.add_assoc]; exact hB3)⟩)⟩⟩)
theorem dl_735 (hcl : am_lawK K) (hB : dq_B P u n m v mi) (hnext : ∀ mi ml, dq_B P u n m v mi → K 746 [some (.ref 117), some (.ref 0), none, some (.int (nI n)), some (.int (nI m)), some (.long (dq_S P u n m)), none, none, none, some (.int (nI 0)), some (.int (nI 1)), none, none, none, none, none, none, none] [] mi ml) : K 735 [some (.ref 117), some (.ref 0), none, some (.int (nI n)), some (.int (nI m)), some (.long (dq_S P u n m)), none, none, none, none, none, none, none, none, none, none, none, none] [] mi ml := by
  refine lb_735 hcl (dq_290B hB (fun m2 k2 hB2 => am_rj_i ?_))
  rw [dq_lc]
  exact ⟨fun _ => lb_742 hcl (hnext m2 ml hB2), fun w => absurd rfl w⟩
end LOOPS
end SP84
