/-! doors from a row: both sides; count -/
theorem am_lc1 {x y : Int64} : (0 < lg_cmp x y) ↔ y.toInt < x.toInt := by
  unfold lg_cmp
  rw [← Int64.lt_iff_toInt_lt]
  by_cases h : x > y
  · rw [if_pos h]
    exact ⟨fun _ => h, fun _ => by decide⟩
  · rw [if_neg h]
    refine ⟨fun q => ?_, fun q => absurd q h⟩
    split at q <;> exact absurd q (by decide)
theorem am_lc2 {x y : Int64} : (lg_cmp x y ≤ 0) ↔ x.toInt ≤ y.toInt := by
  have z := am_lc1 (x := x) (y := y)
  rw [am_lt_i, am_l0] at z
  rw [am_le_i, am_l0]
  omega
theorem am_lc3 {x y : Int64} : (lg_cmp x y < 0) ↔ x.toInt < y.toInt := by
  unfold lg_cmp
  rw [← Int64.lt_iff_toInt_lt]
  by_cases h : x > y
  · rw [if_pos h]
    refine ⟨fun q => absurd q (by decide), fun q => ?_⟩
    have h1 := Int64.lt_iff_toInt_lt.mp h
    have h2 := Int64.lt_iff_toInt_lt.mp q
    omega
  · rw [if_neg h]
    by_cases e : x = y
    · rw [if_pos e]
      refine ⟨fun q => absurd q (by decide), fun q => ?_⟩
      have h2 := Int64.lt_iff_toInt_lt.mp q
      rw [e] at h2
      omega
    · rw [if_neg e]
      refine ⟨fun _ => ?_, fun _ => by decide⟩
      rw [Int64.lt_iff_toInt_lt]
      have h1 : ¬ y.toInt < x.toInt := fun q => h (Int64.lt_iff_toInt_lt.mpr q)
      have h2 : ¬ x.toInt = y.toInt := fun q => e (Int64.toInt_inj.mp q)
      omega
theorem am_tl {n : Nat} (h : n < 2 ^ 62) : (lN n).toInt = (n : Int) := lg_ofNat_toInt (by omega)
def am_du (u : Nat → Nat → Int32) (n : Nat) (f : Nat → Int32) : Nat → Nat → Nat → Int32
  | 0 => u
  | k + 1 => am_uu (am_uu (am_uu (am_du u n f k) 0 (n + k) (f (3 * k))) 1 (n + k) (f (3 * k + 1))) 2 (n + k) (f (3 * k + 2))
def am_dok (n l p : Nat) (f : Nat → Int32) (k : Nat) : Prop := p + 3 * k + 3 ≤ l ∧ n + k < 12 ∧ (1 ≤ (f (3 * k)).toInt ∧ (f (3 * k)).toInt ≤ 24) ∧ (0 ≤ (f (3 * k + 1)).toInt ∧ (f (3 * k + 1)).toInt ≤ 7) ∧ 1 ≤ (f (3 * k + 2)).toInt ∧ (f (3 * k + 2)).toInt ≤ 9
section SP31
variable {d n m : Nat} {u : Nat → Nat → Int32} {mi : am_MI} {ml : am_ML} {R : am_R} {Q : Int32 → Int32 → am_MI → am_ML → Prop} {s nb q l p : Nat} {f : Nat → Int32}
theorem am_sta_on {a b : am_MI} (h : am_sta a) (he : ∀ c j, 114 ≤ c → b c j = a c j) : am_sta b := by
  obtain ⟨s1, s2, s3, s4, s5, s6, s7, s8, s9⟩ := h
  exact ⟨fun j hj => ⟨(he 114 j (by omega)).trans (s1 j hj).1, (he 115 j (by omega)).trans (s1 j hj).2⟩, (he 116 0 (by omega)).trans s2, (he 116 1 (by omega)).trans s3, (he 116 2 (by omega)).trans s4, (he 116 3 (by omega)).trans s5, (he 116 4 (by omega)).trans s6, (he 116 5 (by omega)).trans s7, (he 116 6 (by omega)).trans s8, (he 116 7 (by omega)).trans s9⟩
/-- at, a place that is there -/
theorem sp_103 {x : Int32} {j : Nat} (hs : s < 6) (hl : l ≤ 60) (e : mi (66 + 2 * s) 3 = nI l) (hj : j < l) (hx : x = nI j) (h : R (some (.long (ml (67 + 2 * s) j))) mi ml) : am_call (d + 2) 103 [.ref (66 + 2 * s), .int x] mi ml R := by
  obtain ⟨c1, c2, c3, c4⟩ := am_shc s hs
  refine bk_103 (am_need_o hs rfl (sp_101 hs hl e (fun j2 hj2 e2 => am_ri_i (am_y (am_need_o hs rfl ?_))) (fun g => ?_)))
  · rw [c2]
    refine am_need_k hs ?_
    rw [c4, hx, nI_clamp (by omega)]
    exact ⟨vp_in_nI (by omega) (by omega), h⟩
  · rw [hx, am_ti (by omega)] at g
    omega
/-- doorComes -/
theorem sp_167 {x y : Int32} {k v1 : Nat} (hst : am_sta mi) (hc : am_cx (n + k) m u mi) (hs : s < 6) (hl : l ≤ 60) (e : mi (66 + 2 * s) 3 = nI l) (hx : x = nI p) (hp : p < 2 ^ 31) (hy : y = nI k) (hk : k ≤ 12) (hf : ∀ j, p + j < l → (ml (67 + 2 * s) (p + j)).toInt32 = f j)
    (h0 : ¬ am_dok n l p f k → R (some (.int 0)) mi ml)
    (h1 : am_dok n l p f k → ∀ mi2, am_cx (n + (k + 1)) m (am_uu (am_uu (am_uu u 0 (n + k) (f (3 * k))) 1 (n + k) (f (3 * k + 1))) 2 (n + k) (f (3 * k + 2))) mi2 → am_kp am_FC mi mi2 → mi2 1 3 = mi 1 3 + 1 + 1 + 1 → (∀ j, mi2 9 j = mi 9 j ∧ mi2 10 j = mi 10 j) → R (some (.int 1)) mi2 ml) : am_call (d + 5) 167 [.ref 0, .ref (66 + 2 * s), .int x, .int y] mi ml R := by
  subst hx
  subst hy
  have fp : (nI p).toInt = p := am_ti hp
  have e3k : (3 : Int32) * nI k = nI (3 * k) := by rw [show (3 : Int32) = nI 3 from rfl, pk_mul]
  have el : (mi (66 + 2 * s) 3 - 3 * nI k - 3).toInt = (l : Int) - 3 * k - 3 := by
    rw [e, e3k, show (3 : Int32) = nI 3 from rfl, Int32.sub_sub, nI_add, pk_sub_toInt (by omega) (by omega)]
    omega
  refine bk_167 ⟨fun w => ?_, fun _ => am_need_o hs rfl ⟨fun w => ?_, fun w => ⟨am_b0, h0 (fun ok => ?_)⟩⟩⟩
  · rw [am_lt_i, fp, am_l0] at w
    omega
  · rw [am_le_i, fp, el] at w
    rw [e3k, nI_add, nI_1, show (2 : Int32) = nI 2 from rfl, nI_add]
    refine am_need_o hs rfl (sp_103 hs hl e (by omega) rfl (am_rj_i (am_need_o hs rfl (sp_103 hs hl e (by omega) rfl (am_rj_i (am_need_o hs rfl (sp_103 hs hl e (by omega) rfl (am_rj_i ?_)))))))) 
    rw [hf (3 * k) (by omega), show p + 3 * k + 1 = p + (3 * k + 1) from rfl, hf (3 * k + 1) (by omega), show p + 3 * k + 2 = p + (3 * k + 2) from rfl, hf (3 * k + 2) (by omega)]
    refine sp_3 hst (w := 0) (by omega) rfl (fun k0 a0 b0 e0 => am_ri_i (am_y (sp_3 hst (w := 1) (by omega) rfl (fun k1 a1 b1 e1 => am_ri_i (am_y (sp_3 hst (w := 2) (by omega) rfl (fun k2 a2 b2 e2 => am_ri_i (am_y (sp_6 hc (fun e12 => am_ri_i (am_n0 ⟨am_b0, h0 (fun ok => ?_)⟩)) (fun e12 mi2 hc2 kp2 ver cz => am_ri_i (am_y ⟨am_b1, h1 ⟨by omega, e12, ?_, ?_, ?_⟩ mi2 hc2 kp2 ver cz⟩))))) (fun g => am_ri_i (am_n0 ⟨am_b0, h0 (fun ok => ?_)⟩))))) (fun g => am_ri_i (am_n0 ⟨am_b0, h0 (fun ok => ?_)⟩))))) (fun g => am_ri_i (am_n0 ⟨am_b0, h0 (fun ok => ?_)⟩))
    · have := ok.2.1
      omega
    · rw [e0, am_ti (by have : am_hi 0 = 24 := rfl; omega)]
      have h9 : am_lo 0 = 1 := rfl
      have h10 : am_hi 0 = 24 := rfl
      omega
    · rw [e1, am_ti (by have : am_hi 1 = 7 := rfl; omega)]
      have h9 : am_lo 1 = 0 := rfl
      have h10 : am_hi 1 = 7 := rfl
      omega
    · rw [e2, am_ti (by have : am_hi 2 = 9 := rfl; omega)]
      have h9 : am_lo 2 = 1 := rfl
      have h10 : am_hi 2 = 9 := rfl
      omega
    · have z := ok.2.2.2.2
      have h9 : am_lo 2 = 1 := rfl
      have h10 : am_hi 2 = 9 := rfl
      omega
    · have z := ok.2.2.2.1
      have h9 : am_lo 1 = 0 := rfl
      have h10 : am_hi 1 = 7 := rfl
      omega
    · have z := ok.2.2.1
      have h9 : am_lo 0 = 1 := rfl
      have h10 : am_hi 0 = 24 := rfl
      omega
  · rw [am_le_i, fp, el] at w
    have := ok.1
    omega
/-- the class's loop -/
theorem sp_119l {x y : Int32} {N v1 : Nat} (hst : am_sta mi) (hs : s < 6) (hl : l ≤ 60) (e : mi (66 + 2 * s) 3 = nI l) (hx : x = nI p) (hp : p < 2 ^ 31) (hN : N ≤ 12) (hy : y = nI N) (hf : ∀ j, p + j < l → (ml (67 + 2 * s) (p + j)).toInt32 = f j) (hc : am_cx n m u mi) (hv1 : mi 1 3 = nI v1) (hcz : am_cz m mi)
    (h : ∀ k mi2, k ≤ N → (∀ j, j < k → am_dok n l p f j) → (k = N ∨ ¬ am_dok n l p f k) → am_cx (n + k) m (am_du u n f k) mi2 → am_kp am_FC mi mi2 → mi2 1 3 = nI (v1 + 3 * k) → am_cz m mi2 → R (some (.int (nI k))) mi2 ml) :
    am_wp (am_call (d + 5)) mt_119 R 29 [some (.ref 0), none, some (.int x), some (.int y), some (.ref (66 + 2 * s)), some (.int 0)] [] mi ml := by
  refine am_for N (fun k => ∀ mi2, (∀ j, j < k → am_dok n l p f j) → am_cx (n + k) m (am_du u n f k) mi2 → am_kp am_FC mi mi2 → mi2 1 3 = nI (v1 + 3 * k) → am_cz m mi2 → am_wp (am_call (d + 5)) mt_119 R 29 [some (.ref 0), none, some (.int x), some (.int y), some (.ref (66 + 2 * s)), some (.int (nI k))] [] mi2 ml) ?_ (fun k hk ih => ?_) 0 (Nat.zero_le _) mi (fun j q => absurd q (by omega)) hc am_kp_r hv1 hcz
  · intro mi2 a1 a2 a3 a4 a5
    exact bk_119_29 (pk_le N N (fun _ => h N mi2 (Nat.le_refl _) a1 (Or.inl rfl) a2 a3 a4 a5) (fun q => absurd q (Nat.lt_irrefl _)) hy rfl)
  · intro mi2 a1 a2 a3 a4 a5
    have e2 : mi2 (66 + 2 * s) 3 = nI l := (a3 _ _ (decide_eq_false (by omega))).trans e
    refine bk_119_29 (pk_le N k (fun q => absurd q (by omega)) (fun _ => sp_167 (v1 := 0) (am_sta_on hst (fun c j hcj => a3 c j (decide_eq_false (by omega)))) a2 hs hl e2 hx hp rfl (by omega) hf (fun no => am_ri_i (am_n0 (h k mi2 (by omega) a1 (Or.inr no) a2 a3 a4 a5))) (fun ok mi3 b1 b2 b3 b4 => am_ri_i (am_y ?_))) hy rfl)
    rw [nI_1]
    refine ih mi3 (fun j hj => ?_) b1 (am_kp_t a3 b2) ?_ (fun i h1 h2 => ?_)
    · by_cases ej : j = k
      · rw [ej]
        exact ok
      · exact a1 j (by omega)
    · rw [b3, a4, nI_1, nI_1, nI_1]
      congr 1
    · rw [(b4 i).1, (b4 i).2]
      exact a5 i h1 h2
/-- the reference's loop -/
theorem sp_178l {x y z : Int32} {N : Nat} (hs : s < 6) (hl : l ≤ 60) (e : mi 107 s = nI l) (hz : z = nI s) (hx : x = nI p) (hp : p < 2 ^ 31) (hN : N ≤ 12) (hy : y = nI N) (hf : ∀ j, p + j < l → (ml 108 (60 * s + (p + j))).toInt32 = f j) (hc : am_cm n m u mi) (k : Nat) (hk : k ≤ N) (hok : ∀ j, j < k → am_dok n l p f j) (hend : k = N ∨ ¬ am_dok n l p f k)
    (h : ∀ mi2, am_cm (n + k) m (am_du u n f k) mi2 → am_kp am_FM mi mi2 → (∀ j, n ≤ j → j < n + k → mi2 82 j = -2) → (∀ j, j < n → mi2 82 j = mi 82 j) → R (some (.int (nI k))) mi2 ml) :
    am_wp (am_call (d + 2)) mt_178 R 29 [some (.ref 78), some (.int z), some (.int x), some (.int y), some (.int 0), some (.int 0), none, none, none] [] mi ml := by
  subst hz
  subst hx
  have hcl : (nI s).toNatClampNeg = s := nI_clamp (by omega)
  have l3 : (3 : Int64) = lN 3 := rfl
  have pos : ∀ j, j ≤ N → (nI p).toInt64 + 3 * (nI j).toInt64 = lN (p + 3 * j) := fun j hj => by rw [nI_l hp, nI_l (by omega), l3, lN_mul, lN_add]
  have ix : ∀ j t, j ≤ N → p + 3 * j + t < 60 → 60 * nI s + (lN (p + 3 * j)).toInt32 + nI t = nI (60 * s + (p + (3 * j + t))) := fun j t hj ht => by
    rw [lN_i, show (60 : Int32) = nI 60 from rfl, pk_mul, nI_add, nI_add]
    congr 1
    omega
  have ix0 : ∀ j, j ≤ N → p + 3 * j < 60 → 60 * nI s + (lN (p + 3 * j)).toInt32 = nI (60 * s + (p + 3 * j)) := fun j hj ht => by
    rw [lN_i, show (60 : Int32) = nI 60 from rfl, pk_mul, nI_add]
  refine am_for k (fun j => ∀ mi2, am_cm (n + j) m (am_du u n f j) mi2 → am_kp am_FM mi mi2 → (∀ i, n ≤ i → i < n + j → mi2 82 i = -2) → (∀ i, i < n → mi2 82 i = mi 82 i) → am_wp (am_call (d + 2)) mt_178 R 29 [some (.ref 78), some (.int (nI s)), some (.int (nI p)), some (.int y), some (.int (nI j)), some (.int (nI j)), none, none, none] [] mi2 ml) ?_ (fun j hj ih => ?_) 0 (Nat.zero_le _) mi hc am_kp_r (fun i h1 h2 => absurd h2 (by omega)) (fun _ _ => rfl)
  · intro mi2 a1 a2 a3 a4
    have fin := h mi2 a1 a2 a3 a4
    have e2 : mi2 107 s = nI l := (a2 _ _ rfl).trans e
    by_cases ekn : k = N
    · subst ekn
      exact bk_178_29 (pk_le k k (fun _ => fin) (fun q => absurd q (Nat.lt_irrefl _)) hy rfl)
    · have no : ¬ am_dok n l p f k := hend.resolve_left ekn
      refine bk_178_29 (pk_le N k (fun q => absurd q (by omega)) (fun _ => ⟨fun _ => fin, fun _ => ⟨vp_in_nI hs (by omega), fun _ => fin, fun w => ?_⟩⟩) hy rfl)
      rw [hcl, e2, pos k hk, nI_l (n := l) (by omega), l3, lN_add, am_lc1, am_tl (by omega), am_tl (by omega)] at w
      refine ⟨fun w12 => ?_, fun _ => fin⟩
      have n12 : n + k < 12 := by
        rw [a1.2.2.1] at w12
        have h12 := a1.1
        have : ¬ n + k = 12 := fun e => w12 (by rw [e]; rfl)
        omega
      rw [pos k hk, ix0 k hk (by omega), nI_1, show (2 : Int32) = nI 2 from rfl, nI_add, nI_clamp (show 60 * s + (p + 3 * k) < 2 ^ 31 by omega), nI_clamp (show 60 * s + (p + 3 * k) + 1 < 2 ^ 31 by omega), nI_clamp (show 60 * s + (p + 3 * k) + 2 < 2 ^ 31 by omega), show 60 * s + (p + 3 * k) + 1 = 60 * s + (p + (3 * k + 1)) from rfl, show 60 * s + (p + 3 * k) + 2 = 60 * s + (p + (3 * k + 2)) from rfl]
      have f0 := hf (3 * k) (by omega)
      have f1 := hf (3 * k + 1) (by omega)
      have f2 := hf (3 * k + 2) (by omega)
      refine ⟨vp_in_nI (by omega) (by omega), sp_173 (fun t1 a b et => am_ri_i (am_y ⟨vp_in_nI (by omega) (by omega), sp_168 (fun a1 b1 => am_ri_i (am_y ⟨vp_in_nI (by omega) (by omega), sp_168 (fun a2 b2 => am_ri_i (am_yn ?_)) (fun g => am_ri_i (am_nn fin))⟩)) (fun g => am_ri_i (am_n0 fin))⟩)) (fun g => am_ri_i (am_n0 fin))⟩
      exfalso
      rw [am_l0, f1] at a1
      rw [am_l7, f1] at b1
      rw [am_l1, f2] at a2
      rw [am_l9, f2] at b2
      rw [f0] at et
      exact no ⟨by omega, n12, by rw [et, am_ti (by omega)]; omega, ⟨a1, b1⟩, a2, b2⟩
  · intro mi2 a1 a2 a3 a4
    obtain ⟨o1, o2, o3, o4, o5⟩ := hok j hj
    have e2 : mi2 107 s = nI l := (a2 _ _ rfl).trans e
    refine bk_178_29 (pk_le N j (fun q => absurd q (by omega)) (fun _ => ⟨fun w => ?_, fun _ => ⟨vp_in_nI hs (by omega), fun w => ?_, fun w => ⟨fun w12 => ?_, fun w12 => ?_⟩⟩⟩) hy rfl)
    · rw [pos j (by omega), am_lc3, am_tl (by omega)] at w
      have : (0 : Int64).toInt = 0 := rfl
      omega
    · rw [hcl, e2, pos j (by omega), nI_l (n := l) (by omega), l3, lN_add, am_lc1, am_tl (by omega), am_tl (by omega)] at w
      omega
    · rw [pos j (by omega), ix0 j (by omega) (by omega), nI_1, show (2 : Int32) = nI 2 from rfl, nI_add, nI_clamp (show 60 * s + (p + 3 * j) < 2 ^ 31 by omega), nI_clamp (show 60 * s + (p + 3 * j) + 1 < 2 ^ 31 by omega), nI_clamp (show 60 * s + (p + 3 * j) + 2 < 2 ^ 31 by omega), show 60 * s + (p + 3 * j) + 1 = 60 * s + (p + (3 * j + 1)) from rfl, show 60 * s + (p + 3 * j) + 2 = 60 * s + (p + (3 * j + 2)) from rfl]
      have f0 := hf (3 * j) (by omega)
      have f1 := hf (3 * j + 1) (by omega)
      have f2 := hf (3 * j + 2) (by omega)
      have v0 : vp_in (nI (60 * s + (p + 3 * j))) 360 := vp_in_nI (by omega) (by omega)
      have v1 : vp_in (nI (60 * s + (p + (3 * j + 1)))) 360 := vp_in_nI (by omega) (by omega)
      have v2 : vp_in (nI (60 * s + (p + (3 * j + 2)))) 360 := vp_in_nI (by omega) (by omega)
      refine ⟨v0, sp_173 (fun t1 a b et => am_ri_i (am_y ⟨v1, sp_168 (fun _ _ => am_ri_i (am_y ⟨v2, sp_168 (fun _ _ => am_ri_i (am_yn ⟨v0, v1, v2, ?_⟩)) (fun g => ?_)⟩)) (fun g => ?_)⟩)) (fun g => ?_)⟩
      · rw [f0, f1, f2]
        refine sp_176 a1 o2 (fun mi3 b1 b2 b3 b4 => am_ri_i ?_)
        rw [nI_1]
        refine ih mi3 b1 (am_kp_t a2 b2) (fun i h1 h2 => ?_) (fun i hi => (b4 i (by omega)).trans (a4 i hi))
        by_cases ei : i = n + j
        · rw [ei]
          exact b3
        · exact (b4 i ei).trans (a3 i h1 (by omega))
      · rw [am_l1, am_l9, f2] at g
        omega
      · rw [am_l0, am_l7, f1] at g
        omega
      · rw [f0] at g
        omega
    · exfalso
      have w12 := Decidable.not_not.mp w12
      rw [a1.2.2.1] at w12
      have := (nI_eq (a := n + j) (b := 12) (by omega) (by omega)).mp w12
      omega
end SP31
