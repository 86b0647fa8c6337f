/-! pairs: away, waits -/
def am_aw0 (u : Nat → Nat → Int32) (c i : Nat) : Int32 := if am_aw u c (u 0 i) then 1 else 0
def am_aw1 (own : Nat → Int32) (u : Nat → Nat → Int32) (c i : Nat) : Int32 := if own i = nI c then (if am_nev u c i then 1 else 0) else 0
def am_aw2 (own : Nat → Int32) (u : Nat → Nat → Int32) (c i : Nat) : Int32 := if own i = nI c then (if am_nev u c i then 0 else am_lat u c i) else 0
theorem am_cnt_m (p : Nat → Bool) : ∀ k, nI (am_cnt p k) = am_sm (fun i => if p i = true then 1 else 0) k
  | 0 => rfl
  | k + 1 => by
    show nI (am_cnt p k + (if p k = true then 1 else 0)) = am_sm (fun i => if p i = true then 1 else 0) k + (if p k = true then 1 else 0)
    rw [← am_cnt_m p k]
    split
    · rw [nI_1]
    · rw [Int32.add_zero]
      rfl
theorem am_sm_s {F : Nat → Int32} {k : Nat} : am_sm F (k + 1) = am_sm F k + F k := rfl
section SP56
variable {d n m : Nat} {u : Nat → Nat → Int32} {mi : am_MI} {ml : am_ML} {R : am_R} {r c : Nat} {P : List (List Nat × List Nat)} {Q : Int32 → Int32 → am_MI → am_ML → Prop} {own : Nat → Int32}
/-- neverEaten -/
theorem sp_54 {x y : Int32} (hr : r < 5) (hc : am_cx n m u mi) (hu : am_ur n m u) (ho : ∀ i, i < n → mi (32 + r) i = own i) (hcm : c < m) (hx : x = nI r) (hy : y = nI c) (h : R (some (.int (am_sm (am_aw1 own u c) n))) mi ml) : am_call (d + 4) 54 [.ref 22, .int x, .int y] mi ml R := by
  subst hx
  subst hy
  have hn := hc.1
  have hm5 := hc.2.1
  obtain ⟨-, -, a1, a2, -⟩ := am_k38 r hr
  refine bk_54 (am_for n (fun k => am_wp (am_call (d + 3)) mt_54 R 4 [some (.ref 22), some (.int (nI r)), some (.int (nI c)), some (.int (am_sm (am_aw1 own u c) k)), some (.int (nI k))] [] mi ml) ?_ (fun k hk ih => ?_) 0 (Nat.zero_le _))
  · exact bk_54_4 (pk_le n n (fun _ => h) (fun q => absurd q (Nat.lt_irrefl _)) hc.2.2.1 rfl)
  · have un : am_aw1 own u c k = if own k = nI c then (if am_nev u c k then 1 else 0) else 0 := rfl
    rw [am_sm_s, un] at ih
    refine bk_54_4 (pk_le n k (fun q => absurd q (by omega)) (fun _ => ?_) hc.2.2.1 rfl)
    rw [nI_clamp (show r < 2 ^ 31 by omega), Nat.one_mul, a1, am_len2 a1, a2, nI_clamp (show k < 2 ^ 31 by omega), ho k hk, nI_1]
    refine ⟨vp_in_nI hr (by omega), am_need_i rfl ⟨vp_in_nI (by omega) (by omega), fun w => ?_, fun w => sp_9 hc hu hcm hk rfl rfl (fun g => am_ri_i ⟨fun z => absurd rfl z, fun _ => ?_⟩) (fun g => am_ri_i ⟨fun _ => ?_, fun z => ?_⟩)⟩⟩
    · rw [if_neg w, Int32.add_zero] at ih
      exact ih
    · rw [if_pos (Decidable.not_not.mp w), if_pos g] at ih
      exact ih
    · rw [if_pos (Decidable.not_not.mp w), if_neg g, Int32.add_zero] at ih
      exact ih
    · exfalso
      have := am_lat_p hu hcm hk
      rw [Decidable.not_not.mp z] at this
      exact absurd this (by decide)
/-- daysLate -/
theorem sp_55 {x y : Int32} (hr : r < 5) (hc : am_cx n m u mi) (hu : am_ur n m u) (ho : ∀ i, i < n → mi (32 + r) i = own i) (hcm : c < m) (hx : x = nI r) (hy : y = nI c) (h : R (some (.int (am_sm (am_aw2 own u c) n))) mi ml) : am_call (d + 4) 55 [.ref 22, .int x, .int y] mi ml R := by
  subst hx
  subst hy
  have hn := hc.1
  have hm5 := hc.2.1
  obtain ⟨-, -, a1, a2, -⟩ := am_k38 r hr
  refine bk_55 (am_for n (fun k => am_wp (am_call (d + 3)) mt_55 R 4 [some (.ref 22), some (.int (nI r)), some (.int (nI c)), some (.int (am_sm (am_aw2 own u c) k)), some (.int (nI k))] [] mi ml) ?_ (fun k hk ih => ?_) 0 (Nat.zero_le _))
  · exact bk_55_4 (pk_le n n (fun _ => h) (fun q => absurd q (Nat.lt_irrefl _)) hc.2.2.1 rfl)
  · have un : am_aw2 own u c k = if own k = nI c then (if am_nev u c k then 0 else am_lat u c k) else 0 := rfl
    rw [am_sm_s, un] at ih
    refine bk_55_4 (pk_le n k (fun q => absurd q (by omega)) (fun _ => ?_) hc.2.2.1 rfl)
    rw [nI_clamp (show r < 2 ^ 31 by omega), Nat.one_mul, a1, am_len2 a1, a2, nI_clamp (show k < 2 ^ 31 by omega), ho k hk, nI_1]
    refine ⟨vp_in_nI hr (by omega), am_need_i rfl ⟨vp_in_nI (by omega) (by omega), fun w => ?_, fun w => sp_9 hc hu hcm hk rfl rfl (fun g => am_ri_i ?_) (fun g => am_ri_i ?_)⟩⟩
    · rw [if_neg w, Int32.add_zero] at ih
      exact ih
    · rw [if_pos (Decidable.not_not.mp w), if_pos g] at ih
      exact ih
    · have lp := am_lat_p hu hcm hk
      have e : am_max 0 (am_lat u c k) = am_lat u c k := by
        unfold am_max
        split
        · rfl
        · rename_i z
          rw [am_lt_i, am_l0] at z
          rw [am_eq_i, am_l0]
          omega
      rw [if_pos (Decidable.not_not.mp w), if_neg g] at ih
      rw [e]
      exact ih
def am_awF (own : Nat → Int32) (u : Nat → Nat → Int32) (c t : Nat) : Nat → Int32 := if t = 0 then am_aw0 u c else if t = 1 then am_aw1 own u c else am_aw2 own u c
theorem am_rc {r c : Nat} (hr : r < 5) (hc : c < 5) : nI (10 * r + c) / 10 = nI r ∧ am_rem (nI (10 * r + c)) 10 = nI c := by
  constructor
  · rw [am_d10 (by omega), show (10 * r + c) / 10 = r from by omega]
  · rw [am_r10 (by omega), show (10 * r + c) % 10 = c from by omega]
/-- own doors of a later day, as bits -/
def am_oaf (own : Nat → Int32) (u : Nat → Nat → Int32) (c : Nat) (z : Int32) : Nat → Int32 := am_bt (fun i => decide (own i = nI c ∧ z < u 0 i))
/-- ownAfter -/
theorem sp_56 {x y z : Int32} (hr : r < 5) (hc : am_cx n m u mi) (ho : ∀ i, i < n → mi (32 + r) i = own i) (hcm : c < m) (hx : x = nI r) (hy : y = nI c) (h : R (some (.int (am_oaf own u c z n))) mi ml) : am_call (d + 2) 56 [.ref 22, .int x, .int y, .int z] mi ml R := by
  subst hx
  subst hy
  have hn := hc.1
  have hm5 := hc.2.1
  obtain ⟨-, -, a1, a2, -⟩ := am_k38 r hr
  refine bk_56 (am_for n (fun k => am_wp (am_call (d + 1)) mt_56 R 4 [some (.ref 22), some (.int (nI r)), some (.int (nI c)), some (.int z), some (.int (am_oaf own u c z k)), some (.int (nI k))] [] mi ml) ?_ (fun k hk ih => ?_) 0 (Nat.zero_le _))
  · exact bk_56_4 (pk_le n n (fun _ => h) (fun q => absurd q (Nat.lt_irrefl _)) hc.2.2.1 rfl)
  · unfold am_oaf at ih
    refine bk_56_4 (pk_le n k (fun q => absurd q (by omega)) (fun _ => ?_) hc.2.2.1 rfl)
    rw [nI_clamp (show r < 2 ^ 31 by omega), Nat.one_mul, a1, am_len2 a1, a2, nI_clamp (show k < 2 ^ 31 by omega), ho k hk, nI_1]
    refine ⟨vp_in_nI hr (by omega), am_need_i rfl ⟨vp_in_nI (by omega) (by omega), fun w => ?_, fun w => sp_4c hc (w := 0) rfl rfl (am_vd (by omega) hk) (am_ri_i ⟨fun w2 => ?_, fun w2 => ?_⟩)⟩⟩
    · rw [am_bt_n (fun q => w (of_decide_eq_true q).1)] at ih
      exact ih
    · rw [am_bt_n (fun q => by
        have q := (of_decide_eq_true q).2
        rw [am_lt_i] at q
        rw [am_le_i] at w2
        omega)] at ih
      exact ih
    · rw [am_bt_y (decide_eq_true ⟨Decidable.not_not.mp w, by rw [am_lt_i]; rw [am_le_i] at w2; omega⟩)] at ih
      exact ih
theorem am_min_c {a : Int32} : am_min 24 a = am_min a 24 := by
  unfold am_min
  by_cases h1 : a < 24
  · rw [if_pos h1, if_neg (fun q => by rw [am_lt_i] at h1 q; omega)]
  · rw [if_neg h1]
    by_cases h2 : 24 < a
    · rw [if_pos h2]
    · rw [if_neg h2, am_eq_i]
      rw [am_lt_i] at h1 h2
      omega
end SP56
