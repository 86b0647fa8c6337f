/-! pairs: away, waits -/
def am_aw0 (u : Nat → Nat → Int32) (c i : Nat) : Int32 := if am_aw u c (u 0 i) then 1 else 0
def am_aw1 (own : Nat → Int32) (u : Nat → Nat → Int32) (c i : Nat) : Int32 := if own i = nI c then (if am_nev u c i then 1 else 0) else 0
def am_aw2 (own : Nat → Int32) (u : Nat → Nat → Int32) (c i : Nat) : Int32 := if own i = nI c then (if am_nev u c i then 0 else am_lat u c i) else 0
theorem am_cnt_m (p : Nat → Bool) : ∀ k, nI (am_cnt p k) = am_sm (fun i => if p i = true then 1 else 0) k
  | 0 => rfl
  | k + 1 => by
    show nI (am_cnt p k + (if p k = true then 1 else 0)) = am_sm (fun i => if p i = true then 1 else 0) k + (if p k = true then 1 else 0)
    rw [← am_cnt_m p k]
    split
    · rw [nI_1]
    · rw [Int32.add_zero]
      rfl
theorem am_sm_s {F : Nat → Int32} {k : Nat} : am_sm F (k + 1) = am_sm F k + F k := rfl
section SP56
variable {d n m : Nat} {u : Nat → Nat → Int32} {mi : am_MI} {ml : am_ML} {R : am_R} {r c : Nat} {P : List (List Nat × List Nat)} {Q : Int32 → Int32 → am_MI → am_ML → Prop} {own : Nat → Int32}
/-- neverEaten -/
theorem sp_54 {x y : Int32} (hr : r < 5) (hc : am_cx n m u mi) (hu : am_ur n m u) (ho : ∀ i, i < n → mi (32 + r) i = own i) (hcm : c < m) (hx : x = nI r) (hy : y = nI c) (h : R (some (.int (am_sm (am_aw1 own u c) n))) mi ml) : am_call (d + 4) 54 [.ref 22, .int x, .int y] mi ml R := by
  subst hx
  subst hy
  have hn := hc.1
  have hm5 := hc.2.1
  obtain ⟨-, -, a1, a2, -⟩ := am_k38 r hr
  refine bk_54 (am_for n (fun k => am_wp (am_call (d + 3)) mt_54 R 4 [some (.ref 22), some (.int (nI r)), some (.int (nI c)), some (.int (am_sm (am_aw1 own u c) k)), some (.int (nI k))] [] mi ml) ?_ (fun k hk ih => ?_) 0 (Nat.zero_le _))
  · exact bk_54_4 (pk_le n n (fun _ => h) (fun q => absurd q (Nat.lt_irrefl _)) hc.2.2.1 rfl)
  · have un : am_aw1 own u c k = if own k = nI c then (if am_nev u c k then 1 else 0) else 0 := rfl
    rw [am_sm_s, un] at ih
    refine bk_54_4 (pk_le n k (fun q => absurd q (by omega)) (fun _ => ?_) hc.2.2.1 rfl)
    rw [nI_clamp (show r < 2 ^ 31 by omega), Nat.one_mul, a1, am_len2 a1, a2, nI_clamp (show k < 2 ^ 31 by omega), ho k hk, nI_1]
    refine ⟨vp_in_nI hr (by omega), am_need_i rfl ⟨vp_in_nI (by omega) (by omega), fun w => ?_, fun w => sp_9 hc hu hcm hk rfl rfl (fun g => am_ri_i ⟨fun z => absurd rfl z, fun _ => ?_⟩) (fun g => am_ri_i ⟨fun _ => ?_, fun z => ?_⟩)⟩⟩
    · rw [if_neg w, Int32.add_zero] at ih
      exact ih
    · rw [if_pos (Decidable.not_not.mp w), if_pos g] at ih
      exact ih
    · rw [if_pos (Decidable.not_not.mp w), if_neg g, Int32.add_zero] at ih
      exact ih
    · exfalso
      have := am_lat_p hu hcm hk
      rw [Decidable.not_not.mp z] at this
      exact absurd this (by decide)
/-- daysLate -/
theorem sp_55 {x y : Int32} (hr : r < 5) (hc : am_cx n m u mi) (hu : am_ur n m u) (ho : ∀ i, i < n → mi (32 + r) i = own i) (hcm : c < m) (hx : x = nI r) (hy : y = nI c) (h : R (some (.int (am_sm (am_aw2 own u c) n))) mi ml) : am_call (d + 4) 55 [.ref 22, .int x, .int y] mi ml R := by
  subst hx
  subst hy
  have hn := hc.1
  have hm5 := hc.2.1
  obtain ⟨-, -, a1, a2, -⟩ := am_k38 r hr
  refine bk_55 (am_for n (fun k => am_wp (am_call (d + 3)) mt_55 R 4 [some (.ref 22), some (.int (nI r)), some (.int (nI c)), some (.int (am_sm (am_aw2 own u c) k)), some (.int (nI k))] [] mi ml) ?_ (fun k hk ih => ?_) 0 (Nat.zero_le _))
  · exact bk_55_4 (pk_le n n (fun _ => h) (fun q => absurd q (Nat.lt_irrefl _)) hc.2.2.1 rfl)
  · have un : am_aw2 own u c k = if own k = nI c then (if am_nev u c k then 0 else am_lat u c k) else 0 := rfl
    rw [am_sm_s, un] at ih
    refine bk_55_4 (pk_le n k (fun q => absurd q (by omega)) (fun _ => ?_) hc.2.2.1 rfl)
    rw [nI_clamp (show r < 2 ^ 31 by omega), Nat.one_mul, a1, am_len2 a1, a2, nI_clamp (show k < 2 ^ 31 by omega), ho k hk, nI_1]
    refine ⟨vp_in_nI hr (by omega), am_need_i rfl ⟨vp_in_nI (by omega) (by omega), fun w => ?_, fun w => sp_9 hc hu hcm hk rfl rfl (fun g => am_ri_i ?_) (fun g => am_ri_i ?_)⟩⟩
    · rw [if_neg w, Int32.add_zero] at ih
      exact ih
    · rw [if_pos (Decidable.not_not.mp w), if_pos g] at ih
      exact ih
    · have lp := am_lat_p hu hcm hk
      have e : am_max 0 (am_lat u c k) = am_lat u c k := by
        unfold am_max
        split
        · rfl
        · rename_i z
          rw [am_lt_i, am_l0] at z
          rw [am_eq_i, am_l0]
          omega
      rw [if_pos (Decidable.not_not.mp w), if_neg g] at ih
      rw [e]
      exact ih
def am_awF (own : Nat → Int32) (u : Nat → Nat → Int32) (c t : Nat) : Nat → Int32 := if t = 0 then am_aw0 u c else if t = 1 then am_aw1 own u c else am_aw2 own u c
/-- the reference's away, from a door on -/
theorem sp_232l {t : Nat} (hm : am_cm n m u mi) (hu : am_ur n m u) (ho : ∀ i, i < n → mi 110 i = own i) (hcm : c < m) (ht : t < 3) (h : R (some (.int (am_sm (am_awF own u c t) n))) mi ml) : ∀ k, k ≤ n → am_wp (am_call (d + 3)) mt_232 R 24 [some (.ref 78), none, some (.int (nI t)), some (.int (nI c)), some (.int (am_sm (am_awF own u c t) k)), some (.int (nI k)), none] [] mi ml := by
  have hn := hm.1
  have hm5 := hm.2.1
  refine am_for n _ ?_ (fun k hk ih => ?_)
  · exact bk_232_24 (pk_le n n (fun _ => h) (fun q => absurd q (Nat.lt_irrefl _)) hm.2.2.1 rfl)
  · rw [am_sm_s] at ih
    have vk : vp_in (nI k) 24 := vp_in_nI (by omega) (by omega)
    have ck : (nI k).toNatClampNeg = k := nI_clamp (by omega)
    have d79 : mi 79 k = u 0 k := hm.2.2.2.2 0 k (am_vd (by omega) hk)
    refine bk_232_24 (pk_le n k (fun q => absurd q (by omega)) (fun _ => ?_) hm.2.2.1 rfl)
    have ex : ∀ v, v = am_sm (am_awF own u c t) k + am_awF own u c t k → am_wp (am_call (d + 3)) mt_232 R 70 [some (.ref 78), none, some (.int (nI t)), some (.int (nI c)), some (.int v), some (.int (nI k)), none] [] mi ml := fun v ev => bk_232_70 (by
      rw [ev, nI_1]
      exact ih)
    have t012 : t = 0 ∨ t = 1 ∨ t = 2 := by omega
    rw [ck, d79]
    rcases t012 with e | e | e
    · subst e
      have un : am_awF own u c 0 k = if am_aw u c (u 0 k) then 1 else 0 := rfl
      rw [un] at ex
      refine ⟨fun z => absurd rfl z, fun _ => ⟨vk, sp_206 hm hu hcm rfl (fun g => am_ri_i (am_y (bk_232_39 ⟨fun _ => ex _ ?_, fun z => absurd rfl z⟩))) (fun g => am_ri_i (am_n0 (bk_232_39 ⟨fun _ => ex _ ?_, fun z => absurd rfl z⟩)))⟩⟩
      · rw [if_pos g]
      · rw [if_neg g, Int32.add_zero]
    · subst e
      have un : am_awF own u c 1 k = if own k = nI c then (if am_nev u c k then 1 else 0) else 0 := rfl
      rw [un] at ex
      refine ⟨fun _ => bk_232_39 ⟨fun z => absurd z (by decide), fun _ => ⟨vk, ?_⟩⟩, fun z => absurd (by decide) z⟩
      rw [ck, ho k hk]
      refine ⟨fun w => sp_207 hm hu hcm hk rfl rfl (fun g => am_ri_i ⟨fun z => absurd rfl z, fun _ => ⟨fun z => absurd rfl z, fun _ => bk_232_60 ⟨fun _ => ex _ ?_, fun z => absurd (by decide) z⟩⟩⟩) (fun g => am_ri_i ⟨fun z => absurd rfl z, fun _ => ⟨fun _ => bk_232_60 ⟨fun _ => ex _ ?_, fun z => absurd (by decide) z⟩, fun z => ?_⟩⟩), fun w => ex _ ?_⟩
      · rw [if_pos w, if_pos g]
      · rw [if_pos w, if_neg g, Int32.add_zero]
      · exfalso
        have := am_lat_p hu hcm hk
        rw [Decidable.not_not.mp z] at this
        exact absurd this (by decide)
      · rw [if_neg w, Int32.add_zero]
    · subst e
      have un : am_awF own u c 2 k = if own k = nI c then (if am_nev u c k then 0 else am_lat u c k) else 0 := rfl
      rw [un] at ex
      refine ⟨fun _ => bk_232_39 ⟨fun z => absurd z (by decide), fun _ => ⟨vk, ?_⟩⟩, fun z => absurd (by decide) z⟩
      rw [ck, ho k hk]
      refine ⟨fun w => sp_207 hm hu hcm hk rfl rfl (fun g => am_ri_i ⟨fun _ => bk_232_60 ⟨fun z => absurd rfl z, fun _ => ⟨fun _ => ex _ ?_, fun z => absurd rfl z⟩⟩, fun z => absurd (by decide) z⟩) (fun g => am_ri_i ⟨fun _ => bk_232_60 ⟨fun z => absurd rfl z, fun _ => ⟨fun z => ?_, fun _ => ex _ ?_⟩⟩, fun z => absurd (by decide) z⟩), fun w => ex _ ?_⟩
      · rw [if_pos w, if_pos g, Int32.add_zero]
      · exfalso
        have := am_lat_p hu hcm hk
        rw [z] at this
        exact absurd this (by decide)
      · rw [if_pos w, if_neg g]
      · rw [if_neg w, Int32.add_zero]
theorem am_rc {r c : Nat} (hr : r < 5) (hc : c < 5) : nI (10 * r + c) / 10 = nI r ∧ am_rem (nI (10 * r + c)) 10 = nI c := by
  constructor
  · rw [am_d10 (by omega), show (10 * r + c) / 10 = r from by omega]
  · rw [am_r10 (by omega), show (10 * r + c) % 10 = c from by omega]
/-- away -/
theorem pr_17 {x y : Int32} (hX : am_X P u n m mi) (hv : am_fvn P u n m mi) (h : ∀ r mi2, am_kp (am_FV n) mi mi2 → am_fvn P u n m mi2 → Q r r mi2 ml) : am_pr (d + 11) 135 [.ref 0, .int x, .int y] 232 [.ref 78, .int x, .int y] mi ml Q := by
  have hm5 := hX.2.1.2.1
  have n10 : ¬ (10 : Int32) = 0 := by decide
  have h0 : ∀ r, Q r r mi ml := fun r => h r mi am_kp_r hv
  have bad1 : (∀ r c, r < 5 → c < m → x = nI (10 * r + c) → False) → am_call (d + 11) 232 [.ref 78, .int x, .int y] mi ml (am_ri fun r2 mi2 ml2 => Q (-1) r2 mi2 ml2) := fun g => bk_232 (sp_172 hX.2.2.1 (fun r c hr hc e => (g r c hr hc e).elim) (fun _ => am_ri_i (am_n0 (bk_232_9 (am_ri_i (h0 _))))))
  have bad2 : ¬ y = 0 → ¬ y = 1 → ¬ y = 2 → am_call (d + 11) 232 [.ref 78, .int x, .int y] mi ml (am_ri fun r2 mi2 ml2 => Q (-1) r2 mi2 ml2) := fun y0 y1 y2 => bk_232 (sp_172 hX.2.2.1 (fun r c hr hc e => am_ri_i (am_y (sp_168 (fun a b => by
    exfalso
    rw [am_l0] at a
    rw [am_l2] at b
    rw [am_eq_i, am_l0] at y0
    rw [am_eq_i, am_l1] at y1
    rw [am_eq_i, am_l2] at y2
    omega) (fun _ => am_ri_i (am_nn (bk_232_9 (am_ri_i (h0 _)))))))) (fun _ => am_ri_i (am_n0 (bk_232_9 (am_ri_i (h0 _))))))
  refine bk_135 (sp_164 hX.2.1 (fun r c hr hc e => am_ri_i (am_yn ?_)) (fun g => am_ri_i (am_nn (am_ri_i (bad1 g)))))
  subst e
  obtain ⟨e1, e2⟩ := am_rc hr (show c < 5 by omega)
  -- the reference
  have ref : ∀ t, t < 3 → y = nI t → ∀ m2, am_kp (am_FV n) mi m2 → am_X P u n m m2 → (∀ m3, (am_sfr m2 m3) → m3 22 2 = m2 22 2 → m3 1 3 = m2 1 3 → m3 15 7 = m2 15 7 → am_fvn P u n m m3) → ∀ v, v = am_sm (am_awF (am_gvn P u n m r).1 u c t) n → am_call (d + 11) 232 [.ref 78, .int (nI (10 * r + c)), .int y] m2 ml (am_ri fun r2 mi2 ml2 => Q v r2 mi2 ml2) := by
    intro t ht ey m2 k2 hX2 hf v ev
    subst ey
    refine bk_232 (sp_172 hX2.2.2.1 (fun r3 c3 hr3 hc3 e3 => am_ri_i (am_y (sp_168 (fun _ _ => am_ri_i (am_yn ⟨n10, n10, ?_⟩)) (fun g => ?_)))) (fun g => (g r c hr hc rfl).elim))
    · rw [e1, e2]
      refine am_gvs hr hX2 rfl (fun m3 k3 hX3 a b => am_rv_i ?_)
      refine sp_232l (d := d + 7) hX3.2.2.1 hX3.2.2.2 a hc ht ?_ 0 (Nat.zero_le _)
      rw [← ev]
      exact am_ri_i (h v m3 (am_kp_t k2 (am_kV_G k3)) (hf m3 (fun c j q1 q2 => k3 c j (decide_eq_false (by omega))) (k3 22 2 rfl) (k3 1 3 rfl) (k3 15 7 rfl)))
    · rw [am_l0, am_l2, am_ti (by omega)] at g
      omega
  rw [e1, e2]
  refine ⟨fun w => ⟨n10, sp_10 hX.2.1 hX.2.2.2 hc rfl (am_ri_i (am_ri_i (ref 0 (by omega) w mi am_kp_r hX (fun m3 q1 _ _ _ => am_fvn_on hm5 hv q1) _ ?_)))⟩, fun w0 => ⟨fun w => am_frs hX hv (fun m2 k2 hX2 f2 => am_rr_i ⟨n10, n10, am_need_i rfl (sp_54 hr hX2.2.1 hX2.2.2.2 (f2.2.2.2.1 r hr).1 hc rfl rfl (am_ri_i (am_ri_i (ref 1 (by omega) w m2 (am_kV_X k2) hX2 (fun m3 q1 _ _ _ => am_fvn_i hX2 f2 q1) _ rfl))))⟩), fun w1 => ⟨fun w => am_frs hX hv (fun m2 k2 hX2 f2 => am_rr_i ⟨n10, n10, am_need_i rfl (sp_55 hr hX2.2.1 hX2.2.2.2 (f2.2.2.2.1 r hr).1 hc rfl rfl (am_ri_i (am_ri_i (ref 2 (by omega) w m2 (am_kV_X k2) hX2 (fun m3 q1 _ _ _ => am_fvn_i hX2 f2 q1) _ rfl))))⟩), fun w2 => am_ri_i (bad2 w0 w1 w2)⟩⟩⟩
  rw [am_cnt_m]
  refine am_sm_c n (fun j hj => ?_)
  show (if decide (am_aw u c (u 0 j)) = true then (1 : Int32) else 0) = if am_aw u c (u 0 j) then 1 else 0
  by_cases g : am_aw u c (u 0 j)
  · rw [if_pos g, if_pos (decide_eq_true g)]
  · rw [if_neg g, if_neg (fun z => g (of_decide_eq_true z))]
/-- own doors of a later day, as bits -/
def am_oaf (own : Nat → Int32) (u : Nat → Nat → Int32) (c : Nat) (z : Int32) : Nat → Int32 := am_bt (fun i => decide (own i = nI c ∧ z < u 0 i))
/-- ownAfter -/
theorem sp_56 {x y z : Int32} (hr : r < 5) (hc : am_cx n m u mi) (ho : ∀ i, i < n → mi (32 + r) i = own i) (hcm : c < m) (hx : x = nI r) (hy : y = nI c) (h : R (some (.int (am_oaf own u c z n))) mi ml) : am_call (d + 2) 56 [.ref 22, .int x, .int y, .int z] mi ml R := by
  subst hx
  subst hy
  have hn := hc.1
  have hm5 := hc.2.1
  obtain ⟨-, -, a1, a2, -⟩ := am_k38 r hr
  refine bk_56 (am_for n (fun k => am_wp (am_call (d + 1)) mt_56 R 4 [some (.ref 22), some (.int (nI r)), some (.int (nI c)), some (.int z), some (.int (am_oaf own u c z k)), some (.int (nI k))] [] mi ml) ?_ (fun k hk ih => ?_) 0 (Nat.zero_le _))
  · exact bk_56_4 (pk_le n n (fun _ => h) (fun q => absurd q (Nat.lt_irrefl _)) hc.2.2.1 rfl)
  · unfold am_oaf at ih
    refine bk_56_4 (pk_le n k (fun q => absurd q (by omega)) (fun _ => ?_) hc.2.2.1 rfl)
    rw [nI_clamp (show r < 2 ^ 31 by omega), Nat.one_mul, a1, am_len2 a1, a2, nI_clamp (show k < 2 ^ 31 by omega), ho k hk, nI_1]
    refine ⟨vp_in_nI hr (by omega), am_need_i rfl ⟨vp_in_nI (by omega) (by omega), fun w => ?_, fun w => sp_4c hc (w := 0) rfl rfl (am_vd (by omega) hk) (am_ri_i ⟨fun w2 => ?_, fun w2 => ?_⟩)⟩⟩
    · rw [am_bt_n (fun q => w (of_decide_eq_true q).1)] at ih
      exact ih
    · rw [am_bt_n (fun q => by
        have q := (of_decide_eq_true q).2
        rw [am_lt_i] at q
        rw [am_le_i] at w2
        omega)] at ih
      exact ih
    · rw [am_bt_y (decide_eq_true ⟨Decidable.not_not.mp w, by rw [am_lt_i]; rw [am_le_i] at w2; omega⟩)] at ih
      exact ih
/-- the reference's -/
theorem sp_235l {z : Int32} (hm : am_cm n m u mi) (ho : ∀ i, i < n → mi 110 i = own i) (hcm : c < m) (h : R (some (.int (am_oaf own u c z n))) mi ml) : ∀ k, k ≤ n → am_wp (am_call d) mt_235 R 46 [some (.ref 78), none, none, some (.int (nI c)), some (.int z), some (.int (am_oaf own u c z k)), some (.int (nI k))] [] mi ml := by
  have hn := hm.1
  have hm5 := hm.2.1
  refine am_for n _ ?_ (fun k hk ih => ?_)
  · exact bk_235_46 (pk_le n n (fun _ => h) (fun q => absurd q (Nat.lt_irrefl _)) hm.2.2.1 rfl)
  · unfold am_oaf at ih
    have vk : vp_in (nI k) 24 := vp_in_nI (by omega) (by omega)
    refine bk_235_46 (pk_le n k (fun q => absurd q (by omega)) (fun _ => ⟨vk, ?_⟩) hm.2.2.1 rfl)
    rw [nI_clamp (show k < 2 ^ 31 by omega), ho k hk, nI_1, hm.2.2.2.2 0 k (am_vd (by omega) hk) |> fun e => (e : mi 79 k = u 0 k)]
    refine ⟨fun w => ?_, fun w => ⟨vk, fun w2 => ?_, fun w2 => ?_⟩⟩
    · rw [am_bt_n (fun q => w (of_decide_eq_true q).1)] at ih
      exact ih
    · rw [am_bt_n (fun q => by
        have q := (of_decide_eq_true q).2
        rw [am_lt_i] at q
        rw [am_le_i] at w2
        omega)] at ih
      exact ih
    · rw [am_bt_y (decide_eq_true ⟨Decidable.not_not.mp w, by rw [am_lt_i]; rw [am_le_i] at w2; omega⟩)] at ih
      exact ih
theorem am_min_c {a : Int32} : am_min 24 a = am_min a 24 := by
  unfold am_min
  by_cases h1 : a < 24
  · rw [if_pos h1, if_neg (fun q => by rw [am_lt_i] at h1 q; omega)]
  · rw [if_neg h1]
    by_cases h2 : 24 < a
    · rw [if_pos h2]
    · rw [if_neg h2, am_eq_i]
      rw [am_lt_i] at h1 h2
      omega
/-- waits -/
theorem pr_19 {x y : Int32} (hX : am_X P u n m mi) (hv : am_fvn P u n m mi) (h : ∀ r mi2, am_kp (am_FV n) mi mi2 → am_fvn P u n m mi2 → Q r r mi2 ml) : am_pr (d + 11) 137 [.ref 0, .int x, .int y] 235 [.ref 78, .int x, .int y] mi ml Q := by
  have hm5 := hX.2.1.2.1
  have n10 : ¬ (10 : Int32) = 0 := by decide
  have h0 : ∀ r, Q r r mi ml := fun r => h r mi am_kp_r hv
  have bad : ((∀ r c, r < 5 → c < m → x = nI (10 * r + c) → False) ∨ (¬ y = 0 ∧ ¬ y = 1)) → am_call (d + 11) 235 [.ref 78, .int x, .int y] mi ml (am_ri fun r2 mi2 ml2 => Q (-1) r2 mi2 ml2) := fun g => bk_235 (sp_172 hX.2.2.1 (fun r c hr hc e => am_ri_i (am_y (sp_168 (fun a b => by
    exfalso
    rcases g with g | g
    · exact g r c hr hc e
    · rw [am_l0] at a
      rw [am_l1] at b
      have y0 := g.1
      have y1 := g.2
      rw [am_eq_i, am_l0] at y0
      rw [am_eq_i, am_l1] at y1
      omega) (fun _ => am_ri_i (am_nn (am_ri_i (h0 _))))))) (fun _ => am_ri_i (am_n0 (am_ri_i (h0 _)))))
  refine bk_137 (sp_164 hX.2.1 (fun r c hr hc e => am_ri_i (am_y ?_)) (fun g => am_ri_i (am_n0 (am_ri_i (bad (Or.inl g))))))
  subst e
  obtain ⟨e1, e2⟩ := am_rc hr (show c < 5 by omega)
  have cc : (nI c).toNatClampNeg = c := nI_clamp (by omega)
  have c0 : (0 : Int32).toNatClampNeg = 0 := rfl
  -- the reference
  have ref : (y = 0 ∨ y = 1) → ∀ m2, am_kp (am_FV n) mi m2 → am_X P u n m m2 → (∀ m3, (am_sfr m2 m3) → m3 22 2 = m2 22 2 → m3 1 3 = m2 1 3 → m3 15 7 = m2 15 7 → am_fvn P u n m m3) → ∀ v, v = (if y = 0 then am_hol u c else am_oaf (am_gvn P u n m r).1 u c (am_hol u c) n) → am_call (d + 11) 235 [.ref 78, .int (nI (10 * r + c)), .int y] m2 ml (am_ri fun r2 mi2 ml2 => Q v r2 mi2 ml2) := by
    intro hy m2 k2 hX2 hf v ev
    have hm2 := hX2.2.2.1
    have l85 : m2 85 c = u 5 c := hm2.2.2.2.2 5 c (am_vc (by omega) (by omega) hc)
    have l88 : m2 88 0 = u 8 0 := hm2.2.2.2.2 8 0 (am_vs (by omega) (by omega))
    have go : ∀ s, s = (if u 8 0 = 0 then (2 : Int32) else 0) → ((y ≠ 0 → (¬ (10 : Int32) = 0 ∧ am_call (d + 10) 213 [.ref 78, .int (nI r)] m2 ml (am_rv fun mi3 ml3 => am_wp (am_call (d + 10)) mt_235 (am_ri fun r2 mi2 ml2 => Q v r2 mi2 ml2) 46 [some (.ref 78), none, none, some (.int (nI c)), some (.int (am_min (24 : Int32) (((3 : Int32) * u 5 c) + s))), some (.int (0 : Int32)), some (.int (0 : Int32))] [] mi3 ml3))) ∧ (¬ (y ≠ 0) → (am_ri fun r2 mi2 ml2 => Q v r2 mi2 ml2) (some (.int (am_min (24 : Int32) (((3 : Int32) * u 5 c) + s)))) m2 ml)) := by
      intro s es
      have eh : am_min (24 : Int32) (((3 : Int32) * u 5 c) + s) = am_hol u c := by
        rw [am_min_c, Int32.mul_comm, es]
        rfl
      rw [eh]
      refine ⟨fun z => ⟨n10, am_gvs hr hX2 rfl (fun m3 k3 hX3 a b => am_rv_i ?_)⟩, fun z => ?_⟩
      · rw [if_neg z] at ev
        refine sp_235l hX3.2.2.1 a hc ?_ 0 (Nat.zero_le _)
        rw [← ev]
        exact am_ri_i (h v m3 (am_kp_t k2 (am_kV_G k3)) (hf m3 (fun c j q1 q2 => k3 c j (decide_eq_false (by omega))) (k3 22 2 rfl) (k3 1 3 rfl) (k3 15 7 rfl)))
      · rw [if_pos (Decidable.not_not.mp z)] at ev
        rw [← ev]
        exact am_ri_i (h v m2 k2 (hf m2 (fun _ _ _ _ => rfl) rfl rfl rfl))
    refine bk_235 (sp_172 hm2 (fun r3 c3 hr3 hc3 e3 => am_ri_i (am_y (sp_168 (fun _ _ => am_ri_i (am_yn ⟨n10, ?_⟩)) (fun g => ?_)))) (fun g => (g r c hr hc rfl).elim))
    · rw [e1, e2, cc, c0, l85, l88]
      exact ⟨vp_in_nI (by omega) (by omega), am_vp (by decide) (by decide), fun z => go 0 (by rw [if_neg z]), fun z => go 2 (by rw [if_pos (Decidable.not_not.mp z)])⟩
    · rw [am_l0, am_l1] at g
      rcases hy with e | e
      · rw [e, am_l0] at g
        omega
      · rw [e, am_l1] at g
        omega
  rw [e1, e2]
  refine ⟨fun w => ⟨n10, sp_11 hX.2.1 hc rfl (am_ri_i ⟨fun z => absurd w z, fun _ => am_ri_i (ref (Or.inl w) mi am_kp_r hX (fun m3 q1 _ _ _ => am_fvn_on hm5 hv q1) _ (by rw [if_pos w]))⟩)⟩, fun w0 => ⟨fun w => ⟨n10, sp_11 hX.2.1 hc rfl (am_ri_i ⟨fun _ => am_frs hX hv (fun m2 k2 hX2 f2 => am_rr_i ⟨n10, n10, am_need_i rfl (sp_56 hr hX2.2.1 (f2.2.2.2.1 r hr).1 hc rfl rfl (am_ri_i (am_ri_i (ref (Or.inr w) m2 (am_kV_X k2) hX2 (fun m3 q1 _ _ _ => am_fvn_i hX2 f2 q1) _ (by rw [if_neg w0])))))⟩), fun z => absurd (Decidable.not_not.mp z) w0⟩)⟩, fun w1 => am_ri_i (bad (Or.inr ⟨w0, w1⟩))⟩⟩
end SP56
