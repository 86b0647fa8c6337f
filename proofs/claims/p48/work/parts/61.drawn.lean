/-! pair: drawn -/
section SP61
variable {d n m : Nat} {u : Nat → Nat → Int32} {mi : am_MI} {ml : am_ML} {R : am_R} {r c : Nat} {P : List (List Nat × List Nat)} {Q : Int32 → Int32 → am_MI → am_ML → Prop}
theorem am_kV_45 {a b : am_MI} (h : am_kp am_F45 a b) : am_kp (am_FV n) a b := am_kp_w h (fun c j q => by
  have q := of_decide_eq_false q
  exact decide_eq_false (by omega))
/-- drawOne -/
theorem sp_64 {z : Int32} (hc : am_cx n m u mi) (hf : am_fre P u n m mi) (h : ∀ m2, am_kp am_F45 mi m2 → (∀ c, c < m → m2 45 c = am_zs P u n m z c n) → R (some (.int (if m = 0 then z else am_zn z n))) m2 ml) : am_call (d + 2) 64 [.ref 22, .int z] mi ml R := by
  have hn := hc.1
  have hm5 := hc.2.1
  have cx : ∀ m2, am_kp am_F45 mi m2 → am_cx n m u m2 := fun m2 k2 => am_cx_on hc (k2 1 1 rfl) (k2 1 2 rfl) (fun w i hw => k2 _ _ (decide_eq_false (by omega)))
  refine bk_64 (sp_275 (x := 45) (y := 0) rfl (by decide) (fun m1 k1 f1 => am_rv_i ?_))
  have k1 : am_kp am_F45 mi m1 := k1
  by_cases m0 : m = 0
  · have h := h m1 k1 (fun c hc2 => by omega)
    rw [if_pos m0] at h
    refine bk_64_8 (pk_le n 0 (fun _ => h) (fun _ => pk_le m 0 (fun _ => h) (fun q => absurd q (by omega)) (cx m1 k1).2.2.2.1 rfl) (cx m1 k1).2.2.1 rfl)
  · have hp : 0 < m := by omega
    rw [if_neg m0] at h
    have loop : ∀ v t, t + v = n → ∀ m2, am_kp am_F45 mi m2 → (∀ c, c < m → m2 45 c = am_zs P u n m z c t) → am_wp (am_call (d + 1)) mt_64 R 8 [some (.ref 22), none, some (.int (am_zn z t)), some (.int (nI t)), none] [] m2 ml := by
      intro v
      induction v with
      | zero =>
        intro t et m2 k2 h2
        have et : t = n := et
        rw [et] at h2 ⊢
        exact bk_64_8 (pk_le n n (fun _ => h m2 k2 h2) (fun q => absurd q (Nat.lt_irrefl _)) (cx m2 k2).2.2.1 rfl)
      | succ v ih =>
        intro t et m2 k2 h2
        have ht : t < n := by omega
        have ih := ih (t + 1) (by omega)
        have lt := am_god_lt (u := u) t ht
        have em : m2 1 2 = nI m := (cx m2 k2).2.2.2.1
        have lz : am_zo m z t < m := am_zo_lt hp
        refine bk_64_8 (pk_le n t (fun q => absurd q (by omega)) (fun _ => pk_le m 0 (fun q => absurd q (by omega)) (fun _ => ⟨fun q => ?_, ?_⟩) em rfl) (cx m2 k2).2.2.1 rfl)
        · rw [em] at q
          exact m0 ((nI_eq (a := m) (b := 0) (by omega) (by omega)).mp q)
        · have un : am_zn z (t + 1) = am_zn z t * 1103515245 + 12345 := rfl
          rw [em, am_zor hp hm5, nI_clamp (show t < 2 ^ 31 by omega), (k2 23 t rfl).trans (hf.1 t ht), nI_1, ← un]
          have us : ∀ c, am_zs P u n m z c (t + 1) = am_zs P u n m z c t + (if am_zo m z t = c then am_ge P u c (am_god u 0 n t) else 0) := fun c => rfl
          generalize hk : am_zo m z t = k at lz us
          obtain ⟨-, -, -, -, a1, a2⟩ := am_k38 k (by omega)
          have vk : vp_in (nI k) 5 := vp_in_nI (by omega) (by omega)
          rw [nI_clamp (show k < 2 ^ 31 by omega), Nat.one_mul, a1, am_len2 a1, a2, nI_clamp (show am_god u 0 n t < 2 ^ 31 by omega), k2 (26 + k) _ (decide_eq_false (by omega)), hf.2.2.1 k _ lz lt]
          refine ⟨vk, vk, vp_in_nI (by omega) (by omega), am_need_i rfl ⟨vp_in_nI (by omega) (by omega), vk, ih _ (am_kp_u k2 rfl) (fun c hc2 => ?_)⟩⟩
          rw [us]
          by_cases ec : c = k
          · rw [ec, am_ui_k, if_pos rfl, h2 k lz]
          · rw [am_ui_n (fun _ q => ec q), if_neg (fun q => ec q.symm), h2 c hc2, Int32.add_zero]
    refine loop n 0 (Nat.zero_add _) m1 k1 (fun c hc2 => f1 c ?_)
    show c < 5
    omega
/-- hasMost -/
theorem sp_65 {x : Int32} (hc : am_cx n m u mi) (hcm : c < m) (hx : x = nI c) (h1 : am_hms (mi 45) c m = true → R (some (.int 1)) mi ml) (h0 : ¬ am_hms (mi 45) c m = true → R (some (.int 0)) mi ml) : am_call (d + 1) 65 [.ref 22, .int x] mi ml R := by
  subst hx
  have hm5 := hc.2.1
  have loop : ∀ v k, k + v = m → am_hms (mi 45) c k = true → am_wp (am_call d) mt_65 R 2 [some (.ref 22), some (.int (nI c)), some (.int (nI k))] [] mi ml := by
    intro v
    induction v with
    | zero =>
      intro k ek hk
      have ek : k = m := ek
      rw [ek] at hk ⊢
      exact bk_65_2 (pk_le m m (fun _ => ⟨am_b1, h1 hk⟩) (fun q => absurd q (Nat.lt_irrefl _)) hc.2.2.2.1 rfl)
    | succ v ih =>
      intro k ek hk
      have ih := ih (k + 1) (by omega)
      have un : am_hms (mi 45) c (k + 1) = (am_hms (mi 45) c k && (k == c || decide (mi 45 k < mi 45 c))) := rfl
      rw [hk, Bool.true_and] at un
      rw [un] at ih
      refine bk_65_2 (pk_le m k (fun q => absurd q (by omega)) (fun _ => ?_) hc.2.2.2.1 rfl)
      rw [nI_clamp (show k < 2 ^ 31 by omega), nI_clamp (show c < 2 ^ 31 by omega), nI_1]
      refine ⟨fun q => ih ?_, fun q => ⟨vp_in_nI (by omega) (by omega), vp_in_nI (by omega) (by omega), fun q2 => ih ?_, fun q2 => ⟨am_b0, h0 (fun z => ?_)⟩⟩⟩
      · have e : k = c := (nI_eq (by omega) (by omega)).mp q
        rw [e, beq_self_eq_true, Bool.true_or]
      · rw [decide_eq_true q2, Bool.or_true]
      · have z := am_hms_m v (k + 1) (by rw [show k + 1 + v = m from by omega]; exact z)
        rw [un] at z
        rcases Bool.or_eq_true_iff.mp z with z | z
        · exact q (by rw [eq_of_beq z])
        · exact q2 (of_decide_eq_true z)
  exact bk_65 (loop m 0 (Nat.zero_add _) rfl)
/-- drawDecembers -/
theorem sp_63 {x y z : Int32} {N : Nat} (hX : am_X P u n m mi) (hf : am_fre P u n m mi) (hN : N ≤ 50) (hy : y = nI N) (hx : x = -1 ∨ ∃ c, c < m ∧ x = nI c) (h : ∀ m2, am_kp am_F45 mi m2 → R (some (.int (am_drs P u n m x z N))) m2 ml) : am_call (d + 3) 63 [.ref 22, .int z, .int y, .int x] mi ml R := by
  subst hy
  have hm5 := hX.2.1.2.1
  have loop : ∀ v k, k + v = N → ∀ m2, am_kp am_F45 mi m2 → am_wp (am_call (d + 2)) mt_63 R 6 [some (.ref 22), none, some (.int (nI N)), some (.int x), some (.int (am_drz n m z k)), some (.int (am_drs P u n m x z k)), some (.int (nI k))] [] m2 ml := by
    intro v
    induction v with
    | zero =>
      intro k ek m2 k2
      have ek : k = N := ek
      rw [ek]
      exact bk_63_6 (pk_le N N (fun _ => h m2 k2) (fun q => absurd q (Nat.lt_irrefl _)) rfl rfl)
    | succ v ih =>
      intro k ek m2 k2
      have ih := ih (k + 1) (by omega)
      have uz : am_drz n m z (k + 1) = if m = 0 then am_drz n m z k else am_zn (am_drz n m z k) n := rfl
      have us : am_drs P u n m x z (k + 1) = am_drs P u n m x z k + am_dra m x (fun c => am_zs P u n m (am_drz n m z k) c n) := rfl
      rw [uz, us] at ih
      have hX2 := am_X_V hX (am_kV_45 k2)
      have f2 := am_fre_on hm5 hf (fun c j q1 q2 => k2 c j (decide_eq_false (by omega)))
      refine bk_63_6 (pk_le N k (fun q => absurd q (by omega)) (fun _ => sp_64 hX2.2.1 f2 (fun m3 k3 s3 => am_ri_i ⟨fun q => ?_, fun q => ?_⟩)) rfl rfl)
      · have k3 := am_kp_t k2 k3
        have ih := ih m3 k3
        obtain ⟨c, hc, ec⟩ := hx.resolve_left q
        have cc : x.toNatClampNeg = c := by rw [ec, nI_clamp (by omega)]
        have e2 : am_dra m x (fun c => am_zs P u n m (am_drz n m z k) c n) = if am_hms (m3 45) c m = true then 1 else 0 := by
          rw [am_dra_c (s2 := m3 45) hx hm5 (fun c hc => (s3 c hc).symm)]
          unfold am_dra
          rw [if_neg q, cc]
        rw [e2] at ih
        rw [nI_1]
        refine sp_65 (am_X_V hX (am_kV_45 k3)).2.1 hc ec (fun g => am_ri_i (am_y ?_)) (fun g => am_ri_i (am_n0 ?_))
        · rw [if_pos g] at ih
          exact ih
        · rw [if_neg g, Int32.add_zero] at ih
          exact ih
      · have k3 := am_kp_t k2 k3
        have ih := ih m3 k3
        have e2 : am_dra m x (fun c => am_zs P u n m (am_drz n m z k) c n) = am_unf m (m3 45) := by
          rw [am_dra_c (s2 := m3 45) hx hm5 (fun c hc => (s3 c hc).symm)]
          unfold am_dra
          rw [if_pos (Decidable.not_not.mp q)]
        rw [e2] at ih
        rw [nI_1]
        exact sp_41 (am_X_V hX (am_kV_45 k3)).2.1 (am_ri_i ih)
  exact bk_63 (loop N 0 (Nat.zero_add _) mi am_kp_r)
def am_F247 : Nat → Nat → Bool := fun c _ => decide (c = 98 ∨ c = 99 ∨ c = 110 ∨ c = 111)
end SP61
