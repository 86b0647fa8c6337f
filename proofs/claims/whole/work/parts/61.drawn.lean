/-! pair: drawn -/
section SP61
variable {d n m : Nat} {u : Nat → Nat → Int32} {mi : am_MI} {ml : am_ML} {R : am_R} {r c : Nat} {P : List (List Nat × List Nat)} {Q : Int32 → Int32 → am_MI → am_ML → Prop}
theorem am_kV_45 {a b : am_MI} (h : am_kp am_F45 a b) : am_kp (am_FV n) a b := am_kp_w h (fun c j q => by
  have q := of_decide_eq_false q
  exact decide_eq_false (by omega))
/-- drawOne -/
theorem sp_64 {z : Int32} (hc : am_cx n m u mi) (hf : am_fre P u n m mi) (h : ∀ m2, am_kp am_F45 mi m2 → (∀ c, c < m → m2 45 c = am_zs P u n m z c n) → R (some (.int (if m = 0 then z else am_zn z n))) m2 ml) : am_call (d + 2) 64 [.ref 22, .int z] mi ml R := by
  have hn := hc.1
  have hm5 := hc.2.1
  have cx : ∀ m2, am_kp am_F45 mi m2 → am_cx n m u m2 := fun m2 k2 => am_cx_on hc (k2 1 1 rfl) (k2 1 2 rfl) (fun w i hw => k2 _ _ (decide_eq_false (by omega)))
  refine bk_64 (sp_275 (x := 45) (y := 0) rfl (by decide) (fun m1 k1 f1 => am_rv_i ?_))
  have k1 : am_kp am_F45 mi m1 := k1
  by_cases m0 : m = 0
  · have h := h m1 k1 (fun c hc2 => by omega)
    rw [if_pos m0] at h
    refine bk_64_8 (pk_le n 0 (fun _ => h) (fun _ => pk_le m 0 (fun _ => h) (fun q => absurd q (by omega)) (cx m1 k1).2.2.2.1 rfl) (cx m1 k1).2.2.1 rfl)
  · have hp : 0 < m := by omega
    rw [if_neg m0] at h
    have loop : ∀ v t, t + v = n → ∀ m2, am_kp am_F45 mi m2 → (∀ c, c < m → m2 45 c = am_zs P u n m z c t) → am_wp (am_call (d + 1)) mt_64 R 8 [some (.ref 22), none, some (.int (am_zn z t)), some (.int (nI t)), none] [] m2 ml := by
      intro v
      induction v with
      | zero =>
        intro t et m2 k2 h2
        have et : t = n := et
        rw [et] at h2 ⊢
        exact bk_64_8 (pk_le n n (fun _ => h m2 k2 h2) (fun q => absurd q (Nat.lt_irrefl _)) (cx m2 k2).2.2.1 rfl)
      | succ v ih =>
        intro t et m2 k2 h2
        have ht : t < n := by omega
        have ih := ih (t + 1) (by omega)
        have lt := am_god_lt (u := u) t ht
        have em : m2 1 2 = nI m := (cx m2 k2).2.2.2.1
        have lz : am_zo m z t < m := am_zo_lt hp
        refine bk_64_8 (pk_le n t (fun q => absurd q (by omega)) (fun _ => pk_le m 0 (fun q => absurd q (by omega)) (fun _ => ⟨fun q => ?_, ?_⟩) em rfl) (cx m2 k2).2.2.1 rfl)
        · rw [em] at q
          exact m0 ((nI_eq (a := m) (b := 0) (by omega) (by omega)).mp q)
        · have un : am_zn z (t + 1) = am_zn z t * 1103515245 + 12345 := rfl
          rw [em, am_zor hp hm5, nI_clamp (show t < 2 ^ 31 by omega), (k2 23 t rfl).trans (hf.1 t ht), nI_1, ← un]
          have us : ∀ c, am_zs P u n m z c (t + 1) = am_zs P u n m z c t + (if am_zo m z t = c then am_ge P u c (am_god u 0 n t) else 0) := fun c => rfl
          generalize hk : am_zo m z t = k at lz us
          obtain ⟨-, -, -, -, a1, a2⟩ := am_k38 k (by omega)
          have vk : vp_in (nI k) 5 := vp_in_nI (by omega) (by omega)
          rw [nI_clamp (show k < 2 ^ 31 by omega), Nat.one_mul, a1, am_len2 a1, a2, nI_clamp (show am_god u 0 n t < 2 ^ 31 by omega), k2 (26 + k) _ (decide_eq_false (by omega)), hf.2.2.1 k _ lz lt]
          refine ⟨vk, vk, vp_in_nI (by omega) (by omega), am_need_i rfl ⟨vp_in_nI (by omega) (by omega), vk, ih _ (am_kp_u k2 rfl) (fun c hc2 => ?_)⟩⟩
          rw [us]
          by_cases ec : c = k
          · rw [ec, am_ui_k, if_pos rfl, h2 k lz]
          · rw [am_ui_n (fun _ q => ec q), if_neg (fun q => ec q.symm), h2 c hc2, Int32.add_zero]
    refine loop n 0 (Nat.zero_add _) m1 k1 (fun c hc2 => f1 c ?_)
    show c < 5
    omega
/-- hasMost -/
theorem sp_65 {x : Int32} (hc : am_cx n m u mi) (hcm : c < m) (hx : x = nI c) (h1 : am_hms (mi 45) c m = true → R (some (.int 1)) mi ml) (h0 : ¬ am_hms (mi 45) c m = true → R (some (.int 0)) mi ml) : am_call (d + 1) 65 [.ref 22, .int x] mi ml R := by
  subst hx
  have hm5 := hc.2.1
  have loop : ∀ v k, k + v = m → am_hms (mi 45) c k = true → am_wp (am_call d) mt_65 R 2 [some (.ref 22), some (.int (nI c)), some (.int (nI k))] [] mi ml := by
    intro v
    induction v with
    | zero =>
      intro k ek hk
      have ek : k = m := ek
      rw [ek] at hk ⊢
      exact bk_65_2 (pk_le m m (fun _ => ⟨am_b1, h1 hk⟩) (fun q => absurd q (Nat.lt_irrefl _)) hc.2.2.2.1 rfl)
    | succ v ih =>
      intro k ek hk
      have ih := ih (k + 1) (by omega)
      have un : am_hms (mi 45) c (k + 1) = (am_hms (mi 45) c k && (k == c || decide (mi 45 k < mi 45 c))) := rfl
      rw [hk, Bool.true_and] at un
      rw [un] at ih
      refine bk_65_2 (pk_le m k (fun q => absurd q (by omega)) (fun _ => ?_) hc.2.2.2.1 rfl)
      rw [nI_clamp (show k < 2 ^ 31 by omega), nI_clamp (show c < 2 ^ 31 by omega), nI_1]
      refine ⟨fun q => ih ?_, fun q => ⟨vp_in_nI (by omega) (by omega), vp_in_nI (by omega) (by omega), fun q2 => ih ?_, fun q2 => ⟨am_b0, h0 (fun z => ?_)⟩⟩⟩
      · have e : k = c := (nI_eq (by omega) (by omega)).mp q
        rw [e, beq_self_eq_true, Bool.true_or]
      · rw [decide_eq_true q2, Bool.or_true]
      · have z := am_hms_m v (k + 1) (by rw [show k + 1 + v = m from by omega]; exact z)
        rw [un] at z
        rcases Bool.or_eq_true_iff.mp z with z | z
        · exact q (by rw [eq_of_beq z])
        · exact q2 (of_decide_eq_true z)
  exact bk_65 (loop m 0 (Nat.zero_add _) rfl)
/-- drawDecembers -/
theorem sp_63 {x y z : Int32} {N : Nat} (hX : am_X P u n m mi) (hf : am_fre P u n m mi) (hN : N ≤ 50) (hy : y = nI N) (hx : x = -1 ∨ ∃ c, c < m ∧ x = nI c) (h : ∀ m2, am_kp am_F45 mi m2 → R (some (.int (am_drs P u n m x z N))) m2 ml) : am_call (d + 3) 63 [.ref 22, .int z, .int y, .int x] mi ml R := by
  subst hy
  have hm5 := hX.2.1.2.1
  have loop : ∀ v k, k + v = N → ∀ m2, am_kp am_F45 mi m2 → am_wp (am_call (d + 2)) mt_63 R 6 [some (.ref 22), none, some (.int (nI N)), some (.int x), some (.int (am_drz n m z k)), some (.int (am_drs P u n m x z k)), some (.int (nI k))] [] m2 ml := by
    intro v
    induction v with
    | zero =>
      intro k ek m2 k2
      have ek : k = N := ek
      rw [ek]
      exact bk_63_6 (pk_le N N (fun _ => h m2 k2) (fun q => absurd q (Nat.lt_irrefl _)) rfl rfl)
    | succ v ih =>
      intro k ek m2 k2
      have ih := ih (k + 1) (by omega)
      have uz : am_drz n m z (k + 1) = if m = 0 then am_drz n m z k else am_zn (am_drz n m z k) n := rfl
      have us : am_drs P u n m x z (k + 1) = am_drs P u n m x z k + am_dra m x (fun c => am_zs P u n m (am_drz n m z k) c n) := rfl
      rw [uz, us] at ih
      have hX2 := am_X_V hX (am_kV_45 k2)
      have f2 := am_fre_on hm5 hf (fun c j q1 q2 => k2 c j (decide_eq_false (by omega)))
      refine bk_63_6 (pk_le N k (fun q => absurd q (by omega)) (fun _ => sp_64 hX2.2.1 f2 (fun m3 k3 s3 => am_ri_i ⟨fun q => ?_, fun q => ?_⟩)) rfl rfl)
      · have k3 := am_kp_t k2 k3
        have ih := ih m3 k3
        obtain ⟨c, hc, ec⟩ := hx.resolve_left q
        have cc : x.toNatClampNeg = c := by rw [ec, nI_clamp (by omega)]
        have e2 : am_dra m x (fun c => am_zs P u n m (am_drz n m z k) c n) = if am_hms (m3 45) c m = true then 1 else 0 := by
          rw [am_dra_c (s2 := m3 45) hx hm5 (fun c hc => (s3 c hc).symm)]
          unfold am_dra
          rw [if_neg q, cc]
        rw [e2] at ih
        rw [nI_1]
        refine sp_65 (am_X_V hX (am_kV_45 k3)).2.1 hc ec (fun g => am_ri_i (am_y ?_)) (fun g => am_ri_i (am_n0 ?_))
        · rw [if_pos g] at ih
          exact ih
        · rw [if_neg g, Int32.add_zero] at ih
          exact ih
      · have k3 := am_kp_t k2 k3
        have ih := ih m3 k3
        have e2 : am_dra m x (fun c => am_zs P u n m (am_drz n m z k) c n) = am_unf m (m3 45) := by
          rw [am_dra_c (s2 := m3 45) hx hm5 (fun c hc => (s3 c hc).symm)]
          unfold am_dra
          rw [if_pos (Decidable.not_not.mp q)]
        rw [e2] at ih
        rw [nI_1]
        exact sp_41 (am_X_V hX (am_kV_45 k3)).2.1 (am_ri_i ih)
  exact bk_63 (loop N 0 (Nat.zero_add _) mi am_kp_r)
/-- the reference: who has most -/
theorem sp_247h {x y z : Int32} {l5 l6 l7 f : Int32} {S : Nat → Int32} (hm : am_cm n m u mi) (hS : ∀ c, c < m → mi 111 c = S c) (hx : (x.toInt < 0 ∧ f = 0) ∨ ∃ c, c < m ∧ x = nI c ∧ f = if am_hms S c m = true then 1 else 0)
    (h : am_wp (am_call d) mt_247 R 27 [some (.ref 78), none, some (.int y), some (.int x), some (.int z), some (.int l5), some (.int (l6 + f)), some (.int (l7 + 1)), none, none] [] mi ml) :
    ((x < 0 → am_wp (am_call d) mt_247 R 75 [some (.ref 78), none, some (.int y), some (.int x), some (.int z), some (.int l5), some (.int l6), some (.int l7), some (.int 0), some (.int 0)] [] mi ml) ∧ (¬ (x < 0) → am_wp (am_call d) mt_247 R 75 [some (.ref 78), none, some (.int y), some (.int x), some (.int z), some (.int l5), some (.int l6), some (.int l7), some (.int 1), some (.int 0)] [] mi ml)) := by
  have hm5 := hm.2.1
  have em : mi 78 5 = nI m := hm.2.2.2.1
  rcases hx with ⟨x0, f0⟩ | ⟨c, hc, ec, ef⟩
  · refine ⟨fun _ => ?_, fun q => absurd (by rw [am_lt_i, am_l0]; exact x0) q⟩
    rw [f0, Int32.add_zero] at h
    refine am_for m (fun k => am_wp (am_call d) mt_247 R 75 [some (.ref 78), none, some (.int y), some (.int x), some (.int z), some (.int l5), some (.int l6), some (.int l7), some (.int 0), some (.int (nI k))] [] mi ml) ?_ (fun k hk ih => ?_) 0 (Nat.zero_le _)
    · exact bk_247_75 (pk_le m m (fun _ => ⟨fun _ => h, fun q => absurd rfl q⟩) (fun q => absurd q (Nat.lt_irrefl _)) em rfl)
    · refine bk_247_75 (pk_le m k (fun q => absurd q (by omega)) (fun _ => ?_) em rfl)
      rw [nI_1]
      exact ⟨fun _ => ih, fun _ => ⟨fun _ => ih, fun q => absurd rfl q⟩⟩
  · subst ec
    refine ⟨fun q => ?_, fun _ => ?_⟩
    · exfalso
      rw [am_lt_i, am_l0, am_ti (by omega)] at q
      omega
    · have st : ∀ k, k ≤ m → am_wp (am_call d) mt_247 R 75 [some (.ref 78), none, some (.int y), some (.int (nI c)), some (.int z), some (.int l5), some (.int l6), some (.int l7), some (.int (if am_hms S c k = true then 1 else 0)), some (.int (nI k))] [] mi ml := by
        refine am_for m _ ?_ (fun k hk ih => ?_)
        · refine bk_247_75 (pk_le m m (fun _ => ?_) (fun q => absurd q (Nat.lt_irrefl _)) em rfl)
          rw [ef] at h
          by_cases g : am_hms S c m = true
          · rw [if_pos g] at h ⊢
            exact am_y h
          · rw [if_neg g, Int32.add_zero] at h
            rw [if_neg g]
            exact am_n0 h
        · have un : am_hms S c (k + 1) = (am_hms S c k && (k == c || decide (S k < S c))) := rfl
          rw [un] at ih
          refine bk_247_75 (pk_le m k (fun q => absurd q (by omega)) (fun _ => ?_) em rfl)
          rw [nI_clamp (show k < 2 ^ 31 by omega), nI_clamp (show c < 2 ^ 31 by omega), nI_1, hS k hk, hS c hc]
          by_cases g : am_hms S c k = true
          · rw [g, Bool.true_and] at ih
            rw [if_pos g]
            refine ⟨fun q => ?_, fun q => am_y ⟨vp_in_nI (by omega) (by omega), vp_in_nI (by omega) (by omega), fun q2 => ?_, fun q2 => ?_⟩⟩
            · have e : k = c := (nI_eq (by omega) (by omega)).mp q
              rw [e, beq_self_eq_true, Bool.true_or, if_pos rfl] at ih
              rw [e]
              exact ih
            · rw [decide_eq_true q2, Bool.or_true, if_pos rfl] at ih
              exact ih
            · rw [if_neg (fun z => by
                rcases Bool.or_eq_true_iff.mp z with z | z
                · exact q (by rw [eq_of_beq z])
                · exact q2 (of_decide_eq_true z))] at ih
              exact ih
          · have gf : am_hms S c k = false := by
              cases hh : am_hms S c k with
              | true => exact absurd hh g
              | false => rfl
            rw [gf, Bool.false_and, if_neg (by decide)] at ih
            rw [if_neg g]
            exact ⟨fun _ => ih, fun _ => am_n0 ih⟩
      exact st 0 (Nat.zero_le _)
def am_F247 : Nat → Nat → Bool := fun c _ => decide (c = 98 ∨ c = 99 ∨ c = 110 ∨ c = 111)
/-- the reference's Decembers -/
theorem sp_247l {x y z : Int32} {N : Nat} {B : am_MI} (hX : am_X P u n m B) (ho : ∀ t, t < n → B 109 t = nI (am_god u 0 n t)) (hN : N ≤ 50) (hy : y = nI N) (hx : x = -1 ∨ ∃ c, c < m ∧ x = nI c) (h : ∀ m2, am_kp am_F247 B m2 → R (some (.int (am_drs P u n m x z N))) m2 ml) :
    am_wp (am_call (d + 5)) mt_247 R 27 [some (.ref 78), none, some (.int y), some (.int x), some (.int z), some (.int 0), some (.int 0), some (.int 0), none, none] [] B ml := by
  subst hy
  have hn := hX.2.1.1
  have hm5 := hX.2.1.2.1
  have kV : ∀ m2, am_kp am_F247 B m2 → am_kp (am_FV n) B m2 := fun m2 k2 => am_kp_w k2 (fun c j q => by
    have q := of_decide_eq_false q
    exact decide_eq_false (by omega))
  have xm : ∀ m2, am_kp am_F247 B m2 → am_X P u n m m2 := fun m2 k2 => am_X_V hX (kV m2 k2)
  have x0 : x = -1 → x.toInt < 0 := fun e => by
    rw [e, am_lm1]
    omega
  have fin : ∀ (l5 l6 : Int32) (k : Nat), (x = -1 → l5 = am_drs P u n m x z k) → (¬ x = -1 → l6 = am_drs P u n m x z k) → ∀ m2, R (some (.int (am_drs P u n m x z k))) m2 ml → ((0 ≤ x → R (some (.int l6)) m2 ml) ∧ (¬ (0 ≤ x) → R (some (.int l5)) m2 ml)) := by
    intro l5 l6 k h5 h6 m2 g
    rcases hx with e | ⟨c, hc, e⟩
    · rw [h5 e]
      refine ⟨fun q => ?_, fun _ => g⟩
      exfalso
      have := x0 e
      rw [am_le_i, am_l0] at q
      omega
    · have e1 : ¬ x = -1 := fun q => by
        have := x0 q
        rw [e, am_ti (by omega)] at this
        omega
      rw [h6 e1]
      refine ⟨fun _ => g, fun q => ?_⟩
      exfalso
      refine q ?_
      rw [e, am_le_i, am_l0, am_ti (by omega)]
      omega
  by_cases m0 : m = 0
  · subst m0
    have e : x = -1 := hx.resolve_right (fun ⟨c, hc, _⟩ => absurd hc (Nat.not_lt_zero _))
    have g := h B am_kp_r
    have z0 : am_drs P u n 0 x z N = 0 := by rw [e]; exact am_drs_0 N
    have end0 := fin 0 0 N (fun _ => z0.symm) (fun q => absurd e q) B g
    exact bk_247_27 (pk_le N 0 (fun _ => end0) (fun _ => pk_le 0 0 (fun _ => end0) (fun q => absurd q (Nat.lt_irrefl _)) (xm B am_kp_r).2.2.1.2.2.2.1 rfl) rfl rfl)
  · have hp : 0 < m := by omega
    have loop : ∀ v k, k + v = N → ∀ (l5 l6 : Int32) (m2 : am_MI), am_kp am_F247 B m2 → (x = -1 → l5 = am_drs P u n m x z k) → (¬ x = -1 → l6 = am_drs P u n m x z k) → am_wp (am_call (d + 5)) mt_247 R 27 [some (.ref 78), none, some (.int (nI N)), some (.int x), some (.int (am_drz n m z k)), some (.int l5), some (.int l6), some (.int (nI k)), none, none] [] m2 ml := by
      intro v
      induction v with
      | zero =>
        intro k ek l5 l6 m2 k2 h5 h6
        have ek : k = N := ek
        rw [ek] at h5 h6 ⊢
        exact bk_247_27 (pk_le N N (fun _ => fin l5 l6 N h5 h6 m2 (h m2 k2)) (fun q => absurd q (Nat.lt_irrefl _)) rfl rfl)
      | succ v ih =>
        intro k ek l5 l6 m2 k2 h5 h6
        have ih := ih (k + 1) (by omega)
        have uz : am_drz n m z (k + 1) = am_zn (am_drz n m z k) n := if_neg m0
        have us : am_drs P u n m x z (k + 1) = am_drs P u n m x z k + am_dra m x (fun c => am_zs P u n m (am_drz n m z k) c n) := rfl
        rw [uz, us] at ih
        generalize am_drz n m z k = z0 at ih
        refine bk_247_27 (pk_le N k (fun q => absurd q (by omega)) (fun _ => pk_le m 0 (fun q => absurd q (by omega)) (fun _ => ?_) (xm m2 k2).2.2.1.2.2.2.1 rfl) rfl rfl)
        -- the doors
        have doors : ∀ w t, t + w = n → ∀ m3, am_kp am_F247 B m3 → (∀ s, s < t → m3 110 (am_god u 0 n s) = nI (am_zo m z0 s)) → am_wp (am_call (d + 5)) mt_247 R 35 [some (.ref 78), none, some (.int (nI N)), some (.int x), some (.int (am_zn z0 t)), some (.int l5), some (.int l6), some (.int (nI k)), some (.int (nI t)), none] [] m3 ml := by
          intro w
          induction w with
          | zero =>
            intro t et m3 k3 h3
            have et : t = n := et
            rw [et] at h3 ⊢
            have own : ∀ i, i < n → ∃ c, c < m ∧ m3 110 i = nI c := fun i hi => by
              obtain ⟨j, hj, ej⟩ := am_god_s (u := u) i hi
              rw [Nat.zero_add] at ej
              exact ⟨am_zo m z0 j, am_zo_lt hp, by rw [← ej]; exact h3 j hj⟩
            refine bk_247_35 (pk_le n n (fun _ => sp_214 (w := m3 110) (xm m3 k3) (fun i _ => rfl) (am_own_2 own) (fun m4 k4 s4 => am_rv_i ?_)) (fun q => absurd q (Nat.lt_irrefl _)) (xm m3 k3).2.2.1.2.2.1 rfl)
            have k4 : am_kp am_F247 B m4 := am_kp_t k3 (am_kp_w k4 (fun c j q => by
              have q := of_decide_eq_false q
              exact decide_eq_false (by omega)))
            have sz : ∀ c, c < m → m4 111 c = am_zs P u n m z0 c n := fun c hc => by
              rw [s4 c hc]
              have y := am_srt_m (am_led u) 0 (fun i => if m3 110 i = nI c then am_ge P u c i else 0) n
              unfold am_sto am_zs
              refine Eq.trans (am_sm_c n (fun j hj => ?_)) (y.symm.trans (am_sm_c n (fun j hj => ?_)))
              · rw [Nat.zero_add]
              · have e1 : am_srt (am_led u) 0 n j = am_god u 0 n j := by
                  unfold am_god
                  rw [Nat.sub_zero]
                show (if m3 110 (am_srt (am_led u) 0 n j) = nI c then am_ge P u c (am_srt (am_led u) 0 n j) else 0) = _
                rw [e1, h3 j hj]
                have lz := am_zo_lt (z := z0) (t := j) hp
                by_cases q : am_zo m z0 j = c
                · rw [if_pos q, if_pos (by rw [q])]
                · rw [if_neg q, if_neg (fun g => q ((nI_eq (by omega) (by omega)).mp g))]
            refine sp_215 (xm m4 k4).2.2.1 (am_ri_i ?_)
            have ec : am_dra m x (fun c => am_zs P u n m z0 c n) = am_dra m x (m4 111) := am_dra_c hx hm5 (fun c hc => (sz c hc).symm)
            rw [ec] at ih
            have hc2 : (x.toInt < 0 ∧ (if x = -1 then (0 : Int32) else am_dra m x (m4 111)) = 0) ∨ ∃ c, c < m ∧ x = nI c ∧ (if x = -1 then (0 : Int32) else am_dra m x (m4 111)) = if am_hms (m4 111) c m = true then 1 else 0 := by
              rcases hx with e | ⟨c, hc, e⟩
              · exact Or.inl ⟨x0 e, if_pos e⟩
              · refine Or.inr ⟨c, hc, e, ?_⟩
                have e1 : ¬ x = -1 := fun q => by
                  have := x0 q
                  rw [e, am_ti (by omega)] at this
                  omega
                rw [if_neg e1]
                unfold am_dra
                rw [if_neg e1, e, nI_clamp (by omega)]
            refine sp_247h (S := m4 111) (f := if x = -1 then 0 else am_dra m x (m4 111)) (xm m4 k4).2.2.1 (fun c _ => rfl) hc2 ?_
            rw [nI_1]
            refine ih _ _ m4 k4 (fun e => ?_) (fun e => ?_)
            · rw [h5 e]
              congr 1
              unfold am_dra
              rw [if_pos e]
            · rw [h6 e, if_neg e]
          | succ w iw =>
            intro t et m3 k3 h3
            have ht : t < n := by omega
            have iw := iw (t + 1) (by omega)
            have lt := am_god_lt (u := u) t ht
            have un : am_zn z0 (t + 1) = am_zn z0 t * 1103515245 + 12345 := rfl
            have em : m3 78 5 = nI m := (xm m3 k3).2.2.1.2.2.2.1
            refine bk_247_35 (pk_le n t (fun q => absurd q (by omega)) (fun _ => ⟨vp_in_nI (by omega) (by omega), ?_⟩) (xm m3 k3).2.2.1.2.2.1 rfl)
            rw [em, am_zor hp hm5, nI_clamp (show t < 2 ^ 31 by omega), (k3 109 t rfl).trans (ho t ht), nI_clamp (show am_god u 0 n t < 2 ^ 31 by omega), nI_1, ← un]
            refine ⟨fun q => m0 ((nI_eq (a := m) (b := 0) (by omega) (by omega)).mp q), vp_in_nI (by omega) (by omega), iw _ (am_kp_u k3 rfl) (fun s hs => ?_)⟩
            by_cases e : s = t
            · rw [e, am_ui_k]
            · rw [am_ui_n (fun _ q => ?_)]
              · exact h3 s (by omega)
              · refine e (am_srt_j (am_led u) 0 n s t (by omega) ht ?_)
                unfold am_god at q
                rw [Nat.sub_zero, Nat.sub_zero] at q
                exact q
        exact doors n 0 (Nat.zero_add _) m2 k2 (fun s hs => absurd hs (Nat.not_lt_zero _))
    exact loop N 0 (Nat.zero_add _) 0 0 B am_kp_r (fun _ => rfl) (fun _ => rfl)
/-- drawn -/
theorem pr_26 {x y z : Int32} (hX : am_X P u n m mi) (hv : am_fvn P u n m mi) (h : ∀ r mi2, am_kp (am_FV n) mi mi2 → am_fvn P u n m mi2 → Q r r mi2 ml) : am_pr (d + 11) 144 [.ref 0, .int z, .int y, .int x] 247 [.ref 78, .int z, .int y, .int x] mi ml Q := by
  have hm5 := hX.2.1.2.1
  have hn := hX.2.1.1
  have h0 : ∀ r, Q r r mi ml := fun r => h r mi am_kp_r hv
  have l50 : (50 : Int32).toInt = 50 := rfl
  have badn : (y.toInt < 1 ∨ 50 < y.toInt) → am_call (d + 11) 247 [.ref 78, .int z, .int y, .int x] mi ml (am_ri fun r2 mi2 ml2 => Q (-1) r2 mi2 ml2) := fun g => bk_247 (sp_168 (fun a b => by
    exfalso
    rw [am_l1] at a
    rw [l50] at b
    omega) (fun _ => am_ri_i (am_n0 (am_ri_i (h0 _)))))
  have badc : ¬ x = -1 → (x.toInt < 0 ∨ m ≤ x.toInt) → am_call (d + 11) 247 [.ref 78, .int z, .int y, .int x] mi ml (am_ri fun r2 mi2 ml2 => Q (-1) r2 mi2 ml2) := fun x1 g => bk_247 (sp_168 (fun _ _ => am_ri_i (am_y ⟨fun q => absurd q x1, fun _ => sp_170 hX.2.2.1 (fun k hk e => by
    exfalso
    rw [e, am_ti (by omega)] at g
    omega) (fun _ => am_ri_i (am_nn (am_ri_i (h0 _))))⟩)) (fun _ => am_ri_i (am_n0 (am_ri_i (h0 _)))))
  -- both
  have good : 1 ≤ y.toInt → y.toInt ≤ 50 → (x = -1 ∨ ∃ c, c < m ∧ x = nI c) → ∀ R : am_R, (∀ v m3, am_call (d + 11) 247 [.ref 78, .int z, .int y, .int x] m3 ml (am_ri fun r2 mi2 ml2 => Q v r2 mi2 ml2) → R (some (.int v)) m3 ml) → am_call (d + 10) 166 [.ref 0] mi ml (am_rr fun r1 mi1 ml1 => am_need (am_oc r1 == am_mk 63) (am_call (d + 10) 63 [.ref r1, .int z, .int y, .int x] mi1 ml1 (am_ri fun r2 mi2 ml2 => R (some (.int r2)) mi2 ml2))) := by
    intro y1 y2 hx R hR
    obtain ⟨N, hN, eN⟩ := am_nat (x := y) (n := 51) (by omega) (by omega)
    refine am_frs hX hv (fun m2 k2 hX2 f2 => am_rr_i (am_need_i rfl (sp_63 (N := N) hX2 f2 (by omega) eN hx (fun m3 k3 => am_ri_i (hR _ m3 ?_)))))
    have hX3 := am_X_V hX2 (am_kV_45 k3)
    have f3 := am_fre_on hm5 f2 (fun c j q1 q2 => k3 c j (decide_eq_false (by omega)))
    have k23 := am_kp_t (am_kV_X (n := n) k2) (am_kV_45 k3)
    have e0 : m3 78 0 = nI n := hX3.2.2.1.2.2.1
    have go : am_call (d + 10) 209 [.ref 78, .int 0, .int (m3 78 0)] m3 ml (am_rv fun mi2 ml2 => am_wp (am_call (d + 10)) mt_247 (am_ri fun r2 mi2 ml2 => Q (am_drs P u n m x z N) r2 mi2 ml2) 27 [some (.ref 78), none, some (.int y), some (.int x), some (.int z), some (.int 0), some (.int 0), some (.int 0), none, none] [] mi2 ml2) := by
      refine sp_209 (u := u) (a := 0) (b := n) rfl (by rw [e0, Nat.zero_add]) (by omega) (fun i _ hi => hX3.2.2.1.2.2.2.2 0 i (am_vd (by omega) (by omega))) (fun m4 k4 o4 => am_rv_i ?_)
      have k4' : am_kp am_FG m3 m4 := am_kG_9 k4
      refine sp_247l (d := d + 5) (am_X_V hX3 (am_kV_G k4')) (fun t ht => ?_) (by omega) eN hx (fun m5 k5 => am_ri_i ?_)
      · have q := o4 t ht
        rw [Nat.zero_add] at q
        rw [q]
        unfold am_god
        rw [Nat.sub_zero]
      · have k5' : am_kp am_FG m4 m5 := am_kp_w k5 (fun c j q => by
          have q := of_decide_eq_false q
          exact decide_eq_false (by omega))
        exact h _ m5 (am_kp_t k23 (am_kV_G (am_kp_t k4' k5'))) (am_fvn_i hX3 f3 (fun c j q1 q2 => (k5' c j (decide_eq_false (by omega))).trans (k4' c j (decide_eq_false (by omega)))))
    refine bk_247 (sp_168 (fun _ _ => am_ri_i (am_y ⟨fun _ => go, fun q => ?_⟩)) (fun g => ?_))
    · obtain ⟨c, hc, ec⟩ := hx.resolve_left q
      refine sp_170 hX3.2.2.1 (fun _ _ _ => am_ri_i (am_yn go)) (fun g => ?_)
      rw [ec, am_ti (by omega)] at g
      omega
    · rw [am_l1, l50] at g
      omega
  refine bk_144 ⟨fun w => am_ri_i (badn (Or.inl ?_)), fun w => ⟨fun w2 => am_ri_i (badn (Or.inr ?_)), fun w2 => ⟨fun w3 => good ?_ ?_ (Or.inl w3) _ (fun v m3 g => am_ri_i g), fun w3 => sp_1 hX.2.1 (fun c hc ec => am_ri_i (am_yn (good ?_ ?_ (Or.inr ⟨c, hc, ec⟩) _ (fun v m3 g => am_ri_i g)))) (fun g => am_ri_i (am_nn (am_ri_i (badc w3 g))))⟩⟩⟩
  · rw [am_lt_i, am_l1] at w
    exact w
  · rw [am_lt_i, l50] at w2
    exact w2
  · rw [am_lt_i, am_l1] at w
    omega
  · rw [am_lt_i, l50] at w2
    omega
  · rw [am_lt_i, am_l1] at w
    omega
  · rw [am_lt_i, l50] at w2
    omega
end SP61
