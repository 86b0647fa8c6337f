/-! pair: gather -/
/-- those of the first t things that are asked for: how many, which -/
def am_mn (p : Nat → Bool) (o : Nat → Nat) : Nat → Nat × (Nat → Nat)
  | 0 => (0, fun _ => 0)
  | t + 1 => if p t = true then ((am_mn p o t).1 + 1, am_un (am_mn p o t).2 (am_mn p o t).1 (o t)) else am_mn p o t
theorem am_mn_y {p : Nat → Bool} {o : Nat → Nat} {t : Nat} (h : p t = true) : am_mn p o (t + 1) = ((am_mn p o t).1 + 1, am_un (am_mn p o t).2 (am_mn p o t).1 (o t)) := if_pos h
theorem am_mn_n {p : Nat → Bool} {o : Nat → Nat} {t : Nat} (h : ¬ p t = true) : am_mn p o (t + 1) = am_mn p o t := if_neg h
theorem am_mn_le (p : Nat → Bool) (o : Nat → Nat) : ∀ t, (am_mn p o t).1 ≤ t
  | 0 => Nat.le_refl _
  | t + 1 => by
    have := am_mn_le p o t
    by_cases h : p t = true
    · rw [am_mn_y h]
      show _ + 1 ≤ _
      omega
    · rw [am_mn_n h]
      omega
theorem am_mn_b {p : Nat → Bool} {o : Nat → Nat} {n : Nat} : ∀ t, (∀ s, s < t → o s < n) → ∀ k, k < (am_mn p o t).1 → (am_mn p o t).2 k < n
  | 0, _, k, hk => absurd hk (Nat.not_lt_zero _)
  | t + 1, h, k, hk => by
    by_cases e : p t = true
    · rw [am_mn_y e] at hk ⊢
      have hk : k < (am_mn p o t).1 + 1 := hk
      show am_un (am_mn p o t).2 (am_mn p o t).1 (o t) k < n
      by_cases e2 : k = (am_mn p o t).1
      · rw [e2, am_un_k]
        exact h t (by omega)
      · rw [am_un_n e2]
        exact am_mn_b t (fun s hs => h s (by omega)) k (by omega)
    · rw [am_mn_n e] at hk ⊢
      exact am_mn_b t (fun s hs => h s (by omega)) k hk
/-- what stands there stays -/
theorem am_mn_s {p : Nat → Bool} {o : Nat → Nat} : ∀ v t, (am_mn p o t).1 ≤ (am_mn p o (t + v)).1 ∧ ∀ k, k < (am_mn p o t).1 → (am_mn p o (t + v)).2 k = (am_mn p o t).2 k
  | 0, t => ⟨Nat.le_refl _, fun _ _ => rfl⟩
  | v + 1, t => by
    obtain ⟨a, b⟩ := am_mn_s (p := p) (o := o) v t
    show (am_mn p o t).1 ≤ (am_mn p o ((t + v) + 1)).1 ∧ ∀ k, k < (am_mn p o t).1 → (am_mn p o ((t + v) + 1)).2 k = (am_mn p o t).2 k
    by_cases e : p (t + v) = true
    · rw [am_mn_y e]
      refine ⟨Nat.le_succ_of_le a, fun k hk => ?_⟩
      show am_un (am_mn p o (t + v)).2 (am_mn p o (t + v)).1 (o (t + v)) k = _
      rw [am_un_n (by omega)]
      exact b k hk
    · rw [am_mn_n e]
      exact ⟨a, b⟩
theorem am_mn_p {p : Nat → Bool} {o : Nat → Nat} {t T : Nat} (h : p t = true) (hT : t < T) : (am_mn p o t).1 < (am_mn p o T).1 ∧ (am_mn p o T).2 (am_mn p o t).1 = o t := by
  obtain ⟨v, rfl⟩ : ∃ v, T = t + 1 + v := ⟨T - (t + 1), by omega⟩
  obtain ⟨a, b⟩ := am_mn_s (p := p) (o := o) v (t + 1)
  rw [am_mn_y h] at a b
  have a : (am_mn p o t).1 + 1 ≤ (am_mn p o (t + 1 + v)).1 := a
  refine ⟨by omega, ?_⟩
  rw [b (am_mn p o t).1 (Nat.lt_succ_self _)]
  exact am_un_k
/-- on which day the k-th one is eaten; what it is worth; all -/
def am_gon (u : Nat → Nat → Int32) (N : Nat) (M : Nat → Nat) (g k : Nat) : Int32 := if k - k % g + g - 1 < N then u 0 (M (k - k % g + g - 1)) else 24
def am_gtm (P : List (List Nat × List Nat)) (u : Nat → Nat → Int32) (c N : Nat) (M : Nat → Nat) (g k : Nat) : Int32 := am_wo P u c (M k) (u 2 (M k)) (am_gon u N M g k - u 0 (M k))
def am_gsm (P : List (List Nat × List Nat)) (u : Nat → Nat → Int32) (c N : Nat) (M : Nat → Nat) (g : Nat) : Int32 := am_sm (am_gtm P u c N M g) N
/-- the best of 1 to k + 1 -/
def am_gbt (G : Nat → Int32) : Nat → Nat
  | 0 => 1
  | k + 1 => if G (k + 2) ≤ G (am_gbt G k) then am_gbt G k else k + 2
theorem am_gbt_b (G : Nat → Int32) : ∀ k, 1 ≤ am_gbt G k ∧ am_gbt G k ≤ k + 1
  | 0 => ⟨Nat.le_refl _, Nat.le_refl _⟩
  | k + 1 => by
    have := am_gbt_b G k
    unfold am_gbt
    split <;> omega
def am_gp (P : List (List Nat × List Nat)) (u : Nat → Nat → Int32) (n m r c t : Nat) : Bool := decide ((am_gvn P u n m r).1 (am_god u 0 n t) = nI c)
def am_gN (P : List (List Nat × List Nat)) (u : Nat → Nat → Int32) (n m r c : Nat) : Nat := (am_mn (am_gp P u n m r c) (am_god u 0 n) n).1
def am_gM (P : List (List Nat × List Nat)) (u : Nat → Nat → Int32) (n m r c : Nat) : Nat → Nat := (am_mn (am_gp P u n m r c) (am_god u 0 n) n).2
section SP58
variable {d n m : Nat} {u : Nat → Nat → Int32} {mi : am_MI} {ml : am_ML} {R : am_R} {r c : Nat} {P : List (List Nat × List Nat)} {Q : Int32 → Int32 → am_MI → am_ML → Prop}
def am_F57 : Nat → Nat → Bool := fun c j => decide (c = 46 ∨ (c = 22 ∧ j = 12))
theorem am_kV_57 {a b : am_MI} (h : am_kp am_F57 a b) : am_kp (am_FV n) a b := am_kp_w h (fun c j q => by
  have q := of_decide_eq_false q
  exact decide_eq_false (by omega))
/-- takeMine -/
theorem sp_57 {x y : Int32} (hr : r < 5) (hc : am_cx n m u mi) (hf : am_fre P u n m mi) (hcm : c < m) (hx : x = nI r) (hy : y = nI c) (h : ∀ m2, am_kp am_F57 mi m2 → m2 22 12 = nI (am_gN P u n m r c) → (∀ k, k < am_gN P u n m r c → m2 46 k = nI (am_gM P u n m r c k)) → R none m2 ml) : am_call (d + 1) 57 [.ref 22, .int x, .int y] mi ml R := by
  subst hx
  subst hy
  have hn := hc.1
  have hm5 := hc.2.1
  obtain ⟨-, -, a1, a2, -⟩ := am_k38 r hr
  have loop : ∀ v t, t + v = n → ∀ m2, am_kp am_F57 mi m2 → m2 22 12 = nI (am_mn (am_gp P u n m r c) (am_god u 0 n) t).1 → (∀ k, k < (am_mn (am_gp P u n m r c) (am_god u 0 n) t).1 → m2 46 k = nI ((am_mn (am_gp P u n m r c) (am_god u 0 n) t).2 k)) → am_wp (am_call d) mt_57 R 5 [some (.ref 22), some (.int (nI r)), some (.int (nI c)), some (.int (nI t))] [] m2 ml := by
    intro v
    induction v with
    | zero =>
      intro t et m2 k2 h1 h2
      have et : t = n := et
      subst et
      exact bk_57_5 (pk_le _ _ (fun _ => h m2 k2 h1 h2) (fun q => absurd q (Nat.lt_irrefl _)) ((k2 1 1 rfl).trans hc.2.2.1) rfl)
    | succ v ih =>
      intro t et m2 k2 h1 h2
      have ht : t < n := by omega
      have ih := ih (t + 1) (by omega)
      have lt := am_god_lt (u := u) t ht
      have le := am_mn_le (am_gp P u n m r c) (am_god u 0 n) t
      have e23 : m2 23 t = nI (am_god u 0 n t) := (k2 23 t rfl).trans (hf.1 t ht)
      refine bk_57_5 (pk_le n t (fun q => absurd q (by omega)) (fun _ => ?_) ((k2 1 1 rfl).trans hc.2.2.1) rfl)
      rw [nI_clamp (show r < 2 ^ 31 by omega), Nat.one_mul, a1, am_len2 a1, a2, nI_clamp (show t < 2 ^ 31 by omega), e23, nI_clamp (show am_god u 0 n t < 2 ^ 31 by omega), k2 (32 + r) _ (decide_eq_false (by omega)), (hf.2.2.2.1 r hr).1 _ lt, nI_1, h1]
      have vt : vp_in (nI t) 12 := vp_in_nI (by omega) (by omega)
      refine ⟨vp_in_nI hr (by omega), vt, am_need_i rfl ⟨vp_in_nI (by omega) (by omega), fun w => ?_, fun w => ⟨vt, vp_in_nI (by omega) (by omega), ?_⟩⟩⟩
      · have np : ¬ am_gp P u n m r c t = true := fun q => w (of_decide_eq_true q)
        rw [am_mn_n np] at ih
        exact ih m2 k2 h1 h2
      · have np : am_gp P u n m r c t = true := decide_eq_true (Decidable.not_not.mp w)
        rw [am_mn_y np] at ih
        rw [nI_clamp (show (am_mn (am_gp P u n m r c) (am_god u 0 n) t).1 < 2 ^ 31 by omega)]
        refine ih _ (am_kp_u (am_kp_u k2 rfl) rfl) ?_ (fun k hk => ?_)
        · rw [am_ui_k]
          exact nI_1 _
        · have hk : k < (am_mn (am_gp P u n m r c) (am_god u 0 n) t).1 + 1 := hk
          rw [am_ui_c (by decide)]
          show _ = nI (am_un (am_mn (am_gp P u n m r c) (am_god u 0 n) t).2 (am_mn (am_gp P u n m r c) (am_god u 0 n) t).1 (am_god u 0 n t) k)
          by_cases ek : k = (am_mn (am_gp P u n m r c) (am_god u 0 n) t).1
          · rw [ek, am_ui_k, am_un_k]
          · rw [am_ui_n (fun _ z => ek z), am_un_n ek]
            exact h2 k (by omega)
  exact bk_57 (loop n 0 (Nat.zero_add _) _ (am_kp_u am_kp_r rfl) am_ui_k (fun k hk => absurd hk (Nat.not_lt_zero _)))
theorem am_lts {k g : Nat} (hg : 0 < g) (hk : k < 1000) (hg9 : g < 1000) : nI k - am_rem (nI k) (nI g) + nI g - 1 = nI (k - k % g + g - 1) := by
  have hm := Nat.mod_le k g
  rw [show am_rem (nI k) (nI g) = nI (k % g) from pk_rem (by omega) hg (by omega), pk_sub hm, nI_add]
  exact pk_sub (b := 1) (by omega)
/-- gathered -/
theorem sp_58 {x y : Int32} {N g : Nat} {M : Nat → Nat} (hX : am_X P u n m mi) (hcm : c < m) (hN : N ≤ n) (h12 : mi 22 12 = nI N) (h46 : ∀ k, k < N → mi 46 k = nI (M k) ∧ M k < n) (hg : 0 < g) (hg9 : g ≤ 9) (hx : x = nI c) (hy : y = nI g) (h : ∀ m2, am_kp am_FW mi m2 → R (some (.int (am_gsm P u c N M g))) m2 ml) : am_call (d + 8) 58 [.ref 22, .int x, .int y] mi ml R := by
  subst hx
  subst hy
  have hn := hX.2.1.1
  have hm5 := hX.2.1.2.1
  have gz : ¬ nI g = 0 := fun q => by
    have := (nI_eq (a := g) (b := 0) (by omega) (by omega)).mp q
    omega
  have loop : ∀ v k, k + v = N → ∀ m2, am_kp am_FW mi m2 → am_wp (am_call (d + 7)) mt_58 R 8 [some (.ref 22), some (.int (nI c)), some (.int (nI g)), some (.int (am_sm (am_gtm P u c N M g) k)), some (.int (nI k)), none, none, none] [] m2 ml := by
    intro v
    induction v with
    | zero =>
      intro k ek m2 k2
      have ek : k = N := ek
      subst ek
      exact bk_58_8 (pk_le _ _ (fun _ => h m2 k2) (fun q => absurd q (Nat.lt_irrefl _)) ((k2 22 12 rfl).trans h12) rfl)
    | succ v ih =>
      intro k ek m2 k2
      have hk : k < N := by omega
      have ih := ih (k + 1) (by omega)
      rw [am_sm_s] at ih
      have ck : (nI k).toNatClampNeg = k := nI_clamp (by omega)
      have vk : vp_in (nI k) 12 := vp_in_nI (by omega) (by omega)
      have e12 : m2 22 12 = nI N := (k2 22 12 rfl).trans h12
      have e46 : ∀ j, j < N → m2 46 j = nI (M j) := fun j hj => (k2 46 j rfl).trans (h46 j hj).1
      have lk := (h46 k hk).2
      have hX2 := am_X_V hX (am_kV_W k2)
      have hc2 := hX2.2.1
      have un : am_gtm P u c N M g k = am_wo P u c (M k) (u 2 (M k)) (am_gon u N M g k - u 0 (M k)) := rfl
      have hml := Nat.mod_le k g
      have hmt := Nat.mod_lt k hg
      refine bk_58_8 (pk_le N k (fun q => absurd q (by omega)) (fun _ => ⟨gz, ?_⟩) e12 rfl)
      rw [am_lts hg (by omega) (by omega), ck, nI_1]
      refine pk_le N (k - k % g + g - 1) (fun q => ⟨vk, ?_⟩) (fun q => ⟨vp_in_nI (by omega) (by omega), ?_⟩) e12 rfl
      · have eg : am_gon u N M g k = 24 := if_neg (by omega)
        rw [un, eg] at ih
        refine sp_4c hc2 (w := 0) rfl (e46 k hk) (am_vd (by omega) lk) (am_ri_i ⟨vk, vk, sp_4c hc2 (w := 2) rfl (e46 k hk) (am_vd (by omega) lk) (am_ri_i (sp_116 hX2.1 hc2 hcm lk rfl (e46 k hk) (fun m3 k3 => am_ri_i ?_)))⟩)
        exact ih m3 (am_kp_t k2 k3)
      · have eg : am_gon u N M g k = u 0 (M (k - k % g + g - 1)) := if_pos (by omega)
        rw [un, eg] at ih
        rw [nI_clamp (show k - k % g + g - 1 < 2 ^ 31 by omega)]
        refine sp_4c hc2 (w := 0) rfl (e46 _ q) (am_vd (by omega) (h46 _ q).2) (am_ri_i ⟨vk, sp_4c hc2 (w := 0) rfl (e46 k hk) (am_vd (by omega) lk) (am_ri_i ⟨vk, vk, sp_4c hc2 (w := 2) rfl (e46 k hk) (am_vd (by omega) lk) (am_ri_i (sp_116 hX2.1 hc2 hcm lk rfl (e46 k hk) (fun m3 k3 => am_ri_i ?_)))⟩)⟩)
        exact ih m3 (am_kp_t k2 k3)
  refine bk_58 ⟨fun _ => loop N 0 (Nat.zero_add _) mi am_kp_r, fun q => ?_⟩
  exfalso
  refine q ?_
  rw [am_lt_i, am_l0, am_ti (by omega)]
  omega
/-- bestGathering -/
theorem sp_59 {x : Int32} {N : Nat} {M : Nat → Nat} (hX : am_X P u n m mi) (hcm : c < m) (hN : N ≤ n) (h12 : mi 22 12 = nI N) (h46 : ∀ k, k < N → mi 46 k = nI (M k) ∧ M k < n) (hx : x = nI c) (h : ∀ m2, am_kp am_FW mi m2 → R (some (.int (nI (am_gbt (am_gsm P u c N M) 8)))) m2 ml) : am_call (d + 9) 59 [.ref 22, .int x] mi ml R := by
  subst hx
  have st : ∀ m2, am_kp am_FW mi m2 → am_X P u n m m2 ∧ m2 22 12 = nI N ∧ ∀ k, k < N → m2 46 k = nI (M k) ∧ M k < n := fun m2 k2 => ⟨am_X_V hX (am_kV_W k2), (k2 22 12 rfl).trans h12, fun k hk => ⟨(k2 46 k rfl).trans (h46 k hk).1, (h46 k hk).2⟩⟩
  have loop : ∀ v k, k + v = 8 → ∀ m2, am_kp am_FW mi m2 → am_wp (am_call (d + 8)) mt_59 R 9 [some (.ref 22), some (.int (nI c)), some (.int (nI (am_gbt (am_gsm P u c N M) k))), some (.int (am_gsm P u c N M (am_gbt (am_gsm P u c N M) k))), some (.int (nI (k + 2))), none] [] m2 ml := by
    intro v
    induction v with
    | zero =>
      intro k ek m2 k2
      have ek : k = 8 := ek
      subst ek
      exact bk_59_9 (pk_lt 9 10 (fun _ => h m2 k2) (fun q => absurd q (by omega)) rfl rfl)
    | succ v ih =>
      intro k ek m2 k2
      have ih := ih (k + 1) (by omega)
      have un : am_gbt (am_gsm P u c N M) (k + 1) = if (am_gsm P u c N M) (k + 2) ≤ (am_gsm P u c N M) (am_gbt (am_gsm P u c N M) k) then am_gbt (am_gsm P u c N M) k else k + 2 := rfl
      rw [un] at ih
      obtain ⟨s1, s2, s3⟩ := st m2 k2
      refine bk_59_9 (pk_lt 9 (k + 2) (fun q => absurd q (by omega)) (fun _ => sp_58 s1 hcm hN s2 s3 (g := k + 2) (by omega) (by omega) rfl rfl (fun m3 k3 => am_ri_i ⟨fun w => ?_, fun w => ?_⟩)) rfl rfl)
      · have ih := ih m3 (am_kp_t k2 k3)
        rw [if_pos w] at ih
        rw [nI_1]
        exact ih
      · have ih := ih m3 (am_kp_t k2 k3)
        rw [if_neg w] at ih
        rw [nI_1]
        exact ih
  refine bk_59 (sp_58 hX hcm hN h12 h46 (g := 1) (by omega) (by omega) rfl rfl (fun m2 k2 => am_ri_i ?_))
  exact loop 8 0 rfl m2 k2
theorem am_lft {k g : Nat} (hg : 0 < g) (hk : k < 1000) (hg9 : g < 1000) : (((nI (k + 1) + nI g) - 1) / nI g) * nI g - nI (k + 1) = nI (g - 1 - k % g) := by
  have e1 : (nI (k + 1) + nI g) - 1 = nI (k + g) := by
    rw [nI_add]
    exact (pk_sub (b := 1) (by omega)).trans (by rw [show k + 1 + g - 1 = k + g from by omega])
  have hd := Nat.div_add_mod k g
  have hmt := Nat.mod_lt k hg
  have hle : k / g * g ≤ k := Nat.div_mul_le_self k g
  rw [e1, pk_div (by omega) hg (by omega), pk_mul, Nat.add_div_right k hg, Nat.succ_mul, pk_sub (by rw [Nat.mul_comm] at hd; omega)]
  congr 1
  rw [Nat.mul_comm] at hd
  omega
end SP58
