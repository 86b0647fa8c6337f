/-! pair: big -/
def am_bgs (u : Nat → Nat → Int32) : Nat → Nat
  | 0 => 0
  | k + 1 => if u 2 (k + 1) ≤ u 2 (am_bgs u k) then am_bgs u k else k + 1
theorem am_bgs_le (u : Nat → Nat → Int32) : ∀ k, am_bgs u k ≤ k
  | 0 => Nat.le_refl _
  | k + 1 => by
    have := am_bgs_le u k
    unfold am_bgs
    split
    · omega
    · omega
/-- what is one's, the biggest one's part, all then -/
def am_bgw (P : List (List Nat × List Nat)) (u : Nat → Nat → Int32) (n m r : Nat) : Nat → Int32 := upd (am_gvn P u n m r).1 (am_bgs u (n - 1)) (-2)
def am_bgp (u : Nat → Nat → Int32) (n m : Nat) : Int32 := u 2 (am_bgs u (n - 1)) / nI m
def am_bg0 (P : List (List Nat × List Nat)) (u : Nat → Nat → Int32) (n m r c : Nat) : Int32 := am_sto (am_bgw P u n m r) (am_ge P u c) (nI c) n
def am_bga (P : List (List Nat × List Nat)) (u : Nat → Nat → Int32) (n m r c : Nat) : Int32 := am_bg0 P u n m r c + am_ea P u c (am_bgs u (n - 1)) (am_bgp u n m)
theorem am_bgw_o {P : List (List Nat × List Nat)} {u : Nat → Nat → Int32} {n m r : Nat} : am_own n m (am_bgw P u n m r) := fun i hi => by
  unfold am_bgw upd
  split
  · exact Or.inr rfl
  · exact am_gvn_o i hi
theorem am_ea_u {P : List (List Nat × List Nat)} {u : Nat → Nat → Int32} {a b i : Nat} {y z : Int32} : am_ea P (am_uu u 2 i y) a b z = am_ea P u a b z := by
  have e : ∀ w j, ¬ w = 2 → am_uu u 2 i y w j = u w j := fun w j h => am_uu_n (fun q _ => h q)
  have e0 := e 0 b (by decide)
  have e1 := e 1 b (by decide)
  have e3 := e 3 a (by decide)
  have e4 := e 4 a (by decide)
  have e6 := e 6 a (by decide)
  have e7 := e 7 a (by decide)
  have e8 := e 8 0 (by decide)
  have e9 := e 9 0 (by decide)
  have enm : ∀ z x, am_nm (am_uu u 2 i y) a b z x = am_nm u a b z x := fun z x => by
    funext t
    unfold am_nm am_lik
    rw [e0, e1, e3, e4, e8]
  unfold am_ea am_wo am_lat am_lik am_nev am_aw
  simp only [e0, e1, e4, e6, e7, e9, enm]
section SP55
variable {d n m : Nat} {u : Nat → Nat → Int32} {mi : am_MI} {ml : am_ML} {R : am_R} {r : Nat} {P : List (List Nat × List Nat)} {Q : Int32 → Int32 → am_MI → am_ML → Prop}
theorem am_bgp_i (hu : am_ur n m u) (hn : 0 < n) (hm : 0 < m) (hm5 : m ≤ 5) : ∃ k, k ≤ 9 ∧ am_bgp u n m = nI k := by
  obtain ⟨k2, l2, h2, e2⟩ := hu 2 (am_bgs u (n - 1)) (am_vd (by omega) (by have := am_bgs_le u (n - 1); omega))
  have h2 : k2 ≤ 9 := h2
  unfold am_bgp
  rw [e2, pk_div (by omega) (by omega) (by omega)]
  exact ⟨k2 / m, by have := Nat.div_le_self k2 m; omega, rfl⟩
def am_F53 : Nat → Nat → Bool := fun c j => decide (c = 19 ∨ c = 21 ∨ (c = 15 ∧ j = 9) ∨ c = 44 ∨ c = 45)
theorem am_kV_53 {a b : am_MI} (h : am_kp am_F53 a b) : am_kp (am_FV n) a b := am_kp_w h (fun c j q => by
  have q := of_decide_eq_false q
  exact decide_eq_false (by omega))
/-- divideBig -/
theorem sp_53 {x : Int32} (hr : r < 5) (hX : am_X P u n m mi) (hf : am_fre P u n m mi) (hn0 : 0 < n) (hm0 : 0 < m) (hx : x = nI r) (h : ∀ m2, am_kp am_F53 mi m2 → (∀ c, c < m → m2 45 c = am_bga P u n m r c) → R none m2 ml) : am_call (d + 9) 53 [.ref 22, .int x] mi ml R := by
  subst hx
  have hc := hX.2.1
  have hn := hc.1
  have hm5 := hc.2.1
  obtain ⟨-, -, a1, a2, -⟩ := am_k38 r hr
  have lb := am_bgs_le u (n - 1)
  have cb : (nI (am_bgs u (n - 1))).toNatClampNeg = am_bgs u (n - 1) := nI_clamp (by omega)
  have vb : vp_in (nI (am_bgs u (n - 1))) 12 := vp_in_nI (by omega) (by omega)
  -- what each has more
  have more : ∀ B, am_kp am_F53 mi B → (∀ c, c < m → B 45 c = am_bg0 P u n m r c) → ∀ v k, k + v = m → ∀ m2, am_kp am_F53 mi m2 → (∀ c, c < k → m2 45 c = am_bga P u n m r c) → (∀ c, k ≤ c → c < m → m2 45 c = am_bg0 P u n m r c) → am_wp (am_call (d + 8)) mt_53 R 61 [some (.ref 22), none, some (.int (nI (am_bgs u (n - 1)))), some (.int (nI m)), some (.int (am_bgp u n m)), some (.int (nI k))] [] m2 ml := by
    intro B kB hB v
    induction v with
    | zero =>
      intro k ek m2 k2 h1 h2
      have ek : k = m := ek
      subst ek
      exact bk_53_61 (pk_le _ _ (fun _ => h m2 k2 h1) (fun q => absurd q (Nat.lt_irrefl _)) rfl rfl)
    | succ v ih =>
      intro k ek m2 k2 h1 h2
      have hk : k < m := by omega
      have ih := ih (k + 1) (by omega)
      have hX2 := am_X_V hX (am_kV_53 k2)
      have vk : vp_in (nI k) 5 := vp_in_nI (by omega) (by omega)
      refine bk_53_61 (pk_le m k (fun q => absurd q (by omega)) (fun _ => ⟨vk, sp_117 hX2.1 hX2.2.1 hX2.2.2.2 hk (show am_bgs u (n - 1) < n by omega) rfl rfl (fun m3 k3 => am_ri_i ⟨vk, ?_⟩)⟩) rfl rfl)
      rw [nI_clamp (show k < 2 ^ 31 by omega), nI_1]
      have k3' : am_kp am_F53 mi m3 := am_kp_t k2 (am_kp_w k3 (fun c j q => by
        have q := of_decide_eq_false q
        exact decide_eq_false (by omega)))
      refine ih _ (am_kp_u k3' rfl) (fun c hc2 => ?_) (fun c hc1 hc2 => ?_)
      · by_cases ec : c = k
        · rw [ec, am_ui_k, h2 k (Nat.le_refl _) hk]
          rfl
        · rw [am_ui_n (fun _ z => ec z), k3 45 c rfl]
          exact h1 c (by omega)
      · rw [am_ui_n (fun _ z => by omega), k3 45 c rfl]
        exact h2 c (by omega) hc2
  have loop : ∀ v k, k + 1 + v = n → am_wp (am_call (d + 8)) mt_53 R 4 [some (.ref 22), some (.int (nI r)), some (.int (nI (am_bgs u k))), some (.int (nI (k + 1))), none, none] [] mi ml := by
    intro v
    induction v with
    | zero =>
      intro k ek
      have ek : k = n - 1 := by omega
      subst ek
      refine bk_53_4 (pk_le n (n - 1 + 1) (fun _ => ?_) (fun q => absurd q (by omega)) hc.2.2.1 rfl)
      rw [nI_clamp (show r < 2 ^ 31 by omega), Nat.one_mul, a1, a2]
      refine ⟨vp_in_nI hr (by omega), by decide, by decide, by decide, by decide, by decide, ?_⟩
      show vp_in _ 12 ∧ am_call (d + 8) 52 [.ref 22] (am_ui (am_ci mi (32 + r) 0 44 0 12) 44 (nI (am_bgs u (n - 1))).toNatClampNeg (-2)) ml _
      rw [cb]
      have k2 : am_kp am_F53 mi (am_ui (am_ci mi (32 + r) 0 44 0 12) 44 (am_bgs u (n - 1)) (-2)) := am_kp_u (fun c j q => by
        have q := of_decide_eq_false q
        unfold am_ci
        rw [if_neg (fun z => by omega)]) rfl
      have hw : ∀ i, i < n → am_ui (am_ci mi (32 + r) 0 44 0 12) 44 (am_bgs u (n - 1)) (-2) 44 i = am_bgw P u n m r i := fun i hi => by
        rw [am_upd_f]
        unfold am_bgw upd
        by_cases ei : i = am_bgs u (n - 1)
        · rw [if_pos ei, if_pos ei]
        · rw [if_neg ei, if_neg ei]
          unfold am_ci
          rw [if_pos ⟨rfl, Nat.zero_le _, by omega⟩, Nat.sub_zero, Nat.zero_add]
          exact (hf.2.2.2.1 r hr).1 i hi
      generalize am_ui (am_ci mi (32 + r) 0 44 0 12) 44 (am_bgs u (n - 1)) (-2) = M at k2 hw
      refine ⟨vb, sp_52 (e := am_ge P u) (am_cx_on hc (k2 1 1 rfl) (k2 1 2 rfl) (fun w i hw => k2 _ _ (decide_eq_false (by omega)))) (fun c i hc2 hi => (k2 _ _ (decide_eq_false (by omega))).trans (hf.2.2.1 c i hc2 hi)) hw am_bgw_o (fun m3 k3 s3 => am_rv_i ?_)⟩
      have k3' : am_kp am_F53 mi m3 := am_kp_t k2 (am_kp_w k3 (fun c j q => by
        have q := of_decide_eq_false q
        exact decide_eq_false (by omega)))
      have hX3 := am_X_V hX (am_kV_53 k3')
      have em : m3 1 2 = nI m := hX3.2.1.2.2.2.1
      rw [em]
      refine pk_le m 0 (fun z => absurd z (by omega)) (fun _ => sp_4c hX3.2.1 (w := 2) rfl rfl (am_vd (by omega) (show am_bgs u (n - 1) < n by omega)) (am_ri_i ⟨fun z => ?_, bk_53_58 ?_⟩)) rfl rfl
      · have := (nI_eq (a := m) (b := 0) (by omega) (by omega)).mp z
        omega
      · exact more m3 k3' s3 m 0 (Nat.zero_add _) m3 k3' (fun c hc2 => absurd hc2 (Nat.not_lt_zero _)) (fun c _ hc2 => s3 c hc2)
    | succ v ih =>
      intro k ek
      have ih := ih (k + 1) (by omega)
      have lk := am_bgs_le u k
      have un : am_bgs u (k + 1) = if u 2 (k + 1) ≤ u 2 (am_bgs u k) then am_bgs u k else k + 1 := rfl
      rw [un] at ih
      refine bk_53_4 (pk_le n (k + 1) (fun q => absurd q (by omega)) (fun _ => sp_4c hc (w := 2) rfl rfl (am_vd (by omega) (show k + 1 < n by omega)) (am_ri_i (sp_4c hc (w := 2) rfl rfl (am_vd (by omega) (show am_bgs u k < n by omega)) (am_ri_i ⟨fun q => bk_53_22 ?_, fun q => bk_53_22 ?_⟩)))) hc.2.2.1 rfl)
      · rw [if_pos q] at ih
        rw [nI_1]
        exact ih
      · rw [if_neg q] at ih
        rw [nI_1]
        exact ih
  exact bk_53 (loop (n - 1) 0 (by omega))
def am_F66b (b : Nat) : Nat → Nat → Bool := fun c j => decide (c = 98 ∨ c = 99 ∨ c = 111 ∨ (c = 81 ∧ j = b))
/-- the reference's big, once the biggest is found -/
theorem sp_231b {x : Int32} (hX : am_X P u n m mi) (hn0 : 0 < n) (hm0 : 0 < m) (hx : x = -1 ∨ ∃ c, c < m ∧ x = nI c) (hs : ∀ c, c < m → mi 111 c = am_bg0 P u n m r c)
    (h : ∀ m2, am_kp (am_FV n) mi m2 → (am_sfr mi m2) → R (some (.int (if x = -1 then am_unf m (am_bga P u n m r) else am_bga P u n m r x.toNatClampNeg))) m2 ml) :
    am_wp (am_call (d + 7)) mt_231 R 66 [some (.ref 78), none, some (.int x), some (.int (nI (am_bgs u (n - 1)))), some (.int (mi 81 (am_bgs u (n - 1)))), some (.int 0)] [] (am_ui mi 81 (am_bgs u (n - 1)) (am_bgp u n m)) ml := by
  have hn := hX.2.1.1
  have hm5 := hX.2.1.2.1
  have lb := am_bgs_le u (n - 1)
  generalize hb : am_bgs u (n - 1) = b at lb
  obtain ⟨kp, hkp, ep⟩ := am_bgp_i hX.2.2.2 hn0 hm0 hm5
  have hbn : b < n := by omega
  have cb : (nI b).toNatClampNeg = b := nI_clamp (by omega)
  have vb : vp_in (nI b) 24 := vp_in_nI (by omega) (by omega)
  have hm := hX.2.2.1
  generalize hM : am_ui mi 81 b (am_bgp u n m) = M
  have kM : am_kp (am_F66b b) mi M := by
    rw [← hM]
    exact am_kp_u am_kp_r (decide_eq_true (by omega))
  have hM81 : M 81 b = am_bgp u n m := by rw [← hM, am_ui_k]
  have cm : am_cm n m (am_uu u 2 b (am_bgp u n m)) M := ⟨hm.1, hm.2.1, (kM 78 0 rfl).trans hm.2.2.1, (kM 78 5 rfl).trans hm.2.2.2.1, am_cm_uu (am_vd (by omega) hbn) hm.2.2.2.2 hM.symm⟩
  have hl : ∀ m2, am_kp (am_F66b b) mi m2 → am_lwr P m2 := fun m2 k2 => am_lwr_on hX.1 (k2 _ _ rfl) (k2 _ _ rfl) (k2 _ _ rfl) (fun j => k2 _ _ rfl) (fun c j q1 q2 => k2 _ _ (decide_eq_false (by omega))) (k2 _ _ rfl) (fun j => k2 _ _ rfl)
  -- the end
  have fin : ∀ m2, am_kp (am_F66b b) mi m2 → (∀ c, c < m → m2 111 c = am_bga P u n m r c) → (vp_in (nI b) 24 ∧ ((x ≠ (-1 : Int32) → (vp_in x 5 ∧ R (some (.int (m2 111 x.toNatClampNeg))) (am_ui m2 81 b (mi 81 b)) ml)) ∧ (¬ (x ≠ (-1 : Int32)) → am_call (d + 7) 215 [.ref 78] (am_ui m2 81 b (mi 81 b)) ml (am_ri fun r1 mi1 ml1 => R (some (.int r1)) mi1 ml1)))) := by
    intro m2 k2 s2
    have kk : am_kp (am_FV n) mi (am_ui m2 81 b (mi 81 b)) := fun c j q => by
      have q := of_decide_eq_false q
      by_cases e : c = 81 ∧ j = b
      · rw [e.1, e.2, am_ui_k]
      · rw [am_ui_n (fun a z => e ⟨a, z⟩)]
        exact k2 c j (decide_eq_false (by omega))
    have g := h _ kk (fun c j q1 q2 => by rw [am_ui_c (by omega)]; exact k2 c j (decide_eq_false (by omega)))
    refine ⟨vb, fun z => ?_, fun z => ?_⟩
    · rw [if_neg z] at g
      rcases hx with e | ⟨c, hc, e⟩
      · exact absurd e z
      · rw [e, nI_clamp (show c < 2 ^ 31 by omega)] at g ⊢
        rw [s2 c hc]
        exact ⟨vp_in_nI (by omega) (by omega), g⟩
    · rw [if_pos (Decidable.not_not.mp z)] at g
      refine sp_215 (am_X_V hX kk).2.2.1 (am_ri_i ?_)
      rw [am_unf_c (s := am_ui m2 81 b (mi 81 b) 111) (s2 := am_bga P u n m r) (fun c hc => by rw [am_ui_c (by decide)]; exact s2 c hc)]
      exact g
  have em : ∀ m2, am_kp (am_F66b b) mi m2 → m2 78 5 = nI m := fun m2 k2 => (k2 78 5 rfl).trans hm.2.2.2.1
  by_cases p0 : kp = 0
  · have un : ∀ c, c < m → M 111 c = am_bga P u n m r c := fun c hc => by
      rw [kM 111 c |> fun f => (by rw [← hM, am_ui_c (by decide)] : M 111 c = mi 111 c), hs c hc]
      unfold am_bga am_ea
      rw [ep, p0]
      split
      · rw [Int32.add_zero]
      · rw [if_pos (show nI 0 = 0 from rfl), Int32.add_zero]
    refine bk_231_66 (pk_le m 0 (fun z => absurd z (by omega)) (fun _ => ⟨vb, ?_⟩) (em M kM) rfl)
    rw [cb, hM81, ep, p0]
    exact ⟨fun _ => fin M kM un, fun z => absurd (by decide) z⟩
  · have hu2 : am_ur n m (am_uu u 2 b (am_bgp u n m)) := fun w i hv => by
      by_cases e : w = 2 ∧ i = b
      · rw [e.1, e.2, am_uu_k, ep]
        exact ⟨kp, by show 1 ≤ kp; omega, hkp, rfl⟩
      · rw [am_uu_n (fun a z => e ⟨a, z⟩)]
        exact hX.2.2.2 w i hv
    have loop : ∀ v k, k + v = m → ∀ m2, am_kp am_F111 M m2 → (∀ c, c < k → m2 111 c = am_bga P u n m r c) → (∀ c, k ≤ c → c < m → m2 111 c = am_bg0 P u n m r c) → am_wp (am_call (d + 7)) mt_231 R 66 [some (.ref 78), none, some (.int x), some (.int (nI b)), some (.int (mi 81 b)), some (.int (nI k))] [] m2 ml := by
      intro v
      induction v with
      | zero =>
        intro k ek m2 k2 h1 h2
        have ek : k = m := ek
        subst ek
        have k2' : am_kp (am_F66b b) mi m2 := am_kp_t kM (am_kp_w k2 (fun c j q => by
          have q := of_decide_eq_false q
          exact decide_eq_false (by omega)))
        refine bk_231_66 (pk_le k k (fun _ => ?_) (fun q => absurd q (Nat.lt_irrefl _)) (em m2 k2') rfl)
        rw [cb]
        exact fin m2 k2' h1
      | succ v ih =>
        intro k ek m2 k2 h1 h2
        have hk : k < m := by omega
        have ih := ih (k + 1) (by omega)
        have k2' : am_kp (am_F66b b) mi m2 := am_kp_t kM (am_kp_w k2 (fun c j q => by
          have q := of_decide_eq_false q
          exact decide_eq_false (by omega)))
        have vk : vp_in (nI k) 5 := vp_in_nI (by omega) (by omega)
        have cm2 : am_cm n m (am_uu u 2 b (am_bgp u n m)) m2 := by
          refine ⟨cm.1, cm.2.1, (k2 78 0 rfl).trans cm.2.2.1, (k2 78 5 rfl).trans cm.2.2.2.1, fun w i hv => ?_⟩
          have hr := am_mc_r w (by unfold am_val at hv; omega)
          exact (k2 _ _ (decide_eq_false (by omega))).trans (cm.2.2.2.2 w i hv)
        refine bk_231_66 (pk_le m k (fun q => absurd q (by omega)) (fun _ => ⟨vb, ?_⟩) (em m2 k2') rfl)
        rw [cb, k2 81 b rfl, hM81, ep]
        refine pk_le kp 0 (fun z => absurd z (by omega)) (fun _ => ⟨vk, sp_208 (hl m2 k2') cm2 hu2 hk hbn rfl rfl (fun m3 k3 => am_ri_i ⟨vk, ?_⟩)⟩) rfl rfl
        rw [am_uu_k, am_ea_u, nI_clamp (show k < 2 ^ 31 by omega), nI_1]
        have k3' : am_kp am_F111 M m3 := am_kp_t k2 (am_kp_w k3 (fun c j q => by
          have q := of_decide_eq_false q
          exact decide_eq_false (by omega)))
        refine ih _ (am_kp_u k3' rfl) (fun c hc2 => ?_) (fun c hc1 hc2 => ?_)
        · by_cases ec : c = k
          · rw [ec, am_ui_k, h2 k (Nat.le_refl _) hk]
            unfold am_bga
            rw [hb]
          · rw [am_ui_n (fun _ z => ec z), k3 111 c rfl]
            exact h1 c (by omega)
        · rw [am_ui_n (fun _ z => by omega), k3 111 c rfl]
          exact h2 c (by omega) hc2
    refine loop m 0 (Nat.zero_add _) M am_kp_r (fun c hc2 => absurd hc2 (Nat.not_lt_zero _)) (fun c _ hc2 => ?_)
    rw [← hM, am_ui_c (by decide)]
    exact hs c hc2
/-- the reference's big -/
theorem sp_231 {x y : Int32} (hr : r < 5) (hX : am_X P u n m mi) (hn0 : 0 < n) (hm0 : 0 < m) (hx : x = nI r) (hy : y = -1 ∨ ∃ c, c < m ∧ y = nI c)
    (h : ∀ m2, am_kp (am_FV n) mi m2 → (am_sfr mi m2) → R (some (.int (if y = -1 then am_unf m (am_bga P u n m r) else am_bga P u n m r y.toNatClampNeg))) m2 ml) : am_call (d + 8) 231 [.ref 78, .int x, .int y] mi ml R := by
  have hn := hX.2.1.1
  have hm5 := hX.2.1.2.1
  have lb := am_bgs_le u (n - 1)
  have nz : ¬ nI n = 0 := fun q => by
    have := (nI_eq (a := n) (b := 0) (by omega) (by omega)).mp q
    omega
  have mz : ¬ nI m = 0 := fun q => by
    have := (nI_eq (a := m) (b := 0) (by omega) (by omega)).mp q
    omega
  have go : ∀ m2, am_kp am_FG mi m2 → am_X P u n m m2 → (∀ i, i < n → m2 110 i = (am_gvn P u n m r).1 i) → ∀ v k, k + 1 + v = n → am_wp (am_call (d + 7)) mt_231 R 27 [some (.ref 78), none, some (.int y), some (.int (nI (am_bgs u k))), some (.int (nI (k + 1))), none] [] m2 ml := by
    intro m2 k2 hX2 a v
    have hm := hX2.2.2.1
    have sz : ∀ i, i < n → m2 81 i = u 2 i := fun i hi => hm.2.2.2.2 2 i (am_vd (by omega) hi)
    induction v with
    | zero =>
      intro k ek
      have ek : k = n - 1 := by omega
      subst ek
      have vb : vp_in (nI (am_bgs u (n - 1))) 24 := vp_in_nI (by omega) (by omega)
      refine bk_231_27 (pk_le n (n - 1 + 1) (fun _ => ⟨vb, vb, ?_⟩) (fun q => absurd q (by omega)) hm.2.2.1 rfl)
      rw [nI_clamp (show am_bgs u (n - 1) < 2 ^ 31 by omega)]
      have k3 : am_kp am_FG m2 (am_ui m2 110 (am_bgs u (n - 1)) (-2)) := am_kp_u am_kp_r rfl
      refine sp_214 (w := am_bgw P u n m r) (am_X_V hX2 (am_kV_G k3)) (fun i hi => ?_) am_bgw_o (fun m4 k4 s4 => am_rv_i ?_)
      · rw [am_upd_f]
        unfold am_bgw upd
        rw [a i hi]
      · have k4' : am_kp am_FG m2 m4 := am_kp_t k3 (am_kp_w k4 (fun c j q => by
          have q := of_decide_eq_false q
          exact decide_eq_false (by omega)))
        have hX4 := am_X_V hX2 (am_kV_G k4')
        have em : m4 78 5 = nI m := hX4.2.2.1.2.2.2.1
        have e81 : m2 81 (am_bgs u (n - 1)) = m4 81 (am_bgs u (n - 1)) := (k4' 81 _ rfl).symm
        have ep : m4 81 (am_bgs u (n - 1)) / nI m = am_bgp u n m := by
          rw [← e81, sz _ (by omega)]
          rfl
        rw [em, e81, ep]
        refine ⟨mz, vb, sp_231b hX4 hn0 hm0 hy s4 (fun m5 k5 e5 => h m5 (am_kp_t (am_kV_G k2) (am_kp_t (am_kV_G k4') k5)) (fun c j q1 q2 => ?_))⟩
        rw [e5 c j q1 q2, k4' c j (decide_eq_false (by omega)), k2 c j (decide_eq_false (by omega))]
    | succ v ih =>
      intro k ek
      have ih := ih (k + 1) (by omega)
      have lk := am_bgs_le u k
      have un : am_bgs u (k + 1) = if u 2 (k + 1) ≤ u 2 (am_bgs u k) then am_bgs u k else k + 1 := rfl
      rw [un] at ih
      refine bk_231_27 (pk_le n (k + 1) (fun q => absurd q (by omega)) (fun _ => ⟨vp_in_nI (by omega) (by omega), vp_in_nI (by omega) (by omega), ?_⟩) hm.2.2.1 rfl)
      rw [nI_clamp (show k + 1 < 2 ^ 31 by omega), nI_clamp (show am_bgs u k < 2 ^ 31 by omega), sz (k + 1) (by omega), sz (am_bgs u k) (by omega), nI_1]
      refine ⟨fun q => ?_, fun q => ?_⟩
      · rw [if_pos q] at ih
        exact ih
      · rw [if_neg q] at ih
        exact ih
  have em0 : mi 78 0 = nI n := hX.2.2.1.2.2.1
  have em5 : mi 78 5 = nI m := hX.2.2.1.2.2.2.1
  refine bk_231 (sp_171 (fun k hk e => am_ri_i (am_y ?_)) (fun g => ?_))
  · rw [em0, em5]
    refine ⟨fun _ => ⟨fun z => absurd z nz, fun _ => ⟨fun _ => am_gvs hr hX hx (fun m2 k2 hX2 a b => am_rv_i (go m2 k2 hX2 a (n - 1) 0 (by omega))), fun z => absurd mz z⟩⟩, fun z => ?_⟩
    rcases hy with e | ⟨c, hc, e⟩
    · exact absurd e z
    · refine sp_170 hX.2.2.1 (fun _ _ _ => am_ri_i (am_yn ?_)) (fun g => ?_)
      · rw [em0, em5]
        exact ⟨fun z => absurd z nz, fun _ => ⟨fun _ => am_gvs hr hX hx (fun m2 k2 hX2 a b => am_rv_i (go m2 k2 hX2 a (n - 1) 0 (by omega))), fun z => absurd mz z⟩⟩
      · rw [e, am_ti (by omega)] at g
        omega
  · rw [hx, am_ti (by omega)] at g
    omega
/-- big -/
theorem pr_16 {x y : Int32} (hX : am_X P u n m mi) (hv : am_fvn P u n m mi) (h : ∀ r mi2, am_kp (am_FV n) mi mi2 → am_fvn P u n m mi2 → Q r r mi2 ml) : am_pr (d + 11) 134 [.ref 0, .int x, .int y] 231 [.ref 78, .int x, .int y] mi ml Q := by
  have hn := hX.2.1.1
  have hm5 := hX.2.1.2.1
  have h0 : ∀ r, Q r r mi ml := fun r => h r mi am_kp_r hv
  have ex0 : mi 1 1 = nI n := hX.2.1.2.2.1
  have ex5 : mi 1 2 = nI m := hX.2.1.2.2.2.1
  have em0 : mi 78 0 = nI n := hX.2.2.1.2.2.1
  have em5 : mi 78 5 = nI m := hX.2.2.1.2.2.2.1
  have badr : (x.toInt < 0 ∨ 5 ≤ x.toInt) → am_call (d + 11) 231 [.ref 78, .int x, .int y] mi ml (am_ri fun r2 mi2 ml2 => Q (-1) r2 mi2 ml2) := by
    intro g
    refine bk_231 (sp_171 (fun k hk e => ?_) (fun _ => am_ri_i (am_n0 (am_ri_i (h0 _)))))
    rw [e, am_ti (by omega)] at g
    omega
  have badc : ¬ y = -1 → (y.toInt < 0 ∨ m ≤ y.toInt) → am_call (d + 11) 231 [.ref 78, .int x, .int y] mi ml (am_ri fun r2 mi2 ml2 => Q (-1) r2 mi2 ml2) := by
    intro y1 g
    refine bk_231 (sp_171 (fun k hk e => am_ri_i (am_y ⟨fun z => absurd z y1, fun _ => sp_170 hX.2.2.1 (fun k2 hk2 e2 => ?_) (fun _ => am_ri_i (am_nn (am_ri_i (h0 _))))⟩)) (fun _ => am_ri_i (am_n0 (am_ri_i (h0 _)))))
    rw [e2, am_ti (by omega)] at g
    omega
  have none0 : ∀ r, r < 5 → x = nI r → (y = -1 ∨ ∃ c, c < m ∧ y = nI c) → (nI n = 0 ∨ nI m = 0) → am_call (d + 11) 231 [.ref 78, .int x, .int y] mi ml (am_ri fun r2 mi2 ml2 => Q (-2) r2 mi2 ml2) := by
    intro r hr er hy g
    have both : ((nI n = 0 → am_ri (fun r2 mi2 ml2 => Q (-2) r2 mi2 ml2) (some (.int (-2))) mi ml) ∧ (¬ nI n = 0 → ((nI m ≠ 0 → am_call (d + 10) 213 [.ref 78, .int x] mi ml (am_rv fun mi4 ml4 => am_wp (am_call (d + 10)) mt_231 (am_ri (fun r2 mi2 ml2 => Q (-2) r2 mi2 ml2)) 27 [some (.ref 78), none, some (.int y), some (.int (0 : Int32)), some (.int (1 : Int32)), none] [] mi4 ml4)) ∧ (¬ (nI m ≠ 0) → am_ri (fun r2 mi2 ml2 => Q (-2) r2 mi2 ml2) (some (.int (-2 : Int32))) mi ml)))) :=
      ⟨fun _ => am_ri_i (h0 _), fun z => ⟨fun z2 => absurd (g.resolve_left z) z2, fun _ => am_ri_i (h0 _)⟩⟩
    refine bk_231 (sp_171 (fun k hk e => am_ri_i (am_y ?_)) (fun g => ?_))
    · rw [em0, em5]
      refine ⟨fun _ => both, fun z => ?_⟩
      rcases hy with e | ⟨c, hc, e⟩
      · exact absurd e z
      · refine sp_170 hX.2.2.1 (fun _ _ _ => am_ri_i (am_yn ?_)) (fun g => ?_)
        · rw [em0, em5]
          exact both
        · rw [e, am_ti (by omega)] at g
          omega
    · rw [er, am_ti (by omega)] at g
      omega
  -- both
  have good : ∀ r, r < 5 → x = nI r → (y = -1 ∨ ∃ c, c < m ∧ y = nI c) → ((nI n = 0 → am_ri (fun r1 mi1 ml1 => am_call (d + 11) 231 [.ref 78, .int x, .int y] mi1 ml1 (am_ri fun r2 mi2 ml2 => Q r1 r2 mi2 ml2)) (some (.int (-2 : Int32))) mi ml) ∧ (¬ (nI n = 0) → ((nI m ≠ 0 → am_call (d + 10) 166 [.ref 0] mi ml (am_rr fun r2 mi2 ml2 => am_need (am_oc r2 == am_mk 53) (am_call (d + 10) 53 [.ref r2, .int x] mi2 ml2 (am_rv fun mi3 ml3 => ((y ≠ (-1 : Int32) → am_call (d + 10) 42 [.ref 22, .int y] mi3 ml3 (am_ri fun r4 mi4 ml4 => am_ri (fun r1 mi1 ml1 => am_call (d + 11) 231 [.ref 78, .int x, .int y] mi1 ml1 (am_ri fun r2 mi2 ml2 => Q r1 r2 mi2 ml2)) (some (.int r4)) mi4 ml4)) ∧ (¬ (y ≠ (-1 : Int32)) → am_call (d + 10) 41 [.ref 22] mi3 ml3 (am_ri fun r5 mi5 ml5 => am_ri (fun r1 mi1 ml1 => am_call (d + 11) 231 [.ref 78, .int x, .int y] mi1 ml1 (am_ri fun r2 mi2 ml2 => Q r1 r2 mi2 ml2)) (some (.int r5)) mi5 ml5))))))) ∧ (¬ (nI m ≠ 0) → am_ri (fun r1 mi1 ml1 => am_call (d + 11) 231 [.ref 78, .int x, .int y] mi1 ml1 (am_ri fun r2 mi2 ml2 => Q r1 r2 mi2 ml2)) (some (.int (-2 : Int32))) mi ml)))) := by
    intro r hr er hy
    refine ⟨fun z => am_ri_i (none0 r hr er hy (Or.inl z)), fun z => ⟨fun z2 => ?_, fun z2 => am_ri_i (none0 r hr er hy (Or.inr (Decidable.not_not.mp z2)))⟩⟩
    have hn0 : 0 < n := by
      have : ¬ n = 0 := fun q => z (by rw [q]; rfl)
      omega
    have hm0 : 0 < m := by
      have : ¬ m = 0 := fun q => z2 (by rw [q]; rfl)
      omega
    refine am_frs hX hv (fun m2 k2 hX2 f2 => am_rr_i (am_need_i rfl (sp_53 hr hX2 f2 hn0 hm0 er (fun m3 k3 s3 => am_rv_i ?_))))
    have hX3 := am_X_V hX2 (am_kV_53 k3)
    have f3 := am_fre_on hm5 f2 (fun c j q1 q2 => k3 c j (decide_eq_false (by omega)))
    have k23 := am_kp_t (am_kV_X (n := n) k2) (am_kV_53 k3)
    have fin : ∀ v, v = (if y = -1 then am_unf m (am_bga P u n m r) else am_bga P u n m r y.toNatClampNeg) → am_call (d + 11) 231 [.ref 78, .int x, .int y] m3 ml (am_ri fun r2 mi2 ml2 => Q v r2 mi2 ml2) := fun v ev => sp_231 hr hX3 hn0 hm0 er hy (fun m4 k4 e4 => am_ri_i (by
      rw [← ev]
      exact h v m4 (am_kp_t k23 k4) (am_fvn_i hX3 f3 e4)))
    refine ⟨fun w => ?_, fun w => sp_41 hX3.2.1 (am_ri_i (am_ri_i (fin _ ?_)))⟩
    · rcases hy with e | ⟨c, hc, e⟩
      · exact absurd e w
      · have cc : y.toNatClampNeg = c := by rw [e, nI_clamp (by omega)]
        refine bk_42 ⟨?_, am_ri_i (am_ri_i (fin _ ?_))⟩
        · rw [e]
          exact vp_in_nI (by omega) (by omega)
        · rw [if_neg w, cc, s3 c hc]
    · rw [if_pos (Decidable.not_not.mp w), am_unf_c (s := m3 45) (s2 := am_bga P u n m r) s3]
  refine bk_134 (sp_163 (fun r hr er => am_ri_i (am_y ?_)) (fun g => am_ri_i (am_n0 (am_ri_i (badr g)))))
  rw [ex0, ex5]
  refine ⟨fun w => good r hr er (Or.inl w), fun w => sp_1 hX.2.1 (fun c hc ec => am_ri_i (am_yn ?_)) (fun g => am_ri_i (am_nn (am_ri_i (badc w g))))⟩
  rw [ex0, ex5]
  exact good r hr er (Or.inr ⟨c, hc, ec⟩)
end SP55
