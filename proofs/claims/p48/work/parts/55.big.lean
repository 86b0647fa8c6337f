/-! pair: big -/
def am_bgs (u : Nat → Nat → Int32) : Nat → Nat
  | 0 => 0
  | k + 1 => if u 2 (k + 1) ≤ u 2 (am_bgs u k) then am_bgs u k else k + 1
theorem am_bgs_le (u : Nat → Nat → Int32) : ∀ k, am_bgs u k ≤ k
  | 0 => Nat.le_refl _
  | k + 1 => by
    have := am_bgs_le u k
    unfold am_bgs
    split
    · omega
    · omega
/-- what is one's, the biggest one's part, all then -/
def am_bgw (P : List (List Nat × List Nat)) (u : Nat → Nat → Int32) (n m r : Nat) : Nat → Int32 := upd (am_gvn P u n m r).1 (am_bgs u (n - 1)) (-2)
def am_bgp (u : Nat → Nat → Int32) (n m : Nat) : Int32 := u 2 (am_bgs u (n - 1)) / nI m
def am_bg0 (P : List (List Nat × List Nat)) (u : Nat → Nat → Int32) (n m r c : Nat) : Int32 := am_sto (am_bgw P u n m r) (am_ge P u c) (nI c) n
def am_bga (P : List (List Nat × List Nat)) (u : Nat → Nat → Int32) (n m r c : Nat) : Int32 := am_bg0 P u n m r c + am_ea P u c (am_bgs u (n - 1)) (am_bgp u n m)
theorem am_bgw_o {P : List (List Nat × List Nat)} {u : Nat → Nat → Int32} {n m r : Nat} : am_own n m (am_bgw P u n m r) := fun i hi => by
  unfold am_bgw upd
  split
  · exact Or.inr rfl
  · exact am_gvn_o i hi
theorem am_ea_u {P : List (List Nat × List Nat)} {u : Nat → Nat → Int32} {a b i : Nat} {y z : Int32} : am_ea P (am_uu u 2 i y) a b z = am_ea P u a b z := by
  have e : ∀ w j, ¬ w = 2 → am_uu u 2 i y w j = u w j := fun w j h => am_uu_n (fun q _ => h q)
  have e0 := e 0 b (by decide)
  have e1 := e 1 b (by decide)
  have e3 := e 3 a (by decide)
  have e4 := e 4 a (by decide)
  have e6 := e 6 a (by decide)
  have e7 := e 7 a (by decide)
  have e8 := e 8 0 (by decide)
  have e9 := e 9 0 (by decide)
  have enm : ∀ z x, am_nm (am_uu u 2 i y) a b z x = am_nm u a b z x := fun z x => by
    funext t
    unfold am_nm am_lik
    rw [e0, e1, e3, e4, e8]
  unfold am_ea am_wo am_lat am_lik am_nev am_aw
  simp only [e0, e1, e4, e6, e7, e9, enm]
section SP55
variable {d n m : Nat} {u : Nat → Nat → Int32} {mi : am_MI} {ml : am_ML} {R : am_R} {r : Nat} {P : List (List Nat × List Nat)} {Q : Int32 → Int32 → am_MI → am_ML → Prop}
theorem am_bgp_i (hu : am_ur n m u) (hn : 0 < n) (hm : 0 < m) (hm5 : m ≤ 5) : ∃ k, k ≤ 9 ∧ am_bgp u n m = nI k := by
  obtain ⟨k2, l2, h2, e2⟩ := hu 2 (am_bgs u (n - 1)) (am_vd (by omega) (by have := am_bgs_le u (n - 1); omega))
  have h2 : k2 ≤ 9 := h2
  unfold am_bgp
  rw [e2, pk_div (by omega) (by omega) (by omega)]
  exact ⟨k2 / m, by have := Nat.div_le_self k2 m; omega, rfl⟩
def am_F53 : Nat → Nat → Bool := fun c j => decide (c = 19 ∨ c = 21 ∨ (c = 15 ∧ j = 9) ∨ c = 44 ∨ c = 45)
theorem am_kV_53 {a b : am_MI} (h : am_kp am_F53 a b) : am_kp (am_FV n) a b := am_kp_w h (fun c j q => by
  have q := of_decide_eq_false q
  exact decide_eq_false (by omega))
/-- divideBig -/
theorem sp_53 {x : Int32} (hr : r < 5) (hX : am_X P u n m mi) (hf : am_fre P u n m mi) (hn0 : 0 < n) (hm0 : 0 < m) (hx : x = nI r) (h : ∀ m2, am_kp am_F53 mi m2 → (∀ c, c < m → m2 45 c = am_bga P u n m r c) → R none m2 ml) : am_call (d + 9) 53 [.ref 22, .int x] mi ml R := by
  subst hx
  have hc := hX.2.1
  have hn := hc.1
  have hm5 := hc.2.1
  obtain ⟨-, -, a1, a2, -⟩ := am_k38 r hr
  have lb := am_bgs_le u (n - 1)
  have cb : (nI (am_bgs u (n - 1))).toNatClampNeg = am_bgs u (n - 1) := nI_clamp (by omega)
  have vb : vp_in (nI (am_bgs u (n - 1))) 12 := vp_in_nI (by omega) (by omega)
  -- what each has more
  have more : ∀ B, am_kp am_F53 mi B → (∀ c, c < m → B 45 c = am_bg0 P u n m r c) → ∀ v k, k + v = m → ∀ m2, am_kp am_F53 mi m2 → (∀ c, c < k → m2 45 c = am_bga P u n m r c) → (∀ c, k ≤ c → c < m → m2 45 c = am_bg0 P u n m r c) → am_wp (am_call (d + 8)) mt_53 R 61 [some (.ref 22), none, some (.int (nI (am_bgs u (n - 1)))), some (.int (nI m)), some (.int (am_bgp u n m)), some (.int (nI k))] [] m2 ml := by
    intro B kB hB v
    induction v with
    | zero =>
      intro k ek m2 k2 h1 h2
      have ek : k = m := ek
      subst ek
      exact bk_53_61 (pk_le _ _ (fun _ => h m2 k2 h1) (fun q => absurd q (Nat.lt_irrefl _)) rfl rfl)
    | succ v ih =>
      intro k ek m2 k2 h1 h2
      have hk : k < m := by omega
      have ih := ih (k + 1) (by omega)
      have hX2 := am_X_V hX (am_kV_53 k2)
      have vk : vp_in (nI k) 5 := vp_in_nI (by omega) (by omega)
      refine bk_53_61 (pk_le m k (fun q => absurd q (by omega)) (fun _ => ⟨vk, sp_117 hX2.1 hX2.2.1 hX2.2.2.2 hk (show am_bgs u (n - 1) < n by omega) rfl rfl (fun m3 k3 => am_ri_i ⟨vk, ?_⟩)⟩) rfl rfl)
      rw [nI_clamp (show k < 2 ^ 31 by omega), nI_1]
      have k3' : am_kp am_F53 mi m3 := am_kp_t k2 (am_kp_w k3 (fun c j q => by
        have q := of_decide_eq_false q
        exact decide_eq_false (by omega)))
      refine ih _ (am_kp_u k3' rfl) (fun c hc2 => ?_) (fun c hc1 hc2 => ?_)
      · by_cases ec : c = k
        · rw [ec, am_ui_k, h2 k (Nat.le_refl _) hk]
          rfl
        · rw [am_ui_n (fun _ z => ec z), k3 45 c rfl]
          exact h1 c (by omega)
      · rw [am_ui_n (fun _ z => by omega), k3 45 c rfl]
        exact h2 c (by omega) hc2
  have loop : ∀ v k, k + 1 + v = n → am_wp (am_call (d + 8)) mt_53 R 4 [some (.ref 22), some (.int (nI r)), some (.int (nI (am_bgs u k))), some (.int (nI (k + 1))), none, none] [] mi ml := by
    intro v
    induction v with
    | zero =>
      intro k ek
      have ek : k = n - 1 := by omega
      subst ek
      refine bk_53_4 (pk_le n (n - 1 + 1) (fun _ => ?_) (fun q => absurd q (by omega)) hc.2.2.1 rfl)
      rw [nI_clamp (show r < 2 ^ 31 by omega), Nat.one_mul, a1, a2]
      refine ⟨vp_in_nI hr (by omega), by decide, by decide, by decide, by decide, by decide, ?_⟩
      show vp_in _ 12 ∧ am_call (d + 8) 52 [.ref 22] (am_ui (am_ci mi (32 + r) 0 44 0 12) 44 (nI (am_bgs u (n - 1))).toNatClampNeg (-2)) ml _
      rw [cb]
      have k2 : am_kp am_F53 mi (am_ui (am_ci mi (32 + r) 0 44 0 12) 44 (am_bgs u (n - 1)) (-2)) := am_kp_u (fun c j q => by
        have q := of_decide_eq_false q
        unfold am_ci
        rw [if_neg (fun z => by omega)]) rfl
      have hw : ∀ i, i < n → am_ui (am_ci mi (32 + r) 0 44 0 12) 44 (am_bgs u (n - 1)) (-2) 44 i = am_bgw P u n m r i := fun i hi => by
        rw [am_upd_f]
        unfold am_bgw upd
        by_cases ei : i = am_bgs u (n - 1)
        · rw [if_pos ei, if_pos ei]
        · rw [if_neg ei, if_neg ei]
          unfold am_ci
          rw [if_pos ⟨rfl, Nat.zero_le _, by omega⟩, Nat.sub_zero, Nat.zero_add]
          exact (hf.2.2.2.1 r hr).1 i hi
      generalize am_ui (am_ci mi (32 + r) 0 44 0 12) 44 (am_bgs u (n - 1)) (-2) = M at k2 hw
      refine ⟨vb, sp_52 (e := am_ge P u) (am_cx_on hc (k2 1 1 rfl) (k2 1 2 rfl) (fun w i hw => k2 _ _ (decide_eq_false (by omega)))) (fun c i hc2 hi => (k2 _ _ (decide_eq_false (by omega))).trans (hf.2.2.1 c i hc2 hi)) hw am_bgw_o (fun m3 k3 s3 => am_rv_i ?_)⟩
      have k3' : am_kp am_F53 mi m3 := am_kp_t k2 (am_kp_w k3 (fun c j q => by
        have q := of_decide_eq_false q
        exact decide_eq_false (by omega)))
      have hX3 := am_X_V hX (am_kV_53 k3')
      have em : m3 1 2 = nI m := hX3.2.1.2.2.2.1
      rw [em]
      refine pk_le m 0 (fun z => absurd z (by omega)) (fun _ => sp_4c hX3.2.1 (w := 2) rfl rfl (am_vd (by omega) (show am_bgs u (n - 1) < n by omega)) (am_ri_i ⟨fun z => ?_, bk_53_58 ?_⟩)) rfl rfl
      · have := (nI_eq (a := m) (b := 0) (by omega) (by omega)).mp z
        omega
      · exact more m3 k3' s3 m 0 (Nat.zero_add _) m3 k3' (fun c hc2 => absurd hc2 (Nat.not_lt_zero _)) (fun c _ hc2 => s3 c hc2)
    | succ v ih =>
      intro k ek
      have ih := ih (k + 1) (by omega)
      have lk := am_bgs_le u k
      have un : am_bgs u (k + 1) = if u 2 (k + 1) ≤ u 2 (am_bgs u k) then am_bgs u k else k + 1 := rfl
      rw [un] at ih
      refine bk_53_4 (pk_le n (k + 1) (fun q => absurd q (by omega)) (fun _ => sp_4c hc (w := 2) rfl rfl (am_vd (by omega) (show k + 1 < n by omega)) (am_ri_i (sp_4c hc (w := 2) rfl rfl (am_vd (by omega) (show am_bgs u k < n by omega)) (am_ri_i ⟨fun q => bk_53_22 ?_, fun q => bk_53_22 ?_⟩)))) hc.2.2.1 rfl)
      · rw [if_pos q] at ih
        rw [nI_1]
        exact ih
      · rw [if_neg q] at ih
        rw [nI_1]
        exact ih
  exact bk_53 (loop (n - 1) 0 (by omega))
def am_F66b (b : Nat) : Nat → Nat → Bool := fun c j => decide (c = 98 ∨ c = 99 ∨ c = 111 ∨ (c = 81 ∧ j = b))
end SP55
