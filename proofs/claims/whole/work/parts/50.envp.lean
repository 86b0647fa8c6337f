/-! who envies; pair: giving -/
def am_evi (m : Nat) (W : Nat → Nat → Int32) (c : Nat) (v : Int32) : Nat → Int32
  | 0 => v
  | o + 1 => if W c o ≤ W c c then am_evi m W c v o else am_evi m W c v o ||| am_shl 1 (nI c)
def am_evo (m : Nat) (W : Nat → Nat → Int32) : Nat → Int32
  | 0 => 0
  | c + 1 => am_evi m W c (am_evo m W c) m
theorem am_sto_c {own own2 e e2 : Nat → Int32} {x : Int32} {k : Nat} (h : ∀ i, i < k → own i = own2 i ∧ e i = e2 i) : am_sto own e x k = am_sto own2 e2 x k := am_sm_c k (fun j hj => by
  simp only [(h j hj).1, (h j hj).2])
section SP50
variable {d n m : Nat} {u : Nat → Nat → Int32} {mi : am_MI} {ml : am_ML} {R : am_R} {r : Nat} {P : List (List Nat × List Nat)} {Q : Int32 → Int32 → am_MI → am_ML → Prop}
/-- what o's doors are worth to c -/
def am_wwo (P : List (List Nat × List Nat)) (u : Nat → Nat → Int32) (n m r c o : Nat) : Int32 := am_sto (am_gvn P u n m r).1 (am_ge P u c) (nI o) n
/-- envyBy -/
theorem sp_45 {x : Int32} (hr : r < 5) (hc : am_cx n m u mi) (hf : am_fre P u n m mi) (hx : x = nI r) (h : R (some (.int (am_evo m (am_wwo P u n m r) m))) mi ml) : am_call (d + 2) 45 [.ref 22, .int x] mi ml R := by
  subst hx
  have hm5 := hc.2.1
  obtain ⟨a1, a2, -⟩ := am_k38 r hr
  refine bk_45 (am_for m (fun c => am_wp (am_call (d + 1)) mt_45 R 4 [some (.ref 22), some (.int (nI r)), some (.int (am_evo m (am_wwo P u n m r) c)), some (.int (nI c)), none] [] mi ml) ?_ (fun c hcm ih => ?_) 0 (Nat.zero_le _))
  · exact bk_45_4 (pk_le m m (fun _ => h) (fun w => absurd w (Nat.lt_irrefl _)) hc.2.2.2.1 rfl)
  · refine bk_45_4 (pk_le m c (fun w => absurd w (by omega)) (fun _ => ?_) hc.2.2.2.1 rfl)
    have own : mi (38 + r) c = am_wwo P u n m r c c := by
      rw [(hf.2.2.2.1 r hr).2 c hcm]
      exact am_gvn_s hm5 hcm
    refine am_for m (fun o => am_wp (am_call (d + 1)) mt_45 R 11 [some (.ref 22), some (.int (nI r)), some (.int (am_evi m (am_wwo P u n m r) c (am_evo m (am_wwo P u n m r) c) o)), some (.int (nI c)), some (.int (nI o))] [] mi ml) ?_ (fun o ho io => ?_) 0 (Nat.zero_le _)
    · refine bk_45_11 (pk_le m m (fun _ => ?_) (fun w => absurd w (Nat.lt_irrefl _)) hc.2.2.2.1 rfl)
      rw [nI_1]
      exact ih
    · refine bk_45_11 (pk_le m o (fun w => absurd w (by omega)) (fun _ => sp_46 hr hcm hc rfl rfl (am_ri_i ?_)) hc.2.2.2.1 rfl)
      have e : am_sto (mi (32 + r)) (mi (26 + c)) (nI o) n = am_wwo P u n m r c o := am_sto_c (fun i hi => ⟨(hf.2.2.2.1 r hr).1 i hi, hf.2.2.1 c i hcm hi⟩)
      have un : am_evi m (am_wwo P u n m r) c (am_evo m (am_wwo P u n m r) c) (o + 1) = if am_wwo P u n m r c o ≤ am_wwo P u n m r c c then am_evi m (am_wwo P u n m r) c (am_evo m (am_wwo P u n m r) c) o else am_evi m (am_wwo P u n m r) c (am_evo m (am_wwo P u n m r) c) o ||| am_shl 1 (nI c) := rfl
      rw [un] at io
      rw [nI_clamp (show r < 2 ^ 31 by omega), Nat.one_mul, am_len2 a1, a1, a2, nI_clamp (show c < 2 ^ 31 by omega), e, own, nI_1]
      refine ⟨vp_in_nI hr (by omega), am_need_i rfl ⟨vp_in_nI (by omega) (by omega), fun w => ?_, fun w => ?_⟩⟩
      · rw [if_pos w] at io
        exact io
      · rw [if_neg w] at io
        exact io
/-- the reference's envy -/
theorem sp_218 (hl : am_lwr P mi) (hc : am_cm n m u mi) (hu : am_ur n m u) (ho : ∀ i, i < n → mi 110 i = (am_gvn P u n m r).1 i) (h : ∀ m2, am_kp am_F98b mi m2 → R (some (.int (am_evo m (am_wwo P u n m r) m))) m2 ml) : am_call (d + 6) 218 [.ref 78] mi ml R := by
  have hm5 := hc.2.1
  have w2 : ∀ m2, am_kp am_F98b mi m2 → ∀ c o, am_sto (m2 110) (am_ge P u c) (nI o) n = am_wwo P u n m r c o := fun m2 k2 c o => am_sto_c (fun i hi => ⟨(k2 110 i rfl).trans (ho i hi), rfl⟩)
  have outer : ∀ w c, c + w = m → ∀ m2, am_kp am_F98b mi m2 → am_wp (am_call (d + 5)) mt_218 R 4 [some (.ref 78), some (.int (am_evo m (am_wwo P u n m r) c)), some (.int (nI c)), none] [] m2 ml := by
    intro w
    induction w with
    | zero =>
      intro c e m2 k2
      have e : c = m := e
      subst e
      exact bk_218_4 (pk_le _ _ (fun _ => h m2 k2) (fun w => absurd w (Nat.lt_irrefl _)) (am_cm_kM hc k2).2.2.2.1 rfl)
    | succ w ih =>
      intro c e m2 k2
      have hcm : c < m := by omega
      refine bk_218_4 (pk_le m c (fun w => absurd w (by omega)) (fun _ => ?_) (am_cm_kM hc k2).2.2.2.1 rfl)
      have inner : ∀ v o, o + v = m → ∀ m3, am_kp am_F98b mi m3 → am_wp (am_call (d + 5)) mt_218 R 10 [some (.ref 78), some (.int (am_evi m (am_wwo P u n m r) c (am_evo m (am_wwo P u n m r) c) o)), some (.int (nI c)), some (.int (nI o))] [] m3 ml := by
        intro v
        induction v with
        | zero =>
          intro o eo m3 k3
          have eo : o = m := eo
          subst eo
          refine bk_218_10 (pk_le _ _ (fun _ => ?_) (fun w => absurd w (Nat.lt_irrefl _)) (am_cm_kM hc k3).2.2.2.1 rfl)
          rw [nI_1]
          exact ih (c + 1) (by omega) m3 k3
        | succ v iv =>
          intro o eo m3 k3
          have iv := iv (o + 1) (by omega)
          have un : am_evi m (am_wwo P u n m r) c (am_evo m (am_wwo P u n m r) c) (o + 1) = if am_wwo P u n m r c o ≤ am_wwo P u n m r c c then am_evi m (am_wwo P u n m r) c (am_evo m (am_wwo P u n m r) c) o else am_evi m (am_wwo P u n m r) c (am_evo m (am_wwo P u n m r) c) o ||| am_shl 1 (nI c) := rfl
          rw [un] at iv
          refine bk_218_10 (pk_le m o (fun w => absurd w (by omega)) (fun hom => ⟨fun w => ?_, fun w => sp_217 (am_lwr_kM hl k3) (am_cm_kM hc k3) hu hcm rfl (fun m4 k4 => am_ri_i (sp_217 (am_lwr_kM hl (am_kp_t k3 k4)) (am_cm_kM hc (am_kp_t k3 k4)) hu hcm rfl (fun m5 k5 => am_ri_i ?_)))⟩) (am_cm_kM hc k3).2.2.2.1 rfl)
          · have eoc : o = c := (nI_eq (by omega) (by omega)).mp w
            have z := iv m3 k3
            rw [if_pos (by rw [eoc]; exact Int32.le_refl _)] at z
            rw [nI_1]
            exact z
          · rw [w2 m3 k3, w2 m4 (am_kp_t k3 k4), nI_1]
            have z := iv m5 (am_kp_t k3 (am_kp_t k4 k5))
            refine ⟨fun w => ?_, fun w => ?_⟩
            · rw [if_pos w] at z
              exact z
            · rw [if_neg w] at z
              exact z
      exact inner m 0 (Nat.zero_add _) m2 k2
  exact bk_218 (outer m 0 (Nat.zero_add _) mi am_kp_r)
end SP50
