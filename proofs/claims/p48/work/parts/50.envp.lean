/-! who envies; pair: giving -/
def am_evi (m : Nat) (W : Nat → Nat → Int32) (c : Nat) (v : Int32) : Nat → Int32
  | 0 => v
  | o + 1 => if W c o ≤ W c c then am_evi m W c v o else am_evi m W c v o ||| am_shl 1 (nI c)
def am_evo (m : Nat) (W : Nat → Nat → Int32) : Nat → Int32
  | 0 => 0
  | c + 1 => am_evi m W c (am_evo m W c) m
theorem am_sto_c {own own2 e e2 : Nat → Int32} {x : Int32} {k : Nat} (h : ∀ i, i < k → own i = own2 i ∧ e i = e2 i) : am_sto own e x k = am_sto own2 e2 x k := am_sm_c k (fun j hj => by
  simp only [(h j hj).1, (h j hj).2])
section SP50
variable {d n m : Nat} {u : Nat → Nat → Int32} {mi : am_MI} {ml : am_ML} {R : am_R} {r : Nat} {P : List (List Nat × List Nat)} {Q : Int32 → Int32 → am_MI → am_ML → Prop}
/-- what o's doors are worth to c -/
def am_wwo (P : List (List Nat × List Nat)) (u : Nat → Nat → Int32) (n m r c o : Nat) : Int32 := am_sto (am_gvn P u n m r).1 (am_ge P u c) (nI o) n
/-- envyBy -/
theorem sp_45 {x : Int32} (hr : r < 5) (hc : am_cx n m u mi) (hf : am_fre P u n m mi) (hx : x = nI r) (h : R (some (.int (am_evo m (am_wwo P u n m r) m))) mi ml) : am_call (d + 2) 45 [.ref 22, .int x] mi ml R := by
  subst hx
  have hm5 := hc.2.1
  obtain ⟨a1, a2, -⟩ := am_k38 r hr
  refine bk_45 (am_for m (fun c => am_wp (am_call (d + 1)) mt_45 R 4 [some (.ref 22), some (.int (nI r)), some (.int (am_evo m (am_wwo P u n m r) c)), some (.int (nI c)), none] [] mi ml) ?_ (fun c hcm ih => ?_) 0 (Nat.zero_le _))
  · exact bk_45_4 (pk_le m m (fun _ => h) (fun w => absurd w (Nat.lt_irrefl _)) hc.2.2.2.1 rfl)
  · refine bk_45_4 (pk_le m c (fun w => absurd w (by omega)) (fun _ => ?_) hc.2.2.2.1 rfl)
    have own : mi (38 + r) c = am_wwo P u n m r c c := by
      rw [(hf.2.2.2.1 r hr).2 c hcm]
      exact am_gvn_s hm5 hcm
    refine am_for m (fun o => am_wp (am_call (d + 1)) mt_45 R 11 [some (.ref 22), some (.int (nI r)), some (.int (am_evi m (am_wwo P u n m r) c (am_evo m (am_wwo P u n m r) c) o)), some (.int (nI c)), some (.int (nI o))] [] mi ml) ?_ (fun o ho io => ?_) 0 (Nat.zero_le _)
    · refine bk_45_11 (pk_le m m (fun _ => ?_) (fun w => absurd w (Nat.lt_irrefl _)) hc.2.2.2.1 rfl)
      rw [nI_1]
      exact ih
    · refine bk_45_11 (pk_le m o (fun w => absurd w (by omega)) (fun _ => sp_46 hr hcm hc rfl rfl (am_ri_i ?_)) hc.2.2.2.1 rfl)
      have e : am_sto (mi (32 + r)) (mi (26 + c)) (nI o) n = am_wwo P u n m r c o := am_sto_c (fun i hi => ⟨(hf.2.2.2.1 r hr).1 i hi, hf.2.2.1 c i hcm hi⟩)
      have un : am_evi m (am_wwo P u n m r) c (am_evo m (am_wwo P u n m r) c) (o + 1) = if am_wwo P u n m r c o ≤ am_wwo P u n m r c c then am_evi m (am_wwo P u n m r) c (am_evo m (am_wwo P u n m r) c) o else am_evi m (am_wwo P u n m r) c (am_evo m (am_wwo P u n m r) c) o ||| am_shl 1 (nI c) := rfl
      rw [un] at io
      rw [nI_clamp (show r < 2 ^ 31 by omega), Nat.one_mul, am_len2 a1, a1, a2, nI_clamp (show c < 2 ^ 31 by omega), e, own, nI_1]
      refine ⟨vp_in_nI hr (by omega), am_need_i rfl ⟨vp_in_nI (by omega) (by omega), fun w => ?_, fun w => ?_⟩⟩
      · rw [if_pos w] at io
        exact io
      · rw [if_neg w] at io
        exact io
end SP50
