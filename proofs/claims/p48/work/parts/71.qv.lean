/-! the questions: what each call answers of a calendar, a law, and that it changes nothing that is asked for -/
/-- the object as it is asked: law P, n doors, m children, their numbers u -/
def dq_Q (P : List (List Nat × List Nat)) (u : Nat → Nat → Int32) (n m : Nat) (mi : am_MI) : Prop := am_X P u n m mi ∧ am_sta mi ∧ am_txs mi ∧ am_fvn P u n m mi ∧ am_fvi P u n m mi
/-- what is only worked with, the givings kept -/
def dq_FT : Nat → Nat → Bool := fun c j => decide (c = 19 ∨ c = 21 ∨ (c = 15 ∧ j = 9) ∨ (c = 22 ∧ j = 12) ∨ (43 ≤ c ∧ c ≤ 46))
def dq_K (P : List (List Nat × List Nat)) (u : Nat → Nat → Int32) (n m : Nat) (R : am_R) (mi : am_MI) (ml : am_ML) (v : Int32) : Prop := ∀ m2, am_kp (am_FZ n) mi m2 → dq_Q P u n m m2 → R (some (.int v)) m2 ml
section SP71
variable {d n m r c i : Nat} {u : Nat → Nat → Int32} {mi : am_MI} {ml : am_ML} {R : am_R} {P : List (List Nat × List Nat)}
theorem dq_Z {a j : Nat} (h : 58 ≤ a) (h2 : a < 79) : am_FZ n a j = false := by
  unfold am_FZ am_FV am_Ffo
  rw [decide_eq_false (by omega), decide_eq_false (by omega)]
  rfl
theorem dq_Z1 {a j : Nat} (h : a < 19) (h2 : a = 15 → ¬ j = 9) : am_FZ n a j = false := by
  unfold am_FZ am_FV am_Ffo
  rw [decide_eq_false (by omega), decide_eq_false (by omega)]
  rfl
theorem dq_Z2 {a j : Nat} (h : 114 ≤ a) : am_FZ n a j = false := by
  unfold am_FZ am_FV am_Ffo
  rw [decide_eq_false (by omega), decide_eq_false (by omega)]
  rfl
theorem dq_Q_r (hq : dq_Q P u n m mi) : am_kp (am_FZ n) mi mi ∧ dq_Q P u n m mi := ⟨am_kp_r, hq⟩
theorem dq_Q_m {a b : am_MI} (hq : dq_Q P u n m a) (k : am_kp (am_FZ n) a b) (hX : am_X P u n m b) (f : am_fvn P u n m b) (w : am_fvi P u n m b) : dq_Q P u n m b :=
  ⟨hX, am_sta_on hq.2.1 (fun c j h => k c j (dq_Z2 h)), am_txs_on hq.2.2.1 (fun c j h _ => k c j (dq_Z2 (by omega))), f, w⟩
theorem dq_TV {a b : am_MI} (h : am_kp dq_FT a b) : am_kp (am_FV n) a b := am_kp_w h (fun c j q => by
  have q := of_decide_eq_false q
  exact decide_eq_false (by omega))
theorem dq_T_s {a b : am_MI} (k : am_kp dq_FT a b) : am_sfr a b := fun c j q1 q2 => k c j (decide_eq_false (by omega))
/-- freshened, then worked with -/
theorem dq_i {a b : am_MI} (hq : dq_Q P u n m mi) (k1 : am_kp am_FX mi a) (f : am_fre P u n m a) (k2 : am_kp dq_FT a b) : am_kp (am_FZ n) mi b ∧ dq_Q P u n m b := by
  have kV : am_kp (am_FV n) mi b := am_kp_t (am_kV_X k1) (dq_TV k2)
  have hXa := am_X_V hq.1 (am_kV_X (n := n) k1)
  exact ⟨am_kZ_V kV, dq_Q_m hq (am_kZ_V kV) (am_X_V hq.1 kV) (am_fvn_i hXa f (dq_T_s k2)) (am_fvi_V hq.2.2.2.2 kV)⟩
theorem dq_k {a b : am_MI} {v : Int32} (hq : dq_Q P u n m mi) (h : dq_K P u n m R mi ml v) (k1 : am_kp am_FX mi a) (f : am_fre P u n m a) (k2 : am_kp dq_FT a b) : R (some (.int v)) b ml := h b (dq_i hq k1 f k2).1 (dq_i hq k1 f k2).2
theorem dq_kT {a b c : am_MI} (h1 : am_kp dq_FT a b) (h2 : am_kp dq_FT b c) : am_kp dq_FT a c := am_kp_t h1 h2
theorem dq_T44 {a b : am_MI} (h : am_kp (fun c _ => decide (c = 44)) a b) : am_kp dq_FT a b := am_kp_w h (fun c j q => by
  have q := of_decide_eq_false q
  exact decide_eq_false (by omega))
theorem dq_T45 {a b : am_MI} (h : am_kp am_F45 a b) : am_kp dq_FT a b := am_kp_w h (fun c j q => by
  have q := of_decide_eq_false q
  exact decide_eq_false (by omega))
theorem dq_T4445 {a b : am_MI} (h : am_kp am_F4445 a b) : am_kp dq_FT a b := am_kp_w h (fun c j q => by
  have q := of_decide_eq_false q
  exact decide_eq_false (by omega))
theorem dq_T53 {a b : am_MI} (h : am_kp am_F53 a b) : am_kp dq_FT a b := am_kp_w h (fun c j q => by
  have q := of_decide_eq_false q
  exact decide_eq_false (by omega))
theorem dq_T57 {a b : am_MI} (h : am_kp am_F57 a b) : am_kp dq_FT a b := am_kp_w h (fun c j q => by
  have q := of_decide_eq_false q
  exact decide_eq_false (by omega))
theorem dq_T60 {a b : am_MI} (h : am_kp am_F60 a b) : am_kp dq_FT a b := am_kp_w h (fun c j q => by
  have q := of_decide_eq_false q
  exact decide_eq_false (by omega))
theorem dq_TW {a b : am_MI} (h : am_kp am_FW a b) : am_kp dq_FT a b := am_kp_w h (fun c j q => by
  have q := of_decide_eq_false q
  exact decide_eq_false (by omega))
theorem dq_fr (hq : dq_Q P u n m mi) (h : ∀ m2, am_kp am_FX mi m2 → am_X P u n m m2 → am_fre P u n m m2 → R (some (.ref 22)) m2 ml) : am_call (d + 10) 166 [.ref 0] mi ml R := am_frs hq.1 hq.2.2.2.1 h
theorem dq_163 {x : Int32} (hr : r < 5) (hx : x = nI r) (h : R (some (.int 1)) mi ml) : am_call (d + 1) 163 [.int x] mi ml R :=
  sp_163 (fun _ _ _ => h) (fun g => by rw [hx, am_ti (by omega)] at g; omega)
theorem dq_0 {x : Int32} (hc : am_cx n m u mi) (hi : i < n) (hx : x = nI i) (h : R (some (.int 1)) mi ml) : am_call (d + 1) 0 [.ref 1, .int x] mi ml R :=
  sp_0 hc (fun _ _ _ => h) (fun g => by have := hc.1; rw [hx, am_ti (by omega)] at g; omega)
theorem dq_1 {x : Int32} (hc : am_cx n m u mi) (hi : i < m) (hx : x = nI i) (h : R (some (.int 1)) mi ml) : am_call (d + 1) 1 [.ref 1, .int x] mi ml R :=
  sp_1 hc (fun _ _ _ => h) (fun g => by have := hc.2.1; rw [hx, am_ti (by omega)] at g; omega)
theorem dq_164 {x : Int32} (hc : am_cx n m u mi) (hr : r < 5) (hi : c < m) (hx : x = nI (10 * r + c)) (h : R (some (.int 1)) mi ml) : am_call (d + 2) 164 [.ref 0, .int x] mi ml R :=
  sp_164 hc (fun _ _ _ _ _ => h) (fun g => (g r c hr hi hx).elim)
theorem dq_rd {i : Nat} (hr : r < 1000) (hi : i < 100) : nI (100 * r + i) / 100 = nI r ∧ am_rem (nI (100 * r + i)) 100 = nI i := by
  refine ⟨?_, ?_⟩
  · rw [show (100 : Int32) = nI 100 from rfl, pk_div (by omega) (by omega) (by omega)]
    congr 1
    omega
  · unfold am_rem
    rw [show (100 : Int32) = nI 100 from rfl, pk_rem (by omega) (by omega) (by omega)]
    congr 1
    omega
theorem dq_p {k : Nat} (h : k < 2 ^ 31) : ¬ nI k < 0 := nI_pos h
theorem dq_n100 : ¬ (100 : Int32) = 0 := by decide
theorem dq_n10 : ¬ (10 : Int32) = 0 := by decide
/-- whose -/
theorem dq_126 {x : Int32} (hq : dq_Q P u n m mi) (hr : r < 5) (hi : i < n) (hx : x = nI (100 * r + i)) (h : dq_K P u n m R mi ml ((am_gvn P u n m r).1 i)) : am_call (d + 11) 126 [.ref 0, .int x] mi ml R := by
  have hn := hq.1.2.1.1
  obtain ⟨e1, e2⟩ := dq_rd (r := r) (i := i) (by omega) (by omega)
  subst hx
  refine bk_126 ⟨fun w => absurd w (dq_p (by omega)), fun _ => ⟨dq_n100, dq_163 hr e1 (am_ri_i (am_y ⟨dq_n100, dq_0 hq.1.2.1 hi e2 (am_ri_i (am_yn (dq_fr hq (fun m2 k2 X2 f2 => am_rr_i ⟨dq_n100, dq_n100, am_need_i rfl (sp_38 hr (by omega) e1 e2 (am_ri_i ?_))⟩))))⟩))⟩⟩
  rw [(f2.2.2.2.1 r hr).1 i hi]
  exact dq_k hq h k2 f2 am_kp_r
/-- all -/
theorem dq_127 {x : Int32} (hq : dq_Q P u n m mi) (hr : r < 5) (hi : c < m) (hx : x = nI (10 * r + c)) (h : dq_K P u n m R mi ml ((am_gvn P u n m r).2 c)) : am_call (d + 11) 127 [.ref 0, .int x] mi ml R := by
  have hm := hq.1.2.1.2.1
  obtain ⟨e1, e2⟩ := am_rc (r := r) (c := c) hr (by omega)
  subst hx
  refine bk_127 (dq_164 hq.1.2.1 hr hi rfl (am_ri_i (am_y (dq_fr hq (fun m2 k2 X2 f2 => am_rr_i ⟨dq_n10, dq_n10, am_need_i rfl (sp_39 hr (by omega) e1 e2 (am_ri_i ?_))⟩)))))
  rw [(f2.2.2.2.1 r hr).2 c hi]
  exact dq_k hq h k2 f2 am_kp_r
/-- giving -/
theorem dq_128 {x y : Int32} {t : Nat} (hq : dq_Q P u n m mi) (hr : r < 5) (hx : x = nI r) (hy : y = nI t) (ht : t < 3) (h : dq_K P u n m R mi ml (if t = 0 then am_ufr P u n m r else if t = 1 then am_tgr P u n m r else am_evo m (am_wwo P u n m r) m)) : am_call (d + 11) 128 [.ref 0, .int x, .int y] mi ml R := by
  refine bk_128 (dq_163 hr hx (am_ri_i (am_yn ⟨fun w => ?_, fun w0 => ⟨fun w => ?_, fun w1 => ⟨fun w => ?_, fun w2 => ?_⟩⟩⟩)))
  · have e : t = 0 := by rw [hy] at w; exact (nI_eq (b := 0) (by omega) (by omega)).mp w
    rw [if_pos e] at h
    exact dq_fr hq (fun m2 k2 X2 f2 => am_rr_i (am_need_i rfl (sp_40f hr X2.2.1 f2 hx (am_ri_i (id (dq_k hq h k2 f2 am_kp_r))))))
  · have e : t = 1 := by rw [hy] at w; exact (nI_eq (b := 1) (by omega) (by omega)).mp w
    rw [if_neg (by omega), if_pos e] at h
    exact dq_fr hq (fun m2 k2 X2 f2 => am_rr_i (am_need_i rfl (sp_44f hr X2.2.1 f2 hx (am_ri_i (id (dq_k hq h k2 f2 am_kp_r))))))
  · have e : t = 2 := by rw [hy] at w; exact (nI_eq (b := 2) (by omega) (by omega)).mp w
    rw [if_neg (by omega), if_neg (by omega)] at h
    exact dq_fr hq (fun m2 k2 X2 f2 => am_rr_i (am_need_i rfl (sp_45 hr X2.2.1 f2 hx (am_ri_i (id (dq_k hq h k2 f2 am_kp_r))))))
  · exfalso
    have n0 : ¬ t = 0 := fun e => w0 (by rw [hy, e]; rfl)
    have n1 : ¬ t = 1 := fun e => w1 (by rw [hy, e]; rfl)
    have n2 : ¬ t = 2 := fun e => w2 (by rw [hy, e]; rfl)
    omega
def dq_brl (P : List (List Nat × List Nat)) (u : Nat → Nat → Int32) (n m : Nat) : Nat := am_brl (am_ufr P u n m) (am_tgr P u n m) 4
theorem dq_brl_lt : dq_brl P u n m < 5 := by
  have := am_brl_le (am_ufr P u n m) (am_tgr P u n m) 4
  unfold dq_brl
  omega
/-- bestRule: it; how unfair -/
theorem dq_129a (hq : dq_Q P u n m mi) (h : dq_K P u n m R mi ml (nI (dq_brl P u n m))) : am_call (d + 11) 129 [.ref 0, .int 0] mi ml R :=
  bk_129 ⟨fun _ => dq_fr hq (fun m2 k2 X2 f2 => am_rr_i (am_need_i rfl (sp_47 X2 f2 (am_ri_i (am_nn (dq_k hq h k2 f2 am_kp_r)))))), fun w => absurd rfl w⟩
theorem dq_129b (hq : dq_Q P u n m mi) (h : dq_K P u n m R mi ml (am_ufr P u n m (dq_brl P u n m))) : am_call (d + 11) 129 [.ref 0, .int 1] mi ml R :=
  bk_129 ⟨fun w => absurd w (by decide), fun _ => ⟨fun _ => dq_fr hq (fun m2 k2 X2 f2 => am_rr_i (am_need_i rfl (sp_47 X2 f2 (am_ri_i (am_yn (sp_40f (r := dq_brl P u n m) dq_brl_lt X2.2.1 f2 rfl (am_ri_i (id (dq_k hq h k2 f2 am_kp_r))))))))), fun w => absurd rfl w⟩⟩
/-- swap -/
def dq_swp (P : List (List Nat × List Nat)) (u : Nat → Nat → Int32) (n m r : Nat) : Option (Nat × Nat) := am_fsi (am_pls (am_ge P u) (am_gvn P u n m r).1) n 0 n
theorem dq_132 {x : Int32} (hq : dq_Q P u n m mi) (hr : r < 5) (hx : x = nI r) (h : dq_K P u n m R mi ml (am_enc (dq_swp P u n m r))) : am_call (d + 11) 132 [.ref 0, .int x] mi ml R :=
  bk_132 (dq_163 hr hx (am_ri_i (am_y (dq_fr hq (fun m2 k2 X2 f2 => am_rr_i (am_need_i rfl (sp_48 hr X2.2.1 f2 am_gvn_2 hx (fun m3 k3 _ => am_ri_i (id (dq_k hq h k2 f2 (dq_T44 k3)))))))))))
/-- swaps -/
def dq_sws (P : List (List Nat × List Nat)) (u : Nat → Nat → Int32) (n m r : Nat) : Nat × (Nat → Int32) := am_swl (am_ge P u) n 50 (am_gvn P u n m r).1
def dq_swu (P : List (List Nat × List Nat)) (u : Nat → Nat → Int32) (n m r : Nat) : Int32 := am_unf m (fun c => am_sto (dq_sws P u n m r).2 (am_ge P u c) (nI c) n)
theorem dq_51 {x : Int32} (hr : r < 5) (hc : am_cx n m u mi) (hf : am_fre P u n m mi) (hx : x = nI r) (h : ∀ m3, am_kp am_F4445 mi m3 → (∀ c, c < m → m3 45 c = am_sto (dq_sws P u n m r).2 (am_ge P u c) (nI c) n) → R (some (.int (nI (dq_sws P u n m r).1))) m3 ml) : am_call (d + 5) 51 [.ref 22, .int x] mi ml R := by
  refine bk_51 (sp_48 hr hc hf am_gvn_2 hx (fun m2 k2 w2 => am_ri_i ?_))
  refine sp_51l hc (fun c i hc2 hi => hf.2.2.1 c i hc2 hi) 50 0 rfl (am_gvn P u n m r).1 _ m2 (am_kp_w k2 (fun c j q => by
    have q := of_decide_eq_false q
    exact decide_eq_false (by omega))) w2 am_gvn_2 rfl (fun m3 k3 e3 => ?_)
  rw [Nat.zero_add]
  exact h m3 k3 e3
theorem dq_133a {x : Int32} (hq : dq_Q P u n m mi) (hr : r < 5) (hx : x = nI r) (h : dq_K P u n m R mi ml (nI (dq_sws P u n m r).1)) : am_call (d + 11) 133 [.ref 0, .int x, .int 0] mi ml R :=
  bk_133 (dq_163 hr hx (am_ri_i (am_y ⟨fun _ => dq_fr hq (fun m2 k2 X2 f2 => am_rr_i (am_need_i rfl (dq_51 hr X2.2.1 f2 hx (fun m3 k3 _ => am_ri_i (am_nn (dq_k hq h k2 f2 (dq_T4445 k3))))))), fun w => absurd rfl w⟩)))
theorem dq_133b {x : Int32} (hq : dq_Q P u n m mi) (hr : r < 5) (hx : x = nI r) (h : dq_K P u n m R mi ml (dq_swu P u n m r)) : am_call (d + 11) 133 [.ref 0, .int x, .int 1] mi ml R := by
  refine bk_133 (dq_163 hr hx (am_ri_i (am_y ⟨fun w => absurd w (by decide), fun _ => ⟨fun _ => dq_fr hq (fun m2 k2 X2 f2 => am_rr_i (am_need_i rfl (dq_51 hr X2.2.1 f2 hx (fun m3 k3 e3 => am_ri_i (am_yn (sp_41 (am_X_V X2 (dq_TV (n := n) (dq_T4445 k3))).2.1 (am_ri_i ?_))))))), fun w => absurd rfl w⟩⟩)))
  rw [am_unf_c e3]
  exact dq_k hq h k2 f2 (dq_T4445 k3)
/-- big -/
theorem dq_134 {x : Int32} (hq : dq_Q P u n m mi) (hr : r < 5) (hx : x = nI r) (h : dq_K P u n m R mi ml (if n = 0 ∨ m = 0 then -2 else am_unf m (am_bga P u n m r))) : am_call (d + 11) 134 [.ref 0, .int x, .int (-1)] mi ml R := by
  have en : mi 1 1 = nI n := hq.1.2.1.2.2.1
  have em : mi 1 2 = nI m := hq.1.2.1.2.2.2.1
  have hn := hq.1.2.1.1
  have hm := hq.1.2.1.2.1
  refine bk_134 (dq_163 hr hx (am_ri_i (am_y ⟨fun _ => ?_, fun w => absurd rfl w⟩)))
  rw [en, em]
  refine ⟨fun w => ?_, fun w => ⟨fun w2 => dq_fr hq (fun m2 k2 X2 f2 => am_rr_i (am_need_i rfl (sp_53 hr X2 f2 ?_ ?_ hx (fun m3 k3 e3 => am_rv_i ⟨fun w => absurd rfl w, fun _ => sp_41 (am_X_V X2 (dq_TV (n := n) (dq_T53 k3))).2.1 (am_ri_i ?_)⟩)))), fun w2 => ?_⟩⟩
  · have e : n = 0 := (nI_eq (b := 0) (by omega) (by omega)).mp w
    rw [if_pos (Or.inl e)] at h
    exact h mi am_kp_r hq
  · refine Nat.pos_of_ne_zero (fun e => w (by rw [e]; rfl))
  · refine Nat.pos_of_ne_zero (fun e => w2 (by rw [e]; rfl))
  · have e1 : ¬ n = 0 := fun e => w (by rw [e]; rfl)
    have e2 : ¬ m = 0 := fun e => w2 (by rw [e]; rfl)
    rw [if_neg (by omega)] at h
    rw [am_unf_c e3]
    exact dq_k hq h k2 f2 (dq_T53 k3)
  · have e : m = 0 := (nI_eq (b := 0) (by omega) (by omega)).mp (Decidable.not_not.mp w2)
    rw [if_pos (Or.inr e)] at h
    exact h mi am_kp_r hq
/-- away: never eaten; days late -/
def dq_aw (P : List (List Nat × List Nat)) (u : Nat → Nat → Int32) (n m r c t : Nat) : Int32 := am_sm (am_awF (am_gvn P u n m r).1 u c t) n
theorem dq_135 {x y : Int32} {t : Nat} (hq : dq_Q P u n m mi) (hr : r < 5) (hi : c < m) (hx : x = nI (10 * r + c)) (ht : t = 1 ∨ t = 2) (hy : y = nI t) (h : dq_K P u n m R mi ml (dq_aw P u n m r c t)) : am_call (d + 11) 135 [.ref 0, .int x, .int y] mi ml R := by
  have hm := hq.1.2.1.2.1
  obtain ⟨e1, e2⟩ := am_rc (r := r) (c := c) hr (by omega)
  subst hx
  have y0 : ¬ y = 0 := fun w => by
    rw [hy] at w
    have := (nI_eq (b := 0) (by omega) (by omega)).mp w
    omega
  refine bk_135 (dq_164 hq.1.2.1 hr hi rfl (am_ri_i (am_yn ⟨fun w => absurd w y0, fun _ => ⟨fun w => ?_, fun w => ⟨fun w2 => ?_, fun w2 => ?_⟩⟩⟩)))
  · have e : t = 1 := by rw [hy] at w; exact (nI_eq (b := 1) (by omega) (by omega)).mp w
    subst e
    exact dq_fr hq (fun m2 k2 X2 f2 => am_rr_i ⟨dq_n10, dq_n10, am_need_i rfl (sp_54 (own := (am_gvn P u n m r).1) hr X2.2.1 X2.2.2.2 (f2.2.2.2.1 r hr).1 hi e1 e2 (am_ri_i (id (dq_k hq h k2 f2 am_kp_r))))⟩)
  · have e : t = 2 := by rw [hy] at w2; exact (nI_eq (b := 2) (by omega) (by omega)).mp w2
    subst e
    exact dq_fr hq (fun m2 k2 X2 f2 => am_rr_i ⟨dq_n10, dq_n10, am_need_i rfl (sp_55 (own := (am_gvn P u n m r).1) hr X2.2.1 X2.2.2.2 (f2.2.2.2.1 r hr).1 hi e1 e2 (am_ri_i (id (dq_k hq h k2 f2 am_kp_r))))⟩)
  · exfalso
    rcases ht with e | e
    · exact w (by rw [hy, e]; rfl)
    · exact w2 (by rw [hy, e]; rfl)
/-- gather: the best; by g -/
def dq_gsm (P : List (List Nat × List Nat)) (u : Nat → Nat → Int32) (n m r c : Nat) : Nat → Int32 := am_gsm P u c (am_gN P u n m r c) (am_gM P u n m r c)
def dq_gb (P : List (List Nat × List Nat)) (u : Nat → Nat → Int32) (n m r c : Nat) : Nat := am_gbt (dq_gsm P u n m r c) 8
theorem dq_mn (p : Nat → Bool) (o : Nat → Nat) (hn : ∀ k, k < n → o k < n) : ∀ k, k ≤ n → (am_mn p o k).1 ≤ k ∧ ∀ j, j < (am_mn p o k).1 → (am_mn p o k).2 j < n
  | 0, _ => ⟨Nat.le_refl _, fun j hj => absurd hj (Nat.not_lt_zero _)⟩
  | k + 1, hk => by
    obtain ⟨z1, z2⟩ := dq_mn p o hn k (by omega)
    unfold am_mn
    by_cases g : p k = true
    · rw [if_pos g]
      refine ⟨by show (am_mn p o k).1 + 1 ≤ k + 1; omega, fun j hj => ?_⟩
      have hj : j < (am_mn p o k).1 + 1 := hj
      show am_un (am_mn p o k).2 (am_mn p o k).1 (o k) j < n
      by_cases e : j = (am_mn p o k).1
      · rw [e, am_un_k]
        exact hn k (by omega)
      · rw [am_un_n e]
        exact z2 j (by omega)
    · rw [if_neg g]
      exact ⟨by omega, z2⟩
theorem dq_136 {x y : Int32} {g : Nat} (hq : dq_Q P u n m mi) (hr : r < 5) (hi : c < m) (hx : x = nI (10 * r + c)) (hg : g ≤ 9) (hy : y = nI g) (h : dq_K P u n m R mi ml (if g = 0 then nI (dq_gb P u n m r c) else dq_gsm P u n m r c g)) : am_call (d + 11) 136 [.ref 0, .int x, .int y] mi ml R := by
  have hm := hq.1.2.1.2.1
  have hn := hq.1.2.1.1
  obtain ⟨e1, e2⟩ := am_rc (r := r) (c := c) hr (by omega)
  subst hx
  obtain ⟨g1, g2⟩ := dq_mn (n := n) (am_gp P u n m r c) (am_god u 0 n) (fun k hk => am_god_lt k hk) n (Nat.le_refl _)
  refine bk_136 (dq_164 hq.1.2.1 hr hi rfl (am_ri_i (am_y ⟨fun w => absurd w (by rw [hy]; exact dq_p (by omega)), fun _ => ⟨fun _ => dq_fr hq (fun m2 k2 X2 f2 => am_rr_i ⟨dq_n10, dq_n10, am_need_i rfl (sp_57 hr X2.2.1 f2 hi e1 e2 (fun m3 k3 e12 e46 => am_rv_i ⟨fun w => ⟨dq_n10, ?_⟩, fun w => ⟨dq_n10, ?_⟩⟩))⟩), fun w => absurd ?_ w⟩⟩)))
  · have e : ¬ g = 0 := fun e => w (by rw [hy, e]; rfl)
    rw [if_neg e] at h
    exact sp_58 (am_X_V X2 (dq_TV (n := n) (dq_T57 k3))) hi g1 e12 (fun k hk => ⟨e46 k hk, g2 k hk⟩) (by omega) hg e2 hy (fun m4 k4 => am_ri_i (id (dq_k hq h k2 f2 (dq_kT (dq_T57 k3) (dq_TW k4)))))
  · have e : g = 0 := by
      have w := Decidable.not_not.mp w
      rw [hy] at w
      exact (nI_eq (b := 0) (by omega) (by omega)).mp w
    rw [if_pos e] at h
    exact sp_59 (am_X_V X2 (dq_TV (n := n) (dq_T57 k3))) hi g1 e12 (fun k hk => ⟨e46 k hk, g2 k hk⟩) e2 (fun m4 k4 => am_ri_i (id (dq_k hq h k2 f2 (dq_kT (dq_T57 k3) (dq_TW k4)))))
  · rw [hy, am_le_i, am_ti (by omega), am_l9]
    omega
/-- waits: which early -/
def dq_wt (P : List (List Nat × List Nat)) (u : Nat → Nat → Int32) (n m r c : Nat) : Int32 := am_oaf (am_gvn P u n m r).1 u c (am_hol u c) n
theorem dq_137 {x : Int32} (hq : dq_Q P u n m mi) (hr : r < 5) (hi : c < m) (hx : x = nI (10 * r + c)) (h : dq_K P u n m R mi ml (dq_wt P u n m r c)) : am_call (d + 11) 137 [.ref 0, .int x, .int 1] mi ml R := by
  have hm := hq.1.2.1.2.1
  obtain ⟨e1, e2⟩ := am_rc (r := r) (c := c) hr (by omega)
  subst hx
  exact bk_137 (dq_164 hq.1.2.1 hr hi rfl (am_ri_i (am_y ⟨fun w => absurd w (by decide), fun _ => ⟨fun _ => ⟨dq_n10, sp_11 hq.1.2.1 hi e2 (am_ri_i (am_yn (dq_fr hq (fun m2 k2 X2 f2 => am_rr_i ⟨dq_n10, dq_n10, am_need_i rfl (sp_56 (own := (am_gvn P u n m r).1) hr X2.2.1 (f2.2.2.2.1 r hr).1 hi e1 e2 (am_ri_i (id (dq_k hq h k2 f2 am_kp_r))))⟩))))⟩, fun w => absurd rfl w⟩⟩)))
/-- second -/
theorem dq_142 {x y : Int32} {s : Nat} (hq : dq_Q P u n m mi) (hr : r < 5) (hx : x = nI r) (hs1 : 1 ≤ s) (hs9 : s ≤ 9) (hy : y = nI s) (h : dq_K P u n m R mi ml (am_unf m (am_sec P u n m r y))) : am_call (d + 11) 142 [.ref 0, .int x, .int y] mi ml R := by
  have l2 : am_lo 2 = 1 := rfl
  have h2 : am_hi 2 = 9 := rfl
  refine bk_142 (dq_163 hr hx (am_ri_i (am_y (sp_3 hq.2.1 (w := 2) (by omega) rfl (fun k _ _ _ => am_ri_i (am_yn (dq_fr hq (fun m2 k2 X2 f2 => am_rr_i (am_need_i rfl (sp_60 hr X2 f2 hx (fun m3 k3 e3 => am_rv_i (sp_41 (am_X_V X2 (dq_TV (n := n) (dq_T60 k3))).2.1 (am_ri_i ?_))))))))) (fun g => ?_)))))
  · rw [am_unf_c e3]
    exact dq_k hq h k2 f2 (dq_T60 k3)
  · rw [hy, am_ti (by omega)] at g
    omega
/-- pairs -/
def dq_pr (P : List (List Nat × List Nat)) (u : Nat → Nat → Int32) (n m r : Nat) : Int32 × Int32 := am_pro (am_wwo P u n m r) m m
theorem dq_143a {x : Int32} (hq : dq_Q P u n m mi) (hr : r < 5) (hx : x = nI r) (h : dq_K P u n m R mi ml (dq_pr P u n m r).1) : am_call (d + 11) 143 [.ref 0, .int x, .int 0] mi ml R :=
  bk_143 (dq_163 hr hx (am_ri_i (am_y ⟨fun _ => dq_fr hq (fun m2 k2 X2 f2 => am_rr_i (am_need_i rfl (sp_61 hr X2.2.1 f2 hx (am_ri_i (am_nn (dq_k hq h k2 f2 am_kp_r)))))), fun w => absurd rfl w⟩)))
theorem dq_143b {x : Int32} (hq : dq_Q P u n m mi) (hr : r < 5) (hx : x = nI r) (h : dq_K P u n m R mi ml (dq_pr P u n m r).2) : am_call (d + 11) 143 [.ref 0, .int x, .int 1] mi ml R := by
  have hm := hq.1.2.1.2.1
  refine bk_143 (dq_163 hr hx (am_ri_i (am_y ⟨fun w => absurd w (by decide), fun _ => ⟨fun _ => dq_fr hq (fun m2 k2 X2 f2 => am_rr_i (am_need_i rfl (sp_61 hr X2.2.1 f2 hx (am_ri_i (am_yn ?_))))), fun w => absurd rfl w⟩⟩)))
  rcases am_pro_g (W := am_wwo P u n m r) (m := m) m (Nat.le_refl _) with ⟨g1, g2⟩ | ⟨a, b, hab, hb, g1, g2⟩
  · rw [g1]
    refine ⟨fun w => absurd rfl w, fun _ => ?_⟩
    have z := dq_k hq h k2 f2 am_kp_r
    unfold dq_pr at z
    rw [g2] at z
    exact z
  · obtain ⟨e1, e2⟩ := am_rc (r := a) (c := b) (by omega) (by omega)
    rw [g1, e1, e2]
    refine ⟨fun _ => ⟨dq_n10, dq_n10, sp_62 hr X2.2.1 f2 (by omega) hb hx rfl rfl (am_ri_i ?_)⟩, fun w => absurd (fun w2 => ?_) w⟩
    · rw [← g2]
      exact dq_k hq h k2 f2 am_kp_r
    · rw [am_eq_i, am_ti (by omega), am_lm2] at w2
      omega
/-- drawn -/
theorem dq_144 {x y : Int32} {N : Nat} (hq : dq_Q P u n m mi) (h1 : 1 ≤ N) (h50 : N ≤ 50) (hy : y = nI N) (h : dq_K P u n m R mi ml (am_drs P u n m (-1) x N)) : am_call (d + 11) 144 [.ref 0, .int x, .int y, .int (-1)] mi ml R := by
  refine bk_144 ⟨fun w => ?_, fun _ => ⟨fun w => ?_, fun _ => ⟨fun _ => dq_fr hq (fun m2 k2 X2 f2 => am_rr_i (am_need_i rfl (sp_63 X2 f2 h50 hy (Or.inl rfl) (fun m3 k3 => am_ri_i (id (dq_k hq h k2 f2 (dq_T45 k3))))))), fun w => absurd rfl w⟩⟩⟩
  · rw [hy, am_lt_i, am_ti (by omega), am_l1] at w
    omega
  · rw [hy, am_lt_i, am_ti (by omega), am_l50] at w
    omega
/-- fairest; envyFree -/
def dq_fai (P : List (List Nat × List Nat)) (u : Nat → Nat → Int32) (n m : Nat) (x : Int32) : Int32 := if 8 < n ∨ 3 < m then -5 else if m = 0 then -2 else am_fan P u n m x
theorem dq_fo (hq : dq_Q P u n m mi) (hn : n ≤ 8) (hm : m ≤ 3) (hm0 : 0 < m) (h : ∀ m3, am_kp (am_FZ n) mi m3 → dq_Q P u n m m3 → am_fai P u n m (m ^ n - 1) m3 → R none m3 ml) : am_call (d + 10) 30 [.ref 22] mi ml (am_rv fun m2 ml2 => am_call (d + 10) 24 [.ref 47] m2 ml2 (am_rv fun m3 ml3 => R none m3 ml3)) := by
  have hm5 := hq.1.2.1.2.1
  refine sp_30 hq.1.1 hq.1.2.1 hq.1.2.2.2 (am_fvn_u hq.2.2.2.1) (fun m2 k2 f2 v2 => am_rv_i ?_)
  have hX2 := am_X_V hq.1 (am_kV_X (n := n) k2)
  have cur : m2 22 2 = m2 1 3 + m2 15 7 := f2.2.2.2.2
  refine sp_24 hX2 f2 hn hm hm0 cur (am_fvi_V hq.2.2.2.2 (am_kV_X (n := n) k2)) (fun m3 k3 e3 fa => am_rv_i ?_)
  have k13 : am_kp (am_FZ n) mi m3 := am_kp_t (am_kZ_V (am_kV_X k2)) (am_kZ_24 k3)
  have f3 : am_fre P u n m m3 := am_fre_on hm5 f2 (fun c j q1 q2 => k3 c j (decide_eq_false (by omega)))
  exact h m3 k13 (dq_Q_m hq k13 (am_X_24 hX2 k3) (Or.inl f3) (Or.inl ⟨by rw [e3, k3 1 3 rfl, k3 15 7 rfl]; exact cur, fun _ _ _ => fa⟩)) fa
theorem dq_130 {x : Int32} (hq : dq_Q P u n m mi) (hx : x = -1 ∨ x = -2 ∨ ∃ k, k < n ∧ x = nI k) (h : dq_K P u n m R mi ml (dq_fai P u n m x)) : am_call (d + 11) 130 [.ref 0, .int x] mi ml R := by
  have en : mi 1 1 = nI n := hq.1.2.1.2.2.1
  have em : mi 1 2 = nI m := hq.1.2.1.2.2.2.1
  have hn12 := hq.1.2.1.1
  have hm5 := hq.1.2.1.2.1
  have xr : (-2 : Int) ≤ x.toInt ∧ x.toInt < n := by
    rcases hx with e | e | ⟨k, hk, e⟩
    · rw [e, am_lm1]
      omega
    · rw [e, am_lm2]
      omega
    · rw [e, am_ti (by omega)]
      omega
  refine bk_130 ⟨fun w => ?_, fun _ => ⟨fun _ => sp_22 hq.1.2.1 (fun g => am_ri_i (am_y ?_)) (fun hn hm => am_ri_i (am_n0 ?_)), fun w => absurd ?_ w⟩⟩
  · rw [am_lt_i, am_lm2] at w
    omega
  · unfold dq_fai at h
    rw [if_pos g] at h
    exact h mi am_kp_r hq
  · rw [em]
    unfold dq_fai at h
    rw [if_neg (by omega)] at h
    refine ⟨fun m0 => ?_, fun m0 => ?_⟩
    · have hm0 : ¬ m = 0 := fun z => m0 (by rw [z]; rfl)
      rw [if_neg hm0] at h
      refine dq_fo (R := fun _ m3 ml3 => ((x ≠ (-1 : Int32) → ((x ≠ (-2 : Int32) → am_call (d + 10) 23 [.ref 47, .int x] m3 ml3 (am_ri fun r4 mi4 ml4 => R (some (.int r4)) mi4 ml4)) ∧ (¬ (x ≠ (-2 : Int32)) → R (some (.int (m3 47 8))) m3 ml3))) ∧ (¬ (x ≠ (-1 : Int32)) → R (some (.int (m3 47 7))) m3 ml3))) hq hn hm (by omega) (fun m3 k3 q3 fa => ?_)
      have hh := h m3 k3 q3
      refine ⟨fun w1 => ⟨fun w2 => ?_, fun w2 => ?_⟩, fun w1 => ?_⟩
      · unfold am_fan at hh
        rw [if_neg w1, if_neg w2] at hh
        rcases hx with e | e | ⟨k, hk, e⟩
        · exact absurd e w1
        · exact absurd e w2
        · have ck : x.toNatClampNeg = k := by rw [e]; exact nI_clamp (by omega)
          rw [ck] at hh
          refine bk_23 ⟨fun w => absurd w (by rw [e]; exact dq_p (by omega)), fun _ => ⟨fun w => ?_, fun _ => ⟨by rw [e]; exact vp_in_nI (by omega) (by omega), ?_⟩⟩⟩
          · rw [e, am_le_i, am_ti (by omega), am_l8] at w
            omega
          · rw [ck, fa.2.2.1 k hk]
            exact am_ri_i hh
      · have w2 := Decidable.not_not.mp w2
        unfold am_fan at hh
        rw [if_neg w1, if_pos w2] at hh
        rw [fa.2.1]
        exact hh
      · have w1 := Decidable.not_not.mp w1
        unfold am_fan at hh
        rw [if_pos w1] at hh
        rw [fa.1]
        exact hh
    · have e : m = 0 := (nI_eq (b := 0) (by omega) (by omega)).mp (Decidable.not_not.mp m0)
      rw [if_pos e] at h
      exact h mi am_kp_r hq
  · rw [en, am_lt_i, am_ti (by omega)]
    omega
theorem dq_131 (hq : dq_Q P u n m mi) (h : dq_K P u n m R mi ml (if 8 < n ∨ 3 < m then -5 else if m = 0 then -2 else nI (am_cnt (am_fE P u n m) (m ^ n)))) : am_call (d + 11) 131 [.ref 0] mi ml R := by
  have em : mi 1 2 = nI m := hq.1.2.1.2.2.2.1
  have hm5 := hq.1.2.1.2.1
  refine bk_131 (sp_22 hq.1.2.1 (fun g => am_ri_i (am_y ?_)) (fun hn hm => am_ri_i (am_n0 ?_)))
  · rw [if_pos g] at h
    exact h mi am_kp_r hq
  · rw [em]
    rw [if_neg (by omega)] at h
    refine ⟨fun m0 => ?_, fun m0 => ?_⟩
    · have hm0 : ¬ m = 0 := fun z => m0 (by rw [z]; rfl)
      rw [if_neg hm0] at h
      refine dq_fo (R := fun _ m3 ml3 => R (some (.int (m3 47 9))) m3 ml3) hq hn hm (by omega) (fun m3 k3 q3 fa => ?_)
      have pp := am_pow_p (m := m) (n := n) (by omega)
      have z := fa.2.2.2
      rw [Nat.sub_add_cancel pp] at z
      rw [z]
      exact h m3 k3 q3
    · have e : m = 0 := (nI_eq (b := 0) (by omega) (by omega)).mp (Decidable.not_not.mp m0)
      rw [if_pos e] at h
      exact h mi am_kp_r hq
end SP71
