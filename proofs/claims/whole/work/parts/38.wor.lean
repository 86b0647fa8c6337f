/-! what a door is worth: by the law's lines or without a law; on both sides -/
def am_tot : List (List Nat × List Nat) → Nat
  | [] => 0
  | (c, e) :: r => c.length + e.length + am_tot r
/-- the reference's lines from a line and a place of its codes on -/
def am_mln (mi : am_MI) : Nat → Nat → List (List Nat × List Nat) → Prop
  | _, _, [] => True
  | i, a, (c, e) :: r => mi 90 i = nI a ∧ mi 91 i = nI (a + c.length) ∧ mi 92 i = nI (a + c.length + e.length) ∧ (∀ j, j < c.length → mi 93 (a + j) = nI (c.getD j 0)) ∧ (∀ j, j < e.length → mi 93 (a + c.length + j) = nI (e.getD j 0)) ∧ am_mln mi (i + 1) (a + c.length + e.length) r
theorem am_mln_on {a b : am_MI} (h : ∀ c j, 90 ≤ c → c ≤ 93 → b c j = a c j) : ∀ (P : List (List Nat × List Nat)) (i k : Nat), am_mln a i k P → am_mln b i k P
  | [], _, _, _ => trivial
  | (c, e) :: r, i, k, h2 => by
    obtain ⟨g1, g2, g3, g4, g5, g6⟩ := h2
    exact ⟨(h 90 i (by omega) (by omega)).trans g1, (h 91 i (by omega) (by omega)).trans g2, (h 92 i (by omega) (by omega)).trans g3, fun j hj => (h 93 _ (by omega) (by omega)).trans (g4 j hj), fun j hj => (h 93 _ (by omega) (by omega)).trans (g5 j hj), am_mln_on h r _ _ g6⟩
/-- the law stands on both sides -/
def am_lwr (P : List (List Nat × List Nat)) (mi : am_MI) : Prop := am_lwf P ∧ P.length ≤ 60 ∧ am_tot P ≤ 200 ∧ (am_xl P).length ≤ 121 ∧ ((mi 78 15 = 0 ∧ P = []) ∨ (mi 78 15 = 1 ∧ P ≠ [])) ∧ mi 78 16 = nI P.length ∧ am_mln mi 0 0 P ∧ mi 15 6 = nI (am_xl P).length ∧ am_at mi 0 (am_xl P) ∧ am_swd mi
theorem am_lwr_on {P : List (List Nat × List Nat)} {a b : am_MI} (h : am_lwr P a) (h1 : b 78 15 = a 78 15) (h2 : b 78 16 = a 78 16) (h3 : b 15 6 = a 15 6) (h4 : ∀ j, b 18 j = a 18 j) (h5 : ∀ c j, 90 ≤ c → c ≤ 93 → b c j = a c j) (h6 : b 126 1 = a 126 1) (h7 : ∀ j, b 136 j = a 136 j) : am_lwr P b := by
  obtain ⟨g1, g2, g3, g4, g5, g6, g7, g8, g9, g10⟩ := h
  refine ⟨g1, g2, g3, g4, ?_, h2.trans g6, am_mln_on h5 P 0 0 g7, h3.trans g8, fun j hj => (h4 _).trans (g9 j hj), h6.trans g10.1, fun j hj => (h7 j).trans (g10.2 j hj)⟩
  rw [h1]
  exact g5
def am_lik (u : Nat → Nat → Int32) (a b : Nat) : Int32 := if u 1 b = u 4 a then 1 else 0
def am_nm (u : Nat → Nat → Int32) (a b : Nat) (z x : Int32) (t : Nat) : Int32 := if t = 0 then z else if t = 1 then am_lik u a b else if t = 2 then u 0 b else if t = 3 then u 3 a else if t = 4 then x else u 8 0
/-- door b of size z, x days late, to child a -/
def am_wo (P : List (List Nat × List Nat)) (u : Nat → Nat → Int32) (a b : Nat) (z x : Int32) : Int32 := if P = [] then am_max 0 (3 * z + 4 * am_lik u a b - u 9 0 * x) else am_max 0 (am_min 99 (am_lw (am_nm u a b z x) P))
section SP38
variable {d n m : Nat} {u : Nat → Nat → Int32} {mi : am_MI} {ml : am_ML} {R : am_R} {P : List (List Nat × List Nat)}
/-- what stands before a line's end is what is given -/
theorem sp_78e {σ : Nat → Int32} {M : am_MI} {K : Nat} (hw : am_swd M) (hσ : ∀ t, t < 6 → M 21 t = σ t) (h6 : M 15 6 = nI K) (hK : K ≤ 121) {e : List Nat} {s : List Int32} {i : Nat} (hwf : am_wf e) (hat : am_at M i (e.map am_xc ++ ((-59) :: s))) (hl : i + e.length < K) {m2 : am_MI} (k2 : am_kp am_F19 M m2) (n2 : m2 15 9 = 0)
    (h : ∀ m3, am_kp am_F19 M m3 → R (some (.int (am_val1 σ e))) m3 ml) : am_wp (am_call (d + 5)) mt_78 R 7 [some (.ref 15), some (.ref 21), some (.int 0), some (.int (nI i)), none] [] m2 ml := by
  obtain ⟨a1, a2⟩ := am_at_l hat
  rw [List.length_map] at a2
  refine sp_78t hw hσ h6 hK e i (0, m2 19) hwf.1 (Nat.zero_le _) a1 (by omega) m2 k2 n2 (fun _ _ => rfl) (fun m3 k3 n3 s3 => ?_)
  have d1 : (am_run σ e (0, m2 19)).1 = 1 := by
    rw [am_run_n]
    exact hwf.2
  rw [d1] at n3
  have e6 : m3 15 6 = nI K := (k3 15 6 rfl).trans h6
  have et : m3 18 (nI (i + e.length)).toNatClampNeg = -59 := by
    rw [nI_clamp (by omega), k3 18 _ rfl]
    exact am_at_h a2
  refine bk_78_7 ?_
  rw [e6, et]
  refine pk_le K (i + e.length) (fun w => absurd w (by omega)) (fun _ => ⟨vp_in_nI (by omega) (by omega), ⟨fun w => absurd rfl w, fun _ => am_nn ?_⟩⟩) rfl rfl
  refine sp_82 (n := 1) (Nat.le_refl _) (by omega) n3 (fun m4 k4 n4 s4 => am_ri_i ?_)
  rw [show (1 : Nat) - 1 = 0 from rfl, s3 0 (by omega), am_val1_c (fun _ _ => rfl) hwf]
  exact h m4 (am_kp_t k3 k4)
theorem sp_78l {σ : Nat → Int32} {M : am_MI} {K : Nat} (hw : am_swd M) (hσ : ∀ t, t < 6 → M 21 t = σ t) (h6 : M 15 6 = nI K) (hK : K ≤ 121) : ∀ (P : List (List Nat × List Nat)) (i : Nat), am_lwf P → am_at M i (am_xl P) → i + (am_xl P).length = K → ∀ m2, am_kp am_F19 M m2 → m2 15 9 = 0 →
    (∀ m3, am_kp am_F19 M m3 → R (some (.int (am_lw σ P))) m3 ml) → am_wp (am_call (d + 5)) mt_78 R 7 [some (.ref 15), some (.ref 21), some (.int 0), some (.int (nI i)), none] [] m2 ml
  | [], i, _, _, hl, m2, k2, n2, h => by
    have e6 : m2 15 6 = nI K := (k2 15 6 rfl).trans h6
    have hl : i = K := hl
    refine bk_78_7 ?_
    rw [e6, hl]
    exact pk_le K K (fun _ => h m2 k2) (fun w => absurd w (Nat.lt_irrefl _)) rfl rfl
  | ([], e) :: r, i, hf, hat, hl, m2, k2, n2, h => by
    obtain ⟨f1, f2, f3⟩ := hf
    have hat : am_at M i (e.map am_xc ++ ((-59) :: am_xl r)) := hat
    have hl : i + (e.map am_xc ++ ((-59) :: am_xl r)).length = K := hl
    rw [List.length_append, List.length_map, List.length_cons] at hl
    refine sp_78e hw hσ h6 hK f2 hat (by omega) k2 n2 (fun m3 k3 => ?_)
    have z := h m3 k3
    unfold am_lw at z
    rw [if_pos (Or.inl rfl)] at z
    exact z
  | (t :: c, e) :: r, i, hf, hat, hl, m2, k2, n2, h => by
    obtain ⟨f1, f2, f3⟩ := hf
    have f1 : am_wf (t :: c) := f1.resolve_left (fun w => nomatch w)
    have hat : am_at M i (((t :: c).map am_xc ++ [-63]) ++ (e.map am_xc ++ ((-59) :: am_xl r))) := hat
    have hl : i + (((t :: c).map am_xc ++ [-63]) ++ (e.map am_xc ++ ((-59) :: am_xl r))).length = K := hl
    generalize t :: c = c at *
    simp only [List.length_append, List.length_map, List.length_cons, List.length_nil] at hl
    rw [List.append_assoc] at hat
    obtain ⟨a1, a2⟩ := am_at_l hat
    rw [List.length_map] at a2
    have a2 : am_at M (i + c.length) ((-63) :: (e.map am_xc ++ ((-59) :: am_xl r))) := a2
    have a3 := am_at_t a2
    refine sp_78t hw hσ h6 hK c i (0, m2 19) f1.1 (Nat.zero_le _) a1 (by omega) m2 k2 n2 (fun _ _ => rfl) (fun m3 k3 n3 s3 => ?_)
    have d1 : (am_run σ c (0, m2 19)).1 = 1 := by
      rw [am_run_n]
      exact f1.2
    rw [d1] at n3
    have e6 : m3 15 6 = nI K := (k3 15 6 rfl).trans h6
    have et : m3 18 (nI (i + c.length)).toNatClampNeg = -63 := by
      rw [nI_clamp (by omega), k3 18 _ rfl]
      exact am_at_h a2
    refine bk_78_7 ?_
    rw [e6, et]
    refine pk_le K (i + c.length) (fun w => absurd w (by omega)) (fun _ => ⟨vp_in_nI (by omega) (by omega), ⟨fun _ => ⟨fun w => absurd rfl w, fun _ => ?_⟩, fun w => absurd (by decide) w⟩⟩) rfl rfl
    refine sp_82 (n := 1) (Nat.le_refl _) (by omega) n3 (fun m4 k4 n4 s4 => am_ri_i ?_)
    rw [show (1 : Nat) - 1 = 0 from rfl, s3 0 (by omega), am_val1_c (fun _ _ => rfl) f1, nI_1]
    have k4 := am_kp_t k3 k4
    have n4 : m4 15 9 = 0 := n4
    refine ⟨fun w => ?_, fun w => ?_⟩
    · refine sp_78e hw hσ h6 hK f2 a3 (by omega) k4 n4 (fun m5 k5 => ?_)
      have z := h m5 k5
      unfold am_lw at z
      rw [if_pos (Or.inr w)] at z
      exact z
    · have w := Decidable.not_not.mp w
      have e6 : m4 15 6 = nI K := (k4 15 6 rfl).trans h6
      obtain ⟨b1, b2⟩ := am_at_l a3
      rw [List.length_map] at b2
      refine sp_78s e6 hK e (i + c.length + 1) (am_wfp_b e 0 f2.1) (fun j hj => (k4 18 _ rfl).trans (b1 j hj)) (by omega) ?_
      have et : m4 18 (nI (i + c.length + 1 + e.length)).toNatClampNeg = -59 := by
        rw [nI_clamp (by omega), k4 18 _ rfl]
        exact am_at_h b2
      refine bk_78_7 ?_
      rw [e6, et]
      refine pk_le K (i + c.length + 1 + e.length) (fun w => absurd w (by omega)) (fun _ => ⟨vp_in_nI (by omega) (by omega), ⟨fun w => absurd rfl w, fun _ => am_yn ?_⟩⟩) rfl rfl
      rw [nI_1]
      refine sp_78l hw hσ h6 hK r _ f3 (am_at_t b2) (by omega) m4 k4 n4 (fun m5 k5 => ?_)
      have z := h m5 k5
      unfold am_lw at z
      by_cases ec : c = []
      · exfalso
        rw [ec] at f1
        exact absurd f1.2 (by decide)
      · rw [if_neg (fun q => q.elim ec (fun q => q w))] at z
        exact z
/-- the lines worked out -/
theorem sp_78 {σ : Nat → Int32} (hl : am_lwr P mi) (hσ : ∀ t, t < 6 → mi 21 t = σ t) (h : ∀ m3, am_kp am_F19 mi m3 → R (some (.int (am_lw σ P))) m3 ml) : am_call (d + 6) 78 [.ref 15, .ref 21] mi ml R := by
  obtain ⟨g1, g2, g3, g4, g5, g6, g7, g8, g9, g10⟩ := hl
  refine bk_78 ?_
  have k2 : am_kp am_F19 mi (am_ui mi 15 9 0) := am_kp_u am_kp_r rfl
  exact sp_78l g10 hσ g8 g4 P 0 g1 g9 (Nat.zero_add _) _ k2 am_ui_k h
def am_F98b : Nat → Nat → Bool := fun c _ => decide (c = 98 ∨ c = 99)
/-- the reference's lines -/
theorem sp_204l {σ : Nat → Int32} {M : am_MI} {K : Nat} (hσ : ∀ t, t < 6 → M 99 t = σ t) (h6 : M 78 16 = nI K) (hK : K ≤ 60) : ∀ (P : List (List Nat × List Nat)) (i a : Nat), am_lwf P → am_mln M i a P → i + P.length = K → a + am_tot P ≤ 200 → ∀ m2, am_kp am_F98 M m2 →
    (∀ m3, am_kp am_F98 M m3 → R (some (.int (am_max 0 (am_min 99 (am_lw σ P))))) m3 ml) → am_wp (am_call (d + 2)) mt_204 R 81 [some (.ref 78), none, none, none, some (.int (nI i))] [] m2 ml := by
  intro P
  induction P with
  | nil =>
    intro i a _ _ hl _ m2 k2 h
    have e6 : m2 78 16 = nI K := (k2 78 16 rfl).trans h6
    have hl : i = K := hl
    refine bk_204_81 ?_
    rw [e6, hl]
    exact pk_le K K (fun _ => h m2 k2) (fun w => absurd w (Nat.lt_irrefl _)) rfl rfl
  | cons p r ih =>
    obtain ⟨c, e⟩ := p
    intro i a hf hm hl ha m2 k2 h
    obtain ⟨f1, f2, f3⟩ := hf
    obtain ⟨g1, g2, g3, g4, g5, g6⟩ := hm
    have hl : i + (r.length + 1) = K := hl
    have ha : a + (c.length + e.length + am_tot r) ≤ 200 := ha
    have e6 : m2 78 16 = nI K := (k2 78 16 rfl).trans h6
    have ec : (nI i).toNatClampNeg = i := nI_clamp (by omega)
    have x1 : ∀ m3, am_kp am_F98 M m3 → m3 90 i = nI a := fun m3 k => (k 90 i rfl).trans g1
    have x2 : ∀ m3, am_kp am_F98 M m3 → m3 91 i = nI (a + c.length) := fun m3 k => (k 91 i rfl).trans g2
    have x3 : ∀ m3, am_kp am_F98 M m3 → m3 92 i = nI (a + c.length + e.length) := fun m3 k => (k 92 i rfl).trans g3
    have fin : ∀ m3, am_kp am_F98 M m3 → (c = [] ∨ ¬ am_val1 σ c = 0) → am_wp (am_call (d + 2)) mt_204 R 106 [some (.ref 78), none, none, none, some (.int (nI i))] [] m3 ml := by
      intro m3 k3 hc
      refine bk_204_106 ⟨vp_in_nI (by omega) (by omega), vp_in_nI (by omega) (by omega), ?_⟩
      rw [ec, x2 m3 k3, x3 m3 k3]
      refine sp_203 (σ := σ) (l := e) rfl rfl (by omega) (fun j hj => (k3 93 _ rfl).trans (g5 j hj)) (fun t ht => (k3 99 t rfl).trans (hσ t ht)) f2 (fun m4 k4 => am_ri_i ?_)
      have z := h m4 (am_kp_t k3 k4)
      unfold am_lw at z
      rw [if_pos hc] at z
      exact z
    refine bk_204_81 ?_
    rw [e6]
    refine pk_le K i (fun w => absurd w (by omega)) (fun _ => ⟨vp_in_nI (by omega) (by omega), vp_in_nI (by omega) (by omega), ?_⟩) rfl rfl
    rw [ec, x1 m2 k2, x2 m2 k2]
    refine pk_le (a + c.length) a (fun w => ?_) (fun w => ⟨vp_in_nI (by omega) (by omega), vp_in_nI (by omega) (by omega), ?_⟩) rfl rfl
    · exact fin m2 k2 (Or.inl (List.eq_nil_of_length_eq_zero (by omega)))
    · have f1 : am_wf c := f1.resolve_left (fun q => by rw [q] at w; exact absurd w (Nat.lt_irrefl _))
      refine sp_203 (σ := σ) (l := c) rfl rfl (by omega) (fun j hj => (k2 93 _ rfl).trans (g4 j hj)) (fun t ht => (k2 99 t rfl).trans (hσ t ht)) f1 (fun m3 k3 => am_ri_i ⟨fun q => fin m3 (am_kp_t k2 k3) (Or.inr q), fun q => ?_⟩)
      rw [nI_1]
      refine ih (i + 1) _ f3 g6 (by omega) (by omega) m3 (am_kp_t k2 k3) (fun m4 k4 => ?_)
      have z := h m4 k4
      unfold am_lw at z
      rw [if_neg (fun p => p.elim (fun p => by rw [p] at w; exact absurd w (Nat.lt_irrefl _)) (fun p => p (Decidable.not_not.mp q)))] at z
      exact z
/-- worthOf -/
theorem sp_204 {x y z : Int32} {a b : Nat} (hl : am_lwr P mi) (hc : am_cm n m u mi) (ha : a < m) (hb : b < n) (hx : x = nI a) (hy : y = nI b) (h : ∀ m3, am_kp am_F98b mi m3 → R (some (.int (am_wo P u a b (u 2 b) z))) m3 ml) : am_call (d + 3) 204 [.ref 78, .int x, .int y, .int z] mi ml R := by
  subst hx
  subst hy
  have hn := hc.1
  have hm := hc.2.1
  have ca : (nI a).toNatClampNeg = a := nI_clamp (by omega)
  have cb : (nI b).toNatClampNeg = b := nI_clamp (by omega)
  have v5 : vp_in (nI a) 5 := vp_in_nI (by omega) (by omega)
  have v24 : vp_in (nI b) 24 := vp_in_nI (by omega) (by omega)
  have u0 : mi 79 b = u 0 b := hc.2.2.2.2 0 b (am_vd (by omega) hb)
  have u1 : mi 80 b = u 1 b := hc.2.2.2.2 1 b (am_vd (by omega) hb)
  have u2 : mi 81 b = u 2 b := hc.2.2.2.2 2 b (am_vd (by omega) hb)
  have u3 : mi 83 a = u 3 a := hc.2.2.2.2 3 a (am_vc (by omega) (by omega) ha)
  have u4 : mi 84 a = u 4 a := hc.2.2.2.2 4 a (am_vc (by omega) (by omega) ha)
  have u8 : mi 88 0 = u 8 0 := hc.2.2.2.2 8 0 (am_vs (by omega) (by omega))
  have u9 : mi 88 1 = u 9 0 := hc.2.2.2.2 9 0 (am_vs (by omega) (by omega))
  have c0 : (0 : Int32).toNatClampNeg = 0 := rfl
  have c1 : (1 : Int32).toNatClampNeg = 1 := rfl
  have c2 : (2 : Int32).toNatClampNeg = 2 := rfl
  have c3 : (3 : Int32).toNatClampNeg = 3 := rfl
  have c4 : (4 : Int32).toNatClampNeg = 4 := rfl
  have c5 : (5 : Int32).toNatClampNeg = 5 := rfl
  have main : ∀ s : Int32, s = am_lik u a b → am_wp (am_call (d + 2)) mt_204 R 23 [some (.ref 78), some (.int (nI a)), some (.int (nI b)), some (.int z), none] [.int s, .int 1, .ref 99] (am_ui mi 99 0 (mi 81 b)) ml := by
    intro s hs
    refine bk_204_23 ⟨am_vp (by decide) (by decide), v24, am_vp (by decide) (by decide), v5, am_vp (by decide) (by decide), am_vp (by decide) (by decide), am_vp (by decide) (by decide), am_vp (by decide) (by decide), ?_⟩
    rw [c0, c1, c2, c3, c4, c5, ca, cb]
    simp only [am_ui_c (show ¬ 81 = 99 by omega), am_ui_c (show ¬ 79 = 99 by omega), am_ui_c (show ¬ 83 = 99 by omega), am_ui_c (show ¬ 88 = 99 by omega), am_ui_c (show ¬ 78 = 99 by omega), u0, u2, u3, u8, u9]
    generalize hM : am_ui (am_ui (am_ui (am_ui (am_ui (am_ui mi 99 0 (u 2 b)) 99 1 s) 99 2 (u 0 b)) 99 3 (u 3 a)) 99 4 z) 99 5 (u 8 0) = M
    have kM : ∀ c j, ¬ c = 99 → M c j = mi c j := fun c j q => by
      rw [← hM, am_ui_c q, am_ui_c q, am_ui_c q, am_ui_c q, am_ui_c q, am_ui_c q]
    have kk : am_kp am_F98b mi M := fun c j q => kM c j (by have := of_decide_eq_false q; omega)
    have hσ : ∀ t, t < 6 → M 99 t = am_nm u a b (u 2 b) z t := by
      intro t ht
      have : t = 0 ∨ t = 1 ∨ t = 2 ∨ t = 3 ∨ t = 4 ∨ t = 5 := by omega
      rw [← hM]
      rcases this with e | e | e | e | e | e <;> subst e
      · rw [am_ui_n (by omega), am_ui_n (by omega), am_ui_n (by omega), am_ui_n (by omega), am_ui_n (by omega), am_ui_k]
        rfl
      · rw [am_ui_n (by omega), am_ui_n (by omega), am_ui_n (by omega), am_ui_n (by omega), am_ui_k]
        exact hs
      · rw [am_ui_n (by omega), am_ui_n (by omega), am_ui_n (by omega), am_ui_k]
        rfl
      · rw [am_ui_n (by omega), am_ui_n (by omega), am_ui_k]
        rfl
      · rw [am_ui_n (by omega), am_ui_k]
        rfl
      · rw [am_ui_k]
        rfl
    obtain ⟨g1, g2, g3, g4, g5, g6, g7, g8, g9, g10⟩ := hl
    rcases g5 with ⟨t0, p0⟩ | ⟨t1, p1⟩
    · rw [t0]
      refine am_nn ⟨v24, am_vp (by decide) (by decide), am_vp (by decide) (by decide), ?_⟩
      rw [hσ 1 (by omega)]
      have z2 := h M kk
      unfold am_wo at z2
      rw [if_pos p0] at z2
      exact z2
    · rw [t1]
      refine am_yn ?_
      refine sp_204l hσ ((kM 78 16 (by omega)).trans g6) g2 P 0 0 g1 (am_mln_on (fun c j q1 q2 => kM c j (by omega)) P 0 0 g7) (Nat.zero_add _) (by omega) M am_kp_r (fun m3 k3 => ?_)
      have z2 := h m3 (am_kp_t kk (am_kp_w k3 (fun c j q => decide_eq_false (by have := of_decide_eq_false q; omega))))
      unfold am_wo at z2
      rw [if_neg p1] at z2
      exact z2
  refine bk_204 ⟨v24, am_vp (by decide) (by decide), v24, v5, ?_⟩
  rw [c0, ca, cb, u1, u4]
  refine ⟨fun w => main 0 ?_, fun w => main 1 ?_⟩
  · unfold am_lik
    rw [if_neg w]
  · unfold am_lik
    rw [if_pos (Decidable.not_not.mp w)]
end SP38
