/-! what a door is worth: by the law's lines or without a law; on both sides -/
def am_tot : List (List Nat × List Nat) → Nat
  | [] => 0
  | (c, e) :: r => c.length + e.length + am_tot r
/-- the law stands -/
def am_lwr (P : List (List Nat × List Nat)) (mi : am_MI) : Prop := am_lwf P ∧ (am_xl P).length ≤ 121 ∧ mi 15 6 = nI (am_xl P).length ∧ am_at mi 0 (am_xl P) ∧ am_swd mi
theorem am_lwr_on {P : List (List Nat × List Nat)} {a b : am_MI} (h : am_lwr P a) (_ : b 78 15 = a 78 15) (_ : b 78 16 = a 78 16) (h3 : b 15 6 = a 15 6) (h4 : ∀ j, b 18 j = a 18 j) (_ : ∀ c j, 90 ≤ c → c ≤ 93 → b c j = a c j) (h6 : b 126 1 = a 126 1) (h7 : ∀ j, b 136 j = a 136 j) : am_lwr P b := by
  obtain ⟨g1, g4, g8, g9, g10⟩ := h
  exact ⟨g1, g4, h3.trans g8, fun j hj => (h4 _).trans (g9 j hj), h6.trans g10.1, fun j hj => (h7 j).trans (g10.2 j hj)⟩
def am_lik (u : Nat → Nat → Int32) (a b : Nat) : Int32 := if u 1 b = u 4 a then 1 else 0
def am_nm (u : Nat → Nat → Int32) (a b : Nat) (z x : Int32) (t : Nat) : Int32 := if t = 0 then z else if t = 1 then am_lik u a b else if t = 2 then u 0 b else if t = 3 then u 3 a else if t = 4 then x else u 8 0
/-- door b of size z, x days late, to child a -/
def am_wo (P : List (List Nat × List Nat)) (u : Nat → Nat → Int32) (a b : Nat) (z x : Int32) : Int32 := if P = [] then am_max 0 (3 * z + 4 * am_lik u a b - u 9 0 * x) else am_max 0 (am_min 99 (am_lw (am_nm u a b z x) P))
section SP38
variable {d n m : Nat} {u : Nat → Nat → Int32} {mi : am_MI} {ml : am_ML} {R : am_R} {P : List (List Nat × List Nat)}
/-- what stands before a line's end is what is given -/
theorem sp_78e {σ : Nat → Int32} {M : am_MI} {K : Nat} (hw : am_swd M) (hσ : ∀ t, t < 6 → M 21 t = σ t) (h6 : M 15 6 = nI K) (hK : K ≤ 121) {e : List Nat} {s : List Int32} {i : Nat} (hwf : am_wf e) (hat : am_at M i (e.map am_xc ++ ((-59) :: s))) (hl : i + e.length < K) {m2 : am_MI} (k2 : am_kp am_F19 M m2) (n2 : m2 15 9 = 0)
    (h : ∀ m3, am_kp am_F19 M m3 → R (some (.int (am_val1 σ e))) m3 ml) : am_wp (am_call (d + 5)) mt_78 R 7 [some (.ref 15), some (.ref 21), some (.int 0), some (.int (nI i)), none] [] m2 ml := by
  obtain ⟨a1, a2⟩ := am_at_l hat
  rw [List.length_map] at a2
  refine sp_78t hw hσ h6 hK e i (0, m2 19) hwf.1 (Nat.zero_le _) a1 (by omega) m2 k2 n2 (fun _ _ => rfl) (fun m3 k3 n3 s3 => ?_)
  have d1 : (am_run σ e (0, m2 19)).1 = 1 := by
    rw [am_run_n]
    exact hwf.2
  rw [d1] at n3
  have e6 : m3 15 6 = nI K := (k3 15 6 rfl).trans h6
  have et : m3 18 (nI (i + e.length)).toNatClampNeg = -59 := by
    rw [nI_clamp (by omega), k3 18 _ rfl]
    exact am_at_h a2
  refine bk_78_7 ?_
  rw [e6, et]
  refine pk_le K (i + e.length) (fun w => absurd w (by omega)) (fun _ => ⟨vp_in_nI (by omega) (by omega), ⟨fun w => absurd rfl w, fun _ => am_nn ?_⟩⟩) rfl rfl
  refine sp_82 (n := 1) (Nat.le_refl _) (by omega) n3 (fun m4 k4 n4 s4 => am_ri_i ?_)
  rw [show (1 : Nat) - 1 = 0 from rfl, s3 0 (by omega), am_val1_c (fun _ _ => rfl) hwf]
  exact h m4 (am_kp_t k3 k4)
theorem sp_78l {σ : Nat → Int32} {M : am_MI} {K : Nat} (hw : am_swd M) (hσ : ∀ t, t < 6 → M 21 t = σ t) (h6 : M 15 6 = nI K) (hK : K ≤ 121) : ∀ (P : List (List Nat × List Nat)) (i : Nat), am_lwf P → am_at M i (am_xl P) → i + (am_xl P).length = K → ∀ m2, am_kp am_F19 M m2 → m2 15 9 = 0 →
    (∀ m3, am_kp am_F19 M m3 → R (some (.int (am_lw σ P))) m3 ml) → am_wp (am_call (d + 5)) mt_78 R 7 [some (.ref 15), some (.ref 21), some (.int 0), some (.int (nI i)), none] [] m2 ml
  | [], i, _, _, hl, m2, k2, n2, h => by
    have e6 : m2 15 6 = nI K := (k2 15 6 rfl).trans h6
    have hl : i = K := hl
    refine bk_78_7 ?_
    rw [e6, hl]
    exact pk_le K K (fun _ => h m2 k2) (fun w => absurd w (Nat.lt_irrefl _)) rfl rfl
  | ([], e) :: r, i, hf, hat, hl, m2, k2, n2, h => by
    obtain ⟨f1, f2, f3⟩ := hf
    have hat : am_at M i (e.map am_xc ++ ((-59) :: am_xl r)) := hat
    have hl : i + (e.map am_xc ++ ((-59) :: am_xl r)).length = K := hl
    rw [List.length_append, List.length_map, List.length_cons] at hl
    refine sp_78e hw hσ h6 hK f2 hat (by omega) k2 n2 (fun m3 k3 => ?_)
    have z := h m3 k3
    unfold am_lw at z
    rw [if_pos (Or.inl rfl)] at z
    exact z
  | (t :: c, e) :: r, i, hf, hat, hl, m2, k2, n2, h => by
    obtain ⟨f1, f2, f3⟩ := hf
    have f1 : am_wf (t :: c) := f1.resolve_left (fun w => nomatch w)
    have hat : am_at M i (((t :: c).map am_xc ++ [-63]) ++ (e.map am_xc ++ ((-59) :: am_xl r))) := hat
    have hl : i + (((t :: c).map am_xc ++ [-63]) ++ (e.map am_xc ++ ((-59) :: am_xl r))).length = K := hl
    generalize t :: c = c at *
    simp only [List.length_append, List.length_map, List.length_cons, List.length_nil] at hl
    rw [List.append_assoc] at hat
    obtain ⟨a1, a2⟩ := am_at_l hat
    rw [List.length_map] at a2
    have a2 : am_at M (i + c.length) ((-63) :: (e.map am_xc ++ ((-59) :: am_xl r))) := a2
    have a3 := am_at_t a2
    refine sp_78t hw hσ h6 hK c i (0, m2 19) f1.1 (Nat.zero_le _) a1 (by omega) m2 k2 n2 (fun _ _ => rfl) (fun m3 k3 n3 s3 => ?_)
    have d1 : (am_run σ c (0, m2 19)).1 = 1 := by
      rw [am_run_n]
      exact f1.2
    rw [d1] at n3
    have e6 : m3 15 6 = nI K := (k3 15 6 rfl).trans h6
    have et : m3 18 (nI (i + c.length)).toNatClampNeg = -63 := by
      rw [nI_clamp (by omega), k3 18 _ rfl]
      exact am_at_h a2
    refine bk_78_7 ?_
    rw [e6, et]
    refine pk_le K (i + c.length) (fun w => absurd w (by omega)) (fun _ => ⟨vp_in_nI (by omega) (by omega), ⟨fun _ => ⟨fun w => absurd rfl w, fun _ => ?_⟩, fun w => absurd (by decide) w⟩⟩) rfl rfl
    refine sp_82 (n := 1) (Nat.le_refl _) (by omega) n3 (fun m4 k4 n4 s4 => am_ri_i ?_)
    rw [show (1 : Nat) - 1 = 0 from rfl, s3 0 (by omega), am_val1_c (fun _ _ => rfl) f1, nI_1]
    have k4 := am_kp_t k3 k4
    have n4 : m4 15 9 = 0 := n4
    refine ⟨fun w => ?_, fun w => ?_⟩
    · refine sp_78e hw hσ h6 hK f2 a3 (by omega) k4 n4 (fun m5 k5 => ?_)
      have z := h m5 k5
      unfold am_lw at z
      rw [if_pos (Or.inr w)] at z
      exact z
    · have w := Decidable.not_not.mp w
      have e6 : m4 15 6 = nI K := (k4 15 6 rfl).trans h6
      obtain ⟨b1, b2⟩ := am_at_l a3
      rw [List.length_map] at b2
      refine sp_78s e6 hK e (i + c.length + 1) (am_wfp_b e 0 f2.1) (fun j hj => (k4 18 _ rfl).trans (b1 j hj)) (by omega) ?_
      have et : m4 18 (nI (i + c.length + 1 + e.length)).toNatClampNeg = -59 := by
        rw [nI_clamp (by omega), k4 18 _ rfl]
        exact am_at_h b2
      refine bk_78_7 ?_
      rw [e6, et]
      refine pk_le K (i + c.length + 1 + e.length) (fun w => absurd w (by omega)) (fun _ => ⟨vp_in_nI (by omega) (by omega), ⟨fun w => absurd rfl w, fun _ => am_yn ?_⟩⟩) rfl rfl
      rw [nI_1]
      refine sp_78l hw hσ h6 hK r _ f3 (am_at_t b2) (by omega) m4 k4 n4 (fun m5 k5 => ?_)
      have z := h m5 k5
      unfold am_lw at z
      by_cases ec : c = []
      · exfalso
        rw [ec] at f1
        exact absurd f1.2 (by decide)
      · rw [if_neg (fun q => q.elim ec (fun q => q w))] at z
        exact z
/-- the lines worked out -/
theorem sp_78 {σ : Nat → Int32} (hl : am_lwr P mi) (hσ : ∀ t, t < 6 → mi 21 t = σ t) (h : ∀ m3, am_kp am_F19 mi m3 → R (some (.int (am_lw σ P))) m3 ml) : am_call (d + 6) 78 [.ref 15, .ref 21] mi ml R := by
  obtain ⟨g1, g4, g8, g9, g10⟩ := hl
  refine bk_78 ?_
  have k2 : am_kp am_F19 mi (am_ui mi 15 9 0) := am_kp_u am_kp_r rfl
  exact sp_78l g10 hσ g8 g4 P 0 g1 g9 (Nat.zero_add _) _ k2 am_ui_k h
def am_F98b : Nat → Nat → Bool := fun c _ => decide (c = 98 ∨ c = 99)
end SP38
