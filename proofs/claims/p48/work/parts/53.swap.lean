/-! swaps on both sides; pair: swap -/
/-- both would rather have the other's door -/
def am_pls (e : Nat → Nat → Int32) (w : Nat → Int32) (i j : Nat) : Bool := decide (¬ w i = w j ∧ e (w i).toNatClampNeg i < e (w i).toNatClampNeg j ∧ e (w j).toNatClampNeg j < e (w j).toNatClampNeg i)
/-- the first two -/
def am_fsj (p : Nat → Nat → Bool) (i : Nat) : Nat → Nat → Option (Nat × Nat)
  | _, 0 => none
  | j, k + 1 => if p i j = true then some (i, j) else am_fsj p i (j + 1) k
def am_fsi (p : Nat → Nat → Bool) (n : Nat) : Nat → Nat → Option (Nat × Nat)
  | _, 0 => none
  | i, k + 1 => match am_fsj p i (i + 1) (n - (i + 1)) with
    | some q => some q
    | none => am_fsi p n (i + 1) k
def am_enc : Option (Nat × Nat) → Int32
  | none => -2
  | some q => nI (20 * q.1 + q.2)
theorem am_fsj_b {p : Nat → Nat → Bool} {n i : Nat} : ∀ k j, j + k = n → ∀ q, am_fsj p i j k = some q → q.1 = i ∧ j ≤ q.2 ∧ q.2 < n ∧ p q.1 q.2 = true
  | 0, _, _, _, h => by
    unfold am_fsj at h
    cases h
  | k + 1, j, e, q, h => by
    unfold am_fsj at h
    split at h
    · rename_i g
      cases h
      exact ⟨rfl, Nat.le_refl _, by omega, g⟩
    · obtain ⟨a, b, c⟩ := am_fsj_b (n := n) k (j + 1) (by omega) q h
      exact ⟨a, by omega, c⟩
theorem am_fsi_b {p : Nat → Nat → Bool} {n : Nat} : ∀ k i, i + k = n → ∀ q, am_fsi p n i k = some q → q.1 < q.2 ∧ q.2 < n ∧ p q.1 q.2 = true
  | 0, _, _, _, h => by
    unfold am_fsi at h
    cases h
  | k + 1, i, e, q, h => by
    unfold am_fsi at h
    split at h
    · rename_i q2 g
      cases h
      obtain ⟨a, b, c⟩ := am_fsj_b (n := n) _ (i + 1) (by omega) q g
      exact ⟨by omega, c⟩
    · exact am_fsi_b k (i + 1) (by omega) q h
theorem am_fsj_n {p : Nat → Nat → Bool} {n i : Nat} (h : ∀ j, j < n → p i j = false) : ∀ k j, j + k = n → am_fsj p i j k = none
  | 0, _, _ => rfl
  | k + 1, j, e => by
    unfold am_fsj
    rw [h j (by omega), if_neg (by decide)]
    exact am_fsj_n h k (j + 1) (by omega)
theorem am_fsi_n {p : Nat → Nat → Bool} {n : Nat} (h : ∀ i j, i < n → j < n → p i j = false) : ∀ k i, i + k = n → am_fsi p n i k = none
  | 0, _, _ => rfl
  | k + 1, i, e => by
    unfold am_fsi
    rw [am_fsj_n (n := n) (h i · (by omega)) (n - (i + 1)) (i + 1) (by omega)]
    exact am_fsi_n h k (i + 1) (by omega)
theorem am_fsj_c {p q : Nat → Nat → Bool} {n i : Nat} (h : ∀ j, j < n → p i j = q i j) : ∀ k j, j + k = n → am_fsj p i j k = am_fsj q i j k
  | 0, _, _ => rfl
  | k + 1, j, e => by
    unfold am_fsj
    rw [h j (by omega), am_fsj_c h k (j + 1) (by omega)]
theorem am_fsi_c {p q : Nat → Nat → Bool} {n : Nat} (h : ∀ i j, i < n → j < n → p i j = q i j) : ∀ k i, i + k = n → am_fsi p n i k = am_fsi q n i k
  | 0, _, _ => rfl
  | k + 1, i, e => by
    unfold am_fsi
    rw [am_fsj_c (n := n) (h i · (by omega)) (n - (i + 1)) (i + 1) (by omega), am_fsi_c h k (i + 1) (by omega)]
/-- whose doors are: a child's, or nobody's -/
def am_own (n m : Nat) (w : Nat → Int32) : Prop := ∀ i, i < n → (∃ c, c < m ∧ w i = nI c) ∨ w i = -2
theorem am_gst_o {r m : Nat} {g o : Nat → Nat} {e : Nat → Nat → Int32} (hg : ∀ j, j < m → g j < m) {q : (Nat → Int32) × (Nat → Int32)} {t : Nat} {i : Nat} (h : (∃ c, c < m ∧ q.1 i = nI c) ∨ q.1 i = -2) : (∃ c, c < m ∧ (am_gst r m g o e q t).1 i = nI c) ∨ (am_gst r m g o e q t).1 i = -2 := by
  unfold am_gst
  by_cases m0 : m = 0
  · rw [if_pos m0]
    show (∃ c, c < m ∧ upd q.1 (o t) (-2) i = nI c) ∨ upd q.1 (o t) (-2) i = -2
    unfold upd
    by_cases e : i = o t
    · rw [if_pos e]
      exact Or.inr rfl
    · rw [if_neg e]
      exact h
  · rw [if_neg m0]
    have lw := am_who_lt (r := r) (g := g) (t := t) (e := fun c => e c (o t)) (s := q.2) (by omega) hg
    generalize am_who r m g (fun c => e c (o t)) q.2 t = w at lw
    show (∃ c, c < m ∧ upd q.1 (o t) (nI w) i = nI c) ∨ upd q.1 (o t) (nI w) i = -2
    unfold upd
    by_cases e : i = o t
    · rw [if_pos e]
      exact Or.inl ⟨w, lw, rfl⟩
    · rw [if_neg e]
      exact h
theorem am_gv_o {r m : Nat} {g o : Nat → Nat} {e : Nat → Nat → Int32} {t0 : Nat} (hg : ∀ j, j < m → g j < m) {q : (Nat → Int32) × (Nat → Int32)} {i : Nat} (h : (∃ c, c < m ∧ q.1 i = nI c) ∨ q.1 i = -2) : ∀ k, (∃ c, c < m ∧ (am_gv r m g o e t0 q k).1 i = nI c) ∨ (am_gv r m g o e t0 q k).1 i = -2
  | 0 => h
  | k + 1 => am_gst_o hg (am_gv_o hg h k)
theorem am_gvn_o {P : List (List Nat × List Nat)} {u : Nat → Nat → Int32} {n m r : Nat} : am_own n m (am_gvn P u n m r).1 := fun _ _ => am_gv_o am_gg_lt (Or.inr rfl) n
/-- with children, each door is somebody's -/
theorem am_gst_p {r m : Nat} {g o : Nat → Nat} {e : Nat → Nat → Int32} (hm : 0 < m) (hg : ∀ j, j < m → g j < m) {q : (Nat → Int32) × (Nat → Int32)} {t : Nat} {i : Nat} (h : i = o t ∨ ∃ c, c < m ∧ q.1 i = nI c) : ∃ c, c < m ∧ (am_gst r m g o e q t).1 i = nI c := by
  unfold am_gst
  rw [if_neg (by omega)]
  have lw := am_who_lt (r := r) (g := g) (t := t) (e := fun c => e c (o t)) (s := q.2) hm hg
  generalize am_who r m g (fun c => e c (o t)) q.2 t = w at lw
  show ∃ c, c < m ∧ upd q.1 (o t) (nI w) i = nI c
  unfold upd
  by_cases e : i = o t
  · rw [if_pos e]
    exact ⟨w, lw, rfl⟩
  · rw [if_neg e]
    exact h.resolve_left e
theorem am_gv_p {r m : Nat} {g o : Nat → Nat} {e : Nat → Nat → Int32} {t0 : Nat} (hm : 0 < m) (hg : ∀ j, j < m → g j < m) {q : (Nat → Int32) × (Nat → Int32)} : ∀ k j, j < k → ∃ c, c < m ∧ (am_gv r m g o e t0 q k).1 (o (t0 + j)) = nI c
  | 0, _, h => absurd h (Nat.not_lt_zero _)
  | k + 1, j, h => by
    refine am_gst_p hm hg ?_
    by_cases e : j = k
    · rw [e]
      exact Or.inl rfl
    · exact Or.inr (am_gv_p hm hg k j (by omega))
theorem am_gvn_p {P : List (List Nat × List Nat)} {u : Nat → Nat → Int32} {n m r : Nat} (hm : 0 < m) : ∀ i, i < n → ∃ c, c < m ∧ (am_gvn P u n m r).1 i = nI c := fun i hi => by
  obtain ⟨j, hj, ej⟩ := am_god_s (u := u) i hi
  have z := am_gv_p (r := r) (g := am_gg u m) (o := am_god u 0 n) (e := am_ge P u) (t0 := 0) (q := (fun _ => -2, fun _ => 0)) hm am_gg_lt n j hj
  rw [ej] at z
  exact z
theorem am_gst_z {r : Nat} {g o : Nat → Nat} {e : Nat → Nat → Int32} {t0 : Nat} {q : (Nat → Int32) × (Nat → Int32)} {i : Nat} (h : q.1 i = -2) : ∀ k, (am_gv r 0 g o e t0 q k).1 i = -2
  | 0 => h
  | k + 1 => by
    have ih := am_gst_z (r := r) (g := g) (o := o) (e := e) (t0 := t0) h k
    show (am_gst r 0 g o e (am_gv r 0 g o e t0 q k) (t0 + k)).1 i = -2
    unfold am_gst
    rw [if_pos rfl]
    show upd (am_gv r 0 g o e t0 q k).1 (o (t0 + k)) (-2) i = -2
    unfold upd
    split
    · rfl
    · exact ih
theorem am_gvn_z {P : List (List Nat × List Nat)} {u : Nat → Nat → Int32} {n r : Nat} (i : Nat) : (am_gvn P u n 0 r).1 i = -2 := am_gst_z rfl n
def am_own2 (n m : Nat) (w : Nat → Int32) : Prop := (∀ i, i < n → ∃ c, c < m ∧ w i = nI c) ∨ ∀ i, i < n → w i = -2
section SP53
variable {d n m : Nat} {u : Nat → Nat → Int32} {mi : am_MI} {ml : am_ML} {R : am_R} {r : Nat} {P : List (List Nat × List Nat)} {Q : Int32 → Int32 → am_MI → am_ML → Prop} {e : Nat → Nat → Int32} {w : Nat → Int32}
/-- pleasesBoth -/
theorem sp_50 {x y : Int32} {i j : Nat} (hc : am_cx n m u mi) (he : ∀ c i, c < m → i < n → mi (26 + c) i = e c i) (hw : ∀ i, i < n → mi 44 i = w i) (ho : am_own2 n m w) (hi : i < n) (hj : j < n) (hx : x = nI i) (hy : y = nI j) (h1 : am_pls e w i j = true → R (some (.int 1)) mi ml) (h0 : ¬ am_pls e w i j = true → R (some (.int 0)) mi ml) : am_call (d + 2) 50 [.ref 22, .int x, .int y] mi ml R := by
  subst hx
  subst hy
  have hn := hc.1
  have hm5 := hc.2.1
  have ci : (nI i).toNatClampNeg = i := nI_clamp (by omega)
  have cj : (nI j).toNatClampNeg = j := nI_clamp (by omega)
  have vi : vp_in (nI i) 12 := vp_in_nI (by omega) (by omega)
  have vj : vp_in (nI j) 12 := vp_in_nI (by omega) (by omega)
  have un : am_pls e w i j = decide (¬ w i = w j ∧ e (w i).toNatClampNeg i < e (w i).toNatClampNeg j ∧ e (w j).toNatClampNeg j < e (w j).toNatClampNeg i) := rfl
  have n1 : ¬ (¬ w i = w j ∧ e (w i).toNatClampNeg i < e (w i).toNatClampNeg j ∧ e (w j).toNatClampNeg j < e (w j).toNatClampNeg i) → am_wp (am_call (d + 1)) mt_50 R 51 [none, none, none, none, none] [] mi ml := fun g => bk_50_51 (bk_50_52 ⟨am_b0, h0 (by rw [un]; exact fun q => g (of_decide_eq_true q))⟩)
  refine bk_50 ?_
  rw [ci, cj, hw i hi, hw j hj]
  refine ⟨vi, vj, fun q => n1 (fun g => g.1 q), fun q => ?_⟩
  rcases ho with ho | ho
  · obtain ⟨a, ha, ea⟩ := ho i hi
    obtain ⟨b, hb, eb⟩ := ho j hj
    refine sp_1 hc (fun k hk ek => am_ri_i (am_y ?_)) (fun g => ?_)
    · refine sp_1 hc (fun k2 hk2 ek2 => am_ri_i (am_y ?_)) (fun g => ?_)
      · obtain ⟨-, -, -, -, a1, a2⟩ := am_k38 a (by omega)
        obtain ⟨-, -, -, -, b1, b2⟩ := am_k38 b (by omega)
        rw [ea, eb] at n1 un q
        have ca : (nI a).toNatClampNeg = a := nI_clamp (by omega)
        have cb : (nI b).toNatClampNeg = b := nI_clamp (by omega)
        rw [ca, cb] at n1 un
        rw [ea, eb, ca, cb, Nat.one_mul, Nat.one_mul, a1, b1, am_len2 a1, am_len2 b1, a2, b2, he a i ha hi, he a j ha hj, he b i hb hi, he b j hb hj]
        refine ⟨vp_in_nI (by omega) (by omega), am_need_i rfl ⟨vj, vp_in_nI (by omega) (by omega), am_need_i rfl ⟨vi, fun g => n1 (fun z => ?_), fun g => ⟨vp_in_nI (by omega) (by omega), am_need_i rfl ⟨vi, vp_in_nI (by omega) (by omega), am_need_i rfl ⟨vj, fun g2 => n1 (fun z => ?_), fun g2 => bk_50_52 ⟨am_b1, h1 ?_⟩⟩⟩⟩⟩⟩⟩
        · have z := z.2.1
          rw [am_lt_i] at z
          rw [am_le_i] at g
          omega
        · have z := z.2.2
          rw [am_lt_i] at z
          rw [am_le_i] at g2
          omega
        · rw [un]
          rw [am_le_i] at g g2
          exact decide_eq_true ⟨q, by rw [am_lt_i]; omega, by rw [am_lt_i]; omega⟩
      · rw [eb, am_ti (by omega)] at g
        omega
    · rw [ea, am_ti (by omega)] at g
      omega
  · exact absurd ((ho i hi).trans (ho j hj).symm) q
/-- firstSwap -/
theorem sp_49 (hc : am_cx n m u mi) (he : ∀ c i, c < m → i < n → mi (26 + c) i = e c i) (hw : ∀ i, i < n → mi 44 i = w i) (ho : am_own2 n m w) (h : R (some (.int (am_enc (am_fsi (am_pls e w) n 0 n)))) mi ml) : am_call (d + 3) 49 [.ref 22] mi ml R := by
  have hn := hc.1
  have outer : ∀ k i, i + k = n → R (some (.int (am_enc (am_fsi (am_pls e w) n i k)))) mi ml → am_wp (am_call (d + 2)) mt_49 R 2 [some (.ref 22), some (.int (nI i)), none] [] mi ml := by
    intro k
    induction k with
    | zero =>
      intro i ei g
      have ei : i = n := ei
      subst ei
      exact bk_49_2 (pk_le _ _ (fun _ => g) (fun q => absurd q (Nat.lt_irrefl _)) hc.2.2.1 rfl)
    | succ k ih =>
      intro i ei g
      refine bk_49_2 (pk_le n i (fun q => absurd q (by omega)) (fun _ => ?_) hc.2.2.1 rfl)
      have inner : ∀ v j, j + v = n → R (some (.int (am_enc (match am_fsj (am_pls e w) i j v with | some q => some q | none => am_fsi (am_pls e w) n (i + 1) k)))) mi ml → am_wp (am_call (d + 2)) mt_49 R 11 [some (.ref 22), some (.int (nI i)), some (.int (nI j))] [] mi ml := by
        intro v
        induction v with
        | zero =>
          intro j ej g
          have ej : j = n := ej
          subst ej
          refine bk_49_11 (pk_le _ _ (fun _ => ?_) (fun q => absurd q (Nat.lt_irrefl _)) hc.2.2.1 rfl)
          rw [nI_1]
          exact ih (i + 1) (by omega) g
        | succ v iv =>
          intro j ej g
          unfold am_fsj at g
          refine bk_49_11 (pk_le n j (fun q => absurd q (by omega)) (fun _ => sp_50 hc he hw ho (by omega) (by omega) rfl rfl (fun q => am_ri_i (am_y ?_)) (fun q => am_ri_i (am_n0 ?_))) hc.2.2.1 rfl)
          · rw [if_pos q] at g
            have e2 : (20 : Int32) * nI i + nI j = nI (20 * i + j) := by
              rw [show (20 : Int32) * nI i = nI (20 * i) from pk_mul 20 i, nI_add]
            rw [e2]
            exact g
          · rw [if_neg q] at g
            rw [nI_1]
            exact iv (j + 1) (by omega) g
      rw [nI_1]
      exact inner (n - (i + 1)) (i + 1) (by omega) g
  exact bk_49 (outer n 0 (Nat.zero_add _) h)
/-- firstSwapBy -/
theorem sp_48 {x : Int32} (hr : r < 5) (hc : am_cx n m u mi) (hf : am_fre P u n m mi) (ho : am_own2 n m (am_gvn P u n m r).1) (hx : x = nI r) (h : ∀ m2, am_kp (fun c _ => decide (c = 44)) mi m2 → (∀ i, i < n → m2 44 i = (am_gvn P u n m r).1 i) → R (some (.int (am_enc (am_fsi (am_pls (am_ge P u) (am_gvn P u n m r).1) n 0 n)))) m2 ml) : am_call (d + 4) 48 [.ref 22, .int x] mi ml R := by
  subst hx
  have hn := hc.1
  obtain ⟨-, -, a1, a2, -⟩ := am_k38 r hr
  have cr : (nI r).toNatClampNeg = r := nI_clamp (by omega)
  refine bk_48 ?_
  rw [cr, Nat.one_mul, a1, a2]
  refine ⟨vp_in_nI hr (by omega), by decide, by decide, by decide, by decide, by decide, ?_⟩
  show am_call (d + 3) 49 [.ref 22] (am_ci mi (32 + r) 0 44 0 12) ml _
  have k2 : am_kp (fun c _ => decide (c = 44)) mi (am_ci mi (32 + r) 0 44 0 12) := fun c j q => by
    have q := of_decide_eq_false q
    unfold am_ci
    rw [if_neg (fun z => q z.1)]
  have hw : ∀ i, i < n → am_ci mi (32 + r) 0 44 0 12 44 i = (am_gvn P u n m r).1 i := fun i hi => by
    unfold am_ci
    rw [if_pos ⟨rfl, Nat.zero_le _, by omega⟩, Nat.sub_zero, Nat.zero_add]
    exact (hf.2.2.2.1 r hr).1 i hi
  exact sp_49 (am_cx_on hc (k2 1 1 rfl) (k2 1 2 rfl) (fun w i hw => k2 _ _ (decide_eq_false (by omega)))) (fun c i hcm hi => (k2 _ _ (decide_eq_false (by have := hc.2.1; omega))).trans (hf.2.2.1 c i hcm hi)) hw ho (am_ri_i (h _ k2 hw))
theorem am_gvn_2 : am_own2 n m (am_gvn P u n m r).1 := by
  by_cases m0 : m = 0
  · subst m0
    exact Or.inr (fun i _ => am_gvn_z i)
  · exact Or.inl (am_gvn_p (by omega))
theorem am_kV_44 {a b : am_MI} (h : am_kp (fun c _ => decide (c = 44)) a b) : am_kp (am_FV n) a b := am_kp_w h (fun c j q => by
  have q := of_decide_eq_false q
  exact decide_eq_false (by omega))
end SP53
