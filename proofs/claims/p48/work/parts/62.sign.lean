/-! signs: rows of bytes, who was at a door; on both sides -/
def am_bc1 (a : Int32) : Int32 := a - ((am_ushr a 1) &&& 1431655765)
def am_bc2 (a : Int32) : Int32 := (a &&& 858993459) + ((am_ushr a 2) &&& 858993459)
def am_bc3 (a : Int32) : Int32 := (a + (am_ushr a 4)) &&& 252645135
def am_bc4 (a : Int32) : Int32 := a + (am_ushr a 8)
def am_bc5 (a : Int32) : Int32 := (a + (am_ushr a 16)) &&& 63
/-- how many bits -/
def am_bc (a : Int32) : Int32 := am_bc5 (am_bc4 (am_bc3 (am_bc2 (am_bc1 a))))
/-- shelf s holds a row of l bytes -/
def am_rw (s l : Nat) (mi : am_MI) (_ : am_ML) : Prop := mi (66 + 2 * s) 0 = 2 ∧ mi (66 + 2 * s) 2 = 0 ∧ True ∧ mi (66 + 2 * s) 3 = nI l ∧ True ∧ l ≤ 60
def am_nrw (s : Nat) (v : Int32) (mi : am_MI) : Prop := (v = -11 ∧ mi (66 + 2 * s) 0 = 0 ∧ True) ∨ (v = -12 ∧ (mi (66 + 2 * s) 0 = 1 ∨ (mi (66 + 2 * s) 0 = 2 ∧ ¬ mi (66 + 2 * s) 2 = 0)) ∧ True)
theorem am_rw_on {s l : Nat} {a b : am_MI} {ml : am_ML} (hs : s < 6) (h : am_rw s l a ml) (he : ∀ c j, am_F66 c j = true → b c j = a c j) : am_rw s l b ml := by
  obtain ⟨h1, h2, h3, h4, h5, h6⟩ := h
  have e1 : ∀ j, b (66 + 2 * s) j = a (66 + 2 * s) j := fun j => he _ _ (decide_eq_true (by omega))
  exact ⟨(e1 0).trans h1, (e1 2).trans h2, trivial, (e1 3).trans h4, trivial, h6⟩
theorem am_rw_V {n s l : Nat} {a b : am_MI} {ml : am_ML} (hs : s < 6) (h : am_rw s l a ml) (k : am_kp (am_FV n) a b) : am_rw s l b ml := am_rw_on hs h (fun c j q => by
  have q := of_decide_eq_true q
  exact k c j (decide_eq_false (by omega)))
/-- an early door is told at j; all -/
def am_erp (n : Nat) (u : Nat → Nat → Int32) (f : Nat → Int32) (z : Int32) (j : Nat) : Bool := decide (0 ≤ (f j).toInt ∧ (f j).toInt < n ∧ z < u 0 (f j).toNatClampNeg)
def am_erl (n : Nat) (u : Nat → Nat → Int32) (f : Nat → Int32) (z : Int32) : Nat → Int32
  | 0 => 0
  | j + 1 => if am_erp n u f z j = true then am_erl n u f z j ||| am_shl 1 (f j) else am_erl n u f z j
/-- a child has a reason at door i; at one of the first k -/
def am_rp (u : Nat → Nat → Int32) (own : Nat → Int32) (E : Int32) (c i : Nat) : Bool := decide (am_shr E (nI i) &&& 1 = 1 ∧ (u 1 i = u 4 c ∨ own i = nI c))
def am_rsn (u : Nat → Nat → Int32) (own : Nat → Int32) (E : Int32) (c : Nat) : Nat → Bool
  | 0 => false
  | k + 1 => am_rsn u own E c k || am_rp u own E c k
def am_cbp (u : Nat → Nat → Int32) (own : Nat → Int32) (E z : Int32) (k c : Nat) : Bool := decide (¬ am_aw u c z) && am_rsn u own E c k
def am_cbe (n m : Nat) (u : Nat → Nat → Int32) (own : Nat → Int32) (E z : Int32) : Int32 := am_bt (am_cbp u own E z n) m
theorem am_bt_c {p q : Nat → Bool} : ∀ k, (∀ j, j < k → p j = q j) → am_bt p k = am_bt q k
  | 0, _ => rfl
  | k + 1, h => by
    unfold am_bt
    rw [am_bt_c k (fun j hj => h j (by omega)), h k (by omega)]
theorem am_bt_o {p : Nat → Bool} {k : Nat} : ∀ m, k < m → am_bt p m ||| am_shl 1 (nI k) = am_bt (fun c => p c || c == k) m
  | 0, h => absurd h (Nat.not_lt_zero _)
  | m + 1, h => by
    by_cases e : k = m
    · subst e
      have e1 : am_bt (fun c => p c || c == k) k = am_bt p k := am_bt_c k (fun j hj => by
        have : (j == k) = false := beq_false_of_ne (by omega)
        simp only [this, Bool.or_false])
      rw [am_bt_y (p := fun c => p c || c == k) (by simp), e1]
      by_cases q : p k = true
      · rw [am_bt_y q, Int32.or_assoc, Int32.or_self]
      · rw [am_bt_n q]
    · have ih := am_bt_o (p := p) (k := k) m (by omega)
      have ne : (m == k) = false := beq_false_of_ne (by omega)
      by_cases q : p m = true
      · rw [am_bt_y q, am_bt_y (p := fun c => p c || c == k) (by simp [q]), ← ih, Int32.or_assoc, Int32.or_assoc, Int32.or_comm (am_shl 1 (nI m))]
      · rw [am_bt_n q, am_bt_n (p := fun c => p c || c == k) (by simp [q, ne]), ih]
theorem am_bt_k {q : Nat → Bool} : ∀ m, m ≤ 5 → ∃ k, k < 2 ^ m ∧ am_bt q m = nI k
  | 0, _ => ⟨0, by decide, rfl⟩
  | m + 1, h => by
    obtain ⟨k, hk, e⟩ := am_bt_k (q := q) m (by omega)
    by_cases g : q m = true
    · rw [am_bt_y g, e]
      have d5 : ∀ j, j < 5 → ∀ a, a < 2 ^ j → nI a ||| am_shl 1 (nI j) = nI (a + 2 ^ j) := by decide +kernel
      rw [d5 m (by omega) k hk]
      exact ⟨k + 2 ^ m, by rw [Nat.pow_succ]; omega, rfl⟩
    · rw [am_bt_n g]
      exact ⟨k, by rw [Nat.pow_succ]; omega, e⟩
/-- the only one -/
def am_onl (w : Int32) : Nat → Nat → Int32
  | 0, _ => -2
  | k + 1, c => if w = am_shl 1 (nI c) then nI c else am_onl w k (c + 1)
theorem am_onl_d : ∀ m, m ≤ 5 → ∀ k, k < 2 ^ m → (am_bc (nI k) = 1 → ∃ c, c < 5 ∧ k = 2 ^ c ∧ am_onl (nI k) m 0 = nI c) ∧ (¬ am_bc (nI k) = 1 → am_onl (nI k) m 0 = -2) := by decide +kernel
/-- first told otherwise -/
def am_sop (n m : Nat) (own f : Nat → Int32) (j : Nat) : Bool := decide (j < n ∧ (f j = -1 ∨ (0 ≤ (f j).toInt ∧ (f j).toInt < m ∧ own j = f j)))
def am_fns (p : Nat → Bool) : Nat → Nat → Int32
  | 0, _ => -2
  | k + 1, j => if p j = true then am_fns p k (j + 1) else nI j
/-- whom the fewest are left by -/
def am_lft2 (w : Int32) (c : Nat) : Int32 := am_bc (w &&& ((am_shl 1 (nI c)) ^^^ (-1)))
def am_grd (w : Int32) : Nat → Nat
  | 0 => 0
  | k + 1 => if am_lft2 w (am_grd w k) ≤ am_lft2 w (k + 1) then am_grd w k else k + 1
theorem am_grd_le (w : Int32) : ∀ k, am_grd w k ≤ k
  | 0 => Nat.le_refl _
  | k + 1 => by
    have := am_grd_le w k
    unfold am_grd
    split <;> omega
section SP62
variable {d n m : Nat} {u : Nat → Nat → Int32} {mi : am_MI} {ml : am_ML} {R : am_R} {r c s l : Nat} {P : List (List Nat × List Nat)} {Q : Int32 → Int32 → am_MI → am_ML → Prop} {f own : Nat → Int32}
theorem sp_273 {x : Int32} (h : R (some (.int (am_bc x))) mi ml) : am_call (d + 1) 273 [.int x] mi ml R := bk_273 h
/-- refusesBytes -/
theorem sp_100r (hs : s < 6) (h : am_rw s l mi ml) (hR : R (some (.int 0)) mi ml) : am_call (d + 2) 100 [.ref (66 + 2 * s)] mi ml R := by
  obtain ⟨h1, h2, -⟩ := h
  refine bk_100 (am_need_o hs rfl (sp_99 hs (fun z => ?_) (fun _ => am_ri_i ⟨fun z => absurd rfl z, fun _ => am_need_o hs rfl ⟨fun _ => hR, fun z => absurd h2 z⟩⟩) (fun _ z => absurd h1 z)))
  rw [h1] at z
  exact absurd z (by decide)
theorem sp_100n {v : Int32} (hs : s < 6) (h : am_nrw s v mi) (hR : R (some (.int v)) mi ml) : am_call (d + 2) 100 [.ref (66 + 2 * s)] mi ml R := by
  rcases h with ⟨ev, h1, -⟩ | ⟨ev, h1, -⟩
  · subst ev
    refine bk_100 (am_need_o hs rfl (sp_99 hs (fun _ => am_ri_i ⟨fun _ => hR, fun z => absurd (by decide) z⟩) (fun z => ?_) (fun z _ => absurd h1 z)))
    rw [h1] at z
    exact absurd z (by decide)
  · subst ev
    rcases h1 with h1 | ⟨h1, h2⟩
    · refine bk_100 (am_need_o hs rfl (sp_99 hs (fun z => ?_) (fun z => ?_) (fun _ _ => am_ri_i ⟨fun _ => hR, fun z => absurd (by decide) z⟩)))
      · rw [h1] at z
        exact absurd z (by decide)
      · rw [h1] at z
        exact absurd z (by decide)
    · refine bk_100 (am_need_o hs rfl (sp_99 hs (fun z => ?_) (fun _ => am_ri_i ⟨fun z => absurd rfl z, fun _ => am_need_o hs rfl ⟨fun z => absurd z h2, fun _ => hR⟩⟩) (fun _ z => absurd h1 z)))
      rw [h1] at z
      exact absurd z (by decide)
/-- earlyOnes -/
theorem sp_107 {z : Int32} (hs : s < 6) (h : am_rw s l mi ml) (hc : am_cx n m u mi) (hf : ∀ j, j < l → (ml (67 + 2 * s) j).toInt32 = f j) (hR : R (some (.int (am_erl n u f z l))) mi ml) : am_call (d + 3) 107 [.ref 58, .ref (66 + 2 * s), .int z] mi ml R := by
  obtain ⟨-, -, -, h4, -, hl⟩ := h
  have hn := hc.1
  refine bk_107 (am_for l (fun j => am_wp (am_call (d + 2)) mt_107 R 4 [some (.ref 58), some (.ref (66 + 2 * s)), some (.int z), some (.int (am_erl n u f z j)), some (.int (nI j)), none] [] mi ml) ?_ (fun j hj ih => ?_) 0 (Nat.zero_le _))
  · exact bk_107_4 (am_need_o hs rfl (pk_le l l (fun _ => hR) (fun q => absurd q (Nat.lt_irrefl _)) h4 rfl))
  · have un : am_erl n u f z (j + 1) = if am_erp n u f z j = true then am_erl n u f z j ||| am_shl 1 (f j) else am_erl n u f z j := rfl
    rw [un] at ih
    refine bk_107_4 (am_need_o hs rfl (pk_le l j (fun q => absurd q (by omega)) (fun _ => am_need_o hs rfl (sp_103 hs hl h4 hj rfl (am_rj_i ?_))) h4 rfl))
    rw [hf j hj, nI_1]
    refine sp_0 hc (fun k hk e => am_ri_i (am_y (sp_4c hc (w := 0) rfl e (am_vd (by omega) hk) (am_ri_i ⟨fun q => ?_, fun q => ?_⟩)))) (fun g => am_ri_i (am_n0 ?_))
    · rw [if_neg (fun y => by
        have y := (of_decide_eq_true y).2.2
        rw [e, nI_clamp (by omega), am_lt_i] at y
        rw [am_le_i] at q
        omega)] at ih
      exact ih
    · rw [if_pos (show am_erp n u f z j = true from decide_eq_true (by
        rw [e, am_ti (by omega), nI_clamp (by omega), am_lt_i]
        rw [am_le_i] at q
        omega))] at ih
      exact ih
    · rw [if_neg (fun y => by
        have y := of_decide_eq_true y
        omega)] at ih
      exact ih
theorem am_rsn_m {E : Int32} : ∀ v k, am_rsn u own E c k = true → am_rsn u own E c (k + v) = true
  | 0, _, h => h
  | v + 1, k, h => by
    show (am_rsn u own E c (k + v) || am_rp u own E c (k + v)) = true
    rw [am_rsn_m v k h, Bool.true_or]
/-- hasReason -/
theorem sp_109 {x y z : Int32} (hr : r < 5) (hc : am_cx n m u mi) (ho : ∀ i, i < n → mi (32 + r) i = own i) (hcm : c < m) (hx : x = nI c) (hz : z = nI r) (h1 : am_rsn u own y c n = true → R (some (.int 1)) mi ml) (h0 : ¬ am_rsn u own y c n = true → R (some (.int 0)) mi ml) : am_call (d + 2) 109 [.ref 58, .int x, .int y, .int z] mi ml R := by
  subst hx
  subst hz
  have hn := hc.1
  have hm5 := hc.2.1
  have loop : ∀ v k, k + v = n → ¬ am_rsn u own y c k = true → am_wp (am_call (d + 1)) mt_109 R 2 [some (.ref 58), some (.int (nI c)), some (.int y), some (.int (nI r)), some (.int (nI k)), none] [] mi ml := by
    intro v
    induction v with
    | zero =>
      intro k ek hk
      have ek : k = n := ek
      rw [ek] at hk ⊢
      exact bk_109_2 (pk_le n n (fun _ => ⟨am_b0, h0 hk⟩) (fun q => absurd q (Nat.lt_irrefl _)) hc.2.2.1 rfl)
    | succ v ih =>
      intro k ek hk
      have hkn : k < n := by omega
      have ih := ih (k + 1) (by omega)
      have un : am_rsn u own y c (k + 1) = (am_rsn u own y c k || am_rp u own y c k) := rfl
      have hkf : am_rsn u own y c k = false := by
        cases hh : am_rsn u own y c k with
        | true => exact absurd hh hk
        | false => rfl
      rw [hkf, Bool.false_or] at un
      have yes : am_rp u own y c k = true → R (some (.int 1)) mi ml := fun g => h1 (by
        have := am_rsn_m (u := u) (own := own) (c := c) (E := y) v (k + 1) (by rw [un]; exact g)
        rw [show k + 1 + v = n from by omega] at this
        exact this)
      have no : ¬ am_rp u own y c k = true → am_wp (am_call (d + 1)) mt_109 R 2 [some (.ref 58), some (.int (nI c)), some (.int y), some (.int (nI r)), some (.int (nI k + 1)), none] [] mi ml := fun g => by
        rw [nI_1]
        exact ih (by rw [un]; exact g)
      have e38 : ∀ K : am_R, K (some (.int (own k))) mi ml → am_call (d + 1) 38 [.ref 22, .int (nI r), .int (nI k)] mi ml K := fun K g => sp_38 hr (by omega) rfl rfl (by rw [ho k hkn]; exact g)
      refine bk_109_2 (pk_le n k (fun q => absurd q (by omega)) (fun _ => sp_4c hc (w := 1) rfl rfl (am_vd (by omega) hkn) (am_ri_i (sp_4c hc (w := 4) rfl rfl (am_vc (by omega) (by omega) hcm) (am_ri_i ?_)))) hc.2.2.1 rfl)
      refine ⟨fun q => ⟨fun q2 => no (fun g => q2 (of_decide_eq_true g).1), fun q2 => am_nn (e38 _ (am_ri_i ⟨fun q3 => no (fun g => ?_), fun q3 => ⟨am_b1, yes (decide_eq_true ⟨Decidable.not_not.mp q2, Or.inr (Decidable.not_not.mp q3)⟩)⟩⟩))⟩, fun q => ⟨fun q2 => no (fun g => q2 (of_decide_eq_true g).1), fun q2 => am_yn ⟨am_b1, yes (decide_eq_true ⟨Decidable.not_not.mp q2, Or.inl (Decidable.not_not.mp q)⟩)⟩⟩⟩
      rcases (of_decide_eq_true g).2 with g | g
      · exact q g
      · exact q3 g
  exact bk_109 (loop n 0 (Nat.zero_add _) (fun q => absurd (show false = true from q) (by decide)))
/-- couldHaveBeen -/
theorem sp_108 {z y : Int32} (hs : s < 6) (h : am_rw s l mi ml) (hr : r < 5) (hc : am_cx n m u mi) (hu : am_ur n m u) (ho : ∀ i, i < n → mi (32 + r) i = own i) (hf : ∀ j, j < l → (ml (67 + 2 * s) j).toInt32 = f j) (hy : y = nI r) (hR : R (some (.int (am_cbe n m u own (am_erl n u f z l) z))) mi ml) : am_call (d + 4) 108 [.ref 58, .ref (66 + 2 * s), .int z, .int y] mi ml R := by
  refine bk_108 (sp_107 hs h hc hf (am_ri_i ?_))
  generalize am_erl n u f z l = E at hR
  unfold am_cbe at hR
  refine am_for m (fun k => am_wp (am_call (d + 3)) mt_108 R 9 [some (.ref 58), none, some (.int z), some (.int y), some (.int E), some (.int (am_bt (am_cbp u own E z n) k)), some (.int (nI k))] [] mi ml) ?_ (fun k hk ih => ?_) 0 (Nat.zero_le _)
  · exact bk_108_9 (pk_le m m (fun _ => hR) (fun q => absurd q (Nat.lt_irrefl _)) hc.2.2.2.1 rfl (by have := hc.2.1; omega) (by have := hc.2.1; omega))
  · have un : am_cbp u own E z n k = (decide (¬ am_aw u k z) && am_rsn u own E k n) := rfl
    refine bk_108_9 (pk_le m k (fun q => absurd q (by omega)) (fun _ => sp_8 hc hu hk rfl (fun g => am_ri_i (am_yn ?_)) (fun g => am_ri_i (am_nn (sp_109 hr hc ho hk rfl hy (fun g2 => am_ri_i (am_y ?_)) (fun g2 => am_ri_i (am_n0 ?_)))))) hc.2.2.2.1 rfl (by have := hc.2.1; omega) (by have := hc.2.1; omega))
    · rw [am_bt_n (by rw [un, decide_eq_false (fun q => q g), Bool.false_and]; decide)] at ih
      rw [nI_1]
      exact ih
    · rw [am_bt_y (by rw [un, decide_eq_true g, g2]; rfl)] at ih
      rw [nI_1]
      exact ih
    · rw [am_bt_n (by rw [un, decide_eq_true g, Bool.true_and]; exact g2)] at ih
      rw [nI_1]
      exact ih
end SP62
