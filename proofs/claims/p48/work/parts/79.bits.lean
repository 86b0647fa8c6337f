/-! bits: how many, which -/
theorem dq_bt_e {q : Nat → Bool} : ∀ m, m ≤ 12 → am_bt q m = nI (am_btn q m) ∧ am_btn q m < 2 ^ m
  | 0, _ => ⟨rfl, by show 0 < 2 ^ 0; decide⟩
  | m + 1, h => by
    obtain ⟨e, hk⟩ := dq_bt_e (q := q) m (by omega)
    by_cases g : q m = true
    · have u : am_btn q (m + 1) = am_btn q m + 2 ^ m := by
        show am_btn q m + (if q m = true then 2 ^ m else 0) = _
        rw [if_pos g]
      rw [am_bt_y g, e, u]
      have d5 : ∀ j, j < 12 → ∀ a, a < 2 ^ j → nI a ||| am_shl 1 (nI j) = nI (a + 2 ^ j) := by decide +kernel
      rw [d5 m (by omega) _ hk]
      exact ⟨rfl, by rw [Nat.pow_succ]; omega⟩
    · have u : am_btn q (m + 1) = am_btn q m := by
        show am_btn q m + (if q m = true then 2 ^ m else 0) = _
        rw [if_neg g, Nat.add_zero]
      rw [am_bt_n g, u]
      exact ⟨e, by rw [Nat.pow_succ]; omega⟩
theorem dq_btn_t {q : Nat → Bool} {i : Nat} : ∀ k, (am_btn q k).testBit i = (decide (i < k) && q i)
  | 0 => by
    show (0 : Nat).testBit i = _
    simp
  | k + 1 => by
    have ih := dq_btn_t (q := q) (i := i) k
    have hlt : am_btn q k < 2 ^ k := by
      have key : ∀ k, am_btn q k < 2 ^ k := by
        intro k
        induction k with
        | zero => show 0 < 2 ^ 0; decide
        | succ k ih =>
          show am_btn q k + (if q k = true then 2 ^ k else 0) < 2 ^ (k + 1)
          rw [Nat.pow_succ]
          split <;> omega
      exact key k
    show (am_btn q k + (if q k = true then 2 ^ k else 0)).testBit i = _
    by_cases g : q k = true
    · rw [if_pos g, Nat.add_comm]
      by_cases e : i = k
      · subst e
        rw [Nat.testBit_two_pow_add_eq, Nat.testBit_lt_two_pow hlt, g]
        simp
      · by_cases l : i < k
        · rw [Nat.testBit_two_pow_add_gt l, ih]
          rw [decide_eq_true l, decide_eq_true (show i < k + 1 by omega)]
        · rw [decide_eq_false (show ¬ i < k + 1 by omega), Bool.false_and]
          refine Nat.testBit_lt_two_pow (Nat.lt_of_lt_of_le ?_ (Nat.pow_le_pow_right (by omega) (show k + 1 ≤ i by omega)))
          rw [Nat.pow_succ]
          omega
    · rw [if_neg g, Nat.add_zero, ih]
      by_cases l : i < k
      · rw [decide_eq_true l, decide_eq_true (show i < k + 1 by omega)]
      · rw [decide_eq_false l, Bool.false_and]
        by_cases e : i = k
        · subst e
          rw [Bool.not_eq_true] at g
          rw [g, Bool.and_false]
        · rw [decide_eq_false (show ¬ i < k + 1 by omega), Bool.false_and]
theorem dq_pop2 : ∀ a, a < 64 → ∀ b, b < 64 → am_bc (nI (64 * a + b)) = nI (am_cnt (fun i => (64 * a + b).testBit i) 12) := by decide +kernel
theorem dq_pop (N : Nat) (h : N < 4096) : am_bc (nI N) = nI (am_cnt (fun i => N.testBit i) 12) := by
  have z := dq_pop2 (N / 64) (by omega) (N % 64) (by omega)
  rw [Nat.div_add_mod] at z
  exact z
theorem dq_cnt_x {q : Nat → Bool} {n : Nat} : ∀ k, (∀ i, n ≤ i → q i = false) → am_cnt q (n + k) = am_cnt q n
  | 0, _ => rfl
  | k + 1, h => by
    show am_cnt q (n + k + 1) = _
    rw [am_cnt_s, dq_cnt_x k h, h (n + k) (by omega), if_neg (by decide), Nat.add_zero]
/-- the bits of a sum of them are counted -/
theorem dq_bc_bt {p : Nat → Bool} {n : Nat} (hn : n ≤ 12) : am_bc (am_bt p n) = nI (am_cnt p n) := by
  obtain ⟨e, h⟩ := dq_bt_e (q := p) n hn
  have h2 : am_btn p n < 4096 := Nat.lt_of_lt_of_le h (Nat.le_trans (Nat.pow_le_pow_right (by omega) hn) (by decide))
  rw [e, dq_pop _ h2]
  congr 1
  have e2 : am_cnt (fun i => (am_btn p n).testBit i) 12 = am_cnt (fun i => (am_btn p n).testBit i) n := by
    have z := dq_cnt_x (q := fun i => (am_btn p n).testBit i) (n := n) (12 - n) (fun i hi => by
      show (am_btn p n).testBit i = false
      rw [dq_btn_t, decide_eq_false (by omega), Bool.false_and])
    rw [Nat.add_sub_cancel' hn] at z
    exact z
  rw [e2]
  exact dq_cnt_c n (fun j hj => by
    show (am_btn p n).testBit j = p j
    rw [dq_btn_t, decide_eq_true hj, Bool.true_and])
theorem dq_cnt_0 {p : Nat → Bool} : ∀ k, am_cnt p k = 0 → ∀ i, i < k → p i = false
  | 0, _, i, hi => absurd hi (Nat.not_lt_zero _)
  | k + 1, h, i, hi => by
    rw [am_cnt_s] at h
    by_cases e : i = k
    · subst e
      by_cases g : p i = true
      · rw [if_pos g] at h
        omega
      · exact Bool.not_eq_true _ ▸ g
    · exact dq_cnt_0 k (by omega) i (by omega)
theorem dq_bt_0 {p : Nat → Bool} : ∀ k, (∀ i, i < k → p i = false) → am_bt p k = 0
  | 0, _ => rfl
  | k + 1, h => by
    rw [am_bt_n (by rw [h k (by omega)]; decide)]
    exact dq_bt_0 k (fun i hi => h i (by omega))
/-- a bit of them -/
theorem dq_bit5 : ∀ k, k < 32 → ∀ r, r < 5 → ((am_shr (nI k) (nI r)) &&& 1 = 0 ↔ k.testBit r = false) := by decide +kernel
theorem dq_grd_in : ∀ m, m < 6 → 0 < m → ∀ k, k < 2 ^ m → ¬ k = 0 → ¬ ((am_shr (nI k) (nI (am_grd (nI k) (m - 1)))) &&& 1 = 0) := by decide +kernel
theorem dq_shr0i : ∀ i, i < 12 → am_shr 0 (nI i) &&& 1 = 0 := by decide
section SP79
variable {n m r c : Nat} {u : Nat → Nat → Int32} {P : List (List Nat × List Nat)}
/-- early waited for: no more than its own -/
theorem dq_wt_e (hn : n ≤ 12) : ∃ q, q ≤ dq_cn (am_gvn P u n m r).1 c n ∧ am_bc (dq_wt P u n m r c) = nI q :=
  ⟨_, dq_cnt_mono n (fun j _ h => by
    have h := of_decide_eq_true h
    exact decide_eq_true h.1), dq_bc_bt hn⟩
/-- who could have been, as a number -/
theorem dq_who_k {f : Nat → Int32} {l : Nat} {z : Int32} (hm : m ≤ 5) : ∃ k, k < 2 ^ m ∧ dq_who P u n m r f l z = nI k := am_bt_k m hm
/-- the early ones, told in order -/
theorem dq_erl_b {f : Nat → Int32} {z : Int32} : ∀ l, (∀ j, j < l → f j = nI j) → am_erl n u f z l = am_bt (fun j => am_erp n u f z j) l
  | 0, _ => rfl
  | l + 1, h => by
    unfold am_erl am_bt
    rw [dq_erl_b l (fun j hj => h j (by omega)), h l (by omega)]
/-- no early ones: nobody -/
theorem dq_who_0 {f : Nat → Int32} {z : Int32} (hn : n ≤ 12) (h : ∀ j, j < n → f j = nI j) (h0 : am_bc (dq_E n u f n z) = 0) : dq_who P u n m r f n z = 0 := by
  unfold dq_E at h0
  have e := dq_erl_b (n := n) (u := u) (f := f) (z := z) n h
  rw [e, dq_bc_bt hn] at h0
  have l1 := am_cnt_le (fun j => am_erp n u f z j) n
  have c0 := (nI_eq (b := 0) (by omega) (by omega)).mp h0
  have eE : am_erl n u f z n = 0 := by
    rw [e]
    exact dq_bt_0 n (dq_cnt_0 n c0)
  unfold dq_who am_cbe
  rw [eE]
  refine dq_bt_0 m (fun i _ => ?_)
  unfold am_cbp
  have rs : ∀ k, k ≤ n → am_rsn u (am_gvn P u n m r).1 0 i k = false := by
    intro k
    induction k with
    | zero => intro _; rfl
    | succ k ih =>
      intro hk
      unfold am_rsn
      rw [ih (by omega), Bool.false_or]
      unfold am_rp
      refine decide_eq_false (fun w => ?_)
      have z := dq_shr0i k (by omega)
      rw [z] at w
      exact absurd w.1 (by decide)
  rw [rs n (Nat.le_refl _), Bool.and_false]
end SP79
