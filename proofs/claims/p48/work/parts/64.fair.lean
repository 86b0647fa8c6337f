/-! all givings, one after the other: the fairest, how many are free of envy; the class's side -/
/-- what o's doors are worth to c, whosever they are -/
def am_wog (own : Nat → Int32) (P : List (List Nat × List Nat)) (u : Nat → Nat → Int32) (n c o : Nat) : Int32 := am_sto own (am_ge P u c) (nI o) n
def am_wn (w : Nat → Nat) (i : Nat) : Int32 := nI (w i)
theorem am_sm_x {F G : Nat → Int32} {d : Nat} (h : ∀ j, ¬ j = d → F j = G j) : ∀ k, d < k → am_sm G k = am_sm F k - F d + G d
  | 0, hk => absurd hk (Nat.not_lt_zero _)
  | k + 1, hk => by
    show am_sm G k + G k = am_sm F k + F k - F d + G d
    by_cases e : k = d
    · subst e
      rw [am_sm_c k (fun j hj => (h j (by omega)).symm), Int32.add_sub_cancel]
    · rw [am_sm_x h k (by omega), ← h k e, Int32.sub_eq_add_neg, Int32.sub_eq_add_neg]
      ac_rfl
/-- the next giving, of the first k doors; whether there is one; its number -/
def am_nx (m : Nat) : Nat → (Nat → Nat) → Nat → Nat
  | 0, w => w
  | k + 1, w => if w k + 1 < m then am_un w k (w k + 1) else am_nx m k (am_un w k 0)
def am_nxb (m : Nat) : Nat → (Nat → Nat) → Bool
  | 0, _ => false
  | k + 1, w => if w k + 1 < m then true else am_nxb m k w
def am_nV (m : Nat) : Nat → (Nat → Nat) → Nat
  | 0, _ => 0
  | k + 1, w => am_nV m k w * m + w k
theorem am_nV_c {m : Nat} {w v : Nat → Nat} : ∀ k, (∀ i, i < k → w i = v i) → am_nV m k w = am_nV m k v
  | 0, _ => rfl
  | k + 1, h => by
    unfold am_nV
    rw [am_nV_c k (fun i hi => h i (by omega)), h k (by omega)]
theorem am_nx_o {m : Nat} : ∀ k (w : Nat → Nat) i, k ≤ i → am_nx m k w i = w i
  | 0, _, _, _ => rfl
  | k + 1, w, i, h => by
    unfold am_nx
    split
    · exact am_un_n (by omega)
    · rw [am_nx_o k _ i (by omega)]
      exact am_un_n (by omega)
theorem am_nxb_c {m : Nat} {w v : Nat → Nat} : ∀ k, (∀ i, i < k → w i = v i) → am_nxb m k w = am_nxb m k v
  | 0, _ => rfl
  | k + 1, h => by
    unfold am_nxb
    rw [am_nxb_c k (fun i hi => h i (by omega)), h k (by omega)]
theorem am_nx_b {m : Nat} (hm : 0 < m) : ∀ k (w : Nat → Nat) (n : Nat), (∀ i, i < n → w i < m) → ∀ i, i < n → am_nx m k w i < m
  | 0, _, _, h, i, hi => h i hi
  | k + 1, w, n, h, i, hi => by
    unfold am_nx
    split
    · rename_i g
      by_cases e : i = k
      · rw [e, am_un_k]
        exact g
      · rw [am_un_n e]
        exact h i hi
    · refine am_nx_b hm k _ n (fun j hj => ?_) i hi
      by_cases e : j = k
      · rw [e, am_un_k]
        exact hm
      · rw [am_un_n e]
        exact h j hj
theorem am_nV_lt {m : Nat} {w : Nat → Nat} : ∀ k, (∀ i, i < k → w i < m) → am_nV m k w < m ^ k
  | 0, _ => by
    rw [Nat.pow_zero]
    show 0 < 1
    decide
  | k + 1, h => by
    have ih := am_nV_lt k (fun i hi => h i (by omega))
    have hk := h k (by omega)
    have h1 : (am_nV m k w + 1) * m ≤ m ^ k * m := Nat.mul_le_mul_right m ih
    rw [Nat.add_mul, Nat.one_mul] at h1
    show am_nV m k w * m + w k < m ^ (k + 1)
    rw [Nat.pow_succ]
    omega
theorem am_nx_V {m : Nat} (hm : 0 < m) : ∀ k (w : Nat → Nat), (∀ i, i < k → w i < m) → (am_nxb m k w = true → am_nV m k (am_nx m k w) = am_nV m k w + 1 ∧ am_nV m k w + 1 < m ^ k) ∧ (¬ am_nxb m k w = true → am_nV m k w + 1 = m ^ k)
  | 0, _, _ => ⟨fun h => absurd h (by unfold am_nxb; decide), fun _ => by rw [Nat.pow_zero]; rfl⟩
  | k + 1, w, h => by
    have hk := h k (by omega)
    have hl := am_nV_lt (m := m) (w := w) k (fun i hi => h i (by omega))
    have v0 : am_nV m (k + 1) w = am_nV m k w * m + w k := rfl
    by_cases g : w k + 1 < m
    · have e1 : am_nx m (k + 1) w = am_un w k (w k + 1) := if_pos g
      have e2 : am_nxb m (k + 1) w = true := if_pos g
      refine ⟨fun _ => ⟨?_, ?_⟩, fun q => absurd e2 q⟩
      · rw [e1, v0]
        show am_nV m k (am_un w k (w k + 1)) * m + am_un w k (w k + 1) k = _
        rw [am_un_k, am_nV_c (w := am_un w k (w k + 1)) (v := w) k (fun i hi => am_un_n (show ¬ i = k by omega))]
        omega
      · have h1 : (am_nV m k w + 1) * m ≤ m ^ k * m := Nat.mul_le_mul_right m hl
        rw [Nat.add_mul, Nat.one_mul] at h1
        rw [v0, Nat.pow_succ]
        omega
    · have e1 : am_nx m (k + 1) w = am_nx m k (am_un w k 0) := if_neg g
      have e2 : am_nxb m (k + 1) w = am_nxb m k w := if_neg g
      have em : w k + 1 = m := by omega
      have hc : ∀ i, i < k → am_un w k 0 i = w i := fun i hi => am_un_n (by omega)
      obtain ⟨i1, i2⟩ := am_nx_V hm k (am_un w k 0) (fun i hi => by rw [hc i hi]; exact h i (by omega))
      rw [am_nxb_c k hc, am_nV_c k hc] at i1 i2
      have v1 : am_nV m (k + 1) w + 1 = (am_nV m k w + 1) * m := by
        rw [v0, Nat.add_mul, Nat.one_mul]
        omega
      rw [e2]
      refine ⟨fun q => ?_, fun q => ?_⟩
      · obtain ⟨a, b⟩ := i1 q
        refine ⟨?_, ?_⟩
        · rw [e1, v1]
          show am_nV m k (am_nx m k (am_un w k 0)) * m + am_nx m k (am_un w k 0) k = _
          rw [am_nx_o k _ k (Nat.le_refl _), am_un_k, a, Nat.add_zero]
        · rw [v1, Nat.pow_succ]
          exact Nat.mul_lt_mul_of_pos_right b hm
      · rw [v1, i2 q, Nat.pow_succ]
/-- the i-th giving -/
def am_fq (m n : Nat) : Nat → Nat → Nat
  | 0 => fun _ => 0
  | i + 1 => am_nx m n (am_fq m n i)
theorem am_fq_b {m n : Nat} (hm : 0 < m) : ∀ i j, j < n → am_fq m n i j < m
  | 0, _, _ => hm
  | i + 1, j, hj => am_nx_b hm n _ n (fun k hk => am_fq_b hm i k hk) j hj
theorem am_fq_V {m n : Nat} (hm : 0 < m) : ∀ i, i < m ^ n → am_nV m n (am_fq m n i) = i
  | 0, _ => by
    have : ∀ k, am_nV m k (fun _ => 0) = 0 := fun k => by
      induction k with
      | zero => rfl
      | succ k ih =>
        show am_nV m k (fun _ => 0) * m + 0 = 0
        rw [ih, Nat.zero_mul]
    exact this n
  | i + 1, hi => by
    have ih := am_fq_V (n := n) hm i (by omega)
    obtain ⟨a, b⟩ := am_nx_V hm n (am_fq m n i) (fun k hk => am_fq_b hm i k hk)
    rw [ih] at a b
    by_cases g : am_nxb m n (am_fq m n i) = true
    · exact (a g).1
    · have := b g
      omega
theorem am_fq_n {m n : Nat} (hm : 0 < m) {i : Nat} (hi : i < m ^ n) : am_nxb m n (am_fq m n i) = decide (i + 1 < m ^ n) := by
  obtain ⟨a, b⟩ := am_nx_V hm n (am_fq m n i) (fun k hk => am_fq_b hm i k hk)
  rw [am_fq_V hm i hi] at a b
  by_cases g : am_nxb m n (am_fq m n i) = true
  · rw [g, decide_eq_true (a g).2]
  · have := b g
    rw [decide_eq_false (by omega)]
    cases h : am_nxb m n (am_fq m n i) with
    | true => exact absurd h g
    | false => rfl
theorem am_pow_b {m n : Nat} (hm : m ≤ 3) (hn : n ≤ 8) : m ^ n ≤ 6561 := by
  have h1 : m ^ n ≤ 3 ^ n := Nat.pow_le_pow_left hm n
  have h2 : 3 ^ n ≤ 3 ^ 8 := Nat.pow_le_pow_right (by omega) hn
  have h3 : (3 : Nat) ^ 8 = 6561 := by decide
  omega
theorem am_pow_p {m n : Nat} (hm : 0 < m) : 0 < m ^ n := Nat.pow_pos hm
/-- someone envies -/
def am_evC (W : Nat → Nat → Int32) (c : Nat) : Nat → Bool
  | 0 => false
  | o + 1 => am_evC W c o || decide (W c c < W c o)
def am_evB (m : Nat) (W : Nat → Nat → Int32) : Nat → Bool
  | 0 => false
  | c + 1 => am_evB m W c || am_evC W c m
theorem am_evi_C {m : Nat} {W : Nat → Nat → Int32} {c : Nat} {v : Int32} : ∀ o, am_evi m W c v o = if am_evC W c o = true then v ||| am_shl 1 (nI c) else v
  | 0 => rfl
  | o + 1 => by
    have ih := am_evi_C (m := m) (W := W) (c := c) (v := v) o
    have un : am_evC W c (o + 1) = (am_evC W c o || decide (W c c < W c o)) := rfl
    have ui : am_evi m W c v (o + 1) = if W c o ≤ W c c then am_evi m W c v o else am_evi m W c v o ||| am_shl 1 (nI c) := rfl
    rw [ui, un, ih]
    by_cases g : W c o ≤ W c c
    · rw [if_pos g, decide_eq_false (fun q => by rw [am_le_i] at g; rw [am_lt_i] at q; omega), Bool.or_false]
    · rw [if_neg g, decide_eq_true (by rw [am_le_i] at g; rw [am_lt_i]; omega), Bool.or_true, if_pos rfl]
      split
      · rw [Int32.or_assoc, Int32.or_self]
      · rfl
theorem am_evo_b {m : Nat} {W : Nat → Nat → Int32} : ∀ k, am_evo m W k = am_bt (fun c => am_evC W c m) k
  | 0 => rfl
  | k + 1 => by
    show am_evi m W k (am_evo m W k) m = _
    rw [am_evi_C, am_evo_b k]
    rfl
def am_btn (q : Nat → Bool) : Nat → Nat
  | 0 => 0
  | m + 1 => am_btn q m + (if q m = true then 2 ^ m else 0)
theorem am_bt_e {q : Nat → Bool} : ∀ m, m ≤ 5 → am_bt q m = nI (am_btn q m) ∧ am_btn q m < 2 ^ m
  | 0, _ => ⟨rfl, by show 0 < 2 ^ 0; decide⟩
  | m + 1, h => by
    obtain ⟨e, hk⟩ := am_bt_e (q := q) m (by omega)
    by_cases g : q m = true
    · have u : am_btn q (m + 1) = am_btn q m + 2 ^ m := by
        show am_btn q m + (if q m = true then 2 ^ m else 0) = _
        rw [if_pos g]
      rw [am_bt_y g, e, u]
      have d5 : ∀ j, j < 5 → ∀ a, a < 2 ^ j → nI a ||| am_shl 1 (nI j) = nI (a + 2 ^ j) := by decide +kernel
      rw [d5 m (by omega) _ hk]
      exact ⟨rfl, by rw [Nat.pow_succ]; omega⟩
    · have u : am_btn q (m + 1) = am_btn q m := by
        show am_btn q m + (if q m = true then 2 ^ m else 0) = _
        rw [if_neg g, Nat.add_zero]
      rw [am_bt_n g, u]
      exact ⟨e, by rw [Nat.pow_succ]; omega⟩
theorem am_evo_0 {m : Nat} {W : Nat → Nat → Int32} : ∀ k, k ≤ 5 → (am_evo m W k = 0 ↔ am_evB m W k = false) := by
  intro k hk
  have e := am_bt_e (q := fun c => am_evC W c m) k hk
  have b : ∀ k, am_btn (fun c => am_evC W c m) k = 0 ↔ am_evB m W k = false := by
    intro k
    induction k with
    | zero => exact ⟨fun _ => rfl, fun _ => rfl⟩
    | succ k ih =>
      have u1 : am_btn (fun c => am_evC W c m) (k + 1) = am_btn (fun c => am_evC W c m) k + (if am_evC W k m = true then 2 ^ k else 0) := rfl
      have u2 : am_evB m W (k + 1) = (am_evB m W k || am_evC W k m) := rfl
      have p2 : 0 < 2 ^ k := Nat.pow_pos (by omega)
      rw [u1, u2]
      cases g : am_evC W k m with
      | true =>
        rw [if_pos rfl, Bool.or_true]
        exact ⟨fun q => by omega, fun q => absurd q (by decide)⟩
      | false =>
        rw [if_neg (by decide), Bool.or_false, Nat.add_zero]
        exact ih
  have lt : 2 ^ k ≤ 2 ^ 5 := Nat.pow_le_pow_right (by omega) hk
  rw [am_evo_b, e.1, ← b k]
  have := nI_eq (a := am_btn (fun c => am_evC W c m) k) (b := 0) (by omega) (by omega)
  exact this
/-- how unfair the i-th giving is, all together, whether nobody envies -/
def am_fS (P : List (List Nat × List Nat)) (u : Nat → Nat → Int32) (n : Nat) (w : Nat → Nat) (c : Nat) : Int32 := am_wog (am_wn w) P u n c c
def am_fU (P : List (List Nat × List Nat)) (u : Nat → Nat → Int32) (n m i : Nat) : Int32 := am_unf m (am_fS P u n (am_fq m n i))
def am_fT (P : List (List Nat × List Nat)) (u : Nat → Nat → Int32) (n m i : Nat) : Int32 := am_tgs (am_fS P u n (am_fq m n i)) m
def am_fE (P : List (List Nat × List Nat)) (u : Nat → Nat → Int32) (n m i : Nat) : Bool := decide (am_evo m (am_wog (am_wn (am_fq m n i)) P u n) m = 0)
def am_fB (P : List (List Nat × List Nat)) (u : Nat → Nat → Int32) (n m i : Nat) : Nat := am_brl (am_fU P u n m) (am_fT P u n m) i
/-- what the class keeps of all that -/
def am_fai (P : List (List Nat × List Nat)) (u : Nat → Nat → Int32) (n m i : Nat) (mi : am_MI) : Prop := mi 47 7 = am_fU P u n m (am_fB P u n m i) ∧ mi 47 8 = am_fT P u n m (am_fB P u n m i) ∧ (∀ j, j < n → mi 53 j = nI (am_fq m n (am_fB P u n m i) j)) ∧ mi 47 9 = nI (am_cnt (am_fE P u n m) (i + 1))
/-- the giving that stands, with what each has of each -/
def am_fst (P : List (List Nat × List Nat)) (u : Nat → Nat → Int32) (n m : Nat) (w : Nat → Nat) (mi : am_MI) : Prop := (∀ i, i < n → mi 52 i = nI (w i) ∧ w i < m) ∧ (∀ c o, c < m → o < m → mi (55 + c) o = am_wog (am_wn w) P u n c o) ∧ ∀ c i, c < m → i < n → mi (49 + c) i = am_ge P u c i
theorem am_k55 : ∀ c, c < 3 → am_kd (55 + c) = 2 ∧ am_n (55 + c) = 3 ∧ am_kd (49 + c) = 2 ∧ am_n (49 + c) = 8 := by decide
section SP64
variable {d n m : Nat} {u : Nat → Nat → Int32} {mi : am_MI} {ml : am_ML} {R : am_R} {P : List (List Nat × List Nat)} {Q : Int32 → Int32 → am_MI → am_ML → Prop} {w : Nat → Nat} {own : Nat → Int32}
theorem am_wog_x {k t c o : Nat} (hk : k < n) (ho : o < 3) (hw : w k < 1000) (ht : t < 1000) : am_wog (am_wn (am_un w k t)) P u n c o = am_wog (am_wn w) P u n c o - (if w k = o then am_ge P u c k else 0) + (if t = o then am_ge P u c k else 0) := by
  have z := am_sm_x (F := fun i => if am_wn w i = nI o then am_ge P u c i else 0) (G := fun i => if am_wn (am_un w k t) i = nI o then am_ge P u c i else 0) (d := k) (fun j hj => by
    show (if am_wn w j = nI o then am_ge P u c j else 0) = if am_wn (am_un w k t) j = nI o then am_ge P u c j else 0
    unfold am_wn
    rw [am_un_n hj]) n hk
  unfold am_wog am_sto
  rw [z]
  have e1 : (if am_wn w k = nI o then am_ge P u c k else 0) = if w k = o then am_ge P u c k else 0 := by
    unfold am_wn
    by_cases e : w k = o
    · rw [if_pos e, if_pos (by rw [e])]
    · rw [if_neg e, if_neg (fun q => e ((nI_eq (by omega) (by omega)).mp q))]
  have e2 : (if am_wn (am_un w k t) k = nI o then am_ge P u c k else 0) = if t = o then am_ge P u c k else 0 := by
    unfold am_wn
    rw [am_un_k]
    by_cases e : t = o
    · rw [if_pos e, if_pos (by rw [e])]
    · rw [if_neg e, if_neg (fun q => e ((nI_eq (by omega) (by omega)).mp q))]
  rw [e1, e2]
def am_F29 : Nat → Nat → Bool := fun c _ => decide (c = 52 ∨ (55 ≤ c ∧ c ≤ 57))
/-- handOver -/
theorem sp_29 {x y : Int32} {k t : Nat} (hn : n ≤ 8) (hm : m ≤ 3) (em : mi 1 2 = nI m) (hs : am_fst P u n m w mi) (hk : k < n) (ht : t < m) (hx : x = nI k) (hy : y = nI t) (h : ∀ m2, am_kp am_F29 mi m2 → am_fst P u n m (am_un w k t) m2 → R none m2 ml) : am_call (d + 1) 29 [.ref 47, .int x, .int y] mi ml R := by
  subst hx
  subst hy
  obtain ⟨s1, s2, s3⟩ := hs
  have wk := s1 k hk
  have vk : vp_in (nI k) 8 := vp_in_nI (by omega) (by omega)
  have ck : (nI k).toNatClampNeg = k := nI_clamp (by omega)
  have cw : (nI (w k)).toNatClampNeg = w k := nI_clamp (by omega)
  have ct : (nI t).toNatClampNeg = t := nI_clamp (by omega)
  have loop : ∀ v c, c + v = m → ∀ m2, am_kp am_F29 mi m2 → (∀ i, i < n → m2 52 i = nI (am_un w k t i)) → (∀ c2 o, c2 < c → o < m → m2 (55 + c2) o = am_wog (am_wn (am_un w k t)) P u n c2 o) → (∀ c2 o, c ≤ c2 → c2 < m → o < m → m2 (55 + c2) o = am_wog (am_wn w) P u n c2 o) → am_wp (am_call d) mt_29 R 12 [some (.ref 47), some (.int (nI k)), some (.int (nI t)), some (.int (nI (w k))), some (.int (nI c))] [] m2 ml := by
    intro v
    induction v with
    | zero =>
      intro c ec m2 k2 h1 h2 h3
      have ec : c = m := ec
      subst ec
      refine bk_29_12 (pk_le _ _ (fun _ => h m2 k2 ⟨fun i hi => ⟨h1 i hi, ?_⟩, h2, fun c i hc hi => ?_⟩) (fun q => absurd q (Nat.lt_irrefl _)) ((k2 1 2 rfl).trans em) rfl)
      · by_cases e : i = k
        · rw [e, am_un_k]
          exact ht
        · rw [am_un_n e]
          exact (s1 i hi).2
      · rw [k2 (49 + c) i (decide_eq_false (by omega))]
        exact s3 c i hc hi
    | succ v ih =>
      intro c ec m2 k2 h1 h2 h3
      have hc : c < m := by omega
      obtain ⟨a1, a2, b1, b2⟩ := am_k55 c (by omega)
      have vc : vp_in (nI c) 3 := vp_in_nI (by omega) (by omega)
      have cc : (nI c).toNatClampNeg = c := nI_clamp (by omega)
      have v3 : ∀ o, o < m → vp_in (nI o) 3 := fun o ho => vp_in_nI (by omega) (by omega)
      refine bk_29_12 (pk_le m c (fun q => absurd q (by omega)) (fun _ => ⟨vc, ?_⟩) ((k2 1 2 rfl).trans em) rfl)
      rw [cc, cw, ck, ct, Nat.one_mul, a1, b1, am_len2 a1, am_len2 b1, a2, b2, nI_1]
      have e49 : m2 (49 + c) k = am_ge P u c k := by
        rw [k2 (49 + c) k (decide_eq_false (by omega))]
        exact s3 c k hc hk
      have ne : ¬ 49 + c = 55 + c := by omega
      refine am_need_i rfl ⟨v3 _ wk.2, vc, am_need_i rfl ⟨vk, am_need_i rfl ⟨v3 _ wk.2, vc, am_need_i rfl ⟨?_, vc, am_need_i rfl ⟨?_, am_need_i rfl ⟨by rw [am_len2 a1, a2]; exact v3 _ ht, ?_⟩⟩⟩⟩⟩⟩
      · rw [am_len2 a1, a2]
        exact v3 _ ht
      · rw [am_len2 b1, b2]
        exact vk
      · rw [am_ui_c ne, e49]
        have h3c := h3 c (w k) (Nat.le_refl _) hc wk.2
        refine ih (c + 1) (by omega) _ (am_kp_u (am_kp_u k2 (decide_eq_true (by omega))) (decide_eq_true (by omega))) (fun i hi => ?_) (fun c2 o hc2 ho => ?_) (fun c2 o hc2 hc3 ho => ?_)
        · rw [am_ui_c (by omega), am_ui_c (by omega)]
          exact h1 i hi
        · by_cases e : c2 = c
          · subst e
            have z := am_wog_x (P := P) (u := u) (w := w) (c := c2) (o := o) (t := t) hk (by omega) (by omega) (by omega)
            rw [z]
            have ho3 := h3 c2 o (Nat.le_refl _) hc ho
            by_cases eo : o = t
            · subst eo
              rw [am_ui_k, if_pos rfl]
              by_cases e2 : o = w k
              · rw [e2, am_ui_k, if_pos rfl, h3c]
              · rw [am_ui_n (fun _ q => e2 q), if_neg (fun q => e2 q.symm), Int32.sub_zero, ho3]
            · rw [am_ui_n (fun _ q => eo q), if_neg (show ¬ t = o from fun q => eo q.symm), Int32.add_zero]
              by_cases e2 : o = w k
              · rw [e2, am_ui_k, if_pos rfl, h3c]
              · rw [am_ui_n (fun _ q => e2 q), if_neg (fun q => e2 q.symm), Int32.sub_zero, ho3]
          · rw [am_ui_c (by omega), am_ui_c (by omega)]
            exact h2 c2 o (by omega) ho
        · rw [am_ui_c (by omega), am_ui_c (by omega)]
          exact h3 c2 o (by omega) hc3 ho
  refine bk_29 ⟨vk, vk, ?_⟩
  rw [ck, wk.1]
  refine loop m 0 (Nat.zero_add _) _ (am_kp_u am_kp_r rfl) (fun i hi => ?_) (fun c2 o hc2 => absurd hc2 (Nat.not_lt_zero _)) (fun c2 o _ hc2 ho => ?_)
  · by_cases e : i = k
    · rw [e, am_ui_k, am_un_k]
    · rw [am_ui_n (fun _ q => e q), am_un_n e]
      exact (s1 i hi).1
  · rw [am_ui_c (by omega)]
    exact s2 c2 o hc2 ho
theorem am_m1e (k : Nat) : nI k + (-1) = nI k - 1 := by rw [Int32.sub_eq_add_neg]
/-- goOn -/
theorem sp_28 (hn : n ≤ 8) (hm : m ≤ 3) (hm0 : 0 < m) (en : mi 1 1 = nI n) (em : mi 1 2 = nI m) (hs : am_fst P u n m w mi) (h : ∀ m2, am_kp am_F29 mi m2 → am_fst P u n m (am_nx m n w) m2 → R none m2 ml) : am_call (d + 2) 28 [.ref 47] mi ml R := by
  have loop : ∀ k, k ≤ n → ∀ (w2 : Nat → Nat) m2, am_kp am_F29 mi m2 → am_fst P u n m w2 m2 → (∀ m3, am_kp am_F29 mi m3 → am_fst P u n m (am_nx m k w2) m3 → R none m3 ml) → am_wp (am_call (d + 1)) mt_28 R 6 [some (.ref 47), some (.int (nI k - 1)), none] [] m2 ml := by
    intro k
    induction k with
    | zero =>
      intro _ w2 m2 k2 s2 g
      exact bk_28_6 ⟨fun _ => g m2 k2 s2, fun q => absurd (by decide) q⟩
    | succ k ih =>
      intro hk w2 m2 k2 s2 g
      have un : am_nx m (k + 1) w2 = if w2 k + 1 < m then am_un w2 k (w2 k + 1) else am_nx m k (am_un w2 k 0) := rfl
      rw [un] at g
      have wk := s2.1 k (by omega)
      have em2 : m2 1 2 = nI m := (k2 1 2 rfl).trans em
      have vk : vp_in (nI k) 8 := vp_in_nI (by omega) (by omega)
      rw [nI_pred]
      refine bk_28_6 ⟨fun q => ?_, fun _ => ⟨vk, ?_⟩⟩
      · exfalso
        rw [am_lt_i, am_ti (by omega), am_l0] at q
        omega
      · have e1 : nI m - 1 = nI (m - 1) := pk_sub (b := 1) hm0
        rw [nI_clamp (show k < 2 ^ 31 by omega), wk.1, em2, e1, nI_1, am_m1e]
        refine ⟨fun q => ⟨fun _ => ⟨vk, ?_⟩, fun z => absurd rfl z⟩, fun q => ⟨fun z => absurd z (by decide), fun _ => ?_⟩⟩
        · have hw : w2 k + 1 < m := by
            have : ¬ w2 k = m - 1 := fun z => q (by rw [z])
            omega
          rw [if_pos hw] at g
          exact sp_29 hn hm em2 s2 (show k < n by omega) hw rfl rfl (fun m3 k3 s3 => am_rv_i ⟨fun z => absurd rfl z, fun _ => g m3 (am_kp_t k2 k3) s3⟩)
        · have hw : ¬ w2 k + 1 < m := by
            have : w2 k = m - 1 := (nI_eq (by omega) (by omega)).mp (Decidable.not_not.mp q)
            omega
          rw [if_neg hw] at g
          refine sp_29 hn hm em2 s2 (show k < n by omega) hm0 rfl rfl (fun m3 k3 s3 => am_rv_i ⟨fun _ => ?_, fun z => absurd (by decide) z⟩)
          exact ih (by omega) _ m3 (am_kp_t k2 k3) s3 g
  refine bk_28 ?_
  rw [en]
  exact loop n (Nat.le_refl _) w mi am_kp_r hs h
def am_F27 : Nat → Nat → Bool := fun c j => decide (c = 53 ∨ (c = 47 ∧ (j = 7 ∨ j = 8 ∨ j = 9)))
def am_b2i (b : Bool) : Int32 := if b = true then 1 else 0
theorem am_b2i_o {a b : Bool} : am_b2i a ||| am_b2i b = am_b2i (a || b) := by
  cases a <;> cases b <;> decide
theorem am_b2i_0 {a : Bool} : am_b2i a = 0 ↔ a = false := by
  cases a <;> decide
/-- weigh -/
theorem sp_27 (hn : n ≤ 8) (hm : m ≤ 3) (hm0 : 0 < m) (em : mi 1 2 = nI m) (hs : am_fst P u n m w mi)
    (h : ∀ m2, am_kp am_F27 mi m2 → m2 47 9 = (if am_evo m (am_wog (am_wn w) P u n) m = 0 then mi 47 9 + 1 else mi 47 9) →
      ((am_unf m (am_fS P u n w) < mi 47 7 ∨ (am_unf m (am_fS P u n w) = mi 47 7 ∧ mi 47 8 < am_tgs (am_fS P u n w) m)) → m2 47 7 = am_unf m (am_fS P u n w) ∧ m2 47 8 = am_tgs (am_fS P u n w) m ∧ ∀ j, j < n → m2 53 j = nI (w j)) →
      (¬ (am_unf m (am_fS P u n w) < mi 47 7 ∨ (am_unf m (am_fS P u n w) = mi 47 7 ∧ mi 47 8 < am_tgs (am_fS P u n w) m)) → m2 47 7 = mi 47 7 ∧ m2 47 8 = mi 47 8 ∧ ∀ j, m2 53 j = mi 53 j) → R none m2 ml) : am_call (d + 1) 27 [.ref 47] mi ml R := by
  obtain ⟨s1, s2, s3⟩ := hs
  generalize hW : am_wog (am_wn w) P u n = W at s2 h
  have eS : ∀ c, am_fS P u n w c = W c c := fun c => by
    rw [← hW]
    rfl
  generalize am_fS P u n w = S at eS h
  have eU : am_unf m S = am_mxs S (m - 1) - am_mns S (m - 1) := if_neg (by omega)
  have vp3 : ∀ c, c < m → vp_in (nI c) 3 := fun c hc => vp_in_nI (by omega) (by omega)
  -- the end: it is better, or not
  have fin : ∀ m1, am_kp am_F27 mi m1 → m1 47 7 = mi 47 7 → m1 47 8 = mi 47 8 → (∀ j, m1 53 j = mi 53 j) → m1 47 9 = (if am_evo m W m = 0 then mi 47 9 + 1 else mi 47 9) → am_wp (am_call d) mt_27 R 72 [some (.ref 47), some (.int (am_mxs S (m - 1))), some (.int (am_mns S (m - 1))), some (.int (am_tgs S m)), none, none, none, none] [] m1 ml := by
    intro m1 k1 e7 e8 e53 e9
    have take : am_unf m S < mi 47 7 ∨ (am_unf m S = mi 47 7 ∧ mi 47 8 < am_tgs S m) → am_wp (am_call d) mt_27 R 88 [some (.ref 47), some (.int (am_mxs S (m - 1))), some (.int (am_mns S (m - 1))), some (.int (am_tgs S m)), none, none, none, none] [] m1 ml := by
      intro g
      refine bk_27_88 ⟨by decide, by decide, by decide, by decide, by decide, bk_27_106 ?_⟩
      show R none (am_ci (am_ui (am_ui m1 47 7 (am_mxs S (m - 1) - am_mns S (m - 1))) 47 8 (am_tgs S m)) 52 0 53 0 8) ml
      rw [← eU]
      have o : ∀ c j, ¬ c = 53 → am_ci (am_ui (am_ui m1 47 7 (am_unf m S)) 47 8 (am_tgs S m)) 52 0 53 0 8 c j = am_ui (am_ui m1 47 7 (am_unf m S)) 47 8 (am_tgs S m) c j := fun c j q => by
        unfold am_ci
        rw [if_neg (fun z => q z.1)]
      refine h _ (fun c j q => ?_) ?_ (fun _ => ⟨?_, ?_, fun j hj => ?_⟩) (fun q => absurd g q)
      · have q2 := of_decide_eq_false q
        rw [o c j (by omega), am_ui_n (by omega), am_ui_n (by omega)]
        exact k1 c j q
      · rw [o 47 9 (by decide), am_ui_n (by omega), am_ui_n (by omega)]
        exact e9
      · rw [o 47 7 (by decide), am_ui_n (by omega), am_ui_k]
      · rw [o 47 8 (by decide), am_ui_k]
      · unfold am_ci
        rw [if_pos ⟨rfl, Nat.zero_le _, by omega⟩, Nat.sub_zero, Nat.zero_add, am_ui_c (by decide), am_ui_c (by decide), k1 52 j rfl]
        exact (s1 j hj).1
    have keep : ¬ (am_unf m S < mi 47 7 ∨ (am_unf m S = mi 47 7 ∧ mi 47 8 < am_tgs S m)) → am_wp (am_call d) mt_27 R 106 [none, none, none, none, none, none, none, none] [] m1 ml := fun g => bk_27_106 (h m1 k1 e9 (fun q => absurd q g) (fun _ => ⟨e7, e8, e53⟩))
    refine bk_27_72 ?_
    rw [e7, e8, ← eU]
    refine ⟨fun q => take (Or.inl q), fun q => ⟨fun q2 => keep (fun g => ?_), fun q2 => ⟨fun q3 => keep (fun g => ?_), fun q3 => take (Or.inr ⟨Decidable.not_not.mp q2, ?_⟩)⟩⟩⟩
    · rcases g with g | g
      · exact q g
      · exact q2 g.1
    · rcases g with g | g
      · exact q g
      · have g := g.2
        rw [am_lt_i] at g
        rw [am_le_i] at q3
        omega
    · rw [am_le_i] at q3
      rw [am_lt_i]
      omega
  have mx : ∀ c, c < m → am_max (if c = 0 then S 0 else am_mxs S (c - 1)) (S c) = am_mxs S c ∧ am_min (if c = 0 then S 0 else am_mns S (c - 1)) (S c) = am_mns S c := by
    intro c hc
    cases c with
    | zero =>
      have a : ∀ x : Int32, am_max x x = x := fun x => by
        unfold am_max
        split <;> rfl
      have b : ∀ x : Int32, am_min x x = x := fun x => by
        unfold am_min
        split <;> rfl
      rw [if_pos rfl, if_pos rfl, a, b]
      exact ⟨rfl, rfl⟩
    | succ c =>
      rw [if_neg (by omega), if_neg (by omega)]
      exact ⟨rfl, rfl⟩
  -- child by child
  have loop : ∀ v c, c + v = m → am_wp (am_call d) mt_27 R 15 [some (.ref 47), some (.int (if c = 0 then S 0 else am_mxs S (c - 1))), some (.int (if c = 0 then S 0 else am_mns S (c - 1))), some (.int (am_tgs S c)), some (.int (am_b2i (am_evB m W c))), some (.int (nI c)), none, none] [] mi ml := by
    intro v
    induction v with
    | zero =>
      intro c ec
      have ec : c = m := ec
      rw [ec]
      rw [if_neg (show ¬ m = 0 by omega), if_neg (show ¬ m = 0 by omega)]
      have ez := am_evo_0 (m := m) (W := W) m (by omega)
      refine bk_27_15 (pk_le m m (fun _ => ⟨fun q => ?_, fun q => ?_⟩) (fun q => absurd q (Nat.lt_irrefl _)) em rfl)
      · refine fin mi am_kp_r rfl rfl (fun _ => rfl) ?_
        rw [if_neg (fun z => q (am_b2i_0.mpr (ez.mp z)))]
      · refine fin _ (am_kp_u am_kp_r rfl) (am_ui_n (by omega)) (am_ui_n (by omega)) (fun j => am_ui_c (by decide)) ?_
        rw [am_ui_k, if_pos (ez.mpr (am_b2i_0.mp (Decidable.not_not.mp q)))]
    | succ v ih =>
      intro c ec
      have hc : c < m := by omega
      have ih := ih (c + 1) (by omega)
      obtain ⟨a1, a2, b1, b2⟩ := am_k55 c (by omega)
      have own : mi (55 + c) c = S c := by rw [s2 c c hc hc, eS c]
      have et : am_tgs S (c + 1) = am_tgs S c + S c := rfl
      have ee : am_evB m W (c + 1) = (am_evB m W c || am_evC W c m) := rfl
      rw [if_neg (show ¬ c + 1 = 0 by omega), if_neg (show ¬ c + 1 = 0 by omega), show c + 1 - 1 = c from rfl, et, ee] at ih
      obtain ⟨x1, x2⟩ := mx c hc
      refine bk_27_15 (pk_le m c (fun q => absurd q (by omega)) (fun _ => ⟨vp3 c hc, ?_⟩) em rfl)
      rw [nI_clamp (show c < 2 ^ 31 by omega), Nat.one_mul, a1, am_len2 a1, a2, own, x1, x2]
      refine am_need_i rfl ⟨vp3 c hc, ?_⟩
      have inner : ∀ t o, o + t = m → am_wp (am_call d) mt_27 R 41 [some (.ref 47), some (.int (am_mxs S c)), some (.int (am_mns S c)), some (.int (am_tgs S c + S c)), some (.int (am_b2i (am_evB m W c || am_evC W c o))), some (.int (nI c)), some (.int (S c)), some (.int (nI o))] [] mi ml := by
        intro t
        induction t with
        | zero =>
          intro o eo
          have eo : o = m := eo
          rw [eo]
          refine bk_27_41 (pk_le m m (fun _ => ?_) (fun q => absurd q (Nat.lt_irrefl _)) em rfl)
          rw [nI_1]
          exact ih
        | succ t it =>
          intro o eo
          have ho : o < m := by omega
          have it := it (o + 1) (by omega)
          have ec2 : am_evC W c (o + 1) = (am_evC W c o || decide (W c c < W c o)) := rfl
          rw [ec2, ← Bool.or_assoc, ← am_b2i_o] at it
          refine bk_27_41 (pk_le m o (fun q => absurd q (by omega)) (fun _ => ⟨vp3 c hc, ?_⟩) em rfl)
          rw [nI_clamp (show c < 2 ^ 31 by omega), nI_clamp (show o < 2 ^ 31 by omega), Nat.one_mul, a1, am_len2 a1, a2, s2 c o hc ho, eS c]
          rw [eS c] at it
          refine am_need_i rfl ⟨vp3 o ho, fun q => bk_27_58 ?_, fun q => bk_27_58 ?_⟩
          · rw [decide_eq_false (fun z => by rw [am_le_i] at q; rw [am_lt_i] at z; omega)] at it
            rw [nI_1]
            exact it
          · rw [decide_eq_true (by rw [am_le_i] at q; rw [am_lt_i]; omega)] at it
            rw [nI_1]
            exact it
      have z := inner m 0 (Nat.zero_add _)
      have ez : (am_evB m W c || am_evC W c 0) = am_evB m W c := Bool.or_false _
      rw [ez] at z
      exact z
  obtain ⟨a1, a2, -⟩ := am_k55 0 (by omega)
  have own0 : mi 55 0 = S 0 := by
    have := s2 0 0 hm0 hm0
    rw [eS 0]
    exact this
  have vl : vp_in (0 : Int32) (am_len mi (55 + 1 * (0 : Int32).toNatClampNeg)) := by
    show vp_in (0 : Int32) 3
    exact am_vp (by decide) (by decide)
  refine bk_27 ⟨am_vp (by decide) (by decide), am_need_i rfl ⟨vl, ?_⟩⟩
  show am_wp (am_call d) mt_27 R 15 [some (.ref 47), some (.int (mi 55 0)), some (.int (mi 55 0)), some (.int 0), some (.int 0), some (.int 0), none, none] [] mi ml
  rw [own0]
  exact loop m 0 (Nat.zero_add _)
/-- howMany -/
theorem sp_25 (hn : n ≤ 8) (hm : m ≤ 3) (en : mi 1 1 = nI n) (em : mi 1 2 = nI m) (h : R (some (.int (nI (m ^ n)))) mi ml) : am_call (d + 1) 25 [.ref 47] mi ml R := by
  refine bk_25 (am_for n (fun k => am_wp (am_call d) mt_25 R 4 [some (.ref 47), some (.int (nI (m ^ k))), some (.int (nI k))] [] mi ml) ?_ (fun k hk ih => ?_) 0 (Nat.zero_le _))
  · exact bk_25_4 (pk_le n n (fun _ => h) (fun q => absurd q (Nat.lt_irrefl _)) en rfl)
  · refine bk_25_4 (pk_le n k (fun q => absurd q (by omega)) (fun _ => ?_) en rfl)
    rw [em, pk_mul, ← Nat.pow_succ, nI_1]
    exact ih
def am_F26 : Nat → Nat → Bool := fun c _ => decide ((49 ≤ c ∧ c ≤ 52) ∨ (55 ≤ c ∧ c ≤ 57))
/-- giveAllToFirst -/
theorem sp_26 (hn : n ≤ 8) (hm : m ≤ 3) (hm0 : 0 < m) (en : mi 1 1 = nI n) (em : mi 1 2 = nI m) (he : ∀ c i, c < m → i < n → mi (26 + c) i = am_ge P u c i) (h : ∀ m2, am_kp am_F26 mi m2 → am_fst P u n m (fun _ => 0) m2 → R none m2 ml) : am_call (d + 2) 26 [.ref 47] mi ml R := by
  have w0 : ∀ c o k, o < 1000 → am_sto (am_wn (fun _ => 0)) (am_ge P u c) (nI o) k = if o = 0 then am_sm (am_ge P u c) k else 0 := by
    intro c o k ho
    induction k with
    | zero => split <;> rfl
    | succ k ih =>
      rw [am_sto_s, ih]
      have e : am_wn (fun _ => 0) k = nI 0 := rfl
      rw [e]
      by_cases g : o = 0
      · rw [if_pos g, if_pos g, if_pos (by rw [g]), am_sm_s]
      · rw [if_neg g, if_neg g, if_neg (fun q => g ((nI_eq (by omega) (by omega)).mp q).symm), Int32.add_zero]
  have loop : ∀ v c, c + v = m → ∀ m2, am_kp am_F26 mi m2 → (∀ i, i < 8 → m2 52 i = 0) → (∀ c2 o, c2 < c → o < m → m2 (55 + c2) o = am_wog (am_wn (fun _ => 0)) P u n c2 o) → (∀ c2 i, c2 < c → i < n → m2 (49 + c2) i = am_ge P u c2 i) → am_wp (am_call (d + 1)) mt_26 R 6 [some (.ref 47), some (.int (nI c)), none] [] m2 ml := by
    intro v
    induction v with
    | zero =>
      intro c ec m2 k2 h1 h2 h3
      have ec : c = m := ec
      subst ec
      exact bk_26_6 (pk_le _ _ (fun _ => h m2 k2 ⟨fun i hi => ⟨h1 i (by omega), hm0⟩, h2, h3⟩) (fun q => absurd q (Nat.lt_irrefl _)) ((k2 1 2 rfl).trans em) rfl)
    | succ v ih =>
      intro c ec m2 k2 h1 h2 h3
      have hc : c < m := by omega
      have ih := ih (c + 1) (by omega)
      obtain ⟨a1, a2, b1, b2⟩ := am_k55 c (by omega)
      obtain ⟨-, -, -, -, c1, c2⟩ := am_k38 c (by omega)
      have vc : vp_in (nI c) 3 := vp_in_nI (by omega) (by omega)
      have v5 : vp_in (nI c) 5 := vp_in_nI (by omega) (by omega)
      have cc : (nI c).toNatClampNeg = c := nI_clamp (by omega)
      refine bk_26_6 (pk_le m c (fun q => absurd q (by omega)) (fun _ => ⟨vc, ?_⟩) ((k2 1 2 rfl).trans em) rfl)
      rw [cc, Nat.one_mul]
      refine sp_275 (x := 55 + c) (y := 0) a1 (by rw [a2]; decide) (fun m3 k3 f3 => am_rv_i ?_)
      have k3' : am_kp am_F26 mi m3 := am_kp_t k2 (am_kp_w k3 (fun x j q => by
        have q := of_decide_eq_false q
        exact decide_eq_false (by omega)))
      have o3 : ∀ x j, ¬ x = 55 + c → m3 x j = m2 x j := fun x j q => k3 x j (decide_eq_false q)
      have inner : ∀ t k, k + t = n → ∀ m4, am_kp am_F26 mi m4 → (∀ x j, ¬ x = 55 + c → ¬ x = 49 + c → m4 x j = m2 x j) → (∀ i, i < k → m4 (49 + c) i = am_ge P u c i) → m4 (55 + c) 0 = am_sm (am_ge P u c) k → (∀ o, 0 < o → o < 3 → m4 (55 + c) o = 0) → am_wp (am_call (d + 1)) mt_26 R 19 [some (.ref 47), some (.int (nI c)), some (.int (nI k))] [] m4 ml := by
        intro t
        induction t with
        | zero =>
          intro k ek m4 k4 o4 g1 g2 g3
          have ek : k = n := ek
          rw [ek] at g1 g2 ⊢
          refine bk_26_19 (pk_le n n (fun _ => ?_) (fun q => absurd q (Nat.lt_irrefl _)) ((k4 1 1 rfl).trans en) rfl)
          rw [nI_1]
          refine ih m4 k4 (fun i hi => ?_) (fun x o hx ho => ?_) (fun x i hx hi => ?_)
          · rw [o4 52 i (by omega) (by omega)]
            exact h1 i hi
          · by_cases e : x = c
            · rw [e]
              unfold am_wog
              rw [w0 c o n (by omega)]
              by_cases e0 : o = 0
              · rw [e0, if_pos rfl]
                exact g2
              · rw [if_neg e0]
                exact g3 o (by omega) (by omega)
            · rw [o4 (55 + x) o (by omega) (by omega)]
              exact h2 x o (by omega) ho
          · by_cases e : x = c
            · rw [e]
              exact g1 i hi
            · rw [o4 (49 + x) i (by omega) (by omega)]
              exact h3 x i (by omega) hi
        | succ t it =>
          intro k ek m4 k4 o4 g1 g2 g3
          have hk : k < n := by omega
          have it := it (k + 1) (by omega)
          have ck : (nI k).toNatClampNeg = k := nI_clamp (by omega)
          have v8 : vp_in (nI k) 8 := vp_in_nI (by omega) (by omega)
          have v0 : vp_in (0 : Int32) 3 := am_vp (by decide) (by decide)
          have c0 : (0 : Int32).toNatClampNeg = 0 := rfl
          have e26 : m4 (26 + c) k = am_ge P u c k := by
            rw [k4 (26 + c) k (decide_eq_false (by omega))]
            exact he c k hc hk
          refine bk_26_19 (pk_le n k (fun q => absurd q (by omega)) (fun _ => ⟨vc, v5, ?_⟩) ((k4 1 1 rfl).trans en) rfl)
          rw [cc, ck, c0, Nat.one_mul, c1, a1, b1, am_len2 c1, am_len2 a1, am_len2 b1, c2, a2, b2, e26, nI_1]
          refine am_need_i rfl ⟨vp_in_nI (by omega) (by omega), am_need_i rfl ⟨v8, vc, am_need_i rfl ⟨v0, vc, am_need_i rfl ⟨by first | exact v8 | (rw [am_len2 b1, b2]; exact v8) | (rw [am_len2 a1, a2]; exact v8), am_need_i rfl ⟨by first | exact v0 | (rw [am_len2 a1, a2]; exact v0) | (rw [am_len2 b1, b2]; exact v0), ?_⟩⟩⟩⟩⟩
          rw [am_ui_k, am_ui_c (show ¬ 55 + c = 49 + c by omega), g2]
          refine it _ (am_kp_u (am_kp_u k4 (decide_eq_true (by omega))) (decide_eq_true (by omega))) (fun x j q1 q2 => ?_) (fun i hi => ?_) ?_ (fun o q1 q2 => ?_)
          · rw [am_ui_c q1, am_ui_c q2]
            exact o4 x j q1 q2
          · rw [am_ui_c (by omega)]
            by_cases e : i = k
            · rw [e, am_ui_k]
            · rw [am_ui_n (fun _ q => e q)]
              exact g1 i (by omega)
          · rw [am_ui_k]
            rfl
          · rw [am_ui_n (fun _ q => by omega), am_ui_c (by omega)]
            exact g3 o q1 q2
      refine inner n 0 (Nat.zero_add _) m3 k3' (fun x j q1 _ => o3 x j q1) (fun i hi => absurd hi (Nat.not_lt_zero _)) ?_ (fun o _ ho => ?_)
      · exact f3 0 (by rw [a2]; decide)
      · exact f3 o (by rw [a2]; exact ho)
  refine bk_26 (sp_275 (x := 52) (y := 0) rfl (by decide) (fun m1 k1 f1 => am_rv_i ?_))
  exact loop m 0 (Nat.zero_add _) m1 (am_kp_w k1 (fun x j q => by
    have q := of_decide_eq_false q
    exact decide_eq_false (by omega))) (fun i hi => f1 i hi) (fun c2 o hc2 => absurd hc2 (Nat.not_lt_zero _)) (fun c2 i hc2 => absurd hc2 (Nat.not_lt_zero _))
end SP64
