/-! the made text beside the object: another place in the same heap -/
/-- what stands of the text that was made: r its object, v its bytes -/
def tx_S (s : State) (H H2 : Heap) (r v n : Nat) (f : Nat → Int32) : Prop := (r < s.heap.size ∨ H.size ≤ r) ∧ (v < s.heap.size ∨ H.size ≤ v) ∧ n ≤ 1000 ∧ va_O "java/lang/String" r (fun _ => False) s H2 ∧ va_OF "java/lang/String" "coder" "B" (.int 0) r (fun _ => False) s H2 ∧ va_OF "java/lang/String" "value" "[B" (.ref v) r (fun _ => False) s H2 ∧ va_T .byte v n (fun j => .int (f j)) (fun _ => False) s H2
/-- with the text -/
def tx_m (n : Nat) (f : Nat → Int32) (mi : am_MI) : am_MI := fun c => if c = 138 then (fun _ => 0) else if c = 139 then (fun j => if j = 100000 then nI n else f j) else mi c
def tx_G (G : am_G) (r v n : Nat) (f : Nat → Int32) : am_G := (fun k => if k = 138 then r else if k = 139 then v else G.1 k, G.2.1, G.2.2.1, tx_m n f G.2.2.2)
section SP89t
variable {G G2 : am_G} {H : Heap} {mi mi2 : am_MI} {ml : am_ML} {r v n k : Nat} {f : Nat → Int32} {s U : State}
theorem tx_G1 (h1 : ¬ k = 138) (h2 : ¬ k = 139) : (tx_G G r v n f).1 k = G.1 k := by
  show (if k = 138 then r else if k = 139 then v else G.1 k) = _
  rw [if_neg h1, if_neg h2]
theorem tx_m1 (h1 : ¬ k = 138) (h2 : ¬ k = 139) : tx_m n f mi k = mi k := by
  unfold tx_m
  rw [if_neg h1, if_neg h2]
theorem tx_rf1 : ∀ a, a < 79 → am_kd a = 1 → ∀ j, j < am_f a → am_isr (am_fd (am_n a) j) = true → am_rf a j < 79 := by decide +kernel
theorem tx_rf4 : ∀ a, a < 79 → am_kd a = 4 → ∀ j, j < am_n a → am_f a + am_d a * j < 79 := by decide +kernel
theorem tx_kd : ∀ a, a < 79 → am_kd a = 1 ∨ am_kd a = 2 ∨ am_kd a = 3 ∨ am_kd a = 4 ∨ am_kd a = 10 := by decide +kernel
theorem tx_NN (h : G2.2.2.2 78 100000 = G.2.2.2 78 100000) : am_NN G2 = am_NN G := by
  unfold am_NN
  rw [h]
theorem tx_NNle : am_NN G ≤ 79 := by
  unfold am_NN
  split <;> omega
/-- the world is that of the cells alone -/
theorem tx_hp (e1 : ∀ k, k < 79 → G2.1 k = G.1 k) (e2 : G2.2.1 = G.2.1) (e3 : G2.2.2.1 = G.2.2.1) (e4 : G2.2.2.2 78 100000 = G.2.2.2 78 100000) (m1 : ∀ c, c < 79 → mi2 c = mi c) (m2 : ∀ c, am_N ≤ c → mi2 c = G2.2.2.2 c) (h : am_hp G H mi ml) : am_hp G2 H mi2 ml := by
  obtain ⟨h1, h2, h3, h4, h5⟩ := h
  have hN := tx_NN e4
  have at_ : ∀ {k : Nat} {q : Nat × va_E}, (am_wl G2 mi2 ml)[k]? = some q → k < am_NN G ∧ k < 79 ∧ q = (G.1 k, am_en G2 mi2 ml k) := by
    intro k q hk
    have hkN : k < am_NN G2 := by
      apply Decidable.byContradiction
      intro w
      have z : (am_wl G2 mi2 ml)[k]? = none := by
        rw [List.getElem?_eq_none]
        unfold am_wl
        simpa using Nat.not_lt.mp w
      rw [z] at hk
      cases hk
    rw [am_wl_at hkN] at hk
    cases hk
    have h79 := tx_NNle (G := G)
    exact ⟨by omega, by omega, by rw [e1 k (by omega)]⟩
  refine ⟨fun k q hk => ?_, ⟨fun i j p q hi hj e => ?_, fun k q hk => ?_⟩, m2, by rw [m1 78 (by omega), e4]; exact h4, by rw [e4]; exact h5⟩
  · obtain ⟨hkN, k79, rfl⟩ := at_ hk
    have hat := h1 k _ (am_wl_at hkN)
    rw [e2]
    rcases tx_kd k k79 with kd | kd | kd | kd | kd
    · rw [am_en1 kd] at hat ⊢
      have e : am_fs G2 mi2 k (am_n k) (am_f k) = am_fs G mi k (am_n k) (am_f k) := by
        unfold am_fs
        refine List.map_congr_left (fun j hj => ?_)
        have hj := List.mem_range.mp hj
        unfold am_fv
        rw [m1 k k79]
        by_cases r : am_isr (am_fd (am_n k) j) = true
        · rw [if_pos r, if_pos r, e1 _ (tx_rf1 k k79 kd j hj r)]
        · rw [if_neg r, if_neg r]
      rw [e]
      exact hat
    · rw [am_en2 kd] at hat ⊢
      rw [m1 k k79, e3]
      exact hat
    · rw [am_en3 kd] at hat ⊢
      rw [e3]
      exact hat
    · rw [am_en4 kd] at hat ⊢
      have hat : H[G.1 k]? = some (vp_cell _ _) := hat
      show H[G.1 k]? = some (vp_cell _ _)
      rw [hat, vp_cell_q, vp_cell_q, e3]
      exact congrArg some (cq_arr (fun j hj => by rw [e1 _ (tx_rf4 k k79 kd j hj)]))
    · rw [am_en10 kd] at hat ⊢
      rw [m1 k k79, e3]
      exact hat
  · obtain ⟨i1, i2, rfl⟩ := at_ hi
    obtain ⟨j1, j2, rfl⟩ := at_ hj
    exact h2.1 i j _ _ (am_wl_at i1) (am_wl_at j1) e
  · obtain ⟨k1, k2, rfl⟩ := at_ hk
    exact ⟨k, by omega, (e1 k k2).symm⟩
theorem tx_A (e1 : ∀ k, k < 79 → G2.1 k = G.1 k) (e4 : G2.2.2.2 78 100000 = G.2.2.2 78 100000) : am_A G2 = am_A G := by
  have hN := tx_NN e4
  have h79 := tx_NNle (G := G)
  funext q
  apply propext
  constructor
  · rintro ⟨k, hk, e⟩
    exact ⟨k, by omega, by rw [e, e1 k (by omega)]⟩
  · rintro ⟨k, hk, e⟩
    exact ⟨k, by omega, by rw [e, e1 k (by omega)]⟩
/-- moved to the tables of a callee -/
theorem am_sx_w (hW : s.WarmedH U.vm) (h : am_sx G s H) : am_sx G U H := by
  obtain ⟨h1, h2, h3, h4, h5, h6, h8, h7⟩ := h
  have hv := hW.alike
  refine ⟨fun k a b => ⟨va_Z.moved hv (h1 k a b).1, va_T.moved hv (h1 k a b).2⟩, va_Z.moved hv h2, va_T.moved hv h3, fun q a => (h4 q a).warm hW, fun k a => ?_, fun k a => va_T.moved hv (h6 k a), va_Z.moved hv h8, fun a i b n d h w => (h7 a i b n d h w).warmF hW⟩
  obtain ⟨g1, g2, g3⟩ := h5 k a
  exact ⟨va_O.moved hv g1, va_OF.moved hv g2, va_OF.moved hv g3⟩
theorem tx_oO {E : String} {t : Nat} {A B : Nat → Prop} (h : va_O E t A U H) (hB : ¬ B t) : va_O E t B U H := by
  obtain ⟨cell, h1, h2, h3, h4⟩ := h
  exact ⟨cell, h1, h2, h3, hB⟩
theorem tx_oF {o n d : String} {w : Value} {t : Nat} {A B : Nat → Prop} (h : va_OF o n d w t A U H) (hB : ¬ B t) : va_OF o n d w t B U H := by
  obtain ⟨cf, k, i, f, cell, h1, h2, h3, h4, h5, h6⟩ := h
  exact ⟨cf, k, i, f, cell, h1, h2, h3, h4, h5, hB⟩
theorem tx_oT {ty : FieldType} {t N : Nat} {g : Nat → Value} {A B : Nat → Prop} (h : va_T ty t N g A U H) (hB : ¬ B t) : va_T ty t N g B U H := by
  obtain ⟨cell, h1, h2, h3, h4, h5, h6, h7⟩ := h
  exact ⟨cell, h1, h2, h3, h4, h5, h6, hB⟩
theorem tx_st : ∀ q ∈ am_strs, ¬ q.2.2 = 138 ∧ ¬ q.2.2 = 139 := by decide
theorem tx_rf7 : ∀ i, i < 10 → ¬ am_rf (118 + i) 0 = 138 ∧ ¬ am_rf (118 + i) 0 = 139 := by decide
theorem tx_sx {H0 : Heap} (hn : n ≤ 1000) (hr : ¬ am_A G r) (hv : ¬ am_A G v) (hO : va_O "java/lang/String" r (fun _ => False) U H) (hc : va_OF "java/lang/String" "coder" "B" (.int 0) r (fun _ => False) U H) (hw : va_OF "java/lang/String" "value" "[B" (.ref v) r (fun _ => False) U H) (hT : va_T .byte v n (fun j => .int (f j)) (fun _ => False) U H) (h : am_sx G U H) : am_sx (tx_G G r v n f) U H := by
  obtain ⟨h1, h2, h3, h4, h5, h6, h8, h7⟩ := h
  have eA : am_A (tx_G G r v n f) = am_A G := tx_A (fun k hk => tx_G1 (by omega) (by omega)) (by show tx_m n f G.2.2.2 78 100000 = _; rw [tx_m1 (by omega) (by omega)])
  have em : ∀ c, ¬ c = 138 → ¬ c = 139 → (tx_G G r v n f).2.2.2 c = G.2.2.2 c := fun c a b => tx_m1 a b
  unfold am_sx
  rw [eA]
  refine ⟨fun k a b => ?_, h2, ?_, fun q hq => ?_, fun k hk => ?_, fun k hk => ?_, h8, h7⟩
  · rw [tx_G1 (by omega) (by omega), em k (by omega) (by omega)]
    exact h1 k a b
  · rw [tx_G1 (by omega) (by omega), em 117 (by omega) (by omega)]
    exact h3
  · obtain ⟨a, b⟩ := tx_st q hq
    rw [tx_G1 a b]
    exact h4 q hq
  · rcases nw_kd7 k hk with ⟨a, b⟩ | e
    · obtain ⟨i, rfl⟩ : ∃ i, k = 118 + i := ⟨k - 118, by omega⟩
      obtain ⟨c1, c2⟩ := tx_rf7 i (by omega)
      rw [tx_G1 (by omega) (by omega), em _ (by omega) (by omega), tx_G1 c1 c2]
      exact h5 _ hk
    · subst e
      exact ⟨tx_oO hO hr, tx_oF hc hr, tx_oF hw hr⟩
  · rcases nw_kd89 k hk with ⟨a, b, c⟩ | e
    · rw [tx_G1 (by omega) (by omega), em _ (by omega) (by omega), am_len8 c]
      have z := h6 k hk
      rw [am_len8 c] at z
      exact z
    · subst e
      have e0 : am_len (tx_G G r v n f).2.2.2 139 = n := by
        show (nI n).toNatClampNeg = n
        exact nI_clamp (by omega)
      rw [e0]
      obtain ⟨cell, y1, y2, y3, y4, y5, y6, y7⟩ := hT
      refine ⟨cell, y1, y2, y3, y4, y5, fun j hj => ?_, hv⟩
      rw [y6 j hj]
      show some (Value.int (f j)) = some (Value.int (if j = 100000 then nI n else f j))
      rw [if_neg (by omega)]
/-- what the law asks of the object doesn't hang on the text -/
theorem dq_A_138 {P : List (List Nat × List Nat)} {u : Nat → Nat → Int32} {n m v : Nat} {a b : am_MI} (h : dq_A P u n m v a) (k : ∀ c j, c < 138 → b c j = a c j) : dq_A P u n m v b := by
  obtain ⟨⟨h1, h2, h3, h4, h5⟩, hV, hC, ⟨z1, z2⟩, z3⟩ := h
  obtain ⟨⟨g1, g4, g8, g9, g10⟩, x2, x3, x4⟩ := h1
  obtain ⟨s0, s1, s2, s3, s4, s5, s6, s7, s8, s9⟩ := h2
  have o6 := fun j => k 116 j (by omega)
  have hn := x2.2.1
  exact ⟨⟨⟨⟨g1, g4, (k 15 6 (by omega)).trans g8, fun j hj => (k 18 _ (by omega)).trans (g9 j hj), (k 126 1 (by omega)).trans g10.1, fun j hj => (k 136 j (by omega)).trans (g10.2 j hj)⟩, am_cx_on x2 (k 1 1 (by omega)) (k 1 2 (by omega)) (fun w i hw => k _ _ (by omega)), trivial, x4⟩, ⟨fun j hj => ⟨(k 114 j (by omega)).trans (s0 j hj).1, (k 115 j (by omega)).trans (s0 j hj).2⟩, (o6 0).trans s1, (o6 1).trans s2, (o6 2).trans s3, (o6 3).trans s4, (o6 4).trans s5, (o6 5).trans s6, (o6 6).trans s7, (o6 7).trans s8, by rw [k 117 100000 (by omega)]; exact s9⟩, am_txs_on h3 (fun c j _ h => k c j (by omega)), am_fvn_on hn h4 (fun c j q1 q2 => k c j (by omega)), am_fvi_on h5 (fun c j q1 q2 => k c j (by omega)) (k 1 3 (by omega)) (k 15 7 (by omega))⟩, dq_V_on hV (k 1 3 (by omega)) (k 15 7 (by omega)), dq_C_on hC (k 13 1 (by omega)), ⟨fun j hj => (k 60 j (by omega)).trans (z1 j hj), fun j a b => (k 59 j (by omega)).trans (z2 j a b)⟩, (k 15 1 (by omega)).trans z3⟩
end SP89t
