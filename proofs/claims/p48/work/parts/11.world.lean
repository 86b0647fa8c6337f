/-! the world that holds the small machine's memory -/
abbrev am_G : Type := (Nat → Nat) × va_G × (Nat × Nat × Nat × Nat) × am_MI
def am_tv (G : am_G) : Value → Value
  | .ref a => .ref (G.1 a)
  | .null => if G.2.2.2 141 0 = 0 then .null else .ref (G.1 141)
  | v => v
/-- how many cells the memory has: with b, or without -/
def am_NN (G : am_G) : Nat := if G.2.2.2 78 100000 = 37 then 79 else 78
abbrev am_N : Nat := 114
def am_fd (c j : Nat) : String := match vwCl[c]? with
  | some r => (r.2.1 j).2.2.1
  | none => "I"
def am_fv (G : am_G) (mi : am_MI) (a c j : Nat) : Value := if am_isr (am_fd c j) = true then .ref (G.1 (am_rf a j)) else .int (mi a j)
def am_fs (G : am_G) (mi : am_MI) (a c n : Nat) : List Value := (List.range n).map (am_fv G mi a c)
def am_en (G : am_G) (mi : am_MI) (ml : am_ML) (a : Nat) : va_E := match am_ck a with
  | (1, c, n, _) => .inr (c, am_fs G mi a c n)
  | (2, n, _, _) => .inl (G.2.2.1.1, n, .inl (mi a))
  | (10, _, _, _) => .inl (G.2.2.1.1, 37, .inl (mi a))
  | (3, n, _, _) => .inl (G.2.2.1.2.1, n, .inr (.inl (ml a)))
  | (_, n, f, d) => .inl (if d = 1 then G.2.2.1.2.2.1 else G.2.2.1.2.2.2, n, .inr (.inr (.inr (.inr (fun j => some (G.1 (f + d * j)))))))
def am_wl (G : am_G) (mi : am_MI) (ml : am_ML) : va_W := (List.range (am_NN G)).map fun a => (G.1 a, am_en G mi ml a)
def am_A (G : am_G) : Nat → Prop := fun q => ∃ k, k < am_NN G ∧ q = G.1 k
def am_ty (G : am_G) : List (ClassId × FieldType) := [(G.2.2.1.1, .int), (G.2.2.1.2.1, .long), (G.2.2.1.2.2.1, .array .int), (G.2.2.1.2.2.2, .object "DoorsForThree$Shelf")]
def am_sx (G : am_G) (U : State) (H : Heap) : Prop :=
  (∀ k, 114 ≤ k → k ≤ 116 → va_Z (am_stn k).1 (am_stn k).2 "[I" (.ref (G.1 k)) (am_A G) U H ∧ va_T .int (G.1 k) (am_n k) (fun j => .int (G.2.2.2 k j)) (am_A G) U H) ∧
  va_Z "java/lang/String" "COMPACT_STRINGS" "Z" (.int 1) (am_A G) U H ∧
  va_T .int (G.1 117) (G.2.2.2 117 100000).toNatClampNeg (fun j => .int (G.2.2.2 117 j)) (am_A G) U H ∧
  (∀ q ∈ am_strs, vk_R "DoorsForThree$Law" q.1 q.2.1 (G.1 q.2.2) U) ∧
  (∀ k, am_kd k = 7 → va_O "java/lang/String" (G.1 k) (am_A G) U H ∧ va_OF "java/lang/String" "coder" "B" (.int (G.2.2.2 k 1)) (G.1 k) (am_A G) U H ∧ va_OF "java/lang/String" "value" "[B" (.ref (G.1 (am_rf k 0))) (G.1 k) (am_A G) U H) ∧
  (∀ k, am_kd k = 8 ∨ am_kd k = 9 → va_T .byte (G.1 k) (am_len G.2.2.2 k) (fun j => .int (G.2.2.2 k j)) (am_A G) U H) ∧
  va_Z "jdk/internal/util/Preconditions" "SIOOBE_FORMATTER" "Ljava/util/function/BiFunction;" (am_tv G .null) (am_A G) U H ∧
  ∀ a i b n d h, Cond.fieldLinkNest a i b n d h ∈ lw_tbl → va_Nw (.fieldLinkNest a i b n d h) U
def am_hp (G : am_G) (H : Heap) (mi : am_MI) (ml : am_ML) : Prop := va_P G.2.1 vwCl (am_wl G mi ml) H ∧ va_D (am_A G) (am_wl G mi ml) ∧ (∀ c, am_N ≤ c → mi c = G.2.2.2 c) ∧ mi 78 100000 = G.2.2.2 78 100000 ∧ (G.2.2.2 78 100000 = 37 ∨ G.2.2.2 78 100000 = 0)
def am_wd (G : am_G) (U : State) (H : Heap) (mi : am_MI) (ml : am_ML) : Prop := am_hp G H mi ml ∧ va_K G.2.1 vwCl (am_ty G) U ∧ am_sx G U H
theorem am_sx_on {G : am_G} {s U : State} {H : Heap} (hW : s.WarmedH U.vm) (hq : ∀ a : Nat, a < s.heap.size → ¬ am_A G a → H[a]? = s.heap[a]?) (h : am_sx G s s.heap) : am_sx G U H := by
  obtain ⟨h1, h2, h3, h4, h5, h6, h8, h7⟩ := h
  have hv := hW.alike
  refine ⟨fun k a b => ⟨va_Z.moved hv ((h1 k a b).1.kept hq), va_T.moved hv ((h1 k a b).2.kept hq)⟩, va_Z.moved hv (h2.kept hq), va_T.moved hv (h3.kept hq), fun q a => (h4 q a).warm hW, fun k a => ?_, fun k a => va_T.moved hv ((h6 k a).kept hq), va_Z.moved hv (h8.kept hq), fun a i b n d h w => (h7 a i b n d h w).warmF hW⟩
  obtain ⟨g1, g2, g3⟩ := h5 k a
  exact ⟨va_O.moved hv (g1.kept hq), va_OF.moved hv (g2.kept hq), va_OF.moved hv (g3.kept hq)⟩
theorem am_sx_vm {G : am_G} {u U : State} {H : Heap} (hv : U.vm = u.vm) (h : am_sx G u H) : am_sx G U H := by
  obtain ⟨h1, h2, h3, h4, h5, h6, h8, h7⟩ := h
  have hv2 : u.vm.Alike U.vm := by rw [hv]; exact Vm.Alike.refl _
  refine ⟨fun k a b => ⟨va_Z.moved hv2 (h1 k a b).1, va_T.moved hv2 (h1 k a b).2⟩, va_Z.moved hv2 h2, va_T.moved hv2 h3, fun q a => (h4 q a).same hv, fun k a => ?_, fun k a => va_T.moved hv2 (h6 k a), va_Z.moved hv2 h8, fun a i b n d h w => (h7 a i b n d h w).same rfl hv.symm⟩
  obtain ⟨g1, g2, g3⟩ := h5 k a
  exact ⟨va_O.moved hv2 g1, va_OF.moved hv2 g2, va_OF.moved hv2 g3⟩
theorem am_wd_vm {G : am_G} {u U : State} {H : Heap} {mi ml} (hv : U.vm = u.vm) (h : am_wd G u H mi ml) : am_wd G U H mi ml :=
  ⟨h.1, h.2.1.moved (by rw [hv]; exact Vm.Alike.refl _), am_sx_vm hv h.2.2⟩
/-! facts of the cells -/
theorem am_nth_out {α : Type} {d : α} : ∀ (l : List α) (i : Nat), l.length ≤ i → am_nth d l i = d
  | [], _, _ => rfl
  | _ :: _, 0, h => absurd h (by simp)
  | _ :: l, i + 1, h => am_nth_out l i (by simpa using h)
theorem am_ck_out {a : Nat} (h : 140 ≤ a) : am_ck a = (0, 0, 0, 0) := am_nth_out _ _ (by exact h)
def am_okcell (a : Nat) : Bool := match am_kd a with
  | 0 => true
  | 1 => decide (a < 78) && (match vwCl[am_n a]? with
    | some r => r.2.2 == am_f a
    | none => false)
  | 2 => decide (a < 78)
  | 3 => decide (a < 78)
  | 4 => decide (a < 78) && (am_d a == 1 || am_d a == 2)
  | 5 => decide (114 ≤ a) && decide (a ≤ 116)
  | 6 => a == 117
  | 7 => decide (118 ≤ a)
  | 8 => decide (118 ≤ a)
  | 9 => decide (118 ≤ a)
  | 10 => a == 78
  | _ => false
theorem am_okcells : ∀ a, a < 140 → am_okcell a = true := by decide +kernel
theorem am_okcell_of {a k : Nat} (h : am_kd a = k) (hk : 1 ≤ k) : am_okcell a = true := by
  refine am_okcells a (Nat.lt_of_not_le fun q => ?_)
  unfold am_kd at h
  rw [am_ck_out q] at h
  simp only at h
  omega
theorem am_k1 {a : Nat} (h : am_kd a = 1) : a < 78 ∧ ∃ C T, vwCl[am_n a]? = some (C, T, am_f a) := by
  have z := am_okcell_of h (by omega)
  unfold am_okcell at z
  rw [h] at z
  simp only [Bool.and_eq_true, decide_eq_true_eq] at z
  refine ⟨z.1, ?_⟩
  have z2 := z.2
  split at z2
  · rename_i r e
    exact ⟨r.1, r.2.1, by rw [e, ← eq_of_beq z2]⟩
  · cases z2
theorem am_k2 {a : Nat} (h : am_kd a = 2) : a < 78 := by
  have z := am_okcell_of h (by omega)
  unfold am_okcell at z
  rw [h] at z
  simpa using z
theorem am_k3 {a : Nat} (h : am_kd a = 3) : a < 78 := by
  have z := am_okcell_of h (by omega)
  unfold am_okcell at z
  rw [h] at z
  simpa using z
theorem am_k4 {a : Nat} (h : am_kd a = 4) : a < 78 ∧ (am_d a = 1 ∨ am_d a = 2) := by
  have z := am_okcell_of h (by omega)
  unfold am_okcell at z
  rw [h] at z
  simpa using z
theorem am_k5 {a : Nat} (h : am_kd a = 5) : 114 ≤ a ∧ a ≤ 116 := by
  have z := am_okcell_of h (by omega)
  unfold am_okcell at z
  rw [h] at z
  simpa using z
theorem am_k6 {a : Nat} (h : am_kd a = 6) : a = 117 := by
  have z := am_okcell_of h (by omega)
  unfold am_okcell at z
  rw [h] at z
  simpa using z
theorem am_k7 {a : Nat} (h : am_kd a = 7) : 118 ≤ a := by
  have z := am_okcell_of h (by omega)
  unfold am_okcell at z
  rw [h] at z
  simpa using z
theorem am_k8 {a : Nat} (h : am_kd a = 8) : 118 ≤ a := by
  have z := am_okcell_of h (by omega)
  unfold am_okcell at z
  rw [h] at z
  simpa using z
theorem am_k9 {a : Nat} (h : am_kd a = 9) : 118 ≤ a := by
  have z := am_okcell_of h (by omega)
  unfold am_okcell at z
  rw [h] at z
  simpa using z
theorem am_k10 {a : Nat} (h : am_kd a = 10) : a = 78 := by
  have z := am_okcell_of h (by omega)
  unfold am_okcell at z
  rw [h] at z
  simpa using z
theorem am_78 {G : am_G} {a : Nat} (h : a < 78) : a < am_NN G := by
  unfold am_NN
  split <;> omega
theorem am_NN_le {G : am_G} : am_NN G ≤ 79 := by
  unfold am_NN
  split <;> omega
theorem am_en1 {G : am_G} {mi ml} {a : Nat} (h : am_kd a = 1) : am_en G mi ml a = .inr (am_n a, am_fs G mi a (am_n a) (am_f a)) := by
  unfold am_kd at h
  unfold am_en am_n am_f
  rcases e : am_ck a with ⟨k, n, f, d⟩
  rw [e] at h
  subst h
  rfl
theorem am_en2 {G : am_G} {mi ml} {a : Nat} (h : am_kd a = 2) : am_en G mi ml a = .inl (G.2.2.1.1, am_n a, .inl (mi a)) := by
  unfold am_kd at h
  unfold am_en am_n
  rcases e : am_ck a with ⟨k, n, f, d⟩
  rw [e] at h
  subst h
  rfl
theorem am_en10 {G : am_G} {mi ml} {a : Nat} (h : am_kd a = 10) : am_en G mi ml a = .inl (G.2.2.1.1, 37, .inl (mi a)) := by
  unfold am_kd at h
  unfold am_en
  rcases e : am_ck a with ⟨k, n, f, d⟩
  rw [e] at h
  subst h
  rfl
theorem am_en3 {G : am_G} {mi ml} {a : Nat} (h : am_kd a = 3) : am_en G mi ml a = .inl (G.2.2.1.2.1, am_n a, .inr (.inl (ml a))) := by
  unfold am_kd at h
  unfold am_en am_n
  rcases e : am_ck a with ⟨k, n, f, d⟩
  rw [e] at h
  subst h
  rfl
theorem am_en4 {G : am_G} {mi ml} {a : Nat} (h : am_kd a = 4) : am_en G mi ml a = .inl (if am_d a = 1 then G.2.2.1.2.2.1 else G.2.2.1.2.2.2, am_n a, .inr (.inr (.inr (.inr (fun j => some (G.1 (am_f a + am_d a * j))))))) := by
  unfold am_kd at h
  unfold am_en am_n am_f am_d
  rcases e : am_ck a with ⟨k, n, f, d⟩
  rw [e] at h
  subst h
  rfl
theorem am_wl_at {G : am_G} {mi ml} {a : Nat} (h : a < am_NN G) : (am_wl G mi ml)[a]? = some (G.1 a, am_en G mi ml a) := by
  unfold am_wl
  rw [List.getElem?_map, List.getElem?_range h]
  rfl
/-- writing an entry in the world is writing the memory -/
theorem am_wl_set {G : am_G} {mi mi' ml ml'} {a : Nat} {v : va_E} (hv : am_en G mi' ml' a = v) (ho : ∀ b, b < am_NN G → ¬ b = a → am_en G mi' ml' b = am_en G mi ml b) : (am_wl G mi ml).set a (G.1 a, v) = am_wl G mi' ml' := by
  apply List.ext_getElem?
  intro k
  rw [List.getElem?_set]
  by_cases hk : k < am_NN G
  · rw [am_wl_at (mi := mi') (ml := ml') hk]
    by_cases e : a = k
    · subst e
      rw [if_pos rfl, if_pos (by unfold am_wl; simpa using hk), hv]
    · rw [if_neg e, am_wl_at hk, ho k hk (fun q => e q.symm)]
  · have hn : (am_wl G mi' ml')[k]? = none := by
      rw [List.getElem?_eq_none]
      unfold am_wl
      simpa using Nat.not_lt.mp hk
    rw [hn]
    by_cases e : a = k
    · subst e
      rw [if_pos rfl, if_neg (by unfold am_wl; simpa using hk)]
    · rw [if_neg e, List.getElem?_eq_none]
      unfold am_wl
      simpa using Nat.not_lt.mp hk
theorem am_ui_o {mi : am_MI} {a j : Nat} {x : Int32} {b : Nat} (h : ¬ b = a) : am_ui mi a j x b = mi b := by
  funext i
  unfold am_ui
  rw [if_neg (fun q => h q.1)]
theorem am_ul_o {ml : am_ML} {a j : Nat} {x : Int64} {b : Nat} (h : ¬ b = a) : am_ul ml a j x b = ml b := by
  funext i
  unfold am_ul
  rw [if_neg (fun q => h q.1)]
theorem am_ci_o {mi : am_MI} {a0 sp a1 dp n b : Nat} (h : ¬ b = a1) : am_ci mi a0 sp a1 dp n b = mi b := by
  funext i
  unfold am_ci
  rw [if_neg (fun q => h q.1)]
theorem am_cj_o {ml : am_ML} {a0 sp a1 dp n b : Nat} (h : ¬ b = a1) : am_cj ml a0 sp a1 dp n b = ml b := by
  funext i
  unfold am_cj
  rw [if_neg (fun q => h q.1)]
/-- the entry of a cell reads its own row of the memory alone -/
theorem am_en_c {G : am_G} {mi mi' ml ml'} {b : Nat} (h1 : mi' b = mi b) (h2 : ml' b = ml b) : am_en G mi' ml' b = am_en G mi ml b := by
  unfold am_en am_fs am_fv
  rw [h1, h2]
theorem am_ui_a {mi : am_MI} {a j : Nat} {x : Int32} : am_ui mi a j x a = upd (mi a) j x := by
  funext i
  unfold am_ui upd
  by_cases h : i = j
  · rw [if_pos ⟨rfl, h⟩, if_pos h]
  · rw [if_neg (fun q => h q.2), if_neg h]
theorem am_ul_a {ml : am_ML} {a j : Nat} {x : Int64} : am_ul ml a j x a = vp_updL (ml a) j x := by
  funext i
  unfold am_ul vp_updL
  by_cases h : i = j
  · rw [if_pos ⟨rfl, h⟩, if_pos h]
  · rw [if_neg (fun q => h q.2), if_neg h]
theorem am_ci_a {mi : am_MI} {a0 sp a1 dp n : Nat} : am_ci mi a0 sp a1 dp n a1 = va_cpy (mi a0) (mi a1) sp dp n := by
  funext i
  unfold am_ci va_cpy
  by_cases h : dp ≤ i ∧ i < dp + n
  · rw [if_pos ⟨rfl, h⟩, if_pos h]
  · rw [if_neg (fun q => h q.2), if_neg h]
theorem am_cj_a {ml : am_ML} {a0 sp a1 dp n : Nat} : am_cj ml a0 sp a1 dp n a1 = va_cpy (ml a0) (ml a1) sp dp n := by
  funext i
  unfold am_cj va_cpy
  by_cases h : dp ≤ i ∧ i < dp + n
  · rw [if_pos ⟨rfl, h⟩, if_pos h]
  · rw [if_neg (fun q => h q.2), if_neg h]
def am_cst (G : am_G) (mi : am_MI) : Prop := (∀ c, am_N ≤ c → mi c = G.2.2.2 c) ∧ mi 78 100000 = G.2.2.2 78 100000 ∧ (G.2.2.2 78 100000 = 37 ∨ G.2.2.2 78 100000 = 0)
theorem am_hp_ui {G : am_G} {mi : am_MI} {a j : Nat} {x : Int32} (ha : a < 78) (h : am_cst G mi) : am_cst G (am_ui mi a j x) :=
  ⟨fun c hc => by have hd : 114 ≤ c := hc; rw [am_ui_o (by omega)]; exact h.1 c hc, by rw [am_ui_o (by omega)]; exact h.2.1, h.2.2⟩
theorem am_hp_ub {G : am_G} {mi : am_MI} {j : Nat} {x : Int32} (hj : j < 37) (h : am_cst G mi) : am_cst G (am_ui mi 78 j x) :=
  ⟨fun c hc => by have hd : 114 ≤ c := hc; rw [am_ui_o (by omega)]; exact h.1 c hc, by unfold am_ui; rw [if_neg (by omega)]; exact h.2.1, h.2.2⟩
theorem am_hp_ci {G : am_G} {mi : am_MI} {a0 sp a1 dp n : Nat} (ha : a1 < 78) (h : am_cst G mi) : am_cst G (am_ci mi a0 sp a1 dp n) :=
  ⟨fun c hc => by have hd : 114 ≤ c := hc; rw [am_ci_o (by omega)]; exact h.1 c hc, by rw [am_ci_o (by omega)]; exact h.2.1, h.2.2⟩
/-- a place in b that is there: b is in the world -/
theorem am_b_in {G : am_G} {mi : am_MI} {j : Int32} (h : am_cst G mi) (hj : vp_in j (mi 78 100000).toNatClampNeg) : 78 < am_NN G ∧ vp_in j 37 := by
  rw [h.2.1] at hj
  rcases h.2.2 with q | q
  · rw [q] at hj
    exact ⟨by unfold am_NN; rw [if_pos q]; omega, hj⟩
  · rw [q] at hj
    exact absurd (Or.inr (Nat.zero_le _)) hj
/-- b's element written -/
theorem am_wl_ub {G : am_G} {mi ml} {a j : Nat} {x : Int32} (h : am_kd a = 10) : (am_wl G mi ml).set a (G.1 a, .inl (G.2.2.1.1, 37, .inl (upd (mi a) j x))) = am_wl G (am_ui mi a j x) ml :=
  am_wl_set (by rw [am_en10 h, am_ui_a]) (fun b _ hb => am_en_c (am_ui_o hb) rfl)
/-- an int array's element written -/
theorem am_wl_ui {G : am_G} {mi ml} {a j : Nat} {x : Int32} (h : am_kd a = 2) : (am_wl G mi ml).set a (G.1 a, .inl (G.2.2.1.1, am_n a, .inl (upd (mi a) j x))) = am_wl G (am_ui mi a j x) ml :=
  am_wl_set (by rw [am_en2 h, am_ui_a]) (fun b _ hb => am_en_c (am_ui_o hb) rfl)
theorem am_wl_ul {G : am_G} {mi ml} {a j : Nat} {x : Int64} (h : am_kd a = 3) : (am_wl G mi ml).set a (G.1 a, .inl (G.2.2.1.2.1, am_n a, .inr (.inl (vp_updL (ml a) j x)))) = am_wl G mi (am_ul ml a j x) :=
  am_wl_set (by rw [am_en3 h, am_ul_a]) (fun b _ hb => am_en_c rfl (am_ul_o hb))
theorem am_wl_ci {G : am_G} {mi ml} {a0 sp a1 dp n : Nat} (h : am_kd a1 = 2) : (am_wl G mi ml).set a1 (G.1 a1, .inl (G.2.2.1.1, am_n a1, .inl (va_cpy (mi a0) (mi a1) sp dp n))) = am_wl G (am_ci mi a0 sp a1 dp n) ml :=
  am_wl_set (by rw [am_en2 h, am_ci_a]) (fun b _ hb => am_en_c (am_ci_o hb) rfl)
theorem am_wl_cj {G : am_G} {mi ml} {a0 sp a1 dp n : Nat} (h : am_kd a1 = 3) : (am_wl G mi ml).set a1 (G.1 a1, .inl (G.2.2.1.2.1, am_n a1, .inr (.inl (va_cpy (ml a0) (ml a1) sp dp n)))) = am_wl G mi (am_cj ml a0 sp a1 dp n) :=
  am_wl_set (by rw [am_en3 h, am_cj_a]) (fun b _ hb => am_en_c rfl (am_cj_o hb))
theorem am_fs_at {G : am_G} {mi a c n j} (h : j < n) : (am_fs G mi a c n)[j]? = some (am_fv G mi a c j) := by
  unfold am_fs
  rw [List.getElem?_map, List.getElem?_range h]
  rfl
theorem am_fs_len {G : am_G} {mi a c n} : (am_fs G mi a c n).length = n := by
  unfold am_fs
  simp
theorem am_fs_set {G : am_G} {mi a c n j} {x : Int32} (hr : am_isr (am_fd c j) = false) : (am_fs G mi a c n).set j (.int x) = am_fs G (am_ui mi a j x) a c n := by
  apply List.ext_getElem?
  intro k
  rw [List.getElem?_set]
  by_cases hk : k < n
  · rw [am_fs_at (mi := am_ui mi a j x) hk]
    by_cases e : j = k
    · subst e
      rw [if_pos rfl, if_pos (by rw [am_fs_len]; exact hk)]
      unfold am_fv am_ui
      rw [hr, if_neg (by decide), if_pos ⟨rfl, rfl⟩]
    · rw [if_neg e, am_fs_at hk]
      unfold am_fv am_ui
      rw [if_neg (c := a = a ∧ k = j) (fun q => e q.2.symm)]
  · have hn : (am_fs G (am_ui mi a j x) a c n)[k]? = none := by
      rw [List.getElem?_eq_none]
      rw [am_fs_len]
      exact Nat.not_lt.mp hk
    rw [hn]
    by_cases e : j = k
    · subst e
      rw [if_pos rfl, if_neg (by rw [am_fs_len]; exact hk)]
    · rw [if_neg e, List.getElem?_eq_none]
      rw [am_fs_len]
      exact Nat.not_lt.mp hk
theorem am_wl_fs {G : am_G} {mi ml} {a j : Nat} {x : Int32} (h : am_kd a = 1) (hr : am_isr (am_fd (am_n a) j) = false) : (am_wl G mi ml).set a (G.1 a, .inr (am_n a, (am_fs G mi a (am_n a) (am_f a)).set j (.int x))) = am_wl G (am_ui mi a j x) ml :=
  am_wl_set (by rw [am_en1 h, am_fs_set hr]) (fun b _ hb => am_en_c (am_ui_o hb) rfl)
/-! locals -/
def am_lt (G : am_G) : Nat → am_L → List (Nat × Value)
  | _, [] => []
  | i, none :: l => am_lt G (i + 1) l
  | i, some v :: l => (i, am_tv G v) :: am_lt G (i + 1) l
theorem am_lt_m {G : am_G} : ∀ (l : am_L) (i : Nat) (q : Nat × Value), q ∈ am_lt G i l ↔ ∃ j v, q = (i + j, am_tv G v) ∧ am_lg l j = some v
  | [], i, q => ⟨fun h => (List.not_mem_nil h).elim, fun ⟨j, v, _, h⟩ => by cases h⟩
  | none :: l, i, q => by
    show q ∈ am_lt G (i + 1) l ↔ _
    rw [am_lt_m l (i + 1) q]
    constructor
    · rintro ⟨j, v, e, h⟩
      exact ⟨j + 1, v, by rw [e, Nat.add_assoc, Nat.add_comm 1 j], h⟩
    · rintro ⟨j, v, e, h⟩
      cases j with
      | zero => cases h
      | succ j => exact ⟨j, v, by rw [e, Nat.add_assoc, Nat.add_comm 1 j], h⟩
  | some w :: l, i, q => by
    show q ∈ (i, am_tv G w) :: am_lt G (i + 1) l ↔ _
    rw [List.mem_cons, am_lt_m l (i + 1) q]
    constructor
    · rintro (e | ⟨j, v, e, h⟩)
      · exact ⟨0, w, e, rfl⟩
      · exact ⟨j + 1, v, by rw [e, Nat.add_assoc, Nat.add_comm 1 j], h⟩
    · rintro ⟨j, v, e, h⟩
      cases j with
      | zero =>
        cases h
        exact Or.inl e
      | succ j => exact Or.inr ⟨j, v, by rw [e, Nat.add_assoc, Nat.add_comm 1 j], h⟩
theorem am_lt_0 {G : am_G} {l : am_L} {q : Nat × Value} : q ∈ am_lt G 0 l ↔ ∃ v, q.2 = am_tv G v ∧ am_lg l q.1 = some v := by
  rw [am_lt_m]
  constructor
  · rintro ⟨j, v, e, h⟩
    rw [e, Nat.zero_add]
    exact ⟨v, rfl, h⟩
  · rintro ⟨v, e, h⟩
    exact ⟨q.1, v, by rw [Nat.zero_add, ← e], h⟩
def am_lv (G : am_G) (nL : Nat) (lo : am_L) (ls : Array Slot) : Prop := lv_has ls nL (am_lt G 0 lo)
theorem am_lv_sub {ls : Array Slot} {nL : Nat} {l l' : List (Nat × Value)} (h : lv_has ls nL l) (hs : ∀ q ∈ l', q ∈ l) : lv_has ls nL l' := ⟨h.1, h.2.1, fun q hq => h.2.2 q (hs q hq)⟩
theorem am_lv_at {G : am_G} {nL lo ls} (h : am_lv G nL lo ls) {n : Nat} {v : Value} (hn : am_lg lo n = some v) : ls[n]? = some (.val (am_tv G v)) :=
  h.2.2 (n, am_tv G v) (am_lt_0.mpr ⟨v, rfl, hn⟩)
theorem am_lv_le {G : am_G} {nL ls} : ∀ {lo' lo : am_L}, am_le lo' lo → am_lv G nL lo ls → am_lv G nL lo' ls := by
  intro lo' lo hle h
  refine am_lv_sub h fun q hq => ?_
  obtain ⟨v, e, hl⟩ := am_lt_0.mp hq
  refine am_lt_0.mpr ⟨v, e, ?_⟩
  have key : ∀ (lo' lo : am_L) (n : Nat) (v : Value), am_le lo' lo → am_lg lo' n = some v → am_lg lo n = some v := by
    intro lo'
    induction lo' with
    | nil => intro lo n v _ h; cases h
    | cons a l ih =>
      intro lo n v hle h
      cases lo with
      | nil =>
        cases a <;> exact hle.elim
      | cons b l2 =>
        cases n with
        | zero =>
          cases a with
          | none => cases h
          | some w => exact hle.1.trans h
        | succ n =>
          cases a with
          | none => exact ih l2 n v hle h
          | some w => exact ih l2 n v hle.2 h
  exact key _ _ _ _ hle hl
theorem am_lg_ls : ∀ (lo : am_L) (i j : Nat) (o : Option Value) (v : Value), am_lg (am_ls lo i o) j = some v → (j = i ∧ o = some v) ∨ (¬ j = i ∧ am_lg lo j = some v)
  | [], _, _, _, _, h => by cases h
  | _ :: l, 0, 0, o, v, h => Or.inl ⟨rfl, h⟩
  | _ :: l, 0, j + 1, o, v, h => Or.inr ⟨by omega, h⟩
  | a :: l, i + 1, 0, o, v, h => Or.inr ⟨by omega, h⟩
  | a :: l, i + 1, j + 1, o, v, h => by
    rcases am_lg_ls l i j o v h with ⟨e, w⟩ | ⟨e, w⟩
    · exact Or.inl ⟨by omega, w⟩
    · exact Or.inr ⟨by omega, w⟩
theorem am_lg_kl {lo : am_L} {i j : Nat} {v : Value} (h : am_lg (am_kl lo i) j = some v) : am_lg lo j = some v ∧ (j = i → ¬ v.category = 2) := by
  unfold am_kl at h
  split at h
  · rcases am_lg_ls _ _ _ _ _ h with ⟨_, e⟩ | ⟨e, w⟩
    · cases e
    · exact ⟨w, fun q => (e q).elim⟩
  · rcases am_lg_ls _ _ _ _ _ h with ⟨_, e⟩ | ⟨e, w⟩
    · cases e
    · exact ⟨w, fun q => (e q).elim⟩
  · rename_i n1 n2
    refine ⟨h, fun e => ?_⟩
    subst e
    cases v <;> first | exact absurd h (n1 _) | exact absurd h (n2 _) | (intro q; cases q)
theorem am_tv_cat {G : am_G} {v : Value} : (am_tv G v).category = v.category := by
  cases v with
  | null =>
    unfold am_tv
    simp only
    split <;> rfl
  | _ => rfl
theorem am_s1_sub {G : am_G} {lo : am_L} {i : Nat} {v : Value} : ∀ q ∈ am_lt G 0 (am_s1 lo i v), q ∈ (i, am_tv G v) :: (am_lt G 0 lo).filter (fun q => !(q.1 == i) && !(q.1 + 1 == i && q.2.category == 2)) := by
  intro q hq
  obtain ⟨w, e, h⟩ := am_lt_0.mp hq
  obtain ⟨j, z⟩ := q
  simp only at e h
  subst e
  unfold am_s1 at h
  split at h
  · rcases am_lg_ls _ _ _ _ _ h with ⟨e1, e2⟩ | ⟨e1, e2⟩
    · cases e2
      subst e1
      exact List.mem_cons_self
    · refine List.mem_cons_of_mem _ (List.mem_filter.mpr ⟨am_lt_0.mpr ⟨w, rfl, e2⟩, ?_⟩)
      simp
      exact e1
  · rename_i i
    rcases am_lg_ls _ _ _ _ _ h with ⟨e1, e2⟩ | ⟨e1, e2⟩
    · cases e2
      subst e1
      exact List.mem_cons_self
    · obtain ⟨g1, g2⟩ := am_lg_kl e2
      refine List.mem_cons_of_mem _ (List.mem_filter.mpr ⟨am_lt_0.mpr ⟨w, rfl, g1⟩, ?_⟩)
      simp only [am_tv_cat]
      simp
      exact ⟨e1, Decidable.not_or_of_imp g2⟩
theorem am_s2_sub {G : am_G} {lo : am_L} {i : Nat} {v : Value} : ∀ q ∈ am_lt G 0 (am_s2 lo i v), q ∈ (i, am_tv G v) :: (am_lt G 0 lo).filter (fun q => !(q.1 == i) && (!(q.1 == i + 1) && !(q.1 + 1 == i && q.2.category == 2))) := by
  intro q hq
  obtain ⟨w, e, h⟩ := am_lt_0.mp hq
  obtain ⟨j, z⟩ := q
  simp only at e h
  subst e
  unfold am_s2 at h
  split at h
  · rcases am_lg_ls _ _ _ _ _ h with ⟨e1, e2⟩ | ⟨e1, e2⟩
    · cases e2
      subst e1
      exact List.mem_cons_self
    · rcases am_lg_ls _ _ _ _ _ e2 with ⟨e3, e4⟩ | ⟨e3, e4⟩
      · cases e4
      · refine List.mem_cons_of_mem _ (List.mem_filter.mpr ⟨am_lt_0.mpr ⟨w, rfl, e4⟩, ?_⟩)
        simp
        exact ⟨e1, e3⟩
  · rename_i i
    rcases am_lg_ls _ _ _ _ _ h with ⟨e1, e2⟩ | ⟨e1, e2⟩
    · cases e2
      subst e1
      exact List.mem_cons_self
    · rcases am_lg_ls _ _ _ _ _ e2 with ⟨e3, e4⟩ | ⟨e3, e4⟩
      · cases e4
      · obtain ⟨g1, g2⟩ := am_lg_kl e4
        refine List.mem_cons_of_mem _ (List.mem_filter.mpr ⟨am_lt_0.mpr ⟨w, rfl, g1⟩, ?_⟩)
        simp only [am_tv_cat]
        simp
        exact ⟨e1, e3, Decidable.not_or_of_imp g2⟩
theorem am_sl_cat : ∀ vs : List Value, (lg_sl vs).length = am_cat vs
  | [] => rfl
  | v :: vs => by
    have ih := am_sl_cat vs
    unfold lg_sl at ih ⊢
    rw [List.flatMap_cons, List.length_append, ih]
    cases v <;> rfl
theorem am_cat_tv {G : am_G} : ∀ vs : List Value, am_cat (vs.map (am_tv G)) = am_cat vs
  | [] => rfl
  | v :: vs => by
    show (am_tv G v).category + am_cat (vs.map (am_tv G)) = v.category + am_cat vs
    rw [am_cat_tv vs, am_tv_cat]
theorem am_lt_rep {G : am_G} : ∀ (n i : Nat), am_lt G i (List.replicate n none) = []
  | 0, _ => rfl
  | n + 1, i => am_lt_rep n (i + 1)
theorem am_in_sub {G : am_G} : ∀ (vs : List Value) (n i : Nat), ∀ q ∈ am_lt G i (am_in n vs), q ∈ lv_args i (vs.map (am_tv G))
  | [], n, i, q, h => by
    unfold am_in at h
    rw [am_lt_rep] at h
    cases h
  | v :: vs, n, i, q, h => by
    have one : ∀ n, q ∈ (i, am_tv G v) :: am_lt G (i + 1) (am_in n vs) → ¬ v.category = 2 → q ∈ lv_args i ((v :: vs).map (am_tv G)) := by
      intro n h hc
      show q ∈ (i, am_tv G v) :: lv_args (if (am_tv G v).category = 2 then i + 2 else i + 1) (vs.map (am_tv G))
      rw [am_tv_cat, if_neg hc]
      rcases List.mem_cons.mp h with h | h
      · exact List.mem_cons.mpr (Or.inl h)
      · exact List.mem_cons_of_mem _ (am_in_sub vs n (i + 1) q h)
    have two : ∀ n, q ∈ (i, am_tv G v) :: am_lt G (i + 1 + 1) (am_in n vs) → v.category = 2 → q ∈ lv_args i ((v :: vs).map (am_tv G)) := by
      intro n h hc
      show q ∈ (i, am_tv G v) :: lv_args (if (am_tv G v).category = 2 then i + 2 else i + 1) (vs.map (am_tv G))
      rw [am_tv_cat, if_pos hc]
      rcases List.mem_cons.mp h with h | h
      · exact List.mem_cons.mpr (Or.inl h)
      · exact List.mem_cons_of_mem _ (am_in_sub vs n (i + 2) q h)
    cases v <;> first | exact one _ h (by intro q; cases q) | exact two _ h rfl
theorem am_lv_in {G : am_G} {vs : List Value} {n : Nat} (h : am_cat vs ≤ n) : am_lv G n (am_in n vs) ((lg_sl (vs.map (am_tv G)) ++ List.replicate (n - (lg_sl (vs.map (am_tv G))).length) Slot.unset).toArray) :=
  am_lv_sub (lv_entry (vs.map (am_tv G)) (n := n) (by rw [am_sl_cat, am_cat_tv]; exact h)) (am_in_sub vs n 0)
theorem am_cat_sum : ∀ vs : List Value, (vs.map fun v => v.category).sum = am_cat vs
  | [] => rfl
  | v :: vs => by
    rw [List.map_cons, List.sum_cons, am_cat_sum vs]
    rfl
