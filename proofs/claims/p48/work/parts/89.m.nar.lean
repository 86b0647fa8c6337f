/-! the start: what the Statement gives of it, as the small machine's memory and world -/
def nw_C : List Cond := flatC (Jvm.Cond.and given_1 narrow_1)
def nw_ix (i : Nat) : Nat := am_nth 0 [77, 93, 95, 83, 81, 51, 79, 61, 85, 75] i
def nw_t (i : Nat) : Term := Term.string "DoorsForThree$Law" (nw_ix i)
def nw_v (i : Nat) : Term := Term.field (nw_t i) "java/lang/String" "value" "[B"
def nw_ln : List Nat := [1, 3, 1, 3, 2, 1, 3, 1, 6, 1]
def nw_s (k : Nat) : Term := Term.static (am_stn k).1 (am_stn k).2 "[I"
/-- the memory beyond the made cells: statics, (script), texts, their bytes -/
def nw_tbl : List (List Int32) := [[1, 0, 1, 1, 0, 0, 0, 0, 0, 0], [24, 7, 9, 18, 7, 9, 24, 24, 1, 9], [-1, 0, 0, 2, 1, 3, 0, 4], [], [], [], [], [], [], [], [], [], [], [], [38], [40, 33, 45], [41], [42, 47, 37], [43, 45], [59], [60, 61, 62], [63], [115, 119, 100, 97, 110, 107], [124]]
def nw_k (c j : Nat) : Int32 := if c < 114 then 0 else am_nth 0 (am_nth [] nw_tbl (c - 114)) j
def nw_mi (L : Nat) (xs : Nat → Int32) (q φ : Int32) : am_MI := fun c j => if c = 117 then (if j = 100000 then nI L else xs j) else if c = 78 then (if j = 100000 then q else 0) else if c = 138 then nw_k 118 j else if c = 139 then (if j = 100000 then nI 1 else nw_k 128 j) else if c = 141 then φ else nw_k c j
theorem nw_mi_ne {L : Nat} {xs : Nat → Int32} {q φ : Int32} {c : Nat} (h : ¬ c = 117) (h2 : ¬ c = 78) (h3 : c < 138) : nw_mi L xs q φ c = nw_k c := by
  funext j
  unfold nw_mi
  rw [if_neg h, if_neg h2, if_neg (by omega), if_neg (by omega), if_neg (by omega)]
theorem nw_mi_L {L : Nat} {xs : Nat → Int32} {q φ : Int32} : nw_mi L xs q φ 117 100000 = nI L := rfl
theorem nw_mi_s {L : Nat} {xs : Nat → Int32} {q φ : Int32} {j : Nat} (h : ¬ j = 100000) : nw_mi L xs q φ 117 j = xs j := by
  unfold nw_mi
  rw [if_pos rfl, if_neg h]
theorem nw_mi_0 {L : Nat} {xs : Nat → Int32} {q φ : Int32} {c j : Nat} (h : c < 78) : nw_mi L xs q φ c j = 0 := by
  rw [nw_mi_ne (by omega) (by omega) (by omega)]
  unfold nw_k
  rw [if_pos (by omega)]
theorem nw_mi_139 {L : Nat} {xs : Nat → Int32} {q φ : Int32} {j : Nat} (h : j < 1) : nw_mi L xs q φ 139 j = nw_k 128 j := by
  unfold nw_mi
  rw [if_neg (by decide), if_neg (by decide), if_neg (by decide), if_pos rfl, if_neg (by omega)]
theorem nw_nth {α : Type} {d : α} : ∀ (l : List α) (i : Nat), am_nth d l i = l.getD i d
  | [], _ => rfl
  | _ :: _, 0 => rfl
  | x :: l, i + 1 => by
    show am_nth d l i = _
    rw [nw_nth l i]
    rfl
set_option maxRecDepth 1000000 in
theorem nw_ex : ∀ i, i < 10 → Cond.exactly (nw_t i) "java/lang/String" ∈ nw_C := by decide +kernel
set_option maxRecDepth 1000000 in
theorem nw_co : ∀ i, i < 10 → Cond.eq (.field (nw_t i) "java/lang/String" "coder" "B") (.int 0) ∈ nw_C := by decide +kernel
set_option maxRecDepth 1000000 in
theorem nw_ar : ∀ i, i < 10 → Cond.arrayOf (nw_v i) .byte ∈ nw_C := by decide +kernel
set_option maxRecDepth 1000000 in
theorem nw_le : ∀ i, i < 10 → Cond.eq (.length (nw_v i)) (.int (Int32.ofNat (nw_ln.getD i 0))) ∈ nw_C := by decide +kernel
set_option maxRecDepth 1000000 in
theorem nw_el : ∀ i, i < 10 → ∀ j, j < nw_ln.getD i 0 → Cond.eq (.elem (nw_v i) (.int (Int32.ofNat j))) (.int ((am_txl.getD i []).getD j 0)) ∈ nw_C := by decide +kernel
set_option maxRecDepth 1000000 in
theorem nw_sa : ∀ k, k < 3 → Cond.arrayOf (nw_s (114 + k)) .int ∈ nw_C := by decide +kernel
set_option maxRecDepth 1000000 in
theorem nw_sl : ∀ k, k < 3 → Cond.eq (.length (nw_s (114 + k))) (.int (Int32.ofNat (am_n (114 + k)))) ∈ nw_C := by decide +kernel
set_option maxRecDepth 1000000 in
theorem nw_se : ∀ k, k < 3 → ∀ j, j < am_n (114 + k) → Cond.eq (.elem (nw_s (114 + k)) (.int (Int32.ofNat j))) (.int (nw_k (114 + k) j)) ∈ nw_C := by decide +kernel
set_option maxRecDepth 1000000 in
theorem nw_cs : Cond.eq (.static "java/lang/String" "COMPACT_STRINGS" "Z") (.int 1) ∈ nw_C := by decide +kernel
theorem nw_sn : ∀ k, k < 3 → am_n (114 + k) < 2 ^ 31 := by decide +kernel
theorem nw_tn : ∀ i, i < 10 → nw_ln.getD i 0 < 2 ^ 31 := by decide +kernel
set_option maxRecDepth 1000000 in
theorem nw_sx : [374, 376, 1054].map (fun i => tables_1[i]?) = ((List.range 3).map (fun k => Cond.laysStatic (am_stn (114 + k)).1 (am_stn (114 + k)).2 "[I")).map some := by decide +kernel
set_option maxRecDepth 1000000 in
theorem nw_si : [2, 2, 11].map (fun i => tables_1[i]?) = ((List.range 3).map (fun k => Cond.initialized (am_stn (114 + k)).1)).map some := by decide +kernel
set_option maxRecDepth 1000000 in
theorem nw_Rx : [463, 566, 567, 571, 572, 573, 574, 575, 576, 577].map (fun i => tables_1[i]?) = (am_strs.map (fun q => Cond.stringRef "DoorsForThree$Law" q.1 q.2.1)).map some := by decide +kernel
set_option maxRecDepth 1000000 in
theorem nw_ins : [34, 66, 241, 187, 138, 83, 291, 312, 228, 122, 26, 1256, 1096].map (fun i => tables_1[i]?) = (vwCl.map (fun r => Cond.instantiable r.1 r.2.2)).map some := by decide +kernel
theorem nw_ss {k : Nat} (hk : k < 3) : Cond.laysStatic (am_stn (114 + k)).1 (am_stn (114 + k)).2 "[I" ∈ tables_1 := am_uses nw_sx _ (List.mem_map_of_mem (f := fun k => Cond.laysStatic (am_stn (114 + k)).1 (am_stn (114 + k)).2 "[I") (List.mem_range.mpr hk))
theorem nw_st {k : Nat} (hk : k < 3) : Cond.initialized (am_stn (114 + k)).1 ∈ tables_1 := am_uses nw_si _ (List.mem_map_of_mem (f := fun k => Cond.initialized (am_stn (114 + k)).1) (List.mem_range.mpr hk))
theorem nw_R : ∀ q ∈ am_strs, ∃ i, i < 10 ∧ q.2.2 = 118 + i ∧ nw_ix i = q.1 := by decide +kernel
theorem nw_k8 : ∀ i, i < 10 → am_nth [] nw_tbl (128 + i - 114) = am_txl.getD i [] ∧ am_n (128 + i) = nw_ln.getD i 0 ∧ nw_k (118 + i) 1 = 0 := by decide +kernel
theorem nw_k8e {i : Nat} (h : i < 10) : nw_k (128 + i) = fun j => (am_txl.getD i []).getD j 0 := by
  funext j
  unfold nw_k
  rw [if_neg (by omega), (nw_k8 i h).1, nw_nth]
theorem nw_ksta : (∀ j, j < 10 → nw_k 114 j = nI (am_lo j) ∧ nw_k 115 j = nI (am_hi j)) ∧ nw_k 116 0 = -1 ∧ nw_k 116 1 = 0 ∧ nw_k 116 2 = 0 ∧ nw_k 116 3 = 2 ∧ nw_k 116 4 = 1 ∧ nw_k 116 5 = 3 ∧ nw_k 116 6 = 0 ∧ nw_k 116 7 = 4 := by decide +kernel
theorem nw_ktxs : ∀ i, i < 10 → nw_k (118 + i) 1 = 0 ∧ ∀ j, j < (am_tx i).length → nw_k (128 + i) j = nI ((am_tx i).getD j 0) := by decide +kernel
theorem nw_sta {L : Nat} {xs : Nat → Int32} {q φ : Int32} (hL : L ≤ 260) : am_sta (nw_mi L xs q φ) := by
  have h := nw_ksta
  rw [← nw_mi_ne (L := L) (xs := xs) (q := q) (φ := φ) (c := 114) (by decide) (by decide) (by decide), ← nw_mi_ne (L := L) (xs := xs) (q := q) (φ := φ) (c := 115) (by decide) (by decide) (by decide), ← nw_mi_ne (L := L) (xs := xs) (q := q) (φ := φ) (c := 116) (by decide) (by decide) (by decide)] at h
  obtain ⟨h0, h1, h2, h3, h4, h5, h6, h7, h8⟩ := h
  refine ⟨h0, h1, h2, h3, h4, h5, h6, h7, h8, ?_⟩
  rw [nw_mi_L, nI_clamp (by omega)]
  exact hL
theorem nw_txs {L : Nat} {xs : Nat → Int32} {q φ : Int32} : am_txs (nw_mi L xs q φ) := fun i hi => by
  rw [nw_mi_ne (by omega) (by omega) (by omega), nw_mi_ne (by omega) (by omega) (by omega)]
  exact nw_ktxs i hi
/-- where all stands -/
def nw_G (B b : Nat) (fr : Nat) (aS aK aV : Nat → Nat) (D : Nat → ClassId × (Nat → Nat)) (cI cJ cA cS : Nat) (f : am_MI) : am_G := (fun k => if k < 114 then B + k else if k < 117 then aS (k - 114) else if k = 117 then b else if k < 128 then aK (k - 118) else if k < 138 then aV (k - 128) else if k = 138 then aK 0 else if k = 139 then aV 0 else fr, (fun c => (D c).1, fun c => (D c).2), (cI, cJ, cA, cS), f)
section SP89
variable {B b fr : Nat} {aS aK aV : Nat → Nat} {D : Nat → ClassId × (Nat → Nat)} {cI cJ cA cS : Nat} {f : am_MI}
theorem nw_G1 {k : Nat} (h : k < 114) : (nw_G B b fr aS aK aV D cI cJ cA cS f).1 k = B + k := if_pos h
theorem nw_G2 {k : Nat} (h : k < 3) : (nw_G B b fr aS aK aV D cI cJ cA cS f).1 (114 + k) = aS k := by
  show (if 114 + k < 114 then _ else if 114 + k < 117 then aS (114 + k - 114) else _) = _
  rw [if_neg (by omega), if_pos (by omega), Nat.add_sub_cancel_left]
theorem nw_G3 : (nw_G B b fr aS aK aV D cI cJ cA cS f).1 117 = b := rfl
theorem nw_G4 {k : Nat} (h : k < 10) : (nw_G B b fr aS aK aV D cI cJ cA cS f).1 (118 + k) = aK k := by
  show (if 118 + k < 114 then _ else if 118 + k < 117 then _ else if 118 + k = 117 then _ else if 118 + k < 128 then aK (118 + k - 118) else _) = _
  rw [if_neg (by omega), if_neg (by omega), if_neg (by omega), if_pos (by omega), Nat.add_sub_cancel_left]
theorem nw_G5 {k : Nat} (h : k < 10) : (nw_G B b fr aS aK aV D cI cJ cA cS f).1 (128 + k) = aV k := by
  show (if 128 + k < 114 then _ else if 128 + k < 117 then _ else if 128 + k = 117 then _ else if 128 + k < 128 then _ else if 128 + k < 138 then aV (128 + k - 128) else _) = _
  rw [if_neg (by omega), if_neg (by omega), if_neg (by omega), if_neg (by omega), if_pos (by omega), Nat.add_sub_cancel_left]
end SP89
set_option maxRecDepth 1000000 in
theorem sw_1 : (Jvm.Cond.initialized "DoorsForThree") ∈ lw_tbl := am_t1 (List.mem_of_getElem? (i := 1) (by decide +kernel))
set_option maxRecDepth 1000000 in
theorem sw_15 : (Jvm.Cond.initialized "java/lang/String") ∈ lw_tbl := am_t1 (List.mem_of_getElem? (i := 15) (by decide +kernel))
set_option maxRecDepth 1000000 in
theorem sw_16 : (Jvm.Cond.initialized "jdk/internal/util/Preconditions") ∈ lw_tbl := am_t1 (List.mem_of_getElem? (i := 18) (by decide +kernel))
set_option maxRecDepth 1000000 in
theorem sw_37 : (Jvm.Cond.arrayOver (Jvm.ClassFile.FieldType.array Jvm.ClassFile.FieldType.int)) ∈ lw_tbl := am_t1 (List.mem_of_getElem? (i := 40) (by decide +kernel))
set_option maxRecDepth 1000000 in
theorem sw_310 : (Jvm.Cond.arrayOver (Jvm.ClassFile.FieldType.object "DoorsForThree$Shelf")) ∈ lw_tbl := am_t1 (List.mem_of_getElem? (i := 311) (by decide +kernel))
set_option maxRecDepth 1000000 in
theorem sw_513 : (Jvm.Cond.laysStatic "java/lang/String" "COMPACT_STRINGS" "Z") ∈ lw_tbl := am_t1 (List.mem_of_getElem? (i := 481) (by decide +kernel))
set_option maxRecDepth 1000000 in
theorem sw_514 : (Jvm.Cond.laysStatic "jdk/internal/util/Preconditions" "SIOOBE_FORMATTER" "Ljava/util/function/BiFunction;") ∈ lw_tbl := am_t1 (List.mem_of_getElem? (i := 524) (by decide +kernel))
set_option maxRecDepth 1000000 in
theorem sw_22 : (Jvm.Cond.classLink "DoorsForThreeLaw" (85 : Nat) "DoorsForThree") ∈ lw_tbl := am_t1 (List.mem_of_getElem? (i := 25) (by decide +kernel))
set_option maxRecDepth 1000000 in
theorem sw_23 : (Jvm.Cond.instantiable "DoorsForThree" (10 : Nat)) ∈ lw_tbl := am_t1 (List.mem_of_getElem? (i := 26) (by decide +kernel))
set_option maxRecDepth 1000000 in
theorem sw_24 : (Jvm.Cond.methodLink "DoorsForThreeLaw" (167 : Nat) ({ cls := "DoorsForThree", name := "<init>", desc := "()V" } : Jvm.MethodName)) ∈ lw_tbl := am_t1 (List.mem_of_getElem? (i := 27) (by decide +kernel))
set_option maxRecDepth 1000000 in
theorem sw_25 : (Jvm.Cond.instanceMethod ({ cls := "DoorsForThree", name := "<init>", desc := "()V" } : Jvm.MethodName)) ∈ lw_tbl := am_t1 (List.mem_of_getElem? (i := 28) (by decide +kernel))
set_option maxRecDepth 1000000 in
theorem sw_26 : (Jvm.Cond.code ({ cls := "DoorsForThree", name := "<init>", desc := "()V" } : Jvm.MethodName) prog_1_method_1_code (2 : Nat) (Option.none : Option Jvm.ClassFile.FieldType)) ∈ lw_tbl := am_t1 (List.mem_of_getElem? (i := 29) (by decide +kernel))
set_option maxRecDepth 100000 in
theorem nw_len : am_cl.length = 140 := by decide +kernel
theorem nw_kdx {k : Nat} (h : 140 ≤ k) : am_kd k = 0 := by
  unfold am_kd am_ck
  rw [nw_nth, List.getD_eq_getElem?_getD, List.getElem?_eq_none (by rw [nw_len]; exact h)]
  rfl
theorem nw_kd7 : ∀ k, am_kd k = 7 → (118 ≤ k ∧ k < 128) ∨ k = 138 := by
  intro k hk
  by_cases h : k < 140
  · have key : ∀ k, k < 140 → am_kd k = 7 → (118 ≤ k ∧ k < 128) ∨ k = 138 := by decide +kernel
    exact key k h hk
  · rw [nw_kdx (by omega)] at hk
    cases hk
theorem nw_kd89 : ∀ k, am_kd k = 8 ∨ am_kd k = 9 → (128 ≤ k ∧ k < 138 ∧ am_kd k = 8) ∨ k = 139 := by
  intro k hk
  by_cases h : k < 140
  · have key : ∀ k, k < 140 → am_kd k = 8 ∨ am_kd k = 9 → (128 ≤ k ∧ k < 138 ∧ am_kd k = 8) ∨ k = 139 := by decide +kernel
    exact key k h hk
  · rw [nw_kdx (by omega)] at hk
    rcases hk with h | h <;> cases h
set_option maxRecDepth 1000000 in
theorem nw_fm : Cond.isRef (.static "jdk/internal/util/Preconditions" "SIOOBE_FORMATTER" "Ljava/util/function/BiFunction;") ∈ nw_C := by decide +kernel
/-- a string that stands at the start: its object, its bytes -/
def nw_St (tm : Term) (a v n : Nat) (bs : List Int32) (s : State) : Prop := tm.eval #[] s none [] s = some (.ref a) ∧ va_O "java/lang/String" a (cm_A s.heap.size) s s.heap ∧ va_OF "java/lang/String" "coder" "B" (.int 0) a (cm_A s.heap.size) s s.heap ∧ va_OF "java/lang/String" "value" "[B" (.ref v) a (cm_A s.heap.size) s s.heap ∧ va_T .byte v n (fun j => .int (bs.getD j 0)) (cm_A s.heap.size) s s.heap
theorem nw_one {args : Array Value} {s : State} {own : String} {k n : Nat} {bs : List Int32} (hN : n < 2 ^ 31) (hex : (Cond.exactly (.string own k) "java/lang/String").before args s = true) (hco : (Cond.eq (.field (.string own k) "java/lang/String" "coder" "B") (.int 0)).before args s = true)
    (har : (Cond.arrayOf (.field (.string own k) "java/lang/String" "value" "[B") .byte).before args s = true) (hle : (Cond.eq (.length (.field (.string own k) "java/lang/String" "value" "[B")) (.int (Int32.ofNat n))).before args s = true)
    (hel : ∀ j : Nat, j < n → (Cond.eq (.elem (.field (.string own k) "java/lang/String" "value" "[B") (.int (Int32.ofNat j))) (.int (bs.getD j 0))).before args s = true) : ∃ a v, nw_St (.string own k) a v n bs s := by
  obtain ⟨aK, aV, hS, hK⟩ := vk_Sof (N := 1) (tm := fun _ => .string own k) (len := [n]) (byt := [bs]) (A := cm_A s.heap.size) (args := args) (s := s) (fun i hi => by
    have e : i = 0 := by omega
    subst e
    exact hN) (fun i _ => hex) (fun i _ => hco) (fun i _ => har) (fun i hi => by
    have e : i = 0 := by omega
    subst e
    exact hle) (fun i hi j hj => by
    have e : i = 0 := by omega
    subst e
    exact hel j hj) (fun i j hi hj h => absurd (show i = j by omega) h) (fun a h => Nat.not_le.mpr h)
  obtain ⟨z1, z2, z3, z4⟩ := hS.1 0 (by omega)
  refine ⟨aK 0, aV 0, ?_, z1, z2, z3, z4⟩
  rw [Term.string_eval_of_vm (args := args) rfl]
  exact hK 0 (by omega)
theorem nw_start {p : Program} {s : State} {m : MethodId} {meth : Method} {c : Code} {b L : Nat} {xs : Nat → Int32} (hL : L ≤ 260) (C0 : lw_At p s m meth c b L xs) : ∃ (mk : Nat → Int32 → am_G) (φ : Int32) (δ : (Nat → ClassId) × (Nat → Nat → Nat)) (κ : ClassId × ClassId × ClassId × ClassId), cm_sx s ∧ ∀ B q, s.heap.size ≤ B → (mk B q).2.1 = δ ∧ (mk B q).2.2.1 = κ ∧ (∀ k, k < 79 → (mk B q).1 k = B + k) ∧ (mk B q).1 117 = b ∧ (mk B q).2.2.2 = nw_mi L xs q φ ∧ va_K (mk B q).2.1 vwCl (am_ty (mk B q)) s ∧ am_sx (mk B q) s s.heap := by
  obtain ⟨hx, hb, hr, hml, hown, hts, hX, hbl, hlocks, hgv⟩ := C0
  have hC : ∀ w ∈ nw_C, w.before #[Value.ref b] s = true := flat_of_before _ hgv
  have hT : ∀ w ∈ tables_1, w.before #[Value.ref b] s = true := fun w h => hts w (am_t1 h)
  have hA : ∀ a : Nat, a < s.heap.size → ¬ cm_A s.heap.size a := fun a h => Nat.not_le.mpr h
  have hS0 : ∀ i : Nat, ∃ q : Nat × Nat, i < 10 → nw_St (nw_t i) q.1 q.2 (nw_ln.getD i 0) (am_txl.getD i []) s := by
    intro i
    by_cases hi : i < 10
    · obtain ⟨a, v, h⟩ := nw_one (args := #[Value.ref b]) (nw_tn i hi) (hC _ (nw_ex i hi)) (hC _ (nw_co i hi)) (hC _ (nw_ar i hi)) (hC _ (nw_le i hi)) (fun j hj => hC _ (nw_el i hi j hj))
      exact ⟨(a, v), fun _ => ⟨h.1, h.2⟩⟩
    · exact ⟨(0, 0), fun h => absurd h hi⟩
  obtain ⟨aq, haq⟩ := Classical.axiomOfChoice hS0
  obtain ⟨aK, haK⟩ : ∃ f : Nat → Nat, ∀ i, f i = (aq i).1 := ⟨_, fun _ => rfl⟩
  obtain ⟨aV, haV⟩ : ∃ f : Nat → Nat, ∀ i, f i = (aq i).2 := ⟨_, fun _ => rfl⟩
  have hS : (∀ i : Nat, i < 10 → va_O "java/lang/String" (aK i) (cm_A s.heap.size) s s.heap ∧ va_OF "java/lang/String" "coder" "B" (.int 0) (aK i) (cm_A s.heap.size) s s.heap ∧ va_OF "java/lang/String" "value" "[B" (.ref (aV i)) (aK i) (cm_A s.heap.size) s s.heap ∧ va_T .byte (aV i) (nw_ln.getD i 0) (fun j => .int ((am_txl.getD i []).getD j 0)) (cm_A s.heap.size) s s.heap) ∧ True := ⟨fun i hi => by rw [haK, haV]; exact (haq i hi).2, trivial⟩
  have hK : ∀ i : Nat, i < 10 → (nw_t i).eval #[Value.ref b] s none [] s = some (.ref (aK i)) := fun i hi => by rw [haK]; exact (Term.string_eval_of_vm rfl).trans (haq i hi).1
  have h0 : ∀ k : Nat, ∃ t : Nat, k < 3 → va_Z (am_stn (114 + k)).1 (am_stn (114 + k)).2 "[I" (.ref t) (cm_A s.heap.size) s s.heap ∧ va_T .int t (am_n (114 + k)) (fun j => .int (nw_k (114 + k) j)) (cm_A s.heap.size) s s.heap := by
    intro k
    by_cases hk : k < 3
    · obtain ⟨t, ht, hT2⟩ := va_Tof (f := fun j => .int (nw_k (114 + k) j)) (A := cm_A s.heap.size) (nw_sn k hk) (hC _ (nw_sa k hk)) (va_eqt (hC _ (nw_sl k hk))) (fun j hj => va_eqt (hC _ (nw_se k hk j hj))) hA
      exact ⟨t, fun _ => ⟨va_Zref (hT _ (nw_ss hk)) (hT _ (nw_st hk)) ht hA, hT2⟩⟩
    · exact ⟨0, fun h => absurd h hk⟩
  obtain ⟨aS, haS⟩ := Classical.axiomOfChoice h0
  have h1 : ∀ c : Nat, ∃ q : ClassId × (Nat → Nat), ∀ r, vwCl[c]? = some r → u_Kn s r.1 r.2.1 r.2.2 q.1 q.2 := by
    intro c
    by_cases hc : ∃ r, vwCl[c]? = some r
    · obtain ⟨r, hr⟩ := hc
      have hi : (Cond.instantiable r.1 r.2.2).before #[Value.ref b] s = true := hT _ (am_uses nw_ins _ (List.mem_map_of_mem (f := fun r : vw_C => Cond.instantiable r.1 r.2.2) (List.mem_of_getElem? hr)))
      obtain ⟨cC, iS, hh⟩ := u_known (ws := am_tb) (fun w hw => hts w (List.mem_filter.mp hw).1) (am_vw hr).1 hi
      exact ⟨(cC, iS), fun r2 h2 => by
        have e : r = r2 := Option.some.inj (hr.symm.trans h2)
        subst e
        exact hh⟩
    · exact ⟨(0, fun _ => 0), fun r h => absurd ⟨r, h⟩ hc⟩
  obtain ⟨D, hD⟩ := Classical.axiomOfChoice h1
  obtain ⟨cI, kI, pI, i1, i2, i3⟩ := Cond.arrayClass_spec (hts _ cv_64)
  obtain ⟨cJ, kJ, pJ, j1, j2, j3⟩ := Cond.arrayClass_spec (hts _ cv_333)
  obtain ⟨pA, cA, kA, a1, a2, a3, a4, a5⟩ := arrayOverA_spec (t := .int) (hts _ sw_37)
  obtain ⟨pS, cS, kS, s1, s2, s3, s4, s5⟩ := Cond.arrayOver_spec (n := "DoorsForThree$Shelf") (hts _ sw_310)
  have h37 := hts _ sw_37
  have hfm := va_Zqof (A := cm_A s.heap.size) (hts _ sw_514) (hts _ sw_16) (hC _ nw_fm) hA
  obtain ⟨φ, fr, hφ⟩ : ∃ (φ : Int32) (fr : Nat), va_Z "jdk/internal/util/Preconditions" "SIOOBE_FORMATTER" "Ljava/util/function/BiFunction;" (if φ = 0 then .null else .ref fr) (cm_A s.heap.size) s s.heap := by
    rcases hfm with h | ⟨t, h⟩
    · exact ⟨0, 0, h⟩
    · exact ⟨1, t, h⟩
  refine ⟨fun B q => nw_G B b fr aS aK aV D cI cJ cA cS (nw_mi L xs q φ), φ, (fun c => (D c).1, fun c => (D c).2), (cI, cJ, cA, cS), ⟨va_AO.of (hts _ sw_310), h37, fun a i x h w => va_Nw.of rfl (hts _ w)⟩, fun B q hB => ?_⟩
  have nar : ∀ x, am_A (nw_G B b fr aS aK aV D cI cJ cA cS (nw_mi L xs q φ)) x → cm_A s.heap.size x := by
    rintro x ⟨k, hk, rfl⟩
    show s.heap.size ≤ _
    have h79 : am_NN (nw_G B b fr aS aK aV D cI cJ cA cS (nw_mi L xs q φ)) ≤ 79 := by
      unfold am_NN
      split <;> omega
    rw [nw_G1 (by omega)]
    omega
  refine ⟨rfl, rfl, fun k hk => nw_G1 (by omega), rfl, rfl, ⟨fun c q hq => hD c q hq, fun k q hq => ?_⟩, ⟨fun k k1 k2 => ?_, ?_, ?_, fun q hq => ?_, fun k kk => ?_, fun k kk => ?_, ?_, fun a i b n d h w => va_Nw.of rfl (hts _ w)⟩⟩
  · match k, hq with
    | 0, hq =>
      have hq : some (cI, FieldType.int) = some q := hq
      cases hq
      exact ⟨fun n z => ⟨fun k h => (by cases h), kI, i2, pI, i3⟩, i1⟩
    | 1, hq =>
      have hq : some (cJ, FieldType.long) = some q := hq
      cases hq
      exact ⟨fun n z => ⟨fun k h => (by cases h), kJ, j2, pJ, j3⟩, j1⟩
    | 2, hq =>
      have hq : some (cA, FieldType.array FieldType.int) = some q := hq
      cases hq
      exact ⟨fun n z => ⟨fun k h => (by cases h), kA, a3, pA, a4⟩, a5⟩
    | 3, hq =>
      have hq : some (cS, FieldType.object "DoorsForThree$Shelf") = some q := hq
      cases hq
      exact ⟨fun n z => ⟨fun k h => (by cases h), kS, s3, pS, s4⟩, kS, pS, s3, s4, s1, s5⟩
    | k + 4, hq =>
      have hq : (none : Option (ClassId × FieldType)) = some q := hq
      cases hq
  · obtain ⟨i, rfl⟩ : ∃ i, k = 114 + i := ⟨k - 114, by omega⟩
    have hi : i < 3 := by omega
    obtain ⟨z1, z2⟩ := haS i hi
    rw [nw_G2 hi]
    refine ⟨z1.narrow nar, ?_⟩
    show va_T .int (aS i) (am_n (114 + i)) (fun j => .int (nw_mi L xs q φ (114 + i) j)) _ s s.heap
    rw [nw_mi_ne (by omega) (by omega) (by omega)]
    exact z2.narrow nar
  · exact (va_Zof (hts _ sw_513) (hts _ sw_15) (va_eqi (hC _ nw_cs)) hA).narrow nar
  · show va_T .int b (nw_mi L xs q φ 117 100000).toNatClampNeg (fun j => .int (nw_mi L xs q φ 117 j)) _ s s.heap
    rw [nw_mi_L, nI_clamp (by omega)]
    obtain ⟨scr, x1, x2, x3, x4, x5⟩ := hX
    exact ⟨scr, x1, x2, x3, by omega, by rw [x4] <;> rfl, fun j hj => (x5 j hj).trans (congrArg (fun v => some (Value.int v)) (nw_mi_s (by omega)).symm), fun h => hA b hbl (nar b h)⟩
  · obtain ⟨i, hi, e1, e2⟩ := nw_R q hq
    rw [e1, nw_G4 hi]
    refine vk_R.of (hT _ (am_uses nw_Rx _ (List.mem_map_of_mem (f := fun q : Nat × String × Nat => Cond.stringRef "DoorsForThree$Law" q.1 q.2.1) hq))) (A := #[Value.ref b]) ?_
    rw [← e2]
    exact hK i hi
  · have cs0 : ∀ i, i < 10 → va_O "java/lang/String" (aK i) (am_A (nw_G B b fr aS aK aV D cI cJ cA cS (nw_mi L xs q φ))) s s.heap ∧ va_OF "java/lang/String" "coder" "B" (.int (nw_k (118 + i) 1)) (aK i) (am_A (nw_G B b fr aS aK aV D cI cJ cA cS (nw_mi L xs q φ))) s s.heap ∧ va_OF "java/lang/String" "value" "[B" (.ref (aV i)) (aK i) (am_A (nw_G B b fr aS aK aV D cI cJ cA cS (nw_mi L xs q φ))) s s.heap := by
      intro i hi
      obtain ⟨z1, z2, z3, z4⟩ := hS.1 i hi
      refine ⟨z1.narrow nar, ?_, z3.narrow nar⟩
      rw [(nw_k8 i hi).2.2]
      exact z2.narrow nar
    rcases nw_kd7 k kk with ⟨h1, h2⟩ | h
    · obtain ⟨i, rfl⟩ : ∃ i, k = 118 + i := ⟨k - 118, by omega⟩
      have hi : i < 10 := by omega
      rw [(am_k118 i hi).2.1, nw_G4 hi, nw_G5 hi]
      show va_O _ _ _ _ _ ∧ va_OF "java/lang/String" "coder" "B" (.int (nw_mi L xs q φ (118 + i) 1)) (aK i) _ s s.heap ∧ _
      rw [nw_mi_ne (by omega) (by omega) (by omega)]
      exact cs0 i hi
    · subst h
      exact cs0 0 (by omega)
  · rcases nw_kd89 k kk with ⟨h1, h2, h3⟩ | h
    · obtain ⟨i, rfl⟩ : ∃ i, k = 128 + i := ⟨k - 128, by omega⟩
      have hi : i < 10 := by omega
      obtain ⟨z1, z2, z3, z4⟩ := hS.1 i hi
      rw [nw_G5 hi, am_len8 h3]
      show va_T .byte (aV i) (am_n (128 + i)) (fun j => .int (nw_mi L xs q φ (128 + i) j)) _ s s.heap
      rw [nw_mi_ne (by omega) (by omega) (by omega), (nw_k8 i hi).2.1, nw_k8e hi]
      exact z4.narrow nar
    · subst h
      obtain ⟨z1, z2, z3, z4⟩ := hS.1 0 (by omega)
      obtain ⟨cell, y1, y2, y3, y4, y5, y6, y7⟩ := z4
      show va_T .byte (aV 0) 1 (fun j => .int (nw_mi L xs q φ 139 j)) _ s s.heap
      refine ⟨cell, y1, y2, y3, y4, y5, fun j hj => ?_, fun w => y7 (nar _ w)⟩
      rw [y6 j hj]
      show _ = some (Value.int (nw_mi L xs q φ 139 j))
      rw [nw_mi_139 hj, show (128 : Nat) = 128 + 0 from rfl, nw_k8e (by omega)]
  · show va_Z "jdk/internal/util/Preconditions" "SIOOBE_FORMATTER" "Ljava/util/function/BiFunction;" (if nw_mi L xs q φ 141 0 = 0 then .null else .ref fr) _ s s.heap
    exact hφ.narrow nar
