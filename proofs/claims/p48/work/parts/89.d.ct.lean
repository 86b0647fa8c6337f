/-! rows of the constructors: arrays of arrays, the shelves -/
section SP80
variable {p : Program} {l : Launch} {e : Env} {Rm : Room} {s : State} {m : MethodId} {args : Array Value} {below : List Frame} {meth : Method} {c : Code} {Q : State → Prop}
variable {G : am_G} {B : Nat} {y : MethodName} {bc : ByteArray} {nL : Nat} {rt : Option FieldType} {pc n cs ss : Nat} {ls : Array Slot} {st : List Value} {mi : am_MI} {ml : am_ML}
/-- more cells at once -/
theorem cm_pushN {H H1 : Heap} {k : Nat} (hG : cm_ad G B) (h : cm_hp G B n H mi ml) (hn : n + k ≤ cm_N) (z : H1.size = H.size + k) (o : ∀ q, q < H.size → H1[q]? = H[q]?) (ha : ∀ i, i < k → va_at G.2.1 vwCl (B + n + i, cm_en G mi ml (n + i)) H1) : cm_hp G B (n + k) H1 mi ml := by
  obtain ⟨h1, h2, h3, h4, h5⟩ := h
  refine ⟨fun j q hk => ?_, by omega, by omega, fun k j w1 w2 => h4 k j (by omega) w2, h5⟩
  obtain ⟨k1, rfl⟩ := cm_wl_lt hk
  by_cases g : j < n
  · have hat := h1 j _ (cm_wl_at (mi := mi) (ml := ml) g)
    exact hat.kept (o _ hat.lt)
  · have z := ha (j - n) (by omega)
    rw [show n + (j - n) = j by omega, show B + n + (j - n) = B + j by omega] at z
    rw [hG j (by omega)]
    exact z
theorem cq_outer (cA : ClassId) (N h0 : Nat) : ∀ i, Jvm.Free.Multi.outerC cA N h0 i = arrV cA N (fun j => if j < i then .ref (h0 + 1 + j) else .null)
  | 0 => by
    have z := arrV_new cA N .null
    rw [show (fun j => if j < 0 then Value.ref (h0 + 1 + j) else .null) = fun _ => .null from funext (fun j => if_neg (Nat.not_lt_zero j))]
    exact z
  | i + 1 => by
    show (Jvm.Free.Multi.outerC cA N h0 i).setSlot i (.ref (h0 + 1 + i)) = _
    rw [cq_outer cA N h0 i, arrV_store]
    congr 1
    funext j
    unfold updV
    by_cases e : j = i
    · subst e
      rw [if_pos rfl, if_pos (Nat.lt_succ_self j)]
    · rw [if_neg e]
      show (if j < i then Value.ref (h0 + 1 + j) else .null) = _
      by_cases g : j < i
      · rw [if_pos g, if_pos (by omega)]
      · rw [if_neg g, if_neg (by omega)]
theorem cq_arr {cA : ClassId} {N : Nat} {f g : Nat → Value} (h : ∀ j, j < N → f j = g j) : arrV cA N f = arrV cA N g := by
  have e : (fun j : Fin N => f j.val) = fun j => g j.val := funext (fun j => h j.val j.isLt)
  unfold arrV
  rw [e]
/-- an element's reference: the rows of an array of arrays -/
theorem cq_aald (F : cm_fr p s m args meth c G y bc nL rt) {a b : Nat} {i : Int32} (h1 : am_kd a = 4) (hd1 : am_d a = 1) (ha : a < n) (hin : vp_in i (am_n a)) (hb2 : am_f a + 1 * i.toNatClampNeg = b) (hdg : decode bc pc = .ok (.aaload, 1))
    (kk : cm_go p l e Rm s m args below meth c Q G B (pc + 1) ls (.ref (G.1 b) :: st) n mi ml cs ss) : cm_go p l e Rm s m args below meth c Q G B pc ls (.int i :: .ref (G.1 a) :: st) n mi ml cs ss := by
  obtain ⟨hx, hb, hml, hr, hlocks, hts, hown, hnm, hK, hX⟩ := F
  intro H locs g1 g2
  have hlt : i.toNatClampNeg < am_n a := Nat.not_le.mp fun q => hin (Or.inr q)
  have hc0 := g1.1 a _ (by rw [cm_wl_at ha, cm_en4 h1])
  rw [if_pos hd1, hd1] at hc0
  refine W.aald (ty := .array .int) (v := .ref (G.1 (am_f a + 1 * i.toNatClampNeg))) hx hb hc0 ((hK.2 2 _ rfl).1 _ _) rfl (fun q => by cases q) (by show ¬ (i < 0 ∨ (arrV _ _ _).slots.size ≤ _); rw [arrV_size]; exact hin) (by show (arrV _ _ _).slots[_]? = _; rw [arrV_read _ _ hlt]; rfl) rfl rfl hdg ?_
  rw [hb2]
  exact kk H locs g1 g2
/-- multianewarray, of ints, two dimensions -/
theorem cq_multi (F : cm_fr p s m args meth c G y bc nL rt) (hG : cm_ad G B) (hB : B ≤ s.heap.size) {N M index : Nat} {x z : Int32} (h1 : am_kd n = 4) (hd1 : am_d n = 1) (h2 : am_n n = N) (h3 : am_f n = n + 1) (hrow : ∀ j, j < N → am_kd (n + 1 + j) = 2 ∧ am_n (n + 1 + j) = M) (hn : n + (1 + N) ≤ cm_N) (hN : N < 100) (hM : M < 100) (hxN : x = nI N) (hzM : z = nI M)
    (w1 : Cond.classLink y.cls index "[[I" ∈ lw_tbl) (w2 : Cond.arrayClass .int ∈ lw_tbl) (hdg : decode bc pc = .ok (.multianewarray index 2, 4)) (hcs : cs + (1 + N) ≤ Rm.cells) (hss : ss + (N + N * M) ≤ Rm.slots)
    (kk : cm_go p l e Rm s m args below meth c Q G B (pc + 4) ls (.ref (G.1 n) :: st) (n + (1 + N)) mi ml (cs + 1 + N) (ss + N + N * M)) : cm_go p l e Rm s m args below meth c Q G B pc ls (.int z :: .int x :: st) n mi ml cs ss := by
  obtain ⟨hx, hb, hml, hr, hlocks, hts, hown, hnm, hK, hX⟩ := F
  intro H locs g1 g2
  subst hxN
  subst hzM
  have neg : ∀ k, k < 100 → ¬ nI k < 0 := fun k hk q => by
    rw [am_lt_i, am_l0, am_ti (by omega)] at q
    omega
  have cl : ∀ k, k < 100 → (nI k).toNatClampNeg = k := fun k hk => nI_clamp (by omega)
  intro T hT X
  subst hb
  have e1 : (nI N).toNatClampNeg = N := cl N hN
  have e2 : (nI M).toNatClampNeg = M := cl M hM
  obtain ⟨vm₁, cA, comp, hW, hfA, hfC, hO, hI, X1, stp⟩ := X.multianewarray2F (own := y.cls) (ty := .int) hx hown (hts _ (am_tb_i w1 rfl)) (hX.2.1) (hts _ (am_tb_i w2 rfl)) (g := F0 m pc ls (.int (nI M) :: .int (nI N) :: st)) rfl hdg rfl (neg N hN) (neg M hM) (by rw [e1]; omega) (by rw [e2]; simp [componentBytes]; omega) (by rw [e2]; omega) rfl rfl (by rw [e1]; exact hcs) (by rw [e1, e2]; exact hss)
  rw [e1, e2] at X1 stp
  obtain ⟨f1, f2, f3, f4⟩ := Jvm.Free.Multi.fill_facts (T.setVm vm₁) cA comp N M (defaultValue .int) N
  have fo := fun (a : Addr) (ha : a < T.heap.size) => Jvm.Free.Multi.fill_old (T.setVm vm₁) cA comp N M (defaultValue .int) (a := a) ha N
  have fi := fun (j : Nat) (hj : j < N) => Jvm.Free.Multi.fill_inner (T.setVm vm₁) cA comp N M (defaultValue .int) N j hj
  have hsz : (T.setVm vm₁).heap.size = H.size := by rw [← hT]; rfl
  rw [hsz] at f1 f2 fi
  have hA2 := (hK.2 2 _ rfl).2
  have hA0 := (hK.2 0 _ rfl).2
  have ecA : cA = G.2.2.1.2.2.1 := Option.some.inj (hfA.symm.trans hA2)
  have eco : comp = G.2.2.1.1 := Option.some.inj (hfC.symm.trans hA0)
  subst hT
  have hp2 : cm_hp G B (n + (1 + N)) (Jvm.Free.Multi.fill (T.setVm vm₁) cA comp N M (defaultValue .int) N).heap mi ml := by
    refine cm_pushN hG g1 hn (by rw [f1]; omega) (fun q hq => fo q hq) (fun i hi => ?_)
    by_cases e0 : i = 0
    · subst e0
      rw [Nat.add_zero, Nat.add_zero, cm_en4 h1, if_pos hd1, h2, h3, hd1, ← g1.2.1]
      show (Jvm.Free.Multi.fill (T.setVm vm₁) cA comp N M (defaultValue .int) N).heap[T.heap.size]? = some (vp_cell _ _)
      rw [f2, cq_outer, vp_cell_q, ecA]
      refine congrArg some (cq_arr (fun j hj => ?_))
      rw [if_pos hj, if_pos rfl, hG (n + 1 + 1 * j) (by omega), g1.2.1]
      have ej : (B + n + 1 + j : Nat) = B + (n + 1 + 1 * j) := by omega
      exact congrArg Value.ref ej
    · have ei : i = (i - 1) + 1 := by omega
      have hr2 := hrow (i - 1) (by omega)
      rw [show n + i = n + 1 + (i - 1) by omega, cm_en2 hr2.1, hr2.2, show B + n + i = T.heap.size + 1 + (i - 1) by rw [g1.2.1]; omega]
      show (Jvm.Free.Multi.fill (T.setVm vm₁) cA comp N M (defaultValue .int) N).heap[T.heap.size + 1 + (i - 1)]? = some (vp_cell _ _)
      rw [fi (i - 1) (by omega)]
      have ez : mi (n + 1 + (i - 1)) = fun _ => 0 := funext (fun j => (g1.2.2.2.1 _ j (by omega) (by omega)).1)
      rw [ez, ← eco]
      exact congrArg some (arrV_new comp M (.int 0))
  have hS2 : va_S (cm_A B) s.heap (Jvm.Free.Multi.fill (T.setVm vm₁) cA comp N M (defaultValue .int) N).heap locs := ⟨by rw [f1]; have := g2.1; omega, fun q h1 h2 => (fo q (Nat.lt_of_lt_of_le h1 g2.1)).trans (g2.2.1 q h1 h2), g2.2.2⟩
  have eq : T.heap.size = G.1 n := by rw [g1.2.1, hG n (by omega)]
  obtain ⟨t, a1, b1⟩ := kk _ locs hp2 hS2 _ rfl X1
  refine ⟨t, stp t ?_, b1⟩
  rw [eq]
  exact a1
end SP80
