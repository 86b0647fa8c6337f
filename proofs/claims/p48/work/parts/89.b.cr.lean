/-! rows of the constructors -/
/-- what a constructor stands in; the words beside the tables that its launch keeps -/
def cm_sx (U : State) : Prop := va_AO "DoorsForThree$Shelf" U ∧ (Cond.arrayOver (.array .int)).before #[] U = true ∧ ∀ a i x h, Cond.methodLinkNest a i x h ∈ lw_tbl → va_Nw (.methodLinkNest a i x h) U
def cm_fr (p : Program) (s : State) (m : MethodId) (args : Array Value) (meth : Method) (c : Code) (G : am_G) (y : MethodName) (bc : ByteArray) (nL : Nat) (rt : Option FieldType) : Prop :=
  p.tables.exec = Jvm.exec ∧ c.code = bc ∧ c.maxLocals = nL ∧ meth.sig.returnType = rt ∧ meth.locks = false ∧ (∀ w ∈ am_tb, w.before args s = true) ∧ s.vm.findClass y.cls = some m.cls ∧ meth.name = y.name ∧ va_K G.2.1 vwCl (am_ty G) s ∧ cm_sx s
def cm_go (p : Program) (l : Launch) (e : Env) (Rm : Room) (s : State) (m : MethodId) (args : Array Value) (below : List Frame) (meth : Method) (c : Code) (Q : State → Prop) (G : am_G) (B : Nat) (pc : Nat) (ls : Array Slot) (st : List Value) (n : Nat) (mi : am_MI) (ml : am_ML) (cs ss : Nat) : Prop :=
  ∀ (H : Heap) (locs : List Loc), cm_hp G B n H mi ml → va_S (cm_A B) s.heap H locs → W p l e Rm s m args below meth c H locs cs ss Q (F0 m pc ls st)
/-- the values that a class's fields are born with -/
def cm_born (ci N : Nat) (ty : Nat → FieldType) : Prop := ∀ j, j < N → defaultValue (ty j) = if am_isr (am_fd ci j) = true then .null else .int 0
section SP78
variable {p : Program} {l : Launch} {e : Env} {Rm : Room} {s : State} {m : MethodId} {args : Array Value} {below : List Frame} {meth : Method} {c : Code} {Q : State → Prop}
variable {G : am_G} {B : Nat} {y : MethodName} {bc : ByteArray} {nL : Nat} {rt : Option FieldType} {pc n cs ss : Nat} {ls : Array Slot} {st : List Value} {mi : am_MI} {ml : am_ML}
/-- an instruction that leaves the world alone -/
theorem cq_pure {pc2 : Nat} {ls2 : Array Slot} {st2 : List Value} (h : ∀ H locs, W p l e Rm s m args below meth c H locs cs ss Q (F0 m pc2 ls2 st2) → W p l e Rm s m args below meth c H locs cs ss Q (F0 m pc ls st)) (k : cm_go p l e Rm s m args below meth c Q G B pc2 ls2 st2 n mi ml cs ss) : cm_go p l e Rm s m args below meth c Q G B pc ls st n mi ml cs ss := fun H locs g1 g2 => h H locs (k H locs g1 g2)
/-- a heap that has grown by one cell -/
theorem cq_vS {H0 H H1 : Heap} {locs : List Loc} (hB : B ≤ H0.size) (hS : va_S (cm_A B) H0 H locs) (z : H1.size = H.size + 1) (o : ∀ q, q < H.size → H1[q]? = H[q]?) : va_S (cm_A B) H0 H1 locs :=
  ⟨by have := hS.1; omega, fun q h1 h2 => (o q (Nat.lt_of_lt_of_le h1 hS.1)).trans (hS.2.1 q h1 h2), hS.2.2⟩
/-- new -/
theorem cq_new (F : cm_fr p s m args meth c G y bc nL rt) (hG : cm_ad G B) (hB : B ≤ s.heap.size) {ci N index : Nat} {C : String} {T : u_T} {ty : Nat → FieldType} (h1 : am_kd n = 1) (h2 : am_n n = ci) (h3 : am_f n = N) (hn : n < cm_N) (hc : vwCl[ci]? = some (C, T, N)) (hty : ∀ k, k < N → parseFieldDescriptor (T k).2.2.1 = some (ty k)) (hbn : cm_born ci N ty)
    (w1 : Cond.classLink y.cls index C ∈ lw_tbl) (w2 : Cond.instantiable C N ∈ lw_tbl) (w3 : Cond.initialized C ∈ lw_tbl) (hdg : decode bc pc = .ok (.new index, 3)) (hcs : cs + 1 ≤ Rm.cells) (hss : ss + N ≤ Rm.slots)
    (k : cm_go p l e Rm s m args below meth c Q G B (pc + 3) ls (.ref (G.1 n) :: st) (n + 1) mi ml (cs + 1) (ss + N)) : cm_go p l e Rm s m args below meth c Q G B pc ls st n mi ml cs ss := by
  obtain ⟨hx, hb, hml, hr, hlocks, hts, hown, hnm, hK, hX⟩ := F
  intro H locs g1 g2
  have hKn := hK.1 ci _ hc
  refine W.newcK hx hb hown (hts _ (am_tb_i w1 rfl)) (hts _ (am_tb_i w2 rfl)) (hts _ (am_tb_i w3 rfl)) rfl hdg hcs hss hKn.2.1 rfl fun H1 kC hkC e1 z1 o1 => ?_
  have eq : H.size = G.1 n := by rw [g1.2.1, hG n hn]
  have hat : va_at G.2.1 vwCl (B + n, cm_en G mi ml n) H1 := by
    rw [cm_en1 h1, h2, h3, ← g1.2.1]
    refine ⟨_, hc, (u_born ty hts (am_vw hc).1 hKn hkC e1 hty).to (fun j hj => ?_)⟩
    rw [hbn j hj]
    have hz := (g1.2.2.2.1 n j (Nat.le_refl _) hn).1
    show _ = (cm_fs G mi n ci N).getD j .null
    rw [List.getD_eq_getElem?_getD, cm_fs_at hj]
    show _ = cm_fv G mi n ci j
    unfold cm_fv
    rw [hz, if_pos rfl]
  have z := k H1 locs (cm_push hG g1 hn z1 o1 hat) (cq_vS hB g2 z1 o1)
  rw [← eq] at z
  exact z
/-- newarray -/
theorem cq_newa (F : cm_fr p s m args meth c G y bc nL rt) (hG : cm_ad G B) (hB : B ≤ s.heap.size) {atype : ArrayType} {ty : FieldType} {N : Nat} {x : Int32} (hty : newarray.typeOf atype = ty) (hkd : (am_kd n = 2 ∧ ty = .int) ∨ (am_kd n = 3 ∧ ty = .long)) (h2 : am_n n = N) (hn : n < cm_N) (hN : N < 1000) (hxN : x = nI N)
    (w1 : Cond.arrayClass ty ∈ lw_tbl) (hdg : decode bc pc = .ok (.newarray atype, 2)) (hcs : cs + 1 ≤ Rm.cells) (hss : ss + N ≤ Rm.slots)
    (k : cm_go p l e Rm s m args below meth c Q G B (pc + 2) ls (.ref (G.1 n) :: st) (n + 1) mi ml (cs + 1) (ss + N)) : cm_go p l e Rm s m args below meth c Q G B pc ls (.int x :: st) n mi ml cs ss := by
  obtain ⟨hx, hb, hml, hr, hlocks, hts, hown, hnm, hK, hX⟩ := F
  intro H locs g1 g2
  subst hty
  subst hxN
  have hneg : ¬ nI N < 0 := fun q => by
    rw [am_lt_i, am_l0, am_ti (by omega)] at q
    omega
  have hby : N * componentBytes (newarray.typeOf atype) ≤ 536870912 := by
    rcases hkd with ⟨_, q⟩ | ⟨_, q⟩ <;> rw [q] <;> simp [componentBytes] <;> omega
  refine va_newaK hx hb (hts _ (am_tb_i w1 rfl)) rfl hdg rfl hneg (nI_clamp (by omega)) hby hcs hss rfl fun H1 cA e1 z1 o1 hAr hNm => ?_
  have eq : H.size = G.1 n := by rw [g1.2.1, hG n hn]
  have hz := fun j => g1.2.2.2.1 n j (Nat.le_refl _) hn
  have hat : va_at G.2.1 vwCl (B + n, cm_en G mi ml n) H1 := by
    rw [← g1.2.1]
    rcases hkd with ⟨q1, q2⟩ | ⟨q1, q2⟩
    · have hA := (hK.2 0 _ rfl).2
      rw [q2] at hNm e1
      have ec : cA = G.2.2.1.1 := Option.some.inj (hNm.symm.trans hA)
      rw [cm_en2 q1, h2]
      have e0 : mi n = fun _ => 0 := funext (fun j => (hz j).1)
      show H1[H.size]? = some (vp_cell G.2.2.1.1 (N, .inl (mi n)))
      rw [e0, ← ec]
      exact e1
    · have hA := (hK.2 1 _ rfl).2
      rw [q2] at hNm e1
      have ec : cA = G.2.2.1.2.1 := Option.some.inj (hNm.symm.trans hA)
      rw [cm_en3 q1, h2]
      have e0 : ml n = fun _ => 0 := funext (fun j => (hz j).2)
      show H1[H.size]? = some (vp_cell G.2.2.1.2.1 (N, .inr (.inl (ml n))))
      rw [e0, ← ec]
      exact e1
  have z := k H1 locs (cm_push hG g1 hn z1 o1 hat) (cq_vS hB g2 z1 o1)
  rw [← eq] at z
  exact z
end SP78
