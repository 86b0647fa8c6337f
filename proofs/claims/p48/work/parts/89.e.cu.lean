/-! rows of the constructors: calls of constructors, the return -/
/-- what a constructor finds, what it leaves -/
def cm_P (G : am_G) (B n : Nat) (mi : am_MI) (ml : am_ML) : State → Prop := fun U => cm_hp G B n U.heap mi ml ∧ va_K G.2.1 vwCl (am_ty G) U ∧ cm_sx U
def cm_Q (G : am_G) (B n : Nat) (mi : am_MI) (ml : am_ML) : Array Value → State → Outcome → State → Prop := fun _ st oc t => (oc = .returned none ∧ cm_hp G B n t.heap mi ml) ∧ va_F (cm_A B) st t
def cm_ws (y : MethodName) (bc : ByteArray) (nL : Nat) : List Cond := Cond.code y bc nL none :: am_tb
def cm_room (d mc ms : Nat) : Room := { frames := d, cells := mc, slots := ms, locals := 40 * d }
def cm_met (l : Launch) (G : am_G) (B : Nat) (y : MethodName) (bc : ByteArray) (nL d mc ms : Nat) (av : List Value) (n : Nat) (mi : am_MI) (ml : am_ML) (n2 : Nat) (mi2 : am_MI) (ml2 : am_ML) : Prop := Met l y (cm_ws y bc nL) (cm_room d mc ms) (va_Pc av (cm_P G B n mi ml)) (cm_Q G B n2 mi2 ml2) mc ms (cm_A B)
theorem cm_AA {u U : State} (hvm : u.vm.Alike U.vm) (h : (Cond.arrayOver (.array .int)).before #[] u = true) : (Cond.arrayOver (.array .int)).before #[] U = true := by
  obtain ⟨comp, c, k, h1, h2, h3, h4, h5⟩ := arrayOverA_spec h
  obtain ⟨k2, hk2, he⟩ := hvm.2.2 _ _ h3
  have hkind : k2.kind = .array comp (.array .int) := by rw [he]; exact h4
  have f1 : U.vm.findClass (FieldType.array .int).toString = some comp := by rw [hvm.findClass]; exact h1
  have f2 : U.vm.findClass ("[" ++ (FieldType.array .int).toString) = some c := by rw [hvm.findClass]; exact h5
  show (Cond.arrayOver (.array .int)).holds #[] U none U [] = true
  simp only [Cond.holds, Cond.value, f1, Option.bind_some, beq_iff_eq]
  rw [Option.bind_eq_some_iff]
  refine ⟨c, (hvm.findIdx?_eqK _ (fun _ => rfl)).trans h2, ?_⟩
  simp [hk2, hkind, f2]
theorem cm_sx_on {u U : State} (hW : u.WarmedH U.vm) (h : cm_sx u) : cm_sx U := ⟨h.1.moved hW.alike, cm_AA hW.alike h.2.1, fun a i x b w => (h.2.2 a i x b w).warmM hW⟩
section SP81
variable {p : Program} {l : Launch} {e : Env} {Rm : Room} {s : State} {m : MethodId} {args : Array Value} {below : List Frame} {meth : Method} {c : Code} {Q : State → Prop}
variable {G : am_G} {B : Nat} {y : MethodName} {bc : ByteArray} {nL : Nat} {rt : Option FieldType} {pc n cs ss : Nat} {ls : Array Slot} {st : List Value} {mi : am_MI} {ml : am_ML}
theorem cm_goodIn {y2 : MethodName} {bc2 : ByteArray} {nL2 : Nat} (h : Cond.code y2 bc2 nL2 none ∈ lw_tbl) : GoodIn am_tb (cm_ws y2 bc2 nL2) := by
  have all : ∀ w ∈ am_tb, w ∈ am_tb ∧ ((w.onTables && w.keeps) = true ∨ ∃ ty, w = .arrayClass ty) := fun w hw => ⟨hw, good_of_word (List.mem_filter.mp hw).2⟩
  intro w hw
  rcases List.mem_cons.mp hw with e | e
  · subst e
    exact all _ (am_tb_i h rfl)
  · exact all w e
/-- behind a constructor's call -/
theorem cm_callk {n2 mc ms : Nat} {mi2 : am_MI} {ml2 : am_ML} {a : Array Value} {st0 rest : List Value} {H : Heap} {locs : List Loc} (hr : va_Run p l e Rm s m args below meth c H locs cs ss mc ms (F0 m pc ls st0) rest (cm_Q G B n2 mi2 ml2 a) (cm_A B)) (hS : va_S (cm_A B) s.heap H locs)
    (kk : cm_go p l e Rm s m args below meth c Q G B (pc + 3) ls rest n2 mi2 ml2 (cs + mc) (ss + ms)) : W p l e Rm s m args below meth c H locs cs ss Q (F0 m pc ls st0) := by
  intro T hT X
  obtain ⟨v, st₀, t, T', L, h0, X', hL, e1, e2, ⟨⟨hv, hb⟩, hz, hk⟩, stp⟩ := hr T hT X
  cases hv
  rw [h0] at hz hk
  obtain ⟨t2, a1, b1⟩ := kk T'.heap (locs ++ L) (by rw [e1]; exact hb)
    ⟨Nat.le_trans hS.1 (by rw [e1]; exact hz), fun q h1 h2 => by rw [e1, hk q (Nat.lt_of_lt_of_le h1 hS.1) h2]; exact hS.2.1 q h1 h2, fun q hq => (List.mem_append.mp hq).elim (hS.2.2 q) (hL q)⟩ T' rfl X'
  exact ⟨t2, stp t2 a1, b1⟩
theorem cm_pre {H : Heap} {vs : List Value} (hK : va_K G.2.1 vwCl (am_ty G) s) (hX : cm_sx s) (g1 : cm_hp G B n H mi ml) : PreS s H (va_Pc vs (cm_P G B n mi ml)) vs := by
  refine ⟨fun a U g mk q => ⟨q.1, q.2.1, q.2.2.1.moved (Vm.Alike.refl _), cm_sx_on (State.WarmedH.refl _) q.2.2.2⟩, fun U hU hW => ⟨rfl, ?_⟩⟩
  show cm_P G B n mi ml U
  unfold cm_P
  rw [hU]
  exact ⟨g1, hK.moved hW.alike, cm_sx_on hW hX⟩
/-- the end -/
theorem cq_ret (F : cm_fr p s m args meth c G y bc nL none) (hdg : decode bc pc = .ok (.return_, 1)) {mc ms : Nat} : cm_go p l e Rm s m args below meth c (MQ below (cm_Q G B n mi ml) args s mc ms (cm_A B)) G B pc ls [] n mi ml mc ms := by
  obtain ⟨hx, hb, hml, hr, hlocks, hts, hown, hnm, hK, hX⟩ := F
  intro H locs g1 g2
  exact W.vret hx hb hr (fun t2 e1 e2 => ⟨⟨rfl, by rw [e1]; exact g1⟩, g2.F e1⟩) g2.2.2 hdg
end SP81
