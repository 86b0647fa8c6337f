/-! text(): a final field of String -/
/-- start of a walk, with the method's name -/
theorem sb_ofN {l : Launch} {B0 : Nat} {y : MethodName} {bc : ByteArray} {nL : Nat} {rt : Option FieldType} {d mc ms : Nat} {av : List Value} {Pre : State → Prop} {post : Option Value → State → State → Prop} {A : State → Nat → Prop} (hy : plainName y.cls = true)
    (hw : ∀ (p : Program) (e : Env) (s : State) (m : MethodId) (below : List Frame) (meth : Method) (c : Code), meth.name = y.name → sb_fr p s m av.toArray meth c y.cls bc nL rt → Pre s → W p l e (sb_room d mc ms) s m av.toArray below meth c s.heap [] 0 0 (MQ below (sb_Q post A) av.toArray s mc ms (cm_A B0)) (entryFrame m av.toArray nL)) : sb_met l B0 y bc nL rt d mc ms av Pre post A := by
  refine Met.ofW (cc := bc) (maxL := nL) (ret := rt) hy rfl ?_
  intro p e s m args2 below meth c s1 B hml hv
  obtain ⟨rfl, hp⟩ := hv
  exact hw p e s m below meth c (name_of_methodNamed B.named B.method).1 ⟨B.exec, B.bytes, hml, B.returns, B.notSynchronized, fun w hw => atoms_spec (ws := sb_ws y bc nL rt) B.pre w (List.mem_cons_of_mem _ hw), findClass_of_methodNamed B.named⟩ hp
section SP98q
variable {p : Program} {l : Launch} {e : Env} {Rm : Room} {s : State} {m : MethodId} {args : Array Value} {below : List Frame} {meth : Method} {c : Code} {Q : State → Prop} {H : Heap} {locs : List Loc} {cs ss pc B0 : Nat} {ls : Array Slot}
variable {bc : ByteArray} {nL : Nat} {rt : Option FieldType} {st : List Value} {D : va_G} {cB : ClassId} {a v n mm : Nat}
/-- a final field of the new string is written, in its constructor -/
theorem sb_pF (F : sb_fr p s m args meth c "java/lang/String" bc nL rt) (hnm : meth.name = "<init>") {index : Nat} {fs : List Value} {x : Value} (hK : sb_K D cB s) (hP : va_P D vwCl [(a, .inr (11, fs))] H) (k : Nat) (hk : k < 4) (hT : (TJ0 k).1 = "java/lang/String") (hfin : (TJ0 k).2.2.2 = true) {ty : FieldType} (hd : parseFieldDescriptor (TJ0 k).2.2.1 = some ty) (hn : narrow ty x = x) (hfit : fits ty x = true) (hl : k < fs.length) (hlink : Cond.fieldLink "java/lang/String" index "java/lang/String" (TJ0 k).2.1 (TJ0 k).2.2.1 ∈ lw_tbl) (hdg : decode bc pc = .ok (.putfield index, 3))
    (kk : ∀ (H1 : Heap) (i : Nat), va_P D vwCl [(a, .inr (11, fs.set k x))] H1 → H1.size = H.size → (∀ q, q ≠ a → H1[q]? = H[q]?) → W p l e Rm s m args below meth c H1 (locs ++ [⟨a, i⟩]) cs ss Q (F0 m (pc + 3) ls st)) : W p l e Rm s m args below meth c H locs cs ss Q (F0 m pc ls (x :: .ref a :: st)) := by
  obtain ⟨hx, hb, hml, hr, hlocks, hts, hown⟩ := F
  have hc : vwCl[11]? = some (RJ0, TJ0, 4) := rfl
  obtain ⟨u1, ⟨ty0, u2⟩, u3⟩ := am_vw hc
  have he : ([(a, .inr (11, fs))] : va_W)[0]? = some (a, .inr (11, fs)) := rfl
  have hD : va_D (fun q => q = a) ([(a, .inr (11, fs))] : va_W) := by
    refine ⟨fun i j p q hi hj _ => ?_, fun k q hk => ?_⟩
    · have h1 := (List.getElem?_eq_some_iff.mp hi).1
      have h2 := (List.getElem?_eq_some_iff.mp hj).1
      simp at h1 h2
      omega
    · have h1 := (List.getElem?_eq_some_iff.mp hk).1
      simp at h1
      subst h1
      cases hk
      rfl
  have hap := va_apart (own := "java/lang/String") (fun w hw => hts w (sb_am hw)) u1 ty0 u2 u3 hK hc
  obtain ⟨r, h1, cell, q1, q2, q3, q4⟩ := hP 0 _ he
  have hr2 : r = (RJ0, TJ0, 4) := Option.some.inj (h1.symm.trans hc)
  subst hr2
  obtain ⟨hS, hfc, kC, hkC, hkind⟩ := hK.1 11 _ hc
  obtain ⟨cf, kf, fi, f, hi, hsl⟩ := hS k hk
  have hlay := hts _ (sb_am (u1 _ (u_in_lay hk)))
  unfold u_lay at hlay
  rw [if_pos hfin] at hlay
  have hst := (u_facts hfc hkC (u_lays (fun w hw => hts w (sb_am hw)) u1 hk) hi).1
  have hcf : m.cls = cf := by
    obtain ⟨_, _, c', _, _, _, -, -, hf', -, -, -, hown2, -⟩ := Cond.laysFinal_spec hlay
    have e1 : c' = cf := by have := hi.symm.trans hf'; simp at this; exact this.1.symm
    have hown3 := hown
    rw [← hT] at hown3
    rw [← e1]
    exact Option.some.inj (hown3.symm.trans hown2)
  have h6 := u_fits hfc hkC hkind (Or.inr hlay) hi hd hn hfit
  have hi2 : s.fieldFound? "java/lang/String" (TJ0 k).2.1 (TJ0 k).2.2.1 = some (cf, kf, fi, f) := by
    have z := hi
    rw [hT] at z
    exact z
  refine W.putFinK hx hb hown (hts _ (sb_tb_i hlink rfl)) hi2 hst hcf hnm (by rw [q2]; exact h6) q1 q3 (by rw [hsl]; exact k2_hasslot (q4 k hk)) rfl rfl hdg fun H1 e1 e2 e3 => ?_
  rw [hsl] at e1 ⊢
  exact kk H1 _ (hP.set hD he ⟨_, hc, t_OB.to (V := updV (vp_V fs) k x) ⟨_, e1, q2, q3, t_set q4 hap hk x⟩ (fun j _ => vp_updV_set hl x j)⟩ e3) e2 e3
end SP98q
