/-! rows of the constructors: fields, elements -/
section SP79
variable {p : Program} {l : Launch} {e : Env} {Rm : Room} {s : State} {m : MethodId} {args : Array Value} {below : List Frame} {meth : Method} {c : Code} {Q : State → Prop}
variable {G : am_G} {B : Nat} {y : MethodName} {bc : ByteArray} {nL : Nat} {rt : Option FieldType} {pc n cs ss : Nat} {ls : Array Slot} {st : List Value} {mi : am_MI} {ml : am_ML}
theorem cq_hp {H H1 : Heap} {a j : Nat} {x : Int32} (g1 : cm_hp G B n H mi ml) (ha : a < n) (hP : va_P G.2.1 vwCl (cm_wl G n (am_ui mi a j x) ml) H1) (z : H1.size = H.size) : cm_hp G B n H1 (am_ui mi a j x) ml := by
  obtain ⟨h1, h2, h3, h4, h5⟩ := g1
  exact ⟨hP, by omega, h3, fun k i w1 w2 => by rw [am_ui_o (by omega)]; exact h4 k i w1 w2, fun k w => by rw [am_ui_o (by omega)]; exact h5 k w⟩
/-- a final field's reference -/
theorem cq_putF (F : cm_fr p s m args meth c G y bc nL rt) (hG : cm_ad G B) {a b k ci N index : Nat} {C : String} {T : u_T} {ty : FieldType} (h1 : am_kd a = 1) (h2 : am_n a = ci) (h3 : am_f a = N) (ha : a < n) (hrf : am_rf a k = b) (hc : vwCl[ci]? = some (C, T, N)) (hk : k < N) (hT : (T k).1 = C) (hy : y.cls = C) (hy2 : y.name = "<init>") (hfin : (T k).2.2.2 = true)
    (hd : parseFieldDescriptor (T k).2.2.1 = some ty) (hisr : am_isr (T k).2.2.1 = true) (hn : ∀ q, narrow ty (.ref q) = .ref q) (hft : ∀ q, fits ty (.ref q) = true) (w1 : Cond.fieldLink y.cls index C (T k).2.1 (T k).2.2.1 ∈ lw_tbl) (hdg : decode bc pc = .ok (.putfield index, 3))
    (kk : cm_go p l e Rm s m args below meth c Q G B (pc + 3) ls st n (am_ui mi a k 1) ml cs ss) : cm_go p l e Rm s m args below meth c Q G B pc ls (.ref (G.1 b) :: .ref (G.1 a) :: st) n mi ml cs ss := by
  obtain ⟨hx, hb, hml, hr, hlocks, hts, hown, hnm, hK, hX⟩ := F
  intro H locs g1 g2
  obtain ⟨u1, ⟨ty0, u2⟩, u3⟩ := am_vw hc
  have hD := cm_vD (mi := mi) (ml := ml) hG g1.2.2.1
  have he : (cm_wl G n mi ml)[a]? = some (G.1 a, .inr (ci, cm_fs G mi a ci N)) := by rw [cm_wl_at ha, cm_en1 h1, h2, h3]
  have hap := va_apart (own := y.cls) hts u1 ty0 u2 u3 hK hc
  obtain ⟨r, r1, cell, q1, q2, q3, q4⟩ := g1.1 a _ he
  have hr2 : r = (C, T, N) := Option.some.inj (r1.symm.trans hc)
  subst hr2
  obtain ⟨hS, hfc, kC, hkC, hkind⟩ := hK.1 ci _ hc
  obtain ⟨cf, kf, fi, f, hi, hsl⟩ := hS k hk
  have hlay := hts _ (u1 _ (u_in_lay hk))
  unfold u_lay at hlay
  rw [if_pos hfin] at hlay
  have hst := (u_facts hfc hkC (u_lays hts u1 hk) hi).1
  have hcf : m.cls = cf := by
    obtain ⟨_, _, c', _, _, _, -, -, hf', -, -, -, hown2, -⟩ := Cond.laysFinal_spec hlay
    have e1 : c' = cf := by have := hi.symm.trans hf'; simp at this; exact this.1.symm
    have hown3 := hown
    rw [hy, ← hT] at hown3
    rw [← e1]
    exact Option.some.inj (hown3.symm.trans hown2)
  have h6 := u_fits hfc hkC hkind (Or.inr hlay) hi hd (hn (G.1 b)) (hft (G.1 b))
  have hsame : ∀ x, s.fieldFound? (T k).1 (T k).2.1 (T k).2.2.1 = some x → s.fieldFound? C (T k).2.1 (T k).2.2.1 = some x := fun x hx => by rw [hT] at hx; exact hx
  refine W.putFinK hx hb hown (hts _ (am_tb_i w1 rfl)) (hsame _ hi) hst hcf (by rw [hnm]; exact hy2) (by rw [q2]; exact h6) q1 q3 (by rw [hsl]; exact k2_hasslot (q4 k hk)) rfl rfl hdg fun H1 e1 e2 e3 => ?_
  rw [hsl] at e1 ⊢
  have hl : k < (cm_fs G mi a ci N).length := by rw [cm_fs_len]; exact hk
  have hP := g1.1.set hD he (e := .inr (ci, (cm_fs G mi a ci N).set k (.ref (G.1 b)))) ⟨_, hc, t_OB.to (V := updV (vp_V (cm_fs G mi a ci N)) k (.ref (G.1 b))) ⟨_, e1, q2, q3, t_set q4 hap hk (.ref (G.1 b))⟩ (fun j _ => vp_updV_set hl (.ref (G.1 b)) j)⟩ e3
  have hv : cm_fv G (am_ui mi a k 1) a (am_n a) k = .ref (G.1 b) := by
    unfold cm_fv
    have hfd : am_fd (am_n a) k = (T k).2.2.1 := by unfold am_fd; rw [h2, hc]
    rw [hfd, if_pos hisr, if_neg (by rw [am_ui_k]; decide), hrf]
  have hset := cm_wl_fs (n := n) (ml := ml) h1 hv
  rw [h2, h3] at hset
  rw [hset] at hP
  exact kk H1 _ (cq_hp g1 ha hP e2) (g2.put e2 e3 (hD.2 a _ he))
/-- a field's number -/
theorem cq_puti (F : cm_fr p s m args meth c G y bc nL rt) (hG : cm_ad G B) {a k ci N index : Nat} {C : String} {T : u_T} {x : Int32} (h1 : am_kd a = 1) (h2 : am_n a = ci) (h3 : am_f a = N) (ha : a < n) (hc : vwCl[ci]? = some (C, T, N)) (hk : k < N) (hT : (T k).1 = C) (hfin : (T k).2.2.2 = false)
    (hd : (T k).2.2.1 = "I") (w1 : Cond.fieldLink y.cls index C (T k).2.1 (T k).2.2.1 ∈ lw_tbl) (hdg : decode bc pc = .ok (.putfield index, 3))
    (kk : cm_go p l e Rm s m args below meth c Q G B (pc + 3) ls st n (am_ui mi a k x) ml cs ss) : cm_go p l e Rm s m args below meth c Q G B pc ls (.int x :: .ref (G.1 a) :: st) n mi ml cs ss := by
  obtain ⟨hx, hb, hml, hr, hlocks, hts, hown, hnm, hK, hX⟩ := F
  intro H locs g1 g2
  obtain ⟨u1, ⟨ty0, u2⟩, u3⟩ := am_vw hc
  have hD := cm_vD (mi := mi) (ml := ml) hG g1.2.2.1
  have he : (cm_wl G n mi ml)[a]? = some (G.1 a, .inr (ci, cm_fs G mi a ci N)) := by rw [cm_wl_at ha, cm_en1 h1, h2, h3]
  have hap := va_apart (own := y.cls) hts u1 ty0 u2 u3 hK hc
  obtain ⟨r, r1, cell, q1, q2, q3, q4⟩ := g1.1 a _ he
  have hr2 : r = (C, T, N) := Option.some.inj (r1.symm.trans hc)
  subst hr2
  obtain ⟨hS, hfc, kC, hkC, hkind⟩ := hK.1 ci _ hc
  obtain ⟨cf, kf, fi, f, hi, hsl⟩ := hS k hk
  have hlay := hts _ (u1 _ (u_in_lay hk))
  unfold u_lay at hlay
  rw [if_neg (by rw [hfin]; decide)] at hlay
  have hst := (u_facts hfc hkC (u_lays hts u1 hk) hi).1
  have h6 := u_store (v := .int x) hfc hkC hkind hlay hi (ty := .int) (by rw [hd]; rfl) rfl rfl
  have hsame : ∀ x, s.fieldFound? (T k).1 (T k).2.1 (T k).2.2.1 = some x → s.fieldFound? C (T k).2.1 (T k).2.2.1 = some x := fun x hx => by rw [hT] at hx; exact hx
  refine W.putK hx hb (f := f) ⟨hown, hts _ (am_tb_i w1 rfl), ⟨_, _, _, hsame _ hi⟩, hst⟩ (by rw [q2]; exact h6) q1 q3 (by rw [hsl]; exact k2_hasslot (q4 k hk)) rfl rfl hdg fun H1 e1 e2 e3 => ?_
  rw [hsl] at e1 ⊢
  have hl : k < (cm_fs G mi a ci N).length := by rw [cm_fs_len]; exact hk
  have hP := g1.1.set hD he (e := .inr (ci, (cm_fs G mi a ci N).set k (.int x))) ⟨_, hc, t_OB.to (V := updV (vp_V (cm_fs G mi a ci N)) k (.int x)) ⟨_, e1, q2, q3, t_set q4 hap hk (.int x)⟩ (fun j _ => vp_updV_set hl (.int x) j)⟩ e3
  have hv : cm_fv G (am_ui mi a k x) a (am_n a) k = .int x := by
    unfold cm_fv
    have hfd : am_fd (am_n a) k = (T k).2.2.1 := by unfold am_fd; rw [h2, hc]
    rw [hfd, hd, if_neg (by decide), am_ui_k]
  have hset := cm_wl_fs (n := n) (ml := ml) h1 hv
  rw [h2, h3] at hset
  rw [hset] at hP
  exact kk H1 _ (cq_hp g1 ha hP e2) (g2.put e2 e3 (hD.2 a _ he))
/-- a field's reference read -/
theorem cq_get (F : cm_fr p s m args meth c G y bc nL rt) {a b k ci N index : Nat} {C : String} {T : u_T} (h1 : am_kd a = 1) (h2 : am_n a = ci) (h3 : am_f a = N) (ha : a < n) (hrf : am_rf a k = b) (hset : ¬ mi a k = 0) (hc : vwCl[ci]? = some (C, T, N)) (hk : k < N) (hT : (T k).1 = C)
    (hisr : am_isr (T k).2.2.1 = true) (w1 : Cond.fieldLink y.cls index C (T k).2.1 (T k).2.2.1 ∈ lw_tbl) (hdg : decode bc pc = .ok (.getfield index, 3))
    (kk : cm_go p l e Rm s m args below meth c Q G B (pc + 3) ls (.ref (G.1 b) :: st) n mi ml cs ss) : cm_go p l e Rm s m args below meth c Q G B pc ls (.ref (G.1 a) :: st) n mi ml cs ss := by
  obtain ⟨hx, hb, hml, hr, hlocks, hts, hown, hnm, hK, hX⟩ := F
  intro H locs g1 g2
  obtain ⟨u1, -, -⟩ := am_vw hc
  have he : (cm_wl G n mi ml)[a]? = some (G.1 a, .inr (ci, cm_fs G mi a ci N)) := by rw [cm_wl_at ha, cm_en1 h1, h2, h3]
  have hfd : am_fd ci k = (T k).2.2.1 := by unfold am_fd; rw [hc]
  have hv : (cm_fs G mi a ci N)[k]? = some (.ref (G.1 b)) := by
    rw [cm_fs_at hk]
    unfold cm_fv
    rw [hfd, if_pos hisr, if_neg hset, hrf]
  have hsame : ∀ x, s.fieldFound? (T k).1 (T k).2.1 (T k).2.2.1 = some x → s.fieldFound? C (T k).2.1 (T k).2.2.1 = some x := fun x hx => by rw [hT] at hx; exact hx
  exact va_get hx hb hts u1 hown hK g1.1 a he hc k hk (hts _ (am_tb_i w1 rfl)) hsame hv hdg (kk H locs g1 g2)
/-- an element's number -/
theorem cq_iast (F : cm_fr p s m args meth c G y bc nL rt) (hG : cm_ad G B) {a : Nat} {i x : Int32} (h1 : am_kd a = 2) (ha : a < n) (hin : vp_in i (am_n a)) (hdg : decode bc pc = .ok (.iastore, 1))
    (kk : cm_go p l e Rm s m args below meth c Q G B (pc + 1) ls st n (am_ui mi a i.toNatClampNeg x) ml cs ss) : cm_go p l e Rm s m args below meth c Q G B pc ls (.int x :: .int i :: .ref (G.1 a) :: st) n mi ml cs ss := by
  obtain ⟨hx, hb, hml, hr, hlocks, hts, hown, hnm, hK, hX⟩ := F
  intro H locs g1 g2
  have hD := cm_vD (mi := mi) (ml := ml) hG g1.2.2.1
  have he : (cm_wl G n mi ml)[a]? = some (G.1 a, .inl (G.2.2.1.1, am_n a, .inl (mi a))) := by rw [cm_wl_at ha, cm_en2 h1]
  refine W.iast hx hb (g1.1 a _ he) ((hK.2 0 _ rfl).1 (am_n a) (fun j => .int (mi a j))) (fun q => by cases q) (by show ¬ (i < 0 ∨ (arrV _ _ _).slots.size ≤ _); rw [arrV_size]; exact hin) rfl rfl hdg fun H1 e1 z oq => ?_
  have hP := g1.1.set hD he (e := .inl (G.2.2.1.1, am_n a, .inl (upd (mi a) i.toNatClampNeg x))) (H1 := H1) (by
    show H1[G.1 a]? = some (vp_cell _ _)
    rw [e1]
    rw [vp_cell_i, vp_cell_i, arrV_store]
    congr 2
    funext q
    by_cases hq : q = i.toNatClampNeg
    · subst hq
      simp [updV, upd]
    · simp [updV, upd, hq]) oq
  rw [cm_wl_ui h1] at hP
  exact kk H1 _ (cq_hp g1 ha hP z) (g2.put z oq (hD.2 a _ he))
end SP79
