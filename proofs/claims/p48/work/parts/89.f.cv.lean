/-! rows of the constructors: calls; the shelves -/
section SP82
variable {p : Program} {l : Launch} {e : Env} {Rm : Room} {s : State} {m : MethodId} {args : Array Value} {below : List Frame} {meth : Method} {c : Code} {Q : State → Prop}
variable {G : am_G} {B : Nat} {y : MethodName} {bc : ByteArray} {nL : Nat} {rt : Option FieldType} {pc n cs ss : Nat} {ls : Array Slot} {st : List Value} {mi : am_MI} {ml : am_ML}
/-- a constructor's call -/
theorem cq_call (F : cm_fr p s m args meth c G y bc nL rt) {y2 : MethodName} {bc2 : ByteArray} {nL2 d mc ms index n2 k : Nat} {b : Nat} {As : List Value} {mi2 : am_MI} {ml2 : am_ML} (hM : cm_met l G B y2 bc2 nL2 d mc ms (.ref b :: As) n mi ml n2 mi2 ml2)
    (w0 : Cond.code y2 bc2 nL2 none ∈ lw_tbl) (w1 : Cond.initialized y2.cls ∈ lw_tbl) (w2 : Cond.methodLink y.cls index y2 ∈ lw_tbl) (w3 : Cond.instanceMethod y2 ∈ lw_tbl) (hy : y2.name = "<init>") (hd : y2.cls ≠ "java/lang/invoke/MethodHandle" ∧ y2.cls ≠ "java/lang/invoke/VarHandle" ∧ (parseMethodDescriptor y2.desc).map (fun d => d.parameters.length) = some k) (hk : As.length = k)
    (hdg : decode bc pc = .ok (.invokespecial index, 3)) (hls : ls.size = nL) (hnL : nL2 ≤ 20) (hsum : (st.map fun v => v.category).sum ≤ 8) (hr1 : d + 1 ≤ Rm.frames) (hr2 : 40 * (d + 1) ≤ Rm.locals) (hcs : cs + mc ≤ Rm.cells) (hss : ss + ms ≤ Rm.slots)
    (kk : cm_go p l e Rm s m args below meth c Q G B (pc + 3) ls st n2 mi2 ml2 (cs + mc) (ss + ms)) : cm_go p l e Rm s m args below meth c Q G B pc ls (As.reverse ++ .ref b :: st) n mi ml cs ss := by
  obtain ⟨hx, hb, hml, hr, hlocks, hts, hown, hnm, hK, hX⟩ := F
  intro H locs g1 g2
  exact cm_callk (va_runI (As := As) (rest := st) ⟨hx, hb, hml, hown, hts⟩ hM (cwI k hts (cm_goodIn w0) rfl rfl rfl (hts _ (am_tb_i w1 rfl)) (hts _ (am_tb_i w2 rfl)) (hts _ (am_tb_i w3 rfl)) hy hd ⟨hr1, by show 8 + (nL2 + 11) + 40 * d ≤ _; omega⟩) (cm_pre hK hX g1) rfl hk hls rfl (by show 2 * 0 + _ ≤ 8; omega) hdg ⟨hcs, hss⟩) g2 kk
/-- a nest mate's private constructor's call -/
theorem cq_callN (F : cm_fr p s m args meth c G y bc nL rt) {y2 : MethodName} {bc2 : ByteArray} {nL2 d mc ms index n2 k : Nat} {host : String} {b : Nat} {As : List Value} {mi2 : am_MI} {ml2 : am_ML} (hM : cm_met l G B y2 bc2 nL2 d mc ms (.ref b :: As) n mi ml n2 mi2 ml2)
    (w0 : Cond.code y2 bc2 nL2 none ∈ lw_tbl) (w1 : Cond.initialized y2.cls ∈ lw_tbl) (w2 : Cond.methodLinkNest y.cls index y2 host ∈ lw_tbl) (w3 : Cond.instanceMethod y2 ∈ lw_tbl) (hy : y2.name = "<init>") (hd : y2.cls ≠ "java/lang/invoke/MethodHandle" ∧ y2.cls ≠ "java/lang/invoke/VarHandle" ∧ (parseMethodDescriptor y2.desc).map (fun d => d.parameters.length) = some k) (hk : As.length = k)
    (hdg : decode bc pc = .ok (.invokespecial index, 3)) (hls : ls.size = nL) (hnL : nL2 ≤ 20) (hsum : (st.map fun v => v.category).sum ≤ 8) (hr1 : d + 1 ≤ Rm.frames) (hr2 : 40 * (d + 1) ≤ Rm.locals) (hcs : cs + mc ≤ Rm.cells) (hss : ss + ms ≤ Rm.slots)
    (kk : cm_go p l e Rm s m args below meth c Q G B (pc + 3) ls st n2 mi2 ml2 (cs + mc) (ss + ms)) : cm_go p l e Rm s m args below meth c Q G B pc ls (As.reverse ++ .ref b :: st) n mi ml cs ss := by
  obtain ⟨hx, hb, hml, hr, hlocks, hts, hown, hnm, hK, hX⟩ := F
  intro H locs g1 g2
  exact cm_callk (va_runIN (As := As) (rest := st) ⟨hx, hb, hml, hown, hts⟩ hM ⟨va_cnB k hts (cm_goodIn w0) rfl rfl rfl (hX.2.2 _ _ _ _ w2) (hts _ (am_tb_i w1 rfl)) hd ⟨hr1, by show 8 + (nL2 + 11) + 40 * d ≤ _; omega⟩, hy, hts _ (am_tb_i w3 rfl)⟩ (cm_pre hK hX g1) rfl hk hls rfl (by show 2 * 0 + _ ≤ 8; omega) hdg ⟨hcs, hss⟩) g2 kk
/-- Object's constructor -/
theorem cq_obj (F : cm_fr p s m args meth c G y bc nL rt) {index a : Nat} (w1 : Cond.methodLink y.cls index Lib.objectInit ∈ lw_tbl) (w2 : Cond.instanceMethod Lib.objectInit ∈ lw_tbl) (w3 : Cond.code Lib.objectInit ⟨#[0xb1]⟩ 1 none ∈ lw_tbl) (hdg : decode bc pc = .ok (.invokespecial index, 3)) (hls : ls.size = nL) (hsum : (st.map fun v => v.category).sum ≤ 8) (hr1 : 1 ≤ Rm.frames) (hr2 : 40 ≤ Rm.locals)
    (kk : cm_go p l e Rm s m args below meth c Q G B (pc + 3) ls st n mi ml cs ss) : cm_go p l e Rm s m args below meth c Q G B pc ls (.ref (G.1 a) :: st) n mi ml cs ss := by
  obtain ⟨hx, hb, hml, hr, hlocks, hts, hown, hnm, hK, hX⟩ := F
  intro H locs g1 g2
  exact W.objInit hx hb hown (hts _ (am_tb_i w1 rfl)) (hts _ (am_tb_i w2 rfl)) (hts _ (am_tb_i w3 rfl)) rfl (hls.trans hml.symm) rfl hdg hr1 (by show 2 * 0 + _ + 12 ≤ _; omega) (kk H locs g1 g2)
/-- anewarray: the shelves -/
theorem cq_anew (F : cm_fr p s m args meth c G y bc nL rt) (hG : cm_ad G B) (hB : B ≤ s.heap.size) {N index : Nat} {x : Int32} (h1 : am_kd n = 4) (hd1 : am_d n = 2) (h2 : am_n n = N) (hn : n < cm_N) (hN : N < 100) (hxN : x = nI N)
    (w1 : Cond.classLink y.cls index "DoorsForThree$Shelf" ∈ lw_tbl) (hdg : decode bc pc = .ok (.anewarray index, 3)) (hcs : cs + 1 ≤ Rm.cells) (hss : ss + N ≤ Rm.slots)
    (kk : cm_go p l e Rm s m args below meth c Q G B (pc + 3) ls (.ref (G.1 n) :: st) (n + 1) mi ml (cs + 1) (ss + N)) : cm_go p l e Rm s m args below meth c Q G B pc ls (.int x :: st) n mi ml cs ss := by
  obtain ⟨hx, hb, hml, hr, hlocks, hts, hown, hnm, hK, hX⟩ := F
  intro H locs g1 g2
  subst hxN
  have hneg : ¬ nI N < 0 := fun q => by
    rw [am_lt_i, am_l0, am_ti (by omega)] at q
    omega
  have eN : (nI N).toNatClampNeg = N := nI_clamp (by omega)
  refine W.anew hx hb hown (hts _ (am_tb_i w1 rfl)) (va_AO.use hX.1) rfl hdg rfl hneg (by rw [eN]; omega) hcs (by rw [eN]; exact hss) fun cA kA comp f1 f2 f3 f4 => ?_
  rw [eN]
  generalize hH1 : H.push ({ cls := cA, slots := Array.replicate N .null, vm := .none } : Cell) = H1
  have z1 : H1.size = H.size + 1 := by rw [← hH1, Array.size_push]
  have e1 : H1[H.size]? = some (arrV cA N (fun _ => .null)) := by rw [← hH1, Array.getElem?_push_size, ← arrV_new]
  have o1 : ∀ q : Nat, q < H.size → H1[q]? = H[q]? := fun q hq => by rw [← hH1, Array.getElem?_push, if_neg (Nat.ne_of_lt hq)]
  obtain ⟨kA2, comp2, r1, r2, r3, r4⟩ := (hK.2 3 _ rfl).2
  have ec : cA = G.2.2.1.2.2.2 := Option.some.inj (f1.symm.trans r4)
  have eq : H.size = G.1 n := by rw [g1.2.1, hG n hn]
  have hat : va_at G.2.1 vwCl (B + n, cm_en G mi ml n) H1 := by
    rw [← g1.2.1, cm_en4 h1, hd1, h2]
    show H1[H.size]? = some (vp_cell _ _)
    rw [e1, vp_cell_q, if_neg (by decide), ec]
    refine congrArg some (cq_arr (fun j hj => ?_))
    rw [(g1.2.2.2.1 n j (Nat.le_refl _) hn).1, if_neg (by decide), if_pos rfl]
    rfl
  have z := kk H1 locs (cm_push hG g1 hn z1 o1 hat) (cq_vS hB g2 z1 o1)
  rw [← eq] at z
  exact z
/-- a shelf into its place -/
theorem cq_aast (F : cm_fr p s m args meth c G y bc nL rt) (hG : cm_ad G B) {a b j : Nat} {x : Int32} (h1 : am_kd a = 4) (hd1 : am_d a = 2) (ha : a < n) (hj : j < am_n a) (hj2 : j < 100) (hx2 : x = nI j) (hbj : am_f a + 2 * j = b) (hkb : am_kd b = 1) (hnb : am_n b = 7) (hb3 : b < n) (hdg : decode bc pc = .ok (.aastore, 1))
    (kk : cm_go p l e Rm s m args below meth c Q G B (pc + 1) ls st n (am_ui mi a j 1) ml cs ss) : cm_go p l e Rm s m args below meth c Q G B pc ls (.ref (G.1 b) :: .int x :: .ref (G.1 a) :: st) n mi ml cs ss := by
  obtain ⟨hx, hb, hml, hr, hlocks, hts, hown, hnm, hK, hX⟩ := F
  intro H locs g1 g2
  subst hx2
  have ej : (nI j).toNatClampNeg = j := nI_clamp (by omega)
  have hD := cm_vD (mi := mi) (ml := ml) hG g1.2.2.1
  have he : (cm_wl G n mi ml)[a]? = some (G.1 a, cm_en G mi ml a) := cm_wl_at ha
  rw [cm_en4 h1, hd1] at he
  have hv : (cm_wl G n mi ml)[b]? = some (G.1 b, .inr (7, cm_fs G mi b 7 (am_f b))) := by rw [cm_wl_at hb3, cm_en1 hkb, hnb]
  obtain ⟨r', hr', cellV, q1, q2, q3, -⟩ := g1.1 b _ hv
  have hc7 : vwCl[7]? = some r' := hr'
  have hcls := (hK.1 7 r' hc7).2
  have er : r'.1 = "DoorsForThree$Shelf" := by
    have z : vwCl[7]? = some (RX7, TX7, 5) := rfl
    rw [← Option.some.inj (z.symm.trans hc7)]
    rfl
  obtain ⟨kA, comp, k1, k2, k3, -⟩ := (hK.2 3 _ rfl).2
  have hcomp : comp = G.2.1.1 7 := by
    have z := hcls.1
    rw [er] at z
    exact Option.some.inj (k3.symm.trans z)
  subst hcomp
  obtain ⟨kC, hkC, -⟩ := hcls.2
  refine W.aast hx hb (g1.1 a _ he) (fun q h => by cases h) (fun h => by cases h) k1 k2 rfl hkC ⟨by rw [am_lt_i, am_l0, am_ti (by omega)]; omega, by show _ < (arrV _ _ _).slots.size; rw [arrV_size, ej]; exact hj⟩ q1 (fun q h => by rw [q3] at h; cases h) (by rw [q2]; exact hkC) (by rw [q2]; exact va_assign hcls) rfl rfl hdg fun H1 e1 z oq => ?_
  rw [ej] at e1
  have hset : (cm_wl G n mi ml).set a (G.1 a, cm_en G (am_ui mi a j 1) ml a) = cm_wl G n (am_ui mi a j 1) ml := cm_wl_set rfl (fun b hb => cm_en_c (am_ui_o hb) rfl)
  have hP := g1.1.set hD he (e := cm_en G (am_ui mi a j 1) ml a) (H1 := H1) (by
    rw [cm_en4 h1, hd1]
    show H1[G.1 a]? = some (vp_cell _ _)
    rw [e1, vp_cell_q, vp_cell_q, arrV_store]
    refine congrArg some (cq_arr (fun i hi => ?_))
    unfold updV
    by_cases e : i = j
    · subst e
      rw [if_pos rfl, if_neg (by decide), am_ui_k, if_neg (by decide), hbj]
      rfl
    · rw [if_neg e, am_ui_n (fun _ q => e q)]) oq
  rw [hset] at hP
  exact kk H1 _ (cq_hp g1 ha hP z) (g2.put z oq (hD.2 a _ he))
/-- how many shelves -/
theorem cq_alen (F : cm_fr p s m args meth c G y bc nL rt) {a : Nat} (h1 : am_kd a = 4) (hd1 : am_d a = 2) (ha : a < n) (hdg : decode bc pc = .ok (.arraylength, 1))
    (kk : cm_go p l e Rm s m args below meth c Q G B (pc + 1) ls (.int (Int32.ofNat (am_n a)) :: st) n mi ml cs ss) : cm_go p l e Rm s m args below meth c Q G B pc ls (.ref (G.1 a) :: st) n mi ml cs ss := by
  obtain ⟨hx, hb, hml, hr, hlocks, hts, hown, hnm, hK, hX⟩ := F
  intro H locs g1 g2
  have he : (cm_wl G n mi ml)[a]? = some (G.1 a, cm_en G mi ml a) := cm_wl_at ha
  rw [cm_en4 h1, hd1] at he
  exact va_alen hx hb hK g1.1 a 3 he rfl rfl hdg (kk H locs g1 g2)
end SP82
