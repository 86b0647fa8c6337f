/-! the law's walk from its entry: the temporary objects, the object, the text, world; then the machine -/
/-- a text is made: what the law needs of text() -/
def tx_ok (l : Launch) : Prop := ∀ (p : Program) (e : Env) (s : State) (m : MethodId) (below : List Frame) (meth : Method) (c : Code) (b L : Nat) (xs : Nat → Int32) (Q : State → Prop) (H : Heap) (ls : Array Slot) (st : List Value) (cs ss : Nat), lw_At p s m meth c b L xs → L ≤ 260 → lw_gr s H → ls.size = 18 → (st.map fun v => v.category).sum ≤ 5 → cs + 2000 ≤ 100000 → ss + 700000 ≤ 1500000 →
  (∀ H2 r v n f, H.size ≤ H2.size → (∀ q, q < H.size → H2[q]? = H[q]?) → tx_S s H H2 r v n f → W p l e room_1 s m #[Value.ref b] below meth c H2 [] (cs + 2000) (ss + 700000) Q (F0 m 112 ls (.ref r :: st))) → W p l e room_1 s m #[Value.ref b] below meth c H [] cs ss Q (F0 m 109 ls (.int 20 :: .ref b :: st))
set_option maxRecDepth 1000000 in
theorem sw_184 : Cond.methodLink "DoorsForThreeLaw" 184 (am_m 291).1 ∈ lw_tbl := am_t1 (List.mem_of_getElem? (i := 1348) (by decide +kernel))
set_option maxRecDepth 1000000 in
theorem dk_0 : decode code 0 = .ok (.new 85, 3) := by decide +kernel
set_option maxRecDepth 1000000 in
theorem dk_3 : decode code 3 = .ok (.dup, 1) := by decide +kernel
set_option maxRecDepth 1000000 in
theorem dk_4 : decode code 4 = .ok (.invokespecial 167, 3) := by decide +kernel
set_option maxRecDepth 1000000 in
theorem dk_15 : decode code 15 = .ok (.new 85, 3) := by decide +kernel
set_option maxRecDepth 1000000 in
theorem dk_18 : decode code 18 = .ok (.dup, 1) := by decide +kernel
set_option maxRecDepth 1000000 in
theorem dk_19 : decode code 19 = .ok (.invokespecial 167, 3) := by decide +kernel
set_option maxRecDepth 1000000 in
theorem dk_28 : decode code 28 = .ok (.new 85, 3) := by decide +kernel
set_option maxRecDepth 1000000 in
theorem dk_31 : decode code 31 = .ok (.dup, 1) := by decide +kernel
set_option maxRecDepth 1000000 in
theorem dk_32 : decode code 32 = .ok (.invokespecial 167, 3) := by decide +kernel
set_option maxRecDepth 1000000 in
theorem dk_42 : decode code 42 = .ok (.new 85, 3) := by decide +kernel
set_option maxRecDepth 1000000 in
theorem dk_45 : decode code 45 = .ok (.dup, 1) := by decide +kernel
set_option maxRecDepth 1000000 in
theorem dk_46 : decode code 46 = .ok (.invokespecial 167, 3) := by decide +kernel
set_option maxRecDepth 1000000 in
theorem dk_58 : decode code 58 = .ok (.new 85, 3) := by decide +kernel
set_option maxRecDepth 1000000 in
theorem dk_61 : decode code 61 = .ok (.dup, 1) := by decide +kernel
set_option maxRecDepth 1000000 in
theorem dk_62 : decode code 62 = .ok (.invokespecial 167, 3) := by decide +kernel
set_option maxRecDepth 1000000 in
theorem dk_72 : decode code 72 = .ok (.new 85, 3) := by decide +kernel
set_option maxRecDepth 1000000 in
theorem dk_75 : decode code 75 = .ok (.dup, 1) := by decide +kernel
set_option maxRecDepth 1000000 in
theorem dk_76 : decode code 76 = .ok (.invokespecial 167, 3) := by decide +kernel
set_option maxRecDepth 1000000 in
theorem dk_90 : decode code 90 = .ok (.new 85, 3) := by decide +kernel
set_option maxRecDepth 1000000 in
theorem dk_93 : decode code 93 = .ok (.dup, 1) := by decide +kernel
set_option maxRecDepth 1000000 in
theorem dk_94 : decode code 94 = .ok (.invokespecial 167, 3) := by decide +kernel
set_option maxRecDepth 1000000 in
theorem dk_97 : decode code 97 = .ok (.astore_n 1, 1) := by decide +kernel
set_option maxRecDepth 1000000 in
theorem dk_98 : decode code 98 = .ok (.bipush 37, 2) := by decide +kernel
set_option maxRecDepth 1000000 in
theorem dk_100 : decode code 100 = .ok (.newarray .int, 2) := by decide +kernel
set_option maxRecDepth 1000000 in
theorem dk_102 : decode code 102 = .ok (.astore_n 2, 1) := by decide +kernel
set_option maxRecDepth 1000000 in
theorem dk_103 : decode code 103 = .ok (.aload_n 1, 1) := by decide +kernel
set_option maxRecDepth 1000000 in
theorem dk_104 : decode code 104 = .ok (.aload_n 0, 1) := by decide +kernel
set_option maxRecDepth 1000000 in
theorem dk_105 : decode code 105 = .ok (.aload_n 2, 1) := by decide +kernel
set_option maxRecDepth 1000000 in
theorem dk_106 : decode code 106 = .ok (.aload_n 0, 1) := by decide +kernel
set_option maxRecDepth 1000000 in
theorem dk_107 : decode code 107 = .ok (.bipush 20, 2) := by decide +kernel
set_option maxRecDepth 1000000 in
theorem dk_109 : decode code 109 = .ok (.invokestatic 180, 3) := by decide +kernel
set_option maxRecDepth 1000000 in
theorem dk_112 : decode code 112 = .ok (.invokestatic 184, 3) := by decide +kernel
section SP89u
variable {p : Program} {l : Launch} {e : Env} {s : State} {m : MethodId} {below : List Frame} {meth : Method} {c : Code} {b L pc cs ss : Nat} {xs : Nat → Int32} {mk : Nat → Int32 → am_G} {φ : Int32} {δ : (Nat → ClassId) × (Nat → Nat → Nat)} {κ : ClassId × ClassId × ClassId × ClassId} {H : Heap} {ls : Array Slot}
theorem lw_b78 {L : Nat} {xs : Nat → Int32} : arrV κ.1 37 (fun _ => Value.int 0) = vp_cell κ.1 (37, .inl (am_us cw_L (nw_mi L xs 37 φ) 78)) := by
  show _ = arrV κ.1 37 (fun j => .int (am_us cw_L (nw_mi L xs 37 φ) 78 j))
  refine cq_arr (fun j hj => ?_)
  rw [cw_o (by omega)]
  show Value.int 0 = Value.int (if j = 100000 then 37 else 0)
  rw [if_neg (by omega)]
/-- world is called, the rest is the machine's -/
theorem lw_world (hL : L ≤ 260) (C0 : lw_At p s m meth c b L xs) (hmk : lw_mk s b L xs mk φ δ κ) {B : Nat} {H2 : Heap} {r v n : Nat} {f : Nat → Int32} (hgr : lw_gr s H) (hB : s.heap.size ≤ B) (hB2 : B + 79 ≤ H.size)
    (hh : am_hp (mk B 37) H2 (am_us cw_L (nw_mi L xs 37 φ)) (fun _ _ => 0)) (z : H.size ≤ H2.size) (o : ∀ q, q < H.size → H2[q]? = H[q]?) (ht : tx_S s H H2 r v n f) (hcs : cs ≤ 100000) (hss : ss ≤ 1500000) (hls : lv_has ls 18 [(0, .ref b), (1, .ref ((mk B 37).1 0)), (2, .ref ((mk B 37).1 78))]) :
    W p l e room_1 s m #[Value.ref b] below meth c H2 [] cs ss (lw_Z below #[Value.ref b] s) (F0 m 112 ls [.ref r, .ref ((mk B 37).1 78), .ref b, .ref ((mk B 37).1 0)]) := by
  obtain ⟨g1, g2, g3, g4, g5, g6, g7⟩ := hmk B 37 hB
  obtain ⟨t1, t2, t3, t4, t5, t6, t7⟩ := ht
  have F2 := lw_F2 (q := 37) C0 hmk hB
  have hA := lw_A (q := 37) hmk hB
  have hA2 : ∀ q, am_A (mk B 37) q → q < B + 79 := by
    rintro q ⟨k, hk, rfl⟩
    have h79 := tx_NNle (G := mk B 37)
    rw [g3 k (by omega)]
    omega
  have nA : ∀ q, (q < s.heap.size ∨ H.size ≤ q) → ¬ am_A (mk B 37) q := fun q h w => by
    have a1 := hA q w
    have a2 := hA2 q w
    omega
  obtain ⟨hx, hb, hml, hr, hlocks, hts, hlk, hown, hK, hX⟩ := id F2
  have gr2 : ∀ q, q < s.heap.size → H2[q]? = s.heap[q]? := fun q h => (o q (Nat.lt_of_lt_of_le h hgr.1)).trans (hgr.2 q h)
  have sx1 : am_sx (mk B 37) s H2 := am_sx_on (State.WarmedH.refl _) (fun a h _ => gr2 a h) hX
  have sx2 := tx_sx (H0 := H2) (n := n) (f := f) t3 (nA r t1) (nA v t2) t4 t5 t6 t7 sx1
  generalize hGt : tx_G (mk B 37) r v n f = Gt at sx2
  have G1 : ∀ k, ¬ k = 138 → ¬ k = 139 → Gt.1 k = (mk B 37).1 k := fun k a b => by rw [← hGt]; exact tx_G1 a b
  have G2 : Gt.2.1 = (mk B 37).2.1 := by rw [← hGt]; rfl
  have G3 : Gt.2.2.1 = (mk B 37).2.2.1 := by rw [← hGt]; rfl
  have G4 : ∀ c, ¬ c = 138 → ¬ c = 139 → Gt.2.2.2 c = (mk B 37).2.2.2 c := fun c a b => by rw [← hGt]; exact tx_m1 a b
  have G5 : Gt.1 138 = r := by rw [← hGt]; rfl
  have G6 : Gt.2.2.2 138 1 = 0 := by rw [← hGt]; rfl
  have eA : am_A Gt = am_A (mk B 37) := tx_A (fun k hk => G1 k (by omega) (by omega)) (by rw [G4 78 (by omega) (by omega)])
  -- the machine's memory, with the text
  have hp2 : am_hp Gt H2 (fun c => if c < 114 then am_us cw_L (nw_mi L xs 37 φ) c else Gt.2.2.2 c) (fun _ _ => 0) := tx_hp (fun k hk => G1 k (by omega) (by omega)) G2 G3 (by rw [G4 78 (by omega) (by omega)]) (fun c hc => if_pos (by omega)) (fun c hc => if_neg (Nat.not_lt.mpr hc)) hh
  have hb0 : ∀ c j, c < 138 → (fun c => if c < 114 then am_us cw_L (nw_mi L xs 37 φ) c else Gt.2.2.2 c) c j = am_us cw_L (nw_mi L xs 37 φ) c j := by
    intro c j hc
    show (if c < 114 then am_us cw_L (nw_mi L xs 37 φ) c else Gt.2.2.2 c) j = _
    by_cases g : c < 114
    · rw [if_pos g]
    · rw [if_neg g, G4 c (by omega) (by omega), g5, cw_o (by omega)]
  have hE := cw_E (φ := φ) (xs := xs) (b := fun c => if c < 114 then am_us cw_L (nw_mi L xs 37 φ) c else Gt.2.2.2 c) hL hb0 (by show (if 138 < 114 then am_us cw_L (nw_mi L xs 37 φ) 138 else Gt.2.2.2 138) 1 = 0; rw [if_neg (by omega)]; exact G6)
  generalize hm0 : (fun c => if c < 114 then am_us cw_L (nw_mi L xs 37 φ) c else Gt.2.2.2 c) = m0 at hp2 hE
  have hcall : am_call 64 291 [.ref 0, .ref 117, .ref 78, .ref 138] m0 (fun _ _ => 0) (fun r mi ml => r = none ∧ ∃ P u n k, dq_A P u n k 850 mi ∧ mi 78 0 = nI n ∧ mi 78 1 = nI k ∧ mi 78 100000 = 37) :=
    dq_291 (d := 5) hE (by omega) (fun P u n k mi hA _ _ a b c => ⟨rfl, P, u, n, k, hA, a, b, c⟩)
  have hlt : 291 < am_NM := by decide
  obtain ⟨w1, w2, w3, w4, w5, w6, w7, w8, -⟩ := am_f_c hlt
  have hR := am_lawrok hcs hss
  have hpre : PreS s H2 (va_Pc (([.ref 0, .ref 117, .ref 78, .ref 138] : List Value).map (am_tv Gt)) (fun U => am_wd Gt U U.heap m0 (fun _ _ => 0))) (([.ref 0, .ref 117, .ref 78, .ref 138] : List Value).map (am_tv Gt)) := by
    refine ⟨fun a U g mk q => ⟨q.1, am_wd_vm rfl q.2⟩, fun U hU hW => ⟨rfl, ?_⟩⟩
    show am_wd Gt U U.heap m0 (fun _ _ => 0)
    rw [hU]
    have hK2 : va_K Gt.2.1 vwCl (am_ty Gt) s := by
      have e : am_ty Gt = am_ty (mk B 37) := by unfold am_ty; rw [G3]
      rw [e, G2]
      exact hK
    exact ⟨hp2, hK2.moved hW.alike, am_sx_w hW sx2⟩
  have hst : ([.ref r, .ref ((mk B 37).1 78), .ref b, .ref ((mk B 37).1 0)] : List Value) = (([.ref 0, .ref 117, .ref 78, .ref 138] : List Value).map (am_tv Gt)).reverse ++ [] := by
    show _ = ([.ref (Gt.1 138), .ref (Gt.1 78), .ref (Gt.1 117), .ref (Gt.1 0)] : List Value)
    rw [G5, G1 78 (by omega) (by omega), G1 117 (by omega) (by omega), G1 0 (by omega) (by omega), g4]
  have hS : va_S (am_A Gt) s.heap H2 [] := ⟨Nat.le_trans hgr.1 z, fun q h _ => gr2 q h, fun q hq => by cases hq⟩
  refine am_callk (G := Gt) (va_runS (As := ([.ref 0, .ref 117, .ref 78, .ref 138] : List Value).map (am_tv Gt)) (rest := []) ⟨hx, hb, hml, hown, hts⟩ (am_sound l Gt 64 _ _ _ _ _ hlt hcall) ⟨callB_of 4 hts (am_goodIn hlt) rfl rfl rfl (hts _ (am_tb_i w3 rfl)) (hts _ (am_tb_i sw_184 rfl)) ⟨w5, w6, w7⟩ (am_room_3 hR w4), hts _ (am_tb_i (w8 rfl) rfl)⟩ hpre rfl rfl hls.1 hst (lv_room (by decide)) dk_112 ⟨hR.2.2.1, hR.2.2.2⟩) hS ?_
  intro rv mi2 ml2 H1 locs1 q1 q2 q3
  obtain ⟨e1, P, u, n1, k1, hD, b0, b1, b2⟩ := q1
  subst e1
  rw [eA] at q3
  have m1 : ∀ c, c < 114 → (fun c => if c < 114 then mi2 c else (mk B 37).2.2.2 c) c = mi2 c := fun c hc => if_pos hc
  have k138 : ∀ c j, c < 138 → (fun c => if c < 114 then mi2 c else (mk B 37).2.2.2 c) c j = mi2 c j := by
    intro c j hc
    by_cases g : c < 114
    · rw [m1 c g]
    · show (if c < 114 then mi2 c else (mk B 37).2.2.2 c) j = _
      rw [if_neg g, q2.2.2.1 c (Nat.not_lt.mp g), G4 c (by omega) (by omega)]
  have hp3 : am_hp (mk B 37) H1 (fun c => if c < 114 then mi2 c else (mk B 37).2.2.2 c) ml2 := tx_hp (fun k hk => (G1 k (by omega) (by omega)).symm) G2.symm G3.symm (by rw [G4 78 (by omega) (by omega)]) (fun c hc => if_pos (by omega)) (fun c hc => if_neg (Nat.not_lt.mpr hc)) q2
  exact law_w F2 (fun q w => Nat.le_trans hB (hA q w)) hcs hss (by rw [g4]; exact hls) hp3 q3 (Nat.le_refl _) (dq_A_138 hD k138) ((k138 78 0 (by omega)).trans b0) ((k138 78 1 (by omega)).trans b1) ((k138 78 100000 (by omega)).trans b2)
/-- from the object on -/
theorem lw_o (htx : tx_ok l) (hL : L ≤ 260) (C0 : lw_At p s m meth c b L xs) (hcx : cm_sx s) (hmk : lw_mk s b L xs mk φ δ κ) (hcs : cs + 3000 ≤ 100000) (hss : ss + 900000 ≤ 1500000) : ∀ H ls, lw_gr s H → lv_has ls 18 [(0, .ref b)] → W p l e room_1 s m #[Value.ref b] below meth c H [] cs ss (lw_Z below #[Value.ref b] s) (F0 m 90 ls []) := by
  intro H ls hgr hl
  obtain ⟨hx, hb, hr, hml, hown, hts, hX, hbl, hlocks, hgv⟩ := id C0
  obtain ⟨g1, g2, g3, g4, g5, g6, g7⟩ := hmk H.size 37 hgr.1
  refine lw_obj (q := 37) C0 hcx hmk hgr dk_90 dk_93 dk_94 hl.1 (by omega) (by omega) (fun H2 locs q1 q2 => ?_)
  refine va_forget (fun q hq => Nat.le_trans hgr.1 (q2.2.2 q hq)) ?_
  refine lv_astore_n (lv' := [(1, .ref ((mk H.size 37).1 0)), (0, .ref b)]) hx hb dk_97 rfl hl (by decide) rfl (fun ls hl => ?_)
  refine lv_bipush (v := 37) hx hb dk_98 rfl ?_
  refine va_newaK (atype := .int) hx hb (hts _ cv_64) rfl dk_100 rfl (by decide) (N := 37) (by decide) (by decide) (lw_rc (show cs + 1 + 77 + 1 ≤ 100000 by omega)) (lw_rs (show ss + 10 + 1600 + 37 ≤ 1500000 by omega)) rfl fun H3 cA e1 z1 o1 hAr hNm => ?_
  have hKi := (g6.2 0 _ rfl).2
  have ec : cA = (mk H.size 37).2.2.1.1 := Option.some.inj (hNm.symm.trans hKi)
  have eH2 : H2.size = H.size + 78 := q1.2.1
  have e78 : (mk H.size 37).1 78 = H2.size := by rw [g3 78 (by omega), eH2]
  have hh : am_hp (mk H.size 37) H3 (am_us cw_L (nw_mi L xs 37 φ)) (fun _ _ => 0) := cm_allG g3 q1 lw_fl lw_sh o1 (fun _ => by
    rw [e1, ec, g2]
    exact congrArg some lw_b78) (Or.inl (by rw [g5]; rfl))
  rw [← e78]
  refine lv_astore_n (lv' := [(2, .ref ((mk H.size 37).1 78)), (1, .ref ((mk H.size 37).1 0)), (0, .ref b)]) hx hb dk_102 rfl hl (by decide) rfl (fun ls hl => ?_)
  refine lv_aload_n hx hb dk_103 rfl (lv_at hl 1 rfl) ?_
  refine lv_aload_n hx hb dk_104 rfl (lv_at hl 2 rfl) ?_
  refine lv_aload_n hx hb dk_105 rfl (lv_at hl 0 rfl) ?_
  refine lv_aload_n hx hb dk_106 rfl (lv_at hl 2 rfl) ?_
  refine lv_bipush (v := 20) hx hb dk_107 rfl ?_
  have gr3 : lw_gr s H3 := ⟨by have := hgr.1; omega, fun q h => by
    have := hgr.1
    rw [o1 q (by omega)]
    exact q2.2.1 q h (fun w => absurd (show H.size ≤ q from w) (by omega))⟩
  refine htx p e s m below meth c b L xs _ H3 ls [.ref ((mk H.size 37).1 78), .ref b, .ref ((mk H.size 37).1 0)] _ _ C0 hL gr3 hl.1 (show 1 + (1 + (1 + 0)) ≤ 5 by omega) (show cs + 1 + 77 + 1 + 2000 ≤ 100000 by omega) (show ss + 10 + 1600 + 37 + 700000 ≤ 1500000 by omega) (fun H4 r v n f z o ht => ?_)
  have hh4 : am_hp (mk H.size 37) H4 (am_us cw_L (nw_mi L xs 37 φ)) (fun _ _ => 0) := by
    refine ⟨fun k q hk => ?_, hh.2⟩
    have hat := hh.1 k q hk
    exact hat.kept (o _ hat.lt)
  exact lw_world hL C0 hmk gr3 hgr.1 (by omega) hh4 z o ht (by omega) (by omega) (lv_sub hl [2, 1, 0] rfl)
set_option maxHeartbeats 4000000 in
/-- the law, from its entry, if text() makes a text -/
theorem lw_start_open (htx : tx_ok l) (hL : L ≤ 260) (C0 : lw_At p s m meth c b L xs) : W p l e room_1 s m #[Value.ref b] below meth c s.heap [] 0 0 (lw_Z below #[Value.ref b] s) (entryFrame m ([Value.ref b] : List Value).toArray 18) := by
  obtain ⟨mk, φ, δ, κ, hcx, hmk⟩ := nw_start hL C0
  have hmk : lw_mk s b L xs mk φ δ κ := hmk
  have hl := lv_entry ([.ref b]) (n := 18) (Nat.le_of_ble_eq_true rfl)
  rw [lg_entry_eq]
  generalize (lg_sl ([.ref b]) ++ List.replicate (18 - (lg_sl ([.ref b])).length) Slot.unset).toArray = ls at hl ⊢
  have hl : lv_has ls 18 [(0, .ref b)] := hl
  refine lw_tmp (pc := 0) (i := 3) (nxt := 6) (pc2 := 15) (cs := 0) (ss := 0) hL C0 hcx hmk (fun K b ml lo h hb hn => sg_3 h hb hn) (by decide) (by decide) dk_0 dk_3 dk_4 (by omega) (by omega) ?_ s.heap ls ⟨Nat.le_refl _, fun _ _ => rfl⟩ hl
  refine lw_tmp (pc := 15) (i := 9) (nxt := 11) (pc2 := 28) hL C0 hcx hmk (fun K b ml lo h hb hn => sg_9 h hb hn) (by decide) (by decide) dk_15 dk_18 dk_19 (by omega) (by omega) ?_
  refine lw_tmp (pc := 28) (i := 14) (nxt := 17) (pc2 := 42) hL C0 hcx hmk (fun K b ml lo h hb hn => sg_14 h hb hn) (by decide) (by decide) dk_28 dk_31 dk_32 (by omega) (by omega) ?_
  refine lw_tmp (pc := 42) (i := 20) (nxt := 25) (pc2 := 58) hL C0 hcx hmk (fun K b ml lo h hb hn => sg_20 hL h hb hn) (by decide) (by decide) dk_42 dk_45 dk_46 (by omega) (by omega) ?_
  refine lw_tmp (pc := 58) (i := 28) (nxt := 31) (pc2 := 72) hL C0 hcx hmk (fun K b ml lo h hb hn => sg_28 hL h hb hn) (by decide) (by decide) dk_58 dk_61 dk_62 (by omega) (by omega) ?_
  refine lw_tmp (pc := 72) (i := 34) (nxt := 41) (pc2 := 90) hL C0 hcx hmk (fun K b ml lo h hb hn => sg_34 hL h hb hn) (by decide) (by decide) dk_72 dk_75 dk_76 (by omega) (by omega) ?_
  exact lw_o htx hL C0 hcx hmk (by omega) (by omega)
end SP89u
