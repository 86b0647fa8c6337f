/-! the law's frame: objects are made, the temporary ones answer -/
section SP89q
variable {p : Program} {l : Launch} {e : Env} {Rm : Room} {s : State} {m : MethodId} {args : Array Value} {below : List Frame} {meth : Method} {c : Code} {Q : State → Prop}
variable {G : am_G} {B : Nat} {y : MethodName} {bc : ByteArray} {nL : Nat} {rt : Option FieldType} {pc n cs ss : Nat} {ls : Array Slot} {st : List Value} {mi : am_MI} {ml : am_ML}
theorem cq_vS2 {H0 H H1 : Heap} {locs : List Loc} (hS : va_S (cm_A B) H0 H locs) (z : H1.size = H.size + 1) (o : ∀ q, q < H.size → H1[q]? = H[q]?) : va_S (cm_A B) H0 H1 locs :=
  ⟨by have := hS.1; omega, fun q h1 h2 => (o q (Nat.lt_of_lt_of_le h1 hS.1)).trans (hS.2.1 q h1 h2), hS.2.2⟩
/-- new -/
theorem cq_new2 (F : cm_fr p s m args meth c G y bc nL rt) (hG : cm_ad G B) {ci N index : Nat} {C : String} {T : u_T} {ty : Nat → FieldType} (h1 : am_kd n = 1) (h2 : am_n n = ci) (h3 : am_f n = N) (hn : n < cm_N) (hc : vwCl[ci]? = some (C, T, N)) (hty : ∀ k, k < N → parseFieldDescriptor (T k).2.2.1 = some (ty k)) (hbn : cm_born ci N ty)
    (w1 : Cond.classLink y.cls index C ∈ lw_tbl) (w2 : Cond.instantiable C N ∈ lw_tbl) (w3 : Cond.initialized C ∈ lw_tbl) (hdg : decode bc pc = .ok (.new index, 3)) (hcs : cs + 1 ≤ Rm.cells) (hss : ss + N ≤ Rm.slots)
    (k : cm_go p l e Rm s m args below meth c Q G B (pc + 3) ls (.ref (G.1 n) :: st) (n + 1) mi ml (cs + 1) (ss + N)) : cm_go p l e Rm s m args below meth c Q G B pc ls st n mi ml cs ss := by
  obtain ⟨hx, hb, hml, hr, hlocks, hts, hown, hnm, hK, hX⟩ := F
  intro H locs g1 g2
  have hKn := hK.1 ci _ hc
  refine W.newcK hx hb hown (hts _ (am_tb_i w1 rfl)) (hts _ (am_tb_i w2 rfl)) (hts _ (am_tb_i w3 rfl)) rfl hdg hcs hss hKn.2.1 rfl fun H1 kC hkC e1 z1 o1 => ?_
  have eq : H.size = G.1 n := by rw [g1.2.1, hG n hn]
  have hat : va_at G.2.1 vwCl (B + n, cm_en G mi ml n) H1 := by
    rw [cm_en1 h1, h2, h3, ← g1.2.1]
    refine ⟨_, hc, (u_born ty hts (am_vw hc).1 hKn hkC e1 hty).to (fun j hj => ?_)⟩
    rw [hbn j hj]
    have hz := (g1.2.2.2.1 n j (Nat.le_refl _) hn).1
    show _ = (cm_fs G mi n ci N).getD j .null
    rw [List.getD_eq_getElem?_getD, cm_fs_at hj]
    show _ = cm_fv G mi n ci j
    unfold cm_fv
    rw [hz, if_pos rfl]
  have z := k H1 locs (cm_push hG g1 hn z1 o1 hat) (cq_vS2 g2 z1 o1)
  rw [← eq] at z
  exact z
end SP89q
section SP89r
variable {G : am_G} {B : Nat} {H H1 : Heap} {mi : am_MI} {ml : am_ML}
theorem cm_en_all {a : Nat} (ha : a < cm_N) (hf : am_kd a = 1 → ∀ j, j < am_f a → am_isr (am_fd (am_n a) j) = true → ¬ mi a j = 0) (hs : am_kd a = 4 → ¬ am_d a = 1 → ∀ j, j < am_n a → ¬ mi a j = 0) : ∀ H, va_at G.2.1 vwCl (G.1 a, cm_en G mi ml a) H → va_at G.2.1 vwCl (G.1 a, am_en G mi ml a) H := by
  intro H h
  have kk : am_kd a = 1 ∨ am_kd a = 2 ∨ am_kd a = 3 ∨ am_kd a = 4 := by
    have key : ∀ a, a < cm_N → am_kd a = 1 ∨ am_kd a = 2 ∨ am_kd a = 3 ∨ am_kd a = 4 := by decide
    exact key a ha
  rcases kk with k | k | k | k
  · have e : cm_en G mi ml a = am_en G mi ml a := by
      rw [cm_en1 k, am_en1 k]
      congr 2
      unfold cm_fs am_fs
      refine List.map_congr_left (fun j hj => ?_)
      have hj := List.mem_range.mp hj
      unfold cm_fv am_fv
      by_cases r : am_isr (am_fd (am_n a) j) = true
      · rw [if_pos r, if_pos r, if_neg (hf k j hj r)]
      · rw [if_neg r, if_neg r]
    rw [← e]
    exact h
  · rw [am_en2 k]
    rw [cm_en2 k] at h
    exact h
  · rw [am_en3 k]
    rw [cm_en3 k] at h
    exact h
  · rw [am_en4 k]
    rw [cm_en4 k] at h
    have h : H[G.1 a]? = some (vp_cell _ _) := h
    show H[G.1 a]? = some (vp_cell _ _)
    rw [h, vp_cell_q, vp_cell_q]
    refine congrArg some (cq_arr (fun j hj => ?_))
    by_cases d : am_d a = 1
    · rw [if_pos d]
    · rw [if_neg d, if_neg (hs k d j hj)]
theorem cm_allG (hG : ∀ k, k < 79 → G.1 k = B + k) (h : cm_hp G B 78 H mi ml) (hf : ∀ a, a < cm_N → am_kd a = 1 → ∀ j, j < am_f a → am_isr (am_fd (am_n a) j) = true → ¬ mi a j = 0) (hs : ∀ a, a < cm_N → am_kd a = 4 → ¬ am_d a = 1 → ∀ j, j < am_n a → ¬ mi a j = 0)
    (o : ∀ q, q < H.size → H1[q]? = H[q]?) (hb : 78 < am_NN G → H1[H.size]? = some (vp_cell G.2.2.1.1 (37, .inl (mi 78)))) (hq : G.2.2.2 78 100000 = 37 ∨ G.2.2.2 78 100000 = 0) : am_hp G H1 mi ml := by
  obtain ⟨h1, h2, h3, h4, h5⟩ := h
  have hN : am_NN G ≤ 79 := by
    unfold am_NN
    split <;> omega
  have at_ : ∀ {k : Nat} {q : Nat × va_E}, (am_wl G mi ml)[k]? = some q → k < am_NN G ∧ q = (G.1 k, am_en G mi ml k) := by
    intro k q hk
    have hkN : k < am_NN G := by
      apply Decidable.byContradiction
      intro w
      have z : (am_wl G mi ml)[k]? = none := by
        rw [List.getElem?_eq_none]
        unfold am_wl
        simpa using Nat.not_lt.mp w
      rw [z] at hk
      cases hk
    rw [am_wl_at hkN] at hk
    cases hk
    exact ⟨hkN, rfl⟩
  refine ⟨fun k q hk => ?_, ⟨fun i j p q hi hj e => ?_, fun k q hk => ?_⟩, fun c hc => h5 c (Nat.le_trans (by decide) hc), by rw [h5 78 (by decide)], hq⟩
  · obtain ⟨hkN, rfl⟩ := at_ hk
    by_cases e : k = 78
    · subst e
      rw [am_en10 rfl]
      show H1[G.1 78]? = some (vp_cell _ _)
      rw [hG 78 (by omega), ← h2]
      exact hb hkN
    · have kN : k < cm_N := show k < 78 by omega
      have hat := cm_en_all kN (hf k kN) (hs k kN) H (h1 k _ (cm_wl_at kN))
      exact hat.kept (o _ (by rw [h2, hG k (by omega)]; omega))
  · obtain ⟨i1, rfl⟩ := at_ hi
    obtain ⟨j1, rfl⟩ := at_ hj
    have e : G.1 i = G.1 j := e
    rw [hG i (by omega), hG j (by omega)] at e
    omega
  · obtain ⟨k1, rfl⟩ := at_ hk
    exact ⟨k, k1, rfl⟩
end SP89r
/-- the heap has grown, nothing old is changed -/
def lw_gr (s : State) (H : Heap) : Prop := s.heap.size ≤ H.size ∧ ∀ q, q < s.heap.size → H[q]? = s.heap[q]?
/-- what the start gives of any place for an object -/
def lw_mk (s : State) (b L : Nat) (xs : Nat → Int32) (mk : Nat → Int32 → am_G) (φ : Int32) (δ : (Nat → ClassId) × (Nat → Nat → Nat)) (κ : ClassId × ClassId × ClassId × ClassId) : Prop := ∀ B q, s.heap.size ≤ B → (mk B q).2.1 = δ ∧ (mk B q).2.2.1 = κ ∧ (∀ k, k < 79 → (mk B q).1 k = B + k) ∧ (mk B q).1 117 = b ∧ (mk B q).2.2.2 = nw_mi L xs q φ ∧ va_K (mk B q).2.1 vwCl (am_ty (mk B q)) s ∧ am_sx (mk B q) s s.heap
section SP89s
variable {p : Program} {l : Launch} {e : Env} {s : State} {m : MethodId} {below : List Frame} {meth : Method} {c : Code} {Q : State → Prop} {b L B pc cs ss : Nat} {xs : Nat → Int32} {mk : Nat → Int32 → am_G} {φ q : Int32} {δ : (Nat → ClassId) × (Nat → Nat → Nat)} {κ : ClassId × ClassId × ClassId × ClassId} {H : Heap} {ls : Array Slot}
theorem lw_F (C0 : lw_At p s m meth c b L xs) (hcx : cm_sx s) (hmk : lw_mk s b L xs mk φ δ κ) (hB : s.heap.size ≤ B) : cm_fr p s m #[Value.ref b] meth c (mk B q) ⟨"DoorsForThreeLaw", meth.name, ""⟩ code 18 ret := by
  obtain ⟨hx, hb, hr, hml, hown, hts, hX, hbl, hlocks, hgv⟩ := C0
  exact ⟨hx, hb, hml, hr, hlocks, fun w hw => hts w (List.mem_filter.mp hw).1, hown, rfl, (hmk B q hB).2.2.2.2.2.1, hcx⟩
theorem lw_F2 (C0 : lw_At p s m meth c b L xs) (hmk : lw_mk s b L xs mk φ δ κ) (hB : s.heap.size ≤ B) : am_fr p s m #[Value.ref b] meth c (mk B q) x code 18 ret am_lkL := by
  obtain ⟨hx, hb, hr, hml, hown, hts, hX, hbl, hlocks, hgv⟩ := C0
  exact ⟨hx, hb, hml, hr, hlocks, fun w hw => hts w (List.mem_filter.mp hw).1, fun w h => am_t1 (am_uses am_lkL_ix w h), hown, (hmk B q hB).2.2.2.2.2.1, (hmk B q hB).2.2.2.2.2.2⟩
theorem lw_A (hmk : lw_mk s b L xs mk φ δ κ) (hB : s.heap.size ≤ B) : ∀ k, am_A (mk B q) k → B ≤ k := by
  rintro x ⟨k, hk, rfl⟩
  have h79 : am_NN (mk B q) ≤ 79 := by
    unfold am_NN
    split <;> omega
  rw [(hmk B q hB).2.2.1 k (by omega)]
  omega
/-- an object is made -/
theorem lw_obj (C0 : lw_At p s m meth c b L xs) (hcx : cm_sx s) (hmk : lw_mk s b L xs mk φ δ κ) (hgr : lw_gr s H) (d0 : decode code pc = .ok (.new 85, 3)) (d3 : decode code (pc + 3) = .ok (.dup, 1)) (d4 : decode code (pc + 3 + 1) = .ok (.invokespecial 167, 3)) (hls : ls.size = 18) (hcs : cs + 78 ≤ 100000) (hss : ss + 1610 ≤ 1500000)
    (kk : ∀ H2 locs, cm_hp (mk H.size q) H.size 78 H2 (am_us cw_L (nw_mi L xs q φ)) (fun _ _ => 0) → va_S (cm_A H.size) s.heap H2 locs → W p l e room_1 s m #[Value.ref b] below meth c H2 locs (cs + 1 + 77) (ss + 10 + 1600) Q (F0 m (pc + 3 + 1 + 3) ls [.ref ((mk H.size q).1 0)])) : W p l e room_1 s m #[Value.ref b] below meth c H [] cs ss Q (F0 m pc ls []) := by
  have F := lw_F (q := q) C0 hcx hmk hgr.1
  obtain ⟨g1, g2, g3, g4, g5, g6, g7⟩ := hmk H.size q hgr.1
  have hG : cm_ad (mk H.size q) H.size := fun k hk => g3 k (by have hd : k < 78 := hk; omega)
  obtain ⟨hx, hb, -⟩ := id F
  have hp0 : cm_hp (mk H.size q) H.size 0 H (nw_mi L xs q φ) (fun _ _ => 0) := ⟨fun k q h => absurd (cm_wl_lt h).1 (Nat.not_lt_zero k), rfl, by decide, fun k j _ h2 => ⟨nw_mi_0 h2, rfl⟩, fun c _ => by rw [g5]⟩
  refine (?_ : cm_go p l e room_1 s m #[Value.ref b] below meth c Q (mk H.size q) H.size pc ls [] 0 (nw_mi L xs q φ) (fun _ _ => 0) cs ss) H [] hp0 ⟨hgr.1, fun q h _ => hgr.2 q h, fun q hq => by cases hq⟩
  refine cq_new2 F hG (ci := 10) (N := 10) rfl rfl rfl (by decide) rfl tyX10_ok cb_10 sw_22 sw_23 sw_1 d0 (lw_rc (show cs + 1 ≤ 100000 by omega)) (lw_rs (show ss + 10 ≤ 1500000 by omega)) ?_
  refine cq_pure (fun H locs => lv_dup hx hb d3 rfl) ?_
  refine cq_call F (k := 0) (As := []) (b := (mk H.size q).1 0) (st := [.ref ((mk H.size q).1 0)]) (ct_10_0 hG) sw_26 sw_1 sw_24 sw_25 rfl ⟨by decide, by decide, by decide +kernel⟩ rfl d4 hls (by decide) (Nat.le_of_ble_eq_true rfl) (Nat.le_of_ble_eq_true rfl) (Nat.le_of_ble_eq_true rfl) (lw_rc (show cs + 1 + 77 ≤ 100000 by omega)) (lw_rs (show ss + 10 + 1600 ≤ 1500000 by omega)) ?_
  exact fun H2 locs q1 q2 => kk H2 locs q1 q2
theorem lw_Ez {L : Nat} {xs : Nat → Int32} {q φ : Int32} : ∀ a j, a < cm_N → am_us cw_L (nw_mi L xs q φ) a j = am_us cw_L cw_z a j := fun a j ha => am_us_c cw_L (nw_mi_0 ha)
theorem lw_fl : ∀ a, a < cm_N → am_kd a = 1 → ∀ j, j < am_f a → am_isr (am_fd (am_n a) j) = true → ¬ am_us cw_L (nw_mi L xs q φ) a j = 0 := fun a ha h1 j hj h2 => by rw [lw_Ez a j ha]; exact cw_flag a ha h1 j hj h2
theorem lw_sh : ∀ a, a < cm_N → am_kd a = 4 → ¬ am_d a = 1 → ∀ j, j < am_n a → ¬ am_us cw_L (nw_mi L xs q φ) a j = 0 := fun a ha h1 h2 j hj => by rw [lw_Ez a j ha]; exact cw_shel a ha h1 h2 j hj
/-- a temporary object is made, answers, is dropped -/
theorem lw_tmp {i nxt pc2 : Nat} (hL : L ≤ 260) (C0 : lw_At p s m meth c b L xs) (hcx : cm_sx s) (hmk : lw_mk s b L xs mk φ δ κ)
    (hseg : ∀ (K : am_K) (b : am_MI) (ml : am_ML) (lo : am_L), st_K K → (∀ c j, c < 138 → b c j = am_us cw_L (nw_mi L xs 0 φ) c j) → (∀ mi ml, K nxt lo [] mi ml) → K i lo [.ref 0] b ml) (hpi : am_pcs mt_st i = pc + 3 + 1 + 3) (hpn : am_pcs mt_st nxt = pc2)
    (d0 : decode code pc = .ok (.new 85, 3)) (d3 : decode code (pc + 3) = .ok (.dup, 1)) (d4 : decode code (pc + 3 + 1) = .ok (.invokespecial 167, 3)) (hcs : cs + 78 ≤ 100000) (hss : ss + 1610 ≤ 1500000)
    (hcont : ∀ H ls, lw_gr s H → lv_has ls 18 [(0, .ref b)] → W p l e room_1 s m #[Value.ref b] below meth c H [] (cs + 1 + 77) (ss + 10 + 1600) Q (F0 m pc2 ls [])) : ∀ H ls, lw_gr s H → lv_has ls 18 [(0, .ref b)] → W p l e room_1 s m #[Value.ref b] below meth c H [] cs ss Q (F0 m pc ls []) := by
  intro H ls hgr hl
  obtain ⟨g1, g2, g3, g4, g5, g6, g7⟩ := hmk H.size 0 hgr.1
  refine lw_obj (q := 0) C0 hcx hmk hgr d0 d3 d4 hl.1 hcs hss (fun H2 locs q1 q2 => ?_)
  have F2 := lw_F2 (q := 0) C0 hmk hgr.1
  have hA := lw_A (q := 0) hmk hgr.1
  have hpz : am_hp (mk H.size 0) H2 (am_us cw_L (nw_mi L xs 0 φ)) (fun _ _ => 0) := cm_allG (H := H2) g3 q1 lw_fl lw_sh (fun _ _ => rfl) (fun w => absurd w (by
    unfold am_NN
    rw [g5, if_neg (by show ¬ (0 : Int32) = 37; decide)]
    omega)) (Or.inr (by rw [g5]; rfl))
  refine va_forget (fun q hq => Nat.le_trans hgr.1 (q2.2.2 q hq)) ?_
  have kn : ∀ mi ml, am_mo p l e room_1 s m #[Value.ref b] below meth c (cs + 1 + 77) (ss + 10 + 1600) Q (mk H.size 0) 18 mt_st nxt [some (.ref 117), none, none, none, none, none, none, none, none, none, none, none, none, none, none, none, none, none] [] mi ml := by
    intro mi ml ls3 H3 locs3 a1 a2 a3
    rw [hpn]
    refine va_forget (fun q hq => Nat.le_trans hgr.1 (hA _ (a3.2.2 q hq))) (hcont H3 ls3 ⟨a3.1, fun q h => a3.2.1 q h (fun w => absurd (hA q w) (by have := hgr.1; omega))⟩ ?_)
    have a1 : lv_has ls3 18 [(0, .ref ((mk H.size 0).1 117))] := a1
    rw [g4] at a1
    exact a1
  have z := hseg _ _ (fun _ _ => 0) _ (st_go (l := l) (Q := Q) F2 (show cs + 1 + 77 ≤ 100000 by omega) (show ss + 10 + 1600 ≤ 1500000 by omega)) (fun c j _ => show am_us cw_L (nw_mi L xs 0 φ) c j = _ from rfl) kn
  have w := z ls H2 [] (show lv_has ls 18 [(0, .ref ((mk H.size 0).1 117))] by rw [g4]; exact hl) hpz ⟨q2.1, fun q h1 h2 => q2.2.1 q h1 (fun w => absurd (show H.size ≤ q from w) (by have := hgr.1; omega)), fun q hq => by cases hq⟩
  rw [hpi] at w
  exact w
end SP89s
