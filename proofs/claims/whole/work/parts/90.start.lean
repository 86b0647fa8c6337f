/-! the law's own walk from its entry: the class is made, the reference is made, then its loop -/
section SP90
variable {p : Program} {l : Launch} {e : Env} {Rm : Room} {s : State} {m : MethodId} {args : Array Value} {below : List Frame} {meth : Method} {c : Code} {Q : State → Prop}
variable {G : am_G} {B : Nat} {y : MethodName} {bc : ByteArray} {nL : Nat} {rt : Option FieldType} {pc n cs ss : Nat} {ls : Array Slot} {st : List Value} {mi : am_MI} {ml : am_ML}
theorem cq_astn (F : cm_fr p s m args meth c G y bc nL rt) {k : Fin 4} {i a : Nat} {lv lv2 : List (Nat × Value)} (hl : lv_has ls nL lv) (hi : i < nL) (hki : (k : Nat) = i) (hdg : decode bc pc = .ok (.astore_n k, 1))
    (he : (i, Value.ref a) :: lv.filter (fun q => !(q.1 == i) && !(q.1 + 1 == i && q.2.category == 2)) = lv2) (kk : ∀ ls2, lv_has ls2 nL lv2 → cm_go p l e Rm s m args below meth c Q G B (pc + 1) ls2 st n mi ml cs ss) : cm_go p l e Rm s m args below meth c Q G B pc ls (.ref a :: st) n mi ml cs ss :=
  fun H locs g1 g2 => lv_astore_n F.1 F.2.1 hdg hki hl hi he (fun ls2 g => kk ls2 g H locs g1 g2)
end SP90
theorem sb_10 : cm_born 10 10 tyX10 := by
  unfold cm_born
  decide +kernel
theorem sb_11 : cm_born 11 52 tyX11 := by
  unfold cm_born
  decide +kernel
set_option maxRecDepth 1000000 in
theorem dw_0 : decode code 0 = .ok (.new 7, 3) := by decide +kernel
set_option maxRecDepth 1000000 in
theorem dw_3 : decode code 3 = .ok (.dup, 1) := by decide +kernel
set_option maxRecDepth 1000000 in
theorem dw_4 : decode code 4 = .ok (.invokespecial 9, 3) := by decide +kernel
set_option maxRecDepth 1000000 in
theorem dw_7 : decode code 7 = .ok (.astore_n 1, 1) := by decide +kernel
set_option maxRecDepth 1000000 in
theorem dw_8 : decode code 8 = .ok (.new 10, 3) := by decide +kernel
set_option maxRecDepth 1000000 in
theorem dw_11 : decode code 11 = .ok (.dup, 1) := by decide +kernel
set_option maxRecDepth 1000000 in
theorem dw_12 : decode code 12 = .ok (.invokespecial 12, 3) := by decide +kernel
set_option maxRecDepth 1000000 in
theorem dw_15 : decode code 15 = .ok (.astore_n 2, 1) := by decide +kernel
theorem cw_hp {G : am_G} {B L : Nat} {xs : Nat → Int32} {H : Heap} {ml : am_ML} (hG : cm_ad G B) (g1 : cm_hp G B 114 H (am_us cw_L (nw_mi L xs)) ml) : am_hp G H (am_us cw_L (nw_mi L xs)) ml := by
  have E : ∀ a j, a < am_N → am_us cw_L (nw_mi L xs) a j = am_us cw_L cw_z a j := fun a j ha => am_us_c cw_L (nw_mi_0 ha)
  exact cm_all hG g1 (fun a ha h1 j hj h2 => by rw [E a j ha]; exact cw_flag a ha h1 j hj h2) (fun a ha h1 h2 j hj => by rw [E a j ha]; exact cw_shel a ha h1 h2 j hj)
set_option maxRecDepth 100000 in
set_option maxHeartbeats 4000000 in
/-- the law, from its entry -/
theorem whole_start {p : Program} {e : Env} {s : State} {m : MethodId} {below : List Frame} {meth : Method} {c : Code} (l : Launch) (hflags : l.flags = flags0) {b L : Nat} {xs : Nat → Int32} (hL : L ≤ 3072) (C0 : lw_At p s m meth c b L xs) : W p l e room_1 s m #[Value.ref b] below meth c s.heap [] 0 0 (lw_Z below #[Value.ref b] s) (entryFrame m ([Value.ref b] : List Value).toArray 4) := by
  obtain ⟨G, hG, g117, gmi, hK, hsx, hcx⟩ := nw_start hL C0
  obtain ⟨hx, hb, hr, hml, hown, hts, hX, hbl, hlocks, hgv⟩ := id C0
  have F : cm_fr p s m #[Value.ref b] meth c G ⟨"DoorsForThreeLaw", meth.name, ""⟩ code 4 ret := ⟨hx, hb, hml, hr, hlocks, fun w hw => hts w (List.mem_filter.mp hw).1, hown, rfl, hK, hcx⟩
  have F2 : am_fr p s m #[Value.ref b] meth c G x code 4 ret am_lkL := ⟨hx, hb, hml, hr, hlocks, fun w hw => hts w (List.mem_filter.mp hw).1, fun w h => am_t1 (am_uses am_lkL_ix w h), hown, hK, hsx⟩
  have hl := lv_entry ([.ref b]) (n := 4) (Nat.le_of_ble_eq_true rfl)
  rw [lg_entry_eq]
  generalize (lg_sl ([.ref b]) ++ List.replicate (4 - (lg_sl ([.ref b])).length) Slot.unset).toArray = ls at hl ⊢
  have hl : lv_has ls 4 [(0, .ref b)] := hl
  have hp0 : cm_hp G s.heap.size 0 s.heap (nw_mi L xs) (fun _ _ => 0) := ⟨fun k q h => absurd (cm_wl_lt h).1 (Nat.not_lt_zero k), rfl, by decide, fun k j _ h2 => ⟨nw_mi_0 h2, rfl⟩, fun c _ => by rw [gmi]⟩
  refine (?_ : cm_go p l e room_1 s m #[Value.ref b] below meth c (lw_Z below #[Value.ref b] s) G s.heap.size 0 ls [] 0 (nw_mi L xs) (fun _ _ => 0) 0 0) s.heap [] hp0 va_S.rf
  refine cq_new F hG (Nat.le_refl _) (ci := 10) (N := 10) rfl rfl rfl (by decide) rfl tyX10_ok sb_10 sw_22 sw_23 sw_1 dw_0 (Nat.le_of_ble_eq_true rfl) (Nat.le_of_ble_eq_true rfl) ?_
  refine cq_pure (fun H locs => lv_dup hx hb dw_3 rfl) ?_
  refine cq_call F (k := 0) (As := []) (b := G.1 0) (st := [.ref (G.1 0)]) (ct_10_0 hG) sw_26 sw_1 sw_24 sw_25 rfl ⟨by decide, by decide, by decide +kernel⟩ rfl dw_4 hl.1 (by decide) (Nat.le_of_ble_eq_true rfl) (Nat.le_of_ble_eq_true rfl) (Nat.le_of_ble_eq_true rfl) (Nat.le_of_ble_eq_true rfl) (Nat.le_of_ble_eq_true rfl) ?_
  refine cq_astn F (i := 1) (lv2 := [(1, .ref (G.1 0)), (0, .ref b)]) hl (by decide) rfl dw_7 rfl (fun ls hl => ?_)
  refine cq_new F hG (Nat.le_refl _) (ci := 11) (N := 52) rfl rfl rfl (by decide) rfl tyX11_ok sb_11 sw_1211 sw_1212 sw_13 dw_8 (Nat.le_of_ble_eq_true rfl) (Nat.le_of_ble_eq_true rfl) ?_
  refine cq_pure (fun H locs => lv_dup hx hb dw_11 rfl) ?_
  refine cq_call F (k := 0) (As := []) (b := G.1 78) (st := [.ref (G.1 78)]) (ct_11_78 hG) sw_1215 sw_13 sw_1213 sw_1214 rfl ⟨by decide, by decide, by decide +kernel⟩ rfl dw_12 hl.1 (by decide) (Nat.le_of_ble_eq_true rfl) (Nat.le_of_ble_eq_true rfl) (Nat.le_of_ble_eq_true rfl) (Nat.le_of_ble_eq_true rfl) (Nat.le_of_ble_eq_true rfl) ?_
  refine cq_astn F (i := 2) (lv2 := [(2, .ref (G.1 78)), (1, .ref (G.1 0)), (0, .ref b)]) hl (by decide) rfl dw_15 rfl (fun ls hl => ?_)
  intro H locs g1 g2
  have g1 : cm_hp G s.heap.size 114 H (am_us cw_L (nw_mi L xs)) (fun _ _ => 0) := g1
  refine va_forget (fun q hq => g2.2.2 q hq) ?_
  exact law_w F2 (fun k hk => by rw [hG k hk]; exact Nat.le_add_right _ _) (Nat.le_of_ble_eq_true rfl) (Nat.le_of_ble_eq_true rfl) hL (by rw [gmi]; exact nw_mi_L) (by rw [g117]; exact lv_sub hl [2, 1, 0] rfl) (cw_hp hG g1) ⟨g2.1, fun q q1 _ => g2.2.1 q q1 (Nat.not_le.mpr q1), fun q h => (by cases h)⟩ (cw_I (fun k j hk => nw_mi_0 hk) nw_sta nw_txs)
