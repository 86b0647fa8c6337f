/-! text() makes a text: tx_ok -/
set_option maxRecDepth 1000000 in
theorem tp_inf : (Jvm.Cond.privateMethod ({ cls := "java/lang/AbstractStringBuilder", name := "inflateIfNeededFor", desc := "(Ljava/lang/String;)V" } : Jvm.MethodName)) ∈ lw_tbl := am_t1 (List.mem_of_getElem? (i := 1182) (by decide +kernel))
set_option maxRecDepth 1000000 in
theorem tq_inf : (Jvm.Cond.sameMethod "java/lang/AbstractStringBuilder" "java/lang/AbstractStringBuilder" "inflateIfNeededFor" "(Ljava/lang/String;)V") ∈ lw_tbl := am_t1 (List.mem_of_getElem? (i := 1379) (by decide +kernel))
set_option maxRecDepth 1000000 in
theorem tp_pst : (Jvm.Cond.privateMethod ({ cls := "java/lang/AbstractStringBuilder", name := "putStringAt", desc := "(ILjava/lang/String;)V" } : Jvm.MethodName)) ∈ lw_tbl := am_t1 (List.mem_of_getElem? (i := 1178) (by decide +kernel))
set_option maxRecDepth 1000000 in
theorem tq_pst : (Jvm.Cond.sameMethod "java/lang/AbstractStringBuilder" "java/lang/AbstractStringBuilder" "putStringAt" "(ILjava/lang/String;)V") ∈ lw_tbl := am_t1 (List.mem_of_getElem? (i := 1378) (by decide +kernel))
set_option maxRecDepth 1000000 in
theorem tz_1161 : (Jvm.Cond.castable "[B" "java/lang/Cloneable") ∈ lw_tbl := am_t1 (List.mem_of_getElem? (i := 1161) (by decide +kernel))
set_option maxRecDepth 1000000 in
theorem ty_do : (Jvm.Cond.laysStatic "java/lang/Integer" "DigitOnes" "[B") ∈ lw_tbl := am_t1 (List.mem_of_getElem? (i := 1322) (by decide +kernel))
set_option maxRecDepth 1000000 in
theorem ty_dt : (Jvm.Cond.laysStatic "java/lang/Integer" "DigitTens" "[B") ∈ lw_tbl := am_t1 (List.mem_of_getElem? (i := 1324) (by decide +kernel))
/-- the constants' bytes -/
def tx_by (i : Nat) : List Int32 := match i with
  | 22 => [115, 119, 100, 97, 110, 107]
  | 40 => [33]
  | 42 => [45]
  | 48 => [43, 45, 42, 47, 37, 124, 38, 60, 61, 62]
  | 50 => [40]
  | 52 => [41, 42]
  | 54 => [43, 50, 48]
  | 56 => [33, 40]
  | 58 => [60]
  | 60 => [124]
  | 62 => [61, 51, 41, 42, 51, 48, 43, 115]
  | 72 => [63]
  | 74 => [59]
  | 76 => [57, 42, 115, 43, 119, 42, 50, 48, 45, 110, 42, 50]
  | 82 => [119, 38, 110, 60, 51, 63, 54, 48, 45, 100, 59, 97, 62, 57, 63, 115, 59, 55]
  | _ => []
theorem tx_kN : ∀ q ∈ tx_ks, q.2.2 < 2 ^ 31 ∧ q.2.2 ≤ 1000 := by decide +kernel
/-- what the Statement says of one constant, of one row of digits -/
def tx_blk (i w : Nat) : List Cond := Cond.exactly (.string "DoorsForThreeLaw" i) "java/lang/String" :: Cond.eq (.field (.string "DoorsForThreeLaw" i) "java/lang/String" "coder" "B") (.int 0) :: Cond.arrayOf (.field (.string "DoorsForThreeLaw" i) "java/lang/String" "value" "[B") .byte :: Cond.eq (.length (.field (.string "DoorsForThreeLaw" i) "java/lang/String" "value" "[B")) (.int (Int32.ofNat w)) :: (List.range w).map (fun j => Cond.eq (.elem (.field (.string "DoorsForThreeLaw" i) "java/lang/String" "value" "[B") (.int (Int32.ofNat j))) (.int ((tx_by i).getD j 0)))
def tx_of (i : Nat) : Nat := match i with
  | 16 => 314
  | 22 => 318
  | 40 => 329
  | 42 => 334
  | 48 => 339
  | 50 => 353
  | 52 => 358
  | 54 => 364
  | 56 => 371
  | 58 => 377
  | 60 => 382
  | 62 => 388
  | 72 => 400
  | 74 => 406
  | 76 => 412
  | 82 => 428
  | _ => 0
set_option maxRecDepth 1000000 in
theorem tx_seg : ∀ q ∈ tx_ks, (nw_C.drop (tx_of q.1)).take (4 + q.2.2) = tx_blk q.1 q.2.2 := by decide +kernel
theorem tx_kin {q : Nat × String × Nat} (hq : q ∈ tx_ks) {w : Cond} (h : w ∈ tx_blk q.1 q.2.2) : w ∈ nw_C := List.mem_of_mem_drop (List.mem_of_mem_take (by rw [tx_seg q hq]; exact h))
theorem tx_kex : ∀ q ∈ tx_ks, Cond.exactly (.string "DoorsForThreeLaw" q.1) "java/lang/String" ∈ nw_C := fun q hq => tx_kin hq (List.mem_cons_self)
theorem tx_kco : ∀ q ∈ tx_ks, Cond.eq (.field (.string "DoorsForThreeLaw" q.1) "java/lang/String" "coder" "B") (.int 0) ∈ nw_C := fun q hq => tx_kin hq (List.mem_cons_of_mem _ List.mem_cons_self)
theorem tx_kar : ∀ q ∈ tx_ks, Cond.arrayOf (.field (.string "DoorsForThreeLaw" q.1) "java/lang/String" "value" "[B") .byte ∈ nw_C := fun q hq => tx_kin hq (List.mem_cons_of_mem _ (List.mem_cons_of_mem _ List.mem_cons_self))
theorem tx_kle : ∀ q ∈ tx_ks, Cond.eq (.length (.field (.string "DoorsForThreeLaw" q.1) "java/lang/String" "value" "[B")) (.int (Int32.ofNat q.2.2)) ∈ nw_C := fun q hq => tx_kin hq (List.mem_cons_of_mem _ (List.mem_cons_of_mem _ (List.mem_cons_of_mem _ List.mem_cons_self)))
theorem tx_kel : ∀ q ∈ tx_ks, ∀ j, j < q.2.2 → Cond.eq (.elem (.field (.string "DoorsForThreeLaw" q.1) "java/lang/String" "value" "[B") (.int (Int32.ofNat j))) (.int ((tx_by q.1).getD j 0)) ∈ nw_C := fun q hq j hj => tx_kin hq (List.mem_cons_of_mem _ (List.mem_cons_of_mem _ (List.mem_cons_of_mem _ (List.mem_cons_of_mem _ (List.mem_map_of_mem (f := fun j => Cond.eq (.elem (.field (.string "DoorsForThreeLaw" q.1) "java/lang/String" "value" "[B") (.int (Int32.ofNat j))) (.int ((tx_by q.1).getD j 0))) (List.mem_range.mpr hj))))))
set_option maxRecDepth 1000000 in
theorem tx_kft : ∀ q ∈ tx_ks, ∀ j, j < q.2.2 → fits .byte (.int ((tx_by q.1).getD j 0)) = true := by decide +kernel
set_option maxRecDepth 1000000 in
theorem tx_kR : ([1094, 1217, 1333, 1334, 1335, 1336, 1337, 1338, 1339, 1340, 1341, 1342, 1343, 1344, 1345, 1347] : List Nat).map (fun i => tables_1[i]?) = (tx_ks.map (fun q => Cond.stringRef "DoorsForThreeLaw" q.1 q.2.1)).map some := by decide +kernel
def tx_dg (k j : Nat) : Int32 := if k = 0 then Int32.ofNat (48 + j % 10) else Int32.ofNat (48 + j / 10)
def tx_dn (k : Nat) : String := if k = 0 then "DigitOnes" else "DigitTens"
def tx_dblk (k : Nat) : List Cond := Cond.arrayOf (.static "java/lang/Integer" (tx_dn k) "[B") .byte :: Cond.eq (.length (.static "java/lang/Integer" (tx_dn k) "[B")) (.int (Int32.ofNat 100)) :: (List.range 100).map (fun j => Cond.eq (.elem (.static "java/lang/Integer" (tx_dn k) "[B") (.int (Int32.ofNat j))) (.int (tx_dg k j)))
set_option maxRecDepth 1000000 in
theorem tx_dseg : ∀ k, k < 2 → (nw_C.drop (if k = 0 then 47 else 150)).take 102 = tx_dblk k := by decide +kernel
theorem tx_din {k : Nat} (hk : k < 2) {w : Cond} (h : w ∈ tx_dblk k) : w ∈ nw_C := List.mem_of_mem_drop (List.mem_of_mem_take (by rw [tx_dseg k hk]; exact h))
theorem tx_da : ∀ k, k < 2 → Cond.arrayOf (.static "java/lang/Integer" (tx_dn k) "[B") .byte ∈ nw_C := fun k hk => tx_din hk List.mem_cons_self
theorem tx_dl : ∀ k, k < 2 → Cond.eq (.length (.static "java/lang/Integer" (tx_dn k) "[B")) (.int (Int32.ofNat 100)) ∈ nw_C := fun k hk => tx_din hk (List.mem_cons_of_mem _ List.mem_cons_self)
theorem tx_de : ∀ k, k < 2 → ∀ j, j < 100 → Cond.eq (.elem (.static "java/lang/Integer" (tx_dn k) "[B") (.int (Int32.ofNat j))) (.int (tx_dg k j)) ∈ nw_C := fun k hk j hj => tx_din hk (List.mem_cons_of_mem _ (List.mem_cons_of_mem _ (List.mem_map_of_mem (f := fun j => Cond.eq (.elem (.static "java/lang/Integer" (tx_dn k) "[B") (.int (Int32.ofNat j))) (.int (tx_dg k j))) (List.mem_range.mpr hj))))
theorem tx_okk (l : Launch) : tx_ok l := by
  intro p e s m below meth c b L xs Q H ls st cs ss C0 hL hgr hls hsum hcs hss kk
  obtain ⟨mk, φ, δ, κ, hcx, hmk⟩ := nw_start hL C0
  obtain ⟨hx, hb, hr, hml, hown, hts, hX, hbl, hlocks, hgv⟩ := id C0
  have hC : ∀ w ∈ nw_C, w.before #[Value.ref b] s = true := flat_of_before _ hgv
  have hT : ∀ w ∈ tables_1, w.before #[Value.ref b] s = true := fun w h => hts w (am_t1 h)
  have hA : ∀ a : Nat, a < s.heap.size → ¬ cm_A s.heap.size a := fun a h => Nat.not_le.mpr h
  have hown2 : s.vm.findClass "DoorsForThreeLaw" = some m.cls := hown
  have F : sb_fr p s m #[Value.ref b] meth c "DoorsForThreeLaw" code 18 ret := by
    refine ⟨hx, hb, hml, hr, hlocks, fun w hw => ?_, hown2⟩
    rcases List.mem_append.mp hw with h | h
    · simp only [sb_sels, List.mem_cons, List.not_mem_nil, or_false] at h
      rcases h with h | h | h | h <;> subst h
      · exact sb_selp hts ⟨by decide, by decide⟩ tp_ens tm_ens tq_ens
      · exact sb_selp hts ⟨by decide, by decide⟩ tp_ncap tm_ncap tq_ncap
      · exact sb_selp hts ⟨by decide, by decide⟩ tp_pst tm_pst tq_pst
      · exact sb_selp hts ⟨by decide, by decide⟩ tp_inf tm_inf tq_inf
    · exact hts w (List.mem_filter.mp h).1
  obtain ⟨-, -, -, -, -, hK0, -⟩ := hmk s.heap.size 0 (Nat.le_refl _)
  obtain ⟨cB, kB, pB, i1, i2, i3⟩ := Cond.arrayClass_spec (hts _ ta_byte)
  generalize (mk s.heap.size 0).2.1 = D at hK0
  have hK : sb_K D cB s := by
    refine ⟨hK0.1, fun k q hq => ?_⟩
    match k, hq with
    | 0, hq =>
      have hq : some (cB, FieldType.byte) = some q := hq
      cases hq
      exact ⟨fun n z => ⟨fun k h => (by cases h), kB, i2, pB, i3⟩, i1⟩
    | k + 1, hq =>
      have hq : (none : Option (ClassId × FieldType)) = some q := hq
      cases hq
  have hXs : sb_X s.heap.size s s.heap := ⟨va_Zof (hts _ sw_513) (hts _ sw_15) (va_eqi (hC _ nw_cs)) hA, va_Zqof (hts _ sw_514) (hts _ sw_16) (hC _ nw_fm) hA, va_Nw.of rfl (hts _ tz_1161)⟩
  have hdg : ∀ k, k < 2 → (Cond.laysStatic "java/lang/Integer" (tx_dn k) "[B").before #[Value.ref b] s = true → sb_di1 s.heap.size (tx_dn k) s s.heap := by
    intro k hk hl
    obtain ⟨t, ht, hT2⟩ := va_Tof (f := fun j => .int (tx_dg k j)) (A := cm_A s.heap.size) (N := 100) (by decide) (hC _ (tx_da k hk)) (va_eqt (hC _ (tx_dl k hk))) (fun j hj => va_eqt (hC _ (tx_de k hk j hj))) hA
    exact ⟨t, tx_dg k, va_Zref hl (hts _ ti_I) ht hA, hT2⟩
  have hD : sb_di s.heap.size s s.heap := ⟨hdg 0 (by omega) (hts _ ty_do), hdg 1 (by omega) (hts _ ty_dt)⟩
  have hW0 : tx_W D cB s.heap.size s s.heap := by
    refine ⟨hK, hXs, hD, fun q hq => ?_⟩
    obtain ⟨a, v, h1, h2, h3, h4, h5⟩ := nw_one (args := #[Value.ref b]) (tx_kN q hq).1 (hC _ (tx_kex q hq)) (hC _ (tx_kco q hq)) (hC _ (tx_kar q hq)) (hC _ (tx_kle q hq)) (fun j hj => hC _ (tx_kel q hq j hj))
    have na : a < s.heap.size := by
      obtain ⟨c1, g1, -⟩ := h2
      exact (Array.getElem?_eq_some_iff.mp g1).1
    have nv : v < s.heap.size := by
      obtain ⟨c1, g1, -⟩ := h5
      exact (Array.getElem?_eq_some_iff.mp g1).1
    refine ⟨a, v, vk_R.of (A := #[Value.ref b]) (hT _ (am_uses tx_kR _ (List.mem_map_of_mem (f := fun q : Nat × String × Nat => Cond.stringRef "DoorsForThreeLaw" q.1 q.2.1) hq))) ((Term.string_eval_of_vm rfl).trans h1), ⟨_, (tx_kN q hq).2, tx_oO h2 id, tx_oF h3 id, tx_oF h4 id, tx_oT h5 id, tx_kft q hq⟩, na, nv⟩
  have hW : tx_W D cB s.heap.size s H := tx_W_h (fun q h _ => hgr.2 q h) hW0
  obtain ⟨scr, x1, x2, x3, x4, x5⟩ := hX
  have hTs : va_T .int b L (fun j => .int (xs j)) (fun _ => False) s H := ⟨scr, (hgr.2 b hbl).trans x1, x2, x3, by omega, by rw [x4] <;> rfl, x5, id⟩
  have e20 : (20 : Int32) = nI 20 := by decide
  rw [e20]
  refine sb_callS (B0 := s.heap.size) (As := [.ref b, .int (nI 20)]) (st := st) (k := 2) (d := 9) (mc := 300) (ms := 600000) F (tx_text (l := l) (B0 := s.heap.size) (D := D) (cB := cB) (xs := xs) hL (by omega)) tc_text ti_L tl_L180 tS_text ⟨by decide, by decide, by decide +kernel⟩ rfl dk_109 hls (by decide) (Nat.le_trans hsum (by omega)) (Nat.le_of_ble_eq_true rfl) (Nat.le_of_ble_eq_true rfl) (lw_rc (by omega)) (lw_rs (by omega)) ?_ (fun U hU hW2 => ?_) (fun q hq => by cases hq) ?_
  · intro U V h1 h2 q
    exact ⟨tx_Wpv U V h1 h2 q.1, by
      rw [h2]
      exact va_T.moved (by rw [h1]; exact Vm.Alike.refl _) q.2⟩
  · refine ⟨tx_Wgo hW hgr.1 hU hW2, ?_⟩
    rw [hU]
    exact va_T.moved hW2.alike hTs
  · intro x st0 t locs1 e0 q1 hal z o hL1
    obtain ⟨q, v, w, q1, q2, q3, q4, q5⟩ := q1
    subst q1
    rw [e0] at q3 q4
    obtain ⟨f, k1, k2, k3, k4, k5, k6⟩ := sv_on hal.symm rfl rfl q5
    refine va_forget (fun q hq => hL1 q hq) (W.widen (k := cs + 2000) (n := ss + 700000) (by omega) (by omega) ?_)
    exact kk t.heap q v w f z (fun q hq => o q hq (fun w => w)) ⟨q3, q4, k1, k2, k3, k4, k5⟩
