/-! text(): the builder grows -/
theorem dJ7_copyOf_9075b_0 : decode cJ7_copyOf_9075b 0 = .ok (.iload_n 1, 1) := by decide +kernel
theorem dJ7_copyOf_9075b_1 : decode cJ7_copyOf_9075b 1 = .ok (.aload_n 0, 1) := by decide +kernel
theorem dJ7_copyOf_9075b_2 : decode cJ7_copyOf_9075b 2 = .ok (.arraylength, 1) := by decide +kernel
theorem dJ7_copyOf_9075b_3 : decode cJ7_copyOf_9075b 3 = .ok (.if_icmp .ne 11, 3) := by decide +kernel
theorem dJ7_copyOf_9075b_6 : decode cJ7_copyOf_9075b 6 = .ok (.aload_n 0, 1) := by decide +kernel
theorem dJ7_copyOf_9075b_7 : decode cJ7_copyOf_9075b 7 = .ok (.invokevirtual 310, 3) := by decide +kernel
theorem dJ7_copyOf_9075b_10 : decode cJ7_copyOf_9075b 10 = .ok (.checkcast 311, 3) := by decide +kernel
theorem dJ7_copyOf_9075b_13 : decode cJ7_copyOf_9075b 13 = .ok (.areturn, 1) := by decide +kernel
theorem dJ7_copyOf_9075b_14 : decode cJ7_copyOf_9075b 14 = .ok (.iload_n 1, 1) := by decide +kernel
theorem dJ7_copyOf_9075b_15 : decode cJ7_copyOf_9075b 15 = .ok (.newarray .byte, 2) := by decide +kernel
theorem dJ7_copyOf_9075b_17 : decode cJ7_copyOf_9075b 17 = .ok (.astore_n 2, 1) := by decide +kernel
theorem dJ7_copyOf_9075b_18 : decode cJ7_copyOf_9075b 18 = .ok (.aload_n 0, 1) := by decide +kernel
theorem dJ7_copyOf_9075b_19 : decode cJ7_copyOf_9075b 19 = .ok (.iconst 0, 1) := by decide +kernel
theorem dJ7_copyOf_9075b_20 : decode cJ7_copyOf_9075b 20 = .ok (.aload_n 2, 1) := by decide +kernel
theorem dJ7_copyOf_9075b_21 : decode cJ7_copyOf_9075b 21 = .ok (.iconst 0, 1) := by decide +kernel
theorem dJ7_copyOf_9075b_22 : decode cJ7_copyOf_9075b 22 = .ok (.aload_n 0, 1) := by decide +kernel
theorem dJ7_copyOf_9075b_23 : decode cJ7_copyOf_9075b 23 = .ok (.arraylength, 1) := by decide +kernel
theorem dJ7_copyOf_9075b_24 : decode cJ7_copyOf_9075b 24 = .ok (.iload_n 1, 1) := by decide +kernel
theorem dJ7_copyOf_9075b_25 : decode cJ7_copyOf_9075b 25 = .ok (.invokestatic 304, 3) := by decide +kernel
theorem dJ7_copyOf_9075b_28 : decode cJ7_copyOf_9075b 28 = .ok (.invokestatic 150, 3) := by decide +kernel
theorem dJ7_copyOf_9075b_31 : decode cJ7_copyOf_9075b 31 = .ok (.aload_n 2, 1) := by decide +kernel
theorem dJ7_copyOf_9075b_32 : decode cJ7_copyOf_9075b 32 = .ok (.areturn, 1) := by decide +kernel
theorem dJ5_ensureCapacityInternal_d00df_0 : decode cJ5_ensureCapacityInternal_d00df 0 = .ok (.aload_n 0, 1) := by decide +kernel
theorem dJ5_ensureCapacityInternal_d00df_1 : decode cJ5_ensureCapacityInternal_d00df 1 = .ok (.getfield 15, 3) := by decide +kernel
theorem dJ5_ensureCapacityInternal_d00df_4 : decode cJ5_ensureCapacityInternal_d00df 4 = .ok (.arraylength, 1) := by decide +kernel
theorem dJ5_ensureCapacityInternal_d00df_5 : decode cJ5_ensureCapacityInternal_d00df 5 = .ok (.aload_n 0, 1) := by decide +kernel
theorem dJ5_ensureCapacityInternal_d00df_6 : decode cJ5_ensureCapacityInternal_d00df 6 = .ok (.getfield 22, 3) := by decide +kernel
theorem dJ5_ensureCapacityInternal_d00df_9 : decode cJ5_ensureCapacityInternal_d00df 9 = .ok (.ishr, 1) := by decide +kernel
theorem dJ5_ensureCapacityInternal_d00df_10 : decode cJ5_ensureCapacityInternal_d00df 10 = .ok (.istore_n 2, 1) := by decide +kernel
theorem dJ5_ensureCapacityInternal_d00df_11 : decode cJ5_ensureCapacityInternal_d00df 11 = .ok (.iload_n 1, 1) := by decide +kernel
theorem dJ5_ensureCapacityInternal_d00df_12 : decode cJ5_ensureCapacityInternal_d00df 12 = .ok (.iload_n 2, 1) := by decide +kernel
theorem dJ5_ensureCapacityInternal_d00df_13 : decode cJ5_ensureCapacityInternal_d00df 13 = .ok (.isub, 1) := by decide +kernel
theorem dJ5_ensureCapacityInternal_d00df_14 : decode cJ5_ensureCapacityInternal_d00df 14 = .ok (.ifCond .le 24, 3) := by decide +kernel
theorem dJ5_ensureCapacityInternal_d00df_17 : decode cJ5_ensureCapacityInternal_d00df 17 = .ok (.aload_n 0, 1) := by decide +kernel
theorem dJ5_ensureCapacityInternal_d00df_18 : decode cJ5_ensureCapacityInternal_d00df 18 = .ok (.aload_n 0, 1) := by decide +kernel
theorem dJ5_ensureCapacityInternal_d00df_19 : decode cJ5_ensureCapacityInternal_d00df 19 = .ok (.getfield 15, 3) := by decide +kernel
theorem dJ5_ensureCapacityInternal_d00df_22 : decode cJ5_ensureCapacityInternal_d00df 22 = .ok (.aload_n 0, 1) := by decide +kernel
theorem dJ5_ensureCapacityInternal_d00df_23 : decode cJ5_ensureCapacityInternal_d00df 23 = .ok (.iload_n 1, 1) := by decide +kernel
theorem dJ5_ensureCapacityInternal_d00df_24 : decode cJ5_ensureCapacityInternal_d00df 24 = .ok (.invokevirtual 104, 3) := by decide +kernel
theorem dJ5_ensureCapacityInternal_d00df_27 : decode cJ5_ensureCapacityInternal_d00df 27 = .ok (.aload_n 0, 1) := by decide +kernel
theorem dJ5_ensureCapacityInternal_d00df_28 : decode cJ5_ensureCapacityInternal_d00df 28 = .ok (.getfield 22, 3) := by decide +kernel
theorem dJ5_ensureCapacityInternal_d00df_31 : decode cJ5_ensureCapacityInternal_d00df 31 = .ok (.ishl, 1) := by decide +kernel
theorem dJ5_ensureCapacityInternal_d00df_32 : decode cJ5_ensureCapacityInternal_d00df 32 = .ok (.invokestatic 108, 3) := by decide +kernel
theorem dJ5_ensureCapacityInternal_d00df_35 : decode cJ5_ensureCapacityInternal_d00df 35 = .ok (.putfield 15, 3) := by decide +kernel
theorem dJ5_ensureCapacityInternal_d00df_38 : decode cJ5_ensureCapacityInternal_d00df 38 = .ok (.return_, 1) := by decide +kernel
set_option maxRecDepth 1000000 in
theorem tc_cpo : (Jvm.Cond.code ({ cls := "java/util/Arrays", name := "copyOf", desc := "([BI)[B" } : Jvm.MethodName) prog_25_method_121_code (3 : Nat) (Option.some (Jvm.ClassFile.FieldType.array Jvm.ClassFile.FieldType.byte))) ∈ lw_tbl := am_t1 (List.mem_of_getElem? (i := 1155) (by decide +kernel))
set_option maxRecDepth 1000000 in
theorem tc_ens : (Jvm.Cond.code ({ cls := "java/lang/AbstractStringBuilder", name := "ensureCapacityInternal", desc := "(I)V" } : Jvm.MethodName) prog_14_method_9_code (3 : Nat) (Option.none : Option Jvm.ClassFile.FieldType)) ∈ lw_tbl := am_t1 (List.mem_of_getElem? (i := 1139) (by decide +kernel))
set_option maxRecDepth 1000000 in
theorem ti_AR : (Jvm.Cond.initialized "java/util/Arrays") ∈ lw_tbl := am_t1 (List.mem_of_getElem? (i := 10) (by decide +kernel))
set_option maxRecDepth 1000000 in
theorem tl_A108 : (Jvm.Cond.methodLink "java/lang/AbstractStringBuilder" (108 : Nat) ({ cls := "java/util/Arrays", name := "copyOf", desc := "([BI)[B" } : Jvm.MethodName)) ∈ lw_tbl := am_t1 (List.mem_of_getElem? (i := 1153) (by decide +kernel))
set_option maxRecDepth 1000000 in
theorem tS_cpo : (Jvm.Cond.static ({ cls := "java/util/Arrays", name := "copyOf", desc := "([BI)[B" } : Jvm.MethodName)) ∈ lw_tbl := am_t1 (List.mem_of_getElem? (i := 1154) (by decide +kernel))
set_option maxRecDepth 1000000 in
theorem tl_A104 : (Jvm.Cond.methodLink "java/lang/AbstractStringBuilder" (104 : Nat) ({ cls := "java/lang/AbstractStringBuilder", name := "newCapacity", desc := "(I)I" } : Jvm.MethodName)) ∈ lw_tbl := am_t1 (List.mem_of_getElem? (i := 1140) (by decide +kernel))
set_option maxRecDepth 1000000 in
theorem tp_ncap : (Jvm.Cond.privateMethod ({ cls := "java/lang/AbstractStringBuilder", name := "newCapacity", desc := "(I)I" } : Jvm.MethodName)) ∈ lw_tbl := am_t1 (List.mem_of_getElem? (i := 1141) (by decide +kernel))
set_option maxRecDepth 1000000 in
theorem tq_ncap : (Jvm.Cond.sameMethod "java/lang/AbstractStringBuilder" "java/lang/AbstractStringBuilder" "newCapacity" "(I)I") ∈ lw_tbl := am_t1 (List.mem_of_getElem? (i := 1377) (by decide +kernel))
set_option maxRecDepth 1000000 in
theorem tm_ens : (Jvm.Cond.instanceMethod ({ cls := "java/lang/AbstractStringBuilder", name := "ensureCapacityInternal", desc := "(I)V" } : Jvm.MethodName)) ∈ lw_tbl := am_t1 (List.mem_of_getElem? (i := 1138) (by decide +kernel))
set_option maxRecDepth 1000000 in
theorem tp_ens : (Jvm.Cond.privateMethod ({ cls := "java/lang/AbstractStringBuilder", name := "ensureCapacityInternal", desc := "(I)V" } : Jvm.MethodName)) ∈ lw_tbl := am_t1 (List.mem_of_getElem? (i := 1137) (by decide +kernel))
set_option maxRecDepth 1000000 in
theorem tq_ens : (Jvm.Cond.sameMethod "java/lang/AbstractStringBuilder" "java/lang/AbstractStringBuilder" "ensureCapacityInternal" "(I)V") ∈ lw_tbl := am_t1 (List.mem_of_getElem? (i := 1376) (by decide +kernel))
set_option maxRecDepth 1000000 in
theorem tn_B : (Jvm.Cond.instantiable "java/lang/StringBuilder" (4 : Nat)) ∈ lw_tbl := am_t1 (List.mem_of_getElem? (i := 1096) (by decide +kernel))
set_option maxRecDepth 1000000 in
theorem ta_byte : (Jvm.Cond.arrayClass Jvm.ClassFile.FieldType.byte) ∈ lw_tbl := am_t1 (List.mem_of_getElem? (i := 579) (by decide +kernel))
set_option maxRecDepth 1000000 in
theorem tl_AR150 : (Jvm.Cond.methodLink "java/util/Arrays" (150 : Nat) ({ cls := "java/lang/System", name := "arraycopy", desc := "(Ljava/lang/Object;ILjava/lang/Object;II)V" } : Jvm.MethodName)) ∈ lw_tbl := am_t1 (List.mem_of_getElem? (i := 1164) (by decide +kernel))
set_option maxRecDepth 1000000 in
theorem tl_AR304 : (Jvm.Cond.methodLink "java/util/Arrays" (304 : Nat) ({ cls := "java/lang/Math", name := "min", desc := "(II)I" } : Jvm.MethodName)) ∈ lw_tbl := am_t1 (List.mem_of_getElem? (i := 1163) (by decide +kernel))
section SP95
variable {p : Program} {l : Launch} {e : Env} {Rm : Room} {s : State} {m : MethodId} {args : Array Value} {below : List Frame} {meth : Method} {c : Code} {Q : State → Prop} {H : Heap} {locs : List Loc} {cs ss pc B0 : Nat} {ls : Array Slot}
variable {own : String} {bc : ByteArray} {nL : Nat} {rt : Option FieldType} {st : List Value} {D : va_G} {cB : ClassId} {a v n mm : Nat}
/-- at the law's entry: a private method of the builder's superclass is what is selected -/
theorem sb_selp {y : MethodName} (hts : ∀ w ∈ lw_tbl, w.before args s = true) (hy : y.cls ≠ "java/lang/invoke/MethodHandle" ∧ y.cls ≠ "java/lang/invoke/VarHandle") (hpriv : Cond.privateMethod y ∈ lw_tbl) (hinst : Cond.instanceMethod y ∈ lw_tbl) (hsame : Cond.sameMethod y.cls y.cls y.name y.desc ∈ lw_tbl) : (Cond.selects "java/lang/StringBuilder" y y).before args s = true := by
  obtain ⟨c, k, hc, hk, -, hniab, -, -⟩ := Cond.instantiable_spec (hts _ tn_B)
  obtain ⟨mk, methM, hnamed, hmethM, -, -⟩ := Cond.instanceMethod_spec (hts _ hinst)
  have hfound : s.methodFound? y.cls y.name y.desc = some mk := State.methodFound?_of_named hnamed hy
  have hcls := findClass_of_methodNamed hnamed
  have hsel : selectMethod {} s.vm c mk = .method mk := selectMethod_private hmethM (Cond.privateMethod_at (hts _ hpriv) mk methM hnamed hmethM)
  have h2 := hts _ hsame
  have hnamed2 : s.methodNamed? ⟨y.cls, y.name, y.desc⟩ = some mk := hnamed
  simp only [Cond.before, Cond.holds, Cond.value, hcls, hfound, hnamed2] at h2
  simp only [Cond.before, Cond.holds, Cond.value, hc, hfound, hnamed, hsel]
  simpa using h2
/-- a field of the builder is written -/
theorem sb_p (F : sb_fr p s m args meth c own bc nL rt) {index : Nat} {fs : List Value} {x : Value} (hK : sb_K D cB s) (hP : va_P D vwCl [(a, .inr (12, fs))] H) (k : Nat) (hk : k < 4) (hT : (TJ4 k).1 = "java/lang/AbstractStringBuilder") (hfin : (TJ4 k).2.2.2 = false) {ty : FieldType} (hd : parseFieldDescriptor (TJ4 k).2.2.1 = some ty) (hn : narrow ty x = x) (hfit : fits ty x = true) (hl : k < fs.length) (hlink : Cond.fieldLink own index "java/lang/AbstractStringBuilder" (TJ4 k).2.1 (TJ4 k).2.2.1 ∈ lw_tbl) (hdg : decode bc pc = .ok (.putfield index, 3))
    (kk : ∀ (H1 : Heap) (i : Nat), va_P D vwCl [(a, .inr (12, fs.set k x))] H1 → H1.size = H.size → (∀ q, q ≠ a → H1[q]? = H[q]?) → W p l e Rm s m args below meth c H1 (locs ++ [⟨a, i⟩]) cs ss Q (F0 m (pc + 3) ls st)) : W p l e Rm s m args below meth c H locs cs ss Q (F0 m pc ls (x :: .ref a :: st)) := by
  obtain ⟨hx, hb, hml, hr, hlocks, hts, hown⟩ := F
  have hc : vwCl[12]? = some (RJ4, TJ4, 4) := rfl
  obtain ⟨u1, ⟨ty0, u2⟩, u3⟩ := am_vw hc
  have he : ([(a, .inr (12, fs))] : va_W)[0]? = some (a, .inr (12, fs)) := rfl
  have hD : va_D (fun q => q = a) ([(a, .inr (12, fs))] : va_W) := by
    refine ⟨fun i j p q hi hj _ => ?_, fun k q hk => ?_⟩
    · have h1 := (List.getElem?_eq_some_iff.mp hi).1
      have h2 := (List.getElem?_eq_some_iff.mp hj).1
      simp at h1 h2
      omega
    · have h1 := (List.getElem?_eq_some_iff.mp hk).1
      simp at h1
      subst h1
      cases hk
      rfl
  have hap := va_apart (own := own) (fun w hw => hts w (sb_am hw)) u1 ty0 u2 u3 hK hc
  obtain ⟨r, h1, cell, q1, q2, q3, q4⟩ := hP 0 _ he
  have hr : r = (RJ4, TJ4, 4) := Option.some.inj (h1.symm.trans hc)
  subst hr
  obtain ⟨hS, hfc, kC, hkC, hkind⟩ := hK.1 12 _ hc
  obtain ⟨cf, kf, fi, f, hi, hsl⟩ := hS k hk
  have hlay := hts _ (sb_am (u1 _ (u_in_lay hk)))
  unfold u_lay at hlay
  rw [if_neg (by rw [hfin]; decide)] at hlay
  have hst := (u_facts hfc hkC (u_lays (fun w hw => hts w (sb_am hw)) u1 hk) hi).1
  have h6 := u_store hfc hkC hkind hlay hi hd hn hfit
  have hi2 : s.fieldFound? "java/lang/AbstractStringBuilder" (TJ4 k).2.1 (TJ4 k).2.2.1 = some (cf, kf, fi, f) := by
    have z := hi
    rw [hT] at z
    exact z
  refine W.putK hx hb (f := f) ⟨hown, hts _ (sb_tb_i hlink rfl), ⟨_, _, _, hi2⟩, hst⟩ (by rw [q2]; exact h6) q1 q3 (by rw [hsl]; exact k2_hasslot (q4 k hk)) rfl rfl hdg fun H' e1 e2 e3 => ?_
  rw [hsl] at e1 ⊢
  exact kk H' _ (hP.set hD he ⟨_, hc, t_OB.to (V := updV (vp_V fs) k x) ⟨_, e1, q2, q3, t_set q4 hap hk x⟩ (fun j _ => vp_updV_set hl x j)⟩ e3) e2 e3
/-- Arrays.copyOf, longer -/
theorem tx_cpo {q : Nat} (hB0 : B0 ≤ v) (h : mm < q) (hq : q ≤ 4096) : sb_met l B0 yJ7_copyOf_9075b cJ7_copyOf_9075b 3 (some (.array .byte)) 2 1 4096 [.ref v, .int (nI q)] (fun U => sb_K D cB U ∧ sb_Y cB v mm U.heap) (fun x st t => x = some (.ref st.heap.size) ∧ sb_Y cB st.heap.size q t.heap) sb_no := by
  refine sb_of (by decide) (fun p e s m below meth c F hP => ?_)
  obtain ⟨hx, hb, hml, hr, hlocks, hts, hown⟩ := id F
  obtain ⟨hK, hY⟩ := hP
  obtain ⟨f, y1, y2⟩ := id hY
  have hvl : v < s.heap.size := (Array.getElem?_eq_some_iff.mp y1).1
  have hl := lv_entry ([.ref v, .int (nI q)]) (n := 3) (Nat.le_of_ble_eq_true rfl)
  rw [lg_entry_eq]
  generalize (lg_sl ([.ref v, .int (nI q)]) ++ List.replicate (3 - (lg_sl ([.ref v, .int (nI q)])).length) Slot.unset).toArray = ls at hl ⊢
  have hl : lv_has ls 3 [(0, .ref v), (1, .int (nI q))] := hl
  refine lv_iload_n hx hb dJ7_copyOf_9075b_0 rfl (lv_at hl 1 rfl) ?_
  refine lv_aload_n hx hb dJ7_copyOf_9075b_1 rfl (lv_at hl 0 rfl) ?_
  refine sb_yl F hK hY dJ7_copyOf_9075b_2 ?_
  refine lv_icmp_ne (tgt := 14) hx hb dJ7_copyOf_9075b_3 rfl (fun _ => ?_) (fun w => absurd ((nI_eq (by omega) (by omega)).mp w) (by omega))
  refine lv_iload_n hx hb dJ7_copyOf_9075b_14 rfl (lv_at hl 1 rfl) ?_
  refine va_newaK (atype := .byte) hx hb (hts _ (sb_am (List.mem_filter.mpr ⟨ta_byte, rfl⟩))) rfl dJ7_copyOf_9075b_15 rfl (dq_p (by omega)) (N := q) (nI_clamp (by omega)) (by show q * 1 ≤ 536870912; omega) (show 0 + 1 ≤ 1 by omega) (show 0 + q ≤ 4096 by omega) rfl fun H1 cA e1 z1 o1 hAr hNm => ?_
  have ec : cA = cB := Option.some.inj (hNm.symm.trans (hK.2 0 _ rfl).2)
  rw [ec] at e1
  refine lv_astore_n (lv' := [(2, .ref s.heap.size), (0, .ref v), (1, .int (nI q))]) hx hb dJ7_copyOf_9075b_17 rfl hl (by decide) rfl (fun ls hl => ?_)
  refine lv_aload_n hx hb dJ7_copyOf_9075b_18 rfl (lv_at hl 1 rfl) ?_
  refine lv_iconst (v := 0) hx hb dJ7_copyOf_9075b_19 rfl ?_
  refine lv_aload_n hx hb dJ7_copyOf_9075b_20 rfl (lv_at hl 0 rfl) ?_
  refine lv_iconst (v := 0) hx hb dJ7_copyOf_9075b_21 rfl ?_
  refine lv_aload_n hx hb dJ7_copyOf_9075b_22 rfl (lv_at hl 1 rfl) ?_
  have y1' : H1[v]? = some (vp_cell cB (mm, .inl f)) := (o1 v hvl).trans y1
  refine sb_yl F hK ⟨f, y1', y2⟩ dJ7_copyOf_9075b_23 ?_
  refine lv_iload_n hx hb dJ7_copyOf_9075b_24 rfl (lv_at hl 2 rfl) ?_
  refine va_mmin (R := sb_room 2 1 4096) (rest := [.int 0, .ref s.heap.size, .int 0, .ref v]) hx hb (hml.trans hl.1.symm) hown (hts _ (sb_tb_i tl_AR304 rfl)) (hts _ (sb_tb_i (am_t1 am_mx3) rfl)) (hts _ (sb_tb_i (am_t1 am_mx5) rfl)) (hts _ (sb_tb_i (am_t1 am_mx4) rfl)) (show 1 ≤ 2 by omega) (show (1 + (1 + (1 + (1 + 0)))) + 13 ≤ 80 by omega) (show 0 + 1 ≤ 1 by omega) (show 0 + q ≤ 4096 by omega) dJ7_copyOf_9075b_25 ?_
  rw [if_neg (fun w => by have := (dq_lt (by omega) (by omega)).mp w; omega)]
  have ew : ∀ (k : Nat) (x : Nat × va_E), ([(v, .inl (cB, mm, .inl f)), (s.heap.size, .inl (cB, q, .inl (fun _ => 0)))] : va_W)[k]? = some x → (k = 0 ∧ x = (v, .inl (cB, mm, .inl f))) ∨ (k = 1 ∧ x = (s.heap.size, .inl (cB, q, .inl (fun _ => 0)))) := fun k x hk => by
    match k, hk with
    | 0, hk => cases hk; exact Or.inl ⟨rfl, rfl⟩
    | 1, hk => cases hk; exact Or.inr ⟨rfl, rfl⟩
    | k + 2, hk => cases hk
  have hP1 : va_P D vwCl [(v, .inl (cB, mm, .inl f)), (s.heap.size, .inl (cB, q, .inl (fun _ => 0)))] H1 := fun k x hk => by
    rcases ew k x hk with ⟨_, rfl⟩ | ⟨_, rfl⟩
    · exact y1'
    · exact e1
  have hD1 : va_D (fun x => x = v ∨ x = s.heap.size) ([(v, .inl (cB, mm, .inl f)), (s.heap.size, .inl (cB, q, .inl (fun _ => 0)))] : va_W) := by
    refine ⟨fun i j x y hi hj ee => ?_, fun k x hk => ?_⟩
    · rcases ew i x hi with ⟨i1, rfl⟩ | ⟨i1, rfl⟩ <;> rcases ew j y hj with ⟨j1, rfl⟩ | ⟨j1, rfl⟩
      · omega
      · have ee : v = s.heap.size := ee
        omega
      · have ee : s.heap.size = v := ee
        omega
      · omega
    · rcases ew k x hk with ⟨_, rfl⟩ | ⟨_, rfl⟩
      · exact Or.inl rfl
      · exact Or.inr rfl
  have c0 : (0 : Int32).toNatClampNeg = 0 := by decide
  refine va_copyi (R := sb_room 2 1 4096) (rest := []) hx hb (hml.trans hl.1.symm) hown (hts _ (sb_tb_i tl_AR150 rfl)) (hts _ (sb_tb_i (am_t1 am_mx7) rfl)) (hts _ (sb_tb_i (am_t1 am_mx6) rfl)) (hts _ (sb_tb_i (am_t1 am_mx8) rfl)) hK hP1 hD1 (show va_S _ H1 H1 [] from ⟨Nat.le_refl _, fun _ _ _ => rfl, fun q hq => by cases hq⟩) 0 1 0 0 rfl rfl rfl rfl rfl (by decide) (by decide) (dq_p (by omega)) (by rw [c0, nI_clamp (by omega)]; omega) (by rw [c0, nI_clamp (by omega)]; omega) (fun i _ => y2 _) (show 1 ≤ 2 by omega) (by decide) dJ7_copyOf_9075b_28 (fun H2 locs2 f1 f2 f3 => ?_)
  refine lv_aload_n hx hb dJ7_copyOf_9075b_31 rfl (lv_at hl 0 rfl) ?_
  have hs2 : s.heap.size + 1 ≤ H2.size := by have := f3.1; omega
  have k2 : ∀ x, x < s.heap.size → H2[x]? = s.heap[x]? := fun x hx2 => by
    by_cases ex : x = v
    · subst ex
      have z : H2[x]? = some (vp_cell cB (mm, .inl f)) := f1 0 _ rfl
      rw [z, y1]
    · exact (f3.2.1 x (by omega) (fun w => by omega)).trans (o1 x hx2)
  refine W.widen (k := 1) (n := 4096) (show 0 + 1 ≤ 1 by omega) (show 0 + q ≤ 4096 by omega) ?_
  refine W.aret hx hb hr (Or.inr ⟨_, rfl⟩) (Or.inr ⟨_, rfl⟩) (fun t e1 e2 => ⟨_, rfl, ⟨rfl, ?_⟩, by rw [e1]; omega, fun q h1 _ => by rw [e1]; exact k2 q h1⟩) (fun q hq => ?_) dJ7_copyOf_9075b_32
  · have h1 : B0 ≤ v := hB0
    rcases f3.2.2 q hq with w | w
    · show B0 ≤ q.base
      omega
    · show B0 ≤ q.base
      omega
  · rw [e1]
    refine ⟨_, f1 1 _ rfl, fun j => ?_⟩
    unfold va_cpy
    split
    · exact y2 _
    · show fits .byte (.int 0) = true
      decide
theorem sb_O_ne {k : Int32} (hP : va_P D vwCl [(a, .inr (12, [.ref v, .int 0, .int k, .int (nI n)]))] H) {H1 : Heap} (h : H1[a]? = H[a]?) : va_P D vwCl [(a, .inr (12, [.ref v, .int 0, .int k, .int (nI n)]))] H1 := fun i x hk => (hP i x hk).kept (by
  have h1 := (List.getElem?_eq_some_iff.mp hk).1
  simp at h1
  subst h1
  cases hk
  exact h)
theorem sb_O_lt {k : Int32} (hP : va_P D vwCl [(a, .inr (12, [.ref v, .int 0, .int k, .int (nI n)]))] H) : a < H.size := (hP 0 _ rfl).lt
/-- what a growing builder leaves: q letters have place -/
def sb_gr (D : va_G) (cB : ClassId) (B0 a v n q : Nat) (st t : State) : Prop := ∃ v2 m2, sb_B D cB B0 a v2 n m2 t t.heap ∧ q ≤ m2 ∧ 0 < m2 ∧ (v2 = v ∨ st.heap.size ≤ v2)
/-- ensureCapacityInternal -/
theorem tx_ens {q : Nat} (hm0 : 0 < mm) (hq2 : q ≤ 1000) : sb_met l B0 yJ5_ensureCapacityInternal_d00df cJ5_ensureCapacityInternal_d00df 3 none 4 1 4096 [.ref a, .int (nI q)] (fun U => sb_B D cB B0 a v n mm U U.heap) (fun r st t => r = none ∧ ∃ v2 m2, (∃ k, sb_O D a v2 n k t.heap) ∧ sb_Y cB v2 m2 t.heap ∧ a ≠ v2 ∧ n ≤ m2 ∧ m2 ≤ 4096 ∧ q ≤ m2 ∧ 0 < m2 ∧ (v2 = v ∨ st.heap.size ≤ v2)) (fun _ x => x = a) := by
  refine sb_of (by decide) (fun p e s m below meth c F hB => ?_)
  obtain ⟨hx, hb, hml, hr, hlocks, hts, hown⟩ := id F
  obtain ⟨hK, ⟨k, hO⟩, hY, b1, b2, b3, b4, b5, hX⟩ := id hB
  have sh0 : ∀ z : Nat, (nI z) <<< ((0 : Int32) &&& 31) = nI z := fun z => sb_shl0 (nI z)
  have sr0 : ∀ z : Nat, (nI z) >>> ((0 : Int32) &&& 31) = nI z := fun z => am_shr0
  have hl := lv_entry ([.ref a, .int (nI q)]) (n := 3) (Nat.le_of_ble_eq_true rfl)
  rw [lg_entry_eq]
  generalize (lg_sl ([.ref a, .int (nI q)]) ++ List.replicate (3 - (lg_sl ([.ref a, .int (nI q)])).length) Slot.unset).toArray = ls at hl ⊢
  have hl : lv_has ls 3 [(0, .ref a), (1, .int (nI q))] := hl
  refine lv_aload_n hx hb dJ5_ensureCapacityInternal_d00df_0 rfl (lv_at hl 0 rfl) ?_
  refine sb_g F hK hO 0 (by decide) rfl tf_A15 rfl dJ5_ensureCapacityInternal_d00df_1 ?_
  refine sb_yl F hK hY dJ5_ensureCapacityInternal_d00df_4 ?_
  refine lv_aload_n hx hb dJ5_ensureCapacityInternal_d00df_5 rfl (lv_at hl 0 rfl) ?_
  refine sb_g F hK hO 1 (by decide) rfl tf_A22 rfl dJ5_ensureCapacityInternal_d00df_6 ?_
  refine lv_ishr hx hb dJ5_ensureCapacityInternal_d00df_9 ?_
  rw [sr0]
  refine lv_istore_n (lv' := [(2, .int (nI mm)), (0, .ref a), (1, .int (nI q))]) hx hb dJ5_ensureCapacityInternal_d00df_10 rfl hl (by decide) rfl (fun ls hl => ?_)
  refine lv_iload_n hx hb dJ5_ensureCapacityInternal_d00df_11 rfl (lv_at hl 2 rfl) ?_
  refine lv_iload_n hx hb dJ5_ensureCapacityInternal_d00df_12 rfl (lv_at hl 0 rfl) ?_
  refine lv_isub hx hb dJ5_ensureCapacityInternal_d00df_13 ?_
  have es : (nI q - nI mm).toInt = (q : Int) - mm := pk_sub_toInt (by omega) (by omega)
  refine lv_if_le (tgt := 38) hx hb dJ5_ensureCapacityInternal_d00df_14 rfl (fun w => ?_) (fun w => ?_)
  · rw [am_le_i, es, am_l0] at w
    refine W.widen (k := 1) (n := 4096) (show 0 ≤ 1 by omega) (show 0 ≤ 4096 by omega) ?_
    exact W.vret hx hb hr (fun t e1 e2 => ⟨_, rfl, ⟨rfl, v, mm, by rw [e1]; exact ⟨k, hO⟩, by rw [e1]; exact hY, b1, b2, b3, by omega, hm0, Or.inl rfl⟩, by rw [e1]; exact Nat.le_refl _, fun q _ _ => by rw [e1]⟩) (fun q hq => by cases hq) dJ5_ensureCapacityInternal_d00df_38
  · rw [am_le_i, es, am_l0] at w
    have hlt : mm < q := by omega
    have hQ : mm + max (q - mm) (mm + 2) ≤ 4096 := by omega
    refine lv_aload_n hx hb dJ5_ensureCapacityInternal_d00df_17 rfl (lv_at hl 1 rfl) ?_
    refine lv_aload_n hx hb dJ5_ensureCapacityInternal_d00df_18 rfl (lv_at hl 1 rfl) ?_
    refine sb_g F hK hO 0 (by decide) rfl tf_A15 rfl dJ5_ensureCapacityInternal_d00df_19 ?_
    refine lv_aload_n hx hb dJ5_ensureCapacityInternal_d00df_22 rfl (lv_at hl 1 rfl) ?_
    refine lv_iload_n hx hb dJ5_ensureCapacityInternal_d00df_23 rfl (lv_at hl 2 rfl) ?_
    refine sb_callV (C := "java/lang/StringBuilder") (As := [.int (nI q)]) (st := [.ref v, .ref a]) (k := 1) (d := 3) (mc := 0) (ms := 0) F (tx_ncap (a := a) (v := v) (n := n) (D := D) (cB := cB) hm0 hlt (by omega)) tc_ncap ti_A tl_A104 tm_ncap (hts _ (List.mem_append_left _ (by simp [sb_sels]))) ⟨by decide, by decide, by decide +kernel⟩ rfl (sb_recv hB) dJ5_ensureCapacityInternal_d00df_24 hl.1 (by decide) (show 1 + (1 + 0) ≤ 8 by omega) (show 3 + 1 ≤ 4 by omega) (show 40 * (3 + 1) ≤ 40 * 4 by omega) (show 0 + 0 ≤ 1 by omega) (show 0 + 0 ≤ 4096 by omega) sb_Bpv (fun U hU hW => sb_Bgo hB hU hW) (fun q hq => by cases hq) ?_
    intro x st0 t locs1 e0 q1 hal z o hL
    obtain ⟨q1, q2⟩ := q1
    subst q2
    rw [e0] at q1
    rw [q1]
    refine lv_aload_n hx hb dJ5_ensureCapacityInternal_d00df_27 rfl (lv_at hl 1 rfl) ?_
    refine sb_g F hK hO 1 (by decide) rfl tf_A22 rfl dJ5_ensureCapacityInternal_d00df_28 ?_
    refine lv_ishl hx hb dJ5_ensureCapacityInternal_d00df_31 ?_
    rw [sh0]
    refine sb_callS (B0 := B0) (As := [.ref v, .int (nI (mm + max (q - mm) (mm + 2)))]) (st := [.ref a]) (k := 2) (d := 2) (mc := 1) (ms := 4096) F (tx_cpo (D := D) (cB := cB) (mm := mm) b5 (by omega) hQ) tc_cpo ti_AR tl_A108 tS_cpo ⟨by decide, by decide, by decide +kernel⟩ rfl dJ5_ensureCapacityInternal_d00df_32 hl.1 (by decide) (show 1 + 0 ≤ 8 by omega) (show 2 + 1 ≤ 4 by omega) (show 40 * (2 + 1) ≤ 40 * 4 by omega) (show 0 + 0 + 1 ≤ 1 by omega) (show 0 + 0 + 4096 ≤ 4096 by omega) (sb_pvX (Pre := fun U H => sb_K D cB U ∧ sb_Y cB v mm H) (fun U V H hv q => ⟨q.1.moved hv, q.2⟩)) (fun U hU hW => by rw [hU]; exact ⟨hK.moved hW.alike, hY⟩) hL ?_
    intro x2 st2 t2 locs2 f0 f1 hal2 z2 o2 hL2
    obtain ⟨f1, f2⟩ := f1
    subst f1
    rw [f0] at f2
    rw [f0]
    have al := sb_O_lt hO
    have o2a : ∀ x, x < s.heap.size → t2.heap[x]? = s.heap[x]? := fun x h => o2 x h (fun w => w)
    refine sb_p F hK (sb_O_ne hO (o2a a al)) 0 (by decide) rfl rfl (ty := .array .byte) (by decide +kernel) rfl rfl (show 0 < 4 by omega) tf_A15 dJ5_ensureCapacityInternal_d00df_35 (fun H3 i g1 g2 g3 => ?_)
    have hva : ¬ s.heap.size = a := by omega
    refine W.vret hx hb hr (fun t e1 e2 => ⟨_, rfl, ⟨rfl, s.heap.size, mm + max (q - mm) (mm + 2), ?_, ?_, fun w => hva w.symm, by omega, hQ, by omega, by omega, Or.inr (Nat.le_refl _)⟩, ?_, fun y h1 h2 => ?_⟩) (fun y hy => ?_) dJ5_ensureCapacityInternal_d00df_38
    · rcases List.mem_append.mp hy with w | w
      · exact hL2 y w
      · rw [List.mem_singleton.mp w]
        exact b4
    · rw [e1]
      exact ⟨k, g1⟩
    · rw [e1]
      obtain ⟨f, y1, y2⟩ := f2
      exact ⟨f, (g3 _ hva).trans y1, y2⟩
    · rw [e1, g2]
      exact z2
    · rw [e1]
      exact (g3 y h2).trans (o2a y h1)
end SP95
