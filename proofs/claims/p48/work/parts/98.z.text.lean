/-! text() -/
theorem dL_text_0 : decode cL_text 0 = .ok (.aload_n 0, 1) := by decide +kernel
theorem dL_text_1 : decode cL_text 1 = .ok (.iload_n 1, 1) := by decide +kernel
theorem dL_text_2 : decode cL_text 2 = .ok (.invokestatic 64, 3) := by decide +kernel
theorem dL_text_5 : decode cL_text 5 = .ok (.istore_n 2, 1) := by decide +kernel
theorem dL_text_6 : decode cL_text 6 = .ok (.iload_n 2, 1) := by decide +kernel
theorem dL_text_7 : decode cL_text 7 = .ok (.iconst 3, 1) := by decide +kernel
theorem dL_text_8 : decode cL_text 8 = .ok (.irem, 1) := by decide +kernel
theorem dL_text_9 : decode cL_text 9 = .ok (.ifCond .ne 6, 3) := by decide +kernel
theorem dL_text_12 : decode cL_text 12 = .ok (.ldc 16, 2) := by decide +kernel
theorem dL_text_14 : decode cL_text 14 = .ok (.areturn, 1) := by decide +kernel
theorem dL_text_15 : decode cL_text 15 = .ok (.iload_n 2, 1) := by decide +kernel
theorem dL_text_16 : decode cL_text 16 = .ok (.iconst 3, 1) := by decide +kernel
theorem dL_text_17 : decode cL_text 17 = .ok (.ishr, 1) := by decide +kernel
theorem dL_text_18 : decode cL_text 18 = .ok (.iconst 4, 1) := by decide +kernel
theorem dL_text_19 : decode cL_text 19 = .ok (.invokestatic 7, 3) := by decide +kernel
theorem dL_text_22 : decode cL_text 22 = .ok (.istore_n 3, 1) := by decide +kernel
theorem dL_text_23 : decode cL_text 23 = .ok (.ldc 16, 2) := by decide +kernel
theorem dL_text_25 : decode cL_text 25 = .ok (.astore 4, 2) := by decide +kernel
theorem dL_text_27 : decode cL_text 27 = .ok (.iconst 0, 1) := by decide +kernel
theorem dL_text_28 : decode cL_text 28 = .ok (.istore 5, 2) := by decide +kernel
theorem dL_text_30 : decode cL_text 30 = .ok (.iload 5, 2) := by decide +kernel
theorem dL_text_32 : decode cL_text 32 = .ok (.iload_n 3, 1) := by decide +kernel
theorem dL_text_33 : decode cL_text 33 = .ok (.if_icmp .ge 77, 3) := by decide +kernel
theorem dL_text_36 : decode cL_text 36 = .ok (.new 13, 3) := by decide +kernel
theorem dL_text_39 : decode cL_text 39 = .ok (.dup, 1) := by decide +kernel
theorem dL_text_40 : decode cL_text 40 = .ok (.invokespecial 15, 3) := by decide +kernel
theorem dL_text_43 : decode cL_text 43 = .ok (.aload 4, 2) := by decide +kernel
theorem dL_text_45 : decode cL_text 45 = .ok (.invokevirtual 18, 3) := by decide +kernel
theorem dL_text_48 : decode cL_text 48 = .ok (.aload_n 0, 1) := by decide +kernel
theorem dL_text_49 : decode cL_text 49 = .ok (.iload_n 1, 1) := by decide +kernel
theorem dL_text_50 : decode cL_text 50 = .ok (.iconst 1, 1) := by decide +kernel
theorem dL_text_51 : decode cL_text 51 = .ok (.iadd, 1) := by decide +kernel
theorem dL_text_52 : decode cL_text 52 = .ok (.invokestatic 64, 3) := by decide +kernel
theorem dL_text_55 : decode cL_text 55 = .ok (.iload 5, 2) := by decide +kernel
theorem dL_text_57 : decode cL_text 57 = .ok (.ishr, 1) := by decide +kernel
theorem dL_text_58 : decode cL_text 58 = .ok (.iload_n 2, 1) := by decide +kernel
theorem dL_text_59 : decode cL_text 59 = .ok (.iload 5, 2) := by decide +kernel
theorem dL_text_61 : decode cL_text 61 = .ok (.ishr, 1) := by decide +kernel
theorem dL_text_62 : decode cL_text 62 = .ok (.invokestatic 68, 3) := by decide +kernel
theorem dL_text_65 : decode cL_text 65 = .ok (.invokevirtual 18, 3) := by decide +kernel
theorem dL_text_68 : decode cL_text 68 = .ok (.ldc 72, 2) := by decide +kernel
theorem dL_text_70 : decode cL_text 70 = .ok (.invokevirtual 18, 3) := by decide +kernel
theorem dL_text_73 : decode cL_text 73 = .ok (.iload_n 2, 1) := by decide +kernel
theorem dL_text_74 : decode cL_text 74 = .ok (.iconst 4, 1) := by decide +kernel
theorem dL_text_75 : decode cL_text 75 = .ok (.iload 5, 2) := by decide +kernel
theorem dL_text_77 : decode cL_text 77 = .ok (.iadd, 1) := by decide +kernel
theorem dL_text_78 : decode cL_text 78 = .ok (.ishr, 1) := by decide +kernel
theorem dL_text_79 : decode cL_text 79 = .ok (.aload_n 0, 1) := by decide +kernel
theorem dL_text_80 : decode cL_text 80 = .ok (.iload_n 1, 1) := by decide +kernel
theorem dL_text_81 : decode cL_text 81 = .ok (.iconst 1, 1) := by decide +kernel
theorem dL_text_82 : decode cL_text 82 = .ok (.iadd, 1) := by decide +kernel
theorem dL_text_83 : decode cL_text 83 = .ok (.invokestatic 64, 3) := by decide +kernel
theorem dL_text_86 : decode cL_text 86 = .ok (.iconst 5, 1) := by decide +kernel
theorem dL_text_87 : decode cL_text 87 = .ok (.ishr, 1) := by decide +kernel
theorem dL_text_88 : decode cL_text 88 = .ok (.invokestatic 68, 3) := by decide +kernel
theorem dL_text_91 : decode cL_text 91 = .ok (.invokevirtual 18, 3) := by decide +kernel
theorem dL_text_94 : decode cL_text 94 = .ok (.ldc 74, 2) := by decide +kernel
theorem dL_text_96 : decode cL_text 96 = .ok (.invokevirtual 18, 3) := by decide +kernel
theorem dL_text_99 : decode cL_text 99 = .ok (.invokevirtual 33, 3) := by decide +kernel
theorem dL_text_102 : decode cL_text 102 = .ok (.astore 4, 2) := by decide +kernel
theorem dL_text_104 : decode cL_text 104 = .ok (.iinc 5 1, 3) := by decide +kernel
theorem dL_text_107 : decode cL_text 107 = .ok (.goto (-77), 3) := by decide +kernel
theorem dL_text_110 : decode cL_text 110 = .ok (.new 13, 3) := by decide +kernel
theorem dL_text_113 : decode cL_text 113 = .ok (.dup, 1) := by decide +kernel
theorem dL_text_114 : decode cL_text 114 = .ok (.invokespecial 15, 3) := by decide +kernel
theorem dL_text_117 : decode cL_text 117 = .ok (.aload 4, 2) := by decide +kernel
theorem dL_text_119 : decode cL_text 119 = .ok (.invokevirtual 18, 3) := by decide +kernel
theorem dL_text_122 : decode cL_text 122 = .ok (.iload_n 2, 1) := by decide +kernel
theorem dL_text_123 : decode cL_text 123 = .ok (.bipush 64, 2) := by decide +kernel
theorem dL_text_125 : decode cL_text 125 = .ok (.iand, 1) := by decide +kernel
theorem dL_text_126 : decode cL_text 126 = .ok (.ifCond .ne 8, 3) := by decide +kernel
theorem dL_text_129 : decode cL_text 129 = .ok (.ldc 76, 2) := by decide +kernel
theorem dL_text_131 : decode cL_text 131 = .ok (.goto 20, 3) := by decide +kernel
theorem dL_text_134 : decode cL_text 134 = .ok (.aload_n 0, 1) := by decide +kernel
theorem dL_text_135 : decode cL_text 135 = .ok (.iload_n 1, 1) := by decide +kernel
theorem dL_text_136 : decode cL_text 136 = .ok (.iconst 1, 1) := by decide +kernel
theorem dL_text_137 : decode cL_text 137 = .ok (.iadd, 1) := by decide +kernel
theorem dL_text_138 : decode cL_text 138 = .ok (.invokestatic 64, 3) := by decide +kernel
theorem dL_text_141 : decode cL_text 141 = .ok (.bipush 7, 2) := by decide +kernel
theorem dL_text_143 : decode cL_text 143 = .ok (.ishr, 1) := by decide +kernel
theorem dL_text_144 : decode cL_text 144 = .ok (.iload_n 2, 1) := by decide +kernel
theorem dL_text_145 : decode cL_text 145 = .ok (.bipush 9, 2) := by decide +kernel
theorem dL_text_147 : decode cL_text 147 = .ok (.ishr, 1) := by decide +kernel
theorem dL_text_148 : decode cL_text 148 = .ok (.invokestatic 68, 3) := by decide +kernel
theorem dL_text_151 : decode cL_text 151 = .ok (.invokevirtual 18, 3) := by decide +kernel
theorem dL_text_154 : decode cL_text 154 = .ok (.invokevirtual 33, 3) := by decide +kernel
theorem dL_text_157 : decode cL_text 157 = .ok (.astore 4, 2) := by decide +kernel
theorem dL_text_159 : decode cL_text 159 = .ok (.aload 4, 2) := by decide +kernel
theorem dL_text_161 : decode cL_text 161 = .ok (.invokevirtual 78, 3) := by decide +kernel
theorem dL_text_164 : decode cL_text 164 = .ok (.bipush 120, 2) := by decide +kernel
theorem dL_text_166 : decode cL_text 166 = .ok (.if_icmp .le 8, 3) := by decide +kernel
theorem dL_text_169 : decode cL_text 169 = .ok (.ldc 82, 2) := by decide +kernel
theorem dL_text_171 : decode cL_text 171 = .ok (.goto 5, 3) := by decide +kernel
theorem dL_text_174 : decode cL_text 174 = .ok (.aload 4, 2) := by decide +kernel
theorem dL_text_176 : decode cL_text 176 = .ok (.areturn, 1) := by decide +kernel
/-- text() answers a string: a constant's or a new one -/
def tx_tp (B0 : Nat) (r : Option Value) (st t : State) : Prop := ∃ q v w, r = some (.ref q) ∧ w ≤ 200 ∧ (q < B0 ∨ st.heap.size ≤ q) ∧ (v < B0 ∨ st.heap.size ≤ v) ∧ sv_S q v w t t.heap
section SP98z
variable {l : Launch} {B0 : Nat} {D : va_G} {cB : ClassId}
set_option maxHeartbeats 8000000 in
theorem tx_text {b L k : Nat} {xs : Nat → Int32} (hL260 : L ≤ 260) (hk1 : k < 900) : sb_met l B0 yL_text cL_text 6 (some (.object "java/lang/String")) 9 300 600000 [.ref b, .int (nI k)] (fun U => (tx_W D cB B0 U U.heap ∧ B0 ≤ U.heap.size) ∧ va_T .int b L (fun j => .int (xs j)) (fun _ => False) U U.heap) (tx_tp B0) sb_no := by
  refine sb_of (by decide) (fun p e s m below meth c F hP => ?_)
  obtain ⟨hx, hb, hml, hr, hlocks, hts, hown⟩ := id F
  obtain ⟨⟨hW, hB0⟩, hT0⟩ := hP
  have hI : tx_I D cB B0 s.heap s s.heap := ⟨hW, Nat.le_refl _, fun _ _ => rfl, hB0⟩
  have hR9 : 9 ≤ (sb_room 9 300 600000).frames ∧ 360 ≤ (sb_room 9 300 600000).locals := ⟨Nat.le_refl _, Nat.le_refl _⟩
  have hR : 7 ≤ (sb_room 9 300 600000).frames ∧ 280 ≤ (sb_room 9 300 600000).locals := ⟨Nat.le_of_ble_eq_true rfl, Nat.le_of_ble_eq_true rfl⟩
  have hend : ∀ (pc : Nat), decode cL_text pc = .ok (.areturn, 1) → ∀ (ls : Array Slot) (H : Heap) (locs : List Loc) (cs ss q v w : Nat), cs ≤ 300 → ss ≤ 600000 → tx_I D cB B0 s.heap s H → w ≤ 200 → (q < B0 ∨ s.heap.size ≤ q) → (v < B0 ∨ s.heap.size ≤ v) → sv_S q v w s H → (∀ y ∈ locs, B0 ≤ y.base) → W p l e (sb_room 9 300 600000) s m #[.ref b, .int (nI k)] below meth c H locs cs ss (MQ below (sb_Q (tx_tp B0) sb_no) #[.ref b, .int (nI k)] s 300 600000 (cm_A B0)) (F0 m pc ls [.ref q]) := by
    intro pc hdg ls H locs cs ss q v w h1 h2 hI2 h3 h4 h5 hS hL
    refine W.widen (k := 300) (n := 600000) h1 h2 ?_
    exact W.aret hx hb hr (Or.inl ⟨_, rfl⟩) (Or.inr ⟨_, rfl⟩) (fun t e1 e2 => ⟨_, rfl, ⟨q, v, w, rfl, h3, h4, h5, sv_on e2.alike (by rw [e1]) (by rw [e1]) hS⟩, by rw [e1]; exact hI2.2.1, fun y h6 _ => by rw [e1]; exact hI2.2.2.1 y h6⟩) hL hdg
  show W p l e (sb_room 9 300 600000) s m #[.ref b, .int (nI k)] below meth c s.heap [] 0 0 (MQ below (sb_Q (tx_tp B0) sb_no) #[.ref b, .int (nI k)] s 300 600000 (cm_A B0)) _
  generalize (MQ below (sb_Q (tx_tp B0) sb_no) #[.ref b, .int (nI k)] s 300 600000 (cm_A B0)) = Q at hend ⊢
  have hjoin : ∀ (x : Int32) (i j r : Nat) (H : Heap) (ls : Array Slot) (locs : List Loc) (cs ss a v n mm r2 v2 w2 : Nat), cs + 3 ≤ 300 → ss + 8196 ≤ 600000 → n + w2 ≤ 200 → w2 ≤ 200 → tx_I D cB B0 s.heap s H → tx_b D cB B0 s.heap a v n mm s H → tx_s a v r2 v2 w2 s H → (∀ q ∈ locs, B0 ≤ q.base) → lv_has ls 6 [(5, .int (nI i)), (4, .ref r), (3, .int (nI j)), (2, .int x), (0, .ref b), (1, .int (nI k))] → W p l e (sb_room 9 300 600000) s m #[.ref b, .int (nI k)] below meth c H locs cs ss Q (F0 m 151 ls [.ref r2, .ref a]) := by
    intro x i j r H ls locs cs ss a v n mm r2 v2 w2 hcs hss hn hw2 hI hbd hS2 hL hl
    refine tr_aS F hl.1 hI hbd hS2 (by omega) hR (rm_c (by omega)) (rm_s (by omega)) (Nat.le_of_ble_eq_true rfl) hL dL_text_151 (fun Hd1 vd1 md1 locs hI hbd hk hL => ?_)
    refine tr_toS F hl.1 hI hbd (by omega) hR (rm_c (by omega)) (rm_s (by omega)) (Nat.le_of_ble_eq_true rfl) hL dL_text_154 (fun Ht2 rt2 vt2 locs hI2 ht2 pt2 qt2 zt2 ot2 hL => ?_)
    have ft2 := hI.2.1
    have hI := hI2
    refine lv_astore (lv' := [(4, .ref rt2), (5, .int (nI i)), (3, .int (nI j)), (2, .int x), (0, .ref b), (1, .int (nI k))]) hx hb dL_text_157 hl (by decide) rfl (fun ls hl => ?_)
    refine lv_aload hx hb dL_text_159 (lv_at hl 0 rfl) ?_
    refine tr_len F hl.1 hI ht2 hR (rm_c (by omega)) (rm_s (by omega)) (Nat.le_of_ble_eq_true rfl) hL dL_text_161 (fun locs hL => ?_)
    refine lv_bipush (v := nI 120) hx hb dL_text_164 (by decide) ?_
    refine lv_icmp_le (tgt := 174) hx hb dL_text_166 rfl (fun _ => ?_) (fun _ => ?_)
    · refine lv_aload hx hb dL_text_174 (lv_at hl 0 rfl) ?_
      exact hend 176 dL_text_176 ls _ _ _ _ _ _ _ (by omega) (by omega) hI (by omega) (Or.inr (by omega)) (Or.inr (by omega)) ht2 hL
    · refine tr_ldc F hI (List.mem_of_getElem? (i := 15) rfl) dL_text_169 (fun rc3 vc3 hc3 gc3 pc3 => ?_)
      refine lv_goto (tgt := 176) hx hb dL_text_171 rfl ?_
      exact hend 176 dL_text_176 ls _ _ _ _ _ _ _ (by omega) (by omega) hI (by omega) (Or.inl gc3) (Or.inl pc3) hc3 hL
  have htail : ∀ (x : Int32) (i j : Nat) (H : Heap) (ls : Array Slot) (locs : List Loc) (cs ss r v0 w : Nat), cs ≤ 210 → ss ≤ 510000 → w ≤ 150 → tx_I D cB B0 s.heap s H → sv_S r v0 w s H → (∀ q ∈ locs, B0 ≤ q.base) → lv_has ls 6 [(5, .int (nI i)), (4, .ref r), (3, .int (nI j)), (2, .int x), (0, .ref b), (1, .int (nI k))] → W p l e (sb_room 9 300 600000) s m #[.ref b, .int (nI k)] below meth c H locs cs ss Q (F0 m 110 ls []) := by
    intro x i j H ls locs cs ss r v0 w hcs hss hw hI hS hL hl
    refine tr_new F hl.1 hI hR (rm_c (by omega)) (rm_s (by omega)) (Nat.le_of_ble_eq_true rfl) hL dL_text_110 dL_text_113 dL_text_114 (fun Hb1 a vb1 locs hI hbd hk hL => ?_)
    have hS := hk _ _ _ hS
    refine lv_aload hx hb dL_text_117 (lv_at hl 1 rfl) ?_
    refine tr_aS F hl.1 hI hbd hS (by omega) hR (rm_c (by omega)) (rm_s (by omega)) (Nat.le_of_ble_eq_true rfl) hL dL_text_119 (fun Hd2 vd2 md2 locs hI hbd hk hL => ?_)
    have hS := hk _ _ _ hS
    refine lv_iload_n hx hb dL_text_122 rfl (lv_at hl 3 rfl) ?_
    refine lv_bipush (v := nI 64) hx hb dL_text_123 (by decide) ?_
    refine lv_iand hx hb dL_text_125 ?_
    refine lv_if_ne (tgt := 134) hx hb dL_text_126 rfl (fun _ => ?_) (fun _ => ?_)
    · refine lv_aload_n hx hb dL_text_134 rfl (lv_at hl 4 rfl) ?_
      refine lv_iload_n hx hb dL_text_135 rfl (lv_at hl 5 rfl) ?_
      refine lv_iconst (v := nI 1) hx hb dL_text_136 (by decide) ?_
      refine lv_iadd hx hb dL_text_137 ?_
      rw [nI_add]
      refine tr_at F hl.1 hI hT0 hL260 (by omega) hR (rm_c (by omega)) (rm_s (by omega)) (Nat.le_of_ble_eq_true rfl) hL dL_text_138 (fun y1 locs hL => ?_)
      refine lv_bipush (v := nI 7) hx hb dL_text_141 (by decide) ?_
      refine lv_ishr hx hb dL_text_143 ?_
      refine lv_iload_n hx hb dL_text_144 rfl (lv_at hl 3 rfl) ?_
      refine lv_bipush (v := nI 9) hx hb dL_text_145 (by decide) ?_
      refine lv_ishr hx hb dL_text_147 ?_
      refine tr_says F hl.1 hI hR9 (rm_c (by omega)) (rm_s (by omega)) (Nat.le_of_ble_eq_true rfl) hL dL_text_148 (fun HA rA vA wA locs hI hA bA pA qA zA oA hL => ?_)
      have hS := tx_s_grow hS oA
      have sA := tx_s_n hbd hA pA qA
      have hbd := tx_b_grow hbd oA
      exact hjoin _ _ _ _ _ _ _ _ _ _ _ _ _ _ _ _ (by omega) (by omega) (by omega) (by omega) hI hbd sA hL hl
    · refine tr_ldc F hI (List.mem_of_getElem? (i := 14) rfl) dL_text_129 (fun rc3 vc3 hc3 gc3 pc3 => ?_)
      have ac3 := tx_s_c hbd hc3 gc3 pc3
      refine lv_goto (tgt := 151) hx hb dL_text_131 rfl ?_
      exact hjoin _ _ _ _ _ _ _ _ _ _ _ _ _ _ _ _ (by omega) (by omega) (by omega) (by omega) hI hbd ac3 hL hl
  have hloop : ∀ (x : Int32) (j : Nat), j < 4 → ∀ (f i : Nat) (H : Heap) (ls : Array Slot) (locs : List Loc) (cs ss r v0 w : Nat), i + f = j → cs ≤ 69 * i → ss ≤ 168600 * i → w ≤ 42 * i → tx_I D cB B0 s.heap s H → sv_S r v0 w s H → (∀ q ∈ locs, B0 ≤ q.base) → lv_has ls 6 [(5, .int (nI i)), (4, .ref r), (3, .int (nI j)), (2, .int x), (0, .ref b), (1, .int (nI k))] → W p l e (sb_room 9 300 600000) s m #[.ref b, .int (nI k)] below meth c H locs cs ss Q (F0 m 30 ls []) := by
    intro x j hj f
    induction f with
    | zero =>
      intro i H ls locs cs ss r v0 w hi hcs hss hw hI hS hL hl
      refine lv_iload hx hb dL_text_30 (lv_at hl 0 rfl) ?_
      refine lv_iload_n hx hb dL_text_32 rfl (lv_at hl 2 rfl) ?_
      refine lv_icmp_ge (tgt := 110) hx hb dL_text_33 rfl (fun _ => ?_) (fun w0 => absurd ((dq_le (a := j) (b := i) (by omega) (by omega)).mpr (by omega)) w0)
      exact htail x i j H ls locs cs ss r v0 w (by omega) (by omega) (by omega) hI hS hL hl
    | succ f ih =>
      intro i H ls locs cs ss r v0 w hi hcs hss hw hI hS hL hl
      refine lv_iload hx hb dL_text_30 (lv_at hl 0 rfl) ?_
      refine lv_iload_n hx hb dL_text_32 rfl (lv_at hl 2 rfl) ?_
      refine lv_icmp_ge (tgt := 110) hx hb dL_text_33 rfl (fun w0 => ?_) (fun _ => ?_)
      · have := (dq_le (a := j) (b := i) (by omega) (by omega)).mp w0
        omega
      · skip
        refine tr_new F hl.1 hI hR (rm_c (by omega)) (rm_s (by omega)) (Nat.le_of_ble_eq_true rfl) hL dL_text_36 dL_text_39 dL_text_40 (fun Hb1 a vb1 locs hI hbd hk hL => ?_)
        have hS := hk _ _ _ hS
        refine lv_aload hx hb dL_text_43 (lv_at hl 1 rfl) ?_
        refine tr_aS F hl.1 hI hbd hS (by omega) hR (rm_c (by omega)) (rm_s (by omega)) (Nat.le_of_ble_eq_true rfl) hL dL_text_45 (fun Hd2 vd2 md2 locs hI hbd hk hL => ?_)
        have hS := hk _ _ _ hS
        refine lv_aload_n hx hb dL_text_48 rfl (lv_at hl 4 rfl) ?_
        refine lv_iload_n hx hb dL_text_49 rfl (lv_at hl 5 rfl) ?_
        refine lv_iconst (v := nI 1) hx hb dL_text_50 (by decide) ?_
        refine lv_iadd hx hb dL_text_51 ?_
        rw [nI_add]
        refine tr_at F hl.1 hI hT0 hL260 (by omega) hR (rm_c (by omega)) (rm_s (by omega)) (Nat.le_of_ble_eq_true rfl) hL dL_text_52 (fun y1 locs hL => ?_)
        refine lv_iload hx hb dL_text_55 (lv_at hl 0 rfl) ?_
        refine lv_ishr hx hb dL_text_57 ?_
        refine lv_iload_n hx hb dL_text_58 rfl (lv_at hl 3 rfl) ?_
        refine lv_iload hx hb dL_text_59 (lv_at hl 0 rfl) ?_
        refine lv_ishr hx hb dL_text_61 ?_
        refine tr_says F hl.1 hI hR9 (rm_c (by omega)) (rm_s (by omega)) (Nat.le_of_ble_eq_true rfl) hL dL_text_62 (fun HA rA vA wA locs hI hA bA pA qA zA oA hL => ?_)
        have hS := tx_s_grow hS oA
        have sA := tx_s_n hbd hA pA qA
        have hbd := tx_b_grow hbd oA
        refine tr_aS F hl.1 hI hbd sA (by omega) hR (rm_c (by omega)) (rm_s (by omega)) (Nat.le_of_ble_eq_true rfl) hL dL_text_65 (fun Hd3 vd3 md3 locs hI hbd hk hL => ?_)
        have hS := hk _ _ _ hS
        have sA := hk _ _ _ sA
        refine tr_ldc F hI (List.mem_of_getElem? (i := 12) rfl) dL_text_68 (fun rc4 vc4 hc4 gc4 pc4 => ?_)
        have ac4 := tx_s_c hbd hc4 gc4 pc4
        refine tr_aS F hl.1 hI hbd ac4 (by omega) hR (rm_c (by omega)) (rm_s (by omega)) (Nat.le_of_ble_eq_true rfl) hL dL_text_70 (fun Hd5 vd5 md5 locs hI hbd hk hL => ?_)
        have hS := hk _ _ _ hS
        have sA := hk _ _ _ sA
        refine lv_iload_n hx hb dL_text_73 rfl (lv_at hl 3 rfl) ?_
        refine lv_iconst (v := nI 4) hx hb dL_text_74 (by decide) ?_
        refine lv_iload hx hb dL_text_75 (lv_at hl 0 rfl) ?_
        refine lv_iadd hx hb dL_text_77 ?_
        rw [nI_add]
        refine lv_ishr hx hb dL_text_78 ?_
        refine lv_aload_n hx hb dL_text_79 rfl (lv_at hl 4 rfl) ?_
        refine lv_iload_n hx hb dL_text_80 rfl (lv_at hl 5 rfl) ?_
        refine lv_iconst (v := nI 1) hx hb dL_text_81 (by decide) ?_
        refine lv_iadd hx hb dL_text_82 ?_
        rw [nI_add]
        refine tr_at F hl.1 hI hT0 hL260 (by omega) hR (rm_c (by omega)) (rm_s (by omega)) (Nat.le_of_ble_eq_true rfl) hL dL_text_83 (fun y2 locs hL => ?_)
        refine lv_iconst (v := nI 5) hx hb dL_text_86 (by decide) ?_
        refine lv_ishr hx hb dL_text_87 ?_
        refine tr_says F hl.1 hI hR9 (rm_c (by omega)) (rm_s (by omega)) (Nat.le_of_ble_eq_true rfl) hL dL_text_88 (fun HB rB vB wB locs hI hB bB pB qB zB oB hL => ?_)
        have hS := tx_s_grow hS oB
        have sA := tx_s_grow sA oB
        have sB := tx_s_n hbd hB pB qB
        have hbd := tx_b_grow hbd oB
        refine tr_aS F hl.1 hI hbd sB (by omega) hR (rm_c (by omega)) (rm_s (by omega)) (Nat.le_of_ble_eq_true rfl) hL dL_text_91 (fun Hd6 vd6 md6 locs hI hbd hk hL => ?_)
        have hS := hk _ _ _ hS
        have sA := hk _ _ _ sA
        have sB := hk _ _ _ sB
        refine tr_ldc F hI (List.mem_of_getElem? (i := 13) rfl) dL_text_94 (fun rc7 vc7 hc7 gc7 pc7 => ?_)
        have ac7 := tx_s_c hbd hc7 gc7 pc7
        refine tr_aS F hl.1 hI hbd ac7 (by omega) hR (rm_c (by omega)) (rm_s (by omega)) (Nat.le_of_ble_eq_true rfl) hL dL_text_96 (fun Hd8 vd8 md8 locs hI hbd hk hL => ?_)
        have hS := hk _ _ _ hS
        have sA := hk _ _ _ sA
        have sB := hk _ _ _ sB
        refine tr_toS F hl.1 hI hbd (by omega) hR (rm_c (by omega)) (rm_s (by omega)) (Nat.le_of_ble_eq_true rfl) hL dL_text_99 (fun Ht9 rt9 vt9 locs hI2 ht9 pt9 qt9 zt9 ot9 hL => ?_)
        have ft9 := hI.2.1
        have hI := hI2
        refine lv_astore (lv' := [(4, .ref rt9), (5, .int (nI i)), (3, .int (nI j)), (2, .int x), (0, .ref b), (1, .int (nI k))]) hx hb dL_text_102 hl (by decide) rfl (fun ls hl => ?_)
        refine lv_iinc (k := 1) (v := nI (i + 1)) (lv' := [(5, .int (nI (i + 1))), (4, .ref rt9), (3, .int (nI j)), (2, .int x), (0, .ref b), (1, .int (nI k))]) hx hb dL_text_104 hl rfl (by rw [← nI_1]; rfl) (by decide) rfl (fun ls hl => ?_)
        refine lv_goto (tgt := 30) hx hb dL_text_107 rfl ?_
        exact ih (i + 1) _ ls _ _ _ _ _ _ (by omega) (by omega) (by omega) (by omega) hI ht9 hL (lv_sub hl [0, 1, 2, 3, 4, 5] rfl)
  have hL : ∀ q ∈ ([] : List Loc), B0 ≤ q.base := fun q hq => by cases hq
  have hl := lv_entry ([.ref b, .int (nI k)]) (n := 6) (Nat.le_of_ble_eq_true rfl)
  rw [lg_entry_eq]
  generalize (lg_sl ([.ref b, .int (nI k)]) ++ List.replicate (6 - (lg_sl ([.ref b, .int (nI k)])).length) Slot.unset).toArray = ls at hl ⊢
  have hl : lv_has ls 6 [(0, .ref b), (1, .int (nI k))] := hl
  refine lv_aload_n hx hb dL_text_0 rfl (lv_at hl 0 rfl) ?_
  refine lv_iload_n hx hb dL_text_1 rfl (lv_at hl 1 rfl) ?_
  refine tr_at F hl.1 hI hT0 hL260 (by omega) hR (rm_c (by omega)) (rm_s (by omega)) (Nat.le_of_ble_eq_true rfl) hL dL_text_2 (fun x locs hL => ?_)
  refine lv_istore_n (lv' := [(2, .int x), (0, .ref b), (1, .int (nI k))]) hx hb dL_text_5 rfl hl (by decide) rfl (fun ls hl => ?_)
  refine lv_iload_n hx hb dL_text_6 rfl (lv_at hl 0 rfl) ?_
  refine lv_iconst (v := nI 3) hx hb dL_text_7 (by decide) ?_
  refine lv_irem hx hb dL_text_8 (by decide) ?_
  refine lv_if_ne (tgt := 15) hx hb dL_text_9 rfl (fun _ => ?_) (fun _ => ?_)
  · refine lv_iload_n hx hb dL_text_15 rfl (lv_at hl 0 rfl) ?_
    refine lv_iconst (v := nI 3) hx hb dL_text_16 (by decide) ?_
    refine lv_ishr hx hb dL_text_17 ?_
    refine lv_iconst (v := nI 4) hx hb dL_text_18 (by decide) ?_
    refine tr_some (k := 4) F hl.1 (by omega) (by omega) hR (rm_c (by omega)) (rm_s (by omega)) (Nat.le_of_ble_eq_true rfl) hL dL_text_19 (fun j locs hj hL => ?_)
    refine lv_istore_n (lv' := [(3, .int (nI j)), (2, .int x), (0, .ref b), (1, .int (nI k))]) hx hb dL_text_22 rfl hl (by decide) rfl (fun ls hl => ?_)
    refine tr_ldc F hI (List.mem_of_getElem? (i := 0) rfl) dL_text_23 (fun rc1 vc1 hc1 gc1 pc1 => ?_)
    refine lv_astore (lv' := [(4, .ref rc1), (3, .int (nI j)), (2, .int x), (0, .ref b), (1, .int (nI k))]) hx hb dL_text_25 hl (by decide) rfl (fun ls hl => ?_)
    refine lv_iconst (v := nI 0) hx hb dL_text_27 (by decide) ?_
    refine lv_istore (lv' := [(5, .int (nI 0)), (4, .ref rc1), (3, .int (nI j)), (2, .int x), (0, .ref b), (1, .int (nI k))]) hx hb dL_text_28 hl (by decide) rfl (fun ls hl => ?_)
    exact hloop x j hj j 0 s.heap ls locs 0 0 _ _ _ (by omega) (by omega) (by omega) (by omega) hI hc1 hL (lv_sub hl [0, 1, 2, 3, 4, 5] rfl)
  · refine tr_ldc F hI (List.mem_of_getElem? (i := 0) rfl) dL_text_12 (fun rc1 vc1 hc1 gc1 pc1 => ?_)
    exact hend 14 dL_text_14 ls _ _ _ _ _ _ _ (by omega) (by omega) hI (by omega) (Or.inl gc1) (Or.inl pc1) hc1 hL
end SP98z
