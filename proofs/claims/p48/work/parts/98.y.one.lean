/-! text(): one, says -/
theorem dL_one_0 : decode cL_one 0 = .ok (.iload_n 0, 1) := by decide +kernel
theorem dL_one_1 : decode cL_one 1 = .ok (.bipush 9, 2) := by decide +kernel
theorem dL_one_3 : decode cL_one 3 = .ok (.invokestatic 7, 3) := by decide +kernel
theorem dL_one_6 : decode cL_one 6 = .ok (.istore_n 1, 1) := by decide +kernel
theorem dL_one_7 : decode cL_one 7 = .ok (.iload_n 1, 1) := by decide +kernel
theorem dL_one_8 : decode cL_one 8 = .ok (.bipush 6, 2) := by decide +kernel
theorem dL_one_10 : decode cL_one 10 = .ok (.if_icmp .ge 30, 3) := by decide +kernel
theorem dL_one_13 : decode cL_one 13 = .ok (.new 13, 3) := by decide +kernel
theorem dL_one_16 : decode cL_one 16 = .ok (.dup, 1) := by decide +kernel
theorem dL_one_17 : decode cL_one 17 = .ok (.invokespecial 15, 3) := by decide +kernel
theorem dL_one_20 : decode cL_one 20 = .ok (.ldc 16, 2) := by decide +kernel
theorem dL_one_22 : decode cL_one 22 = .ok (.invokevirtual 18, 3) := by decide +kernel
theorem dL_one_25 : decode cL_one 25 = .ok (.ldc 22, 2) := by decide +kernel
theorem dL_one_27 : decode cL_one 27 = .ok (.iload_n 1, 1) := by decide +kernel
theorem dL_one_28 : decode cL_one 28 = .ok (.invokevirtual 24, 3) := by decide +kernel
theorem dL_one_31 : decode cL_one 31 = .ok (.invokevirtual 30, 3) := by decide +kernel
theorem dL_one_34 : decode cL_one 34 = .ok (.invokevirtual 33, 3) := by decide +kernel
theorem dL_one_37 : decode cL_one 37 = .ok (.goto 109, 3) := by decide +kernel
theorem dL_one_40 : decode cL_one 40 = .ok (.iload_n 1, 1) := by decide +kernel
theorem dL_one_41 : decode cL_one 41 = .ok (.bipush 6, 2) := by decide +kernel
theorem dL_one_43 : decode cL_one 43 = .ok (.if_icmp .ne 32, 3) := by decide +kernel
theorem dL_one_46 : decode cL_one 46 = .ok (.new 13, 3) := by decide +kernel
theorem dL_one_49 : decode cL_one 49 = .ok (.dup, 1) := by decide +kernel
theorem dL_one_50 : decode cL_one 50 = .ok (.invokespecial 15, 3) := by decide +kernel
theorem dL_one_53 : decode cL_one 53 = .ok (.ldc 16, 2) := by decide +kernel
theorem dL_one_55 : decode cL_one 55 = .ok (.invokevirtual 18, 3) := by decide +kernel
theorem dL_one_58 : decode cL_one 58 = .ok (.iload_n 0, 1) := by decide +kernel
theorem dL_one_59 : decode cL_one 59 = .ok (.iconst 4, 1) := by decide +kernel
theorem dL_one_60 : decode cL_one 60 = .ok (.ishr, 1) := by decide +kernel
theorem dL_one_61 : decode cL_one 61 = .ok (.bipush 30, 2) := by decide +kernel
theorem dL_one_63 : decode cL_one 63 = .ok (.invokestatic 7, 3) := by decide +kernel
theorem dL_one_66 : decode cL_one 66 = .ok (.invokevirtual 37, 3) := by decide +kernel
theorem dL_one_69 : decode cL_one 69 = .ok (.invokevirtual 33, 3) := by decide +kernel
theorem dL_one_72 : decode cL_one 72 = .ok (.goto 74, 3) := by decide +kernel
theorem dL_one_75 : decode cL_one 75 = .ok (.iload_n 1, 1) := by decide +kernel
theorem dL_one_76 : decode cL_one 76 = .ok (.bipush 7, 2) := by decide +kernel
theorem dL_one_78 : decode cL_one 78 = .ok (.if_icmp .ne 37, 3) := by decide +kernel
theorem dL_one_81 : decode cL_one 81 = .ok (.new 13, 3) := by decide +kernel
theorem dL_one_84 : decode cL_one 84 = .ok (.dup, 1) := by decide +kernel
theorem dL_one_85 : decode cL_one 85 = .ok (.invokespecial 15, 3) := by decide +kernel
theorem dL_one_88 : decode cL_one 88 = .ok (.ldc 40, 2) := by decide +kernel
theorem dL_one_90 : decode cL_one 90 = .ok (.invokevirtual 18, 3) := by decide +kernel
theorem dL_one_93 : decode cL_one 93 = .ok (.ldc 22, 2) := by decide +kernel
theorem dL_one_95 : decode cL_one 95 = .ok (.iload_n 0, 1) := by decide +kernel
theorem dL_one_96 : decode cL_one 96 = .ok (.iconst 4, 1) := by decide +kernel
theorem dL_one_97 : decode cL_one 97 = .ok (.ishr, 1) := by decide +kernel
theorem dL_one_98 : decode cL_one 98 = .ok (.bipush 6, 2) := by decide +kernel
theorem dL_one_100 : decode cL_one 100 = .ok (.invokestatic 7, 3) := by decide +kernel
theorem dL_one_103 : decode cL_one 103 = .ok (.invokevirtual 24, 3) := by decide +kernel
theorem dL_one_106 : decode cL_one 106 = .ok (.invokevirtual 30, 3) := by decide +kernel
theorem dL_one_109 : decode cL_one 109 = .ok (.invokevirtual 33, 3) := by decide +kernel
theorem dL_one_112 : decode cL_one 112 = .ok (.goto 34, 3) := by decide +kernel
theorem dL_one_115 : decode cL_one 115 = .ok (.new 13, 3) := by decide +kernel
theorem dL_one_118 : decode cL_one 118 = .ok (.dup, 1) := by decide +kernel
theorem dL_one_119 : decode cL_one 119 = .ok (.invokespecial 15, 3) := by decide +kernel
theorem dL_one_122 : decode cL_one 122 = .ok (.ldc 42, 2) := by decide +kernel
theorem dL_one_124 : decode cL_one 124 = .ok (.invokevirtual 18, 3) := by decide +kernel
theorem dL_one_127 : decode cL_one 127 = .ok (.ldc 22, 2) := by decide +kernel
theorem dL_one_129 : decode cL_one 129 = .ok (.iload_n 0, 1) := by decide +kernel
theorem dL_one_130 : decode cL_one 130 = .ok (.iconst 4, 1) := by decide +kernel
theorem dL_one_131 : decode cL_one 131 = .ok (.ishr, 1) := by decide +kernel
theorem dL_one_132 : decode cL_one 132 = .ok (.bipush 6, 2) := by decide +kernel
theorem dL_one_134 : decode cL_one 134 = .ok (.invokestatic 7, 3) := by decide +kernel
theorem dL_one_137 : decode cL_one 137 = .ok (.invokevirtual 24, 3) := by decide +kernel
theorem dL_one_140 : decode cL_one 140 = .ok (.invokevirtual 30, 3) := by decide +kernel
theorem dL_one_143 : decode cL_one 143 = .ok (.invokevirtual 33, 3) := by decide +kernel
theorem dL_one_146 : decode cL_one 146 = .ok (.areturn, 1) := by decide +kernel
theorem dL_says_0 : decode cL_says 0 = .ok (.iload_n 0, 1) := by decide +kernel
theorem dL_says_1 : decode cL_says 1 = .ok (.invokestatic 44, 3) := by decide +kernel
theorem dL_says_4 : decode cL_says 4 = .ok (.astore_n 2, 1) := by decide +kernel
theorem dL_says_5 : decode cL_says 5 = .ok (.iload_n 1, 1) := by decide +kernel
theorem dL_says_6 : decode cL_says 6 = .ok (.invokestatic 44, 3) := by decide +kernel
theorem dL_says_9 : decode cL_says 9 = .ok (.astore_n 3, 1) := by decide +kernel
theorem dL_says_10 : decode cL_says 10 = .ok (.iload_n 0, 1) := by decide +kernel
theorem dL_says_11 : decode cL_says 11 = .ok (.bipush 8, 2) := by decide +kernel
theorem dL_says_13 : decode cL_says 13 = .ok (.ishr, 1) := by decide +kernel
theorem dL_says_14 : decode cL_says 14 = .ok (.bipush 11, 2) := by decide +kernel
theorem dL_says_16 : decode cL_says 16 = .ok (.invokestatic 7, 3) := by decide +kernel
theorem dL_says_19 : decode cL_says 19 = .ok (.istore 4, 2) := by decide +kernel
theorem dL_says_21 : decode cL_says 21 = .ok (.iload 4, 2) := by decide +kernel
theorem dL_says_23 : decode cL_says 23 = .ok (.ifCond .ne 7, 3) := by decide +kernel
theorem dL_says_26 : decode cL_says 26 = .ok (.aload_n 2, 1) := by decide +kernel
theorem dL_says_27 : decode cL_says 27 = .ok (.goto 152, 3) := by decide +kernel
theorem dL_says_30 : decode cL_says 30 = .ok (.iload 4, 2) := by decide +kernel
theorem dL_says_32 : decode cL_says 32 = .ok (.bipush 9, 2) := by decide +kernel
theorem dL_says_34 : decode cL_says 34 = .ok (.if_icmp .ge 41, 3) := by decide +kernel
theorem dL_says_37 : decode cL_says 37 = .ok (.new 13, 3) := by decide +kernel
theorem dL_says_40 : decode cL_says 40 = .ok (.dup, 1) := by decide +kernel
theorem dL_says_41 : decode cL_says 41 = .ok (.invokespecial 15, 3) := by decide +kernel
theorem dL_says_44 : decode cL_says 44 = .ok (.aload_n 2, 1) := by decide +kernel
theorem dL_says_45 : decode cL_says 45 = .ok (.invokevirtual 18, 3) := by decide +kernel
theorem dL_says_48 : decode cL_says 48 = .ok (.ldc 48, 2) := by decide +kernel
theorem dL_says_50 : decode cL_says 50 = .ok (.iload_n 0, 1) := by decide +kernel
theorem dL_says_51 : decode cL_says 51 = .ok (.bipush 12, 2) := by decide +kernel
theorem dL_says_53 : decode cL_says 53 = .ok (.ishr, 1) := by decide +kernel
theorem dL_says_54 : decode cL_says 54 = .ok (.bipush 10, 2) := by decide +kernel
theorem dL_says_56 : decode cL_says 56 = .ok (.invokestatic 7, 3) := by decide +kernel
theorem dL_says_59 : decode cL_says 59 = .ok (.invokevirtual 24, 3) := by decide +kernel
theorem dL_says_62 : decode cL_says 62 = .ok (.invokevirtual 30, 3) := by decide +kernel
theorem dL_says_65 : decode cL_says 65 = .ok (.aload_n 3, 1) := by decide +kernel
theorem dL_says_66 : decode cL_says 66 = .ok (.invokevirtual 18, 3) := by decide +kernel
theorem dL_says_69 : decode cL_says 69 = .ok (.invokevirtual 33, 3) := by decide +kernel
theorem dL_says_72 : decode cL_says 72 = .ok (.goto 107, 3) := by decide +kernel
theorem dL_says_75 : decode cL_says 75 = .ok (.iload 4, 2) := by decide +kernel
theorem dL_says_77 : decode cL_says 77 = .ok (.bipush 9, 2) := by decide +kernel
theorem dL_says_79 : decode cL_says 79 = .ok (.if_icmp .ne 53, 3) := by decide +kernel
theorem dL_says_82 : decode cL_says 82 = .ok (.new 13, 3) := by decide +kernel
theorem dL_says_85 : decode cL_says 85 = .ok (.dup, 1) := by decide +kernel
theorem dL_says_86 : decode cL_says 86 = .ok (.invokespecial 15, 3) := by decide +kernel
theorem dL_says_89 : decode cL_says 89 = .ok (.ldc 50, 2) := by decide +kernel
theorem dL_says_91 : decode cL_says 91 = .ok (.invokevirtual 18, 3) := by decide +kernel
theorem dL_says_94 : decode cL_says 94 = .ok (.aload_n 2, 1) := by decide +kernel
theorem dL_says_95 : decode cL_says 95 = .ok (.invokevirtual 18, 3) := by decide +kernel
theorem dL_says_98 : decode cL_says 98 = .ok (.ldc 42, 2) := by decide +kernel
theorem dL_says_100 : decode cL_says 100 = .ok (.invokevirtual 18, 3) := by decide +kernel
theorem dL_says_103 : decode cL_says 103 = .ok (.aload_n 3, 1) := by decide +kernel
theorem dL_says_104 : decode cL_says 104 = .ok (.invokevirtual 18, 3) := by decide +kernel
theorem dL_says_107 : decode cL_says 107 = .ok (.ldc 52, 2) := by decide +kernel
theorem dL_says_109 : decode cL_says 109 = .ok (.invokevirtual 18, 3) := by decide +kernel
theorem dL_says_112 : decode cL_says 112 = .ok (.iload_n 0, 1) := by decide +kernel
theorem dL_says_113 : decode cL_says 113 = .ok (.iconst 3, 1) := by decide +kernel
theorem dL_says_114 : decode cL_says 114 = .ok (.ishr, 1) := by decide +kernel
theorem dL_says_115 : decode cL_says 115 = .ok (.invokestatic 44, 3) := by decide +kernel
theorem dL_says_118 : decode cL_says 118 = .ok (.invokevirtual 18, 3) := by decide +kernel
theorem dL_says_121 : decode cL_says 121 = .ok (.ldc 54, 2) := by decide +kernel
theorem dL_says_123 : decode cL_says 123 = .ok (.invokevirtual 18, 3) := by decide +kernel
theorem dL_says_126 : decode cL_says 126 = .ok (.invokevirtual 33, 3) := by decide +kernel
theorem dL_says_129 : decode cL_says 129 = .ok (.goto 50, 3) := by decide +kernel
theorem dL_says_132 : decode cL_says 132 = .ok (.new 13, 3) := by decide +kernel
theorem dL_says_135 : decode cL_says 135 = .ok (.dup, 1) := by decide +kernel
theorem dL_says_136 : decode cL_says 136 = .ok (.invokespecial 15, 3) := by decide +kernel
theorem dL_says_139 : decode cL_says 139 = .ok (.ldc 56, 2) := by decide +kernel
theorem dL_says_141 : decode cL_says 141 = .ok (.invokevirtual 18, 3) := by decide +kernel
theorem dL_says_144 : decode cL_says 144 = .ok (.aload_n 2, 1) := by decide +kernel
theorem dL_says_145 : decode cL_says 145 = .ok (.invokevirtual 18, 3) := by decide +kernel
theorem dL_says_148 : decode cL_says 148 = .ok (.ldc 58, 2) := by decide +kernel
theorem dL_says_150 : decode cL_says 150 = .ok (.invokevirtual 18, 3) := by decide +kernel
theorem dL_says_153 : decode cL_says 153 = .ok (.aload_n 3, 1) := by decide +kernel
theorem dL_says_154 : decode cL_says 154 = .ok (.invokevirtual 18, 3) := by decide +kernel
theorem dL_says_157 : decode cL_says 157 = .ok (.ldc 60, 2) := by decide +kernel
theorem dL_says_159 : decode cL_says 159 = .ok (.invokevirtual 18, 3) := by decide +kernel
theorem dL_says_162 : decode cL_says 162 = .ok (.iload_n 1, 1) := by decide +kernel
theorem dL_says_163 : decode cL_says 163 = .ok (.iconst 3, 1) := by decide +kernel
theorem dL_says_164 : decode cL_says 164 = .ok (.ishr, 1) := by decide +kernel
theorem dL_says_165 : decode cL_says 165 = .ok (.invokestatic 44, 3) := by decide +kernel
theorem dL_says_168 : decode cL_says 168 = .ok (.invokevirtual 18, 3) := by decide +kernel
theorem dL_says_171 : decode cL_says 171 = .ok (.ldc 62, 2) := by decide +kernel
theorem dL_says_173 : decode cL_says 173 = .ok (.invokevirtual 18, 3) := by decide +kernel
theorem dL_says_176 : decode cL_says 176 = .ok (.invokevirtual 33, 3) := by decide +kernel
theorem dL_says_179 : decode cL_says 179 = .ok (.areturn, 1) := by decide +kernel
theorem rm_c {d mc ms k : Nat} (h : k ≤ mc) : k ≤ (sb_room d mc ms).cells := h
theorem rm_s {d mc ms k : Nat} (h : k ≤ ms) : k ≤ (sb_room d mc ms).slots := h
theorem sb_sz_le (x : Nat) : sb_sz x ≤ 2 := by
  unfold sb_sz
  split <;> omega
section SP98y
variable {l : Launch} {B0 : Nat} {D : va_G} {cB : ClassId}
set_option maxHeartbeats 4000000 in
/-- one(x) -/
theorem tx_one {x : Int32} : sb_met l B0 yL_one cL_one 2 (some (.object "java/lang/String")) 7 6 13000 [.int x] (fun U => tx_W D cB B0 U U.heap ∧ B0 ≤ U.heap.size) (fun r st t => ∃ q v w, r = some (.ref q) ∧ w ≤ 2 ∧ st.heap.size ≤ q ∧ st.heap.size ≤ v ∧ sv_S q v w t t.heap) sb_no := by
  refine sb_of (by decide) (fun p e s m below meth c F hP => ?_)
  obtain ⟨hx, hb, hml, hr, hlocks, hts, hown⟩ := id F
  obtain ⟨hW, hB0⟩ := hP
  have hI : tx_I D cB B0 s.heap s s.heap := ⟨hW, Nat.le_refl _, fun _ _ => rfl, hB0⟩
  have hR : 7 ≤ (sb_room 7 6 13000).frames ∧ 280 ≤ (sb_room 7 6 13000).locals := ⟨Nat.le_refl _, Nat.le_refl _⟩
  have hend : ∀ (ls : Array Slot) (H : Heap) (locs : List Loc) (cs ss q v w : Nat), cs ≤ 6 → ss ≤ 13000 → tx_I D cB B0 s.heap s H → w ≤ 2 → s.heap.size ≤ q → s.heap.size ≤ v → sv_S q v w s H → (∀ y ∈ locs, B0 ≤ y.base) → W p l e (sb_room 7 6 13000) s m #[.int x] below meth c H locs cs ss (MQ below (sb_Q (fun r st t => ∃ q v w, r = some (.ref q) ∧ w ≤ 2 ∧ st.heap.size ≤ q ∧ st.heap.size ≤ v ∧ sv_S q v w t t.heap) sb_no) #[.int x] s 6 13000 (cm_A B0)) (F0 m 146 ls [.ref q]) := by
    intro ls H locs cs ss q v w h1 h2 hI2 h3 h4 h5 hS hL
    refine W.widen (k := 6) (n := 13000) h1 h2 ?_
    exact W.aret hx hb hr (Or.inl ⟨_, rfl⟩) (Or.inr ⟨_, rfl⟩) (fun t e1 e2 => ⟨_, rfl, ⟨q, v, w, rfl, h3, h4, h5, sv_on e2.alike (by rw [e1]) (by rw [e1]) hS⟩, by rw [e1]; exact hI2.2.1, fun y h6 _ => by rw [e1]; exact hI2.2.2.1 y h6⟩) hL dL_one_146
  have hL : ∀ q ∈ ([] : List Loc), B0 ≤ q.base := fun q hq => by cases hq
  have hl := lv_entry ([.int x]) (n := 2) (Nat.le_of_ble_eq_true rfl)
  rw [lg_entry_eq]
  generalize (lg_sl ([.int x]) ++ List.replicate (2 - (lg_sl ([.int x])).length) Slot.unset).toArray = ls at hl ⊢
  have hl : lv_has ls 2 [(0, .int x)] := hl
  refine lv_iload_n hx hb dL_one_0 rfl (lv_at hl 0 rfl) ?_
  refine lv_bipush (v := nI 9) hx hb dL_one_1 (by decide) ?_
  refine tr_some (k := 9) F hl.1 (by omega) (by omega) hR (rm_c (by omega)) (rm_s (by omega)) (Nat.le_of_ble_eq_true rfl) hL dL_one_3 (fun j locs hj hL => ?_)
  refine lv_istore_n (lv' := [(1, .int (nI j)), (0, .int x)]) hx hb dL_one_6 rfl hl (by decide) rfl (fun ls hl => ?_)
  refine lv_iload_n hx hb dL_one_7 rfl (lv_at hl 0 rfl) ?_
  refine lv_bipush (v := nI 6) hx hb dL_one_8 (by decide) ?_
  refine lv_icmp_ge (tgt := 40) hx hb dL_one_10 rfl (fun w0 => ?_) (fun w0 => ?_)
  · refine lv_iload_n hx hb dL_one_40 rfl (lv_at hl 0 rfl) ?_
    refine lv_bipush (v := nI 6) hx hb dL_one_41 (by decide) ?_
    refine lv_icmp_ne (tgt := 75) hx hb dL_one_43 rfl (fun w1 => ?_) (fun w1 => ?_)
    · refine lv_iload_n hx hb dL_one_75 rfl (lv_at hl 0 rfl) ?_
      refine lv_bipush (v := nI 7) hx hb dL_one_76 (by decide) ?_
      refine lv_icmp_ne (tgt := 115) hx hb dL_one_78 rfl (fun w2 => ?_) (fun w2 => ?_)
      · refine tr_new F hl.1 hI hR (rm_c (by omega)) (rm_s (by omega)) (Nat.le_of_ble_eq_true rfl) hL dL_one_115 dL_one_118 dL_one_119 (fun Hb1 a vb1 locs hI hbd hk hL => ?_)
        refine tr_ldc F hI (List.mem_of_getElem? (i := 3) rfl) dL_one_122 (fun rc2 vc2 hc2 gc2 pc2 => ?_)
        have ac2 := tx_s_c hbd hc2 gc2 pc2
        refine tr_aS F hl.1 hI hbd ac2 (by omega) hR (rm_c (by omega)) (rm_s (by omega)) (Nat.le_of_ble_eq_true rfl) hL dL_one_124 (fun Hd3 vd3 md3 locs hI hbd hk hL => ?_)
        refine tr_ldc F hI (List.mem_of_getElem? (i := 1) rfl) dL_one_127 (fun rc4 vc4 hc4 gc4 pc4 => ?_)
        have ac4 := tx_s_c hbd hc4 gc4 pc4
        refine lv_iload_n hx hb dL_one_129 rfl (lv_at hl 1 rfl) ?_
        refine lv_iconst (v := nI 4) hx hb dL_one_130 (by decide) ?_
        refine lv_ishr hx hb dL_one_131 ?_
        refine lv_bipush (v := nI 6) hx hb dL_one_132 (by decide) ?_
        refine tr_some (k := 6) F hl.1 (by omega) (by omega) hR (rm_c (by omega)) (rm_s (by omega)) (Nat.le_of_ble_eq_true rfl) hL dL_one_134 (fun i locs hi hL => ?_)
        refine tr_cat F hl.1 hI hc4 hi hR (rm_c (by omega)) (rm_s (by omega)) (Nat.le_of_ble_eq_true rfl) hL dL_one_137 (fun b locs hb2 hL => ?_)
        refine tr_aC F hl.1 hI hbd hb2 (by omega) hR (rm_c (by omega)) (rm_s (by omega)) (Nat.le_of_ble_eq_true rfl) hL dL_one_140 (fun Hd5 vd5 md5 locs hI hbd hk hL => ?_)
        refine tr_toS F hl.1 hI hbd (by omega) hR (rm_c (by omega)) (rm_s (by omega)) (Nat.le_of_ble_eq_true rfl) hL dL_one_143 (fun Ht6 rt6 vt6 locs hI2 ht6 pt6 qt6 zt6 ot6 hL => ?_)
        have ft6 := hI.2.1
        have hI := hI2
        exact hend ls _ _ _ _ _ _ _ (by omega) (by omega) hI (by omega) (by omega) (by omega) ht6 hL
      · refine tr_new F hl.1 hI hR (rm_c (by omega)) (rm_s (by omega)) (Nat.le_of_ble_eq_true rfl) hL dL_one_81 dL_one_84 dL_one_85 (fun Hb1 a vb1 locs hI hbd hk hL => ?_)
        refine tr_ldc F hI (List.mem_of_getElem? (i := 2) rfl) dL_one_88 (fun rc2 vc2 hc2 gc2 pc2 => ?_)
        have ac2 := tx_s_c hbd hc2 gc2 pc2
        refine tr_aS F hl.1 hI hbd ac2 (by omega) hR (rm_c (by omega)) (rm_s (by omega)) (Nat.le_of_ble_eq_true rfl) hL dL_one_90 (fun Hd3 vd3 md3 locs hI hbd hk hL => ?_)
        refine tr_ldc F hI (List.mem_of_getElem? (i := 1) rfl) dL_one_93 (fun rc4 vc4 hc4 gc4 pc4 => ?_)
        have ac4 := tx_s_c hbd hc4 gc4 pc4
        refine lv_iload_n hx hb dL_one_95 rfl (lv_at hl 1 rfl) ?_
        refine lv_iconst (v := nI 4) hx hb dL_one_96 (by decide) ?_
        refine lv_ishr hx hb dL_one_97 ?_
        refine lv_bipush (v := nI 6) hx hb dL_one_98 (by decide) ?_
        refine tr_some (k := 6) F hl.1 (by omega) (by omega) hR (rm_c (by omega)) (rm_s (by omega)) (Nat.le_of_ble_eq_true rfl) hL dL_one_100 (fun i locs hi hL => ?_)
        refine tr_cat F hl.1 hI hc4 hi hR (rm_c (by omega)) (rm_s (by omega)) (Nat.le_of_ble_eq_true rfl) hL dL_one_103 (fun b locs hb2 hL => ?_)
        refine tr_aC F hl.1 hI hbd hb2 (by omega) hR (rm_c (by omega)) (rm_s (by omega)) (Nat.le_of_ble_eq_true rfl) hL dL_one_106 (fun Hd5 vd5 md5 locs hI hbd hk hL => ?_)
        refine tr_toS F hl.1 hI hbd (by omega) hR (rm_c (by omega)) (rm_s (by omega)) (Nat.le_of_ble_eq_true rfl) hL dL_one_109 (fun Ht6 rt6 vt6 locs hI2 ht6 pt6 qt6 zt6 ot6 hL => ?_)
        have ft6 := hI.2.1
        have hI := hI2
        refine lv_goto (tgt := 146) hx hb dL_one_112 rfl ?_
        exact hend ls _ _ _ _ _ _ _ (by omega) (by omega) hI (by omega) (by omega) (by omega) ht6 hL
    · refine tr_new F hl.1 hI hR (rm_c (by omega)) (rm_s (by omega)) (Nat.le_of_ble_eq_true rfl) hL dL_one_46 dL_one_49 dL_one_50 (fun Hb1 a vb1 locs hI hbd hk hL => ?_)
      refine tr_ldc F hI (List.mem_of_getElem? (i := 0) rfl) dL_one_53 (fun rc2 vc2 hc2 gc2 pc2 => ?_)
      have ac2 := tx_s_c hbd hc2 gc2 pc2
      refine tr_aS F hl.1 hI hbd ac2 (by omega) hR (rm_c (by omega)) (rm_s (by omega)) (Nat.le_of_ble_eq_true rfl) hL dL_one_55 (fun Hd3 vd3 md3 locs hI hbd hk hL => ?_)
      refine lv_iload_n hx hb dL_one_58 rfl (lv_at hl 1 rfl) ?_
      refine lv_iconst (v := nI 4) hx hb dL_one_59 (by decide) ?_
      refine lv_ishr hx hb dL_one_60 ?_
      refine lv_bipush (v := nI 30) hx hb dL_one_61 (by decide) ?_
      refine tr_some (k := 30) F hl.1 (by omega) (by omega) hR (rm_c (by omega)) (rm_s (by omega)) (Nat.le_of_ble_eq_true rfl) hL dL_one_63 (fun i locs hi hL => ?_)
      refine tr_aI F hl.1 hI hbd hi (by omega) hR (rm_c (by omega)) (rm_s (by omega)) (Nat.le_of_ble_eq_true rfl) hL dL_one_66 (fun Hd4 vd4 md4 locs hI hbd hk hL => ?_)
      have hz := sb_sz_le i
      refine tr_toS F hl.1 hI hbd (by omega) hR (rm_c (by omega)) (rm_s (by omega)) (Nat.le_of_ble_eq_true rfl) hL dL_one_69 (fun Ht5 rt5 vt5 locs hI2 ht5 pt5 qt5 zt5 ot5 hL => ?_)
      have ft5 := hI.2.1
      have hI := hI2
      refine lv_goto (tgt := 146) hx hb dL_one_72 rfl ?_
      exact hend ls _ _ _ _ _ _ _ (by omega) (by omega) hI (by omega) (by omega) (by omega) ht5 hL
  · have hj6 : j < 6 := Nat.not_le.mp (fun h => w0 ((dq_le (a := 6) (b := j) (by omega) (by omega)).mpr h))
    refine tr_new F hl.1 hI hR (rm_c (by omega)) (rm_s (by omega)) (Nat.le_of_ble_eq_true rfl) hL dL_one_13 dL_one_16 dL_one_17 (fun Hb1 a vb1 locs hI hbd hk hL => ?_)
    refine tr_ldc F hI (List.mem_of_getElem? (i := 0) rfl) dL_one_20 (fun rc2 vc2 hc2 gc2 pc2 => ?_)
    have ac2 := tx_s_c hbd hc2 gc2 pc2
    refine tr_aS F hl.1 hI hbd ac2 (by omega) hR (rm_c (by omega)) (rm_s (by omega)) (Nat.le_of_ble_eq_true rfl) hL dL_one_22 (fun Hd3 vd3 md3 locs hI hbd hk hL => ?_)
    refine tr_ldc F hI (List.mem_of_getElem? (i := 1) rfl) dL_one_25 (fun rc4 vc4 hc4 gc4 pc4 => ?_)
    have ac4 := tx_s_c hbd hc4 gc4 pc4
    refine lv_iload_n hx hb dL_one_27 rfl (lv_at hl 0 rfl) ?_
    refine tr_cat F hl.1 hI hc4 hj6 hR (rm_c (by omega)) (rm_s (by omega)) (Nat.le_of_ble_eq_true rfl) hL dL_one_28 (fun b locs hb2 hL => ?_)
    refine tr_aC F hl.1 hI hbd hb2 (by omega) hR (rm_c (by omega)) (rm_s (by omega)) (Nat.le_of_ble_eq_true rfl) hL dL_one_31 (fun Hd5 vd5 md5 locs hI hbd hk hL => ?_)
    refine tr_toS F hl.1 hI hbd (by omega) hR (rm_c (by omega)) (rm_s (by omega)) (Nat.le_of_ble_eq_true rfl) hL dL_one_34 (fun Ht6 rt6 vt6 locs hI2 ht6 pt6 qt6 zt6 ot6 hL => ?_)
    have ft6 := hI.2.1
    have hI := hI2
    refine lv_goto (tgt := 146) hx hb dL_one_37 rfl ?_
    exact hend ls _ _ _ _ _ _ _ (by omega) (by omega) hI (by omega) (by omega) (by omega) ht6 hL
end SP98y
section SP98yr
variable {p : Program} {l : Launch} {e : Env} {Rm : Room} {s : State} {m : MethodId} {args : Array Value} {below : List Frame} {meth : Method} {c : Code} {Q : State → Prop} {H H0 H2 : Heap} {locs : List Loc} {cs ss pc B0 : Nat} {ls : Array Slot}
variable {bc : ByteArray} {nL : Nat} {rt : Option FieldType} {st : List Value} {D : va_G} {cB : ClassId} {a v n mm r v0 w : Nat}
/-- one() is called -/
theorem tr_one {x : Int32} (F : sb_fr p s m args meth c "DoorsForThreeLaw" bc nL rt) (hls : ls.size = nL) (hI : tx_I D cB B0 H0 s H) (hR : 8 ≤ Rm.frames ∧ 320 ≤ Rm.locals) (hcs : cs + 6 ≤ Rm.cells) (hss : ss + 13000 ≤ Rm.slots) (hsum : (st.map fun v => v.category).sum ≤ 8) (hL : ∀ q ∈ locs, B0 ≤ q.base) (hdg : decode bc pc = .ok (.invokestatic 44, 3))
    (kk : ∀ (H2 : Heap) (r v0 w : Nat) (locs1 : List Loc), tx_I D cB B0 H0 s H2 → sv_S r v0 w s H2 → w ≤ 2 → H.size ≤ r → H.size ≤ v0 → H.size ≤ H2.size → (∀ q, q < H.size → H2[q]? = H[q]?) → (∀ q ∈ locs1, B0 ≤ q.base) → W p l e Rm s m args below meth c H2 locs1 (cs + 6) (ss + 13000) Q (F0 m (pc + 3) ls (.ref r :: st))) : W p l e Rm s m args below meth c H locs cs ss Q (F0 m pc ls (.int x :: st)) := by
  refine sb_callS (B0 := B0) (As := [.int x]) (st := st) (k := 1) (d := 7) (mc := 6) (ms := 13000) F (tx_one (l := l) (D := D) (cB := cB)) tc_one ti_L tl_L44 tS_one ⟨by decide, by decide, by decide +kernel⟩ rfl hdg hls (by decide) hsum hR.1 hR.2 hcs hss tx_Wpv (fun U hU hW => tx_Wgo hI.1 (Nat.le_trans hI.2.2.2 hI.2.1) hU hW) hL ?_
  intro y st0 t locs1 e0 q1 hal z o hL1
  obtain ⟨q, v, w, q1, q2, q3, q4, q5⟩ := q1
  subst q1
  rw [e0] at q3 q4
  have oo : ∀ q, q < H.size → t.heap[q]? = H[q]? := fun q hq => o q hq (fun w => w)
  exact kk t.heap q v w locs1 (tx_I_grow hI z oo) (sv_on hal.symm rfl rfl q5) q2 q3 q4 z oo hL1
end SP98yr
section SP98ys
variable {l : Launch} {B0 : Nat} {D : va_G} {cB : ClassId}
set_option maxHeartbeats 8000000 in
/-- says(x, y) -/
theorem tx_says {x y : Int32} : sb_met l B0 yL_says cL_says 5 (some (.object "java/lang/String")) 8 30 72000 [.int x, .int y] (fun U => tx_W D cB B0 U U.heap ∧ B0 ≤ U.heap.size) (fun r st t => ∃ q v w, r = some (.ref q) ∧ w ≤ 20 ∧ st.heap.size ≤ q ∧ st.heap.size ≤ v ∧ sv_S q v w t t.heap) sb_no := by
  refine sb_of (by decide) (fun p e s m below meth c F hP => ?_)
  obtain ⟨hx, hb, hml, hr, hlocks, hts, hown⟩ := id F
  obtain ⟨hW, hB0⟩ := hP
  have hI : tx_I D cB B0 s.heap s s.heap := ⟨hW, Nat.le_refl _, fun _ _ => rfl, hB0⟩
  have hR8 : 8 ≤ (sb_room 8 30 72000).frames ∧ 320 ≤ (sb_room 8 30 72000).locals := ⟨Nat.le_refl _, Nat.le_refl _⟩
  have hR : 7 ≤ (sb_room 8 30 72000).frames ∧ 280 ≤ (sb_room 8 30 72000).locals := ⟨Nat.le_of_ble_eq_true rfl, Nat.le_of_ble_eq_true rfl⟩
  have hend : ∀ (ls : Array Slot) (H : Heap) (locs : List Loc) (cs ss q v w : Nat), cs ≤ 30 → ss ≤ 72000 → tx_I D cB B0 s.heap s H → w ≤ 20 → s.heap.size ≤ q → s.heap.size ≤ v → sv_S q v w s H → (∀ y ∈ locs, B0 ≤ y.base) → W p l e (sb_room 8 30 72000) s m #[.int x, .int y] below meth c H locs cs ss (MQ below (sb_Q (fun r st t => ∃ q v w, r = some (.ref q) ∧ w ≤ 20 ∧ st.heap.size ≤ q ∧ st.heap.size ≤ v ∧ sv_S q v w t t.heap) sb_no) #[.int x, .int y] s 30 72000 (cm_A B0)) (F0 m 179 ls [.ref q]) := by
    intro ls H locs cs ss q v w h1 h2 hI2 h3 h4 h5 hS hL
    refine W.widen (k := 30) (n := 72000) h1 h2 ?_
    exact W.aret hx hb hr (Or.inl ⟨_, rfl⟩) (Or.inr ⟨_, rfl⟩) (fun t e1 e2 => ⟨_, rfl, ⟨q, v, w, rfl, h3, h4, h5, sv_on e2.alike (by rw [e1]) (by rw [e1]) hS⟩, by rw [e1]; exact hI2.2.1, fun y h6 _ => by rw [e1]; exact hI2.2.2.1 y h6⟩) hL dL_says_179
  have hL : ∀ q ∈ ([] : List Loc), B0 ≤ q.base := fun q hq => by cases hq
  have hl := lv_entry ([.int x, .int y]) (n := 5) (Nat.le_of_ble_eq_true rfl)
  rw [lg_entry_eq]
  generalize (lg_sl ([.int x, .int y]) ++ List.replicate (5 - (lg_sl ([.int x, .int y])).length) Slot.unset).toArray = ls at hl ⊢
  have hl : lv_has ls 5 [(0, .int x), (1, .int y)] := hl
  refine lv_iload_n hx hb dL_says_0 rfl (lv_at hl 0 rfl) ?_
  refine tr_one F hl.1 hI hR8 (rm_c (by omega)) (rm_s (by omega)) (Nat.le_of_ble_eq_true rfl) hL dL_says_1 (fun HA rA vA wA locs hI hA bA pA qA zA oA hL => ?_)
  refine lv_astore_n (lv' := [(2, .ref rA), (0, .int x), (1, .int y)]) hx hb dL_says_4 rfl hl (by decide) rfl (fun ls hl => ?_)
  refine lv_iload_n hx hb dL_says_5 rfl (lv_at hl 2 rfl) ?_
  refine tr_one F hl.1 hI hR8 (rm_c (by omega)) (rm_s (by omega)) (Nat.le_of_ble_eq_true rfl) hL dL_says_6 (fun HB rB vB wB locs hI hB bB pB qB zB oB hL => ?_)
  have hA := sv_grow hA oB
  refine lv_astore_n (lv' := [(3, .ref rB), (2, .ref rA), (0, .int x), (1, .int y)]) hx hb dL_says_9 rfl hl (by decide) rfl (fun ls hl => ?_)
  refine lv_iload_n hx hb dL_says_10 rfl (lv_at hl 2 rfl) ?_
  refine lv_bipush (v := nI 8) hx hb dL_says_11 (by decide) ?_
  refine lv_ishr hx hb dL_says_13 ?_
  refine lv_bipush (v := nI 11) hx hb dL_says_14 (by decide) ?_
  refine tr_some (k := 11) F hl.1 (by omega) (by omega) hR (rm_c (by omega)) (rm_s (by omega)) (Nat.le_of_ble_eq_true rfl) hL dL_says_16 (fun j locs hj hL => ?_)
  refine lv_istore (lv' := [(4, .int (nI j)), (3, .ref rB), (2, .ref rA), (0, .int x), (1, .int y)]) hx hb dL_says_19 hl (by decide) rfl (fun ls hl => ?_)
  refine lv_iload hx hb dL_says_21 (lv_at hl 0 rfl) ?_
  refine lv_if_ne (tgt := 30) hx hb dL_says_23 rfl (fun w0 => ?_) (fun w0 => ?_)
  · refine lv_iload hx hb dL_says_30 (lv_at hl 0 rfl) ?_
    refine lv_bipush (v := nI 9) hx hb dL_says_32 (by decide) ?_
    refine lv_icmp_ge (tgt := 75) hx hb dL_says_34 rfl (fun w1 => ?_) (fun w1 => ?_)
    · refine lv_iload hx hb dL_says_75 (lv_at hl 0 rfl) ?_
      refine lv_bipush (v := nI 9) hx hb dL_says_77 (by decide) ?_
      refine lv_icmp_ne (tgt := 132) hx hb dL_says_79 rfl (fun w2 => ?_) (fun w2 => ?_)
      · refine tr_new F hl.1 hI hR (rm_c (by omega)) (rm_s (by omega)) (Nat.le_of_ble_eq_true rfl) hL dL_says_132 dL_says_135 dL_says_136 (fun Hb1 a vb1 locs hI hbd hk hL => ?_)
        have hA := hk _ _ _ hA
        have hB := hk _ _ _ hB
        refine tr_ldc F hI (List.mem_of_getElem? (i := 8) rfl) dL_says_139 (fun rc2 vc2 hc2 gc2 pc2 => ?_)
        have ac2 := tx_s_c hbd hc2 gc2 pc2
        refine tr_aS F hl.1 hI hbd ac2 (by omega) hR (rm_c (by omega)) (rm_s (by omega)) (Nat.le_of_ble_eq_true rfl) hL dL_says_141 (fun Hd3 vd3 md3 locs hI hbd hk hL => ?_)
        have hA := hk _ _ _ hA
        have hB := hk _ _ _ hB
        refine lv_aload_n hx hb dL_says_144 rfl (lv_at hl 2 rfl) ?_
        refine tr_aS F hl.1 hI hbd hA (by omega) hR (rm_c (by omega)) (rm_s (by omega)) (Nat.le_of_ble_eq_true rfl) hL dL_says_145 (fun Hd4 vd4 md4 locs hI hbd hk hL => ?_)
        have hA := hk _ _ _ hA
        have hB := hk _ _ _ hB
        refine tr_ldc F hI (List.mem_of_getElem? (i := 9) rfl) dL_says_148 (fun rc5 vc5 hc5 gc5 pc5 => ?_)
        have ac5 := tx_s_c hbd hc5 gc5 pc5
        refine tr_aS F hl.1 hI hbd ac5 (by omega) hR (rm_c (by omega)) (rm_s (by omega)) (Nat.le_of_ble_eq_true rfl) hL dL_says_150 (fun Hd6 vd6 md6 locs hI hbd hk hL => ?_)
        have hA := hk _ _ _ hA
        have hB := hk _ _ _ hB
        refine lv_aload_n hx hb dL_says_153 rfl (lv_at hl 1 rfl) ?_
        refine tr_aS F hl.1 hI hbd hB (by omega) hR (rm_c (by omega)) (rm_s (by omega)) (Nat.le_of_ble_eq_true rfl) hL dL_says_154 (fun Hd7 vd7 md7 locs hI hbd hk hL => ?_)
        have hA := hk _ _ _ hA
        have hB := hk _ _ _ hB
        refine tr_ldc F hI (List.mem_of_getElem? (i := 10) rfl) dL_says_157 (fun rc8 vc8 hc8 gc8 pc8 => ?_)
        have ac8 := tx_s_c hbd hc8 gc8 pc8
        refine tr_aS F hl.1 hI hbd ac8 (by omega) hR (rm_c (by omega)) (rm_s (by omega)) (Nat.le_of_ble_eq_true rfl) hL dL_says_159 (fun Hd9 vd9 md9 locs hI hbd hk hL => ?_)
        have hA := hk _ _ _ hA
        have hB := hk _ _ _ hB
        refine lv_iload_n hx hb dL_says_162 rfl (lv_at hl 4 rfl) ?_
        refine lv_iconst (v := nI 3) hx hb dL_says_163 (by decide) ?_
        refine lv_ishr hx hb dL_says_164 ?_
        refine tr_one F hl.1 hI hR8 (rm_c (by omega)) (rm_s (by omega)) (Nat.le_of_ble_eq_true rfl) hL dL_says_165 (fun HC rC vC wC locs hI hC bC pC qC zC oC hL => ?_)
        have hA := tx_s_grow hA oC
        have hB := tx_s_grow hB oC
        have sC := tx_s_n hbd hC pC qC
        have hbd := tx_b_grow hbd oC
        refine tr_aS F hl.1 hI hbd sC (by omega) hR (rm_c (by omega)) (rm_s (by omega)) (Nat.le_of_ble_eq_true rfl) hL dL_says_168 (fun Hd10 vd10 md10 locs hI hbd hk hL => ?_)
        have hA := hk _ _ _ hA
        have hB := hk _ _ _ hB
        have sC := hk _ _ _ sC
        refine tr_ldc F hI (List.mem_of_getElem? (i := 11) rfl) dL_says_171 (fun rc11 vc11 hc11 gc11 pc11 => ?_)
        have ac11 := tx_s_c hbd hc11 gc11 pc11
        refine tr_aS F hl.1 hI hbd ac11 (by omega) hR (rm_c (by omega)) (rm_s (by omega)) (Nat.le_of_ble_eq_true rfl) hL dL_says_173 (fun Hd12 vd12 md12 locs hI hbd hk hL => ?_)
        have hA := hk _ _ _ hA
        have hB := hk _ _ _ hB
        have sC := hk _ _ _ sC
        refine tr_toS F hl.1 hI hbd (by omega) hR (rm_c (by omega)) (rm_s (by omega)) (Nat.le_of_ble_eq_true rfl) hL dL_says_176 (fun Ht13 rt13 vt13 locs hI2 ht13 pt13 qt13 zt13 ot13 hL => ?_)
        have ft13 := hI.2.1
        have hI := hI2
        exact hend ls _ _ _ _ _ _ _ (by omega) (by omega) hI (by omega) (by omega) (by omega) ht13 hL
      · refine tr_new F hl.1 hI hR (rm_c (by omega)) (rm_s (by omega)) (Nat.le_of_ble_eq_true rfl) hL dL_says_82 dL_says_85 dL_says_86 (fun Hb1 a vb1 locs hI hbd hk hL => ?_)
        have hA := hk _ _ _ hA
        have hB := hk _ _ _ hB
        refine tr_ldc F hI (List.mem_of_getElem? (i := 5) rfl) dL_says_89 (fun rc2 vc2 hc2 gc2 pc2 => ?_)
        have ac2 := tx_s_c hbd hc2 gc2 pc2
        refine tr_aS F hl.1 hI hbd ac2 (by omega) hR (rm_c (by omega)) (rm_s (by omega)) (Nat.le_of_ble_eq_true rfl) hL dL_says_91 (fun Hd3 vd3 md3 locs hI hbd hk hL => ?_)
        have hA := hk _ _ _ hA
        have hB := hk _ _ _ hB
        refine lv_aload_n hx hb dL_says_94 rfl (lv_at hl 2 rfl) ?_
        refine tr_aS F hl.1 hI hbd hA (by omega) hR (rm_c (by omega)) (rm_s (by omega)) (Nat.le_of_ble_eq_true rfl) hL dL_says_95 (fun Hd4 vd4 md4 locs hI hbd hk hL => ?_)
        have hA := hk _ _ _ hA
        have hB := hk _ _ _ hB
        refine tr_ldc F hI (List.mem_of_getElem? (i := 3) rfl) dL_says_98 (fun rc5 vc5 hc5 gc5 pc5 => ?_)
        have ac5 := tx_s_c hbd hc5 gc5 pc5
        refine tr_aS F hl.1 hI hbd ac5 (by omega) hR (rm_c (by omega)) (rm_s (by omega)) (Nat.le_of_ble_eq_true rfl) hL dL_says_100 (fun Hd6 vd6 md6 locs hI hbd hk hL => ?_)
        have hA := hk _ _ _ hA
        have hB := hk _ _ _ hB
        refine lv_aload_n hx hb dL_says_103 rfl (lv_at hl 1 rfl) ?_
        refine tr_aS F hl.1 hI hbd hB (by omega) hR (rm_c (by omega)) (rm_s (by omega)) (Nat.le_of_ble_eq_true rfl) hL dL_says_104 (fun Hd7 vd7 md7 locs hI hbd hk hL => ?_)
        have hA := hk _ _ _ hA
        have hB := hk _ _ _ hB
        refine tr_ldc F hI (List.mem_of_getElem? (i := 6) rfl) dL_says_107 (fun rc8 vc8 hc8 gc8 pc8 => ?_)
        have ac8 := tx_s_c hbd hc8 gc8 pc8
        refine tr_aS F hl.1 hI hbd ac8 (by omega) hR (rm_c (by omega)) (rm_s (by omega)) (Nat.le_of_ble_eq_true rfl) hL dL_says_109 (fun Hd9 vd9 md9 locs hI hbd hk hL => ?_)
        have hA := hk _ _ _ hA
        have hB := hk _ _ _ hB
        refine lv_iload_n hx hb dL_says_112 rfl (lv_at hl 3 rfl) ?_
        refine lv_iconst (v := nI 3) hx hb dL_says_113 (by decide) ?_
        refine lv_ishr hx hb dL_says_114 ?_
        refine tr_one F hl.1 hI hR8 (rm_c (by omega)) (rm_s (by omega)) (Nat.le_of_ble_eq_true rfl) hL dL_says_115 (fun HC rC vC wC locs hI hC bC pC qC zC oC hL => ?_)
        have hA := tx_s_grow hA oC
        have hB := tx_s_grow hB oC
        have sC := tx_s_n hbd hC pC qC
        have hbd := tx_b_grow hbd oC
        refine tr_aS F hl.1 hI hbd sC (by omega) hR (rm_c (by omega)) (rm_s (by omega)) (Nat.le_of_ble_eq_true rfl) hL dL_says_118 (fun Hd10 vd10 md10 locs hI hbd hk hL => ?_)
        have hA := hk _ _ _ hA
        have hB := hk _ _ _ hB
        have sC := hk _ _ _ sC
        refine tr_ldc F hI (List.mem_of_getElem? (i := 7) rfl) dL_says_121 (fun rc11 vc11 hc11 gc11 pc11 => ?_)
        have ac11 := tx_s_c hbd hc11 gc11 pc11
        refine tr_aS F hl.1 hI hbd ac11 (by omega) hR (rm_c (by omega)) (rm_s (by omega)) (Nat.le_of_ble_eq_true rfl) hL dL_says_123 (fun Hd12 vd12 md12 locs hI hbd hk hL => ?_)
        have hA := hk _ _ _ hA
        have hB := hk _ _ _ hB
        have sC := hk _ _ _ sC
        refine tr_toS F hl.1 hI hbd (by omega) hR (rm_c (by omega)) (rm_s (by omega)) (Nat.le_of_ble_eq_true rfl) hL dL_says_126 (fun Ht13 rt13 vt13 locs hI2 ht13 pt13 qt13 zt13 ot13 hL => ?_)
        have ft13 := hI.2.1
        have hI := hI2
        refine lv_goto (tgt := 179) hx hb dL_says_129 rfl ?_
        exact hend ls _ _ _ _ _ _ _ (by omega) (by omega) hI (by omega) (by omega) (by omega) ht13 hL
    · refine tr_new F hl.1 hI hR (rm_c (by omega)) (rm_s (by omega)) (Nat.le_of_ble_eq_true rfl) hL dL_says_37 dL_says_40 dL_says_41 (fun Hb1 a vb1 locs hI hbd hk hL => ?_)
      have hA := hk _ _ _ hA
      have hB := hk _ _ _ hB
      refine lv_aload_n hx hb dL_says_44 rfl (lv_at hl 2 rfl) ?_
      refine tr_aS F hl.1 hI hbd hA (by omega) hR (rm_c (by omega)) (rm_s (by omega)) (Nat.le_of_ble_eq_true rfl) hL dL_says_45 (fun Hd2 vd2 md2 locs hI hbd hk hL => ?_)
      have hA := hk _ _ _ hA
      have hB := hk _ _ _ hB
      refine tr_ldc F hI (List.mem_of_getElem? (i := 4) rfl) dL_says_48 (fun rc3 vc3 hc3 gc3 pc3 => ?_)
      have ac3 := tx_s_c hbd hc3 gc3 pc3
      refine lv_iload_n hx hb dL_says_50 rfl (lv_at hl 3 rfl) ?_
      refine lv_bipush (v := nI 12) hx hb dL_says_51 (by decide) ?_
      refine lv_ishr hx hb dL_says_53 ?_
      refine lv_bipush (v := nI 10) hx hb dL_says_54 (by decide) ?_
      refine tr_some (k := 10) F hl.1 (by omega) (by omega) hR (rm_c (by omega)) (rm_s (by omega)) (Nat.le_of_ble_eq_true rfl) hL dL_says_56 (fun i locs hi hL => ?_)
      refine tr_cat F hl.1 hI hc3 hi hR (rm_c (by omega)) (rm_s (by omega)) (Nat.le_of_ble_eq_true rfl) hL dL_says_59 (fun b locs hb2 hL => ?_)
      refine tr_aC F hl.1 hI hbd hb2 (by omega) hR (rm_c (by omega)) (rm_s (by omega)) (Nat.le_of_ble_eq_true rfl) hL dL_says_62 (fun Hd4 vd4 md4 locs hI hbd hk hL => ?_)
      have hA := hk _ _ _ hA
      have hB := hk _ _ _ hB
      refine lv_aload_n hx hb dL_says_65 rfl (lv_at hl 1 rfl) ?_
      refine tr_aS F hl.1 hI hbd hB (by omega) hR (rm_c (by omega)) (rm_s (by omega)) (Nat.le_of_ble_eq_true rfl) hL dL_says_66 (fun Hd5 vd5 md5 locs hI hbd hk hL => ?_)
      have hA := hk _ _ _ hA
      have hB := hk _ _ _ hB
      refine tr_toS F hl.1 hI hbd (by omega) hR (rm_c (by omega)) (rm_s (by omega)) (Nat.le_of_ble_eq_true rfl) hL dL_says_69 (fun Ht6 rt6 vt6 locs hI2 ht6 pt6 qt6 zt6 ot6 hL => ?_)
      have ft6 := hI.2.1
      have hI := hI2
      refine lv_goto (tgt := 179) hx hb dL_says_72 rfl ?_
      exact hend ls _ _ _ _ _ _ _ (by omega) (by omega) hI (by omega) (by omega) (by omega) ht6 hL
  · refine lv_aload_n hx hb dL_says_26 rfl (lv_at hl 2 rfl) ?_
    refine lv_goto (tgt := 179) hx hb dL_says_27 rfl ?_
    exact hend ls _ _ _ _ _ _ _ (by omega) (by omega) hI (by omega) (by omega) (by omega) hA hL
end SP98ys
section SP98yt
variable {p : Program} {l : Launch} {e : Env} {Rm : Room} {s : State} {m : MethodId} {args : Array Value} {below : List Frame} {meth : Method} {c : Code} {Q : State → Prop} {H H0 H2 : Heap} {locs : List Loc} {cs ss pc B0 : Nat} {ls : Array Slot}
variable {bc : ByteArray} {nL : Nat} {rt : Option FieldType} {st : List Value} {D : va_G} {cB : ClassId} {a v n mm r v0 w : Nat}
/-- says() is called -/
theorem tr_says {x y : Int32} (F : sb_fr p s m args meth c "DoorsForThreeLaw" bc nL rt) (hls : ls.size = nL) (hI : tx_I D cB B0 H0 s H) (hR : 9 ≤ Rm.frames ∧ 360 ≤ Rm.locals) (hcs : cs + 30 ≤ Rm.cells) (hss : ss + 72000 ≤ Rm.slots) (hsum : (st.map fun v => v.category).sum ≤ 8) (hL : ∀ q ∈ locs, B0 ≤ q.base) (hdg : decode bc pc = .ok (.invokestatic 68, 3))
    (kk : ∀ (H2 : Heap) (r v0 w : Nat) (locs1 : List Loc), tx_I D cB B0 H0 s H2 → sv_S r v0 w s H2 → w ≤ 20 → H.size ≤ r → H.size ≤ v0 → H.size ≤ H2.size → (∀ q, q < H.size → H2[q]? = H[q]?) → (∀ q ∈ locs1, B0 ≤ q.base) → W p l e Rm s m args below meth c H2 locs1 (cs + 30) (ss + 72000) Q (F0 m (pc + 3) ls (.ref r :: st))) : W p l e Rm s m args below meth c H locs cs ss Q (F0 m pc ls (.int y :: .int x :: st)) := by
  refine sb_callS (B0 := B0) (As := [.int x, .int y]) (st := st) (k := 2) (d := 8) (mc := 30) (ms := 72000) F (tx_says (l := l) (D := D) (cB := cB)) tc_says ti_L tl_L68 tS_says ⟨by decide, by decide, by decide +kernel⟩ rfl hdg hls (by decide) hsum hR.1 hR.2 hcs hss tx_Wpv (fun U hU hW => tx_Wgo hI.1 (Nat.le_trans hI.2.2.2 hI.2.1) hU hW) hL ?_
  intro y st0 t locs1 e0 q1 hal z o hL1
  obtain ⟨q, v, w, q1, q2, q3, q4, q5⟩ := q1
  subst q1
  rw [e0] at q3 q4
  have oo : ∀ q, q < H.size → t.heap[q]? = H[q]? := fun q hq => o q hq (fun w => w)
  exact kk t.heap q v w locs1 (tx_I_grow hI z oo) (sv_on hal.symm rfl rfl q5) q2 q3 q4 z oo hL1
/-- at() is called -/
theorem tr_at {b L k : Nat} {xs : Nat → Int32} (F : sb_fr p s m args meth c "DoorsForThreeLaw" bc nL rt) (hls : ls.size = nL) (hI : tx_I D cB B0 H0 s H) (hT0 : va_T .int b L (fun j => .int (xs j)) (fun _ => False) s H0) (hL260 : L ≤ 260) (hk : k < 1000) (hR : 7 ≤ Rm.frames ∧ 280 ≤ Rm.locals) (hcs : cs ≤ Rm.cells) (hss : ss ≤ Rm.slots) (hsum : (st.map fun v => v.category).sum ≤ 8) (hL : ∀ q ∈ locs, B0 ≤ q.base) (hdg : decode bc pc = .ok (.invokestatic 64, 3))
    (kk : ∀ (y : Int32) (locs1 : List Loc), (∀ q ∈ locs1, B0 ≤ q.base) → W p l e Rm s m args below meth c H locs1 cs ss Q (F0 m (pc + 3) ls (.int y :: st))) : W p l e Rm s m args below meth c H locs cs ss Q (F0 m pc ls (.int (nI k) :: .ref b :: st)) := by
  have hT := hT0.kept (fun a h1 _ => hI.2.2.1 a h1)
  refine sb_callS (B0 := B0) (As := [.ref b, .int (nI k)]) (st := st) (k := 2) (d := 1) (mc := 0) (ms := 0) F (tx_at (l := l) (xs := xs) hL260 hk) tw_at ti_L tl_L64 tS_at ⟨by decide, by decide, by decide +kernel⟩ rfl hdg hls (by decide) hsum (show 1 + 1 ≤ Rm.frames by omega) (by show 40 * (1 + 1) ≤ Rm.locals; omega) hcs hss (sb_pvX (Pre := fun U H => va_T .int b L (fun j => .int (xs j)) (fun _ => False) U H) (fun U V H hv q => va_T.moved hv q)) (fun U hU hW => by rw [hU]; exact va_T.moved hW.alike hT) hL ?_
  intro y st0 t locs1 e0 q1 hal z o hL1
  obtain ⟨q1, j, q2⟩ := q1
  subst q2
  rw [e0] at q1
  rw [q1]
  exact kk j locs1 hL1
/-- a string's length -/
theorem tr_len (F : sb_fr p s m args meth c "DoorsForThreeLaw" bc nL rt) (hls : ls.size = nL) (hI : tx_I D cB B0 H0 s H) (hS : sv_S r v0 w s H) (hR : 7 ≤ Rm.frames ∧ 280 ≤ Rm.locals) (hcs : cs ≤ Rm.cells) (hss : ss ≤ Rm.slots) (hsum : (st.map fun v => v.category).sum ≤ 8) (hL : ∀ q ∈ locs, B0 ≤ q.base) (hdg : decode bc pc = .ok (.invokevirtual 78, 3))
    (kk : ∀ (locs1 : List Loc), (∀ q ∈ locs1, B0 ≤ q.base) → W p l e Rm s m args below meth c H locs1 cs ss Q (F0 m (pc + 3) ls (.int (nI w) :: st))) : W p l e Rm s m args below meth c H locs cs ss Q (F0 m pc ls (.ref r :: st)) := by
  obtain ⟨hx, hbb, hml, hr, hlocks, hts, hown⟩ := id F
  have hX := hI.1.2.1
  refine sb_callV (C := "java/lang/String") (As := []) (st := st) (k := 0) (d := 2) (mc := 0) (ms := 0) F (tx_len (l := l) (B0 := B0) (r := r) (v := v0) (w := w)) tc_len ti_S tl_L78 tm_len (hts _ (sb_tb_i te_len rfl)) ⟨by decide, by decide, by decide +kernel⟩ rfl (sv_recv hS) hdg hls (by decide) hsum (show 2 + 1 ≤ Rm.frames by omega) (by show 40 * (2 + 1) ≤ Rm.locals; omega) hcs hss sv_pv (fun U hU hW => sv_go hS hX hU hW) hL ?_
  intro x st0 t locs1 e0 q1 hal z o hL1
  obtain ⟨q1, q2⟩ := q1
  subst q2
  rw [e0] at q1
  rw [q1]
  exact kk locs1 hL1
end SP98yt
