/-! the law's start: the temporary objects' answers, on the machine -/
def mt_st : List am_row := [
  (0, .new 85, 3, 0, 0, 0, 0, []),
  (3, .dup, 1, 0, 0, 0, 0, []),
  (4, .invokespecial 167, 3, 0, 0, 0, 0, []),
  (7, .invokevirtual 168, 3, 150, 1, 1, 0, []),
  (10, .bipush (-5), 2, 0, 0, 0, -5, []),
  (12, .if_icmp .ne 76, 3, 39, 0, 0, 0, []),
  (15, .new 85, 3, 0, 0, 0, 0, []),
  (18, .dup, 1, 0, 0, 0, 0, []),
  (19, .invokespecial 167, 3, 0, 0, 0, 0, []),
  (22, .invokevirtual 171, 3, 149, 1, 1, 0, []),
  (25, .ifCond .ne 63, 3, 39, 0, 0, 0, []),
  (28, .new 85, 3, 0, 0, 0, 0, []),
  (31, .dup, 1, 0, 0, 0, 0, []),
  (32, .invokespecial 167, 3, 0, 0, 0, 0, []),
  (35, .invokevirtual 174, 3, 145, 1, 1, 0, []),
  (38, .iconst 1, 1, 0, 0, 0, 1, []),
  (39, .if_icmp .ne 49, 3, 39, 0, 0, 0, []),
  (42, .new 85, 3, 0, 0, 0, 0, []),
  (45, .dup, 1, 0, 0, 0, 0, []),
  (46, .invokespecial 167, 3, 0, 0, 0, 0, []),
  (49, .iconst 0, 1, 0, 0, 0, 0, []),
  (50, .iconst 0, 1, 0, 0, 0, 0, []),
  (51, .invokevirtual 177, 3, 146, 3, 1, 0, []),
  (54, .iconst (-1), 1, 0, 0, 0, -1, []),
  (55, .if_icmp .ne 33, 3, 39, 0, 0, 0, []),
  (58, .new 85, 3, 0, 0, 0, 0, []),
  (61, .dup, 1, 0, 0, 0, 0, []),
  (62, .invokespecial 167, 3, 0, 0, 0, 0, []),
  (65, .iconst 0, 1, 0, 0, 0, 0, []),
  (66, .invokevirtual 155, 3, 129, 2, 1, 0, []),
  (69, .ifCond .ne 19, 3, 39, 0, 0, 0, []),
  (72, .new 85, 3, 0, 0, 0, 0, []),
  (75, .dup, 1, 0, 0, 0, 0, []),
  (76, .invokespecial 167, 3, 0, 0, 0, 0, []),
  (79, .iconst 1, 1, 0, 0, 0, 1, []),
  (80, .iconst 1, 1, 0, 0, 0, 1, []),
  (81, .iconst (-1), 1, 0, 0, 0, -1, []),
  (82, .invokevirtual 164, 3, 144, 4, 1, 0, []),
  (85, .ifCond .eq 5, 3, 41, 0, 0, 0, []),
  (88, .iconst 0, 1, 0, 0, 0, 0, []),
  (89, .ireturn, 1, 0, 0, 0, 0, []),
  (90, .new 85, 3, 0, 0, 0, 0, [])]
def st_gd : List Nat := [3, 4, 5, 9, 10, 14, 15, 16, 20, 21, 22, 23, 24, 28, 29, 30, 34, 35, 36, 37, 38]
set_option maxRecDepth 1000000 in
theorem st_ok : st_gd.all (fun i => match mt_st[i]? with | some r => am_chk x code 18 ret am_lkL mt_st i r | none => false) = true := by decide +kernel
/-- what goes on along the start's rows -/
def st_K (K : am_K) : Prop := ∀ i pc ins len k1 k2 k3 v sw lo st mi ml, i ∈ st_gd → mt_st[i]? = some (pc, ins, len, k1, k2, k3, v, sw) → am_isret ins = false → am_st (am_call 64) K (fun _ _ _ => False) ins k1 k2 k3 v sw i lo st mi ml → K i lo st mi ml
theorem st_go {p : Program} {l : Launch} {e : Env} {s : State} {m : MethodId} {below : List Frame} {meth : Method} {c : Code} {b : Nat} {G : am_G} {cs ss : Nat} {Q : State → Prop}
    (F : am_fr p s m #[Value.ref b] meth c G x code 18 ret am_lkL) (hcs : cs ≤ 100000) (hss : ss ≤ 1500000) : st_K (am_mo p l e room_1 s m #[Value.ref b] below meth c cs ss Q G 18 mt_st) := by
  intro i pc ins len k1 k2 k3 v sw lo st mi ml hg er hnr h
  have hc := List.all_eq_true.mp st_ok i hg
  rw [er] at hc
  have hi : am_pcs mt_st i = pc := by
    unfold am_pcs
    rw [er]
  exact am_stp F (am_lawrok hcs hss) (am_sound l G 64) hc hi (fun hr => by rw [hnr] at hr; cases hr) h
section SP89p
variable {K : am_K} {L : Nat} {xs : Nat → Int32} {q φ : Int32} {b : am_MI} {ml : am_ML} {lo : am_L}
theorem sg_3 (h : st_K K) (hb : ∀ c j, c < 138 → b c j = am_us cw_L (nw_mi L xs q φ) c j) (hn : ∀ mi ml, K 6 lo [] mi ml) : K 3 lo [.ref 0] b ml :=
  h 3 _ _ _ _ _ _ _ _ _ _ _ _ (by decide) rfl rfl (show am_call 64 150 [.ref 0] b ml (am_ri fun r mi ml => K 4 lo [.int r] mi ml) from ct_back hb (am_ri_i (h 4 _ _ _ _ _ _ _ _ _ _ _ _ (by decide) rfl rfl (show K 5 lo [.int (-5), .int (-5)] b ml from h 5 _ _ _ _ _ _ _ _ _ _ _ _ (by decide) rfl rfl (show ((-5 : Int32) ≠ -5 → K 39 lo [] b ml) ∧ (¬ (-5 : Int32) ≠ -5 → K 6 lo [] b ml) from ⟨fun w => absurd rfl w, fun _ => hn _ _⟩)))))
theorem sg_9 (h : st_K K) (hb : ∀ c j, c < 138 → b c j = am_us cw_L (nw_mi L xs q φ) c j) (hn : ∀ mi ml, K 11 lo [] mi ml) : K 9 lo [.ref 0] b ml :=
  h 9 _ _ _ _ _ _ _ _ _ _ _ _ (by decide) rfl rfl (show am_call 64 149 [.ref 0] b ml (am_ri fun r mi ml => K 10 lo [.int r] mi ml) from ct_image hb (fun m2 => am_ri_i (h 10 _ _ _ _ _ _ _ _ _ _ _ _ (by decide) rfl rfl (show ((0 : Int32) ≠ 0 → K 39 lo [] m2 ml) ∧ (¬ (0 : Int32) ≠ 0 → K 11 lo [] m2 ml) from ⟨fun w => absurd rfl w, fun _ => hn _ _⟩))))
theorem sg_14 (h : st_K K) (hb : ∀ c j, c < 138 → b c j = am_us cw_L (nw_mi L xs q φ) c j) (hn : ∀ mi ml, K 17 lo [] mi ml) : K 14 lo [.ref 0] b ml :=
  h 14 _ _ _ _ _ _ _ _ _ _ _ _ (by decide) rfl rfl (show am_call 64 145 [.ref 0] b ml (am_ri fun r mi ml => K 15 lo [.int r] mi ml) from ct_day hb (fun m2 => am_ri_i (h 15 _ _ _ _ _ _ _ _ _ _ _ _ (by decide) rfl rfl (show K 16 lo [.int 1, .int 1] m2 ml from h 16 _ _ _ _ _ _ _ _ _ _ _ _ (by decide) rfl rfl (show ((1 : Int32) ≠ 1 → K 39 lo [] m2 ml) ∧ (¬ (1 : Int32) ≠ 1 → K 17 lo [] m2 ml) from ⟨fun w => absurd rfl w, fun _ => hn _ _⟩)))))
theorem sg_20 (hL : L ≤ 260) (h : st_K K) (hb : ∀ c j, c < 138 → b c j = am_us cw_L (nw_mi L xs q φ) c j) (hn : ∀ mi ml, K 25 lo [] mi ml) : K 20 lo [.ref 0] b ml :=
  h 20 _ _ _ _ _ _ _ _ _ _ _ _ (by decide) rfl rfl (show K 21 lo [.int 0, .ref 0] b ml from h 21 _ _ _ _ _ _ _ _ _ _ _ _ (by decide) rfl rfl (show K 22 lo [.int 0, .int 0, .ref 0] b ml from h 22 _ _ _ _ _ _ _ _ _ _ _ _ (by decide) rfl rfl (show am_call 64 146 [.ref 0, .int 0, .int 0] b ml (am_ri fun r mi ml => K 23 lo [.int r] mi ml) from ct_open hL hb (am_ri_i (h 23 _ _ _ _ _ _ _ _ _ _ _ _ (by decide) rfl rfl (show K 24 lo [.int (-1), .int (-1)] b ml from h 24 _ _ _ _ _ _ _ _ _ _ _ _ (by decide) rfl rfl (show ((-1 : Int32) ≠ -1 → K 39 lo [] b ml) ∧ (¬ (-1 : Int32) ≠ -1 → K 25 lo [] b ml) from ⟨fun w => absurd rfl w, fun _ => hn _ _⟩)))))))
theorem sg_28 (hL : L ≤ 260) (h : st_K K) (hb : ∀ c j, c < 138 → b c j = am_us cw_L (nw_mi L xs q φ) c j) (hn : ∀ mi ml, K 31 lo [] mi ml) : K 28 lo [.ref 0] b ml :=
  h 28 _ _ _ _ _ _ _ _ _ _ _ _ (by decide) rfl rfl (show K 29 lo [.int 0, .ref 0] b ml from h 29 _ _ _ _ _ _ _ _ _ _ _ _ (by decide) rfl rfl (show am_call 64 129 [.ref 0, .int 0] b ml (am_ri fun r mi ml => K 30 lo [.int r] mi ml) from ct_best hL hb (fun m2 => am_ri_i (h 30 _ _ _ _ _ _ _ _ _ _ _ _ (by decide) rfl rfl (show ((0 : Int32) ≠ 0 → K 39 lo [] m2 ml) ∧ (¬ (0 : Int32) ≠ 0 → K 31 lo [] m2 ml) from ⟨fun w => absurd rfl w, fun _ => hn _ _⟩)))))
theorem sg_34 (hL : L ≤ 260) (h : st_K K) (hb : ∀ c j, c < 138 → b c j = am_us cw_L (nw_mi L xs q φ) c j) (hn : ∀ mi ml, K 41 lo [] mi ml) : K 34 lo [.ref 0] b ml :=
  h 34 _ _ _ _ _ _ _ _ _ _ _ _ (by decide) rfl rfl (show K 35 lo [.int 1, .ref 0] b ml from h 35 _ _ _ _ _ _ _ _ _ _ _ _ (by decide) rfl rfl (show K 36 lo [.int 1, .int 1, .ref 0] b ml from h 36 _ _ _ _ _ _ _ _ _ _ _ _ (by decide) rfl rfl (show K 37 lo [.int (-1), .int 1, .int 1, .ref 0] b ml from h 37 _ _ _ _ _ _ _ _ _ _ _ _ (by decide) rfl rfl (show am_call 64 144 [.ref 0, .int 1, .int 1, .int (-1)] b ml (am_ri fun r mi ml => K 38 lo [.int r] mi ml) from ct_drawn hL hb (fun m2 => am_ri_i (h 38 _ _ _ _ _ _ _ _ _ _ _ _ (by decide) rfl rfl (show ((0 : Int32) = 0 → K 41 lo [] m2 ml) ∧ (¬ (0 : Int32) = 0 → K 39 lo [] m2 ml) from ⟨fun _ => hn _ _, fun w => absurd rfl w⟩)))))))
end SP89p
