/-! the law from behind world() on, on the machine; its end -/
theorem am_ret_f {call : am_C} {K : am_K} {ins : Instr} {k1 k2 k3 : Nat} {v : Int32} {sw : List (Int32 × Nat)} {i : Nat} {lo : am_L} {st : List Value} {mi : am_MI} {ml : am_ML} (hr : am_isret ins = true) (h : am_st call K (fun _ _ _ => False) ins k1 k2 k3 v sw i lo st mi ml) : False := by
  unfold am_isret at hr
  split at hr
  · unfold am_st at h
    simp only at h
    split at h
    · split at h
      · exact h
      · exact h.2
      · exact h.2
    · exact h
  · unfold am_st at h
    simp only at h
    split at h <;> exact h
  · unfold am_st at h
    simp only at h
    split at h <;> exact h
  · unfold am_st at h
    simp only at h
    split at h <;> exact h
  · cases hr
set_option maxRecDepth 1000000 in
theorem am_law_r : am_pcs mt_law 929 = 1874 := by decide +kernel
set_option maxRecDepth 1000000 in
theorem am_law_0 : am_pcs mt_law 0 = 115 := by decide +kernel
set_option maxRecDepth 1000000 in
theorem am_law_d : decode code 1874 = .ok (.ireturn, 1) := by decide +kernel
theorem am_lawrok {cs ss : Nat} (h1 : cs ≤ 100000) (h2 : ss ≤ 1500000) : am_rok room_1 64 cs ss := ⟨Nat.le_of_ble_eq_true rfl, Nat.le_of_ble_eq_true rfl, lw_rc h1, lw_rs h2⟩
theorem law_w {p : Program} {l : Launch} {e : Env} {s : State} {m : MethodId} {below : List Frame} {meth : Method} {c : Code} {b : Nat} {G : am_G} {cs ss n k v : Nat} {u : Nat → Nat → Int32} {P : List (List Nat × List Nat)} {H : Heap} {ls : Array Slot} {mi : am_MI} {ml : am_ML} {locs : List Loc}
    (F : am_fr p s m #[Value.ref b] meth c G x code 18 ret am_lkL) (hA : ∀ q, am_A G q → s.heap.size ≤ q) (hcs : cs ≤ 100000) (hss : ss ≤ 1500000)
    (hls : lv_has ls 18 [(0, .ref (G.1 117)), (1, .ref (G.1 0)), (2, .ref (G.1 78))]) (hh : am_hp G H mi ml) (hS2 : va_S (am_A G) s.heap H locs) (hv : v ≤ 850) (hI : dq_A P u n k v mi) (b0 : mi 78 0 = nI n) (b1 : mi 78 1 = nI k) (bl : mi 78 100000 = 37) :
    W p l e room_1 s m #[Value.ref b] below meth c H locs cs ss (lw_Z below #[Value.ref b] s) (F0 m 115 ls []) := by
  have hcl : am_lawK (am_mo p l e room_1 s m #[Value.ref b] below meth c cs ss (lw_Z below #[Value.ref b] s) G 18 mt_law) := by
    refine ⟨fun i lo st mi ml h => ?_, fun i lo lo2 st mi ml hle h ls H locs g1 g2 g3 => h ls H locs (am_lv_le hle g1) g2 g3⟩
    unfold am_ex at h
    split at h
    · rename_i pc ins len k1 k2 k3 v sw er
      have hc := am_chks_at am_law_ok i _ er
      rw [Nat.zero_add] at hc
      have hi : am_pcs mt_law i = pc := by
        unfold am_pcs
        rw [er]
      exact am_stp F (am_lawrok hcs hss) (am_sound l G 64) hc hi (fun hr => (am_ret_f hr h).elim) h
    · exact h.elim
  obtain ⟨hx, hb, hml, hr, hlocks, hts, hlk, hown, hK, hX⟩ := id F
  have hend : ∀ mi ml, am_mo p l e room_1 s m #[Value.ref b] below meth c cs ss (lw_Z below #[Value.ref b] s) G 18 mt_law 929 [none, none, none, none, none, none, none, none, none, none, none, none, none, none, none, none, none, none] [.int 1] mi ml := by
    intro mi ml ls H locs g1 g2 g3
    rw [am_law_r]
    exact va_forget (fun q hq => hA _ (g3.2.2 q hq)) (W.widen (k := room_1.cells) (n := room_1.slots) (lw_rc hcs) (lw_rs hss) (lw_ret hx hb hr hlocks am_law_d))
  have z := dl_all hcl hv hend hI b0 b1 bl (ml := ml)
  have w := z ls H locs hls hh hS2
  rw [am_law_0] at w
  exact w
