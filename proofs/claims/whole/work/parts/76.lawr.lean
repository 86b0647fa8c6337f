/-! the law's loop, on the machine -/
theorem am_ret_f {call : am_C} {K : am_K} {ins : Instr} {k1 k2 k3 : Nat} {v : Int32} {sw : List (Int32 × Nat)} {i : Nat} {lo : am_L} {st : List Value} {mi : am_MI} {ml : am_ML} (hr : am_isret ins = true) (h : am_st call K (fun _ _ _ => False) ins k1 k2 k3 v sw i lo st mi ml) : False := by
  unfold am_isret at hr
  split at hr
  · unfold am_st at h
    simp only at h
    split at h
    · split at h
      · exact h
      · exact h.2
    · exact h
  · unfold am_st at h
    simp only at h
    split at h <;> exact h
  · unfold am_st at h
    simp only at h
    split at h <;> exact h
  · unfold am_st at h
    simp only at h
    split at h <;> exact h
  · cases hr
set_option maxRecDepth 1000000 in
theorem am_law_r : am_pcs mt_law 1117 = 1611 := by decide +kernel
set_option maxRecDepth 1000000 in
theorem am_law_0 : am_pcs mt_law 0 = 16 := by decide +kernel
set_option maxRecDepth 1000000 in
theorem am_law_d : decode code 1611 = .ok (.ireturn, 1) := by decide +kernel
theorem am_lawrok {cs ss : Nat} (h1 : cs ≤ 600000) (h2 : ss ≤ 7302250) : am_rok room_1 64 cs ss := ⟨Nat.le_of_ble_eq_true rfl, Nat.le_of_ble_eq_true rfl, h1, h2⟩
theorem law_w {p : Program} {l : Launch} {e : Env} {s : State} {m : MethodId} {below : List Frame} {meth : Method} {c : Code} {b : Nat} {G : am_G} {cs ss L : Nat} {H : Heap} {ls : Array Slot} {mi : am_MI} {ml : am_ML}
    (F : am_fr p s m #[Value.ref b] meth c G x code 4 ret am_lkL) (hA : ∀ k, k < am_N → s.heap.size ≤ G.1 k) (hcs : cs ≤ 600000) (hss : ss ≤ 7302250) (hL : L ≤ 3072) (hS : G.2.2.2 117 100000 = nI L)
    (hls : lv_has ls 4 [(0, .ref (G.1 117)), (1, .ref (G.1 0)), (2, .ref (G.1 78))]) (hh : am_hp G H mi ml) (hS2 : va_S (am_A G) s.heap H []) (hI : am_I 0 mi ml) :
    W p l e room_1 s m #[Value.ref b] below meth c H [] cs ss (lw_Z below #[Value.ref b] s) (F0 m 16 ls []) := by
  have hcl : am_lawK (am_mo p l e room_1 s m #[Value.ref b] below meth c cs ss (lw_Z below #[Value.ref b] s) G 4 mt_law) := by
    intro i lo st mi ml h
    unfold am_ex at h
    split at h
    · rename_i pc ins len k1 k2 k3 v sw er
      have hc := am_chks_at am_law_ok i _ er
      rw [Nat.zero_add] at hc
      have hi : am_pcs mt_law i = pc := by
        unfold am_pcs
        rw [er]
      exact am_stp F (am_lawrok hcs hss) (am_sound l G 64) hc hi (fun hr => (am_ret_f hr h).elim) h
    · exact h.elim
  have hg : ∀ i lo st mi ml, (mi 117 = G.2.2.2 117 → am_mo p l e room_1 s m #[Value.ref b] below meth c cs ss (lw_Z below #[Value.ref b] s) G 4 mt_law i lo st mi ml) → am_mo p l e room_1 s m #[Value.ref b] below meth c cs ss (lw_Z below #[Value.ref b] s) G 4 mt_law i lo st mi ml :=
    fun i lo st mi ml h ls H locs g1 g2 g3 => h (g2.2.2 117 (by decide)) ls H locs g1 g2 g3
  obtain ⟨hx, hb, hml, hr, hlocks, hts, hlk, hown, hK, hX⟩ := id F
  have hend : ∀ lo mi ml, am_mo p l e room_1 s m #[Value.ref b] below meth c cs ss (lw_Z below #[Value.ref b] s) G 4 mt_law 1117 lo [.int 1] mi ml := by
    intro lo mi ml ls H locs g1 g2 g3
    rw [am_law_r]
    refine va_forget (fun q hq => ?_) (W.widen (k := 600000) (n := 7302250) hcs hss (lw_ret hx hb hr hlocks am_law_d))
    obtain ⟨k, hk, ek⟩ := g3.2.2 q hq
    rw [ek]
    exact hA k hk
  have z := la_init hcl (law_loop (S := G.2.2.2 117) hL hS hcl hg hend 513 0 mi ml (by omega) hI (by omega))
  have w := z ls H [] hls hh hS2
  rw [am_law_0] at w
  exact w
