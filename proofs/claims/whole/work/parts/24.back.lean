/-! pairs: back, undo, redo, feed, door, child, mend, of -/
section SP24
variable {d n m : Nat} {u : Nat → Nat → Int32} {mi : am_MI} {ml : am_ML} {R : am_R} {Q : Int32 → Int32 → am_MI → am_ML → Prop}
/-- back -/
theorem pr_32 (hm : am_cm n m u mi) (hd : am_deeds n mi) (h : ∀ r mi2, am_deeds n mi2 → am_kp am_F59 mi mi2 → Q r r mi2 ml) : am_pr (d + 2) 150 [.ref 0] 253 [.ref 78] mi ml Q := by
  have hd0 := hd
  obtain ⟨t, ht, e1, e2, e3, e4, e5, e6, e7, hi⟩ := hd
  have hn := hm.1
  rcases hi with ⟨i1, i2⟩ | ⟨i1, i2, t2, o, ht2, ho, i3, i4, i5, i6, i7, i8, i9, i10⟩
  · refine bk_150 (bk_21 ⟨fun q => absurd i1 q, fun _ => ⟨am_b0, am_ri_i (am_n0 (am_ri_i (bk_253 ⟨fun q => absurd i2 q, fun _ => am_ri_i (h _ _ hd0 am_kp_r)⟩)))⟩⟩)
  · have c0 : (0 : Int32).toNatClampNeg = 0 := by decide
    have c12 : (Int32.ofNat 12).toNatClampNeg = 12 := by decide
    refine bk_150 (bk_21 ⟨fun _ => ⟨by decide, by decide, by decide, by decide, by decide, am_b1, am_ri_i (am_y (am_ri_i ?_))⟩, fun q => absurd (by rw [i1]; decide) q⟩)
    rw [c0, c12]
    generalize hmx : am_ui (am_ui (am_ui (am_ui (am_ci mi 61 0 60 0 12) 59 2 (mi 59 8)) 59 3 (mi 59 9)) 59 4 (mi 59 10)) 59 5 (mi 59 11) = mx
    have k : ∀ c j, ¬ c = 59 → ¬ c = 60 → mx c j = mi c j := fun c j q1 q2 => by
      rw [← hmx, am_ui_c q1, am_ui_c q1, am_ui_c q1, am_ui_c q1]
      unfold am_ci
      rw [if_neg (fun q => q2 q.1)]
    have x60 : ∀ j, j < 12 → mx 60 j = mi 61 j := fun j hj => by
      rw [← hmx, am_ui_c (by omega), am_ui_c (by omega), am_ui_c (by omega), am_ui_c (by omega)]
      unfold am_ci
      rw [if_pos ⟨rfl, by omega, by omega⟩]
      congr 1
      omega
    have x59 : ∀ j, ¬ j = 2 → ¬ j = 3 → ¬ j = 4 → ¬ j = 5 → mx 59 j = mi 59 j := fun j a b c d => by
      rw [← hmx, am_ui_n (fun _ q => d q), am_ui_n (fun _ q => c q), am_ui_n (fun _ q => b q), am_ui_n (fun _ q => a q)]
      unfold am_ci
      rw [if_neg (by omega)]
    have x2 : mx 59 2 = mi 59 8 := by rw [← hmx, am_ui_n (by omega), am_ui_n (by omega), am_ui_n (by omega), am_ui_k]
    have x3 : mx 59 3 = mi 59 9 := by rw [← hmx, am_ui_n (by omega), am_ui_n (by omega), am_ui_k]
    have x4 : mx 59 4 = mi 59 10 := by rw [← hmx, am_ui_n (by omega), am_ui_k]
    have x5 : mx 59 5 = mi 59 11 := by rw [← hmx, am_ui_k]
    have kx : am_kp am_F59 mi mx := fun c j q => k c j (by have := of_decide_eq_false q; omega) (by have := of_decide_eq_false q; omega)
    refine bk_253 ⟨fun _ => ?_, fun q => absurd (by rw [k 78 32 (by omega) (by omega), i2]; decide) q⟩
    generalize hmy : am_ui mx 78 12 (mx 78 34) = my
    have y0 : ∀ c j, (c = 78 → ¬ j = 12) → my c j = mx c j := fun c j q => by rw [← hmy, am_ui_n (fun a b => q a b)]
    have y12 : my 78 12 = nI t2 := by rw [← hmy, am_ui_k, k 78 34 (by omega) (by omega), i4]
    refine am_for n (fun j => ∀ mz : am_MI, (∀ c i, ¬ c = 82 → mz c i = my c i) → (∀ i, i < j → mz 82 i = mi 61 i) → am_wp (am_call (d + 1)) mt_253 _ 11 [some (.ref 78), some (.int (nI j))] [] mz ml) ?_ (fun j hj ih => ?_) 0 (Nat.zero_le _) my (fun _ _ _ => rfl) (fun i q => absurd q (by omega))
    · intro mz z1 z2
      have zn : mz 78 0 = nI n := by rw [z1 78 0 (by omega), y0 78 0 (by omega), k 78 0 (by omega) (by omega)]; exact hm.2.2.1
      refine bk_253_11 (pk_le n n (fun _ => ?_) (fun q => absurd q (Nat.lt_irrefl _)) zn rfl)
      refine am_for 3 (fun j => ∀ mw : am_MI, (∀ c i, ¬ c = 100 → mw c i = mz c i) → (∀ i, i < j → mw 100 i = mi 102 i) → am_wp (am_call (d + 1)) mt_253 _ 33 [some (.ref 78), some (.int (nI j))] [] mw ml) ?_ (fun j hj ih => ?_) 0 (Nat.zero_le _) mz (fun _ _ _ => rfl) (fun i q => absurd q (by omega))
      · intro mw w1 w2
        refine bk_253_33 (pk_le 3 3 (fun _ => ⟨am_vp (by decide) (by decide), am_ri_i ?_⟩) (fun q => absurd q (Nat.lt_irrefl _)) rfl rfl)
        rw [c0, w2 0 (by omega), x3, i6]
        have al : ∀ c i, ¬ c = 100 → ¬ c = 82 → (c = 78 → ¬ i = 12) → mw c i = mx c i := fun c i q1 q2 q3 => by rw [w1 c i q1, z1 c i q2, y0 c i q3]
        refine h _ mw ⟨t2, ht2, ?_, ?_, ?_, ?_, ?_, fun j hj => ?_, fun j h1 h2 => ?_, Or.inr ⟨?_, ?_, t2, o, ht2, ho, ?_, ?_, ?_, ?_, ?_, ?_, fun j hj => ?_, fun j h1 h2 => ?_⟩⟩ (fun c j q => ?_)
        · rw [al 59 2 (by omega) (by omega) (by omega), x2, i3]
        · rw [w1 78 12 (by omega), z1 78 12 (by omega), y12]
        · rw [al 59 3 (by omega) (by omega) (by omega), x3, w2 0 (by omega), i6]
        · rw [al 59 4 (by omega) (by omega) (by omega), x4, w2 1 (by omega), i7]
        · rw [al 59 5 (by omega) (by omega) (by omega), x5, w2 2 (by omega), i8]
        · rw [al 60 j (by omega) (by omega) (by omega), x60 j (by omega), w1 82 j (by omega), z2 j hj]
        · rw [al 60 j (by omega) (by omega) (by omega), x60 j h2, i10 j (by omega) h2]
        · rw [al 59 6 (by omega) (by omega) (by omega), x59 6 (by omega) (by omega) (by omega) (by omega), i1]
        · rw [al 78 32 (by omega) (by omega) (by omega), k 78 32 (by omega) (by omega), i2]
        · rw [al 59 8 (by omega) (by omega) (by omega), x59 8 (by omega) (by omega) (by omega) (by omega), i3]
        · rw [al 78 34 (by omega) (by omega) (by omega), k 78 34 (by omega) (by omega), i4]
        · rw [al 78 33 (by omega) (by omega) (by omega), k 78 33 (by omega) (by omega), i5]
        · rw [al 59 9 (by omega) (by omega) (by omega), x59 9 (by omega) (by omega) (by omega) (by omega), al 102 0 (by omega) (by omega) (by omega), k 102 0 (by omega) (by omega), i6]
        · rw [al 59 10 (by omega) (by omega) (by omega), x59 10 (by omega) (by omega) (by omega) (by omega), al 102 1 (by omega) (by omega) (by omega), k 102 1 (by omega) (by omega), i7]
        · rw [al 59 11 (by omega) (by omega) (by omega), x59 11 (by omega) (by omega) (by omega) (by omega), al 102 2 (by omega) (by omega) (by omega), k 102 2 (by omega) (by omega), i8]
        · rw [al 61 j (by omega) (by omega) (by omega), k 61 j (by omega) (by omega), al 101 j (by omega) (by omega) (by omega), k 101 j (by omega) (by omega), i9 j hj]
        · rw [al 61 j (by omega) (by omega) (by omega), k 61 j (by omega) (by omega), i10 j h1 h2]
        · have q := of_decide_eq_false q
          rw [al c j (by omega) (by omega) (by omega), k c j (by omega) (by omega)]
      · intro mw w1 w2
        refine bk_253_33 (pk_le 3 j (fun q => absurd q (by omega)) (fun _ => ⟨vp_in_nI (by omega) (by omega), vp_in_nI (by omega) (by omega), ?_⟩) rfl rfl)
        rw [nI_clamp (show j < 2 ^ 31 by omega), nI_1]
        refine ih _ (fun c i q => (am_ui_c q).trans (w1 c i q)) (fun i hi => ?_)
        by_cases e : i = j
        · subst e
          rw [am_ui_k, w1 102 i (by omega), z1 102 i (by omega), y0 102 i (by omega), k 102 i (by omega) (by omega)]
        · rw [am_ui_n (fun _ q => e q)]
          exact w2 i (by omega)
    · intro mz z1 z2
      have zn : mz 78 0 = nI n := by rw [z1 78 0 (by omega), y0 78 0 (by omega), k 78 0 (by omega) (by omega)]; exact hm.2.2.1
      have zo : mz 78 33 = nI o := by rw [z1 78 33 (by omega), y0 78 33 (by omega), k 78 33 (by omega) (by omega), i5]
      have stp : ∀ v : Int32, v = mi 61 j → am_wp (am_call (d + 1)) mt_253 (am_ri fun r2 mi2 ml2 => Q (mx 59 3) r2 mi2 ml2) 11 [some (.ref 78), some (.int (nI (j + 1)))] [] (am_ui mz 82 j v) ml := by
        intro v hv
        refine ih _ (fun c i q => (am_ui_c q).trans (z1 c i q)) (fun i hi => ?_)
        by_cases e : i = j
        · subst e
          rw [am_ui_k, hv]
        · rw [am_ui_n (fun _ q => e q)]
          exact z2 i (by omega)
      refine bk_253_11 (pk_le n j (fun q => absurd q (by omega)) (fun _ => pk_le o j (fun q => ⟨vp_in_nI (by omega) (by omega), ?_⟩) (fun q => ⟨vp_in_nI (by omega) (by omega), vp_in_nI (by omega) (by omega), ?_⟩) zo rfl) zn rfl)
      · rw [nI_clamp (show j < 2 ^ 31 by omega), nI_1]
        exact stp _ (i10 j q (by omega)).symm
      · rw [nI_clamp (show j < 2 ^ 31 by omega), nI_1]
        refine stp _ ?_
        rw [z1 101 j (by omega), y0 101 j (by omega), k 101 j (by omega) (by omega), i9 j q]
end SP24
