/-! pictures: the acts of the class; body, act, trace: pairs -/
section SP27
variable {d : Nat} {mi : am_MI} {ml : am_ML} {R : am_R} {Q : Int32 → Int32 → am_MI → am_ML → Prop} {es : List Int32} {b x : Int32} {K i nb : Nat}
/-- what the class's acts go by -/
def am_bx (nb i K : Nat) (b : Int32) (mi : am_MI) : Prop := am_sta mi ∧ nb ≤ 50 ∧ mi 62 1 = nI nb ∧ i < nb ∧ b = nI i ∧ K < 8 ∧ mi 63 i = nI K
theorem am_bx_on {mi mi2 : am_MI} (h : am_bx nb i K b mi) (hk : am_kp am_Ftx mi mi2) : am_bx nb i K b mi2 := by
  obtain ⟨h1, h2, h3, h4, h5, h6, h7⟩ := h
  refine ⟨?_, h2, (hk 62 1 rfl).trans h3, h4, h5, h6, (hk 63 i rfl).trans h7⟩
  obtain ⟨s1, s2, s3, s4, s5, s6, s7, s8, s9⟩ := h1
  exact ⟨fun j hj => ⟨(hk 114 j rfl).trans (s1 j hj).1, (hk 115 j rfl).trans (s1 j hj).2⟩, (hk 116 0 rfl).trans s2, (hk 116 1 rfl).trans s3, (hk 116 2 rfl).trans s4, (hk 116 3 rfl).trans s5, (hk 116 4 rfl).trans s6, (hk 116 5 rfl).trans s7, (hk 116 6 rfl).trans s8, (hk 116 7 rfl).trans s9⟩
theorem sp_86b (h : am_bx nb i K b mi) (k : R (some (.int (nI K))) mi ml) : am_call (d + 2) 86 [.ref 62, .int b] mi ml R := by
  obtain ⟨h1, h2, h3, h4, h5, h6, h7⟩ := h
  refine sp_86 h2 h3 h4 h5 ?_
  rw [h7]
  exact k
theorem sp_92 (hb : am_bx nb i K b mi) (ht : am_trx es mi) (hl : es.length < 56) (h : ∀ mi2, am_trx (es ++ am_opE K) mi2 → am_kp am_Ftx mi mi2 → R (some (.int (am_opV K b x))) mi2 ml) : am_call (d + 3) 92 [.ref 62, .int b, .int x] mi ml R := by
  have hK := hb.2.2.2.2.2.1
  have n6 : ∀ k, k < 8 → am_und k 1 = true → ¬ k = 6 := by decide
  unfold am_opE am_opV at h
  refine bk_92 (sp_86b hb (am_ri_i (sp_87b (k := K) (t := 1) hb.1 hK (by omega) rfl rfl (fun u => am_ri_i (sp_86b hb (am_ri_i ?_))) (fun u => am_ri_i (sp_86b hb (am_ri_i ?_))))))
  · rw [if_pos u, if_pos u] at h
    have h6 := n6 K hK u
    refine ⟨fun _ => ?_, fun q => absurd ((nI_eq (b := 6) (by omega) (by omega)).mp (Decidable.not_not.mp q)) h6⟩
    refine bk_92_15 (am_y (sp_91 ht (by omega) (fun m1 t1 k1 => am_rv_i (bk_92_21 (am_n0 (bk_92_26 (sp_91 t1 (by simp; omega) (fun m2 t2 k2 => am_rv_i (am_y (h m2 ?_ (am_kp_t k1 k2)))))))))))
    rw [List.append_assoc] at t2
    exact t2
  · rw [if_neg u, if_neg u] at h
    refine ⟨fun q => ?_, fun q => ?_⟩
    · rw [if_neg (fun e => q (by rw [e]; rfl)), if_neg (fun e => q (by rw [e]; rfl))] at h
      exact bk_92_15 (am_n0 (bk_92_21 (am_n0 (bk_92_26 (sp_91 ht (by omega) (fun m1 t1 k1 => am_rv_i (am_n0 (am_n0 (bk_92_46 (h m1 t1 k1))))))))))
    · have e : K = 6 := (nI_eq (b := 6) (by omega) (by omega)).mp (Decidable.not_not.mp q)
      rw [if_pos e, if_pos e] at h
      refine bk_92_15 (am_n0 (bk_92_21 (am_y (sp_91 ht (by omega) (fun m1 t1 k1 => am_rv_i (bk_92_26 (sp_91 t1 (by simp; omega) (fun m2 t2 k2 => am_rv_i (am_n0 (am_y (bk_92_46 (h m2 ?_ (am_kp_t k1 k2)))))))))))))
      rw [List.append_assoc] at t2
      exact t2
theorem sp_94 (hb : am_bx nb i K b mi) (ht : am_trx es mi) (hl : es.length < 50) (h : ∀ mi2, am_trx (es ++ am_waE K) mi2 → am_kp am_Ftx mi mi2 → R (some (.int (am_waV K b x))) mi2 ml) : am_call (d + 4) 94 [.ref 62, .int b, .int x] mi ml R := by
  have hK := hb.2.2.2.2.2.1
  have n6 : ∀ k, k < 8 → am_und k 4 = true → ¬ am_und k 3 = true := by decide
  unfold am_waE am_waV at h
  refine bk_94 (sp_86b hb (am_ri_i (sp_87b (k := K) (t := 4) hb.1 hK (by omega) rfl rfl (fun u => am_ri_i (sp_86b hb (am_ri_i (sp_87b (k := K) (t := 3) hb.1 hK (by omega) rfl rfl (fun v => absurd v (n6 K hK u)) (fun v => am_ri_i ?_))))) (fun u => am_ri_i (sp_86b hb (am_ri_i (sp_87b (k := K) (t := 3) hb.1 hK (by omega) rfl rfl (fun v => am_ri_i ?_) (fun v => am_ri_i ?_))))))))
  · simp only [if_pos u, if_neg v] at h
    refine am_y (sp_91 ht (by omega) (fun m1 t1 k1 => am_rv_i (am_n0 (sp_91 t1 (by simp; omega) (fun m2 t2 k2 => am_rv_i (am_y (sp_92 (am_bx_on hb (am_kp_t k1 k2)) t2 (by simp; omega) (fun m3 t3 k3 => am_ri_i (h m3 ?_ (am_kp_t k1 (am_kp_t k2 k3)))))))))))
    simpa using t3
  · simp only [if_neg u, if_pos v] at h
    refine am_n0 (am_y (sp_91 ht (by omega) (fun m1 t1 k1 => am_rv_i (sp_91 t1 (by simp; omega) (fun m2 t2 k2 => am_rv_i (am_n0 (am_y (h m2 ?_ (am_kp_t k1 k2)))))))))
    simpa using t2
  · simp only [if_neg u, if_neg v] at h
    refine am_n0 (am_n0 (sp_91 ht (by omega) (fun m1 t1 k1 => am_rv_i (am_n0 (am_n0 (h m1 ?_ k1))))))
    simpa using t1
theorem sp_93 (hb : am_bx nb i K b mi) (ht : am_trx es mi) (hl : es.length < 40) (h : ∀ mi2, am_trx (es ++ am_giE K) mi2 → am_kp am_Ftx mi mi2 → R (some (.int (am_giV K b x))) mi2 ml) : am_call (d + 5) 93 [.ref 62, .int b, .int x] mi ml R := by
  have hK := hb.2.2.2.2.2.1
  have n7 : ∀ k, k < 8 → am_und k 3 = true → am_und k 2 = true ∧ ¬ k = 7 := by decide
  have n8 : ∀ k, k < 8 → am_und k 2 = true → ¬ k = 7 := by decide
  have ol := am_opE_l K hK
  unfold am_giE am_giV at h
  have ne7 : ¬ K = 7 → ¬ nI K = (7 : Int32) := fun q e => q ((nI_eq (b := 7) (by omega) (by omega)).mp e)
  refine bk_93 (sp_86b hb (am_ri_i (sp_87b (k := K) (t := 3) hb.1 hK (by omega) rfl rfl (fun u => am_ri_i (sp_87b (k := K) (t := 2) hb.1 hK (by omega) rfl rfl (fun v => am_ri_i ?_) (fun v => absurd (n7 K hK u).1 v))) (fun u => am_ri_i (sp_87b (k := K) (t := 2) hb.1 hK (by omega) rfl rfl (fun v => am_ri_i ?_) (fun v => am_ri_i ?_))))))
  · have h7 := (n7 K hK u).2
    simp only [if_pos u, if_pos v, if_neg h7] at h
    refine ⟨fun _ => ?_, fun q => absurd (Decidable.not_not.mp q) (ne7 h7)⟩
    refine bk_93_20 (am_y (sp_91 ht (by omega) (fun m1 t1 k1 => am_rv_i (bk_93_25 (am_y (sp_91 t1 (by simp; omega) (fun m2 t2 k2 => am_rv_i (bk_93_30 (sp_91 t2 (by simp; omega) (fun m3 t3 k3 => am_rv_i (am_y (bk_93_42 (sp_92 (am_bx_on hb (am_kp_t k1 (am_kp_t k2 k3))) t3 (by simp; omega) (fun m4 t4 k4 => am_ri_i ⟨fun _ => am_y (bk_93_62 (h m4 ?_ (am_kp_t k1 (am_kp_t k2 (am_kp_t k3 k4))))), fun q => absurd (Decidable.not_not.mp q) (ne7 h7)⟩))))))))))))))
    simpa using t4
  · have h7 := n8 K hK v
    simp only [if_neg u, if_pos v, if_neg h7] at h
    refine ⟨fun _ => ?_, fun q => absurd (Decidable.not_not.mp q) (ne7 h7)⟩
    refine bk_93_20 (am_n0 (bk_93_25 (am_y (sp_91 ht (by omega) (fun m2 t2 k2 => am_rv_i (bk_93_30 (sp_91 t2 (by simp; omega) (fun m3 t3 k3 => am_rv_i (am_n0 (bk_93_42 (sp_92 (am_bx_on hb (am_kp_t k2 k3)) t3 (by simp; omega) (fun m4 t4 k4 => am_ri_i ⟨fun _ => am_y (bk_93_62 (h m4 ?_ (am_kp_t k2 (am_kp_t k3 k4)))), fun q => absurd (Decidable.not_not.mp q) (ne7 h7)⟩))))))))))))
    simpa using t4
  · simp only [if_neg u, if_neg v] at h
    refine ⟨fun q => ?_, fun q => ?_⟩
    · have h7 : ¬ K = 7 := fun e => q (by rw [e]; rfl)
      simp only [if_neg h7] at h
      refine bk_93_20 (am_n0 (bk_93_25 (am_n0 (bk_93_30 (sp_91 ht (by omega) (fun m3 t3 k3 => am_rv_i (am_n0 (bk_93_42 (sp_92 (am_bx_on hb k3) t3 (by simp; omega) (fun m4 t4 k4 => am_ri_i ⟨fun _ => am_n0 (bk_93_62 (h m4 ?_ (am_kp_t k3 k4))), fun q => absurd (Decidable.not_not.mp q) (ne7 h7)⟩))))))))))
      simpa using t4
    · have h7 : K = 7 := (nI_eq (b := 7) (by omega) (by omega)).mp (Decidable.not_not.mp q)
      simp only [if_pos h7] at h
      refine sp_91 ht (by omega) (fun m1 t1 k1 => am_rv_i (bk_93_20 (am_n0 (bk_93_25 (am_n0 (bk_93_30 (sp_91 t1 (by simp; omega) (fun m3 t3 k3 => am_rv_i (am_n0 (bk_93_42 (sp_92 (am_bx_on hb (am_kp_t k1 k3)) t3 (by simp; omega) (fun m4 t4 k4 => am_ri_i ⟨fun q2 => absurd (Decidable.not_not.mp q) q2, fun _ => sp_94 (am_bx_on hb (am_kp_t k1 (am_kp_t k3 k4))) t4 (by simp; omega) (fun m5 t5 k5 => am_ri_i (h m5 ?_ (am_kp_t k1 (am_kp_t k3 (am_kp_t k4 k5)))))⟩))))))))))))
      simpa using t5
theorem sp_95 (hb : am_bx nb i K b mi) (ht : am_trx es mi) (hl : es.length < 30) (h : ∀ mi2, am_trx (es ++ am_teE K) mi2 → am_kp am_Ftx mi mi2 → R (some (.int (am_teV K b x))) mi2 ml) : am_call (d + 6) 95 [.ref 62, .int b, .int x] mi ml R := by
  have hK := hb.2.2.2.2.2.1
  have gl : (am_giE K).length ≤ 8 := by rw [← am_mgE_e K hK]; exact am_mgE_l K hK K hK
  have ne7 : ¬ K = 7 → ¬ nI K = (7 : Int32) := fun q e => q ((nI_eq (b := 7) (by omega) (by omega)).mp e)
  have ne5 : ¬ K = 5 → ¬ nI K = (5 : Int32) := fun q e => q ((nI_eq (b := 5) (by omega) (by omega)).mp e)
  unfold am_teE am_teV at h
  refine bk_95 (sp_86b hb (am_ri_i ?_))
  by_cases h5 : K = 5
  · have h7 : ¬ K = 7 := by omega
    have q5 : nI K = (5 : Int32) := by rw [h5]; rfl
    simp only [if_pos h5, if_neg h7] at h
    refine ⟨fun q => absurd q5 q, fun _ => sp_91 ht (by omega) (fun m1 t1 k1 => am_rv_i (bk_95_10 ⟨fun _ => bk_95_16 (sp_91 t1 (by simp; omega) (fun m2 t2 k2 => am_rv_i (sp_93 (am_bx_on hb (am_kp_t k1 k2)) t2 (by simp; omega) (fun m3 t3 k3 => am_ri_i (sp_94 (am_bx_on hb (am_kp_t k1 (am_kp_t k2 k3))) t3 (by simp; omega) (fun m4 t4 k4 => am_ri_i ⟨fun q => absurd q5 q, fun _ => h m4 ?_ (am_kp_t k1 (am_kp_t k2 (am_kp_t k3 k4)))⟩)))))), fun q => absurd (Decidable.not_not.mp q) (ne7 h7)⟩))⟩
    simpa using t4
  · by_cases h7 : K = 7
    · have q7 : nI K = (7 : Int32) := by rw [h7]; rfl
      simp only [if_neg h5, if_pos h7] at h
      refine ⟨fun _ => bk_95_10 ⟨fun q => absurd q7 q, fun _ => sp_91 ht (by omega) (fun m1 t1 k1 => am_rv_i (bk_95_16 (sp_91 t1 (by simp; omega) (fun m2 t2 k2 => am_rv_i (sp_93 (am_bx_on hb (am_kp_t k1 k2)) t2 (by simp; omega) (fun m3 t3 k3 => am_ri_i (sp_94 (am_bx_on hb (am_kp_t k1 (am_kp_t k2 k3))) t3 (by simp; omega) (fun m4 t4 k4 => am_ri_i ⟨fun _ => ⟨fun q => absurd q7 q, fun _ => bk_95_46 (h m4 ?_ (am_kp_t k1 (am_kp_t k2 (am_kp_t k3 k4))))⟩, fun q => absurd (Decidable.not_not.mp q) (ne5 h5)⟩))))))))⟩, fun q => absurd (Decidable.not_not.mp q) (ne5 h5)⟩
      simpa using t4
    · simp only [if_neg h5, if_neg h7] at h
      refine ⟨fun _ => bk_95_10 ⟨fun _ => bk_95_16 (sp_91 ht (by omega) (fun m2 t2 k2 => am_rv_i (sp_93 (am_bx_on hb k2) t2 (by simp; omega) (fun m3 t3 k3 => am_ri_i (sp_94 (am_bx_on hb (am_kp_t k2 k3)) t3 (by simp; omega) (fun m4 t4 k4 => am_ri_i ⟨fun _ => ⟨fun _ => bk_95_46 (h m4 ?_ (am_kp_t k2 (am_kp_t k3 k4))), fun q => absurd (Decidable.not_not.mp q) (ne7 h7)⟩, fun q => absurd (Decidable.not_not.mp q) (ne5 h5)⟩)))))), fun q => absurd (Decidable.not_not.mp q) (ne7 h7)⟩, fun q => absurd (Decidable.not_not.mp q) (ne5 h5)⟩
      simpa using t4
end SP27
