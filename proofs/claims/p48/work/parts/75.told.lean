/-! told: one number of all that is asked -/
def dq_t1 (P : List (List Nat × List Nat)) (u : Nat → Nat → Int32) (n m : Nat) (O : Nat → Int32) : Nat → Int64
  | 0 => 7
  | k + 1 => 31 * dq_t1 P u n m O k + (u 0 k).toInt64 + (3 * u 1 k).toInt64 + (5 * u 2 k).toInt64 + (7 * O k).toInt64 + (11 * (am_gvn P u n m 3).1 k).toInt64 + (13 * (am_gvn P u n m 4).1 k).toInt64
def dq_t2i (u : Nat → Nat → Int32) (c : Nat) (x : Int64) : Nat → Int64
  | 0 => x
  | k + 1 => 31 * dq_t2i u c x k + (u (3 + k) c).toInt64
def dq_t2 (P : List (List Nat × List Nat)) (u : Nat → Nat → Int32) (n m : Nat) (x : Int64) : Nat → Int64
  | 0 => x
  | c + 1 => 31 * dq_t2i u c (dq_t2 P u n m x c) 5 + ((am_gvn P u n m 0).2 c).toInt64 + (3 * (am_gvn P u n m 3).2 c).toInt64 + (5 * nI (dq_gb P u n m 2 c)).toInt64 + (7 * dq_wt P u n m 0 c).toInt64 + (11 * dq_aw P u n m 1 c 2).toInt64
def dq_big (P : List (List Nat × List Nat)) (u : Nat → Nat → Int32) (n m r : Nat) : Int32 := if n = 0 ∨ m = 0 then -2 else am_unf m (am_bga P u n m r)
def dq_t3 (P : List (List Nat × List Nat)) (u : Nat → Nat → Int32) (n m : Nat) (x : Int64) : Nat → Int64
  | 0 => x
  | r + 1 => 31 * dq_t3 P u n m x r + (am_ufr P u n m r).toInt64 + (3 * am_evo m (am_wwo P u n m r) m).toInt64 + (5 * am_enc (dq_swp P u n m r)).toInt64 + (7 * nI (dq_sws P u n m r).1).toInt64 + (11 * am_unf m (am_sec P u n m r 3)).toInt64 + (13 * (dq_pr P u n m r).2).toInt64 + (17 * dq_big P u n m r).toInt64
def dq_t4 (L : Nat → Int32) (x : Int64) : Nat → Int64
  | 0 => x
  | t + 1 => 31 * dq_t4 L x t + (L (if t = 0 then 3 else if t = 1 then 4 else if t = 2 then 5 else 2)).toInt64
def dq_told (P : List (List Nat × List Nat)) (u : Nat → Nat → Int32) (n m : Nat) (O L : Nat → Int32) : Int64 :=
  31 * dq_t4 L (dq_t3 P u n m (dq_t2 P u n m (dq_t1 P u n m O n) m) 5) 4 + (u 8 0).toInt64 + (3 * u 9 0).toInt64 + (5 * nI (dq_brl P u n m)).toInt64 + (7 * dq_fai P u n m (-1)).toInt64 + (11 * dq_fg n u O (L 2)).toInt64 + (13 * am_drs P u n m (-1) 5 3).toInt64
theorem dq_t1_c {P : List (List Nat × List Nat)} {u : Nat → Nat → Int32} {n m : Nat} {O O2 : Nat → Int32} : ∀ k, (∀ j, j < k → O j = O2 j) → dq_t1 P u n m O k = dq_t1 P u n m O2 k
  | 0, _ => rfl
  | k + 1, h => by
    unfold dq_t1
    rw [dq_t1_c k (fun j hj => h j (by omega)), h k (by omega)]
theorem dq_fg_c {u : Nat → Nat → Int32} {n : Nat} {O O2 : Nat → Int32} {t : Int32} (h : ∀ j, j < n → O j = O2 j) : dq_fg n u O t = dq_fg n u O2 t :=
  am_bt_c n (fun j hj => by rw [h j hj])
/-- told reads who opened the doors, and what led tells -/
theorem dq_told_c {P : List (List Nat × List Nat)} {u : Nat → Nat → Int32} {n m : Nat} {O O2 L L2 : Nat → Int32} (h : ∀ j, j < n → O j = O2 j) (h2 : ∀ j, 2 ≤ j → j ≤ 5 → L j = L2 j) : dq_told P u n m O L = dq_told P u n m O2 L2 := by
  have e4 : ∀ x, dq_t4 L x 4 = dq_t4 L2 x 4 := fun x => by
    show 31 * (31 * (31 * (31 * x + (L 3).toInt64) + (L 4).toInt64) + (L 5).toInt64) + (L 2).toInt64 = 31 * (31 * (31 * (31 * x + (L2 3).toInt64) + (L2 4).toInt64) + (L2 5).toInt64) + (L2 2).toInt64
    rw [h2 2 (by omega) (by omega), h2 3 (by omega) (by omega), h2 4 (by omega) (by omega), h2 5 (by omega) (by omega)]
  unfold dq_told
  rw [dq_t1_c n h, e4, dq_fg_c h, h2 2 (by omega) (by omega)]
section SP75
variable {d n m : Nat} {u : Nat → Nat → Int32} {mi : am_MI} {ml : am_ML} {R : am_R} {P : List (List Nat × List Nat)}
theorem dq_290 (hq : dq_Q P u n m mi) (h : ∀ m2, am_kp (am_FZ n) mi m2 → dq_Q P u n m m2 → R (some (.long (dq_told P u n m (mi 60) (mi 59)))) m2 ml) : am_call (d + 13) 290 [.ref 0] mi ml R := by
  have hn := hq.1.2.1.1
  have hm := hq.1.2.1.2.1
  have v8 : am_val n m 8 0 := am_vs (by omega) (by omega)
  have v9 : am_val n m 9 0 := am_vs (by omega) (by omega)
  have z59 : ∀ {m2 : am_MI}, am_kp (am_FZ n) mi m2 → m2 59 = mi 59 := fun k => funext fun j => k 59 j (dq_Z (by omega) (by omega))
  have z60 : ∀ {m2 : am_MI}, am_kp (am_FZ n) mi m2 → m2 60 = mi 60 := fun k => funext fun j => k 60 j (dq_Z (by omega) (by omega))
  -- the last row
  have A5 : ∀ m2, am_kp (am_FZ n) mi m2 → dq_Q P u n m m2 → am_wp (am_call (d + 12)) mt_290 R 205 [some (.ref 0), some (.long (dq_t4 (mi 59) (dq_t3 P u n m (dq_t2 P u n m (dq_t1 P u n m (mi 60) n) m) 5) 4)), none, none, none, some (.int (nI 4)), none] [] m2 ml := by
    intro m2 k2 q2
    refine bk_290_205 (pk_le 4 4 (fun _ => ?_) (fun w => absurd w (by omega)) rfl rfl)
    refine dq_122 (w := 8) q2.1.2.1 v8 rfl rfl (am_ri_i (dq_122 (w := 9) q2.1.2.1 v9 rfl rfl (am_ri_i ?_)))
    refine dq_129a q2 (fun m3 k3 q3 => am_ri_i (dq_130 q3 (Or.inl rfl) (fun m4 k4 q4 => am_ri_i (dq_147 q4.1.2.1 (am_ri_i (dq_144 (N := 3) q4 (by omega) (by omega) rfl (fun m5 k5 q5 => am_ri_i ?_)))))))
    have k24 := am_kp_t k2 (am_kp_t k3 k4)
    rw [z60 k24, z59 k24]
    exact h m5 (am_kp_t k24 k5) q5
  have A4 : ∀ t, t ≤ 4 → ∀ m2, am_kp (am_FZ n) mi m2 → dq_Q P u n m m2 → am_wp (am_call (d + 12)) mt_290 R 205 [some (.ref 0), some (.long (dq_t4 (mi 59) (dq_t3 P u n m (dq_t2 P u n m (dq_t1 P u n m (mi 60) n) m) 5) t)), none, none, none, some (.int (nI t)), none] [] m2 ml := by
    refine am_for 4 _ A5 (fun t ht ih m2 k2 q2 => ?_)
    refine bk_290_205 (pk_le 4 t (fun w => absurd w (by omega)) (fun _ => dq_148 ht rfl (am_ri_i ?_)) rfl rfl)
    have z := ih m2 k2 q2
    unfold dq_led
    rw [z59 k2, nI_1]
    exact z
  have A3 : ∀ r, r ≤ 5 → ∀ m2, am_kp (am_FZ n) mi m2 → dq_Q P u n m m2 → am_wp (am_call (d + 12)) mt_290 R 141 [some (.ref 0), some (.long (dq_t3 P u n m (dq_t2 P u n m (dq_t1 P u n m (mi 60) n) m) r)), none, none, none, some (.int (nI r)), none] [] m2 ml := by
    refine am_for 5 _ (fun m2 k2 q2 => bk_290_141 (pk_le 5 5 (fun _ => A4 0 (by omega) m2 k2 q2) (fun w => absurd w (by omega)) rfl rfl)) (fun r hr ih m2 k2 q2 => ?_)
    refine bk_290_141 (pk_le 5 r (fun w => absurd w (by omega)) (fun _ => ?_) rfl rfl)
    refine dq_128 (t := 0) q2 hr rfl rfl (by omega) (fun m3 k3 q3 => am_ri_i (dq_128 (t := 2) q3 hr rfl rfl (by omega) (fun m4 k4 q4 => am_ri_i (dq_132 q4 hr rfl (fun m5 k5 q5 => am_ri_i (dq_133a q5 hr rfl (fun m6 k6 q6 => am_ri_i (dq_142 (s := 3) q6 hr rfl (by omega) (by omega) rfl (fun m7 k7 q7 => am_ri_i (dq_143b q7 hr rfl (fun m8 k8 q8 => am_ri_i (dq_134 q8 hr rfl (fun m9 k9 q9 => am_ri_i ?_)))))))))))))
    have z := ih m9 (am_kp_t k2 (am_kp_t k3 (am_kp_t k4 (am_kp_t k5 (am_kp_t k6 (am_kp_t k7 (am_kp_t k8 k9))))))) q9
    rw [nI_1]
    exact z
  have A2 : ∀ c, c ≤ m → ∀ m2, am_kp (am_FZ n) mi m2 → dq_Q P u n m m2 → am_wp (am_call (d + 12)) mt_290 R 71 [some (.ref 0), some (.long (dq_t2 P u n m (dq_t1 P u n m (mi 60) n) c)), none, none, some (.int (nI m)), some (.int (nI c)), none] [] m2 ml := by
    refine am_for m _ (fun m2 k2 q2 => bk_290_71 (pk_le m m (fun _ => A3 0 (by omega) m2 k2 q2) (fun w => absurd w (by omega)) rfl rfl)) (fun c hc ih m2 k2 q2 => ?_)
    refine bk_290_71 (pk_le m c (fun w => absurd w (by omega)) (fun _ => ?_) rfl rfl)
    refine am_for 5 (fun t => am_wp (am_call (d + 12)) mt_290 R 76 [some (.ref 0), some (.long (dq_t2i u c (dq_t2 P u n m (dq_t1 P u n m (mi 60) n) c) t)), none, none, some (.int (nI m)), some (.int (nI c)), some (.int (nI (3 + t)))] [] m2 ml) ?_ (fun t ht it => ?_) 0 (Nat.zero_le _)
    · refine bk_290_76 (pk_le 8 8 (fun _ => ?_) (fun w => absurd w (by omega)) rfl rfl)
      refine dq_127 (r := 0) q2 (by omega) hc (by rw [Nat.mul_zero, Nat.zero_add]) (fun m3 k3 q3 => am_ri_i (dq_127 (r := 3) q3 (by omega) hc (by rw [show (30 : Int32) = nI 30 from rfl, nI_add]) (fun m4 k4 q4 => am_ri_i (dq_136 (r := 2) (g := 0) q4 (by omega) hc (by rw [show (20 : Int32) = nI 20 from rfl, nI_add]) (by omega) rfl (fun m5 k5 q5 => am_ri_i (dq_137 (r := 0) q5 (by omega) hc (by rw [Nat.mul_zero, Nat.zero_add]) (fun m6 k6 q6 => am_ri_i (dq_135 (r := 1) (t := 2) q6 (by omega) hc (by rw [show (10 : Int32) = nI 10 from rfl, nI_add]) (Or.inr rfl) rfl (fun m7 k7 q7 => am_ri_i ?_)))))))))
      have z := ih m7 (am_kp_t k2 (am_kp_t k3 (am_kp_t k4 (am_kp_t k5 (am_kp_t k6 k7))))) q7
      rw [nI_1]
      exact z
    · refine bk_290_76 (pk_le 8 (3 + t) (fun w => absurd w (by omega)) (fun _ => ?_) rfl rfl)
      refine dq_122 (w := 3 + t) q2.1.2.1 (am_vc (by omega) (by omega) hc) rfl rfl (am_ri_i ?_)
      rw [nI_1]
      exact it
  have A1 : ∀ j, j ≤ n → ∀ m2, am_kp (am_FZ n) mi m2 → dq_Q P u n m m2 → am_wp (am_call (d + 12)) mt_290 R 12 [some (.ref 0), some (.long (dq_t1 P u n m (mi 60) j)), none, some (.int (nI n)), some (.int (nI m)), some (.int (nI j)), none] [] m2 ml := by
    refine am_for n _ (fun m2 k2 q2 => bk_290_12 (pk_le n n (fun _ => A2 0 (by omega) m2 k2 q2) (fun w => absurd w (by omega)) rfl rfl)) (fun j hj ih m2 k2 q2 => ?_)
    refine bk_290_12 (pk_le n j (fun w => absurd w (by omega)) (fun _ => ?_) rfl rfl)
    refine dq_122 (w := 0) q2.1.2.1 (am_vd (by omega) hj) rfl rfl (am_ri_i (dq_122 (w := 1) q2.1.2.1 (am_vd (by omega) hj) rfl rfl (am_ri_i (dq_122 (w := 2) q2.1.2.1 (am_vd (by omega) hj) rfl rfl (am_ri_i (dq_122o q2.1.2.1 hj rfl (am_ri_i ?_)))))))
    refine dq_126 (r := 3) q2 (by omega) hj (by rw [show (300 : Int32) = nI 300 from rfl, nI_add]) (fun m3 k3 q3 => am_ri_i (dq_126 (r := 4) q3 (by omega) hj (by rw [show (400 : Int32) = nI 400 from rfl, nI_add]) (fun m4 k4 q4 => am_ri_i ?_)))
    have z := ih m4 (am_kp_t k2 (am_kp_t k3 k4)) q4
    rw [z60 k2, nI_1]
    exact z
  exact bk_290 (dq_162a hq.1.2.1 (am_ri_i (dq_162b hq.1.2.1 (am_ri_i (A1 0 (by omega) mi am_kp_r hq)))))
end SP75
