/-! a giving by a rule: whose turn it is -/
def am_wil (r : Nat) (e s : Nat → Int32) (c : Nat) : Int32 := if r = 3 then e c - s c else -(s c)
/-- the most willing of the first k + 1 -/
def am_mst (r : Nat) (e s : Nat → Int32) : Nat → Nat
  | 0 => 0
  | k + 1 => if am_wil r e s (k + 1) ≤ am_wil r e s (am_mst r e s k) then am_mst r e s k else k + 1
theorem am_mst_le (r : Nat) (e s : Nat → Int32) : ∀ k, am_mst r e s k ≤ k
  | 0 => Nat.le_refl _
  | k + 1 => by
    unfold am_mst
    split
    · have := am_mst_le r e s k
      omega
    · omega
/-- whose turn t is, of m -/
def am_who (r m : Nat) (g : Nat → Nat) (e s : Nat → Int32) (t : Nat) : Nat := if r = 0 then t % m else if r = 1 then g (t % m) else if r = 2 then (if m ≤ t % (2 * m) then 2 * m - 1 - t % (2 * m) else t % (2 * m)) else am_mst r e s (m - 1)
theorem am_who_lt {r m : Nat} {g : Nat → Nat} {e s : Nat → Int32} {t : Nat} (hm : 0 < m) (hg : ∀ j, j < m → g j < m) : am_who r m g e s t < m := by
  unfold am_who
  have h1 := Nat.mod_lt t hm
  have h2 := Nat.mod_lt t (show 2 * m > 0 by omega)
  split
  · exact h1
  · split
    · exact hg _ h1
    · split
      · split <;> omega
      · have := am_mst_le r e s (m - 1)
        omega
theorem am_wil_c {r : Nat} {e e2 s s2 : Nat → Int32} {c : Nat} (he : e c = e2 c) (hs : s c = s2 c) : am_wil r e s c = am_wil r e2 s2 c := by
  unfold am_wil
  rw [he, hs]
theorem am_mst_c {r m : Nat} {e e2 s s2 : Nat → Int32} (he : ∀ c, c < m → e c = e2 c) (hs : ∀ c, c < m → s c = s2 c) : ∀ k, k < m → am_mst r e s k = am_mst r e2 s2 k
  | 0, _ => rfl
  | k + 1, h => by
    have i := am_mst_c (r := r) he hs k (by omega)
    have l := am_mst_le r e2 s2 k
    unfold am_mst
    rw [i, am_wil_c (he (k + 1) h) (hs (k + 1) h), am_wil_c (he (am_mst r e2 s2 k) (by omega)) (hs (am_mst r e2 s2 k) (by omega))]
theorem am_who_c {r m : Nat} {g : Nat → Nat} {e e2 s s2 : Nat → Int32} {t : Nat} (hm : 0 < m) (he : ∀ c, c < m → e c = e2 c) (hs : ∀ c, c < m → s c = s2 c) : am_who r m g e s t = am_who r m g e2 s2 t := by
  unfold am_who
  rw [am_mst_c (r := r) he hs (m - 1) (by omega)]
section SP41
variable {d n m : Nat} {u : Nat → Nat → Int32} {mi : am_MI} {ml : am_ML} {R : am_R} {x r : Nat}
theorem am_len2 {mi : am_MI} (hk : am_kd x = 2) : am_len mi x = am_n x := by
  unfold am_len
  rw [hk]
  rfl
theorem am_z_sub {y : Int32} : (0 : Int32) - y = -y := by simp
/-- will -/
theorem sp_37 {y z : Int32} {c : Nat} (hk : am_kd x = 2) (hn : am_n x = 5) (hr : r < 5) (hc : c < 5) (hy : y = nI r) (hz : z = nI c) (h : R (some (.int (am_wil r (mi 43) (mi x) c))) mi ml) : am_call (d + 1) 37 [.ref 22, .int y, .int z, .ref x] mi ml R := by
  subst hy
  subst hz
  have v5 : vp_in (nI c) 5 := vp_in_nI hc (by omega)
  have vx : vp_in (nI c) (am_len mi x) := by
    rw [am_len2 hk, hn]
    exact v5
  have cc : (nI c).toNatClampNeg = c := nI_clamp (by omega)
  have e3 : nI r = 3 ↔ r = 3 := nI_eq (a := r) (b := 3) (by omega) (by omega)
  unfold am_wil at h
  refine bk_37 ?_
  rw [cc, hk]
  refine ⟨fun w => am_need_i rfl ⟨vx, ?_⟩, fun w => ⟨v5, am_need_i rfl ⟨vx, ?_⟩⟩⟩
  · rw [if_neg (fun q => w (e3.mpr q))] at h
    rw [am_z_sub]
    exact h
  · rw [if_pos (e3.mp (Decidable.not_not.mp w))] at h
    exact h
/-- mostWilling -/
theorem sp_36 {y : Int32} (hk : am_kd x = 2) (hn : am_n x = 5) (hr : r < 5) (hc : am_cx n m u mi) (hm : 0 < m) (hy : y = nI r) (h : R (some (.int (nI (am_mst r (mi 43) (mi x) (m - 1))))) mi ml) : am_call (d + 2) 36 [.ref 22, .int y, .ref x] mi ml R := by
  subst hy
  have hm5 := hc.2.1
  have loop : ∀ q k, k + q = m → 0 < k → am_wp (am_call (d + 1)) mt_36 R 4 [some (.ref 22), some (.int (nI r)), some (.ref x), some (.int (nI (am_mst r (mi 43) (mi x) (k - 1)))), some (.int (nI k))] [] mi ml := by
    intro q
    induction q with
    | zero =>
      intro k e h0
      have e : k = m := e
      subst e
      exact bk_36_4 (pk_le _ _ (fun _ => h) (fun w => absurd w (Nat.lt_irrefl _)) hc.2.2.2.1 rfl)
    | succ q ih =>
      intro k e h0
      obtain ⟨j, ej⟩ : ∃ j, k = j + 1 := ⟨k - 1, by omega⟩
      subst ej
      have l := am_mst_le r (mi 43) (mi x) j
      have z := ih (j + 1 + 1) (by omega) (by omega)
      rw [show j + 1 + 1 - 1 = j + 1 from rfl] at z
      have un : am_mst r (mi 43) (mi x) (j + 1) = if am_wil r (mi 43) (mi x) (j + 1) ≤ am_wil r (mi 43) (mi x) (am_mst r (mi 43) (mi x) j) then am_mst r (mi 43) (mi x) j else j + 1 := rfl
      rw [un] at z
      rw [show j + 1 - 1 = j from rfl]
      refine bk_36_4 (pk_le m (j + 1) (fun w => absurd w (by omega)) (fun _ => sp_37 hk hn hr (by omega) rfl rfl (am_ri_i (sp_37 hk hn hr (by omega) rfl rfl (am_ri_i ⟨fun w => ?_, fun w => ?_⟩)))) hc.2.2.2.1 rfl)
      · rw [if_pos w] at z
        rw [nI_1]
        exact z
      · rw [if_neg w] at z
        rw [nI_1]
        exact z
  exact bk_36 (loop (m - 1) 1 (by omega) (by omega))
/-- chosen -/
theorem sp_35 {y z : Int32} {g : Nat → Nat} {t : Nat} (hk : am_kd x = 2) (hn : am_n x = 5) (hr : r < 5) (ht : t < 1000) (hc : am_cx n m u mi) (hg : ∀ j, j < m → mi 24 j = nI (g j)) (hy : y = nI r) (hz : z = nI t) (h0 : m = 0 → R (some (.int (-2))) mi ml) (h : 0 < m → R (some (.int (nI (am_who r m g (mi 43) (mi x) t)))) mi ml) : am_call (d + 3) 35 [.ref 22, .int y, .int z, .ref x] mi ml R := by
  subst hy
  subst hz
  have hm5 := hc.2.1
  have em : mi 1 2 = nI m := hc.2.2.2.1
  have e0 : nI r = 0 ↔ r = 0 := nI_eq (a := r) (b := 0) (by omega) (by omega)
  have e1 : nI r = 1 ↔ r = 1 := nI_eq (a := r) (b := 1) (by omega) (by omega)
  have e2 : nI r = 2 ↔ r = 2 := nI_eq (a := r) (b := 2) (by omega) (by omega)
  refine bk_35 ?_
  rw [em]
  by_cases hm : m = 0
  · refine ⟨fun w => ?_, fun _ => h0 hm⟩
    exfalso
    rw [hm] at w
    exact absurd w (by decide)
  · have hp : 0 < m := by omega
    have h := h hp
    unfold am_who at h
    have nz : ¬ nI m = 0 := fun q => hm ((nI_eq (a := m) (b := 0) (by omega) (by omega)).mp q)
    have tm : (2 : Int32) * nI m = nI (2 * m) := pk_mul (a := 2) (b := m)
    have nz2 : ¬ nI (2 * m) = 0 := fun q => absurd ((nI_eq (a := 2 * m) (b := 0) (by omega) (by omega)).mp q) (by omega)
    have r1 : am_rem (nI t) (nI m) = nI (t % m) := pk_rem (by omega) (by omega) (by omega)
    have r2 : am_rem (nI t) (nI (2 * m)) = nI (t % (2 * m)) := pk_rem (by omega) (by omega) (by omega)
    have l1 := Nat.mod_lt t hp
    have l2 := Nat.mod_lt t (show 2 * m > 0 by omega)
    rw [tm, r1, r2]
    refine ⟨fun _ => ⟨fun w => ⟨nz, ?_⟩, fun w0 => ⟨fun w => ⟨nz, vp_in_nI (by omega) (by omega), ?_⟩, fun w1 => ⟨fun w => ⟨nz2, ?_⟩, fun w2 => sp_36 hk hn hr hc hp rfl (am_ri_i ?_)⟩⟩⟩, fun w => ?_⟩
    · rw [if_pos (e0.mp w)] at h
      exact h
    · rw [if_neg (fun q => w0 (e0.mpr q)), if_pos (e1.mp w)] at h
      rw [nI_clamp (by omega), hg _ l1]
      exact h
    · rw [if_neg (fun q => w0 (e0.mpr q)), if_neg (fun q => w1 (e1.mpr q)), if_pos (e2.mp w)] at h
      refine pk_le m (t % (2 * m)) (fun q => ?_) (fun q => ?_) rfl rfl
      · rw [if_pos q] at h
        rw [show nI (2 * m) - 1 = nI (2 * m - 1) from pk_sub (b := 1) (by omega), show nI (2 * m - 1) - nI (t % (2 * m)) = nI (2 * m - 1 - t % (2 * m)) from pk_sub (by omega)]
        exact h
      · rw [if_neg (by omega)] at h
        exact h
    · rw [if_neg (fun q => w0 (e0.mpr q)), if_neg (fun q => w1 (e1.mpr q)), if_neg (fun q => w2 (e2.mpr q))] at h
      exact h
    · exfalso
      refine w ?_
      rw [am_lt_i, am_l0, am_ti (by omega)]
      omega
/-- giveOffered -/
theorem sp_34 {y z : Int32} {g : Nat → Nat} {t : Nat} (hk : am_kd x = 2) (hn : am_n x = 5) (hr : r < 5) (ht : t < 1000) (hc : am_cx n m u mi) (hg : ∀ j, j < m → mi 24 j = nI (g j) ∧ g j < m) (hy : y = nI r) (hz : z = nI t) (h0 : m = 0 → R (some (.int (-2))) mi ml)
    (h : 0 < m → ∀ c, c = am_who r m g (mi 43) (mi x) t → R (some (.int (nI c))) (am_ui mi x c (mi x c + mi 43 c)) ml) : am_call (d + 4) 34 [.ref 22, .int y, .int z, .ref x] mi ml R := by
  have hm5 := hc.2.1
  refine bk_34 (sp_35 hk hn hr ht hc (fun j hj => (hg j hj).1) hy hz (fun e => am_ri_i (sp_1 hc (fun k hk2 e2 => ?_) (fun _ => am_ri_i (am_n0 (h0 e))))) (fun hp => am_ri_i ?_))
  · omega
  · have lc := am_who_lt (r := r) (g := g) (e := mi 43) (s := mi x) (t := t) hp (fun j hj => (hg j hj).2)
    have h := h hp _ rfl
    generalize am_who r m g (mi 43) (mi x) t = c at lc h
    have v5 : vp_in (nI c) 5 := vp_in_nI (by omega) (by omega)
    have cc : (nI c).toNatClampNeg = c := nI_clamp (by omega)
    refine sp_1 hc (fun k hk2 e2 => am_ri_i (am_y ?_)) (fun q => ?_)
    · rw [hk, am_len2 hk, hn, cc]
      exact am_need_i rfl ⟨v5, v5, am_need_i rfl ⟨v5, h⟩⟩
    · rw [am_ti (by omega)] at q
      omega
end SP41
