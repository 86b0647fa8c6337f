/-! pair: second -/
/-- what all have once each door came once more -/
def am_sc2 (r m : Nat) (g o : Nat → Nat) (e : Nat → Nat → Int32) (n : Nat) (s0 : Nat → Int32) : Nat → Nat → Int32
  | 0 => s0
  | k + 1 => if m = 0 then am_sc2 r m g o e n s0 k else upd (am_sc2 r m g o e n s0 k) (am_who r m g (fun c => e c (o k)) (am_sc2 r m g o e n s0 k) (n + k)) (am_sc2 r m g o e n s0 k (am_who r m g (fun c => e c (o k)) (am_sc2 r m g o e n s0 k) (n + k)) + e (am_who r m g (fun c => e c (o k)) (am_sc2 r m g o e n s0 k) (n + k)) (o k))
theorem am_sc2_n {r m : Nat} {g o : Nat → Nat} {e : Nat → Nat → Int32} {n : Nat} {s0 : Nat → Int32} {k : Nat} (h : m = 0) : am_sc2 r m g o e n s0 (k + 1) = am_sc2 r m g o e n s0 k := if_pos h
theorem am_sc2_y {r m : Nat} {g o : Nat → Nat} {e : Nat → Nat → Int32} {n : Nat} {s0 : Nat → Int32} {k w : Nat} (h : ¬ m = 0) (hw : w = am_who r m g (fun c => e c (o k)) (am_sc2 r m g o e n s0 k) (n + k)) : am_sc2 r m g o e n s0 (k + 1) = upd (am_sc2 r m g o e n s0 k) w (am_sc2 r m g o e n s0 k w + e w (o k)) := by
  subst hw
  exact if_neg h
/-- from unlike starts -/
theorem am_sc2_c {r m : Nat} {g o : Nat → Nat} {e : Nat → Nat → Int32} {n : Nat} {s0 s1 : Nat → Int32} (hg : ∀ j, j < m → g j < m) (h : ∀ c, c < m → s0 c = s1 c) : ∀ k c, c < m → am_sc2 r m g o e n s0 k c = am_sc2 r m g o e n s1 k c
  | 0, c, hc => h c hc
  | k + 1, c, hc => by
    have ih := am_sc2_c (r := r) (o := o) (e := e) (n := n) hg h k
    have m0 : ¬ m = 0 := by omega
    have ew := am_who_c (r := r) (g := g) (t := n + k) (e := fun c => e c (o k)) (e2 := fun c => e c (o k)) (s := am_sc2 r m g o e n s0 k) (s2 := am_sc2 r m g o e n s1 k) (by omega) (fun _ _ => rfl) ih
    have lw := am_who_lt (r := r) (g := g) (t := n + k) (e := fun c => e c (o k)) (s := am_sc2 r m g o e n s1 k) (by omega) hg
    rw [am_sc2_y m0 ew.symm, am_sc2_y m0 rfl]
    unfold upd
    by_cases ec : c = am_who r m g (fun c => e c (o k)) (am_sc2 r m g o e n s1 k) (n + k)
    · rw [if_pos ec, if_pos ec, ih _ lw]
    · rw [if_neg ec, if_neg ec]
      exact ih c hc
theorem am_gv_2 {r m : Nat} {g o o2 : Nat → Nat} {e e2 : Nat → Nat → Int32} {n : Nat} {q : (Nat → Int32) × (Nat → Int32)} : ∀ k, (∀ t c, t < k → e2 c (o2 (n + t)) = e c (o t)) → (am_gv r m g o2 e2 n q k).2 = am_sc2 r m g o e n q.2 k
  | 0, _ => rfl
  | k + 1, h => by
    have ih := am_gv_2 (r := r) (m := m) (g := g) (q := q) k (fun t c ht => h t c (by omega))
    show (am_gst r m g o2 e2 (am_gv r m g o2 e2 n q k) (n + k)).2 = _
    have hk : (fun c => e2 c (o2 (n + k))) = fun c => e c (o k) := funext (fun c => h k c (by omega))
    unfold am_gst
    by_cases m0 : m = 0
    · rw [if_pos m0, am_sc2_n m0]
      exact ih
    · rw [if_neg m0, am_sc2_y m0 rfl, ← ih, hk]
      show upd _ _ (_ + e2 _ (o2 (n + k))) = _
      rw [h k _ (by omega)]
/-- an order further on -/
theorem am_ins_h {le le2 : Nat → Nat → Bool} {a v : Nat} (h : ∀ x y, le2 (a + x) (a + y) = le x y) (k : Nat) : ∀ (p : Nat) (f f2 : Nat → Nat), p ≤ k → (∀ j, j ≤ k → ¬ j = p → f2 j = a + f j) → ∀ j, j ≤ k → am_ins le2 (a + v) p f2 j = a + am_ins le v p f j
  | 0, f, f2, _, hf, j, hj => by
    unfold am_ins
    by_cases e : j = 0
    · rw [e, am_un_k, am_un_k]
    · rw [am_un_n e, am_un_n e]
      exact hf j hj e
  | p + 1, f, f2, hp, hf, j, hj => by
    have fp := hf p (by omega) (by omega)
    unfold am_ins
    rw [fp, h]
    by_cases q : le (f p) v = true
    · rw [if_pos q, if_pos q]
      by_cases e : j = p + 1
      · rw [e, am_un_k, am_un_k]
      · rw [am_un_n e, am_un_n e]
        exact hf j hj e
    · rw [if_neg q, if_neg q]
      refine am_ins_h h k p _ _ (by omega) (fun i hi e => ?_) j hj
      by_cases e2 : i = p + 1
      · rw [e2, am_un_k, am_un_k]
      · rw [am_un_n e2, am_un_n e2]
        exact hf i hi e2
theorem am_srt_h {le le2 : Nat → Nat → Bool} {a : Nat} (h : ∀ x y, le2 (a + x) (a + y) = le x y) : ∀ k j, j < k → am_srt le2 a k j = a + am_srt le 0 k j
  | 0, _, hj => absurd hj (Nat.not_lt_zero _)
  | k + 1, j, hj => by
    show am_ins le2 (a + k) k (am_srt le2 a k) j = a + am_ins le (0 + k) k (am_srt le 0 k) j
    rw [Nat.zero_add]
    exact am_ins_h h k k _ _ (Nat.le_refl _) (fun i hi e => am_srt_h h k i (by omega)) j (by omega)
/-- each door once more, of size s -/
def am_u2 (u : Nat → Nat → Int32) (n : Nat) (s : Int32) (w i : Nat) : Int32 := if w ≤ 2 then (if i < n then u w i else if w = 2 then s else u w (i - n)) else u w i
theorem am_u2_o {u : Nat → Nat → Int32} {n : Nat} {s : Int32} {w i : Nat} (h : i < n) : am_u2 u n s w i = u w i := by
  unfold am_u2
  rw [if_pos h]
  split <;> rfl
theorem am_u2_b {u : Nat → Nat → Int32} {n : Nat} {s : Int32} {w i : Nat} (h : 2 < w) : am_u2 u n s w i = u w i := if_neg (by omega)
theorem am_u2_2 {u : Nat → Nat → Int32} {n : Nat} {s : Int32} {i : Nat} : am_u2 u n s 2 (n + i) = s := by
  unfold am_u2
  rw [if_pos (by omega), if_neg (by omega), if_pos rfl]
theorem am_u2_1 {u : Nat → Nat → Int32} {n : Nat} {s : Int32} {w i : Nat} (h : w < 2) : am_u2 u n s w (n + i) = u w i := by
  unfold am_u2
  rw [if_pos (by omega), if_neg (by omega), if_neg (by omega), Nat.add_sub_cancel_left]
theorem am_ea_2 {P : List (List Nat × List Nat)} {u : Nat → Nat → Int32} {n a b : Nat} {s z : Int32} : am_ea P (am_u2 u n s) a (n + b) z = am_ea P u a b z := by
  have e0 : am_u2 u n s 0 (n + b) = u 0 b := am_u2_1 (by omega)
  have e1 : am_u2 u n s 1 (n + b) = u 1 b := am_u2_1 (by omega)
  have eb : ∀ w i, 2 < w → am_u2 u n s w i = u w i := fun w i h => am_u2_b h
  have e3 := eb 3 a (by omega)
  have e4 := eb 4 a (by omega)
  have e6 := eb 6 a (by omega)
  have e7 := eb 7 a (by omega)
  have e8 := eb 8 0 (by omega)
  have e9 := eb 9 0 (by omega)
  have enm : ∀ z x, am_nm (am_u2 u n s) a (n + b) z x = am_nm u a b z x := fun z x => by
    funext t
    unfold am_nm am_lik
    rw [e0, e1, e3, e4, e8]
  unfold am_ea am_wo am_lat am_lik am_nev am_aw
  simp only [e0, e1, e4, e6, e7, e9, enm]
/-- what all have then -/
def am_sec (P : List (List Nat × List Nat)) (u : Nat → Nat → Int32) (n m r : Nat) (s : Int32) : Nat → Int32 := am_sc2 r m (am_gg u m) (am_god u 0 n) (fun c i => am_ea P u c i s) n (am_gvn P u n m r).2 n
section SP59
variable {d n m : Nat} {u : Nat → Nat → Int32} {mi : am_MI} {ml : am_ML} {R : am_R} {r c : Nat} {P : List (List Nat × List Nat)} {Q : Int32 → Int32 → am_MI → am_ML → Prop}
def am_F60 : Nat → Nat → Bool := fun c j => decide (c = 19 ∨ c = 21 ∨ (c = 15 ∧ j = 9) ∨ c = 43 ∨ c = 45)
theorem am_kV_60 {a b : am_MI} (h : am_kp am_F60 a b) : am_kp (am_FV n) a b := am_kp_w h (fun c j q => by
  have q := of_decide_eq_false q
  exact decide_eq_false (by omega))
/-- giveTwice -/
theorem sp_60 {x y : Int32} (hr : r < 5) (hX : am_X P u n m mi) (hf : am_fre P u n m mi) (hx : x = nI r) (h : ∀ m2, am_kp am_F60 mi m2 → (∀ c, c < m → m2 45 c = am_sec P u n m r y c) → R none m2 ml) : am_call (d + 9) 60 [.ref 22, .int x, .int y] mi ml R := by
  subst hx
  have hc := hX.2.1
  have hn := hc.1
  have hm5 := hc.2.1
  obtain ⟨a1, a2, -⟩ := am_k38 r hr
  have cr : (nI r).toNatClampNeg = r := nI_clamp (by omega)
  unfold am_sec at h
  generalize hE : (fun c i => am_ea P u c i y) = E at h
  have eE : ∀ c i, am_ea P u c i y = E c i := fun c i => by rw [← hE]
  have loop : ∀ v t, t + v = n → ∀ m2, am_kp am_F60 mi m2 → (∀ c, c < m → m2 45 c = am_sc2 r m (am_gg u m) (am_god u 0 n) E n (am_gvn P u n m r).2 t c) → am_wp (am_call (d + 8)) mt_60 R 14 [some (.ref 22), some (.int (nI r)), some (.int y), some (.int (nI t)), none] [] m2 ml := by
    intro v
    induction v with
    | zero =>
      intro t et m2 k2 h2
      have et : t = n := et
      rw [et] at h2 ⊢
      exact bk_60_14 (pk_le n n (fun _ => h m2 k2 h2) (fun q => absurd q (Nat.lt_irrefl _)) ((k2 1 1 rfl).trans hc.2.2.1) rfl)
    | succ v ih =>
      intro t et m2 k2 h2
      have ht : t < n := by omega
      have ih := ih (t + 1) (by omega)
      have lt := am_god_lt (u := u) t ht
      refine bk_60_14 (pk_le n t (fun q => absurd q (by omega)) (fun _ => ?_) ((k2 1 1 rfl).trans hc.2.2.1) rfl)
      have inner : ∀ w k, k + w = m → ∀ m3, am_kp am_F60 mi m3 → (∀ j, j < k → m3 43 j = E j (am_god u 0 n t)) → (∀ c, c < m → m3 45 c = am_sc2 r m (am_gg u m) (am_god u 0 n) E n (am_gvn P u n m r).2 t c) → am_wp (am_call (d + 8)) mt_60 R 21 [some (.ref 22), some (.int (nI r)), some (.int y), some (.int (nI t)), some (.int (nI k))] [] m3 ml := by
        intro w
        induction w with
        | zero =>
          intro k ek m3 k3 h3 h4
          have ek : k = m := ek
          rw [ek] at h3 ⊢
          have hX3 := am_X_V hX (am_kV_60 k3)
          refine bk_60_21 (pk_le m m (fun _ => ?_) (fun q => absurd q (Nat.lt_irrefl _)) hX3.2.1.2.2.2.1 rfl)
          have e1 : m3 1 1 + nI t = nI (n + t) := by
            rw [(k3 1 1 rfl).trans hc.2.2.1, nI_add]
          rw [nI_1]
          refine sp_34 (g := am_gg u m) (x := 45) (t := n + t) rfl rfl hr (by omega) hX3.2.1 (fun j hj => ⟨(k3 24 j rfl).trans (hf.2.1 j hj), am_gg_lt j hj⟩) rfl e1 (fun m0 => am_ri_i ?_) (fun hp c ec => am_ri_i ?_)
          · refine ih m3 k3 (fun c hc2 => ?_)
            omega
          · have m0 : ¬ m = 0 := by omega
            have ew := am_who_c (r := r) (g := am_gg u m) (t := n + t) (e := m3 43) (e2 := fun c => E c (am_god u 0 n t)) (s := m3 45) (s2 := am_sc2 r m (am_gg u m) (am_god u 0 n) E n (am_gvn P u n m r).2 t) hp h3 h4
            have lw := am_who_lt (r := r) (g := am_gg u m) (t := n + t) (e := fun c => E c (am_god u 0 n t)) (s := am_sc2 r m (am_gg u m) (am_god u 0 n) E n (am_gvn P u n m r).2 t) hp am_gg_lt
            have ec := ec.trans ew
            rw [← ec] at lw
            refine ih _ (am_kp_u k3 rfl) (fun c2 hc2 => ?_)
            rw [am_sc2_y m0 ec]
            unfold upd
            by_cases e2 : c2 = c
            · rw [if_pos e2, e2, am_ui_k, h4 c lw, h3 c lw]
            · rw [if_neg e2, am_ui_n (fun _ z => e2 z)]
              exact h4 c2 hc2
        | succ w iw =>
          intro k ek m3 k3 h3 h4
          have hk : k < m := by omega
          have iw := iw (k + 1) (by omega)
          have hX3 := am_X_V hX (am_kV_60 k3)
          refine bk_60_21 (pk_le m k (fun q => absurd q (by omega)) (fun _ => ⟨vp_in_nI (by omega) (by omega), ?_⟩) hX3.2.1.2.2.2.1 rfl)
          rw [nI_clamp (show t < 2 ^ 31 by omega), (k3 23 t rfl).trans (hf.1 t ht), nI_clamp (show k < 2 ^ 31 by omega), nI_1]
          refine sp_117 hX3.1 hX3.2.1 hX3.2.2.2 hk lt rfl rfl (fun m4 k4 => am_ri_i ⟨vp_in_nI (by omega) (by omega), ?_⟩)
          have k4' : am_kp am_F60 mi m4 := am_kp_t k3 (am_kp_w k4 (fun c j q => by
            have q := of_decide_eq_false q
            exact decide_eq_false (by omega)))
          rw [eE]
          refine iw _ (am_kp_u k4' rfl) (fun j hj => ?_) (fun c hc2 => ?_)
          · by_cases ej : j = k
            · rw [ej, am_ui_k]
            · rw [am_ui_n (fun _ z => ej z), k4 43 j rfl]
              exact h3 j (by omega)
          · rw [am_ui_c (by decide), k4 45 c rfl]
            exact h4 c hc2
      exact inner m 0 (Nat.zero_add _) m2 k2 (fun j hj => absurd hj (Nat.not_lt_zero _)) h2
  refine bk_60 ?_
  rw [cr, Nat.one_mul, a1, a2]
  refine ⟨vp_in_nI hr (by omega), by decide, by decide, by decide, by decide, by decide, ?_⟩
  show am_wp (am_call (d + 8)) mt_60 R 14 _ [] (am_ci mi (38 + r) 0 45 0 5) ml
  refine loop n 0 (Nat.zero_add _) _ (fun c j q => ?_) (fun c hc2 => ?_)
  · have q := of_decide_eq_false q
    unfold am_ci
    rw [if_neg (fun z => by omega)]
  · show _ = (am_gvn P u n m r).2 c
    unfold am_ci
    rw [if_pos ⟨rfl, Nat.zero_le _, by omega⟩, Nat.sub_zero, Nat.zero_add]
    exact (hf.2.2.2.1 r hr).2 c hc2
end SP59
