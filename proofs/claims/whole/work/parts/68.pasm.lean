/-! the law's text, read by the reference -/
def am_F194 : Nat → Nat → Bool := fun c j => decide (c = 97 ∨ (c = 78 ∧ (j = 21 ∨ j = 22 ∨ j = 23)))
def am_mb (T : Nat → Nat) (L : Nat) (B : am_MI) : Prop := L ≤ 120 ∧ B 78 13 = nI L ∧ ∀ j, j < L → B 89 j = nI (T j) ∧ T j < 256
def am_mse (B : am_MI) (p o : Nat) (C : List Nat) (m : am_MI) : Prop := am_kp am_F194 B m ∧ m 78 21 = nI p ∧ m 78 22 = nI o ∧ m 78 23 = nI C.length ∧ ∀ j, j < C.length → m 97 j = nI (C.getD j 0)
def am_mf (B : am_MI) (p o : Nat) (m : am_MI) : Prop := am_kp am_F194 B m ∧ m 78 21 = nI p ∧ m 78 22 = nI o
def am_mG (B : am_MI) (D g : Nat) (r : am_Res) (o : Nat) (C : List Nat) (m : am_MI) (ml : am_ML) : Prop := ∀ R : am_R, (r.1 = true → ∀ m2, am_mse B r.2.1 o (C ++ r.2.2) m2 → R (some (.int 1)) m2 ml) → (r.1 = false → ∀ m2, am_mf B r.2.1 o m2 → R (some (.int 0)) m2 ml) → am_call D g [.ref 78] m ml R
def am_sv (T : Nat → Nat) (L p : Nat) : Int32 := if p < L then nI (T p) else -1
theorem am_gn_l {a b : List Nat} {j : Nat} (h : j < a.length) : (a ++ b).getD j 0 = a.getD j 0 := by
  rw [List.getD_eq_getElem?_getD, List.getD_eq_getElem?_getD, List.getElem?_append_left h]
theorem am_gn_r {a b : List Nat} {j : Nat} : (a ++ b).getD (a.length + j) 0 = b.getD j 0 := by
  rw [List.getD_eq_getElem?_getD, List.getD_eq_getElem?_getD, List.getElem?_append_right (Nat.le_add_right _ _), Nat.add_sub_cancel_left]
theorem am_nmn : ∀ b, b < 256 → am_nmo b < 6 → ¬ am_dig b = true := by decide +kernel
section SP68
variable {D L p o : Nat} {T : Nat → Nat} {B m : am_MI} {ml : am_ML} {R : am_R} {C : List Nat}
theorem am_mse_f (h : am_mse B p o C m) : am_mf B p o m := ⟨h.1, h.2.1, h.2.2.1⟩
theorem am_mse_p {q : Nat} (h : am_mse B p o C m) : am_mse B q o C (am_ui m 78 21 (nI q)) := by
  obtain ⟨h1, h2, h3, h4, h5⟩ := h
  refine ⟨am_kp_u h1 rfl, am_ui_k, ?_, ?_, fun j hj => ?_⟩
  · rw [am_ui_n (by omega)]
    exact h3
  · rw [am_ui_n (by omega)]
    exact h4
  · rw [am_ui_c (by decide)]
    exact h5 j hj
theorem am_mse_o {q : Nat} (h : am_mse B p o C m) : am_mse B p q C (am_ui m 78 22 (nI q)) := by
  obtain ⟨h1, h2, h3, h4, h5⟩ := h
  refine ⟨am_kp_u h1 rfl, ?_, am_ui_k, ?_, fun j hj => ?_⟩
  · rw [am_ui_n (by omega)]
    exact h2
  · rw [am_ui_n (by omega)]
    exact h4
  · rw [am_ui_c (by decide)]
    exact h5 j hj
theorem am_mf_o {q : Nat} (h : am_mf B p o m) : am_mf B p q (am_ui m 78 22 (nI q)) := by
  obtain ⟨h1, h2, h3⟩ := h
  refine ⟨am_kp_u h1 rfl, ?_, am_ui_k⟩
  rw [am_ui_n (by omega)]
  exact h2
theorem am_sv_e {b : Nat} (hb : am_mb T L B) (h : b < 1000) : am_sv T L p = nI b ↔ p < L ∧ T p = b := by
  unfold am_sv
  by_cases g : p < L
  · have hT := (hb.2.2 p g).2
    rw [if_pos g, nI_eq (by omega) (by omega)]
    exact ⟨fun e => ⟨g, e⟩, fun e => e.2⟩
  · rw [if_neg g]
    refine ⟨fun e => ?_, fun e => absurd e.1 g⟩
    rw [am_eq_i, am_lm1, am_ti (by omega)] at e
    omega
/-- sign -/
theorem sp_189 (hD : 1 ≤ D) (hb : am_mb T L B) (hk : am_kp am_F194 B m) (hp : p ≤ L) (hat : m 78 21 = nI p) (h : R (some (.int (am_sv T L p))) m ml) : am_call D 189 [.ref 78] m ml R := by
  obtain ⟨d, rfl⟩ : ∃ d, D = d + 1 := ⟨D - 1, by omega⟩
  obtain ⟨b1, b2, b3⟩ := hb
  have e1 : m 78 13 = nI L := (hk 78 13 rfl).trans b2
  unfold am_sv at h
  refine bk_189 (pk_le L p (fun q => ?_) (fun q => ?_) e1 hat)
  · rw [if_neg (by omega)] at h
    exact h
  · rw [if_pos q] at h
    rw [hat, nI_clamp (by omega), hk 89 p rfl, (b3 p q).1]
    exact ⟨vp_in_nI (by omega) (by omega), h⟩
/-- is -/
theorem sp_190 {x : Int32} {b : Nat} (hD : 2 ≤ D) (hb : am_mb T L B) (hk : am_kp am_F194 B m) (hp : p ≤ L) (hat : m 78 21 = nI p) (hx : x = nI b) (hbb : b < 1000) (h1 : p < L → T p = b → R (some (.int 1)) (am_ui m 78 21 (nI (p + 1))) ml) (h0 : ¬ (p < L ∧ T p = b) → R (some (.int 0)) m ml) : am_call D 190 [.ref 78, .int x] m ml R := by
  obtain ⟨d, rfl⟩ : ∃ d, D = d + 1 := ⟨D - 1, by omega⟩
  subst hx
  refine bk_190 (sp_189 (by omega) hb hk hp hat (am_ri_i ?_))
  have e := am_sv_e (p := p) hb hbb
  rw [hat, nI_1]
  exact ⟨fun q => ⟨am_b1, h1 (e.mp q).1 (e.mp q).2⟩, fun q => ⟨am_b0, h0 (fun z => q (e.mpr z))⟩⟩
/-- codes -/
theorem sp_191 {x : Int32} {t : Nat} (hD : 1 ≤ D) (hs : am_mse B p o C m) (hl : C.length < 200) (hx : x = nI t) (h : ∀ m2, am_mse B p o (C ++ [t]) m2 → R (some (.int 1)) m2 ml) : am_call D 191 [.ref 78, .int x] m ml R := by
  obtain ⟨d, rfl⟩ : ∃ d, D = d + 1 := ⟨D - 1, by omega⟩
  subst hx
  obtain ⟨h1, h2, h3, h4, h5⟩ := hs
  refine bk_191 ?_
  rw [h4, nI_clamp (show C.length < 2 ^ 31 by omega), nI_1]
  refine ⟨vp_in_nI hl (by omega), am_b1, h _ ⟨am_kp_u (am_kp_u h1 rfl) rfl, ?_, ?_, ?_, fun j hj => ?_⟩⟩
  · rw [am_ui_c (by decide), am_ui_n (by omega)]
    exact h2
  · rw [am_ui_c (by decide), am_ui_n (by omega)]
    exact h3
  · rw [am_ui_c (by decide), am_ui_k, List.length_append]
    rfl
  · rw [List.length_append] at hj
    have hj : j < C.length + 1 := hj
    by_cases e : j = C.length
    · have z := am_gn_r (a := C) (b := [t]) (j := 0)
      rw [Nat.add_zero] at z
      rw [e, am_ui_k, z]
      rfl
    · rw [am_ui_n (fun _ q => e q), am_ui_c (by decide), am_gn_l (by omega)]
      exact h5 j (by omega)
/-- isDigit -/
theorem sp_192 (hD : 2 ≤ D) (hb : am_mb T L B) (hk : am_kp am_F194 B m) (hp : p ≤ L) (hat : m 78 21 = nI p) (h1 : p < L → am_dig (T p) = true → R (some (.int 1)) m ml) (h0 : ¬ (p < L ∧ am_dig (T p) = true) → R (some (.int 0)) m ml) : am_call D 192 [.ref 78] m ml R := by
  obtain ⟨d, rfl⟩ : ∃ d, D = d + 1 := ⟨D - 1, by omega⟩
  have l48 : (48 : Int32).toInt = 48 := rfl
  refine bk_192 (sp_189 (by omega) hb hk hp hat (am_ri_i ?_))
  unfold am_sv
  by_cases g : p < L
  · have hT := (hb.2.2 p g).2
    rw [if_pos g]
    refine ⟨fun q => ⟨am_b0, h0 (fun z => ?_)⟩, fun q => sp_189 (by omega) hb hk hp hat (am_ri_i ?_)⟩
    · have z := of_decide_eq_true z.2
      rw [am_lt_i, l48, am_ti (by omega)] at q
      omega
    · unfold am_sv
      rw [if_pos g]
      refine ⟨fun q2 => ⟨am_b0, h0 (fun z => ?_)⟩, fun q2 => ⟨am_b1, h1 g (decide_eq_true ?_)⟩⟩
      · have z := of_decide_eq_true z.2
        rw [am_lt_i, am_l57, am_ti (by omega)] at q2
        omega
      · rw [am_lt_i, l48, am_ti (by omega)] at q
        rw [am_lt_i, am_l57, am_ti (by omega)] at q2
        omega
  · rw [if_neg g]
    exact ⟨fun _ => ⟨am_b0, h0 (fun z => g z.1)⟩, fun q => absurd (by decide) q⟩
/-- nameOf -/
theorem sp_193 (hD : 1 ≤ D) (hb : am_mb T L B) (h : R (some (.int (if p < L ∧ am_nmo (T p) < 6 then nI (am_nmo (T p)) else -1))) m ml) : am_call D 193 [.int (am_sv T L p)] m ml R := by
  obtain ⟨d, rfl⟩ : ∃ d, D = d + 1 := ⟨D - 1, by omega⟩
  have e97 := am_sv_e (p := p) (b := 97) hb (by omega)
  have e100 := am_sv_e (p := p) (b := 100) hb (by omega)
  have e107 := am_sv_e (p := p) (b := 107) hb (by omega)
  have e110 := am_sv_e (p := p) (b := 110) hb (by omega)
  have e115 := am_sv_e (p := p) (b := 115) hb (by omega)
  have e119 := am_sv_e (p := p) (b := 119) hb (by omega)
  refine bk_193 ⟨fun q => ?_, fun q1 => ⟨fun q => ?_, fun q2 => ⟨fun q => ?_, fun q3 => ⟨fun q => ?_, fun q4 => ⟨fun q => ?_, fun q5 => ⟨fun q => ?_, fun q6 => ?_⟩⟩⟩⟩⟩⟩
  · obtain ⟨a, b⟩ := e97.mp q
    rw [b, if_pos ⟨a, by decide⟩] at h
    exact h
  · obtain ⟨a, b⟩ := e100.mp q
    rw [b, if_pos ⟨a, by decide⟩] at h
    exact h
  · obtain ⟨a, b⟩ := e107.mp q
    rw [b, if_pos ⟨a, by decide⟩] at h
    exact h
  · obtain ⟨a, b⟩ := e110.mp q
    rw [b, if_pos ⟨a, by decide⟩] at h
    exact h
  · obtain ⟨a, b⟩ := e115.mp q
    rw [b, if_pos ⟨a, by decide⟩] at h
    exact h
  · obtain ⟨a, b⟩ := e119.mp q
    rw [b, if_pos ⟨a, by decide⟩] at h
    exact h
  · rw [if_neg (fun z => ?_)] at h
    · exact h
    · have zz := z.2
      unfold am_nmo at zz
      rw [if_neg (fun y => q5 (e115.mpr ⟨z.1, y⟩)), if_neg (fun y => q6 (e119.mpr ⟨z.1, y⟩)), if_neg (fun y => q2 (e100.mpr ⟨z.1, y⟩)), if_neg (fun y => q1 (e97.mpr ⟨z.1, y⟩)), if_neg (fun y => q4 (e110.mpr ⟨z.1, y⟩)), if_neg (fun y => q3 (e107.mpr ⟨z.1, y⟩))] at zz
      omega
/-- one more operand behind a sign: g is the operand's method, W the loop -/
theorem am_mgo {f : Nat → am_Res} {c g t : Nat} {st : Int32} {W : am_MI → am_ML → Prop} (hL : L ≤ 120) (hg : ∀ p, p ≤ L → am_god1 L p (f p)) (hf : ∀ D, c ≤ D → ∀ p C m, p ≤ L → C.length ≤ p → am_mse B p o C m → am_mG B D g (f p) o C m ml) (hD : c ≤ D) (hc : 1 ≤ c) (hp : p < L) (hl : C.length ≤ p) (hst : st = nI t) {m : am_MI} (hs : am_mse B (p + 1) o C m)
    (h1 : (f (p + 1)).1 = true → ∀ m2, am_mse B (f (p + 1)).2.1 o (C ++ (f (p + 1)).2.2 ++ [t]) m2 → W m2 ml) (h0 : (f (p + 1)).1 = false → ∀ m2, am_mf B (f (p + 1)).2.1 o m2 → R (some (.int 0)) m2 ml) :
    am_call D g [.ref 78] m ml (am_ri fun r1 mi1 ml1 => ((r1 ≠ 0 → am_call D 191 [.ref 78, .int st] mi1 ml1 (am_ri fun _ mi2 ml2 => W mi2 ml2)) ∧ (¬ (r1 ≠ 0) → (((0 : Int32) = 0 ∨ (0 : Int32) = 1) ∧ R (some (.int (0 : Int32))) mi1 ml1)))) := by
  obtain ⟨a1, a2, a3⟩ := hg (p + 1) (by omega)
  refine hf D hD (p + 1) C m (by omega) (by omega) hs _ (fun ok m2 s2 => am_ri_i (am_yn (sp_191 (by omega) s2 ?_ hst (fun m3 s3 => am_ri_i (h1 ok m3 s3))))) (fun ok m2 s2 => am_ri_i (am_nn ⟨am_b0, h0 ok m2 s2⟩))
  have := (a3 ok).2.1
  rw [List.length_append]
  omega
/-- isP -/
theorem sp_195 {f : Nat → am_Res} {c : Nat} (hb : am_mb T L B) (hc : 2 ≤ c) (hg : ∀ p, p ≤ L → am_god1 L p (f p)) (hf : ∀ D, c ≤ D → ∀ p C m, p ≤ L → C.length ≤ p → am_mse B p o C m → am_mG B D 194 (f p) o C m ml) : ∀ D, c + 1 ≤ D → ∀ p C m, p ≤ L → C.length ≤ p → am_mse B p o C m → am_mG B D 195 (am_lve T L f 4 p) o C m ml := by
  intro D hD p C m hp hl hs R h1 h0
  have hL := hb.1
  obtain ⟨d, rfl⟩ : ∃ d, D = d + 1 := ⟨D - 1, by omega⟩
  obtain ⟨a1, a2, a3⟩ := hg p hp
  have loop : ∀ k i p (ts : List Nat) m, i + k = L → i < p → p ≤ L → (C ++ ts).length ≤ p → am_mse B p o (C ++ ts) m → ((am_lp T L f 4 k p ts).1 = true → ∀ m2, am_mse B (am_lp T L f 4 k p ts).2.1 o (C ++ (am_lp T L f 4 k p ts).2.2) m2 → R (some (.int 1)) m2 ml) → ((am_lp T L f 4 k p ts).1 = false → ∀ m2, am_mf B (am_lp T L f 4 k p ts).2.1 o m2 → R (some (.int 0)) m2 ml) → am_wp (am_call d) mt_195 R 5 [some (.ref 78), none] [] m ml := by
    intro k
    induction k with
    | zero =>
      intro i p ts m e1 e2 e3
      omega
    | succ k ih =>
      intro i p ts m ei hip hp hl hs h1 h0
      have un : am_lp T L f 4 (k + 1) p ts = if p < L ∧ am_sgn 4 (T p) ≠ 0 then (if (f (p + 1)).1 = true then am_lp T L f 4 k (f (p + 1)).2.1 (ts ++ (f (p + 1)).2.2 ++ [am_sgn 4 (T p)]) else (false, (f (p + 1)).2.1, [])) else (true, p, ts) := rfl
      rw [un] at h1 h0
      have sg : am_sgn 4 (T p) = if T p = 42 then 13 else if T p = 47 then 14 else if T p = 37 then 15 else 0 := rfl
      have e42 := am_sv_e (p := p) (b := 42) hb (by omega)
      have e47 := am_sv_e (p := p) (b := 47) hb (by omega)
      have e37 := am_sv_e (p := p) (b := 37) hb (by omega)
      have r189 : ∀ K : am_R, K (some (.int (am_sv T L p))) m ml → am_call d 189 [.ref 78] m ml K := fun K g => sp_189 (by omega) hb hs.1 hp hs.2.1 g
      have found : ∀ t (st : Int32), p < L → am_sgn 4 (T p) = t → 6 ≤ t → t < 16 → st = nI t → am_wp (am_call d) mt_195 R 24 [some (.ref 78), none] [.int st] m ml := by
        intro t st hpL et t6 t16 est
        rw [et, if_pos ⟨hpL, by omega⟩] at h1 h0
        refine bk_195_24 ⟨fun _ => ?_, fun q => absurd (by rw [est, am_le_i, am_l0, am_ti (by omega)]; omega) q⟩
        rw [hs.2.1, nI_1]
        obtain ⟨b1, b2, b3⟩ := hg (p + 1) (by omega)
        refine am_mgo (R := R) (W := fun m2 ml2 => am_wp (am_call d) mt_195 R 5 [some (.ref 78), none] [] m2 ml2) (t := t) hL hg hf (by omega) (by omega) hpL hl est (am_mse_p hs) (fun ok m2 s2 => ?_) (fun ok m2 s2 => ?_)
        · rw [if_pos ok] at h1 h0
          obtain ⟨b4, b5, -⟩ := b3 ok
          have es : C ++ ts ++ (f (p + 1)).2.2 ++ [t] = C ++ (ts ++ (f (p + 1)).2.2 ++ [t]) := by rw [List.append_assoc, List.append_assoc, List.append_assoc]
          rw [es] at s2
          refine ih (i + 1) _ _ m2 (by omega) (by omega) b2 ?_ s2 h1 h0
          rw [← es, List.length_append, List.length_append]
          show (C ++ ts).length + (f (p + 1)).2.2.length + 1 ≤ _
          omega
        · rw [if_neg (by rw [ok]; decide)] at h1 h0
          exact h0 rfl m2 s2
      refine bk_195_5 (r189 _ (am_ri_i ⟨fun n42 => r189 _ (am_ri_i ⟨fun n47 => r189 _ (am_ri_i ⟨fun n37 => bk_195_24 ⟨fun q => absurd q (by decide), fun _ => ⟨am_b1, ?_⟩⟩, fun y37 => ?_⟩), fun y47 => ?_⟩), fun y42 => ?_⟩))
      · have nn : ¬ (p < L ∧ am_sgn 4 (T p) ≠ 0) := fun z => z.2 (by rw [sg, if_neg (fun y => n42 (e42.mpr ⟨z.1, y⟩)), if_neg (fun y => n47 (e47.mpr ⟨z.1, y⟩)), if_neg (fun y => n37 (e37.mpr ⟨z.1, y⟩))])
        rw [if_neg nn] at h1
        exact h1 rfl m hs
      · have y := e37.mp (Decidable.not_not.mp y37)
        exact found 15 15 y.1 (by rw [sg, if_neg (by omega), if_neg (by omega), if_pos y.2]) (by omega) (by omega) rfl
      · have y := e47.mp (Decidable.not_not.mp y47)
        exact found 14 14 y.1 (by rw [sg, if_neg (by omega), if_pos y.2]) (by omega) (by omega) rfl
      · have y := e42.mp (Decidable.not_not.mp y42)
        exact found 13 13 y.1 (by rw [sg, if_pos y.2]) (by omega) (by omega) rfl
  have un : am_lve T L f 4 p = if (f p).1 = true then am_lp T L f 4 L (f p).2.1 (f p).2.2 else (false, (f p).2.1, []) := rfl
  rw [un] at h1 h0
  refine bk_195 (hf d (by omega) p C m hp hl hs _ (fun ok m2 s2 => am_ri_i (am_yn ?_)) (fun ok m2 s2 => am_ri_i (am_nn ⟨am_b0, ?_⟩)))
  · rw [if_pos ok] at h1 h0
    obtain ⟨a4, a5, -⟩ := a3 ok
    exact loop L 0 _ _ m2 (Nat.zero_add _) (by omega) a2 (by rw [List.length_append]; omega) s2 h1 h0
  · rw [if_neg (by rw [ok]; decide)] at h0
    exact h0 rfl m2 s2
/-- isS -/
theorem sp_196 {f : Nat → am_Res} {c : Nat} (hb : am_mb T L B) (hc : 2 ≤ c) (hg : ∀ p, p ≤ L → am_god1 L p (f p)) (hf : ∀ D, c ≤ D → ∀ p C m, p ≤ L → C.length ≤ p → am_mse B p o C m → am_mG B D 195 (f p) o C m ml) : ∀ D, c + 1 ≤ D → ∀ p C m, p ≤ L → C.length ≤ p → am_mse B p o C m → am_mG B D 196 (am_lve T L f 3 p) o C m ml := by
  intro D hD p C m hp hl hs R h1 h0
  have hL := hb.1
  obtain ⟨d, rfl⟩ : ∃ d, D = d + 1 := ⟨D - 1, by omega⟩
  obtain ⟨a1, a2, a3⟩ := hg p hp
  have loop : ∀ k i p (ts : List Nat) m, i + k = L → i < p → p ≤ L → (C ++ ts).length ≤ p → am_mse B p o (C ++ ts) m → ((am_lp T L f 3 k p ts).1 = true → ∀ m2, am_mse B (am_lp T L f 3 k p ts).2.1 o (C ++ (am_lp T L f 3 k p ts).2.2) m2 → R (some (.int 1)) m2 ml) → ((am_lp T L f 3 k p ts).1 = false → ∀ m2, am_mf B (am_lp T L f 3 k p ts).2.1 o m2 → R (some (.int 0)) m2 ml) → am_wp (am_call d) mt_196 R 5 [some (.ref 78), none] [] m ml := by
    intro k
    induction k with
    | zero =>
      intro i p ts m e1 e2 e3
      omega
    | succ k ih =>
      intro i p ts m ei hip hp hl hs h1 h0
      have un : am_lp T L f 3 (k + 1) p ts = if p < L ∧ am_sgn 3 (T p) ≠ 0 then (if (f (p + 1)).1 = true then am_lp T L f 3 k (f (p + 1)).2.1 (ts ++ (f (p + 1)).2.2 ++ [am_sgn 3 (T p)]) else (false, (f (p + 1)).2.1, [])) else (true, p, ts) := rfl
      rw [un] at h1 h0
      have sg : am_sgn 3 (T p) = if T p = 43 then 11 else if T p = 45 then 12 else 0 := rfl
      have e43 := am_sv_e (p := p) (b := 43) hb (by omega)
      have e45 := am_sv_e (p := p) (b := 45) hb (by omega)
      have r189 : ∀ K : am_R, K (some (.int (am_sv T L p))) m ml → am_call d 189 [.ref 78] m ml K := fun K g => sp_189 (by omega) hb hs.1 hp hs.2.1 g
      have found : ∀ t (st : Int32), p < L → am_sgn 3 (T p) = t → 6 ≤ t → t < 16 → st = nI t → am_call d 195 [.ref 78] (am_ui m 78 21 (m 78 21 + 1)) ml (am_ri fun r1 mi1 ml1 => ((r1 ≠ 0 → am_call d 191 [.ref 78, .int st] mi1 ml1 (am_ri fun _ mi2 ml2 => am_wp (am_call d) mt_196 R 5 [some (.ref 78), none] [] mi2 ml2)) ∧ (¬ (r1 ≠ 0) → (((0 : Int32) = 0 ∨ (0 : Int32) = 1) ∧ R (some (.int (0 : Int32))) mi1 ml1)))) := by
        intro t st hpL et t6 t16 est
        rw [et, if_pos ⟨hpL, by omega⟩] at h1 h0
        rw [hs.2.1, nI_1]
        obtain ⟨b1, b2, b3⟩ := hg (p + 1) (by omega)
        refine am_mgo (R := R) (W := fun m2 ml2 => am_wp (am_call d) mt_196 R 5 [some (.ref 78), none] [] m2 ml2) (t := t) hL hg hf (by omega) (by omega) hpL hl est (am_mse_p hs) (fun ok m2 s2 => ?_) (fun ok m2 s2 => ?_)
        · rw [if_pos ok] at h1 h0
          obtain ⟨b4, b5, -⟩ := b3 ok
          have es : C ++ ts ++ (f (p + 1)).2.2 ++ [t] = C ++ (ts ++ (f (p + 1)).2.2 ++ [t]) := by rw [List.append_assoc, List.append_assoc, List.append_assoc]
          rw [es] at s2
          refine ih (i + 1) _ _ m2 (by omega) (by omega) b2 ?_ s2 h1 h0
          rw [← es, List.length_append, List.length_append]
          show (C ++ ts).length + (f (p + 1)).2.2.length + 1 ≤ _
          omega
        · rw [if_neg (by rw [ok]; decide)] at h1 h0
          exact h0 rfl m2 s2
      refine bk_196_5 (r189 _ (am_ri_i ⟨fun n43 => r189 _ (am_ri_i ⟨fun n45 => ⟨fun q => absurd q (by decide), fun _ => ⟨am_b1, ?_⟩⟩, fun y45 => ⟨fun _ => ?_, fun q => absurd (by decide) q⟩⟩), fun y43 => ⟨fun _ => ?_, fun q => absurd (by decide) q⟩⟩))
      · have nn : ¬ (p < L ∧ am_sgn 3 (T p) ≠ 0) := fun z => z.2 (by rw [sg, if_neg (fun y => n43 (e43.mpr ⟨z.1, y⟩)), if_neg (fun y => n45 (e45.mpr ⟨z.1, y⟩))])
        rw [if_neg nn] at h1
        exact h1 rfl m hs
      · have y := e45.mp (Decidable.not_not.mp y45)
        exact found 12 12 y.1 (by rw [sg, if_neg (by omega), if_pos y.2]) (by omega) (by omega) rfl
      · have y := e43.mp (Decidable.not_not.mp y43)
        exact found 11 11 y.1 (by rw [sg, if_pos y.2]) (by omega) (by omega) rfl
  have un : am_lve T L f 3 p = if (f p).1 = true then am_lp T L f 3 L (f p).2.1 (f p).2.2 else (false, (f p).2.1, []) := rfl
  rw [un] at h1 h0
  refine bk_196 (hf d (by omega) p C m hp hl hs _ (fun ok m2 s2 => am_ri_i (am_yn ?_)) (fun ok m2 s2 => am_ri_i (am_nn ⟨am_b0, ?_⟩)))
  · rw [if_pos ok] at h1 h0
    obtain ⟨a4, a5, -⟩ := a3 ok
    exact loop L 0 _ _ m2 (Nat.zero_add _) (by omega) a2 (by rw [List.length_append]; omega) s2 h1 h0
  · rw [if_neg (by rw [ok]; decide)] at h0
    exact h0 rfl m2 s2
/-- isB -/
theorem sp_197 {f : Nat → am_Res} {c : Nat} (hb : am_mb T L B) (hc : 2 ≤ c) (hg : ∀ p, p ≤ L → am_god1 L p (f p)) (hf : ∀ D, c ≤ D → ∀ p C m, p ≤ L → C.length ≤ p → am_mse B p o C m → am_mG B D 196 (f p) o C m ml) : ∀ D, c + 1 ≤ D → ∀ p C m, p ≤ L → C.length ≤ p → am_mse B p o C m → am_mG B D 197 (am_lve T L f 2 p) o C m ml := by
  intro D hD p C m hp hl hs R h1 h0
  have hL := hb.1
  obtain ⟨d, rfl⟩ : ∃ d, D = d + 1 := ⟨D - 1, by omega⟩
  obtain ⟨a1, a2, a3⟩ := hg p hp
  have un : am_lve T L f 2 p = if (f p).1 = true then am_lp T L f 2 1 (f p).2.1 (f p).2.2 else (false, (f p).2.1, []) := rfl
  rw [un] at h1 h0
  refine bk_197 (hf d (by omega) p C m hp hl hs _ (fun ok m2 s2 => am_ri_i (am_yn ?_)) (fun ok m2 s2 => am_ri_i (am_nn ⟨am_b0, ?_⟩)))
  · rw [if_pos ok] at h1 h0
    obtain ⟨a4, a5, -⟩ := a3 ok
    generalize (f p).2.1 = q at a1 a2 a4 a5 s2 h1 h0
    generalize (f p).2.2 = ts at a5 s2 h1 h0
    have hl2 : (C ++ ts).length ≤ q := by
      rw [List.length_append]
      omega
    have u1 : am_lp T L f 2 1 q ts = if q < L ∧ am_sgn 2 (T q) ≠ 0 then (if (f (q + 1)).1 = true then (true, (f (q + 1)).2.1, ts ++ (f (q + 1)).2.2 ++ [am_sgn 2 (T q)]) else (false, (f (q + 1)).2.1, [])) else (true, q, ts) := rfl
    rw [u1] at h1 h0
    have sg : am_sgn 2 (T q) = if T q = 60 then 8 else if T q = 61 then 9 else if T q = 62 then 10 else 0 := rfl
    have e60 := am_sv_e (p := q) (b := 60) hb (by omega)
    have e61 := am_sv_e (p := q) (b := 61) hb (by omega)
    have e62 := am_sv_e (p := q) (b := 62) hb (by omega)
    have r189 : ∀ K : am_R, K (some (.int (am_sv T L q))) m2 ml → am_call d 189 [.ref 78] m2 ml K := fun K g => sp_189 (by omega) hb s2.1 a2 s2.2.1 g
    have found : ∀ t (st : Int32), q < L → am_sgn 2 (T q) = t → 6 ≤ t → t < 16 → st = nI t → am_wp (am_call d) mt_197 R 24 [some (.ref 78), none] [.int st] m2 ml := by
      intro t st hpL et t6 t16 est
      rw [et, if_pos ⟨hpL, by omega⟩] at h1 h0
      refine bk_197_24 ⟨fun _ => ?_, fun q => absurd (by rw [est, am_le_i, am_l0, am_ti (by omega)]; omega) q⟩
      rw [s2.2.1, nI_1]
      obtain ⟨b1, b2, b3⟩ := hg (q + 1) (by omega)
      refine hf d (by omega) (q + 1) _ _ (by omega) (by omega) (am_mse_p s2) _ (fun ok m3 s3 => am_ri_i (am_y (sp_191 (by omega) s3 ?_ est (fun m4 s4 => am_ri_i (am_y (bk_197_45 ⟨am_b1, ?_⟩)))))) (fun ok m3 s3 => am_ri_i (am_n0 (bk_197_44 (bk_197_45 ⟨am_b0, ?_⟩))))
      · have := (b3 ok).2.1
        rw [List.length_append]
        omega
      · rw [if_pos ok] at h1
        have es : C ++ ts ++ (f (q + 1)).2.2 ++ [t] = C ++ (ts ++ (f (q + 1)).2.2 ++ [t]) := by rw [List.append_assoc, List.append_assoc, List.append_assoc]
        rw [es] at s4
        exact h1 rfl m4 s4
      · rw [if_neg (by rw [ok]; decide)] at h0
        exact h0 rfl m3 s3
    refine r189 _ (am_ri_i ⟨fun n60 => r189 _ (am_ri_i ⟨fun n61 => r189 _ (am_ri_i ⟨fun n62 => bk_197_24 ⟨fun q => absurd q (by decide), fun _ => ⟨am_b1, ?_⟩⟩, fun y62 => ?_⟩), fun y61 => ?_⟩), fun y60 => ?_⟩)
    · have nn : ¬ (q < L ∧ am_sgn 2 (T q) ≠ 0) := fun z => z.2 (by rw [sg, if_neg (fun y => n60 (e60.mpr ⟨z.1, y⟩)), if_neg (fun y => n61 (e61.mpr ⟨z.1, y⟩)), if_neg (fun y => n62 (e62.mpr ⟨z.1, y⟩))])
      rw [if_neg nn] at h1
      exact h1 rfl m2 s2
    · have y := e62.mp (Decidable.not_not.mp y62)
      exact found 10 10 y.1 (by rw [sg, if_neg (by omega), if_neg (by omega), if_pos y.2]) (by omega) (by omega) rfl
    · have y := e61.mp (Decidable.not_not.mp y61)
      exact found 9 9 y.1 (by rw [sg, if_neg (by omega), if_pos y.2]) (by omega) (by omega) rfl
    · have y := e60.mp (Decidable.not_not.mp y60)
      exact found 8 8 y.1 (by rw [sg, if_pos y.2]) (by omega) (by omega) rfl
  · rw [if_neg (by rw [ok]; decide)] at h0
    exact h0 rfl m2 s2
/-- isA -/
theorem sp_198 {f : Nat → am_Res} {c : Nat} (hb : am_mb T L B) (hc : 2 ≤ c) (hg : ∀ p, p ≤ L → am_god1 L p (f p)) (hf : ∀ D, c ≤ D → ∀ p C m, p ≤ L → C.length ≤ p → am_mse B p o C m → am_mG B D 197 (f p) o C m ml) : ∀ D, c + 1 ≤ D → ∀ p C m, p ≤ L → C.length ≤ p → am_mse B p o C m → am_mG B D 198 (am_lve T L f 1 p) o C m ml := by
  intro D hD p C m hp hl hs R h1 h0
  have hL := hb.1
  obtain ⟨d, rfl⟩ : ∃ d, D = d + 1 := ⟨D - 1, by omega⟩
  obtain ⟨a1, a2, a3⟩ := hg p hp
  have loop : ∀ k i p (ts : List Nat) m, i + k = L → i < p → p ≤ L → (C ++ ts).length ≤ p → am_mse B p o (C ++ ts) m → ((am_lp T L f 1 k p ts).1 = true → ∀ m2, am_mse B (am_lp T L f 1 k p ts).2.1 o (C ++ (am_lp T L f 1 k p ts).2.2) m2 → R (some (.int 1)) m2 ml) → ((am_lp T L f 1 k p ts).1 = false → ∀ m2, am_mf B (am_lp T L f 1 k p ts).2.1 o m2 → R (some (.int 0)) m2 ml) → am_wp (am_call d) mt_198 R 5 [some (.ref 78)] [] m ml := by
    intro k
    induction k with
    | zero =>
      intro i p ts m e1 e2 e3
      omega
    | succ k ih =>
      intro i p ts m ei hip hp hl hs h1 h0
      have un : am_lp T L f 1 (k + 1) p ts = if p < L ∧ am_sgn 1 (T p) ≠ 0 then (if (f (p + 1)).1 = true then am_lp T L f 1 k (f (p + 1)).2.1 (ts ++ (f (p + 1)).2.2 ++ [am_sgn 1 (T p)]) else (false, (f (p + 1)).2.1, [])) else (true, p, ts) := rfl
      rw [un] at h1 h0
      have sg : am_sgn 1 (T p) = if T p = 38 then 7 else 0 := rfl
      refine bk_198_5 (sp_190 (b := 38) (by omega) hb hs.1 hp hs.2.1 rfl (by omega) (fun q1 q2 => am_ri_i (am_y ?_)) (fun q => am_ri_i (am_n0 ⟨am_b1, ?_⟩)))
      · rw [if_pos q2] at sg
        rw [sg, if_pos ⟨q1, by decide⟩] at h1 h0
        obtain ⟨b1, b2, b3⟩ := hg (p + 1) (by omega)
        refine am_mgo (R := R) (W := fun m2 ml2 => am_wp (am_call d) mt_198 R 5 [some (.ref 78)] [] m2 ml2) (t := 7) hL hg hf (by omega) (by omega) q1 hl rfl (am_mse_p hs) (fun ok m2 s2 => ?_) (fun ok m2 s2 => ?_)
        · rw [if_pos ok] at h1 h0
          obtain ⟨b4, b5, -⟩ := b3 ok
          have es : C ++ ts ++ (f (p + 1)).2.2 ++ [7] = C ++ (ts ++ (f (p + 1)).2.2 ++ [7]) := by rw [List.append_assoc, List.append_assoc, List.append_assoc]
          rw [es] at s2
          refine ih (i + 1) _ _ m2 (by omega) (by omega) b2 ?_ s2 h1 h0
          rw [← es, List.length_append, List.length_append]
          show (C ++ ts).length + (f (p + 1)).2.2.length + 1 ≤ _
          omega
        · rw [if_neg (by rw [ok]; decide)] at h1 h0
          exact h0 rfl m2 s2
      · have nn : ¬ (p < L ∧ am_sgn 1 (T p) ≠ 0) := fun z => z.2 (by rw [sg, if_neg (fun y => q ⟨z.1, y⟩)])
        rw [if_neg nn] at h1
        exact h1 rfl m hs
  have un : am_lve T L f 1 p = if (f p).1 = true then am_lp T L f 1 L (f p).2.1 (f p).2.2 else (false, (f p).2.1, []) := rfl
  rw [un] at h1 h0
  refine bk_198 (hf d (by omega) p C m hp hl hs _ (fun ok m2 s2 => am_ri_i (am_yn ?_)) (fun ok m2 s2 => am_ri_i (am_nn ⟨am_b0, ?_⟩)))
  · rw [if_pos ok] at h1 h0
    obtain ⟨a4, a5, -⟩ := a3 ok
    exact loop L 0 _ _ m2 (Nat.zero_add _) (by omega) a2 (by rw [List.length_append]; omega) s2 h1 h0
  · rw [if_neg (by rw [ok]; decide)] at h0
    exact h0 rfl m2 s2
/-- isE -/
theorem sp_199 {f : Nat → am_Res} {c : Nat} (hb : am_mb T L B) (hc : 2 ≤ c) (hg : ∀ p, p ≤ L → am_god1 L p (f p)) (hf : ∀ D, c ≤ D → ∀ p C m, p ≤ L → C.length ≤ p → am_mse B p o C m → am_mG B D 198 (f p) o C m ml) : ∀ D, c + 1 ≤ D → ∀ p C m, p ≤ L → C.length ≤ p → am_mse B p o C m → am_mG B D 199 (am_lve T L f 0 p) o C m ml := by
  intro D hD p C m hp hl hs R h1 h0
  have hL := hb.1
  obtain ⟨d, rfl⟩ : ∃ d, D = d + 1 := ⟨D - 1, by omega⟩
  obtain ⟨a1, a2, a3⟩ := hg p hp
  have loop : ∀ k i p (ts : List Nat) m, i + k = L → i < p → p ≤ L → (C ++ ts).length ≤ p → am_mse B p o (C ++ ts) m → ((am_lp T L f 0 k p ts).1 = true → ∀ m2, am_mse B (am_lp T L f 0 k p ts).2.1 o (C ++ (am_lp T L f 0 k p ts).2.2) m2 → R (some (.int 1)) m2 ml) → ((am_lp T L f 0 k p ts).1 = false → ∀ m2, am_mf B (am_lp T L f 0 k p ts).2.1 o m2 → R (some (.int 0)) m2 ml) → am_wp (am_call d) mt_199 R 5 [some (.ref 78)] [] m ml := by
    intro k
    induction k with
    | zero =>
      intro i p ts m e1 e2 e3
      omega
    | succ k ih =>
      intro i p ts m ei hip hp hl hs h1 h0
      have un : am_lp T L f 0 (k + 1) p ts = if p < L ∧ am_sgn 0 (T p) ≠ 0 then (if (f (p + 1)).1 = true then am_lp T L f 0 k (f (p + 1)).2.1 (ts ++ (f (p + 1)).2.2 ++ [am_sgn 0 (T p)]) else (false, (f (p + 1)).2.1, [])) else (true, p, ts) := rfl
      rw [un] at h1 h0
      have sg : am_sgn 0 (T p) = if T p = 124 then 6 else 0 := rfl
      refine bk_199_5 (sp_190 (b := 124) (by omega) hb hs.1 hp hs.2.1 rfl (by omega) (fun q1 q2 => am_ri_i (am_y ?_)) (fun q => am_ri_i (am_n0 ⟨am_b1, ?_⟩)))
      · rw [if_pos q2] at sg
        rw [sg, if_pos ⟨q1, by decide⟩] at h1 h0
        obtain ⟨b1, b2, b3⟩ := hg (p + 1) (by omega)
        refine am_mgo (R := R) (W := fun m2 ml2 => am_wp (am_call d) mt_199 R 5 [some (.ref 78)] [] m2 ml2) (t := 6) hL hg hf (by omega) (by omega) q1 hl rfl (am_mse_p hs) (fun ok m2 s2 => ?_) (fun ok m2 s2 => ?_)
        · rw [if_pos ok] at h1 h0
          obtain ⟨b4, b5, -⟩ := b3 ok
          have es : C ++ ts ++ (f (p + 1)).2.2 ++ [6] = C ++ (ts ++ (f (p + 1)).2.2 ++ [6]) := by rw [List.append_assoc, List.append_assoc, List.append_assoc]
          rw [es] at s2
          refine ih (i + 1) _ _ m2 (by omega) (by omega) b2 ?_ s2 h1 h0
          rw [← es, List.length_append, List.length_append]
          show (C ++ ts).length + (f (p + 1)).2.2.length + 1 ≤ _
          omega
        · rw [if_neg (by rw [ok]; decide)] at h1 h0
          exact h0 rfl m2 s2
      · have nn : ¬ (p < L ∧ am_sgn 0 (T p) ≠ 0) := fun z => z.2 (by rw [sg, if_neg (fun y => q ⟨z.1, y⟩)])
        rw [if_neg nn] at h1
        exact h1 rfl m hs
  have un : am_lve T L f 0 p = if (f p).1 = true then am_lp T L f 0 L (f p).2.1 (f p).2.2 else (false, (f p).2.1, []) := rfl
  rw [un] at h1 h0
  refine bk_199 (hf d (by omega) p C m hp hl hs _ (fun ok m2 s2 => am_ri_i (am_yn ?_)) (fun ok m2 s2 => am_ri_i (am_nn ⟨am_b0, ?_⟩)))
  · rw [if_pos ok] at h1 h0
    obtain ⟨a4, a5, -⟩ := a3 ok
    exact loop L 0 _ _ m2 (Nat.zero_add _) (by omega) a2 (by rw [List.length_append]; omega) s2 h1 h0
  · rw [if_neg (by rw [ok]; decide)] at h0
    exact h0 rfl m2 s2
/-- isE from isO -/
theorem sp_199o {F : Nat → am_Res} {c : Nat} (hb : am_mb T L B) (hc : 2 ≤ c) (hg : ∀ p, p ≤ L → am_god1 L p (F p)) (hf : ∀ D, c ≤ D → ∀ p C m, p ≤ L → C.length ≤ p → am_mse B p o C m → am_mG B D 194 (F p) o C m ml) : ∀ D, c + 5 ≤ D → ∀ p C m, p ≤ L → C.length ≤ p → am_mse B p o C m → am_mG B D 199 (am_lvs T L F 5 p) o C m ml :=
  sp_199 hb (by omega) (am_lvs_g hg 4) (sp_198 hb (by omega) (am_lvs_g hg 3) (sp_197 hb (by omega) (am_lvs_g hg 2) (sp_196 hb (by omega) (am_lvs_g hg 1) (sp_195 hb hc hg hf))))
/-- isO, one step -/
theorem sp_194s {g : Option (Nat → am_Res)} {c : Nat} (hb : am_mb T L B) (hc : 2 ≤ c) (hn : g = none → o = 6) (hg : ∀ f, g = some f → o < 6 ∧ (∀ p, p ≤ L → am_god1 L p (f p)) ∧ ∀ D, c ≤ D → ∀ p C m, p ≤ L → C.length ≤ p → am_mse B p (o + 1) C m → am_mG B D 194 (f p) (o + 1) C m ml) : ∀ D, c + 6 ≤ D → ∀ p C m, p ≤ L → C.length ≤ p → am_mse B p o C m → am_mG B D 194 (am_opn T L g p) o C m ml := by
  intro D hD p C m hp hl hs R h1 h0
  have hL := hb.1
  obtain ⟨d, rfl⟩ : ∃ d, D = d + 1 := ⟨D - 1, by omega⟩
  have loop : ∀ k i, i + k = 4 → ∀ p v m2, p ≤ L → am_mse B p o C m2 → (∀ m3, am_mse B (am_dg T L k p v).1 o (C ++ [18 + (am_dg T L k p v).2]) m3 → R (some (.int 1)) m3 ml) → am_wp (am_call d) mt_194 R 7 [some (.ref 78), some (.int (nI v)), some (.int (nI i))] [] m2 ml := by
    intro k
    have fin : ∀ p v m2, am_mse B p o C m2 → (∀ m3, am_mse B p o (C ++ [18 + v]) m3 → R (some (.int 1)) m3 ml) → am_wp (am_call d) mt_194 R 33 [some (.ref 78), some (.int (nI v)), none] [] m2 ml := fun p v m2 hs h => bk_194_33 (sp_191 (by omega) hs (by omega) (show 18 + nI v = nI (18 + v) from nI_add 18 v) (fun m3 s3 => am_ri_i ⟨am_b1, h m3 s3⟩))
    induction k with
    | zero =>
      intro i ei p v m2 hp hs h
      have ei : i = 4 := ei
      subst ei
      exact bk_194_7 (pk_le 4 4 (fun _ => fin p v m2 hs h) (fun q => absurd q (Nat.lt_irrefl _)) rfl rfl)
    | succ k ih =>
      intro i ei p v m2 hp hs h
      have un : am_dg T L (k + 1) p v = if p < L ∧ am_dig (T p) = true then am_dg T L k (p + 1) (10 * v + (T p - 48)) else (p, v) := rfl
      rw [un] at h
      refine bk_194_7 (pk_le 4 i (fun q => absurd q (by omega)) (fun _ => sp_192 (by omega) hb hs.1 hp hs.2.1 (fun g1 g2 => am_ri_i (am_y ?_)) (fun g => am_ri_i (am_n0 ?_))) rfl rfl)
      · rw [if_pos ⟨g1, g2⟩] at h
        have e16 : m2 89 p = nI (T p) := (hs.1 89 p rfl).trans (hb.2.2 p g1).1
        have dg := of_decide_eq_true g2
        rw [hs.2.1, nI_clamp (by omega), e16, nI_1, nI_1]
        have ev : 10 * nI v + nI (T p) - 48 = nI (10 * v + (T p - 48)) := by
          rw [show 10 * nI v = nI (10 * v) from pk_mul 10 v, nI_add, show nI (10 * v + T p) - 48 = nI (10 * v + T p - 48) from pk_sub (b := 48) (by omega)]
          congr 1
          omega
        rw [ev]
        exact ⟨vp_in_nI (by omega) (by omega), ih (i + 1) (by omega) (p + 1) _ _ (by omega) (am_mse_p hs) h⟩
      · rw [if_neg g] at h
        exact fin p v m2 hs h
  have r189 : ∀ K : am_R, K (some (.int (am_sv T L p))) m ml → am_call d 189 [.ref 78] m ml K := fun K g => sp_189 (by omega) hb hs.1 hp hs.2.1 g
  refine bk_194 (sp_192 (by omega) hb hs.1 hp hs.2.1 (fun g1 g2 => am_ri_i (am_y ?_)) (fun gd => am_ri_i (am_n0 (r189 _ (am_ri_i (sp_193 (by omega) hb (am_ri_i ?_)))))))
  · have nn : ¬ am_nmo (T p) < 6 := fun z => am_nmn (T p) (hb.2.2 p g1).2 z g2
    unfold am_opn at h1
    rw [if_pos g1, if_neg nn, if_pos g2] at h1
    exact loop 4 0 rfl p 0 m hp hs (h1 rfl)
  · by_cases nm : p < L ∧ am_nmo (T p) < 6
    · rw [if_pos nm]
      unfold am_opn at h1
      rw [if_pos nm.1, if_pos nm.2] at h1
      refine ⟨fun q => ?_, fun _ => ?_⟩
      · rw [am_lt_i, am_l0, am_ti (by omega)] at q
        omega
      · rw [hs.2.1, nI_1]
        exact sp_191 (by omega) (am_mse_p hs) (by omega) rfl (fun m2 s2 => am_ri_i ⟨am_b1, h1 rfl m2 s2⟩)
    · rw [if_neg nm]
      refine ⟨fun _ => ?_, fun q => absurd (by decide) q⟩
      cases g with
      | none =>
        have er : am_opn T L none p = (false, p, []) := by
          unfold am_opn
          by_cases hpL : p < L
          · rw [if_pos hpL, if_neg (fun z => nm ⟨hpL, z⟩), if_neg (fun z => gd ⟨hpL, z⟩)]
          · rw [if_neg hpL]
        rw [er] at h0
        refine ⟨fun q => absurd ?_ q, fun _ => ⟨am_b0, h0 rfl m (am_mse_f hs)⟩⟩
        rw [hs.2.2.1, hn rfl]
        rfl
      | some f =>
        obtain ⟨o6, gf, hf⟩ := hg f rfl
        refine ⟨fun _ => ?_, fun q => absurd (fun z => ?_) q⟩
        · rw [hs.2.2.1, nI_1]
          have hs1 := am_mse_o (q := o + 1) hs
          have er : p < L → am_opn T L (some f) p = if T p = 33 then (if (f (p + 1)).1 = true then (true, (f (p + 1)).2.1, (f (p + 1)).2.2 ++ [16]) else (false, (f (p + 1)).2.1, []))
              else if T p = 45 then (if (f (p + 1)).1 = true then (true, (f (p + 1)).2.1, (f (p + 1)).2.2 ++ [17]) else (false, (f (p + 1)).2.1, []))
              else if T p = 40 then (if (am_lvs T L f 5 (p + 1)).1 = true ∧ (am_lvs T L f 5 (p + 1)).2.1 < L ∧ T (am_lvs T L f 5 (p + 1)).2.1 = 41 then (true, (am_lvs T L f 5 (p + 1)).2.1 + 1, (am_lvs T L f 5 (p + 1)).2.2) else (false, (am_lvs T L f 5 (p + 1)).2.1, []))
              else (false, p, []) := by
            intro hpL
            unfold am_opn
            rw [if_pos hpL, if_neg (fun z => nm ⟨hpL, z⟩), if_neg (fun z => gd ⟨hpL, z⟩)]
          have eL : ¬ p < L → am_opn T L (some f) p = (false, p, []) := by
            intro hpL
            unfold am_opn
            rw [if_neg hpL]
          generalize am_opn T L (some f) p = R0 at h1 h0 er eL
          have ok1 : ∀ q C2 m2, am_mse B q (o + 1) C2 m2 → (∀ m3, am_mse B q o C2 m3 → R (some (.int 1)) m3 ml) → R (some (.int 1)) (am_ui m2 78 22 (m2 78 22 - 1)) ml := by
            intro q C2 m2 s2 h
            rw [s2.2.2.1, nI_pred]
            exact h _ (am_mse_o s2)
          have ok0 : ∀ q m2, am_mf B q (o + 1) m2 → (∀ m3, am_mf B q o m3 → R (some (.int 0)) m3 ml) → R (some (.int 0)) (am_ui m2 78 22 (m2 78 22 - 1)) ml := by
            intro q m2 s2 h
            rw [s2.2.2, nI_pred]
            exact h _ (am_mf_o s2)
          have gone : R0 = (false, p, []) → R (some (.int 0)) (am_ui (am_ui m 78 22 (nI (o + 1))) 78 22 (am_ui m 78 22 (nI (o + 1)) 78 22 - 1)) ml := by
            intro e
            rw [e] at h0
            exact ok0 p _ (am_mse_f hs1) (h0 rfl)
          refine sp_190 (b := 33) (by omega) hb hs1.1 hp hs1.2.1 rfl (by omega) (fun q1 q2 => am_ri_i (am_y ?_)) (fun q33 => am_ri_i (am_n0 (sp_190 (b := 45) (by omega) hb hs1.1 hp hs1.2.1 rfl (by omega) (fun q1 q2 => am_ri_i (am_y ?_)) (fun q45 => am_ri_i (am_n0 (sp_190 (b := 40) (by omega) hb hs1.1 hp hs1.2.1 rfl (by omega) (fun q1 q2 => am_ri_i (am_y ?_)) (fun q40 => am_ri_i (am_n0 ?_))))))))
          · have er := er q1
            rw [if_pos q2] at er
            refine hf d (by omega) (p + 1) C _ (by omega) (by omega) (am_mse_p hs1) _ (fun ok m2 s2 => am_ri_i (am_y (sp_191 (t := 16) (by omega) s2 ?_ rfl (fun m3 s3 => am_ri_i (am_y (bk_194_81 (bk_194_114 ⟨am_b1, ok1 _ _ m3 s3 ?_⟩))))))) (fun ok m2 s2 => am_ri_i (am_n0 (bk_194_80 (bk_194_81 (bk_194_114 ⟨am_b0, ok0 _ m2 s2 ?_⟩)))))
            · have := ((gf (p + 1) (by omega)).2.2 ok).2.1
              have := (gf (p + 1) (by omega)).2.1
              rw [List.length_append]
              omega
            · rw [if_pos ok] at er
              rw [er] at h1
              rw [List.append_assoc]
              exact h1 rfl
            · rw [if_neg (by rw [ok]; decide)] at er
              rw [er] at h0
              exact h0 rfl
          · have er := er q1
            rw [if_neg (by omega), if_pos q2] at er
            refine hf d (by omega) (p + 1) C _ (by omega) (by omega) (am_mse_p hs1) _ (fun ok m2 s2 => am_ri_i (am_y (sp_191 (t := 17) (by omega) s2 ?_ rfl (fun m3 s3 => am_ri_i (am_y (bk_194_97 (bk_194_114 ⟨am_b1, ok1 _ _ m3 s3 ?_⟩))))))) (fun ok m2 s2 => am_ri_i (am_n0 (bk_194_96 (bk_194_97 (bk_194_114 ⟨am_b0, ok0 _ m2 s2 ?_⟩)))))
            · have := ((gf (p + 1) (by omega)).2.2 ok).2.1
              have := (gf (p + 1) (by omega)).2.1
              rw [List.length_append]
              omega
            · rw [if_pos ok] at er
              rw [er] at h1
              rw [List.append_assoc]
              exact h1 rfl
            · rw [if_neg (by rw [ok]; decide)] at er
              rw [er] at h0
              exact h0 rfl
          · have er := er q1
            rw [if_neg (by omega), if_neg (by omega), if_pos q2] at er
            have gl := am_lvs_g (T := T) gf 5 (p + 1) (by omega)
            have sl := sp_199o (T := T) (L := L) (B := B) (ml := ml) (F := f) (o := o + 1) (c := c) hb hc gf hf d (by omega) (p + 1) C _ (by omega) (by omega) (am_mse_p hs1)
            generalize am_lvs T L f 5 (p + 1) = r at er gl sl
            obtain ⟨r1, r2, r3⟩ := gl
            refine sl _ (fun ok m2 s2 => am_ri_i (am_y (sp_190 (b := 41) (by omega) hb s2.1 r2 s2.2.1 rfl (by omega) (fun y1 y2 => am_ri_i (am_y (bk_194_113 (bk_194_114 ⟨am_b1, ok1 _ _ _ (am_mse_p s2) ?_⟩)))) (fun y => am_ri_i (am_n0 (bk_194_112 (bk_194_113 (bk_194_114 ⟨am_b0, ok0 _ m2 (am_mse_f s2) ?_⟩)))))))) (fun ok m2 s2 => am_ri_i (am_n0 (bk_194_112 (bk_194_113 (bk_194_114 ⟨am_b0, ok0 _ m2 s2 ?_⟩)))))
            · rw [if_pos ⟨ok, y1, y2⟩] at er
              rw [er] at h1
              exact h1 rfl
            · rw [if_neg (fun z => y z.2)] at er
              rw [er] at h0
              exact h0 rfl
            · rw [if_neg (fun z => by rw [ok] at z; exact absurd z.1 (by decide))] at er
              rw [er] at h0
              exact h0 rfl
          · refine bk_194_112 (bk_194_113 (bk_194_114 ⟨am_b0, gone ?_⟩))
            by_cases hpL : p < L
            · rw [er hpL, if_neg (fun z => q33 ⟨hpL, z⟩), if_neg (fun z => q45 ⟨hpL, z⟩), if_neg (fun z => q40 ⟨hpL, z⟩)]
            · exact eL hpL
        · rw [hs.2.2.1] at z
          have := (nI_eq (a := o) (b := 6) (by omega) (by omega)).mp z
          omega
/-- isO -/
theorem sp_194 (hb : am_mb T L B) : ∀ k, k ≤ 6 → ∀ D, 8 + 6 * k ≤ D → ∀ p C m, p ≤ L → C.length ≤ p → am_mse B p (6 - k) C m → am_mG B D 194 (am_O T L k p) (6 - k) C m ml
  | 0, _, D, hD, p, C, m, hp, hl, hs => sp_194s (g := none) (c := 2) hb (by omega) (fun _ => rfl) (fun f e => by cases e) D (by omega) p C m hp hl hs
  | k + 1, hk, D, hD, p, C, m, hp, hl, hs => sp_194s (g := some (am_O T L k)) (c := 8 + 6 * k) hb (by omega) (fun e => by cases e) (fun f e => by
      cases e
      refine ⟨by omega, am_O_g k, ?_⟩
      rw [show 6 - (k + 1) + 1 = 6 - k from by omega]
      exact sp_194 hb k (by omega)) D (by omega) p C m hp hl hs
/-- isE -/
theorem sp_199e (hb : am_mb T L B) (hD : 49 ≤ D) (hp : p ≤ L) (hl : C.length ≤ p) (hs : am_mse B p 0 C m) : am_mG B D 199 (am_E T L p) 0 C m ml :=
  sp_199o (F := am_O T L 6) (c := 44) hb (by omega) (fun p hp => am_O_g 6 p hp) (sp_194 hb 6 (Nat.le_refl _)) D (by omega) p C m hp hl hs
end SP68
