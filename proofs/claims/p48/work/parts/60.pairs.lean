/-! pairs: pairs, drawn -/
def am_gan (W : Nat → Nat → Int32) (x y : Nat) : Int32 := W x y + W y x - W x x - W y y
def am_prs (W : Nat → Nat → Int32) (x y : Nat) (q : Int32 × Int32) : Int32 × Int32 := if am_gan W x y ≤ q.2 then q else (nI (10 * x + y), am_gan W x y)
def am_pri (W : Nat → Nat → Int32) (x : Nat) (q : Int32 × Int32) : Nat → Int32 × Int32
  | 0 => q
  | k + 1 => am_prs W x (x + 1 + k) (am_pri W x q k)
/-- the best pair of those that begin with one of the first x -/
def am_pro (W : Nat → Nat → Int32) (m : Nat) : Nat → Int32 × Int32
  | 0 => (-2, 0)
  | x + 1 => am_pri W x (am_pro W m x) (m - (x + 1))
def am_pgo (W : Nat → Nat → Int32) (m : Nat) (q : Int32 × Int32) : Prop := (q.1 = -2 ∧ q.2 = 0) ∨ ∃ x y, x < y ∧ y < m ∧ q.1 = nI (10 * x + y) ∧ q.2 = am_gan W x y
theorem am_pri_g {W : Nat → Nat → Int32} {m x : Nat} {q : Int32 × Int32} (h : am_pgo W m q) : ∀ k, x + 1 + k ≤ m → am_pgo W m (am_pri W x q k)
  | 0, _ => h
  | k + 1, hk => by
    have ih := am_pri_g (x := x) h k (by omega)
    unfold am_pri am_prs
    split
    · exact ih
    · exact Or.inr ⟨x, x + 1 + k, by omega, by omega, rfl, rfl⟩
theorem am_pro_g {W : Nat → Nat → Int32} {m : Nat} : ∀ x, x ≤ m → am_pgo W m (am_pro W m x)
  | 0, _ => Or.inl ⟨rfl, rfl⟩
  | x + 1, h => am_pri_g (am_pro_g x (by omega)) _ (by omega)
/-- draws -/
def am_zn (z : Int32) : Nat → Int32
  | 0 => z
  | t + 1 => am_zn z t * 1103515245 + 12345
def am_zo (m : Nat) (z : Int32) (t : Nat) : Nat := (am_zn z (t + 1)).toBitVec.toNat / 256 % m
def am_zs (P : List (List Nat × List Nat)) (u : Nat → Nat → Int32) (n m : Nat) (z : Int32) (c : Nat) : Nat → Int32 := am_sm (fun t => if am_zo m z t = c then am_ge P u c (am_god u 0 n t) else 0)
theorem am_ush {x : Int32} : am_ushr x 8 = nI (x.toBitVec.toNat / 256) := by
  have h := pk_ushr x 8 8 (by decide)
  have hl : x.toBitVec.toNat < 2 ^ 32 := x.toBitVec.isLt
  have e : (am_ushr x 8).toBitVec = (nI (x.toBitVec.toNat / 256)).toBitVec := by
    apply BitVec.eq_of_toNat_eq
    rw [pk_tn (by omega)]
    exact h
  exact Int32.toBitVec_inj.mp e
theorem am_zor {m : Nat} {z : Int32} {t : Nat} (hm : 0 < m) (hm5 : m ≤ 5) : am_rem (am_ushr (am_zn z t * 1103515245 + 12345) 8) (nI m) = nI (am_zo m z t) := by
  rw [am_ush]
  have hl : (am_zn z t * 1103515245 + 12345).toBitVec.toNat < 2 ^ 32 := (am_zn z t * 1103515245 + 12345).toBitVec.isLt
  exact pk_rem (by omega) hm (by omega)
theorem am_zo_lt {m : Nat} {z : Int32} {t : Nat} (hm : 0 < m) : am_zo m z t < m := Nat.mod_lt _ hm
/-- one has more than each other one -/
def am_hms (s : Nat → Int32) (k : Nat) : Nat → Bool
  | 0 => true
  | c + 1 => am_hms s k c && (c == k || decide (s c < s k))
theorem am_hms_m {s : Nat → Int32} {k : Nat} : ∀ v c, am_hms s k (c + v) = true → am_hms s k c = true
  | 0, _, h => h
  | v + 1, c, h => am_hms_m v c (by
    have h : (am_hms s k (c + v) && ((c + v) == k || decide (s (c + v) < s k))) = true := h
    exact (Bool.and_eq_true_iff.mp h).1)
theorem am_hms_c {s s2 : Nat → Int32} {k : Nat} : ∀ c, (∀ j, j < c → s j = s2 j) → s k = s2 k → am_hms s k c = am_hms s2 k c
  | 0, _, _ => rfl
  | c + 1, h, hk => by
    unfold am_hms
    rw [am_hms_c c (fun j hj => h j (by omega)) hk]
    simp only [h c (by omega), hk]
/-- what a December adds -/
def am_dra (m : Nat) (x : Int32) (s : Nat → Int32) : Int32 := if x = -1 then am_unf m s else if am_hms s x.toNatClampNeg m = true then 1 else 0
theorem am_dra_c {m : Nat} {x : Int32} {s s2 : Nat → Int32} (hx : x = -1 ∨ ∃ c, c < m ∧ x = nI c) (hm : m ≤ 5) (h : ∀ c, c < m → s c = s2 c) : am_dra m x s = am_dra m x s2 := by
  unfold am_dra
  by_cases e : x = -1
  · rw [if_pos e, if_pos e]
    exact am_unf_c h
  · rw [if_neg e, if_neg e]
    obtain ⟨c, hc, ec⟩ := hx.resolve_left e
    have cc : x.toNatClampNeg = c := by rw [ec, nI_clamp (by omega)]
    rw [cc, am_hms_c m h (h c hc)]
/-- the seed, and the answer, after k Decembers -/
def am_drz (n m : Nat) (z : Int32) : Nat → Int32
  | 0 => z
  | k + 1 => if m = 0 then am_drz n m z k else am_zn (am_drz n m z k) n
def am_drs (P : List (List Nat × List Nat)) (u : Nat → Nat → Int32) (n m : Nat) (x z : Int32) : Nat → Int32
  | 0 => 0
  | k + 1 => am_drs P u n m x z k + am_dra m x (fun c => am_zs P u n m (am_drz n m z k) c n)
theorem am_drs_0 {P : List (List Nat × List Nat)} {u : Nat → Nat → Int32} {n : Nat} {z : Int32} : ∀ k, am_drs P u n 0 (-1) z k = 0
  | 0 => rfl
  | k + 1 => by
    unfold am_drs
    rw [am_drs_0 k]
    rfl
section SP60
variable {d n m : Nat} {u : Nat → Nat → Int32} {mi : am_MI} {ml : am_ML} {R : am_R} {r c : Nat} {P : List (List Nat × List Nat)} {Q : Int32 → Int32 → am_MI → am_ML → Prop}
/-- gainOf -/
theorem sp_62 {x y z : Int32} {a b : Nat} (hr : r < 5) (hc : am_cx n m u mi) (hf : am_fre P u n m mi) (ha : a < m) (hb : b < m) (hx : x = nI r) (hy : y = nI a) (hz : z = nI b) (h : R (some (.int (am_gan (am_wwo P u n m r) a b))) mi ml) : am_call (d + 2) 62 [.ref 22, .int x, .int y, .int z] mi ml R := by
  subst hx
  subst hy
  subst hz
  have hm5 := hc.2.1
  obtain ⟨a1, a2, -⟩ := am_k38 r hr
  have w2 : ∀ c o, c < m → am_sto (mi (32 + r)) (mi (26 + c)) (nI o) n = am_wwo P u n m r c o := fun c o hcm => am_sto_c (fun i hi => ⟨(hf.2.2.2.1 r hr).1 i hi, hf.2.2.1 c i hcm hi⟩)
  have own : ∀ c, c < m → mi (38 + r) c = am_wwo P u n m r c c := fun c hcm => by
    rw [(hf.2.2.2.1 r hr).2 c hcm]
    exact am_gvn_s hm5 hcm
  refine bk_62 (sp_46 hr ha hc rfl rfl (am_ri_i (sp_46 hr hb hc rfl rfl (am_ri_i ?_))))
  rw [nI_clamp (show r < 2 ^ 31 by omega), Nat.one_mul, am_len2 a1, a1, a2, nI_clamp (show a < 2 ^ 31 by omega), nI_clamp (show b < 2 ^ 31 by omega), w2 a b ha, w2 b a hb, own a ha, own b hb]
  exact ⟨vp_in_nI hr (by omega), am_need_i rfl ⟨vp_in_nI (by omega) (by omega), vp_in_nI hr (by omega), am_need_i rfl ⟨vp_in_nI (by omega) (by omega), h⟩⟩⟩
/-- bestPair -/
theorem sp_61 {x : Int32} (hr : r < 5) (hc : am_cx n m u mi) (hf : am_fre P u n m mi) (hx : x = nI r) (h : R (some (.int (am_pro (am_wwo P u n m r) m m).1)) mi ml) : am_call (d + 3) 61 [.ref 22, .int x] mi ml R := by
  subst hx
  have hm5 := hc.2.1
  refine bk_61 (am_for m (fun a => am_wp (am_call (d + 2)) mt_61 R 6 [some (.ref 22), some (.int (nI r)), some (.int (am_pro (am_wwo P u n m r) m a).1), some (.int (am_pro (am_wwo P u n m r) m a).2), some (.int (nI a)), none, none] [] mi ml) ?_ (fun a ha ih => ?_) 0 (Nat.zero_le _))
  · exact bk_61_6 (pk_le m m (fun _ => h) (fun q => absurd q (Nat.lt_irrefl _)) hc.2.2.2.1 rfl)
  · refine bk_61_6 (pk_le m a (fun q => absurd q (by omega)) (fun _ => ?_) hc.2.2.2.1 rfl)
    have un : am_pro (am_wwo P u n m r) m (a + 1) = am_pri (am_wwo P u n m r) a (am_pro (am_wwo P u n m r) m a) (m - (a + 1)) := rfl
    rw [un] at ih
    have inner : ∀ w k, a + 1 + k + w = m → am_wp (am_call (d + 2)) mt_61 R 15 [some (.ref 22), some (.int (nI r)), some (.int (am_pri (am_wwo P u n m r) a (am_pro (am_wwo P u n m r) m a) k).1), some (.int (am_pri (am_wwo P u n m r) a (am_pro (am_wwo P u n m r) m a) k).2), some (.int (nI a)), some (.int (nI (a + 1 + k))), none] [] mi ml := by
      intro w
      induction w with
      | zero =>
        intro k ek
        have ek : k = m - (a + 1) := by omega
        subst ek
        refine bk_61_15 (pk_le m (a + 1 + (m - (a + 1))) (fun _ => ?_) (fun q => absurd q (by omega)) hc.2.2.2.1 rfl)
        rw [nI_1]
        exact ih
      | succ w iw =>
        intro k ek
        have iw := iw (k + 1) (by omega)
        have u2 : am_pri (am_wwo P u n m r) a (am_pro (am_wwo P u n m r) m a) (k + 1) = if am_gan (am_wwo P u n m r) a (a + 1 + k) ≤ (am_pri (am_wwo P u n m r) a (am_pro (am_wwo P u n m r) m a) k).2 then am_pri (am_wwo P u n m r) a (am_pro (am_wwo P u n m r) m a) k else (nI (10 * a + (a + 1 + k)), am_gan (am_wwo P u n m r) a (a + 1 + k)) := rfl
        rw [u2] at iw
        refine bk_61_15 (pk_le m (a + 1 + k) (fun q => absurd q (by omega)) (fun hk => sp_62 hr hc hf ha hk rfl rfl rfl (am_ri_i ⟨fun q => ?_, fun q => ?_⟩)) hc.2.2.2.1 rfl)
        · rw [if_pos q] at iw
          rw [nI_1]
          exact iw
        · rw [if_neg q] at iw
          rw [nI_1, show (10 : Int32) * nI a + nI (a + 1 + k) = nI (10 * a + (a + 1 + k)) from by rw [show (10 : Int32) * nI a = nI (10 * a) from pk_mul 10 a, nI_add]]
          exact iw
    rw [nI_1]
    exact inner (m - (a + 1)) 0 (by omega)
end SP60
