/-! the small machine: monotone; folding; calls by depth -/
def am_leC (c c' : am_C) : Prop := ∀ g args mi ml (R R' : am_R), (∀ r a b, R r a b → R' r a b) → c g args mi ml R → c' g args mi ml R'
theorem am_need_e {b : Bool} {P : Prop} (h : am_need b P) : b = true ∧ P := by
  cases b
  · exact h.elim
  · exact ⟨rfl, h⟩
theorem am_need_i {b : Bool} {P : Prop} (hb : b = true) (h : P) : am_need b P := by
  subst hb
  exact h
theorem am_need_m {b : Bool} {P P' : Prop} (f : P → P') (h : am_need b P) : am_need b P' := by
  cases b
  · exact h.elim
  · exact f h
section AMM
variable {K K' : am_K} {i : Nat} {lo : am_L} {st : List Value} {mi : am_MI} {ml : am_ML}
theorem am_ldI_m (hK : ∀ i lo st mi ml, K i lo st mi ml → K' i lo st mi ml) {n : Nat} (h : am_ldI K i lo st mi ml n) : am_ldI K' i lo st mi ml n := by
  unfold am_ldI at h ⊢
  split at h
  · first
    | exact hK _ _ _ _ _ h
    | (rename_i e; simp only [e]; exact hK _ _ _ _ _ h)
  · exact h.elim
theorem am_ldJ_m (hK : ∀ i lo st mi ml, K i lo st mi ml → K' i lo st mi ml) {n : Nat} (h : am_ldJ K i lo st mi ml n) : am_ldJ K' i lo st mi ml n := by
  unfold am_ldJ at h ⊢
  split at h
  · first
    | exact hK _ _ _ _ _ h
    | (rename_i e; simp only [e]; exact hK _ _ _ _ _ h)
  · exact h.elim
theorem am_ldA_m (hK : ∀ i lo st mi ml, K i lo st mi ml → K' i lo st mi ml) {n : Nat} (h : am_ldA K i lo st mi ml n) : am_ldA K' i lo st mi ml n := by
  unfold am_ldA at h ⊢
  split at h
  · first
    | exact hK _ _ _ _ _ h
    | (rename_i e; simp only [e]; exact hK _ _ _ _ _ h)
  · exact h.elim
theorem am_stI_m (hK : ∀ i lo st mi ml, K i lo st mi ml → K' i lo st mi ml) {n : Nat} (h : am_stI K i lo st mi ml n) : am_stI K' i lo st mi ml n := by
  unfold am_stI at h ⊢
  split at h
  · first
    | exact hK _ _ _ _ _ h
    | (rename_i e; simp only [e]; exact hK _ _ _ _ _ h)
  · exact h.elim
theorem am_stJ_m (hK : ∀ i lo st mi ml, K i lo st mi ml → K' i lo st mi ml) {n : Nat} (h : am_stJ K i lo st mi ml n) : am_stJ K' i lo st mi ml n := by
  unfold am_stJ at h ⊢
  split at h
  · first
    | exact hK _ _ _ _ _ h
    | (rename_i e; simp only [e]; exact hK _ _ _ _ _ h)
  · exact h.elim
theorem am_stA_m (hK : ∀ i lo st mi ml, K i lo st mi ml → K' i lo st mi ml) {n : Nat} (h : am_stA K i lo st mi ml n) : am_stA K' i lo st mi ml n := by
  unfold am_stA at h ⊢
  split at h
  · first
    | exact hK _ _ _ _ _ h
    | (rename_i e; simp only [e]; exact hK _ _ _ _ _ h)
  · exact h.elim
theorem am_inc_m (hK : ∀ i lo st mi ml, K i lo st mi ml → K' i lo st mi ml) {n : Nat} {v : Int32} (h : am_inc K i lo st mi ml n v) : am_inc K' i lo st mi ml n v := by
  unfold am_inc at h ⊢
  split at h
  · first
    | exact hK _ _ _ _ _ h
    | (rename_i e; simp only [e]; exact hK _ _ _ _ _ h)
  · exact h.elim
theorem am_b2_m (hK : ∀ i lo st mi ml, K i lo st mi ml → K' i lo st mi ml) {f : Int32 → Int32 → Int32} (h : am_b2 K i lo st mi ml f) : am_b2 K' i lo st mi ml f := by
  unfold am_b2 at h ⊢
  split at h
  · first
    | exact hK _ _ _ _ _ h
    | (rename_i e; simp only [e]; exact hK _ _ _ _ _ h)
  · exact h.elim
theorem am_u1_m (hK : ∀ i lo st mi ml, K i lo st mi ml → K' i lo st mi ml) {f : Int32 → Int32} (h : am_u1 K i lo st mi ml f) : am_u1 K' i lo st mi ml f := by
  unfold am_u1 at h ⊢
  split at h
  · first
    | exact hK _ _ _ _ _ h
    | (rename_i e; simp only [e]; exact hK _ _ _ _ _ h)
  · exact h.elim
theorem am_j2_m (hK : ∀ i lo st mi ml, K i lo st mi ml → K' i lo st mi ml) {f : Int64 → Int64 → Int64} (h : am_j2 K i lo st mi ml f) : am_j2 K' i lo st mi ml f := by
  unfold am_j2 at h ⊢
  split at h
  · first
    | exact hK _ _ _ _ _ h
    | (rename_i e; simp only [e]; exact hK _ _ _ _ _ h)
  · exact h.elim
theorem am_bd_m (hK : ∀ i lo st mi ml, K i lo st mi ml → K' i lo st mi ml) {f : Int32 → Int32 → Int32} (h : am_bd K i lo st mi ml f) : am_bd K' i lo st mi ml f := by
  unfold am_bd at h ⊢
  split at h
  · first
    | exact ⟨h.1, hK _ _ _ _ _ h.2⟩
    | (rename_i e; simp only [e]; exact ⟨h.1, hK _ _ _ _ _ h.2⟩)
  · exact h.elim
theorem am_iald_m (hK : ∀ i lo st mi ml, K i lo st mi ml → K' i lo st mi ml)  (h : am_iald K i lo st mi ml ) : am_iald K' i lo st mi ml  := by
  unfold am_iald at h ⊢
  split at h
  · first
    | exact am_need_m (fun h => ⟨h.1, hK _ _ _ _ _ h.2⟩) h
    | (rename_i e; simp only [e]; exact am_need_m (fun h => ⟨h.1, hK _ _ _ _ _ h.2⟩) h)
  · exact h.elim
theorem am_iast_m (hK : ∀ i lo st mi ml, K i lo st mi ml → K' i lo st mi ml)  (h : am_iast K i lo st mi ml ) : am_iast K' i lo st mi ml  := by
  unfold am_iast at h ⊢
  split at h
  · first
    | exact am_need_m (fun h => ⟨h.1, hK _ _ _ _ _ h.2⟩) h
    | (rename_i e; simp only [e]; exact am_need_m (fun h => ⟨h.1, hK _ _ _ _ _ h.2⟩) h)
  · exact h.elim
theorem am_bald_m (hK : ∀ i lo st mi ml, K i lo st mi ml → K' i lo st mi ml)  (h : am_bald K i lo st mi ml ) : am_bald K' i lo st mi ml  := by
  unfold am_bald at h ⊢
  split at h
  · first
    | exact am_need_m (fun h => ⟨h.1, hK _ _ _ _ _ h.2⟩) h
    | (rename_i e; simp only [e]; exact am_need_m (fun h => ⟨h.1, hK _ _ _ _ _ h.2⟩) h)
  · exact h.elim
theorem am_lald_m (hK : ∀ i lo st mi ml, K i lo st mi ml → K' i lo st mi ml)  (h : am_lald K i lo st mi ml ) : am_lald K' i lo st mi ml  := by
  unfold am_lald at h ⊢
  split at h
  · first
    | exact am_need_m (fun h => ⟨h.1, hK _ _ _ _ _ h.2⟩) h
    | (rename_i e; simp only [e]; exact am_need_m (fun h => ⟨h.1, hK _ _ _ _ _ h.2⟩) h)
  · exact h.elim
theorem am_last_m (hK : ∀ i lo st mi ml, K i lo st mi ml → K' i lo st mi ml)  (h : am_last K i lo st mi ml ) : am_last K' i lo st mi ml  := by
  unfold am_last at h ⊢
  split at h
  · first
    | exact am_need_m (fun h => ⟨h.1, hK _ _ _ _ _ h.2⟩) h
    | (rename_i e; simp only [e]; exact am_need_m (fun h => ⟨h.1, hK _ _ _ _ _ h.2⟩) h)
  · exact h.elim
theorem am_aald_m (hK : ∀ i lo st mi ml, K i lo st mi ml → K' i lo st mi ml)  (h : am_aald K i lo st mi ml ) : am_aald K' i lo st mi ml  := by
  unfold am_aald at h ⊢
  split at h
  · first
    | exact am_need_m (fun h => ⟨h.1, hK _ _ _ _ _ h.2⟩) h
    | (rename_i e; simp only [e]; exact am_need_m (fun h => ⟨h.1, hK _ _ _ _ _ h.2⟩) h)
  · exact h.elim
theorem am_alen_m (hK : ∀ i lo st mi ml, K i lo st mi ml → K' i lo st mi ml)  (h : am_alen K i lo st mi ml ) : am_alen K' i lo st mi ml  := by
  unfold am_alen at h ⊢
  split at h
  · first
    | exact am_need_m (fun h => hK _ _ _ _ _ h) h
    | (rename_i e; simp only [e]; exact am_need_m (fun h => hK _ _ _ _ _ h) h)
  · exact h.elim
theorem am_dup_m (hK : ∀ i lo st mi ml, K i lo st mi ml → K' i lo st mi ml)  (h : am_dup K i lo st mi ml ) : am_dup K' i lo st mi ml  := by
  unfold am_dup at h ⊢
  split at h
  · first
    | exact am_need_m (fun h => hK _ _ _ _ _ h) h
    | (rename_i e; simp only [e]; exact am_need_m (fun h => hK _ _ _ _ _ h) h)
  · exact h.elim
theorem am_dupx1_m (hK : ∀ i lo st mi ml, K i lo st mi ml → K' i lo st mi ml)  (h : am_dupx1 K i lo st mi ml ) : am_dupx1 K' i lo st mi ml  := by
  unfold am_dupx1 at h ⊢
  split at h
  · first
    | exact am_need_m (fun h => hK _ _ _ _ _ h) h
    | (rename_i e; simp only [e]; exact am_need_m (fun h => hK _ _ _ _ _ h) h)
  · exact h.elim
theorem am_pop_m (hK : ∀ i lo st mi ml, K i lo st mi ml → K' i lo st mi ml)  (h : am_pop K i lo st mi ml ) : am_pop K' i lo st mi ml  := by
  unfold am_pop at h ⊢
  split at h
  · first
    | exact am_need_m (fun h => hK _ _ _ _ _ h) h
    | (rename_i e; simp only [e]; exact am_need_m (fun h => hK _ _ _ _ _ h) h)
  · exact h.elim
theorem am_bic_m (hK : ∀ i lo st mi ml, K i lo st mi ml → K' i lo st mi ml) {f : Int32 → Int32 → Int32} (h : am_bic K i lo st mi ml f) : am_bic K' i lo st mi ml f := by
  unfold am_bic at h ⊢
  split at h
  · first
    | exact am_need_m (fun h => hK _ _ _ _ _ h) h
    | (rename_i e; simp only [e]; exact am_need_m (fun h => hK _ _ _ _ _ h) h)
  · exact h.elim
theorem am_dup2_m (hK : ∀ i lo st mi ml, K i lo st mi ml → K' i lo st mi ml)  (h : am_dup2 K i lo st mi ml) : am_dup2 K' i lo st mi ml := by
  unfold am_dup2 at h ⊢
  split at h
  · exact hK _ _ _ _ _ h
  · rename_i v w st hne
    exact am_need_m (fun h => hK _ _ _ _ _ h) h
  · exact h.elim
theorem am_br_m (hK : ∀ i lo st mi ml, K i lo st mi ml → K' i lo st mi ml) {t : Nat} {c : Int32 → Prop} (h : am_br K i lo st mi ml t c) : am_br K' i lo st mi ml t c := by
  unfold am_br at h ⊢
  split at h
  · exact ⟨fun q => hK _ _ _ _ _ (h.1 q), fun q => hK _ _ _ _ _ (h.2 q)⟩
  · exact h.elim
theorem am_b2r_m (hK : ∀ i lo st mi ml, K i lo st mi ml → K' i lo st mi ml) {t : Nat} {c : Int32 → Int32 → Prop} (h : am_b2r K i lo st mi ml t c) : am_b2r K' i lo st mi ml t c := by
  unfold am_b2r at h ⊢
  split at h
  · exact ⟨fun q => hK _ _ _ _ _ (h.1 q), fun q => hK _ _ _ _ _ (h.2 q)⟩
  · exact h.elim
theorem am_swt_m (hK : ∀ i lo st mi ml, K i lo st mi ml → K' i lo st mi ml) {x : Int32} {d : Nat} (sw : List (Int32 × Nat)) (h : am_swt K lo st mi ml x d sw) : am_swt K' lo st mi ml x d sw := by
  induction sw with
  | nil => exact hK _ _ _ _ _ h
  | cons a r ih => exact ⟨fun q => hK _ _ _ _ _ (h.1 q), fun q => ih (h.2 q)⟩
theorem am_sw_m (hK : ∀ i lo st mi ml, K i lo st mi ml → K' i lo st mi ml) {d : Nat} {sw : List (Int32 × Nat)} (h : am_sw K lo st mi ml d sw) : am_sw K' lo st mi ml d sw := by
  unfold am_sw at h ⊢
  split at h
  · exact am_swt_m hK sw h
  · exact h.elim
theorem am_get_m (hK : ∀ i lo st mi ml, K i lo st mi ml → K' i lo st mi ml) {ci sl kd : Nat} (h : am_get K i lo st mi ml ci sl kd) : am_get K' i lo st mi ml ci sl kd := by
  unfold am_get at h ⊢
  split at h
  · refine am_need_m (fun h2 => ?_) h
    split at h2
    · exact hK _ _ _ _ _ h2
    · exact hK _ _ _ _ _ h2
  · exact h.elim
theorem am_put_m (hK : ∀ i lo st mi ml, K i lo st mi ml → K' i lo st mi ml) {ci sl kd : Nat} (h : am_put K i lo st mi ml ci sl kd) : am_put K' i lo st mi ml ci sl kd := by
  unfold am_put at h ⊢
  split at h
  · refine am_need_m (fun h2 => ?_) h
    split at h2
    · exact hK _ _ _ _ _ h2
    · exact ⟨h2.1, hK _ _ _ _ _ h2.2⟩
    · exact h2.elim
  · exact h.elim
theorem am_cpy_m (hK : ∀ i lo st mi ml, K i lo st mi ml → K' i lo st mi ml)  (h : am_cpy K i lo st mi ml) : am_cpy K' i lo st mi ml := by
  unfold am_cpy at h ⊢
  split at h
  · refine am_need_m (fun h => ⟨h.1, h.2.1, h.2.2.1, h.2.2.2.1, h.2.2.2.2.1, ?_⟩) h
    have h2 := h.2.2.2.2.2
    split at h2
    · exact hK _ _ _ _ _ h2
    · exact hK _ _ _ _ _ h2
    · exact h2.elim
  · exact h.elim
theorem am_rv_m {k k' : am_MI → am_ML → Prop} (h : ∀ a b, k a b → k' a b) (r a b) (q : am_rv k r a b) : am_rv k' r a b := ⟨q.1, h _ _ q.2⟩
theorem am_ri_m {k k' : Int32 → am_MI → am_ML → Prop} (h : ∀ x a b, k x a b → k' x a b) (r a b) (q : am_ri k r a b) : am_ri k' r a b := q.elim fun x w => ⟨x, w.1, h _ _ _ w.2⟩
theorem am_rj_m {k k' : Int64 → am_MI → am_ML → Prop} (h : ∀ x a b, k x a b → k' x a b) (r a b) (q : am_rj k r a b) : am_rj k' r a b := q.elim fun x w => ⟨x, w.1, h _ _ _ w.2⟩
theorem am_rr_m {k k' : Nat → am_MI → am_ML → Prop} (h : ∀ x a b, k x a b → k' x a b) (r a b) (q : am_rr k r a b) : am_rr k' r a b := q.elim fun x w => ⟨x, w.1, h _ _ _ w.2⟩
theorem am_call0_m (hK : ∀ i lo st mi ml, K i lo st mi ml → K' i lo st mi ml) {c c' : am_C} (hC : am_leC c c') {g n rk : Nat} (h : am_call0 K i lo st mi ml c g n rk) : am_call0 K' i lo st mi ml c' g n rk := by
  unfold am_call0 at h ⊢
  refine am_need_m (fun h => hC _ _ _ _ _ _ ?_ h) h
  intro r a b q
  match rk with
  | 0 => exact am_rv_m (fun a b q => hK _ _ _ _ _ q) _ _ _ q
  | 1 => exact am_ri_m (fun x a b q => hK _ _ _ _ _ q) _ _ _ q
  | 2 => exact am_rj_m (fun x a b q => hK _ _ _ _ _ q) _ _ _ q
  | _ + 3 => exact am_rr_m (fun x a b q => hK _ _ _ _ _ q) _ _ _ q
theorem am_inv_m (hK : ∀ i lo st mi ml, K i lo st mi ml → K' i lo st mi ml) {c c' : am_C} (hC : am_leC c c') {g n rk : Nat} (h : am_inv K i lo st mi ml c g n rk) : am_inv K' i lo st mi ml c' g n rk := by
  unfold am_inv at h ⊢
  split at h
  · exact am_bic_m hK h
  · exact am_bic_m hK h
  · exact am_cpy_m hK h
  · exact h.elim
  · exact am_call0_m hK hC h
theorem am_ite_m {p : Prop} {a b a' b' : Prop} (h : (p → a) ∧ (¬ p → b)) (ha : a → a') (hb : b → b') : (p → a') ∧ (¬ p → b') := ⟨fun q => ha (h.1 q), fun q => hb (h.2 q)⟩
set_option maxHeartbeats 4000000 in
theorem am_st_m (hK : ∀ i lo st mi ml, K i lo st mi ml → K' i lo st mi ml) {c c' : am_C} (hC : am_leC c c') {R R' : am_R} (hR : ∀ r a b, R r a b → R' r a b) {ins : Instr} {k1 k2 k3 : Nat} {v : Int32} {sw : List (Int32 × Nat)}
    (h : am_st c K R ins k1 k2 k3 v sw i lo st mi ml) : am_st c' K' R' ins k1 k2 k3 v sw i lo st mi ml := by
  unfold am_st at h
  split at h
  all_goals first
    | exact am_ldA_m hK h
    | exact am_ldI_m hK h
    | exact am_ldJ_m hK h
    | exact am_stA_m hK h
    | exact am_stI_m hK h
    | exact am_stJ_m hK h
    | exact am_inc_m hK h
    | exact hK _ _ _ _ _ h
    | exact am_dup_m hK h
    | exact am_dupx1_m hK h
    | exact am_dup2_m hK h
    | exact am_pop_m hK h
    | exact am_b2_m hK h
    | exact am_bd_m hK h
    | exact am_u1_m hK h
    | exact am_j2_m hK h
    | exact am_br_m hK h
    | exact am_b2r_m hK h
    | exact am_sw_m hK h
    | exact am_get_m hK h
    | exact am_put_m hK h
    | exact am_iald_m hK h
    | exact am_bald_m hK h
    | exact am_iast_m hK h
    | exact am_lald_m hK h
    | exact am_last_m hK h
    | exact am_aald_m hK h
    | exact am_alen_m hK h
    | exact am_need_m (fun h => am_inv_m hK hC h) h
    | exact am_inv_m hK hC h
    | exact h.elim
    | (unfold am_st; split at h <;> first | exact hK _ _ _ _ _ h | exact hR _ _ _ h | exact h.elim | (rename_i hne; split <;> first | exact (hne rfl).elim | exact hK _ _ _ _ _ h) | (rename_i n1 n2; split <;> first | exact (n1 rfl).elim | exact (n2 rfl).elim | exact hK _ _ _ _ _ h))
    | (unfold am_st; split at h <;> (try split at h) <;> first | exact hR _ _ _ h | exact ⟨h.1, hR _ _ _ h.2⟩ | exact h.elim | (rename_i hne; split <;> first | exact (hne rfl).elim | exact ⟨h.1, hR _ _ _ h.2⟩) | (rename_i n1 n2; split <;> first | exact (n1 rfl).elim | exact (n2 rfl).elim | exact ⟨h.1, hR _ _ _ h.2⟩))
theorem am_ex_m (hK : ∀ i lo st mi ml, K i lo st mi ml → K' i lo st mi ml) {c c' : am_C} (hC : am_leC c c') {R R' : am_R} (hR : ∀ r a b, R r a b → R' r a b) {t : List am_row}
    (h : am_ex c t K R i lo st mi ml) : am_ex c' t K' R' i lo st mi ml := by
  unfold am_ex at h ⊢
  split at h
  · exact am_st_m hK hC hR h
  · exact h.elim
end AMM
theorem am_leC_r (c : am_C) (hc : ∀ g args mi ml (R R' : am_R), (∀ r a b, R r a b → R' r a b) → c g args mi ml R → c g args mi ml R') : am_leC c c := hc
/-- one row on -/
theorem am_wp_i {c : am_C} (hc : am_leC c c) {t : List am_row} {R : am_R} {i lo st mi ml} (h : am_ex c t (am_wp c t R) R i lo st mi ml) : am_wp c t R i lo st mi ml :=
  fun P h1 h2 => h1 _ _ _ _ _ (am_ex_m (fun _ _ _ _ _ q => q P h1 h2) hc (fun _ _ _ q => q) h)
/-- forgetting locals -/
theorem am_wp_l {c : am_C} {t : List am_row} {R : am_R} {i lo lo' st mi ml} (hl : am_le lo' lo) (h : am_wp c t R i lo' st mi ml) : am_wp c t R i lo st mi ml :=
  fun P h1 h2 => h2 _ _ _ _ _ _ hl (h P h1 h2)
theorem am_wp_m {c c' : am_C} (hc : am_leC c c') {t : List am_row} {R R' : am_R} (hR : ∀ r a b, R r a b → R' r a b) {i lo st mi ml} (h : am_wp c t R i lo st mi ml) : am_wp c' t R' i lo st mi ml :=
  fun P h1 h2 => h P (fun _ _ _ _ _ q => h1 _ _ _ _ _ (am_ex_m (fun _ _ _ _ _ q => q) hc hR q)) h2
/-- a call of a method by its number, its own calls at most d deep -/
def am_call : Nat → am_C
  | 0 => fun _ _ _ _ _ => False
  | d + 1 => fun f args mi ml R => am_cat args ≤ (am_m f).2.2.1 ∧ am_wp (am_call d) (am_tab f) R 0 (am_in (am_m f).2.2.1 args) [] mi ml
theorem am_call_c : ∀ d, am_leC (am_call d) (am_call d)
  | 0 => fun _ _ _ _ _ _ _ h => h.elim
  | d + 1 => fun _ _ _ _ _ _ hR h => ⟨h.1, am_wp_m (am_call_c d) hR h.2⟩
theorem am_call_s : ∀ d, am_leC (am_call d) (am_call (d + 1))
  | 0 => fun _ _ _ _ _ _ _ h => h.elim
  | d + 1 => fun _ _ _ _ _ _ hR h => ⟨h.1, am_wp_m (am_call_s d) hR h.2⟩
theorem am_call_d {d e : Nat} (h : d ≤ e) : am_leC (am_call d) (am_call e) := by
  induction h with
  | refl => exact am_call_c d
  | step _ ih => exact fun _ _ _ _ _ _ hR q => am_call_s _ _ _ _ _ _ _ (fun _ _ _ w => w) (ih _ _ _ _ _ _ hR q)
theorem am_call_w {d : Nat} {f args mi ml} {R R' : am_R} (hR : ∀ r a b, R r a b → R' r a b) (h : am_call d f args mi ml R) : am_call d f args mi ml R' := am_call_c d _ _ _ _ _ _ hR h
theorem am_call_i {d : Nat} {f args mi ml} {R : am_R} (hl : am_cat args ≤ (am_m f).2.2.1) (h : am_wp (am_call d) (am_tab f) R 0 (am_in (am_m f).2.2.1 args) [] mi ml) : am_call (d + 1) f args mi ml R := ⟨hl, h⟩
