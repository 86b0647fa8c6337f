/-! many rows at once: up to the rows where one stops -/
def am_msk : List Bool → am_L → am_L
  | [], l => l
  | _ :: _, [] => []
  | true :: m, a :: l => a :: am_msk m l
  | false :: m, _ :: l => none :: am_msk m l
theorem am_msk_le : ∀ (m : List Bool) (l : am_L), am_le (am_msk m l) l
  | [], [] => trivial
  | [], none :: l => am_msk_le [] l
  | [], some _ :: l => ⟨rfl, am_msk_le [] l⟩
  | _ :: _, [] => trivial
  | true :: m, none :: l => am_msk_le m l
  | true :: m, some _ :: l => ⟨rfl, am_msk_le m l⟩
  | false :: m, _ :: l => am_msk_le m l
def am_go (c : am_C) (t : List am_row) (R : am_R) (stop : List (Nat × List Bool)) : Nat → am_K
  | 0 => am_wp c t R
  | n + 1 => am_ex c t (fun i lo st mi ml => match stop.lookup i with
    | some m => am_wp c t R i (am_msk m lo) st mi ml
    | none => am_go c t R stop n i lo st mi ml) R
theorem am_go_i {c : am_C} (hc : am_leC c c) {t : List am_row} {R : am_R} {stop : List (Nat × List Bool)} : ∀ (n : Nat) {i : Nat} {lo : am_L} {st : List Value} {mi : am_MI} {ml : am_ML}, am_go c t R stop n i lo st mi ml → am_wp c t R i lo st mi ml
  | 0, _, _, _, _, _, h => h
  | n + 1, _, _, _, _, _, h => am_wp_i hc (am_ex_m (fun i lo st mi ml h => by
      split at h
      · exact am_wp_l (am_msk_le _ _) h
      · exact am_go_i hc n h) hc (fun _ _ _ h => h) h)
theorem am_bk {d : Nat} {t : List am_row} {R : am_R} (stop : List (Nat × List Bool)) (n : Nat) {i : Nat} {lo : am_L} {st : List Value} {mi : am_MI} {ml : am_ML} (h : am_go (am_call d) t R stop n i lo st mi ml) : am_wp (am_call d) t R i lo st mi ml := am_go_i (am_call_c d) n h
theorem am_rv_i {k : am_MI → am_ML → Prop} {mi ml} (h : k mi ml) : am_rv k none mi ml := ⟨rfl, h⟩
theorem am_ri_i {k : Int32 → am_MI → am_ML → Prop} {x mi ml} (h : k x mi ml) : am_ri k (some (.int x)) mi ml := ⟨x, rfl, h⟩
theorem am_rj_i {k : Int64 → am_MI → am_ML → Prop} {x mi ml} (h : k x mi ml) : am_rj k (some (.long x)) mi ml := ⟨x, rfl, h⟩
theorem am_rr_i {k : Nat → am_MI → am_ML → Prop} {x mi ml} (h : k x mi ml) : am_rr k (some (.ref x)) mi ml := ⟨x, rfl, h⟩
theorem am_call_t {d : Nat} {f : Nat} {t : List am_row} {n : Nat} {args : List Value} {lo : am_L} {mi : am_MI} {ml : am_ML} {R : am_R} (ht : am_tab f = t) (hn : (am_m f).2.2.1 = n) (hc : Nat.ble (am_cat args) n = true) (hi : am_in n args = lo) (h : am_wp (am_call d) t R 0 lo [] mi ml) : am_call (d + 1) f args mi ml R := by
  subst ht
  subst hn
  subst hi
  exact am_call_i (Nat.le_of_ble_eq_true hc) h
