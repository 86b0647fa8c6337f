/-! the class and the reference being made: the first n cells stand; a reference that is not yet set is null (its place in the memory is 0) -/
abbrev cm_N : Nat := 78
def cm_fv (G : am_G) (mi : am_MI) (a c j : Nat) : Value := if am_isr (am_fd c j) = true then (if mi a j = 0 then .null else .ref (G.1 (am_rf a j))) else .int (mi a j)
def cm_fs (G : am_G) (mi : am_MI) (a c n : Nat) : List Value := (List.range n).map (cm_fv G mi a c)
def cm_en (G : am_G) (mi : am_MI) (ml : am_ML) (a : Nat) : va_E := match am_ck a with
  | (1, c, n, _) => .inr (c, cm_fs G mi a c n)
  | (2, n, _, _) => .inl (G.2.2.1.1, n, .inl (mi a))
  | (3, n, _, _) => .inl (G.2.2.1.2.1, n, .inr (.inl (ml a)))
  | (_, n, f, d) => .inl (if d = 1 then G.2.2.1.2.2.1 else G.2.2.1.2.2.2, n, .inr (.inr (.inr (.inr (fun j => if d = 1 then some (G.1 (f + d * j)) else if mi a j = 0 then none else some (G.1 (f + d * j)))))))
def cm_wl (G : am_G) (n : Nat) (mi : am_MI) (ml : am_ML) : va_W := (List.range n).map fun a => (G.1 a, cm_en G mi ml a)
def cm_A (B : Nat) : Nat → Prop := fun q => B ≤ q
def cm_hp (G : am_G) (B n : Nat) (H : Heap) (mi : am_MI) (ml : am_ML) : Prop := va_P G.2.1 vwCl (cm_wl G n mi ml) H ∧ H.size = B + n ∧ n ≤ cm_N ∧ (∀ k j, n ≤ k → k < cm_N → mi k j = 0 ∧ ml k j = 0) ∧ ∀ c, cm_N ≤ c → mi c = G.2.2.2 c
def cm_ad (G : am_G) (B : Nat) : Prop := ∀ k, k < cm_N → G.1 k = B + k
section SP77
variable {G : am_G} {B n : Nat} {H : Heap} {mi : am_MI} {ml : am_ML}
theorem cm_wl_at {a : Nat} (h : a < n) : (cm_wl G n mi ml)[a]? = some (G.1 a, cm_en G mi ml a) := by
  unfold cm_wl
  rw [List.getElem?_map, List.getElem?_range h]
  rfl
theorem cm_wl_out {a : Nat} (h : n ≤ a) : (cm_wl G n mi ml)[a]? = none := by
  rw [List.getElem?_eq_none]
  unfold cm_wl
  simpa using h
theorem cm_wl_lt {a : Nat} {q : Nat × va_E} (h : (cm_wl G n mi ml)[a]? = some q) : a < n ∧ q = (G.1 a, cm_en G mi ml a) := by
  by_cases g : a < n
  · rw [cm_wl_at g] at h
    cases h
    exact ⟨g, rfl⟩
  · rw [cm_wl_out (by omega)] at h
    cases h
theorem cm_vD (hG : cm_ad G B) (hn : n ≤ cm_N) : va_D (cm_A B) (cm_wl G n mi ml) := by
  refine ⟨fun i j p q hi hj e => ?_, fun k q hk => ?_⟩
  · obtain ⟨i1, rfl⟩ := cm_wl_lt hi
    obtain ⟨j1, rfl⟩ := cm_wl_lt hj
    have e : G.1 i = G.1 j := e
    rw [hG i (by omega), hG j (by omega)] at e
    omega
  · obtain ⟨k1, rfl⟩ := cm_wl_lt hk
    show B ≤ G.1 k
    rw [hG k (by omega)]
    omega
/-- one more cell -/
theorem cm_push {H1 : Heap} (hG : cm_ad G B) (h : cm_hp G B n H mi ml) (hn : n < cm_N) (z : H1.size = H.size + 1) (o : ∀ q, q < H.size → H1[q]? = H[q]?) (ha : va_at G.2.1 vwCl (B + n, cm_en G mi ml n) H1) : cm_hp G B (n + 1) H1 mi ml := by
  obtain ⟨h1, h2, h3, h4, h5⟩ := h
  refine ⟨fun k q hk => ?_, by omega, by omega, fun k j w1 w2 => h4 k j (by omega) w2, h5⟩
  obtain ⟨k1, rfl⟩ := cm_wl_lt hk
  by_cases e : k = n
  · subst e
    rw [hG k hn]
    exact ha
  · have hat := h1 k _ (cm_wl_at (mi := mi) (ml := ml) (show k < n by omega))
    exact hat.kept (o _ hat.lt)
theorem cm_en1 {a : Nat} (h : am_kd a = 1) : cm_en G mi ml a = .inr (am_n a, cm_fs G mi a (am_n a) (am_f a)) := by
  unfold am_kd at h
  unfold cm_en am_n am_f
  rcases e : am_ck a with ⟨k, n, f, d⟩
  rw [e] at h
  subst h
  rfl
theorem cm_en2 {a : Nat} (h : am_kd a = 2) : cm_en G mi ml a = .inl (G.2.2.1.1, am_n a, .inl (mi a)) := by
  unfold am_kd at h
  unfold cm_en am_n
  rcases e : am_ck a with ⟨k, n, f, d⟩
  rw [e] at h
  subst h
  rfl
theorem cm_en3 {a : Nat} (h : am_kd a = 3) : cm_en G mi ml a = .inl (G.2.2.1.2.1, am_n a, .inr (.inl (ml a))) := by
  unfold am_kd at h
  unfold cm_en am_n
  rcases e : am_ck a with ⟨k, n, f, d⟩
  rw [e] at h
  subst h
  rfl
theorem cm_en4 {a : Nat} (h : am_kd a = 4) : cm_en G mi ml a = .inl (if am_d a = 1 then G.2.2.1.2.2.1 else G.2.2.1.2.2.2, am_n a, .inr (.inr (.inr (.inr (fun j => if am_d a = 1 then some (G.1 (am_f a + am_d a * j)) else if mi a j = 0 then none else some (G.1 (am_f a + am_d a * j))))))) := by
  unfold am_kd at h
  unfold cm_en am_n am_f am_d
  rcases e : am_ck a with ⟨k, n, f, d⟩
  rw [e] at h
  subst h
  rfl
theorem cm_en_c {mi2 : am_MI} {ml2 : am_ML} {b : Nat} (h1 : mi2 b = mi b) (h2 : ml2 b = ml b) : cm_en G mi2 ml2 b = cm_en G mi ml b := by
  unfold cm_en cm_fs cm_fv
  rw [h1, h2]
/-- writing an entry in the world is writing the memory -/
theorem cm_wl_set {mi2 : am_MI} {ml2 : am_ML} {a : Nat} {v : va_E} (hv : cm_en G mi2 ml2 a = v) (ho : ∀ b, ¬ b = a → cm_en G mi2 ml2 b = cm_en G mi ml b) : (cm_wl G n mi ml).set a (G.1 a, v) = cm_wl G n mi2 ml2 := by
  apply List.ext_getElem?
  intro k
  rw [List.getElem?_set]
  by_cases hk : k < n
  · rw [cm_wl_at (mi := mi2) (ml := ml2) hk]
    by_cases e : a = k
    · subst e
      rw [if_pos rfl, if_pos (by unfold cm_wl; simpa using hk), hv]
    · rw [if_neg e, cm_wl_at hk, ho k (fun q => e q.symm)]
  · rw [cm_wl_out (mi := mi2) (ml := ml2) (by omega)]
    by_cases e : a = k
    · subst e
      rw [if_pos rfl, if_neg (by unfold cm_wl; simpa using Nat.not_lt.mp hk)]
    · rw [if_neg e, cm_wl_out (by omega)]
theorem cm_wl_ui {a j : Nat} {x : Int32} (h : am_kd a = 2) : (cm_wl G n mi ml).set a (G.1 a, .inl (G.2.2.1.1, am_n a, .inl (upd (mi a) j x))) = cm_wl G n (am_ui mi a j x) ml :=
  cm_wl_set (by rw [cm_en2 h, am_ui_a]) (fun b hb => cm_en_c (am_ui_o hb) rfl)
theorem cm_fs_at {a c k j : Nat} (h : j < k) : (cm_fs G mi a c k)[j]? = some (cm_fv G mi a c j) := by
  unfold cm_fs
  rw [List.getElem?_map, List.getElem?_range h]
  rfl
theorem cm_fs_len {a c k : Nat} : (cm_fs G mi a c k).length = k := by
  unfold cm_fs
  simp
theorem cm_fs_set {a c k j : Nat} {x : Int32} {v : Value} (hv : cm_fv G (am_ui mi a j x) a c j = v) : (cm_fs G mi a c k).set j v = cm_fs G (am_ui mi a j x) a c k := by
  apply List.ext_getElem?
  intro i
  rw [List.getElem?_set]
  by_cases hk : i < k
  · rw [cm_fs_at (mi := am_ui mi a j x) hk]
    by_cases e : j = i
    · subst e
      rw [if_pos rfl, if_pos (by rw [cm_fs_len]; exact hk), hv]
    · rw [if_neg e, cm_fs_at hk]
      unfold cm_fv am_ui
      rw [if_neg (c := a = a ∧ i = j) (fun q => e q.2.symm)]
  · have hn : (cm_fs G (am_ui mi a j x) a c k)[i]? = none := by
      rw [List.getElem?_eq_none]
      rw [cm_fs_len]
      exact Nat.not_lt.mp hk
    rw [hn]
    by_cases e : j = i
    · subst e
      rw [if_pos rfl, if_neg (by rw [cm_fs_len]; exact hk)]
    · rw [if_neg e, List.getElem?_eq_none]
      rw [cm_fs_len]
      exact Nat.not_lt.mp hk
theorem cm_wl_fs {a j : Nat} {x : Int32} {v : Value} (h : am_kd a = 1) (hv : cm_fv G (am_ui mi a j x) a (am_n a) j = v) : (cm_wl G n mi ml).set a (G.1 a, .inr (am_n a, (cm_fs G mi a (am_n a) (am_f a)).set j v)) = cm_wl G n (am_ui mi a j x) ml :=
  cm_wl_set (by rw [cm_en1 h, cm_fs_set hv]) (fun b hb => cm_en_c (am_ui_o hb) rfl)
end SP77
