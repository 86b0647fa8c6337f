/-! pictures: the acts of the reference -/
def am_mwE (K k : Nat) : List Int32 := match k with
  | 3 => [40, 11]
  | 5 => [40, 11]
  | 4 => 50 :: 11 :: am_opE K
  | 7 => 50 :: 11 :: am_opE K
  | _ => [11]
def am_mwV (K k : Nat) (b x : Int32) : Int32 := match k with
  | 3 => (x ^^^ b) * 3
  | 5 => (x ^^^ b) * 3
  | 4 => (x ^^^ b) - am_opV K b 2
  | 7 => (x ^^^ b) - am_opV K b 2
  | _ => x ^^^ b
def am_mgE (K k : Nat) : List Int32 := match k with
  | 2 => 30 :: 10 :: am_opE K
  | 3 => 41 :: 30 :: 10 :: am_opE K
  | 5 => 41 :: 30 :: 10 :: am_opE K
  | 7 => 80 :: 10 :: (am_opE K ++ am_mwE K K)
  | _ => 10 :: am_opE K
def am_mgV (K k : Nat) (b x : Int32) : Int32 := match k with
  | 2 => -(am_opV K b x * 2)
  | 3 => -(am_opV K b (x + 1) * 2)
  | 5 => -(am_opV K b (x + 1) * 2)
  | 7 => am_opV K b x * 2 + am_mwV K K b 2
  | _ => am_opV K b x * 2
def am_mtE (K k : Nat) : List Int32 := match k with
  | 5 => 60 :: 2 :: (am_mgE K K ++ am_mwE K K)
  | 7 => 81 :: 2 :: (am_mgE K K ++ am_mwE K K)
  | _ => 2 :: (am_mgE K K ++ am_mwE K K)
def am_mtV (K k : Nat) (b x : Int32) : Int32 := match k with
  | 5 => (am_mgV K K b x - am_mwV K K b 1) ^^^ 5
  | 7 => am_mgV K K b x - am_mwV K K b 1 - 1
  | _ => am_mgV K K b x - am_mwV K K b 1
theorem am_opE_l : ∀ k, k < 8 → (am_opE k).length ≤ 2 := by decide
theorem am_mwE_l : ∀ K, K < 8 → ∀ k, k < 8 → (am_mwE K k).length ≤ 4 := by decide
theorem am_mgE_l : ∀ K, K < 8 → ∀ k, k < 8 → (am_mgE K k).length ≤ 8 := by decide
theorem am_mwE_e : ∀ K, K < 8 → am_mwE K K = am_waE K := by decide
theorem am_mgE_e : ∀ K, K < 8 → am_mgE K K = am_giE K := by decide
theorem am_mtE_e : ∀ K, K < 8 → am_mtE K K = am_teE K := by decide
theorem am_8 {P : Nat → Prop} (h0 : P 0) (h1 : P 1) (h2 : P 2) (h3 : P 3) (h4 : P 4) (h5 : P 5) (h6 : P 6) (h7 : P 7) : ∀ k, k < 8 → P k := by
  intro k hk
  rcases (show k = 0 ∨ k = 1 ∨ k = 2 ∨ k = 3 ∨ k = 4 ∨ k = 5 ∨ k = 6 ∨ k = 7 by omega) with e | e | e | e | e | e | e | e <;> subst e <;> assumption
theorem am_mwV_e (b x : Int32) : ∀ K, K < 8 → am_mwV K K b x = am_waV K b x := am_8 rfl rfl rfl rfl rfl rfl rfl rfl
theorem am_mgV_e (b x : Int32) : ∀ K, K < 8 → am_mgV K K b x = am_giV K b x := am_8 rfl rfl rfl rfl rfl rfl rfl rfl
theorem am_mtV_e (b x : Int32) : ∀ K, K < 8 → am_mtV K K b x = am_teV K b x := am_8 rfl rfl rfl rfl rfl rfl rfl rfl
section SP26
variable {mi : am_MI} {ml : am_ML} {R : am_R} {es : List Int32} {b x : Int32} {K i : Nat}
theorem sp_254_0 {d : Nat} (h : R (some (.int (nI 0))) mi ml) : am_call (d + 1) 254 [.int (nI 0)] mi ml R := bk_254 ⟨fun q => absurd q (by decide), fun _ => ⟨fun q => absurd q (by decide), fun _ => ⟨fun q => absurd q (by decide), fun _ => ⟨fun q => absurd q (by decide), fun _ => ⟨fun q => absurd q (by decide), fun _ => h⟩⟩⟩⟩⟩
theorem sp_254_1 {d : Nat} (h : R (some (.int (nI 0))) mi ml) : am_call (d + 1) 254 [.int (nI 1)] mi ml R := bk_254 ⟨fun q => absurd q (by decide), fun _ => ⟨fun q => absurd q (by decide), fun _ => ⟨fun q => absurd q (by decide), fun _ => ⟨fun q => absurd q (by decide), fun _ => ⟨fun q => absurd q (by decide), fun _ => h⟩⟩⟩⟩⟩
theorem sp_254_2 {d : Nat} (h : R (some (.int (nI 0))) mi ml) : am_call (d + 1) 254 [.int (nI 2)] mi ml R := bk_254 ⟨fun q => absurd q (by decide), fun _ => ⟨fun q => absurd q (by decide), fun _ => ⟨fun q => absurd q (by decide), fun _ => ⟨fun q => absurd q (by decide), fun _ => ⟨fun q => absurd q (by decide), fun _ => h⟩⟩⟩⟩⟩
theorem sp_254_3 {d : Nat} (h : R (some (.int (nI 2))) mi ml) : am_call (d + 1) 254 [.int (nI 3)] mi ml R := bk_254 ⟨fun _ => h, fun q => absurd rfl q⟩
theorem sp_254_4 {d : Nat} (h : R (some (.int (nI 1))) mi ml) : am_call (d + 1) 254 [.int (nI 4)] mi ml R := bk_254 ⟨fun q => absurd q (by decide), fun _ => ⟨fun _ => h, fun q => absurd rfl q⟩⟩
theorem sp_254_5 {d : Nat} (h : R (some (.int (nI 3))) mi ml) : am_call (d + 1) 254 [.int (nI 5)] mi ml R := bk_254 ⟨fun q => absurd q (by decide), fun _ => ⟨fun q => absurd q (by decide), fun _ => ⟨fun _ => h, fun q => absurd rfl q⟩⟩⟩
theorem sp_254_6 {d : Nat} (h : R (some (.int (nI 0))) mi ml) : am_call (d + 1) 254 [.int (nI 6)] mi ml R := bk_254 ⟨fun q => absurd q (by decide), fun _ => ⟨fun q => absurd q (by decide), fun _ => ⟨fun q => absurd q (by decide), fun _ => ⟨fun _ => h, fun q => absurd rfl q⟩⟩⟩⟩
theorem sp_254_7 {d : Nat} (h : R (some (.int (nI 4))) mi ml) : am_call (d + 1) 254 [.int (nI 7)] mi ml R := bk_254 ⟨fun q => absurd q (by decide), fun _ => ⟨fun q => absurd q (by decide), fun _ => ⟨fun q => absurd q (by decide), fun _ => ⟨fun q => absurd q (by decide), fun _ => ⟨fun _ => h, fun q => absurd rfl q⟩⟩⟩⟩⟩
theorem sp_256_0 {d : Nat} (ht : am_trm es mi) (hl : es.length < 59) (h : ∀ mi2, am_trm (es ++ am_opE 0) mi2 → am_kp am_Ftm mi mi2 → R (some (.int (am_opV 0 b x))) mi2 ml) : am_call (d + 2) 256 [.ref 78, .int b, .int (nI 0), .int x] mi ml R := by
  exact bk_256 ⟨fun _ => sp_255 ht (by omega) (fun m1 t1 k1 => am_rv_i (h m1 t1 k1)), fun q => absurd rfl q⟩
theorem sp_256_1 {d : Nat} (ht : am_trm es mi) (hl : es.length < 58) (h : ∀ mi2, am_trm (es ++ am_opE 1) mi2 → am_kp am_Ftm mi mi2 → R (some (.int (am_opV 1 b x))) mi2 ml) : am_call (d + 3) 256 [.ref 78, .int b, .int (nI 1), .int x] mi ml R := by
  exact bk_256 ⟨fun q => absurd q (by decide), fun _ => ⟨fun _ => sp_255 ht (by omega) (fun m1 t1 k1 => am_rv_i (sp_256_0 t1 (by simp only [List.length_append, List.length_cons, List.length_nil]; omega) (fun m2 t2 k2 => am_ri_i (h m2 (by rw [List.append_assoc] at t2; exact t2) (am_kp_t k1 k2))))), fun q => absurd rfl q⟩⟩
theorem sp_256_6 {d : Nat} (ht : am_trm es mi) (hl : es.length < 58) (h : ∀ mi2, am_trm (es ++ am_opE 6) mi2 → am_kp am_Ftm mi mi2 → R (some (.int (am_opV 6 b x))) mi2 ml) : am_call (d + 3) 256 [.ref 78, .int b, .int (nI 6), .int x] mi ml R := by
  exact bk_256 ⟨fun q => absurd q (by decide), fun _ => ⟨fun q => absurd q (by decide), fun _ => ⟨fun _ => sp_255 ht (by omega) (fun m1 t1 k1 => am_rv_i (sp_256_0 t1 (by simp only [List.length_append, List.length_cons, List.length_nil]; omega) (fun m2 t2 k2 => am_ri_i (h m2 (by rw [List.append_assoc] at t2; exact t2) (am_kp_t k1 k2))))), fun q => absurd rfl q⟩⟩⟩
theorem sp_256_2 {d : Nat} (ht : am_trm es mi) (hl : es.length < 58) (h : ∀ mi2, am_trm (es ++ am_opE 2) mi2 → am_kp am_Ftm mi mi2 → R (some (.int (am_opV 2 b x))) mi2 ml) : am_call (d + 3) 256 [.ref 78, .int b, .int (nI 2), .int x] mi ml R := by
  exact bk_256 ⟨fun q => absurd q (by decide), fun _ => ⟨fun q => absurd q (by decide), fun _ => ⟨fun q => absurd q (by decide), fun _ => sp_254_2 (am_ri_i (sp_256_0 ht (by omega) (fun m2 t2 k2 => am_ri_i (h m2 t2 k2))))⟩⟩⟩
theorem sp_256_3 {d : Nat} (ht : am_trm es mi) (hl : es.length < 58) (h : ∀ mi2, am_trm (es ++ am_opE 3) mi2 → am_kp am_Ftm mi mi2 → R (some (.int (am_opV 3 b x))) mi2 ml) : am_call (d + 4) 256 [.ref 78, .int b, .int (nI 3), .int x] mi ml R := by
  exact bk_256 ⟨fun q => absurd q (by decide), fun _ => ⟨fun q => absurd q (by decide), fun _ => ⟨fun q => absurd q (by decide), fun _ => sp_254_3 (am_ri_i (sp_256_2 ht (by omega) (fun m2 t2 k2 => am_ri_i (h m2 t2 k2))))⟩⟩⟩
theorem sp_256_4 {d : Nat} (ht : am_trm es mi) (hl : es.length < 58) (h : ∀ mi2, am_trm (es ++ am_opE 4) mi2 → am_kp am_Ftm mi mi2 → R (some (.int (am_opV 4 b x))) mi2 ml) : am_call (d + 4) 256 [.ref 78, .int b, .int (nI 4), .int x] mi ml R := by
  exact bk_256 ⟨fun q => absurd q (by decide), fun _ => ⟨fun q => absurd q (by decide), fun _ => ⟨fun q => absurd q (by decide), fun _ => sp_254_4 (am_ri_i (sp_256_1 ht (by omega) (fun m2 t2 k2 => am_ri_i (h m2 t2 k2))))⟩⟩⟩
theorem sp_256_5 {d : Nat} (ht : am_trm es mi) (hl : es.length < 58) (h : ∀ mi2, am_trm (es ++ am_opE 5) mi2 → am_kp am_Ftm mi mi2 → R (some (.int (am_opV 5 b x))) mi2 ml) : am_call (d + 5) 256 [.ref 78, .int b, .int (nI 5), .int x] mi ml R := by
  exact bk_256 ⟨fun q => absurd q (by decide), fun _ => ⟨fun q => absurd q (by decide), fun _ => ⟨fun q => absurd q (by decide), fun _ => sp_254_5 (am_ri_i (sp_256_3 ht (by omega) (fun m2 t2 k2 => am_ri_i (h m2 t2 k2))))⟩⟩⟩
theorem sp_256_7 {d : Nat} (ht : am_trm es mi) (hl : es.length < 58) (h : ∀ mi2, am_trm (es ++ am_opE 7) mi2 → am_kp am_Ftm mi mi2 → R (some (.int (am_opV 7 b x))) mi2 ml) : am_call (d + 5) 256 [.ref 78, .int b, .int (nI 7), .int x] mi ml R := by
  exact bk_256 ⟨fun q => absurd q (by decide), fun _ => ⟨fun q => absurd q (by decide), fun _ => ⟨fun q => absurd q (by decide), fun _ => sp_254_7 (am_ri_i (sp_256_4 ht (by omega) (fun m2 t2 k2 => am_ri_i (h m2 t2 k2))))⟩⟩⟩
theorem sp_256 {d k : Nat} (hk8 : k < 8) (ht : am_trm es mi) (hl : es.length < 58) (h : ∀ mi2, am_trm (es ++ am_opE k) mi2 → am_kp am_Ftm mi mi2 → R (some (.int (am_opV k b x))) mi2 ml) : am_call (d + 5) 256 [.ref 78, .int b, .int (nI k), .int x] mi ml R := by
  rcases (show k = 0 ∨ k = 1 ∨ k = 2 ∨ k = 3 ∨ k = 4 ∨ k = 5 ∨ k = 6 ∨ k = 7 by omega) with e | e | e | e | e | e | e | e <;> subst e
  · exact sp_256_0 ht (by omega) h
  · exact sp_256_1 ht (by omega) h
  · exact sp_256_2 ht (by omega) h
  · exact sp_256_3 ht (by omega) h
  · exact sp_256_4 ht (by omega) h
  · exact sp_256_5 ht (by omega) h
  · exact sp_256_6 ht (by omega) h
  · exact sp_256_7 ht (by omega) h
theorem sp_258_0 {d : Nat} (hK : K < 8) (hi : i < 50) (hb : b = nI i) (hk : mi 104 i = nI K) (ht : am_trm es mi) (hl : es.length < 59) (h : ∀ mi2, am_trm (es ++ am_mwE K 0) mi2 → am_kp am_Ftm mi mi2 → R (some (.int (am_mwV K 0 b x))) mi2 ml) : am_call (d + 2) 258 [.ref 78, .int b, .int (nI 0), .int x] mi ml R := by
  exact bk_258 ⟨fun _ => sp_255 ht (by omega) (fun m1 t1 k1 => am_rv_i (h m1 t1 k1)), fun q => absurd rfl q⟩
theorem sp_258_1 {d : Nat} (hK : K < 8) (hi : i < 50) (hb : b = nI i) (hk : mi 104 i = nI K) (ht : am_trm es mi) (hl : es.length < 59) (h : ∀ mi2, am_trm (es ++ am_mwE K 1) mi2 → am_kp am_Ftm mi mi2 → R (some (.int (am_mwV K 1 b x))) mi2 ml) : am_call (d + 3) 258 [.ref 78, .int b, .int (nI 1), .int x] mi ml R := by
  exact bk_258 ⟨fun q => absurd q (by decide), fun _ => ⟨fun _ => sp_254_1 (am_ri_i (sp_258_0 hK hi hb hk ht (by omega) (fun m2 t2 k2 => am_ri_i (h m2 t2 k2)))), fun q => absurd rfl q⟩⟩
theorem sp_258_2 {d : Nat} (hK : K < 8) (hi : i < 50) (hb : b = nI i) (hk : mi 104 i = nI K) (ht : am_trm es mi) (hl : es.length < 59) (h : ∀ mi2, am_trm (es ++ am_mwE K 2) mi2 → am_kp am_Ftm mi mi2 → R (some (.int (am_mwV K 2 b x))) mi2 ml) : am_call (d + 3) 258 [.ref 78, .int b, .int (nI 2), .int x] mi ml R := by
  exact bk_258 ⟨fun q => absurd q (by decide), fun _ => ⟨fun q => absurd q (by decide), fun _ => ⟨fun _ => sp_254_2 (am_ri_i (sp_258_0 hK hi hb hk ht (by omega) (fun m2 t2 k2 => am_ri_i (h m2 t2 k2)))), fun q => absurd rfl q⟩⟩⟩
theorem sp_258_3 {d : Nat} (hK : K < 8) (hi : i < 50) (hb : b = nI i) (hk : mi 104 i = nI K) (ht : am_trm es mi) (hl : es.length < 58) (h : ∀ mi2, am_trm (es ++ am_mwE K 3) mi2 → am_kp am_Ftm mi mi2 → R (some (.int (am_mwV K 3 b x))) mi2 ml) : am_call (d + 4) 258 [.ref 78, .int b, .int (nI 3), .int x] mi ml R := by
  exact bk_258 ⟨fun q => absurd q (by decide), fun _ => ⟨fun q => absurd q (by decide), fun _ => ⟨fun q => absurd q (by decide), fun _ => ⟨fun _ => sp_255 ht (by omega) (fun m1 t1 k1 => am_rv_i (sp_258_2 hK hi hb ((k1 104 i rfl).trans hk) t1 (by simp only [List.length_append, List.length_cons, List.length_nil]; omega) (fun m2 t2 k2 => am_ri_i (h m2 (by rw [List.append_assoc] at t2; exact t2) (am_kp_t k1 k2))))), fun q => absurd rfl q⟩⟩⟩⟩
theorem sp_258_4 {d : Nat} (hK : K < 8) (hi : i < 50) (hb : b = nI i) (hk : mi 104 i = nI K) (ht : am_trm es mi) (hl : es.length < 56) (h : ∀ mi2, am_trm (es ++ am_mwE K 4) mi2 → am_kp am_Ftm mi mi2 → R (some (.int (am_mwV K 4 b x))) mi2 ml) : am_call (d + 6) 258 [.ref 78, .int b, .int (nI 4), .int x] mi ml R := by
  have hb2 : b.toNatClampNeg = i := by rw [hb]; exact nI_clamp (by omega)
  have hv : vp_in b 50 := by rw [hb]; exact vp_in_nI hi (by omega)
  refine bk_258 ⟨fun q => absurd q (by decide), fun _ => ⟨fun q => absurd q (by decide), fun _ => ⟨fun q => absurd q (by decide), fun _ => ⟨fun q => absurd q (by decide), fun _ => ⟨fun _ => sp_255 ht (by omega) (fun m1 t1 k1 => am_rv_i (sp_258_1 hK hi hb ((k1 104 i rfl).trans hk) t1 (by simp only [List.length_append, List.length_cons, List.length_nil]; omega) (fun m2 t2 k2 => am_ri_i ⟨hv, ?_⟩))), fun q => absurd rfl q⟩⟩⟩⟩⟩
  rw [hb2, k2 104 i rfl, k1 104 i rfl, hk]
  have e1 : am_mwE K 1 = [11] := rfl
  rw [e1] at t2
  exact sp_256 hK t2 (by simp only [List.length_append, List.length_cons, List.length_nil]; omega) (fun m3 t3 k3 => am_ri_i (h m3 (by rw [List.append_assoc, List.append_assoc] at t3; exact t3) (am_kp_t k1 (am_kp_t k2 k3))))
theorem sp_258_5 {d : Nat} (hK : K < 8) (hi : i < 50) (hb : b = nI i) (hk : mi 104 i = nI K) (ht : am_trm es mi) (hl : es.length < 56) (h : ∀ mi2, am_trm (es ++ am_mwE K 5) mi2 → am_kp am_Ftm mi mi2 → R (some (.int (am_mwV K 5 b x))) mi2 ml) : am_call (d + 5) 258 [.ref 78, .int b, .int (nI 5), .int x] mi ml R := by
  exact bk_258 ⟨fun q => absurd q (by decide), fun _ => ⟨fun q => absurd q (by decide), fun _ => ⟨fun q => absurd q (by decide), fun _ => ⟨fun q => absurd q (by decide), fun _ => ⟨fun q => absurd q (by decide), fun _ => sp_254_5 (am_ri_i (sp_258_3 hK hi hb hk ht (by omega) (fun m2 t2 k2 => am_ri_i (h m2 t2 k2))))⟩⟩⟩⟩⟩
theorem sp_258_6 {d : Nat} (hK : K < 8) (hi : i < 50) (hb : b = nI i) (hk : mi 104 i = nI K) (ht : am_trm es mi) (hl : es.length < 56) (h : ∀ mi2, am_trm (es ++ am_mwE K 6) mi2 → am_kp am_Ftm mi mi2 → R (some (.int (am_mwV K 6 b x))) mi2 ml) : am_call (d + 3) 258 [.ref 78, .int b, .int (nI 6), .int x] mi ml R := by
  exact bk_258 ⟨fun q => absurd q (by decide), fun _ => ⟨fun q => absurd q (by decide), fun _ => ⟨fun q => absurd q (by decide), fun _ => ⟨fun q => absurd q (by decide), fun _ => ⟨fun q => absurd q (by decide), fun _ => sp_254_6 (am_ri_i (sp_258_0 hK hi hb hk ht (by omega) (fun m2 t2 k2 => am_ri_i (h m2 t2 k2))))⟩⟩⟩⟩⟩
theorem sp_258_7 {d : Nat} (hK : K < 8) (hi : i < 50) (hb : b = nI i) (hk : mi 104 i = nI K) (ht : am_trm es mi) (hl : es.length < 56) (h : ∀ mi2, am_trm (es ++ am_mwE K 7) mi2 → am_kp am_Ftm mi mi2 → R (some (.int (am_mwV K 7 b x))) mi2 ml) : am_call (d + 7) 258 [.ref 78, .int b, .int (nI 7), .int x] mi ml R := by
  exact bk_258 ⟨fun q => absurd q (by decide), fun _ => ⟨fun q => absurd q (by decide), fun _ => ⟨fun q => absurd q (by decide), fun _ => ⟨fun q => absurd q (by decide), fun _ => ⟨fun q => absurd q (by decide), fun _ => sp_254_7 (am_ri_i (sp_258_4 hK hi hb hk ht (by omega) (fun m2 t2 k2 => am_ri_i (h m2 t2 k2))))⟩⟩⟩⟩⟩
theorem sp_258 {d k : Nat} (hk8 : k < 8) (hK : K < 8) (hi : i < 50) (hb : b = nI i) (hk : mi 104 i = nI K) (ht : am_trm es mi) (hl : es.length < 56) (h : ∀ mi2, am_trm (es ++ am_mwE K k) mi2 → am_kp am_Ftm mi mi2 → R (some (.int (am_mwV K k b x))) mi2 ml) : am_call (d + 7) 258 [.ref 78, .int b, .int (nI k), .int x] mi ml R := by
  rcases (show k = 0 ∨ k = 1 ∨ k = 2 ∨ k = 3 ∨ k = 4 ∨ k = 5 ∨ k = 6 ∨ k = 7 by omega) with e | e | e | e | e | e | e | e <;> subst e
  · exact sp_258_0 hK hi hb hk ht (by omega) h
  · exact sp_258_1 hK hi hb hk ht (by omega) h
  · exact sp_258_2 hK hi hb hk ht (by omega) h
  · exact sp_258_3 hK hi hb hk ht (by omega) h
  · exact sp_258_4 hK hi hb hk ht (by omega) h
  · exact sp_258_5 hK hi hb hk ht (by omega) h
  · exact sp_258_6 hK hi hb hk ht (by omega) h
  · exact sp_258_7 hK hi hb hk ht (by omega) h
theorem sp_257_0 {d : Nat} (hK : K < 8) (hi : i < 50) (hb : b = nI i) (hk : mi 104 i = nI K) (ht : am_trm es mi) (hl : es.length < 57) (h : ∀ mi2, am_trm (es ++ am_mgE K 0) mi2 → am_kp am_Ftm mi mi2 → R (some (.int (am_mgV K 0 b x))) mi2 ml) : am_call (d + 6) 257 [.ref 78, .int b, .int (nI 0), .int x] mi ml R := by
  have hb2 : b.toNatClampNeg = i := by rw [hb]; exact nI_clamp (by omega)
  have hv : vp_in b 50 := by rw [hb]; exact vp_in_nI hi (by omega)
  refine bk_257 ⟨fun _ => sp_255 ht (by omega) (fun m1 t1 k1 => am_rv_i ⟨hv, ?_⟩), fun q => absurd rfl q⟩
  rw [hb2, k1 104 i rfl, hk]
  exact sp_256 hK t1 (by simp only [List.length_append, List.length_cons, List.length_nil]; omega) (fun m2 t2 k2 => am_ri_i (h m2 (by rw [List.append_assoc] at t2; exact t2) (am_kp_t k1 k2)))
theorem sp_257_1 {d : Nat} (hK : K < 8) (hi : i < 50) (hb : b = nI i) (hk : mi 104 i = nI K) (ht : am_trm es mi) (hl : es.length < 57) (h : ∀ mi2, am_trm (es ++ am_mgE K 1) mi2 → am_kp am_Ftm mi mi2 → R (some (.int (am_mgV K 1 b x))) mi2 ml) : am_call (d + 7) 257 [.ref 78, .int b, .int (nI 1), .int x] mi ml R := by
  exact bk_257 ⟨fun q => absurd q (by decide), fun _ => ⟨fun _ => sp_254_1 (am_ri_i (sp_257_0 hK hi hb hk ht (by omega) (fun m2 t2 k2 => am_ri_i (h m2 t2 k2)))), fun q => absurd rfl q⟩⟩
theorem sp_257_2 {d : Nat} (hK : K < 8) (hi : i < 50) (hb : b = nI i) (hk : mi 104 i = nI K) (ht : am_trm es mi) (hl : es.length < 56) (h : ∀ mi2, am_trm (es ++ am_mgE K 2) mi2 → am_kp am_Ftm mi mi2 → R (some (.int (am_mgV K 2 b x))) mi2 ml) : am_call (d + 7) 257 [.ref 78, .int b, .int (nI 2), .int x] mi ml R := by
  exact bk_257 ⟨fun q => absurd q (by decide), fun _ => ⟨fun q => absurd q (by decide), fun _ => ⟨fun _ => sp_255 ht (by omega) (fun m1 t1 k1 => am_rv_i (sp_257_0 hK hi hb ((k1 104 i rfl).trans hk) t1 (by simp only [List.length_append, List.length_cons, List.length_nil]; omega) (fun m2 t2 k2 => am_ri_i (h m2 (by rw [List.append_assoc] at t2; exact t2) (am_kp_t k1 k2))))), fun q => absurd rfl q⟩⟩⟩
theorem sp_257_3 {d : Nat} (hK : K < 8) (hi : i < 50) (hb : b = nI i) (hk : mi 104 i = nI K) (ht : am_trm es mi) (hl : es.length < 55) (h : ∀ mi2, am_trm (es ++ am_mgE K 3) mi2 → am_kp am_Ftm mi mi2 → R (some (.int (am_mgV K 3 b x))) mi2 ml) : am_call (d + 8) 257 [.ref 78, .int b, .int (nI 3), .int x] mi ml R := by
  exact bk_257 ⟨fun q => absurd q (by decide), fun _ => ⟨fun q => absurd q (by decide), fun _ => ⟨fun q => absurd q (by decide), fun _ => ⟨fun _ => sp_255 ht (by omega) (fun m1 t1 k1 => am_rv_i (sp_257_2 hK hi hb ((k1 104 i rfl).trans hk) t1 (by simp only [List.length_append, List.length_cons, List.length_nil]; omega) (fun m2 t2 k2 => am_ri_i (h m2 (by rw [List.append_assoc] at t2; exact t2) (am_kp_t k1 k2))))), fun q => absurd rfl q⟩⟩⟩⟩
theorem sp_257_4 {d : Nat} (hK : K < 8) (hi : i < 50) (hb : b = nI i) (hk : mi 104 i = nI K) (ht : am_trm es mi) (hl : es.length < 55) (h : ∀ mi2, am_trm (es ++ am_mgE K 4) mi2 → am_kp am_Ftm mi mi2 → R (some (.int (am_mgV K 4 b x))) mi2 ml) : am_call (d + 8) 257 [.ref 78, .int b, .int (nI 4), .int x] mi ml R := by
  exact bk_257 ⟨fun q => absurd q (by decide), fun _ => ⟨fun q => absurd q (by decide), fun _ => ⟨fun q => absurd q (by decide), fun _ => ⟨fun q => absurd q (by decide), fun _ => ⟨fun _ => sp_254_4 (am_ri_i (sp_257_1 hK hi hb hk ht (by omega) (fun m2 t2 k2 => am_ri_i (h m2 t2 k2)))), fun q => absurd rfl q⟩⟩⟩⟩⟩
theorem sp_257_5 {d : Nat} (hK : K < 8) (hi : i < 50) (hb : b = nI i) (hk : mi 104 i = nI K) (ht : am_trm es mi) (hl : es.length < 55) (h : ∀ mi2, am_trm (es ++ am_mgE K 5) mi2 → am_kp am_Ftm mi mi2 → R (some (.int (am_mgV K 5 b x))) mi2 ml) : am_call (d + 9) 257 [.ref 78, .int b, .int (nI 5), .int x] mi ml R := by
  exact bk_257 ⟨fun q => absurd q (by decide), fun _ => ⟨fun q => absurd q (by decide), fun _ => ⟨fun q => absurd q (by decide), fun _ => ⟨fun q => absurd q (by decide), fun _ => ⟨fun q => absurd q (by decide), fun _ => ⟨fun _ => sp_254_5 (am_ri_i (sp_257_3 hK hi hb hk ht (by omega) (fun m2 t2 k2 => am_ri_i (h m2 t2 k2)))), fun q => absurd rfl q⟩⟩⟩⟩⟩⟩
theorem sp_257_6 {d : Nat} (hK : K < 8) (hi : i < 50) (hb : b = nI i) (hk : mi 104 i = nI K) (ht : am_trm es mi) (hl : es.length < 55) (h : ∀ mi2, am_trm (es ++ am_mgE K 6) mi2 → am_kp am_Ftm mi mi2 → R (some (.int (am_mgV K 6 b x))) mi2 ml) : am_call (d + 7) 257 [.ref 78, .int b, .int (nI 6), .int x] mi ml R := by
  exact bk_257 ⟨fun q => absurd q (by decide), fun _ => ⟨fun q => absurd q (by decide), fun _ => ⟨fun q => absurd q (by decide), fun _ => ⟨fun q => absurd q (by decide), fun _ => ⟨fun q => absurd q (by decide), fun _ => ⟨fun q => absurd q (by decide), fun _ => ⟨fun _ => sp_254_6 (am_ri_i (sp_257_0 hK hi hb hk ht (by omega) (fun m2 t2 k2 => am_ri_i (h m2 t2 k2)))), fun q => absurd rfl q⟩⟩⟩⟩⟩⟩⟩
theorem sp_257_7 {d : Nat} (hK : K < 8) (hi : i < 50) (hb : b = nI i) (hk : mi 104 i = nI K) (ht : am_trm es mi) (hl : es.length < 50) (h : ∀ mi2, am_trm (es ++ am_mgE K 7) mi2 → am_kp am_Ftm mi mi2 → R (some (.int (am_mgV K 7 b x))) mi2 ml) : am_call (d + 9) 257 [.ref 78, .int b, .int (nI 7), .int x] mi ml R := by
  have hb2 : b.toNatClampNeg = i := by rw [hb]; exact nI_clamp (by omega)
  have hv : vp_in b 50 := by rw [hb]; exact vp_in_nI hi (by omega)
  have ol := am_opE_l K hK
  refine bk_257 ⟨fun q => absurd q (by decide), fun _ => ⟨fun q => absurd q (by decide), fun _ => ⟨fun q => absurd q (by decide), fun _ => ⟨fun q => absurd q (by decide), fun _ => ⟨fun q => absurd q (by decide), fun _ => ⟨fun q => absurd q (by decide), fun _ => ⟨fun q => absurd q (by decide), fun _ => ⟨fun _ => sp_255 ht (by omega) (fun m1 t1 k1 => am_rv_i (sp_257_4 hK hi hb ((k1 104 i rfl).trans hk) t1 (by simp only [List.length_append, List.length_cons, List.length_nil]; omega) (fun m2 t2 k2 => am_ri_i ⟨hv, ?_⟩))), fun q => absurd rfl q⟩⟩⟩⟩⟩⟩⟩⟩
  rw [hb2, k2 104 i rfl, k1 104 i rfl, hk]
  have e4 : am_mgE K 4 = 10 :: am_opE K := rfl
  rw [e4] at t2
  exact sp_258 hK hK hi hb (by rw [k2 104 i rfl, k1 104 i rfl, hk]) t2 (by simp only [List.length_append, List.length_cons, List.length_nil]; omega) (fun m3 t3 k3 => am_ri_i (h m3 (by rw [List.append_assoc, List.append_assoc] at t3; exact t3) (am_kp_t k1 (am_kp_t k2 k3))))
theorem sp_257 {d k : Nat} (hk8 : k < 8) (hK : K < 8) (hi : i < 50) (hb : b = nI i) (hk : mi 104 i = nI K) (ht : am_trm es mi) (hl : es.length < 50) (h : ∀ mi2, am_trm (es ++ am_mgE K k) mi2 → am_kp am_Ftm mi mi2 → R (some (.int (am_mgV K k b x))) mi2 ml) : am_call (d + 9) 257 [.ref 78, .int b, .int (nI k), .int x] mi ml R := by
  rcases (show k = 0 ∨ k = 1 ∨ k = 2 ∨ k = 3 ∨ k = 4 ∨ k = 5 ∨ k = 6 ∨ k = 7 by omega) with e | e | e | e | e | e | e | e <;> subst e
  · exact sp_257_0 hK hi hb hk ht (by omega) h
  · exact sp_257_1 hK hi hb hk ht (by omega) h
  · exact sp_257_2 hK hi hb hk ht (by omega) h
  · exact sp_257_3 hK hi hb hk ht (by omega) h
  · exact sp_257_4 hK hi hb hk ht (by omega) h
  · exact sp_257_5 hK hi hb hk ht (by omega) h
  · exact sp_257_6 hK hi hb hk ht (by omega) h
  · exact sp_257_7 hK hi hb hk ht (by omega) h
theorem sp_259_0 {d : Nat} (hK : K < 8) (hi : i < 50) (hb : b = nI i) (hk : mi 104 i = nI K) (ht : am_trm es mi) (hl : es.length < 40) (h : ∀ mi2, am_trm (es ++ am_mtE K 0) mi2 → am_kp am_Ftm mi mi2 → R (some (.int (am_mtV K 0 b x))) mi2 ml) : am_call (d + 10) 259 [.ref 78, .int b, .int (nI 0), .int x] mi ml R := by
  have hb2 : b.toNatClampNeg = i := by rw [hb]; exact nI_clamp (by omega)
  have hv : vp_in b 50 := by rw [hb]; exact vp_in_nI hi (by omega)
  have gl := am_mgE_l K hK K hK
  refine bk_259 ⟨fun _ => sp_255 ht (by omega) (fun m1 t1 k1 => am_rv_i ⟨hv, ?_⟩), fun q => absurd rfl q⟩
  · rw [hb2, k1 104 i rfl, hk]
    refine sp_257 hK hK hi hb ((k1 104 i rfl).trans hk) t1 (by simp only [List.length_append, List.length_cons, List.length_nil]; omega) (fun m2 t2 k2 => am_ri_i ⟨hv, ?_⟩)
    rw [k2 104 i rfl, k1 104 i rfl, hk]
    exact sp_258 hK hK hi hb (by rw [k2 104 i rfl, k1 104 i rfl, hk]) t2 (by simp only [List.length_append, List.length_cons, List.length_nil]; omega) (fun m3 t3 k3 => am_ri_i (h m3 (by rw [List.append_assoc, List.append_assoc] at t3; exact t3) (am_kp_t k1 (am_kp_t k2 k3))))
theorem sp_259_1 {d : Nat} (hK : K < 8) (hi : i < 50) (hb : b = nI i) (hk : mi 104 i = nI K) (ht : am_trm es mi) (hl : es.length < 40) (h : ∀ mi2, am_trm (es ++ am_mtE K 1) mi2 → am_kp am_Ftm mi mi2 → R (some (.int (am_mtV K 1 b x))) mi2 ml) : am_call (d + 11) 259 [.ref 78, .int b, .int (nI 1), .int x] mi ml R := by
  exact bk_259 ⟨fun q => absurd q (by decide), fun _ => ⟨fun q => absurd q (by decide), fun _ => ⟨fun q => absurd q (by decide), fun _ => sp_254_1 (am_ri_i (sp_259_0 hK hi hb hk ht (by omega) (fun m2 t2 k2 => am_ri_i (h m2 t2 k2))))⟩⟩⟩
theorem sp_259_2 {d : Nat} (hK : K < 8) (hi : i < 50) (hb : b = nI i) (hk : mi 104 i = nI K) (ht : am_trm es mi) (hl : es.length < 40) (h : ∀ mi2, am_trm (es ++ am_mtE K 2) mi2 → am_kp am_Ftm mi mi2 → R (some (.int (am_mtV K 2 b x))) mi2 ml) : am_call (d + 11) 259 [.ref 78, .int b, .int (nI 2), .int x] mi ml R := by
  exact bk_259 ⟨fun q => absurd q (by decide), fun _ => ⟨fun q => absurd q (by decide), fun _ => ⟨fun q => absurd q (by decide), fun _ => sp_254_2 (am_ri_i (sp_259_0 hK hi hb hk ht (by omega) (fun m2 t2 k2 => am_ri_i (h m2 t2 k2))))⟩⟩⟩
theorem sp_259_6 {d : Nat} (hK : K < 8) (hi : i < 50) (hb : b = nI i) (hk : mi 104 i = nI K) (ht : am_trm es mi) (hl : es.length < 40) (h : ∀ mi2, am_trm (es ++ am_mtE K 6) mi2 → am_kp am_Ftm mi mi2 → R (some (.int (am_mtV K 6 b x))) mi2 ml) : am_call (d + 11) 259 [.ref 78, .int b, .int (nI 6), .int x] mi ml R := by
  exact bk_259 ⟨fun q => absurd q (by decide), fun _ => ⟨fun q => absurd q (by decide), fun _ => ⟨fun q => absurd q (by decide), fun _ => sp_254_6 (am_ri_i (sp_259_0 hK hi hb hk ht (by omega) (fun m2 t2 k2 => am_ri_i (h m2 t2 k2))))⟩⟩⟩
theorem sp_259_3 {d : Nat} (hK : K < 8) (hi : i < 50) (hb : b = nI i) (hk : mi 104 i = nI K) (ht : am_trm es mi) (hl : es.length < 40) (h : ∀ mi2, am_trm (es ++ am_mtE K 3) mi2 → am_kp am_Ftm mi mi2 → R (some (.int (am_mtV K 3 b x))) mi2 ml) : am_call (d + 12) 259 [.ref 78, .int b, .int (nI 3), .int x] mi ml R := by
  exact bk_259 ⟨fun q => absurd q (by decide), fun _ => ⟨fun q => absurd q (by decide), fun _ => ⟨fun q => absurd q (by decide), fun _ => sp_254_3 (am_ri_i (sp_259_2 hK hi hb hk ht (by omega) (fun m2 t2 k2 => am_ri_i (h m2 t2 k2))))⟩⟩⟩
theorem sp_259_4 {d : Nat} (hK : K < 8) (hi : i < 50) (hb : b = nI i) (hk : mi 104 i = nI K) (ht : am_trm es mi) (hl : es.length < 40) (h : ∀ mi2, am_trm (es ++ am_mtE K 4) mi2 → am_kp am_Ftm mi mi2 → R (some (.int (am_mtV K 4 b x))) mi2 ml) : am_call (d + 12) 259 [.ref 78, .int b, .int (nI 4), .int x] mi ml R := by
  exact bk_259 ⟨fun q => absurd q (by decide), fun _ => ⟨fun q => absurd q (by decide), fun _ => ⟨fun q => absurd q (by decide), fun _ => sp_254_4 (am_ri_i (sp_259_1 hK hi hb hk ht (by omega) (fun m2 t2 k2 => am_ri_i (h m2 t2 k2))))⟩⟩⟩
theorem sp_259_5 {d : Nat} (hK : K < 8) (hi : i < 50) (hb : b = nI i) (hk : mi 104 i = nI K) (ht : am_trm es mi) (hl : es.length < 39) (h : ∀ mi2, am_trm (es ++ am_mtE K 5) mi2 → am_kp am_Ftm mi mi2 → R (some (.int (am_mtV K 5 b x))) mi2 ml) : am_call (d + 13) 259 [.ref 78, .int b, .int (nI 5), .int x] mi ml R := by
  exact bk_259 ⟨fun q => absurd q (by decide), fun _ => ⟨fun _ => sp_255 ht (by omega) (fun m1 t1 k1 => am_rv_i (sp_259_3 hK hi hb ((k1 104 i rfl).trans hk) t1 (by simp only [List.length_append, List.length_cons, List.length_nil]; omega) (fun m2 t2 k2 => am_ri_i (h m2 (by rw [List.append_assoc] at t2; exact t2) (am_kp_t k1 k2))))), fun q => absurd rfl q⟩⟩
theorem sp_259_7 {d : Nat} (hK : K < 8) (hi : i < 50) (hb : b = nI i) (hk : mi 104 i = nI K) (ht : am_trm es mi) (hl : es.length < 39) (h : ∀ mi2, am_trm (es ++ am_mtE K 7) mi2 → am_kp am_Ftm mi mi2 → R (some (.int (am_mtV K 7 b x))) mi2 ml) : am_call (d + 13) 259 [.ref 78, .int b, .int (nI 7), .int x] mi ml R := by
  exact bk_259 ⟨fun q => absurd q (by decide), fun _ => ⟨fun q => absurd q (by decide), fun _ => ⟨fun _ => sp_255 ht (by omega) (fun m1 t1 k1 => am_rv_i (sp_259_4 hK hi hb ((k1 104 i rfl).trans hk) t1 (by simp only [List.length_append, List.length_cons, List.length_nil]; omega) (fun m2 t2 k2 => am_ri_i (h m2 (by rw [List.append_assoc] at t2; exact t2) (am_kp_t k1 k2))))), fun q => absurd rfl q⟩⟩⟩
theorem sp_259 {d k : Nat} (hk8 : k < 8) (hK : K < 8) (hi : i < 50) (hb : b = nI i) (hk : mi 104 i = nI K) (ht : am_trm es mi) (hl : es.length < 39) (h : ∀ mi2, am_trm (es ++ am_mtE K k) mi2 → am_kp am_Ftm mi mi2 → R (some (.int (am_mtV K k b x))) mi2 ml) : am_call (d + 13) 259 [.ref 78, .int b, .int (nI k), .int x] mi ml R := by
  rcases (show k = 0 ∨ k = 1 ∨ k = 2 ∨ k = 3 ∨ k = 4 ∨ k = 5 ∨ k = 6 ∨ k = 7 by omega) with e | e | e | e | e | e | e | e <;> subst e
  · exact sp_259_0 hK hi hb hk ht (by omega) h
  · exact sp_259_1 hK hi hb hk ht (by omega) h
  · exact sp_259_2 hK hi hb hk ht (by omega) h
  · exact sp_259_3 hK hi hb hk ht (by omega) h
  · exact sp_259_4 hK hi hb hk ht (by omega) h
  · exact sp_259_5 hK hi hb hk ht (by omega) h
  · exact sp_259_6 hK hi hb hk ht (by omega) h
  · exact sp_259_7 hK hi hb hk ht (by omega) h
end SP26
