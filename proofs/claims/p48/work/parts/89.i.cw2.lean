/-! the reference's constructor -/
section SP84a
variable {p : Program} {l : Launch} {e : Env} {Rm : Room} {s : State} {m : MethodId} {args : Array Value} {below : List Frame} {meth : Method} {c : Code} {Q : State → Prop}
variable {G : am_G} {B : Nat} {y : MethodName} {bc : ByteArray} {nL : Nat} {rt : Option FieldType} {pc n cs ss : Nat} {ls : Array Slot} {st : List Value} {mi : am_MI} {ml : am_ML}
theorem cq_istn (F : cm_fr p s m args meth c G y bc nL rt) {k : Fin 4} {i : Nat} {x : Int32} {lv lv2 : List (Nat × Value)} (hl : lv_has ls nL lv) (hi : i < nL) (hki : (k : Nat) = i) (hdg : decode bc pc = .ok (.istore_n k, 1))
    (kk : ∀ ls2, lv_has ls2 nL lv2 → cm_go p l e Rm s m args below meth c Q G B (pc + 1) ls2 st n mi ml cs ss) (he : (i, Value.int x) :: lv.filter (fun q => !(q.1 == i) && !(q.1 + 1 == i && q.2.category == 2)) = lv2 := by rfl) : cm_go p l e Rm s m args below meth c Q G B pc ls (.int x :: st) n mi ml cs ss :=
  fun H locs g1 g2 => lv_istore_n F.1 F.2.1 hdg hki hl hi he (fun ls2 g => kk ls2 g H locs g1 g2)
theorem cq_iinc (F : cm_fr p s m args meth c G y bc nL rt) {i k : Nat} {w : Int} {x v : Int32} {lv lv2 : List (Nat × Value)} (hl : lv_has ls nL lv) (hk : lv[k]? = some (i, .int x)) (hv : x + Int32.ofInt w = v) (hi : i < nL) (he : (i, Value.int v) :: lv.filter (fun q => !(q.1 == i) && !(q.1 + 1 == i && q.2.category == 2)) = lv2) (hdg : decode bc pc = .ok (.iinc i w, 3))
    (kk : ∀ ls2, lv_has ls2 nL lv2 → cm_go p l e Rm s m args below meth c Q G B (pc + 3) ls2 st n mi ml cs ss) : cm_go p l e Rm s m args below meth c Q G B pc ls st n mi ml cs ss :=
  fun H locs g1 g2 => lv_iinc F.1 F.2.1 hdg hl hk hv hi he (fun ls2 g => kk ls2 g H locs g1 g2)
theorem cq_icy (F : cm_fr p s m args meth c G y bc nL rt) {x z : Int32} {off : Int} {tgt : Nat} (hq : z ≤ x) (hdg : decode bc pc = .ok (.if_icmp .ge off, 3)) (ht : (pc : Int) + off = (tgt : Int)) (kk : cm_go p l e Rm s m args below meth c Q G B tgt ls st n mi ml cs ss) : cm_go p l e Rm s m args below meth c Q G B pc ls (.int z :: .int x :: st) n mi ml cs ss :=
  fun H locs g1 g2 => lv_icmp_ge F.1 F.2.1 hdg ht (fun _ => kk H locs g1 g2) (fun q => absurd hq q)
theorem cq_icn (F : cm_fr p s m args meth c G y bc nL rt) {x z : Int32} {off : Int} {tgt : Nat} (hq : ¬ z ≤ x) (hdg : decode bc pc = .ok (.if_icmp .ge off, 3)) (ht : (pc : Int) + off = (tgt : Int)) (kk : cm_go p l e Rm s m args below meth c Q G B (pc + 3) ls st n mi ml cs ss) : cm_go p l e Rm s m args below meth c Q G B pc ls (.int z :: .int x :: st) n mi ml cs ss :=
  fun H locs g1 g2 => lv_icmp_ge F.1 F.2.1 hdg ht (fun q => absurd q hq) (fun _ => kk H locs g1 g2)
end SP84a
section SP84
variable {l : Launch} {G : am_G} {B : Nat} {mi : am_MI} {ml : am_ML}end SP84
