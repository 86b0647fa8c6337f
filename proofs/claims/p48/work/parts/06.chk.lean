/-! the tables hold: a check of each row, decided -/
abbrev am_mrow : Type := MethodName × ByteArray × Nat × Option FieldType × Bool × Nat × Nat
def am_m0 : am_mrow := (⟨"", "", ""⟩, ⟨#[]⟩, 0, none, false, 0, 99)
def am_m (f : Nat) : am_mrow := am_nth am_m0 am_ms f
def am_tab (f : Nat) : List am_row := am_nth [] am_tabs f
def am_pcs (t : List am_row) (i : Nat) : Nat := match t[i]? with
  | some r => r.1
  | none => 0
def am_isr (d : String) : Bool := !(d == "I" || d == "Z")
def am_rko : Option FieldType → Nat
  | none => 0
  | some .long => 2
  | some (.object _) => 3
  | some (.array _) => 3
  | some _ => 1
def am_stn : Nat → String × String
  | 114 => ("DoorsForThree$Calendar", "LEAST")
  | 115 => ("DoorsForThree$Calendar", "MOST")
  | _ => ("DoorsForThree$Pictures", "ABOVE")
def am_sfn : Nat → String × String
  | 0 => ("value", "[B")
  | _ => ("coder", "B")
def am_host : String := "DoorsForThree"
def am_chk (y : MethodName) (bc : ByteArray) (nL : Nat) (rt : Option FieldType) (lk : List Cond) (t : List am_row) (i : Nat) (r : am_row) : Bool :=
  match r with
  | (pc, ins, len, k1, k2, k3, v, sw) =>
    decide (decode bc pc = .ok (ins, len)) && (match ins with
    | .aload _ => len == 2 && am_pcs t (i + 1) == pc + 2
    | .iload _ => len == 2 && am_pcs t (i + 1) == pc + 2
    | .lload _ => len == 2 && am_pcs t (i + 1) == pc + 2
    | .astore n => len == 2 && am_pcs t (i + 1) == pc + 2 && decide (n < nL)
    | .istore n => len == 2 && am_pcs t (i + 1) == pc + 2 && decide (n < nL)
    | .lstore n => len == 2 && am_pcs t (i + 1) == pc + 2 && decide (n + 1 < nL)
    | .astore_n n => len == 1 && am_pcs t (i + 1) == pc + 1 && decide ((n : Nat) < nL)
    | .istore_n n => len == 1 && am_pcs t (i + 1) == pc + 1 && decide ((n : Nat) < nL)
    | .lstore_n n => len == 1 && am_pcs t (i + 1) == pc + 1 && decide ((n : Nat) + 1 < nL)
    | .iinc n c => len == 3 && am_pcs t (i + 1) == pc + 3 && decide (n < nL) && decide (Int32.ofInt c = v)
    | .iconst c => len == 1 && am_pcs t (i + 1) == pc + 1 && decide (Int32.ofInt c = v)
    | .bipush c => len == 2 && am_pcs t (i + 1) == pc + 2 && decide ((Int8.ofInt c).toInt32 = v)
    | .sipush c => len == 3 && am_pcs t (i + 1) == pc + 3 && decide ((Int16.ofInt c).toInt32 = v)
    | .ldc q => len == 2 && am_pcs t (i + 1) == pc + 2 && (match k2 with
      | 0 => decide (Cond.constant y.cls q v ∈ lk)
      | _ => y.cls == "DoorsForThree$Law" && am_strs.any fun e => e.1 == q && e.2.2 == k1)
    | .ldc_w q => len == 3 && am_pcs t (i + 1) == pc + 3 && decide (Cond.constant y.cls q v ∈ lk)
    | .ldc2_w q => len == 3 && am_pcs t (i + 1) == pc + 3 && decide (Cond.constantLong y.cls q (am_lc k1) ∈ lk)
    | .lconst c => len == 1 && am_pcs t (i + 1) == pc + 1 && decide (Int64.ofNat (c : Nat) = am_lc k1)
    | .goto off => len == 3 && decide ((pc : Int) + off = (am_pcs t k1 : Int))
    | .ifCond _ off => len == 3 && am_pcs t (i + 1) == pc + 3 && decide ((pc : Int) + off = (am_pcs t k1 : Int))
    | .if_icmp _ off => len == 3 && am_pcs t (i + 1) == pc + 3 && decide ((pc : Int) + off = (am_pcs t k1 : Int))
    | .tableswitch d lo hi offs => decide ((pc : Int) + d = (am_pcs t k1 : Int)) && sw.length == offs.size && decide (hi + 1 = lo + (offs.size : Int)) &&
        (List.range offs.size).all fun j => match sw[j]?, offs[j]? with
          | some (w, tj), some o => decide (w.toInt = lo + (j : Int)) && decide ((pc : Int) + o = (am_pcs t tj : Int))
          | _, _ => false
    | .lookupswitch d ps => decide ((pc : Int) + d = (am_pcs t k1 : Int)) && sw.length == ps.size && ((ps.toList.zip (ps.toList.drop 1)).all fun (a, next) => a.1 < next.1) &&
        (List.range ps.size).all fun j => match sw[j]?, ps[j]? with
          | some (w, tj), some o => decide (w.toInt = o.1) && decide ((pc : Int) + o.2 = (am_pcs t tj : Int))
          | _, _ => false
    | .getfield q => len == 3 && am_pcs t (i + 1) == pc + 3 && ((k1 == 100 && decide (Cond.fieldLink y.cls q "java/lang/String" (am_sfn k2).1 (am_sfn k2).2 ∈ lk) && ((k2 == 0 && k3 == 2) || (k2 == 1 && k3 == 0))) || match vwCl[k1]? with
      | some (C, T, N) => decide (k2 < N) && (T k2).1 == C && (decide (Cond.fieldLink y.cls q C (T k2).2.1 (T k2).2.2.1 ∈ lk) || decide (Cond.fieldLinkNest y.cls q C (T k2).2.1 (T k2).2.2.1 am_host ∈ lk)) && (am_isr (T k2).2.2.1 == (k3 == 2))
      | none => false)
    | .putfield q => len == 3 && am_pcs t (i + 1) == pc + 3 && (match vwCl[k1]? with
      | some (C, T, N) => decide (k2 < N) && (T k2).1 == C && (T k2).2.2.2 == false && decide (Cond.fieldLink y.cls q C (T k2).2.1 (T k2).2.2.1 ∈ lk) && (((T k2).2.2.1 == "I" && k3 == 0) || ((T k2).2.2.1 == "Z" && k3 == 1))
      | none => false)
    | .getstatic q => len == 3 && am_pcs t (i + 1) == pc + 3 && (match k2 with
      | 2 => decide (Cond.fieldLink y.cls q "jdk/internal/util/Preconditions" "SIOOBE_FORMATTER" "Ljava/util/function/BiFunction;" ∈ lk)
      | 0 => (k1 == 114 || k1 == 115 || k1 == 116) && decide (Cond.fieldLink y.cls q (am_stn k1).1 (am_stn k1).2 "[I" ∈ lk)
      | _ => v == 1 && decide (Cond.fieldLink y.cls q "java/lang/String" "COMPACT_STRINGS" "Z" ∈ lk))
    | .invokevirtual q => len == 3 && am_pcs t (i + 1) == pc + 3 && (match k1 with
      | 1000 => false
      | 1001 => false
      | 1002 => false
      | 2001 => true
      | _ => decide (k1 < am_NM) && decide (Cond.methodLink y.cls q (am_m k1).1 ∈ lk) && (am_m k1).2.2.2.2.1 == false && k2 == (am_m k1).2.2.2.2.2.1 + 1 && k3 == am_rko (am_m k1).2.2.2.1)
    | .invokestatic q => len == 3 && am_pcs t (i + 1) == pc + 3 && (match k1 with
      | 1000 => decide (Cond.methodLink y.cls q Lib.Math.max.name ∈ lk)
      | 1001 => decide (Cond.methodLink y.cls q Lib.Math.min.name ∈ lk)
      | 1002 => decide (Cond.methodLink y.cls q arraycopyName ∈ lk)
      | 2001 => true
      | _ => decide (k1 < am_NM) && decide (Cond.methodLink y.cls q (am_m k1).1 ∈ lk) && (am_m k1).2.2.2.2.1 == true && k2 == (am_m k1).2.2.2.2.2.1 && k3 == am_rko (am_m k1).2.2.2.1)
    | .ireturn => len == 1 && (match k1 with
      | 0 => decide (rt = some .int)
      | 2 => decide (rt = some .char)
      | _ => decide (rt = some .boolean) || decide (rt = some .byte))
    | .lreturn => len == 1 && decide (rt = some .long)
    | .areturn => len == 1 && (match rt with
      | some (.object _) => true
      | _ => false)
    | .return_ => len == 1 && decide (rt = none)
    | _ => len == 1 && am_pcs t (i + 1) == pc + 1)
def am_chks (y : MethodName) (bc : ByteArray) (nL : Nat) (rt : Option FieldType) (lk : List Cond) (t : List am_row) : Nat → List am_row → Bool
  | _, [] => true
  | i, r :: l => am_chk y bc nL rt lk t i r && am_chks y bc nL rt lk t (i + 1) l
def am_okt (f : Nat) : Bool := match am_m f with
  | (y, bc, nL, rt, _, _, lk) => am_chks y bc nL rt (am_lks lk) (am_tab f) 0 (am_tab f) && am_pcs (am_tab f) 0 == 0
