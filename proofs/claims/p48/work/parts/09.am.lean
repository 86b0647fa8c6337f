/-! the small machine: one instruction, one method -/
/-- the length of an array cell; the script's stands in the memory -/
def am_len (mi : am_MI) (a : Nat) : Nat := match am_kd a with
  | 6 => (mi a 100000).toNatClampNeg
  | 9 => (mi a 100000).toNatClampNeg
  | 10 => (mi a 100000).toNatClampNeg
  | _ => am_n a
def am_ui (m : am_MI) (a j : Nat) (x : Int32) : am_MI := fun b i => if b = a ∧ i = j then x else m b i
def am_ul (m : am_ML) (a j : Nat) (x : Int64) : am_ML := fun b i => if b = a ∧ i = j then x else m b i
def am_ci (m : am_MI) (a0 sp a1 dp n : Nat) : am_MI := fun b i => if b = a1 ∧ dp ≤ i ∧ i < dp + n then m a0 (sp + (i - dp)) else m b i
def am_cj (m : am_ML) (a0 sp a1 dp n : Nat) : am_ML := fun b i => if b = a1 ∧ dp ≤ i ∧ i < dp + n then m a0 (sp + (i - dp)) else m b i
def am_lg : am_L → Nat → Option Value
  | [], _ => none
  | v :: _, 0 => v
  | _ :: l, i + 1 => am_lg l i
def am_ls : am_L → Nat → Option Value → am_L
  | [], _, _ => []
  | _ :: l, 0, v => v :: l
  | a :: l, i + 1, v => a :: am_ls l i v
/-- a place is lost if a long begins there -/
def am_kl (lo : am_L) (i : Nat) : am_L := match am_lg lo i with
  | some (.long _) => am_ls lo i none
  | some (.double _) => am_ls lo i none
  | _ => lo
def am_s1 (lo : am_L) (i : Nat) (v : Value) : am_L := match i with
  | 0 => am_ls lo 0 (some v)
  | i + 1 => am_ls (am_kl lo i) (i + 1) (some v)
def am_s2 (lo : am_L) (i : Nat) (v : Value) : am_L := match i with
  | 0 => am_ls (am_ls lo 1 none) 0 (some v)
  | i + 1 => am_ls (am_ls (am_kl lo i) (i + 2) none) (i + 1) (some v)
def am_le : am_L → am_L → Prop
  | [], _ => True
  | none :: l, _ :: l' => am_le l l'
  | some v :: l, o :: l' => o = some v ∧ am_le l l'
  | _ :: _, [] => False
def am_in : Nat → List Value → am_L
  | n, [] => List.replicate n none
  | n, .long x :: r => some (.long x) :: none :: am_in (n - 2) r
  | n, .double x :: r => some (.double x) :: none :: am_in (n - 2) r
  | n, v :: r => some v :: am_in (n - 1) r
def am_rem (x y : Int32) : Int32 := x - x / y * y
def am_shl (x y : Int32) : Int32 := x <<< (y &&& 31)
def am_shr (x y : Int32) : Int32 := x >>> (y &&& 31)
def am_ushr (x y : Int32) : Int32 := (x.toUInt32 >>> (y.toUInt32 &&& Int32.toUInt32 31)).toInt32
def am_lshl (x : Int64) (y : Int32) : Int64 := x <<< (y.toInt64 &&& 63)
def am_max (x y : Int32) : Int32 := if x < y then y else x
def am_min (x y : Int32) : Int32 := if y < x then y else x
def am_i2c (x : Int32) : Int32 := (x.toUInt32 % 65536).toInt32
def am_cat : List Value → Nat
  | [] => 0
  | v :: l => v.category + am_cat l
def am_rv (k : am_MI → am_ML → Prop) : am_R := fun r a b => r = none ∧ k a b
def am_ri (k : Int32 → am_MI → am_ML → Prop) : am_R := fun r a b => ∃ x, r = some (.int x) ∧ k x a b
def am_rj (k : Int64 → am_MI → am_ML → Prop) : am_R := fun r a b => ∃ x, r = some (.long x) ∧ k x a b
def am_rr (k : Nat → am_MI → am_ML → Prop) : am_R := fun r a b => ∃ x, r = some (.ref x) ∧ k x a b
/-- what a literal place shows by itself -/
def am_need (b : Bool) (P : Prop) : Prop := match b with
  | true => P
  | false => False
section AMI
variable (K : am_K) (i : Nat) (lo : am_L) (st : List Value) (mi : am_MI) (ml : am_ML)
def am_ldI (n : Nat) : Prop := match am_lg lo n with
  | some (.int x) => K (i + 1) lo (.int x :: st) mi ml
  | _ => False
def am_ldJ (n : Nat) : Prop := match am_lg lo n with
  | some (.long x) => K (i + 1) lo (.long x :: st) mi ml
  | _ => False
def am_ldA (n : Nat) : Prop := match am_lg lo n with
  | some (.ref x) => K (i + 1) lo (.ref x :: st) mi ml
  | _ => False
def am_stI (n : Nat) : Prop := match st with
  | .int x :: st => K (i + 1) (am_s1 lo n (.int x)) st mi ml
  | _ => False
def am_stJ (n : Nat) : Prop := match st with
  | .long x :: st => K (i + 1) (am_s2 lo n (.long x)) st mi ml
  | _ => False
def am_stA (n : Nat) : Prop := match st with
  | .ref x :: st => K (i + 1) (am_s1 lo n (.ref x)) st mi ml
  | _ => False
def am_inc (n : Nat) (v : Int32) : Prop := match am_lg lo n with
  | some (.int x) => K (i + 1) (am_s1 lo n (.int (x + v))) st mi ml
  | _ => False
def am_b2 (f : Int32 → Int32 → Int32) : Prop := match st with
  | .int y :: .int x :: st => K (i + 1) lo (.int (f x y) :: st) mi ml
  | _ => False
def am_bd (f : Int32 → Int32 → Int32) : Prop := match st with
  | .int y :: .int x :: st => ¬ y = 0 ∧ K (i + 1) lo (.int (f x y) :: st) mi ml
  | _ => False
def am_u1 (f : Int32 → Int32) : Prop := match st with
  | .int x :: st => K (i + 1) lo (.int (f x) :: st) mi ml
  | _ => False
def am_j2 (f : Int64 → Int64 → Int64) : Prop := match st with
  | .long y :: .long x :: st => K (i + 1) lo (.long (f x y) :: st) mi ml
  | _ => False
def am_br (t : Nat) (c : Int32 → Prop) : Prop := match st with
  | .int x :: st => (c x → K t lo st mi ml) ∧ (¬ c x → K (i + 1) lo st mi ml)
  | _ => False
def am_b2r (t : Nat) (c : Int32 → Int32 → Prop) : Prop := match st with
  | .int y :: .int x :: st => (c x y → K t lo st mi ml) ∧ (¬ c x y → K (i + 1) lo st mi ml)
  | _ => False
def am_swt (x : Int32) (dflt : Nat) : List (Int32 × Nat) → Prop
  | [] => K dflt lo st mi ml
  | (v, t) :: r => (x = v → K t lo st mi ml) ∧ (¬ x = v → am_swt x dflt r)
def am_sw (dflt : Nat) (sw : List (Int32 × Nat)) : Prop := match st with
  | .int x :: st => am_swt K lo st mi ml x dflt sw
  | _ => False
def am_get (ci slot kind : Nat) : Prop := match st with
  | .ref a :: st => am_need (am_oc a == ci) (match kind with
      | 2 => K (i + 1) lo (.ref (am_rf a slot) :: st) mi ml
      | _ => K (i + 1) lo (.int (mi a slot) :: st) mi ml)
  | _ => False
def am_put (ci slot kind : Nat) : Prop := match st with
  | .int x :: .ref a :: st => am_need (am_oc a == ci) (match kind with
      | 0 => K (i + 1) lo st (am_ui mi a slot x) ml
      | 1 => (x = 0 ∨ x = 1) ∧ K (i + 1) lo st (am_ui mi a slot x) ml
      | _ => False)
  | _ => False
def am_iald : Prop := match st with
  | .int j :: .ref a :: st => am_need (am_kd a == 2 || am_kd a == 5 || am_kd a == 6 || am_kd a == 10) (vp_in j (am_len mi a) ∧ K (i + 1) lo (.int (mi a j.toNatClampNeg) :: st) mi ml)
  | _ => False
def am_iast : Prop := match st with
  | .int x :: .int j :: .ref a :: st => am_need (am_kd a == 2 || am_kd a == 10) (vp_in j (am_len mi a) ∧ K (i + 1) lo st (am_ui mi a j.toNatClampNeg x) ml)
  | _ => False
def am_bald : Prop := match st with
  | .int j :: .ref a :: st => am_need (am_kd a == 8 || am_kd a == 9) (vp_in j (am_len mi a) ∧ K (i + 1) lo (.int (mi a j.toNatClampNeg) :: st) mi ml)
  | _ => False
def am_lald : Prop := match st with
  | .int j :: .ref a :: st => am_need (am_kd a == 3) (vp_in j (am_n a) ∧ K (i + 1) lo (.long (ml a j.toNatClampNeg) :: st) mi ml)
  | _ => False
def am_last : Prop := match st with
  | .long x :: .int j :: .ref a :: st => am_need (am_kd a == 3) (vp_in j (am_n a) ∧ K (i + 1) lo st mi (am_ul ml a j.toNatClampNeg x))
  | _ => False
def am_aald : Prop := match st with
  | .int j :: .ref a :: st => am_need (am_kd a == 4) (vp_in j (am_n a) ∧ K (i + 1) lo (.ref (am_f a + am_d a * j.toNatClampNeg) :: st) mi ml)
  | _ => False
def am_alen : Prop := match st with
  | .ref a :: st => am_need (Nat.ble 2 (am_kd a) && Nat.ble (am_kd a) 6 || am_kd a == 8 || am_kd a == 9) (K (i + 1) lo (.int (Int32.ofNat (am_len mi a)) :: st) mi ml)
  | _ => False
def am_dup : Prop := match st with
  | v :: st => am_need (v.category == 1) (K (i + 1) lo (v :: v :: st) mi ml)
  | _ => False
def am_dupx1 : Prop := match st with
  | v :: w :: st => am_need (v.category == 1 && w.category == 1) (K (i + 1) lo (v :: w :: v :: st) mi ml)
  | _ => False
def am_dup2 : Prop := match st with
  | .long x :: st => K (i + 1) lo (.long x :: .long x :: st) mi ml
  | v :: w :: st => am_need (v.category == 1 && w.category == 1) (K (i + 1) lo (v :: w :: v :: w :: st) mi ml)
  | _ => False
def am_pop : Prop := match st with
  | v :: st => am_need (v.category == 1) (K (i + 1) lo st mi ml)
  | _ => False
def am_cpy : Prop := match st with
  | .int n :: .int dp :: .ref b :: .int sp :: .ref a :: st => am_need (Nat.ble (am_cat st) 8) (¬ sp < 0 ∧ ¬ dp < 0 ∧ ¬ n < 0 ∧ sp.toNatClampNeg + n.toNatClampNeg ≤ am_n a ∧ dp.toNatClampNeg + n.toNatClampNeg ≤ am_n b ∧
      (match am_kd a, am_kd b with
      | 2, 2 => K (i + 1) lo st (am_ci mi a sp.toNatClampNeg b dp.toNatClampNeg n.toNatClampNeg) ml
      | 3, 3 => K (i + 1) lo st mi (am_cj ml a sp.toNatClampNeg b dp.toNatClampNeg n.toNatClampNeg)
      | _, _ => False))
  | _ => False
def am_bic (f : Int32 → Int32 → Int32) : Prop := match st with
  | .int y :: .int x :: st => am_need (Nat.ble (am_cat st) 8) (K (i + 1) lo (.int (f x y) :: st) mi ml)
  | _ => False
def am_call0 (call : am_C) (g n rk : Nat) : Prop := am_need (Nat.ble n st.length && Nat.ble (am_cat (st.drop n)) 8)
  (call g (st.take n).reverse mi ml (match rk with
    | 0 => am_rv fun mi ml => K (i + 1) lo (st.drop n) mi ml
    | 1 => am_ri fun x mi ml => K (i + 1) lo (.int x :: st.drop n) mi ml
    | 2 => am_rj fun x mi ml => K (i + 1) lo (.long x :: st.drop n) mi ml
    | _ => am_rr fun x mi ml => K (i + 1) lo (.ref x :: st.drop n) mi ml))
def am_inv (call : am_C) (g n rk : Nat) : Prop := match g with
  | 1000 => am_bic K i lo st mi ml am_max
  | 1001 => am_bic K i lo st mi ml am_min
  | 1002 => am_cpy K i lo st mi ml
  | 2001 => False
  | _ => am_call0 K i lo st mi ml call g n rk
/-- the receiver is of the method's class -/
def am_rcv (g n : Nat) : Bool := match st.drop (n - 1) with
  | .ref a :: _ => am_oc a == am_mk g
  | _ => false
end AMI
def am_st (call : am_C) (K : am_K) (R : am_R) (ins : Instr) (k1 k2 k3 : Nat) (v : Int32) (sw : List (Int32 × Nat)) (i : Nat) (lo : am_L) (st : List Value) (mi : am_MI) (ml : am_ML) : Prop :=
  match ins with
  | .aload n => am_ldA K i lo st mi ml n
  | .aload_n n => am_ldA K i lo st mi ml n
  | .iload n => am_ldI K i lo st mi ml n
  | .iload_n n => am_ldI K i lo st mi ml n
  | .lload n => am_ldJ K i lo st mi ml n
  | .lload_n n => am_ldJ K i lo st mi ml n
  | .astore n => am_stA K i lo st mi ml n
  | .astore_n n => am_stA K i lo st mi ml n
  | .istore n => am_stI K i lo st mi ml n
  | .istore_n n => am_stI K i lo st mi ml n
  | .lstore n => am_stJ K i lo st mi ml n
  | .lstore_n n => am_stJ K i lo st mi ml n
  | .iinc n _ => am_inc K i lo st mi ml n v
  | .iconst _ => K (i + 1) lo (.int v :: st) mi ml
  | .bipush _ => K (i + 1) lo (.int v :: st) mi ml
  | .sipush _ => K (i + 1) lo (.int v :: st) mi ml
  | .ldc _ => (match k2 with
    | 0 => K (i + 1) lo (.int v :: st) mi ml
    | _ => K (i + 1) lo (.ref k1 :: st) mi ml)
  | .ldc_w _ => K (i + 1) lo (.int v :: st) mi ml
  | .ldc2_w _ => K (i + 1) lo (.long (am_lc k1) :: st) mi ml
  | .lconst _ => K (i + 1) lo (.long (am_lc k1) :: st) mi ml
  | .dup => am_dup K i lo st mi ml
  | .dup_x1 => am_dupx1 K i lo st mi ml
  | .dup2 => am_dup2 K i lo st mi ml
  | .pop => am_pop K i lo st mi ml
  | .iadd => am_b2 K i lo st mi ml fun x y => x + y
  | .isub => am_b2 K i lo st mi ml fun x y => x - y
  | .imul => am_b2 K i lo st mi ml fun x y => x * y
  | .idiv => am_bd K i lo st mi ml fun x y => x / y
  | .irem => am_bd K i lo st mi ml am_rem
  | .iand => am_b2 K i lo st mi ml fun x y => x &&& y
  | .ior => am_b2 K i lo st mi ml fun x y => x ||| y
  | .ixor => am_b2 K i lo st mi ml fun x y => x ^^^ y
  | .ishl => am_b2 K i lo st mi ml am_shl
  | .ishr => am_b2 K i lo st mi ml am_shr
  | .iushr => am_b2 K i lo st mi ml am_ushr
  | .ineg => am_u1 K i lo st mi ml fun x => -x
  | .i2b => am_u1 K i lo st mi ml fun x => x.toInt8.toInt32
  | .i2s => am_u1 K i lo st mi ml fun x => x.toInt16.toInt32
  | .i2c => am_u1 K i lo st mi ml am_i2c
  | .i2l => (match st with
    | .int x :: st => K (i + 1) lo (.long x.toInt64 :: st) mi ml
    | _ => False)
  | .l2i => (match st with
    | .long x :: st => K (i + 1) lo (.int x.toInt32 :: st) mi ml
    | _ => False)
  | .ladd => am_j2 K i lo st mi ml fun x y => x + y
  | .lmul => am_j2 K i lo st mi ml fun x y => x * y
  | .land => am_j2 K i lo st mi ml fun x y => x &&& y
  | .lor => am_j2 K i lo st mi ml fun x y => x ||| y
  | .lshl => (match st with
    | .int y :: .long x :: st => K (i + 1) lo (.long (am_lshl x y) :: st) mi ml
    | _ => False)
  | .lcmp => (match st with
    | .long y :: .long x :: st => K (i + 1) lo (.int (lg_cmp x y) :: st) mi ml
    | _ => False)
  | .goto _ => K k1 lo st mi ml
  | .ifCond .eq _ => am_br K i lo st mi ml k1 fun x => x = 0
  | .ifCond .ne _ => am_br K i lo st mi ml k1 fun x => x ≠ 0
  | .ifCond .lt _ => am_br K i lo st mi ml k1 fun x => x < 0
  | .ifCond .ge _ => am_br K i lo st mi ml k1 fun x => 0 ≤ x
  | .ifCond .gt _ => am_br K i lo st mi ml k1 fun x => 0 < x
  | .ifCond .le _ => am_br K i lo st mi ml k1 fun x => x ≤ 0
  | .if_icmp .eq _ => am_b2r K i lo st mi ml k1 fun x y => x = y
  | .if_icmp .ne _ => am_b2r K i lo st mi ml k1 fun x y => x ≠ y
  | .if_icmp .lt _ => am_b2r K i lo st mi ml k1 fun x y => x < y
  | .if_icmp .ge _ => am_b2r K i lo st mi ml k1 fun x y => y ≤ x
  | .if_icmp .gt _ => am_b2r K i lo st mi ml k1 fun x y => y < x
  | .if_icmp .le _ => am_b2r K i lo st mi ml k1 fun x y => x ≤ y
  | .tableswitch _ _ _ _ => am_sw K lo st mi ml k1 sw
  | .lookupswitch _ _ => am_sw K lo st mi ml k1 sw
  | .getfield _ => am_get K i lo st mi ml k1 k2 k3
  | .putfield _ => am_put K i lo st mi ml k1 k2 k3
  | .getstatic _ => (match k2 with
    | 0 => K (i + 1) lo (.ref k1 :: st) mi ml
    | 2 => K (i + 1) lo (.null :: st) mi ml
    | _ => K (i + 1) lo (.int v :: st) mi ml)
  | .iaload => am_iald K i lo st mi ml
  | .baload => am_bald K i lo st mi ml
  | .iastore => am_iast K i lo st mi ml
  | .laload => am_lald K i lo st mi ml
  | .lastore => am_last K i lo st mi ml
  | .aaload => am_aald K i lo st mi ml
  | .arraylength => am_alen K i lo st mi ml
  | .invokevirtual _ => am_need (am_rcv st k1 k2) (am_inv K i lo st mi ml call k1 k2 k3)
  | .invokestatic _ => am_inv K i lo st mi ml call k1 k2 k3
  | .ireturn => (match st with
    | [.int x] => (match k1 with
      | 0 => R (some (.int x)) mi ml
      | 2 => am_i2c x = x ∧ R (some (.int x)) mi ml
      | _ => (x = 0 ∨ x = 1) ∧ R (some (.int x)) mi ml)
    | _ => False)
  | .lreturn => (match st with
    | [.long x] => R (some (.long x)) mi ml
    | _ => False)
  | .areturn => (match st with
    | [.ref x] => R (some (.ref x)) mi ml
    | _ => False)
  | .return_ => (match st with
    | [] => R none mi ml
    | _ => False)
  | _ => False
def am_ex (call : am_C) (t : List am_row) (K : am_K) (R : am_R) (i : Nat) (lo : am_L) (st : List Value) (mi : am_MI) (ml : am_ML) : Prop :=
  match t[i]? with
  | some (_, ins, _, k1, k2, k3, v, sw) => am_st call K R ins k1 k2 k3 v sw i lo st mi ml
  | none => False
/-- one method from a row on: the least predicate closed under its rows, and under forgetting locals -/
def am_wp (call : am_C) (t : List am_row) (R : am_R) : am_K := fun i lo st mi ml =>
  ∀ P : am_K, (∀ i lo st mi ml, am_ex call t P R i lo st mi ml → P i lo st mi ml) → (∀ i lo lo' st mi ml, am_le lo' lo → P i lo' st mi ml → P i lo st mi ml) → P i lo st mi ml
