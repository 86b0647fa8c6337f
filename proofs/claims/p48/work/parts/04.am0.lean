/-! THE SMALL MACHINE: a fixed table of cells, memory mi (ints) and ml (longs) by cell and place; an instruction is a predicate transformer -/
abbrev am_MI : Type := Nat → Nat → Int32
abbrev am_ML : Type := Nat → Nat → Int64
abbrev am_R : Type := Option Value → am_MI → am_ML → Prop
abbrev am_L : Type := List (Option Value)
abbrev am_K : Type := Nat → am_L → List Value → am_MI → am_ML → Prop
abbrev am_C : Type := Nat → List Value → am_MI → am_ML → am_R → Prop
abbrev am_row : Type := Nat × Instr × Nat × Nat × Nat × Nat × Int32 × List (Int32 × Nat)
def am_nth {α : Type} (d : α) : List α → Nat → α
  | [], _ => d
  | x :: _, 0 => x
  | _ :: l, i + 1 => am_nth d l i
def am_ck (a : Nat) : Nat × Nat × Nat × Nat := am_nth (0, 0, 0, 0) am_cl a
def am_kd (a : Nat) : Nat := (am_ck a).1
def am_n (a : Nat) : Nat := (am_ck a).2.1
def am_f (a : Nat) : Nat := (am_ck a).2.2.1
def am_d (a : Nat) : Nat := (am_ck a).2.2.2
def am_rf (a j : Nat) : Nat := am_nth 0 (am_nth [] am_rl a) j
/-- an object's class: its number; 100: String -/
def am_oc (a : Nat) : Nat := match am_kd a with
  | 1 => am_n a
  | 7 => 100
  | _ => 200
def am_mk (g : Nat) : Nat := am_nth 300 am_mkl g
def am_lc : Nat → Int64
  | 0 => 0
  | 1 => 1
  | 2 => 3
  | 3 => 4294967295
  | 5 => 7
  | 6 => 31
  | 7 => 5
  | 8 => 11
  | 9 => 13
  | 10 => 17
  | 11 => -1
  | _ => -9223372036854775808
