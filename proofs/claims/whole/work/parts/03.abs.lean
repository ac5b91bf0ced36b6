/-! THE PURE MACHINE: a method's frame over a fixed world of cells, numbers as Int. A place in a method is the instruction's number in its listing. -/
section Abs
/-- a value: a number, a cell of the world by its place, a long -/
abbrev ab_V : Type := Int ⊕ (Nat ⊕ Int)
/-- what the world's cells hold: cell, place, number -/
abbrev ab_S : Type := Nat → Int → Int
/-- how a method ends: nothing, a value, or an exception by its number -/
abbrev ab_O : Type := Option ab_V ⊕ Nat
abbrev vI (x : Int) : ab_V := Sum.inl x
abbrev vR (k : Nat) : ab_V := Sum.inr (Sum.inl k)
abbrev vJ (x : Int) : ab_V := Sum.inr (Sum.inr x)
abbrev oI (x : Int) : ab_O := Sum.inl (some (Sum.inl x))
abbrev oV : ab_O := Sum.inl none
abbrev oX (n : Nat) : ab_O := Sum.inr n
def ab_up (h : ab_S) (k : Nat) (i v : Int) : ab_S := fun k' i' => if k' = k then (if i' = i then v else h k' i') else h k' i'
/-- m numbers of the cell k from p on go to the cell d from q on -/
def ab_cp (h : ab_S) (k : Nat) (p : Int) (d : Nat) (q m : Int) : ab_S := fun k' i' => if k' = d then (if q ≤ i' ∧ i' < q + m then h k (p + (i' - q)) else h k' i') else h k' i'
def ab_rg (x : Int) : Prop := -2147483648 ≤ x ∧ x ≤ 2147483647
def b_and (x y : Int) : Int := (Int32.ofInt x &&& Int32.ofInt y).toInt
def b_or (x y : Int) : Int := (Int32.ofInt x ||| Int32.ofInt y).toInt
def b_xor (x y : Int) : Int := (Int32.ofInt x ^^^ Int32.ofInt y).toInt
def b_shl (x y : Int) : Int := (Int32.ofInt x <<< (Int32.ofInt y &&& 31)).toInt
def b_shr (x y : Int) : Int := (Int32.ofInt x >>> (Int32.ofInt y &&& 31)).toInt
def b_ushr (x y : Int) : Int := ((Int32.ofInt x).toUInt32 >>> ((Int32.ofInt y).toUInt32 &&& Int32.toUInt32 31)).toInt32.toInt
def ab_lc (x y : Int) : Int := if x < y then -1 else if x = y then 0 else 1
def ab_nth : List ab_V → Nat → ab_V
  | [], _ => Sum.inr (Sum.inr 0)
  | v :: _, 0 => v
  | _ :: t, n + 1 => ab_nth t n
def ab_st : List ab_V → Nat → ab_V → List ab_V
  | [], _, _ => []
  | _ :: t, 0, x => x :: t
  | v :: t, n + 1, x => v :: ab_st t n x
def ab_cmp (c : Jvm.ClassFile.Cond) (x y : Int) : Prop := match c with
  | .eq => x = y
  | .ne => ¬ x = y
  | .lt => x < y
  | .ge => y ≤ x
  | .gt => y < x
  | .le => x ≤ y
/-- a row of a listing: byte, instruction, length, two numbers of ours (a field's declarer and place; a branch's aim; a callee) -/
abbrev ab_I : Type := Nat × Instr × Nat × Nat × Nat
/-- a cell's kind: 0 ints, 1 booleans, 2 longs (with the length), 3 an object (with its class and its fields: a cell for ever, or a number) -/
abbrev ab_D : Type := Nat × Nat × List (Option Nat)
def ab_nd : List ab_D → Nat → ab_D
  | [], _ => (9, 0, [])
  | v :: _, 0 => v
  | _ :: t, n + 1 => ab_nd t n
def ab_nf : List (Option Nat) → Nat → Option (Option Nat)
  | [], _ => none
  | v :: _, 0 => some v
  | _ :: t, n + 1 => ab_nf t n
abbrev ab_gI (v : ab_V) (f : Int → Prop) : Prop := match v with
  | Sum.inl x => f x
  | _ => False
abbrev ab_gR (v : ab_V) (f : Nat → Prop) : Prop := match v with
  | Sum.inr (Sum.inl k) => f k
  | _ => False
abbrev ab_p1 (st : List ab_V) (f : ab_V → List ab_V → Prop) : Prop := match st with
  | Sum.inl x :: t => f (Sum.inl x) t
  | Sum.inr (Sum.inl k) :: t => f (Sum.inr (Sum.inl k)) t
  | _ => False
abbrev ab_pI (st : List ab_V) (f : Int → List ab_V → Prop) : Prop := match st with
  | Sum.inl x :: t => f x t
  | _ => False
abbrev ab_pJ (st : List ab_V) (f : Int → List ab_V → Prop) : Prop := match st with
  | Sum.inr (Sum.inr x) :: t => f x t
  | _ => False
abbrev ab_pR (st : List ab_V) (f : Nat → List ab_V → Prop) : Prop := match st with
  | Sum.inr (Sum.inl k) :: t => f k t
  | _ => False
abbrev ab_p2 (st : List ab_V) (f : Int → Int → List ab_V → Prop) : Prop := match st with
  | Sum.inl y :: Sum.inl x :: t => f x y t
  | _ => False
end Abs
