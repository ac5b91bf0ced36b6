/-! What an instruction does to a frame of the pure machine; what a listing must be; the least relation that the rules close. -/
section Wp
/-- how many places an array has; the script's number of ints lies at its place -1 -/
abbrev ab_ln (h : ab_S) (k : Nat) : Int := if k = 38 then h 38 (-1) else (((ab_nd ab_lay k).2.1 : Nat) : Int)
/-- an array's kind: 0 ints, 1 booleans, 2 longs -/
abbrev ab_ty (k : Nat) : Nat := if k = 38 then 0 else (ab_nd ab_lay k).1
/-- a field that holds a boolean -/
def ab_zf (c f : Nat) : Bool := c == 6 && f == 19
/-- an instruction that goes on to the next one -/
def ab_w1 (t : ab_I) (ls st : List ab_V) (h : ab_S) (K : List ab_V → List ab_V → ab_S → Prop) : Prop :=
  match t.2.1 with
  | .iconst n => K ls (vI n :: st) h
  | .bipush n => K ls (vI n :: st) h
  | .sipush n => K ls (vI n :: st) h
  | .lconst n => K ls (vJ ((n.val : Nat) : Int) :: st) h
  | .iload_n k => ab_gI (ab_nth ls k.val) fun x => K ls (vI x :: st) h
  | .iload k => ab_gI (ab_nth ls k) fun x => K ls (vI x :: st) h
  | .aload_n k => ab_gR (ab_nth ls k.val) fun r => K ls (vR r :: st) h
  | .aload k => ab_gR (ab_nth ls k) fun r => K ls (vR r :: st) h
  | .istore_n k => ab_pI st fun x t => K (ab_st ls k.val (vI x)) t h
  | .istore k => ab_pI st fun x t => K (ab_st ls k (vI x)) t h
  | .iinc k n => ab_gI (ab_nth ls k) fun x => ab_rg (x + n) ∧ K (ab_st ls k (vI (x + n))) st h
  | .iadd => ab_p2 st fun x y t => ab_rg (x + y) ∧ K ls (vI (x + y) :: t) h
  | .isub => ab_p2 st fun x y t => ab_rg (x - y) ∧ K ls (vI (x - y) :: t) h
  | .imul => ab_p2 st fun x y t => ab_rg (x * y) ∧ K ls (vI (x * y) :: t) h
  | .idiv => ab_p2 st fun x y t => (0 ≤ x ∧ 0 < y) ∧ K ls (vI (x / y) :: t) h
  | .irem => ab_p2 st fun x y t => (0 ≤ x ∧ 0 < y) ∧ K ls (vI (x % y) :: t) h
  | .iand => ab_p2 st fun x y t => K ls (vI (b_and x y) :: t) h
  | .ior => ab_p2 st fun x y t => K ls (vI (b_or x y) :: t) h
  | .ixor => ab_p2 st fun x y t => K ls (vI (b_xor x y) :: t) h
  | .ishl => ab_p2 st fun x y t => K ls (vI (b_shl x y) :: t) h
  | .ishr => ab_p2 st fun x y t => K ls (vI (b_shr x y) :: t) h
  | .iushr => ab_p2 st fun x y t => K ls (vI (b_ushr x y) :: t) h
  | .i2l => ab_pI st fun x t => K ls (vJ x :: t) h
  | .lcmp => ab_pJ st fun y t => ab_pJ t fun x t => K ls (vI (ab_lc x y) :: t) h
  | .dup => ab_p1 st fun v t => K ls (v :: v :: t) h
  | .dup2 => ab_p1 st fun v t => ab_p1 t fun w t => K ls (v :: w :: v :: w :: t) h
  | .pop => ab_p1 st fun _ t => K ls t h
  | .arraylength => ab_pR st fun k t => k < 39 ∧ ab_ty k < 3 ∧ K ls (vI (ab_ln h k) :: t) h
  | .iaload => ab_pI st fun i t => ab_pR t fun k t => if ab_ty k = 0 then (0 ≤ i ∧ i < ab_ln h k) ∧ K ls (vI (h k i) :: t) h else False
  | .baload => ab_pI st fun i t => ab_pR t fun k t => if ab_ty k = 1 then (0 ≤ i ∧ i < ab_ln h k) ∧ K ls (vI (h k i) :: t) h else False
  | .laload => ab_pI st fun i t => ab_pR t fun k t => if ab_ty k = 2 then (0 ≤ i ∧ i < ab_ln h k) ∧ K ls (vJ (h k i) :: t) h else False
  | .iastore => ab_pI st fun x t => ab_pI t fun i t => ab_pR t fun k t => if ab_ty k = 0 then (if k = 38 then False else (0 ≤ i ∧ i < ab_ln h k) ∧ K ls t (ab_up h k i x)) else False
  | .bastore => ab_pI st fun x t => ab_pI t fun i t => ab_pR t fun k t => if ab_ty k = 1 then (0 ≤ i ∧ i < ab_ln h k) ∧ (x = 0 ∨ x = 1) ∧ K ls t (ab_up h k i x) else False
  | .lastore => ab_pJ st fun x t => ab_pI t fun i t => ab_pR t fun k t => if ab_ty k = 2 then (0 ≤ i ∧ i < ab_ln h k) ∧ ab_rg x ∧ K ls t (ab_up h k i x) else False
  | .getfield _ => ab_pR st fun k st => if (ab_nd ab_lay k).1 = 3 then (if (ab_nd ab_lay k).2.1 = t.2.2.2.1 then (match ab_nf (ab_nd ab_lay k).2.2 t.2.2.2.2 with
      | some (some r) => K ls (vR r :: st) h
      | some none => K ls (vI (h k ((t.2.2.2.2 : Nat) : Int)) :: st) h
      | none => False) else False) else False
  | .putfield _ => ab_pI st fun x st => ab_pR st fun k st => if (ab_nd ab_lay k).1 = 3 then (if (ab_nd ab_lay k).2.1 = t.2.2.2.1 then (match ab_nf (ab_nd ab_lay k).2.2 t.2.2.2.2 with
      | some none => if ab_zf t.2.2.2.1 t.2.2.2.2 = true then (x = 0 ∨ x = 1) ∧ K ls st (ab_up h k ((t.2.2.2.2 : Nat) : Int) x) else K ls st (ab_up h k ((t.2.2.2.2 : Nat) : Int) x)
      | _ => False) else False) else False
  | _ => False
/-- a stretch of such instructions -/
def ab_bw (K : List ab_V → List ab_V → ab_S → Prop) : List ab_I → List ab_V → List ab_V → ab_S → Prop
  | [], ls, st, h => K ls st h
  | t :: ts, ls, st, h => ab_w1 t ls st h (fun ls1 st1 h1 => ab_bw K ts ls1 st1 h1)
/-- what a listing's row must be -/
def ab_c1 (own ml : Nat) (L : List ab_I) (t : ab_I) : Bool := match t.2.1 with
  | .bipush n => decide (-128 ≤ n) && decide (n ≤ 127)
  | .sipush n => decide (-32768 ≤ n) && decide (n ≤ 32767)
  | .iconst n => decide (-1 ≤ n) && decide (n ≤ 5)
  | .istore_n k => decide (k.val < ml)
  | .istore k => decide (k < ml)
  | .iinc k n => decide (k < ml) && decide (-128 ≤ n) && decide (n ≤ 127)
  | .goto off => decide ((L[t.2.2.2.1]?).map (fun q => (q.1 : Int)) = some ((t.1 : Int) + off))
  | .ifCond _ off => decide ((L[t.2.2.2.1]?).map (fun q => (q.1 : Int)) = some ((t.1 : Int) + off))
  | .if_icmp _ off => decide ((L[t.2.2.2.1]?).map (fun q => (q.1 : Int)) = some ((t.1 : Int) + off))
  | .tableswitch off _ _ _ => decide ((L[t.2.2.2.1]?).map (fun q => (q.1 : Int)) = some ((t.1 : Int) + off))
  | .getfield k => decide ((own, k, t.2.2.2.1, t.2.2.2.2) ∈ ab_FT)
  | .putfield k => decide ((own, k, t.2.2.2.1, t.2.2.2.2) ∈ ab_FT)
  | .invokevirtual k => decide ((own, 0, k, t.2.2.2.1) ∈ ab_CT)
  | .invokestatic k => decide (t.2.2.2.1 = 9999) || decide ((own, 1, k, t.2.2.2.1) ∈ ab_CT) || decide ((own, 2, k, t.2.2.2.1) ∈ ab_CT)
  | _ => true
def ab_chain : List ab_I → Bool
  | [] => true
  | [_] => true
  | t :: u :: r => decide (u.1 = t.1 + t.2.2.1) && ab_chain (u :: r)
def ab_chk (m : ab_Mt) : Bool := (m.2.2.2.2.2.2.2.all fun t => decide (decode m.2.2.1 t.1 = .ok (t.2.1, t.2.2.1)) && ab_c1 m.1 m.2.2.2.1 m.2.2.2.2.2.2.2 t) && ab_chain m.2.2.2.2.2.2.2
end Wp
