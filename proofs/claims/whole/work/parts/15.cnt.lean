/-! No instruction of the pure machine counts exceptions; how long it is. -/
section Det2
theorem ab_up_39 {h : ab_S} {k : Nat} {i v : Int} (hk : ¬ k = 39) : ab_up h k i v 39 0 = h 39 0 := by
  unfold ab_up
  rw [if_neg (fun e => hk e.symm)]
theorem ab_nd39 : (ab_nd ab_lay 39).1 = 9 := rfl
theorem ab_w1_39 {t : ab_I} {ls st : List ab_V} {h : ab_S} {K : List ab_V → List ab_V → ab_S → Prop} (H : ab_w1 t ls st h K) : ∃ ls1 st1 h1, K ls1 st1 h1 ∧ h1 39 0 = h 39 0 := by
  obtain ⟨pc, ins, len, x1, x2⟩ := t
  cases ins
  case iconst n => exact ⟨_, _, _, H, rfl⟩
  case bipush n => exact ⟨_, _, _, H, rfl⟩
  case sipush n => exact ⟨_, _, _, H, rfl⟩
  case lconst n => exact ⟨_, _, _, H, rfl⟩
  case iload_n k =>
    obtain ⟨x, e, H⟩ := ab_gI_of H
    exact ⟨_, _, _, H, rfl⟩
  case iload k =>
    obtain ⟨x, e, H⟩ := ab_gI_of H
    exact ⟨_, _, _, H, rfl⟩
  case aload_n k =>
    obtain ⟨x, e, H⟩ := ab_gR_of H
    exact ⟨_, _, _, H, rfl⟩
  case aload k =>
    obtain ⟨x, e, H⟩ := ab_gR_of H
    exact ⟨_, _, _, H, rfl⟩
  case istore_n k =>
    obtain ⟨x, t, rfl, H⟩ := ab_pI_of H
    exact ⟨_, _, _, H, rfl⟩
  case istore k =>
    obtain ⟨x, t, rfl, H⟩ := ab_pI_of H
    exact ⟨_, _, _, H, rfl⟩
  case iinc k n =>
    obtain ⟨x, e, H⟩ := ab_gI_of H
    exact ⟨_, _, _, H.2, rfl⟩
  case iadd =>
    obtain ⟨x, y, t, rfl, H⟩ := ab_p2_of H
    exact ⟨_, _, _, H.2, rfl⟩
  case isub =>
    obtain ⟨x, y, t, rfl, H⟩ := ab_p2_of H
    exact ⟨_, _, _, H.2, rfl⟩
  case imul =>
    obtain ⟨x, y, t, rfl, H⟩ := ab_p2_of H
    exact ⟨_, _, _, H.2, rfl⟩
  case idiv =>
    obtain ⟨x, y, t, rfl, H⟩ := ab_p2_of H
    exact ⟨_, _, _, H.2, rfl⟩
  case irem =>
    obtain ⟨x, y, t, rfl, H⟩ := ab_p2_of H
    exact ⟨_, _, _, H.2, rfl⟩
  case iand =>
    obtain ⟨x, y, t, rfl, H⟩ := ab_p2_of H
    exact ⟨_, _, _, H, rfl⟩
  case ior =>
    obtain ⟨x, y, t, rfl, H⟩ := ab_p2_of H
    exact ⟨_, _, _, H, rfl⟩
  case ixor =>
    obtain ⟨x, y, t, rfl, H⟩ := ab_p2_of H
    exact ⟨_, _, _, H, rfl⟩
  case ishl =>
    obtain ⟨x, y, t, rfl, H⟩ := ab_p2_of H
    exact ⟨_, _, _, H, rfl⟩
  case ishr =>
    obtain ⟨x, y, t, rfl, H⟩ := ab_p2_of H
    exact ⟨_, _, _, H, rfl⟩
  case iushr =>
    obtain ⟨x, y, t, rfl, H⟩ := ab_p2_of H
    exact ⟨_, _, _, H, rfl⟩
  case i2l =>
    obtain ⟨x, t, rfl, H⟩ := ab_pI_of H
    exact ⟨_, _, _, H, rfl⟩
  case lcmp =>
    obtain ⟨y, t, rfl, H⟩ := ab_pJ_of H
    obtain ⟨x, t, rfl, H⟩ := ab_pJ_of H
    exact ⟨_, _, _, H, rfl⟩
  case dup =>
    obtain ⟨v, t, rfl, hv, H⟩ := ab_p1_of (f := fun v t => K ls (v :: v :: t) h) H
    exact ⟨_, _, _, H, rfl⟩
  case dup2 =>
    obtain ⟨v, t, rfl, hv, H⟩ := ab_p1_of (f := fun v t => ab_p1 t fun w t => K ls (v :: w :: v :: w :: t) h) H
    obtain ⟨w, t, rfl, hw, H⟩ := ab_p1_of (f := fun w t => K ls (v :: w :: v :: w :: t) h) H
    exact ⟨_, _, _, H, rfl⟩
  case pop =>
    obtain ⟨v, t, rfl, hv, H⟩ := ab_p1_of (f := fun _ t => K ls t h) H
    exact ⟨_, _, _, H, rfl⟩
  case arraylength =>
    obtain ⟨r, t, rfl, H⟩ := ab_pR_of H
    exact ⟨_, _, _, H.2.2, rfl⟩
  case iaload =>
    obtain ⟨i, t, rfl, H⟩ := ab_pI_of H
    obtain ⟨r, t, rfl, H⟩ := ab_pR_of H
    obtain ⟨c, H⟩ := ab_if_of H
    exact ⟨_, _, _, H.2, rfl⟩
  case baload =>
    obtain ⟨i, t, rfl, H⟩ := ab_pI_of H
    obtain ⟨r, t, rfl, H⟩ := ab_pR_of H
    obtain ⟨c, H⟩ := ab_if_of H
    exact ⟨_, _, _, H.2, rfl⟩
  case laload =>
    obtain ⟨i, t, rfl, H⟩ := ab_pI_of H
    obtain ⟨r, t, rfl, H⟩ := ab_pR_of H
    obtain ⟨c, H⟩ := ab_if_of H
    exact ⟨_, _, _, H.2, rfl⟩
  case iastore =>
    obtain ⟨x, t, rfl, H⟩ := ab_pI_of H
    obtain ⟨i, t, rfl, H⟩ := ab_pI_of H
    obtain ⟨r, t, rfl, H⟩ := ab_pR_of H
    obtain ⟨c, H⟩ := ab_if_of H
    obtain ⟨c2, H⟩ := ab_ifn_of H
    exact ⟨_, _, _, H.2, ab_up_39 (fun e => by subst e; exact absurd c (by decide))⟩
  case bastore =>
    obtain ⟨x, t, rfl, H⟩ := ab_pI_of H
    obtain ⟨i, t, rfl, H⟩ := ab_pI_of H
    obtain ⟨r, t, rfl, H⟩ := ab_pR_of H
    obtain ⟨c, H⟩ := ab_if_of H
    exact ⟨_, _, _, H.2.2, ab_up_39 (fun e => by subst e; exact absurd c (by decide))⟩
  case lastore =>
    obtain ⟨x, t, rfl, H⟩ := ab_pJ_of H
    obtain ⟨i, t, rfl, H⟩ := ab_pI_of H
    obtain ⟨r, t, rfl, H⟩ := ab_pR_of H
    obtain ⟨c, H⟩ := ab_if_of H
    exact ⟨_, _, _, H.2.2, ab_up_39 (fun e => by subst e; exact absurd c (by decide))⟩
  case getfield q =>
    obtain ⟨r, t, rfl, H⟩ := ab_pR_of H
    obtain ⟨c, H⟩ := ab_if_of H
    obtain ⟨c2, H⟩ := ab_if_of H
    dsimp only at c c2 H
    cases e : ab_nf (ab_nd ab_lay r).2.2 x2 with
    | none => rw [e] at H; exact H.elim
    | some v =>
      cases v with
      | none =>
        rw [e] at H
        exact ⟨_, _, _, H, rfl⟩
      | some w =>
        rw [e] at H
        exact ⟨_, _, _, H, rfl⟩
  case putfield q =>
    obtain ⟨x, t, rfl, H⟩ := ab_pI_of H
    obtain ⟨r, t, rfl, H⟩ := ab_pR_of H
    obtain ⟨c, H⟩ := ab_if_of H
    obtain ⟨c2, H⟩ := ab_if_of H
    dsimp only at c c2 H
    cases e : ab_nf (ab_nd ab_lay r).2.2 x2 with
    | none => rw [e] at H; exact H.elim
    | some v =>
      cases v with
      | some w => rw [e] at H; exact H.elim
      | none =>
        rw [e] at H
        dsimp only at H
        by_cases z : ab_zf x1 x2 = true
        · rw [if_pos z] at H
          exact ⟨_, _, _, H.2, ab_up_39 (fun e => by subst e; rw [ab_nd39] at c; cases c)⟩
        · rw [if_neg z] at H
          exact ⟨_, _, _, H, ab_up_39 (fun e => by subst e; rw [ab_nd39] at c; cases c)⟩
  all_goals exact H.elim

def ab_il (i : Instr) : Nat := match i with
  | .bipush _ => 2
  | .sipush _ => 3
  | .iload _ => 2
  | .aload _ => 2
  | .istore _ => 2
  | .astore _ => 2
  | .ldc _ => 2
  | .newarray _ => 2
  | .iinc _ _ => 3
  | .getfield _ => 3
  | .putfield _ => 3
  | .goto _ => 3
  | .ifCond _ _ => 3
  | .if_icmp _ _ => 3
  | .invokevirtual _ => 3
  | .invokestatic _ => 3
  | .invokespecial _ => 3
  | .new _ => 3
  | _ => 1
def ab_lk (t : ab_I) : Bool := match t.2.1 with
  | .tableswitch _ _ _ _ => true
  | i => t.2.2.1 == ab_il i
set_option maxRecDepth 100000 in
theorem ab_lks : ∀ m ∈ ab_Ms, (m.2.2.2.2.2.2.2.all ab_lk) = true := by decide +kernel
theorem ab_lki {i n : Nat} {t : ab_I} (ht : (ab_L i)[n]? = some t) : ab_lk t = true := List.all_eq_true.mp (ab_lks _ (ab_mt_mem i)) t (List.mem_of_getElem? ht)
theorem ab_w1_ne {t : ab_I} {ls st : List ab_V} {h : ab_S} {K : List ab_V → List ab_V → ab_S → Prop} (H : ab_w1 t ls st h K) : t.2.1 ≠ .ireturn ∧ t.2.1 ≠ .return_ ∧ t.2.1 ≠ .athrow ∧ ∀ o, t.2.1 ≠ .goto o := by
  obtain ⟨pc, ins, len, x1, x2⟩ := t
  refine ⟨fun e => ?_, fun e => ?_, fun e => ?_, fun o e => ?_⟩ <;> (dsimp only at e; subst e; exact H)
theorem ab_next {i n : Nat} {t : ab_I} {ls st : List ab_V} {h : ab_S} {K : List ab_V → List ab_V → ab_S → Prop} (ht : (ab_L i)[n]? = some t) (H : ab_w1 t ls st h K) : ∃ u, (ab_L i)[n + 1]? = some u ∧ u.1 = t.1 + t.2.2.1 := by
  obtain ⟨a, b, c, d⟩ := ab_w1_ne H
  obtain ⟨u, hu⟩ := ab_end_of (ab_ends _ (ab_mt_mem i)) ht a b c d
  exact ⟨u, hu, (ab_gdi i).2 n t u ht hu⟩
end Det2
