/-! By program (wip/gen/seg.py): stretches of methods as formulas. -/
section Seg
/-- PPModel.thrown, row 0 -/
theorem s_28_0 (h : ab_S) (K : ab_O → ab_S → Prop) (H : K (oI (h 6 0)) h) : C 28 [vR 6] h K := by
  show X 28 0 [vR 6] [] h K
  refine X_b 2 2 (L := L_28) rfl rfl rfl ?_
  show X 28 2 [vR 6] [vI (h 6 0)] h _
  refine X_iret (L := L_28) rfl rfl rfl rfl ?_
  exact H

/-- PPModel.fail, row 0 -/
theorem s_29_0 (x1 : Int) (h : ab_S) (K : ab_O → ab_S → Prop) (H : K (oI 0) (ab_up h 6 0 x1)) : C 29 [vR 6, vI x1] h K := by
  show X 29 0 [vR 6, vI x1] [] h K
  refine X_b 4 4 (L := L_29) rfl rfl rfl ?_
  show X 29 4 [vR 6, vI x1] [vI 0] (ab_up h 6 0 x1) _
  refine X_iret (L := L_29) rfl rfl rfl rfl ?_
  exact H

/-- PPModel.forgetParse, row 0 -/
theorem s_30_0 (h : ab_S) (K : ab_O → ab_S → Prop) (H : K oV (ab_up (ab_up h 6 19 0) 6 22 0)) : C 30 [vR 6] h K := by
  show X 30 0 [vR 6] [] h K
  refine X_b 6 6 (L := L_30) rfl rfl rfl ?_
  show ((0 : Int) = 0 ∨ (0 : Int) = 1) ∧ X 30 6 [vR 6] [] (ab_up (ab_up h 6 19 0) 6 22 0) _
  refine ⟨by decide, ?_⟩
  refine X_ret (L := L_30) rfl rfl rfl rfl ?_
  exact H

/-- PPModel.note, row 0 -/
theorem s_31_0 (x1 x2 x3 x4 : Int) (h : ab_S) (K : ab_O → ab_S → Prop) (H : K (oI 1) (ab_up (ab_up (ab_up (ab_up h 6 13 x1) 6 14 x2) 6 15 x3) 6 16 x4)) : C 31 [vR 6, vI x1, vI x2, vI x3, vI x4] h K := by
  show X 31 0 [vR 6, vI x1, vI x2, vI x3, vI x4] [] h K
  refine X_b 13 13 (L := L_31) rfl rfl rfl ?_
  show X 31 13 [vR 6, vI x1, vI x2, vI x3, vI x4] [vI 1] (ab_up (ab_up (ab_up (ab_up h 6 13 x1) 6 14 x2) 6 15 x3) 6 16 x4) _
  refine X_zret (L := L_31) rfl rfl rfl rfl (by decide) ?_
  exact H

set_option maxRecDepth 8192 in
/-- PPModel.rule, row 0 -/
theorem s_32_0 (x1 : Int) (h : ab_S) (K : ab_O → ab_S → Prop) (H : ((4 < b_and (b_shr x1 2) 7 → X 32 18 [vR 6, vI x1, vI (b_and (b_shr x1 2) 7), vI 0, vI 0] [] (ab_up h 6 0 0) K) ∧ (b_and (b_shr x1 2) 7 ≤ 4 → X 32 18 [vR 6, vI x1, vI (b_and (b_shr x1 2) 7), vI 1, vI 0] [] (ab_up h 6 0 0) K))) : C 32 [vR 6, vI x1] h K := by
  show X 32 0 [vR 6, vI x1, vJ 0, vJ 0, vJ 0] [] h K
  refine X_b 11 11 (L := L_32) rfl rfl rfl ?_
  show X 32 11 [vR 6, vI x1, vI (b_and (b_shr x1 2) 7), vJ 0, vJ 0] [vI 4, vI (b_and (b_shr x1 2) 7)] (ab_up h 6 0 0) _
  refine X_icmp (L := L_32) (n' := 14) rfl rfl rfl rfl (fun z1 => ?_) (fun z1 => ?_)
  · have z1 : 4 < b_and (b_shr x1 2) 7 := z1
    replace H := H.1 z1
    show X 32 14 [vR 6, vI x1, vI (b_and (b_shr x1 2) 7), vJ 0, vJ 0] [] (ab_up h 6 0 0) _
    refine X_b 4 18 (L := L_32) rfl rfl rfl ?_
    show X 32 18 [vR 6, vI x1, vI (b_and (b_shr x1 2) 7), vI 0, vI 0] [] (ab_up h 6 0 0) _
    exact H
  · have z1 : b_and (b_shr x1 2) 7 ≤ 4 := (Int.not_lt.mp z1)
    replace H := H.2 z1
    show X 32 12 [vR 6, vI x1, vI (b_and (b_shr x1 2) 7), vJ 0, vJ 0] [] (ab_up h 6 0 0) _
    refine X_b 1 13 (L := L_32) rfl rfl rfl ?_
    show X 32 13 [vR 6, vI x1, vI (b_and (b_shr x1 2) 7), vJ 0, vJ 0] [vI 1] (ab_up h 6 0 0) _
    refine X_goto (L := L_32) (n' := 15) rfl rfl rfl rfl ?_
    show X 32 15 [vR 6, vI x1, vI (b_and (b_shr x1 2) 7), vJ 0, vJ 0] [vI 1] (ab_up h 6 0 0) _
    refine X_b 3 18 (L := L_32) rfl rfl rfl ?_
    show X 32 18 [vR 6, vI x1, vI (b_and (b_shr x1 2) 7), vI 1, vI 0] [] (ab_up h 6 0 0) _
    exact H

set_option maxRecDepth 8192 in
/-- PPModel.rule, row 18 -/
theorem s_32_18 (x1 x2 x3 x4 : Int) (h : ab_S) (K : ab_O → ab_S → Prop) (H : ((x2 ≤ x4 → ((¬ x3 = 0 → ((¬ h 6 1 = 8 → ((0 ≤ h 6 1 ∧ h 6 1 < 8)) ∧ X 32 73 [vR 6, vI x1, vI x2, vI x3, vI 0] [] (ab_up (ab_up h 20 (h 6 1) (b_and x1 3)) 21 (h 6 1) x2) K) ∧ (h 6 1 = 8 → K (oI 0) (ab_up h 6 0 2)))) ∧ (x3 = 0 → K (oI 0) (ab_up h 6 0 1)))) ∧ (x4 < x2 → ((4 ≤ x4 → ((¬ x3 = 0 → ((¬ h 6 1 = 8 → ((0 ≤ h 6 1 ∧ h 6 1 < 8)) ∧ X 32 73 [vR 6, vI x1, vI x2, vI x3, vI 0] [] (ab_up (ab_up h 20 (h 6 1) (b_and x1 3)) 21 (h 6 1) x2) K) ∧ (h 6 1 = 8 → K (oI 0) (ab_up h 6 0 2)))) ∧ (x3 = 0 → K (oI 0) (ab_up h 6 0 1)))) ∧ (x4 < 4 → ((x3 = 0 → ((-2147483648 ≤ x4 + 1 ∧ x4 + 1 ≤ 2147483647)) ∧ X 32 18 [vR 6, vI x1, vI x2, vI 0, vI (x4 + 1)] [] h K) ∧ (¬ x3 = 0 → ((-2147483648 ≤ 4 * x4 ∧ 4 * x4 ≤ 2147483647) ∧ (-2147483648 ≤ 5 + (4 * x4) ∧ 5 + (4 * x4) ≤ 2147483647)) ∧ ((9 ≤ b_and (b_shr x1 (5 + (4 * x4))) 15 → ((-2147483648 ≤ x4 + 1 ∧ x4 + 1 ≤ 2147483647)) ∧ X 32 18 [vR 6, vI x1, vI x2, vI 0, vI (x4 + 1)] [] h K) ∧ (b_and (b_shr x1 (5 + (4 * x4))) 15 < 9 → ((-2147483648 ≤ x4 + 1 ∧ x4 + 1 ≤ 2147483647)) ∧ X 32 18 [vR 6, vI x1, vI x2, vI 1, vI (x4 + 1)] [] h K))))))))) : X 32 18 [vR 6, vI x1, vI x2, vI x3, vI x4] [] h K := by
  refine X_b 2 20 (L := L_32) rfl rfl rfl ?_
  show X 32 20 [vR 6, vI x1, vI x2, vI x3, vI x4] [vI x2, vI x4] h _
  refine X_icmp (L := L_32) (n' := 43) rfl rfl rfl rfl (fun z1 => ?_) (fun z1 => ?_)
  · have z1 : x2 ≤ x4 := z1
    replace H := H.1 z1
    show X 32 43 [vR 6, vI x1, vI x2, vI x3, vI x4] [] h _
    refine X_b 1 44 (L := L_32) rfl rfl rfl ?_
    show X 32 44 [vR 6, vI x1, vI x2, vI x3, vI x4] [vI x3] h _
    refine X_if (L := L_32) (n' := 49) rfl rfl rfl rfl (fun z2 => ?_) (fun z2 => ?_)
    · have z2 : ¬ x3 = 0 := z2
      replace H := H.1 z2
      show X 32 49 [vR 6, vI x1, vI x2, vI x3, vI x4] [] h _
      refine X_b 3 52 (L := L_32) rfl rfl rfl ?_
      show X 32 52 [vR 6, vI x1, vI x2, vI x3, vI x4] [vI 8, vI (h 6 1)] h _
      refine X_icmp (L := L_32) (n' := 57) rfl rfl rfl rfl (fun z3 => ?_) (fun z3 => ?_)
      · have z3 : ¬ h 6 1 = 8 := z3
        replace H := H.1 z3
        show X 32 57 [vR 6, vI x1, vI x2, vI x3, vI x4] [] h _
        obtain ⟨c4, H⟩ := H
        refine X_b 16 73 (L := L_32) rfl rfl rfl ?_
        show (0 ≤ h 6 1 ∧ h 6 1 < 8) ∧ (0 ≤ h 6 1 ∧ h 6 1 < 8) ∧ X 32 73 [vR 6, vI x1, vI x2, vI x3, vI 0] [] (ab_up (ab_up h 20 (h 6 1) (b_and x1 3)) 21 (h 6 1) x2) _
        refine ⟨c4, c4, ?_⟩
        exact H
      · have z3 : h 6 1 = 8 := (Classical.not_not.mp z3)
        replace H := H.2 z3
        show X 32 53 [vR 6, vI x1, vI x2, vI x3, vI x4] [] h _
        refine X_b 2 55 (L := L_32) rfl rfl rfl ?_
        show X 32 55 [vR 6, vI x1, vI x2, vI x3, vI x4] [vI 2, vR 6] h _
        refine X_call 29 [vR 6, vI 2] [] rfl (sg_calv rfl rfl rfl rfl rfl rfl rfl rfl rfl rfl rfl) (by decide) ?_
        show X 29 0 [vR 6, vI 2] [] h _
        refine X_b 4 4 (L := L_29) rfl rfl rfl ?_
        show X 29 4 [vR 6, vI 2] [vI 0] (ab_up h 6 0 2) _
        refine X_iret (L := L_29) rfl rfl rfl rfl ?_
        show X 32 56 [vR 6, vI x1, vI x2, vI x3, vI x4] [vI 0] (ab_up h 6 0 2) _
        refine X_iret (L := L_32) rfl rfl rfl rfl ?_
        exact H
    · have z2 : x3 = 0 := (Classical.not_not.mp z2)
      replace H := H.2 z2
      show X 32 45 [vR 6, vI x1, vI x2, vI x3, vI x4] [] h _
      refine X_b 2 47 (L := L_32) rfl rfl rfl ?_
      show X 32 47 [vR 6, vI x1, vI x2, vI x3, vI x4] [vI 1, vR 6] h _
      refine X_call 29 [vR 6, vI 1] [] rfl (sg_calv rfl rfl rfl rfl rfl rfl rfl rfl rfl rfl rfl) (by decide) ?_
      show X 29 0 [vR 6, vI 1] [] h _
      refine X_b 4 4 (L := L_29) rfl rfl rfl ?_
      show X 29 4 [vR 6, vI 1] [vI 0] (ab_up h 6 0 1) _
      refine X_iret (L := L_29) rfl rfl rfl rfl ?_
      show X 32 48 [vR 6, vI x1, vI x2, vI x3, vI x4] [vI 0] (ab_up h 6 0 1) _
      refine X_iret (L := L_32) rfl rfl rfl rfl ?_
      exact H
  · have z1 : x4 < x2 := (Int.not_le.mp z1)
    replace H := H.2 z1
    show X 32 21 [vR 6, vI x1, vI x2, vI x3, vI x4] [] h _
    refine X_b 2 23 (L := L_32) rfl rfl rfl ?_
    show X 32 23 [vR 6, vI x1, vI x2, vI x3, vI x4] [vI 4, vI x4] h _
    refine X_icmp (L := L_32) (n' := 43) rfl rfl rfl rfl (fun z5 => ?_) (fun z5 => ?_)
    · have z5 : 4 ≤ x4 := z5
      replace H := H.1 z5
      show X 32 43 [vR 6, vI x1, vI x2, vI x3, vI x4] [] h _
      refine X_b 1 44 (L := L_32) rfl rfl rfl ?_
      show X 32 44 [vR 6, vI x1, vI x2, vI x3, vI x4] [vI x3] h _
      refine X_if (L := L_32) (n' := 49) rfl rfl rfl rfl (fun z6 => ?_) (fun z6 => ?_)
      · have z6 : ¬ x3 = 0 := z6
        replace H := H.1 z6
        show X 32 49 [vR 6, vI x1, vI x2, vI x3, vI x4] [] h _
        refine X_b 3 52 (L := L_32) rfl rfl rfl ?_
        show X 32 52 [vR 6, vI x1, vI x2, vI x3, vI x4] [vI 8, vI (h 6 1)] h _
        refine X_icmp (L := L_32) (n' := 57) rfl rfl rfl rfl (fun z7 => ?_) (fun z7 => ?_)
        · have z7 : ¬ h 6 1 = 8 := z7
          replace H := H.1 z7
          show X 32 57 [vR 6, vI x1, vI x2, vI x3, vI x4] [] h _
          obtain ⟨c8, H⟩ := H
          refine X_b 16 73 (L := L_32) rfl rfl rfl ?_
          show (0 ≤ h 6 1 ∧ h 6 1 < 8) ∧ (0 ≤ h 6 1 ∧ h 6 1 < 8) ∧ X 32 73 [vR 6, vI x1, vI x2, vI x3, vI 0] [] (ab_up (ab_up h 20 (h 6 1) (b_and x1 3)) 21 (h 6 1) x2) _
          refine ⟨c8, c8, ?_⟩
          exact H
        · have z7 : h 6 1 = 8 := (Classical.not_not.mp z7)
          replace H := H.2 z7
          show X 32 53 [vR 6, vI x1, vI x2, vI x3, vI x4] [] h _
          refine X_b 2 55 (L := L_32) rfl rfl rfl ?_
          show X 32 55 [vR 6, vI x1, vI x2, vI x3, vI x4] [vI 2, vR 6] h _
          refine X_call 29 [vR 6, vI 2] [] rfl (sg_calv rfl rfl rfl rfl rfl rfl rfl rfl rfl rfl rfl) (by decide) ?_
          show X 29 0 [vR 6, vI 2] [] h _
          refine X_b 4 4 (L := L_29) rfl rfl rfl ?_
          show X 29 4 [vR 6, vI 2] [vI 0] (ab_up h 6 0 2) _
          refine X_iret (L := L_29) rfl rfl rfl rfl ?_
          show X 32 56 [vR 6, vI x1, vI x2, vI x3, vI x4] [vI 0] (ab_up h 6 0 2) _
          refine X_iret (L := L_32) rfl rfl rfl rfl ?_
          exact H
      · have z6 : x3 = 0 := (Classical.not_not.mp z6)
        replace H := H.2 z6
        show X 32 45 [vR 6, vI x1, vI x2, vI x3, vI x4] [] h _
        refine X_b 2 47 (L := L_32) rfl rfl rfl ?_
        show X 32 47 [vR 6, vI x1, vI x2, vI x3, vI x4] [vI 1, vR 6] h _
        refine X_call 29 [vR 6, vI 1] [] rfl (sg_calv rfl rfl rfl rfl rfl rfl rfl rfl rfl rfl rfl) (by decide) ?_
        show X 29 0 [vR 6, vI 1] [] h _
        refine X_b 4 4 (L := L_29) rfl rfl rfl ?_
        show X 29 4 [vR 6, vI 1] [vI 0] (ab_up h 6 0 1) _
        refine X_iret (L := L_29) rfl rfl rfl rfl ?_
        show X 32 48 [vR 6, vI x1, vI x2, vI x3, vI x4] [vI 0] (ab_up h 6 0 1) _
        refine X_iret (L := L_32) rfl rfl rfl rfl ?_
        exact H
    · have z5 : x4 < 4 := (Int.not_le.mp z5)
      replace H := H.2 z5
      show X 32 24 [vR 6, vI x1, vI x2, vI x3, vI x4] [] h _
      refine X_b 1 25 (L := L_32) rfl rfl rfl ?_
      show X 32 25 [vR 6, vI x1, vI x2, vI x3, vI x4] [vI x3] h _
      refine X_if (L := L_32) (n' := 39) rfl rfl rfl rfl (fun z9 => ?_) (fun z9 => ?_)
      · have z9 : x3 = 0 := z9
        replace H := H.1 z9
        show X 32 39 [vR 6, vI x1, vI x2, vI x3, vI x4] [] h _
        obtain ⟨c10, H⟩ := H
        refine X_b 3 42 (L := L_32) rfl rfl rfl ?_
        show (-2147483648 ≤ x4 + 1 ∧ x4 + 1 ≤ 2147483647) ∧ X 32 42 [vR 6, vI x1, vI x2, vI 0, vI (x4 + 1)] [] h _
        refine ⟨c10, ?_⟩
        refine X_goto (L := L_32) (n' := 18) rfl rfl rfl rfl ?_
        show X 32 18 [vR 6, vI x1, vI x2, vI 0, vI (x4 + 1)] [] h _
        exact H
      · have z9 : ¬ x3 = 0 := z9
        replace H := H.2 z9
        show X 32 26 [vR 6, vI x1, vI x2, vI x3, vI x4] [] h _
        obtain ⟨⟨c11, c12⟩, H⟩ := H
        refine X_b 10 36 (L := L_32) rfl rfl rfl ?_
        show (-2147483648 ≤ 4 * x4 ∧ 4 * x4 ≤ 2147483647) ∧ (-2147483648 ≤ 5 + (4 * x4) ∧ 5 + (4 * x4) ≤ 2147483647) ∧ X 32 36 [vR 6, vI x1, vI x2, vI x3, vI x4] [vI 9, vI (b_and (b_shr x1 (5 + (4 * x4))) 15)] h _
        refine ⟨c11, c12, ?_⟩
        refine X_icmp (L := L_32) (n' := 39) rfl rfl rfl rfl (fun z13 => ?_) (fun z13 => ?_)
        · have z13 : 9 ≤ b_and (b_shr x1 (5 + (4 * x4))) 15 := z13
          replace H := H.1 z13
          show X 32 39 [vR 6, vI x1, vI x2, vI x3, vI x4] [] h _
          obtain ⟨c14, H⟩ := H
          refine X_b 3 42 (L := L_32) rfl rfl rfl ?_
          show (-2147483648 ≤ x4 + 1 ∧ x4 + 1 ≤ 2147483647) ∧ X 32 42 [vR 6, vI x1, vI x2, vI 0, vI (x4 + 1)] [] h _
          refine ⟨c14, ?_⟩
          refine X_goto (L := L_32) (n' := 18) rfl rfl rfl rfl ?_
          show X 32 18 [vR 6, vI x1, vI x2, vI 0, vI (x4 + 1)] [] h _
          exact H
        · have z13 : b_and (b_shr x1 (5 + (4 * x4))) 15 < 9 := (Int.not_le.mp z13)
          replace H := H.2 z13
          show X 32 37 [vR 6, vI x1, vI x2, vI x3, vI x4] [] h _
          obtain ⟨c15, H⟩ := H
          refine X_b 1 38 (L := L_32) rfl rfl rfl ?_
          show X 32 38 [vR 6, vI x1, vI x2, vI x3, vI x4] [vI 1] h _
          refine X_goto (L := L_32) (n' := 40) rfl rfl rfl rfl ?_
          show X 32 40 [vR 6, vI x1, vI x2, vI x3, vI x4] [vI 1] h _
          refine X_b 2 42 (L := L_32) rfl rfl rfl ?_
          show (-2147483648 ≤ x4 + 1 ∧ x4 + 1 ≤ 2147483647) ∧ X 32 42 [vR 6, vI x1, vI x2, vI 1, vI (x4 + 1)] [] h _
          refine ⟨c15, ?_⟩
          refine X_goto (L := L_32) (n' := 18) rfl rfl rfl rfl ?_
          show X 32 18 [vR 6, vI x1, vI x2, vI 1, vI (x4 + 1)] [] h _
          exact H

set_option maxRecDepth 8192 in
/-- PPModel.rule, row 73 -/
theorem s_32_73 (x1 x2 x4 : Int) (w3 : ab_V) (h : ab_S) (K : ab_O → ab_S → Prop) (H : ((x2 ≤ x4 → ((-2147483648 ≤ (h 6 1) + 1 ∧ (h 6 1) + 1 ≤ 2147483647) ∧ (-2147483648 ≤ ((h 6 1) + 1) - 1 ∧ ((h 6 1) + 1) - 1 ≤ 2147483647)) ∧ K (oI (((h 6 1) + 1) - 1)) (ab_up (ab_up (ab_up (ab_up (ab_up (ab_up (ab_up (ab_up h 6 1 ((h 6 1) + 1)) 6 7 0) 6 19 0) 6 22 0) 6 13 (-1)) 6 14 (-1)) 6 15 (-1)) 6 16 (-1))) ∧ (x4 < x2 → ((-2147483648 ≤ 4 * (h 6 1) ∧ 4 * (h 6 1) ≤ 2147483647) ∧ (0 ≤ (4 * (h 6 1)) + x4 ∧ (4 * (h 6 1)) + x4 < 32) ∧ (-2147483648 ≤ 4 * x4 ∧ 4 * x4 ≤ 2147483647) ∧ (-2147483648 ≤ 5 + (4 * x4) ∧ 5 + (4 * x4) ≤ 2147483647) ∧ (-2147483648 ≤ x4 + 1 ∧ x4 + 1 ≤ 2147483647)) ∧ X 32 73 [vR 6, vI x1, vI x2, w3, vI (x4 + 1)] [] (ab_up h 22 ((4 * (h 6 1)) + x4) (b_and (b_shr x1 (5 + (4 * x4))) 15)) K))) : X 32 73 [vR 6, vI x1, vI x2, w3, vI x4] [] h K := by
  refine X_b 2 75 (L := L_32) rfl rfl rfl ?_
  show X 32 75 [vR 6, vI x1, vI x2, w3, vI x4] [vI x2, vI x4] h _
  refine X_icmp (L := L_32) (n' := 96) rfl rfl rfl rfl (fun z1 => ?_) (fun z1 => ?_)
  · have z1 : x2 ≤ x4 := z1
    replace H := H.1 z1
    show X 32 96 [vR 6, vI x1, vI x2, w3, vI x4] [] h _
    obtain ⟨⟨c2, c3⟩, H⟩ := H
    refine X_b 7 103 (L := L_32) rfl rfl rfl ?_
    show (-2147483648 ≤ (h 6 1) + 1 ∧ (h 6 1) + 1 ≤ 2147483647) ∧ X 32 103 [vR 6, vI x1, vI x2, w3, vI x4] [vR 6] (ab_up h 6 1 ((h 6 1) + 1)) _
    refine ⟨c2, ?_⟩
    refine X_call 33 [vR 6] [] rfl (sg_calv rfl rfl rfl rfl rfl rfl rfl rfl rfl rfl rfl) (by decide) ?_
    show X 33 0 [vR 6] [] (ab_up h 6 1 ((h 6 1) + 1)) _
    refine X_b 4 4 (L := L_33) rfl rfl rfl ?_
    show X 33 4 [vR 6] [vR 6] (ab_up (ab_up h 6 1 ((h 6 1) + 1)) 6 7 0) _
    refine X_call 30 [vR 6] [] rfl (sg_calv rfl rfl rfl rfl rfl rfl rfl rfl rfl rfl rfl) (by decide) ?_
    show X 30 0 [vR 6] [] (ab_up (ab_up h 6 1 ((h 6 1) + 1)) 6 7 0) _
    refine X_b 6 6 (L := L_30) rfl rfl rfl ?_
    show ((0 : Int) = 0 ∨ (0 : Int) = 1) ∧ X 30 6 [vR 6] [] (ab_up (ab_up (ab_up (ab_up h 6 1 ((h 6 1) + 1)) 6 7 0) 6 19 0) 6 22 0) _
    refine ⟨by decide, ?_⟩
    refine X_ret (L := L_30) rfl rfl rfl rfl ?_
    show X 33 5 [vR 6] [] (ab_up (ab_up (ab_up (ab_up h 6 1 ((h 6 1) + 1)) 6 7 0) 6 19 0) 6 22 0) _
    refine X_b 5 10 (L := L_33) rfl rfl rfl ?_
    show X 33 10 [vR 6] [vI (-1), vI (-1), vI (-1), vI (-1), vR 6] (ab_up (ab_up (ab_up (ab_up h 6 1 ((h 6 1) + 1)) 6 7 0) 6 19 0) 6 22 0) _
    refine X_call 31 [vR 6, vI (-1), vI (-1), vI (-1), vI (-1)] [] rfl (sg_calv rfl rfl rfl rfl rfl rfl rfl rfl rfl rfl rfl) (by decide) ?_
    show X 31 0 [vR 6, vI (-1), vI (-1), vI (-1), vI (-1)] [] (ab_up (ab_up (ab_up (ab_up h 6 1 ((h 6 1) + 1)) 6 7 0) 6 19 0) 6 22 0) _
    refine X_b 13 13 (L := L_31) rfl rfl rfl ?_
    show X 31 13 [vR 6, vI (-1), vI (-1), vI (-1), vI (-1)] [vI 1] (ab_up (ab_up (ab_up (ab_up (ab_up (ab_up (ab_up (ab_up h 6 1 ((h 6 1) + 1)) 6 7 0) 6 19 0) 6 22 0) 6 13 (-1)) 6 14 (-1)) 6 15 (-1)) 6 16 (-1)) _
    refine X_zret (L := L_31) rfl rfl rfl rfl (by decide) ?_
    show X 33 11 [vR 6] [vI 1] (ab_up (ab_up (ab_up (ab_up (ab_up (ab_up (ab_up (ab_up h 6 1 ((h 6 1) + 1)) 6 7 0) 6 19 0) 6 22 0) 6 13 (-1)) 6 14 (-1)) 6 15 (-1)) 6 16 (-1)) _
    refine X_b 1 12 (L := L_33) rfl rfl rfl ?_
    show X 33 12 [vR 6] [] (ab_up (ab_up (ab_up (ab_up (ab_up (ab_up (ab_up (ab_up h 6 1 ((h 6 1) + 1)) 6 7 0) 6 19 0) 6 22 0) 6 13 (-1)) 6 14 (-1)) 6 15 (-1)) 6 16 (-1)) _
    refine X_ret (L := L_33) rfl rfl rfl rfl ?_
    show X 32 104 [vR 6, vI x1, vI x2, w3, vI x4] [] (ab_up (ab_up (ab_up (ab_up (ab_up (ab_up (ab_up (ab_up h 6 1 ((h 6 1) + 1)) 6 7 0) 6 19 0) 6 22 0) 6 13 (-1)) 6 14 (-1)) 6 15 (-1)) 6 16 (-1)) _
    refine X_b 4 108 (L := L_32) rfl rfl rfl ?_
    show (-2147483648 ≤ ((h 6 1) + 1) - 1 ∧ ((h 6 1) + 1) - 1 ≤ 2147483647) ∧ X 32 108 [vR 6, vI x1, vI x2, w3, vI x4] [vI (((h 6 1) + 1) - 1)] (ab_up (ab_up (ab_up (ab_up (ab_up (ab_up (ab_up (ab_up h 6 1 ((h 6 1) + 1)) 6 7 0) 6 19 0) 6 22 0) 6 13 (-1)) 6 14 (-1)) 6 15 (-1)) 6 16 (-1)) _
    refine ⟨c3, ?_⟩
    refine X_iret (L := L_32) rfl rfl rfl rfl ?_
    exact H
  · have z1 : x4 < x2 := (Int.not_le.mp z1)
    replace H := H.2 z1
    show X 32 76 [vR 6, vI x1, vI x2, w3, vI x4] [] h _
    obtain ⟨⟨c4, c5, c6, c7, c8⟩, H⟩ := H
    refine X_b 19 95 (L := L_32) rfl rfl rfl ?_
    show (-2147483648 ≤ 4 * (h 6 1) ∧ 4 * (h 6 1) ≤ 2147483647) ∧ (-2147483648 ≤ (4 * (h 6 1)) + x4 ∧ (4 * (h 6 1)) + x4 ≤ 2147483647) ∧ (-2147483648 ≤ 4 * x4 ∧ 4 * x4 ≤ 2147483647) ∧ (-2147483648 ≤ 5 + (4 * x4) ∧ 5 + (4 * x4) ≤ 2147483647) ∧ (0 ≤ (4 * (h 6 1)) + x4 ∧ (4 * (h 6 1)) + x4 < 32) ∧ (-2147483648 ≤ x4 + 1 ∧ x4 + 1 ≤ 2147483647) ∧ X 32 95 [vR 6, vI x1, vI x2, w3, vI (x4 + 1)] [] (ab_up h 22 ((4 * (h 6 1)) + x4) (b_and (b_shr x1 (5 + (4 * x4))) 15)) _
    refine ⟨c4, by have := c5; omega, c6, c7, c5, c8, ?_⟩
    refine X_goto (L := L_32) (n' := 73) rfl rfl rfl rfl ?_
    show X 32 73 [vR 6, vI x1, vI x2, w3, vI (x4 + 1)] [] (ab_up h 22 ((4 * (h 6 1)) + x4) (b_and (b_shr x1 (5 + (4 * x4))) 15)) _
    exact H

/-- PPModel.forget, row 0 -/
theorem s_33_0 (h : ab_S) (K : ab_O → ab_S → Prop) (H : K oV (ab_up (ab_up (ab_up (ab_up (ab_up (ab_up (ab_up h 6 7 0) 6 19 0) 6 22 0) 6 13 (-1)) 6 14 (-1)) 6 15 (-1)) 6 16 (-1))) : C 33 [vR 6] h K := by
  show X 33 0 [vR 6] [] h K
  refine X_b 4 4 (L := L_33) rfl rfl rfl ?_
  show X 33 4 [vR 6] [vR 6] (ab_up h 6 7 0) _
  refine X_call 30 [vR 6] [] rfl (sg_calv rfl rfl rfl rfl rfl rfl rfl rfl rfl rfl rfl) (by decide) ?_
  show X 30 0 [vR 6] [] (ab_up h 6 7 0) _
  refine X_b 6 6 (L := L_30) rfl rfl rfl ?_
  show ((0 : Int) = 0 ∨ (0 : Int) = 1) ∧ X 30 6 [vR 6] [] (ab_up (ab_up (ab_up h 6 7 0) 6 19 0) 6 22 0) _
  refine ⟨by decide, ?_⟩
  refine X_ret (L := L_30) rfl rfl rfl rfl ?_
  show X 33 5 [vR 6] [] (ab_up (ab_up (ab_up h 6 7 0) 6 19 0) 6 22 0) _
  refine X_b 5 10 (L := L_33) rfl rfl rfl ?_
  show X 33 10 [vR 6] [vI (-1), vI (-1), vI (-1), vI (-1), vR 6] (ab_up (ab_up (ab_up h 6 7 0) 6 19 0) 6 22 0) _
  refine X_call 31 [vR 6, vI (-1), vI (-1), vI (-1), vI (-1)] [] rfl (sg_calv rfl rfl rfl rfl rfl rfl rfl rfl rfl rfl rfl) (by decide) ?_
  show X 31 0 [vR 6, vI (-1), vI (-1), vI (-1), vI (-1)] [] (ab_up (ab_up (ab_up h 6 7 0) 6 19 0) 6 22 0) _
  refine X_b 13 13 (L := L_31) rfl rfl rfl ?_
  show X 31 13 [vR 6, vI (-1), vI (-1), vI (-1), vI (-1)] [vI 1] (ab_up (ab_up (ab_up (ab_up (ab_up (ab_up (ab_up h 6 7 0) 6 19 0) 6 22 0) 6 13 (-1)) 6 14 (-1)) 6 15 (-1)) 6 16 (-1)) _
  refine X_zret (L := L_31) rfl rfl rfl rfl (by decide) ?_
  show X 33 11 [vR 6] [vI 1] (ab_up (ab_up (ab_up (ab_up (ab_up (ab_up (ab_up h 6 7 0) 6 19 0) 6 22 0) 6 13 (-1)) 6 14 (-1)) 6 15 (-1)) 6 16 (-1)) _
  refine X_b 1 12 (L := L_33) rfl rfl rfl ?_
  show X 33 12 [vR 6] [] (ab_up (ab_up (ab_up (ab_up (ab_up (ab_up (ab_up h 6 7 0) 6 19 0) 6 22 0) 6 13 (-1)) 6 14 (-1)) 6 15 (-1)) 6 16 (-1)) _
  refine X_ret (L := L_33) rfl rfl rfl rfl ?_
  exact H

/-- PPModel.clear, row 0 -/
theorem s_34_0 (h : ab_S) (K : ab_O → ab_S → Prop) (H : K oV (ab_up (ab_up (ab_up (ab_up (ab_up (ab_up (ab_up (ab_up (ab_up h 6 0 0) 6 1 0) 6 7 0) 6 19 0) 6 22 0) 6 13 (-1)) 6 14 (-1)) 6 15 (-1)) 6 16 (-1))) : C 34 [vR 6] h K := by
  show X 34 0 [vR 6] [] h K
  refine X_b 7 7 (L := L_34) rfl rfl rfl ?_
  show X 34 7 [vR 6] [vR 6] (ab_up (ab_up h 6 0 0) 6 1 0) _
  refine X_call 33 [vR 6] [] rfl (sg_calv rfl rfl rfl rfl rfl rfl rfl rfl rfl rfl rfl) (by decide) ?_
  show X 33 0 [vR 6] [] (ab_up (ab_up h 6 0 0) 6 1 0) _
  refine X_b 4 4 (L := L_33) rfl rfl rfl ?_
  show X 33 4 [vR 6] [vR 6] (ab_up (ab_up (ab_up h 6 0 0) 6 1 0) 6 7 0) _
  refine X_call 30 [vR 6] [] rfl (sg_calv rfl rfl rfl rfl rfl rfl rfl rfl rfl rfl rfl) (by decide) ?_
  show X 30 0 [vR 6] [] (ab_up (ab_up (ab_up h 6 0 0) 6 1 0) 6 7 0) _
  refine X_b 6 6 (L := L_30) rfl rfl rfl ?_
  show ((0 : Int) = 0 ∨ (0 : Int) = 1) ∧ X 30 6 [vR 6] [] (ab_up (ab_up (ab_up (ab_up (ab_up h 6 0 0) 6 1 0) 6 7 0) 6 19 0) 6 22 0) _
  refine ⟨by decide, ?_⟩
  refine X_ret (L := L_30) rfl rfl rfl rfl ?_
  show X 33 5 [vR 6] [] (ab_up (ab_up (ab_up (ab_up (ab_up h 6 0 0) 6 1 0) 6 7 0) 6 19 0) 6 22 0) _
  refine X_b 5 10 (L := L_33) rfl rfl rfl ?_
  show X 33 10 [vR 6] [vI (-1), vI (-1), vI (-1), vI (-1), vR 6] (ab_up (ab_up (ab_up (ab_up (ab_up h 6 0 0) 6 1 0) 6 7 0) 6 19 0) 6 22 0) _
  refine X_call 31 [vR 6, vI (-1), vI (-1), vI (-1), vI (-1)] [] rfl (sg_calv rfl rfl rfl rfl rfl rfl rfl rfl rfl rfl rfl) (by decide) ?_
  show X 31 0 [vR 6, vI (-1), vI (-1), vI (-1), vI (-1)] [] (ab_up (ab_up (ab_up (ab_up (ab_up h 6 0 0) 6 1 0) 6 7 0) 6 19 0) 6 22 0) _
  refine X_b 13 13 (L := L_31) rfl rfl rfl ?_
  show X 31 13 [vR 6, vI (-1), vI (-1), vI (-1), vI (-1)] [vI 1] (ab_up (ab_up (ab_up (ab_up (ab_up (ab_up (ab_up (ab_up (ab_up h 6 0 0) 6 1 0) 6 7 0) 6 19 0) 6 22 0) 6 13 (-1)) 6 14 (-1)) 6 15 (-1)) 6 16 (-1)) _
  refine X_zret (L := L_31) rfl rfl rfl rfl (by decide) ?_
  show X 33 11 [vR 6] [vI 1] (ab_up (ab_up (ab_up (ab_up (ab_up (ab_up (ab_up (ab_up (ab_up h 6 0 0) 6 1 0) 6 7 0) 6 19 0) 6 22 0) 6 13 (-1)) 6 14 (-1)) 6 15 (-1)) 6 16 (-1)) _
  refine X_b 1 12 (L := L_33) rfl rfl rfl ?_
  show X 33 12 [vR 6] [] (ab_up (ab_up (ab_up (ab_up (ab_up (ab_up (ab_up (ab_up (ab_up h 6 0 0) 6 1 0) 6 7 0) 6 19 0) 6 22 0) 6 13 (-1)) 6 14 (-1)) 6 15 (-1)) 6 16 (-1)) _
  refine X_ret (L := L_33) rfl rfl rfl rfl ?_
  show X 34 8 [vR 6] [] (ab_up (ab_up (ab_up (ab_up (ab_up (ab_up (ab_up (ab_up (ab_up h 6 0 0) 6 1 0) 6 7 0) 6 19 0) 6 22 0) 6 13 (-1)) 6 14 (-1)) 6 15 (-1)) 6 16 (-1)) _
  refine X_ret (L := L_34) rfl rfl rfl rfl ?_
  exact H

/-- PPModel.vanishes, row 0 -/
theorem s_37_0 (x1 : Int) (h : ab_S) (K : ab_O → ab_S → Prop) (H : ((4 ≤ x1 → K (oI 0) h) ∧ (x1 < 4 → ((0 ≤ x1 ∧ x1 < 4)) ∧ ((h 23 x1 = 0 → K (oI 0) h) ∧ (¬ h 23 x1 = 0 → K (oI 1) h))))) : C 37 [vR 6, vI x1] h K := by
  show X 37 0 [vR 6, vI x1] [] h K
  refine X_b 2 2 (L := L_37) rfl rfl rfl ?_
  show X 37 2 [vR 6, vI x1] [vI 4, vI x1] h _
  refine X_icmp (L := L_37) (n' := 10) rfl rfl rfl rfl (fun z1 => ?_) (fun z1 => ?_)
  · have z1 : 4 ≤ x1 := z1
    replace H := H.1 z1
    show X 37 10 [vR 6, vI x1] [] h _
    refine X_b 1 11 (L := L_37) rfl rfl rfl ?_
    show X 37 11 [vR 6, vI x1] [vI 0] h _
    refine X_zret (L := L_37) rfl rfl rfl rfl (by decide) ?_
    exact H
  · have z1 : x1 < 4 := (Int.not_le.mp z1)
    replace H := H.2 z1
    show X 37 3 [vR 6, vI x1] [] h _
    obtain ⟨c2, H⟩ := H
    refine X_b 4 7 (L := L_37) rfl rfl rfl ?_
    show (0 ≤ x1 ∧ x1 < 4) ∧ X 37 7 [vR 6, vI x1] [vI (h 23 x1)] h _
    refine ⟨c2, ?_⟩
    refine X_if (L := L_37) (n' := 10) rfl rfl rfl rfl (fun z3 => ?_) (fun z3 => ?_)
    · have z3 : h 23 x1 = 0 := z3
      replace H := H.1 z3
      show X 37 10 [vR 6, vI x1] [] h _
      refine X_b 1 11 (L := L_37) rfl rfl rfl ?_
      show X 37 11 [vR 6, vI x1] [vI 0] h _
      refine X_zret (L := L_37) rfl rfl rfl rfl (by decide) ?_
      exact H
    · have z3 : ¬ h 23 x1 = 0 := z3
      replace H := H.2 z3
      show X 37 8 [vR 6, vI x1] [] h _
      refine X_b 1 9 (L := L_37) rfl rfl rfl ?_
      show X 37 9 [vR 6, vI x1] [vI 1] h _
      refine X_goto (L := L_37) (n' := 11) rfl rfl rfl rfl ?_
      show X 37 11 [vR 6, vI x1] [vI 1] h _
      refine X_zret (L := L_37) rfl rfl rfl rfl (by decide) ?_
      exact H

/-- PPModel.isEmpty, row 0 -/
theorem s_38_0 (x1 x2 x3 : Int) (h : ab_S) (K : ab_O → ab_S → Prop) (H : X 38 4 [vR 6, vI x1, vI x2, vI x3, vI 1, vI x2] [] h K) : C 38 [vR 6, vI x1, vI x2, vI x3] h K := by
  show X 38 0 [vR 6, vI x1, vI x2, vI x3, vJ 0, vJ 0] [] h K
  refine X_b 4 4 (L := L_38) rfl rfl rfl ?_
  show X 38 4 [vR 6, vI x1, vI x2, vI x3, vI 1, vI x2] [] h _
  exact H

/-- PPModel.isEmpty, row 4 -/
theorem s_38_4 (x1 x3 x4 x5 : Int) (w2 : ab_V) (h : ab_S) (K : ab_O → ab_S → Prop) (H : ((x3 ≤ x5 → ((x4 = 0 ∨ x4 = 1)) ∧ K (oI x4) h) ∧ (x5 < x3 → ((x4 = 0 → ((-2147483648 ≤ x5 + 1 ∧ x5 + 1 ≤ 2147483647)) ∧ X 38 4 [vR 6, vI x1, w2, vI x3, vI 0, vI (x5 + 1)] [] h K) ∧ (¬ x4 = 0 → ((0 ≤ x1 ∧ (x1 = h 6 1 ∨ (x1 < 8 ∧ h 21 x1 ≤ 4)) ∧ 0 ≤ x5)) ∧ ((4 ≤ nxt h x1 x5 → ((-2147483648 ≤ x5 + 1 ∧ x5 + 1 ≤ 2147483647)) ∧ X 38 4 [vR 6, vI x1, w2, vI x3, vI 0, vI (x5 + 1)] [] h K) ∧ (nxt h x1 x5 < 4 → ((0 ≤ nxt h x1 x5 ∧ nxt h x1 x5 < 4)) ∧ ((h 23 (nxt h x1 x5) = 0 → ((-2147483648 ≤ x5 + 1 ∧ x5 + 1 ≤ 2147483647)) ∧ X 38 4 [vR 6, vI x1, w2, vI x3, vI 0, vI (x5 + 1)] [] h K) ∧ (¬ h 23 (nxt h x1 x5) = 0 → ((-2147483648 ≤ x5 + 1 ∧ x5 + 1 ≤ 2147483647)) ∧ X 38 4 [vR 6, vI x1, w2, vI x3, vI 1, vI (x5 + 1)] [] h K))))))))) : X 38 4 [vR 6, vI x1, w2, vI x3, vI x4, vI x5] [] h K := by
  refine X_b 2 6 (L := L_38) rfl rfl rfl ?_
  show X 38 6 [vR 6, vI x1, w2, vI x3, vI x4, vI x5] [vI x3, vI x5] h _
  refine X_icmp (L := L_38) (n' := 22) rfl rfl rfl rfl (fun z1 => ?_) (fun z1 => ?_)
  · have z1 : x3 ≤ x5 := z1
    replace H := H.1 z1
    show X 38 22 [vR 6, vI x1, w2, vI x3, vI x4, vI x5] [] h _
    obtain ⟨c2, H⟩ := H
    refine X_b 1 23 (L := L_38) rfl rfl rfl ?_
    show X 38 23 [vR 6, vI x1, w2, vI x3, vI x4, vI x5] [vI x4] h _
    refine X_zret (L := L_38) rfl rfl rfl rfl c2 ?_
    exact H
  · have z1 : x5 < x3 := (Int.not_le.mp z1)
    replace H := H.2 z1
    show X 38 7 [vR 6, vI x1, w2, vI x3, vI x4, vI x5] [] h _
    refine X_b 1 8 (L := L_38) rfl rfl rfl ?_
    show X 38 8 [vR 6, vI x1, w2, vI x3, vI x4, vI x5] [vI x4] h _
    refine X_if (L := L_38) (n' := 18) rfl rfl rfl rfl (fun z3 => ?_) (fun z3 => ?_)
    · have z3 : x4 = 0 := z3
      replace H := H.1 z3
      show X 38 18 [vR 6, vI x1, w2, vI x3, vI x4, vI x5] [] h _
      obtain ⟨c4, H⟩ := H
      refine X_b 3 21 (L := L_38) rfl rfl rfl ?_
      show (-2147483648 ≤ x5 + 1 ∧ x5 + 1 ≤ 2147483647) ∧ X 38 21 [vR 6, vI x1, w2, vI x3, vI 0, vI (x5 + 1)] [] h _
      refine ⟨c4, ?_⟩
      refine X_goto (L := L_38) (n' := 4) rfl rfl rfl rfl ?_
      show X 38 4 [vR 6, vI x1, w2, vI x3, vI 0, vI (x5 + 1)] [] h _
      exact H
    · have z3 : ¬ x4 = 0 := z3
      replace H := H.2 z3
      show X 38 9 [vR 6, vI x1, w2, vI x3, vI x4, vI x5] [] h _
      obtain ⟨c5, H⟩ := H
      refine X_b 4 13 (L := L_38) rfl rfl rfl ?_
      show X 38 13 [vR 6, vI x1, w2, vI x3, vI x4, vI x5] [vI x5, vI x1, vR 6, vR 6] h _
      refine X_call 36 [vR 6, vI x1, vI x5] [vR 6] rfl (sg_calv rfl rfl rfl rfl rfl rfl rfl rfl rfl rfl rfl) (by decide) ?_
      refine f_next c5 ?_
      show X 38 14 [vR 6, vI x1, w2, vI x3, vI x4, vI x5] [vI (nxt h x1 x5), vR 6] h _
      refine X_call 37 [vR 6, vI (nxt h x1 x5)] [] rfl (sg_calv rfl rfl rfl rfl rfl rfl rfl rfl rfl rfl rfl) (by decide) ?_
      show X 37 0 [vR 6, vI (nxt h x1 x5)] [] h _
      refine X_b 2 2 (L := L_37) rfl rfl rfl ?_
      show X 37 2 [vR 6, vI (nxt h x1 x5)] [vI 4, vI (nxt h x1 x5)] h _
      refine X_icmp (L := L_37) (n' := 10) rfl rfl rfl rfl (fun z6 => ?_) (fun z6 => ?_)
      · have z6 : 4 ≤ nxt h x1 x5 := z6
        replace H := H.1 z6
        show X 37 10 [vR 6, vI (nxt h x1 x5)] [] h _
        obtain ⟨c7, H⟩ := H
        refine X_b 1 11 (L := L_37) rfl rfl rfl ?_
        show X 37 11 [vR 6, vI (nxt h x1 x5)] [vI 0] h _
        refine X_zret (L := L_37) rfl rfl rfl rfl (by decide) ?_
        show X 38 15 [vR 6, vI x1, w2, vI x3, vI x4, vI x5] [vI 0] h _
        refine X_if (L := L_38) (n' := 18) rfl rfl rfl rfl (fun _ => ?_) (fun z => absurd (show (0 : Int) = (0 : Int) by decide) z)
        show X 38 18 [vR 6, vI x1, w2, vI x3, vI x4, vI x5] [] h _
        refine X_b 3 21 (L := L_38) rfl rfl rfl ?_
        show (-2147483648 ≤ x5 + 1 ∧ x5 + 1 ≤ 2147483647) ∧ X 38 21 [vR 6, vI x1, w2, vI x3, vI 0, vI (x5 + 1)] [] h _
        refine ⟨c7, ?_⟩
        refine X_goto (L := L_38) (n' := 4) rfl rfl rfl rfl ?_
        show X 38 4 [vR 6, vI x1, w2, vI x3, vI 0, vI (x5 + 1)] [] h _
        exact H
      · have z6 : nxt h x1 x5 < 4 := (Int.not_le.mp z6)
        replace H := H.2 z6
        show X 37 3 [vR 6, vI (nxt h x1 x5)] [] h _
        obtain ⟨c8, H⟩ := H
        refine X_b 4 7 (L := L_37) rfl rfl rfl ?_
        show (0 ≤ nxt h x1 x5 ∧ nxt h x1 x5 < 4) ∧ X 37 7 [vR 6, vI (nxt h x1 x5)] [vI (h 23 (nxt h x1 x5))] h _
        refine ⟨c8, ?_⟩
        refine X_if (L := L_37) (n' := 10) rfl rfl rfl rfl (fun z9 => ?_) (fun z9 => ?_)
        · have z9 : h 23 (nxt h x1 x5) = 0 := z9
          replace H := H.1 z9
          show X 37 10 [vR 6, vI (nxt h x1 x5)] [] h _
          obtain ⟨c10, H⟩ := H
          refine X_b 1 11 (L := L_37) rfl rfl rfl ?_
          show X 37 11 [vR 6, vI (nxt h x1 x5)] [vI 0] h _
          refine X_zret (L := L_37) rfl rfl rfl rfl (by decide) ?_
          show X 38 15 [vR 6, vI x1, w2, vI x3, vI x4, vI x5] [vI 0] h _
          refine X_if (L := L_38) (n' := 18) rfl rfl rfl rfl (fun _ => ?_) (fun z => absurd (show (0 : Int) = (0 : Int) by decide) z)
          show X 38 18 [vR 6, vI x1, w2, vI x3, vI x4, vI x5] [] h _
          refine X_b 3 21 (L := L_38) rfl rfl rfl ?_
          show (-2147483648 ≤ x5 + 1 ∧ x5 + 1 ≤ 2147483647) ∧ X 38 21 [vR 6, vI x1, w2, vI x3, vI 0, vI (x5 + 1)] [] h _
          refine ⟨c10, ?_⟩
          refine X_goto (L := L_38) (n' := 4) rfl rfl rfl rfl ?_
          show X 38 4 [vR 6, vI x1, w2, vI x3, vI 0, vI (x5 + 1)] [] h _
          exact H
        · have z9 : ¬ h 23 (nxt h x1 x5) = 0 := z9
          replace H := H.2 z9
          show X 37 8 [vR 6, vI (nxt h x1 x5)] [] h _
          obtain ⟨c11, H⟩ := H
          refine X_b 1 9 (L := L_37) rfl rfl rfl ?_
          show X 37 9 [vR 6, vI (nxt h x1 x5)] [vI 1] h _
          refine X_goto (L := L_37) (n' := 11) rfl rfl rfl rfl ?_
          show X 37 11 [vR 6, vI (nxt h x1 x5)] [vI 1] h _
          refine X_zret (L := L_37) rfl rfl rfl rfl (by decide) ?_
          show X 38 15 [vR 6, vI x1, w2, vI x3, vI x4, vI x5] [vI 1] h _
          refine X_if (L := L_38) (n' := 18) rfl rfl rfl rfl (fun z => absurd z (show ¬ ((1 : Int) = (0 : Int)) by decide)) (fun _ => ?_)
          show X 38 16 [vR 6, vI x1, w2, vI x3, vI x4, vI x5] [] h _
          refine X_b 1 17 (L := L_38) rfl rfl rfl ?_
          show X 38 17 [vR 6, vI x1, w2, vI x3, vI x4, vI x5] [vI 1] h _
          refine X_goto (L := L_38) (n' := 19) rfl rfl rfl rfl ?_
          show X 38 19 [vR 6, vI x1, w2, vI x3, vI x4, vI x5] [vI 1] h _
          refine X_b 2 21 (L := L_38) rfl rfl rfl ?_
          show (-2147483648 ≤ x5 + 1 ∧ x5 + 1 ≤ 2147483647) ∧ X 38 21 [vR 6, vI x1, w2, vI x3, vI 1, vI (x5 + 1)] [] h _
          refine ⟨c11, ?_⟩
          refine X_goto (L := L_38) (n' := 4) rfl rfl rfl rfl ?_
          show X 38 4 [vR 6, vI x1, w2, vI x3, vI 1, vI (x5 + 1)] [] h _
          exact H

set_option maxRecDepth 8192 in
/-- PPModel.study, row 0 -/
theorem s_39_0 (h : ab_S) (K : ab_O → ab_S → Prop) (H : X 39 2 [vR 6, vI 0, vJ 0] [] h K) : C 39 [vR 6] h K := by
  show X 39 0 [vR 6, vJ 0, vJ 0] [] h K
  refine X_b 2 2 (L := L_39) rfl rfl rfl ?_
  show X 39 2 [vR 6, vI 0, vJ 0] [] h _
  exact H

set_option maxRecDepth 8192 in
/-- PPModel.study, row 2 -/
theorem s_39_2 (x1 : Int) (w2 : ab_V) (h : ab_S) (K : ab_O → ab_S → Prop) (H : ((4 ≤ x1 → X 39 14 [vR 6, vI 0, w2] [] h K) ∧ (x1 < 4 → ((0 ≤ x1 ∧ x1 < 4) ∧ (-2147483648 ≤ x1 + 1 ∧ x1 + 1 ≤ 2147483647)) ∧ X 39 2 [vR 6, vI (x1 + 1), w2] [] (ab_up h 23 x1 0) K))) : X 39 2 [vR 6, vI x1, w2] [] h K := by
  refine X_b 2 4 (L := L_39) rfl rfl rfl ?_
  show X 39 4 [vR 6, vI x1, w2] [vI 4, vI x1] h _
  refine X_icmp (L := L_39) (n' := 12) rfl rfl rfl rfl (fun z1 => ?_) (fun z1 => ?_)
  · have z1 : 4 ≤ x1 := z1
    replace H := H.1 z1
    show X 39 12 [vR 6, vI x1, w2] [] h _
    refine X_b 2 14 (L := L_39) rfl rfl rfl ?_
    show X 39 14 [vR 6, vI 0, w2] [] h _
    exact H
  · have z1 : x1 < 4 := (Int.not_le.mp z1)
    replace H := H.2 z1
    show X 39 5 [vR 6, vI x1, w2] [] h _
    obtain ⟨⟨c2, c3⟩, H⟩ := H
    refine X_b 6 11 (L := L_39) rfl rfl rfl ?_
    show (0 ≤ x1 ∧ x1 < 4) ∧ ((0 : Int) = 0 ∨ (0 : Int) = 1) ∧ (-2147483648 ≤ x1 + 1 ∧ x1 + 1 ≤ 2147483647) ∧ X 39 11 [vR 6, vI (x1 + 1), w2] [] (ab_up h 23 x1 0) _
    refine ⟨c2, by decide, c3, ?_⟩
    refine X_goto (L := L_39) (n' := 2) rfl rfl rfl rfl ?_
    show X 39 2 [vR 6, vI (x1 + 1), w2] [] (ab_up h 23 x1 0) _
    exact H

set_option maxRecDepth 8192 in
/-- PPModel.study, row 14 -/
theorem s_39_14 (x1 : Int) (w2 : ab_V) (h : ab_S) (K : ab_O → ab_S → Prop) (H : ((4 ≤ x1 → X 39 46 [vR 6, vI 0, w2] [] h K) ∧ (x1 < 4 → X 39 19 [vR 6, vI x1, vI 0] [] h K))) : X 39 14 [vR 6, vI x1, w2] [] h K := by
  refine X_b 2 16 (L := L_39) rfl rfl rfl ?_
  show X 39 16 [vR 6, vI x1, w2] [vI 4, vI x1] h _
  refine X_icmp (L := L_39) (n' := 44) rfl rfl rfl rfl (fun z1 => ?_) (fun z1 => ?_)
  · have z1 : 4 ≤ x1 := z1
    replace H := H.1 z1
    show X 39 44 [vR 6, vI x1, w2] [] h _
    refine X_b 2 46 (L := L_39) rfl rfl rfl ?_
    show X 39 46 [vR 6, vI 0, w2] [] h _
    exact H
  · have z1 : x1 < 4 := (Int.not_le.mp z1)
    replace H := H.2 z1
    show X 39 17 [vR 6, vI x1, w2] [] h _
    refine X_b 2 19 (L := L_39) rfl rfl rfl ?_
    show X 39 19 [vR 6, vI x1, vI 0] [] h _
    exact H

set_option maxRecDepth 8192 in
/-- PPModel.study, row 19 -/
theorem s_39_19 (x1 x2 : Int) (h : ab_S) (K : ab_O → ab_S → Prop) (H : ((h 6 1 ≤ x2 → ((-2147483648 ≤ x1 + 1 ∧ x1 + 1 ≤ 2147483647)) ∧ X 39 14 [vR 6, vI (x1 + 1), vI x2] [] h K) ∧ (x2 < h 6 1 → ((0 ≤ x2 ∧ x2 < 8)) ∧ C 38 [vR 6, vI x2, vI 0, vI (h 21 x2)] h (kI (fun v4 h4 => ((v4 = 0 → ((-2147483648 ≤ x2 + 1 ∧ x2 + 1 ≤ 2147483647)) ∧ X 39 19 [vR 6, vI x1, vI (x2 + 1)] [] h4 K) ∧ (¬ v4 = 0 → ((0 ≤ x2 ∧ x2 < 8) ∧ (0 ≤ h4 20 x2 ∧ h4 20 x2 < 4) ∧ (-2147483648 ≤ x2 + 1 ∧ x2 + 1 ≤ 2147483647)) ∧ X 39 19 [vR 6, vI x1, vI (x2 + 1)] [] (ab_up h4 23 (h4 20 x2) 1) K))))))) : X 39 19 [vR 6, vI x1, vI x2] [] h K := by
  refine X_b 3 22 (L := L_39) rfl rfl rfl ?_
  show X 39 22 [vR 6, vI x1, vI x2] [vI (h 6 1), vI x2] h _
  refine X_icmp (L := L_39) (n' := 42) rfl rfl rfl rfl (fun z1 => ?_) (fun z1 => ?_)
  · have z1 : h 6 1 ≤ x2 := z1
    replace H := H.1 z1
    show X 39 42 [vR 6, vI x1, vI x2] [] h _
    obtain ⟨c2, H⟩ := H
    refine X_b 1 43 (L := L_39) rfl rfl rfl ?_
    show (-2147483648 ≤ x1 + 1 ∧ x1 + 1 ≤ 2147483647) ∧ X 39 43 [vR 6, vI (x1 + 1), vI x2] [] h _
    refine ⟨c2, ?_⟩
    refine X_goto (L := L_39) (n' := 14) rfl rfl rfl rfl ?_
    show X 39 14 [vR 6, vI (x1 + 1), vI x2] [] h _
    exact H
  · have z1 : x2 < h 6 1 := (Int.not_le.mp z1)
    replace H := H.2 z1
    show X 39 23 [vR 6, vI x1, vI x2] [] h _
    obtain ⟨c3, H⟩ := H
    refine X_b 7 30 (L := L_39) rfl rfl rfl ?_
    show (0 ≤ x2 ∧ x2 < 8) ∧ X 39 30 [vR 6, vI x1, vI x2] [vI (h 21 x2), vI 0, vI x2, vR 6] h _
    refine ⟨c3, ?_⟩
    refine X_call 38 [vR 6, vI x2, vI 0, vI (h 21 x2)] [] rfl (sg_calv rfl rfl rfl rfl rfl rfl rfl rfl rfl rfl rfl) (by decide) ?_
    refine C_mono H (kI_to ?_)
    intro v4 h4 H
    show X 39 31 [vR 6, vI x1, vI x2] [vI v4] h4 _
    refine X_if (L := L_39) (n' := 40) rfl rfl rfl rfl (fun z5 => ?_) (fun z5 => ?_)
    · have z5 : v4 = 0 := z5
      replace H := H.1 z5
      show X 39 40 [vR 6, vI x1, vI x2] [] h4 _
      obtain ⟨c6, H⟩ := H
      refine X_b 1 41 (L := L_39) rfl rfl rfl ?_
      show (-2147483648 ≤ x2 + 1 ∧ x2 + 1 ≤ 2147483647) ∧ X 39 41 [vR 6, vI x1, vI (x2 + 1)] [] h4 _
      refine ⟨c6, ?_⟩
      refine X_goto (L := L_39) (n' := 19) rfl rfl rfl rfl ?_
      show X 39 19 [vR 6, vI x1, vI (x2 + 1)] [] h4 _
      exact H
    · have z5 : ¬ v4 = 0 := z5
      replace H := H.2 z5
      show X 39 32 [vR 6, vI x1, vI x2] [] h4 _
      obtain ⟨⟨c7, c8, c9⟩, H⟩ := H
      refine X_b 9 41 (L := L_39) rfl rfl rfl ?_
      show (0 ≤ x2 ∧ x2 < 8) ∧ (0 ≤ h4 20 x2 ∧ h4 20 x2 < 4) ∧ ((1 : Int) = 0 ∨ (1 : Int) = 1) ∧ (-2147483648 ≤ x2 + 1 ∧ x2 + 1 ≤ 2147483647) ∧ X 39 41 [vR 6, vI x1, vI (x2 + 1)] [] (ab_up h4 23 (h4 20 x2) 1) _
      refine ⟨c7, c8, by decide, c9, ?_⟩
      refine X_goto (L := L_39) (n' := 19) rfl rfl rfl rfl ?_
      show X 39 19 [vR 6, vI x1, vI (x2 + 1)] [] (ab_up h4 23 (h4 20 x2) 1) _
      exact H

set_option maxRecDepth 8192 in
/-- PPModel.study, row 46 -/
theorem s_39_46 (x1 : Int) (w2 : ab_V) (h : ab_S) (K : ab_O → ab_S → Prop) (H : ((81 ≤ x1 → X 39 67 [vR 6, vI 0, w2] [] h K) ∧ (x1 < 81 → ((0 ≤ x1 ∧ (0 : Int) < 9)) ∧ ((¬ x1 / 9 = x1 % 9 → ((0 ≤ x1 ∧ x1 < 81) ∧ (-2147483648 ≤ x1 + 1 ∧ x1 + 1 ≤ 2147483647)) ∧ X 39 46 [vR 6, vI (x1 + 1), w2] [] (ab_up h 24 x1 0) K) ∧ (x1 / 9 = x1 % 9 → ((0 ≤ x1 ∧ x1 < 81) ∧ (-2147483648 ≤ x1 + 1 ∧ x1 + 1 ≤ 2147483647)) ∧ X 39 46 [vR 6, vI (x1 + 1), w2] [] (ab_up h 24 x1 1) K))))) : X 39 46 [vR 6, vI x1, w2] [] h K := by
  refine X_b 2 48 (L := L_39) rfl rfl rfl ?_
  show X 39 48 [vR 6, vI x1, w2] [vI 81, vI x1] h _
  refine X_icmp (L := L_39) (n' := 65) rfl rfl rfl rfl (fun z1 => ?_) (fun z1 => ?_)
  · have z1 : 81 ≤ x1 := z1
    replace H := H.1 z1
    show X 39 65 [vR 6, vI x1, w2] [] h _
    refine X_b 2 67 (L := L_39) rfl rfl rfl ?_
    show X 39 67 [vR 6, vI 0, w2] [] h _
    exact H
  · have z1 : x1 < 81 := (Int.not_le.mp z1)
    replace H := H.2 z1
    show X 39 49 [vR 6, vI x1, w2] [] h _
    obtain ⟨c2, H⟩ := H
    refine X_b 9 58 (L := L_39) rfl rfl rfl ?_
    show (0 ≤ x1 ∧ (0 : Int) < 9) ∧ (0 ≤ x1 ∧ (0 : Int) < 9) ∧ X 39 58 [vR 6, vI x1, w2] [vI (x1 % 9), vI (x1 / 9), vI x1, vR 24] h _
    refine ⟨c2, c2, ?_⟩
    refine X_icmp (L := L_39) (n' := 61) rfl rfl rfl rfl (fun z3 => ?_) (fun z3 => ?_)
    · have z3 : ¬ x1 / 9 = x1 % 9 := z3
      replace H := H.1 z3
      show X 39 61 [vR 6, vI x1, w2] [vI x1, vR 24] h _
      obtain ⟨⟨c4, c5⟩, H⟩ := H
      refine X_b 3 64 (L := L_39) rfl rfl rfl ?_
      show (0 ≤ x1 ∧ x1 < 81) ∧ ((0 : Int) = 0 ∨ (0 : Int) = 1) ∧ (-2147483648 ≤ x1 + 1 ∧ x1 + 1 ≤ 2147483647) ∧ X 39 64 [vR 6, vI (x1 + 1), w2] [] (ab_up h 24 x1 0) _
      refine ⟨c4, by decide, c5, ?_⟩
      refine X_goto (L := L_39) (n' := 46) rfl rfl rfl rfl ?_
      show X 39 46 [vR 6, vI (x1 + 1), w2] [] (ab_up h 24 x1 0) _
      exact H
    · have z3 : x1 / 9 = x1 % 9 := (Classical.not_not.mp z3)
      replace H := H.2 z3
      show X 39 59 [vR 6, vI x1, w2] [vI x1, vR 24] h _
      obtain ⟨⟨c6, c7⟩, H⟩ := H
      refine X_b 1 60 (L := L_39) rfl rfl rfl ?_
      show X 39 60 [vR 6, vI x1, w2] [vI 1, vI x1, vR 24] h _
      refine X_goto (L := L_39) (n' := 62) rfl rfl rfl rfl ?_
      show X 39 62 [vR 6, vI x1, w2] [vI 1, vI x1, vR 24] h _
      refine X_b 2 64 (L := L_39) rfl rfl rfl ?_
      show (0 ≤ x1 ∧ x1 < 81) ∧ ((1 : Int) = 0 ∨ (1 : Int) = 1) ∧ (-2147483648 ≤ x1 + 1 ∧ x1 + 1 ≤ 2147483647) ∧ X 39 64 [vR 6, vI (x1 + 1), w2] [] (ab_up h 24 x1 1) _
      refine ⟨c6, by decide, c7, ?_⟩
      refine X_goto (L := L_39) (n' := 46) rfl rfl rfl rfl ?_
      show X 39 46 [vR 6, vI (x1 + 1), w2] [] (ab_up h 24 x1 1) _
      exact H

set_option maxRecDepth 8192 in
/-- PPModel.study, row 67 -/
theorem s_39_67 (x1 : Int) (w2 : ab_V) (h : ab_S) (K : ab_O → ab_S → Prop) (H : ((h 6 1 ≤ x1 → X 39 106 [vR 6, vI 0, w2] [] h K) ∧ (x1 < h 6 1 → X 39 73 [vR 6, vI x1, vI 0] [] h K))) : X 39 67 [vR 6, vI x1, w2] [] h K := by
  refine X_b 3 70 (L := L_39) rfl rfl rfl ?_
  show X 39 70 [vR 6, vI x1, w2] [vI (h 6 1), vI x1] h _
  refine X_icmp (L := L_39) (n' := 104) rfl rfl rfl rfl (fun z1 => ?_) (fun z1 => ?_)
  · have z1 : h 6 1 ≤ x1 := z1
    replace H := H.1 z1
    show X 39 104 [vR 6, vI x1, w2] [] h _
    refine X_b 2 106 (L := L_39) rfl rfl rfl ?_
    show X 39 106 [vR 6, vI 0, w2] [] h _
    exact H
  · have z1 : x1 < h 6 1 := (Int.not_le.mp z1)
    replace H := H.2 z1
    show X 39 71 [vR 6, vI x1, w2] [] h _
    refine X_b 2 73 (L := L_39) rfl rfl rfl ?_
    show X 39 73 [vR 6, vI x1, vI 0] [] h _
    exact H

set_option maxRecDepth 8192 in
/-- PPModel.study, row 73 -/
theorem s_39_73 (x1 x2 : Int) (h : ab_S) (K : ab_O → ab_S → Prop) (H : ((0 ≤ x1 ∧ x1 < 8)) ∧ ((h 21 x1 ≤ x2 → ((-2147483648 ≤ x1 + 1 ∧ x1 + 1 ≤ 2147483647)) ∧ X 39 67 [vR 6, vI (x1 + 1), vI x2] [] h K) ∧ (x2 < h 21 x1 → C 38 [vR 6, vI x1, vI 0, vI x2] h (kI (fun v4 h4 => ((v4 = 0 → ((-2147483648 ≤ x2 + 1 ∧ x2 + 1 ≤ 2147483647)) ∧ X 39 73 [vR 6, vI x1, vI (x2 + 1)] [] h4 K) ∧ (¬ v4 = 0 → ((0 ≤ x1 ∧ x1 < 8) ∧ (-2147483648 ≤ 9 * (h4 20 x1) ∧ 9 * (h4 20 x1) ≤ 2147483647) ∧ (0 ≤ x1 ∧ (x1 = h4 6 1 ∨ (x1 < 8 ∧ h4 21 x1 ≤ 4)) ∧ 0 ≤ x2) ∧ (0 ≤ (9 * (h4 20 x1)) + (nxt h4 x1 x2) ∧ (9 * (h4 20 x1)) + (nxt h4 x1 x2) < 81) ∧ (-2147483648 ≤ x2 + 1 ∧ x2 + 1 ≤ 2147483647)) ∧ X 39 73 [vR 6, vI x1, vI (x2 + 1)] [] (ab_up h4 24 ((9 * (h4 20 x1)) + (nxt h4 x1 x2)) 1) K))))))) : X 39 73 [vR 6, vI x1, vI x2] [] h K := by
  obtain ⟨c1, H⟩ := H
  refine X_b 5 78 (L := L_39) rfl rfl rfl ?_
  show (0 ≤ x1 ∧ x1 < 8) ∧ X 39 78 [vR 6, vI x1, vI x2] [vI (h 21 x1), vI x2] h _
  refine ⟨c1, ?_⟩
  refine X_icmp (L := L_39) (n' := 102) rfl rfl rfl rfl (fun z2 => ?_) (fun z2 => ?_)
  · have z2 : h 21 x1 ≤ x2 := z2
    replace H := H.1 z2
    show X 39 102 [vR 6, vI x1, vI x2] [] h _
    obtain ⟨c3, H⟩ := H
    refine X_b 1 103 (L := L_39) rfl rfl rfl ?_
    show (-2147483648 ≤ x1 + 1 ∧ x1 + 1 ≤ 2147483647) ∧ X 39 103 [vR 6, vI (x1 + 1), vI x2] [] h _
    refine ⟨c3, ?_⟩
    refine X_goto (L := L_39) (n' := 67) rfl rfl rfl rfl ?_
    show X 39 67 [vR 6, vI (x1 + 1), vI x2] [] h _
    exact H
  · have z2 : x2 < h 21 x1 := (Int.not_le.mp z2)
    replace H := H.2 z2
    show X 39 79 [vR 6, vI x1, vI x2] [] h _
    refine X_b 4 83 (L := L_39) rfl rfl rfl ?_
    show X 39 83 [vR 6, vI x1, vI x2] [vI x2, vI 0, vI x1, vR 6] h _
    refine X_call 38 [vR 6, vI x1, vI 0, vI x2] [] rfl (sg_calv rfl rfl rfl rfl rfl rfl rfl rfl rfl rfl rfl) (by decide) ?_
    refine C_mono H (kI_to ?_)
    intro v4 h4 H
    show X 39 84 [vR 6, vI x1, vI x2] [vI v4] h4 _
    refine X_if (L := L_39) (n' := 100) rfl rfl rfl rfl (fun z5 => ?_) (fun z5 => ?_)
    · have z5 : v4 = 0 := z5
      replace H := H.1 z5
      show X 39 100 [vR 6, vI x1, vI x2] [] h4 _
      obtain ⟨c6, H⟩ := H
      refine X_b 1 101 (L := L_39) rfl rfl rfl ?_
      show (-2147483648 ≤ x2 + 1 ∧ x2 + 1 ≤ 2147483647) ∧ X 39 101 [vR 6, vI x1, vI (x2 + 1)] [] h4 _
      refine ⟨c6, ?_⟩
      refine X_goto (L := L_39) (n' := 73) rfl rfl rfl rfl ?_
      show X 39 73 [vR 6, vI x1, vI (x2 + 1)] [] h4 _
      exact H
    · have z5 : ¬ v4 = 0 := z5
      replace H := H.2 z5
      show X 39 85 [vR 6, vI x1, vI x2] [] h4 _
      obtain ⟨⟨c7, c8, c9, c10, c11⟩, H⟩ := H
      refine X_b 11 96 (L := L_39) rfl rfl rfl ?_
      show (0 ≤ x1 ∧ x1 < 8) ∧ (-2147483648 ≤ 9 * (h4 20 x1) ∧ 9 * (h4 20 x1) ≤ 2147483647) ∧ X 39 96 [vR 6, vI x1, vI x2] [vI x2, vI x1, vR 6, vI (9 * (h4 20 x1)), vR 24] h4 _
      refine ⟨c7, c8, ?_⟩
      refine X_call 36 [vR 6, vI x1, vI x2] [vI (9 * (h4 20 x1)), vR 24] rfl (sg_calv rfl rfl rfl rfl rfl rfl rfl rfl rfl rfl rfl) (by decide) ?_
      refine f_next c9 ?_
      show X 39 97 [vR 6, vI x1, vI x2] [vI (nxt h4 x1 x2), vI (9 * (h4 20 x1)), vR 24] h4 _
      refine X_b 4 101 (L := L_39) rfl rfl rfl ?_
      show (-2147483648 ≤ (9 * (h4 20 x1)) + (nxt h4 x1 x2) ∧ (9 * (h4 20 x1)) + (nxt h4 x1 x2) ≤ 2147483647) ∧ (0 ≤ (9 * (h4 20 x1)) + (nxt h4 x1 x2) ∧ (9 * (h4 20 x1)) + (nxt h4 x1 x2) < 81) ∧ ((1 : Int) = 0 ∨ (1 : Int) = 1) ∧ (-2147483648 ≤ x2 + 1 ∧ x2 + 1 ≤ 2147483647) ∧ X 39 101 [vR 6, vI x1, vI (x2 + 1)] [] (ab_up h4 24 ((9 * (h4 20 x1)) + (nxt h4 x1 x2)) 1) _
      refine ⟨by have := c10; omega, c10, by decide, c11, ?_⟩
      refine X_goto (L := L_39) (n' := 73) rfl rfl rfl rfl ?_
      show X 39 73 [vR 6, vI x1, vI (x2 + 1)] [] (ab_up h4 24 ((9 * (h4 20 x1)) + (nxt h4 x1 x2)) 1) _
      exact H

set_option maxRecDepth 8192 in
/-- PPModel.study, row 106 -/
theorem s_39_106 (x1 : Int) (w2 : ab_V) (h : ab_S) (K : ab_O → ab_S → Prop) (H : ((9 ≤ x1 → K oV h) ∧ (x1 < 9 → X 39 111 [vR 6, vI x1, vI 0] [] h K))) : X 39 106 [vR 6, vI x1, w2] [] h K := by
  refine X_b 2 108 (L := L_39) rfl rfl rfl ?_
  show X 39 108 [vR 6, vI x1, w2] [vI 9, vI x1] h _
  refine X_icmp (L := L_39) (n' := 152) rfl rfl rfl rfl (fun z1 => ?_) (fun z1 => ?_)
  · have z1 : 9 ≤ x1 := z1
    replace H := H.1 z1
    show X 39 152 [vR 6, vI x1, w2] [] h _
    refine X_ret (L := L_39) rfl rfl rfl rfl ?_
    exact H
  · have z1 : x1 < 9 := (Int.not_le.mp z1)
    replace H := H.2 z1
    show X 39 109 [vR 6, vI x1, w2] [] h _
    refine X_b 2 111 (L := L_39) rfl rfl rfl ?_
    show X 39 111 [vR 6, vI x1, vI 0] [] h _
    exact H

set_option maxRecDepth 8192 in
/-- PPModel.study, row 111 -/
theorem s_39_111 (x1 x2 : Int) (h : ab_S) (K : ab_O → ab_S → Prop) (H : ((81 ≤ x2 → ((-2147483648 ≤ x1 + 1 ∧ x1 + 1 ≤ 2147483647)) ∧ X 39 106 [vR 6, vI (x1 + 1), vI x2] [] h K) ∧ (x2 < 81 → ((0 ≤ x2 ∧ x2 < 81)) ∧ ((¬ h 24 x2 = 0 → ((-2147483648 ≤ x2 + 1 ∧ x2 + 1 ≤ 2147483647)) ∧ X 39 111 [vR 6, vI x1, vI (x2 + 1)] [] (ab_up h 24 x2 1) K) ∧ (h 24 x2 = 0 → ((0 ≤ x2 ∧ (0 : Int) < 9) ∧ (-2147483648 ≤ 9 * (x2 / 9) ∧ 9 * (x2 / 9) ≤ 2147483647) ∧ (0 ≤ (9 * (x2 / 9)) + x1 ∧ (9 * (x2 / 9)) + x1 < 81)) ∧ ((h 24 ((9 * (x2 / 9)) + x1) = 0 → ((-2147483648 ≤ x2 + 1 ∧ x2 + 1 ≤ 2147483647)) ∧ X 39 111 [vR 6, vI x1, vI (x2 + 1)] [] (ab_up h 24 x2 0) K) ∧ (¬ h 24 ((9 * (x2 / 9)) + x1) = 0 → ((-2147483648 ≤ 9 * x1 ∧ 9 * x1 ≤ 2147483647) ∧ (0 ≤ (9 * x1) + (x2 % 9) ∧ (9 * x1) + (x2 % 9) < 81)) ∧ ((h 24 ((9 * x1) + (x2 % 9)) = 0 → ((-2147483648 ≤ x2 + 1 ∧ x2 + 1 ≤ 2147483647)) ∧ X 39 111 [vR 6, vI x1, vI (x2 + 1)] [] (ab_up h 24 x2 0) K) ∧ (¬ h 24 ((9 * x1) + (x2 % 9)) = 0 → ((-2147483648 ≤ x2 + 1 ∧ x2 + 1 ≤ 2147483647)) ∧ X 39 111 [vR 6, vI x1, vI (x2 + 1)] [] (ab_up h 24 x2 1) K))))))))) : X 39 111 [vR 6, vI x1, vI x2] [] h K := by
  refine X_b 2 113 (L := L_39) rfl rfl rfl ?_
  show X 39 113 [vR 6, vI x1, vI x2] [vI 81, vI x2] h _
  refine X_icmp (L := L_39) (n' := 150) rfl rfl rfl rfl (fun z1 => ?_) (fun z1 => ?_)
  · have z1 : 81 ≤ x2 := z1
    replace H := H.1 z1
    show X 39 150 [vR 6, vI x1, vI x2] [] h _
    obtain ⟨c2, H⟩ := H
    refine X_b 1 151 (L := L_39) rfl rfl rfl ?_
    show (-2147483648 ≤ x1 + 1 ∧ x1 + 1 ≤ 2147483647) ∧ X 39 151 [vR 6, vI (x1 + 1), vI x2] [] h _
    refine ⟨c2, ?_⟩
    refine X_goto (L := L_39) (n' := 106) rfl rfl rfl rfl ?_
    show X 39 106 [vR 6, vI (x1 + 1), vI x2] [] h _
    exact H
  · have z1 : x2 < 81 := (Int.not_le.mp z1)
    replace H := H.2 z1
    show X 39 114 [vR 6, vI x1, vI x2] [] h _
    obtain ⟨c3, H⟩ := H
    refine X_b 7 121 (L := L_39) rfl rfl rfl ?_
    show (0 ≤ x2 ∧ x2 < 81) ∧ X 39 121 [vR 6, vI x1, vI x2] [vI (h 24 x2), vI x2, vR 24] h _
    refine ⟨c3, ?_⟩
    refine X_if (L := L_39) (n' := 144) rfl rfl rfl rfl (fun z4 => ?_) (fun z4 => ?_)
    · have z4 : ¬ h 24 x2 = 0 := z4
      replace H := H.1 z4
      show X 39 144 [vR 6, vI x1, vI x2] [vI x2, vR 24] h _
      obtain ⟨c5, H⟩ := H
      refine X_b 1 145 (L := L_39) rfl rfl rfl ?_
      show X 39 145 [vR 6, vI x1, vI x2] [vI 1, vI x2, vR 24] h _
      refine X_goto (L := L_39) (n' := 147) rfl rfl rfl rfl ?_
      show X 39 147 [vR 6, vI x1, vI x2] [vI 1, vI x2, vR 24] h _
      refine X_b 2 149 (L := L_39) rfl rfl rfl ?_
      show (0 ≤ x2 ∧ x2 < 81) ∧ ((1 : Int) = 0 ∨ (1 : Int) = 1) ∧ (-2147483648 ≤ x2 + 1 ∧ x2 + 1 ≤ 2147483647) ∧ X 39 149 [vR 6, vI x1, vI (x2 + 1)] [] (ab_up h 24 x2 1) _
      refine ⟨c3, by decide, c5, ?_⟩
      refine X_goto (L := L_39) (n' := 111) rfl rfl rfl rfl ?_
      show X 39 111 [vR 6, vI x1, vI (x2 + 1)] [] (ab_up h 24 x2 1) _
      exact H
    · have z4 : h 24 x2 = 0 := (Classical.not_not.mp z4)
      replace H := H.2 z4
      show X 39 122 [vR 6, vI x1, vI x2] [vI x2, vR 24] h _
      obtain ⟨⟨c6, c7, c8⟩, H⟩ := H
      refine X_b 10 132 (L := L_39) rfl rfl rfl ?_
      show (0 ≤ x2 ∧ (0 : Int) < 9) ∧ (-2147483648 ≤ 9 * (x2 / 9) ∧ 9 * (x2 / 9) ≤ 2147483647) ∧ (-2147483648 ≤ (9 * (x2 / 9)) + x1 ∧ (9 * (x2 / 9)) + x1 ≤ 2147483647) ∧ (0 ≤ (9 * (x2 / 9)) + x1 ∧ (9 * (x2 / 9)) + x1 < 81) ∧ X 39 132 [vR 6, vI x1, vI x2] [vI (h 24 ((9 * (x2 / 9)) + x1)), vI x2, vR 24] h _
      refine ⟨c6, c7, by have := c8; omega, c8, ?_⟩
      refine X_if (L := L_39) (n' := 146) rfl rfl rfl rfl (fun z9 => ?_) (fun z9 => ?_)
      · have z9 : h 24 ((9 * (x2 / 9)) + x1) = 0 := z9
        replace H := H.1 z9
        show X 39 146 [vR 6, vI x1, vI x2] [vI x2, vR 24] h _
        obtain ⟨c10, H⟩ := H
        refine X_b 3 149 (L := L_39) rfl rfl rfl ?_
        show (0 ≤ x2 ∧ x2 < 81) ∧ ((0 : Int) = 0 ∨ (0 : Int) = 1) ∧ (-2147483648 ≤ x2 + 1 ∧ x2 + 1 ≤ 2147483647) ∧ X 39 149 [vR 6, vI x1, vI (x2 + 1)] [] (ab_up h 24 x2 0) _
        refine ⟨c3, by decide, c10, ?_⟩
        refine X_goto (L := L_39) (n' := 111) rfl rfl rfl rfl ?_
        show X 39 111 [vR 6, vI x1, vI (x2 + 1)] [] (ab_up h 24 x2 0) _
        exact H
      · have z9 : ¬ h 24 ((9 * (x2 / 9)) + x1) = 0 := z9
        replace H := H.2 z9
        show X 39 133 [vR 6, vI x1, vI x2] [vI x2, vR 24] h _
        obtain ⟨⟨c11, c12⟩, H⟩ := H
        refine X_b 10 143 (L := L_39) rfl rfl rfl ?_
        show (-2147483648 ≤ 9 * x1 ∧ 9 * x1 ≤ 2147483647) ∧ (0 ≤ x2 ∧ (0 : Int) < 9) ∧ (-2147483648 ≤ (9 * x1) + (x2 % 9) ∧ (9 * x1) + (x2 % 9) ≤ 2147483647) ∧ (0 ≤ (9 * x1) + (x2 % 9) ∧ (9 * x1) + (x2 % 9) < 81) ∧ X 39 143 [vR 6, vI x1, vI x2] [vI (h 24 ((9 * x1) + (x2 % 9))), vI x2, vR 24] h _
        refine ⟨c11, c6, by have := c12; omega, c12, ?_⟩
        refine X_if (L := L_39) (n' := 146) rfl rfl rfl rfl (fun z13 => ?_) (fun z13 => ?_)
        · have z13 : h 24 ((9 * x1) + (x2 % 9)) = 0 := z13
          replace H := H.1 z13
          show X 39 146 [vR 6, vI x1, vI x2] [vI x2, vR 24] h _
          obtain ⟨c14, H⟩ := H
          refine X_b 3 149 (L := L_39) rfl rfl rfl ?_
          show (0 ≤ x2 ∧ x2 < 81) ∧ ((0 : Int) = 0 ∨ (0 : Int) = 1) ∧ (-2147483648 ≤ x2 + 1 ∧ x2 + 1 ≤ 2147483647) ∧ X 39 149 [vR 6, vI x1, vI (x2 + 1)] [] (ab_up h 24 x2 0) _
          refine ⟨c3, by decide, c14, ?_⟩
          refine X_goto (L := L_39) (n' := 111) rfl rfl rfl rfl ?_
          show X 39 111 [vR 6, vI x1, vI (x2 + 1)] [] (ab_up h 24 x2 0) _
          exact H
        · have z13 : ¬ h 24 ((9 * x1) + (x2 % 9)) = 0 := z13
          replace H := H.2 z13
          show X 39 144 [vR 6, vI x1, vI x2] [vI x2, vR 24] h _
          obtain ⟨c15, H⟩ := H
          refine X_b 1 145 (L := L_39) rfl rfl rfl ?_
          show X 39 145 [vR 6, vI x1, vI x2] [vI 1, vI x2, vR 24] h _
          refine X_goto (L := L_39) (n' := 147) rfl rfl rfl rfl ?_
          show X 39 147 [vR 6, vI x1, vI x2] [vI 1, vI x2, vR 24] h _
          refine X_b 2 149 (L := L_39) rfl rfl rfl ?_
          show (0 ≤ x2 ∧ x2 < 81) ∧ ((1 : Int) = 0 ∨ (1 : Int) = 1) ∧ (-2147483648 ≤ x2 + 1 ∧ x2 + 1 ≤ 2147483647) ∧ X 39 149 [vR 6, vI x1, vI (x2 + 1)] [] (ab_up h 24 x2 1) _
          refine ⟨c3, by decide, c15, ?_⟩
          refine X_goto (L := L_39) (n' := 111) rfl rfl rfl rfl ?_
          show X 39 111 [vR 6, vI x1, vI (x2 + 1)] [] (ab_up h 24 x2 1) _
          exact H

/-- PPModel.isFirst, row 0 -/
theorem s_40_0 (x1 x2 x3 x4 : Int) (h : ab_S) (K : ab_O → ab_S → Prop) (H : ((¬ x1 = x4 → X 40 17 [vR 6, vI x1, vI x2, vI x3, vI x4, vI 0, vI x3] [] h K) ∧ (x1 = x4 → ((0 ≤ x2 ∧ (x2 = h 6 1 ∨ x2 < 8))) ∧ C 38 [vR 6, vI x2, vI x3, vI (szo h x2)] h (kI (fun v3 h3 => ((v3 = 0 → X 40 17 [vR 6, vI x1, vI x2, vI x3, vI x4, vI 0, vI x3] [] h3 K) ∧ (¬ v3 = 0 → X 40 17 [vR 6, vI x1, vI x2, vI x3, vI x4, vI 1, vI x3] [] h3 K))))))) : C 40 [vR 6, vI x1, vI x2, vI x3, vI x4] h K := by
  show X 40 0 [vR 6, vI x1, vI x2, vI x3, vI x4, vJ 0, vJ 0] [] h K
  refine X_b 2 2 (L := L_40) rfl rfl rfl ?_
  show X 40 2 [vR 6, vI x1, vI x2, vI x3, vI x4, vJ 0, vJ 0] [vI x4, vI x1] h _
  refine X_icmp (L := L_40) (n' := 13) rfl rfl rfl rfl (fun z1 => ?_) (fun z1 => ?_)
  · have z1 : ¬ x1 = x4 := z1
    replace H := H.1 z1
    show X 40 13 [vR 6, vI x1, vI x2, vI x3, vI x4, vJ 0, vJ 0] [] h _
    refine X_b 4 17 (L := L_40) rfl rfl rfl ?_
    show X 40 17 [vR 6, vI x1, vI x2, vI x3, vI x4, vI 0, vI x3] [] h _
    exact H
  · have z1 : x1 = x4 := (Classical.not_not.mp z1)
    replace H := H.2 z1
    show X 40 3 [vR 6, vI x1, vI x2, vI x3, vI x4, vJ 0, vJ 0] [] h _
    obtain ⟨c2, H⟩ := H
    refine X_b 5 8 (L := L_40) rfl rfl rfl ?_
    show X 40 8 [vR 6, vI x1, vI x2, vI x3, vI x4, vJ 0, vJ 0] [vI x2, vR 6, vI x3, vI x2, vR 6] h _
    refine X_call 35 [vR 6, vI x2] [vI x3, vI x2, vR 6] rfl (sg_calv rfl rfl rfl rfl rfl rfl rfl rfl rfl rfl rfl) (by decide) ?_
    refine f_size c2 ?_
    show X 40 9 [vR 6, vI x1, vI x2, vI x3, vI x4, vJ 0, vJ 0] [vI (szo h x2), vI x3, vI x2, vR 6] h _
    refine X_call 38 [vR 6, vI x2, vI x3, vI (szo h x2)] [] rfl (sg_calv rfl rfl rfl rfl rfl rfl rfl rfl rfl rfl rfl) (by decide) ?_
    refine C_mono H (kI_to ?_)
    intro v3 h3 H
    show X 40 10 [vR 6, vI x1, vI x2, vI x3, vI x4, vJ 0, vJ 0] [vI v3] h3 _
    refine X_if (L := L_40) (n' := 13) rfl rfl rfl rfl (fun z4 => ?_) (fun z4 => ?_)
    · have z4 : v3 = 0 := z4
      replace H := H.1 z4
      show X 40 13 [vR 6, vI x1, vI x2, vI x3, vI x4, vJ 0, vJ 0] [] h3 _
      refine X_b 4 17 (L := L_40) rfl rfl rfl ?_
      show X 40 17 [vR 6, vI x1, vI x2, vI x3, vI x4, vI 0, vI x3] [] h3 _
      exact H
    · have z4 : ¬ v3 = 0 := z4
      replace H := H.2 z4
      show X 40 11 [vR 6, vI x1, vI x2, vI x3, vI x4, vJ 0, vJ 0] [] h3 _
      refine X_b 1 12 (L := L_40) rfl rfl rfl ?_
      show X 40 12 [vR 6, vI x1, vI x2, vI x3, vI x4, vJ 0, vJ 0] [vI 1] h3 _
      refine X_goto (L := L_40) (n' := 14) rfl rfl rfl rfl ?_
      show X 40 14 [vR 6, vI x1, vI x2, vI x3, vI x4, vJ 0, vJ 0] [vI 1] h3 _
      refine X_b 3 17 (L := L_40) rfl rfl rfl ?_
      show X 40 17 [vR 6, vI x1, vI x2, vI x3, vI x4, vI 1, vI x3] [] h3 _
      exact H

/-- PPModel.isFirst, row 17 -/
theorem s_40_17 (x1 x2 x3 x5 x6 : Int) (w4 : ab_V) (h : ab_S) (K : ab_O → ab_S → Prop) (H : ((0 ≤ x2 ∧ (x2 = h 6 1 ∨ x2 < 8))) ∧ ((szo h x2 ≤ x6 → ((x5 = 0 ∨ x5 = 1)) ∧ K (oI x5) h) ∧ (x6 < szo h x2 → ((9 ≤ x1 → ((x5 = 0 ∨ x5 = 1)) ∧ K (oI x5) h) ∧ (x1 < 9 → ((¬ x5 = 0 → ((-2147483648 ≤ x6 + 1 ∧ x6 + 1 ≤ 2147483647)) ∧ X 40 17 [vR 6, vI x1, vI x2, vI x3, w4, vI 1, vI (x6 + 1)] [] h K) ∧ (x5 = 0 → C 38 [vR 6, vI x2, vI x3, vI x6] h (kI (fun v8 h8 => ((v8 = 0 → ((-2147483648 ≤ x6 + 1 ∧ x6 + 1 ≤ 2147483647)) ∧ X 40 17 [vR 6, vI x1, vI x2, vI x3, w4, vI 0, vI (x6 + 1)] [] h8 K) ∧ (¬ v8 = 0 → ((0 ≤ x2 ∧ (x2 = h8 6 1 ∨ (x2 < 8 ∧ h8 21 x2 ≤ 4)) ∧ 0 ≤ x6) ∧ (-2147483648 ≤ 9 * (nxt h8 x2 x6) ∧ 9 * (nxt h8 x2 x6) ≤ 2147483647) ∧ (0 ≤ (9 * (nxt h8 x2 x6)) + x1 ∧ (9 * (nxt h8 x2 x6)) + x1 < 81)) ∧ ((h8 24 ((9 * (nxt h8 x2 x6)) + x1) = 0 → ((-2147483648 ≤ x6 + 1 ∧ x6 + 1 ≤ 2147483647)) ∧ X 40 17 [vR 6, vI x1, vI x2, vI x3, w4, vI 0, vI (x6 + 1)] [] h8 K) ∧ (¬ h8 24 ((9 * (nxt h8 x2 x6)) + x1) = 0 → ((-2147483648 ≤ x6 + 1 ∧ x6 + 1 ≤ 2147483647)) ∧ X 40 17 [vR 6, vI x1, vI x2, vI x3, w4, vI 1, vI (x6 + 1)] [] h8 K))))))))))))) : X 40 17 [vR 6, vI x1, vI x2, vI x3, w4, vI x5, vI x6] [] h K := by
  obtain ⟨c1, H⟩ := H
  refine X_b 3 20 (L := L_40) rfl rfl rfl ?_
  show X 40 20 [vR 6, vI x1, vI x2, vI x3, w4, vI x5, vI x6] [vI x2, vR 6, vI x6] h _
  refine X_call 35 [vR 6, vI x2] [vI x6] rfl (sg_calv rfl rfl rfl rfl rfl rfl rfl rfl rfl rfl rfl) (by decide) ?_
  refine f_size c1 ?_
  show X 40 21 [vR 6, vI x1, vI x2, vI x3, w4, vI x5, vI x6] [vI (szo h x2), vI x6] h _
  refine X_icmp (L := L_40) (n' := 51) rfl rfl rfl rfl (fun z2 => ?_) (fun z2 => ?_)
  · have z2 : szo h x2 ≤ x6 := z2
    replace H := H.1 z2
    show X 40 51 [vR 6, vI x1, vI x2, vI x3, w4, vI x5, vI x6] [] h _
    obtain ⟨c3, H⟩ := H
    refine X_b 1 52 (L := L_40) rfl rfl rfl ?_
    show X 40 52 [vR 6, vI x1, vI x2, vI x3, w4, vI x5, vI x6] [vI x5] h _
    refine X_zret (L := L_40) rfl rfl rfl rfl c3 ?_
    exact H
  · have z2 : x6 < szo h x2 := (Int.not_le.mp z2)
    replace H := H.2 z2
    show X 40 22 [vR 6, vI x1, vI x2, vI x3, w4, vI x5, vI x6] [] h _
    refine X_b 2 24 (L := L_40) rfl rfl rfl ?_
    show X 40 24 [vR 6, vI x1, vI x2, vI x3, w4, vI x5, vI x6] [vI 9, vI x1] h _
    refine X_icmp (L := L_40) (n' := 51) rfl rfl rfl rfl (fun z4 => ?_) (fun z4 => ?_)
    · have z4 : 9 ≤ x1 := z4
      replace H := H.1 z4
      show X 40 51 [vR 6, vI x1, vI x2, vI x3, w4, vI x5, vI x6] [] h _
      obtain ⟨c5, H⟩ := H
      refine X_b 1 52 (L := L_40) rfl rfl rfl ?_
      show X 40 52 [vR 6, vI x1, vI x2, vI x3, w4, vI x5, vI x6] [vI x5] h _
      refine X_zret (L := L_40) rfl rfl rfl rfl c5 ?_
      exact H
    · have z4 : x1 < 9 := (Int.not_le.mp z4)
      replace H := H.2 z4
      show X 40 25 [vR 6, vI x1, vI x2, vI x3, w4, vI x5, vI x6] [] h _
      refine X_b 1 26 (L := L_40) rfl rfl rfl ?_
      show X 40 26 [vR 6, vI x1, vI x2, vI x3, w4, vI x5, vI x6] [vI x5] h _
      refine X_if (L := L_40) (n' := 45) rfl rfl rfl rfl (fun z6 => ?_) (fun z6 => ?_)
      · have z6 : ¬ x5 = 0 := z6
        replace H := H.1 z6
        show X 40 45 [vR 6, vI x1, vI x2, vI x3, w4, vI x5, vI x6] [] h _
        obtain ⟨c7, H⟩ := H
        refine X_b 1 46 (L := L_40) rfl rfl rfl ?_
        show X 40 46 [vR 6, vI x1, vI x2, vI x3, w4, vI x5, vI x6] [vI 1] h _
        refine X_goto (L := L_40) (n' := 48) rfl rfl rfl rfl ?_
        show X 40 48 [vR 6, vI x1, vI x2, vI x3, w4, vI x5, vI x6] [vI 1] h _
        refine X_b 2 50 (L := L_40) rfl rfl rfl ?_
        show (-2147483648 ≤ x6 + 1 ∧ x6 + 1 ≤ 2147483647) ∧ X 40 50 [vR 6, vI x1, vI x2, vI x3, w4, vI 1, vI (x6 + 1)] [] h _
        refine ⟨c7, ?_⟩
        refine X_goto (L := L_40) (n' := 17) rfl rfl rfl rfl ?_
        show X 40 17 [vR 6, vI x1, vI x2, vI x3, w4, vI 1, vI (x6 + 1)] [] h _
        exact H
      · have z6 : x5 = 0 := (Classical.not_not.mp z6)
        replace H := H.2 z6
        show X 40 27 [vR 6, vI x1, vI x2, vI x3, w4, vI x5, vI x6] [] h _
        refine X_b 4 31 (L := L_40) rfl rfl rfl ?_
        show X 40 31 [vR 6, vI x1, vI x2, vI x3, w4, vI x5, vI x6] [vI x6, vI x3, vI x2, vR 6] h _
        refine X_call 38 [vR 6, vI x2, vI x3, vI x6] [] rfl (sg_calv rfl rfl rfl rfl rfl rfl rfl rfl rfl rfl rfl) (by decide) ?_
        refine C_mono H (kI_to ?_)
        intro v8 h8 H
        show X 40 32 [vR 6, vI x1, vI x2, vI x3, w4, vI x5, vI x6] [vI v8] h8 _
        refine X_if (L := L_40) (n' := 47) rfl rfl rfl rfl (fun z9 => ?_) (fun z9 => ?_)
        · have z9 : v8 = 0 := z9
          replace H := H.1 z9
          show X 40 47 [vR 6, vI x1, vI x2, vI x3, w4, vI x5, vI x6] [] h8 _
          obtain ⟨c10, H⟩ := H
          refine X_b 3 50 (L := L_40) rfl rfl rfl ?_
          show (-2147483648 ≤ x6 + 1 ∧ x6 + 1 ≤ 2147483647) ∧ X 40 50 [vR 6, vI x1, vI x2, vI x3, w4, vI 0, vI (x6 + 1)] [] h8 _
          refine ⟨c10, ?_⟩
          refine X_goto (L := L_40) (n' := 17) rfl rfl rfl rfl ?_
          show X 40 17 [vR 6, vI x1, vI x2, vI x3, w4, vI 0, vI (x6 + 1)] [] h8 _
          exact H
        · have z9 : ¬ v8 = 0 := z9
          replace H := H.2 z9
          show X 40 33 [vR 6, vI x1, vI x2, vI x3, w4, vI x5, vI x6] [] h8 _
          obtain ⟨⟨c11, c12, c13⟩, H⟩ := H
          refine X_b 6 39 (L := L_40) rfl rfl rfl ?_
          show X 40 39 [vR 6, vI x1, vI x2, vI x3, w4, vI x5, vI x6] [vI x6, vI x2, vR 6, vI 9, vR 24] h8 _
          refine X_call 36 [vR 6, vI x2, vI x6] [vI 9, vR 24] rfl (sg_calv rfl rfl rfl rfl rfl rfl rfl rfl rfl rfl rfl) (by decide) ?_
          refine f_next c11 ?_
          show X 40 40 [vR 6, vI x1, vI x2, vI x3, w4, vI x5, vI x6] [vI (nxt h8 x2 x6), vI 9, vR 24] h8 _
          refine X_b 4 44 (L := L_40) rfl rfl rfl ?_
          show (-2147483648 ≤ 9 * (nxt h8 x2 x6) ∧ 9 * (nxt h8 x2 x6) ≤ 2147483647) ∧ (-2147483648 ≤ (9 * (nxt h8 x2 x6)) + x1 ∧ (9 * (nxt h8 x2 x6)) + x1 ≤ 2147483647) ∧ (0 ≤ (9 * (nxt h8 x2 x6)) + x1 ∧ (9 * (nxt h8 x2 x6)) + x1 < 81) ∧ X 40 44 [vR 6, vI x1, vI x2, vI x3, w4, vI x5, vI x6] [vI (h8 24 ((9 * (nxt h8 x2 x6)) + x1))] h8 _
          refine ⟨c12, by have := c13; omega, c13, ?_⟩
          refine X_if (L := L_40) (n' := 47) rfl rfl rfl rfl (fun z14 => ?_) (fun z14 => ?_)
          · have z14 : h8 24 ((9 * (nxt h8 x2 x6)) + x1) = 0 := z14
            replace H := H.1 z14
            show X 40 47 [vR 6, vI x1, vI x2, vI x3, w4, vI x5, vI x6] [] h8 _
            obtain ⟨c15, H⟩ := H
            refine X_b 3 50 (L := L_40) rfl rfl rfl ?_
            show (-2147483648 ≤ x6 + 1 ∧ x6 + 1 ≤ 2147483647) ∧ X 40 50 [vR 6, vI x1, vI x2, vI x3, w4, vI 0, vI (x6 + 1)] [] h8 _
            refine ⟨c15, ?_⟩
            refine X_goto (L := L_40) (n' := 17) rfl rfl rfl rfl ?_
            show X 40 17 [vR 6, vI x1, vI x2, vI x3, w4, vI 0, vI (x6 + 1)] [] h8 _
            exact H
          · have z14 : ¬ h8 24 ((9 * (nxt h8 x2 x6)) + x1) = 0 := z14
            replace H := H.2 z14
            show X 40 45 [vR 6, vI x1, vI x2, vI x3, w4, vI x5, vI x6] [] h8 _
            obtain ⟨c16, H⟩ := H
            refine X_b 1 46 (L := L_40) rfl rfl rfl ?_
            show X 40 46 [vR 6, vI x1, vI x2, vI x3, w4, vI x5, vI x6] [vI 1] h8 _
            refine X_goto (L := L_40) (n' := 48) rfl rfl rfl rfl ?_
            show X 40 48 [vR 6, vI x1, vI x2, vI x3, w4, vI x5, vI x6] [vI 1] h8 _
            refine X_b 2 50 (L := L_40) rfl rfl rfl ?_
            show (-2147483648 ≤ x6 + 1 ∧ x6 + 1 ≤ 2147483647) ∧ X 40 50 [vR 6, vI x1, vI x2, vI x3, w4, vI 1, vI (x6 + 1)] [] h8 _
            refine ⟨c16, ?_⟩
            refine X_goto (L := L_40) (n' := 17) rfl rfl rfl rfl ?_
            show X 40 17 [vR 6, vI x1, vI x2, vI x3, w4, vI 1, vI (x6 + 1)] [] h8 _
            exact H

/-- PPModel.item, row 0 -/
theorem s_41_0 (x0 x1 x2 : Int) (h : ab_S) (K : ab_O → ab_S → Prop) (H : ((-2147483648 ≤ 30 * x0 ∧ 30 * x0 ≤ 2147483647) ∧ (-2147483648 ≤ 6 * x1 ∧ 6 * x1 ≤ 2147483647) ∧ (-2147483648 ≤ (30 * x0) + (6 * x1) ∧ (30 * x0) + (6 * x1) ≤ 2147483647) ∧ (-2147483648 ≤ ((30 * x0) + (6 * x1)) + x2 ∧ ((30 * x0) + (6 * x1)) + x2 ≤ 2147483647) ∧ (-2147483648 ≤ (((30 * x0) + (6 * x1)) + x2) - 4 ∧ (((30 * x0) + (6 * x1)) + x2) - 4 ≤ 2147483647)) ∧ K (oI ((((30 * x0) + (6 * x1)) + x2) - 4)) h) : C 41 [vI x0, vI x1, vI x2] h K := by
  show X 41 0 [vI x0, vI x1, vI x2] [] h K
  obtain ⟨⟨c1, c2, c3, c4, c5⟩, H⟩ := H
  refine X_b 11 11 (L := L_41) rfl rfl rfl ?_
  show (-2147483648 ≤ 30 * x0 ∧ 30 * x0 ≤ 2147483647) ∧ (-2147483648 ≤ 6 * x1 ∧ 6 * x1 ≤ 2147483647) ∧ (-2147483648 ≤ (30 * x0) + (6 * x1) ∧ (30 * x0) + (6 * x1) ≤ 2147483647) ∧ (-2147483648 ≤ ((30 * x0) + (6 * x1)) + x2 ∧ ((30 * x0) + (6 * x1)) + x2 ≤ 2147483647) ∧ (-2147483648 ≤ (((30 * x0) + (6 * x1)) + x2) - 4 ∧ (((30 * x0) + (6 * x1)) + x2) - 4 ≤ 2147483647) ∧ X 41 11 [vI x0, vI x1, vI x2] [vI ((((30 * x0) + (6 * x1)) + x2) - 4)] h _
  refine ⟨c1, c2, c3, c4, c5, ?_⟩
  refine X_iret (L := L_41) rfl rfl rfl rfl ?_
  exact H

/-- PPModel.has2, row 0 -/
theorem s_42_0 (x1 x2 x3 x4 : Int) (h : ab_S) (K : ab_O → ab_S → Prop) (H : ((-2147483648 ≤ 270 * x1 ∧ 270 * x1 ≤ 2147483647) ∧ (-2147483648 ≤ 30 * x2 ∧ 30 * x2 ≤ 2147483647) ∧ (-2147483648 ≤ 6 * x3 ∧ 6 * x3 ≤ 2147483647) ∧ (-2147483648 ≤ (30 * x2) + (6 * x3) ∧ (30 * x2) + (6 * x3) ≤ 2147483647) ∧ (-2147483648 ≤ ((30 * x2) + (6 * x3)) + x4 ∧ ((30 * x2) + (6 * x3)) + x4 ≤ 2147483647) ∧ (-2147483648 ≤ (((30 * x2) + (6 * x3)) + x4) - 4 ∧ (((30 * x2) + (6 * x3)) + x4) - 4 ≤ 2147483647) ∧ (0 ≤ (270 * x1) + ((((30 * x2) + (6 * x3)) + x4) - 4) ∧ (270 * x1) + ((((30 * x2) + (6 * x3)) + x4) - 4) < 13500) ∧ (h 25 ((270 * x1) + ((((30 * x2) + (6 * x3)) + x4) - 4)) = 0 ∨ h 25 ((270 * x1) + ((((30 * x2) + (6 * x3)) + x4) - 4)) = 1)) ∧ K (oI (h 25 ((270 * x1) + ((((30 * x2) + (6 * x3)) + x4) - 4)))) h) : C 42 [vR 6, vI x1, vI x2, vI x3, vI x4] h K := by
  show X 42 0 [vR 6, vI x1, vI x2, vI x3, vI x4] [] h K
  obtain ⟨⟨c1, c2, c3, c4, c5, c6, c7, c8⟩, H⟩ := H
  refine X_b 8 8 (L := L_42) rfl rfl rfl ?_
  show (-2147483648 ≤ 270 * x1 ∧ 270 * x1 ≤ 2147483647) ∧ X 42 8 [vR 6, vI x1, vI x2, vI x3, vI x4] [vI x4, vI x3, vI x2, vI (270 * x1), vR 25] h _
  refine ⟨c1, ?_⟩
  refine X_call 41 [vI x2, vI x3, vI x4] [vI (270 * x1), vR 25] rfl (sg_cals rfl rfl rfl rfl rfl rfl rfl rfl rfl rfl) (by decide) ?_
  show X 41 0 [vI x2, vI x3, vI x4] [] h _
  refine X_b 11 11 (L := L_41) rfl rfl rfl ?_
  show (-2147483648 ≤ 30 * x2 ∧ 30 * x2 ≤ 2147483647) ∧ (-2147483648 ≤ 6 * x3 ∧ 6 * x3 ≤ 2147483647) ∧ (-2147483648 ≤ (30 * x2) + (6 * x3) ∧ (30 * x2) + (6 * x3) ≤ 2147483647) ∧ (-2147483648 ≤ ((30 * x2) + (6 * x3)) + x4 ∧ ((30 * x2) + (6 * x3)) + x4 ≤ 2147483647) ∧ (-2147483648 ≤ (((30 * x2) + (6 * x3)) + x4) - 4 ∧ (((30 * x2) + (6 * x3)) + x4) - 4 ≤ 2147483647) ∧ X 41 11 [vI x2, vI x3, vI x4] [vI ((((30 * x2) + (6 * x3)) + x4) - 4)] h _
  refine ⟨c2, c3, c4, c5, c6, ?_⟩
  refine X_iret (L := L_41) rfl rfl rfl rfl ?_
  show X 42 9 [vR 6, vI x1, vI x2, vI x3, vI x4] [vI ((((30 * x2) + (6 * x3)) + x4) - 4), vI (270 * x1), vR 25] h _
  refine X_b 2 11 (L := L_42) rfl rfl rfl ?_
  show (-2147483648 ≤ (270 * x1) + ((((30 * x2) + (6 * x3)) + x4) - 4) ∧ (270 * x1) + ((((30 * x2) + (6 * x3)) + x4) - 4) ≤ 2147483647) ∧ (0 ≤ (270 * x1) + ((((30 * x2) + (6 * x3)) + x4) - 4) ∧ (270 * x1) + ((((30 * x2) + (6 * x3)) + x4) - 4) < 13500) ∧ X 42 11 [vR 6, vI x1, vI x2, vI x3, vI x4] [vI (h 25 ((270 * x1) + ((((30 * x2) + (6 * x3)) + x4) - 4)))] h _
  refine ⟨by have := c7; omega, c7, ?_⟩
  refine X_zret (L := L_42) rfl rfl rfl rfl c8 ?_
  exact H

/-- PPModel.add, row 0 -/
theorem s_43_0 (x1 : Int) (h : ab_S) (K : ab_O → ab_S → Prop) (H : ((0 ≤ x1 ∧ x1 < 270)) ∧ ((h 27 x1 = 0 → ((0 ≤ h 6 12 ∧ h 6 12 < 270) ∧ (-2147483648 ≤ (h 6 12) + 1 ∧ (h 6 12) + 1 ≤ 2147483647)) ∧ K oV (ab_up (ab_up (ab_up h 27 x1 1) 28 (h 6 12) x1) 6 12 ((h 6 12) + 1))) ∧ (¬ h 27 x1 = 0 → K oV h))) : C 43 [vR 6, vI x1] h K := by
  show X 43 0 [vR 6, vI x1] [] h K
  obtain ⟨c1, H⟩ := H
  refine X_b 4 4 (L := L_43) rfl rfl rfl ?_
  show (0 ≤ x1 ∧ x1 < 270) ∧ X 43 4 [vR 6, vI x1] [vI (h 27 x1)] h _
  refine ⟨c1, ?_⟩
  refine X_if (L := L_43) (n' := 6) rfl rfl rfl rfl (fun z2 => ?_) (fun z2 => ?_)
  · have z2 : h 27 x1 = 0 := z2
    replace H := H.1 z2
    show X 43 6 [vR 6, vI x1] [] h _
    obtain ⟨⟨c3, c4⟩, H⟩ := H
    refine X_b 17 23 (L := L_43) rfl rfl rfl ?_
    show (0 ≤ x1 ∧ x1 < 270) ∧ ((1 : Int) = 0 ∨ (1 : Int) = 1) ∧ (0 ≤ h 6 12 ∧ h 6 12 < 270) ∧ (-2147483648 ≤ (h 6 12) + 1 ∧ (h 6 12) + 1 ≤ 2147483647) ∧ X 43 23 [vR 6, vI x1] [] (ab_up (ab_up (ab_up h 27 x1 1) 28 (h 6 12) x1) 6 12 ((h 6 12) + 1)) _
    refine ⟨c1, by decide, c3, c4, ?_⟩
    refine X_ret (L := L_43) rfl rfl rfl rfl ?_
    exact H
  · have z2 : ¬ h 27 x1 = 0 := z2
    replace H := H.2 z2
    show X 43 5 [vR 6, vI x1] [] h _
    refine X_ret (L := L_43) rfl rfl rfl rfl ?_
    exact H

/-- PPModel.beginSet, row 0 -/
theorem s_44_0 (h : ab_S) (K : ab_O → ab_S → Prop) (H : X 44 2 [vR 6, vI 0] [] h K) : C 44 [vR 6] h K := by
  show X 44 0 [vR 6, vJ 0] [] h K
  refine X_b 2 2 (L := L_44) rfl rfl rfl ?_
  show X 44 2 [vR 6, vI 0] [] h _
  exact H

/-- PPModel.beginSet, row 2 -/
theorem s_44_2 (x1 : Int) (h : ab_S) (K : ab_O → ab_S → Prop) (H : ((270 ≤ x1 → K oV (ab_up h 6 12 0)) ∧ (x1 < 270 → ((0 ≤ x1 ∧ x1 < 270) ∧ (-2147483648 ≤ x1 + 1 ∧ x1 + 1 ≤ 2147483647)) ∧ X 44 2 [vR 6, vI (x1 + 1)] [] (ab_up h 27 x1 0) K))) : X 44 2 [vR 6, vI x1] [] h K := by
  refine X_b 2 4 (L := L_44) rfl rfl rfl ?_
  show X 44 4 [vR 6, vI x1] [vI 270, vI x1] h _
  refine X_icmp (L := L_44) (n' := 12) rfl rfl rfl rfl (fun z1 => ?_) (fun z1 => ?_)
  · have z1 : 270 ≤ x1 := z1
    replace H := H.1 z1
    show X 44 12 [vR 6, vI x1] [] h _
    refine X_b 3 15 (L := L_44) rfl rfl rfl ?_
    show X 44 15 [vR 6, vI x1] [] (ab_up h 6 12 0) _
    refine X_ret (L := L_44) rfl rfl rfl rfl ?_
    exact H
  · have z1 : x1 < 270 := (Int.not_le.mp z1)
    replace H := H.2 z1
    show X 44 5 [vR 6, vI x1] [] h _
    obtain ⟨⟨c2, c3⟩, H⟩ := H
    refine X_b 6 11 (L := L_44) rfl rfl rfl ?_
    show (0 ≤ x1 ∧ x1 < 270) ∧ ((0 : Int) = 0 ∨ (0 : Int) = 1) ∧ (-2147483648 ≤ x1 + 1 ∧ x1 + 1 ≤ 2147483647) ∧ X 44 11 [vR 6, vI (x1 + 1)] [] (ab_up h 27 x1 0) _
    refine ⟨c2, by decide, c3, ?_⟩
    refine X_goto (L := L_44) (n' := 2) rfl rfl rfl rfl ?_
    show X 44 2 [vR 6, vI (x1 + 1)] [] (ab_up h 27 x1 0) _
    exact H

set_option maxRecDepth 8192 in
/-- PPModel.close, row 0 -/
theorem s_45_0 (h : ab_S) (K : ab_O → ab_S → Prop) (H : X 45 2 [vR 6, vI 0, vJ 0, vJ 0, vJ 0, vJ 0, vJ 0] [] h K) : C 45 [vR 6] h K := by
  show X 45 0 [vR 6, vJ 0, vJ 0, vJ 0, vJ 0, vJ 0, vJ 0] [] h K
  refine X_b 2 2 (L := L_45) rfl rfl rfl ?_
  show X 45 2 [vR 6, vI 0, vJ 0, vJ 0, vJ 0, vJ 0, vJ 0] [] h _
  exact H

set_option maxRecDepth 8192 in
/-- PPModel.close, row 2 -/
theorem s_45_2 (x1 : Int) (w2 w3 w4 w5 w6 : ab_V) (h : ab_S) (K : ab_O → ab_S → Prop) (H : ((h 6 12 ≤ x1 → K oV h) ∧ (x1 < h 6 12 → ((0 ≤ x1 ∧ x1 < 270) ∧ (0 ≤ h 28 x1 ∧ (0 : Int) < 30) ∧ (0 ≤ (h 28 x1) % 30 ∧ (0 : Int) < 6) ∧ (0 ≤ h 28 x1 ∧ (0 : Int) < 6) ∧ (-2147483648 ≤ ((h 28 x1) % 6) + 4 ∧ ((h 28 x1) % 6) + 4 ≤ 2147483647)) ∧ X 45 33 [vR 6, vI x1, vI ((h 28 x1) / 30), vI (((h 28 x1) % 30) / 6), vI (((h 28 x1) % 6) + 4), vI 0, w6] [] h K))) : X 45 2 [vR 6, vI x1, w2, w3, w4, w5, w6] [] h K := by
  refine X_b 3 5 (L := L_45) rfl rfl rfl ?_
  show X 45 5 [vR 6, vI x1, w2, w3, w4, w5, w6] [vI (h 6 12), vI x1] h _
  refine X_icmp (L := L_45) (n' := 73) rfl rfl rfl rfl (fun z1 => ?_) (fun z1 => ?_)
  · have z1 : h 6 12 ≤ x1 := z1
    replace H := H.1 z1
    show X 45 73 [vR 6, vI x1, w2, w3, w4, w5, w6] [] h _
    refine X_ret (L := L_45) rfl rfl rfl rfl ?_
    exact H
  · have z1 : x1 < h 6 12 := (Int.not_le.mp z1)
    replace H := H.2 z1
    show X 45 6 [vR 6, vI x1, w2, w3, w4, w5, w6] [] h _
    obtain ⟨⟨c2, c3, c4, c5, c6⟩, H⟩ := H
    refine X_b 27 33 (L := L_45) rfl rfl rfl ?_
    show (0 ≤ x1 ∧ x1 < 270) ∧ (0 ≤ h 28 x1 ∧ (0 : Int) < 30) ∧ (0 ≤ x1 ∧ x1 < 270) ∧ (0 ≤ h 28 x1 ∧ (0 : Int) < 30) ∧ (0 ≤ (h 28 x1) % 30 ∧ (0 : Int) < 6) ∧ (0 ≤ x1 ∧ x1 < 270) ∧ (0 ≤ h 28 x1 ∧ (0 : Int) < 6) ∧ (-2147483648 ≤ ((h 28 x1) % 6) + 4 ∧ ((h 28 x1) % 6) + 4 ≤ 2147483647) ∧ X 45 33 [vR 6, vI x1, vI ((h 28 x1) / 30), vI (((h 28 x1) % 30) / 6), vI (((h 28 x1) % 6) + 4), vI 0, w6] [] h _
    refine ⟨c2, c3, c2, c3, c4, c2, c5, c6, ?_⟩
    exact H

set_option maxRecDepth 8192 in
/-- PPModel.close, row 33 -/
theorem s_45_33 (x1 x2 x3 x4 x5 : Int) (w6 : ab_V) (h : ab_S) (K : ab_O → ab_S → Prop) (H : ((h 6 1 ≤ x5 → ((-2147483648 ≤ x1 + 1 ∧ x1 + 1 ≤ 2147483647)) ∧ X 45 2 [vR 6, vI (x1 + 1), vI x2, vI x3, vI x4, vI x5, w6] [] h K) ∧ (x5 < h 6 1 → ((0 ≤ x5 ∧ x5 < 8) ∧ (0 ≤ x2 ∧ (x2 = h 6 1 ∨ (x2 < 8 ∧ h 21 x2 ≤ 4)) ∧ 0 ≤ x3)) ∧ ((h 20 x5 = nxt h x2 x3 → X 45 49 [vR 6, vI x1, vI x2, vI x3, vI x4, vI x5, vI 4] [] h K) ∧ (¬ h 20 x5 = nxt h x2 x3 → ((-2147483648 ≤ x5 + 1 ∧ x5 + 1 ≤ 2147483647)) ∧ X 45 33 [vR 6, vI x1, vI x2, vI x3, vI x4, vI (x5 + 1), w6] [] h K))))) : X 45 33 [vR 6, vI x1, vI x2, vI x3, vI x4, vI x5, w6] [] h K := by
  refine X_b 3 36 (L := L_45) rfl rfl rfl ?_
  show X 45 36 [vR 6, vI x1, vI x2, vI x3, vI x4, vI x5, w6] [vI (h 6 1), vI x5] h _
  refine X_icmp (L := L_45) (n' := 71) rfl rfl rfl rfl (fun z1 => ?_) (fun z1 => ?_)
  · have z1 : h 6 1 ≤ x5 := z1
    replace H := H.1 z1
    show X 45 71 [vR 6, vI x1, vI x2, vI x3, vI x4, vI x5, w6] [] h _
    obtain ⟨c2, H⟩ := H
    refine X_b 1 72 (L := L_45) rfl rfl rfl ?_
    show (-2147483648 ≤ x1 + 1 ∧ x1 + 1 ≤ 2147483647) ∧ X 45 72 [vR 6, vI (x1 + 1), vI x2, vI x3, vI x4, vI x5, w6] [] h _
    refine ⟨c2, ?_⟩
    refine X_goto (L := L_45) (n' := 2) rfl rfl rfl rfl ?_
    show X 45 2 [vR 6, vI (x1 + 1), vI x2, vI x3, vI x4, vI x5, w6] [] h _
    exact H
  · have z1 : x5 < h 6 1 := (Int.not_le.mp z1)
    replace H := H.2 z1
    show X 45 37 [vR 6, vI x1, vI x2, vI x3, vI x4, vI x5, w6] [] h _
    obtain ⟨⟨c3, c4⟩, H⟩ := H
    refine X_b 7 44 (L := L_45) rfl rfl rfl ?_
    show (0 ≤ x5 ∧ x5 < 8) ∧ X 45 44 [vR 6, vI x1, vI x2, vI x3, vI x4, vI x5, w6] [vI x3, vI x2, vR 6, vI (h 20 x5)] h _
    refine ⟨c3, ?_⟩
    refine X_call 36 [vR 6, vI x2, vI x3] [vI (h 20 x5)] rfl (sg_calv rfl rfl rfl rfl rfl rfl rfl rfl rfl rfl rfl) (by decide) ?_
    refine f_next c4 ?_
    show X 45 45 [vR 6, vI x1, vI x2, vI x3, vI x4, vI x5, w6] [vI (nxt h x2 x3), vI (h 20 x5)] h _
    refine X_icmp (L := L_45) (n' := 47) rfl rfl rfl rfl (fun z5 => ?_) (fun z5 => ?_)
    · have z5 : h 20 x5 = nxt h x2 x3 := z5
      replace H := H.1 z5
      show X 45 47 [vR 6, vI x1, vI x2, vI x3, vI x4, vI x5, w6] [] h _
      refine X_b 2 49 (L := L_45) rfl rfl rfl ?_
      show X 45 49 [vR 6, vI x1, vI x2, vI x3, vI x4, vI x5, vI 4] [] h _
      exact H
    · have z5 : ¬ h 20 x5 = nxt h x2 x3 := z5
      replace H := H.2 z5
      show X 45 46 [vR 6, vI x1, vI x2, vI x3, vI x4, vI x5, w6] [] h _
      obtain ⟨c6, H⟩ := H
      refine X_goto (L := L_45) (n' := 69) rfl rfl rfl rfl ?_
      show X 45 69 [vR 6, vI x1, vI x2, vI x3, vI x4, vI x5, w6] [] h _
      refine X_b 1 70 (L := L_45) rfl rfl rfl ?_
      show (-2147483648 ≤ x5 + 1 ∧ x5 + 1 ≤ 2147483647) ∧ X 45 70 [vR 6, vI x1, vI x2, vI x3, vI x4, vI (x5 + 1), w6] [] h _
      refine ⟨c6, ?_⟩
      refine X_goto (L := L_45) (n' := 33) rfl rfl rfl rfl ?_
      show X 45 33 [vR 6, vI x1, vI x2, vI x3, vI x4, vI (x5 + 1), w6] [] h _
      exact H

set_option maxRecDepth 8192 in
/-- PPModel.close, row 49 -/
theorem s_45_49 (x1 x2 x3 x4 x5 x6 : Int) (h : ab_S) (K : ab_O → ab_S → Prop) (H : ((9 < x6 → ((-2147483648 ≤ x5 + 1 ∧ x5 + 1 ≤ 2147483647)) ∧ X 45 33 [vR 6, vI x1, vI x2, vI x3, vI x4, vI (x5 + 1), vI x6] [] h K) ∧ (x6 ≤ 9 → ((-2147483648 ≤ x3 + 1 ∧ x3 + 1 ≤ 2147483647)) ∧ C 40 [vR 6, vI x6, vI x2, vI (x3 + 1), vI x4] h (kI (fun v4 h4 => ((v4 = 0 → ((-2147483648 ≤ x6 + 1 ∧ x6 + 1 ≤ 2147483647)) ∧ X 45 49 [vR 6, vI x1, vI x2, vI x3, vI x4, vI x5, vI (x6 + 1)] [] h4 K) ∧ (¬ v4 = 0 → ((-2147483648 ≤ 30 * x5 ∧ 30 * x5 ≤ 2147483647) ∧ (-2147483648 ≤ (30 * x5) + 0 ∧ (30 * x5) + 0 ≤ 2147483647) ∧ (-2147483648 ≤ ((30 * x5) + 0) + x6 ∧ ((30 * x5) + 0) + x6 ≤ 2147483647) ∧ (-2147483648 ≤ (((30 * x5) + 0) + x6) - 4 ∧ (((30 * x5) + 0) + x6) - 4 ≤ 2147483647) ∧ (0 ≤ (((30 * x5) + 0) + x6) - 4 ∧ (((30 * x5) + 0) + x6) - 4 < 270)) ∧ ((h4 27 ((((30 * x5) + 0) + x6) - 4) = 0 → ((0 ≤ h4 6 12 ∧ h4 6 12 < 270) ∧ (-2147483648 ≤ (h4 6 12) + 1 ∧ (h4 6 12) + 1 ≤ 2147483647) ∧ (-2147483648 ≤ x6 + 1 ∧ x6 + 1 ≤ 2147483647)) ∧ X 45 49 [vR 6, vI x1, vI x2, vI x3, vI x4, vI x5, vI (x6 + 1)] [] (ab_up (ab_up (ab_up h4 27 ((((30 * x5) + 0) + x6) - 4) 1) 28 (h4 6 12) ((((30 * x5) + 0) + x6) - 4)) 6 12 ((h4 6 12) + 1)) K) ∧ (¬ h4 27 ((((30 * x5) + 0) + x6) - 4) = 0 → ((-2147483648 ≤ x6 + 1 ∧ x6 + 1 ≤ 2147483647)) ∧ X 45 49 [vR 6, vI x1, vI x2, vI x3, vI x4, vI x5, vI (x6 + 1)] [] h4 K))))))))) : X 45 49 [vR 6, vI x1, vI x2, vI x3, vI x4, vI x5, vI x6] [] h K := by
  refine X_b 2 51 (L := L_45) rfl rfl rfl ?_
  show X 45 51 [vR 6, vI x1, vI x2, vI x3, vI x4, vI x5, vI x6] [vI 9, vI x6] h _
  refine X_icmp (L := L_45) (n' := 69) rfl rfl rfl rfl (fun z1 => ?_) (fun z1 => ?_)
  · have z1 : 9 < x6 := z1
    replace H := H.1 z1
    show X 45 69 [vR 6, vI x1, vI x2, vI x3, vI x4, vI x5, vI x6] [] h _
    obtain ⟨c2, H⟩ := H
    refine X_b 1 70 (L := L_45) rfl rfl rfl ?_
    show (-2147483648 ≤ x5 + 1 ∧ x5 + 1 ≤ 2147483647) ∧ X 45 70 [vR 6, vI x1, vI x2, vI x3, vI x4, vI (x5 + 1), vI x6] [] h _
    refine ⟨c2, ?_⟩
    refine X_goto (L := L_45) (n' := 33) rfl rfl rfl rfl ?_
    show X 45 33 [vR 6, vI x1, vI x2, vI x3, vI x4, vI (x5 + 1), vI x6] [] h _
    exact H
  · have z1 : x6 ≤ 9 := (Int.not_lt.mp z1)
    replace H := H.2 z1
    show X 45 52 [vR 6, vI x1, vI x2, vI x3, vI x4, vI x5, vI x6] [] h _
    obtain ⟨c3, H⟩ := H
    refine X_b 7 59 (L := L_45) rfl rfl rfl ?_
    show (-2147483648 ≤ x3 + 1 ∧ x3 + 1 ≤ 2147483647) ∧ X 45 59 [vR 6, vI x1, vI x2, vI x3, vI x4, vI x5, vI x6] [vI x4, vI (x3 + 1), vI x2, vI x6, vR 6] h _
    refine ⟨c3, ?_⟩
    refine X_call 40 [vR 6, vI x6, vI x2, vI (x3 + 1), vI x4] [] rfl (sg_calv rfl rfl rfl rfl rfl rfl rfl rfl rfl rfl rfl) (by decide) ?_
    refine C_mono H (kI_to ?_)
    intro v4 h4 H
    show X 45 60 [vR 6, vI x1, vI x2, vI x3, vI x4, vI x5, vI x6] [vI v4] h4 _
    refine X_if (L := L_45) (n' := 67) rfl rfl rfl rfl (fun z5 => ?_) (fun z5 => ?_)
    · have z5 : v4 = 0 := z5
      replace H := H.1 z5
      show X 45 67 [vR 6, vI x1, vI x2, vI x3, vI x4, vI x5, vI x6] [] h4 _
      obtain ⟨c6, H⟩ := H
      refine X_b 1 68 (L := L_45) rfl rfl rfl ?_
      show (-2147483648 ≤ x6 + 1 ∧ x6 + 1 ≤ 2147483647) ∧ X 45 68 [vR 6, vI x1, vI x2, vI x3, vI x4, vI x5, vI (x6 + 1)] [] h4 _
      refine ⟨c6, ?_⟩
      refine X_goto (L := L_45) (n' := 49) rfl rfl rfl rfl ?_
      show X 45 49 [vR 6, vI x1, vI x2, vI x3, vI x4, vI x5, vI (x6 + 1)] [] h4 _
      exact H
    · have z5 : ¬ v4 = 0 := z5
      replace H := H.2 z5
      show X 45 61 [vR 6, vI x1, vI x2, vI x3, vI x4, vI x5, vI x6] [] h4 _
      obtain ⟨⟨c7, c8, c9, c10, c11⟩, H⟩ := H
      refine X_b 4 65 (L := L_45) rfl rfl rfl ?_
      show X 45 65 [vR 6, vI x1, vI x2, vI x3, vI x4, vI x5, vI x6] [vI x6, vI 0, vI x5, vR 6] h4 _
      refine X_call 41 [vI x5, vI 0, vI x6] [vR 6] rfl (sg_cals rfl rfl rfl rfl rfl rfl rfl rfl rfl rfl) (by decide) ?_
      show X 41 0 [vI x5, vI 0, vI x6] [] h4 _
      refine X_b 11 11 (L := L_41) rfl rfl rfl ?_
      show (-2147483648 ≤ 30 * x5 ∧ 30 * x5 ≤ 2147483647) ∧ (-2147483648 ≤ (0 : Int) ∧ (0 : Int) ≤ 2147483647) ∧ (-2147483648 ≤ (30 * x5) + 0 ∧ (30 * x5) + 0 ≤ 2147483647) ∧ (-2147483648 ≤ ((30 * x5) + 0) + x6 ∧ ((30 * x5) + 0) + x6 ≤ 2147483647) ∧ (-2147483648 ≤ (((30 * x5) + 0) + x6) - 4 ∧ (((30 * x5) + 0) + x6) - 4 ≤ 2147483647) ∧ X 41 11 [vI x5, vI 0, vI x6] [vI ((((30 * x5) + 0) + x6) - 4)] h4 _
      refine ⟨c7, by decide, c8, c9, c10, ?_⟩
      refine X_iret (L := L_41) rfl rfl rfl rfl ?_
      show X 45 66 [vR 6, vI x1, vI x2, vI x3, vI x4, vI x5, vI x6] [vI ((((30 * x5) + 0) + x6) - 4), vR 6] h4 _
      refine X_call 43 [vR 6, vI ((((30 * x5) + 0) + x6) - 4)] [] rfl (sg_calv rfl rfl rfl rfl rfl rfl rfl rfl rfl rfl rfl) (by decide) ?_
      show X 43 0 [vR 6, vI ((((30 * x5) + 0) + x6) - 4)] [] h4 _
      refine X_b 4 4 (L := L_43) rfl rfl rfl ?_
      show (0 ≤ (((30 * x5) + 0) + x6) - 4 ∧ (((30 * x5) + 0) + x6) - 4 < 270) ∧ X 43 4 [vR 6, vI ((((30 * x5) + 0) + x6) - 4)] [vI (h4 27 ((((30 * x5) + 0) + x6) - 4))] h4 _
      refine ⟨c11, ?_⟩
      refine X_if (L := L_43) (n' := 6) rfl rfl rfl rfl (fun z12 => ?_) (fun z12 => ?_)
      · have z12 : h4 27 ((((30 * x5) + 0) + x6) - 4) = 0 := z12
        replace H := H.1 z12
        show X 43 6 [vR 6, vI ((((30 * x5) + 0) + x6) - 4)] [] h4 _
        obtain ⟨⟨c13, c14, c15⟩, H⟩ := H
        refine X_b 17 23 (L := L_43) rfl rfl rfl ?_
        show (0 ≤ (((30 * x5) + 0) + x6) - 4 ∧ (((30 * x5) + 0) + x6) - 4 < 270) ∧ ((1 : Int) = 0 ∨ (1 : Int) = 1) ∧ (0 ≤ h4 6 12 ∧ h4 6 12 < 270) ∧ (-2147483648 ≤ (h4 6 12) + 1 ∧ (h4 6 12) + 1 ≤ 2147483647) ∧ X 43 23 [vR 6, vI ((((30 * x5) + 0) + x6) - 4)] [] (ab_up (ab_up (ab_up h4 27 ((((30 * x5) + 0) + x6) - 4) 1) 28 (h4 6 12) ((((30 * x5) + 0) + x6) - 4)) 6 12 ((h4 6 12) + 1)) _
        refine ⟨c11, by decide, c13, c14, ?_⟩
        refine X_ret (L := L_43) rfl rfl rfl rfl ?_
        show X 45 67 [vR 6, vI x1, vI x2, vI x3, vI x4, vI x5, vI x6] [] (ab_up (ab_up (ab_up h4 27 ((((30 * x5) + 0) + x6) - 4) 1) 28 (h4 6 12) ((((30 * x5) + 0) + x6) - 4)) 6 12 ((h4 6 12) + 1)) _
        refine X_b 1 68 (L := L_45) rfl rfl rfl ?_
        show (-2147483648 ≤ x6 + 1 ∧ x6 + 1 ≤ 2147483647) ∧ X 45 68 [vR 6, vI x1, vI x2, vI x3, vI x4, vI x5, vI (x6 + 1)] [] (ab_up (ab_up (ab_up h4 27 ((((30 * x5) + 0) + x6) - 4) 1) 28 (h4 6 12) ((((30 * x5) + 0) + x6) - 4)) 6 12 ((h4 6 12) + 1)) _
        refine ⟨c15, ?_⟩
        refine X_goto (L := L_45) (n' := 49) rfl rfl rfl rfl ?_
        show X 45 49 [vR 6, vI x1, vI x2, vI x3, vI x4, vI x5, vI (x6 + 1)] [] (ab_up (ab_up (ab_up h4 27 ((((30 * x5) + 0) + x6) - 4) 1) 28 (h4 6 12) ((((30 * x5) + 0) + x6) - 4)) 6 12 ((h4 6 12) + 1)) _
        exact H
      · have z12 : ¬ h4 27 ((((30 * x5) + 0) + x6) - 4) = 0 := z12
        replace H := H.2 z12
        show X 43 5 [vR 6, vI ((((30 * x5) + 0) + x6) - 4)] [] h4 _
        obtain ⟨c16, H⟩ := H
        refine X_ret (L := L_43) rfl rfl rfl rfl ?_
        show X 45 67 [vR 6, vI x1, vI x2, vI x3, vI x4, vI x5, vI x6] [] h4 _
        refine X_b 1 68 (L := L_45) rfl rfl rfl ?_
        show (-2147483648 ≤ x6 + 1 ∧ x6 + 1 ≤ 2147483647) ∧ X 45 68 [vR 6, vI x1, vI x2, vI x3, vI x4, vI x5, vI (x6 + 1)] [] h4 _
        refine ⟨c16, ?_⟩
        refine X_goto (L := L_45) (n' := 49) rfl rfl rfl rfl ?_
        show X 45 49 [vR 6, vI x1, vI x2, vI x3, vI x4, vI x5, vI (x6 + 1)] [] h4 _
        exact H

set_option maxRecDepth 8192 in
/-- PPModel.settle, row 0 -/
theorem s_46_0 (h : ab_S) (K : ab_O → ab_S → Prop) (H : X 46 2 [vR 6, vI 0, vJ 0, vJ 0] [] h K) : C 46 [vR 6] h K := by
  show X 46 0 [vR 6, vJ 0, vJ 0, vJ 0] [] h K
  refine X_b 2 2 (L := L_46) rfl rfl rfl ?_
  show X 46 2 [vR 6, vI 0, vJ 0, vJ 0] [] h _
  exact H

set_option maxRecDepth 8192 in
/-- PPModel.settle, row 2 -/
theorem s_46_2 (x1 : Int) (w2 w3 : ab_V) (h : ab_S) (K : ab_O → ab_S → Prop) (H : ((h 6 7 ≤ x1 → ((¬ h 6 7 = 50 → X 46 48 [vR 6, vI 0, w2, w3] [] h K) ∧ (h 6 7 = 50 → K (oI (-1)) h))) ∧ (x1 < h 6 7 → X 46 10 [vR 6, vI x1, vI 1, vI 0] [] h K))) : X 46 2 [vR 6, vI x1, w2, w3] [] h K := by
  refine X_b 3 5 (L := L_46) rfl rfl rfl ?_
  show X 46 5 [vR 6, vI x1, w2, w3] [vI (h 6 7), vI x1] h _
  refine X_icmp (L := L_46) (n' := 40) rfl rfl rfl rfl (fun z1 => ?_) (fun z1 => ?_)
  · have z1 : h 6 7 ≤ x1 := z1
    replace H := H.1 z1
    show X 46 40 [vR 6, vI x1, w2, w3] [] h _
    refine X_b 3 43 (L := L_46) rfl rfl rfl ?_
    show X 46 43 [vR 6, vI x1, w2, w3] [vI 50, vI (h 6 7)] h _
    refine X_icmp (L := L_46) (n' := 46) rfl rfl rfl rfl (fun z2 => ?_) (fun z2 => ?_)
    · have z2 : ¬ h 6 7 = 50 := z2
      replace H := H.1 z2
      show X 46 46 [vR 6, vI x1, w2, w3] [] h _
      refine X_b 2 48 (L := L_46) rfl rfl rfl ?_
      show X 46 48 [vR 6, vI 0, w2, w3] [] h _
      exact H
    · have z2 : h 6 7 = 50 := (Classical.not_not.mp z2)
      replace H := H.2 z2
      show X 46 44 [vR 6, vI x1, w2, w3] [] h _
      refine X_b 1 45 (L := L_46) rfl rfl rfl ?_
      show X 46 45 [vR 6, vI x1, w2, w3] [vI (-1)] h _
      refine X_iret (L := L_46) rfl rfl rfl rfl ?_
      exact H
  · have z1 : x1 < h 6 7 := (Int.not_le.mp z1)
    replace H := H.2 z1
    show X 46 6 [vR 6, vI x1, w2, w3] [] h _
    refine X_b 4 10 (L := L_46) rfl rfl rfl ?_
    show X 46 10 [vR 6, vI x1, vI 1, vI 0] [] h _
    exact H

set_option maxRecDepth 8192 in
/-- PPModel.settle, row 10 -/
theorem s_46_10 (x1 x2 x3 : Int) (h : ab_S) (K : ab_O → ab_S → Prop) (H : ((270 ≤ x3 → ((x2 = 0 → ((-2147483648 ≤ x1 + 1 ∧ x1 + 1 ≤ 2147483647)) ∧ X 46 2 [vR 6, vI (x1 + 1), vI x2, vI x3] [] h K) ∧ (¬ x2 = 0 → K (oI x1) h))) ∧ (x3 < 270 → ((x2 = 0 → ((-2147483648 ≤ x3 + 1 ∧ x3 + 1 ≤ 2147483647)) ∧ X 46 10 [vR 6, vI x1, vI 0, vI (x3 + 1)] [] h K) ∧ (¬ x2 = 0 → ((-2147483648 ≤ 270 * x1 ∧ 270 * x1 ≤ 2147483647) ∧ (0 ≤ (270 * x1) + x3 ∧ (270 * x1) + x3 < 13500) ∧ (0 ≤ x3 ∧ x3 < 270)) ∧ ((¬ h 25 ((270 * x1) + x3) = h 27 x3 → ((-2147483648 ≤ x3 + 1 ∧ x3 + 1 ≤ 2147483647)) ∧ X 46 10 [vR 6, vI x1, vI 0, vI (x3 + 1)] [] h K) ∧ (h 25 ((270 * x1) + x3) = h 27 x3 → ((-2147483648 ≤ x3 + 1 ∧ x3 + 1 ≤ 2147483647)) ∧ X 46 10 [vR 6, vI x1, vI 1, vI (x3 + 1)] [] h K))))))) : X 46 10 [vR 6, vI x1, vI x2, vI x3] [] h K := by
  refine X_b 2 12 (L := L_46) rfl rfl rfl ?_
  show X 46 12 [vR 6, vI x1, vI x2, vI x3] [vI 270, vI x3] h _
  refine X_icmp (L := L_46) (n' := 34) rfl rfl rfl rfl (fun z1 => ?_) (fun z1 => ?_)
  · have z1 : 270 ≤ x3 := z1
    replace H := H.1 z1
    show X 46 34 [vR 6, vI x1, vI x2, vI x3] [] h _
    refine X_b 1 35 (L := L_46) rfl rfl rfl ?_
    show X 46 35 [vR 6, vI x1, vI x2, vI x3] [vI x2] h _
    refine X_if (L := L_46) (n' := 38) rfl rfl rfl rfl (fun z2 => ?_) (fun z2 => ?_)
    · have z2 : x2 = 0 := z2
      replace H := H.1 z2
      show X 46 38 [vR 6, vI x1, vI x2, vI x3] [] h _
      obtain ⟨c3, H⟩ := H
      refine X_b 1 39 (L := L_46) rfl rfl rfl ?_
      show (-2147483648 ≤ x1 + 1 ∧ x1 + 1 ≤ 2147483647) ∧ X 46 39 [vR 6, vI (x1 + 1), vI x2, vI x3] [] h _
      refine ⟨c3, ?_⟩
      refine X_goto (L := L_46) (n' := 2) rfl rfl rfl rfl ?_
      show X 46 2 [vR 6, vI (x1 + 1), vI x2, vI x3] [] h _
      exact H
    · have z2 : ¬ x2 = 0 := z2
      replace H := H.2 z2
      show X 46 36 [vR 6, vI x1, vI x2, vI x3] [] h _
      refine X_b 1 37 (L := L_46) rfl rfl rfl ?_
      show X 46 37 [vR 6, vI x1, vI x2, vI x3] [vI x1] h _
      refine X_iret (L := L_46) rfl rfl rfl rfl ?_
      exact H
  · have z1 : x3 < 270 := (Int.not_le.mp z1)
    replace H := H.2 z1
    show X 46 13 [vR 6, vI x1, vI x2, vI x3] [] h _
    refine X_b 1 14 (L := L_46) rfl rfl rfl ?_
    show X 46 14 [vR 6, vI x1, vI x2, vI x3] [vI x2] h _
    refine X_if (L := L_46) (n' := 30) rfl rfl rfl rfl (fun z4 => ?_) (fun z4 => ?_)
    · have z4 : x2 = 0 := z4
      replace H := H.1 z4
      show X 46 30 [vR 6, vI x1, vI x2, vI x3] [] h _
      obtain ⟨c5, H⟩ := H
      refine X_b 3 33 (L := L_46) rfl rfl rfl ?_
      show (-2147483648 ≤ x3 + 1 ∧ x3 + 1 ≤ 2147483647) ∧ X 46 33 [vR 6, vI x1, vI 0, vI (x3 + 1)] [] h _
      refine ⟨c5, ?_⟩
      refine X_goto (L := L_46) (n' := 10) rfl rfl rfl rfl ?_
      show X 46 10 [vR 6, vI x1, vI 0, vI (x3 + 1)] [] h _
      exact H
    · have z4 : ¬ x2 = 0 := z4
      replace H := H.2 z4
      show X 46 15 [vR 6, vI x1, vI x2, vI x3] [] h _
      obtain ⟨⟨c6, c7, c8⟩, H⟩ := H
      refine X_b 12 27 (L := L_46) rfl rfl rfl ?_
      show (-2147483648 ≤ 270 * x1 ∧ 270 * x1 ≤ 2147483647) ∧ (-2147483648 ≤ (270 * x1) + x3 ∧ (270 * x1) + x3 ≤ 2147483647) ∧ (0 ≤ (270 * x1) + x3 ∧ (270 * x1) + x3 < 13500) ∧ (0 ≤ x3 ∧ x3 < 270) ∧ X 46 27 [vR 6, vI x1, vI x2, vI x3] [vI (h 27 x3), vI (h 25 ((270 * x1) + x3))] h _
      refine ⟨c6, by have := c7; omega, c7, c8, ?_⟩
      refine X_icmp (L := L_46) (n' := 30) rfl rfl rfl rfl (fun z9 => ?_) (fun z9 => ?_)
      · have z9 : ¬ h 25 ((270 * x1) + x3) = h 27 x3 := z9
        replace H := H.1 z9
        show X 46 30 [vR 6, vI x1, vI x2, vI x3] [] h _
        obtain ⟨c10, H⟩ := H
        refine X_b 3 33 (L := L_46) rfl rfl rfl ?_
        show (-2147483648 ≤ x3 + 1 ∧ x3 + 1 ≤ 2147483647) ∧ X 46 33 [vR 6, vI x1, vI 0, vI (x3 + 1)] [] h _
        refine ⟨c10, ?_⟩
        refine X_goto (L := L_46) (n' := 10) rfl rfl rfl rfl ?_
        show X 46 10 [vR 6, vI x1, vI 0, vI (x3 + 1)] [] h _
        exact H
      · have z9 : h 25 ((270 * x1) + x3) = h 27 x3 := (Classical.not_not.mp z9)
        replace H := H.2 z9
        show X 46 28 [vR 6, vI x1, vI x2, vI x3] [] h _
        obtain ⟨c11, H⟩ := H
        refine X_b 1 29 (L := L_46) rfl rfl rfl ?_
        show X 46 29 [vR 6, vI x1, vI x2, vI x3] [vI 1] h _
        refine X_goto (L := L_46) (n' := 31) rfl rfl rfl rfl ?_
        show X 46 31 [vR 6, vI x1, vI x2, vI x3] [vI 1] h _
        refine X_b 2 33 (L := L_46) rfl rfl rfl ?_
        show (-2147483648 ≤ x3 + 1 ∧ x3 + 1 ≤ 2147483647) ∧ X 46 33 [vR 6, vI x1, vI 1, vI (x3 + 1)] [] h _
        refine ⟨c11, ?_⟩
        refine X_goto (L := L_46) (n' := 10) rfl rfl rfl rfl ?_
        show X 46 10 [vR 6, vI x1, vI 1, vI (x3 + 1)] [] h _
        exact H

set_option maxRecDepth 8192 in
/-- PPModel.settle, row 48 -/
theorem s_46_48 (x1 : Int) (w2 w3 : ab_V) (h : ab_S) (K : ab_O → ab_S → Prop) (H : ((270 ≤ x1 → X 46 68 [vR 6, vI 0, w2, w3] [] h K) ∧ (x1 < 270 → ((-2147483648 ≤ 270 * (h 6 7) ∧ 270 * (h 6 7) ≤ 2147483647) ∧ (0 ≤ (270 * (h 6 7)) + x1 ∧ (270 * (h 6 7)) + x1 < 13500) ∧ (0 ≤ x1 ∧ x1 < 270) ∧ (h 27 x1 = 0 ∨ h 27 x1 = 1) ∧ (-2147483648 ≤ x1 + 1 ∧ x1 + 1 ≤ 2147483647)) ∧ X 46 48 [vR 6, vI (x1 + 1), w2, w3] [] (ab_up h 25 ((270 * (h 6 7)) + x1) (h 27 x1)) K))) : X 46 48 [vR 6, vI x1, w2, w3] [] h K := by
  refine X_b 2 50 (L := L_46) rfl rfl rfl ?_
  show X 46 50 [vR 6, vI x1, w2, w3] [vI 270, vI x1] h _
  refine X_icmp (L := L_46) (n' := 66) rfl rfl rfl rfl (fun z1 => ?_) (fun z1 => ?_)
  · have z1 : 270 ≤ x1 := z1
    replace H := H.1 z1
    show X 46 66 [vR 6, vI x1, w2, w3] [] h _
    refine X_b 2 68 (L := L_46) rfl rfl rfl ?_
    show X 46 68 [vR 6, vI 0, w2, w3] [] h _
    exact H
  · have z1 : x1 < 270 := (Int.not_le.mp z1)
    replace H := H.2 z1
    show X 46 51 [vR 6, vI x1, w2, w3] [] h _
    obtain ⟨⟨c2, c3, c4, c5, c6⟩, H⟩ := H
    refine X_b 14 65 (L := L_46) rfl rfl rfl ?_
    show (-2147483648 ≤ 270 * (h 6 7) ∧ 270 * (h 6 7) ≤ 2147483647) ∧ (-2147483648 ≤ (270 * (h 6 7)) + x1 ∧ (270 * (h 6 7)) + x1 ≤ 2147483647) ∧ (0 ≤ x1 ∧ x1 < 270) ∧ (0 ≤ (270 * (h 6 7)) + x1 ∧ (270 * (h 6 7)) + x1 < 13500) ∧ (h 27 x1 = 0 ∨ h 27 x1 = 1) ∧ (-2147483648 ≤ x1 + 1 ∧ x1 + 1 ≤ 2147483647) ∧ X 46 65 [vR 6, vI (x1 + 1), w2, w3] [] (ab_up h 25 ((270 * (h 6 7)) + x1) (h 27 x1)) _
    refine ⟨c2, by have := c3; omega, c4, c3, c5, c6, ?_⟩
    refine X_goto (L := L_46) (n' := 48) rfl rfl rfl rfl ?_
    show X 46 48 [vR 6, vI (x1 + 1), w2, w3] [] (ab_up h 25 ((270 * (h 6 7)) + x1) (h 27 x1)) _
    exact H

set_option maxRecDepth 8192 in
/-- PPModel.settle, row 68 -/
theorem s_46_68 (x1 : Int) (w2 w3 : ab_V) (h : ab_S) (K : ab_O → ab_S → Prop) (H : ((10 ≤ x1 → ((-2147483648 ≤ (h 6 7) + 1 ∧ (h 6 7) + 1 ≤ 2147483647) ∧ (-2147483648 ≤ ((h 6 7) + 1) - 1 ∧ ((h 6 7) + 1) - 1 ≤ 2147483647)) ∧ K (oI (((h 6 7) + 1) - 1)) (ab_up h 6 7 ((h 6 7) + 1))) ∧ (x1 < 10 → ((-2147483648 ≤ 10 * (h 6 7) ∧ 10 * (h 6 7) ≤ 2147483647) ∧ (0 ≤ (10 * (h 6 7)) + x1 ∧ (10 * (h 6 7)) + x1 < 500) ∧ (-2147483648 ≤ x1 + 1 ∧ x1 + 1 ≤ 2147483647)) ∧ X 46 68 [vR 6, vI (x1 + 1), w2, w3] [] (ab_up h 26 ((10 * (h 6 7)) + x1) (-1)) K))) : X 46 68 [vR 6, vI x1, w2, w3] [] h K := by
  refine X_b 2 70 (L := L_46) rfl rfl rfl ?_
  show X 46 70 [vR 6, vI x1, w2, w3] [vI 10, vI x1] h _
  refine X_icmp (L := L_46) (n' := 83) rfl rfl rfl rfl (fun z1 => ?_) (fun z1 => ?_)
  · have z1 : 10 ≤ x1 := z1
    replace H := H.1 z1
    show X 46 83 [vR 6, vI x1, w2, w3] [] h _
    obtain ⟨⟨c2, c3⟩, H⟩ := H
    refine X_b 10 93 (L := L_46) rfl rfl rfl ?_
    show (-2147483648 ≤ (h 6 7) + 1 ∧ (h 6 7) + 1 ≤ 2147483647) ∧ (-2147483648 ≤ ((h 6 7) + 1) - 1 ∧ ((h 6 7) + 1) - 1 ≤ 2147483647) ∧ X 46 93 [vR 6, vI x1, w2, w3] [vI (((h 6 7) + 1) - 1)] (ab_up h 6 7 ((h 6 7) + 1)) _
    refine ⟨c2, c3, ?_⟩
    refine X_iret (L := L_46) rfl rfl rfl rfl ?_
    exact H
  · have z1 : x1 < 10 := (Int.not_le.mp z1)
    replace H := H.2 z1
    show X 46 71 [vR 6, vI x1, w2, w3] [] h _
    obtain ⟨⟨c4, c5, c6⟩, H⟩ := H
    refine X_b 11 82 (L := L_46) rfl rfl rfl ?_
    show (-2147483648 ≤ 10 * (h 6 7) ∧ 10 * (h 6 7) ≤ 2147483647) ∧ (-2147483648 ≤ (10 * (h 6 7)) + x1 ∧ (10 * (h 6 7)) + x1 ≤ 2147483647) ∧ (0 ≤ (10 * (h 6 7)) + x1 ∧ (10 * (h 6 7)) + x1 < 500) ∧ (-2147483648 ≤ x1 + 1 ∧ x1 + 1 ≤ 2147483647) ∧ X 46 82 [vR 6, vI (x1 + 1), w2, w3] [] (ab_up h 26 ((10 * (h 6 7)) + x1) (-1)) _
    refine ⟨c4, by have := c5; omega, c5, c6, ?_⟩
    refine X_goto (L := L_46) (n' := 68) rfl rfl rfl rfl ?_
    show X 46 68 [vR 6, vI (x1 + 1), w2, w3] [] (ab_up h 26 ((10 * (h 6 7)) + x1) (-1)) _
    exact H

set_option maxRecDepth 8192 in
/-- PPModel.go, row 0 -/
theorem s_47_0 (x1 x2 : Int) (h : ab_S) (K : ab_O → ab_S → Prop) (H : C 44 [vR 6] h (kV (fun h1 => X 47 4 [vR 6, vI x1, vI x2, vI 0, vJ 0, vJ 0] [] h1 K))) : C 47 [vR 6, vI x1, vI x2] h K := by
  show X 47 0 [vR 6, vI x1, vI x2, vJ 0, vJ 0, vJ 0] [] h K
  refine X_b 1 1 (L := L_47) rfl rfl rfl ?_
  show X 47 1 [vR 6, vI x1, vI x2, vJ 0, vJ 0, vJ 0] [vR 6] h _
  refine X_call 44 [vR 6] [] rfl (sg_calv rfl rfl rfl rfl rfl rfl rfl rfl rfl rfl rfl) (by decide) ?_
  refine C_mono H (kV_to ?_)
  intro h1 H
  show X 47 2 [vR 6, vI x1, vI x2, vJ 0, vJ 0, vJ 0] [] h1 _
  refine X_b 2 4 (L := L_47) rfl rfl rfl ?_
  show X 47 4 [vR 6, vI x1, vI x2, vI 0, vJ 0, vJ 0] [] h1 _
  exact H

set_option maxRecDepth 8192 in
/-- PPModel.go, row 4 -/
theorem s_47_4 (x1 x2 x3 : Int) (w4 w5 : ab_V) (h : ab_S) (K : ab_O → ab_S → Prop) (H : ((270 ≤ x3 → ((¬ h 6 12 = 0 → C 45 [vR 6] h (kV (fun h3 => ((-2147483648 ≤ 10 * x1 ∧ 10 * x1 ≤ 2147483647) ∧ (-2147483648 ≤ (10 * x1) + x2 ∧ (10 * x1) + x2 ≤ 2147483647)) ∧ C 46 [vR 6] h3 (kI (fun v6 h6 => ((0 ≤ (10 * x1) + x2 ∧ (10 * x1) + x2 < 500) ∧ (-2147483648 ≤ 10 * x1 ∧ 10 * x1 ≤ 2147483647)) ∧ (((ab_up h6 26 ((10 * x1) + x2) v6) 26 ((10 * x1) + x2) = (-1) → K (oI 0) (ab_up h6 26 ((10 * x1) + x2) v6)) ∧ (¬ (ab_up h6 26 ((10 * x1) + x2) v6) 26 ((10 * x1) + x2) = (-1) → K (oI 1) (ab_up h6 26 ((10 * x1) + x2) v6)))))))) ∧ (h 6 12 = 0 → K (oI 1) h))) ∧ (x3 < 270 → ((0 ≤ x3 ∧ (0 : Int) < 30) ∧ (0 ≤ x3 % 30 ∧ (0 : Int) < 6) ∧ (-2147483648 ≤ 270 * x1 ∧ 270 * x1 ≤ 2147483647) ∧ (0 ≤ (270 * x1) + x3 ∧ (270 * x1) + x3 < 13500)) ∧ ((h 25 ((270 * x1) + x3) = 0 → ((-2147483648 ≤ x3 + 1 ∧ x3 + 1 ≤ 2147483647)) ∧ X 47 4 [vR 6, vI x1, vI x2, vI (x3 + 1), vI (x3 / 30), vI ((x3 % 30) / 6)] [] h K) ∧ (¬ h 25 ((270 * x1) + x3) = 0 → ((0 ≤ x3 / 30 ∧ (x3 / 30 = h 6 1 ∨ (x3 / 30 < 8 ∧ h 21 (x3 / 30) ≤ 4)) ∧ 0 ≤ (x3 % 30) / 6)) ∧ ((¬ nxt h (x3 / 30) ((x3 % 30) / 6) = x2 → ((-2147483648 ≤ x3 + 1 ∧ x3 + 1 ≤ 2147483647)) ∧ X 47 4 [vR 6, vI x1, vI x2, vI (x3 + 1), vI (x3 / 30), vI ((x3 % 30) / 6)] [] h K) ∧ (nxt h (x3 / 30) ((x3 % 30) / 6) = x2 → ((-2147483648 ≤ x3 + 6 ∧ x3 + 6 ≤ 2147483647) ∧ (0 ≤ x3 + 6 ∧ x3 + 6 < 270)) ∧ ((h 27 (x3 + 6) = 0 → ((0 ≤ h 6 12 ∧ h 6 12 < 270) ∧ (-2147483648 ≤ (h 6 12) + 1 ∧ (h 6 12) + 1 ≤ 2147483647) ∧ (-2147483648 ≤ x3 + 1 ∧ x3 + 1 ≤ 2147483647)) ∧ X 47 4 [vR 6, vI x1, vI x2, vI (x3 + 1), vI (x3 / 30), vI ((x3 % 30) / 6)] [] (ab_up (ab_up (ab_up h 27 (x3 + 6) 1) 28 (h 6 12) (x3 + 6)) 6 12 ((h 6 12) + 1)) K) ∧ (¬ h 27 (x3 + 6) = 0 → ((-2147483648 ≤ x3 + 1 ∧ x3 + 1 ≤ 2147483647)) ∧ X 47 4 [vR 6, vI x1, vI x2, vI (x3 + 1), vI (x3 / 30), vI ((x3 % 30) / 6)] [] h K))))))))) : X 47 4 [vR 6, vI x1, vI x2, vI x3, w4, w5] [] h K := by
  refine X_b 2 6 (L := L_47) rfl rfl rfl ?_
  show X 47 6 [vR 6, vI x1, vI x2, vI x3, w4, w5] [vI 270, vI x3] h _
  refine X_icmp (L := L_47) (n' := 39) rfl rfl rfl rfl (fun z1 => ?_) (fun z1 => ?_)
  · have z1 : 270 ≤ x3 := z1
    replace H := H.1 z1
    show X 47 39 [vR 6, vI x1, vI x2, vI x3, w4, w5] [] h _
    refine X_b 2 41 (L := L_47) rfl rfl rfl ?_
    show X 47 41 [vR 6, vI x1, vI x2, vI x3, w4, w5] [vI (h 6 12)] h _
    refine X_if (L := L_47) (n' := 44) rfl rfl rfl rfl (fun z2 => ?_) (fun z2 => ?_)
    · have z2 : ¬ h 6 12 = 0 := z2
      replace H := H.1 z2
      show X 47 44 [vR 6, vI x1, vI x2, vI x3, w4, w5] [] h _
      refine X_b 1 45 (L := L_47) rfl rfl rfl ?_
      show X 47 45 [vR 6, vI x1, vI x2, vI x3, w4, w5] [vR 6] h _
      refine X_call 45 [vR 6] [] rfl (sg_calv rfl rfl rfl rfl rfl rfl rfl rfl rfl rfl rfl) (by decide) ?_
      refine C_mono H (kV_to ?_)
      intro h3 H
      show X 47 46 [vR 6, vI x1, vI x2, vI x3, w4, w5] [] h3 _
      obtain ⟨⟨c4, c5⟩, H⟩ := H
      refine X_b 8 54 (L := L_47) rfl rfl rfl ?_
      show (-2147483648 ≤ 10 * x1 ∧ 10 * x1 ≤ 2147483647) ∧ (-2147483648 ≤ (10 * x1) + x2 ∧ (10 * x1) + x2 ≤ 2147483647) ∧ X 47 54 [vR 6, vI x1, vI x2, vI x3, w4, w5] [vR 6, vI ((10 * x1) + x2), vR 26] h3 _
      refine ⟨c4, c5, ?_⟩
      refine X_call 46 [vR 6] [vI ((10 * x1) + x2), vR 26] rfl (sg_calv rfl rfl rfl rfl rfl rfl rfl rfl rfl rfl rfl) (by decide) ?_
      refine C_mono H (kI_to ?_)
      intro v6 h6 H
      show X 47 55 [vR 6, vI x1, vI x2, vI x3, w4, w5] [vI v6, vI ((10 * x1) + x2), vR 26] h6 _
      obtain ⟨⟨c7, c8⟩, H⟩ := H
      refine X_b 10 65 (L := L_47) rfl rfl rfl ?_
      show (0 ≤ (10 * x1) + x2 ∧ (10 * x1) + x2 < 500) ∧ (-2147483648 ≤ 10 * x1 ∧ 10 * x1 ≤ 2147483647) ∧ (-2147483648 ≤ (10 * x1) + x2 ∧ (10 * x1) + x2 ≤ 2147483647) ∧ (0 ≤ (10 * x1) + x2 ∧ (10 * x1) + x2 < 500) ∧ X 47 65 [vR 6, vI x1, vI x2, vI x3, w4, w5] [vI (-1), vI ((ab_up h6 26 ((10 * x1) + x2) v6) 26 ((10 * x1) + x2))] (ab_up h6 26 ((10 * x1) + x2) v6) _
      refine ⟨c7, c8, by have := c7; omega, c7, ?_⟩
      refine X_icmp (L := L_47) (n' := 68) rfl rfl rfl rfl (fun z9 => ?_) (fun z9 => ?_)
      · have z9 : (ab_up h6 26 ((10 * x1) + x2) v6) 26 ((10 * x1) + x2) = (-1) := z9
        replace H := H.1 z9
        show X 47 68 [vR 6, vI x1, vI x2, vI x3, w4, w5] [] (ab_up h6 26 ((10 * x1) + x2) v6) _
        refine X_b 1 69 (L := L_47) rfl rfl rfl ?_
        show X 47 69 [vR 6, vI x1, vI x2, vI x3, w4, w5] [vI 0] (ab_up h6 26 ((10 * x1) + x2) v6) _
        refine X_zret (L := L_47) rfl rfl rfl rfl (by decide) ?_
        exact H
      · have z9 : ¬ (ab_up h6 26 ((10 * x1) + x2) v6) 26 ((10 * x1) + x2) = (-1) := z9
        replace H := H.2 z9
        show X 47 66 [vR 6, vI x1, vI x2, vI x3, w4, w5] [] (ab_up h6 26 ((10 * x1) + x2) v6) _
        refine X_b 1 67 (L := L_47) rfl rfl rfl ?_
        show X 47 67 [vR 6, vI x1, vI x2, vI x3, w4, w5] [vI 1] (ab_up h6 26 ((10 * x1) + x2) v6) _
        refine X_goto (L := L_47) (n' := 69) rfl rfl rfl rfl ?_
        show X 47 69 [vR 6, vI x1, vI x2, vI x3, w4, w5] [vI 1] (ab_up h6 26 ((10 * x1) + x2) v6) _
        refine X_zret (L := L_47) rfl rfl rfl rfl (by decide) ?_
        exact H
    · have z2 : h 6 12 = 0 := (Classical.not_not.mp z2)
      replace H := H.2 z2
      show X 47 42 [vR 6, vI x1, vI x2, vI x3, w4, w5] [] h _
      refine X_b 1 43 (L := L_47) rfl rfl rfl ?_
      show X 47 43 [vR 6, vI x1, vI x2, vI x3, w4, w5] [vI 1] h _
      refine X_zret (L := L_47) rfl rfl rfl rfl (by decide) ?_
      exact H
  · have z1 : x3 < 270 := (Int.not_le.mp z1)
    replace H := H.2 z1
    show X 47 7 [vR 6, vI x1, vI x2, vI x3, w4, w5] [] h _
    obtain ⟨⟨c10, c11, c12, c13⟩, H⟩ := H
    refine X_b 18 25 (L := L_47) rfl rfl rfl ?_
    show (0 ≤ x3 ∧ (0 : Int) < 30) ∧ (0 ≤ x3 ∧ (0 : Int) < 30) ∧ (0 ≤ x3 % 30 ∧ (0 : Int) < 6) ∧ (-2147483648 ≤ 270 * x1 ∧ 270 * x1 ≤ 2147483647) ∧ (-2147483648 ≤ (270 * x1) + x3 ∧ (270 * x1) + x3 ≤ 2147483647) ∧ (0 ≤ (270 * x1) + x3 ∧ (270 * x1) + x3 < 13500) ∧ X 47 25 [vR 6, vI x1, vI x2, vI x3, vI (x3 / 30), vI ((x3 % 30) / 6)] [vI (h 25 ((270 * x1) + x3))] h _
    refine ⟨c10, c10, c11, c12, by have := c13; omega, c13, ?_⟩
    refine X_if (L := L_47) (n' := 37) rfl rfl rfl rfl (fun z14 => ?_) (fun z14 => ?_)
    · have z14 : h 25 ((270 * x1) + x3) = 0 := z14
      replace H := H.1 z14
      show X 47 37 [vR 6, vI x1, vI x2, vI x3, vI (x3 / 30), vI ((x3 % 30) / 6)] [] h _
      obtain ⟨c15, H⟩ := H
      refine X_b 1 38 (L := L_47) rfl rfl rfl ?_
      show (-2147483648 ≤ x3 + 1 ∧ x3 + 1 ≤ 2147483647) ∧ X 47 38 [vR 6, vI x1, vI x2, vI (x3 + 1), vI (x3 / 30), vI ((x3 % 30) / 6)] [] h _
      refine ⟨c15, ?_⟩
      refine X_goto (L := L_47) (n' := 4) rfl rfl rfl rfl ?_
      show X 47 4 [vR 6, vI x1, vI x2, vI (x3 + 1), vI (x3 / 30), vI ((x3 % 30) / 6)] [] h _
      exact H
    · have z14 : ¬ h 25 ((270 * x1) + x3) = 0 := z14
      replace H := H.2 z14
      show X 47 26 [vR 6, vI x1, vI x2, vI x3, vI (x3 / 30), vI ((x3 % 30) / 6)] [] h _
      obtain ⟨c16, H⟩ := H
      refine X_b 3 29 (L := L_47) rfl rfl rfl ?_
      show X 47 29 [vR 6, vI x1, vI x2, vI x3, vI (x3 / 30), vI ((x3 % 30) / 6)] [vI ((x3 % 30) / 6), vI (x3 / 30), vR 6] h _
      refine X_call 36 [vR 6, vI (x3 / 30), vI ((x3 % 30) / 6)] [] rfl (sg_calv rfl rfl rfl rfl rfl rfl rfl rfl rfl rfl rfl) (by decide) ?_
      refine f_next c16 ?_
      show X 47 30 [vR 6, vI x1, vI x2, vI x3, vI (x3 / 30), vI ((x3 % 30) / 6)] [vI (nxt h (x3 / 30) ((x3 % 30) / 6))] h _
      refine X_b 1 31 (L := L_47) rfl rfl rfl ?_
      show X 47 31 [vR 6, vI x1, vI x2, vI x3, vI (x3 / 30), vI ((x3 % 30) / 6)] [vI x2, vI (nxt h (x3 / 30) ((x3 % 30) / 6))] h _
      refine X_icmp (L := L_47) (n' := 37) rfl rfl rfl rfl (fun z17 => ?_) (fun z17 => ?_)
      · have z17 : ¬ nxt h (x3 / 30) ((x3 % 30) / 6) = x2 := z17
        replace H := H.1 z17
        show X 47 37 [vR 6, vI x1, vI x2, vI x3, vI (x3 / 30), vI ((x3 % 30) / 6)] [] h _
        obtain ⟨c18, H⟩ := H
        refine X_b 1 38 (L := L_47) rfl rfl rfl ?_
        show (-2147483648 ≤ x3 + 1 ∧ x3 + 1 ≤ 2147483647) ∧ X 47 38 [vR 6, vI x1, vI x2, vI (x3 + 1), vI (x3 / 30), vI ((x3 % 30) / 6)] [] h _
        refine ⟨c18, ?_⟩
        refine X_goto (L := L_47) (n' := 4) rfl rfl rfl rfl ?_
        show X 47 4 [vR 6, vI x1, vI x2, vI (x3 + 1), vI (x3 / 30), vI ((x3 % 30) / 6)] [] h _
        exact H
      · have z17 : nxt h (x3 / 30) ((x3 % 30) / 6) = x2 := (Classical.not_not.mp z17)
        replace H := H.2 z17
        show X 47 32 [vR 6, vI x1, vI x2, vI x3, vI (x3 / 30), vI ((x3 % 30) / 6)] [] h _
        obtain ⟨⟨c19, c20⟩, H⟩ := H
        refine X_b 4 36 (L := L_47) rfl rfl rfl ?_
        show (-2147483648 ≤ x3 + 6 ∧ x3 + 6 ≤ 2147483647) ∧ X 47 36 [vR 6, vI x1, vI x2, vI x3, vI (x3 / 30), vI ((x3 % 30) / 6)] [vI (x3 + 6), vR 6] h _
        refine ⟨c19, ?_⟩
        refine X_call 43 [vR 6, vI (x3 + 6)] [] rfl (sg_calv rfl rfl rfl rfl rfl rfl rfl rfl rfl rfl rfl) (by decide) ?_
        show X 43 0 [vR 6, vI (x3 + 6)] [] h _
        refine X_b 4 4 (L := L_43) rfl rfl rfl ?_
        show (0 ≤ x3 + 6 ∧ x3 + 6 < 270) ∧ X 43 4 [vR 6, vI (x3 + 6)] [vI (h 27 (x3 + 6))] h _
        refine ⟨c20, ?_⟩
        refine X_if (L := L_43) (n' := 6) rfl rfl rfl rfl (fun z21 => ?_) (fun z21 => ?_)
        · have z21 : h 27 (x3 + 6) = 0 := z21
          replace H := H.1 z21
          show X 43 6 [vR 6, vI (x3 + 6)] [] h _
          obtain ⟨⟨c22, c23, c24⟩, H⟩ := H
          refine X_b 17 23 (L := L_43) rfl rfl rfl ?_
          show (0 ≤ x3 + 6 ∧ x3 + 6 < 270) ∧ ((1 : Int) = 0 ∨ (1 : Int) = 1) ∧ (0 ≤ h 6 12 ∧ h 6 12 < 270) ∧ (-2147483648 ≤ (h 6 12) + 1 ∧ (h 6 12) + 1 ≤ 2147483647) ∧ X 43 23 [vR 6, vI (x3 + 6)] [] (ab_up (ab_up (ab_up h 27 (x3 + 6) 1) 28 (h 6 12) (x3 + 6)) 6 12 ((h 6 12) + 1)) _
          refine ⟨c20, by decide, c22, c23, ?_⟩
          refine X_ret (L := L_43) rfl rfl rfl rfl ?_
          show X 47 37 [vR 6, vI x1, vI x2, vI x3, vI (x3 / 30), vI ((x3 % 30) / 6)] [] (ab_up (ab_up (ab_up h 27 (x3 + 6) 1) 28 (h 6 12) (x3 + 6)) 6 12 ((h 6 12) + 1)) _
          refine X_b 1 38 (L := L_47) rfl rfl rfl ?_
          show (-2147483648 ≤ x3 + 1 ∧ x3 + 1 ≤ 2147483647) ∧ X 47 38 [vR 6, vI x1, vI x2, vI (x3 + 1), vI (x3 / 30), vI ((x3 % 30) / 6)] [] (ab_up (ab_up (ab_up h 27 (x3 + 6) 1) 28 (h 6 12) (x3 + 6)) 6 12 ((h 6 12) + 1)) _
          refine ⟨c24, ?_⟩
          refine X_goto (L := L_47) (n' := 4) rfl rfl rfl rfl ?_
          show X 47 4 [vR 6, vI x1, vI x2, vI (x3 + 1), vI (x3 / 30), vI ((x3 % 30) / 6)] [] (ab_up (ab_up (ab_up h 27 (x3 + 6) 1) 28 (h 6 12) (x3 + 6)) 6 12 ((h 6 12) + 1)) _
          exact H
        · have z21 : ¬ h 27 (x3 + 6) = 0 := z21
          replace H := H.2 z21
          show X 43 5 [vR 6, vI (x3 + 6)] [] h _
          obtain ⟨c25, H⟩ := H
          refine X_ret (L := L_43) rfl rfl rfl rfl ?_
          show X 47 37 [vR 6, vI x1, vI x2, vI x3, vI (x3 / 30), vI ((x3 % 30) / 6)] [] h _
          refine X_b 1 38 (L := L_47) rfl rfl rfl ?_
          show (-2147483648 ≤ x3 + 1 ∧ x3 + 1 ≤ 2147483647) ∧ X 47 38 [vR 6, vI x1, vI x2, vI (x3 + 1), vI (x3 / 30), vI ((x3 % 30) / 6)] [] h _
          refine ⟨c25, ?_⟩
          refine X_goto (L := L_47) (n' := 4) rfl rfl rfl rfl ?_
          show X 47 4 [vR 6, vI x1, vI x2, vI (x3 + 1), vI (x3 / 30), vI ((x3 % 30) / 6)] [] h _
          exact H

set_option maxRecDepth 8192 in
/-- PPModel.reduce, row 0 -/
theorem s_48_0 (x1 : Int) (h : ab_S) (K : ab_O → ab_S → Prop) (H : X 48 4 [vR 6, vI x1, vI 1, vI 0, vJ 0, vJ 0, vJ 0] [] h K) : C 48 [vR 6, vI x1] h K := by
  show X 48 0 [vR 6, vI x1, vJ 0, vJ 0, vJ 0, vJ 0, vJ 0] [] h K
  refine X_b 4 4 (L := L_48) rfl rfl rfl ?_
  show X 48 4 [vR 6, vI x1, vI 1, vI 0, vJ 0, vJ 0, vJ 0] [] h _
  exact H

set_option maxRecDepth 8192 in
/-- PPModel.reduce, row 4 -/
theorem s_48_4 (x1 x2 x3 : Int) (w4 w5 w6 : ab_V) (h : ab_S) (K : ab_O → ab_S → Prop) (H : ((-2147483648 ≤ (h 6 1) + 1 ∧ (h 6 1) + 1 ≤ 2147483647) ∧ (-2147483648 ≤ 30 * ((h 6 1) + 1) ∧ 30 * ((h 6 1) + 1) ≤ 2147483647)) ∧ ((30 * ((h 6 1) + 1) ≤ x3 → ((x2 = 0 ∨ x2 = 1)) ∧ K (oI x2) h) ∧ (x3 < 30 * ((h 6 1) + 1) → ((0 ≤ x3 ∧ (0 : Int) < 30) ∧ (0 ≤ x3 ∧ (0 : Int) < 6) ∧ (-2147483648 ≤ (x3 % 6) + 4 ∧ (x3 % 6) + 4 ≤ 2147483647) ∧ (-2147483648 ≤ 270 * x1 ∧ 270 * x1 ≤ 2147483647) ∧ (0 ≤ (270 * x1) + x3 ∧ (270 * x1) + x3 < 13500)) ∧ ((h 25 ((270 * x1) + x3) = 0 → ((-2147483648 ≤ x3 + 1 ∧ x3 + 1 ≤ 2147483647)) ∧ X 48 4 [vR 6, vI x1, vI x2, vI (x3 + 1), vI (x3 / 30), vI ((x3 % 6) + 4), w6] [] h K) ∧ (¬ h 25 ((270 * x1) + x3) = 0 → ((0 ≤ x3 % 30 ∧ (0 : Int) < 6) ∧ (0 ≤ x3 / 30 ∧ (x3 / 30 = h 6 1 ∨ (x3 / 30 < 8 ∧ h 21 (x3 / 30) ≤ 4)) ∧ 0 ≤ (x3 % 30) / 6)) ∧ ((nxt h (x3 / 30) ((x3 % 30) / 6) = (-1) → ((¬ x3 / 30 = h 6 1 → ((-2147483648 ≤ 100 + (x3 / 30) ∧ 100 + (x3 / 30) ≤ 2147483647)) ∧ ((x2 = 0 → ((-2147483648 ≤ 10 * x1 ∧ 10 * x1 ≤ 2147483647) ∧ (0 ≤ (10 * x1) + ((x3 % 6) + 4) ∧ (10 * x1) + ((x3 % 6) + 4) < 500) ∧ (-2147483648 ≤ x3 + 1 ∧ x3 + 1 ≤ 2147483647)) ∧ X 48 4 [vR 6, vI x1, vI 0, vI (x3 + 1), vI (x3 / 30), vI ((x3 % 6) + 4), vI (100 + (x3 / 30))] [] (ab_up h 26 ((10 * x1) + ((x3 % 6) + 4)) (100 + (x3 / 30))) K) ∧ (¬ x2 = 0 → ((-2147483648 ≤ 10 * x1 ∧ 10 * x1 ≤ 2147483647) ∧ (0 ≤ (10 * x1) + ((x3 % 6) + 4) ∧ (10 * x1) + ((x3 % 6) + 4) < 500)) ∧ ((h 26 ((10 * x1) + ((x3 % 6) + 4)) = (-1) → ((-2147483648 ≤ x3 + 1 ∧ x3 + 1 ≤ 2147483647)) ∧ X 48 4 [vR 6, vI x1, vI 1, vI (x3 + 1), vI (x3 / 30), vI ((x3 % 6) + 4), vI (100 + (x3 / 30))] [] (ab_up h 26 ((10 * x1) + ((x3 % 6) + 4)) (100 + (x3 / 30))) K) ∧ (¬ h 26 ((10 * x1) + ((x3 % 6) + 4)) = (-1) → ((¬ h 26 ((10 * x1) + ((x3 % 6) + 4)) = 100 + (x3 / 30) → ((-2147483648 ≤ x3 + 1 ∧ x3 + 1 ≤ 2147483647)) ∧ X 48 4 [vR 6, vI x1, vI 0, vI (x3 + 1), vI (x3 / 30), vI ((x3 % 6) + 4), vI (100 + (x3 / 30))] [] (ab_up h 26 ((10 * x1) + ((x3 % 6) + 4)) (100 + (x3 / 30))) K) ∧ (h 26 ((10 * x1) + ((x3 % 6) + 4)) = 100 + (x3 / 30) → ((-2147483648 ≤ x3 + 1 ∧ x3 + 1 ≤ 2147483647)) ∧ X 48 4 [vR 6, vI x1, vI 1, vI (x3 + 1), vI (x3 / 30), vI ((x3 % 6) + 4), vI (100 + (x3 / 30))] [] (ab_up h 26 ((10 * x1) + ((x3 % 6) + 4)) (100 + (x3 / 30))) K))))))) ∧ (x3 / 30 = h 6 1 → ((x2 = 0 → ((-2147483648 ≤ 10 * x1 ∧ 10 * x1 ≤ 2147483647) ∧ (0 ≤ (10 * x1) + ((x3 % 6) + 4) ∧ (10 * x1) + ((x3 % 6) + 4) < 500) ∧ (-2147483648 ≤ x3 + 1 ∧ x3 + 1 ≤ 2147483647)) ∧ X 48 4 [vR 6, vI x1, vI 0, vI (x3 + 1), vI (x3 / 30), vI ((x3 % 6) + 4), vI 200] [] (ab_up h 26 ((10 * x1) + ((x3 % 6) + 4)) 200) K) ∧ (¬ x2 = 0 → ((-2147483648 ≤ 10 * x1 ∧ 10 * x1 ≤ 2147483647) ∧ (0 ≤ (10 * x1) + ((x3 % 6) + 4) ∧ (10 * x1) + ((x3 % 6) + 4) < 500)) ∧ ((h 26 ((10 * x1) + ((x3 % 6) + 4)) = (-1) → ((-2147483648 ≤ x3 + 1 ∧ x3 + 1 ≤ 2147483647)) ∧ X 48 4 [vR 6, vI x1, vI 1, vI (x3 + 1), vI (x3 / 30), vI ((x3 % 6) + 4), vI 200] [] (ab_up h 26 ((10 * x1) + ((x3 % 6) + 4)) 200) K) ∧ (¬ h 26 ((10 * x1) + ((x3 % 6) + 4)) = (-1) → ((¬ h 26 ((10 * x1) + ((x3 % 6) + 4)) = 200 → ((-2147483648 ≤ x3 + 1 ∧ x3 + 1 ≤ 2147483647)) ∧ X 48 4 [vR 6, vI x1, vI 0, vI (x3 + 1), vI (x3 / 30), vI ((x3 % 6) + 4), vI 200] [] (ab_up h 26 ((10 * x1) + ((x3 % 6) + 4)) 200) K) ∧ (h 26 ((10 * x1) + ((x3 % 6) + 4)) = 200 → ((-2147483648 ≤ x3 + 1 ∧ x3 + 1 ≤ 2147483647)) ∧ X 48 4 [vR 6, vI x1, vI 1, vI (x3 + 1), vI (x3 / 30), vI ((x3 % 6) + 4), vI 200] [] (ab_up h 26 ((10 * x1) + ((x3 % 6) + 4)) 200) K))))))))) ∧ (¬ nxt h (x3 / 30) ((x3 % 30) / 6) = (-1) → ((-2147483648 ≤ x3 + 1 ∧ x3 + 1 ≤ 2147483647)) ∧ X 48 4 [vR 6, vI x1, vI x2, vI (x3 + 1), vI (x3 / 30), vI ((x3 % 6) + 4), w6] [] h K))))))) : X 48 4 [vR 6, vI x1, vI x2, vI x3, w4, w5, w6] [] h K := by
  obtain ⟨⟨c1, c2⟩, H⟩ := H
  refine X_b 7 11 (L := L_48) rfl rfl rfl ?_
  show (-2147483648 ≤ (h 6 1) + 1 ∧ (h 6 1) + 1 ≤ 2147483647) ∧ (-2147483648 ≤ 30 * ((h 6 1) + 1) ∧ 30 * ((h 6 1) + 1) ≤ 2147483647) ∧ X 48 11 [vR 6, vI x1, vI x2, vI x3, w4, w5, w6] [vI (30 * ((h 6 1) + 1)), vI x3] h _
  refine ⟨c1, c2, ?_⟩
  refine X_icmp (L := L_48) (n' := 89) rfl rfl rfl rfl (fun z3 => ?_) (fun z3 => ?_)
  · have z3 : 30 * ((h 6 1) + 1) ≤ x3 := z3
    replace H := H.1 z3
    show X 48 89 [vR 6, vI x1, vI x2, vI x3, w4, w5, w6] [] h _
    obtain ⟨c4, H⟩ := H
    refine X_b 1 90 (L := L_48) rfl rfl rfl ?_
    show X 48 90 [vR 6, vI x1, vI x2, vI x3, w4, w5, w6] [vI x2] h _
    refine X_zret (L := L_48) rfl rfl rfl rfl c4 ?_
    exact H
  · have z3 : x3 < 30 * ((h 6 1) + 1) := (Int.not_le.mp z3)
    replace H := H.2 z3
    show X 48 12 [vR 6, vI x1, vI x2, vI x3, w4, w5, w6] [] h _
    obtain ⟨⟨c5, c6, c7, c8, c9⟩, H⟩ := H
    refine X_b 18 30 (L := L_48) rfl rfl rfl ?_
    show (0 ≤ x3 ∧ (0 : Int) < 30) ∧ (0 ≤ x3 ∧ (0 : Int) < 6) ∧ (-2147483648 ≤ (x3 % 6) + 4 ∧ (x3 % 6) + 4 ≤ 2147483647) ∧ (-2147483648 ≤ 270 * x1 ∧ 270 * x1 ≤ 2147483647) ∧ (-2147483648 ≤ (270 * x1) + x3 ∧ (270 * x1) + x3 ≤ 2147483647) ∧ (0 ≤ (270 * x1) + x3 ∧ (270 * x1) + x3 < 13500) ∧ X 48 30 [vR 6, vI x1, vI x2, vI x3, vI (x3 / 30), vI ((x3 % 6) + 4), w6] [vI (h 25 ((270 * x1) + x3))] h _
    refine ⟨c5, c6, c7, c8, by have := c9; omega, c9, ?_⟩
    refine X_if (L := L_48) (n' := 87) rfl rfl rfl rfl (fun z10 => ?_) (fun z10 => ?_)
    · have z10 : h 25 ((270 * x1) + x3) = 0 := z10
      replace H := H.1 z10
      show X 48 87 [vR 6, vI x1, vI x2, vI x3, vI (x3 / 30), vI ((x3 % 6) + 4), w6] [] h _
      obtain ⟨c11, H⟩ := H
      refine X_b 1 88 (L := L_48) rfl rfl rfl ?_
      show (-2147483648 ≤ x3 + 1 ∧ x3 + 1 ≤ 2147483647) ∧ X 48 88 [vR 6, vI x1, vI x2, vI (x3 + 1), vI (x3 / 30), vI ((x3 % 6) + 4), w6] [] h _
      refine ⟨c11, ?_⟩
      refine X_goto (L := L_48) (n' := 4) rfl rfl rfl rfl ?_
      show X 48 4 [vR 6, vI x1, vI x2, vI (x3 + 1), vI (x3 / 30), vI ((x3 % 6) + 4), w6] [] h _
      exact H
    · have z10 : ¬ h 25 ((270 * x1) + x3) = 0 := z10
      replace H := H.2 z10
      show X 48 31 [vR 6, vI x1, vI x2, vI x3, vI (x3 / 30), vI ((x3 % 6) + 4), w6] [] h _
      obtain ⟨⟨c12, c13⟩, H⟩ := H
      refine X_b 7 38 (L := L_48) rfl rfl rfl ?_
      show (0 ≤ x3 ∧ (0 : Int) < 30) ∧ (0 ≤ x3 % 30 ∧ (0 : Int) < 6) ∧ X 48 38 [vR 6, vI x1, vI x2, vI x3, vI (x3 / 30), vI ((x3 % 6) + 4), w6] [vI ((x3 % 30) / 6), vI (x3 / 30), vR 6] h _
      refine ⟨c5, c12, ?_⟩
      refine X_call 36 [vR 6, vI (x3 / 30), vI ((x3 % 30) / 6)] [] rfl (sg_calv rfl rfl rfl rfl rfl rfl rfl rfl rfl rfl rfl) (by decide) ?_
      refine f_next c13 ?_
      show X 48 39 [vR 6, vI x1, vI x2, vI x3, vI (x3 / 30), vI ((x3 % 6) + 4), w6] [vI (nxt h (x3 / 30) ((x3 % 30) / 6))] h _
      refine X_b 1 40 (L := L_48) rfl rfl rfl ?_
      show X 48 40 [vR 6, vI x1, vI x2, vI x3, vI (x3 / 30), vI ((x3 % 6) + 4), w6] [vI (-1), vI (nxt h (x3 / 30) ((x3 % 30) / 6))] h _
      refine X_icmp (L := L_48) (n' := 42) rfl rfl rfl rfl (fun z14 => ?_) (fun z14 => ?_)
      · have z14 : nxt h (x3 / 30) ((x3 % 30) / 6) = (-1) := z14
        replace H := H.1 z14
        show X 48 42 [vR 6, vI x1, vI x2, vI x3, vI (x3 / 30), vI ((x3 % 6) + 4), w6] [] h _
        refine X_b 3 45 (L := L_48) rfl rfl rfl ?_
        show X 48 45 [vR 6, vI x1, vI x2, vI x3, vI (x3 / 30), vI ((x3 % 6) + 4), w6] [vI (h 6 1), vI (x3 / 30)] h _
        refine X_icmp (L := L_48) (n' := 48) rfl rfl rfl rfl (fun z15 => ?_) (fun z15 => ?_)
        · have z15 : ¬ x3 / 30 = h 6 1 := z15
          replace H := H.1 z15
          show X 48 48 [vR 6, vI x1, vI x2, vI x3, vI (x3 / 30), vI ((x3 % 6) + 4), w6] [] h _
          obtain ⟨c16, H⟩ := H
          refine X_b 5 53 (L := L_48) rfl rfl rfl ?_
          show (-2147483648 ≤ 100 + (x3 / 30) ∧ 100 + (x3 / 30) ≤ 2147483647) ∧ X 48 53 [vR 6, vI x1, vI x2, vI x3, vI (x3 / 30), vI ((x3 % 6) + 4), vI (100 + (x3 / 30))] [vI x2] h _
          refine ⟨c16, ?_⟩
          refine X_if (L := L_48) (n' := 76) rfl rfl rfl rfl (fun z17 => ?_) (fun z17 => ?_)
          · have z17 : x2 = 0 := z17
            replace H := H.1 z17
            show X 48 76 [vR 6, vI x1, vI x2, vI x3, vI (x3 / 30), vI ((x3 % 6) + 4), vI (100 + (x3 / 30))] [] h _
            obtain ⟨⟨c18, c19, c20⟩, H⟩ := H
            refine X_b 12 88 (L := L_48) rfl rfl rfl ?_
            show (-2147483648 ≤ 10 * x1 ∧ 10 * x1 ≤ 2147483647) ∧ (-2147483648 ≤ (10 * x1) + ((x3 % 6) + 4) ∧ (10 * x1) + ((x3 % 6) + 4) ≤ 2147483647) ∧ (0 ≤ (10 * x1) + ((x3 % 6) + 4) ∧ (10 * x1) + ((x3 % 6) + 4) < 500) ∧ (-2147483648 ≤ x3 + 1 ∧ x3 + 1 ≤ 2147483647) ∧ X 48 88 [vR 6, vI x1, vI 0, vI (x3 + 1), vI (x3 / 30), vI ((x3 % 6) + 4), vI (100 + (x3 / 30))] [] (ab_up h 26 ((10 * x1) + ((x3 % 6) + 4)) (100 + (x3 / 30))) _
            refine ⟨c18, by have := c19; omega, c19, c20, ?_⟩
            refine X_goto (L := L_48) (n' := 4) rfl rfl rfl rfl ?_
            show X 48 4 [vR 6, vI x1, vI 0, vI (x3 + 1), vI (x3 / 30), vI ((x3 % 6) + 4), vI (100 + (x3 / 30))] [] (ab_up h 26 ((10 * x1) + ((x3 % 6) + 4)) (100 + (x3 / 30))) _
            exact H
          · have z17 : ¬ x2 = 0 := z17
            replace H := H.2 z17
            show X 48 54 [vR 6, vI x1, vI x2, vI x3, vI (x3 / 30), vI ((x3 % 6) + 4), vI (100 + (x3 / 30))] [] h _
            obtain ⟨⟨c21, c22⟩, H⟩ := H
            refine X_b 9 63 (L := L_48) rfl rfl rfl ?_
            show (-2147483648 ≤ 10 * x1 ∧ 10 * x1 ≤ 2147483647) ∧ (-2147483648 ≤ (10 * x1) + ((x3 % 6) + 4) ∧ (10 * x1) + ((x3 % 6) + 4) ≤ 2147483647) ∧ (0 ≤ (10 * x1) + ((x3 % 6) + 4) ∧ (10 * x1) + ((x3 % 6) + 4) < 500) ∧ X 48 63 [vR 6, vI x1, vI x2, vI x3, vI (x3 / 30), vI ((x3 % 6) + 4), vI (100 + (x3 / 30))] [vI (-1), vI (h 26 ((10 * x1) + ((x3 % 6) + 4)))] h _
            refine ⟨c21, by have := c22; omega, c22, ?_⟩
            refine X_icmp (L := L_48) (n' := 74) rfl rfl rfl rfl (fun z23 => ?_) (fun z23 => ?_)
            · have z23 : h 26 ((10 * x1) + ((x3 % 6) + 4)) = (-1) := z23
              replace H := H.1 z23
              show X 48 74 [vR 6, vI x1, vI x2, vI x3, vI (x3 / 30), vI ((x3 % 6) + 4), vI (100 + (x3 / 30))] [] h _
              obtain ⟨c24, H⟩ := H
              refine X_b 1 75 (L := L_48) rfl rfl rfl ?_
              show X 48 75 [vR 6, vI x1, vI x2, vI x3, vI (x3 / 30), vI ((x3 % 6) + 4), vI (100 + (x3 / 30))] [vI 1] h _
              refine X_goto (L := L_48) (n' := 77) rfl rfl rfl rfl ?_
              show X 48 77 [vR 6, vI x1, vI x2, vI x3, vI (x3 / 30), vI ((x3 % 6) + 4), vI (100 + (x3 / 30))] [vI 1] h _
              refine X_b 11 88 (L := L_48) rfl rfl rfl ?_
              show (-2147483648 ≤ 10 * x1 ∧ 10 * x1 ≤ 2147483647) ∧ (-2147483648 ≤ (10 * x1) + ((x3 % 6) + 4) ∧ (10 * x1) + ((x3 % 6) + 4) ≤ 2147483647) ∧ (0 ≤ (10 * x1) + ((x3 % 6) + 4) ∧ (10 * x1) + ((x3 % 6) + 4) < 500) ∧ (-2147483648 ≤ x3 + 1 ∧ x3 + 1 ≤ 2147483647) ∧ X 48 88 [vR 6, vI x1, vI 1, vI (x3 + 1), vI (x3 / 30), vI ((x3 % 6) + 4), vI (100 + (x3 / 30))] [] (ab_up h 26 ((10 * x1) + ((x3 % 6) + 4)) (100 + (x3 / 30))) _
              refine ⟨c21, by have := c22; omega, c22, c24, ?_⟩
              refine X_goto (L := L_48) (n' := 4) rfl rfl rfl rfl ?_
              show X 48 4 [vR 6, vI x1, vI 1, vI (x3 + 1), vI (x3 / 30), vI ((x3 % 6) + 4), vI (100 + (x3 / 30))] [] (ab_up h 26 ((10 * x1) + ((x3 % 6) + 4)) (100 + (x3 / 30))) _
              exact H
            · have z23 : ¬ h 26 ((10 * x1) + ((x3 % 6) + 4)) = (-1) := z23
              replace H := H.2 z23
              show X 48 64 [vR 6, vI x1, vI x2, vI x3, vI (x3 / 30), vI ((x3 % 6) + 4), vI (100 + (x3 / 30))] [] h _
              refine X_b 9 73 (L := L_48) rfl rfl rfl ?_
              show (-2147483648 ≤ 10 * x1 ∧ 10 * x1 ≤ 2147483647) ∧ (-2147483648 ≤ (10 * x1) + ((x3 % 6) + 4) ∧ (10 * x1) + ((x3 % 6) + 4) ≤ 2147483647) ∧ (0 ≤ (10 * x1) + ((x3 % 6) + 4) ∧ (10 * x1) + ((x3 % 6) + 4) < 500) ∧ X 48 73 [vR 6, vI x1, vI x2, vI x3, vI (x3 / 30), vI ((x3 % 6) + 4), vI (100 + (x3 / 30))] [vI (100 + (x3 / 30)), vI (h 26 ((10 * x1) + ((x3 % 6) + 4)))] h _
              refine ⟨c21, by have := c22; omega, c22, ?_⟩
              refine X_icmp (L := L_48) (n' := 76) rfl rfl rfl rfl (fun z25 => ?_) (fun z25 => ?_)
              · have z25 : ¬ h 26 ((10 * x1) + ((x3 % 6) + 4)) = 100 + (x3 / 30) := z25
                replace H := H.1 z25
                show X 48 76 [vR 6, vI x1, vI x2, vI x3, vI (x3 / 30), vI ((x3 % 6) + 4), vI (100 + (x3 / 30))] [] h _
                obtain ⟨c26, H⟩ := H
                refine X_b 12 88 (L := L_48) rfl rfl rfl ?_
                show (-2147483648 ≤ 10 * x1 ∧ 10 * x1 ≤ 2147483647) ∧ (-2147483648 ≤ (10 * x1) + ((x3 % 6) + 4) ∧ (10 * x1) + ((x3 % 6) + 4) ≤ 2147483647) ∧ (0 ≤ (10 * x1) + ((x3 % 6) + 4) ∧ (10 * x1) + ((x3 % 6) + 4) < 500) ∧ (-2147483648 ≤ x3 + 1 ∧ x3 + 1 ≤ 2147483647) ∧ X 48 88 [vR 6, vI x1, vI 0, vI (x3 + 1), vI (x3 / 30), vI ((x3 % 6) + 4), vI (100 + (x3 / 30))] [] (ab_up h 26 ((10 * x1) + ((x3 % 6) + 4)) (100 + (x3 / 30))) _
                refine ⟨c21, by have := c22; omega, c22, c26, ?_⟩
                refine X_goto (L := L_48) (n' := 4) rfl rfl rfl rfl ?_
                show X 48 4 [vR 6, vI x1, vI 0, vI (x3 + 1), vI (x3 / 30), vI ((x3 % 6) + 4), vI (100 + (x3 / 30))] [] (ab_up h 26 ((10 * x1) + ((x3 % 6) + 4)) (100 + (x3 / 30))) _
                exact H
              · have z25 : h 26 ((10 * x1) + ((x3 % 6) + 4)) = 100 + (x3 / 30) := (Classical.not_not.mp z25)
                replace H := H.2 z25
                show X 48 74 [vR 6, vI x1, vI x2, vI x3, vI (x3 / 30), vI ((x3 % 6) + 4), vI (100 + (x3 / 30))] [] h _
                obtain ⟨c27, H⟩ := H
                refine X_b 1 75 (L := L_48) rfl rfl rfl ?_
                show X 48 75 [vR 6, vI x1, vI x2, vI x3, vI (x3 / 30), vI ((x3 % 6) + 4), vI (100 + (x3 / 30))] [vI 1] h _
                refine X_goto (L := L_48) (n' := 77) rfl rfl rfl rfl ?_
                show X 48 77 [vR 6, vI x1, vI x2, vI x3, vI (x3 / 30), vI ((x3 % 6) + 4), vI (100 + (x3 / 30))] [vI 1] h _
                refine X_b 11 88 (L := L_48) rfl rfl rfl ?_
                show (-2147483648 ≤ 10 * x1 ∧ 10 * x1 ≤ 2147483647) ∧ (-2147483648 ≤ (10 * x1) + ((x3 % 6) + 4) ∧ (10 * x1) + ((x3 % 6) + 4) ≤ 2147483647) ∧ (0 ≤ (10 * x1) + ((x3 % 6) + 4) ∧ (10 * x1) + ((x3 % 6) + 4) < 500) ∧ (-2147483648 ≤ x3 + 1 ∧ x3 + 1 ≤ 2147483647) ∧ X 48 88 [vR 6, vI x1, vI 1, vI (x3 + 1), vI (x3 / 30), vI ((x3 % 6) + 4), vI (100 + (x3 / 30))] [] (ab_up h 26 ((10 * x1) + ((x3 % 6) + 4)) (100 + (x3 / 30))) _
                refine ⟨c21, by have := c22; omega, c22, c27, ?_⟩
                refine X_goto (L := L_48) (n' := 4) rfl rfl rfl rfl ?_
                show X 48 4 [vR 6, vI x1, vI 1, vI (x3 + 1), vI (x3 / 30), vI ((x3 % 6) + 4), vI (100 + (x3 / 30))] [] (ab_up h 26 ((10 * x1) + ((x3 % 6) + 4)) (100 + (x3 / 30))) _
                exact H
        · have z15 : x3 / 30 = h 6 1 := (Classical.not_not.mp z15)
          replace H := H.2 z15
          show X 48 46 [vR 6, vI x1, vI x2, vI x3, vI (x3 / 30), vI ((x3 % 6) + 4), w6] [] h _
          refine X_b 1 47 (L := L_48) rfl rfl rfl ?_
          show X 48 47 [vR 6, vI x1, vI x2, vI x3, vI (x3 / 30), vI ((x3 % 6) + 4), w6] [vI 200] h _
          refine X_goto (L := L_48) (n' := 51) rfl rfl rfl rfl ?_
          show X 48 51 [vR 6, vI x1, vI x2, vI x3, vI (x3 / 30), vI ((x3 % 6) + 4), w6] [vI 200] h _
          refine X_b 2 53 (L := L_48) rfl rfl rfl ?_
          show X 48 53 [vR 6, vI x1, vI x2, vI x3, vI (x3 / 30), vI ((x3 % 6) + 4), vI 200] [vI x2] h _
          refine X_if (L := L_48) (n' := 76) rfl rfl rfl rfl (fun z28 => ?_) (fun z28 => ?_)
          · have z28 : x2 = 0 := z28
            replace H := H.1 z28
            show X 48 76 [vR 6, vI x1, vI x2, vI x3, vI (x3 / 30), vI ((x3 % 6) + 4), vI 200] [] h _
            obtain ⟨⟨c29, c30, c31⟩, H⟩ := H
            refine X_b 12 88 (L := L_48) rfl rfl rfl ?_
            show (-2147483648 ≤ 10 * x1 ∧ 10 * x1 ≤ 2147483647) ∧ (-2147483648 ≤ (10 * x1) + ((x3 % 6) + 4) ∧ (10 * x1) + ((x3 % 6) + 4) ≤ 2147483647) ∧ (0 ≤ (10 * x1) + ((x3 % 6) + 4) ∧ (10 * x1) + ((x3 % 6) + 4) < 500) ∧ (-2147483648 ≤ x3 + 1 ∧ x3 + 1 ≤ 2147483647) ∧ X 48 88 [vR 6, vI x1, vI 0, vI (x3 + 1), vI (x3 / 30), vI ((x3 % 6) + 4), vI 200] [] (ab_up h 26 ((10 * x1) + ((x3 % 6) + 4)) 200) _
            refine ⟨c29, by have := c30; omega, c30, c31, ?_⟩
            refine X_goto (L := L_48) (n' := 4) rfl rfl rfl rfl ?_
            show X 48 4 [vR 6, vI x1, vI 0, vI (x3 + 1), vI (x3 / 30), vI ((x3 % 6) + 4), vI 200] [] (ab_up h 26 ((10 * x1) + ((x3 % 6) + 4)) 200) _
            exact H
          · have z28 : ¬ x2 = 0 := z28
            replace H := H.2 z28
            show X 48 54 [vR 6, vI x1, vI x2, vI x3, vI (x3 / 30), vI ((x3 % 6) + 4), vI 200] [] h _
            obtain ⟨⟨c32, c33⟩, H⟩ := H
            refine X_b 9 63 (L := L_48) rfl rfl rfl ?_
            show (-2147483648 ≤ 10 * x1 ∧ 10 * x1 ≤ 2147483647) ∧ (-2147483648 ≤ (10 * x1) + ((x3 % 6) + 4) ∧ (10 * x1) + ((x3 % 6) + 4) ≤ 2147483647) ∧ (0 ≤ (10 * x1) + ((x3 % 6) + 4) ∧ (10 * x1) + ((x3 % 6) + 4) < 500) ∧ X 48 63 [vR 6, vI x1, vI x2, vI x3, vI (x3 / 30), vI ((x3 % 6) + 4), vI 200] [vI (-1), vI (h 26 ((10 * x1) + ((x3 % 6) + 4)))] h _
            refine ⟨c32, by have := c33; omega, c33, ?_⟩
            refine X_icmp (L := L_48) (n' := 74) rfl rfl rfl rfl (fun z34 => ?_) (fun z34 => ?_)
            · have z34 : h 26 ((10 * x1) + ((x3 % 6) + 4)) = (-1) := z34
              replace H := H.1 z34
              show X 48 74 [vR 6, vI x1, vI x2, vI x3, vI (x3 / 30), vI ((x3 % 6) + 4), vI 200] [] h _
              obtain ⟨c35, H⟩ := H
              refine X_b 1 75 (L := L_48) rfl rfl rfl ?_
              show X 48 75 [vR 6, vI x1, vI x2, vI x3, vI (x3 / 30), vI ((x3 % 6) + 4), vI 200] [vI 1] h _
              refine X_goto (L := L_48) (n' := 77) rfl rfl rfl rfl ?_
              show X 48 77 [vR 6, vI x1, vI x2, vI x3, vI (x3 / 30), vI ((x3 % 6) + 4), vI 200] [vI 1] h _
              refine X_b 11 88 (L := L_48) rfl rfl rfl ?_
              show (-2147483648 ≤ 10 * x1 ∧ 10 * x1 ≤ 2147483647) ∧ (-2147483648 ≤ (10 * x1) + ((x3 % 6) + 4) ∧ (10 * x1) + ((x3 % 6) + 4) ≤ 2147483647) ∧ (0 ≤ (10 * x1) + ((x3 % 6) + 4) ∧ (10 * x1) + ((x3 % 6) + 4) < 500) ∧ (-2147483648 ≤ x3 + 1 ∧ x3 + 1 ≤ 2147483647) ∧ X 48 88 [vR 6, vI x1, vI 1, vI (x3 + 1), vI (x3 / 30), vI ((x3 % 6) + 4), vI 200] [] (ab_up h 26 ((10 * x1) + ((x3 % 6) + 4)) 200) _
              refine ⟨c32, by have := c33; omega, c33, c35, ?_⟩
              refine X_goto (L := L_48) (n' := 4) rfl rfl rfl rfl ?_
              show X 48 4 [vR 6, vI x1, vI 1, vI (x3 + 1), vI (x3 / 30), vI ((x3 % 6) + 4), vI 200] [] (ab_up h 26 ((10 * x1) + ((x3 % 6) + 4)) 200) _
              exact H
            · have z34 : ¬ h 26 ((10 * x1) + ((x3 % 6) + 4)) = (-1) := z34
              replace H := H.2 z34
              show X 48 64 [vR 6, vI x1, vI x2, vI x3, vI (x3 / 30), vI ((x3 % 6) + 4), vI 200] [] h _
              refine X_b 9 73 (L := L_48) rfl rfl rfl ?_
              show (-2147483648 ≤ 10 * x1 ∧ 10 * x1 ≤ 2147483647) ∧ (-2147483648 ≤ (10 * x1) + ((x3 % 6) + 4) ∧ (10 * x1) + ((x3 % 6) + 4) ≤ 2147483647) ∧ (0 ≤ (10 * x1) + ((x3 % 6) + 4) ∧ (10 * x1) + ((x3 % 6) + 4) < 500) ∧ X 48 73 [vR 6, vI x1, vI x2, vI x3, vI (x3 / 30), vI ((x3 % 6) + 4), vI 200] [vI 200, vI (h 26 ((10 * x1) + ((x3 % 6) + 4)))] h _
              refine ⟨c32, by have := c33; omega, c33, ?_⟩
              refine X_icmp (L := L_48) (n' := 76) rfl rfl rfl rfl (fun z36 => ?_) (fun z36 => ?_)
              · have z36 : ¬ h 26 ((10 * x1) + ((x3 % 6) + 4)) = 200 := z36
                replace H := H.1 z36
                show X 48 76 [vR 6, vI x1, vI x2, vI x3, vI (x3 / 30), vI ((x3 % 6) + 4), vI 200] [] h _
                obtain ⟨c37, H⟩ := H
                refine X_b 12 88 (L := L_48) rfl rfl rfl ?_
                show (-2147483648 ≤ 10 * x1 ∧ 10 * x1 ≤ 2147483647) ∧ (-2147483648 ≤ (10 * x1) + ((x3 % 6) + 4) ∧ (10 * x1) + ((x3 % 6) + 4) ≤ 2147483647) ∧ (0 ≤ (10 * x1) + ((x3 % 6) + 4) ∧ (10 * x1) + ((x3 % 6) + 4) < 500) ∧ (-2147483648 ≤ x3 + 1 ∧ x3 + 1 ≤ 2147483647) ∧ X 48 88 [vR 6, vI x1, vI 0, vI (x3 + 1), vI (x3 / 30), vI ((x3 % 6) + 4), vI 200] [] (ab_up h 26 ((10 * x1) + ((x3 % 6) + 4)) 200) _
                refine ⟨c32, by have := c33; omega, c33, c37, ?_⟩
                refine X_goto (L := L_48) (n' := 4) rfl rfl rfl rfl ?_
                show X 48 4 [vR 6, vI x1, vI 0, vI (x3 + 1), vI (x3 / 30), vI ((x3 % 6) + 4), vI 200] [] (ab_up h 26 ((10 * x1) + ((x3 % 6) + 4)) 200) _
                exact H
              · have z36 : h 26 ((10 * x1) + ((x3 % 6) + 4)) = 200 := (Classical.not_not.mp z36)
                replace H := H.2 z36
                show X 48 74 [vR 6, vI x1, vI x2, vI x3, vI (x3 / 30), vI ((x3 % 6) + 4), vI 200] [] h _
                obtain ⟨c38, H⟩ := H
                refine X_b 1 75 (L := L_48) rfl rfl rfl ?_
                show X 48 75 [vR 6, vI x1, vI x2, vI x3, vI (x3 / 30), vI ((x3 % 6) + 4), vI 200] [vI 1] h _
                refine X_goto (L := L_48) (n' := 77) rfl rfl rfl rfl ?_
                show X 48 77 [vR 6, vI x1, vI x2, vI x3, vI (x3 / 30), vI ((x3 % 6) + 4), vI 200] [vI 1] h _
                refine X_b 11 88 (L := L_48) rfl rfl rfl ?_
                show (-2147483648 ≤ 10 * x1 ∧ 10 * x1 ≤ 2147483647) ∧ (-2147483648 ≤ (10 * x1) + ((x3 % 6) + 4) ∧ (10 * x1) + ((x3 % 6) + 4) ≤ 2147483647) ∧ (0 ≤ (10 * x1) + ((x3 % 6) + 4) ∧ (10 * x1) + ((x3 % 6) + 4) < 500) ∧ (-2147483648 ≤ x3 + 1 ∧ x3 + 1 ≤ 2147483647) ∧ X 48 88 [vR 6, vI x1, vI 1, vI (x3 + 1), vI (x3 / 30), vI ((x3 % 6) + 4), vI 200] [] (ab_up h 26 ((10 * x1) + ((x3 % 6) + 4)) 200) _
                refine ⟨c32, by have := c33; omega, c33, c38, ?_⟩
                refine X_goto (L := L_48) (n' := 4) rfl rfl rfl rfl ?_
                show X 48 4 [vR 6, vI x1, vI 1, vI (x3 + 1), vI (x3 / 30), vI ((x3 % 6) + 4), vI 200] [] (ab_up h 26 ((10 * x1) + ((x3 % 6) + 4)) 200) _
                exact H
      · have z14 : ¬ nxt h (x3 / 30) ((x3 % 30) / 6) = (-1) := z14
        replace H := H.2 z14
        show X 48 41 [vR 6, vI x1, vI x2, vI x3, vI (x3 / 30), vI ((x3 % 6) + 4), w6] [] h _
        obtain ⟨c39, H⟩ := H
        refine X_goto (L := L_48) (n' := 87) rfl rfl rfl rfl ?_
        show X 48 87 [vR 6, vI x1, vI x2, vI x3, vI (x3 / 30), vI ((x3 % 6) + 4), w6] [] h _
        refine X_b 1 88 (L := L_48) rfl rfl rfl ?_
        show (-2147483648 ≤ x3 + 1 ∧ x3 + 1 ≤ 2147483647) ∧ X 48 88 [vR 6, vI x1, vI x2, vI (x3 + 1), vI (x3 / 30), vI ((x3 % 6) + 4), w6] [] h _
        refine ⟨c39, ?_⟩
        refine X_goto (L := L_48) (n' := 4) rfl rfl rfl rfl ?_
        show X 48 4 [vR 6, vI x1, vI x2, vI (x3 + 1), vI (x3 / 30), vI ((x3 % 6) + 4), w6] [] h _
        exact H

set_option maxRecDepth 8192 in
/-- PPModel.build, row 0 -/
theorem s_49_0 (h : ab_S) (K : ab_O → ab_S → Prop) (H : ((¬ h 6 1 = 0 → C 39 [vR 6] (ab_up (ab_up (ab_up (ab_up (ab_up (ab_up (ab_up (ab_up h 6 0 0) 6 7 0) 6 19 0) 6 22 0) 6 13 (-1)) 6 14 (-1)) 6 15 (-1)) 6 16 (-1)) (kV (fun h2 => C 44 [vR 6] h2 (kV (fun h3 => ((-2147483648 ≤ 30 * (h3 6 1) ∧ 30 * (h3 6 1) ≤ 2147483647) ∧ (-2147483648 ≤ (30 * (h3 6 1)) + 0 ∧ (30 * (h3 6 1)) + 0 ≤ 2147483647) ∧ (-2147483648 ≤ ((30 * (h3 6 1)) + 0) + 9 ∧ ((30 * (h3 6 1)) + 0) + 9 ≤ 2147483647) ∧ (-2147483648 ≤ (((30 * (h3 6 1)) + 0) + 9) - 4 ∧ (((30 * (h3 6 1)) + 0) + 9) - 4 ≤ 2147483647) ∧ (0 ≤ (((30 * (h3 6 1)) + 0) + 9) - 4 ∧ (((30 * (h3 6 1)) + 0) + 9) - 4 < 270)) ∧ ((h3 27 ((((30 * (h3 6 1)) + 0) + 9) - 4) = 0 → ((0 ≤ h3 6 12 ∧ h3 6 12 < 270) ∧ (-2147483648 ≤ (h3 6 12) + 1 ∧ (h3 6 12) + 1 ≤ 2147483647)) ∧ C 45 [vR 6] (ab_up (ab_up (ab_up h3 27 ((((30 * (h3 6 1)) + 0) + 9) - 4) 1) 28 (h3 6 12) ((((30 * (h3 6 1)) + 0) + 9) - 4)) 6 12 ((h3 6 12) + 1)) (kV (fun h12 => C 46 [vR 6] h12 (kI (fun v13 h13 => X 49 32 [vR 6, vI 1, vI 0, vJ 0] [] h13 K))))) ∧ (¬ h3 27 ((((30 * (h3 6 1)) + 0) + 9) - 4) = 0 → C 45 [vR 6] h3 (kV (fun h14 => C 46 [vR 6] h14 (kI (fun v15 h15 => X 49 32 [vR 6, vI 1, vI 0, vJ 0] [] h15 K))))))))))) ∧ (h 6 1 = 0 → K (oI 0) (ab_up (ab_up h 6 0 0) 6 0 1)))) : C 49 [vR 6] h K := by
  show X 49 0 [vR 6, vJ 0, vJ 0, vJ 0] [] h K
  refine X_b 5 5 (L := L_49) rfl rfl rfl ?_
  show X 49 5 [vR 6, vJ 0, vJ 0, vJ 0] [vI (h 6 1)] (ab_up h 6 0 0) _
  refine X_if (L := L_49) (n' := 10) rfl rfl rfl rfl (fun z1 => ?_) (fun z1 => ?_)
  · have z1 : ¬ h 6 1 = 0 := z1
    replace H := H.1 z1
    show X 49 10 [vR 6, vJ 0, vJ 0, vJ 0] [] (ab_up h 6 0 0) _
    refine X_b 1 11 (L := L_49) rfl rfl rfl ?_
    show X 49 11 [vR 6, vJ 0, vJ 0, vJ 0] [vR 6] (ab_up h 6 0 0) _
    refine X_call 33 [vR 6] [] rfl (sg_calv rfl rfl rfl rfl rfl rfl rfl rfl rfl rfl rfl) (by decide) ?_
    show X 33 0 [vR 6] [] (ab_up h 6 0 0) _
    refine X_b 4 4 (L := L_33) rfl rfl rfl ?_
    show X 33 4 [vR 6] [vR 6] (ab_up (ab_up h 6 0 0) 6 7 0) _
    refine X_call 30 [vR 6] [] rfl (sg_calv rfl rfl rfl rfl rfl rfl rfl rfl rfl rfl rfl) (by decide) ?_
    show X 30 0 [vR 6] [] (ab_up (ab_up h 6 0 0) 6 7 0) _
    refine X_b 6 6 (L := L_30) rfl rfl rfl ?_
    show ((0 : Int) = 0 ∨ (0 : Int) = 1) ∧ X 30 6 [vR 6] [] (ab_up (ab_up (ab_up (ab_up h 6 0 0) 6 7 0) 6 19 0) 6 22 0) _
    refine ⟨by decide, ?_⟩
    refine X_ret (L := L_30) rfl rfl rfl rfl ?_
    show X 33 5 [vR 6] [] (ab_up (ab_up (ab_up (ab_up h 6 0 0) 6 7 0) 6 19 0) 6 22 0) _
    refine X_b 5 10 (L := L_33) rfl rfl rfl ?_
    show X 33 10 [vR 6] [vI (-1), vI (-1), vI (-1), vI (-1), vR 6] (ab_up (ab_up (ab_up (ab_up h 6 0 0) 6 7 0) 6 19 0) 6 22 0) _
    refine X_call 31 [vR 6, vI (-1), vI (-1), vI (-1), vI (-1)] [] rfl (sg_calv rfl rfl rfl rfl rfl rfl rfl rfl rfl rfl rfl) (by decide) ?_
    show X 31 0 [vR 6, vI (-1), vI (-1), vI (-1), vI (-1)] [] (ab_up (ab_up (ab_up (ab_up h 6 0 0) 6 7 0) 6 19 0) 6 22 0) _
    refine X_b 13 13 (L := L_31) rfl rfl rfl ?_
    show X 31 13 [vR 6, vI (-1), vI (-1), vI (-1), vI (-1)] [vI 1] (ab_up (ab_up (ab_up (ab_up (ab_up (ab_up (ab_up (ab_up h 6 0 0) 6 7 0) 6 19 0) 6 22 0) 6 13 (-1)) 6 14 (-1)) 6 15 (-1)) 6 16 (-1)) _
    refine X_zret (L := L_31) rfl rfl rfl rfl (by decide) ?_
    show X 33 11 [vR 6] [vI 1] (ab_up (ab_up (ab_up (ab_up (ab_up (ab_up (ab_up (ab_up h 6 0 0) 6 7 0) 6 19 0) 6 22 0) 6 13 (-1)) 6 14 (-1)) 6 15 (-1)) 6 16 (-1)) _
    refine X_b 1 12 (L := L_33) rfl rfl rfl ?_
    show X 33 12 [vR 6] [] (ab_up (ab_up (ab_up (ab_up (ab_up (ab_up (ab_up (ab_up h 6 0 0) 6 7 0) 6 19 0) 6 22 0) 6 13 (-1)) 6 14 (-1)) 6 15 (-1)) 6 16 (-1)) _
    refine X_ret (L := L_33) rfl rfl rfl rfl ?_
    show X 49 12 [vR 6, vJ 0, vJ 0, vJ 0] [] (ab_up (ab_up (ab_up (ab_up (ab_up (ab_up (ab_up (ab_up h 6 0 0) 6 7 0) 6 19 0) 6 22 0) 6 13 (-1)) 6 14 (-1)) 6 15 (-1)) 6 16 (-1)) _
    refine X_b 1 13 (L := L_49) rfl rfl rfl ?_
    show X 49 13 [vR 6, vJ 0, vJ 0, vJ 0] [vR 6] (ab_up (ab_up (ab_up (ab_up (ab_up (ab_up (ab_up (ab_up h 6 0 0) 6 7 0) 6 19 0) 6 22 0) 6 13 (-1)) 6 14 (-1)) 6 15 (-1)) 6 16 (-1)) _
    refine X_call 39 [vR 6] [] rfl (sg_calv rfl rfl rfl rfl rfl rfl rfl rfl rfl rfl rfl) (by decide) ?_
    refine C_mono H (kV_to ?_)
    intro h2 H
    show X 49 14 [vR 6, vJ 0, vJ 0, vJ 0] [] h2 _
    refine X_b 1 15 (L := L_49) rfl rfl rfl ?_
    show X 49 15 [vR 6, vJ 0, vJ 0, vJ 0] [vR 6] h2 _
    refine X_call 44 [vR 6] [] rfl (sg_calv rfl rfl rfl rfl rfl rfl rfl rfl rfl rfl rfl) (by decide) ?_
    refine C_mono H (kV_to ?_)
    intro h3 H
    show X 49 16 [vR 6, vJ 0, vJ 0, vJ 0] [] h3 _
    obtain ⟨⟨c4, c5, c6, c7, c8⟩, H⟩ := H
    refine X_b 5 21 (L := L_49) rfl rfl rfl ?_
    show X 49 21 [vR 6, vJ 0, vJ 0, vJ 0] [vI 9, vI 0, vI (h3 6 1), vR 6] h3 _
    refine X_call 41 [vI (h3 6 1), vI 0, vI 9] [vR 6] rfl (sg_cals rfl rfl rfl rfl rfl rfl rfl rfl rfl rfl) (by decide) ?_
    show X 41 0 [vI (h3 6 1), vI 0, vI 9] [] h3 _
    refine X_b 11 11 (L := L_41) rfl rfl rfl ?_
    show (-2147483648 ≤ 30 * (h3 6 1) ∧ 30 * (h3 6 1) ≤ 2147483647) ∧ (-2147483648 ≤ (0 : Int) ∧ (0 : Int) ≤ 2147483647) ∧ (-2147483648 ≤ (30 * (h3 6 1)) + 0 ∧ (30 * (h3 6 1)) + 0 ≤ 2147483647) ∧ (-2147483648 ≤ ((30 * (h3 6 1)) + 0) + 9 ∧ ((30 * (h3 6 1)) + 0) + 9 ≤ 2147483647) ∧ (-2147483648 ≤ (((30 * (h3 6 1)) + 0) + 9) - 4 ∧ (((30 * (h3 6 1)) + 0) + 9) - 4 ≤ 2147483647) ∧ X 41 11 [vI (h3 6 1), vI 0, vI 9] [vI ((((30 * (h3 6 1)) + 0) + 9) - 4)] h3 _
    refine ⟨c4, by decide, c5, c6, c7, ?_⟩
    refine X_iret (L := L_41) rfl rfl rfl rfl ?_
    show X 49 22 [vR 6, vJ 0, vJ 0, vJ 0] [vI ((((30 * (h3 6 1)) + 0) + 9) - 4), vR 6] h3 _
    refine X_call 43 [vR 6, vI ((((30 * (h3 6 1)) + 0) + 9) - 4)] [] rfl (sg_calv rfl rfl rfl rfl rfl rfl rfl rfl rfl rfl rfl) (by decide) ?_
    show X 43 0 [vR 6, vI ((((30 * (h3 6 1)) + 0) + 9) - 4)] [] h3 _
    refine X_b 4 4 (L := L_43) rfl rfl rfl ?_
    show (0 ≤ (((30 * (h3 6 1)) + 0) + 9) - 4 ∧ (((30 * (h3 6 1)) + 0) + 9) - 4 < 270) ∧ X 43 4 [vR 6, vI ((((30 * (h3 6 1)) + 0) + 9) - 4)] [vI (h3 27 ((((30 * (h3 6 1)) + 0) + 9) - 4))] h3 _
    refine ⟨c8, ?_⟩
    refine X_if (L := L_43) (n' := 6) rfl rfl rfl rfl (fun z9 => ?_) (fun z9 => ?_)
    · have z9 : h3 27 ((((30 * (h3 6 1)) + 0) + 9) - 4) = 0 := z9
      replace H := H.1 z9
      show X 43 6 [vR 6, vI ((((30 * (h3 6 1)) + 0) + 9) - 4)] [] h3 _
      obtain ⟨⟨c10, c11⟩, H⟩ := H
      refine X_b 17 23 (L := L_43) rfl rfl rfl ?_
      show (0 ≤ (((30 * (h3 6 1)) + 0) + 9) - 4 ∧ (((30 * (h3 6 1)) + 0) + 9) - 4 < 270) ∧ ((1 : Int) = 0 ∨ (1 : Int) = 1) ∧ (0 ≤ h3 6 12 ∧ h3 6 12 < 270) ∧ (-2147483648 ≤ (h3 6 12) + 1 ∧ (h3 6 12) + 1 ≤ 2147483647) ∧ X 43 23 [vR 6, vI ((((30 * (h3 6 1)) + 0) + 9) - 4)] [] (ab_up (ab_up (ab_up h3 27 ((((30 * (h3 6 1)) + 0) + 9) - 4) 1) 28 (h3 6 12) ((((30 * (h3 6 1)) + 0) + 9) - 4)) 6 12 ((h3 6 12) + 1)) _
      refine ⟨c8, by decide, c10, c11, ?_⟩
      refine X_ret (L := L_43) rfl rfl rfl rfl ?_
      show X 49 23 [vR 6, vJ 0, vJ 0, vJ 0] [] (ab_up (ab_up (ab_up h3 27 ((((30 * (h3 6 1)) + 0) + 9) - 4) 1) 28 (h3 6 12) ((((30 * (h3 6 1)) + 0) + 9) - 4)) 6 12 ((h3 6 12) + 1)) _
      refine X_b 1 24 (L := L_49) rfl rfl rfl ?_
      show X 49 24 [vR 6, vJ 0, vJ 0, vJ 0] [vR 6] (ab_up (ab_up (ab_up h3 27 ((((30 * (h3 6 1)) + 0) + 9) - 4) 1) 28 (h3 6 12) ((((30 * (h3 6 1)) + 0) + 9) - 4)) 6 12 ((h3 6 12) + 1)) _
      refine X_call 45 [vR 6] [] rfl (sg_calv rfl rfl rfl rfl rfl rfl rfl rfl rfl rfl rfl) (by decide) ?_
      refine C_mono H (kV_to ?_)
      intro h12 H
      show X 49 25 [vR 6, vJ 0, vJ 0, vJ 0] [] h12 _
      refine X_b 1 26 (L := L_49) rfl rfl rfl ?_
      show X 49 26 [vR 6, vJ 0, vJ 0, vJ 0] [vR 6] h12 _
      refine X_call 46 [vR 6] [] rfl (sg_calv rfl rfl rfl rfl rfl rfl rfl rfl rfl rfl rfl) (by decide) ?_
      refine C_mono H (kI_to ?_)
      intro v13 h13 H
      show X 49 27 [vR 6, vJ 0, vJ 0, vJ 0] [vI v13] h13 _
      refine X_b 5 32 (L := L_49) rfl rfl rfl ?_
      show X 49 32 [vR 6, vI 1, vI 0, vJ 0] [] h13 _
      exact H
    · have z9 : ¬ h3 27 ((((30 * (h3 6 1)) + 0) + 9) - 4) = 0 := z9
      replace H := H.2 z9
      show X 43 5 [vR 6, vI ((((30 * (h3 6 1)) + 0) + 9) - 4)] [] h3 _
      refine X_ret (L := L_43) rfl rfl rfl rfl ?_
      show X 49 23 [vR 6, vJ 0, vJ 0, vJ 0] [] h3 _
      refine X_b 1 24 (L := L_49) rfl rfl rfl ?_
      show X 49 24 [vR 6, vJ 0, vJ 0, vJ 0] [vR 6] h3 _
      refine X_call 45 [vR 6] [] rfl (sg_calv rfl rfl rfl rfl rfl rfl rfl rfl rfl rfl rfl) (by decide) ?_
      refine C_mono H (kV_to ?_)
      intro h14 H
      show X 49 25 [vR 6, vJ 0, vJ 0, vJ 0] [] h14 _
      refine X_b 1 26 (L := L_49) rfl rfl rfl ?_
      show X 49 26 [vR 6, vJ 0, vJ 0, vJ 0] [vR 6] h14 _
      refine X_call 46 [vR 6] [] rfl (sg_calv rfl rfl rfl rfl rfl rfl rfl rfl rfl rfl rfl) (by decide) ?_
      refine C_mono H (kI_to ?_)
      intro v15 h15 H
      show X 49 27 [vR 6, vJ 0, vJ 0, vJ 0] [vI v15] h15 _
      refine X_b 5 32 (L := L_49) rfl rfl rfl ?_
      show X 49 32 [vR 6, vI 1, vI 0, vJ 0] [] h15 _
      exact H
  · have z1 : h 6 1 = 0 := (Classical.not_not.mp z1)
    replace H := H.2 z1
    show X 49 6 [vR 6, vJ 0, vJ 0, vJ 0] [] (ab_up h 6 0 0) _
    refine X_b 2 8 (L := L_49) rfl rfl rfl ?_
    show X 49 8 [vR 6, vJ 0, vJ 0, vJ 0] [vI 1, vR 6] (ab_up h 6 0 0) _
    refine X_call 29 [vR 6, vI 1] [] rfl (sg_calv rfl rfl rfl rfl rfl rfl rfl rfl rfl rfl rfl) (by decide) ?_
    show X 29 0 [vR 6, vI 1] [] (ab_up h 6 0 0) _
    refine X_b 4 4 (L := L_29) rfl rfl rfl ?_
    show X 29 4 [vR 6, vI 1] [vI 0] (ab_up (ab_up h 6 0 0) 6 0 1) _
    refine X_iret (L := L_29) rfl rfl rfl rfl ?_
    show X 49 9 [vR 6, vJ 0, vJ 0, vJ 0] [vI 0] (ab_up (ab_up h 6 0 0) 6 0 1) _
    refine X_iret (L := L_49) rfl rfl rfl rfl ?_
    exact H

set_option maxRecDepth 8192 in
/-- PPModel.build, row 32 -/
theorem s_49_32 (x1 x2 : Int) (w3 : ab_V) (h : ab_S) (K : ab_O → ab_S → Prop) (H : ((h 6 7 ≤ x2 → ((x1 = 0 → K (oI 0) (ab_up (ab_up h 6 7 0) 6 0 2)) ∧ (¬ x1 = 0 → K (oI (h 6 7)) h))) ∧ (x2 < h 6 7 → ((x1 = 0 → K (oI 0) (ab_up (ab_up h 6 7 0) 6 0 2)) ∧ (¬ x1 = 0 → X 49 40 [vR 6, vI x1, vI x2, vI 0] [] h K))))) : X 49 32 [vR 6, vI x1, vI x2, w3] [] h K := by
  refine X_b 3 35 (L := L_49) rfl rfl rfl ?_
  show X 49 35 [vR 6, vI x1, vI x2, w3] [vI (h 6 7), vI x2] h _
  refine X_icmp (L := L_49) (n' := 64) rfl rfl rfl rfl (fun z1 => ?_) (fun z1 => ?_)
  · have z1 : h 6 7 ≤ x2 := z1
    replace H := H.1 z1
    show X 49 64 [vR 6, vI x1, vI x2, w3] [] h _
    refine X_b 1 65 (L := L_49) rfl rfl rfl ?_
    show X 49 65 [vR 6, vI x1, vI x2, w3] [vI x1] h _
    refine X_if (L := L_49) (n' := 69) rfl rfl rfl rfl (fun z2 => ?_) (fun z2 => ?_)
    · have z2 : x1 = 0 := z2
      replace H := H.1 z2
      show X 49 69 [vR 6, vI x1, vI x2, w3] [] h _
      refine X_b 5 74 (L := L_49) rfl rfl rfl ?_
      show X 49 74 [vR 6, vI x1, vI x2, w3] [vI 2, vR 6] (ab_up h 6 7 0) _
      refine X_call 29 [vR 6, vI 2] [] rfl (sg_calv rfl rfl rfl rfl rfl rfl rfl rfl rfl rfl rfl) (by decide) ?_
      show X 29 0 [vR 6, vI 2] [] (ab_up h 6 7 0) _
      refine X_b 4 4 (L := L_29) rfl rfl rfl ?_
      show X 29 4 [vR 6, vI 2] [vI 0] (ab_up (ab_up h 6 7 0) 6 0 2) _
      refine X_iret (L := L_29) rfl rfl rfl rfl ?_
      show X 49 75 [vR 6, vI x1, vI x2, w3] [vI 0] (ab_up (ab_up h 6 7 0) 6 0 2) _
      refine X_iret (L := L_49) rfl rfl rfl rfl ?_
      exact H
    · have z2 : ¬ x1 = 0 := z2
      replace H := H.2 z2
      show X 49 66 [vR 6, vI x1, vI x2, w3] [] h _
      refine X_b 2 68 (L := L_49) rfl rfl rfl ?_
      show X 49 68 [vR 6, vI x1, vI x2, w3] [vI (h 6 7)] h _
      refine X_iret (L := L_49) rfl rfl rfl rfl ?_
      exact H
  · have z1 : x2 < h 6 7 := (Int.not_le.mp z1)
    replace H := H.2 z1
    show X 49 36 [vR 6, vI x1, vI x2, w3] [] h _
    refine X_b 1 37 (L := L_49) rfl rfl rfl ?_
    show X 49 37 [vR 6, vI x1, vI x2, w3] [vI x1] h _
    refine X_if (L := L_49) (n' := 64) rfl rfl rfl rfl (fun z3 => ?_) (fun z3 => ?_)
    · have z3 : x1 = 0 := z3
      replace H := H.1 z3
      show X 49 64 [vR 6, vI x1, vI x2, w3] [] h _
      refine X_b 1 65 (L := L_49) rfl rfl rfl ?_
      show X 49 65 [vR 6, vI x1, vI x2, w3] [vI x1] h _
      refine X_if (L := L_49) (n' := 69) rfl rfl rfl rfl (fun _ => ?_) (fun z => absurd z3 z)
      show X 49 69 [vR 6, vI x1, vI x2, w3] [] h _
      refine X_b 5 74 (L := L_49) rfl rfl rfl ?_
      show X 49 74 [vR 6, vI x1, vI x2, w3] [vI 2, vR 6] (ab_up h 6 7 0) _
      refine X_call 29 [vR 6, vI 2] [] rfl (sg_calv rfl rfl rfl rfl rfl rfl rfl rfl rfl rfl rfl) (by decide) ?_
      show X 29 0 [vR 6, vI 2] [] (ab_up h 6 7 0) _
      refine X_b 4 4 (L := L_29) rfl rfl rfl ?_
      show X 29 4 [vR 6, vI 2] [vI 0] (ab_up (ab_up h 6 7 0) 6 0 2) _
      refine X_iret (L := L_29) rfl rfl rfl rfl ?_
      show X 49 75 [vR 6, vI x1, vI x2, w3] [vI 0] (ab_up (ab_up h 6 7 0) 6 0 2) _
      refine X_iret (L := L_49) rfl rfl rfl rfl ?_
      exact H
    · have z3 : ¬ x1 = 0 := z3
      replace H := H.2 z3
      show X 49 38 [vR 6, vI x1, vI x2, w3] [] h _
      refine X_b 2 40 (L := L_49) rfl rfl rfl ?_
      show X 49 40 [vR 6, vI x1, vI x2, vI 0] [] h _
      exact H

set_option maxRecDepth 8192 in
/-- PPModel.build, row 40 -/
theorem s_49_40 (x1 x2 x3 : Int) (h : ab_S) (K : ab_O → ab_S → Prop) (H : ((9 ≤ x3 → ((x1 = 0 → ((-2147483648 ≤ x2 + 1 ∧ x2 + 1 ≤ 2147483647)) ∧ X 49 32 [vR 6, vI 0, vI (x2 + 1), vI x3] [] h K) ∧ (¬ x1 = 0 → C 48 [vR 6, vI x2] h (kI (fun v4 h4 => ((v4 = 0 → ((-2147483648 ≤ x2 + 1 ∧ x2 + 1 ≤ 2147483647)) ∧ X 49 32 [vR 6, vI 0, vI (x2 + 1), vI x3] [] h4 K) ∧ (¬ v4 = 0 → ((-2147483648 ≤ x2 + 1 ∧ x2 + 1 ≤ 2147483647)) ∧ X 49 32 [vR 6, vI 1, vI (x2 + 1), vI x3] [] h4 K))))))) ∧ (x3 < 9 → ((x1 = 0 → ((-2147483648 ≤ x2 + 1 ∧ x2 + 1 ≤ 2147483647)) ∧ X 49 32 [vR 6, vI 0, vI (x2 + 1), vI x3] [] h K) ∧ (¬ x1 = 0 → C 47 [vR 6, vI x2, vI x3] h (kI (fun v10 h10 => ((-2147483648 ≤ x3 + 1 ∧ x3 + 1 ≤ 2147483647)) ∧ X 49 40 [vR 6, vI v10, vI x2, vI (x3 + 1)] [] h10 K))))))) : X 49 40 [vR 6, vI x1, vI x2, vI x3] [] h K := by
  refine X_b 2 42 (L := L_49) rfl rfl rfl ?_
  show X 49 42 [vR 6, vI x1, vI x2, vI x3] [vI 9, vI x3] h _
  refine X_icmp (L := L_49) (n' := 52) rfl rfl rfl rfl (fun z1 => ?_) (fun z1 => ?_)
  · have z1 : 9 ≤ x3 := z1
    replace H := H.1 z1
    show X 49 52 [vR 6, vI x1, vI x2, vI x3] [] h _
    refine X_b 1 53 (L := L_49) rfl rfl rfl ?_
    show X 49 53 [vR 6, vI x1, vI x2, vI x3] [vI x1] h _
    refine X_if (L := L_49) (n' := 60) rfl rfl rfl rfl (fun z2 => ?_) (fun z2 => ?_)
    · have z2 : x1 = 0 := z2
      replace H := H.1 z2
      show X 49 60 [vR 6, vI x1, vI x2, vI x3] [] h _
      obtain ⟨c3, H⟩ := H
      refine X_b 3 63 (L := L_49) rfl rfl rfl ?_
      show (-2147483648 ≤ x2 + 1 ∧ x2 + 1 ≤ 2147483647) ∧ X 49 63 [vR 6, vI 0, vI (x2 + 1), vI x3] [] h _
      refine ⟨c3, ?_⟩
      refine X_goto (L := L_49) (n' := 32) rfl rfl rfl rfl ?_
      show X 49 32 [vR 6, vI 0, vI (x2 + 1), vI x3] [] h _
      exact H
    · have z2 : ¬ x1 = 0 := z2
      replace H := H.2 z2
      show X 49 54 [vR 6, vI x1, vI x2, vI x3] [] h _
      refine X_b 2 56 (L := L_49) rfl rfl rfl ?_
      show X 49 56 [vR 6, vI x1, vI x2, vI x3] [vI x2, vR 6] h _
      refine X_call 48 [vR 6, vI x2] [] rfl (sg_calv rfl rfl rfl rfl rfl rfl rfl rfl rfl rfl rfl) (by decide) ?_
      refine C_mono H (kI_to ?_)
      intro v4 h4 H
      show X 49 57 [vR 6, vI x1, vI x2, vI x3] [vI v4] h4 _
      refine X_if (L := L_49) (n' := 60) rfl rfl rfl rfl (fun z5 => ?_) (fun z5 => ?_)
      · have z5 : v4 = 0 := z5
        replace H := H.1 z5
        show X 49 60 [vR 6, vI x1, vI x2, vI x3] [] h4 _
        obtain ⟨c6, H⟩ := H
        refine X_b 3 63 (L := L_49) rfl rfl rfl ?_
        show (-2147483648 ≤ x2 + 1 ∧ x2 + 1 ≤ 2147483647) ∧ X 49 63 [vR 6, vI 0, vI (x2 + 1), vI x3] [] h4 _
        refine ⟨c6, ?_⟩
        refine X_goto (L := L_49) (n' := 32) rfl rfl rfl rfl ?_
        show X 49 32 [vR 6, vI 0, vI (x2 + 1), vI x3] [] h4 _
        exact H
      · have z5 : ¬ v4 = 0 := z5
        replace H := H.2 z5
        show X 49 58 [vR 6, vI x1, vI x2, vI x3] [] h4 _
        obtain ⟨c7, H⟩ := H
        refine X_b 1 59 (L := L_49) rfl rfl rfl ?_
        show X 49 59 [vR 6, vI x1, vI x2, vI x3] [vI 1] h4 _
        refine X_goto (L := L_49) (n' := 61) rfl rfl rfl rfl ?_
        show X 49 61 [vR 6, vI x1, vI x2, vI x3] [vI 1] h4 _
        refine X_b 2 63 (L := L_49) rfl rfl rfl ?_
        show (-2147483648 ≤ x2 + 1 ∧ x2 + 1 ≤ 2147483647) ∧ X 49 63 [vR 6, vI 1, vI (x2 + 1), vI x3] [] h4 _
        refine ⟨c7, ?_⟩
        refine X_goto (L := L_49) (n' := 32) rfl rfl rfl rfl ?_
        show X 49 32 [vR 6, vI 1, vI (x2 + 1), vI x3] [] h4 _
        exact H
  · have z1 : x3 < 9 := (Int.not_le.mp z1)
    replace H := H.2 z1
    show X 49 43 [vR 6, vI x1, vI x2, vI x3] [] h _
    refine X_b 1 44 (L := L_49) rfl rfl rfl ?_
    show X 49 44 [vR 6, vI x1, vI x2, vI x3] [vI x1] h _
    refine X_if (L := L_49) (n' := 52) rfl rfl rfl rfl (fun z8 => ?_) (fun z8 => ?_)
    · have z8 : x1 = 0 := z8
      replace H := H.1 z8
      show X 49 52 [vR 6, vI x1, vI x2, vI x3] [] h _
      obtain ⟨c9, H⟩ := H
      refine X_b 1 53 (L := L_49) rfl rfl rfl ?_
      show X 49 53 [vR 6, vI x1, vI x2, vI x3] [vI x1] h _
      refine X_if (L := L_49) (n' := 60) rfl rfl rfl rfl (fun _ => ?_) (fun z => absurd z8 z)
      show X 49 60 [vR 6, vI x1, vI x2, vI x3] [] h _
      refine X_b 3 63 (L := L_49) rfl rfl rfl ?_
      show (-2147483648 ≤ x2 + 1 ∧ x2 + 1 ≤ 2147483647) ∧ X 49 63 [vR 6, vI 0, vI (x2 + 1), vI x3] [] h _
      refine ⟨c9, ?_⟩
      refine X_goto (L := L_49) (n' := 32) rfl rfl rfl rfl ?_
      show X 49 32 [vR 6, vI 0, vI (x2 + 1), vI x3] [] h _
      exact H
    · have z8 : ¬ x1 = 0 := z8
      replace H := H.2 z8
      show X 49 45 [vR 6, vI x1, vI x2, vI x3] [] h _
      refine X_b 3 48 (L := L_49) rfl rfl rfl ?_
      show X 49 48 [vR 6, vI x1, vI x2, vI x3] [vI x3, vI x2, vR 6] h _
      refine X_call 47 [vR 6, vI x2, vI x3] [] rfl (sg_calv rfl rfl rfl rfl rfl rfl rfl rfl rfl rfl rfl) (by decide) ?_
      refine C_mono H (kI_to ?_)
      intro v10 h10 H
      show X 49 49 [vR 6, vI x1, vI x2, vI x3] [vI v10] h10 _
      obtain ⟨c11, H⟩ := H
      refine X_b 2 51 (L := L_49) rfl rfl rfl ?_
      show (-2147483648 ≤ x3 + 1 ∧ x3 + 1 ≤ 2147483647) ∧ X 49 51 [vR 6, vI v10, vI x2, vI (x3 + 1)] [] h10 _
      refine ⟨c11, ?_⟩
      refine X_goto (L := L_49) (n' := 40) rfl rfl rfl rfl ?_
      show X 49 40 [vR 6, vI v10, vI x2, vI (x3 + 1)] [] h10 _
      exact H

/-- PPModel.states, row 0 -/
theorem s_50_0 (h : ab_S) (K : ab_O → ab_S → Prop) (H : K (oI (h 6 7)) (ab_up h 6 0 0)) : C 50 [vR 6] h K := by
  show X 50 0 [vR 6] [] h K
  refine X_b 5 5 (L := L_50) rfl rfl rfl ?_
  show X 50 5 [vR 6] [vI (h 6 7)] (ab_up h 6 0 0) _
  refine X_iret (L := L_50) rfl rfl rfl rfl ?_
  exact H

/-- PPModel.isState, row 0 -/
theorem s_51_0 (x1 : Int) (h : ab_S) (K : ab_O → ab_S → Prop) (H : ((x1 < 0 → K (oI 0) h) ∧ (0 ≤ x1 → ((h 6 7 ≤ x1 → K (oI 0) h) ∧ (x1 < h 6 7 → K (oI 1) h))))) : C 51 [vR 6, vI x1] h K := by
  show X 51 0 [vR 6, vI x1] [] h K
  refine X_b 1 1 (L := L_51) rfl rfl rfl ?_
  show X 51 1 [vR 6, vI x1] [vI x1] h _
  refine X_if (L := L_51) (n' := 8) rfl rfl rfl rfl (fun z1 => ?_) (fun z1 => ?_)
  · have z1 : x1 < 0 := z1
    replace H := H.1 z1
    show X 51 8 [vR 6, vI x1] [] h _
    refine X_b 1 9 (L := L_51) rfl rfl rfl ?_
    show X 51 9 [vR 6, vI x1] [vI 0] h _
    refine X_zret (L := L_51) rfl rfl rfl rfl (by decide) ?_
    exact H
  · have z1 : 0 ≤ x1 := (Int.not_lt.mp z1)
    replace H := H.2 z1
    show X 51 2 [vR 6, vI x1] [] h _
    refine X_b 3 5 (L := L_51) rfl rfl rfl ?_
    show X 51 5 [vR 6, vI x1] [vI (h 6 7), vI x1] h _
    refine X_icmp (L := L_51) (n' := 8) rfl rfl rfl rfl (fun z2 => ?_) (fun z2 => ?_)
    · have z2 : h 6 7 ≤ x1 := z2
      replace H := H.1 z2
      show X 51 8 [vR 6, vI x1] [] h _
      refine X_b 1 9 (L := L_51) rfl rfl rfl ?_
      show X 51 9 [vR 6, vI x1] [vI 0] h _
      refine X_zret (L := L_51) rfl rfl rfl rfl (by decide) ?_
      exact H
    · have z2 : x1 < h 6 7 := (Int.not_le.mp z2)
      replace H := H.2 z2
      show X 51 6 [vR 6, vI x1] [] h _
      refine X_b 1 7 (L := L_51) rfl rfl rfl ?_
      show X 51 7 [vR 6, vI x1] [vI 1] h _
      refine X_goto (L := L_51) (n' := 9) rfl rfl rfl rfl ?_
      show X 51 9 [vR 6, vI x1] [vI 1] h _
      refine X_zret (L := L_51) rfl rfl rfl rfl (by decide) ?_
      exact H

/-- PPModel.isSymbol, row 0 -/
theorem s_52_0 (x0 : Int) (h : ab_S) (K : ab_O → ab_S → Prop) (H : ((x0 < 0 → K (oI 0) h) ∧ (0 ≤ x0 → ((9 < x0 → K (oI 0) h) ∧ (x0 ≤ 9 → K (oI 1) h))))) : C 52 [vI x0] h K := by
  show X 52 0 [vI x0] [] h K
  refine X_b 1 1 (L := L_52) rfl rfl rfl ?_
  show X 52 1 [vI x0] [vI x0] h _
  refine X_if (L := L_52) (n' := 7) rfl rfl rfl rfl (fun z1 => ?_) (fun z1 => ?_)
  · have z1 : x0 < 0 := z1
    replace H := H.1 z1
    show X 52 7 [vI x0] [] h _
    refine X_b 1 8 (L := L_52) rfl rfl rfl ?_
    show X 52 8 [vI x0] [vI 0] h _
    refine X_zret (L := L_52) rfl rfl rfl rfl (by decide) ?_
    exact H
  · have z1 : 0 ≤ x0 := (Int.not_lt.mp z1)
    replace H := H.2 z1
    show X 52 2 [vI x0] [] h _
    refine X_b 2 4 (L := L_52) rfl rfl rfl ?_
    show X 52 4 [vI x0] [vI 9, vI x0] h _
    refine X_icmp (L := L_52) (n' := 7) rfl rfl rfl rfl (fun z2 => ?_) (fun z2 => ?_)
    · have z2 : 9 < x0 := z2
      replace H := H.1 z2
      show X 52 7 [vI x0] [] h _
      refine X_b 1 8 (L := L_52) rfl rfl rfl ?_
      show X 52 8 [vI x0] [vI 0] h _
      refine X_zret (L := L_52) rfl rfl rfl rfl (by decide) ?_
      exact H
    · have z2 : x0 ≤ 9 := (Int.not_lt.mp z2)
      replace H := H.2 z2
      show X 52 5 [vI x0] [] h _
      refine X_b 1 6 (L := L_52) rfl rfl rfl ?_
      show X 52 6 [vI x0] [vI 1] h _
      refine X_goto (L := L_52) (n' := 8) rfl rfl rfl rfl ?_
      show X 52 8 [vI x0] [vI 1] h _
      refine X_zret (L := L_52) rfl rfl rfl rfl (by decide) ?_
      exact H

/-- PPModel.entry, row 0 -/
theorem s_53_0 (x1 x2 : Int) (h : ab_S) (K : ab_O → ab_S → Prop) (H : ((x1 < 0 → K (oI 0) (ab_up (ab_up h 6 0 0) 6 0 1)) ∧ (0 ≤ x1 → ((h 6 7 ≤ x1 → K (oI 0) (ab_up (ab_up h 6 0 0) 6 0 1)) ∧ (x1 < h 6 7 → ((x2 < 0 → K (oI 0) (ab_up (ab_up h 6 0 0) 6 0 1)) ∧ (0 ≤ x2 → ((9 < x2 → K (oI 0) (ab_up (ab_up h 6 0 0) 6 0 1)) ∧ (x2 ≤ 9 → ((-2147483648 ≤ 10 * x1 ∧ 10 * x1 ≤ 2147483647) ∧ (0 ≤ (10 * x1) + x2 ∧ (10 * x1) + x2 < 500)) ∧ K (oI (h 26 ((10 * x1) + x2))) (ab_up h 6 0 0)))))))))) : C 53 [vR 6, vI x1, vI x2] h K := by
  show X 53 0 [vR 6, vI x1, vI x2] [] h K
  refine X_b 5 5 (L := L_53) rfl rfl rfl ?_
  show X 53 5 [vR 6, vI x1, vI x2] [vI x1, vR 6] (ab_up h 6 0 0) _
  refine X_call 51 [vR 6, vI x1] [] rfl (sg_calv rfl rfl rfl rfl rfl rfl rfl rfl rfl rfl rfl) (by decide) ?_
  show X 51 0 [vR 6, vI x1] [] (ab_up h 6 0 0) _
  refine X_b 1 1 (L := L_51) rfl rfl rfl ?_
  show X 51 1 [vR 6, vI x1] [vI x1] (ab_up h 6 0 0) _
  refine X_if (L := L_51) (n' := 8) rfl rfl rfl rfl (fun z1 => ?_) (fun z1 => ?_)
  · have z1 : x1 < 0 := z1
    replace H := H.1 z1
    show X 51 8 [vR 6, vI x1] [] (ab_up h 6 0 0) _
    refine X_b 1 9 (L := L_51) rfl rfl rfl ?_
    show X 51 9 [vR 6, vI x1] [vI 0] (ab_up h 6 0 0) _
    refine X_zret (L := L_51) rfl rfl rfl rfl (by decide) ?_
    show X 53 6 [vR 6, vI x1, vI x2] [vI 0] (ab_up h 6 0 0) _
    refine X_if (L := L_53) (n' := 19) rfl rfl rfl rfl (fun _ => ?_) (fun z => absurd (show (0 : Int) = (0 : Int) by decide) z)
    show X 53 19 [vR 6, vI x1, vI x2] [] (ab_up h 6 0 0) _
    refine X_b 2 21 (L := L_53) rfl rfl rfl ?_
    show X 53 21 [vR 6, vI x1, vI x2] [vI 1, vR 6] (ab_up h 6 0 0) _
    refine X_call 29 [vR 6, vI 1] [] rfl (sg_calv rfl rfl rfl rfl rfl rfl rfl rfl rfl rfl rfl) (by decide) ?_
    show X 29 0 [vR 6, vI 1] [] (ab_up h 6 0 0) _
    refine X_b 4 4 (L := L_29) rfl rfl rfl ?_
    show X 29 4 [vR 6, vI 1] [vI 0] (ab_up (ab_up h 6 0 0) 6 0 1) _
    refine X_iret (L := L_29) rfl rfl rfl rfl ?_
    show X 53 22 [vR 6, vI x1, vI x2] [vI 0] (ab_up (ab_up h 6 0 0) 6 0 1) _
    refine X_iret (L := L_53) rfl rfl rfl rfl ?_
    exact H
  · have z1 : 0 ≤ x1 := (Int.not_lt.mp z1)
    replace H := H.2 z1
    show X 51 2 [vR 6, vI x1] [] (ab_up h 6 0 0) _
    refine X_b 3 5 (L := L_51) rfl rfl rfl ?_
    show X 51 5 [vR 6, vI x1] [vI (h 6 7), vI x1] (ab_up h 6 0 0) _
    refine X_icmp (L := L_51) (n' := 8) rfl rfl rfl rfl (fun z2 => ?_) (fun z2 => ?_)
    · have z2 : h 6 7 ≤ x1 := z2
      replace H := H.1 z2
      show X 51 8 [vR 6, vI x1] [] (ab_up h 6 0 0) _
      refine X_b 1 9 (L := L_51) rfl rfl rfl ?_
      show X 51 9 [vR 6, vI x1] [vI 0] (ab_up h 6 0 0) _
      refine X_zret (L := L_51) rfl rfl rfl rfl (by decide) ?_
      show X 53 6 [vR 6, vI x1, vI x2] [vI 0] (ab_up h 6 0 0) _
      refine X_if (L := L_53) (n' := 19) rfl rfl rfl rfl (fun _ => ?_) (fun z => absurd (show (0 : Int) = (0 : Int) by decide) z)
      show X 53 19 [vR 6, vI x1, vI x2] [] (ab_up h 6 0 0) _
      refine X_b 2 21 (L := L_53) rfl rfl rfl ?_
      show X 53 21 [vR 6, vI x1, vI x2] [vI 1, vR 6] (ab_up h 6 0 0) _
      refine X_call 29 [vR 6, vI 1] [] rfl (sg_calv rfl rfl rfl rfl rfl rfl rfl rfl rfl rfl rfl) (by decide) ?_
      show X 29 0 [vR 6, vI 1] [] (ab_up h 6 0 0) _
      refine X_b 4 4 (L := L_29) rfl rfl rfl ?_
      show X 29 4 [vR 6, vI 1] [vI 0] (ab_up (ab_up h 6 0 0) 6 0 1) _
      refine X_iret (L := L_29) rfl rfl rfl rfl ?_
      show X 53 22 [vR 6, vI x1, vI x2] [vI 0] (ab_up (ab_up h 6 0 0) 6 0 1) _
      refine X_iret (L := L_53) rfl rfl rfl rfl ?_
      exact H
    · have z2 : x1 < h 6 7 := (Int.not_le.mp z2)
      replace H := H.2 z2
      show X 51 6 [vR 6, vI x1] [] (ab_up h 6 0 0) _
      refine X_b 1 7 (L := L_51) rfl rfl rfl ?_
      show X 51 7 [vR 6, vI x1] [vI 1] (ab_up h 6 0 0) _
      refine X_goto (L := L_51) (n' := 9) rfl rfl rfl rfl ?_
      show X 51 9 [vR 6, vI x1] [vI 1] (ab_up h 6 0 0) _
      refine X_zret (L := L_51) rfl rfl rfl rfl (by decide) ?_
      show X 53 6 [vR 6, vI x1, vI x2] [vI 1] (ab_up h 6 0 0) _
      refine X_if (L := L_53) (n' := 19) rfl rfl rfl rfl (fun z => absurd z (show ¬ ((1 : Int) = (0 : Int)) by decide)) (fun _ => ?_)
      show X 53 7 [vR 6, vI x1, vI x2] [] (ab_up h 6 0 0) _
      refine X_b 1 8 (L := L_53) rfl rfl rfl ?_
      show X 53 8 [vR 6, vI x1, vI x2] [vI x2] (ab_up h 6 0 0) _
      refine X_call 52 [vI x2] [] rfl (sg_cals rfl rfl rfl rfl rfl rfl rfl rfl rfl rfl) (by decide) ?_
      show X 52 0 [vI x2] [] (ab_up h 6 0 0) _
      refine X_b 1 1 (L := L_52) rfl rfl rfl ?_
      show X 52 1 [vI x2] [vI x2] (ab_up h 6 0 0) _
      refine X_if (L := L_52) (n' := 7) rfl rfl rfl rfl (fun z3 => ?_) (fun z3 => ?_)
      · have z3 : x2 < 0 := z3
        replace H := H.1 z3
        show X 52 7 [vI x2] [] (ab_up h 6 0 0) _
        refine X_b 1 8 (L := L_52) rfl rfl rfl ?_
        show X 52 8 [vI x2] [vI 0] (ab_up h 6 0 0) _
        refine X_zret (L := L_52) rfl rfl rfl rfl (by decide) ?_
        show X 53 9 [vR 6, vI x1, vI x2] [vI 0] (ab_up h 6 0 0) _
        refine X_if (L := L_53) (n' := 19) rfl rfl rfl rfl (fun _ => ?_) (fun z => absurd (show (0 : Int) = (0 : Int) by decide) z)
        show X 53 19 [vR 6, vI x1, vI x2] [] (ab_up h 6 0 0) _
        refine X_b 2 21 (L := L_53) rfl rfl rfl ?_
        show X 53 21 [vR 6, vI x1, vI x2] [vI 1, vR 6] (ab_up h 6 0 0) _
        refine X_call 29 [vR 6, vI 1] [] rfl (sg_calv rfl rfl rfl rfl rfl rfl rfl rfl rfl rfl rfl) (by decide) ?_
        show X 29 0 [vR 6, vI 1] [] (ab_up h 6 0 0) _
        refine X_b 4 4 (L := L_29) rfl rfl rfl ?_
        show X 29 4 [vR 6, vI 1] [vI 0] (ab_up (ab_up h 6 0 0) 6 0 1) _
        refine X_iret (L := L_29) rfl rfl rfl rfl ?_
        show X 53 22 [vR 6, vI x1, vI x2] [vI 0] (ab_up (ab_up h 6 0 0) 6 0 1) _
        refine X_iret (L := L_53) rfl rfl rfl rfl ?_
        exact H
      · have z3 : 0 ≤ x2 := (Int.not_lt.mp z3)
        replace H := H.2 z3
        show X 52 2 [vI x2] [] (ab_up h 6 0 0) _
        refine X_b 2 4 (L := L_52) rfl rfl rfl ?_
        show X 52 4 [vI x2] [vI 9, vI x2] (ab_up h 6 0 0) _
        refine X_icmp (L := L_52) (n' := 7) rfl rfl rfl rfl (fun z4 => ?_) (fun z4 => ?_)
        · have z4 : 9 < x2 := z4
          replace H := H.1 z4
          show X 52 7 [vI x2] [] (ab_up h 6 0 0) _
          refine X_b 1 8 (L := L_52) rfl rfl rfl ?_
          show X 52 8 [vI x2] [vI 0] (ab_up h 6 0 0) _
          refine X_zret (L := L_52) rfl rfl rfl rfl (by decide) ?_
          show X 53 9 [vR 6, vI x1, vI x2] [vI 0] (ab_up h 6 0 0) _
          refine X_if (L := L_53) (n' := 19) rfl rfl rfl rfl (fun _ => ?_) (fun z => absurd (show (0 : Int) = (0 : Int) by decide) z)
          show X 53 19 [vR 6, vI x1, vI x2] [] (ab_up h 6 0 0) _
          refine X_b 2 21 (L := L_53) rfl rfl rfl ?_
          show X 53 21 [vR 6, vI x1, vI x2] [vI 1, vR 6] (ab_up h 6 0 0) _
          refine X_call 29 [vR 6, vI 1] [] rfl (sg_calv rfl rfl rfl rfl rfl rfl rfl rfl rfl rfl rfl) (by decide) ?_
          show X 29 0 [vR 6, vI 1] [] (ab_up h 6 0 0) _
          refine X_b 4 4 (L := L_29) rfl rfl rfl ?_
          show X 29 4 [vR 6, vI 1] [vI 0] (ab_up (ab_up h 6 0 0) 6 0 1) _
          refine X_iret (L := L_29) rfl rfl rfl rfl ?_
          show X 53 22 [vR 6, vI x1, vI x2] [vI 0] (ab_up (ab_up h 6 0 0) 6 0 1) _
          refine X_iret (L := L_53) rfl rfl rfl rfl ?_
          exact H
        · have z4 : x2 ≤ 9 := (Int.not_lt.mp z4)
          replace H := H.2 z4
          show X 52 5 [vI x2] [] (ab_up h 6 0 0) _
          obtain ⟨⟨c5, c6⟩, H⟩ := H
          refine X_b 1 6 (L := L_52) rfl rfl rfl ?_
          show X 52 6 [vI x2] [vI 1] (ab_up h 6 0 0) _
          refine X_goto (L := L_52) (n' := 8) rfl rfl rfl rfl ?_
          show X 52 8 [vI x2] [vI 1] (ab_up h 6 0 0) _
          refine X_zret (L := L_52) rfl rfl rfl rfl (by decide) ?_
          show X 53 9 [vR 6, vI x1, vI x2] [vI 1] (ab_up h 6 0 0) _
          refine X_if (L := L_53) (n' := 19) rfl rfl rfl rfl (fun z => absurd z (show ¬ ((1 : Int) = (0 : Int)) by decide)) (fun _ => ?_)
          show X 53 10 [vR 6, vI x1, vI x2] [] (ab_up h 6 0 0) _
          refine X_b 8 18 (L := L_53) rfl rfl rfl ?_
          show (-2147483648 ≤ 10 * x1 ∧ 10 * x1 ≤ 2147483647) ∧ (-2147483648 ≤ (10 * x1) + x2 ∧ (10 * x1) + x2 ≤ 2147483647) ∧ (0 ≤ (10 * x1) + x2 ∧ (10 * x1) + x2 < 500) ∧ X 53 18 [vR 6, vI x1, vI x2] [vI (h 26 ((10 * x1) + x2))] (ab_up h 6 0 0) _
          refine ⟨c5, by have := c6; omega, c6, ?_⟩
          refine X_goto (L := L_53) (n' := 22) rfl rfl rfl rfl ?_
          show X 53 22 [vR 6, vI x1, vI x2] [vI (h 26 ((10 * x1) + x2))] (ab_up h 6 0 0) _
          refine X_iret (L := L_53) rfl rfl rfl rfl ?_
          exact H
end Seg
