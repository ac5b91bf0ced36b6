/-! By program (wip/gen/seg.py): stretches of methods as formulas. -/
section Seg
set_option maxRecDepth 8192 in
/-- Checker.isWrong, row 0 -/
theorem s_98_0 (x1 x2 x3 x4 x5 : Int) (h : ab_S) (K : ab_O → ab_S → Prop) (H : ((0 ≤ x3 ∧ x3 < 9)) ∧ ((¬ x4 = h 8 x3 → ((x1 = 1 → ((¬ x2 = 0 → ((¬ x3 = h 1 0 → K (oI 0) h) ∧ (x3 = h 1 0 → ((¬ x4 = 0 → K (oI 0) h) ∧ (x4 = 0 → K (oI 1) h))))) ∧ (x2 = 0 → ((x4 ≤ 0 → K (oI 0) h) ∧ (0 < x4 → K (oI 1) h))))) ∧ (x1 = 2 → K (oI 0) h) ∧ (x1 = 3 → K (oI 0) h) ∧ (x1 = 4 → ((x3 = h 1 0 → K (oI 0) h) ∧ (¬ x3 = h 1 0 → ((¬ x4 = 0 → K (oI 0) h) ∧ (x4 = 0 → ((0 ≤ x3 ∧ x3 < 8) ∧ (-2147483648 ≤ x2 * 10 ∧ x2 * 10 ≤ 2147483647) ∧ (0 ≤ (x2 * 10) + (h 7 x3) ∧ (x2 * 10) + (h 7 x3) < 500)) ∧ ((h 12 ((x2 * 10) + (h 7 x3)) < 0 → K (oI 1) h) ∧ (0 ≤ h 12 ((x2 * 10) + (h 7 x3)) → ((50 ≤ h 12 ((x2 * 10) + (h 7 x3)) → K (oI 1) h) ∧ (h 12 ((x2 * 10) + (h 7 x3)) < 50 → K (oI 0) h))))))))) ∧ (x1 = 5 → K (oI 0) h) ∧ (x1 = 6 → C 101 [vR 4, vI x2, vI x3, vI x4, vI x5] h (kI (fun v15 h15 => ((v15 = 0 → K (oI 0) h15) ∧ (¬ v15 = 0 → K (oI 1) h15))))) ∧ (x1 = 7 → C 102 [vR 4, vI x2, vI x3, vI x4, vI x5] h (kI (fun v17 h17 => ((v17 = 0 → K (oI 0) h17) ∧ (¬ v17 = 0 → K (oI 1) h17))))) ∧ ((x1 < 1 ∨ 7 < x1) → K (oI 0) h))) ∧ (x4 = h 8 x3 → ((x1 = 1 → ((¬ x2 = 0 → ((¬ x3 = h 1 0 → K (oI 0) h) ∧ (x3 = h 1 0 → ((¬ x4 = 0 → K (oI 0) h) ∧ (x4 = 0 → K (oI 1) h))))) ∧ (x2 = 0 → ((x4 ≤ 0 → K (oI 0) h) ∧ (0 < x4 → K (oI 1) h))))) ∧ (x1 = 2 → C 103 [vR 4, vI x2, vI x3, vI x5] h (kI (fun v24 h24 => ((v24 = 0 → K (oI 0) h24) ∧ (¬ v24 = 0 → K (oI 1) h24))))) ∧ (x1 = 3 → C 103 [vR 4, vI x2, vI x3, vI x5] h (kI (fun v26 h26 => ((v26 = 0 → K (oI 0) h26) ∧ (¬ v26 = 0 → K (oI 1) h26))))) ∧ (x1 = 4 → ((x3 = h 1 0 → K (oI 0) h) ∧ (¬ x3 = h 1 0 → ((¬ x4 = 0 → K (oI 0) h) ∧ (x4 = 0 → ((0 ≤ x3 ∧ x3 < 8) ∧ (-2147483648 ≤ x2 * 10 ∧ x2 * 10 ≤ 2147483647) ∧ (0 ≤ (x2 * 10) + (h 7 x3) ∧ (x2 * 10) + (h 7 x3) < 500)) ∧ ((h 12 ((x2 * 10) + (h 7 x3)) < 0 → K (oI 1) h) ∧ (0 ≤ h 12 ((x2 * 10) + (h 7 x3)) → ((50 ≤ h 12 ((x2 * 10) + (h 7 x3)) → K (oI 1) h) ∧ (h 12 ((x2 * 10) + (h 7 x3)) < 50 → K (oI 0) h))))))))) ∧ (x1 = 5 → C 103 [vR 4, vI x2, vI x3, vI x5] h (kI (fun v35 h35 => ((v35 = 0 → K (oI 0) h35) ∧ (¬ v35 = 0 → K (oI 1) h35))))) ∧ (x1 = 6 → K (oI 0) h) ∧ (x1 = 7 → K (oI 0) h) ∧ ((x1 < 1 ∨ 7 < x1) → C 103 [vR 4, vI x2, vI x3, vI x5] h (kI (fun v37 h37 => ((v37 = 0 → K (oI 0) h37) ∧ (¬ v37 = 0 → K (oI 1) h37))))))))) : C 98 [vR 4, vI x1, vI x2, vI x3, vI x4, vI x5] h K := by
  show X 98 0 [vR 4, vI x1, vI x2, vI x3, vI x4, vI x5, vJ 0] [] h K
  obtain ⟨c1, H⟩ := H
  refine X_b 6 6 (L := L_98) rfl rfl rfl ?_
  show (0 ≤ x3 ∧ x3 < 9) ∧ X 98 6 [vR 4, vI x1, vI x2, vI x3, vI x4, vI x5, vJ 0] [vI (h 8 x3), vI x4] h _
  refine ⟨c1, ?_⟩
  refine X_icmp (L := L_98) (n' := 9) rfl rfl rfl rfl (fun z2 => ?_) (fun z2 => ?_)
  · have z2 : ¬ x4 = h 8 x3 := z2
    replace H := H.1 z2
    show X 98 9 [vR 4, vI x1, vI x2, vI x3, vI x4, vI x5, vJ 0] [] h _
    refine X_b 3 12 (L := L_98) rfl rfl rfl ?_
    show X 98 12 [vR 4, vI x1, vI x2, vI x3, vI x4, vI x5, vI 0] [vI x1] h _
    rcases (show x1 = 1 ∨ x1 = 2 ∨ x1 = 3 ∨ x1 = 4 ∨ x1 = 5 ∨ x1 = 6 ∨ x1 = 7 ∨ (x1 < 1 ∨ 7 < x1) by omega) with z3 | z3 | z3 | z3 | z3 | z3 | z3 | z3
    · replace H := H.1 z3
      refine X_sw (L := L_98) (n' := 13) rfl rfl rfl (by rw [z3]; rfl) ?_
      show X 98 13 [vR 4, vI x1, vI x2, vI x3, vI x4, vI x5, vI 0] [] h _
      refine X_b 1 14 (L := L_98) rfl rfl rfl ?_
      show X 98 14 [vR 4, vI x1, vI x2, vI x3, vI x4, vI x5, vI 0] [vI x2] h _
      refine X_if (L := L_98) (n' := 21) rfl rfl rfl rfl (fun z4 => ?_) (fun z4 => ?_)
      · have z4 : ¬ x2 = 0 := z4
        replace H := H.1 z4
        show X 98 21 [vR 4, vI x1, vI x2, vI x3, vI x4, vI x5, vI 0] [] h _
        refine X_b 3 24 (L := L_98) rfl rfl rfl ?_
        show X 98 24 [vR 4, vI x1, vI x2, vI x3, vI x4, vI x5, vI 0] [vR 1, vI x3] h _
        refine X_call 109 [vR 1] [vI x3] rfl (sg_calv rfl rfl rfl rfl rfl rfl rfl rfl rfl rfl rfl) (by decide) ?_
        show X 109 0 [vR 1] [] h _
        refine X_b 2 2 (L := L_109) rfl rfl rfl ?_
        show X 109 2 [vR 1] [vI (h 1 0)] h _
        refine X_iret (L := L_109) rfl rfl rfl rfl ?_
        show X 98 25 [vR 4, vI x1, vI x2, vI x3, vI x4, vI x5, vI 0] [vI (h 1 0), vI x3] h _
        refine X_icmp (L := L_98) (n' := 30) rfl rfl rfl rfl (fun z5 => ?_) (fun z5 => ?_)
        · have z5 : ¬ x3 = h 1 0 := z5
          replace H := H.1 z5
          show X 98 30 [vR 4, vI x1, vI x2, vI x3, vI x4, vI x5, vI 0] [] h _
          refine X_b 1 31 (L := L_98) rfl rfl rfl ?_
          show X 98 31 [vR 4, vI x1, vI x2, vI x3, vI x4, vI x5, vI 0] [vI 0] h _
          refine X_zret (L := L_98) rfl rfl rfl rfl (by decide) ?_
          exact H
        · have z5 : x3 = h 1 0 := (Classical.not_not.mp z5)
          replace H := H.2 z5
          show X 98 26 [vR 4, vI x1, vI x2, vI x3, vI x4, vI x5, vI 0] [] h _
          refine X_b 1 27 (L := L_98) rfl rfl rfl ?_
          show X 98 27 [vR 4, vI x1, vI x2, vI x3, vI x4, vI x5, vI 0] [vI x4] h _
          refine X_if (L := L_98) (n' := 30) rfl rfl rfl rfl (fun z6 => ?_) (fun z6 => ?_)
          · have z6 : ¬ x4 = 0 := z6
            replace H := H.1 z6
            show X 98 30 [vR 4, vI x1, vI x2, vI x3, vI x4, vI x5, vI 0] [] h _
            refine X_b 1 31 (L := L_98) rfl rfl rfl ?_
            show X 98 31 [vR 4, vI x1, vI x2, vI x3, vI x4, vI x5, vI 0] [vI 0] h _
            refine X_zret (L := L_98) rfl rfl rfl rfl (by decide) ?_
            exact H
          · have z6 : x4 = 0 := (Classical.not_not.mp z6)
            replace H := H.2 z6
            show X 98 28 [vR 4, vI x1, vI x2, vI x3, vI x4, vI x5, vI 0] [] h _
            refine X_b 1 29 (L := L_98) rfl rfl rfl ?_
            show X 98 29 [vR 4, vI x1, vI x2, vI x3, vI x4, vI x5, vI 0] [vI 1] h _
            refine X_goto (L := L_98) (n' := 31) rfl rfl rfl rfl ?_
            show X 98 31 [vR 4, vI x1, vI x2, vI x3, vI x4, vI x5, vI 0] [vI 1] h _
            refine X_zret (L := L_98) rfl rfl rfl rfl (by decide) ?_
            exact H
      · have z4 : x2 = 0 := (Classical.not_not.mp z4)
        replace H := H.2 z4
        show X 98 15 [vR 4, vI x1, vI x2, vI x3, vI x4, vI x5, vI 0] [] h _
        refine X_b 1 16 (L := L_98) rfl rfl rfl ?_
        show X 98 16 [vR 4, vI x1, vI x2, vI x3, vI x4, vI x5, vI 0] [vI x4] h _
        refine X_if (L := L_98) (n' := 19) rfl rfl rfl rfl (fun z7 => ?_) (fun z7 => ?_)
        · have z7 : x4 ≤ 0 := z7
          replace H := H.1 z7
          show X 98 19 [vR 4, vI x1, vI x2, vI x3, vI x4, vI x5, vI 0] [] h _
          refine X_b 1 20 (L := L_98) rfl rfl rfl ?_
          show X 98 20 [vR 4, vI x1, vI x2, vI x3, vI x4, vI x5, vI 0] [vI 0] h _
          refine X_goto (L := L_98) (n' := 31) rfl rfl rfl rfl ?_
          show X 98 31 [vR 4, vI x1, vI x2, vI x3, vI x4, vI x5, vI 0] [vI 0] h _
          refine X_zret (L := L_98) rfl rfl rfl rfl (by decide) ?_
          exact H
        · have z7 : 0 < x4 := (Int.not_le.mp z7)
          replace H := H.2 z7
          show X 98 17 [vR 4, vI x1, vI x2, vI x3, vI x4, vI x5, vI 0] [] h _
          refine X_b 1 18 (L := L_98) rfl rfl rfl ?_
          show X 98 18 [vR 4, vI x1, vI x2, vI x3, vI x4, vI x5, vI 0] [vI 1] h _
          refine X_goto (L := L_98) (n' := 31) rfl rfl rfl rfl ?_
          show X 98 31 [vR 4, vI x1, vI x2, vI x3, vI x4, vI x5, vI 0] [vI 1] h _
          refine X_zret (L := L_98) rfl rfl rfl rfl (by decide) ?_
          exact H
    · replace H := H.2.1 z3
      refine X_sw (L := L_98) (n' := 80) rfl rfl rfl (by rw [z3]; rfl) ?_
      show X 98 80 [vR 4, vI x1, vI x2, vI x3, vI x4, vI x5, vI 0] [] h _
      refine X_b 1 81 (L := L_98) rfl rfl rfl ?_
      show X 98 81 [vR 4, vI x1, vI x2, vI x3, vI x4, vI x5, vI 0] [vI 0] h _
      refine X_if (L := L_98) (n' := 90) rfl rfl rfl rfl (fun _ => ?_) (fun z => absurd (show (0 : Int) = (0 : Int) by decide) z)
      show X 98 90 [vR 4, vI x1, vI x2, vI x3, vI x4, vI x5, vI 0] [] h _
      refine X_b 1 91 (L := L_98) rfl rfl rfl ?_
      show X 98 91 [vR 4, vI x1, vI x2, vI x3, vI x4, vI x5, vI 0] [vI 0] h _
      refine X_zret (L := L_98) rfl rfl rfl rfl (by decide) ?_
      exact H
    · replace H := H.2.2.1 z3
      refine X_sw (L := L_98) (n' := 80) rfl rfl rfl (by rw [z3]; rfl) ?_
      show X 98 80 [vR 4, vI x1, vI x2, vI x3, vI x4, vI x5, vI 0] [] h _
      refine X_b 1 81 (L := L_98) rfl rfl rfl ?_
      show X 98 81 [vR 4, vI x1, vI x2, vI x3, vI x4, vI x5, vI 0] [vI 0] h _
      refine X_if (L := L_98) (n' := 90) rfl rfl rfl rfl (fun _ => ?_) (fun z => absurd (show (0 : Int) = (0 : Int) by decide) z)
      show X 98 90 [vR 4, vI x1, vI x2, vI x3, vI x4, vI x5, vI 0] [] h _
      refine X_b 1 91 (L := L_98) rfl rfl rfl ?_
      show X 98 91 [vR 4, vI x1, vI x2, vI x3, vI x4, vI x5, vI 0] [vI 0] h _
      refine X_zret (L := L_98) rfl rfl rfl rfl (by decide) ?_
      exact H
    · replace H := H.2.2.2.1 z3
      refine X_sw (L := L_98) (n' := 32) rfl rfl rfl (by rw [z3]; rfl) ?_
      show X 98 32 [vR 4, vI x1, vI x2, vI x3, vI x4, vI x5, vI 0] [] h _
      refine X_b 3 35 (L := L_98) rfl rfl rfl ?_
      show X 98 35 [vR 4, vI x1, vI x2, vI x3, vI x4, vI x5, vI 0] [vR 1, vI x3] h _
      refine X_call 109 [vR 1] [vI x3] rfl (sg_calv rfl rfl rfl rfl rfl rfl rfl rfl rfl rfl rfl) (by decide) ?_
      show X 109 0 [vR 1] [] h _
      refine X_b 2 2 (L := L_109) rfl rfl rfl ?_
      show X 109 2 [vR 1] [vI (h 1 0)] h _
      refine X_iret (L := L_109) rfl rfl rfl rfl ?_
      show X 98 36 [vR 4, vI x1, vI x2, vI x3, vI x4, vI x5, vI 0] [vI (h 1 0), vI x3] h _
      refine X_icmp (L := L_98) (n' := 52) rfl rfl rfl rfl (fun z8 => ?_) (fun z8 => ?_)
      · have z8 : x3 = h 1 0 := z8
        replace H := H.1 z8
        show X 98 52 [vR 4, vI x1, vI x2, vI x3, vI x4, vI x5, vI 0] [] h _
        refine X_b 1 53 (L := L_98) rfl rfl rfl ?_
        show X 98 53 [vR 4, vI x1, vI x2, vI x3, vI x4, vI x5, vI 0] [vI 0] h _
        refine X_zret (L := L_98) rfl rfl rfl rfl (by decide) ?_
        exact H
      · have z8 : ¬ x3 = h 1 0 := z8
        replace H := H.2 z8
        show X 98 37 [vR 4, vI x1, vI x2, vI x3, vI x4, vI x5, vI 0] [] h _
        refine X_b 1 38 (L := L_98) rfl rfl rfl ?_
        show X 98 38 [vR 4, vI x1, vI x2, vI x3, vI x4, vI x5, vI 0] [vI x4] h _
        refine X_if (L := L_98) (n' := 52) rfl rfl rfl rfl (fun z9 => ?_) (fun z9 => ?_)
        · have z9 : ¬ x4 = 0 := z9
          replace H := H.1 z9
          show X 98 52 [vR 4, vI x1, vI x2, vI x3, vI x4, vI x5, vI 0] [] h _
          refine X_b 1 53 (L := L_98) rfl rfl rfl ?_
          show X 98 53 [vR 4, vI x1, vI x2, vI x3, vI x4, vI x5, vI 0] [vI 0] h _
          refine X_zret (L := L_98) rfl rfl rfl rfl (by decide) ?_
          exact H
        · have z9 : x4 = 0 := (Classical.not_not.mp z9)
          replace H := H.2 z9
          show X 98 39 [vR 4, vI x1, vI x2, vI x3, vI x4, vI x5, vI 0] [] h _
          obtain ⟨⟨c10, c11, c12⟩, H⟩ := H
          refine X_b 8 47 (L := L_98) rfl rfl rfl ?_
          show (0 ≤ x3 ∧ x3 < 8) ∧ X 98 47 [vR 4, vI x1, vI x2, vI x3, vI x4, vI x5, vI 0] [vI (h 7 x3), vI x2, vR 2] h _
          refine ⟨c10, ?_⟩
          refine X_call 78 [vR 2, vI x2, vI (h 7 x3)] [] rfl (sg_calv rfl rfl rfl rfl rfl rfl rfl rfl rfl rfl rfl) (by decide) ?_
          show X 78 0 [vR 2, vI x2, vI (h 7 x3)] [] h _
          refine X_b 8 8 (L := L_78) rfl rfl rfl ?_
          show (-2147483648 ≤ x2 * 10 ∧ x2 * 10 ≤ 2147483647) ∧ (-2147483648 ≤ (x2 * 10) + (h 7 x3) ∧ (x2 * 10) + (h 7 x3) ≤ 2147483647) ∧ (0 ≤ (x2 * 10) + (h 7 x3) ∧ (x2 * 10) + (h 7 x3) < 500) ∧ X 78 8 [vR 2, vI x2, vI (h 7 x3)] [vI (h 12 ((x2 * 10) + (h 7 x3)))] h _
          refine ⟨c11, by have := c12; omega, c12, ?_⟩
          refine X_iret (L := L_78) rfl rfl rfl rfl ?_
          show X 98 48 [vR 4, vI x1, vI x2, vI x3, vI x4, vI x5, vI 0] [vI (h 12 ((x2 * 10) + (h 7 x3)))] h _
          refine X_call 25 [vI (h 12 ((x2 * 10) + (h 7 x3)))] [] rfl (sg_cals rfl rfl rfl rfl rfl rfl rfl rfl rfl rfl) (by decide) ?_
          show X 25 0 [vI (h 12 ((x2 * 10) + (h 7 x3)))] [] h _
          refine X_b 1 1 (L := L_25) rfl rfl rfl ?_
          show X 25 1 [vI (h 12 ((x2 * 10) + (h 7 x3)))] [vI (h 12 ((x2 * 10) + (h 7 x3)))] h _
          refine X_if (L := L_25) (n' := 7) rfl rfl rfl rfl (fun z13 => ?_) (fun z13 => ?_)
          · have z13 : h 12 ((x2 * 10) + (h 7 x3)) < 0 := z13
            replace H := H.1 z13
            show X 25 7 [vI (h 12 ((x2 * 10) + (h 7 x3)))] [] h _
            refine X_b 1 8 (L := L_25) rfl rfl rfl ?_
            show X 25 8 [vI (h 12 ((x2 * 10) + (h 7 x3)))] [vI 0] h _
            refine X_zret (L := L_25) rfl rfl rfl rfl (by decide) ?_
            show X 98 49 [vR 4, vI x1, vI x2, vI x3, vI x4, vI x5, vI 0] [vI 0] h _
            refine X_if (L := L_98) (n' := 52) rfl rfl rfl rfl (fun z => absurd z (show ¬ (¬ (0 : Int) = (0 : Int)) by decide)) (fun _ => ?_)
            show X 98 50 [vR 4, vI x1, vI x2, vI x3, vI x4, vI x5, vI 0] [] h _
            refine X_b 1 51 (L := L_98) rfl rfl rfl ?_
            show X 98 51 [vR 4, vI x1, vI x2, vI x3, vI x4, vI x5, vI 0] [vI 1] h _
            refine X_goto (L := L_98) (n' := 53) rfl rfl rfl rfl ?_
            show X 98 53 [vR 4, vI x1, vI x2, vI x3, vI x4, vI x5, vI 0] [vI 1] h _
            refine X_zret (L := L_98) rfl rfl rfl rfl (by decide) ?_
            exact H
          · have z13 : 0 ≤ h 12 ((x2 * 10) + (h 7 x3)) := (Int.not_lt.mp z13)
            replace H := H.2 z13
            show X 25 2 [vI (h 12 ((x2 * 10) + (h 7 x3)))] [] h _
            refine X_b 2 4 (L := L_25) rfl rfl rfl ?_
            show X 25 4 [vI (h 12 ((x2 * 10) + (h 7 x3)))] [vI 50, vI (h 12 ((x2 * 10) + (h 7 x3)))] h _
            refine X_icmp (L := L_25) (n' := 7) rfl rfl rfl rfl (fun z14 => ?_) (fun z14 => ?_)
            · have z14 : 50 ≤ h 12 ((x2 * 10) + (h 7 x3)) := z14
              replace H := H.1 z14
              show X 25 7 [vI (h 12 ((x2 * 10) + (h 7 x3)))] [] h _
              refine X_b 1 8 (L := L_25) rfl rfl rfl ?_
              show X 25 8 [vI (h 12 ((x2 * 10) + (h 7 x3)))] [vI 0] h _
              refine X_zret (L := L_25) rfl rfl rfl rfl (by decide) ?_
              show X 98 49 [vR 4, vI x1, vI x2, vI x3, vI x4, vI x5, vI 0] [vI 0] h _
              refine X_if (L := L_98) (n' := 52) rfl rfl rfl rfl (fun z => absurd z (show ¬ (¬ (0 : Int) = (0 : Int)) by decide)) (fun _ => ?_)
              show X 98 50 [vR 4, vI x1, vI x2, vI x3, vI x4, vI x5, vI 0] [] h _
              refine X_b 1 51 (L := L_98) rfl rfl rfl ?_
              show X 98 51 [vR 4, vI x1, vI x2, vI x3, vI x4, vI x5, vI 0] [vI 1] h _
              refine X_goto (L := L_98) (n' := 53) rfl rfl rfl rfl ?_
              show X 98 53 [vR 4, vI x1, vI x2, vI x3, vI x4, vI x5, vI 0] [vI 1] h _
              refine X_zret (L := L_98) rfl rfl rfl rfl (by decide) ?_
              exact H
            · have z14 : h 12 ((x2 * 10) + (h 7 x3)) < 50 := (Int.not_le.mp z14)
              replace H := H.2 z14
              show X 25 5 [vI (h 12 ((x2 * 10) + (h 7 x3)))] [] h _
              refine X_b 1 6 (L := L_25) rfl rfl rfl ?_
              show X 25 6 [vI (h 12 ((x2 * 10) + (h 7 x3)))] [vI 1] h _
              refine X_goto (L := L_25) (n' := 8) rfl rfl rfl rfl ?_
              show X 25 8 [vI (h 12 ((x2 * 10) + (h 7 x3)))] [vI 1] h _
              refine X_zret (L := L_25) rfl rfl rfl rfl (by decide) ?_
              show X 98 49 [vR 4, vI x1, vI x2, vI x3, vI x4, vI x5, vI 0] [vI 1] h _
              refine X_if (L := L_98) (n' := 52) rfl rfl rfl rfl (fun _ => ?_) (fun z => absurd (show ¬ (1 : Int) = (0 : Int) by decide) z)
              show X 98 52 [vR 4, vI x1, vI x2, vI x3, vI x4, vI x5, vI 0] [] h _
              refine X_b 1 53 (L := L_98) rfl rfl rfl ?_
              show X 98 53 [vR 4, vI x1, vI x2, vI x3, vI x4, vI x5, vI 0] [vI 0] h _
              refine X_zret (L := L_98) rfl rfl rfl rfl (by decide) ?_
              exact H
    · replace H := H.2.2.2.2.1 z3
      refine X_sw (L := L_98) (n' := 80) rfl rfl rfl (by rw [z3]; rfl) ?_
      show X 98 80 [vR 4, vI x1, vI x2, vI x3, vI x4, vI x5, vI 0] [] h _
      refine X_b 1 81 (L := L_98) rfl rfl rfl ?_
      show X 98 81 [vR 4, vI x1, vI x2, vI x3, vI x4, vI x5, vI 0] [vI 0] h _
      refine X_if (L := L_98) (n' := 90) rfl rfl rfl rfl (fun _ => ?_) (fun z => absurd (show (0 : Int) = (0 : Int) by decide) z)
      show X 98 90 [vR 4, vI x1, vI x2, vI x3, vI x4, vI x5, vI 0] [] h _
      refine X_b 1 91 (L := L_98) rfl rfl rfl ?_
      show X 98 91 [vR 4, vI x1, vI x2, vI x3, vI x4, vI x5, vI 0] [vI 0] h _
      refine X_zret (L := L_98) rfl rfl rfl rfl (by decide) ?_
      exact H
    · replace H := H.2.2.2.2.2.1 z3
      refine X_sw (L := L_98) (n' := 54) rfl rfl rfl (by rw [z3]; rfl) ?_
      show X 98 54 [vR 4, vI x1, vI x2, vI x3, vI x4, vI x5, vI 0] [] h _
      refine X_b 1 55 (L := L_98) rfl rfl rfl ?_
      show X 98 55 [vR 4, vI x1, vI x2, vI x3, vI x4, vI x5, vI 0] [vI 0] h _
      refine X_if (L := L_98) (n' := 65) rfl rfl rfl rfl (fun z => absurd z (show ¬ (¬ (0 : Int) = (0 : Int)) by decide)) (fun _ => ?_)
      show X 98 56 [vR 4, vI x1, vI x2, vI x3, vI x4, vI x5, vI 0] [] h _
      refine X_b 5 61 (L := L_98) rfl rfl rfl ?_
      show X 98 61 [vR 4, vI x1, vI x2, vI x3, vI x4, vI x5, vI 0] [vI x5, vI x4, vI x3, vI x2, vR 4] h _
      refine X_call 101 [vR 4, vI x2, vI x3, vI x4, vI x5] [] rfl (sg_calv rfl rfl rfl rfl rfl rfl rfl rfl rfl rfl rfl) (by decide) ?_
      refine C_mono H (kI_to ?_)
      intro v15 h15 H
      show X 98 62 [vR 4, vI x1, vI x2, vI x3, vI x4, vI x5, vI 0] [vI v15] h15 _
      refine X_if (L := L_98) (n' := 65) rfl rfl rfl rfl (fun z16 => ?_) (fun z16 => ?_)
      · have z16 : v15 = 0 := z16
        replace H := H.1 z16
        show X 98 65 [vR 4, vI x1, vI x2, vI x3, vI x4, vI x5, vI 0] [] h15 _
        refine X_b 1 66 (L := L_98) rfl rfl rfl ?_
        show X 98 66 [vR 4, vI x1, vI x2, vI x3, vI x4, vI x5, vI 0] [vI 0] h15 _
        refine X_zret (L := L_98) rfl rfl rfl rfl (by decide) ?_
        exact H
      · have z16 : ¬ v15 = 0 := z16
        replace H := H.2 z16
        show X 98 63 [vR 4, vI x1, vI x2, vI x3, vI x4, vI x5, vI 0] [] h15 _
        refine X_b 1 64 (L := L_98) rfl rfl rfl ?_
        show X 98 64 [vR 4, vI x1, vI x2, vI x3, vI x4, vI x5, vI 0] [vI 1] h15 _
        refine X_goto (L := L_98) (n' := 66) rfl rfl rfl rfl ?_
        show X 98 66 [vR 4, vI x1, vI x2, vI x3, vI x4, vI x5, vI 0] [vI 1] h15 _
        refine X_zret (L := L_98) rfl rfl rfl rfl (by decide) ?_
        exact H
    · replace H := H.2.2.2.2.2.2.1 z3
      refine X_sw (L := L_98) (n' := 67) rfl rfl rfl (by rw [z3]; rfl) ?_
      show X 98 67 [vR 4, vI x1, vI x2, vI x3, vI x4, vI x5, vI 0] [] h _
      refine X_b 1 68 (L := L_98) rfl rfl rfl ?_
      show X 98 68 [vR 4, vI x1, vI x2, vI x3, vI x4, vI x5, vI 0] [vI 0] h _
      refine X_if (L := L_98) (n' := 78) rfl rfl rfl rfl (fun z => absurd z (show ¬ (¬ (0 : Int) = (0 : Int)) by decide)) (fun _ => ?_)
      show X 98 69 [vR 4, vI x1, vI x2, vI x3, vI x4, vI x5, vI 0] [] h _
      refine X_b 5 74 (L := L_98) rfl rfl rfl ?_
      show X 98 74 [vR 4, vI x1, vI x2, vI x3, vI x4, vI x5, vI 0] [vI x5, vI x4, vI x3, vI x2, vR 4] h _
      refine X_call 102 [vR 4, vI x2, vI x3, vI x4, vI x5] [] rfl (sg_calv rfl rfl rfl rfl rfl rfl rfl rfl rfl rfl rfl) (by decide) ?_
      refine C_mono H (kI_to ?_)
      intro v17 h17 H
      show X 98 75 [vR 4, vI x1, vI x2, vI x3, vI x4, vI x5, vI 0] [vI v17] h17 _
      refine X_if (L := L_98) (n' := 78) rfl rfl rfl rfl (fun z18 => ?_) (fun z18 => ?_)
      · have z18 : v17 = 0 := z18
        replace H := H.1 z18
        show X 98 78 [vR 4, vI x1, vI x2, vI x3, vI x4, vI x5, vI 0] [] h17 _
        refine X_b 1 79 (L := L_98) rfl rfl rfl ?_
        show X 98 79 [vR 4, vI x1, vI x2, vI x3, vI x4, vI x5, vI 0] [vI 0] h17 _
        refine X_zret (L := L_98) rfl rfl rfl rfl (by decide) ?_
        exact H
      · have z18 : ¬ v17 = 0 := z18
        replace H := H.2 z18
        show X 98 76 [vR 4, vI x1, vI x2, vI x3, vI x4, vI x5, vI 0] [] h17 _
        refine X_b 1 77 (L := L_98) rfl rfl rfl ?_
        show X 98 77 [vR 4, vI x1, vI x2, vI x3, vI x4, vI x5, vI 0] [vI 1] h17 _
        refine X_goto (L := L_98) (n' := 79) rfl rfl rfl rfl ?_
        show X 98 79 [vR 4, vI x1, vI x2, vI x3, vI x4, vI x5, vI 0] [vI 1] h17 _
        refine X_zret (L := L_98) rfl rfl rfl rfl (by decide) ?_
        exact H
    · replace H := H.2.2.2.2.2.2.2 z3
      refine X_sw (L := L_98) (n' := 80) rfl rfl rfl (by unfold ab_swt; rw [if_pos z3]) ?_
      show X 98 80 [vR 4, vI x1, vI x2, vI x3, vI x4, vI x5, vI 0] [] h _
      refine X_b 1 81 (L := L_98) rfl rfl rfl ?_
      show X 98 81 [vR 4, vI x1, vI x2, vI x3, vI x4, vI x5, vI 0] [vI 0] h _
      refine X_if (L := L_98) (n' := 90) rfl rfl rfl rfl (fun _ => ?_) (fun z => absurd (show (0 : Int) = (0 : Int) by decide) z)
      show X 98 90 [vR 4, vI x1, vI x2, vI x3, vI x4, vI x5, vI 0] [] h _
      refine X_b 1 91 (L := L_98) rfl rfl rfl ?_
      show X 98 91 [vR 4, vI x1, vI x2, vI x3, vI x4, vI x5, vI 0] [vI 0] h _
      refine X_zret (L := L_98) rfl rfl rfl rfl (by decide) ?_
      exact H
  · have z2 : x4 = h 8 x3 := (Classical.not_not.mp z2)
    replace H := H.2 z2
    show X 98 7 [vR 4, vI x1, vI x2, vI x3, vI x4, vI x5, vJ 0] [] h _
    refine X_b 1 8 (L := L_98) rfl rfl rfl ?_
    show X 98 8 [vR 4, vI x1, vI x2, vI x3, vI x4, vI x5, vJ 0] [vI 1] h _
    refine X_goto (L := L_98) (n' := 10) rfl rfl rfl rfl ?_
    show X 98 10 [vR 4, vI x1, vI x2, vI x3, vI x4, vI x5, vJ 0] [vI 1] h _
    refine X_b 2 12 (L := L_98) rfl rfl rfl ?_
    show X 98 12 [vR 4, vI x1, vI x2, vI x3, vI x4, vI x5, vI 1] [vI x1] h _
    rcases (show x1 = 1 ∨ x1 = 2 ∨ x1 = 3 ∨ x1 = 4 ∨ x1 = 5 ∨ x1 = 6 ∨ x1 = 7 ∨ (x1 < 1 ∨ 7 < x1) by omega) with z19 | z19 | z19 | z19 | z19 | z19 | z19 | z19
    · replace H := H.1 z19
      refine X_sw (L := L_98) (n' := 13) rfl rfl rfl (by rw [z19]; rfl) ?_
      show X 98 13 [vR 4, vI x1, vI x2, vI x3, vI x4, vI x5, vI 1] [] h _
      refine X_b 1 14 (L := L_98) rfl rfl rfl ?_
      show X 98 14 [vR 4, vI x1, vI x2, vI x3, vI x4, vI x5, vI 1] [vI x2] h _
      refine X_if (L := L_98) (n' := 21) rfl rfl rfl rfl (fun z20 => ?_) (fun z20 => ?_)
      · have z20 : ¬ x2 = 0 := z20
        replace H := H.1 z20
        show X 98 21 [vR 4, vI x1, vI x2, vI x3, vI x4, vI x5, vI 1] [] h _
        refine X_b 3 24 (L := L_98) rfl rfl rfl ?_
        show X 98 24 [vR 4, vI x1, vI x2, vI x3, vI x4, vI x5, vI 1] [vR 1, vI x3] h _
        refine X_call 109 [vR 1] [vI x3] rfl (sg_calv rfl rfl rfl rfl rfl rfl rfl rfl rfl rfl rfl) (by decide) ?_
        show X 109 0 [vR 1] [] h _
        refine X_b 2 2 (L := L_109) rfl rfl rfl ?_
        show X 109 2 [vR 1] [vI (h 1 0)] h _
        refine X_iret (L := L_109) rfl rfl rfl rfl ?_
        show X 98 25 [vR 4, vI x1, vI x2, vI x3, vI x4, vI x5, vI 1] [vI (h 1 0), vI x3] h _
        refine X_icmp (L := L_98) (n' := 30) rfl rfl rfl rfl (fun z21 => ?_) (fun z21 => ?_)
        · have z21 : ¬ x3 = h 1 0 := z21
          replace H := H.1 z21
          show X 98 30 [vR 4, vI x1, vI x2, vI x3, vI x4, vI x5, vI 1] [] h _
          refine X_b 1 31 (L := L_98) rfl rfl rfl ?_
          show X 98 31 [vR 4, vI x1, vI x2, vI x3, vI x4, vI x5, vI 1] [vI 0] h _
          refine X_zret (L := L_98) rfl rfl rfl rfl (by decide) ?_
          exact H
        · have z21 : x3 = h 1 0 := (Classical.not_not.mp z21)
          replace H := H.2 z21
          show X 98 26 [vR 4, vI x1, vI x2, vI x3, vI x4, vI x5, vI 1] [] h _
          refine X_b 1 27 (L := L_98) rfl rfl rfl ?_
          show X 98 27 [vR 4, vI x1, vI x2, vI x3, vI x4, vI x5, vI 1] [vI x4] h _
          refine X_if (L := L_98) (n' := 30) rfl rfl rfl rfl (fun z22 => ?_) (fun z22 => ?_)
          · have z22 : ¬ x4 = 0 := z22
            replace H := H.1 z22
            show X 98 30 [vR 4, vI x1, vI x2, vI x3, vI x4, vI x5, vI 1] [] h _
            refine X_b 1 31 (L := L_98) rfl rfl rfl ?_
            show X 98 31 [vR 4, vI x1, vI x2, vI x3, vI x4, vI x5, vI 1] [vI 0] h _
            refine X_zret (L := L_98) rfl rfl rfl rfl (by decide) ?_
            exact H
          · have z22 : x4 = 0 := (Classical.not_not.mp z22)
            replace H := H.2 z22
            show X 98 28 [vR 4, vI x1, vI x2, vI x3, vI x4, vI x5, vI 1] [] h _
            refine X_b 1 29 (L := L_98) rfl rfl rfl ?_
            show X 98 29 [vR 4, vI x1, vI x2, vI x3, vI x4, vI x5, vI 1] [vI 1] h _
            refine X_goto (L := L_98) (n' := 31) rfl rfl rfl rfl ?_
            show X 98 31 [vR 4, vI x1, vI x2, vI x3, vI x4, vI x5, vI 1] [vI 1] h _
            refine X_zret (L := L_98) rfl rfl rfl rfl (by decide) ?_
            exact H
      · have z20 : x2 = 0 := (Classical.not_not.mp z20)
        replace H := H.2 z20
        show X 98 15 [vR 4, vI x1, vI x2, vI x3, vI x4, vI x5, vI 1] [] h _
        refine X_b 1 16 (L := L_98) rfl rfl rfl ?_
        show X 98 16 [vR 4, vI x1, vI x2, vI x3, vI x4, vI x5, vI 1] [vI x4] h _
        refine X_if (L := L_98) (n' := 19) rfl rfl rfl rfl (fun z23 => ?_) (fun z23 => ?_)
        · have z23 : x4 ≤ 0 := z23
          replace H := H.1 z23
          show X 98 19 [vR 4, vI x1, vI x2, vI x3, vI x4, vI x5, vI 1] [] h _
          refine X_b 1 20 (L := L_98) rfl rfl rfl ?_
          show X 98 20 [vR 4, vI x1, vI x2, vI x3, vI x4, vI x5, vI 1] [vI 0] h _
          refine X_goto (L := L_98) (n' := 31) rfl rfl rfl rfl ?_
          show X 98 31 [vR 4, vI x1, vI x2, vI x3, vI x4, vI x5, vI 1] [vI 0] h _
          refine X_zret (L := L_98) rfl rfl rfl rfl (by decide) ?_
          exact H
        · have z23 : 0 < x4 := (Int.not_le.mp z23)
          replace H := H.2 z23
          show X 98 17 [vR 4, vI x1, vI x2, vI x3, vI x4, vI x5, vI 1] [] h _
          refine X_b 1 18 (L := L_98) rfl rfl rfl ?_
          show X 98 18 [vR 4, vI x1, vI x2, vI x3, vI x4, vI x5, vI 1] [vI 1] h _
          refine X_goto (L := L_98) (n' := 31) rfl rfl rfl rfl ?_
          show X 98 31 [vR 4, vI x1, vI x2, vI x3, vI x4, vI x5, vI 1] [vI 1] h _
          refine X_zret (L := L_98) rfl rfl rfl rfl (by decide) ?_
          exact H
    · replace H := H.2.1 z19
      refine X_sw (L := L_98) (n' := 80) rfl rfl rfl (by rw [z19]; rfl) ?_
      show X 98 80 [vR 4, vI x1, vI x2, vI x3, vI x4, vI x5, vI 1] [] h _
      refine X_b 1 81 (L := L_98) rfl rfl rfl ?_
      show X 98 81 [vR 4, vI x1, vI x2, vI x3, vI x4, vI x5, vI 1] [vI 1] h _
      refine X_if (L := L_98) (n' := 90) rfl rfl rfl rfl (fun z => absurd z (show ¬ ((1 : Int) = (0 : Int)) by decide)) (fun _ => ?_)
      show X 98 82 [vR 4, vI x1, vI x2, vI x3, vI x4, vI x5, vI 1] [] h _
      refine X_b 4 86 (L := L_98) rfl rfl rfl ?_
      show X 98 86 [vR 4, vI x1, vI x2, vI x3, vI x4, vI x5, vI 1] [vI x5, vI x3, vI x2, vR 4] h _
      refine X_call 103 [vR 4, vI x2, vI x3, vI x5] [] rfl (sg_calv rfl rfl rfl rfl rfl rfl rfl rfl rfl rfl rfl) (by decide) ?_
      refine C_mono H (kI_to ?_)
      intro v24 h24 H
      show X 98 87 [vR 4, vI x1, vI x2, vI x3, vI x4, vI x5, vI 1] [vI v24] h24 _
      refine X_if (L := L_98) (n' := 90) rfl rfl rfl rfl (fun z25 => ?_) (fun z25 => ?_)
      · have z25 : v24 = 0 := z25
        replace H := H.1 z25
        show X 98 90 [vR 4, vI x1, vI x2, vI x3, vI x4, vI x5, vI 1] [] h24 _
        refine X_b 1 91 (L := L_98) rfl rfl rfl ?_
        show X 98 91 [vR 4, vI x1, vI x2, vI x3, vI x4, vI x5, vI 1] [vI 0] h24 _
        refine X_zret (L := L_98) rfl rfl rfl rfl (by decide) ?_
        exact H
      · have z25 : ¬ v24 = 0 := z25
        replace H := H.2 z25
        show X 98 88 [vR 4, vI x1, vI x2, vI x3, vI x4, vI x5, vI 1] [] h24 _
        refine X_b 1 89 (L := L_98) rfl rfl rfl ?_
        show X 98 89 [vR 4, vI x1, vI x2, vI x3, vI x4, vI x5, vI 1] [vI 1] h24 _
        refine X_goto (L := L_98) (n' := 91) rfl rfl rfl rfl ?_
        show X 98 91 [vR 4, vI x1, vI x2, vI x3, vI x4, vI x5, vI 1] [vI 1] h24 _
        refine X_zret (L := L_98) rfl rfl rfl rfl (by decide) ?_
        exact H
    · replace H := H.2.2.1 z19
      refine X_sw (L := L_98) (n' := 80) rfl rfl rfl (by rw [z19]; rfl) ?_
      show X 98 80 [vR 4, vI x1, vI x2, vI x3, vI x4, vI x5, vI 1] [] h _
      refine X_b 1 81 (L := L_98) rfl rfl rfl ?_
      show X 98 81 [vR 4, vI x1, vI x2, vI x3, vI x4, vI x5, vI 1] [vI 1] h _
      refine X_if (L := L_98) (n' := 90) rfl rfl rfl rfl (fun z => absurd z (show ¬ ((1 : Int) = (0 : Int)) by decide)) (fun _ => ?_)
      show X 98 82 [vR 4, vI x1, vI x2, vI x3, vI x4, vI x5, vI 1] [] h _
      refine X_b 4 86 (L := L_98) rfl rfl rfl ?_
      show X 98 86 [vR 4, vI x1, vI x2, vI x3, vI x4, vI x5, vI 1] [vI x5, vI x3, vI x2, vR 4] h _
      refine X_call 103 [vR 4, vI x2, vI x3, vI x5] [] rfl (sg_calv rfl rfl rfl rfl rfl rfl rfl rfl rfl rfl rfl) (by decide) ?_
      refine C_mono H (kI_to ?_)
      intro v26 h26 H
      show X 98 87 [vR 4, vI x1, vI x2, vI x3, vI x4, vI x5, vI 1] [vI v26] h26 _
      refine X_if (L := L_98) (n' := 90) rfl rfl rfl rfl (fun z27 => ?_) (fun z27 => ?_)
      · have z27 : v26 = 0 := z27
        replace H := H.1 z27
        show X 98 90 [vR 4, vI x1, vI x2, vI x3, vI x4, vI x5, vI 1] [] h26 _
        refine X_b 1 91 (L := L_98) rfl rfl rfl ?_
        show X 98 91 [vR 4, vI x1, vI x2, vI x3, vI x4, vI x5, vI 1] [vI 0] h26 _
        refine X_zret (L := L_98) rfl rfl rfl rfl (by decide) ?_
        exact H
      · have z27 : ¬ v26 = 0 := z27
        replace H := H.2 z27
        show X 98 88 [vR 4, vI x1, vI x2, vI x3, vI x4, vI x5, vI 1] [] h26 _
        refine X_b 1 89 (L := L_98) rfl rfl rfl ?_
        show X 98 89 [vR 4, vI x1, vI x2, vI x3, vI x4, vI x5, vI 1] [vI 1] h26 _
        refine X_goto (L := L_98) (n' := 91) rfl rfl rfl rfl ?_
        show X 98 91 [vR 4, vI x1, vI x2, vI x3, vI x4, vI x5, vI 1] [vI 1] h26 _
        refine X_zret (L := L_98) rfl rfl rfl rfl (by decide) ?_
        exact H
    · replace H := H.2.2.2.1 z19
      refine X_sw (L := L_98) (n' := 32) rfl rfl rfl (by rw [z19]; rfl) ?_
      show X 98 32 [vR 4, vI x1, vI x2, vI x3, vI x4, vI x5, vI 1] [] h _
      refine X_b 3 35 (L := L_98) rfl rfl rfl ?_
      show X 98 35 [vR 4, vI x1, vI x2, vI x3, vI x4, vI x5, vI 1] [vR 1, vI x3] h _
      refine X_call 109 [vR 1] [vI x3] rfl (sg_calv rfl rfl rfl rfl rfl rfl rfl rfl rfl rfl rfl) (by decide) ?_
      show X 109 0 [vR 1] [] h _
      refine X_b 2 2 (L := L_109) rfl rfl rfl ?_
      show X 109 2 [vR 1] [vI (h 1 0)] h _
      refine X_iret (L := L_109) rfl rfl rfl rfl ?_
      show X 98 36 [vR 4, vI x1, vI x2, vI x3, vI x4, vI x5, vI 1] [vI (h 1 0), vI x3] h _
      refine X_icmp (L := L_98) (n' := 52) rfl rfl rfl rfl (fun z28 => ?_) (fun z28 => ?_)
      · have z28 : x3 = h 1 0 := z28
        replace H := H.1 z28
        show X 98 52 [vR 4, vI x1, vI x2, vI x3, vI x4, vI x5, vI 1] [] h _
        refine X_b 1 53 (L := L_98) rfl rfl rfl ?_
        show X 98 53 [vR 4, vI x1, vI x2, vI x3, vI x4, vI x5, vI 1] [vI 0] h _
        refine X_zret (L := L_98) rfl rfl rfl rfl (by decide) ?_
        exact H
      · have z28 : ¬ x3 = h 1 0 := z28
        replace H := H.2 z28
        show X 98 37 [vR 4, vI x1, vI x2, vI x3, vI x4, vI x5, vI 1] [] h _
        refine X_b 1 38 (L := L_98) rfl rfl rfl ?_
        show X 98 38 [vR 4, vI x1, vI x2, vI x3, vI x4, vI x5, vI 1] [vI x4] h _
        refine X_if (L := L_98) (n' := 52) rfl rfl rfl rfl (fun z29 => ?_) (fun z29 => ?_)
        · have z29 : ¬ x4 = 0 := z29
          replace H := H.1 z29
          show X 98 52 [vR 4, vI x1, vI x2, vI x3, vI x4, vI x5, vI 1] [] h _
          refine X_b 1 53 (L := L_98) rfl rfl rfl ?_
          show X 98 53 [vR 4, vI x1, vI x2, vI x3, vI x4, vI x5, vI 1] [vI 0] h _
          refine X_zret (L := L_98) rfl rfl rfl rfl (by decide) ?_
          exact H
        · have z29 : x4 = 0 := (Classical.not_not.mp z29)
          replace H := H.2 z29
          show X 98 39 [vR 4, vI x1, vI x2, vI x3, vI x4, vI x5, vI 1] [] h _
          obtain ⟨⟨c30, c31, c32⟩, H⟩ := H
          refine X_b 8 47 (L := L_98) rfl rfl rfl ?_
          show (0 ≤ x3 ∧ x3 < 8) ∧ X 98 47 [vR 4, vI x1, vI x2, vI x3, vI x4, vI x5, vI 1] [vI (h 7 x3), vI x2, vR 2] h _
          refine ⟨c30, ?_⟩
          refine X_call 78 [vR 2, vI x2, vI (h 7 x3)] [] rfl (sg_calv rfl rfl rfl rfl rfl rfl rfl rfl rfl rfl rfl) (by decide) ?_
          show X 78 0 [vR 2, vI x2, vI (h 7 x3)] [] h _
          refine X_b 8 8 (L := L_78) rfl rfl rfl ?_
          show (-2147483648 ≤ x2 * 10 ∧ x2 * 10 ≤ 2147483647) ∧ (-2147483648 ≤ (x2 * 10) + (h 7 x3) ∧ (x2 * 10) + (h 7 x3) ≤ 2147483647) ∧ (0 ≤ (x2 * 10) + (h 7 x3) ∧ (x2 * 10) + (h 7 x3) < 500) ∧ X 78 8 [vR 2, vI x2, vI (h 7 x3)] [vI (h 12 ((x2 * 10) + (h 7 x3)))] h _
          refine ⟨c31, by have := c32; omega, c32, ?_⟩
          refine X_iret (L := L_78) rfl rfl rfl rfl ?_
          show X 98 48 [vR 4, vI x1, vI x2, vI x3, vI x4, vI x5, vI 1] [vI (h 12 ((x2 * 10) + (h 7 x3)))] h _
          refine X_call 25 [vI (h 12 ((x2 * 10) + (h 7 x3)))] [] rfl (sg_cals rfl rfl rfl rfl rfl rfl rfl rfl rfl rfl) (by decide) ?_
          show X 25 0 [vI (h 12 ((x2 * 10) + (h 7 x3)))] [] h _
          refine X_b 1 1 (L := L_25) rfl rfl rfl ?_
          show X 25 1 [vI (h 12 ((x2 * 10) + (h 7 x3)))] [vI (h 12 ((x2 * 10) + (h 7 x3)))] h _
          refine X_if (L := L_25) (n' := 7) rfl rfl rfl rfl (fun z33 => ?_) (fun z33 => ?_)
          · have z33 : h 12 ((x2 * 10) + (h 7 x3)) < 0 := z33
            replace H := H.1 z33
            show X 25 7 [vI (h 12 ((x2 * 10) + (h 7 x3)))] [] h _
            refine X_b 1 8 (L := L_25) rfl rfl rfl ?_
            show X 25 8 [vI (h 12 ((x2 * 10) + (h 7 x3)))] [vI 0] h _
            refine X_zret (L := L_25) rfl rfl rfl rfl (by decide) ?_
            show X 98 49 [vR 4, vI x1, vI x2, vI x3, vI x4, vI x5, vI 1] [vI 0] h _
            refine X_if (L := L_98) (n' := 52) rfl rfl rfl rfl (fun z => absurd z (show ¬ (¬ (0 : Int) = (0 : Int)) by decide)) (fun _ => ?_)
            show X 98 50 [vR 4, vI x1, vI x2, vI x3, vI x4, vI x5, vI 1] [] h _
            refine X_b 1 51 (L := L_98) rfl rfl rfl ?_
            show X 98 51 [vR 4, vI x1, vI x2, vI x3, vI x4, vI x5, vI 1] [vI 1] h _
            refine X_goto (L := L_98) (n' := 53) rfl rfl rfl rfl ?_
            show X 98 53 [vR 4, vI x1, vI x2, vI x3, vI x4, vI x5, vI 1] [vI 1] h _
            refine X_zret (L := L_98) rfl rfl rfl rfl (by decide) ?_
            exact H
          · have z33 : 0 ≤ h 12 ((x2 * 10) + (h 7 x3)) := (Int.not_lt.mp z33)
            replace H := H.2 z33
            show X 25 2 [vI (h 12 ((x2 * 10) + (h 7 x3)))] [] h _
            refine X_b 2 4 (L := L_25) rfl rfl rfl ?_
            show X 25 4 [vI (h 12 ((x2 * 10) + (h 7 x3)))] [vI 50, vI (h 12 ((x2 * 10) + (h 7 x3)))] h _
            refine X_icmp (L := L_25) (n' := 7) rfl rfl rfl rfl (fun z34 => ?_) (fun z34 => ?_)
            · have z34 : 50 ≤ h 12 ((x2 * 10) + (h 7 x3)) := z34
              replace H := H.1 z34
              show X 25 7 [vI (h 12 ((x2 * 10) + (h 7 x3)))] [] h _
              refine X_b 1 8 (L := L_25) rfl rfl rfl ?_
              show X 25 8 [vI (h 12 ((x2 * 10) + (h 7 x3)))] [vI 0] h _
              refine X_zret (L := L_25) rfl rfl rfl rfl (by decide) ?_
              show X 98 49 [vR 4, vI x1, vI x2, vI x3, vI x4, vI x5, vI 1] [vI 0] h _
              refine X_if (L := L_98) (n' := 52) rfl rfl rfl rfl (fun z => absurd z (show ¬ (¬ (0 : Int) = (0 : Int)) by decide)) (fun _ => ?_)
              show X 98 50 [vR 4, vI x1, vI x2, vI x3, vI x4, vI x5, vI 1] [] h _
              refine X_b 1 51 (L := L_98) rfl rfl rfl ?_
              show X 98 51 [vR 4, vI x1, vI x2, vI x3, vI x4, vI x5, vI 1] [vI 1] h _
              refine X_goto (L := L_98) (n' := 53) rfl rfl rfl rfl ?_
              show X 98 53 [vR 4, vI x1, vI x2, vI x3, vI x4, vI x5, vI 1] [vI 1] h _
              refine X_zret (L := L_98) rfl rfl rfl rfl (by decide) ?_
              exact H
            · have z34 : h 12 ((x2 * 10) + (h 7 x3)) < 50 := (Int.not_le.mp z34)
              replace H := H.2 z34
              show X 25 5 [vI (h 12 ((x2 * 10) + (h 7 x3)))] [] h _
              refine X_b 1 6 (L := L_25) rfl rfl rfl ?_
              show X 25 6 [vI (h 12 ((x2 * 10) + (h 7 x3)))] [vI 1] h _
              refine X_goto (L := L_25) (n' := 8) rfl rfl rfl rfl ?_
              show X 25 8 [vI (h 12 ((x2 * 10) + (h 7 x3)))] [vI 1] h _
              refine X_zret (L := L_25) rfl rfl rfl rfl (by decide) ?_
              show X 98 49 [vR 4, vI x1, vI x2, vI x3, vI x4, vI x5, vI 1] [vI 1] h _
              refine X_if (L := L_98) (n' := 52) rfl rfl rfl rfl (fun _ => ?_) (fun z => absurd (show ¬ (1 : Int) = (0 : Int) by decide) z)
              show X 98 52 [vR 4, vI x1, vI x2, vI x3, vI x4, vI x5, vI 1] [] h _
              refine X_b 1 53 (L := L_98) rfl rfl rfl ?_
              show X 98 53 [vR 4, vI x1, vI x2, vI x3, vI x4, vI x5, vI 1] [vI 0] h _
              refine X_zret (L := L_98) rfl rfl rfl rfl (by decide) ?_
              exact H
    · replace H := H.2.2.2.2.1 z19
      refine X_sw (L := L_98) (n' := 80) rfl rfl rfl (by rw [z19]; rfl) ?_
      show X 98 80 [vR 4, vI x1, vI x2, vI x3, vI x4, vI x5, vI 1] [] h _
      refine X_b 1 81 (L := L_98) rfl rfl rfl ?_
      show X 98 81 [vR 4, vI x1, vI x2, vI x3, vI x4, vI x5, vI 1] [vI 1] h _
      refine X_if (L := L_98) (n' := 90) rfl rfl rfl rfl (fun z => absurd z (show ¬ ((1 : Int) = (0 : Int)) by decide)) (fun _ => ?_)
      show X 98 82 [vR 4, vI x1, vI x2, vI x3, vI x4, vI x5, vI 1] [] h _
      refine X_b 4 86 (L := L_98) rfl rfl rfl ?_
      show X 98 86 [vR 4, vI x1, vI x2, vI x3, vI x4, vI x5, vI 1] [vI x5, vI x3, vI x2, vR 4] h _
      refine X_call 103 [vR 4, vI x2, vI x3, vI x5] [] rfl (sg_calv rfl rfl rfl rfl rfl rfl rfl rfl rfl rfl rfl) (by decide) ?_
      refine C_mono H (kI_to ?_)
      intro v35 h35 H
      show X 98 87 [vR 4, vI x1, vI x2, vI x3, vI x4, vI x5, vI 1] [vI v35] h35 _
      refine X_if (L := L_98) (n' := 90) rfl rfl rfl rfl (fun z36 => ?_) (fun z36 => ?_)
      · have z36 : v35 = 0 := z36
        replace H := H.1 z36
        show X 98 90 [vR 4, vI x1, vI x2, vI x3, vI x4, vI x5, vI 1] [] h35 _
        refine X_b 1 91 (L := L_98) rfl rfl rfl ?_
        show X 98 91 [vR 4, vI x1, vI x2, vI x3, vI x4, vI x5, vI 1] [vI 0] h35 _
        refine X_zret (L := L_98) rfl rfl rfl rfl (by decide) ?_
        exact H
      · have z36 : ¬ v35 = 0 := z36
        replace H := H.2 z36
        show X 98 88 [vR 4, vI x1, vI x2, vI x3, vI x4, vI x5, vI 1] [] h35 _
        refine X_b 1 89 (L := L_98) rfl rfl rfl ?_
        show X 98 89 [vR 4, vI x1, vI x2, vI x3, vI x4, vI x5, vI 1] [vI 1] h35 _
        refine X_goto (L := L_98) (n' := 91) rfl rfl rfl rfl ?_
        show X 98 91 [vR 4, vI x1, vI x2, vI x3, vI x4, vI x5, vI 1] [vI 1] h35 _
        refine X_zret (L := L_98) rfl rfl rfl rfl (by decide) ?_
        exact H
    · replace H := H.2.2.2.2.2.1 z19
      refine X_sw (L := L_98) (n' := 54) rfl rfl rfl (by rw [z19]; rfl) ?_
      show X 98 54 [vR 4, vI x1, vI x2, vI x3, vI x4, vI x5, vI 1] [] h _
      refine X_b 1 55 (L := L_98) rfl rfl rfl ?_
      show X 98 55 [vR 4, vI x1, vI x2, vI x3, vI x4, vI x5, vI 1] [vI 1] h _
      refine X_if (L := L_98) (n' := 65) rfl rfl rfl rfl (fun _ => ?_) (fun z => absurd (show ¬ (1 : Int) = (0 : Int) by decide) z)
      show X 98 65 [vR 4, vI x1, vI x2, vI x3, vI x4, vI x5, vI 1] [] h _
      refine X_b 1 66 (L := L_98) rfl rfl rfl ?_
      show X 98 66 [vR 4, vI x1, vI x2, vI x3, vI x4, vI x5, vI 1] [vI 0] h _
      refine X_zret (L := L_98) rfl rfl rfl rfl (by decide) ?_
      exact H
    · replace H := H.2.2.2.2.2.2.1 z19
      refine X_sw (L := L_98) (n' := 67) rfl rfl rfl (by rw [z19]; rfl) ?_
      show X 98 67 [vR 4, vI x1, vI x2, vI x3, vI x4, vI x5, vI 1] [] h _
      refine X_b 1 68 (L := L_98) rfl rfl rfl ?_
      show X 98 68 [vR 4, vI x1, vI x2, vI x3, vI x4, vI x5, vI 1] [vI 1] h _
      refine X_if (L := L_98) (n' := 78) rfl rfl rfl rfl (fun _ => ?_) (fun z => absurd (show ¬ (1 : Int) = (0 : Int) by decide) z)
      show X 98 78 [vR 4, vI x1, vI x2, vI x3, vI x4, vI x5, vI 1] [] h _
      refine X_b 1 79 (L := L_98) rfl rfl rfl ?_
      show X 98 79 [vR 4, vI x1, vI x2, vI x3, vI x4, vI x5, vI 1] [vI 0] h _
      refine X_zret (L := L_98) rfl rfl rfl rfl (by decide) ?_
      exact H
    · replace H := H.2.2.2.2.2.2.2 z19
      refine X_sw (L := L_98) (n' := 80) rfl rfl rfl (by unfold ab_swt; rw [if_pos z19]) ?_
      show X 98 80 [vR 4, vI x1, vI x2, vI x3, vI x4, vI x5, vI 1] [] h _
      refine X_b 1 81 (L := L_98) rfl rfl rfl ?_
      show X 98 81 [vR 4, vI x1, vI x2, vI x3, vI x4, vI x5, vI 1] [vI 1] h _
      refine X_if (L := L_98) (n' := 90) rfl rfl rfl rfl (fun z => absurd z (show ¬ ((1 : Int) = (0 : Int)) by decide)) (fun _ => ?_)
      show X 98 82 [vR 4, vI x1, vI x2, vI x3, vI x4, vI x5, vI 1] [] h _
      refine X_b 4 86 (L := L_98) rfl rfl rfl ?_
      show X 98 86 [vR 4, vI x1, vI x2, vI x3, vI x4, vI x5, vI 1] [vI x5, vI x3, vI x2, vR 4] h _
      refine X_call 103 [vR 4, vI x2, vI x3, vI x5] [] rfl (sg_calv rfl rfl rfl rfl rfl rfl rfl rfl rfl rfl rfl) (by decide) ?_
      refine C_mono H (kI_to ?_)
      intro v37 h37 H
      show X 98 87 [vR 4, vI x1, vI x2, vI x3, vI x4, vI x5, vI 1] [vI v37] h37 _
      refine X_if (L := L_98) (n' := 90) rfl rfl rfl rfl (fun z38 => ?_) (fun z38 => ?_)
      · have z38 : v37 = 0 := z38
        replace H := H.1 z38
        show X 98 90 [vR 4, vI x1, vI x2, vI x3, vI x4, vI x5, vI 1] [] h37 _
        refine X_b 1 91 (L := L_98) rfl rfl rfl ?_
        show X 98 91 [vR 4, vI x1, vI x2, vI x3, vI x4, vI x5, vI 1] [vI 0] h37 _
        refine X_zret (L := L_98) rfl rfl rfl rfl (by decide) ?_
        exact H
      · have z38 : ¬ v37 = 0 := z38
        replace H := H.2 z38
        show X 98 88 [vR 4, vI x1, vI x2, vI x3, vI x4, vI x5, vI 1] [] h37 _
        refine X_b 1 89 (L := L_98) rfl rfl rfl ?_
        show X 98 89 [vR 4, vI x1, vI x2, vI x3, vI x4, vI x5, vI 1] [vI 1] h37 _
        refine X_goto (L := L_98) (n' := 91) rfl rfl rfl rfl ?_
        show X 98 91 [vR 4, vI x1, vI x2, vI x3, vI x4, vI x5, vI 1] [vI 1] h37 _
        refine X_zret (L := L_98) rfl rfl rfl rfl (by decide) ?_
        exact H

set_option maxRecDepth 8192 in
/-- Checker.isForeign, row 0 -/
theorem s_99_0 (x1 x2 : Int) (h : ab_S) (K : ab_O → ab_S → Prop) (H : ((-2147483648 ≤ x1 * 10 ∧ x1 * 10 ≤ 2147483647) ∧ (0 ≤ (x1 * 10) + x2 ∧ (x1 * 10) + x2 < 500)) ∧ ((h 12 ((x1 * 10) + x2) < 0 → K (oI 0) h) ∧ (0 ≤ h 12 ((x1 * 10) + x2) → ((50 ≤ h 12 ((x1 * 10) + x2) → K (oI 0) h) ∧ (h 12 ((x1 * 10) + x2) < 50 → X 99 13 [vR 4, vI x1, vI x2, vI (h 12 ((x1 * 10) + x2)), vI 0, vJ 0, vJ 0, vJ 0] [] h K))))) : C 99 [vR 4, vI x1, vI x2] h K := by
  show X 99 0 [vR 4, vI x1, vI x2, vJ 0, vJ 0, vJ 0, vJ 0, vJ 0] [] h K
  obtain ⟨⟨c1, c2⟩, H⟩ := H
  refine X_b 4 4 (L := L_99) rfl rfl rfl ?_
  show X 99 4 [vR 4, vI x1, vI x2, vJ 0, vJ 0, vJ 0, vJ 0, vJ 0] [vI x2, vI x1, vR 2] h _
  refine X_call 78 [vR 2, vI x1, vI x2] [] rfl (sg_calv rfl rfl rfl rfl rfl rfl rfl rfl rfl rfl rfl) (by decide) ?_
  show X 78 0 [vR 2, vI x1, vI x2] [] h _
  refine X_b 8 8 (L := L_78) rfl rfl rfl ?_
  show (-2147483648 ≤ x1 * 10 ∧ x1 * 10 ≤ 2147483647) ∧ (-2147483648 ≤ (x1 * 10) + x2 ∧ (x1 * 10) + x2 ≤ 2147483647) ∧ (0 ≤ (x1 * 10) + x2 ∧ (x1 * 10) + x2 < 500) ∧ X 78 8 [vR 2, vI x1, vI x2] [vI (h 12 ((x1 * 10) + x2))] h _
  refine ⟨c1, by have := c2; omega, c2, ?_⟩
  refine X_iret (L := L_78) rfl rfl rfl rfl ?_
  show X 99 5 [vR 4, vI x1, vI x2, vJ 0, vJ 0, vJ 0, vJ 0, vJ 0] [vI (h 12 ((x1 * 10) + x2))] h _
  refine X_b 2 7 (L := L_99) rfl rfl rfl ?_
  show X 99 7 [vR 4, vI x1, vI x2, vI (h 12 ((x1 * 10) + x2)), vJ 0, vJ 0, vJ 0, vJ 0] [vI (h 12 ((x1 * 10) + x2))] h _
  refine X_call 25 [vI (h 12 ((x1 * 10) + x2))] [] rfl (sg_cals rfl rfl rfl rfl rfl rfl rfl rfl rfl rfl) (by decide) ?_
  show X 25 0 [vI (h 12 ((x1 * 10) + x2))] [] h _
  refine X_b 1 1 (L := L_25) rfl rfl rfl ?_
  show X 25 1 [vI (h 12 ((x1 * 10) + x2))] [vI (h 12 ((x1 * 10) + x2))] h _
  refine X_if (L := L_25) (n' := 7) rfl rfl rfl rfl (fun z3 => ?_) (fun z3 => ?_)
  · have z3 : h 12 ((x1 * 10) + x2) < 0 := z3
    replace H := H.1 z3
    show X 25 7 [vI (h 12 ((x1 * 10) + x2))] [] h _
    refine X_b 1 8 (L := L_25) rfl rfl rfl ?_
    show X 25 8 [vI (h 12 ((x1 * 10) + x2))] [vI 0] h _
    refine X_zret (L := L_25) rfl rfl rfl rfl (by decide) ?_
    show X 99 8 [vR 4, vI x1, vI x2, vI (h 12 ((x1 * 10) + x2)), vJ 0, vJ 0, vJ 0, vJ 0] [vI 0] h _
    refine X_if (L := L_99) (n' := 11) rfl rfl rfl rfl (fun z => absurd z (show ¬ (¬ (0 : Int) = (0 : Int)) by decide)) (fun _ => ?_)
    show X 99 9 [vR 4, vI x1, vI x2, vI (h 12 ((x1 * 10) + x2)), vJ 0, vJ 0, vJ 0, vJ 0] [] h _
    refine X_b 1 10 (L := L_99) rfl rfl rfl ?_
    show X 99 10 [vR 4, vI x1, vI x2, vI (h 12 ((x1 * 10) + x2)), vJ 0, vJ 0, vJ 0, vJ 0] [vI 0] h _
    refine X_zret (L := L_99) rfl rfl rfl rfl (by decide) ?_
    exact H
  · have z3 : 0 ≤ h 12 ((x1 * 10) + x2) := (Int.not_lt.mp z3)
    replace H := H.2 z3
    show X 25 2 [vI (h 12 ((x1 * 10) + x2))] [] h _
    refine X_b 2 4 (L := L_25) rfl rfl rfl ?_
    show X 25 4 [vI (h 12 ((x1 * 10) + x2))] [vI 50, vI (h 12 ((x1 * 10) + x2))] h _
    refine X_icmp (L := L_25) (n' := 7) rfl rfl rfl rfl (fun z4 => ?_) (fun z4 => ?_)
    · have z4 : 50 ≤ h 12 ((x1 * 10) + x2) := z4
      replace H := H.1 z4
      show X 25 7 [vI (h 12 ((x1 * 10) + x2))] [] h _
      refine X_b 1 8 (L := L_25) rfl rfl rfl ?_
      show X 25 8 [vI (h 12 ((x1 * 10) + x2))] [vI 0] h _
      refine X_zret (L := L_25) rfl rfl rfl rfl (by decide) ?_
      show X 99 8 [vR 4, vI x1, vI x2, vI (h 12 ((x1 * 10) + x2)), vJ 0, vJ 0, vJ 0, vJ 0] [vI 0] h _
      refine X_if (L := L_99) (n' := 11) rfl rfl rfl rfl (fun z => absurd z (show ¬ (¬ (0 : Int) = (0 : Int)) by decide)) (fun _ => ?_)
      show X 99 9 [vR 4, vI x1, vI x2, vI (h 12 ((x1 * 10) + x2)), vJ 0, vJ 0, vJ 0, vJ 0] [] h _
      refine X_b 1 10 (L := L_99) rfl rfl rfl ?_
      show X 99 10 [vR 4, vI x1, vI x2, vI (h 12 ((x1 * 10) + x2)), vJ 0, vJ 0, vJ 0, vJ 0] [vI 0] h _
      refine X_zret (L := L_99) rfl rfl rfl rfl (by decide) ?_
      exact H
    · have z4 : h 12 ((x1 * 10) + x2) < 50 := (Int.not_le.mp z4)
      replace H := H.2 z4
      show X 25 5 [vI (h 12 ((x1 * 10) + x2))] [] h _
      refine X_b 1 6 (L := L_25) rfl rfl rfl ?_
      show X 25 6 [vI (h 12 ((x1 * 10) + x2))] [vI 1] h _
      refine X_goto (L := L_25) (n' := 8) rfl rfl rfl rfl ?_
      show X 25 8 [vI (h 12 ((x1 * 10) + x2))] [vI 1] h _
      refine X_zret (L := L_25) rfl rfl rfl rfl (by decide) ?_
      show X 99 8 [vR 4, vI x1, vI x2, vI (h 12 ((x1 * 10) + x2)), vJ 0, vJ 0, vJ 0, vJ 0] [vI 1] h _
      refine X_if (L := L_99) (n' := 11) rfl rfl rfl rfl (fun _ => ?_) (fun z => absurd (show ¬ (1 : Int) = (0 : Int) by decide) z)
      show X 99 11 [vR 4, vI x1, vI x2, vI (h 12 ((x1 * 10) + x2)), vJ 0, vJ 0, vJ 0, vJ 0] [] h _
      refine X_b 2 13 (L := L_99) rfl rfl rfl ?_
      show X 99 13 [vR 4, vI x1, vI x2, vI (h 12 ((x1 * 10) + x2)), vI 0, vJ 0, vJ 0, vJ 0] [] h _
      exact H

set_option maxRecDepth 8192 in
/-- Checker.isForeign, row 13 -/
theorem s_99_13 (x1 x2 x3 x4 : Int) (w5 w6 w7 : ab_V) (h : ab_S) (K : ab_O → ab_S → Prop) (H : ((h 1 0 < x4 → K (oI 0) h) ∧ (x4 ≤ h 1 0 → X 99 20 [vR 4, vI x1, vI x2, vI x3, vI x4, vI 1, w6, w7] [] h K))) : X 99 13 [vR 4, vI x1, vI x2, vI x3, vI x4, w5, w6, w7] [] h K := by
  refine X_b 3 16 (L := L_99) rfl rfl rfl ?_
  show X 99 16 [vR 4, vI x1, vI x2, vI x3, vI x4, w5, w6, w7] [vR 1, vI x4] h _
  refine X_call 109 [vR 1] [vI x4] rfl (sg_calv rfl rfl rfl rfl rfl rfl rfl rfl rfl rfl rfl) (by decide) ?_
  show X 109 0 [vR 1] [] h _
  refine X_b 2 2 (L := L_109) rfl rfl rfl ?_
  show X 109 2 [vR 1] [vI (h 1 0)] h _
  refine X_iret (L := L_109) rfl rfl rfl rfl ?_
  show X 99 17 [vR 4, vI x1, vI x2, vI x3, vI x4, w5, w6, w7] [vI (h 1 0), vI x4] h _
  refine X_icmp (L := L_99) (n' := 66) rfl rfl rfl rfl (fun z1 => ?_) (fun z1 => ?_)
  · have z1 : h 1 0 < x4 := z1
    replace H := H.1 z1
    show X 99 66 [vR 4, vI x1, vI x2, vI x3, vI x4, w5, w6, w7] [] h _
    refine X_b 1 67 (L := L_99) rfl rfl rfl ?_
    show X 99 67 [vR 4, vI x1, vI x2, vI x3, vI x4, w5, w6, w7] [vI 0] h _
    refine X_zret (L := L_99) rfl rfl rfl rfl (by decide) ?_
    exact H
  · have z1 : x4 ≤ h 1 0 := (Int.not_lt.mp z1)
    replace H := H.2 z1
    show X 99 18 [vR 4, vI x1, vI x2, vI x3, vI x4, w5, w6, w7] [] h _
    refine X_b 2 20 (L := L_99) rfl rfl rfl ?_
    show X 99 20 [vR 4, vI x1, vI x2, vI x3, vI x4, vI 1, w6, w7] [] h _
    exact H

set_option maxRecDepth 8192 in
/-- Checker.isForeign, row 20 -/
theorem s_99_20 (x1 x2 x3 x4 x5 : Int) (w6 w7 : ab_V) (h : ab_S) (K : ab_O → ab_S → Prop) (H : ((0 ≤ x4 ∧ x4 < 9)) ∧ ((h 8 x4 < x5 → ((-2147483648 ≤ x4 + 1 ∧ x4 + 1 ≤ 2147483647)) ∧ X 99 13 [vR 4, vI x1, vI x2, vI x3, vI (x4 + 1), vI x5, w6, w7] [] h K) ∧ (x5 ≤ h 8 x4 → ((-2147483648 ≤ x3 * 45 ∧ x3 * 45 ≤ 2147483647) ∧ (-2147483648 ≤ x4 * 5 ∧ x4 * 5 ≤ 2147483647) ∧ (-2147483648 ≤ (x4 * 5) + x5 ∧ (x4 * 5) + x5 ≤ 2147483647) ∧ (0 ≤ (x3 * 45) + ((x4 * 5) + x5) ∧ (x3 * 45) + ((x4 * 5) + x5) < 2250) ∧ (-2147483648 ≤ x5 - 1 ∧ x5 - 1 ≤ 2147483647) ∧ (-2147483648 ≤ x4 * 4 ∧ x4 * 4 ≤ 2147483647) ∧ (0 ≤ (x4 * 4) + (x5 - 1) ∧ (x4 * 4) + (x5 - 1) < 36)) ∧ ((¬ h 9 ((x4 * 4) + (x5 - 1)) = x2 → ((b_and (h 13 ((x3 * 45) + ((x4 * 5) + x5))) (b_xor 0 (-1)) = 0 → ((-2147483648 ≤ x5 + 1 ∧ x5 + 1 ≤ 2147483647)) ∧ X 99 20 [vR 4, vI x1, vI x2, vI x3, vI x4, vI (x5 + 1), vI (h 13 ((x3 * 45) + ((x4 * 5) + x5))), vI 0] [] h K) ∧ (¬ b_and (h 13 ((x3 * 45) + ((x4 * 5) + x5))) (b_xor 0 (-1)) = 0 → K (oI 1) h))) ∧ (h 9 ((x4 * 4) + (x5 - 1)) = x2 → ((-2147483648 ≤ x1 * 45 ∧ x1 * 45 ≤ 2147483647) ∧ (-2147483648 ≤ (x4 * 5) + (x5 - 1) ∧ (x4 * 5) + (x5 - 1) ≤ 2147483647) ∧ (0 ≤ (x1 * 45) + ((x4 * 5) + (x5 - 1)) ∧ (x1 * 45) + ((x4 * 5) + (x5 - 1)) < 2250)) ∧ ((b_and (h 13 ((x3 * 45) + ((x4 * 5) + x5))) (b_xor (h 13 ((x1 * 45) + ((x4 * 5) + (x5 - 1)))) (-1)) = 0 → ((-2147483648 ≤ x5 + 1 ∧ x5 + 1 ≤ 2147483647)) ∧ X 99 20 [vR 4, vI x1, vI x2, vI x3, vI x4, vI (x5 + 1), vI (h 13 ((x3 * 45) + ((x4 * 5) + x5))), vI (h 13 ((x1 * 45) + ((x4 * 5) + (x5 - 1))))] [] h K) ∧ (¬ b_and (h 13 ((x3 * 45) + ((x4 * 5) + x5))) (b_xor (h 13 ((x1 * 45) + ((x4 * 5) + (x5 - 1)))) (-1)) = 0 → K (oI 1) h))))))) : X 99 20 [vR 4, vI x1, vI x2, vI x3, vI x4, vI x5, w6, w7] [] h K := by
  obtain ⟨c1, H⟩ := H
  refine X_b 6 26 (L := L_99) rfl rfl rfl ?_
  show (0 ≤ x4 ∧ x4 < 9) ∧ X 99 26 [vR 4, vI x1, vI x2, vI x3, vI x4, vI x5, w6, w7] [vI (h 8 x4), vI x5] h _
  refine ⟨c1, ?_⟩
  refine X_icmp (L := L_99) (n' := 64) rfl rfl rfl rfl (fun z2 => ?_) (fun z2 => ?_)
  · have z2 : h 8 x4 < x5 := z2
    replace H := H.1 z2
    show X 99 64 [vR 4, vI x1, vI x2, vI x3, vI x4, vI x5, w6, w7] [] h _
    obtain ⟨c3, H⟩ := H
    refine X_b 1 65 (L := L_99) rfl rfl rfl ?_
    show (-2147483648 ≤ x4 + 1 ∧ x4 + 1 ≤ 2147483647) ∧ X 99 65 [vR 4, vI x1, vI x2, vI x3, vI (x4 + 1), vI x5, w6, w7] [] h _
    refine ⟨c3, ?_⟩
    refine X_goto (L := L_99) (n' := 13) rfl rfl rfl rfl ?_
    show X 99 13 [vR 4, vI x1, vI x2, vI x3, vI (x4 + 1), vI x5, w6, w7] [] h _
    exact H
  · have z2 : x5 ≤ h 8 x4 := (Int.not_lt.mp z2)
    replace H := H.2 z2
    show X 99 27 [vR 4, vI x1, vI x2, vI x3, vI x4, vI x5, w6, w7] [] h _
    obtain ⟨⟨c4, c5, c6, c7, c8, c9, c10⟩, H⟩ := H
    refine X_b 5 32 (L := L_99) rfl rfl rfl ?_
    show X 99 32 [vR 4, vI x1, vI x2, vI x3, vI x4, vI x5, w6, w7] [vI x5, vI x4, vI x3, vR 2] h _
    refine X_call 80 [vR 2, vI x3, vI x4, vI x5] [] rfl (sg_calv rfl rfl rfl rfl rfl rfl rfl rfl rfl rfl rfl) (by decide) ?_
    show X 80 0 [vR 2, vI x3, vI x4, vI x5] [] h _
    refine X_b 7 7 (L := L_80) rfl rfl rfl ?_
    show (-2147483648 ≤ x3 * 45 ∧ x3 * 45 ≤ 2147483647) ∧ X 80 7 [vR 2, vI x3, vI x4, vI x5] [vI x5, vI x4, vI (x3 * 45), vR 13] h _
    refine ⟨c4, ?_⟩
    refine X_call 27 [vI x4, vI x5] [vI (x3 * 45), vR 13] rfl (sg_cals rfl rfl rfl rfl rfl rfl rfl rfl rfl rfl) (by decide) ?_
    show X 27 0 [vI x4, vI x5] [] h _
    refine X_b 5 5 (L := L_27) rfl rfl rfl ?_
    show (-2147483648 ≤ x4 * 5 ∧ x4 * 5 ≤ 2147483647) ∧ (-2147483648 ≤ (x4 * 5) + x5 ∧ (x4 * 5) + x5 ≤ 2147483647) ∧ X 27 5 [vI x4, vI x5] [vI ((x4 * 5) + x5)] h _
    refine ⟨c5, c6, ?_⟩
    refine X_iret (L := L_27) rfl rfl rfl rfl ?_
    show X 80 8 [vR 2, vI x3, vI x4, vI x5] [vI ((x4 * 5) + x5), vI (x3 * 45), vR 13] h _
    refine X_b 2 10 (L := L_80) rfl rfl rfl ?_
    show (-2147483648 ≤ (x3 * 45) + ((x4 * 5) + x5) ∧ (x3 * 45) + ((x4 * 5) + x5) ≤ 2147483647) ∧ (0 ≤ (x3 * 45) + ((x4 * 5) + x5) ∧ (x3 * 45) + ((x4 * 5) + x5) < 2250) ∧ X 80 10 [vR 2, vI x3, vI x4, vI x5] [vI (h 13 ((x3 * 45) + ((x4 * 5) + x5)))] h _
    refine ⟨by have := c7; omega, c7, ?_⟩
    refine X_iret (L := L_80) rfl rfl rfl rfl ?_
    show X 99 33 [vR 4, vI x1, vI x2, vI x3, vI x4, vI x5, w6, w7] [vI (h 13 ((x3 * 45) + ((x4 * 5) + x5)))] h _
    refine X_b 7 40 (L := L_99) rfl rfl rfl ?_
    show (-2147483648 ≤ x5 - 1 ∧ x5 - 1 ≤ 2147483647) ∧ X 99 40 [vR 4, vI x1, vI x2, vI x3, vI x4, vI x5, vI (h 13 ((x3 * 45) + ((x4 * 5) + x5))), w7] [vI (x5 - 1), vI x4, vR 1] h _
    refine ⟨c8, ?_⟩
    refine X_call 111 [vR 1, vI x4, vI (x5 - 1)] [] rfl (sg_calv rfl rfl rfl rfl rfl rfl rfl rfl rfl rfl rfl) (by decide) ?_
    show X 111 0 [vR 1, vI x4, vI (x5 - 1)] [] h _
    refine X_b 8 8 (L := L_111) rfl rfl rfl ?_
    show (-2147483648 ≤ x4 * 4 ∧ x4 * 4 ≤ 2147483647) ∧ (-2147483648 ≤ (x4 * 4) + (x5 - 1) ∧ (x4 * 4) + (x5 - 1) ≤ 2147483647) ∧ (0 ≤ (x4 * 4) + (x5 - 1) ∧ (x4 * 4) + (x5 - 1) < 36) ∧ X 111 8 [vR 1, vI x4, vI (x5 - 1)] [vI (h 9 ((x4 * 4) + (x5 - 1)))] h _
    refine ⟨c9, by have := c10; omega, c10, ?_⟩
    refine X_iret (L := L_111) rfl rfl rfl rfl ?_
    show X 99 41 [vR 4, vI x1, vI x2, vI x3, vI x4, vI x5, vI (h 13 ((x3 * 45) + ((x4 * 5) + x5))), w7] [vI (h 9 ((x4 * 4) + (x5 - 1)))] h _
    refine X_b 1 42 (L := L_99) rfl rfl rfl ?_
    show X 99 42 [vR 4, vI x1, vI x2, vI x3, vI x4, vI x5, vI (h 13 ((x3 * 45) + ((x4 * 5) + x5))), w7] [vI x2, vI (h 9 ((x4 * 4) + (x5 - 1)))] h _
    refine X_icmp (L := L_99) (n' := 52) rfl rfl rfl rfl (fun z11 => ?_) (fun z11 => ?_)
    · have z11 : ¬ h 9 ((x4 * 4) + (x5 - 1)) = x2 := z11
      replace H := H.1 z11
      show X 99 52 [vR 4, vI x1, vI x2, vI x3, vI x4, vI x5, vI (h 13 ((x3 * 45) + ((x4 * 5) + x5))), w7] [] h _
      refine X_b 7 59 (L := L_99) rfl rfl rfl ?_
      show X 99 59 [vR 4, vI x1, vI x2, vI x3, vI x4, vI x5, vI (h 13 ((x3 * 45) + ((x4 * 5) + x5))), vI 0] [vI (b_and (h 13 ((x3 * 45) + ((x4 * 5) + x5))) (b_xor 0 (-1)))] h _
      refine X_if (L := L_99) (n' := 62) rfl rfl rfl rfl (fun z12 => ?_) (fun z12 => ?_)
      · have z12 : b_and (h 13 ((x3 * 45) + ((x4 * 5) + x5))) (b_xor 0 (-1)) = 0 := z12
        replace H := H.1 z12
        show X 99 62 [vR 4, vI x1, vI x2, vI x3, vI x4, vI x5, vI (h 13 ((x3 * 45) + ((x4 * 5) + x5))), vI 0] [] h _
        obtain ⟨c13, H⟩ := H
        refine X_b 1 63 (L := L_99) rfl rfl rfl ?_
        show (-2147483648 ≤ x5 + 1 ∧ x5 + 1 ≤ 2147483647) ∧ X 99 63 [vR 4, vI x1, vI x2, vI x3, vI x4, vI (x5 + 1), vI (h 13 ((x3 * 45) + ((x4 * 5) + x5))), vI 0] [] h _
        refine ⟨c13, ?_⟩
        refine X_goto (L := L_99) (n' := 20) rfl rfl rfl rfl ?_
        show X 99 20 [vR 4, vI x1, vI x2, vI x3, vI x4, vI (x5 + 1), vI (h 13 ((x3 * 45) + ((x4 * 5) + x5))), vI 0] [] h _
        exact H
      · have z12 : ¬ b_and (h 13 ((x3 * 45) + ((x4 * 5) + x5))) (b_xor 0 (-1)) = 0 := z12
        replace H := H.2 z12
        show X 99 60 [vR 4, vI x1, vI x2, vI x3, vI x4, vI x5, vI (h 13 ((x3 * 45) + ((x4 * 5) + x5))), vI 0] [] h _
        refine X_b 1 61 (L := L_99) rfl rfl rfl ?_
        show X 99 61 [vR 4, vI x1, vI x2, vI x3, vI x4, vI x5, vI (h 13 ((x3 * 45) + ((x4 * 5) + x5))), vI 0] [vI 1] h _
        refine X_zret (L := L_99) rfl rfl rfl rfl (by decide) ?_
        exact H
    · have z11 : h 9 ((x4 * 4) + (x5 - 1)) = x2 := (Classical.not_not.mp z11)
      replace H := H.2 z11
      show X 99 43 [vR 4, vI x1, vI x2, vI x3, vI x4, vI x5, vI (h 13 ((x3 * 45) + ((x4 * 5) + x5))), w7] [] h _
      obtain ⟨⟨c14, c15, c16⟩, H⟩ := H
      refine X_b 7 50 (L := L_99) rfl rfl rfl ?_
      show (-2147483648 ≤ x5 - 1 ∧ x5 - 1 ≤ 2147483647) ∧ X 99 50 [vR 4, vI x1, vI x2, vI x3, vI x4, vI x5, vI (h 13 ((x3 * 45) + ((x4 * 5) + x5))), w7] [vI (x5 - 1), vI x4, vI x1, vR 2] h _
      refine ⟨c8, ?_⟩
      refine X_call 80 [vR 2, vI x1, vI x4, vI (x5 - 1)] [] rfl (sg_calv rfl rfl rfl rfl rfl rfl rfl rfl rfl rfl rfl) (by decide) ?_
      show X 80 0 [vR 2, vI x1, vI x4, vI (x5 - 1)] [] h _
      refine X_b 7 7 (L := L_80) rfl rfl rfl ?_
      show (-2147483648 ≤ x1 * 45 ∧ x1 * 45 ≤ 2147483647) ∧ X 80 7 [vR 2, vI x1, vI x4, vI (x5 - 1)] [vI (x5 - 1), vI x4, vI (x1 * 45), vR 13] h _
      refine ⟨c14, ?_⟩
      refine X_call 27 [vI x4, vI (x5 - 1)] [vI (x1 * 45), vR 13] rfl (sg_cals rfl rfl rfl rfl rfl rfl rfl rfl rfl rfl) (by decide) ?_
      show X 27 0 [vI x4, vI (x5 - 1)] [] h _
      refine X_b 5 5 (L := L_27) rfl rfl rfl ?_
      show (-2147483648 ≤ x4 * 5 ∧ x4 * 5 ≤ 2147483647) ∧ (-2147483648 ≤ (x4 * 5) + (x5 - 1) ∧ (x4 * 5) + (x5 - 1) ≤ 2147483647) ∧ X 27 5 [vI x4, vI (x5 - 1)] [vI ((x4 * 5) + (x5 - 1))] h _
      refine ⟨c5, c15, ?_⟩
      refine X_iret (L := L_27) rfl rfl rfl rfl ?_
      show X 80 8 [vR 2, vI x1, vI x4, vI (x5 - 1)] [vI ((x4 * 5) + (x5 - 1)), vI (x1 * 45), vR 13] h _
      refine X_b 2 10 (L := L_80) rfl rfl rfl ?_
      show (-2147483648 ≤ (x1 * 45) + ((x4 * 5) + (x5 - 1)) ∧ (x1 * 45) + ((x4 * 5) + (x5 - 1)) ≤ 2147483647) ∧ (0 ≤ (x1 * 45) + ((x4 * 5) + (x5 - 1)) ∧ (x1 * 45) + ((x4 * 5) + (x5 - 1)) < 2250) ∧ X 80 10 [vR 2, vI x1, vI x4, vI (x5 - 1)] [vI (h 13 ((x1 * 45) + ((x4 * 5) + (x5 - 1))))] h _
      refine ⟨by have := c16; omega, c16, ?_⟩
      refine X_iret (L := L_80) rfl rfl rfl rfl ?_
      show X 99 51 [vR 4, vI x1, vI x2, vI x3, vI x4, vI x5, vI (h 13 ((x3 * 45) + ((x4 * 5) + x5))), w7] [vI (h 13 ((x1 * 45) + ((x4 * 5) + (x5 - 1))))] h _
      refine X_goto (L := L_99) (n' := 53) rfl rfl rfl rfl ?_
      show X 99 53 [vR 4, vI x1, vI x2, vI x3, vI x4, vI x5, vI (h 13 ((x3 * 45) + ((x4 * 5) + x5))), w7] [vI (h 13 ((x1 * 45) + ((x4 * 5) + (x5 - 1))))] h _
      refine X_b 6 59 (L := L_99) rfl rfl rfl ?_
      show X 99 59 [vR 4, vI x1, vI x2, vI x3, vI x4, vI x5, vI (h 13 ((x3 * 45) + ((x4 * 5) + x5))), vI (h 13 ((x1 * 45) + ((x4 * 5) + (x5 - 1))))] [vI (b_and (h 13 ((x3 * 45) + ((x4 * 5) + x5))) (b_xor (h 13 ((x1 * 45) + ((x4 * 5) + (x5 - 1)))) (-1)))] h _
      refine X_if (L := L_99) (n' := 62) rfl rfl rfl rfl (fun z17 => ?_) (fun z17 => ?_)
      · have z17 : b_and (h 13 ((x3 * 45) + ((x4 * 5) + x5))) (b_xor (h 13 ((x1 * 45) + ((x4 * 5) + (x5 - 1)))) (-1)) = 0 := z17
        replace H := H.1 z17
        show X 99 62 [vR 4, vI x1, vI x2, vI x3, vI x4, vI x5, vI (h 13 ((x3 * 45) + ((x4 * 5) + x5))), vI (h 13 ((x1 * 45) + ((x4 * 5) + (x5 - 1))))] [] h _
        obtain ⟨c18, H⟩ := H
        refine X_b 1 63 (L := L_99) rfl rfl rfl ?_
        show (-2147483648 ≤ x5 + 1 ∧ x5 + 1 ≤ 2147483647) ∧ X 99 63 [vR 4, vI x1, vI x2, vI x3, vI x4, vI (x5 + 1), vI (h 13 ((x3 * 45) + ((x4 * 5) + x5))), vI (h 13 ((x1 * 45) + ((x4 * 5) + (x5 - 1))))] [] h _
        refine ⟨c18, ?_⟩
        refine X_goto (L := L_99) (n' := 20) rfl rfl rfl rfl ?_
        show X 99 20 [vR 4, vI x1, vI x2, vI x3, vI x4, vI (x5 + 1), vI (h 13 ((x3 * 45) + ((x4 * 5) + x5))), vI (h 13 ((x1 * 45) + ((x4 * 5) + (x5 - 1))))] [] h _
        exact H
      · have z17 : ¬ b_and (h 13 ((x3 * 45) + ((x4 * 5) + x5))) (b_xor (h 13 ((x1 * 45) + ((x4 * 5) + (x5 - 1)))) (-1)) = 0 := z17
        replace H := H.2 z17
        show X 99 60 [vR 4, vI x1, vI x2, vI x3, vI x4, vI x5, vI (h 13 ((x3 * 45) + ((x4 * 5) + x5))), vI (h 13 ((x1 * 45) + ((x4 * 5) + (x5 - 1))))] [] h _
        refine X_b 1 61 (L := L_99) rfl rfl rfl ?_
        show X 99 61 [vR 4, vI x1, vI x2, vI x3, vI x4, vI x5, vI (h 13 ((x3 * 45) + ((x4 * 5) + x5))), vI (h 13 ((x1 * 45) + ((x4 * 5) + (x5 - 1))))] [vI 1] h _
        refine X_zret (L := L_99) rfl rfl rfl rfl (by decide) ?_
        exact H

set_option maxRecDepth 8192 in
/-- Checker.isBold, row 0 -/
theorem s_100_0 (x1 x2 : Int) (h : ab_S) (K : ab_O → ab_S → Prop) (H : ((-2147483648 ≤ x1 * 10 ∧ x1 * 10 ≤ 2147483647) ∧ (0 ≤ (x1 * 10) + x2 ∧ (x1 * 10) + x2 < 500)) ∧ ((¬ h 12 ((x1 * 10) + x2) = (-1) → ((h 12 ((x1 * 10) + x2) < 0 → ((x2 < 0 → ((¬ h 12 ((x1 * 10) + x2) = 200 → ((0 ≤ (h 12 ((x1 * 10) + x2)) - 100 ∧ (h 12 ((x1 * 10) + x2)) - 100 < 9) ∧ (-2147483648 ≤ x1 * 45 ∧ x1 * 45 ≤ 2147483647) ∧ (-2147483648 ≤ ((h 12 ((x1 * 10) + x2)) - 100) * 5 ∧ ((h 12 ((x1 * 10) + x2)) - 100) * 5 ≤ 2147483647) ∧ (-2147483648 ≤ (((h 12 ((x1 * 10) + x2)) - 100) * 5) + (h 8 ((h 12 ((x1 * 10) + x2)) - 100)) ∧ (((h 12 ((x1 * 10) + x2)) - 100) * 5) + (h 8 ((h 12 ((x1 * 10) + x2)) - 100)) ≤ 2147483647) ∧ (0 ≤ (x1 * 45) + ((((h 12 ((x1 * 10) + x2)) - 100) * 5) + (h 8 ((h 12 ((x1 * 10) + x2)) - 100))) ∧ (x1 * 45) + ((((h 12 ((x1 * 10) + x2)) - 100) * 5) + (h 8 ((h 12 ((x1 * 10) + x2)) - 100))) < 2250) ∧ (-2147483648 ≤ x2 - 4 ∧ x2 - 4 ≤ 2147483647)) ∧ ((b_and (h 13 ((x1 * 45) + ((((h 12 ((x1 * 10) + x2)) - 100) * 5) + (h 8 ((h 12 ((x1 * 10) + x2)) - 100))))) (b_shl 1 (x2 - 4)) = 0 → K (oI 1) h) ∧ (¬ b_and (h 13 ((x1 * 45) + ((((h 12 ((x1 * 10) + x2)) - 100) * 5) + (h 8 ((h 12 ((x1 * 10) + x2)) - 100))))) (b_shl 1 (x2 - 4)) = 0 → K (oI 0) h))) ∧ (h 12 ((x1 * 10) + x2) = 200 → ((¬ x2 = 9 → K (oI 1) h) ∧ (x2 = 9 → ((-2147483648 ≤ x1 * 45 ∧ x1 * 45 ≤ 2147483647) ∧ (-2147483648 ≤ (h 1 0) * 5 ∧ (h 1 0) * 5 ≤ 2147483647) ∧ (-2147483648 ≤ ((h 1 0) * 5) + 1 ∧ ((h 1 0) * 5) + 1 ≤ 2147483647) ∧ (0 ≤ (x1 * 45) + (((h 1 0) * 5) + 1) ∧ (x1 * 45) + (((h 1 0) * 5) + 1) < 2250)) ∧ ((b_and (h 13 ((x1 * 45) + (((h 1 0) * 5) + 1))) (b_shl 1 5) = 0 → K (oI 1) h) ∧ (¬ b_and (h 13 ((x1 * 45) + (((h 1 0) * 5) + 1))) (b_shl 1 5) = 0 → K (oI 0) h))))))) ∧ (0 ≤ x2 → ((4 ≤ x2 → ((¬ h 12 ((x1 * 10) + x2) = 200 → ((0 ≤ (h 12 ((x1 * 10) + x2)) - 100 ∧ (h 12 ((x1 * 10) + x2)) - 100 < 9) ∧ (-2147483648 ≤ x1 * 45 ∧ x1 * 45 ≤ 2147483647) ∧ (-2147483648 ≤ ((h 12 ((x1 * 10) + x2)) - 100) * 5 ∧ ((h 12 ((x1 * 10) + x2)) - 100) * 5 ≤ 2147483647) ∧ (-2147483648 ≤ (((h 12 ((x1 * 10) + x2)) - 100) * 5) + (h 8 ((h 12 ((x1 * 10) + x2)) - 100)) ∧ (((h 12 ((x1 * 10) + x2)) - 100) * 5) + (h 8 ((h 12 ((x1 * 10) + x2)) - 100)) ≤ 2147483647) ∧ (0 ≤ (x1 * 45) + ((((h 12 ((x1 * 10) + x2)) - 100) * 5) + (h 8 ((h 12 ((x1 * 10) + x2)) - 100))) ∧ (x1 * 45) + ((((h 12 ((x1 * 10) + x2)) - 100) * 5) + (h 8 ((h 12 ((x1 * 10) + x2)) - 100))) < 2250) ∧ (-2147483648 ≤ x2 - 4 ∧ x2 - 4 ≤ 2147483647)) ∧ ((b_and (h 13 ((x1 * 45) + ((((h 12 ((x1 * 10) + x2)) - 100) * 5) + (h 8 ((h 12 ((x1 * 10) + x2)) - 100))))) (b_shl 1 (x2 - 4)) = 0 → K (oI 1) h) ∧ (¬ b_and (h 13 ((x1 * 45) + ((((h 12 ((x1 * 10) + x2)) - 100) * 5) + (h 8 ((h 12 ((x1 * 10) + x2)) - 100))))) (b_shl 1 (x2 - 4)) = 0 → K (oI 0) h))) ∧ (h 12 ((x1 * 10) + x2) = 200 → ((¬ x2 = 9 → K (oI 1) h) ∧ (x2 = 9 → ((-2147483648 ≤ x1 * 45 ∧ x1 * 45 ≤ 2147483647) ∧ (-2147483648 ≤ (h 1 0) * 5 ∧ (h 1 0) * 5 ≤ 2147483647) ∧ (-2147483648 ≤ ((h 1 0) * 5) + 1 ∧ ((h 1 0) * 5) + 1 ≤ 2147483647) ∧ (0 ≤ (x1 * 45) + (((h 1 0) * 5) + 1) ∧ (x1 * 45) + (((h 1 0) * 5) + 1) < 2250)) ∧ ((b_and (h 13 ((x1 * 45) + (((h 1 0) * 5) + 1))) (b_shl 1 5) = 0 → K (oI 1) h) ∧ (¬ b_and (h 13 ((x1 * 45) + (((h 1 0) * 5) + 1))) (b_shl 1 5) = 0 → K (oI 0) h))))))) ∧ (x2 < 4 → K (oI 1) h))))) ∧ (0 ≤ h 12 ((x1 * 10) + x2) → ((50 ≤ h 12 ((x1 * 10) + x2) → ((x2 < 0 → ((¬ h 12 ((x1 * 10) + x2) = 200 → ((0 ≤ (h 12 ((x1 * 10) + x2)) - 100 ∧ (h 12 ((x1 * 10) + x2)) - 100 < 9) ∧ (-2147483648 ≤ x1 * 45 ∧ x1 * 45 ≤ 2147483647) ∧ (-2147483648 ≤ ((h 12 ((x1 * 10) + x2)) - 100) * 5 ∧ ((h 12 ((x1 * 10) + x2)) - 100) * 5 ≤ 2147483647) ∧ (-2147483648 ≤ (((h 12 ((x1 * 10) + x2)) - 100) * 5) + (h 8 ((h 12 ((x1 * 10) + x2)) - 100)) ∧ (((h 12 ((x1 * 10) + x2)) - 100) * 5) + (h 8 ((h 12 ((x1 * 10) + x2)) - 100)) ≤ 2147483647) ∧ (0 ≤ (x1 * 45) + ((((h 12 ((x1 * 10) + x2)) - 100) * 5) + (h 8 ((h 12 ((x1 * 10) + x2)) - 100))) ∧ (x1 * 45) + ((((h 12 ((x1 * 10) + x2)) - 100) * 5) + (h 8 ((h 12 ((x1 * 10) + x2)) - 100))) < 2250) ∧ (-2147483648 ≤ x2 - 4 ∧ x2 - 4 ≤ 2147483647)) ∧ ((b_and (h 13 ((x1 * 45) + ((((h 12 ((x1 * 10) + x2)) - 100) * 5) + (h 8 ((h 12 ((x1 * 10) + x2)) - 100))))) (b_shl 1 (x2 - 4)) = 0 → K (oI 1) h) ∧ (¬ b_and (h 13 ((x1 * 45) + ((((h 12 ((x1 * 10) + x2)) - 100) * 5) + (h 8 ((h 12 ((x1 * 10) + x2)) - 100))))) (b_shl 1 (x2 - 4)) = 0 → K (oI 0) h))) ∧ (h 12 ((x1 * 10) + x2) = 200 → ((¬ x2 = 9 → K (oI 1) h) ∧ (x2 = 9 → ((-2147483648 ≤ x1 * 45 ∧ x1 * 45 ≤ 2147483647) ∧ (-2147483648 ≤ (h 1 0) * 5 ∧ (h 1 0) * 5 ≤ 2147483647) ∧ (-2147483648 ≤ ((h 1 0) * 5) + 1 ∧ ((h 1 0) * 5) + 1 ≤ 2147483647) ∧ (0 ≤ (x1 * 45) + (((h 1 0) * 5) + 1) ∧ (x1 * 45) + (((h 1 0) * 5) + 1) < 2250)) ∧ ((b_and (h 13 ((x1 * 45) + (((h 1 0) * 5) + 1))) (b_shl 1 5) = 0 → K (oI 1) h) ∧ (¬ b_and (h 13 ((x1 * 45) + (((h 1 0) * 5) + 1))) (b_shl 1 5) = 0 → K (oI 0) h))))))) ∧ (0 ≤ x2 → ((4 ≤ x2 → ((¬ h 12 ((x1 * 10) + x2) = 200 → ((0 ≤ (h 12 ((x1 * 10) + x2)) - 100 ∧ (h 12 ((x1 * 10) + x2)) - 100 < 9) ∧ (-2147483648 ≤ x1 * 45 ∧ x1 * 45 ≤ 2147483647) ∧ (-2147483648 ≤ ((h 12 ((x1 * 10) + x2)) - 100) * 5 ∧ ((h 12 ((x1 * 10) + x2)) - 100) * 5 ≤ 2147483647) ∧ (-2147483648 ≤ (((h 12 ((x1 * 10) + x2)) - 100) * 5) + (h 8 ((h 12 ((x1 * 10) + x2)) - 100)) ∧ (((h 12 ((x1 * 10) + x2)) - 100) * 5) + (h 8 ((h 12 ((x1 * 10) + x2)) - 100)) ≤ 2147483647) ∧ (0 ≤ (x1 * 45) + ((((h 12 ((x1 * 10) + x2)) - 100) * 5) + (h 8 ((h 12 ((x1 * 10) + x2)) - 100))) ∧ (x1 * 45) + ((((h 12 ((x1 * 10) + x2)) - 100) * 5) + (h 8 ((h 12 ((x1 * 10) + x2)) - 100))) < 2250) ∧ (-2147483648 ≤ x2 - 4 ∧ x2 - 4 ≤ 2147483647)) ∧ ((b_and (h 13 ((x1 * 45) + ((((h 12 ((x1 * 10) + x2)) - 100) * 5) + (h 8 ((h 12 ((x1 * 10) + x2)) - 100))))) (b_shl 1 (x2 - 4)) = 0 → K (oI 1) h) ∧ (¬ b_and (h 13 ((x1 * 45) + ((((h 12 ((x1 * 10) + x2)) - 100) * 5) + (h 8 ((h 12 ((x1 * 10) + x2)) - 100))))) (b_shl 1 (x2 - 4)) = 0 → K (oI 0) h))) ∧ (h 12 ((x1 * 10) + x2) = 200 → ((¬ x2 = 9 → K (oI 1) h) ∧ (x2 = 9 → ((-2147483648 ≤ x1 * 45 ∧ x1 * 45 ≤ 2147483647) ∧ (-2147483648 ≤ (h 1 0) * 5 ∧ (h 1 0) * 5 ≤ 2147483647) ∧ (-2147483648 ≤ ((h 1 0) * 5) + 1 ∧ ((h 1 0) * 5) + 1 ≤ 2147483647) ∧ (0 ≤ (x1 * 45) + (((h 1 0) * 5) + 1) ∧ (x1 * 45) + (((h 1 0) * 5) + 1) < 2250)) ∧ ((b_and (h 13 ((x1 * 45) + (((h 1 0) * 5) + 1))) (b_shl 1 5) = 0 → K (oI 1) h) ∧ (¬ b_and (h 13 ((x1 * 45) + (((h 1 0) * 5) + 1))) (b_shl 1 5) = 0 → K (oI 0) h))))))) ∧ (x2 < 4 → K (oI 1) h))))) ∧ (h 12 ((x1 * 10) + x2) < 50 → ((h 12 ((x1 * 10) + x2) = 0 → K (oI 1) h) ∧ (¬ h 12 ((x1 * 10) + x2) = 0 → ((¬ x2 = 9 → K (oI 0) h) ∧ (x2 = 9 → K (oI 1) h))))))))) ∧ (h 12 ((x1 * 10) + x2) = (-1) → K (oI 0) h))) : C 100 [vR 4, vI x1, vI x2] h K := by
  show X 100 0 [vR 4, vI x1, vI x2, vJ 0, vJ 0] [] h K
  obtain ⟨⟨c1, c2⟩, H⟩ := H
  refine X_b 4 4 (L := L_100) rfl rfl rfl ?_
  show X 100 4 [vR 4, vI x1, vI x2, vJ 0, vJ 0] [vI x2, vI x1, vR 2] h _
  refine X_call 78 [vR 2, vI x1, vI x2] [] rfl (sg_calv rfl rfl rfl rfl rfl rfl rfl rfl rfl rfl rfl) (by decide) ?_
  show X 78 0 [vR 2, vI x1, vI x2] [] h _
  refine X_b 8 8 (L := L_78) rfl rfl rfl ?_
  show (-2147483648 ≤ x1 * 10 ∧ x1 * 10 ≤ 2147483647) ∧ (-2147483648 ≤ (x1 * 10) + x2 ∧ (x1 * 10) + x2 ≤ 2147483647) ∧ (0 ≤ (x1 * 10) + x2 ∧ (x1 * 10) + x2 < 500) ∧ X 78 8 [vR 2, vI x1, vI x2] [vI (h 12 ((x1 * 10) + x2))] h _
  refine ⟨c1, by have := c2; omega, c2, ?_⟩
  refine X_iret (L := L_78) rfl rfl rfl rfl ?_
  show X 100 5 [vR 4, vI x1, vI x2, vJ 0, vJ 0] [vI (h 12 ((x1 * 10) + x2))] h _
  refine X_b 3 8 (L := L_100) rfl rfl rfl ?_
  show X 100 8 [vR 4, vI x1, vI x2, vI (h 12 ((x1 * 10) + x2)), vJ 0] [vI (-1), vI (h 12 ((x1 * 10) + x2))] h _
  refine X_icmp (L := L_100) (n' := 11) rfl rfl rfl rfl (fun z3 => ?_) (fun z3 => ?_)
  · have z3 : ¬ h 12 ((x1 * 10) + x2) = (-1) := z3
    replace H := H.1 z3
    show X 100 11 [vR 4, vI x1, vI x2, vI (h 12 ((x1 * 10) + x2)), vJ 0] [] h _
    refine X_b 1 12 (L := L_100) rfl rfl rfl ?_
    show X 100 12 [vR 4, vI x1, vI x2, vI (h 12 ((x1 * 10) + x2)), vJ 0] [vI (h 12 ((x1 * 10) + x2))] h _
    refine X_call 25 [vI (h 12 ((x1 * 10) + x2))] [] rfl (sg_cals rfl rfl rfl rfl rfl rfl rfl rfl rfl rfl) (by decide) ?_
    show X 25 0 [vI (h 12 ((x1 * 10) + x2))] [] h _
    refine X_b 1 1 (L := L_25) rfl rfl rfl ?_
    show X 25 1 [vI (h 12 ((x1 * 10) + x2))] [vI (h 12 ((x1 * 10) + x2))] h _
    refine X_if (L := L_25) (n' := 7) rfl rfl rfl rfl (fun z4 => ?_) (fun z4 => ?_)
    · have z4 : h 12 ((x1 * 10) + x2) < 0 := z4
      replace H := H.1 z4
      show X 25 7 [vI (h 12 ((x1 * 10) + x2))] [] h _
      refine X_b 1 8 (L := L_25) rfl rfl rfl ?_
      show X 25 8 [vI (h 12 ((x1 * 10) + x2))] [vI 0] h _
      refine X_zret (L := L_25) rfl rfl rfl rfl (by decide) ?_
      show X 100 13 [vR 4, vI x1, vI x2, vI (h 12 ((x1 * 10) + x2)), vJ 0] [vI 0] h _
      refine X_if (L := L_100) (n' := 23) rfl rfl rfl rfl (fun _ => ?_) (fun z => absurd (show (0 : Int) = (0 : Int) by decide) z)
      show X 100 23 [vR 4, vI x1, vI x2, vI (h 12 ((x1 * 10) + x2)), vJ 0] [] h _
      refine X_b 1 24 (L := L_100) rfl rfl rfl ?_
      show X 100 24 [vR 4, vI x1, vI x2, vI (h 12 ((x1 * 10) + x2)), vJ 0] [vI x2] h _
      refine X_call 23 [vI x2] [] rfl (sg_cals rfl rfl rfl rfl rfl rfl rfl rfl rfl rfl) (by decide) ?_
      show X 23 0 [vI x2] [] h _
      refine X_b 1 1 (L := L_23) rfl rfl rfl ?_
      show X 23 1 [vI x2] [vI x2] h _
      refine X_if (L := L_23) (n' := 7) rfl rfl rfl rfl (fun z5 => ?_) (fun z5 => ?_)
      · have z5 : x2 < 0 := z5
        replace H := H.1 z5
        show X 23 7 [vI x2] [] h _
        refine X_b 1 8 (L := L_23) rfl rfl rfl ?_
        show X 23 8 [vI x2] [vI 0] h _
        refine X_zret (L := L_23) rfl rfl rfl rfl (by decide) ?_
        show X 100 25 [vR 4, vI x1, vI x2, vI (h 12 ((x1 * 10) + x2)), vJ 0] [vI 0] h _
        refine X_if (L := L_100) (n' := 28) rfl rfl rfl rfl (fun _ => ?_) (fun z => absurd (show (0 : Int) = (0 : Int) by decide) z)
        show X 100 28 [vR 4, vI x1, vI x2, vI (h 12 ((x1 * 10) + x2)), vJ 0] [] h _
        refine X_b 2 30 (L := L_100) rfl rfl rfl ?_
        show X 100 30 [vR 4, vI x1, vI x2, vI (h 12 ((x1 * 10) + x2)), vJ 0] [vI 200, vI (h 12 ((x1 * 10) + x2))] h _
        refine X_icmp (L := L_100) (n' := 48) rfl rfl rfl rfl (fun z6 => ?_) (fun z6 => ?_)
        · have z6 : ¬ h 12 ((x1 * 10) + x2) = 200 := z6
          replace H := H.1 z6
          show X 100 48 [vR 4, vI x1, vI x2, vI (h 12 ((x1 * 10) + x2)), vJ 0] [] h _
          obtain ⟨⟨c7, c8, c9, c10, c11, c12⟩, H⟩ := H
          refine X_b 14 62 (L := L_100) rfl rfl rfl ?_
          show (-2147483648 ≤ (h 12 ((x1 * 10) + x2)) - 100 ∧ (h 12 ((x1 * 10) + x2)) - 100 ≤ 2147483647) ∧ (0 ≤ (h 12 ((x1 * 10) + x2)) - 100 ∧ (h 12 ((x1 * 10) + x2)) - 100 < 9) ∧ X 100 62 [vR 4, vI x1, vI x2, vI (h 12 ((x1 * 10) + x2)), vI ((h 12 ((x1 * 10) + x2)) - 100)] [vI x2, vI (h 8 ((h 12 ((x1 * 10) + x2)) - 100)), vI ((h 12 ((x1 * 10) + x2)) - 100), vI x1, vR 2] h _
          refine ⟨by have := c7; omega, c7, ?_⟩
          refine X_call 81 [vR 2, vI x1, vI ((h 12 ((x1 * 10) + x2)) - 100), vI (h 8 ((h 12 ((x1 * 10) + x2)) - 100)), vI x2] [] rfl (sg_calv rfl rfl rfl rfl rfl rfl rfl rfl rfl rfl rfl) (by decide) ?_
          show X 81 0 [vR 2, vI x1, vI ((h 12 ((x1 * 10) + x2)) - 100), vI (h 8 ((h 12 ((x1 * 10) + x2)) - 100)), vI x2] [] h _
          refine X_b 4 4 (L := L_81) rfl rfl rfl ?_
          show X 81 4 [vR 2, vI x1, vI ((h 12 ((x1 * 10) + x2)) - 100), vI (h 8 ((h 12 ((x1 * 10) + x2)) - 100)), vI x2] [vI (h 8 ((h 12 ((x1 * 10) + x2)) - 100)), vI ((h 12 ((x1 * 10) + x2)) - 100), vI x1, vR 2] h _
          refine X_call 80 [vR 2, vI x1, vI ((h 12 ((x1 * 10) + x2)) - 100), vI (h 8 ((h 12 ((x1 * 10) + x2)) - 100))] [] rfl (sg_calv rfl rfl rfl rfl rfl rfl rfl rfl rfl rfl rfl) (by decide) ?_
          show X 80 0 [vR 2, vI x1, vI ((h 12 ((x1 * 10) + x2)) - 100), vI (h 8 ((h 12 ((x1 * 10) + x2)) - 100))] [] h _
          refine X_b 7 7 (L := L_80) rfl rfl rfl ?_
          show (-2147483648 ≤ x1 * 45 ∧ x1 * 45 ≤ 2147483647) ∧ X 80 7 [vR 2, vI x1, vI ((h 12 ((x1 * 10) + x2)) - 100), vI (h 8 ((h 12 ((x1 * 10) + x2)) - 100))] [vI (h 8 ((h 12 ((x1 * 10) + x2)) - 100)), vI ((h 12 ((x1 * 10) + x2)) - 100), vI (x1 * 45), vR 13] h _
          refine ⟨c8, ?_⟩
          refine X_call 27 [vI ((h 12 ((x1 * 10) + x2)) - 100), vI (h 8 ((h 12 ((x1 * 10) + x2)) - 100))] [vI (x1 * 45), vR 13] rfl (sg_cals rfl rfl rfl rfl rfl rfl rfl rfl rfl rfl) (by decide) ?_
          show X 27 0 [vI ((h 12 ((x1 * 10) + x2)) - 100), vI (h 8 ((h 12 ((x1 * 10) + x2)) - 100))] [] h _
          refine X_b 5 5 (L := L_27) rfl rfl rfl ?_
          show (-2147483648 ≤ ((h 12 ((x1 * 10) + x2)) - 100) * 5 ∧ ((h 12 ((x1 * 10) + x2)) - 100) * 5 ≤ 2147483647) ∧ (-2147483648 ≤ (((h 12 ((x1 * 10) + x2)) - 100) * 5) + (h 8 ((h 12 ((x1 * 10) + x2)) - 100)) ∧ (((h 12 ((x1 * 10) + x2)) - 100) * 5) + (h 8 ((h 12 ((x1 * 10) + x2)) - 100)) ≤ 2147483647) ∧ X 27 5 [vI ((h 12 ((x1 * 10) + x2)) - 100), vI (h 8 ((h 12 ((x1 * 10) + x2)) - 100))] [vI ((((h 12 ((x1 * 10) + x2)) - 100) * 5) + (h 8 ((h 12 ((x1 * 10) + x2)) - 100)))] h _
          refine ⟨c9, c10, ?_⟩
          refine X_iret (L := L_27) rfl rfl rfl rfl ?_
          show X 80 8 [vR 2, vI x1, vI ((h 12 ((x1 * 10) + x2)) - 100), vI (h 8 ((h 12 ((x1 * 10) + x2)) - 100))] [vI ((((h 12 ((x1 * 10) + x2)) - 100) * 5) + (h 8 ((h 12 ((x1 * 10) + x2)) - 100))), vI (x1 * 45), vR 13] h _
          refine X_b 2 10 (L := L_80) rfl rfl rfl ?_
          show (-2147483648 ≤ (x1 * 45) + ((((h 12 ((x1 * 10) + x2)) - 100) * 5) + (h 8 ((h 12 ((x1 * 10) + x2)) - 100))) ∧ (x1 * 45) + ((((h 12 ((x1 * 10) + x2)) - 100) * 5) + (h 8 ((h 12 ((x1 * 10) + x2)) - 100))) ≤ 2147483647) ∧ (0 ≤ (x1 * 45) + ((((h 12 ((x1 * 10) + x2)) - 100) * 5) + (h 8 ((h 12 ((x1 * 10) + x2)) - 100))) ∧ (x1 * 45) + ((((h 12 ((x1 * 10) + x2)) - 100) * 5) + (h 8 ((h 12 ((x1 * 10) + x2)) - 100))) < 2250) ∧ X 80 10 [vR 2, vI x1, vI ((h 12 ((x1 * 10) + x2)) - 100), vI (h 8 ((h 12 ((x1 * 10) + x2)) - 100))] [vI (h 13 ((x1 * 45) + ((((h 12 ((x1 * 10) + x2)) - 100) * 5) + (h 8 ((h 12 ((x1 * 10) + x2)) - 100)))))] h _
          refine ⟨by have := c11; omega, c11, ?_⟩
          refine X_iret (L := L_80) rfl rfl rfl rfl ?_
          show X 81 5 [vR 2, vI x1, vI ((h 12 ((x1 * 10) + x2)) - 100), vI (h 8 ((h 12 ((x1 * 10) + x2)) - 100)), vI x2] [vI (h 13 ((x1 * 45) + ((((h 12 ((x1 * 10) + x2)) - 100) * 5) + (h 8 ((h 12 ((x1 * 10) + x2)) - 100)))))] h _
          refine X_b 1 6 (L := L_81) rfl rfl rfl ?_
          show X 81 6 [vR 2, vI x1, vI ((h 12 ((x1 * 10) + x2)) - 100), vI (h 8 ((h 12 ((x1 * 10) + x2)) - 100)), vI x2] [vI x2, vI (h 13 ((x1 * 45) + ((((h 12 ((x1 * 10) + x2)) - 100) * 5) + (h 8 ((h 12 ((x1 * 10) + x2)) - 100)))))] h _
          refine X_call 26 [vI x2] [vI (h 13 ((x1 * 45) + ((((h 12 ((x1 * 10) + x2)) - 100) * 5) + (h 8 ((h 12 ((x1 * 10) + x2)) - 100)))))] rfl (sg_cals rfl rfl rfl rfl rfl rfl rfl rfl rfl rfl) (by decide) ?_
          show X 26 0 [vI x2] [] h _
          refine X_b 5 5 (L := L_26) rfl rfl rfl ?_
          show (-2147483648 ≤ x2 - 4 ∧ x2 - 4 ≤ 2147483647) ∧ X 26 5 [vI x2] [vI (b_shl 1 (x2 - 4))] h _
          refine ⟨c12, ?_⟩
          refine X_iret (L := L_26) rfl rfl rfl rfl ?_
          show X 81 7 [vR 2, vI x1, vI ((h 12 ((x1 * 10) + x2)) - 100), vI (h 8 ((h 12 ((x1 * 10) + x2)) - 100)), vI x2] [vI (b_shl 1 (x2 - 4)), vI (h 13 ((x1 * 45) + ((((h 12 ((x1 * 10) + x2)) - 100) * 5) + (h 8 ((h 12 ((x1 * 10) + x2)) - 100)))))] h _
          refine X_b 1 8 (L := L_81) rfl rfl rfl ?_
          show X 81 8 [vR 2, vI x1, vI ((h 12 ((x1 * 10) + x2)) - 100), vI (h 8 ((h 12 ((x1 * 10) + x2)) - 100)), vI x2] [vI (b_and (h 13 ((x1 * 45) + ((((h 12 ((x1 * 10) + x2)) - 100) * 5) + (h 8 ((h 12 ((x1 * 10) + x2)) - 100))))) (b_shl 1 (x2 - 4)))] h _
          refine X_if (L := L_81) (n' := 11) rfl rfl rfl rfl (fun z13 => ?_) (fun z13 => ?_)
          · have z13 : b_and (h 13 ((x1 * 45) + ((((h 12 ((x1 * 10) + x2)) - 100) * 5) + (h 8 ((h 12 ((x1 * 10) + x2)) - 100))))) (b_shl 1 (x2 - 4)) = 0 := z13
            replace H := H.1 z13
            show X 81 11 [vR 2, vI x1, vI ((h 12 ((x1 * 10) + x2)) - 100), vI (h 8 ((h 12 ((x1 * 10) + x2)) - 100)), vI x2] [] h _
            refine X_b 1 12 (L := L_81) rfl rfl rfl ?_
            show X 81 12 [vR 2, vI x1, vI ((h 12 ((x1 * 10) + x2)) - 100), vI (h 8 ((h 12 ((x1 * 10) + x2)) - 100)), vI x2] [vI 0] h _
            refine X_zret (L := L_81) rfl rfl rfl rfl (by decide) ?_
            show X 100 63 [vR 4, vI x1, vI x2, vI (h 12 ((x1 * 10) + x2)), vI ((h 12 ((x1 * 10) + x2)) - 100)] [vI 0] h _
            refine X_if (L := L_100) (n' := 66) rfl rfl rfl rfl (fun z => absurd z (show ¬ (¬ (0 : Int) = (0 : Int)) by decide)) (fun _ => ?_)
            show X 100 64 [vR 4, vI x1, vI x2, vI (h 12 ((x1 * 10) + x2)), vI ((h 12 ((x1 * 10) + x2)) - 100)] [] h _
            refine X_b 1 65 (L := L_100) rfl rfl rfl ?_
            show X 100 65 [vR 4, vI x1, vI x2, vI (h 12 ((x1 * 10) + x2)), vI ((h 12 ((x1 * 10) + x2)) - 100)] [vI 1] h _
            refine X_goto (L := L_100) (n' := 67) rfl rfl rfl rfl ?_
            show X 100 67 [vR 4, vI x1, vI x2, vI (h 12 ((x1 * 10) + x2)), vI ((h 12 ((x1 * 10) + x2)) - 100)] [vI 1] h _
            refine X_zret (L := L_100) rfl rfl rfl rfl (by decide) ?_
            exact H
          · have z13 : ¬ b_and (h 13 ((x1 * 45) + ((((h 12 ((x1 * 10) + x2)) - 100) * 5) + (h 8 ((h 12 ((x1 * 10) + x2)) - 100))))) (b_shl 1 (x2 - 4)) = 0 := z13
            replace H := H.2 z13
            show X 81 9 [vR 2, vI x1, vI ((h 12 ((x1 * 10) + x2)) - 100), vI (h 8 ((h 12 ((x1 * 10) + x2)) - 100)), vI x2] [] h _
            refine X_b 1 10 (L := L_81) rfl rfl rfl ?_
            show X 81 10 [vR 2, vI x1, vI ((h 12 ((x1 * 10) + x2)) - 100), vI (h 8 ((h 12 ((x1 * 10) + x2)) - 100)), vI x2] [vI 1] h _
            refine X_goto (L := L_81) (n' := 12) rfl rfl rfl rfl ?_
            show X 81 12 [vR 2, vI x1, vI ((h 12 ((x1 * 10) + x2)) - 100), vI (h 8 ((h 12 ((x1 * 10) + x2)) - 100)), vI x2] [vI 1] h _
            refine X_zret (L := L_81) rfl rfl rfl rfl (by decide) ?_
            show X 100 63 [vR 4, vI x1, vI x2, vI (h 12 ((x1 * 10) + x2)), vI ((h 12 ((x1 * 10) + x2)) - 100)] [vI 1] h _
            refine X_if (L := L_100) (n' := 66) rfl rfl rfl rfl (fun _ => ?_) (fun z => absurd (show ¬ (1 : Int) = (0 : Int) by decide) z)
            show X 100 66 [vR 4, vI x1, vI x2, vI (h 12 ((x1 * 10) + x2)), vI ((h 12 ((x1 * 10) + x2)) - 100)] [] h _
            refine X_b 1 67 (L := L_100) rfl rfl rfl ?_
            show X 100 67 [vR 4, vI x1, vI x2, vI (h 12 ((x1 * 10) + x2)), vI ((h 12 ((x1 * 10) + x2)) - 100)] [vI 0] h _
            refine X_zret (L := L_100) rfl rfl rfl rfl (by decide) ?_
            exact H
        · have z6 : h 12 ((x1 * 10) + x2) = 200 := (Classical.not_not.mp z6)
          replace H := H.2 z6
          show X 100 31 [vR 4, vI x1, vI x2, vI (h 12 ((x1 * 10) + x2)), vJ 0] [] h _
          refine X_b 2 33 (L := L_100) rfl rfl rfl ?_
          show X 100 33 [vR 4, vI x1, vI x2, vI (h 12 ((x1 * 10) + x2)), vJ 0] [vI 9, vI x2] h _
          refine X_icmp (L := L_100) (n' := 44) rfl rfl rfl rfl (fun z14 => ?_) (fun z14 => ?_)
          · have z14 : ¬ x2 = 9 := z14
            replace H := H.1 z14
            show X 100 44 [vR 4, vI x1, vI x2, vI (h 12 ((x1 * 10) + x2)), vJ 0] [] h _
            refine X_b 1 45 (L := L_100) rfl rfl rfl ?_
            show X 100 45 [vR 4, vI x1, vI x2, vI (h 12 ((x1 * 10) + x2)), vJ 0] [vI 1] h _
            refine X_goto (L := L_100) (n' := 47) rfl rfl rfl rfl ?_
            show X 100 47 [vR 4, vI x1, vI x2, vI (h 12 ((x1 * 10) + x2)), vJ 0] [vI 1] h _
            refine X_zret (L := L_100) rfl rfl rfl rfl (by decide) ?_
            exact H
          · have z14 : x2 = 9 := (Classical.not_not.mp z14)
            replace H := H.2 z14
            show X 100 34 [vR 4, vI x1, vI x2, vI (h 12 ((x1 * 10) + x2)), vJ 0] [] h _
            obtain ⟨⟨c15, c16, c17, c18⟩, H⟩ := H
            refine X_b 5 39 (L := L_100) rfl rfl rfl ?_
            show X 100 39 [vR 4, vI x1, vI x2, vI (h 12 ((x1 * 10) + x2)), vJ 0] [vR 1, vI x1, vR 2] h _
            refine X_call 109 [vR 1] [vI x1, vR 2] rfl (sg_calv rfl rfl rfl rfl rfl rfl rfl rfl rfl rfl rfl) (by decide) ?_
            show X 109 0 [vR 1] [] h _
            refine X_b 2 2 (L := L_109) rfl rfl rfl ?_
            show X 109 2 [vR 1] [vI (h 1 0)] h _
            refine X_iret (L := L_109) rfl rfl rfl rfl ?_
            show X 100 40 [vR 4, vI x1, vI x2, vI (h 12 ((x1 * 10) + x2)), vJ 0] [vI (h 1 0), vI x1, vR 2] h _
            refine X_b 2 42 (L := L_100) rfl rfl rfl ?_
            show X 100 42 [vR 4, vI x1, vI x2, vI (h 12 ((x1 * 10) + x2)), vJ 0] [vI 9, vI 1, vI (h 1 0), vI x1, vR 2] h _
            refine X_call 81 [vR 2, vI x1, vI (h 1 0), vI 1, vI 9] [] rfl (sg_calv rfl rfl rfl rfl rfl rfl rfl rfl rfl rfl rfl) (by decide) ?_
            show X 81 0 [vR 2, vI x1, vI (h 1 0), vI 1, vI 9] [] h _
            refine X_b 4 4 (L := L_81) rfl rfl rfl ?_
            show X 81 4 [vR 2, vI x1, vI (h 1 0), vI 1, vI 9] [vI 1, vI (h 1 0), vI x1, vR 2] h _
            refine X_call 80 [vR 2, vI x1, vI (h 1 0), vI 1] [] rfl (sg_calv rfl rfl rfl rfl rfl rfl rfl rfl rfl rfl rfl) (by decide) ?_
            show X 80 0 [vR 2, vI x1, vI (h 1 0), vI 1] [] h _
            refine X_b 7 7 (L := L_80) rfl rfl rfl ?_
            show (-2147483648 ≤ x1 * 45 ∧ x1 * 45 ≤ 2147483647) ∧ X 80 7 [vR 2, vI x1, vI (h 1 0), vI 1] [vI 1, vI (h 1 0), vI (x1 * 45), vR 13] h _
            refine ⟨c15, ?_⟩
            refine X_call 27 [vI (h 1 0), vI 1] [vI (x1 * 45), vR 13] rfl (sg_cals rfl rfl rfl rfl rfl rfl rfl rfl rfl rfl) (by decide) ?_
            show X 27 0 [vI (h 1 0), vI 1] [] h _
            refine X_b 5 5 (L := L_27) rfl rfl rfl ?_
            show (-2147483648 ≤ (h 1 0) * 5 ∧ (h 1 0) * 5 ≤ 2147483647) ∧ (-2147483648 ≤ ((h 1 0) * 5) + 1 ∧ ((h 1 0) * 5) + 1 ≤ 2147483647) ∧ X 27 5 [vI (h 1 0), vI 1] [vI (((h 1 0) * 5) + 1)] h _
            refine ⟨c16, c17, ?_⟩
            refine X_iret (L := L_27) rfl rfl rfl rfl ?_
            show X 80 8 [vR 2, vI x1, vI (h 1 0), vI 1] [vI (((h 1 0) * 5) + 1), vI (x1 * 45), vR 13] h _
            refine X_b 2 10 (L := L_80) rfl rfl rfl ?_
            show (-2147483648 ≤ (x1 * 45) + (((h 1 0) * 5) + 1) ∧ (x1 * 45) + (((h 1 0) * 5) + 1) ≤ 2147483647) ∧ (0 ≤ (x1 * 45) + (((h 1 0) * 5) + 1) ∧ (x1 * 45) + (((h 1 0) * 5) + 1) < 2250) ∧ X 80 10 [vR 2, vI x1, vI (h 1 0), vI 1] [vI (h 13 ((x1 * 45) + (((h 1 0) * 5) + 1)))] h _
            refine ⟨by have := c18; omega, c18, ?_⟩
            refine X_iret (L := L_80) rfl rfl rfl rfl ?_
            show X 81 5 [vR 2, vI x1, vI (h 1 0), vI 1, vI 9] [vI (h 13 ((x1 * 45) + (((h 1 0) * 5) + 1)))] h _
            refine X_b 1 6 (L := L_81) rfl rfl rfl ?_
            show X 81 6 [vR 2, vI x1, vI (h 1 0), vI 1, vI 9] [vI 9, vI (h 13 ((x1 * 45) + (((h 1 0) * 5) + 1)))] h _
            refine X_call 26 [vI 9] [vI (h 13 ((x1 * 45) + (((h 1 0) * 5) + 1)))] rfl (sg_cals rfl rfl rfl rfl rfl rfl rfl rfl rfl rfl) (by decide) ?_
            show X 26 0 [vI 9] [] h _
            refine X_b 5 5 (L := L_26) rfl rfl rfl ?_
            show (-2147483648 ≤ (5 : Int) ∧ (5 : Int) ≤ 2147483647) ∧ X 26 5 [vI 9] [vI (b_shl 1 5)] h _
            refine ⟨by decide, ?_⟩
            refine X_iret (L := L_26) rfl rfl rfl rfl ?_
            show X 81 7 [vR 2, vI x1, vI (h 1 0), vI 1, vI 9] [vI (b_shl 1 5), vI (h 13 ((x1 * 45) + (((h 1 0) * 5) + 1)))] h _
            refine X_b 1 8 (L := L_81) rfl rfl rfl ?_
            show X 81 8 [vR 2, vI x1, vI (h 1 0), vI 1, vI 9] [vI (b_and (h 13 ((x1 * 45) + (((h 1 0) * 5) + 1))) (b_shl 1 5))] h _
            refine X_if (L := L_81) (n' := 11) rfl rfl rfl rfl (fun z19 => ?_) (fun z19 => ?_)
            · have z19 : b_and (h 13 ((x1 * 45) + (((h 1 0) * 5) + 1))) (b_shl 1 5) = 0 := z19
              replace H := H.1 z19
              show X 81 11 [vR 2, vI x1, vI (h 1 0), vI 1, vI 9] [] h _
              refine X_b 1 12 (L := L_81) rfl rfl rfl ?_
              show X 81 12 [vR 2, vI x1, vI (h 1 0), vI 1, vI 9] [vI 0] h _
              refine X_zret (L := L_81) rfl rfl rfl rfl (by decide) ?_
              show X 100 43 [vR 4, vI x1, vI x2, vI (h 12 ((x1 * 10) + x2)), vJ 0] [vI 0] h _
              refine X_if (L := L_100) (n' := 46) rfl rfl rfl rfl (fun z => absurd z (show ¬ (¬ (0 : Int) = (0 : Int)) by decide)) (fun _ => ?_)
              show X 100 44 [vR 4, vI x1, vI x2, vI (h 12 ((x1 * 10) + x2)), vJ 0] [] h _
              refine X_b 1 45 (L := L_100) rfl rfl rfl ?_
              show X 100 45 [vR 4, vI x1, vI x2, vI (h 12 ((x1 * 10) + x2)), vJ 0] [vI 1] h _
              refine X_goto (L := L_100) (n' := 47) rfl rfl rfl rfl ?_
              show X 100 47 [vR 4, vI x1, vI x2, vI (h 12 ((x1 * 10) + x2)), vJ 0] [vI 1] h _
              refine X_zret (L := L_100) rfl rfl rfl rfl (by decide) ?_
              exact H
            · have z19 : ¬ b_and (h 13 ((x1 * 45) + (((h 1 0) * 5) + 1))) (b_shl 1 5) = 0 := z19
              replace H := H.2 z19
              show X 81 9 [vR 2, vI x1, vI (h 1 0), vI 1, vI 9] [] h _
              refine X_b 1 10 (L := L_81) rfl rfl rfl ?_
              show X 81 10 [vR 2, vI x1, vI (h 1 0), vI 1, vI 9] [vI 1] h _
              refine X_goto (L := L_81) (n' := 12) rfl rfl rfl rfl ?_
              show X 81 12 [vR 2, vI x1, vI (h 1 0), vI 1, vI 9] [vI 1] h _
              refine X_zret (L := L_81) rfl rfl rfl rfl (by decide) ?_
              show X 100 43 [vR 4, vI x1, vI x2, vI (h 12 ((x1 * 10) + x2)), vJ 0] [vI 1] h _
              refine X_if (L := L_100) (n' := 46) rfl rfl rfl rfl (fun _ => ?_) (fun z => absurd (show ¬ (1 : Int) = (0 : Int) by decide) z)
              show X 100 46 [vR 4, vI x1, vI x2, vI (h 12 ((x1 * 10) + x2)), vJ 0] [] h _
              refine X_b 1 47 (L := L_100) rfl rfl rfl ?_
              show X 100 47 [vR 4, vI x1, vI x2, vI (h 12 ((x1 * 10) + x2)), vJ 0] [vI 0] h _
              refine X_zret (L := L_100) rfl rfl rfl rfl (by decide) ?_
              exact H
      · have z5 : 0 ≤ x2 := (Int.not_lt.mp z5)
        replace H := H.2 z5
        show X 23 2 [vI x2] [] h _
        refine X_b 2 4 (L := L_23) rfl rfl rfl ?_
        show X 23 4 [vI x2] [vI 4, vI x2] h _
        refine X_icmp (L := L_23) (n' := 7) rfl rfl rfl rfl (fun z20 => ?_) (fun z20 => ?_)
        · have z20 : 4 ≤ x2 := z20
          replace H := H.1 z20
          show X 23 7 [vI x2] [] h _
          refine X_b 1 8 (L := L_23) rfl rfl rfl ?_
          show X 23 8 [vI x2] [vI 0] h _
          refine X_zret (L := L_23) rfl rfl rfl rfl (by decide) ?_
          show X 100 25 [vR 4, vI x1, vI x2, vI (h 12 ((x1 * 10) + x2)), vJ 0] [vI 0] h _
          refine X_if (L := L_100) (n' := 28) rfl rfl rfl rfl (fun _ => ?_) (fun z => absurd (show (0 : Int) = (0 : Int) by decide) z)
          show X 100 28 [vR 4, vI x1, vI x2, vI (h 12 ((x1 * 10) + x2)), vJ 0] [] h _
          refine X_b 2 30 (L := L_100) rfl rfl rfl ?_
          show X 100 30 [vR 4, vI x1, vI x2, vI (h 12 ((x1 * 10) + x2)), vJ 0] [vI 200, vI (h 12 ((x1 * 10) + x2))] h _
          refine X_icmp (L := L_100) (n' := 48) rfl rfl rfl rfl (fun z21 => ?_) (fun z21 => ?_)
          · have z21 : ¬ h 12 ((x1 * 10) + x2) = 200 := z21
            replace H := H.1 z21
            show X 100 48 [vR 4, vI x1, vI x2, vI (h 12 ((x1 * 10) + x2)), vJ 0] [] h _
            obtain ⟨⟨c22, c23, c24, c25, c26, c27⟩, H⟩ := H
            refine X_b 14 62 (L := L_100) rfl rfl rfl ?_
            show (-2147483648 ≤ (h 12 ((x1 * 10) + x2)) - 100 ∧ (h 12 ((x1 * 10) + x2)) - 100 ≤ 2147483647) ∧ (0 ≤ (h 12 ((x1 * 10) + x2)) - 100 ∧ (h 12 ((x1 * 10) + x2)) - 100 < 9) ∧ X 100 62 [vR 4, vI x1, vI x2, vI (h 12 ((x1 * 10) + x2)), vI ((h 12 ((x1 * 10) + x2)) - 100)] [vI x2, vI (h 8 ((h 12 ((x1 * 10) + x2)) - 100)), vI ((h 12 ((x1 * 10) + x2)) - 100), vI x1, vR 2] h _
            refine ⟨by have := c22; omega, c22, ?_⟩
            refine X_call 81 [vR 2, vI x1, vI ((h 12 ((x1 * 10) + x2)) - 100), vI (h 8 ((h 12 ((x1 * 10) + x2)) - 100)), vI x2] [] rfl (sg_calv rfl rfl rfl rfl rfl rfl rfl rfl rfl rfl rfl) (by decide) ?_
            show X 81 0 [vR 2, vI x1, vI ((h 12 ((x1 * 10) + x2)) - 100), vI (h 8 ((h 12 ((x1 * 10) + x2)) - 100)), vI x2] [] h _
            refine X_b 4 4 (L := L_81) rfl rfl rfl ?_
            show X 81 4 [vR 2, vI x1, vI ((h 12 ((x1 * 10) + x2)) - 100), vI (h 8 ((h 12 ((x1 * 10) + x2)) - 100)), vI x2] [vI (h 8 ((h 12 ((x1 * 10) + x2)) - 100)), vI ((h 12 ((x1 * 10) + x2)) - 100), vI x1, vR 2] h _
            refine X_call 80 [vR 2, vI x1, vI ((h 12 ((x1 * 10) + x2)) - 100), vI (h 8 ((h 12 ((x1 * 10) + x2)) - 100))] [] rfl (sg_calv rfl rfl rfl rfl rfl rfl rfl rfl rfl rfl rfl) (by decide) ?_
            show X 80 0 [vR 2, vI x1, vI ((h 12 ((x1 * 10) + x2)) - 100), vI (h 8 ((h 12 ((x1 * 10) + x2)) - 100))] [] h _
            refine X_b 7 7 (L := L_80) rfl rfl rfl ?_
            show (-2147483648 ≤ x1 * 45 ∧ x1 * 45 ≤ 2147483647) ∧ X 80 7 [vR 2, vI x1, vI ((h 12 ((x1 * 10) + x2)) - 100), vI (h 8 ((h 12 ((x1 * 10) + x2)) - 100))] [vI (h 8 ((h 12 ((x1 * 10) + x2)) - 100)), vI ((h 12 ((x1 * 10) + x2)) - 100), vI (x1 * 45), vR 13] h _
            refine ⟨c23, ?_⟩
            refine X_call 27 [vI ((h 12 ((x1 * 10) + x2)) - 100), vI (h 8 ((h 12 ((x1 * 10) + x2)) - 100))] [vI (x1 * 45), vR 13] rfl (sg_cals rfl rfl rfl rfl rfl rfl rfl rfl rfl rfl) (by decide) ?_
            show X 27 0 [vI ((h 12 ((x1 * 10) + x2)) - 100), vI (h 8 ((h 12 ((x1 * 10) + x2)) - 100))] [] h _
            refine X_b 5 5 (L := L_27) rfl rfl rfl ?_
            show (-2147483648 ≤ ((h 12 ((x1 * 10) + x2)) - 100) * 5 ∧ ((h 12 ((x1 * 10) + x2)) - 100) * 5 ≤ 2147483647) ∧ (-2147483648 ≤ (((h 12 ((x1 * 10) + x2)) - 100) * 5) + (h 8 ((h 12 ((x1 * 10) + x2)) - 100)) ∧ (((h 12 ((x1 * 10) + x2)) - 100) * 5) + (h 8 ((h 12 ((x1 * 10) + x2)) - 100)) ≤ 2147483647) ∧ X 27 5 [vI ((h 12 ((x1 * 10) + x2)) - 100), vI (h 8 ((h 12 ((x1 * 10) + x2)) - 100))] [vI ((((h 12 ((x1 * 10) + x2)) - 100) * 5) + (h 8 ((h 12 ((x1 * 10) + x2)) - 100)))] h _
            refine ⟨c24, c25, ?_⟩
            refine X_iret (L := L_27) rfl rfl rfl rfl ?_
            show X 80 8 [vR 2, vI x1, vI ((h 12 ((x1 * 10) + x2)) - 100), vI (h 8 ((h 12 ((x1 * 10) + x2)) - 100))] [vI ((((h 12 ((x1 * 10) + x2)) - 100) * 5) + (h 8 ((h 12 ((x1 * 10) + x2)) - 100))), vI (x1 * 45), vR 13] h _
            refine X_b 2 10 (L := L_80) rfl rfl rfl ?_
            show (-2147483648 ≤ (x1 * 45) + ((((h 12 ((x1 * 10) + x2)) - 100) * 5) + (h 8 ((h 12 ((x1 * 10) + x2)) - 100))) ∧ (x1 * 45) + ((((h 12 ((x1 * 10) + x2)) - 100) * 5) + (h 8 ((h 12 ((x1 * 10) + x2)) - 100))) ≤ 2147483647) ∧ (0 ≤ (x1 * 45) + ((((h 12 ((x1 * 10) + x2)) - 100) * 5) + (h 8 ((h 12 ((x1 * 10) + x2)) - 100))) ∧ (x1 * 45) + ((((h 12 ((x1 * 10) + x2)) - 100) * 5) + (h 8 ((h 12 ((x1 * 10) + x2)) - 100))) < 2250) ∧ X 80 10 [vR 2, vI x1, vI ((h 12 ((x1 * 10) + x2)) - 100), vI (h 8 ((h 12 ((x1 * 10) + x2)) - 100))] [vI (h 13 ((x1 * 45) + ((((h 12 ((x1 * 10) + x2)) - 100) * 5) + (h 8 ((h 12 ((x1 * 10) + x2)) - 100)))))] h _
            refine ⟨by have := c26; omega, c26, ?_⟩
            refine X_iret (L := L_80) rfl rfl rfl rfl ?_
            show X 81 5 [vR 2, vI x1, vI ((h 12 ((x1 * 10) + x2)) - 100), vI (h 8 ((h 12 ((x1 * 10) + x2)) - 100)), vI x2] [vI (h 13 ((x1 * 45) + ((((h 12 ((x1 * 10) + x2)) - 100) * 5) + (h 8 ((h 12 ((x1 * 10) + x2)) - 100)))))] h _
            refine X_b 1 6 (L := L_81) rfl rfl rfl ?_
            show X 81 6 [vR 2, vI x1, vI ((h 12 ((x1 * 10) + x2)) - 100), vI (h 8 ((h 12 ((x1 * 10) + x2)) - 100)), vI x2] [vI x2, vI (h 13 ((x1 * 45) + ((((h 12 ((x1 * 10) + x2)) - 100) * 5) + (h 8 ((h 12 ((x1 * 10) + x2)) - 100)))))] h _
            refine X_call 26 [vI x2] [vI (h 13 ((x1 * 45) + ((((h 12 ((x1 * 10) + x2)) - 100) * 5) + (h 8 ((h 12 ((x1 * 10) + x2)) - 100)))))] rfl (sg_cals rfl rfl rfl rfl rfl rfl rfl rfl rfl rfl) (by decide) ?_
            show X 26 0 [vI x2] [] h _
            refine X_b 5 5 (L := L_26) rfl rfl rfl ?_
            show (-2147483648 ≤ x2 - 4 ∧ x2 - 4 ≤ 2147483647) ∧ X 26 5 [vI x2] [vI (b_shl 1 (x2 - 4))] h _
            refine ⟨c27, ?_⟩
            refine X_iret (L := L_26) rfl rfl rfl rfl ?_
            show X 81 7 [vR 2, vI x1, vI ((h 12 ((x1 * 10) + x2)) - 100), vI (h 8 ((h 12 ((x1 * 10) + x2)) - 100)), vI x2] [vI (b_shl 1 (x2 - 4)), vI (h 13 ((x1 * 45) + ((((h 12 ((x1 * 10) + x2)) - 100) * 5) + (h 8 ((h 12 ((x1 * 10) + x2)) - 100)))))] h _
            refine X_b 1 8 (L := L_81) rfl rfl rfl ?_
            show X 81 8 [vR 2, vI x1, vI ((h 12 ((x1 * 10) + x2)) - 100), vI (h 8 ((h 12 ((x1 * 10) + x2)) - 100)), vI x2] [vI (b_and (h 13 ((x1 * 45) + ((((h 12 ((x1 * 10) + x2)) - 100) * 5) + (h 8 ((h 12 ((x1 * 10) + x2)) - 100))))) (b_shl 1 (x2 - 4)))] h _
            refine X_if (L := L_81) (n' := 11) rfl rfl rfl rfl (fun z28 => ?_) (fun z28 => ?_)
            · have z28 : b_and (h 13 ((x1 * 45) + ((((h 12 ((x1 * 10) + x2)) - 100) * 5) + (h 8 ((h 12 ((x1 * 10) + x2)) - 100))))) (b_shl 1 (x2 - 4)) = 0 := z28
              replace H := H.1 z28
              show X 81 11 [vR 2, vI x1, vI ((h 12 ((x1 * 10) + x2)) - 100), vI (h 8 ((h 12 ((x1 * 10) + x2)) - 100)), vI x2] [] h _
              refine X_b 1 12 (L := L_81) rfl rfl rfl ?_
              show X 81 12 [vR 2, vI x1, vI ((h 12 ((x1 * 10) + x2)) - 100), vI (h 8 ((h 12 ((x1 * 10) + x2)) - 100)), vI x2] [vI 0] h _
              refine X_zret (L := L_81) rfl rfl rfl rfl (by decide) ?_
              show X 100 63 [vR 4, vI x1, vI x2, vI (h 12 ((x1 * 10) + x2)), vI ((h 12 ((x1 * 10) + x2)) - 100)] [vI 0] h _
              refine X_if (L := L_100) (n' := 66) rfl rfl rfl rfl (fun z => absurd z (show ¬ (¬ (0 : Int) = (0 : Int)) by decide)) (fun _ => ?_)
              show X 100 64 [vR 4, vI x1, vI x2, vI (h 12 ((x1 * 10) + x2)), vI ((h 12 ((x1 * 10) + x2)) - 100)] [] h _
              refine X_b 1 65 (L := L_100) rfl rfl rfl ?_
              show X 100 65 [vR 4, vI x1, vI x2, vI (h 12 ((x1 * 10) + x2)), vI ((h 12 ((x1 * 10) + x2)) - 100)] [vI 1] h _
              refine X_goto (L := L_100) (n' := 67) rfl rfl rfl rfl ?_
              show X 100 67 [vR 4, vI x1, vI x2, vI (h 12 ((x1 * 10) + x2)), vI ((h 12 ((x1 * 10) + x2)) - 100)] [vI 1] h _
              refine X_zret (L := L_100) rfl rfl rfl rfl (by decide) ?_
              exact H
            · have z28 : ¬ b_and (h 13 ((x1 * 45) + ((((h 12 ((x1 * 10) + x2)) - 100) * 5) + (h 8 ((h 12 ((x1 * 10) + x2)) - 100))))) (b_shl 1 (x2 - 4)) = 0 := z28
              replace H := H.2 z28
              show X 81 9 [vR 2, vI x1, vI ((h 12 ((x1 * 10) + x2)) - 100), vI (h 8 ((h 12 ((x1 * 10) + x2)) - 100)), vI x2] [] h _
              refine X_b 1 10 (L := L_81) rfl rfl rfl ?_
              show X 81 10 [vR 2, vI x1, vI ((h 12 ((x1 * 10) + x2)) - 100), vI (h 8 ((h 12 ((x1 * 10) + x2)) - 100)), vI x2] [vI 1] h _
              refine X_goto (L := L_81) (n' := 12) rfl rfl rfl rfl ?_
              show X 81 12 [vR 2, vI x1, vI ((h 12 ((x1 * 10) + x2)) - 100), vI (h 8 ((h 12 ((x1 * 10) + x2)) - 100)), vI x2] [vI 1] h _
              refine X_zret (L := L_81) rfl rfl rfl rfl (by decide) ?_
              show X 100 63 [vR 4, vI x1, vI x2, vI (h 12 ((x1 * 10) + x2)), vI ((h 12 ((x1 * 10) + x2)) - 100)] [vI 1] h _
              refine X_if (L := L_100) (n' := 66) rfl rfl rfl rfl (fun _ => ?_) (fun z => absurd (show ¬ (1 : Int) = (0 : Int) by decide) z)
              show X 100 66 [vR 4, vI x1, vI x2, vI (h 12 ((x1 * 10) + x2)), vI ((h 12 ((x1 * 10) + x2)) - 100)] [] h _
              refine X_b 1 67 (L := L_100) rfl rfl rfl ?_
              show X 100 67 [vR 4, vI x1, vI x2, vI (h 12 ((x1 * 10) + x2)), vI ((h 12 ((x1 * 10) + x2)) - 100)] [vI 0] h _
              refine X_zret (L := L_100) rfl rfl rfl rfl (by decide) ?_
              exact H
          · have z21 : h 12 ((x1 * 10) + x2) = 200 := (Classical.not_not.mp z21)
            replace H := H.2 z21
            show X 100 31 [vR 4, vI x1, vI x2, vI (h 12 ((x1 * 10) + x2)), vJ 0] [] h _
            refine X_b 2 33 (L := L_100) rfl rfl rfl ?_
            show X 100 33 [vR 4, vI x1, vI x2, vI (h 12 ((x1 * 10) + x2)), vJ 0] [vI 9, vI x2] h _
            refine X_icmp (L := L_100) (n' := 44) rfl rfl rfl rfl (fun z29 => ?_) (fun z29 => ?_)
            · have z29 : ¬ x2 = 9 := z29
              replace H := H.1 z29
              show X 100 44 [vR 4, vI x1, vI x2, vI (h 12 ((x1 * 10) + x2)), vJ 0] [] h _
              refine X_b 1 45 (L := L_100) rfl rfl rfl ?_
              show X 100 45 [vR 4, vI x1, vI x2, vI (h 12 ((x1 * 10) + x2)), vJ 0] [vI 1] h _
              refine X_goto (L := L_100) (n' := 47) rfl rfl rfl rfl ?_
              show X 100 47 [vR 4, vI x1, vI x2, vI (h 12 ((x1 * 10) + x2)), vJ 0] [vI 1] h _
              refine X_zret (L := L_100) rfl rfl rfl rfl (by decide) ?_
              exact H
            · have z29 : x2 = 9 := (Classical.not_not.mp z29)
              replace H := H.2 z29
              show X 100 34 [vR 4, vI x1, vI x2, vI (h 12 ((x1 * 10) + x2)), vJ 0] [] h _
              obtain ⟨⟨c30, c31, c32, c33⟩, H⟩ := H
              refine X_b 5 39 (L := L_100) rfl rfl rfl ?_
              show X 100 39 [vR 4, vI x1, vI x2, vI (h 12 ((x1 * 10) + x2)), vJ 0] [vR 1, vI x1, vR 2] h _
              refine X_call 109 [vR 1] [vI x1, vR 2] rfl (sg_calv rfl rfl rfl rfl rfl rfl rfl rfl rfl rfl rfl) (by decide) ?_
              show X 109 0 [vR 1] [] h _
              refine X_b 2 2 (L := L_109) rfl rfl rfl ?_
              show X 109 2 [vR 1] [vI (h 1 0)] h _
              refine X_iret (L := L_109) rfl rfl rfl rfl ?_
              show X 100 40 [vR 4, vI x1, vI x2, vI (h 12 ((x1 * 10) + x2)), vJ 0] [vI (h 1 0), vI x1, vR 2] h _
              refine X_b 2 42 (L := L_100) rfl rfl rfl ?_
              show X 100 42 [vR 4, vI x1, vI x2, vI (h 12 ((x1 * 10) + x2)), vJ 0] [vI 9, vI 1, vI (h 1 0), vI x1, vR 2] h _
              refine X_call 81 [vR 2, vI x1, vI (h 1 0), vI 1, vI 9] [] rfl (sg_calv rfl rfl rfl rfl rfl rfl rfl rfl rfl rfl rfl) (by decide) ?_
              show X 81 0 [vR 2, vI x1, vI (h 1 0), vI 1, vI 9] [] h _
              refine X_b 4 4 (L := L_81) rfl rfl rfl ?_
              show X 81 4 [vR 2, vI x1, vI (h 1 0), vI 1, vI 9] [vI 1, vI (h 1 0), vI x1, vR 2] h _
              refine X_call 80 [vR 2, vI x1, vI (h 1 0), vI 1] [] rfl (sg_calv rfl rfl rfl rfl rfl rfl rfl rfl rfl rfl rfl) (by decide) ?_
              show X 80 0 [vR 2, vI x1, vI (h 1 0), vI 1] [] h _
              refine X_b 7 7 (L := L_80) rfl rfl rfl ?_
              show (-2147483648 ≤ x1 * 45 ∧ x1 * 45 ≤ 2147483647) ∧ X 80 7 [vR 2, vI x1, vI (h 1 0), vI 1] [vI 1, vI (h 1 0), vI (x1 * 45), vR 13] h _
              refine ⟨c30, ?_⟩
              refine X_call 27 [vI (h 1 0), vI 1] [vI (x1 * 45), vR 13] rfl (sg_cals rfl rfl rfl rfl rfl rfl rfl rfl rfl rfl) (by decide) ?_
              show X 27 0 [vI (h 1 0), vI 1] [] h _
              refine X_b 5 5 (L := L_27) rfl rfl rfl ?_
              show (-2147483648 ≤ (h 1 0) * 5 ∧ (h 1 0) * 5 ≤ 2147483647) ∧ (-2147483648 ≤ ((h 1 0) * 5) + 1 ∧ ((h 1 0) * 5) + 1 ≤ 2147483647) ∧ X 27 5 [vI (h 1 0), vI 1] [vI (((h 1 0) * 5) + 1)] h _
              refine ⟨c31, c32, ?_⟩
              refine X_iret (L := L_27) rfl rfl rfl rfl ?_
              show X 80 8 [vR 2, vI x1, vI (h 1 0), vI 1] [vI (((h 1 0) * 5) + 1), vI (x1 * 45), vR 13] h _
              refine X_b 2 10 (L := L_80) rfl rfl rfl ?_
              show (-2147483648 ≤ (x1 * 45) + (((h 1 0) * 5) + 1) ∧ (x1 * 45) + (((h 1 0) * 5) + 1) ≤ 2147483647) ∧ (0 ≤ (x1 * 45) + (((h 1 0) * 5) + 1) ∧ (x1 * 45) + (((h 1 0) * 5) + 1) < 2250) ∧ X 80 10 [vR 2, vI x1, vI (h 1 0), vI 1] [vI (h 13 ((x1 * 45) + (((h 1 0) * 5) + 1)))] h _
              refine ⟨by have := c33; omega, c33, ?_⟩
              refine X_iret (L := L_80) rfl rfl rfl rfl ?_
              show X 81 5 [vR 2, vI x1, vI (h 1 0), vI 1, vI 9] [vI (h 13 ((x1 * 45) + (((h 1 0) * 5) + 1)))] h _
              refine X_b 1 6 (L := L_81) rfl rfl rfl ?_
              show X 81 6 [vR 2, vI x1, vI (h 1 0), vI 1, vI 9] [vI 9, vI (h 13 ((x1 * 45) + (((h 1 0) * 5) + 1)))] h _
              refine X_call 26 [vI 9] [vI (h 13 ((x1 * 45) + (((h 1 0) * 5) + 1)))] rfl (sg_cals rfl rfl rfl rfl rfl rfl rfl rfl rfl rfl) (by decide) ?_
              show X 26 0 [vI 9] [] h _
              refine X_b 5 5 (L := L_26) rfl rfl rfl ?_
              show (-2147483648 ≤ (5 : Int) ∧ (5 : Int) ≤ 2147483647) ∧ X 26 5 [vI 9] [vI (b_shl 1 5)] h _
              refine ⟨by decide, ?_⟩
              refine X_iret (L := L_26) rfl rfl rfl rfl ?_
              show X 81 7 [vR 2, vI x1, vI (h 1 0), vI 1, vI 9] [vI (b_shl 1 5), vI (h 13 ((x1 * 45) + (((h 1 0) * 5) + 1)))] h _
              refine X_b 1 8 (L := L_81) rfl rfl rfl ?_
              show X 81 8 [vR 2, vI x1, vI (h 1 0), vI 1, vI 9] [vI (b_and (h 13 ((x1 * 45) + (((h 1 0) * 5) + 1))) (b_shl 1 5))] h _
              refine X_if (L := L_81) (n' := 11) rfl rfl rfl rfl (fun z34 => ?_) (fun z34 => ?_)
              · have z34 : b_and (h 13 ((x1 * 45) + (((h 1 0) * 5) + 1))) (b_shl 1 5) = 0 := z34
                replace H := H.1 z34
                show X 81 11 [vR 2, vI x1, vI (h 1 0), vI 1, vI 9] [] h _
                refine X_b 1 12 (L := L_81) rfl rfl rfl ?_
                show X 81 12 [vR 2, vI x1, vI (h 1 0), vI 1, vI 9] [vI 0] h _
                refine X_zret (L := L_81) rfl rfl rfl rfl (by decide) ?_
                show X 100 43 [vR 4, vI x1, vI x2, vI (h 12 ((x1 * 10) + x2)), vJ 0] [vI 0] h _
                refine X_if (L := L_100) (n' := 46) rfl rfl rfl rfl (fun z => absurd z (show ¬ (¬ (0 : Int) = (0 : Int)) by decide)) (fun _ => ?_)
                show X 100 44 [vR 4, vI x1, vI x2, vI (h 12 ((x1 * 10) + x2)), vJ 0] [] h _
                refine X_b 1 45 (L := L_100) rfl rfl rfl ?_
                show X 100 45 [vR 4, vI x1, vI x2, vI (h 12 ((x1 * 10) + x2)), vJ 0] [vI 1] h _
                refine X_goto (L := L_100) (n' := 47) rfl rfl rfl rfl ?_
                show X 100 47 [vR 4, vI x1, vI x2, vI (h 12 ((x1 * 10) + x2)), vJ 0] [vI 1] h _
                refine X_zret (L := L_100) rfl rfl rfl rfl (by decide) ?_
                exact H
              · have z34 : ¬ b_and (h 13 ((x1 * 45) + (((h 1 0) * 5) + 1))) (b_shl 1 5) = 0 := z34
                replace H := H.2 z34
                show X 81 9 [vR 2, vI x1, vI (h 1 0), vI 1, vI 9] [] h _
                refine X_b 1 10 (L := L_81) rfl rfl rfl ?_
                show X 81 10 [vR 2, vI x1, vI (h 1 0), vI 1, vI 9] [vI 1] h _
                refine X_goto (L := L_81) (n' := 12) rfl rfl rfl rfl ?_
                show X 81 12 [vR 2, vI x1, vI (h 1 0), vI 1, vI 9] [vI 1] h _
                refine X_zret (L := L_81) rfl rfl rfl rfl (by decide) ?_
                show X 100 43 [vR 4, vI x1, vI x2, vI (h 12 ((x1 * 10) + x2)), vJ 0] [vI 1] h _
                refine X_if (L := L_100) (n' := 46) rfl rfl rfl rfl (fun _ => ?_) (fun z => absurd (show ¬ (1 : Int) = (0 : Int) by decide) z)
                show X 100 46 [vR 4, vI x1, vI x2, vI (h 12 ((x1 * 10) + x2)), vJ 0] [] h _
                refine X_b 1 47 (L := L_100) rfl rfl rfl ?_
                show X 100 47 [vR 4, vI x1, vI x2, vI (h 12 ((x1 * 10) + x2)), vJ 0] [vI 0] h _
                refine X_zret (L := L_100) rfl rfl rfl rfl (by decide) ?_
                exact H
        · have z20 : x2 < 4 := (Int.not_le.mp z20)
          replace H := H.2 z20
          show X 23 5 [vI x2] [] h _
          refine X_b 1 6 (L := L_23) rfl rfl rfl ?_
          show X 23 6 [vI x2] [vI 1] h _
          refine X_goto (L := L_23) (n' := 8) rfl rfl rfl rfl ?_
          show X 23 8 [vI x2] [vI 1] h _
          refine X_zret (L := L_23) rfl rfl rfl rfl (by decide) ?_
          show X 100 25 [vR 4, vI x1, vI x2, vI (h 12 ((x1 * 10) + x2)), vJ 0] [vI 1] h _
          refine X_if (L := L_100) (n' := 28) rfl rfl rfl rfl (fun z => absurd z (show ¬ ((1 : Int) = (0 : Int)) by decide)) (fun _ => ?_)
          show X 100 26 [vR 4, vI x1, vI x2, vI (h 12 ((x1 * 10) + x2)), vJ 0] [] h _
          refine X_b 1 27 (L := L_100) rfl rfl rfl ?_
          show X 100 27 [vR 4, vI x1, vI x2, vI (h 12 ((x1 * 10) + x2)), vJ 0] [vI 1] h _
          refine X_zret (L := L_100) rfl rfl rfl rfl (by decide) ?_
          exact H
    · have z4 : 0 ≤ h 12 ((x1 * 10) + x2) := (Int.not_lt.mp z4)
      replace H := H.2 z4
      show X 25 2 [vI (h 12 ((x1 * 10) + x2))] [] h _
      refine X_b 2 4 (L := L_25) rfl rfl rfl ?_
      show X 25 4 [vI (h 12 ((x1 * 10) + x2))] [vI 50, vI (h 12 ((x1 * 10) + x2))] h _
      refine X_icmp (L := L_25) (n' := 7) rfl rfl rfl rfl (fun z35 => ?_) (fun z35 => ?_)
      · have z35 : 50 ≤ h 12 ((x1 * 10) + x2) := z35
        replace H := H.1 z35
        show X 25 7 [vI (h 12 ((x1 * 10) + x2))] [] h _
        refine X_b 1 8 (L := L_25) rfl rfl rfl ?_
        show X 25 8 [vI (h 12 ((x1 * 10) + x2))] [vI 0] h _
        refine X_zret (L := L_25) rfl rfl rfl rfl (by decide) ?_
        show X 100 13 [vR 4, vI x1, vI x2, vI (h 12 ((x1 * 10) + x2)), vJ 0] [vI 0] h _
        refine X_if (L := L_100) (n' := 23) rfl rfl rfl rfl (fun _ => ?_) (fun z => absurd (show (0 : Int) = (0 : Int) by decide) z)
        show X 100 23 [vR 4, vI x1, vI x2, vI (h 12 ((x1 * 10) + x2)), vJ 0] [] h _
        refine X_b 1 24 (L := L_100) rfl rfl rfl ?_
        show X 100 24 [vR 4, vI x1, vI x2, vI (h 12 ((x1 * 10) + x2)), vJ 0] [vI x2] h _
        refine X_call 23 [vI x2] [] rfl (sg_cals rfl rfl rfl rfl rfl rfl rfl rfl rfl rfl) (by decide) ?_
        show X 23 0 [vI x2] [] h _
        refine X_b 1 1 (L := L_23) rfl rfl rfl ?_
        show X 23 1 [vI x2] [vI x2] h _
        refine X_if (L := L_23) (n' := 7) rfl rfl rfl rfl (fun z36 => ?_) (fun z36 => ?_)
        · have z36 : x2 < 0 := z36
          replace H := H.1 z36
          show X 23 7 [vI x2] [] h _
          refine X_b 1 8 (L := L_23) rfl rfl rfl ?_
          show X 23 8 [vI x2] [vI 0] h _
          refine X_zret (L := L_23) rfl rfl rfl rfl (by decide) ?_
          show X 100 25 [vR 4, vI x1, vI x2, vI (h 12 ((x1 * 10) + x2)), vJ 0] [vI 0] h _
          refine X_if (L := L_100) (n' := 28) rfl rfl rfl rfl (fun _ => ?_) (fun z => absurd (show (0 : Int) = (0 : Int) by decide) z)
          show X 100 28 [vR 4, vI x1, vI x2, vI (h 12 ((x1 * 10) + x2)), vJ 0] [] h _
          refine X_b 2 30 (L := L_100) rfl rfl rfl ?_
          show X 100 30 [vR 4, vI x1, vI x2, vI (h 12 ((x1 * 10) + x2)), vJ 0] [vI 200, vI (h 12 ((x1 * 10) + x2))] h _
          refine X_icmp (L := L_100) (n' := 48) rfl rfl rfl rfl (fun z37 => ?_) (fun z37 => ?_)
          · have z37 : ¬ h 12 ((x1 * 10) + x2) = 200 := z37
            replace H := H.1 z37
            show X 100 48 [vR 4, vI x1, vI x2, vI (h 12 ((x1 * 10) + x2)), vJ 0] [] h _
            obtain ⟨⟨c38, c39, c40, c41, c42, c43⟩, H⟩ := H
            refine X_b 14 62 (L := L_100) rfl rfl rfl ?_
            show (-2147483648 ≤ (h 12 ((x1 * 10) + x2)) - 100 ∧ (h 12 ((x1 * 10) + x2)) - 100 ≤ 2147483647) ∧ (0 ≤ (h 12 ((x1 * 10) + x2)) - 100 ∧ (h 12 ((x1 * 10) + x2)) - 100 < 9) ∧ X 100 62 [vR 4, vI x1, vI x2, vI (h 12 ((x1 * 10) + x2)), vI ((h 12 ((x1 * 10) + x2)) - 100)] [vI x2, vI (h 8 ((h 12 ((x1 * 10) + x2)) - 100)), vI ((h 12 ((x1 * 10) + x2)) - 100), vI x1, vR 2] h _
            refine ⟨by have := c38; omega, c38, ?_⟩
            refine X_call 81 [vR 2, vI x1, vI ((h 12 ((x1 * 10) + x2)) - 100), vI (h 8 ((h 12 ((x1 * 10) + x2)) - 100)), vI x2] [] rfl (sg_calv rfl rfl rfl rfl rfl rfl rfl rfl rfl rfl rfl) (by decide) ?_
            show X 81 0 [vR 2, vI x1, vI ((h 12 ((x1 * 10) + x2)) - 100), vI (h 8 ((h 12 ((x1 * 10) + x2)) - 100)), vI x2] [] h _
            refine X_b 4 4 (L := L_81) rfl rfl rfl ?_
            show X 81 4 [vR 2, vI x1, vI ((h 12 ((x1 * 10) + x2)) - 100), vI (h 8 ((h 12 ((x1 * 10) + x2)) - 100)), vI x2] [vI (h 8 ((h 12 ((x1 * 10) + x2)) - 100)), vI ((h 12 ((x1 * 10) + x2)) - 100), vI x1, vR 2] h _
            refine X_call 80 [vR 2, vI x1, vI ((h 12 ((x1 * 10) + x2)) - 100), vI (h 8 ((h 12 ((x1 * 10) + x2)) - 100))] [] rfl (sg_calv rfl rfl rfl rfl rfl rfl rfl rfl rfl rfl rfl) (by decide) ?_
            show X 80 0 [vR 2, vI x1, vI ((h 12 ((x1 * 10) + x2)) - 100), vI (h 8 ((h 12 ((x1 * 10) + x2)) - 100))] [] h _
            refine X_b 7 7 (L := L_80) rfl rfl rfl ?_
            show (-2147483648 ≤ x1 * 45 ∧ x1 * 45 ≤ 2147483647) ∧ X 80 7 [vR 2, vI x1, vI ((h 12 ((x1 * 10) + x2)) - 100), vI (h 8 ((h 12 ((x1 * 10) + x2)) - 100))] [vI (h 8 ((h 12 ((x1 * 10) + x2)) - 100)), vI ((h 12 ((x1 * 10) + x2)) - 100), vI (x1 * 45), vR 13] h _
            refine ⟨c39, ?_⟩
            refine X_call 27 [vI ((h 12 ((x1 * 10) + x2)) - 100), vI (h 8 ((h 12 ((x1 * 10) + x2)) - 100))] [vI (x1 * 45), vR 13] rfl (sg_cals rfl rfl rfl rfl rfl rfl rfl rfl rfl rfl) (by decide) ?_
            show X 27 0 [vI ((h 12 ((x1 * 10) + x2)) - 100), vI (h 8 ((h 12 ((x1 * 10) + x2)) - 100))] [] h _
            refine X_b 5 5 (L := L_27) rfl rfl rfl ?_
            show (-2147483648 ≤ ((h 12 ((x1 * 10) + x2)) - 100) * 5 ∧ ((h 12 ((x1 * 10) + x2)) - 100) * 5 ≤ 2147483647) ∧ (-2147483648 ≤ (((h 12 ((x1 * 10) + x2)) - 100) * 5) + (h 8 ((h 12 ((x1 * 10) + x2)) - 100)) ∧ (((h 12 ((x1 * 10) + x2)) - 100) * 5) + (h 8 ((h 12 ((x1 * 10) + x2)) - 100)) ≤ 2147483647) ∧ X 27 5 [vI ((h 12 ((x1 * 10) + x2)) - 100), vI (h 8 ((h 12 ((x1 * 10) + x2)) - 100))] [vI ((((h 12 ((x1 * 10) + x2)) - 100) * 5) + (h 8 ((h 12 ((x1 * 10) + x2)) - 100)))] h _
            refine ⟨c40, c41, ?_⟩
            refine X_iret (L := L_27) rfl rfl rfl rfl ?_
            show X 80 8 [vR 2, vI x1, vI ((h 12 ((x1 * 10) + x2)) - 100), vI (h 8 ((h 12 ((x1 * 10) + x2)) - 100))] [vI ((((h 12 ((x1 * 10) + x2)) - 100) * 5) + (h 8 ((h 12 ((x1 * 10) + x2)) - 100))), vI (x1 * 45), vR 13] h _
            refine X_b 2 10 (L := L_80) rfl rfl rfl ?_
            show (-2147483648 ≤ (x1 * 45) + ((((h 12 ((x1 * 10) + x2)) - 100) * 5) + (h 8 ((h 12 ((x1 * 10) + x2)) - 100))) ∧ (x1 * 45) + ((((h 12 ((x1 * 10) + x2)) - 100) * 5) + (h 8 ((h 12 ((x1 * 10) + x2)) - 100))) ≤ 2147483647) ∧ (0 ≤ (x1 * 45) + ((((h 12 ((x1 * 10) + x2)) - 100) * 5) + (h 8 ((h 12 ((x1 * 10) + x2)) - 100))) ∧ (x1 * 45) + ((((h 12 ((x1 * 10) + x2)) - 100) * 5) + (h 8 ((h 12 ((x1 * 10) + x2)) - 100))) < 2250) ∧ X 80 10 [vR 2, vI x1, vI ((h 12 ((x1 * 10) + x2)) - 100), vI (h 8 ((h 12 ((x1 * 10) + x2)) - 100))] [vI (h 13 ((x1 * 45) + ((((h 12 ((x1 * 10) + x2)) - 100) * 5) + (h 8 ((h 12 ((x1 * 10) + x2)) - 100)))))] h _
            refine ⟨by have := c42; omega, c42, ?_⟩
            refine X_iret (L := L_80) rfl rfl rfl rfl ?_
            show X 81 5 [vR 2, vI x1, vI ((h 12 ((x1 * 10) + x2)) - 100), vI (h 8 ((h 12 ((x1 * 10) + x2)) - 100)), vI x2] [vI (h 13 ((x1 * 45) + ((((h 12 ((x1 * 10) + x2)) - 100) * 5) + (h 8 ((h 12 ((x1 * 10) + x2)) - 100)))))] h _
            refine X_b 1 6 (L := L_81) rfl rfl rfl ?_
            show X 81 6 [vR 2, vI x1, vI ((h 12 ((x1 * 10) + x2)) - 100), vI (h 8 ((h 12 ((x1 * 10) + x2)) - 100)), vI x2] [vI x2, vI (h 13 ((x1 * 45) + ((((h 12 ((x1 * 10) + x2)) - 100) * 5) + (h 8 ((h 12 ((x1 * 10) + x2)) - 100)))))] h _
            refine X_call 26 [vI x2] [vI (h 13 ((x1 * 45) + ((((h 12 ((x1 * 10) + x2)) - 100) * 5) + (h 8 ((h 12 ((x1 * 10) + x2)) - 100)))))] rfl (sg_cals rfl rfl rfl rfl rfl rfl rfl rfl rfl rfl) (by decide) ?_
            show X 26 0 [vI x2] [] h _
            refine X_b 5 5 (L := L_26) rfl rfl rfl ?_
            show (-2147483648 ≤ x2 - 4 ∧ x2 - 4 ≤ 2147483647) ∧ X 26 5 [vI x2] [vI (b_shl 1 (x2 - 4))] h _
            refine ⟨c43, ?_⟩
            refine X_iret (L := L_26) rfl rfl rfl rfl ?_
            show X 81 7 [vR 2, vI x1, vI ((h 12 ((x1 * 10) + x2)) - 100), vI (h 8 ((h 12 ((x1 * 10) + x2)) - 100)), vI x2] [vI (b_shl 1 (x2 - 4)), vI (h 13 ((x1 * 45) + ((((h 12 ((x1 * 10) + x2)) - 100) * 5) + (h 8 ((h 12 ((x1 * 10) + x2)) - 100)))))] h _
            refine X_b 1 8 (L := L_81) rfl rfl rfl ?_
            show X 81 8 [vR 2, vI x1, vI ((h 12 ((x1 * 10) + x2)) - 100), vI (h 8 ((h 12 ((x1 * 10) + x2)) - 100)), vI x2] [vI (b_and (h 13 ((x1 * 45) + ((((h 12 ((x1 * 10) + x2)) - 100) * 5) + (h 8 ((h 12 ((x1 * 10) + x2)) - 100))))) (b_shl 1 (x2 - 4)))] h _
            refine X_if (L := L_81) (n' := 11) rfl rfl rfl rfl (fun z44 => ?_) (fun z44 => ?_)
            · have z44 : b_and (h 13 ((x1 * 45) + ((((h 12 ((x1 * 10) + x2)) - 100) * 5) + (h 8 ((h 12 ((x1 * 10) + x2)) - 100))))) (b_shl 1 (x2 - 4)) = 0 := z44
              replace H := H.1 z44
              show X 81 11 [vR 2, vI x1, vI ((h 12 ((x1 * 10) + x2)) - 100), vI (h 8 ((h 12 ((x1 * 10) + x2)) - 100)), vI x2] [] h _
              refine X_b 1 12 (L := L_81) rfl rfl rfl ?_
              show X 81 12 [vR 2, vI x1, vI ((h 12 ((x1 * 10) + x2)) - 100), vI (h 8 ((h 12 ((x1 * 10) + x2)) - 100)), vI x2] [vI 0] h _
              refine X_zret (L := L_81) rfl rfl rfl rfl (by decide) ?_
              show X 100 63 [vR 4, vI x1, vI x2, vI (h 12 ((x1 * 10) + x2)), vI ((h 12 ((x1 * 10) + x2)) - 100)] [vI 0] h _
              refine X_if (L := L_100) (n' := 66) rfl rfl rfl rfl (fun z => absurd z (show ¬ (¬ (0 : Int) = (0 : Int)) by decide)) (fun _ => ?_)
              show X 100 64 [vR 4, vI x1, vI x2, vI (h 12 ((x1 * 10) + x2)), vI ((h 12 ((x1 * 10) + x2)) - 100)] [] h _
              refine X_b 1 65 (L := L_100) rfl rfl rfl ?_
              show X 100 65 [vR 4, vI x1, vI x2, vI (h 12 ((x1 * 10) + x2)), vI ((h 12 ((x1 * 10) + x2)) - 100)] [vI 1] h _
              refine X_goto (L := L_100) (n' := 67) rfl rfl rfl rfl ?_
              show X 100 67 [vR 4, vI x1, vI x2, vI (h 12 ((x1 * 10) + x2)), vI ((h 12 ((x1 * 10) + x2)) - 100)] [vI 1] h _
              refine X_zret (L := L_100) rfl rfl rfl rfl (by decide) ?_
              exact H
            · have z44 : ¬ b_and (h 13 ((x1 * 45) + ((((h 12 ((x1 * 10) + x2)) - 100) * 5) + (h 8 ((h 12 ((x1 * 10) + x2)) - 100))))) (b_shl 1 (x2 - 4)) = 0 := z44
              replace H := H.2 z44
              show X 81 9 [vR 2, vI x1, vI ((h 12 ((x1 * 10) + x2)) - 100), vI (h 8 ((h 12 ((x1 * 10) + x2)) - 100)), vI x2] [] h _
              refine X_b 1 10 (L := L_81) rfl rfl rfl ?_
              show X 81 10 [vR 2, vI x1, vI ((h 12 ((x1 * 10) + x2)) - 100), vI (h 8 ((h 12 ((x1 * 10) + x2)) - 100)), vI x2] [vI 1] h _
              refine X_goto (L := L_81) (n' := 12) rfl rfl rfl rfl ?_
              show X 81 12 [vR 2, vI x1, vI ((h 12 ((x1 * 10) + x2)) - 100), vI (h 8 ((h 12 ((x1 * 10) + x2)) - 100)), vI x2] [vI 1] h _
              refine X_zret (L := L_81) rfl rfl rfl rfl (by decide) ?_
              show X 100 63 [vR 4, vI x1, vI x2, vI (h 12 ((x1 * 10) + x2)), vI ((h 12 ((x1 * 10) + x2)) - 100)] [vI 1] h _
              refine X_if (L := L_100) (n' := 66) rfl rfl rfl rfl (fun _ => ?_) (fun z => absurd (show ¬ (1 : Int) = (0 : Int) by decide) z)
              show X 100 66 [vR 4, vI x1, vI x2, vI (h 12 ((x1 * 10) + x2)), vI ((h 12 ((x1 * 10) + x2)) - 100)] [] h _
              refine X_b 1 67 (L := L_100) rfl rfl rfl ?_
              show X 100 67 [vR 4, vI x1, vI x2, vI (h 12 ((x1 * 10) + x2)), vI ((h 12 ((x1 * 10) + x2)) - 100)] [vI 0] h _
              refine X_zret (L := L_100) rfl rfl rfl rfl (by decide) ?_
              exact H
          · have z37 : h 12 ((x1 * 10) + x2) = 200 := (Classical.not_not.mp z37)
            replace H := H.2 z37
            show X 100 31 [vR 4, vI x1, vI x2, vI (h 12 ((x1 * 10) + x2)), vJ 0] [] h _
            refine X_b 2 33 (L := L_100) rfl rfl rfl ?_
            show X 100 33 [vR 4, vI x1, vI x2, vI (h 12 ((x1 * 10) + x2)), vJ 0] [vI 9, vI x2] h _
            refine X_icmp (L := L_100) (n' := 44) rfl rfl rfl rfl (fun z45 => ?_) (fun z45 => ?_)
            · have z45 : ¬ x2 = 9 := z45
              replace H := H.1 z45
              show X 100 44 [vR 4, vI x1, vI x2, vI (h 12 ((x1 * 10) + x2)), vJ 0] [] h _
              refine X_b 1 45 (L := L_100) rfl rfl rfl ?_
              show X 100 45 [vR 4, vI x1, vI x2, vI (h 12 ((x1 * 10) + x2)), vJ 0] [vI 1] h _
              refine X_goto (L := L_100) (n' := 47) rfl rfl rfl rfl ?_
              show X 100 47 [vR 4, vI x1, vI x2, vI (h 12 ((x1 * 10) + x2)), vJ 0] [vI 1] h _
              refine X_zret (L := L_100) rfl rfl rfl rfl (by decide) ?_
              exact H
            · have z45 : x2 = 9 := (Classical.not_not.mp z45)
              replace H := H.2 z45
              show X 100 34 [vR 4, vI x1, vI x2, vI (h 12 ((x1 * 10) + x2)), vJ 0] [] h _
              obtain ⟨⟨c46, c47, c48, c49⟩, H⟩ := H
              refine X_b 5 39 (L := L_100) rfl rfl rfl ?_
              show X 100 39 [vR 4, vI x1, vI x2, vI (h 12 ((x1 * 10) + x2)), vJ 0] [vR 1, vI x1, vR 2] h _
              refine X_call 109 [vR 1] [vI x1, vR 2] rfl (sg_calv rfl rfl rfl rfl rfl rfl rfl rfl rfl rfl rfl) (by decide) ?_
              show X 109 0 [vR 1] [] h _
              refine X_b 2 2 (L := L_109) rfl rfl rfl ?_
              show X 109 2 [vR 1] [vI (h 1 0)] h _
              refine X_iret (L := L_109) rfl rfl rfl rfl ?_
              show X 100 40 [vR 4, vI x1, vI x2, vI (h 12 ((x1 * 10) + x2)), vJ 0] [vI (h 1 0), vI x1, vR 2] h _
              refine X_b 2 42 (L := L_100) rfl rfl rfl ?_
              show X 100 42 [vR 4, vI x1, vI x2, vI (h 12 ((x1 * 10) + x2)), vJ 0] [vI 9, vI 1, vI (h 1 0), vI x1, vR 2] h _
              refine X_call 81 [vR 2, vI x1, vI (h 1 0), vI 1, vI 9] [] rfl (sg_calv rfl rfl rfl rfl rfl rfl rfl rfl rfl rfl rfl) (by decide) ?_
              show X 81 0 [vR 2, vI x1, vI (h 1 0), vI 1, vI 9] [] h _
              refine X_b 4 4 (L := L_81) rfl rfl rfl ?_
              show X 81 4 [vR 2, vI x1, vI (h 1 0), vI 1, vI 9] [vI 1, vI (h 1 0), vI x1, vR 2] h _
              refine X_call 80 [vR 2, vI x1, vI (h 1 0), vI 1] [] rfl (sg_calv rfl rfl rfl rfl rfl rfl rfl rfl rfl rfl rfl) (by decide) ?_
              show X 80 0 [vR 2, vI x1, vI (h 1 0), vI 1] [] h _
              refine X_b 7 7 (L := L_80) rfl rfl rfl ?_
              show (-2147483648 ≤ x1 * 45 ∧ x1 * 45 ≤ 2147483647) ∧ X 80 7 [vR 2, vI x1, vI (h 1 0), vI 1] [vI 1, vI (h 1 0), vI (x1 * 45), vR 13] h _
              refine ⟨c46, ?_⟩
              refine X_call 27 [vI (h 1 0), vI 1] [vI (x1 * 45), vR 13] rfl (sg_cals rfl rfl rfl rfl rfl rfl rfl rfl rfl rfl) (by decide) ?_
              show X 27 0 [vI (h 1 0), vI 1] [] h _
              refine X_b 5 5 (L := L_27) rfl rfl rfl ?_
              show (-2147483648 ≤ (h 1 0) * 5 ∧ (h 1 0) * 5 ≤ 2147483647) ∧ (-2147483648 ≤ ((h 1 0) * 5) + 1 ∧ ((h 1 0) * 5) + 1 ≤ 2147483647) ∧ X 27 5 [vI (h 1 0), vI 1] [vI (((h 1 0) * 5) + 1)] h _
              refine ⟨c47, c48, ?_⟩
              refine X_iret (L := L_27) rfl rfl rfl rfl ?_
              show X 80 8 [vR 2, vI x1, vI (h 1 0), vI 1] [vI (((h 1 0) * 5) + 1), vI (x1 * 45), vR 13] h _
              refine X_b 2 10 (L := L_80) rfl rfl rfl ?_
              show (-2147483648 ≤ (x1 * 45) + (((h 1 0) * 5) + 1) ∧ (x1 * 45) + (((h 1 0) * 5) + 1) ≤ 2147483647) ∧ (0 ≤ (x1 * 45) + (((h 1 0) * 5) + 1) ∧ (x1 * 45) + (((h 1 0) * 5) + 1) < 2250) ∧ X 80 10 [vR 2, vI x1, vI (h 1 0), vI 1] [vI (h 13 ((x1 * 45) + (((h 1 0) * 5) + 1)))] h _
              refine ⟨by have := c49; omega, c49, ?_⟩
              refine X_iret (L := L_80) rfl rfl rfl rfl ?_
              show X 81 5 [vR 2, vI x1, vI (h 1 0), vI 1, vI 9] [vI (h 13 ((x1 * 45) + (((h 1 0) * 5) + 1)))] h _
              refine X_b 1 6 (L := L_81) rfl rfl rfl ?_
              show X 81 6 [vR 2, vI x1, vI (h 1 0), vI 1, vI 9] [vI 9, vI (h 13 ((x1 * 45) + (((h 1 0) * 5) + 1)))] h _
              refine X_call 26 [vI 9] [vI (h 13 ((x1 * 45) + (((h 1 0) * 5) + 1)))] rfl (sg_cals rfl rfl rfl rfl rfl rfl rfl rfl rfl rfl) (by decide) ?_
              show X 26 0 [vI 9] [] h _
              refine X_b 5 5 (L := L_26) rfl rfl rfl ?_
              show (-2147483648 ≤ (5 : Int) ∧ (5 : Int) ≤ 2147483647) ∧ X 26 5 [vI 9] [vI (b_shl 1 5)] h _
              refine ⟨by decide, ?_⟩
              refine X_iret (L := L_26) rfl rfl rfl rfl ?_
              show X 81 7 [vR 2, vI x1, vI (h 1 0), vI 1, vI 9] [vI (b_shl 1 5), vI (h 13 ((x1 * 45) + (((h 1 0) * 5) + 1)))] h _
              refine X_b 1 8 (L := L_81) rfl rfl rfl ?_
              show X 81 8 [vR 2, vI x1, vI (h 1 0), vI 1, vI 9] [vI (b_and (h 13 ((x1 * 45) + (((h 1 0) * 5) + 1))) (b_shl 1 5))] h _
              refine X_if (L := L_81) (n' := 11) rfl rfl rfl rfl (fun z50 => ?_) (fun z50 => ?_)
              · have z50 : b_and (h 13 ((x1 * 45) + (((h 1 0) * 5) + 1))) (b_shl 1 5) = 0 := z50
                replace H := H.1 z50
                show X 81 11 [vR 2, vI x1, vI (h 1 0), vI 1, vI 9] [] h _
                refine X_b 1 12 (L := L_81) rfl rfl rfl ?_
                show X 81 12 [vR 2, vI x1, vI (h 1 0), vI 1, vI 9] [vI 0] h _
                refine X_zret (L := L_81) rfl rfl rfl rfl (by decide) ?_
                show X 100 43 [vR 4, vI x1, vI x2, vI (h 12 ((x1 * 10) + x2)), vJ 0] [vI 0] h _
                refine X_if (L := L_100) (n' := 46) rfl rfl rfl rfl (fun z => absurd z (show ¬ (¬ (0 : Int) = (0 : Int)) by decide)) (fun _ => ?_)
                show X 100 44 [vR 4, vI x1, vI x2, vI (h 12 ((x1 * 10) + x2)), vJ 0] [] h _
                refine X_b 1 45 (L := L_100) rfl rfl rfl ?_
                show X 100 45 [vR 4, vI x1, vI x2, vI (h 12 ((x1 * 10) + x2)), vJ 0] [vI 1] h _
                refine X_goto (L := L_100) (n' := 47) rfl rfl rfl rfl ?_
                show X 100 47 [vR 4, vI x1, vI x2, vI (h 12 ((x1 * 10) + x2)), vJ 0] [vI 1] h _
                refine X_zret (L := L_100) rfl rfl rfl rfl (by decide) ?_
                exact H
              · have z50 : ¬ b_and (h 13 ((x1 * 45) + (((h 1 0) * 5) + 1))) (b_shl 1 5) = 0 := z50
                replace H := H.2 z50
                show X 81 9 [vR 2, vI x1, vI (h 1 0), vI 1, vI 9] [] h _
                refine X_b 1 10 (L := L_81) rfl rfl rfl ?_
                show X 81 10 [vR 2, vI x1, vI (h 1 0), vI 1, vI 9] [vI 1] h _
                refine X_goto (L := L_81) (n' := 12) rfl rfl rfl rfl ?_
                show X 81 12 [vR 2, vI x1, vI (h 1 0), vI 1, vI 9] [vI 1] h _
                refine X_zret (L := L_81) rfl rfl rfl rfl (by decide) ?_
                show X 100 43 [vR 4, vI x1, vI x2, vI (h 12 ((x1 * 10) + x2)), vJ 0] [vI 1] h _
                refine X_if (L := L_100) (n' := 46) rfl rfl rfl rfl (fun _ => ?_) (fun z => absurd (show ¬ (1 : Int) = (0 : Int) by decide) z)
                show X 100 46 [vR 4, vI x1, vI x2, vI (h 12 ((x1 * 10) + x2)), vJ 0] [] h _
                refine X_b 1 47 (L := L_100) rfl rfl rfl ?_
                show X 100 47 [vR 4, vI x1, vI x2, vI (h 12 ((x1 * 10) + x2)), vJ 0] [vI 0] h _
                refine X_zret (L := L_100) rfl rfl rfl rfl (by decide) ?_
                exact H
        · have z36 : 0 ≤ x2 := (Int.not_lt.mp z36)
          replace H := H.2 z36
          show X 23 2 [vI x2] [] h _
          refine X_b 2 4 (L := L_23) rfl rfl rfl ?_
          show X 23 4 [vI x2] [vI 4, vI x2] h _
          refine X_icmp (L := L_23) (n' := 7) rfl rfl rfl rfl (fun z51 => ?_) (fun z51 => ?_)
          · have z51 : 4 ≤ x2 := z51
            replace H := H.1 z51
            show X 23 7 [vI x2] [] h _
            refine X_b 1 8 (L := L_23) rfl rfl rfl ?_
            show X 23 8 [vI x2] [vI 0] h _
            refine X_zret (L := L_23) rfl rfl rfl rfl (by decide) ?_
            show X 100 25 [vR 4, vI x1, vI x2, vI (h 12 ((x1 * 10) + x2)), vJ 0] [vI 0] h _
            refine X_if (L := L_100) (n' := 28) rfl rfl rfl rfl (fun _ => ?_) (fun z => absurd (show (0 : Int) = (0 : Int) by decide) z)
            show X 100 28 [vR 4, vI x1, vI x2, vI (h 12 ((x1 * 10) + x2)), vJ 0] [] h _
            refine X_b 2 30 (L := L_100) rfl rfl rfl ?_
            show X 100 30 [vR 4, vI x1, vI x2, vI (h 12 ((x1 * 10) + x2)), vJ 0] [vI 200, vI (h 12 ((x1 * 10) + x2))] h _
            refine X_icmp (L := L_100) (n' := 48) rfl rfl rfl rfl (fun z52 => ?_) (fun z52 => ?_)
            · have z52 : ¬ h 12 ((x1 * 10) + x2) = 200 := z52
              replace H := H.1 z52
              show X 100 48 [vR 4, vI x1, vI x2, vI (h 12 ((x1 * 10) + x2)), vJ 0] [] h _
              obtain ⟨⟨c53, c54, c55, c56, c57, c58⟩, H⟩ := H
              refine X_b 14 62 (L := L_100) rfl rfl rfl ?_
              show (-2147483648 ≤ (h 12 ((x1 * 10) + x2)) - 100 ∧ (h 12 ((x1 * 10) + x2)) - 100 ≤ 2147483647) ∧ (0 ≤ (h 12 ((x1 * 10) + x2)) - 100 ∧ (h 12 ((x1 * 10) + x2)) - 100 < 9) ∧ X 100 62 [vR 4, vI x1, vI x2, vI (h 12 ((x1 * 10) + x2)), vI ((h 12 ((x1 * 10) + x2)) - 100)] [vI x2, vI (h 8 ((h 12 ((x1 * 10) + x2)) - 100)), vI ((h 12 ((x1 * 10) + x2)) - 100), vI x1, vR 2] h _
              refine ⟨by have := c53; omega, c53, ?_⟩
              refine X_call 81 [vR 2, vI x1, vI ((h 12 ((x1 * 10) + x2)) - 100), vI (h 8 ((h 12 ((x1 * 10) + x2)) - 100)), vI x2] [] rfl (sg_calv rfl rfl rfl rfl rfl rfl rfl rfl rfl rfl rfl) (by decide) ?_
              show X 81 0 [vR 2, vI x1, vI ((h 12 ((x1 * 10) + x2)) - 100), vI (h 8 ((h 12 ((x1 * 10) + x2)) - 100)), vI x2] [] h _
              refine X_b 4 4 (L := L_81) rfl rfl rfl ?_
              show X 81 4 [vR 2, vI x1, vI ((h 12 ((x1 * 10) + x2)) - 100), vI (h 8 ((h 12 ((x1 * 10) + x2)) - 100)), vI x2] [vI (h 8 ((h 12 ((x1 * 10) + x2)) - 100)), vI ((h 12 ((x1 * 10) + x2)) - 100), vI x1, vR 2] h _
              refine X_call 80 [vR 2, vI x1, vI ((h 12 ((x1 * 10) + x2)) - 100), vI (h 8 ((h 12 ((x1 * 10) + x2)) - 100))] [] rfl (sg_calv rfl rfl rfl rfl rfl rfl rfl rfl rfl rfl rfl) (by decide) ?_
              show X 80 0 [vR 2, vI x1, vI ((h 12 ((x1 * 10) + x2)) - 100), vI (h 8 ((h 12 ((x1 * 10) + x2)) - 100))] [] h _
              refine X_b 7 7 (L := L_80) rfl rfl rfl ?_
              show (-2147483648 ≤ x1 * 45 ∧ x1 * 45 ≤ 2147483647) ∧ X 80 7 [vR 2, vI x1, vI ((h 12 ((x1 * 10) + x2)) - 100), vI (h 8 ((h 12 ((x1 * 10) + x2)) - 100))] [vI (h 8 ((h 12 ((x1 * 10) + x2)) - 100)), vI ((h 12 ((x1 * 10) + x2)) - 100), vI (x1 * 45), vR 13] h _
              refine ⟨c54, ?_⟩
              refine X_call 27 [vI ((h 12 ((x1 * 10) + x2)) - 100), vI (h 8 ((h 12 ((x1 * 10) + x2)) - 100))] [vI (x1 * 45), vR 13] rfl (sg_cals rfl rfl rfl rfl rfl rfl rfl rfl rfl rfl) (by decide) ?_
              show X 27 0 [vI ((h 12 ((x1 * 10) + x2)) - 100), vI (h 8 ((h 12 ((x1 * 10) + x2)) - 100))] [] h _
              refine X_b 5 5 (L := L_27) rfl rfl rfl ?_
              show (-2147483648 ≤ ((h 12 ((x1 * 10) + x2)) - 100) * 5 ∧ ((h 12 ((x1 * 10) + x2)) - 100) * 5 ≤ 2147483647) ∧ (-2147483648 ≤ (((h 12 ((x1 * 10) + x2)) - 100) * 5) + (h 8 ((h 12 ((x1 * 10) + x2)) - 100)) ∧ (((h 12 ((x1 * 10) + x2)) - 100) * 5) + (h 8 ((h 12 ((x1 * 10) + x2)) - 100)) ≤ 2147483647) ∧ X 27 5 [vI ((h 12 ((x1 * 10) + x2)) - 100), vI (h 8 ((h 12 ((x1 * 10) + x2)) - 100))] [vI ((((h 12 ((x1 * 10) + x2)) - 100) * 5) + (h 8 ((h 12 ((x1 * 10) + x2)) - 100)))] h _
              refine ⟨c55, c56, ?_⟩
              refine X_iret (L := L_27) rfl rfl rfl rfl ?_
              show X 80 8 [vR 2, vI x1, vI ((h 12 ((x1 * 10) + x2)) - 100), vI (h 8 ((h 12 ((x1 * 10) + x2)) - 100))] [vI ((((h 12 ((x1 * 10) + x2)) - 100) * 5) + (h 8 ((h 12 ((x1 * 10) + x2)) - 100))), vI (x1 * 45), vR 13] h _
              refine X_b 2 10 (L := L_80) rfl rfl rfl ?_
              show (-2147483648 ≤ (x1 * 45) + ((((h 12 ((x1 * 10) + x2)) - 100) * 5) + (h 8 ((h 12 ((x1 * 10) + x2)) - 100))) ∧ (x1 * 45) + ((((h 12 ((x1 * 10) + x2)) - 100) * 5) + (h 8 ((h 12 ((x1 * 10) + x2)) - 100))) ≤ 2147483647) ∧ (0 ≤ (x1 * 45) + ((((h 12 ((x1 * 10) + x2)) - 100) * 5) + (h 8 ((h 12 ((x1 * 10) + x2)) - 100))) ∧ (x1 * 45) + ((((h 12 ((x1 * 10) + x2)) - 100) * 5) + (h 8 ((h 12 ((x1 * 10) + x2)) - 100))) < 2250) ∧ X 80 10 [vR 2, vI x1, vI ((h 12 ((x1 * 10) + x2)) - 100), vI (h 8 ((h 12 ((x1 * 10) + x2)) - 100))] [vI (h 13 ((x1 * 45) + ((((h 12 ((x1 * 10) + x2)) - 100) * 5) + (h 8 ((h 12 ((x1 * 10) + x2)) - 100)))))] h _
              refine ⟨by have := c57; omega, c57, ?_⟩
              refine X_iret (L := L_80) rfl rfl rfl rfl ?_
              show X 81 5 [vR 2, vI x1, vI ((h 12 ((x1 * 10) + x2)) - 100), vI (h 8 ((h 12 ((x1 * 10) + x2)) - 100)), vI x2] [vI (h 13 ((x1 * 45) + ((((h 12 ((x1 * 10) + x2)) - 100) * 5) + (h 8 ((h 12 ((x1 * 10) + x2)) - 100)))))] h _
              refine X_b 1 6 (L := L_81) rfl rfl rfl ?_
              show X 81 6 [vR 2, vI x1, vI ((h 12 ((x1 * 10) + x2)) - 100), vI (h 8 ((h 12 ((x1 * 10) + x2)) - 100)), vI x2] [vI x2, vI (h 13 ((x1 * 45) + ((((h 12 ((x1 * 10) + x2)) - 100) * 5) + (h 8 ((h 12 ((x1 * 10) + x2)) - 100)))))] h _
              refine X_call 26 [vI x2] [vI (h 13 ((x1 * 45) + ((((h 12 ((x1 * 10) + x2)) - 100) * 5) + (h 8 ((h 12 ((x1 * 10) + x2)) - 100)))))] rfl (sg_cals rfl rfl rfl rfl rfl rfl rfl rfl rfl rfl) (by decide) ?_
              show X 26 0 [vI x2] [] h _
              refine X_b 5 5 (L := L_26) rfl rfl rfl ?_
              show (-2147483648 ≤ x2 - 4 ∧ x2 - 4 ≤ 2147483647) ∧ X 26 5 [vI x2] [vI (b_shl 1 (x2 - 4))] h _
              refine ⟨c58, ?_⟩
              refine X_iret (L := L_26) rfl rfl rfl rfl ?_
              show X 81 7 [vR 2, vI x1, vI ((h 12 ((x1 * 10) + x2)) - 100), vI (h 8 ((h 12 ((x1 * 10) + x2)) - 100)), vI x2] [vI (b_shl 1 (x2 - 4)), vI (h 13 ((x1 * 45) + ((((h 12 ((x1 * 10) + x2)) - 100) * 5) + (h 8 ((h 12 ((x1 * 10) + x2)) - 100)))))] h _
              refine X_b 1 8 (L := L_81) rfl rfl rfl ?_
              show X 81 8 [vR 2, vI x1, vI ((h 12 ((x1 * 10) + x2)) - 100), vI (h 8 ((h 12 ((x1 * 10) + x2)) - 100)), vI x2] [vI (b_and (h 13 ((x1 * 45) + ((((h 12 ((x1 * 10) + x2)) - 100) * 5) + (h 8 ((h 12 ((x1 * 10) + x2)) - 100))))) (b_shl 1 (x2 - 4)))] h _
              refine X_if (L := L_81) (n' := 11) rfl rfl rfl rfl (fun z59 => ?_) (fun z59 => ?_)
              · have z59 : b_and (h 13 ((x1 * 45) + ((((h 12 ((x1 * 10) + x2)) - 100) * 5) + (h 8 ((h 12 ((x1 * 10) + x2)) - 100))))) (b_shl 1 (x2 - 4)) = 0 := z59
                replace H := H.1 z59
                show X 81 11 [vR 2, vI x1, vI ((h 12 ((x1 * 10) + x2)) - 100), vI (h 8 ((h 12 ((x1 * 10) + x2)) - 100)), vI x2] [] h _
                refine X_b 1 12 (L := L_81) rfl rfl rfl ?_
                show X 81 12 [vR 2, vI x1, vI ((h 12 ((x1 * 10) + x2)) - 100), vI (h 8 ((h 12 ((x1 * 10) + x2)) - 100)), vI x2] [vI 0] h _
                refine X_zret (L := L_81) rfl rfl rfl rfl (by decide) ?_
                show X 100 63 [vR 4, vI x1, vI x2, vI (h 12 ((x1 * 10) + x2)), vI ((h 12 ((x1 * 10) + x2)) - 100)] [vI 0] h _
                refine X_if (L := L_100) (n' := 66) rfl rfl rfl rfl (fun z => absurd z (show ¬ (¬ (0 : Int) = (0 : Int)) by decide)) (fun _ => ?_)
                show X 100 64 [vR 4, vI x1, vI x2, vI (h 12 ((x1 * 10) + x2)), vI ((h 12 ((x1 * 10) + x2)) - 100)] [] h _
                refine X_b 1 65 (L := L_100) rfl rfl rfl ?_
                show X 100 65 [vR 4, vI x1, vI x2, vI (h 12 ((x1 * 10) + x2)), vI ((h 12 ((x1 * 10) + x2)) - 100)] [vI 1] h _
                refine X_goto (L := L_100) (n' := 67) rfl rfl rfl rfl ?_
                show X 100 67 [vR 4, vI x1, vI x2, vI (h 12 ((x1 * 10) + x2)), vI ((h 12 ((x1 * 10) + x2)) - 100)] [vI 1] h _
                refine X_zret (L := L_100) rfl rfl rfl rfl (by decide) ?_
                exact H
              · have z59 : ¬ b_and (h 13 ((x1 * 45) + ((((h 12 ((x1 * 10) + x2)) - 100) * 5) + (h 8 ((h 12 ((x1 * 10) + x2)) - 100))))) (b_shl 1 (x2 - 4)) = 0 := z59
                replace H := H.2 z59
                show X 81 9 [vR 2, vI x1, vI ((h 12 ((x1 * 10) + x2)) - 100), vI (h 8 ((h 12 ((x1 * 10) + x2)) - 100)), vI x2] [] h _
                refine X_b 1 10 (L := L_81) rfl rfl rfl ?_
                show X 81 10 [vR 2, vI x1, vI ((h 12 ((x1 * 10) + x2)) - 100), vI (h 8 ((h 12 ((x1 * 10) + x2)) - 100)), vI x2] [vI 1] h _
                refine X_goto (L := L_81) (n' := 12) rfl rfl rfl rfl ?_
                show X 81 12 [vR 2, vI x1, vI ((h 12 ((x1 * 10) + x2)) - 100), vI (h 8 ((h 12 ((x1 * 10) + x2)) - 100)), vI x2] [vI 1] h _
                refine X_zret (L := L_81) rfl rfl rfl rfl (by decide) ?_
                show X 100 63 [vR 4, vI x1, vI x2, vI (h 12 ((x1 * 10) + x2)), vI ((h 12 ((x1 * 10) + x2)) - 100)] [vI 1] h _
                refine X_if (L := L_100) (n' := 66) rfl rfl rfl rfl (fun _ => ?_) (fun z => absurd (show ¬ (1 : Int) = (0 : Int) by decide) z)
                show X 100 66 [vR 4, vI x1, vI x2, vI (h 12 ((x1 * 10) + x2)), vI ((h 12 ((x1 * 10) + x2)) - 100)] [] h _
                refine X_b 1 67 (L := L_100) rfl rfl rfl ?_
                show X 100 67 [vR 4, vI x1, vI x2, vI (h 12 ((x1 * 10) + x2)), vI ((h 12 ((x1 * 10) + x2)) - 100)] [vI 0] h _
                refine X_zret (L := L_100) rfl rfl rfl rfl (by decide) ?_
                exact H
            · have z52 : h 12 ((x1 * 10) + x2) = 200 := (Classical.not_not.mp z52)
              replace H := H.2 z52
              show X 100 31 [vR 4, vI x1, vI x2, vI (h 12 ((x1 * 10) + x2)), vJ 0] [] h _
              refine X_b 2 33 (L := L_100) rfl rfl rfl ?_
              show X 100 33 [vR 4, vI x1, vI x2, vI (h 12 ((x1 * 10) + x2)), vJ 0] [vI 9, vI x2] h _
              refine X_icmp (L := L_100) (n' := 44) rfl rfl rfl rfl (fun z60 => ?_) (fun z60 => ?_)
              · have z60 : ¬ x2 = 9 := z60
                replace H := H.1 z60
                show X 100 44 [vR 4, vI x1, vI x2, vI (h 12 ((x1 * 10) + x2)), vJ 0] [] h _
                refine X_b 1 45 (L := L_100) rfl rfl rfl ?_
                show X 100 45 [vR 4, vI x1, vI x2, vI (h 12 ((x1 * 10) + x2)), vJ 0] [vI 1] h _
                refine X_goto (L := L_100) (n' := 47) rfl rfl rfl rfl ?_
                show X 100 47 [vR 4, vI x1, vI x2, vI (h 12 ((x1 * 10) + x2)), vJ 0] [vI 1] h _
                refine X_zret (L := L_100) rfl rfl rfl rfl (by decide) ?_
                exact H
              · have z60 : x2 = 9 := (Classical.not_not.mp z60)
                replace H := H.2 z60
                show X 100 34 [vR 4, vI x1, vI x2, vI (h 12 ((x1 * 10) + x2)), vJ 0] [] h _
                obtain ⟨⟨c61, c62, c63, c64⟩, H⟩ := H
                refine X_b 5 39 (L := L_100) rfl rfl rfl ?_
                show X 100 39 [vR 4, vI x1, vI x2, vI (h 12 ((x1 * 10) + x2)), vJ 0] [vR 1, vI x1, vR 2] h _
                refine X_call 109 [vR 1] [vI x1, vR 2] rfl (sg_calv rfl rfl rfl rfl rfl rfl rfl rfl rfl rfl rfl) (by decide) ?_
                show X 109 0 [vR 1] [] h _
                refine X_b 2 2 (L := L_109) rfl rfl rfl ?_
                show X 109 2 [vR 1] [vI (h 1 0)] h _
                refine X_iret (L := L_109) rfl rfl rfl rfl ?_
                show X 100 40 [vR 4, vI x1, vI x2, vI (h 12 ((x1 * 10) + x2)), vJ 0] [vI (h 1 0), vI x1, vR 2] h _
                refine X_b 2 42 (L := L_100) rfl rfl rfl ?_
                show X 100 42 [vR 4, vI x1, vI x2, vI (h 12 ((x1 * 10) + x2)), vJ 0] [vI 9, vI 1, vI (h 1 0), vI x1, vR 2] h _
                refine X_call 81 [vR 2, vI x1, vI (h 1 0), vI 1, vI 9] [] rfl (sg_calv rfl rfl rfl rfl rfl rfl rfl rfl rfl rfl rfl) (by decide) ?_
                show X 81 0 [vR 2, vI x1, vI (h 1 0), vI 1, vI 9] [] h _
                refine X_b 4 4 (L := L_81) rfl rfl rfl ?_
                show X 81 4 [vR 2, vI x1, vI (h 1 0), vI 1, vI 9] [vI 1, vI (h 1 0), vI x1, vR 2] h _
                refine X_call 80 [vR 2, vI x1, vI (h 1 0), vI 1] [] rfl (sg_calv rfl rfl rfl rfl rfl rfl rfl rfl rfl rfl rfl) (by decide) ?_
                show X 80 0 [vR 2, vI x1, vI (h 1 0), vI 1] [] h _
                refine X_b 7 7 (L := L_80) rfl rfl rfl ?_
                show (-2147483648 ≤ x1 * 45 ∧ x1 * 45 ≤ 2147483647) ∧ X 80 7 [vR 2, vI x1, vI (h 1 0), vI 1] [vI 1, vI (h 1 0), vI (x1 * 45), vR 13] h _
                refine ⟨c61, ?_⟩
                refine X_call 27 [vI (h 1 0), vI 1] [vI (x1 * 45), vR 13] rfl (sg_cals rfl rfl rfl rfl rfl rfl rfl rfl rfl rfl) (by decide) ?_
                show X 27 0 [vI (h 1 0), vI 1] [] h _
                refine X_b 5 5 (L := L_27) rfl rfl rfl ?_
                show (-2147483648 ≤ (h 1 0) * 5 ∧ (h 1 0) * 5 ≤ 2147483647) ∧ (-2147483648 ≤ ((h 1 0) * 5) + 1 ∧ ((h 1 0) * 5) + 1 ≤ 2147483647) ∧ X 27 5 [vI (h 1 0), vI 1] [vI (((h 1 0) * 5) + 1)] h _
                refine ⟨c62, c63, ?_⟩
                refine X_iret (L := L_27) rfl rfl rfl rfl ?_
                show X 80 8 [vR 2, vI x1, vI (h 1 0), vI 1] [vI (((h 1 0) * 5) + 1), vI (x1 * 45), vR 13] h _
                refine X_b 2 10 (L := L_80) rfl rfl rfl ?_
                show (-2147483648 ≤ (x1 * 45) + (((h 1 0) * 5) + 1) ∧ (x1 * 45) + (((h 1 0) * 5) + 1) ≤ 2147483647) ∧ (0 ≤ (x1 * 45) + (((h 1 0) * 5) + 1) ∧ (x1 * 45) + (((h 1 0) * 5) + 1) < 2250) ∧ X 80 10 [vR 2, vI x1, vI (h 1 0), vI 1] [vI (h 13 ((x1 * 45) + (((h 1 0) * 5) + 1)))] h _
                refine ⟨by have := c64; omega, c64, ?_⟩
                refine X_iret (L := L_80) rfl rfl rfl rfl ?_
                show X 81 5 [vR 2, vI x1, vI (h 1 0), vI 1, vI 9] [vI (h 13 ((x1 * 45) + (((h 1 0) * 5) + 1)))] h _
                refine X_b 1 6 (L := L_81) rfl rfl rfl ?_
                show X 81 6 [vR 2, vI x1, vI (h 1 0), vI 1, vI 9] [vI 9, vI (h 13 ((x1 * 45) + (((h 1 0) * 5) + 1)))] h _
                refine X_call 26 [vI 9] [vI (h 13 ((x1 * 45) + (((h 1 0) * 5) + 1)))] rfl (sg_cals rfl rfl rfl rfl rfl rfl rfl rfl rfl rfl) (by decide) ?_
                show X 26 0 [vI 9] [] h _
                refine X_b 5 5 (L := L_26) rfl rfl rfl ?_
                show (-2147483648 ≤ (5 : Int) ∧ (5 : Int) ≤ 2147483647) ∧ X 26 5 [vI 9] [vI (b_shl 1 5)] h _
                refine ⟨by decide, ?_⟩
                refine X_iret (L := L_26) rfl rfl rfl rfl ?_
                show X 81 7 [vR 2, vI x1, vI (h 1 0), vI 1, vI 9] [vI (b_shl 1 5), vI (h 13 ((x1 * 45) + (((h 1 0) * 5) + 1)))] h _
                refine X_b 1 8 (L := L_81) rfl rfl rfl ?_
                show X 81 8 [vR 2, vI x1, vI (h 1 0), vI 1, vI 9] [vI (b_and (h 13 ((x1 * 45) + (((h 1 0) * 5) + 1))) (b_shl 1 5))] h _
                refine X_if (L := L_81) (n' := 11) rfl rfl rfl rfl (fun z65 => ?_) (fun z65 => ?_)
                · have z65 : b_and (h 13 ((x1 * 45) + (((h 1 0) * 5) + 1))) (b_shl 1 5) = 0 := z65
                  replace H := H.1 z65
                  show X 81 11 [vR 2, vI x1, vI (h 1 0), vI 1, vI 9] [] h _
                  refine X_b 1 12 (L := L_81) rfl rfl rfl ?_
                  show X 81 12 [vR 2, vI x1, vI (h 1 0), vI 1, vI 9] [vI 0] h _
                  refine X_zret (L := L_81) rfl rfl rfl rfl (by decide) ?_
                  show X 100 43 [vR 4, vI x1, vI x2, vI (h 12 ((x1 * 10) + x2)), vJ 0] [vI 0] h _
                  refine X_if (L := L_100) (n' := 46) rfl rfl rfl rfl (fun z => absurd z (show ¬ (¬ (0 : Int) = (0 : Int)) by decide)) (fun _ => ?_)
                  show X 100 44 [vR 4, vI x1, vI x2, vI (h 12 ((x1 * 10) + x2)), vJ 0] [] h _
                  refine X_b 1 45 (L := L_100) rfl rfl rfl ?_
                  show X 100 45 [vR 4, vI x1, vI x2, vI (h 12 ((x1 * 10) + x2)), vJ 0] [vI 1] h _
                  refine X_goto (L := L_100) (n' := 47) rfl rfl rfl rfl ?_
                  show X 100 47 [vR 4, vI x1, vI x2, vI (h 12 ((x1 * 10) + x2)), vJ 0] [vI 1] h _
                  refine X_zret (L := L_100) rfl rfl rfl rfl (by decide) ?_
                  exact H
                · have z65 : ¬ b_and (h 13 ((x1 * 45) + (((h 1 0) * 5) + 1))) (b_shl 1 5) = 0 := z65
                  replace H := H.2 z65
                  show X 81 9 [vR 2, vI x1, vI (h 1 0), vI 1, vI 9] [] h _
                  refine X_b 1 10 (L := L_81) rfl rfl rfl ?_
                  show X 81 10 [vR 2, vI x1, vI (h 1 0), vI 1, vI 9] [vI 1] h _
                  refine X_goto (L := L_81) (n' := 12) rfl rfl rfl rfl ?_
                  show X 81 12 [vR 2, vI x1, vI (h 1 0), vI 1, vI 9] [vI 1] h _
                  refine X_zret (L := L_81) rfl rfl rfl rfl (by decide) ?_
                  show X 100 43 [vR 4, vI x1, vI x2, vI (h 12 ((x1 * 10) + x2)), vJ 0] [vI 1] h _
                  refine X_if (L := L_100) (n' := 46) rfl rfl rfl rfl (fun _ => ?_) (fun z => absurd (show ¬ (1 : Int) = (0 : Int) by decide) z)
                  show X 100 46 [vR 4, vI x1, vI x2, vI (h 12 ((x1 * 10) + x2)), vJ 0] [] h _
                  refine X_b 1 47 (L := L_100) rfl rfl rfl ?_
                  show X 100 47 [vR 4, vI x1, vI x2, vI (h 12 ((x1 * 10) + x2)), vJ 0] [vI 0] h _
                  refine X_zret (L := L_100) rfl rfl rfl rfl (by decide) ?_
                  exact H
          · have z51 : x2 < 4 := (Int.not_le.mp z51)
            replace H := H.2 z51
            show X 23 5 [vI x2] [] h _
            refine X_b 1 6 (L := L_23) rfl rfl rfl ?_
            show X 23 6 [vI x2] [vI 1] h _
            refine X_goto (L := L_23) (n' := 8) rfl rfl rfl rfl ?_
            show X 23 8 [vI x2] [vI 1] h _
            refine X_zret (L := L_23) rfl rfl rfl rfl (by decide) ?_
            show X 100 25 [vR 4, vI x1, vI x2, vI (h 12 ((x1 * 10) + x2)), vJ 0] [vI 1] h _
            refine X_if (L := L_100) (n' := 28) rfl rfl rfl rfl (fun z => absurd z (show ¬ ((1 : Int) = (0 : Int)) by decide)) (fun _ => ?_)
            show X 100 26 [vR 4, vI x1, vI x2, vI (h 12 ((x1 * 10) + x2)), vJ 0] [] h _
            refine X_b 1 27 (L := L_100) rfl rfl rfl ?_
            show X 100 27 [vR 4, vI x1, vI x2, vI (h 12 ((x1 * 10) + x2)), vJ 0] [vI 1] h _
            refine X_zret (L := L_100) rfl rfl rfl rfl (by decide) ?_
            exact H
      · have z35 : h 12 ((x1 * 10) + x2) < 50 := (Int.not_le.mp z35)
        replace H := H.2 z35
        show X 25 5 [vI (h 12 ((x1 * 10) + x2))] [] h _
        refine X_b 1 6 (L := L_25) rfl rfl rfl ?_
        show X 25 6 [vI (h 12 ((x1 * 10) + x2))] [vI 1] h _
        refine X_goto (L := L_25) (n' := 8) rfl rfl rfl rfl ?_
        show X 25 8 [vI (h 12 ((x1 * 10) + x2))] [vI 1] h _
        refine X_zret (L := L_25) rfl rfl rfl rfl (by decide) ?_
        show X 100 13 [vR 4, vI x1, vI x2, vI (h 12 ((x1 * 10) + x2)), vJ 0] [vI 1] h _
        refine X_if (L := L_100) (n' := 23) rfl rfl rfl rfl (fun z => absurd z (show ¬ ((1 : Int) = (0 : Int)) by decide)) (fun _ => ?_)
        show X 100 14 [vR 4, vI x1, vI x2, vI (h 12 ((x1 * 10) + x2)), vJ 0] [] h _
        refine X_b 1 15 (L := L_100) rfl rfl rfl ?_
        show X 100 15 [vR 4, vI x1, vI x2, vI (h 12 ((x1 * 10) + x2)), vJ 0] [vI (h 12 ((x1 * 10) + x2))] h _
        refine X_if (L := L_100) (n' := 19) rfl rfl rfl rfl (fun z66 => ?_) (fun z66 => ?_)
        · have z66 : h 12 ((x1 * 10) + x2) = 0 := z66
          replace H := H.1 z66
          show X 100 19 [vR 4, vI x1, vI x2, vI (h 12 ((x1 * 10) + x2)), vJ 0] [] h _
          refine X_b 1 20 (L := L_100) rfl rfl rfl ?_
          show X 100 20 [vR 4, vI x1, vI x2, vI (h 12 ((x1 * 10) + x2)), vJ 0] [vI 1] h _
          refine X_goto (L := L_100) (n' := 22) rfl rfl rfl rfl ?_
          show X 100 22 [vR 4, vI x1, vI x2, vI (h 12 ((x1 * 10) + x2)), vJ 0] [vI 1] h _
          refine X_zret (L := L_100) rfl rfl rfl rfl (by decide) ?_
          exact H
        · have z66 : ¬ h 12 ((x1 * 10) + x2) = 0 := z66
          replace H := H.2 z66
          show X 100 16 [vR 4, vI x1, vI x2, vI (h 12 ((x1 * 10) + x2)), vJ 0] [] h _
          refine X_b 2 18 (L := L_100) rfl rfl rfl ?_
          show X 100 18 [vR 4, vI x1, vI x2, vI (h 12 ((x1 * 10) + x2)), vJ 0] [vI 9, vI x2] h _
          refine X_icmp (L := L_100) (n' := 21) rfl rfl rfl rfl (fun z67 => ?_) (fun z67 => ?_)
          · have z67 : ¬ x2 = 9 := z67
            replace H := H.1 z67
            show X 100 21 [vR 4, vI x1, vI x2, vI (h 12 ((x1 * 10) + x2)), vJ 0] [] h _
            refine X_b 1 22 (L := L_100) rfl rfl rfl ?_
            show X 100 22 [vR 4, vI x1, vI x2, vI (h 12 ((x1 * 10) + x2)), vJ 0] [vI 0] h _
            refine X_zret (L := L_100) rfl rfl rfl rfl (by decide) ?_
            exact H
          · have z67 : x2 = 9 := (Classical.not_not.mp z67)
            replace H := H.2 z67
            show X 100 19 [vR 4, vI x1, vI x2, vI (h 12 ((x1 * 10) + x2)), vJ 0] [] h _
            refine X_b 1 20 (L := L_100) rfl rfl rfl ?_
            show X 100 20 [vR 4, vI x1, vI x2, vI (h 12 ((x1 * 10) + x2)), vJ 0] [vI 1] h _
            refine X_goto (L := L_100) (n' := 22) rfl rfl rfl rfl ?_
            show X 100 22 [vR 4, vI x1, vI x2, vI (h 12 ((x1 * 10) + x2)), vJ 0] [vI 1] h _
            refine X_zret (L := L_100) rfl rfl rfl rfl (by decide) ?_
            exact H
  · have z3 : h 12 ((x1 * 10) + x2) = (-1) := (Classical.not_not.mp z3)
    replace H := H.2 z3
    show X 100 9 [vR 4, vI x1, vI x2, vI (h 12 ((x1 * 10) + x2)), vJ 0] [] h _
    refine X_b 1 10 (L := L_100) rfl rfl rfl ?_
    show X 100 10 [vR 4, vI x1, vI x2, vI (h 12 ((x1 * 10) + x2)), vJ 0] [vI 0] h _
    refine X_zret (L := L_100) rfl rfl rfl rfl (by decide) ?_
    exact H

/-- Checker.isOpen, row 0 -/
theorem s_101_0 (x1 x2 x3 x4 : Int) (h : ab_S) (K : ab_O → ab_S → Prop) (H : ((-2147483648 ≤ x2 * 4 ∧ x2 * 4 ≤ 2147483647) ∧ (0 ≤ (x2 * 4) + x3 ∧ (x2 * 4) + x3 < 36)) ∧ ((h 9 ((x2 * 4) + x3) < 0 → K (oI 0) h) ∧ (0 ≤ h 9 ((x2 * 4) + x3) → ((4 ≤ h 9 ((x2 * 4) + x3) → K (oI 0) h) ∧ (h 9 ((x2 * 4) + x3) < 4 → ((-2147483648 ≤ x3 + 1 ∧ x3 + 1 ≤ 2147483647) ∧ (-2147483648 ≤ x4 - 4 ∧ x4 - 4 ≤ 2147483647)) ∧ C 113 [vR 1, vI x2, vI (x3 + 1), vI (b_shl 1 (x4 - 4))] h (kI (fun v7 h7 => X 101 23 [vR 4, vI x1, vI x2, vI x3, vI x4, vI (h 9 ((x2 * 4) + x3)), vI v7, vI 0] [] h7 K))))))) : C 101 [vR 4, vI x1, vI x2, vI x3, vI x4] h K := by
  show X 101 0 [vR 4, vI x1, vI x2, vI x3, vI x4, vJ 0, vJ 0, vJ 0] [] h K
  obtain ⟨⟨c1, c2⟩, H⟩ := H
  refine X_b 4 4 (L := L_101) rfl rfl rfl ?_
  show X 101 4 [vR 4, vI x1, vI x2, vI x3, vI x4, vJ 0, vJ 0, vJ 0] [vI x3, vI x2, vR 1] h _
  refine X_call 111 [vR 1, vI x2, vI x3] [] rfl (sg_calv rfl rfl rfl rfl rfl rfl rfl rfl rfl rfl rfl) (by decide) ?_
  show X 111 0 [vR 1, vI x2, vI x3] [] h _
  refine X_b 8 8 (L := L_111) rfl rfl rfl ?_
  show (-2147483648 ≤ x2 * 4 ∧ x2 * 4 ≤ 2147483647) ∧ (-2147483648 ≤ (x2 * 4) + x3 ∧ (x2 * 4) + x3 ≤ 2147483647) ∧ (0 ≤ (x2 * 4) + x3 ∧ (x2 * 4) + x3 < 36) ∧ X 111 8 [vR 1, vI x2, vI x3] [vI (h 9 ((x2 * 4) + x3))] h _
  refine ⟨c1, by have := c2; omega, c2, ?_⟩
  refine X_iret (L := L_111) rfl rfl rfl rfl ?_
  show X 101 5 [vR 4, vI x1, vI x2, vI x3, vI x4, vJ 0, vJ 0, vJ 0] [vI (h 9 ((x2 * 4) + x3))] h _
  refine X_b 2 7 (L := L_101) rfl rfl rfl ?_
  show X 101 7 [vR 4, vI x1, vI x2, vI x3, vI x4, vI (h 9 ((x2 * 4) + x3)), vJ 0, vJ 0] [vI (h 9 ((x2 * 4) + x3))] h _
  refine X_call 23 [vI (h 9 ((x2 * 4) + x3))] [] rfl (sg_cals rfl rfl rfl rfl rfl rfl rfl rfl rfl rfl) (by decide) ?_
  show X 23 0 [vI (h 9 ((x2 * 4) + x3))] [] h _
  refine X_b 1 1 (L := L_23) rfl rfl rfl ?_
  show X 23 1 [vI (h 9 ((x2 * 4) + x3))] [vI (h 9 ((x2 * 4) + x3))] h _
  refine X_if (L := L_23) (n' := 7) rfl rfl rfl rfl (fun z3 => ?_) (fun z3 => ?_)
  · have z3 : h 9 ((x2 * 4) + x3) < 0 := z3
    replace H := H.1 z3
    show X 23 7 [vI (h 9 ((x2 * 4) + x3))] [] h _
    refine X_b 1 8 (L := L_23) rfl rfl rfl ?_
    show X 23 8 [vI (h 9 ((x2 * 4) + x3))] [vI 0] h _
    refine X_zret (L := L_23) rfl rfl rfl rfl (by decide) ?_
    show X 101 8 [vR 4, vI x1, vI x2, vI x3, vI x4, vI (h 9 ((x2 * 4) + x3)), vJ 0, vJ 0] [vI 0] h _
    refine X_if (L := L_101) (n' := 11) rfl rfl rfl rfl (fun z => absurd z (show ¬ (¬ (0 : Int) = (0 : Int)) by decide)) (fun _ => ?_)
    show X 101 9 [vR 4, vI x1, vI x2, vI x3, vI x4, vI (h 9 ((x2 * 4) + x3)), vJ 0, vJ 0] [] h _
    refine X_b 1 10 (L := L_101) rfl rfl rfl ?_
    show X 101 10 [vR 4, vI x1, vI x2, vI x3, vI x4, vI (h 9 ((x2 * 4) + x3)), vJ 0, vJ 0] [vI 0] h _
    refine X_zret (L := L_101) rfl rfl rfl rfl (by decide) ?_
    exact H
  · have z3 : 0 ≤ h 9 ((x2 * 4) + x3) := (Int.not_lt.mp z3)
    replace H := H.2 z3
    show X 23 2 [vI (h 9 ((x2 * 4) + x3))] [] h _
    refine X_b 2 4 (L := L_23) rfl rfl rfl ?_
    show X 23 4 [vI (h 9 ((x2 * 4) + x3))] [vI 4, vI (h 9 ((x2 * 4) + x3))] h _
    refine X_icmp (L := L_23) (n' := 7) rfl rfl rfl rfl (fun z4 => ?_) (fun z4 => ?_)
    · have z4 : 4 ≤ h 9 ((x2 * 4) + x3) := z4
      replace H := H.1 z4
      show X 23 7 [vI (h 9 ((x2 * 4) + x3))] [] h _
      refine X_b 1 8 (L := L_23) rfl rfl rfl ?_
      show X 23 8 [vI (h 9 ((x2 * 4) + x3))] [vI 0] h _
      refine X_zret (L := L_23) rfl rfl rfl rfl (by decide) ?_
      show X 101 8 [vR 4, vI x1, vI x2, vI x3, vI x4, vI (h 9 ((x2 * 4) + x3)), vJ 0, vJ 0] [vI 0] h _
      refine X_if (L := L_101) (n' := 11) rfl rfl rfl rfl (fun z => absurd z (show ¬ (¬ (0 : Int) = (0 : Int)) by decide)) (fun _ => ?_)
      show X 101 9 [vR 4, vI x1, vI x2, vI x3, vI x4, vI (h 9 ((x2 * 4) + x3)), vJ 0, vJ 0] [] h _
      refine X_b 1 10 (L := L_101) rfl rfl rfl ?_
      show X 101 10 [vR 4, vI x1, vI x2, vI x3, vI x4, vI (h 9 ((x2 * 4) + x3)), vJ 0, vJ 0] [vI 0] h _
      refine X_zret (L := L_101) rfl rfl rfl rfl (by decide) ?_
      exact H
    · have z4 : h 9 ((x2 * 4) + x3) < 4 := (Int.not_le.mp z4)
      replace H := H.2 z4
      show X 23 5 [vI (h 9 ((x2 * 4) + x3))] [] h _
      obtain ⟨⟨c5, c6⟩, H⟩ := H
      refine X_b 1 6 (L := L_23) rfl rfl rfl ?_
      show X 23 6 [vI (h 9 ((x2 * 4) + x3))] [vI 1] h _
      refine X_goto (L := L_23) (n' := 8) rfl rfl rfl rfl ?_
      show X 23 8 [vI (h 9 ((x2 * 4) + x3))] [vI 1] h _
      refine X_zret (L := L_23) rfl rfl rfl rfl (by decide) ?_
      show X 101 8 [vR 4, vI x1, vI x2, vI x3, vI x4, vI (h 9 ((x2 * 4) + x3)), vJ 0, vJ 0] [vI 1] h _
      refine X_if (L := L_101) (n' := 11) rfl rfl rfl rfl (fun _ => ?_) (fun z => absurd (show ¬ (1 : Int) = (0 : Int) by decide) z)
      show X 101 11 [vR 4, vI x1, vI x2, vI x3, vI x4, vI (h 9 ((x2 * 4) + x3)), vJ 0, vJ 0] [] h _
      refine X_b 7 18 (L := L_101) rfl rfl rfl ?_
      show (-2147483648 ≤ x3 + 1 ∧ x3 + 1 ≤ 2147483647) ∧ X 101 18 [vR 4, vI x1, vI x2, vI x3, vI x4, vI (h 9 ((x2 * 4) + x3)), vJ 0, vJ 0] [vI x4, vI (x3 + 1), vI x2, vR 1] h _
      refine ⟨c5, ?_⟩
      refine X_call 26 [vI x4] [vI (x3 + 1), vI x2, vR 1] rfl (sg_cals rfl rfl rfl rfl rfl rfl rfl rfl rfl rfl) (by decide) ?_
      show X 26 0 [vI x4] [] h _
      refine X_b 5 5 (L := L_26) rfl rfl rfl ?_
      show (-2147483648 ≤ x4 - 4 ∧ x4 - 4 ≤ 2147483647) ∧ X 26 5 [vI x4] [vI (b_shl 1 (x4 - 4))] h _
      refine ⟨c6, ?_⟩
      refine X_iret (L := L_26) rfl rfl rfl rfl ?_
      show X 101 19 [vR 4, vI x1, vI x2, vI x3, vI x4, vI (h 9 ((x2 * 4) + x3)), vJ 0, vJ 0] [vI (b_shl 1 (x4 - 4)), vI (x3 + 1), vI x2, vR 1] h _
      refine X_call 113 [vR 1, vI x2, vI (x3 + 1), vI (b_shl 1 (x4 - 4))] [] rfl (sg_calv rfl rfl rfl rfl rfl rfl rfl rfl rfl rfl rfl) (by decide) ?_
      refine C_mono H (kI_to ?_)
      intro v7 h7 H
      show X 101 20 [vR 4, vI x1, vI x2, vI x3, vI x4, vI (h 9 ((x2 * 4) + x3)), vJ 0, vJ 0] [vI v7] h7 _
      refine X_b 3 23 (L := L_101) rfl rfl rfl ?_
      show X 101 23 [vR 4, vI x1, vI x2, vI x3, vI x4, vI (h 9 ((x2 * 4) + x3)), vI v7, vI 0] [] h7 _
      exact H

/-- Checker.isOpen, row 23 -/
theorem s_101_23 (x1 x5 x6 x7 : Int) (w2 w3 w4 : ab_V) (h : ab_S) (K : ab_O → ab_S → Prop) (H : ((h 1 0 ≤ x7 → K (oI 0) h) ∧ (x7 < h 1 0 → ((0 ≤ x7 ∧ x7 < 8)) ∧ ((¬ h 7 x7 = x5 → ((-2147483648 ≤ x7 + 1 ∧ x7 + 1 ≤ 2147483647)) ∧ X 101 23 [vR 4, vI x1, w2, w3, w4, vI x5, vI x6, vI (x7 + 1)] [] h K) ∧ (h 7 x7 = x5 → ((-2147483648 ≤ x1 * 45 ∧ x1 * 45 ≤ 2147483647) ∧ (-2147483648 ≤ x7 * 5 ∧ x7 * 5 ≤ 2147483647) ∧ (-2147483648 ≤ (x7 * 5) + 0 ∧ (x7 * 5) + 0 ≤ 2147483647) ∧ (0 ≤ (x1 * 45) + ((x7 * 5) + 0) ∧ (x1 * 45) + ((x7 * 5) + 0) < 2250)) ∧ ((b_and x6 (b_xor (h 13 ((x1 * 45) + ((x7 * 5) + 0))) (-1)) = 0 → ((-2147483648 ≤ x7 + 1 ∧ x7 + 1 ≤ 2147483647)) ∧ X 101 23 [vR 4, vI x1, w2, w3, w4, vI x5, vI x6, vI (x7 + 1)] [] h K) ∧ (¬ b_and x6 (b_xor (h 13 ((x1 * 45) + ((x7 * 5) + 0))) (-1)) = 0 → K (oI 1) h))))))) : X 101 23 [vR 4, vI x1, w2, w3, w4, vI x5, vI x6, vI x7] [] h K := by
  refine X_b 4 27 (L := L_101) rfl rfl rfl ?_
  show X 101 27 [vR 4, vI x1, w2, w3, w4, vI x5, vI x6, vI x7] [vI (h 1 0), vI x7] h _
  refine X_icmp (L := L_101) (n' := 50) rfl rfl rfl rfl (fun z1 => ?_) (fun z1 => ?_)
  · have z1 : h 1 0 ≤ x7 := z1
    replace H := H.1 z1
    show X 101 50 [vR 4, vI x1, w2, w3, w4, vI x5, vI x6, vI x7] [] h _
    refine X_b 1 51 (L := L_101) rfl rfl rfl ?_
    show X 101 51 [vR 4, vI x1, w2, w3, w4, vI x5, vI x6, vI x7] [vI 0] h _
    refine X_zret (L := L_101) rfl rfl rfl rfl (by decide) ?_
    exact H
  · have z1 : x7 < h 1 0 := (Int.not_le.mp z1)
    replace H := H.2 z1
    show X 101 28 [vR 4, vI x1, w2, w3, w4, vI x5, vI x6, vI x7] [] h _
    obtain ⟨c2, H⟩ := H
    refine X_b 6 34 (L := L_101) rfl rfl rfl ?_
    show (0 ≤ x7 ∧ x7 < 8) ∧ X 101 34 [vR 4, vI x1, w2, w3, w4, vI x5, vI x6, vI x7] [vI x5, vI (h 7 x7)] h _
    refine ⟨c2, ?_⟩
    refine X_icmp (L := L_101) (n' := 48) rfl rfl rfl rfl (fun z3 => ?_) (fun z3 => ?_)
    · have z3 : ¬ h 7 x7 = x5 := z3
      replace H := H.1 z3
      show X 101 48 [vR 4, vI x1, w2, w3, w4, vI x5, vI x6, vI x7] [] h _
      obtain ⟨c4, H⟩ := H
      refine X_b 1 49 (L := L_101) rfl rfl rfl ?_
      show (-2147483648 ≤ x7 + 1 ∧ x7 + 1 ≤ 2147483647) ∧ X 101 49 [vR 4, vI x1, w2, w3, w4, vI x5, vI x6, vI (x7 + 1)] [] h _
      refine ⟨c4, ?_⟩
      refine X_goto (L := L_101) (n' := 23) rfl rfl rfl rfl ?_
      show X 101 23 [vR 4, vI x1, w2, w3, w4, vI x5, vI x6, vI (x7 + 1)] [] h _
      exact H
    · have z3 : h 7 x7 = x5 := (Classical.not_not.mp z3)
      replace H := H.2 z3
      show X 101 35 [vR 4, vI x1, w2, w3, w4, vI x5, vI x6, vI x7] [] h _
      obtain ⟨⟨c5, c6, c7, c8⟩, H⟩ := H
      refine X_b 6 41 (L := L_101) rfl rfl rfl ?_
      show X 101 41 [vR 4, vI x1, w2, w3, w4, vI x5, vI x6, vI x7] [vI 0, vI x7, vI x1, vR 2, vI x6] h _
      refine X_call 80 [vR 2, vI x1, vI x7, vI 0] [vI x6] rfl (sg_calv rfl rfl rfl rfl rfl rfl rfl rfl rfl rfl rfl) (by decide) ?_
      show X 80 0 [vR 2, vI x1, vI x7, vI 0] [] h _
      refine X_b 7 7 (L := L_80) rfl rfl rfl ?_
      show (-2147483648 ≤ x1 * 45 ∧ x1 * 45 ≤ 2147483647) ∧ X 80 7 [vR 2, vI x1, vI x7, vI 0] [vI 0, vI x7, vI (x1 * 45), vR 13] h _
      refine ⟨c5, ?_⟩
      refine X_call 27 [vI x7, vI 0] [vI (x1 * 45), vR 13] rfl (sg_cals rfl rfl rfl rfl rfl rfl rfl rfl rfl rfl) (by decide) ?_
      show X 27 0 [vI x7, vI 0] [] h _
      refine X_b 5 5 (L := L_27) rfl rfl rfl ?_
      show (-2147483648 ≤ x7 * 5 ∧ x7 * 5 ≤ 2147483647) ∧ (-2147483648 ≤ (x7 * 5) + 0 ∧ (x7 * 5) + 0 ≤ 2147483647) ∧ X 27 5 [vI x7, vI 0] [vI ((x7 * 5) + 0)] h _
      refine ⟨c6, c7, ?_⟩
      refine X_iret (L := L_27) rfl rfl rfl rfl ?_
      show X 80 8 [vR 2, vI x1, vI x7, vI 0] [vI ((x7 * 5) + 0), vI (x1 * 45), vR 13] h _
      refine X_b 2 10 (L := L_80) rfl rfl rfl ?_
      show (-2147483648 ≤ (x1 * 45) + ((x7 * 5) + 0) ∧ (x1 * 45) + ((x7 * 5) + 0) ≤ 2147483647) ∧ (0 ≤ (x1 * 45) + ((x7 * 5) + 0) ∧ (x1 * 45) + ((x7 * 5) + 0) < 2250) ∧ X 80 10 [vR 2, vI x1, vI x7, vI 0] [vI (h 13 ((x1 * 45) + ((x7 * 5) + 0)))] h _
      refine ⟨by have := c8; omega, c8, ?_⟩
      refine X_iret (L := L_80) rfl rfl rfl rfl ?_
      show X 101 42 [vR 4, vI x1, w2, w3, w4, vI x5, vI x6, vI x7] [vI (h 13 ((x1 * 45) + ((x7 * 5) + 0))), vI x6] h _
      refine X_b 3 45 (L := L_101) rfl rfl rfl ?_
      show X 101 45 [vR 4, vI x1, w2, w3, w4, vI x5, vI x6, vI x7] [vI (b_and x6 (b_xor (h 13 ((x1 * 45) + ((x7 * 5) + 0))) (-1)))] h _
      refine X_if (L := L_101) (n' := 48) rfl rfl rfl rfl (fun z9 => ?_) (fun z9 => ?_)
      · have z9 : b_and x6 (b_xor (h 13 ((x1 * 45) + ((x7 * 5) + 0))) (-1)) = 0 := z9
        replace H := H.1 z9
        show X 101 48 [vR 4, vI x1, w2, w3, w4, vI x5, vI x6, vI x7] [] h _
        obtain ⟨c10, H⟩ := H
        refine X_b 1 49 (L := L_101) rfl rfl rfl ?_
        show (-2147483648 ≤ x7 + 1 ∧ x7 + 1 ≤ 2147483647) ∧ X 101 49 [vR 4, vI x1, w2, w3, w4, vI x5, vI x6, vI (x7 + 1)] [] h _
        refine ⟨c10, ?_⟩
        refine X_goto (L := L_101) (n' := 23) rfl rfl rfl rfl ?_
        show X 101 23 [vR 4, vI x1, w2, w3, w4, vI x5, vI x6, vI (x7 + 1)] [] h _
        exact H
      · have z9 : ¬ b_and x6 (b_xor (h 13 ((x1 * 45) + ((x7 * 5) + 0))) (-1)) = 0 := z9
        replace H := H.2 z9
        show X 101 46 [vR 4, vI x1, w2, w3, w4, vI x5, vI x6, vI x7] [] h _
        refine X_b 1 47 (L := L_101) rfl rfl rfl ?_
        show X 101 47 [vR 4, vI x1, w2, w3, w4, vI x5, vI x6, vI x7] [vI 1] h _
        refine X_zret (L := L_101) rfl rfl rfl rfl (by decide) ?_
        exact H

/-- Checker.isLazy, row 0 -/
theorem s_102_0 (x1 x2 x3 x4 : Int) (h : ab_S) (K : ab_O → ab_S → Prop) (H : ((-2147483648 ≤ x2 * 4 ∧ x2 * 4 ≤ 2147483647) ∧ (0 ≤ (x2 * 4) + x3 ∧ (x2 * 4) + x3 < 36) ∧ (-2147483648 ≤ x1 * 10 ∧ x1 * 10 ≤ 2147483647) ∧ (0 ≤ (x1 * 10) + (h 9 ((x2 * 4) + x3)) ∧ (x1 * 10) + (h 9 ((x2 * 4) + x3)) < 500)) ∧ ((h 12 ((x1 * 10) + (h 9 ((x2 * 4) + x3))) < 0 → K (oI 1) h) ∧ (0 ≤ h 12 ((x1 * 10) + (h 9 ((x2 * 4) + x3))) → ((50 ≤ h 12 ((x1 * 10) + (h 9 ((x2 * 4) + x3))) → K (oI 1) h) ∧ (h 12 ((x1 * 10) + (h 9 ((x2 * 4) + x3))) < 50 → ((-2147483648 ≤ x3 + 1 ∧ x3 + 1 ≤ 2147483647) ∧ (-2147483648 ≤ (h 12 ((x1 * 10) + (h 9 ((x2 * 4) + x3)))) * 45 ∧ (h 12 ((x1 * 10) + (h 9 ((x2 * 4) + x3)))) * 45 ≤ 2147483647) ∧ (-2147483648 ≤ x2 * 5 ∧ x2 * 5 ≤ 2147483647) ∧ (-2147483648 ≤ (x2 * 5) + (x3 + 1) ∧ (x2 * 5) + (x3 + 1) ≤ 2147483647) ∧ (0 ≤ ((h 12 ((x1 * 10) + (h 9 ((x2 * 4) + x3)))) * 45) + ((x2 * 5) + (x3 + 1)) ∧ ((h 12 ((x1 * 10) + (h 9 ((x2 * 4) + x3)))) * 45) + ((x2 * 5) + (x3 + 1)) < 2250) ∧ (-2147483648 ≤ x4 - 4 ∧ x4 - 4 ≤ 2147483647)) ∧ ((b_and (h 13 (((h 12 ((x1 * 10) + (h 9 ((x2 * 4) + x3)))) * 45) + ((x2 * 5) + (x3 + 1)))) (b_shl 1 (x4 - 4)) = 0 → K (oI 1) h) ∧ (¬ b_and (h 13 (((h 12 ((x1 * 10) + (h 9 ((x2 * 4) + x3)))) * 45) + ((x2 * 5) + (x3 + 1)))) (b_shl 1 (x4 - 4)) = 0 → K (oI 0) h))))))) : C 102 [vR 4, vI x1, vI x2, vI x3, vI x4] h K := by
  show X 102 0 [vR 4, vI x1, vI x2, vI x3, vI x4, vJ 0] [] h K
  obtain ⟨⟨c1, c2, c3, c4⟩, H⟩ := H
  refine X_b 7 7 (L := L_102) rfl rfl rfl ?_
  show X 102 7 [vR 4, vI x1, vI x2, vI x3, vI x4, vJ 0] [vI x3, vI x2, vR 1, vI x1, vR 2] h _
  refine X_call 111 [vR 1, vI x2, vI x3] [vI x1, vR 2] rfl (sg_calv rfl rfl rfl rfl rfl rfl rfl rfl rfl rfl rfl) (by decide) ?_
  show X 111 0 [vR 1, vI x2, vI x3] [] h _
  refine X_b 8 8 (L := L_111) rfl rfl rfl ?_
  show (-2147483648 ≤ x2 * 4 ∧ x2 * 4 ≤ 2147483647) ∧ (-2147483648 ≤ (x2 * 4) + x3 ∧ (x2 * 4) + x3 ≤ 2147483647) ∧ (0 ≤ (x2 * 4) + x3 ∧ (x2 * 4) + x3 < 36) ∧ X 111 8 [vR 1, vI x2, vI x3] [vI (h 9 ((x2 * 4) + x3))] h _
  refine ⟨c1, by have := c2; omega, c2, ?_⟩
  refine X_iret (L := L_111) rfl rfl rfl rfl ?_
  show X 102 8 [vR 4, vI x1, vI x2, vI x3, vI x4, vJ 0] [vI (h 9 ((x2 * 4) + x3)), vI x1, vR 2] h _
  refine X_call 78 [vR 2, vI x1, vI (h 9 ((x2 * 4) + x3))] [] rfl (sg_calv rfl rfl rfl rfl rfl rfl rfl rfl rfl rfl rfl) (by decide) ?_
  show X 78 0 [vR 2, vI x1, vI (h 9 ((x2 * 4) + x3))] [] h _
  refine X_b 8 8 (L := L_78) rfl rfl rfl ?_
  show (-2147483648 ≤ x1 * 10 ∧ x1 * 10 ≤ 2147483647) ∧ (-2147483648 ≤ (x1 * 10) + (h 9 ((x2 * 4) + x3)) ∧ (x1 * 10) + (h 9 ((x2 * 4) + x3)) ≤ 2147483647) ∧ (0 ≤ (x1 * 10) + (h 9 ((x2 * 4) + x3)) ∧ (x1 * 10) + (h 9 ((x2 * 4) + x3)) < 500) ∧ X 78 8 [vR 2, vI x1, vI (h 9 ((x2 * 4) + x3))] [vI (h 12 ((x1 * 10) + (h 9 ((x2 * 4) + x3))))] h _
  refine ⟨c3, by have := c4; omega, c4, ?_⟩
  refine X_iret (L := L_78) rfl rfl rfl rfl ?_
  show X 102 9 [vR 4, vI x1, vI x2, vI x3, vI x4, vJ 0] [vI (h 12 ((x1 * 10) + (h 9 ((x2 * 4) + x3))))] h _
  refine X_b 2 11 (L := L_102) rfl rfl rfl ?_
  show X 102 11 [vR 4, vI x1, vI x2, vI x3, vI x4, vI (h 12 ((x1 * 10) + (h 9 ((x2 * 4) + x3))))] [vI (h 12 ((x1 * 10) + (h 9 ((x2 * 4) + x3))))] h _
  refine X_call 25 [vI (h 12 ((x1 * 10) + (h 9 ((x2 * 4) + x3))))] [] rfl (sg_cals rfl rfl rfl rfl rfl rfl rfl rfl rfl rfl) (by decide) ?_
  show X 25 0 [vI (h 12 ((x1 * 10) + (h 9 ((x2 * 4) + x3))))] [] h _
  refine X_b 1 1 (L := L_25) rfl rfl rfl ?_
  show X 25 1 [vI (h 12 ((x1 * 10) + (h 9 ((x2 * 4) + x3))))] [vI (h 12 ((x1 * 10) + (h 9 ((x2 * 4) + x3))))] h _
  refine X_if (L := L_25) (n' := 7) rfl rfl rfl rfl (fun z5 => ?_) (fun z5 => ?_)
  · have z5 : h 12 ((x1 * 10) + (h 9 ((x2 * 4) + x3))) < 0 := z5
    replace H := H.1 z5
    show X 25 7 [vI (h 12 ((x1 * 10) + (h 9 ((x2 * 4) + x3))))] [] h _
    refine X_b 1 8 (L := L_25) rfl rfl rfl ?_
    show X 25 8 [vI (h 12 ((x1 * 10) + (h 9 ((x2 * 4) + x3))))] [vI 0] h _
    refine X_zret (L := L_25) rfl rfl rfl rfl (by decide) ?_
    show X 102 12 [vR 4, vI x1, vI x2, vI x3, vI x4, vI (h 12 ((x1 * 10) + (h 9 ((x2 * 4) + x3))))] [vI 0] h _
    refine X_if (L := L_102) (n' := 23) rfl rfl rfl rfl (fun _ => ?_) (fun z => absurd (show (0 : Int) = (0 : Int) by decide) z)
    show X 102 23 [vR 4, vI x1, vI x2, vI x3, vI x4, vI (h 12 ((x1 * 10) + (h 9 ((x2 * 4) + x3))))] [] h _
    refine X_b 1 24 (L := L_102) rfl rfl rfl ?_
    show X 102 24 [vR 4, vI x1, vI x2, vI x3, vI x4, vI (h 12 ((x1 * 10) + (h 9 ((x2 * 4) + x3))))] [vI 1] h _
    refine X_goto (L := L_102) (n' := 26) rfl rfl rfl rfl ?_
    show X 102 26 [vR 4, vI x1, vI x2, vI x3, vI x4, vI (h 12 ((x1 * 10) + (h 9 ((x2 * 4) + x3))))] [vI 1] h _
    refine X_zret (L := L_102) rfl rfl rfl rfl (by decide) ?_
    exact H
  · have z5 : 0 ≤ h 12 ((x1 * 10) + (h 9 ((x2 * 4) + x3))) := (Int.not_lt.mp z5)
    replace H := H.2 z5
    show X 25 2 [vI (h 12 ((x1 * 10) + (h 9 ((x2 * 4) + x3))))] [] h _
    refine X_b 2 4 (L := L_25) rfl rfl rfl ?_
    show X 25 4 [vI (h 12 ((x1 * 10) + (h 9 ((x2 * 4) + x3))))] [vI 50, vI (h 12 ((x1 * 10) + (h 9 ((x2 * 4) + x3))))] h _
    refine X_icmp (L := L_25) (n' := 7) rfl rfl rfl rfl (fun z6 => ?_) (fun z6 => ?_)
    · have z6 : 50 ≤ h 12 ((x1 * 10) + (h 9 ((x2 * 4) + x3))) := z6
      replace H := H.1 z6
      show X 25 7 [vI (h 12 ((x1 * 10) + (h 9 ((x2 * 4) + x3))))] [] h _
      refine X_b 1 8 (L := L_25) rfl rfl rfl ?_
      show X 25 8 [vI (h 12 ((x1 * 10) + (h 9 ((x2 * 4) + x3))))] [vI 0] h _
      refine X_zret (L := L_25) rfl rfl rfl rfl (by decide) ?_
      show X 102 12 [vR 4, vI x1, vI x2, vI x3, vI x4, vI (h 12 ((x1 * 10) + (h 9 ((x2 * 4) + x3))))] [vI 0] h _
      refine X_if (L := L_102) (n' := 23) rfl rfl rfl rfl (fun _ => ?_) (fun z => absurd (show (0 : Int) = (0 : Int) by decide) z)
      show X 102 23 [vR 4, vI x1, vI x2, vI x3, vI x4, vI (h 12 ((x1 * 10) + (h 9 ((x2 * 4) + x3))))] [] h _
      refine X_b 1 24 (L := L_102) rfl rfl rfl ?_
      show X 102 24 [vR 4, vI x1, vI x2, vI x3, vI x4, vI (h 12 ((x1 * 10) + (h 9 ((x2 * 4) + x3))))] [vI 1] h _
      refine X_goto (L := L_102) (n' := 26) rfl rfl rfl rfl ?_
      show X 102 26 [vR 4, vI x1, vI x2, vI x3, vI x4, vI (h 12 ((x1 * 10) + (h 9 ((x2 * 4) + x3))))] [vI 1] h _
      refine X_zret (L := L_102) rfl rfl rfl rfl (by decide) ?_
      exact H
    · have z6 : h 12 ((x1 * 10) + (h 9 ((x2 * 4) + x3))) < 50 := (Int.not_le.mp z6)
      replace H := H.2 z6
      show X 25 5 [vI (h 12 ((x1 * 10) + (h 9 ((x2 * 4) + x3))))] [] h _
      obtain ⟨⟨c7, c8, c9, c10, c11, c12⟩, H⟩ := H
      refine X_b 1 6 (L := L_25) rfl rfl rfl ?_
      show X 25 6 [vI (h 12 ((x1 * 10) + (h 9 ((x2 * 4) + x3))))] [vI 1] h _
      refine X_goto (L := L_25) (n' := 8) rfl rfl rfl rfl ?_
      show X 25 8 [vI (h 12 ((x1 * 10) + (h 9 ((x2 * 4) + x3))))] [vI 1] h _
      refine X_zret (L := L_25) rfl rfl rfl rfl (by decide) ?_
      show X 102 12 [vR 4, vI x1, vI x2, vI x3, vI x4, vI (h 12 ((x1 * 10) + (h 9 ((x2 * 4) + x3))))] [vI 1] h _
      refine X_if (L := L_102) (n' := 23) rfl rfl rfl rfl (fun z => absurd z (show ¬ ((1 : Int) = (0 : Int)) by decide)) (fun _ => ?_)
      show X 102 13 [vR 4, vI x1, vI x2, vI x3, vI x4, vI (h 12 ((x1 * 10) + (h 9 ((x2 * 4) + x3))))] [] h _
      refine X_b 8 21 (L := L_102) rfl rfl rfl ?_
      show (-2147483648 ≤ x3 + 1 ∧ x3 + 1 ≤ 2147483647) ∧ X 102 21 [vR 4, vI x1, vI x2, vI x3, vI x4, vI (h 12 ((x1 * 10) + (h 9 ((x2 * 4) + x3))))] [vI x4, vI (x3 + 1), vI x2, vI (h 12 ((x1 * 10) + (h 9 ((x2 * 4) + x3)))), vR 2] h _
      refine ⟨c7, ?_⟩
      refine X_call 81 [vR 2, vI (h 12 ((x1 * 10) + (h 9 ((x2 * 4) + x3)))), vI x2, vI (x3 + 1), vI x4] [] rfl (sg_calv rfl rfl rfl rfl rfl rfl rfl rfl rfl rfl rfl) (by decide) ?_
      show X 81 0 [vR 2, vI (h 12 ((x1 * 10) + (h 9 ((x2 * 4) + x3)))), vI x2, vI (x3 + 1), vI x4] [] h _
      refine X_b 4 4 (L := L_81) rfl rfl rfl ?_
      show X 81 4 [vR 2, vI (h 12 ((x1 * 10) + (h 9 ((x2 * 4) + x3)))), vI x2, vI (x3 + 1), vI x4] [vI (x3 + 1), vI x2, vI (h 12 ((x1 * 10) + (h 9 ((x2 * 4) + x3)))), vR 2] h _
      refine X_call 80 [vR 2, vI (h 12 ((x1 * 10) + (h 9 ((x2 * 4) + x3)))), vI x2, vI (x3 + 1)] [] rfl (sg_calv rfl rfl rfl rfl rfl rfl rfl rfl rfl rfl rfl) (by decide) ?_
      show X 80 0 [vR 2, vI (h 12 ((x1 * 10) + (h 9 ((x2 * 4) + x3)))), vI x2, vI (x3 + 1)] [] h _
      refine X_b 7 7 (L := L_80) rfl rfl rfl ?_
      show (-2147483648 ≤ (h 12 ((x1 * 10) + (h 9 ((x2 * 4) + x3)))) * 45 ∧ (h 12 ((x1 * 10) + (h 9 ((x2 * 4) + x3)))) * 45 ≤ 2147483647) ∧ X 80 7 [vR 2, vI (h 12 ((x1 * 10) + (h 9 ((x2 * 4) + x3)))), vI x2, vI (x3 + 1)] [vI (x3 + 1), vI x2, vI ((h 12 ((x1 * 10) + (h 9 ((x2 * 4) + x3)))) * 45), vR 13] h _
      refine ⟨c8, ?_⟩
      refine X_call 27 [vI x2, vI (x3 + 1)] [vI ((h 12 ((x1 * 10) + (h 9 ((x2 * 4) + x3)))) * 45), vR 13] rfl (sg_cals rfl rfl rfl rfl rfl rfl rfl rfl rfl rfl) (by decide) ?_
      show X 27 0 [vI x2, vI (x3 + 1)] [] h _
      refine X_b 5 5 (L := L_27) rfl rfl rfl ?_
      show (-2147483648 ≤ x2 * 5 ∧ x2 * 5 ≤ 2147483647) ∧ (-2147483648 ≤ (x2 * 5) + (x3 + 1) ∧ (x2 * 5) + (x3 + 1) ≤ 2147483647) ∧ X 27 5 [vI x2, vI (x3 + 1)] [vI ((x2 * 5) + (x3 + 1))] h _
      refine ⟨c9, c10, ?_⟩
      refine X_iret (L := L_27) rfl rfl rfl rfl ?_
      show X 80 8 [vR 2, vI (h 12 ((x1 * 10) + (h 9 ((x2 * 4) + x3)))), vI x2, vI (x3 + 1)] [vI ((x2 * 5) + (x3 + 1)), vI ((h 12 ((x1 * 10) + (h 9 ((x2 * 4) + x3)))) * 45), vR 13] h _
      refine X_b 2 10 (L := L_80) rfl rfl rfl ?_
      show (-2147483648 ≤ ((h 12 ((x1 * 10) + (h 9 ((x2 * 4) + x3)))) * 45) + ((x2 * 5) + (x3 + 1)) ∧ ((h 12 ((x1 * 10) + (h 9 ((x2 * 4) + x3)))) * 45) + ((x2 * 5) + (x3 + 1)) ≤ 2147483647) ∧ (0 ≤ ((h 12 ((x1 * 10) + (h 9 ((x2 * 4) + x3)))) * 45) + ((x2 * 5) + (x3 + 1)) ∧ ((h 12 ((x1 * 10) + (h 9 ((x2 * 4) + x3)))) * 45) + ((x2 * 5) + (x3 + 1)) < 2250) ∧ X 80 10 [vR 2, vI (h 12 ((x1 * 10) + (h 9 ((x2 * 4) + x3)))), vI x2, vI (x3 + 1)] [vI (h 13 (((h 12 ((x1 * 10) + (h 9 ((x2 * 4) + x3)))) * 45) + ((x2 * 5) + (x3 + 1))))] h _
      refine ⟨by have := c11; omega, c11, ?_⟩
      refine X_iret (L := L_80) rfl rfl rfl rfl ?_
      show X 81 5 [vR 2, vI (h 12 ((x1 * 10) + (h 9 ((x2 * 4) + x3)))), vI x2, vI (x3 + 1), vI x4] [vI (h 13 (((h 12 ((x1 * 10) + (h 9 ((x2 * 4) + x3)))) * 45) + ((x2 * 5) + (x3 + 1))))] h _
      refine X_b 1 6 (L := L_81) rfl rfl rfl ?_
      show X 81 6 [vR 2, vI (h 12 ((x1 * 10) + (h 9 ((x2 * 4) + x3)))), vI x2, vI (x3 + 1), vI x4] [vI x4, vI (h 13 (((h 12 ((x1 * 10) + (h 9 ((x2 * 4) + x3)))) * 45) + ((x2 * 5) + (x3 + 1))))] h _
      refine X_call 26 [vI x4] [vI (h 13 (((h 12 ((x1 * 10) + (h 9 ((x2 * 4) + x3)))) * 45) + ((x2 * 5) + (x3 + 1))))] rfl (sg_cals rfl rfl rfl rfl rfl rfl rfl rfl rfl rfl) (by decide) ?_
      show X 26 0 [vI x4] [] h _
      refine X_b 5 5 (L := L_26) rfl rfl rfl ?_
      show (-2147483648 ≤ x4 - 4 ∧ x4 - 4 ≤ 2147483647) ∧ X 26 5 [vI x4] [vI (b_shl 1 (x4 - 4))] h _
      refine ⟨c12, ?_⟩
      refine X_iret (L := L_26) rfl rfl rfl rfl ?_
      show X 81 7 [vR 2, vI (h 12 ((x1 * 10) + (h 9 ((x2 * 4) + x3)))), vI x2, vI (x3 + 1), vI x4] [vI (b_shl 1 (x4 - 4)), vI (h 13 (((h 12 ((x1 * 10) + (h 9 ((x2 * 4) + x3)))) * 45) + ((x2 * 5) + (x3 + 1))))] h _
      refine X_b 1 8 (L := L_81) rfl rfl rfl ?_
      show X 81 8 [vR 2, vI (h 12 ((x1 * 10) + (h 9 ((x2 * 4) + x3)))), vI x2, vI (x3 + 1), vI x4] [vI (b_and (h 13 (((h 12 ((x1 * 10) + (h 9 ((x2 * 4) + x3)))) * 45) + ((x2 * 5) + (x3 + 1)))) (b_shl 1 (x4 - 4)))] h _
      refine X_if (L := L_81) (n' := 11) rfl rfl rfl rfl (fun z13 => ?_) (fun z13 => ?_)
      · have z13 : b_and (h 13 (((h 12 ((x1 * 10) + (h 9 ((x2 * 4) + x3)))) * 45) + ((x2 * 5) + (x3 + 1)))) (b_shl 1 (x4 - 4)) = 0 := z13
        replace H := H.1 z13
        show X 81 11 [vR 2, vI (h 12 ((x1 * 10) + (h 9 ((x2 * 4) + x3)))), vI x2, vI (x3 + 1), vI x4] [] h _
        refine X_b 1 12 (L := L_81) rfl rfl rfl ?_
        show X 81 12 [vR 2, vI (h 12 ((x1 * 10) + (h 9 ((x2 * 4) + x3)))), vI x2, vI (x3 + 1), vI x4] [vI 0] h _
        refine X_zret (L := L_81) rfl rfl rfl rfl (by decide) ?_
        show X 102 22 [vR 4, vI x1, vI x2, vI x3, vI x4, vI (h 12 ((x1 * 10) + (h 9 ((x2 * 4) + x3))))] [vI 0] h _
        refine X_if (L := L_102) (n' := 25) rfl rfl rfl rfl (fun z => absurd z (show ¬ (¬ (0 : Int) = (0 : Int)) by decide)) (fun _ => ?_)
        show X 102 23 [vR 4, vI x1, vI x2, vI x3, vI x4, vI (h 12 ((x1 * 10) + (h 9 ((x2 * 4) + x3))))] [] h _
        refine X_b 1 24 (L := L_102) rfl rfl rfl ?_
        show X 102 24 [vR 4, vI x1, vI x2, vI x3, vI x4, vI (h 12 ((x1 * 10) + (h 9 ((x2 * 4) + x3))))] [vI 1] h _
        refine X_goto (L := L_102) (n' := 26) rfl rfl rfl rfl ?_
        show X 102 26 [vR 4, vI x1, vI x2, vI x3, vI x4, vI (h 12 ((x1 * 10) + (h 9 ((x2 * 4) + x3))))] [vI 1] h _
        refine X_zret (L := L_102) rfl rfl rfl rfl (by decide) ?_
        exact H
      · have z13 : ¬ b_and (h 13 (((h 12 ((x1 * 10) + (h 9 ((x2 * 4) + x3)))) * 45) + ((x2 * 5) + (x3 + 1)))) (b_shl 1 (x4 - 4)) = 0 := z13
        replace H := H.2 z13
        show X 81 9 [vR 2, vI (h 12 ((x1 * 10) + (h 9 ((x2 * 4) + x3)))), vI x2, vI (x3 + 1), vI x4] [] h _
        refine X_b 1 10 (L := L_81) rfl rfl rfl ?_
        show X 81 10 [vR 2, vI (h 12 ((x1 * 10) + (h 9 ((x2 * 4) + x3)))), vI x2, vI (x3 + 1), vI x4] [vI 1] h _
        refine X_goto (L := L_81) (n' := 12) rfl rfl rfl rfl ?_
        show X 81 12 [vR 2, vI (h 12 ((x1 * 10) + (h 9 ((x2 * 4) + x3)))), vI x2, vI (x3 + 1), vI x4] [vI 1] h _
        refine X_zret (L := L_81) rfl rfl rfl rfl (by decide) ?_
        show X 102 22 [vR 4, vI x1, vI x2, vI x3, vI x4, vI (h 12 ((x1 * 10) + (h 9 ((x2 * 4) + x3))))] [vI 1] h _
        refine X_if (L := L_102) (n' := 25) rfl rfl rfl rfl (fun _ => ?_) (fun z => absurd (show ¬ (1 : Int) = (0 : Int) by decide) z)
        show X 102 25 [vR 4, vI x1, vI x2, vI x3, vI x4, vI (h 12 ((x1 * 10) + (h 9 ((x2 * 4) + x3))))] [] h _
        refine X_b 1 26 (L := L_102) rfl rfl rfl ?_
        show X 102 26 [vR 4, vI x1, vI x2, vI x3, vI x4, vI (h 12 ((x1 * 10) + (h 9 ((x2 * 4) + x3))))] [vI 0] h _
        refine X_zret (L := L_102) rfl rfl rfl rfl (by decide) ?_
        exact H

/-- Checker.isShy, row 0 -/
theorem s_103_0 (x1 x2 x3 : Int) (h : ab_S) (K : ab_O → ab_S → Prop) (H : ((¬ x2 = h 1 0 → ((-2147483648 ≤ 100 + x2 ∧ 100 + x2 ≤ 2147483647) ∧ (-2147483648 ≤ x1 * 10 ∧ x1 * 10 ≤ 2147483647) ∧ (0 ≤ (x1 * 10) + x3 ∧ (x1 * 10) + x3 < 500)) ∧ ((h 12 ((x1 * 10) + x3) = 100 + x2 → K (oI 0) h) ∧ (¬ h 12 ((x1 * 10) + x3) = 100 + x2 → K (oI 1) h))) ∧ (x2 = h 1 0 → ((-2147483648 ≤ x1 * 10 ∧ x1 * 10 ≤ 2147483647) ∧ (0 ≤ (x1 * 10) + x3 ∧ (x1 * 10) + x3 < 500)) ∧ ((h 12 ((x1 * 10) + x3) = 200 → K (oI 0) h) ∧ (¬ h 12 ((x1 * 10) + x3) = 200 → K (oI 1) h))))) : C 103 [vR 4, vI x1, vI x2, vI x3] h K := by
  show X 103 0 [vR 4, vI x1, vI x2, vI x3, vJ 0] [] h K
  refine X_b 3 3 (L := L_103) rfl rfl rfl ?_
  show X 103 3 [vR 4, vI x1, vI x2, vI x3, vJ 0] [vR 1, vI x2] h _
  refine X_call 109 [vR 1] [vI x2] rfl (sg_calv rfl rfl rfl rfl rfl rfl rfl rfl rfl rfl rfl) (by decide) ?_
  show X 109 0 [vR 1] [] h _
  refine X_b 2 2 (L := L_109) rfl rfl rfl ?_
  show X 109 2 [vR 1] [vI (h 1 0)] h _
  refine X_iret (L := L_109) rfl rfl rfl rfl ?_
  show X 103 4 [vR 4, vI x1, vI x2, vI x3, vJ 0] [vI (h 1 0), vI x2] h _
  refine X_icmp (L := L_103) (n' := 7) rfl rfl rfl rfl (fun z1 => ?_) (fun z1 => ?_)
  · have z1 : ¬ x2 = h 1 0 := z1
    replace H := H.1 z1
    show X 103 7 [vR 4, vI x1, vI x2, vI x3, vJ 0] [] h _
    obtain ⟨⟨c2, c3, c4⟩, H⟩ := H
    refine X_b 8 15 (L := L_103) rfl rfl rfl ?_
    show (-2147483648 ≤ 100 + x2 ∧ 100 + x2 ≤ 2147483647) ∧ X 103 15 [vR 4, vI x1, vI x2, vI x3, vI (100 + x2)] [vI x3, vI x1, vR 2] h _
    refine ⟨c2, ?_⟩
    refine X_call 78 [vR 2, vI x1, vI x3] [] rfl (sg_calv rfl rfl rfl rfl rfl rfl rfl rfl rfl rfl rfl) (by decide) ?_
    show X 78 0 [vR 2, vI x1, vI x3] [] h _
    refine X_b 8 8 (L := L_78) rfl rfl rfl ?_
    show (-2147483648 ≤ x1 * 10 ∧ x1 * 10 ≤ 2147483647) ∧ (-2147483648 ≤ (x1 * 10) + x3 ∧ (x1 * 10) + x3 ≤ 2147483647) ∧ (0 ≤ (x1 * 10) + x3 ∧ (x1 * 10) + x3 < 500) ∧ X 78 8 [vR 2, vI x1, vI x3] [vI (h 12 ((x1 * 10) + x3))] h _
    refine ⟨c3, by have := c4; omega, c4, ?_⟩
    refine X_iret (L := L_78) rfl rfl rfl rfl ?_
    show X 103 16 [vR 4, vI x1, vI x2, vI x3, vI (100 + x2)] [vI (h 12 ((x1 * 10) + x3))] h _
    refine X_b 1 17 (L := L_103) rfl rfl rfl ?_
    show X 103 17 [vR 4, vI x1, vI x2, vI x3, vI (100 + x2)] [vI (100 + x2), vI (h 12 ((x1 * 10) + x3))] h _
    refine X_icmp (L := L_103) (n' := 20) rfl rfl rfl rfl (fun z5 => ?_) (fun z5 => ?_)
    · have z5 : h 12 ((x1 * 10) + x3) = 100 + x2 := z5
      replace H := H.1 z5
      show X 103 20 [vR 4, vI x1, vI x2, vI x3, vI (100 + x2)] [] h _
      refine X_b 1 21 (L := L_103) rfl rfl rfl ?_
      show X 103 21 [vR 4, vI x1, vI x2, vI x3, vI (100 + x2)] [vI 0] h _
      refine X_zret (L := L_103) rfl rfl rfl rfl (by decide) ?_
      exact H
    · have z5 : ¬ h 12 ((x1 * 10) + x3) = 100 + x2 := z5
      replace H := H.2 z5
      show X 103 18 [vR 4, vI x1, vI x2, vI x3, vI (100 + x2)] [] h _
      refine X_b 1 19 (L := L_103) rfl rfl rfl ?_
      show X 103 19 [vR 4, vI x1, vI x2, vI x3, vI (100 + x2)] [vI 1] h _
      refine X_goto (L := L_103) (n' := 21) rfl rfl rfl rfl ?_
      show X 103 21 [vR 4, vI x1, vI x2, vI x3, vI (100 + x2)] [vI 1] h _
      refine X_zret (L := L_103) rfl rfl rfl rfl (by decide) ?_
      exact H
  · have z1 : x2 = h 1 0 := (Classical.not_not.mp z1)
    replace H := H.2 z1
    show X 103 5 [vR 4, vI x1, vI x2, vI x3, vJ 0] [] h _
    obtain ⟨⟨c6, c7⟩, H⟩ := H
    refine X_b 1 6 (L := L_103) rfl rfl rfl ?_
    show X 103 6 [vR 4, vI x1, vI x2, vI x3, vJ 0] [vI 200] h _
    refine X_goto (L := L_103) (n' := 10) rfl rfl rfl rfl ?_
    show X 103 10 [vR 4, vI x1, vI x2, vI x3, vJ 0] [vI 200] h _
    refine X_b 5 15 (L := L_103) rfl rfl rfl ?_
    show X 103 15 [vR 4, vI x1, vI x2, vI x3, vI 200] [vI x3, vI x1, vR 2] h _
    refine X_call 78 [vR 2, vI x1, vI x3] [] rfl (sg_calv rfl rfl rfl rfl rfl rfl rfl rfl rfl rfl rfl) (by decide) ?_
    show X 78 0 [vR 2, vI x1, vI x3] [] h _
    refine X_b 8 8 (L := L_78) rfl rfl rfl ?_
    show (-2147483648 ≤ x1 * 10 ∧ x1 * 10 ≤ 2147483647) ∧ (-2147483648 ≤ (x1 * 10) + x3 ∧ (x1 * 10) + x3 ≤ 2147483647) ∧ (0 ≤ (x1 * 10) + x3 ∧ (x1 * 10) + x3 < 500) ∧ X 78 8 [vR 2, vI x1, vI x3] [vI (h 12 ((x1 * 10) + x3))] h _
    refine ⟨c6, by have := c7; omega, c7, ?_⟩
    refine X_iret (L := L_78) rfl rfl rfl rfl ?_
    show X 103 16 [vR 4, vI x1, vI x2, vI x3, vI 200] [vI (h 12 ((x1 * 10) + x3))] h _
    refine X_b 1 17 (L := L_103) rfl rfl rfl ?_
    show X 103 17 [vR 4, vI x1, vI x2, vI x3, vI 200] [vI 200, vI (h 12 ((x1 * 10) + x3))] h _
    refine X_icmp (L := L_103) (n' := 20) rfl rfl rfl rfl (fun z8 => ?_) (fun z8 => ?_)
    · have z8 : h 12 ((x1 * 10) + x3) = 200 := z8
      replace H := H.1 z8
      show X 103 20 [vR 4, vI x1, vI x2, vI x3, vI 200] [] h _
      refine X_b 1 21 (L := L_103) rfl rfl rfl ?_
      show X 103 21 [vR 4, vI x1, vI x2, vI x3, vI 200] [vI 0] h _
      refine X_zret (L := L_103) rfl rfl rfl rfl (by decide) ?_
      exact H
    · have z8 : ¬ h 12 ((x1 * 10) + x3) = 200 := z8
      replace H := H.2 z8
      show X 103 18 [vR 4, vI x1, vI x2, vI x3, vI 200] [] h _
      refine X_b 1 19 (L := L_103) rfl rfl rfl ?_
      show X 103 19 [vR 4, vI x1, vI x2, vI x3, vI 200] [vI 1] h _
      refine X_goto (L := L_103) (n' := 21) rfl rfl rfl rfl ?_
      show X 103 21 [vR 4, vI x1, vI x2, vI x3, vI 200] [vI 1] h _
      refine X_zret (L := L_103) rfl rfl rfl rfl (by decide) ?_
      exact H

/-- Grammar.codedLength, row 0 -/
theorem s_104_0 (x0 : Int) (h : ab_S) (K : ab_O → ab_S → Prop) (H : K (oI (b_and (b_ushr x0 2) 7)) h) : C 104 [vI x0] h K := by
  show X 104 0 [vI x0] [] h K
  refine X_b 5 5 (L := L_104) rfl rfl rfl ?_
  show X 104 5 [vI x0] [vI (b_and (b_ushr x0 2) 7)] h _
  refine X_iret (L := L_104) rfl rfl rfl rfl ?_
  exact H

/-- Grammar.codedSymbol, row 0 -/
theorem s_105_0 (x0 x1 : Int) (h : ab_S) (K : ab_O → ab_S → Prop) (H : ((-2147483648 ≤ 4 * x1 ∧ 4 * x1 ≤ 2147483647) ∧ (-2147483648 ≤ 5 + (4 * x1) ∧ 5 + (4 * x1) ≤ 2147483647)) ∧ K (oI (b_and (b_ushr x0 (5 + (4 * x1))) 15)) h) : C 105 [vI x0, vI x1] h K := by
  show X 105 0 [vI x0, vI x1] [] h K
  obtain ⟨⟨c1, c2⟩, H⟩ := H
  refine X_b 9 9 (L := L_105) rfl rfl rfl ?_
  show (-2147483648 ≤ 4 * x1 ∧ 4 * x1 ≤ 2147483647) ∧ (-2147483648 ≤ 5 + (4 * x1) ∧ 5 + (4 * x1) ≤ 2147483647) ∧ X 105 9 [vI x0, vI x1] [vI (b_and (b_ushr x0 (5 + (4 * x1))) 15)] h _
  refine ⟨c1, c2, ?_⟩
  refine X_iret (L := L_105) rfl rfl rfl rfl ?_
  exact H

/-- Grammar.isCodedRule, row 0 -/
theorem s_106_0 (x0 : Int) (h : ab_S) (K : ab_O → ab_S → Prop) (H : ((b_and (b_ushr x0 2) 7 ≤ 4 → X 106 10 [vI x0, vI (b_and (b_ushr x0 2) 7), vI 0] [] h K) ∧ (4 < b_and (b_ushr x0 2) 7 → K (oI 0) h))) : C 106 [vI x0] h K := by
  show X 106 0 [vI x0, vJ 0, vJ 0] [] h K
  refine X_b 1 1 (L := L_106) rfl rfl rfl ?_
  show X 106 1 [vI x0, vJ 0, vJ 0] [vI x0] h _
  refine X_call 104 [vI x0] [] rfl (sg_cals rfl rfl rfl rfl rfl rfl rfl rfl rfl rfl) (by decide) ?_
  show X 104 0 [vI x0] [] h _
  refine X_b 5 5 (L := L_104) rfl rfl rfl ?_
  show X 104 5 [vI x0] [vI (b_and (b_ushr x0 2) 7)] h _
  refine X_iret (L := L_104) rfl rfl rfl rfl ?_
  show X 106 2 [vI x0, vJ 0, vJ 0] [vI (b_and (b_ushr x0 2) 7)] h _
  refine X_b 3 5 (L := L_106) rfl rfl rfl ?_
  show X 106 5 [vI x0, vI (b_and (b_ushr x0 2) 7), vJ 0] [vI 4, vI (b_and (b_ushr x0 2) 7)] h _
  refine X_icmp (L := L_106) (n' := 8) rfl rfl rfl rfl (fun z1 => ?_) (fun z1 => ?_)
  · have z1 : b_and (b_ushr x0 2) 7 ≤ 4 := z1
    replace H := H.1 z1
    show X 106 8 [vI x0, vI (b_and (b_ushr x0 2) 7), vJ 0] [] h _
    refine X_b 2 10 (L := L_106) rfl rfl rfl ?_
    show X 106 10 [vI x0, vI (b_and (b_ushr x0 2) 7), vI 0] [] h _
    exact H
  · have z1 : 4 < b_and (b_ushr x0 2) 7 := (Int.not_le.mp z1)
    replace H := H.2 z1
    show X 106 6 [vI x0, vI (b_and (b_ushr x0 2) 7), vJ 0] [] h _
    refine X_b 1 7 (L := L_106) rfl rfl rfl ?_
    show X 106 7 [vI x0, vI (b_and (b_ushr x0 2) 7), vJ 0] [vI 0] h _
    refine X_zret (L := L_106) rfl rfl rfl rfl (by decide) ?_
    exact H

/-- Grammar.isCodedRule, row 10 -/
theorem s_106_10 (x0 x1 x2 : Int) (h : ab_S) (K : ab_O → ab_S → Prop) (H : ((x1 ≤ x2 → K (oI 1) h) ∧ (x2 < x1 → ((-2147483648 ≤ 4 * x2 ∧ 4 * x2 ≤ 2147483647) ∧ (-2147483648 ≤ 5 + (4 * x2) ∧ 5 + (4 * x2) ≤ 2147483647)) ∧ ((b_and (b_ushr x0 (5 + (4 * x2))) 15 < 9 → ((-2147483648 ≤ x2 + 1 ∧ x2 + 1 ≤ 2147483647)) ∧ X 106 10 [vI x0, vI x1, vI (x2 + 1)] [] h K) ∧ (9 ≤ b_and (b_ushr x0 (5 + (4 * x2))) 15 → K (oI 0) h))))) : X 106 10 [vI x0, vI x1, vI x2] [] h K := by
  refine X_b 2 12 (L := L_106) rfl rfl rfl ?_
  show X 106 12 [vI x0, vI x1, vI x2] [vI x1, vI x2] h _
  refine X_icmp (L := L_106) (n' := 22) rfl rfl rfl rfl (fun z1 => ?_) (fun z1 => ?_)
  · have z1 : x1 ≤ x2 := z1
    replace H := H.1 z1
    show X 106 22 [vI x0, vI x1, vI x2] [] h _
    refine X_b 1 23 (L := L_106) rfl rfl rfl ?_
    show X 106 23 [vI x0, vI x1, vI x2] [vI 1] h _
    refine X_zret (L := L_106) rfl rfl rfl rfl (by decide) ?_
    exact H
  · have z1 : x2 < x1 := (Int.not_le.mp z1)
    replace H := H.2 z1
    show X 106 13 [vI x0, vI x1, vI x2] [] h _
    obtain ⟨⟨c2, c3⟩, H⟩ := H
    refine X_b 2 15 (L := L_106) rfl rfl rfl ?_
    show X 106 15 [vI x0, vI x1, vI x2] [vI x2, vI x0] h _
    refine X_call 105 [vI x0, vI x2] [] rfl (sg_cals rfl rfl rfl rfl rfl rfl rfl rfl rfl rfl) (by decide) ?_
    show X 105 0 [vI x0, vI x2] [] h _
    refine X_b 9 9 (L := L_105) rfl rfl rfl ?_
    show (-2147483648 ≤ 4 * x2 ∧ 4 * x2 ≤ 2147483647) ∧ (-2147483648 ≤ 5 + (4 * x2) ∧ 5 + (4 * x2) ≤ 2147483647) ∧ X 105 9 [vI x0, vI x2] [vI (b_and (b_ushr x0 (5 + (4 * x2))) 15)] h _
    refine ⟨c2, c3, ?_⟩
    refine X_iret (L := L_105) rfl rfl rfl rfl ?_
    show X 106 16 [vI x0, vI x1, vI x2] [vI (b_and (b_ushr x0 (5 + (4 * x2))) 15)] h _
    refine X_b 1 17 (L := L_106) rfl rfl rfl ?_
    show X 106 17 [vI x0, vI x1, vI x2] [vI 9, vI (b_and (b_ushr x0 (5 + (4 * x2))) 15)] h _
    refine X_icmp (L := L_106) (n' := 20) rfl rfl rfl rfl (fun z4 => ?_) (fun z4 => ?_)
    · have z4 : b_and (b_ushr x0 (5 + (4 * x2))) 15 < 9 := z4
      replace H := H.1 z4
      show X 106 20 [vI x0, vI x1, vI x2] [] h _
      obtain ⟨c5, H⟩ := H
      refine X_b 1 21 (L := L_106) rfl rfl rfl ?_
      show (-2147483648 ≤ x2 + 1 ∧ x2 + 1 ≤ 2147483647) ∧ X 106 21 [vI x0, vI x1, vI (x2 + 1)] [] h _
      refine ⟨c5, ?_⟩
      refine X_goto (L := L_106) (n' := 10) rfl rfl rfl rfl ?_
      show X 106 10 [vI x0, vI x1, vI (x2 + 1)] [] h _
      exact H
    · have z4 : 9 ≤ b_and (b_ushr x0 (5 + (4 * x2))) 15 := (Int.not_lt.mp z4)
      replace H := H.2 z4
      show X 106 18 [vI x0, vI x1, vI x2] [] h _
      refine X_b 1 19 (L := L_106) rfl rfl rfl ?_
      show X 106 19 [vI x0, vI x1, vI x2] [vI 0] h _
      refine X_zret (L := L_106) rfl rfl rfl rfl (by decide) ?_
      exact H

/-- Grammar.add, row 0 -/
theorem s_107_0 (x1 : Int) (h : ab_S) (K : ab_O → ab_S → Prop) (H : ((0 ≤ h 1 0 ∧ h 1 0 < 8) ∧ (0 ≤ h 1 0 ∧ h 1 0 < 9)) ∧ X 107 18 [vR 1, vI x1, vI (h 1 0), vI 0] [] (ab_up (ab_up h 7 (h 1 0) (b_and x1 3)) 8 (h 1 0) (b_and (b_ushr x1 2) 7)) K) : C 107 [vR 1, vI x1] h K := by
  show X 107 0 [vR 1, vI x1, vJ 0, vJ 0] [] h K
  obtain ⟨⟨c1, c2⟩, H⟩ := H
  refine X_b 14 14 (L := L_107) rfl rfl rfl ?_
  show (0 ≤ h 1 0 ∧ h 1 0 < 8) ∧ X 107 14 [vR 1, vI x1, vI (h 1 0), vJ 0] [vI x1, vI (h 1 0), vR 8] (ab_up h 7 (h 1 0) (b_and x1 3)) _
  refine ⟨c1, ?_⟩
  refine X_call 104 [vI x1] [vI (h 1 0), vR 8] rfl (sg_cals rfl rfl rfl rfl rfl rfl rfl rfl rfl rfl) (by decide) ?_
  show X 104 0 [vI x1] [] (ab_up h 7 (h 1 0) (b_and x1 3)) _
  refine X_b 5 5 (L := L_104) rfl rfl rfl ?_
  show X 104 5 [vI x1] [vI (b_and (b_ushr x1 2) 7)] (ab_up h 7 (h 1 0) (b_and x1 3)) _
  refine X_iret (L := L_104) rfl rfl rfl rfl ?_
  show X 107 15 [vR 1, vI x1, vI (h 1 0), vJ 0] [vI (b_and (b_ushr x1 2) 7), vI (h 1 0), vR 8] (ab_up h 7 (h 1 0) (b_and x1 3)) _
  refine X_b 3 18 (L := L_107) rfl rfl rfl ?_
  show (0 ≤ h 1 0 ∧ h 1 0 < 9) ∧ X 107 18 [vR 1, vI x1, vI (h 1 0), vI 0] [] (ab_up (ab_up h 7 (h 1 0) (b_and x1 3)) 8 (h 1 0) (b_and (b_ushr x1 2) 7)) _
  refine ⟨c2, ?_⟩
  exact H

/-- Grammar.add, row 18 -/
theorem s_107_18 (x1 x2 x3 : Int) (h : ab_S) (K : ab_O → ab_S → Prop) (H : ((0 ≤ x2 ∧ x2 < 9)) ∧ ((h 8 x2 ≤ x3 → ((0 ≤ (h 1 0) + 1 ∧ (h 1 0) + 1 < 9) ∧ (-2147483648 ≤ ((h 1 0) + 1) * 4 ∧ ((h 1 0) + 1) * 4 ≤ 2147483647) ∧ (0 ≤ ((h 1 0) + 1) * 4 ∧ ((h 1 0) + 1) * 4 < 36)) ∧ K (oI x2) (ab_up (ab_up (ab_up h 1 0 ((h 1 0) + 1)) 8 ((h 1 0) + 1) 1) 9 (((h 1 0) + 1) * 4) (h 7 0))) ∧ (x3 < h 8 x2 → ((-2147483648 ≤ x2 * 4 ∧ x2 * 4 ≤ 2147483647) ∧ (-2147483648 ≤ (x2 * 4) + x3 ∧ (x2 * 4) + x3 ≤ 2147483647) ∧ (-2147483648 ≤ 4 * x3 ∧ 4 * x3 ≤ 2147483647) ∧ (-2147483648 ≤ 5 + (4 * x3) ∧ 5 + (4 * x3) ≤ 2147483647) ∧ (0 ≤ (x2 * 4) + x3 ∧ (x2 * 4) + x3 < 36) ∧ (-2147483648 ≤ x3 + 1 ∧ x3 + 1 ≤ 2147483647)) ∧ X 107 18 [vR 1, vI x1, vI x2, vI (x3 + 1)] [] (ab_up h 9 ((x2 * 4) + x3) (b_and (b_ushr x1 (5 + (4 * x3))) 15)) K))) : X 107 18 [vR 1, vI x1, vI x2, vI x3] [] h K := by
  obtain ⟨c1, H⟩ := H
  refine X_b 5 23 (L := L_107) rfl rfl rfl ?_
  show (0 ≤ x2 ∧ x2 < 9) ∧ X 107 23 [vR 1, vI x1, vI x2, vI x3] [vI (h 8 x2), vI x3] h _
  refine ⟨c1, ?_⟩
  refine X_icmp (L := L_107) (n' := 37) rfl rfl rfl rfl (fun z2 => ?_) (fun z2 => ?_)
  · have z2 : h 8 x2 ≤ x3 := z2
    replace H := H.1 z2
    show X 107 37 [vR 1, vI x1, vI x2, vI x3] [] h _
    obtain ⟨⟨c3, c4, c5⟩, H⟩ := H
    refine X_b 19 56 (L := L_107) rfl rfl rfl ?_
    show (-2147483648 ≤ (h 1 0) + 1 ∧ (h 1 0) + 1 ≤ 2147483647) ∧ (0 ≤ (h 1 0) + 1 ∧ (h 1 0) + 1 < 9) ∧ (-2147483648 ≤ ((h 1 0) + 1) * 4 ∧ ((h 1 0) + 1) * 4 ≤ 2147483647) ∧ X 107 56 [vR 1, vI x1, vI x2, vI x3] [vR 1, vI (((h 1 0) + 1) * 4), vR 9] (ab_up (ab_up h 1 0 ((h 1 0) + 1)) 8 ((h 1 0) + 1) 1) _
    refine ⟨by have := c3; omega, c3, c4, ?_⟩
    refine X_call 110 [vR 1] [vI (((h 1 0) + 1) * 4), vR 9] rfl (sg_calv rfl rfl rfl rfl rfl rfl rfl rfl rfl rfl rfl) (by decide) ?_
    show X 110 0 [vR 1] [] (ab_up (ab_up h 1 0 ((h 1 0) + 1)) 8 ((h 1 0) + 1) 1) _
    refine X_b 4 4 (L := L_110) rfl rfl rfl ?_
    show (0 ≤ (0 : Int) ∧ (0 : Int) < 8) ∧ X 110 4 [vR 1] [vI (h 7 0)] (ab_up (ab_up h 1 0 ((h 1 0) + 1)) 8 ((h 1 0) + 1) 1) _
    refine ⟨by decide, ?_⟩
    refine X_iret (L := L_110) rfl rfl rfl rfl ?_
    show X 107 57 [vR 1, vI x1, vI x2, vI x3] [vI (h 7 0), vI (((h 1 0) + 1) * 4), vR 9] (ab_up (ab_up h 1 0 ((h 1 0) + 1)) 8 ((h 1 0) + 1) 1) _
    refine X_b 2 59 (L := L_107) rfl rfl rfl ?_
    show (0 ≤ ((h 1 0) + 1) * 4 ∧ ((h 1 0) + 1) * 4 < 36) ∧ X 107 59 [vR 1, vI x1, vI x2, vI x3] [vI x2] (ab_up (ab_up (ab_up h 1 0 ((h 1 0) + 1)) 8 ((h 1 0) + 1) 1) 9 (((h 1 0) + 1) * 4) (h 7 0)) _
    refine ⟨c5, ?_⟩
    refine X_iret (L := L_107) rfl rfl rfl rfl ?_
    exact H
  · have z2 : x3 < h 8 x2 := (Int.not_le.mp z2)
    replace H := H.2 z2
    show X 107 24 [vR 1, vI x1, vI x2, vI x3] [] h _
    obtain ⟨⟨c6, c7, c8, c9, c10, c11⟩, H⟩ := H
    refine X_b 9 33 (L := L_107) rfl rfl rfl ?_
    show (-2147483648 ≤ x2 * 4 ∧ x2 * 4 ≤ 2147483647) ∧ (-2147483648 ≤ (x2 * 4) + x3 ∧ (x2 * 4) + x3 ≤ 2147483647) ∧ X 107 33 [vR 1, vI x1, vI x2, vI x3] [vI x3, vI x1, vI ((x2 * 4) + x3), vR 9] h _
    refine ⟨c6, c7, ?_⟩
    refine X_call 105 [vI x1, vI x3] [vI ((x2 * 4) + x3), vR 9] rfl (sg_cals rfl rfl rfl rfl rfl rfl rfl rfl rfl rfl) (by decide) ?_
    show X 105 0 [vI x1, vI x3] [] h _
    refine X_b 9 9 (L := L_105) rfl rfl rfl ?_
    show (-2147483648 ≤ 4 * x3 ∧ 4 * x3 ≤ 2147483647) ∧ (-2147483648 ≤ 5 + (4 * x3) ∧ 5 + (4 * x3) ≤ 2147483647) ∧ X 105 9 [vI x1, vI x3] [vI (b_and (b_ushr x1 (5 + (4 * x3))) 15)] h _
    refine ⟨c8, c9, ?_⟩
    refine X_iret (L := L_105) rfl rfl rfl rfl ?_
    show X 107 34 [vR 1, vI x1, vI x2, vI x3] [vI (b_and (b_ushr x1 (5 + (4 * x3))) 15), vI ((x2 * 4) + x3), vR 9] h _
    refine X_b 2 36 (L := L_107) rfl rfl rfl ?_
    show (0 ≤ (x2 * 4) + x3 ∧ (x2 * 4) + x3 < 36) ∧ (-2147483648 ≤ x3 + 1 ∧ x3 + 1 ≤ 2147483647) ∧ X 107 36 [vR 1, vI x1, vI x2, vI (x3 + 1)] [] (ab_up h 9 ((x2 * 4) + x3) (b_and (b_ushr x1 (5 + (4 * x3))) 15)) _
    refine ⟨c10, c11, ?_⟩
    refine X_goto (L := L_107) (n' := 18) rfl rfl rfl rfl ?_
    show X 107 18 [vR 1, vI x1, vI x2, vI (x3 + 1)] [] (ab_up h 9 ((x2 * 4) + x3) (b_and (b_ushr x1 (5 + (4 * x3))) 15)) _
    exact H

/-- Grammar.removeAll, row 0 -/
theorem s_108_0 (h : ab_S) (K : ab_O → ab_S → Prop) (H : K oV (ab_up h 1 0 0)) : C 108 [vR 1] h K := by
  show X 108 0 [vR 1] [] h K
  refine X_b 3 3 (L := L_108) rfl rfl rfl ?_
  show X 108 3 [vR 1] [] (ab_up h 1 0 0) _
  refine X_ret (L := L_108) rfl rfl rfl rfl ?_
  exact H

/-- Grammar.top, row 0 -/
theorem s_109_0 (h : ab_S) (K : ab_O → ab_S → Prop) (H : K (oI (h 1 0)) h) : C 109 [vR 1] h K := by
  show X 109 0 [vR 1] [] h K
  refine X_b 2 2 (L := L_109) rfl rfl rfl ?_
  show X 109 2 [vR 1] [vI (h 1 0)] h _
  refine X_iret (L := L_109) rfl rfl rfl rfl ?_
  exact H

/-- Grammar.start, row 0 -/
theorem s_110_0 (h : ab_S) (K : ab_O → ab_S → Prop) (H : K (oI (h 7 0)) h) : C 110 [vR 1] h K := by
  show X 110 0 [vR 1] [] h K
  refine X_b 4 4 (L := L_110) rfl rfl rfl ?_
  show (0 ≤ (0 : Int) ∧ (0 : Int) < 8) ∧ X 110 4 [vR 1] [vI (h 7 0)] h _
  refine ⟨by decide, ?_⟩
  refine X_iret (L := L_110) rfl rfl rfl rfl ?_
  exact H

/-- Grammar.symbolAt, row 0 -/
theorem s_111_0 (x1 x2 : Int) (h : ab_S) (K : ab_O → ab_S → Prop) (H : ((-2147483648 ≤ x1 * 4 ∧ x1 * 4 ≤ 2147483647) ∧ (0 ≤ (x1 * 4) + x2 ∧ (x1 * 4) + x2 < 36)) ∧ K (oI (h 9 ((x1 * 4) + x2))) h) : C 111 [vR 1, vI x1, vI x2] h K := by
  show X 111 0 [vR 1, vI x1, vI x2] [] h K
  obtain ⟨⟨c1, c2⟩, H⟩ := H
  refine X_b 8 8 (L := L_111) rfl rfl rfl ?_
  show (-2147483648 ≤ x1 * 4 ∧ x1 * 4 ≤ 2147483647) ∧ (-2147483648 ≤ (x1 * 4) + x2 ∧ (x1 * 4) + x2 ≤ 2147483647) ∧ (0 ≤ (x1 * 4) + x2 ∧ (x1 * 4) + x2 < 36) ∧ X 111 8 [vR 1, vI x1, vI x2] [vI (h 9 ((x1 * 4) + x2))] h _
  refine ⟨c1, by have := c2; omega, c2, ?_⟩
  refine X_iret (L := L_111) rfl rfl rfl rfl ?_
  exact H

/-- Grammar.isNullable, row 0 -/
theorem s_112_0 (x1 : Int) (h : ab_S) (K : ab_O → ab_S → Prop) (H : X 112 2 [vR 1, vI x1, vI 0, vJ 0] [] h K) : C 112 [vR 1, vI x1] h K := by
  show X 112 0 [vR 1, vI x1, vJ 0, vJ 0] [] h K
  refine X_b 2 2 (L := L_112) rfl rfl rfl ?_
  show X 112 2 [vR 1, vI x1, vI 0, vJ 0] [] h _
  exact H

/-- Grammar.isNullable, row 2 -/
theorem s_112_2 (x1 x2 : Int) (w3 : ab_V) (h : ab_S) (K : ab_O → ab_S → Prop) (H : ((0 ≤ x1 ∧ x1 < 9)) ∧ ((h 8 x1 ≤ x2 → K (oI 1) h) ∧ (x2 < h 8 x1 → ((-2147483648 ≤ x1 * 4 ∧ x1 * 4 ≤ 2147483647) ∧ (0 ≤ (x1 * 4) + x2 ∧ (x1 * 4) + x2 < 36)) ∧ ((h 9 ((x1 * 4) + x2) < 0 → K (oI 0) h) ∧ (0 ≤ h 9 ((x1 * 4) + x2) → ((4 ≤ h 9 ((x1 * 4) + x2) → K (oI 0) h) ∧ (h 9 ((x1 * 4) + x2) < 4 → ((0 ≤ h 9 ((x1 * 4) + x2) ∧ h 9 ((x1 * 4) + x2) < 4)) ∧ ((¬ h 10 (h 9 ((x1 * 4) + x2)) = 0 → ((-2147483648 ≤ x2 + 1 ∧ x2 + 1 ≤ 2147483647)) ∧ X 112 2 [vR 1, vI x1, vI (x2 + 1), vI (h 9 ((x1 * 4) + x2))] [] h K) ∧ (h 10 (h 9 ((x1 * 4) + x2)) = 0 → K (oI 0) h))))))))) : X 112 2 [vR 1, vI x1, vI x2, w3] [] h K := by
  obtain ⟨c1, H⟩ := H
  refine X_b 5 7 (L := L_112) rfl rfl rfl ?_
  show (0 ≤ x1 ∧ x1 < 9) ∧ X 112 7 [vR 1, vI x1, vI x2, w3] [vI (h 8 x1), vI x2] h _
  refine ⟨c1, ?_⟩
  refine X_icmp (L := L_112) (n' := 25) rfl rfl rfl rfl (fun z2 => ?_) (fun z2 => ?_)
  · have z2 : h 8 x1 ≤ x2 := z2
    replace H := H.1 z2
    show X 112 25 [vR 1, vI x1, vI x2, w3] [] h _
    refine X_b 1 26 (L := L_112) rfl rfl rfl ?_
    show X 112 26 [vR 1, vI x1, vI x2, w3] [vI 1] h _
    refine X_zret (L := L_112) rfl rfl rfl rfl (by decide) ?_
    exact H
  · have z2 : x2 < h 8 x1 := (Int.not_le.mp z2)
    replace H := H.2 z2
    show X 112 8 [vR 1, vI x1, vI x2, w3] [] h _
    obtain ⟨⟨c3, c4⟩, H⟩ := H
    refine X_b 3 11 (L := L_112) rfl rfl rfl ?_
    show X 112 11 [vR 1, vI x1, vI x2, w3] [vI x2, vI x1, vR 1] h _
    refine X_call 111 [vR 1, vI x1, vI x2] [] rfl (sg_calv rfl rfl rfl rfl rfl rfl rfl rfl rfl rfl rfl) (by decide) ?_
    show X 111 0 [vR 1, vI x1, vI x2] [] h _
    refine X_b 8 8 (L := L_111) rfl rfl rfl ?_
    show (-2147483648 ≤ x1 * 4 ∧ x1 * 4 ≤ 2147483647) ∧ (-2147483648 ≤ (x1 * 4) + x2 ∧ (x1 * 4) + x2 ≤ 2147483647) ∧ (0 ≤ (x1 * 4) + x2 ∧ (x1 * 4) + x2 < 36) ∧ X 111 8 [vR 1, vI x1, vI x2] [vI (h 9 ((x1 * 4) + x2))] h _
    refine ⟨c3, by have := c4; omega, c4, ?_⟩
    refine X_iret (L := L_111) rfl rfl rfl rfl ?_
    show X 112 12 [vR 1, vI x1, vI x2, w3] [vI (h 9 ((x1 * 4) + x2))] h _
    refine X_b 2 14 (L := L_112) rfl rfl rfl ?_
    show X 112 14 [vR 1, vI x1, vI x2, vI (h 9 ((x1 * 4) + x2))] [vI (h 9 ((x1 * 4) + x2))] h _
    refine X_call 23 [vI (h 9 ((x1 * 4) + x2))] [] rfl (sg_cals rfl rfl rfl rfl rfl rfl rfl rfl rfl rfl) (by decide) ?_
    show X 23 0 [vI (h 9 ((x1 * 4) + x2))] [] h _
    refine X_b 1 1 (L := L_23) rfl rfl rfl ?_
    show X 23 1 [vI (h 9 ((x1 * 4) + x2))] [vI (h 9 ((x1 * 4) + x2))] h _
    refine X_if (L := L_23) (n' := 7) rfl rfl rfl rfl (fun z5 => ?_) (fun z5 => ?_)
    · have z5 : h 9 ((x1 * 4) + x2) < 0 := z5
      replace H := H.1 z5
      show X 23 7 [vI (h 9 ((x1 * 4) + x2))] [] h _
      refine X_b 1 8 (L := L_23) rfl rfl rfl ?_
      show X 23 8 [vI (h 9 ((x1 * 4) + x2))] [vI 0] h _
      refine X_zret (L := L_23) rfl rfl rfl rfl (by decide) ?_
      show X 112 15 [vR 1, vI x1, vI x2, vI (h 9 ((x1 * 4) + x2))] [vI 0] h _
      refine X_if (L := L_112) (n' := 21) rfl rfl rfl rfl (fun _ => ?_) (fun z => absurd (show (0 : Int) = (0 : Int) by decide) z)
      show X 112 21 [vR 1, vI x1, vI x2, vI (h 9 ((x1 * 4) + x2))] [] h _
      refine X_b 1 22 (L := L_112) rfl rfl rfl ?_
      show X 112 22 [vR 1, vI x1, vI x2, vI (h 9 ((x1 * 4) + x2))] [vI 0] h _
      refine X_zret (L := L_112) rfl rfl rfl rfl (by decide) ?_
      exact H
    · have z5 : 0 ≤ h 9 ((x1 * 4) + x2) := (Int.not_lt.mp z5)
      replace H := H.2 z5
      show X 23 2 [vI (h 9 ((x1 * 4) + x2))] [] h _
      refine X_b 2 4 (L := L_23) rfl rfl rfl ?_
      show X 23 4 [vI (h 9 ((x1 * 4) + x2))] [vI 4, vI (h 9 ((x1 * 4) + x2))] h _
      refine X_icmp (L := L_23) (n' := 7) rfl rfl rfl rfl (fun z6 => ?_) (fun z6 => ?_)
      · have z6 : 4 ≤ h 9 ((x1 * 4) + x2) := z6
        replace H := H.1 z6
        show X 23 7 [vI (h 9 ((x1 * 4) + x2))] [] h _
        refine X_b 1 8 (L := L_23) rfl rfl rfl ?_
        show X 23 8 [vI (h 9 ((x1 * 4) + x2))] [vI 0] h _
        refine X_zret (L := L_23) rfl rfl rfl rfl (by decide) ?_
        show X 112 15 [vR 1, vI x1, vI x2, vI (h 9 ((x1 * 4) + x2))] [vI 0] h _
        refine X_if (L := L_112) (n' := 21) rfl rfl rfl rfl (fun _ => ?_) (fun z => absurd (show (0 : Int) = (0 : Int) by decide) z)
        show X 112 21 [vR 1, vI x1, vI x2, vI (h 9 ((x1 * 4) + x2))] [] h _
        refine X_b 1 22 (L := L_112) rfl rfl rfl ?_
        show X 112 22 [vR 1, vI x1, vI x2, vI (h 9 ((x1 * 4) + x2))] [vI 0] h _
        refine X_zret (L := L_112) rfl rfl rfl rfl (by decide) ?_
        exact H
      · have z6 : h 9 ((x1 * 4) + x2) < 4 := (Int.not_le.mp z6)
        replace H := H.2 z6
        show X 23 5 [vI (h 9 ((x1 * 4) + x2))] [] h _
        obtain ⟨c7, H⟩ := H
        refine X_b 1 6 (L := L_23) rfl rfl rfl ?_
        show X 23 6 [vI (h 9 ((x1 * 4) + x2))] [vI 1] h _
        refine X_goto (L := L_23) (n' := 8) rfl rfl rfl rfl ?_
        show X 23 8 [vI (h 9 ((x1 * 4) + x2))] [vI 1] h _
        refine X_zret (L := L_23) rfl rfl rfl rfl (by decide) ?_
        show X 112 15 [vR 1, vI x1, vI x2, vI (h 9 ((x1 * 4) + x2))] [vI 1] h _
        refine X_if (L := L_112) (n' := 21) rfl rfl rfl rfl (fun z => absurd z (show ¬ ((1 : Int) = (0 : Int)) by decide)) (fun _ => ?_)
        show X 112 16 [vR 1, vI x1, vI x2, vI (h 9 ((x1 * 4) + x2))] [] h _
        refine X_b 4 20 (L := L_112) rfl rfl rfl ?_
        show (0 ≤ h 9 ((x1 * 4) + x2) ∧ h 9 ((x1 * 4) + x2) < 4) ∧ X 112 20 [vR 1, vI x1, vI x2, vI (h 9 ((x1 * 4) + x2))] [vI (h 10 (h 9 ((x1 * 4) + x2)))] h _
        refine ⟨c7, ?_⟩
        refine X_if (L := L_112) (n' := 23) rfl rfl rfl rfl (fun z8 => ?_) (fun z8 => ?_)
        · have z8 : ¬ h 10 (h 9 ((x1 * 4) + x2)) = 0 := z8
          replace H := H.1 z8
          show X 112 23 [vR 1, vI x1, vI x2, vI (h 9 ((x1 * 4) + x2))] [] h _
          obtain ⟨c9, H⟩ := H
          refine X_b 1 24 (L := L_112) rfl rfl rfl ?_
          show (-2147483648 ≤ x2 + 1 ∧ x2 + 1 ≤ 2147483647) ∧ X 112 24 [vR 1, vI x1, vI (x2 + 1), vI (h 9 ((x1 * 4) + x2))] [] h _
          refine ⟨c9, ?_⟩
          refine X_goto (L := L_112) (n' := 2) rfl rfl rfl rfl ?_
          show X 112 2 [vR 1, vI x1, vI (x2 + 1), vI (h 9 ((x1 * 4) + x2))] [] h _
          exact H
        · have z8 : h 10 (h 9 ((x1 * 4) + x2)) = 0 := (Classical.not_not.mp z8)
          replace H := H.2 z8
          show X 112 21 [vR 1, vI x1, vI x2, vI (h 9 ((x1 * 4) + x2))] [] h _
          refine X_b 1 22 (L := L_112) rfl rfl rfl ?_
          show X 112 22 [vR 1, vI x1, vI x2, vI (h 9 ((x1 * 4) + x2))] [vI 0] h _
          refine X_zret (L := L_112) rfl rfl rfl rfl (by decide) ?_
          exact H

/-- Grammar.firstOf, row 0 -/
theorem s_113_0 (x1 x2 x3 : Int) (h : ab_S) (K : ab_O → ab_S → Prop) (H : X 113 4 [vR 1, vI x1, vI x2, vI x3, vI 0, vI x2, vJ 0] [] h K) : C 113 [vR 1, vI x1, vI x2, vI x3] h K := by
  show X 113 0 [vR 1, vI x1, vI x2, vI x3, vJ 0, vJ 0, vJ 0] [] h K
  refine X_b 4 4 (L := L_113) rfl rfl rfl ?_
  show X 113 4 [vR 1, vI x1, vI x2, vI x3, vI 0, vI x2, vJ 0] [] h _
  exact H

/-- Grammar.firstOf, row 4 -/
theorem s_113_4 (x1 x3 x4 x5 : Int) (w2 w6 : ab_V) (h : ab_S) (K : ab_O → ab_S → Prop) (H : ((0 ≤ x1 ∧ x1 < 9)) ∧ ((h 8 x1 ≤ x5 → K (oI (b_or x4 x3)) h) ∧ (x5 < h 8 x1 → ((-2147483648 ≤ x1 * 4 ∧ x1 * 4 ≤ 2147483647) ∧ (0 ≤ (x1 * 4) + x5 ∧ (x1 * 4) + x5 < 36)) ∧ ((h 9 ((x1 * 4) + x5) < 0 → ((-2147483648 ≤ (h 9 ((x1 * 4) + x5)) - 4 ∧ (h 9 ((x1 * 4) + x5)) - 4 ≤ 2147483647)) ∧ K (oI (b_or x4 (b_shl 1 ((h 9 ((x1 * 4) + x5)) - 4)))) h) ∧ (0 ≤ h 9 ((x1 * 4) + x5) → ((4 ≤ h 9 ((x1 * 4) + x5) → ((-2147483648 ≤ (h 9 ((x1 * 4) + x5)) - 4 ∧ (h 9 ((x1 * 4) + x5)) - 4 ≤ 2147483647)) ∧ K (oI (b_or x4 (b_shl 1 ((h 9 ((x1 * 4) + x5)) - 4)))) h) ∧ (h 9 ((x1 * 4) + x5) < 4 → ((0 ≤ h 9 ((x1 * 4) + x5) ∧ h 9 ((x1 * 4) + x5) < 4)) ∧ ((¬ h 10 (h 9 ((x1 * 4) + x5)) = 0 → ((-2147483648 ≤ x5 + 1 ∧ x5 + 1 ≤ 2147483647)) ∧ X 113 4 [vR 1, vI x1, w2, vI x3, vI (b_or x4 (h 11 (h 9 ((x1 * 4) + x5)))), vI (x5 + 1), vI (h 9 ((x1 * 4) + x5))] [] h K) ∧ (h 10 (h 9 ((x1 * 4) + x5)) = 0 → K (oI (b_or x4 (h 11 (h 9 ((x1 * 4) + x5))))) h))))))))) : X 113 4 [vR 1, vI x1, w2, vI x3, vI x4, vI x5, w6] [] h K := by
  obtain ⟨c1, H⟩ := H
  refine X_b 5 9 (L := L_113) rfl rfl rfl ?_
  show (0 ≤ x1 ∧ x1 < 9) ∧ X 113 9 [vR 1, vI x1, w2, vI x3, vI x4, vI x5, w6] [vI (h 8 x1), vI x5] h _
  refine ⟨c1, ?_⟩
  refine X_icmp (L := L_113) (n' := 39) rfl rfl rfl rfl (fun z2 => ?_) (fun z2 => ?_)
  · have z2 : h 8 x1 ≤ x5 := z2
    replace H := H.1 z2
    show X 113 39 [vR 1, vI x1, w2, vI x3, vI x4, vI x5, w6] [] h _
    refine X_b 3 42 (L := L_113) rfl rfl rfl ?_
    show X 113 42 [vR 1, vI x1, w2, vI x3, vI x4, vI x5, w6] [vI (b_or x4 x3)] h _
    refine X_iret (L := L_113) rfl rfl rfl rfl ?_
    exact H
  · have z2 : x5 < h 8 x1 := (Int.not_le.mp z2)
    replace H := H.2 z2
    show X 113 10 [vR 1, vI x1, w2, vI x3, vI x4, vI x5, w6] [] h _
    obtain ⟨⟨c3, c4⟩, H⟩ := H
    refine X_b 3 13 (L := L_113) rfl rfl rfl ?_
    show X 113 13 [vR 1, vI x1, w2, vI x3, vI x4, vI x5, w6] [vI x5, vI x1, vR 1] h _
    refine X_call 111 [vR 1, vI x1, vI x5] [] rfl (sg_calv rfl rfl rfl rfl rfl rfl rfl rfl rfl rfl rfl) (by decide) ?_
    show X 111 0 [vR 1, vI x1, vI x5] [] h _
    refine X_b 8 8 (L := L_111) rfl rfl rfl ?_
    show (-2147483648 ≤ x1 * 4 ∧ x1 * 4 ≤ 2147483647) ∧ (-2147483648 ≤ (x1 * 4) + x5 ∧ (x1 * 4) + x5 ≤ 2147483647) ∧ (0 ≤ (x1 * 4) + x5 ∧ (x1 * 4) + x5 < 36) ∧ X 111 8 [vR 1, vI x1, vI x5] [vI (h 9 ((x1 * 4) + x5))] h _
    refine ⟨c3, by have := c4; omega, c4, ?_⟩
    refine X_iret (L := L_111) rfl rfl rfl rfl ?_
    show X 113 14 [vR 1, vI x1, w2, vI x3, vI x4, vI x5, w6] [vI (h 9 ((x1 * 4) + x5))] h _
    refine X_b 2 16 (L := L_113) rfl rfl rfl ?_
    show X 113 16 [vR 1, vI x1, w2, vI x3, vI x4, vI x5, vI (h 9 ((x1 * 4) + x5))] [vI (h 9 ((x1 * 4) + x5))] h _
    refine X_call 23 [vI (h 9 ((x1 * 4) + x5))] [] rfl (sg_cals rfl rfl rfl rfl rfl rfl rfl rfl rfl rfl) (by decide) ?_
    show X 23 0 [vI (h 9 ((x1 * 4) + x5))] [] h _
    refine X_b 1 1 (L := L_23) rfl rfl rfl ?_
    show X 23 1 [vI (h 9 ((x1 * 4) + x5))] [vI (h 9 ((x1 * 4) + x5))] h _
    refine X_if (L := L_23) (n' := 7) rfl rfl rfl rfl (fun z5 => ?_) (fun z5 => ?_)
    · have z5 : h 9 ((x1 * 4) + x5) < 0 := z5
      replace H := H.1 z5
      show X 23 7 [vI (h 9 ((x1 * 4) + x5))] [] h _
      obtain ⟨c6, H⟩ := H
      refine X_b 1 8 (L := L_23) rfl rfl rfl ?_
      show X 23 8 [vI (h 9 ((x1 * 4) + x5))] [vI 0] h _
      refine X_zret (L := L_23) rfl rfl rfl rfl (by decide) ?_
      show X 113 17 [vR 1, vI x1, w2, vI x3, vI x4, vI x5, vI (h 9 ((x1 * 4) + x5))] [vI 0] h _
      refine X_if (L := L_113) (n' := 23) rfl rfl rfl rfl (fun z => absurd z (show ¬ (¬ (0 : Int) = (0 : Int)) by decide)) (fun _ => ?_)
      show X 113 18 [vR 1, vI x1, w2, vI x3, vI x4, vI x5, vI (h 9 ((x1 * 4) + x5))] [] h _
      refine X_b 2 20 (L := L_113) rfl rfl rfl ?_
      show X 113 20 [vR 1, vI x1, w2, vI x3, vI x4, vI x5, vI (h 9 ((x1 * 4) + x5))] [vI (h 9 ((x1 * 4) + x5)), vI x4] h _
      refine X_call 26 [vI (h 9 ((x1 * 4) + x5))] [vI x4] rfl (sg_cals rfl rfl rfl rfl rfl rfl rfl rfl rfl rfl) (by decide) ?_
      show X 26 0 [vI (h 9 ((x1 * 4) + x5))] [] h _
      refine X_b 5 5 (L := L_26) rfl rfl rfl ?_
      show (-2147483648 ≤ (h 9 ((x1 * 4) + x5)) - 4 ∧ (h 9 ((x1 * 4) + x5)) - 4 ≤ 2147483647) ∧ X 26 5 [vI (h 9 ((x1 * 4) + x5))] [vI (b_shl 1 ((h 9 ((x1 * 4) + x5)) - 4))] h _
      refine ⟨c6, ?_⟩
      refine X_iret (L := L_26) rfl rfl rfl rfl ?_
      show X 113 21 [vR 1, vI x1, w2, vI x3, vI x4, vI x5, vI (h 9 ((x1 * 4) + x5))] [vI (b_shl 1 ((h 9 ((x1 * 4) + x5)) - 4)), vI x4] h _
      refine X_b 1 22 (L := L_113) rfl rfl rfl ?_
      show X 113 22 [vR 1, vI x1, w2, vI x3, vI x4, vI x5, vI (h 9 ((x1 * 4) + x5))] [vI (b_or x4 (b_shl 1 ((h 9 ((x1 * 4) + x5)) - 4)))] h _
      refine X_iret (L := L_113) rfl rfl rfl rfl ?_
      exact H
    · have z5 : 0 ≤ h 9 ((x1 * 4) + x5) := (Int.not_lt.mp z5)
      replace H := H.2 z5
      show X 23 2 [vI (h 9 ((x1 * 4) + x5))] [] h _
      refine X_b 2 4 (L := L_23) rfl rfl rfl ?_
      show X 23 4 [vI (h 9 ((x1 * 4) + x5))] [vI 4, vI (h 9 ((x1 * 4) + x5))] h _
      refine X_icmp (L := L_23) (n' := 7) rfl rfl rfl rfl (fun z7 => ?_) (fun z7 => ?_)
      · have z7 : 4 ≤ h 9 ((x1 * 4) + x5) := z7
        replace H := H.1 z7
        show X 23 7 [vI (h 9 ((x1 * 4) + x5))] [] h _
        obtain ⟨c8, H⟩ := H
        refine X_b 1 8 (L := L_23) rfl rfl rfl ?_
        show X 23 8 [vI (h 9 ((x1 * 4) + x5))] [vI 0] h _
        refine X_zret (L := L_23) rfl rfl rfl rfl (by decide) ?_
        show X 113 17 [vR 1, vI x1, w2, vI x3, vI x4, vI x5, vI (h 9 ((x1 * 4) + x5))] [vI 0] h _
        refine X_if (L := L_113) (n' := 23) rfl rfl rfl rfl (fun z => absurd z (show ¬ (¬ (0 : Int) = (0 : Int)) by decide)) (fun _ => ?_)
        show X 113 18 [vR 1, vI x1, w2, vI x3, vI x4, vI x5, vI (h 9 ((x1 * 4) + x5))] [] h _
        refine X_b 2 20 (L := L_113) rfl rfl rfl ?_
        show X 113 20 [vR 1, vI x1, w2, vI x3, vI x4, vI x5, vI (h 9 ((x1 * 4) + x5))] [vI (h 9 ((x1 * 4) + x5)), vI x4] h _
        refine X_call 26 [vI (h 9 ((x1 * 4) + x5))] [vI x4] rfl (sg_cals rfl rfl rfl rfl rfl rfl rfl rfl rfl rfl) (by decide) ?_
        show X 26 0 [vI (h 9 ((x1 * 4) + x5))] [] h _
        refine X_b 5 5 (L := L_26) rfl rfl rfl ?_
        show (-2147483648 ≤ (h 9 ((x1 * 4) + x5)) - 4 ∧ (h 9 ((x1 * 4) + x5)) - 4 ≤ 2147483647) ∧ X 26 5 [vI (h 9 ((x1 * 4) + x5))] [vI (b_shl 1 ((h 9 ((x1 * 4) + x5)) - 4))] h _
        refine ⟨c8, ?_⟩
        refine X_iret (L := L_26) rfl rfl rfl rfl ?_
        show X 113 21 [vR 1, vI x1, w2, vI x3, vI x4, vI x5, vI (h 9 ((x1 * 4) + x5))] [vI (b_shl 1 ((h 9 ((x1 * 4) + x5)) - 4)), vI x4] h _
        refine X_b 1 22 (L := L_113) rfl rfl rfl ?_
        show X 113 22 [vR 1, vI x1, w2, vI x3, vI x4, vI x5, vI (h 9 ((x1 * 4) + x5))] [vI (b_or x4 (b_shl 1 ((h 9 ((x1 * 4) + x5)) - 4)))] h _
        refine X_iret (L := L_113) rfl rfl rfl rfl ?_
        exact H
      · have z7 : h 9 ((x1 * 4) + x5) < 4 := (Int.not_le.mp z7)
        replace H := H.2 z7
        show X 23 5 [vI (h 9 ((x1 * 4) + x5))] [] h _
        obtain ⟨c9, H⟩ := H
        refine X_b 1 6 (L := L_23) rfl rfl rfl ?_
        show X 23 6 [vI (h 9 ((x1 * 4) + x5))] [vI 1] h _
        refine X_goto (L := L_23) (n' := 8) rfl rfl rfl rfl ?_
        show X 23 8 [vI (h 9 ((x1 * 4) + x5))] [vI 1] h _
        refine X_zret (L := L_23) rfl rfl rfl rfl (by decide) ?_
        show X 113 17 [vR 1, vI x1, w2, vI x3, vI x4, vI x5, vI (h 9 ((x1 * 4) + x5))] [vI 1] h _
        refine X_if (L := L_113) (n' := 23) rfl rfl rfl rfl (fun _ => ?_) (fun z => absurd (show ¬ (1 : Int) = (0 : Int) by decide) z)
        show X 113 23 [vR 1, vI x1, w2, vI x3, vI x4, vI x5, vI (h 9 ((x1 * 4) + x5))] [] h _
        refine X_b 11 34 (L := L_113) rfl rfl rfl ?_
        show (0 ≤ h 9 ((x1 * 4) + x5) ∧ h 9 ((x1 * 4) + x5) < 4) ∧ (0 ≤ h 9 ((x1 * 4) + x5) ∧ h 9 ((x1 * 4) + x5) < 4) ∧ X 113 34 [vR 1, vI x1, w2, vI x3, vI (b_or x4 (h 11 (h 9 ((x1 * 4) + x5)))), vI x5, vI (h 9 ((x1 * 4) + x5))] [vI (h 10 (h 9 ((x1 * 4) + x5)))] h _
        refine ⟨c9, c9, ?_⟩
        refine X_if (L := L_113) (n' := 37) rfl rfl rfl rfl (fun z10 => ?_) (fun z10 => ?_)
        · have z10 : ¬ h 10 (h 9 ((x1 * 4) + x5)) = 0 := z10
          replace H := H.1 z10
          show X 113 37 [vR 1, vI x1, w2, vI x3, vI (b_or x4 (h 11 (h 9 ((x1 * 4) + x5)))), vI x5, vI (h 9 ((x1 * 4) + x5))] [] h _
          obtain ⟨c11, H⟩ := H
          refine X_b 1 38 (L := L_113) rfl rfl rfl ?_
          show (-2147483648 ≤ x5 + 1 ∧ x5 + 1 ≤ 2147483647) ∧ X 113 38 [vR 1, vI x1, w2, vI x3, vI (b_or x4 (h 11 (h 9 ((x1 * 4) + x5)))), vI (x5 + 1), vI (h 9 ((x1 * 4) + x5))] [] h _
          refine ⟨c11, ?_⟩
          refine X_goto (L := L_113) (n' := 4) rfl rfl rfl rfl ?_
          show X 113 4 [vR 1, vI x1, w2, vI x3, vI (b_or x4 (h 11 (h 9 ((x1 * 4) + x5)))), vI (x5 + 1), vI (h 9 ((x1 * 4) + x5))] [] h _
          exact H
        · have z10 : h 10 (h 9 ((x1 * 4) + x5)) = 0 := (Classical.not_not.mp z10)
          replace H := H.2 z10
          show X 113 35 [vR 1, vI x1, w2, vI x3, vI (b_or x4 (h 11 (h 9 ((x1 * 4) + x5)))), vI x5, vI (h 9 ((x1 * 4) + x5))] [] h _
          refine X_b 1 36 (L := L_113) rfl rfl rfl ?_
          show X 113 36 [vR 1, vI x1, w2, vI x3, vI (b_or x4 (h 11 (h 9 ((x1 * 4) + x5)))), vI x5, vI (h 9 ((x1 * 4) + x5))] [vI (b_or x4 (h 11 (h 9 ((x1 * 4) + x5))))] h _
          refine X_iret (L := L_113) rfl rfl rfl rfl ?_
          exact H

set_option maxRecDepth 8192 in
/-- Grammar.learn, row 0 -/
theorem s_114_0 (h : ab_S) (K : ab_O → ab_S → Prop) (H : X 114 2 [vR 1, vI 0, vJ 0] [] h K) : C 114 [vR 1] h K := by
  show X 114 0 [vR 1, vJ 0, vJ 0] [] h K
  refine X_b 2 2 (L := L_114) rfl rfl rfl ?_
  show X 114 2 [vR 1, vI 0, vJ 0] [] h _
  exact H

set_option maxRecDepth 8192 in
/-- Grammar.learn, row 2 -/
theorem s_114_2 (x1 : Int) (w2 : ab_V) (h : ab_S) (K : ab_O → ab_S → Prop) (H : ((4 ≤ x1 → X 114 19 [vR 1, vI 0, w2] [] h K) ∧ (x1 < 4 → ((0 ≤ x1 ∧ x1 < 4) ∧ (-2147483648 ≤ x1 + 1 ∧ x1 + 1 ≤ 2147483647)) ∧ X 114 2 [vR 1, vI (x1 + 1), w2] [] (ab_up (ab_up h 10 x1 0) 11 x1 0) K))) : X 114 2 [vR 1, vI x1, w2] [] h K := by
  refine X_b 2 4 (L := L_114) rfl rfl rfl ?_
  show X 114 4 [vR 1, vI x1, w2] [vI 4, vI x1] h _
  refine X_icmp (L := L_114) (n' := 17) rfl rfl rfl rfl (fun z1 => ?_) (fun z1 => ?_)
  · have z1 : 4 ≤ x1 := z1
    replace H := H.1 z1
    show X 114 17 [vR 1, vI x1, w2] [] h _
    refine X_b 2 19 (L := L_114) rfl rfl rfl ?_
    show X 114 19 [vR 1, vI 0, w2] [] h _
    exact H
  · have z1 : x1 < 4 := (Int.not_le.mp z1)
    replace H := H.2 z1
    show X 114 5 [vR 1, vI x1, w2] [] h _
    obtain ⟨⟨c2, c3⟩, H⟩ := H
    refine X_b 11 16 (L := L_114) rfl rfl rfl ?_
    show (0 ≤ x1 ∧ x1 < 4) ∧ ((0 : Int) = 0 ∨ (0 : Int) = 1) ∧ (0 ≤ x1 ∧ x1 < 4) ∧ (-2147483648 ≤ x1 + 1 ∧ x1 + 1 ≤ 2147483647) ∧ X 114 16 [vR 1, vI (x1 + 1), w2] [] (ab_up (ab_up h 10 x1 0) 11 x1 0) _
    refine ⟨c2, by decide, c2, c3, ?_⟩
    refine X_goto (L := L_114) (n' := 2) rfl rfl rfl rfl ?_
    show X 114 2 [vR 1, vI (x1 + 1), w2] [] (ab_up (ab_up h 10 x1 0) 11 x1 0) _
    exact H

set_option maxRecDepth 8192 in
/-- Grammar.learn, row 19 -/
theorem s_114_19 (x1 : Int) (w2 : ab_V) (h : ab_S) (K : ab_O → ab_S → Prop) (H : ((4 ≤ x1 → X 114 46 [vR 1, vI 0, w2] [] h K) ∧ (x1 < 4 → X 114 24 [vR 1, vI x1, vI 0] [] h K))) : X 114 19 [vR 1, vI x1, w2] [] h K := by
  refine X_b 2 21 (L := L_114) rfl rfl rfl ?_
  show X 114 21 [vR 1, vI x1, w2] [vI 4, vI x1] h _
  refine X_icmp (L := L_114) (n' := 44) rfl rfl rfl rfl (fun z1 => ?_) (fun z1 => ?_)
  · have z1 : 4 ≤ x1 := z1
    replace H := H.1 z1
    show X 114 44 [vR 1, vI x1, w2] [] h _
    refine X_b 2 46 (L := L_114) rfl rfl rfl ?_
    show X 114 46 [vR 1, vI 0, w2] [] h _
    exact H
  · have z1 : x1 < 4 := (Int.not_le.mp z1)
    replace H := H.2 z1
    show X 114 22 [vR 1, vI x1, w2] [] h _
    refine X_b 2 24 (L := L_114) rfl rfl rfl ?_
    show X 114 24 [vR 1, vI x1, vI 0] [] h _
    exact H

set_option maxRecDepth 8192 in
/-- Grammar.learn, row 24 -/
theorem s_114_24 (x1 x2 : Int) (h : ab_S) (K : ab_O → ab_S → Prop) (H : ((h 1 0 ≤ x2 → ((-2147483648 ≤ x1 + 1 ∧ x1 + 1 ≤ 2147483647)) ∧ X 114 19 [vR 1, vI (x1 + 1), vI x2] [] h K) ∧ (x2 < h 1 0 → C 112 [vR 1, vI x2] h (kI (fun v3 h3 => ((v3 = 0 → ((-2147483648 ≤ x2 + 1 ∧ x2 + 1 ≤ 2147483647)) ∧ X 114 24 [vR 1, vI x1, vI (x2 + 1)] [] h3 K) ∧ (¬ v3 = 0 → ((0 ≤ x2 ∧ x2 < 8) ∧ (0 ≤ h3 7 x2 ∧ h3 7 x2 < 4) ∧ (-2147483648 ≤ x2 + 1 ∧ x2 + 1 ≤ 2147483647)) ∧ X 114 24 [vR 1, vI x1, vI (x2 + 1)] [] (ab_up h3 10 (h3 7 x2) 1) K))))))) : X 114 24 [vR 1, vI x1, vI x2] [] h K := by
  refine X_b 3 27 (L := L_114) rfl rfl rfl ?_
  show X 114 27 [vR 1, vI x1, vI x2] [vI (h 1 0), vI x2] h _
  refine X_icmp (L := L_114) (n' := 42) rfl rfl rfl rfl (fun z1 => ?_) (fun z1 => ?_)
  · have z1 : h 1 0 ≤ x2 := z1
    replace H := H.1 z1
    show X 114 42 [vR 1, vI x1, vI x2] [] h _
    obtain ⟨c2, H⟩ := H
    refine X_b 1 43 (L := L_114) rfl rfl rfl ?_
    show (-2147483648 ≤ x1 + 1 ∧ x1 + 1 ≤ 2147483647) ∧ X 114 43 [vR 1, vI (x1 + 1), vI x2] [] h _
    refine ⟨c2, ?_⟩
    refine X_goto (L := L_114) (n' := 19) rfl rfl rfl rfl ?_
    show X 114 19 [vR 1, vI (x1 + 1), vI x2] [] h _
    exact H
  · have z1 : x2 < h 1 0 := (Int.not_le.mp z1)
    replace H := H.2 z1
    show X 114 28 [vR 1, vI x1, vI x2] [] h _
    refine X_b 2 30 (L := L_114) rfl rfl rfl ?_
    show X 114 30 [vR 1, vI x1, vI x2] [vI x2, vR 1] h _
    refine X_call 112 [vR 1, vI x2] [] rfl (sg_calv rfl rfl rfl rfl rfl rfl rfl rfl rfl rfl rfl) (by decide) ?_
    refine C_mono H (kI_to ?_)
    intro v3 h3 H
    show X 114 31 [vR 1, vI x1, vI x2] [vI v3] h3 _
    refine X_if (L := L_114) (n' := 40) rfl rfl rfl rfl (fun z4 => ?_) (fun z4 => ?_)
    · have z4 : v3 = 0 := z4
      replace H := H.1 z4
      show X 114 40 [vR 1, vI x1, vI x2] [] h3 _
      obtain ⟨c5, H⟩ := H
      refine X_b 1 41 (L := L_114) rfl rfl rfl ?_
      show (-2147483648 ≤ x2 + 1 ∧ x2 + 1 ≤ 2147483647) ∧ X 114 41 [vR 1, vI x1, vI (x2 + 1)] [] h3 _
      refine ⟨c5, ?_⟩
      refine X_goto (L := L_114) (n' := 24) rfl rfl rfl rfl ?_
      show X 114 24 [vR 1, vI x1, vI (x2 + 1)] [] h3 _
      exact H
    · have z4 : ¬ v3 = 0 := z4
      replace H := H.2 z4
      show X 114 32 [vR 1, vI x1, vI x2] [] h3 _
      obtain ⟨⟨c6, c7, c8⟩, H⟩ := H
      refine X_b 9 41 (L := L_114) rfl rfl rfl ?_
      show (0 ≤ x2 ∧ x2 < 8) ∧ (0 ≤ h3 7 x2 ∧ h3 7 x2 < 4) ∧ ((1 : Int) = 0 ∨ (1 : Int) = 1) ∧ (-2147483648 ≤ x2 + 1 ∧ x2 + 1 ≤ 2147483647) ∧ X 114 41 [vR 1, vI x1, vI (x2 + 1)] [] (ab_up h3 10 (h3 7 x2) 1) _
      refine ⟨c6, c7, by decide, c8, ?_⟩
      refine X_goto (L := L_114) (n' := 24) rfl rfl rfl rfl ?_
      show X 114 24 [vR 1, vI x1, vI (x2 + 1)] [] (ab_up h3 10 (h3 7 x2) 1) _
      exact H

set_option maxRecDepth 8192 in
/-- Grammar.learn, row 46 -/
theorem s_114_46 (x1 : Int) (w2 : ab_V) (h : ab_S) (K : ab_O → ab_S → Prop) (H : ((4 ≤ x1 → K oV h) ∧ (x1 < 4 → X 114 51 [vR 1, vI x1, vI 0] [] h K))) : X 114 46 [vR 1, vI x1, w2] [] h K := by
  refine X_b 2 48 (L := L_114) rfl rfl rfl ?_
  show X 114 48 [vR 1, vI x1, w2] [vI 4, vI x1] h _
  refine X_icmp (L := L_114) (n' := 74) rfl rfl rfl rfl (fun z1 => ?_) (fun z1 => ?_)
  · have z1 : 4 ≤ x1 := z1
    replace H := H.1 z1
    show X 114 74 [vR 1, vI x1, w2] [] h _
    refine X_ret (L := L_114) rfl rfl rfl rfl ?_
    exact H
  · have z1 : x1 < 4 := (Int.not_le.mp z1)
    replace H := H.2 z1
    show X 114 49 [vR 1, vI x1, w2] [] h _
    refine X_b 2 51 (L := L_114) rfl rfl rfl ?_
    show X 114 51 [vR 1, vI x1, vI 0] [] h _
    exact H

set_option maxRecDepth 8192 in
/-- Grammar.learn, row 51 -/
theorem s_114_51 (x1 x2 : Int) (h : ab_S) (K : ab_O → ab_S → Prop) (H : ((h 1 0 ≤ x2 → ((-2147483648 ≤ x1 + 1 ∧ x1 + 1 ≤ 2147483647)) ∧ X 114 46 [vR 1, vI (x1 + 1), vI x2] [] h K) ∧ (x2 < h 1 0 → ((0 ≤ x2 ∧ x2 < 8) ∧ (0 ≤ h 7 x2 ∧ h 7 x2 < 4)) ∧ C 113 [vR 1, vI x2, vI 0, vI 0] h (kI (fun v5 h5 => ((0 ≤ h 7 x2 ∧ h 7 x2 < 4) ∧ (-2147483648 ≤ x2 + 1 ∧ x2 + 1 ≤ 2147483647)) ∧ X 114 51 [vR 1, vI x1, vI (x2 + 1)] [] (ab_up h5 11 (h 7 x2) (b_or (h 11 (h 7 x2)) v5)) K))))) : X 114 51 [vR 1, vI x1, vI x2] [] h K := by
  refine X_b 3 54 (L := L_114) rfl rfl rfl ?_
  show X 114 54 [vR 1, vI x1, vI x2] [vI (h 1 0), vI x2] h _
  refine X_icmp (L := L_114) (n' := 72) rfl rfl rfl rfl (fun z1 => ?_) (fun z1 => ?_)
  · have z1 : h 1 0 ≤ x2 := z1
    replace H := H.1 z1
    show X 114 72 [vR 1, vI x1, vI x2] [] h _
    obtain ⟨c2, H⟩ := H
    refine X_b 1 73 (L := L_114) rfl rfl rfl ?_
    show (-2147483648 ≤ x1 + 1 ∧ x1 + 1 ≤ 2147483647) ∧ X 114 73 [vR 1, vI (x1 + 1), vI x2] [] h _
    refine ⟨c2, ?_⟩
    refine X_goto (L := L_114) (n' := 46) rfl rfl rfl rfl ?_
    show X 114 46 [vR 1, vI (x1 + 1), vI x2] [] h _
    exact H
  · have z1 : x2 < h 1 0 := (Int.not_le.mp z1)
    replace H := H.2 z1
    show X 114 55 [vR 1, vI x1, vI x2] [] h _
    obtain ⟨⟨c3, c4⟩, H⟩ := H
    refine X_b 12 67 (L := L_114) rfl rfl rfl ?_
    show (0 ≤ x2 ∧ x2 < 8) ∧ (0 ≤ h 7 x2 ∧ h 7 x2 < 4) ∧ X 114 67 [vR 1, vI x1, vI x2] [vI 0, vI 0, vI x2, vR 1, vI (h 11 (h 7 x2)), vI (h 7 x2), vR 11] h _
    refine ⟨c3, c4, ?_⟩
    refine X_call 113 [vR 1, vI x2, vI 0, vI 0] [vI (h 11 (h 7 x2)), vI (h 7 x2), vR 11] rfl (sg_calv rfl rfl rfl rfl rfl rfl rfl rfl rfl rfl rfl) (by decide) ?_
    refine C_mono H (kI_to ?_)
    intro v5 h5 H
    show X 114 68 [vR 1, vI x1, vI x2] [vI v5, vI (h 11 (h 7 x2)), vI (h 7 x2), vR 11] h5 _
    obtain ⟨⟨c6, c7⟩, H⟩ := H
    refine X_b 3 71 (L := L_114) rfl rfl rfl ?_
    show (0 ≤ h 7 x2 ∧ h 7 x2 < 4) ∧ (-2147483648 ≤ x2 + 1 ∧ x2 + 1 ≤ 2147483647) ∧ X 114 71 [vR 1, vI x1, vI (x2 + 1)] [] (ab_up h5 11 (h 7 x2) (b_or (h 11 (h 7 x2)) v5)) _
    refine ⟨c6, c7, ?_⟩
    refine X_goto (L := L_114) (n' := 51) rfl rfl rfl rfl ?_
    show X 114 51 [vR 1, vI x1, vI (x2 + 1)] [] (ab_up h5 11 (h 7 x2) (b_or (h 11 (h 7 x2)) v5)) _
    exact H

/-- Parser.append, row 0 -/
theorem s_115_0 (x1 : Int) (h : ab_S) (K : ab_O → ab_S → Prop) (H : ((0 ≤ h 5 3 ∧ h 5 3 < 20) ∧ (-2147483648 ≤ (h 5 3) + 1 ∧ (h 5 3) + 1 ≤ 2147483647)) ∧ K (oI ((h 5 3) + 1)) (ab_up (ab_up h 16 (h 5 3) x1) 5 3 ((h 5 3) + 1))) : C 115 [vR 5, vI x1] h K := by
  show X 115 0 [vR 5, vI x1] [] h K
  obtain ⟨⟨c1, c2⟩, H⟩ := H
  refine X_b 14 14 (L := L_115) rfl rfl rfl ?_
  show (0 ≤ h 5 3 ∧ h 5 3 < 20) ∧ (-2147483648 ≤ (h 5 3) + 1 ∧ (h 5 3) + 1 ≤ 2147483647) ∧ X 115 14 [vR 5, vI x1] [vI ((h 5 3) + 1)] (ab_up (ab_up h 16 (h 5 3) x1) 5 3 ((h 5 3) + 1)) _
  refine ⟨c1, c2, ?_⟩
  refine X_iret (L := L_115) rfl rfl rfl rfl ?_
  exact H

/-- Parser.forget, row 0 -/
theorem s_116_0 (h : ab_S) (K : ab_O → ab_S → Prop) (H : K oV (ab_up (ab_up h 5 7 0) 5 9 0)) : C 116 [vR 5] h K := by
  show X 116 0 [vR 5] [] h K
  refine X_b 6 6 (L := L_116) rfl rfl rfl ?_
  show X 116 6 [vR 5] [] (ab_up (ab_up h 5 7 0) 5 9 0) _
  refine X_ret (L := L_116) rfl rfl rfl rfl ?_
  exact H

/-- Parser.nodeField, row 0 -/
theorem s_117_0 (x1 x2 : Int) (h : ab_S) (K : ab_O → ab_S → Prop) (H : ((-2147483648 ≤ x1 * 5 ∧ x1 * 5 ≤ 2147483647) ∧ (0 ≤ (x1 * 5) + x2 ∧ (x1 * 5) + x2 < 300)) ∧ K (oI (h 19 ((x1 * 5) + x2))) h) : C 117 [vR 5, vI x1, vI x2] h K := by
  show X 117 0 [vR 5, vI x1, vI x2] [] h K
  obtain ⟨⟨c1, c2⟩, H⟩ := H
  refine X_b 8 8 (L := L_117) rfl rfl rfl ?_
  show (-2147483648 ≤ x1 * 5 ∧ x1 * 5 ≤ 2147483647) ∧ (-2147483648 ≤ (x1 * 5) + x2 ∧ (x1 * 5) + x2 ≤ 2147483647) ∧ (0 ≤ (x1 * 5) + x2 ∧ (x1 * 5) + x2 < 300) ∧ X 117 8 [vR 5, vI x1, vI x2] [vI (h 19 ((x1 * 5) + x2))] h _
  refine ⟨c1, by have := c2; omega, c2, ?_⟩
  refine X_iret (L := L_117) rfl rfl rfl rfl ?_
  exact H

/-- Parser.run, row 0 -/
theorem s_118_0 (x1 : Int) (h : ab_S) (K : ab_O → ab_S → Prop) (H : X 118 18 [vR 5, vI x1, vI 0, vI 0] [] (ab_up (ab_up (ab_up (ab_up h 5 4 0) 5 9 0) 5 7 1) 17 0 0) K) : C 118 [vR 5, vI x1] h K := by
  show X 118 0 [vR 5, vI x1, vJ 0, vJ 0] [] h K
  refine X_b 18 18 (L := L_118) rfl rfl rfl ?_
  show (0 ≤ (0 : Int) ∧ (0 : Int) < 61) ∧ X 118 18 [vR 5, vI x1, vI 0, vI 0] [] (ab_up (ab_up (ab_up (ab_up h 5 4 0) 5 9 0) 5 7 1) 17 0 0) _
  refine ⟨by decide, ?_⟩
  exact H

/-- Parser.run, row 18 -/
theorem s_118_18 (x1 x2 x3 : Int) (h : ab_S) (K : ab_O → ab_S → Prop) (H : ((x1 ≤ x3 → K (oI x2) h) ∧ (x3 < x1 → ((¬ x2 = 0 → K (oI x2) h) ∧ (x2 = 0 → C 119 [vR 5] h (kI (fun v3 h3 => ((-2147483648 ≤ x3 + 1 ∧ x3 + 1 ≤ 2147483647)) ∧ X 118 18 [vR 5, vI x1, vI v3, vI (x3 + 1)] [] h3 K))))))) : X 118 18 [vR 5, vI x1, vI x2, vI x3] [] h K := by
  refine X_b 2 20 (L := L_118) rfl rfl rfl ?_
  show X 118 20 [vR 5, vI x1, vI x2, vI x3] [vI x1, vI x3] h _
  refine X_icmp (L := L_118) (n' := 28) rfl rfl rfl rfl (fun z1 => ?_) (fun z1 => ?_)
  · have z1 : x1 ≤ x3 := z1
    replace H := H.1 z1
    show X 118 28 [vR 5, vI x1, vI x2, vI x3] [] h _
    refine X_b 1 29 (L := L_118) rfl rfl rfl ?_
    show X 118 29 [vR 5, vI x1, vI x2, vI x3] [vI x2] h _
    refine X_iret (L := L_118) rfl rfl rfl rfl ?_
    exact H
  · have z1 : x3 < x1 := (Int.not_le.mp z1)
    replace H := H.2 z1
    show X 118 21 [vR 5, vI x1, vI x2, vI x3] [] h _
    refine X_b 1 22 (L := L_118) rfl rfl rfl ?_
    show X 118 22 [vR 5, vI x1, vI x2, vI x3] [vI x2] h _
    refine X_if (L := L_118) (n' := 28) rfl rfl rfl rfl (fun z2 => ?_) (fun z2 => ?_)
    · have z2 : ¬ x2 = 0 := z2
      replace H := H.1 z2
      show X 118 28 [vR 5, vI x1, vI x2, vI x3] [] h _
      refine X_b 1 29 (L := L_118) rfl rfl rfl ?_
      show X 118 29 [vR 5, vI x1, vI x2, vI x3] [vI x2] h _
      refine X_iret (L := L_118) rfl rfl rfl rfl ?_
      exact H
    · have z2 : x2 = 0 := (Classical.not_not.mp z2)
      replace H := H.2 z2
      show X 118 23 [vR 5, vI x1, vI x2, vI x3] [] h _
      refine X_b 1 24 (L := L_118) rfl rfl rfl ?_
      show X 118 24 [vR 5, vI x1, vI x2, vI x3] [vR 5] h _
      refine X_call 119 [vR 5] [] rfl (sg_calv rfl rfl rfl rfl rfl rfl rfl rfl rfl rfl rfl) (by decide) ?_
      refine C_mono H (kI_to ?_)
      intro v3 h3 H
      show X 118 25 [vR 5, vI x1, vI x2, vI x3] [vI v3] h3 _
      obtain ⟨c4, H⟩ := H
      refine X_b 2 27 (L := L_118) rfl rfl rfl ?_
      show (-2147483648 ≤ x3 + 1 ∧ x3 + 1 ≤ 2147483647) ∧ X 118 27 [vR 5, vI x1, vI v3, vI (x3 + 1)] [] h3 _
      refine ⟨c4, ?_⟩
      refine X_goto (L := L_118) (n' := 18) rfl rfl rfl rfl ?_
      show X 118 18 [vR 5, vI x1, vI v3, vI (x3 + 1)] [] h3 _
      exact H

/-- Parser.takeStep, row 0 -/
theorem s_119_0 (h : ab_S) (K : ab_O → ab_S → Prop) (H : ((h 5 3 ≤ h 5 4 → ((0 ≤ (h 5 7) - 1 ∧ (h 5 7) - 1 < 61) ∧ (-2147483648 ≤ (h 17 ((h 5 7) - 1)) * 10 ∧ (h 17 ((h 5 7) - 1)) * 10 ≤ 2147483647) ∧ (0 ≤ ((h 17 ((h 5 7) - 1)) * 10) + 9 ∧ ((h 17 ((h 5 7) - 1)) * 10) + 9 < 500)) ∧ ((¬ h 12 (((h 17 ((h 5 7) - 1)) * 10) + 9) = (-1) → ((h 12 (((h 17 ((h 5 7) - 1)) * 10) + 9) < 0 → ((¬ h 12 (((h 17 ((h 5 7) - 1)) * 10) + 9) = 200 → ((-2147483648 ≤ (h 12 (((h 17 ((h 5 7) - 1)) * 10) + 9)) - 100 ∧ (h 12 (((h 17 ((h 5 7) - 1)) * 10) + 9)) - 100 ≤ 2147483647)) ∧ C 121 [vR 5, vI ((h 12 (((h 17 ((h 5 7) - 1)) * 10) + 9)) - 100)] h (kI (fun v9 h9 => K (oI v9) h9))) ∧ (h 12 (((h 17 ((h 5 7) - 1)) * 10) + 9) = 200 → ((¬ h 5 7 = 2 → K (oI 3) h) ∧ (h 5 7 = 2 → ((-2147483648 ≤ (h 18 1) * 5 ∧ (h 18 1) * 5 ≤ 2147483647) ∧ (0 ≤ ((h 18 1) * 5) + 0 ∧ ((h 18 1) * 5) + 0 < 300)) ∧ ((¬ h 19 (((h 18 1) * 5) + 0) = h 7 0 → K (oI 3) h) ∧ (h 19 (((h 18 1) * 5) + 0) = h 7 0 → K (oI 1) h))))))) ∧ (0 ≤ h 12 (((h 17 ((h 5 7) - 1)) * 10) + 9) → ((50 ≤ h 12 (((h 17 ((h 5 7) - 1)) * 10) + 9) → ((¬ h 12 (((h 17 ((h 5 7) - 1)) * 10) + 9) = 200 → ((-2147483648 ≤ (h 12 (((h 17 ((h 5 7) - 1)) * 10) + 9)) - 100 ∧ (h 12 (((h 17 ((h 5 7) - 1)) * 10) + 9)) - 100 ≤ 2147483647)) ∧ C 121 [vR 5, vI ((h 12 (((h 17 ((h 5 7) - 1)) * 10) + 9)) - 100)] h (kI (fun v17 h17 => K (oI v17) h17))) ∧ (h 12 (((h 17 ((h 5 7) - 1)) * 10) + 9) = 200 → ((¬ h 5 7 = 2 → K (oI 3) h) ∧ (h 5 7 = 2 → ((-2147483648 ≤ (h 18 1) * 5 ∧ (h 18 1) * 5 ≤ 2147483647) ∧ (0 ≤ ((h 18 1) * 5) + 0 ∧ ((h 18 1) * 5) + 0 < 300)) ∧ ((¬ h 19 (((h 18 1) * 5) + 0) = h 7 0 → K (oI 3) h) ∧ (h 19 (((h 18 1) * 5) + 0) = h 7 0 → K (oI 1) h))))))) ∧ (h 12 (((h 17 ((h 5 7) - 1)) * 10) + 9) < 50 → C 120 [vR 5, vI 9, vI (h 12 (((h 17 ((h 5 7) - 1)) * 10) + 9))] h (kI (fun v22 h22 => K (oI v22) h22))))))) ∧ (h 12 (((h 17 ((h 5 7) - 1)) * 10) + 9) = (-1) → K (oI 2) h))) ∧ (h 5 4 < h 5 3 → ((0 ≤ h 5 4 ∧ h 5 4 < 20) ∧ (0 ≤ (h 5 7) - 1 ∧ (h 5 7) - 1 < 61) ∧ (-2147483648 ≤ (h 17 ((h 5 7) - 1)) * 10 ∧ (h 17 ((h 5 7) - 1)) * 10 ≤ 2147483647) ∧ (0 ≤ ((h 17 ((h 5 7) - 1)) * 10) + (h 16 (h 5 4)) ∧ ((h 17 ((h 5 7) - 1)) * 10) + (h 16 (h 5 4)) < 500)) ∧ ((¬ h 12 (((h 17 ((h 5 7) - 1)) * 10) + (h 16 (h 5 4))) = (-1) → ((h 12 (((h 17 ((h 5 7) - 1)) * 10) + (h 16 (h 5 4))) < 0 → ((¬ h 12 (((h 17 ((h 5 7) - 1)) * 10) + (h 16 (h 5 4))) = 200 → ((-2147483648 ≤ (h 12 (((h 17 ((h 5 7) - 1)) * 10) + (h 16 (h 5 4)))) - 100 ∧ (h 12 (((h 17 ((h 5 7) - 1)) * 10) + (h 16 (h 5 4)))) - 100 ≤ 2147483647)) ∧ C 121 [vR 5, vI ((h 12 (((h 17 ((h 5 7) - 1)) * 10) + (h 16 (h 5 4)))) - 100)] h (kI (fun v31 h31 => K (oI v31) h31))) ∧ (h 12 (((h 17 ((h 5 7) - 1)) * 10) + (h 16 (h 5 4))) = 200 → ((¬ h 5 7 = 2 → K (oI 3) h) ∧ (h 5 7 = 2 → ((-2147483648 ≤ (h 18 1) * 5 ∧ (h 18 1) * 5 ≤ 2147483647) ∧ (0 ≤ ((h 18 1) * 5) + 0 ∧ ((h 18 1) * 5) + 0 < 300)) ∧ ((¬ h 19 (((h 18 1) * 5) + 0) = h 7 0 → K (oI 3) h) ∧ (h 19 (((h 18 1) * 5) + 0) = h 7 0 → K (oI 1) h))))))) ∧ (0 ≤ h 12 (((h 17 ((h 5 7) - 1)) * 10) + (h 16 (h 5 4))) → ((50 ≤ h 12 (((h 17 ((h 5 7) - 1)) * 10) + (h 16 (h 5 4))) → ((¬ h 12 (((h 17 ((h 5 7) - 1)) * 10) + (h 16 (h 5 4))) = 200 → ((-2147483648 ≤ (h 12 (((h 17 ((h 5 7) - 1)) * 10) + (h 16 (h 5 4)))) - 100 ∧ (h 12 (((h 17 ((h 5 7) - 1)) * 10) + (h 16 (h 5 4)))) - 100 ≤ 2147483647)) ∧ C 121 [vR 5, vI ((h 12 (((h 17 ((h 5 7) - 1)) * 10) + (h 16 (h 5 4)))) - 100)] h (kI (fun v39 h39 => K (oI v39) h39))) ∧ (h 12 (((h 17 ((h 5 7) - 1)) * 10) + (h 16 (h 5 4))) = 200 → ((¬ h 5 7 = 2 → K (oI 3) h) ∧ (h 5 7 = 2 → ((-2147483648 ≤ (h 18 1) * 5 ∧ (h 18 1) * 5 ≤ 2147483647) ∧ (0 ≤ ((h 18 1) * 5) + 0 ∧ ((h 18 1) * 5) + 0 < 300)) ∧ ((¬ h 19 (((h 18 1) * 5) + 0) = h 7 0 → K (oI 3) h) ∧ (h 19 (((h 18 1) * 5) + 0) = h 7 0 → K (oI 1) h))))))) ∧ (h 12 (((h 17 ((h 5 7) - 1)) * 10) + (h 16 (h 5 4))) < 50 → C 120 [vR 5, vI (h 16 (h 5 4)), vI (h 12 (((h 17 ((h 5 7) - 1)) * 10) + (h 16 (h 5 4))))] h (kI (fun v44 h44 => K (oI v44) h44))))))) ∧ (h 12 (((h 17 ((h 5 7) - 1)) * 10) + (h 16 (h 5 4))) = (-1) → K (oI 2) h))))) : C 119 [vR 5] h K := by
  show X 119 0 [vR 5, vJ 0, vJ 0] [] h K
  refine X_b 4 4 (L := L_119) rfl rfl rfl ?_
  show X 119 4 [vR 5, vJ 0, vJ 0] [vI (h 5 3), vI (h 5 4)] h _
  refine X_icmp (L := L_119) (n' := 11) rfl rfl rfl rfl (fun z1 => ?_) (fun z1 => ?_)
  · have z1 : h 5 3 ≤ h 5 4 := z1
    replace H := H.1 z1
    show X 119 11 [vR 5, vJ 0, vJ 0] [] h _
    obtain ⟨⟨c2, c3, c4⟩, H⟩ := H
    refine X_b 12 23 (L := L_119) rfl rfl rfl ?_
    show (-2147483648 ≤ (h 5 7) - 1 ∧ (h 5 7) - 1 ≤ 2147483647) ∧ (0 ≤ (h 5 7) - 1 ∧ (h 5 7) - 1 < 61) ∧ X 119 23 [vR 5, vI 9, vJ 0] [vI 9, vI (h 17 ((h 5 7) - 1)), vR 2] h _
    refine ⟨by have := c2; omega, c2, ?_⟩
    refine X_call 78 [vR 2, vI (h 17 ((h 5 7) - 1)), vI 9] [] rfl (sg_calv rfl rfl rfl rfl rfl rfl rfl rfl rfl rfl rfl) (by decide) ?_
    show X 78 0 [vR 2, vI (h 17 ((h 5 7) - 1)), vI 9] [] h _
    refine X_b 8 8 (L := L_78) rfl rfl rfl ?_
    show (-2147483648 ≤ (h 17 ((h 5 7) - 1)) * 10 ∧ (h 17 ((h 5 7) - 1)) * 10 ≤ 2147483647) ∧ (-2147483648 ≤ ((h 17 ((h 5 7) - 1)) * 10) + 9 ∧ ((h 17 ((h 5 7) - 1)) * 10) + 9 ≤ 2147483647) ∧ (0 ≤ ((h 17 ((h 5 7) - 1)) * 10) + 9 ∧ ((h 17 ((h 5 7) - 1)) * 10) + 9 < 500) ∧ X 78 8 [vR 2, vI (h 17 ((h 5 7) - 1)), vI 9] [vI (h 12 (((h 17 ((h 5 7) - 1)) * 10) + 9))] h _
    refine ⟨c3, by have := c4; omega, c4, ?_⟩
    refine X_iret (L := L_78) rfl rfl rfl rfl ?_
    show X 119 24 [vR 5, vI 9, vJ 0] [vI (h 12 (((h 17 ((h 5 7) - 1)) * 10) + 9))] h _
    refine X_b 3 27 (L := L_119) rfl rfl rfl ?_
    show X 119 27 [vR 5, vI 9, vI (h 12 (((h 17 ((h 5 7) - 1)) * 10) + 9))] [vI (-1), vI (h 12 (((h 17 ((h 5 7) - 1)) * 10) + 9))] h _
    refine X_icmp (L := L_119) (n' := 30) rfl rfl rfl rfl (fun z5 => ?_) (fun z5 => ?_)
    · have z5 : ¬ h 12 (((h 17 ((h 5 7) - 1)) * 10) + 9) = (-1) := z5
      replace H := H.1 z5
      show X 119 30 [vR 5, vI 9, vI (h 12 (((h 17 ((h 5 7) - 1)) * 10) + 9))] [] h _
      refine X_b 1 31 (L := L_119) rfl rfl rfl ?_
      show X 119 31 [vR 5, vI 9, vI (h 12 (((h 17 ((h 5 7) - 1)) * 10) + 9))] [vI (h 12 (((h 17 ((h 5 7) - 1)) * 10) + 9))] h _
      refine X_call 25 [vI (h 12 (((h 17 ((h 5 7) - 1)) * 10) + 9))] [] rfl (sg_cals rfl rfl rfl rfl rfl rfl rfl rfl rfl rfl) (by decide) ?_
      show X 25 0 [vI (h 12 (((h 17 ((h 5 7) - 1)) * 10) + 9))] [] h _
      refine X_b 1 1 (L := L_25) rfl rfl rfl ?_
      show X 25 1 [vI (h 12 (((h 17 ((h 5 7) - 1)) * 10) + 9))] [vI (h 12 (((h 17 ((h 5 7) - 1)) * 10) + 9))] h _
      refine X_if (L := L_25) (n' := 7) rfl rfl rfl rfl (fun z6 => ?_) (fun z6 => ?_)
      · have z6 : h 12 (((h 17 ((h 5 7) - 1)) * 10) + 9) < 0 := z6
        replace H := H.1 z6
        show X 25 7 [vI (h 12 (((h 17 ((h 5 7) - 1)) * 10) + 9))] [] h _
        refine X_b 1 8 (L := L_25) rfl rfl rfl ?_
        show X 25 8 [vI (h 12 (((h 17 ((h 5 7) - 1)) * 10) + 9))] [vI 0] h _
        refine X_zret (L := L_25) rfl rfl rfl rfl (by decide) ?_
        show X 119 32 [vR 5, vI 9, vI (h 12 (((h 17 ((h 5 7) - 1)) * 10) + 9))] [vI 0] h _
        refine X_if (L := L_119) (n' := 38) rfl rfl rfl rfl (fun _ => ?_) (fun z => absurd (show (0 : Int) = (0 : Int) by decide) z)
        show X 119 38 [vR 5, vI 9, vI (h 12 (((h 17 ((h 5 7) - 1)) * 10) + 9))] [] h _
        refine X_b 2 40 (L := L_119) rfl rfl rfl ?_
        show X 119 40 [vR 5, vI 9, vI (h 12 (((h 17 ((h 5 7) - 1)) * 10) + 9))] [vI 200, vI (h 12 (((h 17 ((h 5 7) - 1)) * 10) + 9))] h _
        refine X_icmp (L := L_119) (n' := 48) rfl rfl rfl rfl (fun z7 => ?_) (fun z7 => ?_)
        · have z7 : ¬ h 12 (((h 17 ((h 5 7) - 1)) * 10) + 9) = 200 := z7
          replace H := H.1 z7
          show X 119 48 [vR 5, vI 9, vI (h 12 (((h 17 ((h 5 7) - 1)) * 10) + 9))] [] h _
          obtain ⟨c8, H⟩ := H
          refine X_b 4 52 (L := L_119) rfl rfl rfl ?_
          show (-2147483648 ≤ (h 12 (((h 17 ((h 5 7) - 1)) * 10) + 9)) - 100 ∧ (h 12 (((h 17 ((h 5 7) - 1)) * 10) + 9)) - 100 ≤ 2147483647) ∧ X 119 52 [vR 5, vI 9, vI (h 12 (((h 17 ((h 5 7) - 1)) * 10) + 9))] [vI ((h 12 (((h 17 ((h 5 7) - 1)) * 10) + 9)) - 100), vR 5] h _
          refine ⟨c8, ?_⟩
          refine X_call 121 [vR 5, vI ((h 12 (((h 17 ((h 5 7) - 1)) * 10) + 9)) - 100)] [] rfl (sg_calv rfl rfl rfl rfl rfl rfl rfl rfl rfl rfl rfl) (by decide) ?_
          refine C_mono H (kI_to ?_)
          intro v9 h9 H
          show X 119 53 [vR 5, vI 9, vI (h 12 (((h 17 ((h 5 7) - 1)) * 10) + 9))] [vI v9] h9 _
          refine X_iret (L := L_119) rfl rfl rfl rfl ?_
          exact H
        · have z7 : h 12 (((h 17 ((h 5 7) - 1)) * 10) + 9) = 200 := (Classical.not_not.mp z7)
          replace H := H.2 z7
          show X 119 41 [vR 5, vI 9, vI (h 12 (((h 17 ((h 5 7) - 1)) * 10) + 9))] [] h _
          refine X_b 1 42 (L := L_119) rfl rfl rfl ?_
          show X 119 42 [vR 5, vI 9, vI (h 12 (((h 17 ((h 5 7) - 1)) * 10) + 9))] [vR 5] h _
          refine X_call 126 [vR 5] [] rfl (sg_calv rfl rfl rfl rfl rfl rfl rfl rfl rfl rfl rfl) (by decide) ?_
          show X 126 0 [vR 5] [] h _
          refine X_b 3 3 (L := L_126) rfl rfl rfl ?_
          show X 126 3 [vR 5] [vI 2, vI (h 5 7)] h _
          refine X_icmp (L := L_126) (n' := 17) rfl rfl rfl rfl (fun z10 => ?_) (fun z10 => ?_)
          · have z10 : ¬ h 5 7 = 2 := z10
            replace H := H.1 z10
            show X 126 17 [vR 5] [] h _
            refine X_b 1 18 (L := L_126) rfl rfl rfl ?_
            show X 126 18 [vR 5] [vI 0] h _
            refine X_zret (L := L_126) rfl rfl rfl rfl (by decide) ?_
            show X 119 43 [vR 5, vI 9, vI (h 12 (((h 17 ((h 5 7) - 1)) * 10) + 9))] [vI 0] h _
            refine X_if (L := L_119) (n' := 46) rfl rfl rfl rfl (fun _ => ?_) (fun z => absurd (show (0 : Int) = (0 : Int) by decide) z)
            show X 119 46 [vR 5, vI 9, vI (h 12 (((h 17 ((h 5 7) - 1)) * 10) + 9))] [] h _
            refine X_b 1 47 (L := L_119) rfl rfl rfl ?_
            show X 119 47 [vR 5, vI 9, vI (h 12 (((h 17 ((h 5 7) - 1)) * 10) + 9))] [vI 3] h _
            refine X_iret (L := L_119) rfl rfl rfl rfl ?_
            exact H
          · have z10 : h 5 7 = 2 := (Classical.not_not.mp z10)
            replace H := H.2 z10
            show X 126 4 [vR 5] [] h _
            obtain ⟨⟨c11, c12⟩, H⟩ := H
            refine X_b 6 10 (L := L_126) rfl rfl rfl ?_
            show (0 ≤ (1 : Int) ∧ (1 : Int) < 61) ∧ X 126 10 [vR 5] [vI 0, vI (h 18 1), vR 5] h _
            refine ⟨by decide, ?_⟩
            refine X_call 117 [vR 5, vI (h 18 1), vI 0] [] rfl (sg_calv rfl rfl rfl rfl rfl rfl rfl rfl rfl rfl rfl) (by decide) ?_
            show X 117 0 [vR 5, vI (h 18 1), vI 0] [] h _
            refine X_b 8 8 (L := L_117) rfl rfl rfl ?_
            show (-2147483648 ≤ (h 18 1) * 5 ∧ (h 18 1) * 5 ≤ 2147483647) ∧ (-2147483648 ≤ ((h 18 1) * 5) + 0 ∧ ((h 18 1) * 5) + 0 ≤ 2147483647) ∧ (0 ≤ ((h 18 1) * 5) + 0 ∧ ((h 18 1) * 5) + 0 < 300) ∧ X 117 8 [vR 5, vI (h 18 1), vI 0] [vI (h 19 (((h 18 1) * 5) + 0))] h _
            refine ⟨c11, by have := c12; omega, c12, ?_⟩
            refine X_iret (L := L_117) rfl rfl rfl rfl ?_
            show X 126 11 [vR 5] [vI (h 19 (((h 18 1) * 5) + 0))] h _
            refine X_b 2 13 (L := L_126) rfl rfl rfl ?_
            show X 126 13 [vR 5] [vR 1, vI (h 19 (((h 18 1) * 5) + 0))] h _
            refine X_call 110 [vR 1] [vI (h 19 (((h 18 1) * 5) + 0))] rfl (sg_calv rfl rfl rfl rfl rfl rfl rfl rfl rfl rfl rfl) (by decide) ?_
            show X 110 0 [vR 1] [] h _
            refine X_b 4 4 (L := L_110) rfl rfl rfl ?_
            show (0 ≤ (0 : Int) ∧ (0 : Int) < 8) ∧ X 110 4 [vR 1] [vI (h 7 0)] h _
            refine ⟨by decide, ?_⟩
            refine X_iret (L := L_110) rfl rfl rfl rfl ?_
            show X 126 14 [vR 5] [vI (h 7 0), vI (h 19 (((h 18 1) * 5) + 0))] h _
            refine X_icmp (L := L_126) (n' := 17) rfl rfl rfl rfl (fun z13 => ?_) (fun z13 => ?_)
            · have z13 : ¬ h 19 (((h 18 1) * 5) + 0) = h 7 0 := z13
              replace H := H.1 z13
              show X 126 17 [vR 5] [] h _
              refine X_b 1 18 (L := L_126) rfl rfl rfl ?_
              show X 126 18 [vR 5] [vI 0] h _
              refine X_zret (L := L_126) rfl rfl rfl rfl (by decide) ?_
              show X 119 43 [vR 5, vI 9, vI (h 12 (((h 17 ((h 5 7) - 1)) * 10) + 9))] [vI 0] h _
              refine X_if (L := L_119) (n' := 46) rfl rfl rfl rfl (fun _ => ?_) (fun z => absurd (show (0 : Int) = (0 : Int) by decide) z)
              show X 119 46 [vR 5, vI 9, vI (h 12 (((h 17 ((h 5 7) - 1)) * 10) + 9))] [] h _
              refine X_b 1 47 (L := L_119) rfl rfl rfl ?_
              show X 119 47 [vR 5, vI 9, vI (h 12 (((h 17 ((h 5 7) - 1)) * 10) + 9))] [vI 3] h _
              refine X_iret (L := L_119) rfl rfl rfl rfl ?_
              exact H
            · have z13 : h 19 (((h 18 1) * 5) + 0) = h 7 0 := (Classical.not_not.mp z13)
              replace H := H.2 z13
              show X 126 15 [vR 5] [] h _
              refine X_b 1 16 (L := L_126) rfl rfl rfl ?_
              show X 126 16 [vR 5] [vI 1] h _
              refine X_goto (L := L_126) (n' := 18) rfl rfl rfl rfl ?_
              show X 126 18 [vR 5] [vI 1] h _
              refine X_zret (L := L_126) rfl rfl rfl rfl (by decide) ?_
              show X 119 43 [vR 5, vI 9, vI (h 12 (((h 17 ((h 5 7) - 1)) * 10) + 9))] [vI 1] h _
              refine X_if (L := L_119) (n' := 46) rfl rfl rfl rfl (fun z => absurd z (show ¬ ((1 : Int) = (0 : Int)) by decide)) (fun _ => ?_)
              show X 119 44 [vR 5, vI 9, vI (h 12 (((h 17 ((h 5 7) - 1)) * 10) + 9))] [] h _
              refine X_b 1 45 (L := L_119) rfl rfl rfl ?_
              show X 119 45 [vR 5, vI 9, vI (h 12 (((h 17 ((h 5 7) - 1)) * 10) + 9))] [vI 1] h _
              refine X_goto (L := L_119) (n' := 47) rfl rfl rfl rfl ?_
              show X 119 47 [vR 5, vI 9, vI (h 12 (((h 17 ((h 5 7) - 1)) * 10) + 9))] [vI 1] h _
              refine X_iret (L := L_119) rfl rfl rfl rfl ?_
              exact H
      · have z6 : 0 ≤ h 12 (((h 17 ((h 5 7) - 1)) * 10) + 9) := (Int.not_lt.mp z6)
        replace H := H.2 z6
        show X 25 2 [vI (h 12 (((h 17 ((h 5 7) - 1)) * 10) + 9))] [] h _
        refine X_b 2 4 (L := L_25) rfl rfl rfl ?_
        show X 25 4 [vI (h 12 (((h 17 ((h 5 7) - 1)) * 10) + 9))] [vI 50, vI (h 12 (((h 17 ((h 5 7) - 1)) * 10) + 9))] h _
        refine X_icmp (L := L_25) (n' := 7) rfl rfl rfl rfl (fun z14 => ?_) (fun z14 => ?_)
        · have z14 : 50 ≤ h 12 (((h 17 ((h 5 7) - 1)) * 10) + 9) := z14
          replace H := H.1 z14
          show X 25 7 [vI (h 12 (((h 17 ((h 5 7) - 1)) * 10) + 9))] [] h _
          refine X_b 1 8 (L := L_25) rfl rfl rfl ?_
          show X 25 8 [vI (h 12 (((h 17 ((h 5 7) - 1)) * 10) + 9))] [vI 0] h _
          refine X_zret (L := L_25) rfl rfl rfl rfl (by decide) ?_
          show X 119 32 [vR 5, vI 9, vI (h 12 (((h 17 ((h 5 7) - 1)) * 10) + 9))] [vI 0] h _
          refine X_if (L := L_119) (n' := 38) rfl rfl rfl rfl (fun _ => ?_) (fun z => absurd (show (0 : Int) = (0 : Int) by decide) z)
          show X 119 38 [vR 5, vI 9, vI (h 12 (((h 17 ((h 5 7) - 1)) * 10) + 9))] [] h _
          refine X_b 2 40 (L := L_119) rfl rfl rfl ?_
          show X 119 40 [vR 5, vI 9, vI (h 12 (((h 17 ((h 5 7) - 1)) * 10) + 9))] [vI 200, vI (h 12 (((h 17 ((h 5 7) - 1)) * 10) + 9))] h _
          refine X_icmp (L := L_119) (n' := 48) rfl rfl rfl rfl (fun z15 => ?_) (fun z15 => ?_)
          · have z15 : ¬ h 12 (((h 17 ((h 5 7) - 1)) * 10) + 9) = 200 := z15
            replace H := H.1 z15
            show X 119 48 [vR 5, vI 9, vI (h 12 (((h 17 ((h 5 7) - 1)) * 10) + 9))] [] h _
            obtain ⟨c16, H⟩ := H
            refine X_b 4 52 (L := L_119) rfl rfl rfl ?_
            show (-2147483648 ≤ (h 12 (((h 17 ((h 5 7) - 1)) * 10) + 9)) - 100 ∧ (h 12 (((h 17 ((h 5 7) - 1)) * 10) + 9)) - 100 ≤ 2147483647) ∧ X 119 52 [vR 5, vI 9, vI (h 12 (((h 17 ((h 5 7) - 1)) * 10) + 9))] [vI ((h 12 (((h 17 ((h 5 7) - 1)) * 10) + 9)) - 100), vR 5] h _
            refine ⟨c16, ?_⟩
            refine X_call 121 [vR 5, vI ((h 12 (((h 17 ((h 5 7) - 1)) * 10) + 9)) - 100)] [] rfl (sg_calv rfl rfl rfl rfl rfl rfl rfl rfl rfl rfl rfl) (by decide) ?_
            refine C_mono H (kI_to ?_)
            intro v17 h17 H
            show X 119 53 [vR 5, vI 9, vI (h 12 (((h 17 ((h 5 7) - 1)) * 10) + 9))] [vI v17] h17 _
            refine X_iret (L := L_119) rfl rfl rfl rfl ?_
            exact H
          · have z15 : h 12 (((h 17 ((h 5 7) - 1)) * 10) + 9) = 200 := (Classical.not_not.mp z15)
            replace H := H.2 z15
            show X 119 41 [vR 5, vI 9, vI (h 12 (((h 17 ((h 5 7) - 1)) * 10) + 9))] [] h _
            refine X_b 1 42 (L := L_119) rfl rfl rfl ?_
            show X 119 42 [vR 5, vI 9, vI (h 12 (((h 17 ((h 5 7) - 1)) * 10) + 9))] [vR 5] h _
            refine X_call 126 [vR 5] [] rfl (sg_calv rfl rfl rfl rfl rfl rfl rfl rfl rfl rfl rfl) (by decide) ?_
            show X 126 0 [vR 5] [] h _
            refine X_b 3 3 (L := L_126) rfl rfl rfl ?_
            show X 126 3 [vR 5] [vI 2, vI (h 5 7)] h _
            refine X_icmp (L := L_126) (n' := 17) rfl rfl rfl rfl (fun z18 => ?_) (fun z18 => ?_)
            · have z18 : ¬ h 5 7 = 2 := z18
              replace H := H.1 z18
              show X 126 17 [vR 5] [] h _
              refine X_b 1 18 (L := L_126) rfl rfl rfl ?_
              show X 126 18 [vR 5] [vI 0] h _
              refine X_zret (L := L_126) rfl rfl rfl rfl (by decide) ?_
              show X 119 43 [vR 5, vI 9, vI (h 12 (((h 17 ((h 5 7) - 1)) * 10) + 9))] [vI 0] h _
              refine X_if (L := L_119) (n' := 46) rfl rfl rfl rfl (fun _ => ?_) (fun z => absurd (show (0 : Int) = (0 : Int) by decide) z)
              show X 119 46 [vR 5, vI 9, vI (h 12 (((h 17 ((h 5 7) - 1)) * 10) + 9))] [] h _
              refine X_b 1 47 (L := L_119) rfl rfl rfl ?_
              show X 119 47 [vR 5, vI 9, vI (h 12 (((h 17 ((h 5 7) - 1)) * 10) + 9))] [vI 3] h _
              refine X_iret (L := L_119) rfl rfl rfl rfl ?_
              exact H
            · have z18 : h 5 7 = 2 := (Classical.not_not.mp z18)
              replace H := H.2 z18
              show X 126 4 [vR 5] [] h _
              obtain ⟨⟨c19, c20⟩, H⟩ := H
              refine X_b 6 10 (L := L_126) rfl rfl rfl ?_
              show (0 ≤ (1 : Int) ∧ (1 : Int) < 61) ∧ X 126 10 [vR 5] [vI 0, vI (h 18 1), vR 5] h _
              refine ⟨by decide, ?_⟩
              refine X_call 117 [vR 5, vI (h 18 1), vI 0] [] rfl (sg_calv rfl rfl rfl rfl rfl rfl rfl rfl rfl rfl rfl) (by decide) ?_
              show X 117 0 [vR 5, vI (h 18 1), vI 0] [] h _
              refine X_b 8 8 (L := L_117) rfl rfl rfl ?_
              show (-2147483648 ≤ (h 18 1) * 5 ∧ (h 18 1) * 5 ≤ 2147483647) ∧ (-2147483648 ≤ ((h 18 1) * 5) + 0 ∧ ((h 18 1) * 5) + 0 ≤ 2147483647) ∧ (0 ≤ ((h 18 1) * 5) + 0 ∧ ((h 18 1) * 5) + 0 < 300) ∧ X 117 8 [vR 5, vI (h 18 1), vI 0] [vI (h 19 (((h 18 1) * 5) + 0))] h _
              refine ⟨c19, by have := c20; omega, c20, ?_⟩
              refine X_iret (L := L_117) rfl rfl rfl rfl ?_
              show X 126 11 [vR 5] [vI (h 19 (((h 18 1) * 5) + 0))] h _
              refine X_b 2 13 (L := L_126) rfl rfl rfl ?_
              show X 126 13 [vR 5] [vR 1, vI (h 19 (((h 18 1) * 5) + 0))] h _
              refine X_call 110 [vR 1] [vI (h 19 (((h 18 1) * 5) + 0))] rfl (sg_calv rfl rfl rfl rfl rfl rfl rfl rfl rfl rfl rfl) (by decide) ?_
              show X 110 0 [vR 1] [] h _
              refine X_b 4 4 (L := L_110) rfl rfl rfl ?_
              show (0 ≤ (0 : Int) ∧ (0 : Int) < 8) ∧ X 110 4 [vR 1] [vI (h 7 0)] h _
              refine ⟨by decide, ?_⟩
              refine X_iret (L := L_110) rfl rfl rfl rfl ?_
              show X 126 14 [vR 5] [vI (h 7 0), vI (h 19 (((h 18 1) * 5) + 0))] h _
              refine X_icmp (L := L_126) (n' := 17) rfl rfl rfl rfl (fun z21 => ?_) (fun z21 => ?_)
              · have z21 : ¬ h 19 (((h 18 1) * 5) + 0) = h 7 0 := z21
                replace H := H.1 z21
                show X 126 17 [vR 5] [] h _
                refine X_b 1 18 (L := L_126) rfl rfl rfl ?_
                show X 126 18 [vR 5] [vI 0] h _
                refine X_zret (L := L_126) rfl rfl rfl rfl (by decide) ?_
                show X 119 43 [vR 5, vI 9, vI (h 12 (((h 17 ((h 5 7) - 1)) * 10) + 9))] [vI 0] h _
                refine X_if (L := L_119) (n' := 46) rfl rfl rfl rfl (fun _ => ?_) (fun z => absurd (show (0 : Int) = (0 : Int) by decide) z)
                show X 119 46 [vR 5, vI 9, vI (h 12 (((h 17 ((h 5 7) - 1)) * 10) + 9))] [] h _
                refine X_b 1 47 (L := L_119) rfl rfl rfl ?_
                show X 119 47 [vR 5, vI 9, vI (h 12 (((h 17 ((h 5 7) - 1)) * 10) + 9))] [vI 3] h _
                refine X_iret (L := L_119) rfl rfl rfl rfl ?_
                exact H
              · have z21 : h 19 (((h 18 1) * 5) + 0) = h 7 0 := (Classical.not_not.mp z21)
                replace H := H.2 z21
                show X 126 15 [vR 5] [] h _
                refine X_b 1 16 (L := L_126) rfl rfl rfl ?_
                show X 126 16 [vR 5] [vI 1] h _
                refine X_goto (L := L_126) (n' := 18) rfl rfl rfl rfl ?_
                show X 126 18 [vR 5] [vI 1] h _
                refine X_zret (L := L_126) rfl rfl rfl rfl (by decide) ?_
                show X 119 43 [vR 5, vI 9, vI (h 12 (((h 17 ((h 5 7) - 1)) * 10) + 9))] [vI 1] h _
                refine X_if (L := L_119) (n' := 46) rfl rfl rfl rfl (fun z => absurd z (show ¬ ((1 : Int) = (0 : Int)) by decide)) (fun _ => ?_)
                show X 119 44 [vR 5, vI 9, vI (h 12 (((h 17 ((h 5 7) - 1)) * 10) + 9))] [] h _
                refine X_b 1 45 (L := L_119) rfl rfl rfl ?_
                show X 119 45 [vR 5, vI 9, vI (h 12 (((h 17 ((h 5 7) - 1)) * 10) + 9))] [vI 1] h _
                refine X_goto (L := L_119) (n' := 47) rfl rfl rfl rfl ?_
                show X 119 47 [vR 5, vI 9, vI (h 12 (((h 17 ((h 5 7) - 1)) * 10) + 9))] [vI 1] h _
                refine X_iret (L := L_119) rfl rfl rfl rfl ?_
                exact H
        · have z14 : h 12 (((h 17 ((h 5 7) - 1)) * 10) + 9) < 50 := (Int.not_le.mp z14)
          replace H := H.2 z14
          show X 25 5 [vI (h 12 (((h 17 ((h 5 7) - 1)) * 10) + 9))] [] h _
          refine X_b 1 6 (L := L_25) rfl rfl rfl ?_
          show X 25 6 [vI (h 12 (((h 17 ((h 5 7) - 1)) * 10) + 9))] [vI 1] h _
          refine X_goto (L := L_25) (n' := 8) rfl rfl rfl rfl ?_
          show X 25 8 [vI (h 12 (((h 17 ((h 5 7) - 1)) * 10) + 9))] [vI 1] h _
          refine X_zret (L := L_25) rfl rfl rfl rfl (by decide) ?_
          show X 119 32 [vR 5, vI 9, vI (h 12 (((h 17 ((h 5 7) - 1)) * 10) + 9))] [vI 1] h _
          refine X_if (L := L_119) (n' := 38) rfl rfl rfl rfl (fun z => absurd z (show ¬ ((1 : Int) = (0 : Int)) by decide)) (fun _ => ?_)
          show X 119 33 [vR 5, vI 9, vI (h 12 (((h 17 ((h 5 7) - 1)) * 10) + 9))] [] h _
          refine X_b 3 36 (L := L_119) rfl rfl rfl ?_
          show X 119 36 [vR 5, vI 9, vI (h 12 (((h 17 ((h 5 7) - 1)) * 10) + 9))] [vI (h 12 (((h 17 ((h 5 7) - 1)) * 10) + 9)), vI 9, vR 5] h _
          refine X_call 120 [vR 5, vI 9, vI (h 12 (((h 17 ((h 5 7) - 1)) * 10) + 9))] [] rfl (sg_calv rfl rfl rfl rfl rfl rfl rfl rfl rfl rfl rfl) (by decide) ?_
          refine C_mono H (kI_to ?_)
          intro v22 h22 H
          show X 119 37 [vR 5, vI 9, vI (h 12 (((h 17 ((h 5 7) - 1)) * 10) + 9))] [vI v22] h22 _
          refine X_iret (L := L_119) rfl rfl rfl rfl ?_
          exact H
    · have z5 : h 12 (((h 17 ((h 5 7) - 1)) * 10) + 9) = (-1) := (Classical.not_not.mp z5)
      replace H := H.2 z5
      show X 119 28 [vR 5, vI 9, vI (h 12 (((h 17 ((h 5 7) - 1)) * 10) + 9))] [] h _
      refine X_b 1 29 (L := L_119) rfl rfl rfl ?_
      show X 119 29 [vR 5, vI 9, vI (h 12 (((h 17 ((h 5 7) - 1)) * 10) + 9))] [vI 2] h _
      refine X_iret (L := L_119) rfl rfl rfl rfl ?_
      exact H
  · have z1 : h 5 4 < h 5 3 := (Int.not_le.mp z1)
    replace H := H.2 z1
    show X 119 5 [vR 5, vJ 0, vJ 0] [] h _
    obtain ⟨⟨c23, c24, c25, c26⟩, H⟩ := H
    refine X_b 5 10 (L := L_119) rfl rfl rfl ?_
    show (0 ≤ h 5 4 ∧ h 5 4 < 20) ∧ X 119 10 [vR 5, vJ 0, vJ 0] [vI (h 16 (h 5 4))] h _
    refine ⟨c23, ?_⟩
    refine X_goto (L := L_119) (n' := 12) rfl rfl rfl rfl ?_
    show X 119 12 [vR 5, vJ 0, vJ 0] [vI (h 16 (h 5 4))] h _
    refine X_b 11 23 (L := L_119) rfl rfl rfl ?_
    show (-2147483648 ≤ (h 5 7) - 1 ∧ (h 5 7) - 1 ≤ 2147483647) ∧ (0 ≤ (h 5 7) - 1 ∧ (h 5 7) - 1 < 61) ∧ X 119 23 [vR 5, vI (h 16 (h 5 4)), vJ 0] [vI (h 16 (h 5 4)), vI (h 17 ((h 5 7) - 1)), vR 2] h _
    refine ⟨by have := c24; omega, c24, ?_⟩
    refine X_call 78 [vR 2, vI (h 17 ((h 5 7) - 1)), vI (h 16 (h 5 4))] [] rfl (sg_calv rfl rfl rfl rfl rfl rfl rfl rfl rfl rfl rfl) (by decide) ?_
    show X 78 0 [vR 2, vI (h 17 ((h 5 7) - 1)), vI (h 16 (h 5 4))] [] h _
    refine X_b 8 8 (L := L_78) rfl rfl rfl ?_
    show (-2147483648 ≤ (h 17 ((h 5 7) - 1)) * 10 ∧ (h 17 ((h 5 7) - 1)) * 10 ≤ 2147483647) ∧ (-2147483648 ≤ ((h 17 ((h 5 7) - 1)) * 10) + (h 16 (h 5 4)) ∧ ((h 17 ((h 5 7) - 1)) * 10) + (h 16 (h 5 4)) ≤ 2147483647) ∧ (0 ≤ ((h 17 ((h 5 7) - 1)) * 10) + (h 16 (h 5 4)) ∧ ((h 17 ((h 5 7) - 1)) * 10) + (h 16 (h 5 4)) < 500) ∧ X 78 8 [vR 2, vI (h 17 ((h 5 7) - 1)), vI (h 16 (h 5 4))] [vI (h 12 (((h 17 ((h 5 7) - 1)) * 10) + (h 16 (h 5 4))))] h _
    refine ⟨c25, by have := c26; omega, c26, ?_⟩
    refine X_iret (L := L_78) rfl rfl rfl rfl ?_
    show X 119 24 [vR 5, vI (h 16 (h 5 4)), vJ 0] [vI (h 12 (((h 17 ((h 5 7) - 1)) * 10) + (h 16 (h 5 4))))] h _
    refine X_b 3 27 (L := L_119) rfl rfl rfl ?_
    show X 119 27 [vR 5, vI (h 16 (h 5 4)), vI (h 12 (((h 17 ((h 5 7) - 1)) * 10) + (h 16 (h 5 4))))] [vI (-1), vI (h 12 (((h 17 ((h 5 7) - 1)) * 10) + (h 16 (h 5 4))))] h _
    refine X_icmp (L := L_119) (n' := 30) rfl rfl rfl rfl (fun z27 => ?_) (fun z27 => ?_)
    · have z27 : ¬ h 12 (((h 17 ((h 5 7) - 1)) * 10) + (h 16 (h 5 4))) = (-1) := z27
      replace H := H.1 z27
      show X 119 30 [vR 5, vI (h 16 (h 5 4)), vI (h 12 (((h 17 ((h 5 7) - 1)) * 10) + (h 16 (h 5 4))))] [] h _
      refine X_b 1 31 (L := L_119) rfl rfl rfl ?_
      show X 119 31 [vR 5, vI (h 16 (h 5 4)), vI (h 12 (((h 17 ((h 5 7) - 1)) * 10) + (h 16 (h 5 4))))] [vI (h 12 (((h 17 ((h 5 7) - 1)) * 10) + (h 16 (h 5 4))))] h _
      refine X_call 25 [vI (h 12 (((h 17 ((h 5 7) - 1)) * 10) + (h 16 (h 5 4))))] [] rfl (sg_cals rfl rfl rfl rfl rfl rfl rfl rfl rfl rfl) (by decide) ?_
      show X 25 0 [vI (h 12 (((h 17 ((h 5 7) - 1)) * 10) + (h 16 (h 5 4))))] [] h _
      refine X_b 1 1 (L := L_25) rfl rfl rfl ?_
      show X 25 1 [vI (h 12 (((h 17 ((h 5 7) - 1)) * 10) + (h 16 (h 5 4))))] [vI (h 12 (((h 17 ((h 5 7) - 1)) * 10) + (h 16 (h 5 4))))] h _
      refine X_if (L := L_25) (n' := 7) rfl rfl rfl rfl (fun z28 => ?_) (fun z28 => ?_)
      · have z28 : h 12 (((h 17 ((h 5 7) - 1)) * 10) + (h 16 (h 5 4))) < 0 := z28
        replace H := H.1 z28
        show X 25 7 [vI (h 12 (((h 17 ((h 5 7) - 1)) * 10) + (h 16 (h 5 4))))] [] h _
        refine X_b 1 8 (L := L_25) rfl rfl rfl ?_
        show X 25 8 [vI (h 12 (((h 17 ((h 5 7) - 1)) * 10) + (h 16 (h 5 4))))] [vI 0] h _
        refine X_zret (L := L_25) rfl rfl rfl rfl (by decide) ?_
        show X 119 32 [vR 5, vI (h 16 (h 5 4)), vI (h 12 (((h 17 ((h 5 7) - 1)) * 10) + (h 16 (h 5 4))))] [vI 0] h _
        refine X_if (L := L_119) (n' := 38) rfl rfl rfl rfl (fun _ => ?_) (fun z => absurd (show (0 : Int) = (0 : Int) by decide) z)
        show X 119 38 [vR 5, vI (h 16 (h 5 4)), vI (h 12 (((h 17 ((h 5 7) - 1)) * 10) + (h 16 (h 5 4))))] [] h _
        refine X_b 2 40 (L := L_119) rfl rfl rfl ?_
        show X 119 40 [vR 5, vI (h 16 (h 5 4)), vI (h 12 (((h 17 ((h 5 7) - 1)) * 10) + (h 16 (h 5 4))))] [vI 200, vI (h 12 (((h 17 ((h 5 7) - 1)) * 10) + (h 16 (h 5 4))))] h _
        refine X_icmp (L := L_119) (n' := 48) rfl rfl rfl rfl (fun z29 => ?_) (fun z29 => ?_)
        · have z29 : ¬ h 12 (((h 17 ((h 5 7) - 1)) * 10) + (h 16 (h 5 4))) = 200 := z29
          replace H := H.1 z29
          show X 119 48 [vR 5, vI (h 16 (h 5 4)), vI (h 12 (((h 17 ((h 5 7) - 1)) * 10) + (h 16 (h 5 4))))] [] h _
          obtain ⟨c30, H⟩ := H
          refine X_b 4 52 (L := L_119) rfl rfl rfl ?_
          show (-2147483648 ≤ (h 12 (((h 17 ((h 5 7) - 1)) * 10) + (h 16 (h 5 4)))) - 100 ∧ (h 12 (((h 17 ((h 5 7) - 1)) * 10) + (h 16 (h 5 4)))) - 100 ≤ 2147483647) ∧ X 119 52 [vR 5, vI (h 16 (h 5 4)), vI (h 12 (((h 17 ((h 5 7) - 1)) * 10) + (h 16 (h 5 4))))] [vI ((h 12 (((h 17 ((h 5 7) - 1)) * 10) + (h 16 (h 5 4)))) - 100), vR 5] h _
          refine ⟨c30, ?_⟩
          refine X_call 121 [vR 5, vI ((h 12 (((h 17 ((h 5 7) - 1)) * 10) + (h 16 (h 5 4)))) - 100)] [] rfl (sg_calv rfl rfl rfl rfl rfl rfl rfl rfl rfl rfl rfl) (by decide) ?_
          refine C_mono H (kI_to ?_)
          intro v31 h31 H
          show X 119 53 [vR 5, vI (h 16 (h 5 4)), vI (h 12 (((h 17 ((h 5 7) - 1)) * 10) + (h 16 (h 5 4))))] [vI v31] h31 _
          refine X_iret (L := L_119) rfl rfl rfl rfl ?_
          exact H
        · have z29 : h 12 (((h 17 ((h 5 7) - 1)) * 10) + (h 16 (h 5 4))) = 200 := (Classical.not_not.mp z29)
          replace H := H.2 z29
          show X 119 41 [vR 5, vI (h 16 (h 5 4)), vI (h 12 (((h 17 ((h 5 7) - 1)) * 10) + (h 16 (h 5 4))))] [] h _
          refine X_b 1 42 (L := L_119) rfl rfl rfl ?_
          show X 119 42 [vR 5, vI (h 16 (h 5 4)), vI (h 12 (((h 17 ((h 5 7) - 1)) * 10) + (h 16 (h 5 4))))] [vR 5] h _
          refine X_call 126 [vR 5] [] rfl (sg_calv rfl rfl rfl rfl rfl rfl rfl rfl rfl rfl rfl) (by decide) ?_
          show X 126 0 [vR 5] [] h _
          refine X_b 3 3 (L := L_126) rfl rfl rfl ?_
          show X 126 3 [vR 5] [vI 2, vI (h 5 7)] h _
          refine X_icmp (L := L_126) (n' := 17) rfl rfl rfl rfl (fun z32 => ?_) (fun z32 => ?_)
          · have z32 : ¬ h 5 7 = 2 := z32
            replace H := H.1 z32
            show X 126 17 [vR 5] [] h _
            refine X_b 1 18 (L := L_126) rfl rfl rfl ?_
            show X 126 18 [vR 5] [vI 0] h _
            refine X_zret (L := L_126) rfl rfl rfl rfl (by decide) ?_
            show X 119 43 [vR 5, vI (h 16 (h 5 4)), vI (h 12 (((h 17 ((h 5 7) - 1)) * 10) + (h 16 (h 5 4))))] [vI 0] h _
            refine X_if (L := L_119) (n' := 46) rfl rfl rfl rfl (fun _ => ?_) (fun z => absurd (show (0 : Int) = (0 : Int) by decide) z)
            show X 119 46 [vR 5, vI (h 16 (h 5 4)), vI (h 12 (((h 17 ((h 5 7) - 1)) * 10) + (h 16 (h 5 4))))] [] h _
            refine X_b 1 47 (L := L_119) rfl rfl rfl ?_
            show X 119 47 [vR 5, vI (h 16 (h 5 4)), vI (h 12 (((h 17 ((h 5 7) - 1)) * 10) + (h 16 (h 5 4))))] [vI 3] h _
            refine X_iret (L := L_119) rfl rfl rfl rfl ?_
            exact H
          · have z32 : h 5 7 = 2 := (Classical.not_not.mp z32)
            replace H := H.2 z32
            show X 126 4 [vR 5] [] h _
            obtain ⟨⟨c33, c34⟩, H⟩ := H
            refine X_b 6 10 (L := L_126) rfl rfl rfl ?_
            show (0 ≤ (1 : Int) ∧ (1 : Int) < 61) ∧ X 126 10 [vR 5] [vI 0, vI (h 18 1), vR 5] h _
            refine ⟨by decide, ?_⟩
            refine X_call 117 [vR 5, vI (h 18 1), vI 0] [] rfl (sg_calv rfl rfl rfl rfl rfl rfl rfl rfl rfl rfl rfl) (by decide) ?_
            show X 117 0 [vR 5, vI (h 18 1), vI 0] [] h _
            refine X_b 8 8 (L := L_117) rfl rfl rfl ?_
            show (-2147483648 ≤ (h 18 1) * 5 ∧ (h 18 1) * 5 ≤ 2147483647) ∧ (-2147483648 ≤ ((h 18 1) * 5) + 0 ∧ ((h 18 1) * 5) + 0 ≤ 2147483647) ∧ (0 ≤ ((h 18 1) * 5) + 0 ∧ ((h 18 1) * 5) + 0 < 300) ∧ X 117 8 [vR 5, vI (h 18 1), vI 0] [vI (h 19 (((h 18 1) * 5) + 0))] h _
            refine ⟨c33, by have := c34; omega, c34, ?_⟩
            refine X_iret (L := L_117) rfl rfl rfl rfl ?_
            show X 126 11 [vR 5] [vI (h 19 (((h 18 1) * 5) + 0))] h _
            refine X_b 2 13 (L := L_126) rfl rfl rfl ?_
            show X 126 13 [vR 5] [vR 1, vI (h 19 (((h 18 1) * 5) + 0))] h _
            refine X_call 110 [vR 1] [vI (h 19 (((h 18 1) * 5) + 0))] rfl (sg_calv rfl rfl rfl rfl rfl rfl rfl rfl rfl rfl rfl) (by decide) ?_
            show X 110 0 [vR 1] [] h _
            refine X_b 4 4 (L := L_110) rfl rfl rfl ?_
            show (0 ≤ (0 : Int) ∧ (0 : Int) < 8) ∧ X 110 4 [vR 1] [vI (h 7 0)] h _
            refine ⟨by decide, ?_⟩
            refine X_iret (L := L_110) rfl rfl rfl rfl ?_
            show X 126 14 [vR 5] [vI (h 7 0), vI (h 19 (((h 18 1) * 5) + 0))] h _
            refine X_icmp (L := L_126) (n' := 17) rfl rfl rfl rfl (fun z35 => ?_) (fun z35 => ?_)
            · have z35 : ¬ h 19 (((h 18 1) * 5) + 0) = h 7 0 := z35
              replace H := H.1 z35
              show X 126 17 [vR 5] [] h _
              refine X_b 1 18 (L := L_126) rfl rfl rfl ?_
              show X 126 18 [vR 5] [vI 0] h _
              refine X_zret (L := L_126) rfl rfl rfl rfl (by decide) ?_
              show X 119 43 [vR 5, vI (h 16 (h 5 4)), vI (h 12 (((h 17 ((h 5 7) - 1)) * 10) + (h 16 (h 5 4))))] [vI 0] h _
              refine X_if (L := L_119) (n' := 46) rfl rfl rfl rfl (fun _ => ?_) (fun z => absurd (show (0 : Int) = (0 : Int) by decide) z)
              show X 119 46 [vR 5, vI (h 16 (h 5 4)), vI (h 12 (((h 17 ((h 5 7) - 1)) * 10) + (h 16 (h 5 4))))] [] h _
              refine X_b 1 47 (L := L_119) rfl rfl rfl ?_
              show X 119 47 [vR 5, vI (h 16 (h 5 4)), vI (h 12 (((h 17 ((h 5 7) - 1)) * 10) + (h 16 (h 5 4))))] [vI 3] h _
              refine X_iret (L := L_119) rfl rfl rfl rfl ?_
              exact H
            · have z35 : h 19 (((h 18 1) * 5) + 0) = h 7 0 := (Classical.not_not.mp z35)
              replace H := H.2 z35
              show X 126 15 [vR 5] [] h _
              refine X_b 1 16 (L := L_126) rfl rfl rfl ?_
              show X 126 16 [vR 5] [vI 1] h _
              refine X_goto (L := L_126) (n' := 18) rfl rfl rfl rfl ?_
              show X 126 18 [vR 5] [vI 1] h _
              refine X_zret (L := L_126) rfl rfl rfl rfl (by decide) ?_
              show X 119 43 [vR 5, vI (h 16 (h 5 4)), vI (h 12 (((h 17 ((h 5 7) - 1)) * 10) + (h 16 (h 5 4))))] [vI 1] h _
              refine X_if (L := L_119) (n' := 46) rfl rfl rfl rfl (fun z => absurd z (show ¬ ((1 : Int) = (0 : Int)) by decide)) (fun _ => ?_)
              show X 119 44 [vR 5, vI (h 16 (h 5 4)), vI (h 12 (((h 17 ((h 5 7) - 1)) * 10) + (h 16 (h 5 4))))] [] h _
              refine X_b 1 45 (L := L_119) rfl rfl rfl ?_
              show X 119 45 [vR 5, vI (h 16 (h 5 4)), vI (h 12 (((h 17 ((h 5 7) - 1)) * 10) + (h 16 (h 5 4))))] [vI 1] h _
              refine X_goto (L := L_119) (n' := 47) rfl rfl rfl rfl ?_
              show X 119 47 [vR 5, vI (h 16 (h 5 4)), vI (h 12 (((h 17 ((h 5 7) - 1)) * 10) + (h 16 (h 5 4))))] [vI 1] h _
              refine X_iret (L := L_119) rfl rfl rfl rfl ?_
              exact H
      · have z28 : 0 ≤ h 12 (((h 17 ((h 5 7) - 1)) * 10) + (h 16 (h 5 4))) := (Int.not_lt.mp z28)
        replace H := H.2 z28
        show X 25 2 [vI (h 12 (((h 17 ((h 5 7) - 1)) * 10) + (h 16 (h 5 4))))] [] h _
        refine X_b 2 4 (L := L_25) rfl rfl rfl ?_
        show X 25 4 [vI (h 12 (((h 17 ((h 5 7) - 1)) * 10) + (h 16 (h 5 4))))] [vI 50, vI (h 12 (((h 17 ((h 5 7) - 1)) * 10) + (h 16 (h 5 4))))] h _
        refine X_icmp (L := L_25) (n' := 7) rfl rfl rfl rfl (fun z36 => ?_) (fun z36 => ?_)
        · have z36 : 50 ≤ h 12 (((h 17 ((h 5 7) - 1)) * 10) + (h 16 (h 5 4))) := z36
          replace H := H.1 z36
          show X 25 7 [vI (h 12 (((h 17 ((h 5 7) - 1)) * 10) + (h 16 (h 5 4))))] [] h _
          refine X_b 1 8 (L := L_25) rfl rfl rfl ?_
          show X 25 8 [vI (h 12 (((h 17 ((h 5 7) - 1)) * 10) + (h 16 (h 5 4))))] [vI 0] h _
          refine X_zret (L := L_25) rfl rfl rfl rfl (by decide) ?_
          show X 119 32 [vR 5, vI (h 16 (h 5 4)), vI (h 12 (((h 17 ((h 5 7) - 1)) * 10) + (h 16 (h 5 4))))] [vI 0] h _
          refine X_if (L := L_119) (n' := 38) rfl rfl rfl rfl (fun _ => ?_) (fun z => absurd (show (0 : Int) = (0 : Int) by decide) z)
          show X 119 38 [vR 5, vI (h 16 (h 5 4)), vI (h 12 (((h 17 ((h 5 7) - 1)) * 10) + (h 16 (h 5 4))))] [] h _
          refine X_b 2 40 (L := L_119) rfl rfl rfl ?_
          show X 119 40 [vR 5, vI (h 16 (h 5 4)), vI (h 12 (((h 17 ((h 5 7) - 1)) * 10) + (h 16 (h 5 4))))] [vI 200, vI (h 12 (((h 17 ((h 5 7) - 1)) * 10) + (h 16 (h 5 4))))] h _
          refine X_icmp (L := L_119) (n' := 48) rfl rfl rfl rfl (fun z37 => ?_) (fun z37 => ?_)
          · have z37 : ¬ h 12 (((h 17 ((h 5 7) - 1)) * 10) + (h 16 (h 5 4))) = 200 := z37
            replace H := H.1 z37
            show X 119 48 [vR 5, vI (h 16 (h 5 4)), vI (h 12 (((h 17 ((h 5 7) - 1)) * 10) + (h 16 (h 5 4))))] [] h _
            obtain ⟨c38, H⟩ := H
            refine X_b 4 52 (L := L_119) rfl rfl rfl ?_
            show (-2147483648 ≤ (h 12 (((h 17 ((h 5 7) - 1)) * 10) + (h 16 (h 5 4)))) - 100 ∧ (h 12 (((h 17 ((h 5 7) - 1)) * 10) + (h 16 (h 5 4)))) - 100 ≤ 2147483647) ∧ X 119 52 [vR 5, vI (h 16 (h 5 4)), vI (h 12 (((h 17 ((h 5 7) - 1)) * 10) + (h 16 (h 5 4))))] [vI ((h 12 (((h 17 ((h 5 7) - 1)) * 10) + (h 16 (h 5 4)))) - 100), vR 5] h _
            refine ⟨c38, ?_⟩
            refine X_call 121 [vR 5, vI ((h 12 (((h 17 ((h 5 7) - 1)) * 10) + (h 16 (h 5 4)))) - 100)] [] rfl (sg_calv rfl rfl rfl rfl rfl rfl rfl rfl rfl rfl rfl) (by decide) ?_
            refine C_mono H (kI_to ?_)
            intro v39 h39 H
            show X 119 53 [vR 5, vI (h 16 (h 5 4)), vI (h 12 (((h 17 ((h 5 7) - 1)) * 10) + (h 16 (h 5 4))))] [vI v39] h39 _
            refine X_iret (L := L_119) rfl rfl rfl rfl ?_
            exact H
          · have z37 : h 12 (((h 17 ((h 5 7) - 1)) * 10) + (h 16 (h 5 4))) = 200 := (Classical.not_not.mp z37)
            replace H := H.2 z37
            show X 119 41 [vR 5, vI (h 16 (h 5 4)), vI (h 12 (((h 17 ((h 5 7) - 1)) * 10) + (h 16 (h 5 4))))] [] h _
            refine X_b 1 42 (L := L_119) rfl rfl rfl ?_
            show X 119 42 [vR 5, vI (h 16 (h 5 4)), vI (h 12 (((h 17 ((h 5 7) - 1)) * 10) + (h 16 (h 5 4))))] [vR 5] h _
            refine X_call 126 [vR 5] [] rfl (sg_calv rfl rfl rfl rfl rfl rfl rfl rfl rfl rfl rfl) (by decide) ?_
            show X 126 0 [vR 5] [] h _
            refine X_b 3 3 (L := L_126) rfl rfl rfl ?_
            show X 126 3 [vR 5] [vI 2, vI (h 5 7)] h _
            refine X_icmp (L := L_126) (n' := 17) rfl rfl rfl rfl (fun z40 => ?_) (fun z40 => ?_)
            · have z40 : ¬ h 5 7 = 2 := z40
              replace H := H.1 z40
              show X 126 17 [vR 5] [] h _
              refine X_b 1 18 (L := L_126) rfl rfl rfl ?_
              show X 126 18 [vR 5] [vI 0] h _
              refine X_zret (L := L_126) rfl rfl rfl rfl (by decide) ?_
              show X 119 43 [vR 5, vI (h 16 (h 5 4)), vI (h 12 (((h 17 ((h 5 7) - 1)) * 10) + (h 16 (h 5 4))))] [vI 0] h _
              refine X_if (L := L_119) (n' := 46) rfl rfl rfl rfl (fun _ => ?_) (fun z => absurd (show (0 : Int) = (0 : Int) by decide) z)
              show X 119 46 [vR 5, vI (h 16 (h 5 4)), vI (h 12 (((h 17 ((h 5 7) - 1)) * 10) + (h 16 (h 5 4))))] [] h _
              refine X_b 1 47 (L := L_119) rfl rfl rfl ?_
              show X 119 47 [vR 5, vI (h 16 (h 5 4)), vI (h 12 (((h 17 ((h 5 7) - 1)) * 10) + (h 16 (h 5 4))))] [vI 3] h _
              refine X_iret (L := L_119) rfl rfl rfl rfl ?_
              exact H
            · have z40 : h 5 7 = 2 := (Classical.not_not.mp z40)
              replace H := H.2 z40
              show X 126 4 [vR 5] [] h _
              obtain ⟨⟨c41, c42⟩, H⟩ := H
              refine X_b 6 10 (L := L_126) rfl rfl rfl ?_
              show (0 ≤ (1 : Int) ∧ (1 : Int) < 61) ∧ X 126 10 [vR 5] [vI 0, vI (h 18 1), vR 5] h _
              refine ⟨by decide, ?_⟩
              refine X_call 117 [vR 5, vI (h 18 1), vI 0] [] rfl (sg_calv rfl rfl rfl rfl rfl rfl rfl rfl rfl rfl rfl) (by decide) ?_
              show X 117 0 [vR 5, vI (h 18 1), vI 0] [] h _
              refine X_b 8 8 (L := L_117) rfl rfl rfl ?_
              show (-2147483648 ≤ (h 18 1) * 5 ∧ (h 18 1) * 5 ≤ 2147483647) ∧ (-2147483648 ≤ ((h 18 1) * 5) + 0 ∧ ((h 18 1) * 5) + 0 ≤ 2147483647) ∧ (0 ≤ ((h 18 1) * 5) + 0 ∧ ((h 18 1) * 5) + 0 < 300) ∧ X 117 8 [vR 5, vI (h 18 1), vI 0] [vI (h 19 (((h 18 1) * 5) + 0))] h _
              refine ⟨c41, by have := c42; omega, c42, ?_⟩
              refine X_iret (L := L_117) rfl rfl rfl rfl ?_
              show X 126 11 [vR 5] [vI (h 19 (((h 18 1) * 5) + 0))] h _
              refine X_b 2 13 (L := L_126) rfl rfl rfl ?_
              show X 126 13 [vR 5] [vR 1, vI (h 19 (((h 18 1) * 5) + 0))] h _
              refine X_call 110 [vR 1] [vI (h 19 (((h 18 1) * 5) + 0))] rfl (sg_calv rfl rfl rfl rfl rfl rfl rfl rfl rfl rfl rfl) (by decide) ?_
              show X 110 0 [vR 1] [] h _
              refine X_b 4 4 (L := L_110) rfl rfl rfl ?_
              show (0 ≤ (0 : Int) ∧ (0 : Int) < 8) ∧ X 110 4 [vR 1] [vI (h 7 0)] h _
              refine ⟨by decide, ?_⟩
              refine X_iret (L := L_110) rfl rfl rfl rfl ?_
              show X 126 14 [vR 5] [vI (h 7 0), vI (h 19 (((h 18 1) * 5) + 0))] h _
              refine X_icmp (L := L_126) (n' := 17) rfl rfl rfl rfl (fun z43 => ?_) (fun z43 => ?_)
              · have z43 : ¬ h 19 (((h 18 1) * 5) + 0) = h 7 0 := z43
                replace H := H.1 z43
                show X 126 17 [vR 5] [] h _
                refine X_b 1 18 (L := L_126) rfl rfl rfl ?_
                show X 126 18 [vR 5] [vI 0] h _
                refine X_zret (L := L_126) rfl rfl rfl rfl (by decide) ?_
                show X 119 43 [vR 5, vI (h 16 (h 5 4)), vI (h 12 (((h 17 ((h 5 7) - 1)) * 10) + (h 16 (h 5 4))))] [vI 0] h _
                refine X_if (L := L_119) (n' := 46) rfl rfl rfl rfl (fun _ => ?_) (fun z => absurd (show (0 : Int) = (0 : Int) by decide) z)
                show X 119 46 [vR 5, vI (h 16 (h 5 4)), vI (h 12 (((h 17 ((h 5 7) - 1)) * 10) + (h 16 (h 5 4))))] [] h _
                refine X_b 1 47 (L := L_119) rfl rfl rfl ?_
                show X 119 47 [vR 5, vI (h 16 (h 5 4)), vI (h 12 (((h 17 ((h 5 7) - 1)) * 10) + (h 16 (h 5 4))))] [vI 3] h _
                refine X_iret (L := L_119) rfl rfl rfl rfl ?_
                exact H
              · have z43 : h 19 (((h 18 1) * 5) + 0) = h 7 0 := (Classical.not_not.mp z43)
                replace H := H.2 z43
                show X 126 15 [vR 5] [] h _
                refine X_b 1 16 (L := L_126) rfl rfl rfl ?_
                show X 126 16 [vR 5] [vI 1] h _
                refine X_goto (L := L_126) (n' := 18) rfl rfl rfl rfl ?_
                show X 126 18 [vR 5] [vI 1] h _
                refine X_zret (L := L_126) rfl rfl rfl rfl (by decide) ?_
                show X 119 43 [vR 5, vI (h 16 (h 5 4)), vI (h 12 (((h 17 ((h 5 7) - 1)) * 10) + (h 16 (h 5 4))))] [vI 1] h _
                refine X_if (L := L_119) (n' := 46) rfl rfl rfl rfl (fun z => absurd z (show ¬ ((1 : Int) = (0 : Int)) by decide)) (fun _ => ?_)
                show X 119 44 [vR 5, vI (h 16 (h 5 4)), vI (h 12 (((h 17 ((h 5 7) - 1)) * 10) + (h 16 (h 5 4))))] [] h _
                refine X_b 1 45 (L := L_119) rfl rfl rfl ?_
                show X 119 45 [vR 5, vI (h 16 (h 5 4)), vI (h 12 (((h 17 ((h 5 7) - 1)) * 10) + (h 16 (h 5 4))))] [vI 1] h _
                refine X_goto (L := L_119) (n' := 47) rfl rfl rfl rfl ?_
                show X 119 47 [vR 5, vI (h 16 (h 5 4)), vI (h 12 (((h 17 ((h 5 7) - 1)) * 10) + (h 16 (h 5 4))))] [vI 1] h _
                refine X_iret (L := L_119) rfl rfl rfl rfl ?_
                exact H
        · have z36 : h 12 (((h 17 ((h 5 7) - 1)) * 10) + (h 16 (h 5 4))) < 50 := (Int.not_le.mp z36)
          replace H := H.2 z36
          show X 25 5 [vI (h 12 (((h 17 ((h 5 7) - 1)) * 10) + (h 16 (h 5 4))))] [] h _
          refine X_b 1 6 (L := L_25) rfl rfl rfl ?_
          show X 25 6 [vI (h 12 (((h 17 ((h 5 7) - 1)) * 10) + (h 16 (h 5 4))))] [vI 1] h _
          refine X_goto (L := L_25) (n' := 8) rfl rfl rfl rfl ?_
          show X 25 8 [vI (h 12 (((h 17 ((h 5 7) - 1)) * 10) + (h 16 (h 5 4))))] [vI 1] h _
          refine X_zret (L := L_25) rfl rfl rfl rfl (by decide) ?_
          show X 119 32 [vR 5, vI (h 16 (h 5 4)), vI (h 12 (((h 17 ((h 5 7) - 1)) * 10) + (h 16 (h 5 4))))] [vI 1] h _
          refine X_if (L := L_119) (n' := 38) rfl rfl rfl rfl (fun z => absurd z (show ¬ ((1 : Int) = (0 : Int)) by decide)) (fun _ => ?_)
          show X 119 33 [vR 5, vI (h 16 (h 5 4)), vI (h 12 (((h 17 ((h 5 7) - 1)) * 10) + (h 16 (h 5 4))))] [] h _
          refine X_b 3 36 (L := L_119) rfl rfl rfl ?_
          show X 119 36 [vR 5, vI (h 16 (h 5 4)), vI (h 12 (((h 17 ((h 5 7) - 1)) * 10) + (h 16 (h 5 4))))] [vI (h 12 (((h 17 ((h 5 7) - 1)) * 10) + (h 16 (h 5 4)))), vI (h 16 (h 5 4)), vR 5] h _
          refine X_call 120 [vR 5, vI (h 16 (h 5 4)), vI (h 12 (((h 17 ((h 5 7) - 1)) * 10) + (h 16 (h 5 4))))] [] rfl (sg_calv rfl rfl rfl rfl rfl rfl rfl rfl rfl rfl rfl) (by decide) ?_
          refine C_mono H (kI_to ?_)
          intro v44 h44 H
          show X 119 37 [vR 5, vI (h 16 (h 5 4)), vI (h 12 (((h 17 ((h 5 7) - 1)) * 10) + (h 16 (h 5 4))))] [vI v44] h44 _
          refine X_iret (L := L_119) rfl rfl rfl rfl ?_
          exact H
    · have z27 : h 12 (((h 17 ((h 5 7) - 1)) * 10) + (h 16 (h 5 4))) = (-1) := (Classical.not_not.mp z27)
      replace H := H.2 z27
      show X 119 28 [vR 5, vI (h 16 (h 5 4)), vI (h 12 (((h 17 ((h 5 7) - 1)) * 10) + (h 16 (h 5 4))))] [] h _
      refine X_b 1 29 (L := L_119) rfl rfl rfl ?_
      show X 119 29 [vR 5, vI (h 16 (h 5 4)), vI (h 12 (((h 17 ((h 5 7) - 1)) * 10) + (h 16 (h 5 4))))] [vI 2] h _
      refine X_iret (L := L_119) rfl rfl rfl rfl ?_
      exact H

/-- Parser.shift, row 0 -/
theorem s_120_0 (x1 x2 : Int) (h : ab_S) (K : ab_O → ab_S → Prop) (H : ((¬ x1 = 9 → ((h 5 9 < 60 → ((-2147483648 ≤ (h 5 9) * 5 ∧ (h 5 9) * 5 ≤ 2147483647) ∧ (0 ≤ ((h 5 9) * 5) + 0 ∧ ((h 5 9) * 5) + 0 < 300) ∧ (0 ≤ ((h 5 9) * 5) + 1 ∧ ((h 5 9) * 5) + 1 < 300) ∧ (0 ≤ ((h 5 9) * 5) + 2 ∧ ((h 5 9) * 5) + 2 < 300) ∧ (0 ≤ ((h 5 9) * 5) + 3 ∧ ((h 5 9) * 5) + 3 < 300) ∧ (0 ≤ ((h 5 9) * 5) + 4 ∧ ((h 5 9) * 5) + 4 < 300) ∧ (-2147483648 ≤ (h 5 9) + 1 ∧ (h 5 9) + 1 ≤ 2147483647) ∧ (-2147483648 ≤ ((h 5 9) + 1) - 1 ∧ ((h 5 9) + 1) - 1 ≤ 2147483647) ∧ (0 ≤ h 5 7 ∧ h 5 7 < 61) ∧ (-2147483648 ≤ (h 5 7) + 1 ∧ (h 5 7) + 1 ≤ 2147483647) ∧ (-2147483648 ≤ (h 5 4) + 1 ∧ (h 5 4) + 1 ≤ 2147483647)) ∧ K (oI 0) (ab_up (ab_up (ab_up (ab_up (ab_up (ab_up (ab_up (ab_up (ab_up (ab_up h 19 (((h 5 9) * 5) + 0) x1) 19 (((h 5 9) * 5) + 1) (-1)) 19 (((h 5 9) * 5) + 2) (-1)) 19 (((h 5 9) * 5) + 3) (h 5 4)) 19 (((h 5 9) * 5) + 4) 1) 5 9 ((h 5 9) + 1)) 18 (h 5 7) (((h 5 9) + 1) - 1)) 17 (h 5 7) x2) 5 7 ((h 5 7) + 1)) 5 4 ((h 5 4) + 1))) ∧ (60 ≤ h 5 9 → K (oI 4) h))) ∧ (x1 = 9 → K (oI 3) h))) : C 120 [vR 5, vI x1, vI x2] h K := by
  show X 120 0 [vR 5, vI x1, vI x2] [] h K
  refine X_b 2 2 (L := L_120) rfl rfl rfl ?_
  show X 120 2 [vR 5, vI x1, vI x2] [vI 9, vI x1] h _
  refine X_icmp (L := L_120) (n' := 5) rfl rfl rfl rfl (fun z1 => ?_) (fun z1 => ?_)
  · have z1 : ¬ x1 = 9 := z1
    replace H := H.1 z1
    show X 120 5 [vR 5, vI x1, vI x2] [] h _
    refine X_b 3 8 (L := L_120) rfl rfl rfl ?_
    show X 120 8 [vR 5, vI x1, vI x2] [vI 60, vI (h 5 9)] h _
    refine X_icmp (L := L_120) (n' := 11) rfl rfl rfl rfl (fun z2 => ?_) (fun z2 => ?_)
    · have z2 : h 5 9 < 60 := z2
      replace H := H.1 z2
      show X 120 11 [vR 5, vI x1, vI x2] [] h _
      obtain ⟨⟨c3, c4, c5, c6, c7, c8, c9, c10, c11, c12, c13⟩, H⟩ := H
      refine X_b 7 18 (L := L_120) rfl rfl rfl ?_
      show X 120 18 [vR 5, vI x1, vI x2] [vI 1, vI (h 5 4), vI (-1), vI x1, vR 5, vR 5] h _
      refine X_call 124 [vR 5, vI x1, vI (-1), vI (h 5 4), vI 1] [vR 5] rfl (sg_calv rfl rfl rfl rfl rfl rfl rfl rfl rfl rfl rfl) (by decide) ?_
      show X 124 0 [vR 5, vI x1, vI (-1), vI (h 5 4), vI 1, vJ 0] [] h _
      refine X_b 50 50 (L := L_124) rfl rfl rfl ?_
      show (-2147483648 ≤ (h 5 9) * 5 ∧ (h 5 9) * 5 ≤ 2147483647) ∧ (-2147483648 ≤ ((h 5 9) * 5) + 0 ∧ ((h 5 9) * 5) + 0 ≤ 2147483647) ∧ (0 ≤ ((h 5 9) * 5) + 0 ∧ ((h 5 9) * 5) + 0 < 300) ∧ (-2147483648 ≤ ((h 5 9) * 5) + 1 ∧ ((h 5 9) * 5) + 1 ≤ 2147483647) ∧ (0 ≤ ((h 5 9) * 5) + 1 ∧ ((h 5 9) * 5) + 1 < 300) ∧ (-2147483648 ≤ ((h 5 9) * 5) + 2 ∧ ((h 5 9) * 5) + 2 ≤ 2147483647) ∧ (0 ≤ ((h 5 9) * 5) + 2 ∧ ((h 5 9) * 5) + 2 < 300) ∧ (-2147483648 ≤ ((h 5 9) * 5) + 3 ∧ ((h 5 9) * 5) + 3 ≤ 2147483647) ∧ (0 ≤ ((h 5 9) * 5) + 3 ∧ ((h 5 9) * 5) + 3 < 300) ∧ (-2147483648 ≤ ((h 5 9) * 5) + 4 ∧ ((h 5 9) * 5) + 4 ≤ 2147483647) ∧ (0 ≤ ((h 5 9) * 5) + 4 ∧ ((h 5 9) * 5) + 4 < 300) ∧ (-2147483648 ≤ (h 5 9) + 1 ∧ (h 5 9) + 1 ≤ 2147483647) ∧ (-2147483648 ≤ ((h 5 9) + 1) - 1 ∧ ((h 5 9) + 1) - 1 ≤ 2147483647) ∧ X 124 50 [vR 5, vI x1, vI (-1), vI (h 5 4), vI 1, vI ((h 5 9) * 5)] [vI (((h 5 9) + 1) - 1)] (ab_up (ab_up (ab_up (ab_up (ab_up (ab_up h 19 (((h 5 9) * 5) + 0) x1) 19 (((h 5 9) * 5) + 1) (-1)) 19 (((h 5 9) * 5) + 2) (-1)) 19 (((h 5 9) * 5) + 3) (h 5 4)) 19 (((h 5 9) * 5) + 4) 1) 5 9 ((h 5 9) + 1)) _
      refine ⟨c3, by have := c4; omega, c4, by have := c5; omega, c5, by have := c6; omega, c6, by have := c7; omega, c7, by have := c8; omega, c8, c9, c10, ?_⟩
      refine X_iret (L := L_124) rfl rfl rfl rfl ?_
      show X 120 19 [vR 5, vI x1, vI x2] [vI (((h 5 9) + 1) - 1), vR 5] (ab_up (ab_up (ab_up (ab_up (ab_up (ab_up h 19 (((h 5 9) * 5) + 0) x1) 19 (((h 5 9) * 5) + 1) (-1)) 19 (((h 5 9) * 5) + 2) (-1)) 19 (((h 5 9) * 5) + 3) (h 5 4)) 19 (((h 5 9) * 5) + 4) 1) 5 9 ((h 5 9) + 1)) _
      refine X_b 1 20 (L := L_120) rfl rfl rfl ?_
      show X 120 20 [vR 5, vI x1, vI x2] [vI x2, vI (((h 5 9) + 1) - 1), vR 5] (ab_up (ab_up (ab_up (ab_up (ab_up (ab_up h 19 (((h 5 9) * 5) + 0) x1) 19 (((h 5 9) * 5) + 1) (-1)) 19 (((h 5 9) * 5) + 2) (-1)) 19 (((h 5 9) * 5) + 3) (h 5 4)) 19 (((h 5 9) * 5) + 4) 1) 5 9 ((h 5 9) + 1)) _
      refine X_call 125 [vR 5, vI (((h 5 9) + 1) - 1), vI x2] [] rfl (sg_calv rfl rfl rfl rfl rfl rfl rfl rfl rfl rfl rfl) (by decide) ?_
      show X 125 0 [vR 5, vI (((h 5 9) + 1) - 1), vI x2] [] (ab_up (ab_up (ab_up (ab_up (ab_up (ab_up h 19 (((h 5 9) * 5) + 0) x1) 19 (((h 5 9) * 5) + 1) (-1)) 19 (((h 5 9) * 5) + 2) (-1)) 19 (((h 5 9) * 5) + 3) (h 5 4)) 19 (((h 5 9) * 5) + 4) 1) 5 9 ((h 5 9) + 1)) _
      refine X_b 18 18 (L := L_125) rfl rfl rfl ?_
      show (0 ≤ h 5 7 ∧ h 5 7 < 61) ∧ (0 ≤ h 5 7 ∧ h 5 7 < 61) ∧ (-2147483648 ≤ (h 5 7) + 1 ∧ (h 5 7) + 1 ≤ 2147483647) ∧ X 125 18 [vR 5, vI (((h 5 9) + 1) - 1), vI x2] [] (ab_up (ab_up (ab_up (ab_up (ab_up (ab_up (ab_up (ab_up (ab_up h 19 (((h 5 9) * 5) + 0) x1) 19 (((h 5 9) * 5) + 1) (-1)) 19 (((h 5 9) * 5) + 2) (-1)) 19 (((h 5 9) * 5) + 3) (h 5 4)) 19 (((h 5 9) * 5) + 4) 1) 5 9 ((h 5 9) + 1)) 18 (h 5 7) (((h 5 9) + 1) - 1)) 17 (h 5 7) x2) 5 7 ((h 5 7) + 1)) _
      refine ⟨c11, c11, c12, ?_⟩
      refine X_ret (L := L_125) rfl rfl rfl rfl ?_
      show X 120 21 [vR 5, vI x1, vI x2] [] (ab_up (ab_up (ab_up (ab_up (ab_up (ab_up (ab_up (ab_up (ab_up h 19 (((h 5 9) * 5) + 0) x1) 19 (((h 5 9) * 5) + 1) (-1)) 19 (((h 5 9) * 5) + 2) (-1)) 19 (((h 5 9) * 5) + 3) (h 5 4)) 19 (((h 5 9) * 5) + 4) 1) 5 9 ((h 5 9) + 1)) 18 (h 5 7) (((h 5 9) + 1) - 1)) 17 (h 5 7) x2) 5 7 ((h 5 7) + 1)) _
      refine X_b 7 28 (L := L_120) rfl rfl rfl ?_
      show (-2147483648 ≤ (h 5 4) + 1 ∧ (h 5 4) + 1 ≤ 2147483647) ∧ X 120 28 [vR 5, vI x1, vI x2] [vI 0] (ab_up (ab_up (ab_up (ab_up (ab_up (ab_up (ab_up (ab_up (ab_up (ab_up h 19 (((h 5 9) * 5) + 0) x1) 19 (((h 5 9) * 5) + 1) (-1)) 19 (((h 5 9) * 5) + 2) (-1)) 19 (((h 5 9) * 5) + 3) (h 5 4)) 19 (((h 5 9) * 5) + 4) 1) 5 9 ((h 5 9) + 1)) 18 (h 5 7) (((h 5 9) + 1) - 1)) 17 (h 5 7) x2) 5 7 ((h 5 7) + 1)) 5 4 ((h 5 4) + 1)) _
      refine ⟨c13, ?_⟩
      refine X_iret (L := L_120) rfl rfl rfl rfl ?_
      exact H
    · have z2 : 60 ≤ h 5 9 := (Int.not_lt.mp z2)
      replace H := H.2 z2
      show X 120 9 [vR 5, vI x1, vI x2] [] h _
      refine X_b 1 10 (L := L_120) rfl rfl rfl ?_
      show X 120 10 [vR 5, vI x1, vI x2] [vI 4] h _
      refine X_iret (L := L_120) rfl rfl rfl rfl ?_
      exact H
  · have z1 : x1 = 9 := (Classical.not_not.mp z1)
    replace H := H.2 z1
    show X 120 3 [vR 5, vI x1, vI x2] [] h _
    refine X_b 1 4 (L := L_120) rfl rfl rfl ?_
    show X 120 4 [vR 5, vI x1, vI x2] [vI 3] h _
    refine X_iret (L := L_120) rfl rfl rfl rfl ?_
    exact H

set_option maxRecDepth 8192 in
/-- Parser.reduce, row 0 -/
theorem s_121_0 (x1 : Int) (h : ab_S) (K : ab_O → ab_S → Prop) (H : ((x1 = h 1 0 → K (oI 3) h) ∧ (¬ x1 = h 1 0 → C 122 [vR 5, vI x1] h (kI (fun v2 h2 => ((¬ v2 = 0 → ((h2 5 9 < 60 → ((0 ≤ x1 ∧ x1 < 8)) ∧ C 123 [vR 5, vI (h2 7 x1), vI x1] h2 (kI (fun v6 h6 => ((0 ≤ x1 ∧ x1 < 9) ∧ (-2147483648 ≤ (h6 5 7) - (h6 8 x1) ∧ (h6 5 7) - (h6 8 x1) ≤ 2147483647) ∧ (0 ≤ ((h6 5 7) - (h6 8 x1)) - 1 ∧ ((h6 5 7) - (h6 8 x1)) - 1 < 61) ∧ (-2147483648 ≤ (h6 17 (((h6 5 7) - (h6 8 x1)) - 1)) * 10 ∧ (h6 17 (((h6 5 7) - (h6 8 x1)) - 1)) * 10 ≤ 2147483647) ∧ (0 ≤ ((h6 17 (((h6 5 7) - (h6 8 x1)) - 1)) * 10) + (h2 7 x1) ∧ ((h6 17 (((h6 5 7) - (h6 8 x1)) - 1)) * 10) + (h2 7 x1) < 500)) ∧ ((h6 12 (((h6 17 (((h6 5 7) - (h6 8 x1)) - 1)) * 10) + (h2 7 x1)) < 0 → K (oI 3) (ab_up h6 5 7 ((h6 5 7) - (h6 8 x1)))) ∧ (0 ≤ h6 12 (((h6 17 (((h6 5 7) - (h6 8 x1)) - 1)) * 10) + (h2 7 x1)) → ((50 ≤ h6 12 (((h6 17 (((h6 5 7) - (h6 8 x1)) - 1)) * 10) + (h2 7 x1)) → K (oI 3) (ab_up h6 5 7 ((h6 5 7) - (h6 8 x1)))) ∧ (h6 12 (((h6 17 (((h6 5 7) - (h6 8 x1)) - 1)) * 10) + (h2 7 x1)) < 50 → ((0 ≤ (h6 5 7) - (h6 8 x1) ∧ (h6 5 7) - (h6 8 x1) < 61) ∧ (-2147483648 ≤ ((h6 5 7) - (h6 8 x1)) + 1 ∧ ((h6 5 7) - (h6 8 x1)) + 1 ≤ 2147483647)) ∧ K (oI 0) (ab_up (ab_up (ab_up (ab_up h6 5 7 ((h6 5 7) - (h6 8 x1))) 18 ((h6 5 7) - (h6 8 x1)) v6) 17 ((h6 5 7) - (h6 8 x1)) (h6 12 (((h6 17 (((h6 5 7) - (h6 8 x1)) - 1)) * 10) + (h2 7 x1)))) 5 7 (((h6 5 7) - (h6 8 x1)) + 1))))))))) ∧ (60 ≤ h2 5 9 → K (oI 4) h2))) ∧ (v2 = 0 → K (oI 3) h2))))))) : C 121 [vR 5, vI x1] h K := by
  show X 121 0 [vR 5, vI x1, vJ 0, vJ 0, vJ 0] [] h K
  refine X_b 3 3 (L := L_121) rfl rfl rfl ?_
  show X 121 3 [vR 5, vI x1, vJ 0, vJ 0, vJ 0] [vR 1, vI x1] h _
  refine X_call 109 [vR 1] [vI x1] rfl (sg_calv rfl rfl rfl rfl rfl rfl rfl rfl rfl rfl rfl) (by decide) ?_
  show X 109 0 [vR 1] [] h _
  refine X_b 2 2 (L := L_109) rfl rfl rfl ?_
  show X 109 2 [vR 1] [vI (h 1 0)] h _
  refine X_iret (L := L_109) rfl rfl rfl rfl ?_
  show X 121 4 [vR 5, vI x1, vJ 0, vJ 0, vJ 0] [vI (h 1 0), vI x1] h _
  refine X_icmp (L := L_121) (n' := 9) rfl rfl rfl rfl (fun z1 => ?_) (fun z1 => ?_)
  · have z1 : x1 = h 1 0 := z1
    replace H := H.1 z1
    show X 121 9 [vR 5, vI x1, vJ 0, vJ 0, vJ 0] [] h _
    refine X_b 1 10 (L := L_121) rfl rfl rfl ?_
    show X 121 10 [vR 5, vI x1, vJ 0, vJ 0, vJ 0] [vI 3] h _
    refine X_iret (L := L_121) rfl rfl rfl rfl ?_
    exact H
  · have z1 : ¬ x1 = h 1 0 := z1
    replace H := H.2 z1
    show X 121 5 [vR 5, vI x1, vJ 0, vJ 0, vJ 0] [] h _
    refine X_b 2 7 (L := L_121) rfl rfl rfl ?_
    show X 121 7 [vR 5, vI x1, vJ 0, vJ 0, vJ 0] [vI x1, vR 5] h _
    refine X_call 122 [vR 5, vI x1] [] rfl (sg_calv rfl rfl rfl rfl rfl rfl rfl rfl rfl rfl rfl) (by decide) ?_
    refine C_mono H (kI_to ?_)
    intro v2 h2 H
    show X 121 8 [vR 5, vI x1, vJ 0, vJ 0, vJ 0] [vI v2] h2 _
    refine X_if (L := L_121) (n' := 11) rfl rfl rfl rfl (fun z3 => ?_) (fun z3 => ?_)
    · have z3 : ¬ v2 = 0 := z3
      replace H := H.1 z3
      show X 121 11 [vR 5, vI x1, vJ 0, vJ 0, vJ 0] [] h2 _
      refine X_b 3 14 (L := L_121) rfl rfl rfl ?_
      show X 121 14 [vR 5, vI x1, vJ 0, vJ 0, vJ 0] [vI 60, vI (h2 5 9)] h2 _
      refine X_icmp (L := L_121) (n' := 17) rfl rfl rfl rfl (fun z4 => ?_) (fun z4 => ?_)
      · have z4 : h2 5 9 < 60 := z4
        replace H := H.1 z4
        show X 121 17 [vR 5, vI x1, vJ 0, vJ 0, vJ 0] [] h2 _
        obtain ⟨c5, H⟩ := H
        refine X_b 9 26 (L := L_121) rfl rfl rfl ?_
        show (0 ≤ x1 ∧ x1 < 8) ∧ X 121 26 [vR 5, vI x1, vI (h2 7 x1), vJ 0, vJ 0] [vI x1, vI (h2 7 x1), vR 5] h2 _
        refine ⟨c5, ?_⟩
        refine X_call 123 [vR 5, vI (h2 7 x1), vI x1] [] rfl (sg_calv rfl rfl rfl rfl rfl rfl rfl rfl rfl rfl rfl) (by decide) ?_
        refine C_mono H (kI_to ?_)
        intro v6 h6 H
        show X 121 27 [vR 5, vI x1, vI (h2 7 x1), vJ 0, vJ 0] [vI v6] h6 _
        obtain ⟨⟨c7, c8, c9, c10, c11⟩, H⟩ := H
        refine X_b 21 48 (L := L_121) rfl rfl rfl ?_
        show (0 ≤ x1 ∧ x1 < 9) ∧ (-2147483648 ≤ (h6 5 7) - (h6 8 x1) ∧ (h6 5 7) - (h6 8 x1) ≤ 2147483647) ∧ (-2147483648 ≤ ((h6 5 7) - (h6 8 x1)) - 1 ∧ ((h6 5 7) - (h6 8 x1)) - 1 ≤ 2147483647) ∧ (0 ≤ ((h6 5 7) - (h6 8 x1)) - 1 ∧ ((h6 5 7) - (h6 8 x1)) - 1 < 61) ∧ X 121 48 [vR 5, vI x1, vI (h2 7 x1), vI v6, vJ 0] [vI (h2 7 x1), vI (h6 17 (((h6 5 7) - (h6 8 x1)) - 1)), vR 2] (ab_up h6 5 7 ((h6 5 7) - (h6 8 x1))) _
        refine ⟨c7, c8, by have := c9; omega, c9, ?_⟩
        refine X_call 78 [vR 2, vI (h6 17 (((h6 5 7) - (h6 8 x1)) - 1)), vI (h2 7 x1)] [] rfl (sg_calv rfl rfl rfl rfl rfl rfl rfl rfl rfl rfl rfl) (by decide) ?_
        show X 78 0 [vR 2, vI (h6 17 (((h6 5 7) - (h6 8 x1)) - 1)), vI (h2 7 x1)] [] (ab_up h6 5 7 ((h6 5 7) - (h6 8 x1))) _
        refine X_b 8 8 (L := L_78) rfl rfl rfl ?_
        show (-2147483648 ≤ (h6 17 (((h6 5 7) - (h6 8 x1)) - 1)) * 10 ∧ (h6 17 (((h6 5 7) - (h6 8 x1)) - 1)) * 10 ≤ 2147483647) ∧ (-2147483648 ≤ ((h6 17 (((h6 5 7) - (h6 8 x1)) - 1)) * 10) + (h2 7 x1) ∧ ((h6 17 (((h6 5 7) - (h6 8 x1)) - 1)) * 10) + (h2 7 x1) ≤ 2147483647) ∧ (0 ≤ ((h6 17 (((h6 5 7) - (h6 8 x1)) - 1)) * 10) + (h2 7 x1) ∧ ((h6 17 (((h6 5 7) - (h6 8 x1)) - 1)) * 10) + (h2 7 x1) < 500) ∧ X 78 8 [vR 2, vI (h6 17 (((h6 5 7) - (h6 8 x1)) - 1)), vI (h2 7 x1)] [vI (h6 12 (((h6 17 (((h6 5 7) - (h6 8 x1)) - 1)) * 10) + (h2 7 x1)))] (ab_up h6 5 7 ((h6 5 7) - (h6 8 x1))) _
        refine ⟨c10, by have := c11; omega, c11, ?_⟩
        refine X_iret (L := L_78) rfl rfl rfl rfl ?_
        show X 121 49 [vR 5, vI x1, vI (h2 7 x1), vI v6, vJ 0] [vI (h6 12 (((h6 17 (((h6 5 7) - (h6 8 x1)) - 1)) * 10) + (h2 7 x1)))] (ab_up h6 5 7 ((h6 5 7) - (h6 8 x1))) _
        refine X_b 2 51 (L := L_121) rfl rfl rfl ?_
        show X 121 51 [vR 5, vI x1, vI (h2 7 x1), vI v6, vI (h6 12 (((h6 17 (((h6 5 7) - (h6 8 x1)) - 1)) * 10) + (h2 7 x1)))] [vI (h6 12 (((h6 17 (((h6 5 7) - (h6 8 x1)) - 1)) * 10) + (h2 7 x1)))] (ab_up h6 5 7 ((h6 5 7) - (h6 8 x1))) _
        refine X_call 25 [vI (h6 12 (((h6 17 (((h6 5 7) - (h6 8 x1)) - 1)) * 10) + (h2 7 x1)))] [] rfl (sg_cals rfl rfl rfl rfl rfl rfl rfl rfl rfl rfl) (by decide) ?_
        show X 25 0 [vI (h6 12 (((h6 17 (((h6 5 7) - (h6 8 x1)) - 1)) * 10) + (h2 7 x1)))] [] (ab_up h6 5 7 ((h6 5 7) - (h6 8 x1))) _
        refine X_b 1 1 (L := L_25) rfl rfl rfl ?_
        show X 25 1 [vI (h6 12 (((h6 17 (((h6 5 7) - (h6 8 x1)) - 1)) * 10) + (h2 7 x1)))] [vI (h6 12 (((h6 17 (((h6 5 7) - (h6 8 x1)) - 1)) * 10) + (h2 7 x1)))] (ab_up h6 5 7 ((h6 5 7) - (h6 8 x1))) _
        refine X_if (L := L_25) (n' := 7) rfl rfl rfl rfl (fun z12 => ?_) (fun z12 => ?_)
        · have z12 : h6 12 (((h6 17 (((h6 5 7) - (h6 8 x1)) - 1)) * 10) + (h2 7 x1)) < 0 := z12
          replace H := H.1 z12
          show X 25 7 [vI (h6 12 (((h6 17 (((h6 5 7) - (h6 8 x1)) - 1)) * 10) + (h2 7 x1)))] [] (ab_up h6 5 7 ((h6 5 7) - (h6 8 x1))) _
          refine X_b 1 8 (L := L_25) rfl rfl rfl ?_
          show X 25 8 [vI (h6 12 (((h6 17 (((h6 5 7) - (h6 8 x1)) - 1)) * 10) + (h2 7 x1)))] [vI 0] (ab_up h6 5 7 ((h6 5 7) - (h6 8 x1))) _
          refine X_zret (L := L_25) rfl rfl rfl rfl (by decide) ?_
          show X 121 52 [vR 5, vI x1, vI (h2 7 x1), vI v6, vI (h6 12 (((h6 17 (((h6 5 7) - (h6 8 x1)) - 1)) * 10) + (h2 7 x1)))] [vI 0] (ab_up h6 5 7 ((h6 5 7) - (h6 8 x1))) _
          refine X_if (L := L_121) (n' := 55) rfl rfl rfl rfl (fun z => absurd z (show ¬ (¬ (0 : Int) = (0 : Int)) by decide)) (fun _ => ?_)
          show X 121 53 [vR 5, vI x1, vI (h2 7 x1), vI v6, vI (h6 12 (((h6 17 (((h6 5 7) - (h6 8 x1)) - 1)) * 10) + (h2 7 x1)))] [] (ab_up h6 5 7 ((h6 5 7) - (h6 8 x1))) _
          refine X_b 1 54 (L := L_121) rfl rfl rfl ?_
          show X 121 54 [vR 5, vI x1, vI (h2 7 x1), vI v6, vI (h6 12 (((h6 17 (((h6 5 7) - (h6 8 x1)) - 1)) * 10) + (h2 7 x1)))] [vI 3] (ab_up h6 5 7 ((h6 5 7) - (h6 8 x1))) _
          refine X_iret (L := L_121) rfl rfl rfl rfl ?_
          exact H
        · have z12 : 0 ≤ h6 12 (((h6 17 (((h6 5 7) - (h6 8 x1)) - 1)) * 10) + (h2 7 x1)) := (Int.not_lt.mp z12)
          replace H := H.2 z12
          show X 25 2 [vI (h6 12 (((h6 17 (((h6 5 7) - (h6 8 x1)) - 1)) * 10) + (h2 7 x1)))] [] (ab_up h6 5 7 ((h6 5 7) - (h6 8 x1))) _
          refine X_b 2 4 (L := L_25) rfl rfl rfl ?_
          show X 25 4 [vI (h6 12 (((h6 17 (((h6 5 7) - (h6 8 x1)) - 1)) * 10) + (h2 7 x1)))] [vI 50, vI (h6 12 (((h6 17 (((h6 5 7) - (h6 8 x1)) - 1)) * 10) + (h2 7 x1)))] (ab_up h6 5 7 ((h6 5 7) - (h6 8 x1))) _
          refine X_icmp (L := L_25) (n' := 7) rfl rfl rfl rfl (fun z13 => ?_) (fun z13 => ?_)
          · have z13 : 50 ≤ h6 12 (((h6 17 (((h6 5 7) - (h6 8 x1)) - 1)) * 10) + (h2 7 x1)) := z13
            replace H := H.1 z13
            show X 25 7 [vI (h6 12 (((h6 17 (((h6 5 7) - (h6 8 x1)) - 1)) * 10) + (h2 7 x1)))] [] (ab_up h6 5 7 ((h6 5 7) - (h6 8 x1))) _
            refine X_b 1 8 (L := L_25) rfl rfl rfl ?_
            show X 25 8 [vI (h6 12 (((h6 17 (((h6 5 7) - (h6 8 x1)) - 1)) * 10) + (h2 7 x1)))] [vI 0] (ab_up h6 5 7 ((h6 5 7) - (h6 8 x1))) _
            refine X_zret (L := L_25) rfl rfl rfl rfl (by decide) ?_
            show X 121 52 [vR 5, vI x1, vI (h2 7 x1), vI v6, vI (h6 12 (((h6 17 (((h6 5 7) - (h6 8 x1)) - 1)) * 10) + (h2 7 x1)))] [vI 0] (ab_up h6 5 7 ((h6 5 7) - (h6 8 x1))) _
            refine X_if (L := L_121) (n' := 55) rfl rfl rfl rfl (fun z => absurd z (show ¬ (¬ (0 : Int) = (0 : Int)) by decide)) (fun _ => ?_)
            show X 121 53 [vR 5, vI x1, vI (h2 7 x1), vI v6, vI (h6 12 (((h6 17 (((h6 5 7) - (h6 8 x1)) - 1)) * 10) + (h2 7 x1)))] [] (ab_up h6 5 7 ((h6 5 7) - (h6 8 x1))) _
            refine X_b 1 54 (L := L_121) rfl rfl rfl ?_
            show X 121 54 [vR 5, vI x1, vI (h2 7 x1), vI v6, vI (h6 12 (((h6 17 (((h6 5 7) - (h6 8 x1)) - 1)) * 10) + (h2 7 x1)))] [vI 3] (ab_up h6 5 7 ((h6 5 7) - (h6 8 x1))) _
            refine X_iret (L := L_121) rfl rfl rfl rfl ?_
            exact H
          · have z13 : h6 12 (((h6 17 (((h6 5 7) - (h6 8 x1)) - 1)) * 10) + (h2 7 x1)) < 50 := (Int.not_le.mp z13)
            replace H := H.2 z13
            show X 25 5 [vI (h6 12 (((h6 17 (((h6 5 7) - (h6 8 x1)) - 1)) * 10) + (h2 7 x1)))] [] (ab_up h6 5 7 ((h6 5 7) - (h6 8 x1))) _
            obtain ⟨⟨c14, c15⟩, H⟩ := H
            refine X_b 1 6 (L := L_25) rfl rfl rfl ?_
            show X 25 6 [vI (h6 12 (((h6 17 (((h6 5 7) - (h6 8 x1)) - 1)) * 10) + (h2 7 x1)))] [vI 1] (ab_up h6 5 7 ((h6 5 7) - (h6 8 x1))) _
            refine X_goto (L := L_25) (n' := 8) rfl rfl rfl rfl ?_
            show X 25 8 [vI (h6 12 (((h6 17 (((h6 5 7) - (h6 8 x1)) - 1)) * 10) + (h2 7 x1)))] [vI 1] (ab_up h6 5 7 ((h6 5 7) - (h6 8 x1))) _
            refine X_zret (L := L_25) rfl rfl rfl rfl (by decide) ?_
            show X 121 52 [vR 5, vI x1, vI (h2 7 x1), vI v6, vI (h6 12 (((h6 17 (((h6 5 7) - (h6 8 x1)) - 1)) * 10) + (h2 7 x1)))] [vI 1] (ab_up h6 5 7 ((h6 5 7) - (h6 8 x1))) _
            refine X_if (L := L_121) (n' := 55) rfl rfl rfl rfl (fun _ => ?_) (fun z => absurd (show ¬ (1 : Int) = (0 : Int) by decide) z)
            show X 121 55 [vR 5, vI x1, vI (h2 7 x1), vI v6, vI (h6 12 (((h6 17 (((h6 5 7) - (h6 8 x1)) - 1)) * 10) + (h2 7 x1)))] [] (ab_up h6 5 7 ((h6 5 7) - (h6 8 x1))) _
            refine X_b 3 58 (L := L_121) rfl rfl rfl ?_
            show X 121 58 [vR 5, vI x1, vI (h2 7 x1), vI v6, vI (h6 12 (((h6 17 (((h6 5 7) - (h6 8 x1)) - 1)) * 10) + (h2 7 x1)))] [vI (h6 12 (((h6 17 (((h6 5 7) - (h6 8 x1)) - 1)) * 10) + (h2 7 x1))), vI v6, vR 5] (ab_up h6 5 7 ((h6 5 7) - (h6 8 x1))) _
            refine X_call 125 [vR 5, vI v6, vI (h6 12 (((h6 17 (((h6 5 7) - (h6 8 x1)) - 1)) * 10) + (h2 7 x1)))] [] rfl (sg_calv rfl rfl rfl rfl rfl rfl rfl rfl rfl rfl rfl) (by decide) ?_
            show X 125 0 [vR 5, vI v6, vI (h6 12 (((h6 17 (((h6 5 7) - (h6 8 x1)) - 1)) * 10) + (h2 7 x1)))] [] (ab_up h6 5 7 ((h6 5 7) - (h6 8 x1))) _
            refine X_b 18 18 (L := L_125) rfl rfl rfl ?_
            show (0 ≤ (h6 5 7) - (h6 8 x1) ∧ (h6 5 7) - (h6 8 x1) < 61) ∧ (0 ≤ (h6 5 7) - (h6 8 x1) ∧ (h6 5 7) - (h6 8 x1) < 61) ∧ (-2147483648 ≤ ((h6 5 7) - (h6 8 x1)) + 1 ∧ ((h6 5 7) - (h6 8 x1)) + 1 ≤ 2147483647) ∧ X 125 18 [vR 5, vI v6, vI (h6 12 (((h6 17 (((h6 5 7) - (h6 8 x1)) - 1)) * 10) + (h2 7 x1)))] [] (ab_up (ab_up (ab_up (ab_up h6 5 7 ((h6 5 7) - (h6 8 x1))) 18 ((h6 5 7) - (h6 8 x1)) v6) 17 ((h6 5 7) - (h6 8 x1)) (h6 12 (((h6 17 (((h6 5 7) - (h6 8 x1)) - 1)) * 10) + (h2 7 x1)))) 5 7 (((h6 5 7) - (h6 8 x1)) + 1)) _
            refine ⟨c14, c14, c15, ?_⟩
            refine X_ret (L := L_125) rfl rfl rfl rfl ?_
            show X 121 59 [vR 5, vI x1, vI (h2 7 x1), vI v6, vI (h6 12 (((h6 17 (((h6 5 7) - (h6 8 x1)) - 1)) * 10) + (h2 7 x1)))] [] (ab_up (ab_up (ab_up (ab_up h6 5 7 ((h6 5 7) - (h6 8 x1))) 18 ((h6 5 7) - (h6 8 x1)) v6) 17 ((h6 5 7) - (h6 8 x1)) (h6 12 (((h6 17 (((h6 5 7) - (h6 8 x1)) - 1)) * 10) + (h2 7 x1)))) 5 7 (((h6 5 7) - (h6 8 x1)) + 1)) _
            refine X_b 1 60 (L := L_121) rfl rfl rfl ?_
            show X 121 60 [vR 5, vI x1, vI (h2 7 x1), vI v6, vI (h6 12 (((h6 17 (((h6 5 7) - (h6 8 x1)) - 1)) * 10) + (h2 7 x1)))] [vI 0] (ab_up (ab_up (ab_up (ab_up h6 5 7 ((h6 5 7) - (h6 8 x1))) 18 ((h6 5 7) - (h6 8 x1)) v6) 17 ((h6 5 7) - (h6 8 x1)) (h6 12 (((h6 17 (((h6 5 7) - (h6 8 x1)) - 1)) * 10) + (h2 7 x1)))) 5 7 (((h6 5 7) - (h6 8 x1)) + 1)) _
            refine X_iret (L := L_121) rfl rfl rfl rfl ?_
            exact H
      · have z4 : 60 ≤ h2 5 9 := (Int.not_lt.mp z4)
        replace H := H.2 z4
        show X 121 15 [vR 5, vI x1, vJ 0, vJ 0, vJ 0] [] h2 _
        refine X_b 1 16 (L := L_121) rfl rfl rfl ?_
        show X 121 16 [vR 5, vI x1, vJ 0, vJ 0, vJ 0] [vI 4] h2 _
        refine X_iret (L := L_121) rfl rfl rfl rfl ?_
        exact H
    · have z3 : v2 = 0 := (Classical.not_not.mp z3)
      replace H := H.2 z3
      show X 121 9 [vR 5, vI x1, vJ 0, vJ 0, vJ 0] [] h2 _
      refine X_b 1 10 (L := L_121) rfl rfl rfl ?_
      show X 121 10 [vR 5, vI x1, vJ 0, vJ 0, vJ 0] [vI 3] h2 _
      refine X_iret (L := L_121) rfl rfl rfl rfl ?_
      exact H

/-- Parser.isRowOnStack, row 0 -/
theorem s_122_0 (x1 : Int) (h : ab_S) (K : ab_O → ab_S → Prop) (H : ((0 ≤ x1 ∧ x1 < 9) ∧ (-2147483648 ≤ (h 5 7) - (h 8 x1) ∧ (h 5 7) - (h 8 x1) ≤ 2147483647)) ∧ ((1 ≤ (h 5 7) - (h 8 x1) → X 122 18 [vR 5, vI x1, vI (h 8 x1), vI ((h 5 7) - (h 8 x1)), vI 0] [] h K) ∧ ((h 5 7) - (h 8 x1) < 1 → K (oI 0) h))) : C 122 [vR 5, vI x1] h K := by
  show X 122 0 [vR 5, vI x1, vJ 0, vJ 0, vJ 0] [] h K
  obtain ⟨⟨c1, c2⟩, H⟩ := H
  refine X_b 13 13 (L := L_122) rfl rfl rfl ?_
  show (0 ≤ x1 ∧ x1 < 9) ∧ (-2147483648 ≤ (h 5 7) - (h 8 x1) ∧ (h 5 7) - (h 8 x1) ≤ 2147483647) ∧ X 122 13 [vR 5, vI x1, vI (h 8 x1), vI ((h 5 7) - (h 8 x1)), vJ 0] [vI 1, vI ((h 5 7) - (h 8 x1))] h _
  refine ⟨c1, c2, ?_⟩
  refine X_icmp (L := L_122) (n' := 16) rfl rfl rfl rfl (fun z3 => ?_) (fun z3 => ?_)
  · have z3 : 1 ≤ (h 5 7) - (h 8 x1) := z3
    replace H := H.1 z3
    show X 122 16 [vR 5, vI x1, vI (h 8 x1), vI ((h 5 7) - (h 8 x1)), vJ 0] [] h _
    refine X_b 2 18 (L := L_122) rfl rfl rfl ?_
    show X 122 18 [vR 5, vI x1, vI (h 8 x1), vI ((h 5 7) - (h 8 x1)), vI 0] [] h _
    exact H
  · have z3 : (h 5 7) - (h 8 x1) < 1 := (Int.not_le.mp z3)
    replace H := H.2 z3
    show X 122 14 [vR 5, vI x1, vI (h 8 x1), vI ((h 5 7) - (h 8 x1)), vJ 0] [] h _
    refine X_b 1 15 (L := L_122) rfl rfl rfl ?_
    show X 122 15 [vR 5, vI x1, vI (h 8 x1), vI ((h 5 7) - (h 8 x1)), vJ 0] [vI 0] h _
    refine X_zret (L := L_122) rfl rfl rfl rfl (by decide) ?_
    exact H

/-- Parser.isRowOnStack, row 18 -/
theorem s_122_18 (x1 x2 x3 x4 : Int) (h : ab_S) (K : ab_O → ab_S → Prop) (H : ((x2 ≤ x4 → K (oI 1) h) ∧ (x4 < x2 → ((0 ≤ x3 + x4 ∧ x3 + x4 < 61) ∧ (-2147483648 ≤ (h 18 (x3 + x4)) * 5 ∧ (h 18 (x3 + x4)) * 5 ≤ 2147483647) ∧ (0 ≤ ((h 18 (x3 + x4)) * 5) + 0 ∧ ((h 18 (x3 + x4)) * 5) + 0 < 300) ∧ (-2147483648 ≤ x1 * 4 ∧ x1 * 4 ≤ 2147483647) ∧ (0 ≤ (x1 * 4) + x4 ∧ (x1 * 4) + x4 < 36)) ∧ ((h 19 (((h 18 (x3 + x4)) * 5) + 0) = h 9 ((x1 * 4) + x4) → ((-2147483648 ≤ x4 + 1 ∧ x4 + 1 ≤ 2147483647)) ∧ X 122 18 [vR 5, vI x1, vI x2, vI x3, vI (x4 + 1)] [] h K) ∧ (¬ h 19 (((h 18 (x3 + x4)) * 5) + 0) = h 9 ((x1 * 4) + x4) → K (oI 0) h))))) : X 122 18 [vR 5, vI x1, vI x2, vI x3, vI x4] [] h K := by
  refine X_b 2 20 (L := L_122) rfl rfl rfl ?_
  show X 122 20 [vR 5, vI x1, vI x2, vI x3, vI x4] [vI x2, vI x4] h _
  refine X_icmp (L := L_122) (n' := 40) rfl rfl rfl rfl (fun z1 => ?_) (fun z1 => ?_)
  · have z1 : x2 ≤ x4 := z1
    replace H := H.1 z1
    show X 122 40 [vR 5, vI x1, vI x2, vI x3, vI x4] [] h _
    refine X_b 1 41 (L := L_122) rfl rfl rfl ?_
    show X 122 41 [vR 5, vI x1, vI x2, vI x3, vI x4] [vI 1] h _
    refine X_zret (L := L_122) rfl rfl rfl rfl (by decide) ?_
    exact H
  · have z1 : x4 < x2 := (Int.not_le.mp z1)
    replace H := H.2 z1
    show X 122 21 [vR 5, vI x1, vI x2, vI x3, vI x4] [] h _
    obtain ⟨⟨c2, c3, c4, c5, c6⟩, H⟩ := H
    refine X_b 8 29 (L := L_122) rfl rfl rfl ?_
    show (-2147483648 ≤ x3 + x4 ∧ x3 + x4 ≤ 2147483647) ∧ (0 ≤ x3 + x4 ∧ x3 + x4 < 61) ∧ X 122 29 [vR 5, vI x1, vI x2, vI x3, vI x4] [vI 0, vI (h 18 (x3 + x4)), vR 5] h _
    refine ⟨by have := c2; omega, c2, ?_⟩
    refine X_call 117 [vR 5, vI (h 18 (x3 + x4)), vI 0] [] rfl (sg_calv rfl rfl rfl rfl rfl rfl rfl rfl rfl rfl rfl) (by decide) ?_
    show X 117 0 [vR 5, vI (h 18 (x3 + x4)), vI 0] [] h _
    refine X_b 8 8 (L := L_117) rfl rfl rfl ?_
    show (-2147483648 ≤ (h 18 (x3 + x4)) * 5 ∧ (h 18 (x3 + x4)) * 5 ≤ 2147483647) ∧ (-2147483648 ≤ ((h 18 (x3 + x4)) * 5) + 0 ∧ ((h 18 (x3 + x4)) * 5) + 0 ≤ 2147483647) ∧ (0 ≤ ((h 18 (x3 + x4)) * 5) + 0 ∧ ((h 18 (x3 + x4)) * 5) + 0 < 300) ∧ X 117 8 [vR 5, vI (h 18 (x3 + x4)), vI 0] [vI (h 19 (((h 18 (x3 + x4)) * 5) + 0))] h _
    refine ⟨c3, by have := c4; omega, c4, ?_⟩
    refine X_iret (L := L_117) rfl rfl rfl rfl ?_
    show X 122 30 [vR 5, vI x1, vI x2, vI x3, vI x4] [vI (h 19 (((h 18 (x3 + x4)) * 5) + 0))] h _
    refine X_b 4 34 (L := L_122) rfl rfl rfl ?_
    show X 122 34 [vR 5, vI x1, vI x2, vI x3, vI x4] [vI x4, vI x1, vR 1, vI (h 19 (((h 18 (x3 + x4)) * 5) + 0))] h _
    refine X_call 111 [vR 1, vI x1, vI x4] [vI (h 19 (((h 18 (x3 + x4)) * 5) + 0))] rfl (sg_calv rfl rfl rfl rfl rfl rfl rfl rfl rfl rfl rfl) (by decide) ?_
    show X 111 0 [vR 1, vI x1, vI x4] [] h _
    refine X_b 8 8 (L := L_111) rfl rfl rfl ?_
    show (-2147483648 ≤ x1 * 4 ∧ x1 * 4 ≤ 2147483647) ∧ (-2147483648 ≤ (x1 * 4) + x4 ∧ (x1 * 4) + x4 ≤ 2147483647) ∧ (0 ≤ (x1 * 4) + x4 ∧ (x1 * 4) + x4 < 36) ∧ X 111 8 [vR 1, vI x1, vI x4] [vI (h 9 ((x1 * 4) + x4))] h _
    refine ⟨c5, by have := c6; omega, c6, ?_⟩
    refine X_iret (L := L_111) rfl rfl rfl rfl ?_
    show X 122 35 [vR 5, vI x1, vI x2, vI x3, vI x4] [vI (h 9 ((x1 * 4) + x4)), vI (h 19 (((h 18 (x3 + x4)) * 5) + 0))] h _
    refine X_icmp (L := L_122) (n' := 38) rfl rfl rfl rfl (fun z7 => ?_) (fun z7 => ?_)
    · have z7 : h 19 (((h 18 (x3 + x4)) * 5) + 0) = h 9 ((x1 * 4) + x4) := z7
      replace H := H.1 z7
      show X 122 38 [vR 5, vI x1, vI x2, vI x3, vI x4] [] h _
      obtain ⟨c8, H⟩ := H
      refine X_b 1 39 (L := L_122) rfl rfl rfl ?_
      show (-2147483648 ≤ x4 + 1 ∧ x4 + 1 ≤ 2147483647) ∧ X 122 39 [vR 5, vI x1, vI x2, vI x3, vI (x4 + 1)] [] h _
      refine ⟨c8, ?_⟩
      refine X_goto (L := L_122) (n' := 18) rfl rfl rfl rfl ?_
      show X 122 18 [vR 5, vI x1, vI x2, vI x3, vI (x4 + 1)] [] h _
      exact H
    · have z7 : ¬ h 19 (((h 18 (x3 + x4)) * 5) + 0) = h 9 ((x1 * 4) + x4) := z7
      replace H := H.2 z7
      show X 122 36 [vR 5, vI x1, vI x2, vI x3, vI x4] [] h _
      refine X_b 1 37 (L := L_122) rfl rfl rfl ?_
      show X 122 37 [vR 5, vI x1, vI x2, vI x3, vI x4] [vI 0] h _
      refine X_zret (L := L_122) rfl rfl rfl rfl (by decide) ?_
      exact H

/-- Parser.addParent, row 0 -/
theorem s_123_0 (x1 x2 : Int) (h : ab_S) (K : ab_O → ab_S → Prop) (H : ((0 ≤ x2 ∧ x2 < 9) ∧ (-2147483648 ≤ (h 5 7) - (h 8 x2) ∧ (h 5 7) - (h 8 x2) ≤ 2147483647)) ∧ X 123 13 [vR 5, vI x1, vI x2, vI ((h 5 7) - (h 8 x2)), vI 0, vI ((h 5 7) - (h 8 x2))] [] h K) : C 123 [vR 5, vI x1, vI x2] h K := by
  show X 123 0 [vR 5, vI x1, vI x2, vJ 0, vJ 0, vJ 0] [] h K
  obtain ⟨⟨c1, c2⟩, H⟩ := H
  refine X_b 13 13 (L := L_123) rfl rfl rfl ?_
  show (0 ≤ x2 ∧ x2 < 9) ∧ (-2147483648 ≤ (h 5 7) - (h 8 x2) ∧ (h 5 7) - (h 8 x2) ≤ 2147483647) ∧ X 123 13 [vR 5, vI x1, vI x2, vI ((h 5 7) - (h 8 x2)), vI 0, vI ((h 5 7) - (h 8 x2))] [] h _
  refine ⟨c1, c2, ?_⟩
  exact H

/-- Parser.addParent, row 13 -/
theorem s_123_13 (x1 x2 x4 x5 : Int) (w3 : ab_V) (h : ab_S) (K : ab_O → ab_S → Prop) (H : ((h 5 7 ≤ x5 → ((-2147483648 ≤ (h 5 4) - x4 ∧ (h 5 4) - x4 ≤ 2147483647) ∧ (-2147483648 ≤ (h 5 9) * 5 ∧ (h 5 9) * 5 ≤ 2147483647) ∧ (0 ≤ ((h 5 9) * 5) + 0 ∧ ((h 5 9) * 5) + 0 < 300) ∧ (0 ≤ ((h 5 9) * 5) + 1 ∧ ((h 5 9) * 5) + 1 < 300) ∧ (0 ≤ ((h 5 9) * 5) + 2 ∧ ((h 5 9) * 5) + 2 < 300) ∧ (0 ≤ ((h 5 9) * 5) + 3 ∧ ((h 5 9) * 5) + 3 < 300) ∧ (0 ≤ ((h 5 9) * 5) + 4 ∧ ((h 5 9) * 5) + 4 < 300) ∧ (-2147483648 ≤ (h 5 9) + 1 ∧ (h 5 9) + 1 ≤ 2147483647) ∧ (-2147483648 ≤ ((h 5 9) + 1) - 1 ∧ ((h 5 9) + 1) - 1 ≤ 2147483647)) ∧ K (oI (((h 5 9) + 1) - 1)) (ab_up (ab_up (ab_up (ab_up (ab_up (ab_up h 19 (((h 5 9) * 5) + 0) x1) 19 (((h 5 9) * 5) + 1) x2) 19 (((h 5 9) * 5) + 2) (-1)) 19 (((h 5 9) * 5) + 3) ((h 5 4) - x4)) 19 (((h 5 9) * 5) + 4) x4) 5 9 ((h 5 9) + 1))) ∧ (x5 < h 5 7 → ((0 ≤ x5 ∧ x5 < 61) ∧ (-2147483648 ≤ (h 18 x5) * 5 ∧ (h 18 x5) * 5 ≤ 2147483647) ∧ (0 ≤ ((h 18 x5) * 5) + 2 ∧ ((h 18 x5) * 5) + 2 < 300) ∧ (0 ≤ ((h 18 x5) * 5) + 4 ∧ ((h 18 x5) * 5) + 4 < 300) ∧ (-2147483648 ≤ x4 + ((ab_up h 19 (((h 18 x5) * 5) + 2) (h 5 9)) 19 (((h 18 x5) * 5) + 4)) ∧ x4 + ((ab_up h 19 (((h 18 x5) * 5) + 2) (h 5 9)) 19 (((h 18 x5) * 5) + 4)) ≤ 2147483647) ∧ (-2147483648 ≤ x5 + 1 ∧ x5 + 1 ≤ 2147483647)) ∧ X 123 13 [vR 5, vI x1, vI x2, w3, vI (x4 + ((ab_up h 19 (((h 18 x5) * 5) + 2) (h 5 9)) 19 (((h 18 x5) * 5) + 4))), vI (x5 + 1)] [] (ab_up h 19 (((h 18 x5) * 5) + 2) (h 5 9)) K))) : X 123 13 [vR 5, vI x1, vI x2, w3, vI x4, vI x5] [] h K := by
  refine X_b 3 16 (L := L_123) rfl rfl rfl ?_
  show X 123 16 [vR 5, vI x1, vI x2, w3, vI x4, vI x5] [vI (h 5 7), vI x5] h _
  refine X_icmp (L := L_123) (n' := 42) rfl rfl rfl rfl (fun z1 => ?_) (fun z1 => ?_)
  · have z1 : h 5 7 ≤ x5 := z1
    replace H := H.1 z1
    show X 123 42 [vR 5, vI x1, vI x2, w3, vI x4, vI x5] [] h _
    obtain ⟨⟨c2, c3, c4, c5, c6, c7, c8, c9, c10⟩, H⟩ := H
    refine X_b 8 50 (L := L_123) rfl rfl rfl ?_
    show (-2147483648 ≤ (h 5 4) - x4 ∧ (h 5 4) - x4 ≤ 2147483647) ∧ X 123 50 [vR 5, vI x1, vI x2, w3, vI x4, vI x5] [vI x4, vI ((h 5 4) - x4), vI x2, vI x1, vR 5] h _
    refine ⟨c2, ?_⟩
    refine X_call 124 [vR 5, vI x1, vI x2, vI ((h 5 4) - x4), vI x4] [] rfl (sg_calv rfl rfl rfl rfl rfl rfl rfl rfl rfl rfl rfl) (by decide) ?_
    show X 124 0 [vR 5, vI x1, vI x2, vI ((h 5 4) - x4), vI x4, vJ 0] [] h _
    refine X_b 50 50 (L := L_124) rfl rfl rfl ?_
    show (-2147483648 ≤ (h 5 9) * 5 ∧ (h 5 9) * 5 ≤ 2147483647) ∧ (-2147483648 ≤ ((h 5 9) * 5) + 0 ∧ ((h 5 9) * 5) + 0 ≤ 2147483647) ∧ (0 ≤ ((h 5 9) * 5) + 0 ∧ ((h 5 9) * 5) + 0 < 300) ∧ (-2147483648 ≤ ((h 5 9) * 5) + 1 ∧ ((h 5 9) * 5) + 1 ≤ 2147483647) ∧ (0 ≤ ((h 5 9) * 5) + 1 ∧ ((h 5 9) * 5) + 1 < 300) ∧ (-2147483648 ≤ ((h 5 9) * 5) + 2 ∧ ((h 5 9) * 5) + 2 ≤ 2147483647) ∧ (0 ≤ ((h 5 9) * 5) + 2 ∧ ((h 5 9) * 5) + 2 < 300) ∧ (-2147483648 ≤ ((h 5 9) * 5) + 3 ∧ ((h 5 9) * 5) + 3 ≤ 2147483647) ∧ (0 ≤ ((h 5 9) * 5) + 3 ∧ ((h 5 9) * 5) + 3 < 300) ∧ (-2147483648 ≤ ((h 5 9) * 5) + 4 ∧ ((h 5 9) * 5) + 4 ≤ 2147483647) ∧ (0 ≤ ((h 5 9) * 5) + 4 ∧ ((h 5 9) * 5) + 4 < 300) ∧ (-2147483648 ≤ (h 5 9) + 1 ∧ (h 5 9) + 1 ≤ 2147483647) ∧ (-2147483648 ≤ ((h 5 9) + 1) - 1 ∧ ((h 5 9) + 1) - 1 ≤ 2147483647) ∧ X 124 50 [vR 5, vI x1, vI x2, vI ((h 5 4) - x4), vI x4, vI ((h 5 9) * 5)] [vI (((h 5 9) + 1) - 1)] (ab_up (ab_up (ab_up (ab_up (ab_up (ab_up h 19 (((h 5 9) * 5) + 0) x1) 19 (((h 5 9) * 5) + 1) x2) 19 (((h 5 9) * 5) + 2) (-1)) 19 (((h 5 9) * 5) + 3) ((h 5 4) - x4)) 19 (((h 5 9) * 5) + 4) x4) 5 9 ((h 5 9) + 1)) _
    refine ⟨c3, by have := c4; omega, c4, by have := c5; omega, c5, by have := c6; omega, c6, by have := c7; omega, c7, by have := c8; omega, c8, c9, c10, ?_⟩
    refine X_iret (L := L_124) rfl rfl rfl rfl ?_
    show X 123 51 [vR 5, vI x1, vI x2, w3, vI x4, vI x5] [vI (((h 5 9) + 1) - 1)] (ab_up (ab_up (ab_up (ab_up (ab_up (ab_up h 19 (((h 5 9) * 5) + 0) x1) 19 (((h 5 9) * 5) + 1) x2) 19 (((h 5 9) * 5) + 2) (-1)) 19 (((h 5 9) * 5) + 3) ((h 5 4) - x4)) 19 (((h 5 9) * 5) + 4) x4) 5 9 ((h 5 9) + 1)) _
    refine X_iret (L := L_123) rfl rfl rfl rfl ?_
    exact H
  · have z1 : x5 < h 5 7 := (Int.not_le.mp z1)
    replace H := H.2 z1
    show X 123 17 [vR 5, vI x1, vI x2, w3, vI x4, vI x5] [] h _
    obtain ⟨⟨c11, c12, c13, c14, c15, c16⟩, H⟩ := H
    refine X_b 20 37 (L := L_123) rfl rfl rfl ?_
    show (0 ≤ x5 ∧ x5 < 61) ∧ (-2147483648 ≤ (h 18 x5) * 5 ∧ (h 18 x5) * 5 ≤ 2147483647) ∧ (-2147483648 ≤ ((h 18 x5) * 5) + 2 ∧ ((h 18 x5) * 5) + 2 ≤ 2147483647) ∧ (0 ≤ ((h 18 x5) * 5) + 2 ∧ ((h 18 x5) * 5) + 2 < 300) ∧ (0 ≤ x5 ∧ x5 < 61) ∧ X 123 37 [vR 5, vI x1, vI x2, w3, vI x4, vI x5] [vI 4, vI (h 18 x5), vR 5, vI x4] (ab_up h 19 (((h 18 x5) * 5) + 2) (h 5 9)) _
    refine ⟨c11, c12, by have := c13; omega, c13, c11, ?_⟩
    refine X_call 117 [vR 5, vI (h 18 x5), vI 4] [vI x4] rfl (sg_calv rfl rfl rfl rfl rfl rfl rfl rfl rfl rfl rfl) (by decide) ?_
    show X 117 0 [vR 5, vI (h 18 x5), vI 4] [] (ab_up h 19 (((h 18 x5) * 5) + 2) (h 5 9)) _
    refine X_b 8 8 (L := L_117) rfl rfl rfl ?_
    show (-2147483648 ≤ (h 18 x5) * 5 ∧ (h 18 x5) * 5 ≤ 2147483647) ∧ (-2147483648 ≤ ((h 18 x5) * 5) + 4 ∧ ((h 18 x5) * 5) + 4 ≤ 2147483647) ∧ (0 ≤ ((h 18 x5) * 5) + 4 ∧ ((h 18 x5) * 5) + 4 < 300) ∧ X 117 8 [vR 5, vI (h 18 x5), vI 4] [vI ((ab_up h 19 (((h 18 x5) * 5) + 2) (h 5 9)) 19 (((h 18 x5) * 5) + 4))] (ab_up h 19 (((h 18 x5) * 5) + 2) (h 5 9)) _
    refine ⟨c12, by have := c14; omega, c14, ?_⟩
    refine X_iret (L := L_117) rfl rfl rfl rfl ?_
    show X 123 38 [vR 5, vI x1, vI x2, w3, vI x4, vI x5] [vI ((ab_up h 19 (((h 18 x5) * 5) + 2) (h 5 9)) 19 (((h 18 x5) * 5) + 4)), vI x4] (ab_up h 19 (((h 18 x5) * 5) + 2) (h 5 9)) _
    refine X_b 3 41 (L := L_123) rfl rfl rfl ?_
    show (-2147483648 ≤ x4 + ((ab_up h 19 (((h 18 x5) * 5) + 2) (h 5 9)) 19 (((h 18 x5) * 5) + 4)) ∧ x4 + ((ab_up h 19 (((h 18 x5) * 5) + 2) (h 5 9)) 19 (((h 18 x5) * 5) + 4)) ≤ 2147483647) ∧ (-2147483648 ≤ x5 + 1 ∧ x5 + 1 ≤ 2147483647) ∧ X 123 41 [vR 5, vI x1, vI x2, w3, vI (x4 + ((ab_up h 19 (((h 18 x5) * 5) + 2) (h 5 9)) 19 (((h 18 x5) * 5) + 4))), vI (x5 + 1)] [] (ab_up h 19 (((h 18 x5) * 5) + 2) (h 5 9)) _
    refine ⟨c15, c16, ?_⟩
    refine X_goto (L := L_123) (n' := 13) rfl rfl rfl rfl ?_
    show X 123 13 [vR 5, vI x1, vI x2, w3, vI (x4 + ((ab_up h 19 (((h 18 x5) * 5) + 2) (h 5 9)) 19 (((h 18 x5) * 5) + 4))), vI (x5 + 1)] [] (ab_up h 19 (((h 18 x5) * 5) + 2) (h 5 9)) _
    exact H

/-- Parser.addNode, row 0 -/
theorem s_124_0 (x1 x2 x3 x4 : Int) (h : ab_S) (K : ab_O → ab_S → Prop) (H : ((-2147483648 ≤ (h 5 9) * 5 ∧ (h 5 9) * 5 ≤ 2147483647) ∧ (0 ≤ ((h 5 9) * 5) + 0 ∧ ((h 5 9) * 5) + 0 < 300) ∧ (0 ≤ ((h 5 9) * 5) + 1 ∧ ((h 5 9) * 5) + 1 < 300) ∧ (0 ≤ ((h 5 9) * 5) + 2 ∧ ((h 5 9) * 5) + 2 < 300) ∧ (0 ≤ ((h 5 9) * 5) + 3 ∧ ((h 5 9) * 5) + 3 < 300) ∧ (0 ≤ ((h 5 9) * 5) + 4 ∧ ((h 5 9) * 5) + 4 < 300) ∧ (-2147483648 ≤ (h 5 9) + 1 ∧ (h 5 9) + 1 ≤ 2147483647) ∧ (-2147483648 ≤ ((h 5 9) + 1) - 1 ∧ ((h 5 9) + 1) - 1 ≤ 2147483647)) ∧ K (oI (((h 5 9) + 1) - 1)) (ab_up (ab_up (ab_up (ab_up (ab_up (ab_up h 19 (((h 5 9) * 5) + 0) x1) 19 (((h 5 9) * 5) + 1) x2) 19 (((h 5 9) * 5) + 2) (-1)) 19 (((h 5 9) * 5) + 3) x3) 19 (((h 5 9) * 5) + 4) x4) 5 9 ((h 5 9) + 1))) : C 124 [vR 5, vI x1, vI x2, vI x3, vI x4] h K := by
  show X 124 0 [vR 5, vI x1, vI x2, vI x3, vI x4, vJ 0] [] h K
  obtain ⟨⟨c1, c2, c3, c4, c5, c6, c7, c8⟩, H⟩ := H
  refine X_b 50 50 (L := L_124) rfl rfl rfl ?_
  show (-2147483648 ≤ (h 5 9) * 5 ∧ (h 5 9) * 5 ≤ 2147483647) ∧ (-2147483648 ≤ ((h 5 9) * 5) + 0 ∧ ((h 5 9) * 5) + 0 ≤ 2147483647) ∧ (0 ≤ ((h 5 9) * 5) + 0 ∧ ((h 5 9) * 5) + 0 < 300) ∧ (-2147483648 ≤ ((h 5 9) * 5) + 1 ∧ ((h 5 9) * 5) + 1 ≤ 2147483647) ∧ (0 ≤ ((h 5 9) * 5) + 1 ∧ ((h 5 9) * 5) + 1 < 300) ∧ (-2147483648 ≤ ((h 5 9) * 5) + 2 ∧ ((h 5 9) * 5) + 2 ≤ 2147483647) ∧ (0 ≤ ((h 5 9) * 5) + 2 ∧ ((h 5 9) * 5) + 2 < 300) ∧ (-2147483648 ≤ ((h 5 9) * 5) + 3 ∧ ((h 5 9) * 5) + 3 ≤ 2147483647) ∧ (0 ≤ ((h 5 9) * 5) + 3 ∧ ((h 5 9) * 5) + 3 < 300) ∧ (-2147483648 ≤ ((h 5 9) * 5) + 4 ∧ ((h 5 9) * 5) + 4 ≤ 2147483647) ∧ (0 ≤ ((h 5 9) * 5) + 4 ∧ ((h 5 9) * 5) + 4 < 300) ∧ (-2147483648 ≤ (h 5 9) + 1 ∧ (h 5 9) + 1 ≤ 2147483647) ∧ (-2147483648 ≤ ((h 5 9) + 1) - 1 ∧ ((h 5 9) + 1) - 1 ≤ 2147483647) ∧ X 124 50 [vR 5, vI x1, vI x2, vI x3, vI x4, vI ((h 5 9) * 5)] [vI (((h 5 9) + 1) - 1)] (ab_up (ab_up (ab_up (ab_up (ab_up (ab_up h 19 (((h 5 9) * 5) + 0) x1) 19 (((h 5 9) * 5) + 1) x2) 19 (((h 5 9) * 5) + 2) (-1)) 19 (((h 5 9) * 5) + 3) x3) 19 (((h 5 9) * 5) + 4) x4) 5 9 ((h 5 9) + 1)) _
  refine ⟨c1, by have := c2; omega, c2, by have := c3; omega, c3, by have := c4; omega, c4, by have := c5; omega, c5, by have := c6; omega, c6, c7, c8, ?_⟩
  refine X_iret (L := L_124) rfl rfl rfl rfl ?_
  exact H

/-- Parser.push, row 0 -/
theorem s_125_0 (x1 x2 : Int) (h : ab_S) (K : ab_O → ab_S → Prop) (H : ((0 ≤ h 5 7 ∧ h 5 7 < 61) ∧ (-2147483648 ≤ (h 5 7) + 1 ∧ (h 5 7) + 1 ≤ 2147483647)) ∧ K oV (ab_up (ab_up (ab_up h 18 (h 5 7) x1) 17 (h 5 7) x2) 5 7 ((h 5 7) + 1))) : C 125 [vR 5, vI x1, vI x2] h K := by
  show X 125 0 [vR 5, vI x1, vI x2] [] h K
  obtain ⟨⟨c1, c2⟩, H⟩ := H
  refine X_b 18 18 (L := L_125) rfl rfl rfl ?_
  show (0 ≤ h 5 7 ∧ h 5 7 < 61) ∧ (0 ≤ h 5 7 ∧ h 5 7 < 61) ∧ (-2147483648 ≤ (h 5 7) + 1 ∧ (h 5 7) + 1 ≤ 2147483647) ∧ X 125 18 [vR 5, vI x1, vI x2] [] (ab_up (ab_up (ab_up h 18 (h 5 7) x1) 17 (h 5 7) x2) 5 7 ((h 5 7) + 1)) _
  refine ⟨c1, c1, c2, ?_⟩
  refine X_ret (L := L_125) rfl rfl rfl rfl ?_
  exact H

/-- Parser.isStartAlone, row 0 -/
theorem s_126_0 (h : ab_S) (K : ab_O → ab_S → Prop) (H : ((¬ h 5 7 = 2 → K (oI 0) h) ∧ (h 5 7 = 2 → ((-2147483648 ≤ (h 18 1) * 5 ∧ (h 18 1) * 5 ≤ 2147483647) ∧ (0 ≤ ((h 18 1) * 5) + 0 ∧ ((h 18 1) * 5) + 0 < 300)) ∧ ((¬ h 19 (((h 18 1) * 5) + 0) = h 7 0 → K (oI 0) h) ∧ (h 19 (((h 18 1) * 5) + 0) = h 7 0 → K (oI 1) h))))) : C 126 [vR 5] h K := by
  show X 126 0 [vR 5] [] h K
  refine X_b 3 3 (L := L_126) rfl rfl rfl ?_
  show X 126 3 [vR 5] [vI 2, vI (h 5 7)] h _
  refine X_icmp (L := L_126) (n' := 17) rfl rfl rfl rfl (fun z1 => ?_) (fun z1 => ?_)
  · have z1 : ¬ h 5 7 = 2 := z1
    replace H := H.1 z1
    show X 126 17 [vR 5] [] h _
    refine X_b 1 18 (L := L_126) rfl rfl rfl ?_
    show X 126 18 [vR 5] [vI 0] h _
    refine X_zret (L := L_126) rfl rfl rfl rfl (by decide) ?_
    exact H
  · have z1 : h 5 7 = 2 := (Classical.not_not.mp z1)
    replace H := H.2 z1
    show X 126 4 [vR 5] [] h _
    obtain ⟨⟨c2, c3⟩, H⟩ := H
    refine X_b 6 10 (L := L_126) rfl rfl rfl ?_
    show (0 ≤ (1 : Int) ∧ (1 : Int) < 61) ∧ X 126 10 [vR 5] [vI 0, vI (h 18 1), vR 5] h _
    refine ⟨by decide, ?_⟩
    refine X_call 117 [vR 5, vI (h 18 1), vI 0] [] rfl (sg_calv rfl rfl rfl rfl rfl rfl rfl rfl rfl rfl rfl) (by decide) ?_
    show X 117 0 [vR 5, vI (h 18 1), vI 0] [] h _
    refine X_b 8 8 (L := L_117) rfl rfl rfl ?_
    show (-2147483648 ≤ (h 18 1) * 5 ∧ (h 18 1) * 5 ≤ 2147483647) ∧ (-2147483648 ≤ ((h 18 1) * 5) + 0 ∧ ((h 18 1) * 5) + 0 ≤ 2147483647) ∧ (0 ≤ ((h 18 1) * 5) + 0 ∧ ((h 18 1) * 5) + 0 < 300) ∧ X 117 8 [vR 5, vI (h 18 1), vI 0] [vI (h 19 (((h 18 1) * 5) + 0))] h _
    refine ⟨c2, by have := c3; omega, c3, ?_⟩
    refine X_iret (L := L_117) rfl rfl rfl rfl ?_
    show X 126 11 [vR 5] [vI (h 19 (((h 18 1) * 5) + 0))] h _
    refine X_b 2 13 (L := L_126) rfl rfl rfl ?_
    show X 126 13 [vR 5] [vR 1, vI (h 19 (((h 18 1) * 5) + 0))] h _
    refine X_call 110 [vR 1] [vI (h 19 (((h 18 1) * 5) + 0))] rfl (sg_calv rfl rfl rfl rfl rfl rfl rfl rfl rfl rfl rfl) (by decide) ?_
    show X 110 0 [vR 1] [] h _
    refine X_b 4 4 (L := L_110) rfl rfl rfl ?_
    show (0 ≤ (0 : Int) ∧ (0 : Int) < 8) ∧ X 110 4 [vR 1] [vI (h 7 0)] h _
    refine ⟨by decide, ?_⟩
    refine X_iret (L := L_110) rfl rfl rfl rfl ?_
    show X 126 14 [vR 5] [vI (h 7 0), vI (h 19 (((h 18 1) * 5) + 0))] h _
    refine X_icmp (L := L_126) (n' := 17) rfl rfl rfl rfl (fun z4 => ?_) (fun z4 => ?_)
    · have z4 : ¬ h 19 (((h 18 1) * 5) + 0) = h 7 0 := z4
      replace H := H.1 z4
      show X 126 17 [vR 5] [] h _
      refine X_b 1 18 (L := L_126) rfl rfl rfl ?_
      show X 126 18 [vR 5] [vI 0] h _
      refine X_zret (L := L_126) rfl rfl rfl rfl (by decide) ?_
      exact H
    · have z4 : h 19 (((h 18 1) * 5) + 0) = h 7 0 := (Classical.not_not.mp z4)
      replace H := H.2 z4
      show X 126 15 [vR 5] [] h _
      refine X_b 1 16 (L := L_126) rfl rfl rfl ?_
      show X 126 16 [vR 5] [vI 1] h _
      refine X_goto (L := L_126) (n' := 18) rfl rfl rfl rfl ?_
      show X 126 18 [vR 5] [vI 1] h _
      refine X_zret (L := L_126) rfl rfl rfl rfl (by decide) ?_
      exact H
end Seg
