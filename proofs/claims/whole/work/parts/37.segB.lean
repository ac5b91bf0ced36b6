/-! By program (wip/gen/seg.py): stretches of methods as formulas. -/
section Seg
/-- Automaton.entryAt, row 0 -/
theorem s_78_0 (x1 x2 : Int) (h : ab_S) (K : ab_O → ab_S → Prop) (H : ((-2147483648 ≤ x1 * 10 ∧ x1 * 10 ≤ 2147483647) ∧ (0 ≤ (x1 * 10) + x2 ∧ (x1 * 10) + x2 < 500)) ∧ K (oI (h 12 ((x1 * 10) + x2))) h) : C 78 [vR 2, vI x1, vI x2] h K := by
  show X 78 0 [vR 2, vI x1, vI x2] [] h K
  obtain ⟨⟨c1, c2⟩, H⟩ := H
  refine X_b 8 8 (L := L_78) rfl rfl rfl ?_
  show (-2147483648 ≤ x1 * 10 ∧ x1 * 10 ≤ 2147483647) ∧ (-2147483648 ≤ (x1 * 10) + x2 ∧ (x1 * 10) + x2 ≤ 2147483647) ∧ (0 ≤ (x1 * 10) + x2 ∧ (x1 * 10) + x2 < 500) ∧ X 78 8 [vR 2, vI x1, vI x2] [vI (h 12 ((x1 * 10) + x2))] h _
  refine ⟨c1, by have := c2; omega, c2, ?_⟩
  refine X_iret (L := L_78) rfl rfl rfl rfl ?_
  exact H

/-- Automaton.putEntry, row 0 -/
theorem s_79_0 (x1 x2 x3 : Int) (h : ab_S) (K : ab_O → ab_S → Prop) (H : ((-2147483648 ≤ x1 * 10 ∧ x1 * 10 ≤ 2147483647) ∧ (0 ≤ (x1 * 10) + x2 ∧ (x1 * 10) + x2 < 500)) ∧ K oV (ab_up h 12 ((x1 * 10) + x2) x3)) : C 79 [vR 2, vI x1, vI x2, vI x3] h K := by
  show X 79 0 [vR 2, vI x1, vI x2, vI x3] [] h K
  obtain ⟨⟨c1, c2⟩, H⟩ := H
  refine X_b 9 9 (L := L_79) rfl rfl rfl ?_
  show (-2147483648 ≤ x1 * 10 ∧ x1 * 10 ≤ 2147483647) ∧ (-2147483648 ≤ (x1 * 10) + x2 ∧ (x1 * 10) + x2 ≤ 2147483647) ∧ (0 ≤ (x1 * 10) + x2 ∧ (x1 * 10) + x2 < 500) ∧ X 79 9 [vR 2, vI x1, vI x2, vI x3] [] (ab_up h 12 ((x1 * 10) + x2) x3) _
  refine ⟨c1, by have := c2; omega, c2, ?_⟩
  refine X_ret (L := L_79) rfl rfl rfl rfl ?_
  exact H

/-- Automaton.aheadsOf, row 0 -/
theorem s_80_0 (x1 x2 x3 : Int) (h : ab_S) (K : ab_O → ab_S → Prop) (H : ((-2147483648 ≤ x1 * 45 ∧ x1 * 45 ≤ 2147483647) ∧ (-2147483648 ≤ x2 * 5 ∧ x2 * 5 ≤ 2147483647) ∧ (-2147483648 ≤ (x2 * 5) + x3 ∧ (x2 * 5) + x3 ≤ 2147483647) ∧ (0 ≤ (x1 * 45) + ((x2 * 5) + x3) ∧ (x1 * 45) + ((x2 * 5) + x3) < 2250)) ∧ K (oI (h 13 ((x1 * 45) + ((x2 * 5) + x3)))) h) : C 80 [vR 2, vI x1, vI x2, vI x3] h K := by
  show X 80 0 [vR 2, vI x1, vI x2, vI x3] [] h K
  obtain ⟨⟨c1, c2, c3, c4⟩, H⟩ := H
  refine X_b 7 7 (L := L_80) rfl rfl rfl ?_
  show (-2147483648 ≤ x1 * 45 ∧ x1 * 45 ≤ 2147483647) ∧ X 80 7 [vR 2, vI x1, vI x2, vI x3] [vI x3, vI x2, vI (x1 * 45), vR 13] h _
  refine ⟨c1, ?_⟩
  refine X_call 27 [vI x2, vI x3] [vI (x1 * 45), vR 13] rfl (sg_cals rfl rfl rfl rfl rfl rfl rfl rfl rfl rfl) (by decide) ?_
  show X 27 0 [vI x2, vI x3] [] h _
  refine X_b 5 5 (L := L_27) rfl rfl rfl ?_
  show (-2147483648 ≤ x2 * 5 ∧ x2 * 5 ≤ 2147483647) ∧ (-2147483648 ≤ (x2 * 5) + x3 ∧ (x2 * 5) + x3 ≤ 2147483647) ∧ X 27 5 [vI x2, vI x3] [vI ((x2 * 5) + x3)] h _
  refine ⟨c2, c3, ?_⟩
  refine X_iret (L := L_27) rfl rfl rfl rfl ?_
  show X 80 8 [vR 2, vI x1, vI x2, vI x3] [vI ((x2 * 5) + x3), vI (x1 * 45), vR 13] h _
  refine X_b 2 10 (L := L_80) rfl rfl rfl ?_
  show (-2147483648 ≤ (x1 * 45) + ((x2 * 5) + x3) ∧ (x1 * 45) + ((x2 * 5) + x3) ≤ 2147483647) ∧ (0 ≤ (x1 * 45) + ((x2 * 5) + x3) ∧ (x1 * 45) + ((x2 * 5) + x3) < 2250) ∧ X 80 10 [vR 2, vI x1, vI x2, vI x3] [vI (h 13 ((x1 * 45) + ((x2 * 5) + x3)))] h _
  refine ⟨by have := c4; omega, c4, ?_⟩
  refine X_iret (L := L_80) rfl rfl rfl rfl ?_
  exact H

/-- Automaton.holds, row 0 -/
theorem s_81_0 (x1 x2 x3 x4 : Int) (h : ab_S) (K : ab_O → ab_S → Prop) (H : ((-2147483648 ≤ x1 * 45 ∧ x1 * 45 ≤ 2147483647) ∧ (-2147483648 ≤ x2 * 5 ∧ x2 * 5 ≤ 2147483647) ∧ (-2147483648 ≤ (x2 * 5) + x3 ∧ (x2 * 5) + x3 ≤ 2147483647) ∧ (0 ≤ (x1 * 45) + ((x2 * 5) + x3) ∧ (x1 * 45) + ((x2 * 5) + x3) < 2250) ∧ (-2147483648 ≤ x4 - 4 ∧ x4 - 4 ≤ 2147483647)) ∧ ((b_and (h 13 ((x1 * 45) + ((x2 * 5) + x3))) (b_shl 1 (x4 - 4)) = 0 → K (oI 0) h) ∧ (¬ b_and (h 13 ((x1 * 45) + ((x2 * 5) + x3))) (b_shl 1 (x4 - 4)) = 0 → K (oI 1) h))) : C 81 [vR 2, vI x1, vI x2, vI x3, vI x4] h K := by
  show X 81 0 [vR 2, vI x1, vI x2, vI x3, vI x4] [] h K
  obtain ⟨⟨c1, c2, c3, c4, c5⟩, H⟩ := H
  refine X_b 4 4 (L := L_81) rfl rfl rfl ?_
  show X 81 4 [vR 2, vI x1, vI x2, vI x3, vI x4] [vI x3, vI x2, vI x1, vR 2] h _
  refine X_call 80 [vR 2, vI x1, vI x2, vI x3] [] rfl (sg_calv rfl rfl rfl rfl rfl rfl rfl rfl rfl rfl rfl) (by decide) ?_
  show X 80 0 [vR 2, vI x1, vI x2, vI x3] [] h _
  refine X_b 7 7 (L := L_80) rfl rfl rfl ?_
  show (-2147483648 ≤ x1 * 45 ∧ x1 * 45 ≤ 2147483647) ∧ X 80 7 [vR 2, vI x1, vI x2, vI x3] [vI x3, vI x2, vI (x1 * 45), vR 13] h _
  refine ⟨c1, ?_⟩
  refine X_call 27 [vI x2, vI x3] [vI (x1 * 45), vR 13] rfl (sg_cals rfl rfl rfl rfl rfl rfl rfl rfl rfl rfl) (by decide) ?_
  show X 27 0 [vI x2, vI x3] [] h _
  refine X_b 5 5 (L := L_27) rfl rfl rfl ?_
  show (-2147483648 ≤ x2 * 5 ∧ x2 * 5 ≤ 2147483647) ∧ (-2147483648 ≤ (x2 * 5) + x3 ∧ (x2 * 5) + x3 ≤ 2147483647) ∧ X 27 5 [vI x2, vI x3] [vI ((x2 * 5) + x3)] h _
  refine ⟨c2, c3, ?_⟩
  refine X_iret (L := L_27) rfl rfl rfl rfl ?_
  show X 80 8 [vR 2, vI x1, vI x2, vI x3] [vI ((x2 * 5) + x3), vI (x1 * 45), vR 13] h _
  refine X_b 2 10 (L := L_80) rfl rfl rfl ?_
  show (-2147483648 ≤ (x1 * 45) + ((x2 * 5) + x3) ∧ (x1 * 45) + ((x2 * 5) + x3) ≤ 2147483647) ∧ (0 ≤ (x1 * 45) + ((x2 * 5) + x3) ∧ (x1 * 45) + ((x2 * 5) + x3) < 2250) ∧ X 80 10 [vR 2, vI x1, vI x2, vI x3] [vI (h 13 ((x1 * 45) + ((x2 * 5) + x3)))] h _
  refine ⟨by have := c4; omega, c4, ?_⟩
  refine X_iret (L := L_80) rfl rfl rfl rfl ?_
  show X 81 5 [vR 2, vI x1, vI x2, vI x3, vI x4] [vI (h 13 ((x1 * 45) + ((x2 * 5) + x3)))] h _
  refine X_b 1 6 (L := L_81) rfl rfl rfl ?_
  show X 81 6 [vR 2, vI x1, vI x2, vI x3, vI x4] [vI x4, vI (h 13 ((x1 * 45) + ((x2 * 5) + x3)))] h _
  refine X_call 26 [vI x4] [vI (h 13 ((x1 * 45) + ((x2 * 5) + x3)))] rfl (sg_cals rfl rfl rfl rfl rfl rfl rfl rfl rfl rfl) (by decide) ?_
  show X 26 0 [vI x4] [] h _
  refine X_b 5 5 (L := L_26) rfl rfl rfl ?_
  show (-2147483648 ≤ x4 - 4 ∧ x4 - 4 ≤ 2147483647) ∧ X 26 5 [vI x4] [vI (b_shl 1 (x4 - 4))] h _
  refine ⟨c5, ?_⟩
  refine X_iret (L := L_26) rfl rfl rfl rfl ?_
  show X 81 7 [vR 2, vI x1, vI x2, vI x3, vI x4] [vI (b_shl 1 (x4 - 4)), vI (h 13 ((x1 * 45) + ((x2 * 5) + x3)))] h _
  refine X_b 1 8 (L := L_81) rfl rfl rfl ?_
  show X 81 8 [vR 2, vI x1, vI x2, vI x3, vI x4] [vI (b_and (h 13 ((x1 * 45) + ((x2 * 5) + x3))) (b_shl 1 (x4 - 4)))] h _
  refine X_if (L := L_81) (n' := 11) rfl rfl rfl rfl (fun z6 => ?_) (fun z6 => ?_)
  · have z6 : b_and (h 13 ((x1 * 45) + ((x2 * 5) + x3))) (b_shl 1 (x4 - 4)) = 0 := z6
    replace H := H.1 z6
    show X 81 11 [vR 2, vI x1, vI x2, vI x3, vI x4] [] h _
    refine X_b 1 12 (L := L_81) rfl rfl rfl ?_
    show X 81 12 [vR 2, vI x1, vI x2, vI x3, vI x4] [vI 0] h _
    refine X_zret (L := L_81) rfl rfl rfl rfl (by decide) ?_
    exact H
  · have z6 : ¬ b_and (h 13 ((x1 * 45) + ((x2 * 5) + x3))) (b_shl 1 (x4 - 4)) = 0 := z6
    replace H := H.2 z6
    show X 81 9 [vR 2, vI x1, vI x2, vI x3, vI x4] [] h _
    refine X_b 1 10 (L := L_81) rfl rfl rfl ?_
    show X 81 10 [vR 2, vI x1, vI x2, vI x3, vI x4] [vI 1] h _
    refine X_goto (L := L_81) (n' := 12) rfl rfl rfl rfl ?_
    show X 81 12 [vR 2, vI x1, vI x2, vI x3, vI x4] [vI 1] h _
    refine X_zret (L := L_81) rfl rfl rfl rfl (by decide) ?_
    exact H

/-- Automaton.flip, row 0 -/
theorem s_82_0 (x1 x2 x3 x4 : Int) (h : ab_S) (K : ab_O → ab_S → Prop) (H : ((-2147483648 ≤ x1 * 45 ∧ x1 * 45 ≤ 2147483647) ∧ (-2147483648 ≤ x2 * 5 ∧ x2 * 5 ≤ 2147483647) ∧ (-2147483648 ≤ (x2 * 5) + x3 ∧ (x2 * 5) + x3 ≤ 2147483647) ∧ (0 ≤ (x1 * 45) + ((x2 * 5) + x3) ∧ (x1 * 45) + ((x2 * 5) + x3) < 2250) ∧ (-2147483648 ≤ x4 - 4 ∧ x4 - 4 ≤ 2147483647)) ∧ K oV (ab_up h 13 ((x1 * 45) + ((x2 * 5) + x3)) (b_xor (h 13 ((x1 * 45) + ((x2 * 5) + x3))) (b_shl 1 (x4 - 4))))) : C 82 [vR 2, vI x1, vI x2, vI x3, vI x4] h K := by
  show X 82 0 [vR 2, vI x1, vI x2, vI x3, vI x4] [] h K
  obtain ⟨⟨c1, c2, c3, c4, c5⟩, H⟩ := H
  refine X_b 7 7 (L := L_82) rfl rfl rfl ?_
  show (-2147483648 ≤ x1 * 45 ∧ x1 * 45 ≤ 2147483647) ∧ X 82 7 [vR 2, vI x1, vI x2, vI x3, vI x4] [vI x3, vI x2, vI (x1 * 45), vR 13] h _
  refine ⟨c1, ?_⟩
  refine X_call 27 [vI x2, vI x3] [vI (x1 * 45), vR 13] rfl (sg_cals rfl rfl rfl rfl rfl rfl rfl rfl rfl rfl) (by decide) ?_
  show X 27 0 [vI x2, vI x3] [] h _
  refine X_b 5 5 (L := L_27) rfl rfl rfl ?_
  show (-2147483648 ≤ x2 * 5 ∧ x2 * 5 ≤ 2147483647) ∧ (-2147483648 ≤ (x2 * 5) + x3 ∧ (x2 * 5) + x3 ≤ 2147483647) ∧ X 27 5 [vI x2, vI x3] [vI ((x2 * 5) + x3)] h _
  refine ⟨c2, c3, ?_⟩
  refine X_iret (L := L_27) rfl rfl rfl rfl ?_
  show X 82 8 [vR 2, vI x1, vI x2, vI x3, vI x4] [vI ((x2 * 5) + x3), vI (x1 * 45), vR 13] h _
  refine X_b 4 12 (L := L_82) rfl rfl rfl ?_
  show (-2147483648 ≤ (x1 * 45) + ((x2 * 5) + x3) ∧ (x1 * 45) + ((x2 * 5) + x3) ≤ 2147483647) ∧ (0 ≤ (x1 * 45) + ((x2 * 5) + x3) ∧ (x1 * 45) + ((x2 * 5) + x3) < 2250) ∧ X 82 12 [vR 2, vI x1, vI x2, vI x3, vI x4] [vI x4, vI (h 13 ((x1 * 45) + ((x2 * 5) + x3))), vI ((x1 * 45) + ((x2 * 5) + x3)), vR 13] h _
  refine ⟨by have := c4; omega, c4, ?_⟩
  refine X_call 26 [vI x4] [vI (h 13 ((x1 * 45) + ((x2 * 5) + x3))), vI ((x1 * 45) + ((x2 * 5) + x3)), vR 13] rfl (sg_cals rfl rfl rfl rfl rfl rfl rfl rfl rfl rfl) (by decide) ?_
  show X 26 0 [vI x4] [] h _
  refine X_b 5 5 (L := L_26) rfl rfl rfl ?_
  show (-2147483648 ≤ x4 - 4 ∧ x4 - 4 ≤ 2147483647) ∧ X 26 5 [vI x4] [vI (b_shl 1 (x4 - 4))] h _
  refine ⟨c5, ?_⟩
  refine X_iret (L := L_26) rfl rfl rfl rfl ?_
  show X 82 13 [vR 2, vI x1, vI x2, vI x3, vI x4] [vI (b_shl 1 (x4 - 4)), vI (h 13 ((x1 * 45) + ((x2 * 5) + x3))), vI ((x1 * 45) + ((x2 * 5) + x3)), vR 13] h _
  refine X_b 2 15 (L := L_82) rfl rfl rfl ?_
  show (0 ≤ (x1 * 45) + ((x2 * 5) + x3) ∧ (x1 * 45) + ((x2 * 5) + x3) < 2250) ∧ X 82 15 [vR 2, vI x1, vI x2, vI x3, vI x4] [] (ab_up h 13 ((x1 * 45) + ((x2 * 5) + x3)) (b_xor (h 13 ((x1 * 45) + ((x2 * 5) + x3))) (b_shl 1 (x4 - 4)))) _
  refine ⟨c4, ?_⟩
  refine X_ret (L := L_82) rfl rfl rfl rfl ?_
  exact H

/-- Automaton.isSame, row 0 -/
theorem s_83_0 (x1 : Int) (h : ab_S) (K : ab_O → ab_S → Prop) (H : X 83 2 [vR 2, vI x1, vR 14, vI 0] [] h K) : C 83 [vR 2, vI x1, vR 14] h K := by
  show X 83 0 [vR 2, vI x1, vR 14, vJ 0] [] h K
  refine X_b 2 2 (L := L_83) rfl rfl rfl ?_
  show X 83 2 [vR 2, vI x1, vR 14, vI 0] [] h _
  exact H

/-- Automaton.isSame, row 2 -/
theorem s_83_2 (x1 x3 : Int) (h : ab_S) (K : ab_O → ab_S → Prop) (H : ((45 ≤ x3 → K (oI 1) h) ∧ (x3 < 45 → ((-2147483648 ≤ x1 * 45 ∧ x1 * 45 ≤ 2147483647) ∧ (0 ≤ (x1 * 45) + x3 ∧ (x1 * 45) + x3 < 2250) ∧ (0 ≤ x3 ∧ x3 < 45)) ∧ ((h 13 ((x1 * 45) + x3) = h 14 x3 → ((-2147483648 ≤ x3 + 1 ∧ x3 + 1 ≤ 2147483647)) ∧ X 83 2 [vR 2, vI x1, vR 14, vI (x3 + 1)] [] h K) ∧ (¬ h 13 ((x1 * 45) + x3) = h 14 x3 → K (oI 0) h))))) : X 83 2 [vR 2, vI x1, vR 14, vI x3] [] h K := by
  refine X_b 2 4 (L := L_83) rfl rfl rfl ?_
  show X 83 4 [vR 2, vI x1, vR 14, vI x3] [vI 45, vI x3] h _
  refine X_icmp (L := L_83) (n' := 21) rfl rfl rfl rfl (fun z1 => ?_) (fun z1 => ?_)
  · have z1 : 45 ≤ x3 := z1
    replace H := H.1 z1
    show X 83 21 [vR 2, vI x1, vR 14, vI x3] [] h _
    refine X_b 1 22 (L := L_83) rfl rfl rfl ?_
    show X 83 22 [vR 2, vI x1, vR 14, vI x3] [vI 1] h _
    refine X_zret (L := L_83) rfl rfl rfl rfl (by decide) ?_
    exact H
  · have z1 : x3 < 45 := (Int.not_le.mp z1)
    replace H := H.2 z1
    show X 83 5 [vR 2, vI x1, vR 14, vI x3] [] h _
    obtain ⟨⟨c2, c3, c4⟩, H⟩ := H
    refine X_b 11 16 (L := L_83) rfl rfl rfl ?_
    show (-2147483648 ≤ x1 * 45 ∧ x1 * 45 ≤ 2147483647) ∧ (-2147483648 ≤ (x1 * 45) + x3 ∧ (x1 * 45) + x3 ≤ 2147483647) ∧ (0 ≤ (x1 * 45) + x3 ∧ (x1 * 45) + x3 < 2250) ∧ (0 ≤ x3 ∧ x3 < 45) ∧ X 83 16 [vR 2, vI x1, vR 14, vI x3] [vI (h 14 x3), vI (h 13 ((x1 * 45) + x3))] h _
    refine ⟨c2, by have := c3; omega, c3, c4, ?_⟩
    refine X_icmp (L := L_83) (n' := 19) rfl rfl rfl rfl (fun z5 => ?_) (fun z5 => ?_)
    · have z5 : h 13 ((x1 * 45) + x3) = h 14 x3 := z5
      replace H := H.1 z5
      show X 83 19 [vR 2, vI x1, vR 14, vI x3] [] h _
      obtain ⟨c6, H⟩ := H
      refine X_b 1 20 (L := L_83) rfl rfl rfl ?_
      show (-2147483648 ≤ x3 + 1 ∧ x3 + 1 ≤ 2147483647) ∧ X 83 20 [vR 2, vI x1, vR 14, vI (x3 + 1)] [] h _
      refine ⟨c6, ?_⟩
      refine X_goto (L := L_83) (n' := 2) rfl rfl rfl rfl ?_
      show X 83 2 [vR 2, vI x1, vR 14, vI (x3 + 1)] [] h _
      exact H
    · have z5 : ¬ h 13 ((x1 * 45) + x3) = h 14 x3 := z5
      replace H := H.2 z5
      show X 83 17 [vR 2, vI x1, vR 14, vI x3] [] h _
      refine X_b 1 18 (L := L_83) rfl rfl rfl ?_
      show X 83 18 [vR 2, vI x1, vR 14, vI x3] [vI 0] h _
      refine X_zret (L := L_83) rfl rfl rfl rfl (by decide) ?_
      exact H

/-- Automaton.findOrAdd, row 0 -/
theorem s_84_0 (h : ab_S) (K : ab_O → ab_S → Prop) (H : X 84 2 [vR 2, vR 14, vI 0] [] h K) : C 84 [vR 2, vR 14] h K := by
  show X 84 0 [vR 2, vR 14, vJ 0] [] h K
  refine X_b 2 2 (L := L_84) rfl rfl rfl ?_
  show X 84 2 [vR 2, vR 14, vI 0] [] h _
  exact H

/-- Automaton.findOrAdd, row 2 -/
theorem s_84_2 (x2 : Int) (h : ab_S) (K : ab_O → ab_S → Prop) (H : ((h 2 0 ≤ x2 → ((h 2 0 < 50 → ((-2147483648 ≤ (h 2 0) * 45 ∧ (h 2 0) * 45 ≤ 2147483647) ∧ (0 ≤ (0 : Int) ∧ 0 ≤ (h 2 0) * 45 ∧ 0 ≤ (45 : Int) ∧ (0 : Int) + 45 ≤ 45 ∧ ((h 2 0) * 45) + 45 ≤ 2250)) ∧ X 84 33 [vR 2, vR 14, vI 0] [] (ab_cp h 14 0 13 ((h 2 0) * 45) 45) K) ∧ (50 ≤ h 2 0 → K (oI (-1)) h))) ∧ (x2 < h 2 0 → C 83 [vR 2, vI x2, vR 14] h (kI (fun v5 h5 => ((v5 = 0 → ((-2147483648 ≤ x2 + 1 ∧ x2 + 1 ≤ 2147483647)) ∧ X 84 2 [vR 2, vR 14, vI (x2 + 1)] [] h5 K) ∧ (¬ v5 = 0 → K (oI x2) h5))))))) : X 84 2 [vR 2, vR 14, vI x2] [] h K := by
  refine X_b 3 5 (L := L_84) rfl rfl rfl ?_
  show X 84 5 [vR 2, vR 14, vI x2] [vI (h 2 0), vI x2] h _
  refine X_icmp (L := L_84) (n' := 15) rfl rfl rfl rfl (fun z1 => ?_) (fun z1 => ?_)
  · have z1 : h 2 0 ≤ x2 := z1
    replace H := H.1 z1
    show X 84 15 [vR 2, vR 14, vI x2] [] h _
    refine X_b 3 18 (L := L_84) rfl rfl rfl ?_
    show X 84 18 [vR 2, vR 14, vI x2] [vI 50, vI (h 2 0)] h _
    refine X_icmp (L := L_84) (n' := 21) rfl rfl rfl rfl (fun z2 => ?_) (fun z2 => ?_)
    · have z2 : h 2 0 < 50 := z2
      replace H := H.1 z2
      show X 84 21 [vR 2, vR 14, vI x2] [] h _
      obtain ⟨⟨c3, c4⟩, H⟩ := H
      refine X_b 9 30 (L := L_84) rfl rfl rfl ?_
      show (-2147483648 ≤ (h 2 0) * 45 ∧ (h 2 0) * 45 ≤ 2147483647) ∧ X 84 30 [vR 2, vR 14, vI x2] [vI 45, vI ((h 2 0) * 45), vR 13, vI 0, vR 14] h _
      refine ⟨c3, ?_⟩
      refine X_cp (L := L_84) rfl rfl rfl rfl rfl rfl (by decide) (by decide) (by decide) c4 rfl (by decide) ?_
      show X 84 31 [vR 2, vR 14, vI x2] [] (ab_cp h 14 0 13 ((h 2 0) * 45) 45) _
      refine X_b 2 33 (L := L_84) rfl rfl rfl ?_
      show X 84 33 [vR 2, vR 14, vI 0] [] (ab_cp h 14 0 13 ((h 2 0) * 45) 45) _
      exact H
    · have z2 : 50 ≤ h 2 0 := (Int.not_lt.mp z2)
      replace H := H.2 z2
      show X 84 19 [vR 2, vR 14, vI x2] [] h _
      refine X_b 1 20 (L := L_84) rfl rfl rfl ?_
      show X 84 20 [vR 2, vR 14, vI x2] [vI (-1)] h _
      refine X_iret (L := L_84) rfl rfl rfl rfl ?_
      exact H
  · have z1 : x2 < h 2 0 := (Int.not_le.mp z1)
    replace H := H.2 z1
    show X 84 6 [vR 2, vR 14, vI x2] [] h _
    refine X_b 3 9 (L := L_84) rfl rfl rfl ?_
    show X 84 9 [vR 2, vR 14, vI x2] [vR 14, vI x2, vR 2] h _
    refine X_call 83 [vR 2, vI x2, vR 14] [] rfl (sg_calv rfl rfl rfl rfl rfl rfl rfl rfl rfl rfl rfl) (by decide) ?_
    refine C_mono H (kI_to ?_)
    intro v5 h5 H
    show X 84 10 [vR 2, vR 14, vI x2] [vI v5] h5 _
    refine X_if (L := L_84) (n' := 13) rfl rfl rfl rfl (fun z6 => ?_) (fun z6 => ?_)
    · have z6 : v5 = 0 := z6
      replace H := H.1 z6
      show X 84 13 [vR 2, vR 14, vI x2] [] h5 _
      obtain ⟨c7, H⟩ := H
      refine X_b 1 14 (L := L_84) rfl rfl rfl ?_
      show (-2147483648 ≤ x2 + 1 ∧ x2 + 1 ≤ 2147483647) ∧ X 84 14 [vR 2, vR 14, vI (x2 + 1)] [] h5 _
      refine ⟨c7, ?_⟩
      refine X_goto (L := L_84) (n' := 2) rfl rfl rfl rfl ?_
      show X 84 2 [vR 2, vR 14, vI (x2 + 1)] [] h5 _
      exact H
    · have z6 : ¬ v5 = 0 := z6
      replace H := H.2 z6
      show X 84 11 [vR 2, vR 14, vI x2] [] h5 _
      refine X_b 1 12 (L := L_84) rfl rfl rfl ?_
      show X 84 12 [vR 2, vR 14, vI x2] [vI x2] h5 _
      refine X_iret (L := L_84) rfl rfl rfl rfl ?_
      exact H

/-- Automaton.findOrAdd, row 33 -/
theorem s_84_33 (x2 : Int) (w1 : ab_V) (h : ab_S) (K : ab_O → ab_S → Prop) (H : ((10 ≤ x2 → ((-2147483648 ≤ (h 2 0) + 1 ∧ (h 2 0) + 1 ≤ 2147483647) ∧ (-2147483648 ≤ ((h 2 0) + 1) - 1 ∧ ((h 2 0) + 1) - 1 ≤ 2147483647)) ∧ K (oI (((h 2 0) + 1) - 1)) (ab_up h 2 0 ((h 2 0) + 1))) ∧ (x2 < 10 → ((-2147483648 ≤ (h 2 0) * 10 ∧ (h 2 0) * 10 ≤ 2147483647) ∧ (0 ≤ ((h 2 0) * 10) + x2 ∧ ((h 2 0) * 10) + x2 < 500) ∧ (-2147483648 ≤ x2 + 1 ∧ x2 + 1 ≤ 2147483647)) ∧ X 84 33 [vR 2, w1, vI (x2 + 1)] [] (ab_up h 12 (((h 2 0) * 10) + x2) (-1)) K))) : X 84 33 [vR 2, w1, vI x2] [] h K := by
  refine X_b 2 35 (L := L_84) rfl rfl rfl ?_
  show X 84 35 [vR 2, w1, vI x2] [vI 10, vI x2] h _
  refine X_icmp (L := L_84) (n' := 44) rfl rfl rfl rfl (fun z1 => ?_) (fun z1 => ?_)
  · have z1 : 10 ≤ x2 := z1
    replace H := H.1 z1
    show X 84 44 [vR 2, w1, vI x2] [] h _
    obtain ⟨⟨c2, c3⟩, H⟩ := H
    refine X_b 10 54 (L := L_84) rfl rfl rfl ?_
    show (-2147483648 ≤ (h 2 0) + 1 ∧ (h 2 0) + 1 ≤ 2147483647) ∧ (-2147483648 ≤ ((h 2 0) + 1) - 1 ∧ ((h 2 0) + 1) - 1 ≤ 2147483647) ∧ X 84 54 [vR 2, w1, vI x2] [vI (((h 2 0) + 1) - 1)] (ab_up h 2 0 ((h 2 0) + 1)) _
    refine ⟨c2, c3, ?_⟩
    refine X_iret (L := L_84) rfl rfl rfl rfl ?_
    exact H
  · have z1 : x2 < 10 := (Int.not_le.mp z1)
    replace H := H.2 z1
    show X 84 36 [vR 2, w1, vI x2] [] h _
    obtain ⟨⟨c4, c5, c6⟩, H⟩ := H
    refine X_b 5 41 (L := L_84) rfl rfl rfl ?_
    show X 84 41 [vR 2, w1, vI x2] [vI (-1), vI x2, vI (h 2 0), vR 2] h _
    refine X_call 79 [vR 2, vI (h 2 0), vI x2, vI (-1)] [] rfl (sg_calv rfl rfl rfl rfl rfl rfl rfl rfl rfl rfl rfl) (by decide) ?_
    show X 79 0 [vR 2, vI (h 2 0), vI x2, vI (-1)] [] h _
    refine X_b 9 9 (L := L_79) rfl rfl rfl ?_
    show (-2147483648 ≤ (h 2 0) * 10 ∧ (h 2 0) * 10 ≤ 2147483647) ∧ (-2147483648 ≤ ((h 2 0) * 10) + x2 ∧ ((h 2 0) * 10) + x2 ≤ 2147483647) ∧ (0 ≤ ((h 2 0) * 10) + x2 ∧ ((h 2 0) * 10) + x2 < 500) ∧ X 79 9 [vR 2, vI (h 2 0), vI x2, vI (-1)] [] (ab_up h 12 (((h 2 0) * 10) + x2) (-1)) _
    refine ⟨c4, by have := c5; omega, c5, ?_⟩
    refine X_ret (L := L_79) rfl rfl rfl rfl ?_
    show X 84 42 [vR 2, w1, vI x2] [] (ab_up h 12 (((h 2 0) * 10) + x2) (-1)) _
    refine X_b 1 43 (L := L_84) rfl rfl rfl ?_
    show (-2147483648 ≤ x2 + 1 ∧ x2 + 1 ≤ 2147483647) ∧ X 84 43 [vR 2, w1, vI (x2 + 1)] [] (ab_up h 12 (((h 2 0) * 10) + x2) (-1)) _
    refine ⟨c6, ?_⟩
    refine X_goto (L := L_84) (n' := 33) rfl rfl rfl rfl ?_
    show X 84 33 [vR 2, w1, vI (x2 + 1)] [] (ab_up h 12 (((h 2 0) * 10) + x2) (-1)) _
    exact H

/-- Builder.makeCanonical, row 0 -/
theorem s_85_0 (h : ab_S) (K : ab_O → ab_S → Prop) (H : C 114 [vR 1] h (kV (fun h1 => C 137 [vR 14, vI 0] h1 (kV (fun h2 => ((-2147483648 ≤ (h2 1 0) * 5 ∧ (h2 1 0) * 5 ≤ 2147483647) ∧ (-2147483648 ≤ ((h2 1 0) * 5) + 0 ∧ ((h2 1 0) * 5) + 0 ≤ 2147483647) ∧ (0 ≤ ((h2 1 0) * 5) + 0 ∧ ((h2 1 0) * 5) + 0 < 45)) ∧ C 88 [vR 3] (ab_up h2 14 (((h2 1 0) * 5) + 0) (b_shl 1 5)) (kV (fun h6 => C 84 [vR 2, vR 14] h6 (kI (fun v7 h7 => X 85 27 [vR 3, vI 0] [] h7 K))))))))) : C 85 [vR 3] h K := by
  show X 85 0 [vR 3, vJ 0] [] h K
  refine X_b 2 2 (L := L_85) rfl rfl rfl ?_
  show X 85 2 [vR 3, vJ 0] [vR 1] h _
  refine X_call 114 [vR 1] [] rfl (sg_calv rfl rfl rfl rfl rfl rfl rfl rfl rfl rfl rfl) (by decide) ?_
  refine C_mono H (kV_to ?_)
  intro h1 H
  show X 85 3 [vR 3, vJ 0] [] h1 _
  refine X_b 3 6 (L := L_85) rfl rfl rfl ?_
  show X 85 6 [vR 3, vJ 0] [vI 0, vR 14] h1 _
  refine X_call 137 [vR 14, vI 0] [] rfl (sg_cals rfl rfl rfl rfl rfl rfl rfl rfl rfl rfl) (by decide) ?_
  refine C_mono H (kV_to ?_)
  intro h2 H
  show X 85 7 [vR 3, vJ 0] [] h2 _
  obtain ⟨⟨c3, c4, c5⟩, H⟩ := H
  refine X_b 4 11 (L := L_85) rfl rfl rfl ?_
  show X 85 11 [vR 3, vJ 0] [vR 1, vR 14] h2 _
  refine X_call 109 [vR 1] [vR 14] rfl (sg_calv rfl rfl rfl rfl rfl rfl rfl rfl rfl rfl rfl) (by decide) ?_
  show X 109 0 [vR 1] [] h2 _
  refine X_b 2 2 (L := L_109) rfl rfl rfl ?_
  show X 109 2 [vR 1] [vI (h2 1 0)] h2 _
  refine X_iret (L := L_109) rfl rfl rfl rfl ?_
  show X 85 12 [vR 3, vJ 0] [vI (h2 1 0), vR 14] h2 _
  refine X_b 1 13 (L := L_85) rfl rfl rfl ?_
  show X 85 13 [vR 3, vJ 0] [vI 0, vI (h2 1 0), vR 14] h2 _
  refine X_call 27 [vI (h2 1 0), vI 0] [vR 14] rfl (sg_cals rfl rfl rfl rfl rfl rfl rfl rfl rfl rfl) (by decide) ?_
  show X 27 0 [vI (h2 1 0), vI 0] [] h2 _
  refine X_b 5 5 (L := L_27) rfl rfl rfl ?_
  show (-2147483648 ≤ (h2 1 0) * 5 ∧ (h2 1 0) * 5 ≤ 2147483647) ∧ (-2147483648 ≤ ((h2 1 0) * 5) + 0 ∧ ((h2 1 0) * 5) + 0 ≤ 2147483647) ∧ X 27 5 [vI (h2 1 0), vI 0] [vI (((h2 1 0) * 5) + 0)] h2 _
  refine ⟨c3, c4, ?_⟩
  refine X_iret (L := L_27) rfl rfl rfl rfl ?_
  show X 85 14 [vR 3, vJ 0] [vI (((h2 1 0) * 5) + 0), vR 14] h2 _
  refine X_b 1 15 (L := L_85) rfl rfl rfl ?_
  show X 85 15 [vR 3, vJ 0] [vI 9, vI (((h2 1 0) * 5) + 0), vR 14] h2 _
  refine X_call 26 [vI 9] [vI (((h2 1 0) * 5) + 0), vR 14] rfl (sg_cals rfl rfl rfl rfl rfl rfl rfl rfl rfl rfl) (by decide) ?_
  show X 26 0 [vI 9] [] h2 _
  refine X_b 5 5 (L := L_26) rfl rfl rfl ?_
  show (-2147483648 ≤ (5 : Int) ∧ (5 : Int) ≤ 2147483647) ∧ X 26 5 [vI 9] [vI (b_shl 1 5)] h2 _
  refine ⟨by decide, ?_⟩
  refine X_iret (L := L_26) rfl rfl rfl rfl ?_
  show X 85 16 [vR 3, vJ 0] [vI (b_shl 1 5), vI (((h2 1 0) * 5) + 0), vR 14] h2 _
  refine X_b 2 18 (L := L_85) rfl rfl rfl ?_
  show (0 ≤ ((h2 1 0) * 5) + 0 ∧ ((h2 1 0) * 5) + 0 < 45) ∧ X 85 18 [vR 3, vJ 0] [vR 3] (ab_up h2 14 (((h2 1 0) * 5) + 0) (b_shl 1 5)) _
  refine ⟨c5, ?_⟩
  refine X_call 88 [vR 3] [] rfl (sg_calv rfl rfl rfl rfl rfl rfl rfl rfl rfl rfl rfl) (by decide) ?_
  refine C_mono H (kV_to ?_)
  intro h6 H
  show X 85 19 [vR 3, vJ 0] [] h6 _
  refine X_b 4 23 (L := L_85) rfl rfl rfl ?_
  show X 85 23 [vR 3, vJ 0] [vR 14, vR 2] h6 _
  refine X_call 84 [vR 2, vR 14] [] rfl (sg_calv rfl rfl rfl rfl rfl rfl rfl rfl rfl rfl rfl) (by decide) ?_
  refine C_mono H (kI_to ?_)
  intro v7 h7 H
  show X 85 24 [vR 3, vJ 0] [vI v7] h7 _
  refine X_b 3 27 (L := L_85) rfl rfl rfl ?_
  show X 85 27 [vR 3, vI 0] [] h7 _
  exact H

/-- Builder.makeCanonical, row 27 -/
theorem s_85_27 (x1 : Int) (h : ab_S) (K : ab_O → ab_S → Prop) (H : ((50 ≤ x1 → K (oI 1) h) ∧ (x1 < 50 → ((h 2 0 ≤ x1 → K (oI 1) h) ∧ (x1 < h 2 0 → C 86 [vR 3, vI x1] h (kI (fun v3 h3 => ((v3 = 0 → K (oI 0) h3) ∧ (¬ v3 = 0 → C 91 [vR 3, vI x1] h3 (kI (fun v5 h5 => ((¬ v5 = 0 → ((-2147483648 ≤ x1 + 1 ∧ x1 + 1 ≤ 2147483647)) ∧ X 85 27 [vR 3, vI (x1 + 1)] [] h5 K) ∧ (v5 = 0 → K (oI 0) h5))))))))))))) : X 85 27 [vR 3, vI x1] [] h K := by
  refine X_b 2 29 (L := L_85) rfl rfl rfl ?_
  show X 85 29 [vR 3, vI x1] [vI 50, vI x1] h _
  refine X_icmp (L := L_85) (n' := 47) rfl rfl rfl rfl (fun z1 => ?_) (fun z1 => ?_)
  · have z1 : 50 ≤ x1 := z1
    replace H := H.1 z1
    show X 85 47 [vR 3, vI x1] [] h _
    refine X_b 1 48 (L := L_85) rfl rfl rfl ?_
    show X 85 48 [vR 3, vI x1] [vI 1] h _
    refine X_zret (L := L_85) rfl rfl rfl rfl (by decide) ?_
    exact H
  · have z1 : x1 < 50 := (Int.not_le.mp z1)
    replace H := H.2 z1
    show X 85 30 [vR 3, vI x1] [] h _
    refine X_b 4 34 (L := L_85) rfl rfl rfl ?_
    show X 85 34 [vR 3, vI x1] [vI (h 2 0), vI x1] h _
    refine X_icmp (L := L_85) (n' := 47) rfl rfl rfl rfl (fun z2 => ?_) (fun z2 => ?_)
    · have z2 : h 2 0 ≤ x1 := z2
      replace H := H.1 z2
      show X 85 47 [vR 3, vI x1] [] h _
      refine X_b 1 48 (L := L_85) rfl rfl rfl ?_
      show X 85 48 [vR 3, vI x1] [vI 1] h _
      refine X_zret (L := L_85) rfl rfl rfl rfl (by decide) ?_
      exact H
    · have z2 : x1 < h 2 0 := (Int.not_le.mp z2)
      replace H := H.2 z2
      show X 85 35 [vR 3, vI x1] [] h _
      refine X_b 2 37 (L := L_85) rfl rfl rfl ?_
      show X 85 37 [vR 3, vI x1] [vI x1, vR 3] h _
      refine X_call 86 [vR 3, vI x1] [] rfl (sg_calv rfl rfl rfl rfl rfl rfl rfl rfl rfl rfl rfl) (by decide) ?_
      refine C_mono H (kI_to ?_)
      intro v3 h3 H
      show X 85 38 [vR 3, vI x1] [vI v3] h3 _
      refine X_if (L := L_85) (n' := 43) rfl rfl rfl rfl (fun z4 => ?_) (fun z4 => ?_)
      · have z4 : v3 = 0 := z4
        replace H := H.1 z4
        show X 85 43 [vR 3, vI x1] [] h3 _
        refine X_b 1 44 (L := L_85) rfl rfl rfl ?_
        show X 85 44 [vR 3, vI x1] [vI 0] h3 _
        refine X_zret (L := L_85) rfl rfl rfl rfl (by decide) ?_
        exact H
      · have z4 : ¬ v3 = 0 := z4
        replace H := H.2 z4
        show X 85 39 [vR 3, vI x1] [] h3 _
        refine X_b 2 41 (L := L_85) rfl rfl rfl ?_
        show X 85 41 [vR 3, vI x1] [vI x1, vR 3] h3 _
        refine X_call 91 [vR 3, vI x1] [] rfl (sg_calv rfl rfl rfl rfl rfl rfl rfl rfl rfl rfl rfl) (by decide) ?_
        refine C_mono H (kI_to ?_)
        intro v5 h5 H
        show X 85 42 [vR 3, vI x1] [vI v5] h5 _
        refine X_if (L := L_85) (n' := 45) rfl rfl rfl rfl (fun z6 => ?_) (fun z6 => ?_)
        · have z6 : ¬ v5 = 0 := z6
          replace H := H.1 z6
          show X 85 45 [vR 3, vI x1] [] h5 _
          obtain ⟨c7, H⟩ := H
          refine X_b 1 46 (L := L_85) rfl rfl rfl ?_
          show (-2147483648 ≤ x1 + 1 ∧ x1 + 1 ≤ 2147483647) ∧ X 85 46 [vR 3, vI (x1 + 1)] [] h5 _
          refine ⟨c7, ?_⟩
          refine X_goto (L := L_85) (n' := 27) rfl rfl rfl rfl ?_
          show X 85 27 [vR 3, vI (x1 + 1)] [] h5 _
          exact H
        · have z6 : v5 = 0 := (Classical.not_not.mp z6)
          replace H := H.2 z6
          show X 85 43 [vR 3, vI x1] [] h5 _
          refine X_b 1 44 (L := L_85) rfl rfl rfl ?_
          show X 85 44 [vR 3, vI x1] [vI 0] h5 _
          refine X_zret (L := L_85) rfl rfl rfl rfl (by decide) ?_
          exact H

/-- Builder.makeGoes, row 0 -/
theorem s_86_0 (x1 : Int) (h : ab_S) (K : ab_O → ab_S → Prop) (H : X 86 2 [vR 3, vI x1, vI 0, vJ 0] [] h K) : C 86 [vR 3, vI x1] h K := by
  show X 86 0 [vR 3, vI x1, vJ 0, vJ 0] [] h K
  refine X_b 2 2 (L := L_86) rfl rfl rfl ?_
  show X 86 2 [vR 3, vI x1, vI 0, vJ 0] [] h _
  exact H

/-- Builder.makeGoes, row 2 -/
theorem s_86_2 (x1 x2 : Int) (w3 : ab_V) (h : ab_S) (K : ab_O → ab_S → Prop) (H : ((9 ≤ x2 → K (oI 1) h) ∧ (x2 < 9 → C 87 [vR 3, vI x1, vI x2] h (kI (fun v2 h2 => ((v2 = 0 → ((-2147483648 ≤ x2 + 1 ∧ x2 + 1 ≤ 2147483647)) ∧ X 86 2 [vR 3, vI x1, vI (x2 + 1), w3] [] h2 K) ∧ (¬ v2 = 0 → C 88 [vR 3] h2 (kV (fun h5 => C 84 [vR 2, vR 14] h5 (kI (fun v6 h6 => ((0 ≤ v6 → ((-2147483648 ≤ x1 * 10 ∧ x1 * 10 ≤ 2147483647) ∧ (0 ≤ (x1 * 10) + x2 ∧ (x1 * 10) + x2 < 500) ∧ (-2147483648 ≤ x2 + 1 ∧ x2 + 1 ≤ 2147483647)) ∧ X 86 2 [vR 3, vI x1, vI (x2 + 1), vI v6] [] (ab_up h6 12 ((x1 * 10) + x2) v6) K) ∧ (v6 < 0 → K (oI 0) h6))))))))))))) : X 86 2 [vR 3, vI x1, vI x2, w3] [] h K := by
  refine X_b 2 4 (L := L_86) rfl rfl rfl ?_
  show X 86 4 [vR 3, vI x1, vI x2, w3] [vI 9, vI x2] h _
  refine X_icmp (L := L_86) (n' := 30) rfl rfl rfl rfl (fun z1 => ?_) (fun z1 => ?_)
  · have z1 : 9 ≤ x2 := z1
    replace H := H.1 z1
    show X 86 30 [vR 3, vI x1, vI x2, w3] [] h _
    refine X_b 1 31 (L := L_86) rfl rfl rfl ?_
    show X 86 31 [vR 3, vI x1, vI x2, w3] [vI 1] h _
    refine X_zret (L := L_86) rfl rfl rfl rfl (by decide) ?_
    exact H
  · have z1 : x2 < 9 := (Int.not_le.mp z1)
    replace H := H.2 z1
    show X 86 5 [vR 3, vI x1, vI x2, w3] [] h _
    refine X_b 3 8 (L := L_86) rfl rfl rfl ?_
    show X 86 8 [vR 3, vI x1, vI x2, w3] [vI x2, vI x1, vR 3] h _
    refine X_call 87 [vR 3, vI x1, vI x2] [] rfl (sg_calv rfl rfl rfl rfl rfl rfl rfl rfl rfl rfl rfl) (by decide) ?_
    refine C_mono H (kI_to ?_)
    intro v2 h2 H
    show X 86 9 [vR 3, vI x1, vI x2, w3] [vI v2] h2 _
    refine X_if (L := L_86) (n' := 28) rfl rfl rfl rfl (fun z3 => ?_) (fun z3 => ?_)
    · have z3 : v2 = 0 := z3
      replace H := H.1 z3
      show X 86 28 [vR 3, vI x1, vI x2, w3] [] h2 _
      obtain ⟨c4, H⟩ := H
      refine X_b 1 29 (L := L_86) rfl rfl rfl ?_
      show (-2147483648 ≤ x2 + 1 ∧ x2 + 1 ≤ 2147483647) ∧ X 86 29 [vR 3, vI x1, vI (x2 + 1), w3] [] h2 _
      refine ⟨c4, ?_⟩
      refine X_goto (L := L_86) (n' := 2) rfl rfl rfl rfl ?_
      show X 86 2 [vR 3, vI x1, vI (x2 + 1), w3] [] h2 _
      exact H
    · have z3 : ¬ v2 = 0 := z3
      replace H := H.2 z3
      show X 86 10 [vR 3, vI x1, vI x2, w3] [] h2 _
      refine X_b 1 11 (L := L_86) rfl rfl rfl ?_
      show X 86 11 [vR 3, vI x1, vI x2, w3] [vR 3] h2 _
      refine X_call 88 [vR 3] [] rfl (sg_calv rfl rfl rfl rfl rfl rfl rfl rfl rfl rfl rfl) (by decide) ?_
      refine C_mono H (kV_to ?_)
      intro h5 H
      show X 86 12 [vR 3, vI x1, vI x2, w3] [] h5 _
      refine X_b 4 16 (L := L_86) rfl rfl rfl ?_
      show X 86 16 [vR 3, vI x1, vI x2, w3] [vR 14, vR 2] h5 _
      refine X_call 84 [vR 2, vR 14] [] rfl (sg_calv rfl rfl rfl rfl rfl rfl rfl rfl rfl rfl rfl) (by decide) ?_
      refine C_mono H (kI_to ?_)
      intro v6 h6 H
      show X 86 17 [vR 3, vI x1, vI x2, w3] [vI v6] h6 _
      refine X_b 2 19 (L := L_86) rfl rfl rfl ?_
      show X 86 19 [vR 3, vI x1, vI x2, vI v6] [vI v6] h6 _
      refine X_if (L := L_86) (n' := 22) rfl rfl rfl rfl (fun z7 => ?_) (fun z7 => ?_)
      · have z7 : 0 ≤ v6 := z7
        replace H := H.1 z7
        show X 86 22 [vR 3, vI x1, vI x2, vI v6] [] h6 _
        obtain ⟨⟨c8, c9, c10⟩, H⟩ := H
        refine X_b 5 27 (L := L_86) rfl rfl rfl ?_
        show X 86 27 [vR 3, vI x1, vI x2, vI v6] [vI v6, vI x2, vI x1, vR 2] h6 _
        refine X_call 79 [vR 2, vI x1, vI x2, vI v6] [] rfl (sg_calv rfl rfl rfl rfl rfl rfl rfl rfl rfl rfl rfl) (by decide) ?_
        show X 79 0 [vR 2, vI x1, vI x2, vI v6] [] h6 _
        refine X_b 9 9 (L := L_79) rfl rfl rfl ?_
        show (-2147483648 ≤ x1 * 10 ∧ x1 * 10 ≤ 2147483647) ∧ (-2147483648 ≤ (x1 * 10) + x2 ∧ (x1 * 10) + x2 ≤ 2147483647) ∧ (0 ≤ (x1 * 10) + x2 ∧ (x1 * 10) + x2 < 500) ∧ X 79 9 [vR 2, vI x1, vI x2, vI v6] [] (ab_up h6 12 ((x1 * 10) + x2) v6) _
        refine ⟨c8, by have := c9; omega, c9, ?_⟩
        refine X_ret (L := L_79) rfl rfl rfl rfl ?_
        show X 86 28 [vR 3, vI x1, vI x2, vI v6] [] (ab_up h6 12 ((x1 * 10) + x2) v6) _
        refine X_b 1 29 (L := L_86) rfl rfl rfl ?_
        show (-2147483648 ≤ x2 + 1 ∧ x2 + 1 ≤ 2147483647) ∧ X 86 29 [vR 3, vI x1, vI (x2 + 1), vI v6] [] (ab_up h6 12 ((x1 * 10) + x2) v6) _
        refine ⟨c10, ?_⟩
        refine X_goto (L := L_86) (n' := 2) rfl rfl rfl rfl ?_
        show X 86 2 [vR 3, vI x1, vI (x2 + 1), vI v6] [] (ab_up h6 12 ((x1 * 10) + x2) v6) _
        exact H
      · have z7 : v6 < 0 := (Int.not_le.mp z7)
        replace H := H.2 z7
        show X 86 20 [vR 3, vI x1, vI x2, vI v6] [] h6 _
        refine X_b 1 21 (L := L_86) rfl rfl rfl ?_
        show X 86 21 [vR 3, vI x1, vI x2, vI v6] [vI 0] h6 _
        refine X_zret (L := L_86) rfl rfl rfl rfl (by decide) ?_
        exact H

/-- Builder.moveOver, row 0 -/
theorem s_87_0 (x1 x2 : Int) (h : ab_S) (K : ab_O → ab_S → Prop) (H : C 137 [vR 14, vI 0] h (kV (fun h1 => X 87 8 [vR 3, vI x1, vI x2, vI 0, vI 0, vJ 0, vJ 0] [] h1 K))) : C 87 [vR 3, vI x1, vI x2] h K := by
  show X 87 0 [vR 3, vI x1, vI x2, vJ 0, vJ 0, vJ 0, vJ 0] [] h K
  refine X_b 5 5 (L := L_87) rfl rfl rfl ?_
  show X 87 5 [vR 3, vI x1, vI x2, vI 0, vJ 0, vJ 0, vJ 0] [vI 0, vR 14] h _
  refine X_call 137 [vR 14, vI 0] [] rfl (sg_cals rfl rfl rfl rfl rfl rfl rfl rfl rfl rfl) (by decide) ?_
  refine C_mono H (kV_to ?_)
  intro h1 H
  show X 87 6 [vR 3, vI x1, vI x2, vI 0, vJ 0, vJ 0, vJ 0] [] h1 _
  refine X_b 2 8 (L := L_87) rfl rfl rfl ?_
  show X 87 8 [vR 3, vI x1, vI x2, vI 0, vI 0, vJ 0, vJ 0] [] h1 _
  exact H

/-- Builder.moveOver, row 8 -/
theorem s_87_8 (x1 x2 x3 x4 : Int) (w5 w6 : ab_V) (h : ab_S) (K : ab_O → ab_S → Prop) (H : ((h 1 0 < x4 → ((x3 = 0 ∨ x3 = 1)) ∧ K (oI x3) h) ∧ (x4 ≤ h 1 0 → X 87 15 [vR 3, vI x1, vI x2, vI x3, vI x4, vI 0, w6] [] h K))) : X 87 8 [vR 3, vI x1, vI x2, vI x3, vI x4, w5, w6] [] h K := by
  refine X_b 3 11 (L := L_87) rfl rfl rfl ?_
  show X 87 11 [vR 3, vI x1, vI x2, vI x3, vI x4, w5, w6] [vR 1, vI x4] h _
  refine X_call 109 [vR 1] [vI x4] rfl (sg_calv rfl rfl rfl rfl rfl rfl rfl rfl rfl rfl rfl) (by decide) ?_
  show X 109 0 [vR 1] [] h _
  refine X_b 2 2 (L := L_109) rfl rfl rfl ?_
  show X 109 2 [vR 1] [vI (h 1 0)] h _
  refine X_iret (L := L_109) rfl rfl rfl rfl ?_
  show X 87 12 [vR 3, vI x1, vI x2, vI x3, vI x4, w5, w6] [vI (h 1 0), vI x4] h _
  refine X_icmp (L := L_87) (n' := 53) rfl rfl rfl rfl (fun z1 => ?_) (fun z1 => ?_)
  · have z1 : h 1 0 < x4 := z1
    replace H := H.1 z1
    show X 87 53 [vR 3, vI x1, vI x2, vI x3, vI x4, w5, w6] [] h _
    obtain ⟨c2, H⟩ := H
    refine X_b 1 54 (L := L_87) rfl rfl rfl ?_
    show X 87 54 [vR 3, vI x1, vI x2, vI x3, vI x4, w5, w6] [vI x3] h _
    refine X_zret (L := L_87) rfl rfl rfl rfl c2 ?_
    exact H
  · have z1 : x4 ≤ h 1 0 := (Int.not_lt.mp z1)
    replace H := H.2 z1
    show X 87 13 [vR 3, vI x1, vI x2, vI x3, vI x4, w5, w6] [] h _
    refine X_b 2 15 (L := L_87) rfl rfl rfl ?_
    show X 87 15 [vR 3, vI x1, vI x2, vI x3, vI x4, vI 0, w6] [] h _
    exact H

/-- Builder.moveOver, row 15 -/
theorem s_87_15 (x1 x2 x3 x4 x5 : Int) (w6 : ab_V) (h : ab_S) (K : ab_O → ab_S → Prop) (H : ((0 ≤ x4 ∧ x4 < 9)) ∧ ((h 8 x4 ≤ x5 → ((-2147483648 ≤ x4 + 1 ∧ x4 + 1 ≤ 2147483647)) ∧ X 87 8 [vR 3, vI x1, vI x2, vI x3, vI (x4 + 1), vI x5, w6] [] h K) ∧ (x5 < h 8 x4 → ((-2147483648 ≤ x1 * 45 ∧ x1 * 45 ≤ 2147483647) ∧ (-2147483648 ≤ x4 * 5 ∧ x4 * 5 ≤ 2147483647) ∧ (-2147483648 ≤ (x4 * 5) + x5 ∧ (x4 * 5) + x5 ≤ 2147483647) ∧ (0 ≤ (x1 * 45) + ((x4 * 5) + x5) ∧ (x1 * 45) + ((x4 * 5) + x5) < 2250)) ∧ ((h 13 ((x1 * 45) + ((x4 * 5) + x5)) = 0 → ((-2147483648 ≤ x5 + 1 ∧ x5 + 1 ≤ 2147483647)) ∧ X 87 15 [vR 3, vI x1, vI x2, vI x3, vI x4, vI (x5 + 1), vI (h 13 ((x1 * 45) + ((x4 * 5) + x5)))] [] h K) ∧ (¬ h 13 ((x1 * 45) + ((x4 * 5) + x5)) = 0 → ((-2147483648 ≤ x4 * 4 ∧ x4 * 4 ≤ 2147483647) ∧ (0 ≤ (x4 * 4) + x5 ∧ (x4 * 4) + x5 < 36)) ∧ ((¬ h 9 ((x4 * 4) + x5) = x2 → ((-2147483648 ≤ x5 + 1 ∧ x5 + 1 ≤ 2147483647)) ∧ X 87 15 [vR 3, vI x1, vI x2, vI x3, vI x4, vI (x5 + 1), vI (h 13 ((x1 * 45) + ((x4 * 5) + x5)))] [] h K) ∧ (h 9 ((x4 * 4) + x5) = x2 → ((-2147483648 ≤ x5 + 1 ∧ x5 + 1 ≤ 2147483647) ∧ (-2147483648 ≤ (x4 * 5) + (x5 + 1) ∧ (x4 * 5) + (x5 + 1) ≤ 2147483647) ∧ (0 ≤ (x4 * 5) + (x5 + 1) ∧ (x4 * 5) + (x5 + 1) < 45)) ∧ X 87 15 [vR 3, vI x1, vI x2, vI 1, vI x4, vI (x5 + 1), vI (h 13 ((x1 * 45) + ((x4 * 5) + x5)))] [] (ab_up h 14 ((x4 * 5) + (x5 + 1)) (h 13 ((x1 * 45) + ((x4 * 5) + x5)))) K))))))) : X 87 15 [vR 3, vI x1, vI x2, vI x3, vI x4, vI x5, w6] [] h K := by
  obtain ⟨c1, H⟩ := H
  refine X_b 6 21 (L := L_87) rfl rfl rfl ?_
  show (0 ≤ x4 ∧ x4 < 9) ∧ X 87 21 [vR 3, vI x1, vI x2, vI x3, vI x4, vI x5, w6] [vI (h 8 x4), vI x5] h _
  refine ⟨c1, ?_⟩
  refine X_icmp (L := L_87) (n' := 51) rfl rfl rfl rfl (fun z2 => ?_) (fun z2 => ?_)
  · have z2 : h 8 x4 ≤ x5 := z2
    replace H := H.1 z2
    show X 87 51 [vR 3, vI x1, vI x2, vI x3, vI x4, vI x5, w6] [] h _
    obtain ⟨c3, H⟩ := H
    refine X_b 1 52 (L := L_87) rfl rfl rfl ?_
    show (-2147483648 ≤ x4 + 1 ∧ x4 + 1 ≤ 2147483647) ∧ X 87 52 [vR 3, vI x1, vI x2, vI x3, vI (x4 + 1), vI x5, w6] [] h _
    refine ⟨c3, ?_⟩
    refine X_goto (L := L_87) (n' := 8) rfl rfl rfl rfl ?_
    show X 87 8 [vR 3, vI x1, vI x2, vI x3, vI (x4 + 1), vI x5, w6] [] h _
    exact H
  · have z2 : x5 < h 8 x4 := (Int.not_le.mp z2)
    replace H := H.2 z2
    show X 87 22 [vR 3, vI x1, vI x2, vI x3, vI x4, vI x5, w6] [] h _
    obtain ⟨⟨c4, c5, c6, c7⟩, H⟩ := H
    refine X_b 5 27 (L := L_87) rfl rfl rfl ?_
    show X 87 27 [vR 3, vI x1, vI x2, vI x3, vI x4, vI x5, w6] [vI x5, vI x4, vI x1, vR 2] h _
    refine X_call 80 [vR 2, vI x1, vI x4, vI x5] [] rfl (sg_calv rfl rfl rfl rfl rfl rfl rfl rfl rfl rfl rfl) (by decide) ?_
    show X 80 0 [vR 2, vI x1, vI x4, vI x5] [] h _
    refine X_b 7 7 (L := L_80) rfl rfl rfl ?_
    show (-2147483648 ≤ x1 * 45 ∧ x1 * 45 ≤ 2147483647) ∧ X 80 7 [vR 2, vI x1, vI x4, vI x5] [vI x5, vI x4, vI (x1 * 45), vR 13] h _
    refine ⟨c4, ?_⟩
    refine X_call 27 [vI x4, vI x5] [vI (x1 * 45), vR 13] rfl (sg_cals rfl rfl rfl rfl rfl rfl rfl rfl rfl rfl) (by decide) ?_
    show X 27 0 [vI x4, vI x5] [] h _
    refine X_b 5 5 (L := L_27) rfl rfl rfl ?_
    show (-2147483648 ≤ x4 * 5 ∧ x4 * 5 ≤ 2147483647) ∧ (-2147483648 ≤ (x4 * 5) + x5 ∧ (x4 * 5) + x5 ≤ 2147483647) ∧ X 27 5 [vI x4, vI x5] [vI ((x4 * 5) + x5)] h _
    refine ⟨c5, c6, ?_⟩
    refine X_iret (L := L_27) rfl rfl rfl rfl ?_
    show X 80 8 [vR 2, vI x1, vI x4, vI x5] [vI ((x4 * 5) + x5), vI (x1 * 45), vR 13] h _
    refine X_b 2 10 (L := L_80) rfl rfl rfl ?_
    show (-2147483648 ≤ (x1 * 45) + ((x4 * 5) + x5) ∧ (x1 * 45) + ((x4 * 5) + x5) ≤ 2147483647) ∧ (0 ≤ (x1 * 45) + ((x4 * 5) + x5) ∧ (x1 * 45) + ((x4 * 5) + x5) < 2250) ∧ X 80 10 [vR 2, vI x1, vI x4, vI x5] [vI (h 13 ((x1 * 45) + ((x4 * 5) + x5)))] h _
    refine ⟨by have := c7; omega, c7, ?_⟩
    refine X_iret (L := L_80) rfl rfl rfl rfl ?_
    show X 87 28 [vR 3, vI x1, vI x2, vI x3, vI x4, vI x5, w6] [vI (h 13 ((x1 * 45) + ((x4 * 5) + x5)))] h _
    refine X_b 2 30 (L := L_87) rfl rfl rfl ?_
    show X 87 30 [vR 3, vI x1, vI x2, vI x3, vI x4, vI x5, vI (h 13 ((x1 * 45) + ((x4 * 5) + x5)))] [vI (h 13 ((x1 * 45) + ((x4 * 5) + x5)))] h _
    refine X_if (L := L_87) (n' := 49) rfl rfl rfl rfl (fun z8 => ?_) (fun z8 => ?_)
    · have z8 : h 13 ((x1 * 45) + ((x4 * 5) + x5)) = 0 := z8
      replace H := H.1 z8
      show X 87 49 [vR 3, vI x1, vI x2, vI x3, vI x4, vI x5, vI (h 13 ((x1 * 45) + ((x4 * 5) + x5)))] [] h _
      obtain ⟨c9, H⟩ := H
      refine X_b 1 50 (L := L_87) rfl rfl rfl ?_
      show (-2147483648 ≤ x5 + 1 ∧ x5 + 1 ≤ 2147483647) ∧ X 87 50 [vR 3, vI x1, vI x2, vI x3, vI x4, vI (x5 + 1), vI (h 13 ((x1 * 45) + ((x4 * 5) + x5)))] [] h _
      refine ⟨c9, ?_⟩
      refine X_goto (L := L_87) (n' := 15) rfl rfl rfl rfl ?_
      show X 87 15 [vR 3, vI x1, vI x2, vI x3, vI x4, vI (x5 + 1), vI (h 13 ((x1 * 45) + ((x4 * 5) + x5)))] [] h _
      exact H
    · have z8 : ¬ h 13 ((x1 * 45) + ((x4 * 5) + x5)) = 0 := z8
      replace H := H.2 z8
      show X 87 31 [vR 3, vI x1, vI x2, vI x3, vI x4, vI x5, vI (h 13 ((x1 * 45) + ((x4 * 5) + x5)))] [] h _
      obtain ⟨⟨c10, c11⟩, H⟩ := H
      refine X_b 4 35 (L := L_87) rfl rfl rfl ?_
      show X 87 35 [vR 3, vI x1, vI x2, vI x3, vI x4, vI x5, vI (h 13 ((x1 * 45) + ((x4 * 5) + x5)))] [vI x5, vI x4, vR 1] h _
      refine X_call 111 [vR 1, vI x4, vI x5] [] rfl (sg_calv rfl rfl rfl rfl rfl rfl rfl rfl rfl rfl rfl) (by decide) ?_
      show X 111 0 [vR 1, vI x4, vI x5] [] h _
      refine X_b 8 8 (L := L_111) rfl rfl rfl ?_
      show (-2147483648 ≤ x4 * 4 ∧ x4 * 4 ≤ 2147483647) ∧ (-2147483648 ≤ (x4 * 4) + x5 ∧ (x4 * 4) + x5 ≤ 2147483647) ∧ (0 ≤ (x4 * 4) + x5 ∧ (x4 * 4) + x5 < 36) ∧ X 111 8 [vR 1, vI x4, vI x5] [vI (h 9 ((x4 * 4) + x5))] h _
      refine ⟨c10, by have := c11; omega, c11, ?_⟩
      refine X_iret (L := L_111) rfl rfl rfl rfl ?_
      show X 87 36 [vR 3, vI x1, vI x2, vI x3, vI x4, vI x5, vI (h 13 ((x1 * 45) + ((x4 * 5) + x5)))] [vI (h 9 ((x4 * 4) + x5))] h _
      refine X_b 1 37 (L := L_87) rfl rfl rfl ?_
      show X 87 37 [vR 3, vI x1, vI x2, vI x3, vI x4, vI x5, vI (h 13 ((x1 * 45) + ((x4 * 5) + x5)))] [vI x2, vI (h 9 ((x4 * 4) + x5))] h _
      refine X_icmp (L := L_87) (n' := 49) rfl rfl rfl rfl (fun z12 => ?_) (fun z12 => ?_)
      · have z12 : ¬ h 9 ((x4 * 4) + x5) = x2 := z12
        replace H := H.1 z12
        show X 87 49 [vR 3, vI x1, vI x2, vI x3, vI x4, vI x5, vI (h 13 ((x1 * 45) + ((x4 * 5) + x5)))] [] h _
        obtain ⟨c13, H⟩ := H
        refine X_b 1 50 (L := L_87) rfl rfl rfl ?_
        show (-2147483648 ≤ x5 + 1 ∧ x5 + 1 ≤ 2147483647) ∧ X 87 50 [vR 3, vI x1, vI x2, vI x3, vI x4, vI (x5 + 1), vI (h 13 ((x1 * 45) + ((x4 * 5) + x5)))] [] h _
        refine ⟨c13, ?_⟩
        refine X_goto (L := L_87) (n' := 15) rfl rfl rfl rfl ?_
        show X 87 15 [vR 3, vI x1, vI x2, vI x3, vI x4, vI (x5 + 1), vI (h 13 ((x1 * 45) + ((x4 * 5) + x5)))] [] h _
        exact H
      · have z12 : h 9 ((x4 * 4) + x5) = x2 := (Classical.not_not.mp z12)
        replace H := H.2 z12
        show X 87 38 [vR 3, vI x1, vI x2, vI x3, vI x4, vI x5, vI (h 13 ((x1 * 45) + ((x4 * 5) + x5)))] [] h _
        obtain ⟨⟨c14, c15, c16⟩, H⟩ := H
        refine X_b 6 44 (L := L_87) rfl rfl rfl ?_
        show (-2147483648 ≤ x5 + 1 ∧ x5 + 1 ≤ 2147483647) ∧ X 87 44 [vR 3, vI x1, vI x2, vI x3, vI x4, vI x5, vI (h 13 ((x1 * 45) + ((x4 * 5) + x5)))] [vI (x5 + 1), vI x4, vR 14] h _
        refine ⟨c14, ?_⟩
        refine X_call 27 [vI x4, vI (x5 + 1)] [vR 14] rfl (sg_cals rfl rfl rfl rfl rfl rfl rfl rfl rfl rfl) (by decide) ?_
        show X 27 0 [vI x4, vI (x5 + 1)] [] h _
        refine X_b 5 5 (L := L_27) rfl rfl rfl ?_
        show (-2147483648 ≤ x4 * 5 ∧ x4 * 5 ≤ 2147483647) ∧ (-2147483648 ≤ (x4 * 5) + (x5 + 1) ∧ (x4 * 5) + (x5 + 1) ≤ 2147483647) ∧ X 27 5 [vI x4, vI (x5 + 1)] [vI ((x4 * 5) + (x5 + 1))] h _
        refine ⟨c5, c15, ?_⟩
        refine X_iret (L := L_27) rfl rfl rfl rfl ?_
        show X 87 45 [vR 3, vI x1, vI x2, vI x3, vI x4, vI x5, vI (h 13 ((x1 * 45) + ((x4 * 5) + x5)))] [vI ((x4 * 5) + (x5 + 1)), vR 14] h _
        refine X_b 5 50 (L := L_87) rfl rfl rfl ?_
        show (0 ≤ (x4 * 5) + (x5 + 1) ∧ (x4 * 5) + (x5 + 1) < 45) ∧ (-2147483648 ≤ x5 + 1 ∧ x5 + 1 ≤ 2147483647) ∧ X 87 50 [vR 3, vI x1, vI x2, vI 1, vI x4, vI (x5 + 1), vI (h 13 ((x1 * 45) + ((x4 * 5) + x5)))] [] (ab_up h 14 ((x4 * 5) + (x5 + 1)) (h 13 ((x1 * 45) + ((x4 * 5) + x5)))) _
        refine ⟨c16, c14, ?_⟩
        refine X_goto (L := L_87) (n' := 15) rfl rfl rfl rfl ?_
        show X 87 15 [vR 3, vI x1, vI x2, vI 1, vI x4, vI (x5 + 1), vI (h 13 ((x1 * 45) + ((x4 * 5) + x5)))] [] (ab_up h 14 ((x4 * 5) + (x5 + 1)) (h 13 ((x1 * 45) + ((x4 * 5) + x5)))) _
        exact H

/-- Builder.close, row 0 -/
theorem s_88_0 (h : ab_S) (K : ab_O → ab_S → Prop) (H : X 88 4 [vR 3, vI 1, vI 0] [] h K) : C 88 [vR 3] h K := by
  show X 88 0 [vR 3, vJ 0, vJ 0] [] h K
  refine X_b 4 4 (L := L_88) rfl rfl rfl ?_
  show X 88 4 [vR 3, vI 1, vI 0] [] h _
  exact H

/-- Builder.close, row 4 -/
theorem s_88_4 (x1 x2 : Int) (h : ab_S) (K : ab_O → ab_S → Prop) (H : ((49 ≤ x2 → K oV h) ∧ (x2 < 49 → ((x1 = 0 → K oV h) ∧ (¬ x1 = 0 → C 89 [vR 3] h (kI (fun v3 h3 => ((-2147483648 ≤ x2 + 1 ∧ x2 + 1 ≤ 2147483647)) ∧ X 88 4 [vR 3, vI v3, vI (x2 + 1)] [] h3 K))))))) : X 88 4 [vR 3, vI x1, vI x2] [] h K := by
  refine X_b 2 6 (L := L_88) rfl rfl rfl ?_
  show X 88 6 [vR 3, vI x1, vI x2] [vI 49, vI x2] h _
  refine X_icmp (L := L_88) (n' := 14) rfl rfl rfl rfl (fun z1 => ?_) (fun z1 => ?_)
  · have z1 : 49 ≤ x2 := z1
    replace H := H.1 z1
    show X 88 14 [vR 3, vI x1, vI x2] [] h _
    refine X_ret (L := L_88) rfl rfl rfl rfl ?_
    exact H
  · have z1 : x2 < 49 := (Int.not_le.mp z1)
    replace H := H.2 z1
    show X 88 7 [vR 3, vI x1, vI x2] [] h _
    refine X_b 1 8 (L := L_88) rfl rfl rfl ?_
    show X 88 8 [vR 3, vI x1, vI x2] [vI x1] h _
    refine X_if (L := L_88) (n' := 14) rfl rfl rfl rfl (fun z2 => ?_) (fun z2 => ?_)
    · have z2 : x1 = 0 := z2
      replace H := H.1 z2
      show X 88 14 [vR 3, vI x1, vI x2] [] h _
      refine X_ret (L := L_88) rfl rfl rfl rfl ?_
      exact H
    · have z2 : ¬ x1 = 0 := z2
      replace H := H.2 z2
      show X 88 9 [vR 3, vI x1, vI x2] [] h _
      refine X_b 1 10 (L := L_88) rfl rfl rfl ?_
      show X 88 10 [vR 3, vI x1, vI x2] [vR 3] h _
      refine X_call 89 [vR 3] [] rfl (sg_calv rfl rfl rfl rfl rfl rfl rfl rfl rfl rfl rfl) (by decide) ?_
      refine C_mono H (kI_to ?_)
      intro v3 h3 H
      show X 88 11 [vR 3, vI x1, vI x2] [vI v3] h3 _
      obtain ⟨c4, H⟩ := H
      refine X_b 2 13 (L := L_88) rfl rfl rfl ?_
      show (-2147483648 ≤ x2 + 1 ∧ x2 + 1 ≤ 2147483647) ∧ X 88 13 [vR 3, vI v3, vI (x2 + 1)] [] h3 _
      refine ⟨c4, ?_⟩
      refine X_goto (L := L_88) (n' := 4) rfl rfl rfl rfl ?_
      show X 88 4 [vR 3, vI v3, vI (x2 + 1)] [] h3 _
      exact H

/-- Builder.closeOnce, row 0 -/
theorem s_89_0 (h : ab_S) (K : ab_O → ab_S → Prop) (H : X 89 4 [vR 3, vI 0, vI 0, vJ 0, vJ 0, vJ 0] [] h K) : C 89 [vR 3] h K := by
  show X 89 0 [vR 3, vJ 0, vJ 0, vJ 0, vJ 0, vJ 0] [] h K
  refine X_b 4 4 (L := L_89) rfl rfl rfl ?_
  show X 89 4 [vR 3, vI 0, vI 0, vJ 0, vJ 0, vJ 0] [] h _
  exact H

/-- Builder.closeOnce, row 4 -/
theorem s_89_4 (x1 x2 : Int) (w3 w4 w5 : ab_V) (h : ab_S) (K : ab_O → ab_S → Prop) (H : ((h 1 0 < x2 → ((x1 = 0 ∨ x1 = 1)) ∧ K (oI x1) h) ∧ (x2 ≤ h 1 0 → X 89 11 [vR 3, vI x1, vI x2, vI 0, w4, w5] [] h K))) : X 89 4 [vR 3, vI x1, vI x2, w3, w4, w5] [] h K := by
  refine X_b 3 7 (L := L_89) rfl rfl rfl ?_
  show X 89 7 [vR 3, vI x1, vI x2, w3, w4, w5] [vR 1, vI x2] h _
  refine X_call 109 [vR 1] [vI x2] rfl (sg_calv rfl rfl rfl rfl rfl rfl rfl rfl rfl rfl rfl) (by decide) ?_
  show X 109 0 [vR 1] [] h _
  refine X_b 2 2 (L := L_109) rfl rfl rfl ?_
  show X 109 2 [vR 1] [vI (h 1 0)] h _
  refine X_iret (L := L_109) rfl rfl rfl rfl ?_
  show X 89 8 [vR 3, vI x1, vI x2, w3, w4, w5] [vI (h 1 0), vI x2] h _
  refine X_icmp (L := L_89) (n' := 54) rfl rfl rfl rfl (fun z1 => ?_) (fun z1 => ?_)
  · have z1 : h 1 0 < x2 := z1
    replace H := H.1 z1
    show X 89 54 [vR 3, vI x1, vI x2, w3, w4, w5] [] h _
    obtain ⟨c2, H⟩ := H
    refine X_b 1 55 (L := L_89) rfl rfl rfl ?_
    show X 89 55 [vR 3, vI x1, vI x2, w3, w4, w5] [vI x1] h _
    refine X_zret (L := L_89) rfl rfl rfl rfl c2 ?_
    exact H
  · have z1 : x2 ≤ h 1 0 := (Int.not_lt.mp z1)
    replace H := H.2 z1
    show X 89 9 [vR 3, vI x1, vI x2, w3, w4, w5] [] h _
    refine X_b 2 11 (L := L_89) rfl rfl rfl ?_
    show X 89 11 [vR 3, vI x1, vI x2, vI 0, w4, w5] [] h _
    exact H

/-- Builder.closeOnce, row 11 -/
theorem s_89_11 (x1 x2 x3 : Int) (w4 w5 : ab_V) (h : ab_S) (K : ab_O → ab_S → Prop) (H : ((0 ≤ x2 ∧ x2 < 9)) ∧ ((h 8 x2 ≤ x3 → ((-2147483648 ≤ x2 + 1 ∧ x2 + 1 ≤ 2147483647)) ∧ X 89 4 [vR 3, vI x1, vI (x2 + 1), vI x3, w4, w5] [] h K) ∧ (x3 < h 8 x2 → ((-2147483648 ≤ x2 * 5 ∧ x2 * 5 ≤ 2147483647) ∧ (-2147483648 ≤ (x2 * 5) + x3 ∧ (x2 * 5) + x3 ≤ 2147483647) ∧ (0 ≤ (x2 * 5) + x3 ∧ (x2 * 5) + x3 < 45) ∧ (-2147483648 ≤ x2 * 4 ∧ x2 * 4 ≤ 2147483647) ∧ (0 ≤ (x2 * 4) + x3 ∧ (x2 * 4) + x3 < 36)) ∧ ((h 14 ((x2 * 5) + x3) = 0 → ((-2147483648 ≤ x3 + 1 ∧ x3 + 1 ≤ 2147483647)) ∧ X 89 11 [vR 3, vI x1, vI x2, vI (x3 + 1), vI (h 14 ((x2 * 5) + x3)), vI (h 9 ((x2 * 4) + x3))] [] h K) ∧ (¬ h 14 ((x2 * 5) + x3) = 0 → ((h 9 ((x2 * 4) + x3) < 0 → ((-2147483648 ≤ x3 + 1 ∧ x3 + 1 ≤ 2147483647)) ∧ X 89 11 [vR 3, vI x1, vI x2, vI (x3 + 1), vI (h 14 ((x2 * 5) + x3)), vI (h 9 ((x2 * 4) + x3))] [] h K) ∧ (0 ≤ h 9 ((x2 * 4) + x3) → ((4 ≤ h 9 ((x2 * 4) + x3) → ((-2147483648 ≤ x3 + 1 ∧ x3 + 1 ≤ 2147483647)) ∧ X 89 11 [vR 3, vI x1, vI x2, vI (x3 + 1), vI (h 14 ((x2 * 5) + x3)), vI (h 9 ((x2 * 4) + x3))] [] h K) ∧ (h 9 ((x2 * 4) + x3) < 4 → ((-2147483648 ≤ x3 + 1 ∧ x3 + 1 ≤ 2147483647)) ∧ C 113 [vR 1, vI x2, vI (x3 + 1), vI (h 14 ((x2 * 5) + x3))] h (kI (fun v16 h16 => C 90 [vR 3, vI (h 9 ((x2 * 4) + x3)), vI v16] h16 (kI (fun v17 h17 => ((-2147483648 ≤ x3 + 1 ∧ x3 + 1 ≤ 2147483647)) ∧ X 89 11 [vR 3, vI (b_or x1 v17), vI x2, vI (x3 + 1), vI (h 14 ((x2 * 5) + x3)), vI (h 9 ((x2 * 4) + x3))] [] h17 K))))))))))))) : X 89 11 [vR 3, vI x1, vI x2, vI x3, w4, w5] [] h K := by
  obtain ⟨c1, H⟩ := H
  refine X_b 6 17 (L := L_89) rfl rfl rfl ?_
  show (0 ≤ x2 ∧ x2 < 9) ∧ X 89 17 [vR 3, vI x1, vI x2, vI x3, w4, w5] [vI (h 8 x2), vI x3] h _
  refine ⟨c1, ?_⟩
  refine X_icmp (L := L_89) (n' := 52) rfl rfl rfl rfl (fun z2 => ?_) (fun z2 => ?_)
  · have z2 : h 8 x2 ≤ x3 := z2
    replace H := H.1 z2
    show X 89 52 [vR 3, vI x1, vI x2, vI x3, w4, w5] [] h _
    obtain ⟨c3, H⟩ := H
    refine X_b 1 53 (L := L_89) rfl rfl rfl ?_
    show (-2147483648 ≤ x2 + 1 ∧ x2 + 1 ≤ 2147483647) ∧ X 89 53 [vR 3, vI x1, vI (x2 + 1), vI x3, w4, w5] [] h _
    refine ⟨c3, ?_⟩
    refine X_goto (L := L_89) (n' := 4) rfl rfl rfl rfl ?_
    show X 89 4 [vR 3, vI x1, vI (x2 + 1), vI x3, w4, w5] [] h _
    exact H
  · have z2 : x3 < h 8 x2 := (Int.not_le.mp z2)
    replace H := H.2 z2
    show X 89 18 [vR 3, vI x1, vI x2, vI x3, w4, w5] [] h _
    obtain ⟨⟨c4, c5, c6, c7, c8⟩, H⟩ := H
    refine X_b 4 22 (L := L_89) rfl rfl rfl ?_
    show X 89 22 [vR 3, vI x1, vI x2, vI x3, w4, w5] [vI x3, vI x2, vR 14] h _
    refine X_call 27 [vI x2, vI x3] [vR 14] rfl (sg_cals rfl rfl rfl rfl rfl rfl rfl rfl rfl rfl) (by decide) ?_
    show X 27 0 [vI x2, vI x3] [] h _
    refine X_b 5 5 (L := L_27) rfl rfl rfl ?_
    show (-2147483648 ≤ x2 * 5 ∧ x2 * 5 ≤ 2147483647) ∧ (-2147483648 ≤ (x2 * 5) + x3 ∧ (x2 * 5) + x3 ≤ 2147483647) ∧ X 27 5 [vI x2, vI x3] [vI ((x2 * 5) + x3)] h _
    refine ⟨c4, c5, ?_⟩
    refine X_iret (L := L_27) rfl rfl rfl rfl ?_
    show X 89 23 [vR 3, vI x1, vI x2, vI x3, w4, w5] [vI ((x2 * 5) + x3), vR 14] h _
    refine X_b 6 29 (L := L_89) rfl rfl rfl ?_
    show (0 ≤ (x2 * 5) + x3 ∧ (x2 * 5) + x3 < 45) ∧ X 89 29 [vR 3, vI x1, vI x2, vI x3, vI (h 14 ((x2 * 5) + x3)), w5] [vI x3, vI x2, vR 1] h _
    refine ⟨c6, ?_⟩
    refine X_call 111 [vR 1, vI x2, vI x3] [] rfl (sg_calv rfl rfl rfl rfl rfl rfl rfl rfl rfl rfl rfl) (by decide) ?_
    show X 111 0 [vR 1, vI x2, vI x3] [] h _
    refine X_b 8 8 (L := L_111) rfl rfl rfl ?_
    show (-2147483648 ≤ x2 * 4 ∧ x2 * 4 ≤ 2147483647) ∧ (-2147483648 ≤ (x2 * 4) + x3 ∧ (x2 * 4) + x3 ≤ 2147483647) ∧ (0 ≤ (x2 * 4) + x3 ∧ (x2 * 4) + x3 < 36) ∧ X 111 8 [vR 1, vI x2, vI x3] [vI (h 9 ((x2 * 4) + x3))] h _
    refine ⟨c7, by have := c8; omega, c8, ?_⟩
    refine X_iret (L := L_111) rfl rfl rfl rfl ?_
    show X 89 30 [vR 3, vI x1, vI x2, vI x3, vI (h 14 ((x2 * 5) + x3)), w5] [vI (h 9 ((x2 * 4) + x3))] h _
    refine X_b 2 32 (L := L_89) rfl rfl rfl ?_
    show X 89 32 [vR 3, vI x1, vI x2, vI x3, vI (h 14 ((x2 * 5) + x3)), vI (h 9 ((x2 * 4) + x3))] [vI (h 14 ((x2 * 5) + x3))] h _
    refine X_if (L := L_89) (n' := 50) rfl rfl rfl rfl (fun z9 => ?_) (fun z9 => ?_)
    · have z9 : h 14 ((x2 * 5) + x3) = 0 := z9
      replace H := H.1 z9
      show X 89 50 [vR 3, vI x1, vI x2, vI x3, vI (h 14 ((x2 * 5) + x3)), vI (h 9 ((x2 * 4) + x3))] [] h _
      obtain ⟨c10, H⟩ := H
      refine X_b 1 51 (L := L_89) rfl rfl rfl ?_
      show (-2147483648 ≤ x3 + 1 ∧ x3 + 1 ≤ 2147483647) ∧ X 89 51 [vR 3, vI x1, vI x2, vI (x3 + 1), vI (h 14 ((x2 * 5) + x3)), vI (h 9 ((x2 * 4) + x3))] [] h _
      refine ⟨c10, ?_⟩
      refine X_goto (L := L_89) (n' := 11) rfl rfl rfl rfl ?_
      show X 89 11 [vR 3, vI x1, vI x2, vI (x3 + 1), vI (h 14 ((x2 * 5) + x3)), vI (h 9 ((x2 * 4) + x3))] [] h _
      exact H
    · have z9 : ¬ h 14 ((x2 * 5) + x3) = 0 := z9
      replace H := H.2 z9
      show X 89 33 [vR 3, vI x1, vI x2, vI x3, vI (h 14 ((x2 * 5) + x3)), vI (h 9 ((x2 * 4) + x3))] [] h _
      refine X_b 1 34 (L := L_89) rfl rfl rfl ?_
      show X 89 34 [vR 3, vI x1, vI x2, vI x3, vI (h 14 ((x2 * 5) + x3)), vI (h 9 ((x2 * 4) + x3))] [vI (h 9 ((x2 * 4) + x3))] h _
      refine X_call 23 [vI (h 9 ((x2 * 4) + x3))] [] rfl (sg_cals rfl rfl rfl rfl rfl rfl rfl rfl rfl rfl) (by decide) ?_
      show X 23 0 [vI (h 9 ((x2 * 4) + x3))] [] h _
      refine X_b 1 1 (L := L_23) rfl rfl rfl ?_
      show X 23 1 [vI (h 9 ((x2 * 4) + x3))] [vI (h 9 ((x2 * 4) + x3))] h _
      refine X_if (L := L_23) (n' := 7) rfl rfl rfl rfl (fun z11 => ?_) (fun z11 => ?_)
      · have z11 : h 9 ((x2 * 4) + x3) < 0 := z11
        replace H := H.1 z11
        show X 23 7 [vI (h 9 ((x2 * 4) + x3))] [] h _
        obtain ⟨c12, H⟩ := H
        refine X_b 1 8 (L := L_23) rfl rfl rfl ?_
        show X 23 8 [vI (h 9 ((x2 * 4) + x3))] [vI 0] h _
        refine X_zret (L := L_23) rfl rfl rfl rfl (by decide) ?_
        show X 89 35 [vR 3, vI x1, vI x2, vI x3, vI (h 14 ((x2 * 5) + x3)), vI (h 9 ((x2 * 4) + x3))] [vI 0] h _
        refine X_if (L := L_89) (n' := 50) rfl rfl rfl rfl (fun _ => ?_) (fun z => absurd (show (0 : Int) = (0 : Int) by decide) z)
        show X 89 50 [vR 3, vI x1, vI x2, vI x3, vI (h 14 ((x2 * 5) + x3)), vI (h 9 ((x2 * 4) + x3))] [] h _
        refine X_b 1 51 (L := L_89) rfl rfl rfl ?_
        show (-2147483648 ≤ x3 + 1 ∧ x3 + 1 ≤ 2147483647) ∧ X 89 51 [vR 3, vI x1, vI x2, vI (x3 + 1), vI (h 14 ((x2 * 5) + x3)), vI (h 9 ((x2 * 4) + x3))] [] h _
        refine ⟨c12, ?_⟩
        refine X_goto (L := L_89) (n' := 11) rfl rfl rfl rfl ?_
        show X 89 11 [vR 3, vI x1, vI x2, vI (x3 + 1), vI (h 14 ((x2 * 5) + x3)), vI (h 9 ((x2 * 4) + x3))] [] h _
        exact H
      · have z11 : 0 ≤ h 9 ((x2 * 4) + x3) := (Int.not_lt.mp z11)
        replace H := H.2 z11
        show X 23 2 [vI (h 9 ((x2 * 4) + x3))] [] h _
        refine X_b 2 4 (L := L_23) rfl rfl rfl ?_
        show X 23 4 [vI (h 9 ((x2 * 4) + x3))] [vI 4, vI (h 9 ((x2 * 4) + x3))] h _
        refine X_icmp (L := L_23) (n' := 7) rfl rfl rfl rfl (fun z13 => ?_) (fun z13 => ?_)
        · have z13 : 4 ≤ h 9 ((x2 * 4) + x3) := z13
          replace H := H.1 z13
          show X 23 7 [vI (h 9 ((x2 * 4) + x3))] [] h _
          obtain ⟨c14, H⟩ := H
          refine X_b 1 8 (L := L_23) rfl rfl rfl ?_
          show X 23 8 [vI (h 9 ((x2 * 4) + x3))] [vI 0] h _
          refine X_zret (L := L_23) rfl rfl rfl rfl (by decide) ?_
          show X 89 35 [vR 3, vI x1, vI x2, vI x3, vI (h 14 ((x2 * 5) + x3)), vI (h 9 ((x2 * 4) + x3))] [vI 0] h _
          refine X_if (L := L_89) (n' := 50) rfl rfl rfl rfl (fun _ => ?_) (fun z => absurd (show (0 : Int) = (0 : Int) by decide) z)
          show X 89 50 [vR 3, vI x1, vI x2, vI x3, vI (h 14 ((x2 * 5) + x3)), vI (h 9 ((x2 * 4) + x3))] [] h _
          refine X_b 1 51 (L := L_89) rfl rfl rfl ?_
          show (-2147483648 ≤ x3 + 1 ∧ x3 + 1 ≤ 2147483647) ∧ X 89 51 [vR 3, vI x1, vI x2, vI (x3 + 1), vI (h 14 ((x2 * 5) + x3)), vI (h 9 ((x2 * 4) + x3))] [] h _
          refine ⟨c14, ?_⟩
          refine X_goto (L := L_89) (n' := 11) rfl rfl rfl rfl ?_
          show X 89 11 [vR 3, vI x1, vI x2, vI (x3 + 1), vI (h 14 ((x2 * 5) + x3)), vI (h 9 ((x2 * 4) + x3))] [] h _
          exact H
        · have z13 : h 9 ((x2 * 4) + x3) < 4 := (Int.not_le.mp z13)
          replace H := H.2 z13
          show X 23 5 [vI (h 9 ((x2 * 4) + x3))] [] h _
          obtain ⟨c15, H⟩ := H
          refine X_b 1 6 (L := L_23) rfl rfl rfl ?_
          show X 23 6 [vI (h 9 ((x2 * 4) + x3))] [vI 1] h _
          refine X_goto (L := L_23) (n' := 8) rfl rfl rfl rfl ?_
          show X 23 8 [vI (h 9 ((x2 * 4) + x3))] [vI 1] h _
          refine X_zret (L := L_23) rfl rfl rfl rfl (by decide) ?_
          show X 89 35 [vR 3, vI x1, vI x2, vI x3, vI (h 14 ((x2 * 5) + x3)), vI (h 9 ((x2 * 4) + x3))] [vI 1] h _
          refine X_if (L := L_89) (n' := 50) rfl rfl rfl rfl (fun z => absurd z (show ¬ ((1 : Int) = (0 : Int)) by decide)) (fun _ => ?_)
          show X 89 36 [vR 3, vI x1, vI x2, vI x3, vI (h 14 ((x2 * 5) + x3)), vI (h 9 ((x2 * 4) + x3))] [] h _
          refine X_b 10 46 (L := L_89) rfl rfl rfl ?_
          show (-2147483648 ≤ x3 + 1 ∧ x3 + 1 ≤ 2147483647) ∧ X 89 46 [vR 3, vI x1, vI x2, vI x3, vI (h 14 ((x2 * 5) + x3)), vI (h 9 ((x2 * 4) + x3))] [vI (h 14 ((x2 * 5) + x3)), vI (x3 + 1), vI x2, vR 1, vI (h 9 ((x2 * 4) + x3)), vR 3, vI x1] h _
          refine ⟨c15, ?_⟩
          refine X_call 113 [vR 1, vI x2, vI (x3 + 1), vI (h 14 ((x2 * 5) + x3))] [vI (h 9 ((x2 * 4) + x3)), vR 3, vI x1] rfl (sg_calv rfl rfl rfl rfl rfl rfl rfl rfl rfl rfl rfl) (by decide) ?_
          refine C_mono H (kI_to ?_)
          intro v16 h16 H
          show X 89 47 [vR 3, vI x1, vI x2, vI x3, vI (h 14 ((x2 * 5) + x3)), vI (h 9 ((x2 * 4) + x3))] [vI v16, vI (h 9 ((x2 * 4) + x3)), vR 3, vI x1] h16 _
          refine X_call 90 [vR 3, vI (h 9 ((x2 * 4) + x3)), vI v16] [vI x1] rfl (sg_calv rfl rfl rfl rfl rfl rfl rfl rfl rfl rfl rfl) (by decide) ?_
          refine C_mono H (kI_to ?_)
          intro v17 h17 H
          show X 89 48 [vR 3, vI x1, vI x2, vI x3, vI (h 14 ((x2 * 5) + x3)), vI (h 9 ((x2 * 4) + x3))] [vI v17, vI x1] h17 _
          obtain ⟨c18, H⟩ := H
          refine X_b 3 51 (L := L_89) rfl rfl rfl ?_
          show (-2147483648 ≤ x3 + 1 ∧ x3 + 1 ≤ 2147483647) ∧ X 89 51 [vR 3, vI (b_or x1 v17), vI x2, vI (x3 + 1), vI (h 14 ((x2 * 5) + x3)), vI (h 9 ((x2 * 4) + x3))] [] h17 _
          refine ⟨c18, ?_⟩
          refine X_goto (L := L_89) (n' := 11) rfl rfl rfl rfl ?_
          show X 89 11 [vR 3, vI (b_or x1 v17), vI x2, vI (x3 + 1), vI (h 14 ((x2 * 5) + x3)), vI (h 9 ((x2 * 4) + x3))] [] h17 _
          exact H

/-- Builder.addRulesOf, row 0 -/
theorem s_90_0 (x1 x2 : Int) (h : ab_S) (K : ab_O → ab_S → Prop) (H : X 90 4 [vR 3, vI x1, vI x2, vI 0, vI 0, vJ 0] [] h K) : C 90 [vR 3, vI x1, vI x2] h K := by
  show X 90 0 [vR 3, vI x1, vI x2, vJ 0, vJ 0, vJ 0] [] h K
  refine X_b 4 4 (L := L_90) rfl rfl rfl ?_
  show X 90 4 [vR 3, vI x1, vI x2, vI 0, vI 0, vJ 0] [] h _
  exact H

/-- Builder.addRulesOf, row 4 -/
theorem s_90_4 (x1 x2 x3 x4 : Int) (w5 : ab_V) (h : ab_S) (K : ab_O → ab_S → Prop) (H : ((h 1 0 ≤ x4 → ((x3 = 0 ∨ x3 = 1)) ∧ K (oI x3) h) ∧ (x4 < h 1 0 → ((-2147483648 ≤ x4 * 5 ∧ x4 * 5 ≤ 2147483647) ∧ (-2147483648 ≤ (x4 * 5) + 0 ∧ (x4 * 5) + 0 ≤ 2147483647) ∧ (0 ≤ x4 ∧ x4 < 8)) ∧ ((¬ h 7 x4 = x1 → ((-2147483648 ≤ x4 + 1 ∧ x4 + 1 ≤ 2147483647)) ∧ X 90 4 [vR 3, vI x1, vI x2, vI x3, vI (x4 + 1), vI ((x4 * 5) + 0)] [] h K) ∧ (h 7 x4 = x1 → ((0 ≤ (x4 * 5) + 0 ∧ (x4 * 5) + 0 < 45)) ∧ ((b_and x2 (b_xor (h 14 ((x4 * 5) + 0)) (-1)) = 0 → ((-2147483648 ≤ x4 + 1 ∧ x4 + 1 ≤ 2147483647)) ∧ X 90 4 [vR 3, vI x1, vI x2, vI x3, vI (x4 + 1), vI ((x4 * 5) + 0)] [] h K) ∧ (¬ b_and x2 (b_xor (h 14 ((x4 * 5) + 0)) (-1)) = 0 → ((-2147483648 ≤ x4 + 1 ∧ x4 + 1 ≤ 2147483647)) ∧ X 90 4 [vR 3, vI x1, vI x2, vI 1, vI (x4 + 1), vI ((x4 * 5) + 0)] [] (ab_up h 14 ((x4 * 5) + 0) (b_or (h 14 ((x4 * 5) + 0)) x2)) K))))))) : X 90 4 [vR 3, vI x1, vI x2, vI x3, vI x4, w5] [] h K := by
  refine X_b 4 8 (L := L_90) rfl rfl rfl ?_
  show X 90 8 [vR 3, vI x1, vI x2, vI x3, vI x4, w5] [vI (h 1 0), vI x4] h _
  refine X_icmp (L := L_90) (n' := 41) rfl rfl rfl rfl (fun z1 => ?_) (fun z1 => ?_)
  · have z1 : h 1 0 ≤ x4 := z1
    replace H := H.1 z1
    show X 90 41 [vR 3, vI x1, vI x2, vI x3, vI x4, w5] [] h _
    obtain ⟨c2, H⟩ := H
    refine X_b 1 42 (L := L_90) rfl rfl rfl ?_
    show X 90 42 [vR 3, vI x1, vI x2, vI x3, vI x4, w5] [vI x3] h _
    refine X_zret (L := L_90) rfl rfl rfl rfl c2 ?_
    exact H
  · have z1 : x4 < h 1 0 := (Int.not_le.mp z1)
    replace H := H.2 z1
    show X 90 9 [vR 3, vI x1, vI x2, vI x3, vI x4, w5] [] h _
    obtain ⟨⟨c3, c4, c5⟩, H⟩ := H
    refine X_b 2 11 (L := L_90) rfl rfl rfl ?_
    show X 90 11 [vR 3, vI x1, vI x2, vI x3, vI x4, w5] [vI 0, vI x4] h _
    refine X_call 27 [vI x4, vI 0] [] rfl (sg_cals rfl rfl rfl rfl rfl rfl rfl rfl rfl rfl) (by decide) ?_
    show X 27 0 [vI x4, vI 0] [] h _
    refine X_b 5 5 (L := L_27) rfl rfl rfl ?_
    show (-2147483648 ≤ x4 * 5 ∧ x4 * 5 ≤ 2147483647) ∧ (-2147483648 ≤ (x4 * 5) + 0 ∧ (x4 * 5) + 0 ≤ 2147483647) ∧ X 27 5 [vI x4, vI 0] [vI ((x4 * 5) + 0)] h _
    refine ⟨c3, c4, ?_⟩
    refine X_iret (L := L_27) rfl rfl rfl rfl ?_
    show X 90 12 [vR 3, vI x1, vI x2, vI x3, vI x4, w5] [vI ((x4 * 5) + 0)] h _
    refine X_b 7 19 (L := L_90) rfl rfl rfl ?_
    show (0 ≤ x4 ∧ x4 < 8) ∧ X 90 19 [vR 3, vI x1, vI x2, vI x3, vI x4, vI ((x4 * 5) + 0)] [vI x1, vI (h 7 x4)] h _
    refine ⟨c5, ?_⟩
    refine X_icmp (L := L_90) (n' := 39) rfl rfl rfl rfl (fun z6 => ?_) (fun z6 => ?_)
    · have z6 : ¬ h 7 x4 = x1 := z6
      replace H := H.1 z6
      show X 90 39 [vR 3, vI x1, vI x2, vI x3, vI x4, vI ((x4 * 5) + 0)] [] h _
      obtain ⟨c7, H⟩ := H
      refine X_b 1 40 (L := L_90) rfl rfl rfl ?_
      show (-2147483648 ≤ x4 + 1 ∧ x4 + 1 ≤ 2147483647) ∧ X 90 40 [vR 3, vI x1, vI x2, vI x3, vI (x4 + 1), vI ((x4 * 5) + 0)] [] h _
      refine ⟨c7, ?_⟩
      refine X_goto (L := L_90) (n' := 4) rfl rfl rfl rfl ?_
      show X 90 4 [vR 3, vI x1, vI x2, vI x3, vI (x4 + 1), vI ((x4 * 5) + 0)] [] h _
      exact H
    · have z6 : h 7 x4 = x1 := (Classical.not_not.mp z6)
      replace H := H.2 z6
      show X 90 20 [vR 3, vI x1, vI x2, vI x3, vI x4, vI ((x4 * 5) + 0)] [] h _
      obtain ⟨c8, H⟩ := H
      refine X_b 8 28 (L := L_90) rfl rfl rfl ?_
      show (0 ≤ (x4 * 5) + 0 ∧ (x4 * 5) + 0 < 45) ∧ X 90 28 [vR 3, vI x1, vI x2, vI x3, vI x4, vI ((x4 * 5) + 0)] [vI (b_and x2 (b_xor (h 14 ((x4 * 5) + 0)) (-1)))] h _
      refine ⟨c8, ?_⟩
      refine X_if (L := L_90) (n' := 39) rfl rfl rfl rfl (fun z9 => ?_) (fun z9 => ?_)
      · have z9 : b_and x2 (b_xor (h 14 ((x4 * 5) + 0)) (-1)) = 0 := z9
        replace H := H.1 z9
        show X 90 39 [vR 3, vI x1, vI x2, vI x3, vI x4, vI ((x4 * 5) + 0)] [] h _
        obtain ⟨c10, H⟩ := H
        refine X_b 1 40 (L := L_90) rfl rfl rfl ?_
        show (-2147483648 ≤ x4 + 1 ∧ x4 + 1 ≤ 2147483647) ∧ X 90 40 [vR 3, vI x1, vI x2, vI x3, vI (x4 + 1), vI ((x4 * 5) + 0)] [] h _
        refine ⟨c10, ?_⟩
        refine X_goto (L := L_90) (n' := 4) rfl rfl rfl rfl ?_
        show X 90 4 [vR 3, vI x1, vI x2, vI x3, vI (x4 + 1), vI ((x4 * 5) + 0)] [] h _
        exact H
      · have z9 : ¬ b_and x2 (b_xor (h 14 ((x4 * 5) + 0)) (-1)) = 0 := z9
        replace H := H.2 z9
        show X 90 29 [vR 3, vI x1, vI x2, vI x3, vI x4, vI ((x4 * 5) + 0)] [] h _
        obtain ⟨c11, H⟩ := H
        refine X_b 11 40 (L := L_90) rfl rfl rfl ?_
        show (0 ≤ (x4 * 5) + 0 ∧ (x4 * 5) + 0 < 45) ∧ (0 ≤ (x4 * 5) + 0 ∧ (x4 * 5) + 0 < 45) ∧ (-2147483648 ≤ x4 + 1 ∧ x4 + 1 ≤ 2147483647) ∧ X 90 40 [vR 3, vI x1, vI x2, vI 1, vI (x4 + 1), vI ((x4 * 5) + 0)] [] (ab_up h 14 ((x4 * 5) + 0) (b_or (h 14 ((x4 * 5) + 0)) x2)) _
        refine ⟨c8, c8, c11, ?_⟩
        refine X_goto (L := L_90) (n' := 4) rfl rfl rfl rfl ?_
        show X 90 4 [vR 3, vI x1, vI x2, vI 1, vI (x4 + 1), vI ((x4 * 5) + 0)] [] (ab_up h 14 ((x4 * 5) + 0) (b_or (h 14 ((x4 * 5) + 0)) x2)) _
        exact H

/-- Builder.makeEnds, row 0 -/
theorem s_91_0 (x1 : Int) (h : ab_S) (K : ab_O → ab_S → Prop) (H : X 91 2 [vR 3, vI x1, vI 0, vJ 0, vJ 0] [] h K) : C 91 [vR 3, vI x1] h K := by
  show X 91 0 [vR 3, vI x1, vJ 0, vJ 0, vJ 0] [] h K
  refine X_b 2 2 (L := L_91) rfl rfl rfl ?_
  show X 91 2 [vR 3, vI x1, vI 0, vJ 0, vJ 0] [] h _
  exact H

/-- Builder.makeEnds, row 2 -/
theorem s_91_2 (x1 x2 : Int) (w3 w4 : ab_V) (h : ab_S) (K : ab_O → ab_S → Prop) (H : ((h 1 0 < x2 → K (oI 1) h) ∧ (x2 ≤ h 1 0 → ((0 ≤ x2 ∧ x2 < 9) ∧ (-2147483648 ≤ x1 * 45 ∧ x1 * 45 ≤ 2147483647) ∧ (-2147483648 ≤ x2 * 5 ∧ x2 * 5 ≤ 2147483647) ∧ (-2147483648 ≤ (x2 * 5) + (h 8 x2) ∧ (x2 * 5) + (h 8 x2) ≤ 2147483647) ∧ (0 ≤ (x1 * 45) + ((x2 * 5) + (h 8 x2)) ∧ (x1 * 45) + ((x2 * 5) + (h 8 x2)) < 2250)) ∧ X 91 20 [vR 3, vI x1, vI x2, vI (h 13 ((x1 * 45) + ((x2 * 5) + (h 8 x2)))), vI 4] [] h K))) : X 91 2 [vR 3, vI x1, vI x2, w3, w4] [] h K := by
  refine X_b 3 5 (L := L_91) rfl rfl rfl ?_
  show X 91 5 [vR 3, vI x1, vI x2, w3, w4] [vR 1, vI x2] h _
  refine X_call 109 [vR 1] [vI x2] rfl (sg_calv rfl rfl rfl rfl rfl rfl rfl rfl rfl rfl rfl) (by decide) ?_
  show X 109 0 [vR 1] [] h _
  refine X_b 2 2 (L := L_109) rfl rfl rfl ?_
  show X 109 2 [vR 1] [vI (h 1 0)] h _
  refine X_iret (L := L_109) rfl rfl rfl rfl ?_
  show X 91 6 [vR 3, vI x1, vI x2, w3, w4] [vI (h 1 0), vI x2] h _
  refine X_icmp (L := L_91) (n' := 56) rfl rfl rfl rfl (fun z1 => ?_) (fun z1 => ?_)
  · have z1 : h 1 0 < x2 := z1
    replace H := H.1 z1
    show X 91 56 [vR 3, vI x1, vI x2, w3, w4] [] h _
    refine X_b 1 57 (L := L_91) rfl rfl rfl ?_
    show X 91 57 [vR 3, vI x1, vI x2, w3, w4] [vI 1] h _
    refine X_zret (L := L_91) rfl rfl rfl rfl (by decide) ?_
    exact H
  · have z1 : x2 ≤ h 1 0 := (Int.not_lt.mp z1)
    replace H := H.2 z1
    show X 91 7 [vR 3, vI x1, vI x2, w3, w4] [] h _
    obtain ⟨⟨c2, c3, c4, c5, c6⟩, H⟩ := H
    refine X_b 9 16 (L := L_91) rfl rfl rfl ?_
    show (0 ≤ x2 ∧ x2 < 9) ∧ X 91 16 [vR 3, vI x1, vI x2, w3, w4] [vI (h 8 x2), vI x2, vI x1, vR 2] h _
    refine ⟨c2, ?_⟩
    refine X_call 80 [vR 2, vI x1, vI x2, vI (h 8 x2)] [] rfl (sg_calv rfl rfl rfl rfl rfl rfl rfl rfl rfl rfl rfl) (by decide) ?_
    show X 80 0 [vR 2, vI x1, vI x2, vI (h 8 x2)] [] h _
    refine X_b 7 7 (L := L_80) rfl rfl rfl ?_
    show (-2147483648 ≤ x1 * 45 ∧ x1 * 45 ≤ 2147483647) ∧ X 80 7 [vR 2, vI x1, vI x2, vI (h 8 x2)] [vI (h 8 x2), vI x2, vI (x1 * 45), vR 13] h _
    refine ⟨c3, ?_⟩
    refine X_call 27 [vI x2, vI (h 8 x2)] [vI (x1 * 45), vR 13] rfl (sg_cals rfl rfl rfl rfl rfl rfl rfl rfl rfl rfl) (by decide) ?_
    show X 27 0 [vI x2, vI (h 8 x2)] [] h _
    refine X_b 5 5 (L := L_27) rfl rfl rfl ?_
    show (-2147483648 ≤ x2 * 5 ∧ x2 * 5 ≤ 2147483647) ∧ (-2147483648 ≤ (x2 * 5) + (h 8 x2) ∧ (x2 * 5) + (h 8 x2) ≤ 2147483647) ∧ X 27 5 [vI x2, vI (h 8 x2)] [vI ((x2 * 5) + (h 8 x2))] h _
    refine ⟨c4, c5, ?_⟩
    refine X_iret (L := L_27) rfl rfl rfl rfl ?_
    show X 80 8 [vR 2, vI x1, vI x2, vI (h 8 x2)] [vI ((x2 * 5) + (h 8 x2)), vI (x1 * 45), vR 13] h _
    refine X_b 2 10 (L := L_80) rfl rfl rfl ?_
    show (-2147483648 ≤ (x1 * 45) + ((x2 * 5) + (h 8 x2)) ∧ (x1 * 45) + ((x2 * 5) + (h 8 x2)) ≤ 2147483647) ∧ (0 ≤ (x1 * 45) + ((x2 * 5) + (h 8 x2)) ∧ (x1 * 45) + ((x2 * 5) + (h 8 x2)) < 2250) ∧ X 80 10 [vR 2, vI x1, vI x2, vI (h 8 x2)] [vI (h 13 ((x1 * 45) + ((x2 * 5) + (h 8 x2))))] h _
    refine ⟨by have := c6; omega, c6, ?_⟩
    refine X_iret (L := L_80) rfl rfl rfl rfl ?_
    show X 91 17 [vR 3, vI x1, vI x2, w3, w4] [vI (h 13 ((x1 * 45) + ((x2 * 5) + (h 8 x2))))] h _
    refine X_b 3 20 (L := L_91) rfl rfl rfl ?_
    show X 91 20 [vR 3, vI x1, vI x2, vI (h 13 ((x1 * 45) + ((x2 * 5) + (h 8 x2)))), vI 4] [] h _
    exact H

/-- Builder.makeEnds, row 20 -/
theorem s_91_20 (x1 x2 x3 x4 : Int) (h : ab_S) (K : ab_O → ab_S → Prop) (H : ((9 < x4 → ((-2147483648 ≤ x2 + 1 ∧ x2 + 1 ≤ 2147483647)) ∧ X 91 2 [vR 3, vI x1, vI (x2 + 1), vI x3, vI x4] [] h K) ∧ (x4 ≤ 9 → ((-2147483648 ≤ x4 - 4 ∧ x4 - 4 ≤ 2147483647)) ∧ ((b_and x3 (b_shl 1 (x4 - 4)) = 0 → ((-2147483648 ≤ x4 + 1 ∧ x4 + 1 ≤ 2147483647)) ∧ X 91 20 [vR 3, vI x1, vI x2, vI x3, vI (x4 + 1)] [] h K) ∧ (¬ b_and x3 (b_shl 1 (x4 - 4)) = 0 → ((-2147483648 ≤ x1 * 10 ∧ x1 * 10 ≤ 2147483647) ∧ (0 ≤ (x1 * 10) + x4 ∧ (x1 * 10) + x4 < 500)) ∧ ((h 12 ((x1 * 10) + x4) = (-1) → ((¬ h 1 0 = x2 → ((-2147483648 ≤ 100 + x2 ∧ 100 + x2 ≤ 2147483647) ∧ (-2147483648 ≤ x4 + 1 ∧ x4 + 1 ≤ 2147483647)) ∧ X 91 20 [vR 3, vI x1, vI x2, vI x3, vI (x4 + 1)] [] (ab_up h 12 ((x1 * 10) + x4) (100 + x2)) K) ∧ (h 1 0 = x2 → ((-2147483648 ≤ x4 + 1 ∧ x4 + 1 ≤ 2147483647)) ∧ X 91 20 [vR 3, vI x1, vI x2, vI x3, vI (x4 + 1)] [] (ab_up h 12 ((x1 * 10) + x4) 200) K))) ∧ (¬ h 12 ((x1 * 10) + x4) = (-1) → K (oI 0) h))))))) : X 91 20 [vR 3, vI x1, vI x2, vI x3, vI x4] [] h K := by
  refine X_b 2 22 (L := L_91) rfl rfl rfl ?_
  show X 91 22 [vR 3, vI x1, vI x2, vI x3, vI x4] [vI 9, vI x4] h _
  refine X_icmp (L := L_91) (n' := 54) rfl rfl rfl rfl (fun z1 => ?_) (fun z1 => ?_)
  · have z1 : 9 < x4 := z1
    replace H := H.1 z1
    show X 91 54 [vR 3, vI x1, vI x2, vI x3, vI x4] [] h _
    obtain ⟨c2, H⟩ := H
    refine X_b 1 55 (L := L_91) rfl rfl rfl ?_
    show (-2147483648 ≤ x2 + 1 ∧ x2 + 1 ≤ 2147483647) ∧ X 91 55 [vR 3, vI x1, vI (x2 + 1), vI x3, vI x4] [] h _
    refine ⟨c2, ?_⟩
    refine X_goto (L := L_91) (n' := 2) rfl rfl rfl rfl ?_
    show X 91 2 [vR 3, vI x1, vI (x2 + 1), vI x3, vI x4] [] h _
    exact H
  · have z1 : x4 ≤ 9 := (Int.not_lt.mp z1)
    replace H := H.2 z1
    show X 91 23 [vR 3, vI x1, vI x2, vI x3, vI x4] [] h _
    obtain ⟨c3, H⟩ := H
    refine X_b 2 25 (L := L_91) rfl rfl rfl ?_
    show X 91 25 [vR 3, vI x1, vI x2, vI x3, vI x4] [vI x4, vI x3] h _
    refine X_call 26 [vI x4] [vI x3] rfl (sg_cals rfl rfl rfl rfl rfl rfl rfl rfl rfl rfl) (by decide) ?_
    show X 26 0 [vI x4] [] h _
    refine X_b 5 5 (L := L_26) rfl rfl rfl ?_
    show (-2147483648 ≤ x4 - 4 ∧ x4 - 4 ≤ 2147483647) ∧ X 26 5 [vI x4] [vI (b_shl 1 (x4 - 4))] h _
    refine ⟨c3, ?_⟩
    refine X_iret (L := L_26) rfl rfl rfl rfl ?_
    show X 91 26 [vR 3, vI x1, vI x2, vI x3, vI x4] [vI (b_shl 1 (x4 - 4)), vI x3] h _
    refine X_b 1 27 (L := L_91) rfl rfl rfl ?_
    show X 91 27 [vR 3, vI x1, vI x2, vI x3, vI x4] [vI (b_and x3 (b_shl 1 (x4 - 4)))] h _
    refine X_if (L := L_91) (n' := 52) rfl rfl rfl rfl (fun z4 => ?_) (fun z4 => ?_)
    · have z4 : b_and x3 (b_shl 1 (x4 - 4)) = 0 := z4
      replace H := H.1 z4
      show X 91 52 [vR 3, vI x1, vI x2, vI x3, vI x4] [] h _
      obtain ⟨c5, H⟩ := H
      refine X_b 1 53 (L := L_91) rfl rfl rfl ?_
      show (-2147483648 ≤ x4 + 1 ∧ x4 + 1 ≤ 2147483647) ∧ X 91 53 [vR 3, vI x1, vI x2, vI x3, vI (x4 + 1)] [] h _
      refine ⟨c5, ?_⟩
      refine X_goto (L := L_91) (n' := 20) rfl rfl rfl rfl ?_
      show X 91 20 [vR 3, vI x1, vI x2, vI x3, vI (x4 + 1)] [] h _
      exact H
    · have z4 : ¬ b_and x3 (b_shl 1 (x4 - 4)) = 0 := z4
      replace H := H.2 z4
      show X 91 28 [vR 3, vI x1, vI x2, vI x3, vI x4] [] h _
      obtain ⟨⟨c6, c7⟩, H⟩ := H
      refine X_b 4 32 (L := L_91) rfl rfl rfl ?_
      show X 91 32 [vR 3, vI x1, vI x2, vI x3, vI x4] [vI x4, vI x1, vR 2] h _
      refine X_call 78 [vR 2, vI x1, vI x4] [] rfl (sg_calv rfl rfl rfl rfl rfl rfl rfl rfl rfl rfl rfl) (by decide) ?_
      show X 78 0 [vR 2, vI x1, vI x4] [] h _
      refine X_b 8 8 (L := L_78) rfl rfl rfl ?_
      show (-2147483648 ≤ x1 * 10 ∧ x1 * 10 ≤ 2147483647) ∧ (-2147483648 ≤ (x1 * 10) + x4 ∧ (x1 * 10) + x4 ≤ 2147483647) ∧ (0 ≤ (x1 * 10) + x4 ∧ (x1 * 10) + x4 < 500) ∧ X 78 8 [vR 2, vI x1, vI x4] [vI (h 12 ((x1 * 10) + x4))] h _
      refine ⟨c6, by have := c7; omega, c7, ?_⟩
      refine X_iret (L := L_78) rfl rfl rfl rfl ?_
      show X 91 33 [vR 3, vI x1, vI x2, vI x3, vI x4] [vI (h 12 ((x1 * 10) + x4))] h _
      refine X_b 1 34 (L := L_91) rfl rfl rfl ?_
      show X 91 34 [vR 3, vI x1, vI x2, vI x3, vI x4] [vI (-1), vI (h 12 ((x1 * 10) + x4))] h _
      refine X_icmp (L := L_91) (n' := 37) rfl rfl rfl rfl (fun z8 => ?_) (fun z8 => ?_)
      · have z8 : h 12 ((x1 * 10) + x4) = (-1) := z8
        replace H := H.1 z8
        show X 91 37 [vR 3, vI x1, vI x2, vI x3, vI x4] [] h _
        refine X_b 6 43 (L := L_91) rfl rfl rfl ?_
        show X 91 43 [vR 3, vI x1, vI x2, vI x3, vI x4] [vR 1, vI x4, vI x1, vR 2] h _
        refine X_call 109 [vR 1] [vI x4, vI x1, vR 2] rfl (sg_calv rfl rfl rfl rfl rfl rfl rfl rfl rfl rfl rfl) (by decide) ?_
        show X 109 0 [vR 1] [] h _
        refine X_b 2 2 (L := L_109) rfl rfl rfl ?_
        show X 109 2 [vR 1] [vI (h 1 0)] h _
        refine X_iret (L := L_109) rfl rfl rfl rfl ?_
        show X 91 44 [vR 3, vI x1, vI x2, vI x3, vI x4] [vI (h 1 0), vI x4, vI x1, vR 2] h _
        refine X_b 1 45 (L := L_91) rfl rfl rfl ?_
        show X 91 45 [vR 3, vI x1, vI x2, vI x3, vI x4] [vI x2, vI (h 1 0), vI x4, vI x1, vR 2] h _
        refine X_icmp (L := L_91) (n' := 48) rfl rfl rfl rfl (fun z9 => ?_) (fun z9 => ?_)
        · have z9 : ¬ h 1 0 = x2 := z9
          replace H := H.1 z9
          show X 91 48 [vR 3, vI x1, vI x2, vI x3, vI x4] [vI x4, vI x1, vR 2] h _
          obtain ⟨⟨c10, c11⟩, H⟩ := H
          refine X_b 3 51 (L := L_91) rfl rfl rfl ?_
          show (-2147483648 ≤ 100 + x2 ∧ 100 + x2 ≤ 2147483647) ∧ X 91 51 [vR 3, vI x1, vI x2, vI x3, vI x4] [vI (100 + x2), vI x4, vI x1, vR 2] h _
          refine ⟨c10, ?_⟩
          refine X_call 79 [vR 2, vI x1, vI x4, vI (100 + x2)] [] rfl (sg_calv rfl rfl rfl rfl rfl rfl rfl rfl rfl rfl rfl) (by decide) ?_
          show X 79 0 [vR 2, vI x1, vI x4, vI (100 + x2)] [] h _
          refine X_b 9 9 (L := L_79) rfl rfl rfl ?_
          show (-2147483648 ≤ x1 * 10 ∧ x1 * 10 ≤ 2147483647) ∧ (-2147483648 ≤ (x1 * 10) + x4 ∧ (x1 * 10) + x4 ≤ 2147483647) ∧ (0 ≤ (x1 * 10) + x4 ∧ (x1 * 10) + x4 < 500) ∧ X 79 9 [vR 2, vI x1, vI x4, vI (100 + x2)] [] (ab_up h 12 ((x1 * 10) + x4) (100 + x2)) _
          refine ⟨c6, by have := c7; omega, c7, ?_⟩
          refine X_ret (L := L_79) rfl rfl rfl rfl ?_
          show X 91 52 [vR 3, vI x1, vI x2, vI x3, vI x4] [] (ab_up h 12 ((x1 * 10) + x4) (100 + x2)) _
          refine X_b 1 53 (L := L_91) rfl rfl rfl ?_
          show (-2147483648 ≤ x4 + 1 ∧ x4 + 1 ≤ 2147483647) ∧ X 91 53 [vR 3, vI x1, vI x2, vI x3, vI (x4 + 1)] [] (ab_up h 12 ((x1 * 10) + x4) (100 + x2)) _
          refine ⟨c11, ?_⟩
          refine X_goto (L := L_91) (n' := 20) rfl rfl rfl rfl ?_
          show X 91 20 [vR 3, vI x1, vI x2, vI x3, vI (x4 + 1)] [] (ab_up h 12 ((x1 * 10) + x4) (100 + x2)) _
          exact H
        · have z9 : h 1 0 = x2 := (Classical.not_not.mp z9)
          replace H := H.2 z9
          show X 91 46 [vR 3, vI x1, vI x2, vI x3, vI x4] [vI x4, vI x1, vR 2] h _
          obtain ⟨c12, H⟩ := H
          refine X_b 1 47 (L := L_91) rfl rfl rfl ?_
          show X 91 47 [vR 3, vI x1, vI x2, vI x3, vI x4] [vI 200, vI x4, vI x1, vR 2] h _
          refine X_goto (L := L_91) (n' := 51) rfl rfl rfl rfl ?_
          show X 91 51 [vR 3, vI x1, vI x2, vI x3, vI x4] [vI 200, vI x4, vI x1, vR 2] h _
          refine X_call 79 [vR 2, vI x1, vI x4, vI 200] [] rfl (sg_calv rfl rfl rfl rfl rfl rfl rfl rfl rfl rfl rfl) (by decide) ?_
          show X 79 0 [vR 2, vI x1, vI x4, vI 200] [] h _
          refine X_b 9 9 (L := L_79) rfl rfl rfl ?_
          show (-2147483648 ≤ x1 * 10 ∧ x1 * 10 ≤ 2147483647) ∧ (-2147483648 ≤ (x1 * 10) + x4 ∧ (x1 * 10) + x4 ≤ 2147483647) ∧ (0 ≤ (x1 * 10) + x4 ∧ (x1 * 10) + x4 < 500) ∧ X 79 9 [vR 2, vI x1, vI x4, vI 200] [] (ab_up h 12 ((x1 * 10) + x4) 200) _
          refine ⟨c6, by have := c7; omega, c7, ?_⟩
          refine X_ret (L := L_79) rfl rfl rfl rfl ?_
          show X 91 52 [vR 3, vI x1, vI x2, vI x3, vI x4] [] (ab_up h 12 ((x1 * 10) + x4) 200) _
          refine X_b 1 53 (L := L_91) rfl rfl rfl ?_
          show (-2147483648 ≤ x4 + 1 ∧ x4 + 1 ≤ 2147483647) ∧ X 91 53 [vR 3, vI x1, vI x2, vI x3, vI (x4 + 1)] [] (ab_up h 12 ((x1 * 10) + x4) 200) _
          refine ⟨c12, ?_⟩
          refine X_goto (L := L_91) (n' := 20) rfl rfl rfl rfl ?_
          show X 91 20 [vR 3, vI x1, vI x2, vI x3, vI (x4 + 1)] [] (ab_up h 12 ((x1 * 10) + x4) 200) _
          exact H
      · have z8 : ¬ h 12 ((x1 * 10) + x4) = (-1) := z8
        replace H := H.2 z8
        show X 91 35 [vR 3, vI x1, vI x2, vI x3, vI x4] [] h _
        refine X_b 1 36 (L := L_91) rfl rfl rfl ?_
        show X 91 36 [vR 3, vI x1, vI x2, vI x3, vI x4] [vI 0] h _
        refine X_zret (L := L_91) rfl rfl rfl rfl (by decide) ?_
        exact H

/-- Checker.forget, row 0 -/
theorem s_92_0 (h : ab_S) (K : ab_O → ab_S → Prop) (H : K oV (ab_up (ab_up (ab_up (ab_up h 15 0 (-1)) 15 1 (-1)) 15 2 (-1)) 15 3 (-1))) : C 92 [vR 4] h K := by
  show X 92 0 [vR 4] [] h K
  refine X_b 5 5 (L := L_92) rfl rfl rfl ?_
  show X 92 5 [vR 4] [vI (-1), vI (-1), vI (-1), vI (-1), vR 4] h _
  refine X_call 93 [vR 4, vI (-1), vI (-1), vI (-1), vI (-1)] [] rfl (sg_calv rfl rfl rfl rfl rfl rfl rfl rfl rfl rfl rfl) (by decide) ?_
  show X 93 0 [vR 4, vI (-1), vI (-1), vI (-1), vI (-1)] [] h _
  refine X_b 20 20 (L := L_93) rfl rfl rfl ?_
  show (0 ≤ (0 : Int) ∧ (0 : Int) < 4) ∧ (0 ≤ (1 : Int) ∧ (1 : Int) < 4) ∧ (0 ≤ (2 : Int) ∧ (2 : Int) < 4) ∧ (0 ≤ (3 : Int) ∧ (3 : Int) < 4) ∧ X 93 20 [vR 4, vI (-1), vI (-1), vI (-1), vI (-1)] [] (ab_up (ab_up (ab_up (ab_up h 15 0 (-1)) 15 1 (-1)) 15 2 (-1)) 15 3 (-1)) _
  refine ⟨by decide, by decide, by decide, by decide, ?_⟩
  refine X_ret (L := L_93) rfl rfl rfl rfl ?_
  show X 92 6 [vR 4] [] (ab_up (ab_up (ab_up (ab_up h 15 0 (-1)) 15 1 (-1)) 15 2 (-1)) 15 3 (-1)) _
  refine X_ret (L := L_92) rfl rfl rfl rfl ?_
  exact H

/-- Checker.keep, row 0 -/
theorem s_93_0 (x1 x2 x3 x4 : Int) (h : ab_S) (K : ab_O → ab_S → Prop) (H : K oV (ab_up (ab_up (ab_up (ab_up h 15 0 x1) 15 1 x2) 15 2 x3) 15 3 x4)) : C 93 [vR 4, vI x1, vI x2, vI x3, vI x4] h K := by
  show X 93 0 [vR 4, vI x1, vI x2, vI x3, vI x4] [] h K
  refine X_b 20 20 (L := L_93) rfl rfl rfl ?_
  show (0 ≤ (0 : Int) ∧ (0 : Int) < 4) ∧ (0 ≤ (1 : Int) ∧ (1 : Int) < 4) ∧ (0 ≤ (2 : Int) ∧ (2 : Int) < 4) ∧ (0 ≤ (3 : Int) ∧ (3 : Int) < 4) ∧ X 93 20 [vR 4, vI x1, vI x2, vI x3, vI x4] [] (ab_up (ab_up (ab_up (ab_up h 15 0 x1) 15 1 x2) 15 2 x3) 15 3 x4) _
  refine ⟨by decide, by decide, by decide, by decide, ?_⟩
  refine X_ret (L := L_93) rfl rfl rfl rfl ?_
  exact H

/-- Checker.whereabouts, row 0 -/
theorem s_94_0 (x1 : Int) (h : ab_S) (K : ab_O → ab_S → Prop) (H : ((x1 < 0 → K (oI (-1)) h) ∧ (0 ≤ x1 → ((x1 < 4 → ((0 ≤ x1 ∧ x1 < 4)) ∧ K (oI (h 15 x1)) h) ∧ (4 ≤ x1 → K (oI (-1)) h))))) : C 94 [vR 4, vI x1] h K := by
  show X 94 0 [vR 4, vI x1] [] h K
  refine X_b 1 1 (L := L_94) rfl rfl rfl ?_
  show X 94 1 [vR 4, vI x1] [vI x1] h _
  refine X_if (L := L_94) (n' := 5) rfl rfl rfl rfl (fun z1 => ?_) (fun z1 => ?_)
  · have z1 : x1 < 0 := z1
    replace H := H.1 z1
    show X 94 5 [vR 4, vI x1] [] h _
    refine X_b 1 6 (L := L_94) rfl rfl rfl ?_
    show X 94 6 [vR 4, vI x1] [vI (-1)] h _
    refine X_goto (L := L_94) (n' := 11) rfl rfl rfl rfl ?_
    show X 94 11 [vR 4, vI x1] [vI (-1)] h _
    refine X_iret (L := L_94) rfl rfl rfl rfl ?_
    exact H
  · have z1 : 0 ≤ x1 := (Int.not_lt.mp z1)
    replace H := H.2 z1
    show X 94 2 [vR 4, vI x1] [] h _
    refine X_b 2 4 (L := L_94) rfl rfl rfl ?_
    show X 94 4 [vR 4, vI x1] [vI 4, vI x1] h _
    refine X_icmp (L := L_94) (n' := 7) rfl rfl rfl rfl (fun z2 => ?_) (fun z2 => ?_)
    · have z2 : x1 < 4 := z2
      replace H := H.1 z2
      show X 94 7 [vR 4, vI x1] [] h _
      obtain ⟨c3, H⟩ := H
      refine X_b 4 11 (L := L_94) rfl rfl rfl ?_
      show (0 ≤ x1 ∧ x1 < 4) ∧ X 94 11 [vR 4, vI x1] [vI (h 15 x1)] h _
      refine ⟨c3, ?_⟩
      refine X_iret (L := L_94) rfl rfl rfl rfl ?_
      exact H
    · have z2 : 4 ≤ x1 := (Int.not_lt.mp z2)
      replace H := H.2 z2
      show X 94 5 [vR 4, vI x1] [] h _
      refine X_b 1 6 (L := L_94) rfl rfl rfl ?_
      show X 94 6 [vR 4, vI x1] [vI (-1)] h _
      refine X_goto (L := L_94) (n' := 11) rfl rfl rfl rfl ?_
      show X 94 11 [vR 4, vI x1] [vI (-1)] h _
      refine X_iret (L := L_94) rfl rfl rfl rfl ?_
      exact H

/-- Checker.look, row 0 -/
theorem s_95_0 (h : ab_S) (K : ab_O → ab_S → Prop) (H : C 97 [vR 4, vI 1] (ab_up (ab_up (ab_up (ab_up h 15 0 (-1)) 15 1 (-1)) 15 2 (-1)) 15 3 (-1)) (kI (fun v1 h1 => ((v1 = 0 → C 96 [vR 4, vI 2] h1 (kI (fun v3 h3 => ((v3 = 0 → C 96 [vR 4, vI 3] h3 (kI (fun v5 h5 => ((v5 = 0 → C 97 [vR 4, vI 4] h5 (kI (fun v7 h7 => ((v7 = 0 → ((-2147483648 ≤ (h7 1 0) * 5 ∧ (h7 1 0) * 5 ≤ 2147483647) ∧ (-2147483648 ≤ ((h7 1 0) * 5) + 0 ∧ ((h7 1 0) * 5) + 0 ≤ 2147483647) ∧ (0 ≤ 0 + (((h7 1 0) * 5) + 0) ∧ 0 + (((h7 1 0) * 5) + 0) < 2250)) ∧ ((b_and (h7 13 (0 + (((h7 1 0) * 5) + 0))) (b_shl 1 5) = 0 → K (oI 5) (ab_up (ab_up (ab_up (ab_up h7 15 0 0) 15 1 (-1)) 15 2 (-1)) 15 3 (-1))) ∧ (¬ b_and (h7 13 (0 + (((h7 1 0) * 5) + 0))) (b_shl 1 5) = 0 → X 95 46 [vR 4, vI 6] [] h7 K))) ∧ (¬ v7 = 0 → K (oI 4) h7))))) ∧ (¬ v5 = 0 → K (oI 3) h5))))) ∧ (¬ v3 = 0 → K (oI 2) h3))))) ∧ (¬ v1 = 0 → K (oI 1) h1))))) : C 95 [vR 4] h K := by
  show X 95 0 [vR 4, vJ 0] [] h K
  refine X_b 1 1 (L := L_95) rfl rfl rfl ?_
  show X 95 1 [vR 4, vJ 0] [vR 4] h _
  refine X_call 92 [vR 4] [] rfl (sg_calv rfl rfl rfl rfl rfl rfl rfl rfl rfl rfl rfl) (by decide) ?_
  show X 92 0 [vR 4] [] h _
  refine X_b 5 5 (L := L_92) rfl rfl rfl ?_
  show X 92 5 [vR 4] [vI (-1), vI (-1), vI (-1), vI (-1), vR 4] h _
  refine X_call 93 [vR 4, vI (-1), vI (-1), vI (-1), vI (-1)] [] rfl (sg_calv rfl rfl rfl rfl rfl rfl rfl rfl rfl rfl rfl) (by decide) ?_
  show X 93 0 [vR 4, vI (-1), vI (-1), vI (-1), vI (-1)] [] h _
  refine X_b 20 20 (L := L_93) rfl rfl rfl ?_
  show (0 ≤ (0 : Int) ∧ (0 : Int) < 4) ∧ (0 ≤ (1 : Int) ∧ (1 : Int) < 4) ∧ (0 ≤ (2 : Int) ∧ (2 : Int) < 4) ∧ (0 ≤ (3 : Int) ∧ (3 : Int) < 4) ∧ X 93 20 [vR 4, vI (-1), vI (-1), vI (-1), vI (-1)] [] (ab_up (ab_up (ab_up (ab_up h 15 0 (-1)) 15 1 (-1)) 15 2 (-1)) 15 3 (-1)) _
  refine ⟨by decide, by decide, by decide, by decide, ?_⟩
  refine X_ret (L := L_93) rfl rfl rfl rfl ?_
  show X 92 6 [vR 4] [] (ab_up (ab_up (ab_up (ab_up h 15 0 (-1)) 15 1 (-1)) 15 2 (-1)) 15 3 (-1)) _
  refine X_ret (L := L_92) rfl rfl rfl rfl ?_
  show X 95 2 [vR 4, vJ 0] [] (ab_up (ab_up (ab_up (ab_up h 15 0 (-1)) 15 1 (-1)) 15 2 (-1)) 15 3 (-1)) _
  refine X_b 2 4 (L := L_95) rfl rfl rfl ?_
  show X 95 4 [vR 4, vJ 0] [vI 1, vR 4] (ab_up (ab_up (ab_up (ab_up h 15 0 (-1)) 15 1 (-1)) 15 2 (-1)) 15 3 (-1)) _
  refine X_call 97 [vR 4, vI 1] [] rfl (sg_calv rfl rfl rfl rfl rfl rfl rfl rfl rfl rfl rfl) (by decide) ?_
  refine C_mono H (kI_to ?_)
  intro v1 h1 H
  show X 95 5 [vR 4, vJ 0] [vI v1] h1 _
  refine X_if (L := L_95) (n' := 8) rfl rfl rfl rfl (fun z2 => ?_) (fun z2 => ?_)
  · have z2 : v1 = 0 := z2
    replace H := H.1 z2
    show X 95 8 [vR 4, vJ 0] [] h1 _
    refine X_b 2 10 (L := L_95) rfl rfl rfl ?_
    show X 95 10 [vR 4, vJ 0] [vI 2, vR 4] h1 _
    refine X_call 96 [vR 4, vI 2] [] rfl (sg_calv rfl rfl rfl rfl rfl rfl rfl rfl rfl rfl rfl) (by decide) ?_
    refine C_mono H (kI_to ?_)
    intro v3 h3 H
    show X 95 11 [vR 4, vJ 0] [vI v3] h3 _
    refine X_if (L := L_95) (n' := 14) rfl rfl rfl rfl (fun z4 => ?_) (fun z4 => ?_)
    · have z4 : v3 = 0 := z4
      replace H := H.1 z4
      show X 95 14 [vR 4, vJ 0] [] h3 _
      refine X_b 2 16 (L := L_95) rfl rfl rfl ?_
      show X 95 16 [vR 4, vJ 0] [vI 3, vR 4] h3 _
      refine X_call 96 [vR 4, vI 3] [] rfl (sg_calv rfl rfl rfl rfl rfl rfl rfl rfl rfl rfl rfl) (by decide) ?_
      refine C_mono H (kI_to ?_)
      intro v5 h5 H
      show X 95 17 [vR 4, vJ 0] [vI v5] h5 _
      refine X_if (L := L_95) (n' := 20) rfl rfl rfl rfl (fun z6 => ?_) (fun z6 => ?_)
      · have z6 : v5 = 0 := z6
        replace H := H.1 z6
        show X 95 20 [vR 4, vJ 0] [] h5 _
        refine X_b 2 22 (L := L_95) rfl rfl rfl ?_
        show X 95 22 [vR 4, vJ 0] [vI 4, vR 4] h5 _
        refine X_call 97 [vR 4, vI 4] [] rfl (sg_calv rfl rfl rfl rfl rfl rfl rfl rfl rfl rfl rfl) (by decide) ?_
        refine C_mono H (kI_to ?_)
        intro v7 h7 H
        show X 95 23 [vR 4, vJ 0] [vI v7] h7 _
        refine X_if (L := L_95) (n' := 26) rfl rfl rfl rfl (fun z8 => ?_) (fun z8 => ?_)
        · have z8 : v7 = 0 := z8
          replace H := H.1 z8
          show X 95 26 [vR 4, vJ 0] [] h7 _
          obtain ⟨⟨c9, c10, c11⟩, H⟩ := H
          refine X_b 5 31 (L := L_95) rfl rfl rfl ?_
          show X 95 31 [vR 4, vJ 0] [vR 1, vI 0, vR 2] h7 _
          refine X_call 109 [vR 1] [vI 0, vR 2] rfl (sg_calv rfl rfl rfl rfl rfl rfl rfl rfl rfl rfl rfl) (by decide) ?_
          show X 109 0 [vR 1] [] h7 _
          refine X_b 2 2 (L := L_109) rfl rfl rfl ?_
          show X 109 2 [vR 1] [vI (h7 1 0)] h7 _
          refine X_iret (L := L_109) rfl rfl rfl rfl ?_
          show X 95 32 [vR 4, vJ 0] [vI (h7 1 0), vI 0, vR 2] h7 _
          refine X_b 2 34 (L := L_95) rfl rfl rfl ?_
          show X 95 34 [vR 4, vJ 0] [vI 9, vI 0, vI (h7 1 0), vI 0, vR 2] h7 _
          refine X_call 81 [vR 2, vI 0, vI (h7 1 0), vI 0, vI 9] [] rfl (sg_calv rfl rfl rfl rfl rfl rfl rfl rfl rfl rfl rfl) (by decide) ?_
          show X 81 0 [vR 2, vI 0, vI (h7 1 0), vI 0, vI 9] [] h7 _
          refine X_b 4 4 (L := L_81) rfl rfl rfl ?_
          show X 81 4 [vR 2, vI 0, vI (h7 1 0), vI 0, vI 9] [vI 0, vI (h7 1 0), vI 0, vR 2] h7 _
          refine X_call 80 [vR 2, vI 0, vI (h7 1 0), vI 0] [] rfl (sg_calv rfl rfl rfl rfl rfl rfl rfl rfl rfl rfl rfl) (by decide) ?_
          show X 80 0 [vR 2, vI 0, vI (h7 1 0), vI 0] [] h7 _
          refine X_b 7 7 (L := L_80) rfl rfl rfl ?_
          show (-2147483648 ≤ (0 : Int) ∧ (0 : Int) ≤ 2147483647) ∧ X 80 7 [vR 2, vI 0, vI (h7 1 0), vI 0] [vI 0, vI (h7 1 0), vI 0, vR 13] h7 _
          refine ⟨by decide, ?_⟩
          refine X_call 27 [vI (h7 1 0), vI 0] [vI 0, vR 13] rfl (sg_cals rfl rfl rfl rfl rfl rfl rfl rfl rfl rfl) (by decide) ?_
          show X 27 0 [vI (h7 1 0), vI 0] [] h7 _
          refine X_b 5 5 (L := L_27) rfl rfl rfl ?_
          show (-2147483648 ≤ (h7 1 0) * 5 ∧ (h7 1 0) * 5 ≤ 2147483647) ∧ (-2147483648 ≤ ((h7 1 0) * 5) + 0 ∧ ((h7 1 0) * 5) + 0 ≤ 2147483647) ∧ X 27 5 [vI (h7 1 0), vI 0] [vI (((h7 1 0) * 5) + 0)] h7 _
          refine ⟨c9, c10, ?_⟩
          refine X_iret (L := L_27) rfl rfl rfl rfl ?_
          show X 80 8 [vR 2, vI 0, vI (h7 1 0), vI 0] [vI (((h7 1 0) * 5) + 0), vI 0, vR 13] h7 _
          refine X_b 2 10 (L := L_80) rfl rfl rfl ?_
          show (-2147483648 ≤ 0 + (((h7 1 0) * 5) + 0) ∧ 0 + (((h7 1 0) * 5) + 0) ≤ 2147483647) ∧ (0 ≤ 0 + (((h7 1 0) * 5) + 0) ∧ 0 + (((h7 1 0) * 5) + 0) < 2250) ∧ X 80 10 [vR 2, vI 0, vI (h7 1 0), vI 0] [vI (h7 13 (0 + (((h7 1 0) * 5) + 0)))] h7 _
          refine ⟨by have := c11; omega, c11, ?_⟩
          refine X_iret (L := L_80) rfl rfl rfl rfl ?_
          show X 81 5 [vR 2, vI 0, vI (h7 1 0), vI 0, vI 9] [vI (h7 13 (0 + (((h7 1 0) * 5) + 0)))] h7 _
          refine X_b 1 6 (L := L_81) rfl rfl rfl ?_
          show X 81 6 [vR 2, vI 0, vI (h7 1 0), vI 0, vI 9] [vI 9, vI (h7 13 (0 + (((h7 1 0) * 5) + 0)))] h7 _
          refine X_call 26 [vI 9] [vI (h7 13 (0 + (((h7 1 0) * 5) + 0)))] rfl (sg_cals rfl rfl rfl rfl rfl rfl rfl rfl rfl rfl) (by decide) ?_
          show X 26 0 [vI 9] [] h7 _
          refine X_b 5 5 (L := L_26) rfl rfl rfl ?_
          show (-2147483648 ≤ (5 : Int) ∧ (5 : Int) ≤ 2147483647) ∧ X 26 5 [vI 9] [vI (b_shl 1 5)] h7 _
          refine ⟨by decide, ?_⟩
          refine X_iret (L := L_26) rfl rfl rfl rfl ?_
          show X 81 7 [vR 2, vI 0, vI (h7 1 0), vI 0, vI 9] [vI (b_shl 1 5), vI (h7 13 (0 + (((h7 1 0) * 5) + 0)))] h7 _
          refine X_b 1 8 (L := L_81) rfl rfl rfl ?_
          show X 81 8 [vR 2, vI 0, vI (h7 1 0), vI 0, vI 9] [vI (b_and (h7 13 (0 + (((h7 1 0) * 5) + 0))) (b_shl 1 5))] h7 _
          refine X_if (L := L_81) (n' := 11) rfl rfl rfl rfl (fun z12 => ?_) (fun z12 => ?_)
          · have z12 : b_and (h7 13 (0 + (((h7 1 0) * 5) + 0))) (b_shl 1 5) = 0 := z12
            replace H := H.1 z12
            show X 81 11 [vR 2, vI 0, vI (h7 1 0), vI 0, vI 9] [] h7 _
            refine X_b 1 12 (L := L_81) rfl rfl rfl ?_
            show X 81 12 [vR 2, vI 0, vI (h7 1 0), vI 0, vI 9] [vI 0] h7 _
            refine X_zret (L := L_81) rfl rfl rfl rfl (by decide) ?_
            show X 95 35 [vR 4, vJ 0] [vI 0] h7 _
            refine X_if (L := L_95) (n' := 44) rfl rfl rfl rfl (fun z => absurd z (show ¬ (¬ (0 : Int) = (0 : Int)) by decide)) (fun _ => ?_)
            show X 95 36 [vR 4, vJ 0] [] h7 _
            refine X_b 5 41 (L := L_95) rfl rfl rfl ?_
            show X 95 41 [vR 4, vJ 0] [vI (-1), vI (-1), vI (-1), vI 0, vR 4] h7 _
            refine X_call 93 [vR 4, vI 0, vI (-1), vI (-1), vI (-1)] [] rfl (sg_calv rfl rfl rfl rfl rfl rfl rfl rfl rfl rfl rfl) (by decide) ?_
            show X 93 0 [vR 4, vI 0, vI (-1), vI (-1), vI (-1)] [] h7 _
            refine X_b 20 20 (L := L_93) rfl rfl rfl ?_
            show (0 ≤ (0 : Int) ∧ (0 : Int) < 4) ∧ (0 ≤ (1 : Int) ∧ (1 : Int) < 4) ∧ (0 ≤ (2 : Int) ∧ (2 : Int) < 4) ∧ (0 ≤ (3 : Int) ∧ (3 : Int) < 4) ∧ X 93 20 [vR 4, vI 0, vI (-1), vI (-1), vI (-1)] [] (ab_up (ab_up (ab_up (ab_up h7 15 0 0) 15 1 (-1)) 15 2 (-1)) 15 3 (-1)) _
            refine ⟨by decide, by decide, by decide, by decide, ?_⟩
            refine X_ret (L := L_93) rfl rfl rfl rfl ?_
            show X 95 42 [vR 4, vJ 0] [] (ab_up (ab_up (ab_up (ab_up h7 15 0 0) 15 1 (-1)) 15 2 (-1)) 15 3 (-1)) _
            refine X_b 1 43 (L := L_95) rfl rfl rfl ?_
            show X 95 43 [vR 4, vJ 0] [vI 5] (ab_up (ab_up (ab_up (ab_up h7 15 0 0) 15 1 (-1)) 15 2 (-1)) 15 3 (-1)) _
            refine X_iret (L := L_95) rfl rfl rfl rfl ?_
            exact H
          · have z12 : ¬ b_and (h7 13 (0 + (((h7 1 0) * 5) + 0))) (b_shl 1 5) = 0 := z12
            replace H := H.2 z12
            show X 81 9 [vR 2, vI 0, vI (h7 1 0), vI 0, vI 9] [] h7 _
            refine X_b 1 10 (L := L_81) rfl rfl rfl ?_
            show X 81 10 [vR 2, vI 0, vI (h7 1 0), vI 0, vI 9] [vI 1] h7 _
            refine X_goto (L := L_81) (n' := 12) rfl rfl rfl rfl ?_
            show X 81 12 [vR 2, vI 0, vI (h7 1 0), vI 0, vI 9] [vI 1] h7 _
            refine X_zret (L := L_81) rfl rfl rfl rfl (by decide) ?_
            show X 95 35 [vR 4, vJ 0] [vI 1] h7 _
            refine X_if (L := L_95) (n' := 44) rfl rfl rfl rfl (fun _ => ?_) (fun z => absurd (show ¬ (1 : Int) = (0 : Int) by decide) z)
            show X 95 44 [vR 4, vJ 0] [] h7 _
            refine X_b 2 46 (L := L_95) rfl rfl rfl ?_
            show X 95 46 [vR 4, vI 6] [] h7 _
            exact H
        · have z8 : ¬ v7 = 0 := z8
          replace H := H.2 z8
          show X 95 24 [vR 4, vJ 0] [] h7 _
          refine X_b 1 25 (L := L_95) rfl rfl rfl ?_
          show X 95 25 [vR 4, vJ 0] [vI 4] h7 _
          refine X_iret (L := L_95) rfl rfl rfl rfl ?_
          exact H
      · have z6 : ¬ v5 = 0 := z6
        replace H := H.2 z6
        show X 95 18 [vR 4, vJ 0] [] h5 _
        refine X_b 1 19 (L := L_95) rfl rfl rfl ?_
        show X 95 19 [vR 4, vJ 0] [vI 3] h5 _
        refine X_iret (L := L_95) rfl rfl rfl rfl ?_
        exact H
    · have z4 : ¬ v3 = 0 := z4
      replace H := H.2 z4
      show X 95 12 [vR 4, vJ 0] [] h3 _
      refine X_b 1 13 (L := L_95) rfl rfl rfl ?_
      show X 95 13 [vR 4, vJ 0] [vI 2] h3 _
      refine X_iret (L := L_95) rfl rfl rfl rfl ?_
      exact H
  · have z2 : ¬ v1 = 0 := z2
    replace H := H.2 z2
    show X 95 6 [vR 4, vJ 0] [] h1 _
    refine X_b 1 7 (L := L_95) rfl rfl rfl ?_
    show X 95 7 [vR 4, vJ 0] [vI 1] h1 _
    refine X_iret (L := L_95) rfl rfl rfl rfl ?_
    exact H

/-- Checker.look, row 46 -/
theorem s_95_46 (x1 : Int) (h : ab_S) (K : ab_O → ab_S → Prop) (H : ((8 < x1 → K (oI 0) h) ∧ (x1 ≤ 8 → C 97 [vR 4, vI x1] h (kI (fun v2 h2 => ((v2 = 0 → ((-2147483648 ≤ x1 + 1 ∧ x1 + 1 ≤ 2147483647)) ∧ X 95 46 [vR 4, vI (x1 + 1)] [] h2 K) ∧ (¬ v2 = 0 → K (oI x1) h2))))))) : X 95 46 [vR 4, vI x1] [] h K := by
  refine X_b 2 48 (L := L_95) rfl rfl rfl ?_
  show X 95 48 [vR 4, vI x1] [vI 8, vI x1] h _
  refine X_icmp (L := L_95) (n' := 57) rfl rfl rfl rfl (fun z1 => ?_) (fun z1 => ?_)
  · have z1 : 8 < x1 := z1
    replace H := H.1 z1
    show X 95 57 [vR 4, vI x1] [] h _
    refine X_b 1 58 (L := L_95) rfl rfl rfl ?_
    show X 95 58 [vR 4, vI x1] [vI 0] h _
    refine X_iret (L := L_95) rfl rfl rfl rfl ?_
    exact H
  · have z1 : x1 ≤ 8 := (Int.not_lt.mp z1)
    replace H := H.2 z1
    show X 95 49 [vR 4, vI x1] [] h _
    refine X_b 2 51 (L := L_95) rfl rfl rfl ?_
    show X 95 51 [vR 4, vI x1] [vI x1, vR 4] h _
    refine X_call 97 [vR 4, vI x1] [] rfl (sg_calv rfl rfl rfl rfl rfl rfl rfl rfl rfl rfl rfl) (by decide) ?_
    refine C_mono H (kI_to ?_)
    intro v2 h2 H
    show X 95 52 [vR 4, vI x1] [vI v2] h2 _
    refine X_if (L := L_95) (n' := 55) rfl rfl rfl rfl (fun z3 => ?_) (fun z3 => ?_)
    · have z3 : v2 = 0 := z3
      replace H := H.1 z3
      show X 95 55 [vR 4, vI x1] [] h2 _
      obtain ⟨c4, H⟩ := H
      refine X_b 1 56 (L := L_95) rfl rfl rfl ?_
      show (-2147483648 ≤ x1 + 1 ∧ x1 + 1 ≤ 2147483647) ∧ X 95 56 [vR 4, vI (x1 + 1)] [] h2 _
      refine ⟨c4, ?_⟩
      refine X_goto (L := L_95) (n' := 46) rfl rfl rfl rfl ?_
      show X 95 46 [vR 4, vI (x1 + 1)] [] h2 _
      exact H
    · have z3 : ¬ v2 = 0 := z3
      replace H := H.2 z3
      show X 95 53 [vR 4, vI x1] [] h2 _
      refine X_b 1 54 (L := L_95) rfl rfl rfl ?_
      show X 95 54 [vR 4, vI x1] [vI x1] h2 _
      refine X_iret (L := L_95) rfl rfl rfl rfl ?_
      exact H

/-- Checker.findsSymbol, row 0 -/
theorem s_96_0 (x1 : Int) (h : ab_S) (K : ab_O → ab_S → Prop) (H : X 96 2 [vR 4, vI x1, vI 0, vJ 0] [] h K) : C 96 [vR 4, vI x1] h K := by
  show X 96 0 [vR 4, vI x1, vJ 0, vJ 0] [] h K
  refine X_b 2 2 (L := L_96) rfl rfl rfl ?_
  show X 96 2 [vR 4, vI x1, vI 0, vJ 0] [] h _
  exact H

/-- Checker.findsSymbol, row 2 -/
theorem s_96_2 (x1 x2 : Int) (w3 : ab_V) (h : ab_S) (K : ab_O → ab_S → Prop) (H : ((h 2 0 ≤ x2 → K (oI 0) h) ∧ (x2 < h 2 0 → X 96 9 [vR 4, vI x1, vI x2, vI 0] [] h K))) : X 96 2 [vR 4, vI x1, vI x2, w3] [] h K := by
  refine X_b 4 6 (L := L_96) rfl rfl rfl ?_
  show X 96 6 [vR 4, vI x1, vI x2, w3] [vI (h 2 0), vI x2] h _
  refine X_icmp (L := L_96) (n' := 38) rfl rfl rfl rfl (fun z1 => ?_) (fun z1 => ?_)
  · have z1 : h 2 0 ≤ x2 := z1
    replace H := H.1 z1
    show X 96 38 [vR 4, vI x1, vI x2, w3] [] h _
    refine X_b 1 39 (L := L_96) rfl rfl rfl ?_
    show X 96 39 [vR 4, vI x1, vI x2, w3] [vI 0] h _
    refine X_zret (L := L_96) rfl rfl rfl rfl (by decide) ?_
    exact H
  · have z1 : x2 < h 2 0 := (Int.not_le.mp z1)
    replace H := H.2 z1
    show X 96 7 [vR 4, vI x1, vI x2, w3] [] h _
    refine X_b 2 9 (L := L_96) rfl rfl rfl ?_
    show X 96 9 [vR 4, vI x1, vI x2, vI 0] [] h _
    exact H

/-- Checker.findsSymbol, row 9 -/
theorem s_96_9 (x1 x2 x3 : Int) (h : ab_S) (K : ab_O → ab_S → Prop) (H : ((10 ≤ x3 → ((-2147483648 ≤ x2 + 1 ∧ x2 + 1 ≤ 2147483647)) ∧ X 96 2 [vR 4, vI x1, vI (x2 + 1), vI x3] [] h K) ∧ (x3 < 10 → ((¬ x1 = 2 → C 100 [vR 4, vI x2, vI x3] h (kI (fun v4 h4 => ((v4 = 0 → ((-2147483648 ≤ x3 + 1 ∧ x3 + 1 ≤ 2147483647)) ∧ X 96 9 [vR 4, vI x1, vI x2, vI (x3 + 1)] [] h4 K) ∧ (¬ v4 = 0 → K (oI 1) (ab_up (ab_up (ab_up (ab_up h4 15 0 x2) 15 1 x3) 15 2 (-1)) 15 3 (-1))))))) ∧ (x1 = 2 → C 99 [vR 4, vI x2, vI x3] h (kI (fun v7 h7 => ((v7 = 0 → ((-2147483648 ≤ x3 + 1 ∧ x3 + 1 ≤ 2147483647)) ∧ X 96 9 [vR 4, vI x1, vI x2, vI (x3 + 1)] [] h7 K) ∧ (¬ v7 = 0 → K (oI 1) (ab_up (ab_up (ab_up (ab_up h7 15 0 x2) 15 1 x3) 15 2 (-1)) 15 3 (-1))))))))))) : X 96 9 [vR 4, vI x1, vI x2, vI x3] [] h K := by
  refine X_b 2 11 (L := L_96) rfl rfl rfl ?_
  show X 96 11 [vR 4, vI x1, vI x2, vI x3] [vI 10, vI x3] h _
  refine X_icmp (L := L_96) (n' := 36) rfl rfl rfl rfl (fun z1 => ?_) (fun z1 => ?_)
  · have z1 : 10 ≤ x3 := z1
    replace H := H.1 z1
    show X 96 36 [vR 4, vI x1, vI x2, vI x3] [] h _
    obtain ⟨c2, H⟩ := H
    refine X_b 1 37 (L := L_96) rfl rfl rfl ?_
    show (-2147483648 ≤ x2 + 1 ∧ x2 + 1 ≤ 2147483647) ∧ X 96 37 [vR 4, vI x1, vI (x2 + 1), vI x3] [] h _
    refine ⟨c2, ?_⟩
    refine X_goto (L := L_96) (n' := 2) rfl rfl rfl rfl ?_
    show X 96 2 [vR 4, vI x1, vI (x2 + 1), vI x3] [] h _
    exact H
  · have z1 : x3 < 10 := (Int.not_le.mp z1)
    replace H := H.2 z1
    show X 96 12 [vR 4, vI x1, vI x2, vI x3] [] h _
    refine X_b 2 14 (L := L_96) rfl rfl rfl ?_
    show X 96 14 [vR 4, vI x1, vI x2, vI x3] [vI 2, vI x1] h _
    refine X_icmp (L := L_96) (n' := 21) rfl rfl rfl rfl (fun z3 => ?_) (fun z3 => ?_)
    · have z3 : ¬ x1 = 2 := z3
      replace H := H.1 z3
      show X 96 21 [vR 4, vI x1, vI x2, vI x3] [] h _
      refine X_b 3 24 (L := L_96) rfl rfl rfl ?_
      show X 96 24 [vR 4, vI x1, vI x2, vI x3] [vI x3, vI x2, vR 4] h _
      refine X_call 100 [vR 4, vI x2, vI x3] [] rfl (sg_calv rfl rfl rfl rfl rfl rfl rfl rfl rfl rfl rfl) (by decide) ?_
      refine C_mono H (kI_to ?_)
      intro v4 h4 H
      show X 96 25 [vR 4, vI x1, vI x2, vI x3] [vI v4] h4 _
      refine X_if (L := L_96) (n' := 34) rfl rfl rfl rfl (fun z5 => ?_) (fun z5 => ?_)
      · have z5 : v4 = 0 := z5
        replace H := H.1 z5
        show X 96 34 [vR 4, vI x1, vI x2, vI x3] [] h4 _
        obtain ⟨c6, H⟩ := H
        refine X_b 1 35 (L := L_96) rfl rfl rfl ?_
        show (-2147483648 ≤ x3 + 1 ∧ x3 + 1 ≤ 2147483647) ∧ X 96 35 [vR 4, vI x1, vI x2, vI (x3 + 1)] [] h4 _
        refine ⟨c6, ?_⟩
        refine X_goto (L := L_96) (n' := 9) rfl rfl rfl rfl ?_
        show X 96 9 [vR 4, vI x1, vI x2, vI (x3 + 1)] [] h4 _
        exact H
      · have z5 : ¬ v4 = 0 := z5
        replace H := H.2 z5
        show X 96 26 [vR 4, vI x1, vI x2, vI x3] [] h4 _
        refine X_b 5 31 (L := L_96) rfl rfl rfl ?_
        show X 96 31 [vR 4, vI x1, vI x2, vI x3] [vI (-1), vI (-1), vI x3, vI x2, vR 4] h4 _
        refine X_call 93 [vR 4, vI x2, vI x3, vI (-1), vI (-1)] [] rfl (sg_calv rfl rfl rfl rfl rfl rfl rfl rfl rfl rfl rfl) (by decide) ?_
        show X 93 0 [vR 4, vI x2, vI x3, vI (-1), vI (-1)] [] h4 _
        refine X_b 20 20 (L := L_93) rfl rfl rfl ?_
        show (0 ≤ (0 : Int) ∧ (0 : Int) < 4) ∧ (0 ≤ (1 : Int) ∧ (1 : Int) < 4) ∧ (0 ≤ (2 : Int) ∧ (2 : Int) < 4) ∧ (0 ≤ (3 : Int) ∧ (3 : Int) < 4) ∧ X 93 20 [vR 4, vI x2, vI x3, vI (-1), vI (-1)] [] (ab_up (ab_up (ab_up (ab_up h4 15 0 x2) 15 1 x3) 15 2 (-1)) 15 3 (-1)) _
        refine ⟨by decide, by decide, by decide, by decide, ?_⟩
        refine X_ret (L := L_93) rfl rfl rfl rfl ?_
        show X 96 32 [vR 4, vI x1, vI x2, vI x3] [] (ab_up (ab_up (ab_up (ab_up h4 15 0 x2) 15 1 x3) 15 2 (-1)) 15 3 (-1)) _
        refine X_b 1 33 (L := L_96) rfl rfl rfl ?_
        show X 96 33 [vR 4, vI x1, vI x2, vI x3] [vI 1] (ab_up (ab_up (ab_up (ab_up h4 15 0 x2) 15 1 x3) 15 2 (-1)) 15 3 (-1)) _
        refine X_zret (L := L_96) rfl rfl rfl rfl (by decide) ?_
        exact H
    · have z3 : x1 = 2 := (Classical.not_not.mp z3)
      replace H := H.2 z3
      show X 96 15 [vR 4, vI x1, vI x2, vI x3] [] h _
      refine X_b 3 18 (L := L_96) rfl rfl rfl ?_
      show X 96 18 [vR 4, vI x1, vI x2, vI x3] [vI x3, vI x2, vR 4] h _
      refine X_call 99 [vR 4, vI x2, vI x3] [] rfl (sg_calv rfl rfl rfl rfl rfl rfl rfl rfl rfl rfl rfl) (by decide) ?_
      refine C_mono H (kI_to ?_)
      intro v7 h7 H
      show X 96 19 [vR 4, vI x1, vI x2, vI x3] [vI v7] h7 _
      refine X_if (L := L_96) (n' := 34) rfl rfl rfl rfl (fun z8 => ?_) (fun z8 => ?_)
      · have z8 : v7 = 0 := z8
        replace H := H.1 z8
        show X 96 34 [vR 4, vI x1, vI x2, vI x3] [] h7 _
        obtain ⟨c9, H⟩ := H
        refine X_b 1 35 (L := L_96) rfl rfl rfl ?_
        show (-2147483648 ≤ x3 + 1 ∧ x3 + 1 ≤ 2147483647) ∧ X 96 35 [vR 4, vI x1, vI x2, vI (x3 + 1)] [] h7 _
        refine ⟨c9, ?_⟩
        refine X_goto (L := L_96) (n' := 9) rfl rfl rfl rfl ?_
        show X 96 9 [vR 4, vI x1, vI x2, vI (x3 + 1)] [] h7 _
        exact H
      · have z8 : ¬ v7 = 0 := z8
        replace H := H.2 z8
        show X 96 20 [vR 4, vI x1, vI x2, vI x3] [] h7 _
        refine X_goto (L := L_96) (n' := 26) rfl rfl rfl rfl ?_
        show X 96 26 [vR 4, vI x1, vI x2, vI x3] [] h7 _
        refine X_b 5 31 (L := L_96) rfl rfl rfl ?_
        show X 96 31 [vR 4, vI x1, vI x2, vI x3] [vI (-1), vI (-1), vI x3, vI x2, vR 4] h7 _
        refine X_call 93 [vR 4, vI x2, vI x3, vI (-1), vI (-1)] [] rfl (sg_calv rfl rfl rfl rfl rfl rfl rfl rfl rfl rfl rfl) (by decide) ?_
        show X 93 0 [vR 4, vI x2, vI x3, vI (-1), vI (-1)] [] h7 _
        refine X_b 20 20 (L := L_93) rfl rfl rfl ?_
        show (0 ≤ (0 : Int) ∧ (0 : Int) < 4) ∧ (0 ≤ (1 : Int) ∧ (1 : Int) < 4) ∧ (0 ≤ (2 : Int) ∧ (2 : Int) < 4) ∧ (0 ≤ (3 : Int) ∧ (3 : Int) < 4) ∧ X 93 20 [vR 4, vI x2, vI x3, vI (-1), vI (-1)] [] (ab_up (ab_up (ab_up (ab_up h7 15 0 x2) 15 1 x3) 15 2 (-1)) 15 3 (-1)) _
        refine ⟨by decide, by decide, by decide, by decide, ?_⟩
        refine X_ret (L := L_93) rfl rfl rfl rfl ?_
        show X 96 32 [vR 4, vI x1, vI x2, vI x3] [] (ab_up (ab_up (ab_up (ab_up h7 15 0 x2) 15 1 x3) 15 2 (-1)) 15 3 (-1)) _
        refine X_b 1 33 (L := L_96) rfl rfl rfl ?_
        show X 96 33 [vR 4, vI x1, vI x2, vI x3] [vI 1] (ab_up (ab_up (ab_up (ab_up h7 15 0 x2) 15 1 x3) 15 2 (-1)) 15 3 (-1)) _
        refine X_zret (L := L_96) rfl rfl rfl rfl (by decide) ?_
        exact H

set_option maxRecDepth 8192 in
/-- Checker.findsItem, row 0 -/
theorem s_97_0 (x1 : Int) (h : ab_S) (K : ab_O → ab_S → Prop) (H : X 97 2 [vR 4, vI x1, vI 0, vJ 0, vJ 0, vJ 0, vJ 0] [] h K) : C 97 [vR 4, vI x1] h K := by
  show X 97 0 [vR 4, vI x1, vJ 0, vJ 0, vJ 0, vJ 0, vJ 0] [] h K
  refine X_b 2 2 (L := L_97) rfl rfl rfl ?_
  show X 97 2 [vR 4, vI x1, vI 0, vJ 0, vJ 0, vJ 0, vJ 0] [] h _
  exact H

set_option maxRecDepth 8192 in
/-- Checker.findsItem, row 2 -/
theorem s_97_2 (x1 x2 : Int) (w3 w4 w5 w6 : ab_V) (h : ab_S) (K : ab_O → ab_S → Prop) (H : ((h 2 0 ≤ x2 → K (oI 0) h) ∧ (x2 < h 2 0 → X 97 9 [vR 4, vI x1, vI x2, vI 0, w4, w5, w6] [] h K))) : X 97 2 [vR 4, vI x1, vI x2, w3, w4, w5, w6] [] h K := by
  refine X_b 4 6 (L := L_97) rfl rfl rfl ?_
  show X 97 6 [vR 4, vI x1, vI x2, w3, w4, w5, w6] [vI (h 2 0), vI x2] h _
  refine X_icmp (L := L_97) (n' := 66) rfl rfl rfl rfl (fun z1 => ?_) (fun z1 => ?_)
  · have z1 : h 2 0 ≤ x2 := z1
    replace H := H.1 z1
    show X 97 66 [vR 4, vI x1, vI x2, w3, w4, w5, w6] [] h _
    refine X_b 1 67 (L := L_97) rfl rfl rfl ?_
    show X 97 67 [vR 4, vI x1, vI x2, w3, w4, w5, w6] [vI 0] h _
    refine X_zret (L := L_97) rfl rfl rfl rfl (by decide) ?_
    exact H
  · have z1 : x2 < h 2 0 := (Int.not_le.mp z1)
    replace H := H.2 z1
    show X 97 7 [vR 4, vI x1, vI x2, w3, w4, w5, w6] [] h _
    refine X_b 2 9 (L := L_97) rfl rfl rfl ?_
    show X 97 9 [vR 4, vI x1, vI x2, vI 0, w4, w5, w6] [] h _
    exact H

set_option maxRecDepth 8192 in
/-- Checker.findsItem, row 9 -/
theorem s_97_9 (x1 x2 x3 : Int) (w4 w5 w6 : ab_V) (h : ab_S) (K : ab_O → ab_S → Prop) (H : ((h 1 0 < x3 → ((-2147483648 ≤ x2 + 1 ∧ x2 + 1 ≤ 2147483647)) ∧ X 97 2 [vR 4, vI x1, vI (x2 + 1), vI x3, w4, w5, w6] [] h K) ∧ (x3 ≤ h 1 0 → X 97 16 [vR 4, vI x1, vI x2, vI x3, vI 0, w5, w6] [] h K))) : X 97 9 [vR 4, vI x1, vI x2, vI x3, w4, w5, w6] [] h K := by
  refine X_b 3 12 (L := L_97) rfl rfl rfl ?_
  show X 97 12 [vR 4, vI x1, vI x2, vI x3, w4, w5, w6] [vR 1, vI x3] h _
  refine X_call 109 [vR 1] [vI x3] rfl (sg_calv rfl rfl rfl rfl rfl rfl rfl rfl rfl rfl rfl) (by decide) ?_
  show X 109 0 [vR 1] [] h _
  refine X_b 2 2 (L := L_109) rfl rfl rfl ?_
  show X 109 2 [vR 1] [vI (h 1 0)] h _
  refine X_iret (L := L_109) rfl rfl rfl rfl ?_
  show X 97 13 [vR 4, vI x1, vI x2, vI x3, w4, w5, w6] [vI (h 1 0), vI x3] h _
  refine X_icmp (L := L_97) (n' := 64) rfl rfl rfl rfl (fun z1 => ?_) (fun z1 => ?_)
  · have z1 : h 1 0 < x3 := z1
    replace H := H.1 z1
    show X 97 64 [vR 4, vI x1, vI x2, vI x3, w4, w5, w6] [] h _
    obtain ⟨c2, H⟩ := H
    refine X_b 1 65 (L := L_97) rfl rfl rfl ?_
    show (-2147483648 ≤ x2 + 1 ∧ x2 + 1 ≤ 2147483647) ∧ X 97 65 [vR 4, vI x1, vI (x2 + 1), vI x3, w4, w5, w6] [] h _
    refine ⟨c2, ?_⟩
    refine X_goto (L := L_97) (n' := 2) rfl rfl rfl rfl ?_
    show X 97 2 [vR 4, vI x1, vI (x2 + 1), vI x3, w4, w5, w6] [] h _
    exact H
  · have z1 : x3 ≤ h 1 0 := (Int.not_lt.mp z1)
    replace H := H.2 z1
    show X 97 14 [vR 4, vI x1, vI x2, vI x3, w4, w5, w6] [] h _
    refine X_b 2 16 (L := L_97) rfl rfl rfl ?_
    show X 97 16 [vR 4, vI x1, vI x2, vI x3, vI 0, w5, w6] [] h _
    exact H

set_option maxRecDepth 8192 in
/-- Checker.findsItem, row 16 -/
theorem s_97_16 (x1 x2 x3 x4 : Int) (w5 w6 : ab_V) (h : ab_S) (K : ab_O → ab_S → Prop) (H : ((0 ≤ x3 ∧ x3 < 9)) ∧ ((h 8 x3 < x4 → ((-2147483648 ≤ x3 + 1 ∧ x3 + 1 ≤ 2147483647)) ∧ X 97 9 [vR 4, vI x1, vI x2, vI (x3 + 1), vI x4, w5, w6] [] h K) ∧ (x4 ≤ h 8 x3 → ((-2147483648 ≤ x2 * 45 ∧ x2 * 45 ≤ 2147483647) ∧ (-2147483648 ≤ x3 * 5 ∧ x3 * 5 ≤ 2147483647) ∧ (-2147483648 ≤ (x3 * 5) + x4 ∧ (x3 * 5) + x4 ≤ 2147483647) ∧ (0 ≤ (x2 * 45) + ((x3 * 5) + x4) ∧ (x2 * 45) + ((x3 * 5) + x4) < 2250)) ∧ X 97 32 [vR 4, vI x1, vI x2, vI x3, vI x4, vI (h 13 ((x2 * 45) + ((x3 * 5) + x4))), vI 4] [] h K))) : X 97 16 [vR 4, vI x1, vI x2, vI x3, vI x4, w5, w6] [] h K := by
  obtain ⟨c1, H⟩ := H
  refine X_b 6 22 (L := L_97) rfl rfl rfl ?_
  show (0 ≤ x3 ∧ x3 < 9) ∧ X 97 22 [vR 4, vI x1, vI x2, vI x3, vI x4, w5, w6] [vI (h 8 x3), vI x4] h _
  refine ⟨c1, ?_⟩
  refine X_icmp (L := L_97) (n' := 62) rfl rfl rfl rfl (fun z2 => ?_) (fun z2 => ?_)
  · have z2 : h 8 x3 < x4 := z2
    replace H := H.1 z2
    show X 97 62 [vR 4, vI x1, vI x2, vI x3, vI x4, w5, w6] [] h _
    obtain ⟨c3, H⟩ := H
    refine X_b 1 63 (L := L_97) rfl rfl rfl ?_
    show (-2147483648 ≤ x3 + 1 ∧ x3 + 1 ≤ 2147483647) ∧ X 97 63 [vR 4, vI x1, vI x2, vI (x3 + 1), vI x4, w5, w6] [] h _
    refine ⟨c3, ?_⟩
    refine X_goto (L := L_97) (n' := 9) rfl rfl rfl rfl ?_
    show X 97 9 [vR 4, vI x1, vI x2, vI (x3 + 1), vI x4, w5, w6] [] h _
    exact H
  · have z2 : x4 ≤ h 8 x3 := (Int.not_lt.mp z2)
    replace H := H.2 z2
    show X 97 23 [vR 4, vI x1, vI x2, vI x3, vI x4, w5, w6] [] h _
    obtain ⟨⟨c4, c5, c6, c7⟩, H⟩ := H
    refine X_b 5 28 (L := L_97) rfl rfl rfl ?_
    show X 97 28 [vR 4, vI x1, vI x2, vI x3, vI x4, w5, w6] [vI x4, vI x3, vI x2, vR 2] h _
    refine X_call 80 [vR 2, vI x2, vI x3, vI x4] [] rfl (sg_calv rfl rfl rfl rfl rfl rfl rfl rfl rfl rfl rfl) (by decide) ?_
    show X 80 0 [vR 2, vI x2, vI x3, vI x4] [] h _
    refine X_b 7 7 (L := L_80) rfl rfl rfl ?_
    show (-2147483648 ≤ x2 * 45 ∧ x2 * 45 ≤ 2147483647) ∧ X 80 7 [vR 2, vI x2, vI x3, vI x4] [vI x4, vI x3, vI (x2 * 45), vR 13] h _
    refine ⟨c4, ?_⟩
    refine X_call 27 [vI x3, vI x4] [vI (x2 * 45), vR 13] rfl (sg_cals rfl rfl rfl rfl rfl rfl rfl rfl rfl rfl) (by decide) ?_
    show X 27 0 [vI x3, vI x4] [] h _
    refine X_b 5 5 (L := L_27) rfl rfl rfl ?_
    show (-2147483648 ≤ x3 * 5 ∧ x3 * 5 ≤ 2147483647) ∧ (-2147483648 ≤ (x3 * 5) + x4 ∧ (x3 * 5) + x4 ≤ 2147483647) ∧ X 27 5 [vI x3, vI x4] [vI ((x3 * 5) + x4)] h _
    refine ⟨c5, c6, ?_⟩
    refine X_iret (L := L_27) rfl rfl rfl rfl ?_
    show X 80 8 [vR 2, vI x2, vI x3, vI x4] [vI ((x3 * 5) + x4), vI (x2 * 45), vR 13] h _
    refine X_b 2 10 (L := L_80) rfl rfl rfl ?_
    show (-2147483648 ≤ (x2 * 45) + ((x3 * 5) + x4) ∧ (x2 * 45) + ((x3 * 5) + x4) ≤ 2147483647) ∧ (0 ≤ (x2 * 45) + ((x3 * 5) + x4) ∧ (x2 * 45) + ((x3 * 5) + x4) < 2250) ∧ X 80 10 [vR 2, vI x2, vI x3, vI x4] [vI (h 13 ((x2 * 45) + ((x3 * 5) + x4)))] h _
    refine ⟨by have := c7; omega, c7, ?_⟩
    refine X_iret (L := L_80) rfl rfl rfl rfl ?_
    show X 97 29 [vR 4, vI x1, vI x2, vI x3, vI x4, w5, w6] [vI (h 13 ((x2 * 45) + ((x3 * 5) + x4)))] h _
    refine X_b 3 32 (L := L_97) rfl rfl rfl ?_
    show X 97 32 [vR 4, vI x1, vI x2, vI x3, vI x4, vI (h 13 ((x2 * 45) + ((x3 * 5) + x4))), vI 4] [] h _
    exact H

set_option maxRecDepth 8192 in
/-- Checker.findsItem, row 32 -/
theorem s_97_32 (x1 x2 x3 x4 x5 x6 : Int) (h : ab_S) (K : ab_O → ab_S → Prop) (H : ((9 < x6 → ((-2147483648 ≤ x4 + 1 ∧ x4 + 1 ≤ 2147483647)) ∧ X 97 16 [vR 4, vI x1, vI x2, vI x3, vI (x4 + 1), vI x5, vI x6] [] h K) ∧ (x6 ≤ 9 → ((x5 = 0 → ((-2147483648 ≤ x4 + 1 ∧ x4 + 1 ≤ 2147483647)) ∧ X 97 16 [vR 4, vI x1, vI x2, vI x3, vI (x4 + 1), vI x5, vI x6] [] h K) ∧ (¬ x5 = 0 → ((-2147483648 ≤ x6 - 4 ∧ x6 - 4 ≤ 2147483647)) ∧ ((b_and x5 (b_shl 1 (x6 - 4)) = 0 → ((-2147483648 ≤ x6 + 1 ∧ x6 + 1 ≤ 2147483647)) ∧ X 97 32 [vR 4, vI x1, vI x2, vI x3, vI x4, vI x5, vI (x6 + 1)] [] h K) ∧ (¬ b_and x5 (b_shl 1 (x6 - 4)) = 0 → C 98 [vR 4, vI x1, vI x2, vI x3, vI x4, vI x6] h (kI (fun v8 h8 => ((v8 = 0 → ((-2147483648 ≤ x6 + 1 ∧ x6 + 1 ≤ 2147483647)) ∧ X 97 32 [vR 4, vI x1, vI x2, vI x3, vI x4, vI x5, vI (x6 + 1)] [] h8 K) ∧ (¬ v8 = 0 → K (oI 1) (ab_up (ab_up (ab_up (ab_up h8 15 0 x2) 15 1 x3) 15 2 x4) 15 3 x6)))))))))))) : X 97 32 [vR 4, vI x1, vI x2, vI x3, vI x4, vI x5, vI x6] [] h K := by
  refine X_b 2 34 (L := L_97) rfl rfl rfl ?_
  show X 97 34 [vR 4, vI x1, vI x2, vI x3, vI x4, vI x5, vI x6] [vI 9, vI x6] h _
  refine X_icmp (L := L_97) (n' := 60) rfl rfl rfl rfl (fun z1 => ?_) (fun z1 => ?_)
  · have z1 : 9 < x6 := z1
    replace H := H.1 z1
    show X 97 60 [vR 4, vI x1, vI x2, vI x3, vI x4, vI x5, vI x6] [] h _
    obtain ⟨c2, H⟩ := H
    refine X_b 1 61 (L := L_97) rfl rfl rfl ?_
    show (-2147483648 ≤ x4 + 1 ∧ x4 + 1 ≤ 2147483647) ∧ X 97 61 [vR 4, vI x1, vI x2, vI x3, vI (x4 + 1), vI x5, vI x6] [] h _
    refine ⟨c2, ?_⟩
    refine X_goto (L := L_97) (n' := 16) rfl rfl rfl rfl ?_
    show X 97 16 [vR 4, vI x1, vI x2, vI x3, vI (x4 + 1), vI x5, vI x6] [] h _
    exact H
  · have z1 : x6 ≤ 9 := (Int.not_lt.mp z1)
    replace H := H.2 z1
    show X 97 35 [vR 4, vI x1, vI x2, vI x3, vI x4, vI x5, vI x6] [] h _
    refine X_b 1 36 (L := L_97) rfl rfl rfl ?_
    show X 97 36 [vR 4, vI x1, vI x2, vI x3, vI x4, vI x5, vI x6] [vI x5] h _
    refine X_if (L := L_97) (n' := 60) rfl rfl rfl rfl (fun z3 => ?_) (fun z3 => ?_)
    · have z3 : x5 = 0 := z3
      replace H := H.1 z3
      show X 97 60 [vR 4, vI x1, vI x2, vI x3, vI x4, vI x5, vI x6] [] h _
      obtain ⟨c4, H⟩ := H
      refine X_b 1 61 (L := L_97) rfl rfl rfl ?_
      show (-2147483648 ≤ x4 + 1 ∧ x4 + 1 ≤ 2147483647) ∧ X 97 61 [vR 4, vI x1, vI x2, vI x3, vI (x4 + 1), vI x5, vI x6] [] h _
      refine ⟨c4, ?_⟩
      refine X_goto (L := L_97) (n' := 16) rfl rfl rfl rfl ?_
      show X 97 16 [vR 4, vI x1, vI x2, vI x3, vI (x4 + 1), vI x5, vI x6] [] h _
      exact H
    · have z3 : ¬ x5 = 0 := z3
      replace H := H.2 z3
      show X 97 37 [vR 4, vI x1, vI x2, vI x3, vI x4, vI x5, vI x6] [] h _
      obtain ⟨c5, H⟩ := H
      refine X_b 2 39 (L := L_97) rfl rfl rfl ?_
      show X 97 39 [vR 4, vI x1, vI x2, vI x3, vI x4, vI x5, vI x6] [vI x6, vI x5] h _
      refine X_call 26 [vI x6] [vI x5] rfl (sg_cals rfl rfl rfl rfl rfl rfl rfl rfl rfl rfl) (by decide) ?_
      show X 26 0 [vI x6] [] h _
      refine X_b 5 5 (L := L_26) rfl rfl rfl ?_
      show (-2147483648 ≤ x6 - 4 ∧ x6 - 4 ≤ 2147483647) ∧ X 26 5 [vI x6] [vI (b_shl 1 (x6 - 4))] h _
      refine ⟨c5, ?_⟩
      refine X_iret (L := L_26) rfl rfl rfl rfl ?_
      show X 97 40 [vR 4, vI x1, vI x2, vI x3, vI x4, vI x5, vI x6] [vI (b_shl 1 (x6 - 4)), vI x5] h _
      refine X_b 1 41 (L := L_97) rfl rfl rfl ?_
      show X 97 41 [vR 4, vI x1, vI x2, vI x3, vI x4, vI x5, vI x6] [vI (b_and x5 (b_shl 1 (x6 - 4)))] h _
      refine X_if (L := L_97) (n' := 58) rfl rfl rfl rfl (fun z6 => ?_) (fun z6 => ?_)
      · have z6 : b_and x5 (b_shl 1 (x6 - 4)) = 0 := z6
        replace H := H.1 z6
        show X 97 58 [vR 4, vI x1, vI x2, vI x3, vI x4, vI x5, vI x6] [] h _
        obtain ⟨c7, H⟩ := H
        refine X_b 1 59 (L := L_97) rfl rfl rfl ?_
        show (-2147483648 ≤ x6 + 1 ∧ x6 + 1 ≤ 2147483647) ∧ X 97 59 [vR 4, vI x1, vI x2, vI x3, vI x4, vI x5, vI (x6 + 1)] [] h _
        refine ⟨c7, ?_⟩
        refine X_goto (L := L_97) (n' := 32) rfl rfl rfl rfl ?_
        show X 97 32 [vR 4, vI x1, vI x2, vI x3, vI x4, vI x5, vI (x6 + 1)] [] h _
        exact H
      · have z6 : ¬ b_and x5 (b_shl 1 (x6 - 4)) = 0 := z6
        replace H := H.2 z6
        show X 97 42 [vR 4, vI x1, vI x2, vI x3, vI x4, vI x5, vI x6] [] h _
        refine X_b 6 48 (L := L_97) rfl rfl rfl ?_
        show X 97 48 [vR 4, vI x1, vI x2, vI x3, vI x4, vI x5, vI x6] [vI x6, vI x4, vI x3, vI x2, vI x1, vR 4] h _
        refine X_call 98 [vR 4, vI x1, vI x2, vI x3, vI x4, vI x6] [] rfl (sg_calv rfl rfl rfl rfl rfl rfl rfl rfl rfl rfl rfl) (by decide) ?_
        refine C_mono H (kI_to ?_)
        intro v8 h8 H
        show X 97 49 [vR 4, vI x1, vI x2, vI x3, vI x4, vI x5, vI x6] [vI v8] h8 _
        refine X_if (L := L_97) (n' := 58) rfl rfl rfl rfl (fun z9 => ?_) (fun z9 => ?_)
        · have z9 : v8 = 0 := z9
          replace H := H.1 z9
          show X 97 58 [vR 4, vI x1, vI x2, vI x3, vI x4, vI x5, vI x6] [] h8 _
          obtain ⟨c10, H⟩ := H
          refine X_b 1 59 (L := L_97) rfl rfl rfl ?_
          show (-2147483648 ≤ x6 + 1 ∧ x6 + 1 ≤ 2147483647) ∧ X 97 59 [vR 4, vI x1, vI x2, vI x3, vI x4, vI x5, vI (x6 + 1)] [] h8 _
          refine ⟨c10, ?_⟩
          refine X_goto (L := L_97) (n' := 32) rfl rfl rfl rfl ?_
          show X 97 32 [vR 4, vI x1, vI x2, vI x3, vI x4, vI x5, vI (x6 + 1)] [] h8 _
          exact H
        · have z9 : ¬ v8 = 0 := z9
          replace H := H.2 z9
          show X 97 50 [vR 4, vI x1, vI x2, vI x3, vI x4, vI x5, vI x6] [] h8 _
          refine X_b 5 55 (L := L_97) rfl rfl rfl ?_
          show X 97 55 [vR 4, vI x1, vI x2, vI x3, vI x4, vI x5, vI x6] [vI x6, vI x4, vI x3, vI x2, vR 4] h8 _
          refine X_call 93 [vR 4, vI x2, vI x3, vI x4, vI x6] [] rfl (sg_calv rfl rfl rfl rfl rfl rfl rfl rfl rfl rfl rfl) (by decide) ?_
          show X 93 0 [vR 4, vI x2, vI x3, vI x4, vI x6] [] h8 _
          refine X_b 20 20 (L := L_93) rfl rfl rfl ?_
          show (0 ≤ (0 : Int) ∧ (0 : Int) < 4) ∧ (0 ≤ (1 : Int) ∧ (1 : Int) < 4) ∧ (0 ≤ (2 : Int) ∧ (2 : Int) < 4) ∧ (0 ≤ (3 : Int) ∧ (3 : Int) < 4) ∧ X 93 20 [vR 4, vI x2, vI x3, vI x4, vI x6] [] (ab_up (ab_up (ab_up (ab_up h8 15 0 x2) 15 1 x3) 15 2 x4) 15 3 x6) _
          refine ⟨by decide, by decide, by decide, by decide, ?_⟩
          refine X_ret (L := L_93) rfl rfl rfl rfl ?_
          show X 97 56 [vR 4, vI x1, vI x2, vI x3, vI x4, vI x5, vI x6] [] (ab_up (ab_up (ab_up (ab_up h8 15 0 x2) 15 1 x3) 15 2 x4) 15 3 x6) _
          refine X_b 1 57 (L := L_97) rfl rfl rfl ?_
          show X 97 57 [vR 4, vI x1, vI x2, vI x3, vI x4, vI x5, vI x6] [vI 1] (ab_up (ab_up (ab_up (ab_up h8 15 0 x2) 15 1 x3) 15 2 x4) 15 3 x6) _
          refine X_zret (L := L_97) rfl rfl rfl rfl (by decide) ?_
          exact H
end Seg
