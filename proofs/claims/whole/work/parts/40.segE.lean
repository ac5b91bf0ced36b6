/-! By program (wip/gen/seg.py): stretches of methods as formulas. -/
section Seg
/-- PPModel.set, row 0 -/
theorem s_54_0 (x1 x2 x3 : Int) (h : ab_S) (K : ab_O → ab_S → Prop) (H : ((x3 = (-1) → ((x1 < 0 → K oV (ab_up h 6 0 1)) ∧ (0 ≤ x1 → ((h 6 7 ≤ x1 → K oV (ab_up h 6 0 1)) ∧ (x1 < h 6 7 → ((x2 < 0 → K oV (ab_up h 6 0 1)) ∧ (0 ≤ x2 → ((9 < x2 → K oV (ab_up h 6 0 1)) ∧ (x2 ≤ 9 → ((-2147483648 ≤ 10 * x1 ∧ 10 * x1 ≤ 2147483647) ∧ (0 ≤ (10 * x1) + x2 ∧ (10 * x1) + x2 < 500)) ∧ K oV (ab_up (ab_up (ab_up (ab_up h 6 0 0) 26 ((10 * x1) + x2) x3) 6 19 0) 6 22 0)))))))))) ∧ (¬ x3 = (-1) → ((x3 < 0 → ((x3 < 100 → ((¬ x3 = 200 → ((x1 < 0 → K oV (ab_up h 6 0 1)) ∧ (0 ≤ x1 → ((h 6 7 ≤ x1 → K oV (ab_up h 6 0 1)) ∧ (x1 < h 6 7 → ((x2 < 0 → K oV (ab_up h 6 0 1)) ∧ (0 ≤ x2 → ((9 < x2 → K oV (ab_up h 6 0 1)) ∧ (x2 ≤ 9 → K oV (ab_up h 6 0 2)))))))))) ∧ (x3 = 200 → ((x1 < 0 → K oV (ab_up h 6 0 1)) ∧ (0 ≤ x1 → ((h 6 7 ≤ x1 → K oV (ab_up h 6 0 1)) ∧ (x1 < h 6 7 → ((x2 < 0 → K oV (ab_up h 6 0 1)) ∧ (0 ≤ x2 → ((9 < x2 → K oV (ab_up h 6 0 1)) ∧ (x2 ≤ 9 → ((-2147483648 ≤ 10 * x1 ∧ 10 * x1 ≤ 2147483647) ∧ (0 ≤ (10 * x1) + x2 ∧ (10 * x1) + x2 < 500)) ∧ K oV (ab_up (ab_up (ab_up (ab_up h 6 0 0) 26 ((10 * x1) + x2) x3) 6 19 0) 6 22 0)))))))))))) ∧ (100 ≤ x3 → ((-2147483648 ≤ 100 + (h 6 1) ∧ 100 + (h 6 1) ≤ 2147483647)) ∧ ((x3 ≤ 100 + (h 6 1) → ((x1 < 0 → K oV (ab_up h 6 0 1)) ∧ (0 ≤ x1 → ((h 6 7 ≤ x1 → K oV (ab_up h 6 0 1)) ∧ (x1 < h 6 7 → ((x2 < 0 → K oV (ab_up h 6 0 1)) ∧ (0 ≤ x2 → ((9 < x2 → K oV (ab_up h 6 0 1)) ∧ (x2 ≤ 9 → ((-2147483648 ≤ 10 * x1 ∧ 10 * x1 ≤ 2147483647) ∧ (0 ≤ (10 * x1) + x2 ∧ (10 * x1) + x2 < 500)) ∧ K oV (ab_up (ab_up (ab_up (ab_up h 6 0 0) 26 ((10 * x1) + x2) x3) 6 19 0) 6 22 0)))))))))) ∧ (100 + (h 6 1) < x3 → ((¬ x3 = 200 → ((x1 < 0 → K oV (ab_up h 6 0 1)) ∧ (0 ≤ x1 → ((h 6 7 ≤ x1 → K oV (ab_up h 6 0 1)) ∧ (x1 < h 6 7 → ((x2 < 0 → K oV (ab_up h 6 0 1)) ∧ (0 ≤ x2 → ((9 < x2 → K oV (ab_up h 6 0 1)) ∧ (x2 ≤ 9 → K oV (ab_up h 6 0 2)))))))))) ∧ (x3 = 200 → ((x1 < 0 → K oV (ab_up h 6 0 1)) ∧ (0 ≤ x1 → ((h 6 7 ≤ x1 → K oV (ab_up h 6 0 1)) ∧ (x1 < h 6 7 → ((x2 < 0 → K oV (ab_up h 6 0 1)) ∧ (0 ≤ x2 → ((9 < x2 → K oV (ab_up h 6 0 1)) ∧ (x2 ≤ 9 → ((-2147483648 ≤ 10 * x1 ∧ 10 * x1 ≤ 2147483647) ∧ (0 ≤ (10 * x1) + x2 ∧ (10 * x1) + x2 < 500)) ∧ K oV (ab_up (ab_up (ab_up (ab_up h 6 0 0) 26 ((10 * x1) + x2) x3) 6 19 0) 6 22 0)))))))))))))))) ∧ (0 ≤ x3 → ((h 6 7 ≤ x3 → ((x3 < 100 → ((¬ x3 = 200 → ((x1 < 0 → K oV (ab_up h 6 0 1)) ∧ (0 ≤ x1 → ((h 6 7 ≤ x1 → K oV (ab_up h 6 0 1)) ∧ (x1 < h 6 7 → ((x2 < 0 → K oV (ab_up h 6 0 1)) ∧ (0 ≤ x2 → ((9 < x2 → K oV (ab_up h 6 0 1)) ∧ (x2 ≤ 9 → K oV (ab_up h 6 0 2)))))))))) ∧ (x3 = 200 → ((x1 < 0 → K oV (ab_up h 6 0 1)) ∧ (0 ≤ x1 → ((h 6 7 ≤ x1 → K oV (ab_up h 6 0 1)) ∧ (x1 < h 6 7 → ((x2 < 0 → K oV (ab_up h 6 0 1)) ∧ (0 ≤ x2 → ((9 < x2 → K oV (ab_up h 6 0 1)) ∧ (x2 ≤ 9 → ((-2147483648 ≤ 10 * x1 ∧ 10 * x1 ≤ 2147483647) ∧ (0 ≤ (10 * x1) + x2 ∧ (10 * x1) + x2 < 500)) ∧ K oV (ab_up (ab_up (ab_up (ab_up h 6 0 0) 26 ((10 * x1) + x2) x3) 6 19 0) 6 22 0)))))))))))) ∧ (100 ≤ x3 → ((-2147483648 ≤ 100 + (h 6 1) ∧ 100 + (h 6 1) ≤ 2147483647)) ∧ ((x3 ≤ 100 + (h 6 1) → ((x1 < 0 → K oV (ab_up h 6 0 1)) ∧ (0 ≤ x1 → ((h 6 7 ≤ x1 → K oV (ab_up h 6 0 1)) ∧ (x1 < h 6 7 → ((x2 < 0 → K oV (ab_up h 6 0 1)) ∧ (0 ≤ x2 → ((9 < x2 → K oV (ab_up h 6 0 1)) ∧ (x2 ≤ 9 → ((-2147483648 ≤ 10 * x1 ∧ 10 * x1 ≤ 2147483647) ∧ (0 ≤ (10 * x1) + x2 ∧ (10 * x1) + x2 < 500)) ∧ K oV (ab_up (ab_up (ab_up (ab_up h 6 0 0) 26 ((10 * x1) + x2) x3) 6 19 0) 6 22 0)))))))))) ∧ (100 + (h 6 1) < x3 → ((¬ x3 = 200 → ((x1 < 0 → K oV (ab_up h 6 0 1)) ∧ (0 ≤ x1 → ((h 6 7 ≤ x1 → K oV (ab_up h 6 0 1)) ∧ (x1 < h 6 7 → ((x2 < 0 → K oV (ab_up h 6 0 1)) ∧ (0 ≤ x2 → ((9 < x2 → K oV (ab_up h 6 0 1)) ∧ (x2 ≤ 9 → K oV (ab_up h 6 0 2)))))))))) ∧ (x3 = 200 → ((x1 < 0 → K oV (ab_up h 6 0 1)) ∧ (0 ≤ x1 → ((h 6 7 ≤ x1 → K oV (ab_up h 6 0 1)) ∧ (x1 < h 6 7 → ((x2 < 0 → K oV (ab_up h 6 0 1)) ∧ (0 ≤ x2 → ((9 < x2 → K oV (ab_up h 6 0 1)) ∧ (x2 ≤ 9 → ((-2147483648 ≤ 10 * x1 ∧ 10 * x1 ≤ 2147483647) ∧ (0 ≤ (10 * x1) + x2 ∧ (10 * x1) + x2 < 500)) ∧ K oV (ab_up (ab_up (ab_up (ab_up h 6 0 0) 26 ((10 * x1) + x2) x3) 6 19 0) 6 22 0)))))))))))))))) ∧ (x3 < h 6 7 → ((x1 < 0 → K oV (ab_up h 6 0 1)) ∧ (0 ≤ x1 → ((h 6 7 ≤ x1 → K oV (ab_up h 6 0 1)) ∧ (x1 < h 6 7 → ((x2 < 0 → K oV (ab_up h 6 0 1)) ∧ (0 ≤ x2 → ((9 < x2 → K oV (ab_up h 6 0 1)) ∧ (x2 ≤ 9 → ((-2147483648 ≤ 10 * x1 ∧ 10 * x1 ≤ 2147483647) ∧ (0 ≤ (10 * x1) + x2 ∧ (10 * x1) + x2 < 500)) ∧ K oV (ab_up (ab_up (ab_up (ab_up h 6 0 0) 26 ((10 * x1) + x2) x3) 6 19 0) 6 22 0)))))))))))))))) : C 54 [vR 6, vI x1, vI x2, vI x3] h K := by
  show X 54 0 [vR 6, vI x1, vI x2, vI x3, vJ 0] [] h K
  refine X_b 2 2 (L := L_54) rfl rfl rfl ?_
  show X 54 2 [vR 6, vI x1, vI x2, vI x3, vJ 0] [vI (-1), vI x3] h _
  refine X_icmp (L := L_54) (n' := 19) rfl rfl rfl rfl (fun z1 => ?_) (fun z1 => ?_)
  · have z1 : x3 = (-1) := z1
    replace H := H.1 z1
    show X 54 19 [vR 6, vI x1, vI x2, vI x3, vJ 0] [] h _
    refine X_b 1 20 (L := L_54) rfl rfl rfl ?_
    show X 54 20 [vR 6, vI x1, vI x2, vI x3, vJ 0] [vI 1] h _
    refine X_goto (L := L_54) (n' := 22) rfl rfl rfl rfl ?_
    show X 54 22 [vR 6, vI x1, vI x2, vI x3, vJ 0] [vI 1] h _
    refine X_b 4 26 (L := L_54) rfl rfl rfl ?_
    show X 54 26 [vR 6, vI x1, vI x2, vI x3, vI 1] [vI x1, vR 6, vR 6] h _
    refine X_call 51 [vR 6, vI x1] [vR 6] rfl (sg_calv rfl rfl rfl rfl rfl rfl rfl rfl rfl rfl rfl) (by decide) ?_
    show X 51 0 [vR 6, vI x1] [] h _
    refine X_b 1 1 (L := L_51) rfl rfl rfl ?_
    show X 51 1 [vR 6, vI x1] [vI x1] h _
    refine X_if (L := L_51) (n' := 8) rfl rfl rfl rfl (fun z2 => ?_) (fun z2 => ?_)
    · have z2 : x1 < 0 := z2
      replace H := H.1 z2
      show X 51 8 [vR 6, vI x1] [] h _
      refine X_b 1 9 (L := L_51) rfl rfl rfl ?_
      show X 51 9 [vR 6, vI x1] [vI 0] h _
      refine X_zret (L := L_51) rfl rfl rfl rfl (by decide) ?_
      show X 54 27 [vR 6, vI x1, vI x2, vI x3, vI 1] [vI 0, vR 6] h _
      refine X_if (L := L_54) (n' := 31) rfl rfl rfl rfl (fun _ => ?_) (fun z => absurd (show (0 : Int) = (0 : Int) by decide) z)
      show X 54 31 [vR 6, vI x1, vI x2, vI x3, vI 1] [vR 6] h _
      refine X_b 1 32 (L := L_54) rfl rfl rfl ?_
      show X 54 32 [vR 6, vI x1, vI x2, vI x3, vI 1] [vI 1, vR 6] h _
      refine X_goto (L := L_54) (n' := 38) rfl rfl rfl rfl ?_
      show X 54 38 [vR 6, vI x1, vI x2, vI x3, vI 1] [vI 1, vR 6] h _
      refine X_b 3 41 (L := L_54) rfl rfl rfl ?_
      show X 54 41 [vR 6, vI x1, vI x2, vI x3, vI 1] [vI 1] (ab_up h 6 0 1) _
      refine X_if (L := L_54) (n' := 43) rfl rfl rfl rfl (fun z => absurd z (show ¬ ((1 : Int) ≤ (0 : Int)) by decide)) (fun _ => ?_)
      show X 54 42 [vR 6, vI x1, vI x2, vI x3, vI 1] [] (ab_up h 6 0 1) _
      refine X_ret (L := L_54) rfl rfl rfl rfl ?_
      exact H
    · have z2 : 0 ≤ x1 := (Int.not_lt.mp z2)
      replace H := H.2 z2
      show X 51 2 [vR 6, vI x1] [] h _
      refine X_b 3 5 (L := L_51) rfl rfl rfl ?_
      show X 51 5 [vR 6, vI x1] [vI (h 6 7), vI x1] h _
      refine X_icmp (L := L_51) (n' := 8) rfl rfl rfl rfl (fun z3 => ?_) (fun z3 => ?_)
      · have z3 : h 6 7 ≤ x1 := z3
        replace H := H.1 z3
        show X 51 8 [vR 6, vI x1] [] h _
        refine X_b 1 9 (L := L_51) rfl rfl rfl ?_
        show X 51 9 [vR 6, vI x1] [vI 0] h _
        refine X_zret (L := L_51) rfl rfl rfl rfl (by decide) ?_
        show X 54 27 [vR 6, vI x1, vI x2, vI x3, vI 1] [vI 0, vR 6] h _
        refine X_if (L := L_54) (n' := 31) rfl rfl rfl rfl (fun _ => ?_) (fun z => absurd (show (0 : Int) = (0 : Int) by decide) z)
        show X 54 31 [vR 6, vI x1, vI x2, vI x3, vI 1] [vR 6] h _
        refine X_b 1 32 (L := L_54) rfl rfl rfl ?_
        show X 54 32 [vR 6, vI x1, vI x2, vI x3, vI 1] [vI 1, vR 6] h _
        refine X_goto (L := L_54) (n' := 38) rfl rfl rfl rfl ?_
        show X 54 38 [vR 6, vI x1, vI x2, vI x3, vI 1] [vI 1, vR 6] h _
        refine X_b 3 41 (L := L_54) rfl rfl rfl ?_
        show X 54 41 [vR 6, vI x1, vI x2, vI x3, vI 1] [vI 1] (ab_up h 6 0 1) _
        refine X_if (L := L_54) (n' := 43) rfl rfl rfl rfl (fun z => absurd z (show ¬ ((1 : Int) ≤ (0 : Int)) by decide)) (fun _ => ?_)
        show X 54 42 [vR 6, vI x1, vI x2, vI x3, vI 1] [] (ab_up h 6 0 1) _
        refine X_ret (L := L_54) rfl rfl rfl rfl ?_
        exact H
      · have z3 : x1 < h 6 7 := (Int.not_le.mp z3)
        replace H := H.2 z3
        show X 51 6 [vR 6, vI x1] [] h _
        refine X_b 1 7 (L := L_51) rfl rfl rfl ?_
        show X 51 7 [vR 6, vI x1] [vI 1] h _
        refine X_goto (L := L_51) (n' := 9) rfl rfl rfl rfl ?_
        show X 51 9 [vR 6, vI x1] [vI 1] h _
        refine X_zret (L := L_51) rfl rfl rfl rfl (by decide) ?_
        show X 54 27 [vR 6, vI x1, vI x2, vI x3, vI 1] [vI 1, vR 6] h _
        refine X_if (L := L_54) (n' := 31) rfl rfl rfl rfl (fun z => absurd z (show ¬ ((1 : Int) = (0 : Int)) by decide)) (fun _ => ?_)
        show X 54 28 [vR 6, vI x1, vI x2, vI x3, vI 1] [vR 6] h _
        refine X_b 1 29 (L := L_54) rfl rfl rfl ?_
        show X 54 29 [vR 6, vI x1, vI x2, vI x3, vI 1] [vI x2, vR 6] h _
        refine X_call 52 [vI x2] [vR 6] rfl (sg_cals rfl rfl rfl rfl rfl rfl rfl rfl rfl rfl) (by decide) ?_
        show X 52 0 [vI x2] [] h _
        refine X_b 1 1 (L := L_52) rfl rfl rfl ?_
        show X 52 1 [vI x2] [vI x2] h _
        refine X_if (L := L_52) (n' := 7) rfl rfl rfl rfl (fun z4 => ?_) (fun z4 => ?_)
        · have z4 : x2 < 0 := z4
          replace H := H.1 z4
          show X 52 7 [vI x2] [] h _
          refine X_b 1 8 (L := L_52) rfl rfl rfl ?_
          show X 52 8 [vI x2] [vI 0] h _
          refine X_zret (L := L_52) rfl rfl rfl rfl (by decide) ?_
          show X 54 30 [vR 6, vI x1, vI x2, vI x3, vI 1] [vI 0, vR 6] h _
          refine X_if (L := L_54) (n' := 33) rfl rfl rfl rfl (fun z => absurd z (show ¬ (¬ (0 : Int) = (0 : Int)) by decide)) (fun _ => ?_)
          show X 54 31 [vR 6, vI x1, vI x2, vI x3, vI 1] [vR 6] h _
          refine X_b 1 32 (L := L_54) rfl rfl rfl ?_
          show X 54 32 [vR 6, vI x1, vI x2, vI x3, vI 1] [vI 1, vR 6] h _
          refine X_goto (L := L_54) (n' := 38) rfl rfl rfl rfl ?_
          show X 54 38 [vR 6, vI x1, vI x2, vI x3, vI 1] [vI 1, vR 6] h _
          refine X_b 3 41 (L := L_54) rfl rfl rfl ?_
          show X 54 41 [vR 6, vI x1, vI x2, vI x3, vI 1] [vI 1] (ab_up h 6 0 1) _
          refine X_if (L := L_54) (n' := 43) rfl rfl rfl rfl (fun z => absurd z (show ¬ ((1 : Int) ≤ (0 : Int)) by decide)) (fun _ => ?_)
          show X 54 42 [vR 6, vI x1, vI x2, vI x3, vI 1] [] (ab_up h 6 0 1) _
          refine X_ret (L := L_54) rfl rfl rfl rfl ?_
          exact H
        · have z4 : 0 ≤ x2 := (Int.not_lt.mp z4)
          replace H := H.2 z4
          show X 52 2 [vI x2] [] h _
          refine X_b 2 4 (L := L_52) rfl rfl rfl ?_
          show X 52 4 [vI x2] [vI 9, vI x2] h _
          refine X_icmp (L := L_52) (n' := 7) rfl rfl rfl rfl (fun z5 => ?_) (fun z5 => ?_)
          · have z5 : 9 < x2 := z5
            replace H := H.1 z5
            show X 52 7 [vI x2] [] h _
            refine X_b 1 8 (L := L_52) rfl rfl rfl ?_
            show X 52 8 [vI x2] [vI 0] h _
            refine X_zret (L := L_52) rfl rfl rfl rfl (by decide) ?_
            show X 54 30 [vR 6, vI x1, vI x2, vI x3, vI 1] [vI 0, vR 6] h _
            refine X_if (L := L_54) (n' := 33) rfl rfl rfl rfl (fun z => absurd z (show ¬ (¬ (0 : Int) = (0 : Int)) by decide)) (fun _ => ?_)
            show X 54 31 [vR 6, vI x1, vI x2, vI x3, vI 1] [vR 6] h _
            refine X_b 1 32 (L := L_54) rfl rfl rfl ?_
            show X 54 32 [vR 6, vI x1, vI x2, vI x3, vI 1] [vI 1, vR 6] h _
            refine X_goto (L := L_54) (n' := 38) rfl rfl rfl rfl ?_
            show X 54 38 [vR 6, vI x1, vI x2, vI x3, vI 1] [vI 1, vR 6] h _
            refine X_b 3 41 (L := L_54) rfl rfl rfl ?_
            show X 54 41 [vR 6, vI x1, vI x2, vI x3, vI 1] [vI 1] (ab_up h 6 0 1) _
            refine X_if (L := L_54) (n' := 43) rfl rfl rfl rfl (fun z => absurd z (show ¬ ((1 : Int) ≤ (0 : Int)) by decide)) (fun _ => ?_)
            show X 54 42 [vR 6, vI x1, vI x2, vI x3, vI 1] [] (ab_up h 6 0 1) _
            refine X_ret (L := L_54) rfl rfl rfl rfl ?_
            exact H
          · have z5 : x2 ≤ 9 := (Int.not_lt.mp z5)
            replace H := H.2 z5
            show X 52 5 [vI x2] [] h _
            obtain ⟨⟨c6, c7⟩, H⟩ := H
            refine X_b 1 6 (L := L_52) rfl rfl rfl ?_
            show X 52 6 [vI x2] [vI 1] h _
            refine X_goto (L := L_52) (n' := 8) rfl rfl rfl rfl ?_
            show X 52 8 [vI x2] [vI 1] h _
            refine X_zret (L := L_52) rfl rfl rfl rfl (by decide) ?_
            show X 54 30 [vR 6, vI x1, vI x2, vI x3, vI 1] [vI 1, vR 6] h _
            refine X_if (L := L_54) (n' := 33) rfl rfl rfl rfl (fun _ => ?_) (fun z => absurd (show ¬ (1 : Int) = (0 : Int) by decide) z)
            show X 54 33 [vR 6, vI x1, vI x2, vI x3, vI 1] [vR 6] h _
            refine X_b 1 34 (L := L_54) rfl rfl rfl ?_
            show X 54 34 [vR 6, vI x1, vI x2, vI x3, vI 1] [vI 1, vR 6] h _
            refine X_if (L := L_54) (n' := 37) rfl rfl rfl rfl (fun z => absurd z (show ¬ ((1 : Int) = (0 : Int)) by decide)) (fun _ => ?_)
            show X 54 35 [vR 6, vI x1, vI x2, vI x3, vI 1] [vR 6] h _
            refine X_b 1 36 (L := L_54) rfl rfl rfl ?_
            show X 54 36 [vR 6, vI x1, vI x2, vI x3, vI 1] [vI 0, vR 6] h _
            refine X_goto (L := L_54) (n' := 38) rfl rfl rfl rfl ?_
            show X 54 38 [vR 6, vI x1, vI x2, vI x3, vI 1] [vI 0, vR 6] h _
            refine X_b 3 41 (L := L_54) rfl rfl rfl ?_
            show X 54 41 [vR 6, vI x1, vI x2, vI x3, vI 1] [vI 0] (ab_up h 6 0 0) _
            refine X_if (L := L_54) (n' := 43) rfl rfl rfl rfl (fun _ => ?_) (fun z => absurd (show (0 : Int) ≤ (0 : Int) by decide) z)
            show X 54 43 [vR 6, vI x1, vI x2, vI x3, vI 1] [] (ab_up h 6 0 0) _
            refine X_b 10 53 (L := L_54) rfl rfl rfl ?_
            show (-2147483648 ≤ 10 * x1 ∧ 10 * x1 ≤ 2147483647) ∧ (-2147483648 ≤ (10 * x1) + x2 ∧ (10 * x1) + x2 ≤ 2147483647) ∧ (0 ≤ (10 * x1) + x2 ∧ (10 * x1) + x2 < 500) ∧ X 54 53 [vR 6, vI x1, vI x2, vI x3, vI 1] [vR 6] (ab_up (ab_up h 6 0 0) 26 ((10 * x1) + x2) x3) _
            refine ⟨c6, by have := c7; omega, c7, ?_⟩
            refine X_call 30 [vR 6] [] rfl (sg_calv rfl rfl rfl rfl rfl rfl rfl rfl rfl rfl rfl) (by decide) ?_
            show X 30 0 [vR 6] [] (ab_up (ab_up h 6 0 0) 26 ((10 * x1) + x2) x3) _
            refine X_b 6 6 (L := L_30) rfl rfl rfl ?_
            show ((0 : Int) = 0 ∨ (0 : Int) = 1) ∧ X 30 6 [vR 6] [] (ab_up (ab_up (ab_up (ab_up h 6 0 0) 26 ((10 * x1) + x2) x3) 6 19 0) 6 22 0) _
            refine ⟨by decide, ?_⟩
            refine X_ret (L := L_30) rfl rfl rfl rfl ?_
            show X 54 54 [vR 6, vI x1, vI x2, vI x3, vI 1] [] (ab_up (ab_up (ab_up (ab_up h 6 0 0) 26 ((10 * x1) + x2) x3) 6 19 0) 6 22 0) _
            refine X_ret (L := L_54) rfl rfl rfl rfl ?_
            exact H
  · have z1 : ¬ x3 = (-1) := z1
    replace H := H.2 z1
    show X 54 3 [vR 6, vI x1, vI x2, vI x3, vJ 0] [] h _
    refine X_b 2 5 (L := L_54) rfl rfl rfl ?_
    show X 54 5 [vR 6, vI x1, vI x2, vI x3, vJ 0] [vI x3, vR 6] h _
    refine X_call 51 [vR 6, vI x3] [] rfl (sg_calv rfl rfl rfl rfl rfl rfl rfl rfl rfl rfl rfl) (by decide) ?_
    show X 51 0 [vR 6, vI x3] [] h _
    refine X_b 1 1 (L := L_51) rfl rfl rfl ?_
    show X 51 1 [vR 6, vI x3] [vI x3] h _
    refine X_if (L := L_51) (n' := 8) rfl rfl rfl rfl (fun z8 => ?_) (fun z8 => ?_)
    · have z8 : x3 < 0 := z8
      replace H := H.1 z8
      show X 51 8 [vR 6, vI x3] [] h _
      refine X_b 1 9 (L := L_51) rfl rfl rfl ?_
      show X 51 9 [vR 6, vI x3] [vI 0] h _
      refine X_zret (L := L_51) rfl rfl rfl rfl (by decide) ?_
      show X 54 6 [vR 6, vI x1, vI x2, vI x3, vJ 0] [vI 0] h _
      refine X_if (L := L_54) (n' := 19) rfl rfl rfl rfl (fun z => absurd z (show ¬ (¬ (0 : Int) = (0 : Int)) by decide)) (fun _ => ?_)
      show X 54 7 [vR 6, vI x1, vI x2, vI x3, vJ 0] [] h _
      refine X_b 2 9 (L := L_54) rfl rfl rfl ?_
      show X 54 9 [vR 6, vI x1, vI x2, vI x3, vJ 0] [vI 100, vI x3] h _
      refine X_icmp (L := L_54) (n' := 16) rfl rfl rfl rfl (fun z9 => ?_) (fun z9 => ?_)
      · have z9 : x3 < 100 := z9
        replace H := H.1 z9
        show X 54 16 [vR 6, vI x1, vI x2, vI x3, vJ 0] [] h _
        refine X_b 2 18 (L := L_54) rfl rfl rfl ?_
        show X 54 18 [vR 6, vI x1, vI x2, vI x3, vJ 0] [vI 200, vI x3] h _
        refine X_icmp (L := L_54) (n' := 21) rfl rfl rfl rfl (fun z10 => ?_) (fun z10 => ?_)
        · have z10 : ¬ x3 = 200 := z10
          replace H := H.1 z10
          show X 54 21 [vR 6, vI x1, vI x2, vI x3, vJ 0] [] h _
          refine X_b 5 26 (L := L_54) rfl rfl rfl ?_
          show X 54 26 [vR 6, vI x1, vI x2, vI x3, vI 0] [vI x1, vR 6, vR 6] h _
          refine X_call 51 [vR 6, vI x1] [vR 6] rfl (sg_calv rfl rfl rfl rfl rfl rfl rfl rfl rfl rfl rfl) (by decide) ?_
          show X 51 0 [vR 6, vI x1] [] h _
          refine X_b 1 1 (L := L_51) rfl rfl rfl ?_
          show X 51 1 [vR 6, vI x1] [vI x1] h _
          refine X_if (L := L_51) (n' := 8) rfl rfl rfl rfl (fun z11 => ?_) (fun z11 => ?_)
          · have z11 : x1 < 0 := z11
            replace H := H.1 z11
            show X 51 8 [vR 6, vI x1] [] h _
            refine X_b 1 9 (L := L_51) rfl rfl rfl ?_
            show X 51 9 [vR 6, vI x1] [vI 0] h _
            refine X_zret (L := L_51) rfl rfl rfl rfl (by decide) ?_
            show X 54 27 [vR 6, vI x1, vI x2, vI x3, vI 0] [vI 0, vR 6] h _
            refine X_if (L := L_54) (n' := 31) rfl rfl rfl rfl (fun _ => ?_) (fun z => absurd (show (0 : Int) = (0 : Int) by decide) z)
            show X 54 31 [vR 6, vI x1, vI x2, vI x3, vI 0] [vR 6] h _
            refine X_b 1 32 (L := L_54) rfl rfl rfl ?_
            show X 54 32 [vR 6, vI x1, vI x2, vI x3, vI 0] [vI 1, vR 6] h _
            refine X_goto (L := L_54) (n' := 38) rfl rfl rfl rfl ?_
            show X 54 38 [vR 6, vI x1, vI x2, vI x3, vI 0] [vI 1, vR 6] h _
            refine X_b 3 41 (L := L_54) rfl rfl rfl ?_
            show X 54 41 [vR 6, vI x1, vI x2, vI x3, vI 0] [vI 1] (ab_up h 6 0 1) _
            refine X_if (L := L_54) (n' := 43) rfl rfl rfl rfl (fun z => absurd z (show ¬ ((1 : Int) ≤ (0 : Int)) by decide)) (fun _ => ?_)
            show X 54 42 [vR 6, vI x1, vI x2, vI x3, vI 0] [] (ab_up h 6 0 1) _
            refine X_ret (L := L_54) rfl rfl rfl rfl ?_
            exact H
          · have z11 : 0 ≤ x1 := (Int.not_lt.mp z11)
            replace H := H.2 z11
            show X 51 2 [vR 6, vI x1] [] h _
            refine X_b 3 5 (L := L_51) rfl rfl rfl ?_
            show X 51 5 [vR 6, vI x1] [vI (h 6 7), vI x1] h _
            refine X_icmp (L := L_51) (n' := 8) rfl rfl rfl rfl (fun z12 => ?_) (fun z12 => ?_)
            · have z12 : h 6 7 ≤ x1 := z12
              replace H := H.1 z12
              show X 51 8 [vR 6, vI x1] [] h _
              refine X_b 1 9 (L := L_51) rfl rfl rfl ?_
              show X 51 9 [vR 6, vI x1] [vI 0] h _
              refine X_zret (L := L_51) rfl rfl rfl rfl (by decide) ?_
              show X 54 27 [vR 6, vI x1, vI x2, vI x3, vI 0] [vI 0, vR 6] h _
              refine X_if (L := L_54) (n' := 31) rfl rfl rfl rfl (fun _ => ?_) (fun z => absurd (show (0 : Int) = (0 : Int) by decide) z)
              show X 54 31 [vR 6, vI x1, vI x2, vI x3, vI 0] [vR 6] h _
              refine X_b 1 32 (L := L_54) rfl rfl rfl ?_
              show X 54 32 [vR 6, vI x1, vI x2, vI x3, vI 0] [vI 1, vR 6] h _
              refine X_goto (L := L_54) (n' := 38) rfl rfl rfl rfl ?_
              show X 54 38 [vR 6, vI x1, vI x2, vI x3, vI 0] [vI 1, vR 6] h _
              refine X_b 3 41 (L := L_54) rfl rfl rfl ?_
              show X 54 41 [vR 6, vI x1, vI x2, vI x3, vI 0] [vI 1] (ab_up h 6 0 1) _
              refine X_if (L := L_54) (n' := 43) rfl rfl rfl rfl (fun z => absurd z (show ¬ ((1 : Int) ≤ (0 : Int)) by decide)) (fun _ => ?_)
              show X 54 42 [vR 6, vI x1, vI x2, vI x3, vI 0] [] (ab_up h 6 0 1) _
              refine X_ret (L := L_54) rfl rfl rfl rfl ?_
              exact H
            · have z12 : x1 < h 6 7 := (Int.not_le.mp z12)
              replace H := H.2 z12
              show X 51 6 [vR 6, vI x1] [] h _
              refine X_b 1 7 (L := L_51) rfl rfl rfl ?_
              show X 51 7 [vR 6, vI x1] [vI 1] h _
              refine X_goto (L := L_51) (n' := 9) rfl rfl rfl rfl ?_
              show X 51 9 [vR 6, vI x1] [vI 1] h _
              refine X_zret (L := L_51) rfl rfl rfl rfl (by decide) ?_
              show X 54 27 [vR 6, vI x1, vI x2, vI x3, vI 0] [vI 1, vR 6] h _
              refine X_if (L := L_54) (n' := 31) rfl rfl rfl rfl (fun z => absurd z (show ¬ ((1 : Int) = (0 : Int)) by decide)) (fun _ => ?_)
              show X 54 28 [vR 6, vI x1, vI x2, vI x3, vI 0] [vR 6] h _
              refine X_b 1 29 (L := L_54) rfl rfl rfl ?_
              show X 54 29 [vR 6, vI x1, vI x2, vI x3, vI 0] [vI x2, vR 6] h _
              refine X_call 52 [vI x2] [vR 6] rfl (sg_cals rfl rfl rfl rfl rfl rfl rfl rfl rfl rfl) (by decide) ?_
              show X 52 0 [vI x2] [] h _
              refine X_b 1 1 (L := L_52) rfl rfl rfl ?_
              show X 52 1 [vI x2] [vI x2] h _
              refine X_if (L := L_52) (n' := 7) rfl rfl rfl rfl (fun z13 => ?_) (fun z13 => ?_)
              · have z13 : x2 < 0 := z13
                replace H := H.1 z13
                show X 52 7 [vI x2] [] h _
                refine X_b 1 8 (L := L_52) rfl rfl rfl ?_
                show X 52 8 [vI x2] [vI 0] h _
                refine X_zret (L := L_52) rfl rfl rfl rfl (by decide) ?_
                show X 54 30 [vR 6, vI x1, vI x2, vI x3, vI 0] [vI 0, vR 6] h _
                refine X_if (L := L_54) (n' := 33) rfl rfl rfl rfl (fun z => absurd z (show ¬ (¬ (0 : Int) = (0 : Int)) by decide)) (fun _ => ?_)
                show X 54 31 [vR 6, vI x1, vI x2, vI x3, vI 0] [vR 6] h _
                refine X_b 1 32 (L := L_54) rfl rfl rfl ?_
                show X 54 32 [vR 6, vI x1, vI x2, vI x3, vI 0] [vI 1, vR 6] h _
                refine X_goto (L := L_54) (n' := 38) rfl rfl rfl rfl ?_
                show X 54 38 [vR 6, vI x1, vI x2, vI x3, vI 0] [vI 1, vR 6] h _
                refine X_b 3 41 (L := L_54) rfl rfl rfl ?_
                show X 54 41 [vR 6, vI x1, vI x2, vI x3, vI 0] [vI 1] (ab_up h 6 0 1) _
                refine X_if (L := L_54) (n' := 43) rfl rfl rfl rfl (fun z => absurd z (show ¬ ((1 : Int) ≤ (0 : Int)) by decide)) (fun _ => ?_)
                show X 54 42 [vR 6, vI x1, vI x2, vI x3, vI 0] [] (ab_up h 6 0 1) _
                refine X_ret (L := L_54) rfl rfl rfl rfl ?_
                exact H
              · have z13 : 0 ≤ x2 := (Int.not_lt.mp z13)
                replace H := H.2 z13
                show X 52 2 [vI x2] [] h _
                refine X_b 2 4 (L := L_52) rfl rfl rfl ?_
                show X 52 4 [vI x2] [vI 9, vI x2] h _
                refine X_icmp (L := L_52) (n' := 7) rfl rfl rfl rfl (fun z14 => ?_) (fun z14 => ?_)
                · have z14 : 9 < x2 := z14
                  replace H := H.1 z14
                  show X 52 7 [vI x2] [] h _
                  refine X_b 1 8 (L := L_52) rfl rfl rfl ?_
                  show X 52 8 [vI x2] [vI 0] h _
                  refine X_zret (L := L_52) rfl rfl rfl rfl (by decide) ?_
                  show X 54 30 [vR 6, vI x1, vI x2, vI x3, vI 0] [vI 0, vR 6] h _
                  refine X_if (L := L_54) (n' := 33) rfl rfl rfl rfl (fun z => absurd z (show ¬ (¬ (0 : Int) = (0 : Int)) by decide)) (fun _ => ?_)
                  show X 54 31 [vR 6, vI x1, vI x2, vI x3, vI 0] [vR 6] h _
                  refine X_b 1 32 (L := L_54) rfl rfl rfl ?_
                  show X 54 32 [vR 6, vI x1, vI x2, vI x3, vI 0] [vI 1, vR 6] h _
                  refine X_goto (L := L_54) (n' := 38) rfl rfl rfl rfl ?_
                  show X 54 38 [vR 6, vI x1, vI x2, vI x3, vI 0] [vI 1, vR 6] h _
                  refine X_b 3 41 (L := L_54) rfl rfl rfl ?_
                  show X 54 41 [vR 6, vI x1, vI x2, vI x3, vI 0] [vI 1] (ab_up h 6 0 1) _
                  refine X_if (L := L_54) (n' := 43) rfl rfl rfl rfl (fun z => absurd z (show ¬ ((1 : Int) ≤ (0 : Int)) by decide)) (fun _ => ?_)
                  show X 54 42 [vR 6, vI x1, vI x2, vI x3, vI 0] [] (ab_up h 6 0 1) _
                  refine X_ret (L := L_54) rfl rfl rfl rfl ?_
                  exact H
                · have z14 : x2 ≤ 9 := (Int.not_lt.mp z14)
                  replace H := H.2 z14
                  show X 52 5 [vI x2] [] h _
                  refine X_b 1 6 (L := L_52) rfl rfl rfl ?_
                  show X 52 6 [vI x2] [vI 1] h _
                  refine X_goto (L := L_52) (n' := 8) rfl rfl rfl rfl ?_
                  show X 52 8 [vI x2] [vI 1] h _
                  refine X_zret (L := L_52) rfl rfl rfl rfl (by decide) ?_
                  show X 54 30 [vR 6, vI x1, vI x2, vI x3, vI 0] [vI 1, vR 6] h _
                  refine X_if (L := L_54) (n' := 33) rfl rfl rfl rfl (fun _ => ?_) (fun z => absurd (show ¬ (1 : Int) = (0 : Int) by decide) z)
                  show X 54 33 [vR 6, vI x1, vI x2, vI x3, vI 0] [vR 6] h _
                  refine X_b 1 34 (L := L_54) rfl rfl rfl ?_
                  show X 54 34 [vR 6, vI x1, vI x2, vI x3, vI 0] [vI 0, vR 6] h _
                  refine X_if (L := L_54) (n' := 37) rfl rfl rfl rfl (fun _ => ?_) (fun z => absurd (show (0 : Int) = (0 : Int) by decide) z)
                  show X 54 37 [vR 6, vI x1, vI x2, vI x3, vI 0] [vR 6] h _
                  refine X_b 4 41 (L := L_54) rfl rfl rfl ?_
                  show X 54 41 [vR 6, vI x1, vI x2, vI x3, vI 0] [vI 2] (ab_up h 6 0 2) _
                  refine X_if (L := L_54) (n' := 43) rfl rfl rfl rfl (fun z => absurd z (show ¬ ((2 : Int) ≤ (0 : Int)) by decide)) (fun _ => ?_)
                  show X 54 42 [vR 6, vI x1, vI x2, vI x3, vI 0] [] (ab_up h 6 0 2) _
                  refine X_ret (L := L_54) rfl rfl rfl rfl ?_
                  exact H
        · have z10 : x3 = 200 := (Classical.not_not.mp z10)
          replace H := H.2 z10
          show X 54 19 [vR 6, vI x1, vI x2, vI x3, vJ 0] [] h _
          refine X_b 1 20 (L := L_54) rfl rfl rfl ?_
          show X 54 20 [vR 6, vI x1, vI x2, vI x3, vJ 0] [vI 1] h _
          refine X_goto (L := L_54) (n' := 22) rfl rfl rfl rfl ?_
          show X 54 22 [vR 6, vI x1, vI x2, vI x3, vJ 0] [vI 1] h _
          refine X_b 4 26 (L := L_54) rfl rfl rfl ?_
          show X 54 26 [vR 6, vI x1, vI x2, vI x3, vI 1] [vI x1, vR 6, vR 6] h _
          refine X_call 51 [vR 6, vI x1] [vR 6] rfl (sg_calv rfl rfl rfl rfl rfl rfl rfl rfl rfl rfl rfl) (by decide) ?_
          show X 51 0 [vR 6, vI x1] [] h _
          refine X_b 1 1 (L := L_51) rfl rfl rfl ?_
          show X 51 1 [vR 6, vI x1] [vI x1] h _
          refine X_if (L := L_51) (n' := 8) rfl rfl rfl rfl (fun z15 => ?_) (fun z15 => ?_)
          · have z15 : x1 < 0 := z15
            replace H := H.1 z15
            show X 51 8 [vR 6, vI x1] [] h _
            refine X_b 1 9 (L := L_51) rfl rfl rfl ?_
            show X 51 9 [vR 6, vI x1] [vI 0] h _
            refine X_zret (L := L_51) rfl rfl rfl rfl (by decide) ?_
            show X 54 27 [vR 6, vI x1, vI x2, vI x3, vI 1] [vI 0, vR 6] h _
            refine X_if (L := L_54) (n' := 31) rfl rfl rfl rfl (fun _ => ?_) (fun z => absurd (show (0 : Int) = (0 : Int) by decide) z)
            show X 54 31 [vR 6, vI x1, vI x2, vI x3, vI 1] [vR 6] h _
            refine X_b 1 32 (L := L_54) rfl rfl rfl ?_
            show X 54 32 [vR 6, vI x1, vI x2, vI x3, vI 1] [vI 1, vR 6] h _
            refine X_goto (L := L_54) (n' := 38) rfl rfl rfl rfl ?_
            show X 54 38 [vR 6, vI x1, vI x2, vI x3, vI 1] [vI 1, vR 6] h _
            refine X_b 3 41 (L := L_54) rfl rfl rfl ?_
            show X 54 41 [vR 6, vI x1, vI x2, vI x3, vI 1] [vI 1] (ab_up h 6 0 1) _
            refine X_if (L := L_54) (n' := 43) rfl rfl rfl rfl (fun z => absurd z (show ¬ ((1 : Int) ≤ (0 : Int)) by decide)) (fun _ => ?_)
            show X 54 42 [vR 6, vI x1, vI x2, vI x3, vI 1] [] (ab_up h 6 0 1) _
            refine X_ret (L := L_54) rfl rfl rfl rfl ?_
            exact H
          · have z15 : 0 ≤ x1 := (Int.not_lt.mp z15)
            replace H := H.2 z15
            show X 51 2 [vR 6, vI x1] [] h _
            refine X_b 3 5 (L := L_51) rfl rfl rfl ?_
            show X 51 5 [vR 6, vI x1] [vI (h 6 7), vI x1] h _
            refine X_icmp (L := L_51) (n' := 8) rfl rfl rfl rfl (fun z16 => ?_) (fun z16 => ?_)
            · have z16 : h 6 7 ≤ x1 := z16
              replace H := H.1 z16
              show X 51 8 [vR 6, vI x1] [] h _
              refine X_b 1 9 (L := L_51) rfl rfl rfl ?_
              show X 51 9 [vR 6, vI x1] [vI 0] h _
              refine X_zret (L := L_51) rfl rfl rfl rfl (by decide) ?_
              show X 54 27 [vR 6, vI x1, vI x2, vI x3, vI 1] [vI 0, vR 6] h _
              refine X_if (L := L_54) (n' := 31) rfl rfl rfl rfl (fun _ => ?_) (fun z => absurd (show (0 : Int) = (0 : Int) by decide) z)
              show X 54 31 [vR 6, vI x1, vI x2, vI x3, vI 1] [vR 6] h _
              refine X_b 1 32 (L := L_54) rfl rfl rfl ?_
              show X 54 32 [vR 6, vI x1, vI x2, vI x3, vI 1] [vI 1, vR 6] h _
              refine X_goto (L := L_54) (n' := 38) rfl rfl rfl rfl ?_
              show X 54 38 [vR 6, vI x1, vI x2, vI x3, vI 1] [vI 1, vR 6] h _
              refine X_b 3 41 (L := L_54) rfl rfl rfl ?_
              show X 54 41 [vR 6, vI x1, vI x2, vI x3, vI 1] [vI 1] (ab_up h 6 0 1) _
              refine X_if (L := L_54) (n' := 43) rfl rfl rfl rfl (fun z => absurd z (show ¬ ((1 : Int) ≤ (0 : Int)) by decide)) (fun _ => ?_)
              show X 54 42 [vR 6, vI x1, vI x2, vI x3, vI 1] [] (ab_up h 6 0 1) _
              refine X_ret (L := L_54) rfl rfl rfl rfl ?_
              exact H
            · have z16 : x1 < h 6 7 := (Int.not_le.mp z16)
              replace H := H.2 z16
              show X 51 6 [vR 6, vI x1] [] h _
              refine X_b 1 7 (L := L_51) rfl rfl rfl ?_
              show X 51 7 [vR 6, vI x1] [vI 1] h _
              refine X_goto (L := L_51) (n' := 9) rfl rfl rfl rfl ?_
              show X 51 9 [vR 6, vI x1] [vI 1] h _
              refine X_zret (L := L_51) rfl rfl rfl rfl (by decide) ?_
              show X 54 27 [vR 6, vI x1, vI x2, vI x3, vI 1] [vI 1, vR 6] h _
              refine X_if (L := L_54) (n' := 31) rfl rfl rfl rfl (fun z => absurd z (show ¬ ((1 : Int) = (0 : Int)) by decide)) (fun _ => ?_)
              show X 54 28 [vR 6, vI x1, vI x2, vI x3, vI 1] [vR 6] h _
              refine X_b 1 29 (L := L_54) rfl rfl rfl ?_
              show X 54 29 [vR 6, vI x1, vI x2, vI x3, vI 1] [vI x2, vR 6] h _
              refine X_call 52 [vI x2] [vR 6] rfl (sg_cals rfl rfl rfl rfl rfl rfl rfl rfl rfl rfl) (by decide) ?_
              show X 52 0 [vI x2] [] h _
              refine X_b 1 1 (L := L_52) rfl rfl rfl ?_
              show X 52 1 [vI x2] [vI x2] h _
              refine X_if (L := L_52) (n' := 7) rfl rfl rfl rfl (fun z17 => ?_) (fun z17 => ?_)
              · have z17 : x2 < 0 := z17
                replace H := H.1 z17
                show X 52 7 [vI x2] [] h _
                refine X_b 1 8 (L := L_52) rfl rfl rfl ?_
                show X 52 8 [vI x2] [vI 0] h _
                refine X_zret (L := L_52) rfl rfl rfl rfl (by decide) ?_
                show X 54 30 [vR 6, vI x1, vI x2, vI x3, vI 1] [vI 0, vR 6] h _
                refine X_if (L := L_54) (n' := 33) rfl rfl rfl rfl (fun z => absurd z (show ¬ (¬ (0 : Int) = (0 : Int)) by decide)) (fun _ => ?_)
                show X 54 31 [vR 6, vI x1, vI x2, vI x3, vI 1] [vR 6] h _
                refine X_b 1 32 (L := L_54) rfl rfl rfl ?_
                show X 54 32 [vR 6, vI x1, vI x2, vI x3, vI 1] [vI 1, vR 6] h _
                refine X_goto (L := L_54) (n' := 38) rfl rfl rfl rfl ?_
                show X 54 38 [vR 6, vI x1, vI x2, vI x3, vI 1] [vI 1, vR 6] h _
                refine X_b 3 41 (L := L_54) rfl rfl rfl ?_
                show X 54 41 [vR 6, vI x1, vI x2, vI x3, vI 1] [vI 1] (ab_up h 6 0 1) _
                refine X_if (L := L_54) (n' := 43) rfl rfl rfl rfl (fun z => absurd z (show ¬ ((1 : Int) ≤ (0 : Int)) by decide)) (fun _ => ?_)
                show X 54 42 [vR 6, vI x1, vI x2, vI x3, vI 1] [] (ab_up h 6 0 1) _
                refine X_ret (L := L_54) rfl rfl rfl rfl ?_
                exact H
              · have z17 : 0 ≤ x2 := (Int.not_lt.mp z17)
                replace H := H.2 z17
                show X 52 2 [vI x2] [] h _
                refine X_b 2 4 (L := L_52) rfl rfl rfl ?_
                show X 52 4 [vI x2] [vI 9, vI x2] h _
                refine X_icmp (L := L_52) (n' := 7) rfl rfl rfl rfl (fun z18 => ?_) (fun z18 => ?_)
                · have z18 : 9 < x2 := z18
                  replace H := H.1 z18
                  show X 52 7 [vI x2] [] h _
                  refine X_b 1 8 (L := L_52) rfl rfl rfl ?_
                  show X 52 8 [vI x2] [vI 0] h _
                  refine X_zret (L := L_52) rfl rfl rfl rfl (by decide) ?_
                  show X 54 30 [vR 6, vI x1, vI x2, vI x3, vI 1] [vI 0, vR 6] h _
                  refine X_if (L := L_54) (n' := 33) rfl rfl rfl rfl (fun z => absurd z (show ¬ (¬ (0 : Int) = (0 : Int)) by decide)) (fun _ => ?_)
                  show X 54 31 [vR 6, vI x1, vI x2, vI x3, vI 1] [vR 6] h _
                  refine X_b 1 32 (L := L_54) rfl rfl rfl ?_
                  show X 54 32 [vR 6, vI x1, vI x2, vI x3, vI 1] [vI 1, vR 6] h _
                  refine X_goto (L := L_54) (n' := 38) rfl rfl rfl rfl ?_
                  show X 54 38 [vR 6, vI x1, vI x2, vI x3, vI 1] [vI 1, vR 6] h _
                  refine X_b 3 41 (L := L_54) rfl rfl rfl ?_
                  show X 54 41 [vR 6, vI x1, vI x2, vI x3, vI 1] [vI 1] (ab_up h 6 0 1) _
                  refine X_if (L := L_54) (n' := 43) rfl rfl rfl rfl (fun z => absurd z (show ¬ ((1 : Int) ≤ (0 : Int)) by decide)) (fun _ => ?_)
                  show X 54 42 [vR 6, vI x1, vI x2, vI x3, vI 1] [] (ab_up h 6 0 1) _
                  refine X_ret (L := L_54) rfl rfl rfl rfl ?_
                  exact H
                · have z18 : x2 ≤ 9 := (Int.not_lt.mp z18)
                  replace H := H.2 z18
                  show X 52 5 [vI x2] [] h _
                  obtain ⟨⟨c19, c20⟩, H⟩ := H
                  refine X_b 1 6 (L := L_52) rfl rfl rfl ?_
                  show X 52 6 [vI x2] [vI 1] h _
                  refine X_goto (L := L_52) (n' := 8) rfl rfl rfl rfl ?_
                  show X 52 8 [vI x2] [vI 1] h _
                  refine X_zret (L := L_52) rfl rfl rfl rfl (by decide) ?_
                  show X 54 30 [vR 6, vI x1, vI x2, vI x3, vI 1] [vI 1, vR 6] h _
                  refine X_if (L := L_54) (n' := 33) rfl rfl rfl rfl (fun _ => ?_) (fun z => absurd (show ¬ (1 : Int) = (0 : Int) by decide) z)
                  show X 54 33 [vR 6, vI x1, vI x2, vI x3, vI 1] [vR 6] h _
                  refine X_b 1 34 (L := L_54) rfl rfl rfl ?_
                  show X 54 34 [vR 6, vI x1, vI x2, vI x3, vI 1] [vI 1, vR 6] h _
                  refine X_if (L := L_54) (n' := 37) rfl rfl rfl rfl (fun z => absurd z (show ¬ ((1 : Int) = (0 : Int)) by decide)) (fun _ => ?_)
                  show X 54 35 [vR 6, vI x1, vI x2, vI x3, vI 1] [vR 6] h _
                  refine X_b 1 36 (L := L_54) rfl rfl rfl ?_
                  show X 54 36 [vR 6, vI x1, vI x2, vI x3, vI 1] [vI 0, vR 6] h _
                  refine X_goto (L := L_54) (n' := 38) rfl rfl rfl rfl ?_
                  show X 54 38 [vR 6, vI x1, vI x2, vI x3, vI 1] [vI 0, vR 6] h _
                  refine X_b 3 41 (L := L_54) rfl rfl rfl ?_
                  show X 54 41 [vR 6, vI x1, vI x2, vI x3, vI 1] [vI 0] (ab_up h 6 0 0) _
                  refine X_if (L := L_54) (n' := 43) rfl rfl rfl rfl (fun _ => ?_) (fun z => absurd (show (0 : Int) ≤ (0 : Int) by decide) z)
                  show X 54 43 [vR 6, vI x1, vI x2, vI x3, vI 1] [] (ab_up h 6 0 0) _
                  refine X_b 10 53 (L := L_54) rfl rfl rfl ?_
                  show (-2147483648 ≤ 10 * x1 ∧ 10 * x1 ≤ 2147483647) ∧ (-2147483648 ≤ (10 * x1) + x2 ∧ (10 * x1) + x2 ≤ 2147483647) ∧ (0 ≤ (10 * x1) + x2 ∧ (10 * x1) + x2 < 500) ∧ X 54 53 [vR 6, vI x1, vI x2, vI x3, vI 1] [vR 6] (ab_up (ab_up h 6 0 0) 26 ((10 * x1) + x2) x3) _
                  refine ⟨c19, by have := c20; omega, c20, ?_⟩
                  refine X_call 30 [vR 6] [] rfl (sg_calv rfl rfl rfl rfl rfl rfl rfl rfl rfl rfl rfl) (by decide) ?_
                  show X 30 0 [vR 6] [] (ab_up (ab_up h 6 0 0) 26 ((10 * x1) + x2) x3) _
                  refine X_b 6 6 (L := L_30) rfl rfl rfl ?_
                  show ((0 : Int) = 0 ∨ (0 : Int) = 1) ∧ X 30 6 [vR 6] [] (ab_up (ab_up (ab_up (ab_up h 6 0 0) 26 ((10 * x1) + x2) x3) 6 19 0) 6 22 0) _
                  refine ⟨by decide, ?_⟩
                  refine X_ret (L := L_30) rfl rfl rfl rfl ?_
                  show X 54 54 [vR 6, vI x1, vI x2, vI x3, vI 1] [] (ab_up (ab_up (ab_up (ab_up h 6 0 0) 26 ((10 * x1) + x2) x3) 6 19 0) 6 22 0) _
                  refine X_ret (L := L_54) rfl rfl rfl rfl ?_
                  exact H
      · have z9 : 100 ≤ x3 := (Int.not_lt.mp z9)
        replace H := H.2 z9
        show X 54 10 [vR 6, vI x1, vI x2, vI x3, vJ 0] [] h _
        obtain ⟨c21, H⟩ := H
        refine X_b 5 15 (L := L_54) rfl rfl rfl ?_
        show (-2147483648 ≤ 100 + (h 6 1) ∧ 100 + (h 6 1) ≤ 2147483647) ∧ X 54 15 [vR 6, vI x1, vI x2, vI x3, vJ 0] [vI (100 + (h 6 1)), vI x3] h _
        refine ⟨c21, ?_⟩
        refine X_icmp (L := L_54) (n' := 19) rfl rfl rfl rfl (fun z22 => ?_) (fun z22 => ?_)
        · have z22 : x3 ≤ 100 + (h 6 1) := z22
          replace H := H.1 z22
          show X 54 19 [vR 6, vI x1, vI x2, vI x3, vJ 0] [] h _
          refine X_b 1 20 (L := L_54) rfl rfl rfl ?_
          show X 54 20 [vR 6, vI x1, vI x2, vI x3, vJ 0] [vI 1] h _
          refine X_goto (L := L_54) (n' := 22) rfl rfl rfl rfl ?_
          show X 54 22 [vR 6, vI x1, vI x2, vI x3, vJ 0] [vI 1] h _
          refine X_b 4 26 (L := L_54) rfl rfl rfl ?_
          show X 54 26 [vR 6, vI x1, vI x2, vI x3, vI 1] [vI x1, vR 6, vR 6] h _
          refine X_call 51 [vR 6, vI x1] [vR 6] rfl (sg_calv rfl rfl rfl rfl rfl rfl rfl rfl rfl rfl rfl) (by decide) ?_
          show X 51 0 [vR 6, vI x1] [] h _
          refine X_b 1 1 (L := L_51) rfl rfl rfl ?_
          show X 51 1 [vR 6, vI x1] [vI x1] h _
          refine X_if (L := L_51) (n' := 8) rfl rfl rfl rfl (fun z23 => ?_) (fun z23 => ?_)
          · have z23 : x1 < 0 := z23
            replace H := H.1 z23
            show X 51 8 [vR 6, vI x1] [] h _
            refine X_b 1 9 (L := L_51) rfl rfl rfl ?_
            show X 51 9 [vR 6, vI x1] [vI 0] h _
            refine X_zret (L := L_51) rfl rfl rfl rfl (by decide) ?_
            show X 54 27 [vR 6, vI x1, vI x2, vI x3, vI 1] [vI 0, vR 6] h _
            refine X_if (L := L_54) (n' := 31) rfl rfl rfl rfl (fun _ => ?_) (fun z => absurd (show (0 : Int) = (0 : Int) by decide) z)
            show X 54 31 [vR 6, vI x1, vI x2, vI x3, vI 1] [vR 6] h _
            refine X_b 1 32 (L := L_54) rfl rfl rfl ?_
            show X 54 32 [vR 6, vI x1, vI x2, vI x3, vI 1] [vI 1, vR 6] h _
            refine X_goto (L := L_54) (n' := 38) rfl rfl rfl rfl ?_
            show X 54 38 [vR 6, vI x1, vI x2, vI x3, vI 1] [vI 1, vR 6] h _
            refine X_b 3 41 (L := L_54) rfl rfl rfl ?_
            show X 54 41 [vR 6, vI x1, vI x2, vI x3, vI 1] [vI 1] (ab_up h 6 0 1) _
            refine X_if (L := L_54) (n' := 43) rfl rfl rfl rfl (fun z => absurd z (show ¬ ((1 : Int) ≤ (0 : Int)) by decide)) (fun _ => ?_)
            show X 54 42 [vR 6, vI x1, vI x2, vI x3, vI 1] [] (ab_up h 6 0 1) _
            refine X_ret (L := L_54) rfl rfl rfl rfl ?_
            exact H
          · have z23 : 0 ≤ x1 := (Int.not_lt.mp z23)
            replace H := H.2 z23
            show X 51 2 [vR 6, vI x1] [] h _
            refine X_b 3 5 (L := L_51) rfl rfl rfl ?_
            show X 51 5 [vR 6, vI x1] [vI (h 6 7), vI x1] h _
            refine X_icmp (L := L_51) (n' := 8) rfl rfl rfl rfl (fun z24 => ?_) (fun z24 => ?_)
            · have z24 : h 6 7 ≤ x1 := z24
              replace H := H.1 z24
              show X 51 8 [vR 6, vI x1] [] h _
              refine X_b 1 9 (L := L_51) rfl rfl rfl ?_
              show X 51 9 [vR 6, vI x1] [vI 0] h _
              refine X_zret (L := L_51) rfl rfl rfl rfl (by decide) ?_
              show X 54 27 [vR 6, vI x1, vI x2, vI x3, vI 1] [vI 0, vR 6] h _
              refine X_if (L := L_54) (n' := 31) rfl rfl rfl rfl (fun _ => ?_) (fun z => absurd (show (0 : Int) = (0 : Int) by decide) z)
              show X 54 31 [vR 6, vI x1, vI x2, vI x3, vI 1] [vR 6] h _
              refine X_b 1 32 (L := L_54) rfl rfl rfl ?_
              show X 54 32 [vR 6, vI x1, vI x2, vI x3, vI 1] [vI 1, vR 6] h _
              refine X_goto (L := L_54) (n' := 38) rfl rfl rfl rfl ?_
              show X 54 38 [vR 6, vI x1, vI x2, vI x3, vI 1] [vI 1, vR 6] h _
              refine X_b 3 41 (L := L_54) rfl rfl rfl ?_
              show X 54 41 [vR 6, vI x1, vI x2, vI x3, vI 1] [vI 1] (ab_up h 6 0 1) _
              refine X_if (L := L_54) (n' := 43) rfl rfl rfl rfl (fun z => absurd z (show ¬ ((1 : Int) ≤ (0 : Int)) by decide)) (fun _ => ?_)
              show X 54 42 [vR 6, vI x1, vI x2, vI x3, vI 1] [] (ab_up h 6 0 1) _
              refine X_ret (L := L_54) rfl rfl rfl rfl ?_
              exact H
            · have z24 : x1 < h 6 7 := (Int.not_le.mp z24)
              replace H := H.2 z24
              show X 51 6 [vR 6, vI x1] [] h _
              refine X_b 1 7 (L := L_51) rfl rfl rfl ?_
              show X 51 7 [vR 6, vI x1] [vI 1] h _
              refine X_goto (L := L_51) (n' := 9) rfl rfl rfl rfl ?_
              show X 51 9 [vR 6, vI x1] [vI 1] h _
              refine X_zret (L := L_51) rfl rfl rfl rfl (by decide) ?_
              show X 54 27 [vR 6, vI x1, vI x2, vI x3, vI 1] [vI 1, vR 6] h _
              refine X_if (L := L_54) (n' := 31) rfl rfl rfl rfl (fun z => absurd z (show ¬ ((1 : Int) = (0 : Int)) by decide)) (fun _ => ?_)
              show X 54 28 [vR 6, vI x1, vI x2, vI x3, vI 1] [vR 6] h _
              refine X_b 1 29 (L := L_54) rfl rfl rfl ?_
              show X 54 29 [vR 6, vI x1, vI x2, vI x3, vI 1] [vI x2, vR 6] h _
              refine X_call 52 [vI x2] [vR 6] rfl (sg_cals rfl rfl rfl rfl rfl rfl rfl rfl rfl rfl) (by decide) ?_
              show X 52 0 [vI x2] [] h _
              refine X_b 1 1 (L := L_52) rfl rfl rfl ?_
              show X 52 1 [vI x2] [vI x2] h _
              refine X_if (L := L_52) (n' := 7) rfl rfl rfl rfl (fun z25 => ?_) (fun z25 => ?_)
              · have z25 : x2 < 0 := z25
                replace H := H.1 z25
                show X 52 7 [vI x2] [] h _
                refine X_b 1 8 (L := L_52) rfl rfl rfl ?_
                show X 52 8 [vI x2] [vI 0] h _
                refine X_zret (L := L_52) rfl rfl rfl rfl (by decide) ?_
                show X 54 30 [vR 6, vI x1, vI x2, vI x3, vI 1] [vI 0, vR 6] h _
                refine X_if (L := L_54) (n' := 33) rfl rfl rfl rfl (fun z => absurd z (show ¬ (¬ (0 : Int) = (0 : Int)) by decide)) (fun _ => ?_)
                show X 54 31 [vR 6, vI x1, vI x2, vI x3, vI 1] [vR 6] h _
                refine X_b 1 32 (L := L_54) rfl rfl rfl ?_
                show X 54 32 [vR 6, vI x1, vI x2, vI x3, vI 1] [vI 1, vR 6] h _
                refine X_goto (L := L_54) (n' := 38) rfl rfl rfl rfl ?_
                show X 54 38 [vR 6, vI x1, vI x2, vI x3, vI 1] [vI 1, vR 6] h _
                refine X_b 3 41 (L := L_54) rfl rfl rfl ?_
                show X 54 41 [vR 6, vI x1, vI x2, vI x3, vI 1] [vI 1] (ab_up h 6 0 1) _
                refine X_if (L := L_54) (n' := 43) rfl rfl rfl rfl (fun z => absurd z (show ¬ ((1 : Int) ≤ (0 : Int)) by decide)) (fun _ => ?_)
                show X 54 42 [vR 6, vI x1, vI x2, vI x3, vI 1] [] (ab_up h 6 0 1) _
                refine X_ret (L := L_54) rfl rfl rfl rfl ?_
                exact H
              · have z25 : 0 ≤ x2 := (Int.not_lt.mp z25)
                replace H := H.2 z25
                show X 52 2 [vI x2] [] h _
                refine X_b 2 4 (L := L_52) rfl rfl rfl ?_
                show X 52 4 [vI x2] [vI 9, vI x2] h _
                refine X_icmp (L := L_52) (n' := 7) rfl rfl rfl rfl (fun z26 => ?_) (fun z26 => ?_)
                · have z26 : 9 < x2 := z26
                  replace H := H.1 z26
                  show X 52 7 [vI x2] [] h _
                  refine X_b 1 8 (L := L_52) rfl rfl rfl ?_
                  show X 52 8 [vI x2] [vI 0] h _
                  refine X_zret (L := L_52) rfl rfl rfl rfl (by decide) ?_
                  show X 54 30 [vR 6, vI x1, vI x2, vI x3, vI 1] [vI 0, vR 6] h _
                  refine X_if (L := L_54) (n' := 33) rfl rfl rfl rfl (fun z => absurd z (show ¬ (¬ (0 : Int) = (0 : Int)) by decide)) (fun _ => ?_)
                  show X 54 31 [vR 6, vI x1, vI x2, vI x3, vI 1] [vR 6] h _
                  refine X_b 1 32 (L := L_54) rfl rfl rfl ?_
                  show X 54 32 [vR 6, vI x1, vI x2, vI x3, vI 1] [vI 1, vR 6] h _
                  refine X_goto (L := L_54) (n' := 38) rfl rfl rfl rfl ?_
                  show X 54 38 [vR 6, vI x1, vI x2, vI x3, vI 1] [vI 1, vR 6] h _
                  refine X_b 3 41 (L := L_54) rfl rfl rfl ?_
                  show X 54 41 [vR 6, vI x1, vI x2, vI x3, vI 1] [vI 1] (ab_up h 6 0 1) _
                  refine X_if (L := L_54) (n' := 43) rfl rfl rfl rfl (fun z => absurd z (show ¬ ((1 : Int) ≤ (0 : Int)) by decide)) (fun _ => ?_)
                  show X 54 42 [vR 6, vI x1, vI x2, vI x3, vI 1] [] (ab_up h 6 0 1) _
                  refine X_ret (L := L_54) rfl rfl rfl rfl ?_
                  exact H
                · have z26 : x2 ≤ 9 := (Int.not_lt.mp z26)
                  replace H := H.2 z26
                  show X 52 5 [vI x2] [] h _
                  obtain ⟨⟨c27, c28⟩, H⟩ := H
                  refine X_b 1 6 (L := L_52) rfl rfl rfl ?_
                  show X 52 6 [vI x2] [vI 1] h _
                  refine X_goto (L := L_52) (n' := 8) rfl rfl rfl rfl ?_
                  show X 52 8 [vI x2] [vI 1] h _
                  refine X_zret (L := L_52) rfl rfl rfl rfl (by decide) ?_
                  show X 54 30 [vR 6, vI x1, vI x2, vI x3, vI 1] [vI 1, vR 6] h _
                  refine X_if (L := L_54) (n' := 33) rfl rfl rfl rfl (fun _ => ?_) (fun z => absurd (show ¬ (1 : Int) = (0 : Int) by decide) z)
                  show X 54 33 [vR 6, vI x1, vI x2, vI x3, vI 1] [vR 6] h _
                  refine X_b 1 34 (L := L_54) rfl rfl rfl ?_
                  show X 54 34 [vR 6, vI x1, vI x2, vI x3, vI 1] [vI 1, vR 6] h _
                  refine X_if (L := L_54) (n' := 37) rfl rfl rfl rfl (fun z => absurd z (show ¬ ((1 : Int) = (0 : Int)) by decide)) (fun _ => ?_)
                  show X 54 35 [vR 6, vI x1, vI x2, vI x3, vI 1] [vR 6] h _
                  refine X_b 1 36 (L := L_54) rfl rfl rfl ?_
                  show X 54 36 [vR 6, vI x1, vI x2, vI x3, vI 1] [vI 0, vR 6] h _
                  refine X_goto (L := L_54) (n' := 38) rfl rfl rfl rfl ?_
                  show X 54 38 [vR 6, vI x1, vI x2, vI x3, vI 1] [vI 0, vR 6] h _
                  refine X_b 3 41 (L := L_54) rfl rfl rfl ?_
                  show X 54 41 [vR 6, vI x1, vI x2, vI x3, vI 1] [vI 0] (ab_up h 6 0 0) _
                  refine X_if (L := L_54) (n' := 43) rfl rfl rfl rfl (fun _ => ?_) (fun z => absurd (show (0 : Int) ≤ (0 : Int) by decide) z)
                  show X 54 43 [vR 6, vI x1, vI x2, vI x3, vI 1] [] (ab_up h 6 0 0) _
                  refine X_b 10 53 (L := L_54) rfl rfl rfl ?_
                  show (-2147483648 ≤ 10 * x1 ∧ 10 * x1 ≤ 2147483647) ∧ (-2147483648 ≤ (10 * x1) + x2 ∧ (10 * x1) + x2 ≤ 2147483647) ∧ (0 ≤ (10 * x1) + x2 ∧ (10 * x1) + x2 < 500) ∧ X 54 53 [vR 6, vI x1, vI x2, vI x3, vI 1] [vR 6] (ab_up (ab_up h 6 0 0) 26 ((10 * x1) + x2) x3) _
                  refine ⟨c27, by have := c28; omega, c28, ?_⟩
                  refine X_call 30 [vR 6] [] rfl (sg_calv rfl rfl rfl rfl rfl rfl rfl rfl rfl rfl rfl) (by decide) ?_
                  show X 30 0 [vR 6] [] (ab_up (ab_up h 6 0 0) 26 ((10 * x1) + x2) x3) _
                  refine X_b 6 6 (L := L_30) rfl rfl rfl ?_
                  show ((0 : Int) = 0 ∨ (0 : Int) = 1) ∧ X 30 6 [vR 6] [] (ab_up (ab_up (ab_up (ab_up h 6 0 0) 26 ((10 * x1) + x2) x3) 6 19 0) 6 22 0) _
                  refine ⟨by decide, ?_⟩
                  refine X_ret (L := L_30) rfl rfl rfl rfl ?_
                  show X 54 54 [vR 6, vI x1, vI x2, vI x3, vI 1] [] (ab_up (ab_up (ab_up (ab_up h 6 0 0) 26 ((10 * x1) + x2) x3) 6 19 0) 6 22 0) _
                  refine X_ret (L := L_54) rfl rfl rfl rfl ?_
                  exact H
        · have z22 : 100 + (h 6 1) < x3 := (Int.not_le.mp z22)
          replace H := H.2 z22
          show X 54 16 [vR 6, vI x1, vI x2, vI x3, vJ 0] [] h _
          refine X_b 2 18 (L := L_54) rfl rfl rfl ?_
          show X 54 18 [vR 6, vI x1, vI x2, vI x3, vJ 0] [vI 200, vI x3] h _
          refine X_icmp (L := L_54) (n' := 21) rfl rfl rfl rfl (fun z29 => ?_) (fun z29 => ?_)
          · have z29 : ¬ x3 = 200 := z29
            replace H := H.1 z29
            show X 54 21 [vR 6, vI x1, vI x2, vI x3, vJ 0] [] h _
            refine X_b 5 26 (L := L_54) rfl rfl rfl ?_
            show X 54 26 [vR 6, vI x1, vI x2, vI x3, vI 0] [vI x1, vR 6, vR 6] h _
            refine X_call 51 [vR 6, vI x1] [vR 6] rfl (sg_calv rfl rfl rfl rfl rfl rfl rfl rfl rfl rfl rfl) (by decide) ?_
            show X 51 0 [vR 6, vI x1] [] h _
            refine X_b 1 1 (L := L_51) rfl rfl rfl ?_
            show X 51 1 [vR 6, vI x1] [vI x1] h _
            refine X_if (L := L_51) (n' := 8) rfl rfl rfl rfl (fun z30 => ?_) (fun z30 => ?_)
            · have z30 : x1 < 0 := z30
              replace H := H.1 z30
              show X 51 8 [vR 6, vI x1] [] h _
              refine X_b 1 9 (L := L_51) rfl rfl rfl ?_
              show X 51 9 [vR 6, vI x1] [vI 0] h _
              refine X_zret (L := L_51) rfl rfl rfl rfl (by decide) ?_
              show X 54 27 [vR 6, vI x1, vI x2, vI x3, vI 0] [vI 0, vR 6] h _
              refine X_if (L := L_54) (n' := 31) rfl rfl rfl rfl (fun _ => ?_) (fun z => absurd (show (0 : Int) = (0 : Int) by decide) z)
              show X 54 31 [vR 6, vI x1, vI x2, vI x3, vI 0] [vR 6] h _
              refine X_b 1 32 (L := L_54) rfl rfl rfl ?_
              show X 54 32 [vR 6, vI x1, vI x2, vI x3, vI 0] [vI 1, vR 6] h _
              refine X_goto (L := L_54) (n' := 38) rfl rfl rfl rfl ?_
              show X 54 38 [vR 6, vI x1, vI x2, vI x3, vI 0] [vI 1, vR 6] h _
              refine X_b 3 41 (L := L_54) rfl rfl rfl ?_
              show X 54 41 [vR 6, vI x1, vI x2, vI x3, vI 0] [vI 1] (ab_up h 6 0 1) _
              refine X_if (L := L_54) (n' := 43) rfl rfl rfl rfl (fun z => absurd z (show ¬ ((1 : Int) ≤ (0 : Int)) by decide)) (fun _ => ?_)
              show X 54 42 [vR 6, vI x1, vI x2, vI x3, vI 0] [] (ab_up h 6 0 1) _
              refine X_ret (L := L_54) rfl rfl rfl rfl ?_
              exact H
            · have z30 : 0 ≤ x1 := (Int.not_lt.mp z30)
              replace H := H.2 z30
              show X 51 2 [vR 6, vI x1] [] h _
              refine X_b 3 5 (L := L_51) rfl rfl rfl ?_
              show X 51 5 [vR 6, vI x1] [vI (h 6 7), vI x1] h _
              refine X_icmp (L := L_51) (n' := 8) rfl rfl rfl rfl (fun z31 => ?_) (fun z31 => ?_)
              · have z31 : h 6 7 ≤ x1 := z31
                replace H := H.1 z31
                show X 51 8 [vR 6, vI x1] [] h _
                refine X_b 1 9 (L := L_51) rfl rfl rfl ?_
                show X 51 9 [vR 6, vI x1] [vI 0] h _
                refine X_zret (L := L_51) rfl rfl rfl rfl (by decide) ?_
                show X 54 27 [vR 6, vI x1, vI x2, vI x3, vI 0] [vI 0, vR 6] h _
                refine X_if (L := L_54) (n' := 31) rfl rfl rfl rfl (fun _ => ?_) (fun z => absurd (show (0 : Int) = (0 : Int) by decide) z)
                show X 54 31 [vR 6, vI x1, vI x2, vI x3, vI 0] [vR 6] h _
                refine X_b 1 32 (L := L_54) rfl rfl rfl ?_
                show X 54 32 [vR 6, vI x1, vI x2, vI x3, vI 0] [vI 1, vR 6] h _
                refine X_goto (L := L_54) (n' := 38) rfl rfl rfl rfl ?_
                show X 54 38 [vR 6, vI x1, vI x2, vI x3, vI 0] [vI 1, vR 6] h _
                refine X_b 3 41 (L := L_54) rfl rfl rfl ?_
                show X 54 41 [vR 6, vI x1, vI x2, vI x3, vI 0] [vI 1] (ab_up h 6 0 1) _
                refine X_if (L := L_54) (n' := 43) rfl rfl rfl rfl (fun z => absurd z (show ¬ ((1 : Int) ≤ (0 : Int)) by decide)) (fun _ => ?_)
                show X 54 42 [vR 6, vI x1, vI x2, vI x3, vI 0] [] (ab_up h 6 0 1) _
                refine X_ret (L := L_54) rfl rfl rfl rfl ?_
                exact H
              · have z31 : x1 < h 6 7 := (Int.not_le.mp z31)
                replace H := H.2 z31
                show X 51 6 [vR 6, vI x1] [] h _
                refine X_b 1 7 (L := L_51) rfl rfl rfl ?_
                show X 51 7 [vR 6, vI x1] [vI 1] h _
                refine X_goto (L := L_51) (n' := 9) rfl rfl rfl rfl ?_
                show X 51 9 [vR 6, vI x1] [vI 1] h _
                refine X_zret (L := L_51) rfl rfl rfl rfl (by decide) ?_
                show X 54 27 [vR 6, vI x1, vI x2, vI x3, vI 0] [vI 1, vR 6] h _
                refine X_if (L := L_54) (n' := 31) rfl rfl rfl rfl (fun z => absurd z (show ¬ ((1 : Int) = (0 : Int)) by decide)) (fun _ => ?_)
                show X 54 28 [vR 6, vI x1, vI x2, vI x3, vI 0] [vR 6] h _
                refine X_b 1 29 (L := L_54) rfl rfl rfl ?_
                show X 54 29 [vR 6, vI x1, vI x2, vI x3, vI 0] [vI x2, vR 6] h _
                refine X_call 52 [vI x2] [vR 6] rfl (sg_cals rfl rfl rfl rfl rfl rfl rfl rfl rfl rfl) (by decide) ?_
                show X 52 0 [vI x2] [] h _
                refine X_b 1 1 (L := L_52) rfl rfl rfl ?_
                show X 52 1 [vI x2] [vI x2] h _
                refine X_if (L := L_52) (n' := 7) rfl rfl rfl rfl (fun z32 => ?_) (fun z32 => ?_)
                · have z32 : x2 < 0 := z32
                  replace H := H.1 z32
                  show X 52 7 [vI x2] [] h _
                  refine X_b 1 8 (L := L_52) rfl rfl rfl ?_
                  show X 52 8 [vI x2] [vI 0] h _
                  refine X_zret (L := L_52) rfl rfl rfl rfl (by decide) ?_
                  show X 54 30 [vR 6, vI x1, vI x2, vI x3, vI 0] [vI 0, vR 6] h _
                  refine X_if (L := L_54) (n' := 33) rfl rfl rfl rfl (fun z => absurd z (show ¬ (¬ (0 : Int) = (0 : Int)) by decide)) (fun _ => ?_)
                  show X 54 31 [vR 6, vI x1, vI x2, vI x3, vI 0] [vR 6] h _
                  refine X_b 1 32 (L := L_54) rfl rfl rfl ?_
                  show X 54 32 [vR 6, vI x1, vI x2, vI x3, vI 0] [vI 1, vR 6] h _
                  refine X_goto (L := L_54) (n' := 38) rfl rfl rfl rfl ?_
                  show X 54 38 [vR 6, vI x1, vI x2, vI x3, vI 0] [vI 1, vR 6] h _
                  refine X_b 3 41 (L := L_54) rfl rfl rfl ?_
                  show X 54 41 [vR 6, vI x1, vI x2, vI x3, vI 0] [vI 1] (ab_up h 6 0 1) _
                  refine X_if (L := L_54) (n' := 43) rfl rfl rfl rfl (fun z => absurd z (show ¬ ((1 : Int) ≤ (0 : Int)) by decide)) (fun _ => ?_)
                  show X 54 42 [vR 6, vI x1, vI x2, vI x3, vI 0] [] (ab_up h 6 0 1) _
                  refine X_ret (L := L_54) rfl rfl rfl rfl ?_
                  exact H
                · have z32 : 0 ≤ x2 := (Int.not_lt.mp z32)
                  replace H := H.2 z32
                  show X 52 2 [vI x2] [] h _
                  refine X_b 2 4 (L := L_52) rfl rfl rfl ?_
                  show X 52 4 [vI x2] [vI 9, vI x2] h _
                  refine X_icmp (L := L_52) (n' := 7) rfl rfl rfl rfl (fun z33 => ?_) (fun z33 => ?_)
                  · have z33 : 9 < x2 := z33
                    replace H := H.1 z33
                    show X 52 7 [vI x2] [] h _
                    refine X_b 1 8 (L := L_52) rfl rfl rfl ?_
                    show X 52 8 [vI x2] [vI 0] h _
                    refine X_zret (L := L_52) rfl rfl rfl rfl (by decide) ?_
                    show X 54 30 [vR 6, vI x1, vI x2, vI x3, vI 0] [vI 0, vR 6] h _
                    refine X_if (L := L_54) (n' := 33) rfl rfl rfl rfl (fun z => absurd z (show ¬ (¬ (0 : Int) = (0 : Int)) by decide)) (fun _ => ?_)
                    show X 54 31 [vR 6, vI x1, vI x2, vI x3, vI 0] [vR 6] h _
                    refine X_b 1 32 (L := L_54) rfl rfl rfl ?_
                    show X 54 32 [vR 6, vI x1, vI x2, vI x3, vI 0] [vI 1, vR 6] h _
                    refine X_goto (L := L_54) (n' := 38) rfl rfl rfl rfl ?_
                    show X 54 38 [vR 6, vI x1, vI x2, vI x3, vI 0] [vI 1, vR 6] h _
                    refine X_b 3 41 (L := L_54) rfl rfl rfl ?_
                    show X 54 41 [vR 6, vI x1, vI x2, vI x3, vI 0] [vI 1] (ab_up h 6 0 1) _
                    refine X_if (L := L_54) (n' := 43) rfl rfl rfl rfl (fun z => absurd z (show ¬ ((1 : Int) ≤ (0 : Int)) by decide)) (fun _ => ?_)
                    show X 54 42 [vR 6, vI x1, vI x2, vI x3, vI 0] [] (ab_up h 6 0 1) _
                    refine X_ret (L := L_54) rfl rfl rfl rfl ?_
                    exact H
                  · have z33 : x2 ≤ 9 := (Int.not_lt.mp z33)
                    replace H := H.2 z33
                    show X 52 5 [vI x2] [] h _
                    refine X_b 1 6 (L := L_52) rfl rfl rfl ?_
                    show X 52 6 [vI x2] [vI 1] h _
                    refine X_goto (L := L_52) (n' := 8) rfl rfl rfl rfl ?_
                    show X 52 8 [vI x2] [vI 1] h _
                    refine X_zret (L := L_52) rfl rfl rfl rfl (by decide) ?_
                    show X 54 30 [vR 6, vI x1, vI x2, vI x3, vI 0] [vI 1, vR 6] h _
                    refine X_if (L := L_54) (n' := 33) rfl rfl rfl rfl (fun _ => ?_) (fun z => absurd (show ¬ (1 : Int) = (0 : Int) by decide) z)
                    show X 54 33 [vR 6, vI x1, vI x2, vI x3, vI 0] [vR 6] h _
                    refine X_b 1 34 (L := L_54) rfl rfl rfl ?_
                    show X 54 34 [vR 6, vI x1, vI x2, vI x3, vI 0] [vI 0, vR 6] h _
                    refine X_if (L := L_54) (n' := 37) rfl rfl rfl rfl (fun _ => ?_) (fun z => absurd (show (0 : Int) = (0 : Int) by decide) z)
                    show X 54 37 [vR 6, vI x1, vI x2, vI x3, vI 0] [vR 6] h _
                    refine X_b 4 41 (L := L_54) rfl rfl rfl ?_
                    show X 54 41 [vR 6, vI x1, vI x2, vI x3, vI 0] [vI 2] (ab_up h 6 0 2) _
                    refine X_if (L := L_54) (n' := 43) rfl rfl rfl rfl (fun z => absurd z (show ¬ ((2 : Int) ≤ (0 : Int)) by decide)) (fun _ => ?_)
                    show X 54 42 [vR 6, vI x1, vI x2, vI x3, vI 0] [] (ab_up h 6 0 2) _
                    refine X_ret (L := L_54) rfl rfl rfl rfl ?_
                    exact H
          · have z29 : x3 = 200 := (Classical.not_not.mp z29)
            replace H := H.2 z29
            show X 54 19 [vR 6, vI x1, vI x2, vI x3, vJ 0] [] h _
            refine X_b 1 20 (L := L_54) rfl rfl rfl ?_
            show X 54 20 [vR 6, vI x1, vI x2, vI x3, vJ 0] [vI 1] h _
            refine X_goto (L := L_54) (n' := 22) rfl rfl rfl rfl ?_
            show X 54 22 [vR 6, vI x1, vI x2, vI x3, vJ 0] [vI 1] h _
            refine X_b 4 26 (L := L_54) rfl rfl rfl ?_
            show X 54 26 [vR 6, vI x1, vI x2, vI x3, vI 1] [vI x1, vR 6, vR 6] h _
            refine X_call 51 [vR 6, vI x1] [vR 6] rfl (sg_calv rfl rfl rfl rfl rfl rfl rfl rfl rfl rfl rfl) (by decide) ?_
            show X 51 0 [vR 6, vI x1] [] h _
            refine X_b 1 1 (L := L_51) rfl rfl rfl ?_
            show X 51 1 [vR 6, vI x1] [vI x1] h _
            refine X_if (L := L_51) (n' := 8) rfl rfl rfl rfl (fun z34 => ?_) (fun z34 => ?_)
            · have z34 : x1 < 0 := z34
              replace H := H.1 z34
              show X 51 8 [vR 6, vI x1] [] h _
              refine X_b 1 9 (L := L_51) rfl rfl rfl ?_
              show X 51 9 [vR 6, vI x1] [vI 0] h _
              refine X_zret (L := L_51) rfl rfl rfl rfl (by decide) ?_
              show X 54 27 [vR 6, vI x1, vI x2, vI x3, vI 1] [vI 0, vR 6] h _
              refine X_if (L := L_54) (n' := 31) rfl rfl rfl rfl (fun _ => ?_) (fun z => absurd (show (0 : Int) = (0 : Int) by decide) z)
              show X 54 31 [vR 6, vI x1, vI x2, vI x3, vI 1] [vR 6] h _
              refine X_b 1 32 (L := L_54) rfl rfl rfl ?_
              show X 54 32 [vR 6, vI x1, vI x2, vI x3, vI 1] [vI 1, vR 6] h _
              refine X_goto (L := L_54) (n' := 38) rfl rfl rfl rfl ?_
              show X 54 38 [vR 6, vI x1, vI x2, vI x3, vI 1] [vI 1, vR 6] h _
              refine X_b 3 41 (L := L_54) rfl rfl rfl ?_
              show X 54 41 [vR 6, vI x1, vI x2, vI x3, vI 1] [vI 1] (ab_up h 6 0 1) _
              refine X_if (L := L_54) (n' := 43) rfl rfl rfl rfl (fun z => absurd z (show ¬ ((1 : Int) ≤ (0 : Int)) by decide)) (fun _ => ?_)
              show X 54 42 [vR 6, vI x1, vI x2, vI x3, vI 1] [] (ab_up h 6 0 1) _
              refine X_ret (L := L_54) rfl rfl rfl rfl ?_
              exact H
            · have z34 : 0 ≤ x1 := (Int.not_lt.mp z34)
              replace H := H.2 z34
              show X 51 2 [vR 6, vI x1] [] h _
              refine X_b 3 5 (L := L_51) rfl rfl rfl ?_
              show X 51 5 [vR 6, vI x1] [vI (h 6 7), vI x1] h _
              refine X_icmp (L := L_51) (n' := 8) rfl rfl rfl rfl (fun z35 => ?_) (fun z35 => ?_)
              · have z35 : h 6 7 ≤ x1 := z35
                replace H := H.1 z35
                show X 51 8 [vR 6, vI x1] [] h _
                refine X_b 1 9 (L := L_51) rfl rfl rfl ?_
                show X 51 9 [vR 6, vI x1] [vI 0] h _
                refine X_zret (L := L_51) rfl rfl rfl rfl (by decide) ?_
                show X 54 27 [vR 6, vI x1, vI x2, vI x3, vI 1] [vI 0, vR 6] h _
                refine X_if (L := L_54) (n' := 31) rfl rfl rfl rfl (fun _ => ?_) (fun z => absurd (show (0 : Int) = (0 : Int) by decide) z)
                show X 54 31 [vR 6, vI x1, vI x2, vI x3, vI 1] [vR 6] h _
                refine X_b 1 32 (L := L_54) rfl rfl rfl ?_
                show X 54 32 [vR 6, vI x1, vI x2, vI x3, vI 1] [vI 1, vR 6] h _
                refine X_goto (L := L_54) (n' := 38) rfl rfl rfl rfl ?_
                show X 54 38 [vR 6, vI x1, vI x2, vI x3, vI 1] [vI 1, vR 6] h _
                refine X_b 3 41 (L := L_54) rfl rfl rfl ?_
                show X 54 41 [vR 6, vI x1, vI x2, vI x3, vI 1] [vI 1] (ab_up h 6 0 1) _
                refine X_if (L := L_54) (n' := 43) rfl rfl rfl rfl (fun z => absurd z (show ¬ ((1 : Int) ≤ (0 : Int)) by decide)) (fun _ => ?_)
                show X 54 42 [vR 6, vI x1, vI x2, vI x3, vI 1] [] (ab_up h 6 0 1) _
                refine X_ret (L := L_54) rfl rfl rfl rfl ?_
                exact H
              · have z35 : x1 < h 6 7 := (Int.not_le.mp z35)
                replace H := H.2 z35
                show X 51 6 [vR 6, vI x1] [] h _
                refine X_b 1 7 (L := L_51) rfl rfl rfl ?_
                show X 51 7 [vR 6, vI x1] [vI 1] h _
                refine X_goto (L := L_51) (n' := 9) rfl rfl rfl rfl ?_
                show X 51 9 [vR 6, vI x1] [vI 1] h _
                refine X_zret (L := L_51) rfl rfl rfl rfl (by decide) ?_
                show X 54 27 [vR 6, vI x1, vI x2, vI x3, vI 1] [vI 1, vR 6] h _
                refine X_if (L := L_54) (n' := 31) rfl rfl rfl rfl (fun z => absurd z (show ¬ ((1 : Int) = (0 : Int)) by decide)) (fun _ => ?_)
                show X 54 28 [vR 6, vI x1, vI x2, vI x3, vI 1] [vR 6] h _
                refine X_b 1 29 (L := L_54) rfl rfl rfl ?_
                show X 54 29 [vR 6, vI x1, vI x2, vI x3, vI 1] [vI x2, vR 6] h _
                refine X_call 52 [vI x2] [vR 6] rfl (sg_cals rfl rfl rfl rfl rfl rfl rfl rfl rfl rfl) (by decide) ?_
                show X 52 0 [vI x2] [] h _
                refine X_b 1 1 (L := L_52) rfl rfl rfl ?_
                show X 52 1 [vI x2] [vI x2] h _
                refine X_if (L := L_52) (n' := 7) rfl rfl rfl rfl (fun z36 => ?_) (fun z36 => ?_)
                · have z36 : x2 < 0 := z36
                  replace H := H.1 z36
                  show X 52 7 [vI x2] [] h _
                  refine X_b 1 8 (L := L_52) rfl rfl rfl ?_
                  show X 52 8 [vI x2] [vI 0] h _
                  refine X_zret (L := L_52) rfl rfl rfl rfl (by decide) ?_
                  show X 54 30 [vR 6, vI x1, vI x2, vI x3, vI 1] [vI 0, vR 6] h _
                  refine X_if (L := L_54) (n' := 33) rfl rfl rfl rfl (fun z => absurd z (show ¬ (¬ (0 : Int) = (0 : Int)) by decide)) (fun _ => ?_)
                  show X 54 31 [vR 6, vI x1, vI x2, vI x3, vI 1] [vR 6] h _
                  refine X_b 1 32 (L := L_54) rfl rfl rfl ?_
                  show X 54 32 [vR 6, vI x1, vI x2, vI x3, vI 1] [vI 1, vR 6] h _
                  refine X_goto (L := L_54) (n' := 38) rfl rfl rfl rfl ?_
                  show X 54 38 [vR 6, vI x1, vI x2, vI x3, vI 1] [vI 1, vR 6] h _
                  refine X_b 3 41 (L := L_54) rfl rfl rfl ?_
                  show X 54 41 [vR 6, vI x1, vI x2, vI x3, vI 1] [vI 1] (ab_up h 6 0 1) _
                  refine X_if (L := L_54) (n' := 43) rfl rfl rfl rfl (fun z => absurd z (show ¬ ((1 : Int) ≤ (0 : Int)) by decide)) (fun _ => ?_)
                  show X 54 42 [vR 6, vI x1, vI x2, vI x3, vI 1] [] (ab_up h 6 0 1) _
                  refine X_ret (L := L_54) rfl rfl rfl rfl ?_
                  exact H
                · have z36 : 0 ≤ x2 := (Int.not_lt.mp z36)
                  replace H := H.2 z36
                  show X 52 2 [vI x2] [] h _
                  refine X_b 2 4 (L := L_52) rfl rfl rfl ?_
                  show X 52 4 [vI x2] [vI 9, vI x2] h _
                  refine X_icmp (L := L_52) (n' := 7) rfl rfl rfl rfl (fun z37 => ?_) (fun z37 => ?_)
                  · have z37 : 9 < x2 := z37
                    replace H := H.1 z37
                    show X 52 7 [vI x2] [] h _
                    refine X_b 1 8 (L := L_52) rfl rfl rfl ?_
                    show X 52 8 [vI x2] [vI 0] h _
                    refine X_zret (L := L_52) rfl rfl rfl rfl (by decide) ?_
                    show X 54 30 [vR 6, vI x1, vI x2, vI x3, vI 1] [vI 0, vR 6] h _
                    refine X_if (L := L_54) (n' := 33) rfl rfl rfl rfl (fun z => absurd z (show ¬ (¬ (0 : Int) = (0 : Int)) by decide)) (fun _ => ?_)
                    show X 54 31 [vR 6, vI x1, vI x2, vI x3, vI 1] [vR 6] h _
                    refine X_b 1 32 (L := L_54) rfl rfl rfl ?_
                    show X 54 32 [vR 6, vI x1, vI x2, vI x3, vI 1] [vI 1, vR 6] h _
                    refine X_goto (L := L_54) (n' := 38) rfl rfl rfl rfl ?_
                    show X 54 38 [vR 6, vI x1, vI x2, vI x3, vI 1] [vI 1, vR 6] h _
                    refine X_b 3 41 (L := L_54) rfl rfl rfl ?_
                    show X 54 41 [vR 6, vI x1, vI x2, vI x3, vI 1] [vI 1] (ab_up h 6 0 1) _
                    refine X_if (L := L_54) (n' := 43) rfl rfl rfl rfl (fun z => absurd z (show ¬ ((1 : Int) ≤ (0 : Int)) by decide)) (fun _ => ?_)
                    show X 54 42 [vR 6, vI x1, vI x2, vI x3, vI 1] [] (ab_up h 6 0 1) _
                    refine X_ret (L := L_54) rfl rfl rfl rfl ?_
                    exact H
                  · have z37 : x2 ≤ 9 := (Int.not_lt.mp z37)
                    replace H := H.2 z37
                    show X 52 5 [vI x2] [] h _
                    obtain ⟨⟨c38, c39⟩, H⟩ := H
                    refine X_b 1 6 (L := L_52) rfl rfl rfl ?_
                    show X 52 6 [vI x2] [vI 1] h _
                    refine X_goto (L := L_52) (n' := 8) rfl rfl rfl rfl ?_
                    show X 52 8 [vI x2] [vI 1] h _
                    refine X_zret (L := L_52) rfl rfl rfl rfl (by decide) ?_
                    show X 54 30 [vR 6, vI x1, vI x2, vI x3, vI 1] [vI 1, vR 6] h _
                    refine X_if (L := L_54) (n' := 33) rfl rfl rfl rfl (fun _ => ?_) (fun z => absurd (show ¬ (1 : Int) = (0 : Int) by decide) z)
                    show X 54 33 [vR 6, vI x1, vI x2, vI x3, vI 1] [vR 6] h _
                    refine X_b 1 34 (L := L_54) rfl rfl rfl ?_
                    show X 54 34 [vR 6, vI x1, vI x2, vI x3, vI 1] [vI 1, vR 6] h _
                    refine X_if (L := L_54) (n' := 37) rfl rfl rfl rfl (fun z => absurd z (show ¬ ((1 : Int) = (0 : Int)) by decide)) (fun _ => ?_)
                    show X 54 35 [vR 6, vI x1, vI x2, vI x3, vI 1] [vR 6] h _
                    refine X_b 1 36 (L := L_54) rfl rfl rfl ?_
                    show X 54 36 [vR 6, vI x1, vI x2, vI x3, vI 1] [vI 0, vR 6] h _
                    refine X_goto (L := L_54) (n' := 38) rfl rfl rfl rfl ?_
                    show X 54 38 [vR 6, vI x1, vI x2, vI x3, vI 1] [vI 0, vR 6] h _
                    refine X_b 3 41 (L := L_54) rfl rfl rfl ?_
                    show X 54 41 [vR 6, vI x1, vI x2, vI x3, vI 1] [vI 0] (ab_up h 6 0 0) _
                    refine X_if (L := L_54) (n' := 43) rfl rfl rfl rfl (fun _ => ?_) (fun z => absurd (show (0 : Int) ≤ (0 : Int) by decide) z)
                    show X 54 43 [vR 6, vI x1, vI x2, vI x3, vI 1] [] (ab_up h 6 0 0) _
                    refine X_b 10 53 (L := L_54) rfl rfl rfl ?_
                    show (-2147483648 ≤ 10 * x1 ∧ 10 * x1 ≤ 2147483647) ∧ (-2147483648 ≤ (10 * x1) + x2 ∧ (10 * x1) + x2 ≤ 2147483647) ∧ (0 ≤ (10 * x1) + x2 ∧ (10 * x1) + x2 < 500) ∧ X 54 53 [vR 6, vI x1, vI x2, vI x3, vI 1] [vR 6] (ab_up (ab_up h 6 0 0) 26 ((10 * x1) + x2) x3) _
                    refine ⟨c38, by have := c39; omega, c39, ?_⟩
                    refine X_call 30 [vR 6] [] rfl (sg_calv rfl rfl rfl rfl rfl rfl rfl rfl rfl rfl rfl) (by decide) ?_
                    show X 30 0 [vR 6] [] (ab_up (ab_up h 6 0 0) 26 ((10 * x1) + x2) x3) _
                    refine X_b 6 6 (L := L_30) rfl rfl rfl ?_
                    show ((0 : Int) = 0 ∨ (0 : Int) = 1) ∧ X 30 6 [vR 6] [] (ab_up (ab_up (ab_up (ab_up h 6 0 0) 26 ((10 * x1) + x2) x3) 6 19 0) 6 22 0) _
                    refine ⟨by decide, ?_⟩
                    refine X_ret (L := L_30) rfl rfl rfl rfl ?_
                    show X 54 54 [vR 6, vI x1, vI x2, vI x3, vI 1] [] (ab_up (ab_up (ab_up (ab_up h 6 0 0) 26 ((10 * x1) + x2) x3) 6 19 0) 6 22 0) _
                    refine X_ret (L := L_54) rfl rfl rfl rfl ?_
                    exact H
    · have z8 : 0 ≤ x3 := (Int.not_lt.mp z8)
      replace H := H.2 z8
      show X 51 2 [vR 6, vI x3] [] h _
      refine X_b 3 5 (L := L_51) rfl rfl rfl ?_
      show X 51 5 [vR 6, vI x3] [vI (h 6 7), vI x3] h _
      refine X_icmp (L := L_51) (n' := 8) rfl rfl rfl rfl (fun z40 => ?_) (fun z40 => ?_)
      · have z40 : h 6 7 ≤ x3 := z40
        replace H := H.1 z40
        show X 51 8 [vR 6, vI x3] [] h _
        refine X_b 1 9 (L := L_51) rfl rfl rfl ?_
        show X 51 9 [vR 6, vI x3] [vI 0] h _
        refine X_zret (L := L_51) rfl rfl rfl rfl (by decide) ?_
        show X 54 6 [vR 6, vI x1, vI x2, vI x3, vJ 0] [vI 0] h _
        refine X_if (L := L_54) (n' := 19) rfl rfl rfl rfl (fun z => absurd z (show ¬ (¬ (0 : Int) = (0 : Int)) by decide)) (fun _ => ?_)
        show X 54 7 [vR 6, vI x1, vI x2, vI x3, vJ 0] [] h _
        refine X_b 2 9 (L := L_54) rfl rfl rfl ?_
        show X 54 9 [vR 6, vI x1, vI x2, vI x3, vJ 0] [vI 100, vI x3] h _
        refine X_icmp (L := L_54) (n' := 16) rfl rfl rfl rfl (fun z41 => ?_) (fun z41 => ?_)
        · have z41 : x3 < 100 := z41
          replace H := H.1 z41
          show X 54 16 [vR 6, vI x1, vI x2, vI x3, vJ 0] [] h _
          refine X_b 2 18 (L := L_54) rfl rfl rfl ?_
          show X 54 18 [vR 6, vI x1, vI x2, vI x3, vJ 0] [vI 200, vI x3] h _
          refine X_icmp (L := L_54) (n' := 21) rfl rfl rfl rfl (fun z42 => ?_) (fun z42 => ?_)
          · have z42 : ¬ x3 = 200 := z42
            replace H := H.1 z42
            show X 54 21 [vR 6, vI x1, vI x2, vI x3, vJ 0] [] h _
            refine X_b 5 26 (L := L_54) rfl rfl rfl ?_
            show X 54 26 [vR 6, vI x1, vI x2, vI x3, vI 0] [vI x1, vR 6, vR 6] h _
            refine X_call 51 [vR 6, vI x1] [vR 6] rfl (sg_calv rfl rfl rfl rfl rfl rfl rfl rfl rfl rfl rfl) (by decide) ?_
            show X 51 0 [vR 6, vI x1] [] h _
            refine X_b 1 1 (L := L_51) rfl rfl rfl ?_
            show X 51 1 [vR 6, vI x1] [vI x1] h _
            refine X_if (L := L_51) (n' := 8) rfl rfl rfl rfl (fun z43 => ?_) (fun z43 => ?_)
            · have z43 : x1 < 0 := z43
              replace H := H.1 z43
              show X 51 8 [vR 6, vI x1] [] h _
              refine X_b 1 9 (L := L_51) rfl rfl rfl ?_
              show X 51 9 [vR 6, vI x1] [vI 0] h _
              refine X_zret (L := L_51) rfl rfl rfl rfl (by decide) ?_
              show X 54 27 [vR 6, vI x1, vI x2, vI x3, vI 0] [vI 0, vR 6] h _
              refine X_if (L := L_54) (n' := 31) rfl rfl rfl rfl (fun _ => ?_) (fun z => absurd (show (0 : Int) = (0 : Int) by decide) z)
              show X 54 31 [vR 6, vI x1, vI x2, vI x3, vI 0] [vR 6] h _
              refine X_b 1 32 (L := L_54) rfl rfl rfl ?_
              show X 54 32 [vR 6, vI x1, vI x2, vI x3, vI 0] [vI 1, vR 6] h _
              refine X_goto (L := L_54) (n' := 38) rfl rfl rfl rfl ?_
              show X 54 38 [vR 6, vI x1, vI x2, vI x3, vI 0] [vI 1, vR 6] h _
              refine X_b 3 41 (L := L_54) rfl rfl rfl ?_
              show X 54 41 [vR 6, vI x1, vI x2, vI x3, vI 0] [vI 1] (ab_up h 6 0 1) _
              refine X_if (L := L_54) (n' := 43) rfl rfl rfl rfl (fun z => absurd z (show ¬ ((1 : Int) ≤ (0 : Int)) by decide)) (fun _ => ?_)
              show X 54 42 [vR 6, vI x1, vI x2, vI x3, vI 0] [] (ab_up h 6 0 1) _
              refine X_ret (L := L_54) rfl rfl rfl rfl ?_
              exact H
            · have z43 : 0 ≤ x1 := (Int.not_lt.mp z43)
              replace H := H.2 z43
              show X 51 2 [vR 6, vI x1] [] h _
              refine X_b 3 5 (L := L_51) rfl rfl rfl ?_
              show X 51 5 [vR 6, vI x1] [vI (h 6 7), vI x1] h _
              refine X_icmp (L := L_51) (n' := 8) rfl rfl rfl rfl (fun z44 => ?_) (fun z44 => ?_)
              · have z44 : h 6 7 ≤ x1 := z44
                replace H := H.1 z44
                show X 51 8 [vR 6, vI x1] [] h _
                refine X_b 1 9 (L := L_51) rfl rfl rfl ?_
                show X 51 9 [vR 6, vI x1] [vI 0] h _
                refine X_zret (L := L_51) rfl rfl rfl rfl (by decide) ?_
                show X 54 27 [vR 6, vI x1, vI x2, vI x3, vI 0] [vI 0, vR 6] h _
                refine X_if (L := L_54) (n' := 31) rfl rfl rfl rfl (fun _ => ?_) (fun z => absurd (show (0 : Int) = (0 : Int) by decide) z)
                show X 54 31 [vR 6, vI x1, vI x2, vI x3, vI 0] [vR 6] h _
                refine X_b 1 32 (L := L_54) rfl rfl rfl ?_
                show X 54 32 [vR 6, vI x1, vI x2, vI x3, vI 0] [vI 1, vR 6] h _
                refine X_goto (L := L_54) (n' := 38) rfl rfl rfl rfl ?_
                show X 54 38 [vR 6, vI x1, vI x2, vI x3, vI 0] [vI 1, vR 6] h _
                refine X_b 3 41 (L := L_54) rfl rfl rfl ?_
                show X 54 41 [vR 6, vI x1, vI x2, vI x3, vI 0] [vI 1] (ab_up h 6 0 1) _
                refine X_if (L := L_54) (n' := 43) rfl rfl rfl rfl (fun z => absurd z (show ¬ ((1 : Int) ≤ (0 : Int)) by decide)) (fun _ => ?_)
                show X 54 42 [vR 6, vI x1, vI x2, vI x3, vI 0] [] (ab_up h 6 0 1) _
                refine X_ret (L := L_54) rfl rfl rfl rfl ?_
                exact H
              · have z44 : x1 < h 6 7 := (Int.not_le.mp z44)
                replace H := H.2 z44
                show X 51 6 [vR 6, vI x1] [] h _
                refine X_b 1 7 (L := L_51) rfl rfl rfl ?_
                show X 51 7 [vR 6, vI x1] [vI 1] h _
                refine X_goto (L := L_51) (n' := 9) rfl rfl rfl rfl ?_
                show X 51 9 [vR 6, vI x1] [vI 1] h _
                refine X_zret (L := L_51) rfl rfl rfl rfl (by decide) ?_
                show X 54 27 [vR 6, vI x1, vI x2, vI x3, vI 0] [vI 1, vR 6] h _
                refine X_if (L := L_54) (n' := 31) rfl rfl rfl rfl (fun z => absurd z (show ¬ ((1 : Int) = (0 : Int)) by decide)) (fun _ => ?_)
                show X 54 28 [vR 6, vI x1, vI x2, vI x3, vI 0] [vR 6] h _
                refine X_b 1 29 (L := L_54) rfl rfl rfl ?_
                show X 54 29 [vR 6, vI x1, vI x2, vI x3, vI 0] [vI x2, vR 6] h _
                refine X_call 52 [vI x2] [vR 6] rfl (sg_cals rfl rfl rfl rfl rfl rfl rfl rfl rfl rfl) (by decide) ?_
                show X 52 0 [vI x2] [] h _
                refine X_b 1 1 (L := L_52) rfl rfl rfl ?_
                show X 52 1 [vI x2] [vI x2] h _
                refine X_if (L := L_52) (n' := 7) rfl rfl rfl rfl (fun z45 => ?_) (fun z45 => ?_)
                · have z45 : x2 < 0 := z45
                  replace H := H.1 z45
                  show X 52 7 [vI x2] [] h _
                  refine X_b 1 8 (L := L_52) rfl rfl rfl ?_
                  show X 52 8 [vI x2] [vI 0] h _
                  refine X_zret (L := L_52) rfl rfl rfl rfl (by decide) ?_
                  show X 54 30 [vR 6, vI x1, vI x2, vI x3, vI 0] [vI 0, vR 6] h _
                  refine X_if (L := L_54) (n' := 33) rfl rfl rfl rfl (fun z => absurd z (show ¬ (¬ (0 : Int) = (0 : Int)) by decide)) (fun _ => ?_)
                  show X 54 31 [vR 6, vI x1, vI x2, vI x3, vI 0] [vR 6] h _
                  refine X_b 1 32 (L := L_54) rfl rfl rfl ?_
                  show X 54 32 [vR 6, vI x1, vI x2, vI x3, vI 0] [vI 1, vR 6] h _
                  refine X_goto (L := L_54) (n' := 38) rfl rfl rfl rfl ?_
                  show X 54 38 [vR 6, vI x1, vI x2, vI x3, vI 0] [vI 1, vR 6] h _
                  refine X_b 3 41 (L := L_54) rfl rfl rfl ?_
                  show X 54 41 [vR 6, vI x1, vI x2, vI x3, vI 0] [vI 1] (ab_up h 6 0 1) _
                  refine X_if (L := L_54) (n' := 43) rfl rfl rfl rfl (fun z => absurd z (show ¬ ((1 : Int) ≤ (0 : Int)) by decide)) (fun _ => ?_)
                  show X 54 42 [vR 6, vI x1, vI x2, vI x3, vI 0] [] (ab_up h 6 0 1) _
                  refine X_ret (L := L_54) rfl rfl rfl rfl ?_
                  exact H
                · have z45 : 0 ≤ x2 := (Int.not_lt.mp z45)
                  replace H := H.2 z45
                  show X 52 2 [vI x2] [] h _
                  refine X_b 2 4 (L := L_52) rfl rfl rfl ?_
                  show X 52 4 [vI x2] [vI 9, vI x2] h _
                  refine X_icmp (L := L_52) (n' := 7) rfl rfl rfl rfl (fun z46 => ?_) (fun z46 => ?_)
                  · have z46 : 9 < x2 := z46
                    replace H := H.1 z46
                    show X 52 7 [vI x2] [] h _
                    refine X_b 1 8 (L := L_52) rfl rfl rfl ?_
                    show X 52 8 [vI x2] [vI 0] h _
                    refine X_zret (L := L_52) rfl rfl rfl rfl (by decide) ?_
                    show X 54 30 [vR 6, vI x1, vI x2, vI x3, vI 0] [vI 0, vR 6] h _
                    refine X_if (L := L_54) (n' := 33) rfl rfl rfl rfl (fun z => absurd z (show ¬ (¬ (0 : Int) = (0 : Int)) by decide)) (fun _ => ?_)
                    show X 54 31 [vR 6, vI x1, vI x2, vI x3, vI 0] [vR 6] h _
                    refine X_b 1 32 (L := L_54) rfl rfl rfl ?_
                    show X 54 32 [vR 6, vI x1, vI x2, vI x3, vI 0] [vI 1, vR 6] h _
                    refine X_goto (L := L_54) (n' := 38) rfl rfl rfl rfl ?_
                    show X 54 38 [vR 6, vI x1, vI x2, vI x3, vI 0] [vI 1, vR 6] h _
                    refine X_b 3 41 (L := L_54) rfl rfl rfl ?_
                    show X 54 41 [vR 6, vI x1, vI x2, vI x3, vI 0] [vI 1] (ab_up h 6 0 1) _
                    refine X_if (L := L_54) (n' := 43) rfl rfl rfl rfl (fun z => absurd z (show ¬ ((1 : Int) ≤ (0 : Int)) by decide)) (fun _ => ?_)
                    show X 54 42 [vR 6, vI x1, vI x2, vI x3, vI 0] [] (ab_up h 6 0 1) _
                    refine X_ret (L := L_54) rfl rfl rfl rfl ?_
                    exact H
                  · have z46 : x2 ≤ 9 := (Int.not_lt.mp z46)
                    replace H := H.2 z46
                    show X 52 5 [vI x2] [] h _
                    refine X_b 1 6 (L := L_52) rfl rfl rfl ?_
                    show X 52 6 [vI x2] [vI 1] h _
                    refine X_goto (L := L_52) (n' := 8) rfl rfl rfl rfl ?_
                    show X 52 8 [vI x2] [vI 1] h _
                    refine X_zret (L := L_52) rfl rfl rfl rfl (by decide) ?_
                    show X 54 30 [vR 6, vI x1, vI x2, vI x3, vI 0] [vI 1, vR 6] h _
                    refine X_if (L := L_54) (n' := 33) rfl rfl rfl rfl (fun _ => ?_) (fun z => absurd (show ¬ (1 : Int) = (0 : Int) by decide) z)
                    show X 54 33 [vR 6, vI x1, vI x2, vI x3, vI 0] [vR 6] h _
                    refine X_b 1 34 (L := L_54) rfl rfl rfl ?_
                    show X 54 34 [vR 6, vI x1, vI x2, vI x3, vI 0] [vI 0, vR 6] h _
                    refine X_if (L := L_54) (n' := 37) rfl rfl rfl rfl (fun _ => ?_) (fun z => absurd (show (0 : Int) = (0 : Int) by decide) z)
                    show X 54 37 [vR 6, vI x1, vI x2, vI x3, vI 0] [vR 6] h _
                    refine X_b 4 41 (L := L_54) rfl rfl rfl ?_
                    show X 54 41 [vR 6, vI x1, vI x2, vI x3, vI 0] [vI 2] (ab_up h 6 0 2) _
                    refine X_if (L := L_54) (n' := 43) rfl rfl rfl rfl (fun z => absurd z (show ¬ ((2 : Int) ≤ (0 : Int)) by decide)) (fun _ => ?_)
                    show X 54 42 [vR 6, vI x1, vI x2, vI x3, vI 0] [] (ab_up h 6 0 2) _
                    refine X_ret (L := L_54) rfl rfl rfl rfl ?_
                    exact H
          · have z42 : x3 = 200 := (Classical.not_not.mp z42)
            replace H := H.2 z42
            show X 54 19 [vR 6, vI x1, vI x2, vI x3, vJ 0] [] h _
            refine X_b 1 20 (L := L_54) rfl rfl rfl ?_
            show X 54 20 [vR 6, vI x1, vI x2, vI x3, vJ 0] [vI 1] h _
            refine X_goto (L := L_54) (n' := 22) rfl rfl rfl rfl ?_
            show X 54 22 [vR 6, vI x1, vI x2, vI x3, vJ 0] [vI 1] h _
            refine X_b 4 26 (L := L_54) rfl rfl rfl ?_
            show X 54 26 [vR 6, vI x1, vI x2, vI x3, vI 1] [vI x1, vR 6, vR 6] h _
            refine X_call 51 [vR 6, vI x1] [vR 6] rfl (sg_calv rfl rfl rfl rfl rfl rfl rfl rfl rfl rfl rfl) (by decide) ?_
            show X 51 0 [vR 6, vI x1] [] h _
            refine X_b 1 1 (L := L_51) rfl rfl rfl ?_
            show X 51 1 [vR 6, vI x1] [vI x1] h _
            refine X_if (L := L_51) (n' := 8) rfl rfl rfl rfl (fun z47 => ?_) (fun z47 => ?_)
            · have z47 : x1 < 0 := z47
              replace H := H.1 z47
              show X 51 8 [vR 6, vI x1] [] h _
              refine X_b 1 9 (L := L_51) rfl rfl rfl ?_
              show X 51 9 [vR 6, vI x1] [vI 0] h _
              refine X_zret (L := L_51) rfl rfl rfl rfl (by decide) ?_
              show X 54 27 [vR 6, vI x1, vI x2, vI x3, vI 1] [vI 0, vR 6] h _
              refine X_if (L := L_54) (n' := 31) rfl rfl rfl rfl (fun _ => ?_) (fun z => absurd (show (0 : Int) = (0 : Int) by decide) z)
              show X 54 31 [vR 6, vI x1, vI x2, vI x3, vI 1] [vR 6] h _
              refine X_b 1 32 (L := L_54) rfl rfl rfl ?_
              show X 54 32 [vR 6, vI x1, vI x2, vI x3, vI 1] [vI 1, vR 6] h _
              refine X_goto (L := L_54) (n' := 38) rfl rfl rfl rfl ?_
              show X 54 38 [vR 6, vI x1, vI x2, vI x3, vI 1] [vI 1, vR 6] h _
              refine X_b 3 41 (L := L_54) rfl rfl rfl ?_
              show X 54 41 [vR 6, vI x1, vI x2, vI x3, vI 1] [vI 1] (ab_up h 6 0 1) _
              refine X_if (L := L_54) (n' := 43) rfl rfl rfl rfl (fun z => absurd z (show ¬ ((1 : Int) ≤ (0 : Int)) by decide)) (fun _ => ?_)
              show X 54 42 [vR 6, vI x1, vI x2, vI x3, vI 1] [] (ab_up h 6 0 1) _
              refine X_ret (L := L_54) rfl rfl rfl rfl ?_
              exact H
            · have z47 : 0 ≤ x1 := (Int.not_lt.mp z47)
              replace H := H.2 z47
              show X 51 2 [vR 6, vI x1] [] h _
              refine X_b 3 5 (L := L_51) rfl rfl rfl ?_
              show X 51 5 [vR 6, vI x1] [vI (h 6 7), vI x1] h _
              refine X_icmp (L := L_51) (n' := 8) rfl rfl rfl rfl (fun z48 => ?_) (fun z48 => ?_)
              · have z48 : h 6 7 ≤ x1 := z48
                replace H := H.1 z48
                show X 51 8 [vR 6, vI x1] [] h _
                refine X_b 1 9 (L := L_51) rfl rfl rfl ?_
                show X 51 9 [vR 6, vI x1] [vI 0] h _
                refine X_zret (L := L_51) rfl rfl rfl rfl (by decide) ?_
                show X 54 27 [vR 6, vI x1, vI x2, vI x3, vI 1] [vI 0, vR 6] h _
                refine X_if (L := L_54) (n' := 31) rfl rfl rfl rfl (fun _ => ?_) (fun z => absurd (show (0 : Int) = (0 : Int) by decide) z)
                show X 54 31 [vR 6, vI x1, vI x2, vI x3, vI 1] [vR 6] h _
                refine X_b 1 32 (L := L_54) rfl rfl rfl ?_
                show X 54 32 [vR 6, vI x1, vI x2, vI x3, vI 1] [vI 1, vR 6] h _
                refine X_goto (L := L_54) (n' := 38) rfl rfl rfl rfl ?_
                show X 54 38 [vR 6, vI x1, vI x2, vI x3, vI 1] [vI 1, vR 6] h _
                refine X_b 3 41 (L := L_54) rfl rfl rfl ?_
                show X 54 41 [vR 6, vI x1, vI x2, vI x3, vI 1] [vI 1] (ab_up h 6 0 1) _
                refine X_if (L := L_54) (n' := 43) rfl rfl rfl rfl (fun z => absurd z (show ¬ ((1 : Int) ≤ (0 : Int)) by decide)) (fun _ => ?_)
                show X 54 42 [vR 6, vI x1, vI x2, vI x3, vI 1] [] (ab_up h 6 0 1) _
                refine X_ret (L := L_54) rfl rfl rfl rfl ?_
                exact H
              · have z48 : x1 < h 6 7 := (Int.not_le.mp z48)
                replace H := H.2 z48
                show X 51 6 [vR 6, vI x1] [] h _
                refine X_b 1 7 (L := L_51) rfl rfl rfl ?_
                show X 51 7 [vR 6, vI x1] [vI 1] h _
                refine X_goto (L := L_51) (n' := 9) rfl rfl rfl rfl ?_
                show X 51 9 [vR 6, vI x1] [vI 1] h _
                refine X_zret (L := L_51) rfl rfl rfl rfl (by decide) ?_
                show X 54 27 [vR 6, vI x1, vI x2, vI x3, vI 1] [vI 1, vR 6] h _
                refine X_if (L := L_54) (n' := 31) rfl rfl rfl rfl (fun z => absurd z (show ¬ ((1 : Int) = (0 : Int)) by decide)) (fun _ => ?_)
                show X 54 28 [vR 6, vI x1, vI x2, vI x3, vI 1] [vR 6] h _
                refine X_b 1 29 (L := L_54) rfl rfl rfl ?_
                show X 54 29 [vR 6, vI x1, vI x2, vI x3, vI 1] [vI x2, vR 6] h _
                refine X_call 52 [vI x2] [vR 6] rfl (sg_cals rfl rfl rfl rfl rfl rfl rfl rfl rfl rfl) (by decide) ?_
                show X 52 0 [vI x2] [] h _
                refine X_b 1 1 (L := L_52) rfl rfl rfl ?_
                show X 52 1 [vI x2] [vI x2] h _
                refine X_if (L := L_52) (n' := 7) rfl rfl rfl rfl (fun z49 => ?_) (fun z49 => ?_)
                · have z49 : x2 < 0 := z49
                  replace H := H.1 z49
                  show X 52 7 [vI x2] [] h _
                  refine X_b 1 8 (L := L_52) rfl rfl rfl ?_
                  show X 52 8 [vI x2] [vI 0] h _
                  refine X_zret (L := L_52) rfl rfl rfl rfl (by decide) ?_
                  show X 54 30 [vR 6, vI x1, vI x2, vI x3, vI 1] [vI 0, vR 6] h _
                  refine X_if (L := L_54) (n' := 33) rfl rfl rfl rfl (fun z => absurd z (show ¬ (¬ (0 : Int) = (0 : Int)) by decide)) (fun _ => ?_)
                  show X 54 31 [vR 6, vI x1, vI x2, vI x3, vI 1] [vR 6] h _
                  refine X_b 1 32 (L := L_54) rfl rfl rfl ?_
                  show X 54 32 [vR 6, vI x1, vI x2, vI x3, vI 1] [vI 1, vR 6] h _
                  refine X_goto (L := L_54) (n' := 38) rfl rfl rfl rfl ?_
                  show X 54 38 [vR 6, vI x1, vI x2, vI x3, vI 1] [vI 1, vR 6] h _
                  refine X_b 3 41 (L := L_54) rfl rfl rfl ?_
                  show X 54 41 [vR 6, vI x1, vI x2, vI x3, vI 1] [vI 1] (ab_up h 6 0 1) _
                  refine X_if (L := L_54) (n' := 43) rfl rfl rfl rfl (fun z => absurd z (show ¬ ((1 : Int) ≤ (0 : Int)) by decide)) (fun _ => ?_)
                  show X 54 42 [vR 6, vI x1, vI x2, vI x3, vI 1] [] (ab_up h 6 0 1) _
                  refine X_ret (L := L_54) rfl rfl rfl rfl ?_
                  exact H
                · have z49 : 0 ≤ x2 := (Int.not_lt.mp z49)
                  replace H := H.2 z49
                  show X 52 2 [vI x2] [] h _
                  refine X_b 2 4 (L := L_52) rfl rfl rfl ?_
                  show X 52 4 [vI x2] [vI 9, vI x2] h _
                  refine X_icmp (L := L_52) (n' := 7) rfl rfl rfl rfl (fun z50 => ?_) (fun z50 => ?_)
                  · have z50 : 9 < x2 := z50
                    replace H := H.1 z50
                    show X 52 7 [vI x2] [] h _
                    refine X_b 1 8 (L := L_52) rfl rfl rfl ?_
                    show X 52 8 [vI x2] [vI 0] h _
                    refine X_zret (L := L_52) rfl rfl rfl rfl (by decide) ?_
                    show X 54 30 [vR 6, vI x1, vI x2, vI x3, vI 1] [vI 0, vR 6] h _
                    refine X_if (L := L_54) (n' := 33) rfl rfl rfl rfl (fun z => absurd z (show ¬ (¬ (0 : Int) = (0 : Int)) by decide)) (fun _ => ?_)
                    show X 54 31 [vR 6, vI x1, vI x2, vI x3, vI 1] [vR 6] h _
                    refine X_b 1 32 (L := L_54) rfl rfl rfl ?_
                    show X 54 32 [vR 6, vI x1, vI x2, vI x3, vI 1] [vI 1, vR 6] h _
                    refine X_goto (L := L_54) (n' := 38) rfl rfl rfl rfl ?_
                    show X 54 38 [vR 6, vI x1, vI x2, vI x3, vI 1] [vI 1, vR 6] h _
                    refine X_b 3 41 (L := L_54) rfl rfl rfl ?_
                    show X 54 41 [vR 6, vI x1, vI x2, vI x3, vI 1] [vI 1] (ab_up h 6 0 1) _
                    refine X_if (L := L_54) (n' := 43) rfl rfl rfl rfl (fun z => absurd z (show ¬ ((1 : Int) ≤ (0 : Int)) by decide)) (fun _ => ?_)
                    show X 54 42 [vR 6, vI x1, vI x2, vI x3, vI 1] [] (ab_up h 6 0 1) _
                    refine X_ret (L := L_54) rfl rfl rfl rfl ?_
                    exact H
                  · have z50 : x2 ≤ 9 := (Int.not_lt.mp z50)
                    replace H := H.2 z50
                    show X 52 5 [vI x2] [] h _
                    obtain ⟨⟨c51, c52⟩, H⟩ := H
                    refine X_b 1 6 (L := L_52) rfl rfl rfl ?_
                    show X 52 6 [vI x2] [vI 1] h _
                    refine X_goto (L := L_52) (n' := 8) rfl rfl rfl rfl ?_
                    show X 52 8 [vI x2] [vI 1] h _
                    refine X_zret (L := L_52) rfl rfl rfl rfl (by decide) ?_
                    show X 54 30 [vR 6, vI x1, vI x2, vI x3, vI 1] [vI 1, vR 6] h _
                    refine X_if (L := L_54) (n' := 33) rfl rfl rfl rfl (fun _ => ?_) (fun z => absurd (show ¬ (1 : Int) = (0 : Int) by decide) z)
                    show X 54 33 [vR 6, vI x1, vI x2, vI x3, vI 1] [vR 6] h _
                    refine X_b 1 34 (L := L_54) rfl rfl rfl ?_
                    show X 54 34 [vR 6, vI x1, vI x2, vI x3, vI 1] [vI 1, vR 6] h _
                    refine X_if (L := L_54) (n' := 37) rfl rfl rfl rfl (fun z => absurd z (show ¬ ((1 : Int) = (0 : Int)) by decide)) (fun _ => ?_)
                    show X 54 35 [vR 6, vI x1, vI x2, vI x3, vI 1] [vR 6] h _
                    refine X_b 1 36 (L := L_54) rfl rfl rfl ?_
                    show X 54 36 [vR 6, vI x1, vI x2, vI x3, vI 1] [vI 0, vR 6] h _
                    refine X_goto (L := L_54) (n' := 38) rfl rfl rfl rfl ?_
                    show X 54 38 [vR 6, vI x1, vI x2, vI x3, vI 1] [vI 0, vR 6] h _
                    refine X_b 3 41 (L := L_54) rfl rfl rfl ?_
                    show X 54 41 [vR 6, vI x1, vI x2, vI x3, vI 1] [vI 0] (ab_up h 6 0 0) _
                    refine X_if (L := L_54) (n' := 43) rfl rfl rfl rfl (fun _ => ?_) (fun z => absurd (show (0 : Int) ≤ (0 : Int) by decide) z)
                    show X 54 43 [vR 6, vI x1, vI x2, vI x3, vI 1] [] (ab_up h 6 0 0) _
                    refine X_b 10 53 (L := L_54) rfl rfl rfl ?_
                    show (-2147483648 ≤ 10 * x1 ∧ 10 * x1 ≤ 2147483647) ∧ (-2147483648 ≤ (10 * x1) + x2 ∧ (10 * x1) + x2 ≤ 2147483647) ∧ (0 ≤ (10 * x1) + x2 ∧ (10 * x1) + x2 < 500) ∧ X 54 53 [vR 6, vI x1, vI x2, vI x3, vI 1] [vR 6] (ab_up (ab_up h 6 0 0) 26 ((10 * x1) + x2) x3) _
                    refine ⟨c51, by have := c52; omega, c52, ?_⟩
                    refine X_call 30 [vR 6] [] rfl (sg_calv rfl rfl rfl rfl rfl rfl rfl rfl rfl rfl rfl) (by decide) ?_
                    show X 30 0 [vR 6] [] (ab_up (ab_up h 6 0 0) 26 ((10 * x1) + x2) x3) _
                    refine X_b 6 6 (L := L_30) rfl rfl rfl ?_
                    show ((0 : Int) = 0 ∨ (0 : Int) = 1) ∧ X 30 6 [vR 6] [] (ab_up (ab_up (ab_up (ab_up h 6 0 0) 26 ((10 * x1) + x2) x3) 6 19 0) 6 22 0) _
                    refine ⟨by decide, ?_⟩
                    refine X_ret (L := L_30) rfl rfl rfl rfl ?_
                    show X 54 54 [vR 6, vI x1, vI x2, vI x3, vI 1] [] (ab_up (ab_up (ab_up (ab_up h 6 0 0) 26 ((10 * x1) + x2) x3) 6 19 0) 6 22 0) _
                    refine X_ret (L := L_54) rfl rfl rfl rfl ?_
                    exact H
        · have z41 : 100 ≤ x3 := (Int.not_lt.mp z41)
          replace H := H.2 z41
          show X 54 10 [vR 6, vI x1, vI x2, vI x3, vJ 0] [] h _
          obtain ⟨c53, H⟩ := H
          refine X_b 5 15 (L := L_54) rfl rfl rfl ?_
          show (-2147483648 ≤ 100 + (h 6 1) ∧ 100 + (h 6 1) ≤ 2147483647) ∧ X 54 15 [vR 6, vI x1, vI x2, vI x3, vJ 0] [vI (100 + (h 6 1)), vI x3] h _
          refine ⟨c53, ?_⟩
          refine X_icmp (L := L_54) (n' := 19) rfl rfl rfl rfl (fun z54 => ?_) (fun z54 => ?_)
          · have z54 : x3 ≤ 100 + (h 6 1) := z54
            replace H := H.1 z54
            show X 54 19 [vR 6, vI x1, vI x2, vI x3, vJ 0] [] h _
            refine X_b 1 20 (L := L_54) rfl rfl rfl ?_
            show X 54 20 [vR 6, vI x1, vI x2, vI x3, vJ 0] [vI 1] h _
            refine X_goto (L := L_54) (n' := 22) rfl rfl rfl rfl ?_
            show X 54 22 [vR 6, vI x1, vI x2, vI x3, vJ 0] [vI 1] h _
            refine X_b 4 26 (L := L_54) rfl rfl rfl ?_
            show X 54 26 [vR 6, vI x1, vI x2, vI x3, vI 1] [vI x1, vR 6, vR 6] h _
            refine X_call 51 [vR 6, vI x1] [vR 6] rfl (sg_calv rfl rfl rfl rfl rfl rfl rfl rfl rfl rfl rfl) (by decide) ?_
            show X 51 0 [vR 6, vI x1] [] h _
            refine X_b 1 1 (L := L_51) rfl rfl rfl ?_
            show X 51 1 [vR 6, vI x1] [vI x1] h _
            refine X_if (L := L_51) (n' := 8) rfl rfl rfl rfl (fun z55 => ?_) (fun z55 => ?_)
            · have z55 : x1 < 0 := z55
              replace H := H.1 z55
              show X 51 8 [vR 6, vI x1] [] h _
              refine X_b 1 9 (L := L_51) rfl rfl rfl ?_
              show X 51 9 [vR 6, vI x1] [vI 0] h _
              refine X_zret (L := L_51) rfl rfl rfl rfl (by decide) ?_
              show X 54 27 [vR 6, vI x1, vI x2, vI x3, vI 1] [vI 0, vR 6] h _
              refine X_if (L := L_54) (n' := 31) rfl rfl rfl rfl (fun _ => ?_) (fun z => absurd (show (0 : Int) = (0 : Int) by decide) z)
              show X 54 31 [vR 6, vI x1, vI x2, vI x3, vI 1] [vR 6] h _
              refine X_b 1 32 (L := L_54) rfl rfl rfl ?_
              show X 54 32 [vR 6, vI x1, vI x2, vI x3, vI 1] [vI 1, vR 6] h _
              refine X_goto (L := L_54) (n' := 38) rfl rfl rfl rfl ?_
              show X 54 38 [vR 6, vI x1, vI x2, vI x3, vI 1] [vI 1, vR 6] h _
              refine X_b 3 41 (L := L_54) rfl rfl rfl ?_
              show X 54 41 [vR 6, vI x1, vI x2, vI x3, vI 1] [vI 1] (ab_up h 6 0 1) _
              refine X_if (L := L_54) (n' := 43) rfl rfl rfl rfl (fun z => absurd z (show ¬ ((1 : Int) ≤ (0 : Int)) by decide)) (fun _ => ?_)
              show X 54 42 [vR 6, vI x1, vI x2, vI x3, vI 1] [] (ab_up h 6 0 1) _
              refine X_ret (L := L_54) rfl rfl rfl rfl ?_
              exact H
            · have z55 : 0 ≤ x1 := (Int.not_lt.mp z55)
              replace H := H.2 z55
              show X 51 2 [vR 6, vI x1] [] h _
              refine X_b 3 5 (L := L_51) rfl rfl rfl ?_
              show X 51 5 [vR 6, vI x1] [vI (h 6 7), vI x1] h _
              refine X_icmp (L := L_51) (n' := 8) rfl rfl rfl rfl (fun z56 => ?_) (fun z56 => ?_)
              · have z56 : h 6 7 ≤ x1 := z56
                replace H := H.1 z56
                show X 51 8 [vR 6, vI x1] [] h _
                refine X_b 1 9 (L := L_51) rfl rfl rfl ?_
                show X 51 9 [vR 6, vI x1] [vI 0] h _
                refine X_zret (L := L_51) rfl rfl rfl rfl (by decide) ?_
                show X 54 27 [vR 6, vI x1, vI x2, vI x3, vI 1] [vI 0, vR 6] h _
                refine X_if (L := L_54) (n' := 31) rfl rfl rfl rfl (fun _ => ?_) (fun z => absurd (show (0 : Int) = (0 : Int) by decide) z)
                show X 54 31 [vR 6, vI x1, vI x2, vI x3, vI 1] [vR 6] h _
                refine X_b 1 32 (L := L_54) rfl rfl rfl ?_
                show X 54 32 [vR 6, vI x1, vI x2, vI x3, vI 1] [vI 1, vR 6] h _
                refine X_goto (L := L_54) (n' := 38) rfl rfl rfl rfl ?_
                show X 54 38 [vR 6, vI x1, vI x2, vI x3, vI 1] [vI 1, vR 6] h _
                refine X_b 3 41 (L := L_54) rfl rfl rfl ?_
                show X 54 41 [vR 6, vI x1, vI x2, vI x3, vI 1] [vI 1] (ab_up h 6 0 1) _
                refine X_if (L := L_54) (n' := 43) rfl rfl rfl rfl (fun z => absurd z (show ¬ ((1 : Int) ≤ (0 : Int)) by decide)) (fun _ => ?_)
                show X 54 42 [vR 6, vI x1, vI x2, vI x3, vI 1] [] (ab_up h 6 0 1) _
                refine X_ret (L := L_54) rfl rfl rfl rfl ?_
                exact H
              · have z56 : x1 < h 6 7 := (Int.not_le.mp z56)
                replace H := H.2 z56
                show X 51 6 [vR 6, vI x1] [] h _
                refine X_b 1 7 (L := L_51) rfl rfl rfl ?_
                show X 51 7 [vR 6, vI x1] [vI 1] h _
                refine X_goto (L := L_51) (n' := 9) rfl rfl rfl rfl ?_
                show X 51 9 [vR 6, vI x1] [vI 1] h _
                refine X_zret (L := L_51) rfl rfl rfl rfl (by decide) ?_
                show X 54 27 [vR 6, vI x1, vI x2, vI x3, vI 1] [vI 1, vR 6] h _
                refine X_if (L := L_54) (n' := 31) rfl rfl rfl rfl (fun z => absurd z (show ¬ ((1 : Int) = (0 : Int)) by decide)) (fun _ => ?_)
                show X 54 28 [vR 6, vI x1, vI x2, vI x3, vI 1] [vR 6] h _
                refine X_b 1 29 (L := L_54) rfl rfl rfl ?_
                show X 54 29 [vR 6, vI x1, vI x2, vI x3, vI 1] [vI x2, vR 6] h _
                refine X_call 52 [vI x2] [vR 6] rfl (sg_cals rfl rfl rfl rfl rfl rfl rfl rfl rfl rfl) (by decide) ?_
                show X 52 0 [vI x2] [] h _
                refine X_b 1 1 (L := L_52) rfl rfl rfl ?_
                show X 52 1 [vI x2] [vI x2] h _
                refine X_if (L := L_52) (n' := 7) rfl rfl rfl rfl (fun z57 => ?_) (fun z57 => ?_)
                · have z57 : x2 < 0 := z57
                  replace H := H.1 z57
                  show X 52 7 [vI x2] [] h _
                  refine X_b 1 8 (L := L_52) rfl rfl rfl ?_
                  show X 52 8 [vI x2] [vI 0] h _
                  refine X_zret (L := L_52) rfl rfl rfl rfl (by decide) ?_
                  show X 54 30 [vR 6, vI x1, vI x2, vI x3, vI 1] [vI 0, vR 6] h _
                  refine X_if (L := L_54) (n' := 33) rfl rfl rfl rfl (fun z => absurd z (show ¬ (¬ (0 : Int) = (0 : Int)) by decide)) (fun _ => ?_)
                  show X 54 31 [vR 6, vI x1, vI x2, vI x3, vI 1] [vR 6] h _
                  refine X_b 1 32 (L := L_54) rfl rfl rfl ?_
                  show X 54 32 [vR 6, vI x1, vI x2, vI x3, vI 1] [vI 1, vR 6] h _
                  refine X_goto (L := L_54) (n' := 38) rfl rfl rfl rfl ?_
                  show X 54 38 [vR 6, vI x1, vI x2, vI x3, vI 1] [vI 1, vR 6] h _
                  refine X_b 3 41 (L := L_54) rfl rfl rfl ?_
                  show X 54 41 [vR 6, vI x1, vI x2, vI x3, vI 1] [vI 1] (ab_up h 6 0 1) _
                  refine X_if (L := L_54) (n' := 43) rfl rfl rfl rfl (fun z => absurd z (show ¬ ((1 : Int) ≤ (0 : Int)) by decide)) (fun _ => ?_)
                  show X 54 42 [vR 6, vI x1, vI x2, vI x3, vI 1] [] (ab_up h 6 0 1) _
                  refine X_ret (L := L_54) rfl rfl rfl rfl ?_
                  exact H
                · have z57 : 0 ≤ x2 := (Int.not_lt.mp z57)
                  replace H := H.2 z57
                  show X 52 2 [vI x2] [] h _
                  refine X_b 2 4 (L := L_52) rfl rfl rfl ?_
                  show X 52 4 [vI x2] [vI 9, vI x2] h _
                  refine X_icmp (L := L_52) (n' := 7) rfl rfl rfl rfl (fun z58 => ?_) (fun z58 => ?_)
                  · have z58 : 9 < x2 := z58
                    replace H := H.1 z58
                    show X 52 7 [vI x2] [] h _
                    refine X_b 1 8 (L := L_52) rfl rfl rfl ?_
                    show X 52 8 [vI x2] [vI 0] h _
                    refine X_zret (L := L_52) rfl rfl rfl rfl (by decide) ?_
                    show X 54 30 [vR 6, vI x1, vI x2, vI x3, vI 1] [vI 0, vR 6] h _
                    refine X_if (L := L_54) (n' := 33) rfl rfl rfl rfl (fun z => absurd z (show ¬ (¬ (0 : Int) = (0 : Int)) by decide)) (fun _ => ?_)
                    show X 54 31 [vR 6, vI x1, vI x2, vI x3, vI 1] [vR 6] h _
                    refine X_b 1 32 (L := L_54) rfl rfl rfl ?_
                    show X 54 32 [vR 6, vI x1, vI x2, vI x3, vI 1] [vI 1, vR 6] h _
                    refine X_goto (L := L_54) (n' := 38) rfl rfl rfl rfl ?_
                    show X 54 38 [vR 6, vI x1, vI x2, vI x3, vI 1] [vI 1, vR 6] h _
                    refine X_b 3 41 (L := L_54) rfl rfl rfl ?_
                    show X 54 41 [vR 6, vI x1, vI x2, vI x3, vI 1] [vI 1] (ab_up h 6 0 1) _
                    refine X_if (L := L_54) (n' := 43) rfl rfl rfl rfl (fun z => absurd z (show ¬ ((1 : Int) ≤ (0 : Int)) by decide)) (fun _ => ?_)
                    show X 54 42 [vR 6, vI x1, vI x2, vI x3, vI 1] [] (ab_up h 6 0 1) _
                    refine X_ret (L := L_54) rfl rfl rfl rfl ?_
                    exact H
                  · have z58 : x2 ≤ 9 := (Int.not_lt.mp z58)
                    replace H := H.2 z58
                    show X 52 5 [vI x2] [] h _
                    obtain ⟨⟨c59, c60⟩, H⟩ := H
                    refine X_b 1 6 (L := L_52) rfl rfl rfl ?_
                    show X 52 6 [vI x2] [vI 1] h _
                    refine X_goto (L := L_52) (n' := 8) rfl rfl rfl rfl ?_
                    show X 52 8 [vI x2] [vI 1] h _
                    refine X_zret (L := L_52) rfl rfl rfl rfl (by decide) ?_
                    show X 54 30 [vR 6, vI x1, vI x2, vI x3, vI 1] [vI 1, vR 6] h _
                    refine X_if (L := L_54) (n' := 33) rfl rfl rfl rfl (fun _ => ?_) (fun z => absurd (show ¬ (1 : Int) = (0 : Int) by decide) z)
                    show X 54 33 [vR 6, vI x1, vI x2, vI x3, vI 1] [vR 6] h _
                    refine X_b 1 34 (L := L_54) rfl rfl rfl ?_
                    show X 54 34 [vR 6, vI x1, vI x2, vI x3, vI 1] [vI 1, vR 6] h _
                    refine X_if (L := L_54) (n' := 37) rfl rfl rfl rfl (fun z => absurd z (show ¬ ((1 : Int) = (0 : Int)) by decide)) (fun _ => ?_)
                    show X 54 35 [vR 6, vI x1, vI x2, vI x3, vI 1] [vR 6] h _
                    refine X_b 1 36 (L := L_54) rfl rfl rfl ?_
                    show X 54 36 [vR 6, vI x1, vI x2, vI x3, vI 1] [vI 0, vR 6] h _
                    refine X_goto (L := L_54) (n' := 38) rfl rfl rfl rfl ?_
                    show X 54 38 [vR 6, vI x1, vI x2, vI x3, vI 1] [vI 0, vR 6] h _
                    refine X_b 3 41 (L := L_54) rfl rfl rfl ?_
                    show X 54 41 [vR 6, vI x1, vI x2, vI x3, vI 1] [vI 0] (ab_up h 6 0 0) _
                    refine X_if (L := L_54) (n' := 43) rfl rfl rfl rfl (fun _ => ?_) (fun z => absurd (show (0 : Int) ≤ (0 : Int) by decide) z)
                    show X 54 43 [vR 6, vI x1, vI x2, vI x3, vI 1] [] (ab_up h 6 0 0) _
                    refine X_b 10 53 (L := L_54) rfl rfl rfl ?_
                    show (-2147483648 ≤ 10 * x1 ∧ 10 * x1 ≤ 2147483647) ∧ (-2147483648 ≤ (10 * x1) + x2 ∧ (10 * x1) + x2 ≤ 2147483647) ∧ (0 ≤ (10 * x1) + x2 ∧ (10 * x1) + x2 < 500) ∧ X 54 53 [vR 6, vI x1, vI x2, vI x3, vI 1] [vR 6] (ab_up (ab_up h 6 0 0) 26 ((10 * x1) + x2) x3) _
                    refine ⟨c59, by have := c60; omega, c60, ?_⟩
                    refine X_call 30 [vR 6] [] rfl (sg_calv rfl rfl rfl rfl rfl rfl rfl rfl rfl rfl rfl) (by decide) ?_
                    show X 30 0 [vR 6] [] (ab_up (ab_up h 6 0 0) 26 ((10 * x1) + x2) x3) _
                    refine X_b 6 6 (L := L_30) rfl rfl rfl ?_
                    show ((0 : Int) = 0 ∨ (0 : Int) = 1) ∧ X 30 6 [vR 6] [] (ab_up (ab_up (ab_up (ab_up h 6 0 0) 26 ((10 * x1) + x2) x3) 6 19 0) 6 22 0) _
                    refine ⟨by decide, ?_⟩
                    refine X_ret (L := L_30) rfl rfl rfl rfl ?_
                    show X 54 54 [vR 6, vI x1, vI x2, vI x3, vI 1] [] (ab_up (ab_up (ab_up (ab_up h 6 0 0) 26 ((10 * x1) + x2) x3) 6 19 0) 6 22 0) _
                    refine X_ret (L := L_54) rfl rfl rfl rfl ?_
                    exact H
          · have z54 : 100 + (h 6 1) < x3 := (Int.not_le.mp z54)
            replace H := H.2 z54
            show X 54 16 [vR 6, vI x1, vI x2, vI x3, vJ 0] [] h _
            refine X_b 2 18 (L := L_54) rfl rfl rfl ?_
            show X 54 18 [vR 6, vI x1, vI x2, vI x3, vJ 0] [vI 200, vI x3] h _
            refine X_icmp (L := L_54) (n' := 21) rfl rfl rfl rfl (fun z61 => ?_) (fun z61 => ?_)
            · have z61 : ¬ x3 = 200 := z61
              replace H := H.1 z61
              show X 54 21 [vR 6, vI x1, vI x2, vI x3, vJ 0] [] h _
              refine X_b 5 26 (L := L_54) rfl rfl rfl ?_
              show X 54 26 [vR 6, vI x1, vI x2, vI x3, vI 0] [vI x1, vR 6, vR 6] h _
              refine X_call 51 [vR 6, vI x1] [vR 6] rfl (sg_calv rfl rfl rfl rfl rfl rfl rfl rfl rfl rfl rfl) (by decide) ?_
              show X 51 0 [vR 6, vI x1] [] h _
              refine X_b 1 1 (L := L_51) rfl rfl rfl ?_
              show X 51 1 [vR 6, vI x1] [vI x1] h _
              refine X_if (L := L_51) (n' := 8) rfl rfl rfl rfl (fun z62 => ?_) (fun z62 => ?_)
              · have z62 : x1 < 0 := z62
                replace H := H.1 z62
                show X 51 8 [vR 6, vI x1] [] h _
                refine X_b 1 9 (L := L_51) rfl rfl rfl ?_
                show X 51 9 [vR 6, vI x1] [vI 0] h _
                refine X_zret (L := L_51) rfl rfl rfl rfl (by decide) ?_
                show X 54 27 [vR 6, vI x1, vI x2, vI x3, vI 0] [vI 0, vR 6] h _
                refine X_if (L := L_54) (n' := 31) rfl rfl rfl rfl (fun _ => ?_) (fun z => absurd (show (0 : Int) = (0 : Int) by decide) z)
                show X 54 31 [vR 6, vI x1, vI x2, vI x3, vI 0] [vR 6] h _
                refine X_b 1 32 (L := L_54) rfl rfl rfl ?_
                show X 54 32 [vR 6, vI x1, vI x2, vI x3, vI 0] [vI 1, vR 6] h _
                refine X_goto (L := L_54) (n' := 38) rfl rfl rfl rfl ?_
                show X 54 38 [vR 6, vI x1, vI x2, vI x3, vI 0] [vI 1, vR 6] h _
                refine X_b 3 41 (L := L_54) rfl rfl rfl ?_
                show X 54 41 [vR 6, vI x1, vI x2, vI x3, vI 0] [vI 1] (ab_up h 6 0 1) _
                refine X_if (L := L_54) (n' := 43) rfl rfl rfl rfl (fun z => absurd z (show ¬ ((1 : Int) ≤ (0 : Int)) by decide)) (fun _ => ?_)
                show X 54 42 [vR 6, vI x1, vI x2, vI x3, vI 0] [] (ab_up h 6 0 1) _
                refine X_ret (L := L_54) rfl rfl rfl rfl ?_
                exact H
              · have z62 : 0 ≤ x1 := (Int.not_lt.mp z62)
                replace H := H.2 z62
                show X 51 2 [vR 6, vI x1] [] h _
                refine X_b 3 5 (L := L_51) rfl rfl rfl ?_
                show X 51 5 [vR 6, vI x1] [vI (h 6 7), vI x1] h _
                refine X_icmp (L := L_51) (n' := 8) rfl rfl rfl rfl (fun z63 => ?_) (fun z63 => ?_)
                · have z63 : h 6 7 ≤ x1 := z63
                  replace H := H.1 z63
                  show X 51 8 [vR 6, vI x1] [] h _
                  refine X_b 1 9 (L := L_51) rfl rfl rfl ?_
                  show X 51 9 [vR 6, vI x1] [vI 0] h _
                  refine X_zret (L := L_51) rfl rfl rfl rfl (by decide) ?_
                  show X 54 27 [vR 6, vI x1, vI x2, vI x3, vI 0] [vI 0, vR 6] h _
                  refine X_if (L := L_54) (n' := 31) rfl rfl rfl rfl (fun _ => ?_) (fun z => absurd (show (0 : Int) = (0 : Int) by decide) z)
                  show X 54 31 [vR 6, vI x1, vI x2, vI x3, vI 0] [vR 6] h _
                  refine X_b 1 32 (L := L_54) rfl rfl rfl ?_
                  show X 54 32 [vR 6, vI x1, vI x2, vI x3, vI 0] [vI 1, vR 6] h _
                  refine X_goto (L := L_54) (n' := 38) rfl rfl rfl rfl ?_
                  show X 54 38 [vR 6, vI x1, vI x2, vI x3, vI 0] [vI 1, vR 6] h _
                  refine X_b 3 41 (L := L_54) rfl rfl rfl ?_
                  show X 54 41 [vR 6, vI x1, vI x2, vI x3, vI 0] [vI 1] (ab_up h 6 0 1) _
                  refine X_if (L := L_54) (n' := 43) rfl rfl rfl rfl (fun z => absurd z (show ¬ ((1 : Int) ≤ (0 : Int)) by decide)) (fun _ => ?_)
                  show X 54 42 [vR 6, vI x1, vI x2, vI x3, vI 0] [] (ab_up h 6 0 1) _
                  refine X_ret (L := L_54) rfl rfl rfl rfl ?_
                  exact H
                · have z63 : x1 < h 6 7 := (Int.not_le.mp z63)
                  replace H := H.2 z63
                  show X 51 6 [vR 6, vI x1] [] h _
                  refine X_b 1 7 (L := L_51) rfl rfl rfl ?_
                  show X 51 7 [vR 6, vI x1] [vI 1] h _
                  refine X_goto (L := L_51) (n' := 9) rfl rfl rfl rfl ?_
                  show X 51 9 [vR 6, vI x1] [vI 1] h _
                  refine X_zret (L := L_51) rfl rfl rfl rfl (by decide) ?_
                  show X 54 27 [vR 6, vI x1, vI x2, vI x3, vI 0] [vI 1, vR 6] h _
                  refine X_if (L := L_54) (n' := 31) rfl rfl rfl rfl (fun z => absurd z (show ¬ ((1 : Int) = (0 : Int)) by decide)) (fun _ => ?_)
                  show X 54 28 [vR 6, vI x1, vI x2, vI x3, vI 0] [vR 6] h _
                  refine X_b 1 29 (L := L_54) rfl rfl rfl ?_
                  show X 54 29 [vR 6, vI x1, vI x2, vI x3, vI 0] [vI x2, vR 6] h _
                  refine X_call 52 [vI x2] [vR 6] rfl (sg_cals rfl rfl rfl rfl rfl rfl rfl rfl rfl rfl) (by decide) ?_
                  show X 52 0 [vI x2] [] h _
                  refine X_b 1 1 (L := L_52) rfl rfl rfl ?_
                  show X 52 1 [vI x2] [vI x2] h _
                  refine X_if (L := L_52) (n' := 7) rfl rfl rfl rfl (fun z64 => ?_) (fun z64 => ?_)
                  · have z64 : x2 < 0 := z64
                    replace H := H.1 z64
                    show X 52 7 [vI x2] [] h _
                    refine X_b 1 8 (L := L_52) rfl rfl rfl ?_
                    show X 52 8 [vI x2] [vI 0] h _
                    refine X_zret (L := L_52) rfl rfl rfl rfl (by decide) ?_
                    show X 54 30 [vR 6, vI x1, vI x2, vI x3, vI 0] [vI 0, vR 6] h _
                    refine X_if (L := L_54) (n' := 33) rfl rfl rfl rfl (fun z => absurd z (show ¬ (¬ (0 : Int) = (0 : Int)) by decide)) (fun _ => ?_)
                    show X 54 31 [vR 6, vI x1, vI x2, vI x3, vI 0] [vR 6] h _
                    refine X_b 1 32 (L := L_54) rfl rfl rfl ?_
                    show X 54 32 [vR 6, vI x1, vI x2, vI x3, vI 0] [vI 1, vR 6] h _
                    refine X_goto (L := L_54) (n' := 38) rfl rfl rfl rfl ?_
                    show X 54 38 [vR 6, vI x1, vI x2, vI x3, vI 0] [vI 1, vR 6] h _
                    refine X_b 3 41 (L := L_54) rfl rfl rfl ?_
                    show X 54 41 [vR 6, vI x1, vI x2, vI x3, vI 0] [vI 1] (ab_up h 6 0 1) _
                    refine X_if (L := L_54) (n' := 43) rfl rfl rfl rfl (fun z => absurd z (show ¬ ((1 : Int) ≤ (0 : Int)) by decide)) (fun _ => ?_)
                    show X 54 42 [vR 6, vI x1, vI x2, vI x3, vI 0] [] (ab_up h 6 0 1) _
                    refine X_ret (L := L_54) rfl rfl rfl rfl ?_
                    exact H
                  · have z64 : 0 ≤ x2 := (Int.not_lt.mp z64)
                    replace H := H.2 z64
                    show X 52 2 [vI x2] [] h _
                    refine X_b 2 4 (L := L_52) rfl rfl rfl ?_
                    show X 52 4 [vI x2] [vI 9, vI x2] h _
                    refine X_icmp (L := L_52) (n' := 7) rfl rfl rfl rfl (fun z65 => ?_) (fun z65 => ?_)
                    · have z65 : 9 < x2 := z65
                      replace H := H.1 z65
                      show X 52 7 [vI x2] [] h _
                      refine X_b 1 8 (L := L_52) rfl rfl rfl ?_
                      show X 52 8 [vI x2] [vI 0] h _
                      refine X_zret (L := L_52) rfl rfl rfl rfl (by decide) ?_
                      show X 54 30 [vR 6, vI x1, vI x2, vI x3, vI 0] [vI 0, vR 6] h _
                      refine X_if (L := L_54) (n' := 33) rfl rfl rfl rfl (fun z => absurd z (show ¬ (¬ (0 : Int) = (0 : Int)) by decide)) (fun _ => ?_)
                      show X 54 31 [vR 6, vI x1, vI x2, vI x3, vI 0] [vR 6] h _
                      refine X_b 1 32 (L := L_54) rfl rfl rfl ?_
                      show X 54 32 [vR 6, vI x1, vI x2, vI x3, vI 0] [vI 1, vR 6] h _
                      refine X_goto (L := L_54) (n' := 38) rfl rfl rfl rfl ?_
                      show X 54 38 [vR 6, vI x1, vI x2, vI x3, vI 0] [vI 1, vR 6] h _
                      refine X_b 3 41 (L := L_54) rfl rfl rfl ?_
                      show X 54 41 [vR 6, vI x1, vI x2, vI x3, vI 0] [vI 1] (ab_up h 6 0 1) _
                      refine X_if (L := L_54) (n' := 43) rfl rfl rfl rfl (fun z => absurd z (show ¬ ((1 : Int) ≤ (0 : Int)) by decide)) (fun _ => ?_)
                      show X 54 42 [vR 6, vI x1, vI x2, vI x3, vI 0] [] (ab_up h 6 0 1) _
                      refine X_ret (L := L_54) rfl rfl rfl rfl ?_
                      exact H
                    · have z65 : x2 ≤ 9 := (Int.not_lt.mp z65)
                      replace H := H.2 z65
                      show X 52 5 [vI x2] [] h _
                      refine X_b 1 6 (L := L_52) rfl rfl rfl ?_
                      show X 52 6 [vI x2] [vI 1] h _
                      refine X_goto (L := L_52) (n' := 8) rfl rfl rfl rfl ?_
                      show X 52 8 [vI x2] [vI 1] h _
                      refine X_zret (L := L_52) rfl rfl rfl rfl (by decide) ?_
                      show X 54 30 [vR 6, vI x1, vI x2, vI x3, vI 0] [vI 1, vR 6] h _
                      refine X_if (L := L_54) (n' := 33) rfl rfl rfl rfl (fun _ => ?_) (fun z => absurd (show ¬ (1 : Int) = (0 : Int) by decide) z)
                      show X 54 33 [vR 6, vI x1, vI x2, vI x3, vI 0] [vR 6] h _
                      refine X_b 1 34 (L := L_54) rfl rfl rfl ?_
                      show X 54 34 [vR 6, vI x1, vI x2, vI x3, vI 0] [vI 0, vR 6] h _
                      refine X_if (L := L_54) (n' := 37) rfl rfl rfl rfl (fun _ => ?_) (fun z => absurd (show (0 : Int) = (0 : Int) by decide) z)
                      show X 54 37 [vR 6, vI x1, vI x2, vI x3, vI 0] [vR 6] h _
                      refine X_b 4 41 (L := L_54) rfl rfl rfl ?_
                      show X 54 41 [vR 6, vI x1, vI x2, vI x3, vI 0] [vI 2] (ab_up h 6 0 2) _
                      refine X_if (L := L_54) (n' := 43) rfl rfl rfl rfl (fun z => absurd z (show ¬ ((2 : Int) ≤ (0 : Int)) by decide)) (fun _ => ?_)
                      show X 54 42 [vR 6, vI x1, vI x2, vI x3, vI 0] [] (ab_up h 6 0 2) _
                      refine X_ret (L := L_54) rfl rfl rfl rfl ?_
                      exact H
            · have z61 : x3 = 200 := (Classical.not_not.mp z61)
              replace H := H.2 z61
              show X 54 19 [vR 6, vI x1, vI x2, vI x3, vJ 0] [] h _
              refine X_b 1 20 (L := L_54) rfl rfl rfl ?_
              show X 54 20 [vR 6, vI x1, vI x2, vI x3, vJ 0] [vI 1] h _
              refine X_goto (L := L_54) (n' := 22) rfl rfl rfl rfl ?_
              show X 54 22 [vR 6, vI x1, vI x2, vI x3, vJ 0] [vI 1] h _
              refine X_b 4 26 (L := L_54) rfl rfl rfl ?_
              show X 54 26 [vR 6, vI x1, vI x2, vI x3, vI 1] [vI x1, vR 6, vR 6] h _
              refine X_call 51 [vR 6, vI x1] [vR 6] rfl (sg_calv rfl rfl rfl rfl rfl rfl rfl rfl rfl rfl rfl) (by decide) ?_
              show X 51 0 [vR 6, vI x1] [] h _
              refine X_b 1 1 (L := L_51) rfl rfl rfl ?_
              show X 51 1 [vR 6, vI x1] [vI x1] h _
              refine X_if (L := L_51) (n' := 8) rfl rfl rfl rfl (fun z66 => ?_) (fun z66 => ?_)
              · have z66 : x1 < 0 := z66
                replace H := H.1 z66
                show X 51 8 [vR 6, vI x1] [] h _
                refine X_b 1 9 (L := L_51) rfl rfl rfl ?_
                show X 51 9 [vR 6, vI x1] [vI 0] h _
                refine X_zret (L := L_51) rfl rfl rfl rfl (by decide) ?_
                show X 54 27 [vR 6, vI x1, vI x2, vI x3, vI 1] [vI 0, vR 6] h _
                refine X_if (L := L_54) (n' := 31) rfl rfl rfl rfl (fun _ => ?_) (fun z => absurd (show (0 : Int) = (0 : Int) by decide) z)
                show X 54 31 [vR 6, vI x1, vI x2, vI x3, vI 1] [vR 6] h _
                refine X_b 1 32 (L := L_54) rfl rfl rfl ?_
                show X 54 32 [vR 6, vI x1, vI x2, vI x3, vI 1] [vI 1, vR 6] h _
                refine X_goto (L := L_54) (n' := 38) rfl rfl rfl rfl ?_
                show X 54 38 [vR 6, vI x1, vI x2, vI x3, vI 1] [vI 1, vR 6] h _
                refine X_b 3 41 (L := L_54) rfl rfl rfl ?_
                show X 54 41 [vR 6, vI x1, vI x2, vI x3, vI 1] [vI 1] (ab_up h 6 0 1) _
                refine X_if (L := L_54) (n' := 43) rfl rfl rfl rfl (fun z => absurd z (show ¬ ((1 : Int) ≤ (0 : Int)) by decide)) (fun _ => ?_)
                show X 54 42 [vR 6, vI x1, vI x2, vI x3, vI 1] [] (ab_up h 6 0 1) _
                refine X_ret (L := L_54) rfl rfl rfl rfl ?_
                exact H
              · have z66 : 0 ≤ x1 := (Int.not_lt.mp z66)
                replace H := H.2 z66
                show X 51 2 [vR 6, vI x1] [] h _
                refine X_b 3 5 (L := L_51) rfl rfl rfl ?_
                show X 51 5 [vR 6, vI x1] [vI (h 6 7), vI x1] h _
                refine X_icmp (L := L_51) (n' := 8) rfl rfl rfl rfl (fun z67 => ?_) (fun z67 => ?_)
                · have z67 : h 6 7 ≤ x1 := z67
                  replace H := H.1 z67
                  show X 51 8 [vR 6, vI x1] [] h _
                  refine X_b 1 9 (L := L_51) rfl rfl rfl ?_
                  show X 51 9 [vR 6, vI x1] [vI 0] h _
                  refine X_zret (L := L_51) rfl rfl rfl rfl (by decide) ?_
                  show X 54 27 [vR 6, vI x1, vI x2, vI x3, vI 1] [vI 0, vR 6] h _
                  refine X_if (L := L_54) (n' := 31) rfl rfl rfl rfl (fun _ => ?_) (fun z => absurd (show (0 : Int) = (0 : Int) by decide) z)
                  show X 54 31 [vR 6, vI x1, vI x2, vI x3, vI 1] [vR 6] h _
                  refine X_b 1 32 (L := L_54) rfl rfl rfl ?_
                  show X 54 32 [vR 6, vI x1, vI x2, vI x3, vI 1] [vI 1, vR 6] h _
                  refine X_goto (L := L_54) (n' := 38) rfl rfl rfl rfl ?_
                  show X 54 38 [vR 6, vI x1, vI x2, vI x3, vI 1] [vI 1, vR 6] h _
                  refine X_b 3 41 (L := L_54) rfl rfl rfl ?_
                  show X 54 41 [vR 6, vI x1, vI x2, vI x3, vI 1] [vI 1] (ab_up h 6 0 1) _
                  refine X_if (L := L_54) (n' := 43) rfl rfl rfl rfl (fun z => absurd z (show ¬ ((1 : Int) ≤ (0 : Int)) by decide)) (fun _ => ?_)
                  show X 54 42 [vR 6, vI x1, vI x2, vI x3, vI 1] [] (ab_up h 6 0 1) _
                  refine X_ret (L := L_54) rfl rfl rfl rfl ?_
                  exact H
                · have z67 : x1 < h 6 7 := (Int.not_le.mp z67)
                  replace H := H.2 z67
                  show X 51 6 [vR 6, vI x1] [] h _
                  refine X_b 1 7 (L := L_51) rfl rfl rfl ?_
                  show X 51 7 [vR 6, vI x1] [vI 1] h _
                  refine X_goto (L := L_51) (n' := 9) rfl rfl rfl rfl ?_
                  show X 51 9 [vR 6, vI x1] [vI 1] h _
                  refine X_zret (L := L_51) rfl rfl rfl rfl (by decide) ?_
                  show X 54 27 [vR 6, vI x1, vI x2, vI x3, vI 1] [vI 1, vR 6] h _
                  refine X_if (L := L_54) (n' := 31) rfl rfl rfl rfl (fun z => absurd z (show ¬ ((1 : Int) = (0 : Int)) by decide)) (fun _ => ?_)
                  show X 54 28 [vR 6, vI x1, vI x2, vI x3, vI 1] [vR 6] h _
                  refine X_b 1 29 (L := L_54) rfl rfl rfl ?_
                  show X 54 29 [vR 6, vI x1, vI x2, vI x3, vI 1] [vI x2, vR 6] h _
                  refine X_call 52 [vI x2] [vR 6] rfl (sg_cals rfl rfl rfl rfl rfl rfl rfl rfl rfl rfl) (by decide) ?_
                  show X 52 0 [vI x2] [] h _
                  refine X_b 1 1 (L := L_52) rfl rfl rfl ?_
                  show X 52 1 [vI x2] [vI x2] h _
                  refine X_if (L := L_52) (n' := 7) rfl rfl rfl rfl (fun z68 => ?_) (fun z68 => ?_)
                  · have z68 : x2 < 0 := z68
                    replace H := H.1 z68
                    show X 52 7 [vI x2] [] h _
                    refine X_b 1 8 (L := L_52) rfl rfl rfl ?_
                    show X 52 8 [vI x2] [vI 0] h _
                    refine X_zret (L := L_52) rfl rfl rfl rfl (by decide) ?_
                    show X 54 30 [vR 6, vI x1, vI x2, vI x3, vI 1] [vI 0, vR 6] h _
                    refine X_if (L := L_54) (n' := 33) rfl rfl rfl rfl (fun z => absurd z (show ¬ (¬ (0 : Int) = (0 : Int)) by decide)) (fun _ => ?_)
                    show X 54 31 [vR 6, vI x1, vI x2, vI x3, vI 1] [vR 6] h _
                    refine X_b 1 32 (L := L_54) rfl rfl rfl ?_
                    show X 54 32 [vR 6, vI x1, vI x2, vI x3, vI 1] [vI 1, vR 6] h _
                    refine X_goto (L := L_54) (n' := 38) rfl rfl rfl rfl ?_
                    show X 54 38 [vR 6, vI x1, vI x2, vI x3, vI 1] [vI 1, vR 6] h _
                    refine X_b 3 41 (L := L_54) rfl rfl rfl ?_
                    show X 54 41 [vR 6, vI x1, vI x2, vI x3, vI 1] [vI 1] (ab_up h 6 0 1) _
                    refine X_if (L := L_54) (n' := 43) rfl rfl rfl rfl (fun z => absurd z (show ¬ ((1 : Int) ≤ (0 : Int)) by decide)) (fun _ => ?_)
                    show X 54 42 [vR 6, vI x1, vI x2, vI x3, vI 1] [] (ab_up h 6 0 1) _
                    refine X_ret (L := L_54) rfl rfl rfl rfl ?_
                    exact H
                  · have z68 : 0 ≤ x2 := (Int.not_lt.mp z68)
                    replace H := H.2 z68
                    show X 52 2 [vI x2] [] h _
                    refine X_b 2 4 (L := L_52) rfl rfl rfl ?_
                    show X 52 4 [vI x2] [vI 9, vI x2] h _
                    refine X_icmp (L := L_52) (n' := 7) rfl rfl rfl rfl (fun z69 => ?_) (fun z69 => ?_)
                    · have z69 : 9 < x2 := z69
                      replace H := H.1 z69
                      show X 52 7 [vI x2] [] h _
                      refine X_b 1 8 (L := L_52) rfl rfl rfl ?_
                      show X 52 8 [vI x2] [vI 0] h _
                      refine X_zret (L := L_52) rfl rfl rfl rfl (by decide) ?_
                      show X 54 30 [vR 6, vI x1, vI x2, vI x3, vI 1] [vI 0, vR 6] h _
                      refine X_if (L := L_54) (n' := 33) rfl rfl rfl rfl (fun z => absurd z (show ¬ (¬ (0 : Int) = (0 : Int)) by decide)) (fun _ => ?_)
                      show X 54 31 [vR 6, vI x1, vI x2, vI x3, vI 1] [vR 6] h _
                      refine X_b 1 32 (L := L_54) rfl rfl rfl ?_
                      show X 54 32 [vR 6, vI x1, vI x2, vI x3, vI 1] [vI 1, vR 6] h _
                      refine X_goto (L := L_54) (n' := 38) rfl rfl rfl rfl ?_
                      show X 54 38 [vR 6, vI x1, vI x2, vI x3, vI 1] [vI 1, vR 6] h _
                      refine X_b 3 41 (L := L_54) rfl rfl rfl ?_
                      show X 54 41 [vR 6, vI x1, vI x2, vI x3, vI 1] [vI 1] (ab_up h 6 0 1) _
                      refine X_if (L := L_54) (n' := 43) rfl rfl rfl rfl (fun z => absurd z (show ¬ ((1 : Int) ≤ (0 : Int)) by decide)) (fun _ => ?_)
                      show X 54 42 [vR 6, vI x1, vI x2, vI x3, vI 1] [] (ab_up h 6 0 1) _
                      refine X_ret (L := L_54) rfl rfl rfl rfl ?_
                      exact H
                    · have z69 : x2 ≤ 9 := (Int.not_lt.mp z69)
                      replace H := H.2 z69
                      show X 52 5 [vI x2] [] h _
                      obtain ⟨⟨c70, c71⟩, H⟩ := H
                      refine X_b 1 6 (L := L_52) rfl rfl rfl ?_
                      show X 52 6 [vI x2] [vI 1] h _
                      refine X_goto (L := L_52) (n' := 8) rfl rfl rfl rfl ?_
                      show X 52 8 [vI x2] [vI 1] h _
                      refine X_zret (L := L_52) rfl rfl rfl rfl (by decide) ?_
                      show X 54 30 [vR 6, vI x1, vI x2, vI x3, vI 1] [vI 1, vR 6] h _
                      refine X_if (L := L_54) (n' := 33) rfl rfl rfl rfl (fun _ => ?_) (fun z => absurd (show ¬ (1 : Int) = (0 : Int) by decide) z)
                      show X 54 33 [vR 6, vI x1, vI x2, vI x3, vI 1] [vR 6] h _
                      refine X_b 1 34 (L := L_54) rfl rfl rfl ?_
                      show X 54 34 [vR 6, vI x1, vI x2, vI x3, vI 1] [vI 1, vR 6] h _
                      refine X_if (L := L_54) (n' := 37) rfl rfl rfl rfl (fun z => absurd z (show ¬ ((1 : Int) = (0 : Int)) by decide)) (fun _ => ?_)
                      show X 54 35 [vR 6, vI x1, vI x2, vI x3, vI 1] [vR 6] h _
                      refine X_b 1 36 (L := L_54) rfl rfl rfl ?_
                      show X 54 36 [vR 6, vI x1, vI x2, vI x3, vI 1] [vI 0, vR 6] h _
                      refine X_goto (L := L_54) (n' := 38) rfl rfl rfl rfl ?_
                      show X 54 38 [vR 6, vI x1, vI x2, vI x3, vI 1] [vI 0, vR 6] h _
                      refine X_b 3 41 (L := L_54) rfl rfl rfl ?_
                      show X 54 41 [vR 6, vI x1, vI x2, vI x3, vI 1] [vI 0] (ab_up h 6 0 0) _
                      refine X_if (L := L_54) (n' := 43) rfl rfl rfl rfl (fun _ => ?_) (fun z => absurd (show (0 : Int) ≤ (0 : Int) by decide) z)
                      show X 54 43 [vR 6, vI x1, vI x2, vI x3, vI 1] [] (ab_up h 6 0 0) _
                      refine X_b 10 53 (L := L_54) rfl rfl rfl ?_
                      show (-2147483648 ≤ 10 * x1 ∧ 10 * x1 ≤ 2147483647) ∧ (-2147483648 ≤ (10 * x1) + x2 ∧ (10 * x1) + x2 ≤ 2147483647) ∧ (0 ≤ (10 * x1) + x2 ∧ (10 * x1) + x2 < 500) ∧ X 54 53 [vR 6, vI x1, vI x2, vI x3, vI 1] [vR 6] (ab_up (ab_up h 6 0 0) 26 ((10 * x1) + x2) x3) _
                      refine ⟨c70, by have := c71; omega, c71, ?_⟩
                      refine X_call 30 [vR 6] [] rfl (sg_calv rfl rfl rfl rfl rfl rfl rfl rfl rfl rfl rfl) (by decide) ?_
                      show X 30 0 [vR 6] [] (ab_up (ab_up h 6 0 0) 26 ((10 * x1) + x2) x3) _
                      refine X_b 6 6 (L := L_30) rfl rfl rfl ?_
                      show ((0 : Int) = 0 ∨ (0 : Int) = 1) ∧ X 30 6 [vR 6] [] (ab_up (ab_up (ab_up (ab_up h 6 0 0) 26 ((10 * x1) + x2) x3) 6 19 0) 6 22 0) _
                      refine ⟨by decide, ?_⟩
                      refine X_ret (L := L_30) rfl rfl rfl rfl ?_
                      show X 54 54 [vR 6, vI x1, vI x2, vI x3, vI 1] [] (ab_up (ab_up (ab_up (ab_up h 6 0 0) 26 ((10 * x1) + x2) x3) 6 19 0) 6 22 0) _
                      refine X_ret (L := L_54) rfl rfl rfl rfl ?_
                      exact H
      · have z40 : x3 < h 6 7 := (Int.not_le.mp z40)
        replace H := H.2 z40
        show X 51 6 [vR 6, vI x3] [] h _
        refine X_b 1 7 (L := L_51) rfl rfl rfl ?_
        show X 51 7 [vR 6, vI x3] [vI 1] h _
        refine X_goto (L := L_51) (n' := 9) rfl rfl rfl rfl ?_
        show X 51 9 [vR 6, vI x3] [vI 1] h _
        refine X_zret (L := L_51) rfl rfl rfl rfl (by decide) ?_
        show X 54 6 [vR 6, vI x1, vI x2, vI x3, vJ 0] [vI 1] h _
        refine X_if (L := L_54) (n' := 19) rfl rfl rfl rfl (fun _ => ?_) (fun z => absurd (show ¬ (1 : Int) = (0 : Int) by decide) z)
        show X 54 19 [vR 6, vI x1, vI x2, vI x3, vJ 0] [] h _
        refine X_b 1 20 (L := L_54) rfl rfl rfl ?_
        show X 54 20 [vR 6, vI x1, vI x2, vI x3, vJ 0] [vI 1] h _
        refine X_goto (L := L_54) (n' := 22) rfl rfl rfl rfl ?_
        show X 54 22 [vR 6, vI x1, vI x2, vI x3, vJ 0] [vI 1] h _
        refine X_b 4 26 (L := L_54) rfl rfl rfl ?_
        show X 54 26 [vR 6, vI x1, vI x2, vI x3, vI 1] [vI x1, vR 6, vR 6] h _
        refine X_call 51 [vR 6, vI x1] [vR 6] rfl (sg_calv rfl rfl rfl rfl rfl rfl rfl rfl rfl rfl rfl) (by decide) ?_
        show X 51 0 [vR 6, vI x1] [] h _
        refine X_b 1 1 (L := L_51) rfl rfl rfl ?_
        show X 51 1 [vR 6, vI x1] [vI x1] h _
        refine X_if (L := L_51) (n' := 8) rfl rfl rfl rfl (fun z72 => ?_) (fun z72 => ?_)
        · have z72 : x1 < 0 := z72
          replace H := H.1 z72
          show X 51 8 [vR 6, vI x1] [] h _
          refine X_b 1 9 (L := L_51) rfl rfl rfl ?_
          show X 51 9 [vR 6, vI x1] [vI 0] h _
          refine X_zret (L := L_51) rfl rfl rfl rfl (by decide) ?_
          show X 54 27 [vR 6, vI x1, vI x2, vI x3, vI 1] [vI 0, vR 6] h _
          refine X_if (L := L_54) (n' := 31) rfl rfl rfl rfl (fun _ => ?_) (fun z => absurd (show (0 : Int) = (0 : Int) by decide) z)
          show X 54 31 [vR 6, vI x1, vI x2, vI x3, vI 1] [vR 6] h _
          refine X_b 1 32 (L := L_54) rfl rfl rfl ?_
          show X 54 32 [vR 6, vI x1, vI x2, vI x3, vI 1] [vI 1, vR 6] h _
          refine X_goto (L := L_54) (n' := 38) rfl rfl rfl rfl ?_
          show X 54 38 [vR 6, vI x1, vI x2, vI x3, vI 1] [vI 1, vR 6] h _
          refine X_b 3 41 (L := L_54) rfl rfl rfl ?_
          show X 54 41 [vR 6, vI x1, vI x2, vI x3, vI 1] [vI 1] (ab_up h 6 0 1) _
          refine X_if (L := L_54) (n' := 43) rfl rfl rfl rfl (fun z => absurd z (show ¬ ((1 : Int) ≤ (0 : Int)) by decide)) (fun _ => ?_)
          show X 54 42 [vR 6, vI x1, vI x2, vI x3, vI 1] [] (ab_up h 6 0 1) _
          refine X_ret (L := L_54) rfl rfl rfl rfl ?_
          exact H
        · have z72 : 0 ≤ x1 := (Int.not_lt.mp z72)
          replace H := H.2 z72
          show X 51 2 [vR 6, vI x1] [] h _
          refine X_b 3 5 (L := L_51) rfl rfl rfl ?_
          show X 51 5 [vR 6, vI x1] [vI (h 6 7), vI x1] h _
          refine X_icmp (L := L_51) (n' := 8) rfl rfl rfl rfl (fun z73 => ?_) (fun z73 => ?_)
          · have z73 : h 6 7 ≤ x1 := z73
            replace H := H.1 z73
            show X 51 8 [vR 6, vI x1] [] h _
            refine X_b 1 9 (L := L_51) rfl rfl rfl ?_
            show X 51 9 [vR 6, vI x1] [vI 0] h _
            refine X_zret (L := L_51) rfl rfl rfl rfl (by decide) ?_
            show X 54 27 [vR 6, vI x1, vI x2, vI x3, vI 1] [vI 0, vR 6] h _
            refine X_if (L := L_54) (n' := 31) rfl rfl rfl rfl (fun _ => ?_) (fun z => absurd (show (0 : Int) = (0 : Int) by decide) z)
            show X 54 31 [vR 6, vI x1, vI x2, vI x3, vI 1] [vR 6] h _
            refine X_b 1 32 (L := L_54) rfl rfl rfl ?_
            show X 54 32 [vR 6, vI x1, vI x2, vI x3, vI 1] [vI 1, vR 6] h _
            refine X_goto (L := L_54) (n' := 38) rfl rfl rfl rfl ?_
            show X 54 38 [vR 6, vI x1, vI x2, vI x3, vI 1] [vI 1, vR 6] h _
            refine X_b 3 41 (L := L_54) rfl rfl rfl ?_
            show X 54 41 [vR 6, vI x1, vI x2, vI x3, vI 1] [vI 1] (ab_up h 6 0 1) _
            refine X_if (L := L_54) (n' := 43) rfl rfl rfl rfl (fun z => absurd z (show ¬ ((1 : Int) ≤ (0 : Int)) by decide)) (fun _ => ?_)
            show X 54 42 [vR 6, vI x1, vI x2, vI x3, vI 1] [] (ab_up h 6 0 1) _
            refine X_ret (L := L_54) rfl rfl rfl rfl ?_
            exact H
          · have z73 : x1 < h 6 7 := (Int.not_le.mp z73)
            replace H := H.2 z73
            show X 51 6 [vR 6, vI x1] [] h _
            refine X_b 1 7 (L := L_51) rfl rfl rfl ?_
            show X 51 7 [vR 6, vI x1] [vI 1] h _
            refine X_goto (L := L_51) (n' := 9) rfl rfl rfl rfl ?_
            show X 51 9 [vR 6, vI x1] [vI 1] h _
            refine X_zret (L := L_51) rfl rfl rfl rfl (by decide) ?_
            show X 54 27 [vR 6, vI x1, vI x2, vI x3, vI 1] [vI 1, vR 6] h _
            refine X_if (L := L_54) (n' := 31) rfl rfl rfl rfl (fun z => absurd z (show ¬ ((1 : Int) = (0 : Int)) by decide)) (fun _ => ?_)
            show X 54 28 [vR 6, vI x1, vI x2, vI x3, vI 1] [vR 6] h _
            refine X_b 1 29 (L := L_54) rfl rfl rfl ?_
            show X 54 29 [vR 6, vI x1, vI x2, vI x3, vI 1] [vI x2, vR 6] h _
            refine X_call 52 [vI x2] [vR 6] rfl (sg_cals rfl rfl rfl rfl rfl rfl rfl rfl rfl rfl) (by decide) ?_
            show X 52 0 [vI x2] [] h _
            refine X_b 1 1 (L := L_52) rfl rfl rfl ?_
            show X 52 1 [vI x2] [vI x2] h _
            refine X_if (L := L_52) (n' := 7) rfl rfl rfl rfl (fun z74 => ?_) (fun z74 => ?_)
            · have z74 : x2 < 0 := z74
              replace H := H.1 z74
              show X 52 7 [vI x2] [] h _
              refine X_b 1 8 (L := L_52) rfl rfl rfl ?_
              show X 52 8 [vI x2] [vI 0] h _
              refine X_zret (L := L_52) rfl rfl rfl rfl (by decide) ?_
              show X 54 30 [vR 6, vI x1, vI x2, vI x3, vI 1] [vI 0, vR 6] h _
              refine X_if (L := L_54) (n' := 33) rfl rfl rfl rfl (fun z => absurd z (show ¬ (¬ (0 : Int) = (0 : Int)) by decide)) (fun _ => ?_)
              show X 54 31 [vR 6, vI x1, vI x2, vI x3, vI 1] [vR 6] h _
              refine X_b 1 32 (L := L_54) rfl rfl rfl ?_
              show X 54 32 [vR 6, vI x1, vI x2, vI x3, vI 1] [vI 1, vR 6] h _
              refine X_goto (L := L_54) (n' := 38) rfl rfl rfl rfl ?_
              show X 54 38 [vR 6, vI x1, vI x2, vI x3, vI 1] [vI 1, vR 6] h _
              refine X_b 3 41 (L := L_54) rfl rfl rfl ?_
              show X 54 41 [vR 6, vI x1, vI x2, vI x3, vI 1] [vI 1] (ab_up h 6 0 1) _
              refine X_if (L := L_54) (n' := 43) rfl rfl rfl rfl (fun z => absurd z (show ¬ ((1 : Int) ≤ (0 : Int)) by decide)) (fun _ => ?_)
              show X 54 42 [vR 6, vI x1, vI x2, vI x3, vI 1] [] (ab_up h 6 0 1) _
              refine X_ret (L := L_54) rfl rfl rfl rfl ?_
              exact H
            · have z74 : 0 ≤ x2 := (Int.not_lt.mp z74)
              replace H := H.2 z74
              show X 52 2 [vI x2] [] h _
              refine X_b 2 4 (L := L_52) rfl rfl rfl ?_
              show X 52 4 [vI x2] [vI 9, vI x2] h _
              refine X_icmp (L := L_52) (n' := 7) rfl rfl rfl rfl (fun z75 => ?_) (fun z75 => ?_)
              · have z75 : 9 < x2 := z75
                replace H := H.1 z75
                show X 52 7 [vI x2] [] h _
                refine X_b 1 8 (L := L_52) rfl rfl rfl ?_
                show X 52 8 [vI x2] [vI 0] h _
                refine X_zret (L := L_52) rfl rfl rfl rfl (by decide) ?_
                show X 54 30 [vR 6, vI x1, vI x2, vI x3, vI 1] [vI 0, vR 6] h _
                refine X_if (L := L_54) (n' := 33) rfl rfl rfl rfl (fun z => absurd z (show ¬ (¬ (0 : Int) = (0 : Int)) by decide)) (fun _ => ?_)
                show X 54 31 [vR 6, vI x1, vI x2, vI x3, vI 1] [vR 6] h _
                refine X_b 1 32 (L := L_54) rfl rfl rfl ?_
                show X 54 32 [vR 6, vI x1, vI x2, vI x3, vI 1] [vI 1, vR 6] h _
                refine X_goto (L := L_54) (n' := 38) rfl rfl rfl rfl ?_
                show X 54 38 [vR 6, vI x1, vI x2, vI x3, vI 1] [vI 1, vR 6] h _
                refine X_b 3 41 (L := L_54) rfl rfl rfl ?_
                show X 54 41 [vR 6, vI x1, vI x2, vI x3, vI 1] [vI 1] (ab_up h 6 0 1) _
                refine X_if (L := L_54) (n' := 43) rfl rfl rfl rfl (fun z => absurd z (show ¬ ((1 : Int) ≤ (0 : Int)) by decide)) (fun _ => ?_)
                show X 54 42 [vR 6, vI x1, vI x2, vI x3, vI 1] [] (ab_up h 6 0 1) _
                refine X_ret (L := L_54) rfl rfl rfl rfl ?_
                exact H
              · have z75 : x2 ≤ 9 := (Int.not_lt.mp z75)
                replace H := H.2 z75
                show X 52 5 [vI x2] [] h _
                obtain ⟨⟨c76, c77⟩, H⟩ := H
                refine X_b 1 6 (L := L_52) rfl rfl rfl ?_
                show X 52 6 [vI x2] [vI 1] h _
                refine X_goto (L := L_52) (n' := 8) rfl rfl rfl rfl ?_
                show X 52 8 [vI x2] [vI 1] h _
                refine X_zret (L := L_52) rfl rfl rfl rfl (by decide) ?_
                show X 54 30 [vR 6, vI x1, vI x2, vI x3, vI 1] [vI 1, vR 6] h _
                refine X_if (L := L_54) (n' := 33) rfl rfl rfl rfl (fun _ => ?_) (fun z => absurd (show ¬ (1 : Int) = (0 : Int) by decide) z)
                show X 54 33 [vR 6, vI x1, vI x2, vI x3, vI 1] [vR 6] h _
                refine X_b 1 34 (L := L_54) rfl rfl rfl ?_
                show X 54 34 [vR 6, vI x1, vI x2, vI x3, vI 1] [vI 1, vR 6] h _
                refine X_if (L := L_54) (n' := 37) rfl rfl rfl rfl (fun z => absurd z (show ¬ ((1 : Int) = (0 : Int)) by decide)) (fun _ => ?_)
                show X 54 35 [vR 6, vI x1, vI x2, vI x3, vI 1] [vR 6] h _
                refine X_b 1 36 (L := L_54) rfl rfl rfl ?_
                show X 54 36 [vR 6, vI x1, vI x2, vI x3, vI 1] [vI 0, vR 6] h _
                refine X_goto (L := L_54) (n' := 38) rfl rfl rfl rfl ?_
                show X 54 38 [vR 6, vI x1, vI x2, vI x3, vI 1] [vI 0, vR 6] h _
                refine X_b 3 41 (L := L_54) rfl rfl rfl ?_
                show X 54 41 [vR 6, vI x1, vI x2, vI x3, vI 1] [vI 0] (ab_up h 6 0 0) _
                refine X_if (L := L_54) (n' := 43) rfl rfl rfl rfl (fun _ => ?_) (fun z => absurd (show (0 : Int) ≤ (0 : Int) by decide) z)
                show X 54 43 [vR 6, vI x1, vI x2, vI x3, vI 1] [] (ab_up h 6 0 0) _
                refine X_b 10 53 (L := L_54) rfl rfl rfl ?_
                show (-2147483648 ≤ 10 * x1 ∧ 10 * x1 ≤ 2147483647) ∧ (-2147483648 ≤ (10 * x1) + x2 ∧ (10 * x1) + x2 ≤ 2147483647) ∧ (0 ≤ (10 * x1) + x2 ∧ (10 * x1) + x2 < 500) ∧ X 54 53 [vR 6, vI x1, vI x2, vI x3, vI 1] [vR 6] (ab_up (ab_up h 6 0 0) 26 ((10 * x1) + x2) x3) _
                refine ⟨c76, by have := c77; omega, c77, ?_⟩
                refine X_call 30 [vR 6] [] rfl (sg_calv rfl rfl rfl rfl rfl rfl rfl rfl rfl rfl rfl) (by decide) ?_
                show X 30 0 [vR 6] [] (ab_up (ab_up h 6 0 0) 26 ((10 * x1) + x2) x3) _
                refine X_b 6 6 (L := L_30) rfl rfl rfl ?_
                show ((0 : Int) = 0 ∨ (0 : Int) = 1) ∧ X 30 6 [vR 6] [] (ab_up (ab_up (ab_up (ab_up h 6 0 0) 26 ((10 * x1) + x2) x3) 6 19 0) 6 22 0) _
                refine ⟨by decide, ?_⟩
                refine X_ret (L := L_30) rfl rfl rfl rfl ?_
                show X 54 54 [vR 6, vI x1, vI x2, vI x3, vI 1] [] (ab_up (ab_up (ab_up (ab_up h 6 0 0) 26 ((10 * x1) + x2) x3) 6 19 0) 6 22 0) _
                refine X_ret (L := L_54) rfl rfl rfl rfl ?_
                exact H

/-- PPModel.isItem, row 0 -/
theorem s_55_0 (x1 x2 x3 : Int) (h : ab_S) (K : ab_O → ab_S → Prop) (H : ((x1 < 0 → K (oI 0) h) ∧ (0 ≤ x1 → ((h 6 1 < x1 → K (oI 0) h) ∧ (x1 ≤ h 6 1 → ((x2 < 0 → K (oI 0) h) ∧ (0 ≤ x2 → ((0 ≤ x1 ∧ (x1 = h 6 1 ∨ x1 < 8))) ∧ ((szo h x1 < x2 → K (oI 0) h) ∧ (x2 ≤ szo h x1 → ((x3 < 4 → K (oI 0) h) ∧ (4 ≤ x3 → ((9 < x3 → K (oI 0) h) ∧ (x3 ≤ 9 → K (oI 1) h))))))))))))) : C 55 [vR 6, vI x1, vI x2, vI x3] h K := by
  show X 55 0 [vR 6, vI x1, vI x2, vI x3] [] h K
  refine X_b 1 1 (L := L_55) rfl rfl rfl ?_
  show X 55 1 [vR 6, vI x1, vI x2, vI x3] [vI x1] h _
  refine X_if (L := L_55) (n' := 21) rfl rfl rfl rfl (fun z1 => ?_) (fun z1 => ?_)
  · have z1 : x1 < 0 := z1
    replace H := H.1 z1
    show X 55 21 [vR 6, vI x1, vI x2, vI x3] [] h _
    refine X_b 1 22 (L := L_55) rfl rfl rfl ?_
    show X 55 22 [vR 6, vI x1, vI x2, vI x3] [vI 0] h _
    refine X_zret (L := L_55) rfl rfl rfl rfl (by decide) ?_
    exact H
  · have z1 : 0 ≤ x1 := (Int.not_lt.mp z1)
    replace H := H.2 z1
    show X 55 2 [vR 6, vI x1, vI x2, vI x3] [] h _
    refine X_b 3 5 (L := L_55) rfl rfl rfl ?_
    show X 55 5 [vR 6, vI x1, vI x2, vI x3] [vI (h 6 1), vI x1] h _
    refine X_icmp (L := L_55) (n' := 21) rfl rfl rfl rfl (fun z2 => ?_) (fun z2 => ?_)
    · have z2 : h 6 1 < x1 := z2
      replace H := H.1 z2
      show X 55 21 [vR 6, vI x1, vI x2, vI x3] [] h _
      refine X_b 1 22 (L := L_55) rfl rfl rfl ?_
      show X 55 22 [vR 6, vI x1, vI x2, vI x3] [vI 0] h _
      refine X_zret (L := L_55) rfl rfl rfl rfl (by decide) ?_
      exact H
    · have z2 : x1 ≤ h 6 1 := (Int.not_lt.mp z2)
      replace H := H.2 z2
      show X 55 6 [vR 6, vI x1, vI x2, vI x3] [] h _
      refine X_b 1 7 (L := L_55) rfl rfl rfl ?_
      show X 55 7 [vR 6, vI x1, vI x2, vI x3] [vI x2] h _
      refine X_if (L := L_55) (n' := 21) rfl rfl rfl rfl (fun z3 => ?_) (fun z3 => ?_)
      · have z3 : x2 < 0 := z3
        replace H := H.1 z3
        show X 55 21 [vR 6, vI x1, vI x2, vI x3] [] h _
        refine X_b 1 22 (L := L_55) rfl rfl rfl ?_
        show X 55 22 [vR 6, vI x1, vI x2, vI x3] [vI 0] h _
        refine X_zret (L := L_55) rfl rfl rfl rfl (by decide) ?_
        exact H
      · have z3 : 0 ≤ x2 := (Int.not_lt.mp z3)
        replace H := H.2 z3
        show X 55 8 [vR 6, vI x1, vI x2, vI x3] [] h _
        obtain ⟨c4, H⟩ := H
        refine X_b 3 11 (L := L_55) rfl rfl rfl ?_
        show X 55 11 [vR 6, vI x1, vI x2, vI x3] [vI x1, vR 6, vI x2] h _
        refine X_call 35 [vR 6, vI x1] [vI x2] rfl (sg_calv rfl rfl rfl rfl rfl rfl rfl rfl rfl rfl rfl) (by decide) ?_
        refine f_size c4 ?_
        show X 55 12 [vR 6, vI x1, vI x2, vI x3] [vI (szo h x1), vI x2] h _
        refine X_icmp (L := L_55) (n' := 21) rfl rfl rfl rfl (fun z5 => ?_) (fun z5 => ?_)
        · have z5 : szo h x1 < x2 := z5
          replace H := H.1 z5
          show X 55 21 [vR 6, vI x1, vI x2, vI x3] [] h _
          refine X_b 1 22 (L := L_55) rfl rfl rfl ?_
          show X 55 22 [vR 6, vI x1, vI x2, vI x3] [vI 0] h _
          refine X_zret (L := L_55) rfl rfl rfl rfl (by decide) ?_
          exact H
        · have z5 : x2 ≤ szo h x1 := (Int.not_lt.mp z5)
          replace H := H.2 z5
          show X 55 13 [vR 6, vI x1, vI x2, vI x3] [] h _
          refine X_b 2 15 (L := L_55) rfl rfl rfl ?_
          show X 55 15 [vR 6, vI x1, vI x2, vI x3] [vI 4, vI x3] h _
          refine X_icmp (L := L_55) (n' := 21) rfl rfl rfl rfl (fun z6 => ?_) (fun z6 => ?_)
          · have z6 : x3 < 4 := z6
            replace H := H.1 z6
            show X 55 21 [vR 6, vI x1, vI x2, vI x3] [] h _
            refine X_b 1 22 (L := L_55) rfl rfl rfl ?_
            show X 55 22 [vR 6, vI x1, vI x2, vI x3] [vI 0] h _
            refine X_zret (L := L_55) rfl rfl rfl rfl (by decide) ?_
            exact H
          · have z6 : 4 ≤ x3 := (Int.not_lt.mp z6)
            replace H := H.2 z6
            show X 55 16 [vR 6, vI x1, vI x2, vI x3] [] h _
            refine X_b 2 18 (L := L_55) rfl rfl rfl ?_
            show X 55 18 [vR 6, vI x1, vI x2, vI x3] [vI 9, vI x3] h _
            refine X_icmp (L := L_55) (n' := 21) rfl rfl rfl rfl (fun z7 => ?_) (fun z7 => ?_)
            · have z7 : 9 < x3 := z7
              replace H := H.1 z7
              show X 55 21 [vR 6, vI x1, vI x2, vI x3] [] h _
              refine X_b 1 22 (L := L_55) rfl rfl rfl ?_
              show X 55 22 [vR 6, vI x1, vI x2, vI x3] [vI 0] h _
              refine X_zret (L := L_55) rfl rfl rfl rfl (by decide) ?_
              exact H
            · have z7 : x3 ≤ 9 := (Int.not_lt.mp z7)
              replace H := H.2 z7
              show X 55 19 [vR 6, vI x1, vI x2, vI x3] [] h _
              refine X_b 1 20 (L := L_55) rfl rfl rfl ?_
              show X 55 20 [vR 6, vI x1, vI x2, vI x3] [vI 1] h _
              refine X_goto (L := L_55) (n' := 22) rfl rfl rfl rfl ?_
              show X 55 22 [vR 6, vI x1, vI x2, vI x3] [vI 1] h _
              refine X_zret (L := L_55) rfl rfl rfl rfl (by decide) ?_
              exact H

/-- PPModel.has, row 0 -/
theorem s_56_0 (x1 x2 x3 x4 : Int) (h : ab_S) (K : ab_O → ab_S → Prop) (H : ((x1 < 0 → K (oI 0) (ab_up h 6 0 1)) ∧ (0 ≤ x1 → ((h 6 7 ≤ x1 → K (oI 0) (ab_up h 6 0 1)) ∧ (x1 < h 6 7 → ((x2 < 0 → K (oI 0) (ab_up h 6 0 2)) ∧ (0 ≤ x2 → ((h 6 1 < x2 → K (oI 0) (ab_up h 6 0 2)) ∧ (x2 ≤ h 6 1 → ((x3 < 0 → K (oI 0) (ab_up h 6 0 2)) ∧ (0 ≤ x3 → ((0 ≤ x2 ∧ (x2 = h 6 1 ∨ x2 < 8))) ∧ ((szo h x2 < x3 → K (oI 0) (ab_up h 6 0 2)) ∧ (x3 ≤ szo h x2 → ((x4 < 4 → K (oI 0) (ab_up h 6 0 2)) ∧ (4 ≤ x4 → ((9 < x4 → K (oI 0) (ab_up h 6 0 2)) ∧ (x4 ≤ 9 → ((-2147483648 ≤ 270 * x1 ∧ 270 * x1 ≤ 2147483647) ∧ (-2147483648 ≤ 30 * x2 ∧ 30 * x2 ≤ 2147483647) ∧ (-2147483648 ≤ 6 * x3 ∧ 6 * x3 ≤ 2147483647) ∧ (-2147483648 ≤ (30 * x2) + (6 * x3) ∧ (30 * x2) + (6 * x3) ≤ 2147483647) ∧ (-2147483648 ≤ ((30 * x2) + (6 * x3)) + x4 ∧ ((30 * x2) + (6 * x3)) + x4 ≤ 2147483647) ∧ (-2147483648 ≤ (((30 * x2) + (6 * x3)) + x4) - 4 ∧ (((30 * x2) + (6 * x3)) + x4) - 4 ≤ 2147483647) ∧ (0 ≤ (270 * x1) + ((((30 * x2) + (6 * x3)) + x4) - 4) ∧ (270 * x1) + ((((30 * x2) + (6 * x3)) + x4) - 4) < 13500) ∧ (h 25 ((270 * x1) + ((((30 * x2) + (6 * x3)) + x4) - 4)) = 0 ∨ h 25 ((270 * x1) + ((((30 * x2) + (6 * x3)) + x4) - 4)) = 1)) ∧ ((h 25 ((270 * x1) + ((((30 * x2) + (6 * x3)) + x4) - 4)) = 0 → K (oI 0) (ab_up h 6 0 0)) ∧ (¬ h 25 ((270 * x1) + ((((30 * x2) + (6 * x3)) + x4) - 4)) = 0 → K (oI 1) (ab_up h 6 0 0)))))))))))))))))))) : C 56 [vR 6, vI x1, vI x2, vI x3, vI x4] h K := by
  show X 56 0 [vR 6, vI x1, vI x2, vI x3, vI x4] [] h K
  refine X_b 3 3 (L := L_56) rfl rfl rfl ?_
  show X 56 3 [vR 6, vI x1, vI x2, vI x3, vI x4] [vI x1, vR 6, vR 6] h _
  refine X_call 51 [vR 6, vI x1] [vR 6] rfl (sg_calv rfl rfl rfl rfl rfl rfl rfl rfl rfl rfl rfl) (by decide) ?_
  show X 51 0 [vR 6, vI x1] [] h _
  refine X_b 1 1 (L := L_51) rfl rfl rfl ?_
  show X 51 1 [vR 6, vI x1] [vI x1] h _
  refine X_if (L := L_51) (n' := 8) rfl rfl rfl rfl (fun z1 => ?_) (fun z1 => ?_)
  · have z1 : x1 < 0 := z1
    replace H := H.1 z1
    show X 51 8 [vR 6, vI x1] [] h _
    refine X_b 1 9 (L := L_51) rfl rfl rfl ?_
    show X 51 9 [vR 6, vI x1] [vI 0] h _
    refine X_zret (L := L_51) rfl rfl rfl rfl (by decide) ?_
    show X 56 4 [vR 6, vI x1, vI x2, vI x3, vI x4] [vI 0, vR 6] h _
    refine X_if (L := L_56) (n' := 7) rfl rfl rfl rfl (fun z => absurd z (show ¬ (¬ (0 : Int) = (0 : Int)) by decide)) (fun _ => ?_)
    show X 56 5 [vR 6, vI x1, vI x2, vI x3, vI x4] [vR 6] h _
    refine X_b 1 6 (L := L_56) rfl rfl rfl ?_
    show X 56 6 [vR 6, vI x1, vI x2, vI x3, vI x4] [vI 1, vR 6] h _
    refine X_goto (L := L_56) (n' := 16) rfl rfl rfl rfl ?_
    show X 56 16 [vR 6, vI x1, vI x2, vI x3, vI x4] [vI 1, vR 6] h _
    refine X_b 3 19 (L := L_56) rfl rfl rfl ?_
    show X 56 19 [vR 6, vI x1, vI x2, vI x3, vI x4] [vI 1] (ab_up h 6 0 1) _
    refine X_if (L := L_56) (n' := 29) rfl rfl rfl rfl (fun _ => ?_) (fun z => absurd (show ¬ (1 : Int) = (0 : Int) by decide) z)
    show X 56 29 [vR 6, vI x1, vI x2, vI x3, vI x4] [] (ab_up h 6 0 1) _
    refine X_b 1 30 (L := L_56) rfl rfl rfl ?_
    show X 56 30 [vR 6, vI x1, vI x2, vI x3, vI x4] [vI 0] (ab_up h 6 0 1) _
    refine X_zret (L := L_56) rfl rfl rfl rfl (by decide) ?_
    exact H
  · have z1 : 0 ≤ x1 := (Int.not_lt.mp z1)
    replace H := H.2 z1
    show X 51 2 [vR 6, vI x1] [] h _
    refine X_b 3 5 (L := L_51) rfl rfl rfl ?_
    show X 51 5 [vR 6, vI x1] [vI (h 6 7), vI x1] h _
    refine X_icmp (L := L_51) (n' := 8) rfl rfl rfl rfl (fun z2 => ?_) (fun z2 => ?_)
    · have z2 : h 6 7 ≤ x1 := z2
      replace H := H.1 z2
      show X 51 8 [vR 6, vI x1] [] h _
      refine X_b 1 9 (L := L_51) rfl rfl rfl ?_
      show X 51 9 [vR 6, vI x1] [vI 0] h _
      refine X_zret (L := L_51) rfl rfl rfl rfl (by decide) ?_
      show X 56 4 [vR 6, vI x1, vI x2, vI x3, vI x4] [vI 0, vR 6] h _
      refine X_if (L := L_56) (n' := 7) rfl rfl rfl rfl (fun z => absurd z (show ¬ (¬ (0 : Int) = (0 : Int)) by decide)) (fun _ => ?_)
      show X 56 5 [vR 6, vI x1, vI x2, vI x3, vI x4] [vR 6] h _
      refine X_b 1 6 (L := L_56) rfl rfl rfl ?_
      show X 56 6 [vR 6, vI x1, vI x2, vI x3, vI x4] [vI 1, vR 6] h _
      refine X_goto (L := L_56) (n' := 16) rfl rfl rfl rfl ?_
      show X 56 16 [vR 6, vI x1, vI x2, vI x3, vI x4] [vI 1, vR 6] h _
      refine X_b 3 19 (L := L_56) rfl rfl rfl ?_
      show X 56 19 [vR 6, vI x1, vI x2, vI x3, vI x4] [vI 1] (ab_up h 6 0 1) _
      refine X_if (L := L_56) (n' := 29) rfl rfl rfl rfl (fun _ => ?_) (fun z => absurd (show ¬ (1 : Int) = (0 : Int) by decide) z)
      show X 56 29 [vR 6, vI x1, vI x2, vI x3, vI x4] [] (ab_up h 6 0 1) _
      refine X_b 1 30 (L := L_56) rfl rfl rfl ?_
      show X 56 30 [vR 6, vI x1, vI x2, vI x3, vI x4] [vI 0] (ab_up h 6 0 1) _
      refine X_zret (L := L_56) rfl rfl rfl rfl (by decide) ?_
      exact H
    · have z2 : x1 < h 6 7 := (Int.not_le.mp z2)
      replace H := H.2 z2
      show X 51 6 [vR 6, vI x1] [] h _
      refine X_b 1 7 (L := L_51) rfl rfl rfl ?_
      show X 51 7 [vR 6, vI x1] [vI 1] h _
      refine X_goto (L := L_51) (n' := 9) rfl rfl rfl rfl ?_
      show X 51 9 [vR 6, vI x1] [vI 1] h _
      refine X_zret (L := L_51) rfl rfl rfl rfl (by decide) ?_
      show X 56 4 [vR 6, vI x1, vI x2, vI x3, vI x4] [vI 1, vR 6] h _
      refine X_if (L := L_56) (n' := 7) rfl rfl rfl rfl (fun _ => ?_) (fun z => absurd (show ¬ (1 : Int) = (0 : Int) by decide) z)
      show X 56 7 [vR 6, vI x1, vI x2, vI x3, vI x4] [vR 6] h _
      refine X_b 4 11 (L := L_56) rfl rfl rfl ?_
      show X 56 11 [vR 6, vI x1, vI x2, vI x3, vI x4] [vI x4, vI x3, vI x2, vR 6, vR 6] h _
      refine X_call 55 [vR 6, vI x2, vI x3, vI x4] [vR 6] rfl (sg_calv rfl rfl rfl rfl rfl rfl rfl rfl rfl rfl rfl) (by decide) ?_
      show X 55 0 [vR 6, vI x2, vI x3, vI x4] [] h _
      refine X_b 1 1 (L := L_55) rfl rfl rfl ?_
      show X 55 1 [vR 6, vI x2, vI x3, vI x4] [vI x2] h _
      refine X_if (L := L_55) (n' := 21) rfl rfl rfl rfl (fun z3 => ?_) (fun z3 => ?_)
      · have z3 : x2 < 0 := z3
        replace H := H.1 z3
        show X 55 21 [vR 6, vI x2, vI x3, vI x4] [] h _
        refine X_b 1 22 (L := L_55) rfl rfl rfl ?_
        show X 55 22 [vR 6, vI x2, vI x3, vI x4] [vI 0] h _
        refine X_zret (L := L_55) rfl rfl rfl rfl (by decide) ?_
        show X 56 12 [vR 6, vI x1, vI x2, vI x3, vI x4] [vI 0, vR 6] h _
        refine X_if (L := L_56) (n' := 15) rfl rfl rfl rfl (fun _ => ?_) (fun z => absurd (show (0 : Int) = (0 : Int) by decide) z)
        show X 56 15 [vR 6, vI x1, vI x2, vI x3, vI x4] [vR 6] h _
        refine X_b 4 19 (L := L_56) rfl rfl rfl ?_
        show X 56 19 [vR 6, vI x1, vI x2, vI x3, vI x4] [vI 2] (ab_up h 6 0 2) _
        refine X_if (L := L_56) (n' := 29) rfl rfl rfl rfl (fun _ => ?_) (fun z => absurd (show ¬ (2 : Int) = (0 : Int) by decide) z)
        show X 56 29 [vR 6, vI x1, vI x2, vI x3, vI x4] [] (ab_up h 6 0 2) _
        refine X_b 1 30 (L := L_56) rfl rfl rfl ?_
        show X 56 30 [vR 6, vI x1, vI x2, vI x3, vI x4] [vI 0] (ab_up h 6 0 2) _
        refine X_zret (L := L_56) rfl rfl rfl rfl (by decide) ?_
        exact H
      · have z3 : 0 ≤ x2 := (Int.not_lt.mp z3)
        replace H := H.2 z3
        show X 55 2 [vR 6, vI x2, vI x3, vI x4] [] h _
        refine X_b 3 5 (L := L_55) rfl rfl rfl ?_
        show X 55 5 [vR 6, vI x2, vI x3, vI x4] [vI (h 6 1), vI x2] h _
        refine X_icmp (L := L_55) (n' := 21) rfl rfl rfl rfl (fun z4 => ?_) (fun z4 => ?_)
        · have z4 : h 6 1 < x2 := z4
          replace H := H.1 z4
          show X 55 21 [vR 6, vI x2, vI x3, vI x4] [] h _
          refine X_b 1 22 (L := L_55) rfl rfl rfl ?_
          show X 55 22 [vR 6, vI x2, vI x3, vI x4] [vI 0] h _
          refine X_zret (L := L_55) rfl rfl rfl rfl (by decide) ?_
          show X 56 12 [vR 6, vI x1, vI x2, vI x3, vI x4] [vI 0, vR 6] h _
          refine X_if (L := L_56) (n' := 15) rfl rfl rfl rfl (fun _ => ?_) (fun z => absurd (show (0 : Int) = (0 : Int) by decide) z)
          show X 56 15 [vR 6, vI x1, vI x2, vI x3, vI x4] [vR 6] h _
          refine X_b 4 19 (L := L_56) rfl rfl rfl ?_
          show X 56 19 [vR 6, vI x1, vI x2, vI x3, vI x4] [vI 2] (ab_up h 6 0 2) _
          refine X_if (L := L_56) (n' := 29) rfl rfl rfl rfl (fun _ => ?_) (fun z => absurd (show ¬ (2 : Int) = (0 : Int) by decide) z)
          show X 56 29 [vR 6, vI x1, vI x2, vI x3, vI x4] [] (ab_up h 6 0 2) _
          refine X_b 1 30 (L := L_56) rfl rfl rfl ?_
          show X 56 30 [vR 6, vI x1, vI x2, vI x3, vI x4] [vI 0] (ab_up h 6 0 2) _
          refine X_zret (L := L_56) rfl rfl rfl rfl (by decide) ?_
          exact H
        · have z4 : x2 ≤ h 6 1 := (Int.not_lt.mp z4)
          replace H := H.2 z4
          show X 55 6 [vR 6, vI x2, vI x3, vI x4] [] h _
          refine X_b 1 7 (L := L_55) rfl rfl rfl ?_
          show X 55 7 [vR 6, vI x2, vI x3, vI x4] [vI x3] h _
          refine X_if (L := L_55) (n' := 21) rfl rfl rfl rfl (fun z5 => ?_) (fun z5 => ?_)
          · have z5 : x3 < 0 := z5
            replace H := H.1 z5
            show X 55 21 [vR 6, vI x2, vI x3, vI x4] [] h _
            refine X_b 1 22 (L := L_55) rfl rfl rfl ?_
            show X 55 22 [vR 6, vI x2, vI x3, vI x4] [vI 0] h _
            refine X_zret (L := L_55) rfl rfl rfl rfl (by decide) ?_
            show X 56 12 [vR 6, vI x1, vI x2, vI x3, vI x4] [vI 0, vR 6] h _
            refine X_if (L := L_56) (n' := 15) rfl rfl rfl rfl (fun _ => ?_) (fun z => absurd (show (0 : Int) = (0 : Int) by decide) z)
            show X 56 15 [vR 6, vI x1, vI x2, vI x3, vI x4] [vR 6] h _
            refine X_b 4 19 (L := L_56) rfl rfl rfl ?_
            show X 56 19 [vR 6, vI x1, vI x2, vI x3, vI x4] [vI 2] (ab_up h 6 0 2) _
            refine X_if (L := L_56) (n' := 29) rfl rfl rfl rfl (fun _ => ?_) (fun z => absurd (show ¬ (2 : Int) = (0 : Int) by decide) z)
            show X 56 29 [vR 6, vI x1, vI x2, vI x3, vI x4] [] (ab_up h 6 0 2) _
            refine X_b 1 30 (L := L_56) rfl rfl rfl ?_
            show X 56 30 [vR 6, vI x1, vI x2, vI x3, vI x4] [vI 0] (ab_up h 6 0 2) _
            refine X_zret (L := L_56) rfl rfl rfl rfl (by decide) ?_
            exact H
          · have z5 : 0 ≤ x3 := (Int.not_lt.mp z5)
            replace H := H.2 z5
            show X 55 8 [vR 6, vI x2, vI x3, vI x4] [] h _
            obtain ⟨c6, H⟩ := H
            refine X_b 3 11 (L := L_55) rfl rfl rfl ?_
            show X 55 11 [vR 6, vI x2, vI x3, vI x4] [vI x2, vR 6, vI x3] h _
            refine X_call 35 [vR 6, vI x2] [vI x3] rfl (sg_calv rfl rfl rfl rfl rfl rfl rfl rfl rfl rfl rfl) (by decide) ?_
            refine f_size c6 ?_
            show X 55 12 [vR 6, vI x2, vI x3, vI x4] [vI (szo h x2), vI x3] h _
            refine X_icmp (L := L_55) (n' := 21) rfl rfl rfl rfl (fun z7 => ?_) (fun z7 => ?_)
            · have z7 : szo h x2 < x3 := z7
              replace H := H.1 z7
              show X 55 21 [vR 6, vI x2, vI x3, vI x4] [] h _
              refine X_b 1 22 (L := L_55) rfl rfl rfl ?_
              show X 55 22 [vR 6, vI x2, vI x3, vI x4] [vI 0] h _
              refine X_zret (L := L_55) rfl rfl rfl rfl (by decide) ?_
              show X 56 12 [vR 6, vI x1, vI x2, vI x3, vI x4] [vI 0, vR 6] h _
              refine X_if (L := L_56) (n' := 15) rfl rfl rfl rfl (fun _ => ?_) (fun z => absurd (show (0 : Int) = (0 : Int) by decide) z)
              show X 56 15 [vR 6, vI x1, vI x2, vI x3, vI x4] [vR 6] h _
              refine X_b 4 19 (L := L_56) rfl rfl rfl ?_
              show X 56 19 [vR 6, vI x1, vI x2, vI x3, vI x4] [vI 2] (ab_up h 6 0 2) _
              refine X_if (L := L_56) (n' := 29) rfl rfl rfl rfl (fun _ => ?_) (fun z => absurd (show ¬ (2 : Int) = (0 : Int) by decide) z)
              show X 56 29 [vR 6, vI x1, vI x2, vI x3, vI x4] [] (ab_up h 6 0 2) _
              refine X_b 1 30 (L := L_56) rfl rfl rfl ?_
              show X 56 30 [vR 6, vI x1, vI x2, vI x3, vI x4] [vI 0] (ab_up h 6 0 2) _
              refine X_zret (L := L_56) rfl rfl rfl rfl (by decide) ?_
              exact H
            · have z7 : x3 ≤ szo h x2 := (Int.not_lt.mp z7)
              replace H := H.2 z7
              show X 55 13 [vR 6, vI x2, vI x3, vI x4] [] h _
              refine X_b 2 15 (L := L_55) rfl rfl rfl ?_
              show X 55 15 [vR 6, vI x2, vI x3, vI x4] [vI 4, vI x4] h _
              refine X_icmp (L := L_55) (n' := 21) rfl rfl rfl rfl (fun z8 => ?_) (fun z8 => ?_)
              · have z8 : x4 < 4 := z8
                replace H := H.1 z8
                show X 55 21 [vR 6, vI x2, vI x3, vI x4] [] h _
                refine X_b 1 22 (L := L_55) rfl rfl rfl ?_
                show X 55 22 [vR 6, vI x2, vI x3, vI x4] [vI 0] h _
                refine X_zret (L := L_55) rfl rfl rfl rfl (by decide) ?_
                show X 56 12 [vR 6, vI x1, vI x2, vI x3, vI x4] [vI 0, vR 6] h _
                refine X_if (L := L_56) (n' := 15) rfl rfl rfl rfl (fun _ => ?_) (fun z => absurd (show (0 : Int) = (0 : Int) by decide) z)
                show X 56 15 [vR 6, vI x1, vI x2, vI x3, vI x4] [vR 6] h _
                refine X_b 4 19 (L := L_56) rfl rfl rfl ?_
                show X 56 19 [vR 6, vI x1, vI x2, vI x3, vI x4] [vI 2] (ab_up h 6 0 2) _
                refine X_if (L := L_56) (n' := 29) rfl rfl rfl rfl (fun _ => ?_) (fun z => absurd (show ¬ (2 : Int) = (0 : Int) by decide) z)
                show X 56 29 [vR 6, vI x1, vI x2, vI x3, vI x4] [] (ab_up h 6 0 2) _
                refine X_b 1 30 (L := L_56) rfl rfl rfl ?_
                show X 56 30 [vR 6, vI x1, vI x2, vI x3, vI x4] [vI 0] (ab_up h 6 0 2) _
                refine X_zret (L := L_56) rfl rfl rfl rfl (by decide) ?_
                exact H
              · have z8 : 4 ≤ x4 := (Int.not_lt.mp z8)
                replace H := H.2 z8
                show X 55 16 [vR 6, vI x2, vI x3, vI x4] [] h _
                refine X_b 2 18 (L := L_55) rfl rfl rfl ?_
                show X 55 18 [vR 6, vI x2, vI x3, vI x4] [vI 9, vI x4] h _
                refine X_icmp (L := L_55) (n' := 21) rfl rfl rfl rfl (fun z9 => ?_) (fun z9 => ?_)
                · have z9 : 9 < x4 := z9
                  replace H := H.1 z9
                  show X 55 21 [vR 6, vI x2, vI x3, vI x4] [] h _
                  refine X_b 1 22 (L := L_55) rfl rfl rfl ?_
                  show X 55 22 [vR 6, vI x2, vI x3, vI x4] [vI 0] h _
                  refine X_zret (L := L_55) rfl rfl rfl rfl (by decide) ?_
                  show X 56 12 [vR 6, vI x1, vI x2, vI x3, vI x4] [vI 0, vR 6] h _
                  refine X_if (L := L_56) (n' := 15) rfl rfl rfl rfl (fun _ => ?_) (fun z => absurd (show (0 : Int) = (0 : Int) by decide) z)
                  show X 56 15 [vR 6, vI x1, vI x2, vI x3, vI x4] [vR 6] h _
                  refine X_b 4 19 (L := L_56) rfl rfl rfl ?_
                  show X 56 19 [vR 6, vI x1, vI x2, vI x3, vI x4] [vI 2] (ab_up h 6 0 2) _
                  refine X_if (L := L_56) (n' := 29) rfl rfl rfl rfl (fun _ => ?_) (fun z => absurd (show ¬ (2 : Int) = (0 : Int) by decide) z)
                  show X 56 29 [vR 6, vI x1, vI x2, vI x3, vI x4] [] (ab_up h 6 0 2) _
                  refine X_b 1 30 (L := L_56) rfl rfl rfl ?_
                  show X 56 30 [vR 6, vI x1, vI x2, vI x3, vI x4] [vI 0] (ab_up h 6 0 2) _
                  refine X_zret (L := L_56) rfl rfl rfl rfl (by decide) ?_
                  exact H
                · have z9 : x4 ≤ 9 := (Int.not_lt.mp z9)
                  replace H := H.2 z9
                  show X 55 19 [vR 6, vI x2, vI x3, vI x4] [] h _
                  obtain ⟨⟨c10, c11, c12, c13, c14, c15, c16, c17⟩, H⟩ := H
                  refine X_b 1 20 (L := L_55) rfl rfl rfl ?_
                  show X 55 20 [vR 6, vI x2, vI x3, vI x4] [vI 1] h _
                  refine X_goto (L := L_55) (n' := 22) rfl rfl rfl rfl ?_
                  show X 55 22 [vR 6, vI x2, vI x3, vI x4] [vI 1] h _
                  refine X_zret (L := L_55) rfl rfl rfl rfl (by decide) ?_
                  show X 56 12 [vR 6, vI x1, vI x2, vI x3, vI x4] [vI 1, vR 6] h _
                  refine X_if (L := L_56) (n' := 15) rfl rfl rfl rfl (fun z => absurd z (show ¬ ((1 : Int) = (0 : Int)) by decide)) (fun _ => ?_)
                  show X 56 13 [vR 6, vI x1, vI x2, vI x3, vI x4] [vR 6] h _
                  refine X_b 1 14 (L := L_56) rfl rfl rfl ?_
                  show X 56 14 [vR 6, vI x1, vI x2, vI x3, vI x4] [vI 0, vR 6] h _
                  refine X_goto (L := L_56) (n' := 16) rfl rfl rfl rfl ?_
                  show X 56 16 [vR 6, vI x1, vI x2, vI x3, vI x4] [vI 0, vR 6] h _
                  refine X_b 3 19 (L := L_56) rfl rfl rfl ?_
                  show X 56 19 [vR 6, vI x1, vI x2, vI x3, vI x4] [vI 0] (ab_up h 6 0 0) _
                  refine X_if (L := L_56) (n' := 29) rfl rfl rfl rfl (fun z => absurd z (show ¬ (¬ (0 : Int) = (0 : Int)) by decide)) (fun _ => ?_)
                  show X 56 20 [vR 6, vI x1, vI x2, vI x3, vI x4] [] (ab_up h 6 0 0) _
                  refine X_b 5 25 (L := L_56) rfl rfl rfl ?_
                  show X 56 25 [vR 6, vI x1, vI x2, vI x3, vI x4] [vI x4, vI x3, vI x2, vI x1, vR 6] (ab_up h 6 0 0) _
                  refine X_call 42 [vR 6, vI x1, vI x2, vI x3, vI x4] [] rfl (sg_calv rfl rfl rfl rfl rfl rfl rfl rfl rfl rfl rfl) (by decide) ?_
                  show X 42 0 [vR 6, vI x1, vI x2, vI x3, vI x4] [] (ab_up h 6 0 0) _
                  refine X_b 8 8 (L := L_42) rfl rfl rfl ?_
                  show (-2147483648 ≤ 270 * x1 ∧ 270 * x1 ≤ 2147483647) ∧ X 42 8 [vR 6, vI x1, vI x2, vI x3, vI x4] [vI x4, vI x3, vI x2, vI (270 * x1), vR 25] (ab_up h 6 0 0) _
                  refine ⟨c10, ?_⟩
                  refine X_call 41 [vI x2, vI x3, vI x4] [vI (270 * x1), vR 25] rfl (sg_cals rfl rfl rfl rfl rfl rfl rfl rfl rfl rfl) (by decide) ?_
                  show X 41 0 [vI x2, vI x3, vI x4] [] (ab_up h 6 0 0) _
                  refine X_b 11 11 (L := L_41) rfl rfl rfl ?_
                  show (-2147483648 ≤ 30 * x2 ∧ 30 * x2 ≤ 2147483647) ∧ (-2147483648 ≤ 6 * x3 ∧ 6 * x3 ≤ 2147483647) ∧ (-2147483648 ≤ (30 * x2) + (6 * x3) ∧ (30 * x2) + (6 * x3) ≤ 2147483647) ∧ (-2147483648 ≤ ((30 * x2) + (6 * x3)) + x4 ∧ ((30 * x2) + (6 * x3)) + x4 ≤ 2147483647) ∧ (-2147483648 ≤ (((30 * x2) + (6 * x3)) + x4) - 4 ∧ (((30 * x2) + (6 * x3)) + x4) - 4 ≤ 2147483647) ∧ X 41 11 [vI x2, vI x3, vI x4] [vI ((((30 * x2) + (6 * x3)) + x4) - 4)] (ab_up h 6 0 0) _
                  refine ⟨c11, c12, c13, c14, c15, ?_⟩
                  refine X_iret (L := L_41) rfl rfl rfl rfl ?_
                  show X 42 9 [vR 6, vI x1, vI x2, vI x3, vI x4] [vI ((((30 * x2) + (6 * x3)) + x4) - 4), vI (270 * x1), vR 25] (ab_up h 6 0 0) _
                  refine X_b 2 11 (L := L_42) rfl rfl rfl ?_
                  show (-2147483648 ≤ (270 * x1) + ((((30 * x2) + (6 * x3)) + x4) - 4) ∧ (270 * x1) + ((((30 * x2) + (6 * x3)) + x4) - 4) ≤ 2147483647) ∧ (0 ≤ (270 * x1) + ((((30 * x2) + (6 * x3)) + x4) - 4) ∧ (270 * x1) + ((((30 * x2) + (6 * x3)) + x4) - 4) < 13500) ∧ X 42 11 [vR 6, vI x1, vI x2, vI x3, vI x4] [vI (h 25 ((270 * x1) + ((((30 * x2) + (6 * x3)) + x4) - 4)))] (ab_up h 6 0 0) _
                  refine ⟨by have := c16; omega, c16, ?_⟩
                  refine X_zret (L := L_42) rfl rfl rfl rfl c17 ?_
                  show X 56 26 [vR 6, vI x1, vI x2, vI x3, vI x4] [vI (h 25 ((270 * x1) + ((((30 * x2) + (6 * x3)) + x4) - 4)))] (ab_up h 6 0 0) _
                  refine X_if (L := L_56) (n' := 29) rfl rfl rfl rfl (fun z18 => ?_) (fun z18 => ?_)
                  · have z18 : h 25 ((270 * x1) + ((((30 * x2) + (6 * x3)) + x4) - 4)) = 0 := z18
                    replace H := H.1 z18
                    show X 56 29 [vR 6, vI x1, vI x2, vI x3, vI x4] [] (ab_up h 6 0 0) _
                    refine X_b 1 30 (L := L_56) rfl rfl rfl ?_
                    show X 56 30 [vR 6, vI x1, vI x2, vI x3, vI x4] [vI 0] (ab_up h 6 0 0) _
                    refine X_zret (L := L_56) rfl rfl rfl rfl (by decide) ?_
                    exact H
                  · have z18 : ¬ h 25 ((270 * x1) + ((((30 * x2) + (6 * x3)) + x4) - 4)) = 0 := z18
                    replace H := H.2 z18
                    show X 56 27 [vR 6, vI x1, vI x2, vI x3, vI x4] [] (ab_up h 6 0 0) _
                    refine X_b 1 28 (L := L_56) rfl rfl rfl ?_
                    show X 56 28 [vR 6, vI x1, vI x2, vI x3, vI x4] [vI 1] (ab_up h 6 0 0) _
                    refine X_goto (L := L_56) (n' := 30) rfl rfl rfl rfl ?_
                    show X 56 30 [vR 6, vI x1, vI x2, vI x3, vI x4] [vI 1] (ab_up h 6 0 0) _
                    refine X_zret (L := L_56) rfl rfl rfl rfl (by decide) ?_
                    exact H

/-- PPModel.turn, row 0 -/
theorem s_57_0 (x1 x2 x3 x4 : Int) (h : ab_S) (K : ab_O → ab_S → Prop) (H : ((x1 < 0 → K (oI 0) (ab_up h 6 0 1)) ∧ (0 ≤ x1 → ((h 6 7 ≤ x1 → K (oI 0) (ab_up h 6 0 1)) ∧ (x1 < h 6 7 → ((x2 < 0 → K (oI 0) (ab_up h 6 0 2)) ∧ (0 ≤ x2 → ((h 6 1 < x2 → K (oI 0) (ab_up h 6 0 2)) ∧ (x2 ≤ h 6 1 → ((x3 < 0 → K (oI 0) (ab_up h 6 0 2)) ∧ (0 ≤ x3 → ((0 ≤ x2 ∧ (x2 = h 6 1 ∨ x2 < 8))) ∧ ((szo h x2 < x3 → K (oI 0) (ab_up h 6 0 2)) ∧ (x3 ≤ szo h x2 → ((x4 < 4 → K (oI 0) (ab_up h 6 0 2)) ∧ (4 ≤ x4 → ((9 < x4 → K (oI 0) (ab_up h 6 0 2)) ∧ (x4 ≤ 9 → ((-2147483648 ≤ 270 * x1 ∧ 270 * x1 ≤ 2147483647) ∧ (-2147483648 ≤ 30 * x2 ∧ 30 * x2 ≤ 2147483647) ∧ (-2147483648 ≤ 6 * x3 ∧ 6 * x3 ≤ 2147483647) ∧ (-2147483648 ≤ (30 * x2) + (6 * x3) ∧ (30 * x2) + (6 * x3) ≤ 2147483647) ∧ (-2147483648 ≤ ((30 * x2) + (6 * x3)) + x4 ∧ ((30 * x2) + (6 * x3)) + x4 ≤ 2147483647) ∧ (-2147483648 ≤ (((30 * x2) + (6 * x3)) + x4) - 4 ∧ (((30 * x2) + (6 * x3)) + x4) - 4 ≤ 2147483647) ∧ (0 ≤ (270 * x1) + ((((30 * x2) + (6 * x3)) + x4) - 4) ∧ (270 * x1) + ((((30 * x2) + (6 * x3)) + x4) - 4) < 13500)) ∧ ((¬ h 25 ((270 * x1) + ((((30 * x2) + (6 * x3)) + x4) - 4)) = 0 → (((ab_up (ab_up h 6 0 0) 25 ((270 * x1) + ((((30 * x2) + (6 * x3)) + x4) - 4)) 0) 25 ((270 * x1) + ((((30 * x2) + (6 * x3)) + x4) - 4)) = 0 ∨ (ab_up (ab_up h 6 0 0) 25 ((270 * x1) + ((((30 * x2) + (6 * x3)) + x4) - 4)) 0) 25 ((270 * x1) + ((((30 * x2) + (6 * x3)) + x4) - 4)) = 1)) ∧ K (oI ((ab_up (ab_up h 6 0 0) 25 ((270 * x1) + ((((30 * x2) + (6 * x3)) + x4) - 4)) 0) 25 ((270 * x1) + ((((30 * x2) + (6 * x3)) + x4) - 4)))) (ab_up (ab_up h 6 0 0) 25 ((270 * x1) + ((((30 * x2) + (6 * x3)) + x4) - 4)) 0)) ∧ (h 25 ((270 * x1) + ((((30 * x2) + (6 * x3)) + x4) - 4)) = 0 → (((ab_up (ab_up h 6 0 0) 25 ((270 * x1) + ((((30 * x2) + (6 * x3)) + x4) - 4)) 1) 25 ((270 * x1) + ((((30 * x2) + (6 * x3)) + x4) - 4)) = 0 ∨ (ab_up (ab_up h 6 0 0) 25 ((270 * x1) + ((((30 * x2) + (6 * x3)) + x4) - 4)) 1) 25 ((270 * x1) + ((((30 * x2) + (6 * x3)) + x4) - 4)) = 1)) ∧ K (oI ((ab_up (ab_up h 6 0 0) 25 ((270 * x1) + ((((30 * x2) + (6 * x3)) + x4) - 4)) 1) 25 ((270 * x1) + ((((30 * x2) + (6 * x3)) + x4) - 4)))) (ab_up (ab_up h 6 0 0) 25 ((270 * x1) + ((((30 * x2) + (6 * x3)) + x4) - 4)) 1)))))))))))))))))))) : C 57 [vR 6, vI x1, vI x2, vI x3, vI x4] h K := by
  show X 57 0 [vR 6, vI x1, vI x2, vI x3, vI x4, vJ 0] [] h K
  refine X_b 3 3 (L := L_57) rfl rfl rfl ?_
  show X 57 3 [vR 6, vI x1, vI x2, vI x3, vI x4, vJ 0] [vI x1, vR 6, vR 6] h _
  refine X_call 51 [vR 6, vI x1] [vR 6] rfl (sg_calv rfl rfl rfl rfl rfl rfl rfl rfl rfl rfl rfl) (by decide) ?_
  show X 51 0 [vR 6, vI x1] [] h _
  refine X_b 1 1 (L := L_51) rfl rfl rfl ?_
  show X 51 1 [vR 6, vI x1] [vI x1] h _
  refine X_if (L := L_51) (n' := 8) rfl rfl rfl rfl (fun z1 => ?_) (fun z1 => ?_)
  · have z1 : x1 < 0 := z1
    replace H := H.1 z1
    show X 51 8 [vR 6, vI x1] [] h _
    refine X_b 1 9 (L := L_51) rfl rfl rfl ?_
    show X 51 9 [vR 6, vI x1] [vI 0] h _
    refine X_zret (L := L_51) rfl rfl rfl rfl (by decide) ?_
    show X 57 4 [vR 6, vI x1, vI x2, vI x3, vI x4, vJ 0] [vI 0, vR 6] h _
    refine X_if (L := L_57) (n' := 7) rfl rfl rfl rfl (fun z => absurd z (show ¬ (¬ (0 : Int) = (0 : Int)) by decide)) (fun _ => ?_)
    show X 57 5 [vR 6, vI x1, vI x2, vI x3, vI x4, vJ 0] [vR 6] h _
    refine X_b 1 6 (L := L_57) rfl rfl rfl ?_
    show X 57 6 [vR 6, vI x1, vI x2, vI x3, vI x4, vJ 0] [vI 1, vR 6] h _
    refine X_goto (L := L_57) (n' := 16) rfl rfl rfl rfl ?_
    show X 57 16 [vR 6, vI x1, vI x2, vI x3, vI x4, vJ 0] [vI 1, vR 6] h _
    refine X_b 3 19 (L := L_57) rfl rfl rfl ?_
    show X 57 19 [vR 6, vI x1, vI x2, vI x3, vI x4, vJ 0] [vI 1] (ab_up h 6 0 1) _
    refine X_if (L := L_57) (n' := 22) rfl rfl rfl rfl (fun z => absurd z (show ¬ ((1 : Int) ≤ (0 : Int)) by decide)) (fun _ => ?_)
    show X 57 20 [vR 6, vI x1, vI x2, vI x3, vI x4, vJ 0] [] (ab_up h 6 0 1) _
    refine X_b 1 21 (L := L_57) rfl rfl rfl ?_
    show X 57 21 [vR 6, vI x1, vI x2, vI x3, vI x4, vJ 0] [vI 0] (ab_up h 6 0 1) _
    refine X_zret (L := L_57) rfl rfl rfl rfl (by decide) ?_
    exact H
  · have z1 : 0 ≤ x1 := (Int.not_lt.mp z1)
    replace H := H.2 z1
    show X 51 2 [vR 6, vI x1] [] h _
    refine X_b 3 5 (L := L_51) rfl rfl rfl ?_
    show X 51 5 [vR 6, vI x1] [vI (h 6 7), vI x1] h _
    refine X_icmp (L := L_51) (n' := 8) rfl rfl rfl rfl (fun z2 => ?_) (fun z2 => ?_)
    · have z2 : h 6 7 ≤ x1 := z2
      replace H := H.1 z2
      show X 51 8 [vR 6, vI x1] [] h _
      refine X_b 1 9 (L := L_51) rfl rfl rfl ?_
      show X 51 9 [vR 6, vI x1] [vI 0] h _
      refine X_zret (L := L_51) rfl rfl rfl rfl (by decide) ?_
      show X 57 4 [vR 6, vI x1, vI x2, vI x3, vI x4, vJ 0] [vI 0, vR 6] h _
      refine X_if (L := L_57) (n' := 7) rfl rfl rfl rfl (fun z => absurd z (show ¬ (¬ (0 : Int) = (0 : Int)) by decide)) (fun _ => ?_)
      show X 57 5 [vR 6, vI x1, vI x2, vI x3, vI x4, vJ 0] [vR 6] h _
      refine X_b 1 6 (L := L_57) rfl rfl rfl ?_
      show X 57 6 [vR 6, vI x1, vI x2, vI x3, vI x4, vJ 0] [vI 1, vR 6] h _
      refine X_goto (L := L_57) (n' := 16) rfl rfl rfl rfl ?_
      show X 57 16 [vR 6, vI x1, vI x2, vI x3, vI x4, vJ 0] [vI 1, vR 6] h _
      refine X_b 3 19 (L := L_57) rfl rfl rfl ?_
      show X 57 19 [vR 6, vI x1, vI x2, vI x3, vI x4, vJ 0] [vI 1] (ab_up h 6 0 1) _
      refine X_if (L := L_57) (n' := 22) rfl rfl rfl rfl (fun z => absurd z (show ¬ ((1 : Int) ≤ (0 : Int)) by decide)) (fun _ => ?_)
      show X 57 20 [vR 6, vI x1, vI x2, vI x3, vI x4, vJ 0] [] (ab_up h 6 0 1) _
      refine X_b 1 21 (L := L_57) rfl rfl rfl ?_
      show X 57 21 [vR 6, vI x1, vI x2, vI x3, vI x4, vJ 0] [vI 0] (ab_up h 6 0 1) _
      refine X_zret (L := L_57) rfl rfl rfl rfl (by decide) ?_
      exact H
    · have z2 : x1 < h 6 7 := (Int.not_le.mp z2)
      replace H := H.2 z2
      show X 51 6 [vR 6, vI x1] [] h _
      refine X_b 1 7 (L := L_51) rfl rfl rfl ?_
      show X 51 7 [vR 6, vI x1] [vI 1] h _
      refine X_goto (L := L_51) (n' := 9) rfl rfl rfl rfl ?_
      show X 51 9 [vR 6, vI x1] [vI 1] h _
      refine X_zret (L := L_51) rfl rfl rfl rfl (by decide) ?_
      show X 57 4 [vR 6, vI x1, vI x2, vI x3, vI x4, vJ 0] [vI 1, vR 6] h _
      refine X_if (L := L_57) (n' := 7) rfl rfl rfl rfl (fun _ => ?_) (fun z => absurd (show ¬ (1 : Int) = (0 : Int) by decide) z)
      show X 57 7 [vR 6, vI x1, vI x2, vI x3, vI x4, vJ 0] [vR 6] h _
      refine X_b 4 11 (L := L_57) rfl rfl rfl ?_
      show X 57 11 [vR 6, vI x1, vI x2, vI x3, vI x4, vJ 0] [vI x4, vI x3, vI x2, vR 6, vR 6] h _
      refine X_call 55 [vR 6, vI x2, vI x3, vI x4] [vR 6] rfl (sg_calv rfl rfl rfl rfl rfl rfl rfl rfl rfl rfl rfl) (by decide) ?_
      show X 55 0 [vR 6, vI x2, vI x3, vI x4] [] h _
      refine X_b 1 1 (L := L_55) rfl rfl rfl ?_
      show X 55 1 [vR 6, vI x2, vI x3, vI x4] [vI x2] h _
      refine X_if (L := L_55) (n' := 21) rfl rfl rfl rfl (fun z3 => ?_) (fun z3 => ?_)
      · have z3 : x2 < 0 := z3
        replace H := H.1 z3
        show X 55 21 [vR 6, vI x2, vI x3, vI x4] [] h _
        refine X_b 1 22 (L := L_55) rfl rfl rfl ?_
        show X 55 22 [vR 6, vI x2, vI x3, vI x4] [vI 0] h _
        refine X_zret (L := L_55) rfl rfl rfl rfl (by decide) ?_
        show X 57 12 [vR 6, vI x1, vI x2, vI x3, vI x4, vJ 0] [vI 0, vR 6] h _
        refine X_if (L := L_57) (n' := 15) rfl rfl rfl rfl (fun _ => ?_) (fun z => absurd (show (0 : Int) = (0 : Int) by decide) z)
        show X 57 15 [vR 6, vI x1, vI x2, vI x3, vI x4, vJ 0] [vR 6] h _
        refine X_b 4 19 (L := L_57) rfl rfl rfl ?_
        show X 57 19 [vR 6, vI x1, vI x2, vI x3, vI x4, vJ 0] [vI 2] (ab_up h 6 0 2) _
        refine X_if (L := L_57) (n' := 22) rfl rfl rfl rfl (fun z => absurd z (show ¬ ((2 : Int) ≤ (0 : Int)) by decide)) (fun _ => ?_)
        show X 57 20 [vR 6, vI x1, vI x2, vI x3, vI x4, vJ 0] [] (ab_up h 6 0 2) _
        refine X_b 1 21 (L := L_57) rfl rfl rfl ?_
        show X 57 21 [vR 6, vI x1, vI x2, vI x3, vI x4, vJ 0] [vI 0] (ab_up h 6 0 2) _
        refine X_zret (L := L_57) rfl rfl rfl rfl (by decide) ?_
        exact H
      · have z3 : 0 ≤ x2 := (Int.not_lt.mp z3)
        replace H := H.2 z3
        show X 55 2 [vR 6, vI x2, vI x3, vI x4] [] h _
        refine X_b 3 5 (L := L_55) rfl rfl rfl ?_
        show X 55 5 [vR 6, vI x2, vI x3, vI x4] [vI (h 6 1), vI x2] h _
        refine X_icmp (L := L_55) (n' := 21) rfl rfl rfl rfl (fun z4 => ?_) (fun z4 => ?_)
        · have z4 : h 6 1 < x2 := z4
          replace H := H.1 z4
          show X 55 21 [vR 6, vI x2, vI x3, vI x4] [] h _
          refine X_b 1 22 (L := L_55) rfl rfl rfl ?_
          show X 55 22 [vR 6, vI x2, vI x3, vI x4] [vI 0] h _
          refine X_zret (L := L_55) rfl rfl rfl rfl (by decide) ?_
          show X 57 12 [vR 6, vI x1, vI x2, vI x3, vI x4, vJ 0] [vI 0, vR 6] h _
          refine X_if (L := L_57) (n' := 15) rfl rfl rfl rfl (fun _ => ?_) (fun z => absurd (show (0 : Int) = (0 : Int) by decide) z)
          show X 57 15 [vR 6, vI x1, vI x2, vI x3, vI x4, vJ 0] [vR 6] h _
          refine X_b 4 19 (L := L_57) rfl rfl rfl ?_
          show X 57 19 [vR 6, vI x1, vI x2, vI x3, vI x4, vJ 0] [vI 2] (ab_up h 6 0 2) _
          refine X_if (L := L_57) (n' := 22) rfl rfl rfl rfl (fun z => absurd z (show ¬ ((2 : Int) ≤ (0 : Int)) by decide)) (fun _ => ?_)
          show X 57 20 [vR 6, vI x1, vI x2, vI x3, vI x4, vJ 0] [] (ab_up h 6 0 2) _
          refine X_b 1 21 (L := L_57) rfl rfl rfl ?_
          show X 57 21 [vR 6, vI x1, vI x2, vI x3, vI x4, vJ 0] [vI 0] (ab_up h 6 0 2) _
          refine X_zret (L := L_57) rfl rfl rfl rfl (by decide) ?_
          exact H
        · have z4 : x2 ≤ h 6 1 := (Int.not_lt.mp z4)
          replace H := H.2 z4
          show X 55 6 [vR 6, vI x2, vI x3, vI x4] [] h _
          refine X_b 1 7 (L := L_55) rfl rfl rfl ?_
          show X 55 7 [vR 6, vI x2, vI x3, vI x4] [vI x3] h _
          refine X_if (L := L_55) (n' := 21) rfl rfl rfl rfl (fun z5 => ?_) (fun z5 => ?_)
          · have z5 : x3 < 0 := z5
            replace H := H.1 z5
            show X 55 21 [vR 6, vI x2, vI x3, vI x4] [] h _
            refine X_b 1 22 (L := L_55) rfl rfl rfl ?_
            show X 55 22 [vR 6, vI x2, vI x3, vI x4] [vI 0] h _
            refine X_zret (L := L_55) rfl rfl rfl rfl (by decide) ?_
            show X 57 12 [vR 6, vI x1, vI x2, vI x3, vI x4, vJ 0] [vI 0, vR 6] h _
            refine X_if (L := L_57) (n' := 15) rfl rfl rfl rfl (fun _ => ?_) (fun z => absurd (show (0 : Int) = (0 : Int) by decide) z)
            show X 57 15 [vR 6, vI x1, vI x2, vI x3, vI x4, vJ 0] [vR 6] h _
            refine X_b 4 19 (L := L_57) rfl rfl rfl ?_
            show X 57 19 [vR 6, vI x1, vI x2, vI x3, vI x4, vJ 0] [vI 2] (ab_up h 6 0 2) _
            refine X_if (L := L_57) (n' := 22) rfl rfl rfl rfl (fun z => absurd z (show ¬ ((2 : Int) ≤ (0 : Int)) by decide)) (fun _ => ?_)
            show X 57 20 [vR 6, vI x1, vI x2, vI x3, vI x4, vJ 0] [] (ab_up h 6 0 2) _
            refine X_b 1 21 (L := L_57) rfl rfl rfl ?_
            show X 57 21 [vR 6, vI x1, vI x2, vI x3, vI x4, vJ 0] [vI 0] (ab_up h 6 0 2) _
            refine X_zret (L := L_57) rfl rfl rfl rfl (by decide) ?_
            exact H
          · have z5 : 0 ≤ x3 := (Int.not_lt.mp z5)
            replace H := H.2 z5
            show X 55 8 [vR 6, vI x2, vI x3, vI x4] [] h _
            obtain ⟨c6, H⟩ := H
            refine X_b 3 11 (L := L_55) rfl rfl rfl ?_
            show X 55 11 [vR 6, vI x2, vI x3, vI x4] [vI x2, vR 6, vI x3] h _
            refine X_call 35 [vR 6, vI x2] [vI x3] rfl (sg_calv rfl rfl rfl rfl rfl rfl rfl rfl rfl rfl rfl) (by decide) ?_
            refine f_size c6 ?_
            show X 55 12 [vR 6, vI x2, vI x3, vI x4] [vI (szo h x2), vI x3] h _
            refine X_icmp (L := L_55) (n' := 21) rfl rfl rfl rfl (fun z7 => ?_) (fun z7 => ?_)
            · have z7 : szo h x2 < x3 := z7
              replace H := H.1 z7
              show X 55 21 [vR 6, vI x2, vI x3, vI x4] [] h _
              refine X_b 1 22 (L := L_55) rfl rfl rfl ?_
              show X 55 22 [vR 6, vI x2, vI x3, vI x4] [vI 0] h _
              refine X_zret (L := L_55) rfl rfl rfl rfl (by decide) ?_
              show X 57 12 [vR 6, vI x1, vI x2, vI x3, vI x4, vJ 0] [vI 0, vR 6] h _
              refine X_if (L := L_57) (n' := 15) rfl rfl rfl rfl (fun _ => ?_) (fun z => absurd (show (0 : Int) = (0 : Int) by decide) z)
              show X 57 15 [vR 6, vI x1, vI x2, vI x3, vI x4, vJ 0] [vR 6] h _
              refine X_b 4 19 (L := L_57) rfl rfl rfl ?_
              show X 57 19 [vR 6, vI x1, vI x2, vI x3, vI x4, vJ 0] [vI 2] (ab_up h 6 0 2) _
              refine X_if (L := L_57) (n' := 22) rfl rfl rfl rfl (fun z => absurd z (show ¬ ((2 : Int) ≤ (0 : Int)) by decide)) (fun _ => ?_)
              show X 57 20 [vR 6, vI x1, vI x2, vI x3, vI x4, vJ 0] [] (ab_up h 6 0 2) _
              refine X_b 1 21 (L := L_57) rfl rfl rfl ?_
              show X 57 21 [vR 6, vI x1, vI x2, vI x3, vI x4, vJ 0] [vI 0] (ab_up h 6 0 2) _
              refine X_zret (L := L_57) rfl rfl rfl rfl (by decide) ?_
              exact H
            · have z7 : x3 ≤ szo h x2 := (Int.not_lt.mp z7)
              replace H := H.2 z7
              show X 55 13 [vR 6, vI x2, vI x3, vI x4] [] h _
              refine X_b 2 15 (L := L_55) rfl rfl rfl ?_
              show X 55 15 [vR 6, vI x2, vI x3, vI x4] [vI 4, vI x4] h _
              refine X_icmp (L := L_55) (n' := 21) rfl rfl rfl rfl (fun z8 => ?_) (fun z8 => ?_)
              · have z8 : x4 < 4 := z8
                replace H := H.1 z8
                show X 55 21 [vR 6, vI x2, vI x3, vI x4] [] h _
                refine X_b 1 22 (L := L_55) rfl rfl rfl ?_
                show X 55 22 [vR 6, vI x2, vI x3, vI x4] [vI 0] h _
                refine X_zret (L := L_55) rfl rfl rfl rfl (by decide) ?_
                show X 57 12 [vR 6, vI x1, vI x2, vI x3, vI x4, vJ 0] [vI 0, vR 6] h _
                refine X_if (L := L_57) (n' := 15) rfl rfl rfl rfl (fun _ => ?_) (fun z => absurd (show (0 : Int) = (0 : Int) by decide) z)
                show X 57 15 [vR 6, vI x1, vI x2, vI x3, vI x4, vJ 0] [vR 6] h _
                refine X_b 4 19 (L := L_57) rfl rfl rfl ?_
                show X 57 19 [vR 6, vI x1, vI x2, vI x3, vI x4, vJ 0] [vI 2] (ab_up h 6 0 2) _
                refine X_if (L := L_57) (n' := 22) rfl rfl rfl rfl (fun z => absurd z (show ¬ ((2 : Int) ≤ (0 : Int)) by decide)) (fun _ => ?_)
                show X 57 20 [vR 6, vI x1, vI x2, vI x3, vI x4, vJ 0] [] (ab_up h 6 0 2) _
                refine X_b 1 21 (L := L_57) rfl rfl rfl ?_
                show X 57 21 [vR 6, vI x1, vI x2, vI x3, vI x4, vJ 0] [vI 0] (ab_up h 6 0 2) _
                refine X_zret (L := L_57) rfl rfl rfl rfl (by decide) ?_
                exact H
              · have z8 : 4 ≤ x4 := (Int.not_lt.mp z8)
                replace H := H.2 z8
                show X 55 16 [vR 6, vI x2, vI x3, vI x4] [] h _
                refine X_b 2 18 (L := L_55) rfl rfl rfl ?_
                show X 55 18 [vR 6, vI x2, vI x3, vI x4] [vI 9, vI x4] h _
                refine X_icmp (L := L_55) (n' := 21) rfl rfl rfl rfl (fun z9 => ?_) (fun z9 => ?_)
                · have z9 : 9 < x4 := z9
                  replace H := H.1 z9
                  show X 55 21 [vR 6, vI x2, vI x3, vI x4] [] h _
                  refine X_b 1 22 (L := L_55) rfl rfl rfl ?_
                  show X 55 22 [vR 6, vI x2, vI x3, vI x4] [vI 0] h _
                  refine X_zret (L := L_55) rfl rfl rfl rfl (by decide) ?_
                  show X 57 12 [vR 6, vI x1, vI x2, vI x3, vI x4, vJ 0] [vI 0, vR 6] h _
                  refine X_if (L := L_57) (n' := 15) rfl rfl rfl rfl (fun _ => ?_) (fun z => absurd (show (0 : Int) = (0 : Int) by decide) z)
                  show X 57 15 [vR 6, vI x1, vI x2, vI x3, vI x4, vJ 0] [vR 6] h _
                  refine X_b 4 19 (L := L_57) rfl rfl rfl ?_
                  show X 57 19 [vR 6, vI x1, vI x2, vI x3, vI x4, vJ 0] [vI 2] (ab_up h 6 0 2) _
                  refine X_if (L := L_57) (n' := 22) rfl rfl rfl rfl (fun z => absurd z (show ¬ ((2 : Int) ≤ (0 : Int)) by decide)) (fun _ => ?_)
                  show X 57 20 [vR 6, vI x1, vI x2, vI x3, vI x4, vJ 0] [] (ab_up h 6 0 2) _
                  refine X_b 1 21 (L := L_57) rfl rfl rfl ?_
                  show X 57 21 [vR 6, vI x1, vI x2, vI x3, vI x4, vJ 0] [vI 0] (ab_up h 6 0 2) _
                  refine X_zret (L := L_57) rfl rfl rfl rfl (by decide) ?_
                  exact H
                · have z9 : x4 ≤ 9 := (Int.not_lt.mp z9)
                  replace H := H.2 z9
                  show X 55 19 [vR 6, vI x2, vI x3, vI x4] [] h _
                  obtain ⟨⟨c10, c11, c12, c13, c14, c15, c16⟩, H⟩ := H
                  refine X_b 1 20 (L := L_55) rfl rfl rfl ?_
                  show X 55 20 [vR 6, vI x2, vI x3, vI x4] [vI 1] h _
                  refine X_goto (L := L_55) (n' := 22) rfl rfl rfl rfl ?_
                  show X 55 22 [vR 6, vI x2, vI x3, vI x4] [vI 1] h _
                  refine X_zret (L := L_55) rfl rfl rfl rfl (by decide) ?_
                  show X 57 12 [vR 6, vI x1, vI x2, vI x3, vI x4, vJ 0] [vI 1, vR 6] h _
                  refine X_if (L := L_57) (n' := 15) rfl rfl rfl rfl (fun z => absurd z (show ¬ ((1 : Int) = (0 : Int)) by decide)) (fun _ => ?_)
                  show X 57 13 [vR 6, vI x1, vI x2, vI x3, vI x4, vJ 0] [vR 6] h _
                  refine X_b 1 14 (L := L_57) rfl rfl rfl ?_
                  show X 57 14 [vR 6, vI x1, vI x2, vI x3, vI x4, vJ 0] [vI 0, vR 6] h _
                  refine X_goto (L := L_57) (n' := 16) rfl rfl rfl rfl ?_
                  show X 57 16 [vR 6, vI x1, vI x2, vI x3, vI x4, vJ 0] [vI 0, vR 6] h _
                  refine X_b 3 19 (L := L_57) rfl rfl rfl ?_
                  show X 57 19 [vR 6, vI x1, vI x2, vI x3, vI x4, vJ 0] [vI 0] (ab_up h 6 0 0) _
                  refine X_if (L := L_57) (n' := 22) rfl rfl rfl rfl (fun _ => ?_) (fun z => absurd (show (0 : Int) ≤ (0 : Int) by decide) z)
                  show X 57 22 [vR 6, vI x1, vI x2, vI x3, vI x4, vJ 0] [] (ab_up h 6 0 0) _
                  refine X_b 6 28 (L := L_57) rfl rfl rfl ?_
                  show (-2147483648 ≤ 270 * x1 ∧ 270 * x1 ≤ 2147483647) ∧ X 57 28 [vR 6, vI x1, vI x2, vI x3, vI x4, vJ 0] [vI x4, vI x3, vI x2, vI (270 * x1)] (ab_up h 6 0 0) _
                  refine ⟨c10, ?_⟩
                  refine X_call 41 [vI x2, vI x3, vI x4] [vI (270 * x1)] rfl (sg_cals rfl rfl rfl rfl rfl rfl rfl rfl rfl rfl) (by decide) ?_
                  show X 41 0 [vI x2, vI x3, vI x4] [] (ab_up h 6 0 0) _
                  refine X_b 11 11 (L := L_41) rfl rfl rfl ?_
                  show (-2147483648 ≤ 30 * x2 ∧ 30 * x2 ≤ 2147483647) ∧ (-2147483648 ≤ 6 * x3 ∧ 6 * x3 ≤ 2147483647) ∧ (-2147483648 ≤ (30 * x2) + (6 * x3) ∧ (30 * x2) + (6 * x3) ≤ 2147483647) ∧ (-2147483648 ≤ ((30 * x2) + (6 * x3)) + x4 ∧ ((30 * x2) + (6 * x3)) + x4 ≤ 2147483647) ∧ (-2147483648 ≤ (((30 * x2) + (6 * x3)) + x4) - 4 ∧ (((30 * x2) + (6 * x3)) + x4) - 4 ≤ 2147483647) ∧ X 41 11 [vI x2, vI x3, vI x4] [vI ((((30 * x2) + (6 * x3)) + x4) - 4)] (ab_up h 6 0 0) _
                  refine ⟨c11, c12, c13, c14, c15, ?_⟩
                  refine X_iret (L := L_41) rfl rfl rfl rfl ?_
                  show X 57 29 [vR 6, vI x1, vI x2, vI x3, vI x4, vJ 0] [vI ((((30 * x2) + (6 * x3)) + x4) - 4), vI (270 * x1)] (ab_up h 6 0 0) _
                  refine X_b 9 38 (L := L_57) rfl rfl rfl ?_
                  show (-2147483648 ≤ (270 * x1) + ((((30 * x2) + (6 * x3)) + x4) - 4) ∧ (270 * x1) + ((((30 * x2) + (6 * x3)) + x4) - 4) ≤ 2147483647) ∧ (0 ≤ (270 * x1) + ((((30 * x2) + (6 * x3)) + x4) - 4) ∧ (270 * x1) + ((((30 * x2) + (6 * x3)) + x4) - 4) < 13500) ∧ X 57 38 [vR 6, vI x1, vI x2, vI x3, vI x4, vI ((270 * x1) + ((((30 * x2) + (6 * x3)) + x4) - 4))] [vI (h 25 ((270 * x1) + ((((30 * x2) + (6 * x3)) + x4) - 4))), vI ((270 * x1) + ((((30 * x2) + (6 * x3)) + x4) - 4)), vR 25] (ab_up h 6 0 0) _
                  refine ⟨by have := c16; omega, c16, ?_⟩
                  refine X_if (L := L_57) (n' := 41) rfl rfl rfl rfl (fun z17 => ?_) (fun z17 => ?_)
                  · have z17 : ¬ h 25 ((270 * x1) + ((((30 * x2) + (6 * x3)) + x4) - 4)) = 0 := z17
                    replace H := H.1 z17
                    show X 57 41 [vR 6, vI x1, vI x2, vI x3, vI x4, vI ((270 * x1) + ((((30 * x2) + (6 * x3)) + x4) - 4))] [vI ((270 * x1) + ((((30 * x2) + (6 * x3)) + x4) - 4)), vR 25] (ab_up h 6 0 0) _
                    obtain ⟨c18, H⟩ := H
                    refine X_b 6 47 (L := L_57) rfl rfl rfl ?_
                    show (0 ≤ (270 * x1) + ((((30 * x2) + (6 * x3)) + x4) - 4) ∧ (270 * x1) + ((((30 * x2) + (6 * x3)) + x4) - 4) < 13500) ∧ ((0 : Int) = 0 ∨ (0 : Int) = 1) ∧ (0 ≤ (270 * x1) + ((((30 * x2) + (6 * x3)) + x4) - 4) ∧ (270 * x1) + ((((30 * x2) + (6 * x3)) + x4) - 4) < 13500) ∧ X 57 47 [vR 6, vI x1, vI x2, vI x3, vI x4, vI ((270 * x1) + ((((30 * x2) + (6 * x3)) + x4) - 4))] [vI ((ab_up (ab_up h 6 0 0) 25 ((270 * x1) + ((((30 * x2) + (6 * x3)) + x4) - 4)) 0) 25 ((270 * x1) + ((((30 * x2) + (6 * x3)) + x4) - 4)))] (ab_up (ab_up h 6 0 0) 25 ((270 * x1) + ((((30 * x2) + (6 * x3)) + x4) - 4)) 0) _
                    refine ⟨c16, by decide, c16, ?_⟩
                    refine X_zret (L := L_57) rfl rfl rfl rfl c18 ?_
                    exact H
                  · have z17 : h 25 ((270 * x1) + ((((30 * x2) + (6 * x3)) + x4) - 4)) = 0 := (Classical.not_not.mp z17)
                    replace H := H.2 z17
                    show X 57 39 [vR 6, vI x1, vI x2, vI x3, vI x4, vI ((270 * x1) + ((((30 * x2) + (6 * x3)) + x4) - 4))] [vI ((270 * x1) + ((((30 * x2) + (6 * x3)) + x4) - 4)), vR 25] (ab_up h 6 0 0) _
                    obtain ⟨c19, H⟩ := H
                    refine X_b 1 40 (L := L_57) rfl rfl rfl ?_
                    show X 57 40 [vR 6, vI x1, vI x2, vI x3, vI x4, vI ((270 * x1) + ((((30 * x2) + (6 * x3)) + x4) - 4))] [vI 1, vI ((270 * x1) + ((((30 * x2) + (6 * x3)) + x4) - 4)), vR 25] (ab_up h 6 0 0) _
                    refine X_goto (L := L_57) (n' := 42) rfl rfl rfl rfl ?_
                    show X 57 42 [vR 6, vI x1, vI x2, vI x3, vI x4, vI ((270 * x1) + ((((30 * x2) + (6 * x3)) + x4) - 4))] [vI 1, vI ((270 * x1) + ((((30 * x2) + (6 * x3)) + x4) - 4)), vR 25] (ab_up h 6 0 0) _
                    refine X_b 5 47 (L := L_57) rfl rfl rfl ?_
                    show (0 ≤ (270 * x1) + ((((30 * x2) + (6 * x3)) + x4) - 4) ∧ (270 * x1) + ((((30 * x2) + (6 * x3)) + x4) - 4) < 13500) ∧ ((1 : Int) = 0 ∨ (1 : Int) = 1) ∧ (0 ≤ (270 * x1) + ((((30 * x2) + (6 * x3)) + x4) - 4) ∧ (270 * x1) + ((((30 * x2) + (6 * x3)) + x4) - 4) < 13500) ∧ X 57 47 [vR 6, vI x1, vI x2, vI x3, vI x4, vI ((270 * x1) + ((((30 * x2) + (6 * x3)) + x4) - 4))] [vI ((ab_up (ab_up h 6 0 0) 25 ((270 * x1) + ((((30 * x2) + (6 * x3)) + x4) - 4)) 1) 25 ((270 * x1) + ((((30 * x2) + (6 * x3)) + x4) - 4)))] (ab_up (ab_up h 6 0 0) 25 ((270 * x1) + ((((30 * x2) + (6 * x3)) + x4) - 4)) 1) _
                    refine ⟨c16, by decide, c16, ?_⟩
                    refine X_zret (L := L_57) rfl rfl rfl rfl c19 ?_
                    exact H

/-- PPModel.goes, row 0 -/
theorem s_58_0 (x1 x2 : Int) (h : ab_S) (K : ab_O → ab_S → Prop) (H : ((-2147483648 ≤ 10 * x1 ∧ 10 * x1 ≤ 2147483647) ∧ (0 ≤ (10 * x1) + x2 ∧ (10 * x1) + x2 < 500)) ∧ ((h 26 ((10 * x1) + x2) < 0 → K (oI 0) h) ∧ (0 ≤ h 26 ((10 * x1) + x2) → ((100 ≤ h 26 ((10 * x1) + x2) → K (oI 0) h) ∧ (h 26 ((10 * x1) + x2) < 100 → K (oI 1) h))))) : C 58 [vR 6, vI x1, vI x2] h K := by
  show X 58 0 [vR 6, vI x1, vI x2, vJ 0] [] h K
  obtain ⟨⟨c1, c2⟩, H⟩ := H
  refine X_b 10 10 (L := L_58) rfl rfl rfl ?_
  show (-2147483648 ≤ 10 * x1 ∧ 10 * x1 ≤ 2147483647) ∧ (-2147483648 ≤ (10 * x1) + x2 ∧ (10 * x1) + x2 ≤ 2147483647) ∧ (0 ≤ (10 * x1) + x2 ∧ (10 * x1) + x2 < 500) ∧ X 58 10 [vR 6, vI x1, vI x2, vI (h 26 ((10 * x1) + x2))] [vI (h 26 ((10 * x1) + x2))] h _
  refine ⟨c1, by have := c2; omega, c2, ?_⟩
  refine X_if (L := L_58) (n' := 16) rfl rfl rfl rfl (fun z3 => ?_) (fun z3 => ?_)
  · have z3 : h 26 ((10 * x1) + x2) < 0 := z3
    replace H := H.1 z3
    show X 58 16 [vR 6, vI x1, vI x2, vI (h 26 ((10 * x1) + x2))] [] h _
    refine X_b 1 17 (L := L_58) rfl rfl rfl ?_
    show X 58 17 [vR 6, vI x1, vI x2, vI (h 26 ((10 * x1) + x2))] [vI 0] h _
    refine X_zret (L := L_58) rfl rfl rfl rfl (by decide) ?_
    exact H
  · have z3 : 0 ≤ h 26 ((10 * x1) + x2) := (Int.not_lt.mp z3)
    replace H := H.2 z3
    show X 58 11 [vR 6, vI x1, vI x2, vI (h 26 ((10 * x1) + x2))] [] h _
    refine X_b 2 13 (L := L_58) rfl rfl rfl ?_
    show X 58 13 [vR 6, vI x1, vI x2, vI (h 26 ((10 * x1) + x2))] [vI 100, vI (h 26 ((10 * x1) + x2))] h _
    refine X_icmp (L := L_58) (n' := 16) rfl rfl rfl rfl (fun z4 => ?_) (fun z4 => ?_)
    · have z4 : 100 ≤ h 26 ((10 * x1) + x2) := z4
      replace H := H.1 z4
      show X 58 16 [vR 6, vI x1, vI x2, vI (h 26 ((10 * x1) + x2))] [] h _
      refine X_b 1 17 (L := L_58) rfl rfl rfl ?_
      show X 58 17 [vR 6, vI x1, vI x2, vI (h 26 ((10 * x1) + x2))] [vI 0] h _
      refine X_zret (L := L_58) rfl rfl rfl rfl (by decide) ?_
      exact H
    · have z4 : h 26 ((10 * x1) + x2) < 100 := (Int.not_le.mp z4)
      replace H := H.2 z4
      show X 58 14 [vR 6, vI x1, vI x2, vI (h 26 ((10 * x1) + x2))] [] h _
      refine X_b 1 15 (L := L_58) rfl rfl rfl ?_
      show X 58 15 [vR 6, vI x1, vI x2, vI (h 26 ((10 * x1) + x2))] [vI 1] h _
      refine X_goto (L := L_58) (n' := 17) rfl rfl rfl rfl ?_
      show X 58 17 [vR 6, vI x1, vI x2, vI (h 26 ((10 * x1) + x2))] [vI 1] h _
      refine X_zret (L := L_58) rfl rfl rfl rfl (by decide) ?_
      exact H

/-- PPModel.isAnswered, row 0 -/
theorem s_59_0 (x1 x2 x3 x4 : Int) (h : ab_S) (K : ab_O → ab_S → Prop) (H : X 59 4 [vR 6, vI x1, vI x2, vI x3, vI x4, vI 1, vI 0, vJ 0] [] h K) : C 59 [vR 6, vI x1, vI x2, vI x3, vI x4] h K := by
  show X 59 0 [vR 6, vI x1, vI x2, vI x3, vI x4, vJ 0, vJ 0, vJ 0] [] h K
  refine X_b 4 4 (L := L_59) rfl rfl rfl ?_
  show X 59 4 [vR 6, vI x1, vI x2, vI x3, vI x4, vI 1, vI 0, vJ 0] [] h _
  exact H

/-- PPModel.isAnswered, row 4 -/
theorem s_59_4 (x1 x2 x3 x4 x5 x6 : Int) (w7 : ab_V) (h : ab_S) (K : ab_O → ab_S → Prop) (H : ((h 6 1 ≤ x6 → ((x5 = 0 ∨ x5 = 1)) ∧ K (oI x5) h) ∧ (x6 < h 6 1 → X 59 10 [vR 6, vI x1, vI x2, vI x3, vI x4, vI x5, vI x6, vI 4] [] h K))) : X 59 4 [vR 6, vI x1, vI x2, vI x3, vI x4, vI x5, vI x6, w7] [] h K := by
  refine X_b 3 7 (L := L_59) rfl rfl rfl ?_
  show X 59 7 [vR 6, vI x1, vI x2, vI x3, vI x4, vI x5, vI x6, w7] [vI (h 6 1), vI x6] h _
  refine X_icmp (L := L_59) (n' := 48) rfl rfl rfl rfl (fun z1 => ?_) (fun z1 => ?_)
  · have z1 : h 6 1 ≤ x6 := z1
    replace H := H.1 z1
    show X 59 48 [vR 6, vI x1, vI x2, vI x3, vI x4, vI x5, vI x6, w7] [] h _
    obtain ⟨c2, H⟩ := H
    refine X_b 1 49 (L := L_59) rfl rfl rfl ?_
    show X 59 49 [vR 6, vI x1, vI x2, vI x3, vI x4, vI x5, vI x6, w7] [vI x5] h _
    refine X_zret (L := L_59) rfl rfl rfl rfl c2 ?_
    exact H
  · have z1 : x6 < h 6 1 := (Int.not_le.mp z1)
    replace H := H.2 z1
    show X 59 8 [vR 6, vI x1, vI x2, vI x3, vI x4, vI x5, vI x6, w7] [] h _
    refine X_b 2 10 (L := L_59) rfl rfl rfl ?_
    show X 59 10 [vR 6, vI x1, vI x2, vI x3, vI x4, vI x5, vI x6, vI 4] [] h _
    exact H

/-- PPModel.isAnswered, row 10 -/
theorem s_59_10 (x1 x2 x3 x4 x5 x6 x7 : Int) (h : ab_S) (K : ab_O → ab_S → Prop) (H : ((9 < x7 → ((-2147483648 ≤ x6 + 1 ∧ x6 + 1 ≤ 2147483647)) ∧ X 59 4 [vR 6, vI x1, vI x2, vI x3, vI x4, vI x5, vI (x6 + 1), vI x7] [] h K) ∧ (x7 ≤ 9 → ((0 ≤ x6 ∧ x6 < 8) ∧ (0 ≤ x2 ∧ (x2 = h 6 1 ∨ (x2 < 8 ∧ h 21 x2 ≤ 4)) ∧ 0 ≤ x3)) ∧ ((¬ h 20 x6 = nxt h x2 x3 → ((-2147483648 ≤ x6 + 1 ∧ x6 + 1 ≤ 2147483647)) ∧ X 59 4 [vR 6, vI x1, vI x2, vI x3, vI x4, vI x5, vI (x6 + 1), vI x7] [] h K) ∧ (h 20 x6 = nxt h x2 x3 → ((x5 = 0 → ((-2147483648 ≤ x7 + 1 ∧ x7 + 1 ≤ 2147483647)) ∧ X 59 10 [vR 6, vI x1, vI x2, vI x3, vI x4, vI 0, vI x6, vI (x7 + 1)] [] h K) ∧ (¬ x5 = 0 → ((-2147483648 ≤ x3 + 1 ∧ x3 + 1 ≤ 2147483647)) ∧ C 40 [vR 6, vI x7, vI x2, vI (x3 + 1), vI x4] h (kI (fun v10 h10 => ((v10 = 0 → ((-2147483648 ≤ x7 + 1 ∧ x7 + 1 ≤ 2147483647)) ∧ X 59 10 [vR 6, vI x1, vI x2, vI x3, vI x4, vI 1, vI x6, vI (x7 + 1)] [] h10 K) ∧ (¬ v10 = 0 → ((-2147483648 ≤ 270 * x1 ∧ 270 * x1 ≤ 2147483647) ∧ (-2147483648 ≤ 30 * x6 ∧ 30 * x6 ≤ 2147483647) ∧ (-2147483648 ≤ (30 * x6) + 0 ∧ (30 * x6) + 0 ≤ 2147483647) ∧ (-2147483648 ≤ ((30 * x6) + 0) + x7 ∧ ((30 * x6) + 0) + x7 ≤ 2147483647) ∧ (-2147483648 ≤ (((30 * x6) + 0) + x7) - 4 ∧ (((30 * x6) + 0) + x7) - 4 ≤ 2147483647) ∧ (0 ≤ (270 * x1) + ((((30 * x6) + 0) + x7) - 4) ∧ (270 * x1) + ((((30 * x6) + 0) + x7) - 4) < 13500) ∧ (h10 25 ((270 * x1) + ((((30 * x6) + 0) + x7) - 4)) = 0 ∨ h10 25 ((270 * x1) + ((((30 * x6) + 0) + x7) - 4)) = 1)) ∧ ((h10 25 ((270 * x1) + ((((30 * x6) + 0) + x7) - 4)) = 0 → ((-2147483648 ≤ x7 + 1 ∧ x7 + 1 ≤ 2147483647)) ∧ X 59 10 [vR 6, vI x1, vI x2, vI x3, vI x4, vI 0, vI x6, vI (x7 + 1)] [] h10 K) ∧ (¬ h10 25 ((270 * x1) + ((((30 * x6) + 0) + x7) - 4)) = 0 → ((-2147483648 ≤ x7 + 1 ∧ x7 + 1 ≤ 2147483647)) ∧ X 59 10 [vR 6, vI x1, vI x2, vI x3, vI x4, vI 1, vI x6, vI (x7 + 1)] [] h10 K))))))))))))) : X 59 10 [vR 6, vI x1, vI x2, vI x3, vI x4, vI x5, vI x6, vI x7] [] h K := by
  refine X_b 2 12 (L := L_59) rfl rfl rfl ?_
  show X 59 12 [vR 6, vI x1, vI x2, vI x3, vI x4, vI x5, vI x6, vI x7] [vI 9, vI x7] h _
  refine X_icmp (L := L_59) (n' := 46) rfl rfl rfl rfl (fun z1 => ?_) (fun z1 => ?_)
  · have z1 : 9 < x7 := z1
    replace H := H.1 z1
    show X 59 46 [vR 6, vI x1, vI x2, vI x3, vI x4, vI x5, vI x6, vI x7] [] h _
    obtain ⟨c2, H⟩ := H
    refine X_b 1 47 (L := L_59) rfl rfl rfl ?_
    show (-2147483648 ≤ x6 + 1 ∧ x6 + 1 ≤ 2147483647) ∧ X 59 47 [vR 6, vI x1, vI x2, vI x3, vI x4, vI x5, vI (x6 + 1), vI x7] [] h _
    refine ⟨c2, ?_⟩
    refine X_goto (L := L_59) (n' := 4) rfl rfl rfl rfl ?_
    show X 59 4 [vR 6, vI x1, vI x2, vI x3, vI x4, vI x5, vI (x6 + 1), vI x7] [] h _
    exact H
  · have z1 : x7 ≤ 9 := (Int.not_lt.mp z1)
    replace H := H.2 z1
    show X 59 13 [vR 6, vI x1, vI x2, vI x3, vI x4, vI x5, vI x6, vI x7] [] h _
    obtain ⟨⟨c3, c4⟩, H⟩ := H
    refine X_b 7 20 (L := L_59) rfl rfl rfl ?_
    show (0 ≤ x6 ∧ x6 < 8) ∧ X 59 20 [vR 6, vI x1, vI x2, vI x3, vI x4, vI x5, vI x6, vI x7] [vI x3, vI x2, vR 6, vI (h 20 x6)] h _
    refine ⟨c3, ?_⟩
    refine X_call 36 [vR 6, vI x2, vI x3] [vI (h 20 x6)] rfl (sg_calv rfl rfl rfl rfl rfl rfl rfl rfl rfl rfl rfl) (by decide) ?_
    refine f_next c4 ?_
    show X 59 21 [vR 6, vI x1, vI x2, vI x3, vI x4, vI x5, vI x6, vI x7] [vI (nxt h x2 x3), vI (h 20 x6)] h _
    refine X_icmp (L := L_59) (n' := 46) rfl rfl rfl rfl (fun z5 => ?_) (fun z5 => ?_)
    · have z5 : ¬ h 20 x6 = nxt h x2 x3 := z5
      replace H := H.1 z5
      show X 59 46 [vR 6, vI x1, vI x2, vI x3, vI x4, vI x5, vI x6, vI x7] [] h _
      obtain ⟨c6, H⟩ := H
      refine X_b 1 47 (L := L_59) rfl rfl rfl ?_
      show (-2147483648 ≤ x6 + 1 ∧ x6 + 1 ≤ 2147483647) ∧ X 59 47 [vR 6, vI x1, vI x2, vI x3, vI x4, vI x5, vI (x6 + 1), vI x7] [] h _
      refine ⟨c6, ?_⟩
      refine X_goto (L := L_59) (n' := 4) rfl rfl rfl rfl ?_
      show X 59 4 [vR 6, vI x1, vI x2, vI x3, vI x4, vI x5, vI (x6 + 1), vI x7] [] h _
      exact H
    · have z5 : h 20 x6 = nxt h x2 x3 := (Classical.not_not.mp z5)
      replace H := H.2 z5
      show X 59 22 [vR 6, vI x1, vI x2, vI x3, vI x4, vI x5, vI x6, vI x7] [] h _
      refine X_b 1 23 (L := L_59) rfl rfl rfl ?_
      show X 59 23 [vR 6, vI x1, vI x2, vI x3, vI x4, vI x5, vI x6, vI x7] [vI x5] h _
      refine X_if (L := L_59) (n' := 42) rfl rfl rfl rfl (fun z7 => ?_) (fun z7 => ?_)
      · have z7 : x5 = 0 := z7
        replace H := H.1 z7
        show X 59 42 [vR 6, vI x1, vI x2, vI x3, vI x4, vI x5, vI x6, vI x7] [] h _
        obtain ⟨c8, H⟩ := H
        refine X_b 3 45 (L := L_59) rfl rfl rfl ?_
        show (-2147483648 ≤ x7 + 1 ∧ x7 + 1 ≤ 2147483647) ∧ X 59 45 [vR 6, vI x1, vI x2, vI x3, vI x4, vI 0, vI x6, vI (x7 + 1)] [] h _
        refine ⟨c8, ?_⟩
        refine X_goto (L := L_59) (n' := 10) rfl rfl rfl rfl ?_
        show X 59 10 [vR 6, vI x1, vI x2, vI x3, vI x4, vI 0, vI x6, vI (x7 + 1)] [] h _
        exact H
      · have z7 : ¬ x5 = 0 := z7
        replace H := H.2 z7
        show X 59 24 [vR 6, vI x1, vI x2, vI x3, vI x4, vI x5, vI x6, vI x7] [] h _
        obtain ⟨c9, H⟩ := H
        refine X_b 7 31 (L := L_59) rfl rfl rfl ?_
        show (-2147483648 ≤ x3 + 1 ∧ x3 + 1 ≤ 2147483647) ∧ X 59 31 [vR 6, vI x1, vI x2, vI x3, vI x4, vI x5, vI x6, vI x7] [vI x4, vI (x3 + 1), vI x2, vI x7, vR 6] h _
        refine ⟨c9, ?_⟩
        refine X_call 40 [vR 6, vI x7, vI x2, vI (x3 + 1), vI x4] [] rfl (sg_calv rfl rfl rfl rfl rfl rfl rfl rfl rfl rfl rfl) (by decide) ?_
        refine C_mono H (kI_to ?_)
        intro v10 h10 H
        show X 59 32 [vR 6, vI x1, vI x2, vI x3, vI x4, vI x5, vI x6, vI x7] [vI v10] h10 _
        refine X_if (L := L_59) (n' := 40) rfl rfl rfl rfl (fun z11 => ?_) (fun z11 => ?_)
        · have z11 : v10 = 0 := z11
          replace H := H.1 z11
          show X 59 40 [vR 6, vI x1, vI x2, vI x3, vI x4, vI x5, vI x6, vI x7] [] h10 _
          obtain ⟨c12, H⟩ := H
          refine X_b 1 41 (L := L_59) rfl rfl rfl ?_
          show X 59 41 [vR 6, vI x1, vI x2, vI x3, vI x4, vI x5, vI x6, vI x7] [vI 1] h10 _
          refine X_goto (L := L_59) (n' := 43) rfl rfl rfl rfl ?_
          show X 59 43 [vR 6, vI x1, vI x2, vI x3, vI x4, vI x5, vI x6, vI x7] [vI 1] h10 _
          refine X_b 2 45 (L := L_59) rfl rfl rfl ?_
          show (-2147483648 ≤ x7 + 1 ∧ x7 + 1 ≤ 2147483647) ∧ X 59 45 [vR 6, vI x1, vI x2, vI x3, vI x4, vI 1, vI x6, vI (x7 + 1)] [] h10 _
          refine ⟨c12, ?_⟩
          refine X_goto (L := L_59) (n' := 10) rfl rfl rfl rfl ?_
          show X 59 10 [vR 6, vI x1, vI x2, vI x3, vI x4, vI 1, vI x6, vI (x7 + 1)] [] h10 _
          exact H
        · have z11 : ¬ v10 = 0 := z11
          replace H := H.2 z11
          show X 59 33 [vR 6, vI x1, vI x2, vI x3, vI x4, vI x5, vI x6, vI x7] [] h10 _
          obtain ⟨⟨c13, c14, c15, c16, c17, c18, c19⟩, H⟩ := H
          refine X_b 5 38 (L := L_59) rfl rfl rfl ?_
          show X 59 38 [vR 6, vI x1, vI x2, vI x3, vI x4, vI x5, vI x6, vI x7] [vI x7, vI 0, vI x6, vI x1, vR 6] h10 _
          refine X_call 42 [vR 6, vI x1, vI x6, vI 0, vI x7] [] rfl (sg_calv rfl rfl rfl rfl rfl rfl rfl rfl rfl rfl rfl) (by decide) ?_
          show X 42 0 [vR 6, vI x1, vI x6, vI 0, vI x7] [] h10 _
          refine X_b 8 8 (L := L_42) rfl rfl rfl ?_
          show (-2147483648 ≤ 270 * x1 ∧ 270 * x1 ≤ 2147483647) ∧ X 42 8 [vR 6, vI x1, vI x6, vI 0, vI x7] [vI x7, vI 0, vI x6, vI (270 * x1), vR 25] h10 _
          refine ⟨c13, ?_⟩
          refine X_call 41 [vI x6, vI 0, vI x7] [vI (270 * x1), vR 25] rfl (sg_cals rfl rfl rfl rfl rfl rfl rfl rfl rfl rfl) (by decide) ?_
          show X 41 0 [vI x6, vI 0, vI x7] [] h10 _
          refine X_b 11 11 (L := L_41) rfl rfl rfl ?_
          show (-2147483648 ≤ 30 * x6 ∧ 30 * x6 ≤ 2147483647) ∧ (-2147483648 ≤ (0 : Int) ∧ (0 : Int) ≤ 2147483647) ∧ (-2147483648 ≤ (30 * x6) + 0 ∧ (30 * x6) + 0 ≤ 2147483647) ∧ (-2147483648 ≤ ((30 * x6) + 0) + x7 ∧ ((30 * x6) + 0) + x7 ≤ 2147483647) ∧ (-2147483648 ≤ (((30 * x6) + 0) + x7) - 4 ∧ (((30 * x6) + 0) + x7) - 4 ≤ 2147483647) ∧ X 41 11 [vI x6, vI 0, vI x7] [vI ((((30 * x6) + 0) + x7) - 4)] h10 _
          refine ⟨c14, by decide, c15, c16, c17, ?_⟩
          refine X_iret (L := L_41) rfl rfl rfl rfl ?_
          show X 42 9 [vR 6, vI x1, vI x6, vI 0, vI x7] [vI ((((30 * x6) + 0) + x7) - 4), vI (270 * x1), vR 25] h10 _
          refine X_b 2 11 (L := L_42) rfl rfl rfl ?_
          show (-2147483648 ≤ (270 * x1) + ((((30 * x6) + 0) + x7) - 4) ∧ (270 * x1) + ((((30 * x6) + 0) + x7) - 4) ≤ 2147483647) ∧ (0 ≤ (270 * x1) + ((((30 * x6) + 0) + x7) - 4) ∧ (270 * x1) + ((((30 * x6) + 0) + x7) - 4) < 13500) ∧ X 42 11 [vR 6, vI x1, vI x6, vI 0, vI x7] [vI (h10 25 ((270 * x1) + ((((30 * x6) + 0) + x7) - 4)))] h10 _
          refine ⟨by have := c18; omega, c18, ?_⟩
          refine X_zret (L := L_42) rfl rfl rfl rfl c19 ?_
          show X 59 39 [vR 6, vI x1, vI x2, vI x3, vI x4, vI x5, vI x6, vI x7] [vI (h10 25 ((270 * x1) + ((((30 * x6) + 0) + x7) - 4)))] h10 _
          refine X_if (L := L_59) (n' := 42) rfl rfl rfl rfl (fun z20 => ?_) (fun z20 => ?_)
          · have z20 : h10 25 ((270 * x1) + ((((30 * x6) + 0) + x7) - 4)) = 0 := z20
            replace H := H.1 z20
            show X 59 42 [vR 6, vI x1, vI x2, vI x3, vI x4, vI x5, vI x6, vI x7] [] h10 _
            obtain ⟨c21, H⟩ := H
            refine X_b 3 45 (L := L_59) rfl rfl rfl ?_
            show (-2147483648 ≤ x7 + 1 ∧ x7 + 1 ≤ 2147483647) ∧ X 59 45 [vR 6, vI x1, vI x2, vI x3, vI x4, vI 0, vI x6, vI (x7 + 1)] [] h10 _
            refine ⟨c21, ?_⟩
            refine X_goto (L := L_59) (n' := 10) rfl rfl rfl rfl ?_
            show X 59 10 [vR 6, vI x1, vI x2, vI x3, vI x4, vI 0, vI x6, vI (x7 + 1)] [] h10 _
            exact H
          · have z20 : ¬ h10 25 ((270 * x1) + ((((30 * x6) + 0) + x7) - 4)) = 0 := z20
            replace H := H.2 z20
            show X 59 40 [vR 6, vI x1, vI x2, vI x3, vI x4, vI x5, vI x6, vI x7] [] h10 _
            obtain ⟨c22, H⟩ := H
            refine X_b 1 41 (L := L_59) rfl rfl rfl ?_
            show X 59 41 [vR 6, vI x1, vI x2, vI x3, vI x4, vI x5, vI x6, vI x7] [vI 1] h10 _
            refine X_goto (L := L_59) (n' := 43) rfl rfl rfl rfl ?_
            show X 59 43 [vR 6, vI x1, vI x2, vI x3, vI x4, vI x5, vI x6, vI x7] [vI 1] h10 _
            refine X_b 2 45 (L := L_59) rfl rfl rfl ?_
            show (-2147483648 ≤ x7 + 1 ∧ x7 + 1 ≤ 2147483647) ∧ X 59 45 [vR 6, vI x1, vI x2, vI x3, vI x4, vI 1, vI x6, vI (x7 + 1)] [] h10 _
            refine ⟨c22, ?_⟩
            refine X_goto (L := L_59) (n' := 10) rfl rfl rfl rfl ?_
            show X 59 10 [vR 6, vI x1, vI x2, vI x3, vI x4, vI 1, vI x6, vI (x7 + 1)] [] h10 _
            exact H

set_option maxRecDepth 8192 in
/-- PPModel.isBad, row 0 -/
theorem s_60_0 (x1 x2 x3 x4 x5 : Int) (h : ab_S) (K : ab_O → ab_S → Prop) (H : ((0 ≤ x3 ∧ (x3 = h 6 1 ∨ (x3 < 8 ∧ h 21 x3 ≤ 4)) ∧ 0 ≤ x4)) ∧ ((¬ x3 = h 6 1 → ((¬ x1 = 1 → ((¬ x1 = 4 → ((¬ x1 = 6 → ((¬ x1 = 7 → ((¬ nxt h x3 x4 = (-1) → K (oI 0) h) ∧ (nxt h x3 x4 = (-1) → ((-2147483648 ≤ 10 * x2 ∧ 10 * x2 ≤ 2147483647) ∧ (0 ≤ (10 * x2) + x5 ∧ (10 * x2) + x5 < 500) ∧ (-2147483648 ≤ 100 + x3 ∧ 100 + x3 ≤ 2147483647)) ∧ ((h 26 ((10 * x2) + x5) = 100 + x3 → K (oI 0) h) ∧ (¬ h 26 ((10 * x2) + x5) = 100 + x3 → K (oI 1) h))))) ∧ (x1 = 7 → ((nxt h x3 x4 = (-1) → K (oI 0) h) ∧ (¬ nxt h x3 x4 = (-1) → ((-2147483648 ≤ 10 * x2 ∧ 10 * x2 ≤ 2147483647) ∧ (0 ≤ (10 * x2) + (nxt h x3 x4) ∧ (10 * x2) + (nxt h x3 x4) < 500)) ∧ ((h 26 ((10 * x2) + (nxt h x3 x4)) < 0 → K (oI 1) h) ∧ (0 ≤ h 26 ((10 * x2) + (nxt h x3 x4)) → ((100 ≤ h 26 ((10 * x2) + (nxt h x3 x4)) → K (oI 1) h) ∧ (h 26 ((10 * x2) + (nxt h x3 x4)) < 100 → ((-2147483648 ≤ x4 + 1 ∧ x4 + 1 ≤ 2147483647) ∧ (-2147483648 ≤ 270 * (h 26 ((10 * x2) + (nxt h x3 x4))) ∧ 270 * (h 26 ((10 * x2) + (nxt h x3 x4))) ≤ 2147483647) ∧ (-2147483648 ≤ 30 * x3 ∧ 30 * x3 ≤ 2147483647) ∧ (-2147483648 ≤ 6 * (x4 + 1) ∧ 6 * (x4 + 1) ≤ 2147483647) ∧ (-2147483648 ≤ (30 * x3) + (6 * (x4 + 1)) ∧ (30 * x3) + (6 * (x4 + 1)) ≤ 2147483647) ∧ (-2147483648 ≤ ((30 * x3) + (6 * (x4 + 1))) + x5 ∧ ((30 * x3) + (6 * (x4 + 1))) + x5 ≤ 2147483647) ∧ (-2147483648 ≤ (((30 * x3) + (6 * (x4 + 1))) + x5) - 4 ∧ (((30 * x3) + (6 * (x4 + 1))) + x5) - 4 ≤ 2147483647) ∧ (0 ≤ (270 * (h 26 ((10 * x2) + (nxt h x3 x4)))) + ((((30 * x3) + (6 * (x4 + 1))) + x5) - 4) ∧ (270 * (h 26 ((10 * x2) + (nxt h x3 x4)))) + ((((30 * x3) + (6 * (x4 + 1))) + x5) - 4) < 13500) ∧ (h 25 ((270 * (h 26 ((10 * x2) + (nxt h x3 x4)))) + ((((30 * x3) + (6 * (x4 + 1))) + x5) - 4)) = 0 ∨ h 25 ((270 * (h 26 ((10 * x2) + (nxt h x3 x4)))) + ((((30 * x3) + (6 * (x4 + 1))) + x5) - 4)) = 1)) ∧ ((¬ h 25 ((270 * (h 26 ((10 * x2) + (nxt h x3 x4)))) + ((((30 * x3) + (6 * (x4 + 1))) + x5) - 4)) = 0 → K (oI 0) h) ∧ (h 25 ((270 * (h 26 ((10 * x2) + (nxt h x3 x4)))) + ((((30 * x3) + (6 * (x4 + 1))) + x5) - 4)) = 0 → K (oI 1) h))))))))))) ∧ (x1 = 6 → ((nxt h x3 x4 = (-1) → K (oI 0) h) ∧ (¬ nxt h x3 x4 = (-1) → ((4 ≤ nxt h x3 x4 → K (oI 0) h) ∧ (nxt h x3 x4 < 4 → C 59 [vR 6, vI x2, vI x3, vI x4, vI x5] h (kI (fun v29 h29 => ((¬ v29 = 0 → K (oI 0) h29) ∧ (v29 = 0 → K (oI 1) h29))))))))))) ∧ (x1 = 4 → ((¬ x4 = 0 → K (oI 0) h) ∧ (x4 = 0 → ((0 ≤ x3 ∧ x3 < 8) ∧ (-2147483648 ≤ 10 * x2 ∧ 10 * x2 ≤ 2147483647) ∧ (0 ≤ (10 * x2) + (h 20 x3) ∧ (10 * x2) + (h 20 x3) < 500)) ∧ ((h 26 ((10 * x2) + (h 20 x3)) < 0 → K (oI 1) h) ∧ (0 ≤ h 26 ((10 * x2) + (h 20 x3)) → ((100 ≤ h 26 ((10 * x2) + (h 20 x3)) → K (oI 1) h) ∧ (h 26 ((10 * x2) + (h 20 x3)) < 100 → K (oI 0) h))))))))) ∧ (x1 = 1 → ((¬ x2 = 0 → K (oI 0) h) ∧ (x2 = 0 → ((x4 ≤ 0 → K (oI 0) h) ∧ (0 < x4 → K (oI 1) h))))))) ∧ (x3 = h 6 1 → ((¬ x1 = 1 → ((¬ x1 = 4 → ((¬ x1 = 6 → ((¬ x1 = 7 → ((¬ nxt h x3 x4 = (-1) → K (oI 0) h) ∧ (nxt h x3 x4 = (-1) → ((-2147483648 ≤ 10 * x2 ∧ 10 * x2 ≤ 2147483647) ∧ (0 ≤ (10 * x2) + x5 ∧ (10 * x2) + x5 < 500)) ∧ ((h 26 ((10 * x2) + x5) = 200 → K (oI 0) h) ∧ (¬ h 26 ((10 * x2) + x5) = 200 → K (oI 1) h))))) ∧ (x1 = 7 → ((nxt h x3 x4 = (-1) → K (oI 0) h) ∧ (¬ nxt h x3 x4 = (-1) → ((-2147483648 ≤ 10 * x2 ∧ 10 * x2 ≤ 2147483647) ∧ (0 ≤ (10 * x2) + (nxt h x3 x4) ∧ (10 * x2) + (nxt h x3 x4) < 500)) ∧ ((h 26 ((10 * x2) + (nxt h x3 x4)) < 0 → K (oI 1) h) ∧ (0 ≤ h 26 ((10 * x2) + (nxt h x3 x4)) → ((100 ≤ h 26 ((10 * x2) + (nxt h x3 x4)) → K (oI 1) h) ∧ (h 26 ((10 * x2) + (nxt h x3 x4)) < 100 → ((-2147483648 ≤ x4 + 1 ∧ x4 + 1 ≤ 2147483647) ∧ (-2147483648 ≤ 270 * (h 26 ((10 * x2) + (nxt h x3 x4))) ∧ 270 * (h 26 ((10 * x2) + (nxt h x3 x4))) ≤ 2147483647) ∧ (-2147483648 ≤ 30 * x3 ∧ 30 * x3 ≤ 2147483647) ∧ (-2147483648 ≤ 6 * (x4 + 1) ∧ 6 * (x4 + 1) ≤ 2147483647) ∧ (-2147483648 ≤ (30 * x3) + (6 * (x4 + 1)) ∧ (30 * x3) + (6 * (x4 + 1)) ≤ 2147483647) ∧ (-2147483648 ≤ ((30 * x3) + (6 * (x4 + 1))) + x5 ∧ ((30 * x3) + (6 * (x4 + 1))) + x5 ≤ 2147483647) ∧ (-2147483648 ≤ (((30 * x3) + (6 * (x4 + 1))) + x5) - 4 ∧ (((30 * x3) + (6 * (x4 + 1))) + x5) - 4 ≤ 2147483647) ∧ (0 ≤ (270 * (h 26 ((10 * x2) + (nxt h x3 x4)))) + ((((30 * x3) + (6 * (x4 + 1))) + x5) - 4) ∧ (270 * (h 26 ((10 * x2) + (nxt h x3 x4)))) + ((((30 * x3) + (6 * (x4 + 1))) + x5) - 4) < 13500) ∧ (h 25 ((270 * (h 26 ((10 * x2) + (nxt h x3 x4)))) + ((((30 * x3) + (6 * (x4 + 1))) + x5) - 4)) = 0 ∨ h 25 ((270 * (h 26 ((10 * x2) + (nxt h x3 x4)))) + ((((30 * x3) + (6 * (x4 + 1))) + x5) - 4)) = 1)) ∧ ((¬ h 25 ((270 * (h 26 ((10 * x2) + (nxt h x3 x4)))) + ((((30 * x3) + (6 * (x4 + 1))) + x5) - 4)) = 0 → K (oI 0) h) ∧ (h 25 ((270 * (h 26 ((10 * x2) + (nxt h x3 x4)))) + ((((30 * x3) + (6 * (x4 + 1))) + x5) - 4)) = 0 → K (oI 1) h))))))))))) ∧ (x1 = 6 → ((nxt h x3 x4 = (-1) → K (oI 0) h) ∧ (¬ nxt h x3 x4 = (-1) → ((4 ≤ nxt h x3 x4 → K (oI 0) h) ∧ (nxt h x3 x4 < 4 → C 59 [vR 6, vI x2, vI x3, vI x4, vI x5] h (kI (fun v64 h64 => ((¬ v64 = 0 → K (oI 0) h64) ∧ (v64 = 0 → K (oI 1) h64))))))))))) ∧ (x1 = 4 → K (oI 0) h))) ∧ (x1 = 1 → ((¬ x2 = 0 → ((¬ x4 = 0 → K (oI 0) h) ∧ (x4 = 0 → K (oI 1) h))) ∧ (x2 = 0 → ((x4 ≤ 0 → K (oI 0) h) ∧ (0 < x4 → K (oI 1) h))))))))) : C 60 [vR 6, vI x1, vI x2, vI x3, vI x4, vI x5] h K := by
  show X 60 0 [vR 6, vI x1, vI x2, vI x3, vI x4, vI x5, vJ 0, vJ 0] [] h K
  obtain ⟨c1, H⟩ := H
  refine X_b 3 3 (L := L_60) rfl rfl rfl ?_
  show X 60 3 [vR 6, vI x1, vI x2, vI x3, vI x4, vI x5, vJ 0, vJ 0] [vI x4, vI x3, vR 6] h _
  refine X_call 36 [vR 6, vI x3, vI x4] [] rfl (sg_calv rfl rfl rfl rfl rfl rfl rfl rfl rfl rfl rfl) (by decide) ?_
  refine f_next c1 ?_
  show X 60 4 [vR 6, vI x1, vI x2, vI x3, vI x4, vI x5, vJ 0, vJ 0] [vI (nxt h x3 x4)] h _
  refine X_b 4 8 (L := L_60) rfl rfl rfl ?_
  show X 60 8 [vR 6, vI x1, vI x2, vI x3, vI x4, vI x5, vI (nxt h x3 x4), vJ 0] [vI (h 6 1), vI x3] h _
  refine X_icmp (L := L_60) (n' := 11) rfl rfl rfl rfl (fun z2 => ?_) (fun z2 => ?_)
  · have z2 : ¬ x3 = h 6 1 := z2
    replace H := H.1 z2
    show X 60 11 [vR 6, vI x1, vI x2, vI x3, vI x4, vI x5, vI (nxt h x3 x4), vJ 0] [] h _
    refine X_b 4 15 (L := L_60) rfl rfl rfl ?_
    show X 60 15 [vR 6, vI x1, vI x2, vI x3, vI x4, vI x5, vI (nxt h x3 x4), vI 0] [vI 1, vI x1] h _
    refine X_icmp (L := L_60) (n' := 32) rfl rfl rfl rfl (fun z3 => ?_) (fun z3 => ?_)
    · have z3 : ¬ x1 = 1 := z3
      replace H := H.1 z3
      show X 60 32 [vR 6, vI x1, vI x2, vI x3, vI x4, vI x5, vI (nxt h x3 x4), vI 0] [] h _
      refine X_b 2 34 (L := L_60) rfl rfl rfl ?_
      show X 60 34 [vR 6, vI x1, vI x2, vI x3, vI x4, vI x5, vI (nxt h x3 x4), vI 0] [vI 4, vI x1] h _
      refine X_icmp (L := L_60) (n' := 51) rfl rfl rfl rfl (fun z4 => ?_) (fun z4 => ?_)
      · have z4 : ¬ x1 = 4 := z4
        replace H := H.1 z4
        show X 60 51 [vR 6, vI x1, vI x2, vI x3, vI x4, vI x5, vI (nxt h x3 x4), vI 0] [] h _
        refine X_b 2 53 (L := L_60) rfl rfl rfl ?_
        show X 60 53 [vR 6, vI x1, vI x2, vI x3, vI x4, vI x5, vI (nxt h x3 x4), vI 0] [vI 6, vI x1] h _
        refine X_icmp (L := L_60) (n' := 71) rfl rfl rfl rfl (fun z5 => ?_) (fun z5 => ?_)
        · have z5 : ¬ x1 = 6 := z5
          replace H := H.1 z5
          show X 60 71 [vR 6, vI x1, vI x2, vI x3, vI x4, vI x5, vI (nxt h x3 x4), vI 0] [] h _
          refine X_b 2 73 (L := L_60) rfl rfl rfl ?_
          show X 60 73 [vR 6, vI x1, vI x2, vI x3, vI x4, vI x5, vI (nxt h x3 x4), vI 0] [vI 7, vI x1] h _
          refine X_icmp (L := L_60) (n' := 102) rfl rfl rfl rfl (fun z6 => ?_) (fun z6 => ?_)
          · have z6 : ¬ x1 = 7 := z6
            replace H := H.1 z6
            show X 60 102 [vR 6, vI x1, vI x2, vI x3, vI x4, vI x5, vI (nxt h x3 x4), vI 0] [] h _
            refine X_b 2 104 (L := L_60) rfl rfl rfl ?_
            show X 60 104 [vR 6, vI x1, vI x2, vI x3, vI x4, vI x5, vI (nxt h x3 x4), vI 0] [vI (-1), vI (nxt h x3 x4)] h _
            refine X_icmp (L := L_60) (n' := 123) rfl rfl rfl rfl (fun z7 => ?_) (fun z7 => ?_)
            · have z7 : ¬ nxt h x3 x4 = (-1) := z7
              replace H := H.1 z7
              show X 60 123 [vR 6, vI x1, vI x2, vI x3, vI x4, vI x5, vI (nxt h x3 x4), vI 0] [] h _
              refine X_b 1 124 (L := L_60) rfl rfl rfl ?_
              show X 60 124 [vR 6, vI x1, vI x2, vI x3, vI x4, vI x5, vI (nxt h x3 x4), vI 0] [vI 0] h _
              refine X_zret (L := L_60) rfl rfl rfl rfl (by decide) ?_
              exact H
            · have z7 : nxt h x3 x4 = (-1) := (Classical.not_not.mp z7)
              replace H := H.2 z7
              show X 60 105 [vR 6, vI x1, vI x2, vI x3, vI x4, vI x5, vI (nxt h x3 x4), vI 0] [] h _
              obtain ⟨⟨c8, c9, c10⟩, H⟩ := H
              refine X_b 9 114 (L := L_60) rfl rfl rfl ?_
              show (-2147483648 ≤ 10 * x2 ∧ 10 * x2 ≤ 2147483647) ∧ (-2147483648 ≤ (10 * x2) + x5 ∧ (10 * x2) + x5 ≤ 2147483647) ∧ (0 ≤ (10 * x2) + x5 ∧ (10 * x2) + x5 < 500) ∧ X 60 114 [vR 6, vI x1, vI x2, vI x3, vI x4, vI x5, vI (nxt h x3 x4), vI 0] [vI 0, vI (h 26 ((10 * x2) + x5))] h _
              refine ⟨c8, by have := c9; omega, c9, ?_⟩
              refine X_if (L := L_60) (n' := 117) rfl rfl rfl rfl (fun _ => ?_) (fun z => absurd (show (0 : Int) = (0 : Int) by decide) z)
              show X 60 117 [vR 6, vI x1, vI x2, vI x3, vI x4, vI x5, vI (nxt h x3 x4), vI 0] [vI (h 26 ((10 * x2) + x5))] h _
              refine X_b 3 120 (L := L_60) rfl rfl rfl ?_
              show (-2147483648 ≤ 100 + x3 ∧ 100 + x3 ≤ 2147483647) ∧ X 60 120 [vR 6, vI x1, vI x2, vI x3, vI x4, vI x5, vI (nxt h x3 x4), vI 0] [vI (100 + x3), vI (h 26 ((10 * x2) + x5))] h _
              refine ⟨c10, ?_⟩
              refine X_icmp (L := L_60) (n' := 123) rfl rfl rfl rfl (fun z11 => ?_) (fun z11 => ?_)
              · have z11 : h 26 ((10 * x2) + x5) = 100 + x3 := z11
                replace H := H.1 z11
                show X 60 123 [vR 6, vI x1, vI x2, vI x3, vI x4, vI x5, vI (nxt h x3 x4), vI 0] [] h _
                refine X_b 1 124 (L := L_60) rfl rfl rfl ?_
                show X 60 124 [vR 6, vI x1, vI x2, vI x3, vI x4, vI x5, vI (nxt h x3 x4), vI 0] [vI 0] h _
                refine X_zret (L := L_60) rfl rfl rfl rfl (by decide) ?_
                exact H
              · have z11 : ¬ h 26 ((10 * x2) + x5) = 100 + x3 := z11
                replace H := H.2 z11
                show X 60 121 [vR 6, vI x1, vI x2, vI x3, vI x4, vI x5, vI (nxt h x3 x4), vI 0] [] h _
                refine X_b 1 122 (L := L_60) rfl rfl rfl ?_
                show X 60 122 [vR 6, vI x1, vI x2, vI x3, vI x4, vI x5, vI (nxt h x3 x4), vI 0] [vI 1] h _
                refine X_goto (L := L_60) (n' := 124) rfl rfl rfl rfl ?_
                show X 60 124 [vR 6, vI x1, vI x2, vI x3, vI x4, vI x5, vI (nxt h x3 x4), vI 0] [vI 1] h _
                refine X_zret (L := L_60) rfl rfl rfl rfl (by decide) ?_
                exact H
          · have z6 : x1 = 7 := (Classical.not_not.mp z6)
            replace H := H.2 z6
            show X 60 74 [vR 6, vI x1, vI x2, vI x3, vI x4, vI x5, vI (nxt h x3 x4), vI 0] [] h _
            refine X_b 2 76 (L := L_60) rfl rfl rfl ?_
            show X 60 76 [vR 6, vI x1, vI x2, vI x3, vI x4, vI x5, vI (nxt h x3 x4), vI 0] [vI (-1), vI (nxt h x3 x4)] h _
            refine X_icmp (L := L_60) (n' := 100) rfl rfl rfl rfl (fun z12 => ?_) (fun z12 => ?_)
            · have z12 : nxt h x3 x4 = (-1) := z12
              replace H := H.1 z12
              show X 60 100 [vR 6, vI x1, vI x2, vI x3, vI x4, vI x5, vI (nxt h x3 x4), vI 0] [] h _
              refine X_b 1 101 (L := L_60) rfl rfl rfl ?_
              show X 60 101 [vR 6, vI x1, vI x2, vI x3, vI x4, vI x5, vI (nxt h x3 x4), vI 0] [vI 0] h _
              refine X_zret (L := L_60) rfl rfl rfl rfl (by decide) ?_
              exact H
            · have z12 : ¬ nxt h x3 x4 = (-1) := z12
              replace H := H.2 z12
              show X 60 77 [vR 6, vI x1, vI x2, vI x3, vI x4, vI x5, vI (nxt h x3 x4), vI 0] [] h _
              obtain ⟨⟨c13, c14⟩, H⟩ := H
              refine X_b 3 80 (L := L_60) rfl rfl rfl ?_
              show X 60 80 [vR 6, vI x1, vI x2, vI x3, vI x4, vI x5, vI (nxt h x3 x4), vI 0] [vI (nxt h x3 x4), vI x2, vR 6] h _
              refine X_call 58 [vR 6, vI x2, vI (nxt h x3 x4)] [] rfl (sg_calv rfl rfl rfl rfl rfl rfl rfl rfl rfl rfl rfl) (by decide) ?_
              show X 58 0 [vR 6, vI x2, vI (nxt h x3 x4), vJ 0] [] h _
              refine X_b 10 10 (L := L_58) rfl rfl rfl ?_
              show (-2147483648 ≤ 10 * x2 ∧ 10 * x2 ≤ 2147483647) ∧ (-2147483648 ≤ (10 * x2) + (nxt h x3 x4) ∧ (10 * x2) + (nxt h x3 x4) ≤ 2147483647) ∧ (0 ≤ (10 * x2) + (nxt h x3 x4) ∧ (10 * x2) + (nxt h x3 x4) < 500) ∧ X 58 10 [vR 6, vI x2, vI (nxt h x3 x4), vI (h 26 ((10 * x2) + (nxt h x3 x4)))] [vI (h 26 ((10 * x2) + (nxt h x3 x4)))] h _
              refine ⟨c13, by have := c14; omega, c14, ?_⟩
              refine X_if (L := L_58) (n' := 16) rfl rfl rfl rfl (fun z15 => ?_) (fun z15 => ?_)
              · have z15 : h 26 ((10 * x2) + (nxt h x3 x4)) < 0 := z15
                replace H := H.1 z15
                show X 58 16 [vR 6, vI x2, vI (nxt h x3 x4), vI (h 26 ((10 * x2) + (nxt h x3 x4)))] [] h _
                refine X_b 1 17 (L := L_58) rfl rfl rfl ?_
                show X 58 17 [vR 6, vI x2, vI (nxt h x3 x4), vI (h 26 ((10 * x2) + (nxt h x3 x4)))] [vI 0] h _
                refine X_zret (L := L_58) rfl rfl rfl rfl (by decide) ?_
                show X 60 81 [vR 6, vI x1, vI x2, vI x3, vI x4, vI x5, vI (nxt h x3 x4), vI 0] [vI 0] h _
                refine X_if (L := L_60) (n' := 98) rfl rfl rfl rfl (fun _ => ?_) (fun z => absurd (show (0 : Int) = (0 : Int) by decide) z)
                show X 60 98 [vR 6, vI x1, vI x2, vI x3, vI x4, vI x5, vI (nxt h x3 x4), vI 0] [] h _
                refine X_b 1 99 (L := L_60) rfl rfl rfl ?_
                show X 60 99 [vR 6, vI x1, vI x2, vI x3, vI x4, vI x5, vI (nxt h x3 x4), vI 0] [vI 1] h _
                refine X_goto (L := L_60) (n' := 101) rfl rfl rfl rfl ?_
                show X 60 101 [vR 6, vI x1, vI x2, vI x3, vI x4, vI x5, vI (nxt h x3 x4), vI 0] [vI 1] h _
                refine X_zret (L := L_60) rfl rfl rfl rfl (by decide) ?_
                exact H
              · have z15 : 0 ≤ h 26 ((10 * x2) + (nxt h x3 x4)) := (Int.not_lt.mp z15)
                replace H := H.2 z15
                show X 58 11 [vR 6, vI x2, vI (nxt h x3 x4), vI (h 26 ((10 * x2) + (nxt h x3 x4)))] [] h _
                refine X_b 2 13 (L := L_58) rfl rfl rfl ?_
                show X 58 13 [vR 6, vI x2, vI (nxt h x3 x4), vI (h 26 ((10 * x2) + (nxt h x3 x4)))] [vI 100, vI (h 26 ((10 * x2) + (nxt h x3 x4)))] h _
                refine X_icmp (L := L_58) (n' := 16) rfl rfl rfl rfl (fun z16 => ?_) (fun z16 => ?_)
                · have z16 : 100 ≤ h 26 ((10 * x2) + (nxt h x3 x4)) := z16
                  replace H := H.1 z16
                  show X 58 16 [vR 6, vI x2, vI (nxt h x3 x4), vI (h 26 ((10 * x2) + (nxt h x3 x4)))] [] h _
                  refine X_b 1 17 (L := L_58) rfl rfl rfl ?_
                  show X 58 17 [vR 6, vI x2, vI (nxt h x3 x4), vI (h 26 ((10 * x2) + (nxt h x3 x4)))] [vI 0] h _
                  refine X_zret (L := L_58) rfl rfl rfl rfl (by decide) ?_
                  show X 60 81 [vR 6, vI x1, vI x2, vI x3, vI x4, vI x5, vI (nxt h x3 x4), vI 0] [vI 0] h _
                  refine X_if (L := L_60) (n' := 98) rfl rfl rfl rfl (fun _ => ?_) (fun z => absurd (show (0 : Int) = (0 : Int) by decide) z)
                  show X 60 98 [vR 6, vI x1, vI x2, vI x3, vI x4, vI x5, vI (nxt h x3 x4), vI 0] [] h _
                  refine X_b 1 99 (L := L_60) rfl rfl rfl ?_
                  show X 60 99 [vR 6, vI x1, vI x2, vI x3, vI x4, vI x5, vI (nxt h x3 x4), vI 0] [vI 1] h _
                  refine X_goto (L := L_60) (n' := 101) rfl rfl rfl rfl ?_
                  show X 60 101 [vR 6, vI x1, vI x2, vI x3, vI x4, vI x5, vI (nxt h x3 x4), vI 0] [vI 1] h _
                  refine X_zret (L := L_60) rfl rfl rfl rfl (by decide) ?_
                  exact H
                · have z16 : h 26 ((10 * x2) + (nxt h x3 x4)) < 100 := (Int.not_le.mp z16)
                  replace H := H.2 z16
                  show X 58 14 [vR 6, vI x2, vI (nxt h x3 x4), vI (h 26 ((10 * x2) + (nxt h x3 x4)))] [] h _
                  obtain ⟨⟨c17, c18, c19, c20, c21, c22, c23, c24, c25⟩, H⟩ := H
                  refine X_b 1 15 (L := L_58) rfl rfl rfl ?_
                  show X 58 15 [vR 6, vI x2, vI (nxt h x3 x4), vI (h 26 ((10 * x2) + (nxt h x3 x4)))] [vI 1] h _
                  refine X_goto (L := L_58) (n' := 17) rfl rfl rfl rfl ?_
                  show X 58 17 [vR 6, vI x2, vI (nxt h x3 x4), vI (h 26 ((10 * x2) + (nxt h x3 x4)))] [vI 1] h _
                  refine X_zret (L := L_58) rfl rfl rfl rfl (by decide) ?_
                  show X 60 81 [vR 6, vI x1, vI x2, vI x3, vI x4, vI x5, vI (nxt h x3 x4), vI 0] [vI 1] h _
                  refine X_if (L := L_60) (n' := 98) rfl rfl rfl rfl (fun z => absurd z (show ¬ ((1 : Int) = (0 : Int)) by decide)) (fun _ => ?_)
                  show X 60 82 [vR 6, vI x1, vI x2, vI x3, vI x4, vI x5, vI (nxt h x3 x4), vI 0] [] h _
                  refine X_b 14 96 (L := L_60) rfl rfl rfl ?_
                  show (-2147483648 ≤ 10 * x2 ∧ 10 * x2 ≤ 2147483647) ∧ (-2147483648 ≤ (10 * x2) + (nxt h x3 x4) ∧ (10 * x2) + (nxt h x3 x4) ≤ 2147483647) ∧ (0 ≤ (10 * x2) + (nxt h x3 x4) ∧ (10 * x2) + (nxt h x3 x4) < 500) ∧ (-2147483648 ≤ x4 + 1 ∧ x4 + 1 ≤ 2147483647) ∧ X 60 96 [vR 6, vI x1, vI x2, vI x3, vI x4, vI x5, vI (nxt h x3 x4), vI 0] [vI x5, vI (x4 + 1), vI x3, vI (h 26 ((10 * x2) + (nxt h x3 x4))), vR 6] h _
                  refine ⟨c13, by have := c14; omega, c14, c17, ?_⟩
                  refine X_call 42 [vR 6, vI (h 26 ((10 * x2) + (nxt h x3 x4))), vI x3, vI (x4 + 1), vI x5] [] rfl (sg_calv rfl rfl rfl rfl rfl rfl rfl rfl rfl rfl rfl) (by decide) ?_
                  show X 42 0 [vR 6, vI (h 26 ((10 * x2) + (nxt h x3 x4))), vI x3, vI (x4 + 1), vI x5] [] h _
                  refine X_b 8 8 (L := L_42) rfl rfl rfl ?_
                  show (-2147483648 ≤ 270 * (h 26 ((10 * x2) + (nxt h x3 x4))) ∧ 270 * (h 26 ((10 * x2) + (nxt h x3 x4))) ≤ 2147483647) ∧ X 42 8 [vR 6, vI (h 26 ((10 * x2) + (nxt h x3 x4))), vI x3, vI (x4 + 1), vI x5] [vI x5, vI (x4 + 1), vI x3, vI (270 * (h 26 ((10 * x2) + (nxt h x3 x4)))), vR 25] h _
                  refine ⟨c18, ?_⟩
                  refine X_call 41 [vI x3, vI (x4 + 1), vI x5] [vI (270 * (h 26 ((10 * x2) + (nxt h x3 x4)))), vR 25] rfl (sg_cals rfl rfl rfl rfl rfl rfl rfl rfl rfl rfl) (by decide) ?_
                  show X 41 0 [vI x3, vI (x4 + 1), vI x5] [] h _
                  refine X_b 11 11 (L := L_41) rfl rfl rfl ?_
                  show (-2147483648 ≤ 30 * x3 ∧ 30 * x3 ≤ 2147483647) ∧ (-2147483648 ≤ 6 * (x4 + 1) ∧ 6 * (x4 + 1) ≤ 2147483647) ∧ (-2147483648 ≤ (30 * x3) + (6 * (x4 + 1)) ∧ (30 * x3) + (6 * (x4 + 1)) ≤ 2147483647) ∧ (-2147483648 ≤ ((30 * x3) + (6 * (x4 + 1))) + x5 ∧ ((30 * x3) + (6 * (x4 + 1))) + x5 ≤ 2147483647) ∧ (-2147483648 ≤ (((30 * x3) + (6 * (x4 + 1))) + x5) - 4 ∧ (((30 * x3) + (6 * (x4 + 1))) + x5) - 4 ≤ 2147483647) ∧ X 41 11 [vI x3, vI (x4 + 1), vI x5] [vI ((((30 * x3) + (6 * (x4 + 1))) + x5) - 4)] h _
                  refine ⟨c19, c20, c21, c22, c23, ?_⟩
                  refine X_iret (L := L_41) rfl rfl rfl rfl ?_
                  show X 42 9 [vR 6, vI (h 26 ((10 * x2) + (nxt h x3 x4))), vI x3, vI (x4 + 1), vI x5] [vI ((((30 * x3) + (6 * (x4 + 1))) + x5) - 4), vI (270 * (h 26 ((10 * x2) + (nxt h x3 x4)))), vR 25] h _
                  refine X_b 2 11 (L := L_42) rfl rfl rfl ?_
                  show (-2147483648 ≤ (270 * (h 26 ((10 * x2) + (nxt h x3 x4)))) + ((((30 * x3) + (6 * (x4 + 1))) + x5) - 4) ∧ (270 * (h 26 ((10 * x2) + (nxt h x3 x4)))) + ((((30 * x3) + (6 * (x4 + 1))) + x5) - 4) ≤ 2147483647) ∧ (0 ≤ (270 * (h 26 ((10 * x2) + (nxt h x3 x4)))) + ((((30 * x3) + (6 * (x4 + 1))) + x5) - 4) ∧ (270 * (h 26 ((10 * x2) + (nxt h x3 x4)))) + ((((30 * x3) + (6 * (x4 + 1))) + x5) - 4) < 13500) ∧ X 42 11 [vR 6, vI (h 26 ((10 * x2) + (nxt h x3 x4))), vI x3, vI (x4 + 1), vI x5] [vI (h 25 ((270 * (h 26 ((10 * x2) + (nxt h x3 x4)))) + ((((30 * x3) + (6 * (x4 + 1))) + x5) - 4)))] h _
                  refine ⟨by have := c24; omega, c24, ?_⟩
                  refine X_zret (L := L_42) rfl rfl rfl rfl c25 ?_
                  show X 60 97 [vR 6, vI x1, vI x2, vI x3, vI x4, vI x5, vI (nxt h x3 x4), vI 0] [vI (h 25 ((270 * (h 26 ((10 * x2) + (nxt h x3 x4)))) + ((((30 * x3) + (6 * (x4 + 1))) + x5) - 4)))] h _
                  refine X_if (L := L_60) (n' := 100) rfl rfl rfl rfl (fun z26 => ?_) (fun z26 => ?_)
                  · have z26 : ¬ h 25 ((270 * (h 26 ((10 * x2) + (nxt h x3 x4)))) + ((((30 * x3) + (6 * (x4 + 1))) + x5) - 4)) = 0 := z26
                    replace H := H.1 z26
                    show X 60 100 [vR 6, vI x1, vI x2, vI x3, vI x4, vI x5, vI (nxt h x3 x4), vI 0] [] h _
                    refine X_b 1 101 (L := L_60) rfl rfl rfl ?_
                    show X 60 101 [vR 6, vI x1, vI x2, vI x3, vI x4, vI x5, vI (nxt h x3 x4), vI 0] [vI 0] h _
                    refine X_zret (L := L_60) rfl rfl rfl rfl (by decide) ?_
                    exact H
                  · have z26 : h 25 ((270 * (h 26 ((10 * x2) + (nxt h x3 x4)))) + ((((30 * x3) + (6 * (x4 + 1))) + x5) - 4)) = 0 := (Classical.not_not.mp z26)
                    replace H := H.2 z26
                    show X 60 98 [vR 6, vI x1, vI x2, vI x3, vI x4, vI x5, vI (nxt h x3 x4), vI 0] [] h _
                    refine X_b 1 99 (L := L_60) rfl rfl rfl ?_
                    show X 60 99 [vR 6, vI x1, vI x2, vI x3, vI x4, vI x5, vI (nxt h x3 x4), vI 0] [vI 1] h _
                    refine X_goto (L := L_60) (n' := 101) rfl rfl rfl rfl ?_
                    show X 60 101 [vR 6, vI x1, vI x2, vI x3, vI x4, vI x5, vI (nxt h x3 x4), vI 0] [vI 1] h _
                    refine X_zret (L := L_60) rfl rfl rfl rfl (by decide) ?_
                    exact H
        · have z5 : x1 = 6 := (Classical.not_not.mp z5)
          replace H := H.2 z5
          show X 60 54 [vR 6, vI x1, vI x2, vI x3, vI x4, vI x5, vI (nxt h x3 x4), vI 0] [] h _
          refine X_b 2 56 (L := L_60) rfl rfl rfl ?_
          show X 60 56 [vR 6, vI x1, vI x2, vI x3, vI x4, vI x5, vI (nxt h x3 x4), vI 0] [vI (-1), vI (nxt h x3 x4)] h _
          refine X_icmp (L := L_60) (n' := 69) rfl rfl rfl rfl (fun z27 => ?_) (fun z27 => ?_)
          · have z27 : nxt h x3 x4 = (-1) := z27
            replace H := H.1 z27
            show X 60 69 [vR 6, vI x1, vI x2, vI x3, vI x4, vI x5, vI (nxt h x3 x4), vI 0] [] h _
            refine X_b 1 70 (L := L_60) rfl rfl rfl ?_
            show X 60 70 [vR 6, vI x1, vI x2, vI x3, vI x4, vI x5, vI (nxt h x3 x4), vI 0] [vI 0] h _
            refine X_zret (L := L_60) rfl rfl rfl rfl (by decide) ?_
            exact H
          · have z27 : ¬ nxt h x3 x4 = (-1) := z27
            replace H := H.2 z27
            show X 60 57 [vR 6, vI x1, vI x2, vI x3, vI x4, vI x5, vI (nxt h x3 x4), vI 0] [] h _
            refine X_b 2 59 (L := L_60) rfl rfl rfl ?_
            show X 60 59 [vR 6, vI x1, vI x2, vI x3, vI x4, vI x5, vI (nxt h x3 x4), vI 0] [vI 4, vI (nxt h x3 x4)] h _
            refine X_icmp (L := L_60) (n' := 69) rfl rfl rfl rfl (fun z28 => ?_) (fun z28 => ?_)
            · have z28 : 4 ≤ nxt h x3 x4 := z28
              replace H := H.1 z28
              show X 60 69 [vR 6, vI x1, vI x2, vI x3, vI x4, vI x5, vI (nxt h x3 x4), vI 0] [] h _
              refine X_b 1 70 (L := L_60) rfl rfl rfl ?_
              show X 60 70 [vR 6, vI x1, vI x2, vI x3, vI x4, vI x5, vI (nxt h x3 x4), vI 0] [vI 0] h _
              refine X_zret (L := L_60) rfl rfl rfl rfl (by decide) ?_
              exact H
            · have z28 : nxt h x3 x4 < 4 := (Int.not_le.mp z28)
              replace H := H.2 z28
              show X 60 60 [vR 6, vI x1, vI x2, vI x3, vI x4, vI x5, vI (nxt h x3 x4), vI 0] [] h _
              refine X_b 5 65 (L := L_60) rfl rfl rfl ?_
              show X 60 65 [vR 6, vI x1, vI x2, vI x3, vI x4, vI x5, vI (nxt h x3 x4), vI 0] [vI x5, vI x4, vI x3, vI x2, vR 6] h _
              refine X_call 59 [vR 6, vI x2, vI x3, vI x4, vI x5] [] rfl (sg_calv rfl rfl rfl rfl rfl rfl rfl rfl rfl rfl rfl) (by decide) ?_
              refine C_mono H (kI_to ?_)
              intro v29 h29 H
              show X 60 66 [vR 6, vI x1, vI x2, vI x3, vI x4, vI x5, vI (nxt h x3 x4), vI 0] [vI v29] h29 _
              refine X_if (L := L_60) (n' := 69) rfl rfl rfl rfl (fun z30 => ?_) (fun z30 => ?_)
              · have z30 : ¬ v29 = 0 := z30
                replace H := H.1 z30
                show X 60 69 [vR 6, vI x1, vI x2, vI x3, vI x4, vI x5, vI (nxt h x3 x4), vI 0] [] h29 _
                refine X_b 1 70 (L := L_60) rfl rfl rfl ?_
                show X 60 70 [vR 6, vI x1, vI x2, vI x3, vI x4, vI x5, vI (nxt h x3 x4), vI 0] [vI 0] h29 _
                refine X_zret (L := L_60) rfl rfl rfl rfl (by decide) ?_
                exact H
              · have z30 : v29 = 0 := (Classical.not_not.mp z30)
                replace H := H.2 z30
                show X 60 67 [vR 6, vI x1, vI x2, vI x3, vI x4, vI x5, vI (nxt h x3 x4), vI 0] [] h29 _
                refine X_b 1 68 (L := L_60) rfl rfl rfl ?_
                show X 60 68 [vR 6, vI x1, vI x2, vI x3, vI x4, vI x5, vI (nxt h x3 x4), vI 0] [vI 1] h29 _
                refine X_goto (L := L_60) (n' := 70) rfl rfl rfl rfl ?_
                show X 60 70 [vR 6, vI x1, vI x2, vI x3, vI x4, vI x5, vI (nxt h x3 x4), vI 0] [vI 1] h29 _
                refine X_zret (L := L_60) rfl rfl rfl rfl (by decide) ?_
                exact H
      · have z4 : x1 = 4 := (Classical.not_not.mp z4)
        replace H := H.2 z4
        show X 60 35 [vR 6, vI x1, vI x2, vI x3, vI x4, vI x5, vI (nxt h x3 x4), vI 0] [] h _
        refine X_b 1 36 (L := L_60) rfl rfl rfl ?_
        show X 60 36 [vR 6, vI x1, vI x2, vI x3, vI x4, vI x5, vI (nxt h x3 x4), vI 0] [vI 0] h _
        refine X_if (L := L_60) (n' := 49) rfl rfl rfl rfl (fun z => absurd z (show ¬ (¬ (0 : Int) = (0 : Int)) by decide)) (fun _ => ?_)
        show X 60 37 [vR 6, vI x1, vI x2, vI x3, vI x4, vI x5, vI (nxt h x3 x4), vI 0] [] h _
        refine X_b 1 38 (L := L_60) rfl rfl rfl ?_
        show X 60 38 [vR 6, vI x1, vI x2, vI x3, vI x4, vI x5, vI (nxt h x3 x4), vI 0] [vI x4] h _
        refine X_if (L := L_60) (n' := 49) rfl rfl rfl rfl (fun z31 => ?_) (fun z31 => ?_)
        · have z31 : ¬ x4 = 0 := z31
          replace H := H.1 z31
          show X 60 49 [vR 6, vI x1, vI x2, vI x3, vI x4, vI x5, vI (nxt h x3 x4), vI 0] [] h _
          refine X_b 1 50 (L := L_60) rfl rfl rfl ?_
          show X 60 50 [vR 6, vI x1, vI x2, vI x3, vI x4, vI x5, vI (nxt h x3 x4), vI 0] [vI 0] h _
          refine X_zret (L := L_60) rfl rfl rfl rfl (by decide) ?_
          exact H
        · have z31 : x4 = 0 := (Classical.not_not.mp z31)
          replace H := H.2 z31
          show X 60 39 [vR 6, vI x1, vI x2, vI x3, vI x4, vI x5, vI (nxt h x3 x4), vI 0] [] h _
          obtain ⟨⟨c32, c33, c34⟩, H⟩ := H
          refine X_b 6 45 (L := L_60) rfl rfl rfl ?_
          show (0 ≤ x3 ∧ x3 < 8) ∧ X 60 45 [vR 6, vI x1, vI x2, vI x3, vI x4, vI x5, vI (nxt h x3 x4), vI 0] [vI (h 20 x3), vI x2, vR 6] h _
          refine ⟨c32, ?_⟩
          refine X_call 58 [vR 6, vI x2, vI (h 20 x3)] [] rfl (sg_calv rfl rfl rfl rfl rfl rfl rfl rfl rfl rfl rfl) (by decide) ?_
          show X 58 0 [vR 6, vI x2, vI (h 20 x3), vJ 0] [] h _
          refine X_b 10 10 (L := L_58) rfl rfl rfl ?_
          show (-2147483648 ≤ 10 * x2 ∧ 10 * x2 ≤ 2147483647) ∧ (-2147483648 ≤ (10 * x2) + (h 20 x3) ∧ (10 * x2) + (h 20 x3) ≤ 2147483647) ∧ (0 ≤ (10 * x2) + (h 20 x3) ∧ (10 * x2) + (h 20 x3) < 500) ∧ X 58 10 [vR 6, vI x2, vI (h 20 x3), vI (h 26 ((10 * x2) + (h 20 x3)))] [vI (h 26 ((10 * x2) + (h 20 x3)))] h _
          refine ⟨c33, by have := c34; omega, c34, ?_⟩
          refine X_if (L := L_58) (n' := 16) rfl rfl rfl rfl (fun z35 => ?_) (fun z35 => ?_)
          · have z35 : h 26 ((10 * x2) + (h 20 x3)) < 0 := z35
            replace H := H.1 z35
            show X 58 16 [vR 6, vI x2, vI (h 20 x3), vI (h 26 ((10 * x2) + (h 20 x3)))] [] h _
            refine X_b 1 17 (L := L_58) rfl rfl rfl ?_
            show X 58 17 [vR 6, vI x2, vI (h 20 x3), vI (h 26 ((10 * x2) + (h 20 x3)))] [vI 0] h _
            refine X_zret (L := L_58) rfl rfl rfl rfl (by decide) ?_
            show X 60 46 [vR 6, vI x1, vI x2, vI x3, vI x4, vI x5, vI (nxt h x3 x4), vI 0] [vI 0] h _
            refine X_if (L := L_60) (n' := 49) rfl rfl rfl rfl (fun z => absurd z (show ¬ (¬ (0 : Int) = (0 : Int)) by decide)) (fun _ => ?_)
            show X 60 47 [vR 6, vI x1, vI x2, vI x3, vI x4, vI x5, vI (nxt h x3 x4), vI 0] [] h _
            refine X_b 1 48 (L := L_60) rfl rfl rfl ?_
            show X 60 48 [vR 6, vI x1, vI x2, vI x3, vI x4, vI x5, vI (nxt h x3 x4), vI 0] [vI 1] h _
            refine X_goto (L := L_60) (n' := 50) rfl rfl rfl rfl ?_
            show X 60 50 [vR 6, vI x1, vI x2, vI x3, vI x4, vI x5, vI (nxt h x3 x4), vI 0] [vI 1] h _
            refine X_zret (L := L_60) rfl rfl rfl rfl (by decide) ?_
            exact H
          · have z35 : 0 ≤ h 26 ((10 * x2) + (h 20 x3)) := (Int.not_lt.mp z35)
            replace H := H.2 z35
            show X 58 11 [vR 6, vI x2, vI (h 20 x3), vI (h 26 ((10 * x2) + (h 20 x3)))] [] h _
            refine X_b 2 13 (L := L_58) rfl rfl rfl ?_
            show X 58 13 [vR 6, vI x2, vI (h 20 x3), vI (h 26 ((10 * x2) + (h 20 x3)))] [vI 100, vI (h 26 ((10 * x2) + (h 20 x3)))] h _
            refine X_icmp (L := L_58) (n' := 16) rfl rfl rfl rfl (fun z36 => ?_) (fun z36 => ?_)
            · have z36 : 100 ≤ h 26 ((10 * x2) + (h 20 x3)) := z36
              replace H := H.1 z36
              show X 58 16 [vR 6, vI x2, vI (h 20 x3), vI (h 26 ((10 * x2) + (h 20 x3)))] [] h _
              refine X_b 1 17 (L := L_58) rfl rfl rfl ?_
              show X 58 17 [vR 6, vI x2, vI (h 20 x3), vI (h 26 ((10 * x2) + (h 20 x3)))] [vI 0] h _
              refine X_zret (L := L_58) rfl rfl rfl rfl (by decide) ?_
              show X 60 46 [vR 6, vI x1, vI x2, vI x3, vI x4, vI x5, vI (nxt h x3 x4), vI 0] [vI 0] h _
              refine X_if (L := L_60) (n' := 49) rfl rfl rfl rfl (fun z => absurd z (show ¬ (¬ (0 : Int) = (0 : Int)) by decide)) (fun _ => ?_)
              show X 60 47 [vR 6, vI x1, vI x2, vI x3, vI x4, vI x5, vI (nxt h x3 x4), vI 0] [] h _
              refine X_b 1 48 (L := L_60) rfl rfl rfl ?_
              show X 60 48 [vR 6, vI x1, vI x2, vI x3, vI x4, vI x5, vI (nxt h x3 x4), vI 0] [vI 1] h _
              refine X_goto (L := L_60) (n' := 50) rfl rfl rfl rfl ?_
              show X 60 50 [vR 6, vI x1, vI x2, vI x3, vI x4, vI x5, vI (nxt h x3 x4), vI 0] [vI 1] h _
              refine X_zret (L := L_60) rfl rfl rfl rfl (by decide) ?_
              exact H
            · have z36 : h 26 ((10 * x2) + (h 20 x3)) < 100 := (Int.not_le.mp z36)
              replace H := H.2 z36
              show X 58 14 [vR 6, vI x2, vI (h 20 x3), vI (h 26 ((10 * x2) + (h 20 x3)))] [] h _
              refine X_b 1 15 (L := L_58) rfl rfl rfl ?_
              show X 58 15 [vR 6, vI x2, vI (h 20 x3), vI (h 26 ((10 * x2) + (h 20 x3)))] [vI 1] h _
              refine X_goto (L := L_58) (n' := 17) rfl rfl rfl rfl ?_
              show X 58 17 [vR 6, vI x2, vI (h 20 x3), vI (h 26 ((10 * x2) + (h 20 x3)))] [vI 1] h _
              refine X_zret (L := L_58) rfl rfl rfl rfl (by decide) ?_
              show X 60 46 [vR 6, vI x1, vI x2, vI x3, vI x4, vI x5, vI (nxt h x3 x4), vI 0] [vI 1] h _
              refine X_if (L := L_60) (n' := 49) rfl rfl rfl rfl (fun _ => ?_) (fun z => absurd (show ¬ (1 : Int) = (0 : Int) by decide) z)
              show X 60 49 [vR 6, vI x1, vI x2, vI x3, vI x4, vI x5, vI (nxt h x3 x4), vI 0] [] h _
              refine X_b 1 50 (L := L_60) rfl rfl rfl ?_
              show X 60 50 [vR 6, vI x1, vI x2, vI x3, vI x4, vI x5, vI (nxt h x3 x4), vI 0] [vI 0] h _
              refine X_zret (L := L_60) rfl rfl rfl rfl (by decide) ?_
              exact H
    · have z3 : x1 = 1 := (Classical.not_not.mp z3)
      replace H := H.2 z3
      show X 60 16 [vR 6, vI x1, vI x2, vI x3, vI x4, vI x5, vI (nxt h x3 x4), vI 0] [] h _
      refine X_b 1 17 (L := L_60) rfl rfl rfl ?_
      show X 60 17 [vR 6, vI x1, vI x2, vI x3, vI x4, vI x5, vI (nxt h x3 x4), vI 0] [vI x2] h _
      refine X_if (L := L_60) (n' := 24) rfl rfl rfl rfl (fun z37 => ?_) (fun z37 => ?_)
      · have z37 : ¬ x2 = 0 := z37
        replace H := H.1 z37
        show X 60 24 [vR 6, vI x1, vI x2, vI x3, vI x4, vI x5, vI (nxt h x3 x4), vI 0] [] h _
        refine X_b 1 25 (L := L_60) rfl rfl rfl ?_
        show X 60 25 [vR 6, vI x1, vI x2, vI x3, vI x4, vI x5, vI (nxt h x3 x4), vI 0] [vI 0] h _
        refine X_if (L := L_60) (n' := 30) rfl rfl rfl rfl (fun _ => ?_) (fun z => absurd (show (0 : Int) = (0 : Int) by decide) z)
        show X 60 30 [vR 6, vI x1, vI x2, vI x3, vI x4, vI x5, vI (nxt h x3 x4), vI 0] [] h _
        refine X_b 1 31 (L := L_60) rfl rfl rfl ?_
        show X 60 31 [vR 6, vI x1, vI x2, vI x3, vI x4, vI x5, vI (nxt h x3 x4), vI 0] [vI 0] h _
        refine X_zret (L := L_60) rfl rfl rfl rfl (by decide) ?_
        exact H
      · have z37 : x2 = 0 := (Classical.not_not.mp z37)
        replace H := H.2 z37
        show X 60 18 [vR 6, vI x1, vI x2, vI x3, vI x4, vI x5, vI (nxt h x3 x4), vI 0] [] h _
        refine X_b 1 19 (L := L_60) rfl rfl rfl ?_
        show X 60 19 [vR 6, vI x1, vI x2, vI x3, vI x4, vI x5, vI (nxt h x3 x4), vI 0] [vI x4] h _
        refine X_if (L := L_60) (n' := 22) rfl rfl rfl rfl (fun z38 => ?_) (fun z38 => ?_)
        · have z38 : x4 ≤ 0 := z38
          replace H := H.1 z38
          show X 60 22 [vR 6, vI x1, vI x2, vI x3, vI x4, vI x5, vI (nxt h x3 x4), vI 0] [] h _
          refine X_b 1 23 (L := L_60) rfl rfl rfl ?_
          show X 60 23 [vR 6, vI x1, vI x2, vI x3, vI x4, vI x5, vI (nxt h x3 x4), vI 0] [vI 0] h _
          refine X_goto (L := L_60) (n' := 31) rfl rfl rfl rfl ?_
          show X 60 31 [vR 6, vI x1, vI x2, vI x3, vI x4, vI x5, vI (nxt h x3 x4), vI 0] [vI 0] h _
          refine X_zret (L := L_60) rfl rfl rfl rfl (by decide) ?_
          exact H
        · have z38 : 0 < x4 := (Int.not_le.mp z38)
          replace H := H.2 z38
          show X 60 20 [vR 6, vI x1, vI x2, vI x3, vI x4, vI x5, vI (nxt h x3 x4), vI 0] [] h _
          refine X_b 1 21 (L := L_60) rfl rfl rfl ?_
          show X 60 21 [vR 6, vI x1, vI x2, vI x3, vI x4, vI x5, vI (nxt h x3 x4), vI 0] [vI 1] h _
          refine X_goto (L := L_60) (n' := 31) rfl rfl rfl rfl ?_
          show X 60 31 [vR 6, vI x1, vI x2, vI x3, vI x4, vI x5, vI (nxt h x3 x4), vI 0] [vI 1] h _
          refine X_zret (L := L_60) rfl rfl rfl rfl (by decide) ?_
          exact H
  · have z2 : x3 = h 6 1 := (Classical.not_not.mp z2)
    replace H := H.2 z2
    show X 60 9 [vR 6, vI x1, vI x2, vI x3, vI x4, vI x5, vI (nxt h x3 x4), vJ 0] [] h _
    refine X_b 1 10 (L := L_60) rfl rfl rfl ?_
    show X 60 10 [vR 6, vI x1, vI x2, vI x3, vI x4, vI x5, vI (nxt h x3 x4), vJ 0] [vI 1] h _
    refine X_goto (L := L_60) (n' := 12) rfl rfl rfl rfl ?_
    show X 60 12 [vR 6, vI x1, vI x2, vI x3, vI x4, vI x5, vI (nxt h x3 x4), vJ 0] [vI 1] h _
    refine X_b 3 15 (L := L_60) rfl rfl rfl ?_
    show X 60 15 [vR 6, vI x1, vI x2, vI x3, vI x4, vI x5, vI (nxt h x3 x4), vI 1] [vI 1, vI x1] h _
    refine X_icmp (L := L_60) (n' := 32) rfl rfl rfl rfl (fun z39 => ?_) (fun z39 => ?_)
    · have z39 : ¬ x1 = 1 := z39
      replace H := H.1 z39
      show X 60 32 [vR 6, vI x1, vI x2, vI x3, vI x4, vI x5, vI (nxt h x3 x4), vI 1] [] h _
      refine X_b 2 34 (L := L_60) rfl rfl rfl ?_
      show X 60 34 [vR 6, vI x1, vI x2, vI x3, vI x4, vI x5, vI (nxt h x3 x4), vI 1] [vI 4, vI x1] h _
      refine X_icmp (L := L_60) (n' := 51) rfl rfl rfl rfl (fun z40 => ?_) (fun z40 => ?_)
      · have z40 : ¬ x1 = 4 := z40
        replace H := H.1 z40
        show X 60 51 [vR 6, vI x1, vI x2, vI x3, vI x4, vI x5, vI (nxt h x3 x4), vI 1] [] h _
        refine X_b 2 53 (L := L_60) rfl rfl rfl ?_
        show X 60 53 [vR 6, vI x1, vI x2, vI x3, vI x4, vI x5, vI (nxt h x3 x4), vI 1] [vI 6, vI x1] h _
        refine X_icmp (L := L_60) (n' := 71) rfl rfl rfl rfl (fun z41 => ?_) (fun z41 => ?_)
        · have z41 : ¬ x1 = 6 := z41
          replace H := H.1 z41
          show X 60 71 [vR 6, vI x1, vI x2, vI x3, vI x4, vI x5, vI (nxt h x3 x4), vI 1] [] h _
          refine X_b 2 73 (L := L_60) rfl rfl rfl ?_
          show X 60 73 [vR 6, vI x1, vI x2, vI x3, vI x4, vI x5, vI (nxt h x3 x4), vI 1] [vI 7, vI x1] h _
          refine X_icmp (L := L_60) (n' := 102) rfl rfl rfl rfl (fun z42 => ?_) (fun z42 => ?_)
          · have z42 : ¬ x1 = 7 := z42
            replace H := H.1 z42
            show X 60 102 [vR 6, vI x1, vI x2, vI x3, vI x4, vI x5, vI (nxt h x3 x4), vI 1] [] h _
            refine X_b 2 104 (L := L_60) rfl rfl rfl ?_
            show X 60 104 [vR 6, vI x1, vI x2, vI x3, vI x4, vI x5, vI (nxt h x3 x4), vI 1] [vI (-1), vI (nxt h x3 x4)] h _
            refine X_icmp (L := L_60) (n' := 123) rfl rfl rfl rfl (fun z43 => ?_) (fun z43 => ?_)
            · have z43 : ¬ nxt h x3 x4 = (-1) := z43
              replace H := H.1 z43
              show X 60 123 [vR 6, vI x1, vI x2, vI x3, vI x4, vI x5, vI (nxt h x3 x4), vI 1] [] h _
              refine X_b 1 124 (L := L_60) rfl rfl rfl ?_
              show X 60 124 [vR 6, vI x1, vI x2, vI x3, vI x4, vI x5, vI (nxt h x3 x4), vI 1] [vI 0] h _
              refine X_zret (L := L_60) rfl rfl rfl rfl (by decide) ?_
              exact H
            · have z43 : nxt h x3 x4 = (-1) := (Classical.not_not.mp z43)
              replace H := H.2 z43
              show X 60 105 [vR 6, vI x1, vI x2, vI x3, vI x4, vI x5, vI (nxt h x3 x4), vI 1] [] h _
              obtain ⟨⟨c44, c45⟩, H⟩ := H
              refine X_b 9 114 (L := L_60) rfl rfl rfl ?_
              show (-2147483648 ≤ 10 * x2 ∧ 10 * x2 ≤ 2147483647) ∧ (-2147483648 ≤ (10 * x2) + x5 ∧ (10 * x2) + x5 ≤ 2147483647) ∧ (0 ≤ (10 * x2) + x5 ∧ (10 * x2) + x5 < 500) ∧ X 60 114 [vR 6, vI x1, vI x2, vI x3, vI x4, vI x5, vI (nxt h x3 x4), vI 1] [vI 1, vI (h 26 ((10 * x2) + x5))] h _
              refine ⟨c44, by have := c45; omega, c45, ?_⟩
              refine X_if (L := L_60) (n' := 117) rfl rfl rfl rfl (fun z => absurd z (show ¬ ((1 : Int) = (0 : Int)) by decide)) (fun _ => ?_)
              show X 60 115 [vR 6, vI x1, vI x2, vI x3, vI x4, vI x5, vI (nxt h x3 x4), vI 1] [vI (h 26 ((10 * x2) + x5))] h _
              refine X_b 1 116 (L := L_60) rfl rfl rfl ?_
              show X 60 116 [vR 6, vI x1, vI x2, vI x3, vI x4, vI x5, vI (nxt h x3 x4), vI 1] [vI 200, vI (h 26 ((10 * x2) + x5))] h _
              refine X_goto (L := L_60) (n' := 120) rfl rfl rfl rfl ?_
              show X 60 120 [vR 6, vI x1, vI x2, vI x3, vI x4, vI x5, vI (nxt h x3 x4), vI 1] [vI 200, vI (h 26 ((10 * x2) + x5))] h _
              refine X_icmp (L := L_60) (n' := 123) rfl rfl rfl rfl (fun z46 => ?_) (fun z46 => ?_)
              · have z46 : h 26 ((10 * x2) + x5) = 200 := z46
                replace H := H.1 z46
                show X 60 123 [vR 6, vI x1, vI x2, vI x3, vI x4, vI x5, vI (nxt h x3 x4), vI 1] [] h _
                refine X_b 1 124 (L := L_60) rfl rfl rfl ?_
                show X 60 124 [vR 6, vI x1, vI x2, vI x3, vI x4, vI x5, vI (nxt h x3 x4), vI 1] [vI 0] h _
                refine X_zret (L := L_60) rfl rfl rfl rfl (by decide) ?_
                exact H
              · have z46 : ¬ h 26 ((10 * x2) + x5) = 200 := z46
                replace H := H.2 z46
                show X 60 121 [vR 6, vI x1, vI x2, vI x3, vI x4, vI x5, vI (nxt h x3 x4), vI 1] [] h _
                refine X_b 1 122 (L := L_60) rfl rfl rfl ?_
                show X 60 122 [vR 6, vI x1, vI x2, vI x3, vI x4, vI x5, vI (nxt h x3 x4), vI 1] [vI 1] h _
                refine X_goto (L := L_60) (n' := 124) rfl rfl rfl rfl ?_
                show X 60 124 [vR 6, vI x1, vI x2, vI x3, vI x4, vI x5, vI (nxt h x3 x4), vI 1] [vI 1] h _
                refine X_zret (L := L_60) rfl rfl rfl rfl (by decide) ?_
                exact H
          · have z42 : x1 = 7 := (Classical.not_not.mp z42)
            replace H := H.2 z42
            show X 60 74 [vR 6, vI x1, vI x2, vI x3, vI x4, vI x5, vI (nxt h x3 x4), vI 1] [] h _
            refine X_b 2 76 (L := L_60) rfl rfl rfl ?_
            show X 60 76 [vR 6, vI x1, vI x2, vI x3, vI x4, vI x5, vI (nxt h x3 x4), vI 1] [vI (-1), vI (nxt h x3 x4)] h _
            refine X_icmp (L := L_60) (n' := 100) rfl rfl rfl rfl (fun z47 => ?_) (fun z47 => ?_)
            · have z47 : nxt h x3 x4 = (-1) := z47
              replace H := H.1 z47
              show X 60 100 [vR 6, vI x1, vI x2, vI x3, vI x4, vI x5, vI (nxt h x3 x4), vI 1] [] h _
              refine X_b 1 101 (L := L_60) rfl rfl rfl ?_
              show X 60 101 [vR 6, vI x1, vI x2, vI x3, vI x4, vI x5, vI (nxt h x3 x4), vI 1] [vI 0] h _
              refine X_zret (L := L_60) rfl rfl rfl rfl (by decide) ?_
              exact H
            · have z47 : ¬ nxt h x3 x4 = (-1) := z47
              replace H := H.2 z47
              show X 60 77 [vR 6, vI x1, vI x2, vI x3, vI x4, vI x5, vI (nxt h x3 x4), vI 1] [] h _
              obtain ⟨⟨c48, c49⟩, H⟩ := H
              refine X_b 3 80 (L := L_60) rfl rfl rfl ?_
              show X 60 80 [vR 6, vI x1, vI x2, vI x3, vI x4, vI x5, vI (nxt h x3 x4), vI 1] [vI (nxt h x3 x4), vI x2, vR 6] h _
              refine X_call 58 [vR 6, vI x2, vI (nxt h x3 x4)] [] rfl (sg_calv rfl rfl rfl rfl rfl rfl rfl rfl rfl rfl rfl) (by decide) ?_
              show X 58 0 [vR 6, vI x2, vI (nxt h x3 x4), vJ 0] [] h _
              refine X_b 10 10 (L := L_58) rfl rfl rfl ?_
              show (-2147483648 ≤ 10 * x2 ∧ 10 * x2 ≤ 2147483647) ∧ (-2147483648 ≤ (10 * x2) + (nxt h x3 x4) ∧ (10 * x2) + (nxt h x3 x4) ≤ 2147483647) ∧ (0 ≤ (10 * x2) + (nxt h x3 x4) ∧ (10 * x2) + (nxt h x3 x4) < 500) ∧ X 58 10 [vR 6, vI x2, vI (nxt h x3 x4), vI (h 26 ((10 * x2) + (nxt h x3 x4)))] [vI (h 26 ((10 * x2) + (nxt h x3 x4)))] h _
              refine ⟨c48, by have := c49; omega, c49, ?_⟩
              refine X_if (L := L_58) (n' := 16) rfl rfl rfl rfl (fun z50 => ?_) (fun z50 => ?_)
              · have z50 : h 26 ((10 * x2) + (nxt h x3 x4)) < 0 := z50
                replace H := H.1 z50
                show X 58 16 [vR 6, vI x2, vI (nxt h x3 x4), vI (h 26 ((10 * x2) + (nxt h x3 x4)))] [] h _
                refine X_b 1 17 (L := L_58) rfl rfl rfl ?_
                show X 58 17 [vR 6, vI x2, vI (nxt h x3 x4), vI (h 26 ((10 * x2) + (nxt h x3 x4)))] [vI 0] h _
                refine X_zret (L := L_58) rfl rfl rfl rfl (by decide) ?_
                show X 60 81 [vR 6, vI x1, vI x2, vI x3, vI x4, vI x5, vI (nxt h x3 x4), vI 1] [vI 0] h _
                refine X_if (L := L_60) (n' := 98) rfl rfl rfl rfl (fun _ => ?_) (fun z => absurd (show (0 : Int) = (0 : Int) by decide) z)
                show X 60 98 [vR 6, vI x1, vI x2, vI x3, vI x4, vI x5, vI (nxt h x3 x4), vI 1] [] h _
                refine X_b 1 99 (L := L_60) rfl rfl rfl ?_
                show X 60 99 [vR 6, vI x1, vI x2, vI x3, vI x4, vI x5, vI (nxt h x3 x4), vI 1] [vI 1] h _
                refine X_goto (L := L_60) (n' := 101) rfl rfl rfl rfl ?_
                show X 60 101 [vR 6, vI x1, vI x2, vI x3, vI x4, vI x5, vI (nxt h x3 x4), vI 1] [vI 1] h _
                refine X_zret (L := L_60) rfl rfl rfl rfl (by decide) ?_
                exact H
              · have z50 : 0 ≤ h 26 ((10 * x2) + (nxt h x3 x4)) := (Int.not_lt.mp z50)
                replace H := H.2 z50
                show X 58 11 [vR 6, vI x2, vI (nxt h x3 x4), vI (h 26 ((10 * x2) + (nxt h x3 x4)))] [] h _
                refine X_b 2 13 (L := L_58) rfl rfl rfl ?_
                show X 58 13 [vR 6, vI x2, vI (nxt h x3 x4), vI (h 26 ((10 * x2) + (nxt h x3 x4)))] [vI 100, vI (h 26 ((10 * x2) + (nxt h x3 x4)))] h _
                refine X_icmp (L := L_58) (n' := 16) rfl rfl rfl rfl (fun z51 => ?_) (fun z51 => ?_)
                · have z51 : 100 ≤ h 26 ((10 * x2) + (nxt h x3 x4)) := z51
                  replace H := H.1 z51
                  show X 58 16 [vR 6, vI x2, vI (nxt h x3 x4), vI (h 26 ((10 * x2) + (nxt h x3 x4)))] [] h _
                  refine X_b 1 17 (L := L_58) rfl rfl rfl ?_
                  show X 58 17 [vR 6, vI x2, vI (nxt h x3 x4), vI (h 26 ((10 * x2) + (nxt h x3 x4)))] [vI 0] h _
                  refine X_zret (L := L_58) rfl rfl rfl rfl (by decide) ?_
                  show X 60 81 [vR 6, vI x1, vI x2, vI x3, vI x4, vI x5, vI (nxt h x3 x4), vI 1] [vI 0] h _
                  refine X_if (L := L_60) (n' := 98) rfl rfl rfl rfl (fun _ => ?_) (fun z => absurd (show (0 : Int) = (0 : Int) by decide) z)
                  show X 60 98 [vR 6, vI x1, vI x2, vI x3, vI x4, vI x5, vI (nxt h x3 x4), vI 1] [] h _
                  refine X_b 1 99 (L := L_60) rfl rfl rfl ?_
                  show X 60 99 [vR 6, vI x1, vI x2, vI x3, vI x4, vI x5, vI (nxt h x3 x4), vI 1] [vI 1] h _
                  refine X_goto (L := L_60) (n' := 101) rfl rfl rfl rfl ?_
                  show X 60 101 [vR 6, vI x1, vI x2, vI x3, vI x4, vI x5, vI (nxt h x3 x4), vI 1] [vI 1] h _
                  refine X_zret (L := L_60) rfl rfl rfl rfl (by decide) ?_
                  exact H
                · have z51 : h 26 ((10 * x2) + (nxt h x3 x4)) < 100 := (Int.not_le.mp z51)
                  replace H := H.2 z51
                  show X 58 14 [vR 6, vI x2, vI (nxt h x3 x4), vI (h 26 ((10 * x2) + (nxt h x3 x4)))] [] h _
                  obtain ⟨⟨c52, c53, c54, c55, c56, c57, c58, c59, c60⟩, H⟩ := H
                  refine X_b 1 15 (L := L_58) rfl rfl rfl ?_
                  show X 58 15 [vR 6, vI x2, vI (nxt h x3 x4), vI (h 26 ((10 * x2) + (nxt h x3 x4)))] [vI 1] h _
                  refine X_goto (L := L_58) (n' := 17) rfl rfl rfl rfl ?_
                  show X 58 17 [vR 6, vI x2, vI (nxt h x3 x4), vI (h 26 ((10 * x2) + (nxt h x3 x4)))] [vI 1] h _
                  refine X_zret (L := L_58) rfl rfl rfl rfl (by decide) ?_
                  show X 60 81 [vR 6, vI x1, vI x2, vI x3, vI x4, vI x5, vI (nxt h x3 x4), vI 1] [vI 1] h _
                  refine X_if (L := L_60) (n' := 98) rfl rfl rfl rfl (fun z => absurd z (show ¬ ((1 : Int) = (0 : Int)) by decide)) (fun _ => ?_)
                  show X 60 82 [vR 6, vI x1, vI x2, vI x3, vI x4, vI x5, vI (nxt h x3 x4), vI 1] [] h _
                  refine X_b 14 96 (L := L_60) rfl rfl rfl ?_
                  show (-2147483648 ≤ 10 * x2 ∧ 10 * x2 ≤ 2147483647) ∧ (-2147483648 ≤ (10 * x2) + (nxt h x3 x4) ∧ (10 * x2) + (nxt h x3 x4) ≤ 2147483647) ∧ (0 ≤ (10 * x2) + (nxt h x3 x4) ∧ (10 * x2) + (nxt h x3 x4) < 500) ∧ (-2147483648 ≤ x4 + 1 ∧ x4 + 1 ≤ 2147483647) ∧ X 60 96 [vR 6, vI x1, vI x2, vI x3, vI x4, vI x5, vI (nxt h x3 x4), vI 1] [vI x5, vI (x4 + 1), vI x3, vI (h 26 ((10 * x2) + (nxt h x3 x4))), vR 6] h _
                  refine ⟨c48, by have := c49; omega, c49, c52, ?_⟩
                  refine X_call 42 [vR 6, vI (h 26 ((10 * x2) + (nxt h x3 x4))), vI x3, vI (x4 + 1), vI x5] [] rfl (sg_calv rfl rfl rfl rfl rfl rfl rfl rfl rfl rfl rfl) (by decide) ?_
                  show X 42 0 [vR 6, vI (h 26 ((10 * x2) + (nxt h x3 x4))), vI x3, vI (x4 + 1), vI x5] [] h _
                  refine X_b 8 8 (L := L_42) rfl rfl rfl ?_
                  show (-2147483648 ≤ 270 * (h 26 ((10 * x2) + (nxt h x3 x4))) ∧ 270 * (h 26 ((10 * x2) + (nxt h x3 x4))) ≤ 2147483647) ∧ X 42 8 [vR 6, vI (h 26 ((10 * x2) + (nxt h x3 x4))), vI x3, vI (x4 + 1), vI x5] [vI x5, vI (x4 + 1), vI x3, vI (270 * (h 26 ((10 * x2) + (nxt h x3 x4)))), vR 25] h _
                  refine ⟨c53, ?_⟩
                  refine X_call 41 [vI x3, vI (x4 + 1), vI x5] [vI (270 * (h 26 ((10 * x2) + (nxt h x3 x4)))), vR 25] rfl (sg_cals rfl rfl rfl rfl rfl rfl rfl rfl rfl rfl) (by decide) ?_
                  show X 41 0 [vI x3, vI (x4 + 1), vI x5] [] h _
                  refine X_b 11 11 (L := L_41) rfl rfl rfl ?_
                  show (-2147483648 ≤ 30 * x3 ∧ 30 * x3 ≤ 2147483647) ∧ (-2147483648 ≤ 6 * (x4 + 1) ∧ 6 * (x4 + 1) ≤ 2147483647) ∧ (-2147483648 ≤ (30 * x3) + (6 * (x4 + 1)) ∧ (30 * x3) + (6 * (x4 + 1)) ≤ 2147483647) ∧ (-2147483648 ≤ ((30 * x3) + (6 * (x4 + 1))) + x5 ∧ ((30 * x3) + (6 * (x4 + 1))) + x5 ≤ 2147483647) ∧ (-2147483648 ≤ (((30 * x3) + (6 * (x4 + 1))) + x5) - 4 ∧ (((30 * x3) + (6 * (x4 + 1))) + x5) - 4 ≤ 2147483647) ∧ X 41 11 [vI x3, vI (x4 + 1), vI x5] [vI ((((30 * x3) + (6 * (x4 + 1))) + x5) - 4)] h _
                  refine ⟨c54, c55, c56, c57, c58, ?_⟩
                  refine X_iret (L := L_41) rfl rfl rfl rfl ?_
                  show X 42 9 [vR 6, vI (h 26 ((10 * x2) + (nxt h x3 x4))), vI x3, vI (x4 + 1), vI x5] [vI ((((30 * x3) + (6 * (x4 + 1))) + x5) - 4), vI (270 * (h 26 ((10 * x2) + (nxt h x3 x4)))), vR 25] h _
                  refine X_b 2 11 (L := L_42) rfl rfl rfl ?_
                  show (-2147483648 ≤ (270 * (h 26 ((10 * x2) + (nxt h x3 x4)))) + ((((30 * x3) + (6 * (x4 + 1))) + x5) - 4) ∧ (270 * (h 26 ((10 * x2) + (nxt h x3 x4)))) + ((((30 * x3) + (6 * (x4 + 1))) + x5) - 4) ≤ 2147483647) ∧ (0 ≤ (270 * (h 26 ((10 * x2) + (nxt h x3 x4)))) + ((((30 * x3) + (6 * (x4 + 1))) + x5) - 4) ∧ (270 * (h 26 ((10 * x2) + (nxt h x3 x4)))) + ((((30 * x3) + (6 * (x4 + 1))) + x5) - 4) < 13500) ∧ X 42 11 [vR 6, vI (h 26 ((10 * x2) + (nxt h x3 x4))), vI x3, vI (x4 + 1), vI x5] [vI (h 25 ((270 * (h 26 ((10 * x2) + (nxt h x3 x4)))) + ((((30 * x3) + (6 * (x4 + 1))) + x5) - 4)))] h _
                  refine ⟨by have := c59; omega, c59, ?_⟩
                  refine X_zret (L := L_42) rfl rfl rfl rfl c60 ?_
                  show X 60 97 [vR 6, vI x1, vI x2, vI x3, vI x4, vI x5, vI (nxt h x3 x4), vI 1] [vI (h 25 ((270 * (h 26 ((10 * x2) + (nxt h x3 x4)))) + ((((30 * x3) + (6 * (x4 + 1))) + x5) - 4)))] h _
                  refine X_if (L := L_60) (n' := 100) rfl rfl rfl rfl (fun z61 => ?_) (fun z61 => ?_)
                  · have z61 : ¬ h 25 ((270 * (h 26 ((10 * x2) + (nxt h x3 x4)))) + ((((30 * x3) + (6 * (x4 + 1))) + x5) - 4)) = 0 := z61
                    replace H := H.1 z61
                    show X 60 100 [vR 6, vI x1, vI x2, vI x3, vI x4, vI x5, vI (nxt h x3 x4), vI 1] [] h _
                    refine X_b 1 101 (L := L_60) rfl rfl rfl ?_
                    show X 60 101 [vR 6, vI x1, vI x2, vI x3, vI x4, vI x5, vI (nxt h x3 x4), vI 1] [vI 0] h _
                    refine X_zret (L := L_60) rfl rfl rfl rfl (by decide) ?_
                    exact H
                  · have z61 : h 25 ((270 * (h 26 ((10 * x2) + (nxt h x3 x4)))) + ((((30 * x3) + (6 * (x4 + 1))) + x5) - 4)) = 0 := (Classical.not_not.mp z61)
                    replace H := H.2 z61
                    show X 60 98 [vR 6, vI x1, vI x2, vI x3, vI x4, vI x5, vI (nxt h x3 x4), vI 1] [] h _
                    refine X_b 1 99 (L := L_60) rfl rfl rfl ?_
                    show X 60 99 [vR 6, vI x1, vI x2, vI x3, vI x4, vI x5, vI (nxt h x3 x4), vI 1] [vI 1] h _
                    refine X_goto (L := L_60) (n' := 101) rfl rfl rfl rfl ?_
                    show X 60 101 [vR 6, vI x1, vI x2, vI x3, vI x4, vI x5, vI (nxt h x3 x4), vI 1] [vI 1] h _
                    refine X_zret (L := L_60) rfl rfl rfl rfl (by decide) ?_
                    exact H
        · have z41 : x1 = 6 := (Classical.not_not.mp z41)
          replace H := H.2 z41
          show X 60 54 [vR 6, vI x1, vI x2, vI x3, vI x4, vI x5, vI (nxt h x3 x4), vI 1] [] h _
          refine X_b 2 56 (L := L_60) rfl rfl rfl ?_
          show X 60 56 [vR 6, vI x1, vI x2, vI x3, vI x4, vI x5, vI (nxt h x3 x4), vI 1] [vI (-1), vI (nxt h x3 x4)] h _
          refine X_icmp (L := L_60) (n' := 69) rfl rfl rfl rfl (fun z62 => ?_) (fun z62 => ?_)
          · have z62 : nxt h x3 x4 = (-1) := z62
            replace H := H.1 z62
            show X 60 69 [vR 6, vI x1, vI x2, vI x3, vI x4, vI x5, vI (nxt h x3 x4), vI 1] [] h _
            refine X_b 1 70 (L := L_60) rfl rfl rfl ?_
            show X 60 70 [vR 6, vI x1, vI x2, vI x3, vI x4, vI x5, vI (nxt h x3 x4), vI 1] [vI 0] h _
            refine X_zret (L := L_60) rfl rfl rfl rfl (by decide) ?_
            exact H
          · have z62 : ¬ nxt h x3 x4 = (-1) := z62
            replace H := H.2 z62
            show X 60 57 [vR 6, vI x1, vI x2, vI x3, vI x4, vI x5, vI (nxt h x3 x4), vI 1] [] h _
            refine X_b 2 59 (L := L_60) rfl rfl rfl ?_
            show X 60 59 [vR 6, vI x1, vI x2, vI x3, vI x4, vI x5, vI (nxt h x3 x4), vI 1] [vI 4, vI (nxt h x3 x4)] h _
            refine X_icmp (L := L_60) (n' := 69) rfl rfl rfl rfl (fun z63 => ?_) (fun z63 => ?_)
            · have z63 : 4 ≤ nxt h x3 x4 := z63
              replace H := H.1 z63
              show X 60 69 [vR 6, vI x1, vI x2, vI x3, vI x4, vI x5, vI (nxt h x3 x4), vI 1] [] h _
              refine X_b 1 70 (L := L_60) rfl rfl rfl ?_
              show X 60 70 [vR 6, vI x1, vI x2, vI x3, vI x4, vI x5, vI (nxt h x3 x4), vI 1] [vI 0] h _
              refine X_zret (L := L_60) rfl rfl rfl rfl (by decide) ?_
              exact H
            · have z63 : nxt h x3 x4 < 4 := (Int.not_le.mp z63)
              replace H := H.2 z63
              show X 60 60 [vR 6, vI x1, vI x2, vI x3, vI x4, vI x5, vI (nxt h x3 x4), vI 1] [] h _
              refine X_b 5 65 (L := L_60) rfl rfl rfl ?_
              show X 60 65 [vR 6, vI x1, vI x2, vI x3, vI x4, vI x5, vI (nxt h x3 x4), vI 1] [vI x5, vI x4, vI x3, vI x2, vR 6] h _
              refine X_call 59 [vR 6, vI x2, vI x3, vI x4, vI x5] [] rfl (sg_calv rfl rfl rfl rfl rfl rfl rfl rfl rfl rfl rfl) (by decide) ?_
              refine C_mono H (kI_to ?_)
              intro v64 h64 H
              show X 60 66 [vR 6, vI x1, vI x2, vI x3, vI x4, vI x5, vI (nxt h x3 x4), vI 1] [vI v64] h64 _
              refine X_if (L := L_60) (n' := 69) rfl rfl rfl rfl (fun z65 => ?_) (fun z65 => ?_)
              · have z65 : ¬ v64 = 0 := z65
                replace H := H.1 z65
                show X 60 69 [vR 6, vI x1, vI x2, vI x3, vI x4, vI x5, vI (nxt h x3 x4), vI 1] [] h64 _
                refine X_b 1 70 (L := L_60) rfl rfl rfl ?_
                show X 60 70 [vR 6, vI x1, vI x2, vI x3, vI x4, vI x5, vI (nxt h x3 x4), vI 1] [vI 0] h64 _
                refine X_zret (L := L_60) rfl rfl rfl rfl (by decide) ?_
                exact H
              · have z65 : v64 = 0 := (Classical.not_not.mp z65)
                replace H := H.2 z65
                show X 60 67 [vR 6, vI x1, vI x2, vI x3, vI x4, vI x5, vI (nxt h x3 x4), vI 1] [] h64 _
                refine X_b 1 68 (L := L_60) rfl rfl rfl ?_
                show X 60 68 [vR 6, vI x1, vI x2, vI x3, vI x4, vI x5, vI (nxt h x3 x4), vI 1] [vI 1] h64 _
                refine X_goto (L := L_60) (n' := 70) rfl rfl rfl rfl ?_
                show X 60 70 [vR 6, vI x1, vI x2, vI x3, vI x4, vI x5, vI (nxt h x3 x4), vI 1] [vI 1] h64 _
                refine X_zret (L := L_60) rfl rfl rfl rfl (by decide) ?_
                exact H
      · have z40 : x1 = 4 := (Classical.not_not.mp z40)
        replace H := H.2 z40
        show X 60 35 [vR 6, vI x1, vI x2, vI x3, vI x4, vI x5, vI (nxt h x3 x4), vI 1] [] h _
        refine X_b 1 36 (L := L_60) rfl rfl rfl ?_
        show X 60 36 [vR 6, vI x1, vI x2, vI x3, vI x4, vI x5, vI (nxt h x3 x4), vI 1] [vI 1] h _
        refine X_if (L := L_60) (n' := 49) rfl rfl rfl rfl (fun _ => ?_) (fun z => absurd (show ¬ (1 : Int) = (0 : Int) by decide) z)
        show X 60 49 [vR 6, vI x1, vI x2, vI x3, vI x4, vI x5, vI (nxt h x3 x4), vI 1] [] h _
        refine X_b 1 50 (L := L_60) rfl rfl rfl ?_
        show X 60 50 [vR 6, vI x1, vI x2, vI x3, vI x4, vI x5, vI (nxt h x3 x4), vI 1] [vI 0] h _
        refine X_zret (L := L_60) rfl rfl rfl rfl (by decide) ?_
        exact H
    · have z39 : x1 = 1 := (Classical.not_not.mp z39)
      replace H := H.2 z39
      show X 60 16 [vR 6, vI x1, vI x2, vI x3, vI x4, vI x5, vI (nxt h x3 x4), vI 1] [] h _
      refine X_b 1 17 (L := L_60) rfl rfl rfl ?_
      show X 60 17 [vR 6, vI x1, vI x2, vI x3, vI x4, vI x5, vI (nxt h x3 x4), vI 1] [vI x2] h _
      refine X_if (L := L_60) (n' := 24) rfl rfl rfl rfl (fun z66 => ?_) (fun z66 => ?_)
      · have z66 : ¬ x2 = 0 := z66
        replace H := H.1 z66
        show X 60 24 [vR 6, vI x1, vI x2, vI x3, vI x4, vI x5, vI (nxt h x3 x4), vI 1] [] h _
        refine X_b 1 25 (L := L_60) rfl rfl rfl ?_
        show X 60 25 [vR 6, vI x1, vI x2, vI x3, vI x4, vI x5, vI (nxt h x3 x4), vI 1] [vI 1] h _
        refine X_if (L := L_60) (n' := 30) rfl rfl rfl rfl (fun z => absurd z (show ¬ ((1 : Int) = (0 : Int)) by decide)) (fun _ => ?_)
        show X 60 26 [vR 6, vI x1, vI x2, vI x3, vI x4, vI x5, vI (nxt h x3 x4), vI 1] [] h _
        refine X_b 1 27 (L := L_60) rfl rfl rfl ?_
        show X 60 27 [vR 6, vI x1, vI x2, vI x3, vI x4, vI x5, vI (nxt h x3 x4), vI 1] [vI x4] h _
        refine X_if (L := L_60) (n' := 30) rfl rfl rfl rfl (fun z67 => ?_) (fun z67 => ?_)
        · have z67 : ¬ x4 = 0 := z67
          replace H := H.1 z67
          show X 60 30 [vR 6, vI x1, vI x2, vI x3, vI x4, vI x5, vI (nxt h x3 x4), vI 1] [] h _
          refine X_b 1 31 (L := L_60) rfl rfl rfl ?_
          show X 60 31 [vR 6, vI x1, vI x2, vI x3, vI x4, vI x5, vI (nxt h x3 x4), vI 1] [vI 0] h _
          refine X_zret (L := L_60) rfl rfl rfl rfl (by decide) ?_
          exact H
        · have z67 : x4 = 0 := (Classical.not_not.mp z67)
          replace H := H.2 z67
          show X 60 28 [vR 6, vI x1, vI x2, vI x3, vI x4, vI x5, vI (nxt h x3 x4), vI 1] [] h _
          refine X_b 1 29 (L := L_60) rfl rfl rfl ?_
          show X 60 29 [vR 6, vI x1, vI x2, vI x3, vI x4, vI x5, vI (nxt h x3 x4), vI 1] [vI 1] h _
          refine X_goto (L := L_60) (n' := 31) rfl rfl rfl rfl ?_
          show X 60 31 [vR 6, vI x1, vI x2, vI x3, vI x4, vI x5, vI (nxt h x3 x4), vI 1] [vI 1] h _
          refine X_zret (L := L_60) rfl rfl rfl rfl (by decide) ?_
          exact H
      · have z66 : x2 = 0 := (Classical.not_not.mp z66)
        replace H := H.2 z66
        show X 60 18 [vR 6, vI x1, vI x2, vI x3, vI x4, vI x5, vI (nxt h x3 x4), vI 1] [] h _
        refine X_b 1 19 (L := L_60) rfl rfl rfl ?_
        show X 60 19 [vR 6, vI x1, vI x2, vI x3, vI x4, vI x5, vI (nxt h x3 x4), vI 1] [vI x4] h _
        refine X_if (L := L_60) (n' := 22) rfl rfl rfl rfl (fun z68 => ?_) (fun z68 => ?_)
        · have z68 : x4 ≤ 0 := z68
          replace H := H.1 z68
          show X 60 22 [vR 6, vI x1, vI x2, vI x3, vI x4, vI x5, vI (nxt h x3 x4), vI 1] [] h _
          refine X_b 1 23 (L := L_60) rfl rfl rfl ?_
          show X 60 23 [vR 6, vI x1, vI x2, vI x3, vI x4, vI x5, vI (nxt h x3 x4), vI 1] [vI 0] h _
          refine X_goto (L := L_60) (n' := 31) rfl rfl rfl rfl ?_
          show X 60 31 [vR 6, vI x1, vI x2, vI x3, vI x4, vI x5, vI (nxt h x3 x4), vI 1] [vI 0] h _
          refine X_zret (L := L_60) rfl rfl rfl rfl (by decide) ?_
          exact H
        · have z68 : 0 < x4 := (Int.not_le.mp z68)
          replace H := H.2 z68
          show X 60 20 [vR 6, vI x1, vI x2, vI x3, vI x4, vI x5, vI (nxt h x3 x4), vI 1] [] h _
          refine X_b 1 21 (L := L_60) rfl rfl rfl ?_
          show X 60 21 [vR 6, vI x1, vI x2, vI x3, vI x4, vI x5, vI (nxt h x3 x4), vI 1] [vI 1] h _
          refine X_goto (L := L_60) (n' := 31) rfl rfl rfl rfl ?_
          show X 60 31 [vR 6, vI x1, vI x2, vI x3, vI x4, vI x5, vI (nxt h x3 x4), vI 1] [vI 1] h _
          refine X_zret (L := L_60) rfl rfl rfl rfl (by decide) ?_
          exact H

/-- PPModel.hasBadItem, row 0 -/
theorem s_61_0 (x1 : Int) (h : ab_S) (K : ab_O → ab_S → Prop) (H : X 61 2 [vR 6, vI x1, vI 0, vJ 0, vJ 0, vJ 0, vJ 0] [] h K) : C 61 [vR 6, vI x1] h K := by
  show X 61 0 [vR 6, vI x1, vJ 0, vJ 0, vJ 0, vJ 0, vJ 0] [] h K
  refine X_b 2 2 (L := L_61) rfl rfl rfl ?_
  show X 61 2 [vR 6, vI x1, vI 0, vJ 0, vJ 0, vJ 0, vJ 0] [] h _
  exact H

/-- PPModel.hasBadItem, row 2 -/
theorem s_61_2 (x1 x2 : Int) (w3 w4 w5 w6 : ab_V) (h : ab_S) (K : ab_O → ab_S → Prop) (H : ((h 6 7 ≤ x2 → K (oI 0) h) ∧ (x2 < h 6 7 → X 61 8 [vR 6, vI x1, vI x2, vI 0, w4, w5, w6] [] h K))) : X 61 2 [vR 6, vI x1, vI x2, w3, w4, w5, w6] [] h K := by
  refine X_b 3 5 (L := L_61) rfl rfl rfl ?_
  show X 61 5 [vR 6, vI x1, vI x2, w3, w4, w5, w6] [vI (h 6 7), vI x2] h _
  refine X_icmp (L := L_61) (n' := 56) rfl rfl rfl rfl (fun z1 => ?_) (fun z1 => ?_)
  · have z1 : h 6 7 ≤ x2 := z1
    replace H := H.1 z1
    show X 61 56 [vR 6, vI x1, vI x2, w3, w4, w5, w6] [] h _
    refine X_b 1 57 (L := L_61) rfl rfl rfl ?_
    show X 61 57 [vR 6, vI x1, vI x2, w3, w4, w5, w6] [vI 0] h _
    refine X_zret (L := L_61) rfl rfl rfl rfl (by decide) ?_
    exact H
  · have z1 : x2 < h 6 7 := (Int.not_le.mp z1)
    replace H := H.2 z1
    show X 61 6 [vR 6, vI x1, vI x2, w3, w4, w5, w6] [] h _
    refine X_b 2 8 (L := L_61) rfl rfl rfl ?_
    show X 61 8 [vR 6, vI x1, vI x2, vI 0, w4, w5, w6] [] h _
    exact H

/-- PPModel.hasBadItem, row 8 -/
theorem s_61_8 (x1 x2 x3 : Int) (w4 w5 w6 : ab_V) (h : ab_S) (K : ab_O → ab_S → Prop) (H : ((270 ≤ x3 → ((-2147483648 ≤ x2 + 1 ∧ x2 + 1 ≤ 2147483647)) ∧ X 61 2 [vR 6, vI x1, vI (x2 + 1), vI x3, w4, w5, w6] [] h K) ∧ (x3 < 270 → ((-2147483648 ≤ 270 * x2 ∧ 270 * x2 ≤ 2147483647) ∧ (0 ≤ (270 * x2) + x3 ∧ (270 * x2) + x3 < 13500)) ∧ ((¬ h 25 ((270 * x2) + x3) = 0 → ((0 ≤ x3 ∧ (0 : Int) < 30) ∧ (0 ≤ x3 % 30 ∧ (0 : Int) < 6) ∧ (0 ≤ x3 ∧ (0 : Int) < 6) ∧ (-2147483648 ≤ (x3 % 6) + 4 ∧ (x3 % 6) + 4 ≤ 2147483647)) ∧ C 60 [vR 6, vI x1, vI x2, vI (x3 / 30), vI ((x3 % 30) / 6), vI ((x3 % 6) + 4)] h (kI (fun v10 h10 => ((v10 = 0 → ((-2147483648 ≤ x3 + 1 ∧ x3 + 1 ≤ 2147483647)) ∧ X 61 8 [vR 6, vI x1, vI x2, vI (x3 + 1), vI (x3 / 30), vI ((x3 % 30) / 6), vI ((x3 % 6) + 4)] [] h10 K) ∧ (¬ v10 = 0 → K (oI 1) (ab_up (ab_up (ab_up (ab_up h10 6 13 x2) 6 14 (x3 / 30)) 6 15 ((x3 % 30) / 6)) 6 16 ((x3 % 6) + 4))))))) ∧ (h 25 ((270 * x2) + x3) = 0 → ((-2147483648 ≤ x3 + 1 ∧ x3 + 1 ≤ 2147483647)) ∧ X 61 8 [vR 6, vI x1, vI x2, vI (x3 + 1), w4, w5, w6] [] h K))))) : X 61 8 [vR 6, vI x1, vI x2, vI x3, w4, w5, w6] [] h K := by
  refine X_b 2 10 (L := L_61) rfl rfl rfl ?_
  show X 61 10 [vR 6, vI x1, vI x2, vI x3, w4, w5, w6] [vI 270, vI x3] h _
  refine X_icmp (L := L_61) (n' := 54) rfl rfl rfl rfl (fun z1 => ?_) (fun z1 => ?_)
  · have z1 : 270 ≤ x3 := z1
    replace H := H.1 z1
    show X 61 54 [vR 6, vI x1, vI x2, vI x3, w4, w5, w6] [] h _
    obtain ⟨c2, H⟩ := H
    refine X_b 1 55 (L := L_61) rfl rfl rfl ?_
    show (-2147483648 ≤ x2 + 1 ∧ x2 + 1 ≤ 2147483647) ∧ X 61 55 [vR 6, vI x1, vI (x2 + 1), vI x3, w4, w5, w6] [] h _
    refine ⟨c2, ?_⟩
    refine X_goto (L := L_61) (n' := 2) rfl rfl rfl rfl ?_
    show X 61 2 [vR 6, vI x1, vI (x2 + 1), vI x3, w4, w5, w6] [] h _
    exact H
  · have z1 : x3 < 270 := (Int.not_le.mp z1)
    replace H := H.2 z1
    show X 61 11 [vR 6, vI x1, vI x2, vI x3, w4, w5, w6] [] h _
    obtain ⟨⟨c3, c4⟩, H⟩ := H
    refine X_b 8 19 (L := L_61) rfl rfl rfl ?_
    show (-2147483648 ≤ 270 * x2 ∧ 270 * x2 ≤ 2147483647) ∧ (-2147483648 ≤ (270 * x2) + x3 ∧ (270 * x2) + x3 ≤ 2147483647) ∧ (0 ≤ (270 * x2) + x3 ∧ (270 * x2) + x3 < 13500) ∧ X 61 19 [vR 6, vI x1, vI x2, vI x3, w4, w5, w6] [vI (h 25 ((270 * x2) + x3))] h _
    refine ⟨c3, by have := c4; omega, c4, ?_⟩
    refine X_if (L := L_61) (n' := 21) rfl rfl rfl rfl (fun z5 => ?_) (fun z5 => ?_)
    · have z5 : ¬ h 25 ((270 * x2) + x3) = 0 := z5
      replace H := H.1 z5
      show X 61 21 [vR 6, vI x1, vI x2, vI x3, w4, w5, w6] [] h _
      obtain ⟨⟨c6, c7, c8, c9⟩, H⟩ := H
      refine X_b 22 43 (L := L_61) rfl rfl rfl ?_
      show (0 ≤ x3 ∧ (0 : Int) < 30) ∧ (0 ≤ x3 ∧ (0 : Int) < 30) ∧ (0 ≤ x3 % 30 ∧ (0 : Int) < 6) ∧ (0 ≤ x3 ∧ (0 : Int) < 6) ∧ (-2147483648 ≤ (x3 % 6) + 4 ∧ (x3 % 6) + 4 ≤ 2147483647) ∧ X 61 43 [vR 6, vI x1, vI x2, vI x3, vI (x3 / 30), vI ((x3 % 30) / 6), vI ((x3 % 6) + 4)] [vI ((x3 % 6) + 4), vI ((x3 % 30) / 6), vI (x3 / 30), vI x2, vI x1, vR 6] h _
      refine ⟨c6, c6, c7, c8, c9, ?_⟩
      refine X_call 60 [vR 6, vI x1, vI x2, vI (x3 / 30), vI ((x3 % 30) / 6), vI ((x3 % 6) + 4)] [] rfl (sg_calv rfl rfl rfl rfl rfl rfl rfl rfl rfl rfl rfl) (by decide) ?_
      refine C_mono H (kI_to ?_)
      intro v10 h10 H
      show X 61 44 [vR 6, vI x1, vI x2, vI x3, vI (x3 / 30), vI ((x3 % 30) / 6), vI ((x3 % 6) + 4)] [vI v10] h10 _
      refine X_if (L := L_61) (n' := 52) rfl rfl rfl rfl (fun z11 => ?_) (fun z11 => ?_)
      · have z11 : v10 = 0 := z11
        replace H := H.1 z11
        show X 61 52 [vR 6, vI x1, vI x2, vI x3, vI (x3 / 30), vI ((x3 % 30) / 6), vI ((x3 % 6) + 4)] [] h10 _
        obtain ⟨c12, H⟩ := H
        refine X_b 1 53 (L := L_61) rfl rfl rfl ?_
        show (-2147483648 ≤ x3 + 1 ∧ x3 + 1 ≤ 2147483647) ∧ X 61 53 [vR 6, vI x1, vI x2, vI (x3 + 1), vI (x3 / 30), vI ((x3 % 30) / 6), vI ((x3 % 6) + 4)] [] h10 _
        refine ⟨c12, ?_⟩
        refine X_goto (L := L_61) (n' := 8) rfl rfl rfl rfl ?_
        show X 61 8 [vR 6, vI x1, vI x2, vI (x3 + 1), vI (x3 / 30), vI ((x3 % 30) / 6), vI ((x3 % 6) + 4)] [] h10 _
        exact H
      · have z11 : ¬ v10 = 0 := z11
        replace H := H.2 z11
        show X 61 45 [vR 6, vI x1, vI x2, vI x3, vI (x3 / 30), vI ((x3 % 30) / 6), vI ((x3 % 6) + 4)] [] h10 _
        refine X_b 5 50 (L := L_61) rfl rfl rfl ?_
        show X 61 50 [vR 6, vI x1, vI x2, vI x3, vI (x3 / 30), vI ((x3 % 30) / 6), vI ((x3 % 6) + 4)] [vI ((x3 % 6) + 4), vI ((x3 % 30) / 6), vI (x3 / 30), vI x2, vR 6] h10 _
        refine X_call 31 [vR 6, vI x2, vI (x3 / 30), vI ((x3 % 30) / 6), vI ((x3 % 6) + 4)] [] rfl (sg_calv rfl rfl rfl rfl rfl rfl rfl rfl rfl rfl rfl) (by decide) ?_
        show X 31 0 [vR 6, vI x2, vI (x3 / 30), vI ((x3 % 30) / 6), vI ((x3 % 6) + 4)] [] h10 _
        refine X_b 13 13 (L := L_31) rfl rfl rfl ?_
        show X 31 13 [vR 6, vI x2, vI (x3 / 30), vI ((x3 % 30) / 6), vI ((x3 % 6) + 4)] [vI 1] (ab_up (ab_up (ab_up (ab_up h10 6 13 x2) 6 14 (x3 / 30)) 6 15 ((x3 % 30) / 6)) 6 16 ((x3 % 6) + 4)) _
        refine X_zret (L := L_31) rfl rfl rfl rfl (by decide) ?_
        show X 61 51 [vR 6, vI x1, vI x2, vI x3, vI (x3 / 30), vI ((x3 % 30) / 6), vI ((x3 % 6) + 4)] [vI 1] (ab_up (ab_up (ab_up (ab_up h10 6 13 x2) 6 14 (x3 / 30)) 6 15 ((x3 % 30) / 6)) 6 16 ((x3 % 6) + 4)) _
        refine X_zret (L := L_61) rfl rfl rfl rfl (by decide) ?_
        exact H
    · have z5 : h 25 ((270 * x2) + x3) = 0 := (Classical.not_not.mp z5)
      replace H := H.2 z5
      show X 61 20 [vR 6, vI x1, vI x2, vI x3, w4, w5, w6] [] h _
      obtain ⟨c13, H⟩ := H
      refine X_goto (L := L_61) (n' := 52) rfl rfl rfl rfl ?_
      show X 61 52 [vR 6, vI x1, vI x2, vI x3, w4, w5, w6] [] h _
      refine X_b 1 53 (L := L_61) rfl rfl rfl ?_
      show (-2147483648 ≤ x3 + 1 ∧ x3 + 1 ≤ 2147483647) ∧ X 61 53 [vR 6, vI x1, vI x2, vI (x3 + 1), w4, w5, w6] [] h _
      refine ⟨c13, ?_⟩
      refine X_goto (L := L_61) (n' := 8) rfl rfl rfl rfl ?_
      show X 61 8 [vR 6, vI x1, vI x2, vI (x3 + 1), w4, w5, w6] [] h _
      exact H

set_option maxRecDepth 8192 in
/-- PPModel.isForeign, row 0 -/
theorem s_62_0 (x1 x2 : Int) (h : ab_S) (K : ab_O → ab_S → Prop) (H : ((-2147483648 ≤ 10 * x1 ∧ 10 * x1 ≤ 2147483647) ∧ (0 ≤ (10 * x1) + x2 ∧ (10 * x1) + x2 < 500)) ∧ ((h 26 ((10 * x1) + x2) < 0 → K (oI 0) h) ∧ (0 ≤ h 26 ((10 * x1) + x2) → ((100 ≤ h 26 ((10 * x1) + x2) → K (oI 0) h) ∧ (h 26 ((10 * x1) + x2) < 100 → X 62 20 [vR 6, vI x1, vI x2, vI (h 26 ((10 * x1) + x2)), vI 0, vI 0, vJ 0, vJ 0] [] h K))))) : C 62 [vR 6, vI x1, vI x2] h K := by
  show X 62 0 [vR 6, vI x1, vI x2, vJ 0, vJ 0, vJ 0, vJ 0, vJ 0] [] h K
  obtain ⟨⟨c1, c2⟩, H⟩ := H
  refine X_b 3 3 (L := L_62) rfl rfl rfl ?_
  show X 62 3 [vR 6, vI x1, vI x2, vJ 0, vJ 0, vJ 0, vJ 0, vJ 0] [vI x2, vI x1, vR 6] h _
  refine X_call 58 [vR 6, vI x1, vI x2] [] rfl (sg_calv rfl rfl rfl rfl rfl rfl rfl rfl rfl rfl rfl) (by decide) ?_
  show X 58 0 [vR 6, vI x1, vI x2, vJ 0] [] h _
  refine X_b 10 10 (L := L_58) rfl rfl rfl ?_
  show (-2147483648 ≤ 10 * x1 ∧ 10 * x1 ≤ 2147483647) ∧ (-2147483648 ≤ (10 * x1) + x2 ∧ (10 * x1) + x2 ≤ 2147483647) ∧ (0 ≤ (10 * x1) + x2 ∧ (10 * x1) + x2 < 500) ∧ X 58 10 [vR 6, vI x1, vI x2, vI (h 26 ((10 * x1) + x2))] [vI (h 26 ((10 * x1) + x2))] h _
  refine ⟨c1, by have := c2; omega, c2, ?_⟩
  refine X_if (L := L_58) (n' := 16) rfl rfl rfl rfl (fun z3 => ?_) (fun z3 => ?_)
  · have z3 : h 26 ((10 * x1) + x2) < 0 := z3
    replace H := H.1 z3
    show X 58 16 [vR 6, vI x1, vI x2, vI (h 26 ((10 * x1) + x2))] [] h _
    refine X_b 1 17 (L := L_58) rfl rfl rfl ?_
    show X 58 17 [vR 6, vI x1, vI x2, vI (h 26 ((10 * x1) + x2))] [vI 0] h _
    refine X_zret (L := L_58) rfl rfl rfl rfl (by decide) ?_
    show X 62 4 [vR 6, vI x1, vI x2, vJ 0, vJ 0, vJ 0, vJ 0, vJ 0] [vI 0] h _
    refine X_if (L := L_62) (n' := 7) rfl rfl rfl rfl (fun z => absurd z (show ¬ (¬ (0 : Int) = (0 : Int)) by decide)) (fun _ => ?_)
    show X 62 5 [vR 6, vI x1, vI x2, vJ 0, vJ 0, vJ 0, vJ 0, vJ 0] [] h _
    refine X_b 1 6 (L := L_62) rfl rfl rfl ?_
    show X 62 6 [vR 6, vI x1, vI x2, vJ 0, vJ 0, vJ 0, vJ 0, vJ 0] [vI 0] h _
    refine X_zret (L := L_62) rfl rfl rfl rfl (by decide) ?_
    exact H
  · have z3 : 0 ≤ h 26 ((10 * x1) + x2) := (Int.not_lt.mp z3)
    replace H := H.2 z3
    show X 58 11 [vR 6, vI x1, vI x2, vI (h 26 ((10 * x1) + x2))] [] h _
    refine X_b 2 13 (L := L_58) rfl rfl rfl ?_
    show X 58 13 [vR 6, vI x1, vI x2, vI (h 26 ((10 * x1) + x2))] [vI 100, vI (h 26 ((10 * x1) + x2))] h _
    refine X_icmp (L := L_58) (n' := 16) rfl rfl rfl rfl (fun z4 => ?_) (fun z4 => ?_)
    · have z4 : 100 ≤ h 26 ((10 * x1) + x2) := z4
      replace H := H.1 z4
      show X 58 16 [vR 6, vI x1, vI x2, vI (h 26 ((10 * x1) + x2))] [] h _
      refine X_b 1 17 (L := L_58) rfl rfl rfl ?_
      show X 58 17 [vR 6, vI x1, vI x2, vI (h 26 ((10 * x1) + x2))] [vI 0] h _
      refine X_zret (L := L_58) rfl rfl rfl rfl (by decide) ?_
      show X 62 4 [vR 6, vI x1, vI x2, vJ 0, vJ 0, vJ 0, vJ 0, vJ 0] [vI 0] h _
      refine X_if (L := L_62) (n' := 7) rfl rfl rfl rfl (fun z => absurd z (show ¬ (¬ (0 : Int) = (0 : Int)) by decide)) (fun _ => ?_)
      show X 62 5 [vR 6, vI x1, vI x2, vJ 0, vJ 0, vJ 0, vJ 0, vJ 0] [] h _
      refine X_b 1 6 (L := L_62) rfl rfl rfl ?_
      show X 62 6 [vR 6, vI x1, vI x2, vJ 0, vJ 0, vJ 0, vJ 0, vJ 0] [vI 0] h _
      refine X_zret (L := L_62) rfl rfl rfl rfl (by decide) ?_
      exact H
    · have z4 : h 26 ((10 * x1) + x2) < 100 := (Int.not_le.mp z4)
      replace H := H.2 z4
      show X 58 14 [vR 6, vI x1, vI x2, vI (h 26 ((10 * x1) + x2))] [] h _
      refine X_b 1 15 (L := L_58) rfl rfl rfl ?_
      show X 58 15 [vR 6, vI x1, vI x2, vI (h 26 ((10 * x1) + x2))] [vI 1] h _
      refine X_goto (L := L_58) (n' := 17) rfl rfl rfl rfl ?_
      show X 58 17 [vR 6, vI x1, vI x2, vI (h 26 ((10 * x1) + x2))] [vI 1] h _
      refine X_zret (L := L_58) rfl rfl rfl rfl (by decide) ?_
      show X 62 4 [vR 6, vI x1, vI x2, vJ 0, vJ 0, vJ 0, vJ 0, vJ 0] [vI 1] h _
      refine X_if (L := L_62) (n' := 7) rfl rfl rfl rfl (fun _ => ?_) (fun z => absurd (show ¬ (1 : Int) = (0 : Int) by decide) z)
      show X 62 7 [vR 6, vI x1, vI x2, vJ 0, vJ 0, vJ 0, vJ 0, vJ 0] [] h _
      refine X_b 13 20 (L := L_62) rfl rfl rfl ?_
      show (-2147483648 ≤ 10 * x1 ∧ 10 * x1 ≤ 2147483647) ∧ (-2147483648 ≤ (10 * x1) + x2 ∧ (10 * x1) + x2 ≤ 2147483647) ∧ (0 ≤ (10 * x1) + x2 ∧ (10 * x1) + x2 < 500) ∧ X 62 20 [vR 6, vI x1, vI x2, vI (h 26 ((10 * x1) + x2)), vI 0, vI 0, vJ 0, vJ 0] [] h _
      refine ⟨c1, by have := c2; omega, c2, ?_⟩
      exact H

set_option maxRecDepth 8192 in
/-- PPModel.isForeign, row 20 -/
theorem s_62_20 (x1 x2 x3 x4 x5 : Int) (w6 w7 : ab_V) (h : ab_S) (K : ab_O → ab_S → Prop) (H : ((270 ≤ x5 → ((x4 = 0 ∨ x4 = 1)) ∧ K (oI x4) h) ∧ (x5 < 270 → ((0 ≤ x5 ∧ (0 : Int) < 30) ∧ (0 ≤ x5 % 30 ∧ (0 : Int) < 6)) ∧ (((x5 % 30) / 6 ≤ 0 → ((-2147483648 ≤ x5 + 1 ∧ x5 + 1 ≤ 2147483647)) ∧ X 62 20 [vR 6, vI x1, vI x2, vI x3, vI x4, vI (x5 + 1), vI (x5 / 30), vI ((x5 % 30) / 6)] [] h K) ∧ (0 < (x5 % 30) / 6 → ((-2147483648 ≤ 270 * x3 ∧ 270 * x3 ≤ 2147483647) ∧ (0 ≤ (270 * x3) + x5 ∧ (270 * x3) + x5 < 13500)) ∧ ((h 25 ((270 * x3) + x5) = 0 → ((-2147483648 ≤ x5 + 1 ∧ x5 + 1 ≤ 2147483647)) ∧ X 62 20 [vR 6, vI x1, vI x2, vI x3, vI x4, vI (x5 + 1), vI (x5 / 30), vI ((x5 % 30) / 6)] [] h K) ∧ (¬ h 25 ((270 * x3) + x5) = 0 → ((¬ x4 = 0 → ((-2147483648 ≤ x5 + 1 ∧ x5 + 1 ≤ 2147483647)) ∧ X 62 20 [vR 6, vI x1, vI x2, vI x3, vI 1, vI (x5 + 1), vI (x5 / 30), vI ((x5 % 30) / 6)] [] h K) ∧ (x4 = 0 → ((-2147483648 ≤ ((x5 % 30) / 6) - 1 ∧ ((x5 % 30) / 6) - 1 ≤ 2147483647) ∧ (0 ≤ x5 / 30 ∧ (x5 / 30 = h 6 1 ∨ (x5 / 30 < 8 ∧ h 21 (x5 / 30) ≤ 4)) ∧ 0 ≤ ((x5 % 30) / 6) - 1)) ∧ ((¬ nxt h (x5 / 30) (((x5 % 30) / 6) - 1) = x2 → ((-2147483648 ≤ x5 + 1 ∧ x5 + 1 ≤ 2147483647)) ∧ X 62 20 [vR 6, vI x1, vI x2, vI x3, vI 1, vI (x5 + 1), vI (x5 / 30), vI ((x5 % 30) / 6)] [] h K) ∧ (nxt h (x5 / 30) (((x5 % 30) / 6) - 1) = x2 → ((-2147483648 ≤ 270 * x1 ∧ 270 * x1 ≤ 2147483647) ∧ (-2147483648 ≤ (270 * x1) + x5 ∧ (270 * x1) + x5 ≤ 2147483647) ∧ (0 ≤ ((270 * x1) + x5) - 6 ∧ ((270 * x1) + x5) - 6 < 13500)) ∧ ((¬ h 25 (((270 * x1) + x5) - 6) = 0 → ((-2147483648 ≤ x5 + 1 ∧ x5 + 1 ≤ 2147483647)) ∧ X 62 20 [vR 6, vI x1, vI x2, vI x3, vI 0, vI (x5 + 1), vI (x5 / 30), vI ((x5 % 30) / 6)] [] h K) ∧ (h 25 (((270 * x1) + x5) - 6) = 0 → ((-2147483648 ≤ x5 + 1 ∧ x5 + 1 ≤ 2147483647)) ∧ X 62 20 [vR 6, vI x1, vI x2, vI x3, vI 1, vI (x5 + 1), vI (x5 / 30), vI ((x5 % 30) / 6)] [] h K))))))))))))) : X 62 20 [vR 6, vI x1, vI x2, vI x3, vI x4, vI x5, w6, w7] [] h K := by
  refine X_b 2 22 (L := L_62) rfl rfl rfl ?_
  show X 62 22 [vR 6, vI x1, vI x2, vI x3, vI x4, vI x5, w6, w7] [vI 270, vI x5] h _
  refine X_icmp (L := L_62) (n' := 71) rfl rfl rfl rfl (fun z1 => ?_) (fun z1 => ?_)
  · have z1 : 270 ≤ x5 := z1
    replace H := H.1 z1
    show X 62 71 [vR 6, vI x1, vI x2, vI x3, vI x4, vI x5, w6, w7] [] h _
    obtain ⟨c2, H⟩ := H
    refine X_b 1 72 (L := L_62) rfl rfl rfl ?_
    show X 62 72 [vR 6, vI x1, vI x2, vI x3, vI x4, vI x5, w6, w7] [vI x4] h _
    refine X_zret (L := L_62) rfl rfl rfl rfl c2 ?_
    exact H
  · have z1 : x5 < 270 := (Int.not_le.mp z1)
    replace H := H.2 z1
    show X 62 23 [vR 6, vI x1, vI x2, vI x3, vI x4, vI x5, w6, w7] [] h _
    obtain ⟨⟨c3, c4⟩, H⟩ := H
    refine X_b 11 34 (L := L_62) rfl rfl rfl ?_
    show (0 ≤ x5 ∧ (0 : Int) < 30) ∧ (0 ≤ x5 ∧ (0 : Int) < 30) ∧ (0 ≤ x5 % 30 ∧ (0 : Int) < 6) ∧ X 62 34 [vR 6, vI x1, vI x2, vI x3, vI x4, vI x5, vI (x5 / 30), vI ((x5 % 30) / 6)] [vI ((x5 % 30) / 6)] h _
    refine ⟨c3, c3, c4, ?_⟩
    refine X_if (L := L_62) (n' := 69) rfl rfl rfl rfl (fun z5 => ?_) (fun z5 => ?_)
    · have z5 : (x5 % 30) / 6 ≤ 0 := z5
      replace H := H.1 z5
      show X 62 69 [vR 6, vI x1, vI x2, vI x3, vI x4, vI x5, vI (x5 / 30), vI ((x5 % 30) / 6)] [] h _
      obtain ⟨c6, H⟩ := H
      refine X_b 1 70 (L := L_62) rfl rfl rfl ?_
      show (-2147483648 ≤ x5 + 1 ∧ x5 + 1 ≤ 2147483647) ∧ X 62 70 [vR 6, vI x1, vI x2, vI x3, vI x4, vI (x5 + 1), vI (x5 / 30), vI ((x5 % 30) / 6)] [] h _
      refine ⟨c6, ?_⟩
      refine X_goto (L := L_62) (n' := 20) rfl rfl rfl rfl ?_
      show X 62 20 [vR 6, vI x1, vI x2, vI x3, vI x4, vI (x5 + 1), vI (x5 / 30), vI ((x5 % 30) / 6)] [] h _
      exact H
    · have z5 : 0 < (x5 % 30) / 6 := (Int.not_le.mp z5)
      replace H := H.2 z5
      show X 62 35 [vR 6, vI x1, vI x2, vI x3, vI x4, vI x5, vI (x5 / 30), vI ((x5 % 30) / 6)] [] h _
      obtain ⟨⟨c7, c8⟩, H⟩ := H
      refine X_b 8 43 (L := L_62) rfl rfl rfl ?_
      show (-2147483648 ≤ 270 * x3 ∧ 270 * x3 ≤ 2147483647) ∧ (-2147483648 ≤ (270 * x3) + x5 ∧ (270 * x3) + x5 ≤ 2147483647) ∧ (0 ≤ (270 * x3) + x5 ∧ (270 * x3) + x5 < 13500) ∧ X 62 43 [vR 6, vI x1, vI x2, vI x3, vI x4, vI x5, vI (x5 / 30), vI ((x5 % 30) / 6)] [vI (h 25 ((270 * x3) + x5))] h _
      refine ⟨c7, by have := c8; omega, c8, ?_⟩
      refine X_if (L := L_62) (n' := 69) rfl rfl rfl rfl (fun z9 => ?_) (fun z9 => ?_)
      · have z9 : h 25 ((270 * x3) + x5) = 0 := z9
        replace H := H.1 z9
        show X 62 69 [vR 6, vI x1, vI x2, vI x3, vI x4, vI x5, vI (x5 / 30), vI ((x5 % 30) / 6)] [] h _
        obtain ⟨c10, H⟩ := H
        refine X_b 1 70 (L := L_62) rfl rfl rfl ?_
        show (-2147483648 ≤ x5 + 1 ∧ x5 + 1 ≤ 2147483647) ∧ X 62 70 [vR 6, vI x1, vI x2, vI x3, vI x4, vI (x5 + 1), vI (x5 / 30), vI ((x5 % 30) / 6)] [] h _
        refine ⟨c10, ?_⟩
        refine X_goto (L := L_62) (n' := 20) rfl rfl rfl rfl ?_
        show X 62 20 [vR 6, vI x1, vI x2, vI x3, vI x4, vI (x5 + 1), vI (x5 / 30), vI ((x5 % 30) / 6)] [] h _
        exact H
      · have z9 : ¬ h 25 ((270 * x3) + x5) = 0 := z9
        replace H := H.2 z9
        show X 62 44 [vR 6, vI x1, vI x2, vI x3, vI x4, vI x5, vI (x5 / 30), vI ((x5 % 30) / 6)] [] h _
        refine X_b 1 45 (L := L_62) rfl rfl rfl ?_
        show X 62 45 [vR 6, vI x1, vI x2, vI x3, vI x4, vI x5, vI (x5 / 30), vI ((x5 % 30) / 6)] [vI x4] h _
        refine X_if (L := L_62) (n' := 65) rfl rfl rfl rfl (fun z11 => ?_) (fun z11 => ?_)
        · have z11 : ¬ x4 = 0 := z11
          replace H := H.1 z11
          show X 62 65 [vR 6, vI x1, vI x2, vI x3, vI x4, vI x5, vI (x5 / 30), vI ((x5 % 30) / 6)] [] h _
          obtain ⟨c12, H⟩ := H
          refine X_b 1 66 (L := L_62) rfl rfl rfl ?_
          show X 62 66 [vR 6, vI x1, vI x2, vI x3, vI x4, vI x5, vI (x5 / 30), vI ((x5 % 30) / 6)] [vI 1] h _
          refine X_goto (L := L_62) (n' := 68) rfl rfl rfl rfl ?_
          show X 62 68 [vR 6, vI x1, vI x2, vI x3, vI x4, vI x5, vI (x5 / 30), vI ((x5 % 30) / 6)] [vI 1] h _
          refine X_b 2 70 (L := L_62) rfl rfl rfl ?_
          show (-2147483648 ≤ x5 + 1 ∧ x5 + 1 ≤ 2147483647) ∧ X 62 70 [vR 6, vI x1, vI x2, vI x3, vI 1, vI (x5 + 1), vI (x5 / 30), vI ((x5 % 30) / 6)] [] h _
          refine ⟨c12, ?_⟩
          refine X_goto (L := L_62) (n' := 20) rfl rfl rfl rfl ?_
          show X 62 20 [vR 6, vI x1, vI x2, vI x3, vI 1, vI (x5 + 1), vI (x5 / 30), vI ((x5 % 30) / 6)] [] h _
          exact H
        · have z11 : x4 = 0 := (Classical.not_not.mp z11)
          replace H := H.2 z11
          show X 62 46 [vR 6, vI x1, vI x2, vI x3, vI x4, vI x5, vI (x5 / 30), vI ((x5 % 30) / 6)] [] h _
          obtain ⟨⟨c13, c14⟩, H⟩ := H
          refine X_b 5 51 (L := L_62) rfl rfl rfl ?_
          show (-2147483648 ≤ ((x5 % 30) / 6) - 1 ∧ ((x5 % 30) / 6) - 1 ≤ 2147483647) ∧ X 62 51 [vR 6, vI x1, vI x2, vI x3, vI x4, vI x5, vI (x5 / 30), vI ((x5 % 30) / 6)] [vI (((x5 % 30) / 6) - 1), vI (x5 / 30), vR 6] h _
          refine ⟨c13, ?_⟩
          refine X_call 36 [vR 6, vI (x5 / 30), vI (((x5 % 30) / 6) - 1)] [] rfl (sg_calv rfl rfl rfl rfl rfl rfl rfl rfl rfl rfl rfl) (by decide) ?_
          refine f_next c14 ?_
          show X 62 52 [vR 6, vI x1, vI x2, vI x3, vI x4, vI x5, vI (x5 / 30), vI ((x5 % 30) / 6)] [vI (nxt h (x5 / 30) (((x5 % 30) / 6) - 1))] h _
          refine X_b 1 53 (L := L_62) rfl rfl rfl ?_
          show X 62 53 [vR 6, vI x1, vI x2, vI x3, vI x4, vI x5, vI (x5 / 30), vI ((x5 % 30) / 6)] [vI x2, vI (nxt h (x5 / 30) (((x5 % 30) / 6) - 1))] h _
          refine X_icmp (L := L_62) (n' := 65) rfl rfl rfl rfl (fun z15 => ?_) (fun z15 => ?_)
          · have z15 : ¬ nxt h (x5 / 30) (((x5 % 30) / 6) - 1) = x2 := z15
            replace H := H.1 z15
            show X 62 65 [vR 6, vI x1, vI x2, vI x3, vI x4, vI x5, vI (x5 / 30), vI ((x5 % 30) / 6)] [] h _
            obtain ⟨c16, H⟩ := H
            refine X_b 1 66 (L := L_62) rfl rfl rfl ?_
            show X 62 66 [vR 6, vI x1, vI x2, vI x3, vI x4, vI x5, vI (x5 / 30), vI ((x5 % 30) / 6)] [vI 1] h _
            refine X_goto (L := L_62) (n' := 68) rfl rfl rfl rfl ?_
            show X 62 68 [vR 6, vI x1, vI x2, vI x3, vI x4, vI x5, vI (x5 / 30), vI ((x5 % 30) / 6)] [vI 1] h _
            refine X_b 2 70 (L := L_62) rfl rfl rfl ?_
            show (-2147483648 ≤ x5 + 1 ∧ x5 + 1 ≤ 2147483647) ∧ X 62 70 [vR 6, vI x1, vI x2, vI x3, vI 1, vI (x5 + 1), vI (x5 / 30), vI ((x5 % 30) / 6)] [] h _
            refine ⟨c16, ?_⟩
            refine X_goto (L := L_62) (n' := 20) rfl rfl rfl rfl ?_
            show X 62 20 [vR 6, vI x1, vI x2, vI x3, vI 1, vI (x5 + 1), vI (x5 / 30), vI ((x5 % 30) / 6)] [] h _
            exact H
          · have z15 : nxt h (x5 / 30) (((x5 % 30) / 6) - 1) = x2 := (Classical.not_not.mp z15)
            replace H := H.2 z15
            show X 62 54 [vR 6, vI x1, vI x2, vI x3, vI x4, vI x5, vI (x5 / 30), vI ((x5 % 30) / 6)] [] h _
            obtain ⟨⟨c17, c18, c19⟩, H⟩ := H
            refine X_b 10 64 (L := L_62) rfl rfl rfl ?_
            show (-2147483648 ≤ 270 * x1 ∧ 270 * x1 ≤ 2147483647) ∧ (-2147483648 ≤ (270 * x1) + x5 ∧ (270 * x1) + x5 ≤ 2147483647) ∧ (-2147483648 ≤ ((270 * x1) + x5) - 6 ∧ ((270 * x1) + x5) - 6 ≤ 2147483647) ∧ (0 ≤ ((270 * x1) + x5) - 6 ∧ ((270 * x1) + x5) - 6 < 13500) ∧ X 62 64 [vR 6, vI x1, vI x2, vI x3, vI x4, vI x5, vI (x5 / 30), vI ((x5 % 30) / 6)] [vI (h 25 (((270 * x1) + x5) - 6))] h _
            refine ⟨c17, c18, by have := c19; omega, c19, ?_⟩
            refine X_if (L := L_62) (n' := 67) rfl rfl rfl rfl (fun z20 => ?_) (fun z20 => ?_)
            · have z20 : ¬ h 25 (((270 * x1) + x5) - 6) = 0 := z20
              replace H := H.1 z20
              show X 62 67 [vR 6, vI x1, vI x2, vI x3, vI x4, vI x5, vI (x5 / 30), vI ((x5 % 30) / 6)] [] h _
              obtain ⟨c21, H⟩ := H
              refine X_b 3 70 (L := L_62) rfl rfl rfl ?_
              show (-2147483648 ≤ x5 + 1 ∧ x5 + 1 ≤ 2147483647) ∧ X 62 70 [vR 6, vI x1, vI x2, vI x3, vI 0, vI (x5 + 1), vI (x5 / 30), vI ((x5 % 30) / 6)] [] h _
              refine ⟨c21, ?_⟩
              refine X_goto (L := L_62) (n' := 20) rfl rfl rfl rfl ?_
              show X 62 20 [vR 6, vI x1, vI x2, vI x3, vI 0, vI (x5 + 1), vI (x5 / 30), vI ((x5 % 30) / 6)] [] h _
              exact H
            · have z20 : h 25 (((270 * x1) + x5) - 6) = 0 := (Classical.not_not.mp z20)
              replace H := H.2 z20
              show X 62 65 [vR 6, vI x1, vI x2, vI x3, vI x4, vI x5, vI (x5 / 30), vI ((x5 % 30) / 6)] [] h _
              obtain ⟨c22, H⟩ := H
              refine X_b 1 66 (L := L_62) rfl rfl rfl ?_
              show X 62 66 [vR 6, vI x1, vI x2, vI x3, vI x4, vI x5, vI (x5 / 30), vI ((x5 % 30) / 6)] [vI 1] h _
              refine X_goto (L := L_62) (n' := 68) rfl rfl rfl rfl ?_
              show X 62 68 [vR 6, vI x1, vI x2, vI x3, vI x4, vI x5, vI (x5 / 30), vI ((x5 % 30) / 6)] [vI 1] h _
              refine X_b 2 70 (L := L_62) rfl rfl rfl ?_
              show (-2147483648 ≤ x5 + 1 ∧ x5 + 1 ≤ 2147483647) ∧ X 62 70 [vR 6, vI x1, vI x2, vI x3, vI 1, vI (x5 + 1), vI (x5 / 30), vI ((x5 % 30) / 6)] [] h _
              refine ⟨c22, ?_⟩
              refine X_goto (L := L_62) (n' := 20) rfl rfl rfl rfl ?_
              show X 62 20 [vR 6, vI x1, vI x2, vI x3, vI 1, vI (x5 + 1), vI (x5 / 30), vI ((x5 % 30) / 6)] [] h _
              exact H

/-- PPModel.isBold, row 0 -/
theorem s_63_0 (x1 x2 : Int) (h : ab_S) (K : ab_O → ab_S → Prop) (H : ((-2147483648 ≤ 10 * x1 ∧ 10 * x1 ≤ 2147483647) ∧ (0 ≤ (10 * x1) + x2 ∧ (10 * x1) + x2 < 500)) ∧ ((¬ h 26 ((10 * x1) + x2) = (-1) → ((h 26 ((10 * x1) + x2) < 0 → ((¬ h 26 ((10 * x1) + x2) = 200 → ((-2147483648 ≤ (h 26 ((10 * x1) + x2)) - 100 ∧ (h 26 ((10 * x1) + x2)) - 100 ≤ 2147483647)) ∧ ((x2 < 4 → K (oI 1) h) ∧ (4 ≤ x2 → ((0 ≤ (h 26 ((10 * x1) + x2)) - 100 ∧ ((h 26 ((10 * x1) + x2)) - 100 = h 6 1 ∨ (h 26 ((10 * x1) + x2)) - 100 < 8)) ∧ (-2147483648 ≤ 270 * x1 ∧ 270 * x1 ≤ 2147483647) ∧ (-2147483648 ≤ 30 * ((h 26 ((10 * x1) + x2)) - 100) ∧ 30 * ((h 26 ((10 * x1) + x2)) - 100) ≤ 2147483647) ∧ (-2147483648 ≤ 6 * (szo h ((h 26 ((10 * x1) + x2)) - 100)) ∧ 6 * (szo h ((h 26 ((10 * x1) + x2)) - 100)) ≤ 2147483647) ∧ (-2147483648 ≤ (30 * ((h 26 ((10 * x1) + x2)) - 100)) + (6 * (szo h ((h 26 ((10 * x1) + x2)) - 100))) ∧ (30 * ((h 26 ((10 * x1) + x2)) - 100)) + (6 * (szo h ((h 26 ((10 * x1) + x2)) - 100))) ≤ 2147483647) ∧ (-2147483648 ≤ ((30 * ((h 26 ((10 * x1) + x2)) - 100)) + (6 * (szo h ((h 26 ((10 * x1) + x2)) - 100)))) + x2 ∧ ((30 * ((h 26 ((10 * x1) + x2)) - 100)) + (6 * (szo h ((h 26 ((10 * x1) + x2)) - 100)))) + x2 ≤ 2147483647) ∧ (-2147483648 ≤ (((30 * ((h 26 ((10 * x1) + x2)) - 100)) + (6 * (szo h ((h 26 ((10 * x1) + x2)) - 100)))) + x2) - 4 ∧ (((30 * ((h 26 ((10 * x1) + x2)) - 100)) + (6 * (szo h ((h 26 ((10 * x1) + x2)) - 100)))) + x2) - 4 ≤ 2147483647) ∧ (0 ≤ (270 * x1) + ((((30 * ((h 26 ((10 * x1) + x2)) - 100)) + (6 * (szo h ((h 26 ((10 * x1) + x2)) - 100)))) + x2) - 4) ∧ (270 * x1) + ((((30 * ((h 26 ((10 * x1) + x2)) - 100)) + (6 * (szo h ((h 26 ((10 * x1) + x2)) - 100)))) + x2) - 4) < 13500) ∧ (h 25 ((270 * x1) + ((((30 * ((h 26 ((10 * x1) + x2)) - 100)) + (6 * (szo h ((h 26 ((10 * x1) + x2)) - 100)))) + x2) - 4)) = 0 ∨ h 25 ((270 * x1) + ((((30 * ((h 26 ((10 * x1) + x2)) - 100)) + (6 * (szo h ((h 26 ((10 * x1) + x2)) - 100)))) + x2) - 4)) = 1)) ∧ ((¬ h 25 ((270 * x1) + ((((30 * ((h 26 ((10 * x1) + x2)) - 100)) + (6 * (szo h ((h 26 ((10 * x1) + x2)) - 100)))) + x2) - 4)) = 0 → K (oI 0) h) ∧ (h 25 ((270 * x1) + ((((30 * ((h 26 ((10 * x1) + x2)) - 100)) + (6 * (szo h ((h 26 ((10 * x1) + x2)) - 100)))) + x2) - 4)) = 0 → K (oI 1) h))))) ∧ (h 26 ((10 * x1) + x2) = 200 → ((x2 < 4 → K (oI 1) h) ∧ (4 ≤ x2 → ((¬ x2 = 9 → K (oI 1) h) ∧ (x2 = 9 → ((0 ≤ h 6 1 ∧ (h 6 1 = h 6 1 ∨ h 6 1 < 8)) ∧ (-2147483648 ≤ 270 * x1 ∧ 270 * x1 ≤ 2147483647) ∧ (-2147483648 ≤ 30 * (h 6 1) ∧ 30 * (h 6 1) ≤ 2147483647) ∧ (-2147483648 ≤ 6 * (szo h (h 6 1)) ∧ 6 * (szo h (h 6 1)) ≤ 2147483647) ∧ (-2147483648 ≤ (30 * (h 6 1)) + (6 * (szo h (h 6 1))) ∧ (30 * (h 6 1)) + (6 * (szo h (h 6 1))) ≤ 2147483647) ∧ (-2147483648 ≤ ((30 * (h 6 1)) + (6 * (szo h (h 6 1)))) + x2 ∧ ((30 * (h 6 1)) + (6 * (szo h (h 6 1)))) + x2 ≤ 2147483647) ∧ (-2147483648 ≤ (((30 * (h 6 1)) + (6 * (szo h (h 6 1)))) + x2) - 4 ∧ (((30 * (h 6 1)) + (6 * (szo h (h 6 1)))) + x2) - 4 ≤ 2147483647) ∧ (0 ≤ (270 * x1) + ((((30 * (h 6 1)) + (6 * (szo h (h 6 1)))) + x2) - 4) ∧ (270 * x1) + ((((30 * (h 6 1)) + (6 * (szo h (h 6 1)))) + x2) - 4) < 13500) ∧ (h 25 ((270 * x1) + ((((30 * (h 6 1)) + (6 * (szo h (h 6 1)))) + x2) - 4)) = 0 ∨ h 25 ((270 * x1) + ((((30 * (h 6 1)) + (6 * (szo h (h 6 1)))) + x2) - 4)) = 1)) ∧ ((¬ h 25 ((270 * x1) + ((((30 * (h 6 1)) + (6 * (szo h (h 6 1)))) + x2) - 4)) = 0 → K (oI 0) h) ∧ (h 25 ((270 * x1) + ((((30 * (h 6 1)) + (6 * (szo h (h 6 1)))) + x2) - 4)) = 0 → K (oI 1) h))))))))) ∧ (0 ≤ h 26 ((10 * x1) + x2) → ((100 ≤ h 26 ((10 * x1) + x2) → ((¬ h 26 ((10 * x1) + x2) = 200 → ((-2147483648 ≤ (h 26 ((10 * x1) + x2)) - 100 ∧ (h 26 ((10 * x1) + x2)) - 100 ≤ 2147483647)) ∧ ((x2 < 4 → K (oI 1) h) ∧ (4 ≤ x2 → ((0 ≤ (h 26 ((10 * x1) + x2)) - 100 ∧ ((h 26 ((10 * x1) + x2)) - 100 = h 6 1 ∨ (h 26 ((10 * x1) + x2)) - 100 < 8)) ∧ (-2147483648 ≤ 270 * x1 ∧ 270 * x1 ≤ 2147483647) ∧ (-2147483648 ≤ 30 * ((h 26 ((10 * x1) + x2)) - 100) ∧ 30 * ((h 26 ((10 * x1) + x2)) - 100) ≤ 2147483647) ∧ (-2147483648 ≤ 6 * (szo h ((h 26 ((10 * x1) + x2)) - 100)) ∧ 6 * (szo h ((h 26 ((10 * x1) + x2)) - 100)) ≤ 2147483647) ∧ (-2147483648 ≤ (30 * ((h 26 ((10 * x1) + x2)) - 100)) + (6 * (szo h ((h 26 ((10 * x1) + x2)) - 100))) ∧ (30 * ((h 26 ((10 * x1) + x2)) - 100)) + (6 * (szo h ((h 26 ((10 * x1) + x2)) - 100))) ≤ 2147483647) ∧ (-2147483648 ≤ ((30 * ((h 26 ((10 * x1) + x2)) - 100)) + (6 * (szo h ((h 26 ((10 * x1) + x2)) - 100)))) + x2 ∧ ((30 * ((h 26 ((10 * x1) + x2)) - 100)) + (6 * (szo h ((h 26 ((10 * x1) + x2)) - 100)))) + x2 ≤ 2147483647) ∧ (-2147483648 ≤ (((30 * ((h 26 ((10 * x1) + x2)) - 100)) + (6 * (szo h ((h 26 ((10 * x1) + x2)) - 100)))) + x2) - 4 ∧ (((30 * ((h 26 ((10 * x1) + x2)) - 100)) + (6 * (szo h ((h 26 ((10 * x1) + x2)) - 100)))) + x2) - 4 ≤ 2147483647) ∧ (0 ≤ (270 * x1) + ((((30 * ((h 26 ((10 * x1) + x2)) - 100)) + (6 * (szo h ((h 26 ((10 * x1) + x2)) - 100)))) + x2) - 4) ∧ (270 * x1) + ((((30 * ((h 26 ((10 * x1) + x2)) - 100)) + (6 * (szo h ((h 26 ((10 * x1) + x2)) - 100)))) + x2) - 4) < 13500) ∧ (h 25 ((270 * x1) + ((((30 * ((h 26 ((10 * x1) + x2)) - 100)) + (6 * (szo h ((h 26 ((10 * x1) + x2)) - 100)))) + x2) - 4)) = 0 ∨ h 25 ((270 * x1) + ((((30 * ((h 26 ((10 * x1) + x2)) - 100)) + (6 * (szo h ((h 26 ((10 * x1) + x2)) - 100)))) + x2) - 4)) = 1)) ∧ ((¬ h 25 ((270 * x1) + ((((30 * ((h 26 ((10 * x1) + x2)) - 100)) + (6 * (szo h ((h 26 ((10 * x1) + x2)) - 100)))) + x2) - 4)) = 0 → K (oI 0) h) ∧ (h 25 ((270 * x1) + ((((30 * ((h 26 ((10 * x1) + x2)) - 100)) + (6 * (szo h ((h 26 ((10 * x1) + x2)) - 100)))) + x2) - 4)) = 0 → K (oI 1) h))))) ∧ (h 26 ((10 * x1) + x2) = 200 → ((x2 < 4 → K (oI 1) h) ∧ (4 ≤ x2 → ((¬ x2 = 9 → K (oI 1) h) ∧ (x2 = 9 → ((0 ≤ h 6 1 ∧ (h 6 1 = h 6 1 ∨ h 6 1 < 8)) ∧ (-2147483648 ≤ 270 * x1 ∧ 270 * x1 ≤ 2147483647) ∧ (-2147483648 ≤ 30 * (h 6 1) ∧ 30 * (h 6 1) ≤ 2147483647) ∧ (-2147483648 ≤ 6 * (szo h (h 6 1)) ∧ 6 * (szo h (h 6 1)) ≤ 2147483647) ∧ (-2147483648 ≤ (30 * (h 6 1)) + (6 * (szo h (h 6 1))) ∧ (30 * (h 6 1)) + (6 * (szo h (h 6 1))) ≤ 2147483647) ∧ (-2147483648 ≤ ((30 * (h 6 1)) + (6 * (szo h (h 6 1)))) + x2 ∧ ((30 * (h 6 1)) + (6 * (szo h (h 6 1)))) + x2 ≤ 2147483647) ∧ (-2147483648 ≤ (((30 * (h 6 1)) + (6 * (szo h (h 6 1)))) + x2) - 4 ∧ (((30 * (h 6 1)) + (6 * (szo h (h 6 1)))) + x2) - 4 ≤ 2147483647) ∧ (0 ≤ (270 * x1) + ((((30 * (h 6 1)) + (6 * (szo h (h 6 1)))) + x2) - 4) ∧ (270 * x1) + ((((30 * (h 6 1)) + (6 * (szo h (h 6 1)))) + x2) - 4) < 13500) ∧ (h 25 ((270 * x1) + ((((30 * (h 6 1)) + (6 * (szo h (h 6 1)))) + x2) - 4)) = 0 ∨ h 25 ((270 * x1) + ((((30 * (h 6 1)) + (6 * (szo h (h 6 1)))) + x2) - 4)) = 1)) ∧ ((¬ h 25 ((270 * x1) + ((((30 * (h 6 1)) + (6 * (szo h (h 6 1)))) + x2) - 4)) = 0 → K (oI 0) h) ∧ (h 25 ((270 * x1) + ((((30 * (h 6 1)) + (6 * (szo h (h 6 1)))) + x2) - 4)) = 0 → K (oI 1) h))))))))) ∧ (h 26 ((10 * x1) + x2) < 100 → ((h 26 ((10 * x1) + x2) = 0 → K (oI 1) h) ∧ (¬ h 26 ((10 * x1) + x2) = 0 → ((¬ x2 = 9 → K (oI 0) h) ∧ (x2 = 9 → K (oI 1) h))))))))) ∧ (h 26 ((10 * x1) + x2) = (-1) → K (oI 0) h))) : C 63 [vR 6, vI x1, vI x2] h K := by
  show X 63 0 [vR 6, vI x1, vI x2, vJ 0, vJ 0] [] h K
  obtain ⟨⟨c1, c2⟩, H⟩ := H
  refine X_b 11 11 (L := L_63) rfl rfl rfl ?_
  show (-2147483648 ≤ 10 * x1 ∧ 10 * x1 ≤ 2147483647) ∧ (-2147483648 ≤ (10 * x1) + x2 ∧ (10 * x1) + x2 ≤ 2147483647) ∧ (0 ≤ (10 * x1) + x2 ∧ (10 * x1) + x2 < 500) ∧ X 63 11 [vR 6, vI x1, vI x2, vI (h 26 ((10 * x1) + x2)), vJ 0] [vI (-1), vI (h 26 ((10 * x1) + x2))] h _
  refine ⟨c1, by have := c2; omega, c2, ?_⟩
  refine X_icmp (L := L_63) (n' := 14) rfl rfl rfl rfl (fun z3 => ?_) (fun z3 => ?_)
  · have z3 : ¬ h 26 ((10 * x1) + x2) = (-1) := z3
    replace H := H.1 z3
    show X 63 14 [vR 6, vI x1, vI x2, vI (h 26 ((10 * x1) + x2)), vJ 0] [] h _
    refine X_b 3 17 (L := L_63) rfl rfl rfl ?_
    show X 63 17 [vR 6, vI x1, vI x2, vI (h 26 ((10 * x1) + x2)), vJ 0] [vI x2, vI x1, vR 6] h _
    refine X_call 58 [vR 6, vI x1, vI x2] [] rfl (sg_calv rfl rfl rfl rfl rfl rfl rfl rfl rfl rfl rfl) (by decide) ?_
    show X 58 0 [vR 6, vI x1, vI x2, vJ 0] [] h _
    refine X_b 10 10 (L := L_58) rfl rfl rfl ?_
    show (-2147483648 ≤ 10 * x1 ∧ 10 * x1 ≤ 2147483647) ∧ (-2147483648 ≤ (10 * x1) + x2 ∧ (10 * x1) + x2 ≤ 2147483647) ∧ (0 ≤ (10 * x1) + x2 ∧ (10 * x1) + x2 < 500) ∧ X 58 10 [vR 6, vI x1, vI x2, vI (h 26 ((10 * x1) + x2))] [vI (h 26 ((10 * x1) + x2))] h _
    refine ⟨c1, by have := c2; omega, c2, ?_⟩
    refine X_if (L := L_58) (n' := 16) rfl rfl rfl rfl (fun z4 => ?_) (fun z4 => ?_)
    · have z4 : h 26 ((10 * x1) + x2) < 0 := z4
      replace H := H.1 z4
      show X 58 16 [vR 6, vI x1, vI x2, vI (h 26 ((10 * x1) + x2))] [] h _
      refine X_b 1 17 (L := L_58) rfl rfl rfl ?_
      show X 58 17 [vR 6, vI x1, vI x2, vI (h 26 ((10 * x1) + x2))] [vI 0] h _
      refine X_zret (L := L_58) rfl rfl rfl rfl (by decide) ?_
      show X 63 18 [vR 6, vI x1, vI x2, vI (h 26 ((10 * x1) + x2)), vJ 0] [vI 0] h _
      refine X_if (L := L_63) (n' := 28) rfl rfl rfl rfl (fun _ => ?_) (fun z => absurd (show (0 : Int) = (0 : Int) by decide) z)
      show X 63 28 [vR 6, vI x1, vI x2, vI (h 26 ((10 * x1) + x2)), vJ 0] [] h _
      refine X_b 2 30 (L := L_63) rfl rfl rfl ?_
      show X 63 30 [vR 6, vI x1, vI x2, vI (h 26 ((10 * x1) + x2)), vJ 0] [vI 200, vI (h 26 ((10 * x1) + x2))] h _
      refine X_icmp (L := L_63) (n' := 34) rfl rfl rfl rfl (fun z5 => ?_) (fun z5 => ?_)
      · have z5 : ¬ h 26 ((10 * x1) + x2) = 200 := z5
        replace H := H.1 z5
        show X 63 34 [vR 6, vI x1, vI x2, vI (h 26 ((10 * x1) + x2)), vJ 0] [] h _
        obtain ⟨c6, H⟩ := H
        refine X_b 6 40 (L := L_63) rfl rfl rfl ?_
        show (-2147483648 ≤ (h 26 ((10 * x1) + x2)) - 100 ∧ (h 26 ((10 * x1) + x2)) - 100 ≤ 2147483647) ∧ X 63 40 [vR 6, vI x1, vI x2, vI (h 26 ((10 * x1) + x2)), vI ((h 26 ((10 * x1) + x2)) - 100)] [vI 4, vI x2] h _
        refine ⟨c6, ?_⟩
        refine X_icmp (L := L_63) (n' := 56) rfl rfl rfl rfl (fun z7 => ?_) (fun z7 => ?_)
        · have z7 : x2 < 4 := z7
          replace H := H.1 z7
          show X 63 56 [vR 6, vI x1, vI x2, vI (h 26 ((10 * x1) + x2)), vI ((h 26 ((10 * x1) + x2)) - 100)] [] h _
          refine X_b 1 57 (L := L_63) rfl rfl rfl ?_
          show X 63 57 [vR 6, vI x1, vI x2, vI (h 26 ((10 * x1) + x2)), vI ((h 26 ((10 * x1) + x2)) - 100)] [vI 1] h _
          refine X_goto (L := L_63) (n' := 59) rfl rfl rfl rfl ?_
          show X 63 59 [vR 6, vI x1, vI x2, vI (h 26 ((10 * x1) + x2)), vI ((h 26 ((10 * x1) + x2)) - 100)] [vI 1] h _
          refine X_zret (L := L_63) rfl rfl rfl rfl (by decide) ?_
          exact H
        · have z7 : 4 ≤ x2 := (Int.not_lt.mp z7)
          replace H := H.2 z7
          show X 63 41 [vR 6, vI x1, vI x2, vI (h 26 ((10 * x1) + x2)), vI ((h 26 ((10 * x1) + x2)) - 100)] [] h _
          obtain ⟨⟨c8, c9, c10, c11, c12, c13, c14, c15, c16⟩, H⟩ := H
          refine X_b 2 43 (L := L_63) rfl rfl rfl ?_
          show X 63 43 [vR 6, vI x1, vI x2, vI (h 26 ((10 * x1) + x2)), vI ((h 26 ((10 * x1) + x2)) - 100)] [vI 200, vI (h 26 ((10 * x1) + x2))] h _
          refine X_icmp (L := L_63) (n' := 47) rfl rfl rfl rfl (fun _ => ?_) (fun z => absurd z5 z)
          show X 63 47 [vR 6, vI x1, vI x2, vI (h 26 ((10 * x1) + x2)), vI ((h 26 ((10 * x1) + x2)) - 100)] [] h _
          refine X_b 5 52 (L := L_63) rfl rfl rfl ?_
          show X 63 52 [vR 6, vI x1, vI x2, vI (h 26 ((10 * x1) + x2)), vI ((h 26 ((10 * x1) + x2)) - 100)] [vI ((h 26 ((10 * x1) + x2)) - 100), vR 6, vI ((h 26 ((10 * x1) + x2)) - 100), vI x1, vR 6] h _
          refine X_call 35 [vR 6, vI ((h 26 ((10 * x1) + x2)) - 100)] [vI ((h 26 ((10 * x1) + x2)) - 100), vI x1, vR 6] rfl (sg_calv rfl rfl rfl rfl rfl rfl rfl rfl rfl rfl rfl) (by decide) ?_
          refine f_size c8 ?_
          show X 63 53 [vR 6, vI x1, vI x2, vI (h 26 ((10 * x1) + x2)), vI ((h 26 ((10 * x1) + x2)) - 100)] [vI (szo h ((h 26 ((10 * x1) + x2)) - 100)), vI ((h 26 ((10 * x1) + x2)) - 100), vI x1, vR 6] h _
          refine X_b 1 54 (L := L_63) rfl rfl rfl ?_
          show X 63 54 [vR 6, vI x1, vI x2, vI (h 26 ((10 * x1) + x2)), vI ((h 26 ((10 * x1) + x2)) - 100)] [vI x2, vI (szo h ((h 26 ((10 * x1) + x2)) - 100)), vI ((h 26 ((10 * x1) + x2)) - 100), vI x1, vR 6] h _
          refine X_call 42 [vR 6, vI x1, vI ((h 26 ((10 * x1) + x2)) - 100), vI (szo h ((h 26 ((10 * x1) + x2)) - 100)), vI x2] [] rfl (sg_calv rfl rfl rfl rfl rfl rfl rfl rfl rfl rfl rfl) (by decide) ?_
          show X 42 0 [vR 6, vI x1, vI ((h 26 ((10 * x1) + x2)) - 100), vI (szo h ((h 26 ((10 * x1) + x2)) - 100)), vI x2] [] h _
          refine X_b 8 8 (L := L_42) rfl rfl rfl ?_
          show (-2147483648 ≤ 270 * x1 ∧ 270 * x1 ≤ 2147483647) ∧ X 42 8 [vR 6, vI x1, vI ((h 26 ((10 * x1) + x2)) - 100), vI (szo h ((h 26 ((10 * x1) + x2)) - 100)), vI x2] [vI x2, vI (szo h ((h 26 ((10 * x1) + x2)) - 100)), vI ((h 26 ((10 * x1) + x2)) - 100), vI (270 * x1), vR 25] h _
          refine ⟨c9, ?_⟩
          refine X_call 41 [vI ((h 26 ((10 * x1) + x2)) - 100), vI (szo h ((h 26 ((10 * x1) + x2)) - 100)), vI x2] [vI (270 * x1), vR 25] rfl (sg_cals rfl rfl rfl rfl rfl rfl rfl rfl rfl rfl) (by decide) ?_
          show X 41 0 [vI ((h 26 ((10 * x1) + x2)) - 100), vI (szo h ((h 26 ((10 * x1) + x2)) - 100)), vI x2] [] h _
          refine X_b 11 11 (L := L_41) rfl rfl rfl ?_
          show (-2147483648 ≤ 30 * ((h 26 ((10 * x1) + x2)) - 100) ∧ 30 * ((h 26 ((10 * x1) + x2)) - 100) ≤ 2147483647) ∧ (-2147483648 ≤ 6 * (szo h ((h 26 ((10 * x1) + x2)) - 100)) ∧ 6 * (szo h ((h 26 ((10 * x1) + x2)) - 100)) ≤ 2147483647) ∧ (-2147483648 ≤ (30 * ((h 26 ((10 * x1) + x2)) - 100)) + (6 * (szo h ((h 26 ((10 * x1) + x2)) - 100))) ∧ (30 * ((h 26 ((10 * x1) + x2)) - 100)) + (6 * (szo h ((h 26 ((10 * x1) + x2)) - 100))) ≤ 2147483647) ∧ (-2147483648 ≤ ((30 * ((h 26 ((10 * x1) + x2)) - 100)) + (6 * (szo h ((h 26 ((10 * x1) + x2)) - 100)))) + x2 ∧ ((30 * ((h 26 ((10 * x1) + x2)) - 100)) + (6 * (szo h ((h 26 ((10 * x1) + x2)) - 100)))) + x2 ≤ 2147483647) ∧ (-2147483648 ≤ (((30 * ((h 26 ((10 * x1) + x2)) - 100)) + (6 * (szo h ((h 26 ((10 * x1) + x2)) - 100)))) + x2) - 4 ∧ (((30 * ((h 26 ((10 * x1) + x2)) - 100)) + (6 * (szo h ((h 26 ((10 * x1) + x2)) - 100)))) + x2) - 4 ≤ 2147483647) ∧ X 41 11 [vI ((h 26 ((10 * x1) + x2)) - 100), vI (szo h ((h 26 ((10 * x1) + x2)) - 100)), vI x2] [vI ((((30 * ((h 26 ((10 * x1) + x2)) - 100)) + (6 * (szo h ((h 26 ((10 * x1) + x2)) - 100)))) + x2) - 4)] h _
          refine ⟨c10, c11, c12, c13, c14, ?_⟩
          refine X_iret (L := L_41) rfl rfl rfl rfl ?_
          show X 42 9 [vR 6, vI x1, vI ((h 26 ((10 * x1) + x2)) - 100), vI (szo h ((h 26 ((10 * x1) + x2)) - 100)), vI x2] [vI ((((30 * ((h 26 ((10 * x1) + x2)) - 100)) + (6 * (szo h ((h 26 ((10 * x1) + x2)) - 100)))) + x2) - 4), vI (270 * x1), vR 25] h _
          refine X_b 2 11 (L := L_42) rfl rfl rfl ?_
          show (-2147483648 ≤ (270 * x1) + ((((30 * ((h 26 ((10 * x1) + x2)) - 100)) + (6 * (szo h ((h 26 ((10 * x1) + x2)) - 100)))) + x2) - 4) ∧ (270 * x1) + ((((30 * ((h 26 ((10 * x1) + x2)) - 100)) + (6 * (szo h ((h 26 ((10 * x1) + x2)) - 100)))) + x2) - 4) ≤ 2147483647) ∧ (0 ≤ (270 * x1) + ((((30 * ((h 26 ((10 * x1) + x2)) - 100)) + (6 * (szo h ((h 26 ((10 * x1) + x2)) - 100)))) + x2) - 4) ∧ (270 * x1) + ((((30 * ((h 26 ((10 * x1) + x2)) - 100)) + (6 * (szo h ((h 26 ((10 * x1) + x2)) - 100)))) + x2) - 4) < 13500) ∧ X 42 11 [vR 6, vI x1, vI ((h 26 ((10 * x1) + x2)) - 100), vI (szo h ((h 26 ((10 * x1) + x2)) - 100)), vI x2] [vI (h 25 ((270 * x1) + ((((30 * ((h 26 ((10 * x1) + x2)) - 100)) + (6 * (szo h ((h 26 ((10 * x1) + x2)) - 100)))) + x2) - 4)))] h _
          refine ⟨by have := c15; omega, c15, ?_⟩
          refine X_zret (L := L_42) rfl rfl rfl rfl c16 ?_
          show X 63 55 [vR 6, vI x1, vI x2, vI (h 26 ((10 * x1) + x2)), vI ((h 26 ((10 * x1) + x2)) - 100)] [vI (h 25 ((270 * x1) + ((((30 * ((h 26 ((10 * x1) + x2)) - 100)) + (6 * (szo h ((h 26 ((10 * x1) + x2)) - 100)))) + x2) - 4)))] h _
          refine X_if (L := L_63) (n' := 58) rfl rfl rfl rfl (fun z17 => ?_) (fun z17 => ?_)
          · have z17 : ¬ h 25 ((270 * x1) + ((((30 * ((h 26 ((10 * x1) + x2)) - 100)) + (6 * (szo h ((h 26 ((10 * x1) + x2)) - 100)))) + x2) - 4)) = 0 := z17
            replace H := H.1 z17
            show X 63 58 [vR 6, vI x1, vI x2, vI (h 26 ((10 * x1) + x2)), vI ((h 26 ((10 * x1) + x2)) - 100)] [] h _
            refine X_b 1 59 (L := L_63) rfl rfl rfl ?_
            show X 63 59 [vR 6, vI x1, vI x2, vI (h 26 ((10 * x1) + x2)), vI ((h 26 ((10 * x1) + x2)) - 100)] [vI 0] h _
            refine X_zret (L := L_63) rfl rfl rfl rfl (by decide) ?_
            exact H
          · have z17 : h 25 ((270 * x1) + ((((30 * ((h 26 ((10 * x1) + x2)) - 100)) + (6 * (szo h ((h 26 ((10 * x1) + x2)) - 100)))) + x2) - 4)) = 0 := (Classical.not_not.mp z17)
            replace H := H.2 z17
            show X 63 56 [vR 6, vI x1, vI x2, vI (h 26 ((10 * x1) + x2)), vI ((h 26 ((10 * x1) + x2)) - 100)] [] h _
            refine X_b 1 57 (L := L_63) rfl rfl rfl ?_
            show X 63 57 [vR 6, vI x1, vI x2, vI (h 26 ((10 * x1) + x2)), vI ((h 26 ((10 * x1) + x2)) - 100)] [vI 1] h _
            refine X_goto (L := L_63) (n' := 59) rfl rfl rfl rfl ?_
            show X 63 59 [vR 6, vI x1, vI x2, vI (h 26 ((10 * x1) + x2)), vI ((h 26 ((10 * x1) + x2)) - 100)] [vI 1] h _
            refine X_zret (L := L_63) rfl rfl rfl rfl (by decide) ?_
            exact H
      · have z5 : h 26 ((10 * x1) + x2) = 200 := (Classical.not_not.mp z5)
        replace H := H.2 z5
        show X 63 31 [vR 6, vI x1, vI x2, vI (h 26 ((10 * x1) + x2)), vJ 0] [] h _
        refine X_b 2 33 (L := L_63) rfl rfl rfl ?_
        show X 63 33 [vR 6, vI x1, vI x2, vI (h 26 ((10 * x1) + x2)), vJ 0] [vI (h 6 1)] h _
        refine X_goto (L := L_63) (n' := 37) rfl rfl rfl rfl ?_
        show X 63 37 [vR 6, vI x1, vI x2, vI (h 26 ((10 * x1) + x2)), vJ 0] [vI (h 6 1)] h _
        refine X_b 3 40 (L := L_63) rfl rfl rfl ?_
        show X 63 40 [vR 6, vI x1, vI x2, vI (h 26 ((10 * x1) + x2)), vI (h 6 1)] [vI 4, vI x2] h _
        refine X_icmp (L := L_63) (n' := 56) rfl rfl rfl rfl (fun z18 => ?_) (fun z18 => ?_)
        · have z18 : x2 < 4 := z18
          replace H := H.1 z18
          show X 63 56 [vR 6, vI x1, vI x2, vI (h 26 ((10 * x1) + x2)), vI (h 6 1)] [] h _
          refine X_b 1 57 (L := L_63) rfl rfl rfl ?_
          show X 63 57 [vR 6, vI x1, vI x2, vI (h 26 ((10 * x1) + x2)), vI (h 6 1)] [vI 1] h _
          refine X_goto (L := L_63) (n' := 59) rfl rfl rfl rfl ?_
          show X 63 59 [vR 6, vI x1, vI x2, vI (h 26 ((10 * x1) + x2)), vI (h 6 1)] [vI 1] h _
          refine X_zret (L := L_63) rfl rfl rfl rfl (by decide) ?_
          exact H
        · have z18 : 4 ≤ x2 := (Int.not_lt.mp z18)
          replace H := H.2 z18
          show X 63 41 [vR 6, vI x1, vI x2, vI (h 26 ((10 * x1) + x2)), vI (h 6 1)] [] h _
          refine X_b 2 43 (L := L_63) rfl rfl rfl ?_
          show X 63 43 [vR 6, vI x1, vI x2, vI (h 26 ((10 * x1) + x2)), vI (h 6 1)] [vI 200, vI (h 26 ((10 * x1) + x2))] h _
          refine X_icmp (L := L_63) (n' := 47) rfl rfl rfl rfl (fun z => absurd z5 z) (fun _ => ?_)
          show X 63 44 [vR 6, vI x1, vI x2, vI (h 26 ((10 * x1) + x2)), vI (h 6 1)] [] h _
          refine X_b 2 46 (L := L_63) rfl rfl rfl ?_
          show X 63 46 [vR 6, vI x1, vI x2, vI (h 26 ((10 * x1) + x2)), vI (h 6 1)] [vI 9, vI x2] h _
          refine X_icmp (L := L_63) (n' := 56) rfl rfl rfl rfl (fun z19 => ?_) (fun z19 => ?_)
          · have z19 : ¬ x2 = 9 := z19
            replace H := H.1 z19
            show X 63 56 [vR 6, vI x1, vI x2, vI (h 26 ((10 * x1) + x2)), vI (h 6 1)] [] h _
            refine X_b 1 57 (L := L_63) rfl rfl rfl ?_
            show X 63 57 [vR 6, vI x1, vI x2, vI (h 26 ((10 * x1) + x2)), vI (h 6 1)] [vI 1] h _
            refine X_goto (L := L_63) (n' := 59) rfl rfl rfl rfl ?_
            show X 63 59 [vR 6, vI x1, vI x2, vI (h 26 ((10 * x1) + x2)), vI (h 6 1)] [vI 1] h _
            refine X_zret (L := L_63) rfl rfl rfl rfl (by decide) ?_
            exact H
          · have z19 : x2 = 9 := (Classical.not_not.mp z19)
            replace H := H.2 z19
            show X 63 47 [vR 6, vI x1, vI x2, vI (h 26 ((10 * x1) + x2)), vI (h 6 1)] [] h _
            obtain ⟨⟨c20, c21, c22, c23, c24, c25, c26, c27, c28⟩, H⟩ := H
            refine X_b 5 52 (L := L_63) rfl rfl rfl ?_
            show X 63 52 [vR 6, vI x1, vI x2, vI (h 26 ((10 * x1) + x2)), vI (h 6 1)] [vI (h 6 1), vR 6, vI (h 6 1), vI x1, vR 6] h _
            refine X_call 35 [vR 6, vI (h 6 1)] [vI (h 6 1), vI x1, vR 6] rfl (sg_calv rfl rfl rfl rfl rfl rfl rfl rfl rfl rfl rfl) (by decide) ?_
            refine f_size c20 ?_
            show X 63 53 [vR 6, vI x1, vI x2, vI (h 26 ((10 * x1) + x2)), vI (h 6 1)] [vI (szo h (h 6 1)), vI (h 6 1), vI x1, vR 6] h _
            refine X_b 1 54 (L := L_63) rfl rfl rfl ?_
            show X 63 54 [vR 6, vI x1, vI x2, vI (h 26 ((10 * x1) + x2)), vI (h 6 1)] [vI x2, vI (szo h (h 6 1)), vI (h 6 1), vI x1, vR 6] h _
            refine X_call 42 [vR 6, vI x1, vI (h 6 1), vI (szo h (h 6 1)), vI x2] [] rfl (sg_calv rfl rfl rfl rfl rfl rfl rfl rfl rfl rfl rfl) (by decide) ?_
            show X 42 0 [vR 6, vI x1, vI (h 6 1), vI (szo h (h 6 1)), vI x2] [] h _
            refine X_b 8 8 (L := L_42) rfl rfl rfl ?_
            show (-2147483648 ≤ 270 * x1 ∧ 270 * x1 ≤ 2147483647) ∧ X 42 8 [vR 6, vI x1, vI (h 6 1), vI (szo h (h 6 1)), vI x2] [vI x2, vI (szo h (h 6 1)), vI (h 6 1), vI (270 * x1), vR 25] h _
            refine ⟨c21, ?_⟩
            refine X_call 41 [vI (h 6 1), vI (szo h (h 6 1)), vI x2] [vI (270 * x1), vR 25] rfl (sg_cals rfl rfl rfl rfl rfl rfl rfl rfl rfl rfl) (by decide) ?_
            show X 41 0 [vI (h 6 1), vI (szo h (h 6 1)), vI x2] [] h _
            refine X_b 11 11 (L := L_41) rfl rfl rfl ?_
            show (-2147483648 ≤ 30 * (h 6 1) ∧ 30 * (h 6 1) ≤ 2147483647) ∧ (-2147483648 ≤ 6 * (szo h (h 6 1)) ∧ 6 * (szo h (h 6 1)) ≤ 2147483647) ∧ (-2147483648 ≤ (30 * (h 6 1)) + (6 * (szo h (h 6 1))) ∧ (30 * (h 6 1)) + (6 * (szo h (h 6 1))) ≤ 2147483647) ∧ (-2147483648 ≤ ((30 * (h 6 1)) + (6 * (szo h (h 6 1)))) + x2 ∧ ((30 * (h 6 1)) + (6 * (szo h (h 6 1)))) + x2 ≤ 2147483647) ∧ (-2147483648 ≤ (((30 * (h 6 1)) + (6 * (szo h (h 6 1)))) + x2) - 4 ∧ (((30 * (h 6 1)) + (6 * (szo h (h 6 1)))) + x2) - 4 ≤ 2147483647) ∧ X 41 11 [vI (h 6 1), vI (szo h (h 6 1)), vI x2] [vI ((((30 * (h 6 1)) + (6 * (szo h (h 6 1)))) + x2) - 4)] h _
            refine ⟨c22, c23, c24, c25, c26, ?_⟩
            refine X_iret (L := L_41) rfl rfl rfl rfl ?_
            show X 42 9 [vR 6, vI x1, vI (h 6 1), vI (szo h (h 6 1)), vI x2] [vI ((((30 * (h 6 1)) + (6 * (szo h (h 6 1)))) + x2) - 4), vI (270 * x1), vR 25] h _
            refine X_b 2 11 (L := L_42) rfl rfl rfl ?_
            show (-2147483648 ≤ (270 * x1) + ((((30 * (h 6 1)) + (6 * (szo h (h 6 1)))) + x2) - 4) ∧ (270 * x1) + ((((30 * (h 6 1)) + (6 * (szo h (h 6 1)))) + x2) - 4) ≤ 2147483647) ∧ (0 ≤ (270 * x1) + ((((30 * (h 6 1)) + (6 * (szo h (h 6 1)))) + x2) - 4) ∧ (270 * x1) + ((((30 * (h 6 1)) + (6 * (szo h (h 6 1)))) + x2) - 4) < 13500) ∧ X 42 11 [vR 6, vI x1, vI (h 6 1), vI (szo h (h 6 1)), vI x2] [vI (h 25 ((270 * x1) + ((((30 * (h 6 1)) + (6 * (szo h (h 6 1)))) + x2) - 4)))] h _
            refine ⟨by have := c27; omega, c27, ?_⟩
            refine X_zret (L := L_42) rfl rfl rfl rfl c28 ?_
            show X 63 55 [vR 6, vI x1, vI x2, vI (h 26 ((10 * x1) + x2)), vI (h 6 1)] [vI (h 25 ((270 * x1) + ((((30 * (h 6 1)) + (6 * (szo h (h 6 1)))) + x2) - 4)))] h _
            refine X_if (L := L_63) (n' := 58) rfl rfl rfl rfl (fun z29 => ?_) (fun z29 => ?_)
            · have z29 : ¬ h 25 ((270 * x1) + ((((30 * (h 6 1)) + (6 * (szo h (h 6 1)))) + x2) - 4)) = 0 := z29
              replace H := H.1 z29
              show X 63 58 [vR 6, vI x1, vI x2, vI (h 26 ((10 * x1) + x2)), vI (h 6 1)] [] h _
              refine X_b 1 59 (L := L_63) rfl rfl rfl ?_
              show X 63 59 [vR 6, vI x1, vI x2, vI (h 26 ((10 * x1) + x2)), vI (h 6 1)] [vI 0] h _
              refine X_zret (L := L_63) rfl rfl rfl rfl (by decide) ?_
              exact H
            · have z29 : h 25 ((270 * x1) + ((((30 * (h 6 1)) + (6 * (szo h (h 6 1)))) + x2) - 4)) = 0 := (Classical.not_not.mp z29)
              replace H := H.2 z29
              show X 63 56 [vR 6, vI x1, vI x2, vI (h 26 ((10 * x1) + x2)), vI (h 6 1)] [] h _
              refine X_b 1 57 (L := L_63) rfl rfl rfl ?_
              show X 63 57 [vR 6, vI x1, vI x2, vI (h 26 ((10 * x1) + x2)), vI (h 6 1)] [vI 1] h _
              refine X_goto (L := L_63) (n' := 59) rfl rfl rfl rfl ?_
              show X 63 59 [vR 6, vI x1, vI x2, vI (h 26 ((10 * x1) + x2)), vI (h 6 1)] [vI 1] h _
              refine X_zret (L := L_63) rfl rfl rfl rfl (by decide) ?_
              exact H
    · have z4 : 0 ≤ h 26 ((10 * x1) + x2) := (Int.not_lt.mp z4)
      replace H := H.2 z4
      show X 58 11 [vR 6, vI x1, vI x2, vI (h 26 ((10 * x1) + x2))] [] h _
      refine X_b 2 13 (L := L_58) rfl rfl rfl ?_
      show X 58 13 [vR 6, vI x1, vI x2, vI (h 26 ((10 * x1) + x2))] [vI 100, vI (h 26 ((10 * x1) + x2))] h _
      refine X_icmp (L := L_58) (n' := 16) rfl rfl rfl rfl (fun z30 => ?_) (fun z30 => ?_)
      · have z30 : 100 ≤ h 26 ((10 * x1) + x2) := z30
        replace H := H.1 z30
        show X 58 16 [vR 6, vI x1, vI x2, vI (h 26 ((10 * x1) + x2))] [] h _
        refine X_b 1 17 (L := L_58) rfl rfl rfl ?_
        show X 58 17 [vR 6, vI x1, vI x2, vI (h 26 ((10 * x1) + x2))] [vI 0] h _
        refine X_zret (L := L_58) rfl rfl rfl rfl (by decide) ?_
        show X 63 18 [vR 6, vI x1, vI x2, vI (h 26 ((10 * x1) + x2)), vJ 0] [vI 0] h _
        refine X_if (L := L_63) (n' := 28) rfl rfl rfl rfl (fun _ => ?_) (fun z => absurd (show (0 : Int) = (0 : Int) by decide) z)
        show X 63 28 [vR 6, vI x1, vI x2, vI (h 26 ((10 * x1) + x2)), vJ 0] [] h _
        refine X_b 2 30 (L := L_63) rfl rfl rfl ?_
        show X 63 30 [vR 6, vI x1, vI x2, vI (h 26 ((10 * x1) + x2)), vJ 0] [vI 200, vI (h 26 ((10 * x1) + x2))] h _
        refine X_icmp (L := L_63) (n' := 34) rfl rfl rfl rfl (fun z31 => ?_) (fun z31 => ?_)
        · have z31 : ¬ h 26 ((10 * x1) + x2) = 200 := z31
          replace H := H.1 z31
          show X 63 34 [vR 6, vI x1, vI x2, vI (h 26 ((10 * x1) + x2)), vJ 0] [] h _
          obtain ⟨c32, H⟩ := H
          refine X_b 6 40 (L := L_63) rfl rfl rfl ?_
          show (-2147483648 ≤ (h 26 ((10 * x1) + x2)) - 100 ∧ (h 26 ((10 * x1) + x2)) - 100 ≤ 2147483647) ∧ X 63 40 [vR 6, vI x1, vI x2, vI (h 26 ((10 * x1) + x2)), vI ((h 26 ((10 * x1) + x2)) - 100)] [vI 4, vI x2] h _
          refine ⟨c32, ?_⟩
          refine X_icmp (L := L_63) (n' := 56) rfl rfl rfl rfl (fun z33 => ?_) (fun z33 => ?_)
          · have z33 : x2 < 4 := z33
            replace H := H.1 z33
            show X 63 56 [vR 6, vI x1, vI x2, vI (h 26 ((10 * x1) + x2)), vI ((h 26 ((10 * x1) + x2)) - 100)] [] h _
            refine X_b 1 57 (L := L_63) rfl rfl rfl ?_
            show X 63 57 [vR 6, vI x1, vI x2, vI (h 26 ((10 * x1) + x2)), vI ((h 26 ((10 * x1) + x2)) - 100)] [vI 1] h _
            refine X_goto (L := L_63) (n' := 59) rfl rfl rfl rfl ?_
            show X 63 59 [vR 6, vI x1, vI x2, vI (h 26 ((10 * x1) + x2)), vI ((h 26 ((10 * x1) + x2)) - 100)] [vI 1] h _
            refine X_zret (L := L_63) rfl rfl rfl rfl (by decide) ?_
            exact H
          · have z33 : 4 ≤ x2 := (Int.not_lt.mp z33)
            replace H := H.2 z33
            show X 63 41 [vR 6, vI x1, vI x2, vI (h 26 ((10 * x1) + x2)), vI ((h 26 ((10 * x1) + x2)) - 100)] [] h _
            obtain ⟨⟨c34, c35, c36, c37, c38, c39, c40, c41, c42⟩, H⟩ := H
            refine X_b 2 43 (L := L_63) rfl rfl rfl ?_
            show X 63 43 [vR 6, vI x1, vI x2, vI (h 26 ((10 * x1) + x2)), vI ((h 26 ((10 * x1) + x2)) - 100)] [vI 200, vI (h 26 ((10 * x1) + x2))] h _
            refine X_icmp (L := L_63) (n' := 47) rfl rfl rfl rfl (fun _ => ?_) (fun z => absurd z31 z)
            show X 63 47 [vR 6, vI x1, vI x2, vI (h 26 ((10 * x1) + x2)), vI ((h 26 ((10 * x1) + x2)) - 100)] [] h _
            refine X_b 5 52 (L := L_63) rfl rfl rfl ?_
            show X 63 52 [vR 6, vI x1, vI x2, vI (h 26 ((10 * x1) + x2)), vI ((h 26 ((10 * x1) + x2)) - 100)] [vI ((h 26 ((10 * x1) + x2)) - 100), vR 6, vI ((h 26 ((10 * x1) + x2)) - 100), vI x1, vR 6] h _
            refine X_call 35 [vR 6, vI ((h 26 ((10 * x1) + x2)) - 100)] [vI ((h 26 ((10 * x1) + x2)) - 100), vI x1, vR 6] rfl (sg_calv rfl rfl rfl rfl rfl rfl rfl rfl rfl rfl rfl) (by decide) ?_
            refine f_size c34 ?_
            show X 63 53 [vR 6, vI x1, vI x2, vI (h 26 ((10 * x1) + x2)), vI ((h 26 ((10 * x1) + x2)) - 100)] [vI (szo h ((h 26 ((10 * x1) + x2)) - 100)), vI ((h 26 ((10 * x1) + x2)) - 100), vI x1, vR 6] h _
            refine X_b 1 54 (L := L_63) rfl rfl rfl ?_
            show X 63 54 [vR 6, vI x1, vI x2, vI (h 26 ((10 * x1) + x2)), vI ((h 26 ((10 * x1) + x2)) - 100)] [vI x2, vI (szo h ((h 26 ((10 * x1) + x2)) - 100)), vI ((h 26 ((10 * x1) + x2)) - 100), vI x1, vR 6] h _
            refine X_call 42 [vR 6, vI x1, vI ((h 26 ((10 * x1) + x2)) - 100), vI (szo h ((h 26 ((10 * x1) + x2)) - 100)), vI x2] [] rfl (sg_calv rfl rfl rfl rfl rfl rfl rfl rfl rfl rfl rfl) (by decide) ?_
            show X 42 0 [vR 6, vI x1, vI ((h 26 ((10 * x1) + x2)) - 100), vI (szo h ((h 26 ((10 * x1) + x2)) - 100)), vI x2] [] h _
            refine X_b 8 8 (L := L_42) rfl rfl rfl ?_
            show (-2147483648 ≤ 270 * x1 ∧ 270 * x1 ≤ 2147483647) ∧ X 42 8 [vR 6, vI x1, vI ((h 26 ((10 * x1) + x2)) - 100), vI (szo h ((h 26 ((10 * x1) + x2)) - 100)), vI x2] [vI x2, vI (szo h ((h 26 ((10 * x1) + x2)) - 100)), vI ((h 26 ((10 * x1) + x2)) - 100), vI (270 * x1), vR 25] h _
            refine ⟨c35, ?_⟩
            refine X_call 41 [vI ((h 26 ((10 * x1) + x2)) - 100), vI (szo h ((h 26 ((10 * x1) + x2)) - 100)), vI x2] [vI (270 * x1), vR 25] rfl (sg_cals rfl rfl rfl rfl rfl rfl rfl rfl rfl rfl) (by decide) ?_
            show X 41 0 [vI ((h 26 ((10 * x1) + x2)) - 100), vI (szo h ((h 26 ((10 * x1) + x2)) - 100)), vI x2] [] h _
            refine X_b 11 11 (L := L_41) rfl rfl rfl ?_
            show (-2147483648 ≤ 30 * ((h 26 ((10 * x1) + x2)) - 100) ∧ 30 * ((h 26 ((10 * x1) + x2)) - 100) ≤ 2147483647) ∧ (-2147483648 ≤ 6 * (szo h ((h 26 ((10 * x1) + x2)) - 100)) ∧ 6 * (szo h ((h 26 ((10 * x1) + x2)) - 100)) ≤ 2147483647) ∧ (-2147483648 ≤ (30 * ((h 26 ((10 * x1) + x2)) - 100)) + (6 * (szo h ((h 26 ((10 * x1) + x2)) - 100))) ∧ (30 * ((h 26 ((10 * x1) + x2)) - 100)) + (6 * (szo h ((h 26 ((10 * x1) + x2)) - 100))) ≤ 2147483647) ∧ (-2147483648 ≤ ((30 * ((h 26 ((10 * x1) + x2)) - 100)) + (6 * (szo h ((h 26 ((10 * x1) + x2)) - 100)))) + x2 ∧ ((30 * ((h 26 ((10 * x1) + x2)) - 100)) + (6 * (szo h ((h 26 ((10 * x1) + x2)) - 100)))) + x2 ≤ 2147483647) ∧ (-2147483648 ≤ (((30 * ((h 26 ((10 * x1) + x2)) - 100)) + (6 * (szo h ((h 26 ((10 * x1) + x2)) - 100)))) + x2) - 4 ∧ (((30 * ((h 26 ((10 * x1) + x2)) - 100)) + (6 * (szo h ((h 26 ((10 * x1) + x2)) - 100)))) + x2) - 4 ≤ 2147483647) ∧ X 41 11 [vI ((h 26 ((10 * x1) + x2)) - 100), vI (szo h ((h 26 ((10 * x1) + x2)) - 100)), vI x2] [vI ((((30 * ((h 26 ((10 * x1) + x2)) - 100)) + (6 * (szo h ((h 26 ((10 * x1) + x2)) - 100)))) + x2) - 4)] h _
            refine ⟨c36, c37, c38, c39, c40, ?_⟩
            refine X_iret (L := L_41) rfl rfl rfl rfl ?_
            show X 42 9 [vR 6, vI x1, vI ((h 26 ((10 * x1) + x2)) - 100), vI (szo h ((h 26 ((10 * x1) + x2)) - 100)), vI x2] [vI ((((30 * ((h 26 ((10 * x1) + x2)) - 100)) + (6 * (szo h ((h 26 ((10 * x1) + x2)) - 100)))) + x2) - 4), vI (270 * x1), vR 25] h _
            refine X_b 2 11 (L := L_42) rfl rfl rfl ?_
            show (-2147483648 ≤ (270 * x1) + ((((30 * ((h 26 ((10 * x1) + x2)) - 100)) + (6 * (szo h ((h 26 ((10 * x1) + x2)) - 100)))) + x2) - 4) ∧ (270 * x1) + ((((30 * ((h 26 ((10 * x1) + x2)) - 100)) + (6 * (szo h ((h 26 ((10 * x1) + x2)) - 100)))) + x2) - 4) ≤ 2147483647) ∧ (0 ≤ (270 * x1) + ((((30 * ((h 26 ((10 * x1) + x2)) - 100)) + (6 * (szo h ((h 26 ((10 * x1) + x2)) - 100)))) + x2) - 4) ∧ (270 * x1) + ((((30 * ((h 26 ((10 * x1) + x2)) - 100)) + (6 * (szo h ((h 26 ((10 * x1) + x2)) - 100)))) + x2) - 4) < 13500) ∧ X 42 11 [vR 6, vI x1, vI ((h 26 ((10 * x1) + x2)) - 100), vI (szo h ((h 26 ((10 * x1) + x2)) - 100)), vI x2] [vI (h 25 ((270 * x1) + ((((30 * ((h 26 ((10 * x1) + x2)) - 100)) + (6 * (szo h ((h 26 ((10 * x1) + x2)) - 100)))) + x2) - 4)))] h _
            refine ⟨by have := c41; omega, c41, ?_⟩
            refine X_zret (L := L_42) rfl rfl rfl rfl c42 ?_
            show X 63 55 [vR 6, vI x1, vI x2, vI (h 26 ((10 * x1) + x2)), vI ((h 26 ((10 * x1) + x2)) - 100)] [vI (h 25 ((270 * x1) + ((((30 * ((h 26 ((10 * x1) + x2)) - 100)) + (6 * (szo h ((h 26 ((10 * x1) + x2)) - 100)))) + x2) - 4)))] h _
            refine X_if (L := L_63) (n' := 58) rfl rfl rfl rfl (fun z43 => ?_) (fun z43 => ?_)
            · have z43 : ¬ h 25 ((270 * x1) + ((((30 * ((h 26 ((10 * x1) + x2)) - 100)) + (6 * (szo h ((h 26 ((10 * x1) + x2)) - 100)))) + x2) - 4)) = 0 := z43
              replace H := H.1 z43
              show X 63 58 [vR 6, vI x1, vI x2, vI (h 26 ((10 * x1) + x2)), vI ((h 26 ((10 * x1) + x2)) - 100)] [] h _
              refine X_b 1 59 (L := L_63) rfl rfl rfl ?_
              show X 63 59 [vR 6, vI x1, vI x2, vI (h 26 ((10 * x1) + x2)), vI ((h 26 ((10 * x1) + x2)) - 100)] [vI 0] h _
              refine X_zret (L := L_63) rfl rfl rfl rfl (by decide) ?_
              exact H
            · have z43 : h 25 ((270 * x1) + ((((30 * ((h 26 ((10 * x1) + x2)) - 100)) + (6 * (szo h ((h 26 ((10 * x1) + x2)) - 100)))) + x2) - 4)) = 0 := (Classical.not_not.mp z43)
              replace H := H.2 z43
              show X 63 56 [vR 6, vI x1, vI x2, vI (h 26 ((10 * x1) + x2)), vI ((h 26 ((10 * x1) + x2)) - 100)] [] h _
              refine X_b 1 57 (L := L_63) rfl rfl rfl ?_
              show X 63 57 [vR 6, vI x1, vI x2, vI (h 26 ((10 * x1) + x2)), vI ((h 26 ((10 * x1) + x2)) - 100)] [vI 1] h _
              refine X_goto (L := L_63) (n' := 59) rfl rfl rfl rfl ?_
              show X 63 59 [vR 6, vI x1, vI x2, vI (h 26 ((10 * x1) + x2)), vI ((h 26 ((10 * x1) + x2)) - 100)] [vI 1] h _
              refine X_zret (L := L_63) rfl rfl rfl rfl (by decide) ?_
              exact H
        · have z31 : h 26 ((10 * x1) + x2) = 200 := (Classical.not_not.mp z31)
          replace H := H.2 z31
          show X 63 31 [vR 6, vI x1, vI x2, vI (h 26 ((10 * x1) + x2)), vJ 0] [] h _
          refine X_b 2 33 (L := L_63) rfl rfl rfl ?_
          show X 63 33 [vR 6, vI x1, vI x2, vI (h 26 ((10 * x1) + x2)), vJ 0] [vI (h 6 1)] h _
          refine X_goto (L := L_63) (n' := 37) rfl rfl rfl rfl ?_
          show X 63 37 [vR 6, vI x1, vI x2, vI (h 26 ((10 * x1) + x2)), vJ 0] [vI (h 6 1)] h _
          refine X_b 3 40 (L := L_63) rfl rfl rfl ?_
          show X 63 40 [vR 6, vI x1, vI x2, vI (h 26 ((10 * x1) + x2)), vI (h 6 1)] [vI 4, vI x2] h _
          refine X_icmp (L := L_63) (n' := 56) rfl rfl rfl rfl (fun z44 => ?_) (fun z44 => ?_)
          · have z44 : x2 < 4 := z44
            replace H := H.1 z44
            show X 63 56 [vR 6, vI x1, vI x2, vI (h 26 ((10 * x1) + x2)), vI (h 6 1)] [] h _
            refine X_b 1 57 (L := L_63) rfl rfl rfl ?_
            show X 63 57 [vR 6, vI x1, vI x2, vI (h 26 ((10 * x1) + x2)), vI (h 6 1)] [vI 1] h _
            refine X_goto (L := L_63) (n' := 59) rfl rfl rfl rfl ?_
            show X 63 59 [vR 6, vI x1, vI x2, vI (h 26 ((10 * x1) + x2)), vI (h 6 1)] [vI 1] h _
            refine X_zret (L := L_63) rfl rfl rfl rfl (by decide) ?_
            exact H
          · have z44 : 4 ≤ x2 := (Int.not_lt.mp z44)
            replace H := H.2 z44
            show X 63 41 [vR 6, vI x1, vI x2, vI (h 26 ((10 * x1) + x2)), vI (h 6 1)] [] h _
            refine X_b 2 43 (L := L_63) rfl rfl rfl ?_
            show X 63 43 [vR 6, vI x1, vI x2, vI (h 26 ((10 * x1) + x2)), vI (h 6 1)] [vI 200, vI (h 26 ((10 * x1) + x2))] h _
            refine X_icmp (L := L_63) (n' := 47) rfl rfl rfl rfl (fun z => absurd z31 z) (fun _ => ?_)
            show X 63 44 [vR 6, vI x1, vI x2, vI (h 26 ((10 * x1) + x2)), vI (h 6 1)] [] h _
            refine X_b 2 46 (L := L_63) rfl rfl rfl ?_
            show X 63 46 [vR 6, vI x1, vI x2, vI (h 26 ((10 * x1) + x2)), vI (h 6 1)] [vI 9, vI x2] h _
            refine X_icmp (L := L_63) (n' := 56) rfl rfl rfl rfl (fun z45 => ?_) (fun z45 => ?_)
            · have z45 : ¬ x2 = 9 := z45
              replace H := H.1 z45
              show X 63 56 [vR 6, vI x1, vI x2, vI (h 26 ((10 * x1) + x2)), vI (h 6 1)] [] h _
              refine X_b 1 57 (L := L_63) rfl rfl rfl ?_
              show X 63 57 [vR 6, vI x1, vI x2, vI (h 26 ((10 * x1) + x2)), vI (h 6 1)] [vI 1] h _
              refine X_goto (L := L_63) (n' := 59) rfl rfl rfl rfl ?_
              show X 63 59 [vR 6, vI x1, vI x2, vI (h 26 ((10 * x1) + x2)), vI (h 6 1)] [vI 1] h _
              refine X_zret (L := L_63) rfl rfl rfl rfl (by decide) ?_
              exact H
            · have z45 : x2 = 9 := (Classical.not_not.mp z45)
              replace H := H.2 z45
              show X 63 47 [vR 6, vI x1, vI x2, vI (h 26 ((10 * x1) + x2)), vI (h 6 1)] [] h _
              obtain ⟨⟨c46, c47, c48, c49, c50, c51, c52, c53, c54⟩, H⟩ := H
              refine X_b 5 52 (L := L_63) rfl rfl rfl ?_
              show X 63 52 [vR 6, vI x1, vI x2, vI (h 26 ((10 * x1) + x2)), vI (h 6 1)] [vI (h 6 1), vR 6, vI (h 6 1), vI x1, vR 6] h _
              refine X_call 35 [vR 6, vI (h 6 1)] [vI (h 6 1), vI x1, vR 6] rfl (sg_calv rfl rfl rfl rfl rfl rfl rfl rfl rfl rfl rfl) (by decide) ?_
              refine f_size c46 ?_
              show X 63 53 [vR 6, vI x1, vI x2, vI (h 26 ((10 * x1) + x2)), vI (h 6 1)] [vI (szo h (h 6 1)), vI (h 6 1), vI x1, vR 6] h _
              refine X_b 1 54 (L := L_63) rfl rfl rfl ?_
              show X 63 54 [vR 6, vI x1, vI x2, vI (h 26 ((10 * x1) + x2)), vI (h 6 1)] [vI x2, vI (szo h (h 6 1)), vI (h 6 1), vI x1, vR 6] h _
              refine X_call 42 [vR 6, vI x1, vI (h 6 1), vI (szo h (h 6 1)), vI x2] [] rfl (sg_calv rfl rfl rfl rfl rfl rfl rfl rfl rfl rfl rfl) (by decide) ?_
              show X 42 0 [vR 6, vI x1, vI (h 6 1), vI (szo h (h 6 1)), vI x2] [] h _
              refine X_b 8 8 (L := L_42) rfl rfl rfl ?_
              show (-2147483648 ≤ 270 * x1 ∧ 270 * x1 ≤ 2147483647) ∧ X 42 8 [vR 6, vI x1, vI (h 6 1), vI (szo h (h 6 1)), vI x2] [vI x2, vI (szo h (h 6 1)), vI (h 6 1), vI (270 * x1), vR 25] h _
              refine ⟨c47, ?_⟩
              refine X_call 41 [vI (h 6 1), vI (szo h (h 6 1)), vI x2] [vI (270 * x1), vR 25] rfl (sg_cals rfl rfl rfl rfl rfl rfl rfl rfl rfl rfl) (by decide) ?_
              show X 41 0 [vI (h 6 1), vI (szo h (h 6 1)), vI x2] [] h _
              refine X_b 11 11 (L := L_41) rfl rfl rfl ?_
              show (-2147483648 ≤ 30 * (h 6 1) ∧ 30 * (h 6 1) ≤ 2147483647) ∧ (-2147483648 ≤ 6 * (szo h (h 6 1)) ∧ 6 * (szo h (h 6 1)) ≤ 2147483647) ∧ (-2147483648 ≤ (30 * (h 6 1)) + (6 * (szo h (h 6 1))) ∧ (30 * (h 6 1)) + (6 * (szo h (h 6 1))) ≤ 2147483647) ∧ (-2147483648 ≤ ((30 * (h 6 1)) + (6 * (szo h (h 6 1)))) + x2 ∧ ((30 * (h 6 1)) + (6 * (szo h (h 6 1)))) + x2 ≤ 2147483647) ∧ (-2147483648 ≤ (((30 * (h 6 1)) + (6 * (szo h (h 6 1)))) + x2) - 4 ∧ (((30 * (h 6 1)) + (6 * (szo h (h 6 1)))) + x2) - 4 ≤ 2147483647) ∧ X 41 11 [vI (h 6 1), vI (szo h (h 6 1)), vI x2] [vI ((((30 * (h 6 1)) + (6 * (szo h (h 6 1)))) + x2) - 4)] h _
              refine ⟨c48, c49, c50, c51, c52, ?_⟩
              refine X_iret (L := L_41) rfl rfl rfl rfl ?_
              show X 42 9 [vR 6, vI x1, vI (h 6 1), vI (szo h (h 6 1)), vI x2] [vI ((((30 * (h 6 1)) + (6 * (szo h (h 6 1)))) + x2) - 4), vI (270 * x1), vR 25] h _
              refine X_b 2 11 (L := L_42) rfl rfl rfl ?_
              show (-2147483648 ≤ (270 * x1) + ((((30 * (h 6 1)) + (6 * (szo h (h 6 1)))) + x2) - 4) ∧ (270 * x1) + ((((30 * (h 6 1)) + (6 * (szo h (h 6 1)))) + x2) - 4) ≤ 2147483647) ∧ (0 ≤ (270 * x1) + ((((30 * (h 6 1)) + (6 * (szo h (h 6 1)))) + x2) - 4) ∧ (270 * x1) + ((((30 * (h 6 1)) + (6 * (szo h (h 6 1)))) + x2) - 4) < 13500) ∧ X 42 11 [vR 6, vI x1, vI (h 6 1), vI (szo h (h 6 1)), vI x2] [vI (h 25 ((270 * x1) + ((((30 * (h 6 1)) + (6 * (szo h (h 6 1)))) + x2) - 4)))] h _
              refine ⟨by have := c53; omega, c53, ?_⟩
              refine X_zret (L := L_42) rfl rfl rfl rfl c54 ?_
              show X 63 55 [vR 6, vI x1, vI x2, vI (h 26 ((10 * x1) + x2)), vI (h 6 1)] [vI (h 25 ((270 * x1) + ((((30 * (h 6 1)) + (6 * (szo h (h 6 1)))) + x2) - 4)))] h _
              refine X_if (L := L_63) (n' := 58) rfl rfl rfl rfl (fun z55 => ?_) (fun z55 => ?_)
              · have z55 : ¬ h 25 ((270 * x1) + ((((30 * (h 6 1)) + (6 * (szo h (h 6 1)))) + x2) - 4)) = 0 := z55
                replace H := H.1 z55
                show X 63 58 [vR 6, vI x1, vI x2, vI (h 26 ((10 * x1) + x2)), vI (h 6 1)] [] h _
                refine X_b 1 59 (L := L_63) rfl rfl rfl ?_
                show X 63 59 [vR 6, vI x1, vI x2, vI (h 26 ((10 * x1) + x2)), vI (h 6 1)] [vI 0] h _
                refine X_zret (L := L_63) rfl rfl rfl rfl (by decide) ?_
                exact H
              · have z55 : h 25 ((270 * x1) + ((((30 * (h 6 1)) + (6 * (szo h (h 6 1)))) + x2) - 4)) = 0 := (Classical.not_not.mp z55)
                replace H := H.2 z55
                show X 63 56 [vR 6, vI x1, vI x2, vI (h 26 ((10 * x1) + x2)), vI (h 6 1)] [] h _
                refine X_b 1 57 (L := L_63) rfl rfl rfl ?_
                show X 63 57 [vR 6, vI x1, vI x2, vI (h 26 ((10 * x1) + x2)), vI (h 6 1)] [vI 1] h _
                refine X_goto (L := L_63) (n' := 59) rfl rfl rfl rfl ?_
                show X 63 59 [vR 6, vI x1, vI x2, vI (h 26 ((10 * x1) + x2)), vI (h 6 1)] [vI 1] h _
                refine X_zret (L := L_63) rfl rfl rfl rfl (by decide) ?_
                exact H
      · have z30 : h 26 ((10 * x1) + x2) < 100 := (Int.not_le.mp z30)
        replace H := H.2 z30
        show X 58 14 [vR 6, vI x1, vI x2, vI (h 26 ((10 * x1) + x2))] [] h _
        refine X_b 1 15 (L := L_58) rfl rfl rfl ?_
        show X 58 15 [vR 6, vI x1, vI x2, vI (h 26 ((10 * x1) + x2))] [vI 1] h _
        refine X_goto (L := L_58) (n' := 17) rfl rfl rfl rfl ?_
        show X 58 17 [vR 6, vI x1, vI x2, vI (h 26 ((10 * x1) + x2))] [vI 1] h _
        refine X_zret (L := L_58) rfl rfl rfl rfl (by decide) ?_
        show X 63 18 [vR 6, vI x1, vI x2, vI (h 26 ((10 * x1) + x2)), vJ 0] [vI 1] h _
        refine X_if (L := L_63) (n' := 28) rfl rfl rfl rfl (fun z => absurd z (show ¬ ((1 : Int) = (0 : Int)) by decide)) (fun _ => ?_)
        show X 63 19 [vR 6, vI x1, vI x2, vI (h 26 ((10 * x1) + x2)), vJ 0] [] h _
        refine X_b 1 20 (L := L_63) rfl rfl rfl ?_
        show X 63 20 [vR 6, vI x1, vI x2, vI (h 26 ((10 * x1) + x2)), vJ 0] [vI (h 26 ((10 * x1) + x2))] h _
        refine X_if (L := L_63) (n' := 24) rfl rfl rfl rfl (fun z56 => ?_) (fun z56 => ?_)
        · have z56 : h 26 ((10 * x1) + x2) = 0 := z56
          replace H := H.1 z56
          show X 63 24 [vR 6, vI x1, vI x2, vI (h 26 ((10 * x1) + x2)), vJ 0] [] h _
          refine X_b 1 25 (L := L_63) rfl rfl rfl ?_
          show X 63 25 [vR 6, vI x1, vI x2, vI (h 26 ((10 * x1) + x2)), vJ 0] [vI 1] h _
          refine X_goto (L := L_63) (n' := 27) rfl rfl rfl rfl ?_
          show X 63 27 [vR 6, vI x1, vI x2, vI (h 26 ((10 * x1) + x2)), vJ 0] [vI 1] h _
          refine X_zret (L := L_63) rfl rfl rfl rfl (by decide) ?_
          exact H
        · have z56 : ¬ h 26 ((10 * x1) + x2) = 0 := z56
          replace H := H.2 z56
          show X 63 21 [vR 6, vI x1, vI x2, vI (h 26 ((10 * x1) + x2)), vJ 0] [] h _
          refine X_b 2 23 (L := L_63) rfl rfl rfl ?_
          show X 63 23 [vR 6, vI x1, vI x2, vI (h 26 ((10 * x1) + x2)), vJ 0] [vI 9, vI x2] h _
          refine X_icmp (L := L_63) (n' := 26) rfl rfl rfl rfl (fun z57 => ?_) (fun z57 => ?_)
          · have z57 : ¬ x2 = 9 := z57
            replace H := H.1 z57
            show X 63 26 [vR 6, vI x1, vI x2, vI (h 26 ((10 * x1) + x2)), vJ 0] [] h _
            refine X_b 1 27 (L := L_63) rfl rfl rfl ?_
            show X 63 27 [vR 6, vI x1, vI x2, vI (h 26 ((10 * x1) + x2)), vJ 0] [vI 0] h _
            refine X_zret (L := L_63) rfl rfl rfl rfl (by decide) ?_
            exact H
          · have z57 : x2 = 9 := (Classical.not_not.mp z57)
            replace H := H.2 z57
            show X 63 24 [vR 6, vI x1, vI x2, vI (h 26 ((10 * x1) + x2)), vJ 0] [] h _
            refine X_b 1 25 (L := L_63) rfl rfl rfl ?_
            show X 63 25 [vR 6, vI x1, vI x2, vI (h 26 ((10 * x1) + x2)), vJ 0] [vI 1] h _
            refine X_goto (L := L_63) (n' := 27) rfl rfl rfl rfl ?_
            show X 63 27 [vR 6, vI x1, vI x2, vI (h 26 ((10 * x1) + x2)), vJ 0] [vI 1] h _
            refine X_zret (L := L_63) rfl rfl rfl rfl (by decide) ?_
            exact H
  · have z3 : h 26 ((10 * x1) + x2) = (-1) := (Classical.not_not.mp z3)
    replace H := H.2 z3
    show X 63 12 [vR 6, vI x1, vI x2, vI (h 26 ((10 * x1) + x2)), vJ 0] [] h _
    refine X_b 1 13 (L := L_63) rfl rfl rfl ?_
    show X 63 13 [vR 6, vI x1, vI x2, vI (h 26 ((10 * x1) + x2)), vJ 0] [vI 0] h _
    refine X_zret (L := L_63) rfl rfl rfl rfl (by decide) ?_
    exact H

/-- PPModel.hasBadEntry, row 0 -/
theorem s_64_0 (x1 : Int) (h : ab_S) (K : ab_O → ab_S → Prop) (H : X 64 2 [vR 6, vI x1, vI 0, vJ 0] [] h K) : C 64 [vR 6, vI x1] h K := by
  show X 64 0 [vR 6, vI x1, vJ 0, vJ 0] [] h K
  refine X_b 2 2 (L := L_64) rfl rfl rfl ?_
  show X 64 2 [vR 6, vI x1, vI 0, vJ 0] [] h _
  exact H

/-- PPModel.hasBadEntry, row 2 -/
theorem s_64_2 (x1 x2 : Int) (w3 : ab_V) (h : ab_S) (K : ab_O → ab_S → Prop) (H : ((h 6 7 ≤ x2 → K (oI 0) h) ∧ (x2 < h 6 7 → X 64 8 [vR 6, vI x1, vI x2, vI 0] [] h K))) : X 64 2 [vR 6, vI x1, vI x2, w3] [] h K := by
  refine X_b 3 5 (L := L_64) rfl rfl rfl ?_
  show X 64 5 [vR 6, vI x1, vI x2, w3] [vI (h 6 7), vI x2] h _
  refine X_icmp (L := L_64) (n' := 36) rfl rfl rfl rfl (fun z1 => ?_) (fun z1 => ?_)
  · have z1 : h 6 7 ≤ x2 := z1
    replace H := H.1 z1
    show X 64 36 [vR 6, vI x1, vI x2, w3] [] h _
    refine X_b 1 37 (L := L_64) rfl rfl rfl ?_
    show X 64 37 [vR 6, vI x1, vI x2, w3] [vI 0] h _
    refine X_zret (L := L_64) rfl rfl rfl rfl (by decide) ?_
    exact H
  · have z1 : x2 < h 6 7 := (Int.not_le.mp z1)
    replace H := H.2 z1
    show X 64 6 [vR 6, vI x1, vI x2, w3] [] h _
    refine X_b 2 8 (L := L_64) rfl rfl rfl ?_
    show X 64 8 [vR 6, vI x1, vI x2, vI 0] [] h _
    exact H

/-- PPModel.hasBadEntry, row 8 -/
theorem s_64_8 (x1 x2 x3 : Int) (h : ab_S) (K : ab_O → ab_S → Prop) (H : ((9 < x3 → ((-2147483648 ≤ x2 + 1 ∧ x2 + 1 ≤ 2147483647)) ∧ X 64 2 [vR 6, vI x1, vI (x2 + 1), vI x3] [] h K) ∧ (x3 ≤ 9 → ((¬ x1 = 2 → C 63 [vR 6, vI x2, vI x3] h (kI (fun v4 h4 => ((v4 = 0 → ((-2147483648 ≤ x3 + 1 ∧ x3 + 1 ≤ 2147483647)) ∧ X 64 8 [vR 6, vI x1, vI x2, vI (x3 + 1)] [] h4 K) ∧ (¬ v4 = 0 → K (oI 1) (ab_up (ab_up (ab_up (ab_up h4 6 13 x2) 6 14 x3) 6 15 (-1)) 6 16 (-1))))))) ∧ (x1 = 2 → C 62 [vR 6, vI x2, vI x3] h (kI (fun v7 h7 => ((v7 = 0 → ((-2147483648 ≤ x3 + 1 ∧ x3 + 1 ≤ 2147483647)) ∧ X 64 8 [vR 6, vI x1, vI x2, vI (x3 + 1)] [] h7 K) ∧ (¬ v7 = 0 → K (oI 1) (ab_up (ab_up (ab_up (ab_up h7 6 13 x2) 6 14 x3) 6 15 (-1)) 6 16 (-1))))))))))) : X 64 8 [vR 6, vI x1, vI x2, vI x3] [] h K := by
  refine X_b 2 10 (L := L_64) rfl rfl rfl ?_
  show X 64 10 [vR 6, vI x1, vI x2, vI x3] [vI 9, vI x3] h _
  refine X_icmp (L := L_64) (n' := 34) rfl rfl rfl rfl (fun z1 => ?_) (fun z1 => ?_)
  · have z1 : 9 < x3 := z1
    replace H := H.1 z1
    show X 64 34 [vR 6, vI x1, vI x2, vI x3] [] h _
    obtain ⟨c2, H⟩ := H
    refine X_b 1 35 (L := L_64) rfl rfl rfl ?_
    show (-2147483648 ≤ x2 + 1 ∧ x2 + 1 ≤ 2147483647) ∧ X 64 35 [vR 6, vI x1, vI (x2 + 1), vI x3] [] h _
    refine ⟨c2, ?_⟩
    refine X_goto (L := L_64) (n' := 2) rfl rfl rfl rfl ?_
    show X 64 2 [vR 6, vI x1, vI (x2 + 1), vI x3] [] h _
    exact H
  · have z1 : x3 ≤ 9 := (Int.not_lt.mp z1)
    replace H := H.2 z1
    show X 64 11 [vR 6, vI x1, vI x2, vI x3] [] h _
    refine X_b 2 13 (L := L_64) rfl rfl rfl ?_
    show X 64 13 [vR 6, vI x1, vI x2, vI x3] [vI 2, vI x1] h _
    refine X_icmp (L := L_64) (n' := 20) rfl rfl rfl rfl (fun z3 => ?_) (fun z3 => ?_)
    · have z3 : ¬ x1 = 2 := z3
      replace H := H.1 z3
      show X 64 20 [vR 6, vI x1, vI x2, vI x3] [] h _
      refine X_b 3 23 (L := L_64) rfl rfl rfl ?_
      show X 64 23 [vR 6, vI x1, vI x2, vI x3] [vI x3, vI x2, vR 6] h _
      refine X_call 63 [vR 6, vI x2, vI x3] [] rfl (sg_calv rfl rfl rfl rfl rfl rfl rfl rfl rfl rfl rfl) (by decide) ?_
      refine C_mono H (kI_to ?_)
      intro v4 h4 H
      show X 64 24 [vR 6, vI x1, vI x2, vI x3] [vI v4] h4 _
      refine X_if (L := L_64) (n' := 32) rfl rfl rfl rfl (fun z5 => ?_) (fun z5 => ?_)
      · have z5 : v4 = 0 := z5
        replace H := H.1 z5
        show X 64 32 [vR 6, vI x1, vI x2, vI x3] [] h4 _
        obtain ⟨c6, H⟩ := H
        refine X_b 1 33 (L := L_64) rfl rfl rfl ?_
        show (-2147483648 ≤ x3 + 1 ∧ x3 + 1 ≤ 2147483647) ∧ X 64 33 [vR 6, vI x1, vI x2, vI (x3 + 1)] [] h4 _
        refine ⟨c6, ?_⟩
        refine X_goto (L := L_64) (n' := 8) rfl rfl rfl rfl ?_
        show X 64 8 [vR 6, vI x1, vI x2, vI (x3 + 1)] [] h4 _
        exact H
      · have z5 : ¬ v4 = 0 := z5
        replace H := H.2 z5
        show X 64 25 [vR 6, vI x1, vI x2, vI x3] [] h4 _
        refine X_b 5 30 (L := L_64) rfl rfl rfl ?_
        show X 64 30 [vR 6, vI x1, vI x2, vI x3] [vI (-1), vI (-1), vI x3, vI x2, vR 6] h4 _
        refine X_call 31 [vR 6, vI x2, vI x3, vI (-1), vI (-1)] [] rfl (sg_calv rfl rfl rfl rfl rfl rfl rfl rfl rfl rfl rfl) (by decide) ?_
        show X 31 0 [vR 6, vI x2, vI x3, vI (-1), vI (-1)] [] h4 _
        refine X_b 13 13 (L := L_31) rfl rfl rfl ?_
        show X 31 13 [vR 6, vI x2, vI x3, vI (-1), vI (-1)] [vI 1] (ab_up (ab_up (ab_up (ab_up h4 6 13 x2) 6 14 x3) 6 15 (-1)) 6 16 (-1)) _
        refine X_zret (L := L_31) rfl rfl rfl rfl (by decide) ?_
        show X 64 31 [vR 6, vI x1, vI x2, vI x3] [vI 1] (ab_up (ab_up (ab_up (ab_up h4 6 13 x2) 6 14 x3) 6 15 (-1)) 6 16 (-1)) _
        refine X_zret (L := L_64) rfl rfl rfl rfl (by decide) ?_
        exact H
    · have z3 : x1 = 2 := (Classical.not_not.mp z3)
      replace H := H.2 z3
      show X 64 14 [vR 6, vI x1, vI x2, vI x3] [] h _
      refine X_b 3 17 (L := L_64) rfl rfl rfl ?_
      show X 64 17 [vR 6, vI x1, vI x2, vI x3] [vI x3, vI x2, vR 6] h _
      refine X_call 62 [vR 6, vI x2, vI x3] [] rfl (sg_calv rfl rfl rfl rfl rfl rfl rfl rfl rfl rfl rfl) (by decide) ?_
      refine C_mono H (kI_to ?_)
      intro v7 h7 H
      show X 64 18 [vR 6, vI x1, vI x2, vI x3] [vI v7] h7 _
      refine X_if (L := L_64) (n' := 32) rfl rfl rfl rfl (fun z8 => ?_) (fun z8 => ?_)
      · have z8 : v7 = 0 := z8
        replace H := H.1 z8
        show X 64 32 [vR 6, vI x1, vI x2, vI x3] [] h7 _
        obtain ⟨c9, H⟩ := H
        refine X_b 1 33 (L := L_64) rfl rfl rfl ?_
        show (-2147483648 ≤ x3 + 1 ∧ x3 + 1 ≤ 2147483647) ∧ X 64 33 [vR 6, vI x1, vI x2, vI (x3 + 1)] [] h7 _
        refine ⟨c9, ?_⟩
        refine X_goto (L := L_64) (n' := 8) rfl rfl rfl rfl ?_
        show X 64 8 [vR 6, vI x1, vI x2, vI (x3 + 1)] [] h7 _
        exact H
      · have z8 : ¬ v7 = 0 := z8
        replace H := H.2 z8
        show X 64 19 [vR 6, vI x1, vI x2, vI x3] [] h7 _
        refine X_goto (L := L_64) (n' := 25) rfl rfl rfl rfl ?_
        show X 64 25 [vR 6, vI x1, vI x2, vI x3] [] h7 _
        refine X_b 5 30 (L := L_64) rfl rfl rfl ?_
        show X 64 30 [vR 6, vI x1, vI x2, vI x3] [vI (-1), vI (-1), vI x3, vI x2, vR 6] h7 _
        refine X_call 31 [vR 6, vI x2, vI x3, vI (-1), vI (-1)] [] rfl (sg_calv rfl rfl rfl rfl rfl rfl rfl rfl rfl rfl rfl) (by decide) ?_
        show X 31 0 [vR 6, vI x2, vI x3, vI (-1), vI (-1)] [] h7 _
        refine X_b 13 13 (L := L_31) rfl rfl rfl ?_
        show X 31 13 [vR 6, vI x2, vI x3, vI (-1), vI (-1)] [vI 1] (ab_up (ab_up (ab_up (ab_up h7 6 13 x2) 6 14 x3) 6 15 (-1)) 6 16 (-1)) _
        refine X_zret (L := L_31) rfl rfl rfl rfl (by decide) ?_
        show X 64 31 [vR 6, vI x1, vI x2, vI x3] [vI 1] (ab_up (ab_up (ab_up (ab_up h7 6 13 x2) 6 14 x3) 6 15 (-1)) 6 16 (-1)) _
        refine X_zret (L := L_64) rfl rfl rfl rfl (by decide) ?_
        exact H

set_option maxRecDepth 8192 in
/-- PPModel.check, row 0 -/
theorem s_65_0 (h : ab_S) (K : ab_O → ab_S → Prop) (H : ((¬ h 6 7 = 0 → C 39 [vR 6] (ab_up (ab_up (ab_up (ab_up (ab_up h 6 0 0) 6 13 (-1)) 6 14 (-1)) 6 15 (-1)) 6 16 (-1)) (kV (fun h2 => X 65 23 [vR 6, vI 0, vI 1, vJ 0] [] h2 K))) ∧ (h 6 7 = 0 → K (oI 0) (ab_up (ab_up h 6 0 0) 6 0 1)))) : C 65 [vR 6] h K := by
  show X 65 0 [vR 6, vJ 0, vJ 0, vJ 0] [] h K
  refine X_b 5 5 (L := L_65) rfl rfl rfl ?_
  show X 65 5 [vR 6, vJ 0, vJ 0, vJ 0] [vI (h 6 7)] (ab_up h 6 0 0) _
  refine X_if (L := L_65) (n' := 10) rfl rfl rfl rfl (fun z1 => ?_) (fun z1 => ?_)
  · have z1 : ¬ h 6 7 = 0 := z1
    replace H := H.1 z1
    show X 65 10 [vR 6, vJ 0, vJ 0, vJ 0] [] (ab_up h 6 0 0) _
    refine X_b 5 15 (L := L_65) rfl rfl rfl ?_
    show X 65 15 [vR 6, vJ 0, vJ 0, vJ 0] [vI (-1), vI (-1), vI (-1), vI (-1), vR 6] (ab_up h 6 0 0) _
    refine X_call 31 [vR 6, vI (-1), vI (-1), vI (-1), vI (-1)] [] rfl (sg_calv rfl rfl rfl rfl rfl rfl rfl rfl rfl rfl rfl) (by decide) ?_
    show X 31 0 [vR 6, vI (-1), vI (-1), vI (-1), vI (-1)] [] (ab_up h 6 0 0) _
    refine X_b 13 13 (L := L_31) rfl rfl rfl ?_
    show X 31 13 [vR 6, vI (-1), vI (-1), vI (-1), vI (-1)] [vI 1] (ab_up (ab_up (ab_up (ab_up (ab_up h 6 0 0) 6 13 (-1)) 6 14 (-1)) 6 15 (-1)) 6 16 (-1)) _
    refine X_zret (L := L_31) rfl rfl rfl rfl (by decide) ?_
    show X 65 16 [vR 6, vJ 0, vJ 0, vJ 0] [vI 1] (ab_up (ab_up (ab_up (ab_up (ab_up h 6 0 0) 6 13 (-1)) 6 14 (-1)) 6 15 (-1)) 6 16 (-1)) _
    refine X_b 2 18 (L := L_65) rfl rfl rfl ?_
    show X 65 18 [vR 6, vJ 0, vJ 0, vJ 0] [vR 6] (ab_up (ab_up (ab_up (ab_up (ab_up h 6 0 0) 6 13 (-1)) 6 14 (-1)) 6 15 (-1)) 6 16 (-1)) _
    refine X_call 39 [vR 6] [] rfl (sg_calv rfl rfl rfl rfl rfl rfl rfl rfl rfl rfl rfl) (by decide) ?_
    refine C_mono H (kV_to ?_)
    intro h2 H
    show X 65 19 [vR 6, vJ 0, vJ 0, vJ 0] [] h2 _
    refine X_b 4 23 (L := L_65) rfl rfl rfl ?_
    show X 65 23 [vR 6, vI 0, vI 1, vJ 0] [] h2 _
    exact H
  · have z1 : h 6 7 = 0 := (Classical.not_not.mp z1)
    replace H := H.2 z1
    show X 65 6 [vR 6, vJ 0, vJ 0, vJ 0] [] (ab_up h 6 0 0) _
    refine X_b 2 8 (L := L_65) rfl rfl rfl ?_
    show X 65 8 [vR 6, vJ 0, vJ 0, vJ 0] [vI 1, vR 6] (ab_up h 6 0 0) _
    refine X_call 29 [vR 6, vI 1] [] rfl (sg_calv rfl rfl rfl rfl rfl rfl rfl rfl rfl rfl rfl) (by decide) ?_
    show X 29 0 [vR 6, vI 1] [] (ab_up h 6 0 0) _
    refine X_b 4 4 (L := L_29) rfl rfl rfl ?_
    show X 29 4 [vR 6, vI 1] [vI 0] (ab_up (ab_up h 6 0 0) 6 0 1) _
    refine X_iret (L := L_29) rfl rfl rfl rfl ?_
    show X 65 9 [vR 6, vJ 0, vJ 0, vJ 0] [vI 0] (ab_up (ab_up h 6 0 0) 6 0 1) _
    refine X_iret (L := L_65) rfl rfl rfl rfl ?_
    exact H

set_option maxRecDepth 8192 in
/-- PPModel.check, row 23 -/
theorem s_65_23 (x1 x2 : Int) (w3 : ab_V) (h : ab_S) (K : ab_O → ab_S → Prop) (H : ((9 ≤ x2 → K (oI x1) h) ∧ (x2 < 9 → ((¬ x1 = 0 → K (oI x1) h) ∧ (x1 = 0 → ((x2 = 2 → C 64 [vR 6, vI x2] h (kI (fun v4 h4 => ((v4 = 0 → ((-2147483648 ≤ x2 + 1 ∧ x2 + 1 ≤ 2147483647)) ∧ X 65 23 [vR 6, vI 0, vI (x2 + 1), vI v4] [] h4 K) ∧ (¬ v4 = 0 → ((-2147483648 ≤ x2 + 1 ∧ x2 + 1 ≤ 2147483647)) ∧ X 65 23 [vR 6, vI x2, vI (x2 + 1), vI v4] [] h4 K))))) ∧ (¬ x2 = 2 → ((¬ x2 = 3 → ((¬ x2 = 5 → C 61 [vR 6, vI x2] h (kI (fun v10 h10 => ((v10 = 0 → ((-2147483648 ≤ x2 + 1 ∧ x2 + 1 ≤ 2147483647)) ∧ X 65 23 [vR 6, vI 0, vI (x2 + 1), vI v10] [] h10 K) ∧ (¬ v10 = 0 → ((-2147483648 ≤ x2 + 1 ∧ x2 + 1 ≤ 2147483647)) ∧ X 65 23 [vR 6, vI x2, vI (x2 + 1), vI v10] [] h10 K))))) ∧ (x2 = 5 → ((-2147483648 ≤ 30 * (h 6 1) ∧ 30 * (h 6 1) ≤ 2147483647) ∧ (-2147483648 ≤ (30 * (h 6 1)) + 0 ∧ (30 * (h 6 1)) + 0 ≤ 2147483647) ∧ (-2147483648 ≤ ((30 * (h 6 1)) + 0) + 9 ∧ ((30 * (h 6 1)) + 0) + 9 ≤ 2147483647) ∧ (-2147483648 ≤ (((30 * (h 6 1)) + 0) + 9) - 4 ∧ (((30 * (h 6 1)) + 0) + 9) - 4 ≤ 2147483647) ∧ (0 ≤ 0 + ((((30 * (h 6 1)) + 0) + 9) - 4) ∧ 0 + ((((30 * (h 6 1)) + 0) + 9) - 4) < 13500) ∧ (h 25 (0 + ((((30 * (h 6 1)) + 0) + 9) - 4)) = 0 ∨ h 25 (0 + ((((30 * (h 6 1)) + 0) + 9) - 4)) = 1)) ∧ ((¬ h 25 (0 + ((((30 * (h 6 1)) + 0) + 9) - 4)) = 0 → ((-2147483648 ≤ x2 + 1 ∧ x2 + 1 ≤ 2147483647)) ∧ X 65 23 [vR 6, vI 0, vI (x2 + 1), vI 0] [] h K) ∧ (h 25 (0 + ((((30 * (h 6 1)) + 0) + 9) - 4)) = 0 → ((-2147483648 ≤ x2 + 1 ∧ x2 + 1 ≤ 2147483647)) ∧ X 65 23 [vR 6, vI x2, vI (x2 + 1), vI 1] [] (ab_up (ab_up (ab_up (ab_up h 6 13 0) 6 14 (-1)) 6 15 (-1)) 6 16 (-1)) K))))) ∧ (x2 = 3 → C 64 [vR 6, vI x2] h (kI (fun v23 h23 => ((v23 = 0 → ((-2147483648 ≤ x2 + 1 ∧ x2 + 1 ≤ 2147483647)) ∧ X 65 23 [vR 6, vI 0, vI (x2 + 1), vI v23] [] h23 K) ∧ (¬ v23 = 0 → ((-2147483648 ≤ x2 + 1 ∧ x2 + 1 ≤ 2147483647)) ∧ X 65 23 [vR 6, vI x2, vI (x2 + 1), vI v23] [] h23 K))))))))))))) : X 65 23 [vR 6, vI x1, vI x2, w3] [] h K := by
  refine X_b 2 25 (L := L_65) rfl rfl rfl ?_
  show X 65 25 [vR 6, vI x1, vI x2, w3] [vI 9, vI x2] h _
  refine X_icmp (L := L_65) (n' := 72) rfl rfl rfl rfl (fun z1 => ?_) (fun z1 => ?_)
  · have z1 : 9 ≤ x2 := z1
    replace H := H.1 z1
    show X 65 72 [vR 6, vI x1, vI x2, w3] [] h _
    refine X_b 1 73 (L := L_65) rfl rfl rfl ?_
    show X 65 73 [vR 6, vI x1, vI x2, w3] [vI x1] h _
    refine X_iret (L := L_65) rfl rfl rfl rfl ?_
    exact H
  · have z1 : x2 < 9 := (Int.not_le.mp z1)
    replace H := H.2 z1
    show X 65 26 [vR 6, vI x1, vI x2, w3] [] h _
    refine X_b 1 27 (L := L_65) rfl rfl rfl ?_
    show X 65 27 [vR 6, vI x1, vI x2, w3] [vI x1] h _
    refine X_if (L := L_65) (n' := 72) rfl rfl rfl rfl (fun z2 => ?_) (fun z2 => ?_)
    · have z2 : ¬ x1 = 0 := z2
      replace H := H.1 z2
      show X 65 72 [vR 6, vI x1, vI x2, w3] [] h _
      refine X_b 1 73 (L := L_65) rfl rfl rfl ?_
      show X 65 73 [vR 6, vI x1, vI x2, w3] [vI x1] h _
      refine X_iret (L := L_65) rfl rfl rfl rfl ?_
      exact H
    · have z2 : x1 = 0 := (Classical.not_not.mp z2)
      replace H := H.2 z2
      show X 65 28 [vR 6, vI x1, vI x2, w3] [] h _
      refine X_b 2 30 (L := L_65) rfl rfl rfl ?_
      show X 65 30 [vR 6, vI x1, vI x2, w3] [vI 2, vI x2] h _
      refine X_icmp (L := L_65) (n' := 34) rfl rfl rfl rfl (fun z3 => ?_) (fun z3 => ?_)
      · have z3 : x2 = 2 := z3
        replace H := H.1 z3
        show X 65 34 [vR 6, vI x1, vI x2, w3] [] h _
        refine X_b 2 36 (L := L_65) rfl rfl rfl ?_
        show X 65 36 [vR 6, vI x1, vI x2, w3] [vI x2, vR 6] h _
        refine X_call 64 [vR 6, vI x2] [] rfl (sg_calv rfl rfl rfl rfl rfl rfl rfl rfl rfl rfl rfl) (by decide) ?_
        refine C_mono H (kI_to ?_)
        intro v4 h4 H
        show X 65 37 [vR 6, vI x1, vI x2, w3] [vI v4] h4 _
        refine X_goto (L := L_65) (n' := 63) rfl rfl rfl rfl ?_
        show X 65 63 [vR 6, vI x1, vI x2, w3] [vI v4] h4 _
        refine X_b 2 65 (L := L_65) rfl rfl rfl ?_
        show X 65 65 [vR 6, vI x1, vI x2, vI v4] [vI v4] h4 _
        refine X_if (L := L_65) (n' := 68) rfl rfl rfl rfl (fun z5 => ?_) (fun z5 => ?_)
        · have z5 : v4 = 0 := z5
          replace H := H.1 z5
          show X 65 68 [vR 6, vI x1, vI x2, vI v4] [] h4 _
          obtain ⟨c6, H⟩ := H
          refine X_b 3 71 (L := L_65) rfl rfl rfl ?_
          show (-2147483648 ≤ x2 + 1 ∧ x2 + 1 ≤ 2147483647) ∧ X 65 71 [vR 6, vI 0, vI (x2 + 1), vI v4] [] h4 _
          refine ⟨c6, ?_⟩
          refine X_goto (L := L_65) (n' := 23) rfl rfl rfl rfl ?_
          show X 65 23 [vR 6, vI 0, vI (x2 + 1), vI v4] [] h4 _
          exact H
        · have z5 : ¬ v4 = 0 := z5
          replace H := H.2 z5
          show X 65 66 [vR 6, vI x1, vI x2, vI v4] [] h4 _
          obtain ⟨c7, H⟩ := H
          refine X_b 1 67 (L := L_65) rfl rfl rfl ?_
          show X 65 67 [vR 6, vI x1, vI x2, vI v4] [vI x2] h4 _
          refine X_goto (L := L_65) (n' := 69) rfl rfl rfl rfl ?_
          show X 65 69 [vR 6, vI x1, vI x2, vI v4] [vI x2] h4 _
          refine X_b 2 71 (L := L_65) rfl rfl rfl ?_
          show (-2147483648 ≤ x2 + 1 ∧ x2 + 1 ≤ 2147483647) ∧ X 65 71 [vR 6, vI x2, vI (x2 + 1), vI v4] [] h4 _
          refine ⟨c7, ?_⟩
          refine X_goto (L := L_65) (n' := 23) rfl rfl rfl rfl ?_
          show X 65 23 [vR 6, vI x2, vI (x2 + 1), vI v4] [] h4 _
          exact H
      · have z3 : ¬ x2 = 2 := z3
        replace H := H.2 z3
        show X 65 31 [vR 6, vI x1, vI x2, w3] [] h _
        refine X_b 2 33 (L := L_65) rfl rfl rfl ?_
        show X 65 33 [vR 6, vI x1, vI x2, w3] [vI 3, vI x2] h _
        refine X_icmp (L := L_65) (n' := 38) rfl rfl rfl rfl (fun z8 => ?_) (fun z8 => ?_)
        · have z8 : ¬ x2 = 3 := z8
          replace H := H.1 z8
          show X 65 38 [vR 6, vI x1, vI x2, w3] [] h _
          refine X_b 2 40 (L := L_65) rfl rfl rfl ?_
          show X 65 40 [vR 6, vI x1, vI x2, w3] [vI 5, vI x2] h _
          refine X_icmp (L := L_65) (n' := 60) rfl rfl rfl rfl (fun z9 => ?_) (fun z9 => ?_)
          · have z9 : ¬ x2 = 5 := z9
            replace H := H.1 z9
            show X 65 60 [vR 6, vI x1, vI x2, w3] [] h _
            refine X_b 2 62 (L := L_65) rfl rfl rfl ?_
            show X 65 62 [vR 6, vI x1, vI x2, w3] [vI x2, vR 6] h _
            refine X_call 61 [vR 6, vI x2] [] rfl (sg_calv rfl rfl rfl rfl rfl rfl rfl rfl rfl rfl rfl) (by decide) ?_
            refine C_mono H (kI_to ?_)
            intro v10 h10 H
            show X 65 63 [vR 6, vI x1, vI x2, w3] [vI v10] h10 _
            refine X_b 2 65 (L := L_65) rfl rfl rfl ?_
            show X 65 65 [vR 6, vI x1, vI x2, vI v10] [vI v10] h10 _
            refine X_if (L := L_65) (n' := 68) rfl rfl rfl rfl (fun z11 => ?_) (fun z11 => ?_)
            · have z11 : v10 = 0 := z11
              replace H := H.1 z11
              show X 65 68 [vR 6, vI x1, vI x2, vI v10] [] h10 _
              obtain ⟨c12, H⟩ := H
              refine X_b 3 71 (L := L_65) rfl rfl rfl ?_
              show (-2147483648 ≤ x2 + 1 ∧ x2 + 1 ≤ 2147483647) ∧ X 65 71 [vR 6, vI 0, vI (x2 + 1), vI v10] [] h10 _
              refine ⟨c12, ?_⟩
              refine X_goto (L := L_65) (n' := 23) rfl rfl rfl rfl ?_
              show X 65 23 [vR 6, vI 0, vI (x2 + 1), vI v10] [] h10 _
              exact H
            · have z11 : ¬ v10 = 0 := z11
              replace H := H.2 z11
              show X 65 66 [vR 6, vI x1, vI x2, vI v10] [] h10 _
              obtain ⟨c13, H⟩ := H
              refine X_b 1 67 (L := L_65) rfl rfl rfl ?_
              show X 65 67 [vR 6, vI x1, vI x2, vI v10] [vI x2] h10 _
              refine X_goto (L := L_65) (n' := 69) rfl rfl rfl rfl ?_
              show X 65 69 [vR 6, vI x1, vI x2, vI v10] [vI x2] h10 _
              refine X_b 2 71 (L := L_65) rfl rfl rfl ?_
              show (-2147483648 ≤ x2 + 1 ∧ x2 + 1 ≤ 2147483647) ∧ X 65 71 [vR 6, vI x2, vI (x2 + 1), vI v10] [] h10 _
              refine ⟨c13, ?_⟩
              refine X_goto (L := L_65) (n' := 23) rfl rfl rfl rfl ?_
              show X 65 23 [vR 6, vI x2, vI (x2 + 1), vI v10] [] h10 _
              exact H
          · have z9 : x2 = 5 := (Classical.not_not.mp z9)
            replace H := H.2 z9
            show X 65 41 [vR 6, vI x1, vI x2, w3] [] h _
            obtain ⟨⟨c14, c15, c16, c17, c18, c19⟩, H⟩ := H
            refine X_b 6 47 (L := L_65) rfl rfl rfl ?_
            show X 65 47 [vR 6, vI x1, vI x2, w3] [vI 9, vI 0, vI (h 6 1), vI 0, vR 6] h _
            refine X_call 42 [vR 6, vI 0, vI (h 6 1), vI 0, vI 9] [] rfl (sg_calv rfl rfl rfl rfl rfl rfl rfl rfl rfl rfl rfl) (by decide) ?_
            show X 42 0 [vR 6, vI 0, vI (h 6 1), vI 0, vI 9] [] h _
            refine X_b 8 8 (L := L_42) rfl rfl rfl ?_
            show (-2147483648 ≤ (0 : Int) ∧ (0 : Int) ≤ 2147483647) ∧ X 42 8 [vR 6, vI 0, vI (h 6 1), vI 0, vI 9] [vI 9, vI 0, vI (h 6 1), vI 0, vR 25] h _
            refine ⟨by decide, ?_⟩
            refine X_call 41 [vI (h 6 1), vI 0, vI 9] [vI 0, vR 25] rfl (sg_cals rfl rfl rfl rfl rfl rfl rfl rfl rfl rfl) (by decide) ?_
            show X 41 0 [vI (h 6 1), vI 0, vI 9] [] h _
            refine X_b 11 11 (L := L_41) rfl rfl rfl ?_
            show (-2147483648 ≤ 30 * (h 6 1) ∧ 30 * (h 6 1) ≤ 2147483647) ∧ (-2147483648 ≤ (0 : Int) ∧ (0 : Int) ≤ 2147483647) ∧ (-2147483648 ≤ (30 * (h 6 1)) + 0 ∧ (30 * (h 6 1)) + 0 ≤ 2147483647) ∧ (-2147483648 ≤ ((30 * (h 6 1)) + 0) + 9 ∧ ((30 * (h 6 1)) + 0) + 9 ≤ 2147483647) ∧ (-2147483648 ≤ (((30 * (h 6 1)) + 0) + 9) - 4 ∧ (((30 * (h 6 1)) + 0) + 9) - 4 ≤ 2147483647) ∧ X 41 11 [vI (h 6 1), vI 0, vI 9] [vI ((((30 * (h 6 1)) + 0) + 9) - 4)] h _
            refine ⟨c14, by decide, c15, c16, c17, ?_⟩
            refine X_iret (L := L_41) rfl rfl rfl rfl ?_
            show X 42 9 [vR 6, vI 0, vI (h 6 1), vI 0, vI 9] [vI ((((30 * (h 6 1)) + 0) + 9) - 4), vI 0, vR 25] h _
            refine X_b 2 11 (L := L_42) rfl rfl rfl ?_
            show (-2147483648 ≤ 0 + ((((30 * (h 6 1)) + 0) + 9) - 4) ∧ 0 + ((((30 * (h 6 1)) + 0) + 9) - 4) ≤ 2147483647) ∧ (0 ≤ 0 + ((((30 * (h 6 1)) + 0) + 9) - 4) ∧ 0 + ((((30 * (h 6 1)) + 0) + 9) - 4) < 13500) ∧ X 42 11 [vR 6, vI 0, vI (h 6 1), vI 0, vI 9] [vI (h 25 (0 + ((((30 * (h 6 1)) + 0) + 9) - 4)))] h _
            refine ⟨by have := c18; omega, c18, ?_⟩
            refine X_zret (L := L_42) rfl rfl rfl rfl c19 ?_
            show X 65 48 [vR 6, vI x1, vI x2, w3] [vI (h 25 (0 + ((((30 * (h 6 1)) + 0) + 9) - 4)))] h _
            refine X_if (L := L_65) (n' := 58) rfl rfl rfl rfl (fun z20 => ?_) (fun z20 => ?_)
            · have z20 : ¬ h 25 (0 + ((((30 * (h 6 1)) + 0) + 9) - 4)) = 0 := z20
              replace H := H.1 z20
              show X 65 58 [vR 6, vI x1, vI x2, w3] [] h _
              obtain ⟨c21, H⟩ := H
              refine X_b 1 59 (L := L_65) rfl rfl rfl ?_
              show X 65 59 [vR 6, vI x1, vI x2, w3] [vI 0] h _
              refine X_goto (L := L_65) (n' := 63) rfl rfl rfl rfl ?_
              show X 65 63 [vR 6, vI x1, vI x2, w3] [vI 0] h _
              refine X_b 2 65 (L := L_65) rfl rfl rfl ?_
              show X 65 65 [vR 6, vI x1, vI x2, vI 0] [vI 0] h _
              refine X_if (L := L_65) (n' := 68) rfl rfl rfl rfl (fun _ => ?_) (fun z => absurd (show (0 : Int) = (0 : Int) by decide) z)
              show X 65 68 [vR 6, vI x1, vI x2, vI 0] [] h _
              refine X_b 3 71 (L := L_65) rfl rfl rfl ?_
              show (-2147483648 ≤ x2 + 1 ∧ x2 + 1 ≤ 2147483647) ∧ X 65 71 [vR 6, vI 0, vI (x2 + 1), vI 0] [] h _
              refine ⟨c21, ?_⟩
              refine X_goto (L := L_65) (n' := 23) rfl rfl rfl rfl ?_
              show X 65 23 [vR 6, vI 0, vI (x2 + 1), vI 0] [] h _
              exact H
            · have z20 : h 25 (0 + ((((30 * (h 6 1)) + 0) + 9) - 4)) = 0 := (Classical.not_not.mp z20)
              replace H := H.2 z20
              show X 65 49 [vR 6, vI x1, vI x2, w3] [] h _
              obtain ⟨c22, H⟩ := H
              refine X_b 5 54 (L := L_65) rfl rfl rfl ?_
              show X 65 54 [vR 6, vI x1, vI x2, w3] [vI (-1), vI (-1), vI (-1), vI 0, vR 6] h _
              refine X_call 31 [vR 6, vI 0, vI (-1), vI (-1), vI (-1)] [] rfl (sg_calv rfl rfl rfl rfl rfl rfl rfl rfl rfl rfl rfl) (by decide) ?_
              show X 31 0 [vR 6, vI 0, vI (-1), vI (-1), vI (-1)] [] h _
              refine X_b 13 13 (L := L_31) rfl rfl rfl ?_
              show X 31 13 [vR 6, vI 0, vI (-1), vI (-1), vI (-1)] [vI 1] (ab_up (ab_up (ab_up (ab_up h 6 13 0) 6 14 (-1)) 6 15 (-1)) 6 16 (-1)) _
              refine X_zret (L := L_31) rfl rfl rfl rfl (by decide) ?_
              show X 65 55 [vR 6, vI x1, vI x2, w3] [vI 1] (ab_up (ab_up (ab_up (ab_up h 6 13 0) 6 14 (-1)) 6 15 (-1)) 6 16 (-1)) _
              refine X_if (L := L_65) (n' := 58) rfl rfl rfl rfl (fun z => absurd z (show ¬ ((1 : Int) = (0 : Int)) by decide)) (fun _ => ?_)
              show X 65 56 [vR 6, vI x1, vI x2, w3] [] (ab_up (ab_up (ab_up (ab_up h 6 13 0) 6 14 (-1)) 6 15 (-1)) 6 16 (-1)) _
              refine X_b 1 57 (L := L_65) rfl rfl rfl ?_
              show X 65 57 [vR 6, vI x1, vI x2, w3] [vI 1] (ab_up (ab_up (ab_up (ab_up h 6 13 0) 6 14 (-1)) 6 15 (-1)) 6 16 (-1)) _
              refine X_goto (L := L_65) (n' := 63) rfl rfl rfl rfl ?_
              show X 65 63 [vR 6, vI x1, vI x2, w3] [vI 1] (ab_up (ab_up (ab_up (ab_up h 6 13 0) 6 14 (-1)) 6 15 (-1)) 6 16 (-1)) _
              refine X_b 2 65 (L := L_65) rfl rfl rfl ?_
              show X 65 65 [vR 6, vI x1, vI x2, vI 1] [vI 1] (ab_up (ab_up (ab_up (ab_up h 6 13 0) 6 14 (-1)) 6 15 (-1)) 6 16 (-1)) _
              refine X_if (L := L_65) (n' := 68) rfl rfl rfl rfl (fun z => absurd z (show ¬ ((1 : Int) = (0 : Int)) by decide)) (fun _ => ?_)
              show X 65 66 [vR 6, vI x1, vI x2, vI 1] [] (ab_up (ab_up (ab_up (ab_up h 6 13 0) 6 14 (-1)) 6 15 (-1)) 6 16 (-1)) _
              refine X_b 1 67 (L := L_65) rfl rfl rfl ?_
              show X 65 67 [vR 6, vI x1, vI x2, vI 1] [vI x2] (ab_up (ab_up (ab_up (ab_up h 6 13 0) 6 14 (-1)) 6 15 (-1)) 6 16 (-1)) _
              refine X_goto (L := L_65) (n' := 69) rfl rfl rfl rfl ?_
              show X 65 69 [vR 6, vI x1, vI x2, vI 1] [vI x2] (ab_up (ab_up (ab_up (ab_up h 6 13 0) 6 14 (-1)) 6 15 (-1)) 6 16 (-1)) _
              refine X_b 2 71 (L := L_65) rfl rfl rfl ?_
              show (-2147483648 ≤ x2 + 1 ∧ x2 + 1 ≤ 2147483647) ∧ X 65 71 [vR 6, vI x2, vI (x2 + 1), vI 1] [] (ab_up (ab_up (ab_up (ab_up h 6 13 0) 6 14 (-1)) 6 15 (-1)) 6 16 (-1)) _
              refine ⟨c22, ?_⟩
              refine X_goto (L := L_65) (n' := 23) rfl rfl rfl rfl ?_
              show X 65 23 [vR 6, vI x2, vI (x2 + 1), vI 1] [] (ab_up (ab_up (ab_up (ab_up h 6 13 0) 6 14 (-1)) 6 15 (-1)) 6 16 (-1)) _
              exact H
        · have z8 : x2 = 3 := (Classical.not_not.mp z8)
          replace H := H.2 z8
          show X 65 34 [vR 6, vI x1, vI x2, w3] [] h _
          refine X_b 2 36 (L := L_65) rfl rfl rfl ?_
          show X 65 36 [vR 6, vI x1, vI x2, w3] [vI x2, vR 6] h _
          refine X_call 64 [vR 6, vI x2] [] rfl (sg_calv rfl rfl rfl rfl rfl rfl rfl rfl rfl rfl rfl) (by decide) ?_
          refine C_mono H (kI_to ?_)
          intro v23 h23 H
          show X 65 37 [vR 6, vI x1, vI x2, w3] [vI v23] h23 _
          refine X_goto (L := L_65) (n' := 63) rfl rfl rfl rfl ?_
          show X 65 63 [vR 6, vI x1, vI x2, w3] [vI v23] h23 _
          refine X_b 2 65 (L := L_65) rfl rfl rfl ?_
          show X 65 65 [vR 6, vI x1, vI x2, vI v23] [vI v23] h23 _
          refine X_if (L := L_65) (n' := 68) rfl rfl rfl rfl (fun z24 => ?_) (fun z24 => ?_)
          · have z24 : v23 = 0 := z24
            replace H := H.1 z24
            show X 65 68 [vR 6, vI x1, vI x2, vI v23] [] h23 _
            obtain ⟨c25, H⟩ := H
            refine X_b 3 71 (L := L_65) rfl rfl rfl ?_
            show (-2147483648 ≤ x2 + 1 ∧ x2 + 1 ≤ 2147483647) ∧ X 65 71 [vR 6, vI 0, vI (x2 + 1), vI v23] [] h23 _
            refine ⟨c25, ?_⟩
            refine X_goto (L := L_65) (n' := 23) rfl rfl rfl rfl ?_
            show X 65 23 [vR 6, vI 0, vI (x2 + 1), vI v23] [] h23 _
            exact H
          · have z24 : ¬ v23 = 0 := z24
            replace H := H.2 z24
            show X 65 66 [vR 6, vI x1, vI x2, vI v23] [] h23 _
            obtain ⟨c26, H⟩ := H
            refine X_b 1 67 (L := L_65) rfl rfl rfl ?_
            show X 65 67 [vR 6, vI x1, vI x2, vI v23] [vI x2] h23 _
            refine X_goto (L := L_65) (n' := 69) rfl rfl rfl rfl ?_
            show X 65 69 [vR 6, vI x1, vI x2, vI v23] [vI x2] h23 _
            refine X_b 2 71 (L := L_65) rfl rfl rfl ?_
            show (-2147483648 ≤ x2 + 1 ∧ x2 + 1 ≤ 2147483647) ∧ X 65 71 [vR 6, vI x2, vI (x2 + 1), vI v23] [] h23 _
            refine ⟨c26, ?_⟩
            refine X_goto (L := L_65) (n' := 23) rfl rfl rfl rfl ?_
            show X 65 23 [vR 6, vI x2, vI (x2 + 1), vI v23] [] h23 _
            exact H

/-- PPModel.fault, row 0 -/
theorem s_66_0 (x1 : Int) (h : ab_S) (K : ab_O → ab_S → Prop) (H : ((¬ x1 = 0 → ((¬ x1 = 1 → ((¬ x1 = 2 → ((¬ x1 = 3 → K (oI (-1)) (ab_up h 6 0 0)) ∧ (x1 = 3 → K (oI (h 6 16)) (ab_up h 6 0 0)))) ∧ (x1 = 2 → K (oI (h 6 15)) (ab_up h 6 0 0)))) ∧ (x1 = 1 → K (oI (h 6 14)) (ab_up h 6 0 0)))) ∧ (x1 = 0 → K (oI (h 6 13)) (ab_up h 6 0 0)))) : C 66 [vR 6, vI x1] h K := by
  show X 66 0 [vR 6, vI x1] [] h K
  refine X_b 4 4 (L := L_66) rfl rfl rfl ?_
  show X 66 4 [vR 6, vI x1] [vI x1] (ab_up h 6 0 0) _
  refine X_if (L := L_66) (n' := 8) rfl rfl rfl rfl (fun z1 => ?_) (fun z1 => ?_)
  · have z1 : ¬ x1 = 0 := z1
    replace H := H.1 z1
    show X 66 8 [vR 6, vI x1] [] (ab_up h 6 0 0) _
    refine X_b 2 10 (L := L_66) rfl rfl rfl ?_
    show X 66 10 [vR 6, vI x1] [vI 1, vI x1] (ab_up h 6 0 0) _
    refine X_icmp (L := L_66) (n' := 14) rfl rfl rfl rfl (fun z2 => ?_) (fun z2 => ?_)
    · have z2 : ¬ x1 = 1 := z2
      replace H := H.1 z2
      show X 66 14 [vR 6, vI x1] [] (ab_up h 6 0 0) _
      refine X_b 2 16 (L := L_66) rfl rfl rfl ?_
      show X 66 16 [vR 6, vI x1] [vI 2, vI x1] (ab_up h 6 0 0) _
      refine X_icmp (L := L_66) (n' := 20) rfl rfl rfl rfl (fun z3 => ?_) (fun z3 => ?_)
      · have z3 : ¬ x1 = 2 := z3
        replace H := H.1 z3
        show X 66 20 [vR 6, vI x1] [] (ab_up h 6 0 0) _
        refine X_b 2 22 (L := L_66) rfl rfl rfl ?_
        show X 66 22 [vR 6, vI x1] [vI 3, vI x1] (ab_up h 6 0 0) _
        refine X_icmp (L := L_66) (n' := 26) rfl rfl rfl rfl (fun z4 => ?_) (fun z4 => ?_)
        · have z4 : ¬ x1 = 3 := z4
          replace H := H.1 z4
          show X 66 26 [vR 6, vI x1] [] (ab_up h 6 0 0) _
          refine X_b 1 27 (L := L_66) rfl rfl rfl ?_
          show X 66 27 [vR 6, vI x1] [vI (-1)] (ab_up h 6 0 0) _
          refine X_iret (L := L_66) rfl rfl rfl rfl ?_
          exact H
        · have z4 : x1 = 3 := (Classical.not_not.mp z4)
          replace H := H.2 z4
          show X 66 23 [vR 6, vI x1] [] (ab_up h 6 0 0) _
          refine X_b 2 25 (L := L_66) rfl rfl rfl ?_
          show X 66 25 [vR 6, vI x1] [vI (h 6 16)] (ab_up h 6 0 0) _
          refine X_goto (L := L_66) (n' := 27) rfl rfl rfl rfl ?_
          show X 66 27 [vR 6, vI x1] [vI (h 6 16)] (ab_up h 6 0 0) _
          refine X_iret (L := L_66) rfl rfl rfl rfl ?_
          exact H
      · have z3 : x1 = 2 := (Classical.not_not.mp z3)
        replace H := H.2 z3
        show X 66 17 [vR 6, vI x1] [] (ab_up h 6 0 0) _
        refine X_b 2 19 (L := L_66) rfl rfl rfl ?_
        show X 66 19 [vR 6, vI x1] [vI (h 6 15)] (ab_up h 6 0 0) _
        refine X_goto (L := L_66) (n' := 27) rfl rfl rfl rfl ?_
        show X 66 27 [vR 6, vI x1] [vI (h 6 15)] (ab_up h 6 0 0) _
        refine X_iret (L := L_66) rfl rfl rfl rfl ?_
        exact H
    · have z2 : x1 = 1 := (Classical.not_not.mp z2)
      replace H := H.2 z2
      show X 66 11 [vR 6, vI x1] [] (ab_up h 6 0 0) _
      refine X_b 2 13 (L := L_66) rfl rfl rfl ?_
      show X 66 13 [vR 6, vI x1] [vI (h 6 14)] (ab_up h 6 0 0) _
      refine X_goto (L := L_66) (n' := 27) rfl rfl rfl rfl ?_
      show X 66 27 [vR 6, vI x1] [vI (h 6 14)] (ab_up h 6 0 0) _
      refine X_iret (L := L_66) rfl rfl rfl rfl ?_
      exact H
  · have z1 : x1 = 0 := (Classical.not_not.mp z1)
    replace H := H.2 z1
    show X 66 5 [vR 6, vI x1] [] (ab_up h 6 0 0) _
    refine X_b 2 7 (L := L_66) rfl rfl rfl ?_
    show X 66 7 [vR 6, vI x1] [vI (h 6 13)] (ab_up h 6 0 0) _
    refine X_goto (L := L_66) (n' := 27) rfl rfl rfl rfl ?_
    show X 66 27 [vR 6, vI x1] [vI (h 6 13)] (ab_up h 6 0 0) _
    refine X_iret (L := L_66) rfl rfl rfl rfl ?_
    exact H

/-- PPModel.feed, row 0 -/
theorem s_67_0 (x1 : Int) (h : ab_S) (K : ab_O → ab_S → Prop) (H : ((x1 < 4 → K (oI (-1)) (ab_up h 6 0 0)) ∧ (4 ≤ x1 → ((9 ≤ x1 → K (oI (-1)) (ab_up h 6 0 0)) ∧ (x1 < 9 → ((¬ h 6 17 = 20 → ((0 ≤ h 6 17 ∧ h 6 17 < 20) ∧ (-2147483648 ≤ (h 6 17) + 1 ∧ (h 6 17) + 1 ≤ 2147483647)) ∧ K (oI ((h 6 17) + 1)) (ab_up (ab_up (ab_up (ab_up (ab_up h 6 0 0) 29 (h 6 17) x1) 6 17 ((h 6 17) + 1)) 6 19 0) 6 22 0)) ∧ (h 6 17 = 20 → K (oI (-1)) (ab_up h 6 0 0)))))))) : C 67 [vR 6, vI x1] h K := by
  show X 67 0 [vR 6, vI x1] [] h K
  refine X_b 5 5 (L := L_67) rfl rfl rfl ?_
  show X 67 5 [vR 6, vI x1] [vI 4, vI x1] (ab_up h 6 0 0) _
  refine X_icmp (L := L_67) (n' := 13) rfl rfl rfl rfl (fun z1 => ?_) (fun z1 => ?_)
  · have z1 : x1 < 4 := z1
    replace H := H.1 z1
    show X 67 13 [vR 6, vI x1] [] (ab_up h 6 0 0) _
    refine X_b 1 14 (L := L_67) rfl rfl rfl ?_
    show X 67 14 [vR 6, vI x1] [vI (-1)] (ab_up h 6 0 0) _
    refine X_iret (L := L_67) rfl rfl rfl rfl ?_
    exact H
  · have z1 : 4 ≤ x1 := (Int.not_lt.mp z1)
    replace H := H.2 z1
    show X 67 6 [vR 6, vI x1] [] (ab_up h 6 0 0) _
    refine X_b 2 8 (L := L_67) rfl rfl rfl ?_
    show X 67 8 [vR 6, vI x1] [vI 9, vI x1] (ab_up h 6 0 0) _
    refine X_icmp (L := L_67) (n' := 13) rfl rfl rfl rfl (fun z2 => ?_) (fun z2 => ?_)
    · have z2 : 9 ≤ x1 := z2
      replace H := H.1 z2
      show X 67 13 [vR 6, vI x1] [] (ab_up h 6 0 0) _
      refine X_b 1 14 (L := L_67) rfl rfl rfl ?_
      show X 67 14 [vR 6, vI x1] [vI (-1)] (ab_up h 6 0 0) _
      refine X_iret (L := L_67) rfl rfl rfl rfl ?_
      exact H
    · have z2 : x1 < 9 := (Int.not_le.mp z2)
      replace H := H.2 z2
      show X 67 9 [vR 6, vI x1] [] (ab_up h 6 0 0) _
      refine X_b 3 12 (L := L_67) rfl rfl rfl ?_
      show X 67 12 [vR 6, vI x1] [vI 20, vI (h 6 17)] (ab_up h 6 0 0) _
      refine X_icmp (L := L_67) (n' := 15) rfl rfl rfl rfl (fun z3 => ?_) (fun z3 => ?_)
      · have z3 : ¬ h 6 17 = 20 := z3
        replace H := H.1 z3
        show X 67 15 [vR 6, vI x1] [] (ab_up h 6 0 0) _
        obtain ⟨⟨c4, c5⟩, H⟩ := H
        refine X_b 13 28 (L := L_67) rfl rfl rfl ?_
        show (0 ≤ h 6 17 ∧ h 6 17 < 20) ∧ (-2147483648 ≤ (h 6 17) + 1 ∧ (h 6 17) + 1 ≤ 2147483647) ∧ X 67 28 [vR 6, vI x1] [vR 6] (ab_up (ab_up (ab_up h 6 0 0) 29 (h 6 17) x1) 6 17 ((h 6 17) + 1)) _
        refine ⟨c4, c5, ?_⟩
        refine X_call 30 [vR 6] [] rfl (sg_calv rfl rfl rfl rfl rfl rfl rfl rfl rfl rfl rfl) (by decide) ?_
        show X 30 0 [vR 6] [] (ab_up (ab_up (ab_up h 6 0 0) 29 (h 6 17) x1) 6 17 ((h 6 17) + 1)) _
        refine X_b 6 6 (L := L_30) rfl rfl rfl ?_
        show ((0 : Int) = 0 ∨ (0 : Int) = 1) ∧ X 30 6 [vR 6] [] (ab_up (ab_up (ab_up (ab_up (ab_up h 6 0 0) 29 (h 6 17) x1) 6 17 ((h 6 17) + 1)) 6 19 0) 6 22 0) _
        refine ⟨by decide, ?_⟩
        refine X_ret (L := L_30) rfl rfl rfl rfl ?_
        show X 67 29 [vR 6, vI x1] [] (ab_up (ab_up (ab_up (ab_up (ab_up h 6 0 0) 29 (h 6 17) x1) 6 17 ((h 6 17) + 1)) 6 19 0) 6 22 0) _
        refine X_b 2 31 (L := L_67) rfl rfl rfl ?_
        show X 67 31 [vR 6, vI x1] [vI ((h 6 17) + 1)] (ab_up (ab_up (ab_up (ab_up (ab_up h 6 0 0) 29 (h 6 17) x1) 6 17 ((h 6 17) + 1)) 6 19 0) 6 22 0) _
        refine X_iret (L := L_67) rfl rfl rfl rfl ?_
        exact H
      · have z3 : h 6 17 = 20 := (Classical.not_not.mp z3)
        replace H := H.2 z3
        show X 67 13 [vR 6, vI x1] [] (ab_up h 6 0 0) _
        refine X_b 1 14 (L := L_67) rfl rfl rfl ?_
        show X 67 14 [vR 6, vI x1] [vI (-1)] (ab_up h 6 0 0) _
        refine X_iret (L := L_67) rfl rfl rfl rfl ?_
        exact H

/-- PPModel.empty, row 0 -/
theorem s_68_0 (h : ab_S) (K : ab_O → ab_S → Prop) (H : K oV (ab_up (ab_up (ab_up (ab_up h 6 0 0) 6 17 0) 6 19 0) 6 22 0)) : C 68 [vR 6] h K := by
  show X 68 0 [vR 6] [] h K
  refine X_b 7 7 (L := L_68) rfl rfl rfl ?_
  show X 68 7 [vR 6] [vR 6] (ab_up (ab_up h 6 0 0) 6 17 0) _
  refine X_call 30 [vR 6] [] rfl (sg_calv rfl rfl rfl rfl rfl rfl rfl rfl rfl rfl rfl) (by decide) ?_
  show X 30 0 [vR 6] [] (ab_up (ab_up h 6 0 0) 6 17 0) _
  refine X_b 6 6 (L := L_30) rfl rfl rfl ?_
  show ((0 : Int) = 0 ∨ (0 : Int) = 1) ∧ X 30 6 [vR 6] [] (ab_up (ab_up (ab_up (ab_up h 6 0 0) 6 17 0) 6 19 0) 6 22 0) _
  refine ⟨by decide, ?_⟩
  refine X_ret (L := L_30) rfl rfl rfl rfl ?_
  show X 68 8 [vR 6] [] (ab_up (ab_up (ab_up (ab_up h 6 0 0) 6 17 0) 6 19 0) 6 22 0) _
  refine X_ret (L := L_68) rfl rfl rfl rfl ?_
  exact H

/-- PPModel.create, row 0 -/
theorem s_69_0 (x1 x2 x3 x4 : Int) (h : ab_S) (K : ab_O → ab_S → Prop) (H : ((0 ≤ h 6 22 ∧ h 6 22 < 60) ∧ (-2147483648 ≤ (h 6 22) + 1 ∧ (h 6 22) + 1 ≤ 2147483647)) ∧ K oV (ab_up (ab_up (ab_up (ab_up (ab_up (ab_up h 32 (h 6 22) x1) 33 (h 6 22) x2) 34 (h 6 22) (-1)) 35 (h 6 22) x3) 36 (h 6 22) x4) 6 22 ((h 6 22) + 1))) : C 69 [vR 6, vI x1, vI x2, vI x3, vI x4] h K := by
  show X 69 0 [vR 6, vI x1, vI x2, vI x3, vI x4] [] h K
  obtain ⟨⟨c1, c2⟩, H⟩ := H
  refine X_b 36 36 (L := L_69) rfl rfl rfl ?_
  show (0 ≤ h 6 22 ∧ h 6 22 < 60) ∧ (0 ≤ h 6 22 ∧ h 6 22 < 60) ∧ (0 ≤ h 6 22 ∧ h 6 22 < 60) ∧ (0 ≤ h 6 22 ∧ h 6 22 < 60) ∧ (0 ≤ h 6 22 ∧ h 6 22 < 60) ∧ (-2147483648 ≤ (h 6 22) + 1 ∧ (h 6 22) + 1 ≤ 2147483647) ∧ X 69 36 [vR 6, vI x1, vI x2, vI x3, vI x4] [] (ab_up (ab_up (ab_up (ab_up (ab_up (ab_up h 32 (h 6 22) x1) 33 (h 6 22) x2) 34 (h 6 22) (-1)) 35 (h 6 22) x3) 36 (h 6 22) x4) 6 22 ((h 6 22) + 1)) _
  refine ⟨c1, c1, c1, c1, c1, c2, ?_⟩
  refine X_ret (L := L_69) rfl rfl rfl rfl ?_
  exact H

/-- PPModel.push, row 0 -/
theorem s_70_0 (x1 : Int) (h : ab_S) (K : ab_O → ab_S → Prop) (H : ((0 ≤ (h 6 21) + 1 ∧ (h 6 21) + 1 < 61) ∧ (-2147483648 ≤ (h 6 22) - 1 ∧ (h 6 22) - 1 ≤ 2147483647)) ∧ K oV (ab_up (ab_up (ab_up h 6 21 ((h 6 21) + 1)) 30 ((h 6 21) + 1) x1) 31 ((h 6 21) + 1) ((h 6 22) - 1))) : C 70 [vR 6, vI x1] h K := by
  show X 70 0 [vR 6, vI x1] [] h K
  obtain ⟨⟨c1, c2⟩, H⟩ := H
  refine X_b 21 21 (L := L_70) rfl rfl rfl ?_
  show (-2147483648 ≤ (h 6 21) + 1 ∧ (h 6 21) + 1 ≤ 2147483647) ∧ (0 ≤ (h 6 21) + 1 ∧ (h 6 21) + 1 < 61) ∧ (-2147483648 ≤ (h 6 22) - 1 ∧ (h 6 22) - 1 ≤ 2147483647) ∧ (0 ≤ (h 6 21) + 1 ∧ (h 6 21) + 1 < 61) ∧ X 70 21 [vR 6, vI x1] [] (ab_up (ab_up (ab_up h 6 21 ((h 6 21) + 1)) 30 ((h 6 21) + 1) x1) 31 ((h 6 21) + 1) ((h 6 22) - 1)) _
  refine ⟨by have := c1; omega, c1, c2, c1, ?_⟩
  refine X_ret (L := L_70) rfl rfl rfl rfl ?_
  exact H

/-- PPModel.shift, row 0 -/
theorem s_71_0 (x1 : Int) (h : ab_S) (K : ab_O → ab_S → Prop) (H : ((¬ h 6 20 = h 6 17 → ((¬ h 6 22 = 60 → ((0 ≤ h 6 20 ∧ h 6 20 < 20) ∧ (0 ≤ h 6 22 ∧ h 6 22 < 60) ∧ (-2147483648 ≤ (h 6 22) + 1 ∧ (h 6 22) + 1 ≤ 2147483647) ∧ (0 ≤ (h 6 21) + 1 ∧ (h 6 21) + 1 < 61) ∧ (-2147483648 ≤ ((h 6 22) + 1) - 1 ∧ ((h 6 22) + 1) - 1 ≤ 2147483647) ∧ (-2147483648 ≤ (h 6 20) + 1 ∧ (h 6 20) + 1 ≤ 2147483647)) ∧ K (oI 0) (ab_up (ab_up (ab_up (ab_up (ab_up (ab_up (ab_up (ab_up (ab_up (ab_up h 32 (h 6 22) (h 29 (h 6 20))) 33 (h 6 22) (-1)) 34 (h 6 22) (-1)) 35 (h 6 22) (h 6 20)) 36 (h 6 22) 1) 6 22 ((h 6 22) + 1)) 6 21 ((h 6 21) + 1)) 30 ((h 6 21) + 1) x1) 31 ((h 6 21) + 1) (((h 6 22) + 1) - 1)) 6 20 ((h 6 20) + 1))) ∧ (h 6 22 = 60 → K (oI 4) h))) ∧ (h 6 20 = h 6 17 → K (oI 3) h))) : C 71 [vR 6, vI x1] h K := by
  show X 71 0 [vR 6, vI x1] [] h K
  refine X_b 4 4 (L := L_71) rfl rfl rfl ?_
  show X 71 4 [vR 6, vI x1] [vI (h 6 17), vI (h 6 20)] h _
  refine X_icmp (L := L_71) (n' := 7) rfl rfl rfl rfl (fun z1 => ?_) (fun z1 => ?_)
  · have z1 : ¬ h 6 20 = h 6 17 := z1
    replace H := H.1 z1
    show X 71 7 [vR 6, vI x1] [] h _
    refine X_b 3 10 (L := L_71) rfl rfl rfl ?_
    show X 71 10 [vR 6, vI x1] [vI 60, vI (h 6 22)] h _
    refine X_icmp (L := L_71) (n' := 13) rfl rfl rfl rfl (fun z2 => ?_) (fun z2 => ?_)
    · have z2 : ¬ h 6 22 = 60 := z2
      replace H := H.1 z2
      show X 71 13 [vR 6, vI x1] [] h _
      obtain ⟨⟨c3, c4, c5, c6, c7, c8⟩, H⟩ := H
      refine X_b 10 23 (L := L_71) rfl rfl rfl ?_
      show (0 ≤ h 6 20 ∧ h 6 20 < 20) ∧ X 71 23 [vR 6, vI x1] [vI 1, vI (h 6 20), vI (-1), vI (h 29 (h 6 20)), vR 6] h _
      refine ⟨c3, ?_⟩
      refine X_call 69 [vR 6, vI (h 29 (h 6 20)), vI (-1), vI (h 6 20), vI 1] [] rfl (sg_calv rfl rfl rfl rfl rfl rfl rfl rfl rfl rfl rfl) (by decide) ?_
      show X 69 0 [vR 6, vI (h 29 (h 6 20)), vI (-1), vI (h 6 20), vI 1] [] h _
      refine X_b 36 36 (L := L_69) rfl rfl rfl ?_
      show (0 ≤ h 6 22 ∧ h 6 22 < 60) ∧ (0 ≤ h 6 22 ∧ h 6 22 < 60) ∧ (0 ≤ h 6 22 ∧ h 6 22 < 60) ∧ (0 ≤ h 6 22 ∧ h 6 22 < 60) ∧ (0 ≤ h 6 22 ∧ h 6 22 < 60) ∧ (-2147483648 ≤ (h 6 22) + 1 ∧ (h 6 22) + 1 ≤ 2147483647) ∧ X 69 36 [vR 6, vI (h 29 (h 6 20)), vI (-1), vI (h 6 20), vI 1] [] (ab_up (ab_up (ab_up (ab_up (ab_up (ab_up h 32 (h 6 22) (h 29 (h 6 20))) 33 (h 6 22) (-1)) 34 (h 6 22) (-1)) 35 (h 6 22) (h 6 20)) 36 (h 6 22) 1) 6 22 ((h 6 22) + 1)) _
      refine ⟨c4, c4, c4, c4, c4, c5, ?_⟩
      refine X_ret (L := L_69) rfl rfl rfl rfl ?_
      show X 71 24 [vR 6, vI x1] [] (ab_up (ab_up (ab_up (ab_up (ab_up (ab_up h 32 (h 6 22) (h 29 (h 6 20))) 33 (h 6 22) (-1)) 34 (h 6 22) (-1)) 35 (h 6 22) (h 6 20)) 36 (h 6 22) 1) 6 22 ((h 6 22) + 1)) _
      refine X_b 2 26 (L := L_71) rfl rfl rfl ?_
      show X 71 26 [vR 6, vI x1] [vI x1, vR 6] (ab_up (ab_up (ab_up (ab_up (ab_up (ab_up h 32 (h 6 22) (h 29 (h 6 20))) 33 (h 6 22) (-1)) 34 (h 6 22) (-1)) 35 (h 6 22) (h 6 20)) 36 (h 6 22) 1) 6 22 ((h 6 22) + 1)) _
      refine X_call 70 [vR 6, vI x1] [] rfl (sg_calv rfl rfl rfl rfl rfl rfl rfl rfl rfl rfl rfl) (by decide) ?_
      show X 70 0 [vR 6, vI x1] [] (ab_up (ab_up (ab_up (ab_up (ab_up (ab_up h 32 (h 6 22) (h 29 (h 6 20))) 33 (h 6 22) (-1)) 34 (h 6 22) (-1)) 35 (h 6 22) (h 6 20)) 36 (h 6 22) 1) 6 22 ((h 6 22) + 1)) _
      refine X_b 21 21 (L := L_70) rfl rfl rfl ?_
      show (-2147483648 ≤ (h 6 21) + 1 ∧ (h 6 21) + 1 ≤ 2147483647) ∧ (0 ≤ (h 6 21) + 1 ∧ (h 6 21) + 1 < 61) ∧ (-2147483648 ≤ ((h 6 22) + 1) - 1 ∧ ((h 6 22) + 1) - 1 ≤ 2147483647) ∧ (0 ≤ (h 6 21) + 1 ∧ (h 6 21) + 1 < 61) ∧ X 70 21 [vR 6, vI x1] [] (ab_up (ab_up (ab_up (ab_up (ab_up (ab_up (ab_up (ab_up (ab_up h 32 (h 6 22) (h 29 (h 6 20))) 33 (h 6 22) (-1)) 34 (h 6 22) (-1)) 35 (h 6 22) (h 6 20)) 36 (h 6 22) 1) 6 22 ((h 6 22) + 1)) 6 21 ((h 6 21) + 1)) 30 ((h 6 21) + 1) x1) 31 ((h 6 21) + 1) (((h 6 22) + 1) - 1)) _
      refine ⟨by have := c6; omega, c6, c7, c6, ?_⟩
      refine X_ret (L := L_70) rfl rfl rfl rfl ?_
      show X 71 27 [vR 6, vI x1] [] (ab_up (ab_up (ab_up (ab_up (ab_up (ab_up (ab_up (ab_up (ab_up h 32 (h 6 22) (h 29 (h 6 20))) 33 (h 6 22) (-1)) 34 (h 6 22) (-1)) 35 (h 6 22) (h 6 20)) 36 (h 6 22) 1) 6 22 ((h 6 22) + 1)) 6 21 ((h 6 21) + 1)) 30 ((h 6 21) + 1) x1) 31 ((h 6 21) + 1) (((h 6 22) + 1) - 1)) _
      refine X_b 7 34 (L := L_71) rfl rfl rfl ?_
      show (-2147483648 ≤ (h 6 20) + 1 ∧ (h 6 20) + 1 ≤ 2147483647) ∧ X 71 34 [vR 6, vI x1] [vI 0] (ab_up (ab_up (ab_up (ab_up (ab_up (ab_up (ab_up (ab_up (ab_up (ab_up h 32 (h 6 22) (h 29 (h 6 20))) 33 (h 6 22) (-1)) 34 (h 6 22) (-1)) 35 (h 6 22) (h 6 20)) 36 (h 6 22) 1) 6 22 ((h 6 22) + 1)) 6 21 ((h 6 21) + 1)) 30 ((h 6 21) + 1) x1) 31 ((h 6 21) + 1) (((h 6 22) + 1) - 1)) 6 20 ((h 6 20) + 1)) _
      refine ⟨c8, ?_⟩
      refine X_iret (L := L_71) rfl rfl rfl rfl ?_
      exact H
    · have z2 : h 6 22 = 60 := (Classical.not_not.mp z2)
      replace H := H.2 z2
      show X 71 11 [vR 6, vI x1] [] h _
      refine X_b 1 12 (L := L_71) rfl rfl rfl ?_
      show X 71 12 [vR 6, vI x1] [vI 4] h _
      refine X_iret (L := L_71) rfl rfl rfl rfl ?_
      exact H
  · have z1 : h 6 20 = h 6 17 := (Classical.not_not.mp z1)
    replace H := H.2 z1
    show X 71 5 [vR 6, vI x1] [] h _
    refine X_b 1 6 (L := L_71) rfl rfl rfl ?_
    show X 71 6 [vR 6, vI x1] [vI 3] h _
    refine X_iret (L := L_71) rfl rfl rfl rfl ?_
    exact H

set_option maxRecDepth 8192 in
/-- PPModel.reduceBy, row 0 -/
theorem s_72_0 (x1 : Int) (h : ab_S) (K : ab_O → ab_S → Prop) (H : ((x1 = h 6 1 → K (oI 3) h) ∧ (¬ x1 = h 6 1 → ((0 ≤ x1 ∧ x1 < 8)) ∧ ((h 21 x1 ≤ h 6 21 → ((-2147483648 ≤ (h 6 21) - (h 21 x1) ∧ (h 6 21) - (h 21 x1) ≤ 2147483647)) ∧ X 72 27 [vR 6, vI x1, vI ((h 6 21) - (h 21 x1)), vI 0, vI 1, vI 0, vJ 0] [] h K) ∧ (h 6 21 < h 21 x1 → K (oI 3) h))))) : C 72 [vR 6, vI x1] h K := by
  show X 72 0 [vR 6, vI x1, vJ 0, vJ 0, vJ 0, vJ 0, vJ 0] [] h K
  refine X_b 3 3 (L := L_72) rfl rfl rfl ?_
  show X 72 3 [vR 6, vI x1, vJ 0, vJ 0, vJ 0, vJ 0, vJ 0] [vI (h 6 1), vI x1] h _
  refine X_icmp (L := L_72) (n' := 11) rfl rfl rfl rfl (fun z1 => ?_) (fun z1 => ?_)
  · have z1 : x1 = h 6 1 := z1
    replace H := H.1 z1
    show X 72 11 [vR 6, vI x1, vJ 0, vJ 0, vJ 0, vJ 0, vJ 0] [] h _
    refine X_b 1 12 (L := L_72) rfl rfl rfl ?_
    show X 72 12 [vR 6, vI x1, vJ 0, vJ 0, vJ 0, vJ 0, vJ 0] [vI 3] h _
    refine X_iret (L := L_72) rfl rfl rfl rfl ?_
    exact H
  · have z1 : ¬ x1 = h 6 1 := z1
    replace H := H.2 z1
    show X 72 4 [vR 6, vI x1, vJ 0, vJ 0, vJ 0, vJ 0, vJ 0] [] h _
    obtain ⟨c2, H⟩ := H
    refine X_b 6 10 (L := L_72) rfl rfl rfl ?_
    show (0 ≤ x1 ∧ x1 < 8) ∧ X 72 10 [vR 6, vI x1, vJ 0, vJ 0, vJ 0, vJ 0, vJ 0] [vI (h 21 x1), vI (h 6 21)] h _
    refine ⟨c2, ?_⟩
    refine X_icmp (L := L_72) (n' := 13) rfl rfl rfl rfl (fun z3 => ?_) (fun z3 => ?_)
    · have z3 : h 21 x1 ≤ h 6 21 := z3
      replace H := H.1 z3
      show X 72 13 [vR 6, vI x1, vJ 0, vJ 0, vJ 0, vJ 0, vJ 0] [] h _
      obtain ⟨c4, H⟩ := H
      refine X_b 14 27 (L := L_72) rfl rfl rfl ?_
      show (0 ≤ x1 ∧ x1 < 8) ∧ (-2147483648 ≤ (h 6 21) - (h 21 x1) ∧ (h 6 21) - (h 21 x1) ≤ 2147483647) ∧ X 72 27 [vR 6, vI x1, vI ((h 6 21) - (h 21 x1)), vI 0, vI 1, vI 0, vJ 0] [] h _
      refine ⟨c2, c4, ?_⟩
      exact H
    · have z3 : h 6 21 < h 21 x1 := (Int.not_le.mp z3)
      replace H := H.2 z3
      show X 72 11 [vR 6, vI x1, vJ 0, vJ 0, vJ 0, vJ 0, vJ 0] [] h _
      refine X_b 1 12 (L := L_72) rfl rfl rfl ?_
      show X 72 12 [vR 6, vI x1, vJ 0, vJ 0, vJ 0, vJ 0, vJ 0] [vI 3] h _
      refine X_iret (L := L_72) rfl rfl rfl rfl ?_
      exact H

set_option maxRecDepth 8192 in
/-- PPModel.reduceBy, row 27 -/
theorem s_72_27 (x1 x2 x3 x4 x5 : Int) (w6 : ab_V) (h : ab_S) (K : ab_O → ab_S → Prop) (H : ((0 ≤ x1 ∧ x1 < 8)) ∧ ((h 21 x1 ≤ x5 → ((¬ x4 = 0 → ((¬ h 6 22 = 60 → ((-2147483648 ≤ x2 + 1 ∧ x2 + 1 ≤ 2147483647)) ∧ X 72 84 [vR 6, vI x1, vI x2, vI x3, vI x4, vI (x2 + 1), w6] [] h K) ∧ (h 6 22 = 60 → K (oI 4) h))) ∧ (x4 = 0 → K (oI 3) h))) ∧ (x5 < h 21 x1 → ((-2147483648 ≤ x2 + 1 ∧ x2 + 1 ≤ 2147483647) ∧ (0 ≤ (x2 + 1) + x5 ∧ (x2 + 1) + x5 < 61)) ∧ ((x4 = 0 → ((0 ≤ h 31 ((x2 + 1) + x5) ∧ h 31 ((x2 + 1) + x5) < 60) ∧ (-2147483648 ≤ x3 + (h 36 (h 31 ((x2 + 1) + x5))) ∧ x3 + (h 36 (h 31 ((x2 + 1) + x5))) ≤ 2147483647) ∧ (-2147483648 ≤ x5 + 1 ∧ x5 + 1 ≤ 2147483647)) ∧ X 72 27 [vR 6, vI x1, vI x2, vI (x3 + (h 36 (h 31 ((x2 + 1) + x5)))), vI 0, vI (x5 + 1), vI (h 31 ((x2 + 1) + x5))] [] h K) ∧ (¬ x4 = 0 → ((0 ≤ h 31 ((x2 + 1) + x5) ∧ h 31 ((x2 + 1) + x5) < 60) ∧ (-2147483648 ≤ 4 * x1 ∧ 4 * x1 ≤ 2147483647) ∧ (0 ≤ (4 * x1) + x5 ∧ (4 * x1) + x5 < 32)) ∧ ((¬ h 32 (h 31 ((x2 + 1) + x5)) = h 22 ((4 * x1) + x5) → ((-2147483648 ≤ x3 + (h 36 (h 31 ((x2 + 1) + x5))) ∧ x3 + (h 36 (h 31 ((x2 + 1) + x5))) ≤ 2147483647) ∧ (-2147483648 ≤ x5 + 1 ∧ x5 + 1 ≤ 2147483647)) ∧ X 72 27 [vR 6, vI x1, vI x2, vI (x3 + (h 36 (h 31 ((x2 + 1) + x5)))), vI 0, vI (x5 + 1), vI (h 31 ((x2 + 1) + x5))] [] h K) ∧ (h 32 (h 31 ((x2 + 1) + x5)) = h 22 ((4 * x1) + x5) → ((-2147483648 ≤ x3 + (h 36 (h 31 ((x2 + 1) + x5))) ∧ x3 + (h 36 (h 31 ((x2 + 1) + x5))) ≤ 2147483647) ∧ (-2147483648 ≤ x5 + 1 ∧ x5 + 1 ≤ 2147483647)) ∧ X 72 27 [vR 6, vI x1, vI x2, vI (x3 + (h 36 (h 31 ((x2 + 1) + x5)))), vI 1, vI (x5 + 1), vI (h 31 ((x2 + 1) + x5))] [] h K))))))) : X 72 27 [vR 6, vI x1, vI x2, vI x3, vI x4, vI x5, w6] [] h K := by
  obtain ⟨c1, H⟩ := H
  refine X_b 5 32 (L := L_72) rfl rfl rfl ?_
  show (0 ≤ x1 ∧ x1 < 8) ∧ X 72 32 [vR 6, vI x1, vI x2, vI x3, vI x4, vI x5, w6] [vI (h 21 x1), vI x5] h _
  refine ⟨c1, ?_⟩
  refine X_icmp (L := L_72) (n' := 70) rfl rfl rfl rfl (fun z2 => ?_) (fun z2 => ?_)
  · have z2 : h 21 x1 ≤ x5 := z2
    replace H := H.1 z2
    show X 72 70 [vR 6, vI x1, vI x2, vI x3, vI x4, vI x5, w6] [] h _
    refine X_b 1 71 (L := L_72) rfl rfl rfl ?_
    show X 72 71 [vR 6, vI x1, vI x2, vI x3, vI x4, vI x5, w6] [vI x4] h _
    refine X_if (L := L_72) (n' := 74) rfl rfl rfl rfl (fun z3 => ?_) (fun z3 => ?_)
    · have z3 : ¬ x4 = 0 := z3
      replace H := H.1 z3
      show X 72 74 [vR 6, vI x1, vI x2, vI x3, vI x4, vI x5, w6] [] h _
      refine X_b 3 77 (L := L_72) rfl rfl rfl ?_
      show X 72 77 [vR 6, vI x1, vI x2, vI x3, vI x4, vI x5, w6] [vI 60, vI (h 6 22)] h _
      refine X_icmp (L := L_72) (n' := 80) rfl rfl rfl rfl (fun z4 => ?_) (fun z4 => ?_)
      · have z4 : ¬ h 6 22 = 60 := z4
        replace H := H.1 z4
        show X 72 80 [vR 6, vI x1, vI x2, vI x3, vI x4, vI x5, w6] [] h _
        obtain ⟨c5, H⟩ := H
        refine X_b 4 84 (L := L_72) rfl rfl rfl ?_
        show (-2147483648 ≤ x2 + 1 ∧ x2 + 1 ≤ 2147483647) ∧ X 72 84 [vR 6, vI x1, vI x2, vI x3, vI x4, vI (x2 + 1), w6] [] h _
        refine ⟨c5, ?_⟩
        exact H
      · have z4 : h 6 22 = 60 := (Classical.not_not.mp z4)
        replace H := H.2 z4
        show X 72 78 [vR 6, vI x1, vI x2, vI x3, vI x4, vI x5, w6] [] h _
        refine X_b 1 79 (L := L_72) rfl rfl rfl ?_
        show X 72 79 [vR 6, vI x1, vI x2, vI x3, vI x4, vI x5, w6] [vI 4] h _
        refine X_iret (L := L_72) rfl rfl rfl rfl ?_
        exact H
    · have z3 : x4 = 0 := (Classical.not_not.mp z3)
      replace H := H.2 z3
      show X 72 72 [vR 6, vI x1, vI x2, vI x3, vI x4, vI x5, w6] [] h _
      refine X_b 1 73 (L := L_72) rfl rfl rfl ?_
      show X 72 73 [vR 6, vI x1, vI x2, vI x3, vI x4, vI x5, w6] [vI 3] h _
      refine X_iret (L := L_72) rfl rfl rfl rfl ?_
      exact H
  · have z2 : x5 < h 21 x1 := (Int.not_le.mp z2)
    replace H := H.2 z2
    show X 72 33 [vR 6, vI x1, vI x2, vI x3, vI x4, vI x5, w6] [] h _
    obtain ⟨⟨c6, c7⟩, H⟩ := H
    refine X_b 10 43 (L := L_72) rfl rfl rfl ?_
    show (-2147483648 ≤ x2 + 1 ∧ x2 + 1 ≤ 2147483647) ∧ (-2147483648 ≤ (x2 + 1) + x5 ∧ (x2 + 1) + x5 ≤ 2147483647) ∧ (0 ≤ (x2 + 1) + x5 ∧ (x2 + 1) + x5 < 61) ∧ X 72 43 [vR 6, vI x1, vI x2, vI x3, vI x4, vI x5, vI (h 31 ((x2 + 1) + x5))] [vI x4] h _
    refine ⟨c6, by have := c7; omega, c7, ?_⟩
    refine X_if (L := L_72) (n' := 59) rfl rfl rfl rfl (fun z8 => ?_) (fun z8 => ?_)
    · have z8 : x4 = 0 := z8
      replace H := H.1 z8
      show X 72 59 [vR 6, vI x1, vI x2, vI x3, vI x4, vI x5, vI (h 31 ((x2 + 1) + x5))] [] h _
      obtain ⟨⟨c9, c10, c11⟩, H⟩ := H
      refine X_b 10 69 (L := L_72) rfl rfl rfl ?_
      show (0 ≤ h 31 ((x2 + 1) + x5) ∧ h 31 ((x2 + 1) + x5) < 60) ∧ (-2147483648 ≤ x3 + (h 36 (h 31 ((x2 + 1) + x5))) ∧ x3 + (h 36 (h 31 ((x2 + 1) + x5))) ≤ 2147483647) ∧ (-2147483648 ≤ x5 + 1 ∧ x5 + 1 ≤ 2147483647) ∧ X 72 69 [vR 6, vI x1, vI x2, vI (x3 + (h 36 (h 31 ((x2 + 1) + x5)))), vI 0, vI (x5 + 1), vI (h 31 ((x2 + 1) + x5))] [] h _
      refine ⟨c9, c10, c11, ?_⟩
      refine X_goto (L := L_72) (n' := 27) rfl rfl rfl rfl ?_
      show X 72 27 [vR 6, vI x1, vI x2, vI (x3 + (h 36 (h 31 ((x2 + 1) + x5)))), vI 0, vI (x5 + 1), vI (h 31 ((x2 + 1) + x5))] [] h _
      exact H
    · have z8 : ¬ x4 = 0 := z8
      replace H := H.2 z8
      show X 72 44 [vR 6, vI x1, vI x2, vI x3, vI x4, vI x5, vI (h 31 ((x2 + 1) + x5))] [] h _
      obtain ⟨⟨c12, c13, c14⟩, H⟩ := H
      refine X_b 12 56 (L := L_72) rfl rfl rfl ?_
      show (0 ≤ h 31 ((x2 + 1) + x5) ∧ h 31 ((x2 + 1) + x5) < 60) ∧ (-2147483648 ≤ 4 * x1 ∧ 4 * x1 ≤ 2147483647) ∧ (-2147483648 ≤ (4 * x1) + x5 ∧ (4 * x1) + x5 ≤ 2147483647) ∧ (0 ≤ (4 * x1) + x5 ∧ (4 * x1) + x5 < 32) ∧ X 72 56 [vR 6, vI x1, vI x2, vI x3, vI x4, vI x5, vI (h 31 ((x2 + 1) + x5))] [vI (h 22 ((4 * x1) + x5)), vI (h 32 (h 31 ((x2 + 1) + x5)))] h _
      refine ⟨c12, c13, by have := c14; omega, c14, ?_⟩
      refine X_icmp (L := L_72) (n' := 59) rfl rfl rfl rfl (fun z15 => ?_) (fun z15 => ?_)
      · have z15 : ¬ h 32 (h 31 ((x2 + 1) + x5)) = h 22 ((4 * x1) + x5) := z15
        replace H := H.1 z15
        show X 72 59 [vR 6, vI x1, vI x2, vI x3, vI x4, vI x5, vI (h 31 ((x2 + 1) + x5))] [] h _
        obtain ⟨⟨c16, c17⟩, H⟩ := H
        refine X_b 10 69 (L := L_72) rfl rfl rfl ?_
        show (0 ≤ h 31 ((x2 + 1) + x5) ∧ h 31 ((x2 + 1) + x5) < 60) ∧ (-2147483648 ≤ x3 + (h 36 (h 31 ((x2 + 1) + x5))) ∧ x3 + (h 36 (h 31 ((x2 + 1) + x5))) ≤ 2147483647) ∧ (-2147483648 ≤ x5 + 1 ∧ x5 + 1 ≤ 2147483647) ∧ X 72 69 [vR 6, vI x1, vI x2, vI (x3 + (h 36 (h 31 ((x2 + 1) + x5)))), vI 0, vI (x5 + 1), vI (h 31 ((x2 + 1) + x5))] [] h _
        refine ⟨c12, c16, c17, ?_⟩
        refine X_goto (L := L_72) (n' := 27) rfl rfl rfl rfl ?_
        show X 72 27 [vR 6, vI x1, vI x2, vI (x3 + (h 36 (h 31 ((x2 + 1) + x5)))), vI 0, vI (x5 + 1), vI (h 31 ((x2 + 1) + x5))] [] h _
        exact H
      · have z15 : h 32 (h 31 ((x2 + 1) + x5)) = h 22 ((4 * x1) + x5) := (Classical.not_not.mp z15)
        replace H := H.2 z15
        show X 72 57 [vR 6, vI x1, vI x2, vI x3, vI x4, vI x5, vI (h 31 ((x2 + 1) + x5))] [] h _
        obtain ⟨⟨c18, c19⟩, H⟩ := H
        refine X_b 1 58 (L := L_72) rfl rfl rfl ?_
        show X 72 58 [vR 6, vI x1, vI x2, vI x3, vI x4, vI x5, vI (h 31 ((x2 + 1) + x5))] [vI 1] h _
        refine X_goto (L := L_72) (n' := 60) rfl rfl rfl rfl ?_
        show X 72 60 [vR 6, vI x1, vI x2, vI x3, vI x4, vI x5, vI (h 31 ((x2 + 1) + x5))] [vI 1] h _
        refine X_b 9 69 (L := L_72) rfl rfl rfl ?_
        show (0 ≤ h 31 ((x2 + 1) + x5) ∧ h 31 ((x2 + 1) + x5) < 60) ∧ (-2147483648 ≤ x3 + (h 36 (h 31 ((x2 + 1) + x5))) ∧ x3 + (h 36 (h 31 ((x2 + 1) + x5))) ≤ 2147483647) ∧ (-2147483648 ≤ x5 + 1 ∧ x5 + 1 ≤ 2147483647) ∧ X 72 69 [vR 6, vI x1, vI x2, vI (x3 + (h 36 (h 31 ((x2 + 1) + x5)))), vI 1, vI (x5 + 1), vI (h 31 ((x2 + 1) + x5))] [] h _
        refine ⟨c12, c18, c19, ?_⟩
        refine X_goto (L := L_72) (n' := 27) rfl rfl rfl rfl ?_
        show X 72 27 [vR 6, vI x1, vI x2, vI (x3 + (h 36 (h 31 ((x2 + 1) + x5)))), vI 1, vI (x5 + 1), vI (h 31 ((x2 + 1) + x5))] [] h _
        exact H

set_option maxRecDepth 8192 in
/-- PPModel.reduceBy, row 84 -/
theorem s_72_84 (x1 x2 x3 x5 : Int) (w4 w6 : ab_V) (h : ab_S) (K : ab_O → ab_S → Prop) (H : ((h 6 21 < x5 → ((-2147483648 ≤ x2 + 1 ∧ x2 + 1 ≤ 2147483647)) ∧ X 72 103 [vR 6, vI x1, vI x2, vI x3, w4, vI (x2 + 1), w6] [] h K) ∧ (x5 ≤ h 6 21 → ((0 ≤ x5 ∧ x5 < 61) ∧ (0 ≤ h 31 x5 ∧ h 31 x5 < 60) ∧ (-2147483648 ≤ x5 + 1 ∧ x5 + 1 ≤ 2147483647)) ∧ X 72 84 [vR 6, vI x1, vI x2, vI x3, w4, vI (x5 + 1), w6] [] (ab_up h 34 (h 31 x5) (h 6 22)) K))) : X 72 84 [vR 6, vI x1, vI x2, vI x3, w4, vI x5, w6] [] h K := by
  refine X_b 3 87 (L := L_72) rfl rfl rfl ?_
  show X 72 87 [vR 6, vI x1, vI x2, vI x3, w4, vI x5, w6] [vI (h 6 21), vI x5] h _
  refine X_icmp (L := L_72) (n' := 99) rfl rfl rfl rfl (fun z1 => ?_) (fun z1 => ?_)
  · have z1 : h 6 21 < x5 := z1
    replace H := H.1 z1
    show X 72 99 [vR 6, vI x1, vI x2, vI x3, w4, vI x5, w6] [] h _
    obtain ⟨c2, H⟩ := H
    refine X_b 4 103 (L := L_72) rfl rfl rfl ?_
    show (-2147483648 ≤ x2 + 1 ∧ x2 + 1 ≤ 2147483647) ∧ X 72 103 [vR 6, vI x1, vI x2, vI x3, w4, vI (x2 + 1), w6] [] h _
    refine ⟨c2, ?_⟩
    exact H
  · have z1 : x5 ≤ h 6 21 := (Int.not_lt.mp z1)
    replace H := H.2 z1
    show X 72 88 [vR 6, vI x1, vI x2, vI x3, w4, vI x5, w6] [] h _
    obtain ⟨⟨c3, c4, c5⟩, H⟩ := H
    refine X_b 10 98 (L := L_72) rfl rfl rfl ?_
    show (0 ≤ x5 ∧ x5 < 61) ∧ (0 ≤ h 31 x5 ∧ h 31 x5 < 60) ∧ (-2147483648 ≤ x5 + 1 ∧ x5 + 1 ≤ 2147483647) ∧ X 72 98 [vR 6, vI x1, vI x2, vI x3, w4, vI (x5 + 1), w6] [] (ab_up h 34 (h 31 x5) (h 6 22)) _
    refine ⟨c3, c4, c5, ?_⟩
    refine X_goto (L := L_72) (n' := 84) rfl rfl rfl rfl ?_
    show X 72 84 [vR 6, vI x1, vI x2, vI x3, w4, vI (x5 + 1), w6] [] (ab_up h 34 (h 31 x5) (h 6 22)) _
    exact H

set_option maxRecDepth 8192 in
/-- PPModel.reduceBy, row 103 -/
theorem s_72_103 (x1 x2 x3 x5 : Int) (w4 w6 : ab_V) (h : ab_S) (K : ab_O → ab_S → Prop) (H : ((h 6 21 < x5 → ((-2147483648 ≤ (h 6 20) - x3 ∧ (h 6 20) - x3 ≤ 2147483647) ∧ (0 ≤ x1 ∧ x1 < 8) ∧ (0 ≤ h 6 22 ∧ h 6 22 < 60) ∧ (-2147483648 ≤ (h 6 22) + 1 ∧ (h 6 22) + 1 ≤ 2147483647) ∧ (0 ≤ x2 ∧ x2 < 61) ∧ (-2147483648 ≤ 10 * (h 30 x2) ∧ 10 * (h 30 x2) ≤ 2147483647) ∧ (0 ≤ (10 * (h 30 x2)) + (h 20 x1) ∧ (10 * (h 30 x2)) + (h 20 x1) < 500)) ∧ ((h 26 ((10 * (h 30 x2)) + (h 20 x1)) < 0 → K (oI 3) (ab_up (ab_up (ab_up (ab_up (ab_up (ab_up (ab_up h 32 (h 6 22) (h 20 x1)) 33 (h 6 22) x1) 34 (h 6 22) (-1)) 35 (h 6 22) ((h 6 20) - x3)) 36 (h 6 22) x3) 6 22 ((h 6 22) + 1)) 6 21 x2)) ∧ (0 ≤ h 26 ((10 * (h 30 x2)) + (h 20 x1)) → ((100 ≤ h 26 ((10 * (h 30 x2)) + (h 20 x1)) → K (oI 3) (ab_up (ab_up (ab_up (ab_up (ab_up (ab_up (ab_up h 32 (h 6 22) (h 20 x1)) 33 (h 6 22) x1) 34 (h 6 22) (-1)) 35 (h 6 22) ((h 6 20) - x3)) 36 (h 6 22) x3) 6 22 ((h 6 22) + 1)) 6 21 x2)) ∧ (h 26 ((10 * (h 30 x2)) + (h 20 x1)) < 100 → ((0 ≤ x2 + 1 ∧ x2 + 1 < 61) ∧ (-2147483648 ≤ ((h 6 22) + 1) - 1 ∧ ((h 6 22) + 1) - 1 ≤ 2147483647)) ∧ K (oI 0) (ab_up (ab_up (ab_up (ab_up (ab_up (ab_up (ab_up (ab_up (ab_up (ab_up h 32 (h 6 22) (h 20 x1)) 33 (h 6 22) x1) 34 (h 6 22) (-1)) 35 (h 6 22) ((h 6 20) - x3)) 36 (h 6 22) x3) 6 22 ((h 6 22) + 1)) 6 21 x2) 6 21 (x2 + 1)) 30 (x2 + 1) (h 26 ((10 * (h 30 x2)) + (h 20 x1)))) 31 (x2 + 1) (((h 6 22) + 1) - 1))))))) ∧ (x5 ≤ h 6 21 → ((0 ≤ x5 ∧ x5 < 61) ∧ (-2147483648 ≤ x5 + 1 ∧ x5 + 1 ≤ 2147483647)) ∧ X 72 103 [vR 6, vI x1, vI x2, vI x3, w4, vI (x5 + 1), w6] [] (ab_up h 30 x5 (-1)) K))) : X 72 103 [vR 6, vI x1, vI x2, vI x3, w4, vI x5, w6] [] h K := by
  refine X_b 3 106 (L := L_72) rfl rfl rfl ?_
  show X 72 106 [vR 6, vI x1, vI x2, vI x3, w4, vI x5, w6] [vI (h 6 21), vI x5] h _
  refine X_icmp (L := L_72) (n' := 114) rfl rfl rfl rfl (fun z1 => ?_) (fun z1 => ?_)
  · have z1 : h 6 21 < x5 := z1
    replace H := H.1 z1
    show X 72 114 [vR 6, vI x1, vI x2, vI x3, w4, vI x5, w6] [] h _
    obtain ⟨⟨c2, c3, c4, c5, c6, c7, c8⟩, H⟩ := H
    refine X_b 13 127 (L := L_72) rfl rfl rfl ?_
    show (-2147483648 ≤ (h 6 20) - x3 ∧ (h 6 20) - x3 ≤ 2147483647) ∧ (0 ≤ x1 ∧ x1 < 8) ∧ X 72 127 [vR 6, vI x1, vI x2, vI x3, w4, vI ((h 6 20) - x3), w6] [vI x3, vI ((h 6 20) - x3), vI x1, vI (h 20 x1), vR 6] h _
    refine ⟨c2, c3, ?_⟩
    refine X_call 69 [vR 6, vI (h 20 x1), vI x1, vI ((h 6 20) - x3), vI x3] [] rfl (sg_calv rfl rfl rfl rfl rfl rfl rfl rfl rfl rfl rfl) (by decide) ?_
    show X 69 0 [vR 6, vI (h 20 x1), vI x1, vI ((h 6 20) - x3), vI x3] [] h _
    refine X_b 36 36 (L := L_69) rfl rfl rfl ?_
    show (0 ≤ h 6 22 ∧ h 6 22 < 60) ∧ (0 ≤ h 6 22 ∧ h 6 22 < 60) ∧ (0 ≤ h 6 22 ∧ h 6 22 < 60) ∧ (0 ≤ h 6 22 ∧ h 6 22 < 60) ∧ (0 ≤ h 6 22 ∧ h 6 22 < 60) ∧ (-2147483648 ≤ (h 6 22) + 1 ∧ (h 6 22) + 1 ≤ 2147483647) ∧ X 69 36 [vR 6, vI (h 20 x1), vI x1, vI ((h 6 20) - x3), vI x3] [] (ab_up (ab_up (ab_up (ab_up (ab_up (ab_up h 32 (h 6 22) (h 20 x1)) 33 (h 6 22) x1) 34 (h 6 22) (-1)) 35 (h 6 22) ((h 6 20) - x3)) 36 (h 6 22) x3) 6 22 ((h 6 22) + 1)) _
    refine ⟨c4, c4, c4, c4, c4, c5, ?_⟩
    refine X_ret (L := L_69) rfl rfl rfl rfl ?_
    show X 72 128 [vR 6, vI x1, vI x2, vI x3, w4, vI ((h 6 20) - x3), w6] [] (ab_up (ab_up (ab_up (ab_up (ab_up (ab_up h 32 (h 6 22) (h 20 x1)) 33 (h 6 22) x1) 34 (h 6 22) (-1)) 35 (h 6 22) ((h 6 20) - x3)) 36 (h 6 22) x3) 6 22 ((h 6 22) + 1)) _
    refine X_b 12 140 (L := L_72) rfl rfl rfl ?_
    show (0 ≤ x2 ∧ x2 < 61) ∧ (0 ≤ x1 ∧ x1 < 8) ∧ X 72 140 [vR 6, vI x1, vI x2, vI x3, w4, vI ((h 6 20) - x3), w6] [vI (h 20 x1), vI (h 30 x2), vR 6] (ab_up (ab_up (ab_up (ab_up (ab_up (ab_up (ab_up h 32 (h 6 22) (h 20 x1)) 33 (h 6 22) x1) 34 (h 6 22) (-1)) 35 (h 6 22) ((h 6 20) - x3)) 36 (h 6 22) x3) 6 22 ((h 6 22) + 1)) 6 21 x2) _
    refine ⟨c6, c3, ?_⟩
    refine X_call 58 [vR 6, vI (h 30 x2), vI (h 20 x1)] [] rfl (sg_calv rfl rfl rfl rfl rfl rfl rfl rfl rfl rfl rfl) (by decide) ?_
    show X 58 0 [vR 6, vI (h 30 x2), vI (h 20 x1), vJ 0] [] (ab_up (ab_up (ab_up (ab_up (ab_up (ab_up (ab_up h 32 (h 6 22) (h 20 x1)) 33 (h 6 22) x1) 34 (h 6 22) (-1)) 35 (h 6 22) ((h 6 20) - x3)) 36 (h 6 22) x3) 6 22 ((h 6 22) + 1)) 6 21 x2) _
    refine X_b 10 10 (L := L_58) rfl rfl rfl ?_
    show (-2147483648 ≤ 10 * (h 30 x2) ∧ 10 * (h 30 x2) ≤ 2147483647) ∧ (-2147483648 ≤ (10 * (h 30 x2)) + (h 20 x1) ∧ (10 * (h 30 x2)) + (h 20 x1) ≤ 2147483647) ∧ (0 ≤ (10 * (h 30 x2)) + (h 20 x1) ∧ (10 * (h 30 x2)) + (h 20 x1) < 500) ∧ X 58 10 [vR 6, vI (h 30 x2), vI (h 20 x1), vI (h 26 ((10 * (h 30 x2)) + (h 20 x1)))] [vI (h 26 ((10 * (h 30 x2)) + (h 20 x1)))] (ab_up (ab_up (ab_up (ab_up (ab_up (ab_up (ab_up h 32 (h 6 22) (h 20 x1)) 33 (h 6 22) x1) 34 (h 6 22) (-1)) 35 (h 6 22) ((h 6 20) - x3)) 36 (h 6 22) x3) 6 22 ((h 6 22) + 1)) 6 21 x2) _
    refine ⟨c7, by have := c8; omega, c8, ?_⟩
    refine X_if (L := L_58) (n' := 16) rfl rfl rfl rfl (fun z9 => ?_) (fun z9 => ?_)
    · have z9 : h 26 ((10 * (h 30 x2)) + (h 20 x1)) < 0 := z9
      replace H := H.1 z9
      show X 58 16 [vR 6, vI (h 30 x2), vI (h 20 x1), vI (h 26 ((10 * (h 30 x2)) + (h 20 x1)))] [] (ab_up (ab_up (ab_up (ab_up (ab_up (ab_up (ab_up h 32 (h 6 22) (h 20 x1)) 33 (h 6 22) x1) 34 (h 6 22) (-1)) 35 (h 6 22) ((h 6 20) - x3)) 36 (h 6 22) x3) 6 22 ((h 6 22) + 1)) 6 21 x2) _
      refine X_b 1 17 (L := L_58) rfl rfl rfl ?_
      show X 58 17 [vR 6, vI (h 30 x2), vI (h 20 x1), vI (h 26 ((10 * (h 30 x2)) + (h 20 x1)))] [vI 0] (ab_up (ab_up (ab_up (ab_up (ab_up (ab_up (ab_up h 32 (h 6 22) (h 20 x1)) 33 (h 6 22) x1) 34 (h 6 22) (-1)) 35 (h 6 22) ((h 6 20) - x3)) 36 (h 6 22) x3) 6 22 ((h 6 22) + 1)) 6 21 x2) _
      refine X_zret (L := L_58) rfl rfl rfl rfl (by decide) ?_
      show X 72 141 [vR 6, vI x1, vI x2, vI x3, w4, vI ((h 6 20) - x3), w6] [vI 0] (ab_up (ab_up (ab_up (ab_up (ab_up (ab_up (ab_up h 32 (h 6 22) (h 20 x1)) 33 (h 6 22) x1) 34 (h 6 22) (-1)) 35 (h 6 22) ((h 6 20) - x3)) 36 (h 6 22) x3) 6 22 ((h 6 22) + 1)) 6 21 x2) _
      refine X_if (L := L_72) (n' := 144) rfl rfl rfl rfl (fun z => absurd z (show ¬ (¬ (0 : Int) = (0 : Int)) by decide)) (fun _ => ?_)
      show X 72 142 [vR 6, vI x1, vI x2, vI x3, w4, vI ((h 6 20) - x3), w6] [] (ab_up (ab_up (ab_up (ab_up (ab_up (ab_up (ab_up h 32 (h 6 22) (h 20 x1)) 33 (h 6 22) x1) 34 (h 6 22) (-1)) 35 (h 6 22) ((h 6 20) - x3)) 36 (h 6 22) x3) 6 22 ((h 6 22) + 1)) 6 21 x2) _
      refine X_b 1 143 (L := L_72) rfl rfl rfl ?_
      show X 72 143 [vR 6, vI x1, vI x2, vI x3, w4, vI ((h 6 20) - x3), w6] [vI 3] (ab_up (ab_up (ab_up (ab_up (ab_up (ab_up (ab_up h 32 (h 6 22) (h 20 x1)) 33 (h 6 22) x1) 34 (h 6 22) (-1)) 35 (h 6 22) ((h 6 20) - x3)) 36 (h 6 22) x3) 6 22 ((h 6 22) + 1)) 6 21 x2) _
      refine X_iret (L := L_72) rfl rfl rfl rfl ?_
      exact H
    · have z9 : 0 ≤ h 26 ((10 * (h 30 x2)) + (h 20 x1)) := (Int.not_lt.mp z9)
      replace H := H.2 z9
      show X 58 11 [vR 6, vI (h 30 x2), vI (h 20 x1), vI (h 26 ((10 * (h 30 x2)) + (h 20 x1)))] [] (ab_up (ab_up (ab_up (ab_up (ab_up (ab_up (ab_up h 32 (h 6 22) (h 20 x1)) 33 (h 6 22) x1) 34 (h 6 22) (-1)) 35 (h 6 22) ((h 6 20) - x3)) 36 (h 6 22) x3) 6 22 ((h 6 22) + 1)) 6 21 x2) _
      refine X_b 2 13 (L := L_58) rfl rfl rfl ?_
      show X 58 13 [vR 6, vI (h 30 x2), vI (h 20 x1), vI (h 26 ((10 * (h 30 x2)) + (h 20 x1)))] [vI 100, vI (h 26 ((10 * (h 30 x2)) + (h 20 x1)))] (ab_up (ab_up (ab_up (ab_up (ab_up (ab_up (ab_up h 32 (h 6 22) (h 20 x1)) 33 (h 6 22) x1) 34 (h 6 22) (-1)) 35 (h 6 22) ((h 6 20) - x3)) 36 (h 6 22) x3) 6 22 ((h 6 22) + 1)) 6 21 x2) _
      refine X_icmp (L := L_58) (n' := 16) rfl rfl rfl rfl (fun z10 => ?_) (fun z10 => ?_)
      · have z10 : 100 ≤ h 26 ((10 * (h 30 x2)) + (h 20 x1)) := z10
        replace H := H.1 z10
        show X 58 16 [vR 6, vI (h 30 x2), vI (h 20 x1), vI (h 26 ((10 * (h 30 x2)) + (h 20 x1)))] [] (ab_up (ab_up (ab_up (ab_up (ab_up (ab_up (ab_up h 32 (h 6 22) (h 20 x1)) 33 (h 6 22) x1) 34 (h 6 22) (-1)) 35 (h 6 22) ((h 6 20) - x3)) 36 (h 6 22) x3) 6 22 ((h 6 22) + 1)) 6 21 x2) _
        refine X_b 1 17 (L := L_58) rfl rfl rfl ?_
        show X 58 17 [vR 6, vI (h 30 x2), vI (h 20 x1), vI (h 26 ((10 * (h 30 x2)) + (h 20 x1)))] [vI 0] (ab_up (ab_up (ab_up (ab_up (ab_up (ab_up (ab_up h 32 (h 6 22) (h 20 x1)) 33 (h 6 22) x1) 34 (h 6 22) (-1)) 35 (h 6 22) ((h 6 20) - x3)) 36 (h 6 22) x3) 6 22 ((h 6 22) + 1)) 6 21 x2) _
        refine X_zret (L := L_58) rfl rfl rfl rfl (by decide) ?_
        show X 72 141 [vR 6, vI x1, vI x2, vI x3, w4, vI ((h 6 20) - x3), w6] [vI 0] (ab_up (ab_up (ab_up (ab_up (ab_up (ab_up (ab_up h 32 (h 6 22) (h 20 x1)) 33 (h 6 22) x1) 34 (h 6 22) (-1)) 35 (h 6 22) ((h 6 20) - x3)) 36 (h 6 22) x3) 6 22 ((h 6 22) + 1)) 6 21 x2) _
        refine X_if (L := L_72) (n' := 144) rfl rfl rfl rfl (fun z => absurd z (show ¬ (¬ (0 : Int) = (0 : Int)) by decide)) (fun _ => ?_)
        show X 72 142 [vR 6, vI x1, vI x2, vI x3, w4, vI ((h 6 20) - x3), w6] [] (ab_up (ab_up (ab_up (ab_up (ab_up (ab_up (ab_up h 32 (h 6 22) (h 20 x1)) 33 (h 6 22) x1) 34 (h 6 22) (-1)) 35 (h 6 22) ((h 6 20) - x3)) 36 (h 6 22) x3) 6 22 ((h 6 22) + 1)) 6 21 x2) _
        refine X_b 1 143 (L := L_72) rfl rfl rfl ?_
        show X 72 143 [vR 6, vI x1, vI x2, vI x3, w4, vI ((h 6 20) - x3), w6] [vI 3] (ab_up (ab_up (ab_up (ab_up (ab_up (ab_up (ab_up h 32 (h 6 22) (h 20 x1)) 33 (h 6 22) x1) 34 (h 6 22) (-1)) 35 (h 6 22) ((h 6 20) - x3)) 36 (h 6 22) x3) 6 22 ((h 6 22) + 1)) 6 21 x2) _
        refine X_iret (L := L_72) rfl rfl rfl rfl ?_
        exact H
      · have z10 : h 26 ((10 * (h 30 x2)) + (h 20 x1)) < 100 := (Int.not_le.mp z10)
        replace H := H.2 z10
        show X 58 14 [vR 6, vI (h 30 x2), vI (h 20 x1), vI (h 26 ((10 * (h 30 x2)) + (h 20 x1)))] [] (ab_up (ab_up (ab_up (ab_up (ab_up (ab_up (ab_up h 32 (h 6 22) (h 20 x1)) 33 (h 6 22) x1) 34 (h 6 22) (-1)) 35 (h 6 22) ((h 6 20) - x3)) 36 (h 6 22) x3) 6 22 ((h 6 22) + 1)) 6 21 x2) _
        obtain ⟨⟨c11, c12⟩, H⟩ := H
        refine X_b 1 15 (L := L_58) rfl rfl rfl ?_
        show X 58 15 [vR 6, vI (h 30 x2), vI (h 20 x1), vI (h 26 ((10 * (h 30 x2)) + (h 20 x1)))] [vI 1] (ab_up (ab_up (ab_up (ab_up (ab_up (ab_up (ab_up h 32 (h 6 22) (h 20 x1)) 33 (h 6 22) x1) 34 (h 6 22) (-1)) 35 (h 6 22) ((h 6 20) - x3)) 36 (h 6 22) x3) 6 22 ((h 6 22) + 1)) 6 21 x2) _
        refine X_goto (L := L_58) (n' := 17) rfl rfl rfl rfl ?_
        show X 58 17 [vR 6, vI (h 30 x2), vI (h 20 x1), vI (h 26 ((10 * (h 30 x2)) + (h 20 x1)))] [vI 1] (ab_up (ab_up (ab_up (ab_up (ab_up (ab_up (ab_up h 32 (h 6 22) (h 20 x1)) 33 (h 6 22) x1) 34 (h 6 22) (-1)) 35 (h 6 22) ((h 6 20) - x3)) 36 (h 6 22) x3) 6 22 ((h 6 22) + 1)) 6 21 x2) _
        refine X_zret (L := L_58) rfl rfl rfl rfl (by decide) ?_
        show X 72 141 [vR 6, vI x1, vI x2, vI x3, w4, vI ((h 6 20) - x3), w6] [vI 1] (ab_up (ab_up (ab_up (ab_up (ab_up (ab_up (ab_up h 32 (h 6 22) (h 20 x1)) 33 (h 6 22) x1) 34 (h 6 22) (-1)) 35 (h 6 22) ((h 6 20) - x3)) 36 (h 6 22) x3) 6 22 ((h 6 22) + 1)) 6 21 x2) _
        refine X_if (L := L_72) (n' := 144) rfl rfl rfl rfl (fun _ => ?_) (fun z => absurd (show ¬ (1 : Int) = (0 : Int) by decide) z)
        show X 72 144 [vR 6, vI x1, vI x2, vI x3, w4, vI ((h 6 20) - x3), w6] [] (ab_up (ab_up (ab_up (ab_up (ab_up (ab_up (ab_up h 32 (h 6 22) (h 20 x1)) 33 (h 6 22) x1) 34 (h 6 22) (-1)) 35 (h 6 22) ((h 6 20) - x3)) 36 (h 6 22) x3) 6 22 ((h 6 22) + 1)) 6 21 x2) _
        refine X_b 15 159 (L := L_72) rfl rfl rfl ?_
        show (0 ≤ x2 ∧ x2 < 61) ∧ (-2147483648 ≤ 10 * (h 30 x2) ∧ 10 * (h 30 x2) ≤ 2147483647) ∧ (0 ≤ x1 ∧ x1 < 8) ∧ (-2147483648 ≤ (10 * (h 30 x2)) + (h 20 x1) ∧ (10 * (h 30 x2)) + (h 20 x1) ≤ 2147483647) ∧ (0 ≤ (10 * (h 30 x2)) + (h 20 x1) ∧ (10 * (h 30 x2)) + (h 20 x1) < 500) ∧ X 72 159 [vR 6, vI x1, vI x2, vI x3, w4, vI ((h 6 20) - x3), w6] [vI (h 26 ((10 * (h 30 x2)) + (h 20 x1))), vR 6] (ab_up (ab_up (ab_up (ab_up (ab_up (ab_up (ab_up h 32 (h 6 22) (h 20 x1)) 33 (h 6 22) x1) 34 (h 6 22) (-1)) 35 (h 6 22) ((h 6 20) - x3)) 36 (h 6 22) x3) 6 22 ((h 6 22) + 1)) 6 21 x2) _
        refine ⟨c6, c7, c3, by have := c8; omega, c8, ?_⟩
        refine X_call 70 [vR 6, vI (h 26 ((10 * (h 30 x2)) + (h 20 x1)))] [] rfl (sg_calv rfl rfl rfl rfl rfl rfl rfl rfl rfl rfl rfl) (by decide) ?_
        show X 70 0 [vR 6, vI (h 26 ((10 * (h 30 x2)) + (h 20 x1)))] [] (ab_up (ab_up (ab_up (ab_up (ab_up (ab_up (ab_up h 32 (h 6 22) (h 20 x1)) 33 (h 6 22) x1) 34 (h 6 22) (-1)) 35 (h 6 22) ((h 6 20) - x3)) 36 (h 6 22) x3) 6 22 ((h 6 22) + 1)) 6 21 x2) _
        refine X_b 21 21 (L := L_70) rfl rfl rfl ?_
        show (-2147483648 ≤ x2 + 1 ∧ x2 + 1 ≤ 2147483647) ∧ (0 ≤ x2 + 1 ∧ x2 + 1 < 61) ∧ (-2147483648 ≤ ((h 6 22) + 1) - 1 ∧ ((h 6 22) + 1) - 1 ≤ 2147483647) ∧ (0 ≤ x2 + 1 ∧ x2 + 1 < 61) ∧ X 70 21 [vR 6, vI (h 26 ((10 * (h 30 x2)) + (h 20 x1)))] [] (ab_up (ab_up (ab_up (ab_up (ab_up (ab_up (ab_up (ab_up (ab_up (ab_up h 32 (h 6 22) (h 20 x1)) 33 (h 6 22) x1) 34 (h 6 22) (-1)) 35 (h 6 22) ((h 6 20) - x3)) 36 (h 6 22) x3) 6 22 ((h 6 22) + 1)) 6 21 x2) 6 21 (x2 + 1)) 30 (x2 + 1) (h 26 ((10 * (h 30 x2)) + (h 20 x1)))) 31 (x2 + 1) (((h 6 22) + 1) - 1)) _
        refine ⟨by have := c11; omega, c11, c12, c11, ?_⟩
        refine X_ret (L := L_70) rfl rfl rfl rfl ?_
        show X 72 160 [vR 6, vI x1, vI x2, vI x3, w4, vI ((h 6 20) - x3), w6] [] (ab_up (ab_up (ab_up (ab_up (ab_up (ab_up (ab_up (ab_up (ab_up (ab_up h 32 (h 6 22) (h 20 x1)) 33 (h 6 22) x1) 34 (h 6 22) (-1)) 35 (h 6 22) ((h 6 20) - x3)) 36 (h 6 22) x3) 6 22 ((h 6 22) + 1)) 6 21 x2) 6 21 (x2 + 1)) 30 (x2 + 1) (h 26 ((10 * (h 30 x2)) + (h 20 x1)))) 31 (x2 + 1) (((h 6 22) + 1) - 1)) _
        refine X_b 1 161 (L := L_72) rfl rfl rfl ?_
        show X 72 161 [vR 6, vI x1, vI x2, vI x3, w4, vI ((h 6 20) - x3), w6] [vI 0] (ab_up (ab_up (ab_up (ab_up (ab_up (ab_up (ab_up (ab_up (ab_up (ab_up h 32 (h 6 22) (h 20 x1)) 33 (h 6 22) x1) 34 (h 6 22) (-1)) 35 (h 6 22) ((h 6 20) - x3)) 36 (h 6 22) x3) 6 22 ((h 6 22) + 1)) 6 21 x2) 6 21 (x2 + 1)) 30 (x2 + 1) (h 26 ((10 * (h 30 x2)) + (h 20 x1)))) 31 (x2 + 1) (((h 6 22) + 1) - 1)) _
        refine X_iret (L := L_72) rfl rfl rfl rfl ?_
        exact H
  · have z1 : x5 ≤ h 6 21 := (Int.not_lt.mp z1)
    replace H := H.2 z1
    show X 72 107 [vR 6, vI x1, vI x2, vI x3, w4, vI x5, w6] [] h _
    obtain ⟨⟨c13, c14⟩, H⟩ := H
    refine X_b 6 113 (L := L_72) rfl rfl rfl ?_
    show (0 ≤ x5 ∧ x5 < 61) ∧ (-2147483648 ≤ x5 + 1 ∧ x5 + 1 ≤ 2147483647) ∧ X 72 113 [vR 6, vI x1, vI x2, vI x3, w4, vI (x5 + 1), w6] [] (ab_up h 30 x5 (-1)) _
    refine ⟨c13, c14, ?_⟩
    refine X_goto (L := L_72) (n' := 103) rfl rfl rfl rfl ?_
    show X 72 103 [vR 6, vI x1, vI x2, vI x3, w4, vI (x5 + 1), w6] [] (ab_up h 30 x5 (-1)) _
    exact H

set_option maxRecDepth 8192 in
/-- PPModel.advance, row 0 -/
theorem s_73_0 (h : ab_S) (K : ab_O → ab_S → Prop) (H : ((0 ≤ h 6 21 ∧ h 6 21 < 61) ∧ (-2147483648 ≤ 10 * (h 30 (h 6 21)) ∧ 10 * (h 30 (h 6 21)) ≤ 2147483647)) ∧ ((h 6 17 ≤ h 6 20 → ((0 ≤ (10 * (h 30 (h 6 21))) + 9 ∧ (10 * (h 30 (h 6 21))) + 9 < 500)) ∧ ((¬ h 26 ((10 * (h 30 (h 6 21))) + 9) = (-1) → ((100 ≤ h 26 ((10 * (h 30 (h 6 21))) + 9) → ((200 ≤ h 26 ((10 * (h 30 (h 6 21))) + 9) → ((¬ h 6 21 = 1 → K (oI 3) h) ∧ (h 6 21 = 1 → ((0 ≤ h 31 1 ∧ h 31 1 < 60)) ∧ ((¬ h 32 (h 31 1) = h 20 0 → K (oI 3) h) ∧ (h 32 (h 31 1) = h 20 0 → K (oI 1) h))))) ∧ (h 26 ((10 * (h 30 (h 6 21))) + 9) < 200 → ((-2147483648 ≤ (h 26 ((10 * (h 30 (h 6 21))) + 9)) - 100 ∧ (h 26 ((10 * (h 30 (h 6 21))) + 9)) - 100 ≤ 2147483647)) ∧ C 72 [vR 6, vI ((h 26 ((10 * (h 30 (h 6 21))) + 9)) - 100)] h (kI (fun v12 h12 => K (oI v12) h12))))) ∧ (h 26 ((10 * (h 30 (h 6 21))) + 9) < 100 → C 71 [vR 6, vI (h 26 ((10 * (h 30 (h 6 21))) + 9))] h (kI (fun v13 h13 => K (oI v13) h13))))) ∧ (h 26 ((10 * (h 30 (h 6 21))) + 9) = (-1) → K (oI 2) h))) ∧ (h 6 20 < h 6 17 → ((0 ≤ h 6 20 ∧ h 6 20 < 20) ∧ (0 ≤ (10 * (h 30 (h 6 21))) + (h 29 (h 6 20)) ∧ (10 * (h 30 (h 6 21))) + (h 29 (h 6 20)) < 500)) ∧ ((¬ h 26 ((10 * (h 30 (h 6 21))) + (h 29 (h 6 20))) = (-1) → ((100 ≤ h 26 ((10 * (h 30 (h 6 21))) + (h 29 (h 6 20))) → ((200 ≤ h 26 ((10 * (h 30 (h 6 21))) + (h 29 (h 6 20))) → ((¬ h 6 21 = 1 → K (oI 3) h) ∧ (h 6 21 = 1 → ((0 ≤ h 31 1 ∧ h 31 1 < 60)) ∧ ((¬ h 32 (h 31 1) = h 20 0 → K (oI 3) h) ∧ (h 32 (h 31 1) = h 20 0 → K (oI 1) h))))) ∧ (h 26 ((10 * (h 30 (h 6 21))) + (h 29 (h 6 20))) < 200 → ((-2147483648 ≤ (h 26 ((10 * (h 30 (h 6 21))) + (h 29 (h 6 20)))) - 100 ∧ (h 26 ((10 * (h 30 (h 6 21))) + (h 29 (h 6 20)))) - 100 ≤ 2147483647)) ∧ C 72 [vR 6, vI ((h 26 ((10 * (h 30 (h 6 21))) + (h 29 (h 6 20)))) - 100)] h (kI (fun v23 h23 => K (oI v23) h23))))) ∧ (h 26 ((10 * (h 30 (h 6 21))) + (h 29 (h 6 20))) < 100 → C 71 [vR 6, vI (h 26 ((10 * (h 30 (h 6 21))) + (h 29 (h 6 20))))] h (kI (fun v24 h24 => K (oI v24) h24))))) ∧ (h 26 ((10 * (h 30 (h 6 21))) + (h 29 (h 6 20))) = (-1) → K (oI 2) h))))) : C 73 [vR 6] h K := by
  show X 73 0 [vR 6, vJ 0] [] h K
  obtain ⟨⟨c1, c2⟩, H⟩ := H
  refine X_b 13 13 (L := L_73) rfl rfl rfl ?_
  show (0 ≤ h 6 21 ∧ h 6 21 < 61) ∧ (-2147483648 ≤ 10 * (h 30 (h 6 21)) ∧ 10 * (h 30 (h 6 21)) ≤ 2147483647) ∧ X 73 13 [vR 6, vJ 0] [vI (h 6 17), vI (h 6 20), vI (10 * (h 30 (h 6 21))), vR 26] h _
  refine ⟨c1, c2, ?_⟩
  refine X_icmp (L := L_73) (n' := 20) rfl rfl rfl rfl (fun z3 => ?_) (fun z3 => ?_)
  · have z3 : h 6 17 ≤ h 6 20 := z3
    replace H := H.1 z3
    show X 73 20 [vR 6, vJ 0] [vI (10 * (h 30 (h 6 21))), vR 26] h _
    obtain ⟨c4, H⟩ := H
    refine X_b 6 26 (L := L_73) rfl rfl rfl ?_
    show (-2147483648 ≤ (10 * (h 30 (h 6 21))) + 9 ∧ (10 * (h 30 (h 6 21))) + 9 ≤ 2147483647) ∧ (0 ≤ (10 * (h 30 (h 6 21))) + 9 ∧ (10 * (h 30 (h 6 21))) + 9 < 500) ∧ X 73 26 [vR 6, vI (h 26 ((10 * (h 30 (h 6 21))) + 9))] [vI (-1), vI (h 26 ((10 * (h 30 (h 6 21))) + 9))] h _
    refine ⟨by have := c4; omega, c4, ?_⟩
    refine X_icmp (L := L_73) (n' := 29) rfl rfl rfl rfl (fun z5 => ?_) (fun z5 => ?_)
    · have z5 : ¬ h 26 ((10 * (h 30 (h 6 21))) + 9) = (-1) := z5
      replace H := H.1 z5
      show X 73 29 [vR 6, vI (h 26 ((10 * (h 30 (h 6 21))) + 9))] [] h _
      refine X_b 2 31 (L := L_73) rfl rfl rfl ?_
      show X 73 31 [vR 6, vI (h 26 ((10 * (h 30 (h 6 21))) + 9))] [vI 100, vI (h 26 ((10 * (h 30 (h 6 21))) + 9))] h _
      refine X_icmp (L := L_73) (n' := 36) rfl rfl rfl rfl (fun z6 => ?_) (fun z6 => ?_)
      · have z6 : 100 ≤ h 26 ((10 * (h 30 (h 6 21))) + 9) := z6
        replace H := H.1 z6
        show X 73 36 [vR 6, vI (h 26 ((10 * (h 30 (h 6 21))) + 9))] [] h _
        refine X_b 2 38 (L := L_73) rfl rfl rfl ?_
        show X 73 38 [vR 6, vI (h 26 ((10 * (h 30 (h 6 21))) + 9))] [vI 200, vI (h 26 ((10 * (h 30 (h 6 21))) + 9))] h _
        refine X_icmp (L := L_73) (n' := 45) rfl rfl rfl rfl (fun z7 => ?_) (fun z7 => ?_)
        · have z7 : 200 ≤ h 26 ((10 * (h 30 (h 6 21))) + 9) := z7
          replace H := H.1 z7
          show X 73 45 [vR 6, vI (h 26 ((10 * (h 30 (h 6 21))) + 9))] [] h _
          refine X_b 3 48 (L := L_73) rfl rfl rfl ?_
          show X 73 48 [vR 6, vI (h 26 ((10 * (h 30 (h 6 21))) + 9))] [vI 1, vI (h 6 21)] h _
          refine X_icmp (L := L_73) (n' := 63) rfl rfl rfl rfl (fun z8 => ?_) (fun z8 => ?_)
          · have z8 : ¬ h 6 21 = 1 := z8
            replace H := H.1 z8
            show X 73 63 [vR 6, vI (h 26 ((10 * (h 30 (h 6 21))) + 9))] [] h _
            refine X_b 1 64 (L := L_73) rfl rfl rfl ?_
            show X 73 64 [vR 6, vI (h 26 ((10 * (h 30 (h 6 21))) + 9))] [vI 3] h _
            refine X_iret (L := L_73) rfl rfl rfl rfl ?_
            exact H
          · have z8 : h 6 21 = 1 := (Classical.not_not.mp z8)
            replace H := H.2 z8
            show X 73 49 [vR 6, vI (h 26 ((10 * (h 30 (h 6 21))) + 9))] [] h _
            obtain ⟨c9, H⟩ := H
            refine X_b 11 60 (L := L_73) rfl rfl rfl ?_
            show (0 ≤ (1 : Int) ∧ (1 : Int) < 61) ∧ (0 ≤ h 31 1 ∧ h 31 1 < 60) ∧ (0 ≤ (0 : Int) ∧ (0 : Int) < 8) ∧ X 73 60 [vR 6, vI (h 26 ((10 * (h 30 (h 6 21))) + 9))] [vI (h 20 0), vI (h 32 (h 31 1))] h _
            refine ⟨by decide, c9, by decide, ?_⟩
            refine X_icmp (L := L_73) (n' := 63) rfl rfl rfl rfl (fun z10 => ?_) (fun z10 => ?_)
            · have z10 : ¬ h 32 (h 31 1) = h 20 0 := z10
              replace H := H.1 z10
              show X 73 63 [vR 6, vI (h 26 ((10 * (h 30 (h 6 21))) + 9))] [] h _
              refine X_b 1 64 (L := L_73) rfl rfl rfl ?_
              show X 73 64 [vR 6, vI (h 26 ((10 * (h 30 (h 6 21))) + 9))] [vI 3] h _
              refine X_iret (L := L_73) rfl rfl rfl rfl ?_
              exact H
            · have z10 : h 32 (h 31 1) = h 20 0 := (Classical.not_not.mp z10)
              replace H := H.2 z10
              show X 73 61 [vR 6, vI (h 26 ((10 * (h 30 (h 6 21))) + 9))] [] h _
              refine X_b 1 62 (L := L_73) rfl rfl rfl ?_
              show X 73 62 [vR 6, vI (h 26 ((10 * (h 30 (h 6 21))) + 9))] [vI 1] h _
              refine X_goto (L := L_73) (n' := 64) rfl rfl rfl rfl ?_
              show X 73 64 [vR 6, vI (h 26 ((10 * (h 30 (h 6 21))) + 9))] [vI 1] h _
              refine X_iret (L := L_73) rfl rfl rfl rfl ?_
              exact H
        · have z7 : h 26 ((10 * (h 30 (h 6 21))) + 9) < 200 := (Int.not_le.mp z7)
          replace H := H.2 z7
          show X 73 39 [vR 6, vI (h 26 ((10 * (h 30 (h 6 21))) + 9))] [] h _
          obtain ⟨c11, H⟩ := H
          refine X_b 4 43 (L := L_73) rfl rfl rfl ?_
          show (-2147483648 ≤ (h 26 ((10 * (h 30 (h 6 21))) + 9)) - 100 ∧ (h 26 ((10 * (h 30 (h 6 21))) + 9)) - 100 ≤ 2147483647) ∧ X 73 43 [vR 6, vI (h 26 ((10 * (h 30 (h 6 21))) + 9))] [vI ((h 26 ((10 * (h 30 (h 6 21))) + 9)) - 100), vR 6] h _
          refine ⟨c11, ?_⟩
          refine X_call 72 [vR 6, vI ((h 26 ((10 * (h 30 (h 6 21))) + 9)) - 100)] [] rfl (sg_calv rfl rfl rfl rfl rfl rfl rfl rfl rfl rfl rfl) (by decide) ?_
          refine C_mono H (kI_to ?_)
          intro v12 h12 H
          show X 73 44 [vR 6, vI (h 26 ((10 * (h 30 (h 6 21))) + 9))] [vI v12] h12 _
          refine X_iret (L := L_73) rfl rfl rfl rfl ?_
          exact H
      · have z6 : h 26 ((10 * (h 30 (h 6 21))) + 9) < 100 := (Int.not_le.mp z6)
        replace H := H.2 z6
        show X 73 32 [vR 6, vI (h 26 ((10 * (h 30 (h 6 21))) + 9))] [] h _
        refine X_b 2 34 (L := L_73) rfl rfl rfl ?_
        show X 73 34 [vR 6, vI (h 26 ((10 * (h 30 (h 6 21))) + 9))] [vI (h 26 ((10 * (h 30 (h 6 21))) + 9)), vR 6] h _
        refine X_call 71 [vR 6, vI (h 26 ((10 * (h 30 (h 6 21))) + 9))] [] rfl (sg_calv rfl rfl rfl rfl rfl rfl rfl rfl rfl rfl rfl) (by decide) ?_
        refine C_mono H (kI_to ?_)
        intro v13 h13 H
        show X 73 35 [vR 6, vI (h 26 ((10 * (h 30 (h 6 21))) + 9))] [vI v13] h13 _
        refine X_iret (L := L_73) rfl rfl rfl rfl ?_
        exact H
    · have z5 : h 26 ((10 * (h 30 (h 6 21))) + 9) = (-1) := (Classical.not_not.mp z5)
      replace H := H.2 z5
      show X 73 27 [vR 6, vI (h 26 ((10 * (h 30 (h 6 21))) + 9))] [] h _
      refine X_b 1 28 (L := L_73) rfl rfl rfl ?_
      show X 73 28 [vR 6, vI (h 26 ((10 * (h 30 (h 6 21))) + 9))] [vI 2] h _
      refine X_iret (L := L_73) rfl rfl rfl rfl ?_
      exact H
  · have z3 : h 6 20 < h 6 17 := (Int.not_le.mp z3)
    replace H := H.2 z3
    show X 73 14 [vR 6, vJ 0] [vI (10 * (h 30 (h 6 21))), vR 26] h _
    obtain ⟨⟨c14, c15⟩, H⟩ := H
    refine X_b 5 19 (L := L_73) rfl rfl rfl ?_
    show (0 ≤ h 6 20 ∧ h 6 20 < 20) ∧ X 73 19 [vR 6, vJ 0] [vI (h 29 (h 6 20)), vI (10 * (h 30 (h 6 21))), vR 26] h _
    refine ⟨c14, ?_⟩
    refine X_goto (L := L_73) (n' := 21) rfl rfl rfl rfl ?_
    show X 73 21 [vR 6, vJ 0] [vI (h 29 (h 6 20)), vI (10 * (h 30 (h 6 21))), vR 26] h _
    refine X_b 5 26 (L := L_73) rfl rfl rfl ?_
    show (-2147483648 ≤ (10 * (h 30 (h 6 21))) + (h 29 (h 6 20)) ∧ (10 * (h 30 (h 6 21))) + (h 29 (h 6 20)) ≤ 2147483647) ∧ (0 ≤ (10 * (h 30 (h 6 21))) + (h 29 (h 6 20)) ∧ (10 * (h 30 (h 6 21))) + (h 29 (h 6 20)) < 500) ∧ X 73 26 [vR 6, vI (h 26 ((10 * (h 30 (h 6 21))) + (h 29 (h 6 20))))] [vI (-1), vI (h 26 ((10 * (h 30 (h 6 21))) + (h 29 (h 6 20))))] h _
    refine ⟨by have := c15; omega, c15, ?_⟩
    refine X_icmp (L := L_73) (n' := 29) rfl rfl rfl rfl (fun z16 => ?_) (fun z16 => ?_)
    · have z16 : ¬ h 26 ((10 * (h 30 (h 6 21))) + (h 29 (h 6 20))) = (-1) := z16
      replace H := H.1 z16
      show X 73 29 [vR 6, vI (h 26 ((10 * (h 30 (h 6 21))) + (h 29 (h 6 20))))] [] h _
      refine X_b 2 31 (L := L_73) rfl rfl rfl ?_
      show X 73 31 [vR 6, vI (h 26 ((10 * (h 30 (h 6 21))) + (h 29 (h 6 20))))] [vI 100, vI (h 26 ((10 * (h 30 (h 6 21))) + (h 29 (h 6 20))))] h _
      refine X_icmp (L := L_73) (n' := 36) rfl rfl rfl rfl (fun z17 => ?_) (fun z17 => ?_)
      · have z17 : 100 ≤ h 26 ((10 * (h 30 (h 6 21))) + (h 29 (h 6 20))) := z17
        replace H := H.1 z17
        show X 73 36 [vR 6, vI (h 26 ((10 * (h 30 (h 6 21))) + (h 29 (h 6 20))))] [] h _
        refine X_b 2 38 (L := L_73) rfl rfl rfl ?_
        show X 73 38 [vR 6, vI (h 26 ((10 * (h 30 (h 6 21))) + (h 29 (h 6 20))))] [vI 200, vI (h 26 ((10 * (h 30 (h 6 21))) + (h 29 (h 6 20))))] h _
        refine X_icmp (L := L_73) (n' := 45) rfl rfl rfl rfl (fun z18 => ?_) (fun z18 => ?_)
        · have z18 : 200 ≤ h 26 ((10 * (h 30 (h 6 21))) + (h 29 (h 6 20))) := z18
          replace H := H.1 z18
          show X 73 45 [vR 6, vI (h 26 ((10 * (h 30 (h 6 21))) + (h 29 (h 6 20))))] [] h _
          refine X_b 3 48 (L := L_73) rfl rfl rfl ?_
          show X 73 48 [vR 6, vI (h 26 ((10 * (h 30 (h 6 21))) + (h 29 (h 6 20))))] [vI 1, vI (h 6 21)] h _
          refine X_icmp (L := L_73) (n' := 63) rfl rfl rfl rfl (fun z19 => ?_) (fun z19 => ?_)
          · have z19 : ¬ h 6 21 = 1 := z19
            replace H := H.1 z19
            show X 73 63 [vR 6, vI (h 26 ((10 * (h 30 (h 6 21))) + (h 29 (h 6 20))))] [] h _
            refine X_b 1 64 (L := L_73) rfl rfl rfl ?_
            show X 73 64 [vR 6, vI (h 26 ((10 * (h 30 (h 6 21))) + (h 29 (h 6 20))))] [vI 3] h _
            refine X_iret (L := L_73) rfl rfl rfl rfl ?_
            exact H
          · have z19 : h 6 21 = 1 := (Classical.not_not.mp z19)
            replace H := H.2 z19
            show X 73 49 [vR 6, vI (h 26 ((10 * (h 30 (h 6 21))) + (h 29 (h 6 20))))] [] h _
            obtain ⟨c20, H⟩ := H
            refine X_b 11 60 (L := L_73) rfl rfl rfl ?_
            show (0 ≤ (1 : Int) ∧ (1 : Int) < 61) ∧ (0 ≤ h 31 1 ∧ h 31 1 < 60) ∧ (0 ≤ (0 : Int) ∧ (0 : Int) < 8) ∧ X 73 60 [vR 6, vI (h 26 ((10 * (h 30 (h 6 21))) + (h 29 (h 6 20))))] [vI (h 20 0), vI (h 32 (h 31 1))] h _
            refine ⟨by decide, c20, by decide, ?_⟩
            refine X_icmp (L := L_73) (n' := 63) rfl rfl rfl rfl (fun z21 => ?_) (fun z21 => ?_)
            · have z21 : ¬ h 32 (h 31 1) = h 20 0 := z21
              replace H := H.1 z21
              show X 73 63 [vR 6, vI (h 26 ((10 * (h 30 (h 6 21))) + (h 29 (h 6 20))))] [] h _
              refine X_b 1 64 (L := L_73) rfl rfl rfl ?_
              show X 73 64 [vR 6, vI (h 26 ((10 * (h 30 (h 6 21))) + (h 29 (h 6 20))))] [vI 3] h _
              refine X_iret (L := L_73) rfl rfl rfl rfl ?_
              exact H
            · have z21 : h 32 (h 31 1) = h 20 0 := (Classical.not_not.mp z21)
              replace H := H.2 z21
              show X 73 61 [vR 6, vI (h 26 ((10 * (h 30 (h 6 21))) + (h 29 (h 6 20))))] [] h _
              refine X_b 1 62 (L := L_73) rfl rfl rfl ?_
              show X 73 62 [vR 6, vI (h 26 ((10 * (h 30 (h 6 21))) + (h 29 (h 6 20))))] [vI 1] h _
              refine X_goto (L := L_73) (n' := 64) rfl rfl rfl rfl ?_
              show X 73 64 [vR 6, vI (h 26 ((10 * (h 30 (h 6 21))) + (h 29 (h 6 20))))] [vI 1] h _
              refine X_iret (L := L_73) rfl rfl rfl rfl ?_
              exact H
        · have z18 : h 26 ((10 * (h 30 (h 6 21))) + (h 29 (h 6 20))) < 200 := (Int.not_le.mp z18)
          replace H := H.2 z18
          show X 73 39 [vR 6, vI (h 26 ((10 * (h 30 (h 6 21))) + (h 29 (h 6 20))))] [] h _
          obtain ⟨c22, H⟩ := H
          refine X_b 4 43 (L := L_73) rfl rfl rfl ?_
          show (-2147483648 ≤ (h 26 ((10 * (h 30 (h 6 21))) + (h 29 (h 6 20)))) - 100 ∧ (h 26 ((10 * (h 30 (h 6 21))) + (h 29 (h 6 20)))) - 100 ≤ 2147483647) ∧ X 73 43 [vR 6, vI (h 26 ((10 * (h 30 (h 6 21))) + (h 29 (h 6 20))))] [vI ((h 26 ((10 * (h 30 (h 6 21))) + (h 29 (h 6 20)))) - 100), vR 6] h _
          refine ⟨c22, ?_⟩
          refine X_call 72 [vR 6, vI ((h 26 ((10 * (h 30 (h 6 21))) + (h 29 (h 6 20)))) - 100)] [] rfl (sg_calv rfl rfl rfl rfl rfl rfl rfl rfl rfl rfl rfl) (by decide) ?_
          refine C_mono H (kI_to ?_)
          intro v23 h23 H
          show X 73 44 [vR 6, vI (h 26 ((10 * (h 30 (h 6 21))) + (h 29 (h 6 20))))] [vI v23] h23 _
          refine X_iret (L := L_73) rfl rfl rfl rfl ?_
          exact H
      · have z17 : h 26 ((10 * (h 30 (h 6 21))) + (h 29 (h 6 20))) < 100 := (Int.not_le.mp z17)
        replace H := H.2 z17
        show X 73 32 [vR 6, vI (h 26 ((10 * (h 30 (h 6 21))) + (h 29 (h 6 20))))] [] h _
        refine X_b 2 34 (L := L_73) rfl rfl rfl ?_
        show X 73 34 [vR 6, vI (h 26 ((10 * (h 30 (h 6 21))) + (h 29 (h 6 20))))] [vI (h 26 ((10 * (h 30 (h 6 21))) + (h 29 (h 6 20)))), vR 6] h _
        refine X_call 71 [vR 6, vI (h 26 ((10 * (h 30 (h 6 21))) + (h 29 (h 6 20))))] [] rfl (sg_calv rfl rfl rfl rfl rfl rfl rfl rfl rfl rfl rfl) (by decide) ?_
        refine C_mono H (kI_to ?_)
        intro v24 h24 H
        show X 73 35 [vR 6, vI (h 26 ((10 * (h 30 (h 6 21))) + (h 29 (h 6 20))))] [vI v24] h24 _
        refine X_iret (L := L_73) rfl rfl rfl rfl ?_
        exact H
    · have z16 : h 26 ((10 * (h 30 (h 6 21))) + (h 29 (h 6 20))) = (-1) := (Classical.not_not.mp z16)
      replace H := H.2 z16
      show X 73 27 [vR 6, vI (h 26 ((10 * (h 30 (h 6 21))) + (h 29 (h 6 20))))] [] h _
      refine X_b 1 28 (L := L_73) rfl rfl rfl ?_
      show X 73 28 [vR 6, vI (h 26 ((10 * (h 30 (h 6 21))) + (h 29 (h 6 20))))] [vI 2] h _
      refine X_iret (L := L_73) rfl rfl rfl rfl ?_
      exact H

/-- PPModel.parse, row 0 -/
theorem s_74_0 (x1 : Int) (h : ab_S) (K : ab_O → ab_S → Prop) (H : ((¬ h 6 7 = 0 → ((x1 < 0 → K (oI 0) (ab_up (ab_up h 6 0 0) 6 0 2)) ∧ (0 ≤ x1 → ((x1 ≤ 400 → X 74 40 [vR 6, vI x1, vI 0, vI 0] [] (ab_up (ab_up (ab_up (ab_up (ab_up (ab_up h 6 0 0) 6 19 1) 6 22 0) 6 20 0) 6 21 0) 30 0 0) K) ∧ (400 < x1 → K (oI 0) (ab_up (ab_up h 6 0 0) 6 0 2)))))) ∧ (h 6 7 = 0 → K (oI 0) (ab_up (ab_up h 6 0 0) 6 0 1)))) : C 74 [vR 6, vI x1] h K := by
  show X 74 0 [vR 6, vI x1, vJ 0, vJ 0] [] h K
  refine X_b 5 5 (L := L_74) rfl rfl rfl ?_
  show X 74 5 [vR 6, vI x1, vJ 0, vJ 0] [vI (h 6 7)] (ab_up h 6 0 0) _
  refine X_if (L := L_74) (n' := 10) rfl rfl rfl rfl (fun z1 => ?_) (fun z1 => ?_)
  · have z1 : ¬ h 6 7 = 0 := z1
    replace H := H.1 z1
    show X 74 10 [vR 6, vI x1, vJ 0, vJ 0] [] (ab_up h 6 0 0) _
    refine X_b 1 11 (L := L_74) rfl rfl rfl ?_
    show X 74 11 [vR 6, vI x1, vJ 0, vJ 0] [vI x1] (ab_up h 6 0 0) _
    refine X_if (L := L_74) (n' := 15) rfl rfl rfl rfl (fun z2 => ?_) (fun z2 => ?_)
    · have z2 : x1 < 0 := z2
      replace H := H.1 z2
      show X 74 15 [vR 6, vI x1, vJ 0, vJ 0] [] (ab_up h 6 0 0) _
      refine X_b 2 17 (L := L_74) rfl rfl rfl ?_
      show X 74 17 [vR 6, vI x1, vJ 0, vJ 0] [vI 2, vR 6] (ab_up h 6 0 0) _
      refine X_call 29 [vR 6, vI 2] [] rfl (sg_calv rfl rfl rfl rfl rfl rfl rfl rfl rfl rfl rfl) (by decide) ?_
      show X 29 0 [vR 6, vI 2] [] (ab_up h 6 0 0) _
      refine X_b 4 4 (L := L_29) rfl rfl rfl ?_
      show X 29 4 [vR 6, vI 2] [vI 0] (ab_up (ab_up h 6 0 0) 6 0 2) _
      refine X_iret (L := L_29) rfl rfl rfl rfl ?_
      show X 74 18 [vR 6, vI x1, vJ 0, vJ 0] [vI 0] (ab_up (ab_up h 6 0 0) 6 0 2) _
      refine X_iret (L := L_74) rfl rfl rfl rfl ?_
      exact H
    · have z2 : 0 ≤ x1 := (Int.not_lt.mp z2)
      replace H := H.2 z2
      show X 74 12 [vR 6, vI x1, vJ 0, vJ 0] [] (ab_up h 6 0 0) _
      refine X_b 2 14 (L := L_74) rfl rfl rfl ?_
      show X 74 14 [vR 6, vI x1, vJ 0, vJ 0] [vI 400, vI x1] (ab_up h 6 0 0) _
      refine X_icmp (L := L_74) (n' := 19) rfl rfl rfl rfl (fun z3 => ?_) (fun z3 => ?_)
      · have z3 : x1 ≤ 400 := z3
        replace H := H.1 z3
        show X 74 19 [vR 6, vI x1, vJ 0, vJ 0] [] (ab_up h 6 0 0) _
        refine X_b 21 40 (L := L_74) rfl rfl rfl ?_
        show ((1 : Int) = 0 ∨ (1 : Int) = 1) ∧ (0 ≤ (0 : Int) ∧ (0 : Int) < 61) ∧ X 74 40 [vR 6, vI x1, vI 0, vI 0] [] (ab_up (ab_up (ab_up (ab_up (ab_up (ab_up h 6 0 0) 6 19 1) 6 22 0) 6 20 0) 6 21 0) 30 0 0) _
        refine ⟨by decide, by decide, ?_⟩
        exact H
      · have z3 : 400 < x1 := (Int.not_le.mp z3)
        replace H := H.2 z3
        show X 74 15 [vR 6, vI x1, vJ 0, vJ 0] [] (ab_up h 6 0 0) _
        refine X_b 2 17 (L := L_74) rfl rfl rfl ?_
        show X 74 17 [vR 6, vI x1, vJ 0, vJ 0] [vI 2, vR 6] (ab_up h 6 0 0) _
        refine X_call 29 [vR 6, vI 2] [] rfl (sg_calv rfl rfl rfl rfl rfl rfl rfl rfl rfl rfl rfl) (by decide) ?_
        show X 29 0 [vR 6, vI 2] [] (ab_up h 6 0 0) _
        refine X_b 4 4 (L := L_29) rfl rfl rfl ?_
        show X 29 4 [vR 6, vI 2] [vI 0] (ab_up (ab_up h 6 0 0) 6 0 2) _
        refine X_iret (L := L_29) rfl rfl rfl rfl ?_
        show X 74 18 [vR 6, vI x1, vJ 0, vJ 0] [vI 0] (ab_up (ab_up h 6 0 0) 6 0 2) _
        refine X_iret (L := L_74) rfl rfl rfl rfl ?_
        exact H
  · have z1 : h 6 7 = 0 := (Classical.not_not.mp z1)
    replace H := H.2 z1
    show X 74 6 [vR 6, vI x1, vJ 0, vJ 0] [] (ab_up h 6 0 0) _
    refine X_b 2 8 (L := L_74) rfl rfl rfl ?_
    show X 74 8 [vR 6, vI x1, vJ 0, vJ 0] [vI 1, vR 6] (ab_up h 6 0 0) _
    refine X_call 29 [vR 6, vI 1] [] rfl (sg_calv rfl rfl rfl rfl rfl rfl rfl rfl rfl rfl rfl) (by decide) ?_
    show X 29 0 [vR 6, vI 1] [] (ab_up h 6 0 0) _
    refine X_b 4 4 (L := L_29) rfl rfl rfl ?_
    show X 29 4 [vR 6, vI 1] [vI 0] (ab_up (ab_up h 6 0 0) 6 0 1) _
    refine X_iret (L := L_29) rfl rfl rfl rfl ?_
    show X 74 9 [vR 6, vI x1, vJ 0, vJ 0] [vI 0] (ab_up (ab_up h 6 0 0) 6 0 1) _
    refine X_iret (L := L_74) rfl rfl rfl rfl ?_
    exact H

/-- PPModel.parse, row 40 -/
theorem s_74_40 (x1 x2 x3 : Int) (h : ab_S) (K : ab_O → ab_S → Prop) (H : ((x1 ≤ x3 → K (oI x2) h) ∧ (x3 < x1 → ((¬ x2 = 0 → K (oI x2) h) ∧ (x2 = 0 → C 73 [vR 6] h (kI (fun v3 h3 => ((-2147483648 ≤ x3 + 1 ∧ x3 + 1 ≤ 2147483647)) ∧ X 74 40 [vR 6, vI x1, vI v3, vI (x3 + 1)] [] h3 K))))))) : X 74 40 [vR 6, vI x1, vI x2, vI x3] [] h K := by
  refine X_b 2 42 (L := L_74) rfl rfl rfl ?_
  show X 74 42 [vR 6, vI x1, vI x2, vI x3] [vI x1, vI x3] h _
  refine X_icmp (L := L_74) (n' := 50) rfl rfl rfl rfl (fun z1 => ?_) (fun z1 => ?_)
  · have z1 : x1 ≤ x3 := z1
    replace H := H.1 z1
    show X 74 50 [vR 6, vI x1, vI x2, vI x3] [] h _
    refine X_b 1 51 (L := L_74) rfl rfl rfl ?_
    show X 74 51 [vR 6, vI x1, vI x2, vI x3] [vI x2] h _
    refine X_iret (L := L_74) rfl rfl rfl rfl ?_
    exact H
  · have z1 : x3 < x1 := (Int.not_le.mp z1)
    replace H := H.2 z1
    show X 74 43 [vR 6, vI x1, vI x2, vI x3] [] h _
    refine X_b 1 44 (L := L_74) rfl rfl rfl ?_
    show X 74 44 [vR 6, vI x1, vI x2, vI x3] [vI x2] h _
    refine X_if (L := L_74) (n' := 50) rfl rfl rfl rfl (fun z2 => ?_) (fun z2 => ?_)
    · have z2 : ¬ x2 = 0 := z2
      replace H := H.1 z2
      show X 74 50 [vR 6, vI x1, vI x2, vI x3] [] h _
      refine X_b 1 51 (L := L_74) rfl rfl rfl ?_
      show X 74 51 [vR 6, vI x1, vI x2, vI x3] [vI x2] h _
      refine X_iret (L := L_74) rfl rfl rfl rfl ?_
      exact H
    · have z2 : x2 = 0 := (Classical.not_not.mp z2)
      replace H := H.2 z2
      show X 74 45 [vR 6, vI x1, vI x2, vI x3] [] h _
      refine X_b 1 46 (L := L_74) rfl rfl rfl ?_
      show X 74 46 [vR 6, vI x1, vI x2, vI x3] [vR 6] h _
      refine X_call 73 [vR 6] [] rfl (sg_calv rfl rfl rfl rfl rfl rfl rfl rfl rfl rfl rfl) (by decide) ?_
      refine C_mono H (kI_to ?_)
      intro v3 h3 H
      show X 74 47 [vR 6, vI x1, vI x2, vI x3] [vI v3] h3 _
      obtain ⟨c4, H⟩ := H
      refine X_b 2 49 (L := L_74) rfl rfl rfl ?_
      show (-2147483648 ≤ x3 + 1 ∧ x3 + 1 ≤ 2147483647) ∧ X 74 49 [vR 6, vI x1, vI v3, vI (x3 + 1)] [] h3 _
      refine ⟨c4, ?_⟩
      refine X_goto (L := L_74) (n' := 40) rfl rfl rfl rfl ?_
      show X 74 40 [vR 6, vI x1, vI v3, vI (x3 + 1)] [] h3 _
      exact H

/-- PPModel.nodes, row 0 -/
theorem s_75_0 (h : ab_S) (K : ab_O → ab_S → Prop) (H : K (oI (h 6 22)) (ab_up h 6 0 0)) : C 75 [vR 6] h K := by
  show X 75 0 [vR 6] [] h K
  refine X_b 5 5 (L := L_75) rfl rfl rfl ?_
  show X 75 5 [vR 6] [vI (h 6 22)] (ab_up h 6 0 0) _
  refine X_iret (L := L_75) rfl rfl rfl rfl ?_
  exact H

/-- PPModel.node, row 0 -/
theorem s_76_0 (x1 x2 : Int) (h : ab_S) (K : ab_O → ab_S → Prop) (H : ((x1 < 0 → K (oI 0) (ab_up (ab_up h 6 0 0) 6 0 1)) ∧ (0 ≤ x1 → ((x1 < h 6 22 → ((x2 = 0 → ((0 ≤ x1 ∧ x1 < 60)) ∧ K (oI (h 32 x1)) (ab_up h 6 0 0)) ∧ (x2 = 1 → ((0 ≤ x1 ∧ x1 < 60)) ∧ K (oI (h 33 x1)) (ab_up h 6 0 0)) ∧ (x2 = 2 → ((0 ≤ x1 ∧ x1 < 60)) ∧ K (oI (h 34 x1)) (ab_up h 6 0 0)) ∧ (x2 = 3 → ((0 ≤ x1 ∧ x1 < 60)) ∧ K (oI (h 35 x1)) (ab_up h 6 0 0)) ∧ (x2 = 4 → ((0 ≤ x1 ∧ x1 < 60)) ∧ K (oI (h 36 x1)) (ab_up h 6 0 0)) ∧ ((x2 < 0 ∨ 4 < x2) → K (oI 0) (ab_up (ab_up h 6 0 0) 6 0 2)))) ∧ (h 6 22 ≤ x1 → K (oI 0) (ab_up (ab_up h 6 0 0) 6 0 1)))))) : C 76 [vR 6, vI x1, vI x2] h K := by
  show X 76 0 [vR 6, vI x1, vI x2] [] h K
  refine X_b 4 4 (L := L_76) rfl rfl rfl ?_
  show X 76 4 [vR 6, vI x1, vI x2] [vI x1] (ab_up h 6 0 0) _
  refine X_if (L := L_76) (n' := 9) rfl rfl rfl rfl (fun z1 => ?_) (fun z1 => ?_)
  · have z1 : x1 < 0 := z1
    replace H := H.1 z1
    show X 76 9 [vR 6, vI x1, vI x2] [] (ab_up h 6 0 0) _
    refine X_b 2 11 (L := L_76) rfl rfl rfl ?_
    show X 76 11 [vR 6, vI x1, vI x2] [vI 1, vR 6] (ab_up h 6 0 0) _
    refine X_call 29 [vR 6, vI 1] [] rfl (sg_calv rfl rfl rfl rfl rfl rfl rfl rfl rfl rfl rfl) (by decide) ?_
    show X 29 0 [vR 6, vI 1] [] (ab_up h 6 0 0) _
    refine X_b 4 4 (L := L_29) rfl rfl rfl ?_
    show X 29 4 [vR 6, vI 1] [vI 0] (ab_up (ab_up h 6 0 0) 6 0 1) _
    refine X_iret (L := L_29) rfl rfl rfl rfl ?_
    show X 76 12 [vR 6, vI x1, vI x2] [vI 0] (ab_up (ab_up h 6 0 0) 6 0 1) _
    refine X_iret (L := L_76) rfl rfl rfl rfl ?_
    exact H
  · have z1 : 0 ≤ x1 := (Int.not_lt.mp z1)
    replace H := H.2 z1
    show X 76 5 [vR 6, vI x1, vI x2] [] (ab_up h 6 0 0) _
    refine X_b 3 8 (L := L_76) rfl rfl rfl ?_
    show X 76 8 [vR 6, vI x1, vI x2] [vI (h 6 22), vI x1] (ab_up h 6 0 0) _
    refine X_icmp (L := L_76) (n' := 13) rfl rfl rfl rfl (fun z2 => ?_) (fun z2 => ?_)
    · have z2 : x1 < h 6 22 := z2
      replace H := H.1 z2
      show X 76 13 [vR 6, vI x1, vI x2] [] (ab_up h 6 0 0) _
      refine X_b 1 14 (L := L_76) rfl rfl rfl ?_
      show X 76 14 [vR 6, vI x1, vI x2] [vI x2] (ab_up h 6 0 0) _
      rcases (show x2 = 0 ∨ x2 = 1 ∨ x2 = 2 ∨ x2 = 3 ∨ x2 = 4 ∨ (x2 < 0 ∨ 4 < x2) by omega) with z3 | z3 | z3 | z3 | z3 | z3
      · replace H := H.1 z3
        refine X_sw (L := L_76) (n' := 15) rfl rfl rfl (by rw [z3]; rfl) ?_
        show X 76 15 [vR 6, vI x1, vI x2] [] (ab_up h 6 0 0) _
        obtain ⟨c4, H⟩ := H
        refine X_b 4 19 (L := L_76) rfl rfl rfl ?_
        show (0 ≤ x1 ∧ x1 < 60) ∧ X 76 19 [vR 6, vI x1, vI x2] [vI (h 32 x1)] (ab_up h 6 0 0) _
        refine ⟨c4, ?_⟩
        refine X_iret (L := L_76) rfl rfl rfl rfl ?_
        exact H
      · replace H := H.2.1 z3
        refine X_sw (L := L_76) (n' := 20) rfl rfl rfl (by rw [z3]; rfl) ?_
        show X 76 20 [vR 6, vI x1, vI x2] [] (ab_up h 6 0 0) _
        obtain ⟨c5, H⟩ := H
        refine X_b 4 24 (L := L_76) rfl rfl rfl ?_
        show (0 ≤ x1 ∧ x1 < 60) ∧ X 76 24 [vR 6, vI x1, vI x2] [vI (h 33 x1)] (ab_up h 6 0 0) _
        refine ⟨c5, ?_⟩
        refine X_iret (L := L_76) rfl rfl rfl rfl ?_
        exact H
      · replace H := H.2.2.1 z3
        refine X_sw (L := L_76) (n' := 25) rfl rfl rfl (by rw [z3]; rfl) ?_
        show X 76 25 [vR 6, vI x1, vI x2] [] (ab_up h 6 0 0) _
        obtain ⟨c6, H⟩ := H
        refine X_b 4 29 (L := L_76) rfl rfl rfl ?_
        show (0 ≤ x1 ∧ x1 < 60) ∧ X 76 29 [vR 6, vI x1, vI x2] [vI (h 34 x1)] (ab_up h 6 0 0) _
        refine ⟨c6, ?_⟩
        refine X_iret (L := L_76) rfl rfl rfl rfl ?_
        exact H
      · replace H := H.2.2.2.1 z3
        refine X_sw (L := L_76) (n' := 30) rfl rfl rfl (by rw [z3]; rfl) ?_
        show X 76 30 [vR 6, vI x1, vI x2] [] (ab_up h 6 0 0) _
        obtain ⟨c7, H⟩ := H
        refine X_b 4 34 (L := L_76) rfl rfl rfl ?_
        show (0 ≤ x1 ∧ x1 < 60) ∧ X 76 34 [vR 6, vI x1, vI x2] [vI (h 35 x1)] (ab_up h 6 0 0) _
        refine ⟨c7, ?_⟩
        refine X_iret (L := L_76) rfl rfl rfl rfl ?_
        exact H
      · replace H := H.2.2.2.2.1 z3
        refine X_sw (L := L_76) (n' := 35) rfl rfl rfl (by rw [z3]; rfl) ?_
        show X 76 35 [vR 6, vI x1, vI x2] [] (ab_up h 6 0 0) _
        obtain ⟨c8, H⟩ := H
        refine X_b 4 39 (L := L_76) rfl rfl rfl ?_
        show (0 ≤ x1 ∧ x1 < 60) ∧ X 76 39 [vR 6, vI x1, vI x2] [vI (h 36 x1)] (ab_up h 6 0 0) _
        refine ⟨c8, ?_⟩
        refine X_iret (L := L_76) rfl rfl rfl rfl ?_
        exact H
      · replace H := H.2.2.2.2.2 z3
        refine X_sw (L := L_76) (n' := 40) rfl rfl rfl (by unfold ab_swt; rw [if_pos z3]) ?_
        show X 76 40 [vR 6, vI x1, vI x2] [] (ab_up h 6 0 0) _
        refine X_b 2 42 (L := L_76) rfl rfl rfl ?_
        show X 76 42 [vR 6, vI x1, vI x2] [vI 2, vR 6] (ab_up h 6 0 0) _
        refine X_call 29 [vR 6, vI 2] [] rfl (sg_calv rfl rfl rfl rfl rfl rfl rfl rfl rfl rfl rfl) (by decide) ?_
        show X 29 0 [vR 6, vI 2] [] (ab_up h 6 0 0) _
        refine X_b 4 4 (L := L_29) rfl rfl rfl ?_
        show X 29 4 [vR 6, vI 2] [vI 0] (ab_up (ab_up h 6 0 0) 6 0 2) _
        refine X_iret (L := L_29) rfl rfl rfl rfl ?_
        show X 76 43 [vR 6, vI x1, vI x2] [vI 0] (ab_up (ab_up h 6 0 0) 6 0 2) _
        refine X_iret (L := L_76) rfl rfl rfl rfl ?_
        exact H
    · have z2 : h 6 22 ≤ x1 := (Int.not_lt.mp z2)
      replace H := H.2 z2
      show X 76 9 [vR 6, vI x1, vI x2] [] (ab_up h 6 0 0) _
      refine X_b 2 11 (L := L_76) rfl rfl rfl ?_
      show X 76 11 [vR 6, vI x1, vI x2] [vI 1, vR 6] (ab_up h 6 0 0) _
      refine X_call 29 [vR 6, vI 1] [] rfl (sg_calv rfl rfl rfl rfl rfl rfl rfl rfl rfl rfl rfl) (by decide) ?_
      show X 29 0 [vR 6, vI 1] [] (ab_up h 6 0 0) _
      refine X_b 4 4 (L := L_29) rfl rfl rfl ?_
      show X 29 4 [vR 6, vI 1] [vI 0] (ab_up (ab_up h 6 0 0) 6 0 1) _
      refine X_iret (L := L_29) rfl rfl rfl rfl ?_
      show X 76 12 [vR 6, vI x1, vI x2] [vI 0] (ab_up (ab_up h 6 0 0) 6 0 1) _
      refine X_iret (L := L_76) rfl rfl rfl rfl ?_
      exact H

/-- PPModel.depth, row 0 -/
theorem s_77_0 (h : ab_S) (K : ab_O → ab_S → Prop) (H : ((h 6 19 = 0 → K (oI 0) (ab_up h 6 0 0)) ∧ (¬ h 6 19 = 0 → ((-2147483648 ≤ (h 6 21) + 1 ∧ (h 6 21) + 1 ≤ 2147483647)) ∧ K (oI ((h 6 21) + 1)) (ab_up h 6 0 0)))) : C 77 [vR 6] h K := by
  show X 77 0 [vR 6] [] h K
  refine X_b 5 5 (L := L_77) rfl rfl rfl ?_
  show X 77 5 [vR 6] [vI (h 6 19)] (ab_up h 6 0 0) _
  refine X_if (L := L_77) (n' := 11) rfl rfl rfl rfl (fun z1 => ?_) (fun z1 => ?_)
  · have z1 : h 6 19 = 0 := z1
    replace H := H.1 z1
    show X 77 11 [vR 6] [] (ab_up h 6 0 0) _
    refine X_b 1 12 (L := L_77) rfl rfl rfl ?_
    show X 77 12 [vR 6] [vI 0] (ab_up h 6 0 0) _
    refine X_iret (L := L_77) rfl rfl rfl rfl ?_
    exact H
  · have z1 : ¬ h 6 19 = 0 := z1
    replace H := H.2 z1
    show X 77 6 [vR 6] [] (ab_up h 6 0 0) _
    obtain ⟨c2, H⟩ := H
    refine X_b 4 10 (L := L_77) rfl rfl rfl ?_
    show (-2147483648 ≤ (h 6 21) + 1 ∧ (h 6 21) + 1 ≤ 2147483647) ∧ X 77 10 [vR 6] [vI ((h 6 21) + 1)] (ab_up h 6 0 0) _
    refine ⟨c2, ?_⟩
    refine X_goto (L := L_77) (n' := 12) rfl rfl rfl rfl ?_
    show X 77 12 [vR 6] [vI ((h 6 21) + 1)] (ab_up h 6 0 0) _
    refine X_iret (L := L_77) rfl rfl rfl rfl ?_
    exact H

/-- java/util/Arrays.fill, row 0 -/
theorem s_137_0 (x1 : Int) (h : ab_S) (K : ab_O → ab_S → Prop) (H : X 137 5 [vR 14, vI x1, vI 0, vI 45] [] h K) : C 137 [vR 14, vI x1] h K := by
  show X 137 0 [vR 14, vI x1, vJ 0, vJ 0] [] h K
  refine X_b 5 5 (L := L_137) rfl rfl rfl ?_
  show (14 < 39) ∧ (ab_ty 14 < 3) ∧ X 137 5 [vR 14, vI x1, vI 0, vI 45] [] h _
  refine ⟨Nat.lt_of_lt_of_le (Nat.lt_succ_self _) (Nat.le_of_ble_eq_true rfl), Nat.lt_of_lt_of_le (Nat.lt_succ_self _) (Nat.le_of_ble_eq_true rfl), ?_⟩
  exact H

/-- java/util/Arrays.fill, row 5 -/
theorem s_137_5 (x1 x2 x3 : Int) (h : ab_S) (K : ab_O → ab_S → Prop) (H : ((x3 ≤ x2 → K oV h) ∧ (x2 < x3 → ((0 ≤ x2 ∧ x2 < 45) ∧ (-2147483648 ≤ x2 + 1 ∧ x2 + 1 ≤ 2147483647)) ∧ X 137 5 [vR 14, vI x1, vI (x2 + 1), vI x3] [] (ab_up h 14 x2 x1) K))) : X 137 5 [vR 14, vI x1, vI x2, vI x3] [] h K := by
  refine X_b 2 7 (L := L_137) rfl rfl rfl ?_
  show X 137 7 [vR 14, vI x1, vI x2, vI x3] [vI x3, vI x2] h _
  refine X_icmp (L := L_137) (n' := 14) rfl rfl rfl rfl (fun z1 => ?_) (fun z1 => ?_)
  · have z1 : x3 ≤ x2 := z1
    replace H := H.1 z1
    show X 137 14 [vR 14, vI x1, vI x2, vI x3] [] h _
    refine X_ret (L := L_137) rfl rfl rfl rfl ?_
    exact H
  · have z1 : x2 < x3 := (Int.not_le.mp z1)
    replace H := H.2 z1
    show X 137 8 [vR 14, vI x1, vI x2, vI x3] [] h _
    obtain ⟨⟨c2, c3⟩, H⟩ := H
    refine X_b 5 13 (L := L_137) rfl rfl rfl ?_
    show (0 ≤ x2 ∧ x2 < 45) ∧ (-2147483648 ≤ x2 + 1 ∧ x2 + 1 ≤ 2147483647) ∧ X 137 13 [vR 14, vI x1, vI (x2 + 1), vI x3] [] (ab_up h 14 x2 x1) _
    refine ⟨c2, c3, ?_⟩
    refine X_goto (L := L_137) (n' := 5) rfl rfl rfl rfl ?_
    show X 137 5 [vR 14, vI x1, vI (x2 + 1), vI x3] [] (ab_up h 14 x2 x1) _
    exact H
end Seg
