/-! By program (wip/gen/seg.py): stretches of methods as formulas. -/
section Seg
/-- PPLaw.rule, row 0 -/
theorem s_127_0 (x1 : Int) (h : ab_S) (K : ab_O → ab_S → Prop) (H : C 106 [vI x1] h (kI (fun v1 h1 => ((¬ v1 = 0 → ((h1 1 0 < 8 → C 107 [vR 1, vI x1] (ab_up (ab_up (ab_up (ab_up (ab_up (ab_up (ab_up h1 2 0 0) 15 0 (-1)) 15 1 (-1)) 15 2 (-1)) 15 3 (-1)) 5 7 0) 5 9 0) (kI (fun v4 h4 => ((-2147483648 ≤ v4 ∧ v4 ≤ 2147483647)) ∧ K (oI 0) (ab_up h4 37 0 v4)))) ∧ (8 ≤ h1 1 0 → K (oI 2) (ab_up h1 39 0 ((h1 39 0) + 1))))) ∧ (v1 = 0 → K (oI 1) (ab_up h1 39 0 ((h1 39 0) + 1))))))) : C 127 [vR 0, vI x1, vR 37] h K := by
  show X 127 0 [vR 0, vI x1, vR 37, vJ 0] [] h K
  refine X_b 4 4 (L := L_127) rfl rfl rfl ?_
  show X 127 4 [vR 0, vI x1, vR 37, vJ 0] [vI x1, vR 0, vI 0, vR 37] h _
  refine X_callH 0 [vR 0, vI x1] [vI 0, vR 37] rfl (sg_calv rfl rfl rfl rfl rfl rfl rfl rfl rfl rfl rfl) ?_
  show X 0 0 [vR 0, vI x1] [] h _
  refine X_b 1 1 (L := L_0) rfl rfl rfl ?_
  show X 0 1 [vR 0, vI x1] [vI x1] h _
  refine X_call 106 [vI x1] [] rfl (sg_cals rfl rfl rfl rfl rfl rfl rfl rfl rfl rfl) (by decide) ?_
  refine C_mono H (kI_to ?_)
  intro v1 h1 H
  show X 0 2 [vR 0, vI x1] [vI v1] h1 _
  refine X_if (L := L_0) (n' := 8) rfl rfl rfl rfl (fun z2 => ?_) (fun z2 => ?_)
  · have z2 : ¬ v1 = 0 := z2
    replace H := H.1 z2
    show X 0 8 [vR 0, vI x1] [] h1 _
    refine X_b 4 12 (L := L_0) rfl rfl rfl ?_
    show X 0 12 [vR 0, vI x1] [vI 8, vI (h1 1 0)] h1 _
    refine X_icmp (L := L_0) (n' := 18) rfl rfl rfl rfl (fun z3 => ?_) (fun z3 => ?_)
    · have z3 : h1 1 0 < 8 := z3
      replace H := H.1 z3
      show X 0 18 [vR 0, vI x1] [] h1 _
      refine X_b 1 19 (L := L_0) rfl rfl rfl ?_
      show X 0 19 [vR 0, vI x1] [vR 0] h1 _
      refine X_call 16 [vR 0] [] rfl (sg_calv rfl rfl rfl rfl rfl rfl rfl rfl rfl rfl rfl) (by decide) ?_
      show X 16 0 [vR 0] [] h1 _
      refine X_b 6 6 (L := L_16) rfl rfl rfl ?_
      show X 16 6 [vR 0] [vR 4] (ab_up h1 2 0 0) _
      refine X_call 92 [vR 4] [] rfl (sg_calv rfl rfl rfl rfl rfl rfl rfl rfl rfl rfl rfl) (by decide) ?_
      show X 92 0 [vR 4] [] (ab_up h1 2 0 0) _
      refine X_b 5 5 (L := L_92) rfl rfl rfl ?_
      show X 92 5 [vR 4] [vI (-1), vI (-1), vI (-1), vI (-1), vR 4] (ab_up h1 2 0 0) _
      refine X_call 93 [vR 4, vI (-1), vI (-1), vI (-1), vI (-1)] [] rfl (sg_calv rfl rfl rfl rfl rfl rfl rfl rfl rfl rfl rfl) (by decide) ?_
      show X 93 0 [vR 4, vI (-1), vI (-1), vI (-1), vI (-1)] [] (ab_up h1 2 0 0) _
      refine X_b 20 20 (L := L_93) rfl rfl rfl ?_
      show (0 ≤ (0 : Int) ∧ (0 : Int) < 4) ∧ (0 ≤ (1 : Int) ∧ (1 : Int) < 4) ∧ (0 ≤ (2 : Int) ∧ (2 : Int) < 4) ∧ (0 ≤ (3 : Int) ∧ (3 : Int) < 4) ∧ X 93 20 [vR 4, vI (-1), vI (-1), vI (-1), vI (-1)] [] (ab_up (ab_up (ab_up (ab_up (ab_up h1 2 0 0) 15 0 (-1)) 15 1 (-1)) 15 2 (-1)) 15 3 (-1)) _
      refine ⟨by decide, by decide, by decide, by decide, ?_⟩
      refine X_ret (L := L_93) rfl rfl rfl rfl ?_
      show X 92 6 [vR 4] [] (ab_up (ab_up (ab_up (ab_up (ab_up h1 2 0 0) 15 0 (-1)) 15 1 (-1)) 15 2 (-1)) 15 3 (-1)) _
      refine X_ret (L := L_92) rfl rfl rfl rfl ?_
      show X 16 7 [vR 0] [] (ab_up (ab_up (ab_up (ab_up (ab_up h1 2 0 0) 15 0 (-1)) 15 1 (-1)) 15 2 (-1)) 15 3 (-1)) _
      refine X_b 2 9 (L := L_16) rfl rfl rfl ?_
      show X 16 9 [vR 0] [vR 5] (ab_up (ab_up (ab_up (ab_up (ab_up h1 2 0 0) 15 0 (-1)) 15 1 (-1)) 15 2 (-1)) 15 3 (-1)) _
      refine X_call 116 [vR 5] [] rfl (sg_calv rfl rfl rfl rfl rfl rfl rfl rfl rfl rfl rfl) (by decide) ?_
      show X 116 0 [vR 5] [] (ab_up (ab_up (ab_up (ab_up (ab_up h1 2 0 0) 15 0 (-1)) 15 1 (-1)) 15 2 (-1)) 15 3 (-1)) _
      refine X_b 6 6 (L := L_116) rfl rfl rfl ?_
      show X 116 6 [vR 5] [] (ab_up (ab_up (ab_up (ab_up (ab_up (ab_up (ab_up h1 2 0 0) 15 0 (-1)) 15 1 (-1)) 15 2 (-1)) 15 3 (-1)) 5 7 0) 5 9 0) _
      refine X_ret (L := L_116) rfl rfl rfl rfl ?_
      show X 16 10 [vR 0] [] (ab_up (ab_up (ab_up (ab_up (ab_up (ab_up (ab_up h1 2 0 0) 15 0 (-1)) 15 1 (-1)) 15 2 (-1)) 15 3 (-1)) 5 7 0) 5 9 0) _
      refine X_ret (L := L_16) rfl rfl rfl rfl ?_
      show X 0 20 [vR 0, vI x1] [] (ab_up (ab_up (ab_up (ab_up (ab_up (ab_up (ab_up h1 2 0 0) 15 0 (-1)) 15 1 (-1)) 15 2 (-1)) 15 3 (-1)) 5 7 0) 5 9 0) _
      refine X_b 3 23 (L := L_0) rfl rfl rfl ?_
      show X 0 23 [vR 0, vI x1] [vI x1, vR 1] (ab_up (ab_up (ab_up (ab_up (ab_up (ab_up (ab_up h1 2 0 0) 15 0 (-1)) 15 1 (-1)) 15 2 (-1)) 15 3 (-1)) 5 7 0) 5 9 0) _
      refine X_call 107 [vR 1, vI x1] [] rfl (sg_calv rfl rfl rfl rfl rfl rfl rfl rfl rfl rfl rfl) (by decide) ?_
      refine C_mono H (kI_to ?_)
      intro v4 h4 H
      show X 0 24 [vR 0, vI x1] [vI v4] h4 _
      obtain ⟨c5, H⟩ := H
      refine X_iret (L := L_0) rfl rfl rfl rfl ?_
      show X 127 5 [vR 0, vI x1, vR 37, vJ 0] [vI v4, vI 0, vR 37] h4 _
      refine X_b 2 7 (L := L_127) rfl rfl rfl ?_
      show (0 ≤ (0 : Int) ∧ (0 : Int) < 1) ∧ (-2147483648 ≤ v4 ∧ v4 ≤ 2147483647) ∧ X 127 7 [vR 0, vI x1, vR 37, vJ 0] [] (ab_up h4 37 0 v4) _
      refine ⟨by decide, c5, ?_⟩
      refine X_goto (L := L_127) (n' := 14) rfl rfl rfl rfl ?_
      show X 127 14 [vR 0, vI x1, vR 37, vJ 0] [] (ab_up h4 37 0 v4) _
      refine X_b 1 15 (L := L_127) rfl rfl rfl ?_
      show X 127 15 [vR 0, vI x1, vR 37, vJ 0] [vI 0] (ab_up h4 37 0 v4) _
      refine X_iret (L := L_127) rfl rfl rfl rfl ?_
      exact H
    · have z3 : 8 ≤ h1 1 0 := (Int.not_lt.mp z3)
      replace H := H.2 z3
      show X 0 13 [vR 0, vI x1] [] h1 _
      refine X_thr 1 sg_thr_0_13 rfl (Nat.le_of_ble_eq_true rfl) ?_
      exact ⟨2, by decide, H⟩
  · have z2 : v1 = 0 := (Classical.not_not.mp z2)
    replace H := H.2 z2
    show X 0 3 [vR 0, vI x1] [] h1 _
    refine X_thr 0 sg_thr_0_3 rfl (Nat.le_of_ble_eq_true rfl) ?_
    exact ⟨1, by decide, H⟩

/-- PPLaw.build, row 0 -/
theorem s_128_0 (h : ab_S) (K : ab_O → ab_S → Prop) (H : ((¬ h 1 0 = 0 → C 85 [vR 3] (ab_up (ab_up (ab_up (ab_up (ab_up (ab_up (ab_up h 2 0 0) 15 0 (-1)) 15 1 (-1)) 15 2 (-1)) 15 3 (-1)) 5 7 0) 5 9 0) (kI (fun v2 h2 => ((¬ v2 = 0 → ((-2147483648 ≤ h2 2 0 ∧ h2 2 0 ≤ 2147483647)) ∧ K (oI 0) (ab_up h2 37 0 (h2 2 0))) ∧ (v2 = 0 → K (oI 2) (ab_up (ab_up h2 2 0 0) 39 0 ((h2 39 0) + 1))))))) ∧ (h 1 0 = 0 → K (oI 1) (ab_up h 39 0 ((h 39 0) + 1))))) : C 128 [vR 0, vR 37] h K := by
  show X 128 0 [vR 0, vR 37, vJ 0] [] h K
  refine X_b 3 3 (L := L_128) rfl rfl rfl ?_
  show X 128 3 [vR 0, vR 37, vJ 0] [vR 0, vI 0, vR 37] h _
  refine X_callH 2 [vR 0] [vI 0, vR 37] rfl (sg_calv rfl rfl rfl rfl rfl rfl rfl rfl rfl rfl rfl) ?_
  show X 2 0 [vR 0] [] h _
  refine X_b 3 3 (L := L_2) rfl rfl rfl ?_
  show X 2 3 [vR 0] [vI (h 1 0)] h _
  refine X_if (L := L_2) (n' := 9) rfl rfl rfl rfl (fun z1 => ?_) (fun z1 => ?_)
  · have z1 : ¬ h 1 0 = 0 := z1
    replace H := H.1 z1
    show X 2 9 [vR 0] [] h _
    refine X_b 1 10 (L := L_2) rfl rfl rfl ?_
    show X 2 10 [vR 0] [vR 0] h _
    refine X_call 16 [vR 0] [] rfl (sg_calv rfl rfl rfl rfl rfl rfl rfl rfl rfl rfl rfl) (by decide) ?_
    show X 16 0 [vR 0] [] h _
    refine X_b 6 6 (L := L_16) rfl rfl rfl ?_
    show X 16 6 [vR 0] [vR 4] (ab_up h 2 0 0) _
    refine X_call 92 [vR 4] [] rfl (sg_calv rfl rfl rfl rfl rfl rfl rfl rfl rfl rfl rfl) (by decide) ?_
    show X 92 0 [vR 4] [] (ab_up h 2 0 0) _
    refine X_b 5 5 (L := L_92) rfl rfl rfl ?_
    show X 92 5 [vR 4] [vI (-1), vI (-1), vI (-1), vI (-1), vR 4] (ab_up h 2 0 0) _
    refine X_call 93 [vR 4, vI (-1), vI (-1), vI (-1), vI (-1)] [] rfl (sg_calv rfl rfl rfl rfl rfl rfl rfl rfl rfl rfl rfl) (by decide) ?_
    show X 93 0 [vR 4, vI (-1), vI (-1), vI (-1), vI (-1)] [] (ab_up h 2 0 0) _
    refine X_b 20 20 (L := L_93) rfl rfl rfl ?_
    show (0 ≤ (0 : Int) ∧ (0 : Int) < 4) ∧ (0 ≤ (1 : Int) ∧ (1 : Int) < 4) ∧ (0 ≤ (2 : Int) ∧ (2 : Int) < 4) ∧ (0 ≤ (3 : Int) ∧ (3 : Int) < 4) ∧ X 93 20 [vR 4, vI (-1), vI (-1), vI (-1), vI (-1)] [] (ab_up (ab_up (ab_up (ab_up (ab_up h 2 0 0) 15 0 (-1)) 15 1 (-1)) 15 2 (-1)) 15 3 (-1)) _
    refine ⟨by decide, by decide, by decide, by decide, ?_⟩
    refine X_ret (L := L_93) rfl rfl rfl rfl ?_
    show X 92 6 [vR 4] [] (ab_up (ab_up (ab_up (ab_up (ab_up h 2 0 0) 15 0 (-1)) 15 1 (-1)) 15 2 (-1)) 15 3 (-1)) _
    refine X_ret (L := L_92) rfl rfl rfl rfl ?_
    show X 16 7 [vR 0] [] (ab_up (ab_up (ab_up (ab_up (ab_up h 2 0 0) 15 0 (-1)) 15 1 (-1)) 15 2 (-1)) 15 3 (-1)) _
    refine X_b 2 9 (L := L_16) rfl rfl rfl ?_
    show X 16 9 [vR 0] [vR 5] (ab_up (ab_up (ab_up (ab_up (ab_up h 2 0 0) 15 0 (-1)) 15 1 (-1)) 15 2 (-1)) 15 3 (-1)) _
    refine X_call 116 [vR 5] [] rfl (sg_calv rfl rfl rfl rfl rfl rfl rfl rfl rfl rfl rfl) (by decide) ?_
    show X 116 0 [vR 5] [] (ab_up (ab_up (ab_up (ab_up (ab_up h 2 0 0) 15 0 (-1)) 15 1 (-1)) 15 2 (-1)) 15 3 (-1)) _
    refine X_b 6 6 (L := L_116) rfl rfl rfl ?_
    show X 116 6 [vR 5] [] (ab_up (ab_up (ab_up (ab_up (ab_up (ab_up (ab_up h 2 0 0) 15 0 (-1)) 15 1 (-1)) 15 2 (-1)) 15 3 (-1)) 5 7 0) 5 9 0) _
    refine X_ret (L := L_116) rfl rfl rfl rfl ?_
    show X 16 10 [vR 0] [] (ab_up (ab_up (ab_up (ab_up (ab_up (ab_up (ab_up h 2 0 0) 15 0 (-1)) 15 1 (-1)) 15 2 (-1)) 15 3 (-1)) 5 7 0) 5 9 0) _
    refine X_ret (L := L_16) rfl rfl rfl rfl ?_
    show X 2 11 [vR 0] [] (ab_up (ab_up (ab_up (ab_up (ab_up (ab_up (ab_up h 2 0 0) 15 0 (-1)) 15 1 (-1)) 15 2 (-1)) 15 3 (-1)) 5 7 0) 5 9 0) _
    refine X_b 2 13 (L := L_2) rfl rfl rfl ?_
    show X 2 13 [vR 0] [vR 3] (ab_up (ab_up (ab_up (ab_up (ab_up (ab_up (ab_up h 2 0 0) 15 0 (-1)) 15 1 (-1)) 15 2 (-1)) 15 3 (-1)) 5 7 0) 5 9 0) _
    refine X_call 85 [vR 3] [] rfl (sg_calv rfl rfl rfl rfl rfl rfl rfl rfl rfl rfl rfl) (by decide) ?_
    refine C_mono H (kI_to ?_)
    intro v2 h2 H
    show X 2 14 [vR 0] [vI v2] h2 _
    refine X_if (L := L_2) (n' := 24) rfl rfl rfl rfl (fun z3 => ?_) (fun z3 => ?_)
    · have z3 : ¬ v2 = 0 := z3
      replace H := H.1 z3
      show X 2 24 [vR 0] [] h2 _
      obtain ⟨c4, H⟩ := H
      refine X_b 3 27 (L := L_2) rfl rfl rfl ?_
      show X 2 27 [vR 0] [vI (h2 2 0)] h2 _
      refine X_iret (L := L_2) rfl rfl rfl rfl ?_
      show X 128 4 [vR 0, vR 37, vJ 0] [vI (h2 2 0), vI 0, vR 37] h2 _
      refine X_b 2 6 (L := L_128) rfl rfl rfl ?_
      show (0 ≤ (0 : Int) ∧ (0 : Int) < 1) ∧ (-2147483648 ≤ h2 2 0 ∧ h2 2 0 ≤ 2147483647) ∧ X 128 6 [vR 0, vR 37, vJ 0] [] (ab_up h2 37 0 (h2 2 0)) _
      refine ⟨by decide, c4, ?_⟩
      refine X_goto (L := L_128) (n' := 13) rfl rfl rfl rfl ?_
      show X 128 13 [vR 0, vR 37, vJ 0] [] (ab_up h2 37 0 (h2 2 0)) _
      refine X_b 1 14 (L := L_128) rfl rfl rfl ?_
      show X 128 14 [vR 0, vR 37, vJ 0] [vI 0] (ab_up h2 37 0 (h2 2 0)) _
      refine X_iret (L := L_128) rfl rfl rfl rfl ?_
      exact H
    · have z3 : v2 = 0 := (Classical.not_not.mp z3)
      replace H := H.2 z3
      show X 2 15 [vR 0] [] h2 _
      refine X_b 4 19 (L := L_2) rfl rfl rfl ?_
      show X 2 19 [vR 0] [] (ab_up h2 2 0 0) _
      refine X_thr 3 sg_thr_2_19 rfl (Nat.le_of_ble_eq_true rfl) ?_
      exact ⟨2, by decide, H⟩
  · have z1 : h 1 0 = 0 := (Classical.not_not.mp z1)
    replace H := H.2 z1
    show X 2 4 [vR 0] [] h _
    refine X_thr 1 sg_thr_2_4 rfl (Nat.le_of_ble_eq_true rfl) ?_
    exact ⟨1, by decide, H⟩

/-- PPLaw.entry, row 0 -/
theorem s_129_0 (x1 x2 : Int) (h : ab_S) (K : ab_O → ab_S → Prop) (H : ((x1 < 0 → K (oI 1) (ab_up h 39 0 ((h 39 0) + 1))) ∧ (0 ≤ x1 → ((x1 < h 2 0 → ((x2 < 0 → K (oI 1) (ab_up h 39 0 ((h 39 0) + 1))) ∧ (0 ≤ x2 → ((x2 < 10 → ((-2147483648 ≤ x1 * 10 ∧ x1 * 10 ≤ 2147483647) ∧ (0 ≤ (x1 * 10) + x2 ∧ (x1 * 10) + x2 < 500) ∧ (-2147483648 ≤ h 12 ((x1 * 10) + x2) ∧ h 12 ((x1 * 10) + x2) ≤ 2147483647)) ∧ K (oI 0) (ab_up h 37 0 (h 12 ((x1 * 10) + x2)))) ∧ (10 ≤ x2 → K (oI 1) (ab_up h 39 0 ((h 39 0) + 1))))))) ∧ (h 2 0 ≤ x1 → K (oI 1) (ab_up h 39 0 ((h 39 0) + 1))))))) : C 129 [vR 0, vI x1, vI x2, vR 37] h K := by
  show X 129 0 [vR 0, vI x1, vI x2, vR 37, vJ 0] [] h K
  refine X_b 5 5 (L := L_129) rfl rfl rfl ?_
  show X 129 5 [vR 0, vI x1, vI x2, vR 37, vJ 0] [vI x2, vI x1, vR 0, vI 0, vR 37] h _
  refine X_callH 4 [vR 0, vI x1, vI x2] [vI 0, vR 37] rfl (sg_calv rfl rfl rfl rfl rfl rfl rfl rfl rfl rfl rfl) ?_
  show X 4 0 [vR 0, vI x1, vI x2] [] h _
  refine X_b 3 3 (L := L_4) rfl rfl rfl ?_
  show X 4 3 [vR 0, vI x1, vI x2] [vI x2, vI x1, vR 0] h _
  refine X_call 19 [vR 0, vI x1, vI x2] [] rfl (sg_calv rfl rfl rfl rfl rfl rfl rfl rfl rfl rfl rfl) (by decide) ?_
  show X 19 0 [vR 0, vI x1, vI x2] [] h _
  refine X_b 2 2 (L := L_19) rfl rfl rfl ?_
  show X 19 2 [vR 0, vI x1, vI x2] [vI x1, vR 0] h _
  refine X_call 18 [vR 0, vI x1] [] rfl (sg_calv rfl rfl rfl rfl rfl rfl rfl rfl rfl rfl rfl) (by decide) ?_
  show X 18 0 [vR 0, vI x1] [] h _
  refine X_b 1 1 (L := L_18) rfl rfl rfl ?_
  show X 18 1 [vR 0, vI x1] [vI x1] h _
  refine X_if (L := L_18) (n' := 7) rfl rfl rfl rfl (fun z1 => ?_) (fun z1 => ?_)
  · have z1 : x1 < 0 := z1
    replace H := H.1 z1
    show X 18 7 [vR 0, vI x1] [] h _
    refine X_thr 2 sg_thr_18_7 rfl (Nat.le_of_ble_eq_true rfl) ?_
    exact ⟨1, by decide, H⟩
  · have z1 : 0 ≤ x1 := (Int.not_lt.mp z1)
    replace H := H.2 z1
    show X 18 2 [vR 0, vI x1] [] h _
    refine X_b 4 6 (L := L_18) rfl rfl rfl ?_
    show X 18 6 [vR 0, vI x1] [vI (h 2 0), vI x1] h _
    refine X_icmp (L := L_18) (n' := 12) rfl rfl rfl rfl (fun z2 => ?_) (fun z2 => ?_)
    · have z2 : x1 < h 2 0 := z2
      replace H := H.1 z2
      show X 18 12 [vR 0, vI x1] [] h _
      refine X_ret (L := L_18) rfl rfl rfl rfl ?_
      show X 19 3 [vR 0, vI x1, vI x2] [] h _
      refine X_b 1 4 (L := L_19) rfl rfl rfl ?_
      show X 19 4 [vR 0, vI x1, vI x2] [vI x2] h _
      refine X_if (L := L_19) (n' := 8) rfl rfl rfl rfl (fun z3 => ?_) (fun z3 => ?_)
      · have z3 : x2 < 0 := z3
        replace H := H.1 z3
        show X 19 8 [vR 0, vI x1, vI x2] [] h _
        refine X_thr 2 sg_thr_19_8 rfl (Nat.le_of_ble_eq_true rfl) ?_
        exact ⟨1, by decide, H⟩
      · have z3 : 0 ≤ x2 := (Int.not_lt.mp z3)
        replace H := H.2 z3
        show X 19 5 [vR 0, vI x1, vI x2] [] h _
        refine X_b 2 7 (L := L_19) rfl rfl rfl ?_
        show X 19 7 [vR 0, vI x1, vI x2] [vI 10, vI x2] h _
        refine X_icmp (L := L_19) (n' := 13) rfl rfl rfl rfl (fun z4 => ?_) (fun z4 => ?_)
        · have z4 : x2 < 10 := z4
          replace H := H.1 z4
          show X 19 13 [vR 0, vI x1, vI x2] [] h _
          obtain ⟨⟨c5, c6, c7⟩, H⟩ := H
          refine X_ret (L := L_19) rfl rfl rfl rfl ?_
          show X 4 4 [vR 0, vI x1, vI x2] [] h _
          refine X_b 4 8 (L := L_4) rfl rfl rfl ?_
          show X 4 8 [vR 0, vI x1, vI x2] [vI x2, vI x1, vR 2] h _
          refine X_call 78 [vR 2, vI x1, vI x2] [] rfl (sg_calv rfl rfl rfl rfl rfl rfl rfl rfl rfl rfl rfl) (by decide) ?_
          show X 78 0 [vR 2, vI x1, vI x2] [] h _
          refine X_b 8 8 (L := L_78) rfl rfl rfl ?_
          show (-2147483648 ≤ x1 * 10 ∧ x1 * 10 ≤ 2147483647) ∧ (-2147483648 ≤ (x1 * 10) + x2 ∧ (x1 * 10) + x2 ≤ 2147483647) ∧ (0 ≤ (x1 * 10) + x2 ∧ (x1 * 10) + x2 < 500) ∧ X 78 8 [vR 2, vI x1, vI x2] [vI (h 12 ((x1 * 10) + x2))] h _
          refine ⟨c5, by have := c6; omega, c6, ?_⟩
          refine X_iret (L := L_78) rfl rfl rfl rfl ?_
          show X 4 9 [vR 0, vI x1, vI x2] [vI (h 12 ((x1 * 10) + x2))] h _
          refine X_iret (L := L_4) rfl rfl rfl rfl ?_
          show X 129 6 [vR 0, vI x1, vI x2, vR 37, vJ 0] [vI (h 12 ((x1 * 10) + x2)), vI 0, vR 37] h _
          refine X_b 2 8 (L := L_129) rfl rfl rfl ?_
          show (0 ≤ (0 : Int) ∧ (0 : Int) < 1) ∧ (-2147483648 ≤ h 12 ((x1 * 10) + x2) ∧ h 12 ((x1 * 10) + x2) ≤ 2147483647) ∧ X 129 8 [vR 0, vI x1, vI x2, vR 37, vJ 0] [] (ab_up h 37 0 (h 12 ((x1 * 10) + x2))) _
          refine ⟨by decide, c7, ?_⟩
          refine X_goto (L := L_129) (n' := 12) rfl rfl rfl rfl ?_
          show X 129 12 [vR 0, vI x1, vI x2, vR 37, vJ 0] [] (ab_up h 37 0 (h 12 ((x1 * 10) + x2))) _
          refine X_b 1 13 (L := L_129) rfl rfl rfl ?_
          show X 129 13 [vR 0, vI x1, vI x2, vR 37, vJ 0] [vI 0] (ab_up h 37 0 (h 12 ((x1 * 10) + x2))) _
          refine X_iret (L := L_129) rfl rfl rfl rfl ?_
          exact H
        · have z4 : 10 ≤ x2 := (Int.not_lt.mp z4)
          replace H := H.2 z4
          show X 19 8 [vR 0, vI x1, vI x2] [] h _
          refine X_thr 2 sg_thr_19_8 rfl (Nat.le_of_ble_eq_true rfl) ?_
          exact ⟨1, by decide, H⟩
    · have z2 : h 2 0 ≤ x1 := (Int.not_lt.mp z2)
      replace H := H.2 z2
      show X 18 7 [vR 0, vI x1] [] h _
      refine X_thr 2 sg_thr_18_7 rfl (Nat.le_of_ble_eq_true rfl) ?_
      exact ⟨1, by decide, H⟩

/-- PPLaw.set, row 0 -/
theorem s_130_0 (x1 x2 x3 : Int) (h : ab_S) (K : ab_O → ab_S → Prop) (H : ((x1 < 0 → K (oI 1) (ab_up h 39 0 ((h 39 0) + 1))) ∧ (0 ≤ x1 → ((x1 < h 2 0 → ((x2 < 0 → K (oI 1) (ab_up h 39 0 ((h 39 0) + 1))) ∧ (0 ≤ x2 → ((x2 < 10 → ((x3 = (-1) → ((-2147483648 ≤ x1 * 10 ∧ x1 * 10 ≤ 2147483647) ∧ (0 ≤ (x1 * 10) + x2 ∧ (x1 * 10) + x2 < 500)) ∧ K (oI 0) (ab_up (ab_up (ab_up h 12 ((x1 * 10) + x2) x3) 5 7 0) 5 9 0)) ∧ (¬ x3 = (-1) → ((¬ x3 = 200 → ((x3 < 100 → ((x3 < 0 → K (oI 2) (ab_up h 39 0 ((h 39 0) + 1))) ∧ (0 ≤ x3 → ((h 2 0 ≤ x3 → K (oI 2) (ab_up h 39 0 ((h 39 0) + 1))) ∧ (x3 < h 2 0 → ((-2147483648 ≤ x1 * 10 ∧ x1 * 10 ≤ 2147483647) ∧ (0 ≤ (x1 * 10) + x2 ∧ (x1 * 10) + x2 < 500)) ∧ K (oI 0) (ab_up (ab_up (ab_up h 12 ((x1 * 10) + x2) x3) 5 7 0) 5 9 0)))))) ∧ (100 ≤ x3 → ((-2147483648 ≤ x3 - 100 ∧ x3 - 100 ≤ 2147483647)) ∧ ((h 1 0 < x3 - 100 → K (oI 2) (ab_up h 39 0 ((h 39 0) + 1))) ∧ (x3 - 100 ≤ h 1 0 → ((-2147483648 ≤ x1 * 10 ∧ x1 * 10 ≤ 2147483647) ∧ (0 ≤ (x1 * 10) + x2 ∧ (x1 * 10) + x2 < 500)) ∧ K (oI 0) (ab_up (ab_up (ab_up h 12 ((x1 * 10) + x2) x3) 5 7 0) 5 9 0)))))) ∧ (x3 = 200 → ((-2147483648 ≤ x1 * 10 ∧ x1 * 10 ≤ 2147483647) ∧ (0 ≤ (x1 * 10) + x2 ∧ (x1 * 10) + x2 < 500)) ∧ K (oI 0) (ab_up (ab_up (ab_up h 12 ((x1 * 10) + x2) x3) 5 7 0) 5 9 0)))))) ∧ (10 ≤ x2 → K (oI 1) (ab_up h 39 0 ((h 39 0) + 1))))))) ∧ (h 2 0 ≤ x1 → K (oI 1) (ab_up h 39 0 ((h 39 0) + 1))))))) : C 130 [vR 0, vI x1, vI x2, vI x3] h K := by
  show X 130 0 [vR 0, vI x1, vI x2, vI x3, vJ 0] [] h K
  refine X_b 4 4 (L := L_130) rfl rfl rfl ?_
  show X 130 4 [vR 0, vI x1, vI x2, vI x3, vJ 0] [vI x3, vI x2, vI x1, vR 0] h _
  refine X_callH 5 [vR 0, vI x1, vI x2, vI x3] [] rfl (sg_calv rfl rfl rfl rfl rfl rfl rfl rfl rfl rfl rfl) ?_
  show X 5 0 [vR 0, vI x1, vI x2, vI x3] [] h _
  refine X_b 3 3 (L := L_5) rfl rfl rfl ?_
  show X 5 3 [vR 0, vI x1, vI x2, vI x3] [vI x2, vI x1, vR 0] h _
  refine X_call 19 [vR 0, vI x1, vI x2] [] rfl (sg_calv rfl rfl rfl rfl rfl rfl rfl rfl rfl rfl rfl) (by decide) ?_
  show X 19 0 [vR 0, vI x1, vI x2] [] h _
  refine X_b 2 2 (L := L_19) rfl rfl rfl ?_
  show X 19 2 [vR 0, vI x1, vI x2] [vI x1, vR 0] h _
  refine X_call 18 [vR 0, vI x1] [] rfl (sg_calv rfl rfl rfl rfl rfl rfl rfl rfl rfl rfl rfl) (by decide) ?_
  show X 18 0 [vR 0, vI x1] [] h _
  refine X_b 1 1 (L := L_18) rfl rfl rfl ?_
  show X 18 1 [vR 0, vI x1] [vI x1] h _
  refine X_if (L := L_18) (n' := 7) rfl rfl rfl rfl (fun z1 => ?_) (fun z1 => ?_)
  · have z1 : x1 < 0 := z1
    replace H := H.1 z1
    show X 18 7 [vR 0, vI x1] [] h _
    refine X_thr 2 sg_thr_18_7 rfl (Nat.le_of_ble_eq_true rfl) ?_
    exact ⟨1, by decide, H⟩
  · have z1 : 0 ≤ x1 := (Int.not_lt.mp z1)
    replace H := H.2 z1
    show X 18 2 [vR 0, vI x1] [] h _
    refine X_b 4 6 (L := L_18) rfl rfl rfl ?_
    show X 18 6 [vR 0, vI x1] [vI (h 2 0), vI x1] h _
    refine X_icmp (L := L_18) (n' := 12) rfl rfl rfl rfl (fun z2 => ?_) (fun z2 => ?_)
    · have z2 : x1 < h 2 0 := z2
      replace H := H.1 z2
      show X 18 12 [vR 0, vI x1] [] h _
      refine X_ret (L := L_18) rfl rfl rfl rfl ?_
      show X 19 3 [vR 0, vI x1, vI x2] [] h _
      refine X_b 1 4 (L := L_19) rfl rfl rfl ?_
      show X 19 4 [vR 0, vI x1, vI x2] [vI x2] h _
      refine X_if (L := L_19) (n' := 8) rfl rfl rfl rfl (fun z3 => ?_) (fun z3 => ?_)
      · have z3 : x2 < 0 := z3
        replace H := H.1 z3
        show X 19 8 [vR 0, vI x1, vI x2] [] h _
        refine X_thr 2 sg_thr_19_8 rfl (Nat.le_of_ble_eq_true rfl) ?_
        exact ⟨1, by decide, H⟩
      · have z3 : 0 ≤ x2 := (Int.not_lt.mp z3)
        replace H := H.2 z3
        show X 19 5 [vR 0, vI x1, vI x2] [] h _
        refine X_b 2 7 (L := L_19) rfl rfl rfl ?_
        show X 19 7 [vR 0, vI x1, vI x2] [vI 10, vI x2] h _
        refine X_icmp (L := L_19) (n' := 13) rfl rfl rfl rfl (fun z4 => ?_) (fun z4 => ?_)
        · have z4 : x2 < 10 := z4
          replace H := H.1 z4
          show X 19 13 [vR 0, vI x1, vI x2] [] h _
          refine X_ret (L := L_19) rfl rfl rfl rfl ?_
          show X 5 4 [vR 0, vI x1, vI x2, vI x3] [] h _
          refine X_b 2 6 (L := L_5) rfl rfl rfl ?_
          show X 5 6 [vR 0, vI x1, vI x2, vI x3] [vI x3, vR 0] h _
          refine X_call 22 [vR 0, vI x3] [] rfl (sg_calv rfl rfl rfl rfl rfl rfl rfl rfl rfl rfl rfl) (by decide) ?_
          show X 22 0 [vR 0, vI x3] [] h _
          refine X_b 2 2 (L := L_22) rfl rfl rfl ?_
          show X 22 2 [vR 0, vI x3] [vI (-1), vI x3] h _
          refine X_icmp (L := L_22) (n' := 6) rfl rfl rfl rfl (fun z5 => ?_) (fun z5 => ?_)
          · have z5 : x3 = (-1) := z5
            replace H := H.1 z5
            show X 22 6 [vR 0, vI x3] [] h _
            obtain ⟨⟨c6, c7⟩, H⟩ := H
            refine X_b 1 7 (L := L_22) rfl rfl rfl ?_
            show X 22 7 [vR 0, vI x3] [vI 1] h _
            refine X_zret (L := L_22) rfl rfl rfl rfl (by decide) ?_
            show X 5 7 [vR 0, vI x1, vI x2, vI x3] [vI 1] h _
            refine X_if (L := L_5) (n' := 13) rfl rfl rfl rfl (fun _ => ?_) (fun z => absurd (show ¬ (1 : Int) = (0 : Int) by decide) z)
            show X 5 13 [vR 0, vI x1, vI x2, vI x3] [] h _
            refine X_b 5 18 (L := L_5) rfl rfl rfl ?_
            show X 5 18 [vR 0, vI x1, vI x2, vI x3] [vI x3, vI x2, vI x1, vR 2] h _
            refine X_call 79 [vR 2, vI x1, vI x2, vI x3] [] rfl (sg_calv rfl rfl rfl rfl rfl rfl rfl rfl rfl rfl rfl) (by decide) ?_
            show X 79 0 [vR 2, vI x1, vI x2, vI x3] [] h _
            refine X_b 9 9 (L := L_79) rfl rfl rfl ?_
            show (-2147483648 ≤ x1 * 10 ∧ x1 * 10 ≤ 2147483647) ∧ (-2147483648 ≤ (x1 * 10) + x2 ∧ (x1 * 10) + x2 ≤ 2147483647) ∧ (0 ≤ (x1 * 10) + x2 ∧ (x1 * 10) + x2 < 500) ∧ X 79 9 [vR 2, vI x1, vI x2, vI x3] [] (ab_up h 12 ((x1 * 10) + x2) x3) _
            refine ⟨c6, by have := c7; omega, c7, ?_⟩
            refine X_ret (L := L_79) rfl rfl rfl rfl ?_
            show X 5 19 [vR 0, vI x1, vI x2, vI x3] [] (ab_up h 12 ((x1 * 10) + x2) x3) _
            refine X_b 2 21 (L := L_5) rfl rfl rfl ?_
            show X 5 21 [vR 0, vI x1, vI x2, vI x3] [vR 5] (ab_up h 12 ((x1 * 10) + x2) x3) _
            refine X_call 116 [vR 5] [] rfl (sg_calv rfl rfl rfl rfl rfl rfl rfl rfl rfl rfl rfl) (by decide) ?_
            show X 116 0 [vR 5] [] (ab_up h 12 ((x1 * 10) + x2) x3) _
            refine X_b 6 6 (L := L_116) rfl rfl rfl ?_
            show X 116 6 [vR 5] [] (ab_up (ab_up (ab_up h 12 ((x1 * 10) + x2) x3) 5 7 0) 5 9 0) _
            refine X_ret (L := L_116) rfl rfl rfl rfl ?_
            show X 5 22 [vR 0, vI x1, vI x2, vI x3] [] (ab_up (ab_up (ab_up h 12 ((x1 * 10) + x2) x3) 5 7 0) 5 9 0) _
            refine X_ret (L := L_5) rfl rfl rfl rfl ?_
            show X 130 5 [vR 0, vI x1, vI x2, vI x3, vJ 0] [] (ab_up (ab_up (ab_up h 12 ((x1 * 10) + x2) x3) 5 7 0) 5 9 0) _
            refine X_goto (L := L_130) (n' := 12) rfl rfl rfl rfl ?_
            show X 130 12 [vR 0, vI x1, vI x2, vI x3, vJ 0] [] (ab_up (ab_up (ab_up h 12 ((x1 * 10) + x2) x3) 5 7 0) 5 9 0) _
            refine X_b 1 13 (L := L_130) rfl rfl rfl ?_
            show X 130 13 [vR 0, vI x1, vI x2, vI x3, vJ 0] [vI 0] (ab_up (ab_up (ab_up h 12 ((x1 * 10) + x2) x3) 5 7 0) 5 9 0) _
            refine X_iret (L := L_130) rfl rfl rfl rfl ?_
            exact H
          · have z5 : ¬ x3 = (-1) := z5
            replace H := H.2 z5
            show X 22 3 [vR 0, vI x3] [] h _
            refine X_b 2 5 (L := L_22) rfl rfl rfl ?_
            show X 22 5 [vR 0, vI x3] [vI 200, vI x3] h _
            refine X_icmp (L := L_22) (n' := 8) rfl rfl rfl rfl (fun z8 => ?_) (fun z8 => ?_)
            · have z8 : ¬ x3 = 200 := z8
              replace H := H.1 z8
              show X 22 8 [vR 0, vI x3] [] h _
              refine X_b 2 10 (L := L_22) rfl rfl rfl ?_
              show X 22 10 [vR 0, vI x3] [vI 100, vI x3] h _
              refine X_icmp (L := L_22) (n' := 22) rfl rfl rfl rfl (fun z9 => ?_) (fun z9 => ?_)
              · have z9 : x3 < 100 := z9
                replace H := H.1 z9
                show X 22 22 [vR 0, vI x3] [] h _
                refine X_b 1 23 (L := L_22) rfl rfl rfl ?_
                show X 22 23 [vR 0, vI x3] [vI x3] h _
                refine X_if (L := L_22) (n' := 31) rfl rfl rfl rfl (fun z10 => ?_) (fun z10 => ?_)
                · have z10 : x3 < 0 := z10
                  replace H := H.1 z10
                  show X 22 31 [vR 0, vI x3] [] h _
                  refine X_b 1 32 (L := L_22) rfl rfl rfl ?_
                  show X 22 32 [vR 0, vI x3] [vI 0] h _
                  refine X_zret (L := L_22) rfl rfl rfl rfl (by decide) ?_
                  show X 5 7 [vR 0, vI x1, vI x2, vI x3] [vI 0] h _
                  refine X_if (L := L_5) (n' := 13) rfl rfl rfl rfl (fun z => absurd z (show ¬ (¬ (0 : Int) = (0 : Int)) by decide)) (fun _ => ?_)
                  show X 5 8 [vR 0, vI x1, vI x2, vI x3] [] h _
                  refine X_thr 0 sg_thr_5_8 rfl (Nat.le_of_ble_eq_true rfl) ?_
                  exact ⟨2, by decide, H⟩
                · have z10 : 0 ≤ x3 := (Int.not_lt.mp z10)
                  replace H := H.2 z10
                  show X 22 24 [vR 0, vI x3] [] h _
                  refine X_b 4 28 (L := L_22) rfl rfl rfl ?_
                  show X 22 28 [vR 0, vI x3] [vI (h 2 0), vI x3] h _
                  refine X_icmp (L := L_22) (n' := 31) rfl rfl rfl rfl (fun z11 => ?_) (fun z11 => ?_)
                  · have z11 : h 2 0 ≤ x3 := z11
                    replace H := H.1 z11
                    show X 22 31 [vR 0, vI x3] [] h _
                    refine X_b 1 32 (L := L_22) rfl rfl rfl ?_
                    show X 22 32 [vR 0, vI x3] [vI 0] h _
                    refine X_zret (L := L_22) rfl rfl rfl rfl (by decide) ?_
                    show X 5 7 [vR 0, vI x1, vI x2, vI x3] [vI 0] h _
                    refine X_if (L := L_5) (n' := 13) rfl rfl rfl rfl (fun z => absurd z (show ¬ (¬ (0 : Int) = (0 : Int)) by decide)) (fun _ => ?_)
                    show X 5 8 [vR 0, vI x1, vI x2, vI x3] [] h _
                    refine X_thr 0 sg_thr_5_8 rfl (Nat.le_of_ble_eq_true rfl) ?_
                    exact ⟨2, by decide, H⟩
                  · have z11 : x3 < h 2 0 := (Int.not_le.mp z11)
                    replace H := H.2 z11
                    show X 22 29 [vR 0, vI x3] [] h _
                    obtain ⟨⟨c12, c13⟩, H⟩ := H
                    refine X_b 1 30 (L := L_22) rfl rfl rfl ?_
                    show X 22 30 [vR 0, vI x3] [vI 1] h _
                    refine X_goto (L := L_22) (n' := 32) rfl rfl rfl rfl ?_
                    show X 22 32 [vR 0, vI x3] [vI 1] h _
                    refine X_zret (L := L_22) rfl rfl rfl rfl (by decide) ?_
                    show X 5 7 [vR 0, vI x1, vI x2, vI x3] [vI 1] h _
                    refine X_if (L := L_5) (n' := 13) rfl rfl rfl rfl (fun _ => ?_) (fun z => absurd (show ¬ (1 : Int) = (0 : Int) by decide) z)
                    show X 5 13 [vR 0, vI x1, vI x2, vI x3] [] h _
                    refine X_b 5 18 (L := L_5) rfl rfl rfl ?_
                    show X 5 18 [vR 0, vI x1, vI x2, vI x3] [vI x3, vI x2, vI x1, vR 2] h _
                    refine X_call 79 [vR 2, vI x1, vI x2, vI x3] [] rfl (sg_calv rfl rfl rfl rfl rfl rfl rfl rfl rfl rfl rfl) (by decide) ?_
                    show X 79 0 [vR 2, vI x1, vI x2, vI x3] [] h _
                    refine X_b 9 9 (L := L_79) rfl rfl rfl ?_
                    show (-2147483648 ≤ x1 * 10 ∧ x1 * 10 ≤ 2147483647) ∧ (-2147483648 ≤ (x1 * 10) + x2 ∧ (x1 * 10) + x2 ≤ 2147483647) ∧ (0 ≤ (x1 * 10) + x2 ∧ (x1 * 10) + x2 < 500) ∧ X 79 9 [vR 2, vI x1, vI x2, vI x3] [] (ab_up h 12 ((x1 * 10) + x2) x3) _
                    refine ⟨c12, by have := c13; omega, c13, ?_⟩
                    refine X_ret (L := L_79) rfl rfl rfl rfl ?_
                    show X 5 19 [vR 0, vI x1, vI x2, vI x3] [] (ab_up h 12 ((x1 * 10) + x2) x3) _
                    refine X_b 2 21 (L := L_5) rfl rfl rfl ?_
                    show X 5 21 [vR 0, vI x1, vI x2, vI x3] [vR 5] (ab_up h 12 ((x1 * 10) + x2) x3) _
                    refine X_call 116 [vR 5] [] rfl (sg_calv rfl rfl rfl rfl rfl rfl rfl rfl rfl rfl rfl) (by decide) ?_
                    show X 116 0 [vR 5] [] (ab_up h 12 ((x1 * 10) + x2) x3) _
                    refine X_b 6 6 (L := L_116) rfl rfl rfl ?_
                    show X 116 6 [vR 5] [] (ab_up (ab_up (ab_up h 12 ((x1 * 10) + x2) x3) 5 7 0) 5 9 0) _
                    refine X_ret (L := L_116) rfl rfl rfl rfl ?_
                    show X 5 22 [vR 0, vI x1, vI x2, vI x3] [] (ab_up (ab_up (ab_up h 12 ((x1 * 10) + x2) x3) 5 7 0) 5 9 0) _
                    refine X_ret (L := L_5) rfl rfl rfl rfl ?_
                    show X 130 5 [vR 0, vI x1, vI x2, vI x3, vJ 0] [] (ab_up (ab_up (ab_up h 12 ((x1 * 10) + x2) x3) 5 7 0) 5 9 0) _
                    refine X_goto (L := L_130) (n' := 12) rfl rfl rfl rfl ?_
                    show X 130 12 [vR 0, vI x1, vI x2, vI x3, vJ 0] [] (ab_up (ab_up (ab_up h 12 ((x1 * 10) + x2) x3) 5 7 0) 5 9 0) _
                    refine X_b 1 13 (L := L_130) rfl rfl rfl ?_
                    show X 130 13 [vR 0, vI x1, vI x2, vI x3, vJ 0] [vI 0] (ab_up (ab_up (ab_up h 12 ((x1 * 10) + x2) x3) 5 7 0) 5 9 0) _
                    refine X_iret (L := L_130) rfl rfl rfl rfl ?_
                    exact H
              · have z9 : 100 ≤ x3 := (Int.not_lt.mp z9)
                replace H := H.2 z9
                show X 22 11 [vR 0, vI x3] [] h _
                obtain ⟨c14, H⟩ := H
                refine X_b 5 16 (L := L_22) rfl rfl rfl ?_
                show (-2147483648 ≤ x3 - 100 ∧ x3 - 100 ≤ 2147483647) ∧ X 22 16 [vR 0, vI x3] [vR 1, vI (x3 - 100)] h _
                refine ⟨c14, ?_⟩
                refine X_call 109 [vR 1] [vI (x3 - 100)] rfl (sg_calv rfl rfl rfl rfl rfl rfl rfl rfl rfl rfl rfl) (by decide) ?_
                show X 109 0 [vR 1] [] h _
                refine X_b 2 2 (L := L_109) rfl rfl rfl ?_
                show X 109 2 [vR 1] [vI (h 1 0)] h _
                refine X_iret (L := L_109) rfl rfl rfl rfl ?_
                show X 22 17 [vR 0, vI x3] [vI (h 1 0), vI (x3 - 100)] h _
                refine X_icmp (L := L_22) (n' := 20) rfl rfl rfl rfl (fun z15 => ?_) (fun z15 => ?_)
                · have z15 : h 1 0 < x3 - 100 := z15
                  replace H := H.1 z15
                  show X 22 20 [vR 0, vI x3] [] h _
                  refine X_b 1 21 (L := L_22) rfl rfl rfl ?_
                  show X 22 21 [vR 0, vI x3] [vI 0] h _
                  refine X_zret (L := L_22) rfl rfl rfl rfl (by decide) ?_
                  show X 5 7 [vR 0, vI x1, vI x2, vI x3] [vI 0] h _
                  refine X_if (L := L_5) (n' := 13) rfl rfl rfl rfl (fun z => absurd z (show ¬ (¬ (0 : Int) = (0 : Int)) by decide)) (fun _ => ?_)
                  show X 5 8 [vR 0, vI x1, vI x2, vI x3] [] h _
                  refine X_thr 0 sg_thr_5_8 rfl (Nat.le_of_ble_eq_true rfl) ?_
                  exact ⟨2, by decide, H⟩
                · have z15 : x3 - 100 ≤ h 1 0 := (Int.not_lt.mp z15)
                  replace H := H.2 z15
                  show X 22 18 [vR 0, vI x3] [] h _
                  obtain ⟨⟨c16, c17⟩, H⟩ := H
                  refine X_b 1 19 (L := L_22) rfl rfl rfl ?_
                  show X 22 19 [vR 0, vI x3] [vI 1] h _
                  refine X_goto (L := L_22) (n' := 21) rfl rfl rfl rfl ?_
                  show X 22 21 [vR 0, vI x3] [vI 1] h _
                  refine X_zret (L := L_22) rfl rfl rfl rfl (by decide) ?_
                  show X 5 7 [vR 0, vI x1, vI x2, vI x3] [vI 1] h _
                  refine X_if (L := L_5) (n' := 13) rfl rfl rfl rfl (fun _ => ?_) (fun z => absurd (show ¬ (1 : Int) = (0 : Int) by decide) z)
                  show X 5 13 [vR 0, vI x1, vI x2, vI x3] [] h _
                  refine X_b 5 18 (L := L_5) rfl rfl rfl ?_
                  show X 5 18 [vR 0, vI x1, vI x2, vI x3] [vI x3, vI x2, vI x1, vR 2] h _
                  refine X_call 79 [vR 2, vI x1, vI x2, vI x3] [] rfl (sg_calv rfl rfl rfl rfl rfl rfl rfl rfl rfl rfl rfl) (by decide) ?_
                  show X 79 0 [vR 2, vI x1, vI x2, vI x3] [] h _
                  refine X_b 9 9 (L := L_79) rfl rfl rfl ?_
                  show (-2147483648 ≤ x1 * 10 ∧ x1 * 10 ≤ 2147483647) ∧ (-2147483648 ≤ (x1 * 10) + x2 ∧ (x1 * 10) + x2 ≤ 2147483647) ∧ (0 ≤ (x1 * 10) + x2 ∧ (x1 * 10) + x2 < 500) ∧ X 79 9 [vR 2, vI x1, vI x2, vI x3] [] (ab_up h 12 ((x1 * 10) + x2) x3) _
                  refine ⟨c16, by have := c17; omega, c17, ?_⟩
                  refine X_ret (L := L_79) rfl rfl rfl rfl ?_
                  show X 5 19 [vR 0, vI x1, vI x2, vI x3] [] (ab_up h 12 ((x1 * 10) + x2) x3) _
                  refine X_b 2 21 (L := L_5) rfl rfl rfl ?_
                  show X 5 21 [vR 0, vI x1, vI x2, vI x3] [vR 5] (ab_up h 12 ((x1 * 10) + x2) x3) _
                  refine X_call 116 [vR 5] [] rfl (sg_calv rfl rfl rfl rfl rfl rfl rfl rfl rfl rfl rfl) (by decide) ?_
                  show X 116 0 [vR 5] [] (ab_up h 12 ((x1 * 10) + x2) x3) _
                  refine X_b 6 6 (L := L_116) rfl rfl rfl ?_
                  show X 116 6 [vR 5] [] (ab_up (ab_up (ab_up h 12 ((x1 * 10) + x2) x3) 5 7 0) 5 9 0) _
                  refine X_ret (L := L_116) rfl rfl rfl rfl ?_
                  show X 5 22 [vR 0, vI x1, vI x2, vI x3] [] (ab_up (ab_up (ab_up h 12 ((x1 * 10) + x2) x3) 5 7 0) 5 9 0) _
                  refine X_ret (L := L_5) rfl rfl rfl rfl ?_
                  show X 130 5 [vR 0, vI x1, vI x2, vI x3, vJ 0] [] (ab_up (ab_up (ab_up h 12 ((x1 * 10) + x2) x3) 5 7 0) 5 9 0) _
                  refine X_goto (L := L_130) (n' := 12) rfl rfl rfl rfl ?_
                  show X 130 12 [vR 0, vI x1, vI x2, vI x3, vJ 0] [] (ab_up (ab_up (ab_up h 12 ((x1 * 10) + x2) x3) 5 7 0) 5 9 0) _
                  refine X_b 1 13 (L := L_130) rfl rfl rfl ?_
                  show X 130 13 [vR 0, vI x1, vI x2, vI x3, vJ 0] [vI 0] (ab_up (ab_up (ab_up h 12 ((x1 * 10) + x2) x3) 5 7 0) 5 9 0) _
                  refine X_iret (L := L_130) rfl rfl rfl rfl ?_
                  exact H
            · have z8 : x3 = 200 := (Classical.not_not.mp z8)
              replace H := H.2 z8
              show X 22 6 [vR 0, vI x3] [] h _
              obtain ⟨⟨c18, c19⟩, H⟩ := H
              refine X_b 1 7 (L := L_22) rfl rfl rfl ?_
              show X 22 7 [vR 0, vI x3] [vI 1] h _
              refine X_zret (L := L_22) rfl rfl rfl rfl (by decide) ?_
              show X 5 7 [vR 0, vI x1, vI x2, vI x3] [vI 1] h _
              refine X_if (L := L_5) (n' := 13) rfl rfl rfl rfl (fun _ => ?_) (fun z => absurd (show ¬ (1 : Int) = (0 : Int) by decide) z)
              show X 5 13 [vR 0, vI x1, vI x2, vI x3] [] h _
              refine X_b 5 18 (L := L_5) rfl rfl rfl ?_
              show X 5 18 [vR 0, vI x1, vI x2, vI x3] [vI x3, vI x2, vI x1, vR 2] h _
              refine X_call 79 [vR 2, vI x1, vI x2, vI x3] [] rfl (sg_calv rfl rfl rfl rfl rfl rfl rfl rfl rfl rfl rfl) (by decide) ?_
              show X 79 0 [vR 2, vI x1, vI x2, vI x3] [] h _
              refine X_b 9 9 (L := L_79) rfl rfl rfl ?_
              show (-2147483648 ≤ x1 * 10 ∧ x1 * 10 ≤ 2147483647) ∧ (-2147483648 ≤ (x1 * 10) + x2 ∧ (x1 * 10) + x2 ≤ 2147483647) ∧ (0 ≤ (x1 * 10) + x2 ∧ (x1 * 10) + x2 < 500) ∧ X 79 9 [vR 2, vI x1, vI x2, vI x3] [] (ab_up h 12 ((x1 * 10) + x2) x3) _
              refine ⟨c18, by have := c19; omega, c19, ?_⟩
              refine X_ret (L := L_79) rfl rfl rfl rfl ?_
              show X 5 19 [vR 0, vI x1, vI x2, vI x3] [] (ab_up h 12 ((x1 * 10) + x2) x3) _
              refine X_b 2 21 (L := L_5) rfl rfl rfl ?_
              show X 5 21 [vR 0, vI x1, vI x2, vI x3] [vR 5] (ab_up h 12 ((x1 * 10) + x2) x3) _
              refine X_call 116 [vR 5] [] rfl (sg_calv rfl rfl rfl rfl rfl rfl rfl rfl rfl rfl rfl) (by decide) ?_
              show X 116 0 [vR 5] [] (ab_up h 12 ((x1 * 10) + x2) x3) _
              refine X_b 6 6 (L := L_116) rfl rfl rfl ?_
              show X 116 6 [vR 5] [] (ab_up (ab_up (ab_up h 12 ((x1 * 10) + x2) x3) 5 7 0) 5 9 0) _
              refine X_ret (L := L_116) rfl rfl rfl rfl ?_
              show X 5 22 [vR 0, vI x1, vI x2, vI x3] [] (ab_up (ab_up (ab_up h 12 ((x1 * 10) + x2) x3) 5 7 0) 5 9 0) _
              refine X_ret (L := L_5) rfl rfl rfl rfl ?_
              show X 130 5 [vR 0, vI x1, vI x2, vI x3, vJ 0] [] (ab_up (ab_up (ab_up h 12 ((x1 * 10) + x2) x3) 5 7 0) 5 9 0) _
              refine X_goto (L := L_130) (n' := 12) rfl rfl rfl rfl ?_
              show X 130 12 [vR 0, vI x1, vI x2, vI x3, vJ 0] [] (ab_up (ab_up (ab_up h 12 ((x1 * 10) + x2) x3) 5 7 0) 5 9 0) _
              refine X_b 1 13 (L := L_130) rfl rfl rfl ?_
              show X 130 13 [vR 0, vI x1, vI x2, vI x3, vJ 0] [vI 0] (ab_up (ab_up (ab_up h 12 ((x1 * 10) + x2) x3) 5 7 0) 5 9 0) _
              refine X_iret (L := L_130) rfl rfl rfl rfl ?_
              exact H
        · have z4 : 10 ≤ x2 := (Int.not_lt.mp z4)
          replace H := H.2 z4
          show X 19 8 [vR 0, vI x1, vI x2] [] h _
          refine X_thr 2 sg_thr_19_8 rfl (Nat.le_of_ble_eq_true rfl) ?_
          exact ⟨1, by decide, H⟩
    · have z2 : h 2 0 ≤ x1 := (Int.not_lt.mp z2)
      replace H := H.2 z2
      show X 18 7 [vR 0, vI x1] [] h _
      refine X_thr 2 sg_thr_18_7 rfl (Nat.le_of_ble_eq_true rfl) ?_
      exact ⟨1, by decide, H⟩

/-- PPLaw.has, row 0 -/
theorem s_131_0 (x1 x2 x3 x4 : Int) (h : ab_S) (K : ab_O → ab_S → Prop) (H : ((x1 < 0 → K (oI 1) (ab_up h 39 0 ((h 39 0) + 1))) ∧ (0 ≤ x1 → ((x1 < h 2 0 → ((x2 < 0 → K (oI 2) (ab_up h 39 0 ((h 39 0) + 1))) ∧ (0 ≤ x2 → ((x2 ≤ h 1 0 → ((x3 < 0 → K (oI 2) (ab_up h 39 0 ((h 39 0) + 1))) ∧ (0 ≤ x3 → ((0 ≤ x2 ∧ x2 < 9)) ∧ ((h 8 x2 < x3 → K (oI 2) (ab_up h 39 0 ((h 39 0) + 1))) ∧ (x3 ≤ h 8 x2 → ((x4 < 4 → K (oI 2) (ab_up h 39 0 ((h 39 0) + 1))) ∧ (4 ≤ x4 → ((9 < x4 → K (oI 2) (ab_up h 39 0 ((h 39 0) + 1))) ∧ (x4 ≤ 9 → ((-2147483648 ≤ x1 * 45 ∧ x1 * 45 ≤ 2147483647) ∧ (-2147483648 ≤ x2 * 5 ∧ x2 * 5 ≤ 2147483647) ∧ (-2147483648 ≤ (x2 * 5) + x3 ∧ (x2 * 5) + x3 ≤ 2147483647) ∧ (0 ≤ (x1 * 45) + ((x2 * 5) + x3) ∧ (x1 * 45) + ((x2 * 5) + x3) < 2250) ∧ (-2147483648 ≤ x4 - 4 ∧ x4 - 4 ≤ 2147483647)) ∧ ((b_and (h 13 ((x1 * 45) + ((x2 * 5) + x3))) (b_shl 1 (x4 - 4)) = 0 → K (oI 0) (ab_up h 37 0 0)) ∧ (¬ b_and (h 13 ((x1 * 45) + ((x2 * 5) + x3))) (b_shl 1 (x4 - 4)) = 0 → K (oI 0) (ab_up h 37 0 1)))))))))))) ∧ (h 1 0 < x2 → K (oI 2) (ab_up h 39 0 ((h 39 0) + 1))))))) ∧ (h 2 0 ≤ x1 → K (oI 1) (ab_up h 39 0 ((h 39 0) + 1))))))) : C 131 [vR 0, vI x1, vI x2, vI x3, vI x4, vR 37] h K := by
  show X 131 0 [vR 0, vI x1, vI x2, vI x3, vI x4, vR 37, vJ 0] [] h K
  refine X_b 7 7 (L := L_131) rfl rfl rfl ?_
  show X 131 7 [vR 0, vI x1, vI x2, vI x3, vI x4, vR 37, vJ 0] [vI x4, vI x3, vI x2, vI x1, vR 0, vI 0, vR 37] h _
  refine X_callH 6 [vR 0, vI x1, vI x2, vI x3, vI x4] [vI 0, vR 37] rfl (sg_calv rfl rfl rfl rfl rfl rfl rfl rfl rfl rfl rfl) ?_
  show X 6 0 [vR 0, vI x1, vI x2, vI x3, vI x4] [] h _
  refine X_b 5 5 (L := L_6) rfl rfl rfl ?_
  show X 6 5 [vR 0, vI x1, vI x2, vI x3, vI x4] [vI x4, vI x3, vI x2, vI x1, vR 0] h _
  refine X_call 20 [vR 0, vI x1, vI x2, vI x3, vI x4] [] rfl (sg_calv rfl rfl rfl rfl rfl rfl rfl rfl rfl rfl rfl) (by decide) ?_
  show X 20 0 [vR 0, vI x1, vI x2, vI x3, vI x4] [] h _
  refine X_b 2 2 (L := L_20) rfl rfl rfl ?_
  show X 20 2 [vR 0, vI x1, vI x2, vI x3, vI x4] [vI x1, vR 0] h _
  refine X_call 18 [vR 0, vI x1] [] rfl (sg_calv rfl rfl rfl rfl rfl rfl rfl rfl rfl rfl rfl) (by decide) ?_
  show X 18 0 [vR 0, vI x1] [] h _
  refine X_b 1 1 (L := L_18) rfl rfl rfl ?_
  show X 18 1 [vR 0, vI x1] [vI x1] h _
  refine X_if (L := L_18) (n' := 7) rfl rfl rfl rfl (fun z1 => ?_) (fun z1 => ?_)
  · have z1 : x1 < 0 := z1
    replace H := H.1 z1
    show X 18 7 [vR 0, vI x1] [] h _
    refine X_thr 2 sg_thr_18_7 rfl (Nat.le_of_ble_eq_true rfl) ?_
    exact ⟨1, by decide, H⟩
  · have z1 : 0 ≤ x1 := (Int.not_lt.mp z1)
    replace H := H.2 z1
    show X 18 2 [vR 0, vI x1] [] h _
    refine X_b 4 6 (L := L_18) rfl rfl rfl ?_
    show X 18 6 [vR 0, vI x1] [vI (h 2 0), vI x1] h _
    refine X_icmp (L := L_18) (n' := 12) rfl rfl rfl rfl (fun z2 => ?_) (fun z2 => ?_)
    · have z2 : x1 < h 2 0 := z2
      replace H := H.1 z2
      show X 18 12 [vR 0, vI x1] [] h _
      refine X_ret (L := L_18) rfl rfl rfl rfl ?_
      show X 20 3 [vR 0, vI x1, vI x2, vI x3, vI x4] [] h _
      refine X_b 4 7 (L := L_20) rfl rfl rfl ?_
      show X 20 7 [vR 0, vI x1, vI x2, vI x3, vI x4] [vI x4, vI x3, vI x2, vR 0] h _
      refine X_call 21 [vR 0, vI x2, vI x3, vI x4] [] rfl (sg_calv rfl rfl rfl rfl rfl rfl rfl rfl rfl rfl rfl) (by decide) ?_
      show X 21 0 [vR 0, vI x2, vI x3, vI x4] [] h _
      refine X_b 1 1 (L := L_21) rfl rfl rfl ?_
      show X 21 1 [vR 0, vI x2, vI x3, vI x4] [vI x2] h _
      refine X_if (L := L_21) (n' := 7) rfl rfl rfl rfl (fun z3 => ?_) (fun z3 => ?_)
      · have z3 : x2 < 0 := z3
        replace H := H.1 z3
        show X 21 7 [vR 0, vI x2, vI x3, vI x4] [] h _
        refine X_b 1 8 (L := L_21) rfl rfl rfl ?_
        show X 21 8 [vR 0, vI x2, vI x3, vI x4] [vI 0] h _
        refine X_zret (L := L_21) rfl rfl rfl rfl (by decide) ?_
        show X 20 8 [vR 0, vI x1, vI x2, vI x3, vI x4] [vI 0] h _
        refine X_if (L := L_20) (n' := 14) rfl rfl rfl rfl (fun z => absurd z (show ¬ (¬ (0 : Int) = (0 : Int)) by decide)) (fun _ => ?_)
        show X 20 9 [vR 0, vI x1, vI x2, vI x3, vI x4] [] h _
        refine X_thr 0 sg_thr_20_9 rfl (Nat.le_of_ble_eq_true rfl) ?_
        exact ⟨2, by decide, H⟩
      · have z3 : 0 ≤ x2 := (Int.not_lt.mp z3)
        replace H := H.2 z3
        show X 21 2 [vR 0, vI x2, vI x3, vI x4] [] h _
        refine X_b 3 5 (L := L_21) rfl rfl rfl ?_
        show X 21 5 [vR 0, vI x2, vI x3, vI x4] [vR 1, vI x2] h _
        refine X_call 109 [vR 1] [vI x2] rfl (sg_calv rfl rfl rfl rfl rfl rfl rfl rfl rfl rfl rfl) (by decide) ?_
        show X 109 0 [vR 1] [] h _
        refine X_b 2 2 (L := L_109) rfl rfl rfl ?_
        show X 109 2 [vR 1] [vI (h 1 0)] h _
        refine X_iret (L := L_109) rfl rfl rfl rfl ?_
        show X 21 6 [vR 0, vI x2, vI x3, vI x4] [vI (h 1 0), vI x2] h _
        refine X_icmp (L := L_21) (n' := 9) rfl rfl rfl rfl (fun z4 => ?_) (fun z4 => ?_)
        · have z4 : x2 ≤ h 1 0 := z4
          replace H := H.1 z4
          show X 21 9 [vR 0, vI x2, vI x3, vI x4] [] h _
          refine X_b 1 10 (L := L_21) rfl rfl rfl ?_
          show X 21 10 [vR 0, vI x2, vI x3, vI x4] [vI x3] h _
          refine X_if (L := L_21) (n' := 26) rfl rfl rfl rfl (fun z5 => ?_) (fun z5 => ?_)
          · have z5 : x3 < 0 := z5
            replace H := H.1 z5
            show X 21 26 [vR 0, vI x2, vI x3, vI x4] [] h _
            refine X_b 1 27 (L := L_21) rfl rfl rfl ?_
            show X 21 27 [vR 0, vI x2, vI x3, vI x4] [vI 0] h _
            refine X_zret (L := L_21) rfl rfl rfl rfl (by decide) ?_
            show X 20 8 [vR 0, vI x1, vI x2, vI x3, vI x4] [vI 0] h _
            refine X_if (L := L_20) (n' := 14) rfl rfl rfl rfl (fun z => absurd z (show ¬ (¬ (0 : Int) = (0 : Int)) by decide)) (fun _ => ?_)
            show X 20 9 [vR 0, vI x1, vI x2, vI x3, vI x4] [] h _
            refine X_thr 0 sg_thr_20_9 rfl (Nat.le_of_ble_eq_true rfl) ?_
            exact ⟨2, by decide, H⟩
          · have z5 : 0 ≤ x3 := (Int.not_lt.mp z5)
            replace H := H.2 z5
            show X 21 11 [vR 0, vI x2, vI x3, vI x4] [] h _
            obtain ⟨c6, H⟩ := H
            refine X_b 6 17 (L := L_21) rfl rfl rfl ?_
            show (0 ≤ x2 ∧ x2 < 9) ∧ X 21 17 [vR 0, vI x2, vI x3, vI x4] [vI (h 8 x2), vI x3] h _
            refine ⟨c6, ?_⟩
            refine X_icmp (L := L_21) (n' := 26) rfl rfl rfl rfl (fun z7 => ?_) (fun z7 => ?_)
            · have z7 : h 8 x2 < x3 := z7
              replace H := H.1 z7
              show X 21 26 [vR 0, vI x2, vI x3, vI x4] [] h _
              refine X_b 1 27 (L := L_21) rfl rfl rfl ?_
              show X 21 27 [vR 0, vI x2, vI x3, vI x4] [vI 0] h _
              refine X_zret (L := L_21) rfl rfl rfl rfl (by decide) ?_
              show X 20 8 [vR 0, vI x1, vI x2, vI x3, vI x4] [vI 0] h _
              refine X_if (L := L_20) (n' := 14) rfl rfl rfl rfl (fun z => absurd z (show ¬ (¬ (0 : Int) = (0 : Int)) by decide)) (fun _ => ?_)
              show X 20 9 [vR 0, vI x1, vI x2, vI x3, vI x4] [] h _
              refine X_thr 0 sg_thr_20_9 rfl (Nat.le_of_ble_eq_true rfl) ?_
              exact ⟨2, by decide, H⟩
            · have z7 : x3 ≤ h 8 x2 := (Int.not_lt.mp z7)
              replace H := H.2 z7
              show X 21 18 [vR 0, vI x2, vI x3, vI x4] [] h _
              refine X_b 2 20 (L := L_21) rfl rfl rfl ?_
              show X 21 20 [vR 0, vI x2, vI x3, vI x4] [vI 4, vI x4] h _
              refine X_icmp (L := L_21) (n' := 26) rfl rfl rfl rfl (fun z8 => ?_) (fun z8 => ?_)
              · have z8 : x4 < 4 := z8
                replace H := H.1 z8
                show X 21 26 [vR 0, vI x2, vI x3, vI x4] [] h _
                refine X_b 1 27 (L := L_21) rfl rfl rfl ?_
                show X 21 27 [vR 0, vI x2, vI x3, vI x4] [vI 0] h _
                refine X_zret (L := L_21) rfl rfl rfl rfl (by decide) ?_
                show X 20 8 [vR 0, vI x1, vI x2, vI x3, vI x4] [vI 0] h _
                refine X_if (L := L_20) (n' := 14) rfl rfl rfl rfl (fun z => absurd z (show ¬ (¬ (0 : Int) = (0 : Int)) by decide)) (fun _ => ?_)
                show X 20 9 [vR 0, vI x1, vI x2, vI x3, vI x4] [] h _
                refine X_thr 0 sg_thr_20_9 rfl (Nat.le_of_ble_eq_true rfl) ?_
                exact ⟨2, by decide, H⟩
              · have z8 : 4 ≤ x4 := (Int.not_lt.mp z8)
                replace H := H.2 z8
                show X 21 21 [vR 0, vI x2, vI x3, vI x4] [] h _
                refine X_b 2 23 (L := L_21) rfl rfl rfl ?_
                show X 21 23 [vR 0, vI x2, vI x3, vI x4] [vI 9, vI x4] h _
                refine X_icmp (L := L_21) (n' := 26) rfl rfl rfl rfl (fun z9 => ?_) (fun z9 => ?_)
                · have z9 : 9 < x4 := z9
                  replace H := H.1 z9
                  show X 21 26 [vR 0, vI x2, vI x3, vI x4] [] h _
                  refine X_b 1 27 (L := L_21) rfl rfl rfl ?_
                  show X 21 27 [vR 0, vI x2, vI x3, vI x4] [vI 0] h _
                  refine X_zret (L := L_21) rfl rfl rfl rfl (by decide) ?_
                  show X 20 8 [vR 0, vI x1, vI x2, vI x3, vI x4] [vI 0] h _
                  refine X_if (L := L_20) (n' := 14) rfl rfl rfl rfl (fun z => absurd z (show ¬ (¬ (0 : Int) = (0 : Int)) by decide)) (fun _ => ?_)
                  show X 20 9 [vR 0, vI x1, vI x2, vI x3, vI x4] [] h _
                  refine X_thr 0 sg_thr_20_9 rfl (Nat.le_of_ble_eq_true rfl) ?_
                  exact ⟨2, by decide, H⟩
                · have z9 : x4 ≤ 9 := (Int.not_lt.mp z9)
                  replace H := H.2 z9
                  show X 21 24 [vR 0, vI x2, vI x3, vI x4] [] h _
                  obtain ⟨⟨c10, c11, c12, c13, c14⟩, H⟩ := H
                  refine X_b 1 25 (L := L_21) rfl rfl rfl ?_
                  show X 21 25 [vR 0, vI x2, vI x3, vI x4] [vI 1] h _
                  refine X_goto (L := L_21) (n' := 27) rfl rfl rfl rfl ?_
                  show X 21 27 [vR 0, vI x2, vI x3, vI x4] [vI 1] h _
                  refine X_zret (L := L_21) rfl rfl rfl rfl (by decide) ?_
                  show X 20 8 [vR 0, vI x1, vI x2, vI x3, vI x4] [vI 1] h _
                  refine X_if (L := L_20) (n' := 14) rfl rfl rfl rfl (fun _ => ?_) (fun z => absurd (show ¬ (1 : Int) = (0 : Int) by decide) z)
                  show X 20 14 [vR 0, vI x1, vI x2, vI x3, vI x4] [] h _
                  refine X_ret (L := L_20) rfl rfl rfl rfl ?_
                  show X 6 6 [vR 0, vI x1, vI x2, vI x3, vI x4] [] h _
                  refine X_b 6 12 (L := L_6) rfl rfl rfl ?_
                  show X 6 12 [vR 0, vI x1, vI x2, vI x3, vI x4] [vI x4, vI x3, vI x2, vI x1, vR 2] h _
                  refine X_call 81 [vR 2, vI x1, vI x2, vI x3, vI x4] [] rfl (sg_calv rfl rfl rfl rfl rfl rfl rfl rfl rfl rfl rfl) (by decide) ?_
                  show X 81 0 [vR 2, vI x1, vI x2, vI x3, vI x4] [] h _
                  refine X_b 4 4 (L := L_81) rfl rfl rfl ?_
                  show X 81 4 [vR 2, vI x1, vI x2, vI x3, vI x4] [vI x3, vI x2, vI x1, vR 2] h _
                  refine X_call 80 [vR 2, vI x1, vI x2, vI x3] [] rfl (sg_calv rfl rfl rfl rfl rfl rfl rfl rfl rfl rfl rfl) (by decide) ?_
                  show X 80 0 [vR 2, vI x1, vI x2, vI x3] [] h _
                  refine X_b 7 7 (L := L_80) rfl rfl rfl ?_
                  show (-2147483648 ≤ x1 * 45 ∧ x1 * 45 ≤ 2147483647) ∧ X 80 7 [vR 2, vI x1, vI x2, vI x3] [vI x3, vI x2, vI (x1 * 45), vR 13] h _
                  refine ⟨c10, ?_⟩
                  refine X_call 27 [vI x2, vI x3] [vI (x1 * 45), vR 13] rfl (sg_cals rfl rfl rfl rfl rfl rfl rfl rfl rfl rfl) (by decide) ?_
                  show X 27 0 [vI x2, vI x3] [] h _
                  refine X_b 5 5 (L := L_27) rfl rfl rfl ?_
                  show (-2147483648 ≤ x2 * 5 ∧ x2 * 5 ≤ 2147483647) ∧ (-2147483648 ≤ (x2 * 5) + x3 ∧ (x2 * 5) + x3 ≤ 2147483647) ∧ X 27 5 [vI x2, vI x3] [vI ((x2 * 5) + x3)] h _
                  refine ⟨c11, c12, ?_⟩
                  refine X_iret (L := L_27) rfl rfl rfl rfl ?_
                  show X 80 8 [vR 2, vI x1, vI x2, vI x3] [vI ((x2 * 5) + x3), vI (x1 * 45), vR 13] h _
                  refine X_b 2 10 (L := L_80) rfl rfl rfl ?_
                  show (-2147483648 ≤ (x1 * 45) + ((x2 * 5) + x3) ∧ (x1 * 45) + ((x2 * 5) + x3) ≤ 2147483647) ∧ (0 ≤ (x1 * 45) + ((x2 * 5) + x3) ∧ (x1 * 45) + ((x2 * 5) + x3) < 2250) ∧ X 80 10 [vR 2, vI x1, vI x2, vI x3] [vI (h 13 ((x1 * 45) + ((x2 * 5) + x3)))] h _
                  refine ⟨by have := c13; omega, c13, ?_⟩
                  refine X_iret (L := L_80) rfl rfl rfl rfl ?_
                  show X 81 5 [vR 2, vI x1, vI x2, vI x3, vI x4] [vI (h 13 ((x1 * 45) + ((x2 * 5) + x3)))] h _
                  refine X_b 1 6 (L := L_81) rfl rfl rfl ?_
                  show X 81 6 [vR 2, vI x1, vI x2, vI x3, vI x4] [vI x4, vI (h 13 ((x1 * 45) + ((x2 * 5) + x3)))] h _
                  refine X_call 26 [vI x4] [vI (h 13 ((x1 * 45) + ((x2 * 5) + x3)))] rfl (sg_cals rfl rfl rfl rfl rfl rfl rfl rfl rfl rfl) (by decide) ?_
                  show X 26 0 [vI x4] [] h _
                  refine X_b 5 5 (L := L_26) rfl rfl rfl ?_
                  show (-2147483648 ≤ x4 - 4 ∧ x4 - 4 ≤ 2147483647) ∧ X 26 5 [vI x4] [vI (b_shl 1 (x4 - 4))] h _
                  refine ⟨c14, ?_⟩
                  refine X_iret (L := L_26) rfl rfl rfl rfl ?_
                  show X 81 7 [vR 2, vI x1, vI x2, vI x3, vI x4] [vI (b_shl 1 (x4 - 4)), vI (h 13 ((x1 * 45) + ((x2 * 5) + x3)))] h _
                  refine X_b 1 8 (L := L_81) rfl rfl rfl ?_
                  show X 81 8 [vR 2, vI x1, vI x2, vI x3, vI x4] [vI (b_and (h 13 ((x1 * 45) + ((x2 * 5) + x3))) (b_shl 1 (x4 - 4)))] h _
                  refine X_if (L := L_81) (n' := 11) rfl rfl rfl rfl (fun z15 => ?_) (fun z15 => ?_)
                  · have z15 : b_and (h 13 ((x1 * 45) + ((x2 * 5) + x3))) (b_shl 1 (x4 - 4)) = 0 := z15
                    replace H := H.1 z15
                    show X 81 11 [vR 2, vI x1, vI x2, vI x3, vI x4] [] h _
                    refine X_b 1 12 (L := L_81) rfl rfl rfl ?_
                    show X 81 12 [vR 2, vI x1, vI x2, vI x3, vI x4] [vI 0] h _
                    refine X_zret (L := L_81) rfl rfl rfl rfl (by decide) ?_
                    show X 6 13 [vR 0, vI x1, vI x2, vI x3, vI x4] [vI 0] h _
                    refine X_zret (L := L_6) rfl rfl rfl rfl (by decide) ?_
                    show X 131 8 [vR 0, vI x1, vI x2, vI x3, vI x4, vR 37, vJ 0] [vI 0, vI 0, vR 37] h _
                    refine X_if (L := L_131) (n' := 11) rfl rfl rfl rfl (fun _ => ?_) (fun z => absurd (show (0 : Int) = (0 : Int) by decide) z)
                    show X 131 11 [vR 0, vI x1, vI x2, vI x3, vI x4, vR 37, vJ 0] [vI 0, vR 37] h _
                    refine X_b 2 13 (L := L_131) rfl rfl rfl ?_
                    show (0 ≤ (0 : Int) ∧ (0 : Int) < 1) ∧ (-2147483648 ≤ (0 : Int) ∧ (0 : Int) ≤ 2147483647) ∧ X 131 13 [vR 0, vI x1, vI x2, vI x3, vI x4, vR 37, vJ 0] [] (ab_up h 37 0 0) _
                    refine ⟨by decide, by decide, ?_⟩
                    refine X_goto (L := L_131) (n' := 20) rfl rfl rfl rfl ?_
                    show X 131 20 [vR 0, vI x1, vI x2, vI x3, vI x4, vR 37, vJ 0] [] (ab_up h 37 0 0) _
                    refine X_b 1 21 (L := L_131) rfl rfl rfl ?_
                    show X 131 21 [vR 0, vI x1, vI x2, vI x3, vI x4, vR 37, vJ 0] [vI 0] (ab_up h 37 0 0) _
                    refine X_iret (L := L_131) rfl rfl rfl rfl ?_
                    exact H
                  · have z15 : ¬ b_and (h 13 ((x1 * 45) + ((x2 * 5) + x3))) (b_shl 1 (x4 - 4)) = 0 := z15
                    replace H := H.2 z15
                    show X 81 9 [vR 2, vI x1, vI x2, vI x3, vI x4] [] h _
                    refine X_b 1 10 (L := L_81) rfl rfl rfl ?_
                    show X 81 10 [vR 2, vI x1, vI x2, vI x3, vI x4] [vI 1] h _
                    refine X_goto (L := L_81) (n' := 12) rfl rfl rfl rfl ?_
                    show X 81 12 [vR 2, vI x1, vI x2, vI x3, vI x4] [vI 1] h _
                    refine X_zret (L := L_81) rfl rfl rfl rfl (by decide) ?_
                    show X 6 13 [vR 0, vI x1, vI x2, vI x3, vI x4] [vI 1] h _
                    refine X_zret (L := L_6) rfl rfl rfl rfl (by decide) ?_
                    show X 131 8 [vR 0, vI x1, vI x2, vI x3, vI x4, vR 37, vJ 0] [vI 1, vI 0, vR 37] h _
                    refine X_if (L := L_131) (n' := 11) rfl rfl rfl rfl (fun z => absurd z (show ¬ ((1 : Int) = (0 : Int)) by decide)) (fun _ => ?_)
                    show X 131 9 [vR 0, vI x1, vI x2, vI x3, vI x4, vR 37, vJ 0] [vI 0, vR 37] h _
                    refine X_b 1 10 (L := L_131) rfl rfl rfl ?_
                    show X 131 10 [vR 0, vI x1, vI x2, vI x3, vI x4, vR 37, vJ 0] [vJ 1, vI 0, vR 37] h _
                    refine X_goto (L := L_131) (n' := 12) rfl rfl rfl rfl ?_
                    show X 131 12 [vR 0, vI x1, vI x2, vI x3, vI x4, vR 37, vJ 0] [vJ 1, vI 0, vR 37] h _
                    refine X_b 1 13 (L := L_131) rfl rfl rfl ?_
                    show (0 ≤ (0 : Int) ∧ (0 : Int) < 1) ∧ (-2147483648 ≤ (1 : Int) ∧ (1 : Int) ≤ 2147483647) ∧ X 131 13 [vR 0, vI x1, vI x2, vI x3, vI x4, vR 37, vJ 0] [] (ab_up h 37 0 1) _
                    refine ⟨by decide, by decide, ?_⟩
                    refine X_goto (L := L_131) (n' := 20) rfl rfl rfl rfl ?_
                    show X 131 20 [vR 0, vI x1, vI x2, vI x3, vI x4, vR 37, vJ 0] [] (ab_up h 37 0 1) _
                    refine X_b 1 21 (L := L_131) rfl rfl rfl ?_
                    show X 131 21 [vR 0, vI x1, vI x2, vI x3, vI x4, vR 37, vJ 0] [vI 0] (ab_up h 37 0 1) _
                    refine X_iret (L := L_131) rfl rfl rfl rfl ?_
                    exact H
        · have z4 : h 1 0 < x2 := (Int.not_le.mp z4)
          replace H := H.2 z4
          show X 21 7 [vR 0, vI x2, vI x3, vI x4] [] h _
          refine X_b 1 8 (L := L_21) rfl rfl rfl ?_
          show X 21 8 [vR 0, vI x2, vI x3, vI x4] [vI 0] h _
          refine X_zret (L := L_21) rfl rfl rfl rfl (by decide) ?_
          show X 20 8 [vR 0, vI x1, vI x2, vI x3, vI x4] [vI 0] h _
          refine X_if (L := L_20) (n' := 14) rfl rfl rfl rfl (fun z => absurd z (show ¬ (¬ (0 : Int) = (0 : Int)) by decide)) (fun _ => ?_)
          show X 20 9 [vR 0, vI x1, vI x2, vI x3, vI x4] [] h _
          refine X_thr 0 sg_thr_20_9 rfl (Nat.le_of_ble_eq_true rfl) ?_
          exact ⟨2, by decide, H⟩
    · have z2 : h 2 0 ≤ x1 := (Int.not_lt.mp z2)
      replace H := H.2 z2
      show X 18 7 [vR 0, vI x1] [] h _
      refine X_thr 2 sg_thr_18_7 rfl (Nat.le_of_ble_eq_true rfl) ?_
      exact ⟨1, by decide, H⟩

/-- PPLaw.turn, row 0 -/
theorem s_132_0 (x1 x2 x3 x4 : Int) (h : ab_S) (K : ab_O → ab_S → Prop) (H : ((x1 < 0 → K (oI 1) (ab_up h 39 0 ((h 39 0) + 1))) ∧ (0 ≤ x1 → ((x1 < h 2 0 → ((x2 < 0 → K (oI 2) (ab_up h 39 0 ((h 39 0) + 1))) ∧ (0 ≤ x2 → ((x2 ≤ h 1 0 → ((x3 < 0 → K (oI 2) (ab_up h 39 0 ((h 39 0) + 1))) ∧ (0 ≤ x3 → ((0 ≤ x2 ∧ x2 < 9)) ∧ ((h 8 x2 < x3 → K (oI 2) (ab_up h 39 0 ((h 39 0) + 1))) ∧ (x3 ≤ h 8 x2 → ((x4 < 4 → K (oI 2) (ab_up h 39 0 ((h 39 0) + 1))) ∧ (4 ≤ x4 → ((9 < x4 → K (oI 2) (ab_up h 39 0 ((h 39 0) + 1))) ∧ (x4 ≤ 9 → ((-2147483648 ≤ x1 * 45 ∧ x1 * 45 ≤ 2147483647) ∧ (-2147483648 ≤ x2 * 5 ∧ x2 * 5 ≤ 2147483647) ∧ (-2147483648 ≤ (x2 * 5) + x3 ∧ (x2 * 5) + x3 ≤ 2147483647) ∧ (0 ≤ (x1 * 45) + ((x2 * 5) + x3) ∧ (x1 * 45) + ((x2 * 5) + x3) < 2250) ∧ (-2147483648 ≤ x4 - 4 ∧ x4 - 4 ≤ 2147483647)) ∧ ((b_and ((ab_up h 13 ((x1 * 45) + ((x2 * 5) + x3)) (b_xor (h 13 ((x1 * 45) + ((x2 * 5) + x3))) (b_shl 1 (x4 - 4)))) 13 ((x1 * 45) + ((x2 * 5) + x3))) (b_shl 1 (x4 - 4)) = 0 → K (oI 0) (ab_up (ab_up h 13 ((x1 * 45) + ((x2 * 5) + x3)) (b_xor (h 13 ((x1 * 45) + ((x2 * 5) + x3))) (b_shl 1 (x4 - 4)))) 37 0 0)) ∧ (¬ b_and ((ab_up h 13 ((x1 * 45) + ((x2 * 5) + x3)) (b_xor (h 13 ((x1 * 45) + ((x2 * 5) + x3))) (b_shl 1 (x4 - 4)))) 13 ((x1 * 45) + ((x2 * 5) + x3))) (b_shl 1 (x4 - 4)) = 0 → K (oI 0) (ab_up (ab_up h 13 ((x1 * 45) + ((x2 * 5) + x3)) (b_xor (h 13 ((x1 * 45) + ((x2 * 5) + x3))) (b_shl 1 (x4 - 4)))) 37 0 1)))))))))))) ∧ (h 1 0 < x2 → K (oI 2) (ab_up h 39 0 ((h 39 0) + 1))))))) ∧ (h 2 0 ≤ x1 → K (oI 1) (ab_up h 39 0 ((h 39 0) + 1))))))) : C 132 [vR 0, vI x1, vI x2, vI x3, vI x4, vR 37] h K := by
  show X 132 0 [vR 0, vI x1, vI x2, vI x3, vI x4, vR 37, vJ 0] [] h K
  refine X_b 7 7 (L := L_132) rfl rfl rfl ?_
  show X 132 7 [vR 0, vI x1, vI x2, vI x3, vI x4, vR 37, vJ 0] [vI x4, vI x3, vI x2, vI x1, vR 0, vI 0, vR 37] h _
  refine X_callH 7 [vR 0, vI x1, vI x2, vI x3, vI x4] [vI 0, vR 37] rfl (sg_calv rfl rfl rfl rfl rfl rfl rfl rfl rfl rfl rfl) ?_
  show X 7 0 [vR 0, vI x1, vI x2, vI x3, vI x4] [] h _
  refine X_b 5 5 (L := L_7) rfl rfl rfl ?_
  show X 7 5 [vR 0, vI x1, vI x2, vI x3, vI x4] [vI x4, vI x3, vI x2, vI x1, vR 0] h _
  refine X_call 20 [vR 0, vI x1, vI x2, vI x3, vI x4] [] rfl (sg_calv rfl rfl rfl rfl rfl rfl rfl rfl rfl rfl rfl) (by decide) ?_
  show X 20 0 [vR 0, vI x1, vI x2, vI x3, vI x4] [] h _
  refine X_b 2 2 (L := L_20) rfl rfl rfl ?_
  show X 20 2 [vR 0, vI x1, vI x2, vI x3, vI x4] [vI x1, vR 0] h _
  refine X_call 18 [vR 0, vI x1] [] rfl (sg_calv rfl rfl rfl rfl rfl rfl rfl rfl rfl rfl rfl) (by decide) ?_
  show X 18 0 [vR 0, vI x1] [] h _
  refine X_b 1 1 (L := L_18) rfl rfl rfl ?_
  show X 18 1 [vR 0, vI x1] [vI x1] h _
  refine X_if (L := L_18) (n' := 7) rfl rfl rfl rfl (fun z1 => ?_) (fun z1 => ?_)
  · have z1 : x1 < 0 := z1
    replace H := H.1 z1
    show X 18 7 [vR 0, vI x1] [] h _
    refine X_thr 2 sg_thr_18_7 rfl (Nat.le_of_ble_eq_true rfl) ?_
    exact ⟨1, by decide, H⟩
  · have z1 : 0 ≤ x1 := (Int.not_lt.mp z1)
    replace H := H.2 z1
    show X 18 2 [vR 0, vI x1] [] h _
    refine X_b 4 6 (L := L_18) rfl rfl rfl ?_
    show X 18 6 [vR 0, vI x1] [vI (h 2 0), vI x1] h _
    refine X_icmp (L := L_18) (n' := 12) rfl rfl rfl rfl (fun z2 => ?_) (fun z2 => ?_)
    · have z2 : x1 < h 2 0 := z2
      replace H := H.1 z2
      show X 18 12 [vR 0, vI x1] [] h _
      refine X_ret (L := L_18) rfl rfl rfl rfl ?_
      show X 20 3 [vR 0, vI x1, vI x2, vI x3, vI x4] [] h _
      refine X_b 4 7 (L := L_20) rfl rfl rfl ?_
      show X 20 7 [vR 0, vI x1, vI x2, vI x3, vI x4] [vI x4, vI x3, vI x2, vR 0] h _
      refine X_call 21 [vR 0, vI x2, vI x3, vI x4] [] rfl (sg_calv rfl rfl rfl rfl rfl rfl rfl rfl rfl rfl rfl) (by decide) ?_
      show X 21 0 [vR 0, vI x2, vI x3, vI x4] [] h _
      refine X_b 1 1 (L := L_21) rfl rfl rfl ?_
      show X 21 1 [vR 0, vI x2, vI x3, vI x4] [vI x2] h _
      refine X_if (L := L_21) (n' := 7) rfl rfl rfl rfl (fun z3 => ?_) (fun z3 => ?_)
      · have z3 : x2 < 0 := z3
        replace H := H.1 z3
        show X 21 7 [vR 0, vI x2, vI x3, vI x4] [] h _
        refine X_b 1 8 (L := L_21) rfl rfl rfl ?_
        show X 21 8 [vR 0, vI x2, vI x3, vI x4] [vI 0] h _
        refine X_zret (L := L_21) rfl rfl rfl rfl (by decide) ?_
        show X 20 8 [vR 0, vI x1, vI x2, vI x3, vI x4] [vI 0] h _
        refine X_if (L := L_20) (n' := 14) rfl rfl rfl rfl (fun z => absurd z (show ¬ (¬ (0 : Int) = (0 : Int)) by decide)) (fun _ => ?_)
        show X 20 9 [vR 0, vI x1, vI x2, vI x3, vI x4] [] h _
        refine X_thr 0 sg_thr_20_9 rfl (Nat.le_of_ble_eq_true rfl) ?_
        exact ⟨2, by decide, H⟩
      · have z3 : 0 ≤ x2 := (Int.not_lt.mp z3)
        replace H := H.2 z3
        show X 21 2 [vR 0, vI x2, vI x3, vI x4] [] h _
        refine X_b 3 5 (L := L_21) rfl rfl rfl ?_
        show X 21 5 [vR 0, vI x2, vI x3, vI x4] [vR 1, vI x2] h _
        refine X_call 109 [vR 1] [vI x2] rfl (sg_calv rfl rfl rfl rfl rfl rfl rfl rfl rfl rfl rfl) (by decide) ?_
        show X 109 0 [vR 1] [] h _
        refine X_b 2 2 (L := L_109) rfl rfl rfl ?_
        show X 109 2 [vR 1] [vI (h 1 0)] h _
        refine X_iret (L := L_109) rfl rfl rfl rfl ?_
        show X 21 6 [vR 0, vI x2, vI x3, vI x4] [vI (h 1 0), vI x2] h _
        refine X_icmp (L := L_21) (n' := 9) rfl rfl rfl rfl (fun z4 => ?_) (fun z4 => ?_)
        · have z4 : x2 ≤ h 1 0 := z4
          replace H := H.1 z4
          show X 21 9 [vR 0, vI x2, vI x3, vI x4] [] h _
          refine X_b 1 10 (L := L_21) rfl rfl rfl ?_
          show X 21 10 [vR 0, vI x2, vI x3, vI x4] [vI x3] h _
          refine X_if (L := L_21) (n' := 26) rfl rfl rfl rfl (fun z5 => ?_) (fun z5 => ?_)
          · have z5 : x3 < 0 := z5
            replace H := H.1 z5
            show X 21 26 [vR 0, vI x2, vI x3, vI x4] [] h _
            refine X_b 1 27 (L := L_21) rfl rfl rfl ?_
            show X 21 27 [vR 0, vI x2, vI x3, vI x4] [vI 0] h _
            refine X_zret (L := L_21) rfl rfl rfl rfl (by decide) ?_
            show X 20 8 [vR 0, vI x1, vI x2, vI x3, vI x4] [vI 0] h _
            refine X_if (L := L_20) (n' := 14) rfl rfl rfl rfl (fun z => absurd z (show ¬ (¬ (0 : Int) = (0 : Int)) by decide)) (fun _ => ?_)
            show X 20 9 [vR 0, vI x1, vI x2, vI x3, vI x4] [] h _
            refine X_thr 0 sg_thr_20_9 rfl (Nat.le_of_ble_eq_true rfl) ?_
            exact ⟨2, by decide, H⟩
          · have z5 : 0 ≤ x3 := (Int.not_lt.mp z5)
            replace H := H.2 z5
            show X 21 11 [vR 0, vI x2, vI x3, vI x4] [] h _
            obtain ⟨c6, H⟩ := H
            refine X_b 6 17 (L := L_21) rfl rfl rfl ?_
            show (0 ≤ x2 ∧ x2 < 9) ∧ X 21 17 [vR 0, vI x2, vI x3, vI x4] [vI (h 8 x2), vI x3] h _
            refine ⟨c6, ?_⟩
            refine X_icmp (L := L_21) (n' := 26) rfl rfl rfl rfl (fun z7 => ?_) (fun z7 => ?_)
            · have z7 : h 8 x2 < x3 := z7
              replace H := H.1 z7
              show X 21 26 [vR 0, vI x2, vI x3, vI x4] [] h _
              refine X_b 1 27 (L := L_21) rfl rfl rfl ?_
              show X 21 27 [vR 0, vI x2, vI x3, vI x4] [vI 0] h _
              refine X_zret (L := L_21) rfl rfl rfl rfl (by decide) ?_
              show X 20 8 [vR 0, vI x1, vI x2, vI x3, vI x4] [vI 0] h _
              refine X_if (L := L_20) (n' := 14) rfl rfl rfl rfl (fun z => absurd z (show ¬ (¬ (0 : Int) = (0 : Int)) by decide)) (fun _ => ?_)
              show X 20 9 [vR 0, vI x1, vI x2, vI x3, vI x4] [] h _
              refine X_thr 0 sg_thr_20_9 rfl (Nat.le_of_ble_eq_true rfl) ?_
              exact ⟨2, by decide, H⟩
            · have z7 : x3 ≤ h 8 x2 := (Int.not_lt.mp z7)
              replace H := H.2 z7
              show X 21 18 [vR 0, vI x2, vI x3, vI x4] [] h _
              refine X_b 2 20 (L := L_21) rfl rfl rfl ?_
              show X 21 20 [vR 0, vI x2, vI x3, vI x4] [vI 4, vI x4] h _
              refine X_icmp (L := L_21) (n' := 26) rfl rfl rfl rfl (fun z8 => ?_) (fun z8 => ?_)
              · have z8 : x4 < 4 := z8
                replace H := H.1 z8
                show X 21 26 [vR 0, vI x2, vI x3, vI x4] [] h _
                refine X_b 1 27 (L := L_21) rfl rfl rfl ?_
                show X 21 27 [vR 0, vI x2, vI x3, vI x4] [vI 0] h _
                refine X_zret (L := L_21) rfl rfl rfl rfl (by decide) ?_
                show X 20 8 [vR 0, vI x1, vI x2, vI x3, vI x4] [vI 0] h _
                refine X_if (L := L_20) (n' := 14) rfl rfl rfl rfl (fun z => absurd z (show ¬ (¬ (0 : Int) = (0 : Int)) by decide)) (fun _ => ?_)
                show X 20 9 [vR 0, vI x1, vI x2, vI x3, vI x4] [] h _
                refine X_thr 0 sg_thr_20_9 rfl (Nat.le_of_ble_eq_true rfl) ?_
                exact ⟨2, by decide, H⟩
              · have z8 : 4 ≤ x4 := (Int.not_lt.mp z8)
                replace H := H.2 z8
                show X 21 21 [vR 0, vI x2, vI x3, vI x4] [] h _
                refine X_b 2 23 (L := L_21) rfl rfl rfl ?_
                show X 21 23 [vR 0, vI x2, vI x3, vI x4] [vI 9, vI x4] h _
                refine X_icmp (L := L_21) (n' := 26) rfl rfl rfl rfl (fun z9 => ?_) (fun z9 => ?_)
                · have z9 : 9 < x4 := z9
                  replace H := H.1 z9
                  show X 21 26 [vR 0, vI x2, vI x3, vI x4] [] h _
                  refine X_b 1 27 (L := L_21) rfl rfl rfl ?_
                  show X 21 27 [vR 0, vI x2, vI x3, vI x4] [vI 0] h _
                  refine X_zret (L := L_21) rfl rfl rfl rfl (by decide) ?_
                  show X 20 8 [vR 0, vI x1, vI x2, vI x3, vI x4] [vI 0] h _
                  refine X_if (L := L_20) (n' := 14) rfl rfl rfl rfl (fun z => absurd z (show ¬ (¬ (0 : Int) = (0 : Int)) by decide)) (fun _ => ?_)
                  show X 20 9 [vR 0, vI x1, vI x2, vI x3, vI x4] [] h _
                  refine X_thr 0 sg_thr_20_9 rfl (Nat.le_of_ble_eq_true rfl) ?_
                  exact ⟨2, by decide, H⟩
                · have z9 : x4 ≤ 9 := (Int.not_lt.mp z9)
                  replace H := H.2 z9
                  show X 21 24 [vR 0, vI x2, vI x3, vI x4] [] h _
                  obtain ⟨⟨c10, c11, c12, c13, c14⟩, H⟩ := H
                  refine X_b 1 25 (L := L_21) rfl rfl rfl ?_
                  show X 21 25 [vR 0, vI x2, vI x3, vI x4] [vI 1] h _
                  refine X_goto (L := L_21) (n' := 27) rfl rfl rfl rfl ?_
                  show X 21 27 [vR 0, vI x2, vI x3, vI x4] [vI 1] h _
                  refine X_zret (L := L_21) rfl rfl rfl rfl (by decide) ?_
                  show X 20 8 [vR 0, vI x1, vI x2, vI x3, vI x4] [vI 1] h _
                  refine X_if (L := L_20) (n' := 14) rfl rfl rfl rfl (fun _ => ?_) (fun z => absurd (show ¬ (1 : Int) = (0 : Int) by decide) z)
                  show X 20 14 [vR 0, vI x1, vI x2, vI x3, vI x4] [] h _
                  refine X_ret (L := L_20) rfl rfl rfl rfl ?_
                  show X 7 6 [vR 0, vI x1, vI x2, vI x3, vI x4] [] h _
                  refine X_b 6 12 (L := L_7) rfl rfl rfl ?_
                  show X 7 12 [vR 0, vI x1, vI x2, vI x3, vI x4] [vI x4, vI x3, vI x2, vI x1, vR 2] h _
                  refine X_call 82 [vR 2, vI x1, vI x2, vI x3, vI x4] [] rfl (sg_calv rfl rfl rfl rfl rfl rfl rfl rfl rfl rfl rfl) (by decide) ?_
                  show X 82 0 [vR 2, vI x1, vI x2, vI x3, vI x4] [] h _
                  refine X_b 7 7 (L := L_82) rfl rfl rfl ?_
                  show (-2147483648 ≤ x1 * 45 ∧ x1 * 45 ≤ 2147483647) ∧ X 82 7 [vR 2, vI x1, vI x2, vI x3, vI x4] [vI x3, vI x2, vI (x1 * 45), vR 13] h _
                  refine ⟨c10, ?_⟩
                  refine X_call 27 [vI x2, vI x3] [vI (x1 * 45), vR 13] rfl (sg_cals rfl rfl rfl rfl rfl rfl rfl rfl rfl rfl) (by decide) ?_
                  show X 27 0 [vI x2, vI x3] [] h _
                  refine X_b 5 5 (L := L_27) rfl rfl rfl ?_
                  show (-2147483648 ≤ x2 * 5 ∧ x2 * 5 ≤ 2147483647) ∧ (-2147483648 ≤ (x2 * 5) + x3 ∧ (x2 * 5) + x3 ≤ 2147483647) ∧ X 27 5 [vI x2, vI x3] [vI ((x2 * 5) + x3)] h _
                  refine ⟨c11, c12, ?_⟩
                  refine X_iret (L := L_27) rfl rfl rfl rfl ?_
                  show X 82 8 [vR 2, vI x1, vI x2, vI x3, vI x4] [vI ((x2 * 5) + x3), vI (x1 * 45), vR 13] h _
                  refine X_b 4 12 (L := L_82) rfl rfl rfl ?_
                  show (-2147483648 ≤ (x1 * 45) + ((x2 * 5) + x3) ∧ (x1 * 45) + ((x2 * 5) + x3) ≤ 2147483647) ∧ (0 ≤ (x1 * 45) + ((x2 * 5) + x3) ∧ (x1 * 45) + ((x2 * 5) + x3) < 2250) ∧ X 82 12 [vR 2, vI x1, vI x2, vI x3, vI x4] [vI x4, vI (h 13 ((x1 * 45) + ((x2 * 5) + x3))), vI ((x1 * 45) + ((x2 * 5) + x3)), vR 13] h _
                  refine ⟨by have := c13; omega, c13, ?_⟩
                  refine X_call 26 [vI x4] [vI (h 13 ((x1 * 45) + ((x2 * 5) + x3))), vI ((x1 * 45) + ((x2 * 5) + x3)), vR 13] rfl (sg_cals rfl rfl rfl rfl rfl rfl rfl rfl rfl rfl) (by decide) ?_
                  show X 26 0 [vI x4] [] h _
                  refine X_b 5 5 (L := L_26) rfl rfl rfl ?_
                  show (-2147483648 ≤ x4 - 4 ∧ x4 - 4 ≤ 2147483647) ∧ X 26 5 [vI x4] [vI (b_shl 1 (x4 - 4))] h _
                  refine ⟨c14, ?_⟩
                  refine X_iret (L := L_26) rfl rfl rfl rfl ?_
                  show X 82 13 [vR 2, vI x1, vI x2, vI x3, vI x4] [vI (b_shl 1 (x4 - 4)), vI (h 13 ((x1 * 45) + ((x2 * 5) + x3))), vI ((x1 * 45) + ((x2 * 5) + x3)), vR 13] h _
                  refine X_b 2 15 (L := L_82) rfl rfl rfl ?_
                  show (0 ≤ (x1 * 45) + ((x2 * 5) + x3) ∧ (x1 * 45) + ((x2 * 5) + x3) < 2250) ∧ X 82 15 [vR 2, vI x1, vI x2, vI x3, vI x4] [] (ab_up h 13 ((x1 * 45) + ((x2 * 5) + x3)) (b_xor (h 13 ((x1 * 45) + ((x2 * 5) + x3))) (b_shl 1 (x4 - 4)))) _
                  refine ⟨c13, ?_⟩
                  refine X_ret (L := L_82) rfl rfl rfl rfl ?_
                  show X 7 13 [vR 0, vI x1, vI x2, vI x3, vI x4] [] (ab_up h 13 ((x1 * 45) + ((x2 * 5) + x3)) (b_xor (h 13 ((x1 * 45) + ((x2 * 5) + x3))) (b_shl 1 (x4 - 4)))) _
                  refine X_b 6 19 (L := L_7) rfl rfl rfl ?_
                  show X 7 19 [vR 0, vI x1, vI x2, vI x3, vI x4] [vI x4, vI x3, vI x2, vI x1, vR 2] (ab_up h 13 ((x1 * 45) + ((x2 * 5) + x3)) (b_xor (h 13 ((x1 * 45) + ((x2 * 5) + x3))) (b_shl 1 (x4 - 4)))) _
                  refine X_call 81 [vR 2, vI x1, vI x2, vI x3, vI x4] [] rfl (sg_calv rfl rfl rfl rfl rfl rfl rfl rfl rfl rfl rfl) (by decide) ?_
                  show X 81 0 [vR 2, vI x1, vI x2, vI x3, vI x4] [] (ab_up h 13 ((x1 * 45) + ((x2 * 5) + x3)) (b_xor (h 13 ((x1 * 45) + ((x2 * 5) + x3))) (b_shl 1 (x4 - 4)))) _
                  refine X_b 4 4 (L := L_81) rfl rfl rfl ?_
                  show X 81 4 [vR 2, vI x1, vI x2, vI x3, vI x4] [vI x3, vI x2, vI x1, vR 2] (ab_up h 13 ((x1 * 45) + ((x2 * 5) + x3)) (b_xor (h 13 ((x1 * 45) + ((x2 * 5) + x3))) (b_shl 1 (x4 - 4)))) _
                  refine X_call 80 [vR 2, vI x1, vI x2, vI x3] [] rfl (sg_calv rfl rfl rfl rfl rfl rfl rfl rfl rfl rfl rfl) (by decide) ?_
                  show X 80 0 [vR 2, vI x1, vI x2, vI x3] [] (ab_up h 13 ((x1 * 45) + ((x2 * 5) + x3)) (b_xor (h 13 ((x1 * 45) + ((x2 * 5) + x3))) (b_shl 1 (x4 - 4)))) _
                  refine X_b 7 7 (L := L_80) rfl rfl rfl ?_
                  show (-2147483648 ≤ x1 * 45 ∧ x1 * 45 ≤ 2147483647) ∧ X 80 7 [vR 2, vI x1, vI x2, vI x3] [vI x3, vI x2, vI (x1 * 45), vR 13] (ab_up h 13 ((x1 * 45) + ((x2 * 5) + x3)) (b_xor (h 13 ((x1 * 45) + ((x2 * 5) + x3))) (b_shl 1 (x4 - 4)))) _
                  refine ⟨c10, ?_⟩
                  refine X_call 27 [vI x2, vI x3] [vI (x1 * 45), vR 13] rfl (sg_cals rfl rfl rfl rfl rfl rfl rfl rfl rfl rfl) (by decide) ?_
                  show X 27 0 [vI x2, vI x3] [] (ab_up h 13 ((x1 * 45) + ((x2 * 5) + x3)) (b_xor (h 13 ((x1 * 45) + ((x2 * 5) + x3))) (b_shl 1 (x4 - 4)))) _
                  refine X_b 5 5 (L := L_27) rfl rfl rfl ?_
                  show (-2147483648 ≤ x2 * 5 ∧ x2 * 5 ≤ 2147483647) ∧ (-2147483648 ≤ (x2 * 5) + x3 ∧ (x2 * 5) + x3 ≤ 2147483647) ∧ X 27 5 [vI x2, vI x3] [vI ((x2 * 5) + x3)] (ab_up h 13 ((x1 * 45) + ((x2 * 5) + x3)) (b_xor (h 13 ((x1 * 45) + ((x2 * 5) + x3))) (b_shl 1 (x4 - 4)))) _
                  refine ⟨c11, c12, ?_⟩
                  refine X_iret (L := L_27) rfl rfl rfl rfl ?_
                  show X 80 8 [vR 2, vI x1, vI x2, vI x3] [vI ((x2 * 5) + x3), vI (x1 * 45), vR 13] (ab_up h 13 ((x1 * 45) + ((x2 * 5) + x3)) (b_xor (h 13 ((x1 * 45) + ((x2 * 5) + x3))) (b_shl 1 (x4 - 4)))) _
                  refine X_b 2 10 (L := L_80) rfl rfl rfl ?_
                  show (-2147483648 ≤ (x1 * 45) + ((x2 * 5) + x3) ∧ (x1 * 45) + ((x2 * 5) + x3) ≤ 2147483647) ∧ (0 ≤ (x1 * 45) + ((x2 * 5) + x3) ∧ (x1 * 45) + ((x2 * 5) + x3) < 2250) ∧ X 80 10 [vR 2, vI x1, vI x2, vI x3] [vI ((ab_up h 13 ((x1 * 45) + ((x2 * 5) + x3)) (b_xor (h 13 ((x1 * 45) + ((x2 * 5) + x3))) (b_shl 1 (x4 - 4)))) 13 ((x1 * 45) + ((x2 * 5) + x3)))] (ab_up h 13 ((x1 * 45) + ((x2 * 5) + x3)) (b_xor (h 13 ((x1 * 45) + ((x2 * 5) + x3))) (b_shl 1 (x4 - 4)))) _
                  refine ⟨by have := c13; omega, c13, ?_⟩
                  refine X_iret (L := L_80) rfl rfl rfl rfl ?_
                  show X 81 5 [vR 2, vI x1, vI x2, vI x3, vI x4] [vI ((ab_up h 13 ((x1 * 45) + ((x2 * 5) + x3)) (b_xor (h 13 ((x1 * 45) + ((x2 * 5) + x3))) (b_shl 1 (x4 - 4)))) 13 ((x1 * 45) + ((x2 * 5) + x3)))] (ab_up h 13 ((x1 * 45) + ((x2 * 5) + x3)) (b_xor (h 13 ((x1 * 45) + ((x2 * 5) + x3))) (b_shl 1 (x4 - 4)))) _
                  refine X_b 1 6 (L := L_81) rfl rfl rfl ?_
                  show X 81 6 [vR 2, vI x1, vI x2, vI x3, vI x4] [vI x4, vI ((ab_up h 13 ((x1 * 45) + ((x2 * 5) + x3)) (b_xor (h 13 ((x1 * 45) + ((x2 * 5) + x3))) (b_shl 1 (x4 - 4)))) 13 ((x1 * 45) + ((x2 * 5) + x3)))] (ab_up h 13 ((x1 * 45) + ((x2 * 5) + x3)) (b_xor (h 13 ((x1 * 45) + ((x2 * 5) + x3))) (b_shl 1 (x4 - 4)))) _
                  refine X_call 26 [vI x4] [vI ((ab_up h 13 ((x1 * 45) + ((x2 * 5) + x3)) (b_xor (h 13 ((x1 * 45) + ((x2 * 5) + x3))) (b_shl 1 (x4 - 4)))) 13 ((x1 * 45) + ((x2 * 5) + x3)))] rfl (sg_cals rfl rfl rfl rfl rfl rfl rfl rfl rfl rfl) (by decide) ?_
                  show X 26 0 [vI x4] [] (ab_up h 13 ((x1 * 45) + ((x2 * 5) + x3)) (b_xor (h 13 ((x1 * 45) + ((x2 * 5) + x3))) (b_shl 1 (x4 - 4)))) _
                  refine X_b 5 5 (L := L_26) rfl rfl rfl ?_
                  show (-2147483648 ≤ x4 - 4 ∧ x4 - 4 ≤ 2147483647) ∧ X 26 5 [vI x4] [vI (b_shl 1 (x4 - 4))] (ab_up h 13 ((x1 * 45) + ((x2 * 5) + x3)) (b_xor (h 13 ((x1 * 45) + ((x2 * 5) + x3))) (b_shl 1 (x4 - 4)))) _
                  refine ⟨c14, ?_⟩
                  refine X_iret (L := L_26) rfl rfl rfl rfl ?_
                  show X 81 7 [vR 2, vI x1, vI x2, vI x3, vI x4] [vI (b_shl 1 (x4 - 4)), vI ((ab_up h 13 ((x1 * 45) + ((x2 * 5) + x3)) (b_xor (h 13 ((x1 * 45) + ((x2 * 5) + x3))) (b_shl 1 (x4 - 4)))) 13 ((x1 * 45) + ((x2 * 5) + x3)))] (ab_up h 13 ((x1 * 45) + ((x2 * 5) + x3)) (b_xor (h 13 ((x1 * 45) + ((x2 * 5) + x3))) (b_shl 1 (x4 - 4)))) _
                  refine X_b 1 8 (L := L_81) rfl rfl rfl ?_
                  show X 81 8 [vR 2, vI x1, vI x2, vI x3, vI x4] [vI (b_and ((ab_up h 13 ((x1 * 45) + ((x2 * 5) + x3)) (b_xor (h 13 ((x1 * 45) + ((x2 * 5) + x3))) (b_shl 1 (x4 - 4)))) 13 ((x1 * 45) + ((x2 * 5) + x3))) (b_shl 1 (x4 - 4)))] (ab_up h 13 ((x1 * 45) + ((x2 * 5) + x3)) (b_xor (h 13 ((x1 * 45) + ((x2 * 5) + x3))) (b_shl 1 (x4 - 4)))) _
                  refine X_if (L := L_81) (n' := 11) rfl rfl rfl rfl (fun z15 => ?_) (fun z15 => ?_)
                  · have z15 : b_and ((ab_up h 13 ((x1 * 45) + ((x2 * 5) + x3)) (b_xor (h 13 ((x1 * 45) + ((x2 * 5) + x3))) (b_shl 1 (x4 - 4)))) 13 ((x1 * 45) + ((x2 * 5) + x3))) (b_shl 1 (x4 - 4)) = 0 := z15
                    replace H := H.1 z15
                    show X 81 11 [vR 2, vI x1, vI x2, vI x3, vI x4] [] (ab_up h 13 ((x1 * 45) + ((x2 * 5) + x3)) (b_xor (h 13 ((x1 * 45) + ((x2 * 5) + x3))) (b_shl 1 (x4 - 4)))) _
                    refine X_b 1 12 (L := L_81) rfl rfl rfl ?_
                    show X 81 12 [vR 2, vI x1, vI x2, vI x3, vI x4] [vI 0] (ab_up h 13 ((x1 * 45) + ((x2 * 5) + x3)) (b_xor (h 13 ((x1 * 45) + ((x2 * 5) + x3))) (b_shl 1 (x4 - 4)))) _
                    refine X_zret (L := L_81) rfl rfl rfl rfl (by decide) ?_
                    show X 7 20 [vR 0, vI x1, vI x2, vI x3, vI x4] [vI 0] (ab_up h 13 ((x1 * 45) + ((x2 * 5) + x3)) (b_xor (h 13 ((x1 * 45) + ((x2 * 5) + x3))) (b_shl 1 (x4 - 4)))) _
                    refine X_zret (L := L_7) rfl rfl rfl rfl (by decide) ?_
                    show X 132 8 [vR 0, vI x1, vI x2, vI x3, vI x4, vR 37, vJ 0] [vI 0, vI 0, vR 37] (ab_up h 13 ((x1 * 45) + ((x2 * 5) + x3)) (b_xor (h 13 ((x1 * 45) + ((x2 * 5) + x3))) (b_shl 1 (x4 - 4)))) _
                    refine X_if (L := L_132) (n' := 11) rfl rfl rfl rfl (fun _ => ?_) (fun z => absurd (show (0 : Int) = (0 : Int) by decide) z)
                    show X 132 11 [vR 0, vI x1, vI x2, vI x3, vI x4, vR 37, vJ 0] [vI 0, vR 37] (ab_up h 13 ((x1 * 45) + ((x2 * 5) + x3)) (b_xor (h 13 ((x1 * 45) + ((x2 * 5) + x3))) (b_shl 1 (x4 - 4)))) _
                    refine X_b 2 13 (L := L_132) rfl rfl rfl ?_
                    show (0 ≤ (0 : Int) ∧ (0 : Int) < 1) ∧ (-2147483648 ≤ (0 : Int) ∧ (0 : Int) ≤ 2147483647) ∧ X 132 13 [vR 0, vI x1, vI x2, vI x3, vI x4, vR 37, vJ 0] [] (ab_up (ab_up h 13 ((x1 * 45) + ((x2 * 5) + x3)) (b_xor (h 13 ((x1 * 45) + ((x2 * 5) + x3))) (b_shl 1 (x4 - 4)))) 37 0 0) _
                    refine ⟨by decide, by decide, ?_⟩
                    refine X_goto (L := L_132) (n' := 20) rfl rfl rfl rfl ?_
                    show X 132 20 [vR 0, vI x1, vI x2, vI x3, vI x4, vR 37, vJ 0] [] (ab_up (ab_up h 13 ((x1 * 45) + ((x2 * 5) + x3)) (b_xor (h 13 ((x1 * 45) + ((x2 * 5) + x3))) (b_shl 1 (x4 - 4)))) 37 0 0) _
                    refine X_b 1 21 (L := L_132) rfl rfl rfl ?_
                    show X 132 21 [vR 0, vI x1, vI x2, vI x3, vI x4, vR 37, vJ 0] [vI 0] (ab_up (ab_up h 13 ((x1 * 45) + ((x2 * 5) + x3)) (b_xor (h 13 ((x1 * 45) + ((x2 * 5) + x3))) (b_shl 1 (x4 - 4)))) 37 0 0) _
                    refine X_iret (L := L_132) rfl rfl rfl rfl ?_
                    exact H
                  · have z15 : ¬ b_and ((ab_up h 13 ((x1 * 45) + ((x2 * 5) + x3)) (b_xor (h 13 ((x1 * 45) + ((x2 * 5) + x3))) (b_shl 1 (x4 - 4)))) 13 ((x1 * 45) + ((x2 * 5) + x3))) (b_shl 1 (x4 - 4)) = 0 := z15
                    replace H := H.2 z15
                    show X 81 9 [vR 2, vI x1, vI x2, vI x3, vI x4] [] (ab_up h 13 ((x1 * 45) + ((x2 * 5) + x3)) (b_xor (h 13 ((x1 * 45) + ((x2 * 5) + x3))) (b_shl 1 (x4 - 4)))) _
                    refine X_b 1 10 (L := L_81) rfl rfl rfl ?_
                    show X 81 10 [vR 2, vI x1, vI x2, vI x3, vI x4] [vI 1] (ab_up h 13 ((x1 * 45) + ((x2 * 5) + x3)) (b_xor (h 13 ((x1 * 45) + ((x2 * 5) + x3))) (b_shl 1 (x4 - 4)))) _
                    refine X_goto (L := L_81) (n' := 12) rfl rfl rfl rfl ?_
                    show X 81 12 [vR 2, vI x1, vI x2, vI x3, vI x4] [vI 1] (ab_up h 13 ((x1 * 45) + ((x2 * 5) + x3)) (b_xor (h 13 ((x1 * 45) + ((x2 * 5) + x3))) (b_shl 1 (x4 - 4)))) _
                    refine X_zret (L := L_81) rfl rfl rfl rfl (by decide) ?_
                    show X 7 20 [vR 0, vI x1, vI x2, vI x3, vI x4] [vI 1] (ab_up h 13 ((x1 * 45) + ((x2 * 5) + x3)) (b_xor (h 13 ((x1 * 45) + ((x2 * 5) + x3))) (b_shl 1 (x4 - 4)))) _
                    refine X_zret (L := L_7) rfl rfl rfl rfl (by decide) ?_
                    show X 132 8 [vR 0, vI x1, vI x2, vI x3, vI x4, vR 37, vJ 0] [vI 1, vI 0, vR 37] (ab_up h 13 ((x1 * 45) + ((x2 * 5) + x3)) (b_xor (h 13 ((x1 * 45) + ((x2 * 5) + x3))) (b_shl 1 (x4 - 4)))) _
                    refine X_if (L := L_132) (n' := 11) rfl rfl rfl rfl (fun z => absurd z (show ¬ ((1 : Int) = (0 : Int)) by decide)) (fun _ => ?_)
                    show X 132 9 [vR 0, vI x1, vI x2, vI x3, vI x4, vR 37, vJ 0] [vI 0, vR 37] (ab_up h 13 ((x1 * 45) + ((x2 * 5) + x3)) (b_xor (h 13 ((x1 * 45) + ((x2 * 5) + x3))) (b_shl 1 (x4 - 4)))) _
                    refine X_b 1 10 (L := L_132) rfl rfl rfl ?_
                    show X 132 10 [vR 0, vI x1, vI x2, vI x3, vI x4, vR 37, vJ 0] [vJ 1, vI 0, vR 37] (ab_up h 13 ((x1 * 45) + ((x2 * 5) + x3)) (b_xor (h 13 ((x1 * 45) + ((x2 * 5) + x3))) (b_shl 1 (x4 - 4)))) _
                    refine X_goto (L := L_132) (n' := 12) rfl rfl rfl rfl ?_
                    show X 132 12 [vR 0, vI x1, vI x2, vI x3, vI x4, vR 37, vJ 0] [vJ 1, vI 0, vR 37] (ab_up h 13 ((x1 * 45) + ((x2 * 5) + x3)) (b_xor (h 13 ((x1 * 45) + ((x2 * 5) + x3))) (b_shl 1 (x4 - 4)))) _
                    refine X_b 1 13 (L := L_132) rfl rfl rfl ?_
                    show (0 ≤ (0 : Int) ∧ (0 : Int) < 1) ∧ (-2147483648 ≤ (1 : Int) ∧ (1 : Int) ≤ 2147483647) ∧ X 132 13 [vR 0, vI x1, vI x2, vI x3, vI x4, vR 37, vJ 0] [] (ab_up (ab_up h 13 ((x1 * 45) + ((x2 * 5) + x3)) (b_xor (h 13 ((x1 * 45) + ((x2 * 5) + x3))) (b_shl 1 (x4 - 4)))) 37 0 1) _
                    refine ⟨by decide, by decide, ?_⟩
                    refine X_goto (L := L_132) (n' := 20) rfl rfl rfl rfl ?_
                    show X 132 20 [vR 0, vI x1, vI x2, vI x3, vI x4, vR 37, vJ 0] [] (ab_up (ab_up h 13 ((x1 * 45) + ((x2 * 5) + x3)) (b_xor (h 13 ((x1 * 45) + ((x2 * 5) + x3))) (b_shl 1 (x4 - 4)))) 37 0 1) _
                    refine X_b 1 21 (L := L_132) rfl rfl rfl ?_
                    show X 132 21 [vR 0, vI x1, vI x2, vI x3, vI x4, vR 37, vJ 0] [vI 0] (ab_up (ab_up h 13 ((x1 * 45) + ((x2 * 5) + x3)) (b_xor (h 13 ((x1 * 45) + ((x2 * 5) + x3))) (b_shl 1 (x4 - 4)))) 37 0 1) _
                    refine X_iret (L := L_132) rfl rfl rfl rfl ?_
                    exact H
        · have z4 : h 1 0 < x2 := (Int.not_le.mp z4)
          replace H := H.2 z4
          show X 21 7 [vR 0, vI x2, vI x3, vI x4] [] h _
          refine X_b 1 8 (L := L_21) rfl rfl rfl ?_
          show X 21 8 [vR 0, vI x2, vI x3, vI x4] [vI 0] h _
          refine X_zret (L := L_21) rfl rfl rfl rfl (by decide) ?_
          show X 20 8 [vR 0, vI x1, vI x2, vI x3, vI x4] [vI 0] h _
          refine X_if (L := L_20) (n' := 14) rfl rfl rfl rfl (fun z => absurd z (show ¬ (¬ (0 : Int) = (0 : Int)) by decide)) (fun _ => ?_)
          show X 20 9 [vR 0, vI x1, vI x2, vI x3, vI x4] [] h _
          refine X_thr 0 sg_thr_20_9 rfl (Nat.le_of_ble_eq_true rfl) ?_
          exact ⟨2, by decide, H⟩
    · have z2 : h 2 0 ≤ x1 := (Int.not_lt.mp z2)
      replace H := H.2 z2
      show X 18 7 [vR 0, vI x1] [] h _
      refine X_thr 2 sg_thr_18_7 rfl (Nat.le_of_ble_eq_true rfl) ?_
      exact ⟨1, by decide, H⟩

/-- PPLaw.check, row 0 -/
theorem s_133_0 (h : ab_S) (K : ab_O → ab_S → Prop) (H : ((¬ h 2 0 = 0 → C 95 [vR 4] h (kI (fun v2 h2 => ((-2147483648 ≤ v2 ∧ v2 ≤ 2147483647)) ∧ K (oI 0) (ab_up h2 37 0 v2)))) ∧ (h 2 0 = 0 → K (oI 1) (ab_up h 39 0 ((h 39 0) + 1))))) : C 133 [vR 0, vR 37] h K := by
  show X 133 0 [vR 0, vR 37, vJ 0] [] h K
  refine X_b 3 3 (L := L_133) rfl rfl rfl ?_
  show X 133 3 [vR 0, vR 37, vJ 0] [vR 0, vI 0, vR 37] h _
  refine X_callH 8 [vR 0] [vI 0, vR 37] rfl (sg_calv rfl rfl rfl rfl rfl rfl rfl rfl rfl rfl rfl) ?_
  show X 8 0 [vR 0] [] h _
  refine X_b 1 1 (L := L_8) rfl rfl rfl ?_
  show X 8 1 [vR 0] [vR 0] h _
  refine X_call 17 [vR 0] [] rfl (sg_calv rfl rfl rfl rfl rfl rfl rfl rfl rfl rfl rfl) (by decide) ?_
  show X 17 0 [vR 0] [] h _
  refine X_b 3 3 (L := L_17) rfl rfl rfl ?_
  show X 17 3 [vR 0] [vI (h 2 0)] h _
  refine X_if (L := L_17) (n' := 9) rfl rfl rfl rfl (fun z1 => ?_) (fun z1 => ?_)
  · have z1 : ¬ h 2 0 = 0 := z1
    replace H := H.1 z1
    show X 17 9 [vR 0] [] h _
    refine X_ret (L := L_17) rfl rfl rfl rfl ?_
    show X 8 2 [vR 0] [] h _
    refine X_b 2 4 (L := L_8) rfl rfl rfl ?_
    show X 8 4 [vR 0] [vR 4] h _
    refine X_call 95 [vR 4] [] rfl (sg_calv rfl rfl rfl rfl rfl rfl rfl rfl rfl rfl rfl) (by decide) ?_
    refine C_mono H (kI_to ?_)
    intro v2 h2 H
    show X 8 5 [vR 0] [vI v2] h2 _
    obtain ⟨c3, H⟩ := H
    refine X_iret (L := L_8) rfl rfl rfl rfl ?_
    show X 133 4 [vR 0, vR 37, vJ 0] [vI v2, vI 0, vR 37] h2 _
    refine X_b 2 6 (L := L_133) rfl rfl rfl ?_
    show (0 ≤ (0 : Int) ∧ (0 : Int) < 1) ∧ (-2147483648 ≤ v2 ∧ v2 ≤ 2147483647) ∧ X 133 6 [vR 0, vR 37, vJ 0] [] (ab_up h2 37 0 v2) _
    refine ⟨by decide, c3, ?_⟩
    refine X_goto (L := L_133) (n' := 10) rfl rfl rfl rfl ?_
    show X 133 10 [vR 0, vR 37, vJ 0] [] (ab_up h2 37 0 v2) _
    refine X_b 1 11 (L := L_133) rfl rfl rfl ?_
    show X 133 11 [vR 0, vR 37, vJ 0] [vI 0] (ab_up h2 37 0 v2) _
    refine X_iret (L := L_133) rfl rfl rfl rfl ?_
    exact H
  · have z1 : h 2 0 = 0 := (Classical.not_not.mp z1)
    replace H := H.2 z1
    show X 17 4 [vR 0] [] h _
    refine X_thr 1 sg_thr_17_4 rfl (Nat.le_of_ble_eq_true rfl) ?_
    exact ⟨1, by decide, H⟩

/-- PPLaw.parse, row 0 -/
theorem s_134_0 (x1 : Int) (h : ab_S) (K : ab_O → ab_S → Prop) (H : ((¬ h 2 0 = 0 → ((x1 < 0 → K (oI 2) (ab_up h 39 0 ((h 39 0) + 1))) ∧ (0 ≤ x1 → ((x1 ≤ 400 → C 118 [vR 5, vI x1] h (kI (fun v4 h4 => ((-2147483648 ≤ v4 ∧ v4 ≤ 2147483647)) ∧ K (oI 0) (ab_up h4 37 0 v4)))) ∧ (400 < x1 → K (oI 2) (ab_up h 39 0 ((h 39 0) + 1))))))) ∧ (h 2 0 = 0 → K (oI 1) (ab_up h 39 0 ((h 39 0) + 1))))) : C 134 [vR 0, vI x1, vR 37] h K := by
  show X 134 0 [vR 0, vI x1, vR 37, vJ 0] [] h K
  refine X_b 4 4 (L := L_134) rfl rfl rfl ?_
  show X 134 4 [vR 0, vI x1, vR 37, vJ 0] [vI x1, vR 0, vI 0, vR 37] h _
  refine X_callH 12 [vR 0, vI x1] [vI 0, vR 37] rfl (sg_calv rfl rfl rfl rfl rfl rfl rfl rfl rfl rfl rfl) ?_
  show X 12 0 [vR 0, vI x1] [] h _
  refine X_b 1 1 (L := L_12) rfl rfl rfl ?_
  show X 12 1 [vR 0, vI x1] [vR 0] h _
  refine X_call 17 [vR 0] [] rfl (sg_calv rfl rfl rfl rfl rfl rfl rfl rfl rfl rfl rfl) (by decide) ?_
  show X 17 0 [vR 0] [] h _
  refine X_b 3 3 (L := L_17) rfl rfl rfl ?_
  show X 17 3 [vR 0] [vI (h 2 0)] h _
  refine X_if (L := L_17) (n' := 9) rfl rfl rfl rfl (fun z1 => ?_) (fun z1 => ?_)
  · have z1 : ¬ h 2 0 = 0 := z1
    replace H := H.1 z1
    show X 17 9 [vR 0] [] h _
    refine X_ret (L := L_17) rfl rfl rfl rfl ?_
    show X 12 2 [vR 0, vI x1] [] h _
    refine X_b 1 3 (L := L_12) rfl rfl rfl ?_
    show X 12 3 [vR 0, vI x1] [vI x1] h _
    refine X_if (L := L_12) (n' := 7) rfl rfl rfl rfl (fun z2 => ?_) (fun z2 => ?_)
    · have z2 : x1 < 0 := z2
      replace H := H.1 z2
      show X 12 7 [vR 0, vI x1] [] h _
      refine X_thr 0 sg_thr_12_7 rfl (Nat.le_of_ble_eq_true rfl) ?_
      exact ⟨2, by decide, H⟩
    · have z2 : 0 ≤ x1 := (Int.not_lt.mp z2)
      replace H := H.2 z2
      show X 12 4 [vR 0, vI x1] [] h _
      refine X_b 2 6 (L := L_12) rfl rfl rfl ?_
      show X 12 6 [vR 0, vI x1] [vI 400, vI x1] h _
      refine X_icmp (L := L_12) (n' := 12) rfl rfl rfl rfl (fun z3 => ?_) (fun z3 => ?_)
      · have z3 : x1 ≤ 400 := z3
        replace H := H.1 z3
        show X 12 12 [vR 0, vI x1] [] h _
        refine X_b 3 15 (L := L_12) rfl rfl rfl ?_
        show X 12 15 [vR 0, vI x1] [vI x1, vR 5] h _
        refine X_call 118 [vR 5, vI x1] [] rfl (sg_calv rfl rfl rfl rfl rfl rfl rfl rfl rfl rfl rfl) (by decide) ?_
        refine C_mono H (kI_to ?_)
        intro v4 h4 H
        show X 12 16 [vR 0, vI x1] [vI v4] h4 _
        obtain ⟨c5, H⟩ := H
        refine X_iret (L := L_12) rfl rfl rfl rfl ?_
        show X 134 5 [vR 0, vI x1, vR 37, vJ 0] [vI v4, vI 0, vR 37] h4 _
        refine X_b 2 7 (L := L_134) rfl rfl rfl ?_
        show (0 ≤ (0 : Int) ∧ (0 : Int) < 1) ∧ (-2147483648 ≤ v4 ∧ v4 ≤ 2147483647) ∧ X 134 7 [vR 0, vI x1, vR 37, vJ 0] [] (ab_up h4 37 0 v4) _
        refine ⟨by decide, c5, ?_⟩
        refine X_goto (L := L_134) (n' := 14) rfl rfl rfl rfl ?_
        show X 134 14 [vR 0, vI x1, vR 37, vJ 0] [] (ab_up h4 37 0 v4) _
        refine X_b 1 15 (L := L_134) rfl rfl rfl ?_
        show X 134 15 [vR 0, vI x1, vR 37, vJ 0] [vI 0] (ab_up h4 37 0 v4) _
        refine X_iret (L := L_134) rfl rfl rfl rfl ?_
        exact H
      · have z3 : 400 < x1 := (Int.not_le.mp z3)
        replace H := H.2 z3
        show X 12 7 [vR 0, vI x1] [] h _
        refine X_thr 0 sg_thr_12_7 rfl (Nat.le_of_ble_eq_true rfl) ?_
        exact ⟨2, by decide, H⟩
  · have z1 : h 2 0 = 0 := (Classical.not_not.mp z1)
    replace H := H.2 z1
    show X 17 4 [vR 0] [] h _
    refine X_thr 1 sg_thr_17_4 rfl (Nat.le_of_ble_eq_true rfl) ?_
    exact ⟨1, by decide, H⟩

/-- PPLaw.node, row 0 -/
theorem s_135_0 (x1 x2 : Int) (h : ab_S) (K : ab_O → ab_S → Prop) (H : ((x1 < 0 → K (oI 1) (ab_up h 39 0 ((h 39 0) + 1))) ∧ (0 ≤ x1 → ((x1 < h 5 9 → ((x2 < 0 → K (oI 2) (ab_up h 39 0 ((h 39 0) + 1))) ∧ (0 ≤ x2 → ((x2 < 5 → ((-2147483648 ≤ x1 * 5 ∧ x1 * 5 ≤ 2147483647) ∧ (0 ≤ (x1 * 5) + x2 ∧ (x1 * 5) + x2 < 300) ∧ (-2147483648 ≤ h 19 ((x1 * 5) + x2) ∧ h 19 ((x1 * 5) + x2) ≤ 2147483647)) ∧ K (oI 0) (ab_up h 37 0 (h 19 ((x1 * 5) + x2)))) ∧ (5 ≤ x2 → K (oI 2) (ab_up h 39 0 ((h 39 0) + 1))))))) ∧ (h 5 9 ≤ x1 → K (oI 1) (ab_up h 39 0 ((h 39 0) + 1))))))) : C 135 [vR 0, vI x1, vI x2, vR 37] h K := by
  show X 135 0 [vR 0, vI x1, vI x2, vR 37, vJ 0] [] h K
  refine X_b 5 5 (L := L_135) rfl rfl rfl ?_
  show X 135 5 [vR 0, vI x1, vI x2, vR 37, vJ 0] [vI x2, vI x1, vR 0, vI 0, vR 37] h _
  refine X_callH 14 [vR 0, vI x1, vI x2] [vI 0, vR 37] rfl (sg_calv rfl rfl rfl rfl rfl rfl rfl rfl rfl rfl rfl) ?_
  show X 14 0 [vR 0, vI x1, vI x2] [] h _
  refine X_b 1 1 (L := L_14) rfl rfl rfl ?_
  show X 14 1 [vR 0, vI x1, vI x2] [vI x1] h _
  refine X_if (L := L_14) (n' := 7) rfl rfl rfl rfl (fun z1 => ?_) (fun z1 => ?_)
  · have z1 : x1 < 0 := z1
    replace H := H.1 z1
    show X 14 7 [vR 0, vI x1, vI x2] [] h _
    refine X_thr 2 sg_thr_14_7 rfl (Nat.le_of_ble_eq_true rfl) ?_
    exact ⟨1, by decide, H⟩
  · have z1 : 0 ≤ x1 := (Int.not_lt.mp z1)
    replace H := H.2 z1
    show X 14 2 [vR 0, vI x1, vI x2] [] h _
    refine X_b 4 6 (L := L_14) rfl rfl rfl ?_
    show X 14 6 [vR 0, vI x1, vI x2] [vI (h 5 9), vI x1] h _
    refine X_icmp (L := L_14) (n' := 12) rfl rfl rfl rfl (fun z2 => ?_) (fun z2 => ?_)
    · have z2 : x1 < h 5 9 := z2
      replace H := H.1 z2
      show X 14 12 [vR 0, vI x1, vI x2] [] h _
      refine X_b 1 13 (L := L_14) rfl rfl rfl ?_
      show X 14 13 [vR 0, vI x1, vI x2] [vI x2] h _
      refine X_if (L := L_14) (n' := 17) rfl rfl rfl rfl (fun z3 => ?_) (fun z3 => ?_)
      · have z3 : x2 < 0 := z3
        replace H := H.1 z3
        show X 14 17 [vR 0, vI x1, vI x2] [] h _
        refine X_thr 0 sg_thr_14_17 rfl (Nat.le_of_ble_eq_true rfl) ?_
        exact ⟨2, by decide, H⟩
      · have z3 : 0 ≤ x2 := (Int.not_lt.mp z3)
        replace H := H.2 z3
        show X 14 14 [vR 0, vI x1, vI x2] [] h _
        refine X_b 2 16 (L := L_14) rfl rfl rfl ?_
        show X 14 16 [vR 0, vI x1, vI x2] [vI 5, vI x2] h _
        refine X_icmp (L := L_14) (n' := 22) rfl rfl rfl rfl (fun z4 => ?_) (fun z4 => ?_)
        · have z4 : x2 < 5 := z4
          replace H := H.1 z4
          show X 14 22 [vR 0, vI x1, vI x2] [] h _
          obtain ⟨⟨c5, c6, c7⟩, H⟩ := H
          refine X_b 4 26 (L := L_14) rfl rfl rfl ?_
          show X 14 26 [vR 0, vI x1, vI x2] [vI x2, vI x1, vR 5] h _
          refine X_call 117 [vR 5, vI x1, vI x2] [] rfl (sg_calv rfl rfl rfl rfl rfl rfl rfl rfl rfl rfl rfl) (by decide) ?_
          show X 117 0 [vR 5, vI x1, vI x2] [] h _
          refine X_b 8 8 (L := L_117) rfl rfl rfl ?_
          show (-2147483648 ≤ x1 * 5 ∧ x1 * 5 ≤ 2147483647) ∧ (-2147483648 ≤ (x1 * 5) + x2 ∧ (x1 * 5) + x2 ≤ 2147483647) ∧ (0 ≤ (x1 * 5) + x2 ∧ (x1 * 5) + x2 < 300) ∧ X 117 8 [vR 5, vI x1, vI x2] [vI (h 19 ((x1 * 5) + x2))] h _
          refine ⟨c5, by have := c6; omega, c6, ?_⟩
          refine X_iret (L := L_117) rfl rfl rfl rfl ?_
          show X 14 27 [vR 0, vI x1, vI x2] [vI (h 19 ((x1 * 5) + x2))] h _
          refine X_iret (L := L_14) rfl rfl rfl rfl ?_
          show X 135 6 [vR 0, vI x1, vI x2, vR 37, vJ 0] [vI (h 19 ((x1 * 5) + x2)), vI 0, vR 37] h _
          refine X_b 2 8 (L := L_135) rfl rfl rfl ?_
          show (0 ≤ (0 : Int) ∧ (0 : Int) < 1) ∧ (-2147483648 ≤ h 19 ((x1 * 5) + x2) ∧ h 19 ((x1 * 5) + x2) ≤ 2147483647) ∧ X 135 8 [vR 0, vI x1, vI x2, vR 37, vJ 0] [] (ab_up h 37 0 (h 19 ((x1 * 5) + x2))) _
          refine ⟨by decide, c7, ?_⟩
          refine X_goto (L := L_135) (n' := 15) rfl rfl rfl rfl ?_
          show X 135 15 [vR 0, vI x1, vI x2, vR 37, vJ 0] [] (ab_up h 37 0 (h 19 ((x1 * 5) + x2))) _
          refine X_b 1 16 (L := L_135) rfl rfl rfl ?_
          show X 135 16 [vR 0, vI x1, vI x2, vR 37, vJ 0] [vI 0] (ab_up h 37 0 (h 19 ((x1 * 5) + x2))) _
          refine X_iret (L := L_135) rfl rfl rfl rfl ?_
          exact H
        · have z4 : 5 ≤ x2 := (Int.not_lt.mp z4)
          replace H := H.2 z4
          show X 14 17 [vR 0, vI x1, vI x2] [] h _
          refine X_thr 0 sg_thr_14_17 rfl (Nat.le_of_ble_eq_true rfl) ?_
          exact ⟨2, by decide, H⟩
    · have z2 : h 5 9 ≤ x1 := (Int.not_lt.mp z2)
      replace H := H.2 z2
      show X 14 7 [vR 0, vI x1, vI x2] [] h _
      refine X_thr 2 sg_thr_14_7 rfl (Nat.le_of_ble_eq_true rfl) ?_
      exact ⟨1, by decide, H⟩

set_option maxRecDepth 8192 in
/-- PPLaw.law, row 13 -/
theorem s_136_13 (x4 : Int) (w5 w6 : ab_V) (h : ab_S) (K : ab_O → ab_S → Prop) (H : ((-2147483648 ≤ (h 38 (-1)) - 5 ∧ (h 38 (-1)) - 5 ≤ 2147483647)) ∧ (((h 38 (-1)) - 5 < x4 → K (oI 1) h) ∧ (x4 ≤ (h 38 (-1)) - 5 → ((0 ≤ x4 ∧ x4 < h 38 (-1))) ∧ (((b_and (h 38 x4) 15) = 0 → ((-2147483648 ≤ x4 + 1 ∧ x4 + 1 ≤ 2147483647) ∧ (0 ≤ x4 + 1 ∧ x4 + 1 < h 38 (-1))) ∧ C 127 [vR 0, vI (h 38 (x4 + 1)), vR 37] h (kI (fun v7 h7 => ((-2147483648 ≤ x4 + 1 ∧ x4 + 1 ≤ 2147483647) ∧ (0 ≤ x4 + 1 ∧ x4 + 1 < h7 38 (-1))) ∧ C 32 [vR 6, vI (h7 38 (x4 + 1))] h7 (kI (fun v10 h10 => ((h10 6 0 = v7 → ((¬ v7 = 0 → ((-2147483648 ≤ x4 + 5 ∧ x4 + 5 ≤ 2147483647)) ∧ X 136 13 [vR 38, vR 0, vR 6, vR 37, vI (x4 + 5), vI v7, vI v10] [] h10 K) ∧ (v7 = 0 → ((h10 37 0 = v10 → ((-2147483648 ≤ x4 + 5 ∧ x4 + 5 ≤ 2147483647)) ∧ X 136 13 [vR 38, vR 0, vR 6, vR 37, vI (x4 + 5), vI v7, vI v10] [] h10 K) ∧ (¬ h10 37 0 = v10 → K (oI 0) h10))))) ∧ (¬ h10 6 0 = v7 → K (oI 0) h10))))))) ∧ ((b_and (h 38 x4) 15) = 1 → C 1 [vR 0] h (kV (fun h16 => C 34 [vR 6] h16 (kV (fun h17 => ((-2147483648 ≤ x4 + 5 ∧ x4 + 5 ≤ 2147483647)) ∧ X 136 13 [vR 38, vR 0, vR 6, vR 37, vI (x4 + 5), w5, w6] [] h17 K))))) ∧ ((b_and (h 38 x4) 15) = 2 → C 128 [vR 0, vR 37] h (kI (fun v19 h19 => C 49 [vR 6] h19 (kI (fun v20 h20 => ((h20 6 0 = v19 → ((¬ v19 = 0 → ((-2147483648 ≤ x4 + 5 ∧ x4 + 5 ≤ 2147483647)) ∧ X 136 13 [vR 38, vR 0, vR 6, vR 37, vI (x4 + 5), vI v19, vI v20] [] h20 K) ∧ (v19 = 0 → ((h20 37 0 = v20 → ((-2147483648 ≤ x4 + 5 ∧ x4 + 5 ≤ 2147483647)) ∧ X 136 13 [vR 38, vR 0, vR 6, vR 37, vI (x4 + 5), vI v19, vI v20] [] h20 K) ∧ (¬ h20 37 0 = v20 → K (oI 0) h20))))) ∧ (¬ h20 6 0 = v19 → K (oI 0) h20))))))) ∧ ((b_and (h 38 x4) 15) = 3 → C 3 [vR 0] h (kI (fun v26 h26 => C 50 [vR 6] h26 (kI (fun v27 h27 => ((v26 = v27 → ((-2147483648 ≤ x4 + 5 ∧ x4 + 5 ≤ 2147483647)) ∧ X 136 13 [vR 38, vR 0, vR 6, vR 37, vI (x4 + 5), w5, w6] [] h27 K) ∧ (¬ v26 = v27 → K (oI 0) h27))))))) ∧ ((b_and (h 38 x4) 15) = 4 → ((-2147483648 ≤ x4 + 1 ∧ x4 + 1 ≤ 2147483647) ∧ (0 ≤ x4 + 1 ∧ x4 + 1 < h 38 (-1)) ∧ (-2147483648 ≤ x4 + 2 ∧ x4 + 2 ≤ 2147483647) ∧ (0 ≤ x4 + 2 ∧ x4 + 2 < h 38 (-1))) ∧ C 129 [vR 0, vI (h 38 (x4 + 1)), vI (h 38 (x4 + 2)), vR 37] h (kI (fun v34 h34 => ((-2147483648 ≤ x4 + 1 ∧ x4 + 1 ≤ 2147483647) ∧ (0 ≤ x4 + 1 ∧ x4 + 1 < h34 38 (-1)) ∧ (-2147483648 ≤ x4 + 2 ∧ x4 + 2 ≤ 2147483647) ∧ (0 ≤ x4 + 2 ∧ x4 + 2 < h34 38 (-1))) ∧ C 53 [vR 6, vI (h34 38 (x4 + 1)), vI (h34 38 (x4 + 2))] h34 (kI (fun v39 h39 => ((h39 6 0 = v34 → ((¬ v34 = 0 → ((-2147483648 ≤ x4 + 5 ∧ x4 + 5 ≤ 2147483647)) ∧ X 136 13 [vR 38, vR 0, vR 6, vR 37, vI (x4 + 5), vI v34, vI v39] [] h39 K) ∧ (v34 = 0 → ((h39 37 0 = v39 → ((-2147483648 ≤ x4 + 5 ∧ x4 + 5 ≤ 2147483647)) ∧ X 136 13 [vR 38, vR 0, vR 6, vR 37, vI (x4 + 5), vI v34, vI v39] [] h39 K) ∧ (¬ h39 37 0 = v39 → K (oI 0) h39))))) ∧ (¬ h39 6 0 = v34 → K (oI 0) h39))))))) ∧ ((b_and (h 38 x4) 15) = 5 → ((-2147483648 ≤ x4 + 1 ∧ x4 + 1 ≤ 2147483647) ∧ (0 ≤ x4 + 1 ∧ x4 + 1 < h 38 (-1)) ∧ (-2147483648 ≤ x4 + 2 ∧ x4 + 2 ≤ 2147483647) ∧ (0 ≤ x4 + 2 ∧ x4 + 2 < h 38 (-1)) ∧ (-2147483648 ≤ x4 + 3 ∧ x4 + 3 ≤ 2147483647) ∧ (0 ≤ x4 + 3 ∧ x4 + 3 < h 38 (-1))) ∧ C 130 [vR 0, vI (h 38 (x4 + 1)), vI (h 38 (x4 + 2)), vI (h 38 (x4 + 3))] h (kI (fun v51 h51 => ((-2147483648 ≤ x4 + 1 ∧ x4 + 1 ≤ 2147483647) ∧ (0 ≤ x4 + 1 ∧ x4 + 1 < h51 38 (-1)) ∧ (-2147483648 ≤ x4 + 2 ∧ x4 + 2 ≤ 2147483647) ∧ (0 ≤ x4 + 2 ∧ x4 + 2 < h51 38 (-1)) ∧ (-2147483648 ≤ x4 + 3 ∧ x4 + 3 ≤ 2147483647) ∧ (0 ≤ x4 + 3 ∧ x4 + 3 < h51 38 (-1))) ∧ C 54 [vR 6, vI (h51 38 (x4 + 1)), vI (h51 38 (x4 + 2)), vI (h51 38 (x4 + 3))] h51 (kV (fun h58 => ((h58 6 0 = v51 → ((-2147483648 ≤ x4 + 5 ∧ x4 + 5 ≤ 2147483647)) ∧ X 136 13 [vR 38, vR 0, vR 6, vR 37, vI (x4 + 5), vI v51, w6] [] h58 K) ∧ (¬ h58 6 0 = v51 → K (oI 0) h58))))))) ∧ ((b_and (h 38 x4) 15) = 6 → ((-2147483648 ≤ x4 + 1 ∧ x4 + 1 ≤ 2147483647) ∧ (0 ≤ x4 + 1 ∧ x4 + 1 < h 38 (-1)) ∧ (-2147483648 ≤ x4 + 2 ∧ x4 + 2 ≤ 2147483647) ∧ (0 ≤ x4 + 2 ∧ x4 + 2 < h 38 (-1)) ∧ (-2147483648 ≤ x4 + 3 ∧ x4 + 3 ≤ 2147483647) ∧ (0 ≤ x4 + 3 ∧ x4 + 3 < h 38 (-1)) ∧ (-2147483648 ≤ x4 + 4 ∧ x4 + 4 ≤ 2147483647) ∧ (0 ≤ x4 + 4 ∧ x4 + 4 < h 38 (-1))) ∧ C 131 [vR 0, vI (h 38 (x4 + 1)), vI (h 38 (x4 + 2)), vI (h 38 (x4 + 3)), vI (h 38 (x4 + 4)), vR 37] h (kI (fun v69 h69 => ((-2147483648 ≤ x4 + 1 ∧ x4 + 1 ≤ 2147483647) ∧ (0 ≤ x4 + 1 ∧ x4 + 1 < h69 38 (-1)) ∧ (-2147483648 ≤ x4 + 2 ∧ x4 + 2 ≤ 2147483647) ∧ (0 ≤ x4 + 2 ∧ x4 + 2 < h69 38 (-1)) ∧ (-2147483648 ≤ x4 + 3 ∧ x4 + 3 ≤ 2147483647) ∧ (0 ≤ x4 + 3 ∧ x4 + 3 < h69 38 (-1)) ∧ (-2147483648 ≤ x4 + 4 ∧ x4 + 4 ≤ 2147483647) ∧ (0 ≤ x4 + 4 ∧ x4 + 4 < h69 38 (-1))) ∧ C 56 [vR 6, vI (h69 38 (x4 + 1)), vI (h69 38 (x4 + 2)), vI (h69 38 (x4 + 3)), vI (h69 38 (x4 + 4))] h69 (kI (fun v78 h78 => ((h78 6 0 = v69 → ((¬ v69 = 0 → ((-2147483648 ≤ x4 + 5 ∧ x4 + 5 ≤ 2147483647)) ∧ X 136 13 [vR 38, vR 0, vR 6, vR 37, vI (x4 + 5), vI v69, vI v78] [] h78 K) ∧ (v69 = 0 → ((v78 = 0 → ((h78 37 0 = 0 → ((-2147483648 ≤ x4 + 5 ∧ x4 + 5 ≤ 2147483647)) ∧ X 136 13 [vR 38, vR 0, vR 6, vR 37, vI (x4 + 5), vI v69, vI v78] [] h78 K) ∧ (¬ h78 37 0 = 0 → K (oI 0) h78))) ∧ (¬ v78 = 0 → ((h78 37 0 = 1 → ((-2147483648 ≤ x4 + 5 ∧ x4 + 5 ≤ 2147483647)) ∧ X 136 13 [vR 38, vR 0, vR 6, vR 37, vI (x4 + 5), vI v69, vI v78] [] h78 K) ∧ (¬ h78 37 0 = 1 → K (oI 0) h78))))))) ∧ (¬ h78 6 0 = v69 → K (oI 0) h78))))))) ∧ ((b_and (h 38 x4) 15) = 7 → ((-2147483648 ≤ x4 + 1 ∧ x4 + 1 ≤ 2147483647) ∧ (0 ≤ x4 + 1 ∧ x4 + 1 < h 38 (-1)) ∧ (-2147483648 ≤ x4 + 2 ∧ x4 + 2 ≤ 2147483647) ∧ (0 ≤ x4 + 2 ∧ x4 + 2 < h 38 (-1)) ∧ (-2147483648 ≤ x4 + 3 ∧ x4 + 3 ≤ 2147483647) ∧ (0 ≤ x4 + 3 ∧ x4 + 3 < h 38 (-1)) ∧ (-2147483648 ≤ x4 + 4 ∧ x4 + 4 ≤ 2147483647) ∧ (0 ≤ x4 + 4 ∧ x4 + 4 < h 38 (-1))) ∧ C 132 [vR 0, vI (h 38 (x4 + 1)), vI (h 38 (x4 + 2)), vI (h 38 (x4 + 3)), vI (h 38 (x4 + 4)), vR 37] h (kI (fun v95 h95 => ((-2147483648 ≤ x4 + 1 ∧ x4 + 1 ≤ 2147483647) ∧ (0 ≤ x4 + 1 ∧ x4 + 1 < h95 38 (-1)) ∧ (-2147483648 ≤ x4 + 2 ∧ x4 + 2 ≤ 2147483647) ∧ (0 ≤ x4 + 2 ∧ x4 + 2 < h95 38 (-1)) ∧ (-2147483648 ≤ x4 + 3 ∧ x4 + 3 ≤ 2147483647) ∧ (0 ≤ x4 + 3 ∧ x4 + 3 < h95 38 (-1)) ∧ (-2147483648 ≤ x4 + 4 ∧ x4 + 4 ≤ 2147483647) ∧ (0 ≤ x4 + 4 ∧ x4 + 4 < h95 38 (-1))) ∧ C 57 [vR 6, vI (h95 38 (x4 + 1)), vI (h95 38 (x4 + 2)), vI (h95 38 (x4 + 3)), vI (h95 38 (x4 + 4))] h95 (kI (fun v104 h104 => ((h104 6 0 = v95 → ((¬ v95 = 0 → ((-2147483648 ≤ x4 + 5 ∧ x4 + 5 ≤ 2147483647)) ∧ X 136 13 [vR 38, vR 0, vR 6, vR 37, vI (x4 + 5), vI v95, vI v104] [] h104 K) ∧ (v95 = 0 → ((v104 = 0 → ((h104 37 0 = 0 → ((-2147483648 ≤ x4 + 5 ∧ x4 + 5 ≤ 2147483647)) ∧ X 136 13 [vR 38, vR 0, vR 6, vR 37, vI (x4 + 5), vI v95, vI v104] [] h104 K) ∧ (¬ h104 37 0 = 0 → K (oI 0) h104))) ∧ (¬ v104 = 0 → ((h104 37 0 = 1 → ((-2147483648 ≤ x4 + 5 ∧ x4 + 5 ≤ 2147483647)) ∧ X 136 13 [vR 38, vR 0, vR 6, vR 37, vI (x4 + 5), vI v95, vI v104] [] h104 K) ∧ (¬ h104 37 0 = 1 → K (oI 0) h104))))))) ∧ (¬ h104 6 0 = v95 → K (oI 0) h104))))))) ∧ ((b_and (h 38 x4) 15) = 8 → C 133 [vR 0, vR 37] h (kI (fun v113 h113 => C 65 [vR 6] h113 (kI (fun v114 h114 => ((h114 6 0 = v113 → ((¬ v113 = 0 → ((-2147483648 ≤ x4 + 5 ∧ x4 + 5 ≤ 2147483647)) ∧ X 136 13 [vR 38, vR 0, vR 6, vR 37, vI (x4 + 5), vI v113, vI v114] [] h114 K) ∧ (v113 = 0 → ((h114 37 0 = v114 → ((-2147483648 ≤ x4 + 5 ∧ x4 + 5 ≤ 2147483647)) ∧ X 136 13 [vR 38, vR 0, vR 6, vR 37, vI (x4 + 5), vI v113, vI v114] [] h114 K) ∧ (¬ h114 37 0 = v114 → K (oI 0) h114))))) ∧ (¬ h114 6 0 = v113 → K (oI 0) h114))))))) ∧ ((b_and (h 38 x4) 15) = 9 → ((-2147483648 ≤ x4 + 1 ∧ x4 + 1 ≤ 2147483647) ∧ (0 ≤ x4 + 1 ∧ x4 + 1 < h 38 (-1))) ∧ C 9 [vR 0, vI (h 38 (x4 + 1))] h (kI (fun v122 h122 => ((-2147483648 ≤ x4 + 1 ∧ x4 + 1 ≤ 2147483647) ∧ (0 ≤ x4 + 1 ∧ x4 + 1 < h122 38 (-1))) ∧ C 66 [vR 6, vI (h122 38 (x4 + 1))] h122 (kI (fun v125 h125 => ((v122 = v125 → ((-2147483648 ≤ x4 + 5 ∧ x4 + 5 ≤ 2147483647)) ∧ X 136 13 [vR 38, vR 0, vR 6, vR 37, vI (x4 + 5), w5, w6] [] h125 K) ∧ (¬ v122 = v125 → K (oI 0) h125))))))) ∧ ((b_and (h 38 x4) 15) = 10 → ((-2147483648 ≤ x4 + 1 ∧ x4 + 1 ≤ 2147483647) ∧ (0 ≤ x4 + 1 ∧ x4 + 1 < h 38 (-1))) ∧ C 10 [vR 0, vI (h 38 (x4 + 1))] h (kI (fun v130 h130 => ((-2147483648 ≤ x4 + 1 ∧ x4 + 1 ≤ 2147483647) ∧ (0 ≤ x4 + 1 ∧ x4 + 1 < h130 38 (-1))) ∧ C 67 [vR 6, vI (h130 38 (x4 + 1))] h130 (kI (fun v133 h133 => ((v130 = v133 → ((-2147483648 ≤ x4 + 5 ∧ x4 + 5 ≤ 2147483647)) ∧ X 136 13 [vR 38, vR 0, vR 6, vR 37, vI (x4 + 5), w5, w6] [] h133 K) ∧ (¬ v130 = v133 → K (oI 0) h133))))))) ∧ ((b_and (h 38 x4) 15) = 11 → C 11 [vR 0] h (kV (fun h136 => C 68 [vR 6] h136 (kV (fun h137 => ((-2147483648 ≤ x4 + 5 ∧ x4 + 5 ≤ 2147483647)) ∧ X 136 13 [vR 38, vR 0, vR 6, vR 37, vI (x4 + 5), w5, w6] [] h137 K))))) ∧ ((b_and (h 38 x4) 15) = 12 → ((-2147483648 ≤ x4 + 1 ∧ x4 + 1 ≤ 2147483647) ∧ (0 ≤ x4 + 1 ∧ x4 + 1 < h 38 (-1))) ∧ C 134 [vR 0, vI (h 38 (x4 + 1)), vR 37] h (kI (fun v141 h141 => ((-2147483648 ≤ x4 + 1 ∧ x4 + 1 ≤ 2147483647) ∧ (0 ≤ x4 + 1 ∧ x4 + 1 < h141 38 (-1))) ∧ C 74 [vR 6, vI (h141 38 (x4 + 1))] h141 (kI (fun v144 h144 => ((h144 6 0 = v141 → ((¬ v141 = 0 → ((-2147483648 ≤ x4 + 5 ∧ x4 + 5 ≤ 2147483647)) ∧ X 136 13 [vR 38, vR 0, vR 6, vR 37, vI (x4 + 5), vI v141, vI v144] [] h144 K) ∧ (v141 = 0 → ((h144 37 0 = v144 → ((-2147483648 ≤ x4 + 5 ∧ x4 + 5 ≤ 2147483647)) ∧ X 136 13 [vR 38, vR 0, vR 6, vR 37, vI (x4 + 5), vI v141, vI v144] [] h144 K) ∧ (¬ h144 37 0 = v144 → K (oI 0) h144))))) ∧ (¬ h144 6 0 = v141 → K (oI 0) h144))))))) ∧ ((b_and (h 38 x4) 15) = 13 → C 13 [vR 0] h (kI (fun v150 h150 => C 75 [vR 6] h150 (kI (fun v151 h151 => ((v150 = v151 → ((-2147483648 ≤ x4 + 5 ∧ x4 + 5 ≤ 2147483647)) ∧ X 136 13 [vR 38, vR 0, vR 6, vR 37, vI (x4 + 5), w5, w6] [] h151 K) ∧ (¬ v150 = v151 → K (oI 0) h151))))))) ∧ ((b_and (h 38 x4) 15) = 14 → ((-2147483648 ≤ x4 + 1 ∧ x4 + 1 ≤ 2147483647) ∧ (0 ≤ x4 + 1 ∧ x4 + 1 < h 38 (-1)) ∧ (-2147483648 ≤ x4 + 2 ∧ x4 + 2 ≤ 2147483647) ∧ (0 ≤ x4 + 2 ∧ x4 + 2 < h 38 (-1))) ∧ C 135 [vR 0, vI (h 38 (x4 + 1)), vI (h 38 (x4 + 2)), vR 37] h (kI (fun v158 h158 => ((-2147483648 ≤ x4 + 1 ∧ x4 + 1 ≤ 2147483647) ∧ (0 ≤ x4 + 1 ∧ x4 + 1 < h158 38 (-1)) ∧ (-2147483648 ≤ x4 + 2 ∧ x4 + 2 ≤ 2147483647) ∧ (0 ≤ x4 + 2 ∧ x4 + 2 < h158 38 (-1))) ∧ C 76 [vR 6, vI (h158 38 (x4 + 1)), vI (h158 38 (x4 + 2))] h158 (kI (fun v163 h163 => ((h163 6 0 = v158 → ((¬ v158 = 0 → ((-2147483648 ≤ x4 + 5 ∧ x4 + 5 ≤ 2147483647)) ∧ X 136 13 [vR 38, vR 0, vR 6, vR 37, vI (x4 + 5), vI v158, vI v163] [] h163 K) ∧ (v158 = 0 → ((h163 37 0 = v163 → ((-2147483648 ≤ x4 + 5 ∧ x4 + 5 ≤ 2147483647)) ∧ X 136 13 [vR 38, vR 0, vR 6, vR 37, vI (x4 + 5), vI v158, vI v163] [] h163 K) ∧ (¬ h163 37 0 = v163 → K (oI 0) h163))))) ∧ (¬ h163 6 0 = v158 → K (oI 0) h163))))))) ∧ ((b_and (h 38 x4) 15) = 15 → C 15 [vR 0] h (kI (fun v169 h169 => C 77 [vR 6] h169 (kI (fun v170 h170 => ((v169 = v170 → ((-2147483648 ≤ x4 + 5 ∧ x4 + 5 ≤ 2147483647)) ∧ X 136 13 [vR 38, vR 0, vR 6, vR 37, vI (x4 + 5), w5, w6] [] h170 K) ∧ (¬ v169 = v170 → K (oI 0) h170))))))) ∧ ((b_and (h 38 x4) 15 < 0 ∨ 15 < b_and (h 38 x4) 15) → ((-2147483648 ≤ x4 + 5 ∧ x4 + 5 ≤ 2147483647)) ∧ X 136 13 [vR 38, vR 0, vR 6, vR 37, vI (x4 + 5), w5, w6] [] h K))))) : X 136 13 [vR 38, vR 0, vR 6, vR 37, vI x4, w5, w6] [] h K := by
  obtain ⟨c1, H⟩ := H
  refine X_b 5 18 (L := L_136) rfl rfl rfl ?_
  show (38 < 39) ∧ (ab_ty 38 < 3) ∧ (-2147483648 ≤ (h 38 (-1)) - 5 ∧ (h 38 (-1)) - 5 ≤ 2147483647) ∧ X 136 18 [vR 38, vR 0, vR 6, vR 37, vI x4, w5, w6] [vI ((h 38 (-1)) - 5), vI x4] h _
  refine ⟨Nat.lt_of_lt_of_le (Nat.lt_succ_self _) (Nat.le_of_ble_eq_true rfl), Nat.lt_of_lt_of_le (Nat.lt_succ_self _) (Nat.le_of_ble_eq_true rfl), c1, ?_⟩
  refine X_icmp (L := L_136) (n' := 480) rfl rfl rfl rfl (fun z2 => ?_) (fun z2 => ?_)
  · have z2 : (h 38 (-1)) - 5 < x4 := z2
    replace H := H.1 z2
    show X 136 480 [vR 38, vR 0, vR 6, vR 37, vI x4, w5, w6] [] h _
    refine X_b 1 481 (L := L_136) rfl rfl rfl ?_
    show X 136 481 [vR 38, vR 0, vR 6, vR 37, vI x4, w5, w6] [vI 1] h _
    refine X_zret (L := L_136) rfl rfl rfl rfl (by decide) ?_
    exact H
  · have z2 : x4 ≤ (h 38 (-1)) - 5 := (Int.not_lt.mp z2)
    replace H := H.2 z2
    show X 136 19 [vR 38, vR 0, vR 6, vR 37, vI x4, w5, w6] [] h _
    obtain ⟨c3, H⟩ := H
    refine X_b 5 24 (L := L_136) rfl rfl rfl ?_
    show (0 ≤ x4 ∧ x4 < h 38 (-1)) ∧ X 136 24 [vR 38, vR 0, vR 6, vR 37, vI x4, w5, w6] [vI (b_and (h 38 x4) 15)] h _
    refine ⟨c3, ?_⟩
    rcases (show (b_and (h 38 x4) 15) = 0 ∨ (b_and (h 38 x4) 15) = 1 ∨ (b_and (h 38 x4) 15) = 2 ∨ (b_and (h 38 x4) 15) = 3 ∨ (b_and (h 38 x4) 15) = 4 ∨ (b_and (h 38 x4) 15) = 5 ∨ (b_and (h 38 x4) 15) = 6 ∨ (b_and (h 38 x4) 15) = 7 ∨ (b_and (h 38 x4) 15) = 8 ∨ (b_and (h 38 x4) 15) = 9 ∨ (b_and (h 38 x4) 15) = 10 ∨ (b_and (h 38 x4) 15) = 11 ∨ (b_and (h 38 x4) 15) = 12 ∨ (b_and (h 38 x4) 15) = 13 ∨ (b_and (h 38 x4) 15) = 14 ∨ (b_and (h 38 x4) 15) = 15 ∨ (b_and (h 38 x4) 15 < 0 ∨ 15 < b_and (h 38 x4) 15) by omega) with z4 | z4 | z4 | z4 | z4 | z4 | z4 | z4 | z4 | z4 | z4 | z4 | z4 | z4 | z4 | z4 | z4
    · replace H := H.1 z4
      refine X_sw (L := L_136) (n' := 25) rfl rfl rfl (by rw [z4]; rfl) ?_
      show X 136 25 [vR 38, vR 0, vR 6, vR 37, vI x4, w5, w6] [] h _
      obtain ⟨⟨c5, c6⟩, H⟩ := H
      refine X_b 7 32 (L := L_136) rfl rfl rfl ?_
      show (-2147483648 ≤ x4 + 1 ∧ x4 + 1 ≤ 2147483647) ∧ (0 ≤ x4 + 1 ∧ x4 + 1 < h 38 (-1)) ∧ X 136 32 [vR 38, vR 0, vR 6, vR 37, vI x4, w5, w6] [vR 37, vI (h 38 (x4 + 1)), vR 0] h _
      refine ⟨c5, c6, ?_⟩
      refine X_call 127 [vR 0, vI (h 38 (x4 + 1)), vR 37] [] rfl (sg_cals rfl rfl rfl rfl rfl rfl rfl rfl rfl rfl) (by decide) ?_
      refine C_mono H (kI_to ?_)
      intro v7 h7 H
      show X 136 33 [vR 38, vR 0, vR 6, vR 37, vI x4, w5, w6] [vI v7] h7 _
      obtain ⟨⟨c8, c9⟩, H⟩ := H
      refine X_b 7 40 (L := L_136) rfl rfl rfl ?_
      show (-2147483648 ≤ x4 + 1 ∧ x4 + 1 ≤ 2147483647) ∧ (0 ≤ x4 + 1 ∧ x4 + 1 < h7 38 (-1)) ∧ X 136 40 [vR 38, vR 0, vR 6, vR 37, vI x4, vI v7, w6] [vI (h7 38 (x4 + 1)), vR 6] h7 _
      refine ⟨c8, c9, ?_⟩
      refine X_call 32 [vR 6, vI (h7 38 (x4 + 1))] [] rfl (sg_calv rfl rfl rfl rfl rfl rfl rfl rfl rfl rfl rfl) (by decide) ?_
      refine C_mono H (kI_to ?_)
      intro v10 h10 H
      show X 136 41 [vR 38, vR 0, vR 6, vR 37, vI x4, vI v7, w6] [vI v10] h10 _
      refine X_b 2 43 (L := L_136) rfl rfl rfl ?_
      show X 136 43 [vR 38, vR 0, vR 6, vR 37, vI x4, vI v7, vI v10] [vR 6] h10 _
      refine X_call 28 [vR 6] [] rfl (sg_calv rfl rfl rfl rfl rfl rfl rfl rfl rfl rfl rfl) (by decide) ?_
      show X 28 0 [vR 6] [] h10 _
      refine X_b 2 2 (L := L_28) rfl rfl rfl ?_
      show X 28 2 [vR 6] [vI (h10 6 0)] h10 _
      refine X_iret (L := L_28) rfl rfl rfl rfl ?_
      show X 136 44 [vR 38, vR 0, vR 6, vR 37, vI x4, vI v7, vI v10] [vI (h10 6 0)] h10 _
      refine X_b 1 45 (L := L_136) rfl rfl rfl ?_
      show X 136 45 [vR 38, vR 0, vR 6, vR 37, vI x4, vI v7, vI v10] [vI v7, vI (h10 6 0)] h10 _
      refine X_icmp (L := L_136) (n' := 48) rfl rfl rfl rfl (fun z11 => ?_) (fun z11 => ?_)
      · have z11 : h10 6 0 = v7 := z11
        replace H := H.1 z11
        show X 136 48 [vR 38, vR 0, vR 6, vR 37, vI x4, vI v7, vI v10] [] h10 _
        refine X_b 1 49 (L := L_136) rfl rfl rfl ?_
        show X 136 49 [vR 38, vR 0, vR 6, vR 37, vI x4, vI v7, vI v10] [vI v7] h10 _
        refine X_if (L := L_136) (n' := 59) rfl rfl rfl rfl (fun z12 => ?_) (fun z12 => ?_)
        · have z12 : ¬ v7 = 0 := z12
          replace H := H.1 z12
          show X 136 59 [vR 38, vR 0, vR 6, vR 37, vI x4, vI v7, vI v10] [] h10 _
          obtain ⟨c13, H⟩ := H
          refine X_goto (L := L_136) (n' := 478) rfl rfl rfl rfl ?_
          show X 136 478 [vR 38, vR 0, vR 6, vR 37, vI x4, vI v7, vI v10] [] h10 _
          refine X_b 1 479 (L := L_136) rfl rfl rfl ?_
          show (-2147483648 ≤ x4 + 5 ∧ x4 + 5 ≤ 2147483647) ∧ X 136 479 [vR 38, vR 0, vR 6, vR 37, vI (x4 + 5), vI v7, vI v10] [] h10 _
          refine ⟨c13, ?_⟩
          refine X_goto (L := L_136) (n' := 13) rfl rfl rfl rfl ?_
          show X 136 13 [vR 38, vR 0, vR 6, vR 37, vI (x4 + 5), vI v7, vI v10] [] h10 _
          exact H
        · have z12 : v7 = 0 := (Classical.not_not.mp z12)
          replace H := H.2 z12
          show X 136 50 [vR 38, vR 0, vR 6, vR 37, vI x4, vI v7, vI v10] [] h10 _
          refine X_b 6 56 (L := L_136) rfl rfl rfl ?_
          show (0 ≤ (0 : Int) ∧ (0 : Int) < 1) ∧ X 136 56 [vR 38, vR 0, vR 6, vR 37, vI x4, vI v7, vI v10] [vI (ab_lc (h10 37 0) v10)] h10 _
          refine ⟨by decide, ?_⟩
          refine X_if (L := L_136) (n' := 59) rfl rfl rfl rfl (fun z14 => ?_) (fun z14 => ?_)
          · have z14 := ((sg_lc _ _).mp z14)
            replace H := H.1 z14
            show X 136 59 [vR 38, vR 0, vR 6, vR 37, vI x4, vI v7, vI v10] [] h10 _
            obtain ⟨c15, H⟩ := H
            refine X_goto (L := L_136) (n' := 478) rfl rfl rfl rfl ?_
            show X 136 478 [vR 38, vR 0, vR 6, vR 37, vI x4, vI v7, vI v10] [] h10 _
            refine X_b 1 479 (L := L_136) rfl rfl rfl ?_
            show (-2147483648 ≤ x4 + 5 ∧ x4 + 5 ≤ 2147483647) ∧ X 136 479 [vR 38, vR 0, vR 6, vR 37, vI (x4 + 5), vI v7, vI v10] [] h10 _
            refine ⟨c15, ?_⟩
            refine X_goto (L := L_136) (n' := 13) rfl rfl rfl rfl ?_
            show X 136 13 [vR 38, vR 0, vR 6, vR 37, vI (x4 + 5), vI v7, vI v10] [] h10 _
            exact H
          · have z14 : ¬ h10 37 0 = v10 := (fun q => z14 ((sg_lc _ _).mpr q))
            replace H := H.2 z14
            show X 136 57 [vR 38, vR 0, vR 6, vR 37, vI x4, vI v7, vI v10] [] h10 _
            refine X_b 1 58 (L := L_136) rfl rfl rfl ?_
            show X 136 58 [vR 38, vR 0, vR 6, vR 37, vI x4, vI v7, vI v10] [vI 0] h10 _
            refine X_zret (L := L_136) rfl rfl rfl rfl (by decide) ?_
            exact H
      · have z11 : ¬ h10 6 0 = v7 := z11
        replace H := H.2 z11
        show X 136 46 [vR 38, vR 0, vR 6, vR 37, vI x4, vI v7, vI v10] [] h10 _
        refine X_b 1 47 (L := L_136) rfl rfl rfl ?_
        show X 136 47 [vR 38, vR 0, vR 6, vR 37, vI x4, vI v7, vI v10] [vI 0] h10 _
        refine X_zret (L := L_136) rfl rfl rfl rfl (by decide) ?_
        exact H
    · replace H := H.2.1 z4
      refine X_sw (L := L_136) (n' := 60) rfl rfl rfl (by rw [z4]; rfl) ?_
      show X 136 60 [vR 38, vR 0, vR 6, vR 37, vI x4, w5, w6] [] h _
      refine X_b 1 61 (L := L_136) rfl rfl rfl ?_
      show X 136 61 [vR 38, vR 0, vR 6, vR 37, vI x4, w5, w6] [vR 0] h _
      refine X_call 1 [vR 0] [] rfl (sg_calv rfl rfl rfl rfl rfl rfl rfl rfl rfl rfl rfl) (by decide) ?_
      refine C_mono H (kV_to ?_)
      intro h16 H
      show X 136 62 [vR 38, vR 0, vR 6, vR 37, vI x4, w5, w6] [] h16 _
      refine X_b 1 63 (L := L_136) rfl rfl rfl ?_
      show X 136 63 [vR 38, vR 0, vR 6, vR 37, vI x4, w5, w6] [vR 6] h16 _
      refine X_call 34 [vR 6] [] rfl (sg_calv rfl rfl rfl rfl rfl rfl rfl rfl rfl rfl rfl) (by decide) ?_
      refine C_mono H (kV_to ?_)
      intro h17 H
      show X 136 64 [vR 38, vR 0, vR 6, vR 37, vI x4, w5, w6] [] h17 _
      obtain ⟨c18, H⟩ := H
      refine X_goto (L := L_136) (n' := 478) rfl rfl rfl rfl ?_
      show X 136 478 [vR 38, vR 0, vR 6, vR 37, vI x4, w5, w6] [] h17 _
      refine X_b 1 479 (L := L_136) rfl rfl rfl ?_
      show (-2147483648 ≤ x4 + 5 ∧ x4 + 5 ≤ 2147483647) ∧ X 136 479 [vR 38, vR 0, vR 6, vR 37, vI (x4 + 5), w5, w6] [] h17 _
      refine ⟨c18, ?_⟩
      refine X_goto (L := L_136) (n' := 13) rfl rfl rfl rfl ?_
      show X 136 13 [vR 38, vR 0, vR 6, vR 37, vI (x4 + 5), w5, w6] [] h17 _
      exact H
    · replace H := H.2.2.1 z4
      refine X_sw (L := L_136) (n' := 65) rfl rfl rfl (by rw [z4]; rfl) ?_
      show X 136 65 [vR 38, vR 0, vR 6, vR 37, vI x4, w5, w6] [] h _
      refine X_b 2 67 (L := L_136) rfl rfl rfl ?_
      show X 136 67 [vR 38, vR 0, vR 6, vR 37, vI x4, w5, w6] [vR 37, vR 0] h _
      refine X_call 128 [vR 0, vR 37] [] rfl (sg_cals rfl rfl rfl rfl rfl rfl rfl rfl rfl rfl) (by decide) ?_
      refine C_mono H (kI_to ?_)
      intro v19 h19 H
      show X 136 68 [vR 38, vR 0, vR 6, vR 37, vI x4, w5, w6] [vI v19] h19 _
      refine X_b 2 70 (L := L_136) rfl rfl rfl ?_
      show X 136 70 [vR 38, vR 0, vR 6, vR 37, vI x4, vI v19, w6] [vR 6] h19 _
      refine X_call 49 [vR 6] [] rfl (sg_calv rfl rfl rfl rfl rfl rfl rfl rfl rfl rfl rfl) (by decide) ?_
      refine C_mono H (kI_to ?_)
      intro v20 h20 H
      show X 136 71 [vR 38, vR 0, vR 6, vR 37, vI x4, vI v19, w6] [vI v20] h20 _
      refine X_b 2 73 (L := L_136) rfl rfl rfl ?_
      show X 136 73 [vR 38, vR 0, vR 6, vR 37, vI x4, vI v19, vI v20] [vR 6] h20 _
      refine X_call 28 [vR 6] [] rfl (sg_calv rfl rfl rfl rfl rfl rfl rfl rfl rfl rfl rfl) (by decide) ?_
      show X 28 0 [vR 6] [] h20 _
      refine X_b 2 2 (L := L_28) rfl rfl rfl ?_
      show X 28 2 [vR 6] [vI (h20 6 0)] h20 _
      refine X_iret (L := L_28) rfl rfl rfl rfl ?_
      show X 136 74 [vR 38, vR 0, vR 6, vR 37, vI x4, vI v19, vI v20] [vI (h20 6 0)] h20 _
      refine X_b 1 75 (L := L_136) rfl rfl rfl ?_
      show X 136 75 [vR 38, vR 0, vR 6, vR 37, vI x4, vI v19, vI v20] [vI v19, vI (h20 6 0)] h20 _
      refine X_icmp (L := L_136) (n' := 78) rfl rfl rfl rfl (fun z21 => ?_) (fun z21 => ?_)
      · have z21 : h20 6 0 = v19 := z21
        replace H := H.1 z21
        show X 136 78 [vR 38, vR 0, vR 6, vR 37, vI x4, vI v19, vI v20] [] h20 _
        refine X_b 1 79 (L := L_136) rfl rfl rfl ?_
        show X 136 79 [vR 38, vR 0, vR 6, vR 37, vI x4, vI v19, vI v20] [vI v19] h20 _
        refine X_if (L := L_136) (n' := 89) rfl rfl rfl rfl (fun z22 => ?_) (fun z22 => ?_)
        · have z22 : ¬ v19 = 0 := z22
          replace H := H.1 z22
          show X 136 89 [vR 38, vR 0, vR 6, vR 37, vI x4, vI v19, vI v20] [] h20 _
          obtain ⟨c23, H⟩ := H
          refine X_goto (L := L_136) (n' := 478) rfl rfl rfl rfl ?_
          show X 136 478 [vR 38, vR 0, vR 6, vR 37, vI x4, vI v19, vI v20] [] h20 _
          refine X_b 1 479 (L := L_136) rfl rfl rfl ?_
          show (-2147483648 ≤ x4 + 5 ∧ x4 + 5 ≤ 2147483647) ∧ X 136 479 [vR 38, vR 0, vR 6, vR 37, vI (x4 + 5), vI v19, vI v20] [] h20 _
          refine ⟨c23, ?_⟩
          refine X_goto (L := L_136) (n' := 13) rfl rfl rfl rfl ?_
          show X 136 13 [vR 38, vR 0, vR 6, vR 37, vI (x4 + 5), vI v19, vI v20] [] h20 _
          exact H
        · have z22 : v19 = 0 := (Classical.not_not.mp z22)
          replace H := H.2 z22
          show X 136 80 [vR 38, vR 0, vR 6, vR 37, vI x4, vI v19, vI v20] [] h20 _
          refine X_b 6 86 (L := L_136) rfl rfl rfl ?_
          show (0 ≤ (0 : Int) ∧ (0 : Int) < 1) ∧ X 136 86 [vR 38, vR 0, vR 6, vR 37, vI x4, vI v19, vI v20] [vI (ab_lc (h20 37 0) v20)] h20 _
          refine ⟨by decide, ?_⟩
          refine X_if (L := L_136) (n' := 89) rfl rfl rfl rfl (fun z24 => ?_) (fun z24 => ?_)
          · have z24 := ((sg_lc _ _).mp z24)
            replace H := H.1 z24
            show X 136 89 [vR 38, vR 0, vR 6, vR 37, vI x4, vI v19, vI v20] [] h20 _
            obtain ⟨c25, H⟩ := H
            refine X_goto (L := L_136) (n' := 478) rfl rfl rfl rfl ?_
            show X 136 478 [vR 38, vR 0, vR 6, vR 37, vI x4, vI v19, vI v20] [] h20 _
            refine X_b 1 479 (L := L_136) rfl rfl rfl ?_
            show (-2147483648 ≤ x4 + 5 ∧ x4 + 5 ≤ 2147483647) ∧ X 136 479 [vR 38, vR 0, vR 6, vR 37, vI (x4 + 5), vI v19, vI v20] [] h20 _
            refine ⟨c25, ?_⟩
            refine X_goto (L := L_136) (n' := 13) rfl rfl rfl rfl ?_
            show X 136 13 [vR 38, vR 0, vR 6, vR 37, vI (x4 + 5), vI v19, vI v20] [] h20 _
            exact H
          · have z24 : ¬ h20 37 0 = v20 := (fun q => z24 ((sg_lc _ _).mpr q))
            replace H := H.2 z24
            show X 136 87 [vR 38, vR 0, vR 6, vR 37, vI x4, vI v19, vI v20] [] h20 _
            refine X_b 1 88 (L := L_136) rfl rfl rfl ?_
            show X 136 88 [vR 38, vR 0, vR 6, vR 37, vI x4, vI v19, vI v20] [vI 0] h20 _
            refine X_zret (L := L_136) rfl rfl rfl rfl (by decide) ?_
            exact H
      · have z21 : ¬ h20 6 0 = v19 := z21
        replace H := H.2 z21
        show X 136 76 [vR 38, vR 0, vR 6, vR 37, vI x4, vI v19, vI v20] [] h20 _
        refine X_b 1 77 (L := L_136) rfl rfl rfl ?_
        show X 136 77 [vR 38, vR 0, vR 6, vR 37, vI x4, vI v19, vI v20] [vI 0] h20 _
        refine X_zret (L := L_136) rfl rfl rfl rfl (by decide) ?_
        exact H
    · replace H := H.2.2.2.1 z4
      refine X_sw (L := L_136) (n' := 90) rfl rfl rfl (by rw [z4]; rfl) ?_
      show X 136 90 [vR 38, vR 0, vR 6, vR 37, vI x4, w5, w6] [] h _
      refine X_b 1 91 (L := L_136) rfl rfl rfl ?_
      show X 136 91 [vR 38, vR 0, vR 6, vR 37, vI x4, w5, w6] [vR 0] h _
      refine X_call 3 [vR 0] [] rfl (sg_calv rfl rfl rfl rfl rfl rfl rfl rfl rfl rfl rfl) (by decide) ?_
      refine C_mono H (kI_to ?_)
      intro v26 h26 H
      show X 136 92 [vR 38, vR 0, vR 6, vR 37, vI x4, w5, w6] [vI v26] h26 _
      refine X_b 1 93 (L := L_136) rfl rfl rfl ?_
      show X 136 93 [vR 38, vR 0, vR 6, vR 37, vI x4, w5, w6] [vR 6, vI v26] h26 _
      refine X_call 50 [vR 6] [vI v26] rfl (sg_calv rfl rfl rfl rfl rfl rfl rfl rfl rfl rfl rfl) (by decide) ?_
      refine C_mono H (kI_to ?_)
      intro v27 h27 H
      show X 136 94 [vR 38, vR 0, vR 6, vR 37, vI x4, w5, w6] [vI v27, vI v26] h27 _
      refine X_icmp (L := L_136) (n' := 478) rfl rfl rfl rfl (fun z28 => ?_) (fun z28 => ?_)
      · have z28 : v26 = v27 := z28
        replace H := H.1 z28
        show X 136 478 [vR 38, vR 0, vR 6, vR 37, vI x4, w5, w6] [] h27 _
        obtain ⟨c29, H⟩ := H
        refine X_b 1 479 (L := L_136) rfl rfl rfl ?_
        show (-2147483648 ≤ x4 + 5 ∧ x4 + 5 ≤ 2147483647) ∧ X 136 479 [vR 38, vR 0, vR 6, vR 37, vI (x4 + 5), w5, w6] [] h27 _
        refine ⟨c29, ?_⟩
        refine X_goto (L := L_136) (n' := 13) rfl rfl rfl rfl ?_
        show X 136 13 [vR 38, vR 0, vR 6, vR 37, vI (x4 + 5), w5, w6] [] h27 _
        exact H
      · have z28 : ¬ v26 = v27 := z28
        replace H := H.2 z28
        show X 136 95 [vR 38, vR 0, vR 6, vR 37, vI x4, w5, w6] [] h27 _
        refine X_b 1 96 (L := L_136) rfl rfl rfl ?_
        show X 136 96 [vR 38, vR 0, vR 6, vR 37, vI x4, w5, w6] [vI 0] h27 _
        refine X_zret (L := L_136) rfl rfl rfl rfl (by decide) ?_
        exact H
    · replace H := H.2.2.2.2.1 z4
      refine X_sw (L := L_136) (n' := 97) rfl rfl rfl (by rw [z4]; rfl) ?_
      show X 136 97 [vR 38, vR 0, vR 6, vR 37, vI x4, w5, w6] [] h _
      obtain ⟨⟨c30, c31, c32, c33⟩, H⟩ := H
      refine X_b 12 109 (L := L_136) rfl rfl rfl ?_
      show (-2147483648 ≤ x4 + 1 ∧ x4 + 1 ≤ 2147483647) ∧ (0 ≤ x4 + 1 ∧ x4 + 1 < h 38 (-1)) ∧ (-2147483648 ≤ x4 + 2 ∧ x4 + 2 ≤ 2147483647) ∧ (0 ≤ x4 + 2 ∧ x4 + 2 < h 38 (-1)) ∧ X 136 109 [vR 38, vR 0, vR 6, vR 37, vI x4, w5, w6] [vR 37, vI (h 38 (x4 + 2)), vI (h 38 (x4 + 1)), vR 0] h _
      refine ⟨c30, c31, c32, c33, ?_⟩
      refine X_call 129 [vR 0, vI (h 38 (x4 + 1)), vI (h 38 (x4 + 2)), vR 37] [] rfl (sg_cals rfl rfl rfl rfl rfl rfl rfl rfl rfl rfl) (by decide) ?_
      refine C_mono H (kI_to ?_)
      intro v34 h34 H
      show X 136 110 [vR 38, vR 0, vR 6, vR 37, vI x4, w5, w6] [vI v34] h34 _
      obtain ⟨⟨c35, c36, c37, c38⟩, H⟩ := H
      refine X_b 12 122 (L := L_136) rfl rfl rfl ?_
      show (-2147483648 ≤ x4 + 1 ∧ x4 + 1 ≤ 2147483647) ∧ (0 ≤ x4 + 1 ∧ x4 + 1 < h34 38 (-1)) ∧ (-2147483648 ≤ x4 + 2 ∧ x4 + 2 ≤ 2147483647) ∧ (0 ≤ x4 + 2 ∧ x4 + 2 < h34 38 (-1)) ∧ X 136 122 [vR 38, vR 0, vR 6, vR 37, vI x4, vI v34, w6] [vI (h34 38 (x4 + 2)), vI (h34 38 (x4 + 1)), vR 6] h34 _
      refine ⟨c35, c36, c37, c38, ?_⟩
      refine X_call 53 [vR 6, vI (h34 38 (x4 + 1)), vI (h34 38 (x4 + 2))] [] rfl (sg_calv rfl rfl rfl rfl rfl rfl rfl rfl rfl rfl rfl) (by decide) ?_
      refine C_mono H (kI_to ?_)
      intro v39 h39 H
      show X 136 123 [vR 38, vR 0, vR 6, vR 37, vI x4, vI v34, w6] [vI v39] h39 _
      refine X_b 2 125 (L := L_136) rfl rfl rfl ?_
      show X 136 125 [vR 38, vR 0, vR 6, vR 37, vI x4, vI v34, vI v39] [vR 6] h39 _
      refine X_call 28 [vR 6] [] rfl (sg_calv rfl rfl rfl rfl rfl rfl rfl rfl rfl rfl rfl) (by decide) ?_
      show X 28 0 [vR 6] [] h39 _
      refine X_b 2 2 (L := L_28) rfl rfl rfl ?_
      show X 28 2 [vR 6] [vI (h39 6 0)] h39 _
      refine X_iret (L := L_28) rfl rfl rfl rfl ?_
      show X 136 126 [vR 38, vR 0, vR 6, vR 37, vI x4, vI v34, vI v39] [vI (h39 6 0)] h39 _
      refine X_b 1 127 (L := L_136) rfl rfl rfl ?_
      show X 136 127 [vR 38, vR 0, vR 6, vR 37, vI x4, vI v34, vI v39] [vI v34, vI (h39 6 0)] h39 _
      refine X_icmp (L := L_136) (n' := 130) rfl rfl rfl rfl (fun z40 => ?_) (fun z40 => ?_)
      · have z40 : h39 6 0 = v34 := z40
        replace H := H.1 z40
        show X 136 130 [vR 38, vR 0, vR 6, vR 37, vI x4, vI v34, vI v39] [] h39 _
        refine X_b 1 131 (L := L_136) rfl rfl rfl ?_
        show X 136 131 [vR 38, vR 0, vR 6, vR 37, vI x4, vI v34, vI v39] [vI v34] h39 _
        refine X_if (L := L_136) (n' := 141) rfl rfl rfl rfl (fun z41 => ?_) (fun z41 => ?_)
        · have z41 : ¬ v34 = 0 := z41
          replace H := H.1 z41
          show X 136 141 [vR 38, vR 0, vR 6, vR 37, vI x4, vI v34, vI v39] [] h39 _
          obtain ⟨c42, H⟩ := H
          refine X_goto (L := L_136) (n' := 478) rfl rfl rfl rfl ?_
          show X 136 478 [vR 38, vR 0, vR 6, vR 37, vI x4, vI v34, vI v39] [] h39 _
          refine X_b 1 479 (L := L_136) rfl rfl rfl ?_
          show (-2147483648 ≤ x4 + 5 ∧ x4 + 5 ≤ 2147483647) ∧ X 136 479 [vR 38, vR 0, vR 6, vR 37, vI (x4 + 5), vI v34, vI v39] [] h39 _
          refine ⟨c42, ?_⟩
          refine X_goto (L := L_136) (n' := 13) rfl rfl rfl rfl ?_
          show X 136 13 [vR 38, vR 0, vR 6, vR 37, vI (x4 + 5), vI v34, vI v39] [] h39 _
          exact H
        · have z41 : v34 = 0 := (Classical.not_not.mp z41)
          replace H := H.2 z41
          show X 136 132 [vR 38, vR 0, vR 6, vR 37, vI x4, vI v34, vI v39] [] h39 _
          refine X_b 6 138 (L := L_136) rfl rfl rfl ?_
          show (0 ≤ (0 : Int) ∧ (0 : Int) < 1) ∧ X 136 138 [vR 38, vR 0, vR 6, vR 37, vI x4, vI v34, vI v39] [vI (ab_lc (h39 37 0) v39)] h39 _
          refine ⟨by decide, ?_⟩
          refine X_if (L := L_136) (n' := 141) rfl rfl rfl rfl (fun z43 => ?_) (fun z43 => ?_)
          · have z43 := ((sg_lc _ _).mp z43)
            replace H := H.1 z43
            show X 136 141 [vR 38, vR 0, vR 6, vR 37, vI x4, vI v34, vI v39] [] h39 _
            obtain ⟨c44, H⟩ := H
            refine X_goto (L := L_136) (n' := 478) rfl rfl rfl rfl ?_
            show X 136 478 [vR 38, vR 0, vR 6, vR 37, vI x4, vI v34, vI v39] [] h39 _
            refine X_b 1 479 (L := L_136) rfl rfl rfl ?_
            show (-2147483648 ≤ x4 + 5 ∧ x4 + 5 ≤ 2147483647) ∧ X 136 479 [vR 38, vR 0, vR 6, vR 37, vI (x4 + 5), vI v34, vI v39] [] h39 _
            refine ⟨c44, ?_⟩
            refine X_goto (L := L_136) (n' := 13) rfl rfl rfl rfl ?_
            show X 136 13 [vR 38, vR 0, vR 6, vR 37, vI (x4 + 5), vI v34, vI v39] [] h39 _
            exact H
          · have z43 : ¬ h39 37 0 = v39 := (fun q => z43 ((sg_lc _ _).mpr q))
            replace H := H.2 z43
            show X 136 139 [vR 38, vR 0, vR 6, vR 37, vI x4, vI v34, vI v39] [] h39 _
            refine X_b 1 140 (L := L_136) rfl rfl rfl ?_
            show X 136 140 [vR 38, vR 0, vR 6, vR 37, vI x4, vI v34, vI v39] [vI 0] h39 _
            refine X_zret (L := L_136) rfl rfl rfl rfl (by decide) ?_
            exact H
      · have z40 : ¬ h39 6 0 = v34 := z40
        replace H := H.2 z40
        show X 136 128 [vR 38, vR 0, vR 6, vR 37, vI x4, vI v34, vI v39] [] h39 _
        refine X_b 1 129 (L := L_136) rfl rfl rfl ?_
        show X 136 129 [vR 38, vR 0, vR 6, vR 37, vI x4, vI v34, vI v39] [vI 0] h39 _
        refine X_zret (L := L_136) rfl rfl rfl rfl (by decide) ?_
        exact H
    · replace H := H.2.2.2.2.2.1 z4
      refine X_sw (L := L_136) (n' := 142) rfl rfl rfl (by rw [z4]; rfl) ?_
      show X 136 142 [vR 38, vR 0, vR 6, vR 37, vI x4, w5, w6] [] h _
      obtain ⟨⟨c45, c46, c47, c48, c49, c50⟩, H⟩ := H
      refine X_b 16 158 (L := L_136) rfl rfl rfl ?_
      show (-2147483648 ≤ x4 + 1 ∧ x4 + 1 ≤ 2147483647) ∧ (0 ≤ x4 + 1 ∧ x4 + 1 < h 38 (-1)) ∧ (-2147483648 ≤ x4 + 2 ∧ x4 + 2 ≤ 2147483647) ∧ (0 ≤ x4 + 2 ∧ x4 + 2 < h 38 (-1)) ∧ (-2147483648 ≤ x4 + 3 ∧ x4 + 3 ≤ 2147483647) ∧ (0 ≤ x4 + 3 ∧ x4 + 3 < h 38 (-1)) ∧ X 136 158 [vR 38, vR 0, vR 6, vR 37, vI x4, w5, w6] [vI (h 38 (x4 + 3)), vI (h 38 (x4 + 2)), vI (h 38 (x4 + 1)), vR 0] h _
      refine ⟨c45, c46, c47, c48, c49, c50, ?_⟩
      refine X_call 130 [vR 0, vI (h 38 (x4 + 1)), vI (h 38 (x4 + 2)), vI (h 38 (x4 + 3))] [] rfl (sg_cals rfl rfl rfl rfl rfl rfl rfl rfl rfl rfl) (by decide) ?_
      refine C_mono H (kI_to ?_)
      intro v51 h51 H
      show X 136 159 [vR 38, vR 0, vR 6, vR 37, vI x4, w5, w6] [vI v51] h51 _
      obtain ⟨⟨c52, c53, c54, c55, c56, c57⟩, H⟩ := H
      refine X_b 17 176 (L := L_136) rfl rfl rfl ?_
      show (-2147483648 ≤ x4 + 1 ∧ x4 + 1 ≤ 2147483647) ∧ (0 ≤ x4 + 1 ∧ x4 + 1 < h51 38 (-1)) ∧ (-2147483648 ≤ x4 + 2 ∧ x4 + 2 ≤ 2147483647) ∧ (0 ≤ x4 + 2 ∧ x4 + 2 < h51 38 (-1)) ∧ (-2147483648 ≤ x4 + 3 ∧ x4 + 3 ≤ 2147483647) ∧ (0 ≤ x4 + 3 ∧ x4 + 3 < h51 38 (-1)) ∧ X 136 176 [vR 38, vR 0, vR 6, vR 37, vI x4, vI v51, w6] [vI (h51 38 (x4 + 3)), vI (h51 38 (x4 + 2)), vI (h51 38 (x4 + 1)), vR 6] h51 _
      refine ⟨c52, c53, c54, c55, c56, c57, ?_⟩
      refine X_call 54 [vR 6, vI (h51 38 (x4 + 1)), vI (h51 38 (x4 + 2)), vI (h51 38 (x4 + 3))] [] rfl (sg_calv rfl rfl rfl rfl rfl rfl rfl rfl rfl rfl rfl) (by decide) ?_
      refine C_mono H (kV_to ?_)
      intro h58 H
      show X 136 177 [vR 38, vR 0, vR 6, vR 37, vI x4, vI v51, w6] [] h58 _
      refine X_b 1 178 (L := L_136) rfl rfl rfl ?_
      show X 136 178 [vR 38, vR 0, vR 6, vR 37, vI x4, vI v51, w6] [vR 6] h58 _
      refine X_call 28 [vR 6] [] rfl (sg_calv rfl rfl rfl rfl rfl rfl rfl rfl rfl rfl rfl) (by decide) ?_
      show X 28 0 [vR 6] [] h58 _
      refine X_b 2 2 (L := L_28) rfl rfl rfl ?_
      show X 28 2 [vR 6] [vI (h58 6 0)] h58 _
      refine X_iret (L := L_28) rfl rfl rfl rfl ?_
      show X 136 179 [vR 38, vR 0, vR 6, vR 37, vI x4, vI v51, w6] [vI (h58 6 0)] h58 _
      refine X_b 1 180 (L := L_136) rfl rfl rfl ?_
      show X 136 180 [vR 38, vR 0, vR 6, vR 37, vI x4, vI v51, w6] [vI v51, vI (h58 6 0)] h58 _
      refine X_icmp (L := L_136) (n' := 183) rfl rfl rfl rfl (fun z59 => ?_) (fun z59 => ?_)
      · have z59 : h58 6 0 = v51 := z59
        replace H := H.1 z59
        show X 136 183 [vR 38, vR 0, vR 6, vR 37, vI x4, vI v51, w6] [] h58 _
        obtain ⟨c60, H⟩ := H
        refine X_goto (L := L_136) (n' := 478) rfl rfl rfl rfl ?_
        show X 136 478 [vR 38, vR 0, vR 6, vR 37, vI x4, vI v51, w6] [] h58 _
        refine X_b 1 479 (L := L_136) rfl rfl rfl ?_
        show (-2147483648 ≤ x4 + 5 ∧ x4 + 5 ≤ 2147483647) ∧ X 136 479 [vR 38, vR 0, vR 6, vR 37, vI (x4 + 5), vI v51, w6] [] h58 _
        refine ⟨c60, ?_⟩
        refine X_goto (L := L_136) (n' := 13) rfl rfl rfl rfl ?_
        show X 136 13 [vR 38, vR 0, vR 6, vR 37, vI (x4 + 5), vI v51, w6] [] h58 _
        exact H
      · have z59 : ¬ h58 6 0 = v51 := z59
        replace H := H.2 z59
        show X 136 181 [vR 38, vR 0, vR 6, vR 37, vI x4, vI v51, w6] [] h58 _
        refine X_b 1 182 (L := L_136) rfl rfl rfl ?_
        show X 136 182 [vR 38, vR 0, vR 6, vR 37, vI x4, vI v51, w6] [vI 0] h58 _
        refine X_zret (L := L_136) rfl rfl rfl rfl (by decide) ?_
        exact H
    · replace H := H.2.2.2.2.2.2.1 z4
      refine X_sw (L := L_136) (n' := 184) rfl rfl rfl (by rw [z4]; rfl) ?_
      show X 136 184 [vR 38, vR 0, vR 6, vR 37, vI x4, w5, w6] [] h _
      obtain ⟨⟨c61, c62, c63, c64, c65, c66, c67, c68⟩, H⟩ := H
      refine X_b 22 206 (L := L_136) rfl rfl rfl ?_
      show (-2147483648 ≤ x4 + 1 ∧ x4 + 1 ≤ 2147483647) ∧ (0 ≤ x4 + 1 ∧ x4 + 1 < h 38 (-1)) ∧ (-2147483648 ≤ x4 + 2 ∧ x4 + 2 ≤ 2147483647) ∧ (0 ≤ x4 + 2 ∧ x4 + 2 < h 38 (-1)) ∧ (-2147483648 ≤ x4 + 3 ∧ x4 + 3 ≤ 2147483647) ∧ (0 ≤ x4 + 3 ∧ x4 + 3 < h 38 (-1)) ∧ (-2147483648 ≤ x4 + 4 ∧ x4 + 4 ≤ 2147483647) ∧ (0 ≤ x4 + 4 ∧ x4 + 4 < h 38 (-1)) ∧ X 136 206 [vR 38, vR 0, vR 6, vR 37, vI x4, w5, w6] [vR 37, vI (h 38 (x4 + 4)), vI (h 38 (x4 + 3)), vI (h 38 (x4 + 2)), vI (h 38 (x4 + 1)), vR 0] h _
      refine ⟨c61, c62, c63, c64, c65, c66, c67, c68, ?_⟩
      refine X_call 131 [vR 0, vI (h 38 (x4 + 1)), vI (h 38 (x4 + 2)), vI (h 38 (x4 + 3)), vI (h 38 (x4 + 4)), vR 37] [] rfl (sg_cals rfl rfl rfl rfl rfl rfl rfl rfl rfl rfl) (by decide) ?_
      refine C_mono H (kI_to ?_)
      intro v69 h69 H
      show X 136 207 [vR 38, vR 0, vR 6, vR 37, vI x4, w5, w6] [vI v69] h69 _
      obtain ⟨⟨c70, c71, c72, c73, c74, c75, c76, c77⟩, H⟩ := H
      refine X_b 22 229 (L := L_136) rfl rfl rfl ?_
      show (-2147483648 ≤ x4 + 1 ∧ x4 + 1 ≤ 2147483647) ∧ (0 ≤ x4 + 1 ∧ x4 + 1 < h69 38 (-1)) ∧ (-2147483648 ≤ x4 + 2 ∧ x4 + 2 ≤ 2147483647) ∧ (0 ≤ x4 + 2 ∧ x4 + 2 < h69 38 (-1)) ∧ (-2147483648 ≤ x4 + 3 ∧ x4 + 3 ≤ 2147483647) ∧ (0 ≤ x4 + 3 ∧ x4 + 3 < h69 38 (-1)) ∧ (-2147483648 ≤ x4 + 4 ∧ x4 + 4 ≤ 2147483647) ∧ (0 ≤ x4 + 4 ∧ x4 + 4 < h69 38 (-1)) ∧ X 136 229 [vR 38, vR 0, vR 6, vR 37, vI x4, vI v69, w6] [vI (h69 38 (x4 + 4)), vI (h69 38 (x4 + 3)), vI (h69 38 (x4 + 2)), vI (h69 38 (x4 + 1)), vR 6] h69 _
      refine ⟨c70, c71, c72, c73, c74, c75, c76, c77, ?_⟩
      refine X_call 56 [vR 6, vI (h69 38 (x4 + 1)), vI (h69 38 (x4 + 2)), vI (h69 38 (x4 + 3)), vI (h69 38 (x4 + 4))] [] rfl (sg_calv rfl rfl rfl rfl rfl rfl rfl rfl rfl rfl rfl) (by decide) ?_
      refine C_mono H (kI_to ?_)
      intro v78 h78 H
      show X 136 230 [vR 38, vR 0, vR 6, vR 37, vI x4, vI v69, w6] [vI v78] h78 _
      refine X_b 2 232 (L := L_136) rfl rfl rfl ?_
      show X 136 232 [vR 38, vR 0, vR 6, vR 37, vI x4, vI v69, vI v78] [vR 6] h78 _
      refine X_call 28 [vR 6] [] rfl (sg_calv rfl rfl rfl rfl rfl rfl rfl rfl rfl rfl rfl) (by decide) ?_
      show X 28 0 [vR 6] [] h78 _
      refine X_b 2 2 (L := L_28) rfl rfl rfl ?_
      show X 28 2 [vR 6] [vI (h78 6 0)] h78 _
      refine X_iret (L := L_28) rfl rfl rfl rfl ?_
      show X 136 233 [vR 38, vR 0, vR 6, vR 37, vI x4, vI v69, vI v78] [vI (h78 6 0)] h78 _
      refine X_b 1 234 (L := L_136) rfl rfl rfl ?_
      show X 136 234 [vR 38, vR 0, vR 6, vR 37, vI x4, vI v69, vI v78] [vI v69, vI (h78 6 0)] h78 _
      refine X_icmp (L := L_136) (n' := 237) rfl rfl rfl rfl (fun z79 => ?_) (fun z79 => ?_)
      · have z79 : h78 6 0 = v69 := z79
        replace H := H.1 z79
        show X 136 237 [vR 38, vR 0, vR 6, vR 37, vI x4, vI v69, vI v78] [] h78 _
        refine X_b 1 238 (L := L_136) rfl rfl rfl ?_
        show X 136 238 [vR 38, vR 0, vR 6, vR 37, vI x4, vI v69, vI v78] [vI v69] h78 _
        refine X_if (L := L_136) (n' := 251) rfl rfl rfl rfl (fun z80 => ?_) (fun z80 => ?_)
        · have z80 : ¬ v69 = 0 := z80
          replace H := H.1 z80
          show X 136 251 [vR 38, vR 0, vR 6, vR 37, vI x4, vI v69, vI v78] [] h78 _
          obtain ⟨c81, H⟩ := H
          refine X_goto (L := L_136) (n' := 478) rfl rfl rfl rfl ?_
          show X 136 478 [vR 38, vR 0, vR 6, vR 37, vI x4, vI v69, vI v78] [] h78 _
          refine X_b 1 479 (L := L_136) rfl rfl rfl ?_
          show (-2147483648 ≤ x4 + 5 ∧ x4 + 5 ≤ 2147483647) ∧ X 136 479 [vR 38, vR 0, vR 6, vR 37, vI (x4 + 5), vI v69, vI v78] [] h78 _
          refine ⟨c81, ?_⟩
          refine X_goto (L := L_136) (n' := 13) rfl rfl rfl rfl ?_
          show X 136 13 [vR 38, vR 0, vR 6, vR 37, vI (x4 + 5), vI v69, vI v78] [] h78 _
          exact H
        · have z80 : v69 = 0 := (Classical.not_not.mp z80)
          replace H := H.2 z80
          show X 136 239 [vR 38, vR 0, vR 6, vR 37, vI x4, vI v69, vI v78] [] h78 _
          refine X_b 4 243 (L := L_136) rfl rfl rfl ?_
          show (0 ≤ (0 : Int) ∧ (0 : Int) < 1) ∧ X 136 243 [vR 38, vR 0, vR 6, vR 37, vI x4, vI v69, vI v78] [vI v78, vJ (h78 37 0)] h78 _
          refine ⟨by decide, ?_⟩
          refine X_if (L := L_136) (n' := 246) rfl rfl rfl rfl (fun z82 => ?_) (fun z82 => ?_)
          · have z82 : v78 = 0 := z82
            replace H := H.1 z82
            show X 136 246 [vR 38, vR 0, vR 6, vR 37, vI x4, vI v69, vI v78] [vJ (h78 37 0)] h78 _
            refine X_b 2 248 (L := L_136) rfl rfl rfl ?_
            show X 136 248 [vR 38, vR 0, vR 6, vR 37, vI x4, vI v69, vI v78] [vI (ab_lc (h78 37 0) 0)] h78 _
            refine X_if (L := L_136) (n' := 251) rfl rfl rfl rfl (fun z83 => ?_) (fun z83 => ?_)
            · have z83 := ((sg_lc _ _).mp z83)
              replace H := H.1 z83
              show X 136 251 [vR 38, vR 0, vR 6, vR 37, vI x4, vI v69, vI v78] [] h78 _
              obtain ⟨c84, H⟩ := H
              refine X_goto (L := L_136) (n' := 478) rfl rfl rfl rfl ?_
              show X 136 478 [vR 38, vR 0, vR 6, vR 37, vI x4, vI v69, vI v78] [] h78 _
              refine X_b 1 479 (L := L_136) rfl rfl rfl ?_
              show (-2147483648 ≤ x4 + 5 ∧ x4 + 5 ≤ 2147483647) ∧ X 136 479 [vR 38, vR 0, vR 6, vR 37, vI (x4 + 5), vI v69, vI v78] [] h78 _
              refine ⟨c84, ?_⟩
              refine X_goto (L := L_136) (n' := 13) rfl rfl rfl rfl ?_
              show X 136 13 [vR 38, vR 0, vR 6, vR 37, vI (x4 + 5), vI v69, vI v78] [] h78 _
              exact H
            · have z83 : ¬ h78 37 0 = 0 := (fun q => z83 ((sg_lc _ _).mpr q))
              replace H := H.2 z83
              show X 136 249 [vR 38, vR 0, vR 6, vR 37, vI x4, vI v69, vI v78] [] h78 _
              refine X_b 1 250 (L := L_136) rfl rfl rfl ?_
              show X 136 250 [vR 38, vR 0, vR 6, vR 37, vI x4, vI v69, vI v78] [vI 0] h78 _
              refine X_zret (L := L_136) rfl rfl rfl rfl (by decide) ?_
              exact H
          · have z82 : ¬ v78 = 0 := z82
            replace H := H.2 z82
            show X 136 244 [vR 38, vR 0, vR 6, vR 37, vI x4, vI v69, vI v78] [vJ (h78 37 0)] h78 _
            refine X_b 1 245 (L := L_136) rfl rfl rfl ?_
            show X 136 245 [vR 38, vR 0, vR 6, vR 37, vI x4, vI v69, vI v78] [vJ 1, vJ (h78 37 0)] h78 _
            refine X_goto (L := L_136) (n' := 247) rfl rfl rfl rfl ?_
            show X 136 247 [vR 38, vR 0, vR 6, vR 37, vI x4, vI v69, vI v78] [vJ 1, vJ (h78 37 0)] h78 _
            refine X_b 1 248 (L := L_136) rfl rfl rfl ?_
            show X 136 248 [vR 38, vR 0, vR 6, vR 37, vI x4, vI v69, vI v78] [vI (ab_lc (h78 37 0) 1)] h78 _
            refine X_if (L := L_136) (n' := 251) rfl rfl rfl rfl (fun z85 => ?_) (fun z85 => ?_)
            · have z85 := ((sg_lc _ _).mp z85)
              replace H := H.1 z85
              show X 136 251 [vR 38, vR 0, vR 6, vR 37, vI x4, vI v69, vI v78] [] h78 _
              obtain ⟨c86, H⟩ := H
              refine X_goto (L := L_136) (n' := 478) rfl rfl rfl rfl ?_
              show X 136 478 [vR 38, vR 0, vR 6, vR 37, vI x4, vI v69, vI v78] [] h78 _
              refine X_b 1 479 (L := L_136) rfl rfl rfl ?_
              show (-2147483648 ≤ x4 + 5 ∧ x4 + 5 ≤ 2147483647) ∧ X 136 479 [vR 38, vR 0, vR 6, vR 37, vI (x4 + 5), vI v69, vI v78] [] h78 _
              refine ⟨c86, ?_⟩
              refine X_goto (L := L_136) (n' := 13) rfl rfl rfl rfl ?_
              show X 136 13 [vR 38, vR 0, vR 6, vR 37, vI (x4 + 5), vI v69, vI v78] [] h78 _
              exact H
            · have z85 : ¬ h78 37 0 = 1 := (fun q => z85 ((sg_lc _ _).mpr q))
              replace H := H.2 z85
              show X 136 249 [vR 38, vR 0, vR 6, vR 37, vI x4, vI v69, vI v78] [] h78 _
              refine X_b 1 250 (L := L_136) rfl rfl rfl ?_
              show X 136 250 [vR 38, vR 0, vR 6, vR 37, vI x4, vI v69, vI v78] [vI 0] h78 _
              refine X_zret (L := L_136) rfl rfl rfl rfl (by decide) ?_
              exact H
      · have z79 : ¬ h78 6 0 = v69 := z79
        replace H := H.2 z79
        show X 136 235 [vR 38, vR 0, vR 6, vR 37, vI x4, vI v69, vI v78] [] h78 _
        refine X_b 1 236 (L := L_136) rfl rfl rfl ?_
        show X 136 236 [vR 38, vR 0, vR 6, vR 37, vI x4, vI v69, vI v78] [vI 0] h78 _
        refine X_zret (L := L_136) rfl rfl rfl rfl (by decide) ?_
        exact H
    · replace H := H.2.2.2.2.2.2.2.1 z4
      refine X_sw (L := L_136) (n' := 252) rfl rfl rfl (by rw [z4]; rfl) ?_
      show X 136 252 [vR 38, vR 0, vR 6, vR 37, vI x4, w5, w6] [] h _
      obtain ⟨⟨c87, c88, c89, c90, c91, c92, c93, c94⟩, H⟩ := H
      refine X_b 22 274 (L := L_136) rfl rfl rfl ?_
      show (-2147483648 ≤ x4 + 1 ∧ x4 + 1 ≤ 2147483647) ∧ (0 ≤ x4 + 1 ∧ x4 + 1 < h 38 (-1)) ∧ (-2147483648 ≤ x4 + 2 ∧ x4 + 2 ≤ 2147483647) ∧ (0 ≤ x4 + 2 ∧ x4 + 2 < h 38 (-1)) ∧ (-2147483648 ≤ x4 + 3 ∧ x4 + 3 ≤ 2147483647) ∧ (0 ≤ x4 + 3 ∧ x4 + 3 < h 38 (-1)) ∧ (-2147483648 ≤ x4 + 4 ∧ x4 + 4 ≤ 2147483647) ∧ (0 ≤ x4 + 4 ∧ x4 + 4 < h 38 (-1)) ∧ X 136 274 [vR 38, vR 0, vR 6, vR 37, vI x4, w5, w6] [vR 37, vI (h 38 (x4 + 4)), vI (h 38 (x4 + 3)), vI (h 38 (x4 + 2)), vI (h 38 (x4 + 1)), vR 0] h _
      refine ⟨c87, c88, c89, c90, c91, c92, c93, c94, ?_⟩
      refine X_call 132 [vR 0, vI (h 38 (x4 + 1)), vI (h 38 (x4 + 2)), vI (h 38 (x4 + 3)), vI (h 38 (x4 + 4)), vR 37] [] rfl (sg_cals rfl rfl rfl rfl rfl rfl rfl rfl rfl rfl) (by decide) ?_
      refine C_mono H (kI_to ?_)
      intro v95 h95 H
      show X 136 275 [vR 38, vR 0, vR 6, vR 37, vI x4, w5, w6] [vI v95] h95 _
      obtain ⟨⟨c96, c97, c98, c99, c100, c101, c102, c103⟩, H⟩ := H
      refine X_b 22 297 (L := L_136) rfl rfl rfl ?_
      show (-2147483648 ≤ x4 + 1 ∧ x4 + 1 ≤ 2147483647) ∧ (0 ≤ x4 + 1 ∧ x4 + 1 < h95 38 (-1)) ∧ (-2147483648 ≤ x4 + 2 ∧ x4 + 2 ≤ 2147483647) ∧ (0 ≤ x4 + 2 ∧ x4 + 2 < h95 38 (-1)) ∧ (-2147483648 ≤ x4 + 3 ∧ x4 + 3 ≤ 2147483647) ∧ (0 ≤ x4 + 3 ∧ x4 + 3 < h95 38 (-1)) ∧ (-2147483648 ≤ x4 + 4 ∧ x4 + 4 ≤ 2147483647) ∧ (0 ≤ x4 + 4 ∧ x4 + 4 < h95 38 (-1)) ∧ X 136 297 [vR 38, vR 0, vR 6, vR 37, vI x4, vI v95, w6] [vI (h95 38 (x4 + 4)), vI (h95 38 (x4 + 3)), vI (h95 38 (x4 + 2)), vI (h95 38 (x4 + 1)), vR 6] h95 _
      refine ⟨c96, c97, c98, c99, c100, c101, c102, c103, ?_⟩
      refine X_call 57 [vR 6, vI (h95 38 (x4 + 1)), vI (h95 38 (x4 + 2)), vI (h95 38 (x4 + 3)), vI (h95 38 (x4 + 4))] [] rfl (sg_calv rfl rfl rfl rfl rfl rfl rfl rfl rfl rfl rfl) (by decide) ?_
      refine C_mono H (kI_to ?_)
      intro v104 h104 H
      show X 136 298 [vR 38, vR 0, vR 6, vR 37, vI x4, vI v95, w6] [vI v104] h104 _
      refine X_b 2 300 (L := L_136) rfl rfl rfl ?_
      show X 136 300 [vR 38, vR 0, vR 6, vR 37, vI x4, vI v95, vI v104] [vR 6] h104 _
      refine X_call 28 [vR 6] [] rfl (sg_calv rfl rfl rfl rfl rfl rfl rfl rfl rfl rfl rfl) (by decide) ?_
      show X 28 0 [vR 6] [] h104 _
      refine X_b 2 2 (L := L_28) rfl rfl rfl ?_
      show X 28 2 [vR 6] [vI (h104 6 0)] h104 _
      refine X_iret (L := L_28) rfl rfl rfl rfl ?_
      show X 136 301 [vR 38, vR 0, vR 6, vR 37, vI x4, vI v95, vI v104] [vI (h104 6 0)] h104 _
      refine X_b 1 302 (L := L_136) rfl rfl rfl ?_
      show X 136 302 [vR 38, vR 0, vR 6, vR 37, vI x4, vI v95, vI v104] [vI v95, vI (h104 6 0)] h104 _
      refine X_icmp (L := L_136) (n' := 305) rfl rfl rfl rfl (fun z105 => ?_) (fun z105 => ?_)
      · have z105 : h104 6 0 = v95 := z105
        replace H := H.1 z105
        show X 136 305 [vR 38, vR 0, vR 6, vR 37, vI x4, vI v95, vI v104] [] h104 _
        refine X_b 1 306 (L := L_136) rfl rfl rfl ?_
        show X 136 306 [vR 38, vR 0, vR 6, vR 37, vI x4, vI v95, vI v104] [vI v95] h104 _
        refine X_if (L := L_136) (n' := 319) rfl rfl rfl rfl (fun z106 => ?_) (fun z106 => ?_)
        · have z106 : ¬ v95 = 0 := z106
          replace H := H.1 z106
          show X 136 319 [vR 38, vR 0, vR 6, vR 37, vI x4, vI v95, vI v104] [] h104 _
          obtain ⟨c107, H⟩ := H
          refine X_goto (L := L_136) (n' := 478) rfl rfl rfl rfl ?_
          show X 136 478 [vR 38, vR 0, vR 6, vR 37, vI x4, vI v95, vI v104] [] h104 _
          refine X_b 1 479 (L := L_136) rfl rfl rfl ?_
          show (-2147483648 ≤ x4 + 5 ∧ x4 + 5 ≤ 2147483647) ∧ X 136 479 [vR 38, vR 0, vR 6, vR 37, vI (x4 + 5), vI v95, vI v104] [] h104 _
          refine ⟨c107, ?_⟩
          refine X_goto (L := L_136) (n' := 13) rfl rfl rfl rfl ?_
          show X 136 13 [vR 38, vR 0, vR 6, vR 37, vI (x4 + 5), vI v95, vI v104] [] h104 _
          exact H
        · have z106 : v95 = 0 := (Classical.not_not.mp z106)
          replace H := H.2 z106
          show X 136 307 [vR 38, vR 0, vR 6, vR 37, vI x4, vI v95, vI v104] [] h104 _
          refine X_b 4 311 (L := L_136) rfl rfl rfl ?_
          show (0 ≤ (0 : Int) ∧ (0 : Int) < 1) ∧ X 136 311 [vR 38, vR 0, vR 6, vR 37, vI x4, vI v95, vI v104] [vI v104, vJ (h104 37 0)] h104 _
          refine ⟨by decide, ?_⟩
          refine X_if (L := L_136) (n' := 314) rfl rfl rfl rfl (fun z108 => ?_) (fun z108 => ?_)
          · have z108 : v104 = 0 := z108
            replace H := H.1 z108
            show X 136 314 [vR 38, vR 0, vR 6, vR 37, vI x4, vI v95, vI v104] [vJ (h104 37 0)] h104 _
            refine X_b 2 316 (L := L_136) rfl rfl rfl ?_
            show X 136 316 [vR 38, vR 0, vR 6, vR 37, vI x4, vI v95, vI v104] [vI (ab_lc (h104 37 0) 0)] h104 _
            refine X_if (L := L_136) (n' := 319) rfl rfl rfl rfl (fun z109 => ?_) (fun z109 => ?_)
            · have z109 := ((sg_lc _ _).mp z109)
              replace H := H.1 z109
              show X 136 319 [vR 38, vR 0, vR 6, vR 37, vI x4, vI v95, vI v104] [] h104 _
              obtain ⟨c110, H⟩ := H
              refine X_goto (L := L_136) (n' := 478) rfl rfl rfl rfl ?_
              show X 136 478 [vR 38, vR 0, vR 6, vR 37, vI x4, vI v95, vI v104] [] h104 _
              refine X_b 1 479 (L := L_136) rfl rfl rfl ?_
              show (-2147483648 ≤ x4 + 5 ∧ x4 + 5 ≤ 2147483647) ∧ X 136 479 [vR 38, vR 0, vR 6, vR 37, vI (x4 + 5), vI v95, vI v104] [] h104 _
              refine ⟨c110, ?_⟩
              refine X_goto (L := L_136) (n' := 13) rfl rfl rfl rfl ?_
              show X 136 13 [vR 38, vR 0, vR 6, vR 37, vI (x4 + 5), vI v95, vI v104] [] h104 _
              exact H
            · have z109 : ¬ h104 37 0 = 0 := (fun q => z109 ((sg_lc _ _).mpr q))
              replace H := H.2 z109
              show X 136 317 [vR 38, vR 0, vR 6, vR 37, vI x4, vI v95, vI v104] [] h104 _
              refine X_b 1 318 (L := L_136) rfl rfl rfl ?_
              show X 136 318 [vR 38, vR 0, vR 6, vR 37, vI x4, vI v95, vI v104] [vI 0] h104 _
              refine X_zret (L := L_136) rfl rfl rfl rfl (by decide) ?_
              exact H
          · have z108 : ¬ v104 = 0 := z108
            replace H := H.2 z108
            show X 136 312 [vR 38, vR 0, vR 6, vR 37, vI x4, vI v95, vI v104] [vJ (h104 37 0)] h104 _
            refine X_b 1 313 (L := L_136) rfl rfl rfl ?_
            show X 136 313 [vR 38, vR 0, vR 6, vR 37, vI x4, vI v95, vI v104] [vJ 1, vJ (h104 37 0)] h104 _
            refine X_goto (L := L_136) (n' := 315) rfl rfl rfl rfl ?_
            show X 136 315 [vR 38, vR 0, vR 6, vR 37, vI x4, vI v95, vI v104] [vJ 1, vJ (h104 37 0)] h104 _
            refine X_b 1 316 (L := L_136) rfl rfl rfl ?_
            show X 136 316 [vR 38, vR 0, vR 6, vR 37, vI x4, vI v95, vI v104] [vI (ab_lc (h104 37 0) 1)] h104 _
            refine X_if (L := L_136) (n' := 319) rfl rfl rfl rfl (fun z111 => ?_) (fun z111 => ?_)
            · have z111 := ((sg_lc _ _).mp z111)
              replace H := H.1 z111
              show X 136 319 [vR 38, vR 0, vR 6, vR 37, vI x4, vI v95, vI v104] [] h104 _
              obtain ⟨c112, H⟩ := H
              refine X_goto (L := L_136) (n' := 478) rfl rfl rfl rfl ?_
              show X 136 478 [vR 38, vR 0, vR 6, vR 37, vI x4, vI v95, vI v104] [] h104 _
              refine X_b 1 479 (L := L_136) rfl rfl rfl ?_
              show (-2147483648 ≤ x4 + 5 ∧ x4 + 5 ≤ 2147483647) ∧ X 136 479 [vR 38, vR 0, vR 6, vR 37, vI (x4 + 5), vI v95, vI v104] [] h104 _
              refine ⟨c112, ?_⟩
              refine X_goto (L := L_136) (n' := 13) rfl rfl rfl rfl ?_
              show X 136 13 [vR 38, vR 0, vR 6, vR 37, vI (x4 + 5), vI v95, vI v104] [] h104 _
              exact H
            · have z111 : ¬ h104 37 0 = 1 := (fun q => z111 ((sg_lc _ _).mpr q))
              replace H := H.2 z111
              show X 136 317 [vR 38, vR 0, vR 6, vR 37, vI x4, vI v95, vI v104] [] h104 _
              refine X_b 1 318 (L := L_136) rfl rfl rfl ?_
              show X 136 318 [vR 38, vR 0, vR 6, vR 37, vI x4, vI v95, vI v104] [vI 0] h104 _
              refine X_zret (L := L_136) rfl rfl rfl rfl (by decide) ?_
              exact H
      · have z105 : ¬ h104 6 0 = v95 := z105
        replace H := H.2 z105
        show X 136 303 [vR 38, vR 0, vR 6, vR 37, vI x4, vI v95, vI v104] [] h104 _
        refine X_b 1 304 (L := L_136) rfl rfl rfl ?_
        show X 136 304 [vR 38, vR 0, vR 6, vR 37, vI x4, vI v95, vI v104] [vI 0] h104 _
        refine X_zret (L := L_136) rfl rfl rfl rfl (by decide) ?_
        exact H
    · replace H := H.2.2.2.2.2.2.2.2.1 z4
      refine X_sw (L := L_136) (n' := 320) rfl rfl rfl (by rw [z4]; rfl) ?_
      show X 136 320 [vR 38, vR 0, vR 6, vR 37, vI x4, w5, w6] [] h _
      refine X_b 2 322 (L := L_136) rfl rfl rfl ?_
      show X 136 322 [vR 38, vR 0, vR 6, vR 37, vI x4, w5, w6] [vR 37, vR 0] h _
      refine X_call 133 [vR 0, vR 37] [] rfl (sg_cals rfl rfl rfl rfl rfl rfl rfl rfl rfl rfl) (by decide) ?_
      refine C_mono H (kI_to ?_)
      intro v113 h113 H
      show X 136 323 [vR 38, vR 0, vR 6, vR 37, vI x4, w5, w6] [vI v113] h113 _
      refine X_b 2 325 (L := L_136) rfl rfl rfl ?_
      show X 136 325 [vR 38, vR 0, vR 6, vR 37, vI x4, vI v113, w6] [vR 6] h113 _
      refine X_call 65 [vR 6] [] rfl (sg_calv rfl rfl rfl rfl rfl rfl rfl rfl rfl rfl rfl) (by decide) ?_
      refine C_mono H (kI_to ?_)
      intro v114 h114 H
      show X 136 326 [vR 38, vR 0, vR 6, vR 37, vI x4, vI v113, w6] [vI v114] h114 _
      refine X_b 2 328 (L := L_136) rfl rfl rfl ?_
      show X 136 328 [vR 38, vR 0, vR 6, vR 37, vI x4, vI v113, vI v114] [vR 6] h114 _
      refine X_call 28 [vR 6] [] rfl (sg_calv rfl rfl rfl rfl rfl rfl rfl rfl rfl rfl rfl) (by decide) ?_
      show X 28 0 [vR 6] [] h114 _
      refine X_b 2 2 (L := L_28) rfl rfl rfl ?_
      show X 28 2 [vR 6] [vI (h114 6 0)] h114 _
      refine X_iret (L := L_28) rfl rfl rfl rfl ?_
      show X 136 329 [vR 38, vR 0, vR 6, vR 37, vI x4, vI v113, vI v114] [vI (h114 6 0)] h114 _
      refine X_b 1 330 (L := L_136) rfl rfl rfl ?_
      show X 136 330 [vR 38, vR 0, vR 6, vR 37, vI x4, vI v113, vI v114] [vI v113, vI (h114 6 0)] h114 _
      refine X_icmp (L := L_136) (n' := 333) rfl rfl rfl rfl (fun z115 => ?_) (fun z115 => ?_)
      · have z115 : h114 6 0 = v113 := z115
        replace H := H.1 z115
        show X 136 333 [vR 38, vR 0, vR 6, vR 37, vI x4, vI v113, vI v114] [] h114 _
        refine X_b 1 334 (L := L_136) rfl rfl rfl ?_
        show X 136 334 [vR 38, vR 0, vR 6, vR 37, vI x4, vI v113, vI v114] [vI v113] h114 _
        refine X_if (L := L_136) (n' := 344) rfl rfl rfl rfl (fun z116 => ?_) (fun z116 => ?_)
        · have z116 : ¬ v113 = 0 := z116
          replace H := H.1 z116
          show X 136 344 [vR 38, vR 0, vR 6, vR 37, vI x4, vI v113, vI v114] [] h114 _
          obtain ⟨c117, H⟩ := H
          refine X_goto (L := L_136) (n' := 478) rfl rfl rfl rfl ?_
          show X 136 478 [vR 38, vR 0, vR 6, vR 37, vI x4, vI v113, vI v114] [] h114 _
          refine X_b 1 479 (L := L_136) rfl rfl rfl ?_
          show (-2147483648 ≤ x4 + 5 ∧ x4 + 5 ≤ 2147483647) ∧ X 136 479 [vR 38, vR 0, vR 6, vR 37, vI (x4 + 5), vI v113, vI v114] [] h114 _
          refine ⟨c117, ?_⟩
          refine X_goto (L := L_136) (n' := 13) rfl rfl rfl rfl ?_
          show X 136 13 [vR 38, vR 0, vR 6, vR 37, vI (x4 + 5), vI v113, vI v114] [] h114 _
          exact H
        · have z116 : v113 = 0 := (Classical.not_not.mp z116)
          replace H := H.2 z116
          show X 136 335 [vR 38, vR 0, vR 6, vR 37, vI x4, vI v113, vI v114] [] h114 _
          refine X_b 6 341 (L := L_136) rfl rfl rfl ?_
          show (0 ≤ (0 : Int) ∧ (0 : Int) < 1) ∧ X 136 341 [vR 38, vR 0, vR 6, vR 37, vI x4, vI v113, vI v114] [vI (ab_lc (h114 37 0) v114)] h114 _
          refine ⟨by decide, ?_⟩
          refine X_if (L := L_136) (n' := 344) rfl rfl rfl rfl (fun z118 => ?_) (fun z118 => ?_)
          · have z118 := ((sg_lc _ _).mp z118)
            replace H := H.1 z118
            show X 136 344 [vR 38, vR 0, vR 6, vR 37, vI x4, vI v113, vI v114] [] h114 _
            obtain ⟨c119, H⟩ := H
            refine X_goto (L := L_136) (n' := 478) rfl rfl rfl rfl ?_
            show X 136 478 [vR 38, vR 0, vR 6, vR 37, vI x4, vI v113, vI v114] [] h114 _
            refine X_b 1 479 (L := L_136) rfl rfl rfl ?_
            show (-2147483648 ≤ x4 + 5 ∧ x4 + 5 ≤ 2147483647) ∧ X 136 479 [vR 38, vR 0, vR 6, vR 37, vI (x4 + 5), vI v113, vI v114] [] h114 _
            refine ⟨c119, ?_⟩
            refine X_goto (L := L_136) (n' := 13) rfl rfl rfl rfl ?_
            show X 136 13 [vR 38, vR 0, vR 6, vR 37, vI (x4 + 5), vI v113, vI v114] [] h114 _
            exact H
          · have z118 : ¬ h114 37 0 = v114 := (fun q => z118 ((sg_lc _ _).mpr q))
            replace H := H.2 z118
            show X 136 342 [vR 38, vR 0, vR 6, vR 37, vI x4, vI v113, vI v114] [] h114 _
            refine X_b 1 343 (L := L_136) rfl rfl rfl ?_
            show X 136 343 [vR 38, vR 0, vR 6, vR 37, vI x4, vI v113, vI v114] [vI 0] h114 _
            refine X_zret (L := L_136) rfl rfl rfl rfl (by decide) ?_
            exact H
      · have z115 : ¬ h114 6 0 = v113 := z115
        replace H := H.2 z115
        show X 136 331 [vR 38, vR 0, vR 6, vR 37, vI x4, vI v113, vI v114] [] h114 _
        refine X_b 1 332 (L := L_136) rfl rfl rfl ?_
        show X 136 332 [vR 38, vR 0, vR 6, vR 37, vI x4, vI v113, vI v114] [vI 0] h114 _
        refine X_zret (L := L_136) rfl rfl rfl rfl (by decide) ?_
        exact H
    · replace H := H.2.2.2.2.2.2.2.2.2.1 z4
      refine X_sw (L := L_136) (n' := 345) rfl rfl rfl (by rw [z4]; rfl) ?_
      show X 136 345 [vR 38, vR 0, vR 6, vR 37, vI x4, w5, w6] [] h _
      obtain ⟨⟨c120, c121⟩, H⟩ := H
      refine X_b 6 351 (L := L_136) rfl rfl rfl ?_
      show (-2147483648 ≤ x4 + 1 ∧ x4 + 1 ≤ 2147483647) ∧ (0 ≤ x4 + 1 ∧ x4 + 1 < h 38 (-1)) ∧ X 136 351 [vR 38, vR 0, vR 6, vR 37, vI x4, w5, w6] [vI (h 38 (x4 + 1)), vR 0] h _
      refine ⟨c120, c121, ?_⟩
      refine X_call 9 [vR 0, vI (h 38 (x4 + 1))] [] rfl (sg_calv rfl rfl rfl rfl rfl rfl rfl rfl rfl rfl rfl) (by decide) ?_
      refine C_mono H (kI_to ?_)
      intro v122 h122 H
      show X 136 352 [vR 38, vR 0, vR 6, vR 37, vI x4, w5, w6] [vI v122] h122 _
      obtain ⟨⟨c123, c124⟩, H⟩ := H
      refine X_b 6 358 (L := L_136) rfl rfl rfl ?_
      show (-2147483648 ≤ x4 + 1 ∧ x4 + 1 ≤ 2147483647) ∧ (0 ≤ x4 + 1 ∧ x4 + 1 < h122 38 (-1)) ∧ X 136 358 [vR 38, vR 0, vR 6, vR 37, vI x4, w5, w6] [vI (h122 38 (x4 + 1)), vR 6, vI v122] h122 _
      refine ⟨c123, c124, ?_⟩
      refine X_call 66 [vR 6, vI (h122 38 (x4 + 1))] [vI v122] rfl (sg_calv rfl rfl rfl rfl rfl rfl rfl rfl rfl rfl rfl) (by decide) ?_
      refine C_mono H (kI_to ?_)
      intro v125 h125 H
      show X 136 359 [vR 38, vR 0, vR 6, vR 37, vI x4, w5, w6] [vI v125, vI v122] h125 _
      refine X_icmp (L := L_136) (n' := 478) rfl rfl rfl rfl (fun z126 => ?_) (fun z126 => ?_)
      · have z126 : v122 = v125 := z126
        replace H := H.1 z126
        show X 136 478 [vR 38, vR 0, vR 6, vR 37, vI x4, w5, w6] [] h125 _
        obtain ⟨c127, H⟩ := H
        refine X_b 1 479 (L := L_136) rfl rfl rfl ?_
        show (-2147483648 ≤ x4 + 5 ∧ x4 + 5 ≤ 2147483647) ∧ X 136 479 [vR 38, vR 0, vR 6, vR 37, vI (x4 + 5), w5, w6] [] h125 _
        refine ⟨c127, ?_⟩
        refine X_goto (L := L_136) (n' := 13) rfl rfl rfl rfl ?_
        show X 136 13 [vR 38, vR 0, vR 6, vR 37, vI (x4 + 5), w5, w6] [] h125 _
        exact H
      · have z126 : ¬ v122 = v125 := z126
        replace H := H.2 z126
        show X 136 360 [vR 38, vR 0, vR 6, vR 37, vI x4, w5, w6] [] h125 _
        refine X_b 1 361 (L := L_136) rfl rfl rfl ?_
        show X 136 361 [vR 38, vR 0, vR 6, vR 37, vI x4, w5, w6] [vI 0] h125 _
        refine X_zret (L := L_136) rfl rfl rfl rfl (by decide) ?_
        exact H
    · replace H := H.2.2.2.2.2.2.2.2.2.2.1 z4
      refine X_sw (L := L_136) (n' := 362) rfl rfl rfl (by rw [z4]; rfl) ?_
      show X 136 362 [vR 38, vR 0, vR 6, vR 37, vI x4, w5, w6] [] h _
      obtain ⟨⟨c128, c129⟩, H⟩ := H
      refine X_b 6 368 (L := L_136) rfl rfl rfl ?_
      show (-2147483648 ≤ x4 + 1 ∧ x4 + 1 ≤ 2147483647) ∧ (0 ≤ x4 + 1 ∧ x4 + 1 < h 38 (-1)) ∧ X 136 368 [vR 38, vR 0, vR 6, vR 37, vI x4, w5, w6] [vI (h 38 (x4 + 1)), vR 0] h _
      refine ⟨c128, c129, ?_⟩
      refine X_call 10 [vR 0, vI (h 38 (x4 + 1))] [] rfl (sg_calv rfl rfl rfl rfl rfl rfl rfl rfl rfl rfl rfl) (by decide) ?_
      refine C_mono H (kI_to ?_)
      intro v130 h130 H
      show X 136 369 [vR 38, vR 0, vR 6, vR 37, vI x4, w5, w6] [vI v130] h130 _
      obtain ⟨⟨c131, c132⟩, H⟩ := H
      refine X_b 6 375 (L := L_136) rfl rfl rfl ?_
      show (-2147483648 ≤ x4 + 1 ∧ x4 + 1 ≤ 2147483647) ∧ (0 ≤ x4 + 1 ∧ x4 + 1 < h130 38 (-1)) ∧ X 136 375 [vR 38, vR 0, vR 6, vR 37, vI x4, w5, w6] [vI (h130 38 (x4 + 1)), vR 6, vI v130] h130 _
      refine ⟨c131, c132, ?_⟩
      refine X_call 67 [vR 6, vI (h130 38 (x4 + 1))] [vI v130] rfl (sg_calv rfl rfl rfl rfl rfl rfl rfl rfl rfl rfl rfl) (by decide) ?_
      refine C_mono H (kI_to ?_)
      intro v133 h133 H
      show X 136 376 [vR 38, vR 0, vR 6, vR 37, vI x4, w5, w6] [vI v133, vI v130] h133 _
      refine X_icmp (L := L_136) (n' := 478) rfl rfl rfl rfl (fun z134 => ?_) (fun z134 => ?_)
      · have z134 : v130 = v133 := z134
        replace H := H.1 z134
        show X 136 478 [vR 38, vR 0, vR 6, vR 37, vI x4, w5, w6] [] h133 _
        obtain ⟨c135, H⟩ := H
        refine X_b 1 479 (L := L_136) rfl rfl rfl ?_
        show (-2147483648 ≤ x4 + 5 ∧ x4 + 5 ≤ 2147483647) ∧ X 136 479 [vR 38, vR 0, vR 6, vR 37, vI (x4 + 5), w5, w6] [] h133 _
        refine ⟨c135, ?_⟩
        refine X_goto (L := L_136) (n' := 13) rfl rfl rfl rfl ?_
        show X 136 13 [vR 38, vR 0, vR 6, vR 37, vI (x4 + 5), w5, w6] [] h133 _
        exact H
      · have z134 : ¬ v130 = v133 := z134
        replace H := H.2 z134
        show X 136 377 [vR 38, vR 0, vR 6, vR 37, vI x4, w5, w6] [] h133 _
        refine X_b 1 378 (L := L_136) rfl rfl rfl ?_
        show X 136 378 [vR 38, vR 0, vR 6, vR 37, vI x4, w5, w6] [vI 0] h133 _
        refine X_zret (L := L_136) rfl rfl rfl rfl (by decide) ?_
        exact H
    · replace H := H.2.2.2.2.2.2.2.2.2.2.2.1 z4
      refine X_sw (L := L_136) (n' := 379) rfl rfl rfl (by rw [z4]; rfl) ?_
      show X 136 379 [vR 38, vR 0, vR 6, vR 37, vI x4, w5, w6] [] h _
      refine X_b 1 380 (L := L_136) rfl rfl rfl ?_
      show X 136 380 [vR 38, vR 0, vR 6, vR 37, vI x4, w5, w6] [vR 0] h _
      refine X_call 11 [vR 0] [] rfl (sg_calv rfl rfl rfl rfl rfl rfl rfl rfl rfl rfl rfl) (by decide) ?_
      refine C_mono H (kV_to ?_)
      intro h136 H
      show X 136 381 [vR 38, vR 0, vR 6, vR 37, vI x4, w5, w6] [] h136 _
      refine X_b 1 382 (L := L_136) rfl rfl rfl ?_
      show X 136 382 [vR 38, vR 0, vR 6, vR 37, vI x4, w5, w6] [vR 6] h136 _
      refine X_call 68 [vR 6] [] rfl (sg_calv rfl rfl rfl rfl rfl rfl rfl rfl rfl rfl rfl) (by decide) ?_
      refine C_mono H (kV_to ?_)
      intro h137 H
      show X 136 383 [vR 38, vR 0, vR 6, vR 37, vI x4, w5, w6] [] h137 _
      obtain ⟨c138, H⟩ := H
      refine X_goto (L := L_136) (n' := 478) rfl rfl rfl rfl ?_
      show X 136 478 [vR 38, vR 0, vR 6, vR 37, vI x4, w5, w6] [] h137 _
      refine X_b 1 479 (L := L_136) rfl rfl rfl ?_
      show (-2147483648 ≤ x4 + 5 ∧ x4 + 5 ≤ 2147483647) ∧ X 136 479 [vR 38, vR 0, vR 6, vR 37, vI (x4 + 5), w5, w6] [] h137 _
      refine ⟨c138, ?_⟩
      refine X_goto (L := L_136) (n' := 13) rfl rfl rfl rfl ?_
      show X 136 13 [vR 38, vR 0, vR 6, vR 37, vI (x4 + 5), w5, w6] [] h137 _
      exact H
    · replace H := H.2.2.2.2.2.2.2.2.2.2.2.2.1 z4
      refine X_sw (L := L_136) (n' := 384) rfl rfl rfl (by rw [z4]; rfl) ?_
      show X 136 384 [vR 38, vR 0, vR 6, vR 37, vI x4, w5, w6] [] h _
      obtain ⟨⟨c139, c140⟩, H⟩ := H
      refine X_b 7 391 (L := L_136) rfl rfl rfl ?_
      show (-2147483648 ≤ x4 + 1 ∧ x4 + 1 ≤ 2147483647) ∧ (0 ≤ x4 + 1 ∧ x4 + 1 < h 38 (-1)) ∧ X 136 391 [vR 38, vR 0, vR 6, vR 37, vI x4, w5, w6] [vR 37, vI (h 38 (x4 + 1)), vR 0] h _
      refine ⟨c139, c140, ?_⟩
      refine X_call 134 [vR 0, vI (h 38 (x4 + 1)), vR 37] [] rfl (sg_cals rfl rfl rfl rfl rfl rfl rfl rfl rfl rfl) (by decide) ?_
      refine C_mono H (kI_to ?_)
      intro v141 h141 H
      show X 136 392 [vR 38, vR 0, vR 6, vR 37, vI x4, w5, w6] [vI v141] h141 _
      obtain ⟨⟨c142, c143⟩, H⟩ := H
      refine X_b 7 399 (L := L_136) rfl rfl rfl ?_
      show (-2147483648 ≤ x4 + 1 ∧ x4 + 1 ≤ 2147483647) ∧ (0 ≤ x4 + 1 ∧ x4 + 1 < h141 38 (-1)) ∧ X 136 399 [vR 38, vR 0, vR 6, vR 37, vI x4, vI v141, w6] [vI (h141 38 (x4 + 1)), vR 6] h141 _
      refine ⟨c142, c143, ?_⟩
      refine X_call 74 [vR 6, vI (h141 38 (x4 + 1))] [] rfl (sg_calv rfl rfl rfl rfl rfl rfl rfl rfl rfl rfl rfl) (by decide) ?_
      refine C_mono H (kI_to ?_)
      intro v144 h144 H
      show X 136 400 [vR 38, vR 0, vR 6, vR 37, vI x4, vI v141, w6] [vI v144] h144 _
      refine X_b 2 402 (L := L_136) rfl rfl rfl ?_
      show X 136 402 [vR 38, vR 0, vR 6, vR 37, vI x4, vI v141, vI v144] [vR 6] h144 _
      refine X_call 28 [vR 6] [] rfl (sg_calv rfl rfl rfl rfl rfl rfl rfl rfl rfl rfl rfl) (by decide) ?_
      show X 28 0 [vR 6] [] h144 _
      refine X_b 2 2 (L := L_28) rfl rfl rfl ?_
      show X 28 2 [vR 6] [vI (h144 6 0)] h144 _
      refine X_iret (L := L_28) rfl rfl rfl rfl ?_
      show X 136 403 [vR 38, vR 0, vR 6, vR 37, vI x4, vI v141, vI v144] [vI (h144 6 0)] h144 _
      refine X_b 1 404 (L := L_136) rfl rfl rfl ?_
      show X 136 404 [vR 38, vR 0, vR 6, vR 37, vI x4, vI v141, vI v144] [vI v141, vI (h144 6 0)] h144 _
      refine X_icmp (L := L_136) (n' := 407) rfl rfl rfl rfl (fun z145 => ?_) (fun z145 => ?_)
      · have z145 : h144 6 0 = v141 := z145
        replace H := H.1 z145
        show X 136 407 [vR 38, vR 0, vR 6, vR 37, vI x4, vI v141, vI v144] [] h144 _
        refine X_b 1 408 (L := L_136) rfl rfl rfl ?_
        show X 136 408 [vR 38, vR 0, vR 6, vR 37, vI x4, vI v141, vI v144] [vI v141] h144 _
        refine X_if (L := L_136) (n' := 418) rfl rfl rfl rfl (fun z146 => ?_) (fun z146 => ?_)
        · have z146 : ¬ v141 = 0 := z146
          replace H := H.1 z146
          show X 136 418 [vR 38, vR 0, vR 6, vR 37, vI x4, vI v141, vI v144] [] h144 _
          obtain ⟨c147, H⟩ := H
          refine X_goto (L := L_136) (n' := 478) rfl rfl rfl rfl ?_
          show X 136 478 [vR 38, vR 0, vR 6, vR 37, vI x4, vI v141, vI v144] [] h144 _
          refine X_b 1 479 (L := L_136) rfl rfl rfl ?_
          show (-2147483648 ≤ x4 + 5 ∧ x4 + 5 ≤ 2147483647) ∧ X 136 479 [vR 38, vR 0, vR 6, vR 37, vI (x4 + 5), vI v141, vI v144] [] h144 _
          refine ⟨c147, ?_⟩
          refine X_goto (L := L_136) (n' := 13) rfl rfl rfl rfl ?_
          show X 136 13 [vR 38, vR 0, vR 6, vR 37, vI (x4 + 5), vI v141, vI v144] [] h144 _
          exact H
        · have z146 : v141 = 0 := (Classical.not_not.mp z146)
          replace H := H.2 z146
          show X 136 409 [vR 38, vR 0, vR 6, vR 37, vI x4, vI v141, vI v144] [] h144 _
          refine X_b 6 415 (L := L_136) rfl rfl rfl ?_
          show (0 ≤ (0 : Int) ∧ (0 : Int) < 1) ∧ X 136 415 [vR 38, vR 0, vR 6, vR 37, vI x4, vI v141, vI v144] [vI (ab_lc (h144 37 0) v144)] h144 _
          refine ⟨by decide, ?_⟩
          refine X_if (L := L_136) (n' := 418) rfl rfl rfl rfl (fun z148 => ?_) (fun z148 => ?_)
          · have z148 := ((sg_lc _ _).mp z148)
            replace H := H.1 z148
            show X 136 418 [vR 38, vR 0, vR 6, vR 37, vI x4, vI v141, vI v144] [] h144 _
            obtain ⟨c149, H⟩ := H
            refine X_goto (L := L_136) (n' := 478) rfl rfl rfl rfl ?_
            show X 136 478 [vR 38, vR 0, vR 6, vR 37, vI x4, vI v141, vI v144] [] h144 _
            refine X_b 1 479 (L := L_136) rfl rfl rfl ?_
            show (-2147483648 ≤ x4 + 5 ∧ x4 + 5 ≤ 2147483647) ∧ X 136 479 [vR 38, vR 0, vR 6, vR 37, vI (x4 + 5), vI v141, vI v144] [] h144 _
            refine ⟨c149, ?_⟩
            refine X_goto (L := L_136) (n' := 13) rfl rfl rfl rfl ?_
            show X 136 13 [vR 38, vR 0, vR 6, vR 37, vI (x4 + 5), vI v141, vI v144] [] h144 _
            exact H
          · have z148 : ¬ h144 37 0 = v144 := (fun q => z148 ((sg_lc _ _).mpr q))
            replace H := H.2 z148
            show X 136 416 [vR 38, vR 0, vR 6, vR 37, vI x4, vI v141, vI v144] [] h144 _
            refine X_b 1 417 (L := L_136) rfl rfl rfl ?_
            show X 136 417 [vR 38, vR 0, vR 6, vR 37, vI x4, vI v141, vI v144] [vI 0] h144 _
            refine X_zret (L := L_136) rfl rfl rfl rfl (by decide) ?_
            exact H
      · have z145 : ¬ h144 6 0 = v141 := z145
        replace H := H.2 z145
        show X 136 405 [vR 38, vR 0, vR 6, vR 37, vI x4, vI v141, vI v144] [] h144 _
        refine X_b 1 406 (L := L_136) rfl rfl rfl ?_
        show X 136 406 [vR 38, vR 0, vR 6, vR 37, vI x4, vI v141, vI v144] [vI 0] h144 _
        refine X_zret (L := L_136) rfl rfl rfl rfl (by decide) ?_
        exact H
    · replace H := H.2.2.2.2.2.2.2.2.2.2.2.2.2.1 z4
      refine X_sw (L := L_136) (n' := 419) rfl rfl rfl (by rw [z4]; rfl) ?_
      show X 136 419 [vR 38, vR 0, vR 6, vR 37, vI x4, w5, w6] [] h _
      refine X_b 1 420 (L := L_136) rfl rfl rfl ?_
      show X 136 420 [vR 38, vR 0, vR 6, vR 37, vI x4, w5, w6] [vR 0] h _
      refine X_call 13 [vR 0] [] rfl (sg_calv rfl rfl rfl rfl rfl rfl rfl rfl rfl rfl rfl) (by decide) ?_
      refine C_mono H (kI_to ?_)
      intro v150 h150 H
      show X 136 421 [vR 38, vR 0, vR 6, vR 37, vI x4, w5, w6] [vI v150] h150 _
      refine X_b 1 422 (L := L_136) rfl rfl rfl ?_
      show X 136 422 [vR 38, vR 0, vR 6, vR 37, vI x4, w5, w6] [vR 6, vI v150] h150 _
      refine X_call 75 [vR 6] [vI v150] rfl (sg_calv rfl rfl rfl rfl rfl rfl rfl rfl rfl rfl rfl) (by decide) ?_
      refine C_mono H (kI_to ?_)
      intro v151 h151 H
      show X 136 423 [vR 38, vR 0, vR 6, vR 37, vI x4, w5, w6] [vI v151, vI v150] h151 _
      refine X_icmp (L := L_136) (n' := 478) rfl rfl rfl rfl (fun z152 => ?_) (fun z152 => ?_)
      · have z152 : v150 = v151 := z152
        replace H := H.1 z152
        show X 136 478 [vR 38, vR 0, vR 6, vR 37, vI x4, w5, w6] [] h151 _
        obtain ⟨c153, H⟩ := H
        refine X_b 1 479 (L := L_136) rfl rfl rfl ?_
        show (-2147483648 ≤ x4 + 5 ∧ x4 + 5 ≤ 2147483647) ∧ X 136 479 [vR 38, vR 0, vR 6, vR 37, vI (x4 + 5), w5, w6] [] h151 _
        refine ⟨c153, ?_⟩
        refine X_goto (L := L_136) (n' := 13) rfl rfl rfl rfl ?_
        show X 136 13 [vR 38, vR 0, vR 6, vR 37, vI (x4 + 5), w5, w6] [] h151 _
        exact H
      · have z152 : ¬ v150 = v151 := z152
        replace H := H.2 z152
        show X 136 424 [vR 38, vR 0, vR 6, vR 37, vI x4, w5, w6] [] h151 _
        refine X_b 1 425 (L := L_136) rfl rfl rfl ?_
        show X 136 425 [vR 38, vR 0, vR 6, vR 37, vI x4, w5, w6] [vI 0] h151 _
        refine X_zret (L := L_136) rfl rfl rfl rfl (by decide) ?_
        exact H
    · replace H := H.2.2.2.2.2.2.2.2.2.2.2.2.2.2.1 z4
      refine X_sw (L := L_136) (n' := 426) rfl rfl rfl (by rw [z4]; rfl) ?_
      show X 136 426 [vR 38, vR 0, vR 6, vR 37, vI x4, w5, w6] [] h _
      obtain ⟨⟨c154, c155, c156, c157⟩, H⟩ := H
      refine X_b 12 438 (L := L_136) rfl rfl rfl ?_
      show (-2147483648 ≤ x4 + 1 ∧ x4 + 1 ≤ 2147483647) ∧ (0 ≤ x4 + 1 ∧ x4 + 1 < h 38 (-1)) ∧ (-2147483648 ≤ x4 + 2 ∧ x4 + 2 ≤ 2147483647) ∧ (0 ≤ x4 + 2 ∧ x4 + 2 < h 38 (-1)) ∧ X 136 438 [vR 38, vR 0, vR 6, vR 37, vI x4, w5, w6] [vR 37, vI (h 38 (x4 + 2)), vI (h 38 (x4 + 1)), vR 0] h _
      refine ⟨c154, c155, c156, c157, ?_⟩
      refine X_call 135 [vR 0, vI (h 38 (x4 + 1)), vI (h 38 (x4 + 2)), vR 37] [] rfl (sg_cals rfl rfl rfl rfl rfl rfl rfl rfl rfl rfl) (by decide) ?_
      refine C_mono H (kI_to ?_)
      intro v158 h158 H
      show X 136 439 [vR 38, vR 0, vR 6, vR 37, vI x4, w5, w6] [vI v158] h158 _
      obtain ⟨⟨c159, c160, c161, c162⟩, H⟩ := H
      refine X_b 12 451 (L := L_136) rfl rfl rfl ?_
      show (-2147483648 ≤ x4 + 1 ∧ x4 + 1 ≤ 2147483647) ∧ (0 ≤ x4 + 1 ∧ x4 + 1 < h158 38 (-1)) ∧ (-2147483648 ≤ x4 + 2 ∧ x4 + 2 ≤ 2147483647) ∧ (0 ≤ x4 + 2 ∧ x4 + 2 < h158 38 (-1)) ∧ X 136 451 [vR 38, vR 0, vR 6, vR 37, vI x4, vI v158, w6] [vI (h158 38 (x4 + 2)), vI (h158 38 (x4 + 1)), vR 6] h158 _
      refine ⟨c159, c160, c161, c162, ?_⟩
      refine X_call 76 [vR 6, vI (h158 38 (x4 + 1)), vI (h158 38 (x4 + 2))] [] rfl (sg_calv rfl rfl rfl rfl rfl rfl rfl rfl rfl rfl rfl) (by decide) ?_
      refine C_mono H (kI_to ?_)
      intro v163 h163 H
      show X 136 452 [vR 38, vR 0, vR 6, vR 37, vI x4, vI v158, w6] [vI v163] h163 _
      refine X_b 2 454 (L := L_136) rfl rfl rfl ?_
      show X 136 454 [vR 38, vR 0, vR 6, vR 37, vI x4, vI v158, vI v163] [vR 6] h163 _
      refine X_call 28 [vR 6] [] rfl (sg_calv rfl rfl rfl rfl rfl rfl rfl rfl rfl rfl rfl) (by decide) ?_
      show X 28 0 [vR 6] [] h163 _
      refine X_b 2 2 (L := L_28) rfl rfl rfl ?_
      show X 28 2 [vR 6] [vI (h163 6 0)] h163 _
      refine X_iret (L := L_28) rfl rfl rfl rfl ?_
      show X 136 455 [vR 38, vR 0, vR 6, vR 37, vI x4, vI v158, vI v163] [vI (h163 6 0)] h163 _
      refine X_b 1 456 (L := L_136) rfl rfl rfl ?_
      show X 136 456 [vR 38, vR 0, vR 6, vR 37, vI x4, vI v158, vI v163] [vI v158, vI (h163 6 0)] h163 _
      refine X_icmp (L := L_136) (n' := 459) rfl rfl rfl rfl (fun z164 => ?_) (fun z164 => ?_)
      · have z164 : h163 6 0 = v158 := z164
        replace H := H.1 z164
        show X 136 459 [vR 38, vR 0, vR 6, vR 37, vI x4, vI v158, vI v163] [] h163 _
        refine X_b 1 460 (L := L_136) rfl rfl rfl ?_
        show X 136 460 [vR 38, vR 0, vR 6, vR 37, vI x4, vI v158, vI v163] [vI v158] h163 _
        refine X_if (L := L_136) (n' := 470) rfl rfl rfl rfl (fun z165 => ?_) (fun z165 => ?_)
        · have z165 : ¬ v158 = 0 := z165
          replace H := H.1 z165
          show X 136 470 [vR 38, vR 0, vR 6, vR 37, vI x4, vI v158, vI v163] [] h163 _
          obtain ⟨c166, H⟩ := H
          refine X_goto (L := L_136) (n' := 478) rfl rfl rfl rfl ?_
          show X 136 478 [vR 38, vR 0, vR 6, vR 37, vI x4, vI v158, vI v163] [] h163 _
          refine X_b 1 479 (L := L_136) rfl rfl rfl ?_
          show (-2147483648 ≤ x4 + 5 ∧ x4 + 5 ≤ 2147483647) ∧ X 136 479 [vR 38, vR 0, vR 6, vR 37, vI (x4 + 5), vI v158, vI v163] [] h163 _
          refine ⟨c166, ?_⟩
          refine X_goto (L := L_136) (n' := 13) rfl rfl rfl rfl ?_
          show X 136 13 [vR 38, vR 0, vR 6, vR 37, vI (x4 + 5), vI v158, vI v163] [] h163 _
          exact H
        · have z165 : v158 = 0 := (Classical.not_not.mp z165)
          replace H := H.2 z165
          show X 136 461 [vR 38, vR 0, vR 6, vR 37, vI x4, vI v158, vI v163] [] h163 _
          refine X_b 6 467 (L := L_136) rfl rfl rfl ?_
          show (0 ≤ (0 : Int) ∧ (0 : Int) < 1) ∧ X 136 467 [vR 38, vR 0, vR 6, vR 37, vI x4, vI v158, vI v163] [vI (ab_lc (h163 37 0) v163)] h163 _
          refine ⟨by decide, ?_⟩
          refine X_if (L := L_136) (n' := 470) rfl rfl rfl rfl (fun z167 => ?_) (fun z167 => ?_)
          · have z167 := ((sg_lc _ _).mp z167)
            replace H := H.1 z167
            show X 136 470 [vR 38, vR 0, vR 6, vR 37, vI x4, vI v158, vI v163] [] h163 _
            obtain ⟨c168, H⟩ := H
            refine X_goto (L := L_136) (n' := 478) rfl rfl rfl rfl ?_
            show X 136 478 [vR 38, vR 0, vR 6, vR 37, vI x4, vI v158, vI v163] [] h163 _
            refine X_b 1 479 (L := L_136) rfl rfl rfl ?_
            show (-2147483648 ≤ x4 + 5 ∧ x4 + 5 ≤ 2147483647) ∧ X 136 479 [vR 38, vR 0, vR 6, vR 37, vI (x4 + 5), vI v158, vI v163] [] h163 _
            refine ⟨c168, ?_⟩
            refine X_goto (L := L_136) (n' := 13) rfl rfl rfl rfl ?_
            show X 136 13 [vR 38, vR 0, vR 6, vR 37, vI (x4 + 5), vI v158, vI v163] [] h163 _
            exact H
          · have z167 : ¬ h163 37 0 = v163 := (fun q => z167 ((sg_lc _ _).mpr q))
            replace H := H.2 z167
            show X 136 468 [vR 38, vR 0, vR 6, vR 37, vI x4, vI v158, vI v163] [] h163 _
            refine X_b 1 469 (L := L_136) rfl rfl rfl ?_
            show X 136 469 [vR 38, vR 0, vR 6, vR 37, vI x4, vI v158, vI v163] [vI 0] h163 _
            refine X_zret (L := L_136) rfl rfl rfl rfl (by decide) ?_
            exact H
      · have z164 : ¬ h163 6 0 = v158 := z164
        replace H := H.2 z164
        show X 136 457 [vR 38, vR 0, vR 6, vR 37, vI x4, vI v158, vI v163] [] h163 _
        refine X_b 1 458 (L := L_136) rfl rfl rfl ?_
        show X 136 458 [vR 38, vR 0, vR 6, vR 37, vI x4, vI v158, vI v163] [vI 0] h163 _
        refine X_zret (L := L_136) rfl rfl rfl rfl (by decide) ?_
        exact H
    · replace H := H.2.2.2.2.2.2.2.2.2.2.2.2.2.2.2.1 z4
      refine X_sw (L := L_136) (n' := 471) rfl rfl rfl (by rw [z4]; rfl) ?_
      show X 136 471 [vR 38, vR 0, vR 6, vR 37, vI x4, w5, w6] [] h _
      refine X_b 1 472 (L := L_136) rfl rfl rfl ?_
      show X 136 472 [vR 38, vR 0, vR 6, vR 37, vI x4, w5, w6] [vR 0] h _
      refine X_call 15 [vR 0] [] rfl (sg_calv rfl rfl rfl rfl rfl rfl rfl rfl rfl rfl rfl) (by decide) ?_
      refine C_mono H (kI_to ?_)
      intro v169 h169 H
      show X 136 473 [vR 38, vR 0, vR 6, vR 37, vI x4, w5, w6] [vI v169] h169 _
      refine X_b 1 474 (L := L_136) rfl rfl rfl ?_
      show X 136 474 [vR 38, vR 0, vR 6, vR 37, vI x4, w5, w6] [vR 6, vI v169] h169 _
      refine X_call 77 [vR 6] [vI v169] rfl (sg_calv rfl rfl rfl rfl rfl rfl rfl rfl rfl rfl rfl) (by decide) ?_
      refine C_mono H (kI_to ?_)
      intro v170 h170 H
      show X 136 475 [vR 38, vR 0, vR 6, vR 37, vI x4, w5, w6] [vI v170, vI v169] h170 _
      refine X_icmp (L := L_136) (n' := 478) rfl rfl rfl rfl (fun z171 => ?_) (fun z171 => ?_)
      · have z171 : v169 = v170 := z171
        replace H := H.1 z171
        show X 136 478 [vR 38, vR 0, vR 6, vR 37, vI x4, w5, w6] [] h170 _
        obtain ⟨c172, H⟩ := H
        refine X_b 1 479 (L := L_136) rfl rfl rfl ?_
        show (-2147483648 ≤ x4 + 5 ∧ x4 + 5 ≤ 2147483647) ∧ X 136 479 [vR 38, vR 0, vR 6, vR 37, vI (x4 + 5), w5, w6] [] h170 _
        refine ⟨c172, ?_⟩
        refine X_goto (L := L_136) (n' := 13) rfl rfl rfl rfl ?_
        show X 136 13 [vR 38, vR 0, vR 6, vR 37, vI (x4 + 5), w5, w6] [] h170 _
        exact H
      · have z171 : ¬ v169 = v170 := z171
        replace H := H.2 z171
        show X 136 476 [vR 38, vR 0, vR 6, vR 37, vI x4, w5, w6] [] h170 _
        refine X_b 1 477 (L := L_136) rfl rfl rfl ?_
        show X 136 477 [vR 38, vR 0, vR 6, vR 37, vI x4, w5, w6] [vI 0] h170 _
        refine X_zret (L := L_136) rfl rfl rfl rfl (by decide) ?_
        exact H
    · replace H := H.2.2.2.2.2.2.2.2.2.2.2.2.2.2.2.2 z4
      refine X_sw (L := L_136) (n' := 478) rfl rfl rfl (by unfold ab_swt; rw [if_pos z4]) ?_
      show X 136 478 [vR 38, vR 0, vR 6, vR 37, vI x4, w5, w6] [] h _
      obtain ⟨c173, H⟩ := H
      refine X_b 1 479 (L := L_136) rfl rfl rfl ?_
      show (-2147483648 ≤ x4 + 5 ∧ x4 + 5 ≤ 2147483647) ∧ X 136 479 [vR 38, vR 0, vR 6, vR 37, vI (x4 + 5), w5, w6] [] h _
      refine ⟨c173, ?_⟩
      refine X_goto (L := L_136) (n' := 13) rfl rfl rfl rfl ?_
      show X 136 13 [vR 38, vR 0, vR 6, vR 37, vI (x4 + 5), w5, w6] [] h _
      exact H
end Seg
