/-! By program (wip/gen/seg.py): stretches of methods as formulas. -/
section Seg
/-- PP.rule, row 0 -/
theorem s_0_0 (x1 : Int) (h : ab_S) (K : ab_O → ab_S → Prop) (H : C 106 [vI x1] h (kI (fun v1 h1 => ((¬ v1 = 0 → ((h1 1 0 < 8 → C 107 [vR 1, vI x1] (ab_up (ab_up (ab_up (ab_up (ab_up (ab_up (ab_up h1 2 0 0) 15 0 (-1)) 15 1 (-1)) 15 2 (-1)) 15 3 (-1)) 5 7 0) 5 9 0) (kI (fun v4 h4 => K (oI v4) h4))) ∧ (8 ≤ h1 1 0 → K (oX 1) (ab_up h1 39 0 ((h1 39 0) + 1))))) ∧ (v1 = 0 → K (oX 0) (ab_up h1 39 0 ((h1 39 0) + 1))))))) : C 0 [vR 0, vI x1] h K := by
  show X 0 0 [vR 0, vI x1] [] h K
  refine X_b 1 1 (L := L_0) rfl rfl rfl ?_
  show X 0 1 [vR 0, vI x1] [vI x1] h _
  refine X_call 106 [vI x1] [] rfl (sg_cals rfl rfl rfl rfl rfl rfl rfl rfl rfl rfl) (by decide) ?_
  refine C_mono H (kI_to ?_)
  intro v1 h1 H
  show X 0 2 [vR 0, vI x1] [vI v1] h1 _
  refine X_if (L := L_0) (n' := 8) rfl rfl rfl rfl (fun z2 => ?_) (fun z2 => ?_)
  · have z2 : ¬ v1 = 0 := z2
    replace H := H.1 z2
    show X 0 8 [vR 0, vI x1] [] h1 _
    refine X_b 4 12 (L := L_0) rfl rfl rfl ?_
    show X 0 12 [vR 0, vI x1] [vI 8, vI (h1 1 0)] h1 _
    refine X_icmp (L := L_0) (n' := 18) rfl rfl rfl rfl (fun z3 => ?_) (fun z3 => ?_)
    · have z3 : h1 1 0 < 8 := z3
      replace H := H.1 z3
      show X 0 18 [vR 0, vI x1] [] h1 _
      refine X_b 1 19 (L := L_0) rfl rfl rfl ?_
      show X 0 19 [vR 0, vI x1] [vR 0] h1 _
      refine X_call 16 [vR 0] [] rfl (sg_calv rfl rfl rfl rfl rfl rfl rfl rfl rfl rfl rfl) (by decide) ?_
      show X 16 0 [vR 0] [] h1 _
      refine X_b 6 6 (L := L_16) rfl rfl rfl ?_
      show X 16 6 [vR 0] [vR 4] (ab_up h1 2 0 0) _
      refine X_call 92 [vR 4] [] rfl (sg_calv rfl rfl rfl rfl rfl rfl rfl rfl rfl rfl rfl) (by decide) ?_
      show X 92 0 [vR 4] [] (ab_up h1 2 0 0) _
      refine X_b 5 5 (L := L_92) rfl rfl rfl ?_
      show X 92 5 [vR 4] [vI (-1), vI (-1), vI (-1), vI (-1), vR 4] (ab_up h1 2 0 0) _
      refine X_call 93 [vR 4, vI (-1), vI (-1), vI (-1), vI (-1)] [] rfl (sg_calv rfl rfl rfl rfl rfl rfl rfl rfl rfl rfl rfl) (by decide) ?_
      show X 93 0 [vR 4, vI (-1), vI (-1), vI (-1), vI (-1)] [] (ab_up h1 2 0 0) _
      refine X_b 20 20 (L := L_93) rfl rfl rfl ?_
      show (0 ≤ (0 : Int) ∧ (0 : Int) < 4) ∧ (0 ≤ (1 : Int) ∧ (1 : Int) < 4) ∧ (0 ≤ (2 : Int) ∧ (2 : Int) < 4) ∧ (0 ≤ (3 : Int) ∧ (3 : Int) < 4) ∧ X 93 20 [vR 4, vI (-1), vI (-1), vI (-1), vI (-1)] [] (ab_up (ab_up (ab_up (ab_up (ab_up h1 2 0 0) 15 0 (-1)) 15 1 (-1)) 15 2 (-1)) 15 3 (-1)) _
      refine ⟨by decide, by decide, by decide, by decide, ?_⟩
      refine X_ret (L := L_93) rfl rfl rfl rfl ?_
      show X 92 6 [vR 4] [] (ab_up (ab_up (ab_up (ab_up (ab_up h1 2 0 0) 15 0 (-1)) 15 1 (-1)) 15 2 (-1)) 15 3 (-1)) _
      refine X_ret (L := L_92) rfl rfl rfl rfl ?_
      show X 16 7 [vR 0] [] (ab_up (ab_up (ab_up (ab_up (ab_up h1 2 0 0) 15 0 (-1)) 15 1 (-1)) 15 2 (-1)) 15 3 (-1)) _
      refine X_b 2 9 (L := L_16) rfl rfl rfl ?_
      show X 16 9 [vR 0] [vR 5] (ab_up (ab_up (ab_up (ab_up (ab_up h1 2 0 0) 15 0 (-1)) 15 1 (-1)) 15 2 (-1)) 15 3 (-1)) _
      refine X_call 116 [vR 5] [] rfl (sg_calv rfl rfl rfl rfl rfl rfl rfl rfl rfl rfl rfl) (by decide) ?_
      show X 116 0 [vR 5] [] (ab_up (ab_up (ab_up (ab_up (ab_up h1 2 0 0) 15 0 (-1)) 15 1 (-1)) 15 2 (-1)) 15 3 (-1)) _
      refine X_b 6 6 (L := L_116) rfl rfl rfl ?_
      show X 116 6 [vR 5] [] (ab_up (ab_up (ab_up (ab_up (ab_up (ab_up (ab_up h1 2 0 0) 15 0 (-1)) 15 1 (-1)) 15 2 (-1)) 15 3 (-1)) 5 7 0) 5 9 0) _
      refine X_ret (L := L_116) rfl rfl rfl rfl ?_
      show X 16 10 [vR 0] [] (ab_up (ab_up (ab_up (ab_up (ab_up (ab_up (ab_up h1 2 0 0) 15 0 (-1)) 15 1 (-1)) 15 2 (-1)) 15 3 (-1)) 5 7 0) 5 9 0) _
      refine X_ret (L := L_16) rfl rfl rfl rfl ?_
      show X 0 20 [vR 0, vI x1] [] (ab_up (ab_up (ab_up (ab_up (ab_up (ab_up (ab_up h1 2 0 0) 15 0 (-1)) 15 1 (-1)) 15 2 (-1)) 15 3 (-1)) 5 7 0) 5 9 0) _
      refine X_b 3 23 (L := L_0) rfl rfl rfl ?_
      show X 0 23 [vR 0, vI x1] [vI x1, vR 1] (ab_up (ab_up (ab_up (ab_up (ab_up (ab_up (ab_up h1 2 0 0) 15 0 (-1)) 15 1 (-1)) 15 2 (-1)) 15 3 (-1)) 5 7 0) 5 9 0) _
      refine X_call 107 [vR 1, vI x1] [] rfl (sg_calv rfl rfl rfl rfl rfl rfl rfl rfl rfl rfl rfl) (by decide) ?_
      refine C_mono H (kI_to ?_)
      intro v4 h4 H
      show X 0 24 [vR 0, vI x1] [vI v4] h4 _
      refine X_iret (L := L_0) rfl rfl rfl rfl ?_
      exact H
    · have z3 : 8 ≤ h1 1 0 := (Int.not_lt.mp z3)
      replace H := H.2 z3
      show X 0 13 [vR 0, vI x1] [] h1 _
      refine X_thr 1 sg_thr_0_13 rfl (Nat.le_of_ble_eq_true rfl) ?_
      exact H
  · have z2 : v1 = 0 := (Classical.not_not.mp z2)
    replace H := H.2 z2
    show X 0 3 [vR 0, vI x1] [] h1 _
    refine X_thr 0 sg_thr_0_3 rfl (Nat.le_of_ble_eq_true rfl) ?_
    exact H

/-- PP.clear, row 0 -/
theorem s_1_0 (h : ab_S) (K : ab_O → ab_S → Prop) (H : K oV (ab_up (ab_up (ab_up (ab_up (ab_up (ab_up (ab_up (ab_up h 2 0 0) 15 0 (-1)) 15 1 (-1)) 15 2 (-1)) 15 3 (-1)) 5 7 0) 5 9 0) 1 0 0)) : C 1 [vR 0] h K := by
  show X 1 0 [vR 0] [] h K
  refine X_b 1 1 (L := L_1) rfl rfl rfl ?_
  show X 1 1 [vR 0] [vR 0] h _
  refine X_call 16 [vR 0] [] rfl (sg_calv rfl rfl rfl rfl rfl rfl rfl rfl rfl rfl rfl) (by decide) ?_
  show X 16 0 [vR 0] [] h _
  refine X_b 6 6 (L := L_16) rfl rfl rfl ?_
  show X 16 6 [vR 0] [vR 4] (ab_up h 2 0 0) _
  refine X_call 92 [vR 4] [] rfl (sg_calv rfl rfl rfl rfl rfl rfl rfl rfl rfl rfl rfl) (by decide) ?_
  show X 92 0 [vR 4] [] (ab_up h 2 0 0) _
  refine X_b 5 5 (L := L_92) rfl rfl rfl ?_
  show X 92 5 [vR 4] [vI (-1), vI (-1), vI (-1), vI (-1), vR 4] (ab_up h 2 0 0) _
  refine X_call 93 [vR 4, vI (-1), vI (-1), vI (-1), vI (-1)] [] rfl (sg_calv rfl rfl rfl rfl rfl rfl rfl rfl rfl rfl rfl) (by decide) ?_
  show X 93 0 [vR 4, vI (-1), vI (-1), vI (-1), vI (-1)] [] (ab_up h 2 0 0) _
  refine X_b 20 20 (L := L_93) rfl rfl rfl ?_
  show (0 ≤ (0 : Int) ∧ (0 : Int) < 4) ∧ (0 ≤ (1 : Int) ∧ (1 : Int) < 4) ∧ (0 ≤ (2 : Int) ∧ (2 : Int) < 4) ∧ (0 ≤ (3 : Int) ∧ (3 : Int) < 4) ∧ X 93 20 [vR 4, vI (-1), vI (-1), vI (-1), vI (-1)] [] (ab_up (ab_up (ab_up (ab_up (ab_up h 2 0 0) 15 0 (-1)) 15 1 (-1)) 15 2 (-1)) 15 3 (-1)) _
  refine ⟨by decide, by decide, by decide, by decide, ?_⟩
  refine X_ret (L := L_93) rfl rfl rfl rfl ?_
  show X 92 6 [vR 4] [] (ab_up (ab_up (ab_up (ab_up (ab_up h 2 0 0) 15 0 (-1)) 15 1 (-1)) 15 2 (-1)) 15 3 (-1)) _
  refine X_ret (L := L_92) rfl rfl rfl rfl ?_
  show X 16 7 [vR 0] [] (ab_up (ab_up (ab_up (ab_up (ab_up h 2 0 0) 15 0 (-1)) 15 1 (-1)) 15 2 (-1)) 15 3 (-1)) _
  refine X_b 2 9 (L := L_16) rfl rfl rfl ?_
  show X 16 9 [vR 0] [vR 5] (ab_up (ab_up (ab_up (ab_up (ab_up h 2 0 0) 15 0 (-1)) 15 1 (-1)) 15 2 (-1)) 15 3 (-1)) _
  refine X_call 116 [vR 5] [] rfl (sg_calv rfl rfl rfl rfl rfl rfl rfl rfl rfl rfl rfl) (by decide) ?_
  show X 116 0 [vR 5] [] (ab_up (ab_up (ab_up (ab_up (ab_up h 2 0 0) 15 0 (-1)) 15 1 (-1)) 15 2 (-1)) 15 3 (-1)) _
  refine X_b 6 6 (L := L_116) rfl rfl rfl ?_
  show X 116 6 [vR 5] [] (ab_up (ab_up (ab_up (ab_up (ab_up (ab_up (ab_up h 2 0 0) 15 0 (-1)) 15 1 (-1)) 15 2 (-1)) 15 3 (-1)) 5 7 0) 5 9 0) _
  refine X_ret (L := L_116) rfl rfl rfl rfl ?_
  show X 16 10 [vR 0] [] (ab_up (ab_up (ab_up (ab_up (ab_up (ab_up (ab_up h 2 0 0) 15 0 (-1)) 15 1 (-1)) 15 2 (-1)) 15 3 (-1)) 5 7 0) 5 9 0) _
  refine X_ret (L := L_16) rfl rfl rfl rfl ?_
  show X 1 2 [vR 0] [] (ab_up (ab_up (ab_up (ab_up (ab_up (ab_up (ab_up h 2 0 0) 15 0 (-1)) 15 1 (-1)) 15 2 (-1)) 15 3 (-1)) 5 7 0) 5 9 0) _
  refine X_b 2 4 (L := L_1) rfl rfl rfl ?_
  show X 1 4 [vR 0] [vR 1] (ab_up (ab_up (ab_up (ab_up (ab_up (ab_up (ab_up h 2 0 0) 15 0 (-1)) 15 1 (-1)) 15 2 (-1)) 15 3 (-1)) 5 7 0) 5 9 0) _
  refine X_call 108 [vR 1] [] rfl (sg_calv rfl rfl rfl rfl rfl rfl rfl rfl rfl rfl rfl) (by decide) ?_
  show X 108 0 [vR 1] [] (ab_up (ab_up (ab_up (ab_up (ab_up (ab_up (ab_up h 2 0 0) 15 0 (-1)) 15 1 (-1)) 15 2 (-1)) 15 3 (-1)) 5 7 0) 5 9 0) _
  refine X_b 3 3 (L := L_108) rfl rfl rfl ?_
  show X 108 3 [vR 1] [] (ab_up (ab_up (ab_up (ab_up (ab_up (ab_up (ab_up (ab_up h 2 0 0) 15 0 (-1)) 15 1 (-1)) 15 2 (-1)) 15 3 (-1)) 5 7 0) 5 9 0) 1 0 0) _
  refine X_ret (L := L_108) rfl rfl rfl rfl ?_
  show X 1 5 [vR 0] [] (ab_up (ab_up (ab_up (ab_up (ab_up (ab_up (ab_up (ab_up h 2 0 0) 15 0 (-1)) 15 1 (-1)) 15 2 (-1)) 15 3 (-1)) 5 7 0) 5 9 0) 1 0 0) _
  refine X_ret (L := L_1) rfl rfl rfl rfl ?_
  exact H

/-- PP.build, row 0 -/
theorem s_2_0 (h : ab_S) (K : ab_O → ab_S → Prop) (H : ((¬ h 1 0 = 0 → C 85 [vR 3] (ab_up (ab_up (ab_up (ab_up (ab_up (ab_up (ab_up h 2 0 0) 15 0 (-1)) 15 1 (-1)) 15 2 (-1)) 15 3 (-1)) 5 7 0) 5 9 0) (kI (fun v2 h2 => ((¬ v2 = 0 → K (oI (h2 2 0)) h2) ∧ (v2 = 0 → K (oX 3) (ab_up (ab_up h2 2 0 0) 39 0 ((h2 39 0) + 1))))))) ∧ (h 1 0 = 0 → K (oX 1) (ab_up h 39 0 ((h 39 0) + 1))))) : C 2 [vR 0] h K := by
  show X 2 0 [vR 0] [] h K
  refine X_b 3 3 (L := L_2) rfl rfl rfl ?_
  show X 2 3 [vR 0] [vI (h 1 0)] h _
  refine X_if (L := L_2) (n' := 9) rfl rfl rfl rfl (fun z1 => ?_) (fun z1 => ?_)
  · have z1 : ¬ h 1 0 = 0 := z1
    replace H := H.1 z1
    show X 2 9 [vR 0] [] h _
    refine X_b 1 10 (L := L_2) rfl rfl rfl ?_
    show X 2 10 [vR 0] [vR 0] h _
    refine X_call 16 [vR 0] [] rfl (sg_calv rfl rfl rfl rfl rfl rfl rfl rfl rfl rfl rfl) (by decide) ?_
    show X 16 0 [vR 0] [] h _
    refine X_b 6 6 (L := L_16) rfl rfl rfl ?_
    show X 16 6 [vR 0] [vR 4] (ab_up h 2 0 0) _
    refine X_call 92 [vR 4] [] rfl (sg_calv rfl rfl rfl rfl rfl rfl rfl rfl rfl rfl rfl) (by decide) ?_
    show X 92 0 [vR 4] [] (ab_up h 2 0 0) _
    refine X_b 5 5 (L := L_92) rfl rfl rfl ?_
    show X 92 5 [vR 4] [vI (-1), vI (-1), vI (-1), vI (-1), vR 4] (ab_up h 2 0 0) _
    refine X_call 93 [vR 4, vI (-1), vI (-1), vI (-1), vI (-1)] [] rfl (sg_calv rfl rfl rfl rfl rfl rfl rfl rfl rfl rfl rfl) (by decide) ?_
    show X 93 0 [vR 4, vI (-1), vI (-1), vI (-1), vI (-1)] [] (ab_up h 2 0 0) _
    refine X_b 20 20 (L := L_93) rfl rfl rfl ?_
    show (0 ≤ (0 : Int) ∧ (0 : Int) < 4) ∧ (0 ≤ (1 : Int) ∧ (1 : Int) < 4) ∧ (0 ≤ (2 : Int) ∧ (2 : Int) < 4) ∧ (0 ≤ (3 : Int) ∧ (3 : Int) < 4) ∧ X 93 20 [vR 4, vI (-1), vI (-1), vI (-1), vI (-1)] [] (ab_up (ab_up (ab_up (ab_up (ab_up h 2 0 0) 15 0 (-1)) 15 1 (-1)) 15 2 (-1)) 15 3 (-1)) _
    refine ⟨by decide, by decide, by decide, by decide, ?_⟩
    refine X_ret (L := L_93) rfl rfl rfl rfl ?_
    show X 92 6 [vR 4] [] (ab_up (ab_up (ab_up (ab_up (ab_up h 2 0 0) 15 0 (-1)) 15 1 (-1)) 15 2 (-1)) 15 3 (-1)) _
    refine X_ret (L := L_92) rfl rfl rfl rfl ?_
    show X 16 7 [vR 0] [] (ab_up (ab_up (ab_up (ab_up (ab_up h 2 0 0) 15 0 (-1)) 15 1 (-1)) 15 2 (-1)) 15 3 (-1)) _
    refine X_b 2 9 (L := L_16) rfl rfl rfl ?_
    show X 16 9 [vR 0] [vR 5] (ab_up (ab_up (ab_up (ab_up (ab_up h 2 0 0) 15 0 (-1)) 15 1 (-1)) 15 2 (-1)) 15 3 (-1)) _
    refine X_call 116 [vR 5] [] rfl (sg_calv rfl rfl rfl rfl rfl rfl rfl rfl rfl rfl rfl) (by decide) ?_
    show X 116 0 [vR 5] [] (ab_up (ab_up (ab_up (ab_up (ab_up h 2 0 0) 15 0 (-1)) 15 1 (-1)) 15 2 (-1)) 15 3 (-1)) _
    refine X_b 6 6 (L := L_116) rfl rfl rfl ?_
    show X 116 6 [vR 5] [] (ab_up (ab_up (ab_up (ab_up (ab_up (ab_up (ab_up h 2 0 0) 15 0 (-1)) 15 1 (-1)) 15 2 (-1)) 15 3 (-1)) 5 7 0) 5 9 0) _
    refine X_ret (L := L_116) rfl rfl rfl rfl ?_
    show X 16 10 [vR 0] [] (ab_up (ab_up (ab_up (ab_up (ab_up (ab_up (ab_up h 2 0 0) 15 0 (-1)) 15 1 (-1)) 15 2 (-1)) 15 3 (-1)) 5 7 0) 5 9 0) _
    refine X_ret (L := L_16) rfl rfl rfl rfl ?_
    show X 2 11 [vR 0] [] (ab_up (ab_up (ab_up (ab_up (ab_up (ab_up (ab_up h 2 0 0) 15 0 (-1)) 15 1 (-1)) 15 2 (-1)) 15 3 (-1)) 5 7 0) 5 9 0) _
    refine X_b 2 13 (L := L_2) rfl rfl rfl ?_
    show X 2 13 [vR 0] [vR 3] (ab_up (ab_up (ab_up (ab_up (ab_up (ab_up (ab_up h 2 0 0) 15 0 (-1)) 15 1 (-1)) 15 2 (-1)) 15 3 (-1)) 5 7 0) 5 9 0) _
    refine X_call 85 [vR 3] [] rfl (sg_calv rfl rfl rfl rfl rfl rfl rfl rfl rfl rfl rfl) (by decide) ?_
    refine C_mono H (kI_to ?_)
    intro v2 h2 H
    show X 2 14 [vR 0] [vI v2] h2 _
    refine X_if (L := L_2) (n' := 24) rfl rfl rfl rfl (fun z3 => ?_) (fun z3 => ?_)
    · have z3 : ¬ v2 = 0 := z3
      replace H := H.1 z3
      show X 2 24 [vR 0] [] h2 _
      refine X_b 3 27 (L := L_2) rfl rfl rfl ?_
      show X 2 27 [vR 0] [vI (h2 2 0)] h2 _
      refine X_iret (L := L_2) rfl rfl rfl rfl ?_
      exact H
    · have z3 : v2 = 0 := (Classical.not_not.mp z3)
      replace H := H.2 z3
      show X 2 15 [vR 0] [] h2 _
      refine X_b 4 19 (L := L_2) rfl rfl rfl ?_
      show X 2 19 [vR 0] [] (ab_up h2 2 0 0) _
      refine X_thr 3 sg_thr_2_19 rfl (Nat.le_of_ble_eq_true rfl) ?_
      exact H
  · have z1 : h 1 0 = 0 := (Classical.not_not.mp z1)
    replace H := H.2 z1
    show X 2 4 [vR 0] [] h _
    refine X_thr 1 sg_thr_2_4 rfl (Nat.le_of_ble_eq_true rfl) ?_
    exact H

/-- PP.states, row 0 -/
theorem s_3_0 (h : ab_S) (K : ab_O → ab_S → Prop) (H : K (oI (h 2 0)) h) : C 3 [vR 0] h K := by
  show X 3 0 [vR 0] [] h K
  refine X_b 3 3 (L := L_3) rfl rfl rfl ?_
  show X 3 3 [vR 0] [vI (h 2 0)] h _
  refine X_iret (L := L_3) rfl rfl rfl rfl ?_
  exact H

/-- PP.entry, row 0 -/
theorem s_4_0 (x1 x2 : Int) (h : ab_S) (K : ab_O → ab_S → Prop) (H : ((x1 < 0 → K (oX 2) (ab_up h 39 0 ((h 39 0) + 1))) ∧ (0 ≤ x1 → ((x1 < h 2 0 → ((x2 < 0 → K (oX 2) (ab_up h 39 0 ((h 39 0) + 1))) ∧ (0 ≤ x2 → ((x2 < 10 → ((-2147483648 ≤ x1 * 10 ∧ x1 * 10 ≤ 2147483647) ∧ (0 ≤ (x1 * 10) + x2 ∧ (x1 * 10) + x2 < 500)) ∧ K (oI (h 12 ((x1 * 10) + x2))) h) ∧ (10 ≤ x2 → K (oX 2) (ab_up h 39 0 ((h 39 0) + 1))))))) ∧ (h 2 0 ≤ x1 → K (oX 2) (ab_up h 39 0 ((h 39 0) + 1))))))) : C 4 [vR 0, vI x1, vI x2] h K := by
  show X 4 0 [vR 0, vI x1, vI x2] [] h K
  refine X_b 3 3 (L := L_4) rfl rfl rfl ?_
  show X 4 3 [vR 0, vI x1, vI x2] [vI x2, vI x1, vR 0] h _
  refine X_call 19 [vR 0, vI x1, vI x2] [] rfl (sg_calv rfl rfl rfl rfl rfl rfl rfl rfl rfl rfl rfl) (by decide) ?_
  show X 19 0 [vR 0, vI x1, vI x2] [] h _
  refine X_b 2 2 (L := L_19) rfl rfl rfl ?_
  show X 19 2 [vR 0, vI x1, vI x2] [vI x1, vR 0] h _
  refine X_call 18 [vR 0, vI x1] [] rfl (sg_calv rfl rfl rfl rfl rfl rfl rfl rfl rfl rfl rfl) (by decide) ?_
  show X 18 0 [vR 0, vI x1] [] h _
  refine X_b 1 1 (L := L_18) rfl rfl rfl ?_
  show X 18 1 [vR 0, vI x1] [vI x1] h _
  refine X_if (L := L_18) (n' := 7) rfl rfl rfl rfl (fun z1 => ?_) (fun z1 => ?_)
  · have z1 : x1 < 0 := z1
    replace H := H.1 z1
    show X 18 7 [vR 0, vI x1] [] h _
    refine X_thr 2 sg_thr_18_7 rfl (Nat.le_of_ble_eq_true rfl) ?_
    exact H
  · have z1 : 0 ≤ x1 := (Int.not_lt.mp z1)
    replace H := H.2 z1
    show X 18 2 [vR 0, vI x1] [] h _
    refine X_b 4 6 (L := L_18) rfl rfl rfl ?_
    show X 18 6 [vR 0, vI x1] [vI (h 2 0), vI x1] h _
    refine X_icmp (L := L_18) (n' := 12) rfl rfl rfl rfl (fun z2 => ?_) (fun z2 => ?_)
    · have z2 : x1 < h 2 0 := z2
      replace H := H.1 z2
      show X 18 12 [vR 0, vI x1] [] h _
      refine X_ret (L := L_18) rfl rfl rfl rfl ?_
      show X 19 3 [vR 0, vI x1, vI x2] [] h _
      refine X_b 1 4 (L := L_19) rfl rfl rfl ?_
      show X 19 4 [vR 0, vI x1, vI x2] [vI x2] h _
      refine X_if (L := L_19) (n' := 8) rfl rfl rfl rfl (fun z3 => ?_) (fun z3 => ?_)
      · have z3 : x2 < 0 := z3
        replace H := H.1 z3
        show X 19 8 [vR 0, vI x1, vI x2] [] h _
        refine X_thr 2 sg_thr_19_8 rfl (Nat.le_of_ble_eq_true rfl) ?_
        exact H
      · have z3 : 0 ≤ x2 := (Int.not_lt.mp z3)
        replace H := H.2 z3
        show X 19 5 [vR 0, vI x1, vI x2] [] h _
        refine X_b 2 7 (L := L_19) rfl rfl rfl ?_
        show X 19 7 [vR 0, vI x1, vI x2] [vI 10, vI x2] h _
        refine X_icmp (L := L_19) (n' := 13) rfl rfl rfl rfl (fun z4 => ?_) (fun z4 => ?_)
        · have z4 : x2 < 10 := z4
          replace H := H.1 z4
          show X 19 13 [vR 0, vI x1, vI x2] [] h _
          obtain ⟨⟨c5, c6⟩, H⟩ := H
          refine X_ret (L := L_19) rfl rfl rfl rfl ?_
          show X 4 4 [vR 0, vI x1, vI x2] [] h _
          refine X_b 4 8 (L := L_4) rfl rfl rfl ?_
          show X 4 8 [vR 0, vI x1, vI x2] [vI x2, vI x1, vR 2] h _
          refine X_call 78 [vR 2, vI x1, vI x2] [] rfl (sg_calv rfl rfl rfl rfl rfl rfl rfl rfl rfl rfl rfl) (by decide) ?_
          show X 78 0 [vR 2, vI x1, vI x2] [] h _
          refine X_b 8 8 (L := L_78) rfl rfl rfl ?_
          show (-2147483648 ≤ x1 * 10 ∧ x1 * 10 ≤ 2147483647) ∧ (-2147483648 ≤ (x1 * 10) + x2 ∧ (x1 * 10) + x2 ≤ 2147483647) ∧ (0 ≤ (x1 * 10) + x2 ∧ (x1 * 10) + x2 < 500) ∧ X 78 8 [vR 2, vI x1, vI x2] [vI (h 12 ((x1 * 10) + x2))] h _
          refine ⟨c5, by have := c6; omega, c6, ?_⟩
          refine X_iret (L := L_78) rfl rfl rfl rfl ?_
          show X 4 9 [vR 0, vI x1, vI x2] [vI (h 12 ((x1 * 10) + x2))] h _
          refine X_iret (L := L_4) rfl rfl rfl rfl ?_
          exact H
        · have z4 : 10 ≤ x2 := (Int.not_lt.mp z4)
          replace H := H.2 z4
          show X 19 8 [vR 0, vI x1, vI x2] [] h _
          refine X_thr 2 sg_thr_19_8 rfl (Nat.le_of_ble_eq_true rfl) ?_
          exact H
    · have z2 : h 2 0 ≤ x1 := (Int.not_lt.mp z2)
      replace H := H.2 z2
      show X 18 7 [vR 0, vI x1] [] h _
      refine X_thr 2 sg_thr_18_7 rfl (Nat.le_of_ble_eq_true rfl) ?_
      exact H

/-- PP.set, row 0 -/
theorem s_5_0 (x1 x2 x3 : Int) (h : ab_S) (K : ab_O → ab_S → Prop) (H : ((x1 < 0 → K (oX 2) (ab_up h 39 0 ((h 39 0) + 1))) ∧ (0 ≤ x1 → ((x1 < h 2 0 → ((x2 < 0 → K (oX 2) (ab_up h 39 0 ((h 39 0) + 1))) ∧ (0 ≤ x2 → ((x2 < 10 → ((x3 = (-1) → ((-2147483648 ≤ x1 * 10 ∧ x1 * 10 ≤ 2147483647) ∧ (0 ≤ (x1 * 10) + x2 ∧ (x1 * 10) + x2 < 500)) ∧ K oV (ab_up (ab_up (ab_up h 12 ((x1 * 10) + x2) x3) 5 7 0) 5 9 0)) ∧ (¬ x3 = (-1) → ((¬ x3 = 200 → ((x3 < 100 → ((x3 < 0 → K (oX 0) (ab_up h 39 0 ((h 39 0) + 1))) ∧ (0 ≤ x3 → ((h 2 0 ≤ x3 → K (oX 0) (ab_up h 39 0 ((h 39 0) + 1))) ∧ (x3 < h 2 0 → ((-2147483648 ≤ x1 * 10 ∧ x1 * 10 ≤ 2147483647) ∧ (0 ≤ (x1 * 10) + x2 ∧ (x1 * 10) + x2 < 500)) ∧ K oV (ab_up (ab_up (ab_up h 12 ((x1 * 10) + x2) x3) 5 7 0) 5 9 0)))))) ∧ (100 ≤ x3 → ((-2147483648 ≤ x3 - 100 ∧ x3 - 100 ≤ 2147483647)) ∧ ((h 1 0 < x3 - 100 → K (oX 0) (ab_up h 39 0 ((h 39 0) + 1))) ∧ (x3 - 100 ≤ h 1 0 → ((-2147483648 ≤ x1 * 10 ∧ x1 * 10 ≤ 2147483647) ∧ (0 ≤ (x1 * 10) + x2 ∧ (x1 * 10) + x2 < 500)) ∧ K oV (ab_up (ab_up (ab_up h 12 ((x1 * 10) + x2) x3) 5 7 0) 5 9 0)))))) ∧ (x3 = 200 → ((-2147483648 ≤ x1 * 10 ∧ x1 * 10 ≤ 2147483647) ∧ (0 ≤ (x1 * 10) + x2 ∧ (x1 * 10) + x2 < 500)) ∧ K oV (ab_up (ab_up (ab_up h 12 ((x1 * 10) + x2) x3) 5 7 0) 5 9 0)))))) ∧ (10 ≤ x2 → K (oX 2) (ab_up h 39 0 ((h 39 0) + 1))))))) ∧ (h 2 0 ≤ x1 → K (oX 2) (ab_up h 39 0 ((h 39 0) + 1))))))) : C 5 [vR 0, vI x1, vI x2, vI x3] h K := by
  show X 5 0 [vR 0, vI x1, vI x2, vI x3] [] h K
  refine X_b 3 3 (L := L_5) rfl rfl rfl ?_
  show X 5 3 [vR 0, vI x1, vI x2, vI x3] [vI x2, vI x1, vR 0] h _
  refine X_call 19 [vR 0, vI x1, vI x2] [] rfl (sg_calv rfl rfl rfl rfl rfl rfl rfl rfl rfl rfl rfl) (by decide) ?_
  show X 19 0 [vR 0, vI x1, vI x2] [] h _
  refine X_b 2 2 (L := L_19) rfl rfl rfl ?_
  show X 19 2 [vR 0, vI x1, vI x2] [vI x1, vR 0] h _
  refine X_call 18 [vR 0, vI x1] [] rfl (sg_calv rfl rfl rfl rfl rfl rfl rfl rfl rfl rfl rfl) (by decide) ?_
  show X 18 0 [vR 0, vI x1] [] h _
  refine X_b 1 1 (L := L_18) rfl rfl rfl ?_
  show X 18 1 [vR 0, vI x1] [vI x1] h _
  refine X_if (L := L_18) (n' := 7) rfl rfl rfl rfl (fun z1 => ?_) (fun z1 => ?_)
  · have z1 : x1 < 0 := z1
    replace H := H.1 z1
    show X 18 7 [vR 0, vI x1] [] h _
    refine X_thr 2 sg_thr_18_7 rfl (Nat.le_of_ble_eq_true rfl) ?_
    exact H
  · have z1 : 0 ≤ x1 := (Int.not_lt.mp z1)
    replace H := H.2 z1
    show X 18 2 [vR 0, vI x1] [] h _
    refine X_b 4 6 (L := L_18) rfl rfl rfl ?_
    show X 18 6 [vR 0, vI x1] [vI (h 2 0), vI x1] h _
    refine X_icmp (L := L_18) (n' := 12) rfl rfl rfl rfl (fun z2 => ?_) (fun z2 => ?_)
    · have z2 : x1 < h 2 0 := z2
      replace H := H.1 z2
      show X 18 12 [vR 0, vI x1] [] h _
      refine X_ret (L := L_18) rfl rfl rfl rfl ?_
      show X 19 3 [vR 0, vI x1, vI x2] [] h _
      refine X_b 1 4 (L := L_19) rfl rfl rfl ?_
      show X 19 4 [vR 0, vI x1, vI x2] [vI x2] h _
      refine X_if (L := L_19) (n' := 8) rfl rfl rfl rfl (fun z3 => ?_) (fun z3 => ?_)
      · have z3 : x2 < 0 := z3
        replace H := H.1 z3
        show X 19 8 [vR 0, vI x1, vI x2] [] h _
        refine X_thr 2 sg_thr_19_8 rfl (Nat.le_of_ble_eq_true rfl) ?_
        exact H
      · have z3 : 0 ≤ x2 := (Int.not_lt.mp z3)
        replace H := H.2 z3
        show X 19 5 [vR 0, vI x1, vI x2] [] h _
        refine X_b 2 7 (L := L_19) rfl rfl rfl ?_
        show X 19 7 [vR 0, vI x1, vI x2] [vI 10, vI x2] h _
        refine X_icmp (L := L_19) (n' := 13) rfl rfl rfl rfl (fun z4 => ?_) (fun z4 => ?_)
        · have z4 : x2 < 10 := z4
          replace H := H.1 z4
          show X 19 13 [vR 0, vI x1, vI x2] [] h _
          refine X_ret (L := L_19) rfl rfl rfl rfl ?_
          show X 5 4 [vR 0, vI x1, vI x2, vI x3] [] h _
          refine X_b 2 6 (L := L_5) rfl rfl rfl ?_
          show X 5 6 [vR 0, vI x1, vI x2, vI x3] [vI x3, vR 0] h _
          refine X_call 22 [vR 0, vI x3] [] rfl (sg_calv rfl rfl rfl rfl rfl rfl rfl rfl rfl rfl rfl) (by decide) ?_
          show X 22 0 [vR 0, vI x3] [] h _
          refine X_b 2 2 (L := L_22) rfl rfl rfl ?_
          show X 22 2 [vR 0, vI x3] [vI (-1), vI x3] h _
          refine X_icmp (L := L_22) (n' := 6) rfl rfl rfl rfl (fun z5 => ?_) (fun z5 => ?_)
          · have z5 : x3 = (-1) := z5
            replace H := H.1 z5
            show X 22 6 [vR 0, vI x3] [] h _
            obtain ⟨⟨c6, c7⟩, H⟩ := H
            refine X_b 1 7 (L := L_22) rfl rfl rfl ?_
            show X 22 7 [vR 0, vI x3] [vI 1] h _
            refine X_zret (L := L_22) rfl rfl rfl rfl (by decide) ?_
            show X 5 7 [vR 0, vI x1, vI x2, vI x3] [vI 1] h _
            refine X_if (L := L_5) (n' := 13) rfl rfl rfl rfl (fun _ => ?_) (fun z => absurd (show ¬ (1 : Int) = (0 : Int) by decide) z)
            show X 5 13 [vR 0, vI x1, vI x2, vI x3] [] h _
            refine X_b 5 18 (L := L_5) rfl rfl rfl ?_
            show X 5 18 [vR 0, vI x1, vI x2, vI x3] [vI x3, vI x2, vI x1, vR 2] h _
            refine X_call 79 [vR 2, vI x1, vI x2, vI x3] [] rfl (sg_calv rfl rfl rfl rfl rfl rfl rfl rfl rfl rfl rfl) (by decide) ?_
            show X 79 0 [vR 2, vI x1, vI x2, vI x3] [] h _
            refine X_b 9 9 (L := L_79) rfl rfl rfl ?_
            show (-2147483648 ≤ x1 * 10 ∧ x1 * 10 ≤ 2147483647) ∧ (-2147483648 ≤ (x1 * 10) + x2 ∧ (x1 * 10) + x2 ≤ 2147483647) ∧ (0 ≤ (x1 * 10) + x2 ∧ (x1 * 10) + x2 < 500) ∧ X 79 9 [vR 2, vI x1, vI x2, vI x3] [] (ab_up h 12 ((x1 * 10) + x2) x3) _
            refine ⟨c6, by have := c7; omega, c7, ?_⟩
            refine X_ret (L := L_79) rfl rfl rfl rfl ?_
            show X 5 19 [vR 0, vI x1, vI x2, vI x3] [] (ab_up h 12 ((x1 * 10) + x2) x3) _
            refine X_b 2 21 (L := L_5) rfl rfl rfl ?_
            show X 5 21 [vR 0, vI x1, vI x2, vI x3] [vR 5] (ab_up h 12 ((x1 * 10) + x2) x3) _
            refine X_call 116 [vR 5] [] rfl (sg_calv rfl rfl rfl rfl rfl rfl rfl rfl rfl rfl rfl) (by decide) ?_
            show X 116 0 [vR 5] [] (ab_up h 12 ((x1 * 10) + x2) x3) _
            refine X_b 6 6 (L := L_116) rfl rfl rfl ?_
            show X 116 6 [vR 5] [] (ab_up (ab_up (ab_up h 12 ((x1 * 10) + x2) x3) 5 7 0) 5 9 0) _
            refine X_ret (L := L_116) rfl rfl rfl rfl ?_
            show X 5 22 [vR 0, vI x1, vI x2, vI x3] [] (ab_up (ab_up (ab_up h 12 ((x1 * 10) + x2) x3) 5 7 0) 5 9 0) _
            refine X_ret (L := L_5) rfl rfl rfl rfl ?_
            exact H
          · have z5 : ¬ x3 = (-1) := z5
            replace H := H.2 z5
            show X 22 3 [vR 0, vI x3] [] h _
            refine X_b 2 5 (L := L_22) rfl rfl rfl ?_
            show X 22 5 [vR 0, vI x3] [vI 200, vI x3] h _
            refine X_icmp (L := L_22) (n' := 8) rfl rfl rfl rfl (fun z8 => ?_) (fun z8 => ?_)
            · have z8 : ¬ x3 = 200 := z8
              replace H := H.1 z8
              show X 22 8 [vR 0, vI x3] [] h _
              refine X_b 2 10 (L := L_22) rfl rfl rfl ?_
              show X 22 10 [vR 0, vI x3] [vI 100, vI x3] h _
              refine X_icmp (L := L_22) (n' := 22) rfl rfl rfl rfl (fun z9 => ?_) (fun z9 => ?_)
              · have z9 : x3 < 100 := z9
                replace H := H.1 z9
                show X 22 22 [vR 0, vI x3] [] h _
                refine X_b 1 23 (L := L_22) rfl rfl rfl ?_
                show X 22 23 [vR 0, vI x3] [vI x3] h _
                refine X_if (L := L_22) (n' := 31) rfl rfl rfl rfl (fun z10 => ?_) (fun z10 => ?_)
                · have z10 : x3 < 0 := z10
                  replace H := H.1 z10
                  show X 22 31 [vR 0, vI x3] [] h _
                  refine X_b 1 32 (L := L_22) rfl rfl rfl ?_
                  show X 22 32 [vR 0, vI x3] [vI 0] h _
                  refine X_zret (L := L_22) rfl rfl rfl rfl (by decide) ?_
                  show X 5 7 [vR 0, vI x1, vI x2, vI x3] [vI 0] h _
                  refine X_if (L := L_5) (n' := 13) rfl rfl rfl rfl (fun z => absurd z (show ¬ (¬ (0 : Int) = (0 : Int)) by decide)) (fun _ => ?_)
                  show X 5 8 [vR 0, vI x1, vI x2, vI x3] [] h _
                  refine X_thr 0 sg_thr_5_8 rfl (Nat.le_of_ble_eq_true rfl) ?_
                  exact H
                · have z10 : 0 ≤ x3 := (Int.not_lt.mp z10)
                  replace H := H.2 z10
                  show X 22 24 [vR 0, vI x3] [] h _
                  refine X_b 4 28 (L := L_22) rfl rfl rfl ?_
                  show X 22 28 [vR 0, vI x3] [vI (h 2 0), vI x3] h _
                  refine X_icmp (L := L_22) (n' := 31) rfl rfl rfl rfl (fun z11 => ?_) (fun z11 => ?_)
                  · have z11 : h 2 0 ≤ x3 := z11
                    replace H := H.1 z11
                    show X 22 31 [vR 0, vI x3] [] h _
                    refine X_b 1 32 (L := L_22) rfl rfl rfl ?_
                    show X 22 32 [vR 0, vI x3] [vI 0] h _
                    refine X_zret (L := L_22) rfl rfl rfl rfl (by decide) ?_
                    show X 5 7 [vR 0, vI x1, vI x2, vI x3] [vI 0] h _
                    refine X_if (L := L_5) (n' := 13) rfl rfl rfl rfl (fun z => absurd z (show ¬ (¬ (0 : Int) = (0 : Int)) by decide)) (fun _ => ?_)
                    show X 5 8 [vR 0, vI x1, vI x2, vI x3] [] h _
                    refine X_thr 0 sg_thr_5_8 rfl (Nat.le_of_ble_eq_true rfl) ?_
                    exact H
                  · have z11 : x3 < h 2 0 := (Int.not_le.mp z11)
                    replace H := H.2 z11
                    show X 22 29 [vR 0, vI x3] [] h _
                    obtain ⟨⟨c12, c13⟩, H⟩ := H
                    refine X_b 1 30 (L := L_22) rfl rfl rfl ?_
                    show X 22 30 [vR 0, vI x3] [vI 1] h _
                    refine X_goto (L := L_22) (n' := 32) rfl rfl rfl rfl ?_
                    show X 22 32 [vR 0, vI x3] [vI 1] h _
                    refine X_zret (L := L_22) rfl rfl rfl rfl (by decide) ?_
                    show X 5 7 [vR 0, vI x1, vI x2, vI x3] [vI 1] h _
                    refine X_if (L := L_5) (n' := 13) rfl rfl rfl rfl (fun _ => ?_) (fun z => absurd (show ¬ (1 : Int) = (0 : Int) by decide) z)
                    show X 5 13 [vR 0, vI x1, vI x2, vI x3] [] h _
                    refine X_b 5 18 (L := L_5) rfl rfl rfl ?_
                    show X 5 18 [vR 0, vI x1, vI x2, vI x3] [vI x3, vI x2, vI x1, vR 2] h _
                    refine X_call 79 [vR 2, vI x1, vI x2, vI x3] [] rfl (sg_calv rfl rfl rfl rfl rfl rfl rfl rfl rfl rfl rfl) (by decide) ?_
                    show X 79 0 [vR 2, vI x1, vI x2, vI x3] [] h _
                    refine X_b 9 9 (L := L_79) rfl rfl rfl ?_
                    show (-2147483648 ≤ x1 * 10 ∧ x1 * 10 ≤ 2147483647) ∧ (-2147483648 ≤ (x1 * 10) + x2 ∧ (x1 * 10) + x2 ≤ 2147483647) ∧ (0 ≤ (x1 * 10) + x2 ∧ (x1 * 10) + x2 < 500) ∧ X 79 9 [vR 2, vI x1, vI x2, vI x3] [] (ab_up h 12 ((x1 * 10) + x2) x3) _
                    refine ⟨c12, by have := c13; omega, c13, ?_⟩
                    refine X_ret (L := L_79) rfl rfl rfl rfl ?_
                    show X 5 19 [vR 0, vI x1, vI x2, vI x3] [] (ab_up h 12 ((x1 * 10) + x2) x3) _
                    refine X_b 2 21 (L := L_5) rfl rfl rfl ?_
                    show X 5 21 [vR 0, vI x1, vI x2, vI x3] [vR 5] (ab_up h 12 ((x1 * 10) + x2) x3) _
                    refine X_call 116 [vR 5] [] rfl (sg_calv rfl rfl rfl rfl rfl rfl rfl rfl rfl rfl rfl) (by decide) ?_
                    show X 116 0 [vR 5] [] (ab_up h 12 ((x1 * 10) + x2) x3) _
                    refine X_b 6 6 (L := L_116) rfl rfl rfl ?_
                    show X 116 6 [vR 5] [] (ab_up (ab_up (ab_up h 12 ((x1 * 10) + x2) x3) 5 7 0) 5 9 0) _
                    refine X_ret (L := L_116) rfl rfl rfl rfl ?_
                    show X 5 22 [vR 0, vI x1, vI x2, vI x3] [] (ab_up (ab_up (ab_up h 12 ((x1 * 10) + x2) x3) 5 7 0) 5 9 0) _
                    refine X_ret (L := L_5) rfl rfl rfl rfl ?_
                    exact H
              · have z9 : 100 ≤ x3 := (Int.not_lt.mp z9)
                replace H := H.2 z9
                show X 22 11 [vR 0, vI x3] [] h _
                obtain ⟨c14, H⟩ := H
                refine X_b 5 16 (L := L_22) rfl rfl rfl ?_
                show (-2147483648 ≤ x3 - 100 ∧ x3 - 100 ≤ 2147483647) ∧ X 22 16 [vR 0, vI x3] [vR 1, vI (x3 - 100)] h _
                refine ⟨c14, ?_⟩
                refine X_call 109 [vR 1] [vI (x3 - 100)] rfl (sg_calv rfl rfl rfl rfl rfl rfl rfl rfl rfl rfl rfl) (by decide) ?_
                show X 109 0 [vR 1] [] h _
                refine X_b 2 2 (L := L_109) rfl rfl rfl ?_
                show X 109 2 [vR 1] [vI (h 1 0)] h _
                refine X_iret (L := L_109) rfl rfl rfl rfl ?_
                show X 22 17 [vR 0, vI x3] [vI (h 1 0), vI (x3 - 100)] h _
                refine X_icmp (L := L_22) (n' := 20) rfl rfl rfl rfl (fun z15 => ?_) (fun z15 => ?_)
                · have z15 : h 1 0 < x3 - 100 := z15
                  replace H := H.1 z15
                  show X 22 20 [vR 0, vI x3] [] h _
                  refine X_b 1 21 (L := L_22) rfl rfl rfl ?_
                  show X 22 21 [vR 0, vI x3] [vI 0] h _
                  refine X_zret (L := L_22) rfl rfl rfl rfl (by decide) ?_
                  show X 5 7 [vR 0, vI x1, vI x2, vI x3] [vI 0] h _
                  refine X_if (L := L_5) (n' := 13) rfl rfl rfl rfl (fun z => absurd z (show ¬ (¬ (0 : Int) = (0 : Int)) by decide)) (fun _ => ?_)
                  show X 5 8 [vR 0, vI x1, vI x2, vI x3] [] h _
                  refine X_thr 0 sg_thr_5_8 rfl (Nat.le_of_ble_eq_true rfl) ?_
                  exact H
                · have z15 : x3 - 100 ≤ h 1 0 := (Int.not_lt.mp z15)
                  replace H := H.2 z15
                  show X 22 18 [vR 0, vI x3] [] h _
                  obtain ⟨⟨c16, c17⟩, H⟩ := H
                  refine X_b 1 19 (L := L_22) rfl rfl rfl ?_
                  show X 22 19 [vR 0, vI x3] [vI 1] h _
                  refine X_goto (L := L_22) (n' := 21) rfl rfl rfl rfl ?_
                  show X 22 21 [vR 0, vI x3] [vI 1] h _
                  refine X_zret (L := L_22) rfl rfl rfl rfl (by decide) ?_
                  show X 5 7 [vR 0, vI x1, vI x2, vI x3] [vI 1] h _
                  refine X_if (L := L_5) (n' := 13) rfl rfl rfl rfl (fun _ => ?_) (fun z => absurd (show ¬ (1 : Int) = (0 : Int) by decide) z)
                  show X 5 13 [vR 0, vI x1, vI x2, vI x3] [] h _
                  refine X_b 5 18 (L := L_5) rfl rfl rfl ?_
                  show X 5 18 [vR 0, vI x1, vI x2, vI x3] [vI x3, vI x2, vI x1, vR 2] h _
                  refine X_call 79 [vR 2, vI x1, vI x2, vI x3] [] rfl (sg_calv rfl rfl rfl rfl rfl rfl rfl rfl rfl rfl rfl) (by decide) ?_
                  show X 79 0 [vR 2, vI x1, vI x2, vI x3] [] h _
                  refine X_b 9 9 (L := L_79) rfl rfl rfl ?_
                  show (-2147483648 ≤ x1 * 10 ∧ x1 * 10 ≤ 2147483647) ∧ (-2147483648 ≤ (x1 * 10) + x2 ∧ (x1 * 10) + x2 ≤ 2147483647) ∧ (0 ≤ (x1 * 10) + x2 ∧ (x1 * 10) + x2 < 500) ∧ X 79 9 [vR 2, vI x1, vI x2, vI x3] [] (ab_up h 12 ((x1 * 10) + x2) x3) _
                  refine ⟨c16, by have := c17; omega, c17, ?_⟩
                  refine X_ret (L := L_79) rfl rfl rfl rfl ?_
                  show X 5 19 [vR 0, vI x1, vI x2, vI x3] [] (ab_up h 12 ((x1 * 10) + x2) x3) _
                  refine X_b 2 21 (L := L_5) rfl rfl rfl ?_
                  show X 5 21 [vR 0, vI x1, vI x2, vI x3] [vR 5] (ab_up h 12 ((x1 * 10) + x2) x3) _
                  refine X_call 116 [vR 5] [] rfl (sg_calv rfl rfl rfl rfl rfl rfl rfl rfl rfl rfl rfl) (by decide) ?_
                  show X 116 0 [vR 5] [] (ab_up h 12 ((x1 * 10) + x2) x3) _
                  refine X_b 6 6 (L := L_116) rfl rfl rfl ?_
                  show X 116 6 [vR 5] [] (ab_up (ab_up (ab_up h 12 ((x1 * 10) + x2) x3) 5 7 0) 5 9 0) _
                  refine X_ret (L := L_116) rfl rfl rfl rfl ?_
                  show X 5 22 [vR 0, vI x1, vI x2, vI x3] [] (ab_up (ab_up (ab_up h 12 ((x1 * 10) + x2) x3) 5 7 0) 5 9 0) _
                  refine X_ret (L := L_5) rfl rfl rfl rfl ?_
                  exact H
            · have z8 : x3 = 200 := (Classical.not_not.mp z8)
              replace H := H.2 z8
              show X 22 6 [vR 0, vI x3] [] h _
              obtain ⟨⟨c18, c19⟩, H⟩ := H
              refine X_b 1 7 (L := L_22) rfl rfl rfl ?_
              show X 22 7 [vR 0, vI x3] [vI 1] h _
              refine X_zret (L := L_22) rfl rfl rfl rfl (by decide) ?_
              show X 5 7 [vR 0, vI x1, vI x2, vI x3] [vI 1] h _
              refine X_if (L := L_5) (n' := 13) rfl rfl rfl rfl (fun _ => ?_) (fun z => absurd (show ¬ (1 : Int) = (0 : Int) by decide) z)
              show X 5 13 [vR 0, vI x1, vI x2, vI x3] [] h _
              refine X_b 5 18 (L := L_5) rfl rfl rfl ?_
              show X 5 18 [vR 0, vI x1, vI x2, vI x3] [vI x3, vI x2, vI x1, vR 2] h _
              refine X_call 79 [vR 2, vI x1, vI x2, vI x3] [] rfl (sg_calv rfl rfl rfl rfl rfl rfl rfl rfl rfl rfl rfl) (by decide) ?_
              show X 79 0 [vR 2, vI x1, vI x2, vI x3] [] h _
              refine X_b 9 9 (L := L_79) rfl rfl rfl ?_
              show (-2147483648 ≤ x1 * 10 ∧ x1 * 10 ≤ 2147483647) ∧ (-2147483648 ≤ (x1 * 10) + x2 ∧ (x1 * 10) + x2 ≤ 2147483647) ∧ (0 ≤ (x1 * 10) + x2 ∧ (x1 * 10) + x2 < 500) ∧ X 79 9 [vR 2, vI x1, vI x2, vI x3] [] (ab_up h 12 ((x1 * 10) + x2) x3) _
              refine ⟨c18, by have := c19; omega, c19, ?_⟩
              refine X_ret (L := L_79) rfl rfl rfl rfl ?_
              show X 5 19 [vR 0, vI x1, vI x2, vI x3] [] (ab_up h 12 ((x1 * 10) + x2) x3) _
              refine X_b 2 21 (L := L_5) rfl rfl rfl ?_
              show X 5 21 [vR 0, vI x1, vI x2, vI x3] [vR 5] (ab_up h 12 ((x1 * 10) + x2) x3) _
              refine X_call 116 [vR 5] [] rfl (sg_calv rfl rfl rfl rfl rfl rfl rfl rfl rfl rfl rfl) (by decide) ?_
              show X 116 0 [vR 5] [] (ab_up h 12 ((x1 * 10) + x2) x3) _
              refine X_b 6 6 (L := L_116) rfl rfl rfl ?_
              show X 116 6 [vR 5] [] (ab_up (ab_up (ab_up h 12 ((x1 * 10) + x2) x3) 5 7 0) 5 9 0) _
              refine X_ret (L := L_116) rfl rfl rfl rfl ?_
              show X 5 22 [vR 0, vI x1, vI x2, vI x3] [] (ab_up (ab_up (ab_up h 12 ((x1 * 10) + x2) x3) 5 7 0) 5 9 0) _
              refine X_ret (L := L_5) rfl rfl rfl rfl ?_
              exact H
        · have z4 : 10 ≤ x2 := (Int.not_lt.mp z4)
          replace H := H.2 z4
          show X 19 8 [vR 0, vI x1, vI x2] [] h _
          refine X_thr 2 sg_thr_19_8 rfl (Nat.le_of_ble_eq_true rfl) ?_
          exact H
    · have z2 : h 2 0 ≤ x1 := (Int.not_lt.mp z2)
      replace H := H.2 z2
      show X 18 7 [vR 0, vI x1] [] h _
      refine X_thr 2 sg_thr_18_7 rfl (Nat.le_of_ble_eq_true rfl) ?_
      exact H

/-- PP.has, row 0 -/
theorem s_6_0 (x1 x2 x3 x4 : Int) (h : ab_S) (K : ab_O → ab_S → Prop) (H : ((x1 < 0 → K (oX 2) (ab_up h 39 0 ((h 39 0) + 1))) ∧ (0 ≤ x1 → ((x1 < h 2 0 → ((x2 < 0 → K (oX 0) (ab_up h 39 0 ((h 39 0) + 1))) ∧ (0 ≤ x2 → ((x2 ≤ h 1 0 → ((x3 < 0 → K (oX 0) (ab_up h 39 0 ((h 39 0) + 1))) ∧ (0 ≤ x3 → ((0 ≤ x2 ∧ x2 < 9)) ∧ ((h 8 x2 < x3 → K (oX 0) (ab_up h 39 0 ((h 39 0) + 1))) ∧ (x3 ≤ h 8 x2 → ((x4 < 4 → K (oX 0) (ab_up h 39 0 ((h 39 0) + 1))) ∧ (4 ≤ x4 → ((9 < x4 → K (oX 0) (ab_up h 39 0 ((h 39 0) + 1))) ∧ (x4 ≤ 9 → ((-2147483648 ≤ x1 * 45 ∧ x1 * 45 ≤ 2147483647) ∧ (-2147483648 ≤ x2 * 5 ∧ x2 * 5 ≤ 2147483647) ∧ (-2147483648 ≤ (x2 * 5) + x3 ∧ (x2 * 5) + x3 ≤ 2147483647) ∧ (0 ≤ (x1 * 45) + ((x2 * 5) + x3) ∧ (x1 * 45) + ((x2 * 5) + x3) < 2250) ∧ (-2147483648 ≤ x4 - 4 ∧ x4 - 4 ≤ 2147483647)) ∧ ((b_and (h 13 ((x1 * 45) + ((x2 * 5) + x3))) (b_shl 1 (x4 - 4)) = 0 → K (oI 0) h) ∧ (¬ b_and (h 13 ((x1 * 45) + ((x2 * 5) + x3))) (b_shl 1 (x4 - 4)) = 0 → K (oI 1) h))))))))))) ∧ (h 1 0 < x2 → K (oX 0) (ab_up h 39 0 ((h 39 0) + 1))))))) ∧ (h 2 0 ≤ x1 → K (oX 2) (ab_up h 39 0 ((h 39 0) + 1))))))) : C 6 [vR 0, vI x1, vI x2, vI x3, vI x4] h K := by
  show X 6 0 [vR 0, vI x1, vI x2, vI x3, vI x4] [] h K
  refine X_b 5 5 (L := L_6) rfl rfl rfl ?_
  show X 6 5 [vR 0, vI x1, vI x2, vI x3, vI x4] [vI x4, vI x3, vI x2, vI x1, vR 0] h _
  refine X_call 20 [vR 0, vI x1, vI x2, vI x3, vI x4] [] rfl (sg_calv rfl rfl rfl rfl rfl rfl rfl rfl rfl rfl rfl) (by decide) ?_
  show X 20 0 [vR 0, vI x1, vI x2, vI x3, vI x4] [] h _
  refine X_b 2 2 (L := L_20) rfl rfl rfl ?_
  show X 20 2 [vR 0, vI x1, vI x2, vI x3, vI x4] [vI x1, vR 0] h _
  refine X_call 18 [vR 0, vI x1] [] rfl (sg_calv rfl rfl rfl rfl rfl rfl rfl rfl rfl rfl rfl) (by decide) ?_
  show X 18 0 [vR 0, vI x1] [] h _
  refine X_b 1 1 (L := L_18) rfl rfl rfl ?_
  show X 18 1 [vR 0, vI x1] [vI x1] h _
  refine X_if (L := L_18) (n' := 7) rfl rfl rfl rfl (fun z1 => ?_) (fun z1 => ?_)
  · have z1 : x1 < 0 := z1
    replace H := H.1 z1
    show X 18 7 [vR 0, vI x1] [] h _
    refine X_thr 2 sg_thr_18_7 rfl (Nat.le_of_ble_eq_true rfl) ?_
    exact H
  · have z1 : 0 ≤ x1 := (Int.not_lt.mp z1)
    replace H := H.2 z1
    show X 18 2 [vR 0, vI x1] [] h _
    refine X_b 4 6 (L := L_18) rfl rfl rfl ?_
    show X 18 6 [vR 0, vI x1] [vI (h 2 0), vI x1] h _
    refine X_icmp (L := L_18) (n' := 12) rfl rfl rfl rfl (fun z2 => ?_) (fun z2 => ?_)
    · have z2 : x1 < h 2 0 := z2
      replace H := H.1 z2
      show X 18 12 [vR 0, vI x1] [] h _
      refine X_ret (L := L_18) rfl rfl rfl rfl ?_
      show X 20 3 [vR 0, vI x1, vI x2, vI x3, vI x4] [] h _
      refine X_b 4 7 (L := L_20) rfl rfl rfl ?_
      show X 20 7 [vR 0, vI x1, vI x2, vI x3, vI x4] [vI x4, vI x3, vI x2, vR 0] h _
      refine X_call 21 [vR 0, vI x2, vI x3, vI x4] [] rfl (sg_calv rfl rfl rfl rfl rfl rfl rfl rfl rfl rfl rfl) (by decide) ?_
      show X 21 0 [vR 0, vI x2, vI x3, vI x4] [] h _
      refine X_b 1 1 (L := L_21) rfl rfl rfl ?_
      show X 21 1 [vR 0, vI x2, vI x3, vI x4] [vI x2] h _
      refine X_if (L := L_21) (n' := 7) rfl rfl rfl rfl (fun z3 => ?_) (fun z3 => ?_)
      · have z3 : x2 < 0 := z3
        replace H := H.1 z3
        show X 21 7 [vR 0, vI x2, vI x3, vI x4] [] h _
        refine X_b 1 8 (L := L_21) rfl rfl rfl ?_
        show X 21 8 [vR 0, vI x2, vI x3, vI x4] [vI 0] h _
        refine X_zret (L := L_21) rfl rfl rfl rfl (by decide) ?_
        show X 20 8 [vR 0, vI x1, vI x2, vI x3, vI x4] [vI 0] h _
        refine X_if (L := L_20) (n' := 14) rfl rfl rfl rfl (fun z => absurd z (show ¬ (¬ (0 : Int) = (0 : Int)) by decide)) (fun _ => ?_)
        show X 20 9 [vR 0, vI x1, vI x2, vI x3, vI x4] [] h _
        refine X_thr 0 sg_thr_20_9 rfl (Nat.le_of_ble_eq_true rfl) ?_
        exact H
      · have z3 : 0 ≤ x2 := (Int.not_lt.mp z3)
        replace H := H.2 z3
        show X 21 2 [vR 0, vI x2, vI x3, vI x4] [] h _
        refine X_b 3 5 (L := L_21) rfl rfl rfl ?_
        show X 21 5 [vR 0, vI x2, vI x3, vI x4] [vR 1, vI x2] h _
        refine X_call 109 [vR 1] [vI x2] rfl (sg_calv rfl rfl rfl rfl rfl rfl rfl rfl rfl rfl rfl) (by decide) ?_
        show X 109 0 [vR 1] [] h _
        refine X_b 2 2 (L := L_109) rfl rfl rfl ?_
        show X 109 2 [vR 1] [vI (h 1 0)] h _
        refine X_iret (L := L_109) rfl rfl rfl rfl ?_
        show X 21 6 [vR 0, vI x2, vI x3, vI x4] [vI (h 1 0), vI x2] h _
        refine X_icmp (L := L_21) (n' := 9) rfl rfl rfl rfl (fun z4 => ?_) (fun z4 => ?_)
        · have z4 : x2 ≤ h 1 0 := z4
          replace H := H.1 z4
          show X 21 9 [vR 0, vI x2, vI x3, vI x4] [] h _
          refine X_b 1 10 (L := L_21) rfl rfl rfl ?_
          show X 21 10 [vR 0, vI x2, vI x3, vI x4] [vI x3] h _
          refine X_if (L := L_21) (n' := 26) rfl rfl rfl rfl (fun z5 => ?_) (fun z5 => ?_)
          · have z5 : x3 < 0 := z5
            replace H := H.1 z5
            show X 21 26 [vR 0, vI x2, vI x3, vI x4] [] h _
            refine X_b 1 27 (L := L_21) rfl rfl rfl ?_
            show X 21 27 [vR 0, vI x2, vI x3, vI x4] [vI 0] h _
            refine X_zret (L := L_21) rfl rfl rfl rfl (by decide) ?_
            show X 20 8 [vR 0, vI x1, vI x2, vI x3, vI x4] [vI 0] h _
            refine X_if (L := L_20) (n' := 14) rfl rfl rfl rfl (fun z => absurd z (show ¬ (¬ (0 : Int) = (0 : Int)) by decide)) (fun _ => ?_)
            show X 20 9 [vR 0, vI x1, vI x2, vI x3, vI x4] [] h _
            refine X_thr 0 sg_thr_20_9 rfl (Nat.le_of_ble_eq_true rfl) ?_
            exact H
          · have z5 : 0 ≤ x3 := (Int.not_lt.mp z5)
            replace H := H.2 z5
            show X 21 11 [vR 0, vI x2, vI x3, vI x4] [] h _
            obtain ⟨c6, H⟩ := H
            refine X_b 6 17 (L := L_21) rfl rfl rfl ?_
            show (0 ≤ x2 ∧ x2 < 9) ∧ X 21 17 [vR 0, vI x2, vI x3, vI x4] [vI (h 8 x2), vI x3] h _
            refine ⟨c6, ?_⟩
            refine X_icmp (L := L_21) (n' := 26) rfl rfl rfl rfl (fun z7 => ?_) (fun z7 => ?_)
            · have z7 : h 8 x2 < x3 := z7
              replace H := H.1 z7
              show X 21 26 [vR 0, vI x2, vI x3, vI x4] [] h _
              refine X_b 1 27 (L := L_21) rfl rfl rfl ?_
              show X 21 27 [vR 0, vI x2, vI x3, vI x4] [vI 0] h _
              refine X_zret (L := L_21) rfl rfl rfl rfl (by decide) ?_
              show X 20 8 [vR 0, vI x1, vI x2, vI x3, vI x4] [vI 0] h _
              refine X_if (L := L_20) (n' := 14) rfl rfl rfl rfl (fun z => absurd z (show ¬ (¬ (0 : Int) = (0 : Int)) by decide)) (fun _ => ?_)
              show X 20 9 [vR 0, vI x1, vI x2, vI x3, vI x4] [] h _
              refine X_thr 0 sg_thr_20_9 rfl (Nat.le_of_ble_eq_true rfl) ?_
              exact H
            · have z7 : x3 ≤ h 8 x2 := (Int.not_lt.mp z7)
              replace H := H.2 z7
              show X 21 18 [vR 0, vI x2, vI x3, vI x4] [] h _
              refine X_b 2 20 (L := L_21) rfl rfl rfl ?_
              show X 21 20 [vR 0, vI x2, vI x3, vI x4] [vI 4, vI x4] h _
              refine X_icmp (L := L_21) (n' := 26) rfl rfl rfl rfl (fun z8 => ?_) (fun z8 => ?_)
              · have z8 : x4 < 4 := z8
                replace H := H.1 z8
                show X 21 26 [vR 0, vI x2, vI x3, vI x4] [] h _
                refine X_b 1 27 (L := L_21) rfl rfl rfl ?_
                show X 21 27 [vR 0, vI x2, vI x3, vI x4] [vI 0] h _
                refine X_zret (L := L_21) rfl rfl rfl rfl (by decide) ?_
                show X 20 8 [vR 0, vI x1, vI x2, vI x3, vI x4] [vI 0] h _
                refine X_if (L := L_20) (n' := 14) rfl rfl rfl rfl (fun z => absurd z (show ¬ (¬ (0 : Int) = (0 : Int)) by decide)) (fun _ => ?_)
                show X 20 9 [vR 0, vI x1, vI x2, vI x3, vI x4] [] h _
                refine X_thr 0 sg_thr_20_9 rfl (Nat.le_of_ble_eq_true rfl) ?_
                exact H
              · have z8 : 4 ≤ x4 := (Int.not_lt.mp z8)
                replace H := H.2 z8
                show X 21 21 [vR 0, vI x2, vI x3, vI x4] [] h _
                refine X_b 2 23 (L := L_21) rfl rfl rfl ?_
                show X 21 23 [vR 0, vI x2, vI x3, vI x4] [vI 9, vI x4] h _
                refine X_icmp (L := L_21) (n' := 26) rfl rfl rfl rfl (fun z9 => ?_) (fun z9 => ?_)
                · have z9 : 9 < x4 := z9
                  replace H := H.1 z9
                  show X 21 26 [vR 0, vI x2, vI x3, vI x4] [] h _
                  refine X_b 1 27 (L := L_21) rfl rfl rfl ?_
                  show X 21 27 [vR 0, vI x2, vI x3, vI x4] [vI 0] h _
                  refine X_zret (L := L_21) rfl rfl rfl rfl (by decide) ?_
                  show X 20 8 [vR 0, vI x1, vI x2, vI x3, vI x4] [vI 0] h _
                  refine X_if (L := L_20) (n' := 14) rfl rfl rfl rfl (fun z => absurd z (show ¬ (¬ (0 : Int) = (0 : Int)) by decide)) (fun _ => ?_)
                  show X 20 9 [vR 0, vI x1, vI x2, vI x3, vI x4] [] h _
                  refine X_thr 0 sg_thr_20_9 rfl (Nat.le_of_ble_eq_true rfl) ?_
                  exact H
                · have z9 : x4 ≤ 9 := (Int.not_lt.mp z9)
                  replace H := H.2 z9
                  show X 21 24 [vR 0, vI x2, vI x3, vI x4] [] h _
                  obtain ⟨⟨c10, c11, c12, c13, c14⟩, H⟩ := H
                  refine X_b 1 25 (L := L_21) rfl rfl rfl ?_
                  show X 21 25 [vR 0, vI x2, vI x3, vI x4] [vI 1] h _
                  refine X_goto (L := L_21) (n' := 27) rfl rfl rfl rfl ?_
                  show X 21 27 [vR 0, vI x2, vI x3, vI x4] [vI 1] h _
                  refine X_zret (L := L_21) rfl rfl rfl rfl (by decide) ?_
                  show X 20 8 [vR 0, vI x1, vI x2, vI x3, vI x4] [vI 1] h _
                  refine X_if (L := L_20) (n' := 14) rfl rfl rfl rfl (fun _ => ?_) (fun z => absurd (show ¬ (1 : Int) = (0 : Int) by decide) z)
                  show X 20 14 [vR 0, vI x1, vI x2, vI x3, vI x4] [] h _
                  refine X_ret (L := L_20) rfl rfl rfl rfl ?_
                  show X 6 6 [vR 0, vI x1, vI x2, vI x3, vI x4] [] h _
                  refine X_b 6 12 (L := L_6) rfl rfl rfl ?_
                  show X 6 12 [vR 0, vI x1, vI x2, vI x3, vI x4] [vI x4, vI x3, vI x2, vI x1, vR 2] h _
                  refine X_call 81 [vR 2, vI x1, vI x2, vI x3, vI x4] [] rfl (sg_calv rfl rfl rfl rfl rfl rfl rfl rfl rfl rfl rfl) (by decide) ?_
                  show X 81 0 [vR 2, vI x1, vI x2, vI x3, vI x4] [] h _
                  refine X_b 4 4 (L := L_81) rfl rfl rfl ?_
                  show X 81 4 [vR 2, vI x1, vI x2, vI x3, vI x4] [vI x3, vI x2, vI x1, vR 2] h _
                  refine X_call 80 [vR 2, vI x1, vI x2, vI x3] [] rfl (sg_calv rfl rfl rfl rfl rfl rfl rfl rfl rfl rfl rfl) (by decide) ?_
                  show X 80 0 [vR 2, vI x1, vI x2, vI x3] [] h _
                  refine X_b 7 7 (L := L_80) rfl rfl rfl ?_
                  show (-2147483648 ≤ x1 * 45 ∧ x1 * 45 ≤ 2147483647) ∧ X 80 7 [vR 2, vI x1, vI x2, vI x3] [vI x3, vI x2, vI (x1 * 45), vR 13] h _
                  refine ⟨c10, ?_⟩
                  refine X_call 27 [vI x2, vI x3] [vI (x1 * 45), vR 13] rfl (sg_cals rfl rfl rfl rfl rfl rfl rfl rfl rfl rfl) (by decide) ?_
                  show X 27 0 [vI x2, vI x3] [] h _
                  refine X_b 5 5 (L := L_27) rfl rfl rfl ?_
                  show (-2147483648 ≤ x2 * 5 ∧ x2 * 5 ≤ 2147483647) ∧ (-2147483648 ≤ (x2 * 5) + x3 ∧ (x2 * 5) + x3 ≤ 2147483647) ∧ X 27 5 [vI x2, vI x3] [vI ((x2 * 5) + x3)] h _
                  refine ⟨c11, c12, ?_⟩
                  refine X_iret (L := L_27) rfl rfl rfl rfl ?_
                  show X 80 8 [vR 2, vI x1, vI x2, vI x3] [vI ((x2 * 5) + x3), vI (x1 * 45), vR 13] h _
                  refine X_b 2 10 (L := L_80) rfl rfl rfl ?_
                  show (-2147483648 ≤ (x1 * 45) + ((x2 * 5) + x3) ∧ (x1 * 45) + ((x2 * 5) + x3) ≤ 2147483647) ∧ (0 ≤ (x1 * 45) + ((x2 * 5) + x3) ∧ (x1 * 45) + ((x2 * 5) + x3) < 2250) ∧ X 80 10 [vR 2, vI x1, vI x2, vI x3] [vI (h 13 ((x1 * 45) + ((x2 * 5) + x3)))] h _
                  refine ⟨by have := c13; omega, c13, ?_⟩
                  refine X_iret (L := L_80) rfl rfl rfl rfl ?_
                  show X 81 5 [vR 2, vI x1, vI x2, vI x3, vI x4] [vI (h 13 ((x1 * 45) + ((x2 * 5) + x3)))] h _
                  refine X_b 1 6 (L := L_81) rfl rfl rfl ?_
                  show X 81 6 [vR 2, vI x1, vI x2, vI x3, vI x4] [vI x4, vI (h 13 ((x1 * 45) + ((x2 * 5) + x3)))] h _
                  refine X_call 26 [vI x4] [vI (h 13 ((x1 * 45) + ((x2 * 5) + x3)))] rfl (sg_cals rfl rfl rfl rfl rfl rfl rfl rfl rfl rfl) (by decide) ?_
                  show X 26 0 [vI x4] [] h _
                  refine X_b 5 5 (L := L_26) rfl rfl rfl ?_
                  show (-2147483648 ≤ x4 - 4 ∧ x4 - 4 ≤ 2147483647) ∧ X 26 5 [vI x4] [vI (b_shl 1 (x4 - 4))] h _
                  refine ⟨c14, ?_⟩
                  refine X_iret (L := L_26) rfl rfl rfl rfl ?_
                  show X 81 7 [vR 2, vI x1, vI x2, vI x3, vI x4] [vI (b_shl 1 (x4 - 4)), vI (h 13 ((x1 * 45) + ((x2 * 5) + x3)))] h _
                  refine X_b 1 8 (L := L_81) rfl rfl rfl ?_
                  show X 81 8 [vR 2, vI x1, vI x2, vI x3, vI x4] [vI (b_and (h 13 ((x1 * 45) + ((x2 * 5) + x3))) (b_shl 1 (x4 - 4)))] h _
                  refine X_if (L := L_81) (n' := 11) rfl rfl rfl rfl (fun z15 => ?_) (fun z15 => ?_)
                  · have z15 : b_and (h 13 ((x1 * 45) + ((x2 * 5) + x3))) (b_shl 1 (x4 - 4)) = 0 := z15
                    replace H := H.1 z15
                    show X 81 11 [vR 2, vI x1, vI x2, vI x3, vI x4] [] h _
                    refine X_b 1 12 (L := L_81) rfl rfl rfl ?_
                    show X 81 12 [vR 2, vI x1, vI x2, vI x3, vI x4] [vI 0] h _
                    refine X_zret (L := L_81) rfl rfl rfl rfl (by decide) ?_
                    show X 6 13 [vR 0, vI x1, vI x2, vI x3, vI x4] [vI 0] h _
                    refine X_zret (L := L_6) rfl rfl rfl rfl (by decide) ?_
                    exact H
                  · have z15 : ¬ b_and (h 13 ((x1 * 45) + ((x2 * 5) + x3))) (b_shl 1 (x4 - 4)) = 0 := z15
                    replace H := H.2 z15
                    show X 81 9 [vR 2, vI x1, vI x2, vI x3, vI x4] [] h _
                    refine X_b 1 10 (L := L_81) rfl rfl rfl ?_
                    show X 81 10 [vR 2, vI x1, vI x2, vI x3, vI x4] [vI 1] h _
                    refine X_goto (L := L_81) (n' := 12) rfl rfl rfl rfl ?_
                    show X 81 12 [vR 2, vI x1, vI x2, vI x3, vI x4] [vI 1] h _
                    refine X_zret (L := L_81) rfl rfl rfl rfl (by decide) ?_
                    show X 6 13 [vR 0, vI x1, vI x2, vI x3, vI x4] [vI 1] h _
                    refine X_zret (L := L_6) rfl rfl rfl rfl (by decide) ?_
                    exact H
        · have z4 : h 1 0 < x2 := (Int.not_le.mp z4)
          replace H := H.2 z4
          show X 21 7 [vR 0, vI x2, vI x3, vI x4] [] h _
          refine X_b 1 8 (L := L_21) rfl rfl rfl ?_
          show X 21 8 [vR 0, vI x2, vI x3, vI x4] [vI 0] h _
          refine X_zret (L := L_21) rfl rfl rfl rfl (by decide) ?_
          show X 20 8 [vR 0, vI x1, vI x2, vI x3, vI x4] [vI 0] h _
          refine X_if (L := L_20) (n' := 14) rfl rfl rfl rfl (fun z => absurd z (show ¬ (¬ (0 : Int) = (0 : Int)) by decide)) (fun _ => ?_)
          show X 20 9 [vR 0, vI x1, vI x2, vI x3, vI x4] [] h _
          refine X_thr 0 sg_thr_20_9 rfl (Nat.le_of_ble_eq_true rfl) ?_
          exact H
    · have z2 : h 2 0 ≤ x1 := (Int.not_lt.mp z2)
      replace H := H.2 z2
      show X 18 7 [vR 0, vI x1] [] h _
      refine X_thr 2 sg_thr_18_7 rfl (Nat.le_of_ble_eq_true rfl) ?_
      exact H

/-- PP.turn, row 0 -/
theorem s_7_0 (x1 x2 x3 x4 : Int) (h : ab_S) (K : ab_O → ab_S → Prop) (H : ((x1 < 0 → K (oX 2) (ab_up h 39 0 ((h 39 0) + 1))) ∧ (0 ≤ x1 → ((x1 < h 2 0 → ((x2 < 0 → K (oX 0) (ab_up h 39 0 ((h 39 0) + 1))) ∧ (0 ≤ x2 → ((x2 ≤ h 1 0 → ((x3 < 0 → K (oX 0) (ab_up h 39 0 ((h 39 0) + 1))) ∧ (0 ≤ x3 → ((0 ≤ x2 ∧ x2 < 9)) ∧ ((h 8 x2 < x3 → K (oX 0) (ab_up h 39 0 ((h 39 0) + 1))) ∧ (x3 ≤ h 8 x2 → ((x4 < 4 → K (oX 0) (ab_up h 39 0 ((h 39 0) + 1))) ∧ (4 ≤ x4 → ((9 < x4 → K (oX 0) (ab_up h 39 0 ((h 39 0) + 1))) ∧ (x4 ≤ 9 → ((-2147483648 ≤ x1 * 45 ∧ x1 * 45 ≤ 2147483647) ∧ (-2147483648 ≤ x2 * 5 ∧ x2 * 5 ≤ 2147483647) ∧ (-2147483648 ≤ (x2 * 5) + x3 ∧ (x2 * 5) + x3 ≤ 2147483647) ∧ (0 ≤ (x1 * 45) + ((x2 * 5) + x3) ∧ (x1 * 45) + ((x2 * 5) + x3) < 2250) ∧ (-2147483648 ≤ x4 - 4 ∧ x4 - 4 ≤ 2147483647)) ∧ ((b_and ((ab_up h 13 ((x1 * 45) + ((x2 * 5) + x3)) (b_xor (h 13 ((x1 * 45) + ((x2 * 5) + x3))) (b_shl 1 (x4 - 4)))) 13 ((x1 * 45) + ((x2 * 5) + x3))) (b_shl 1 (x4 - 4)) = 0 → K (oI 0) (ab_up h 13 ((x1 * 45) + ((x2 * 5) + x3)) (b_xor (h 13 ((x1 * 45) + ((x2 * 5) + x3))) (b_shl 1 (x4 - 4))))) ∧ (¬ b_and ((ab_up h 13 ((x1 * 45) + ((x2 * 5) + x3)) (b_xor (h 13 ((x1 * 45) + ((x2 * 5) + x3))) (b_shl 1 (x4 - 4)))) 13 ((x1 * 45) + ((x2 * 5) + x3))) (b_shl 1 (x4 - 4)) = 0 → K (oI 1) (ab_up h 13 ((x1 * 45) + ((x2 * 5) + x3)) (b_xor (h 13 ((x1 * 45) + ((x2 * 5) + x3))) (b_shl 1 (x4 - 4))))))))))))))) ∧ (h 1 0 < x2 → K (oX 0) (ab_up h 39 0 ((h 39 0) + 1))))))) ∧ (h 2 0 ≤ x1 → K (oX 2) (ab_up h 39 0 ((h 39 0) + 1))))))) : C 7 [vR 0, vI x1, vI x2, vI x3, vI x4] h K := by
  show X 7 0 [vR 0, vI x1, vI x2, vI x3, vI x4] [] h K
  refine X_b 5 5 (L := L_7) rfl rfl rfl ?_
  show X 7 5 [vR 0, vI x1, vI x2, vI x3, vI x4] [vI x4, vI x3, vI x2, vI x1, vR 0] h _
  refine X_call 20 [vR 0, vI x1, vI x2, vI x3, vI x4] [] rfl (sg_calv rfl rfl rfl rfl rfl rfl rfl rfl rfl rfl rfl) (by decide) ?_
  show X 20 0 [vR 0, vI x1, vI x2, vI x3, vI x4] [] h _
  refine X_b 2 2 (L := L_20) rfl rfl rfl ?_
  show X 20 2 [vR 0, vI x1, vI x2, vI x3, vI x4] [vI x1, vR 0] h _
  refine X_call 18 [vR 0, vI x1] [] rfl (sg_calv rfl rfl rfl rfl rfl rfl rfl rfl rfl rfl rfl) (by decide) ?_
  show X 18 0 [vR 0, vI x1] [] h _
  refine X_b 1 1 (L := L_18) rfl rfl rfl ?_
  show X 18 1 [vR 0, vI x1] [vI x1] h _
  refine X_if (L := L_18) (n' := 7) rfl rfl rfl rfl (fun z1 => ?_) (fun z1 => ?_)
  · have z1 : x1 < 0 := z1
    replace H := H.1 z1
    show X 18 7 [vR 0, vI x1] [] h _
    refine X_thr 2 sg_thr_18_7 rfl (Nat.le_of_ble_eq_true rfl) ?_
    exact H
  · have z1 : 0 ≤ x1 := (Int.not_lt.mp z1)
    replace H := H.2 z1
    show X 18 2 [vR 0, vI x1] [] h _
    refine X_b 4 6 (L := L_18) rfl rfl rfl ?_
    show X 18 6 [vR 0, vI x1] [vI (h 2 0), vI x1] h _
    refine X_icmp (L := L_18) (n' := 12) rfl rfl rfl rfl (fun z2 => ?_) (fun z2 => ?_)
    · have z2 : x1 < h 2 0 := z2
      replace H := H.1 z2
      show X 18 12 [vR 0, vI x1] [] h _
      refine X_ret (L := L_18) rfl rfl rfl rfl ?_
      show X 20 3 [vR 0, vI x1, vI x2, vI x3, vI x4] [] h _
      refine X_b 4 7 (L := L_20) rfl rfl rfl ?_
      show X 20 7 [vR 0, vI x1, vI x2, vI x3, vI x4] [vI x4, vI x3, vI x2, vR 0] h _
      refine X_call 21 [vR 0, vI x2, vI x3, vI x4] [] rfl (sg_calv rfl rfl rfl rfl rfl rfl rfl rfl rfl rfl rfl) (by decide) ?_
      show X 21 0 [vR 0, vI x2, vI x3, vI x4] [] h _
      refine X_b 1 1 (L := L_21) rfl rfl rfl ?_
      show X 21 1 [vR 0, vI x2, vI x3, vI x4] [vI x2] h _
      refine X_if (L := L_21) (n' := 7) rfl rfl rfl rfl (fun z3 => ?_) (fun z3 => ?_)
      · have z3 : x2 < 0 := z3
        replace H := H.1 z3
        show X 21 7 [vR 0, vI x2, vI x3, vI x4] [] h _
        refine X_b 1 8 (L := L_21) rfl rfl rfl ?_
        show X 21 8 [vR 0, vI x2, vI x3, vI x4] [vI 0] h _
        refine X_zret (L := L_21) rfl rfl rfl rfl (by decide) ?_
        show X 20 8 [vR 0, vI x1, vI x2, vI x3, vI x4] [vI 0] h _
        refine X_if (L := L_20) (n' := 14) rfl rfl rfl rfl (fun z => absurd z (show ¬ (¬ (0 : Int) = (0 : Int)) by decide)) (fun _ => ?_)
        show X 20 9 [vR 0, vI x1, vI x2, vI x3, vI x4] [] h _
        refine X_thr 0 sg_thr_20_9 rfl (Nat.le_of_ble_eq_true rfl) ?_
        exact H
      · have z3 : 0 ≤ x2 := (Int.not_lt.mp z3)
        replace H := H.2 z3
        show X 21 2 [vR 0, vI x2, vI x3, vI x4] [] h _
        refine X_b 3 5 (L := L_21) rfl rfl rfl ?_
        show X 21 5 [vR 0, vI x2, vI x3, vI x4] [vR 1, vI x2] h _
        refine X_call 109 [vR 1] [vI x2] rfl (sg_calv rfl rfl rfl rfl rfl rfl rfl rfl rfl rfl rfl) (by decide) ?_
        show X 109 0 [vR 1] [] h _
        refine X_b 2 2 (L := L_109) rfl rfl rfl ?_
        show X 109 2 [vR 1] [vI (h 1 0)] h _
        refine X_iret (L := L_109) rfl rfl rfl rfl ?_
        show X 21 6 [vR 0, vI x2, vI x3, vI x4] [vI (h 1 0), vI x2] h _
        refine X_icmp (L := L_21) (n' := 9) rfl rfl rfl rfl (fun z4 => ?_) (fun z4 => ?_)
        · have z4 : x2 ≤ h 1 0 := z4
          replace H := H.1 z4
          show X 21 9 [vR 0, vI x2, vI x3, vI x4] [] h _
          refine X_b 1 10 (L := L_21) rfl rfl rfl ?_
          show X 21 10 [vR 0, vI x2, vI x3, vI x4] [vI x3] h _
          refine X_if (L := L_21) (n' := 26) rfl rfl rfl rfl (fun z5 => ?_) (fun z5 => ?_)
          · have z5 : x3 < 0 := z5
            replace H := H.1 z5
            show X 21 26 [vR 0, vI x2, vI x3, vI x4] [] h _
            refine X_b 1 27 (L := L_21) rfl rfl rfl ?_
            show X 21 27 [vR 0, vI x2, vI x3, vI x4] [vI 0] h _
            refine X_zret (L := L_21) rfl rfl rfl rfl (by decide) ?_
            show X 20 8 [vR 0, vI x1, vI x2, vI x3, vI x4] [vI 0] h _
            refine X_if (L := L_20) (n' := 14) rfl rfl rfl rfl (fun z => absurd z (show ¬ (¬ (0 : Int) = (0 : Int)) by decide)) (fun _ => ?_)
            show X 20 9 [vR 0, vI x1, vI x2, vI x3, vI x4] [] h _
            refine X_thr 0 sg_thr_20_9 rfl (Nat.le_of_ble_eq_true rfl) ?_
            exact H
          · have z5 : 0 ≤ x3 := (Int.not_lt.mp z5)
            replace H := H.2 z5
            show X 21 11 [vR 0, vI x2, vI x3, vI x4] [] h _
            obtain ⟨c6, H⟩ := H
            refine X_b 6 17 (L := L_21) rfl rfl rfl ?_
            show (0 ≤ x2 ∧ x2 < 9) ∧ X 21 17 [vR 0, vI x2, vI x3, vI x4] [vI (h 8 x2), vI x3] h _
            refine ⟨c6, ?_⟩
            refine X_icmp (L := L_21) (n' := 26) rfl rfl rfl rfl (fun z7 => ?_) (fun z7 => ?_)
            · have z7 : h 8 x2 < x3 := z7
              replace H := H.1 z7
              show X 21 26 [vR 0, vI x2, vI x3, vI x4] [] h _
              refine X_b 1 27 (L := L_21) rfl rfl rfl ?_
              show X 21 27 [vR 0, vI x2, vI x3, vI x4] [vI 0] h _
              refine X_zret (L := L_21) rfl rfl rfl rfl (by decide) ?_
              show X 20 8 [vR 0, vI x1, vI x2, vI x3, vI x4] [vI 0] h _
              refine X_if (L := L_20) (n' := 14) rfl rfl rfl rfl (fun z => absurd z (show ¬ (¬ (0 : Int) = (0 : Int)) by decide)) (fun _ => ?_)
              show X 20 9 [vR 0, vI x1, vI x2, vI x3, vI x4] [] h _
              refine X_thr 0 sg_thr_20_9 rfl (Nat.le_of_ble_eq_true rfl) ?_
              exact H
            · have z7 : x3 ≤ h 8 x2 := (Int.not_lt.mp z7)
              replace H := H.2 z7
              show X 21 18 [vR 0, vI x2, vI x3, vI x4] [] h _
              refine X_b 2 20 (L := L_21) rfl rfl rfl ?_
              show X 21 20 [vR 0, vI x2, vI x3, vI x4] [vI 4, vI x4] h _
              refine X_icmp (L := L_21) (n' := 26) rfl rfl rfl rfl (fun z8 => ?_) (fun z8 => ?_)
              · have z8 : x4 < 4 := z8
                replace H := H.1 z8
                show X 21 26 [vR 0, vI x2, vI x3, vI x4] [] h _
                refine X_b 1 27 (L := L_21) rfl rfl rfl ?_
                show X 21 27 [vR 0, vI x2, vI x3, vI x4] [vI 0] h _
                refine X_zret (L := L_21) rfl rfl rfl rfl (by decide) ?_
                show X 20 8 [vR 0, vI x1, vI x2, vI x3, vI x4] [vI 0] h _
                refine X_if (L := L_20) (n' := 14) rfl rfl rfl rfl (fun z => absurd z (show ¬ (¬ (0 : Int) = (0 : Int)) by decide)) (fun _ => ?_)
                show X 20 9 [vR 0, vI x1, vI x2, vI x3, vI x4] [] h _
                refine X_thr 0 sg_thr_20_9 rfl (Nat.le_of_ble_eq_true rfl) ?_
                exact H
              · have z8 : 4 ≤ x4 := (Int.not_lt.mp z8)
                replace H := H.2 z8
                show X 21 21 [vR 0, vI x2, vI x3, vI x4] [] h _
                refine X_b 2 23 (L := L_21) rfl rfl rfl ?_
                show X 21 23 [vR 0, vI x2, vI x3, vI x4] [vI 9, vI x4] h _
                refine X_icmp (L := L_21) (n' := 26) rfl rfl rfl rfl (fun z9 => ?_) (fun z9 => ?_)
                · have z9 : 9 < x4 := z9
                  replace H := H.1 z9
                  show X 21 26 [vR 0, vI x2, vI x3, vI x4] [] h _
                  refine X_b 1 27 (L := L_21) rfl rfl rfl ?_
                  show X 21 27 [vR 0, vI x2, vI x3, vI x4] [vI 0] h _
                  refine X_zret (L := L_21) rfl rfl rfl rfl (by decide) ?_
                  show X 20 8 [vR 0, vI x1, vI x2, vI x3, vI x4] [vI 0] h _
                  refine X_if (L := L_20) (n' := 14) rfl rfl rfl rfl (fun z => absurd z (show ¬ (¬ (0 : Int) = (0 : Int)) by decide)) (fun _ => ?_)
                  show X 20 9 [vR 0, vI x1, vI x2, vI x3, vI x4] [] h _
                  refine X_thr 0 sg_thr_20_9 rfl (Nat.le_of_ble_eq_true rfl) ?_
                  exact H
                · have z9 : x4 ≤ 9 := (Int.not_lt.mp z9)
                  replace H := H.2 z9
                  show X 21 24 [vR 0, vI x2, vI x3, vI x4] [] h _
                  obtain ⟨⟨c10, c11, c12, c13, c14⟩, H⟩ := H
                  refine X_b 1 25 (L := L_21) rfl rfl rfl ?_
                  show X 21 25 [vR 0, vI x2, vI x3, vI x4] [vI 1] h _
                  refine X_goto (L := L_21) (n' := 27) rfl rfl rfl rfl ?_
                  show X 21 27 [vR 0, vI x2, vI x3, vI x4] [vI 1] h _
                  refine X_zret (L := L_21) rfl rfl rfl rfl (by decide) ?_
                  show X 20 8 [vR 0, vI x1, vI x2, vI x3, vI x4] [vI 1] h _
                  refine X_if (L := L_20) (n' := 14) rfl rfl rfl rfl (fun _ => ?_) (fun z => absurd (show ¬ (1 : Int) = (0 : Int) by decide) z)
                  show X 20 14 [vR 0, vI x1, vI x2, vI x3, vI x4] [] h _
                  refine X_ret (L := L_20) rfl rfl rfl rfl ?_
                  show X 7 6 [vR 0, vI x1, vI x2, vI x3, vI x4] [] h _
                  refine X_b 6 12 (L := L_7) rfl rfl rfl ?_
                  show X 7 12 [vR 0, vI x1, vI x2, vI x3, vI x4] [vI x4, vI x3, vI x2, vI x1, vR 2] h _
                  refine X_call 82 [vR 2, vI x1, vI x2, vI x3, vI x4] [] rfl (sg_calv rfl rfl rfl rfl rfl rfl rfl rfl rfl rfl rfl) (by decide) ?_
                  show X 82 0 [vR 2, vI x1, vI x2, vI x3, vI x4] [] h _
                  refine X_b 7 7 (L := L_82) rfl rfl rfl ?_
                  show (-2147483648 ≤ x1 * 45 ∧ x1 * 45 ≤ 2147483647) ∧ X 82 7 [vR 2, vI x1, vI x2, vI x3, vI x4] [vI x3, vI x2, vI (x1 * 45), vR 13] h _
                  refine ⟨c10, ?_⟩
                  refine X_call 27 [vI x2, vI x3] [vI (x1 * 45), vR 13] rfl (sg_cals rfl rfl rfl rfl rfl rfl rfl rfl rfl rfl) (by decide) ?_
                  show X 27 0 [vI x2, vI x3] [] h _
                  refine X_b 5 5 (L := L_27) rfl rfl rfl ?_
                  show (-2147483648 ≤ x2 * 5 ∧ x2 * 5 ≤ 2147483647) ∧ (-2147483648 ≤ (x2 * 5) + x3 ∧ (x2 * 5) + x3 ≤ 2147483647) ∧ X 27 5 [vI x2, vI x3] [vI ((x2 * 5) + x3)] h _
                  refine ⟨c11, c12, ?_⟩
                  refine X_iret (L := L_27) rfl rfl rfl rfl ?_
                  show X 82 8 [vR 2, vI x1, vI x2, vI x3, vI x4] [vI ((x2 * 5) + x3), vI (x1 * 45), vR 13] h _
                  refine X_b 4 12 (L := L_82) rfl rfl rfl ?_
                  show (-2147483648 ≤ (x1 * 45) + ((x2 * 5) + x3) ∧ (x1 * 45) + ((x2 * 5) + x3) ≤ 2147483647) ∧ (0 ≤ (x1 * 45) + ((x2 * 5) + x3) ∧ (x1 * 45) + ((x2 * 5) + x3) < 2250) ∧ X 82 12 [vR 2, vI x1, vI x2, vI x3, vI x4] [vI x4, vI (h 13 ((x1 * 45) + ((x2 * 5) + x3))), vI ((x1 * 45) + ((x2 * 5) + x3)), vR 13] h _
                  refine ⟨by have := c13; omega, c13, ?_⟩
                  refine X_call 26 [vI x4] [vI (h 13 ((x1 * 45) + ((x2 * 5) + x3))), vI ((x1 * 45) + ((x2 * 5) + x3)), vR 13] rfl (sg_cals rfl rfl rfl rfl rfl rfl rfl rfl rfl rfl) (by decide) ?_
                  show X 26 0 [vI x4] [] h _
                  refine X_b 5 5 (L := L_26) rfl rfl rfl ?_
                  show (-2147483648 ≤ x4 - 4 ∧ x4 - 4 ≤ 2147483647) ∧ X 26 5 [vI x4] [vI (b_shl 1 (x4 - 4))] h _
                  refine ⟨c14, ?_⟩
                  refine X_iret (L := L_26) rfl rfl rfl rfl ?_
                  show X 82 13 [vR 2, vI x1, vI x2, vI x3, vI x4] [vI (b_shl 1 (x4 - 4)), vI (h 13 ((x1 * 45) + ((x2 * 5) + x3))), vI ((x1 * 45) + ((x2 * 5) + x3)), vR 13] h _
                  refine X_b 2 15 (L := L_82) rfl rfl rfl ?_
                  show (0 ≤ (x1 * 45) + ((x2 * 5) + x3) ∧ (x1 * 45) + ((x2 * 5) + x3) < 2250) ∧ X 82 15 [vR 2, vI x1, vI x2, vI x3, vI x4] [] (ab_up h 13 ((x1 * 45) + ((x2 * 5) + x3)) (b_xor (h 13 ((x1 * 45) + ((x2 * 5) + x3))) (b_shl 1 (x4 - 4)))) _
                  refine ⟨c13, ?_⟩
                  refine X_ret (L := L_82) rfl rfl rfl rfl ?_
                  show X 7 13 [vR 0, vI x1, vI x2, vI x3, vI x4] [] (ab_up h 13 ((x1 * 45) + ((x2 * 5) + x3)) (b_xor (h 13 ((x1 * 45) + ((x2 * 5) + x3))) (b_shl 1 (x4 - 4)))) _
                  refine X_b 6 19 (L := L_7) rfl rfl rfl ?_
                  show X 7 19 [vR 0, vI x1, vI x2, vI x3, vI x4] [vI x4, vI x3, vI x2, vI x1, vR 2] (ab_up h 13 ((x1 * 45) + ((x2 * 5) + x3)) (b_xor (h 13 ((x1 * 45) + ((x2 * 5) + x3))) (b_shl 1 (x4 - 4)))) _
                  refine X_call 81 [vR 2, vI x1, vI x2, vI x3, vI x4] [] rfl (sg_calv rfl rfl rfl rfl rfl rfl rfl rfl rfl rfl rfl) (by decide) ?_
                  show X 81 0 [vR 2, vI x1, vI x2, vI x3, vI x4] [] (ab_up h 13 ((x1 * 45) + ((x2 * 5) + x3)) (b_xor (h 13 ((x1 * 45) + ((x2 * 5) + x3))) (b_shl 1 (x4 - 4)))) _
                  refine X_b 4 4 (L := L_81) rfl rfl rfl ?_
                  show X 81 4 [vR 2, vI x1, vI x2, vI x3, vI x4] [vI x3, vI x2, vI x1, vR 2] (ab_up h 13 ((x1 * 45) + ((x2 * 5) + x3)) (b_xor (h 13 ((x1 * 45) + ((x2 * 5) + x3))) (b_shl 1 (x4 - 4)))) _
                  refine X_call 80 [vR 2, vI x1, vI x2, vI x3] [] rfl (sg_calv rfl rfl rfl rfl rfl rfl rfl rfl rfl rfl rfl) (by decide) ?_
                  show X 80 0 [vR 2, vI x1, vI x2, vI x3] [] (ab_up h 13 ((x1 * 45) + ((x2 * 5) + x3)) (b_xor (h 13 ((x1 * 45) + ((x2 * 5) + x3))) (b_shl 1 (x4 - 4)))) _
                  refine X_b 7 7 (L := L_80) rfl rfl rfl ?_
                  show (-2147483648 ≤ x1 * 45 ∧ x1 * 45 ≤ 2147483647) ∧ X 80 7 [vR 2, vI x1, vI x2, vI x3] [vI x3, vI x2, vI (x1 * 45), vR 13] (ab_up h 13 ((x1 * 45) + ((x2 * 5) + x3)) (b_xor (h 13 ((x1 * 45) + ((x2 * 5) + x3))) (b_shl 1 (x4 - 4)))) _
                  refine ⟨c10, ?_⟩
                  refine X_call 27 [vI x2, vI x3] [vI (x1 * 45), vR 13] rfl (sg_cals rfl rfl rfl rfl rfl rfl rfl rfl rfl rfl) (by decide) ?_
                  show X 27 0 [vI x2, vI x3] [] (ab_up h 13 ((x1 * 45) + ((x2 * 5) + x3)) (b_xor (h 13 ((x1 * 45) + ((x2 * 5) + x3))) (b_shl 1 (x4 - 4)))) _
                  refine X_b 5 5 (L := L_27) rfl rfl rfl ?_
                  show (-2147483648 ≤ x2 * 5 ∧ x2 * 5 ≤ 2147483647) ∧ (-2147483648 ≤ (x2 * 5) + x3 ∧ (x2 * 5) + x3 ≤ 2147483647) ∧ X 27 5 [vI x2, vI x3] [vI ((x2 * 5) + x3)] (ab_up h 13 ((x1 * 45) + ((x2 * 5) + x3)) (b_xor (h 13 ((x1 * 45) + ((x2 * 5) + x3))) (b_shl 1 (x4 - 4)))) _
                  refine ⟨c11, c12, ?_⟩
                  refine X_iret (L := L_27) rfl rfl rfl rfl ?_
                  show X 80 8 [vR 2, vI x1, vI x2, vI x3] [vI ((x2 * 5) + x3), vI (x1 * 45), vR 13] (ab_up h 13 ((x1 * 45) + ((x2 * 5) + x3)) (b_xor (h 13 ((x1 * 45) + ((x2 * 5) + x3))) (b_shl 1 (x4 - 4)))) _
                  refine X_b 2 10 (L := L_80) rfl rfl rfl ?_
                  show (-2147483648 ≤ (x1 * 45) + ((x2 * 5) + x3) ∧ (x1 * 45) + ((x2 * 5) + x3) ≤ 2147483647) ∧ (0 ≤ (x1 * 45) + ((x2 * 5) + x3) ∧ (x1 * 45) + ((x2 * 5) + x3) < 2250) ∧ X 80 10 [vR 2, vI x1, vI x2, vI x3] [vI ((ab_up h 13 ((x1 * 45) + ((x2 * 5) + x3)) (b_xor (h 13 ((x1 * 45) + ((x2 * 5) + x3))) (b_shl 1 (x4 - 4)))) 13 ((x1 * 45) + ((x2 * 5) + x3)))] (ab_up h 13 ((x1 * 45) + ((x2 * 5) + x3)) (b_xor (h 13 ((x1 * 45) + ((x2 * 5) + x3))) (b_shl 1 (x4 - 4)))) _
                  refine ⟨by have := c13; omega, c13, ?_⟩
                  refine X_iret (L := L_80) rfl rfl rfl rfl ?_
                  show X 81 5 [vR 2, vI x1, vI x2, vI x3, vI x4] [vI ((ab_up h 13 ((x1 * 45) + ((x2 * 5) + x3)) (b_xor (h 13 ((x1 * 45) + ((x2 * 5) + x3))) (b_shl 1 (x4 - 4)))) 13 ((x1 * 45) + ((x2 * 5) + x3)))] (ab_up h 13 ((x1 * 45) + ((x2 * 5) + x3)) (b_xor (h 13 ((x1 * 45) + ((x2 * 5) + x3))) (b_shl 1 (x4 - 4)))) _
                  refine X_b 1 6 (L := L_81) rfl rfl rfl ?_
                  show X 81 6 [vR 2, vI x1, vI x2, vI x3, vI x4] [vI x4, vI ((ab_up h 13 ((x1 * 45) + ((x2 * 5) + x3)) (b_xor (h 13 ((x1 * 45) + ((x2 * 5) + x3))) (b_shl 1 (x4 - 4)))) 13 ((x1 * 45) + ((x2 * 5) + x3)))] (ab_up h 13 ((x1 * 45) + ((x2 * 5) + x3)) (b_xor (h 13 ((x1 * 45) + ((x2 * 5) + x3))) (b_shl 1 (x4 - 4)))) _
                  refine X_call 26 [vI x4] [vI ((ab_up h 13 ((x1 * 45) + ((x2 * 5) + x3)) (b_xor (h 13 ((x1 * 45) + ((x2 * 5) + x3))) (b_shl 1 (x4 - 4)))) 13 ((x1 * 45) + ((x2 * 5) + x3)))] rfl (sg_cals rfl rfl rfl rfl rfl rfl rfl rfl rfl rfl) (by decide) ?_
                  show X 26 0 [vI x4] [] (ab_up h 13 ((x1 * 45) + ((x2 * 5) + x3)) (b_xor (h 13 ((x1 * 45) + ((x2 * 5) + x3))) (b_shl 1 (x4 - 4)))) _
                  refine X_b 5 5 (L := L_26) rfl rfl rfl ?_
                  show (-2147483648 ≤ x4 - 4 ∧ x4 - 4 ≤ 2147483647) ∧ X 26 5 [vI x4] [vI (b_shl 1 (x4 - 4))] (ab_up h 13 ((x1 * 45) + ((x2 * 5) + x3)) (b_xor (h 13 ((x1 * 45) + ((x2 * 5) + x3))) (b_shl 1 (x4 - 4)))) _
                  refine ⟨c14, ?_⟩
                  refine X_iret (L := L_26) rfl rfl rfl rfl ?_
                  show X 81 7 [vR 2, vI x1, vI x2, vI x3, vI x4] [vI (b_shl 1 (x4 - 4)), vI ((ab_up h 13 ((x1 * 45) + ((x2 * 5) + x3)) (b_xor (h 13 ((x1 * 45) + ((x2 * 5) + x3))) (b_shl 1 (x4 - 4)))) 13 ((x1 * 45) + ((x2 * 5) + x3)))] (ab_up h 13 ((x1 * 45) + ((x2 * 5) + x3)) (b_xor (h 13 ((x1 * 45) + ((x2 * 5) + x3))) (b_shl 1 (x4 - 4)))) _
                  refine X_b 1 8 (L := L_81) rfl rfl rfl ?_
                  show X 81 8 [vR 2, vI x1, vI x2, vI x3, vI x4] [vI (b_and ((ab_up h 13 ((x1 * 45) + ((x2 * 5) + x3)) (b_xor (h 13 ((x1 * 45) + ((x2 * 5) + x3))) (b_shl 1 (x4 - 4)))) 13 ((x1 * 45) + ((x2 * 5) + x3))) (b_shl 1 (x4 - 4)))] (ab_up h 13 ((x1 * 45) + ((x2 * 5) + x3)) (b_xor (h 13 ((x1 * 45) + ((x2 * 5) + x3))) (b_shl 1 (x4 - 4)))) _
                  refine X_if (L := L_81) (n' := 11) rfl rfl rfl rfl (fun z15 => ?_) (fun z15 => ?_)
                  · have z15 : b_and ((ab_up h 13 ((x1 * 45) + ((x2 * 5) + x3)) (b_xor (h 13 ((x1 * 45) + ((x2 * 5) + x3))) (b_shl 1 (x4 - 4)))) 13 ((x1 * 45) + ((x2 * 5) + x3))) (b_shl 1 (x4 - 4)) = 0 := z15
                    replace H := H.1 z15
                    show X 81 11 [vR 2, vI x1, vI x2, vI x3, vI x4] [] (ab_up h 13 ((x1 * 45) + ((x2 * 5) + x3)) (b_xor (h 13 ((x1 * 45) + ((x2 * 5) + x3))) (b_shl 1 (x4 - 4)))) _
                    refine X_b 1 12 (L := L_81) rfl rfl rfl ?_
                    show X 81 12 [vR 2, vI x1, vI x2, vI x3, vI x4] [vI 0] (ab_up h 13 ((x1 * 45) + ((x2 * 5) + x3)) (b_xor (h 13 ((x1 * 45) + ((x2 * 5) + x3))) (b_shl 1 (x4 - 4)))) _
                    refine X_zret (L := L_81) rfl rfl rfl rfl (by decide) ?_
                    show X 7 20 [vR 0, vI x1, vI x2, vI x3, vI x4] [vI 0] (ab_up h 13 ((x1 * 45) + ((x2 * 5) + x3)) (b_xor (h 13 ((x1 * 45) + ((x2 * 5) + x3))) (b_shl 1 (x4 - 4)))) _
                    refine X_zret (L := L_7) rfl rfl rfl rfl (by decide) ?_
                    exact H
                  · have z15 : ¬ b_and ((ab_up h 13 ((x1 * 45) + ((x2 * 5) + x3)) (b_xor (h 13 ((x1 * 45) + ((x2 * 5) + x3))) (b_shl 1 (x4 - 4)))) 13 ((x1 * 45) + ((x2 * 5) + x3))) (b_shl 1 (x4 - 4)) = 0 := z15
                    replace H := H.2 z15
                    show X 81 9 [vR 2, vI x1, vI x2, vI x3, vI x4] [] (ab_up h 13 ((x1 * 45) + ((x2 * 5) + x3)) (b_xor (h 13 ((x1 * 45) + ((x2 * 5) + x3))) (b_shl 1 (x4 - 4)))) _
                    refine X_b 1 10 (L := L_81) rfl rfl rfl ?_
                    show X 81 10 [vR 2, vI x1, vI x2, vI x3, vI x4] [vI 1] (ab_up h 13 ((x1 * 45) + ((x2 * 5) + x3)) (b_xor (h 13 ((x1 * 45) + ((x2 * 5) + x3))) (b_shl 1 (x4 - 4)))) _
                    refine X_goto (L := L_81) (n' := 12) rfl rfl rfl rfl ?_
                    show X 81 12 [vR 2, vI x1, vI x2, vI x3, vI x4] [vI 1] (ab_up h 13 ((x1 * 45) + ((x2 * 5) + x3)) (b_xor (h 13 ((x1 * 45) + ((x2 * 5) + x3))) (b_shl 1 (x4 - 4)))) _
                    refine X_zret (L := L_81) rfl rfl rfl rfl (by decide) ?_
                    show X 7 20 [vR 0, vI x1, vI x2, vI x3, vI x4] [vI 1] (ab_up h 13 ((x1 * 45) + ((x2 * 5) + x3)) (b_xor (h 13 ((x1 * 45) + ((x2 * 5) + x3))) (b_shl 1 (x4 - 4)))) _
                    refine X_zret (L := L_7) rfl rfl rfl rfl (by decide) ?_
                    exact H
        · have z4 : h 1 0 < x2 := (Int.not_le.mp z4)
          replace H := H.2 z4
          show X 21 7 [vR 0, vI x2, vI x3, vI x4] [] h _
          refine X_b 1 8 (L := L_21) rfl rfl rfl ?_
          show X 21 8 [vR 0, vI x2, vI x3, vI x4] [vI 0] h _
          refine X_zret (L := L_21) rfl rfl rfl rfl (by decide) ?_
          show X 20 8 [vR 0, vI x1, vI x2, vI x3, vI x4] [vI 0] h _
          refine X_if (L := L_20) (n' := 14) rfl rfl rfl rfl (fun z => absurd z (show ¬ (¬ (0 : Int) = (0 : Int)) by decide)) (fun _ => ?_)
          show X 20 9 [vR 0, vI x1, vI x2, vI x3, vI x4] [] h _
          refine X_thr 0 sg_thr_20_9 rfl (Nat.le_of_ble_eq_true rfl) ?_
          exact H
    · have z2 : h 2 0 ≤ x1 := (Int.not_lt.mp z2)
      replace H := H.2 z2
      show X 18 7 [vR 0, vI x1] [] h _
      refine X_thr 2 sg_thr_18_7 rfl (Nat.le_of_ble_eq_true rfl) ?_
      exact H

/-- PP.check, row 0 -/
theorem s_8_0 (h : ab_S) (K : ab_O → ab_S → Prop) (H : ((¬ h 2 0 = 0 → C 95 [vR 4] h (kI (fun v2 h2 => K (oI v2) h2))) ∧ (h 2 0 = 0 → K (oX 1) (ab_up h 39 0 ((h 39 0) + 1))))) : C 8 [vR 0] h K := by
  show X 8 0 [vR 0] [] h K
  refine X_b 1 1 (L := L_8) rfl rfl rfl ?_
  show X 8 1 [vR 0] [vR 0] h _
  refine X_call 17 [vR 0] [] rfl (sg_calv rfl rfl rfl rfl rfl rfl rfl rfl rfl rfl rfl) (by decide) ?_
  show X 17 0 [vR 0] [] h _
  refine X_b 3 3 (L := L_17) rfl rfl rfl ?_
  show X 17 3 [vR 0] [vI (h 2 0)] h _
  refine X_if (L := L_17) (n' := 9) rfl rfl rfl rfl (fun z1 => ?_) (fun z1 => ?_)
  · have z1 : ¬ h 2 0 = 0 := z1
    replace H := H.1 z1
    show X 17 9 [vR 0] [] h _
    refine X_ret (L := L_17) rfl rfl rfl rfl ?_
    show X 8 2 [vR 0] [] h _
    refine X_b 2 4 (L := L_8) rfl rfl rfl ?_
    show X 8 4 [vR 0] [vR 4] h _
    refine X_call 95 [vR 4] [] rfl (sg_calv rfl rfl rfl rfl rfl rfl rfl rfl rfl rfl rfl) (by decide) ?_
    refine C_mono H (kI_to ?_)
    intro v2 h2 H
    show X 8 5 [vR 0] [vI v2] h2 _
    refine X_iret (L := L_8) rfl rfl rfl rfl ?_
    exact H
  · have z1 : h 2 0 = 0 := (Classical.not_not.mp z1)
    replace H := H.2 z1
    show X 17 4 [vR 0] [] h _
    refine X_thr 1 sg_thr_17_4 rfl (Nat.le_of_ble_eq_true rfl) ?_
    exact H

/-- PP.fault, row 0 -/
theorem s_9_0 (x1 : Int) (h : ab_S) (K : ab_O → ab_S → Prop) (H : ((x1 < 0 → K (oI (-1)) h) ∧ (0 ≤ x1 → ((x1 < 4 → ((0 ≤ x1 ∧ x1 < 4)) ∧ K (oI (h 15 x1)) h) ∧ (4 ≤ x1 → K (oI (-1)) h))))) : C 9 [vR 0, vI x1] h K := by
  show X 9 0 [vR 0, vI x1] [] h K
  refine X_b 3 3 (L := L_9) rfl rfl rfl ?_
  show X 9 3 [vR 0, vI x1] [vI x1, vR 4] h _
  refine X_call 94 [vR 4, vI x1] [] rfl (sg_calv rfl rfl rfl rfl rfl rfl rfl rfl rfl rfl rfl) (by decide) ?_
  show X 94 0 [vR 4, vI x1] [] h _
  refine X_b 1 1 (L := L_94) rfl rfl rfl ?_
  show X 94 1 [vR 4, vI x1] [vI x1] h _
  refine X_if (L := L_94) (n' := 5) rfl rfl rfl rfl (fun z1 => ?_) (fun z1 => ?_)
  · have z1 : x1 < 0 := z1
    replace H := H.1 z1
    show X 94 5 [vR 4, vI x1] [] h _
    refine X_b 1 6 (L := L_94) rfl rfl rfl ?_
    show X 94 6 [vR 4, vI x1] [vI (-1)] h _
    refine X_goto (L := L_94) (n' := 11) rfl rfl rfl rfl ?_
    show X 94 11 [vR 4, vI x1] [vI (-1)] h _
    refine X_iret (L := L_94) rfl rfl rfl rfl ?_
    show X 9 4 [vR 0, vI x1] [vI (-1)] h _
    refine X_iret (L := L_9) rfl rfl rfl rfl ?_
    exact H
  · have z1 : 0 ≤ x1 := (Int.not_lt.mp z1)
    replace H := H.2 z1
    show X 94 2 [vR 4, vI x1] [] h _
    refine X_b 2 4 (L := L_94) rfl rfl rfl ?_
    show X 94 4 [vR 4, vI x1] [vI 4, vI x1] h _
    refine X_icmp (L := L_94) (n' := 7) rfl rfl rfl rfl (fun z2 => ?_) (fun z2 => ?_)
    · have z2 : x1 < 4 := z2
      replace H := H.1 z2
      show X 94 7 [vR 4, vI x1] [] h _
      obtain ⟨c3, H⟩ := H
      refine X_b 4 11 (L := L_94) rfl rfl rfl ?_
      show (0 ≤ x1 ∧ x1 < 4) ∧ X 94 11 [vR 4, vI x1] [vI (h 15 x1)] h _
      refine ⟨c3, ?_⟩
      refine X_iret (L := L_94) rfl rfl rfl rfl ?_
      show X 9 4 [vR 0, vI x1] [vI (h 15 x1)] h _
      refine X_iret (L := L_9) rfl rfl rfl rfl ?_
      exact H
    · have z2 : 4 ≤ x1 := (Int.not_lt.mp z2)
      replace H := H.2 z2
      show X 94 5 [vR 4, vI x1] [] h _
      refine X_b 1 6 (L := L_94) rfl rfl rfl ?_
      show X 94 6 [vR 4, vI x1] [vI (-1)] h _
      refine X_goto (L := L_94) (n' := 11) rfl rfl rfl rfl ?_
      show X 94 11 [vR 4, vI x1] [vI (-1)] h _
      refine X_iret (L := L_94) rfl rfl rfl rfl ?_
      show X 9 4 [vR 0, vI x1] [vI (-1)] h _
      refine X_iret (L := L_9) rfl rfl rfl rfl ?_
      exact H

/-- PP.feed, row 0 -/
theorem s_10_0 (x1 : Int) (h : ab_S) (K : ab_O → ab_S → Prop) (H : ((x1 < 4 → K (oI (-1)) h) ∧ (4 ≤ x1 → ((9 ≤ x1 → K (oI (-1)) h) ∧ (x1 < 9 → ((h 5 3 < 20 → ((0 ≤ h 5 3 ∧ h 5 3 < 20) ∧ (-2147483648 ≤ (h 5 3) + 1 ∧ (h 5 3) + 1 ≤ 2147483647)) ∧ K (oI ((h 5 3) + 1)) (ab_up (ab_up (ab_up (ab_up h 5 7 0) 5 9 0) 16 (h 5 3) x1) 5 3 ((h 5 3) + 1))) ∧ (20 ≤ h 5 3 → K (oI (-1)) h))))))) : C 10 [vR 0, vI x1] h K := by
  show X 10 0 [vR 0, vI x1] [] h K
  refine X_b 1 1 (L := L_10) rfl rfl rfl ?_
  show X 10 1 [vR 0, vI x1] [vI x1] h _
  refine X_call 24 [vI x1] [] rfl (sg_cals rfl rfl rfl rfl rfl rfl rfl rfl rfl rfl) (by decide) ?_
  show X 24 0 [vI x1] [] h _
  refine X_b 2 2 (L := L_24) rfl rfl rfl ?_
  show X 24 2 [vI x1] [vI 4, vI x1] h _
  refine X_icmp (L := L_24) (n' := 8) rfl rfl rfl rfl (fun z1 => ?_) (fun z1 => ?_)
  · have z1 : x1 < 4 := z1
    replace H := H.1 z1
    show X 24 8 [vI x1] [] h _
    refine X_b 1 9 (L := L_24) rfl rfl rfl ?_
    show X 24 9 [vI x1] [vI 0] h _
    refine X_zret (L := L_24) rfl rfl rfl rfl (by decide) ?_
    show X 10 2 [vR 0, vI x1] [vI 0] h _
    refine X_if (L := L_10) (n' := 8) rfl rfl rfl rfl (fun _ => ?_) (fun z => absurd (show (0 : Int) = (0 : Int) by decide) z)
    show X 10 8 [vR 0, vI x1] [] h _
    refine X_b 1 9 (L := L_10) rfl rfl rfl ?_
    show X 10 9 [vR 0, vI x1] [vI (-1)] h _
    refine X_iret (L := L_10) rfl rfl rfl rfl ?_
    exact H
  · have z1 : 4 ≤ x1 := (Int.not_lt.mp z1)
    replace H := H.2 z1
    show X 24 3 [vI x1] [] h _
    refine X_b 2 5 (L := L_24) rfl rfl rfl ?_
    show X 24 5 [vI x1] [vI 9, vI x1] h _
    refine X_icmp (L := L_24) (n' := 8) rfl rfl rfl rfl (fun z2 => ?_) (fun z2 => ?_)
    · have z2 : 9 ≤ x1 := z2
      replace H := H.1 z2
      show X 24 8 [vI x1] [] h _
      refine X_b 1 9 (L := L_24) rfl rfl rfl ?_
      show X 24 9 [vI x1] [vI 0] h _
      refine X_zret (L := L_24) rfl rfl rfl rfl (by decide) ?_
      show X 10 2 [vR 0, vI x1] [vI 0] h _
      refine X_if (L := L_10) (n' := 8) rfl rfl rfl rfl (fun _ => ?_) (fun z => absurd (show (0 : Int) = (0 : Int) by decide) z)
      show X 10 8 [vR 0, vI x1] [] h _
      refine X_b 1 9 (L := L_10) rfl rfl rfl ?_
      show X 10 9 [vR 0, vI x1] [vI (-1)] h _
      refine X_iret (L := L_10) rfl rfl rfl rfl ?_
      exact H
    · have z2 : x1 < 9 := (Int.not_le.mp z2)
      replace H := H.2 z2
      show X 24 6 [vI x1] [] h _
      refine X_b 1 7 (L := L_24) rfl rfl rfl ?_
      show X 24 7 [vI x1] [vI 1] h _
      refine X_goto (L := L_24) (n' := 9) rfl rfl rfl rfl ?_
      show X 24 9 [vI x1] [vI 1] h _
      refine X_zret (L := L_24) rfl rfl rfl rfl (by decide) ?_
      show X 10 2 [vR 0, vI x1] [vI 1] h _
      refine X_if (L := L_10) (n' := 8) rfl rfl rfl rfl (fun z => absurd z (show ¬ ((1 : Int) = (0 : Int)) by decide)) (fun _ => ?_)
      show X 10 3 [vR 0, vI x1] [] h _
      refine X_b 4 7 (L := L_10) rfl rfl rfl ?_
      show X 10 7 [vR 0, vI x1] [vI 20, vI (h 5 3)] h _
      refine X_icmp (L := L_10) (n' := 10) rfl rfl rfl rfl (fun z3 => ?_) (fun z3 => ?_)
      · have z3 : h 5 3 < 20 := z3
        replace H := H.1 z3
        show X 10 10 [vR 0, vI x1] [] h _
        obtain ⟨⟨c4, c5⟩, H⟩ := H
        refine X_b 2 12 (L := L_10) rfl rfl rfl ?_
        show X 10 12 [vR 0, vI x1] [vR 5] h _
        refine X_call 116 [vR 5] [] rfl (sg_calv rfl rfl rfl rfl rfl rfl rfl rfl rfl rfl rfl) (by decide) ?_
        show X 116 0 [vR 5] [] h _
        refine X_b 6 6 (L := L_116) rfl rfl rfl ?_
        show X 116 6 [vR 5] [] (ab_up (ab_up h 5 7 0) 5 9 0) _
        refine X_ret (L := L_116) rfl rfl rfl rfl ?_
        show X 10 13 [vR 0, vI x1] [] (ab_up (ab_up h 5 7 0) 5 9 0) _
        refine X_b 3 16 (L := L_10) rfl rfl rfl ?_
        show X 10 16 [vR 0, vI x1] [vI x1, vR 5] (ab_up (ab_up h 5 7 0) 5 9 0) _
        refine X_call 115 [vR 5, vI x1] [] rfl (sg_calv rfl rfl rfl rfl rfl rfl rfl rfl rfl rfl rfl) (by decide) ?_
        show X 115 0 [vR 5, vI x1] [] (ab_up (ab_up h 5 7 0) 5 9 0) _
        refine X_b 14 14 (L := L_115) rfl rfl rfl ?_
        show (0 ≤ h 5 3 ∧ h 5 3 < 20) ∧ (-2147483648 ≤ (h 5 3) + 1 ∧ (h 5 3) + 1 ≤ 2147483647) ∧ X 115 14 [vR 5, vI x1] [vI ((h 5 3) + 1)] (ab_up (ab_up (ab_up (ab_up h 5 7 0) 5 9 0) 16 (h 5 3) x1) 5 3 ((h 5 3) + 1)) _
        refine ⟨c4, c5, ?_⟩
        refine X_iret (L := L_115) rfl rfl rfl rfl ?_
        show X 10 17 [vR 0, vI x1] [vI ((h 5 3) + 1)] (ab_up (ab_up (ab_up (ab_up h 5 7 0) 5 9 0) 16 (h 5 3) x1) 5 3 ((h 5 3) + 1)) _
        refine X_iret (L := L_10) rfl rfl rfl rfl ?_
        exact H
      · have z3 : 20 ≤ h 5 3 := (Int.not_lt.mp z3)
        replace H := H.2 z3
        show X 10 8 [vR 0, vI x1] [] h _
        refine X_b 1 9 (L := L_10) rfl rfl rfl ?_
        show X 10 9 [vR 0, vI x1] [vI (-1)] h _
        refine X_iret (L := L_10) rfl rfl rfl rfl ?_
        exact H

/-- PP.empty, row 0 -/
theorem s_11_0 (h : ab_S) (K : ab_O → ab_S → Prop) (H : K oV (ab_up (ab_up (ab_up h 5 7 0) 5 9 0) 5 3 0)) : C 11 [vR 0] h K := by
  show X 11 0 [vR 0] [] h K
  refine X_b 2 2 (L := L_11) rfl rfl rfl ?_
  show X 11 2 [vR 0] [vR 5] h _
  refine X_call 116 [vR 5] [] rfl (sg_calv rfl rfl rfl rfl rfl rfl rfl rfl rfl rfl rfl) (by decide) ?_
  show X 116 0 [vR 5] [] h _
  refine X_b 6 6 (L := L_116) rfl rfl rfl ?_
  show X 116 6 [vR 5] [] (ab_up (ab_up h 5 7 0) 5 9 0) _
  refine X_ret (L := L_116) rfl rfl rfl rfl ?_
  show X 11 3 [vR 0] [] (ab_up (ab_up h 5 7 0) 5 9 0) _
  refine X_b 4 7 (L := L_11) rfl rfl rfl ?_
  show X 11 7 [vR 0] [] (ab_up (ab_up (ab_up h 5 7 0) 5 9 0) 5 3 0) _
  refine X_ret (L := L_11) rfl rfl rfl rfl ?_
  exact H

/-- PP.parse, row 0 -/
theorem s_12_0 (x1 : Int) (h : ab_S) (K : ab_O → ab_S → Prop) (H : ((¬ h 2 0 = 0 → ((x1 < 0 → K (oX 0) (ab_up h 39 0 ((h 39 0) + 1))) ∧ (0 ≤ x1 → ((x1 ≤ 400 → C 118 [vR 5, vI x1] h (kI (fun v4 h4 => K (oI v4) h4))) ∧ (400 < x1 → K (oX 0) (ab_up h 39 0 ((h 39 0) + 1))))))) ∧ (h 2 0 = 0 → K (oX 1) (ab_up h 39 0 ((h 39 0) + 1))))) : C 12 [vR 0, vI x1] h K := by
  show X 12 0 [vR 0, vI x1] [] h K
  refine X_b 1 1 (L := L_12) rfl rfl rfl ?_
  show X 12 1 [vR 0, vI x1] [vR 0] h _
  refine X_call 17 [vR 0] [] rfl (sg_calv rfl rfl rfl rfl rfl rfl rfl rfl rfl rfl rfl) (by decide) ?_
  show X 17 0 [vR 0] [] h _
  refine X_b 3 3 (L := L_17) rfl rfl rfl ?_
  show X 17 3 [vR 0] [vI (h 2 0)] h _
  refine X_if (L := L_17) (n' := 9) rfl rfl rfl rfl (fun z1 => ?_) (fun z1 => ?_)
  · have z1 : ¬ h 2 0 = 0 := z1
    replace H := H.1 z1
    show X 17 9 [vR 0] [] h _
    refine X_ret (L := L_17) rfl rfl rfl rfl ?_
    show X 12 2 [vR 0, vI x1] [] h _
    refine X_b 1 3 (L := L_12) rfl rfl rfl ?_
    show X 12 3 [vR 0, vI x1] [vI x1] h _
    refine X_if (L := L_12) (n' := 7) rfl rfl rfl rfl (fun z2 => ?_) (fun z2 => ?_)
    · have z2 : x1 < 0 := z2
      replace H := H.1 z2
      show X 12 7 [vR 0, vI x1] [] h _
      refine X_thr 0 sg_thr_12_7 rfl (Nat.le_of_ble_eq_true rfl) ?_
      exact H
    · have z2 : 0 ≤ x1 := (Int.not_lt.mp z2)
      replace H := H.2 z2
      show X 12 4 [vR 0, vI x1] [] h _
      refine X_b 2 6 (L := L_12) rfl rfl rfl ?_
      show X 12 6 [vR 0, vI x1] [vI 400, vI x1] h _
      refine X_icmp (L := L_12) (n' := 12) rfl rfl rfl rfl (fun z3 => ?_) (fun z3 => ?_)
      · have z3 : x1 ≤ 400 := z3
        replace H := H.1 z3
        show X 12 12 [vR 0, vI x1] [] h _
        refine X_b 3 15 (L := L_12) rfl rfl rfl ?_
        show X 12 15 [vR 0, vI x1] [vI x1, vR 5] h _
        refine X_call 118 [vR 5, vI x1] [] rfl (sg_calv rfl rfl rfl rfl rfl rfl rfl rfl rfl rfl rfl) (by decide) ?_
        refine C_mono H (kI_to ?_)
        intro v4 h4 H
        show X 12 16 [vR 0, vI x1] [vI v4] h4 _
        refine X_iret (L := L_12) rfl rfl rfl rfl ?_
        exact H
      · have z3 : 400 < x1 := (Int.not_le.mp z3)
        replace H := H.2 z3
        show X 12 7 [vR 0, vI x1] [] h _
        refine X_thr 0 sg_thr_12_7 rfl (Nat.le_of_ble_eq_true rfl) ?_
        exact H
  · have z1 : h 2 0 = 0 := (Classical.not_not.mp z1)
    replace H := H.2 z1
    show X 17 4 [vR 0] [] h _
    refine X_thr 1 sg_thr_17_4 rfl (Nat.le_of_ble_eq_true rfl) ?_
    exact H

/-- PP.nodes, row 0 -/
theorem s_13_0 (h : ab_S) (K : ab_O → ab_S → Prop) (H : K (oI (h 5 9)) h) : C 13 [vR 0] h K := by
  show X 13 0 [vR 0] [] h K
  refine X_b 3 3 (L := L_13) rfl rfl rfl ?_
  show X 13 3 [vR 0] [vI (h 5 9)] h _
  refine X_iret (L := L_13) rfl rfl rfl rfl ?_
  exact H

/-- PP.node, row 0 -/
theorem s_14_0 (x1 x2 : Int) (h : ab_S) (K : ab_O → ab_S → Prop) (H : ((x1 < 0 → K (oX 2) (ab_up h 39 0 ((h 39 0) + 1))) ∧ (0 ≤ x1 → ((x1 < h 5 9 → ((x2 < 0 → K (oX 0) (ab_up h 39 0 ((h 39 0) + 1))) ∧ (0 ≤ x2 → ((x2 < 5 → ((-2147483648 ≤ x1 * 5 ∧ x1 * 5 ≤ 2147483647) ∧ (0 ≤ (x1 * 5) + x2 ∧ (x1 * 5) + x2 < 300)) ∧ K (oI (h 19 ((x1 * 5) + x2))) h) ∧ (5 ≤ x2 → K (oX 0) (ab_up h 39 0 ((h 39 0) + 1))))))) ∧ (h 5 9 ≤ x1 → K (oX 2) (ab_up h 39 0 ((h 39 0) + 1))))))) : C 14 [vR 0, vI x1, vI x2] h K := by
  show X 14 0 [vR 0, vI x1, vI x2] [] h K
  refine X_b 1 1 (L := L_14) rfl rfl rfl ?_
  show X 14 1 [vR 0, vI x1, vI x2] [vI x1] h _
  refine X_if (L := L_14) (n' := 7) rfl rfl rfl rfl (fun z1 => ?_) (fun z1 => ?_)
  · have z1 : x1 < 0 := z1
    replace H := H.1 z1
    show X 14 7 [vR 0, vI x1, vI x2] [] h _
    refine X_thr 2 sg_thr_14_7 rfl (Nat.le_of_ble_eq_true rfl) ?_
    exact H
  · have z1 : 0 ≤ x1 := (Int.not_lt.mp z1)
    replace H := H.2 z1
    show X 14 2 [vR 0, vI x1, vI x2] [] h _
    refine X_b 4 6 (L := L_14) rfl rfl rfl ?_
    show X 14 6 [vR 0, vI x1, vI x2] [vI (h 5 9), vI x1] h _
    refine X_icmp (L := L_14) (n' := 12) rfl rfl rfl rfl (fun z2 => ?_) (fun z2 => ?_)
    · have z2 : x1 < h 5 9 := z2
      replace H := H.1 z2
      show X 14 12 [vR 0, vI x1, vI x2] [] h _
      refine X_b 1 13 (L := L_14) rfl rfl rfl ?_
      show X 14 13 [vR 0, vI x1, vI x2] [vI x2] h _
      refine X_if (L := L_14) (n' := 17) rfl rfl rfl rfl (fun z3 => ?_) (fun z3 => ?_)
      · have z3 : x2 < 0 := z3
        replace H := H.1 z3
        show X 14 17 [vR 0, vI x1, vI x2] [] h _
        refine X_thr 0 sg_thr_14_17 rfl (Nat.le_of_ble_eq_true rfl) ?_
        exact H
      · have z3 : 0 ≤ x2 := (Int.not_lt.mp z3)
        replace H := H.2 z3
        show X 14 14 [vR 0, vI x1, vI x2] [] h _
        refine X_b 2 16 (L := L_14) rfl rfl rfl ?_
        show X 14 16 [vR 0, vI x1, vI x2] [vI 5, vI x2] h _
        refine X_icmp (L := L_14) (n' := 22) rfl rfl rfl rfl (fun z4 => ?_) (fun z4 => ?_)
        · have z4 : x2 < 5 := z4
          replace H := H.1 z4
          show X 14 22 [vR 0, vI x1, vI x2] [] h _
          obtain ⟨⟨c5, c6⟩, H⟩ := H
          refine X_b 4 26 (L := L_14) rfl rfl rfl ?_
          show X 14 26 [vR 0, vI x1, vI x2] [vI x2, vI x1, vR 5] h _
          refine X_call 117 [vR 5, vI x1, vI x2] [] rfl (sg_calv rfl rfl rfl rfl rfl rfl rfl rfl rfl rfl rfl) (by decide) ?_
          show X 117 0 [vR 5, vI x1, vI x2] [] h _
          refine X_b 8 8 (L := L_117) rfl rfl rfl ?_
          show (-2147483648 ≤ x1 * 5 ∧ x1 * 5 ≤ 2147483647) ∧ (-2147483648 ≤ (x1 * 5) + x2 ∧ (x1 * 5) + x2 ≤ 2147483647) ∧ (0 ≤ (x1 * 5) + x2 ∧ (x1 * 5) + x2 < 300) ∧ X 117 8 [vR 5, vI x1, vI x2] [vI (h 19 ((x1 * 5) + x2))] h _
          refine ⟨c5, by have := c6; omega, c6, ?_⟩
          refine X_iret (L := L_117) rfl rfl rfl rfl ?_
          show X 14 27 [vR 0, vI x1, vI x2] [vI (h 19 ((x1 * 5) + x2))] h _
          refine X_iret (L := L_14) rfl rfl rfl rfl ?_
          exact H
        · have z4 : 5 ≤ x2 := (Int.not_lt.mp z4)
          replace H := H.2 z4
          show X 14 17 [vR 0, vI x1, vI x2] [] h _
          refine X_thr 0 sg_thr_14_17 rfl (Nat.le_of_ble_eq_true rfl) ?_
          exact H
    · have z2 : h 5 9 ≤ x1 := (Int.not_lt.mp z2)
      replace H := H.2 z2
      show X 14 7 [vR 0, vI x1, vI x2] [] h _
      refine X_thr 2 sg_thr_14_7 rfl (Nat.le_of_ble_eq_true rfl) ?_
      exact H

/-- PP.depth, row 0 -/
theorem s_15_0 (h : ab_S) (K : ab_O → ab_S → Prop) (H : K (oI (h 5 7)) h) : C 15 [vR 0] h K := by
  show X 15 0 [vR 0] [] h K
  refine X_b 3 3 (L := L_15) rfl rfl rfl ?_
  show X 15 3 [vR 0] [vI (h 5 7)] h _
  refine X_iret (L := L_15) rfl rfl rfl rfl ?_
  exact H

/-- PP.dropAutomaton, row 0 -/
theorem s_16_0 (h : ab_S) (K : ab_O → ab_S → Prop) (H : K oV (ab_up (ab_up (ab_up (ab_up (ab_up (ab_up (ab_up h 2 0 0) 15 0 (-1)) 15 1 (-1)) 15 2 (-1)) 15 3 (-1)) 5 7 0) 5 9 0)) : C 16 [vR 0] h K := by
  show X 16 0 [vR 0] [] h K
  refine X_b 6 6 (L := L_16) rfl rfl rfl ?_
  show X 16 6 [vR 0] [vR 4] (ab_up h 2 0 0) _
  refine X_call 92 [vR 4] [] rfl (sg_calv rfl rfl rfl rfl rfl rfl rfl rfl rfl rfl rfl) (by decide) ?_
  show X 92 0 [vR 4] [] (ab_up h 2 0 0) _
  refine X_b 5 5 (L := L_92) rfl rfl rfl ?_
  show X 92 5 [vR 4] [vI (-1), vI (-1), vI (-1), vI (-1), vR 4] (ab_up h 2 0 0) _
  refine X_call 93 [vR 4, vI (-1), vI (-1), vI (-1), vI (-1)] [] rfl (sg_calv rfl rfl rfl rfl rfl rfl rfl rfl rfl rfl rfl) (by decide) ?_
  show X 93 0 [vR 4, vI (-1), vI (-1), vI (-1), vI (-1)] [] (ab_up h 2 0 0) _
  refine X_b 20 20 (L := L_93) rfl rfl rfl ?_
  show (0 ≤ (0 : Int) ∧ (0 : Int) < 4) ∧ (0 ≤ (1 : Int) ∧ (1 : Int) < 4) ∧ (0 ≤ (2 : Int) ∧ (2 : Int) < 4) ∧ (0 ≤ (3 : Int) ∧ (3 : Int) < 4) ∧ X 93 20 [vR 4, vI (-1), vI (-1), vI (-1), vI (-1)] [] (ab_up (ab_up (ab_up (ab_up (ab_up h 2 0 0) 15 0 (-1)) 15 1 (-1)) 15 2 (-1)) 15 3 (-1)) _
  refine ⟨by decide, by decide, by decide, by decide, ?_⟩
  refine X_ret (L := L_93) rfl rfl rfl rfl ?_
  show X 92 6 [vR 4] [] (ab_up (ab_up (ab_up (ab_up (ab_up h 2 0 0) 15 0 (-1)) 15 1 (-1)) 15 2 (-1)) 15 3 (-1)) _
  refine X_ret (L := L_92) rfl rfl rfl rfl ?_
  show X 16 7 [vR 0] [] (ab_up (ab_up (ab_up (ab_up (ab_up h 2 0 0) 15 0 (-1)) 15 1 (-1)) 15 2 (-1)) 15 3 (-1)) _
  refine X_b 2 9 (L := L_16) rfl rfl rfl ?_
  show X 16 9 [vR 0] [vR 5] (ab_up (ab_up (ab_up (ab_up (ab_up h 2 0 0) 15 0 (-1)) 15 1 (-1)) 15 2 (-1)) 15 3 (-1)) _
  refine X_call 116 [vR 5] [] rfl (sg_calv rfl rfl rfl rfl rfl rfl rfl rfl rfl rfl rfl) (by decide) ?_
  show X 116 0 [vR 5] [] (ab_up (ab_up (ab_up (ab_up (ab_up h 2 0 0) 15 0 (-1)) 15 1 (-1)) 15 2 (-1)) 15 3 (-1)) _
  refine X_b 6 6 (L := L_116) rfl rfl rfl ?_
  show X 116 6 [vR 5] [] (ab_up (ab_up (ab_up (ab_up (ab_up (ab_up (ab_up h 2 0 0) 15 0 (-1)) 15 1 (-1)) 15 2 (-1)) 15 3 (-1)) 5 7 0) 5 9 0) _
  refine X_ret (L := L_116) rfl rfl rfl rfl ?_
  show X 16 10 [vR 0] [] (ab_up (ab_up (ab_up (ab_up (ab_up (ab_up (ab_up h 2 0 0) 15 0 (-1)) 15 1 (-1)) 15 2 (-1)) 15 3 (-1)) 5 7 0) 5 9 0) _
  refine X_ret (L := L_16) rfl rfl rfl rfl ?_
  exact H

/-- PP.requireAutomaton, row 0 -/
theorem s_17_0 (h : ab_S) (K : ab_O → ab_S → Prop) (H : ((¬ h 2 0 = 0 → K oV h) ∧ (h 2 0 = 0 → K (oX 1) (ab_up h 39 0 ((h 39 0) + 1))))) : C 17 [vR 0] h K := by
  show X 17 0 [vR 0] [] h K
  refine X_b 3 3 (L := L_17) rfl rfl rfl ?_
  show X 17 3 [vR 0] [vI (h 2 0)] h _
  refine X_if (L := L_17) (n' := 9) rfl rfl rfl rfl (fun z1 => ?_) (fun z1 => ?_)
  · have z1 : ¬ h 2 0 = 0 := z1
    replace H := H.1 z1
    show X 17 9 [vR 0] [] h _
    refine X_ret (L := L_17) rfl rfl rfl rfl ?_
    exact H
  · have z1 : h 2 0 = 0 := (Classical.not_not.mp z1)
    replace H := H.2 z1
    show X 17 4 [vR 0] [] h _
    refine X_thr 1 sg_thr_17_4 rfl (Nat.le_of_ble_eq_true rfl) ?_
    exact H

/-- PP.requireState, row 0 -/
theorem s_18_0 (x1 : Int) (h : ab_S) (K : ab_O → ab_S → Prop) (H : ((x1 < 0 → K (oX 2) (ab_up h 39 0 ((h 39 0) + 1))) ∧ (0 ≤ x1 → ((x1 < h 2 0 → K oV h) ∧ (h 2 0 ≤ x1 → K (oX 2) (ab_up h 39 0 ((h 39 0) + 1))))))) : C 18 [vR 0, vI x1] h K := by
  show X 18 0 [vR 0, vI x1] [] h K
  refine X_b 1 1 (L := L_18) rfl rfl rfl ?_
  show X 18 1 [vR 0, vI x1] [vI x1] h _
  refine X_if (L := L_18) (n' := 7) rfl rfl rfl rfl (fun z1 => ?_) (fun z1 => ?_)
  · have z1 : x1 < 0 := z1
    replace H := H.1 z1
    show X 18 7 [vR 0, vI x1] [] h _
    refine X_thr 2 sg_thr_18_7 rfl (Nat.le_of_ble_eq_true rfl) ?_
    exact H
  · have z1 : 0 ≤ x1 := (Int.not_lt.mp z1)
    replace H := H.2 z1
    show X 18 2 [vR 0, vI x1] [] h _
    refine X_b 4 6 (L := L_18) rfl rfl rfl ?_
    show X 18 6 [vR 0, vI x1] [vI (h 2 0), vI x1] h _
    refine X_icmp (L := L_18) (n' := 12) rfl rfl rfl rfl (fun z2 => ?_) (fun z2 => ?_)
    · have z2 : x1 < h 2 0 := z2
      replace H := H.1 z2
      show X 18 12 [vR 0, vI x1] [] h _
      refine X_ret (L := L_18) rfl rfl rfl rfl ?_
      exact H
    · have z2 : h 2 0 ≤ x1 := (Int.not_lt.mp z2)
      replace H := H.2 z2
      show X 18 7 [vR 0, vI x1] [] h _
      refine X_thr 2 sg_thr_18_7 rfl (Nat.le_of_ble_eq_true rfl) ?_
      exact H

/-- PP.requirePlace, row 0 -/
theorem s_19_0 (x1 x2 : Int) (h : ab_S) (K : ab_O → ab_S → Prop) (H : ((x1 < 0 → K (oX 2) (ab_up h 39 0 ((h 39 0) + 1))) ∧ (0 ≤ x1 → ((x1 < h 2 0 → ((x2 < 0 → K (oX 2) (ab_up h 39 0 ((h 39 0) + 1))) ∧ (0 ≤ x2 → ((x2 < 10 → K oV h) ∧ (10 ≤ x2 → K (oX 2) (ab_up h 39 0 ((h 39 0) + 1))))))) ∧ (h 2 0 ≤ x1 → K (oX 2) (ab_up h 39 0 ((h 39 0) + 1))))))) : C 19 [vR 0, vI x1, vI x2] h K := by
  show X 19 0 [vR 0, vI x1, vI x2] [] h K
  refine X_b 2 2 (L := L_19) rfl rfl rfl ?_
  show X 19 2 [vR 0, vI x1, vI x2] [vI x1, vR 0] h _
  refine X_call 18 [vR 0, vI x1] [] rfl (sg_calv rfl rfl rfl rfl rfl rfl rfl rfl rfl rfl rfl) (by decide) ?_
  show X 18 0 [vR 0, vI x1] [] h _
  refine X_b 1 1 (L := L_18) rfl rfl rfl ?_
  show X 18 1 [vR 0, vI x1] [vI x1] h _
  refine X_if (L := L_18) (n' := 7) rfl rfl rfl rfl (fun z1 => ?_) (fun z1 => ?_)
  · have z1 : x1 < 0 := z1
    replace H := H.1 z1
    show X 18 7 [vR 0, vI x1] [] h _
    refine X_thr 2 sg_thr_18_7 rfl (Nat.le_of_ble_eq_true rfl) ?_
    exact H
  · have z1 : 0 ≤ x1 := (Int.not_lt.mp z1)
    replace H := H.2 z1
    show X 18 2 [vR 0, vI x1] [] h _
    refine X_b 4 6 (L := L_18) rfl rfl rfl ?_
    show X 18 6 [vR 0, vI x1] [vI (h 2 0), vI x1] h _
    refine X_icmp (L := L_18) (n' := 12) rfl rfl rfl rfl (fun z2 => ?_) (fun z2 => ?_)
    · have z2 : x1 < h 2 0 := z2
      replace H := H.1 z2
      show X 18 12 [vR 0, vI x1] [] h _
      refine X_ret (L := L_18) rfl rfl rfl rfl ?_
      show X 19 3 [vR 0, vI x1, vI x2] [] h _
      refine X_b 1 4 (L := L_19) rfl rfl rfl ?_
      show X 19 4 [vR 0, vI x1, vI x2] [vI x2] h _
      refine X_if (L := L_19) (n' := 8) rfl rfl rfl rfl (fun z3 => ?_) (fun z3 => ?_)
      · have z3 : x2 < 0 := z3
        replace H := H.1 z3
        show X 19 8 [vR 0, vI x1, vI x2] [] h _
        refine X_thr 2 sg_thr_19_8 rfl (Nat.le_of_ble_eq_true rfl) ?_
        exact H
      · have z3 : 0 ≤ x2 := (Int.not_lt.mp z3)
        replace H := H.2 z3
        show X 19 5 [vR 0, vI x1, vI x2] [] h _
        refine X_b 2 7 (L := L_19) rfl rfl rfl ?_
        show X 19 7 [vR 0, vI x1, vI x2] [vI 10, vI x2] h _
        refine X_icmp (L := L_19) (n' := 13) rfl rfl rfl rfl (fun z4 => ?_) (fun z4 => ?_)
        · have z4 : x2 < 10 := z4
          replace H := H.1 z4
          show X 19 13 [vR 0, vI x1, vI x2] [] h _
          refine X_ret (L := L_19) rfl rfl rfl rfl ?_
          exact H
        · have z4 : 10 ≤ x2 := (Int.not_lt.mp z4)
          replace H := H.2 z4
          show X 19 8 [vR 0, vI x1, vI x2] [] h _
          refine X_thr 2 sg_thr_19_8 rfl (Nat.le_of_ble_eq_true rfl) ?_
          exact H
    · have z2 : h 2 0 ≤ x1 := (Int.not_lt.mp z2)
      replace H := H.2 z2
      show X 18 7 [vR 0, vI x1] [] h _
      refine X_thr 2 sg_thr_18_7 rfl (Nat.le_of_ble_eq_true rfl) ?_
      exact H

/-- PP.requireItem, row 0 -/
theorem s_20_0 (x1 x2 x3 x4 : Int) (h : ab_S) (K : ab_O → ab_S → Prop) (H : ((x1 < 0 → K (oX 2) (ab_up h 39 0 ((h 39 0) + 1))) ∧ (0 ≤ x1 → ((x1 < h 2 0 → ((x2 < 0 → K (oX 0) (ab_up h 39 0 ((h 39 0) + 1))) ∧ (0 ≤ x2 → ((x2 ≤ h 1 0 → ((x3 < 0 → K (oX 0) (ab_up h 39 0 ((h 39 0) + 1))) ∧ (0 ≤ x3 → ((0 ≤ x2 ∧ x2 < 9)) ∧ ((h 8 x2 < x3 → K (oX 0) (ab_up h 39 0 ((h 39 0) + 1))) ∧ (x3 ≤ h 8 x2 → ((x4 < 4 → K (oX 0) (ab_up h 39 0 ((h 39 0) + 1))) ∧ (4 ≤ x4 → ((9 < x4 → K (oX 0) (ab_up h 39 0 ((h 39 0) + 1))) ∧ (x4 ≤ 9 → K oV h))))))))) ∧ (h 1 0 < x2 → K (oX 0) (ab_up h 39 0 ((h 39 0) + 1))))))) ∧ (h 2 0 ≤ x1 → K (oX 2) (ab_up h 39 0 ((h 39 0) + 1))))))) : C 20 [vR 0, vI x1, vI x2, vI x3, vI x4] h K := by
  show X 20 0 [vR 0, vI x1, vI x2, vI x3, vI x4] [] h K
  refine X_b 2 2 (L := L_20) rfl rfl rfl ?_
  show X 20 2 [vR 0, vI x1, vI x2, vI x3, vI x4] [vI x1, vR 0] h _
  refine X_call 18 [vR 0, vI x1] [] rfl (sg_calv rfl rfl rfl rfl rfl rfl rfl rfl rfl rfl rfl) (by decide) ?_
  show X 18 0 [vR 0, vI x1] [] h _
  refine X_b 1 1 (L := L_18) rfl rfl rfl ?_
  show X 18 1 [vR 0, vI x1] [vI x1] h _
  refine X_if (L := L_18) (n' := 7) rfl rfl rfl rfl (fun z1 => ?_) (fun z1 => ?_)
  · have z1 : x1 < 0 := z1
    replace H := H.1 z1
    show X 18 7 [vR 0, vI x1] [] h _
    refine X_thr 2 sg_thr_18_7 rfl (Nat.le_of_ble_eq_true rfl) ?_
    exact H
  · have z1 : 0 ≤ x1 := (Int.not_lt.mp z1)
    replace H := H.2 z1
    show X 18 2 [vR 0, vI x1] [] h _
    refine X_b 4 6 (L := L_18) rfl rfl rfl ?_
    show X 18 6 [vR 0, vI x1] [vI (h 2 0), vI x1] h _
    refine X_icmp (L := L_18) (n' := 12) rfl rfl rfl rfl (fun z2 => ?_) (fun z2 => ?_)
    · have z2 : x1 < h 2 0 := z2
      replace H := H.1 z2
      show X 18 12 [vR 0, vI x1] [] h _
      refine X_ret (L := L_18) rfl rfl rfl rfl ?_
      show X 20 3 [vR 0, vI x1, vI x2, vI x3, vI x4] [] h _
      refine X_b 4 7 (L := L_20) rfl rfl rfl ?_
      show X 20 7 [vR 0, vI x1, vI x2, vI x3, vI x4] [vI x4, vI x3, vI x2, vR 0] h _
      refine X_call 21 [vR 0, vI x2, vI x3, vI x4] [] rfl (sg_calv rfl rfl rfl rfl rfl rfl rfl rfl rfl rfl rfl) (by decide) ?_
      show X 21 0 [vR 0, vI x2, vI x3, vI x4] [] h _
      refine X_b 1 1 (L := L_21) rfl rfl rfl ?_
      show X 21 1 [vR 0, vI x2, vI x3, vI x4] [vI x2] h _
      refine X_if (L := L_21) (n' := 7) rfl rfl rfl rfl (fun z3 => ?_) (fun z3 => ?_)
      · have z3 : x2 < 0 := z3
        replace H := H.1 z3
        show X 21 7 [vR 0, vI x2, vI x3, vI x4] [] h _
        refine X_b 1 8 (L := L_21) rfl rfl rfl ?_
        show X 21 8 [vR 0, vI x2, vI x3, vI x4] [vI 0] h _
        refine X_zret (L := L_21) rfl rfl rfl rfl (by decide) ?_
        show X 20 8 [vR 0, vI x1, vI x2, vI x3, vI x4] [vI 0] h _
        refine X_if (L := L_20) (n' := 14) rfl rfl rfl rfl (fun z => absurd z (show ¬ (¬ (0 : Int) = (0 : Int)) by decide)) (fun _ => ?_)
        show X 20 9 [vR 0, vI x1, vI x2, vI x3, vI x4] [] h _
        refine X_thr 0 sg_thr_20_9 rfl (Nat.le_of_ble_eq_true rfl) ?_
        exact H
      · have z3 : 0 ≤ x2 := (Int.not_lt.mp z3)
        replace H := H.2 z3
        show X 21 2 [vR 0, vI x2, vI x3, vI x4] [] h _
        refine X_b 3 5 (L := L_21) rfl rfl rfl ?_
        show X 21 5 [vR 0, vI x2, vI x3, vI x4] [vR 1, vI x2] h _
        refine X_call 109 [vR 1] [vI x2] rfl (sg_calv rfl rfl rfl rfl rfl rfl rfl rfl rfl rfl rfl) (by decide) ?_
        show X 109 0 [vR 1] [] h _
        refine X_b 2 2 (L := L_109) rfl rfl rfl ?_
        show X 109 2 [vR 1] [vI (h 1 0)] h _
        refine X_iret (L := L_109) rfl rfl rfl rfl ?_
        show X 21 6 [vR 0, vI x2, vI x3, vI x4] [vI (h 1 0), vI x2] h _
        refine X_icmp (L := L_21) (n' := 9) rfl rfl rfl rfl (fun z4 => ?_) (fun z4 => ?_)
        · have z4 : x2 ≤ h 1 0 := z4
          replace H := H.1 z4
          show X 21 9 [vR 0, vI x2, vI x3, vI x4] [] h _
          refine X_b 1 10 (L := L_21) rfl rfl rfl ?_
          show X 21 10 [vR 0, vI x2, vI x3, vI x4] [vI x3] h _
          refine X_if (L := L_21) (n' := 26) rfl rfl rfl rfl (fun z5 => ?_) (fun z5 => ?_)
          · have z5 : x3 < 0 := z5
            replace H := H.1 z5
            show X 21 26 [vR 0, vI x2, vI x3, vI x4] [] h _
            refine X_b 1 27 (L := L_21) rfl rfl rfl ?_
            show X 21 27 [vR 0, vI x2, vI x3, vI x4] [vI 0] h _
            refine X_zret (L := L_21) rfl rfl rfl rfl (by decide) ?_
            show X 20 8 [vR 0, vI x1, vI x2, vI x3, vI x4] [vI 0] h _
            refine X_if (L := L_20) (n' := 14) rfl rfl rfl rfl (fun z => absurd z (show ¬ (¬ (0 : Int) = (0 : Int)) by decide)) (fun _ => ?_)
            show X 20 9 [vR 0, vI x1, vI x2, vI x3, vI x4] [] h _
            refine X_thr 0 sg_thr_20_9 rfl (Nat.le_of_ble_eq_true rfl) ?_
            exact H
          · have z5 : 0 ≤ x3 := (Int.not_lt.mp z5)
            replace H := H.2 z5
            show X 21 11 [vR 0, vI x2, vI x3, vI x4] [] h _
            obtain ⟨c6, H⟩ := H
            refine X_b 6 17 (L := L_21) rfl rfl rfl ?_
            show (0 ≤ x2 ∧ x2 < 9) ∧ X 21 17 [vR 0, vI x2, vI x3, vI x4] [vI (h 8 x2), vI x3] h _
            refine ⟨c6, ?_⟩
            refine X_icmp (L := L_21) (n' := 26) rfl rfl rfl rfl (fun z7 => ?_) (fun z7 => ?_)
            · have z7 : h 8 x2 < x3 := z7
              replace H := H.1 z7
              show X 21 26 [vR 0, vI x2, vI x3, vI x4] [] h _
              refine X_b 1 27 (L := L_21) rfl rfl rfl ?_
              show X 21 27 [vR 0, vI x2, vI x3, vI x4] [vI 0] h _
              refine X_zret (L := L_21) rfl rfl rfl rfl (by decide) ?_
              show X 20 8 [vR 0, vI x1, vI x2, vI x3, vI x4] [vI 0] h _
              refine X_if (L := L_20) (n' := 14) rfl rfl rfl rfl (fun z => absurd z (show ¬ (¬ (0 : Int) = (0 : Int)) by decide)) (fun _ => ?_)
              show X 20 9 [vR 0, vI x1, vI x2, vI x3, vI x4] [] h _
              refine X_thr 0 sg_thr_20_9 rfl (Nat.le_of_ble_eq_true rfl) ?_
              exact H
            · have z7 : x3 ≤ h 8 x2 := (Int.not_lt.mp z7)
              replace H := H.2 z7
              show X 21 18 [vR 0, vI x2, vI x3, vI x4] [] h _
              refine X_b 2 20 (L := L_21) rfl rfl rfl ?_
              show X 21 20 [vR 0, vI x2, vI x3, vI x4] [vI 4, vI x4] h _
              refine X_icmp (L := L_21) (n' := 26) rfl rfl rfl rfl (fun z8 => ?_) (fun z8 => ?_)
              · have z8 : x4 < 4 := z8
                replace H := H.1 z8
                show X 21 26 [vR 0, vI x2, vI x3, vI x4] [] h _
                refine X_b 1 27 (L := L_21) rfl rfl rfl ?_
                show X 21 27 [vR 0, vI x2, vI x3, vI x4] [vI 0] h _
                refine X_zret (L := L_21) rfl rfl rfl rfl (by decide) ?_
                show X 20 8 [vR 0, vI x1, vI x2, vI x3, vI x4] [vI 0] h _
                refine X_if (L := L_20) (n' := 14) rfl rfl rfl rfl (fun z => absurd z (show ¬ (¬ (0 : Int) = (0 : Int)) by decide)) (fun _ => ?_)
                show X 20 9 [vR 0, vI x1, vI x2, vI x3, vI x4] [] h _
                refine X_thr 0 sg_thr_20_9 rfl (Nat.le_of_ble_eq_true rfl) ?_
                exact H
              · have z8 : 4 ≤ x4 := (Int.not_lt.mp z8)
                replace H := H.2 z8
                show X 21 21 [vR 0, vI x2, vI x3, vI x4] [] h _
                refine X_b 2 23 (L := L_21) rfl rfl rfl ?_
                show X 21 23 [vR 0, vI x2, vI x3, vI x4] [vI 9, vI x4] h _
                refine X_icmp (L := L_21) (n' := 26) rfl rfl rfl rfl (fun z9 => ?_) (fun z9 => ?_)
                · have z9 : 9 < x4 := z9
                  replace H := H.1 z9
                  show X 21 26 [vR 0, vI x2, vI x3, vI x4] [] h _
                  refine X_b 1 27 (L := L_21) rfl rfl rfl ?_
                  show X 21 27 [vR 0, vI x2, vI x3, vI x4] [vI 0] h _
                  refine X_zret (L := L_21) rfl rfl rfl rfl (by decide) ?_
                  show X 20 8 [vR 0, vI x1, vI x2, vI x3, vI x4] [vI 0] h _
                  refine X_if (L := L_20) (n' := 14) rfl rfl rfl rfl (fun z => absurd z (show ¬ (¬ (0 : Int) = (0 : Int)) by decide)) (fun _ => ?_)
                  show X 20 9 [vR 0, vI x1, vI x2, vI x3, vI x4] [] h _
                  refine X_thr 0 sg_thr_20_9 rfl (Nat.le_of_ble_eq_true rfl) ?_
                  exact H
                · have z9 : x4 ≤ 9 := (Int.not_lt.mp z9)
                  replace H := H.2 z9
                  show X 21 24 [vR 0, vI x2, vI x3, vI x4] [] h _
                  refine X_b 1 25 (L := L_21) rfl rfl rfl ?_
                  show X 21 25 [vR 0, vI x2, vI x3, vI x4] [vI 1] h _
                  refine X_goto (L := L_21) (n' := 27) rfl rfl rfl rfl ?_
                  show X 21 27 [vR 0, vI x2, vI x3, vI x4] [vI 1] h _
                  refine X_zret (L := L_21) rfl rfl rfl rfl (by decide) ?_
                  show X 20 8 [vR 0, vI x1, vI x2, vI x3, vI x4] [vI 1] h _
                  refine X_if (L := L_20) (n' := 14) rfl rfl rfl rfl (fun _ => ?_) (fun z => absurd (show ¬ (1 : Int) = (0 : Int) by decide) z)
                  show X 20 14 [vR 0, vI x1, vI x2, vI x3, vI x4] [] h _
                  refine X_ret (L := L_20) rfl rfl rfl rfl ?_
                  exact H
        · have z4 : h 1 0 < x2 := (Int.not_le.mp z4)
          replace H := H.2 z4
          show X 21 7 [vR 0, vI x2, vI x3, vI x4] [] h _
          refine X_b 1 8 (L := L_21) rfl rfl rfl ?_
          show X 21 8 [vR 0, vI x2, vI x3, vI x4] [vI 0] h _
          refine X_zret (L := L_21) rfl rfl rfl rfl (by decide) ?_
          show X 20 8 [vR 0, vI x1, vI x2, vI x3, vI x4] [vI 0] h _
          refine X_if (L := L_20) (n' := 14) rfl rfl rfl rfl (fun z => absurd z (show ¬ (¬ (0 : Int) = (0 : Int)) by decide)) (fun _ => ?_)
          show X 20 9 [vR 0, vI x1, vI x2, vI x3, vI x4] [] h _
          refine X_thr 0 sg_thr_20_9 rfl (Nat.le_of_ble_eq_true rfl) ?_
          exact H
    · have z2 : h 2 0 ≤ x1 := (Int.not_lt.mp z2)
      replace H := H.2 z2
      show X 18 7 [vR 0, vI x1] [] h _
      refine X_thr 2 sg_thr_18_7 rfl (Nat.le_of_ble_eq_true rfl) ?_
      exact H

/-- PP.isItem, row 0 -/
theorem s_21_0 (x1 x2 x3 : Int) (h : ab_S) (K : ab_O → ab_S → Prop) (H : ((x1 < 0 → K (oI 0) h) ∧ (0 ≤ x1 → ((x1 ≤ h 1 0 → ((x2 < 0 → K (oI 0) h) ∧ (0 ≤ x2 → ((0 ≤ x1 ∧ x1 < 9)) ∧ ((h 8 x1 < x2 → K (oI 0) h) ∧ (x2 ≤ h 8 x1 → ((x3 < 4 → K (oI 0) h) ∧ (4 ≤ x3 → ((9 < x3 → K (oI 0) h) ∧ (x3 ≤ 9 → K (oI 1) h))))))))) ∧ (h 1 0 < x1 → K (oI 0) h))))) : C 21 [vR 0, vI x1, vI x2, vI x3] h K := by
  show X 21 0 [vR 0, vI x1, vI x2, vI x3] [] h K
  refine X_b 1 1 (L := L_21) rfl rfl rfl ?_
  show X 21 1 [vR 0, vI x1, vI x2, vI x3] [vI x1] h _
  refine X_if (L := L_21) (n' := 7) rfl rfl rfl rfl (fun z1 => ?_) (fun z1 => ?_)
  · have z1 : x1 < 0 := z1
    replace H := H.1 z1
    show X 21 7 [vR 0, vI x1, vI x2, vI x3] [] h _
    refine X_b 1 8 (L := L_21) rfl rfl rfl ?_
    show X 21 8 [vR 0, vI x1, vI x2, vI x3] [vI 0] h _
    refine X_zret (L := L_21) rfl rfl rfl rfl (by decide) ?_
    exact H
  · have z1 : 0 ≤ x1 := (Int.not_lt.mp z1)
    replace H := H.2 z1
    show X 21 2 [vR 0, vI x1, vI x2, vI x3] [] h _
    refine X_b 3 5 (L := L_21) rfl rfl rfl ?_
    show X 21 5 [vR 0, vI x1, vI x2, vI x3] [vR 1, vI x1] h _
    refine X_call 109 [vR 1] [vI x1] rfl (sg_calv rfl rfl rfl rfl rfl rfl rfl rfl rfl rfl rfl) (by decide) ?_
    show X 109 0 [vR 1] [] h _
    refine X_b 2 2 (L := L_109) rfl rfl rfl ?_
    show X 109 2 [vR 1] [vI (h 1 0)] h _
    refine X_iret (L := L_109) rfl rfl rfl rfl ?_
    show X 21 6 [vR 0, vI x1, vI x2, vI x3] [vI (h 1 0), vI x1] h _
    refine X_icmp (L := L_21) (n' := 9) rfl rfl rfl rfl (fun z2 => ?_) (fun z2 => ?_)
    · have z2 : x1 ≤ h 1 0 := z2
      replace H := H.1 z2
      show X 21 9 [vR 0, vI x1, vI x2, vI x3] [] h _
      refine X_b 1 10 (L := L_21) rfl rfl rfl ?_
      show X 21 10 [vR 0, vI x1, vI x2, vI x3] [vI x2] h _
      refine X_if (L := L_21) (n' := 26) rfl rfl rfl rfl (fun z3 => ?_) (fun z3 => ?_)
      · have z3 : x2 < 0 := z3
        replace H := H.1 z3
        show X 21 26 [vR 0, vI x1, vI x2, vI x3] [] h _
        refine X_b 1 27 (L := L_21) rfl rfl rfl ?_
        show X 21 27 [vR 0, vI x1, vI x2, vI x3] [vI 0] h _
        refine X_zret (L := L_21) rfl rfl rfl rfl (by decide) ?_
        exact H
      · have z3 : 0 ≤ x2 := (Int.not_lt.mp z3)
        replace H := H.2 z3
        show X 21 11 [vR 0, vI x1, vI x2, vI x3] [] h _
        obtain ⟨c4, H⟩ := H
        refine X_b 6 17 (L := L_21) rfl rfl rfl ?_
        show (0 ≤ x1 ∧ x1 < 9) ∧ X 21 17 [vR 0, vI x1, vI x2, vI x3] [vI (h 8 x1), vI x2] h _
        refine ⟨c4, ?_⟩
        refine X_icmp (L := L_21) (n' := 26) rfl rfl rfl rfl (fun z5 => ?_) (fun z5 => ?_)
        · have z5 : h 8 x1 < x2 := z5
          replace H := H.1 z5
          show X 21 26 [vR 0, vI x1, vI x2, vI x3] [] h _
          refine X_b 1 27 (L := L_21) rfl rfl rfl ?_
          show X 21 27 [vR 0, vI x1, vI x2, vI x3] [vI 0] h _
          refine X_zret (L := L_21) rfl rfl rfl rfl (by decide) ?_
          exact H
        · have z5 : x2 ≤ h 8 x1 := (Int.not_lt.mp z5)
          replace H := H.2 z5
          show X 21 18 [vR 0, vI x1, vI x2, vI x3] [] h _
          refine X_b 2 20 (L := L_21) rfl rfl rfl ?_
          show X 21 20 [vR 0, vI x1, vI x2, vI x3] [vI 4, vI x3] h _
          refine X_icmp (L := L_21) (n' := 26) rfl rfl rfl rfl (fun z6 => ?_) (fun z6 => ?_)
          · have z6 : x3 < 4 := z6
            replace H := H.1 z6
            show X 21 26 [vR 0, vI x1, vI x2, vI x3] [] h _
            refine X_b 1 27 (L := L_21) rfl rfl rfl ?_
            show X 21 27 [vR 0, vI x1, vI x2, vI x3] [vI 0] h _
            refine X_zret (L := L_21) rfl rfl rfl rfl (by decide) ?_
            exact H
          · have z6 : 4 ≤ x3 := (Int.not_lt.mp z6)
            replace H := H.2 z6
            show X 21 21 [vR 0, vI x1, vI x2, vI x3] [] h _
            refine X_b 2 23 (L := L_21) rfl rfl rfl ?_
            show X 21 23 [vR 0, vI x1, vI x2, vI x3] [vI 9, vI x3] h _
            refine X_icmp (L := L_21) (n' := 26) rfl rfl rfl rfl (fun z7 => ?_) (fun z7 => ?_)
            · have z7 : 9 < x3 := z7
              replace H := H.1 z7
              show X 21 26 [vR 0, vI x1, vI x2, vI x3] [] h _
              refine X_b 1 27 (L := L_21) rfl rfl rfl ?_
              show X 21 27 [vR 0, vI x1, vI x2, vI x3] [vI 0] h _
              refine X_zret (L := L_21) rfl rfl rfl rfl (by decide) ?_
              exact H
            · have z7 : x3 ≤ 9 := (Int.not_lt.mp z7)
              replace H := H.2 z7
              show X 21 24 [vR 0, vI x1, vI x2, vI x3] [] h _
              refine X_b 1 25 (L := L_21) rfl rfl rfl ?_
              show X 21 25 [vR 0, vI x1, vI x2, vI x3] [vI 1] h _
              refine X_goto (L := L_21) (n' := 27) rfl rfl rfl rfl ?_
              show X 21 27 [vR 0, vI x1, vI x2, vI x3] [vI 1] h _
              refine X_zret (L := L_21) rfl rfl rfl rfl (by decide) ?_
              exact H
    · have z2 : h 1 0 < x1 := (Int.not_le.mp z2)
      replace H := H.2 z2
      show X 21 7 [vR 0, vI x1, vI x2, vI x3] [] h _
      refine X_b 1 8 (L := L_21) rfl rfl rfl ?_
      show X 21 8 [vR 0, vI x1, vI x2, vI x3] [vI 0] h _
      refine X_zret (L := L_21) rfl rfl rfl rfl (by decide) ?_
      exact H

/-- PP.isEntry, row 0 -/
theorem s_22_0 (x1 : Int) (h : ab_S) (K : ab_O → ab_S → Prop) (H : ((x1 = (-1) → K (oI 1) h) ∧ (¬ x1 = (-1) → ((¬ x1 = 200 → ((x1 < 100 → ((x1 < 0 → K (oI 0) h) ∧ (0 ≤ x1 → ((h 2 0 ≤ x1 → K (oI 0) h) ∧ (x1 < h 2 0 → K (oI 1) h))))) ∧ (100 ≤ x1 → ((-2147483648 ≤ x1 - 100 ∧ x1 - 100 ≤ 2147483647)) ∧ ((h 1 0 < x1 - 100 → K (oI 0) h) ∧ (x1 - 100 ≤ h 1 0 → K (oI 1) h))))) ∧ (x1 = 200 → K (oI 1) h))))) : C 22 [vR 0, vI x1] h K := by
  show X 22 0 [vR 0, vI x1] [] h K
  refine X_b 2 2 (L := L_22) rfl rfl rfl ?_
  show X 22 2 [vR 0, vI x1] [vI (-1), vI x1] h _
  refine X_icmp (L := L_22) (n' := 6) rfl rfl rfl rfl (fun z1 => ?_) (fun z1 => ?_)
  · have z1 : x1 = (-1) := z1
    replace H := H.1 z1
    show X 22 6 [vR 0, vI x1] [] h _
    refine X_b 1 7 (L := L_22) rfl rfl rfl ?_
    show X 22 7 [vR 0, vI x1] [vI 1] h _
    refine X_zret (L := L_22) rfl rfl rfl rfl (by decide) ?_
    exact H
  · have z1 : ¬ x1 = (-1) := z1
    replace H := H.2 z1
    show X 22 3 [vR 0, vI x1] [] h _
    refine X_b 2 5 (L := L_22) rfl rfl rfl ?_
    show X 22 5 [vR 0, vI x1] [vI 200, vI x1] h _
    refine X_icmp (L := L_22) (n' := 8) rfl rfl rfl rfl (fun z2 => ?_) (fun z2 => ?_)
    · have z2 : ¬ x1 = 200 := z2
      replace H := H.1 z2
      show X 22 8 [vR 0, vI x1] [] h _
      refine X_b 2 10 (L := L_22) rfl rfl rfl ?_
      show X 22 10 [vR 0, vI x1] [vI 100, vI x1] h _
      refine X_icmp (L := L_22) (n' := 22) rfl rfl rfl rfl (fun z3 => ?_) (fun z3 => ?_)
      · have z3 : x1 < 100 := z3
        replace H := H.1 z3
        show X 22 22 [vR 0, vI x1] [] h _
        refine X_b 1 23 (L := L_22) rfl rfl rfl ?_
        show X 22 23 [vR 0, vI x1] [vI x1] h _
        refine X_if (L := L_22) (n' := 31) rfl rfl rfl rfl (fun z4 => ?_) (fun z4 => ?_)
        · have z4 : x1 < 0 := z4
          replace H := H.1 z4
          show X 22 31 [vR 0, vI x1] [] h _
          refine X_b 1 32 (L := L_22) rfl rfl rfl ?_
          show X 22 32 [vR 0, vI x1] [vI 0] h _
          refine X_zret (L := L_22) rfl rfl rfl rfl (by decide) ?_
          exact H
        · have z4 : 0 ≤ x1 := (Int.not_lt.mp z4)
          replace H := H.2 z4
          show X 22 24 [vR 0, vI x1] [] h _
          refine X_b 4 28 (L := L_22) rfl rfl rfl ?_
          show X 22 28 [vR 0, vI x1] [vI (h 2 0), vI x1] h _
          refine X_icmp (L := L_22) (n' := 31) rfl rfl rfl rfl (fun z5 => ?_) (fun z5 => ?_)
          · have z5 : h 2 0 ≤ x1 := z5
            replace H := H.1 z5
            show X 22 31 [vR 0, vI x1] [] h _
            refine X_b 1 32 (L := L_22) rfl rfl rfl ?_
            show X 22 32 [vR 0, vI x1] [vI 0] h _
            refine X_zret (L := L_22) rfl rfl rfl rfl (by decide) ?_
            exact H
          · have z5 : x1 < h 2 0 := (Int.not_le.mp z5)
            replace H := H.2 z5
            show X 22 29 [vR 0, vI x1] [] h _
            refine X_b 1 30 (L := L_22) rfl rfl rfl ?_
            show X 22 30 [vR 0, vI x1] [vI 1] h _
            refine X_goto (L := L_22) (n' := 32) rfl rfl rfl rfl ?_
            show X 22 32 [vR 0, vI x1] [vI 1] h _
            refine X_zret (L := L_22) rfl rfl rfl rfl (by decide) ?_
            exact H
      · have z3 : 100 ≤ x1 := (Int.not_lt.mp z3)
        replace H := H.2 z3
        show X 22 11 [vR 0, vI x1] [] h _
        obtain ⟨c6, H⟩ := H
        refine X_b 5 16 (L := L_22) rfl rfl rfl ?_
        show (-2147483648 ≤ x1 - 100 ∧ x1 - 100 ≤ 2147483647) ∧ X 22 16 [vR 0, vI x1] [vR 1, vI (x1 - 100)] h _
        refine ⟨c6, ?_⟩
        refine X_call 109 [vR 1] [vI (x1 - 100)] rfl (sg_calv rfl rfl rfl rfl rfl rfl rfl rfl rfl rfl rfl) (by decide) ?_
        show X 109 0 [vR 1] [] h _
        refine X_b 2 2 (L := L_109) rfl rfl rfl ?_
        show X 109 2 [vR 1] [vI (h 1 0)] h _
        refine X_iret (L := L_109) rfl rfl rfl rfl ?_
        show X 22 17 [vR 0, vI x1] [vI (h 1 0), vI (x1 - 100)] h _
        refine X_icmp (L := L_22) (n' := 20) rfl rfl rfl rfl (fun z7 => ?_) (fun z7 => ?_)
        · have z7 : h 1 0 < x1 - 100 := z7
          replace H := H.1 z7
          show X 22 20 [vR 0, vI x1] [] h _
          refine X_b 1 21 (L := L_22) rfl rfl rfl ?_
          show X 22 21 [vR 0, vI x1] [vI 0] h _
          refine X_zret (L := L_22) rfl rfl rfl rfl (by decide) ?_
          exact H
        · have z7 : x1 - 100 ≤ h 1 0 := (Int.not_lt.mp z7)
          replace H := H.2 z7
          show X 22 18 [vR 0, vI x1] [] h _
          refine X_b 1 19 (L := L_22) rfl rfl rfl ?_
          show X 22 19 [vR 0, vI x1] [vI 1] h _
          refine X_goto (L := L_22) (n' := 21) rfl rfl rfl rfl ?_
          show X 22 21 [vR 0, vI x1] [vI 1] h _
          refine X_zret (L := L_22) rfl rfl rfl rfl (by decide) ?_
          exact H
    · have z2 : x1 = 200 := (Classical.not_not.mp z2)
      replace H := H.2 z2
      show X 22 6 [vR 0, vI x1] [] h _
      refine X_b 1 7 (L := L_22) rfl rfl rfl ?_
      show X 22 7 [vR 0, vI x1] [vI 1] h _
      refine X_zret (L := L_22) rfl rfl rfl rfl (by decide) ?_
      exact H

/-- PP.isNonterminal, row 0 -/
theorem s_23_0 (x0 : Int) (h : ab_S) (K : ab_O → ab_S → Prop) (H : ((x0 < 0 → K (oI 0) h) ∧ (0 ≤ x0 → ((4 ≤ x0 → K (oI 0) h) ∧ (x0 < 4 → K (oI 1) h))))) : C 23 [vI x0] h K := by
  show X 23 0 [vI x0] [] h K
  refine X_b 1 1 (L := L_23) rfl rfl rfl ?_
  show X 23 1 [vI x0] [vI x0] h _
  refine X_if (L := L_23) (n' := 7) rfl rfl rfl rfl (fun z1 => ?_) (fun z1 => ?_)
  · have z1 : x0 < 0 := z1
    replace H := H.1 z1
    show X 23 7 [vI x0] [] h _
    refine X_b 1 8 (L := L_23) rfl rfl rfl ?_
    show X 23 8 [vI x0] [vI 0] h _
    refine X_zret (L := L_23) rfl rfl rfl rfl (by decide) ?_
    exact H
  · have z1 : 0 ≤ x0 := (Int.not_lt.mp z1)
    replace H := H.2 z1
    show X 23 2 [vI x0] [] h _
    refine X_b 2 4 (L := L_23) rfl rfl rfl ?_
    show X 23 4 [vI x0] [vI 4, vI x0] h _
    refine X_icmp (L := L_23) (n' := 7) rfl rfl rfl rfl (fun z2 => ?_) (fun z2 => ?_)
    · have z2 : 4 ≤ x0 := z2
      replace H := H.1 z2
      show X 23 7 [vI x0] [] h _
      refine X_b 1 8 (L := L_23) rfl rfl rfl ?_
      show X 23 8 [vI x0] [vI 0] h _
      refine X_zret (L := L_23) rfl rfl rfl rfl (by decide) ?_
      exact H
    · have z2 : x0 < 4 := (Int.not_le.mp z2)
      replace H := H.2 z2
      show X 23 5 [vI x0] [] h _
      refine X_b 1 6 (L := L_23) rfl rfl rfl ?_
      show X 23 6 [vI x0] [vI 1] h _
      refine X_goto (L := L_23) (n' := 8) rfl rfl rfl rfl ?_
      show X 23 8 [vI x0] [vI 1] h _
      refine X_zret (L := L_23) rfl rfl rfl rfl (by decide) ?_
      exact H

/-- PP.isTerminal, row 0 -/
theorem s_24_0 (x0 : Int) (h : ab_S) (K : ab_O → ab_S → Prop) (H : ((x0 < 4 → K (oI 0) h) ∧ (4 ≤ x0 → ((9 ≤ x0 → K (oI 0) h) ∧ (x0 < 9 → K (oI 1) h))))) : C 24 [vI x0] h K := by
  show X 24 0 [vI x0] [] h K
  refine X_b 2 2 (L := L_24) rfl rfl rfl ?_
  show X 24 2 [vI x0] [vI 4, vI x0] h _
  refine X_icmp (L := L_24) (n' := 8) rfl rfl rfl rfl (fun z1 => ?_) (fun z1 => ?_)
  · have z1 : x0 < 4 := z1
    replace H := H.1 z1
    show X 24 8 [vI x0] [] h _
    refine X_b 1 9 (L := L_24) rfl rfl rfl ?_
    show X 24 9 [vI x0] [vI 0] h _
    refine X_zret (L := L_24) rfl rfl rfl rfl (by decide) ?_
    exact H
  · have z1 : 4 ≤ x0 := (Int.not_lt.mp z1)
    replace H := H.2 z1
    show X 24 3 [vI x0] [] h _
    refine X_b 2 5 (L := L_24) rfl rfl rfl ?_
    show X 24 5 [vI x0] [vI 9, vI x0] h _
    refine X_icmp (L := L_24) (n' := 8) rfl rfl rfl rfl (fun z2 => ?_) (fun z2 => ?_)
    · have z2 : 9 ≤ x0 := z2
      replace H := H.1 z2
      show X 24 8 [vI x0] [] h _
      refine X_b 1 9 (L := L_24) rfl rfl rfl ?_
      show X 24 9 [vI x0] [vI 0] h _
      refine X_zret (L := L_24) rfl rfl rfl rfl (by decide) ?_
      exact H
    · have z2 : x0 < 9 := (Int.not_le.mp z2)
      replace H := H.2 z2
      show X 24 6 [vI x0] [] h _
      refine X_b 1 7 (L := L_24) rfl rfl rfl ?_
      show X 24 7 [vI x0] [vI 1] h _
      refine X_goto (L := L_24) (n' := 9) rfl rfl rfl rfl ?_
      show X 24 9 [vI x0] [vI 1] h _
      refine X_zret (L := L_24) rfl rfl rfl rfl (by decide) ?_
      exact H

/-- PP.isGo, row 0 -/
theorem s_25_0 (x0 : Int) (h : ab_S) (K : ab_O → ab_S → Prop) (H : ((x0 < 0 → K (oI 0) h) ∧ (0 ≤ x0 → ((50 ≤ x0 → K (oI 0) h) ∧ (x0 < 50 → K (oI 1) h))))) : C 25 [vI x0] h K := by
  show X 25 0 [vI x0] [] h K
  refine X_b 1 1 (L := L_25) rfl rfl rfl ?_
  show X 25 1 [vI x0] [vI x0] h _
  refine X_if (L := L_25) (n' := 7) rfl rfl rfl rfl (fun z1 => ?_) (fun z1 => ?_)
  · have z1 : x0 < 0 := z1
    replace H := H.1 z1
    show X 25 7 [vI x0] [] h _
    refine X_b 1 8 (L := L_25) rfl rfl rfl ?_
    show X 25 8 [vI x0] [vI 0] h _
    refine X_zret (L := L_25) rfl rfl rfl rfl (by decide) ?_
    exact H
  · have z1 : 0 ≤ x0 := (Int.not_lt.mp z1)
    replace H := H.2 z1
    show X 25 2 [vI x0] [] h _
    refine X_b 2 4 (L := L_25) rfl rfl rfl ?_
    show X 25 4 [vI x0] [vI 50, vI x0] h _
    refine X_icmp (L := L_25) (n' := 7) rfl rfl rfl rfl (fun z2 => ?_) (fun z2 => ?_)
    · have z2 : 50 ≤ x0 := z2
      replace H := H.1 z2
      show X 25 7 [vI x0] [] h _
      refine X_b 1 8 (L := L_25) rfl rfl rfl ?_
      show X 25 8 [vI x0] [vI 0] h _
      refine X_zret (L := L_25) rfl rfl rfl rfl (by decide) ?_
      exact H
    · have z2 : x0 < 50 := (Int.not_le.mp z2)
      replace H := H.2 z2
      show X 25 5 [vI x0] [] h _
      refine X_b 1 6 (L := L_25) rfl rfl rfl ?_
      show X 25 6 [vI x0] [vI 1] h _
      refine X_goto (L := L_25) (n' := 8) rfl rfl rfl rfl ?_
      show X 25 8 [vI x0] [vI 1] h _
      refine X_zret (L := L_25) rfl rfl rfl rfl (by decide) ?_
      exact H

/-- PP.bitOf, row 0 -/
theorem s_26_0 (x0 : Int) (h : ab_S) (K : ab_O → ab_S → Prop) (H : ((-2147483648 ≤ x0 - 4 ∧ x0 - 4 ≤ 2147483647)) ∧ K (oI (b_shl 1 (x0 - 4))) h) : C 26 [vI x0] h K := by
  show X 26 0 [vI x0] [] h K
  obtain ⟨c1, H⟩ := H
  refine X_b 5 5 (L := L_26) rfl rfl rfl ?_
  show (-2147483648 ≤ x0 - 4 ∧ x0 - 4 ≤ 2147483647) ∧ X 26 5 [vI x0] [vI (b_shl 1 (x0 - 4))] h _
  refine ⟨c1, ?_⟩
  refine X_iret (L := L_26) rfl rfl rfl rfl ?_
  exact H

/-- PP.coreOf, row 0 -/
theorem s_27_0 (x0 x1 : Int) (h : ab_S) (K : ab_O → ab_S → Prop) (H : ((-2147483648 ≤ x0 * 5 ∧ x0 * 5 ≤ 2147483647) ∧ (-2147483648 ≤ (x0 * 5) + x1 ∧ (x0 * 5) + x1 ≤ 2147483647)) ∧ K (oI ((x0 * 5) + x1)) h) : C 27 [vI x0, vI x1] h K := by
  show X 27 0 [vI x0, vI x1] [] h K
  obtain ⟨⟨c1, c2⟩, H⟩ := H
  refine X_b 5 5 (L := L_27) rfl rfl rfl ?_
  show (-2147483648 ≤ x0 * 5 ∧ x0 * 5 ≤ 2147483647) ∧ (-2147483648 ≤ (x0 * 5) + x1 ∧ (x0 * 5) + x1 ≤ 2147483647) ∧ X 27 5 [vI x0, vI x1] [vI ((x0 * 5) + x1)] h _
  refine ⟨c1, c2, ?_⟩
  refine X_iret (L := L_27) rfl rfl rfl rfl ?_
  exact H
end Seg
