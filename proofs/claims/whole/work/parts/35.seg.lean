/-! By program (wip/gen/seg.py): what a call's run gives on, and each method's stretches as formulas. -/
section Seg
abbrev kI (F : Int → ab_S → Prop) : ab_O → ab_S → Prop := fun o h1 => match o with
  | Sum.inl (some (Sum.inl v)) => F v h1
  | _ => False
abbrev kV (F : ab_S → Prop) : ab_O → ab_S → Prop := fun o h1 => match o with
  | Sum.inl none => F h1
  | _ => False
theorem kI_to {F : Int → ab_S → Prop} {Q : ab_O → ab_S → Prop} (H : ∀ v h1, F v h1 → Q (oI v) h1) : ∀ o h1, kI F o h1 → Q o h1 := by
  intro o h1 k
  rcases o with (_ | (v | (r | j))) | x
  · exact k.elim
  · exact H v h1 k
  · exact k.elim
  · exact k.elim
  · exact k.elim
theorem kV_to {F : ab_S → Prop} {Q : ab_O → ab_S → Prop} (H : ∀ h1, F h1 → Q oV h1) : ∀ o h1, kV F o h1 → Q o h1 := by
  intro o h1 k
  rcases o with (_ | (v | (r | j))) | x
  · exact H h1 k
  · exact k.elim
  · exact k.elim
  · exact k.elim
  · exact k.elim
theorem sg_calv {i n j : Nat} {as rest : List ab_V} {t : ab_I} {k : Nat} (ht : (ab_L i)[n]? = some t) (hj : t.2.2.2.1 = j) (hl : Nat.ble (j + 1) 138 = true) (e : t.2.1 = .invokevirtual k) (hr : ab_rc as (ab_own j) = true) (hn : as.length = ab_pn j + 1) (ha : ab_nl as = true) (hb : ab_nl rest = true) (hc : Nat.ble rest.length 8 = true) (hd : Nat.ble (ab_fr j + 1) (ab_fr i) = true) (hf : Nat.ble (19 + ab_ml j + ab_lo j) (ab_lo i) = true) : ab_cal i n j as rest :=
  ⟨t, ht, hj, Nat.le_of_ble_eq_true hl, Or.inl ⟨k, e, hr, hn⟩, ha, hb, Nat.le_of_ble_eq_true hc, Nat.le_of_ble_eq_true hd, Nat.le_of_ble_eq_true hf⟩
theorem sg_cals {i n j : Nat} {as rest : List ab_V} {t : ab_I} {k : Nat} (ht : (ab_L i)[n]? = some t) (hj : t.2.2.2.1 = j) (hl : Nat.ble (j + 1) 138 = true) (e : t.2.1 = .invokestatic k) (hn : as.length = ab_pn j) (ha : ab_nl as = true) (hb : ab_nl rest = true) (hc : Nat.ble rest.length 8 = true) (hd : Nat.ble (ab_fr j + 1) (ab_fr i) = true) (hf : Nat.ble (19 + ab_ml j + ab_lo j) (ab_lo i) = true) : ab_cal i n j as rest :=
  ⟨t, ht, hj, Nat.le_of_ble_eq_true hl, Or.inr ⟨k, e, hn⟩, ha, hb, Nat.le_of_ble_eq_true hc, Nat.le_of_ble_eq_true hd, Nat.le_of_ble_eq_true hf⟩
theorem sg_lc (x y : Int) : ab_lc x y = 0 ↔ x = y := by
  unfold ab_lc
  split
  · omega
  · split <;> omega
theorem sg_thr_0_3 : ab_thr 0 3 0 := ⟨50, 52, 54, by decide, rfl, Nat.le_of_ble_eq_true rfl, Nat.le_of_ble_eq_true rfl⟩
theorem sg_thr_0_13 : ab_thr 0 13 1 := ⟨61, 63, 65, by decide, rfl, Nat.le_of_ble_eq_true rfl, Nat.le_of_ble_eq_true rfl⟩
theorem sg_thr_2_4 : ab_thr 2 4 1 := ⟨61, 76, 65, by decide, rfl, Nat.le_of_ble_eq_true rfl, Nat.le_of_ble_eq_true rfl⟩
theorem sg_thr_2_19 : ab_thr 2 19 3 := ⟨83, 85, 87, by decide, rfl, Nat.le_of_ble_eq_true rfl, Nat.le_of_ble_eq_true rfl⟩
theorem sg_thr_5_8 : ab_thr 5 8 0 := ⟨50, 99, 54, by decide, rfl, Nat.le_of_ble_eq_true rfl, Nat.le_of_ble_eq_true rfl⟩
theorem sg_thr_12_7 : ab_thr 12 7 0 := ⟨50, 138, 54, by decide, rfl, Nat.le_of_ble_eq_true rfl, Nat.le_of_ble_eq_true rfl⟩
theorem sg_thr_14_7 : ab_thr 14 7 2 := ⟨146, 148, 150, by decide, rfl, Nat.le_of_ble_eq_true rfl, Nat.le_of_ble_eq_true rfl⟩
theorem sg_thr_14_17 : ab_thr 14 17 0 := ⟨50, 151, 54, by decide, rfl, Nat.le_of_ble_eq_true rfl, Nat.le_of_ble_eq_true rfl⟩
theorem sg_thr_17_4 : ab_thr 17 4 1 := ⟨61, 160, 65, by decide, rfl, Nat.le_of_ble_eq_true rfl, Nat.le_of_ble_eq_true rfl⟩
theorem sg_thr_18_7 : ab_thr 18 7 2 := ⟨146, 162, 150, by decide, rfl, Nat.le_of_ble_eq_true rfl, Nat.le_of_ble_eq_true rfl⟩
theorem sg_thr_19_8 : ab_thr 19 8 2 := ⟨146, 168, 150, by decide, rfl, Nat.le_of_ble_eq_true rfl, Nat.le_of_ble_eq_true rfl⟩
theorem sg_thr_20_9 : ab_thr 20 9 0 := ⟨50, 174, 54, by decide, rfl, Nat.le_of_ble_eq_true rfl, Nat.le_of_ble_eq_true rfl⟩
/-- PPModel.sizeOf, row 0 -/
theorem s_35_0 (x1 : Int) (h : ab_S) (K : ab_O → ab_S → Prop) (H : ((¬ x1 = h 6 1 → ((0 ≤ x1 ∧ x1 < 8)) ∧ K (oI (h 21 x1)) h) ∧ (x1 = h 6 1 → K (oI 1) h))) : C 35 [vR 6, vI x1] h K := by
  show X 35 0 [vR 6, vI x1] [] h K
  refine X_b 3 3 (L := L_35) rfl rfl rfl ?_
  show X 35 3 [vR 6, vI x1] [vI (h 6 1), vI x1] h _
  refine X_icmp (L := L_35) (n' := 6) rfl rfl rfl rfl (fun z1 => ?_) (fun z1 => ?_)
  · have z1 : ¬ x1 = h 6 1 := z1
    replace H := H.1 z1
    show X 35 6 [vR 6, vI x1] [] h _
    obtain ⟨c2, H⟩ := H
    refine X_b 4 10 (L := L_35) rfl rfl rfl ?_
    show (0 ≤ x1 ∧ x1 < 8) ∧ X 35 10 [vR 6, vI x1] [vI (h 21 x1)] h _
    refine ⟨c2, ?_⟩
    refine X_iret (L := L_35) rfl rfl rfl rfl ?_
    exact H
  · have z1 : x1 = h 6 1 := (Classical.not_not.mp z1)
    replace H := H.2 z1
    show X 35 4 [vR 6, vI x1] [] h _
    refine X_b 1 5 (L := L_35) rfl rfl rfl ?_
    show X 35 5 [vR 6, vI x1] [vI 1] h _
    refine X_goto (L := L_35) (n' := 10) rfl rfl rfl rfl ?_
    show X 35 10 [vR 6, vI x1] [vI 1] h _
    refine X_iret (L := L_35) rfl rfl rfl rfl ?_
    exact H

def szo (h : ab_S) (r : Int) : Int := if r = h 6 1 then 1 else h 21 r
def nxt (h : ab_S) (r d : Int) : Int := if szo h r ≤ d then -1 else if r = h 6 1 then h 20 0 else h 22 (4 * r + d)
theorem f_size {r : Int} {h : ab_S} {K : ab_O → ab_S → Prop} (c : 0 ≤ r ∧ (r = h 6 1 ∨ r < 8)) (H : K (oI (szo h r)) h) : C 35 [vR 6, vI r] h K := by
  unfold szo at H
  refine s_35_0 r h K ⟨?_, ?_⟩
  all_goals
    intro z
    first
    | rw [if_neg z] at H
    | rw [if_pos z] at H
    first
    | exact H
    | exact ⟨by omega, H⟩
/-- PPModel.next, row 0 -/
theorem s_36_0 (x1 x2 : Int) (h : ab_S) (K : ab_O → ab_S → Prop) (H : ((0 ≤ x1 ∧ (x1 = h 6 1 ∨ x1 < 8))) ∧ ((x2 < szo h x1 → ((¬ x1 = h 6 1 → ((-2147483648 ≤ 4 * x1 ∧ 4 * x1 ≤ 2147483647) ∧ (0 ≤ (4 * x1) + x2 ∧ (4 * x1) + x2 < 32)) ∧ K (oI (h 22 ((4 * x1) + x2))) h) ∧ (x1 = h 6 1 → K (oI (h 20 0)) h))) ∧ (szo h x1 ≤ x2 → K (oI (-1)) h))) : C 36 [vR 6, vI x1, vI x2] h K := by
  show X 36 0 [vR 6, vI x1, vI x2] [] h K
  obtain ⟨c1, H⟩ := H
  refine X_b 3 3 (L := L_36) rfl rfl rfl ?_
  show X 36 3 [vR 6, vI x1, vI x2] [vI x1, vR 6, vI x2] h _
  refine X_call 35 [vR 6, vI x1] [vI x2] rfl (sg_calv rfl rfl rfl rfl rfl rfl rfl rfl rfl rfl rfl) (by decide) ?_
  refine f_size c1 ?_
  show X 36 4 [vR 6, vI x1, vI x2] [vI (szo h x1), vI x2] h _
  refine X_icmp (L := L_36) (n' := 7) rfl rfl rfl rfl (fun z2 => ?_) (fun z2 => ?_)
  · have z2 : x2 < szo h x1 := z2
    replace H := H.1 z2
    show X 36 7 [vR 6, vI x1, vI x2] [] h _
    refine X_b 3 10 (L := L_36) rfl rfl rfl ?_
    show X 36 10 [vR 6, vI x1, vI x2] [vI (h 6 1), vI x1] h _
    refine X_icmp (L := L_36) (n' := 16) rfl rfl rfl rfl (fun z3 => ?_) (fun z3 => ?_)
    · have z3 : ¬ x1 = h 6 1 := z3
      replace H := H.1 z3
      show X 36 16 [vR 6, vI x1, vI x2] [] h _
      obtain ⟨⟨c4, c5⟩, H⟩ := H
      refine X_b 8 24 (L := L_36) rfl rfl rfl ?_
      show (-2147483648 ≤ 4 * x1 ∧ 4 * x1 ≤ 2147483647) ∧ (-2147483648 ≤ (4 * x1) + x2 ∧ (4 * x1) + x2 ≤ 2147483647) ∧ (0 ≤ (4 * x1) + x2 ∧ (4 * x1) + x2 < 32) ∧ X 36 24 [vR 6, vI x1, vI x2] [vI (h 22 ((4 * x1) + x2))] h _
      refine ⟨c4, by have := c5; omega, c5, ?_⟩
      refine X_iret (L := L_36) rfl rfl rfl rfl ?_
      exact H
    · have z3 : x1 = h 6 1 := (Classical.not_not.mp z3)
      replace H := H.2 z3
      show X 36 11 [vR 6, vI x1, vI x2] [] h _
      refine X_b 4 15 (L := L_36) rfl rfl rfl ?_
      show (0 ≤ (0 : Int) ∧ (0 : Int) < 8) ∧ X 36 15 [vR 6, vI x1, vI x2] [vI (h 20 0)] h _
      refine ⟨by decide, ?_⟩
      refine X_goto (L := L_36) (n' := 24) rfl rfl rfl rfl ?_
      show X 36 24 [vR 6, vI x1, vI x2] [vI (h 20 0)] h _
      refine X_iret (L := L_36) rfl rfl rfl rfl ?_
      exact H
  · have z2 : szo h x1 ≤ x2 := (Int.not_lt.mp z2)
    replace H := H.2 z2
    show X 36 5 [vR 6, vI x1, vI x2] [] h _
    refine X_b 1 6 (L := L_36) rfl rfl rfl ?_
    show X 36 6 [vR 6, vI x1, vI x2] [vI (-1)] h _
    refine X_iret (L := L_36) rfl rfl rfl rfl ?_
    exact H

theorem f_next {r d : Int} {h : ab_S} {K : ab_O → ab_S → Prop} (c : 0 ≤ r ∧ (r = h 6 1 ∨ (r < 8 ∧ h 21 r ≤ 4)) ∧ 0 ≤ d) (H : K (oI (nxt h r d)) h) : C 36 [vR 6, vI r, vI d] h K := by
  unfold nxt at H
  refine s_36_0 r d h K ⟨by omega, ?_, ?_⟩
  · intro z
    rw [if_neg (by omega)] at H
    refine ⟨?_, ?_⟩
    all_goals
      intro z2
      first
      | (rw [if_neg z2] at H; have z3 := z; unfold szo at z3; rw [if_neg z2] at z3; exact ⟨by omega, H⟩)
      | (rw [if_pos z2] at H; exact H)
  · intro z
    rw [if_pos (by omega)] at H
    exact H
end Seg
