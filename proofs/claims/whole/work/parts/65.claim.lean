/-! The beginning. -/
section Ende
theorem sim_z (h : ab_S) (z : ∀ k i, ¬ k = 38 → ¬ k = 15 → ¬ k = 6 → h k i = 0) (z6 : ∀ i, ¬ (13 ≤ i ∧ i ≤ 16) → h 6 i = 0) (z15 : ∀ i, 0 ≤ i → i < 4 → h 15 i = -1) (y6 : ∀ i, 13 ≤ i → i ≤ 16 → h 6 i = -1) (sc : SC h) : Sim h := by
  have e1 : h 1 0 = 0 := z 1 0 (by decide) (by decide) (by decide)
  have e61 : h 6 1 = 0 := z6 1 (by decide)
  have e53 : h 5 3 = 0 := z 5 3 (by decide) (by decide) (by decide)
  have e57 : h 5 7 = 0 := z 5 7 (by decide) (by decide) (by decide)
  have e59 : h 5 9 = 0 := z 5 9 (by decide) (by decide) (by decide)
  have e20 : h 2 0 = 0 := z 2 0 (by decide) (by decide) (by decide)
  have e617 : h 6 17 = 0 := z6 17 (by decide)
  have gp : GP h := by
    unfold GP MG
    rw [e1, e61]
    exact ⟨by omega, fun q => absurd q (by omega), rfl, fun r a b => absurd b (by omega), fun r k a b => absurd b (by omega)⟩
  have ft : FT h := by
    unfold FT
    rw [z15 0 (by decide) (by decide), z15 1 (by decide) (by decide), z15 2 (by decide) (by decide), z15 3 (by decide) (by decide), y6 13 (by decide) (by decide), y6 14 (by decide) (by decide), y6 15 (by decide) (by decide), y6 16 (by decide) (by decide)]
    exact ⟨rfl, rfl, rfl, rfl⟩
  have ins : IN h := by
    unfold IN
    rw [e53, e617]
    exact ⟨rfl, by omega, fun i a b => absurd b (by omega)⟩
  exact ⟨gp, AU_0 e20 (z6 7 (by decide)), ft, ins, PR_0 (z6 19 (by decide)) e57 e59 (z6 22 (by decide)), sc⟩
theorem sc_0 (N : Nat) (xs : Nat → Int32) (hN : N ≤ 2560) : SC (ab_h0 N xs) := by
  intro i
  have e : ab_h0 N xs 38 i = if i = -1 then (N : Int) else if 0 ≤ i ∧ i < (N : Int) then (xs i.toNat).toInt else 0 := by
    unfold ab_h0
    rw [if_pos rfl]
  rw [e]
  by_cases a : i = -1
  · rw [if_pos a]; omega
  · rw [if_neg a]
    by_cases b : 0 ≤ i ∧ i < (N : Int)
    · rw [if_pos b]
      have c := Int32.toInt_lt (xs i.toNat)
      have d := Int32.le_toInt (xs i.toNat)
      omega
    · rw [if_neg b]; omega
theorem sim_0 (N : Nat) (xs : Nat → Int32) (hN : N ≤ 2560) : Sim (ab_h0 N xs) := by
  refine sim_z _ (fun k i a b c => ?_) (fun i a => ?_) (fun i a b => ?_) (fun i a b => ?_) (sc_0 N xs hN)
  · unfold ab_h0
    rw [if_neg a, if_neg b, if_neg c]
  · unfold ab_h0
    rw [if_neg (by decide), if_neg (by decide), if_pos rfl, if_neg a]
  · unfold ab_h0
    rw [if_neg (by decide), if_pos rfl, if_pos ⟨a, b⟩]
  · unfold ab_h0
    rw [if_neg (by decide), if_neg (by decide), if_pos rfl, if_pos ⟨a, b⟩]
theorem hpure (N : Nat) (xs : Nat → Int32) (hN : N ≤ 2560) : X 136 13 [vR 38, vR 0, vR 6, vR 37, vI 0, vJ 0, vJ 0] [] (ab_h0 N xs) (fun o h' => o = oI 1 ∧ h' 39 0 ≤ 512) := by
  have e : ab_h0 N xs 38 (-1) = (N : Int) := by
    unfold ab_h0
    rw [if_pos rfl, if_pos rfl]
  have e9 : ab_h0 N xs 39 0 ≤ 0 := by
    unfold ab_h0
    rw [if_neg (by decide), if_neg (by decide), if_neg (by decide)]
    exact Int.le_refl 0
  exact law_run (N := (N : Int)) (H8 := ab_h0 N xs 38) (by omega) e _ _ _ (sim_0 N xs hN) rfl e9
end Ende
