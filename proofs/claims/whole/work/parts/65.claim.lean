/-! The beginning, and the claim. -/
section Ende
theorem sim_0 (N : Nat) (xs : Nat → Int32) (hN : N ≤ 2560) : Sim (ab_h0 N xs) := by
  refine ⟨⟨?_, fun q => absurd (show (0 : Int) < 0 from q) (by decide), rfl, fun r a b => absurd (show r < 0 from b) (by omega), fun r k a b => absurd (show r < 0 from b) (by omega)⟩, AU_0 rfl ?_, ⟨?_, ?_, ?_, ?_⟩, ⟨?_, ?_, fun i a b => absurd (show i < 0 from b) (by omega)⟩, PR_0 ?_ rfl rfl ?_, fun i => ?_⟩
  · show 0 ≤ (0 : Int) ∧ (0 : Int) ≤ 8
    decide
  · simp [ab_h0]
  · simp [ab_h0]
  · simp [ab_h0]
  · simp [ab_h0]
  · simp [ab_h0]
  · simp [ab_h0]
  · show 0 ≤ (0 : Int) ∧ (0 : Int) ≤ 20
    decide
  · simp [ab_h0]
  · simp [ab_h0]
  · show -2147483648 ≤ (if i = -1 then (N : Int) else if 0 ≤ i ∧ i < (N : Int) then (xs i.toNat).toInt else 0) ∧ (if i = -1 then (N : Int) else if 0 ≤ i ∧ i < (N : Int) then (xs i.toNat).toInt else 0) ≤ 2147483647
    by_cases a : i = -1
    · rw [if_pos a]; omega
    · rw [if_neg a]
      by_cases b : 0 ≤ i ∧ i < (N : Int)
      · rw [if_pos b]
        have c := Int32.toInt_lt (xs i.toNat)
        have d := Int32.le_toInt (xs i.toNat)
        omega
      · rw [if_neg b]; omega
theorem hpure (N : Nat) (xs : Nat → Int32) (hN : N ≤ 2560) : X 136 13 [vR 38, vR 0, vR 6, vR 37, vI 0, vJ 0, vJ 0] [] (ab_h0 N xs) (fun o h' => o = oI 1 ∧ h' 39 0 ≤ 512) :=
  law_run (N := (N : Int)) (H8 := ab_h0 N xs 38) (by omega) (by simp [ab_h0]) _ _ _ (sim_0 N xs hN) rfl (by show (0 : Int) ≤ 0; decide)
end Ende
