/-! The law's loop, run by run. -/
section Loop
theorem law_run {N : Int} {H8 : Int → Int} (hN : 0 ≤ N ∧ N ≤ 2560) (h8 : H8 (-1) = N) : ∀ h w5 w6, Sim h → h 38 = H8 → h 39 0 ≤ 0 → X 136 13 [vR 38, vR 0, vR 6, vR 37, vI 0, w5, w6] [] h (fun o h' => o = oI 1 ∧ h' 39 0 ≤ 512) := by
  have key := lp (P := fun k => 5 * k ≤ N → ∀ h w5 w6, Sim h → h 38 = H8 → h 39 0 ≤ k → X 136 13 [vR 38, vR 0, vR 6, vR 37, vI (5 * k), w5, w6] [] h (fun o h' => o = oI 1 ∧ h' 39 0 ≤ 512)) 0 513 (by decide) ?_ (by omega)
  · rw [show (5 : Int) * 0 = 0 from rfl] at key
    exact key
  intro k k0 k1 ih hk h w5 w6 S e8 le
  have en : h 38 (-1) = N := by rw [e8]; exact h8
  have a15 := and15 (h 38 (5 * k))
  refine s_136_13 (5 * k) w5 w6 h _ ?_
  refine ⟨by omega, fun z => ⟨rfl, by omega⟩, fun z => ⟨by omega, ?_⟩⟩
  have L : Lp (5 * k) h := ⟨by omega, z, by omega⟩
  have Nn : Nx (5 * k) h (fun o h' => o = oI 1 ∧ h' 39 0 ≤ 512) := by
    intro h' w5 w6 S' e' l'
    have := ih (by omega) (by omega) h' w5 w6 S' (by rw [e']; exact e8) (by omega)
    rw [show 5 * (k + 1) = 5 * k + 5 by omega] at this
    exact this
  exact ⟨fun _ => k_0 S L Nn, fun _ => k_1 S L Nn, fun _ => k_2 S L Nn, fun _ => k_3 S L Nn, fun _ => k_4 S L Nn, fun _ => k_5 S L Nn, fun _ => k_6 S L Nn, fun _ => k_7 S L Nn, fun _ => k_8 S L Nn, fun _ => k_9 S L Nn, fun _ => k_10 S L Nn, fun _ => k_11 S L Nn, fun _ => k_12 S L Nn, fun _ => k_13 S L Nn, fun _ => k_14 S L Nn, fun _ => k_15 S L Nn, fun q => absurd q (by omega)⟩
end Loop
