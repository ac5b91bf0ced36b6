/-! The program and the model side by side: what the law's loop keeps; the calls that are soon told. -/
section Side
def GP (h : ab_S) : Prop := (0 ≤ h 1 0 ∧ h 1 0 ≤ 8) ∧ (0 < h 1 0 → GW (h 1 0) (h 7) (h 8) (h 9)) ∧ MG (h 1 0) (h 7) (h 8) (h 9) (h 6 1) (h 20) (h 21) (h 22)
def AU (h : ab_S) : Prop := ∃ A, AI (h 1 0) (h 8) A ∧ RC A (h 2 0) (h 12) (h 13) ∧ RM A (h 6 7) (h 25) (h 26) ∧ (0 < A.1 → 0 < h 1 0 ∧ LN h)
def FT (h : ab_S) : Prop := h 15 0 = h 6 13 ∧ h 15 1 = h 6 14 ∧ h 15 2 = h 6 15 ∧ h 15 3 = h 6 16
def IN (h : ab_S) : Prop := h 6 17 = h 5 3 ∧ (0 ≤ h 5 3 ∧ h 5 3 ≤ 20) ∧ ∀ i, 0 ≤ i → i < h 5 3 → h 29 i = h 16 i ∧ 4 ≤ h 16 i ∧ h 16 i < 9
def TR (h : ab_S) : Prop := ∀ k, 0 ≤ k → k < h 5 9 * 5 → -1 ≤ h 19 k ∧ h 19 k ≤ 100
def PR (h : ab_S) : Prop := ((h 6 19 = 0 ∧ h 5 7 = 0 ∧ h 5 9 = 0) ∨ (h 6 19 = 1 ∧ h 6 21 = h 5 7 - 1)) ∧ (0 ≤ h 5 9 ∧ h 5 9 ≤ 60) ∧ (0 ≤ h 5 7 ∧ h 5 7 ≤ 61) ∧ PT h h ∧ TR h
def SC (h : ab_S) : Prop := ∀ i, -2147483648 ≤ h 38 i ∧ h 38 i ≤ 2147483647
def Sim (h : ab_S) : Prop := GP h ∧ AU h ∧ FT h ∧ IN h ∧ PR h ∧ SC h
def Nx (x4 : Int) (h : ab_S) (K : ab_O → ab_S → Prop) : Prop := ∀ h' w5 w6, Sim h' → h' 38 = h 38 → h' 39 0 ≤ h 39 0 + 1 → X 136 13 [vR 38, vR 0, vR 6, vR 37, vI (x4 + 5), w5, w6] [] h' K
def Lp (x4 : Int) (h : ab_S) : Prop := 0 ≤ x4 ∧ x4 ≤ h 38 (-1) - 5 ∧ h 38 (-1) ≤ 2560
theorem PR_0 {h : ab_S} (a : h 6 19 = 0) (b : h 5 7 = 0) (c : h 5 9 = 0) (d : h 6 22 = 0) : PR h := by
  refine ⟨Or.inl ⟨a, b, c⟩, by omega, by omega, ⟨by omega, fun j j0 j1 => absurd j1 (by omega)⟩, fun k k0 k1 => absurd k1 (by omega)⟩
theorem AU_0 {h : ab_S} (a : h 2 0 = 0) (b : h 6 7 = 0) : AU h := by
  refine ⟨au_0, ⟨⟨by decide, by decide⟩, fun s i a b => absurd b (by show ¬ s < 0; omega), fun s x a b => absurd b (by show ¬ s < 0; omega)⟩, ⟨a, fun s a b => absurd b (by show ¬ s < 0; omega), fun s x a b => absurd b (by show ¬ s < 0; omega)⟩, ⟨b, fun s i a b => absurd b (by show ¬ s < 0; omega), fun s x a b => absurd b (by show ¬ s < 0; omega)⟩, fun q => absurd q (by decide)⟩
theorem cmp1 {a b c d : Int} {Y Z : Prop} (e : a = b) (e2 : b = 0 → c = d) (y : Y) : ((a = b → ((¬ b = 0 → Y) ∧ (b = 0 → ((c = d → Y) ∧ (¬ c = d → Z))))) ∧ (¬ a = b → Z)) :=
  ⟨fun _ => ⟨fun _ => y, fun q => ⟨fun _ => y, fun r => absurd (e2 q) r⟩⟩, fun q => absurd e q⟩
theorem cmp2 {a b c v : Int} {Y Z : Prop} (e : a = b) (e2 : b = 0 → (v = 0 ∧ c = 0) ∨ (¬ v = 0 ∧ c = 1)) (y : Y) : ((a = b → ((¬ b = 0 → Y) ∧ (b = 0 → ((v = 0 → ((c = 0 → Y) ∧ (¬ c = 0 → Z))) ∧ (¬ v = 0 → ((c = 1 → Y) ∧ (¬ c = 1 → Z))))))) ∧ (¬ a = b → Z)) := by
  refine ⟨fun _ => ⟨fun _ => y, fun q => ⟨fun r => ⟨fun _ => y, fun t => ?_⟩, fun r => ⟨fun _ => y, fun t => ?_⟩⟩⟩, fun q => absurd e q⟩
  · rcases e2 q with w | w
    · exact absurd w.2 t
    · exact absurd r w.1
  · rcases e2 q with w | w
    · exact absurd w.1 r
    · exact absurd w.2 t
theorem cmp3 {a b : Int} {Y Z : Prop} (e : a = b) (y : Y) : ((a = b → Y) ∧ (¬ a = b → Z)) := ⟨fun _ => y, fun q => absurd e q⟩
variable {x4 : Int} {w5 w6 : ab_V} {h : ab_S} {K : ab_O → ab_S → Prop}
theorem k_1 (S : Sim h) (L : Lp x4 h) (N : Nx x4 h K) : C 1 [vR 0] h (kV (fun h16 => C 34 [vR 6] h16 (kV (fun h17 => ((-2147483648 ≤ x4 + 5 ∧ x4 + 5 ≤ 2147483647)) ∧ X 136 13 [vR 38, vR 0, vR 6, vR 37, vI (x4 + 5), w5, w6] [] h17 K)))) := by
  obtain ⟨gp, au, ft, ins, pr, sc⟩ := S
  refine s_1_0 h _ ?_
  refine s_34_0 _ _ ⟨by unfold Lp at L; omega, N _ _ _ ⟨⟨by show 0 ≤ (0 : Int) ∧ (0 : Int) ≤ 8; decide, fun q => absurd (show (0 : Int) < 0 from q) (by decide), rfl, fun r a b => absurd b (by show ¬ r < 0; omega), fun r k a b => absurd b (by show ¬ r < 0; omega)⟩, AU_0 rfl rfl, ⟨rfl, rfl, rfl, rfl⟩, ins, PR_0 rfl rfl rfl rfl, sc⟩ rfl (by show h 39 0 ≤ h 39 0 + 1; omega)⟩
theorem k_3 (S : Sim h) (L : Lp x4 h) (N : Nx x4 h K) : C 3 [vR 0] h (kI (fun v26 h26 => C 50 [vR 6] h26 (kI (fun v27 h27 => ((v26 = v27 → ((-2147483648 ≤ x4 + 5 ∧ x4 + 5 ≤ 2147483647)) ∧ X 136 13 [vR 38, vR 0, vR 6, vR 37, vI (x4 + 5), w5, w6] [] h27 K) ∧ (¬ v26 = v27 → K (oI 0) h27)))))) := by
  obtain ⟨gp, ⟨A, ai, rc, rm, ln⟩, ft, ins, pr, sc⟩ := S
  refine s_3_0 h _ ?_
  refine s_50_0 _ _ ?_
  refine cmp3 (rc.1.trans rm.1.symm) ⟨by unfold Lp at L; omega, N _ _ _ ⟨gp, ⟨A, ai, rc, rm, ln⟩, ft, ins, pr, sc⟩ rfl (by show h 39 0 ≤ h 39 0 + 1; omega)⟩
theorem sides1 (L : 0 ≤ x4 ∧ x4 ≤ h 38 (-1) - 5 ∧ h 38 (-1) ≤ 2560) : (-2147483648 ≤ x4 + 1 ∧ x4 + 1 ≤ 2147483647) ∧ (0 ≤ x4 + 1 ∧ x4 + 1 < h 38 (-1)) := by omega
theorem sides4 (L : 0 ≤ x4 ∧ x4 ≤ h 38 (-1) - 5 ∧ h 38 (-1) ≤ 2560) : (-2147483648 ≤ x4 + 1 ∧ x4 + 1 ≤ 2147483647) ∧ (0 ≤ x4 + 1 ∧ x4 + 1 < h 38 (-1)) ∧ (-2147483648 ≤ x4 + 2 ∧ x4 + 2 ≤ 2147483647) ∧ (0 ≤ x4 + 2 ∧ x4 + 2 < h 38 (-1)) := by omega
theorem sides5 (L : 0 ≤ x4 ∧ x4 ≤ h 38 (-1) - 5 ∧ h 38 (-1) ≤ 2560) : (-2147483648 ≤ x4 + 1 ∧ x4 + 1 ≤ 2147483647) ∧ (0 ≤ x4 + 1 ∧ x4 + 1 < h 38 (-1)) ∧ (-2147483648 ≤ x4 + 2 ∧ x4 + 2 ≤ 2147483647) ∧ (0 ≤ x4 + 2 ∧ x4 + 2 < h 38 (-1)) ∧ (-2147483648 ≤ x4 + 3 ∧ x4 + 3 ≤ 2147483647) ∧ (0 ≤ x4 + 3 ∧ x4 + 3 < h 38 (-1)) := by omega
theorem sides6 (L : 0 ≤ x4 ∧ x4 ≤ h 38 (-1) - 5 ∧ h 38 (-1) ≤ 2560) : (-2147483648 ≤ x4 + 1 ∧ x4 + 1 ≤ 2147483647) ∧ (0 ≤ x4 + 1 ∧ x4 + 1 < h 38 (-1)) ∧ (-2147483648 ≤ x4 + 2 ∧ x4 + 2 ≤ 2147483647) ∧ (0 ≤ x4 + 2 ∧ x4 + 2 < h 38 (-1)) ∧ (-2147483648 ≤ x4 + 3 ∧ x4 + 3 ≤ 2147483647) ∧ (0 ≤ x4 + 3 ∧ x4 + 3 < h 38 (-1)) ∧ (-2147483648 ≤ x4 + 4 ∧ x4 + 4 ≤ 2147483647) ∧ (0 ≤ x4 + 4 ∧ x4 + 4 < h 38 (-1)) := by omega
theorem c_129 {s x : Int} (H1 : ¬ (0 ≤ s ∧ s < h 2 0 ∧ 0 ≤ x ∧ x < 10) → K (oI 1) (ab_up h 39 0 (h 39 0 + 1))) (H0 : (0 ≤ s ∧ s < h 2 0 ∧ 0 ≤ x ∧ x < 10) → ((-2147483648 ≤ s * 10 ∧ s * 10 ≤ 2147483647) ∧ (0 ≤ s * 10 + x ∧ s * 10 + x < 500) ∧ (-2147483648 ≤ h 12 (s * 10 + x) ∧ h 12 (s * 10 + x) ≤ 2147483647)) ∧ K (oI 0) (ab_up h 37 0 (h 12 (s * 10 + x)))) : C 129 [vR 0, vI s, vI x, vR 37] h K :=
  s_129_0 s x h K ⟨fun z => H1 (by omega), fun z => ⟨fun z2 => ⟨fun z3 => H1 (by omega), fun z3 => ⟨fun z4 => H0 (by omega), fun z4 => H1 (by omega)⟩⟩, fun z2 => H1 (by omega)⟩⟩
theorem c_53 {s x : Int} (H1 : ¬ (0 ≤ s ∧ s < h 6 7 ∧ 0 ≤ x ∧ x < 10) → K (oI 0) (ab_up (ab_up h 6 0 0) 6 0 1)) (H0 : (0 ≤ s ∧ s < h 6 7 ∧ 0 ≤ x ∧ x < 10) → ((-2147483648 ≤ 10 * s ∧ 10 * s ≤ 2147483647) ∧ (0 ≤ 10 * s + x ∧ 10 * s + x < 500)) ∧ K (oI (h 26 (10 * s + x))) (ab_up h 6 0 0)) : C 53 [vR 6, vI s, vI x] h K :=
  s_53_0 s x h K ⟨fun z => H1 (by omega), fun z => ⟨fun z2 => H1 (by omega), fun z2 => ⟨fun z3 => H1 (by omega), fun z3 => ⟨fun z4 => H1 (by omega), fun z4 => H0 (by omega)⟩⟩⟩⟩
theorem k_4 (S : Sim h) (L : Lp x4 h) (N : Nx x4 h K) : ((-2147483648 ≤ x4 + 1 ∧ x4 + 1 ≤ 2147483647) ∧ (0 ≤ x4 + 1 ∧ x4 + 1 < h 38 (-1)) ∧ (-2147483648 ≤ x4 + 2 ∧ x4 + 2 ≤ 2147483647) ∧ (0 ≤ x4 + 2 ∧ x4 + 2 < h 38 (-1))) ∧ C 129 [vR 0, vI (h 38 (x4 + 1)), vI (h 38 (x4 + 2)), vR 37] h (kI (fun v34 h34 => ((-2147483648 ≤ x4 + 1 ∧ x4 + 1 ≤ 2147483647) ∧ (0 ≤ x4 + 1 ∧ x4 + 1 < h34 38 (-1)) ∧ (-2147483648 ≤ x4 + 2 ∧ x4 + 2 ≤ 2147483647) ∧ (0 ≤ x4 + 2 ∧ x4 + 2 < h34 38 (-1))) ∧ C 53 [vR 6, vI (h34 38 (x4 + 1)), vI (h34 38 (x4 + 2))] h34 (kI (fun v39 h39 => ((h39 6 0 = v34 → ((¬ v34 = 0 → ((-2147483648 ≤ x4 + 5 ∧ x4 + 5 ≤ 2147483647)) ∧ X 136 13 [vR 38, vR 0, vR 6, vR 37, vI (x4 + 5), vI v34, vI v39] [] h39 K) ∧ (v34 = 0 → ((h39 37 0 = v39 → ((-2147483648 ≤ x4 + 5 ∧ x4 + 5 ≤ 2147483647)) ∧ X 136 13 [vR 38, vR 0, vR 6, vR 37, vI (x4 + 5), vI v34, vI v39] [] h39 K) ∧ (¬ h39 37 0 = v39 → K (oI 0) h39))))) ∧ (¬ h39 6 0 = v34 → K (oI 0) h39)))))) := by
  obtain ⟨gp, ⟨A, ai, rc, rm, ln⟩, ft, ins, pr, sc⟩ := S
  unfold Lp at L
  refine ⟨by omega, ?_⟩
  obtain ⟨s, es⟩ : ∃ s, s = h 38 (x4 + 1) := ⟨_, rfl⟩
  obtain ⟨x, ex⟩ : ∃ x, x = h 38 (x4 + 2) := ⟨_, rfl⟩
  rw [← es, ← ex]
  have hc := ai.1
  have gn := gp.1
  have r1 := rc.1
  have m1 := rm.1
  refine c_129 (fun q => ?_) (fun q => ?_)
  · show (_ ∧ _ ∧ _ ∧ _) ∧ C 53 [vR 6, vI (h 38 (x4 + 1)), vI (h 38 (x4 + 2))] (ab_up h 39 0 (h 39 0 + 1)) _
    rw [← es, ← ex]
    refine ⟨sides4 L, c_53 (fun _ => ?_) (fun q2 => absurd q2 (by show ¬ (0 ≤ s ∧ s < h 6 7 ∧ 0 ≤ x ∧ x < 10); omega))⟩
    exact cmp1 rfl (fun q => absurd q (by decide)) ⟨by omega, N _ _ _ ⟨gp, ⟨A, ai, rc, rm, ln⟩, ft, ins, pr, sc⟩ rfl (Int.le_refl _)⟩
  · have e1 := rc.2.2 s x (by omega) (by omega) (by omega) (by omega)
    have e2 := rm.2.2 s x (by omega) (by omega) (by omega) (by omega)
    have ok := ai.2.2 s x (by omega) (by omega) (by omega) (by omega)
    rw [← e1] at ok
    refine ⟨by unfold okE at ok; omega, ?_⟩
    show (_ ∧ _ ∧ _ ∧ _) ∧ C 53 [vR 6, vI (h 38 (x4 + 1)), vI (h 38 (x4 + 2))] (ab_up h 37 0 (h 12 (s * 10 + x))) _
    rw [← es, ← ex]
    refine ⟨sides4 L, c_53 (fun q2 => absurd (show 0 ≤ s ∧ s < h 6 7 ∧ 0 ≤ x ∧ x < 10 by omega) q2) (fun _ => ⟨by omega, ?_⟩)⟩
    exact cmp1 rfl (fun _ => e1.trans e2.symm) ⟨by omega, N _ _ _ ⟨gp, ⟨A, ai, rc, rm, ln⟩, ft, ins, pr, sc⟩ rfl (by show h 39 0 ≤ h 39 0 + 1; omega)⟩
set_option maxHeartbeats 4000000 in
theorem c_130 {s x e : Int} (he : -2147483648 ≤ e ∧ e ≤ 2147483647) (hc : h 2 0 ≤ 50) (H1 : ¬ (0 ≤ s ∧ s < h 2 0 ∧ 0 ≤ x ∧ x < 10) → K (oI 1) (ab_up h 39 0 (h 39 0 + 1))) (H2 : (0 ≤ s ∧ s < h 2 0 ∧ 0 ≤ x ∧ x < 10) → ¬ (e = -1 ∨ (0 ≤ e ∧ e < h 2 0) ∨ (100 ≤ e ∧ e ≤ 100 + h 1 0) ∨ e = 200) → K (oI 2) (ab_up h 39 0 (h 39 0 + 1)))
    (H0 : (0 ≤ s ∧ s < h 2 0 ∧ 0 ≤ x ∧ x < 10) → (e = -1 ∨ (0 ≤ e ∧ e < h 2 0) ∨ (100 ≤ e ∧ e ≤ 100 + h 1 0) ∨ e = 200) → K (oI 0) (ab_up (ab_up (ab_up h 12 (s * 10 + x) e) 5 7 0) 5 9 0)) : C 130 [vR 0, vI s, vI x, vI e] h K := by
  refine s_130_0 s x e h K ?_
  repeat' (first | omega | (refine And.intro ?_ ?_) | intro _)
  all_goals first
    | exact H1 (by omega)
    | exact H2 (by omega) (by omega)
    | exact H0 (by omega) (by omega)
set_option maxHeartbeats 4000000 in
theorem c_54 {s x e : Int} (hc : h 6 7 ≤ 50) (gn : 0 ≤ h 6 1 ∧ h 6 1 ≤ 8) (H1 : ¬ (0 ≤ s ∧ s < h 6 7 ∧ 0 ≤ x ∧ x < 10) → K oV (ab_up h 6 0 1)) (H2 : (0 ≤ s ∧ s < h 6 7 ∧ 0 ≤ x ∧ x < 10) → ¬ (e = -1 ∨ (0 ≤ e ∧ e < h 6 7) ∨ (100 ≤ e ∧ e ≤ 100 + h 6 1) ∨ e = 200) → K oV (ab_up h 6 0 2))
    (H0 : (0 ≤ s ∧ s < h 6 7 ∧ 0 ≤ x ∧ x < 10) → (e = -1 ∨ (0 ≤ e ∧ e < h 6 7) ∨ (100 ≤ e ∧ e ≤ 100 + h 6 1) ∨ e = 200) → K oV (ab_up (ab_up (ab_up (ab_up h 6 0 0) 26 (10 * s + x) e) 6 19 0) 6 22 0)) : C 54 [vR 6, vI s, vI x, vI e] h K := by
  refine s_54_0 s x e h K ?_
  repeat' (first | omega | (refine And.intro ?_ ?_) | intro _)
  all_goals first
    | exact H1 (by omega)
    | exact H2 (by omega) (by omega)
    | exact H0 (by omega) (by omega)
theorem k_5 (S : Sim h) (L : Lp x4 h) (N : Nx x4 h K) : ((-2147483648 ≤ x4 + 1 ∧ x4 + 1 ≤ 2147483647) ∧ (0 ≤ x4 + 1 ∧ x4 + 1 < h 38 (-1)) ∧ (-2147483648 ≤ x4 + 2 ∧ x4 + 2 ≤ 2147483647) ∧ (0 ≤ x4 + 2 ∧ x4 + 2 < h 38 (-1)) ∧ (-2147483648 ≤ x4 + 3 ∧ x4 + 3 ≤ 2147483647) ∧ (0 ≤ x4 + 3 ∧ x4 + 3 < h 38 (-1))) ∧ C 130 [vR 0, vI (h 38 (x4 + 1)), vI (h 38 (x4 + 2)), vI (h 38 (x4 + 3))] h (kI (fun v51 h51 => ((-2147483648 ≤ x4 + 1 ∧ x4 + 1 ≤ 2147483647) ∧ (0 ≤ x4 + 1 ∧ x4 + 1 < h51 38 (-1)) ∧ (-2147483648 ≤ x4 + 2 ∧ x4 + 2 ≤ 2147483647) ∧ (0 ≤ x4 + 2 ∧ x4 + 2 < h51 38 (-1)) ∧ (-2147483648 ≤ x4 + 3 ∧ x4 + 3 ≤ 2147483647) ∧ (0 ≤ x4 + 3 ∧ x4 + 3 < h51 38 (-1))) ∧ C 54 [vR 6, vI (h51 38 (x4 + 1)), vI (h51 38 (x4 + 2)), vI (h51 38 (x4 + 3))] h51 (kV (fun h58 => ((h58 6 0 = v51 → ((-2147483648 ≤ x4 + 5 ∧ x4 + 5 ≤ 2147483647)) ∧ X 136 13 [vR 38, vR 0, vR 6, vR 37, vI (x4 + 5), vI v51, w6] [] h58 K) ∧ (¬ h58 6 0 = v51 → K (oI 0) h58)))))) := by
  obtain ⟨gp, ⟨A, ai, rc, rm, ln⟩, ft, ins, pr, sc⟩ := S
  unfold Lp at L
  refine ⟨by omega, ?_⟩
  have se := sc (x4 + 3)
  obtain ⟨s, es⟩ : ∃ s, s = h 38 (x4 + 1) := ⟨_, rfl⟩
  obtain ⟨x, ex⟩ : ∃ x, x = h 38 (x4 + 2) := ⟨_, rfl⟩
  obtain ⟨e, ee⟩ : ∃ e, e = h 38 (x4 + 3) := ⟨_, rfl⟩
  rw [← ee] at se
  rw [← es, ← ex, ← ee]
  have hc := ai.1
  have gn := gp.1
  have r1 := rc.1
  have m1 := rm.1
  have n1 := gp.2.2.1
  refine c_130 se (by omega) (fun q => ?_) (fun q q2 => ?_) (fun q q2 => ?_)
  · show (_ ∧ _ ∧ _ ∧ _ ∧ _ ∧ _) ∧ C 54 [vR 6, vI (h 38 (x4 + 1)), vI (h 38 (x4 + 2)), vI (h 38 (x4 + 3))] (ab_up h 39 0 (h 39 0 + 1)) _
    rw [← es, ← ex, ← ee]
    refine ⟨sides5 L, c_54 (by show h 6 7 ≤ 50; omega) (by show 0 ≤ h 6 1 ∧ h 6 1 ≤ 8; omega) (fun _ => ?_) (fun q3 => absurd q3 (by show ¬ (0 ≤ s ∧ s < h 6 7 ∧ 0 ≤ x ∧ x < 10); omega)) (fun q3 => absurd q3 (by show ¬ (0 ≤ s ∧ s < h 6 7 ∧ 0 ≤ x ∧ x < 10); omega))⟩
    exact cmp3 rfl ⟨by omega, N _ _ _ ⟨gp, ⟨A, ai, rc, rm, ln⟩, ft, ins, pr, sc⟩ rfl (Int.le_refl _)⟩
  · show (_ ∧ _ ∧ _ ∧ _ ∧ _ ∧ _) ∧ C 54 [vR 6, vI (h 38 (x4 + 1)), vI (h 38 (x4 + 2)), vI (h 38 (x4 + 3))] (ab_up h 39 0 (h 39 0 + 1)) _
    rw [← es, ← ex, ← ee]
    refine ⟨sides5 L, c_54 (by show h 6 7 ≤ 50; omega) (by show 0 ≤ h 6 1 ∧ h 6 1 ≤ 8; omega) (fun q3 => absurd (show 0 ≤ s ∧ s < h 6 7 ∧ 0 ≤ x ∧ x < 10 by omega) q3) (fun _ _ => ?_) (fun _ q3 => absurd q3 (by show ¬ (e = -1 ∨ (0 ≤ e ∧ e < h 6 7) ∨ (100 ≤ e ∧ e ≤ 100 + h 6 1) ∨ e = 200); omega))⟩
    exact cmp3 rfl ⟨by omega, N _ _ _ ⟨gp, ⟨A, ai, rc, rm, ln⟩, ft, ins, pr, sc⟩ rfl (Int.le_refl _)⟩
  · show (_ ∧ _ ∧ _ ∧ _ ∧ _ ∧ _) ∧ C 54 [vR 6, vI (h 38 (x4 + 1)), vI (h 38 (x4 + 2)), vI (h 38 (x4 + 3))] (ab_up (ab_up (ab_up h 12 (s * 10 + x) e) 5 7 0) 5 9 0) _
    rw [← es, ← ex, ← ee]
    refine ⟨sides5 L, c_54 (by show h 6 7 ≤ 50; omega) (by show 0 ≤ h 6 1 ∧ h 6 1 ≤ 8; omega) (fun q3 => absurd (show 0 ≤ s ∧ s < h 6 7 ∧ 0 ≤ x ∧ x < 10 by omega) q3) (fun _ q3 => absurd (show e = -1 ∨ (0 ≤ e ∧ e < h 6 7) ∨ (100 ≤ e ∧ e ≤ 100 + h 6 1) ∨ e = 200 by omega) q3) (fun _ _ => ?_)⟩
    refine cmp3 rfl ⟨by omega, N _ _ _ ⟨gp, ⟨au_put A (10 * s + x) e, ⟨ai.1, ai.2.1, fun s' x' a1 a2 a3 a4 => ?_⟩, ?_, ?_, ln⟩, ft, ins, PR_0 rfl rfl rfl rfl, sc⟩ rfl (by show h 39 0 ≤ h 39 0 + 1; omega)⟩
    · show okE (h 1 0) A.1 (updc A.2.2 (10 * s + x) e (10 * s' + x'))
      by_cases d : 10 * s' + x' = 10 * s + x
      · rw [d, updc_at]; unfold okE; omega
      · rw [updc_ne _ _ d]; exact ai.2.2 s' x' a1 a2 a3 a4
    · exact rc_put (c := h 2 0) (e := h 12) (t := h 13) rc (by omega)
    · exact rm_put (c := h 6 7) (e := h 26) (t := h 25) rm
theorem k_9 (S : Sim h) (L : Lp x4 h) (N : Nx x4 h K) : ((-2147483648 ≤ x4 + 1 ∧ x4 + 1 ≤ 2147483647) ∧ (0 ≤ x4 + 1 ∧ x4 + 1 < h 38 (-1))) ∧ C 9 [vR 0, vI (h 38 (x4 + 1))] h (kI (fun v122 h122 => ((-2147483648 ≤ x4 + 1 ∧ x4 + 1 ≤ 2147483647) ∧ (0 ≤ x4 + 1 ∧ x4 + 1 < h122 38 (-1))) ∧ C 66 [vR 6, vI (h122 38 (x4 + 1))] h122 (kI (fun v125 h125 => ((v122 = v125 → ((-2147483648 ≤ x4 + 5 ∧ x4 + 5 ≤ 2147483647)) ∧ X 136 13 [vR 38, vR 0, vR 6, vR 37, vI (x4 + 5), w5, w6] [] h125 K) ∧ (¬ v122 = v125 → K (oI 0) h125)))))) := by
  obtain ⟨gp, au, ft, ins, pr, sc⟩ := S
  unfold Lp at L
  refine ⟨by omega, ?_⟩
  obtain ⟨x, ex⟩ : ∃ x, x = h 38 (x4 + 1) := ⟨_, rfl⟩
  rw [← ex]
  have go : ∀ v, ((x = 0 → v = h 6 13) ∧ (x = 1 → v = h 6 14) ∧ (x = 2 → v = h 6 15) ∧ (x = 3 → v = h 6 16) ∧ (x < 0 ∨ 3 < x → v = -1)) → ((-2147483648 ≤ x4 + 1 ∧ x4 + 1 ≤ 2147483647) ∧ (0 ≤ x4 + 1 ∧ x4 + 1 < h 38 (-1))) ∧ C 66 [vR 6, vI (h 38 (x4 + 1))] h (kI (fun v125 h125 => ((v = v125 → ((-2147483648 ≤ x4 + 5 ∧ x4 + 5 ≤ 2147483647)) ∧ X 136 13 [vR 38, vR 0, vR 6, vR 37, vI (x4 + 5), w5, w6] [] h125 K) ∧ (¬ v = v125 → K (oI 0) h125)))) := by
    intro v hv
    rw [← ex]
    have nx := N (ab_up h 6 0 0) w5 w6 ⟨gp, au, ft, ins, pr, sc⟩ rfl (by show h 39 0 ≤ h 39 0 + 1; omega)
    refine ⟨by omega, s_66_0 x h _ ⟨fun z => ⟨fun z2 => ⟨fun z3 => ⟨fun z4 => cmp3 (hv.2.2.2.2 (by omega)) ⟨by omega, nx⟩, fun z4 => cmp3 (hv.2.2.2.1 z4) ⟨by omega, nx⟩⟩, fun z3 => cmp3 (hv.2.2.1 z3) ⟨by omega, nx⟩⟩, fun z2 => cmp3 (hv.2.1 z2) ⟨by omega, nx⟩⟩, fun z => cmp3 (hv.1 z) ⟨by omega, nx⟩⟩⟩
  obtain ⟨f0, f1, f2, f3⟩ := ft
  refine s_9_0 x h _ ⟨fun z => go (-1) (by omega), fun z => ⟨fun z2 => ⟨by omega, go (h 15 x) ?_⟩, fun z2 => go (-1) (by omega)⟩⟩
  refine ⟨fun e => ?_, fun e => ?_, fun e => ?_, fun e => ?_, fun e => absurd e (by omega)⟩
  · rw [e]; exact f0
  · rw [e]; exact f1
  · rw [e]; exact f2
  · rw [e]; exact f3
theorem k_10 (S : Sim h) (L : Lp x4 h) (N : Nx x4 h K) : ((-2147483648 ≤ x4 + 1 ∧ x4 + 1 ≤ 2147483647) ∧ (0 ≤ x4 + 1 ∧ x4 + 1 < h 38 (-1))) ∧ C 10 [vR 0, vI (h 38 (x4 + 1))] h (kI (fun v130 h130 => ((-2147483648 ≤ x4 + 1 ∧ x4 + 1 ≤ 2147483647) ∧ (0 ≤ x4 + 1 ∧ x4 + 1 < h130 38 (-1))) ∧ C 67 [vR 6, vI (h130 38 (x4 + 1))] h130 (kI (fun v133 h133 => ((v130 = v133 → ((-2147483648 ≤ x4 + 5 ∧ x4 + 5 ≤ 2147483647)) ∧ X 136 13 [vR 38, vR 0, vR 6, vR 37, vI (x4 + 5), w5, w6] [] h133 K) ∧ (¬ v130 = v133 → K (oI 0) h133)))))) := by
  obtain ⟨gp, au, ft, ins, pr, sc⟩ := S
  unfold Lp at L
  refine ⟨by omega, ?_⟩
  obtain ⟨x, ex⟩ : ∃ x, x = h 38 (x4 + 1) := ⟨_, rfl⟩
  rw [← ex]
  obtain ⟨i1, i2, i3⟩ := id ins
  have nx := N (ab_up h 6 0 0) w5 w6 ⟨gp, au, ft, ins, pr, sc⟩ rfl (by show h 39 0 ≤ h 39 0 + 1; omega)
  refine s_10_0 x h _ ⟨fun z => ?_, fun z => ⟨fun z2 => ?_, fun z2 => ⟨fun z3 => ⟨by omega, ?_⟩, fun z3 => ?_⟩⟩⟩
  · show (_ ∧ _) ∧ C 67 [vR 6, vI (h 38 (x4 + 1))] h _
    rw [← ex]
    exact ⟨sides1 L, s_67_0 x h _ ⟨fun _ => cmp3 rfl ⟨by omega, nx⟩, fun q => absurd q (by omega)⟩⟩
  · show (_ ∧ _) ∧ C 67 [vR 6, vI (h 38 (x4 + 1))] h _
    rw [← ex]
    exact ⟨sides1 L, s_67_0 x h _ ⟨fun _ => cmp3 rfl ⟨by omega, nx⟩, fun q => ⟨fun _ => cmp3 rfl ⟨by omega, nx⟩, fun q => absurd q (by omega)⟩⟩⟩
  · show (_ ∧ _) ∧ C 67 [vR 6, vI (h 38 (x4 + 1))] (ab_up (ab_up (ab_up (ab_up h 5 7 0) 5 9 0) 16 (h 5 3) x) 5 3 (h 5 3 + 1)) _
    rw [← ex]
    refine ⟨sides1 L, s_67_0 x _ _ ⟨fun q => absurd q (by omega), fun q => ⟨fun q => absurd q (by omega), fun q => ⟨fun _ => ?_, fun (q : h 6 17 = 20) => absurd q (by omega)⟩⟩⟩⟩
    refine ⟨?_, ?_⟩
    · show (0 ≤ h 6 17 ∧ h 6 17 < 20) ∧ (-2147483648 ≤ h 6 17 + 1 ∧ h 6 17 + 1 ≤ 2147483647)
      omega
    refine cmp3 (by show h 5 3 + 1 = h 6 17 + 1; omega) ⟨by omega, N _ _ _ ⟨gp, au, ft, ⟨?_, ?_, fun i a b => ?_⟩, PR_0 rfl rfl rfl rfl, sc⟩ rfl (by show h 39 0 ≤ h 39 0 + 1; omega)⟩
    · show h 6 17 + 1 = h 5 3 + 1
      omega
    · show 0 ≤ h 5 3 + 1 ∧ h 5 3 + 1 ≤ 20
      omega
    · have b : i < h 5 3 + 1 := b
      show (if i = h 6 17 then x else h 29 i) = (if i = h 5 3 then x else h 16 i) ∧ 4 ≤ (if i = h 5 3 then x else h 16 i) ∧ (if i = h 5 3 then x else h 16 i) < 9
      rw [i1]
      by_cases d : i = h 5 3
      · rw [if_pos d, if_pos d]; omega
      · rw [if_neg d, if_neg d]; exact i3 i a (by omega)
  · show (_ ∧ _) ∧ C 67 [vR 6, vI (h 38 (x4 + 1))] h _
    rw [← ex]
    exact ⟨sides1 L, s_67_0 x h _ ⟨fun q => absurd q (by omega), fun q => ⟨fun q => absurd q (by omega), fun q => ⟨fun q => absurd q (by omega), fun _ => cmp3 rfl ⟨by omega, nx⟩⟩⟩⟩⟩
theorem k_11 (S : Sim h) (L : Lp x4 h) (N : Nx x4 h K) : C 11 [vR 0] h (kV (fun h136 => C 68 [vR 6] h136 (kV (fun h137 => ((-2147483648 ≤ x4 + 5 ∧ x4 + 5 ≤ 2147483647)) ∧ X 136 13 [vR 38, vR 0, vR 6, vR 37, vI (x4 + 5), w5, w6] [] h137 K)))) := by
  obtain ⟨gp, au, ft, ins, pr, sc⟩ := S
  refine s_11_0 h _ ?_
  refine s_68_0 _ _ ⟨by unfold Lp at L; omega, N _ _ _ ⟨gp, au, ft, ⟨rfl, by show 0 ≤ (0 : Int) ∧ (0 : Int) ≤ 20; decide, fun i a b => absurd (show i < 0 from b) (by omega)⟩, PR_0 rfl rfl rfl rfl, sc⟩ rfl (by show h 39 0 ≤ h 39 0 + 1; omega)⟩
theorem k_13 (S : Sim h) (L : Lp x4 h) (N : Nx x4 h K) : C 13 [vR 0] h (kI (fun v150 h150 => C 75 [vR 6] h150 (kI (fun v151 h151 => ((v150 = v151 → ((-2147483648 ≤ x4 + 5 ∧ x4 + 5 ≤ 2147483647)) ∧ X 136 13 [vR 38, vR 0, vR 6, vR 37, vI (x4 + 5), w5, w6] [] h151 K) ∧ (¬ v150 = v151 → K (oI 0) h151)))))) := by
  obtain ⟨gp, au, ft, ins, pr, sc⟩ := S
  refine s_13_0 h _ ?_
  refine s_75_0 _ _ ?_
  refine cmp3 pr.2.2.2.1.1.symm ⟨by unfold Lp at L; omega, N _ _ _ ⟨gp, au, ft, ins, pr, sc⟩ rfl (by show h 39 0 ≤ h 39 0 + 1; omega)⟩
theorem c_135 {i f : Int} (H1 : ¬ (0 ≤ i ∧ i < h 5 9) → K (oI 1) (ab_up h 39 0 (h 39 0 + 1))) (H2 : (0 ≤ i ∧ i < h 5 9) → ¬ (0 ≤ f ∧ f < 5) → K (oI 2) (ab_up h 39 0 (h 39 0 + 1))) (H0 : (0 ≤ i ∧ i < h 5 9) → (0 ≤ f ∧ f < 5) → ((-2147483648 ≤ i * 5 ∧ i * 5 ≤ 2147483647) ∧ (0 ≤ i * 5 + f ∧ i * 5 + f < 300) ∧ (-2147483648 ≤ h 19 (i * 5 + f) ∧ h 19 (i * 5 + f) ≤ 2147483647)) ∧ K (oI 0) (ab_up h 37 0 (h 19 (i * 5 + f)))) : C 135 [vR 0, vI i, vI f, vR 37] h K :=
  s_135_0 i f h K ⟨fun z => H1 (by omega), fun z => ⟨fun z2 => ⟨fun z3 => H2 (by omega) (by omega), fun z3 => ⟨fun z4 => H0 (by omega) (by omega), fun z4 => H2 (by omega) (by omega)⟩⟩, fun z2 => H1 (by omega)⟩⟩
theorem k_14 (S : Sim h) (L : Lp x4 h) (N : Nx x4 h K) : ((-2147483648 ≤ x4 + 1 ∧ x4 + 1 ≤ 2147483647) ∧ (0 ≤ x4 + 1 ∧ x4 + 1 < h 38 (-1)) ∧ (-2147483648 ≤ x4 + 2 ∧ x4 + 2 ≤ 2147483647) ∧ (0 ≤ x4 + 2 ∧ x4 + 2 < h 38 (-1))) ∧ C 135 [vR 0, vI (h 38 (x4 + 1)), vI (h 38 (x4 + 2)), vR 37] h (kI (fun v158 h158 => ((-2147483648 ≤ x4 + 1 ∧ x4 + 1 ≤ 2147483647) ∧ (0 ≤ x4 + 1 ∧ x4 + 1 < h158 38 (-1)) ∧ (-2147483648 ≤ x4 + 2 ∧ x4 + 2 ≤ 2147483647) ∧ (0 ≤ x4 + 2 ∧ x4 + 2 < h158 38 (-1))) ∧ C 76 [vR 6, vI (h158 38 (x4 + 1)), vI (h158 38 (x4 + 2))] h158 (kI (fun v163 h163 => ((h163 6 0 = v158 → ((¬ v158 = 0 → ((-2147483648 ≤ x4 + 5 ∧ x4 + 5 ≤ 2147483647)) ∧ X 136 13 [vR 38, vR 0, vR 6, vR 37, vI (x4 + 5), vI v158, vI v163] [] h163 K) ∧ (v158 = 0 → ((h163 37 0 = v163 → ((-2147483648 ≤ x4 + 5 ∧ x4 + 5 ≤ 2147483647)) ∧ X 136 13 [vR 38, vR 0, vR 6, vR 37, vI (x4 + 5), vI v158, vI v163] [] h163 K) ∧ (¬ h163 37 0 = v163 → K (oI 0) h163))))) ∧ (¬ h163 6 0 = v158 → K (oI 0) h163)))))) := by
  obtain ⟨gp, au, ft, ins, pr, sc⟩ := S
  unfold Lp at L
  refine ⟨by omega, ?_⟩
  obtain ⟨i, ei⟩ : ∃ i, i = h 38 (x4 + 1) := ⟨_, rfl⟩
  obtain ⟨f, ef⟩ : ∃ f, f = h 38 (x4 + 2) := ⟨_, rfl⟩
  rw [← ei, ← ef]
  have p9 := pr.2.1
  have pt := pr.2.2.2.1
  have p22 := pt.1
  have tr := pr.2.2.2.2
  refine c_135 (fun q => ?_) (fun q q2 => ?_) (fun q q2 => ?_)
  · show (_ ∧ _ ∧ _ ∧ _) ∧ C 76 [vR 6, vI (h 38 (x4 + 1)), vI (h 38 (x4 + 2))] (ab_up h 39 0 (h 39 0 + 1)) _
    rw [← ei, ← ef]
    have nx := N (ab_up (ab_up (ab_up h 39 0 (h 39 0 + 1)) 6 0 0) 6 0 1) (vI 1) (vI 0) ⟨gp, au, ft, ins, pr, sc⟩ rfl (Int.le_refl _)
    refine ⟨sides4 L, s_76_0 i f _ _ ⟨fun _ => cmp1 rfl (fun q => absurd q (by decide)) ⟨by omega, nx⟩, fun z => ⟨fun (z2 : i < h 6 22) => absurd q (by omega), fun _ => cmp1 rfl (fun q => absurd q (by decide)) ⟨by omega, nx⟩⟩⟩⟩
  · show (_ ∧ _ ∧ _ ∧ _) ∧ C 76 [vR 6, vI (h 38 (x4 + 1)), vI (h 38 (x4 + 2))] (ab_up h 39 0 (h 39 0 + 1)) _
    rw [← ei, ← ef]
    have nx := N (ab_up (ab_up (ab_up h 39 0 (h 39 0 + 1)) 6 0 0) 6 0 2) (vI 2) (vI 0) ⟨gp, au, ft, ins, pr, sc⟩ rfl (Int.le_refl _)
    refine ⟨sides4 L, s_76_0 i f _ _ ⟨fun z => absurd z (by omega), fun z => ⟨fun _ => ⟨fun z => absurd z (by omega), fun z => absurd z (by omega), fun z => absurd z (by omega), fun z => absurd z (by omega), fun z => absurd z (by omega), fun _ => cmp1 rfl (fun q => absurd q (by decide)) ⟨by omega, nx⟩⟩, fun (z2 : h 6 22 ≤ i) => absurd z2 (by omega)⟩⟩⟩
  · have t := tr (i * 5 + f) (by omega) (by omega)
    refine ⟨by omega, ?_⟩
    show (_ ∧ _ ∧ _ ∧ _) ∧ C 76 [vR 6, vI (h 38 (x4 + 1)), vI (h 38 (x4 + 2))] (ab_up h 37 0 (h 19 (i * 5 + f))) _
    rw [← ei, ← ef]
    obtain ⟨t0, t1, t2, t3, t4⟩ := pt.2 i q.1 q.2
    have nx := fun w => N (ab_up (ab_up h 37 0 (h 19 (i * 5 + f))) 6 0 0) (vI 0) w ⟨gp, au, ft, ins, pr, sc⟩ rfl (by show h 39 0 ≤ h 39 0 + 1; omega)
    refine ⟨sides4 L, s_76_0 i f _ _ ⟨fun z => absurd z (by omega), fun z => ⟨fun _ => ⟨fun e => ⟨by omega, cmp1 rfl (fun _ => ?_) ⟨by omega, nx _⟩⟩, fun e => ⟨by omega, cmp1 rfl (fun _ => ?_) ⟨by omega, nx _⟩⟩, fun e => ⟨by omega, cmp1 rfl (fun _ => ?_) ⟨by omega, nx _⟩⟩, fun e => ⟨by omega, cmp1 rfl (fun _ => ?_) ⟨by omega, nx _⟩⟩, fun e => ⟨by omega, cmp1 rfl (fun _ => ?_) ⟨by omega, nx _⟩⟩, fun z => absurd z (by omega)⟩, fun (z2 : h 6 22 ≤ i) => absurd z2 (by omega)⟩⟩⟩
    · show h 19 (i * 5 + f) = h 32 i
      rw [e]; exact t0.symm
    · show h 19 (i * 5 + f) = h 33 i
      rw [e]; exact t1.symm
    · show h 19 (i * 5 + f) = h 34 i
      rw [e]; exact t2.symm
    · show h 19 (i * 5 + f) = h 35 i
      rw [e]; exact t3.symm
    · show h 19 (i * 5 + f) = h 36 i
      rw [e]; exact t4.symm
theorem k_15 (S : Sim h) (L : Lp x4 h) (N : Nx x4 h K) : C 15 [vR 0] h (kI (fun v169 h169 => C 77 [vR 6] h169 (kI (fun v170 h170 => ((v169 = v170 → ((-2147483648 ≤ x4 + 5 ∧ x4 + 5 ≤ 2147483647)) ∧ X 136 13 [vR 38, vR 0, vR 6, vR 37, vI (x4 + 5), w5, w6] [] h170 K) ∧ (¬ v169 = v170 → K (oI 0) h170)))))) := by
  obtain ⟨gp, au, ft, ins, pr, sc⟩ := S
  have nx := N (ab_up h 6 0 0) w5 w6 ⟨gp, au, ft, ins, pr, sc⟩ rfl (by show h 39 0 ≤ h 39 0 + 1; omega)
  unfold Lp at L
  refine s_15_0 h _ ?_
  have p1 := pr.1
  have p3 := pr.2.2.1
  refine s_77_0 _ _ ⟨fun z => cmp3 (by omega) ⟨by omega, nx⟩, fun z => ⟨by omega, cmp3 (by omega) ⟨by omega, nx⟩⟩⟩
end Side
