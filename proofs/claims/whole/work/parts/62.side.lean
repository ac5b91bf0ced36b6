/-! Side by side: items, the check, the making, the parse. -/
section Side2
variable {x4 : Int} {w5 w6 : ab_V} {h : ab_S} {K : ab_O → ab_S → Prop}
theorem GP_tr {h h' : ab_S} (S : GP h) (e1 : h' 1 0 = h 1 0) (e7 : h' 7 = h 7) (e8 : h' 8 = h 8) (e9 : h' 9 = h 9) (e20 : h' 20 = h 20) (e21 : h' 21 = h 21) (e22 : h' 22 = h 22) (e6 : h' 6 1 = h 6 1) : GP h' := by
  unfold GP
  rw [e1, e7, e8, e9, e20, e21, e22, e6]
  exact S
theorem IN_tr {h h' : ab_S} (S : IN h) (e5 : h' 5 3 = h 5 3) (e16 : h' 16 = h 16) (e29 : h' 29 = h 29) (e6 : h' 6 17 = h 6 17) : IN h' := by
  unfold IN
  rw [e5, e16, e29, e6]
  exact S
theorem PR_tr {h h' : ab_S} (S : PR h) (e7 : h' 5 7 = h 5 7) (e9 : h' 5 9 = h 5 9) (e19 : h' 19 = h 19) (f19 : h' 6 19 = h 6 19) (f21 : h' 6 21 = h 6 21) (f22 : h' 6 22 = h 6 22) (e32 : h' 32 = h 32) (e33 : h' 33 = h 33) (e34 : h' 34 = h 34) (e35 : h' 35 = h 35) (e36 : h' 36 = h 36) : PR h' := by
  unfold PR PT TR
  rw [e7, e9, e19, f19, f21, f22, e32, e33, e34, e35, e36]
  exact S
theorem SC_tr {h h' : ab_S} (S : SC h) (e : h' 38 = h 38) : SC h' := by
  unfold SC
  rw [e]
  exact S
theorem c_131 {s r d a : Int} (hc : h 2 0 ≤ 50) (gn : h 1 0 ≤ 8) (hz : 0 ≤ s → s < h 2 0 → 0 ≤ r → r ≤ h 1 0 → h 8 r ≤ 4)
    (H1 : ¬ (0 ≤ s ∧ s < h 2 0) → K (oI 1) (ab_up h 39 0 (h 39 0 + 1))) (H2 : (0 ≤ s ∧ s < h 2 0) → ¬ (0 ≤ r ∧ r ≤ h 1 0 ∧ 0 ≤ d ∧ d ≤ h 8 r ∧ 4 ≤ a ∧ a ≤ 9) → K (oI 2) (ab_up h 39 0 (h 39 0 + 1)))
    (H0 : (0 ≤ s ∧ s < h 2 0) → (0 ≤ r ∧ r ≤ h 1 0 ∧ 0 ≤ d ∧ d ≤ h 8 r ∧ 4 ≤ a ∧ a ≤ 9) → ∀ v, ((v = 0 ∧ b_and (h 13 (s * 45 + (r * 5 + d))) (b_shl 1 (a - 4)) = 0) ∨ (v = 1 ∧ ¬ b_and (h 13 (s * 45 + (r * 5 + d))) (b_shl 1 (a - 4)) = 0)) → K (oI 0) (ab_up h 37 0 v)) : C 131 [vR 0, vI s, vI r, vI d, vI a, vR 37] h K := by
  refine s_131_0 s r d a h K ⟨fun z => H1 (by omega), fun z => ⟨fun z2 => ⟨fun z3 => H2 (by omega) (by omega), fun z3 => ⟨fun z4 => ⟨fun z5 => H2 (by omega) (by omega), fun z5 => ⟨by omega, fun z6 => H2 (by omega) (by omega), fun z6 => ⟨fun z7 => H2 (by omega) (by omega), fun z7 => ⟨fun z8 => H2 (by omega) (by omega), fun z8 => ?_⟩⟩⟩⟩, fun z4 => H2 (by omega) (by omega)⟩⟩, fun z2 => H1 (by omega)⟩⟩
  have := hz z z2 z3 z4
  exact ⟨by omega, fun z9 => H0 (by omega) (by omega) 0 (Or.inl ⟨rfl, z9⟩), fun z9 => H0 (by omega) (by omega) 1 (Or.inr ⟨rfl, z9⟩)⟩
theorem c_132 {s r d a : Int} (hc : h 2 0 ≤ 50) (gn : h 1 0 ≤ 8) (hz : 0 ≤ s → s < h 2 0 → 0 ≤ r → r ≤ h 1 0 → h 8 r ≤ 4)
    (H1 : ¬ (0 ≤ s ∧ s < h 2 0) → K (oI 1) (ab_up h 39 0 (h 39 0 + 1))) (H2 : (0 ≤ s ∧ s < h 2 0) → ¬ (0 ≤ r ∧ r ≤ h 1 0 ∧ 0 ≤ d ∧ d ≤ h 8 r ∧ 4 ≤ a ∧ a ≤ 9) → K (oI 2) (ab_up h 39 0 (h 39 0 + 1)))
    (H0 : (0 ≤ s ∧ s < h 2 0) → (0 ≤ r ∧ r ≤ h 1 0 ∧ 0 ≤ d ∧ d ≤ h 8 r ∧ 4 ≤ a ∧ a ≤ 9) → ∀ v m, m = b_xor (h 13 (s * 45 + (r * 5 + d))) (b_shl 1 (a - 4)) → ((v = 0 ∧ b_and m (b_shl 1 (a - 4)) = 0) ∨ (v = 1 ∧ ¬ b_and m (b_shl 1 (a - 4)) = 0)) → K (oI 0) (ab_up (ab_up h 13 (s * 45 + (r * 5 + d)) m) 37 0 v)) : C 132 [vR 0, vI s, vI r, vI d, vI a, vR 37] h K := by
  have er : ∀ m, ab_up h 13 (s * 45 + (r * 5 + d)) m 13 (s * 45 + (r * 5 + d)) = m := by
    intro m
    rw [up_c, upc_at, updc_at]
  refine s_132_0 s r d a h K ?_
  rw [er]
  refine ⟨fun z => H1 (by omega), fun z => ⟨fun z2 => ⟨fun z3 => H2 (by omega) (by omega), fun z3 => ⟨fun z4 => ⟨fun z5 => H2 (by omega) (by omega), fun z5 => ⟨by omega, fun z6 => H2 (by omega) (by omega), fun z6 => ⟨fun z7 => H2 (by omega) (by omega), fun z7 => ⟨fun z8 => H2 (by omega) (by omega), fun z8 => ?_⟩⟩⟩⟩, fun z4 => H2 (by omega) (by omega)⟩⟩, fun z2 => H1 (by omega)⟩⟩
  have := hz z z2 z3 z4
  exact ⟨by omega, fun z9 => H0 (by omega) (by omega) 0 _ rfl (Or.inl ⟨rfl, z9⟩), fun z9 => H0 (by omega) (by omega) 1 _ rfl (Or.inr ⟨rfl, z9⟩)⟩
theorem c_56 {s r d a zr : Int} (hc : h 6 7 ≤ 50) (gn : h 6 1 ≤ 8) (hz : 0 ≤ s → s < h 6 7 → 0 ≤ r → r ≤ h 6 1 → szo h r = zr ∧ zr ≤ 4)
    (H1 : ¬ (0 ≤ s ∧ s < h 6 7) → K (oI 0) (ab_up h 6 0 1)) (H2 : (0 ≤ s ∧ s < h 6 7) → ¬ (0 ≤ r ∧ r ≤ h 6 1 ∧ 0 ≤ d ∧ d ≤ zr ∧ 4 ≤ a ∧ a ≤ 9) → K (oI 0) (ab_up h 6 0 2))
    (H0 : (0 ≤ s ∧ s < h 6 7) → (0 ≤ r ∧ r ≤ h 6 1 ∧ 0 ≤ d ∧ d ≤ zr ∧ 4 ≤ a ∧ a ≤ 9) → (h 25 (270 * s + (30 * r + 6 * d + (a - 4))) = 0 ∨ h 25 (270 * s + (30 * r + 6 * d + (a - 4))) = 1) ∧ ∀ v, ((v = 0 ∧ h 25 (270 * s + (30 * r + 6 * d + (a - 4))) = 0) ∨ (v = 1 ∧ ¬ h 25 (270 * s + (30 * r + 6 * d + (a - 4))) = 0)) → K (oI v) (ab_up h 6 0 0)) : C 56 [vR 6, vI s, vI r, vI d, vI a] h K := by
  refine s_56_0 s r d a h K ?_
  rw [show 30 * r + 6 * d + a - 4 = 30 * r + 6 * d + (a - 4) by omega]
  refine ⟨fun z => H1 (by omega), fun z => ⟨fun z2 => H1 (by omega), fun z2 => ⟨fun z3 => H2 (by omega) (by omega), fun z3 => ⟨fun z4 => H2 (by omega) (by omega), fun z4 => ⟨fun z5 => H2 (by omega) (by omega), fun z5 => ?_⟩⟩⟩⟩⟩
  obtain ⟨ez, z4'⟩ := hz z z2 z3 z4
  rw [ez]
  refine ⟨by omega, fun z6 => H2 (by omega) (by omega), fun z6 => ⟨fun z7 => H2 (by omega) (by omega), fun z7 => ⟨fun z8 => H2 (by omega) (by omega), fun z8 => ?_⟩⟩⟩
  have q := H0 (by omega) (by omega)
  have q1 := q.1
  exact ⟨by omega, fun z9 => q.2 0 (Or.inl ⟨rfl, z9⟩), fun z9 => q.2 1 (Or.inr ⟨rfl, z9⟩)⟩
theorem c_57 {s r d a zr : Int} (hc : h 6 7 ≤ 50) (gn : h 6 1 ≤ 8) (hz : 0 ≤ s → s < h 6 7 → 0 ≤ r → r ≤ h 6 1 → szo h r = zr ∧ zr ≤ 4)
    (H1 : ¬ (0 ≤ s ∧ s < h 6 7) → K (oI 0) (ab_up h 6 0 1)) (H2 : (0 ≤ s ∧ s < h 6 7) → ¬ (0 ≤ r ∧ r ≤ h 6 1 ∧ 0 ≤ d ∧ d ≤ zr ∧ 4 ≤ a ∧ a ≤ 9) → K (oI 0) (ab_up h 6 0 2))
    (H0 : (0 ≤ s ∧ s < h 6 7) → (0 ≤ r ∧ r ≤ h 6 1 ∧ 0 ≤ d ∧ d ≤ zr ∧ 4 ≤ a ∧ a ≤ 9) → ∀ v, ((v = 1 ∧ h 25 (270 * s + (30 * r + 6 * d + (a - 4))) = 0) ∨ (v = 0 ∧ ¬ h 25 (270 * s + (30 * r + 6 * d + (a - 4))) = 0)) → K (oI v) (ab_up (ab_up h 6 0 0) 25 (270 * s + (30 * r + 6 * d + (a - 4))) v)) : C 57 [vR 6, vI s, vI r, vI d, vI a] h K := by
  have er : ∀ v, ab_up (ab_up h 6 0 0) 25 (270 * s + (30 * r + 6 * d + (a - 4))) v 25 (270 * s + (30 * r + 6 * d + (a - 4))) = v := by
    intro m
    rw [up_c, upc_at, updc_at]
  refine s_57_0 s r d a h K ?_
  rw [show 30 * r + 6 * d + a - 4 = 30 * r + 6 * d + (a - 4) by omega, er, er]
  refine ⟨fun z => H1 (by omega), fun z => ⟨fun z2 => H1 (by omega), fun z2 => ⟨fun z3 => H2 (by omega) (by omega), fun z3 => ⟨fun z4 => H2 (by omega) (by omega), fun z4 => ⟨fun z5 => H2 (by omega) (by omega), fun z5 => ?_⟩⟩⟩⟩⟩
  obtain ⟨ez, z4'⟩ := hz z z2 z3 z4
  rw [ez]
  refine ⟨by omega, fun z6 => H2 (by omega) (by omega), fun z6 => ⟨fun z7 => H2 (by omega) (by omega), fun z7 => ⟨fun z8 => H2 (by omega) (by omega), fun z8 => ?_⟩⟩⟩
  exact ⟨by omega, fun z9 => ⟨by omega, H0 (by omega) (by omega) 0 (Or.inr ⟨rfl, z9⟩)⟩, fun z9 => ⟨by omega, H0 (by omega) (by omega) 1 (Or.inl ⟨rfl, z9⟩)⟩⟩
def tn (A : au_T) (s i : Int) : au_T := (A.1, fun s' j => if s' = s ∧ j = i then ¬ A.2.1 s' j else A.2.1 s' j, A.2.2)
theorem tn_rc {A : au_T} {c : Int} {e t : Int → Int} (R : RC A c e t) {s k u : Int} (hs : 0 ≤ s ∧ s < A.1) (hk : 0 ≤ k ∧ k < 45) (hu : 0 ≤ u ∧ u < 6) : RC (tn A s (6 * k + u)) c e (updc t (s * 45 + k) (b_xor (t (s * 45 + k)) (b_shl 1 u))) := by
  have rg := rc_rg R hs hk
  have bx := bck1_get rg hu
  refine ⟨R.1, fun s' s0 s1 => ⟨fun j j0 j1 => ?_, fun i i0 i1 => ?_⟩, R.2.2⟩
  · show 0 ≤ updc t (s * 45 + k) _ (s' * 45 + j) ∧ updc t (s * 45 + k) _ (s' * 45 + j) < 64
    by_cases d : s' * 45 + j = s * 45 + k
    · rw [d, updc_at]; exact bx.2.1
    · rw [updc_ne _ _ d]; exact rc_rg R ⟨s0, s1⟩ ⟨j0, j1⟩
  · show bt (updc t (s * 45 + k) _ (s' * 45 + i / 6)) (i % 6) = 1 ↔ if s' = s ∧ i = 6 * k + u then ¬ A.2.1 s' i else A.2.1 s' i
    have old := rc_bt R (s := s') ⟨s0, s1⟩ (k := i / 6) (u := i % 6) (by omega) (by omega)
    rw [show 6 * (i / 6) + i % 6 = i by omega] at old
    by_cases d : s' * 45 + i / 6 = s * 45 + k
    · have ds : s' = s := by omega
      subst ds
      rw [d, updc_at, (bx.2.2.2 (i % 6) (by omega) (by omega)).2]
      rw [d] at old
      have b01 := bt_01 (t (s' * 45 + k)) (i % 6)
      by_cases f : i % 6 = u
      · rw [if_pos f, if_pos ⟨rfl, by omega⟩, ← old]
        omega
      · rw [if_neg f, if_neg (fun q => f (by omega))]
        exact old
    · rw [updc_ne _ _ d, if_neg (fun q => d (by omega))]
      exact old
theorem tn_rm {A : au_T} {c : Int} {e t : Int → Int} (R : RM A c t e) {s i v : Int} (hs : 0 ≤ s ∧ s < A.1) (hi : 0 ≤ i ∧ i < 270) (hv : (v = 1 ∧ t (270 * s + i) = 0) ∨ (v = 0 ∧ ¬ t (270 * s + i) = 0)) : RM (tn A s i) c (updc t (270 * s + i) v) e := by
  refine ⟨R.1, fun s' j s0 s1 j0 j1 => ?_, R.2.2⟩
  show (updc t (270 * s + i) v (270 * s' + j) = 0 ∨ updc t (270 * s + i) v (270 * s' + j) = 1) ∧ (updc t (270 * s + i) v (270 * s' + j) = 1 ↔ if s' = s ∧ j = i then ¬ A.2.1 s' j else A.2.1 s' j)
  have old := R.2.1 s' j s0 s1 j0 j1
  by_cases d : 270 * s' + j = 270 * s + i
  · have ds : s' = s := by omega
    have dj : j = i := by omega
    subst ds
    subst dj
    rw [updc_at, if_pos ⟨rfl, rfl⟩, ← old.2]
    have o1 := old.1
    omega
  · rw [updc_ne _ _ d, if_neg (fun q => d (by omega))]
    exact old
set_option maxHeartbeats 4000000 in
theorem k_6 (S : Sim h) (L : Lp x4 h) (N : Nx x4 h K) : ((-2147483648 ≤ x4 + 1 ∧ x4 + 1 ≤ 2147483647) ∧ (0 ≤ x4 + 1 ∧ x4 + 1 < h 38 (-1)) ∧ (-2147483648 ≤ x4 + 2 ∧ x4 + 2 ≤ 2147483647) ∧ (0 ≤ x4 + 2 ∧ x4 + 2 < h 38 (-1)) ∧ (-2147483648 ≤ x4 + 3 ∧ x4 + 3 ≤ 2147483647) ∧ (0 ≤ x4 + 3 ∧ x4 + 3 < h 38 (-1)) ∧ (-2147483648 ≤ x4 + 4 ∧ x4 + 4 ≤ 2147483647) ∧ (0 ≤ x4 + 4 ∧ x4 + 4 < h 38 (-1))) ∧ C 131 [vR 0, vI (h 38 (x4 + 1)), vI (h 38 (x4 + 2)), vI (h 38 (x4 + 3)), vI (h 38 (x4 + 4)), vR 37] h (kI (fun v69 h69 => ((-2147483648 ≤ x4 + 1 ∧ x4 + 1 ≤ 2147483647) ∧ (0 ≤ x4 + 1 ∧ x4 + 1 < h69 38 (-1)) ∧ (-2147483648 ≤ x4 + 2 ∧ x4 + 2 ≤ 2147483647) ∧ (0 ≤ x4 + 2 ∧ x4 + 2 < h69 38 (-1)) ∧ (-2147483648 ≤ x4 + 3 ∧ x4 + 3 ≤ 2147483647) ∧ (0 ≤ x4 + 3 ∧ x4 + 3 < h69 38 (-1)) ∧ (-2147483648 ≤ x4 + 4 ∧ x4 + 4 ≤ 2147483647) ∧ (0 ≤ x4 + 4 ∧ x4 + 4 < h69 38 (-1))) ∧ C 56 [vR 6, vI (h69 38 (x4 + 1)), vI (h69 38 (x4 + 2)), vI (h69 38 (x4 + 3)), vI (h69 38 (x4 + 4))] h69 (kI (fun v78 h78 => ((h78 6 0 = v69 → ((¬ v69 = 0 → ((-2147483648 ≤ x4 + 5 ∧ x4 + 5 ≤ 2147483647)) ∧ X 136 13 [vR 38, vR 0, vR 6, vR 37, vI (x4 + 5), vI v69, vI v78] [] h78 K) ∧ (v69 = 0 → ((v78 = 0 → ((h78 37 0 = 0 → ((-2147483648 ≤ x4 + 5 ∧ x4 + 5 ≤ 2147483647)) ∧ X 136 13 [vR 38, vR 0, vR 6, vR 37, vI (x4 + 5), vI v69, vI v78] [] h78 K) ∧ (¬ h78 37 0 = 0 → K (oI 0) h78))) ∧ (¬ v78 = 0 → ((h78 37 0 = 1 → ((-2147483648 ≤ x4 + 5 ∧ x4 + 5 ≤ 2147483647)) ∧ X 136 13 [vR 38, vR 0, vR 6, vR 37, vI (x4 + 5), vI v69, vI v78] [] h78 K) ∧ (¬ h78 37 0 = 1 → K (oI 0) h78))))))) ∧ (¬ h78 6 0 = v69 → K (oI 0) h78)))))) := by
  obtain ⟨gp, ⟨A, ai, rc, rm, ln⟩, ft, ins, pr, sc⟩ := S
  unfold Lp at L
  refine ⟨by omega, ?_⟩
  obtain ⟨s, es⟩ : ∃ s, s = h 38 (x4 + 1) := ⟨_, rfl⟩
  obtain ⟨r, er⟩ : ∃ r, r = h 38 (x4 + 2) := ⟨_, rfl⟩
  obtain ⟨d, ed⟩ : ∃ d, d = h 38 (x4 + 3) := ⟨_, rfl⟩
  obtain ⟨a, ea⟩ : ∃ a, a = h 38 (x4 + 4) := ⟨_, rfl⟩
  rw [← es, ← er, ← ed, ← ea]
  have hc := ai.1
  have gn := gp.1
  have r1 := rc.1
  have m1 := rm.1
  have mg := gp.2.2
  have n1 := mg.1
  have zc : 0 ≤ s → s < h 2 0 → 0 ≤ r → r ≤ h 1 0 → szo h r = h 8 r ∧ h 8 r ≤ 4 := by
    intro s0 s1 r0 r1
    have g := gp.2.1 (ln (by omega)).1
    exact ⟨mg_sz (h := h) g mg ⟨r0, r1⟩, (g.2.2.1 r r0 r1).2⟩
  refine c_131 (by omega) (by omega) (fun a b c e => (zc a b c e).2) (fun q => ?_) (fun q q2 => ?_) (fun q q2 v hv => ?_)
  · show (_ ∧ _ ∧ _ ∧ _ ∧ _ ∧ _ ∧ _ ∧ _) ∧ C 56 [vR 6, vI (h 38 (x4 + 1)), vI (h 38 (x4 + 2)), vI (h 38 (x4 + 3)), vI (h 38 (x4 + 4))] (ab_up h 39 0 (h 39 0 + 1)) _
    rw [← es, ← er, ← ed, ← ea]
    refine ⟨sides6 L, ?_⟩
    refine c_56 (zr := h 8 r) (by show h 6 7 ≤ 50; omega) (by show h 6 1 ≤ 8; omega) (fun a b c e => zc a (by show s < h 2 0; have b : s < h 6 7 := b; omega) c (by have e : r ≤ h 6 1 := e; omega)) (fun _ => ?_) (fun q3 => absurd q3 (by show ¬ (0 ≤ s ∧ s < h 6 7); omega)) (fun q3 => absurd q3 (by show ¬ (0 ≤ s ∧ s < h 6 7); omega))
    exact cmp2 rfl (fun q => absurd q (by decide)) ⟨by omega, N _ _ _ ⟨gp, ⟨A, ai, rc, rm, ln⟩, ft, ins, pr, sc⟩ rfl (Int.le_refl _)⟩
  · show (_ ∧ _ ∧ _ ∧ _ ∧ _ ∧ _ ∧ _ ∧ _) ∧ C 56 [vR 6, vI (h 38 (x4 + 1)), vI (h 38 (x4 + 2)), vI (h 38 (x4 + 3)), vI (h 38 (x4 + 4))] (ab_up h 39 0 (h 39 0 + 1)) _
    rw [← es, ← er, ← ed, ← ea]
    refine ⟨sides6 L, ?_⟩
    refine c_56 (zr := h 8 r) (by show h 6 7 ≤ 50; omega) (by show h 6 1 ≤ 8; omega) (fun a b c e => zc a (by show s < h 2 0; have b : s < h 6 7 := b; omega) c (by have e : r ≤ h 6 1 := e; omega)) (fun q3 => absurd (show 0 ≤ s ∧ s < h 6 7 by omega) q3) (fun _ _ => ?_) (fun _ q3 => absurd q3 (by show ¬ (0 ≤ r ∧ r ≤ h 6 1 ∧ 0 ≤ d ∧ d ≤ h 8 r ∧ 4 ≤ a ∧ a ≤ 9); omega))
    exact cmp2 rfl (fun q => absurd q (by decide)) ⟨by omega, N _ _ _ ⟨gp, ⟨A, ai, rc, rm, ln⟩, ft, ins, pr, sc⟩ rfl (Int.le_refl _)⟩
  · show (_ ∧ _ ∧ _ ∧ _ ∧ _ ∧ _ ∧ _ ∧ _) ∧ C 56 [vR 6, vI (h 38 (x4 + 1)), vI (h 38 (x4 + 2)), vI (h 38 (x4 + 3)), vI (h 38 (x4 + 4))] (ab_up h 37 0 v) _
    rw [← es, ← er, ← ed, ← ea]
    refine ⟨sides6 L, ?_⟩
    have z8 := (zc q.1 q.2 q2.1 q2.2.1).2
    have rg := rc_rg rc (s := s) (by omega) (k := r * 5 + d) (by omega)
    have it := rc_it rc (s := s) (r := r) (d := d) (a := a) (by omega) (by omega) (by omega) (by omega)
    have mt := rm.2.1 s (30 * r + 6 * d + (a - 4)) (by omega) (by omega) (by omega) (by omega)
    refine c_56 (zr := h 8 r) (by show h 6 7 ≤ 50; omega) (by show h 6 1 ≤ 8; omega) (fun a b c e => zc a (by show s < h 2 0; have b : s < h 6 7 := b; omega) c (by have e : r ≤ h 6 1 := e; omega)) (fun q3 => absurd (show 0 ≤ s ∧ s < h 6 7 by omega) q3) (fun _ q3 => absurd (show 0 ≤ r ∧ r ≤ h 6 1 ∧ 0 ≤ d ∧ d ≤ h 8 r ∧ 4 ≤ a ∧ a ≤ 9 by omega) q3) (fun _ _ => ⟨mt.1, fun v' hv' => ?_⟩)
    have hv' : (v' = 0 ∧ h 25 (270 * s + (30 * r + 6 * d + (a - 4))) = 0) ∨ (v' = 1 ∧ ¬ h 25 (270 * s + (30 * r + 6 * d + (a - 4))) = 0) := hv'
    have m01 := mt.1
    refine cmp2 rfl (fun _ => ?_) ⟨by omega, N _ _ _ ⟨gp, ⟨A, ai, rc, rm, ln⟩, ft, ins, pr, sc⟩ rfl (by show h 39 0 ≤ h 39 0 + 1; omega)⟩
    show (v' = 0 ∧ v = 0) ∨ (¬ v' = 0 ∧ v = 1)
    rcases hv with ⟨e, y⟩ | ⟨e, y⟩
    · have no : ¬ A.2.1 s (30 * r + 6 * d + (a - 4)) := fun y2 => tst0 rg (by omega) y (it.mpr y2)
      rcases hv' with ⟨e', y'⟩ | ⟨e', y'⟩
      · exact Or.inl ⟨e', e⟩
      · exact absurd (mt.2.mp (by omega)) no
    · have yes := it.mp (tst1 rg (by omega) y)
      rcases hv' with ⟨e', y'⟩ | ⟨e', y'⟩
      · have := mt.2.mpr yes; omega
      · exact Or.inr ⟨by omega, e⟩
set_option maxHeartbeats 4000000 in
theorem k_7 (S : Sim h) (L : Lp x4 h) (N : Nx x4 h K) : ((-2147483648 ≤ x4 + 1 ∧ x4 + 1 ≤ 2147483647) ∧ (0 ≤ x4 + 1 ∧ x4 + 1 < h 38 (-1)) ∧ (-2147483648 ≤ x4 + 2 ∧ x4 + 2 ≤ 2147483647) ∧ (0 ≤ x4 + 2 ∧ x4 + 2 < h 38 (-1)) ∧ (-2147483648 ≤ x4 + 3 ∧ x4 + 3 ≤ 2147483647) ∧ (0 ≤ x4 + 3 ∧ x4 + 3 < h 38 (-1)) ∧ (-2147483648 ≤ x4 + 4 ∧ x4 + 4 ≤ 2147483647) ∧ (0 ≤ x4 + 4 ∧ x4 + 4 < h 38 (-1))) ∧ C 132 [vR 0, vI (h 38 (x4 + 1)), vI (h 38 (x4 + 2)), vI (h 38 (x4 + 3)), vI (h 38 (x4 + 4)), vR 37] h (kI (fun v95 h95 => ((-2147483648 ≤ x4 + 1 ∧ x4 + 1 ≤ 2147483647) ∧ (0 ≤ x4 + 1 ∧ x4 + 1 < h95 38 (-1)) ∧ (-2147483648 ≤ x4 + 2 ∧ x4 + 2 ≤ 2147483647) ∧ (0 ≤ x4 + 2 ∧ x4 + 2 < h95 38 (-1)) ∧ (-2147483648 ≤ x4 + 3 ∧ x4 + 3 ≤ 2147483647) ∧ (0 ≤ x4 + 3 ∧ x4 + 3 < h95 38 (-1)) ∧ (-2147483648 ≤ x4 + 4 ∧ x4 + 4 ≤ 2147483647) ∧ (0 ≤ x4 + 4 ∧ x4 + 4 < h95 38 (-1))) ∧ C 57 [vR 6, vI (h95 38 (x4 + 1)), vI (h95 38 (x4 + 2)), vI (h95 38 (x4 + 3)), vI (h95 38 (x4 + 4))] h95 (kI (fun v104 h104 => ((h104 6 0 = v95 → ((¬ v95 = 0 → ((-2147483648 ≤ x4 + 5 ∧ x4 + 5 ≤ 2147483647)) ∧ X 136 13 [vR 38, vR 0, vR 6, vR 37, vI (x4 + 5), vI v95, vI v104] [] h104 K) ∧ (v95 = 0 → ((v104 = 0 → ((h104 37 0 = 0 → ((-2147483648 ≤ x4 + 5 ∧ x4 + 5 ≤ 2147483647)) ∧ X 136 13 [vR 38, vR 0, vR 6, vR 37, vI (x4 + 5), vI v95, vI v104] [] h104 K) ∧ (¬ h104 37 0 = 0 → K (oI 0) h104))) ∧ (¬ v104 = 0 → ((h104 37 0 = 1 → ((-2147483648 ≤ x4 + 5 ∧ x4 + 5 ≤ 2147483647)) ∧ X 136 13 [vR 38, vR 0, vR 6, vR 37, vI (x4 + 5), vI v95, vI v104] [] h104 K) ∧ (¬ h104 37 0 = 1 → K (oI 0) h104))))))) ∧ (¬ h104 6 0 = v95 → K (oI 0) h104)))))) := by
  obtain ⟨gp, ⟨A, ai, rc, rm, ln⟩, ft, ins, pr, sc⟩ := S
  unfold Lp at L
  refine ⟨by omega, ?_⟩
  obtain ⟨s, es⟩ : ∃ s, s = h 38 (x4 + 1) := ⟨_, rfl⟩
  obtain ⟨r, er⟩ : ∃ r, r = h 38 (x4 + 2) := ⟨_, rfl⟩
  obtain ⟨d, ed⟩ : ∃ d, d = h 38 (x4 + 3) := ⟨_, rfl⟩
  obtain ⟨a, ea⟩ : ∃ a, a = h 38 (x4 + 4) := ⟨_, rfl⟩
  rw [← es, ← er, ← ed, ← ea]
  have hc := ai.1
  have gn := gp.1
  have r1 := rc.1
  have m1 := rm.1
  have mg := gp.2.2
  have n1 := mg.1
  have zc : 0 ≤ s → s < h 2 0 → 0 ≤ r → r ≤ h 1 0 → szo h r = h 8 r ∧ h 8 r ≤ 4 := by
    intro s0 s1 r0 r1
    have g := gp.2.1 (ln (by omega)).1
    exact ⟨mg_sz (h := h) g mg ⟨r0, r1⟩, (g.2.2.1 r r0 r1).2⟩
  refine c_132 (by omega) (by omega) (fun a b c e => (zc a b c e).2) (fun q => ?_) (fun q q2 => ?_) (fun q q2 v m em hv => ?_)
  · show (_ ∧ _ ∧ _ ∧ _ ∧ _ ∧ _ ∧ _ ∧ _) ∧ C 57 [vR 6, vI (h 38 (x4 + 1)), vI (h 38 (x4 + 2)), vI (h 38 (x4 + 3)), vI (h 38 (x4 + 4))] (ab_up h 39 0 (h 39 0 + 1)) _
    rw [← es, ← er, ← ed, ← ea]
    refine ⟨sides6 L, ?_⟩
    refine c_57 (zr := h 8 r) (by show h 6 7 ≤ 50; omega) (by show h 6 1 ≤ 8; omega) (fun a b c e => zc a (by show s < h 2 0; have b : s < h 6 7 := b; omega) c (by have e : r ≤ h 6 1 := e; omega)) (fun _ => ?_) (fun q3 => absurd q3 (by show ¬ (0 ≤ s ∧ s < h 6 7); omega)) (fun q3 => absurd q3 (by show ¬ (0 ≤ s ∧ s < h 6 7); omega))
    exact cmp2 rfl (fun q => absurd q (by decide)) ⟨by omega, N _ _ _ ⟨gp, ⟨A, ai, rc, rm, ln⟩, ft, ins, pr, sc⟩ rfl (Int.le_refl _)⟩
  · show (_ ∧ _ ∧ _ ∧ _ ∧ _ ∧ _ ∧ _ ∧ _) ∧ C 57 [vR 6, vI (h 38 (x4 + 1)), vI (h 38 (x4 + 2)), vI (h 38 (x4 + 3)), vI (h 38 (x4 + 4))] (ab_up h 39 0 (h 39 0 + 1)) _
    rw [← es, ← er, ← ed, ← ea]
    refine ⟨sides6 L, ?_⟩
    refine c_57 (zr := h 8 r) (by show h 6 7 ≤ 50; omega) (by show h 6 1 ≤ 8; omega) (fun a b c e => zc a (by show s < h 2 0; have b : s < h 6 7 := b; omega) c (by have e : r ≤ h 6 1 := e; omega)) (fun q3 => absurd (show 0 ≤ s ∧ s < h 6 7 by omega) q3) (fun _ _ => ?_) (fun _ q3 => absurd q3 (by show ¬ (0 ≤ r ∧ r ≤ h 6 1 ∧ 0 ≤ d ∧ d ≤ h 8 r ∧ 4 ≤ a ∧ a ≤ 9); omega))
    exact cmp2 rfl (fun q => absurd q (by decide)) ⟨by omega, N _ _ _ ⟨gp, ⟨A, ai, rc, rm, ln⟩, ft, ins, pr, sc⟩ rfl (Int.le_refl _)⟩
  · show (_ ∧ _ ∧ _ ∧ _ ∧ _ ∧ _ ∧ _ ∧ _) ∧ C 57 [vR 6, vI (h 38 (x4 + 1)), vI (h 38 (x4 + 2)), vI (h 38 (x4 + 3)), vI (h 38 (x4 + 4))] (ab_up (ab_up h 13 (s * 45 + (r * 5 + d)) m) 37 0 v) _
    rw [← es, ← er, ← ed, ← ea]
    refine ⟨sides6 L, ?_⟩
    have z8 := (zc q.1 q.2 q2.1 q2.2.1).2
    have hsA : 0 ≤ s ∧ s < A.1 := by omega
    have rg := rc_rg rc (s := s) (by omega) (k := r * 5 + d) (by omega)
    have it := rc_it rc (s := s) (r := r) (d := d) (a := a) (by omega) (by omega) (by omega) (by omega)
    have mt := rm.2.1 s (30 * r + 6 * d + (a - 4)) (by omega) (by omega) (by omega) (by omega)
    have nrc := tn_rc rc hsA (k := r * 5 + d) (u := a - 4) (by omega) (by omega)
    rw [show 6 * (r * 5 + d) + (a - 4) = 30 * r + 6 * d + (a - 4) by omega, ← em] at nrc
    refine c_57 (zr := h 8 r) (by show h 6 7 ≤ 50; omega) (by show h 6 1 ≤ 8; omega) (fun a b c e => zc a (by show s < h 2 0; have b : s < h 6 7 := b; omega) c (by have e : r ≤ h 6 1 := e; omega)) (fun q3 => absurd (show 0 ≤ s ∧ s < h 6 7 by omega) q3) (fun _ q3 => absurd (show 0 ≤ r ∧ r ≤ h 6 1 ∧ 0 ≤ d ∧ d ≤ h 8 r ∧ 4 ≤ a ∧ a ≤ 9 by omega) q3) (fun _ _ v' hv' => ?_)
    have hv' : (v' = 1 ∧ h 25 (270 * s + (30 * r + 6 * d + (a - 4))) = 0) ∨ (v' = 0 ∧ ¬ h 25 (270 * s + (30 * r + 6 * d + (a - 4))) = 0) := hv'
    have m01 := mt.1
    have nrm := tn_rm rm hsA (i := 30 * r + 6 * d + (a - 4)) (v := v') (by omega) hv'
    refine cmp2 rfl (fun _ => ?_) ⟨by omega, N _ _ _ ⟨gp, ⟨tn A s (30 * r + 6 * d + (a - 4)), ⟨ai.1, fun s' j a1 a2 a3 a4 a5 => ?_, ai.2.2⟩, ?_, ?_, ln⟩, ft, ins, pr, sc⟩ rfl (by show h 39 0 ≤ h 39 0 + 1; omega)⟩
    · show (v' = 0 ∧ v = 0) ∨ (¬ v' = 0 ∧ v = 1)
      have bx := bck1_get rg (t := a - 4) (by omega)
      have mb := (bx.2.2.2 (a - 4) (by omega) (by omega)).2
      rw [if_pos rfl, ← em] at mb
      have mrg : 0 ≤ m ∧ m < 64 := by rw [em]; exact bx.2.1
      have b01 := bt_01 (h 13 (s * 45 + (r * 5 + d))) (a - 4)
      rcases hv with ⟨e, y⟩ | ⟨e, y⟩
      · have t0 := tst0 mrg (by omega) y
        have yes := it.mp (by omega)
        rcases hv' with ⟨e', y'⟩ | ⟨e', y'⟩
        · have := mt.2.mpr yes; omega
        · exact Or.inl ⟨e', e⟩
      · have t1 := tst1 mrg (by omega) y
        have no : ¬ A.2.1 s (30 * r + 6 * d + (a - 4)) := fun y2 => by have := it.mpr y2; omega
        rcases hv' with ⟨e', y'⟩ | ⟨e', y'⟩
        · exact Or.inr ⟨by omega, e⟩
        · exact absurd (mt.2.mp (by omega)) no
    · have a5 : if s' = s ∧ j = 30 * r + 6 * d + (a - 4) then ¬ A.2.1 s' j else A.2.1 s' j := a5
      show lg (h 1 0) (h 8) j
      by_cases f : s' = s ∧ j = 30 * r + 6 * d + (a - 4)
      · rw [f.2]
        unfold lg
        rw [show (30 * r + 6 * d + (a - 4)) / 30 = r by omega, show (30 * r + 6 * d + (a - 4)) % 30 / 6 = d by omega]
        omega
      · rw [if_neg f] at a5; exact ai.2.1 s' j a1 a2 a3 a4 a5
    · rw [up_c h 13]; exact nrc
    · rw [up_c (ab_up (ab_up (ab_up h 13 (s * 45 + (r * 5 + d)) m) 37 0 v) 6 0 0) 25]; exact nrm
set_option maxHeartbeats 4000000 in
theorem k_8 (S : Sim h) (L : Lp x4 h) (N : Nx x4 h K) : C 133 [vR 0, vR 37] h (kI (fun v113 h113 => C 65 [vR 6] h113 (kI (fun v114 h114 => ((h114 6 0 = v113 → ((¬ v113 = 0 → ((-2147483648 ≤ x4 + 5 ∧ x4 + 5 ≤ 2147483647)) ∧ X 136 13 [vR 38, vR 0, vR 6, vR 37, vI (x4 + 5), vI v113, vI v114] [] h114 K) ∧ (v113 = 0 → ((h114 37 0 = v114 → ((-2147483648 ≤ x4 + 5 ∧ x4 + 5 ≤ 2147483647)) ∧ X 136 13 [vR 38, vR 0, vR 6, vR 37, vI (x4 + 5), vI v113, vI v114] [] h114 K) ∧ (¬ h114 37 0 = v114 → K (oI 0) h114))))) ∧ (¬ h114 6 0 = v113 → K (oI 0) h114)))))) := by
  obtain ⟨gp, ⟨A, ai, rc, rm, ln⟩, ft, ins, pr, sc⟩ := S
  unfold Lp at L
  have hc := ai.1
  have r1 := rc.1
  have m1 := rm.1
  refine s_133_0 h _ ⟨fun z => ?_, fun z => ?_⟩
  · have hA : 0 < A.1 := by omega
    obtain ⟨n0, l⟩ := ln hA
    have g := gp.2.1 n0
    refine c_95 ⟨rfl, rfl, rfl, rfl⟩ g l ai rc hA (fun v h2 ck F => ?_)
    have vr : 0 ≤ v ∧ v ≤ 8 := by
      rcases ck with ⟨e, _⟩ | ⟨e, _⟩
      · omega
      · omega
    refine ⟨by omega, ?_⟩
    have e6 : h2 6 = h 6 := F 6 (by decide)
    have e61 : h2 6 1 = h 6 1 := by rw [e6]
    have e67 : h2 6 7 = h 6 7 := by rw [e6]
    refine c_65 (h := ab_up h2 37 0 v) g (by show MG _ _ _ _ (h2 6 1) (h2 20) (h2 21) (h2 22); rw [e61, F 20 (by decide), F 21 (by decide), F 22 (by decide)]; exact gp.2.2) ai (by show RM A (h2 6 7) (h2 25) (h2 26); rw [e67, F 25 (by decide), F 26 (by decide)]; exact rm) hA (fun v' h' ck' F' S' Z' => ?_)
    obtain ⟨ev, ew⟩ := ckR_u ck ck'
    have G : ∀ k, ¬ k ∈ [6, 23, 24, 37, 15] → h' k = h k := by
      intro k hk
      have a : ¬ k ∈ [6, 23, 24] := fun q => hk (by rcases (show k = 6 ∨ k = 23 ∨ k = 24 by simpa using q) with e | e | e <;> subst e <;> decide)
      have b : ¬ k = 37 := fun q => hk (by subst q; decide)
      have c : ¬ k ∈ [15] := fun q => hk (by rcases (show k = 15 by simpa using q) with e; subst e; decide)
      rw [F' k a, up_c, upc_ne _ _ b, F k c]
    have G6 : ∀ i, ¬ i ∈ ([0, 13, 14, 15, 16] : List Int) → h' 6 i = h 6 i := by
      intro i hi
      rw [S' i hi]
      show h2 6 i = h 6 i
      rw [e6]
    have G15 : h' 15 = h2 15 := F' 15 (by decide)
    have G37 : h' 37 0 = v := by
      rw [F' 37 (by decide)]
      rfl
    have G5 : h' 5 = h 5 := G 5 (by decide)
    refine cmp1 Z' (fun _ => by rw [G37]; exact ev) ⟨by omega, N _ _ _ ⟨?_, ⟨A, ?_, ?_, ?_, fun _ => ?_⟩, ?_, ?_, ?_, ?_⟩ (G 38 (by decide)) ?_⟩
    · exact GP_tr gp (by rw [G 1 (by decide)]) (G 7 (by decide)) (G 8 (by decide)) (G 9 (by decide)) (G 20 (by decide)) (G 21 (by decide)) (G 22 (by decide)) (G6 1 (by decide))
    · rw [G 1 (by decide), G 8 (by decide)]; exact ai
    · rw [G 2 (by decide), G 12 (by decide), G 13 (by decide)]; exact rc
    · rw [G6 7 (by decide), G 25 (by decide), G 26 (by decide)]; exact rm
    · rw [G 1 (by decide)]
      refine ⟨n0, ?_⟩
      unfold LN
      rw [G 1 (by decide), G 7 (by decide), G 8 (by decide), G 9 (by decide), G 10 (by decide), G 11 (by decide)]
      exact l
    · unfold FT
      rw [G15]
      exact ⟨ew 0 (by decide) (by decide), ew 1 (by decide) (by decide), ew 2 (by decide) (by decide), ew 3 (by decide) (by decide)⟩
    · exact IN_tr ins (by rw [G5]) (G 16 (by decide)) (G 29 (by decide)) (G6 17 (by decide))
    · exact PR_tr pr (by rw [G5]) (by rw [G5]) (G 19 (by decide)) (G6 19 (by decide)) (G6 21 (by decide)) (G6 22 (by decide)) (G 32 (by decide)) (G 33 (by decide)) (G 34 (by decide)) (G 35 (by decide)) (G 36 (by decide))
    · exact SC_tr sc (G 38 (by decide))
    · rw [G 39 (by decide)]; omega
  · refine s_65_0 _ _ ⟨fun (q : ¬ h 6 7 = 0) => absurd (by omega) q, fun _ => ?_⟩
    exact cmp1 rfl (fun q => absurd q (by decide)) ⟨by omega, N _ _ _ ⟨gp, ⟨A, ai, rc, rm, ln⟩, ft, ins, pr, sc⟩ rfl (Int.le_refl _)⟩
set_option maxHeartbeats 4000000 in
theorem k_2 (S : Sim h) (L : Lp x4 h) (N : Nx x4 h K) : C 128 [vR 0, vR 37] h (kI (fun v19 h19 => C 49 [vR 6] h19 (kI (fun v20 h20 => ((h20 6 0 = v19 → ((¬ v19 = 0 → ((-2147483648 ≤ x4 + 5 ∧ x4 + 5 ≤ 2147483647)) ∧ X 136 13 [vR 38, vR 0, vR 6, vR 37, vI (x4 + 5), vI v19, vI v20] [] h20 K) ∧ (v19 = 0 → ((h20 37 0 = v20 → ((-2147483648 ≤ x4 + 5 ∧ x4 + 5 ≤ 2147483647)) ∧ X 136 13 [vR 38, vR 0, vR 6, vR 37, vI (x4 + 5), vI v19, vI v20] [] h20 K) ∧ (¬ h20 37 0 = v20 → K (oI 0) h20))))) ∧ (¬ h20 6 0 = v19 → K (oI 0) h20)))))) := by
  obtain ⟨gp, au, ft, ins, pr, sc⟩ := S
  unfold Lp at L
  have mg := gp.2.2
  have n1 := mg.1
  have gn := gp.1
  refine s_128_0 h _ ⟨fun z => ?_, fun z => ?_⟩
  · have g := gp.2.1 (by omega)
    obtain ⟨hd, ed⟩ : ∃ hd, hd = ab_up (ab_up (ab_up (ab_up (ab_up (ab_up (ab_up h 2 0 0) 15 0 (-1)) 15 1 (-1)) 15 2 (-1)) 15 3 (-1)) 5 7 0) 5 9 0 := ⟨_, rfl⟩
    rw [← ed]
    have D : ∀ k, ¬ k ∈ [2, 15, 5] → hd k = h k := by
      rw [ed]
      exact fr_tr (fr_tr (fr_tr (fr_tr (fr_tr (fr_tr (fr_up (by decide)) (fr_up (by decide))) (fr_up (by decide))) (fr_up (by decide))) (fr_up (by decide))) (fr_up (by decide))) (fr_up (by decide))
    have d57 : hd 5 7 = 0 := by rw [ed]; rfl
    have d59 : hd 5 9 = 0 := by rw [ed]; rfl
    have d53 : hd 5 3 = h 5 3 := by rw [ed]; rfl
    have d20 : hd 2 0 = 0 := by rw [ed]; rfl
    have df : hd 15 0 = -1 ∧ hd 15 1 = -1 ∧ hd 15 2 = -1 ∧ hd 15 3 = -1 := by rw [ed]; exact ⟨rfl, rfl, rfl, rfl⟩
    clear ed
    have D6 : hd 6 = h 6 := D 6 (by decide)
    have GE' : GE (h 1 0) (h 7) (h 8) (h 9) hd := ⟨by rw [D 1 (by decide)], D 7 (by decide), D 8 (by decide), D 9 (by decide)⟩
    -- what stays over both
    have fin : ∀ (B : au_T) (h2 h3 h' : ab_S), fr [2, 10, 11, 12, 13, 14] hd h2 → (∀ k, ¬ k ∈ [2, 37, 39] → h3 k = h2 k) → h3 39 0 ≤ h2 39 0 + 1 → (∀ k, ¬ k ∈ [6, 23, 24, 25, 26, 27, 28] → h' k = h3 k) → (∀ i, ¬ i ∈ ([0, 7, 12, 13, 14, 15, 16, 19, 22] : List Int) → h' 6 i = h3 6 i) → h' 6 13 = -1 → h' 6 14 = -1 → h' 6 15 = -1 → h' 6 16 = -1 → h' 6 19 = 0 → h' 6 22 = 0 → AU h' → Sim h' ∧ h' 38 = h 38 ∧ h' 39 0 ≤ h 39 0 + 1 := by
      intro B h2 h3 h' F2 F3 le F4 F6 c13 c14 c15 c16 c19 c22 au'
      have G : ∀ k, ¬ k ∈ [2, 15, 5, 10, 11, 12, 13, 14, 37, 39, 6, 23, 24, 25, 26, 27, 28] → h' k = h k := by
        intro k hk
        have s1 : ¬ k ∈ [6, 23, 24, 25, 26, 27, 28] := fun q => hk (by revert q; simp; omega)
        have s2 : ¬ k ∈ [2, 37, 39] := fun q => hk (by revert q; simp; omega)
        have s3 : ¬ k ∈ [2, 10, 11, 12, 13, 14] := fun q => hk (by revert q; simp; omega)
        have s4 : ¬ k ∈ [2, 15, 5] := fun q => hk (by revert q; simp; omega)
        rw [F4 k s1, F3 k s2, F2 k s3, D k s4]
      have G6 : ∀ i, ¬ i ∈ ([0, 7, 12, 13, 14, 15, 16, 19, 22] : List Int) → h' 6 i = h 6 i := by
        intro i hi
        rw [F6 i hi, F3 6 (by decide), F2 6 (by decide), D6]
      have G5 : h' 5 = hd 5 := by rw [F4 5 (by decide), F3 5 (by decide), F2 5 (by decide)]
      have G15 : h' 15 = hd 15 := by rw [F4 15 (by decide), F3 15 (by decide), F2 15 (by decide)]
      refine ⟨⟨?_, au', ?_, ?_, ?_, ?_⟩, G 38 (by decide), ?_⟩
      · exact GP_tr gp (by rw [G 1 (by decide)]) (G 7 (by decide)) (G 8 (by decide)) (G 9 (by decide)) (G 20 (by decide)) (G 21 (by decide)) (G 22 (by decide)) (G6 1 (by decide))
      · unfold FT
        rw [G15, c13, c14, c15, c16]; exact df
      · exact IN_tr ins (by rw [G5]; exact d53) (G 16 (by decide)) (G 29 (by decide)) (G6 17 (by decide))
      · exact PR_0 c19 (by rw [G5]; exact d57) (by rw [G5]; exact d59) c22
      · exact SC_tr sc (G 38 (by decide))
      · have a : h2 39 0 = h 39 0 := by rw [F2 39 (by decide), D 39 (by decide)]
        rw [F4 39 (by decide)]
        omega
    have mg3 : ∀ {h2 h3 : ab_S}, fr [2, 10, 11, 12, 13, 14] hd h2 → (∀ k, ¬ k ∈ [2, 37, 39] → h3 k = h2 k) → MG (h 1 0) (h 7) (h 8) (h 9) (h3 6 1) (h3 20) (h3 21) (h3 22) := by
      intro h2 h3 F2 F3
      rw [F3 6 (by decide), F3 20 (by decide), F3 21 (by decide), F3 22 (by decide), F2 6 (by decide), F2 20 (by decide), F2 21 (by decide), F2 22 (by decide), D6, D 20 (by decide), D 21 (by decide), D 22 (by decide)]
      exact mg
    have bzs : ∀ {h3 h' : ab_S}, fb h3 h' → (∀ k, ¬ k ∈ [6, 23, 24, 25, 26, 27, 28] → h' k = h3 k) ∧ (∀ i, ¬ i ∈ ([0, 7, 12, 13, 14, 15, 16, 19, 22] : List Int) → h' 6 i = h3 6 i) ∧ h' 6 13 = -1 ∧ h' 6 14 = -1 ∧ h' 6 15 = -1 ∧ h' 6 16 = -1 ∧ h' 6 19 = 0 ∧ h' 6 22 = 0 ∧ h' 6 0 = 0 := by
      intro h3 h' F
      have Fz : fr [6, 23, 24, 25, 26, 27, 28] h3 (bz h3) := fr_tr (fr_tr (fr_tr (fr_tr (fr_tr (fr_tr (fr_tr (fr_up (by decide)) (fr_up (by decide))) (fr_up (by decide))) (fr_up (by decide))) (fr_up (by decide))) (fr_up (by decide))) (fr_up (by decide))) (fr_up (by decide))
      have Fz6 : fr6 [0, 7, 12, 13, 14, 15, 16, 19, 22] h3 (bz h3) := fr6_tr (fr6_tr (fr6_tr (fr6_tr (fr6_tr (fr6_tr (fr6_tr (fr6_up (by decide)) (fr6_up (by decide))) (fr6_up (by decide))) (fr6_up (by decide))) (fr6_up (by decide))) (fr6_up (by decide))) (fr6_up (by decide))) (fr6_up (by decide))
      refine ⟨fr_tr Fz F.1, fun i hi => ?_, F.2 13 (by decide), F.2 14 (by decide), F.2 15 (by decide), F.2 16 (by decide), F.2 19 (by decide), F.2 22 (by decide), F.2 0 (by decide)⟩
      have s1 : ¬ i ∈ ([7, 12] : List Int) := fun q => hi (by revert q; simp; omega)
      rw [F.2 i s1, Fz6 i hi]
    refine c_85 GE' g d20 (fun B h2 eB F2 l2 rc2 ai2 => ⟨fun _ => ⟨?_, ?_⟩, fun q => absurd q (by decide)⟩) (fun eB h2 F2 => ⟨fun q => absurd rfl q, fun _ => ?_⟩)
    · have := rc2.1
      have := ai2.1
      omega
    · have F3 : ∀ k, ¬ k ∈ [2, 37, 39] → ab_up h2 37 0 (h2 2 0) k = h2 k := fr_up (by decide)
      refine c_49 (h := ab_up h2 37 0 (h2 2 0)) g (mg3 F2 F3) (fun B' h' eB' Fb M' rm' => ?_) (fun eB' => ?_)
      · rw [eB] at eB'
        cases eB'
        obtain ⟨b1, b2, b13, b14, b15, b16, b19, b22, b0⟩ := bzs Fb
        have c2 : h' 2 = h2 2 := (b1 2 (by decide)).trans rfl
        have cg : ∀ k, (k = 1 ∨ k = 7 ∨ k = 8 ∨ k = 9 ∨ k = 10 ∨ k = 11 ∨ k = 12 ∨ k = 13) → h' k = h2 k := by
          intro k hk
          rw [b1 k (by rcases hk with e | e | e | e | e | e | e | e <;> subst e <;> decide), F3 k (by rcases hk with e | e | e | e | e | e | e | e <;> subst e <;> decide)]
        have e1 : h2 1 = h 1 := by rw [F2 1 (by decide), D 1 (by decide)]
        have e8 : h2 8 = h 8 := by rw [F2 8 (by decide), D 8 (by decide)]
        have au' : AU h' := by
          refine ⟨B, ?_, ?_, rm', fun _ => ⟨?_, ?_⟩⟩
          · rw [cg 1 (by omega), cg 8 (by omega), e1, e8]; exact ai2
          · rw [c2, cg 12 (by omega), cg 13 (by omega)]; exact rc2
          · rw [cg 1 (by omega), e1]; omega
          · unfold LN
            rw [cg 1 (by omega), cg 7 (by omega), cg 8 (by omega), cg 9 (by omega), cg 10 (by omega), cg 11 (by omega)]
            exact l2
        obtain ⟨q1, q2, q3⟩ := fin B h2 _ h' F2 F3 (by show h2 39 0 ≤ h2 39 0 + 1; omega) b1 b2 b13 b14 b15 b16 b19 b22 au'
        refine cmp1 b0 (fun _ => ?_) ⟨by omega, N _ _ _ q1 q2 q3⟩
        have : h' 37 0 = h2 2 0 := by rw [b1 37 (by decide)]; rfl
        rw [this, rc2.1, rm'.1]
      · rw [eB] at eB'
        cases eB'
    · have F3 : ∀ k, ¬ k ∈ [2, 37, 39] → ab_up (ab_up h2 2 0 0) 39 0 (h2 39 0 + 1) k = h2 k := fr_tr (fr_up (by decide)) (fr_up (by decide))
      refine c_49 (h := ab_up (ab_up h2 2 0 0) 39 0 (h2 39 0 + 1)) g (mg3 F2 F3) (fun B' h' eB' => ?_) (fun eB' h' Fb => ?_)
      · rw [eB] at eB'
        cases eB'
      · obtain ⟨b1, b2, b13, b14, b15, b16, b19, b22, b0⟩ := bzs Fb
        have au' : AU (ab_up (ab_up h' 6 7 0) 6 0 2) := by
          refine AU_0 ?_ rfl
          show h' 2 0 = 0
          rw [b1 2 (by decide)]
          rfl
        have b1' : ∀ k, ¬ k ∈ [6, 23, 24, 25, 26, 27, 28] → ab_up (ab_up h' 6 7 0) 6 0 2 k = ab_up (ab_up h2 2 0 0) 39 0 (h2 39 0 + 1) k := fr_tr (h' := h') b1 (fr_tr (fr_up (by decide)) (fr_up (by decide)))
        have b2' : ∀ i, ¬ i ∈ ([0, 7, 12, 13, 14, 15, 16, 19, 22] : List Int) → ab_up (ab_up h' 6 7 0) 6 0 2 6 i = ab_up (ab_up h2 2 0 0) 39 0 (h2 39 0 + 1) 6 i := fr6_tr (h' := h') b2 (fr6_tr (fr6_up (by decide)) (fr6_up (by decide)))
        obtain ⟨q1, q2, q3⟩ := fin au_0 h2 _ (ab_up (ab_up h' 6 7 0) 6 0 2) F2 F3 (Int.le_refl _) b1' b2' b13 b14 b15 b16 b19 b22 au'
        exact cmp1 rfl (fun q => absurd q (by decide)) ⟨by omega, N _ _ _ q1 q2 q3⟩
  · refine c_49z (by show h 6 1 = 0; omega) ?_
    exact cmp1 rfl (fun q => absurd q (by decide)) ⟨by omega, N _ _ _ ⟨gp, au, ft, ins, pr, sc⟩ rfl (Int.le_refl _)⟩
end Side2
