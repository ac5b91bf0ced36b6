/-! The model's check. -/
section MCheck
variable {n : Int} {lf sz sy : Int → Int} {A : au_T}
theorem c_59 {s r d a : Int} {h : ab_S} {K : ab_O → ab_S → Prop} (g : GW n lf sz sy) (M : ME n lf sz sy h) (B : AI n sz A) (R : RM A (h 6 7) (h 25) (h 26)) (hs : 0 ≤ s ∧ s < A.1) (hr : 0 ≤ r ∧ r ≤ n) (hd : 0 ≤ d ∧ d < sz r) (hy4 : sy (r * 4 + d) < 4)
    (H1 : ¬ w6 n lf sz sy A.2.1 s r d a → K (oI 1) h) (H0 : w6 n lf sz sy A.2.1 s r d a → K (oI 0) h) : C 59 [vR 6, vI s, vI r, vI d, vI a] h K := by
  obtain ⟨mg, hN, hB⟩ := M
  have hc := B.1
  have gn := g.1
  have en : h 6 1 = n := mg.1
  have hsz := g.2.2.1 r hr.1 hr.2
  have enx := mg_nx1 g mg hr hd
  have pre := mg_pre g mg hr
  refine s_59_0 s r d a h K ?_
  refine lp (P := fun q => ∀ v, ((v = 1 ∧ ∀ q' u, 0 ≤ q' → q' < q → lf q' = sy (r * 4 + d) → 4 ≤ u → u ≤ 9 → FO (NL n lf sz sy) (FS (NL n lf sz sy) n lf sz sy u) sz sy u r (d + 1) (u = a) → A.2.1 s (30 * q' + (u - 4))) ∨ (v = 0 ∧ w6 n lf sz sy A.2.1 s r d a)) → ∀ w7, X 59 4 [vR 6, vI s, vI r, vI d, vI a, vI v, vI q, w7] [] h K) 0 n (by omega) ?_ 1 (Or.inl ⟨rfl, fun q' u a b => absurd b (by omega)⟩) _
  intro q q0 q1 ihq v hv w7
  refine s_59_4 s r d a v q w7 h K ?_
  rw [en]
  refine ⟨fun z => ⟨by rcases hv with e | e <;> omega, ?_⟩, fun z => ?_⟩
  · rcases hv with ⟨e, f⟩ | ⟨e, f⟩
    · subst e
      refine H1 ?_
      rintro ⟨_, _, q', u, b0, b1, b2, b3, b4, b5, b6⟩
      exact b6 (f q' u b0 (by omega) b2 b3 b4 b5)
    · subst e; exact H0 f
  refine lp (P := fun u => ∀ v, ((v = 1 ∧ ∀ q' u', 0 ≤ q' → q' ≤ q → (q' < q ∨ u' < u) → lf q' = sy (r * 4 + d) → 4 ≤ u' → u' ≤ 9 → FO (NL n lf sz sy) (FS (NL n lf sz sy) n lf sz sy u') sz sy u' r (d + 1) (u' = a) → A.2.1 s (30 * q' + (u' - 4))) ∨ (v = 0 ∧ w6 n lf sz sy A.2.1 s r d a)) → X 59 10 [vR 6, vI s, vI r, vI d, vI a, vI v, vI q, vI u] [] h K) 4 10 (by decide) ?_ v ?_
  · clear hv v
    intro u u0 u1 ihu v hv
    have hq := g.2.1 q q0 z
    have e20 : h 20 q = lf q := (mg.2.1 q q0 z).1
    refine s_59_10 s r d a v q u h K ?_
    rw [en, enx, e20]
    rw [en] at pre
    refine ⟨fun z2 => ⟨by omega, ihq z v ?_ _⟩, fun z2 => ⟨by omega, fun z3 => ⟨by omega, ihq z v ?_ _⟩, fun z3 => ⟨fun z4 => ⟨by omega, ihu (by omega) 0 ?_⟩, fun z4 => ⟨by omega, ?_⟩⟩⟩⟩
    · rcases hv with ⟨e, f⟩ | f
      · exact Or.inl ⟨e, fun q' u' b0 b1 b2 b3 b4 => f q' u' b0 (by omega) (by omega) b2 b3 b4⟩
      · exact Or.inr f
    · rcases hv with ⟨e, f⟩ | f
      · refine Or.inl ⟨e, fun q' u' b0 b1 b2 b3 b4 => ?_⟩
        by_cases c : q' = q
        · subst c; exact absurd b2 z3
        · exact f q' u' b0 (by omega) (by omega) b2 b3 b4
      · exact Or.inr f
    · rcases hv with ⟨e, f⟩ | f
      · omega
      · exact Or.inr ⟨rfl, f.2⟩
    · have f : ∀ q' u', 0 ≤ q' → q' ≤ q → (q' < q ∨ u' < u) → lf q' = sy (r * 4 + d) → 4 ≤ u' → u' ≤ 9 → FO (NL n lf sz sy) (FS (NL n lf sz sy) n lf sz sy u') sz sy u' r (d + 1) (u' = a) → A.2.1 s (30 * q' + (u' - 4)) := by
        rcases hv with ⟨e, f⟩ | f
        · exact f
        · omega
      have ej : 30 * q + 0 + u - 4 = 30 * q + (u - 4) := by omega
      have rr := R.2.1 s (30 * q + (u - 4)) hs.1 hs.2 (by omega) (by omega)
      refine c_40 g mg hr ⟨by omega, by omega⟩ ⟨u0, z2⟩ hN hB (fun fo => ?_) (fun fo => ?_)
      · refine ⟨fun c => absurd c (by decide), fun _ => ?_⟩
        rw [ej]
        have r1 := rr.1
        refine ⟨by omega, fun z5 => ⟨by omega, ihu (by omega) 0 (Or.inr ⟨rfl, hd.2, hy4, q, u, q0, z, z3, u0, z2, fo, fun y => ?_⟩)⟩, fun z5 => ⟨by omega, ihu (by omega) 1 (Or.inl ⟨rfl, fun q' u' b0 b1 b2 b3 b4 b5 b6 => ?_⟩)⟩⟩
        · have := rr.2.mpr y; omega
        · by_cases c : q' = q ∧ u' = u
          · rw [c.1, c.2]; exact rr.2.mp (by omega)
          · exact f q' u' b0 b1 (by omega) b3 b4 b5 b6
      · refine ⟨fun _ => ⟨by omega, ihu (by omega) 1 (Or.inl ⟨rfl, fun q' u' b0 b1 b2 b3 b4 b5 b6 => ?_⟩)⟩, fun c => absurd rfl c⟩
        by_cases c : q' = q ∧ u' = u
        · rw [c.2] at b6; exact absurd b6 fo
        · exact f q' u' b0 b1 (by omega) b3 b4 b5 b6
  · rcases hv with ⟨e, f⟩ | f
    · exact Or.inl ⟨e, fun q' u' b0 b1 b2 b3 b4 => f q' u' b0 (by omega) b3 b4⟩
    · exact Or.inr f
set_option maxHeartbeats 4000000 in
theorem c_60 {k s r d a : Int} {h : ab_S} {K : ab_O → ab_S → Prop} (hk : k = 1 ∨ k = 4 ∨ k = 6 ∨ k = 7 ∨ k = 8) (g : GW n lf sz sy) (M : ME n lf sz sy h) (B : AI n sz A) (R : RM A (h 6 7) (h 25) (h 26)) (hs : 0 ≤ s ∧ s < A.1) (hr : 0 ≤ r ∧ r ≤ n) (hd : 0 ≤ d ∧ d ≤ sz r) (ha : 4 ≤ a ∧ a ≤ 9)
    (H1 : wr n lf sz sy A k s r d a → K (oI 1) h) (H0 : ¬ wr n lf sz sy A k s r d a → K (oI 0) h) : C 60 [vR 6, vI k, vI s, vI r, vI d, vI a] h K := by
  have hc := B.1
  have gn := g.1
  have mg := M.1
  have en : h 6 1 = n := mg.1
  have hsz := g.2.2.1 r hr.1 hr.2
  have pre := mg_pre g mg hr
  refine s_60_0 k s r d a h K ?_
  rw [en]
  rw [en] at pre
  rcases hk with e | e | e | e | e
  · subst e
    rw [wr_1] at H1 H0
    unfold w1 at H1 H0
    repeat' (first | omega | (refine And.intro ?_ ?_) | intro _)
    all_goals first
      | exact H1 (by omega)
      | exact H0 (by omega)
  · subst e
    rw [wr_4] at H1 H0
    unfold w4 ig at H1 H0
    by_cases c : r = n
    · repeat' (first | omega | (refine And.intro ?_ ?_) | intro _)
      all_goals exact H0 (fun q => q.1 c)
    · have hl := g.2.1 r hr.1 (by omega)
      rw [(mg.2.1 r hr.1 (by omega)).1, R.2.2 s (lf r) hs.1 hs.2 (by omega) (by omega)]
      have ok := B.2.2 s (lf r) hs.1 hs.2 (by omega) (by omega)
      unfold okE at ok
      repeat' (first | omega | (refine And.intro ?_ ?_) | intro _)
      all_goals first
        | exact H1 ⟨c, by assumption, by omega⟩
        | (refine H0 (fun q => ?_)
           have q1 := q.2.1
           have q2 := q.2.2
           omega)
  · subst e
    rw [wr_6] at H1 H0
    by_cases c : d < sz r
    · have hy := g.2.2.2.1 r d hr.1 hr.2 hd.1 c
      rw [mg_nx1 g mg hr ⟨hd.1, c⟩]
      have go : (sy (r * 4 + d) = -1 → K (oI 0) h) ∧ (¬ sy (r * 4 + d) = -1 → ((4 ≤ sy (r * 4 + d) → K (oI 0) h) ∧ (sy (r * 4 + d) < 4 → C 59 [vR 6, vI s, vI r, vI d, vI a] h (kI (fun v29 h29 => ((¬ v29 = 0 → K (oI 0) h29) ∧ (v29 = 0 → K (oI 1) h29))))))) := by
        refine ⟨fun q => absurd q (by omega), fun _ => ⟨fun q => H0 (fun y => absurd y.2.1 (by omega)), fun q => ?_⟩⟩
        exact c_59 g M B R hs hr ⟨hd.1, c⟩ q (fun y => ⟨fun _ => H0 y, fun q => absurd q (by decide)⟩) (fun y => ⟨fun q => absurd rfl q, fun _ => H1 y⟩)
      exact ⟨by omega, fun _ => ⟨fun _ => ⟨fun _ => ⟨fun q => absurd rfl q, fun _ => go⟩, fun q => absurd q (by decide)⟩, fun q => absurd q (by decide)⟩, fun _ => ⟨fun _ => ⟨fun _ => ⟨fun q => absurd rfl q, fun _ => go⟩, fun q => absurd q (by decide)⟩, fun q => absurd q (by decide)⟩⟩
    · have enx := mg_nx g mg hr hd.1
      rw [if_neg c] at enx
      rw [enx]
      have no : K (oI 0) h := H0 (fun y => c y.1)
      exact ⟨by omega, fun _ => ⟨fun _ => ⟨fun _ => ⟨fun q => absurd rfl q, fun _ => ⟨fun _ => no, fun q => absurd rfl q⟩⟩, fun q => absurd q (by decide)⟩, fun q => absurd q (by decide)⟩, fun _ => ⟨fun _ => ⟨fun _ => ⟨fun q => absurd rfl q, fun _ => ⟨fun _ => no, fun q => absurd rfl q⟩⟩, fun q => absurd q (by decide)⟩, fun q => absurd q (by decide)⟩⟩
  · subst e
    rw [wr_7] at H1 H0
    by_cases c : d < sz r
    · have hy := g.2.2.2.1 r d hr.1 hr.2 hd.1 c
      rw [mg_nx1 g mg hr ⟨hd.1, c⟩]
      unfold w7 at H1 H0
      obtain ⟨y, ey⟩ : ∃ y, y = sy (r * 4 + d) := ⟨_, rfl⟩
      rw [← ey] at hy H1 H0 ⊢
      rw [R.2.2 s y hs.1 hs.2 (by omega) (by omega)]
      have ok := B.2.2 s y hs.1 hs.2 (by omega) (by omega)
      obtain ⟨T, eT⟩ : ∃ T, T = A.2.2 (10 * s + y) := ⟨_, rfl⟩
      rw [← eT] at ok H1 H0 ⊢
      clear eT ey
      rw [show 30 * r + 6 * (d + 1) + a - 4 = 30 * r + 6 * (d + 1) + (a - 4) by omega]
      by_cases cT : ig T
      · have hT := ok_go B ok cT
        have rr := R.2.1 T (30 * r + 6 * (d + 1) + (a - 4)) hT.1 hT.2 (by omega) (by omega)
        have r1 := rr.1
        repeat' (first | omega | (refine And.intro ?_ ?_) | intro _)
        all_goals first
          | exact H1 ⟨c, Or.inr (fun q => by have := rr.2.mpr q; omega)⟩
          | (refine H0 (fun q => ?_)
             rcases q.2 with q | q
             · exact q cT
             · exact q (rr.2.mp (by omega)))
      · have y1 := H1 ⟨c, Or.inl cT⟩
        unfold ig at cT
        unfold okE at ok
        repeat' (first | omega | (refine And.intro ?_ ?_) | intro _)
        all_goals exact y1
    · have enx := mg_nx g mg hr hd.1
      rw [if_neg c] at enx
      rw [enx]
      have no : K (oI 0) h := H0 (fun y => c y.1)
      repeat' (first | omega | (refine And.intro ?_ ?_) | intro _)
      all_goals exact no
  · subst e
    rw [wr_8] at H1 H0
    rw [R.2.2 s a hs.1 hs.2 (by omega) (by omega)]
    unfold w8 due at H1 H0
    by_cases c : d < sz r
    · have hy := g.2.2.2.1 r d hr.1 hr.2 hd.1 c
      rw [mg_nx1 g mg hr ⟨hd.1, c⟩]
      have no : K (oI 0) h := H0 (fun y => absurd y.1 (by omega))
      repeat' (first | omega | (refine And.intro ?_ ?_) | intro _)
      all_goals exact no
    · have enx := mg_nx g mg hr hd.1
      rw [if_neg c] at enx
      rw [enx]
      by_cases cn : r = n
      · rw [if_pos cn] at H1 H0
        repeat' (first | omega | (refine And.intro ?_ ?_) | intro _)
        all_goals first
          | exact H1 ⟨by omega, by omega⟩
          | exact H0 (fun q => q.2 (by omega))
      · rw [if_neg cn] at H1 H0
        repeat' (first | omega | (refine And.intro ?_ ?_) | intro _)
        all_goals first
          | exact H1 ⟨by omega, by omega⟩
          | exact H0 (fun q => q.2 (by omega))
theorem c_62 {s x : Int} {h : ab_S} {K : ab_O → ab_S → Prop} (g : GW n lf sz sy) (M : ME n lf sz sy h) (B : AI n sz A) (R : RM A (h 6 7) (h 25) (h 26)) (hs : 0 ≤ s ∧ s < A.1) (hx : 0 ≤ x ∧ x < 10)
    (H1 : w2 sz sy A.2.1 A.2.2 s x → K (oI 1) h) (H0 : ¬ w2 sz sy A.2.1 A.2.2 s x → K (oI 0) h) : C 62 [vR 6, vI s, vI x] h K := by
  have hc := B.1
  have gn := g.1
  have mg := M.1
  refine s_62_0 s x h K ?_
  rw [R.2.2 s x hs.1 hs.2 hx.1 hx.2]
  have ok := B.2.2 s x hs.1 hs.2 hx.1 hx.2
  have w2e : w2 sz sy A.2.1 A.2.2 s x = w2 sz sy A.2.1 A.2.2 s x := rfl
  unfold w2 at H1 H0
  obtain ⟨T, eT⟩ : ∃ T, T = A.2.2 (10 * s + x) := ⟨_, rfl⟩
  rw [← eT] at ok H1 H0 ⊢
  clear eT w2e
  refine ⟨by omega, fun z => H0 (fun q => absurd q.1.1 (by omega)), fun z => ⟨fun z2 => H0 (fun q => absurd q.1.2 (by omega)), fun z2 => ?_⟩⟩
  have hT : 0 ≤ T ∧ T < A.1 := by unfold okE at ok; omega
  have gT : ig T := ⟨z, by omega⟩
  refine lp (P := fun j => ∀ v, ((v = 0 ∧ ∀ j', 0 ≤ j' → j' < j → 0 < j' % 30 / 6 → A.2.1 T j' → nx sz sy (j' - 6) = x ∧ A.2.1 s (j' - 6)) ∨ (v = 1 ∧ ∃ j, 0 ≤ j ∧ j < 270 ∧ 0 < j % 30 / 6 ∧ A.2.1 T j ∧ ¬ (nx sz sy (j - 6) = x ∧ A.2.1 s (j - 6)))) → ∀ w6 w7, X 62 20 [vR 6, vI s, vI x, vI T, vI v, vI j, w6, w7] [] h K) 0 270 (by decide) ?_ 0 (Or.inl ⟨rfl, fun j' a b => absurd b (by omega)⟩) _ _
  intro j j0 j1 ih v hv w6 w7
  have same : (0 < j % 30 / 6 → A.2.1 T j → nx sz sy (j - 6) = x ∧ A.2.1 s (j - 6)) → ((v = 0 ∧ ∀ j', 0 ≤ j' → j' < j + 1 → 0 < j' % 30 / 6 → A.2.1 T j' → nx sz sy (j' - 6) = x ∧ A.2.1 s (j' - 6)) ∨ (v = 1 ∧ ∃ j, 0 ≤ j ∧ j < 270 ∧ 0 < j % 30 / 6 ∧ A.2.1 T j ∧ ¬ (nx sz sy (j - 6) = x ∧ A.2.1 s (j - 6)))) := by
    intro q
    rcases hv with ⟨e, f⟩ | f
    · refine Or.inl ⟨e, fun j' a b => ?_⟩
      by_cases c : j' = j
      · subst c; exact q
      · exact f j' a (by omega)
    · exact Or.inr f
  refine s_62_20 s x T v j w6 w7 h K ⟨fun z3 => ⟨by rcases hv with e | e <;> omega, ?_⟩, fun z3 => ⟨by omega, fun z4 => ⟨by omega, ih z3 v (same (fun q => absurd q (by omega))) _ _⟩, fun z4 => ⟨by omega, fun z5 => ⟨by omega, ih z3 v (same (fun _ y => ?_)) _ _⟩, fun z5 => ⟨fun z6 => ⟨by omega, ih z3 1 ?_ _ _⟩, fun z6 => ?_⟩⟩⟩⟩
  · rcases hv with ⟨e, f⟩ | ⟨e, f⟩
    · subst e
      refine H0 ?_
      rintro ⟨_, j', b0, b1, b2, b3, b4⟩
      exact b4 (f j' b0 (by omega) b2 b3)
    · subst e; exact H1 ⟨gT, f⟩
  · have := (R.2.1 T j hT.1 hT.2 j0 z3).2.mpr y; omega
  · rcases hv with ⟨e, f⟩ | ⟨e, f⟩
    · omega
    · exact Or.inr ⟨rfl, f⟩
  · have rT := R.2.1 T j hT.1 hT.2 j0 z3
    have rT1 := rT.1
    have hI : A.2.1 T j := rT.2.mp (by omega)
    have l := B.2.1 T j hT.1 hT.2 j0 z3 hI
    have hr : 0 ≤ j / 30 ∧ j / 30 ≤ n := ⟨by omega, l.1⟩
    have enx : nxt h (j / 30) (j % 30 / 6 - 1) = nx sz sy (j - 6) := by
      rw [mg_nx g mg hr (by omega)]
      unfold nx
      rw [show (j - 6) / 30 = j / 30 by omega, show (j - 6) % 30 / 6 = j % 30 / 6 - 1 by omega]
    have pre := mg_pre g mg hr
    rw [enx, show 270 * s + j - 6 = 270 * s + (j - 6) by omega]
    have rs := R.2.1 s (j - 6) hs.1 hs.2 (by omega) (by omega)
    have rs1 := rs.1
    refine ⟨⟨by omega, hr.1, pre, by omega⟩, fun z7 => ⟨by omega, ih z3 1 (Or.inr ⟨rfl, j, j0, z3, z4, hI, fun q => z7 q.1⟩) _ _⟩, fun z7 => ⟨by omega, fun z8 => ⟨by omega, ih z3 0 ?_ _ _⟩, fun z8 => ⟨by omega, ih z3 1 (Or.inr ⟨rfl, j, j0, z3, z4, hI, fun q => ?_⟩) _ _⟩⟩⟩
    · have y := same (fun _ _ => ⟨z7, rs.2.mp (by omega)⟩)
      rw [z6] at y
      exact y
    · have := rs.2.mpr q.2; omega
set_option maxHeartbeats 4000000 in
theorem c_63 {s x : Int} {h : ab_S} {K : ab_O → ab_S → Prop} (g : GW n lf sz sy) (M : ME n lf sz sy h) (B : AI n sz A) (R : RM A (h 6 7) (h 25) (h 26)) (hs : 0 ≤ s ∧ s < A.1) (hx : 0 ≤ x ∧ x < 10)
    (H1 : w3 n sz A.2.1 A.2.2 s x → K (oI 1) h) (H0 : ¬ w3 n sz A.2.1 A.2.2 s x → K (oI 0) h) : C 63 [vR 6, vI s, vI x] h K := by
  have gn := g.1
  have hc := B.1
  have mg := M.1
  have en : h 6 1 = n := mg.1
  refine s_63_0 s x h K ?_
  have esn : szo h n = 1 := by rw [mg_sz g mg ⟨by omega, by omega⟩]; exact g.2.2.2.2.1
  rw [en, esn, R.2.2 s x hs.1 hs.2 hx.1 hx.2]
  have ok := B.2.2 s x hs.1 hs.2 hx.1 hx.2
  unfold w3 ig at H1 H0
  obtain ⟨T, eT⟩ : ∃ T, T = A.2.2 (10 * s + x) := ⟨_, rfl⟩
  rw [← eT] at ok H1 H0 ⊢
  clear eT
  rcases ok with e | e | e | e
  · repeat' (first | omega | (refine And.intro ?_ ?_) | intro _)
    all_goals exact H0 (fun q => q.1 e)
  · repeat' (first | omega | (refine And.intro ?_ ?_) | intro _)
    all_goals first
      | exact H1 ⟨by omega, Or.inl ⟨⟨by omega, by omega⟩, by omega⟩⟩
      | (refine H0 (fun q => ?_); rcases q.2 with q | ⟨q, _⟩ <;> omega)
  · have hsz := g.2.2.1 (T - 100) (by omega) (by omega)
    rw [mg_sz g mg (r := T - 100) ⟨by omega, by omega⟩]
    rw [show 30 * (T - 100) + 6 * sz (T - 100) + x - 4 = 30 * (T - 100) + 6 * sz (T - 100) + (x - 4) by omega]
    by_cases c : x < 4
    · repeat' (first | omega | (refine And.intro ?_ ?_) | intro _)
      all_goals exact H1 ⟨by omega, Or.inr ⟨by omega, Or.inl (by omega)⟩⟩
    · have rr := R.2.1 s (30 * (T - 100) + 6 * sz (T - 100) + (x - 4)) hs.1 hs.2 (by omega) (by omega)
      have r1 := rr.1
      repeat' (first | omega | (refine And.intro ?_ ?_) | intro _)
      all_goals first
        | exact H1 ⟨by omega, Or.inr ⟨by omega, Or.inr (Or.inr ⟨by omega, fun q => by have := rr.2.mpr q; omega⟩)⟩⟩
        | (refine H0 (fun q => ?_)
           rcases q.2 with q | ⟨_, q | q | q⟩
           · omega
           · omega
           · omega
           · exact q.2 (rr.2.mp (by omega)))
  · by_cases c : x = 9
    · have rr := R.2.1 s (30 * n + 11) hs.1 hs.2 (by omega) (by omega)
      have r1 := rr.1
      rw [show 30 * n + 6 * 1 + x - 4 = 30 * n + 11 by omega]
      repeat' (first | omega | (refine And.intro ?_ ?_) | intro _)
      all_goals first
        | exact H1 ⟨by omega, Or.inr ⟨by omega, Or.inr (Or.inl ⟨e, Or.inr (fun q => by have := rr.2.mpr q; omega)⟩)⟩⟩
        | (refine H0 (fun q => ?_)
           rcases q.2 with q | ⟨_, q | ⟨_, q | q⟩ | q⟩
           · omega
           · omega
           · omega
           · exact q (rr.2.mp (by omega))
           · omega)
    · repeat' (first | omega | (refine And.intro ?_ ?_) | intro _)
      all_goals exact H1 ⟨by omega, Or.inr ⟨by omega, Or.inr (Or.inl ⟨e, Or.inl c⟩)⟩⟩
def m13 (h : ab_S) (a b c d : Int) : ab_S := ab_up (ab_up (ab_up (ab_up h 6 13 a) 6 14 b) 6 15 c) 6 16 d
theorem c_64 {k : Int} {h : ab_S} {K : ab_O → ab_S → Prop} (hk : k = 2 ∨ k = 3) (g : GW n lf sz sy) (M : ME n lf sz sy h) (B : AI n sz A) (R : RM A (h 6 7) (h 25) (h 26))
    (H1 : ∀ J, isL (sb n sz sy A k) (10 * A.1) J → K (oI 1) (m13 h (J / 10) (J % 10) (-1) (-1))) (H0 : (∀ J, 0 ≤ J → J < 10 * A.1 → ¬ sb n sz sy A k J) → K (oI 0) h) : C 64 [vR 6, vI k] h K := by
  have hc := B.1
  have ec : h 6 7 = A.1 := R.1
  refine s_64_0 k h K ?_
  refine lp (P := fun s => (∀ J, 0 ≤ J → J < 10 * s → ¬ sb n sz sy A k J) → ∀ w, X 64 2 [vR 6, vI k, vI s, w] [] h K) 0 A.1 hc.1 ?_ (fun J a b => absurd b (by omega)) _
  intro s s0 s1 ihs no w
  refine s_64_2 k s w h K ⟨fun z => H0 (fun J a b => no J a (by omega)), fun z => ?_⟩
  refine lp (P := fun x => (∀ J, 0 ≤ J → J < 10 * s + x → ¬ sb n sz sy A k J) → X 64 8 [vR 6, vI k, vI s, vI x] [] h K) 0 10 (by decide) ?_ (fun J a b => no J a (by omega))
  intro x x0 x1 ihx no
  have yes : x < 10 → ws n sz sy A k s x → K (oI 1) (m13 h s x (-1) (-1)) := by
    intro q y
    have a : (10 * s + x) / 10 = s := by omega
    have b : (10 * s + x) % 10 = x := by omega
    have := H1 (10 * s + x) ⟨by omega, by omega, by unfold sb; rw [a, b]; exact y, no⟩
    rw [a, b] at this
    exact this
  have noo : x < 10 → ¬ ws n sz sy A k s x → X 64 8 [vR 6, vI k, vI s, vI (x + 1)] [] h K := by
    intro q y
    refine ihx q (fun J a b => ?_)
    by_cases c : J = 10 * s + x
    · subst c
      unfold sb
      rw [show (10 * s + x) / 10 = s by omega, show (10 * s + x) % 10 = x by omega]
      exact y
    · exact no J a (by omega)
  refine s_64_8 k s x h K ⟨fun z2 => ⟨by omega, ihs (by omega) (fun J a b => no J a (by omega)) _⟩, fun z2 => ⟨fun z3 => ?_, fun z3 => ?_⟩⟩
  · have e : k = 3 := by omega
    subst e
    refine c_63 g M B R ⟨s0, by omega⟩ ⟨x0, by omega⟩ (fun y => ⟨fun q => absurd q (by decide), fun _ => yes (by omega) (ws_3.mpr y)⟩) (fun y => ⟨fun _ => ⟨by omega, noo (by omega) (fun q => y (ws_3.mp q))⟩, fun q => absurd rfl q⟩)
  · subst z3
    refine c_62 g M B R ⟨s0, by omega⟩ ⟨x0, by omega⟩ (fun y => ⟨fun q => absurd q (by decide), fun _ => yes (by omega) (ws_2.mpr y)⟩) (fun y => ⟨fun _ => ⟨by omega, noo (by omega) (fun q => y (ws_2.mp q))⟩, fun q => absurd rfl q⟩)
theorem c_61 {k : Int} {h : ab_S} {K : ab_O → ab_S → Prop} (hk : k = 1 ∨ k = 4 ∨ k = 6 ∨ k = 7 ∨ k = 8) (g : GW n lf sz sy) (M : ME n lf sz sy h) (B : AI n sz A) (R : RM A (h 6 7) (h 25) (h 26))
    (H1 : ∀ J, isL (ib n lf sz sy A k) (270 * A.1) J → K (oI 1) (m13 h (J / 270) (J % 270 / 30) (J % 270 % 30 / 6) (J % 270 % 6 + 4))) (H0 : (∀ J, 0 ≤ J → J < 270 * A.1 → ¬ ib n lf sz sy A k J) → K (oI 0) h) : C 61 [vR 6, vI k] h K := by
  have hc := B.1
  have ec : h 6 7 = A.1 := R.1
  refine s_61_0 k h K ?_
  refine lp (P := fun s => (∀ J, 0 ≤ J → J < 270 * s → ¬ ib n lf sz sy A k J) → ∀ w3 w4 w5 w6, X 61 2 [vR 6, vI k, vI s, w3, w4, w5, w6] [] h K) 0 A.1 hc.1 ?_ (fun J a b => absurd b (by omega)) _ _ _ _
  intro s s0 s1 ihs no w3 w4 w5 w6
  refine s_61_2 k s w3 w4 w5 w6 h K ⟨fun z => H0 (fun J a b => no J a (by omega)), fun z => ?_⟩
  refine lp (P := fun i => (∀ J, 0 ≤ J → J < 270 * s + i → ¬ ib n lf sz sy A k J) → ∀ w4 w5 w6, X 61 8 [vR 6, vI k, vI s, vI i, w4, w5, w6] [] h K) 0 270 (by decide) ?_ (fun J a b => no J a (by omega)) _ _ _
  clear no w3 w4 w5 w6
  intro i i0 i1 ihi no w4 w5 w6
  have nxi : i < 270 → ¬ ib n lf sz sy A k (270 * s + i) → ∀ J, 0 ≤ J → J < 270 * s + (i + 1) → ¬ ib n lf sz sy A k J := by
    intro q y J b c
    by_cases e : J = 270 * s + i
    · rw [e]; exact y
    · exact no J b (by omega)
  refine s_61_8 k s i w4 w5 w6 h K ⟨fun z2 => ⟨by omega, ihs (by omega) (fun J a b => no J a (by omega)) _ _ _ _⟩, fun z2 => ⟨by omega, fun z3 => ⟨by omega, ?_⟩, fun z3 => ⟨by omega, ihi z2 (nxi z2 (fun q => ?_)) _ _ _⟩⟩⟩
  · have f1 : (270 * s + i) / 270 = s := by omega
    have f2 : (270 * s + i) % 270 = i := by omega
    have rr := R.2.1 s i s0 (by omega) i0 z2
    have r1 := rr.1
    have hI : A.2.1 s i := rr.2.mp (by omega)
    have l := B.2.1 s i s0 (by omega) i0 z2 hI
    refine c_60 hk g M B R ⟨s0, by omega⟩ ⟨by omega, l.1⟩ ⟨by omega, l.2⟩ (by omega) (fun y => ⟨fun q => absurd q (by decide), fun _ => ?_⟩) (fun y => ⟨fun _ => ⟨by omega, ihi z2 (nxi z2 (fun q => y ?_)) _ _ _⟩, fun q => absurd rfl q⟩)
    · have := H1 (270 * s + i) ⟨by omega, by omega, by unfold ib; rw [f1, f2]; exact ⟨hI, y⟩, no⟩
      rw [f1, f2] at this
      exact this
    · have q2 := q.2
      rw [f1, f2] at q2
      exact q2
  · have q1 := q.1
    rw [show (270 * s + i) / 270 = s by omega, show (270 * s + i) % 270 = i by omega] at q1
    have := (R.2.1 s i s0 (by omega) i0 z2).2.mpr q1
    omega
theorem m13_fr (h : ab_S) (a b c d : Int) : fr [6] h (m13 h a b c d) := fr_tr (fr_tr (fr_tr (fr_up (by decide)) (fr_up (by decide))) (fr_up (by decide))) (fr_up (by decide))
theorem m13_fr6 (h : ab_S) (a b c d : Int) : fr6 [0, 13, 14, 15, 16] h (m13 h a b c d) := fr6_tr (fr6_tr (fr6_tr (fr6_up (by decide)) (fr6_up (by decide))) (fr6_up (by decide))) (fr6_up (by decide))
theorem m13_at (h : ab_S) (a b c d i : Int) (h0 : 0 ≤ i) (h1 : i < 4) : m13 h a b c d 6 (13 + i) = if i = 0 then a else if i = 1 then b else if i = 2 then c else d := by
  rcases (show i = 0 ∨ i = 1 ∨ i = 2 ∨ i = 3 by omega) with e | e | e | e <;> subst e <;> rfl
theorem c_65 {h : ab_S} {K : ab_O → ab_S → Prop} (g : GW n lf sz sy) (mg : MG n lf sz sy (h 6 1) (h 20) (h 21) (h 22)) (B : AI n sz A) (R : RM A (h 6 7) (h 25) (h 26)) (hA : 0 < A.1)
    (H : ∀ v h', ckR n lf sz sy A v (fun i => h' 6 (13 + i)) → fr [6, 23, 24] h h' → fr6 [0, 13, 14, 15, 16] h h' → h' 6 0 = 0 → K (oI v) h') : C 65 [vR 6] h K := by
  have hc := B.1
  have gn := g.1
  have ec : h 6 7 = A.1 := R.1
  refine s_65_0 h K ⟨fun _ => ?_, fun z => absurd z (by omega)⟩
  show C 39 [vR 6] (m13 (ab_up h 6 0 0) (-1) (-1) (-1) (-1)) _
  refine c_39 g mg (fun f1 f2 hr hb => ?_)
  obtain ⟨h0, e0⟩ : ∃ h0, h0 = upc (upc (m13 (ab_up h 6 0 0) (-1) (-1) (-1) (-1)) 23 f1) 24 f2 := ⟨_, rfl⟩
  have F0 : fr [6, 23, 24] h h0 := by
    rw [e0]
    exact fr_tr (fr_tr (fr_tr (fr_up (by decide)) (fr_sub (m13_fr _ _ _ _ _) (by decide))) (fr_upc (by decide))) (fr_upc (by decide))
  have S0 : fr6 [0, 13, 14, 15, 16] h h0 := by
    rw [e0]
    exact fr6_tr (fr6_tr (fr6_up (by decide)) (m13_fr6 _ _ _ _ _)) (fun i _ => rfl)
  have Z0 : h0 6 0 = 0 := by rw [e0]; rfl
  have M0 : ME n lf sz sy h0 := by rw [e0]; exact ⟨mg, hr, hb⟩
  have R0 : RM A (h0 6 7) (h0 25) (h0 26) := by rw [e0]; exact R
  have W0 : ∀ i, 0 ≤ i → i < 4 → h0 6 (13 + i) = -1 := by
    intro i i0 i1
    rw [e0]
    show m13 (ab_up h 6 0 0) (-1) (-1) (-1) (-1) 6 (13 + i) = -1
    rw [m13_at _ _ _ _ _ _ i0 i1]
    split
    · rfl
    · split
      · rfl
      · split <;> rfl
  have en : h0 6 1 = n := M0.1.1
  show X 65 23 [vR 6, vI 0, vI 1, vJ 0] [] (upc (upc (m13 (ab_up h 6 0 0) (-1) (-1) (-1) (-1)) 23 f1) 24 f2) K
  rw [← e0]
  clear e0 hr hb
  have fin : ∀ k J w, (∀ k' J, 1 ≤ k' → k' < k → ¬ fnd n lf sz sy A k' J) → (1 ≤ k ∧ k ≤ 8) → fnd n lf sz sy A k J → ∀ a b c d, (∀ i, 0 ≤ i → i < 4 → (if i = 0 then a else if i = 1 then b else if i = 2 then c else d) = wh k J i) → X 65 23 [vR 6, vI k, vI (k + 1), w] [] (m13 h0 a b c d) K := by
    intro k J w no hk hJ a b c d hw
    have y : K (oI k) (m13 h0 a b c d) := by
      refine H k _ (Or.inr ⟨hk, no, J, hJ, fun i i0 i1 => ?_⟩) (fr_tr F0 (fr_sub (m13_fr _ _ _ _ _) (by decide))) (fr6_tr S0 (m13_fr6 _ _ _ _ _)) Z0
      show m13 h0 a b c d 6 (13 + i) = _
      rw [m13_at _ _ _ _ _ _ i0 i1]
      exact hw i i0 i1
    exact s_65_23 k (k + 1) w _ K ⟨fun _ => y, fun _ => ⟨fun _ => y, fun q => absurd q (by omega)⟩⟩
  refine lp (P := fun k => (∀ k' J, 1 ≤ k' → k' < k → ¬ fnd n lf sz sy A k' J) → ∀ w, X 65 23 [vR 6, vI 0, vI k, w] [] h0 K) 1 9 (by decide) ?_ (fun k' J a b => absurd b (by omega)) _
  intro k k0 k1 ih no w
  have nx9 : k < 9 → (∀ J, ¬ fnd n lf sz sy A k J) → ∀ w, X 65 23 [vR 6, vI 0, vI (k + 1), w] [] h0 K := by
    intro q y w
    refine ih q (fun k' J a b => ?_) _
    by_cases c : k' = k
    · subst c; exact y J
    · exact no k' J a (by omega)
  have symc : k < 9 → (k = 2 ∨ k = 3) → C 64 [vR 6, vI k] h0 (kI (fun v4 h4 => ((v4 = 0 → ((-2147483648 ≤ k + 1 ∧ k + 1 ≤ 2147483647)) ∧ X 65 23 [vR 6, vI 0, vI (k + 1), vI v4] [] h4 K) ∧ (¬ v4 = 0 → ((-2147483648 ≤ k + 1 ∧ k + 1 ≤ 2147483647)) ∧ X 65 23 [vR 6, vI k, vI (k + 1), vI v4] [] h4 K)))) := by
    intro q hk
    refine c_64 hk g M0 B R0 (fun J hJ => ⟨fun q => absurd q (by decide), fun _ => ⟨by omega, fin k J _ no ⟨k0, by omega⟩ (Or.inr (Or.inl ⟨hk, hJ⟩)) _ _ _ _ (fun i i0 i1 => ?_)⟩⟩) (fun nok => ⟨fun _ => ⟨by omega, nx9 q (fun J y => ?_) _⟩, fun q => absurd rfl q⟩)
    · unfold wh
      rw [if_neg (show ¬ k = 5 by omega), if_pos hk]
      split
      · rfl
      · split
        · rfl
        · split <;> rfl
    · rcases y with ⟨y, _⟩ | ⟨_, y⟩ | ⟨y, _⟩
      · omega
      · exact nok J y.1 y.2.1 y.2.2.1
      · omega
  refine s_65_23 0 k w h0 K ⟨fun z => H 0 h0 (Or.inl ⟨rfl, fun k' J a b => no k' J a (by omega), W0⟩) F0 S0 Z0, fun z => ⟨fun q => absurd rfl q, fun _ => ⟨fun z2 => symc z (by omega), fun z2 => ⟨fun z3 => ⟨fun z4 => ?_, fun z4 => ?_⟩, fun z3 => symc z (by omega)⟩⟩⟩⟩
  · have hk : k = 1 ∨ k = 4 ∨ k = 6 ∨ k = 7 ∨ k = 8 := by omega
    refine c_61 hk g M0 B R0 (fun J hJ => ⟨fun q => absurd q (by decide), fun _ => ⟨by omega, fin k J _ no ⟨k0, by omega⟩ (Or.inl ⟨hk, hJ⟩) _ _ _ _ (fun i i0 i1 => ?_)⟩⟩) (fun nok => ⟨fun _ => ⟨by omega, nx9 z (fun J y => ?_) _⟩, fun q => absurd rfl q⟩)
    · unfold wh
      rw [if_neg (show ¬ k = 5 by omega), if_neg (show ¬ (k = 2 ∨ k = 3) by omega)]
    · rcases y with ⟨_, y⟩ | ⟨y, _⟩ | ⟨y, _⟩
      · exact nok J y.1 y.2.1 y.2.2.1
      · omega
      · omega
  · subst z4
    rw [en, show 0 + (30 * n + 0 + 9 - 4) = 270 * 0 + (30 * n + 5) by omega]
    have rr := R0.2.1 0 (30 * n + 5) (by omega) (by omega) (by omega) (by omega)
    have r1 := rr.1
    refine ⟨by omega, fun z5 => ⟨by omega, nx9 z (fun J y => ?_) _⟩, fun z5 => ⟨by omega, ?_⟩⟩
    · rcases y with ⟨y, _⟩ | ⟨y, _⟩ | ⟨_, _, y⟩
      · omega
      · omega
      · exact y (rr.2.mp (by omega))
    · refine fin 5 0 _ no (by omega) (Or.inr (Or.inr ⟨rfl, rfl, fun q => ?_⟩)) 0 (-1) (-1) (-1) (fun i i0 i1 => ?_)
      · have := rr.2.mpr q; omega
      · unfold wh
        rw [if_pos (show (5 : Int) = 5 from rfl)]
        split
        · rfl
        · split
          · rfl
          · split <;> rfl
end MCheck
