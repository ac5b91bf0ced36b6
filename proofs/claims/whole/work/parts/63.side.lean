/-! Side by side: the parse and the rules; and the law's loop. -/
section Side3
variable {x4 : Int} {w5 w6 : ab_V} {h : ab_S} {K : ab_O → ab_S → Prop}
theorem shf_TR {h : ab_S} {x st : Int} (T : TR h) (hx : 0 ≤ x ∧ x < 10) (h4 : 0 ≤ h 5 4 ∧ h 5 4 ≤ 20) : TR (shf h x st) := by
  intro k k0 k1
  have k1 : k < (h 5 9 + 1) * 5 := k1
  show -1 ≤ nod h x (-1) (h 5 4) 1 19 k ∧ nod h x (-1) (h 5 4) 1 19 k ≤ 100
  by_cases c : k < h 5 9 * 5
  · rw [nod_lt c]; exact T k k0 c
  · rcases (show k = h 5 9 * 5 + 0 ∨ k = h 5 9 * 5 + 1 ∨ k = h 5 9 * 5 + 2 ∨ k = h 5 9 * 5 + 3 ∨ k = h 5 9 * 5 + 4 by omega) with e | e | e | e | e
    · rw [e, nod_0]; omega
    · rw [e, nod_1]; omega
    · rw [e, nod_2]; omega
    · rw [e, nod_3]; omega
    · rw [e, nod_4]; omega
theorem rd6_TR {n : Int} {lf sz sy : Int → Int} {il c r : Int} {h : ab_S} (g : GW n lf sz sy) (T : TR h) (P : PI il c h) (hil : il ≤ 20) (hr : 0 ≤ r ∧ r < n) (ho : sz r < h 5 7) : ∀ k, 0 ≤ k → k < (h 5 9 + 1) * 5 → -1 ≤ rd6 lf sz h r 19 k ∧ rd6 lf sz h r 19 k ≤ 100 := by
  intro k k0 k1
  have gn := g.1
  have hl := g.2.1 r hr.1 hr.2
  have hz := g.2.2.1 r hr.1 (by omega)
  have w := wid_rg P hz.1 ho
  obtain ⟨P1, P2, P3, P4, P5, P6⟩ := P
  have q9 : upc h 19 (parT h (h 5 7 - sz r) (h 5 7)) 5 9 = h 5 9 := rfl
  unfold rd6
  by_cases c : k < h 5 9 * 5
  · rw [nod_lt (h := upc h 19 (parT h (h 5 7 - sz r) (h 5 7))) c, upc_at]
    unfold parT
    by_cases y : ∃ i, h 5 7 - sz r ≤ i ∧ i < h 5 7 ∧ k = h 18 i * 5 + 2
    · rw [cif_pos y]; omega
    · rw [cif_neg y]; exact T k k0 c
  · rcases (show k = h 5 9 * 5 + 0 ∨ k = h 5 9 * 5 + 1 ∨ k = h 5 9 * 5 + 2 ∨ k = h 5 9 * 5 + 3 ∨ k = h 5 9 * 5 + 4 by omega) with e | e | e | e | e
    · have a := nod_0 (h := upc h 19 (parT h (h 5 7 - sz r) (h 5 7))) (x := lf r) (r := r) (b := h 5 4 - wid sz h r) (w := wid sz h r)
      rw [q9] at a
      rw [e, a]; omega
    · have a := nod_1 (h := upc h 19 (parT h (h 5 7 - sz r) (h 5 7))) (x := lf r) (r := r) (b := h 5 4 - wid sz h r) (w := wid sz h r)
      rw [q9] at a
      rw [e, a]; omega
    · have a := nod_2 (h := upc h 19 (parT h (h 5 7 - sz r) (h 5 7))) (x := lf r) (r := r) (b := h 5 4 - wid sz h r) (w := wid sz h r)
      rw [q9] at a
      rw [e, a]; omega
    · have a := nod_3 (h := upc h 19 (parT h (h 5 7 - sz r) (h 5 7))) (x := lf r) (r := r) (b := h 5 4 - wid sz h r) (w := wid sz h r)
      rw [q9] at a
      rw [e, a]; omega
    · have a := nod_4 (h := upc h 19 (parT h (h 5 7 - sz r) (h 5 7))) (x := lf r) (r := r) (b := h 5 4 - wid sz h r) (w := wid sz h r)
      rw [q9] at a
      rw [e, a]; omega
theorem cst_TR {n : Int} {lf sz sy : Int → Int} {A : au_T} {inp : Int → Int} {il : Int} {h : ab_S} (g : GW n lf sz sy) (B : AI n sz A) (P : PI il A.1 h) (T : TR h) (hil : 0 ≤ il ∧ il ≤ 20) (hx : ∀ i, 0 ≤ i → i < il → 4 ≤ inp i ∧ inp i < 9) :
    TR (cst n lf sz sy A.2.2 inp il h).2 ∧ 0 ≤ (cst n lf sz sy A.2.2 inp il h).1 ∧ (cst n lf sz sy A.2.2 inp il h).1 ≤ 4 := by
  have hc := B.1
  have gn := g.1
  obtain ⟨P1, P2, P3, P4, P5, P6⟩ := id P
  have p4 := P4 (h 5 7 - 1) (by omega) (by omega)
  have x0 : 0 ≤ psy inp il h ∧ psy inp il h < 10 := by
    unfold psy
    by_cases c : h 5 4 < il
    · rw [if_pos c]
      have := hx (h 5 4) (by omega) c
      omega
    · rw [if_neg c]; omega
  have ok : okE n A.1 (pen A.2.2 inp il h) := B.2.2 (h 17 (h 5 7 - 1)) (psy inp il h) p4.1 p4.2 x0.1 x0.2
  have stay : ∀ v : Int, 0 ≤ v ∧ v ≤ 4 → TR ((v, h) : Int × ab_S).2 ∧ 0 ≤ ((v, h) : Int × ab_S).1 ∧ ((v, h) : Int × ab_S).1 ≤ 4 := fun v hv => ⟨T, hv⟩
  unfold cst
  obtain ⟨U, eU⟩ : ∃ U, U = pen A.2.2 inp il h := ⟨_, rfl⟩
  rw [← eU] at ok ⊢
  by_cases c1 : U = -1
  · rw [if_pos c1]; exact stay 2 (by decide)
  rw [if_neg c1]
  by_cases c2 : 0 ≤ U ∧ U < 50
  · rw [if_pos c2]
    by_cases c3 : psy inp il h = 9
    · rw [if_pos c3]; exact stay 3 (by decide)
    rw [if_neg c3]
    by_cases c4 : 60 ≤ h 5 9
    · rw [if_pos c4]; exact stay 4 (by decide)
    rw [if_neg c4]
    exact ⟨shf_TR T x0 (by omega), by show 0 ≤ (0 : Int); decide, by show (0 : Int) ≤ 4; decide⟩
  rw [if_neg c2]
  by_cases c3 : U = 200
  · rw [if_pos c3]
    by_cases c4 : h 5 7 = 2 ∧ h 19 (h 18 1 * 5 + 0) = lf 0
    · rw [if_pos c4]; exact stay 1 (by decide)
    · rw [if_neg c4]; exact stay 3 (by decide)
  rw [if_neg c3]
  have hr : 0 ≤ U - 100 ∧ U - 100 ≤ n := by unfold okE at ok; omega
  obtain ⟨r, er⟩ : ∃ r, r = U - 100 := ⟨_, rfl⟩
  rw [← er] at hr ⊢
  unfold rdc
  by_cases c4 : r = n
  · rw [if_pos c4]; exact stay 3 (by decide)
  rw [if_neg c4]
  by_cases c5 : rowOn sz sy h r
  · rw [cif_pos c5]
    by_cases c6 : 60 ≤ h 5 9
    · rw [if_pos c6]; exact stay 4 (by decide)
    rw [if_neg c6]
    have t6 := rd6_TR g T P hil.2 (r := r) (by omega) c5.1
    by_cases c7 : 0 ≤ tgt A.2.2 lf sz h r ∧ tgt A.2.2 lf sz h r < 50
    · rw [if_pos c7]
      exact ⟨t6, by show 0 ≤ (0 : Int); decide, by show (0 : Int) ≤ 4; decide⟩
    · rw [if_neg c7]
      exact ⟨t6, by show 0 ≤ (3 : Int); decide, by show (3 : Int) ≤ 4; decide⟩
  · rw [cif_neg c5]; exact stay 3 (by decide)
theorem rn_TR {n : Int} {lf sz sy : Int → Int} {A : au_T} {inp : Int → Int} {il : Int} {S : ab_S} (g : GW n lf sz sy) (B : AI n sz A) (P : PI il A.1 S) (T : TR S) (hil : 0 ≤ il ∧ il ≤ 20) (hx : ∀ i, 0 ≤ i → i < il → 4 ≤ inp i ∧ inp i < 9) (m : Nat) :
    TR (rn n lf sz sy A.2.2 inp il S m).2 ∧ 0 ≤ (rn n lf sz sy A.2.2 inp il S m).1 ∧ (rn n lf sz sy A.2.2 inp il S m).1 ≤ 4 := by
  induction m with
  | zero => exact ⟨T, by show 0 ≤ (0 : Int); decide, by show (0 : Int) ≤ 4; decide⟩
  | succ m ih =>
    by_cases c : (rn n lf sz sy A.2.2 inp il S m).1 = 0
    · have e : rn n lf sz sy A.2.2 inp il S (m + 1) = cst n lf sz sy A.2.2 inp il (rn n lf sz sy A.2.2 inp il S m).2 := if_pos c
      rw [e]
      exact cst_TR g B ((rn_ok g B P hil hx m).2.2 c) ih.1 hil hx
    · have e : rn n lf sz sy A.2.2 inp il S (m + 1) = rn n lf sz sy A.2.2 inp il S m := if_neg c
      rw [e]
      exact ih
set_option maxHeartbeats 4000000 in
theorem k_12 (S : Sim h) (L : Lp x4 h) (N : Nx x4 h K) : ((-2147483648 ≤ x4 + 1 ∧ x4 + 1 ≤ 2147483647) ∧ (0 ≤ x4 + 1 ∧ x4 + 1 < h 38 (-1))) ∧ C 134 [vR 0, vI (h 38 (x4 + 1)), vR 37] h (kI (fun v141 h141 => ((-2147483648 ≤ x4 + 1 ∧ x4 + 1 ≤ 2147483647) ∧ (0 ≤ x4 + 1 ∧ x4 + 1 < h141 38 (-1))) ∧ C 74 [vR 6, vI (h141 38 (x4 + 1))] h141 (kI (fun v144 h144 => ((h144 6 0 = v141 → ((¬ v141 = 0 → ((-2147483648 ≤ x4 + 5 ∧ x4 + 5 ≤ 2147483647)) ∧ X 136 13 [vR 38, vR 0, vR 6, vR 37, vI (x4 + 5), vI v141, vI v144] [] h144 K) ∧ (v141 = 0 → ((h144 37 0 = v144 → ((-2147483648 ≤ x4 + 5 ∧ x4 + 5 ≤ 2147483647)) ∧ X 136 13 [vR 38, vR 0, vR 6, vR 37, vI (x4 + 5), vI v141, vI v144] [] h144 K) ∧ (¬ h144 37 0 = v144 → K (oI 0) h144))))) ∧ (¬ h144 6 0 = v141 → K (oI 0) h144)))))) := by
  obtain ⟨gp, ⟨A, ai, rc, rm, ln⟩, ft, ins, pr, sc⟩ := S
  unfold Lp at L
  refine ⟨by omega, ?_⟩
  obtain ⟨x, ex⟩ : ∃ x, x = h 38 (x4 + 1) := ⟨_, rfl⟩
  rw [← ex]
  have hc := ai.1
  have r1 := rc.1
  have m1 := rm.1
  have no2 : (x < 0 ∨ 400 < x) → ¬ h 6 7 = 0 → ((-2147483648 ≤ x4 + 1 ∧ x4 + 1 ≤ 2147483647) ∧ (0 ≤ x4 + 1 ∧ x4 + 1 < h 38 (-1))) ∧ C 74 [vR 6, vI x] (ab_up h 39 0 (h 39 0 + 1)) (kI (fun v144 h144 => ((h144 6 0 = 2 → ((¬ (2 : Int) = 0 → ((-2147483648 ≤ x4 + 5 ∧ x4 + 5 ≤ 2147483647)) ∧ X 136 13 [vR 38, vR 0, vR 6, vR 37, vI (x4 + 5), vI 2, vI v144] [] h144 K) ∧ ((2 : Int) = 0 → ((h144 37 0 = v144 → ((-2147483648 ≤ x4 + 5 ∧ x4 + 5 ≤ 2147483647)) ∧ X 136 13 [vR 38, vR 0, vR 6, vR 37, vI (x4 + 5), vI 2, vI v144] [] h144 K) ∧ (¬ h144 37 0 = v144 → K (oI 0) h144))))) ∧ (¬ h144 6 0 = 2 → K (oI 0) h144)))) := by
    intro q q2
    have nx := N (ab_up (ab_up (ab_up h 39 0 (h 39 0 + 1)) 6 0 0) 6 0 2) (vI 2) (vI 0) ⟨gp, ⟨A, ai, rc, rm, ln⟩, ft, ins, pr, sc⟩ rfl (Int.le_refl _)
    refine ⟨sides1 L, s_74_0 x _ _ ⟨fun _ => ⟨fun _ => ?_, fun z => ⟨fun z2 => absurd q (by omega), fun _ => ?_⟩⟩, fun (z : h 6 7 = 0) => absurd z q2⟩⟩
    · exact cmp1 rfl (fun q => absurd q (by decide)) ⟨by omega, nx⟩
    · exact cmp1 rfl (fun q => absurd q (by decide)) ⟨by omega, nx⟩
  refine s_134_0 x h _ ⟨fun z => ⟨fun z2 => ?_, fun z2 => ⟨fun z3 => ?_, fun z3 => ?_⟩⟩, fun z => ?_⟩
  · show (_ ∧ _) ∧ C 74 [vR 6, vI (h 38 (x4 + 1))] (ab_up h 39 0 (h 39 0 + 1)) _
    rw [← ex]
    exact no2 (Or.inl z2) (by omega)
  · have hA : 0 < A.1 := by omega
    obtain ⟨n0, l⟩ := ln hA
    have g := gp.2.1 n0
    obtain ⟨i1, i2, i3⟩ := id ins
    have hx : ∀ i, 0 ≤ i → i < h 5 3 → 4 ≤ h 16 i ∧ h 16 i < 9 := fun i a b => (i3 i a b).2
    have P0 := pst_PI (h := h) (c := A.1) i2.1 hA
    have T0 : TR (pst h) := fun k k0 k1 => absurd (show k < 0 * 5 from k1) (by omega)
    have ok := rn_ok g ai P0 i2 hx x.toNat
    have tr := rn_TR g ai P0 T0 i2 hx x.toNat
    refine c_118 (inp := h 16) (il := h 5 3) ⟨rfl, rfl, rfl, rfl⟩ g ai rc hA i2 rfl rfl hx ⟨z2, z3⟩ ?_
    have FS := fp_tr (pst_fp h) ok.1
    obtain ⟨W, eW⟩ : ∃ W, W = rn (h 1 0) (h 7) (h 8) (h 9) A.2.2 (h 16) (h 5 3) (pst h) x.toNat := ⟨_, rfl⟩
    rw [← eW] at ok tr FS ⊢
    have e38 : W.2 38 = h 38 := FS.1 38 (by decide)
    have e6 : W.2 6 = h 6 := FS.1 6 (by decide)
    refine ⟨by omega, ?_⟩
    show (_ ∧ _) ∧ C 74 [vR 6, vI (W.2 38 (x4 + 1))] (ab_up W.2 37 0 W.1) _
    rw [e38, ← ex]
    have e61 : W.2 6 1 = h 6 1 := by rw [e6]
    have e67 : W.2 6 7 = h 6 7 := by rw [e6]
    have e617 : W.2 6 17 = h 6 17 := by rw [e6]
    refine ⟨?_, ?_⟩
    · show (-2147483648 ≤ x4 + 1 ∧ x4 + 1 ≤ 2147483647) ∧ (0 ≤ x4 + 1 ∧ x4 + 1 < W.2 38 (-1))
      rw [e38]
      exact sides1 L
    refine c_74 (S := h) (inp := h 16) (il := h 5 3) (h := ab_up W.2 37 0 W.1) g (by show MG _ _ _ _ (W.2 6 1) (W.2 20) (W.2 21) (W.2 22); rw [e61, FS.1 20 (by decide), FS.1 21 (by decide), FS.1 22 (by decide)]; exact gp.2.2) ai (by show RM A (W.2 6 7) (W.2 25) (W.2 26); rw [e67, FS.1 25 (by decide), FS.1 26 (by decide)]; exact rm) hA i2 (by show W.2 6 17 = h 5 3; rw [e617]; exact i1) (by show ∀ i, 0 ≤ i → i < h 5 3 → W.2 29 i = h 16 i; rw [FS.1 29 (by decide)]; exact fun i a b => (i3 i a b).1) hx ⟨z2, z3⟩ (fun h' M F => ?_)
    rw [← eW] at M ⊢
    have G : ∀ k, ¬ k ∈ [6, 30, 31, 32, 33, 34, 35, 36, 37] → h' k = W.2 k := by
      intro k hk
      have s1 : ¬ k ∈ [6, 30, 31, 32, 33, 34, 35, 36] := fun q => hk (by revert q; simp; omega)
      have s2 : ¬ k ∈ [6, 30, 37] := fun q => hk (by revert q; simp; omega)
      have m0 : fr [6, 30, 37] W.2 (mst0 (ab_up W.2 37 0 W.1)) := fr_tr (fr_tr (fr_tr (fr_tr (fr_tr (fr_tr (fr_up (by decide)) (fr_up (by decide))) (fr_up (by decide))) (fr_up (by decide))) (fr_up (by decide))) (fr_up (by decide))) (fr_up (by decide))
      rw [F.1 k s1, m0 k s2]
    have GG : ∀ k, ¬ k ∈ [6, 30, 31, 32, 33, 34, 35, 36, 37, 5, 17, 18, 19] → h' k = h k := by
      intro k hk
      have s1 : ¬ k ∈ [6, 30, 31, 32, 33, 34, 35, 36, 37] := fun q => hk (by revert q; simp; omega)
      have s2 : ¬ k ∈ [5, 17, 18, 19] := fun q => hk (by revert q; simp; omega)
      rw [G k s1, FS.1 k s2]
    have G6 : ∀ i, ¬ i ∈ ([0, 19, 20, 21, 22] : List Int) → h' 6 i = h 6 i := by
      intro i hi
      have s1 : ¬ i ∈ ([20, 21, 22] : List Int) := fun q => hi (by revert q; simp; omega)
      have m0 : fr6 [0, 19, 20, 21, 22] W.2 (mst0 (ab_up W.2 37 0 W.1)) := fr6_tr (fr6_tr (fr6_tr (fr6_tr (fr6_tr (fr6_tr (fr6_ne (by decide)) (fr6_up (by decide))) (fr6_up (by decide))) (fr6_up (by decide))) (fr6_up (by decide))) (fr6_up (by decide))) (fr6_ne (by decide))
      rw [F.2 i s1, m0 i hi, e6]
    have q60 : h' 6 0 = 0 := F.2 0 (by decide)
    have q619 : h' 6 19 = 1 := F.2 19 (by decide)
    have q37 : h' 37 0 = W.1 := by rw [F.1 37 (by decide)]; rfl
    obtain ⟨w1, w2, w3, w4⟩ := ok.2.1
    have h5 : h' 5 = W.2 5 := G 5 (by decide)
    have h19 : h' 19 = W.2 19 := G 19 (by decide)
    obtain ⟨M1, M2, M3, M4, M5⟩ := M
    refine cmp1 q60 (fun _ => q37) ⟨by omega, N _ _ _ ⟨?_, ⟨A, ?_, ?_, ?_, fun _ => ?_⟩, ?_, ?_, ?_, ?_⟩ (GG 38 (by decide)) ?_⟩
    · exact GP_tr gp (by rw [GG 1 (by decide)]) (GG 7 (by decide)) (GG 8 (by decide)) (GG 9 (by decide)) (GG 20 (by decide)) (GG 21 (by decide)) (GG 22 (by decide)) (G6 1 (by decide))
    · rw [GG 1 (by decide), GG 8 (by decide)]; exact ai
    · rw [GG 2 (by decide), GG 12 (by decide), GG 13 (by decide)]; exact rc
    · rw [G6 7 (by decide), GG 25 (by decide), GG 26 (by decide)]; exact rm
    · rw [GG 1 (by decide)]
      refine ⟨n0, ?_⟩
      unfold LN
      rw [GG 1 (by decide), GG 7 (by decide), GG 8 (by decide), GG 9 (by decide), GG 10 (by decide), GG 11 (by decide)]
      exact l
    · unfold FT
      rw [GG 15 (by decide), G6 13 (by decide), G6 14 (by decide), G6 15 (by decide), G6 16 (by decide)]
      exact ft
    · exact IN_tr ins (by rw [h5]; exact FS.2 3 (by decide)) (GG 16 (by decide)) (GG 29 (by decide)) (G6 17 (by decide))
    · unfold PR PT TR
      rw [h5, h19]
      exact ⟨Or.inr ⟨q619, M2⟩, ⟨w3, w4⟩, ⟨by omega, w2⟩, M5, tr.1⟩
    · exact SC_tr sc (GG 38 (by decide))
    · rw [GG 39 (by decide)]; omega
  · show (_ ∧ _) ∧ C 74 [vR 6, vI (h 38 (x4 + 1))] (ab_up h 39 0 (h 39 0 + 1)) _
    rw [← ex]
    exact no2 (Or.inr z3) (by omega)
  · show (_ ∧ _) ∧ C 74 [vR 6, vI (h 38 (x4 + 1))] (ab_up h 39 0 (h 39 0 + 1)) _
    rw [← ex]
    have nx := N (ab_up (ab_up (ab_up h 39 0 (h 39 0 + 1)) 6 0 0) 6 0 1) (vI 1) (vI 0) ⟨gp, ⟨A, ai, rc, rm, ln⟩, ft, ins, pr, sc⟩ rfl (Int.le_refl _)
    refine ⟨sides1 L, s_74_0 x _ _ ⟨fun (q : ¬ h 6 7 = 0) => absurd (by omega) q, fun _ => ?_⟩⟩
    exact cmp1 rfl (fun q => absurd q (by decide)) ⟨by omega, nx⟩
def cln (x : Int) : Int := b_and (b_shr x 2) 7
def csy (x i : Int) : Int := b_and (b_shr x (5 + 4 * i)) 15
def okR (x : Int) : Prop := cln x ≤ 4 ∧ ∀ i, 0 ≤ i → i < cln x → csy x i < 9
theorem cln_u (x : Int) : b_and (b_ushr x 2) 7 = cln x := shr_eq x (by decide) (by decide)
theorem csy_u (x : Int) {i : Int} (hi : 0 ≤ i ∧ i < 4) : b_and (b_ushr x (5 + 4 * i)) 15 = csy x i := by
  unfold csy
  refine shr_eq x ?_ (by decide)
  omega
theorem cln_rg (x : Int) : 0 ≤ cln x := (and7 _).1
theorem csy_rg (x i : Int) : 0 ≤ csy x i := (and15 _).1
theorem c_106 {x : Int} (H1 : okR x → K (oI 1) h) (H0 : ¬ okR x → K (oI 0) h) : C 106 [vI x] h K := by
  have c0 := cln_rg x
  refine s_106_0 x h K ?_
  rw [cln_u]
  refine ⟨fun z => ?_, fun z => H0 (fun q => absurd q.1 (by omega))⟩
  refine lp (P := fun i => (∀ j, 0 ≤ j → j < i → csy x j < 9) → X 106 10 [vI x, vI (cln x), vI i] [] h K) 0 (cln x) c0 ?_ (fun j a b => absurd b (by omega))
  intro i i0 i1 ih hj
  refine s_106_10 x (cln x) i h K ⟨fun z2 => H1 ⟨z, fun j a b => hj j a (by omega)⟩, fun z2 => ?_⟩
  rw [csy_u x (by omega)]
  refine ⟨by omega, fun z3 => ⟨by omega, ih z2 (fun j a b => ?_)⟩, fun z3 => H0 (fun q => absurd (q.2 i i0 z2) (by omega))⟩
  by_cases c : j = i
  · subst c; exact z3
  · exact hj j a (by omega)
theorem c_107 {x : Int} (hn : 0 ≤ h 1 0 ∧ h 1 0 < 8) (hr : okR x) (H : ∀ h', h' 1 0 = h 1 0 + 1 → h' 7 = updc (h 7) (h 1 0) (b_and x 3) → h' 8 = updc (updc (h 8) (h 1 0) (cln x)) (h 1 0 + 1) 1 → (∀ k, h' 9 k = if k = (h 1 0 + 1) * 4 then updc (h 7) (h 1 0) (b_and x 3) 0 else if h 1 0 * 4 ≤ k ∧ k < h 1 0 * 4 + cln x then csy x (k - h 1 0 * 4) else h 9 k) → fr [1, 7, 8, 9] h h' → K (oI (h 1 0)) h') : C 107 [vR 1, vI x] h K := by
  have c0 := cln_rg x
  have c4 := hr.1
  refine s_107_0 x h K ?_
  rw [cln_u]
  refine ⟨by omega, ?_⟩
  obtain ⟨h1, e1⟩ : ∃ h1, h1 = ab_up (ab_up h 7 (h 1 0) (b_and x 3)) 8 (h 1 0) (cln x) := ⟨_, rfl⟩
  rw [← e1]
  have a7 : h1 7 = updc (h 7) (h 1 0) (b_and x 3) := by
    rw [e1]
    funext i
    rfl
  have a8 : h1 8 = updc (h 8) (h 1 0) (cln x) := by
    rw [e1]
    funext i
    rfl
  have a1 : h1 1 0 = h 1 0 := by rw [e1]; rfl
  have a9 : h1 9 = h 9 := by rw [e1]; rfl
  have F1 : fr [1, 7, 8, 9] h h1 := by rw [e1]; exact fr_tr (fr_up (by decide)) (fr_up (by decide))
  have a8n : h1 8 (h 1 0) = cln x := by rw [a8, updc_at]
  clear e1
  suffices T : X 107 18 [vR 1, vI x, vI (h 1 0), vI 0] [] (upc h1 9 (h1 9)) K by rw [upc_self] at T; exact T
  refine lp (P := fun i => ∀ f : Int → Int, (∀ k, f k = if h 1 0 * 4 ≤ k ∧ k < h 1 0 * 4 + i then csy x (k - h 1 0 * 4) else h 9 k) → X 107 18 [vR 1, vI x, vI (h 1 0), vI i] [] (upc h1 9 f) K) 0 (cln x) c0 ?_ (h1 9) (fun k => by rw [if_neg (by omega), a9])
  intro i i0 i1 ih f hf
  have e8 : upc h1 9 f 8 (h 1 0) = cln x := a8n
  refine s_107_18 x (h 1 0) i _ K ?_
  rw [e8]
  refine ⟨by omega, fun z => ?_, fun z => ?_⟩
  · have ei : i = cln x := by omega
    subst ei
    show (((0 ≤ h1 1 0 + 1 ∧ h1 1 0 + 1 < 9) ∧ (-2147483648 ≤ (h1 1 0 + 1) * 4 ∧ (h1 1 0 + 1) * 4 ≤ 2147483647) ∧ (0 ≤ (h1 1 0 + 1) * 4 ∧ (h1 1 0 + 1) * 4 < 36))) ∧ K (oI (h 1 0)) (ab_up (ab_up (ab_up (upc h1 9 f) 1 0 (h1 1 0 + 1)) 8 (h1 1 0 + 1) 1) 9 ((h1 1 0 + 1) * 4) (h1 7 0))
    rw [a1]
    refine ⟨by omega, H _ rfl a7 ?_ (fun k => ?_) (fr_tr F1 (fr_tr (fr_tr (fr_tr (fr_upc (by decide)) (fr_up (by decide))) (fr_up (by decide))) (fr_up (by decide))))⟩
    · funext k
      show (if k = h 1 0 + 1 then 1 else h1 8 k) = updc (updc (h 8) (h 1 0) (cln x)) (h 1 0 + 1) 1 k
      rw [a8]
      rfl
    · show (if k = (h 1 0 + 1) * 4 then h1 7 0 else f k) = _
      rw [a7, hf k]
  · rw [csy_u x (by omega)]
    refine ⟨by omega, ?_⟩
    rw [up_upc]
    refine ih z _ (fun k => ?_)
    unfold updc
    rw [hf k]
    by_cases d : k = h 1 0 * 4 + i
    · rw [if_pos d, if_pos (by omega), show k - h 1 0 * 4 = i by omega]
    · rw [if_neg d]
      by_cases d2 : h 1 0 * 4 ≤ k ∧ k < h 1 0 * 4 + i
      · rw [if_pos d2, if_pos (by omega)]
      · rw [if_neg d2, if_neg (by omega)]
theorem c_32 {x : Int} (hn : 0 ≤ h 6 1 ∧ h 6 1 ≤ 8) (H1 : ¬ okR x → K (oI 0) (ab_up (ab_up h 6 0 0) 6 0 1)) (H2 : okR x → h 6 1 = 8 → K (oI 0) (ab_up (ab_up h 6 0 0) 6 0 2))
    (H0 : okR x → h 6 1 < 8 → ∀ h', h' 20 = updc (h 20) (h 6 1) (b_and x 3) → h' 21 = updc (h 21) (h 6 1) (cln x) → (∀ k, h' 22 k = if 4 * h 6 1 ≤ k ∧ k < 4 * h 6 1 + cln x then csy x (k - 4 * h 6 1) else h 22 k) → fr [6, 20, 21, 22] h h' → fr6 [0, 1, 7, 13, 14, 15, 16, 19, 22] h h' → (h' 6 0 = 0 ∧ h' 6 1 = h 6 1 + 1 ∧ h' 6 7 = 0 ∧ h' 6 19 = 0 ∧ h' 6 22 = 0 ∧ h' 6 13 = -1 ∧ h' 6 14 = -1 ∧ h' 6 15 = -1 ∧ h' 6 16 = -1) → K (oI (h 6 1)) h') : C 32 [vR 6, vI x] h K := by
  have c0 := cln_rg x
  have key : ∀ v, (v = 1 ∧ cln x ≤ 4) ∨ (v = 0 ∧ 4 < cln x) → X 32 18 [vR 6, vI x, vI (cln x), vI v, vI 0] [] (ab_up h 6 0 0) K := by
    intro v hv
    refine lp (P := fun i => ∀ v : Int, ((v = 1 ∧ cln x ≤ 4 ∧ ∀ j, 0 ≤ j → j < i → csy x j < 9) ∨ (v = 0 ∧ ¬ okR x)) → X 32 18 [vR 6, vI x, vI (cln x), vI v, vI i] [] (ab_up h 6 0 0) K) 0 4 (by decide) ?_ v ?_
    · clear hv v
      intro i i0 i1 ih v hv
      have fin : (cln x ≤ i ∨ 4 ≤ i) → ((¬ v = 0 → ((¬ h 6 1 = 8 → ((0 ≤ h 6 1 ∧ h 6 1 < 8)) ∧ X 32 73 [vR 6, vI x, vI (cln x), vI v, vI 0] [] (ab_up (ab_up (ab_up h 6 0 0) 20 (h 6 1) (b_and x 3)) 21 (h 6 1) (cln x)) K) ∧ (h 6 1 = 8 → K (oI 0) (ab_up (ab_up h 6 0 0) 6 0 2)))) ∧ (v = 0 → K (oI 0) (ab_up (ab_up h 6 0 0) 6 0 1))) := by
        intro o
        refine ⟨fun z => ?_, fun z => ?_⟩
        · have hr : okR x := by
            rcases hv with ⟨_, q, r⟩ | ⟨q, _⟩
            · exact ⟨q, fun j a b => r j a (by omega)⟩
            · omega
          refine ⟨fun z2 => ⟨by omega, ?_⟩, fun z2 => H2 hr z2⟩
          obtain ⟨h1, e1⟩ : ∃ h1, h1 = ab_up (ab_up (ab_up h 6 0 0) 20 (h 6 1) (b_and x 3)) 21 (h 6 1) (cln x) := ⟨_, rfl⟩
          rw [← e1]
          have a20 : h1 20 = updc (h 20) (h 6 1) (b_and x 3) := by
            rw [e1]
            funext i
            rfl
          have a21 : h1 21 = updc (h 21) (h 6 1) (cln x) := by
            rw [e1]
            funext i
            rfl
          have a22 : h1 22 = h 22 := by rw [e1]; rfl
          have a61 : h1 6 1 = h 6 1 := by rw [e1]; rfl
          have a60 : h1 6 0 = 0 := by rw [e1]; rfl
          have F1 : fr [6, 20, 21, 22] h h1 := by rw [e1]; exact fr_tr (fr_tr (fr_up (by decide)) (fr_up (by decide))) (fr_up (by decide))
          have S1 : fr6 [0, 1, 7, 13, 14, 15, 16, 19, 22] h h1 := by rw [e1]; exact fr6_tr (fr6_tr (fr6_up (by decide)) (fr6_ne (by decide))) (fr6_ne (by decide))
          clear e1
          suffices T : X 32 73 [vR 6, vI x, vI (cln x), vI v, vI 0] [] (upc h1 22 (h1 22)) K by rw [upc_self] at T; exact T
          refine lp (P := fun i => ∀ f : Int → Int, (∀ k, f k = if 4 * h 6 1 ≤ k ∧ k < 4 * h 6 1 + i then csy x (k - 4 * h 6 1) else h 22 k) → X 32 73 [vR 6, vI x, vI (cln x), vI v, vI i] [] (upc h1 22 f) K) 0 (cln x) c0 ?_ (h1 22) (fun k => by rw [if_neg (by omega), a22])
          clear ih i0 i1 i o hv
          intro i i0 i1 ih f hf
          have b61 : upc h1 22 f 6 1 = h 6 1 := a61
          have c4 := hr.1
          refine s_32_73 x (cln x) i _ _ K ?_
          rw [b61]
          refine ⟨fun z3 => ?_, fun z3 => ⟨by omega, ?_⟩⟩
          · have ei : i = cln x := by omega
            subst ei
            rw [show h 6 1 + 1 - 1 = h 6 1 by omega]
            refine ⟨by omega, H0 hr (by omega) _ a20 a21 hf (fr_tr F1 (fr_tr (fr_tr (fr_tr (fr_tr (fr_tr (fr_tr (fr_tr (fr_tr (fr_upc (by decide)) (fr_up (by decide))) (fr_up (by decide))) (fr_up (by decide))) (fr_up (by decide))) (fr_up (by decide))) (fr_up (by decide))) (fr_up (by decide))) (fr_up (by decide)))) ?_ ⟨a60, rfl, rfl, rfl, rfl, rfl, rfl, rfl, rfl⟩⟩
            refine fr6_tr S1 (fr6_tr (fr6_tr (fr6_tr (fr6_tr (fr6_tr (fr6_tr (fr6_tr (fr6_tr (h' := upc h1 22 f) (fun i _ => rfl) (fr6_up (by decide))) (fr6_up (by decide))) (fr6_up (by decide))) (fr6_up (by decide))) (fr6_up (by decide))) (fr6_up (by decide))) (fr6_up (by decide))) (fr6_up (by decide)))
          · rw [up_upc]
            refine ih z3 _ (fun k => ?_)
            unfold updc
            rw [hf k]
            by_cases d : k = 4 * h 6 1 + i
            · rw [if_pos d, if_pos (by omega), show k - 4 * h 6 1 = i by omega]
              rfl
            · rw [if_neg d]
              by_cases d2 : 4 * h 6 1 ≤ k ∧ k < 4 * h 6 1 + i
              · rw [if_pos d2, if_pos (by omega)]
              · rw [if_neg d2, if_neg (by omega)]
        · refine H1 ?_
          rcases hv with ⟨q, _⟩ | ⟨_, q⟩
          · omega
          · exact q
      refine s_32_18 x (cln x) v i _ K ⟨fun z => fin (Or.inl z), fun z => ⟨fun z2 => fin (Or.inr z2), fun z2 => ⟨fun z3 => ⟨by omega, ih (by omega) 0 ?_⟩, fun z3 => ⟨by omega, fun z4 => ⟨by omega, ih (by omega) 0 (Or.inr ⟨rfl, fun q => absurd (q.2 i i0 z) (show ¬ csy x i < 9 from by have z4 : 9 ≤ csy x i := z4; omega)⟩)⟩, fun z4 => ⟨by omega, ih (by omega) 1 ?_⟩⟩⟩⟩⟩
      · rcases hv with ⟨q, _⟩ | ⟨_, q⟩
        · omega
        · exact Or.inr ⟨rfl, q⟩
      · rcases hv with ⟨_, q, r⟩ | ⟨q, _⟩
        · refine Or.inl ⟨rfl, q, fun j a b => ?_⟩
          by_cases c : j = i
          · subst c; exact z4
          · exact r j a (by omega)
        · omega
    · rcases hv with ⟨e, q⟩ | ⟨e, q⟩
      · exact Or.inl ⟨e, q, fun j a b => absurd b (by omega)⟩
      · exact Or.inr ⟨e, fun r => absurd r.1 (by omega)⟩
  refine s_32_0 x h K ⟨fun (z : 4 < cln x) => key 0 (Or.inr ⟨rfl, z⟩), fun (z : cln x ≤ 4) => key 1 (Or.inl ⟨rfl, z⟩)⟩
set_option maxHeartbeats 4000000 in
theorem k_0 (S : Sim h) (L : Lp x4 h) (N : Nx x4 h K) : ((-2147483648 ≤ x4 + 1 ∧ x4 + 1 ≤ 2147483647) ∧ (0 ≤ x4 + 1 ∧ x4 + 1 < h 38 (-1))) ∧ C 127 [vR 0, vI (h 38 (x4 + 1)), vR 37] h (kI (fun v7 h7 => ((-2147483648 ≤ x4 + 1 ∧ x4 + 1 ≤ 2147483647) ∧ (0 ≤ x4 + 1 ∧ x4 + 1 < h7 38 (-1))) ∧ C 32 [vR 6, vI (h7 38 (x4 + 1))] h7 (kI (fun v10 h10 => ((h10 6 0 = v7 → ((¬ v7 = 0 → ((-2147483648 ≤ x4 + 5 ∧ x4 + 5 ≤ 2147483647)) ∧ X 136 13 [vR 38, vR 0, vR 6, vR 37, vI (x4 + 5), vI v7, vI v10] [] h10 K) ∧ (v7 = 0 → ((h10 37 0 = v10 → ((-2147483648 ≤ x4 + 5 ∧ x4 + 5 ≤ 2147483647)) ∧ X 136 13 [vR 38, vR 0, vR 6, vR 37, vI (x4 + 5), vI v7, vI v10] [] h10 K) ∧ (¬ h10 37 0 = v10 → K (oI 0) h10))))) ∧ (¬ h10 6 0 = v7 → K (oI 0) h10)))))) := by
  obtain ⟨gp, au, ft, ins, pr, sc⟩ := S
  unfold Lp at L
  refine ⟨by omega, ?_⟩
  obtain ⟨x, ex⟩ : ∃ x, x = h 38 (x4 + 1) := ⟨_, rfl⟩
  rw [← ex]
  have gn := gp.1
  have mg := gp.2.2
  have n1 := mg.1
  have b3 := and3 x
  refine s_127_0 x h _ ?_
  refine c_106 (fun hr => ⟨fun _ => ⟨fun z => ?_, fun z => ?_⟩, fun q => absurd q (by decide)⟩) (fun hr => ⟨fun q => absurd rfl q, fun _ => ?_⟩)
  · have c0 := cln_rg x
    have c4 := hr.1
    refine c_107 (h := ab_up (ab_up (ab_up (ab_up (ab_up (ab_up (ab_up h 2 0 0) 15 0 (-1)) 15 1 (-1)) 15 2 (-1)) 15 3 (-1)) 5 7 0) 5 9 0) ⟨gn.1, z⟩ hr (fun h4 q1 q7 q8 q9 F4 => ?_)
    have q1 : h4 1 0 = h 1 0 + 1 := q1
    have q7 : h4 7 = updc (h 7) (h 1 0) (b_and x 3) := q7
    have q8 : h4 8 = updc (updc (h 8) (h 1 0) (cln x)) (h 1 0 + 1) 1 := q8
    have q9 : ∀ k, h4 9 k = if k = (h 1 0 + 1) * 4 then updc (h 7) (h 1 0) (b_and x 3) 0 else if h 1 0 * 4 ≤ k ∧ k < h 1 0 * 4 + cln x then csy x (k - h 1 0 * 4) else h 9 k := q9
    have D : fr [2, 15, 5, 1, 7, 8, 9] h h4 := fr_tr (fr_tr (fr_tr (fr_tr (fr_tr (fr_tr (fr_tr (fr_up (by decide)) (fr_up (by decide))) (fr_up (by decide))) (fr_up (by decide))) (fr_up (by decide))) (fr_up (by decide))) (fr_up (by decide))) (fr_sub F4 (by decide))
    have d57 : h4 5 7 = 0 := by rw [F4 5 (by decide)]; rfl
    have d59 : h4 5 9 = 0 := by rw [F4 5 (by decide)]; rfl
    have d53 : h4 5 3 = h 5 3 := by rw [F4 5 (by decide)]; rfl
    have d20 : h4 2 0 = 0 := by rw [F4 2 (by decide)]; rfl
    have df : h4 15 0 = -1 ∧ h4 15 1 = -1 ∧ h4 15 2 = -1 ∧ h4 15 3 = -1 := by rw [F4 15 (by decide)]; exact ⟨rfl, rfl, rfl, rfl⟩
    refine ⟨by show -2147483648 ≤ h 1 0 ∧ h 1 0 ≤ 2147483647; omega, ?_⟩
    show (_ ∧ _) ∧ C 32 [vR 6, vI (h4 38 (x4 + 1))] (ab_up h4 37 0 (h 1 0)) _
    have e38 : h4 38 = h 38 := D 38 (by decide)
    have e6 : h4 6 = h 6 := D 6 (by decide)
    rw [e38, ← ex]
    refine ⟨?_, ?_⟩
    · show (-2147483648 ≤ x4 + 1 ∧ x4 + 1 ≤ 2147483647) ∧ (0 ≤ x4 + 1 ∧ x4 + 1 < h4 38 (-1))
      rw [e38]
      exact sides1 L
    have m1 : ab_up h4 37 0 (h 1 0) 6 1 = h 1 0 := by
      show h4 6 1 = h 1 0
      rw [e6]; exact n1
    refine c_32 (h := ab_up h4 37 0 (h 1 0)) (by rw [m1]; omega) (fun q => absurd hr q) (fun _ q => absurd q (by rw [m1]; omega)) (fun _ _ h' p20 p21 p22 F' S' V => ?_)
    rw [m1] at p20 p21 V ⊢
    have p22 : ∀ k, h' 22 k = if 4 * h 1 0 ≤ k ∧ k < 4 * h 1 0 + cln x then csy x (k - 4 * h 1 0) else h 22 k := by
      intro k
      have q := p22 k
      rw [m1] at q
      rw [q]
      show (if 4 * h 1 0 ≤ k ∧ k < 4 * h 1 0 + cln x then csy x (k - 4 * h 1 0) else h4 22 k) = _
      rw [D 22 (by decide)]
    have p20 : h' 20 = updc (h 20) (h 1 0) (b_and x 3) := by
      rw [p20]
      show updc (h4 20) (h 1 0) (b_and x 3) = _
      rw [D 20 (by decide)]
    have p21 : h' 21 = updc (h 21) (h 1 0) (cln x) := by
      rw [p21]
      show updc (h4 21) (h 1 0) (cln x) = _
      rw [D 21 (by decide)]
    obtain ⟨v0, v1, v7, v19, v22, v13, v14, v15, v16⟩ := V
    have G4 : ∀ k, ¬ k ∈ [6, 20, 21, 22, 37] → h' k = h4 k := by
      intro k hk
      have s1 : ¬ k ∈ [6, 20, 21, 22] := fun q => hk (by revert q; simp; omega)
      have s2 : ¬ k ∈ [37] := fun q => hk (by revert q; simp; omega)
      have m0 : fr [37] h4 (ab_up h4 37 0 (h 1 0)) := fr_up (by decide)
      rw [F' k s1, m0 k s2]
    have G : ∀ k, ¬ k ∈ [6, 20, 21, 22, 37, 2, 15, 5, 1, 7, 8, 9] → h' k = h k := by
      intro k hk
      have s1 : ¬ k ∈ [6, 20, 21, 22, 37] := fun q => hk (by revert q; simp; omega)
      have s2 : ¬ k ∈ [2, 15, 5, 1, 7, 8, 9] := fun q => hk (by revert q; simp; omega)
      rw [G4 k s1, D k s2]
    have q37 : h' 37 0 = h 1 0 := by rw [F' 37 (by decide)]; rfl
    have r1 : h' 1 0 = h 1 0 + 1 := by rw [G4 1 (by decide)]; exact q1
    have r7 : h' 7 = updc (h 7) (h 1 0) (b_and x 3) := by rw [G4 7 (by decide)]; exact q7
    have r8 : h' 8 = updc (updc (h 8) (h 1 0) (cln x)) (h 1 0 + 1) 1 := by rw [G4 8 (by decide)]; exact q8
    have r9 : ∀ k, h' 9 k = if k = (h 1 0 + 1) * 4 then updc (h 7) (h 1 0) (b_and x 3) 0 else if h 1 0 * 4 ≤ k ∧ k < h 1 0 * 4 + cln x then csy x (k - h 1 0 * 4) else h 9 k := by rw [G4 9 (by decide)]; exact q9
    have g5 : h' 5 = h4 5 := G4 5 (by decide)
    have g15 : h' 15 = h4 15 := G4 15 (by decide)
    refine cmp1 v0 (fun _ => q37) ⟨by omega, N _ _ _ ⟨⟨?_, fun _ => ?_, ?_⟩, ?_, ?_, ?_, ?_, ?_⟩ (G 38 (by decide)) ?_⟩
    · rw [r1]; omega
    · -- the grammar has grown by a rule
      rw [r1, r7, r8]
      have old := gp.2.1
      have s8 : ∀ r, 0 ≤ r → r < h 1 0 → updc (updc (h 8) (h 1 0) (cln x)) (h 1 0 + 1) 1 r = h 8 r := by
        intro r a b
        rw [updc_ne _ _ (by omega), updc_ne _ _ (by omega)]
      have s8n : updc (updc (h 8) (h 1 0) (cln x)) (h 1 0 + 1) 1 (h 1 0) = cln x := by rw [updc_ne _ _ (by omega), updc_at]
      have s8t : updc (updc (h 8) (h 1 0) (cln x)) (h 1 0 + 1) 1 (h 1 0 + 1) = 1 := updc_at _ _ _
      have lf0 : 0 ≤ updc (h 7) (h 1 0) (b_and x 3) 0 ∧ updc (h 7) (h 1 0) (b_and x 3) 0 < 4 := by
        by_cases c : 0 = h 1 0
        · rw [← c, updc_at]; omega
        · rw [updc_ne _ _ c]; exact (old (by omega)).2.1 0 (by omega) (by omega)
      refine ⟨by omega, fun r a b => ?_, fun r a b => ?_, fun r k a b c d => ?_, s8t, ?_⟩
      · by_cases e : r = h 1 0
        · rw [e, updc_at]; omega
        · rw [updc_ne _ _ e]; exact (old (by omega)).2.1 r a (by omega)
      · by_cases e : r = h 1 0 + 1
        · rw [e, s8t]; omega
        · by_cases e2 : r = h 1 0
          · rw [e2, s8n]; omega
          · rw [s8 r a (by omega)]; exact (old (by omega)).2.2.1 r a (by omega)
      · rw [r9]
        by_cases e : r = h 1 0 + 1
        · rw [e, s8t] at d
          rw [if_pos (by omega)]; omega
        · rw [if_neg (by
            intro q
            by_cases e2 : r = h 1 0
            · rw [e2, s8n] at d; omega
            · rw [s8 r a (by omega)] at d
              have := (old (by omega)).2.2.1 r a (by omega)
              omega)]
          by_cases e2 : r = h 1 0
          · rw [e2, s8n] at d
            rw [if_pos (by omega), e2, show h 1 0 * 4 + k - h 1 0 * 4 = k by omega]
            exact ⟨csy_rg x k, hr.2 k c d⟩
          · rw [s8 r a (by omega)] at d
            have o := old (by omega)
            have o2 := o.2.2.1 r a (by omega)
            rw [if_neg (by omega)]
            exact o.2.2.2.1 r k a (by omega) c d
      · rw [r9, if_pos (by omega)]
    · rw [r1, r7, r8, v1, p20, p21]
      refine ⟨by omega, fun r a b => ?_, fun r k a b c d => ?_⟩
      · by_cases e : r = h 1 0
        · rw [e, updc_at, updc_at, updc_at, updc_ne _ _ (by omega), updc_at]; exact ⟨rfl, rfl⟩
        · rw [updc_ne _ _ e, updc_ne _ _ e, updc_ne _ _ e, updc_ne _ _ (by omega), updc_ne _ _ e]
          exact mg.2.1 r a (by omega)
      · rw [r9, p22]
        by_cases e : r = h 1 0
        · rw [e, updc_ne _ _ (by omega), updc_at] at d
          rw [e, if_pos (by omega), if_neg (by omega), if_pos (by omega), show 4 * h 1 0 + k - 4 * h 1 0 = h 1 0 * 4 + k - h 1 0 * 4 by omega]
        · rw [updc_ne _ _ (by omega), updc_ne _ _ e] at d
          have o2 := (gp.2.1 (by omega)).2.2.1 r a (by omega)
          rw [if_neg (by omega), if_neg (by omega), if_neg (by omega)]
          exact mg.2.2 r k a (by omega) c d
    · refine AU_0 ?_ v7
      rw [G4 2 (by decide)]; exact d20
    · unfold FT
      rw [g15, v13, v14, v15, v16]; exact df
    · refine IN_tr ins (by rw [g5]; exact d53) (G 16 (by decide)) (G 29 (by decide)) ?_
      rw [S' 17 (by decide)]
      show h4 6 17 = h 6 17
      rw [e6]
    · exact PR_0 v19 (by rw [g5]; exact d57) (by rw [g5]; exact d59) v22
    · exact SC_tr sc (G 38 (by decide))
    · rw [G 39 (by decide)]; omega
  · show (_ ∧ _) ∧ C 32 [vR 6, vI (h 38 (x4 + 1))] (ab_up h 39 0 (h 39 0 + 1)) _
    rw [← ex]
    refine ⟨sides1 L, c_32 (h := ab_up h 39 0 (h 39 0 + 1)) (by show 0 ≤ h 6 1 ∧ h 6 1 ≤ 8; omega) (fun q => absurd hr q) (fun _ _ => ?_) (fun _ q => absurd (show h 6 1 < 8 from q) (by omega))⟩
    exact cmp1 rfl (fun q => absurd q (by decide)) ⟨by omega, N _ _ _ ⟨gp, au, ft, ins, pr, sc⟩ rfl (Int.le_refl _)⟩
  · show (_ ∧ _) ∧ C 32 [vR 6, vI (h 38 (x4 + 1))] (ab_up h 39 0 (h 39 0 + 1)) _
    rw [← ex]
    refine ⟨sides1 L, c_32 (h := ab_up h 39 0 (h 39 0 + 1)) (by show 0 ≤ h 6 1 ∧ h 6 1 ≤ 8; omega) (fun _ => ?_) (fun q => absurd q hr) (fun q => absurd q hr)⟩
    exact cmp1 rfl (fun q => absurd q (by decide)) ⟨by omega, N _ _ _ ⟨gp, au, ft, ins, pr, sc⟩ rfl (Int.le_refl _)⟩
end Side3
