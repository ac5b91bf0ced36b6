/-! The model makes the automaton: the whole of it. -/
section MBuild2
def bz (h : ab_S) : ab_S := ab_up (ab_up (ab_up (ab_up (ab_up (ab_up (ab_up (ab_up h 6 0 0) 6 7 0) 6 19 0) 6 22 0) 6 13 (-1)) 6 14 (-1)) 6 15 (-1)) 6 16 (-1)
def fb (h h' : ab_S) : Prop := fr [6, 23, 24, 25, 26, 27, 28] (bz h) h' ∧ fr6 [7, 12] (bz h) h'
variable {n : Int} {lf sz sy : Int → Int}
theorem c_49 {h : ab_S} {K : ab_O → ab_S → Prop} (g : GW n lf sz sy) (mg : MG n lf sz sy (h 6 1) (h 20) (h 21) (h 22))
    (H1 : ∀ B h', BL n lf sz sy = some B → fb h h' → ME n lf sz sy h' → RM B (h' 6 7) (h' 25) (h' 26) → K (oI (h' 6 7)) h')
    (H0 : BL n lf sz sy = none → ∀ h', fb h h' → K (oI 0) (ab_up (ab_up h' 6 7 0) 6 0 2)) : C 49 [vR 6] h K := by
  have en : h 6 1 = n := mg.1
  have gn := g.1
  refine s_49_0 h K ⟨fun _ => ?_, fun z => absurd z (by omega)⟩
  show C 39 [vR 6] (bz h) _
  have mgz : MG n lf sz sy (bz h 6 1) (bz h 20) (bz h 21) (bz h 22) := mg
  refine c_39 g mgz (fun f1 f2 hr hb => ?_)
  obtain ⟨h2, e2⟩ : ∃ h2, h2 = upc (upc (bz h) 23 f1) 24 f2 := ⟨_, rfl⟩
  rw [← e2]
  have B2 : fr [6, 23, 24, 25, 26, 27, 28] (bz h) h2 ∧ fr6 [7, 12] (bz h) h2 := by
    rw [e2]
    exact ⟨fr_tr (fr_upc (by decide)) (fr_upc (by decide)), fun i _ => rfl⟩
  have M2 : ME n lf sz sy h2 := by rw [e2]; exact ⟨mg, hr, hb⟩
  have z7 : h2 6 7 = 0 := by rw [e2]; rfl
  have n2 : h2 6 1 = n := M2.1.1
  have BF : ∀ {h'}, fm h2 h' → fb h h' := fun F => ⟨fr_tr B2.1 (fr_sub F.1 (by decide)), fr6_tr B2.2 F.2⟩
  clear e2 hr hb mgz
  refine c_44 (fun mf hmf => ?_)
  have n3 : mst h2 mf (h2 28) 0 6 1 = n := n2
  have key : ∀ (mf' qf' : Int → Int) (qd' : Int), QI n sz mf' qf' qd' → (∀ i, 0 ≤ i → i < 270 → (mf' i = 1 ↔ i = 30 * n + 5)) → C 45 [vR 6] (mst h2 mf' qf' qd') (kV (fun h12 => C 46 [vR 6] h12 (kI (fun v13 h13 => X 49 32 [vR 6, vI 1, vI 0, vJ 0] [] h13 K)))) := by
    intro mf' qf' qd' Q hS
    refine c_45 g M2.1 M2.2.1 M2.2.2 Q hS (fun mf2 qf2 qd2 Q2 hm2 => ?_)
    refine c_46 (A := au_0) (h := mst h2 mf2 qf2 qd2) (by decide) ⟨z7, fun s i a b => absurd b (by show ¬ s < 0; omega), fun s x a b => absurd b (by show ¬ s < 0; omega)⟩ (fun i a b => ⟨Q2.2.1 i a b, hm2 i a b⟩) (fun h7 F7 R7 => ?_)
    have F3 : fm h2 h7 := fm_tr (fm_mst _ _ _ _) F7
    have BI0 := (stl_BI (n := n) (sz := sz) (A := au_0) (S := CL n lf sz sy (fun i => i = 30 * n + 5)) (q := 0) au_0_BI (fun i a b z => CL_lg g (fun j a b z => lg0 g z) z)).1
    show X 49 32 [vR 6, vI 1, vI 0, vJ 0] [] h7 K
    refine lp (P := fun k => ∀ v h', ((v = 1 ∧ ∃ B, blF n lf sz sy (stl au_0 (CL n lf sz sy (fun i => i = 30 * n + 5))).2 k.toNat = some B ∧ RM B (h' 6 7) (h' 25) (h' 26)) ∨ (v = 0 ∧ BL n lf sz sy = none)) → fm h2 h' → ∀ w, X 49 32 [vR 6, vI v, vI k, w] [] h' K) 0 50 (by decide) ?_ 1 h7 (Or.inl ⟨rfl, _, rfl, R7⟩) F3 _
    intro k k0 k1 ihk v h' hv F w
    have M' := ME_fm M2 F
    have ek : ((k.toNat : Nat) : Int) = k := by omega
    have bad : v = 0 → K (oI 0) (ab_up (ab_up h' 6 7 0) 6 0 2) := by
      intro q
      rcases hv with ⟨q2, _⟩ | ⟨_, c⟩
      · omega
      · exact H0 c h' (BF F)
    refine s_49_32 v k w h' K ⟨fun z => ⟨fun z2 => bad z2, fun z2 => ?_⟩, fun z => ⟨fun z2 => bad z2, fun z2 => ?_⟩⟩
    · rcases hv with ⟨ev, B, eB, R⟩ | ⟨ev, _⟩
      · have := R.1
        exact H1 B h' (blF_stop eB (by omega) (by omega)) (BF F) M' R
      · omega
    · rcases hv with ⟨ev, B, eB, R⟩ | ⟨ev, _⟩
      · subst ev
        have J := bl_BI g BI0 eB
        rw [ek] at J
        have hc := J.1.1
        have ec : h' 6 7 = B.1 := R.1
        have kB : k < B.1 := by omega
        have es := blF_s k0 eB
        rw [if_neg (by omega)] at es
        refine lp (P := fun x => ∀ v h', ((v = 1 ∧ ∃ D, gosF n lf sz sy B k x.toNat = some D ∧ RM D (h' 6 7) (h' 25) (h' 26)) ∨ (v = 0 ∧ BL n lf sz sy = none)) → fm h2 h' → X 49 40 [vR 6, vI v, vI k, vI x] [] h' K) 0 9 (by decide) ?_ 1 h' (Or.inl ⟨rfl, B, rfl, R⟩) F
        clear F M' R ec z z2 bad h' w
        intro x x0 x1 ihx v h' hv F
        have M' := ME_fm M2 F
        have bad : v = 0 → X 49 32 [vR 6, vI 0, vI (k + 1), vI x] [] h' K := by
          intro q
          rcases hv with ⟨q2, _⟩ | ⟨_, c⟩
          · omega
          · exact ihk (by omega) 0 h' (Or.inr ⟨rfl, c⟩) F _
        refine s_49_40 v k x h' K ⟨fun z => ⟨fun z2 => ⟨by omega, bad z2⟩, fun z2 => ?_⟩, fun z => ⟨fun z2 => ⟨by omega, bad z2⟩, fun z2 => ?_⟩⟩
        · rcases hv with ⟨ev, D, eD, R⟩ | ⟨ev, _⟩
          · have ex : x = 9 := by omega
            subst ex
            have eD : gosF n lf sz sy B k 9 = some D := eD
            rw [eD] at es
            have JD := gosF_BI g J ⟨k0, kB⟩ eD
            refine c_48 g M' JD.1 ⟨k0, by omega⟩ R (fun D2 h4 eD2 F4 R4 => ?_) (fun eD2 h4 F4 => ?_)
            · refine ⟨fun q => absurd q (by decide), fun _ => ⟨by omega, ?_⟩⟩
              exact ihk (by omega) 1 h4 (Or.inl ⟨rfl, D2, es.trans eD2, R4⟩) (fm_tr F F4) _
            · refine ⟨fun _ => ⟨by omega, ?_⟩, fun q => absurd rfl q⟩
              exact ihk (by omega) 0 h4 (Or.inr ⟨rfl, blF_none (es.trans eD2) (by omega)⟩) (fm_tr F F4) _
          · omega
        · rcases hv with ⟨ev, D, eD, R⟩ | ⟨ev, _⟩
          · have JD := gosF_BI g J ⟨k0, kB⟩ eD
            have eg := gosF_s x0 eD
            refine c_47 g M' JD.1 ⟨k0, by omega⟩ ⟨x0, by omega⟩ R (fun D2 h4 eD2 F4 R4 => ⟨by omega, ?_⟩) (fun eD2 h4 F4 => ⟨by omega, ?_⟩)
            · exact ihx z 1 h4 (Or.inl ⟨rfl, D2, eg.trans eD2, R4⟩) (fm_tr F F4)
            · have q := gosF_none (k := 9) (eg.trans eD2) (by omega)
              rw [q] at es
              exact ihx z 0 h4 (Or.inr ⟨rfl, blF_none es (by omega)⟩) (fm_tr F F4)
          · omega
      · omega
  have ej : 30 * n + 0 + 9 - 4 = 30 * n + 5 := by omega
  show (_ ∧ _ ∧ _ ∧ _ ∧ _) ∧ ((mst h2 mf (h2 28) 0 27 (((30 * (mst h2 mf (h2 28) 0 6 1)) + 0) + 9 - 4) = 0 → _) ∧ (_ → _))
  rw [n3, ej]
  refine ⟨by omega, fun _ => ⟨?_, ?_⟩, fun (z : ¬ mf (30 * n + 5) = 0) => absurd (hmf _ (by omega) (by omega)) z⟩
  · show (0 ≤ (0 : Int) ∧ (0 : Int) < 270) ∧ (-2147483648 ≤ (0 : Int) + 1 ∧ (0 : Int) + 1 ≤ 2147483647)
    decide
  · show C 45 [vR 6] (ab_up (ab_up (ab_up (mst h2 mf (h2 28) 0) 27 (30 * n + 5) 1) 28 0 (30 * n + 5)) 6 12 (0 + 1)) _
    rw [mst_add]
    refine key _ _ _ (QI_add (QI_zero hmf) (by omega) (by omega) (hmf _ (by omega) (by omega)) (lg0 g rfl)) (fun i a b => ?_)
    by_cases d : i = 30 * n + 5
    · rw [d, updc_at]; exact ⟨fun _ => rfl, fun _ => rfl⟩
    · rw [updc_ne _ _ d, hmf i a b]; omega
theorem c_49z {h : ab_S} {K : ab_O → ab_S → Prop} (z : h 6 1 = 0) (H : K (oI 0) (ab_up (ab_up h 6 0 0) 6 0 1)) : C 49 [vR 6] h K := s_49_0 h K ⟨fun q => absurd z q, fun _ => H⟩
end MBuild2
