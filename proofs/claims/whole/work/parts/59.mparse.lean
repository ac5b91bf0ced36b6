/-! The model's parse. -/
section MParse
variable {n : Int} {lf sz sy : Int → Int} {A : au_T}
def fq (h h' : ab_S) : Prop := fr [6, 30, 31, 32, 33, 34, 35, 36] h h' ∧ fr6 [20, 21, 22] h h'
theorem fq_rfl (h : ab_S) : fq h h := ⟨fr_rfl _ _, fun _ _ => rfl⟩
theorem fq_tr {h h' h'' : ab_S} (a : fq h h') (b : fq h' h'') : fq h h'' := ⟨fr_tr a.1 b.1, fr6_tr a.2 b.2⟩
theorem fq_up {h : ab_S} {k : Nat} {i v : Int} (m : k = 30 ∨ k = 31 ∨ k = 32 ∨ k = 33 ∨ k = 34 ∨ k = 35 ∨ k = 36) : fq h (ab_up h k i v) := by
  refine ⟨fr_up ?_, fr6_ne (by omega)⟩
  rcases m with e | e | e | e | e | e | e <;> subst e <;> decide
theorem fq_upc {h : ab_S} {k : Nat} {f : Int → Int} (m : k = 30 ∨ k = 31 ∨ k = 32 ∨ k = 33 ∨ k = 34 ∨ k = 35 ∨ k = 36) : fq h (upc h k f) := by
  have h1 : k ∈ [6, 30, 31, 32, 33, 34, 35, 36] := by rcases m with e | e | e | e | e | e | e <;> subst e <;> decide
  refine ⟨fr_upc h1, fun i _ => ?_⟩
  rw [upc_ne h f (by omega)]
theorem fq_6 {h : ab_S} {i v : Int} (m : i = 20 ∨ i = 21 ∨ i = 22) : fq h (ab_up h 6 i v) := by
  refine ⟨fr_up (by decide), fr6_up ?_⟩
  rcases m with e | e | e <;> subst e <;> decide
def PT (S h : ab_S) : Prop := h 6 22 = S 5 9 ∧ (∀ j, 0 ≤ j → j < S 5 9 → h 32 j = S 19 (j * 5 + 0) ∧ h 33 j = S 19 (j * 5 + 1) ∧ h 34 j = S 19 (j * 5 + 2) ∧ h 35 j = S 19 (j * 5 + 3) ∧ h 36 j = S 19 (j * 5 + 4))
def PM (S h : ab_S) : Prop := h 6 20 = S 5 4 ∧ h 6 21 = S 5 7 - 1 ∧ (∀ i, 0 ≤ i → i < S 5 7 → h 30 i = S 17 i) ∧ (∀ i, 1 ≤ i → i < S 5 7 → h 31 i = S 18 i) ∧ PT S h
theorem c_71 {inp : Int → Int} {il c T : Int} {S h : ab_S} {K : ab_O → ab_S → Prop} (M : PM S h) (P : PI il c S) (hil : 0 ≤ il ∧ il ≤ 20) (hi : h 6 17 = il) (hin : ∀ i, 0 ≤ i → i < il → h 29 i = inp i) (hx : ∀ i, 0 ≤ i → i < il → 4 ≤ inp i ∧ inp i < 9)
    (H : ∀ h', PM (if psy inp il S = 9 then ((3, S) : Int × ab_S) else if 60 ≤ S 5 9 then (4, S) else (0, shf S (psy inp il S) T)).2 h' → fq h h' → K (oI (if psy inp il S = 9 then ((3, S) : Int × ab_S) else if 60 ≤ S 5 9 then (4, S) else (0, shf S (psy inp il S) T)).1) h') : C 71 [vR 6, vI T] h K := by
  obtain ⟨M1, M2, M3, M4, M5, M6⟩ := id M
  obtain ⟨P1, P2, P3, P4, P5, P6⟩ := P
  have e1 : h 6 22 + 1 - 1 = h 6 22 := by omega
  refine s_71_0 T h K ?_
  rw [e1]
  refine ⟨fun z => ?_, fun z => ?_⟩
  · have lt : S 5 4 < il := by omega
    have ex : psy inp il S = inp (S 5 4) := by unfold psy; rw [if_pos lt]
    have x0 := hx (S 5 4) (by omega) lt
    rw [ex, if_neg (by omega)] at H
    refine ⟨fun z2 => ⟨by omega, ?_⟩, fun z2 => ?_⟩
    · rw [if_neg (by omega)] at H
      have ein : h 29 (h 6 20) = inp (S 5 4) := by rw [M1]; exact hin _ (by omega) lt
      rw [ein]
      obtain ⟨x, ex2⟩ : ∃ x, x = inp (S 5 4) := ⟨_, rfl⟩
      rw [← ex2] at H ⊢
      refine H _ ?_ (fq_tr (fq_tr (fq_tr (fq_tr (fq_tr (fq_tr (fq_tr (fq_tr (fq_tr (fq_up (by omega)) (fq_up (by omega))) (fq_up (by omega))) (fq_up (by omega))) (fq_up (by omega))) (fq_6 (by omega))) (fq_6 (by omega))) (fq_up (by omega))) (fq_up (by omega))) (fq_6 (by omega)))
      refine ⟨?_, ?_, fun i i0 i1 => ?_, fun i i0 i1 => ?_, ?_, fun j j0 j1 => ?_⟩
      · show h 6 20 + 1 = S 5 4 + 1
        omega
      · show h 6 21 + 1 = S 5 7 + 1 - 1
        omega
      · have i1 : i < S 5 7 + 1 := i1
        show (if i = h 6 21 + 1 then T else h 30 i) = if i = S 5 7 then T else S 17 i
        by_cases d : i = S 5 7
        · rw [if_pos d, if_pos (by omega)]
        · rw [if_neg d, if_neg (by omega)]; exact M3 i i0 (by omega)
      · have i1 : i < S 5 7 + 1 := i1
        show (if i = h 6 21 + 1 then h 6 22 else h 31 i) = if i = S 5 7 then S 5 9 else S 18 i
        by_cases d : i = S 5 7
        · rw [if_pos d, if_pos (by omega)]; exact M5
        · rw [if_neg d, if_neg (by omega)]; exact M4 i i0 (by omega)
      · show h 6 22 + 1 = S 5 9 + 1
        omega
      · have j1 : j < S 5 9 + 1 := j1
        show (if j = h 6 22 then x else h 32 j) = nod S x (-1) (S 5 4) 1 19 (j * 5 + 0) ∧ (if j = h 6 22 then -1 else h 33 j) = nod S x (-1) (S 5 4) 1 19 (j * 5 + 1) ∧ (if j = h 6 22 then -1 else h 34 j) = nod S x (-1) (S 5 4) 1 19 (j * 5 + 2) ∧ (if j = h 6 22 then h 6 20 else h 35 j) = nod S x (-1) (S 5 4) 1 19 (j * 5 + 3) ∧ (if j = h 6 22 then 1 else h 36 j) = nod S x (-1) (S 5 4) 1 19 (j * 5 + 4)
        by_cases d : j = S 5 9
        · subst d
          rw [if_pos M5.symm, if_pos M5.symm, if_pos M5.symm, if_pos M5.symm, if_pos M5.symm, nod_0, nod_1, nod_2, nod_3, nod_4]
          exact ⟨rfl, rfl, rfl, M1, rfl⟩
        · have d2 : ¬ j = h 6 22 := by omega
          rw [if_neg d2, if_neg d2, if_neg d2, if_neg d2, if_neg d2, nod_lt (by omega), nod_lt (by omega), nod_lt (by omega), nod_lt (by omega), nod_lt (by omega)]
          exact M6 j j0 (by omega)
    · rw [if_pos (by omega)] at H
      exact H h M (fq_rfl _)
  · have ex : psy inp il S = 9 := by unfold psy; rw [if_neg (by omega)]
    rw [ex, if_pos rfl] at H
    exact H h M (fq_rfl _)
theorem wid_pre {il c r i : Int} {h : ab_S} (P : PI il c h) (hz : 0 ≤ sz r) (hr : sz r < h 5 7) (i0 : 0 ≤ i) (i1 : i ≤ sz r) : 0 ≤ sm (fun i => h 19 (h 18 (h 5 7 - sz r + i) * 5 + 4)) i.toNat ∧ sm (fun i => h 19 (h 18 (h 5 7 - sz r + i) * 5 + 4)) i.toNat ≤ h 5 4 := by
  have w := (wid_rg P hz hr).2.1
  obtain ⟨P1, P2, P3, P4, P5, P6⟩ := P
  have e := sm_add (fun i => h 19 (h 18 (h 5 7 - sz r + i) * 5 + 4)) i.toNat (sz r - i).toNat
  rw [show i.toNat + (sz r - i).toNat = (sz r).toNat by omega] at e
  unfold wid at w
  rw [e] at w
  have a : 0 ≤ sm (fun i => h 19 (h 18 (h 5 7 - sz r + i) * 5 + 4)) i.toNat := sm_nn (fun j a b => (P5 (h 5 7 - sz r + j) (by omega) (by omega)).2)
  have b : 0 ≤ sm (fun j => h 19 (h 18 (h 5 7 - sz r + (((i.toNat : Nat) : Int) + j)) * 5 + 4)) (sz r - i).toNat := sm_nn (fun j a b => (P5 (h 5 7 - sz r + (((i.toNat : Nat) : Int) + j)) (by omega) (by omega)).2)
  omega
theorem c_72 {il r : Int} {S h : ab_S} {K : ab_O → ab_S → Prop} (g : GW n lf sz sy) (mg : MG n lf sz sy (h 6 1) (h 20) (h 21) (h 22)) (B : AI n sz A) (R : RM A (h 6 7) (h 25) (h 26)) (M : PM S h) (P : PI il A.1 S) (hil : 0 ≤ il ∧ il ≤ 20) (hr : 0 ≤ r ∧ r ≤ n)
    (H : ∀ h', PM (rdc n lf sz sy A.2.2 S r).2 h' → fq h h' → K (oI (rdc n lf sz sy A.2.2 S r).1) h') : C 72 [vR 6, vI r] h K := by
  have gn := g.1
  have hc := B.1
  have en : h 6 1 = n := mg.1
  have hsz := g.2.2.1 r hr.1 hr.2
  obtain ⟨M1, M2, M3, M4, M5, M6⟩ := id M
  obtain ⟨P1, P2, P3, P4, P5, P6⟩ := id P
  unfold rdc at H
  refine s_72_0 r h K ?_
  rw [en]
  refine ⟨fun z => by rw [if_pos z] at H; exact H h M (fq_rfl _), fun z => ?_⟩
  rw [if_neg z] at H
  have es : h 21 r = sz r := (mg.2.1 r hr.1 (by omega)).2
  have el : h 20 r = lf r := (mg.2.1 r hr.1 (by omega)).1
  have hl := g.2.1 r hr.1 (by omega)
  rw [es]
  refine ⟨by omega, fun z2 => ⟨by omega, ?_⟩, fun z2 => ?_⟩
  · have lt : sz r < S 5 7 := by omega
    obtain ⟨x2, ex2⟩ : ∃ x2, x2 = h 6 21 - sz r := ⟨_, rfl⟩
    rw [← ex2]
    have x21 : x2 + 1 = S 5 7 - sz r := by omega
    refine lp (P := fun i => ∀ v x4, v = sm (fun i => S 19 (S 18 (S 5 7 - sz r + i) * 5 + 4)) i.toNat → ((x4 = 1 ∧ ∀ j, 0 ≤ j → j < i → S 19 (S 18 (S 5 7 - sz r + j) * 5 + 0) = sy (r * 4 + j)) ∨ (x4 = 0 ∧ ¬ rowOn sz sy S r)) → ∀ w6, X 72 27 [vR 6, vI r, vI x2, vI v, vI x4, vI i, w6] [] h K) 0 (sz r) hsz.1 ?_ 0 1 rfl (Or.inl ⟨rfl, fun j a b => absurd b (by omega)⟩) _
    intro i i0 i1 ih v x4 ev hv w6
    have wp := wid_pre P hsz.1 lt i0 i1
    rw [← ev] at wp
    refine s_72_27 r x2 v x4 i w6 h K ?_
    rw [es]
    refine ⟨by omega, fun z3 => ⟨fun z4 => ?_, fun z4 => ?_⟩, fun z3 => ?_⟩
    · have ei : i = sz r := by omega
      subst ei
      have ro : rowOn sz sy S r := by
        rcases hv with ⟨_, q⟩ | ⟨q, _⟩
        · exact ⟨lt, q⟩
        · omega
      have evw : v = wid sz S r := ev
      rw [cif_pos ro] at H
      refine ⟨fun z5 => ⟨by omega, ?_⟩, fun z5 => ?_⟩
      · rw [if_neg (by omega)] at H
        suffices T : X 72 84 [vR 6, vI r, vI x2, vI v, vI x4, vI (x2 + 1), w6] [] (upc h 34 (h 34)) K by rw [upc_self] at T; exact T
        refine lp (P := fun i => ∀ f : Int → Int, (∀ j, f j = cif (∃ i', S 5 7 - sz r ≤ i' ∧ i' < i ∧ j = S 18 i') (S 5 9) (h 34 j)) → X 72 84 [vR 6, vI r, vI x2, vI v, vI x4, vI i, w6] [] (upc h 34 f) K) (x2 + 1) (S 5 7) (by omega) ?_ (h 34) ?_
        · intro i i0 i1 ihi f hf
          refine s_72_84 r x2 v i _ w6 _ K ⟨fun (z6 : h 6 21 < i) => ⟨by omega, ?_⟩, fun (z6 : i ≤ h 6 21) => ?_⟩
          · have ei : i = S 5 7 := by omega
            subst ei
            suffices T : X 72 103 [vR 6, vI r, vI x2, vI v, vI x4, vI (x2 + 1), w6] [] (upc (upc h 34 f) 30 (h 30)) K by
              have e : upc (upc h 34 f) 30 (h 30) = upc h 34 f := upc_self (upc h 34 f) 30
              rw [e] at T; exact T
            refine lp (P := fun i => ∀ q : Int → Int, (∀ k, k ≤ x2 → q k = h 30 k) → X 72 103 [vR 6, vI r, vI x2, vI v, vI x4, vI i, w6] [] (upc (upc h 34 f) 30 q) K) (x2 + 1) (S 5 7) (by omega) ?_ (h 30) (fun _ _ => rfl)
            intro i i0 i1 ihq q hq
            refine s_72_103 r x2 v i _ w6 _ K ⟨fun (z7 : h 6 21 < i) => ?_, fun (z7 : i ≤ h 6 21) => ?_⟩
            · have m3 : q x2 = S 17 (S 5 7 - sz r - 1) := by
                rw [hq x2 (by omega), M3 x2 (by omega) (by omega), show x2 = S 5 7 - sz r - 1 by omega]
              have p4 := P4 (S 5 7 - sz r - 1) (by omega) (by omega)
              have eE := R.2.2 (S 17 (S 5 7 - sz r - 1)) (lf r) p4.1 p4.2 (by omega) (by omega)
              have et : tgt A.2.2 lf sz S r = A.2.2 (10 * S 17 (S 5 7 - sz r - 1) + lf r) := rfl
              have ok := B.2.2 (S 17 (S 5 7 - sz r - 1)) (lf r) p4.1 p4.2 (by omega) (by omega)
              rw [← et] at eE ok
              have eE2 : h 26 (10 * q x2 + h 20 r) = tgt A.2.2 lf sz S r := by rw [m3, el]; exact eE
              show (_ ∧ _ ∧ _ ∧ _ ∧ _ ∧ _ ∧ _) ∧ ((h 26 (10 * q x2 + h 20 r) < 0 → K (oI 3) (ab_up (ab_up (ab_up (ab_up (ab_up (ab_up (ab_up (upc (upc h 34 f) 30 q) 32 (h 6 22) (h 20 r)) 33 (h 6 22) r) 34 (h 6 22) (-1)) 35 (h 6 22) (h 6 20 - v)) 36 (h 6 22) v) 6 22 (h 6 22 + 1)) 6 21 x2)) ∧ (0 ≤ h 26 (10 * q x2 + h 20 r) → ((100 ≤ h 26 (10 * q x2 + h 20 r) → K (oI 3) (ab_up (ab_up (ab_up (ab_up (ab_up (ab_up (ab_up (upc (upc h 34 f) 30 q) 32 (h 6 22) (h 20 r)) 33 (h 6 22) r) 34 (h 6 22) (-1)) 35 (h 6 22) (h 6 20 - v)) 36 (h 6 22) v) 6 22 (h 6 22 + 1)) 6 21 x2)) ∧ (h 26 (10 * q x2 + h 20 r) < 100 → ((0 ≤ x2 + 1 ∧ x2 + 1 < 61) ∧ (-2147483648 ≤ h 6 22 + 1 - 1 ∧ h 6 22 + 1 - 1 ≤ 2147483647)) ∧ K (oI 0) (ab_up (ab_up (ab_up (ab_up (ab_up (ab_up (ab_up (ab_up (ab_up (ab_up (upc (upc h 34 f) 30 q) 32 (h 6 22) (h 20 r)) 33 (h 6 22) r) 34 (h 6 22) (-1)) 35 (h 6 22) (h 6 20 - v)) 36 (h 6 22) v) 6 22 (h 6 22 + 1)) 6 21 x2) 6 21 (x2 + 1)) 30 (x2 + 1) (h 26 (10 * q x2 + h 20 r))) 31 (x2 + 1) (h 6 22 + 1 - 1))))))
              rw [eE2, el, show h 6 22 + 1 - 1 = h 6 22 by omega]
              have FQ : fq h (ab_up (ab_up (ab_up (ab_up (ab_up (ab_up (ab_up (upc (upc h 34 f) 30 q) 32 (h 6 22) (lf r)) 33 (h 6 22) r) 34 (h 6 22) (-1)) 35 (h 6 22) (h 6 20 - v)) 36 (h 6 22) v) 6 22 (h 6 22 + 1)) 6 21 x2) := fq_tr (fq_tr (fq_tr (fq_tr (fq_tr (fq_tr (fq_tr (fq_tr (fq_upc (by omega)) (fq_upc (by omega))) (fq_up (by omega))) (fq_up (by omega))) (fq_up (by omega))) (fq_up (by omega))) (fq_up (by omega))) (fq_6 (by omega))) (fq_6 (by omega))
              -- the tree afterwards
              have ptree : ∀ j, 0 ≤ j → j < S 5 9 + 1 → (if j = h 6 22 then lf r else h 32 j) = rd6 lf sz S r 19 (j * 5 + 0) ∧ (if j = h 6 22 then r else h 33 j) = rd6 lf sz S r 19 (j * 5 + 1) ∧ (if j = h 6 22 then -1 else f j) = rd6 lf sz S r 19 (j * 5 + 2) ∧ (if j = h 6 22 then h 6 20 - v else h 35 j) = rd6 lf sz S r 19 (j * 5 + 3) ∧ (if j = h 6 22 then v else h 36 j) = rd6 lf sz S r 19 (j * 5 + 4) := by
                intro j j0 j1
                have q9 : upc S 19 (parT S (S 5 7 - sz r) (S 5 7)) 5 9 = S 5 9 := rfl
                by_cases d : j = S 5 9
                · have d2 : j = h 6 22 := by omega
                  rw [if_pos d2, if_pos d2, if_pos d2, if_pos d2, if_pos d2, d]
                  have a0 : rd6 lf sz S r 19 (S 5 9 * 5 + 0) = lf r := nod_0 (h := upc S 19 (parT S (S 5 7 - sz r) (S 5 7)))
                  have a1 : rd6 lf sz S r 19 (S 5 9 * 5 + 1) = r := nod_1 (h := upc S 19 (parT S (S 5 7 - sz r) (S 5 7)))
                  have a2 : rd6 lf sz S r 19 (S 5 9 * 5 + 2) = -1 := nod_2 (h := upc S 19 (parT S (S 5 7 - sz r) (S 5 7)))
                  have a3 : rd6 lf sz S r 19 (S 5 9 * 5 + 3) = S 5 4 - wid sz S r := nod_3 (h := upc S 19 (parT S (S 5 7 - sz r) (S 5 7)))
                  have a4 : rd6 lf sz S r 19 (S 5 9 * 5 + 4) = wid sz S r := nod_4 (h := upc S 19 (parT S (S 5 7 - sz r) (S 5 7)))
                  rw [a0, a1, a2, a3, a4, M1, evw]
                  exact ⟨rfl, rfl, rfl, rfl, rfl⟩
                · have d2 : ¬ j = h 6 22 := by omega
                  have ql : ∀ k, k < S 5 9 * 5 → rd6 lf sz S r 19 k = parT S (S 5 7 - sz r) (S 5 7) k := by
                    intro k hk
                    refine (nod_lt (h := upc S 19 (parT S (S 5 7 - sz r) (S 5 7))) hk).trans ?_
                    rw [upc_at]
                  obtain ⟨t0, t1, t2, t3, t4⟩ := M6 j j0 (by omega)
                  rw [if_neg d2, if_neg d2, if_neg d2, if_neg d2, if_neg d2, ql _ (by omega), ql _ (by omega), ql _ (by omega), ql _ (by omega), ql _ (by omega), parT_ne (k := j * 5 + 0) (by omega), parT_ne (k := j * 5 + 1) (by omega), parT_ne (k := j * 5 + 3) (by omega), parT_ne (k := j * 5 + 4) (by omega), hf j, t2]
                  refine ⟨t0, t1, ?_, t3, t4⟩
                  unfold parT
                  refine cif_congr ⟨fun y => ?_, fun y => ?_⟩ _ _
                  · obtain ⟨i', y0, y1, y2⟩ := y; exact ⟨i', y0, y1, by rw [y2]⟩
                  · obtain ⟨i', y0, y1, y2⟩ := y; exact ⟨i', y0, y1, by omega⟩
              have fail : ¬ (0 ≤ tgt A.2.2 lf sz S r ∧ tgt A.2.2 lf sz S r < 50) → K (oI 3) (ab_up (ab_up (ab_up (ab_up (ab_up (ab_up (ab_up (upc (upc h 34 f) 30 q) 32 (h 6 22) (lf r)) 33 (h 6 22) r) 34 (h 6 22) (-1)) 35 (h 6 22) (h 6 20 - v)) 36 (h 6 22) v) 6 22 (h 6 22 + 1)) 6 21 x2) := by
                intro y
                rw [if_neg y] at H
                refine H _ ⟨M1, ?_, fun k k0 k1 => ?_, fun k k0 k1 => ?_, ?_, ptree⟩ FQ
                · show x2 = S 5 7 - sz r - 1
                  omega
                · have k1 : k < S 5 7 - sz r := k1
                  show q k = S 17 k
                  rw [hq k (by omega)]; exact M3 k k0 (by omega)
                · have k1 : k < S 5 7 - sz r := k1
                  exact M4 k k0 (by omega)
                · show h 6 22 + 1 = S 5 9 + 1
                  omega
              refine ⟨?_, fun z8 => fail (by omega), fun z8 => ⟨fun z9 => fail (by omega), fun z9 => ⟨by omega, ?_⟩⟩⟩
              · show (-2147483648 ≤ h 6 20 - v ∧ h 6 20 - v ≤ 2147483647) ∧ (0 ≤ r ∧ r < 8) ∧ (0 ≤ h 6 22 ∧ h 6 22 < 60) ∧ (-2147483648 ≤ h 6 22 + 1 ∧ h 6 22 + 1 ≤ 2147483647) ∧ (0 ≤ x2 ∧ x2 < 61) ∧ (-2147483648 ≤ 10 * q x2 ∧ 10 * q x2 ≤ 2147483647) ∧ (0 ≤ 10 * q x2 + h 20 r ∧ 10 * q x2 + h 20 r < 500)
                omega
              · rw [if_pos (by unfold okE at ok; omega)] at H
                refine H _ ⟨M1, ?_, fun k k0 k1 => ?_, fun k k0 k1 => ?_, ?_, ptree⟩ (fq_tr (fq_tr (fq_tr FQ (fq_6 (by omega))) (fq_up (by omega))) (fq_up (by omega)))
                · show x2 + 1 = S 5 7 - sz r + 1 - 1
                  omega
                · have k1 : k < S 5 7 - sz r + 1 := k1
                  show (if k = x2 + 1 then tgt A.2.2 lf sz S r else q k) = if k = S 5 7 - sz r then tgt A.2.2 lf sz S r else S 17 k
                  by_cases d : k = S 5 7 - sz r
                  · rw [if_pos d, if_pos (by omega)]
                  · rw [if_neg d, if_neg (by omega), hq k (by omega)]; exact M3 k k0 (by omega)
                · have k1 : k < S 5 7 - sz r + 1 := k1
                  show (if k = x2 + 1 then h 6 22 else h 31 k) = if k = S 5 7 - sz r then S 5 9 else S 18 k
                  by_cases d : k = S 5 7 - sz r
                  · rw [if_pos d, if_pos (by omega)]; exact M5
                  · rw [if_neg d, if_neg (by omega)]; exact M4 k k0 (by omega)
                · show h 6 22 + 1 = S 5 9 + 1
                  omega
            · refine ⟨by omega, ?_⟩
              rw [up_upc]
              refine ihq (by omega) _ (fun k hk => ?_)
              rw [updc_ne _ _ (by omega)]; exact hq k hk
          · have m4 := M4 i (by omega) (by omega)
            have p5 := (P5 i (by omega) (by omega)).1
            show ((0 ≤ i ∧ i < 61) ∧ (0 ≤ h 31 i ∧ h 31 i < 60) ∧ (-2147483648 ≤ i + 1 ∧ i + 1 ≤ 2147483647)) ∧ X 72 84 [vR 6, vI r, vI x2, vI v, vI x4, vI (i + 1), w6] [] (ab_up (upc h 34 f) 34 (h 31 i) (h 6 22)) K
            refine ⟨by omega, ?_⟩
            rw [up_upc]
            refine ihi (by omega) _ (fun j => ?_)
            unfold updc
            by_cases d : j = h 31 i
            · rw [if_pos d, cif_pos ⟨i, by omega, by omega, by rw [d]; exact m4⟩]; exact M5
            · rw [if_neg d, hf j]
              refine cif_congr ⟨fun y => ?_, fun y => ?_⟩ _ _
              · obtain ⟨i', y0, y1, y2⟩ := y; exact ⟨i', y0, by omega, y2⟩
              · obtain ⟨i', y0, y1, y2⟩ := y
                by_cases e : i' = i
                · subst e; rw [m4] at d; exact absurd y2 d
                · exact ⟨i', y0, by omega, y2⟩
        · intro j
          rw [cif_neg]
          rintro ⟨i', y0, y1, _⟩
          omega
      · rw [if_pos (by omega)] at H
        exact H h M (fq_rfl _)
    · have ro : ¬ rowOn sz sy S r := by
        rcases hv with ⟨q, _⟩ | ⟨_, q⟩
        · omega
        · exact q
      rw [cif_neg ro] at H
      exact H h M (fq_rfl _)
    · have m4 : h 31 (x2 + 1 + i) = S 18 (S 5 7 - sz r + i) := by rw [x21]; exact M4 _ (by omega) (by omega)
      have p5 := P5 (S 5 7 - sz r + i) (by omega) (by omega)
      obtain ⟨t0, t1, t2, t3, t4⟩ := M6 (S 18 (S 5 7 - sz r + i)) p5.1.1 p5.1.2
      have ey : h 22 (4 * r + i) = sy (r * 4 + i) := mg.2.2 r i hr.1 (by omega) i0 z3
      have wp1 := wid_pre P hsz.1 lt (i := i + 1) (by omega) (by omega)
      have es1 : sm (fun i => S 19 (S 18 (S 5 7 - sz r + i) * 5 + 4)) (i + 1).toNat = v + S 19 (S 18 (S 5 7 - sz r + i) * 5 + 4) := by rw [sm_s i0, ← ev]
      rw [es1] at wp1
      rw [m4, t0, t4, ey]
      refine ⟨by omega, fun z4 => ⟨by omega, ih z3 _ 0 es1.symm ?_ _⟩, fun z4 => ⟨by omega, fun z5 => ⟨by omega, ih z3 _ 0 es1.symm (Or.inr ⟨rfl, fun q => z5 (q.2 i i0 z3)⟩) _⟩, fun z5 => ⟨by omega, ih z3 _ 1 es1.symm ?_ _⟩⟩⟩
      · rcases hv with ⟨q, _⟩ | ⟨_, q⟩
        · omega
        · exact Or.inr ⟨rfl, q⟩
      · rcases hv with ⟨_, q⟩ | ⟨q, _⟩
        · refine Or.inl ⟨rfl, fun j a b => ?_⟩
          by_cases e : j = i
          · subst e; exact z5
          · exact q j a (by omega)
        · omega
  · rw [cif_neg (fun q => absurd q.1 (by omega))] at H
    exact H h M (fq_rfl _)
theorem c_73 {inp : Int → Int} {il : Int} {S h : ab_S} {K : ab_O → ab_S → Prop} (g : GW n lf sz sy) (mg : MG n lf sz sy (h 6 1) (h 20) (h 21) (h 22)) (B : AI n sz A) (R : RM A (h 6 7) (h 25) (h 26)) (M : PM S h) (P : PI il A.1 S) (hil : 0 ≤ il ∧ il ≤ 20) (hi : h 6 17 = il) (hin : ∀ i, 0 ≤ i → i < il → h 29 i = inp i) (hx : ∀ i, 0 ≤ i → i < il → 4 ≤ inp i ∧ inp i < 9)
    (H : ∀ h', PM (cst n lf sz sy A.2.2 inp il S).2 h' → fq h h' → K (oI (cst n lf sz sy A.2.2 inp il S).1) h') : C 73 [vR 6] h K := by
  have gn := g.1
  have hc := B.1
  obtain ⟨M1, M2, M3, M4, M5, M6⟩ := id M
  obtain ⟨P1, P2, P3, P4, P5, P6⟩ := id P
  have p4 := P4 (S 5 7 - 1) (by omega) (by omega)
  have m3 : h 30 (h 6 21) = S 17 (S 5 7 - 1) := by rw [M2]; exact M3 _ (by omega) (by omega)
  have el : h 20 0 = lf 0 := (mg.2.1 0 (by omega) (by omega)).1
  have key : ∀ x, x = psy inp il S → (0 ≤ x ∧ x < 10) → (((¬ h 26 ((10 * (h 30 (h 6 21))) + x) = (-1) → ((100 ≤ h 26 ((10 * (h 30 (h 6 21))) + x) → ((200 ≤ h 26 ((10 * (h 30 (h 6 21))) + x) → ((¬ h 6 21 = 1 → K (oI 3) h) ∧ (h 6 21 = 1 → ((0 ≤ h 31 1 ∧ h 31 1 < 60)) ∧ ((¬ h 32 (h 31 1) = h 20 0 → K (oI 3) h) ∧ (h 32 (h 31 1) = h 20 0 → K (oI 1) h))))) ∧ (h 26 ((10 * (h 30 (h 6 21))) + x) < 200 → ((-2147483648 ≤ (h 26 ((10 * (h 30 (h 6 21))) + x)) - 100 ∧ (h 26 ((10 * (h 30 (h 6 21))) + x)) - 100 ≤ 2147483647)) ∧ C 72 [vR 6, vI ((h 26 ((10 * (h 30 (h 6 21))) + x)) - 100)] h (kI (fun v23 h23 => K (oI v23) h23))))) ∧ (h 26 ((10 * (h 30 (h 6 21))) + x) < 100 → C 71 [vR 6, vI (h 26 ((10 * (h 30 (h 6 21))) + x))] h (kI (fun v24 h24 => K (oI v24) h24))))) ∧ (h 26 ((10 * (h 30 (h 6 21))) + x) = (-1) → K (oI 2) h))) := by
    intro x ex x0
    have ok := B.2.2 (S 17 (S 5 7 - 1)) x p4.1 p4.2 x0.1 x0.2
    rw [m3, R.2.2 (S 17 (S 5 7 - 1)) x p4.1 p4.2 x0.1 x0.2]
    have ee : A.2.2 (10 * S 17 (S 5 7 - 1) + x) = pen A.2.2 inp il S := by unfold pen; rw [← ex]
    rw [ee] at ok ⊢
    unfold cst at H
    obtain ⟨T, eT⟩ : ∃ T, T = pen A.2.2 inp il S := ⟨_, rfl⟩
    rw [← eT] at H ok ⊢
    rw [el]
    refine ⟨fun z => ?_, fun z => ?_⟩
    · rw [if_neg z] at H
      refine ⟨fun z2 => ⟨fun z3 => ?_, fun z3 => ⟨by omega, ?_⟩⟩, fun z2 => ?_⟩
      · have e200 : T = 200 := by unfold okE at ok; omega
        rw [if_neg (by omega), if_pos e200] at H
        refine ⟨fun z4 => ?_, fun z4 => ?_⟩
        · rw [if_neg (fun q => z4 (by have := q.1; omega))] at H
          exact H h M (fq_rfl _)
        · have m4 := M4 1 (by omega) (by omega)
          have p5 := (P5 1 (by omega) (by omega)).1
          have t0 := (M6 (S 18 1) p5.1 p5.2).1
          rw [m4, t0]
          refine ⟨by omega, fun z5 => ?_, fun z5 => ?_⟩
          · rw [if_neg (fun q => z5 q.2)] at H; exact H h M (fq_rfl _)
          · rw [if_pos ⟨by omega, z5⟩] at H; exact H h M (fq_rfl _)
      · rw [if_neg (by omega), if_neg (by omega)] at H
        exact c_72 g mg B R M P hil (by unfold okE at ok; omega) H
      · rw [if_pos (by unfold okE at ok; omega)] at H
        exact c_71 M P hil hi hin hx H
    · rw [if_pos z] at H; exact H h M (fq_rfl _)
  refine s_73_0 h K ⟨by rw [m3]; omega, fun z => ?_, fun z => ?_⟩
  · have := key 9 (by unfold psy; rw [if_neg (by omega)]) (by decide)
    exact ⟨by rw [m3]; omega, this⟩
  · have x0 := hx (S 5 4) (by omega) (by omega)
    have ein : h 29 (h 6 20) = inp (S 5 4) := by rw [M1]; exact hin _ (by omega) (by omega)
    have := key (inp (S 5 4)) (by unfold psy; rw [if_pos (by omega)]) (by omega)
    rw [ein]
    exact ⟨by rw [m3]; omega, this⟩
def mst0 (h : ab_S) : ab_S := ab_up (ab_up (ab_up (ab_up (ab_up (ab_up h 6 0 0) 6 19 1) 6 22 0) 6 20 0) 6 21 0) 30 0 0
theorem c_74 {inp : Int → Int} {il k : Int} {S h : ab_S} {K : ab_O → ab_S → Prop} (g : GW n lf sz sy) (mg : MG n lf sz sy (h 6 1) (h 20) (h 21) (h 22)) (B : AI n sz A) (R : RM A (h 6 7) (h 25) (h 26)) (hA : 0 < A.1) (hil : 0 ≤ il ∧ il ≤ 20) (hi : h 6 17 = il) (hin : ∀ i, 0 ≤ i → i < il → h 29 i = inp i) (hx : ∀ i, 0 ≤ i → i < il → 4 ≤ inp i ∧ inp i < 9) (hk : 0 ≤ k ∧ k ≤ 400)
    (H : ∀ h', PM (rn n lf sz sy A.2.2 inp il (pst S) k.toNat).2 h' → fq (mst0 h) h' → K (oI (rn n lf sz sy A.2.2 inp il (pst S) k.toNat).1) h') : C 74 [vR 6, vI k] h K := by
  have P0 := pst_PI (h := S) hil.1 hA
  have ec : h 6 7 = A.1 := R.1
  refine s_74_0 k h K ⟨fun _ => ⟨fun z => absurd z (by omega), fun _ => ⟨fun _ => ?_, fun z => absurd z (by omega)⟩⟩, fun z => absurd z (by omega)⟩
  show X 74 40 [vR 6, vI k, vI 0, vI 0] [] (mst0 h) K
  refine lp (P := fun i => ∀ v h', v = (rn n lf sz sy A.2.2 inp il (pst S) i.toNat).1 → PM (rn n lf sz sy A.2.2 inp il (pst S) i.toNat).2 h' → fq (mst0 h) h' → X 74 40 [vR 6, vI k, vI v, vI i] [] h' K) 0 k hk.1 ?_ 0 (mst0 h) rfl ?_ (fq_rfl _)
  · intro i i0 i1 ih v h' ev M F
    have q := rn_ok g B P0 hil hx i.toNat
    refine s_74_40 k v i h' K ⟨fun z => ?_, fun z => ⟨fun z2 => ?_, fun z2 => ?_⟩⟩
    · have : i = k := by omega
      subst this
      rw [ev]; exact H h' M F
    · have e := rn_stop (k := k.toNat) (by rw [← ev]; exact z2) (show i.toNat ≤ k.toNat by omega)
      rw [e, ← ev] at H
      exact H h' M F
    · rw [← ev] at q
      have es := rn_s (n := n) (lf := lf) (sz := sz) (sy := sy) i0 (by rw [← ev]; exact z2)
      refine c_73 (inp := inp) (il := il) (h := h') g ?_ B ?_ M (q.2.2 z2) hil ?_ ?_ hx (fun h3 M3 F3 => ⟨by omega, ih z _ h3 (by rw [es]) (by rw [es]; exact M3) (fq_tr F F3)⟩)
      · rw [F.2 1 (by decide), F.1 20 (by decide), F.1 21 (by decide), F.1 22 (by decide)]; exact mg
      · rw [F.2 7 (by decide), F.1 25 (by decide), F.1 26 (by decide)]; exact R
      · rw [F.2 17 (by decide)]; exact hi
      · rw [F.1 29 (by decide)]; exact hin
  · refine ⟨rfl, rfl, fun i i0 i1 => ?_, fun i i0 i1 => absurd (show i < 1 from i1) (by omega), rfl, fun j j0 j1 => absurd (show j < 0 from j1) (by omega)⟩
    have : i = 0 := by have : i < 1 := i1; omega
    subst this
    rfl
end MParse
