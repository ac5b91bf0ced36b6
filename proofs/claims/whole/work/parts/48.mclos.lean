/-! The model's own way to the closure. -/
section MClos
def mst (h : ab_S) (mf qf : Int → Int) (qd : Int) : ab_S := fun k i => if k = 27 then mf i else if k = 28 then qf i else if k = 6 then (if i = 12 then qd else h 6 i) else h k i
theorem mst_self (h : ab_S) : mst h (h 27) (h 28) (h 6 12) = h := by
  funext k i
  unfold mst
  by_cases a : k = 27
  · rw [if_pos a, a]
  · rw [if_neg a]
    by_cases b : k = 28
    · rw [if_pos b, b]
    · rw [if_neg b]
      by_cases c : k = 6
      · rw [if_pos c, c]
        by_cases d : i = 12
        · rw [if_pos d, d]
        · rw [if_neg d]
      · rw [if_neg c]
theorem mst_add (h : ab_S) (mf qf : Int → Int) (qd i : Int) : ab_up (ab_up (ab_up (mst h mf qf qd) 27 i 1) 28 qd i) 6 12 (qd + 1) = mst h (updc mf i 1) (updc qf qd i) (qd + 1) := by
  funext k j
  unfold ab_up mst updc
  by_cases a : k = 27
  · subst a; simp
  · by_cases b : k = 28
    · subst b; simp
    · by_cases c : k = 6
      · subst c
        by_cases d : j = 12
        · subst d; simp
        · simp [d]
      · simp [a, b, c]
theorem mst_27 (h : ab_S) (mf qf : Int → Int) (qd i v : Int) : ab_up (mst h mf qf qd) 27 i v = mst h (updc mf i v) qf qd := by
  funext k j
  unfold ab_up mst updc
  by_cases a : k = 27
  · subst a; simp
  · simp [a]
theorem mst_12 (h : ab_S) (mf qf : Int → Int) (qd v : Int) : ab_up (mst h mf qf qd) 6 12 v = mst h mf qf v := by
  funext k j
  unfold ab_up mst
  by_cases c : k = 6
  · subst c
    by_cases d : j = 12
    · subst d; simp
    · simp [d]
  · simp [c]
def sm (f : Int → Int) : Nat → Int
  | 0 => 0
  | m + 1 => sm f m + f m
theorem sm_up (f : Int → Int) (i v : Int) (m : Nat) (hi : 0 ≤ i) : sm (updc f i v) m = sm f m + (if i < m then v - f i else 0) := by
  induction m with
  | zero => rw [if_neg (by omega)]; rfl
  | succ m ih =>
    show sm (updc f i v) m + updc f i v m = sm f m + f m + _
    rw [ih]
    by_cases e : (m : Int) = i
    · rw [← e, updc_at, if_neg (by omega), if_pos (by omega)]
      omega
    · rw [updc_ne _ _ e]
      by_cases c : i < m
      · rw [if_pos c, if_pos (by omega)]; omega
      · rw [if_neg c, if_neg (by omega)]; omega
theorem sm_le (f : Int → Int) (m : Nat) (h : ∀ i : Int, 0 ≤ i → i < m → f i = 0 ∨ f i = 1) : sm f m ≤ m := by
  induction m with
  | zero => exact Int.le_refl _
  | succ m ih =>
    have := ih (fun i a b => h i a (by omega))
    have := h m (by omega) (by omega)
    show sm f m + f m ≤ _
    omega
theorem sm_lt (f : Int → Int) (m : Nat) (h : ∀ i : Int, 0 ≤ i → i < m → f i = 0 ∨ f i = 1) (i : Int) (h0 : 0 ≤ i) (h1 : i < m) (z : f i = 0) : sm f m < m := by
  have e := sm_up f i 1 m h0
  rw [if_pos h1, z] at e
  have := sm_le (updc f i 1) m (fun j a b => by
    by_cases c : j = i
    · subst c; rw [updc_at]; exact Or.inr rfl
    · rw [updc_ne _ _ c]; exact h j a b)
  omega
theorem sm_zero (f : Int → Int) (m : Nat) (h : ∀ i : Int, 0 ≤ i → i < m → f i = 0) : sm f m = 0 := by
  induction m with
  | zero => rfl
  | succ m ih =>
    have := ih (fun i a b => h i a (by omega))
    have := h m (by omega) (by omega)
    show sm f m + f m = _
    omega
/-- an item that is there to be -/
def lg (n : Int) (sz : Int → Int) (i : Int) : Prop := i / 30 ≤ n ∧ i % 30 / 6 ≤ sz (i / 30)
def QI (n : Int) (sz mf qf : Int → Int) (qd : Int) : Prop := 0 ≤ qd ∧ (∀ i, 0 ≤ i → i < 270 → mf i = 0 ∨ mf i = 1) ∧ (∀ k, 0 ≤ k → k < qd → (0 ≤ qf k ∧ qf k < 270) ∧ mf (qf k) = 1) ∧ (∀ i, 0 ≤ i → i < 270 → mf i = 1 → lg n sz i ∧ ∃ k, 0 ≤ k ∧ k < qd ∧ qf k = i) ∧ sm mf 270 = qd
theorem QI_le {n : Int} {sz mf qf : Int → Int} {qd : Int} (Q : QI n sz mf qf qd) : qd ≤ 270 := by
  have := sm_le mf 270 (fun i a b => Q.2.1 i a b)
  have := Q.2.2.2.2
  omega
theorem QI_lt {n : Int} {sz mf qf : Int → Int} {qd i : Int} (Q : QI n sz mf qf qd) (h0 : 0 ≤ i) (h1 : i < 270) (z : mf i = 0) : qd < 270 := by
  have := sm_lt mf 270 (fun i a b => Q.2.1 i a b) i h0 h1 z
  have := Q.2.2.2.2
  omega
theorem QI_add {n : Int} {sz mf qf : Int → Int} {qd i : Int} (Q : QI n sz mf qf qd) (h0 : 0 ≤ i) (h1 : i < 270) (z : mf i = 0) (l : lg n sz i) : QI n sz (updc mf i 1) (updc qf qd i) (qd + 1) := by
  obtain ⟨Q1, Q2, Q3, Q4, Q5⟩ := Q
  refine ⟨by omega, fun j a b => ?_, fun k a b => ?_, fun j a b c => ?_, ?_⟩
  · by_cases c : j = i
    · subst c; rw [updc_at]; exact Or.inr rfl
    · rw [updc_ne _ _ c]; exact Q2 j a b
  · by_cases c : k = qd
    · subst c; rw [updc_at, updc_at]; exact ⟨⟨h0, h1⟩, rfl⟩
    · rw [updc_ne _ _ c]
      have := Q3 k a (by omega)
      refine ⟨this.1, ?_⟩
      by_cases d : qf k = i
      · rw [d, updc_at]
      · rw [updc_ne _ _ d]; exact this.2
  · by_cases d : j = i
    · subst d
      exact ⟨l, qd, Q1, by omega, updc_at _ _ _⟩
    · rw [updc_ne _ _ d] at c
      obtain ⟨l', k, k0, k1, k2⟩ := Q4 j a b c
      exact ⟨l', k, k0, by omega, by rw [updc_ne _ _ (by omega)]; exact k2⟩
  · rw [sm_up mf i 1 270 h0, if_pos (by omega), z]
    omega
theorem QI_zero {n : Int} {sz mf qf : Int → Int} (h : ∀ i, 0 ≤ i → i < 270 → mf i = 0) : QI n sz mf qf 0 := by
  refine ⟨by omega, fun i a b => Or.inl (h i a b), fun k a b => absurd b (by omega), fun i a b c => ?_, ?_⟩
  · have := h i a b; omega
  · exact sm_zero mf 270 (fun i a b => h i a b)
theorem c_44 {h : ab_S} {K : ab_O → ab_S → Prop} (H : ∀ mf, (∀ i, 0 ≤ i → i < 270 → mf i = 0) → K oV (mst h mf (h 28) 0)) : C 44 [vR 6] h K := by
  refine s_44_0 h K ?_
  suffices T : X 44 2 [vR 6, vI 0] [] (mst h (h 27) (h 28) (h 6 12)) K by rw [mst_self] at T; exact T
  refine lp (P := fun i => ∀ mf, (∀ j, 0 ≤ j → j < i → mf j = 0) → X 44 2 [vR 6, vI i] [] (mst h mf (h 28) (h 6 12)) K) 0 270 (by decide) ?_ (h 27) (fun j a b => absurd b (by omega))
  intro i i0 i1 ih mf hz
  refine s_44_2 i _ K ⟨fun z => ?_, fun z => ⟨by omega, ?_⟩⟩
  · rw [mst_12]
    exact H mf (fun j a b => hz j a (by omega))
  · rw [mst_27]
    refine ih z _ (fun j a b => ?_)
    by_cases c : j = i
    · subst c; exact updc_at _ _ _
    · rw [updc_ne _ _ c]; exact hz j a (by omega)
variable {n : Int} {lf sz sy : Int → Int}
/-- what the item i asks for is made, for the rules and terminals before -/
def cld (n : Int) (lf sz sy mf : Int → Int) (i a b : Int) : Prop := ∀ q u, 0 ≤ q → q < n → 4 ≤ u → u ≤ 9 → (q < a ∨ (q = a ∧ u < b)) → i % 30 / 6 < sz (i / 30) → lf q = sy (i / 30 * 4 + i % 30 / 6) → FO (NL n lf sz sy) (FS (NL n lf sz sy) n lf sz sy u) sz sy u (i / 30) (i % 30 / 6 + 1) (u = i % 6 + 4) → mf (30 * q + (u - 4)) = 1
theorem cld_up {mf : Int → Int} {i a b j : Int} (c : cld n lf sz sy mf i a b) : cld n lf sz sy (updc mf j 1) i a b := by
  intro q u a1 a2 a3 a4 a5 a6 a7 a8
  have := c q u a1 a2 a3 a4 a5 a6 a7 a8
  by_cases d : 30 * q + (u - 4) = j
  · rw [d]; exact updc_at _ _ _
  · rw [updc_ne _ _ d]; exact this
def cI (n : Int) (lf sz sy : Int → Int) (S : Int → Prop) (mf qf : Int → Int) (qd k : Int) : Prop := QI n sz mf qf qd ∧ (∀ i, 0 ≤ i → i < 270 → mf i = 1 → CL n lf sz sy S i) ∧ (∀ i, 0 ≤ i → i < 270 → S i → mf i = 1) ∧ k ≤ qd ∧ (∀ k', 0 ≤ k' → k' < k → cld n lf sz sy mf (qf k') n 0)
theorem c_45 {S : Int → Prop} {mf qf : Int → Int} {qd : Int} {h : ab_S} {K : ab_O → ab_S → Prop} (g : GW n lf sz sy) (mg : MG n lf sz sy (h 6 1) (h 20) (h 21) (h 22)) (hN : rep (h 23) (NL n lf sz sy)) (hB : BG (NL n lf sz sy) n lf sz sy (h 24)) (Q : QI n sz mf qf qd) (hS : ∀ i, 0 ≤ i → i < 270 → (mf i = 1 ↔ S i))
    (H : ∀ mf' qf' qd', QI n sz mf' qf' qd' → (∀ i, 0 ≤ i → i < 270 → (mf' i = 1 ↔ CL n lf sz sy S i)) → K oV (mst h mf' qf' qd')) : C 45 [vR 6] (mst h mf qf qd) K := by
  have en : h 6 1 = n := mg.1
  obtain ⟨⟨n0, n8⟩, gl, gs, gy, -, -⟩ := id g
  refine s_45_0 _ K ?_
  refine lp (P := fun k => ∀ mf qf qd, cI n lf sz sy S mf qf qd k → ∀ w2 w3 w4 w5 w6, X 45 2 [vR 6, vI k, w2, w3, w4, w5, w6] [] (mst h mf qf qd) K) 0 270 (by decide) ?_ mf qf qd ⟨Q, fun i a b c => CL_base a b ((hS i a b).mp c), fun i a b c => (hS i a b).mpr c, Q.1, fun k' a b => absurd b (by omega)⟩ _ _ _ _ _
  clear hS Q mf qf qd
  intro k k0 k1 ihk mf qf qd I w2 w3 w4 w5 w6
  refine s_45_2 k w2 w3 w4 w5 w6 _ K ⟨fun (z : qd ≤ k) => ?_, fun (z : k < qd) => ?_⟩
  · obtain ⟨Q, I2, I3, I4, I5⟩ := I
    refine H mf qf qd Q (fun i i0 i1 => ⟨I2 i i0 i1, fun c => ?_⟩)
    have d := c (fun j => (0 ≤ j ∧ j < 270) → mf j = 1) (fun j a b e _ => I3 j a b e) (fun r d t q u a1 a2 a3 a4 a5 a6 a7 a8 a9 a10 a11 a12 a13 => ?_)
    · exact d ⟨i0, i1⟩
    · have hs := gs r a1 a2
      have b := a7 ⟨by omega, by omega⟩
      obtain ⟨l, k', b1, b2, b3⟩ := Q.2.2.2.1 _ (by omega) (by omega) b
      have c2 := I5 k' b1 (by omega) q u a8 a9 a11 a12 (Or.inl a9)
      rw [b3, show (30 * r + 6 * d + t) / 30 = r by omega, show (30 * r + 6 * d + t) % 30 / 6 = d by omega, show (30 * r + 6 * d + t) % 6 = t by omega] at c2
      exact fun _ => c2 a4 a10 a13
  · have Qk := I.1.2.2.1 k k0 z
    have ql := QI_le I.1
    obtain ⟨i, ei⟩ : ∃ i, i = qf k := ⟨_, rfl⟩
    rw [← ei] at Qk
    have hl := (I.1.2.2.2.1 i Qk.1.1 Qk.1.2 Qk.2).1
    have hr : 0 ≤ i / 30 ∧ i / 30 ≤ n := ⟨by omega, hl.1⟩
    have hs := gs _ hr.1 hr.2
    show _ ∧ X 45 33 [vR 6, vI k, vI (qf k / 30), vI (qf k % 30 / 6), vI (qf k % 6 + 4), vI 0, w6] [] (mst h mf qf qd) K
    rw [← ei]
    refine ⟨?_, ?_⟩
    · show (0 ≤ k ∧ k < 270) ∧ (0 ≤ qf k ∧ (0 : Int) < 30) ∧ (0 ≤ qf k % 30 ∧ (0 : Int) < 6) ∧ (0 ≤ qf k ∧ (0 : Int) < 6) ∧ (-2147483648 ≤ qf k % 6 + 4 ∧ qf k % 6 + 4 ≤ 2147483647)
      rw [← ei]
      omega
    refine lp (P := fun q => ∀ mf qf qd, cI n lf sz sy S mf qf qd k → k < qd → i = qf k → cld n lf sz sy mf i q 4 → ∀ w6, X 45 33 [vR 6, vI k, vI (i / 30), vI (i % 30 / 6), vI (i % 6 + 4), vI q, w6] [] (mst h mf qf qd) K) 0 n (by omega) ?_ mf qf qd I z ei (fun q u a1 a2 a3 a4 a5 => absurd a5 (by omega)) _
    clear ei Qk ql I z mf qf qd w2 w3 w4 w5 w6
    intro q q0 q1 ihq mf qf qd I z ei D w6
    have ql := QI_le I.1
    have enx : nxt (mst h mf qf qd) (i / 30) (i % 30 / 6) = if i % 30 / 6 < sz (i / 30) then sy (i / 30 * 4 + i % 30 / 6) else -1 := mg_nx g mg hr (by omega)
    refine s_45_33 k (i / 30) (i % 30 / 6) (i % 6 + 4) q w6 _ K ⟨fun (z2 : h 6 1 ≤ q) => ⟨by omega, ?_⟩, fun (z2 : q < h 6 1) => ?_⟩
    · refine ihk (by omega) mf qf qd ⟨I.1, I.2.1, I.2.2.1, by omega, fun k' a b => ?_⟩ _ _ _ _ _
      by_cases c : k' = k
      · subst c
        rw [← ei]
        exact fun q' u a1 a2 a3 a4 a5 => D q' u a1 a2 a3 a4 (Or.inl (by omega))
      · exact I.2.2.2.2 k' a (by omega)
    · have e20 : mst h mf qf qd 20 q = lf q := (mg.2.1 q q0 (by omega)).1
      have hq := gl q q0 (by omega)
      rw [e20, enx]
      refine ⟨⟨by omega, hr.1, mg_pre g mg hr, by omega⟩, fun z3 => ?_, fun z3 => ⟨by omega, ?_⟩⟩
      · have dl : i % 30 / 6 < sz (i / 30) := by
          by_cases c : i % 30 / 6 < sz (i / 30)
          · exact c
          · rw [if_neg c] at z3; omega
        rw [if_pos dl] at z3
        refine lp (P := fun u => ∀ mf qf qd, cI n lf sz sy S mf qf qd k → k < qd → i = qf k → cld n lf sz sy mf i q u → X 45 49 [vR 6, vI k, vI (i / 30), vI (i % 30 / 6), vI (i % 6 + 4), vI q, vI u] [] (mst h mf qf qd) K) 4 10 (by decide) ?_ mf qf qd I z ei D
        clear D ei I z ql enx e20 mf qf qd w6
        intro u u0 u1 ihu mf qf qd I z ei D
        refine s_45_49 k (i / 30) (i % 30 / 6) (i % 6 + 4) q u _ K ⟨fun z4 => ⟨by omega, ?_⟩, fun z4 => ⟨by omega, ?_⟩⟩
        · refine ihq (by omega) mf qf qd I z ei (fun q' u' a1 a2 a3 a4 a5 => D q' u' a1 a2 a3 a4 ?_) _
          by_cases c : q' = q
          · exact Or.inr ⟨c, by omega⟩
          · exact Or.inl (by omega)
        · have ej : 30 * q + 0 + u - 4 = 30 * q + (u - 4) := by omega
          refine c_40 g mg hr ⟨by omega, by omega⟩ ⟨u0, z4⟩ hN hB (fun fo => ?_) (fun fo => ?_)
          · refine ⟨fun c => absurd c (by decide), fun _ => ⟨by omega, ?_⟩⟩
            rw [ej]
            have hc : CL n lf sz sy S (30 * q + (u - 4)) := by
              have Qk := I.1.2.2.1 k k0 z
              rw [← ei] at Qk
              have c1 := I.2.1 i Qk.1.1 Qk.1.2 Qk.2
              have c2 := CL_cl n lf sz sy S (i / 30) (i % 30 / 6) (i % 6) q u hr.1 hr.2 (by omega) dl (by omega) (by omega)
              rw [show 30 * (i / 30) + 6 * (i % 30 / 6) + i % 6 = i by omega] at c2
              exact c2 c1 q0 (by omega) z3 u0 z4 fo
            refine ⟨fun (z5 : mf (30 * q + (u - 4)) = 0) => ?_, fun (z5 : ¬ mf (30 * q + (u - 4)) = 0) => ⟨by omega, ?_⟩⟩
            · have q2 := QI_lt I.1 (by omega) (by omega) z5
              have q1 := I.1.1
              refine ⟨⟨⟨q1, q2⟩, ?_, by omega⟩, ?_⟩
              · show -2147483648 ≤ qd + 1 ∧ qd + 1 ≤ 2147483647
                omega
              show X 45 49 _ _ (ab_up (ab_up (ab_up (mst h mf qf qd) 27 (30 * q + (u - 4)) 1) 28 qd (30 * q + (u - 4))) 6 12 (qd + 1)) K
              rw [mst_add]
              have lgq : lg n sz (30 * q + (u - 4)) := by
                have := gs q q0 (by omega)
                refine ⟨by omega, ?_⟩
                rw [show (30 * q + (u - 4)) / 30 = q by omega, show (30 * q + (u - 4)) % 30 / 6 = 0 by omega]
                exact this.1
              refine ihu (by omega) _ _ _ ⟨QI_add I.1 (by omega) (by omega) z5 lgq, fun j a b c => ?_, fun j a b c => ?_, by omega, fun k' a b => ?_⟩ (by omega) ?_ ?_
              · by_cases d : j = 30 * q + (u - 4)
                · rw [d]; exact hc
                · rw [updc_ne _ _ d] at c; exact I.2.1 j a b c
              · by_cases d : j = 30 * q + (u - 4)
                · rw [d]; exact updc_at _ _ _
                · rw [updc_ne _ _ d]; exact I.2.2.1 j a b c
              · rw [updc_ne _ _ (by omega)]
                exact cld_up (I.2.2.2.2 k' a b)
              · rw [updc_ne _ _ (by omega)]; exact ei
              · intro q' u' a1 a2 a3 a4 a5 a6 a7 a8
                by_cases c : q' = q ∧ u' = u
                · rw [c.1, c.2]; exact updc_at _ _ _
                · exact cld_up D q' u' a1 a2 a3 a4 (by omega) a6 a7 a8
            · refine ihu (by omega) mf qf qd I z ei ?_
              intro q' u' a1 a2 a3 a4 a5 a6 a7 a8
              by_cases c : q' = q ∧ u' = u
              · rw [c.1, c.2]
                have := I.1.2.1 (30 * q + (u - 4)) (by omega) (by omega)
                omega
              · exact D q' u' a1 a2 a3 a4 (by omega) a6 a7 a8
          · refine ⟨fun _ => ⟨by omega, ?_⟩, fun c => absurd rfl c⟩
            refine ihu (by omega) mf qf qd I z ei ?_
            intro q' u' a1 a2 a3 a4 a5 a6 a7 a8
            by_cases c : q' = q ∧ u' = u
            · rw [c.2] at a8; exact absurd a8 fo
            · exact D q' u' a1 a2 a3 a4 (by omega) a6 a7 a8
      · refine ihq (by omega) mf qf qd I z ei (fun q' u' a1 a2 a3 a4 a5 a6 a7 a8 => ?_) _
        by_cases c : q' = q
        · subst c
          rw [if_pos a6] at z3
          exact absurd a7 z3
        · exact D q' u' a1 a2 a3 a4 (by omega) a6 a7 a8
end MClos
