/-! The program learns what vanishes and what begins. -/
section Learn
theorem up_in (h : ab_S) {k l : Nat} (n : ¬ k = l) (f g : Int → Int) (i v : Int) : ab_up (upc (upc h k f) l g) k i v = upc (upc h k (updc f i v)) l g := by
  funext a b
  unfold ab_up upc updc
  by_cases e : a = k
  · subst e
    rw [if_pos rfl, if_neg n, if_pos rfl, if_neg n, if_pos rfl]
  · rw [if_neg e, if_neg e, if_neg e]
theorem upc_self2 (h : ab_S) (k l : Nat) : upc (upc h k (h k)) l (h l) = h := by rw [upc_self, upc_self]
theorem FS_congr {N N' : Int → Prop} (h : ∀ x, 0 ≤ x → x < 4 → (N x ↔ N' x)) (n : Int) (lf sz sy : Int → Int) (t : Int) : FS N n lf sz sy t = FS N' n lf sz sy t := by
  funext A
  unfold FS clF
  have e : ∀ (Q : Int → Prop) (r : Int), FO N Q sz sy t r 0 False = FO N' Q sz sy t r 0 False := fun Q r => FO_congr h (fun _ _ _ => Iff.rfl) Iff.rfl sz sy t r 0
  simp only [e]
def cc (f : Int → Int) (t : Int) : Int := bt (f 0) t + bt (f 1) t + bt (f 2) t + bt (f 3) t
def clU (N : Int → Prop) (lf sz sy f : Int → Int) (t m : Int) : Prop := ∀ r, 0 ≤ r → r < m → FO N (fun x => bt (f x) t = 1) sz sy (t + 4) r 0 False → bt (f (lf r)) t = 1
theorem fs_step {f : Int → Int} {A v t : Int} {Z : Prop} (hA : 0 ≤ A ∧ A < 4) (hf : 0 ≤ f A ∧ f A < 64) (hv : 0 ≤ v ∧ v < 64) (ht : 0 ≤ t ∧ t < 6) (hb : bt v t = 1 ↔ Z) :
    ((∀ x, bt (updc f A (b_or (f A) v) x) t = bt (f x) t) ∧ (Z → bt (f A) t = 1)) ∨ (Z ∧ cc f t + 1 ≤ cc (updc f A (b_or (f A) v)) t) := by
  have ho := or_bt hf hv ht
  by_cases c : Z ∧ ¬ bt (f A) t = 1
  · right
    refine ⟨c.1, ?_⟩
    have h1 : bt (b_or (f A) v) t = 1 := ho.mpr (Or.inr (hb.mpr c.1))
    have h0 : bt (f A) t = 0 := by have := bt_01 (f A) t; have := c.2; omega
    rcases (show A = 0 ∨ A = 1 ∨ A = 2 ∨ A = 3 by omega) with e | e | e | e
    all_goals
      subst e
      simp [cc, updc]
      omega
  · left
    refine ⟨fun x => ?_, fun z => Classical.byContradiction fun q => c ⟨z, q⟩⟩
    by_cases e : x = A
    · subst e
      rw [updc_at]
      have a1 := bt_01 (f x) t
      have a2 := bt_01 (b_or (f x) v) t
      by_cases q : bt (f x) t = 1
      · rw [q]; exact ho.mpr (Or.inl q)
      · have : ¬ bt (b_or (f x) v) t = 1 := by
          intro w
          rcases ho.mp w with w | w
          · exact q w
          · exact c ⟨hb.mp w, q⟩
        omega
    · rw [updc_ne f _ e]
theorem cc_all {f : Int → Int} {t : Int} (h : 4 ≤ cc f t) (A : Int) (hA : 0 ≤ A ∧ A < 4) : bt (f A) t = 1 := by
  unfold cc at h
  have h0 := bt_01 (f 0) t
  have h1 := bt_01 (f 1) t
  have h2 := bt_01 (f 2) t
  have h3 := bt_01 (f 3) t
  rcases (show A = 0 ∨ A = 1 ∨ A = 2 ∨ A = 3 by omega) with e | e | e | e
  all_goals
    subst e
    omega
/-- where the looking for what begins stands, at a round and a rule -/
def fsI (N : Int → Prop) (n : Int) (lf sz sy f : Int → Int) (k m : Int) : Prop := (∀ x, 0 ≤ x → x < 4 → 0 ≤ f x ∧ f x < 64) ∧ ∀ t, 0 ≤ t → t < 6 → (∀ x, 0 ≤ x → x < 4 → bt (f x) t = 1 → FS N n lf sz sy (t + 4) x) ∧ (k + 1 ≤ cc f t ∨ clU N lf sz sy f t n ∨ (k ≤ cc f t ∧ clU N lf sz sy f t m))
theorem fsI_step {N : Int → Prop} {n : Int} {lf sz sy f : Int → Int} {k m v : Int} (hn : ∀ r, 0 ≤ r → r < n → 0 ≤ lf r ∧ lf r < 4) (hm : 0 ≤ m ∧ m < n) (hv : 0 ≤ v ∧ v < 64) (hb : ∀ t, 0 ≤ t → t < 6 → (bt v t = 1 ↔ FO N (fun x => bt (f x) t = 1) sz sy (t + 4) m 0 False)) (I : fsI N n lf sz sy f k m) :
    fsI N n lf sz sy (updc f (lf m) (b_or (f (lf m)) v)) k (m + 1) := by
  obtain ⟨I1, I2⟩ := I
  have hA := hn m hm.1 hm.2
  have hf := I1 _ hA.1 hA.2
  refine ⟨fun x h1 h2 => ?_, fun t t0 t6 => ?_⟩
  · by_cases e : x = lf m
    · subst e; rw [updc_at]; exact or_rg hf hv
    · rw [updc_ne f _ e]; exact I1 x h1 h2
  · obtain ⟨J1, J2⟩ := I2 t t0 t6
    refine ⟨fun x h1 h2 h3 => ?_, ?_⟩
    · by_cases e : x = lf m
      · subst e
        rw [updc_at, or_bt hf hv ⟨t0, t6⟩] at h3
        rcases h3 with h3 | h3
        · exact J1 _ h1 h2 h3
        · exact FS_cl N n lf sz sy (t + 4) m hm.1 hm.2 (FO_mono (fun x a b c => J1 x a b c) ((hb t t0 t6).mp h3))
      · rw [updc_ne f _ e] at h3; exact J1 x h1 h2 h3
    · rcases fs_step hA hf hv ⟨t0, t6⟩ (hb t t0 t6) with ⟨e, z⟩ | ⟨z, e⟩
      · have ecl : ∀ q, clU N lf sz sy (updc f (lf m) (b_or (f (lf m)) v)) t q = clU N lf sz sy f t q := by
          intro q; unfold clU; simp only [e]
        have ecc : cc (updc f (lf m) (b_or (f (lf m)) v)) t = cc f t := by unfold cc; simp only [e]
        rw [ecc, ecl, ecl]
        rcases J2 with a | a | ⟨a, b⟩
        · exact Or.inl a
        · exact Or.inr (Or.inl a)
        · refine Or.inr (Or.inr ⟨a, fun r h1 h2 h3 => ?_⟩)
          by_cases c : r = m
          · subst c; exact z h3
          · exact b r h1 (by omega) h3
      · rcases J2 with a | a | ⟨a, b⟩
        · exact Or.inl (by omega)
        · -- closed already: then nothing is new
          have h1 := a m hm.1 hm.2 z
          have ho := or_bt hf hv (t := t) ⟨t0, t6⟩
          have : ∀ x, bt (updc f (lf m) (b_or (f (lf m)) v) x) t = bt (f x) t := by
            intro x
            by_cases c : x = lf m
            · subst c; rw [updc_at, h1]; exact ho.mpr (Or.inl h1)
            · rw [updc_ne f _ c]
          have ecl : ∀ q, clU N lf sz sy (updc f (lf m) (b_or (f (lf m)) v)) t q = clU N lf sz sy f t q := by
            intro q; unfold clU; simp only [this]
          rw [ecl]
          exact Or.inr (Or.inl a)
        · exact Or.inl (by omega)
theorem fsI_next {N : Int → Prop} {n : Int} {lf sz sy f : Int → Int} {k : Int} (I : fsI N n lf sz sy f k n) : fsI N n lf sz sy f (k + 1) 0 := by
  refine ⟨I.1, fun t t0 t6 => ⟨(I.2 t t0 t6).1, ?_⟩⟩
  rcases (I.2 t t0 t6).2 with a | a | ⟨a, b⟩
  · exact Or.inr (Or.inr ⟨a, fun r h1 h2 => absurd h2 (by omega)⟩)
  · exact Or.inr (Or.inl a)
  · exact Or.inr (Or.inl b)
theorem fsI_end {N : Int → Prop} {n : Int} {lf sz sy f : Int → Int} (hn : ∀ r, 0 ≤ r → r < n → 0 ≤ lf r ∧ lf r < 4) (I : fsI N n lf sz sy f 4 0) : ∀ x, 0 ≤ x → x < 4 → (0 ≤ f x ∧ f x < 64) ∧ ∀ t, 0 ≤ t → t < 6 → (bt (f x) t = 1 ↔ FS N n lf sz sy (t + 4) x) := by
  intro x h1 h2
  refine ⟨I.1 x h1 h2, fun t t0 t6 => ⟨(I.2 t t0 t6).1 x h1 h2, fun z => ?_⟩⟩
  have key : 4 ≤ cc f t ∨ clU N lf sz sy f t n := by
    rcases (I.2 t t0 t6).2 with a | a | ⟨a, b⟩
    · exact Or.inl (by omega)
    · exact Or.inr a
    · exact Or.inl a
  rcases key with a | a
  · exact cc_all a x ⟨h1, h2⟩
  · exact z (fun y => bt (f y) t = 1) a
/-- what the program has learned -/
def LN (h : ab_S) : Prop := rep (h 10) (NL (h 1 0) (h 7) (h 8) (h 9)) ∧ ∀ x, 0 ≤ x → x < 4 → (0 ≤ h 11 x ∧ h 11 x < 64) ∧ ∀ t, 0 ≤ t → t < 6 → (bt (h 11 x) t = 1 ↔ FS (NL (h 1 0) (h 7) (h 8) (h 9)) (h 1 0) (h 7) (h 8) (h 9) (t + 4) x)
theorem c_114 {h : ab_S} {K : ab_O → ab_S → Prop} (g : GW (h 1 0) (h 7) (h 8) (h 9)) (H : ∀ f1 f2, LN (upc (upc h 10 f1) 11 f2) → K oV (upc (upc h 10 f1) 11 f2)) : C 114 [vR 1] h K := by
  have g' := g
  obtain ⟨⟨n0, n8⟩, gl, gs, gy, -, -⟩ := g'
  refine s_114_0 h K ?_
  suffices S : X 114 2 [vR 1, vI 0, vJ 0] [] (upc (upc h 10 (h 10)) 11 (h 11)) K by rw [upc_self2] at S; exact S
  refine lp (P := fun i => ∀ f1 f2 : Int → Int, (∀ a, 0 ≤ a → a < i → f1 a = 0 ∧ f2 a = 0) → ∀ w, X 114 2 [vR 1, vI i, w] [] (upc (upc h 10 f1) 11 f2) K) 0 4 (by decide) ?_ (h 10) (h 11) (fun a h1 h2 => absurd h2 (by omega)) _
  intro i h1 h2 ih f1 f2 hz w
  refine s_114_2 i w _ K ⟨fun z => ?_, fun z => ⟨by omega, ?_⟩⟩
  · -- what vanishes
    have e4 : i = 4 := by omega
    subst e4
    refine lp (P := fun k => ∀ f1 : Int → Int, rep f1 (nl4 (h 7) (h 8) (h 9) (h 1 0).toNat k.toNat) → ∀ w, X 114 19 [vR 1, vI k, w] [] (upc (upc h 10 f1) 11 f2) K) 0 4 (by decide) ?_ f1 ?_ _
    · intro k k0 k4 ihk f1 hr w
      refine s_114_19 k w _ K ⟨fun z => ?_, fun z => ?_⟩
      · -- what begins
        have e4 : k = 4 := by omega
        subst e4
        have hN : ∀ x, 0 ≤ x → x < 4 → (nz f1 x ↔ NL (h 1 0) (h 7) (h 8) (h 9) x) := fun x a b => (hr x a b).2
        refine lp (P := fun k => ∀ f2 : Int → Int, fsI (nz f1) (h 1 0) (h 7) (h 8) (h 9) f2 k 0 → ∀ w, X 114 46 [vR 1, vI k, w] [] (upc (upc h 10 f1) 11 f2) K) 0 4 (by decide) ?_ f2 ?_ _
        · intro k k0 k4 ihk f2 I w
          refine s_114_46 k w _ K ⟨fun z => ?_, fun z => ?_⟩
          · have e4 : k = 4 := by omega
            subst e4
            refine H f1 f2 ⟨hr, fun x a b => ?_⟩
            have q := fsI_end gl I x a b
            refine ⟨q.1, fun t t0 t6 => ?_⟩
            have q2 := q.2 t t0 t6
            rw [FS_congr hN] at q2
            exact q2
          · refine lp (P := fun m => ∀ f2 : Int → Int, fsI (nz f1) (h 1 0) (h 7) (h 8) (h 9) f2 k m → X 114 51 [vR 1, vI k, vI m] [] (upc (upc h 10 f1) 11 f2) K) 0 (h 1 0) (by omega) ?_ f2 I
            intro m m0 m1 ihm f2 I
            refine s_114_51 k m _ K ⟨fun (z2 : h 1 0 ≤ m) => ⟨by omega, ?_⟩, fun (z2 : m < h 1 0) => ?_⟩
            · have e : m = h 1 0 := Int.le_antisymm m1 z2
              subst e
              exact ihk z f2 (fsI_next I) _
            · have hl := gl m m0 z2
              refine ⟨⟨by omega, hl⟩, ?_⟩
              refine c_113 g ⟨m0, m1⟩ ⟨by omega, (gs m m0 m1).1⟩ (by decide) I.1 (fun v hv hb => ?_)
              refine ⟨⟨hl, by omega⟩, ?_⟩
              show X 114 51 [vR 1, vI k, vI (m + 1)] [] (ab_up (upc (upc h 10 f1) 11 f2) 11 (h 7 m) (b_or (f2 (h 7 m)) v)) K
              rw [up_upc]
              refine ihm z2 _ (fsI_step gl ⟨m0, z2⟩ hv (fun t t0 t6 => ?_) I)
              refine (hb t t0 t6).trans (iff_of_eq ?_)
              exact FO_congr (fun _ _ _ => Iff.rfl) (fun _ _ _ => Iff.rfl) ⟨fun q => by rw [bt_zero] at q; exact absurd q (by decide), False.elim⟩ _ _ _ _ _
        · have hz0 : ∀ x, 0 ≤ x → x < 4 → f2 x = 0 := fun x a b => (hz x a b).2
          refine ⟨fun x a b => by rw [hz0 x a b]; decide, fun t t0 t6 => ⟨fun x a b c => by rw [hz0 x a b, bt_zero] at c; exact absurd c (by decide), Or.inr (Or.inr ⟨?_, fun r a b => absurd b (by omega)⟩)⟩⟩
          unfold cc
          have := bt_01 (f2 0) t
          have := bt_01 (f2 1) t
          have := bt_01 (f2 2) t
          have := bt_01 (f2 3) t
          omega
      · refine lp (P := fun m => ∀ f1 : Int → Int, rep f1 (nlF (h 7) (h 8) (h 9) (nl4 (h 7) (h 8) (h 9) (h 1 0).toNat k.toNat) m.toNat) → X 114 24 [vR 1, vI k, vI m] [] (upc (upc h 10 f1) 11 f2) K) 0 (h 1 0) (by omega) ?_ f1 hr
        intro m m0 m1 ihm f1 hr
        have em : ((m.toNat : Nat) : Int) = m := by omega
        have em1 : (m + 1).toNat = m.toNat + 1 := by omega
        refine s_114_24 k m _ K ⟨fun (z2 : h 1 0 ≤ m) => ⟨by omega, ?_⟩, fun (z2 : m < h 1 0) => ?_⟩
        · have e : m = h 1 0 := Int.le_antisymm m1 z2
          subst e
          refine ihk z f1 ?_ _
          rw [show (k + 1).toNat = k.toNat + 1 by omega]
          exact hr
        · have hl := gl m m0 z2
          refine c_112 g ⟨m0, m1⟩ (fun he => ?_) (fun he => ?_)
          · refine ⟨fun q => absurd q (by decide), fun _ => ⟨⟨by omega, hl, by omega⟩, ?_⟩⟩
            show X 114 24 [vR 1, vI k, vI (m + 1)] [] (ab_up (upc (upc h 10 f1) 11 f2) 10 (h 7 m) 1) K
            rw [up_in h (by decide)]
            refine ihm z2 _ ?_
            rw [em1]
            have := rep_step1 (m := m.toNat) hr (by rw [em]; exact he)
            rw [em] at this
            exact this
          · refine ⟨fun _ => ⟨by omega, ihm z2 f1 ?_⟩, fun q => absurd rfl q⟩
            rw [em1]
            exact rep_step0 hr (by rw [em]; exact he)
    · intro a a0 a4
      have := (hz a a0 a4).1
      refine ⟨Or.inl this, fun q => absurd this q, fun q => q.elim⟩
  · rw [up_in h (by decide), up_upc]
    refine ih z _ _ (fun a a0 a1 => ?_) _
    by_cases c : a = i
    · subst c; rw [updc_at, updc_at]; exact ⟨rfl, rfl⟩
    · rw [updc_ne _ _ c, updc_ne _ _ c]; exact hz a a0 (by omega)
end Learn
