/-! A grammar's rows: what vanishes, what begins, as statements; and the program's own looking for them. -/
section Gram
def nz (f : Int → Int) (x : Int) : Prop := ¬ f x = 0
def vn (N : Int → Prop) (x : Int) : Prop := 0 ≤ x ∧ x < 4 ∧ N x
def emp (N : Int → Prop) (sy : Int → Int) (r a b : Int) : Prop := ∀ k, a ≤ k → k < b → vn N (sy (r * 4 + k))
def ltx (F : Int → Prop) (t x : Int) : Prop := x = t ∨ (0 ≤ x ∧ x < 4 ∧ F x)
def FOp (N F : Int → Prop) (sy : Int → Int) (t r a i : Int) : Prop := ∃ k, a ≤ k ∧ k < i ∧ emp N sy r a k ∧ ltx F t (sy (r * 4 + k))
def FO (N F : Int → Prop) (sz sy : Int → Int) (t r a : Int) (ah : Prop) : Prop := FOp N F sy t r a (sz r) ∨ (emp N sy r a (sz r) ∧ ah)
def GW (n : Int) (lf sz sy : Int → Int) : Prop := (0 < n ∧ n ≤ 8) ∧ (∀ r, 0 ≤ r → r < n → 0 ≤ lf r ∧ lf r < 4) ∧ (∀ r, 0 ≤ r → r ≤ n → 0 ≤ sz r ∧ sz r ≤ 4) ∧ (∀ r k, 0 ≤ r → r ≤ n → 0 ≤ k → k < sz r → 0 ≤ sy (r * 4 + k) ∧ sy (r * 4 + k) < 9) ∧ sz n = 1 ∧ sy (n * 4 + 0) = lf 0
theorem emp_nil {N : Int → Prop} {sy : Int → Int} {r a b : Int} (h : b ≤ a) : emp N sy r a b := fun k h1 h2 => absurd h2 (by omega)
theorem emp_succ {N : Int → Prop} {sy : Int → Int} {r a i : Int} (h : emp N sy r a i) (v : vn N (sy (r * 4 + i))) : emp N sy r a (i + 1) := by
  intro k h1 h2
  by_cases e : k = i
  · subst e; exact v
  · exact h k h1 (by omega)
theorem emp_not {N : Int → Prop} {sy : Int → Int} {r a b i : Int} (h1 : a ≤ i) (h2 : i < b) (v : ¬ vn N (sy (r * 4 + i))) : ¬ emp N sy r a b := fun h => v (h i h1 h2)
theorem emp_mono {N : Int → Prop} {sy : Int → Int} {r a b c : Int} (h : emp N sy r a b) (hc : c ≤ b) : emp N sy r a c := fun k h1 h2 => h k h1 (by omega)
theorem vn_congr {N N' : Int → Prop} (h : ∀ x, 0 ≤ x → x < 4 → (N x ↔ N' x)) : vn N = vn N' := by
  funext x
  apply propext
  constructor
  · intro ⟨a, b, c⟩; exact ⟨a, b, (h x a b).mp c⟩
  · intro ⟨a, b, c⟩; exact ⟨a, b, (h x a b).mpr c⟩
theorem ltx_congr {F F' : Int → Prop} (h : ∀ x, 0 ≤ x → x < 4 → (F x ↔ F' x)) (t : Int) : ltx F t = ltx F' t := by
  funext x
  apply propext
  constructor
  · rintro (a | ⟨a, b, c⟩)
    · exact Or.inl a
    · exact Or.inr ⟨a, b, (h x a b).mp c⟩
  · rintro (a | ⟨a, b, c⟩)
    · exact Or.inl a
    · exact Or.inr ⟨a, b, (h x a b).mpr c⟩
theorem emp_congr {N N' : Int → Prop} (h : ∀ x, 0 ≤ x → x < 4 → (N x ↔ N' x)) (sy : Int → Int) (r a b : Int) : emp N sy r a b = emp N' sy r a b := by
  unfold emp
  rw [vn_congr h]
theorem FO_congr {N N' F F' : Int → Prop} {ah ah' : Prop} (h : ∀ x, 0 ≤ x → x < 4 → (N x ↔ N' x)) (h2 : ∀ x, 0 ≤ x → x < 4 → (F x ↔ F' x)) (h3 : ah ↔ ah') (sz sy : Int → Int) (t r a : Int) : FO N F sz sy t r a ah = FO N' F' sz sy t r a ah' := by
  unfold FO FOp emp
  rw [vn_congr h, ltx_congr h2, propext h3]
theorem FOp_succ {N F : Int → Prop} {sy : Int → Int} {t r a i : Int} (ha : a ≤ i) (e : emp N sy r a i) : FOp N F sy t r a (i + 1) ↔ (FOp N F sy t r a i ∨ ltx F t (sy (r * 4 + i))) := by
  constructor
  · rintro ⟨k, h1, h2, h3, h4⟩
    by_cases c : k = i
    · subst c; exact Or.inr h4
    · exact Or.inl ⟨k, h1, by omega, h3, h4⟩
  · rintro (⟨k, h1, h2, h3, h4⟩ | h)
    · exact ⟨k, h1, by omega, h3, h4⟩
    · exact ⟨i, ha, by omega, e, h⟩
theorem FO_stop {N F : Int → Prop} {sz sy : Int → Int} {t r a i : Int} {ah : Prop} (ha : a ≤ i) (hi : i < sz r) (e : emp N sy r a i) (v : ¬ vn N (sy (r * 4 + i))) : FO N F sz sy t r a ah ↔ (FOp N F sy t r a i ∨ ltx F t (sy (r * 4 + i))) := by
  rw [← FOp_succ ha e]
  constructor
  · rintro (⟨k, h1, h2, h3, h4⟩ | ⟨h, _⟩)
    · refine ⟨k, h1, ?_, h3, h4⟩
      apply Classical.byContradiction
      intro c
      exact v (h3 i ha (by omega))
    · exact absurd (h i ha hi) v
  · rintro ⟨k, h1, h2, h3, h4⟩
    exact Or.inl ⟨k, h1, by omega, h3, h4⟩
theorem FO_end {N F : Int → Prop} {sz sy : Int → Int} {t r a i : Int} {ah : Prop} (hi : sz r ≤ i) (hi2 : i ≤ sz r) (e : emp N sy r a i) : FO N F sz sy t r a ah ↔ (FOp N F sy t r a i ∨ ah) := by
  have : i = sz r := by omega
  subst this
  constructor
  · rintro (h | ⟨_, h⟩)
    · exact Or.inl h
    · exact Or.inr h
  · rintro (h | h)
    · exact Or.inl h
    · exact Or.inr ⟨e, h⟩
/-- rounds of looking for what vanishes -/
def nlF (lf sz sy : Int → Int) (P : Int → Prop) : Nat → Int → Prop
  | 0 => P
  | m + 1 => fun a => nlF lf sz sy P m a ∨ (lf m = a ∧ emp (nlF lf sz sy P m) sy m 0 (sz m))
def nl4 (lf sz sy : Int → Int) (n : Nat) : Nat → Int → Prop
  | 0 => fun _ => False
  | k + 1 => nlF lf sz sy (nl4 lf sz sy n k) n
def NL (n : Int) (lf sz sy : Int → Int) : Int → Prop := nl4 lf sz sy n.toNat 4
def rep (f : Int → Int) (P : Int → Prop) : Prop := ∀ a, 0 ≤ a → a < 4 → (f a = 0 ∨ f a = 1) ∧ (nz f a ↔ P a)
theorem rep_emp {f : Int → Int} {P : Int → Prop} (h : rep f P) (sy : Int → Int) (r a b : Int) : emp (nz f) sy r a b = emp P sy r a b := emp_congr (fun x h1 h2 => (h x h1 h2).2) sy r a b
theorem rep_step1 {f lf sz sy : Int → Int} {P : Int → Prop} {m : Nat} (h : rep f (nlF lf sz sy P m)) (e : emp (nz f) sy m 0 (sz m)) : rep (updc f (lf m) 1) (nlF lf sz sy P (m + 1)) := by
  rw [rep_emp h] at e
  intro a h1 h2
  have q := h a h1 h2
  by_cases c : a = lf m
  · have e1 : updc f (lf m) 1 a = 1 := by rw [c]; exact updc_at _ _ _
    exact ⟨Or.inr e1, fun _ => Or.inr ⟨c.symm, e⟩, fun _ => by unfold nz; rw [e1]; decide⟩
  · have e1 := updc_ne f 1 c
    have e2 : nz (updc f (lf m) 1) a = nz f a := by unfold nz; rw [e1]
    rw [e1, e2]
    refine ⟨q.1, fun z => Or.inl (q.2.mp z), ?_⟩
    rintro (z | z)
    · exact q.2.mpr z
    · exact absurd z.1.symm c
theorem rep_step0 {f lf sz sy : Int → Int} {P : Int → Prop} {m : Nat} (h : rep f (nlF lf sz sy P m)) (e : ¬ emp (nz f) sy m 0 (sz m)) : rep f (nlF lf sz sy P (m + 1)) := by
  rw [rep_emp h] at e
  intro a h1 h2
  have := h a h1 h2
  refine ⟨this.1, fun z => Or.inl (this.2.mp z), ?_⟩
  rintro (z | z)
  · exact this.2.mpr z
  · exact absurd z.2 e
/-- what begins: the least that the rows close -/
def clF (N : Int → Prop) (n : Int) (lf sz sy : Int → Int) (t : Int) (Q : Int → Prop) : Prop := ∀ r, 0 ≤ r → r < n → FO N Q sz sy t r 0 False → Q (lf r)
def FS (N : Int → Prop) (n : Int) (lf sz sy : Int → Int) (t A : Int) : Prop := ∀ Q : Int → Prop, clF N n lf sz sy t Q → Q A
theorem FO_mono {N F F' : Int → Prop} {sz sy : Int → Int} {t r a : Int} {ah : Prop} (h : ∀ x, 0 ≤ x → x < 4 → F x → F' x) (z : FO N F sz sy t r a ah) : FO N F' sz sy t r a ah := by
  rcases z with ⟨k, h1, h2, h3, h4 | ⟨h5, h6, h7⟩⟩ | z
  · exact Or.inl ⟨k, h1, h2, h3, Or.inl h4⟩
  · exact Or.inl ⟨k, h1, h2, h3, Or.inr ⟨h5, h6, h _ h5 h6 h7⟩⟩
  · exact Or.inr z
theorem FS_cl (N : Int → Prop) (n : Int) (lf sz sy : Int → Int) (t : Int) : clF N n lf sz sy t (FS N n lf sz sy t) := by
  intro r h1 h2 z Q hQ
  exact hQ r h1 h2 (FO_mono (fun x _ _ hx => hx Q hQ) z)
theorem c_112 {r : Int} {h : ab_S} {K : ab_O → ab_S → Prop} (g : GW (h 1 0) (h 7) (h 8) (h 9)) (hr : 0 ≤ r ∧ r ≤ h 1 0) (H1 : emp (nz (h 10)) (h 9) r 0 (h 8 r) → K (oI 1) h) (H0 : ¬ emp (nz (h 10)) (h 9) r 0 (h 8 r) → K (oI 0) h) : C 112 [vR 1, vI r] h K := by
  obtain ⟨⟨n0, n8⟩, gl, gs, gy, -, -⟩ := g
  have hs := gs r hr.1 hr.2
  refine s_112_0 r h K ?_
  refine lp (P := fun i => emp (nz (h 10)) (h 9) r 0 i → ∀ w, X 112 2 [vR 1, vI r, vI i, w] [] h K) 0 (h 8 r) (by omega) ?_ (emp_nil (by omega)) _
  intro i h1 h2 ih he w
  refine s_112_2 r i w h K ⟨by omega, fun z => ?_, fun z => ?_⟩
  · have : i = h 8 r := by omega
    subst this
    exact H1 he
  · have hy := gy r i hr.1 hr.2 h1 z
    refine ⟨by omega, fun z2 => absurd z2 (by omega), fun _ => ⟨fun z3 => H0 (emp_not h1 z (fun v => absurd v.2.1 (by omega))), fun z3 => ⟨by omega, fun z4 => ⟨by omega, ih z (emp_succ he ⟨hy.1, z3, z4⟩) _⟩, fun z4 => H0 (emp_not h1 z (fun v => v.2.2 z4))⟩⟩⟩
theorem c_113 {r a m : Int} {h : ab_S} {K : ab_O → ab_S → Prop} (g : GW (h 1 0) (h 7) (h 8) (h 9)) (hr : 0 ≤ r ∧ r ≤ h 1 0) (ha : 0 ≤ a ∧ a ≤ h 8 r) (hm : 0 ≤ m ∧ m < 64) (hf : ∀ x, 0 ≤ x → x < 4 → 0 ≤ h 11 x ∧ h 11 x < 64)
    (H : ∀ v, 0 ≤ v ∧ v < 64 → (∀ t, 0 ≤ t → t < 6 → (bt v t = 1 ↔ FO (nz (h 10)) (fun x => bt (h 11 x) t = 1) (h 8) (h 9) (t + 4) r a (bt m t = 1))) → K (oI v) h) : C 113 [vR 1, vI r, vI a, vI m] h K := by
  obtain ⟨⟨n0, n8⟩, gl, gs, gy, -, -⟩ := g
  have hs := gs r hr.1 hr.2
  refine s_113_0 r a m h K ?_
  refine lp (P := fun i => ∀ v : Int, 0 ≤ v ∧ v < 64 → emp (nz (h 10)) (h 9) r a i → (∀ t, 0 ≤ t → t < 6 → (bt v t = 1 ↔ FOp (nz (h 10)) (fun x => bt (h 11 x) t = 1) (h 9) (t + 4) r a i)) → ∀ w2 w6, X 113 4 [vR 1, vI r, w2, vI m, vI v, vI i, w6] [] h K) a (h 8 r) ha.2 ?_ 0 (by decide) (emp_nil (by omega)) ?_ _ _
  · intro i h1 h2 ih v hv he hb w2 w6
    refine s_113_4 r m v i w2 w6 h K ⟨by omega, fun z => ?_, fun z => ?_⟩
    · refine H _ (or_rg hv hm) (fun t t0 t6 => ?_)
      rw [or_bt hv hm ⟨t0, t6⟩, FO_end z h2 he, hb t t0 t6]
    · have hy := gy r i hr.1 hr.2 (by omega) z
      refine ⟨by omega, fun z2 => absurd z2 (by omega), fun _ => ⟨fun z3 => ⟨by omega, ?_⟩, fun z3 => ⟨by omega, fun z4 => ⟨by omega, ?_⟩, fun z4 => ?_⟩⟩⟩
      · have hq := shl_rg (a := h 9 (r * 4 + i)) (by omega)
        refine H _ (or_rg hv hq) (fun t t0 t6 => ?_)
        rw [or_bt hv hq ⟨t0, t6⟩, FO_stop h1 z he (fun v => absurd v.2.1 (by omega)), hb t t0 t6, shl_bt (by omega) ⟨t0, t6⟩]
        unfold ltx
        constructor
        · rintro (q | q)
          · exact Or.inl q
          · exact Or.inr (Or.inl (by omega))
        · rintro (q | q | q)
          · exact Or.inl q
          · exact Or.inr (by omega)
          · exact absurd q.2.1 (by omega)
      · have hq := hf _ hy.1 z3
        refine ih z _ (or_rg hv hq) (emp_succ he ⟨hy.1, z3, z4⟩) (fun t t0 t6 => ?_) _ _
        rw [or_bt hv hq ⟨t0, t6⟩, FOp_succ h1 he, hb t t0 t6]
        unfold ltx
        constructor
        · rintro (q | q)
          · exact Or.inl q
          · exact Or.inr (Or.inr ⟨hy.1, z3, q⟩)
        · rintro (q | q | q)
          · exact Or.inl q
          · exact absurd q (by omega)
          · exact Or.inr q.2.2
      · have hq := hf _ hy.1 z3
        refine H _ (or_rg hv hq) (fun t t0 t6 => ?_)
        rw [or_bt hv hq ⟨t0, t6⟩, FO_stop h1 z he (fun v => v.2.2 z4), hb t t0 t6]
        unfold ltx
        constructor
        · rintro (q | q)
          · exact Or.inl q
          · exact Or.inr (Or.inr ⟨hy.1, z3, q⟩)
        · rintro (q | q | q)
          · exact Or.inl q
          · exact absurd q (by omega)
          · exact Or.inr q.2.2
  · intro t t0 t6
    rw [bt_zero]
    constructor
    · intro z; exact absurd z (by decide)
    · rintro ⟨k, a1, a2, _⟩; exact absurd a2 (by omega)
end Gram
