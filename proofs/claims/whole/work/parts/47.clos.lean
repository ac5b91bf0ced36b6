/-! The closure of a set of items, and the program's own way to it. -/
section Clos
def clI (n : Int) (lf sz sy : Int → Int) (Q : Int → Prop) : Prop := ∀ r d t q u, 0 ≤ r → r ≤ n → 0 ≤ d → d < sz r → 0 ≤ t → t < 6 → Q (30 * r + 6 * d + t) → 0 ≤ q → q < n → lf q = sy (r * 4 + d) → 4 ≤ u → u ≤ 9 → FO (NL n lf sz sy) (FS (NL n lf sz sy) n lf sz sy u) sz sy u r (d + 1) (u = t + 4) → Q (30 * q + (u - 4))
def CL (n : Int) (lf sz sy : Int → Int) (S : Int → Prop) (i : Int) : Prop := ∀ Q : Int → Prop, (∀ j, 0 ≤ j → j < 270 → S j → Q j) → clI n lf sz sy Q → Q i
theorem CL_cl (n : Int) (lf sz sy : Int → Int) (S : Int → Prop) : clI n lf sz sy (CL n lf sz sy S) := by
  intro r d t q u r0 r1 d0 d1 t0 t1 c q0 q1 e u0 u1 f Q hb hc
  exact hc r d t q u r0 r1 d0 d1 t0 t1 (c Q hb hc) q0 q1 e u0 u1 f
theorem CL_base {n : Int} {lf sz sy : Int → Int} {S : Int → Prop} {i : Int} (h0 : 0 ≤ i) (h1 : i < 270) (h : S i) : CL n lf sz sy S i := fun Q hb _ => hb i h0 h1 h
theorem CL_congr {n : Int} {lf sz sy : Int → Int} {S S' : Int → Prop} (h : ∀ i, 0 ≤ i → i < 270 → (S i ↔ S' i)) : CL n lf sz sy S = CL n lf sz sy S' := by
  funext i
  apply propext
  constructor
  · exact fun z Q hb hc => z Q (fun j a b c => hb j a b ((h j a b).mp c)) hc
  · exact fun z Q hb hc => z Q (fun j a b c => hb j a b ((h j a b).mpr c)) hc
def ms (f : Int → Int) (i : Int) : Prop := bt (f (i / 6)) (i % 6) = 1
def mr (f : Int → Int) : Prop := ∀ c, 0 ≤ c → c < 45 → 0 ≤ f c ∧ f c < 64
def cnt (f : Int → Int) : Int := pc (f 0) + pc (f 5) + pc (f 10) + pc (f 15) + pc (f 20) + pc (f 25) + pc (f 30) + pc (f 35)
theorem pc_rg (x : Int) : 0 ≤ pc x ∧ pc x ≤ 6 := by
  unfold pc
  have := bt_01 x 0
  have := bt_01 x 1
  have := bt_01 x 2
  have := bt_01 x 3
  have := bt_01 x 4
  have := bt_01 x 5
  omega
theorem cnt_rg (f : Int → Int) : 0 ≤ cnt f ∧ cnt f ≤ 48 := by
  unfold cnt
  have := pc_rg (f 0)
  have := pc_rg (f 5)
  have := pc_rg (f 10)
  have := pc_rg (f 15)
  have := pc_rg (f 20)
  have := pc_rg (f 25)
  have := pc_rg (f 30)
  have := pc_rg (f 35)
  omega
theorem cnt_up {f : Int → Int} {q x : Int} (hq : 0 ≤ q ∧ q < 8) : cnt (updc f (q * 5) x) = cnt f - pc (f (q * 5)) + pc x := by
  rcases (show q = 0 ∨ q = 1 ∨ q = 2 ∨ q = 3 ∨ q = 4 ∨ q = 5 ∨ q = 6 ∨ q = 7 by omega) with e | e | e | e | e | e | e | e
  all_goals
    subst e
    simp [cnt, updc]
    try omega
def ad90 (lf f0 f : Int → Int) (B m i v : Int) : Prop := mr f ∧ (∀ c, (∀ q, 0 ≤ q → q < i → lf q = B → ¬ c = q * 5) → f c = f0 c) ∧ (∀ q, 0 ≤ q → q < i → lf q = B → ∀ u, 0 ≤ u → u < 6 → (bt (f (q * 5)) u = 1 ↔ (bt (f0 (q * 5)) u = 1 ∨ bt m u = 1))) ∧ ((v = 0 ∧ f = f0) ∨ (v = 1 ∧ cnt f0 + 1 ≤ cnt f))
theorem c_90 {B m : Int} {f0 : Int → Int} {h : ab_S} {K : ab_O → ab_S → Prop} (g : GW (h 1 0) (h 7) (h 8) (h 9)) (hm : 0 ≤ m ∧ m < 64) (hf : mr f0) (H : ∀ v f, ad90 (h 7) f0 f B m (h 1 0) v → K (oI v) (upc h 14 f)) : C 90 [vR 3, vI B, vI m] (upc h 14 f0) K := by
  obtain ⟨⟨n0, n8⟩, gl, gs, gy, -, -⟩ := g
  refine s_90_0 B m _ K ?_
  refine lp (P := fun i => ∀ v f, ad90 (h 7) f0 f B m i v → ∀ w, X 90 4 [vR 3, vI B, vI m, vI v, vI i, w] [] (upc h 14 f) K) 0 (h 1 0) (by omega) ?_ 0 f0 ⟨hf, fun c _ => rfl, fun q a b => absurd b (by omega), Or.inl ⟨rfl, rfl⟩⟩ _
  intro i i0 i1 ih v f A w
  have e0 : i * 5 + 0 = i * 5 := by omega
  obtain ⟨A1, A2, A3, A4⟩ := A
  have hx := A1 (i * 5) (by omega)
  refine s_90_4 B m v i w _ K ?_
  rw [e0]
  refine ⟨fun (z : h 1 0 ≤ i) => ⟨by omega, ?_⟩, fun (z : i < h 1 0) => ⟨by omega, fun (z2 : ¬ h 7 i = B) => ⟨by omega, ih z v f ?_ _⟩, fun (z2 : h 7 i = B) => ⟨by omega, fun (z3 : b_and m (b_xor (f (i * 5)) (-1)) = 0) => ⟨by omega, ih z v f ?_ _⟩, fun (z3 : ¬ b_and m (b_xor (f (i * 5)) (-1)) = 0) => ⟨by omega, ?_⟩⟩⟩⟩
  · have e : i = h 1 0 := by omega
    subst e
    exact H v f ⟨A1, A2, A3, A4⟩
  · refine ⟨A1, fun c hc => A2 c (fun q a b e => hc q a (by omega) e), fun q a b e => ?_, A4⟩
    by_cases c : q = i
    · subst c; exact absurd e z2
    · exact A3 q a (by omega) e
  · have hx := hx (by omega)
    refine ⟨A1, fun c hc => A2 c (fun q a b e => hc q a (by omega) e), fun q a b e u u0 u6 => ?_, A4⟩
    by_cases c : q = i
    · subst c
      have e2 := A2 (q * 5) (fun q' a b e => by omega)
      rw [e2]
      refine ⟨Or.inl, ?_⟩
      rintro (y | y)
      · exact y
      · have := sub0 hm hx z3 u u0 u6 y
        rw [e2] at this
        exact this
    · exact A3 q a (by omega) e u u0 u6
  · have hx := hx (by omega)
    have e2 := A2 (i * 5) (fun q' a b e => by omega)
    rw [up_upc]
    refine ih z 1 _ ⟨fun c c0 c1 => ?_, fun c hc => ?_, fun q a b e u u0 u6 => ?_, Or.inr ⟨rfl, ?_⟩⟩ _
    · by_cases c2 : c = i * 5
      · subst c2; rw [updc_at]; exact or_rg hx hm
      · rw [updc_ne _ _ c2]; exact A1 c c0 c1
    · have := hc i i0 (by omega) z2
      rw [updc_ne _ _ this]
      exact A2 c (fun q a b e => hc q a (by omega) e)
    · by_cases c : q = i
      · subst c
        rw [updc_at]
        refine (or_bt hx hm ⟨u0, u6⟩).trans ?_
        show bt (f (q * 5)) u = 1 ∨ bt m u = 1 ↔ _
        rw [e2]
      · rw [updc_ne _ _ (by omega)]; exact A3 q a (by omega) e u u0 u6
    · have h1 := cnt_up (f := f) (q := i) (x := b_or (f (i * 5)) m) ⟨i0, by omega⟩
      have h2 := (bits2 hx hm).2.2.2.1
      have h3 : cnt f0 ≤ cnt f := by
        rcases A4 with ⟨_, e⟩ | ⟨_, e⟩
        · rw [e]; exact Int.le_refl _
        · omega
      rcases h2 with h2 | h2
      · exact absurd h2 z3
      · show cnt f0 + 1 ≤ cnt (updc f (i * 5) (b_or (f (i * 5)) m))
        omega
def cl89 (n : Int) (lf sz sy : Int → Int) (S : Int → Prop) (f : Int → Int) : Prop := mr f ∧ (∀ i, 0 ≤ i → i < 270 → ms f i → CL n lf sz sy S i) ∧ (∀ i, 0 ≤ i → i < 270 → S i → ms f i)
def clP (n : Int) (lf sz sy : Int → Int) (f : Int → Int) (a b : Int) : Prop := ∀ r d t q u, 0 ≤ r → r ≤ n → 0 ≤ d → d < sz r → (r < a ∨ (r = a ∧ d < b)) → 0 ≤ t → t < 6 → ms f (30 * r + 6 * d + t) → 0 ≤ q → q < n → lf q = sy (r * 4 + d) → 4 ≤ u → u ≤ 9 → FO (NL n lf sz sy) (FS (NL n lf sz sy) n lf sz sy u) sz sy u r (d + 1) (u = t + 4) → ms f (30 * q + (u - 4))
theorem ms_at (f : Int → Int) {r d t : Int} (ht : 0 ≤ t ∧ t < 6) : ms f (30 * r + 6 * d + t) ↔ bt (f (r * 5 + d)) t = 1 := by
  unfold ms
  rw [show (30 * r + 6 * d + t) / 6 = r * 5 + d by omega, show (30 * r + 6 * d + t) % 6 = t by omega]
theorem ms_at0 (f : Int → Int) {q u : Int} (hu : 4 ≤ u ∧ u ≤ 9) : ms f (30 * q + (u - 4)) ↔ bt (f (q * 5)) (u - 4) = 1 := by
  unfold ms
  rw [show (30 * q + (u - 4)) / 6 = q * 5 by omega, show (30 * q + (u - 4)) % 6 = u - 4 by omega]
theorem FO_ah {N F : Int → Prop} {sz sy : Int → Int} {t r a : Int} {ah ah' : Prop} (h : ah → ah') (z : FO N F sz sy t r a ah) : FO N F sz sy t r a ah' := by
  rcases z with z | ⟨z, y⟩
  · exact Or.inl z
  · exact Or.inr ⟨z, h y⟩
theorem ln_fo {h : ab_S} (L : LN h) {t r a : Int} (ht : 0 ≤ t ∧ t < 6) {ah : Prop} : FO (nz (h 10)) (fun x => bt (h 11 x) t = 1) (h 8) (h 9) (t + 4) r a ah = FO (NL (h 1 0) (h 7) (h 8) (h 9)) (FS (NL (h 1 0) (h 7) (h 8) (h 9)) (h 1 0) (h 7) (h 8) (h 9) (t + 4)) (h 8) (h 9) (t + 4) r a ah :=
  FO_congr (fun x a b => (L.1 x a b).2) (fun x a b => (L.2 x a b).2 t ht.1 ht.2) Iff.rfl _ _ _ _ _
theorem bor01 {x y : Int} (hx : x = 0 ∨ x = 1) (hy : y = 0 ∨ y = 1) : (b_or x y = 0 ∧ x = 0 ∧ y = 0) ∨ (b_or x y = 1 ∧ (x = 1 ∨ y = 1)) := by
  rcases hx with e | e <;> rcases hy with e2 | e2 <;> subst e <;> subst e2
  · exact Or.inl ⟨by decide, rfl, rfl⟩
  · exact Or.inr ⟨by decide, Or.inr rfl⟩
  · exact Or.inr ⟨by decide, Or.inl rfl⟩
  · exact Or.inr ⟨by decide, Or.inl rfl⟩
theorem c_89 {S : Int → Prop} {f0 : Int → Int} {h : ab_S} {K : ab_O → ab_S → Prop} (g : GW (h 1 0) (h 7) (h 8) (h 9)) (L : LN h) (A : cl89 (h 1 0) (h 7) (h 8) (h 9) S f0)
    (H : ∀ v f, cl89 (h 1 0) (h 7) (h 8) (h 9) S f → ((v = 0 ∧ clI (h 1 0) (h 7) (h 8) (h 9) (ms f)) ∨ (v = 1 ∧ cnt f0 + 1 ≤ cnt f)) → K (oI v) (upc h 14 f)) : C 89 [vR 3] (upc h 14 f0) K := by
  have g' := g
  obtain ⟨⟨n0, n8⟩, gl, gs, gy, -, -⟩ := g'
  refine s_89_0 _ K ?_
  refine lp (P := fun r => ∀ v f, cl89 (h 1 0) (h 7) (h 8) (h 9) S f → ((v = 0 ∧ f = f0 ∧ clP (h 1 0) (h 7) (h 8) (h 9) f r 0) ∨ (v = 1 ∧ cnt f0 + 1 ≤ cnt f)) → ∀ w3 w4 w5, X 89 4 [vR 3, vI v, vI r, w3, w4, w5] [] (upc h 14 f) K) 0 (h 1 0 + 1) (by omega) ?_ 0 f0 A (Or.inl ⟨rfl, rfl, fun r d t q u a1 a2 a3 a4 a5 => absurd a5 (by omega)⟩) _ _ _
  intro r r0 r1 ih v f A hv w3 w4 w5
  refine s_89_4 v r w3 w4 w5 _ K ⟨fun (z : h 1 0 < r) => ⟨by omega, H v f A ?_⟩, fun (z : r ≤ h 1 0) => ?_⟩
  · rcases hv with ⟨e, _, q⟩ | q
    · refine Or.inl ⟨e, fun r' d t q' u a1 a2 a3 a4 => q r' d t q' u a1 a2 a3 a4 (Or.inl (by omega))⟩
    · exact Or.inr q
  have hs := gs r r0 z
  refine lp (P := fun d => ∀ v f, cl89 (h 1 0) (h 7) (h 8) (h 9) S f → ((v = 0 ∧ f = f0 ∧ clP (h 1 0) (h 7) (h 8) (h 9) f r d) ∨ (v = 1 ∧ cnt f0 + 1 ≤ cnt f)) → ∀ w4 w5, X 89 11 [vR 3, vI v, vI r, vI d, w4, w5] [] (upc h 14 f) K) 0 (h 8 r) (by omega) ?_ v f A hv _ _
  clear hv A w3 w4 w5 v f
  intro d d0 d1 ihd v f A hv w4 w5
  -- where nothing is to be done
  have skip : d < h 8 r → (∀ t q, 0 ≤ t → t < 6 → ms f (30 * r + 6 * d + t) → 0 ≤ q → q < h 1 0 → h 7 q = h 9 (r * 4 + d) → False) → ∀ w4 w5, X 89 11 [vR 3, vI v, vI r, vI (d + 1), w4, w5] [] (upc h 14 f) K := by
    intro hd hn w4 w5
    refine ihd hd v f A ?_ _ _
    rcases hv with ⟨e, e2, q⟩ | q
    · refine Or.inl ⟨e, e2, fun r' d' t q' u a1 a2 a3 a4 a5 a6 a7 a8 a9 a10 a11 a12 a13 a14 => ?_⟩
      by_cases c : r' = r ∧ d' = d
      · obtain ⟨c1, c2⟩ := c
        subst c1; subst c2
        exact (hn t q' a6 a7 a8 a9 a10 a11).elim
      · exact q r' d' t q' u a1 a2 a3 a4 (by omega) a6 a7 a8 a9 a10 a11 a12 a13 a14
    · exact Or.inr q
  refine s_89_11 v r d w4 w5 _ K ⟨by omega, fun (z2 : h 8 r ≤ d) => ⟨by omega, ih (by omega) v f A ?_ _ _ _⟩, fun (z2 : d < h 8 r) => ?_⟩
  · rcases hv with ⟨e, e2, q⟩ | q
    · refine Or.inl ⟨e, e2, fun r' d' t q' u a1 a2 a3 a4 a5 => q r' d' t q' u a1 a2 a3 a4 ?_⟩
      by_cases c : r' = r
      · subst c; exact Or.inr ⟨rfl, by omega⟩
      · exact Or.inl (by omega)
    · exact Or.inr q
  have hy := gy r d r0 z d0 z2
  have hc := A.1 (r * 5 + d) (by omega) (by omega)
  refine ⟨by omega, fun (z3 : f (r * 5 + d) = 0) => ⟨by omega, skip z2 (fun t q a1 a2 a3 a4 a5 a6 => ?_) _ _⟩, fun (z3 : ¬ f (r * 5 + d) = 0) => ⟨fun (z4 : h 9 (r * 4 + d) < 0) => absurd z4 (by omega), fun _ => ⟨fun (z4 : 4 ≤ h 9 (r * 4 + d)) => ⟨by omega, skip z2 (fun t q a1 a2 a3 a4 a5 a6 => ?_) _ _⟩, fun (z4 : h 9 (r * 4 + d) < 4) => ⟨by omega, ?_⟩⟩⟩⟩
  · rw [ms_at f ⟨a1, a2⟩, z3, bt_zero] at a3
    exact absurd a3 (by decide)
  · have := gl q a4 a5
    omega
  show C 113 [vR 1, vI r, vI (d + 1), vI (f (r * 5 + d))] (upc h 14 f) _
  refine c_113 g ⟨r0, z⟩ ⟨by omega, ?_⟩ hc (fun x a b => (L.2 x a b).1) (fun v16 hv16 hb => ?_)
  · show d + 1 ≤ h 8 r
    omega
  have hb : ∀ t, 0 ≤ t → t < 6 → (bt v16 t = 1 ↔ FO (NL (h 1 0) (h 7) (h 8) (h 9)) (FS (NL (h 1 0) (h 7) (h 8) (h 9)) (h 1 0) (h 7) (h 8) (h 9) (t + 4)) (h 8) (h 9) (t + 4) r (d + 1) (bt (f (r * 5 + d)) t = 1)) := by
    intro t t0 t6
    rw [← ln_fo L ⟨t0, t6⟩]
    exact hb t t0 t6
  show C 90 [vR 3, vI (h 9 (r * 4 + d)), vI v16] (upc h 14 f) _
  refine c_90 g hv16 A.1 (fun v17 f' B => ⟨by omega, ?_⟩)
  obtain ⟨B1, B2, B3, B4⟩ := B
  have mono : ∀ i, 0 ≤ i → i < 270 → ms f i → ms f' i := by
    intro i i0 i1 hi
    unfold ms
    by_cases c : ∃ q, 0 ≤ q ∧ q < h 1 0 ∧ h 7 q = h 9 (r * 4 + d) ∧ i / 6 = q * 5
    · obtain ⟨q, q0, q1, q2, q3⟩ := c
      rw [q3, B3 q q0 q1 q2 _ (by omega) (by omega)]
      unfold ms at hi
      rw [q3] at hi
      exact Or.inl hi
    · rw [B2 (i / 6) (fun q a b e1 e2 => c ⟨q, a, b, e1, e2⟩)]
      exact hi
  refine ihd z2 (b_or v v17) f' ⟨B1, fun i i0 i1 hi => ?_, fun i i0 i1 hi => mono i i0 i1 (A.2.2 i i0 i1 hi)⟩ ?_ _ _
  · by_cases c : ∃ q, 0 ≤ q ∧ q < h 1 0 ∧ h 7 q = h 9 (r * 4 + d) ∧ i / 6 = q * 5
    · obtain ⟨q, q0, q1, q2, q3⟩ := c
      have hi' := hi
      unfold ms at hi'
      rw [q3, B3 q q0 q1 q2 _ (by omega) (by omega)] at hi'
      rcases hi' with y | y
      · refine A.2.1 i i0 i1 ?_
        unfold ms
        rw [q3]
        exact y
      · have y2 := (hb _ (by omega) (by omega)).mp y
        have ei : i = 30 * q + ((i % 6 + 4) - 4) := by omega
        rw [ei]
        have fin : ∀ t, 0 ≤ t → t < 6 → bt (f (r * 5 + d)) t = 1 → FO (NL (h 1 0) (h 7) (h 8) (h 9)) (FS (NL (h 1 0) (h 7) (h 8) (h 9)) (h 1 0) (h 7) (h 8) (h 9) (i % 6 + 4)) (h 8) (h 9) (i % 6 + 4) r (d + 1) (i % 6 + 4 = t + 4) → CL (h 1 0) (h 7) (h 8) (h 9) S (30 * q + ((i % 6 + 4) - 4)) := by
          intro t t0 t6 tb fo
          exact CL_cl _ _ _ _ S r d t q (i % 6 + 4) r0 z d0 z2 t0 t6 (A.2.1 _ (by omega) (by omega) ((ms_at f ⟨t0, t6⟩).mpr tb)) q0 q1 q2 (by omega) (by omega) fo
        rcases y2 with y2 | ⟨y2, y3⟩
        · obtain ⟨t, t0, t6, tb⟩ := bt_ne0 hc z3
          exact fin t t0 t6 tb (Or.inl y2)
        · exact fin (i % 6) (by omega) (by omega) y3 (Or.inr ⟨y2, rfl⟩)
    · refine A.2.1 i i0 i1 ?_
      unfold ms at hi ⊢
      rw [B2 (i / 6) (fun q a b e1 e2 => c ⟨q, a, b, e1, e2⟩)] at hi
      exact hi
  · rcases bor01 (x := v) (y := v17) (by omega) (by omega) with ⟨e, ev, e17⟩ | ⟨e, o⟩
    · rcases hv with ⟨_, e2, q⟩ | ⟨e2, _⟩
      · rcases B4 with ⟨_, e3⟩ | ⟨e3, _⟩
        · subst e3
          refine Or.inl ⟨e, e2, fun r' d' t q' u a1 a2 a3 a4 a5 a6 a7 a8 a9 a10 a11 a12 a13 a14 => ?_⟩
          by_cases c : r' = r ∧ d' = d
          · obtain ⟨c1, c2⟩ := c
            subst c1; subst c2
            rw [ms_at _ ⟨a6, a7⟩] at a8
            rw [ms_at0 _ ⟨a12, a13⟩, B3 q' a9 a10 a11 _ (by omega) (by omega)]
            right
            rw [hb _ (by omega) (by omega), show u - 4 + 4 = u by omega]
            exact FO_ah (fun e4 => by rw [show u - 4 = t by omega]; exact a8) a14
          · exact q r' d' t q' u a1 a2 a3 a4 (by omega) a6 a7 a8 a9 a10 a11 a12 a13 a14
        · omega
      · omega
    · refine Or.inr ⟨e, ?_⟩
      have h3 : cnt f0 ≤ cnt f := by
        rcases hv with ⟨_, e, _⟩ | ⟨_, e⟩
        · rw [e]; exact Int.le_refl _
        · omega
      have h4 : cnt f ≤ cnt f' := by
        rcases B4 with ⟨_, e⟩ | ⟨_, e⟩
        · rw [e]; exact Int.le_refl _
        · omega
      rcases o with o | o
      · rcases hv with ⟨e, _⟩ | ⟨_, e⟩
        · omega
        · omega
      · rcases B4 with ⟨e, _⟩ | ⟨_, e⟩
        · omega
        · omega
theorem c_88 {h : ab_S} {K : ab_O → ab_S → Prop} (g : GW (h 1 0) (h 7) (h 8) (h 9)) (L : LN h) (A : mr (h 14)) (H : ∀ f, mr f → (∀ i, 0 ≤ i → i < 270 → (ms f i ↔ CL (h 1 0) (h 7) (h 8) (h 9) (ms (h 14)) i)) → K oV (upc h 14 f)) : C 88 [vR 3] h K := by
  refine s_88_0 h K ?_
  suffices T : X 88 4 [vR 3, vI 1, vI 0] [] (upc h 14 (h 14)) K by rw [upc_self] at T; exact T
  refine lp (P := fun k => ∀ v f, cl89 (h 1 0) (h 7) (h 8) (h 9) (ms (h 14)) f → ((v = 0 ∧ clI (h 1 0) (h 7) (h 8) (h 9) (ms f)) ∨ (v = 1 ∧ k ≤ cnt f)) → X 88 4 [vR 3, vI v, vI k] [] (upc h 14 f) K) 0 49 (by decide) ?_ 1 (h 14) ⟨A, fun i i0 i1 hi => CL_base i0 i1 hi, fun i i0 i1 hi => hi⟩ (Or.inr ⟨rfl, (cnt_rg _).1⟩)
  intro k k0 k1 ih v f A hv
  have fin : clI (h 1 0) (h 7) (h 8) (h 9) (ms f) → K oV (upc h 14 f) := by
    intro c
    refine H f A.1 (fun i i0 i1 => ⟨A.2.1 i i0 i1, fun z => z (ms f) A.2.2 c⟩)
  refine s_88_4 v k _ K ⟨fun z => ?_, fun z => ⟨fun z2 => ?_, fun z2 => ?_⟩⟩
  · rcases hv with ⟨e, c⟩ | ⟨e, c⟩
    · exact fin c
    · have := cnt_rg f
      omega
  · rcases hv with ⟨e, c⟩ | ⟨e, c⟩
    · exact fin c
    · omega
  · have c : k ≤ cnt f := by
      rcases hv with ⟨e, c⟩ | ⟨e, c⟩
      · omega
      · exact c
    refine c_89 g L A (fun v' f' A' hv' => ⟨by omega, ih z v' f' A' ?_⟩)
    rcases hv' with q | ⟨e, q⟩
    · exact Or.inl q
    · exact Or.inr ⟨e, by omega⟩
end Clos
