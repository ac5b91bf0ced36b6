/-! The program's check, the whole of it. -/
section Check2
variable {n : Int} {lf sz sy : Int → Int} {A : au_T}
set_option maxHeartbeats 4000000 in
theorem c_100 {s x : Int} {h : ab_S} {K : ab_O → ab_S → Prop} (G : GE n lf sz sy h) (g : GW n lf sz sy) (B : AI n sz A) (R : RC A (h 2 0) (h 12) (h 13)) (hs : 0 ≤ s ∧ s < A.1) (hx : 0 ≤ x ∧ x < 10)
    (H1 : w3 n sz A.2.1 A.2.2 s x → K (oI 1) h) (H0 : ¬ w3 n sz A.2.1 A.2.2 s x → K (oI 0) h) : C 100 [vR 4, vI s, vI x] h K := by
  have gn := g.1
  have hc := B.1
  obtain ⟨e1, -, e8, -⟩ := G
  refine s_100_0 s x h K ?_
  rw [e1, e8, R.2.2 s x hs.1 hs.2 hx.1 hx.2]
  have ok := B.2.2 s x hs.1 hs.2 hx.1 hx.2
  unfold w3 ig at H1 H0
  obtain ⟨T, eT⟩ : ∃ T, T = A.2.2 (10 * s + x) := ⟨_, rfl⟩
  rw [← eT] at ok H1 H0 ⊢
  clear eT
  rcases ok with e | e | e | e
  · repeat' (first | omega | (refine And.intro ?_ ?_) | intro _)
    all_goals exact H0 (fun q => q.1 e)
  · repeat' (first | omega | (refine And.intro ?_ ?_) | intro _)
    all_goals first
      | exact H1 ⟨by omega, Or.inl ⟨⟨by omega, by omega⟩, by omega⟩⟩
      | (refine H0 (fun q => ?_); rcases q.2 with q | ⟨q, _⟩ <;> omega)
  · have hsz := g.2.2.1 (T - 100) (by omega) (by omega)
    have rg := rc_rg R hs (k := (T - 100) * 5 + sz (T - 100)) (by omega)
    have it := fun (q : 4 ≤ x) => rc_it R hs (r := T - 100) (d := sz (T - 100)) (a := x) (by omega) (by omega) (by omega)
    repeat' (first | omega | (refine And.intro ?_ ?_) | intro _)
    all_goals first
      | exact H1 ⟨by omega, Or.inr ⟨by omega, Or.inl (by omega)⟩⟩
      | exact H1 ⟨by omega, Or.inr ⟨by omega, Or.inr (Or.inr ⟨by omega, fun q => tst0 rg (by omega) (by assumption) ((it (by omega)).mpr q)⟩)⟩⟩
      | (refine H0 (fun q => ?_)
         rcases q.2 with q | ⟨_, q | q | q⟩
         · omega
         · omega
         · omega
         · exact q.2 ((it (by omega)).mp (tst1 rg (by omega) (by assumption))))
  · have hsz := g.2.2.1 n (by omega) (by omega)
    have rg := rc_rg R hs (k := n * 5 + 1) (by omega)
    have it := rc_it R hs (r := n) (d := 1) (a := 9) (by omega) (by omega) (by omega)
    rw [show 30 * n + 6 * 1 + (9 - 4) = 30 * n + 11 by omega] at it
    have t0 : b_and (h 13 (s * 45 + (n * 5 + 1))) (b_shl 1 5) = 0 → ¬ A.2.1 s (30 * n + 11) := fun z q => tst0 (a := 9) rg (by decide) z (it.mpr q)
    have t1 : ¬ b_and (h 13 (s * 45 + (n * 5 + 1))) (b_shl 1 5) = 0 → A.2.1 s (30 * n + 11) := fun z => it.mp (tst1 (a := 9) rg (by decide) z)
    repeat' (first | omega | (refine And.intro ?_ ?_) | intro _)
    all_goals first
      | exact H1 ⟨by omega, Or.inr ⟨by omega, Or.inl (by omega)⟩⟩
      | exact H1 ⟨by omega, Or.inr ⟨by omega, Or.inr (Or.inl ⟨e, Or.inl (by omega)⟩)⟩⟩
      | exact H1 ⟨by omega, Or.inr ⟨by omega, Or.inr (Or.inl ⟨e, Or.inr (t0 (by assumption))⟩)⟩⟩
      | (refine H0 (fun q => ?_)
         rcases q.2 with q | ⟨_, q | ⟨_, q | q⟩ | q⟩
         · omega
         · omega
         · omega
         · exact q (t1 (by assumption))
         · omega)
def ib (n : Int) (lf sz sy : Int → Int) (A : au_T) (k J : Int) : Prop := A.2.1 (J / 270) (J % 270) ∧ wr n lf sz sy A k (J / 270) (J % 270 / 30) (J % 270 % 30 / 6) (J % 270 % 6 + 4)
def sb (n : Int) (sz sy : Int → Int) (A : au_T) (k J : Int) : Prop := ws n sz sy A k (J / 10) (J % 10)
def w15 (h : ab_S) (a b c d : Int) : ab_S := ab_up (ab_up (ab_up (ab_up h 15 0 a) 15 1 b) 15 2 c) 15 3 d
theorem c_96 {k : Int} {h : ab_S} {K : ab_O → ab_S → Prop} (hk : k = 2 ∨ k = 3) (G : GE n lf sz sy h) (g : GW n lf sz sy) (B : AI n sz A) (R : RC A (h 2 0) (h 12) (h 13))
    (H1 : ∀ J, isL (sb n sz sy A k) (10 * A.1) J → K (oI 1) (w15 h (J / 10) (J % 10) (-1) (-1))) (H0 : (∀ J, 0 ≤ J → J < 10 * A.1 → ¬ sb n sz sy A k J) → K (oI 0) h) : C 96 [vR 4, vI k] h K := by
  have hc := B.1
  have ec : h 2 0 = A.1 := R.1
  refine s_96_0 k h K ?_
  refine lp (P := fun s => (∀ J, 0 ≤ J → J < 10 * s → ¬ sb n sz sy A k J) → ∀ w, X 96 2 [vR 4, vI k, vI s, w] [] h K) 0 A.1 hc.1 ?_ (fun J a b => absurd b (by omega)) _
  intro s s0 s1 ihs no w
  refine s_96_2 k s w h K ⟨fun z => H0 (fun J a b => no J a (by omega)), fun z => ?_⟩
  refine lp (P := fun x => (∀ J, 0 ≤ J → J < 10 * s + x → ¬ sb n sz sy A k J) → X 96 9 [vR 4, vI k, vI s, vI x] [] h K) 0 10 (by decide) ?_ (fun J a b => no J a (by omega))
  intro x x0 x1 ihx no
  have e1 : (10 * s + x) / 10 = s ∨ ¬ x < 10 := by omega
  have yes : x < 10 → ws n sz sy A k s x → K (oI 1) (w15 h s x (-1) (-1)) := by
    intro q y
    have a : (10 * s + x) / 10 = s := by omega
    have b : (10 * s + x) % 10 = x := by omega
    have := H1 (10 * s + x) ⟨by omega, by omega, by unfold sb; rw [a, b]; exact y, no⟩
    rw [a, b] at this
    exact this
  have noo : x < 10 → ¬ ws n sz sy A k s x → X 96 9 [vR 4, vI k, vI s, vI (x + 1)] [] h K := by
    intro q y
    refine ihx q (fun J a b => ?_)
    by_cases c : J = 10 * s + x
    · subst c
      unfold sb
      rw [show (10 * s + x) / 10 = s by omega, show (10 * s + x) % 10 = x by omega]
      exact y
    · exact no J a (by omega)
  refine s_96_9 k s x h K ⟨fun z2 => ⟨by omega, ihs (by omega) (fun J a b => no J a (by omega)) _⟩, fun z2 => ⟨fun z3 => ?_, fun z3 => ?_⟩⟩
  · have e : k = 3 := by omega
    subst e
    refine c_100 G g B R ⟨s0, by omega⟩ ⟨x0, z2⟩ (fun y => ⟨fun q => absurd q (by decide), fun _ => yes z2 (ws_3.mpr y)⟩) (fun y => ⟨fun _ => ⟨by omega, noo z2 (fun q => y (ws_3.mp q))⟩, fun q => absurd rfl q⟩)
  · subst z3
    refine c_99 G g B R ⟨s0, by omega⟩ ⟨x0, z2⟩ (fun y => ⟨fun q => absurd q (by decide), fun _ => yes z2 (ws_2.mpr y)⟩) (fun y => ⟨fun _ => ⟨by omega, noo z2 (fun q => y (ws_2.mp q))⟩, fun q => absurd rfl q⟩)
theorem c_97 {k : Int} {h : ab_S} {K : ab_O → ab_S → Prop} (hk : k = 1 ∨ k = 4 ∨ k = 6 ∨ k = 7 ∨ k = 8) (G : GE n lf sz sy h) (g : GW n lf sz sy) (L : LN h) (B : AI n sz A) (R : RC A (h 2 0) (h 12) (h 13))
    (H1 : ∀ J, isL (ib n lf sz sy A k) (270 * A.1) J → K (oI 1) (w15 h (J / 270) (J % 270 / 30) (J % 270 % 30 / 6) (J % 270 % 6 + 4))) (H0 : (∀ J, 0 ≤ J → J < 270 * A.1 → ¬ ib n lf sz sy A k J) → K (oI 0) h) : C 97 [vR 4, vI k] h K := by
  have hc := B.1
  have ec : h 2 0 = A.1 := R.1
  obtain ⟨⟨n0, n8⟩, gl, gs, gy, -, -⟩ := id g
  obtain ⟨e1, e7, e8, e9⟩ := id G
  refine s_97_0 k h K ?_
  refine lp (P := fun s => (∀ J, 0 ≤ J → J < 270 * s → ¬ ib n lf sz sy A k J) → ∀ w3 w4 w5 w6, X 97 2 [vR 4, vI k, vI s, w3, w4, w5, w6] [] h K) 0 A.1 hc.1 ?_ (fun J a b => absurd b (by omega)) _ _ _ _
  intro s s0 s1 ihs no w3 w4 w5 w6
  refine s_97_2 k s w3 w4 w5 w6 h K ⟨fun z => H0 (fun J a b => no J a (by omega)), fun z => ?_⟩
  have lgs : ∀ i, 0 ≤ i → i < 270 → ¬ lg n sz i → ¬ ib n lf sz sy A k (270 * s + i) := by
    intro i a b c q
    have q1 := q.1
    rw [show (270 * s + i) / 270 = s by omega, show (270 * s + i) % 270 = i by omega] at q1
    exact c (B.2.1 s i s0 (by omega) a b q1)
  refine lp (P := fun r => (∀ J, 0 ≤ J → J < 270 * s + 30 * r → ¬ ib n lf sz sy A k J) → ∀ w4 w5 w6, X 97 9 [vR 4, vI k, vI s, vI r, w4, w5, w6] [] h K) 0 (n + 1) (by omega) ?_ (fun J a b => no J a (by omega)) _ _ _
  clear no w3 w4 w5 w6
  intro r r0 r1 ihr no w4 w5 w6
  refine s_97_9 k s r w4 w5 w6 h K ?_
  rw [e1]
  refine ⟨fun z2 => ⟨by omega, ihs (by omega) (fun J a b => ?_) _ _ _ _⟩, fun z2 => ?_⟩
  · by_cases c : J < 270 * s + 30 * r
    · exact no J a c
    · have := lgs (J - 270 * s) (by omega) (by omega) (fun q => absurd q.1 (by omega))
      rw [show 270 * s + (J - 270 * s) = J by omega] at this
      exact this
  have hsz := gs r r0 z2
  refine lp (P := fun d => (∀ J, 0 ≤ J → J < 270 * s + 30 * r + 6 * d → ¬ ib n lf sz sy A k J) → ∀ w5 w6, X 97 16 [vR 4, vI k, vI s, vI r, vI d, w5, w6] [] h K) 0 (sz r + 1) (by omega) ?_ (fun J a b => no J a (by omega)) _ _
  clear no w4 w5 w6
  intro d d0 d1 ihd no w5 w6
  refine s_97_16 k s r d w5 w6 h K ?_
  rw [e8]
  refine ⟨by omega, fun z3 => ⟨by omega, ihr (by omega) (fun J a b => ?_) _ _ _⟩, fun z3 => ⟨by omega, ?_⟩⟩
  · by_cases c : J < 270 * s + 30 * r + 6 * d
    · exact no J a c
    · have := lgs (J - 270 * s) (by omega) (by omega) (fun q => by
        have q2 := q.2
        rw [show (J - 270 * s) / 30 = r by omega] at q2
        omega)
      rw [show 270 * s + (J - 270 * s) = J by omega] at this
      exact this
  have rg := rc_rg R (s := s) ⟨s0, by omega⟩ (k := r * 5 + d) (by omega)
  have nob : ∀ a, 4 ≤ a → a ≤ 9 → ¬ bt (h 13 (s * 45 + (r * 5 + d))) (a - 4) = 1 → ¬ ib n lf sz sy A k (270 * s + 30 * r + 6 * d + (a - 4)) := by
    intro a a0 a1 c q
    have q1 := q.1
    rw [show (270 * s + 30 * r + 6 * d + (a - 4)) / 270 = s by omega, show (270 * s + 30 * r + 6 * d + (a - 4)) % 270 = 30 * r + 6 * d + (a - 4) by omega] at q1
    exact c ((rc_it R ⟨s0, by omega⟩ (by omega) (by omega) ⟨a0, a1⟩).mpr q1)
  refine lp (P := fun a => (∀ J, 0 ≤ J → J < 270 * s + 30 * r + 6 * d + (a - 4) → ¬ ib n lf sz sy A k J) → X 97 32 [vR 4, vI k, vI s, vI r, vI d, vI (h 13 (s * 45 + (r * 5 + d))), vI a] [] h K) 4 10 (by decide) ?_ (fun J a b => no J a (by omega))
  clear no w5 w6
  intro a a0 a1 iha no
  have nxa : a ≤ 9 → ¬ ib n lf sz sy A k (270 * s + 30 * r + 6 * d + (a - 4)) → X 97 32 [vR 4, vI k, vI s, vI r, vI d, vI (h 13 (s * 45 + (r * 5 + d))), vI (a + 1)] [] h K := by
    intro q y
    refine iha (by omega) (fun J b c => ?_)
    by_cases e : J = 270 * s + 30 * r + 6 * d + (a - 4)
    · rw [e]; exact y
    · exact no J b (by omega)
  refine s_97_32 k s r d _ a h K ⟨fun z4 => ⟨by omega, ihd (by omega) (fun J b c => no J b (by omega)) _ _⟩, fun z4 => ⟨fun z5 => ⟨by omega, ihd (by omega) (fun J b c => ?_) _ _⟩, fun z5 => ⟨by omega, fun z6 => ⟨by omega, nxa z4 (nob a a0 z4 (tst0 rg ⟨a0, z4⟩ z6))⟩, fun z6 => ?_⟩⟩⟩
  · by_cases e : J < 270 * s + 30 * r + 6 * d + (a - 4)
    · exact no J b e
    · have := nob (J - (270 * s + 30 * r + 6 * d) + 4) (by omega) (by omega) (by rw [z5, bt_zero]; decide)
      rw [show 270 * s + 30 * r + 6 * d + (J - (270 * s + 30 * r + 6 * d) + 4 - 4) = J by omega] at this
      exact this
  · have hI := (rc_it R (s := s) ⟨s0, by omega⟩ (r := r) (d := d) (by omega) (by omega) ⟨a0, z4⟩).mp (tst1 rg ⟨a0, z4⟩ z6)
    have f1 : (270 * s + 30 * r + 6 * d + (a - 4)) / 270 = s := by omega
    have f2 : (270 * s + 30 * r + 6 * d + (a - 4)) % 270 = 30 * r + 6 * d + (a - 4) := by omega
    have f3 : (30 * r + 6 * d + (a - 4)) / 30 = r := by omega
    have f4 : (30 * r + 6 * d + (a - 4)) % 30 / 6 = d := by omega
    have f5 : (30 * r + 6 * d + (a - 4)) % 6 + 4 = a := by omega
    refine c_98 hk G g L B R ⟨s0, by omega⟩ ⟨r0, z2⟩ ⟨d0, z3⟩ ⟨a0, z4⟩ (fun y => ⟨fun q => absurd q (by decide), fun _ => ?_⟩) (fun y => ⟨fun _ => ⟨by omega, nxa z4 (fun q => y ?_)⟩, fun q => absurd rfl q⟩)
    · have := H1 (270 * s + 30 * r + 6 * d + (a - 4)) ⟨by omega, by omega, by unfold ib; rw [f1, f2, f3, f4, f5]; exact ⟨hI, y⟩, no⟩
      rw [f1, f2, f3, f4, f5] at this
      exact this
    · have q2 := q.2
      rw [f1, f2, f3, f4, f5] at q2
      exact q2
/-- what is found at a step of the check -/
def fnd (n : Int) (lf sz sy : Int → Int) (A : au_T) (k J : Int) : Prop := ((k = 1 ∨ k = 4 ∨ k = 6 ∨ k = 7 ∨ k = 8) ∧ isL (ib n lf sz sy A k) (270 * A.1) J) ∨ ((k = 2 ∨ k = 3) ∧ isL (sb n sz sy A k) (10 * A.1) J) ∨ (k = 5 ∧ J = 0 ∧ ¬ A.2.1 0 (30 * n + 5))
def wh (k J i : Int) : Int := if k = 5 then (if i = 0 then 0 else -1) else if k = 2 ∨ k = 3 then (if i = 0 then J / 10 else if i = 1 then J % 10 else -1) else (if i = 0 then J / 270 else if i = 1 then J % 270 / 30 else if i = 2 then J % 270 % 30 / 6 else J % 270 % 6 + 4)
def ckR (n : Int) (lf sz sy : Int → Int) (A : au_T) (v : Int) (w : Int → Int) : Prop := (v = 0 ∧ (∀ k J, 1 ≤ k → k ≤ 8 → ¬ fnd n lf sz sy A k J) ∧ ∀ i, 0 ≤ i → i < 4 → w i = -1) ∨ ((1 ≤ v ∧ v ≤ 8) ∧ (∀ k J, 1 ≤ k → k < v → ¬ fnd n lf sz sy A k J) ∧ ∃ J, fnd n lf sz sy A v J ∧ ∀ i, 0 ≤ i → i < 4 → w i = wh v J i)
theorem isL_u {P : Int → Prop} {N j j' : Int} (h : isL P N j) (h' : isL P N j') : j = j' := (lst_some h).symm.trans (lst_some h')
theorem fnd_u {k J J' : Int} (h : fnd n lf sz sy A k J) (h' : fnd n lf sz sy A k J') : J = J' := by
  rcases h with ⟨a, h⟩ | ⟨a, h⟩ | ⟨a, h, _⟩ <;> rcases h' with ⟨b, h'⟩ | ⟨b, h'⟩ | ⟨b, h', _⟩
  · exact isL_u h h'
  · omega
  · omega
  · omega
  · exact isL_u h h'
  · omega
  · omega
  · omega
  · omega
theorem ckR_u {v v' : Int} {w w' : Int → Int} (h : ckR n lf sz sy A v w) (h' : ckR n lf sz sy A v' w') : v = v' ∧ ∀ i, 0 ≤ i → i < 4 → w i = w' i := by
  rcases h with ⟨a, b, c⟩ | ⟨a, b, J, c, d⟩ <;> rcases h' with ⟨a', b', c'⟩ | ⟨a', b', J', c', d'⟩
  · exact ⟨by omega, fun i i0 i1 => by rw [c i i0 i1, c' i i0 i1]⟩
  · exact absurd c' (b v' J' a'.1 a'.2)
  · exact absurd c (b' v J a.1 a.2)
  · have e : v = v' := by
      rcases Int.lt_trichotomy v v' with q | q | q
      · exact absurd c (b' v J a.1 q)
      · exact q
      · exact absurd c' (b v' J' a'.1 q)
    subst e
    have e2 := fnd_u c c'
    subst e2
    exact ⟨rfl, fun i i0 i1 => by rw [d i i0 i1, d' i i0 i1]⟩
theorem w15_at (h : ab_S) (a b c d i : Int) (h0 : 0 ≤ i) (h1 : i < 4) : w15 h a b c d 15 i = if i = 0 then a else if i = 1 then b else if i = 2 then c else d := by
  rcases (show i = 0 ∨ i = 1 ∨ i = 2 ∨ i = 3 by omega) with e | e | e | e <;> subst e <;> rfl
theorem w15_fr (h : ab_S) (a b c d : Int) : fr [15] h (w15 h a b c d) := fr_tr (fr_tr (fr_tr (fr_up (by decide)) (fr_up (by decide))) (fr_up (by decide))) (fr_up (by decide))
theorem c_95 {h : ab_S} {K : ab_O → ab_S → Prop} (G : GE n lf sz sy h) (g : GW n lf sz sy) (L : LN h) (B : AI n sz A) (R : RC A (h 2 0) (h 12) (h 13)) (hA : 0 < A.1)
    (H : ∀ v h', ckR n lf sz sy A v (h' 15) → fr [15] h h' → K (oI v) h') : C 95 [vR 4] h K := by
  have hc := B.1
  have gn := g.1
  refine s_95_0 h K ?_
  show C 97 [vR 4, vI 1] (w15 h (-1) (-1) (-1) (-1)) _
  obtain ⟨h0, e0⟩ : ∃ h0, h0 = w15 h (-1) (-1) (-1) (-1) := ⟨_, rfl⟩
  rw [← e0]
  have F0 : fr [15] h h0 := by rw [e0]; exact w15_fr _ _ _ _ _
  have G0 : GE n lf sz sy h0 := GE_fr G F0 (by decide) (by decide) (by decide) (by decide)
  have L0 : LN h0 := LN_fr L F0 (by decide) (by decide) (by decide) (by decide) (by decide) (by decide)
  have R0 : RC A (h0 2 0) (h0 12) (h0 13) := by rw [e0]; exact R
  have W0 : ∀ i, 0 ≤ i → i < 4 → h0 15 i = -1 := by
    intro i i0 i1
    rw [e0, w15_at _ _ _ _ _ _ i0 i1]
    split
    · rfl
    · split
      · rfl
      · split <;> rfl
  clear e0
  -- found at a step
  have itm : ∀ k, (k = 1 ∨ k = 4 ∨ k = 6 ∨ k = 7 ∨ k = 8) → (∀ k' J, 1 ≤ k' → k' < k → ¬ fnd n lf sz sy A k' J) → ∀ J, isL (ib n lf sz sy A k) (270 * A.1) J → K (oI k) (w15 h0 (J / 270) (J % 270 / 30) (J % 270 % 30 / 6) (J % 270 % 6 + 4)) := by
    intro k hk no J hJ
    refine H k _ (Or.inr ⟨by omega, no, J, Or.inl ⟨hk, hJ⟩, fun i i0 i1 => ?_⟩) (fr_tr F0 (w15_fr _ _ _ _ _))
    rw [w15_at _ _ _ _ _ _ i0 i1]
    unfold wh
    rw [if_neg (show ¬ k = 5 by omega), if_neg (show ¬ (k = 2 ∨ k = 3) by omega)]
  have sym : ∀ k, (k = 2 ∨ k = 3) → (∀ k' J, 1 ≤ k' → k' < k → ¬ fnd n lf sz sy A k' J) → ∀ J, isL (sb n sz sy A k) (10 * A.1) J → K (oI k) (w15 h0 (J / 10) (J % 10) (-1) (-1)) := by
    intro k hk no J hJ
    refine H k _ (Or.inr ⟨by omega, no, J, Or.inr (Or.inl ⟨hk, hJ⟩), fun i i0 i1 => ?_⟩) (fr_tr F0 (w15_fr _ _ _ _ _))
    rw [w15_at _ _ _ _ _ _ i0 i1]
    unfold wh
    rw [if_neg (show ¬ k = 5 by omega), if_pos hk]
    split
    · rfl
    · split
      · rfl
      · split <;> rfl
  have nI : ∀ k, (k = 1 ∨ k = 4 ∨ k = 6 ∨ k = 7 ∨ k = 8) → (∀ J, 0 ≤ J → J < 270 * A.1 → ¬ ib n lf sz sy A k J) → ∀ J, ¬ fnd n lf sz sy A k J := by
    intro k hk no J q
    rcases q with ⟨_, q⟩ | ⟨q, _⟩ | ⟨q, _⟩
    · exact no J q.1 q.2.1 q.2.2.1
    · omega
    · omega
  have nS : ∀ k, (k = 2 ∨ k = 3) → (∀ J, 0 ≤ J → J < 10 * A.1 → ¬ sb n sz sy A k J) → ∀ J, ¬ fnd n lf sz sy A k J := by
    intro k hk no J q
    rcases q with ⟨q, _⟩ | ⟨_, q⟩ | ⟨q, _⟩
    · omega
    · exact no J q.1 q.2.1 q.2.2.1
    · omega
  refine c_97 (by omega) G0 g L0 B R0 (fun J hJ => ⟨fun q => absurd q (by decide), fun _ => itm 1 (by omega) (fun k' J' a b => by omega) J hJ⟩) (fun no1 => ⟨fun _ => ?_, fun q => absurd rfl q⟩)
  have no1 := nI 1 (by omega) no1
  refine c_96 (by omega) G0 g B R0 (fun J hJ => ⟨fun q => absurd q (by decide), fun _ => sym 2 (by omega) (fun k' J' a b => ?_) J hJ⟩) (fun no2 => ⟨fun _ => ?_, fun q => absurd rfl q⟩)
  · have : k' = 1 := by omega
    subst this; exact no1 J'
  have no2 := nS 2 (by omega) no2
  have n2 : ∀ k' J, 1 ≤ k' → k' < 3 → ¬ fnd n lf sz sy A k' J := by
    intro k' J a b
    rcases (show k' = 1 ∨ k' = 2 by omega) with e | e <;> subst e
    · exact no1 J
    · exact no2 J
  refine c_96 (by omega) G0 g B R0 (fun J hJ => ⟨fun q => absurd q (by decide), fun _ => sym 3 (by omega) n2 J hJ⟩) (fun no3 => ⟨fun _ => ?_, fun q => absurd rfl q⟩)
  have no3 := nS 3 (by omega) no3
  have n3 : ∀ k' J, 1 ≤ k' → k' < 4 → ¬ fnd n lf sz sy A k' J := by
    intro k' J a b
    by_cases c : k' = 3
    · subst c; exact no3 J
    · exact n2 k' J a (by omega)
  refine c_97 (by omega) G0 g L0 B R0 (fun J hJ => ⟨fun q => absurd q (by decide), fun _ => itm 4 (by omega) n3 J hJ⟩) (fun no4 => ⟨fun _ => ?_, fun q => absurd rfl q⟩)
  have no4 := nI 4 (by omega) no4
  have n4 : ∀ k' J, 1 ≤ k' → k' < 5 → ¬ fnd n lf sz sy A k' J := by
    intro k' J a b
    by_cases c : k' = 4
    · subst c; exact no4 J
    · exact n3 k' J a (by omega)
  rw [G0.1, show 0 + (n * 5 + 0) = 0 * 45 + (n * 5 + 0) by omega, show n * 5 + 0 = n * 5 by omega]
  have rg := rc_rg R0 (s := 0) (by omega) (k := n * 5) (by omega)
  have it := rc_bt R0 (s := 0) (by omega) (k := n * 5) (u := 5) (by omega) (by omega)
  rw [show 6 * (n * 5) + 5 = 30 * n + 5 by omega] at it
  refine ⟨by omega, fun z => ?_, fun z => ?_⟩
  · have no5 : ¬ A.2.1 0 (30 * n + 5) := fun q => tst0 (a := 9) rg (by decide) z (it.mpr q)
    refine H 5 (w15 h0 0 (-1) (-1) (-1)) (Or.inr ⟨by omega, n4, 0, Or.inr (Or.inr ⟨rfl, rfl, no5⟩), fun i i0 i1 => ?_⟩) (fr_tr F0 (w15_fr _ _ _ _ _))
    rw [w15_at _ _ _ _ _ _ i0 i1]
    unfold wh
    rw [if_pos (show (5 : Int) = 5 from rfl)]
    split
    · rfl
    · split
      · rfl
      · split <;> rfl
  · have is5 : A.2.1 0 (30 * n + 5) := it.mp (tst1 (a := 9) rg (by decide) z)
    have n5 : ∀ k' J, 1 ≤ k' → k' < 6 → ¬ fnd n lf sz sy A k' J := by
      intro k' J a b
      by_cases c : k' = 5
      · subst c
        rintro (q | q | q)
        · omega
        · omega
        · exact q.2.2 is5
      · exact n4 k' J a (by omega)
    refine lp (P := fun k => (∀ k' J, 1 ≤ k' → k' < k → ¬ fnd n lf sz sy A k' J) → X 95 46 [vR 4, vI k] [] h0 K) 6 9 (by decide) ?_ n5
    intro k k0 k1 ih no
    refine s_95_46 k h0 K ⟨fun z2 => H 0 h0 (Or.inl ⟨rfl, fun k' J a b => no k' J a (by omega), W0⟩) F0, fun z2 => ?_⟩
    refine c_97 (by omega) G0 g L0 B R0 (fun J hJ => ⟨fun q => absurd q (by decide), fun _ => itm k (by omega) no J hJ⟩) (fun nok => ⟨fun _ => ⟨by omega, ih (by omega) (fun k' J a b => ?_)⟩, fun q => absurd rfl q⟩)
    by_cases c : k' = k
    · subst c; exact nI k' (by omega) nok J
    · exact no k' J a (by omega)
end Check2
