/-! The program makes the automaton. -/
section CBuild
def row (t : Int → Int) (s : Int) : Int → Int := fun k => t (s * 45 + k)
def RC (A : au_T) (c : Int) (e t : Int → Int) : Prop := c = A.1 ∧ (∀ s, 0 ≤ s → s < A.1 → mr (row t s) ∧ ∀ i, 0 ≤ i → i < 270 → (ms (row t s) i ↔ A.2.1 s i)) ∧ (∀ s x, 0 ≤ s → s < A.1 → 0 ≤ x → x < 10 → e (s * 10 + x) = A.2.2 (10 * s + x))
theorem c_137 {h : ab_S} {K : ab_O → ab_S → Prop} (H : ∀ f, (∀ c, 0 ≤ c → c < 45 → f c = 0) → K oV (upc h 14 f)) : C 137 [vR 14, vI 0] h K := by
  refine s_137_0 0 h K ?_
  suffices T : X 137 5 [vR 14, vI 0, vI 0, vI 45] [] (upc h 14 (h 14)) K by rw [upc_self] at T; exact T
  refine lp (P := fun i => ∀ f, (∀ c, 0 ≤ c → c < i → f c = 0) → X 137 5 [vR 14, vI 0, vI i, vI 45] [] (upc h 14 f) K) 0 45 (by decide) ?_ (h 14) (fun c a b => absurd b (by omega))
  intro i i0 i1 ih f hf
  refine s_137_5 0 i 45 _ K ⟨fun z => H f (fun c a b => hf c a (by omega)), fun z => ⟨by omega, ?_⟩⟩
  rw [up_upc]
  refine ih z _ (fun c a b => ?_)
  by_cases e : c = i
  · subst e; exact updc_at _ _ _
  · rw [updc_ne _ _ e]; exact hf c a (by omega)
theorem c_83 {s : Int} {h : ab_S} {K : ab_O → ab_S → Prop} (hs : 0 ≤ s ∧ s < 50) (H1 : (∀ k, 0 ≤ k → k < 45 → h 13 (s * 45 + k) = h 14 k) → K (oI 1) h) (H0 : ¬ (∀ k, 0 ≤ k → k < 45 → h 13 (s * 45 + k) = h 14 k) → K (oI 0) h) : C 83 [vR 2, vI s, vR 14] h K := by
  refine s_83_0 s h K ?_
  refine lp (P := fun i => (∀ k, 0 ≤ k → k < i → h 13 (s * 45 + k) = h 14 k) → X 83 2 [vR 2, vI s, vR 14, vI i] [] h K) 0 45 (by decide) ?_ (fun c a b => absurd b (by omega))
  intro i i0 i1 ih hk
  refine s_83_2 s i h K ⟨fun z => H1 (fun k a b => hk k a (by omega)), fun z => ⟨by omega, fun z2 => ⟨by omega, ih z (fun k a b => ?_)⟩, fun z2 => H0 (fun y => z2 (y i i0 z))⟩⟩
  by_cases e : k = i
  · subst e; exact z2
  · exact hk k a (by omega)
theorem rc_same {A : au_T} {c : Int} {e t d : Int → Int} {S : Int → Prop} (R : RC A c e t) (hd : mr d) (hS : ∀ i, 0 ≤ i → i < 270 → (ms d i ↔ S i)) {s : Int} (hs : 0 ≤ s ∧ s < A.1) : (∀ k, 0 ≤ k → k < 45 → t (s * 45 + k) = d k) ↔ same A.2.1 S s := by
  obtain ⟨r1, r2⟩ := R.2.1 s hs.1 hs.2
  constructor
  · intro z i i0 i1
    rw [← r2 i i0 i1, ← hS i i0 i1]
    unfold ms
    rw [show row t s (i / 6) = d (i / 6) from z (i / 6) (by omega) (by omega)]
  · intro z k k0 k1
    refine bt_ext (r1 k k0 k1) (hd k k0 k1) (fun u u0 u1 => ?_)
    have e1 := r2 (6 * k + u) (by omega) (by omega)
    have e2 := hS (6 * k + u) (by omega) (by omega)
    have e3 := z (6 * k + u) (by omega) (by omega)
    rw [← e1, ← e2] at e3
    unfold ms at e3
    rw [show (6 * k + u) / 6 = k by omega, show (6 * k + u) % 6 = u by omega] at e3
    have a := bt_01 (row t s k) u
    have b := bt_01 (d k) u
    show bt (row t s k) u = bt (d k) u
    omega
theorem c_84 {A : au_T} {S : Int → Prop} {h : ab_S} {K : ab_O → ab_S → Prop} (hc : 0 ≤ A.1 ∧ A.1 ≤ 50) (R : RC A (h 2 0) (h 12) (h 13)) (hd : mr (h 14)) (hS : ∀ i, 0 ≤ i → i < 270 → (ms (h 14) i ↔ S i))
    (H : ∀ h', fr [2, 12, 13] h h' → RC (stl A S).2 (h' 2 0) (h' 12) (h' 13) → K (oI (stl A S).1) h') : C 84 [vR 2, vR 14] h K := by
  have ec : h 2 0 = A.1 := R.1
  refine s_84_0 h K ?_
  refine lp (P := fun i => (∀ j, 0 ≤ j → j < i → ¬ same A.2.1 S j) → X 84 2 [vR 2, vR 14, vI i] [] h K) 0 A.1 hc.1 ?_ (fun c a b => absurd b (by omega))
  intro i i0 i1 ih no
  refine s_84_2 i h K ⟨fun z => ⟨fun z2 => ⟨by omega, ?_⟩, fun z2 => ?_⟩, fun z => ?_⟩
  · -- a new one
    have no : ∀ j, 0 ≤ j → j < A.1 → ¬ same A.2.1 S j := fun j a b => no j a (by omega)
    have es : stl A S = (A.1, au_new A S) := by
      rcases stl_cases A S hc.1 with ⟨j, hj, e⟩ | ⟨_, ⟨c, e⟩ | ⟨c, e⟩⟩
      · exact absurd hj.2.2.1 (no j hj.1 hj.2.1)
      · omega
      · exact e
    rw [es] at H
    obtain ⟨h1, e1⟩ : ∃ h1, h1 = ab_cp h 14 0 13 (h 2 0 * 45) 45 := ⟨_, rfl⟩
    rw [← e1]
    have f1 : fr [2, 12, 13] h h1 := by rw [e1]; exact fr_cp (by decide)
    have c1 : h1 2 0 = A.1 := by rw [e1]; exact ec
    have g1 : ∀ k, 0 ≤ k → k < 45 → h1 13 (A.1 * 45 + k) = h 14 k := by
      intro k k0 k1
      rw [e1]
      show (if h 2 0 * 45 ≤ A.1 * 45 + k ∧ A.1 * 45 + k < h 2 0 * 45 + 45 then h 14 (0 + (A.1 * 45 + k - h 2 0 * 45)) else _) = _
      rw [if_pos (by omega), show 0 + (A.1 * 45 + k - h 2 0 * 45) = k by omega]
    have g2 : ∀ s k, 0 ≤ s → s < A.1 → 0 ≤ k → k < 45 → h1 13 (s * 45 + k) = h 13 (s * 45 + k) := by
      intro s k s0 s1 k0 k1
      rw [e1]
      show (if h 2 0 * 45 ≤ s * 45 + k ∧ s * 45 + k < h 2 0 * 45 + 45 then _ else h 13 (s * 45 + k)) = _
      rw [if_neg (by omega)]
    have g3 : h1 12 = h 12 := by rw [e1]; rfl
    suffices T : X 84 33 [vR 2, vR 14, vI 0] [] (upc h1 12 (h1 12)) K by rw [upc_self] at T; exact T
    refine lp (P := fun x => ∀ e : Int → Int, (∀ k, e k = if A.1 * 10 ≤ k ∧ k < A.1 * 10 + x then -1 else h 12 k) → X 84 33 [vR 2, vR 14, vI x] [] (upc h1 12 e) K) 0 10 (by decide) ?_ (h1 12) (fun k => by rw [if_neg (by omega), g3])
    intro x x0 x1 ihx e he
    refine s_84_33 x (vR 14) _ K ⟨fun z3 => ?_, fun z3 => ?_⟩
    · have ev : upc h1 12 e 2 0 + 1 - 1 = A.1 := by show h1 2 0 + 1 - 1 = A.1; omega
      rw [ev]
      refine ⟨?_, H _ ?_ ⟨?_, fun s s0 s1 => ⟨fun k k0 k1 => ?_, fun j j0 j1 => ?_⟩, fun s y s0 s1 y0 y1 => ?_⟩⟩
      · show (-2147483648 ≤ h1 2 0 + 1 ∧ h1 2 0 + 1 ≤ 2147483647) ∧ (-2147483648 ≤ A.1 ∧ A.1 ≤ 2147483647)
        omega
      · exact fr_tr (fr_tr f1 (fr_upc (by decide))) (fr_up (by decide))
      · show h1 2 0 + 1 = A.1 + 1
        omega
      · have s1 : s < A.1 + 1 := s1
        show 0 ≤ h1 13 (s * 45 + k) ∧ h1 13 (s * 45 + k) < 64
        by_cases d : s = A.1
        · rw [d, g1 k k0 k1]; exact hd k k0 k1
        · rw [g2 s k s0 (by omega) k0 k1]; exact (R.2.1 s s0 (by omega)).1 k k0 k1
      · have s1 : s < A.1 + 1 := s1
        show bt (h1 13 (s * 45 + j / 6)) (j % 6) = 1 ↔ if s = A.1 then S j else A.2.1 s j
        by_cases d : s = A.1
        · rw [if_pos d, d, g1 (j / 6) (by omega) (by omega)]; exact hS j j0 j1
        · rw [if_neg d, g2 s (j / 6) s0 (by omega) (by omega) (by omega)]; exact (R.2.1 s s0 (by omega)).2 j j0 j1
      · have s1 : s < A.1 + 1 := s1
        show e (s * 10 + y) = if 10 * A.1 ≤ 10 * s + y ∧ 10 * s + y < 10 * A.1 + 10 then -1 else A.2.2 (10 * s + y)
        rw [he]
        by_cases d : s = A.1
        · rw [if_pos (by omega), if_pos (by omega)]
        · rw [if_neg (by omega), if_neg (by omega)]; exact R.2.2 s y s0 (by omega) y0 y1
    · show ((-2147483648 ≤ h1 2 0 * 10 ∧ h1 2 0 * 10 ≤ 2147483647) ∧ (0 ≤ h1 2 0 * 10 + x ∧ h1 2 0 * 10 + x < 500) ∧ (-2147483648 ≤ x + 1 ∧ x + 1 ≤ 2147483647)) ∧ X 84 33 [vR 2, vR 14, vI (x + 1)] [] (ab_up (upc h1 12 e) 12 (h1 2 0 * 10 + x) (-1)) K
      refine ⟨by omega, ?_⟩
      rw [up_upc]
      refine ihx z3 _ (fun k => ?_)
      unfold updc
      rw [he k]
      by_cases d : k = h1 2 0 * 10 + x
      · rw [if_pos d, if_pos (by omega)]
      · rw [if_neg d]
        by_cases d2 : A.1 * 10 ≤ k ∧ k < A.1 * 10 + x
        · rw [if_pos d2, if_pos (by omega)]
        · rw [if_neg d2, if_neg (by omega)]
  · have no : ∀ j, 0 ≤ j → j < A.1 → ¬ same A.2.1 S j := fun j a b => no j a (by omega)
    have es : stl A S = (-1, A) := by
      rcases stl_cases A S hc.1 with ⟨j, hj, e⟩ | ⟨_, ⟨c, e⟩ | ⟨c, e⟩⟩
      · exact absurd hj.2.2.1 (no j hj.1 hj.2.1)
      · exact e
      · omega
    rw [es] at H
    exact H h (fr_rfl _ _) R
  · have key := rc_same R hd hS (s := i) ⟨i0, by omega⟩
    refine c_83 ⟨i0, by omega⟩ (fun y => ?_) (fun y => ?_)
    · refine ⟨fun q => absurd q (by decide), fun _ => ?_⟩
      have es : stl A S = (i, A) := by
        have hi : isL (same A.2.1 S) A.1 i := ⟨i0, by omega, key.mp y, no⟩
        unfold stl
        rw [lst_some hi, if_neg (by omega)]
      rw [es] at H
      exact H h (fr_rfl _ _) R
    · refine ⟨fun _ => ⟨by omega, ih (by omega) (fun j a b => ?_)⟩, fun q => absurd rfl q⟩
      by_cases d : j = i
      · subst d; exact fun q => y (key.mpr q)
      · exact no j a (by omega)
def p87 (sz sy : Int → Int) (x r d c : Int) : Prop := 1 ≤ c % 5 ∧ (c / 5 < r ∨ (c / 5 = r ∧ c % 5 - 1 < d)) ∧ c % 5 - 1 < sz (c / 5) ∧ sy (c / 5 * 4 + (c % 5 - 1)) = x
def i87 (sz sy t : Int → Int) (x r d v : Int) (f : Int → Int) : Prop := (∀ c, 0 ≤ c → c < 45 → (p87 sz sy x r d c → f c = t (c - 1)) ∧ (¬ p87 sz sy x r d c → f c = 0)) ∧ ((v = 0 ∧ ∀ c, 0 ≤ c → c < 45 → f c = 0) ∨ (v = 1 ∧ ∃ c, 0 ≤ c ∧ c < 45 ∧ ¬ f c = 0))
theorem c_87 {A : au_T} {s x : Int} {h : ab_S} {K : ab_O → ab_S → Prop} (g : GW (h 1 0) (h 7) (h 8) (h 9)) (B : AI (h 1 0) (h 8) A) (R : RC A (h 2 0) (h 12) (h 13)) (hs : 0 ≤ s ∧ s < A.1) (hx : 0 ≤ x)
    (H1 : ∀ f, mr f → (∀ i, 0 ≤ i → i < 270 → (ms f i ↔ goS (h 8) (h 9) A.2.1 s x i)) → (∃ j, 0 ≤ j ∧ j < 270 ∧ goS (h 8) (h 9) A.2.1 s x j) → K (oI 1) (upc h 14 f))
    (H0 : ∀ f, (¬ ∃ j, 0 ≤ j ∧ j < 270 ∧ goS (h 8) (h 9) A.2.1 s x j) → K (oI 0) (upc h 14 f)) : C 87 [vR 3, vI s, vI x] h K := by
  obtain ⟨⟨n0, n8⟩, gl, gs, gy, -, -⟩ := id g
  obtain ⟨rm, ri⟩ := R.2.1 s hs.1 hs.2
  have hc := B.1
  refine s_87_0 s x h K ?_
  refine c_137 (fun f hf => ?_)
  show X 87 8 [vR 3, vI s, vI x, vI 0, vI 0, vJ 0, vJ 0] [] (upc h 14 f) K
  refine lp (P := fun r => ∀ f v, i87 (h 8) (h 9) (row (h 13) s) x r 0 v f → ∀ w5 w6, X 87 8 [vR 3, vI s, vI x, vI v, vI r, w5, w6] [] (upc h 14 f) K) 0 (h 1 0 + 1) (by omega) ?_ f 0 ⟨fun c a b => ⟨fun p => absurd p.1 (by have := p.2.1; omega), fun _ => hf c a b⟩, Or.inl ⟨rfl, hf⟩⟩ _ _
  · clear hf f
    intro r r0 r1 ihr f v I w5 w6
    refine s_87_8 s x v r w5 w6 _ K ⟨fun (z : h 1 0 < r) => ⟨?_, ?_⟩, fun (z : r ≤ h 1 0) => ?_⟩
    · rcases I.2 with q | q
      · exact Or.inl q.1
      · exact Or.inr q.1
    · have hr : r = h 1 0 + 1 := by omega
      have key : ∀ i, 0 ≤ i → i < 270 → (ms f i ↔ goS (h 8) (h 9) A.2.1 s x i) := by
        intro i i0 i1
        have J := I.1 (i / 6) (by omega) (by omega)
        by_cases p : p87 (h 8) (h 9) x r 0 (i / 6)
        · obtain ⟨p1, p2, p3, p4⟩ := id p
          have i6 : 6 ≤ i := by omega
          have e1 := ri (i - 6) (by omega) (by omega)
          unfold ms at e1
          rw [show (i - 6) / 6 = i / 6 - 1 by omega, show (i - 6) % 6 = i % 6 by omega, ← J.1 p] at e1
          refine e1.trans ⟨fun y => ⟨i6, by omega, y, ?_⟩, fun y => y.2.2.1⟩
          unfold nx
          rw [show (i - 6) % 30 / 6 = i / 6 % 5 - 1 by omega, show (i - 6) / 30 = i / 6 / 5 by omega, if_pos p3]
          exact p4
        · unfold ms
          rw [J.2 p, bt_zero]
          refine ⟨fun q => absurd q (by decide), fun q => absurd ?_ p⟩
          have l := (B.2.1 s (i - 6) hs.1 hs.2 (by have := q.1; omega) (by omega) q.2.2.1).1
          obtain ⟨q1, q2, q3, q4⟩ := q
          unfold nx at q4
          by_cases c : (i - 6) % 30 / 6 < h 8 ((i - 6) / 30)
          · rw [if_pos c] at q4
            have h1 := gs ((i - 6) / 30) (by omega) l
            have e1 : (i - 6) / 30 = i / 6 / 5 := by omega
            have e2 : (i - 6) % 30 / 6 = i / 6 % 5 - 1 := by omega
            rw [e1, e2] at c q4
            exact ⟨by omega, Or.inl (by omega), c, q4⟩
          · rw [if_neg c] at q4; omega
      have rg : mr f := by
        intro c c0 c1
        have J := I.1 c c0 c1
        by_cases p : p87 (h 8) (h 9) x r 0 c
        · rw [J.1 p]; exact rm (c - 1) (by have := p.1; omega) (by omega)
        · rw [J.2 p]; decide
      rcases I.2 with ⟨e, q⟩ | ⟨e, c, c0, c1, q⟩
      · subst e
        refine H0 f ?_
        rintro ⟨j, j0, j1, y⟩
        have := (key j j0 j1).mpr y
        unfold ms at this
        rw [q _ (by omega) (by omega), bt_zero] at this
        exact absurd this (by decide)
      · subst e
        refine H1 f rg key ?_
        obtain ⟨t, t0, t1, tb⟩ := bt_ne0 (rg c c0 c1) q
        refine ⟨6 * c + t, by omega, by omega, (key _ (by omega) (by omega)).mp ?_⟩
        unfold ms
        rw [show (6 * c + t) / 6 = c by omega, show (6 * c + t) % 6 = t by omega]
        exact tb
    · have hsr := gs r r0 z
      refine lp (P := fun d => ∀ f v, i87 (h 8) (h 9) (row (h 13) s) x r d v f → ∀ w6, X 87 15 [vR 3, vI s, vI x, vI v, vI r, vI d, w6] [] (upc h 14 f) K) 0 (h 8 r) (by omega) ?_ f v I _
      clear I f v w5 w6
      intro d d0 d1 ihd f v I w6
      have skip : d < h 8 r → (h 9 (r * 4 + d) = x → h 13 (s * 45 + (r * 5 + d)) = 0) → i87 (h 8) (h 9) (row (h 13) s) x r (d + 1) v f := by
        intro hd hz
        refine ⟨fun c c0 c1 => ?_, I.2⟩
        have J := I.1 c c0 c1
        by_cases p : p87 (h 8) (h 9) x r d c
        · obtain ⟨p1, p2, p3, p4⟩ := id p
          exact ⟨fun _ => J.1 p, fun q => absurd ⟨p1, by omega, p3, p4⟩ q⟩
        · refine ⟨fun q => ?_, fun _ => J.2 p⟩
          rw [J.2 p]
          obtain ⟨q1, q2, q3, q4⟩ := id q
          have ec : c = r * 5 + (d + 1) := by
            by_cases y : c / 5 = r ∧ c % 5 - 1 = d
            · omega
            · exact absurd ⟨q1, by omega, q3, q4⟩ p
          show 0 = h 13 (s * 45 + (c - 1))
          rw [show c - 1 = r * 5 + d by omega]
          refine (hz ?_).symm
          rw [show c / 5 = r by omega, show c % 5 - 1 = d by omega] at q4
          exact q4
      refine s_87_15 s x v r d w6 _ K ⟨by omega, fun (z2 : h 8 r ≤ d) => ⟨by omega, ihr (by omega) f v ⟨fun c c0 c1 => ?_, I.2⟩ _ _⟩, fun (z2 : d < h 8 r) => ⟨by omega, fun (z3 : h 13 (s * 45 + (r * 5 + d)) = 0) => ⟨by omega, ihd z2 f v (skip z2 (fun _ => z3)) _⟩, fun (z3 : ¬ h 13 (s * 45 + (r * 5 + d)) = 0) => ⟨by omega, fun (z4 : ¬ h 9 (r * 4 + d) = x) => ⟨by omega, ihd z2 f v (skip z2 (fun y => absurd y z4)) _⟩, fun (z4 : h 9 (r * 4 + d) = x) => ⟨by omega, ?_⟩⟩⟩⟩
      · have J := I.1 c c0 c1
        have eq : p87 (h 8) (h 9) x r d c ↔ p87 (h 8) (h 9) x (r + 1) 0 c := by
          constructor
          · rintro ⟨p1, p2, p3, p4⟩; exact ⟨p1, by omega, p3, p4⟩
          · rintro ⟨p1, p2, p3, p4⟩
            refine ⟨p1, ?_, p3, p4⟩
            by_cases y : c / 5 = r
            · rw [y] at p3; exact Or.inr ⟨y, by omega⟩
            · exact Or.inl (by omega)
        rw [← eq]
        exact J
      · rw [up_upc]
        refine ihd z2 _ 1 ⟨fun c c0 c1 => ?_, Or.inr ⟨rfl, r * 5 + (d + 1), by omega, by omega, ?_⟩⟩ _
        · by_cases y : c = r * 5 + (d + 1)
          · subst y
            rw [updc_at]
            refine ⟨fun _ => ?_, fun q => absurd ⟨by omega, by omega, ?_, ?_⟩ q⟩
            · show h 13 (s * 45 + (r * 5 + d)) = h 13 (s * 45 + (r * 5 + (d + 1) - 1))
              rw [show r * 5 + (d + 1) - 1 = r * 5 + d by omega]
            · rw [show (r * 5 + (d + 1)) / 5 = r by omega]; omega
            · rw [show (r * 5 + (d + 1)) / 5 = r by omega, show (r * 5 + (d + 1)) % 5 - 1 = d by omega]
              exact z4
          · rw [updc_ne _ _ y]
            have J := I.1 c c0 c1
            refine ⟨fun q => J.1 ?_, fun q => J.2 (fun q' => q ?_)⟩
            · obtain ⟨q1, q2, q3, q4⟩ := q
              exact ⟨q1, by omega, q3, q4⟩
            · obtain ⟨q1, q2, q3, q4⟩ := q'
              exact ⟨q1, by omega, q3, q4⟩
        · rw [updc_at]; exact z3
end CBuild
