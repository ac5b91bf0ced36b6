/-! The model makes the automaton. -/
section MBuild
def fr6 (L : List Int) (h h' : ab_S) : Prop := ∀ i, ¬ i ∈ L → h' 6 i = h 6 i
theorem fr6_tr {L : List Int} {h h' h'' : ab_S} (a : fr6 L h h') (b : fr6 L h' h'') : fr6 L h h'' := fun k z => (b k z).trans (a k z)
theorem fr6_fr {L : List Int} {L' : List Nat} {h h' : ab_S} (F : fr L' h h') (d : ¬ 6 ∈ L') : fr6 L h h' := fun i _ => by rw [F 6 d]
theorem fr6_up {L : List Int} {h : ab_S} {i v : Int} (m : i ∈ L) : fr6 L h (ab_up h 6 i v) := by
  intro j z
  unfold ab_up
  rw [if_pos rfl, if_neg (fun e => z (by rw [e]; exact m))]
theorem fr6_ne {L : List Int} {h : ab_S} {k : Nat} {i v : Int} (m : ¬ k = 6) : fr6 L h (ab_up h k i v) := by
  intro j z
  unfold ab_up
  rw [if_neg (fun e => m e.symm)]
def fm (h h' : ab_S) : Prop := fr [6, 25, 26, 27, 28] h h' ∧ fr6 [7, 12] h h'
theorem fm_rfl (h : ab_S) : fm h h := ⟨fr_rfl _ _, fun _ _ => rfl⟩
theorem fm_tr {h h' h'' : ab_S} (a : fm h h') (b : fm h' h'') : fm h h'' := ⟨fr_tr a.1 b.1, fr6_tr a.2 b.2⟩
theorem fm_up {h : ab_S} {k : Nat} {i v : Int} (m : k = 25 ∨ k = 26 ∨ k = 27 ∨ k = 28) : fm h (ab_up h k i v) := by
  refine ⟨fr_up ?_, fr6_ne (by omega)⟩
  rcases m with e | e | e | e <;> subst e <;> decide
theorem fm_upc {h : ab_S} {k : Nat} {f : Int → Int} (m : k = 25 ∨ k = 26 ∨ k = 27 ∨ k = 28) : fm h (upc h k f) := by
  have h1 : k ∈ [6, 25, 26, 27, 28] := by rcases m with e | e | e | e <;> subst e <;> decide
  refine ⟨fr_upc h1, fun i _ => ?_⟩
  rw [upc_ne h f (by omega)]
theorem fm_6 {h : ab_S} {i v : Int} (m : i = 7 ∨ i = 12) : fm h (ab_up h 6 i v) := by
  refine ⟨fr_up (by decide), fr6_up ?_⟩
  rcases m with e | e <;> subst e <;> decide
theorem fm_mst (h : ab_S) (mf qf : Int → Int) (qd : Int) : fm h (mst h mf qf qd) := by
  refine ⟨fun k z => ?_, fun i z => ?_⟩
  · funext j
    have a : ¬ k = 27 := fun e => z (by rw [e]; decide)
    have b : ¬ k = 28 := fun e => z (by rw [e]; decide)
    have c : ¬ k = 6 := fun e => z (by rw [e]; decide)
    unfold mst
    rw [if_neg a, if_neg b, if_neg c]
  · have a : ¬ i = 12 := fun e => z (by rw [e]; decide)
    show (if i = 12 then qd else h 6 i) = h 6 i
    rw [if_neg a]
def ME (n : Int) (lf sz sy : Int → Int) (h : ab_S) : Prop := MG n lf sz sy (h 6 1) (h 20) (h 21) (h 22) ∧ rep (h 23) (NL n lf sz sy) ∧ BG (NL n lf sz sy) n lf sz sy (h 24)
variable {n : Int} {lf sz sy : Int → Int}
theorem ME_fm {h h' : ab_S} (e : ME n lf sz sy h) (F : fm h h') : ME n lf sz sy h' := by
  unfold ME
  rw [F.2 1 (by decide), F.1 20 (by decide), F.1 21 (by decide), F.1 22 (by decide), F.1 23 (by decide), F.1 24 (by decide)]
  exact e
def RM (A : au_T) (c : Int) (t e : Int → Int) : Prop := c = A.1 ∧ (∀ s i, 0 ≤ s → s < A.1 → 0 ≤ i → i < 270 → (t (270 * s + i) = 0 ∨ t (270 * s + i) = 1) ∧ (t (270 * s + i) = 1 ↔ A.2.1 s i)) ∧ (∀ s x, 0 ≤ s → s < A.1 → 0 ≤ x → x < 10 → e (10 * s + x) = A.2.2 (10 * s + x))
theorem rm_same {A : au_T} {c : Int} {e t d : Int → Int} {S : Int → Prop} (R : RM A c t e) (hS : ∀ i, 0 ≤ i → i < 270 → (d i = 0 ∨ d i = 1) ∧ (d i = 1 ↔ S i)) {s : Int} (hs : 0 ≤ s ∧ s < A.1) : (∀ k, 0 ≤ k → k < 270 → t (270 * s + k) = d k) ↔ same A.2.1 S s := by
  constructor
  · intro z i i0 i1
    rw [← (R.2.1 s i hs.1 hs.2 i0 i1).2, ← (hS i i0 i1).2, z i i0 i1]
  · intro z k k0 k1
    have e3 := z k k0 k1
    have a := R.2.1 s k hs.1 hs.2 k0 k1
    have b := hS k k0 k1
    rw [← a.2, ← b.2] at e3
    have a := a.1
    have b := b.1
    omega
theorem c_46 {A : au_T} {S : Int → Prop} {h : ab_S} {K : ab_O → ab_S → Prop} (hc : 0 ≤ A.1 ∧ A.1 ≤ 50) (R : RM A (h 6 7) (h 25) (h 26)) (hS : ∀ i, 0 ≤ i → i < 270 → (h 27 i = 0 ∨ h 27 i = 1) ∧ (h 27 i = 1 ↔ S i))
    (H : ∀ h', fm h h' → RM (stl A S).2 (h' 6 7) (h' 25) (h' 26) → K (oI (stl A S).1) h') : C 46 [vR 6] h K := by
  have ec : h 6 7 = A.1 := R.1
  refine s_46_0 h K ?_
  refine lp (P := fun i => (∀ j, 0 ≤ j → j < i → ¬ same A.2.1 S j) → ∀ w2 w3, X 46 2 [vR 6, vI i, w2, w3] [] h K) 0 A.1 hc.1 ?_ (fun c a b => absurd b (by omega)) _ _
  intro i i0 i1 ih no w2 w3
  refine s_46_2 i w2 w3 h K ⟨fun z => ⟨fun z2 => ?_, fun z2 => ?_⟩, fun z => ?_⟩
  · have no : ∀ j, 0 ≤ j → j < A.1 → ¬ same A.2.1 S j := fun j a b => no j a (by omega)
    have es : stl A S = (A.1, au_new A S) := by
      rcases stl_cases A S hc.1 with ⟨j, hj, e⟩ | ⟨_, ⟨c, e⟩ | ⟨c, e⟩⟩
      · exact absurd hj.2.2.1 (no j hj.1 hj.2.1)
      · omega
      · exact e
    rw [es] at H
    suffices T : X 46 48 [vR 6, vI 0, w2, w3] [] (upc h 25 (h 25)) K by rw [upc_self] at T; exact T
    refine lp (P := fun x => ∀ t : Int → Int, (∀ k, t k = if 270 * A.1 ≤ k ∧ k < 270 * A.1 + x then h 27 (k - 270 * A.1) else h 25 k) → X 46 48 [vR 6, vI x, w2, w3] [] (upc h 25 t) K) 0 270 (by decide) ?_ (h 25) (fun k => by rw [if_neg (by omega)])
    intro x x0 x1 ihx t ht
    refine s_46_48 x w2 w3 _ K ⟨fun z3 => ?_, fun z3 => ?_⟩
    · suffices T : X 46 68 [vR 6, vI 0, w2, w3] [] (upc (upc h 25 t) 26 (h 26)) K by
        have e : upc (upc h 25 t) 26 (h 26) = upc h 25 t := upc_self (upc h 25 t) 26
        rw [e] at T; exact T
      refine lp (P := fun x => ∀ e : Int → Int, (∀ k, e k = if 10 * A.1 ≤ k ∧ k < 10 * A.1 + x then -1 else h 26 k) → X 46 68 [vR 6, vI x, w2, w3] [] (upc (upc h 25 t) 26 e) K) 0 10 (by decide) ?_ (h 26) (fun k => by rw [if_neg (by omega)])
      intro y y0 y1 ihy e he
      refine s_46_68 y w2 w3 _ K ⟨fun z4 => ?_, fun z4 => ?_⟩
      · have ev : upc (upc h 25 t) 26 e 6 7 + 1 - 1 = A.1 := by show h 6 7 + 1 - 1 = A.1; omega
        rw [ev]
        refine ⟨?_, H _ (fm_tr (fm_tr (fm_upc (by omega)) (fm_upc (by omega))) (fm_6 (by omega))) ⟨?_, fun s j s0 s1 j0 j1 => ?_, fun s u s0 s1 u0 u1 => ?_⟩⟩
        · show (-2147483648 ≤ h 6 7 + 1 ∧ h 6 7 + 1 ≤ 2147483647) ∧ (-2147483648 ≤ A.1 ∧ A.1 ≤ 2147483647)
          omega
        · show h 6 7 + 1 = A.1 + 1
          omega
        · have s1 : s < A.1 + 1 := s1
          show (t (270 * s + j) = 0 ∨ t (270 * s + j) = 1) ∧ (t (270 * s + j) = 1 ↔ if s = A.1 then S j else A.2.1 s j)
          rw [ht]
          by_cases d : s = A.1
          · rw [if_pos (by omega), if_pos d, show 270 * s + j - 270 * A.1 = j by omega]
            exact hS j j0 j1
          · rw [if_neg (by omega), if_neg d]
            exact R.2.1 s j s0 (by omega) j0 j1
        · have s1 : s < A.1 + 1 := s1
          show e (10 * s + u) = if 10 * A.1 ≤ 10 * s + u ∧ 10 * s + u < 10 * A.1 + 10 then -1 else A.2.2 (10 * s + u)
          rw [he]
          by_cases d : s = A.1
          · rw [if_pos (by omega), if_pos (by omega)]
          · rw [if_neg (by omega), if_neg (by omega)]; exact R.2.2 s u s0 (by omega) u0 u1
      · show ((-2147483648 ≤ 10 * h 6 7 ∧ 10 * h 6 7 ≤ 2147483647) ∧ (0 ≤ 10 * h 6 7 + y ∧ 10 * h 6 7 + y < 500) ∧ (-2147483648 ≤ y + 1 ∧ y + 1 ≤ 2147483647)) ∧ X 46 68 [vR 6, vI (y + 1), w2, w3] [] (ab_up (upc (upc h 25 t) 26 e) 26 (10 * h 6 7 + y) (-1)) K
        refine ⟨by omega, ?_⟩
        rw [up_upc]
        refine ihy z4 _ (fun k => ?_)
        unfold updc
        rw [he k]
        by_cases d : k = 10 * h 6 7 + y
        · rw [if_pos d, if_pos (by omega)]
        · rw [if_neg d]
          by_cases d2 : 10 * A.1 ≤ k ∧ k < 10 * A.1 + y
          · rw [if_pos d2, if_pos (by omega)]
          · rw [if_neg d2, if_neg (by omega)]
    · have q := (hS x x0 z3).1
      show ((-2147483648 ≤ 270 * h 6 7 ∧ 270 * h 6 7 ≤ 2147483647) ∧ (0 ≤ 270 * h 6 7 + x ∧ 270 * h 6 7 + x < 13500) ∧ (0 ≤ x ∧ x < 270) ∧ (h 27 x = 0 ∨ h 27 x = 1) ∧ (-2147483648 ≤ x + 1 ∧ x + 1 ≤ 2147483647)) ∧ X 46 48 [vR 6, vI (x + 1), w2, w3] [] (ab_up (upc h 25 t) 25 (270 * h 6 7 + x) (h 27 x)) K
      refine ⟨by omega, ?_⟩
      rw [up_upc]
      refine ihx z3 _ (fun k => ?_)
      unfold updc
      rw [ht k]
      by_cases d : k = 270 * h 6 7 + x
      · rw [if_pos d, if_pos (by omega), show k - 270 * A.1 = x by omega]
      · rw [if_neg d]
        by_cases d2 : 270 * A.1 ≤ k ∧ k < 270 * A.1 + x
        · rw [if_pos d2, if_pos (by omega)]
        · rw [if_neg d2, if_neg (by omega)]
  · have no : ∀ j, 0 ≤ j → j < A.1 → ¬ same A.2.1 S j := fun j a b => no j a (by omega)
    have es : stl A S = (-1, A) := by
      rcases stl_cases A S hc.1 with ⟨j, hj, e⟩ | ⟨_, ⟨c, e⟩ | ⟨c, e⟩⟩
      · exact absurd hj.2.2.1 (no j hj.1 hj.2.1)
      · exact e
      · omega
    rw [es] at H
    exact H h (fm_rfl _) R
  · have key := rm_same R hS (s := i) ⟨i0, by omega⟩
    refine lp (P := fun x => ∀ v : Int, ((v = 1 ∧ ∀ k, 0 ≤ k → k < x → h 25 (270 * i + k) = h 27 k) ∨ (v = 0 ∧ ¬ ∀ k, 0 ≤ k → k < 270 → h 25 (270 * i + k) = h 27 k)) → X 46 10 [vR 6, vI i, vI v, vI x] [] h K) 0 270 (by decide) ?_ 1 (Or.inl ⟨rfl, fun k a b => absurd b (by omega)⟩)
    intro x x0 x1 ihx v hv
    refine s_46_10 i v x h K ⟨fun z2 => ⟨fun z3 => ⟨by omega, ?_⟩, fun z3 => ?_⟩, fun z2 => ⟨fun z3 => ⟨by omega, ihx z2 0 ?_⟩, fun z3 => ⟨by omega, fun z4 => ⟨by omega, ihx z2 0 (Or.inr ⟨rfl, fun q => z4 (q x x0 z2)⟩)⟩, fun z4 => ⟨by omega, ihx z2 1 ?_⟩⟩⟩⟩
    · rcases hv with ⟨e, q⟩ | ⟨e, q⟩
      · omega
      · refine ih (by omega) (fun j a b => ?_) _ _
        by_cases d : j = i
        · subst d; exact fun y => q (key.mpr y)
        · exact no j a (by omega)
    · rcases hv with ⟨e, q⟩ | ⟨e, q⟩
      · have es : stl A S = (i, A) := by
          have hi : isL (same A.2.1 S) A.1 i := ⟨i0, by omega, key.mp (fun k a b => q k a (by omega)), no⟩
          unfold stl
          rw [lst_some hi, if_neg (by omega)]
        rw [es] at H
        exact H h (fm_rfl _) R
      · omega
    · rcases hv with ⟨e, q⟩ | ⟨e, q⟩
      · omega
      · exact Or.inr ⟨rfl, q⟩
    · rcases hv with ⟨e, q⟩ | ⟨e, q⟩
      · refine Or.inl ⟨rfl, fun k a b => ?_⟩
        by_cases d : k = x
        · subst d; exact z4
        · exact q k a (by omega)
      · omega
theorem rm_put {A : au_T} {c s x v : Int} {e t : Int → Int} (R : RM A c t e) : RM (au_put A (10 * s + x) v) c t (updc e (10 * s + x) v) := by
  refine ⟨R.1, R.2.1, fun s' x' a1 a2 a3 a4 => ?_⟩
  show updc e (10 * s + x) v (10 * s' + x') = updc A.2.2 (10 * s + x) v (10 * s' + x')
  unfold updc
  rw [R.2.2 s' x' a1 a2 a3 a4]
theorem c_47 {A : au_T} {s x : Int} {h : ab_S} {K : ab_O → ab_S → Prop} (g : GW n lf sz sy) (M : ME n lf sz sy h) (I : BI n sz A s) (hs : 0 ≤ s ∧ s < A.1) (hx : 0 ≤ x ∧ x < 10) (R : RM A (h 6 7) (h 25) (h 26))
    (H1 : ∀ B h', goF n lf sz sy A s x = some B → fm h h' → RM B (h' 6 7) (h' 25) (h' 26) → K (oI 1) h')
    (H0 : goF n lf sz sy A s x = none → ∀ h', fm h h' → K (oI 0) h') : C 47 [vR 6, vI s, vI x] h K := by
  obtain ⟨mg, hN, hB⟩ := M
  have hc := I.1.1
  refine s_47_0 s x h K ?_
  refine c_44 (fun mf hmf => ?_)
  show X 47 4 [vR 6, vI s, vI x, vI 0, vJ 0, vJ 0] [] (mst h mf (h 28) 0) K
  refine lp (P := fun i => ∀ mf qf qd, QI n sz mf qf qd → (∀ j, 0 ≤ j → j < 270 → (mf j = 1 ↔ (goS sz sy A.2.1 s x j ∧ j - 6 < i))) → ∀ w4 w5, X 47 4 [vR 6, vI s, vI x, vI i, w4, w5] [] (mst h mf qf qd) K) 0 270 (by decide) ?_ mf (h 28) 0 (QI_zero hmf) (fun j a b => ?_) _ _
  · clear hmf mf
    intro i i0 i1 ih mf qf qd Q hm w4 w5
    have skip : ¬ goS sz sy A.2.1 s x (i + 6) → ∀ j, 0 ≤ j → j < 270 → (mf j = 1 ↔ (goS sz sy A.2.1 s x j ∧ j - 6 < i + 1)) := by
      intro q j a b
      rw [hm j a b]
      constructor
      · rintro ⟨c, d⟩; exact ⟨c, by omega⟩
      · rintro ⟨c, d⟩
        by_cases e : j = i + 6
        · subst e; exact absurd c q
        · exact ⟨c, by omega⟩
    refine s_47_4 s x i w4 w5 _ K ⟨fun z => ⟨fun (z2 : ¬ qd = 0) => ?_, fun (z2 : qd = 0) => ?_⟩, fun z => ⟨by omega, fun (z2 : h 25 (270 * s + i) = 0) => ⟨by omega, ih z mf qf qd Q (skip (fun q => ?_)) _ _⟩, fun (z2 : ¬ h 25 (270 * s + i) = 0) => ?_⟩⟩
    · have hm : ∀ j, 0 ≤ j → j < 270 → (mf j = 1 ↔ goS sz sy A.2.1 s x j) := fun j a b => (hm j a b).trans ⟨fun q => q.1, fun q => ⟨q, by omega⟩⟩
      have ex : ∃ j, 0 ≤ j ∧ j < 270 ∧ goS sz sy A.2.1 s x j := by
        have := Q.2.2.1 0 (by omega) (by have := Q.1; omega)
        exact ⟨qf 0, this.1.1, this.1.2, (hm _ this.1.1 this.1.2).mp this.2⟩
      refine c_45 g mg hN hB Q hm (fun mf' qf' qd' Q' hm' => ⟨by omega, ?_⟩)
      refine c_46 (h := mst h mf' qf' qd') hc R (fun i a b => ⟨Q'.2.1 i a b, hm' i a b⟩) (fun h6 F6 R6 => ⟨by omega, ?_⟩)
      have F7 : fm h h6 := fm_tr (fm_mst _ _ _ _) F6
      have eg : goF n lf sz sy A s x = if (stl A (CL n lf sz sy (goS sz sy A.2.1 s x))).1 = -1 then none else some (au_put (stl A (CL n lf sz sy (goS sz sy A.2.1 s x))).2 (10 * s + x) (stl A (CL n lf sz sy (goS sz sy A.2.1 s x))).1) := cif_pos ex _ _
      have ev : ∀ v, ab_up h6 26 (10 * s + x) v 26 (10 * s + x) = v := by
        intro v
        rw [up_c, upc_at, updc_at]
      rw [ev]
      refine ⟨fun z3 => ?_, fun z3 => ?_⟩
      · rw [if_pos z3] at eg
        exact H0 eg _ (fm_tr F7 (fm_up (by omega)))
      · rw [if_neg z3] at eg
        refine H1 _ _ eg (fm_tr F7 (fm_up (by omega))) ?_
        rw [up_c]
        exact rm_put R6
    · have nex : ¬ ∃ j, 0 ≤ j ∧ j < 270 ∧ goS sz sy A.2.1 s x j := by
        rintro ⟨j, a, b, c⟩
        have := (hm j a b).mpr ⟨c, by omega⟩
        obtain ⟨_, k, k0, k1, _⟩ := Q.2.2.2.1 j a b this
        omega
      exact H1 A _ (cif_neg nex _ _) (fm_mst _ _ _ _) R
    · have := (R.2.1 s i hs.1 hs.2 i0 z).2.mpr (by have := q.2.2.1; rw [show i + 6 - 6 = i by omega] at this; exact this)
      omega
    · have hI : A.2.1 s i := by
        have := R.2.1 s i hs.1 hs.2 i0 z
        have a := this.1
        exact this.2.mp (by omega)
      have hl := I.1.2.1 s i hs.1 hs.2 i0 z hI
      have hr : 0 ≤ i / 30 ∧ i / 30 ≤ n := ⟨by omega, hl.1⟩
      have enx : nxt (mst h mf qf qd) (i / 30) (i % 30 / 6) = nx sz sy i := mg_nx g mg hr (by omega)
      rw [enx]
      refine ⟨⟨hr.1, mg_pre g mg hr, by omega⟩, fun z3 => ⟨by omega, ih z mf qf qd Q (skip (fun q => ?_)) _ _⟩, fun z3 => ?_⟩
      · have := q.2.2.2
        rw [show i + 6 - 6 = i by omega] at this
        exact z3 this
      · have gs6 : goS sz sy A.2.1 s x (i + 6) := by
          refine ⟨by omega, by omega, ?_, ?_⟩
          · rw [show i + 6 - 6 = i by omega]; exact hI
          · rw [show i + 6 - 6 = i by omega]; exact z3
        have l6 := goS_lg g I.1 hs hx.1 gs6
        refine ⟨by omega, fun (z4 : mf (i + 6) = 0) => ?_, fun (z4 : ¬ mf (i + 6) = 0) => ⟨by omega, ih z mf qf qd Q (fun j a b => ?_) _ _⟩⟩
        · have q2 := QI_lt Q (by omega) l6.1 z4
          have q1 := Q.1
          refine ⟨⟨⟨q1, q2⟩, ?_, by omega⟩, ?_⟩
          · show -2147483648 ≤ qd + 1 ∧ qd + 1 ≤ 2147483647
            omega
          show X 47 4 _ _ (ab_up (ab_up (ab_up (mst h mf qf qd) 27 (i + 6) 1) 28 qd (i + 6)) 6 12 (qd + 1)) K
          rw [mst_add]
          refine ih z _ _ _ (QI_add Q (by omega) l6.1 z4 l6.2) (fun j a b => ?_) _ _
          by_cases d : j = i + 6
          · subst d; rw [updc_at]; exact ⟨fun _ => ⟨gs6, by omega⟩, fun _ => rfl⟩
          · rw [updc_ne _ _ d, hm j a b]
            exact ⟨fun q => ⟨q.1, by omega⟩, fun q => ⟨q.1, by omega⟩⟩
        · rw [hm j a b]
          refine ⟨fun q => ⟨q.1, by omega⟩, fun q => ⟨q.1, ?_⟩⟩
          by_cases d : j = i + 6
          · have := Q.2.1 j a b
            rw [d] at this
            have := (hm j a b).mp (by rw [d]; omega)
            exact this.2
          · omega
  · have := hmf j a b
    constructor
    · intro q; omega
    · intro q; have := q.1.1; omega
/-- how many rules are through at an item -/
def bdm (sz : Int → Int) (i a : Int) : Int := if i % 30 = 0 then i / 30 else if 6 * sz (i / 30) + (a - 4) < i % 30 then i / 30 + 1 else i / 30
theorem bdm_0 {i a : Int} (ha : 4 ≤ a ∧ a ≤ 9) (hs : 0 ≤ sz (i / 30) ∧ sz (i / 30) ≤ 4) (c : ¬ (i % 30 / 6 = sz (i / 30) ∧ a = i % 6 + 4)) : bdm sz (i + 1) a = bdm sz i a := by
  unfold bdm
  by_cases d : (i + 1) % 30 = 0
  · rw [if_pos d, if_neg (by omega), if_pos (by omega)]
    omega
  · rw [if_neg d, show (i + 1) / 30 = i / 30 by omega, show (i + 1) % 30 = i % 30 + 1 by omega]
    by_cases e : i % 30 = 0
    · rw [if_pos e, if_neg (by omega)]
    · rw [if_neg e]
      by_cases f : 6 * sz (i / 30) + (a - 4) < i % 30
      · rw [if_pos f, if_pos (by omega)]
      · rw [if_neg f, if_neg (by omega)]
theorem bdm_1 {i : Int} (hs : 0 ≤ sz (i / 30) ∧ sz (i / 30) ≤ 4) (c : i % 30 / 6 = sz (i / 30)) : bdm sz i (i % 6 + 4) = i / 30 ∧ bdm sz (i + 1) (i % 6 + 4) = i / 30 + 1 := by
  unfold bdm
  constructor
  · by_cases e : i % 30 = 0
    · rw [if_pos e]
    · rw [if_neg e, if_neg (by omega)]
  · by_cases d : (i + 1) % 30 = 0
    · rw [if_pos d]; omega
    · rw [if_neg d, show (i + 1) / 30 = i / 30 by omega, show (i + 1) % 30 = i % 30 + 1 by omega, if_pos (by omega)]
theorem c_48 {A : au_T} {s : Int} {h : ab_S} {K : ab_O → ab_S → Prop} (g : GW n lf sz sy) (M : ME n lf sz sy h) (I : BI n sz A s) (hs : 0 ≤ s ∧ s < A.1) (R : RM A (h 6 7) (h 25) (h 26))
    (H1 : ∀ B h', endF n sz A s = some B → fm h h' → RM B (h' 6 7) (h' 25) (h' 26) → K (oI 1) h')
    (H0 : endF n sz A s = none → ∀ h', fm h h' → K (oI 0) h') : C 48 [vR 6, vI s] h K := by
  obtain ⟨mg, hN, hB⟩ := M
  obtain ⟨⟨n0, n8⟩, gl, gs, gy, -, -⟩ := id g
  have en : h 6 1 = n := mg.1
  have hc := I.1.1
  refine s_48_0 s h K ?_
  suffices T : X 48 4 [vR 6, vI s, vI 1, vI 0, vJ 0, vJ 0, vJ 0] [] (upc h 26 (h 26)) K by rw [upc_self] at T; exact T
  refine lp (P := fun i => ∀ (e : Int → Int) (v : Int), ((v = 1 ∧ eI n sz A s (bdm sz i) (fun a => e (10 * s + a)) ∧ (∀ k, ¬ (4 ≤ k - 10 * s ∧ k - 10 * s ≤ 9) → e k = h 26 k)) ∨ (v = 0 ∧ conf n sz A s)) → ∀ w4 w5 w6, X 48 4 [vR 6, vI s, vI v, vI i, w4, w5, w6] [] (upc h 26 e) K) 0 (30 * (n + 1)) (by omega) ?_ (h 26) 1 (Or.inl ⟨rfl, fun a a0 a1 => ⟨fun r r0 r1 => absurd (show r < 0 from r1) (by omega), fun _ => R.2.2 s a hs.1 hs.2 (by omega) (by omega)⟩, fun _ _ => rfl⟩) _ _ _
  intro i i0 i1 ih e v hv w4 w5 w6
  have e67 : upc h 26 e 6 1 = n := en
  refine s_48_4 s v i w4 w5 w6 _ K ?_
  rw [e67]
  refine ⟨by omega, fun z => ⟨by omega, ?_⟩, fun z => ⟨by omega, fun (z2 : h 25 (270 * s + i) = 0) => ⟨by omega, ih z e v ?_ _ _ _⟩, fun (z2 : ¬ h 25 (270 * s + i) = 0) => ?_⟩⟩
  · have ei : i = 30 * (n + 1) := by omega
    rcases hv with ⟨ev, E, Eo⟩ | ⟨ev, c⟩
    · rw [ev]
      obtain ⟨e1, e2⟩ := eI_end E (fun a _ _ => by unfold bdm; rw [if_pos (by omega)]; omega)
      refine H1 _ _ (endF_some e1) (fm_upc (by omega)) ⟨R.1, R.2.1, fun s' x a1 a2 a3 a4 => ?_⟩
      show e (10 * s' + x) = redE n sz A s (10 * s' + x)
      by_cases c : s' = s ∧ 4 ≤ x
      · obtain ⟨c1, c2⟩ := c
        rw [c1]
        exact e2 x c2 (by omega)
      · rw [Eo _ (by omega)]
        unfold redE
        rw [if_neg (by omega)]
        exact R.2.2 s' x a1 a2 a3 a4
    · rw [ev]; exact H0 (endF_none c) _ (fm_upc (by omega))
  · have hr := gs (i / 30) (by omega) (by omega)
    rcases hv with ⟨ev, E, Eo⟩ | q
    · refine Or.inl ⟨ev, ?_, Eo⟩
      have nI : ¬ A.2.1 s i := by
        intro q
        have := (R.2.1 s i hs.1 hs.2 i0 (by omega)).2.mpr q
        omega
      by_cases c : i % 30 / 6 = sz (i / 30)
      · have b := bdm_1 hr c
        refine eI_skip (a := i % 6 + 4) (r := i / 30) E b.1 ?_ b.2 (fun a' b0 b1 b2 => bdm_0 ⟨b0, b1⟩ hr (fun q => b2 q.2))
        unfold dueP
        rw [show 30 * (i / 30) + 6 * sz (i / 30) + (i % 6 + 4 - 4) = i by omega]
        exact nI
      · exact eI_congr E (fun a b0 b1 => bdm_0 ⟨b0, b1⟩ hr (fun q => c q.1))
    · exact Or.inr q
  · have hI : A.2.1 s i := by
      have := R.2.1 s i hs.1 hs.2 i0 (by omega)
      have a := this.1
      exact this.2.mp (by omega)
    have hl := I.1.2.1 s i hs.1 hs.2 i0 (by omega) hI
    have hr : 0 ≤ i / 30 ∧ i / 30 ≤ n := ⟨by omega, hl.1⟩
    have hsz := gs _ hr.1 hr.2
    have enx : nxt (upc h 26 e) (i / 30) (i % 30 / 6) = nx sz sy i := mg_nx g mg hr (by omega)
    rw [enx]
    have ex : upc h 26 e 26 (10 * s + (i % 6 + 4)) = e (10 * s + (i % 6 + 4)) := by rw [upc_at]
    rw [ex]
    have fwd : nx sz sy i = -1 → ∀ v' w4 w5 w6, (v' = 0 → conf n sz A s) → (v' = 1 → v = 1 ∧ e (10 * s + (i % 6 + 4)) = -1) → (v' = 0 ∨ v' = 1) → ∀ u, u = due n (i / 30) → X 48 4 [vR 6, vI s, vI v', vI (i + 1), w4, w5, w6] [] (ab_up (upc h 26 e) 26 (10 * s + (i % 6 + 4)) u) K := by
      intro z3 v' w4 w5 w6 h0 h1 h01 u hu
      have hd : i % 30 / 6 = sz (i / 30) := by
        have l2 := hl.2
        unfold nx at z3
        by_cases c : i % 30 / 6 < sz (i / 30)
        · rw [if_pos c] at z3
          have := gy (i / 30) (i % 30 / 6) hr.1 hr.2 (by omega) c
          omega
        · omega
      have d : dueP sz A.2.1 s (i % 6 + 4) (i / 30) := by
        unfold dueP
        rw [show 30 * (i / 30) + 6 * sz (i / 30) + (i % 6 + 4 - 4) = i by omega]
        exact hI
      rw [up_upc]
      refine ih z _ v' ?_ _ _ _
      rcases h01 with q | q
      · exact Or.inr ⟨q, h0 q⟩
      · obtain ⟨q1, q2⟩ := h1 q
        rcases hv with ⟨ev, E, Eo⟩ | ⟨ev, _⟩
        · have b := bdm_1 hsz hd
          refine Or.inl ⟨q, eI_step (a := i % 6 + 4) (r := i / 30) E ⟨by omega, by omega⟩ hr b.1 d q2 b.2 (fun a' b0 b1 b2 => bdm_0 ⟨b0, b1⟩ hsz (fun q => b2 q.2)) ?_ (fun a' b0 b1 b2 => updc_ne _ _ (by omega)), fun k hk => ?_⟩
          · show updc e (10 * s + (i % 6 + 4)) u (10 * s + (i % 6 + 4)) = _
            rw [updc_at]; exact hu
          · rw [updc_ne _ _ (by omega)]; exact Eo k hk
        · omega
    -- what is put there when something stands there
    have cf : nx sz sy i = -1 → ¬ e (10 * s + (i % 6 + 4)) = -1 → conf n sz A s ∧ (v = 1 → ¬ e (10 * s + (i % 6 + 4)) = due n (i / 30)) := by
      intro z3 z4
      have hd : i % 30 / 6 = sz (i / 30) := by
        have l2 := hl.2
        unfold nx at z3
        by_cases c : i % 30 / 6 < sz (i / 30)
        · rw [if_pos c] at z3
          have := gy (i / 30) (i % 30 / 6) hr.1 hr.2 (by omega) c
          omega
        · omega
      have d : dueP sz A.2.1 s (i % 6 + 4) (i / 30) := by
        unfold dueP
        rw [show 30 * (i / 30) + 6 * sz (i / 30) + (i % 6 + 4 - 4) = i by omega]
        exact hI
      rcases hv with ⟨ev, E, Eo⟩ | ⟨ev, c⟩
      · have b := bdm_1 hsz hd
        refine ⟨eI_conf (a := i % 6 + 4) (r := i / 30) E ⟨by omega, by omega⟩ hr b.1 d z4, fun _ q => ?_⟩
        have Ea := E (i % 6 + 4) (by omega) (by omega)
        by_cases y : ∃ r', 0 ≤ r' ∧ r' < i / 30 ∧ dueP sz A.2.1 s (i % 6 + 4) r'
        · obtain ⟨r', y0, y1, y2⟩ := y
          have := (Ea.1 r' y0 (by rw [b.1]; exact y1) y2).1
          exact due_inj n8 hr ⟨y0, y1⟩ (this.symm.trans q)
        · have := Ea.2 (fun r' r0 r1 d' => y ⟨r', r0, by rw [b.1] at r1; exact r1, d'⟩)
          have lt := I.2 s (i % 6 + 4) (by omega) hs.1 hs.2 (by omega) (by omega)
          rw [← this] at lt
          have : 100 ≤ due n (i / 30) := by unfold due; split <;> omega
          have : (fun a => e (10 * s + a)) (i % 6 + 4) = e (10 * s + (i % 6 + 4)) := rfl
          omega
      · exact ⟨c, fun q => by omega⟩
    have v01 : v = 0 ∨ v = 1 := by
      rcases hv with q | q
      · exact Or.inr q.1
      · exact Or.inl q.1
    have v0c : v = 0 → conf n sz A s := by
      intro q
      rcases hv with ⟨q2, _⟩ | ⟨_, c⟩
      · omega
      · exact c
    have pre : i / 30 = n ∨ i / 30 < 8 ∧ upc h 26 e 21 (i / 30) ≤ 4 := by
      have := mg_pre (h := upc h 26 e) g mg hr
      rw [e67] at this
      exact this
    refine ⟨⟨by omega, hr.1, pre, by omega⟩, fun z3 => ⟨fun z4 => ⟨by omega, ?_⟩, fun z4 => ?_⟩, fun z3 => ⟨by omega, ih z e v ?_ _ _ _⟩⟩
    · have hu : 100 + i / 30 = due n (i / 30) := by unfold due; rw [if_neg z4]
      refine ⟨fun z5 => ⟨by omega, fwd z3 0 _ _ _ (fun _ => v0c z5) (fun q => absurd q (by decide)) (Or.inl rfl) _ hu⟩, fun z5 => ⟨by omega, fun z6 => ⟨by omega, fwd z3 1 _ _ _ (fun q => absurd q (by decide)) (fun _ => ⟨by omega, z6⟩) (Or.inr rfl) _ hu⟩, fun z6 => ⟨fun z7 => ⟨by omega, fwd z3 0 _ _ _ (fun _ => (cf z3 z6).1) (fun q => absurd q (by decide)) (Or.inl rfl) _ hu⟩, fun z7 => absurd (z7.trans hu) ((cf z3 z6).2 (by omega))⟩⟩⟩
    · have hu : 200 = due n (i / 30) := by unfold due; rw [if_pos z4]
      refine ⟨fun z5 => ⟨by omega, fwd z3 0 _ _ _ (fun _ => v0c z5) (fun q => absurd q (by decide)) (Or.inl rfl) _ hu⟩, fun z5 => ⟨by omega, fun z6 => ⟨by omega, fwd z3 1 _ _ _ (fun q => absurd q (by decide)) (fun _ => ⟨by omega, z6⟩) (Or.inr rfl) _ hu⟩, fun z6 => ⟨fun z7 => ⟨by omega, fwd z3 0 _ _ _ (fun _ => (cf z3 z6).1) (fun q => absurd q (by decide)) (Or.inl rfl) _ hu⟩, fun z7 => absurd (z7.trans hu) ((cf z3 z6).2 (by omega))⟩⟩⟩
    · rcases hv with ⟨ev, E, Eo⟩ | q
      · refine Or.inl ⟨ev, eI_congr E (fun a b0 b1 => bdm_0 ⟨b0, b1⟩ hsz (fun q => z3 ?_)), Eo⟩
        unfold nx
        rw [if_neg (by have := q.1; omega)]
      · exact Or.inr q
end MBuild
