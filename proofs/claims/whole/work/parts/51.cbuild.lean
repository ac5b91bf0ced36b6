/-! The program makes the automaton: the whole of it. -/
section CBuild2
def GE (n : Int) (lf sz sy : Int → Int) (h : ab_S) : Prop := h 1 0 = n ∧ h 7 = lf ∧ h 8 = sz ∧ h 9 = sy
variable {n : Int} {lf sz sy : Int → Int}
theorem GE_fr {L : List Nat} {h h' : ab_S} (e : GE n lf sz sy h) (F : fr L h h') (a : ¬ 1 ∈ L) (b : ¬ 7 ∈ L) (c : ¬ 8 ∈ L) (d : ¬ 9 ∈ L) : GE n lf sz sy h' := by
  unfold GE
  rw [F 1 a, F 7 b, F 8 c, F 9 d]
  exact e
theorem LN_fr {L : List Nat} {h h' : ab_S} (e : LN h) (F : fr L h h') (a : ¬ 1 ∈ L) (b : ¬ 7 ∈ L) (c : ¬ 8 ∈ L) (d : ¬ 9 ∈ L) (a2 : ¬ 10 ∈ L) (b2 : ¬ 11 ∈ L) : LN h' := by
  unfold LN
  rw [F 1 a, F 7 b, F 8 c, F 9 d, F 10 a2, F 11 b2]
  exact e
theorem gosF_s {A B : au_T} {s x : Int} (hx : 0 ≤ x) (e : gosF n lf sz sy A s x.toNat = some B) : gosF n lf sz sy A s (x + 1).toNat = goF n lf sz sy B s x := by
  rw [show (x + 1).toNat = x.toNat + 1 by omega]
  show (gosF n lf sz sy A s x.toNat).bind _ = _
  rw [e]
  show goF n lf sz sy B s ((x.toNat : Nat) : Int) = _
  rw [show ((x.toNat : Nat) : Int) = x by omega]
theorem rc_put {A : au_T} {c s x v : Int} {e t : Int → Int} (R : RC A c e t) (hx : 0 ≤ x ∧ x < 10) : RC (au_put A (10 * s + x) v) c (updc e (s * 10 + x) v) t := by
  refine ⟨R.1, R.2.1, fun s' x' a1 a2 a3 a4 => ?_⟩
  show updc e (s * 10 + x) v (s' * 10 + x') = updc A.2.2 (10 * s + x) v (10 * s' + x')
  by_cases d : s' * 10 + x' = s * 10 + x
  · rw [d, show 10 * s' + x' = 10 * s + x by omega, updc_at, updc_at]
  · rw [updc_ne _ _ d, updc_ne _ _ (by omega)]
    exact R.2.2 s' x' a1 a2 a3 a4
theorem c_86 {A : au_T} {s : Int} {h : ab_S} {K : ab_O → ab_S → Prop} (G : GE n lf sz sy h) (g : GW n lf sz sy) (L : LN h) (I : BI n sz A s) (hs : 0 ≤ s ∧ s < A.1) (R : RC A (h 2 0) (h 12) (h 13))
    (H1 : ∀ B h', gosF n lf sz sy A s 9 = some B → fr [2, 12, 13, 14] h h' → RC B (h' 2 0) (h' 12) (h' 13) → K (oI 1) h')
    (H0 : gosF n lf sz sy A s 9 = none → ∀ h', fr [2, 12, 13, 14] h h' → K (oI 0) h') : C 86 [vR 3, vI s] h K := by
  refine s_86_0 s h K ?_
  refine lp (P := fun x => ∀ B h', gosF n lf sz sy A s x.toNat = some B → fr [2, 12, 13, 14] h h' → RC B (h' 2 0) (h' 12) (h' 13) → ∀ w, X 86 2 [vR 3, vI s, vI x, w] [] h' K) 0 9 (by decide) ?_ A h rfl (fr_rfl _ _) R _
  clear R
  intro x x0 x1 ih B h' eB F R w
  have G' := GE_fr G F (by decide) (by decide) (by decide) (by decide)
  have L' : LN h' := LN_fr L F (by decide) (by decide) (by decide) (by decide) (by decide) (by decide)
  obtain ⟨J, jc⟩ := gosF_BI g I hs eB
  have hsB : 0 ≤ s ∧ s < B.1 := ⟨hs.1, by omega⟩
  have hc := J.1.1
  clear G L
  obtain ⟨rfl, rfl, rfl, rfl⟩ := G'
  refine s_86_2 s x w h' K ⟨fun z => ?_, fun z => ?_⟩
  · have e : x = 9 := by omega
    subst e
    exact H1 B h' eB F R
  have eg := gosF_s x0 eB
  refine c_87 g J.1 R hsB x0 (fun f mf hf ex => ?_) (fun f nex => ?_)
  · refine ⟨fun q => absurd q (by decide), fun _ => ?_⟩
    refine c_88 (h := upc h' 14 f) g L' mf (fun f' mf' hf' => ?_)
    have hS : ∀ i, 0 ≤ i → i < 270 → (ms f' i ↔ CL (h' 1 0) (h' 7) (h' 8) (h' 9) (goS (h' 8) (h' 9) B.2.1 s x) i) := by
      intro i i0 i1
      rw [← CL_congr hf]
      exact hf' i i0 i1
    refine c_84 (h := upc (upc h' 14 f) 14 f') hc R mf' hS (fun h6 F6 R6 => ?_)
    have F7 : fr [2, 12, 13, 14] h h6 := fr_tr F (fr_tr (fr_tr (fr_upc (by decide)) (fr_upc (by decide))) (fr_sub F6 (by decide)))
    unfold goF at eg
    rw [cif_pos ex] at eg
    have sb := stl_BI (S := CL (h' 1 0) (h' 7) (h' 8) (h' 9) (goS (h' 8) (h' 9) B.2.1 s x)) J (fun i a b z => CL_lg g (fun j a b z => (goS_lg g J.1 hsB x0 z).2) z)
    refine ⟨fun z3 => ⟨by omega, ?_⟩, fun z3 => ?_⟩
    · rw [if_neg (by omega)] at eg
      refine ih z _ _ eg (fr_tr F7 (fr_up (by decide))) ?_ _
      rw [up_c]
      exact rc_put R6 ⟨x0, by omega⟩
    · rw [if_pos (by omega)] at eg
      exact H0 (gosF_none eg (by omega)) h6 F7
  · refine ⟨fun _ => ⟨by omega, ?_⟩, fun q => absurd rfl q⟩
    unfold goF at eg
    rw [cif_neg nex] at eg
    exact ih z _ (upc h' 14 f) eg (fr_tr F (fr_upc (by decide))) R _
/-- where the putting of the ends stands -/
def eI (n : Int) (sz : Int → Int) (A : au_T) (s : Int) (bd v : Int → Int) : Prop := ∀ a, 4 ≤ a → a ≤ 9 → (∀ r, 0 ≤ r → r < bd a → dueP sz A.2.1 s a r → v a = due n r ∧ A.2.2 (10 * s + a) = -1 ∧ ∀ r', 0 ≤ r' → r' < r → ¬ dueP sz A.2.1 s a r') ∧ ((∀ r, 0 ≤ r → r < bd a → ¬ dueP sz A.2.1 s a r) → v a = A.2.2 (10 * s + a))
theorem due_ne {r : Int} (hr : 0 ≤ r) : ¬ due n r = -1 := by
  unfold due
  split <;> omega
theorem due_inj {r r' : Int} (hn : n ≤ 8) (hr : 0 ≤ r ∧ r ≤ n) (hr' : 0 ≤ r' ∧ r' < r) : ¬ due n r' = due n r := by
  unfold due
  split <;> split <;> omega
theorem eI_end {A : au_T} {s : Int} {bd v : Int → Int} (e : eI n sz A s bd v) (hb : ∀ a, 4 ≤ a → a ≤ 9 → bd a = n + 1) : ¬ conf n sz A s ∧ ∀ a, 4 ≤ a → a ≤ 9 → v a = redE n sz A s (10 * s + a) := by
  constructor
  · rintro ⟨a, r, a0, a1, r0, r1, d, o⟩
    have b := hb a a0 a1
    obtain ⟨e1, e2, e3⟩ := (e a a0 a1).1 r r0 (by omega) d
    rcases o with o | ⟨r', o0, o1, o2⟩
    · exact o e2
    · exact e3 r' o0 o1 o2
  · intro a a0 a1
    have b := hb a a0 a1
    unfold redE
    rw [show 10 * s + a - 10 * s = a by omega]
    by_cases c : lst (dueP sz A.2.1 s a) (n + 1) = -1
    · rw [if_neg (fun q => q.2.2 c)]
      refine (e a a0 a1).2 (fun r r0 r1 d => ?_)
      have := lst_ex (N := n + 1) r0 (by omega) d
      rw [c] at this
      have := this.1
      omega
    · rw [if_pos ⟨a0, a1, c⟩]
      have := lst_in c
      exact ((e a a0 a1).1 _ this.1 (by have := this.2.1; omega) this.2.2.1).1
theorem eI_conf {A : au_T} {s a r : Int} {bd v : Int → Int} (e : eI n sz A s bd v) (ha : 4 ≤ a ∧ a ≤ 9) (hr : 0 ≤ r ∧ r ≤ n) (hb : bd a = r) (d : dueP sz A.2.1 s a r) (hv : ¬ v a = -1) : conf n sz A s := by
  by_cases c : ∃ r', 0 ≤ r' ∧ r' < r ∧ dueP sz A.2.1 s a r'
  · exact ⟨a, r, ha.1, ha.2, hr.1, hr.2, d, Or.inr c⟩
  · have := (e a ha.1 ha.2).2 (fun r' r0 r1 d' => c ⟨r', r0, by omega, d'⟩)
    exact ⟨a, r, ha.1, ha.2, hr.1, hr.2, d, Or.inl (by rw [← this]; exact hv)⟩
theorem eI_step {A : au_T} {s a r : Int} {bd bd' v v' : Int → Int} (e : eI n sz A s bd v) (ha : 4 ≤ a ∧ a ≤ 9) (hr : 0 ≤ r ∧ r ≤ n) (hb : bd a = r) (d : dueP sz A.2.1 s a r) (hv : v a = -1) (hb' : bd' a = r + 1) (hb2 : ∀ a', 4 ≤ a' → a' ≤ 9 → ¬ a' = a → bd' a' = bd a') (hv' : v' a = due n r) (hv2 : ∀ a', 4 ≤ a' → a' ≤ 9 → ¬ a' = a → v' a' = v a') : eI n sz A s bd' v' := by
  intro a' a0 a1
  by_cases c : a' = a
  · subst c
    have no : ∀ r', 0 ≤ r' → r' < r → ¬ dueP sz A.2.1 s a' r' := by
      intro r' r0 r1 d'
      have := ((e a' a0 a1).1 r' r0 (by omega) d').1
      exact due_ne (n := n) r0 (by omega)
    have ev := (e a' a0 a1).2 (fun r' r0 r1 => no r' r0 (by omega))
    refine ⟨fun r' r0 r1 d' => ?_, fun q => absurd d (q r hr.1 (by omega))⟩
    by_cases f : r' = r
    · subst f; exact ⟨hv', by omega, no⟩
    · exact absurd d' (no r' r0 (by omega))
  · rw [hb2 a' a0 a1 c, hv2 a' a0 a1 c]
    exact e a' a0 a1
theorem eI_skip {A : au_T} {s a r : Int} {bd bd' v : Int → Int} (e : eI n sz A s bd v) (hb : bd a = r) (d : ¬ dueP sz A.2.1 s a r) (hb' : bd' a = r + 1) (hb2 : ∀ a', 4 ≤ a' → a' ≤ 9 → ¬ a' = a → bd' a' = bd a') : eI n sz A s bd' v := by
  intro a' a0 a1
  by_cases c : a' = a
  · subst c
    refine ⟨fun r' r0 r1 d' => ?_, fun q => (e a' a0 a1).2 (fun r' r0 r1 => q r' r0 (by omega))⟩
    by_cases f : r' = r
    · subst f; exact absurd d' d
    · exact (e a' a0 a1).1 r' r0 (by omega) d'
  · rw [hb2 a' a0 a1 c]
    exact e a' a0 a1
theorem eI_congr {A : au_T} {s : Int} {bd bd' v : Int → Int} (e : eI n sz A s bd v) (hb : ∀ a, 4 ≤ a → a ≤ 9 → bd' a = bd a) : eI n sz A s bd' v := by
  intro a a0 a1
  rw [hb a a0 a1]
  exact e a a0 a1
theorem endF_some {A : au_T} {s : Int} (c : ¬ conf n sz A s) : endF n sz A s = some (A.1, A.2.1, redE n sz A s) := cif_neg c _ _
theorem endF_none {A : au_T} {s : Int} (c : conf n sz A s) : endF n sz A s = none := cif_pos c _ _
theorem c_91 {A : au_T} {s : Int} {h : ab_S} {K : ab_O → ab_S → Prop} (G : GE n lf sz sy h) (g : GW n lf sz sy) (I : BI n sz A s) (hs : 0 ≤ s ∧ s < A.1) (R : RC A (h 2 0) (h 12) (h 13))
    (H1 : ∀ B h', endF n sz A s = some B → fr [2, 12, 13, 14] h h' → RC B (h' 2 0) (h' 12) (h' 13) → K (oI 1) h')
    (H0 : endF n sz A s = none → ∀ h', fr [2, 12, 13, 14] h h' → K (oI 0) h') : C 91 [vR 3, vI s] h K := by
  obtain ⟨rfl, rfl, rfl, rfl⟩ := G
  obtain ⟨⟨n0, n8⟩, gl, gs, gy, -, -⟩ := id g
  obtain ⟨rm, ri⟩ := R.2.1 s hs.1 hs.2
  have hc := I.1.1
  refine s_91_0 s h K ?_
  suffices T : X 91 2 [vR 3, vI s, vI 0, vJ 0, vJ 0] [] (upc h 12 (h 12)) K by rw [upc_self] at T; exact T
  refine lp (P := fun r => ∀ e : Int → Int, eI (h 1 0) (h 8) A s (fun _ => r) (fun a => e (s * 10 + a)) → (∀ k, ¬ (4 ≤ k - s * 10 ∧ k - s * 10 ≤ 9) → e k = h 12 k) → ∀ w3 w4, X 91 2 [vR 3, vI s, vI r, w3, w4] [] (upc h 12 e) K) 0 (h 1 0 + 1) (by omega) ?_ (h 12) ?_ (fun _ _ => rfl) _ _
  · intro r r0 r1 ihr e E Eo w3 w4
    refine s_91_2 s r w3 w4 _ K ⟨fun (z : h 1 0 < r) => ?_, fun (z : r ≤ h 1 0) => ?_⟩
    · have er : r = h 1 0 + 1 := by omega
      obtain ⟨e1, e2⟩ := eI_end E (fun _ _ _ => er)
      refine H1 _ _ (endF_some e1) (fr_upc (by decide)) ⟨R.1, R.2.1, fun s' x a1 a2 a3 a4 => ?_⟩
      show e (s' * 10 + x) = redE (h 1 0) (h 8) A s (10 * s' + x)
      by_cases c : s' = s ∧ 4 ≤ x
      · obtain ⟨c1, c2⟩ := c
        subst c1
        exact e2 x c2 (by omega)
      · rw [Eo _ (by omega)]
        unfold redE
        rw [if_neg (by omega)]
        exact R.2.2 s' x a1 a2 a3 a4
    · have hsr := gs r r0 z
      refine ⟨?_, ?_⟩
      · show (0 ≤ r ∧ r < 9) ∧ (-2147483648 ≤ s * 45 ∧ s * 45 ≤ 2147483647) ∧ (-2147483648 ≤ r * 5 ∧ r * 5 ≤ 2147483647) ∧ (-2147483648 ≤ r * 5 + h 8 r ∧ r * 5 + h 8 r ≤ 2147483647) ∧ (0 ≤ s * 45 + (r * 5 + h 8 r) ∧ s * 45 + (r * 5 + h 8 r) < 2250)
        omega
      show X 91 20 [vR 3, vI s, vI r, vI (h 13 (s * 45 + (r * 5 + h 8 r))), vI 4] [] (upc h 12 e) K
      have hm : 0 ≤ h 13 (s * 45 + (r * 5 + h 8 r)) ∧ h 13 (s * 45 + (r * 5 + h 8 r)) < 64 := rm (r * 5 + h 8 r) (by omega) (by omega)
      have hbit : ∀ a, 4 ≤ a → a ≤ 9 → (bt (h 13 (s * 45 + (r * 5 + h 8 r))) (a - 4) = 1 ↔ dueP (h 8) A.2.1 s a r) := by
        intro a a0 a1
        unfold dueP
        rw [← ri _ (by omega) (by omega)]
        unfold ms
        rw [show (30 * r + 6 * h 8 r + (a - 4)) / 6 = r * 5 + h 8 r by omega, show (30 * r + 6 * h 8 r + (a - 4)) % 6 = a - 4 by omega]
        exact Iff.rfl
      refine lp (P := fun a => ∀ e : Int → Int, eI (h 1 0) (h 8) A s (fun a' => if a' < a then r + 1 else r) (fun a => e (s * 10 + a)) → (∀ k, ¬ (4 ≤ k - s * 10 ∧ k - s * 10 ≤ 9) → e k = h 12 k) → X 91 20 [vR 3, vI s, vI r, vI (h 13 (s * 45 + (r * 5 + h 8 r))), vI a] [] (upc h 12 e) K) 4 10 (by decide) ?_ e (eI_congr E (fun a a0 a1 => if_neg (by omega))) Eo
      clear E Eo e
      intro a a0 a1 iha e E Eo
      refine s_91_20 s r _ a _ K ⟨fun z2 => ⟨by omega, ?_⟩, fun z2 => ⟨by omega, fun z3 => ⟨by omega, ?_⟩, fun z3 => ⟨by omega, fun (z4 : e (s * 10 + a) = -1) => ?_, fun (z4 : ¬ e (s * 10 + a) = -1) => ?_⟩⟩⟩
      · exact ihr (by omega) e (eI_congr E (fun a' b0 b1 => (if_pos (by omega)).symm)) Eo _ _
      · refine iha (by omega) e (eI_skip (a := a) (r := r) E (if_neg (by omega)) ?_ (if_pos (by omega)) (fun a' b0 b1 b2 => ?_)) Eo
        · rw [← hbit a a0 z2]; exact tst0 hm ⟨a0, z2⟩ z3
        · by_cases c : a' < a
          · rw [if_pos c, if_pos (by omega)]
          · rw [if_neg c, if_neg (by omega)]
      · have d := (hbit a a0 z2).mp (tst1 hm ⟨a0, z2⟩ z3)
        have nxt' : ∀ v, v = due (h 1 0) r → X 91 20 [vR 3, vI s, vI r, vI (h 13 (s * 45 + (r * 5 + h 8 r))), vI (a + 1)] [] (ab_up (upc h 12 e) 12 (s * 10 + a) v) K := by
          intro v hv
          rw [up_upc]
          refine iha (by omega) _ (eI_step (a := a) (r := r) E ⟨a0, z2⟩ ⟨r0, z⟩ (if_neg (by omega)) d z4 (if_pos (by omega)) (fun a' b0 b1 b2 => ?_) ?_ (fun a' b0 b1 b2 => ?_)) (fun k hk => ?_)
          · by_cases c : a' < a
            · rw [if_pos c, if_pos (by omega)]
            · rw [if_neg c, if_neg (by omega)]
          · show updc e (s * 10 + a) v (s * 10 + a) = _
            rw [updc_at]; exact hv
          · exact updc_ne _ _ (by omega)
          · rw [updc_ne _ _ (by omega)]; exact Eo k hk
        refine ⟨fun (z5 : ¬ h 1 0 = r) => ⟨by omega, nxt' _ ?_⟩, fun (z5 : h 1 0 = r) => ⟨by omega, nxt' _ ?_⟩⟩
        · unfold due; rw [if_neg (fun q => z5 q.symm)]
        · unfold due; rw [if_pos z5.symm]
      · have d := (hbit a a0 z2).mp (tst1 hm ⟨a0, z2⟩ z3)
        exact H0 (endF_none (eI_conf (a := a) (r := r) E ⟨a0, z2⟩ ⟨r0, z⟩ (if_neg (by omega)) d z4)) _ (fr_upc (by decide))
  · intro a a0 a1
    exact ⟨fun r r0 r1 => absurd (show r < 0 from r1) (by omega), fun _ => R.2.2 s a hs.1 hs.2 (by omega) (by omega)⟩
theorem blF_s {A B : au_T} {k : Int} (hk : 0 ≤ k) (e : blF n lf sz sy A k.toNat = some B) : blF n lf sz sy A (k + 1).toNat = if B.1 ≤ k then some B else (gosF n lf sz sy B k 9).bind (fun D => endF n sz D k) := by
  rw [show (k + 1).toNat = k.toNat + 1 by omega]
  show (blF n lf sz sy A k.toNat).bind _ = _
  rw [e]
  show (if B.1 ≤ ((k.toNat : Nat) : Int) then some B else _) = _
  rw [show ((k.toNat : Nat) : Int) = k by omega]
theorem au_s : (stl au_0 (CL n lf sz sy (fun i => i = 30 * n + 5))).2.1 = 1 := by
  rcases stl_cases au_0 (CL n lf sz sy (fun i => i = 30 * n + 5)) (by decide) with ⟨j, hj, e⟩ | ⟨_, ⟨c, e⟩ | ⟨c, e⟩⟩
  · exact absurd hj.2.1 (by have := hj.1; show ¬ j < 0; omega)
  · exact absurd c (by decide)
  · rw [e]; rfl
theorem lg0 (g : GW n lf sz sy) {i : Int} (e : i = 30 * n + 5) : lg n sz i := by
  subst e
  unfold lg
  have := g.1
  have h1 := g.2.2.1 n (by omega) (by omega)
  rw [show (30 * n + 5) / 30 = n by omega, show (30 * n + 5) % 30 / 6 = 0 by omega]
  exact ⟨by omega, h1.1⟩
theorem bl_BI {A B : au_T} {k : Nat} (g : GW n lf sz sy) (I : BI n sz A 0) (e : blF n lf sz sy A k = some B) : BI n sz B k := by
  induction k generalizing B with
  | zero => cases e; exact I
  | succ k ih =>
    have e : (blF n lf sz sy A k).bind (fun B => if B.1 ≤ k then some B else (gosF n lf sz sy B k 9).bind (fun D => endF n sz D k)) = some B := e
    cases hq : blF n lf sz sy A k with
    | none => rw [hq] at e; cases e
    | some D =>
      rw [hq] at e
      have e : (if D.1 ≤ k then some D else (gosF n lf sz sy D k 9).bind (fun D => endF n sz D k)) = some B := e
      have J := ih hq
      by_cases c : D.1 ≤ k
      · rw [if_pos c] at e
        cases e
        exact ⟨J.1, fun s x a0 a1 a2 a3 a4 => absurd a2 (by omega)⟩
      · rw [if_neg c] at e
        cases hq2 : gosF n lf sz sy D k 9 with
        | none => rw [hq2] at e; cases e
        | some D2 =>
          rw [hq2] at e
          have J2 := gosF_BI g J ⟨by omega, by omega⟩ hq2
          have := (endF_BI (by have := g.1; omega) J2.1 ⟨by omega, by omega⟩ e).1
          exact this
theorem c_85 {h : ab_S} {K : ab_O → ab_S → Prop} (G : GE n lf sz sy h) (g : GW n lf sz sy) (z0 : h 2 0 = 0)
    (H1 : ∀ B h', BL n lf sz sy = some B → fr [2, 10, 11, 12, 13, 14] h h' → LN h' → RC B (h' 2 0) (h' 12) (h' 13) → AI n sz B → K (oI 1) h')
    (H0 : BL n lf sz sy = none → ∀ h', fr [2, 10, 11, 12, 13, 14] h h' → K (oI 0) h') : C 85 [vR 3] h K := by
  obtain ⟨rfl, rfl, rfl, rfl⟩ := id G
  obtain ⟨⟨n0, n8⟩, gl, gs, gy, -, -⟩ := id g
  refine s_85_0 h K ?_
  refine c_114 g (fun f1 f2 L => ?_)
  refine c_137 (fun f3 hf3 => ?_)
  obtain ⟨h2, e2⟩ : ∃ h2, h2 = upc (upc (upc h 10 f1) 11 f2) 14 f3 := ⟨_, rfl⟩
  rw [← e2]
  have F2 : fr [2, 10, 11, 12, 13, 14] h h2 := by rw [e2]; exact fr_tr (fr_tr (fr_upc (by decide)) (fr_upc (by decide))) (fr_upc (by decide))
  have G2 := GE_fr G F2 (by decide) (by decide) (by decide) (by decide)
  have L2 : LN h2 := by rw [e2]; exact L
  have z2 : h2 2 0 = 0 := by rw [e2]; exact z0
  have d2 : h2 14 = f3 := by rw [e2]; exact upc_at _ _ _
  clear e2 L
  obtain ⟨e1, e7, e8, e9⟩ := id G2
  show ((-2147483648 ≤ h2 1 0 * 5 ∧ h2 1 0 * 5 ≤ 2147483647) ∧ (-2147483648 ≤ h2 1 0 * 5 + 0 ∧ h2 1 0 * 5 + 0 ≤ 2147483647) ∧ 0 ≤ h2 1 0 * 5 + 0 ∧ h2 1 0 * 5 + 0 < 45) ∧ C 88 [vR 3] (ab_up h2 14 (h2 1 0 * 5 + 0) (b_shl 1 5)) _
  rw [e1]
  refine ⟨by omega, ?_⟩
  have ej : h 1 0 * 5 + 0 = h 1 0 * 5 := by omega
  rw [ej, up_c, d2]
  have bt5 : ∀ u, 0 ≤ u → u < 6 → (bt (b_shl 1 5) u = 1 ↔ u = 5) := fun u u0 u1 => shl_bt (a := 9) (by decide) ⟨u0, u1⟩
  have mf : mr (updc f3 (h 1 0 * 5) (b_shl 1 5)) := by
    intro c c0 c1
    by_cases d : c = h 1 0 * 5
    · rw [d, updc_at]; exact shl_rg (a := 9) (by decide)
    · rw [updc_ne _ _ d, hf3 c c0 c1]; decide
  have hf : ∀ i, 0 ≤ i → i < 270 → (ms (updc f3 (h 1 0 * 5) (b_shl 1 5)) i ↔ i = 30 * h 1 0 + 5) := by
    intro i i0 i1
    unfold ms
    by_cases d : i / 6 = h 1 0 * 5
    · rw [d, updc_at, bt5 _ (by omega) (by omega)]; omega
    · rw [updc_ne _ _ d, hf3 _ (by omega) (by omega), bt_zero]; omega
  refine c_88 (h := upc h2 14 (updc f3 (h 1 0 * 5) (b_shl 1 5))) (by show GW (h2 1 0) (h2 7) (h2 8) (h2 9); rw [e1, e7, e8, e9]; exact g) L2 mf (fun f4 mf4 hf4 => ?_)
  have hS : ∀ i, 0 ≤ i → i < 270 → (ms f4 i ↔ CL (h 1 0) (h 7) (h 8) (h 9) (fun i => i = 30 * h 1 0 + 5) i) := by
    intro i i0 i1
    have q : ms f4 i ↔ CL (h2 1 0) (h2 7) (h2 8) (h2 9) (ms (updc f3 (h 1 0 * 5) (b_shl 1 5))) i := hf4 i i0 i1
    rw [e1, e7, e8, e9, CL_congr hf] at q
    exact q
  refine c_84 (A := au_0) (h := upc (upc h2 14 (updc f3 (h 1 0 * 5) (b_shl 1 5))) 14 f4) (by decide) ⟨z2, fun s a b => absurd b (by show ¬ s < 0; omega), fun s x a b => absurd b (by show ¬ s < 0; omega)⟩ mf4 hS (fun h7 F7 R7 => ?_)
  have F3 : fr [2, 10, 11, 12, 13, 14] h2 h7 := fr_tr (fr_tr (fr_upc (by decide)) (fr_upc (by decide))) (fr_sub F7 (by decide))
  have L7 : LN h7 := LN_fr L2 (fr_tr (fr_tr (fr_upc (by decide)) (fr_upc (by decide))) (fr_sub F7 (L' := [2, 12, 13, 14]) (by decide))) (by decide) (by decide) (by decide) (by decide) (by decide) (by decide)
  have BI0 := (stl_BI (n := h 1 0) (sz := h 8) (A := au_0) (S := CL (h 1 0) (h 7) (h 8) (h 9) (fun i => i = 30 * h 1 0 + 5)) (q := 0) au_0_BI (fun i a b z => CL_lg g (fun j a b z => lg0 g z) z)).1
  show X 85 27 [vR 3, vI 0] [] h7 K
  refine lp (P := fun k => ∀ B h', blF (h 1 0) (h 7) (h 8) (h 9) (stl au_0 (CL (h 1 0) (h 7) (h 8) (h 9) (fun i => i = 30 * h 1 0 + 5))).2 k.toNat = some B → fr [2, 10, 11, 12, 13, 14] h h' → LN h' → RC B (h' 2 0) (h' 12) (h' 13) → X 85 27 [vR 3, vI k] [] h' K) 0 50 (by decide) ?_ _ h7 rfl (fr_tr F2 F3) L7 R7
  intro k k0 k1 ihk B h' eB F L R
  have J := bl_BI g BI0 eB
  have hc := J.1.1
  have ec : h' 2 0 = B.1 := R.1
  have ek : ((k.toNat : Nat) : Int) = k := by omega
  rw [ek] at J
  have fin : B.1 ≤ k → K (oI 1) h' := fun q => H1 B h' (blF_stop eB (by omega) (by omega)) F L R J.1
  refine s_85_27 k h' K ⟨fun z => fin (by omega), fun z => ⟨fun z2 => fin (by omega), fun z2 => ?_⟩⟩
  have es := blF_s k0 eB
  rw [if_neg (by omega)] at es
  have G' := GE_fr G F (by decide) (by decide) (by decide) (by decide)
  refine c_86 G' g L J ⟨k0, by omega⟩ R (fun D h3 eD F3 R3 => ?_) (fun eD h3 F3 => ?_)
  · refine ⟨fun q => absurd q (by decide), fun _ => ?_⟩
    rw [eD] at es
    have JD := gosF_BI g J ⟨k0, by omega⟩ eD
    have F4 := fr_sub F3 (L' := [2, 10, 11, 12, 13, 14]) (by decide)
    have G3 := GE_fr G' F3 (by decide) (by decide) (by decide) (by decide)
    refine c_91 G3 g JD.1 ⟨k0, by omega⟩ R3 (fun D2 h5 eD2 F5 R5 => ?_) (fun eD2 h5 F5 => ?_)
    · refine ⟨fun _ => ⟨by omega, ?_⟩, fun q => absurd q (by decide)⟩
      refine ihk z D2 h5 (es.trans eD2) (fr_tr F (fr_tr F4 (fr_sub F5 (by decide)))) ?_ R5
      exact LN_fr (LN_fr L F3 (by decide) (by decide) (by decide) (by decide) (by decide) (by decide)) F5 (by decide) (by decide) (by decide) (by decide) (by decide) (by decide)
    · refine ⟨fun q => absurd rfl q, fun _ => H0 (blF_none (es.trans eD2) (by omega)) h5 (fr_tr F (fr_tr F4 (fr_sub F5 (by decide))))⟩
  · refine ⟨fun _ => ?_, fun q => absurd rfl q⟩
    rw [eD] at es
    exact H0 (blF_none es (by omega)) h3 (fr_tr F (fr_sub F3 (by decide)))
end CBuild2
