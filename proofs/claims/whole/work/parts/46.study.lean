/-! The model learns what vanishes and what begins, and says whether something is first. -/
section Study
def MG (n : Int) (lf sz sy : Int → Int) (m : Int) (ml ms my : Int → Int) : Prop := m = n ∧ (∀ r, 0 ≤ r → r < n → ml r = lf r ∧ ms r = sz r) ∧ (∀ r k, 0 ≤ r → r < n → 0 ≤ k → k < sz r → my (4 * r + k) = sy (r * 4 + k))
variable {n : Int} {lf sz sy : Int → Int}
theorem mg_sz {h : ab_S} (g : GW n lf sz sy) (mg : MG n lf sz sy (h 6 1) (h 20) (h 21) (h 22)) {r : Int} (hr : 0 ≤ r ∧ r ≤ n) : szo h r = sz r := by
  unfold szo
  rw [mg.1]
  by_cases e : r = n
  · rw [if_pos e, e]; exact g.2.2.2.2.1.symm
  · rw [if_neg e]; exact (mg.2.1 r hr.1 (by omega)).2
theorem mg_nx {h : ab_S} (g : GW n lf sz sy) (mg : MG n lf sz sy (h 6 1) (h 20) (h 21) (h 22)) {r d : Int} (hr : 0 ≤ r ∧ r ≤ n) (hd : 0 ≤ d) : nxt h r d = if d < sz r then sy (r * 4 + d) else -1 := by
  unfold nxt
  rw [mg_sz g mg hr, mg.1]
  by_cases c : d < sz r
  · rw [if_pos c, if_neg (by omega)]
    by_cases e : r = n
    · rw [if_pos e, (mg.2.1 0 (by omega) g.1.1).1]
      subst e
      have h1 := g.2.2.2.2.1
      have h2 := g.2.2.2.2.2
      have : d = 0 := by omega
      subst this
      exact h2.symm
    · rw [if_neg e]; exact mg.2.2 r d hr.1 (by omega) hd c
  · rw [if_neg c, if_pos (by omega)]
theorem mg_nx1 {h : ab_S} (g : GW n lf sz sy) (mg : MG n lf sz sy (h 6 1) (h 20) (h 21) (h 22)) {r d : Int} (hr : 0 ≤ r ∧ r ≤ n) (hd : 0 ≤ d ∧ d < sz r) : nxt h r d = sy (r * 4 + d) := by
  rw [mg_nx g mg hr hd.1, if_pos hd.2]
theorem mg_pre {h : ab_S} (g : GW n lf sz sy) (mg : MG n lf sz sy (h 6 1) (h 20) (h 21) (h 22)) {r : Int} (hr : 0 ≤ r ∧ r ≤ n) : r = h 6 1 ∨ (r < 8 ∧ h 21 r ≤ 4) := by
  rw [mg.1]
  by_cases e : r = n
  · exact Or.inl e
  · have h1 := (mg.2.1 r hr.1 (by omega)).2
    have h2 := g.2.2.1 r hr.1 hr.2
    have h3 := g.1
    exact Or.inr ⟨by omega, by omega⟩
theorem mg_pre8 {h : ab_S} (g : GW n lf sz sy) (mg : MG n lf sz sy (h 6 1) (h 20) (h 21) (h 22)) {r : Int} (hr : 0 ≤ r ∧ r ≤ n) : r = h 6 1 ∨ r < 8 := by
  rcases mg_pre g mg hr with e | e
  · exact Or.inl e
  · exact Or.inr e.1
theorem c_38 {r a b : Int} {h : ab_S} {K : ab_O → ab_S → Prop} (g : GW n lf sz sy) (mg : MG n lf sz sy (h 6 1) (h 20) (h 21) (h 22)) (hr : 0 ≤ r ∧ r ≤ n) (ha : 0 ≤ a ∧ a ≤ b) (hb : b ≤ sz r) (H1 : emp (nz (h 23)) sy r a b → K (oI 1) h) (H0 : ¬ emp (nz (h 23)) sy r a b → K (oI 0) h) : C 38 [vR 6, vI r, vI a, vI b] h K := by
  have hs := g.2.2.1 r hr.1 hr.2
  refine s_38_0 r a b h K ?_
  refine lp (P := fun i => ∀ v : Int, (v = 1 ∧ emp (nz (h 23)) sy r a i) ∨ (v = 0 ∧ ¬ emp (nz (h 23)) sy r a b) → ∀ w2, X 38 4 [vR 6, vI r, w2, vI b, vI v, vI i] [] h K) a b ha.2 ?_ 1 (Or.inl ⟨rfl, emp_nil (by omega)⟩) _
  intro i h1 h2 ih v hv w2
  refine s_38_4 r b v i w2 h K ⟨fun z => ⟨by omega, ?_⟩, fun z => ⟨fun z2 => ⟨by omega, ?_⟩, fun z2 => ?_⟩⟩
  · have e : i = b := by omega
    subst e
    rcases hv with ⟨e, q⟩ | ⟨e, q⟩
    · subst e; exact H1 q
    · subst e; exact H0 q
  · rcases hv with ⟨e, q⟩ | ⟨e, q⟩
    · omega
    · exact ih z 0 (Or.inr ⟨rfl, q⟩) _
  · rcases hv with ⟨e, q⟩ | ⟨e, q⟩
    · have hy := g.2.2.2.1 r i hr.1 hr.2 (by omega) (by omega)
      have e1 := mg_nx1 g mg hr (d := i) ⟨by omega, by omega⟩
      refine ⟨⟨hr.1, mg_pre g mg hr, by omega⟩, ?_⟩
      rw [e1]
      refine ⟨fun z3 => ⟨by omega, ih z 0 (Or.inr ⟨rfl, emp_not h1 z (fun v => absurd v.2.1 (by omega))⟩) _⟩, fun z3 => ⟨⟨hy.1, z3⟩, fun z4 => ⟨by omega, ih z 0 (Or.inr ⟨rfl, emp_not h1 z (fun v => v.2.2 z4)⟩) _⟩, fun z4 => ⟨by omega, ih z 1 (Or.inl ⟨rfl, emp_succ q ⟨hy.1, z3, z4⟩⟩) _⟩⟩⟩
    · omega
/-- whoever leads to j leads to i -/
def Rl (N : Int → Prop) (n : Int) (lf sz sy : Int → Int) (i j : Int) : Prop := ∀ t, ltx (FS N n lf sz sy t) t j → ltx (FS N n lf sz sy t) t i
def wI (N : Int → Prop) (n : Int) (lf sz sy b : Int → Int) (r k m : Int) : Prop :=
  (∀ q, 0 ≤ q → q < 81 → b q = 0 ∨ b q = 1) ∧ (∀ i j, 0 ≤ i → i < 9 → 0 ≤ j → j < 9 → nz b (9 * i + j) → Rl N n lf sz sy i j) ∧ (∀ i, 0 ≤ i → i < 9 → nz b (9 * i + i)) ∧
  (∀ r' k', 0 ≤ r' → r' < n → 0 ≤ k' → k' < sz r' → emp N sy r' 0 k' → (r' < r ∨ (r' = r ∧ k' < k)) → nz b (9 * lf r' + sy (r' * 4 + k'))) ∧
  (∀ p, 0 ≤ p → p < m → ∀ i j, 0 ≤ i → i < 9 → 0 ≤ j → j < 9 → nz b (9 * i + p) → nz b (9 * p + j) → nz b (9 * i + j))
theorem Rl_dir {N : Int → Prop} (g : GW n lf sz sy) {r k : Int} (hr : 0 ≤ r ∧ r < n) (hk : 0 ≤ k ∧ k < sz r) (e : emp N sy r 0 k) : Rl N n lf sz sy (lf r) (sy (r * 4 + k)) := by
  intro t z
  have := g.2.1 r hr.1 hr.2
  exact Or.inr ⟨this.1, this.2, FS_cl N n lf sz sy t r hr.1 hr.2 (Or.inl ⟨k, hk.1, hk.2, e, z⟩)⟩
def W1 (b0 : Int → Int) (m k : Int) : Prop := nz b0 k ∨ (nz b0 (9 * (k / 9) + m) ∧ nz b0 (9 * m + k % 9))
theorem wI_next {N : Int → Prop} {b0 b : Int → Int} {r k m : Int} (I : wI N n lf sz sy b0 r k m) (hm : 0 ≤ m ∧ m < 9) (hb : ∀ q, 0 ≤ q → q < 81 → (b q = 0 ∨ b q = 1) ∧ (nz b q ↔ W1 b0 m q)) (g : GW n lf sz sy) : wI N n lf sz sy b r k (m + 1) := by
  obtain ⟨I1, I2, I3, I4, I5⟩ := I
  have hw : ∀ i j, 0 ≤ i → i < 9 → 0 ≤ j → j < 9 → (nz b (9 * i + j) ↔ (nz b0 (9 * i + j) ∨ (nz b0 (9 * i + m) ∧ nz b0 (9 * m + j)))) := by
    intro i j a1 a2 a3 a4
    rw [(hb (9 * i + j) (by omega) (by omega)).2]
    unfold W1
    rw [show (9 * i + j) / 9 = i by omega, show (9 * i + j) % 9 = j by omega]
  have sub : ∀ i j, 0 ≤ i → i < 9 → 0 ≤ j → j < 9 → nz b0 (9 * i + j) → nz b (9 * i + j) := fun i j a1 a2 a3 a4 z => (hw i j a1 a2 a3 a4).mpr (Or.inl z)
  refine ⟨fun q a1 a2 => (hb q a1 a2).1, fun i j a1 a2 a3 a4 z => ?_, fun i a1 a2 => sub i i a1 a2 a1 a2 (I3 i a1 a2), fun r' k' a1 a2 a3 a4 e o => ?_, fun p p0 p1 i j a1 a2 a3 a4 z1 z2 => ?_⟩
  · rcases (hw i j a1 a2 a3 a4).mp z with z | ⟨z1, z2⟩
    · exact I2 i j a1 a2 a3 a4 z
    · exact fun t q => I2 i m a1 a2 hm.1 hm.2 z1 t (I2 m j hm.1 hm.2 a3 a4 z2 t q)
  · have h1 := g.2.1 r' a1 a2
    have h2 := g.2.2.2.1 r' k' a1 (by omega) a3 a4
    exact sub _ _ h1.1 (by omega) h2.1 h2.2 (I4 r' k' a1 a2 a3 a4 e o)
  · have w1 := (hw i p a1 a2 p0 (by omega)).mp z1
    have w2 := (hw p j p0 (by omega) a3 a4).mp z2
    refine (hw i j a1 a2 a3 a4).mpr ?_
    by_cases e : p = m
    · subst e
      refine Or.inr ⟨?_, ?_⟩
      · rcases w1 with w | w
        · exact w
        · exact w.1
      · rcases w2 with w | w
        · exact w
        · exact w.2
    · have tr := I5 p p0 (by omega)
      rcases w1 with w1 | w1 <;> rcases w2 with w2 | w2
      · exact Or.inl (tr i j a1 a2 a3 a4 w1 w2)
      · exact Or.inr ⟨tr i m a1 a2 hm.1 hm.2 w1 w2.1, w2.2⟩
      · exact Or.inr ⟨w1.1, tr m j hm.1 hm.2 a3 a4 w1.2 w2⟩
      · exact Or.inr ⟨w1.1, w2.2⟩
/-- begun: the table of what begins with what -/
def BG (N : Int → Prop) (n : Int) (lf sz sy b : Int → Int) : Prop := ∀ x t, 0 ≤ x → x < 9 → 4 ≤ t → t < 9 → (nz b (9 * x + t) ↔ ltx (FS N n lf sz sy t) t x)
theorem wI_end {N : Int → Prop} {b : Int → Int} (I : wI N n lf sz sy b n 0 9) (g : GW n lf sz sy) : BG N n lf sz sy b := by
  obtain ⟨I1, I2, I3, I4, I5⟩ := I
  intro x t x0 x9 t4 t9
  constructor
  · intro z
    exact I2 x t x0 x9 (by omega) t9 z t (Or.inl rfl)
  · rintro (e | ⟨a, b4, z⟩)
    · subst e; exact I3 x x0 x9
    · refine z (fun A => nz b (9 * A + t)) ?_
      intro r r0 r1 f
      rcases f with ⟨k, k0, k1, e, l⟩ | ⟨_, f⟩
      · have d := I4 r k r0 r1 k0 k1 e (Or.inl r1)
        have h1 := g.2.1 r r0 r1
        have h2 := g.2.2.2.1 r k r0 (by omega) k0 k1
        rcases l with l | ⟨l1, l2, l3⟩
        · rw [l] at d; exact d
        · exact I5 (sy (r * 4 + k)) h2.1 h2.2 (lf r) t h1.1 (by omega) (by omega) t9 d l3
      · exact f.elim
theorem c_39 {h : ab_S} {K : ab_O → ab_S → Prop} (g : GW n lf sz sy) (mg : MG n lf sz sy (h 6 1) (h 20) (h 21) (h 22)) (H : ∀ f1 f2, rep f1 (NL n lf sz sy) → BG (NL n lf sz sy) n lf sz sy f2 → K oV (upc (upc h 23 f1) 24 f2)) : C 39 [vR 6] h K := by
  have g' := g
  obtain ⟨⟨n0, n8⟩, gl, gs, gy, -, -⟩ := g'
  have en : h 6 1 = n := mg.1
  refine s_39_0 h K ?_
  suffices S : X 39 2 [vR 6, vI 0, vJ 0] [] (upc (upc h 23 (h 23)) 24 (h 24)) K by rw [upc_self2] at S; exact S
  refine lp (P := fun i => ∀ f1 : Int → Int, (∀ a, 0 ≤ a → a < i → f1 a = 0) → ∀ w, X 39 2 [vR 6, vI i, w] [] (upc (upc h 23 f1) 24 (h 24)) K) 0 4 (by decide) ?_ (h 23) (fun a h1 h2 => absurd h2 (by omega)) _
  intro i h1 h2 ih f1 hz w
  refine s_39_2 i w _ K ⟨fun z => ?_, fun z => ⟨by omega, ?_⟩⟩
  · have e4 : i = 4 := by omega
    subst e4
    refine lp (P := fun k => ∀ f1 : Int → Int, rep f1 (nl4 lf sz sy n.toNat k.toNat) → ∀ w, X 39 14 [vR 6, vI k, w] [] (upc (upc h 23 f1) 24 (h 24)) K) 0 4 (by decide) ?_ f1 ?_ _
    · intro k k0 k4 ihk f1 hr w
      refine s_39_14 k w _ K ⟨fun z => ?_, fun z => ?_⟩
      · have e4 : k = 4 := by omega
        subst e4
        have hr : rep f1 (NL n lf sz sy) := hr
        have hN : ∀ x, 0 ≤ x → x < 4 → (nz f1 x ↔ NL n lf sz sy x) := fun x a b => (hr x a b).2
        -- the first table
        refine lp (P := fun q => ∀ b : Int → Int, (∀ k, 0 ≤ k → k < q → (b k = 0 ∨ b k = 1) ∧ (nz b k ↔ k / 9 = k % 9)) → ∀ w, X 39 46 [vR 6, vI q, w] [] (upc (upc h 23 f1) 24 b) K) 0 81 (by decide) ?_ (h 24) (fun k a b => absurd b (by omega)) _
        intro q q0 q1 ihq b hb w
        refine s_39_46 q w _ K ⟨fun z => ?_, fun z => ⟨by omega, fun z2 => ⟨by omega, ?_⟩, fun z2 => ⟨by omega, ?_⟩⟩⟩
        · have e4 : q = 81 := by omega
          subst e4
          have I0 : wI (NL n lf sz sy) n lf sz sy b 0 0 0 := by
            refine ⟨fun q a1 a2 => (hb q a1 a2).1, fun i j a1 a2 a3 a4 z => ?_, fun i a1 a2 => (hb (9 * i + i) (by omega) (by omega)).2.mpr (by omega), fun r' k' a1 a2 a3 a4 _ o => absurd o (by omega), fun p a1 a2 => absurd a2 (by omega)⟩
            have := (hb (9 * i + j) (by omega) (by omega)).2.mp z
            have e : i = j := by omega
            subst e
            exact fun t q => q
          refine lp (P := fun r => ∀ b : Int → Int, wI (NL n lf sz sy) n lf sz sy b r 0 0 → ∀ w, X 39 67 [vR 6, vI r, w] [] (upc (upc h 23 f1) 24 b) K) 0 n (by omega) ?_ b I0 _
          intro r r0 r1 ihr b I w
          refine s_39_67 r w _ K ⟨fun (z : h 6 1 ≤ r) => ?_, fun (z : r < h 6 1) => ?_⟩
          · have e : r = n := by omega
            subst e
            refine lp (P := fun m => ∀ b : Int → Int, wI (NL r lf sz sy) r lf sz sy b r 0 m → ∀ w, X 39 106 [vR 6, vI m, w] [] (upc (upc h 23 f1) 24 b) K) 0 9 (by decide) ?_ b I _
            intro m m0 m1 ihm b0 I w
            refine s_39_106 m w _ K ⟨fun z => ?_, fun z => ?_⟩
            · have e : m = 9 := by omega
              subst e
              exact H f1 b0 hr (wI_end I g)
            · refine lp (P := fun k => ∀ b : Int → Int, (∀ q, 0 ≤ q → q < k → (b q = 0 ∨ b q = 1) ∧ (nz b q ↔ W1 b0 m q)) → (∀ q, k ≤ q → q < 81 → b q = b0 q) → X 39 111 [vR 6, vI m, vI k] [] (upc (upc h 23 f1) 24 b) K) 0 81 (by decide) ?_ b0 (fun q a b => absurd b (by omega)) (fun _ _ _ => rfl)
              intro k k0 k1 ihk b hlo hhi
              have col : ∀ i, 0 ≤ i → i < 9 → (nz b (9 * i + m) ↔ nz b0 (9 * i + m)) := by
                intro i a1 a2
                by_cases c : 9 * i + m < k
                · rw [(hlo _ (by omega) c).2]
                  unfold W1
                  rw [show (9 * i + m) / 9 = i by omega, show (9 * i + m) % 9 = m by omega]
                  exact ⟨fun z => z.elim id (fun z => z.1), Or.inl⟩
                · unfold nz
                  rw [hhi _ (by omega) (by omega)]
              have row : ∀ j, 0 ≤ j → j < 9 → (nz b (9 * m + j) ↔ nz b0 (9 * m + j)) := by
                intro j a1 a2
                by_cases c : 9 * m + j < k
                · rw [(hlo _ (by omega) c).2]
                  unfold W1
                  rw [show (9 * m + j) / 9 = m by omega, show (9 * m + j) % 9 = j by omega]
                  exact ⟨fun z => z.elim id (fun z => z.2), Or.inl⟩
                · unfold nz
                  rw [hhi _ (by omega) (by omega)]
              have nx : ∀ v : Int, (v = 0 ∨ v = 1) → (¬ v = 0 ↔ W1 b0 m k) → k < 81 → X 39 111 [vR 6, vI m, vI (k + 1)] [] (ab_up (upc (upc h 23 f1) 24 b) 24 k v) K := by
                intro v v01 hv hk
                rw [up_upc]
                refine ihk hk _ (fun q a1 a2 => ?_) (fun q a1 a2 => ?_)
                · unfold nz
                  by_cases e : q = k
                  · subst e; rw [updc_at]; exact ⟨v01, hv⟩
                  · rw [updc_ne _ _ e]; exact hlo q a1 (by omega)
                · rw [updc_ne _ _ (by omega)]; exact hhi q (by omega) a2
              refine s_39_111 m k _ K ⟨fun z => ⟨by omega, ?_⟩, fun z => ⟨by omega, fun (z2 : ¬ b k = 0) => ⟨by omega, nx 1 (Or.inr rfl) ⟨fun _ => Or.inl ?_, fun _ => by decide⟩ z⟩, fun (z2 : b k = 0) => ⟨by omega, fun (z3 : b (9 * (k / 9) + m) = 0) => ⟨by omega, nx 0 (Or.inl rfl) ⟨fun q => absurd rfl q, ?_⟩ z⟩, fun (z3 : ¬ b (9 * (k / 9) + m) = 0) => ⟨by omega, fun (z4 : b (9 * m + k % 9) = 0) => ⟨by omega, nx 0 (Or.inl rfl) ⟨fun q => absurd rfl q, ?_⟩ z⟩, fun (z4 : ¬ b (9 * m + k % 9) = 0) => ⟨by omega, nx 1 (Or.inr rfl) ⟨fun _ => Or.inr ⟨(col _ (by omega) (by omega)).mp z3, (row _ (by omega) (by omega)).mp z4⟩, fun _ => by decide⟩ z⟩⟩⟩⟩⟩
              · have e : k = 81 := by omega
                subst e
                exact ihm (by omega) b (wI_next I ⟨m0, by omega⟩ hlo g) _
              · unfold nz
                rw [← hhi k (by omega) z]; exact z2
              · rintro (q | q)
                · exact absurd (by rw [← hhi k (by omega) z]; exact z2) q
                · exact absurd z3 ((col _ (by omega) (by omega)).mpr q.1)
              · rintro (q | q)
                · exact absurd (by rw [← hhi k (by omega) z]; exact z2) q
                · exact absurd z4 ((row _ (by omega) (by omega)).mpr q.2)
          · have rn : r < n := by omega
            have hs := gs r r0 r1
            have hms : h 21 r = sz r := (mg.2.1 r r0 rn).2
            have hml : h 20 r = lf r := (mg.2.1 r r0 rn).1
            have hl := gl r r0 rn
            refine lp (P := fun k => ∀ b : Int → Int, wI (NL n lf sz sy) n lf sz sy b r k 0 → X 39 73 [vR 6, vI r, vI k] [] (upc (upc h 23 f1) 24 b) K) 0 (sz r) hs.1 ?_ b I
            intro k k0 k1 ihk b I
            refine s_39_73 r k _ K ⟨by omega, fun (z2 : h 21 r ≤ k) => ⟨by omega, ?_⟩, fun (z2 : k < h 21 r) => ?_⟩
            · refine ihr rn b ⟨I.1, I.2.1, I.2.2.1, fun r' k' a1 a2 a3 a4 e o => I.2.2.2.1 r' k' a1 a2 a3 a4 e ?_, I.2.2.2.2⟩ _
              by_cases c : r' = r
              · subst c; exact Or.inr ⟨rfl, by omega⟩
              · exact Or.inl (by omega)
            · have hy := gy r k r0 r1 k0 (by omega)
              have e1 : nxt (upc (upc h 23 f1) 24 b) r k = sy (r * 4 + k) := mg_nx1 g mg ⟨r0, r1⟩ ⟨k0, by omega⟩
              refine c_38 g mg ⟨r0, r1⟩ ⟨by omega, k0⟩ (by omega) (fun he => ?_) (fun he => ?_)
              · refine ⟨fun q => absurd q (by decide), fun _ => ?_⟩
                rw [e1]
                have hq : upc (upc h 23 f1) 24 b 20 r = lf r := hml
                rw [hq]
                refine ⟨⟨by omega, by omega, ⟨r0, mg_pre g mg ⟨r0, r1⟩, k0⟩, by omega, by omega⟩, ?_⟩
                rw [up_upc]
                have he : emp (NL n lf sz sy) sy r 0 k := by rw [← rep_emp hr]; exact he
                refine ihk (by omega) _ ⟨fun q a1 a2 => ?_, fun i j a1 a2 a3 a4 zz => ?_, fun i a1 a2 => ?_, fun r' k' a1 a2 a3 a4 e o => ?_, fun p a1 a2 => absurd a2 (by omega)⟩
                · unfold updc
                  split
                  · exact Or.inr rfl
                  · exact I.1 q a1 a2
                · by_cases c : 9 * i + j = 9 * lf r + sy (r * 4 + k)
                  · have c1 : i = lf r := by omega
                    have c2 : j = sy (r * 4 + k) := by omega
                    rw [c1, c2]
                    exact Rl_dir g ⟨r0, rn⟩ ⟨k0, by omega⟩ he
                  · unfold nz at zz
                    rw [updc_ne _ _ c] at zz
                    exact I.2.1 i j a1 a2 a3 a4 zz
                · unfold nz updc
                  split
                  · decide
                  · exact I.2.2.1 i a1 a2
                · unfold nz updc
                  split
                  · decide
                  · rename_i c
                    refine I.2.2.2.1 r' k' a1 a2 a3 a4 e ?_
                    by_cases c1 : r' = r
                    · subst c1
                      by_cases c2 : k' = k
                      · subst c2; exact absurd rfl c
                      · exact Or.inr ⟨rfl, by omega⟩
                    · exact Or.inl (by omega)
              · refine ⟨fun _ => ⟨by omega, ihk (by omega) b ⟨I.1, I.2.1, I.2.2.1, fun r' k' a1 a2 a3 a4 e o => ?_, I.2.2.2.2⟩⟩, fun q => absurd rfl q⟩
                refine I.2.2.2.1 r' k' a1 a2 a3 a4 e ?_
                by_cases c1 : r' = r
                · subst c1
                  by_cases c2 : k' = k
                  · subst c2
                    exact absurd (show emp (nz f1) sy r' 0 k' by rw [rep_emp hr]; exact e) he
                  · exact Or.inr ⟨rfl, by omega⟩
                · exact Or.inl (by omega)
        · rw [up_upc]
          refine ihq z _ (fun k a1 a2 => ?_) _
          unfold nz
          by_cases e : k = q
          · subst e; rw [updc_at]; exact ⟨Or.inl rfl, fun c => absurd rfl c, fun c => absurd c z2⟩
          · rw [updc_ne _ _ e]; exact hb k a1 (by omega)
        · rw [up_upc]
          refine ihq z _ (fun k a1 a2 => ?_) _
          unfold nz
          by_cases e : k = q
          · subst e; rw [updc_at]; exact ⟨Or.inr rfl, fun _ => z2, fun _ => by decide⟩
          · rw [updc_ne _ _ e]; exact hb k a1 (by omega)
      · refine lp (P := fun m => ∀ f1 : Int → Int, rep f1 (nlF lf sz sy (nl4 lf sz sy n.toNat k.toNat) m.toNat) → X 39 19 [vR 6, vI k, vI m] [] (upc (upc h 23 f1) 24 (h 24)) K) 0 n (by omega) ?_ f1 hr
        intro m m0 m1 ihm f1 hr
        have em : ((m.toNat : Nat) : Int) = m := by omega
        have em1 : (m + 1).toNat = m.toNat + 1 := by omega
        refine s_39_19 k m _ K ⟨fun (z2 : h 6 1 ≤ m) => ⟨by omega, ?_⟩, fun (z2 : m < h 6 1) => ⟨by omega, ?_⟩⟩
        · have e : m = n := by omega
          subst e
          refine ihk z f1 ?_ _
          rw [show (k + 1).toNat = k.toNat + 1 by omega]
          exact hr
        · have mn : m < n := by omega
          have hms : upc (upc h 23 f1) 24 (h 24) 21 m = sz m := (mg.2.1 m m0 mn).2
          have hml : upc (upc h 23 f1) 24 (h 24) 20 m = lf m := (mg.2.1 m m0 mn).1
          have hl := gl m m0 mn
          rw [hms]
          refine c_38 g mg ⟨m0, m1⟩ ⟨by omega, (gs m m0 m1).1⟩ (by omega) (fun he => ?_) (fun he => ?_)
          · refine ⟨fun q => absurd q (by decide), fun _ => ?_⟩
            rw [hml]
            refine ⟨⟨by omega, hl, by omega⟩, ?_⟩
            rw [up_in h (by decide)]
            refine ihm mn _ ?_
            rw [em1]
            have := rep_step1 (m := m.toNat) hr (by rw [em]; exact he)
            rw [em] at this
            exact this
          · refine ⟨fun _ => ⟨by omega, ihm mn f1 ?_⟩, fun q => absurd rfl q⟩
            rw [em1]
            exact rep_step0 hr (by rw [em]; exact he)
    · intro a a0 a4
      have := hz a a0 a4
      refine ⟨Or.inl this, fun q => absurd this q, fun q => q.elim⟩
  · rw [up_in h (by decide)]
    refine ih z _ (fun a a0 a1 => ?_) _
    by_cases c : a = i
    · subst c; rw [updc_at]
    · rw [updc_ne _ _ c]; exact hz a a0 (by omega)
theorem FS9 {N : Int → Prop} (g : GW n lf sz sy) {x : Int} : ¬ FS N n lf sz sy 9 x := by
  intro z
  refine z (fun _ => False) ?_
  rintro r r0 r1 (⟨k, k0, k1, _, l | l⟩ | ⟨_, f⟩)
  · have := g.2.2.2.1 r k r0 (by omega) k0 k1; omega
  · exact l.2.2
  · exact f
theorem c_40 {t r a d : Int} {h : ab_S} {K : ab_O → ab_S → Prop} (g : GW n lf sz sy) (mg : MG n lf sz sy (h 6 1) (h 20) (h 21) (h 22)) (hr : 0 ≤ r ∧ r ≤ n) (ha : 0 ≤ a ∧ a ≤ sz r) (ht : 4 ≤ t ∧ t ≤ 9) (hN : rep (h 23) (NL n lf sz sy)) (hB : BG (NL n lf sz sy) n lf sz sy (h 24))
    (H1 : FO (NL n lf sz sy) (FS (NL n lf sz sy) n lf sz sy t) sz sy t r a (t = d) → K (oI 1) h) (H0 : ¬ FO (NL n lf sz sy) (FS (NL n lf sz sy) n lf sz sy t) sz sy t r a (t = d) → K (oI 0) h) : C 40 [vR 6, vI t, vI r, vI a, vI d] h K := by
  have hs := g.2.2.1 r hr.1 hr.2
  have es := mg_sz g mg hr
  have key : ∀ (w4 : ab_V) (v : Int), (v = 1 ∧ FO (NL n lf sz sy) (FS (NL n lf sz sy) n lf sz sy t) sz sy t r a (t = d)) ∨ (v = 0 ∧ ¬ (emp (NL n lf sz sy) sy r a (sz r) ∧ t = d)) → X 40 17 [vR 6, vI t, vI r, vI a, w4, vI v, vI a] [] h K := by
    intro w4 v hv
    refine lp (P := fun k => ∀ v : Int, (v = 1 ∧ FO (NL n lf sz sy) (FS (NL n lf sz sy) n lf sz sy t) sz sy t r a (t = d)) ∨ (v = 0 ∧ ¬ (emp (NL n lf sz sy) sy r a (sz r) ∧ t = d) ∧ ¬ FOp (NL n lf sz sy) (FS (NL n lf sz sy) n lf sz sy t) sy t r a k) → X 40 17 [vR 6, vI t, vI r, vI a, w4, vI v, vI k] [] h K) a (sz r) ha.2 ?_ v ?_
    · intro k k0 k1 ih v hv
      have hend : ¬ FOp (NL n lf sz sy) (FS (NL n lf sz sy) n lf sz sy t) sy t r a k → (9 ≤ t ∨ sz r ≤ k) → ¬ FOp (NL n lf sz sy) (FS (NL n lf sz sy) n lf sz sy t) sy t r a (sz r) := by
        rintro hn (o | o) ⟨j, j0, j1, je, jl⟩
        · have e : t = 9 := by omega
          subst e
          have := g.2.2.2.1 r j hr.1 hr.2 (by omega) j1
          rcases jl with jl | jl
          · omega
          · exact FS9 g jl.2.2
        · exact hn ⟨j, j0, by omega, je, jl⟩
      have fin : (9 ≤ t ∨ sz r ≤ k) → K (oI v) h := by
        intro o
        rcases hv with ⟨e, q⟩ | ⟨e, q1, q2⟩
        · subst e; exact H1 q
        · subst e
          refine H0 ?_
          rintro (f | f)
          · exact hend q2 o f
          · exact q1 f
      refine s_40_17 t r a v k w4 h K ⟨⟨hr.1, mg_pre8 g mg hr⟩, ?_⟩
      rw [es]
      refine ⟨fun z => ⟨by omega, fin (Or.inr z)⟩, fun z => ⟨fun z2 => ⟨by omega, fin (Or.inl z2)⟩, fun z2 => ⟨fun z3 => ⟨by omega, ?_⟩, fun z3 => ?_⟩⟩⟩
      · rcases hv with ⟨e, q⟩ | ⟨e, q⟩
        · exact ih z 1 (Or.inl ⟨rfl, q⟩)
        · omega
      · have hv : ¬ (emp (NL n lf sz sy) sy r a (sz r) ∧ t = d) ∧ ¬ FOp (NL n lf sz sy) (FS (NL n lf sz sy) n lf sz sy t) sy t r a k := by
          rcases hv with ⟨e, q⟩ | ⟨e, q⟩
          · omega
          · exact q
        have hy := g.2.2.2.1 r k hr.1 hr.2 (by omega) z
        have e1 := mg_nx1 g mg hr (d := k) ⟨by omega, z⟩
        have hb := hB (sy (r * 4 + k)) t hy.1 hy.2 ht.1 z2
        refine c_38 g mg hr ⟨ha.1, k0⟩ (by omega) (fun he => ?_) (fun he => ?_)
        · rw [rep_emp hN] at he
          refine ⟨fun q => absurd q (by decide), fun _ => ?_⟩
          rw [e1]
          refine ⟨⟨⟨hr.1, mg_pre g mg hr, by omega⟩, by omega, by omega⟩, fun z4 => ⟨by omega, ih z 0 (Or.inr ⟨rfl, hv.1, ?_⟩)⟩, fun z4 => ⟨by omega, ih z 1 (Or.inl ⟨rfl, Or.inl ⟨k, k0, z, he, hb.mp z4⟩⟩)⟩⟩
          rw [FOp_succ k0 he]
          rintro (q | q)
          · exact hv.2 q
          · exact absurd z4 (hb.mpr q)
        · rw [rep_emp hN] at he
          refine ⟨fun _ => ⟨by omega, ih z 0 (Or.inr ⟨rfl, hv.1, ?_⟩)⟩, fun q => absurd rfl q⟩
          rintro ⟨j, j0, j1, je, jl⟩
          by_cases c : j = k
          · subst c; exact he je
          · exact hv.2 ⟨j, j0, by omega, je, jl⟩
    · rcases hv with q | ⟨e, q⟩
      · exact Or.inl q
      · refine Or.inr ⟨e, q, ?_⟩
        rintro ⟨j, j0, j1, _⟩
        omega
  refine s_40_0 t r a d h K ⟨fun z => key _ 0 (Or.inr ⟨rfl, fun q => z q.2⟩), fun z => ⟨⟨hr.1, mg_pre8 g mg hr⟩, ?_⟩⟩
  rw [es]
  refine c_38 g mg hr ha (Int.le_refl _) (fun he => ?_) (fun he => ?_)
  · rw [rep_emp hN] at he
    exact ⟨fun q => absurd q (by decide), fun _ => key _ 1 (Or.inl ⟨rfl, Or.inr ⟨he, z⟩⟩)⟩
  · rw [rep_emp hN] at he
    exact ⟨fun _ => key _ 0 (Or.inr ⟨rfl, fun q => he q.1⟩), fun q => absurd rfl q⟩
end Study
