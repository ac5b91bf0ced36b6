/-! What the check looks for, as statements; and the program's looking, item by item. -/
section Check
def ig (v : Int) : Prop := 0 ≤ v ∧ v < 50
def w1 (n s r d : Int) : Prop := (s = 0 ∧ 0 < d) ∨ (¬ s = 0 ∧ r = n ∧ d = 0)
def w4 (n : Int) (lf E : Int → Int) (s r d : Int) : Prop := ¬ r = n ∧ d = 0 ∧ ¬ ig (E (10 * s + lf r))
def w6 (n : Int) (lf sz sy : Int → Int) (I : Int → Int → Prop) (s r d a : Int) : Prop := d < sz r ∧ sy (r * 4 + d) < 4 ∧ ∃ q u, 0 ≤ q ∧ q < n ∧ lf q = sy (r * 4 + d) ∧ 4 ≤ u ∧ u ≤ 9 ∧ FO (NL n lf sz sy) (FS (NL n lf sz sy) n lf sz sy u) sz sy u r (d + 1) (u = a) ∧ ¬ I s (30 * q + (u - 4))
def w7 (sz sy : Int → Int) (I : Int → Int → Prop) (E : Int → Int) (s r d a : Int) : Prop := d < sz r ∧ (¬ ig (E (10 * s + sy (r * 4 + d))) ∨ ¬ I (E (10 * s + sy (r * 4 + d))) (30 * r + 6 * (d + 1) + (a - 4)))
def w8 (n : Int) (sz E : Int → Int) (s r d a : Int) : Prop := d = sz r ∧ ¬ E (10 * s + a) = due n r
def wr (n : Int) (lf sz sy : Int → Int) (A : au_T) (k s r d a : Int) : Prop := (k = 1 ∧ w1 n s r d) ∨ (k = 4 ∧ w4 n lf A.2.2 s r d) ∨ (k = 6 ∧ w6 n lf sz sy A.2.1 s r d a) ∨ (k = 7 ∧ w7 sz sy A.2.1 A.2.2 s r d a) ∨ (k = 8 ∧ w8 n sz A.2.2 s r d a)
def w2 (sz sy : Int → Int) (I : Int → Int → Prop) (E : Int → Int) (s x : Int) : Prop := ig (E (10 * s + x)) ∧ ∃ j, 0 ≤ j ∧ j < 270 ∧ 0 < j % 30 / 6 ∧ I (E (10 * s + x)) j ∧ ¬ (nx sz sy (j - 6) = x ∧ I s (j - 6))
def w3 (n : Int) (sz : Int → Int) (I : Int → Int → Prop) (E : Int → Int) (s x : Int) : Prop := ¬ E (10 * s + x) = -1 ∧ ((ig (E (10 * s + x)) ∧ (E (10 * s + x) = 0 ∨ x = 9)) ∨ (¬ ig (E (10 * s + x)) ∧ (x < 4 ∨ (E (10 * s + x) = 200 ∧ (¬ x = 9 ∨ ¬ I s (30 * n + 11))) ∨ (¬ E (10 * s + x) = 200 ∧ ¬ I s (30 * (E (10 * s + x) - 100) + 6 * sz (E (10 * s + x) - 100) + (x - 4))))))
def ws (n : Int) (sz sy : Int → Int) (A : au_T) (k s x : Int) : Prop := (k = 2 ∧ w2 sz sy A.2.1 A.2.2 s x) ∨ (k = 3 ∧ w3 n sz A.2.1 A.2.2 s x)
variable {n : Int} {lf sz sy : Int → Int} {A : au_T}
theorem wr_1 {s r d a : Int} : wr n lf sz sy A 1 s r d a ↔ w1 n s r d := by unfold wr; simp
theorem wr_4 {s r d a : Int} : wr n lf sz sy A 4 s r d a ↔ w4 n lf A.2.2 s r d := by unfold wr; simp
theorem wr_6 {s r d a : Int} : wr n lf sz sy A 6 s r d a ↔ w6 n lf sz sy A.2.1 s r d a := by unfold wr; simp
theorem wr_7 {s r d a : Int} : wr n lf sz sy A 7 s r d a ↔ w7 sz sy A.2.1 A.2.2 s r d a := by unfold wr; simp
theorem wr_8 {s r d a : Int} : wr n lf sz sy A 8 s r d a ↔ w8 n sz A.2.2 s r d a := by unfold wr; simp
theorem ws_2 {s x : Int} : ws n sz sy A 2 s x ↔ w2 sz sy A.2.1 A.2.2 s x := by unfold ws; simp
theorem ws_3 {s x : Int} : ws n sz sy A 3 s x ↔ w3 n sz A.2.1 A.2.2 s x := by unfold ws; simp
theorem rc_rg {c : Int} {e t : Int → Int} (R : RC A c e t) {s k : Int} (hs : 0 ≤ s ∧ s < A.1) (hk : 0 ≤ k ∧ k < 45) : 0 ≤ t (s * 45 + k) ∧ t (s * 45 + k) < 64 := (R.2.1 s hs.1 hs.2).1 k hk.1 hk.2
theorem rc_bt {c : Int} {e t : Int → Int} (R : RC A c e t) {s k u : Int} (hs : 0 ≤ s ∧ s < A.1) (hk : 0 ≤ k ∧ k < 45) (hu : 0 ≤ u ∧ u < 6) : bt (t (s * 45 + k)) u = 1 ↔ A.2.1 s (6 * k + u) := by
  rw [← (R.2.1 s hs.1 hs.2).2 (6 * k + u) (by omega) (by omega)]
  unfold ms row
  rw [show (6 * k + u) / 6 = k by omega, show (6 * k + u) % 6 = u by omega]
theorem rc_it {c : Int} {e t : Int → Int} (R : RC A c e t) {s r d a : Int} (hs : 0 ≤ s ∧ s < A.1) (hr : 0 ≤ r ∧ r < 9) (hd : 0 ≤ d ∧ d < 5) (ha : 4 ≤ a ∧ a ≤ 9) : bt (t (s * 45 + (r * 5 + d))) (a - 4) = 1 ↔ A.2.1 s (30 * r + 6 * d + (a - 4)) := by
  rw [rc_bt R hs (by omega) (by omega), show 6 * (r * 5 + d) + (a - 4) = 30 * r + 6 * d + (a - 4) by omega]
theorem c_103 {s r a : Int} {h : ab_S} {K : ab_O → ab_S → Prop} (G : GE n lf sz sy h) (g : GW n lf sz sy) (B : AI n sz A) (R : RC A (h 2 0) (h 12) (h 13)) (hs : 0 ≤ s ∧ s < A.1) (hr : 0 ≤ r ∧ r ≤ n) (ha : 4 ≤ a ∧ a ≤ 9)
    (H1 : ¬ A.2.2 (10 * s + a) = due n r → K (oI 1) h) (H0 : A.2.2 (10 * s + a) = due n r → K (oI 0) h) : C 103 [vR 4, vI s, vI r, vI a] h K := by
  have hc := B.1
  have gn := g.1
  obtain ⟨e1, -, -, -⟩ := G
  have ee := R.2.2 s a hs.1 hs.2 (by omega) (by omega)
  refine s_103_0 s r a h K ?_
  rw [e1, ee]
  unfold due at H1 H0
  refine ⟨fun z => ⟨by omega, fun z2 => ?_, fun z2 => ?_⟩, fun z => ⟨by omega, fun z2 => ?_, fun z2 => ?_⟩⟩
  · rw [if_neg z] at H0; exact H0 z2
  · rw [if_neg z] at H1; exact H1 z2
  · rw [if_pos z] at H0; exact H0 z2
  · rw [if_pos z] at H1; exact H1 z2
theorem ok_go {v : Int} (B : AI n sz A) (o : okE n A.1 v) (z : ig v) : 0 ≤ v ∧ v < A.1 := by
  have := B.1
  unfold ig at z
  unfold okE at o
  omega
theorem c_102 {s r d a : Int} {h : ab_S} {K : ab_O → ab_S → Prop} (G : GE n lf sz sy h) (g : GW n lf sz sy) (B : AI n sz A) (R : RC A (h 2 0) (h 12) (h 13)) (hs : 0 ≤ s ∧ s < A.1) (hr : 0 ≤ r ∧ r ≤ n) (hd : 0 ≤ d ∧ d < sz r) (ha : 4 ≤ a ∧ a ≤ 9)
    (H1 : w7 sz sy A.2.1 A.2.2 s r d a → K (oI 1) h) (H0 : ¬ w7 sz sy A.2.1 A.2.2 s r d a → K (oI 0) h) : C 102 [vR 4, vI s, vI r, vI d, vI a] h K := by
  have hc := B.1
  have gn := g.1
  have hsz := g.2.2.1 r hr.1 hr.2
  have hy := g.2.2.2.1 r d hr.1 hr.2 hd.1 hd.2
  obtain ⟨-, -, -, e9⟩ := G
  refine s_102_0 s r d a h K ?_
  rw [e9]
  unfold w7 at H1 H0
  obtain ⟨y, ey⟩ : ∃ y, y = sy (r * 4 + d) := ⟨_, rfl⟩
  rw [← ey] at hy H1 H0 ⊢
  rw [R.2.2 s y hs.1 hs.2 (by omega) (by omega)]
  have ok := B.2.2 s y hs.1 hs.2 (by omega) (by omega)
  obtain ⟨T, eT⟩ : ∃ T, T = A.2.2 (10 * s + y) := ⟨_, rfl⟩
  rw [← eT] at ok H1 H0 ⊢
  refine ⟨by omega, fun z => H1 ⟨hd.2, Or.inl (fun q => absurd q.1 (by omega))⟩, fun z => ⟨fun z2 => H1 ⟨hd.2, Or.inl (fun q => absurd q.2 (by omega))⟩, fun z2 => ?_⟩⟩
  have hT := ok_go B ok ⟨z, z2⟩
  have rg := rc_rg R hT (k := r * 5 + (d + 1)) (by omega)
  have it := rc_it R hT (r := r) (d := d + 1) (a := a) (by omega) (by omega) ha
  refine ⟨by omega, fun z3 => H1 ⟨hd.2, Or.inr (fun q => tst0 rg ha z3 (it.mpr q))⟩, fun z3 => H0 ?_⟩
  rintro ⟨_, q | q⟩
  · exact q ⟨z, z2⟩
  · exact q (it.mp (tst1 rg ha z3))
theorem c_101 {s r d a : Int} {h : ab_S} {K : ab_O → ab_S → Prop} (G : GE n lf sz sy h) (g : GW n lf sz sy) (L : LN h) (B : AI n sz A) (R : RC A (h 2 0) (h 12) (h 13)) (hs : 0 ≤ s ∧ s < A.1) (hr : 0 ≤ r ∧ r ≤ n) (hd : 0 ≤ d ∧ d < sz r) (ha : 4 ≤ a ∧ a ≤ 9)
    (H1 : w6 n lf sz sy A.2.1 s r d a → K (oI 1) h) (H0 : ¬ w6 n lf sz sy A.2.1 s r d a → K (oI 0) h) : C 101 [vR 4, vI s, vI r, vI d, vI a] h K := by
  obtain ⟨rfl, rfl, rfl, rfl⟩ := G
  have hc := B.1
  have gn := g.1
  have hsz := g.2.2.1 r hr.1 hr.2
  have hy := g.2.2.2.1 r d hr.1 hr.2 hd.1 hd.2
  refine s_101_0 s r d a h K ⟨by omega, fun z => absurd z (by omega), fun _ => ⟨fun z => H0 (fun q => absurd q.2.1 (by omega)), fun z => ⟨by omega, ?_⟩⟩⟩
  refine c_113 g hr ⟨by omega, by omega⟩ (shl_rg ha) (fun x a b => (L.2 x a b).1) (fun v hv hb => ?_)
  have hb : ∀ u, 4 ≤ u → u ≤ 9 → (bt v (u - 4) = 1 ↔ FO (NL (h 1 0) (h 7) (h 8) (h 9)) (FS (NL (h 1 0) (h 7) (h 8) (h 9)) (h 1 0) (h 7) (h 8) (h 9) u) (h 8) (h 9) u r (d + 1) (u = a)) := by
    intro u u0 u1
    have q := hb (u - 4) (by omega) (by omega)
    rw [ln_fo L (by omega), show u - 4 + 4 = u by omega] at q
    refine q.trans ⟨FO_ah (fun y => ?_), FO_ah (fun y => ?_)⟩
    · have := (shl_bt ha (by omega)).mp y; omega
    · exact (shl_bt ha (by omega)).mpr (by omega)
  show X 101 23 [vR 4, vI s, vI r, vI d, vI a, vI (h 9 (r * 4 + d)), vI v, vI 0] [] h K
  refine lp (P := fun q => (∀ q', 0 ≤ q' → q' < q → h 7 q' = h 9 (r * 4 + d) → ∀ u, 4 ≤ u → u ≤ 9 → FO (NL (h 1 0) (h 7) (h 8) (h 9)) (FS (NL (h 1 0) (h 7) (h 8) (h 9)) (h 1 0) (h 7) (h 8) (h 9) u) (h 8) (h 9) u r (d + 1) (u = a) → A.2.1 s (30 * q' + (u - 4))) → X 101 23 [vR 4, vI s, vI r, vI d, vI a, vI (h 9 (r * 4 + d)), vI v, vI q] [] h K) 0 (h 1 0) (by omega) ?_ (fun q' a b => absurd b (by omega))
  intro q q0 q1 ih hq
  have e0 : q * 5 + 0 = q * 5 := by omega
  refine s_101_23 s (h 9 (r * 4 + d)) v q _ _ _ h K ?_
  rw [e0]
  refine ⟨fun z2 => H0 ?_, fun z2 => ⟨by omega, fun z3 => ⟨by omega, ih z2 (fun q' a b e => ?_)⟩, fun z3 => ⟨by omega, fun z4 => ⟨by omega, ih z2 (fun q' a b e u u0 u1 f => ?_)⟩, fun z4 => H1 ?_⟩⟩⟩
  · rintro ⟨_, _, q', u, b0, b1, b2, b3, b4, b5, b6⟩
    exact b6 (hq q' b0 (by omega) b2 u b3 b4 b5)
  · by_cases c : q' = q
    · subst c; exact absurd e z3
    · exact hq q' a (by omega) e
  · by_cases c : q' = q
    · subst c
      have rg := rc_rg R hs (k := q' * 5) (by omega)
      have := sub0 hv rg z4 (u - 4) (by omega) (by omega) ((hb u u0 u1).mpr f)
      rw [rc_bt R hs (by omega) (by omega), show 6 * (q' * 5) + (u - 4) = 30 * q' + (u - 4) by omega] at this
      exact this
    · exact hq q' a (by omega) e u u0 u1 f
  · have rg := rc_rg R hs (k := q * 5) (by omega)
    obtain ⟨t, t0, t1, tb, tn⟩ := sub1 hv rg z4
    refine ⟨hd.2, z, q, t + 4, q0, z2, z3, by omega, by omega, (hb (t + 4) (by omega) (by omega)).mp ?_, fun y => tn ?_⟩
    · rw [show t + 4 - 4 = t by omega]; exact tb
    · rw [rc_bt R hs (by omega) (by omega), show 6 * (q * 5) + t = 30 * q + (t + 4 - 4) by omega]
      exact y
theorem c_98 {k s r d a : Int} {h : ab_S} {K : ab_O → ab_S → Prop} (hk : k = 1 ∨ k = 4 ∨ k = 6 ∨ k = 7 ∨ k = 8) (G : GE n lf sz sy h) (g : GW n lf sz sy) (L : LN h) (B : AI n sz A) (R : RC A (h 2 0) (h 12) (h 13)) (hs : 0 ≤ s ∧ s < A.1) (hr : 0 ≤ r ∧ r ≤ n) (hd : 0 ≤ d ∧ d ≤ sz r) (ha : 4 ≤ a ∧ a ≤ 9)
    (H1 : wr n lf sz sy A k s r d a → K (oI 1) h) (H0 : ¬ wr n lf sz sy A k s r d a → K (oI 0) h) : C 98 [vR 4, vI k, vI s, vI r, vI d, vI a] h K := by
  have hc := B.1
  have gn := g.1
  obtain ⟨e1, e7, e8, e9⟩ := id G
  refine s_98_0 k s r d a h K ?_
  rw [e1, e7, e8]
  have hl := g.2.1 r hr.1
  rcases hk with e | e | e | e | e
  · subst e
    rw [wr_1] at H1 H0
    unfold w1 at H1 H0
    refine ⟨by omega, fun z => ⟨fun _ => ⟨fun z2 => ⟨fun z3 => H0 (by omega), fun z3 => ⟨fun z4 => H0 (by omega), fun z4 => H1 (by omega)⟩⟩, fun z2 => ⟨fun z3 => H0 (by omega), fun z3 => H1 (by omega)⟩⟩, ?_⟩, fun z => ⟨fun _ => ⟨fun z2 => ⟨fun z3 => H0 (by omega), fun z3 => ⟨fun z4 => H0 (by omega), fun z4 => H1 (by omega)⟩⟩, fun z2 => ⟨fun z3 => H0 (by omega), fun z3 => H1 (by omega)⟩⟩, ?_⟩⟩
    all_goals
      refine ⟨fun q => absurd q (by decide), fun q => absurd q (by decide), fun q => absurd q (by decide), fun q => absurd q (by decide), fun q => absurd q (by decide), fun q => absurd q (by decide), fun q => absurd q (by decide)⟩
  · subst e
    rw [wr_4] at H1 H0
    unfold w4 ig at H1 H0
    have go : ((r = n → K (oI 0) h) ∧ (¬ r = n → ((¬ d = 0 → K (oI 0) h) ∧ (d = 0 → ((0 ≤ r ∧ r < 8) ∧ (-2147483648 ≤ s * 10 ∧ s * 10 ≤ 2147483647) ∧ (0 ≤ (s * 10) + (lf r) ∧ (s * 10) + (lf r) < 500)) ∧ ((h 12 ((s * 10) + (lf r)) < 0 → K (oI 1) h) ∧ (0 ≤ h 12 ((s * 10) + (lf r)) → ((50 ≤ h 12 ((s * 10) + (lf r)) → K (oI 1) h) ∧ (h 12 ((s * 10) + (lf r)) < 50 → K (oI 0) h)))))))) := by
      refine ⟨fun z => H0 (fun q => q.1 z), fun z => ⟨fun z2 => H0 (fun q => z2 q.2.1), fun z2 => ?_⟩⟩
      have hl := hl (by omega)
      rw [R.2.2 s (lf r) hs.1 hs.2 (by omega) (by omega)]
      refine ⟨by omega, fun z3 => H1 ⟨z, z2, by omega⟩, fun z3 => ⟨fun z4 => H1 ⟨z, z2, by omega⟩, fun z4 => H0 (fun q => q.2.2 ⟨z3, z4⟩)⟩⟩
    refine ⟨by omega, fun z => ⟨fun q => absurd q (by decide), fun q => absurd q (by decide), fun q => absurd q (by decide), fun _ => go, fun q => absurd q (by decide), fun q => absurd q (by decide), fun q => absurd q (by decide), fun q => absurd q (by decide)⟩, fun z => ⟨fun q => absurd q (by decide), fun q => absurd q (by decide), fun q => absurd q (by decide), fun _ => go, fun q => absurd q (by decide), fun q => absurd q (by decide), fun q => absurd q (by decide), fun q => absurd q (by decide)⟩⟩
  · subst e
    rw [wr_6] at H1 H0
    refine ⟨by omega, fun z => ⟨fun q => absurd q (by decide), fun q => absurd q (by decide), fun q => absurd q (by decide), fun q => absurd q (by decide), fun q => absurd q (by decide), fun _ => c_101 G g L B R hs hr ⟨hd.1, by omega⟩ ha (fun y => ⟨fun q => absurd q (by decide), fun _ => H1 y⟩) (fun y => ⟨fun _ => H0 y, fun q => absurd rfl q⟩), fun q => absurd q (by decide), fun q => absurd q (by decide)⟩, fun z => ⟨fun q => absurd q (by decide), fun q => absurd q (by decide), fun q => absurd q (by decide), fun q => absurd q (by decide), fun q => absurd q (by decide), fun _ => H0 (fun q => absurd q.1 (by omega)), fun q => absurd q (by decide), fun q => absurd q (by decide)⟩⟩
  · subst e
    rw [wr_7] at H1 H0
    refine ⟨by omega, fun z => ⟨fun q => absurd q (by decide), fun q => absurd q (by decide), fun q => absurd q (by decide), fun q => absurd q (by decide), fun q => absurd q (by decide), fun q => absurd q (by decide), fun _ => c_102 G g B R hs hr ⟨hd.1, by omega⟩ ha (fun y => ⟨fun q => absurd q (by decide), fun _ => H1 y⟩) (fun y => ⟨fun _ => H0 y, fun q => absurd rfl q⟩), fun q => absurd q (by decide)⟩, fun z => ⟨fun q => absurd q (by decide), fun q => absurd q (by decide), fun q => absurd q (by decide), fun q => absurd q (by decide), fun q => absurd q (by decide), fun q => absurd q (by decide), fun _ => H0 (fun q => absurd q.1 (by omega)), fun q => absurd q (by decide)⟩⟩
  · subst e
    rw [wr_8] at H1 H0
    refine ⟨by omega, fun z => ⟨fun q => absurd q (by decide), fun q => absurd q (by decide), fun q => absurd q (by decide), fun q => absurd q (by decide), fun q => absurd q (by decide), fun q => absurd q (by decide), fun q => absurd q (by decide), fun _ => H0 (fun q => z q.1)⟩, fun z => ⟨fun q => absurd q (by decide), fun q => absurd q (by decide), fun q => absurd q (by decide), fun q => absurd q (by decide), fun q => absurd q (by decide), fun q => absurd q (by decide), fun q => absurd q (by decide), fun _ => c_103 G g B R hs hr ha (fun y => ⟨fun q => absurd q (by decide), fun _ => H1 ⟨z, y⟩⟩) (fun y => ⟨fun _ => H0 (fun q => q.2 y), fun q => absurd rfl q⟩)⟩⟩
theorem c_99 {s x : Int} {h : ab_S} {K : ab_O → ab_S → Prop} (G : GE n lf sz sy h) (g : GW n lf sz sy) (B : AI n sz A) (R : RC A (h 2 0) (h 12) (h 13)) (hs : 0 ≤ s ∧ s < A.1) (hx : 0 ≤ x ∧ x < 10)
    (H1 : w2 sz sy A.2.1 A.2.2 s x → K (oI 1) h) (H0 : ¬ w2 sz sy A.2.1 A.2.2 s x → K (oI 0) h) : C 99 [vR 4, vI s, vI x] h K := by
  obtain ⟨rfl, rfl, rfl, rfl⟩ := G
  obtain ⟨⟨n0, n8⟩, gl, gs, gy, -, -⟩ := id g
  have hc := B.1
  refine s_99_0 s x h K ?_
  rw [R.2.2 s x hs.1 hs.2 hx.1 hx.2]
  have ok := B.2.2 s x hs.1 hs.2 hx.1 hx.2
  unfold w2 at H1 H0
  obtain ⟨T, eT⟩ : ∃ T, T = A.2.2 (10 * s + x) := ⟨_, rfl⟩
  rw [← eT] at ok H1 H0 ⊢
  refine ⟨by omega, fun z => H0 (fun q => absurd q.1.1 (by omega)), fun z => ⟨fun z2 => H0 (fun q => absurd q.1.2 (by omega)), fun z2 => ?_⟩⟩
  have hT := ok_go B ok ⟨z, z2⟩
  -- the items with a dot at d of the rule r, all through
  let fine (r d : Int) : Prop := ∀ u, 0 ≤ u → u < 6 → A.2.1 T (30 * r + 6 * d + u) → h 9 (r * 4 + (d - 1)) = x ∧ A.2.1 s (30 * r + 6 * (d - 1) + u)
  have bad : ∀ r d u, 0 ≤ r → r ≤ h 1 0 → 1 ≤ d → d ≤ h 8 r → 0 ≤ u → u < 6 → A.2.1 T (30 * r + 6 * d + u) → ¬ (h 9 (r * 4 + (d - 1)) = x ∧ A.2.1 s (30 * r + 6 * (d - 1) + u)) → K (oI 1) h := by
    intro r d u r0 r1 d0 d1 u0 u1 y1 y2
    have hsz := gs r r0 r1
    refine H1 ⟨⟨z, z2⟩, 30 * r + 6 * d + u, by omega, by omega, by omega, y1, fun y3 => y2 ?_⟩
    rw [show 30 * r + 6 * d + u - 6 = 30 * r + 6 * (d - 1) + u by omega] at y3
    have y4 := y3.1
    unfold nx at y4
    rw [show (30 * r + 6 * (d - 1) + u) / 30 = r by omega, show (30 * r + 6 * (d - 1) + u) % 30 / 6 = d - 1 by omega, if_pos (by omega)] at y4
    exact ⟨y4, y3.2⟩
  refine lp (P := fun r => (∀ r' d', 0 ≤ r' → r' < r → 1 ≤ d' → d' ≤ h 8 r' → fine r' d') → ∀ w5 w6 w7, X 99 13 [vR 4, vI s, vI x, vI T, vI r, w5, w6, w7] [] h K) 0 (h 1 0 + 1) (by omega) ?_ (fun r' d' a b => absurd b (by omega)) _ _ _
  intro r r0 r1 ihr hf w5 w6 w7
  refine s_99_13 s x T r w5 w6 w7 h K ⟨fun z3 => H0 ?_, fun z3 => ?_⟩
  · rintro ⟨_, j, j0, j1, jd, y1, y2⟩
    have l := B.2.1 T j hT.1 hT.2 j0 j1 y1
    have l2 := l.2
    have f := hf (j / 30) (j % 30 / 6) (by omega) (by have := l.1; omega) (by omega) l.2 (j % 6) (by omega) (by omega)
    rw [show 30 * (j / 30) + 6 * (j % 30 / 6) + j % 6 = j by omega, show 30 * (j / 30) + 6 * (j % 30 / 6 - 1) + j % 6 = j - 6 by omega] at f
    refine y2 ⟨?_, (f y1).2⟩
    unfold nx
    rw [show (j - 6) / 30 = j / 30 by omega, show (j - 6) % 30 / 6 = j % 30 / 6 - 1 by omega, if_pos (by omega)]
    exact (f y1).1
  · have hsz := gs r r0 z3
    refine lp (P := fun d => (∀ d', 1 ≤ d' → d' < d → fine r d') → ∀ w6 w7, X 99 20 [vR 4, vI s, vI x, vI T, vI r, vI d, w6, w7] [] h K) 1 (h 8 r + 1) (by omega) ?_ (fun d' a b => absurd b (by omega)) _ _
    intro d d0 d1 ihd hfd w6 w7
    have rg := fun q : d ≤ h 8 r => rc_rg R hT (k := r * 5 + d) (by omega)
    have it := fun (q : d ≤ h 8 r) (u : Int) (hu : 0 ≤ u ∧ u < 6) => rc_bt R hT (k := r * 5 + d) (u := u) (by omega) hu
    have nxd : ∀ w6 w7, d ≤ h 8 r → fine r d → X 99 20 [vR 4, vI s, vI x, vI T, vI r, vI (d + 1), w6, w7] [] h K := by
      intro w6 w7 q f
      refine ihd (by omega) (fun d' a b => ?_) _ _
      by_cases c : d' = d
      · subst c; exact f
      · exact hfd d' a (by omega)
    refine s_99_20 s x T r d w6 w7 h K ⟨by omega, fun z4 => ⟨by omega, ihr (by omega) (fun r' d' a b e f => ?_) _ _ _⟩, fun z4 => ⟨by omega, fun z5 => ⟨fun z6 => ⟨by omega, nxd _ _ z4 (fun u u0 u1 y => ?_)⟩, fun z6 => ?_⟩, fun z5 => ⟨by omega, fun z6 => ⟨by omega, nxd _ _ z4 (fun u u0 u1 y => ?_)⟩, fun z6 => ?_⟩⟩⟩
    · by_cases c : r' = r
      · subst c; exact hfd d' e (by omega)
      · exact hf r' d' a (by omega) e f
    · have := sub0 (rg z4) (y := 0) (by decide) z6 u u0 u1 ((it z4 u ⟨u0, u1⟩).mpr (by rw [show 6 * (r * 5 + d) + u = 30 * r + 6 * d + u by omega]; exact y))
      rw [bt_zero] at this
      exact absurd this (by decide)
    · obtain ⟨t, t0, t1, tb, tn⟩ := sub1 (rg z4) (y := 0) (by decide) z6
      rw [it z4 t ⟨t0, t1⟩, show 6 * (r * 5 + d) + t = 30 * r + 6 * d + t by omega] at tb
      exact bad r d t r0 z3 d0 z4 t0 t1 tb (fun q => z5 q.1)
    · have rg2 := rc_rg R hs (k := r * 5 + (d - 1)) (by omega)
      have := sub0 (rg z4) rg2 z6 u u0 u1 ((it z4 u ⟨u0, u1⟩).mpr (by rw [show 6 * (r * 5 + d) + u = 30 * r + 6 * d + u by omega]; exact y))
      rw [rc_bt R hs (by omega) ⟨u0, u1⟩, show 6 * (r * 5 + (d - 1)) + u = 30 * r + 6 * (d - 1) + u by omega] at this
      exact ⟨z5, this⟩
    · have rg2 := rc_rg R hs (k := r * 5 + (d - 1)) (by omega)
      obtain ⟨t, t0, t1, tb, tn⟩ := sub1 (rg z4) rg2 z6
      rw [it z4 t ⟨t0, t1⟩, show 6 * (r * 5 + d) + t = 30 * r + 6 * d + t by omega] at tb
      refine bad r d t r0 z3 d0 z4 t0 t1 tb (fun q => tn ?_)
      rw [rc_bt R hs (by omega) ⟨t0, t1⟩, show 6 * (r * 5 + (d - 1)) + t = 30 * r + 6 * (d - 1) + t by omega]
      exact q.2
end Check
