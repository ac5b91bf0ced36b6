/-! A step of the parse as a function of the program's own cells; and the program's way to it. -/
section Parse
def psy (inp : Int → Int) (il : Int) (h : ab_S) : Int := if h 5 4 < il then inp (h 5 4) else 9
def pen (E inp : Int → Int) (il : Int) (h : ab_S) : Int := E (10 * h 17 (h 5 7 - 1) + psy inp il h)
def nod (h : ab_S) (x r b w : Int) : ab_S := ab_up (ab_up (ab_up (ab_up (ab_up (ab_up h 19 (h 5 9 * 5 + 0) x) 19 (h 5 9 * 5 + 1) r) 19 (h 5 9 * 5 + 2) (-1)) 19 (h 5 9 * 5 + 3) b) 19 (h 5 9 * 5 + 4) w) 5 9 (h 5 9 + 1)
def psh (h : ab_S) (nd st : Int) : ab_S := ab_up (ab_up (ab_up h 18 (h 5 7) nd) 17 (h 5 7) st) 5 7 (h 5 7 + 1)
def shf (h : ab_S) (x st : Int) : ab_S := ab_up (psh (nod h x (-1) (h 5 4) 1) (h 5 9) st) 5 4 (h 5 4 + 1)
def rowOn (sz sy : Int → Int) (h : ab_S) (r : Int) : Prop := sz r < h 5 7 ∧ ∀ i, 0 ≤ i → i < sz r → h 19 (h 18 (h 5 7 - sz r + i) * 5 + 0) = sy (r * 4 + i)
noncomputable def parT (h : ab_S) (b e : Int) : Int → Int := fun k => cif (∃ i, b ≤ i ∧ i < e ∧ k = h 18 i * 5 + 2) (h 5 9) (h 19 k)
def wid (sz : Int → Int) (h : ab_S) (r : Int) : Int := sm (fun i => h 19 (h 18 (h 5 7 - sz r + i) * 5 + 4)) (sz r).toNat
noncomputable def rd6 (lf sz : Int → Int) (h : ab_S) (r : Int) : ab_S := nod (upc h 19 (parT h (h 5 7 - sz r) (h 5 7))) (lf r) r (h 5 4 - wid sz h r) (wid sz h r)
def tgt (E lf sz : Int → Int) (h : ab_S) (r : Int) : Int := E (10 * h 17 (h 5 7 - sz r - 1) + lf r)
noncomputable def rdc (n : Int) (lf sz sy E : Int → Int) (h : ab_S) (r : Int) : Int × ab_S :=
  if r = n then (3, h) else cif (rowOn sz sy h r) (if 60 ≤ h 5 9 then (4, h) else if 0 ≤ tgt E lf sz h r ∧ tgt E lf sz h r < 50 then (0, psh (ab_up (rd6 lf sz h r) 5 7 (h 5 7 - sz r)) (h 5 9) (tgt E lf sz h r)) else (3, ab_up (rd6 lf sz h r) 5 7 (h 5 7 - sz r))) (3, h)
noncomputable def cst (n : Int) (lf sz sy E inp : Int → Int) (il : Int) (h : ab_S) : Int × ab_S :=
  if pen E inp il h = -1 then (2, h)
  else if 0 ≤ pen E inp il h ∧ pen E inp il h < 50 then (if psy inp il h = 9 then (3, h) else if 60 ≤ h 5 9 then (4, h) else (0, shf h (psy inp il h) (pen E inp il h)))
  else if pen E inp il h = 200 then (if h 5 7 = 2 ∧ h 19 (h 18 1 * 5 + 0) = lf 0 then (1, h) else (3, h))
  else rdc n lf sz sy E h (pen E inp il h - 100)
def PI (il c : Int) (h : ab_S) : Prop := (1 ≤ h 5 7 ∧ h 5 7 ≤ h 5 9 + 1) ∧ (0 ≤ h 5 9 ∧ h 5 9 ≤ 60) ∧ (0 ≤ h 5 4 ∧ h 5 4 ≤ il) ∧ (∀ i, 0 ≤ i → i < h 5 7 → 0 ≤ h 17 i ∧ h 17 i < c) ∧ (∀ i, 1 ≤ i → i < h 5 7 → (0 ≤ h 18 i ∧ h 18 i < h 5 9) ∧ 0 ≤ h 19 (h 18 i * 5 + 4)) ∧ sm (fun i => h 19 (h 18 (1 + i) * 5 + 4)) (h 5 7 - 1).toNat = h 5 4
variable {n : Int} {lf sz sy : Int → Int} {A : au_T}
theorem sm_cg {f g : Int → Int} {m : Nat} (h : ∀ i : Int, 0 ≤ i → i < m → f i = g i) : sm f m = sm g m := by
  induction m with
  | zero => rfl
  | succ m ih =>
    show sm f m + f m = sm g m + g m
    rw [ih (fun i a b => h i a (by omega)), h m (by omega) (by omega)]
theorem sm_nn {f : Int → Int} {m : Nat} (h : ∀ i : Int, 0 ≤ i → i < m → 0 ≤ f i) : 0 ≤ sm f m := by
  induction m with
  | zero => exact Int.le_refl _
  | succ m ih =>
    have := ih (fun i a b => h i a (by omega))
    have := h m (by omega) (by omega)
    show 0 ≤ sm f m + f m
    omega
theorem sm_add (f : Int → Int) (a b : Nat) : sm f (a + b) = sm f a + sm (fun i => f (a + i)) b := by
  induction b with
  | zero => show sm f a = sm f a + 0; omega
  | succ b ih =>
    show sm f (a + b) + f ((a + b : Nat) : Int) = sm f a + (sm (fun i => f (a + i)) b + f (a + (b : Int)))
    rw [ih, show ((a + b : Nat) : Int) = (a : Int) + (b : Int) by omega]
    omega
theorem sm_s {f : Int → Int} {i : Int} (h : 0 ≤ i) : sm f (i + 1).toNat = sm f i.toNat + f i := by
  rw [show (i + 1).toNat = i.toNat + 1 by omega]
  show sm f i.toNat + f ((i.toNat : Nat) : Int) = _
  rw [show ((i.toNat : Nat) : Int) = i by omega]
/-- the widths of what a rule takes, and of what stays -/
theorem wid_rg {il c r : Int} {h : ab_S} (P : PI il c h) (hz : 0 ≤ sz r) (hr : sz r < h 5 7) : 0 ≤ wid sz h r ∧ wid sz h r ≤ h 5 4 ∧ sm (fun i => h 19 (h 18 (1 + i) * 5 + 4)) (h 5 7 - sz r - 1).toNat = h 5 4 - wid sz h r := by
  obtain ⟨P1, P2, P3, P4, P5, P6⟩ := P
  have e := sm_add (fun i => h 19 (h 18 (1 + i) * 5 + 4)) (h 5 7 - sz r - 1).toNat (sz r).toNat
  rw [show (h 5 7 - sz r - 1).toNat + (sz r).toNat = (h 5 7 - 1).toNat by omega, P6] at e
  have e2 : sm (fun i => (fun i => h 19 (h 18 (1 + i) * 5 + 4)) ((((h 5 7 - sz r - 1).toNat : Nat) : Int) + i)) (sz r).toNat = wid sz h r := by
    unfold wid
    refine sm_cg (fun i a b => ?_)
    show h 19 (h 18 (1 + ((((h 5 7 - sz r - 1).toNat : Nat) : Int) + i)) * 5 + 4) = _
    rw [show 1 + ((((h 5 7 - sz r - 1).toNat : Nat) : Int) + i) = h 5 7 - sz r + i by omega]
  rw [e2] at e
  have a : 0 ≤ wid sz h r := sm_nn (fun i a b => (P5 (h 5 7 - sz r + i) (by omega) (by omega)).2)
  have b : 0 ≤ sm (fun i => h 19 (h 18 (1 + i) * 5 + 4)) (h 5 7 - sz r - 1).toNat := sm_nn (fun i a b => (P5 (1 + i) (by omega) (by omega)).2)
  omega
theorem c_122 {il c r : Int} {h : ab_S} {K : ab_O → ab_S → Prop} (G : GE n lf sz sy h) (g : GW n lf sz sy) (P : PI il c h) (hr : 0 ≤ r ∧ r ≤ n)
    (H1 : rowOn sz sy h r → K (oI 1) h) (H0 : ¬ rowOn sz sy h r → K (oI 0) h) : C 122 [vR 5, vI r] h K := by
  obtain ⟨rfl, rfl, rfl, rfl⟩ := G
  obtain ⟨P1, P2, P3, P4, P5, P6⟩ := P
  have gn := g.1
  have hsz := g.2.2.1 r hr.1 hr.2
  refine s_122_0 r h K ⟨by omega, fun z => ?_, fun z => H0 (fun q => absurd q.1 (by omega))⟩
  refine lp (P := fun i => (∀ j, 0 ≤ j → j < i → h 19 (h 18 (h 5 7 - h 8 r + j) * 5 + 0) = h 9 (r * 4 + j)) → X 122 18 [vR 5, vI r, vI (h 8 r), vI (h 5 7 - h 8 r), vI i] [] h K) 0 (h 8 r) hsz.1 ?_ (fun j a b => absurd b (by omega))
  intro i i0 i1 ih hj
  have p5 := P5 (h 5 7 - h 8 r + i)
  refine s_122_18 r (h 8 r) (h 5 7 - h 8 r) i h K ⟨fun z2 => H1 ⟨by omega, fun j a b => hj j a (by omega)⟩, fun z2 => ?_⟩
  have p5 := (p5 (by omega) (by omega)).1
  refine ⟨by omega, fun z3 => ⟨by omega, ih z2 (fun j a b => ?_)⟩, fun z3 => H0 (fun q => z3 (q.2 i i0 z2))⟩
  by_cases c : j = i
  · subst c; exact z3
  · exact hj j a (by omega)
theorem parT_s {h : ab_S} {b e : Int} (hb : b ≤ e) : updc (parT h b e) (h 18 e * 5 + 2) (h 5 9) = parT h b (e + 1) := by
  funext k
  unfold updc parT
  by_cases c : k = h 18 e * 5 + 2
  · rw [if_pos c, cif_pos ⟨e, hb, by omega, c⟩]
  · rw [if_neg c]
    refine cif_congr ⟨fun q => ?_, fun q => ?_⟩ _ _
    · obtain ⟨i, a, b, d⟩ := q; exact ⟨i, a, by omega, d⟩
    · obtain ⟨i, a, b, d⟩ := q
      by_cases f : i = e
      · subst f; exact absurd d c
      · exact ⟨i, a, by omega, d⟩
theorem parT_ne {h : ab_S} {b e k : Int} (c : ¬ k % 5 = 2) : parT h b e k = h 19 k := by
  unfold parT
  refine cif_neg ?_ _ _
  rintro ⟨i, _, _, d⟩
  omega
theorem c_123 {il c r : Int} {h : ab_S} {K : ab_O → ab_S → Prop} (G : GE n lf sz sy h) (g : GW n lf sz sy) (P : PI il c h) (hil : il ≤ 20) (hr : 0 ≤ r ∧ r ≤ n) (ho : sz r < h 5 7) (h60 : h 5 9 < 60)
    (H : K (oI (h 5 9)) (rd6 lf sz h r)) : C 123 [vR 5, vI (lf r), vI r] h K := by
  obtain ⟨rfl, rfl, rfl, rfl⟩ := G
  have gn := g.1
  have hsz := g.2.2.1 r hr.1 hr.2
  have wr := wid_rg P hsz.1 ho
  obtain ⟨P1, P2, P3, P4, P5, P6⟩ := P
  refine s_123_0 (h 7 r) r h K ⟨by omega, ?_⟩
  suffices T : X 123 13 [vR 5, vI (h 7 r), vI r, vI (h 5 7 - h 8 r), vI 0, vI (h 5 7 - h 8 r)] [] (upc h 19 (h 19)) K by rw [upc_self] at T; exact T
  refine lp (P := fun i => ∀ v f, v = sm (fun i => h 19 (h 18 (h 5 7 - h 8 r + i) * 5 + 4)) (i - (h 5 7 - h 8 r)).toNat → f = parT h (h 5 7 - h 8 r) i → X 123 13 [vR 5, vI (h 7 r), vI r, vI (h 5 7 - h 8 r), vI v, vI i] [] (upc h 19 f) K) (h 5 7 - h 8 r) (h 5 7) (by omega) ?_ 0 (h 19) ?_ ?_
  · intro i i0 i1 ih v f ev ef
    refine s_123_13 (h 7 r) r v i _ _ K ⟨fun (z : h 5 7 ≤ i) => ?_, fun (z : i < h 5 7) => ?_⟩
    · have ei : i = h 5 7 := by omega
      subst ei
      have evw : v = wid (h 8) h r := by
        rw [ev]
        unfold wid
        rw [show h 5 7 - (h 5 7 - h 8 r) = h 8 r by omega]
      subst evw
      subst ef
      show (_ ∧ _ ∧ _ ∧ _ ∧ _ ∧ _ ∧ _ ∧ _ ∧ _) ∧ K (oI (h 5 9 + 1 - 1)) (nod (upc h 19 (parT h (h 5 7 - h 8 r) (h 5 7))) (h 7 r) r (h 5 4 - wid (h 8) h r) (wid (h 8) h r))
      rw [show h 5 9 + 1 - 1 = h 5 9 by omega]
      refine ⟨?_, H⟩
      show (-2147483648 ≤ h 5 4 - wid (h 8) h r ∧ h 5 4 - wid (h 8) h r ≤ 2147483647) ∧ (-2147483648 ≤ h 5 9 * 5 ∧ h 5 9 * 5 ≤ 2147483647) ∧ (0 ≤ h 5 9 * 5 + 0 ∧ h 5 9 * 5 + 0 < 300) ∧ (0 ≤ h 5 9 * 5 + 1 ∧ h 5 9 * 5 + 1 < 300) ∧ (0 ≤ h 5 9 * 5 + 2 ∧ h 5 9 * 5 + 2 < 300) ∧ (0 ≤ h 5 9 * 5 + 3 ∧ h 5 9 * 5 + 3 < 300) ∧ (0 ≤ h 5 9 * 5 + 4 ∧ h 5 9 * 5 + 4 < 300) ∧ (-2147483648 ≤ h 5 9 + 1 ∧ h 5 9 + 1 ≤ 2147483647) ∧ (-2147483648 ≤ h 5 9 + 1 - 1 ∧ h 5 9 + 1 - 1 ≤ 2147483647)
      omega
    · have p5 := P5 i (by omega) z
      have e4 : ab_up (upc h 19 f) 19 (h 18 i * 5 + 2) (h 5 9) 19 (h 18 i * 5 + 4) = h 19 (h 18 i * 5 + 4) := by
        rw [up_upc, upc_at, updc_ne _ _ (by omega), ef, parT_ne (by omega)]
      have es : v + h 19 (h 18 i * 5 + 4) = sm (fun i => h 19 (h 18 (h 5 7 - h 8 r + i) * 5 + 4)) (i + 1 - (h 5 7 - h 8 r)).toNat := by
        rw [show i + 1 - (h 5 7 - h 8 r) = (i - (h 5 7 - h 8 r)) + 1 by omega, sm_s (by omega), ev, show h 5 7 - h 8 r + (i - (h 5 7 - h 8 r)) = i by omega]
      have bd : v + h 19 (h 18 i * 5 + 4) ≤ 20 ∧ 0 ≤ v + h 19 (h 18 i * 5 + 4) := by
        rw [es]
        have e := sm_add (fun i => h 19 (h 18 (h 5 7 - h 8 r + i) * 5 + 4)) (i + 1 - (h 5 7 - h 8 r)).toNat (h 5 7 - (i + 1)).toNat
        rw [show (i + 1 - (h 5 7 - h 8 r)).toNat + (h 5 7 - (i + 1)).toNat = (h 8 r).toNat by omega] at e
        have w := wr.2.1
        unfold wid at w
        rw [e] at w
        have a : 0 ≤ sm (fun i => h 19 (h 18 (h 5 7 - h 8 r + i) * 5 + 4)) (i + 1 - (h 5 7 - h 8 r)).toNat := sm_nn (fun j a b => (P5 (h 5 7 - h 8 r + j) (by omega) (by omega)).2)
        have b : 0 ≤ sm (fun j => h 19 (h 18 (h 5 7 - h 8 r + ((((i + 1 - (h 5 7 - h 8 r)).toNat : Nat) : Int) + j)) * 5 + 4)) (h 5 7 - (i + 1)).toNat := sm_nn (fun j a b => (P5 (h 5 7 - h 8 r + ((((i + 1 - (h 5 7 - h 8 r)).toNat : Nat) : Int) + j)) (by omega) (by omega)).2)
        omega
      show (_ ∧ _ ∧ _ ∧ _ ∧ (-2147483648 ≤ v + ab_up (upc h 19 f) 19 (h 18 i * 5 + 2) (h 5 9) 19 (h 18 i * 5 + 4) ∧ v + ab_up (upc h 19 f) 19 (h 18 i * 5 + 2) (h 5 9) 19 (h 18 i * 5 + 4) ≤ 2147483647) ∧ _) ∧ X 123 13 [vR 5, vI (h 7 r), vI r, vI (h 5 7 - h 8 r), vI (v + ab_up (upc h 19 f) 19 (h 18 i * 5 + 2) (h 5 9) 19 (h 18 i * 5 + 4)), vI (i + 1)] [] (ab_up (upc h 19 f) 19 (h 18 i * 5 + 2) (h 5 9)) K
      rw [e4, up_upc]
      refine ⟨?_, ih z _ _ es (by rw [ef]; exact parT_s i0)⟩
      show (0 ≤ i ∧ i < 61) ∧ (-2147483648 ≤ h 18 i * 5 ∧ h 18 i * 5 ≤ 2147483647) ∧ (0 ≤ h 18 i * 5 + 2 ∧ h 18 i * 5 + 2 < 300) ∧ (0 ≤ h 18 i * 5 + 4 ∧ h 18 i * 5 + 4 < 300) ∧ (-2147483648 ≤ v + h 19 (h 18 i * 5 + 4) ∧ v + h 19 (h 18 i * 5 + 4) ≤ 2147483647) ∧ (-2147483648 ≤ i + 1 ∧ i + 1 ≤ 2147483647)
      omega
  · rw [show h 5 7 - h 8 r - (h 5 7 - h 8 r) = 0 by omega]; rfl
  · funext k
    unfold parT
    rw [cif_neg]
    rintro ⟨i, a, b, _⟩
    omega
theorem c_121 {il r : Int} {h : ab_S} {K : ab_O → ab_S → Prop} (G : GE n lf sz sy h) (g : GW n lf sz sy) (B : AI n sz A) (R : RC A (h 2 0) (h 12) (h 13)) (P : PI il A.1 h) (hil : il ≤ 20) (hr : 0 ≤ r ∧ r ≤ n)
    (H : K (oI (rdc n lf sz sy A.2.2 h r).1) (rdc n lf sz sy A.2.2 h r).2) : C 121 [vR 5, vI r] h K := by
  have gn := g.1
  have hc := B.1
  have hsz := g.2.2.1 r hr.1 hr.2
  obtain ⟨P1, P2, P3, P4, P5, P6⟩ := id P
  obtain ⟨e1, e7, e8, e9⟩ := id G
  refine s_121_0 r h K ?_
  rw [e1]
  unfold rdc at H
  refine ⟨fun z => by rw [if_pos z] at H; exact H, fun z => ?_⟩
  rw [if_neg z] at H
  refine c_122 G g P hr (fun y => ⟨fun _ => ⟨fun z2 => ⟨by omega, ?_⟩, fun z2 => ?_⟩, fun q => absurd q (by decide)⟩) (fun y => ⟨fun q => absurd rfl q, fun _ => by rw [cif_neg y] at H; exact H⟩)
  · rw [cif_pos y, if_neg (by omega)] at H
    rw [e7]
    refine c_123 G g P hil hr y.1 z2 ?_
    have f7 : rd6 lf sz h r 5 7 = h 5 7 := rfl
    have f8 : rd6 lf sz h r 8 = sz := e8
    have f17 : rd6 lf sz h r 17 = h 17 := rfl
    have f12 : rd6 lf sz h r 12 = h 12 := rfl
    have p4 := P4 (h 5 7 - sz r - 1) (by have := y.1; omega) (by omega)
    have hl := g.2.1 r hr.1 (by omega)
    have y1 := y.1
    have eE := R.2.2 (h 17 (h 5 7 - sz r - 1)) (lf r) p4.1 p4.2 (by omega) (by omega)
    show (_ ∧ (-2147483648 ≤ rd6 lf sz h r 5 7 - rd6 lf sz h r 8 r ∧ _) ∧ _ ∧ _ ∧ _) ∧ ((rd6 lf sz h r 12 (rd6 lf sz h r 17 (rd6 lf sz h r 5 7 - rd6 lf sz h r 8 r - 1) * 10 + lf r) < 0 → _) ∧ (_ → (_ ∧ _)))
    rw [f7, f8, f17, f12, eE]
    have et : tgt A.2.2 lf sz h r = A.2.2 (10 * h 17 (h 5 7 - sz r - 1) + lf r) := rfl
    rw [← et]
    refine ⟨by omega, fun z3 => ?_, fun z3 => ⟨fun z4 => ?_, fun z4 => ⟨by omega, ?_⟩⟩⟩
    · rw [if_neg (by omega)] at H; exact H
    · rw [if_neg (by omega)] at H; exact H
    · rw [if_pos ⟨z3, z4⟩] at H; exact H
  · rw [cif_pos y, if_pos z2] at H; exact H
theorem c_120 {il c x st : Int} {h : ab_S} {K : ab_O → ab_S → Prop} (P : PI il c h) (hil : il ≤ 20)
    (H : K (oI (if x = 9 then ((3, h) : Int × ab_S) else if 60 ≤ h 5 9 then (4, h) else (0, shf h x st)).1) (if x = 9 then ((3, h) : Int × ab_S) else if 60 ≤ h 5 9 then (4, h) else (0, shf h x st)).2) : C 120 [vR 5, vI x, vI st] h K := by
  obtain ⟨P1, P2, P3, P4, P5, P6⟩ := P
  refine s_120_0 x st h K ?_
  have e1 : h 5 9 + 1 - 1 = h 5 9 := by omega
  rw [e1]
  refine ⟨fun z => ⟨fun z2 => ⟨by omega, ?_⟩, fun z2 => ?_⟩, fun z => ?_⟩
  · rw [if_neg z, if_neg (by omega)] at H; exact H
  · rw [if_neg z, if_pos z2] at H; exact H
  · rw [if_pos z] at H; exact H
theorem c_119 {inp : Int → Int} {il : Int} {h : ab_S} {K : ab_O → ab_S → Prop} (G : GE n lf sz sy h) (g : GW n lf sz sy) (B : AI n sz A) (R : RC A (h 2 0) (h 12) (h 13)) (P : PI il A.1 h) (hil : 0 ≤ il ∧ il ≤ 20) (hi : h 5 3 = il) (hin : h 16 = inp) (hx : ∀ i, 0 ≤ i → i < il → 4 ≤ inp i ∧ inp i < 9)
    (H : K (oI (cst n lf sz sy A.2.2 inp il h).1) (cst n lf sz sy A.2.2 inp il h).2) : C 119 [vR 5] h K := by
  have gn := g.1
  have hc := B.1
  obtain ⟨P1, P2, P3, P4, P5, P6⟩ := id P
  have p4 := P4 (h 5 7 - 1) (by omega) (by omega)
  have key : ∀ x, x = psy inp il h → (0 ≤ x ∧ x < 10) → ((0 ≤ (h 5 7) - 1 ∧ (h 5 7) - 1 < 61) ∧ (-2147483648 ≤ (h 17 ((h 5 7) - 1)) * 10 ∧ (h 17 ((h 5 7) - 1)) * 10 ≤ 2147483647) ∧ (0 ≤ ((h 17 ((h 5 7) - 1)) * 10) + x ∧ ((h 17 ((h 5 7) - 1)) * 10) + x < 500)) ∧ ((¬ h 12 (((h 17 ((h 5 7) - 1)) * 10) + x) = (-1) → ((h 12 (((h 17 ((h 5 7) - 1)) * 10) + x) < 0 → ((¬ h 12 (((h 17 ((h 5 7) - 1)) * 10) + x) = 200 → ((-2147483648 ≤ (h 12 (((h 17 ((h 5 7) - 1)) * 10) + x)) - 100 ∧ (h 12 (((h 17 ((h 5 7) - 1)) * 10) + x)) - 100 ≤ 2147483647)) ∧ C 121 [vR 5, vI ((h 12 (((h 17 ((h 5 7) - 1)) * 10) + x)) - 100)] h (kI (fun v31 h31 => K (oI v31) h31))) ∧ (h 12 (((h 17 ((h 5 7) - 1)) * 10) + x) = 200 → ((¬ h 5 7 = 2 → K (oI 3) h) ∧ (h 5 7 = 2 → ((-2147483648 ≤ (h 18 1) * 5 ∧ (h 18 1) * 5 ≤ 2147483647) ∧ (0 ≤ ((h 18 1) * 5) + 0 ∧ ((h 18 1) * 5) + 0 < 300)) ∧ ((¬ h 19 (((h 18 1) * 5) + 0) = h 7 0 → K (oI 3) h) ∧ (h 19 (((h 18 1) * 5) + 0) = h 7 0 → K (oI 1) h))))))) ∧ (0 ≤ h 12 (((h 17 ((h 5 7) - 1)) * 10) + x) → ((50 ≤ h 12 (((h 17 ((h 5 7) - 1)) * 10) + x) → ((¬ h 12 (((h 17 ((h 5 7) - 1)) * 10) + x) = 200 → ((-2147483648 ≤ (h 12 (((h 17 ((h 5 7) - 1)) * 10) + x)) - 100 ∧ (h 12 (((h 17 ((h 5 7) - 1)) * 10) + x)) - 100 ≤ 2147483647)) ∧ C 121 [vR 5, vI ((h 12 (((h 17 ((h 5 7) - 1)) * 10) + x)) - 100)] h (kI (fun v39 h39 => K (oI v39) h39))) ∧ (h 12 (((h 17 ((h 5 7) - 1)) * 10) + x) = 200 → ((¬ h 5 7 = 2 → K (oI 3) h) ∧ (h 5 7 = 2 → ((-2147483648 ≤ (h 18 1) * 5 ∧ (h 18 1) * 5 ≤ 2147483647) ∧ (0 ≤ ((h 18 1) * 5) + 0 ∧ ((h 18 1) * 5) + 0 < 300)) ∧ ((¬ h 19 (((h 18 1) * 5) + 0) = h 7 0 → K (oI 3) h) ∧ (h 19 (((h 18 1) * 5) + 0) = h 7 0 → K (oI 1) h))))))) ∧ (h 12 (((h 17 ((h 5 7) - 1)) * 10) + x) < 50 → C 120 [vR 5, vI x, vI (h 12 (((h 17 ((h 5 7) - 1)) * 10) + x))] h (kI (fun v44 h44 => K (oI v44) h44))))))) ∧ (h 12 (((h 17 ((h 5 7) - 1)) * 10) + x) = (-1) → K (oI 2) h)) := by
    intro x ex x0
    have ok := B.2.2 (h 17 (h 5 7 - 1)) x p4.1 p4.2 x0.1 x0.2
    rw [R.2.2 (h 17 (h 5 7 - 1)) x p4.1 p4.2 x0.1 x0.2]
    have ee : A.2.2 (10 * h 17 (h 5 7 - 1) + x) = pen A.2.2 inp il h := by unfold pen; rw [← ex]
    rw [ee] at ok ⊢
    unfold cst at H
    rw [← ex] at H
    obtain ⟨T, eT⟩ : ∃ T, T = pen A.2.2 inp il h := ⟨_, rfl⟩
    rw [← eT] at H ok ⊢
    have e7 := G.2.1
    rw [e7]
    refine ⟨by omega, fun z => ?_, fun z => ?_⟩
    · rw [if_neg z] at H
      refine ⟨fun z2 => absurd ok (by unfold okE; omega), fun z2 => ⟨fun z3 => ?_, fun z3 => ?_⟩⟩
      · rw [if_neg (by omega)] at H
        refine ⟨fun z4 => ⟨by unfold okE at ok; omega, ?_⟩, fun z4 => ⟨fun z5 => ?_, fun z5 => ?_⟩⟩
        · rw [if_neg z4] at H
          exact c_121 G g B R P hil.2 (by unfold okE at ok; omega) H
        · rw [if_pos z4, if_neg (fun q => z5 q.1)] at H; exact H
        · rw [if_pos z4] at H
          have p5 := (P5 1 (by omega) (by omega)).1
          refine ⟨by omega, fun z6 => ?_, fun z6 => ?_⟩
          · rw [if_neg (fun q => z6 q.2)] at H; exact H
          · rw [if_pos ⟨z5, z6⟩] at H; exact H
      · rw [if_pos ⟨z2, z3⟩] at H
        exact c_120 P hil.2 H
    · rw [if_pos z] at H; exact H
  refine s_119_0 h K ⟨fun z => ?_, fun z => ?_⟩
  · exact key 9 (by unfold psy; rw [if_neg (by omega)]) (by decide)
  · have x0 := hx (h 5 4) (by omega) (by omega)
    have := key (inp (h 5 4)) (by unfold psy; rw [if_pos (by omega)]) (by omega)
    rw [hin]
    exact ⟨⟨by omega, this.1⟩, this.2⟩
end Parse
