/-! The parse keeps its shape; the program's whole run. -/
section Parse2
variable {n : Int} {lf sz sy : Int → Int} {A : au_T}
def PW (h : ab_S) : Prop := 1 ≤ h 5 7 ∧ h 5 7 ≤ 61 ∧ 0 ≤ h 5 9 ∧ h 5 9 ≤ 60
theorem PI_PW {il c : Int} {h : ab_S} (P : PI il c h) : PW h := by
  obtain ⟨P1, P2, P3, P4, P5, P6⟩ := P
  unfold PW
  omega
theorem nod_lt {h : ab_S} {x r b w k : Int} (hk : k < h 5 9 * 5) : nod h x r b w 19 k = h 19 k := by
  show (if k = h 5 9 * 5 + 4 then w else if k = h 5 9 * 5 + 3 then b else if k = h 5 9 * 5 + 2 then -1 else if k = h 5 9 * 5 + 1 then r else if k = h 5 9 * 5 + 0 then x else h 19 k) = h 19 k
  rw [if_neg (by omega), if_neg (by omega), if_neg (by omega), if_neg (by omega), if_neg (by omega)]
theorem nod_4 {h : ab_S} {x r b w : Int} : nod h x r b w 19 (h 5 9 * 5 + 4) = w := by
  show (if h 5 9 * 5 + 4 = h 5 9 * 5 + 4 then w else _) = w
  rw [if_pos rfl]
theorem nod_3 {h : ab_S} {x r b w : Int} : nod h x r b w 19 (h 5 9 * 5 + 3) = b := by
  show (if h 5 9 * 5 + 3 = h 5 9 * 5 + 4 then w else if h 5 9 * 5 + 3 = h 5 9 * 5 + 3 then b else _) = b
  rw [if_neg (by omega), if_pos rfl]
theorem nod_2 {h : ab_S} {x r b w : Int} : nod h x r b w 19 (h 5 9 * 5 + 2) = -1 := by
  show (if h 5 9 * 5 + 2 = h 5 9 * 5 + 4 then w else if h 5 9 * 5 + 2 = h 5 9 * 5 + 3 then b else if h 5 9 * 5 + 2 = h 5 9 * 5 + 2 then -1 else _) = -1
  rw [if_neg (by omega), if_neg (by omega), if_pos rfl]
theorem nod_1 {h : ab_S} {x r b w : Int} : nod h x r b w 19 (h 5 9 * 5 + 1) = r := by
  show (if h 5 9 * 5 + 1 = h 5 9 * 5 + 4 then w else if h 5 9 * 5 + 1 = h 5 9 * 5 + 3 then b else if h 5 9 * 5 + 1 = h 5 9 * 5 + 2 then -1 else if h 5 9 * 5 + 1 = h 5 9 * 5 + 1 then r else _) = r
  rw [if_neg (by omega), if_neg (by omega), if_neg (by omega), if_pos rfl]
theorem nod_0 {h : ab_S} {x r b w : Int} : nod h x r b w 19 (h 5 9 * 5 + 0) = x := by
  show (if h 5 9 * 5 + 0 = h 5 9 * 5 + 4 then w else if h 5 9 * 5 + 0 = h 5 9 * 5 + 3 then b else if h 5 9 * 5 + 0 = h 5 9 * 5 + 2 then -1 else if h 5 9 * 5 + 0 = h 5 9 * 5 + 1 then r else if h 5 9 * 5 + 0 = h 5 9 * 5 + 0 then x else h 19 (h 5 9 * 5 + 0)) = x
  rw [if_neg (by omega), if_neg (by omega), if_neg (by omega), if_neg (by omega), if_pos rfl]
theorem shf_PI {il c x st : Int} {h : ab_S} (P : PI il c h) (hi : h 5 4 < il) (h60 : h 5 9 < 60) (hst : 0 ≤ st ∧ st < c) : PI il c (shf h x st) := by
  obtain ⟨P1, P2, P3, P4, P5, P6⟩ := P
  have e7 : shf h x st 5 7 = h 5 7 + 1 := rfl
  have e9 : shf h x st 5 9 = h 5 9 + 1 := rfl
  have e4 : shf h x st 5 4 = h 5 4 + 1 := rfl
  have e17 : ∀ i, shf h x st 17 i = if i = h 5 7 then st else h 17 i := fun i => rfl
  have e18 : ∀ i, shf h x st 18 i = if i = h 5 7 then h 5 9 else h 18 i := fun i => rfl
  have e19 : shf h x st 19 = nod h x (-1) (h 5 4) 1 19 := rfl
  unfold PI
  rw [e7, e9, e4, e19]
  refine ⟨by omega, by omega, by omega, fun i i0 i1 => ?_, fun i i0 i1 => ?_, ?_⟩
  · rw [e17]
    split
    · exact hst
    · exact P4 i i0 (by omega)
  · rw [e18]
    by_cases d : i = h 5 7
    · rw [if_pos d, nod_4]; omega
    · rw [if_neg d]
      have := P5 i i0 (by omega)
      rw [nod_lt (by omega)]
      omega
  · rw [show h 5 7 + 1 - 1 = (h 5 7 - 1) + 1 by omega, sm_s (by omega)]
    have a : sm (fun i => nod h x (-1) (h 5 4) 1 19 (shf h x st 18 (1 + i) * 5 + 4)) (h 5 7 - 1).toNat = h 5 4 := by
      rw [← P6]
      refine sm_cg (fun i i0 i1 => ?_)
      rw [e18, if_neg (by omega)]
      have := P5 (1 + i) (by omega) (by omega)
      rw [nod_lt (by omega)]
    rw [a]
    show h 5 4 + nod h x (-1) (h 5 4) 1 19 (shf h x st 18 (1 + (h 5 7 - 1)) * 5 + 4) = h 5 4 + 1
    rw [e18, if_pos (by omega), nod_4]
theorem rd_PI {il c r T : Int} {h : ab_S} (P : PI il c h) (hz : 0 ≤ sz r) (hr : sz r < h 5 7) (h60 : h 5 9 < 60) (hT : 0 ≤ T ∧ T < c) : PI il c (psh (ab_up (rd6 lf sz h r) 5 7 (h 5 7 - sz r)) (h 5 9) T) := by
  have W := wid_rg P hz hr
  obtain ⟨P1, P2, P3, P4, P5, P6⟩ := P
  obtain ⟨S, eS⟩ : ∃ S, S = psh (ab_up (rd6 lf sz h r) 5 7 (h 5 7 - sz r)) (h 5 9) T := ⟨_, rfl⟩
  have e7 : S 5 7 = h 5 7 - sz r + 1 := by rw [eS]; rfl
  have e9 : S 5 9 = h 5 9 + 1 := by rw [eS]; rfl
  have e4 : S 5 4 = h 5 4 := by rw [eS]; rfl
  have e17 : ∀ i, S 17 i = if i = h 5 7 - sz r then T else h 17 i := by rw [eS]; exact fun i => rfl
  have e18 : ∀ i, S 18 i = if i = h 5 7 - sz r then h 5 9 else h 18 i := by rw [eS]; exact fun i => rfl
  have e19 : S 19 = nod (upc h 19 (parT h (h 5 7 - sz r) (h 5 7))) (lf r) r (h 5 4 - wid sz h r) (wid sz h r) 19 := by rw [eS]; rfl
  have q4 : S 19 (h 5 9 * 5 + 4) = wid sz h r := by rw [e19]; exact nod_4
  have ql : ∀ k, k < h 5 9 * 5 → S 19 k = parT h (h 5 7 - sz r) (h 5 7) k := by
    intro k hk
    rw [e19, nod_lt (h := upc h 19 (parT h (h 5 7 - sz r) (h 5 7))) hk, upc_at]
  rw [← eS]
  unfold PI
  rw [e7, e9, e4]
  refine ⟨by omega, by omega, by omega, fun i i0 i1 => ?_, fun i i0 i1 => ?_, ?_⟩
  · rw [e17]
    split
    · exact hT
    · exact P4 i i0 (by omega)
  · rw [e18]
    by_cases d : i = h 5 7 - sz r
    · rw [if_pos d, q4]; omega
    · rw [if_neg d]
      have := P5 i i0 (by omega)
      rw [ql _ (by omega), parT_ne (by omega)]
      omega
  · rw [show h 5 7 - sz r + 1 - 1 = (h 5 7 - sz r - 1) + 1 by omega, sm_s (by omega)]
    have a : sm (fun i => S 19 (S 18 (1 + i) * 5 + 4)) (h 5 7 - sz r - 1).toNat = h 5 4 - wid sz h r := by
      rw [← W.2.2]
      refine sm_cg (fun i i0 i1 => ?_)
      rw [e18, if_neg (by omega)]
      have := P5 (1 + i) (by omega) (by omega)
      rw [ql _ (by omega), parT_ne (by omega)]
    rw [a]
    show h 5 4 - wid sz h r + S 19 (S 18 (1 + (h 5 7 - sz r - 1)) * 5 + 4) = h 5 4
    rw [e18, if_pos (by omega), q4]
    omega
def fr5 (h h' : ab_S) : Prop := ∀ i, ¬ i ∈ ([4, 7, 9] : List Int) → h' 5 i = h 5 i
theorem fr5_tr {h h' h'' : ab_S} (a : fr5 h h') (b : fr5 h' h'') : fr5 h h'' := fun k z => (b k z).trans (a k z)
theorem fr5_up {h : ab_S} {i v : Int} (m : i ∈ ([4, 7, 9] : List Int)) : fr5 h (ab_up h 5 i v) := by
  intro j z
  unfold ab_up
  rw [if_pos rfl, if_neg (fun e => z (by rw [e]; exact m))]
theorem fr5_ne {h : ab_S} {k : Nat} {i v : Int} (m : ¬ k = 5) : fr5 h (ab_up h k i v) := by
  intro j z
  unfold ab_up
  rw [if_neg (fun e => m e.symm)]
def fp (h h' : ab_S) : Prop := fr [5, 17, 18, 19] h h' ∧ fr5 h h'
theorem fp_rfl (h : ab_S) : fp h h := ⟨fr_rfl _ _, fun _ _ => rfl⟩
theorem fp_tr {h h' h'' : ab_S} (a : fp h h') (b : fp h' h'') : fp h h'' := ⟨fr_tr a.1 b.1, fr5_tr a.2 b.2⟩
theorem fp_up {h : ab_S} {k : Nat} {i v : Int} (m : k = 17 ∨ k = 18 ∨ k = 19) : fp h (ab_up h k i v) := by
  refine ⟨fr_up ?_, fr5_ne (by omega)⟩
  rcases m with e | e | e <;> subst e <;> decide
theorem fp_5 {h : ab_S} {i v : Int} (m : i = 4 ∨ i = 7 ∨ i = 9) : fp h (ab_up h 5 i v) := by
  refine ⟨fr_up (by decide), fr5_up ?_⟩
  rcases m with e | e | e <;> subst e <;> decide
theorem fp_upc {h : ab_S} {f : Int → Int} : fp h (upc h 19 f) := ⟨fr_upc (by decide), fun i _ => rfl⟩
theorem fp_nod {h : ab_S} {x r b w : Int} : fp h (nod h x r b w) := fp_tr (fp_tr (fp_tr (fp_tr (fp_tr (fp_up (by omega)) (fp_up (by omega))) (fp_up (by omega))) (fp_up (by omega))) (fp_up (by omega))) (fp_5 (by omega))
theorem fp_psh {h : ab_S} {a b : Int} : fp h (psh h a b) := fp_tr (fp_tr (fp_up (by omega)) (fp_up (by omega))) (fp_5 (by omega))
theorem cst_ok {inp : Int → Int} {il : Int} {h : ab_S} (g : GW n lf sz sy) (B : AI n sz A) (P : PI il A.1 h) (hil : 0 ≤ il ∧ il ≤ 20) (hx : ∀ i, 0 ≤ i → i < il → 4 ≤ inp i ∧ inp i < 9) :
    fp h (cst n lf sz sy A.2.2 inp il h).2 ∧ PW (cst n lf sz sy A.2.2 inp il h).2 ∧ ((cst n lf sz sy A.2.2 inp il h).1 = 0 → PI il A.1 (cst n lf sz sy A.2.2 inp il h).2) := by
  have hc := B.1
  have gn := g.1
  obtain ⟨P1, P2, P3, P4, P5, P6⟩ := id P
  have p4 := P4 (h 5 7 - 1) (by omega) (by omega)
  have x0 : 0 ≤ psy inp il h ∧ psy inp il h < 10 ∧ (¬ psy inp il h = 9 → h 5 4 < il) := by
    unfold psy
    by_cases c : h 5 4 < il
    · rw [if_pos c]
      have := hx (h 5 4) (by omega) c
      omega
    · rw [if_neg c]; omega
  have ok : okE n A.1 (pen A.2.2 inp il h) := B.2.2 (h 17 (h 5 7 - 1)) (psy inp il h) p4.1 p4.2 x0.1 x0.2.1
  have stay : ∀ v : Int, ¬ v = 0 → fp h ((v, h) : Int × ab_S).2 ∧ PW ((v, h) : Int × ab_S).2 ∧ (((v, h) : Int × ab_S).1 = 0 → PI il A.1 ((v, h) : Int × ab_S).2) := fun v hv => ⟨fp_rfl _, PI_PW P, fun q => absurd q hv⟩
  unfold cst
  obtain ⟨T, eT⟩ : ∃ T, T = pen A.2.2 inp il h := ⟨_, rfl⟩
  rw [← eT] at ok ⊢
  by_cases c1 : T = -1
  · rw [if_pos c1]; exact stay 2 (by decide)
  rw [if_neg c1]
  by_cases c2 : 0 ≤ T ∧ T < 50
  · rw [if_pos c2]
    by_cases c3 : psy inp il h = 9
    · rw [if_pos c3]; exact stay 3 (by decide)
    rw [if_neg c3]
    by_cases c4 : 60 ≤ h 5 9
    · rw [if_pos c4]; exact stay 4 (by decide)
    rw [if_neg c4]
    have q := shf_PI (x := psy inp il h) (st := T) P (x0.2.2 c3) (by omega) (by unfold okE at ok; omega)
    exact ⟨fp_tr (fp_tr fp_nod fp_psh) (fp_5 (by omega)), PI_PW q, fun _ => q⟩
  rw [if_neg c2]
  by_cases c3 : T = 200
  · rw [if_pos c3]
    by_cases c4 : h 5 7 = 2 ∧ h 19 (h 18 1 * 5 + 0) = lf 0
    · rw [if_pos c4]; exact stay 1 (by decide)
    · rw [if_neg c4]; exact stay 3 (by decide)
  rw [if_neg c3]
  have hr : 0 ≤ T - 100 ∧ T - 100 ≤ n := by unfold okE at ok; omega
  obtain ⟨r, er⟩ : ∃ r, r = T - 100 := ⟨_, rfl⟩
  rw [← er] at hr ⊢
  have hsz := g.2.2.1 r hr.1 hr.2
  unfold rdc
  by_cases c4 : r = n
  · rw [if_pos c4]; exact stay 3 (by decide)
  rw [if_neg c4]
  by_cases c5 : rowOn sz sy h r
  · rw [cif_pos c5]
    have c5 := c5.1
    by_cases c6 : 60 ≤ h 5 9
    · rw [if_pos c6]; exact stay 4 (by decide)
    rw [if_neg c6]
    have hl := g.2.1 r hr.1 (by omega)
    have p4 := P4 (h 5 7 - sz r - 1) (by omega) (by omega)
    have ok2 : okE n A.1 (tgt A.2.2 lf sz h r) := B.2.2 (h 17 (h 5 7 - sz r - 1)) (lf r) p4.1 p4.2 (by omega) (by omega)
    have F6 : fp h (ab_up (rd6 lf sz h r) 5 7 (h 5 7 - sz r)) := fp_tr (fp_tr fp_upc fp_nod) (fp_5 (by omega))
    by_cases c7 : 0 ≤ tgt A.2.2 lf sz h r ∧ tgt A.2.2 lf sz h r < 50
    · rw [if_pos c7]
      have q := rd_PI (lf := lf) (T := tgt A.2.2 lf sz h r) P hsz.1 c5 (by omega) (by unfold okE at ok2; omega)
      exact ⟨fp_tr F6 fp_psh, PI_PW q, fun _ => q⟩
    · rw [if_neg c7]
      refine ⟨F6, ?_, fun q => absurd (show (3 : Int) = 0 from q) (by decide)⟩
      show 1 ≤ h 5 7 - sz r ∧ h 5 7 - sz r ≤ 61 ∧ 0 ≤ h 5 9 + 1 ∧ h 5 9 + 1 ≤ 60
      omega
  · rw [cif_neg c5]; exact stay 3 (by decide)
noncomputable def rn (n : Int) (lf sz sy E inp : Int → Int) (il : Int) (S : ab_S) : Nat → Int × ab_S
  | 0 => (0, S)
  | m + 1 => if (rn n lf sz sy E inp il S m).1 = 0 then cst n lf sz sy E inp il (rn n lf sz sy E inp il S m).2 else rn n lf sz sy E inp il S m
theorem rn_stop {E inp : Int → Int} {il : Int} {S : ab_S} {m k : Nat} (h : ¬ (rn n lf sz sy E inp il S m).1 = 0) (le : m ≤ k) : rn n lf sz sy E inp il S k = rn n lf sz sy E inp il S m := by
  induction k with
  | zero => have : m = 0 := by omega
            subst this; rfl
  | succ k ih =>
    by_cases c : m = k + 1
    · subst c; rfl
    · have e := ih (by omega)
      show (if (rn n lf sz sy E inp il S k).1 = 0 then _ else rn n lf sz sy E inp il S k) = _
      rw [e, if_neg h]
theorem rn_s {E inp : Int → Int} {il : Int} {S : ab_S} {k : Int} (hk : 0 ≤ k) (h : (rn n lf sz sy E inp il S k.toNat).1 = 0) : rn n lf sz sy E inp il S (k + 1).toNat = cst n lf sz sy E inp il (rn n lf sz sy E inp il S k.toNat).2 := by
  rw [show (k + 1).toNat = k.toNat + 1 by omega]
  show (if (rn n lf sz sy E inp il S k.toNat).1 = 0 then _ else _) = _
  rw [if_pos h]
def pst (h : ab_S) : ab_S := ab_up (ab_up (ab_up (ab_up h 5 4 0) 5 9 0) 5 7 1) 17 0 0
theorem pst_PI {il c : Int} {h : ab_S} (hil : 0 ≤ il) (hc : 0 < c) : PI il c (pst h) := by
  have e7 : pst h 5 7 = 1 := rfl
  have e9 : pst h 5 9 = 0 := rfl
  have e4 : pst h 5 4 = 0 := rfl
  unfold PI
  rw [e7, e9, e4]
  refine ⟨by omega, by omega, by omega, fun i i0 i1 => ?_, fun i i0 i1 => absurd i1 (by omega), rfl⟩
  have : i = 0 := by omega
  subst this
  show 0 ≤ (0 : Int) ∧ (0 : Int) < c
  omega
theorem pst_fp (h : ab_S) : fp h (pst h) := fp_tr (fp_tr (fp_tr (fp_5 (by omega)) (fp_5 (by omega))) (fp_5 (by omega))) (fp_up (by omega))
theorem rn_ok {inp : Int → Int} {il : Int} {S : ab_S} (g : GW n lf sz sy) (B : AI n sz A) (P : PI il A.1 S) (hil : 0 ≤ il ∧ il ≤ 20) (hx : ∀ i, 0 ≤ i → i < il → 4 ≤ inp i ∧ inp i < 9) (m : Nat) :
    fp S (rn n lf sz sy A.2.2 inp il S m).2 ∧ PW (rn n lf sz sy A.2.2 inp il S m).2 ∧ ((rn n lf sz sy A.2.2 inp il S m).1 = 0 → PI il A.1 (rn n lf sz sy A.2.2 inp il S m).2) := by
  induction m with
  | zero => exact ⟨fp_rfl _, PI_PW P, fun _ => P⟩
  | succ m ih =>
    by_cases c : (rn n lf sz sy A.2.2 inp il S m).1 = 0
    · have e : rn n lf sz sy A.2.2 inp il S (m + 1) = cst n lf sz sy A.2.2 inp il (rn n lf sz sy A.2.2 inp il S m).2 := if_pos c
      rw [e]
      have q := cst_ok g B (ih.2.2 c) hil hx
      exact ⟨fp_tr ih.1 q.1, q.2⟩
    · have e : rn n lf sz sy A.2.2 inp il S (m + 1) = rn n lf sz sy A.2.2 inp il S m := if_neg c
      rw [e]
      exact ih
theorem c_118 {inp : Int → Int} {il k : Int} {h : ab_S} {K : ab_O → ab_S → Prop} (G : GE n lf sz sy h) (g : GW n lf sz sy) (B : AI n sz A) (R : RC A (h 2 0) (h 12) (h 13)) (hA : 0 < A.1) (hil : 0 ≤ il ∧ il ≤ 20) (hi : h 5 3 = il) (hin : h 16 = inp) (hx : ∀ i, 0 ≤ i → i < il → 4 ≤ inp i ∧ inp i < 9) (hk : 0 ≤ k ∧ k ≤ 400)
    (H : K (oI (rn n lf sz sy A.2.2 inp il (pst h) k.toNat).1) (rn n lf sz sy A.2.2 inp il (pst h) k.toNat).2) : C 118 [vR 5, vI k] h K := by
  have P0 := pst_PI (h := h) hil.1 hA
  refine s_118_0 k h K ?_
  show X 118 18 [vR 5, vI k, vI 0, vI 0] [] (pst h) K
  refine lp (P := fun i => ∀ v S, v = (rn n lf sz sy A.2.2 inp il (pst h) i.toNat).1 → S = (rn n lf sz sy A.2.2 inp il (pst h) i.toNat).2 → X 118 18 [vR 5, vI k, vI v, vI i] [] S K) 0 k hk.1 ?_ 0 (pst h) rfl rfl
  intro i i0 i1 ih v S ev eS
  have q := rn_ok g B P0 hil hx i.toNat
  refine s_118_18 k v i S K ⟨fun z => ?_, fun z => ⟨fun z2 => ?_, fun z2 => ?_⟩⟩
  · have : i = k := by omega
    subst this
    rw [ev, eS]; exact H
  · have e := rn_stop (k := k.toNat) (by rw [← ev]; exact z2) (show i.toNat ≤ k.toNat by omega)
    rw [e, ← ev, ← eS] at H
    exact H
  · rw [← eS, ← ev] at q
    have F := fp_tr (pst_fp h) q.1
    have es := rn_s (n := n) (lf := lf) (sz := sz) (sy := sy) i0 (by rw [← ev]; exact z2)
    rw [← eS] at es
    refine c_119 (inp := inp) (il := il) (GE_fr G F.1 (by decide) (by decide) (by decide) (by decide)) g B (by rw [F.1 2 (by decide), F.1 12 (by decide), F.1 13 (by decide)]; exact R) (q.2.2 z2) hil (by rw [F.2 3 (by decide)]; exact hi) (by rw [F.1 16 (by decide)]; exact hin) hx ⟨by omega, ?_⟩
    exact ih z _ _ (by rw [es]) (by rw [es])
end Parse2
