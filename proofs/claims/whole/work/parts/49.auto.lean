/-! The automaton that is made of a grammar, as a thing of its own; and the program's making of it. -/
section Auto
def fr (L : List Nat) (h h' : ab_S) : Prop := ∀ k, ¬ k ∈ L → h' k = h k
theorem fr_rfl (L : List Nat) (h : ab_S) : fr L h h := fun _ _ => rfl
theorem fr_tr {L : List Nat} {h h' h'' : ab_S} (a : fr L h h') (b : fr L h' h'') : fr L h h'' := fun k z => (b k z).trans (a k z)
theorem fr_sub {L L' : List Nat} {h h' : ab_S} (a : fr L h h') (s : ∀ k, k ∈ L → k ∈ L') : fr L' h h' := fun k z => a k (fun y => z (s k y))
theorem fr_up {L : List Nat} {h : ab_S} {k : Nat} {i v : Int} (m : k ∈ L) : fr L h (ab_up h k i v) := by
  intro k' z
  funext j
  unfold ab_up
  rw [if_neg (fun e => z (by rw [e]; exact m))]
theorem fr_upc {L : List Nat} {h : ab_S} {k : Nat} {f : Int → Int} (m : k ∈ L) : fr L h (upc h k f) := fun k' z => upc_ne h f (fun e => z (by rw [e]; exact m))
theorem fr_cp {L : List Nat} {h : ab_S} {k d : Nat} {p q m : Int} (w : d ∈ L) : fr L h (ab_cp h k p d q m) := by
  intro k' z
  funext j
  unfold ab_cp
  rw [if_neg (fun e => z (by rw [e]; exact w))]
abbrev au_T := Int × (Int → Int → Prop) × (Int → Int)
/-- the symbol behind an item's dot -/
def nx (sz sy : Int → Int) (i : Int) : Int := if i % 30 / 6 < sz (i / 30) then sy (i / 30 * 4 + i % 30 / 6) else -1
def goS (sz sy : Int → Int) (I : Int → Int → Prop) (s x j : Int) : Prop := 6 ≤ j ∧ j < 276 ∧ I s (j - 6) ∧ nx sz sy (j - 6) = x
def same (I : Int → Int → Prop) (S : Int → Prop) (s : Int) : Prop := ∀ i, 0 ≤ i → i < 270 → (I s i ↔ S i)
def au_new (A : au_T) (S : Int → Prop) : au_T := (A.1 + 1, fun s i => if s = A.1 then S i else A.2.1 s i, fun k => if 10 * A.1 ≤ k ∧ k < 10 * A.1 + 10 then -1 else A.2.2 k)
noncomputable def stl (A : au_T) (S : Int → Prop) : Int × au_T := if lst (same A.2.1 S) A.1 = -1 then (if 50 ≤ A.1 then (-1, A) else (A.1, au_new A S)) else (lst (same A.2.1 S) A.1, A)
def au_put (A : au_T) (k v : Int) : au_T := (A.1, A.2.1, updc A.2.2 k v)
noncomputable def goF (n : Int) (lf sz sy : Int → Int) (A : au_T) (s x : Int) : Option au_T :=
  cif (∃ j, 0 ≤ j ∧ j < 270 ∧ goS sz sy A.2.1 s x j)
    (if (stl A (CL n lf sz sy (goS sz sy A.2.1 s x))).1 = -1 then none else some (au_put (stl A (CL n lf sz sy (goS sz sy A.2.1 s x))).2 (10 * s + x) (stl A (CL n lf sz sy (goS sz sy A.2.1 s x))).1))
    (some A)
noncomputable def gosF (n : Int) (lf sz sy : Int → Int) (A : au_T) (s : Int) : Nat → Option au_T
  | 0 => some A
  | m + 1 => (gosF n lf sz sy A s m).bind (fun B => goF n lf sz sy B s m)
def dueP (sz : Int → Int) (I : Int → Int → Prop) (s a r : Int) : Prop := I s (30 * r + 6 * sz r + (a - 4))
def due (n r : Int) : Int := if r = n then 200 else 100 + r
def conf (n : Int) (sz : Int → Int) (A : au_T) (s : Int) : Prop := ∃ a r, 4 ≤ a ∧ a ≤ 9 ∧ 0 ≤ r ∧ r ≤ n ∧ dueP sz A.2.1 s a r ∧ (¬ A.2.2 (10 * s + a) = -1 ∨ ∃ r', 0 ≤ r' ∧ r' < r ∧ dueP sz A.2.1 s a r')
noncomputable def redE (n : Int) (sz : Int → Int) (A : au_T) (s k : Int) : Int := if 4 ≤ k - 10 * s ∧ k - 10 * s ≤ 9 ∧ ¬ lst (dueP sz A.2.1 s (k - 10 * s)) (n + 1) = -1 then due n (lst (dueP sz A.2.1 s (k - 10 * s)) (n + 1)) else A.2.2 k
noncomputable def endF (n : Int) (sz : Int → Int) (A : au_T) (s : Int) : Option au_T := cif (conf n sz A s) none (some (A.1, A.2.1, redE n sz A s))
noncomputable def blF (n : Int) (lf sz sy : Int → Int) (A : au_T) : Nat → Option au_T
  | 0 => some A
  | k + 1 => (blF n lf sz sy A k).bind (fun B => if B.1 ≤ k then some B else (gosF n lf sz sy B k 9).bind (fun D => endF n sz D k))
def au_0 : au_T := (0, fun _ _ => False, fun _ => -1)
noncomputable def BL (n : Int) (lf sz sy : Int → Int) : Option au_T := blF n lf sz sy (stl au_0 (CL n lf sz sy (fun i => i = 30 * n + 5))).2 50
variable {n : Int} {lf sz sy : Int → Int}
theorem gosF_none {A : au_T} {s : Int} {m k : Nat} (h : gosF n lf sz sy A s m = none) (le : m ≤ k) : gosF n lf sz sy A s k = none := by
  induction k with
  | zero => have : m = 0 := by omega
            subst this; exact h
  | succ k ih =>
    by_cases c : m = k + 1
    · subst c; exact h
    · show (gosF n lf sz sy A s k).bind _ = none
      rw [ih (by omega)]
      rfl
theorem blF_none {A : au_T} {m k : Nat} (h : blF n lf sz sy A m = none) (le : m ≤ k) : blF n lf sz sy A k = none := by
  induction k with
  | zero => have : m = 0 := by omega
            subst this; exact h
  | succ k ih =>
    by_cases c : m = k + 1
    · subst c; exact h
    · show (blF n lf sz sy A k).bind _ = none
      rw [ih (by omega)]
      rfl
theorem blF_stop {A B : au_T} {m k : Nat} (h : blF n lf sz sy A m = some B) (c : B.1 ≤ m) (le : m ≤ k) : blF n lf sz sy A k = some B := by
  induction k with
  | zero => have : m = 0 := by omega
            subst this; exact h
  | succ k ih =>
    by_cases e : m = k + 1
    · subst e; exact h
    · show (blF n lf sz sy A k).bind _ = some B
      rw [ih (by omega)]
      show (if B.1 ≤ k then some B else _) = some B
      rw [if_pos (by omega)]
theorem stl_cases (A : au_T) (S : Int → Prop) (hc : 0 ≤ A.1) : (∃ j, isL (same A.2.1 S) A.1 j ∧ stl A S = (j, A)) ∨ ((∀ j, 0 ≤ j → j < A.1 → ¬ same A.2.1 S j) ∧ ((50 ≤ A.1 ∧ stl A S = (-1, A)) ∨ (A.1 < 50 ∧ stl A S = (A.1, au_new A S)))) := by
  by_cases e : ∃ j, isL (same A.2.1 S) A.1 j
  · obtain ⟨j, hj⟩ := e
    refine Or.inl ⟨j, hj, ?_⟩
    unfold stl
    rw [lst_some hj, if_neg (by have := hj.1; omega)]
  · right
    have key : ∀ (m : Nat) (j : Int), j < m → 0 ≤ j → j < A.1 → ¬ same A.2.1 S j := by
      intro m
      induction m with
      | zero => intro j a b; omega
      | succ m ih =>
        intro j a b c d
        exact e ⟨j, b, c, d, fun i i0 i1 => ih i (by omega) i0 (by omega)⟩
    have no : ∀ j, 0 ≤ j → j < A.1 → ¬ same A.2.1 S j := fun j a b => key (j.toNat + 1) j (by omega) a b
    refine ⟨no, ?_⟩
    unfold stl
    rw [lst_none no, if_pos rfl]
    by_cases c : 50 ≤ A.1
    · rw [if_pos c]; exact Or.inl ⟨c, rfl⟩
    · rw [if_neg c]; exact Or.inr ⟨by omega, rfl⟩
/-- what may stand in the table -/
def okE (n c v : Int) : Prop := v = -1 ∨ (0 ≤ v ∧ v < c) ∨ (100 ≤ v ∧ v ≤ 100 + n) ∨ v = 200
def AI (n : Int) (sz : Int → Int) (A : au_T) : Prop := (0 ≤ A.1 ∧ A.1 ≤ 50) ∧ (∀ s i, 0 ≤ s → s < A.1 → 0 ≤ i → i < 270 → A.2.1 s i → lg n sz i) ∧ (∀ s x, 0 ≤ s → s < A.1 → 0 ≤ x → x < 10 → okE n A.1 (A.2.2 (10 * s + x)))
def BI (n : Int) (sz : Int → Int) (A : au_T) (q : Int) : Prop := AI n sz A ∧ (∀ s x, q ≤ s → 0 ≤ s → s < A.1 → 0 ≤ x → x < 10 → A.2.2 (10 * s + x) < 50)
theorem okE_mono {c c' v : Int} (h : okE n c v) (le : c ≤ c') : okE n c' v := by
  rcases h with e | e | e
  · exact Or.inl e
  · exact Or.inr (Or.inl ⟨e.1, by omega⟩)
  · exact Or.inr (Or.inr e)
theorem stl_BI {A : au_T} {S : Int → Prop} {q : Int} (B : BI n sz A q) (hS : ∀ i, 0 ≤ i → i < 270 → S i → lg n sz i) : BI n sz (stl A S).2 q ∧ A.1 ≤ (stl A S).2.1 ∧ ((stl A S).1 = -1 ∨ (0 ≤ (stl A S).1 ∧ (stl A S).1 < (stl A S).2.1)) := by
  rcases stl_cases A S B.1.1.1 with ⟨j, hj, e⟩ | ⟨_, ⟨c, e⟩ | ⟨c, e⟩⟩
  · rw [e]; exact ⟨B, Int.le_refl _, Or.inr ⟨hj.1, hj.2.1⟩⟩
  · rw [e]; exact ⟨B, Int.le_refl _, Or.inl rfl⟩
  · rw [e]
    obtain ⟨⟨⟨c0, c1⟩, B2, B3⟩, B4⟩ := B
    have en : ∀ s x, 0 ≤ s → s < A.1 + 1 → 0 ≤ x → x < 10 → (s = A.1 ∧ (au_new A S).2.2 (10 * s + x) = -1) ∨ (s < A.1 ∧ (au_new A S).2.2 (10 * s + x) = A.2.2 (10 * s + x)) := by
      intro s x a1 a2 a3 a4
      show (s = A.1 ∧ (if 10 * A.1 ≤ 10 * s + x ∧ 10 * s + x < 10 * A.1 + 10 then -1 else A.2.2 (10 * s + x)) = -1) ∨ (s < A.1 ∧ (if 10 * A.1 ≤ 10 * s + x ∧ 10 * s + x < 10 * A.1 + 10 then -1 else A.2.2 (10 * s + x)) = A.2.2 (10 * s + x))
      by_cases d : s = A.1
      · rw [if_pos (by omega)]; exact Or.inl ⟨d, rfl⟩
      · rw [if_neg (by omega)]; exact Or.inr ⟨by omega, rfl⟩
    refine ⟨⟨⟨⟨by show 0 ≤ A.1 + 1; omega, by show A.1 + 1 ≤ 50; omega⟩, fun s i a1 a2 a3 a4 a5 => ?_, fun s x a1 a2 a3 a4 => ?_⟩, fun s x a0 a1 a2 a3 a4 => ?_⟩, by show A.1 ≤ A.1 + 1; omega, Or.inr ⟨c0, by show A.1 < A.1 + 1; omega⟩⟩
    · have a2 : s < A.1 + 1 := a2
      have a5 : if s = A.1 then S i else A.2.1 s i := a5
      by_cases d : s = A.1
      · rw [if_pos d] at a5; exact hS i a3 a4 a5
      · rw [if_neg d] at a5; exact B2 s i a1 (by omega) a3 a4 a5
    · rcases en s x a1 a2 a3 a4 with ⟨_, e⟩ | ⟨l, e⟩
      · rw [e]; exact Or.inl rfl
      · rw [e]; exact okE_mono (B3 s x a1 l a3 a4) (by show A.1 ≤ A.1 + 1; omega)
    · rcases en s x a1 a2 a3 a4 with ⟨_, e⟩ | ⟨l, e⟩
      · rw [e]; decide
      · rw [e]; exact B4 s x a0 a1 l a3 a4
theorem goS_lg {A : au_T} {s x j : Int} (g : GW n lf sz sy) (B : AI n sz A) (hs : 0 ≤ s ∧ s < A.1) (hx : 0 ≤ x) (z : goS sz sy A.2.1 s x j) : j < 270 ∧ lg n sz j := by
  obtain ⟨z1, z2, z3, z4⟩ := z
  have l := B.2.1 s (j - 6) hs.1 hs.2 (by omega)
  unfold nx at z4
  by_cases c : (j - 6) % 30 / 6 < sz ((j - 6) / 30)
  · by_cases c2 : j - 6 < 270
    · have l := l c2 z3
      have h1 := g.2.2.1 ((j - 6) / 30) (by omega) l.1
      have e1 : j / 30 = (j - 6) / 30 := by omega
      have e2 : j % 30 / 6 = (j - 6) % 30 / 6 + 1 := by omega
      have := g.1
      refine ⟨by omega, ?_⟩
      unfold lg
      rw [e1, e2]
      exact ⟨l.1, by omega⟩
    · omega
  · rw [if_neg c] at z4; omega
theorem CL_lg {S : Int → Prop} {i : Int} (g : GW n lf sz sy) (hS : ∀ i, 0 ≤ i → i < 270 → S i → lg n sz i) (z : CL n lf sz sy S i) : lg n sz i := by
  refine z (lg n sz) hS ?_
  intro r d t q u a1 a2 a3 a4 a5 a6 a7 a8 a9 a10 a11 a12 a13
  have := g.2.2.1 q a8 (by omega)
  unfold lg
  rw [show (30 * q + (u - 4)) / 30 = q by omega, show (30 * q + (u - 4)) % 30 / 6 = 0 by omega]
  exact ⟨by omega, this.1⟩
theorem put_BI {A : au_T} {s x v q : Int} (B : BI n sz A q) (hv : 0 ≤ v ∧ v < A.1) : BI n sz (au_put A (10 * s + x) v) q := by
  obtain ⟨⟨B1, B2, B3⟩, B4⟩ := B
  refine ⟨⟨B1, B2, fun s' x' a1 a2 a3 a4 => ?_⟩, fun s' x' a0 a1 a2 a3 a4 => ?_⟩
  · show okE n A.1 (updc A.2.2 (10 * s + x) v (10 * s' + x'))
    by_cases c : 10 * s' + x' = 10 * s + x
    · rw [c, updc_at]; exact Or.inr (Or.inl hv)
    · rw [updc_ne _ _ c]; exact B3 s' x' a1 a2 a3 a4
  · show updc A.2.2 (10 * s + x) v (10 * s' + x') < 50
    by_cases c : 10 * s' + x' = 10 * s + x
    · rw [c, updc_at]; omega
    · rw [updc_ne _ _ c]; exact B4 s' x' a0 a1 a2 a3 a4
theorem goF_BI {A B : au_T} {s x : Int} (g : GW n lf sz sy) (I : BI n sz A s) (hs : 0 ≤ s ∧ s < A.1) (hx : 0 ≤ x) (e : goF n lf sz sy A s x = some B) : BI n sz B s ∧ A.1 ≤ B.1 := by
  unfold goF at e
  by_cases c : ∃ j, 0 ≤ j ∧ j < 270 ∧ goS sz sy A.2.1 s x j
  · rw [cif_pos c] at e
    have h1 := stl_BI (S := CL n lf sz sy (goS sz sy A.2.1 s x)) I (fun i a b z => CL_lg g (fun j a b z => (goS_lg g I.1 hs hx z).2) z)
    by_cases d : (stl A (CL n lf sz sy (goS sz sy A.2.1 s x))).1 = -1
    · rw [if_pos d] at e; cases e
    · rw [if_neg d] at e
      cases e
      refine ⟨put_BI h1.1 ?_, h1.2.1⟩
      rcases h1.2.2 with y | y
      · exact absurd y d
      · exact y
  · rw [cif_neg c] at e
    cases e
    exact ⟨I, Int.le_refl _⟩
theorem gosF_BI {A B : au_T} {s : Int} {m : Nat} (g : GW n lf sz sy) (I : BI n sz A s) (hs : 0 ≤ s ∧ s < A.1) (e : gosF n lf sz sy A s m = some B) : BI n sz B s ∧ A.1 ≤ B.1 := by
  induction m generalizing B with
  | zero => cases e; exact ⟨I, Int.le_refl _⟩
  | succ m ih =>
    have e : (gosF n lf sz sy A s m).bind (fun B => goF n lf sz sy B s m) = some B := e
    cases hq : gosF n lf sz sy A s m with
    | none => rw [hq] at e; cases e
    | some D =>
      rw [hq] at e
      have h1 := ih hq
      have h2 := goF_BI g h1.1 ⟨hs.1, by omega⟩ (by omega) e
      exact ⟨h2.1, by omega⟩
theorem lst_in {P : Int → Prop} {N : Int} (h : ¬ lst P N = -1) : isL P N (lst P N) := by
  by_cases e : ∃ j, isL P N j
  · obtain ⟨j, hj⟩ := e
    rw [lst_some hj]; exact hj
  · exfalso
    apply h
    unfold lst
    exact @dif_neg _ (Classical.propDecidable _) e Int _ _
theorem lst_ex {P : Int → Prop} {N j : Int} (h0 : 0 ≤ j) (h1 : j < N) (h : P j) : isL P N (lst P N) := by
  apply lst_in
  intro e
  have key : ∀ (m : Nat) (j : Int), j < m → 0 ≤ j → j < N → ¬ P j := by
    intro m
    induction m with
    | zero => intro j a b; omega
    | succ m ih =>
      intro j a b c d
      have : isL P N j := ⟨b, c, d, fun i i0 i1 => ih i (by omega) i0 (by omega)⟩
      rw [lst_some this] at e
      omega
  exact key (j.toNat + 1) j (by omega) h0 h1 h
theorem endF_BI {A B : au_T} {s : Int} (hn : 0 ≤ n) (I : BI n sz A s) (hs : 0 ≤ s ∧ s < A.1) (e : endF n sz A s = some B) : BI n sz B (s + 1) ∧ A.1 = B.1 := by
  unfold endF at e
  by_cases c : conf n sz A s
  · rw [cif_pos c] at e; cases e
  · rw [cif_neg c] at e
    cases e
    obtain ⟨⟨I1, I2, I3⟩, I4⟩ := I
    refine ⟨⟨⟨I1, I2, fun s' x' a1 a2 a3 a4 => ?_⟩, fun s' x' a0 a1 a2 a3 a4 => ?_⟩, rfl⟩
    · show okE n A.1 (redE n sz A s (10 * s' + x'))
      unfold redE
      by_cases d : 4 ≤ 10 * s' + x' - 10 * s ∧ 10 * s' + x' - 10 * s ≤ 9 ∧ ¬ lst (dueP sz A.2.1 s (10 * s' + x' - 10 * s)) (n + 1) = -1
      · rw [if_pos d]
        have := lst_in d.2.2
        unfold due
        by_cases f : lst (dueP sz A.2.1 s (10 * s' + x' - 10 * s)) (n + 1) = n
        · rw [if_pos f]; exact Or.inr (Or.inr (Or.inr rfl))
        · rw [if_neg f]
          have a := this.1
          have b := this.2.1
          exact Or.inr (Or.inr (Or.inl (by omega)))
      · rw [if_neg d]; exact I3 s' x' a1 a2 a3 a4
    · show redE n sz A s (10 * s' + x') < 50
      unfold redE
      rw [if_neg (by omega)]
      exact I4 s' x' (by omega) a1 a2 a3 a4
theorem au_0_BI : BI n sz au_0 0 := ⟨⟨⟨by decide, by decide⟩, fun s i a b => absurd b (by show ¬ s < 0; omega), fun s x a b => absurd b (by show ¬ s < 0; omega)⟩, fun s x a0 a b => absurd b (by show ¬ s < 0; omega)⟩
end Auto
