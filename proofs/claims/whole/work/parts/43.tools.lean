/-! What the bits' tables say; whole cells put anew; loops; the least place. -/
section Tools
theorem bck2_get {x y : Int} (hx : 0 ≤ x ∧ x < 64) (hy : 0 ≤ y ∧ y < 64) : bck2 x.toNat y.toNat = true ∧ ((x.toNat : Nat) : Int) = x ∧ ((y.toNat : Nat) : Int) = y := by
  refine ⟨?_, by omega, by omega⟩
  have h := bck2_all
  rw [List.all_eq_true] at h
  have h1 := h x.toNat (List.mem_range.mpr (by omega))
  rw [List.all_eq_true] at h1
  exact h1 y.toNat (List.mem_range.mpr (by omega))
theorem bits2 {x y : Int} (hx : 0 ≤ x ∧ x < 64) (hy : 0 ≤ y ∧ y < 64) : (0 ≤ b_or x y ∧ b_or x y < 64) ∧ (0 ≤ b_and x (b_xor y (-1)) ∧ b_and x (b_xor y (-1)) < 64) ∧ pc x ≤ pc (b_or x y) ∧ (b_and y (b_xor x (-1)) = 0 ∨ pc x + 1 ≤ pc (b_or x y)) ∧
    ∀ t, 0 ≤ t → t < 6 → bt (b_or x y) t = (if bt x t = 1 then 1 else bt y t) ∧ bt (b_and x (b_xor y (-1))) t = (if bt y t = 1 then 0 else bt x t) := by
  obtain ⟨h, ex, ey⟩ := bck2_get hx hy
  simp only [bck2, ex, ey, Bool.and_eq_true, decide_eq_true_eq, Bool.or_eq_true, List.all_eq_true, List.mem_range] at h
  obtain ⟨⟨⟨⟨⟨⟨⟨⟨a, b⟩, c⟩, d⟩, e⟩, f⟩, g⟩, i⟩, j⟩ := h
  refine ⟨⟨a, b⟩, ⟨e, f⟩, g, i, fun t h1 h2 => ?_⟩
  have et : ((t.toNat : Nat) : Int) = t := by omega
  have := j t.toNat (by omega)
  rw [et] at this
  exact this
theorem bck1_get {x t : Int} (hx : 0 ≤ x ∧ x < 64) (ht : 0 ≤ t ∧ t < 6) : (0 ≤ b_shl 1 t ∧ b_shl 1 t < 64) ∧ (0 ≤ b_xor x (b_shl 1 t) ∧ b_xor x (b_shl 1 t) < 64) ∧ (b_and x (b_shl 1 t) = 0 ↔ bt x t = 0) ∧
    ∀ u, 0 ≤ u → u < 6 → bt (b_shl 1 t) u = (if u = t then 1 else 0) ∧ bt (b_xor x (b_shl 1 t)) u = (if u = t then 1 - bt x u else bt x u) := by
  have h := bck1_all
  rw [List.all_eq_true] at h
  have h1 := h x.toNat (List.mem_range.mpr (by omega))
  rw [List.all_eq_true] at h1
  have h := h1 t.toNat (List.mem_range.mpr (by omega))
  have ex : ((x.toNat : Nat) : Int) = x := by omega
  have ey : ((t.toNat : Nat) : Int) = t := by omega
  simp only [bck1, ex, ey, Bool.and_eq_true, decide_eq_true_eq, List.all_eq_true, List.mem_range] at h
  obtain ⟨⟨⟨⟨⟨a, b⟩, c⟩, d⟩, e⟩, j⟩ := h
  refine ⟨⟨a, b⟩, ⟨c, d⟩, by rw [e], fun u h1 h2 => ?_⟩
  have et : ((u.toNat : Nat) : Int) = u := by omega
  have e2 : (u.toNat = t.toNat) = (u = t) := by apply propext; omega
  have := j u.toNat (by omega)
  rw [et] at this
  simp only [e2] at this
  exact this
/-- a bit is looked at -/
theorem tst0 {x a : Int} (hx : 0 ≤ x ∧ x < 64) (ha : 4 ≤ a ∧ a ≤ 9) (z : b_and x (b_shl 1 (a - 4)) = 0) : ¬ bt x (a - 4) = 1 := by
  have := ((bck1_get hx (t := a - 4) (by omega)).2.2.1).mp z
  omega
theorem tst1 {x a : Int} (hx : 0 ≤ x ∧ x < 64) (ha : 4 ≤ a ∧ a ≤ 9) (z : ¬ b_and x (b_shl 1 (a - 4)) = 0) : bt x (a - 4) = 1 := by
  have h1 := (bck1_get hx (t := a - 4) (by omega)).2.2.1
  rcases bt_01 x (a - 4) with b | b
  · exact absurd (h1.mpr b) z
  · exact b
theorem shl_rg {a : Int} (ha : 4 ≤ a ∧ a ≤ 9) : 0 ≤ b_shl 1 (a - 4) ∧ b_shl 1 (a - 4) < 64 := (bck1_get (x := 0) (t := a - 4) (by omega) (by omega)).1
theorem shl_bt {a u : Int} (ha : 4 ≤ a ∧ a ≤ 9) (hu : 0 ≤ u ∧ u < 6) : bt (b_shl 1 (a - 4)) u = 1 ↔ u = a - 4 := by
  rw [((bck1_get (x := 0) (t := a - 4) (by omega) (by omega)).2.2.2 u hu.1 hu.2).1]
  split <;> omega
theorem or_bt {x y t : Int} (hx : 0 ≤ x ∧ x < 64) (hy : 0 ≤ y ∧ y < 64) (ht : 0 ≤ t ∧ t < 6) : bt (b_or x y) t = 1 ↔ (bt x t = 1 ∨ bt y t = 1) := by
  rw [((bits2 hx hy).2.2.2.2 t ht.1 ht.2).1]
  split
  · omega
  · omega
theorem or_rg {x y : Int} (hx : 0 ≤ x ∧ x < 64) (hy : 0 ≤ y ∧ y < 64) : 0 ≤ b_or x y ∧ b_or x y < 64 := (bits2 hx hy).1
/-- x without y is nothing -/
theorem sub0 {x y : Int} (hx : 0 ≤ x ∧ x < 64) (hy : 0 ≤ y ∧ y < 64) (z : b_and x (b_xor y (-1)) = 0) : ∀ t, 0 ≤ t → t < 6 → bt x t = 1 → bt y t = 1 := by
  intro t h1 h2 h3
  have := ((bits2 hx hy).2.2.2.2 t h1 h2).2
  rw [z, bt_zero] at this
  split at this <;> omega
theorem sub1 {x y : Int} (hx : 0 ≤ x ∧ x < 64) (hy : 0 ≤ y ∧ y < 64) (z : ¬ b_and x (b_xor y (-1)) = 0) : ∃ t, 0 ≤ t ∧ t < 6 ∧ bt x t = 1 ∧ ¬ bt y t = 1 := by
  obtain ⟨t, h1, h2, h3⟩ := bt_ne0 (bits2 hx hy).2.1 z
  refine ⟨t, h1, h2, ?_⟩
  rw [((bits2 hx hy).2.2.2.2 t h1 h2).2] at h3
  split at h3
  · omega
  · exact ⟨h3, by assumption⟩
/-- a whole cell put anew -/
def upc (h : ab_S) (k : Nat) (f : Int → Int) : ab_S := fun k' i => if k' = k then f i else h k' i
def updc (f : Int → Int) (i v : Int) : Int → Int := fun j => if j = i then v else f j
theorem upc_self (h : ab_S) (k : Nat) : upc h k (h k) = h := by
  funext a b
  unfold upc
  split
  · rename_i e; rw [e]
  · rfl
theorem up_upc (h : ab_S) (k : Nat) (f : Int → Int) (i v : Int) : ab_up (upc h k f) k i v = upc h k (updc f i v) := by
  funext a b
  unfold ab_up upc updc
  split <;> simp
theorem up_c (h : ab_S) (k : Nat) (i v : Int) : ab_up h k i v = upc h k (updc (h k) i v) := by
  funext a b
  unfold ab_up upc updc
  split
  · rename_i e; rw [e]
  · rfl
theorem upc_upc (h : ab_S) (k : Nat) (f g : Int → Int) : upc (upc h k f) k g = upc h k g := by
  funext a b
  unfold upc
  split <;> rfl
theorem upc_comm (h : ab_S) {k l : Nat} (n : ¬ k = l) (f g : Int → Int) : upc (upc h k f) l g = upc (upc h l g) k f := by
  funext a b
  unfold upc
  split
  · rename_i e
    rw [if_neg (by omega)]
  · rfl
theorem upc_at (h : ab_S) (k : Nat) (f : Int → Int) : upc h k f k = f := by
  funext i
  unfold upc
  rw [if_pos rfl]
theorem upc_ne (h : ab_S) {k l : Nat} (f : Int → Int) (n : ¬ l = k) : upc h k f l = h l := by
  funext i
  unfold upc
  rw [if_neg n]
theorem updc_at (f : Int → Int) (i v : Int) : updc f i v i = v := by
  unfold updc
  rw [if_pos rfl]
theorem updc_ne (f : Int → Int) {i j : Int} (v : Int) (n : ¬ j = i) : updc f i v j = f j := by
  unfold updc
  rw [if_neg n]
/-- a loop from a up to b -/
theorem lp {P : Int → Prop} (a b : Int) (hab : a ≤ b) (st : ∀ i, a ≤ i → i ≤ b → (i < b → P (i + 1)) → P i) : P a := by
  have key : ∀ (m : Nat) (i : Int), a ≤ i → i + m = b → P i := by
    intro m
    induction m with
    | zero => intro i h1 h2; exact st i h1 (by omega) (fun h => absurd h (by omega))
    | succ m ih => intro i h1 h2; exact st i h1 (by omega) (fun _ => ih (i + 1) (by omega) (by omega))
  exact key (b - a).toNat a (by omega) (by omega)
/-- of two by a statement -/
noncomputable def cif {α : Type} (P : Prop) (a b : α) : α := @ite α P (Classical.propDecidable P) a b
theorem cif_pos {α : Type} {P : Prop} (h : P) (a b : α) : cif P a b = a := by
  unfold cif
  exact @if_pos P (Classical.propDecidable P) h α a b
theorem cif_neg {α : Type} {P : Prop} (h : ¬ P) (a b : α) : cif P a b = b := by
  unfold cif
  exact @if_neg P (Classical.propDecidable P) h α a b
theorem cif_congr {α : Type} {P Q : Prop} (h : P ↔ Q) (a b : α) : cif P a b = cif Q a b := by rw [propext h]
/-- the least place under N with P, or -1 -/
def isL (P : Int → Prop) (N j : Int) : Prop := 0 ≤ j ∧ j < N ∧ P j ∧ ∀ i, 0 ≤ i → i < j → ¬ P i
noncomputable def lst (P : Int → Prop) (N : Int) : Int := @dite Int (∃ j, isL P N j) (Classical.propDecidable _) (fun e => Classical.choose e) (fun _ => -1)
theorem lst_some {P : Int → Prop} {N j : Int} (h : isL P N j) : lst P N = j := by
  have e : ∃ j, isL P N j := ⟨j, h⟩
  have h2 : lst P N = Classical.choose e := by
    unfold lst
    exact @dif_pos _ (Classical.propDecidable _) e Int _ _
  rw [h2]
  have h3 := Classical.choose_spec e
  obtain ⟨a1, a2, a3, a4⟩ := h3
  obtain ⟨b1, b2, b3, b4⟩ := h
  rcases Int.lt_trichotomy (Classical.choose e) j with c | c | c
  · exact absurd a3 (b4 _ a1 c)
  · exact c
  · exact absurd b3 (a4 _ b1 c)
theorem lst_none {P : Int → Prop} {N : Int} (h : ∀ j, 0 ≤ j → j < N → ¬ P j) : lst P N = -1 := by
  unfold lst
  exact @dif_neg _ (Classical.propDecidable _) (fun e => by obtain ⟨j, a, b, c, _⟩ := e; exact h j a b c) Int _ _
end Tools
