/-! Bits of small numbers; whole cells of the world put anew; loops; the least place. -/
section Bits
def bt (x t : Int) : Int := if t = 0 then x % 2 else if t = 1 then x / 2 % 2 else if t = 2 then x / 4 % 2 else if t = 3 then x / 8 % 2 else if t = 4 then x / 16 % 2 else x / 32 % 2
def pc (x : Int) : Int := bt x 0 + bt x 1 + bt x 2 + bt x 3 + bt x 4 + bt x 5
theorem bt_01 (x t : Int) : bt x t = 0 ∨ bt x t = 1 := by
  unfold bt
  split
  · omega
  · split
    · omega
    · split
      · omega
      · split
        · omega
        · split <;> omega
theorem bt_zero (t : Int) : bt 0 t = 0 := by
  unfold bt
  simp
theorem bt_ext {x y : Int} (hx : 0 ≤ x ∧ x < 64) (hy : 0 ≤ y ∧ y < 64) (e : ∀ t, 0 ≤ t → t < 6 → bt x t = bt y t) : x = y := by
  have e0 := e 0 (by decide) (by decide)
  have e1 := e 1 (by decide) (by decide)
  have e2 := e 2 (by decide) (by decide)
  have e3 := e 3 (by decide) (by decide)
  have e4 := e 4 (by decide) (by decide)
  have e5 := e 5 (by decide) (by decide)
  simp [bt] at e0 e1 e2 e3 e4 e5
  omega
theorem bt_ne0 {x : Int} (hx : 0 ≤ x ∧ x < 64) (z : ¬ x = 0) : ∃ t, 0 ≤ t ∧ t < 6 ∧ bt x t = 1 := by
  apply Classical.byContradiction
  intro n
  apply z
  refine bt_ext hx (by omega) (fun t h1 h2 => ?_)
  rw [bt_zero]
  rcases bt_01 x t with a | a
  · exact a
  · exact absurd ⟨t, h1, h2, a⟩ n
def bck2 (x y : Nat) : Bool :=
  let o := b_or x y; let a := b_and x y; let n := b_and x (b_xor y (-1))
  decide (0 ≤ o) && decide (o < 64) && decide (0 ≤ a) && decide (a < 64) && decide (0 ≤ n) && decide (n < 64) && decide (pc x ≤ pc o) && (decide (b_and y (b_xor x (-1)) = 0) || decide (pc x + 1 ≤ pc o)) &&
  (List.range 6).all fun t => decide (bt o t = if bt x t = 1 then 1 else bt y t) && decide (bt n t = if bt y t = 1 then 0 else bt x t)
theorem bck2_all : ((List.range 64).all fun x => (List.range 64).all fun y => bck2 x y) = true := by decide +kernel
def bck1 (x t : Nat) : Bool :=
  let s := b_shl 1 t; let a := b_and x s; let f := b_xor x s
  decide (0 ≤ s) && decide (s < 64) && decide (0 ≤ f) && decide (f < 64) && decide ((a = 0) = (bt x t = 0)) &&
  (List.range 6).all fun u => decide (bt s u = if u = t then 1 else 0) && decide (bt f u = if u = t then 1 - bt x u else bt x u)
theorem bck1_all : ((List.range 64).all fun x => (List.range 6).all fun t => bck1 x t) = true := by decide +kernel
end Bits
