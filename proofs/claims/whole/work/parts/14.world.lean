/-! The world of the pure machine as cells of a heap; numbers as 32 bits. -/
section World9
def ab_tv (ad : Nat → Nat) : ab_V → Value
  | Sum.inl x => .int (Int32.ofInt x)
  | Sum.inr (Sum.inl k) => .ref (ad k)
  | Sum.inr (Sum.inr x) => .long (Int64.ofInt x)
def ab_fs (ad : Nat → Nat) (g : Int → Int) : Nat → List (Option Nat) → List Value
  | _, [] => []
  | k, some r :: t => .ref (ad r) :: ab_fs ad g (k + 1) t
  | k, none :: t => .int (Int32.ofInt (g ((k : Nat) : Int))) :: ab_fs ad g (k + 1) t
def ab_ce (ad : Nat → Nat) (cA : Nat → ClassId) (g : Int → Int) (e : ab_D) : va_E := match e.1 with
  | 0 => .inl (cA 0, (e.2.1, .inl (fun j => Int32.ofInt (g ((j : Nat) : Int)))))
  | 1 => .inl (cA 1, (e.2.1, .inl (fun j => Int32.ofInt (g ((j : Nat) : Int)))))
  | 2 => .inl (cA 2, (e.2.1, .inr (.inl (fun j => Int64.ofInt (g ((j : Nat) : Int))))))
  | _ => .inr (e.2.1, ab_fs ad g 0 e.2.2)
def ab_wr (ad : Nat → Nat) (cA : Nat → ClassId) (h : ab_S) : Nat → List ab_D → va_W
  | _, [] => []
  | k, e :: t => (ad k, ab_ce ad cA (h k) e) :: ab_wr ad cA h (k + 1) t
def ab_wl (ad : Nat → Nat) (cA : Nat → ClassId) (h : ab_S) : va_W := ab_wr ad cA h 0 ab_lay
variable {ad : Nat → Nat} {cA : Nat → ClassId} {h : ab_S}
theorem ab_wr_get : ∀ (L : List ab_D) (k0 k : Nat), k < L.length → (ab_wr ad cA h k0 L)[k]? = some (ad (k0 + k), ab_ce ad cA (h (k0 + k)) (ab_nd L k))
  | [], _, _, hk => absurd hk (by simp)
  | e :: t, k0, 0, _ => rfl
  | e :: t, k0, k + 1, hk => by
    have := ab_wr_get t (k0 + 1) k (by simpa using hk)
    rw [show k0 + (k + 1) = k0 + 1 + k by omega]
    exact this
theorem ab_wr_len : ∀ (L : List ab_D) (k0 : Nat), (ab_wr ad cA h k0 L).length = L.length
  | [], _ => rfl
  | e :: t, k0 => by rw [ab_wr, List.length_cons, ab_wr_len t, List.length_cons]
theorem ab_lay_len : ab_lay.length = 38 := rfl
theorem ab_wl_get {k : Nat} (hk : k < 38) : (ab_wl ad cA h)[k]? = some (ad k, ab_ce ad cA (h k) (ab_nd ab_lay k)) := by
  have := ab_wr_get (ad := ad) (cA := cA) (h := h) ab_lay 0 k (by rw [ab_lay_len]; exact hk)
  rw [Nat.zero_add] at this
  exact this
theorem ab_wl_set {k : Nat} (hk : k < 38) (g : Int → Int) {e : va_E} (he : e = ab_ce ad cA g (ab_nd ab_lay k)) : (ab_wl ad cA h).set k (ad k, e) = ab_wl ad cA (fun k' => if k' = k then g else h k') := by
  subst he
  apply List.ext_getElem?
  intro j
  rw [List.getElem?_set]
  have hl : ∀ h : ab_S, (ab_wl ad cA h).length = 38 := fun h => (ab_wr_len _ _).trans ab_lay_len
  by_cases e : k = j
  · subst e
    rw [if_pos rfl, if_pos (by rw [hl]; exact hk), ab_wl_get hk, if_pos rfl]
  · rw [if_neg e]
    by_cases hj : j < 38
    · rw [ab_wl_get hj, ab_wl_get hj, if_neg (fun q => e q.symm)]
    · rw [List.getElem?_eq_none (by rw [hl]; omega), List.getElem?_eq_none (by rw [hl]; omega)]
theorem ab_up_fun {k : Nat} {i v : Int} : ab_up h k i v = fun k' => if k' = k then (fun i' => if i' = i then v else h k i') else h k' := by
  funext k' i'
  unfold ab_up
  by_cases e : k' = k
  · subst e
    simp
  · simp [e]
/-- a kind below 3 is a cell of the world -/
theorem ab_nd_lt : ∀ (L : List ab_D) (k : Nat), (ab_nd L k).1 ≠ 9 → k < L.length
  | [], k, h => absurd rfl h
  | e :: t, 0, _ => by simp
  | e :: t, k + 1, h => by
    have := ab_nd_lt t k h
    simp only [List.length_cons]
    omega
theorem ab_fs_get : ∀ (fl : List (Option Nat)) (g : Int → Int) (k0 k : Nat) (v : Option Nat), ab_nf fl k = some v → (ab_fs ad g k0 fl)[k]? = some (match v with
    | some r => .ref (ad r)
    | none => .int (Int32.ofInt (g (((k0 + k : Nat) : Nat) : Int))))
  | [], _, _, _, _, h => nomatch h
  | some r :: t, g, k0, 0, v, h => by cases Option.some.inj h; rfl
  | none :: t, g, k0, 0, v, h => by cases Option.some.inj h; rfl
  | some r :: t, g, k0, k + 1, v, h => by
    have := ab_fs_get t g (k0 + 1) k v h
    rw [show k0 + (k + 1) = k0 + 1 + k by omega]
    exact this
  | none :: t, g, k0, k + 1, v, h => by
    have := ab_fs_get t g (k0 + 1) k v h
    rw [show k0 + (k + 1) = k0 + 1 + k by omega]
    exact this
theorem ab_fs_off : ∀ (fl : List (Option Nat)) (g : Int → Int) (k0 : Nat) (i v : Int), i < (k0 : Nat) → ab_fs ad (fun j => if j = i then v else g j) k0 fl = ab_fs ad g k0 fl
  | [], _, _, _, _, _ => rfl
  | some r :: t, g, k0, i, v, hi => by
    show _ :: _ = _ :: _
    rw [ab_fs_off t g (k0 + 1) i v (by omega)]
  | none :: t, g, k0, i, v, hi => by
    show _ :: _ = _ :: _
    rw [ab_fs_off t g (k0 + 1) i v (by omega)]
    dsimp only
    rw [if_neg (by omega)]
theorem ab_fs_set : ∀ (fl : List (Option Nat)) (g : Int → Int) (k0 k : Nat) (v : Int), ab_nf fl k = some none → (ab_fs ad g k0 fl).set k (.int (Int32.ofInt v)) = ab_fs ad (fun j => if j = (((k0 + k : Nat) : Nat) : Int) then v else g j) k0 fl
  | [], _, _, _, _, h => nomatch h
  | some r :: t, g, k0, 0, v, h => by cases h
  | none :: t, g, k0, 0, v, h => by
    show _ :: _ = _ :: _
    rw [ab_fs_off t g (k0 + 1) ((k0 + 0 : Nat) : Int) v (by omega)]
    dsimp only
    rw [if_pos (by omega)]
  | some r :: t, g, k0, k + 1, v, h => by
    show _ :: _ = _ :: _
    rw [ab_fs_set t g (k0 + 1) k v h, show k0 + 1 + k = k0 + (k + 1) by omega]
  | none :: t, g, k0, k + 1, v, h => by
    show _ :: _ = _ :: _
    rw [ab_fs_set t g (k0 + 1) k v h, show k0 + 1 + k = k0 + (k + 1) by omega]
    dsimp only
    rw [if_neg (by omega)]
theorem ab_fs_len : ∀ (fl : List (Option Nat)) (g : Int → Int) (k0 : Nat), (ab_fs ad g k0 fl).length = fl.length
  | [], _, _ => rfl
  | some r :: t, g, k0 => by
    show (_ :: _).length = _
    rw [List.length_cons, ab_fs_len t, List.length_cons]
  | none :: t, g, k0 => by
    show (_ :: _).length = _
    rw [List.length_cons, ab_fs_len t, List.length_cons]
theorem ab_nf_lt : ∀ (fl : List (Option Nat)) (k : Nat) (v : Option Nat), ab_nf fl k = some v → k < fl.length
  | [], _, _, h => nomatch h
  | _ :: t, 0, _, _ => by simp
  | _ :: t, k + 1, v, h => by
    have := ab_nf_lt t k v h
    simp only [List.length_cons]
    omega
theorem i3_toInt {x : Int} (hx : ab_rg x) : (Int32.ofInt x).toInt = x := Int32.toInt_ofInt_of_le hx.1 (by have := hx.2; omega)
theorem i3_lt {x y : Int} (hx : ab_rg x) (hy : ab_rg y) : Int32.ofInt x < Int32.ofInt y ↔ x < y := by
  rw [Int32.lt_iff_toInt_lt, i3_toInt hx, i3_toInt hy]
theorem i3_le {x y : Int} (hx : ab_rg x) (hy : ab_rg y) : Int32.ofInt x ≤ Int32.ofInt y ↔ x ≤ y := by
  rw [Int32.le_iff_toInt_le, i3_toInt hx, i3_toInt hy]
theorem i3_eq {x y : Int} (hx : ab_rg x) (hy : ab_rg y) : Int32.ofInt x = Int32.ofInt y ↔ x = y := by
  constructor
  · intro e
    rw [← i3_toInt hx, ← i3_toInt hy, e]
  · intro e
    rw [e]
theorem i3_rg (x : Int32) : ab_rg x.toInt := ⟨Int32.le_toInt x, by have := Int32.toInt_lt x; omega⟩
theorem i3_of (x : Int32) : Int32.ofInt x.toInt = x := Int32.ofInt_toInt x
theorem i3_in {i : Int} {n : Nat} (hi : ab_rg i) (h0 : 0 ≤ i) (hn : i < n) : vp_in (Int32.ofInt i) n := by
  rw [vp_in_iff, i3_toInt hi]
  exact ⟨h0, hn⟩
theorem i3_clamp {i : Int} (hi : ab_rg i) : (Int32.ofInt i).toNatClampNeg = i.toNat := by
  show (Int32.ofInt i).toInt.toNat = i.toNat
  rw [i3_toInt hi]
theorem i3_upd {g : Int → Int} {i v : Int} (hi : ab_rg i) (h0 : 0 ≤ i) : upd (fun j : Nat => Int32.ofInt (g (j : Int))) (Int32.ofInt i).toNatClampNeg (Int32.ofInt v) = fun j : Nat => Int32.ofInt ((fun i' => if i' = i then v else g i') (j : Int)) := by
  funext j
  rw [i3_clamp hi]
  unfold upd
  by_cases e : j = i.toNat
  · rw [if_pos e]
    dsimp only
    rw [if_pos (by omega)]
  · rw [if_neg e]
    dsimp only
    rw [if_neg (by omega)]
theorem i3_updL {g : Int → Int} {i v : Int} (hi : ab_rg i) (h0 : 0 ≤ i) : vp_updL (fun j : Nat => Int64.ofInt (g (j : Int))) (Int32.ofInt i).toNatClampNeg (Int64.ofInt v) = fun j : Nat => Int64.ofInt ((fun i' => if i' = i then v else g i') (j : Int)) := by
  funext j
  rw [i3_clamp hi]
  unfold vp_updL
  by_cases e : j = i.toNat
  · rw [if_pos e]
    dsimp only
    rw [if_pos (by omega)]
  · rw [if_neg e]
    dsimp only
    rw [if_neg (by omega)]
end World9
