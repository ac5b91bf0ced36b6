/-! Straight instructions: the relation is closed. -/
section So1
theorem i3_nat (n : Nat) : Int32.ofInt (n : Int) = nI n := rfl
theorem i3_div {x y : Int} (hx : ab_rg x) (hy : ab_rg y) (h0 : 0 ≤ x) (h1 : 0 < y) : Int32.ofInt x / Int32.ofInt y = Int32.ofInt (x / y) := by
  obtain ⟨a, rfl⟩ := Int.eq_ofNat_of_zero_le h0
  obtain ⟨b, rfl⟩ := Int.eq_ofNat_of_zero_le (Int.le_of_lt h1)
  have e : ((a : Int) / (b : Int)) = ((a / b : Nat) : Int) := rfl
  have h2 := hx.2
  have h3 := hy.2
  rw [e, i3_nat, i3_nat, i3_nat, pk_div (by omega) (by omega) (by omega)]
theorem i3_mod {x y : Int} (hx : ab_rg x) (hy : ab_rg y) (h0 : 0 ≤ x) (h1 : 0 < y) : Int32.ofInt x - Int32.ofInt x / Int32.ofInt y * Int32.ofInt y = Int32.ofInt (x % y) := by
  obtain ⟨a, rfl⟩ := Int.eq_ofNat_of_zero_le h0
  obtain ⟨b, rfl⟩ := Int.eq_ofNat_of_zero_le (Int.le_of_lt h1)
  have e : ((a : Int) % (b : Int)) = ((a % b : Nat) : Int) := rfl
  have h2 := hx.2
  have h3 := hy.2
  rw [e, i3_nat, i3_nat, i3_nat, pk_rem (by omega) (by omega) (by omega)]
theorem rg_div {x y : Int} (hx : ab_rg x) (h0 : 0 ≤ x) (h1 : 0 < y) : ab_rg (x / y) := by
  have a : 0 ≤ x / y := Int.ediv_nonneg h0 (Int.le_of_lt h1)
  have b : x / y ≤ x := Int.ediv_le_self y h0
  exact ⟨by omega, by have := hx.2; omega⟩
theorem rg_mod {x y : Int} (hy : ab_rg y) (h1 : 0 < y) : ab_rg (x % y) := by
  have a : 0 ≤ x % y := Int.emod_nonneg x (by omega)
  have b : x % y < y := Int.emod_lt_of_pos x h1
  exact ⟨by omega, by have := hy.2; omega⟩
theorem rg_lc (x y : Int) : ab_rg (ab_lc x y) := by
  unfold ab_lc
  split
  · exact ⟨by decide, by decide⟩
  · split
    · exact ⟨by decide, by decide⟩
    · exact ⟨by decide, by decide⟩
theorem i6_toInt {x : Int} (hx : ab_rg x) : (Int64.ofInt x).toInt = x := Int64.toInt_ofInt_of_le (by have := hx.1; omega) (by have := hx.2; omega)
theorem i6_i2l {x : Int} (hx : ab_rg x) : (Int32.ofInt x).toInt64 = Int64.ofInt x := by
  apply Int64.toInt_inj.mp
  rw [i6_toInt hx, Int32.toInt_toInt64, i3_toInt hx]
theorem i6_cmp {x y : Int} (hx : ab_rg x) (hy : ab_rg y) : lg_cmp (Int64.ofInt x) (Int64.ofInt y) = Int32.ofInt (ab_lc x y) := by
  have e1 : Int64.ofInt x < Int64.ofInt y ↔ x < y := by rw [Int64.lt_iff_toInt_lt, i6_toInt hx, i6_toInt hy]
  have e2 : Int64.ofInt y < Int64.ofInt x ↔ y < x := by rw [Int64.lt_iff_toInt_lt, i6_toInt hx, i6_toInt hy]
  have e3 : Int64.ofInt x = Int64.ofInt y ↔ x = y := ⟨fun e => by rw [← i6_toInt hx, ← i6_toInt hy, e], fun e => by rw [e]⟩
  unfold lg_cmp ab_lc
  rcases Int.lt_trichotomy x y with h | h | h
  · simp [e1, e2, e3, h, Int.not_lt.mpr (Int.le_of_lt h), Int.ne_of_lt h]
  · subst h
    simp [e1, e2, e3]
  · simp [e1, e2, e3, h, Int.not_lt.mpr (Int.le_of_lt h), (Int.ne_of_lt h).symm]
variable {l : Launch} {s0 : State} {a0 : Array Value} {ad : Nat → Nat} {dC : Nat → ClassId} {dI : Nat → Nat → Nat} {cA : Nat → ClassId} {N : Nat} {xs : Nat → Int32}
/-- a word of the tables, later -/
theorem ab_E.word (hE : ab_E l s0 a0 ad dC dI cA N xs) {w : Cond} (hw : w ∈ lw_tbl) (hg : goodWord w = true) {s : State} (hW : s0.WarmedH s.vm) (a : Array Value) : w.before a s = true := word_at hW (good_of_word hg) (hE.2.1 w hw)
theorem ab_E.apart (hE : ab_E l s0 a0 ad dC dI cA N xs) (h : ab_S) : va_D (fun q => s0.heap.size ≤ q) (ab_wl ad cA h) := by
  obtain ⟨d1, d2⟩ := hE.2.2.1
  have hl : ∀ h : ab_S, (ab_wl ad cA h).length = 38 := fun h => (ab_wr_len _ _).trans ab_lay_len
  have key : ∀ (k : Nat) (q : Nat × va_E), (ab_wl ad cA h)[k]? = some q → (ab_wl ad cA (fun _ _ => 0))[k]? = some (q.1, ab_ce ad cA (fun _ => 0) (ab_nd ab_lay k)) := by
    intro k q hq
    have hk : k < 38 := by rw [← hl h]; exact (List.getElem?_eq_some_iff.mp hq).1
    rw [ab_wl_get hk] at hq
    rw [ab_wl_get hk, ← Option.some.inj hq]
  refine ⟨fun i j p q hp hq e => d1 i j _ _ (key i p hp) (key j q hq) e, fun k q hq => d2 k (q.1, ab_ce ad cA (fun _ => 0) (ab_nd ab_lay k)) (key k q hq)⟩
theorem ab_cls_get {c : Nat} (hc : c < 7) : ab_cls[c]? = some (ab_cs c, ab_T c, ab_N c) := by
  unfold ab_cls
  rw [List.getElem?_map, List.getElem?_range hc]
  rfl
theorem ab_ce_arr {g : Int → Int} {e : ab_D} (h : e.1 = 0) : ab_ce ad cA g e = .inl (cA 0, (e.2.1, .inl (fun j => Int32.ofInt (g ((j : Nat) : Int))))) := by
  unfold ab_ce
  rw [h]
  rfl
theorem ab_ce_arz {g : Int → Int} {e : ab_D} (h : e.1 = 1) : ab_ce ad cA g e = .inl (cA 1, (e.2.1, .inl (fun j => Int32.ofInt (g ((j : Nat) : Int))))) := by
  unfold ab_ce
  rw [h]
  rfl
theorem ab_ce_arj {g : Int → Int} {e : ab_D} (h : e.1 = 2) : ab_ce ad cA g e = .inl (cA 2, (e.2.1, .inr (.inl (fun j => Int64.ofInt (g ((j : Nat) : Int)))))) := by
  unfold ab_ce
  rw [h]
  rfl
theorem ab_ce_obj {g : Int → Int} {e : ab_D} (h : e.1 = 3) : ab_ce ad cA g e = .inr (e.2.1, ab_fs ad g 0 e.2.2) := by
  unfold ab_ce
  rw [h]
  rfl
theorem ab_ty_ne {k : Nat} (hk : ¬ k = 38) : ab_ty k = (ab_nd ab_lay k).1 := if_neg hk
theorem ab_ln_ne {h : ab_S} {k : Nat} (hk : ¬ k = 38) : ab_ln h k = (((ab_nd ab_lay k).2.1 : Nat) : Int) := if_neg hk
theorem ab_k38 {k : Nat} (h : (ab_nd ab_lay k).1 ≠ 9) : k < 38 := by
  rw [← ab_lay_len]
  exact ab_nd_lt _ _ h
theorem ab_len_le : ∀ k ∈ List.range 38, (ab_nd ab_lay k).2.1 ≤ 100000 := by decide +kernel
theorem ab_put_ok : ∀ k ∈ List.range 38, ∀ f ∈ List.range 40, (ab_nd ab_lay k).1 = 3 → ab_nf (ab_nd ab_lay k).2.2 f = some none → (ab_T (ab_nd ab_lay k).2.1 f).2.2.2 = false ∧ ((ab_tyf (ab_nd ab_lay k).2.1 f = .int ∧ ab_zf (ab_nd ab_lay k).2.1 f = false) ∨ (ab_tyf (ab_nd ab_lay k).2.1 f = .boolean ∧ ab_zf (ab_nd ab_lay k).2.1 f = true)) := by decide +kernel
theorem ab_nf_40 : ∀ k ∈ List.range 38, (ab_nd ab_lay k).2.2.length ≤ 40 := by decide +kernel
end So1
