/-! An instruction of the pure machine has one way on. -/
section Det
theorem ab_gI_of {v : ab_V} {f : Int → Prop} (h : ab_gI v f) : ∃ x, v = vI x ∧ f x := by
  rcases v with x | k | x
  · exact ⟨x, rfl, h⟩
  · exact h.elim
  · exact h.elim
theorem ab_gR_of {v : ab_V} {f : Nat → Prop} (h : ab_gR v f) : ∃ k, v = vR k ∧ f k := by
  rcases v with x | k | x
  · exact h.elim
  · exact ⟨k, rfl, h⟩
  · exact h.elim
theorem ab_p1_of {st : List ab_V} {f : ab_V → List ab_V → Prop} (h : ab_p1 st f) : ∃ v t, st = v :: t ∧ (∀ x, v ≠ vJ x) ∧ f v t := by
  rcases st with _ | ⟨x | k | x, t⟩
  · exact h.elim
  · exact ⟨_, t, rfl, (fun _ e => nomatch e), h⟩
  · exact ⟨_, t, rfl, (fun _ e => by cases e), h⟩
  · exact h.elim
theorem ab_p1_to {v : ab_V} {t : List ab_V} {f : ab_V → List ab_V → Prop} (hv : ∀ x, v ≠ vJ x) (h : f v t) : ab_p1 (v :: t) f := by
  rcases v with x | k | x
  · exact h
  · exact h
  · exact absurd rfl (hv x)
theorem ab_pI_of {st : List ab_V} {f : Int → List ab_V → Prop} (h : ab_pI st f) : ∃ x t, st = vI x :: t ∧ f x t := by
  rcases st with _ | ⟨x | k | x, t⟩
  · exact h.elim
  · exact ⟨x, t, rfl, h⟩
  · exact h.elim
  · exact h.elim
theorem ab_pJ_of {st : List ab_V} {f : Int → List ab_V → Prop} (h : ab_pJ st f) : ∃ x t, st = vJ x :: t ∧ f x t := by
  rcases st with _ | ⟨x | k | x, t⟩
  · exact h.elim
  · exact h.elim
  · exact h.elim
  · exact ⟨x, t, rfl, h⟩
theorem ab_pR_of {st : List ab_V} {f : Nat → List ab_V → Prop} (h : ab_pR st f) : ∃ k t, st = vR k :: t ∧ f k t := by
  rcases st with _ | ⟨x | k | x, t⟩
  · exact h.elim
  · exact h.elim
  · exact ⟨k, t, rfl, h⟩
  · exact h.elim
theorem ab_p2_of {st : List ab_V} {f : Int → Int → List ab_V → Prop} (h : ab_p2 st f) : ∃ x y t, st = vI y :: vI x :: t ∧ f x y t := by
  rcases st with _ | ⟨y | k | y, _ | ⟨x | k | x, t⟩⟩
  · exact h.elim
  · exact h.elim
  · exact ⟨x, y, t, rfl, h⟩
  · exact h.elim
  · exact h.elim
  · exact h.elim
  · exact h.elim
  · exact h.elim
  · exact h.elim
  · exact h.elim
  · exact h.elim
  · exact h.elim
  · exact h.elim
theorem ab_if_of {c : Prop} [Decidable c] {P : Prop} (h : if c then P else False) : c ∧ P := by
  by_cases hc : c
  · rw [if_pos hc] at h
    exact ⟨hc, h⟩
  · rw [if_neg hc] at h
    exact h.elim
theorem ab_ifn_of {c : Prop} [Decidable c] {P : Prop} (h : if c then False else P) : ¬ c ∧ P := by
  by_cases hc : c
  · rw [if_pos hc] at h
    exact h.elim
  · rw [if_neg hc] at h
    exact ⟨hc, h⟩
theorem ab_w1_det {t : ab_I} {ls st : List ab_V} {h : ab_S} {K : List ab_V → List ab_V → ab_S → Prop} (H : ab_w1 t ls st h K) :
    ∃ ls1 st1 h1, K ls1 st1 h1 ∧ ∀ K' : List ab_V → List ab_V → ab_S → Prop, K' ls1 st1 h1 → ab_w1 t ls st h K' := by
  obtain ⟨pc, ins, len, x1, x2⟩ := t
  cases ins
  case iconst n => exact ⟨_, _, _, H, fun _ k => k⟩
  case bipush n => exact ⟨_, _, _, H, fun _ k => k⟩
  case sipush n => exact ⟨_, _, _, H, fun _ k => k⟩
  case lconst n => exact ⟨_, _, _, H, fun _ k => k⟩
  case iload_n k =>
    obtain ⟨x, e, H⟩ := ab_gI_of H
    exact ⟨_, _, _, H, fun _ k => by show ab_gI _ _; rw [e]; exact k⟩
  case iload k =>
    obtain ⟨x, e, H⟩ := ab_gI_of H
    exact ⟨_, _, _, H, fun _ k => by show ab_gI _ _; rw [e]; exact k⟩
  case aload_n k =>
    obtain ⟨x, e, H⟩ := ab_gR_of H
    exact ⟨_, _, _, H, fun _ k => by show ab_gR _ _; rw [e]; exact k⟩
  case aload k =>
    obtain ⟨x, e, H⟩ := ab_gR_of H
    exact ⟨_, _, _, H, fun _ k => by show ab_gR _ _; rw [e]; exact k⟩
  case istore_n k =>
    obtain ⟨x, t, rfl, H⟩ := ab_pI_of H
    exact ⟨_, _, _, H, fun _ k => k⟩
  case istore k =>
    obtain ⟨x, t, rfl, H⟩ := ab_pI_of H
    exact ⟨_, _, _, H, fun _ k => k⟩
  case iinc k n =>
    obtain ⟨x, e, H⟩ := ab_gI_of H
    exact ⟨_, _, _, H.2, fun _ k => by show ab_gI _ _; rw [e]; exact ⟨H.1, k⟩⟩
  case iadd =>
    obtain ⟨x, y, t, rfl, H⟩ := ab_p2_of H
    exact ⟨_, _, _, H.2, fun _ k => ⟨H.1, k⟩⟩
  case isub =>
    obtain ⟨x, y, t, rfl, H⟩ := ab_p2_of H
    exact ⟨_, _, _, H.2, fun _ k => ⟨H.1, k⟩⟩
  case imul =>
    obtain ⟨x, y, t, rfl, H⟩ := ab_p2_of H
    exact ⟨_, _, _, H.2, fun _ k => ⟨H.1, k⟩⟩
  case idiv =>
    obtain ⟨x, y, t, rfl, H⟩ := ab_p2_of H
    exact ⟨_, _, _, H.2, fun _ k => ⟨H.1, k⟩⟩
  case irem =>
    obtain ⟨x, y, t, rfl, H⟩ := ab_p2_of H
    exact ⟨_, _, _, H.2, fun _ k => ⟨H.1, k⟩⟩
  case iand =>
    obtain ⟨x, y, t, rfl, H⟩ := ab_p2_of H
    exact ⟨_, _, _, H, fun _ k => k⟩
  case ior =>
    obtain ⟨x, y, t, rfl, H⟩ := ab_p2_of H
    exact ⟨_, _, _, H, fun _ k => k⟩
  case ixor =>
    obtain ⟨x, y, t, rfl, H⟩ := ab_p2_of H
    exact ⟨_, _, _, H, fun _ k => k⟩
  case ishl =>
    obtain ⟨x, y, t, rfl, H⟩ := ab_p2_of H
    exact ⟨_, _, _, H, fun _ k => k⟩
  case ishr =>
    obtain ⟨x, y, t, rfl, H⟩ := ab_p2_of H
    exact ⟨_, _, _, H, fun _ k => k⟩
  case iushr =>
    obtain ⟨x, y, t, rfl, H⟩ := ab_p2_of H
    exact ⟨_, _, _, H, fun _ k => k⟩
  case i2l =>
    obtain ⟨x, t, rfl, H⟩ := ab_pI_of H
    exact ⟨_, _, _, H, fun _ k => k⟩
  case lcmp =>
    obtain ⟨y, t, rfl, H⟩ := ab_pJ_of H
    obtain ⟨x, t, rfl, H⟩ := ab_pJ_of H
    exact ⟨_, _, _, H, fun _ k => k⟩
  case dup =>
    obtain ⟨v, t, rfl, hv, H⟩ := ab_p1_of (f := fun v t => K ls (v :: v :: t) h) H
    exact ⟨_, _, _, H, fun K' k => ab_p1_to (f := fun v t => K' ls (v :: v :: t) h) hv k⟩
  case dup2 =>
    obtain ⟨v, t, rfl, hv, H⟩ := ab_p1_of (f := fun v t => ab_p1 t fun w t => K ls (v :: w :: v :: w :: t) h) H
    obtain ⟨w, t, rfl, hw, H⟩ := ab_p1_of (f := fun w t => K ls (v :: w :: v :: w :: t) h) H
    exact ⟨_, _, _, H, fun K' k => ab_p1_to (f := fun v t => ab_p1 t fun w t => K' ls (v :: w :: v :: w :: t) h) hv (ab_p1_to (f := fun w t => K' ls (v :: w :: v :: w :: t) h) hw k)⟩
  case pop =>
    obtain ⟨v, t, rfl, hv, H⟩ := ab_p1_of (f := fun _ t => K ls t h) H
    exact ⟨_, _, _, H, fun K' k => ab_p1_to (f := fun _ t => K' ls t h) hv k⟩
  case arraylength =>
    obtain ⟨r, t, rfl, H⟩ := ab_pR_of H
    exact ⟨_, _, _, H.2.2, fun _ k => ⟨H.1, H.2.1, k⟩⟩
  case iaload =>
    obtain ⟨i, t, rfl, H⟩ := ab_pI_of H
    obtain ⟨r, t, rfl, H⟩ := ab_pR_of H
    obtain ⟨c, H⟩ := ab_if_of H
    exact ⟨_, _, _, H.2, fun _ k => by show ite _ _ _; rw [if_pos c]; exact ⟨H.1, k⟩⟩
  case baload =>
    obtain ⟨i, t, rfl, H⟩ := ab_pI_of H
    obtain ⟨r, t, rfl, H⟩ := ab_pR_of H
    obtain ⟨c, H⟩ := ab_if_of H
    exact ⟨_, _, _, H.2, fun _ k => by show ite _ _ _; rw [if_pos c]; exact ⟨H.1, k⟩⟩
  case laload =>
    obtain ⟨i, t, rfl, H⟩ := ab_pI_of H
    obtain ⟨r, t, rfl, H⟩ := ab_pR_of H
    obtain ⟨c, H⟩ := ab_if_of H
    exact ⟨_, _, _, H.2, fun _ k => by show ite _ _ _; rw [if_pos c]; exact ⟨H.1, k⟩⟩
  case iastore =>
    obtain ⟨x, t, rfl, H⟩ := ab_pI_of H
    obtain ⟨i, t, rfl, H⟩ := ab_pI_of H
    obtain ⟨r, t, rfl, H⟩ := ab_pR_of H
    obtain ⟨c, H⟩ := ab_if_of H
    obtain ⟨c2, H⟩ := ab_ifn_of H
    exact ⟨_, _, _, H.2, fun _ k => by show ite _ _ _; rw [if_pos c, if_neg c2]; exact ⟨H.1, k⟩⟩
  case bastore =>
    obtain ⟨x, t, rfl, H⟩ := ab_pI_of H
    obtain ⟨i, t, rfl, H⟩ := ab_pI_of H
    obtain ⟨r, t, rfl, H⟩ := ab_pR_of H
    obtain ⟨c, H⟩ := ab_if_of H
    exact ⟨_, _, _, H.2.2, fun _ k => by show ite _ _ _; rw [if_pos c]; exact ⟨H.1, H.2.1, k⟩⟩
  case lastore =>
    obtain ⟨x, t, rfl, H⟩ := ab_pJ_of H
    obtain ⟨i, t, rfl, H⟩ := ab_pI_of H
    obtain ⟨r, t, rfl, H⟩ := ab_pR_of H
    obtain ⟨c, H⟩ := ab_if_of H
    exact ⟨_, _, _, H.2.2, fun _ k => by show ite _ _ _; rw [if_pos c]; exact ⟨H.1, H.2.1, k⟩⟩
  case getfield q =>
    obtain ⟨r, t, rfl, H⟩ := ab_pR_of H
    obtain ⟨c, H⟩ := ab_if_of H
    obtain ⟨c2, H⟩ := ab_if_of H
    dsimp only at c c2 H
    cases e : ab_nf (ab_nd ab_lay r).2.2 x2 with
    | none => rw [e] at H; exact H.elim
    | some v =>
      cases v with
      | none =>
        rw [e] at H
        exact ⟨_, _, _, H, fun _ k => by show ite _ _ _; rw [if_pos c, if_pos c2]; dsimp only; rw [e]; exact k⟩
      | some w =>
        rw [e] at H
        exact ⟨_, _, _, H, fun _ k => by show ite _ _ _; rw [if_pos c, if_pos c2]; dsimp only; rw [e]; exact k⟩
  case putfield q =>
    obtain ⟨x, t, rfl, H⟩ := ab_pI_of H
    obtain ⟨r, t, rfl, H⟩ := ab_pR_of H
    obtain ⟨c, H⟩ := ab_if_of H
    obtain ⟨c2, H⟩ := ab_if_of H
    dsimp only at c c2 H
    cases e : ab_nf (ab_nd ab_lay r).2.2 x2 with
    | none => rw [e] at H; exact H.elim
    | some v =>
      cases v with
      | some w => rw [e] at H; exact H.elim
      | none =>
        rw [e] at H
        dsimp only at H
        by_cases z : ab_zf x1 x2 = true
        · rw [if_pos z] at H
          exact ⟨_, _, _, H.2, fun _ k => by show ite _ _ _; rw [if_pos c, if_pos c2]; dsimp only; rw [e]; dsimp only; rw [if_pos z]; exact ⟨H.1, k⟩⟩
        · rw [if_neg z] at H
          exact ⟨_, _, _, H, fun _ k => by show ite _ _ _; rw [if_pos c, if_pos c2]; dsimp only; rw [e]; dsimp only; rw [if_neg z]; exact k⟩
  all_goals exact H.elim
end Det
