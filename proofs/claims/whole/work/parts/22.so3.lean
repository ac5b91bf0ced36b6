/-! Calls that return, and calls that throw on: the relation is closed. -/
section So4
variable {l : Launch} {s0 : State} {a0 : Array Value} {ad : Nat → Nat} {dC : Nat → ClassId} {dI : Nat → Nat → Nat} {cA : Nat → ClassId} {N : Nat} {xs : Nat → Int32}
theorem ab_kk {h h1 h' : ab_S} (a : h 39 0 ≤ h1 39 0) (b : h1 39 0 ≤ h' 39 0) : ab_k h h1 + ab_k h1 h' = ab_k h h' := by
  unfold ab_k
  omega
theorem va_S.later {A : Nat → Prop} {H0 H : Heap} {locs : List Loc} (hS : va_S A H0 H locs) {st t T' : State} {L : List Loc} (h0 : st.heap = H) (e1 : T'.heap = t.heap) (hF : va_F A st t) (hL : ∀ q ∈ L, A q.base) : va_S A H0 T'.heap (locs ++ L) := by
  obtain ⟨f1, f2⟩ := hF
  rw [h0] at f1 f2
  refine ⟨Nat.le_trans hS.1 (by rw [e1]; exact f1), fun q h1 h2 => ?_, fun q hq => ?_⟩
  · rw [e1, f2 q (Nat.lt_of_lt_of_le h1 hS.1) h2]
    exact hS.2.1 q h1 h2
  · rcases List.mem_append.mp hq with h | h
    · exact hS.2.2 q h
    · exact hL q h
theorem so_call (hE : ab_E l s0 a0 ad dC dI cA N xs) (i n j : Nat) (as rest ls : List ab_V) (h : ab_S) (r : Option ab_V) (h1 : ab_S) (o : ab_O) (h' : ab_S) (hc : ab_cal i n j as rest) (HM : ab_MM l s0 ad dC dI cA N xs j 0 (ab_ent j as) [] h (Sum.inl r) h1)
    (HK : ab_MM l s0 ad dC dI cA N xs i (n + 1) ls (r.toList ++ rest) h1 o h') : ab_MM l s0 ad dC dI cA N xs i n ls (as.reverse ++ rest) h o h' := by
  refine ⟨Int.le_trans HM.1 HK.1, ?_⟩
  intro p e R s m args below meth c Hp locs cells slots lsA pc hcx hcell hslot hpc hro hP hS hls hrl hrs
  have ek := ab_kk HM.1 HK.1
  have hrun := ab_run (p := p) (e := e) (R := R) (s := s) (m := m) (args := args) (below := below) (meth := meth) (c := c) (H := Hp) (locs := locs) (cells := cells) (slots := slots) hE hc HM hcx hpc hro hP hS hls.1 hrs (by omega) (by omega)
  obtain ⟨t, ht, hj, hj138, hkind, -⟩ := hc
  have hrow : ∃ u, (ab_L i)[n + 1]? = some u ∧ u.1 = pc + 3 := by
    have hpc' : t.1 = pc := by
      rw [ht] at hpc
      exact Option.some.inj hpc
    have hlk := ab_lki ht
    obtain ⟨pc0, ins, len, x1, x2⟩ := t
    dsimp only at hpc' hlk hkind
    subst hpc'
    rcases hkind with ⟨k, rfl, -⟩ | ⟨k, rfl, -⟩
    · have hl : len = 3 := by simpa [ab_lk, ab_il] using hlk
      subst hl
      obtain ⟨u, hu⟩ := ab_end_of (ab_ends _ (ab_mt_mem i)) ht (fun z => nomatch z) (fun z => nomatch z) (fun z => nomatch z) (fun _ z => nomatch z)
      exact ⟨u, hu, (ab_gdi i).2 n _ u ht hu⟩
    · have hl : len = 3 := by simpa [ab_lk, ab_il] using hlk
      subst hl
      obtain ⟨u, hu⟩ := ab_end_of (ab_ends _ (ab_mt_mem i)) ht (fun z => nomatch z) (fun z => nomatch z) (fun z => nomatch z) (fun _ z => nomatch z)
      exact ⟨u, hu, (ab_gdi i).2 n _ u ht hu⟩
  obtain ⟨u, hu, hup⟩ := hrow
  intro T hT X
  rcases hrun T hT X with ⟨v, st₀, t9, T', L, h0, X', hL, e1, e2, ⟨r', er, ev, hP1, hro1, hr1, -, hF⟩, st⟩ | ⟨q, st₀, t9, T', L, E, ce, h0, X', hL, e1, e2, ⟨x, ex, -⟩, -⟩
  · cases er
    have hv : v = r.map (ab_tv ad) := Outcome.returned.inj ev
    subst hv
    have hrest : ab_rgs rest := fun w hw => hrs w (List.mem_append_right _ hw)
    have hS1 := va_S.later hS h0 e1 hF hL
    have := HK.2 p e R s m args below meth c T'.heap (locs ++ L) (cells + ab_k h h1) (slots + 6 * ab_k h h1) lsA (pc + 3) hcx (by omega) (by omega) (by rw [hu]; exact congrArg some hup) hro1 (by rw [e1]; exact hP1) hS1 hls hrl (fun w hw => by
      rcases List.mem_append.mp hw with z | z
      · exact hr1 w z
      · exact hrest w z)
    rw [show cells + ab_k h h1 + ab_k h1 h' = cells + ab_k h h' by omega, show slots + 6 * ab_k h h1 + 6 * ab_k h1 h' = slots + 6 * ab_k h h' by omega] at this
    obtain ⟨t2, a1, b1⟩ := this T' rfl X'
    refine ⟨t2, st t2 ?_, b1⟩
    have es : (r.map (ab_tv ad)).toList ++ rest.map (ab_tv ad) = (r.toList ++ rest).map (ab_tv ad) := by
      cases r <;> rfl
    rw [es]
    exact a1
  · cases ex
theorem so_callx (hE : ab_E l s0 a0 ad dC dI cA N xs) (i n j : Nat) (as rest ls : List ab_V) (h : ab_S) (x : Nat) (h1 : ab_S) (hc : ab_cal i n j as rest) (hi : ¬ (127 ≤ i ∧ i ≤ 135)) (HM : ab_MM l s0 ad dC dI cA N xs j 0 (ab_ent j as) [] h (Sum.inr x) h1) :
    ab_MM l s0 ad dC dI cA N xs i n ls (as.reverse ++ rest) h (Sum.inr x) h1 := by
  refine ⟨HM.1, ?_⟩
  intro p e R s m args below meth c Hp locs cells slots lsA pc hcx hcell hslot hpc hro hP hS hls hrl hrs
  have hrun := ab_run (p := p) (e := e) (R := R) (s := s) (m := m) (args := args) (below := below) (meth := meth) (c := c) (H := Hp) (locs := locs) (cells := cells) (slots := slots) hE hc HM hcx hpc hro hP hS hls.1 hrs hcell hslot
  obtain ⟨hx, hb, hml, hrt, hlks, hex, hown, hW0, hold, hfr, hlo⟩ := hcx
  intro T hT X
  rcases hrun T hT X with ⟨v, st₀, t9, T', L, h0, X', hL, e1, e2, ⟨r', er, -⟩, -⟩ | ⟨q, st₀, t9, T', L, E, ce, h0, X', hL, e1, e2, ⟨x', ex, eE, hx4, hP1, hro1, hF⟩, hce, hcv, hcl, st⟩
  · cases er
  · cases ex
    have hS1 := va_S.later hS h0 e1 hF hL
    have key : vx_W p l e R s m args below meth c T'.heap (locs ++ L) (cells + ab_k h h1) (slots + 6 * ab_k h h1) (vx_MQ below (ab_Qc s0 ad dC dI cA N xs (Sum.inr x) h1) (ab_XC s0 ad dC dI cA N xs (Sum.inr x) h1) args s (cells + ab_k h h1) (slots + 6 * ab_k h h1) (fun q => s0.heap.size ≤ q)) (F0 m pc lsA (rest.map (ab_tv ad))) q := by
      refine vx_out (E := E) (ce := ce) ?_ hlks (by rw [e1]; exact hce) hcv hcl (fun t ht ha => ⟨x, rfl, eE, hx4, by rw [ht, e1]; exact hP1, hro1, hS1.F ht⟩) hS1.2.2 (Nat.le_refl _) (Nat.le_refl _)
      intro z hz
      rw [hex] at hz
      unfold ab_hh at hz
      rw [if_neg hi] at hz
      exact nomatch hz
    obtain ⟨t2, a1, b1⟩ := key T' rfl X'
    exact ⟨t2, st.trans a1, b1⟩
end So4
