/-! Exceptions that the law's own methods catch: the relation is closed. -/
section Cat9
variable {l : Launch} {s0 : State} {a0 : Array Value} {ad : Nat → Nat} {dC : Nat → ClassId} {dI : Nat → Nat → Nat} {cA : Nat → ClassId} {N : Nat} {xs : Nat → Int32}
/-- what a handler that answers c must be -/
def ab_hok (i x : Nat) (c : Int) : Prop := ∃ (hp : List (Nat × Nat × Nat × Nat)) (z : Nat × Nat × Nat × Nat) (hs : List (Nat × Nat × Nat × Nat)), ab_hh i = hp ++ z :: hs ∧ z.1 = 0 ∧ z.2.2.2 ≠ 0 ∧ x < 4 ∧ ab_rg c ∧ ab_own i = 7 ∧ ab_rt i = some .int ∧
  (∀ t ∈ ab_L i, ∀ k, (t.2.1 = .invokevirtual k ∨ t.2.1 = .invokestatic k) → t.1 < z.2.1) ∧ Cond.classLink (ab_cs 7) z.2.2.2 (ab_xs x) ∈ lw_tbl ∧
  (∀ w ∈ hp, w.2.2.2 ≠ 0 ∧ ∃ y, y < 4 ∧ x ≠ y ∧ Cond.classLink (ab_cs 7) w.2.2.2 (ab_xs y) ∈ lw_tbl) ∧
  ∃ ln, ((∃ k : Fin 4, decode (ab_bc i) z.2.2.1 = .ok (.astore_n k, 1) ∧ k.val < ab_ml i ∧ ln = 1) ∨ (∃ k : Nat, decode (ab_bc i) z.2.2.1 = .ok (.astore k, 2) ∧ k < ab_ml i ∧ ln = 2)) ∧ decode (ab_bc i) (z.2.2.1 + ln) = .ok (.iconst c, 1) ∧ decode (ab_bc i) (z.2.2.1 + ln + 1) = .ok (.ireturn, 1)
theorem so_callc (hE : ab_E l s0 a0 ad dC dI cA N xs) (i n j : Nat) (as rest ls : List ab_V) (h : ab_S) (x : Nat) (h1 : ab_S) (v : Int) (hc : ab_cal i n j as rest) (hok : ab_hok i x v) (HM : ab_MM l s0 ad dC dI cA N xs j 0 (ab_ent j as) [] h (Sum.inr x) h1) :
    ab_MM l s0 ad dC dI cA N xs i n ls (as.reverse ++ rest) h (oI v) h1 := by
  refine ⟨HM.1, ?_⟩
  intro p e R s m args below meth c Hp locs cells slots lsA pc hcx hcell hslot hpc hro hP hS hls hrl hrs
  have hrun := ab_run (p := p) (e := e) (R := R) (s := s) (m := m) (args := args) (below := below) (meth := meth) (c := c) (H := Hp) (locs := locs) (cells := cells) (slots := slots) hE hc HM hcx hpc hro hP hS hls.1 hrs hcell hslot
  obtain ⟨hx, hb, hml, hrt, hlks, hex, hown, hW0, hold, hfr, hlo⟩ := hcx
  obtain ⟨hp, z, hs, hsp, z0, zct, hx4, hrg, h7, hri, hcov, hlnk, hpre, ln, hast, hic, hir⟩ := hok
  rw [h7] at hown
  obtain ⟨t, ht, hj, hj138, hkind, -⟩ := hc
  have hpc' : t.1 = pc := by
    rw [ht] at hpc
    exact Option.some.inj hpc
  have hlt : pc < z.2.1 := by
    rw [← hpc']
    rcases hkind with ⟨k, ek, -⟩ | ⟨k, ek, -⟩
    · exact hcov t (List.mem_of_getElem? ht) k (Or.inl ek)
    · exact hcov t (List.mem_of_getElem? ht) k (Or.inr ek)
  intro T hT X
  rcases hrun T hT X with ⟨v9, st₀, t9, T', L, h0, X', hL, e1, e2, ⟨r', er, -⟩, -⟩ | ⟨q, st₀, t9, T', L, E, ce, h0, X', hL, e1, e2, ⟨x', ex, eE, -, hP1, hro1, hF⟩, hce, hcv, hcl, st⟩
  · cases er
  · cases ex
    subst eE
    have hS1 := va_S.later hS h0 e1 hF hL
    have fin : ∀ A9 : Array Slot, W p l e R s m args below meth c T'.heap (locs ++ L) (cells + ab_k h h1) (slots + 6 * ab_k h h1) (vx_MQ below (ab_Qc s0 ad dC dI cA N xs (oI v) h1) (ab_XC s0 ad dC dI cA N xs (oI v) h1) args s (cells + ab_k h h1) (slots + 6 * ab_k h h1) (fun q => s0.heap.size ≤ q)) (F0 m (z.2.2.1 + ln) A9 []) := by
      intro A9
      refine lv_iconst hx hb hic rfl ?_
      exact vx_ret (W.iret hx hb (hrt.trans hri) (fun t ht hW => ⟨some (vI v), rfl, rfl, by rw [ht, e1]; exact hP1, hro1, rgs_c hrg (fun _ w => nomatch w), rfl, hS1.F ht⟩) hS1.2.2 hir hlks)
    have key : vx_W p l e R s m args below meth c T'.heap (locs ++ L) (cells + ab_k h h1) (slots + 6 * ab_k h h1) (vx_MQ below (ab_Qc s0 ad dC dI cA N xs (oI v) h1) (ab_XC s0 ad dC dI cA N xs (oI v) h1) args s (cells + ab_k h h1) (slots + 6 * ab_k h h1) (fun q => s0.heap.size ≤ q)) (F0 m pc lsA (rest.map (ab_tv ad))) q := by
      have hmap : c.exceptionTable.toList = tableOf hp ++ (tableOf [z]).head! :: tableOf hs := by
        rw [hex, hsp]
        simp [tableOf]
        rfl
      refine vx_catch (own := ab_cs 7) (name := ab_xs x) (E := ab_xs x) (ce := ce) hown (tableOf hp) ((tableOf [z]).head!) (tableOf hs) hmap ?_ ?_ ?_ ?_ ?_ (by rw [e1]; exact hce) hcv hcl ?_
      · intro w hw
        obtain ⟨w0, hw0, rfl⟩ := List.mem_map.mp hw
        obtain ⟨b1, y, hy4, hxy, hyl⟩ := hpre w0 hw0
        exact Or.inr ⟨b1, ab_xs y, hE.word hyl rfl hW0 args, va_Nc.moved hW0.alike (hE.2.2.2.2.2.2.2.2.2.2 x (List.mem_range.mpr hx4) y (List.mem_range.mpr hy4) hxy)⟩
      · show (decide (z.1 ≤ pc) && decide (pc < z.2.1)) = true
        rw [z0]
        simp [hlt]
      · exact zct
      · exact hE.word hlnk rfl hW0 args
      · exact hE.face (th_i x (List.mem_range.mpr hx4)).2.2 rfl hW0 args
      · show W _ _ _ _ _ _ _ _ _ _ _ _ _ _ _ (F0 m z.2.2.1 lsA [.ref q])
        rcases hast with ⟨k, ha, hk, rfl⟩ | ⟨k, ha, hk, rfl⟩
        · exact lv_astore_n hx hb ha rfl hls.has hk rfl (fun A9 _ => fin A9)
        · exact lv_astore hx hb ha hls.has hk rfl (fun A9 _ => fin A9)
    obtain ⟨t2, a1, b1⟩ := key T' rfl X'
    exact ⟨t2, st.trans a1, b1⟩
set_option maxRecDepth 100000 in
theorem hk_127_0_c : ∀ t ∈ ab_L 127, (match t.2.1 with
    | .invokevirtual _ => decide (t.1 < 9)
    | .invokestatic _ => decide (t.1 < 9)
    | _ => true) = true := by decide +kernel
theorem hk_127_0 : ab_hok 127 0 1 := ⟨[], (0, 9, 12, 13), [(0, 9, 15, 15)], rfl, rfl, by decide, by decide, ⟨by decide, by decide⟩, rfl, rfl, (fun t ht k hk => by
  have := hk_127_0_c t ht
  rcases hk with e | e
  · rw [e] at this
    exact of_decide_eq_true this
  · rw [e] at this
    exact of_decide_eq_true this), List.mem_append_right _ (List.mem_of_getElem? (i := 234) (by decide +kernel)), fun w hw => absurd hw List.not_mem_nil, 1, Or.inl ⟨3, by decide +kernel, by decide +kernel, rfl⟩, by decide +kernel, by decide +kernel⟩
set_option maxRecDepth 100000 in
theorem hk_127_1_c : ∀ t ∈ ab_L 127, (match t.2.1 with
    | .invokevirtual _ => decide (t.1 < 9)
    | .invokestatic _ => decide (t.1 < 9)
    | _ => true) = true := by decide +kernel
theorem hk_127_1 : ab_hok 127 1 2 := ⟨[(0, 9, 12, 13)], (0, 9, 15, 15), [], rfl, rfl, by decide, by decide, ⟨by decide, by decide⟩, rfl, rfl, (fun t ht k hk => by
  have := hk_127_1_c t ht
  rcases hk with e | e
  · rw [e] at this
    exact of_decide_eq_true this
  · rw [e] at this
    exact of_decide_eq_true this), List.mem_append_right _ (List.mem_of_getElem? (i := 235) (by decide +kernel)), fun w hw => by rw [List.mem_singleton.mp hw]; exact ⟨by decide, 0, by decide, by decide, List.mem_append_right _ (List.mem_of_getElem? (i := 234) (by decide +kernel))⟩, 1, Or.inl ⟨3, by decide +kernel, by decide +kernel, rfl⟩, by decide +kernel, by decide +kernel⟩
set_option maxRecDepth 100000 in
theorem hk_128_1_c : ∀ t ∈ ab_L 128, (match t.2.1 with
    | .invokevirtual _ => decide (t.1 < 8)
    | .invokestatic _ => decide (t.1 < 8)
    | _ => true) = true := by decide +kernel
theorem hk_128_1 : ab_hok 128 1 1 := ⟨[], (0, 8, 11, 15), [(0, 8, 14, 21)], rfl, rfl, by decide, by decide, ⟨by decide, by decide⟩, rfl, rfl, (fun t ht k hk => by
  have := hk_128_1_c t ht
  rcases hk with e | e
  · rw [e] at this
    exact of_decide_eq_true this
  · rw [e] at this
    exact of_decide_eq_true this), List.mem_append_right _ (List.mem_of_getElem? (i := 235) (by decide +kernel)), fun w hw => absurd hw List.not_mem_nil, 1, Or.inl ⟨2, by decide +kernel, by decide +kernel, rfl⟩, by decide +kernel, by decide +kernel⟩
set_option maxRecDepth 100000 in
theorem hk_128_3_c : ∀ t ∈ ab_L 128, (match t.2.1 with
    | .invokevirtual _ => decide (t.1 < 8)
    | .invokestatic _ => decide (t.1 < 8)
    | _ => true) = true := by decide +kernel
theorem hk_128_3 : ab_hok 128 3 2 := ⟨[(0, 8, 11, 15)], (0, 8, 14, 21), [], rfl, rfl, by decide, by decide, ⟨by decide, by decide⟩, rfl, rfl, (fun t ht k hk => by
  have := hk_128_3_c t ht
  rcases hk with e | e
  · rw [e] at this
    exact of_decide_eq_true this
  · rw [e] at this
    exact of_decide_eq_true this), List.mem_append_right _ (List.mem_of_getElem? (i := 345) (by decide +kernel)), fun w hw => by rw [List.mem_singleton.mp hw]; exact ⟨by decide, 1, by decide, by decide, List.mem_append_right _ (List.mem_of_getElem? (i := 235) (by decide +kernel))⟩, 1, Or.inl ⟨2, by decide +kernel, by decide +kernel, rfl⟩, by decide +kernel, by decide +kernel⟩
set_option maxRecDepth 100000 in
theorem hk_129_2_c : ∀ t ∈ ab_L 129, (match t.2.1 with
    | .invokevirtual _ => decide (t.1 < 10)
    | .invokestatic _ => decide (t.1 < 10)
    | _ => true) = true := by decide +kernel
theorem hk_129_2 : ab_hok 129 2 1 := ⟨[], (0, 10, 13, 27), [], rfl, rfl, by decide, by decide, ⟨by decide, by decide⟩, rfl, rfl, (fun t ht k hk => by
  have := hk_129_2_c t ht
  rcases hk with e | e
  · rw [e] at this
    exact of_decide_eq_true this
  · rw [e] at this
    exact of_decide_eq_true this), List.mem_append_right _ (List.mem_of_getElem? (i := 457) (by decide +kernel)), fun w hw => absurd hw List.not_mem_nil, 2, Or.inr ⟨4, by decide +kernel, by decide +kernel, rfl⟩, by decide +kernel, by decide +kernel⟩
set_option maxRecDepth 100000 in
theorem hk_130_2_c : ∀ t ∈ ab_L 130, (match t.2.1 with
    | .invokevirtual _ => decide (t.1 < 7)
    | .invokestatic _ => decide (t.1 < 7)
    | _ => true) = true := by decide +kernel
theorem hk_130_2 : ab_hok 130 2 1 := ⟨[], (0, 7, 10, 27), [(0, 7, 14, 13)], rfl, rfl, by decide, by decide, ⟨by decide, by decide⟩, rfl, rfl, (fun t ht k hk => by
  have := hk_130_2_c t ht
  rcases hk with e | e
  · rw [e] at this
    exact of_decide_eq_true this
  · rw [e] at this
    exact of_decide_eq_true this), List.mem_append_right _ (List.mem_of_getElem? (i := 457) (by decide +kernel)), fun w hw => absurd hw List.not_mem_nil, 2, Or.inr ⟨4, by decide +kernel, by decide +kernel, rfl⟩, by decide +kernel, by decide +kernel⟩
set_option maxRecDepth 100000 in
theorem hk_130_0_c : ∀ t ∈ ab_L 130, (match t.2.1 with
    | .invokevirtual _ => decide (t.1 < 7)
    | .invokestatic _ => decide (t.1 < 7)
    | _ => true) = true := by decide +kernel
theorem hk_130_0 : ab_hok 130 0 2 := ⟨[(0, 7, 10, 27)], (0, 7, 14, 13), [], rfl, rfl, by decide, by decide, ⟨by decide, by decide⟩, rfl, rfl, (fun t ht k hk => by
  have := hk_130_0_c t ht
  rcases hk with e | e
  · rw [e] at this
    exact of_decide_eq_true this
  · rw [e] at this
    exact of_decide_eq_true this), List.mem_append_right _ (List.mem_of_getElem? (i := 234) (by decide +kernel)), fun w hw => by rw [List.mem_singleton.mp hw]; exact ⟨by decide, 2, by decide, by decide, List.mem_append_right _ (List.mem_of_getElem? (i := 457) (by decide +kernel))⟩, 2, Or.inr ⟨4, by decide +kernel, by decide +kernel, rfl⟩, by decide +kernel, by decide +kernel⟩
set_option maxRecDepth 100000 in
theorem hk_131_2_c : ∀ t ∈ ab_L 131, (match t.2.1 with
    | .invokevirtual _ => decide (t.1 < 21)
    | .invokestatic _ => decide (t.1 < 21)
    | _ => true) = true := by decide +kernel
theorem hk_131_2 : ab_hok 131 2 1 := ⟨[], (0, 21, 24, 27), [(0, 21, 28, 13)], rfl, rfl, by decide, by decide, ⟨by decide, by decide⟩, rfl, rfl, (fun t ht k hk => by
  have := hk_131_2_c t ht
  rcases hk with e | e
  · rw [e] at this
    exact of_decide_eq_true this
  · rw [e] at this
    exact of_decide_eq_true this), List.mem_append_right _ (List.mem_of_getElem? (i := 457) (by decide +kernel)), fun w hw => absurd hw List.not_mem_nil, 2, Or.inr ⟨6, by decide +kernel, by decide +kernel, rfl⟩, by decide +kernel, by decide +kernel⟩
set_option maxRecDepth 100000 in
theorem hk_131_0_c : ∀ t ∈ ab_L 131, (match t.2.1 with
    | .invokevirtual _ => decide (t.1 < 21)
    | .invokestatic _ => decide (t.1 < 21)
    | _ => true) = true := by decide +kernel
theorem hk_131_0 : ab_hok 131 0 2 := ⟨[(0, 21, 24, 27)], (0, 21, 28, 13), [], rfl, rfl, by decide, by decide, ⟨by decide, by decide⟩, rfl, rfl, (fun t ht k hk => by
  have := hk_131_0_c t ht
  rcases hk with e | e
  · rw [e] at this
    exact of_decide_eq_true this
  · rw [e] at this
    exact of_decide_eq_true this), List.mem_append_right _ (List.mem_of_getElem? (i := 234) (by decide +kernel)), fun w hw => by rw [List.mem_singleton.mp hw]; exact ⟨by decide, 2, by decide, by decide, List.mem_append_right _ (List.mem_of_getElem? (i := 457) (by decide +kernel))⟩, 2, Or.inr ⟨6, by decide +kernel, by decide +kernel, rfl⟩, by decide +kernel, by decide +kernel⟩
set_option maxRecDepth 100000 in
theorem hk_132_2_c : ∀ t ∈ ab_L 132, (match t.2.1 with
    | .invokevirtual _ => decide (t.1 < 21)
    | .invokestatic _ => decide (t.1 < 21)
    | _ => true) = true := by decide +kernel
theorem hk_132_2 : ab_hok 132 2 1 := ⟨[], (0, 21, 24, 27), [(0, 21, 28, 13)], rfl, rfl, by decide, by decide, ⟨by decide, by decide⟩, rfl, rfl, (fun t ht k hk => by
  have := hk_132_2_c t ht
  rcases hk with e | e
  · rw [e] at this
    exact of_decide_eq_true this
  · rw [e] at this
    exact of_decide_eq_true this), List.mem_append_right _ (List.mem_of_getElem? (i := 457) (by decide +kernel)), fun w hw => absurd hw List.not_mem_nil, 2, Or.inr ⟨6, by decide +kernel, by decide +kernel, rfl⟩, by decide +kernel, by decide +kernel⟩
set_option maxRecDepth 100000 in
theorem hk_132_0_c : ∀ t ∈ ab_L 132, (match t.2.1 with
    | .invokevirtual _ => decide (t.1 < 21)
    | .invokestatic _ => decide (t.1 < 21)
    | _ => true) = true := by decide +kernel
theorem hk_132_0 : ab_hok 132 0 2 := ⟨[(0, 21, 24, 27)], (0, 21, 28, 13), [], rfl, rfl, by decide, by decide, ⟨by decide, by decide⟩, rfl, rfl, (fun t ht k hk => by
  have := hk_132_0_c t ht
  rcases hk with e | e
  · rw [e] at this
    exact of_decide_eq_true this
  · rw [e] at this
    exact of_decide_eq_true this), List.mem_append_right _ (List.mem_of_getElem? (i := 234) (by decide +kernel)), fun w hw => by rw [List.mem_singleton.mp hw]; exact ⟨by decide, 2, by decide, by decide, List.mem_append_right _ (List.mem_of_getElem? (i := 457) (by decide +kernel))⟩, 2, Or.inr ⟨6, by decide +kernel, by decide +kernel, rfl⟩, by decide +kernel, by decide +kernel⟩
set_option maxRecDepth 100000 in
theorem hk_133_1_c : ∀ t ∈ ab_L 133, (match t.2.1 with
    | .invokevirtual _ => decide (t.1 < 8)
    | .invokestatic _ => decide (t.1 < 8)
    | _ => true) = true := by decide +kernel
theorem hk_133_1 : ab_hok 133 1 1 := ⟨[], (0, 8, 11, 15), [], rfl, rfl, by decide, by decide, ⟨by decide, by decide⟩, rfl, rfl, (fun t ht k hk => by
  have := hk_133_1_c t ht
  rcases hk with e | e
  · rw [e] at this
    exact of_decide_eq_true this
  · rw [e] at this
    exact of_decide_eq_true this), List.mem_append_right _ (List.mem_of_getElem? (i := 235) (by decide +kernel)), fun w hw => absurd hw List.not_mem_nil, 1, Or.inl ⟨2, by decide +kernel, by decide +kernel, rfl⟩, by decide +kernel, by decide +kernel⟩
set_option maxRecDepth 100000 in
theorem hk_134_1_c : ∀ t ∈ ab_L 134, (match t.2.1 with
    | .invokevirtual _ => decide (t.1 < 9)
    | .invokestatic _ => decide (t.1 < 9)
    | _ => true) = true := by decide +kernel
theorem hk_134_1 : ab_hok 134 1 1 := ⟨[], (0, 9, 12, 15), [(0, 9, 15, 13)], rfl, rfl, by decide, by decide, ⟨by decide, by decide⟩, rfl, rfl, (fun t ht k hk => by
  have := hk_134_1_c t ht
  rcases hk with e | e
  · rw [e] at this
    exact of_decide_eq_true this
  · rw [e] at this
    exact of_decide_eq_true this), List.mem_append_right _ (List.mem_of_getElem? (i := 235) (by decide +kernel)), fun w hw => absurd hw List.not_mem_nil, 1, Or.inl ⟨3, by decide +kernel, by decide +kernel, rfl⟩, by decide +kernel, by decide +kernel⟩
set_option maxRecDepth 100000 in
theorem hk_134_0_c : ∀ t ∈ ab_L 134, (match t.2.1 with
    | .invokevirtual _ => decide (t.1 < 9)
    | .invokestatic _ => decide (t.1 < 9)
    | _ => true) = true := by decide +kernel
theorem hk_134_0 : ab_hok 134 0 2 := ⟨[(0, 9, 12, 15)], (0, 9, 15, 13), [], rfl, rfl, by decide, by decide, ⟨by decide, by decide⟩, rfl, rfl, (fun t ht k hk => by
  have := hk_134_0_c t ht
  rcases hk with e | e
  · rw [e] at this
    exact of_decide_eq_true this
  · rw [e] at this
    exact of_decide_eq_true this), List.mem_append_right _ (List.mem_of_getElem? (i := 234) (by decide +kernel)), fun w hw => by rw [List.mem_singleton.mp hw]; exact ⟨by decide, 1, by decide, by decide, List.mem_append_right _ (List.mem_of_getElem? (i := 235) (by decide +kernel))⟩, 1, Or.inl ⟨3, by decide +kernel, by decide +kernel, rfl⟩, by decide +kernel, by decide +kernel⟩
set_option maxRecDepth 100000 in
theorem hk_135_2_c : ∀ t ∈ ab_L 135, (match t.2.1 with
    | .invokevirtual _ => decide (t.1 < 10)
    | .invokestatic _ => decide (t.1 < 10)
    | _ => true) = true := by decide +kernel
theorem hk_135_2 : ab_hok 135 2 1 := ⟨[], (0, 10, 13, 27), [(0, 10, 17, 13)], rfl, rfl, by decide, by decide, ⟨by decide, by decide⟩, rfl, rfl, (fun t ht k hk => by
  have := hk_135_2_c t ht
  rcases hk with e | e
  · rw [e] at this
    exact of_decide_eq_true this
  · rw [e] at this
    exact of_decide_eq_true this), List.mem_append_right _ (List.mem_of_getElem? (i := 457) (by decide +kernel)), fun w hw => absurd hw List.not_mem_nil, 2, Or.inr ⟨4, by decide +kernel, by decide +kernel, rfl⟩, by decide +kernel, by decide +kernel⟩
set_option maxRecDepth 100000 in
theorem hk_135_0_c : ∀ t ∈ ab_L 135, (match t.2.1 with
    | .invokevirtual _ => decide (t.1 < 10)
    | .invokestatic _ => decide (t.1 < 10)
    | _ => true) = true := by decide +kernel
theorem hk_135_0 : ab_hok 135 0 2 := ⟨[(0, 10, 13, 27)], (0, 10, 17, 13), [], rfl, rfl, by decide, by decide, ⟨by decide, by decide⟩, rfl, rfl, (fun t ht k hk => by
  have := hk_135_0_c t ht
  rcases hk with e | e
  · rw [e] at this
    exact of_decide_eq_true this
  · rw [e] at this
    exact of_decide_eq_true this), List.mem_append_right _ (List.mem_of_getElem? (i := 234) (by decide +kernel)), fun w hw => by rw [List.mem_singleton.mp hw]; exact ⟨by decide, 2, by decide, by decide, List.mem_append_right _ (List.mem_of_getElem? (i := 457) (by decide +kernel))⟩, 2, Or.inr ⟨4, by decide +kernel, by decide +kernel, rfl⟩, by decide +kernel, by decide +kernel⟩
theorem ab_hoks : ∀ q ∈ ab_HC, ab_hok q.1 q.2.1 q.2.2 := List.forall_mem_cons.mpr ⟨hk_127_0, List.forall_mem_cons.mpr ⟨hk_127_1, List.forall_mem_cons.mpr ⟨hk_128_1, List.forall_mem_cons.mpr ⟨hk_128_3, List.forall_mem_cons.mpr ⟨hk_129_2, List.forall_mem_cons.mpr ⟨hk_130_2, List.forall_mem_cons.mpr ⟨hk_130_0, List.forall_mem_cons.mpr ⟨hk_131_2, List.forall_mem_cons.mpr ⟨hk_131_0, List.forall_mem_cons.mpr ⟨hk_132_2, List.forall_mem_cons.mpr ⟨hk_132_0, List.forall_mem_cons.mpr ⟨hk_133_1, List.forall_mem_cons.mpr ⟨hk_134_1, List.forall_mem_cons.mpr ⟨hk_134_0, List.forall_mem_cons.mpr ⟨hk_135_2, List.forall_mem_cons.mpr ⟨hk_135_0, fun _ h => absurd h List.not_mem_nil⟩⟩⟩⟩⟩⟩⟩⟩⟩⟩⟩⟩⟩⟩⟩⟩
end Cat9
