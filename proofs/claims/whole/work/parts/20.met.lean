/-! A method of the pure machine, from its entry, as a contract of the machine. -/
section Met9
variable {l : Launch} {s0 : State} {a0 : Array Value} {ad : Nat → Nat} {dC : Nat → ClassId} {dI : Nat → Nat → Nat} {cA : Nat → ClassId} {N : Nat} {xs : Nat → Int32}
theorem nl_c {v : ab_V} {t : List ab_V} (h : ab_nl (v :: t) = true) : (∀ x, v ≠ vJ x) ∧ ab_nl t = true := by
  unfold ab_nl at h ⊢
  rw [List.all_cons, Bool.and_eq_true] at h
  refine ⟨fun x e => ?_, h.2⟩
  subst e
  exact absurd h.1 Bool.false_ne_true
theorem sl_len : ∀ (as : List ab_V), ab_nl as = true → (lg_sl (as.map (ab_tv ad))).length = as.length
  | [], _ => rfl
  | v :: t, h => by
    obtain ⟨h1, h2⟩ := nl_c h
    have := sl_len t h2
    unfold lg_sl at this ⊢
    rw [List.map_cons, List.flatMap_cons, List.length_append, this, if_neg (by rw [tv_cat h1]; decide)]
    simp [Nat.add_comm]
theorem arg_mem : ∀ (as : List ab_V) (k0 k : Nat) (v : ab_V), ab_nl as = true → as[k]? = some v → (k0 + k, ab_tv ad v) ∈ lv_args k0 (as.map (ab_tv ad))
  | [], _, _, _, _, h => by simp at h
  | w :: t, k0, 0, v, hn, h => by
    cases Option.some.inj h
    exact List.mem_cons_self
  | w :: t, k0, k + 1, v, hn, h => by
    obtain ⟨h1, h2⟩ := nl_c hn
    have := arg_mem t (k0 + 1) k v h2 h
    rw [List.map_cons, lv_args, if_neg (by rw [tv_cat h1]; decide), show k0 + (k + 1) = k0 + 1 + k by omega]
    exact List.mem_cons_of_mem _ this
theorem ent_lsr {j : Nat} {as : List ab_V} (hn : ab_nl as = true) (hl : as.length ≤ ab_ml j) {A : Array Slot} (hh : lv_has A (ab_ml j) (lv_args 0 (as.map (ab_tv ad)))) : ab_lsr ad (ab_ml j) (ab_ent j as) A := by
  refine ⟨hh.1, hh.2.1, ?_, fun k v hk hv => ?_⟩
  · unfold ab_ent
    rw [List.length_append, List.length_replicate]
    omega
  · unfold ab_ent at hk
    by_cases hka : k < as.length
    · rw [List.getElem?_append_left hka] at hk
      have := arg_mem (ad := ad) as 0 k v hn hk
      rw [Nat.zero_add] at this
      exact hh.2.2 _ this
    · rw [List.getElem?_append_right (by omega)] at hk
      have := List.mem_of_getElem? hk
      rw [List.mem_replicate] at this
      exact absurd this.2 (hv 0)
theorem ent_rgs {j : Nat} {as : List ab_V} (h : ab_rgs as) : ab_rgs (ab_ent j as) := by
  intro v hv
  unfold ab_ent at hv
  rcases List.mem_append.mp hv with h1 | h1
  · exact h v h1
  · rw [(List.mem_replicate.mp h1).2]
    exact (show ab_rg 0 from ⟨by decide, by decide⟩)
set_option maxRecDepth 100000 in
theorem ab_pc0s : ∀ m ∈ ab_Ms, (m.2.2.2.2.2.2.2[0]?).map (fun t => t.1) = some 0 := by decide +kernel
def ab_Pc (s0 : State) (ad : Nat → Nat) (dC : Nat → ClassId) (dI : Nat → Nat → Nat) (cA : Nat → ClassId) (as : List ab_V) (h : ab_S) : Array Value → State → Prop := fun a U =>
  a = (as.map (ab_tv ad)).toArray ∧ s0.WarmedH U.vm ∧ (s0.heap.size ≤ U.heap.size ∧ ∀ q : Nat, q < s0.heap.size → U.heap[q]? = s0.heap[q]?) ∧ va_P (dC, dI) ab_cls (ab_wl ad cA h) U.heap
theorem ab_Pc_blind {as : List ab_V} {h : ab_S} : FrameBlind (ab_Pc s0 ad dC dI cA as h) := fun _ _ _ _ q => q
abbrev ab_rm (j : Nat) (h h1 : ab_S) : Room := { frames := ab_fr j, cells := ab_k h h1, slots := 6 * ab_k h h1, locals := ab_lo j }
theorem ab_body (j : Nat) (as : List ab_V) (h : ab_S) (o : ab_O) (h1 : ab_S) (HM : ab_MM l s0 ad dC dI cA N xs j 0 (ab_ent j as) [] h o h1) (hn : ab_nl as = true) (hl : as.length ≤ ab_ml j) (hr : ab_rgs as) (hro : ab_ro N xs h)
    (p : Program) (e : Env) (s : State) (m : MethodId) (args : Array Value) (below : List Frame) (meth : Method) (c : Code) (hcx : ab_cx s0 j p (ab_rm j h h1) s m meth c) (hP : ab_Pc s0 ad dC dI cA as h args s) :
    W p l e (ab_rm j h h1) s m args below meth c s.heap [] 0 0 (vx_MQ below (ab_Qc s0 ad dC dI cA N xs o h1) (ab_XC s0 ad dC dI cA N xs o h1) args s (ab_k h h1) (6 * ab_k h h1) (fun q => s0.heap.size ≤ q)) (entryFrame m args (ab_ml j)) := by
  obtain ⟨rfl, hW0, hold, hPw⟩ := hP
  have hle := lv_entry (as.map (ab_tv ad)) (n := ab_ml j) (by rw [sl_len as hn]; exact hl)
  rw [lg_entry_eq]
  have := HM.2 p e (ab_rm j h h1) s m (as.map (ab_tv ad)).toArray below meth c s.heap [] 0 0 _ 0 hcx (Nat.le_of_eq (Nat.zero_add _)) (Nat.le_of_eq (Nat.zero_add _)) (ab_pc0s _ (ab_mt_mem j)) hro hPw va_S.rf (ent_lsr hn hl hle) (ent_rgs hr) (fun _ z => nomatch z)
  rw [Nat.zero_add, Nat.zero_add] at this
  exact this
theorem ab_yni (j : Nat) : plainName (ab_yn j).cls = true ∧ (ab_yn j).cls ≠ "java/lang/invoke/MethodHandle" ∧ (ab_yn j).cls ≠ "java/lang/invoke/VarHandle" ∧ (ab_yn j).cls = ab_cs (ab_own j) ∧ ab_own j < 9 := ab_ynok _ (ab_mt_mem j)
theorem ab_kw_c {j : Nat} (hj : ¬ (127 ≤ j ∧ j ≤ 135)) : ab_kw j = .code (ab_yn j) (ab_bc j) (ab_ml j) (ab_rt j) := if_neg hj
theorem ab_kw_w {j : Nat} (hj : 127 ≤ j ∧ j ≤ 135) : ab_kw j = .codeWith (ab_yn j) (ab_bc j) (ab_ml j) (ab_rt j) (ab_hh j) := if_pos hj
theorem ab_met (j : Nat) (as : List ab_V) (h : ab_S) (o : ab_O) (h1 : ab_S) (HM : ab_MM l s0 ad dC dI cA N xs j 0 (ab_ent j as) [] h o h1) (hn : ab_nl as = true) (hl : as.length ≤ ab_ml j) (hr : ab_rgs as) (hro : ab_ro N xs h) :
    vx_Met l (ab_yn j) [ab_kw j] (ab_rm j h h1) (ab_Pc s0 ad dC dI cA as h) (ab_Qc s0 ad dC dI cA N xs o h1) (ab_XC s0 ad dC dI cA N xs o h1) (ab_k h h1) (6 * ab_k h h1) (fun q => s0.heap.size ≤ q) := by
  by_cases hj : 127 ≤ j ∧ j ≤ 135
  · rw [ab_kw_w hj]
    refine vx_ofWH (ab_yni j).1 rfl ?_
    intro p e s m args below meth c s₁ B hml hP
    refine ab_body j as h o h1 HM hn hl hr hro p e s m args below meth c ⟨B.exec, B.bytes, hml, B.returns, B.notSynchronized, ?_, ?_, hP.2.1, hP.2.2.1, Nat.le_refl _, Nat.le_refl _⟩ hP
    · exact vx_table (x := ab_yn j) B (atoms_spec (ws := [Cond.codeWith (ab_yn j) (ab_bc j) (ab_ml j) (ab_rt j) (ab_hh j)]) B.pre _ List.mem_cons_self)
    · rw [← (ab_yni j).2.2.2.1]
      exact findClass_of_methodNamed B.named
  · rw [ab_kw_c hj]
    refine vx_ofW (ab_yni j).1 rfl ?_
    intro p e s m args below meth c s₁ B hml hex hP
    refine ab_body j as h o h1 HM hn hl hr hro p e s m args below meth c ⟨B.exec, B.bytes, hml, B.returns, B.notSynchronized, ?_, ?_, hP.2.1, hP.2.2.1, Nat.le_refl _, Nat.le_refl _⟩ hP
    · unfold ab_hh
      rw [if_neg hj]
      cases e9 : c.exceptionTable.toList with
      | nil => rfl
      | cons x t => exact (hex x (by rw [e9]; exact List.mem_cons_self)).elim
    · rw [← (ab_yni j).2.2.2.1]
      exact findClass_of_methodNamed B.named
end Met9
