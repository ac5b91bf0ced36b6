/-! The pure machine against the machine: the relation. -/
section Rel9
def ab_rv (v : ab_V) : Prop := match v with
  | Sum.inl x => ab_rg x
  | Sum.inr (Sum.inl _) => True
  | Sum.inr (Sum.inr x) => ab_rg x
def ab_rgs (l : List ab_V) : Prop := ∀ v ∈ l, ab_rv v
theorem rgs_c {v : ab_V} {l : List ab_V} (h : ab_rv v) (t : ab_rgs l) : ab_rgs (v :: l) := List.forall_mem_cons.mpr ⟨h, t⟩
theorem rgs_t {v : ab_V} {l : List ab_V} (h : ab_rgs (v :: l)) : ab_rgs l := (List.forall_mem_cons.mp h).2
theorem rgs_h {v : ab_V} {l : List ab_V} (h : ab_rgs (v :: l)) : ab_rv v := (List.forall_mem_cons.mp h).1
theorem rgs_nth {l : List ab_V} (h : ab_rgs l) (k : Nat) : ab_rv (ab_nth l k) := by
  induction l generalizing k with
  | nil => exact (show ab_rg 0 from ⟨by decide, by decide⟩)
  | cons v t ih =>
    cases k with
    | zero => exact rgs_h h
    | succ k => exact ih (rgs_t h) k
theorem rgs_st {l : List ab_V} (h : ab_rgs l) (k : Nat) {v : ab_V} (hv : ab_rv v) : ab_rgs (ab_st l k v) := by
  induction l generalizing k with
  | nil => exact h
  | cons w t ih =>
    cases k with
    | zero => exact rgs_c hv (rgs_t h)
    | succ k => exact rgs_c (rgs_h h) (ih (rgs_t h) k)
theorem nth_get {l : List ab_V} {k : Nat} {v : ab_V} (h : ab_nth l k = v) (hv : ∀ x, v ≠ vJ x) : l[k]? = some v := by
  induction l generalizing k with
  | nil => exact absurd h.symm (hv 0)
  | cons w t ih =>
    cases k with
    | zero => rw [← h]; rfl
    | succ k => exact ih h
theorem st_len (l : List ab_V) (k : Nat) (v : ab_V) : (ab_st l k v).length = l.length := by
  induction l generalizing k with
  | nil => rfl
  | cons w t ih =>
    cases k with
    | zero => rfl
    | succ k => rw [ab_st, List.length_cons, ih, List.length_cons]
theorem st_get {l : List ab_V} {k j : Nat} {v w : ab_V} (h : (ab_st l k v)[j]? = some w) : (j = k ∧ w = v) ∨ (j ≠ k ∧ l[j]? = some w) := by
  induction l generalizing k j with
  | nil => simp [ab_st] at h
  | cons u t ih =>
    cases k with
    | zero =>
      cases j with
      | zero => exact Or.inl ⟨rfl, (Option.some.inj h).symm⟩
      | succ j => exact Or.inr ⟨by omega, h⟩
    | succ k =>
      cases j with
      | zero => exact Or.inr ⟨by omega, h⟩
      | succ j =>
        rcases ih (k := k) (j := j) h with ⟨a, b⟩ | ⟨a, b⟩
        · exact Or.inl ⟨by omega, b⟩
        · exact Or.inr ⟨by omega, b⟩
/-- locals -/
def ab_lsr (ad : Nat → Nat) (nL : Nat) (ls : List ab_V) (A : Array Slot) : Prop := A.size = nL ∧ lv_wf A ∧ ls.length = nL ∧ ∀ (k : Nat) (v : ab_V), ls[k]? = some v → (∀ x, v ≠ vJ x) → A[k]? = some (.val (ab_tv ad v))
def ab_lv (ad : Nat → Nat) : Nat → List ab_V → List (Nat × Value)
  | _, [] => []
  | k, Sum.inr (Sum.inr _) :: t => ab_lv ad (k + 1) t
  | k, v :: t => (k, ab_tv ad v) :: ab_lv ad (k + 1) t
theorem lv_mem {ad : Nat → Nat} : ∀ (l : List ab_V) (k0 : Nat) (q : Nat × Value), q ∈ ab_lv ad k0 l → ∃ (k : Nat) (v : ab_V), l[k]? = some v ∧ (∀ x, v ≠ vJ x) ∧ q = (k0 + k, ab_tv ad v)
  | [], _, _, h => nomatch h
  | Sum.inr (Sum.inr y) :: t, k0, q, h => by
    obtain ⟨k, v, a, b, c⟩ := lv_mem t (k0 + 1) q h
    exact ⟨k + 1, v, a, b, by rw [c, show k0 + (k + 1) = k0 + 1 + k by omega]⟩
  | Sum.inl y :: t, k0, q, h => by
    rcases List.mem_cons.mp h with e | h
    · exact ⟨0, _, rfl, (fun _ e => nomatch e), e⟩
    · obtain ⟨k, v, a, b, c⟩ := lv_mem t (k0 + 1) q h
      exact ⟨k + 1, v, a, b, by rw [c, show k0 + (k + 1) = k0 + 1 + k by omega]⟩
  | Sum.inr (Sum.inl y) :: t, k0, q, h => by
    rcases List.mem_cons.mp h with e | h
    · exact ⟨0, _, rfl, (fun _ e => by cases e), e⟩
    · obtain ⟨k, v, a, b, c⟩ := lv_mem t (k0 + 1) q h
      exact ⟨k + 1, v, a, b, by rw [c, show k0 + (k + 1) = k0 + 1 + k by omega]⟩
theorem lv_memr {ad : Nat → Nat} : ∀ (l : List ab_V) (k0 k : Nat) (v : ab_V), l[k]? = some v → (∀ x, v ≠ vJ x) → (k0 + k, ab_tv ad v) ∈ ab_lv ad k0 l
  | [], _, _, _, h, _ => by simp at h
  | Sum.inr (Sum.inr y) :: t, k0, 0, v, h, hv => absurd (Option.some.inj h).symm (hv y)
  | Sum.inr (Sum.inr y) :: t, k0, k + 1, v, h, hv => by
    rw [show k0 + (k + 1) = k0 + 1 + k by omega]
    exact lv_memr t (k0 + 1) k v h hv
  | Sum.inl y :: t, k0, 0, v, h, hv => by
    cases Option.some.inj h
    exact List.mem_cons_self
  | Sum.inl y :: t, k0, k + 1, v, h, hv => by
    rw [show k0 + (k + 1) = k0 + 1 + k by omega]
    exact List.mem_cons_of_mem _ (lv_memr t (k0 + 1) k v h hv)
  | Sum.inr (Sum.inl y) :: t, k0, 0, v, h, hv => by
    cases Option.some.inj h
    exact List.mem_cons_self
  | Sum.inr (Sum.inl y) :: t, k0, k + 1, v, h, hv => by
    rw [show k0 + (k + 1) = k0 + 1 + k by omega]
    exact List.mem_cons_of_mem _ (lv_memr t (k0 + 1) k v h hv)
theorem ab_lsr.has {ad : Nat → Nat} {nL : Nat} {ls : List ab_V} {A : Array Slot} (h : ab_lsr ad nL ls A) : lv_has A nL (ab_lv ad 0 ls) := by
  refine ⟨h.1, h.2.1, fun q hq => ?_⟩
  obtain ⟨k, v, a, b, rfl⟩ := lv_mem ls 0 q hq
  rw [Nat.zero_add]
  exact h.2.2.2 k v a b
theorem tv_cat {ad : Nat → Nat} {v : ab_V} (hv : ∀ x, v ≠ vJ x) : (ab_tv ad v).category = 1 := by
  rcases v with x | k | x
  · rfl
  · rfl
  · exact absurd rfl (hv x)
/-- locals behind a store of a number -/
theorem ab_lsr.store {ad : Nat → Nat} {nL i : Nat} {x : Int} {ls : List ab_V} {A A' : Array Slot} (h : ab_lsr ad nL ls A) (hh : lv_has A' nL ((i, Value.int (Int32.ofInt x)) :: (ab_lv ad 0 ls).filter (fun q => !(q.1 == i) && !(q.1 + 1 == i && q.2.category == 2)))) : ab_lsr ad nL (ab_st ls i (vI x)) A' := by
  refine ⟨hh.1, hh.2.1, (st_len _ _ _).trans h.2.2.1, fun k v hk hv => ?_⟩
  rcases st_get hk with ⟨rfl, rfl⟩ | ⟨hne, hk⟩
  · exact hh.2.2 _ List.mem_cons_self
  · have hm := lv_memr (ad := ad) ls 0 k v hk hv
    rw [Nat.zero_add] at hm
    refine hh.2.2 (k, ab_tv ad v) (List.mem_cons_of_mem _ (List.mem_filter.mpr ⟨hm, ?_⟩))
    rw [tv_cat hv]
    simp [hne]
/-- the numbers of the world, and the script's -/
def ab_ro (N : Nat) (xs : Nat → Int32) (h : ab_S) : Prop := (∀ (k : Nat) (j : Int), k ≠ 39 → ab_rg (h k j)) ∧ h 38 (-1) = N ∧ ∀ j : Nat, j < N → h 38 j = (xs j).toInt
theorem ab_ro.up {N : Nat} {xs : Nat → Int32} {h : ab_S} (hr : ab_ro N xs h) {k : Nat} (hk : k < 38) (i : Int) {v : Int} (hv : ab_rg v) : ab_ro N xs (ab_up h k i v) := by
  refine ⟨fun k' j hk' => ?_, ?_, fun j hj => ?_⟩
  · unfold ab_up
    split
    · split
      · exact hv
      · exact hr.1 k' j hk'
    · exact hr.1 k' j hk'
  · unfold ab_up
    rw [if_neg (by omega)]
    exact hr.2.1
  · unfold ab_up
    rw [if_neg (by omega)]
    exact hr.2.2 j hj
def ab_xs (x : Nat) : String := ab_xn.getD x ""
/-- what stands still: the launch, the law's entry, the addresses, classes -/
def ab_E (l : Launch) (s0 : State) (a0 : Array Value) (ad : Nat → Nat) (dC : Nat → ClassId) (dI : Nat → Nat → Nat) (cA : Nat → ClassId) (N : Nat) (xs : Nat → Int32) : Prop :=
  l.stackTraces = false ∧ (∀ w ∈ lw_tbl, w.before a0 s0 = true) ∧ va_D (fun q => s0.heap.size ≤ q) (ab_wl ad cA (fun _ _ => 0)) ∧ va_K (dC, dI) ab_cls [(cA 0, .int), (cA 1, .boolean), (cA 2, .long)] s0 ∧
  ad 38 < s0.heap.size ∧ va_X (ad 38) N xs s0 s0.heap ∧ N < 2 ^ 31 ∧
  vx_Zq Bundle.tN "UNASSIGNED_STACK" Bundle.steD (fun q => s0.heap.size ≤ q) s0 s0.heap ∧ vx_Zq Bundle.tN "SUPPRESSED_SENTINEL" Bundle.listD (fun q => s0.heap.size ≤ q) s0 s0.heap ∧
  (∀ q ∈ ab_TH, ∃ (tx : String) (sa : Nat), vk_R (ab_cs q.1) q.2.2.1 tx sa s0) ∧ ∀ a ∈ List.range 4, ∀ b ∈ List.range 4, a ≠ b → va_Nc (ab_xs a) (ab_xs b) s0
/-- a frame of the method i -/
def ab_cx (s0 : State) (i : Nat) (p : Program) (R : Room) (s : State) (m : MethodId) (meth : Method) (c : Code) : Prop :=
  p.tables.exec = Jvm.exec ∧ c.code = ab_bc i ∧ c.maxLocals = ab_ml i ∧ meth.sig.returnType = ab_rt i ∧ meth.locks = false ∧ c.exceptionTable.toList = tableOf (ab_hh i) ∧ s.vm.findClass (ab_cs (ab_own i)) = some m.cls ∧
  s0.WarmedH s.vm ∧ (s0.heap.size ≤ s.heap.size ∧ ∀ q : Nat, q < s0.heap.size → s.heap[q]? = s0.heap[q]?) ∧ ab_fr i ≤ R.frames ∧ ab_lo i ≤ R.locals
def ab_Qc (s0 : State) (ad : Nat → Nat) (dC : Nat → ClassId) (dI : Nat → Nat → Nat) (cA : Nat → ClassId) (N : Nat) (xs : Nat → Int32) (o : ab_O) (h' : ab_S) : Array Value → State → Outcome → State → Prop := fun _ st oc t =>
  ∃ r, o = Sum.inl r ∧ oc = .returned (r.map (ab_tv ad)) ∧ va_P (dC, dI) ab_cls (ab_wl ad cA h') t.heap ∧ ab_ro N xs h' ∧ ab_rgs r.toList ∧ ab_nl r.toList = true ∧ va_F (fun q => s0.heap.size ≤ q) st t
def ab_XC (s0 : State) (ad : Nat → Nat) (dC : Nat → ClassId) (dI : Nat → Nat → Nat) (cA : Nat → ClassId) (N : Nat) (xs : Nat → Int32) (o : ab_O) (h' : ab_S) : String → State → State → Prop := fun E st t =>
  ∃ x, o = Sum.inr x ∧ E = ab_xs x ∧ x < 4 ∧ va_P (dC, dI) ab_cls (ab_wl ad cA h') t.heap ∧ ab_ro N xs h' ∧ va_F (fun q => s0.heap.size ≤ q) st t
/-- exceptions made between two states of the world -/
abbrev ab_k (h h' : ab_S) : Nat := (h' 39 0 - h 39 0).toNat
/-- the machine's relation -/
def ab_MM (l : Launch) (s0 : State) (ad : Nat → Nat) (dC : Nat → ClassId) (dI : Nat → Nat → Nat) (cA : Nat → ClassId) (N : Nat) (xs : Nat → Int32) : ab_Rel := fun i n ls st h o h' =>
  h 39 0 ≤ h' 39 0 ∧ ∀ (p : Program) (e : Env) (R : Room) (s : State) (m : MethodId) (args : Array Value) (below : List Frame) (meth : Method) (c : Code) (H : Heap) (locs : List Loc) (cells slots : Nat) (lsA : Array Slot) (pc : Nat),
    ab_cx s0 i p R s m meth c → cells + ab_k h h' ≤ R.cells → slots + 6 * ab_k h h' ≤ R.slots → (ab_L i)[n]?.map (fun t => t.1) = some pc → ab_ro N xs h → va_P (dC, dI) ab_cls (ab_wl ad cA h) H → va_S (fun q => s0.heap.size ≤ q) s.heap H locs →
    ab_lsr ad (ab_ml i) ls lsA → ab_rgs ls → ab_rgs st →
    W p l e R s m args below meth c H locs cells slots (vx_MQ below (ab_Qc s0 ad dC dI cA N xs o h') (ab_XC s0 ad dC dI cA N xs o h') args s (cells + ab_k h h') (slots + 6 * ab_k h h') (fun q => s0.heap.size ≤ q)) (F0 m pc lsA (st.map (ab_tv ad)))
end Rel9
