/-! The rules of the pure machine, the least relation that they close, and the same in continuation style. -/
section Rules
def ab_mt (i : Nat) : ab_Mt := ab_Ms.getD i M_0
abbrev ab_own (i : Nat) : Nat := (ab_mt i).1
abbrev ab_yn (i : Nat) : MethodName := (ab_mt i).2.1
abbrev ab_bc (i : Nat) : ByteArray := (ab_mt i).2.2.1
abbrev ab_ml (i : Nat) : Nat := (ab_mt i).2.2.2.1
abbrev ab_rt (i : Nat) : Option FieldType := (ab_mt i).2.2.2.2.1
abbrev ab_fr (i : Nat) : Nat := (ab_mt i).2.2.2.2.2.1
abbrev ab_lo (i : Nat) : Nat := (ab_mt i).2.2.2.2.2.2.1
abbrev ab_L (i : Nat) : List ab_I := (ab_mt i).2.2.2.2.2.2.2
/-- how many parameters a method has, its object aside -/
def ab_pnT : List Nat := [1, 0, 0, 0, 2, 3, 4, 4, 0, 1, 1, 0, 1, 0, 2, 0, 0, 0, 1, 2, 4, 3, 1, 1, 1, 1, 1, 2, 0, 1, 0, 4, 1, 0, 0, 1, 2, 1, 3, 0, 4, 3, 4, 1, 0, 0, 0, 2, 1, 0, 0, 1, 1, 2, 3, 3, 4, 4, 2, 4, 5, 1, 2, 2, 1, 0, 1, 1, 0, 4, 1, 1, 1, 0, 1, 0, 2, 0, 2, 3, 3, 4, 4, 2, 1, 0, 1, 2, 0, 0, 2, 1, 0, 4, 1, 0, 1, 1, 5, 2, 2, 4, 4, 3, 1, 2, 1, 1, 0, 0, 0, 2, 1, 3, 0, 1, 0, 2, 1, 0, 2, 1, 1, 2, 4, 2, 0, 3, 2, 4, 4, 6, 6, 2, 3, 4, 1, 2]
def ab_pn (i : Nat) : Nat := ab_pnT.getD i 0
/-- a method with handlers, an exception that it catches, what it then answers -/
def ab_HC : List (Nat × Nat × Int) := [(127, 0, 1), (127, 1, 2), (128, 1, 1), (128, 3, 2), (129, 2, 1), (130, 2, 1), (130, 0, 2), (131, 2, 1), (131, 0, 2), (132, 2, 1), (132, 0, 2), (133, 1, 1), (134, 1, 1), (134, 0, 2), (135, 2, 1), (135, 0, 2)]
def ab_nl (l : List ab_V) : Bool := l.all fun v => match v with
  | Sum.inr (Sum.inr _) => false
  | _ => true
/-- the object of a call is one of that kind -/
def ab_rc (as : List ab_V) (c : Nat) : Bool := match as with
  | Sum.inr (Sum.inl b) :: _ => (ab_nd ab_lay b).1 == 3 && (ab_nd ab_lay b).2.1 == c
  | _ => false
def ab_ent (j : Nat) (as : List ab_V) : List ab_V := as ++ List.replicate (ab_ml j - as.length) (vJ 0)
/-- a call of j with these values on top -/
def ab_cal (i n j : Nat) (as rest : List ab_V) : Prop := ∃ t, (ab_L i)[n]? = some t ∧ t.2.2.2.1 = j ∧ j < 136 + 2 ∧
  ((∃ k, t.2.1 = .invokevirtual k ∧ ab_rc as (ab_own j) = true ∧ as.length = ab_pn j + 1) ∨ (∃ k, t.2.1 = .invokestatic k ∧ as.length = ab_pn j)) ∧
  ab_nl as = true ∧ ab_nl rest = true ∧ rest.length ≤ 8 ∧ ab_fr j + 1 ≤ ab_fr i ∧ 19 + ab_ml j + ab_lo j ≤ ab_lo i
/-- where a switch goes -/
def ab_swt (L : List ab_I) (t : ab_I) (lo hi : Int) (offs : Array Int) (x : Int) : Nat := if x < lo ∨ hi < x then t.2.2.2.1 else L.findIdx (fun q => decide ((q.1 : Int) = (t.1 : Int) + offs.toList.getD (x - lo).toNat 0))
/-- five instructions that throw -/
def ab_thr (i n x : Nat) : Prop := ∃ ik is ic, (ab_own i, ik, is, ic, x) ∈ ab_TH ∧ (((ab_L i).drop n).take 5).map (fun t => t.2.1) = [Instr.new ik, Instr.dup, Instr.ldc is, Instr.invokespecial ic, Instr.athrow] ∧ 6 ≤ ab_fr i ∧ 90 ≤ ab_lo i
abbrev ab_Rel : Type := Nat → Nat → List ab_V → List ab_V → ab_S → ab_O → ab_S → Prop
def ab_Cl (R : ab_Rel) : Prop :=
  (∀ i n t ls st h o h', (ab_L i)[n]? = some t → ab_w1 t ls st h (fun ls1 st1 h1 => R i (n + 1) ls1 st1 h1 o h') → R i n ls st h o h') ∧
  (∀ i n t off ls st h o h', (ab_L i)[n]? = some t → t.2.1 = .goto off → R i t.2.2.2.1 ls st h o h' → R i n ls st h o h') ∧
  (∀ i n t c off x ls st h o h', (ab_L i)[n]? = some t → t.2.1 = .ifCond c off → (ab_cmp c x 0 → R i t.2.2.2.1 ls st h o h') → (¬ ab_cmp c x 0 → R i (n + 1) ls st h o h') → R i n ls (vI x :: st) h o h') ∧
  (∀ i n t c off x y ls st h o h', (ab_L i)[n]? = some t → t.2.1 = .if_icmp c off → (ab_cmp c x y → R i t.2.2.2.1 ls st h o h') → (¬ ab_cmp c x y → R i (n + 1) ls st h o h') → R i n ls (vI y :: vI x :: st) h o h') ∧
  (∀ i n t d lo hi offs x ls st h o h', (ab_L i)[n]? = some t → t.2.1 = .tableswitch d lo hi offs → R i (ab_swt (ab_L i) t lo hi offs x) ls st h o h' → R i n ls (vI x :: st) h o h') ∧
  (∀ i n t x ls h, (ab_L i)[n]? = some t → t.2.1 = .ireturn → (ab_rt i = some .int ∨ (ab_rt i = some .boolean ∧ (x = 0 ∨ x = 1))) → R i n ls [vI x] h (oI x) h) ∧
  (∀ i n t ls h, (ab_L i)[n]? = some t → t.2.1 = .return_ → ab_rt i = none → R i n ls [] h oV h) ∧
  (∀ i n j as rest ls h r h1 o h', ab_cal i n j as rest → R j 0 (ab_ent j as) [] h (Sum.inl r) h1 → R i (n + 1) ls (r.toList ++ rest) h1 o h' → R i n ls (as.reverse ++ rest) h o h') ∧
  (∀ i n j as rest ls h x h1, ab_cal i n j as rest → ¬ (127 ≤ i ∧ i ≤ 135) → R j 0 (ab_ent j as) [] h (Sum.inr x) h1 → R i n ls (as.reverse ++ rest) h (Sum.inr x) h1) ∧
  (∀ i n j as rest ls h x h1 c, ab_cal i n j as rest → (i, x, c) ∈ ab_HC → R j 0 (ab_ent j as) [] h (Sum.inr x) h1 → R i n ls (as.reverse ++ rest) h (oI c) h1) ∧
  (∀ i n x ls st h, ab_thr i n x → ab_nl st = true → st.length ≤ 8 → R i n ls st h (Sum.inr x) (ab_up h 39 0 (h 39 0 + 1))) ∧
  (∀ i n t k m q d p s rest ls h o h', (ab_L i)[n]? = some t → t.2.1 = .invokestatic k → t.2.2.2.1 = 9999 → ab_ty s = 0 → ab_ty d = 0 → s < 38 → d < 38 → ¬ s = d → (0 ≤ p ∧ 0 ≤ q ∧ 0 ≤ m ∧ p + m ≤ ab_ln h s ∧ q + m ≤ ab_ln h d) → ab_nl rest = true → rest.length ≤ 3 →
    R i (n + 1) ls rest (ab_cp h s p d q m) o h' → R i n ls (vI m :: vI q :: vR d :: vI p :: vR s :: rest) h o h')
def ab_lr : ab_Rel := fun i n ls st h o h' => ∀ R : ab_Rel, ab_Cl R → R i n ls st h o h'
/-- from here on, K -/
def X (i n : Nat) (ls st : List ab_V) (h : ab_S) (K : ab_O → ab_S → Prop) : Prop := ∃ o h', ab_lr i n ls st h o h' ∧ K o h'
/-- a call of j, then K -/
def C (j : Nat) (as : List ab_V) (h : ab_S) (K : ab_O → ab_S → Prop) : Prop := X j 0 (ab_ent j as) [] h K
variable {i n : Nat} {ls st : List ab_V} {h : ab_S} {K : ab_O → ab_S → Prop}
theorem X_mono {K' : ab_O → ab_S → Prop} (H : X i n ls st h K) (hk : ∀ o h', K o h' → K' o h') : X i n ls st h K' := by
  obtain ⟨o, h', a, b⟩ := H
  exact ⟨o, h', a, hk o h' b⟩
theorem C_mono {j : Nat} {as : List ab_V} {K' : ab_O → ab_S → Prop} (H : C j as h K) (hk : ∀ o h', K o h' → K' o h') : C j as h K' := X_mono H hk
theorem X_1 {t : ab_I} (ht : (ab_L i)[n]? = some t) (H : ab_w1 t ls st h (fun ls1 st1 h1 => X i (n + 1) ls1 st1 h1 K)) : X i n ls st h K := by
  obtain ⟨ls1, st1, h1, ⟨o, h', a, b⟩, d⟩ := ab_w1_det H
  exact ⟨o, h', fun R hR => hR.1 i n t ls st h o h' ht (d _ (a R hR)), b⟩
theorem X_bL {L : List ab_I} (hL : ab_L i = L) : ∀ (m n : Nat) (ls st : List ab_V) (h : ab_S), n + m ≤ L.length → ab_bw (fun ls1 st1 h1 => X i (n + m) ls1 st1 h1 K) ((L.drop n).take m) ls st h → X i n ls st h K := by
  intro m
  induction m with
  | zero =>
    intro n ls st h _ H
    rw [List.take_zero] at H
    exact H
  | succ m ih =>
    intro n ls st h hl H
    have hn : n < L.length := by omega
    have e : (L.drop n).take (m + 1) = L[n] :: (L.drop (n + 1)).take m := by
      rw [List.drop_eq_getElem_cons hn, List.take_succ_cons]
    rw [e] at H
    have ht : (ab_L i)[n]? = some L[n] := by rw [hL]; exact List.getElem?_eq_getElem hn
    refine X_1 ht ?_
    obtain ⟨ls1, st1, h1, a, d⟩ := ab_w1_det H
    refine d _ (ih (n + 1) ls1 st1 h1 (by omega) ?_)
    rw [show n + 1 + m = n + (m + 1) by omega]
    exact a
/-- m instructions on -/
theorem X_b (m n' : Nat) {L : List ab_I} (hL : ab_L i = L) (hl : Nat.ble (n + m) L.length = true) (hn : n + m = n') (H : ab_bw (fun ls1 st1 h1 => X i n' ls1 st1 h1 K) ((L.drop n).take m) ls st h) : X i n ls st h K := by
  subst hn
  exact X_bL hL m n ls st h (Nat.le_of_ble_eq_true hl) H
theorem X_goto {L : List ab_I} {t : ab_I} {off : Int} {n' : Nat} (hL : ab_L i = L) (ht : L[n]? = some t) (e : t.2.1 = .goto off) (hn : t.2.2.2.1 = n') (H : X i n' ls st h K) : X i n ls st h K := by
  subst hn
  obtain ⟨o, h', a, b⟩ := H
  exact ⟨o, h', fun R hR => hR.2.1 i n t off ls st h o h' (by rw [hL]; exact ht) e (a R hR), b⟩
theorem X_if {L : List ab_I} {t : ab_I} {c : Jvm.ClassFile.Cond} {off x : Int} {n' : Nat} (hL : ab_L i = L) (ht : L[n]? = some t) (e : t.2.1 = .ifCond c off) (hn : t.2.2.2.1 = n') (H1 : ab_cmp c x 0 → X i n' ls st h K) (H2 : ¬ ab_cmp c x 0 → X i (n + 1) ls st h K) : X i n ls (vI x :: st) h K := by
  subst hn
  have ht' : (ab_L i)[n]? = some t := by rw [hL]; exact ht
  by_cases hc : ab_cmp c x 0
  · obtain ⟨o, h', a, b⟩ := H1 hc
    exact ⟨o, h', fun R hR => hR.2.2.1 i n t c off x ls st h o h' ht' e (fun _ => a R hR) (fun z => absurd hc z), b⟩
  · obtain ⟨o, h', a, b⟩ := H2 hc
    exact ⟨o, h', fun R hR => hR.2.2.1 i n t c off x ls st h o h' ht' e (fun z => absurd z hc) (fun _ => a R hR), b⟩
theorem X_icmp {L : List ab_I} {t : ab_I} {c : Jvm.ClassFile.Cond} {off x y : Int} {n' : Nat} (hL : ab_L i = L) (ht : L[n]? = some t) (e : t.2.1 = .if_icmp c off) (hn : t.2.2.2.1 = n') (H1 : ab_cmp c x y → X i n' ls st h K) (H2 : ¬ ab_cmp c x y → X i (n + 1) ls st h K) : X i n ls (vI y :: vI x :: st) h K := by
  subst hn
  have ht' : (ab_L i)[n]? = some t := by rw [hL]; exact ht
  by_cases hc : ab_cmp c x y
  · obtain ⟨o, h', a, b⟩ := H1 hc
    exact ⟨o, h', fun R hR => hR.2.2.2.1 i n t c off x y ls st h o h' ht' e (fun _ => a R hR) (fun z => absurd hc z), b⟩
  · obtain ⟨o, h', a, b⟩ := H2 hc
    exact ⟨o, h', fun R hR => hR.2.2.2.1 i n t c off x y ls st h o h' ht' e (fun z => absurd z hc) (fun _ => a R hR), b⟩
theorem X_sw {L : List ab_I} {t : ab_I} {d lo hi : Int} {offs : Array Int} {x : Int} {n' : Nat} (hL : ab_L i = L) (ht : L[n]? = some t) (e : t.2.1 = .tableswitch d lo hi offs) (hn : ab_swt L t lo hi offs x = n') (H : X i n' ls st h K) : X i n ls (vI x :: st) h K := by
  subst hn
  subst hL
  obtain ⟨o, h', a, b⟩ := H
  exact ⟨o, h', fun R hR => hR.2.2.2.2.1 i n t d lo hi offs x ls st h o h' ht e (a R hR), b⟩
theorem X_iret {L : List ab_I} {t : ab_I} {x : Int} (hL : ab_L i = L) (ht : L[n]? = some t) (e : t.2.1 = .ireturn) (hr : ab_rt i = some .int) (H : K (oI x) h) : X i n ls [vI x] h K :=
  ⟨_, _, fun R hR => hR.2.2.2.2.2.1 i n t x ls h (by rw [hL]; exact ht) e (Or.inl hr), H⟩
theorem X_zret {L : List ab_I} {t : ab_I} {x : Int} (hL : ab_L i = L) (ht : L[n]? = some t) (e : t.2.1 = .ireturn) (hr : ab_rt i = some .boolean) (hx : x = 0 ∨ x = 1) (H : K (oI x) h) : X i n ls [vI x] h K :=
  ⟨_, _, fun R hR => hR.2.2.2.2.2.1 i n t x ls h (by rw [hL]; exact ht) e (Or.inr ⟨hr, hx⟩), H⟩
theorem X_ret {L : List ab_I} {t : ab_I} (hL : ab_L i = L) (ht : L[n]? = some t) (e : t.2.1 = .return_) (hr : ab_rt i = none) (H : K oV h) : X i n ls [] h K :=
  ⟨_, _, fun R hR => hR.2.2.2.2.2.2.1 i n t ls h (by rw [hL]; exact ht) e hr, H⟩
/-- a call that returns, where this method has no handlers it may throw too -/
theorem X_call (j : Nat) (as rest : List ab_V) (hst : as.reverse ++ rest = st) (hc : ab_cal i n j as rest) (hi : ¬ (127 ≤ i ∧ i ≤ 135))
    (H : C j as h (fun o h1 => match o with
      | Sum.inl r => X i (n + 1) ls (r.toList ++ rest) h1 K
      | Sum.inr x => K (Sum.inr x) h1)) : X i n ls st h K := by
  subst hst
  obtain ⟨o, h1, a, b⟩ := H
  cases o with
  | inl r =>
    obtain ⟨o2, h2, a2, b2⟩ := b
    exact ⟨o2, h2, fun R hR => hR.2.2.2.2.2.2.2.1 i n j as rest ls h r h1 o2 h2 hc (a R hR) (a2 R hR), b2⟩
  | inr x => exact ⟨_, _, fun R hR => hR.2.2.2.2.2.2.2.2.1 i n j as rest ls h x h1 hc hi (a R hR), b⟩
/-- the same where this method has handlers -/
theorem X_callH (j : Nat) (as rest : List ab_V) (hst : as.reverse ++ rest = st) (hc : ab_cal i n j as rest)
    (H : C j as h (fun o h1 => match o with
      | Sum.inl r => X i (n + 1) ls (r.toList ++ rest) h1 K
      | Sum.inr x => ∃ c, (i, x, c) ∈ ab_HC ∧ K (oI c) h1)) : X i n ls st h K := by
  subst hst
  obtain ⟨o, h1, a, b⟩ := H
  cases o with
  | inl r =>
    obtain ⟨o2, h2, a2, b2⟩ := b
    exact ⟨o2, h2, fun R hR => hR.2.2.2.2.2.2.2.1 i n j as rest ls h r h1 o2 h2 hc (a R hR) (a2 R hR), b2⟩
  | inr x =>
    obtain ⟨c, hm, hk⟩ := b
    exact ⟨_, _, fun R hR => hR.2.2.2.2.2.2.2.2.2.1 i n j as rest ls h x h1 c hc hm (a R hR), hk⟩
theorem X_thr (x : Nat) (ht : ab_thr i n x) (hs : ab_nl st = true) (hl : st.length ≤ 8) (H : K (Sum.inr x) (ab_up h 39 0 (h 39 0 + 1))) : X i n ls st h K :=
  ⟨_, _, fun R hR => hR.2.2.2.2.2.2.2.2.2.2.1 i n x ls st h ht hs hl, H⟩
theorem X_cp {L : List ab_I} {t : ab_I} {k s d : Nat} {m q p : Int} {rest : List ab_V} (hL : ab_L i = L) (ht : L[n]? = some t) (e : t.2.1 = .invokestatic k) (hj : t.2.2.2.1 = 9999) (h1 : ab_ty s = 0) (h2 : ab_ty d = 0) (h3 : s < 38) (h4 : d < 38) (h5 : ¬ s = d) (h6 : 0 ≤ p ∧ 0 ≤ q ∧ 0 ≤ m ∧ p + m ≤ ab_ln h s ∧ q + m ≤ ab_ln h d) (hr : ab_nl rest = true) (hr2 : rest.length ≤ 3)
    (H : X i (n + 1) ls rest (ab_cp h s p d q m) K) : X i n ls (vI m :: vI q :: vR d :: vI p :: vR s :: rest) h K := by
  obtain ⟨o, h', a, b⟩ := H
  exact ⟨o, h', fun R hR => hR.2.2.2.2.2.2.2.2.2.2.2 i n t k m q d p s rest ls h o h' (by rw [hL]; exact ht) e hj h1 h2 h3 h4 h5 h6 hr hr2 (a R hR), b⟩
end Rules
