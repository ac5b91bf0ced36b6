/-! Constructors: steps that make the world. The world so far goes in whole, and comes back whole. -/
section Ctor
/-- a new array of zeros -/
abbrev ct_ar (q : Nat) (cA : ClassId) (n : Nat) : Nat × va_E := (q, Sum.inl (cA, (n, Sum.inl (fun _ => 0))))
def ct_E (s0 : State) (a0 : Array Value) (dC : Nat → ClassId) (dI : Nat → Nat → Nat) (cA : Nat → ClassId) : Prop := (∀ w ∈ lw_tbl, w.before a0 s0 = true) ∧ va_K (dC, dI) ab_cls [(cA 0, .int), (cA 1, .boolean), (cA 2, .long)] s0
variable {l : Launch} {s0 : State} {a0 : Array Value} {dC : Nat → ClassId} {dI : Nat → Nat → Nat} {cA : Nat → ClassId}
theorem ct_E.word (hE : ct_E s0 a0 dC dI cA) {w : Cond} (hw : w ∈ lw_tbl) (hg : goodWord w = true) {s : State} (hW : s0.WarmedH s.vm) (a : Array Value) : w.before a s = true := word_at hW (good_of_word hg) (hE.1 w hw)
theorem ct_E.K (hE : ct_E s0 a0 dC dI cA) {s : State} (hW : s0.WarmedH s.vm) : va_K (dC, dI) ab_cls [(cA 0, .int), (cA 1, .boolean), (cA 2, .long)] s := va_K.moved hW.alike hE.2
theorem ct_E.lays (hE : ct_E s0 a0 dC dI cA) {s : State} (hW : s0.WarmedH s.vm) (a : Array Value) {c : Nat} (hc : c < 7) : ∀ w ∈ u_ws (ab_cs c) (ab_T c) (ab_N c), w.before a s = true := fun w hw => hE.word (ab_layok c (List.mem_range.mpr hc) w hw).1 (ab_layok c (List.mem_range.mpr hc) w hw).2 hW a
theorem ab_ty0 {c : Nat} (hc : c < 7) : ∀ a, a < ab_N c → parseFieldDescriptor (ab_T c a).2.2.1 = some (ab_tyf c a) := fun a ha => ab_tyok c (List.mem_range.mpr hc) a (List.mem_range.mpr ha)
theorem ab_nm0 {c : Nat} (hc : c < 7) : ∀ a, a < ab_N c → ∀ b, b < ab_N c → a ≠ b → (ab_T c a).2.1 ≠ (ab_T c b).2.1 := fun a ha b hb => ab_nmok c (List.mem_range.mpr hc) a (List.mem_range.mpr ha) b (List.mem_range.mpr hb)
variable {p : Program} {e : Env} {R : Room} {s : State} {m : MethodId} {args : Array Value} {below : List Frame} {meth : Method} {c : Code} {H : Heap} {locs : List Loc} {cells slots : Nat} {Q : State → Prop} {cc : ByteArray} {ls : Array Slot}
theorem ct_ra {t tk : Nat} {ty : FieldType} {cA' : ClassId} (hE : ct_E s0 a0 dC dI cA) (hW : s0.WarmedH s.vm) (htk : [(cA 0, FieldType.int), (cA 1, FieldType.boolean), (cA 2, FieldType.long)][tk]? = some (cA tk, ty)) (hK : va_K (dC, dI) ab_cls ([(cA 0, .int), (cA 1, .boolean), (cA 2, .long)] ++ [(cA', ty)]) s) : cA' = cA tk := by
  have h1 := (hK.2 3 (cA', ty) rfl).2
  have h2 := ((hE.K hW).2 tk _ htk).2
  have h3 : ∀ C, ty ≠ .object C := by
    intro C e
    subst e
    match tk, htk with
    | 0, h => cases h
    | 1, h => cases h
    | 2, h => cases h
    | k + 3, h => cases h
  cases ty with
  | object C => exact absurd rfl (h3 C)
  | _ => exact Option.some.inj (h1.symm.trans h2)
/-- aload_0; a length; newarray; putfield -/
theorem ct_arr (hE : ct_E s0 a0 dC dI cA) (hx : p.tables.exec = Jvm.exec) (hb : c.code = cc) {oc : Nat} (hoc : oc < 7) (hown : s.vm.findClass (ab_cs oc) = some m.cls) (hin : meth.name = "<init>") (hW : s0.WarmedH s.vm) (hsz : s0.heap.size ≤ s.heap.size)
    {ws : va_W} {k h0 f : Nat} {fs : List Value} (hg : ws[k]? = some (h0, .inr (oc, fs))) (hP : va_P (dC, dI) ab_cls ws H) (hD : va_D (fun q => s0.heap.size ≤ q) ws) (hS : va_S (fun q => s0.heap.size ≤ q) s.heap H locs) (hl0 : ls[0]? = some (.val (.ref h0)))
    {pc pc2 : Nat} {nn : Int32} {N' tk idx : Nat} {at9 : ArrayType} {ty : FieldType} (d0 : decode cc pc = .ok (.aload_n 0, 1))
    (hpush : W p l e R s m args below meth c H locs cells slots Q (F0 m pc2 ls [.int nn, .ref h0]) → W p l e R s m args below meth c H locs cells slots Q (F0 m (pc + 1) ls [.ref h0]))
    (d2 : decode cc pc2 = .ok (.newarray at9, 2)) (d3 : decode cc (pc2 + 2) = .ok (.putfield idx, 3)) (htk : [(cA 0, FieldType.int), (cA 1, FieldType.boolean), (cA 2, FieldType.long)][tk]? = some (cA tk, ty)) (hty : newarray.typeOf at9 = ty) (hdef : defaultValue ty = .int 0) (harr : Cond.arrayClass ty ∈ lw_tbl)
    (hn : ¬ nn < 0) (hN : nn.toNatClampNeg = N') (hbytes : N' * componentBytes ty ≤ 536870912) (hcells : cells + 1 ≤ R.cells) (hslots : slots + N' ≤ R.slots)
    (hf : f < ab_N oc) (hff : f < fs.length) (hfin : (ab_T oc f).2.2.2 = true) (hlk : Cond.fieldLink (ab_cs oc) idx (ab_cs oc) (ab_T oc f).2.1 (ab_T oc f).2.2.1 ∈ lw_tbl) (hnr : ∀ q, narrow (ab_tyf oc f) (.ref q) = .ref q) (hfi : ∀ q, fits (ab_tyf oc f) (.ref q) = true)
    (kk : ∀ (q : Nat) (H1 : Heap) (locs1 : List Loc), va_P (dC, dI) ab_cls ((ws ++ [ct_ar q (cA tk) N']).set k (h0, .inr (oc, fs.set f (.ref q)))) H1 → va_D (fun q => s0.heap.size ≤ q) ((ws ++ [ct_ar q (cA tk) N']).set k (h0, .inr (oc, fs.set f (.ref q)))) → va_S (fun q => s0.heap.size ≤ q) s.heap H1 locs1 →
      W p l e R s m args below meth c H1 locs1 (cells + 1) (slots + N') Q (F0 m (pc2 + 5) ls [])) : W p l e R s m args below meth c H locs cells slots Q (F0 m pc ls []) := by
  refine lv_aload_n hx hb d0 rfl hl0 (hpush ?_)
  refine va_newa (a0 := (N', .inl (fun _ => 0))) hx hb (by rw [hty]; exact hE.word harr rfl hW args) hty (hE.K hW) hP hD hS (fun q hq => Nat.le_trans hsz hq) (fun cA => by rw [vp_cell_i, hdef]) hn hN hbytes hcells hslots d2 (fun q cA' H1 hK1 hP1 hD1 hS1 => ?_)
  have e1 := ct_ra (t := 0) hE hW htk hK1
  subst e1
  have hg1 : (ws ++ [ct_ar q (cA tk) N'])[k]? = some (h0, .inr (oc, fs)) := by
    rw [List.getElem?_append_left (List.getElem?_eq_some_iff.mp hg).1]
    exact hg
  exact va_putF hx hb (hE.lays hW args hoc) (fun w hw => hw) (ab_tyf oc) (ab_ty0 hoc) (ab_nm0 hoc) hown (hE.K hW) hP1 hD1 hS1 k hg1 (ab_cls_get hoc) f hf (hE.word hlk rfl hW args) (fun _ z => z) hfin hin rfl (ab_ty0 hoc f hf) (hnr q) (hfi q) hff d3 (fun H2 locs2 p2 d2 s2 => kk q H2 locs2 p2 d2 s2)
/-- aload_0; aload_j; putfield -/
theorem ct_ref (hE : ct_E s0 a0 dC dI cA) (hx : p.tables.exec = Jvm.exec) (hb : c.code = cc) {oc : Nat} (hoc : oc < 7) (hown : s.vm.findClass (ab_cs oc) = some m.cls) (hin : meth.name = "<init>") (hW : s0.WarmedH s.vm)
    {ws : va_W} {k h0 f r : Nat} {fs : List Value} (hg : ws[k]? = some (h0, .inr (oc, fs))) (hP : va_P (dC, dI) ab_cls ws H) (hD : va_D (fun q => s0.heap.size ≤ q) ws) (hS : va_S (fun q => s0.heap.size ≤ q) s.heap H locs) (hl0 : ls[0]? = some (.val (.ref h0))) {j : Fin 4} {j' : Nat} (hj : j.val = j') (hlj : ls[j']? = some (.val (.ref r)))
    {pc idx : Nat} (d0 : decode cc pc = .ok (.aload_n 0, 1)) (d1 : decode cc (pc + 1) = .ok (.aload_n j, 1)) (d2 : decode cc (pc + 1 + 1) = .ok (.putfield idx, 3))
    (hf : f < ab_N oc) (hff : f < fs.length) (hfin : (ab_T oc f).2.2.2 = true) (hlk : Cond.fieldLink (ab_cs oc) idx (ab_cs oc) (ab_T oc f).2.1 (ab_T oc f).2.2.1 ∈ lw_tbl) (hnr : ∀ q, narrow (ab_tyf oc f) (.ref q) = .ref q) (hfi : ∀ q, fits (ab_tyf oc f) (.ref q) = true)
    (kk : ∀ (H1 : Heap) (locs1 : List Loc), va_P (dC, dI) ab_cls (ws.set k (h0, .inr (oc, fs.set f (.ref r)))) H1 → va_D (fun q => s0.heap.size ≤ q) (ws.set k (h0, .inr (oc, fs.set f (.ref r)))) → va_S (fun q => s0.heap.size ≤ q) s.heap H1 locs1 →
      W p l e R s m args below meth c H1 locs1 cells slots Q (F0 m (pc + 1 + 1 + 3) ls [])) : W p l e R s m args below meth c H locs cells slots Q (F0 m pc ls []) := by
  refine lv_aload_n hx hb d0 rfl hl0 (lv_aload_n hx hb d1 hj hlj ?_)
  exact va_putF hx hb (hE.lays hW args hoc) (fun w hw => hw) (ab_tyf oc) (ab_ty0 hoc) (ab_nm0 hoc) hown (hE.K hW) hP hD hS k hg (ab_cls_get hoc) f hf (hE.word hlk rfl hW args) (fun _ z => z) hfin hin rfl (ab_ty0 hoc f hf) (hnr r) (hfi r) hff d2 (fun H2 locs2 p2 d2 s2 => kk H2 locs2 p2 d2 s2)
/-- aload_0; iconst; putfield of a number -/
theorem ct_int (hE : ct_E s0 a0 dC dI cA) (hx : p.tables.exec = Jvm.exec) (hb : c.code = cc) {oc : Nat} (hoc : oc < 7) (hown : s.vm.findClass (ab_cs oc) = some m.cls) (hW : s0.WarmedH s.vm)
    {ws : va_W} {k h0 f : Nat} {fs : List Value} (hg : ws[k]? = some (h0, .inr (oc, fs))) (hP : va_P (dC, dI) ab_cls ws H) (hD : va_D (fun q => s0.heap.size ≤ q) ws) (hS : va_S (fun q => s0.heap.size ≤ q) s.heap H locs) (hl0 : ls[0]? = some (.val (.ref h0)))
    {pc idx : Nat} {z : Int} (d0 : decode cc pc = .ok (.aload_n 0, 1)) (d1 : decode cc (pc + 1) = .ok (.iconst z, 1)) (d2 : decode cc (pc + 1 + 1) = .ok (.putfield idx, 3))
    (hf : f < ab_N oc) (hff : f < fs.length) (hfin : (ab_T oc f).2.2.2 = false) (hlk : Cond.fieldLink (ab_cs oc) idx (ab_cs oc) (ab_T oc f).2.1 (ab_T oc f).2.2.1 ∈ lw_tbl) (hnr : ab_tyf oc f = .int)
    (kk : ∀ (H1 : Heap) (locs1 : List Loc), va_P (dC, dI) ab_cls (ws.set k (h0, .inr (oc, fs.set f (.int (Int32.ofInt z))))) H1 → va_D (fun q => s0.heap.size ≤ q) (ws.set k (h0, .inr (oc, fs.set f (.int (Int32.ofInt z))))) → va_S (fun q => s0.heap.size ≤ q) s.heap H1 locs1 →
      W p l e R s m args below meth c H1 locs1 cells slots Q (F0 m (pc + 1 + 1 + 3) ls [])) : W p l e R s m args below meth c H locs cells slots Q (F0 m pc ls []) := by
  refine lv_aload_n hx hb d0 rfl hl0 (lv_iconst hx hb d1 rfl ?_)
  exact va_put hx hb (hE.lays hW args hoc) (fun w hw => hw) (ab_tyf oc) (ab_ty0 hoc) (ab_nm0 hoc) hown (hE.K hW) hP hD hS k hg (ab_cls_get hoc) f hf (hE.word hlk rfl hW args) (fun _ z => z) hfin (ab_ty0 hoc f hf) (by rw [hnr]; rfl) (by rw [hnr]; rfl) hff d2 (fun H2 locs2 p2 d2 s2 => kk H2 locs2 p2 d2 s2)
/-- a constructor's start and end -/
def ct_P (s0 : State) (dC : Nat → ClassId) (dI : Nat → Nat → Nat) (as : List Value) (ws : va_W) : Array Value → State → Prop := fun a U =>
  a = as.toArray ∧ s0.WarmedH U.vm ∧ (s0.heap.size ≤ U.heap.size) ∧ va_P (dC, dI) ab_cls ws U.heap ∧ va_D (fun q => s0.heap.size ≤ q) ws
def ct_Q (s0 : State) (dC : Nat → ClassId) (dI : Nat → Nat → Nat) (post : va_W → Prop) : Array Value → State → Outcome → State → Prop := fun _ st oc t =>
  oc = .returned none ∧ (∃ ws', post ws' ∧ va_P (dC, dI) ab_cls ws' t.heap ∧ va_D (fun q => s0.heap.size ≤ q) ws') ∧ va_F (fun q => s0.heap.size ≤ q) st t
theorem ct_blind {as : List Value} {ws : va_W} : FrameBlind (ct_P s0 dC dI as ws) := fun _ _ _ _ q => q
theorem ct_call {mc ms pc : Nat} {st0 rest : List Value} {a : Array Value} {post : va_W → Prop} (hr : va_Run p l e R s m args below meth c H locs cells slots mc ms (F0 m pc ls st0) rest (ct_Q s0 dC dI post a) (fun q => s0.heap.size ≤ q)) (hS : va_S (fun q => s0.heap.size ≤ q) s.heap H locs)
    (kk : ∀ (ws' : va_W) (H1 : Heap) (locs1 : List Loc), post ws' → va_P (dC, dI) ab_cls ws' H1 → va_D (fun q => s0.heap.size ≤ q) ws' → va_S (fun q => s0.heap.size ≤ q) s.heap H1 locs1 → W p l e R s m args below meth c H1 locs1 (cells + mc) (slots + ms) Q (F0 m (pc + 3) ls rest)) : W p l e R s m args below meth c H locs cells slots Q (F0 m pc ls st0) := by
  intro T hT X
  obtain ⟨v, st₀, t, T', L, h0, X', hL, e1, e2, ⟨ev, ⟨ws', hpo, hP1, hD1⟩, hF⟩, st⟩ := hr T hT X
  have hv : v = none := Outcome.returned.inj ev
  subst hv
  obtain ⟨t2, a1, b1⟩ := kk ws' T'.heap (locs ++ L) hpo (by rw [e1]; exact hP1) hD1 (va_S.later hS h0 e1 hF hL) T' rfl X'
  exact ⟨t2, st t2 a1, b1⟩
end Ctor
