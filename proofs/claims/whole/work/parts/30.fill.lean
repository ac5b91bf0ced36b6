/-! Arrays.fill of an array of ints, over any world. -/
section Fill
variable {l : Launch} {s0 : State} {a0 : Array Value} {dC : Nat → ClassId} {dI : Nat → Nat → Nat} {cA : Nat → ClassId}
abbrev fl_f (f : Nat → Int32) (t : Nat) (v : Int32) : Nat → Int32 := fun i => if i < t then v else f i
abbrev fl_w (ws : va_W) (k h0 : Nat) (c : ClassId) (n : Nat) (f : Nat → Int32) (t : Nat) (v : Int32) : va_W := ws.set k (h0, Sum.inl (c, (n, Sum.inl (fl_f f t v))))
theorem fl_upd (f : Nat → Int32) (t : Nat) (v : Int32) : upd (fl_f f t v) t v = fl_f f (t + 1) v := by
  funext i
  unfold upd
  by_cases e : i = t
  · subst e
    rw [if_pos rfl]
    exact (if_pos (Nat.lt_succ_self i)).symm
  · rw [if_neg e]
    by_cases h : i < t
    · exact (if_pos h).trans (if_pos (show i < t + 1 by omega)).symm
    · exact (if_neg h).trans (if_neg (show ¬ i < t + 1 by omega)).symm
theorem fl_set (ws : va_W) (k h0 : Nat) (c : ClassId) (n : Nat) (f : Nat → Int32) (t : Nat) (v : Int32) : (fl_w ws k h0 c n f t v).set k (h0, Sum.inl (c, (n, Sum.inl (fl_f f (t + 1) v)))) = fl_w ws k h0 c n f (t + 1) v := List.set_set ..
theorem fl_d0 : decode prog_18_method_103_code 0 = .ok (.iconst 0, 1) := by decide +kernel
theorem fl_d1 : decode prog_18_method_103_code 1 = .ok (.istore_n 2, 1) := by decide +kernel
theorem fl_d2 : decode prog_18_method_103_code 2 = .ok (.aload_n 0, 1) := by decide +kernel
theorem fl_d3 : decode prog_18_method_103_code 3 = .ok (.arraylength, 1) := by decide +kernel
theorem fl_d4 : decode prog_18_method_103_code 4 = .ok (.istore_n 3, 1) := by decide +kernel
theorem fl_d5 : decode prog_18_method_103_code 5 = .ok (.iload_n 2, 1) := by decide +kernel
theorem fl_d6 : decode prog_18_method_103_code 6 = .ok (.iload_n 3, 1) := by decide +kernel
theorem fl_d7 : decode prog_18_method_103_code 7 = .ok (.if_icmp .ge 13, 3) := by decide +kernel
theorem fl_d10 : decode prog_18_method_103_code 10 = .ok (.aload_n 0, 1) := by decide +kernel
theorem fl_d11 : decode prog_18_method_103_code 11 = .ok (.iload_n 2, 1) := by decide +kernel
theorem fl_d12 : decode prog_18_method_103_code 12 = .ok (.iload_n 1, 1) := by decide +kernel
theorem fl_d13 : decode prog_18_method_103_code 13 = .ok (.iastore, 1) := by decide +kernel
theorem fl_d14 : decode prog_18_method_103_code 14 = .ok (.iinc 2 1, 3) := by decide +kernel
theorem fl_d17 : decode prog_18_method_103_code 17 = .ok (.goto (-12), 3) := by decide +kernel
theorem fl_d20 : decode prog_18_method_103_code 20 = .ok (.return_, 1) := by decide +kernel
theorem fl_k : Cond.code ⟨"java/util/Arrays", "fill", "([II)V"⟩ prog_18_method_103_code 4 none ∈ lw_tbl := List.mem_append_right _ (List.mem_of_getElem? (i := 105) (by decide +kernel))
theorem fl_loop (hE : ct_E s0 a0 dC dI cA) {p : Program} {e : Env} {R : Room} {s : State} {m : MethodId} {args : Array Value} {below : List Frame} {meth : Method} {c : Code} {cells slots : Nat} {Q : State → Prop} (hx : p.tables.exec = Jvm.exec) (hb : c.code = prog_18_method_103_code) (hW0 : s0.WarmedH s.vm)
    (ws : va_W) (k h0 n : Nat) (f : Nat → Int32) (v : Int32) (hn : n < 2 ^ 31) (hk : k < ws.length)
    (kk : ∀ (H : Heap) (locs : List Loc) (ls : Array Slot), va_P (dC, dI) ab_cls (fl_w ws k h0 (cA 0) n f n v) H → va_D (fun q => s0.heap.size ≤ q) (fl_w ws k h0 (cA 0) n f n v) → va_S (fun q => s0.heap.size ≤ q) s.heap H locs → W p l e R s m args below meth c H locs cells slots Q (F0 m 20 ls [])) :
    ∀ (d t : Nat) (H : Heap) (locs : List Loc) (ls : Array Slot), t + d = n → lv_has ls 4 [(0, .ref h0), (1, .int v), (2, .int (nI t)), (3, .int (nI n))] → va_P (dC, dI) ab_cls (fl_w ws k h0 (cA 0) n f t v) H → va_D (fun q => s0.heap.size ≤ q) (fl_w ws k h0 (cA 0) n f t v) → va_S (fun q => s0.heap.size ≤ q) s.heap H locs →
      W p l e R s m args below meth c H locs cells slots Q (F0 m 5 ls []) := by
  intro d
  induction d with
  | zero =>
    intro t H locs ls ht hl hP hD hS
    have e : t = n := by omega
    subst e
    refine lv_iload_n hx hb fl_d5 rfl (lv_at hl 2 rfl) (lv_iload_n hx hb fl_d6 rfl (lv_at hl 3 rfl) ?_)
    exact lv_icmp_ge (tgt := 20) hx hb fl_d7 rfl (fun _ => kk H locs ls hP hD hS) (fun z => absurd (Int32.le_refl _) z)
  | succ d ih =>
    intro t H locs ls ht hl hP hD hS
    refine lv_iload_n hx hb fl_d5 rfl (lv_at hl 2 rfl) (lv_iload_n hx hb fl_d6 rfl (lv_at hl 3 rfl) ?_)
    refine lv_icmp_ge (tgt := 20) hx hb fl_d7 rfl (fun z => absurd z (nI_ge (by omega) hn)) (fun _ => ?_)
    refine lv_aload_n hx hb fl_d10 rfl (lv_at hl 0 rfl) (lv_iload_n hx hb fl_d11 rfl (lv_at hl 2 rfl) (lv_iload_n hx hb fl_d12 rfl (lv_at hl 1 rfl) ?_))
    have hg : (fl_w ws k h0 (cA 0) n f t v)[k]? = some (h0, Sum.inl (cA 0, (n, Sum.inl (fl_f f t v)))) := by
      rw [List.getElem?_set, if_pos rfl, if_pos hk]
    refine va_iast hx hb (hE.K hW0) hP hD hS k 0 hg rfl (vp_in_nI (by omega) hn) fl_d13 (fun H1 locs1 p1 d1 s1 => ?_)
    rw [nI_clamp (by omega), fl_upd, fl_set] at p1 d1
    refine lv_iinc (v := nI (t + 1)) hx hb fl_d14 hl (k := 2) rfl (nI_1 t) (by decide) rfl (fun ls' hl' => ?_)
    refine lv_goto (tgt := 5) hx hb fl_d17 rfl ?_
    exact ih (t + 1) H1 locs1 ls' (by omega) (lv_sub hl' [1, 2, 0, 3] rfl) p1 d1 s1
theorem cn_fill (hE : ct_E s0 a0 dC dI cA) (ws : va_W) (k h0 n : Nat) (f : Nat → Int32) (v : Int32) (hn : n < 2 ^ 31) (hg : ws[k]? = some (h0, Sum.inl (cA 0, (n, Sum.inl f)))) :
    Met l ⟨"java/util/Arrays", "fill", "([II)V"⟩ [Cond.code ⟨"java/util/Arrays", "fill", "([II)V"⟩ prog_18_method_103_code 4 none] { frames := 0, cells := 0, slots := 0, locals := 0 } (ct_P s0 dC dI [.ref h0, .int v] ws) (ct_Q s0 dC dI (fun ws' => ws' = fl_w ws k h0 (cA 0) n f n v)) 0 0 (fun q => s0.heap.size ≤ q) := by
  refine Met.ofW (cc := prog_18_method_103_code) (maxL := 4) (ret := none) (by decide) rfl ?_
  intro p e s m args below meth c s₁ B hml hv
  obtain ⟨rfl, hW0, hsz, hP, hD⟩ := hv
  have hx := B.exec
  have hb := B.bytes
  have hr := B.returns
  have hlocks := B.notSynchronized
  have hS : va_S (fun q => s0.heap.size ≤ q) s.heap s.heap [] := va_S.rf
  have hl := lv_entry ([.ref h0, .int v]) (n := 4) (Nat.le_of_ble_eq_true rfl)
  rw [lg_entry_eq]
  generalize (lg_sl ([.ref h0, .int v]) ++ List.replicate (4 - (lg_sl ([.ref h0, .int v])).length) Slot.unset).toArray = ls at hl ⊢
  have hl : lv_has ls 4 [(0, .ref h0), (1, .int v)] := hl
  refine lv_iconst (v := 0) hx hb fl_d0 rfl (lv_istore_n hx hb fl_d1 rfl hl (by decide) rfl (fun ls hl => ?_))
  refine lv_aload_n hx hb fl_d2 rfl (lv_at hl 1 rfl) ?_
  refine va_alen hx hb (hE.K hW0) hP k 0 hg rfl rfl fl_d3 ?_
  refine lv_istore_n hx hb fl_d4 rfl hl (by decide) rfl (fun ls hl => ?_)
  have e0 : fl_w ws k h0 (cA 0) n f 0 v = ws := by
    have e1 : fl_f f 0 v = f := by
      funext i
      exact if_neg (Nat.not_lt_zero i)
    show ws.set k (h0, Sum.inl (cA 0, (n, Sum.inl (fl_f f 0 v)))) = ws
    rw [e1]
    obtain ⟨hk, he⟩ := List.getElem?_eq_some_iff.mp hg
    rw [← he]
    exact List.set_getElem_self hk
  refine fl_loop (l := l) hE hx hb hW0 ws k h0 n f v hn (List.getElem?_eq_some_iff.mp hg).1 ?_ n 0 s.heap [] ls (Nat.zero_add n) (lv_sub hl [2, 3, 1, 0] rfl) (by rw [e0]; exact hP) (by rw [e0]; exact hD) hS
  intro H locs ls hP hD hS
  exact W.vret hx hb hr (fun t ht hW => ⟨rfl, ⟨_, rfl, by rw [ht]; exact hP, hD⟩, hS.F ht⟩) hS.2.2 fl_d20
end Fill
