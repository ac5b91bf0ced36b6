/-! The law's beginning: the world comes to be; from its loop on the pure machine goes. -/
/-! THE CLAIM OUT OF ONE WALK OF THE LAW'S BODY. Your part is whole_start (and what it stands on); all else here is the same for every law, but numbers. -/
def R_law : String := "ParserProofLaw"
def lw_P (b : Addr) (xs : List Int32) (args : Array Value) (s : State) : Prop := args = #[.ref b] ∧ s.IntsAt b xs ∧ xs.length ≤ 2560 ∧ (Jvm.Cond.and given_1 narrow_1).before args s = true
def lw_Q (_ : Array Value) (s : State) (o : Outcome) (t : State) : Prop := o = .returned (some (.int 1)) ∧ Framed s o t [] 1074 26742
def lw_Z (below : List Frame) (a : Array Value) (s : State) : State → Prop := fun t => ∃ o, t.status = .running ∧ Ended t below o ∧ lw_Q a s o t
/-- the law's own end, with 1 on the stack, nothing written that was there before, its room as the claim has it -/
theorem lw_ret {p : Program} {l : Launch} {e : Env} {s : State} {m : MethodId} {below : List Frame} {meth : Method} {c : Code} {b : Nat} (hx : p.tables.exec = Jvm.exec) (hb : c.code = code) (hr : meth.sig.returnType = ret) (hlocks : meth.locks = false) {pc : Nat} {H : Heap} {ls : Array Slot} (hdg : decode code pc = .ok (.ireturn, 1)) : W p l e room_1 s m #[Value.ref b] below meth c H [] 1074 26742 (lw_Z below #[Value.ref b] s) (F0 m pc ls [.int 1]) := by
  intro T hT X
  obtain ⟨fs, hret, hrun, hended, hW, hframe⟩ := X.leave (v := some (.int 1)) (hlocks := hlocks) (fun h => by rw [hr] at h; cases h)
  have hmeth' : T.vm.method? m = some meth := X.method'
  refine ⟨T.setFrames fs, ?_, .returned (some (.int 1)), hrun, hended, rfl, ⟨_, rfl⟩, hW, hframe⟩
  jvm_step X.here [X.here.top, hx, hb, hdg, hmeth', hr, ret, narrow_b1]
  (try refine ⟨rfl, ?_⟩); (try refine ⟨rfl, ?_⟩)
  first | (intro acts; rw [hret _ acts rfl rfl rfl]) | rw [hret _ _ rfl rfl rfl]
  exact Steps.refl _
/-- what holds at the law's entry: the machine, the code, the tables' words (any of lw_tbl by 'hts w (by decide +kernel)'), the script of L ints xs at the cell b, what the Statement gives of the start (any of its parts by flat_of_before) -/
def lw_At (p : Program) (s : State) (m : MethodId) (meth : Method) (c : Code) (b L : Nat) (xs : Nat → Int32) : Prop :=
  p.tables.exec = Jvm.exec ∧ c.code = code ∧ meth.sig.returnType = ret ∧ c.maxLocals = 7 ∧ s.vm.findClass R_law = some m.cls ∧ (∀ w ∈ lw_tbl, w.before #[Value.ref b] s = true) ∧ va_X b L xs s s.heap ∧ b < s.heap.size ∧ meth.locks = false ∧ (Jvm.Cond.and given_1 narrow_1).before #[Value.ref b] s = true
section Start
/-- the world's numbers when the law's loop begins -/
def ab_h0 (N : Nat) (xs : Nat → Int32) : ab_S := fun k i => if k = 38 then (if i = -1 then (N : Int) else if 0 ≤ i ∧ i < (N : Int) then (xs i.toNat).toInt else 0) else if k = 15 then (if 0 ≤ i ∧ i < 4 then -1 else 0) else if k = 6 then (if 13 ≤ i ∧ i ≤ 16 then -1 else 0) else 0
theorem st_ins : ∀ c ∈ List.range 7, Cond.instantiable (ab_cs c) (ab_N c) ∈ lw_tbl := by decide +kernel
theorem st_arr {s : State} {a : Array Value} {ty : FieldType} (h : (Cond.arrayClass ty).before a s = true) : ∃ cA : ClassId, s.vm.findClass ("[" ++ ty.toString) = some cA ∧ ArrOfT s cA ty := by
  obtain ⟨cA, kA, comp, h1, h2, h3⟩ := Cond.arrayClass_spec h
  exact ⟨cA, h1, fun n z => ⟨fun k h => (by cases h), kA, h2, comp, h3⟩⟩
theorem st_env {s : State} {a : Array Value} (hts : ∀ w ∈ lw_tbl, w.before a s = true) : ∃ (dC : Nat → ClassId) (dI : Nat → Nat → Nat) (cA : Nat → ClassId), ct_E s a dC dI cA := by
  have hk : ∀ c : Nat, ∃ q : ClassId × (Nat → Nat), c < 7 → u_Kn s (ab_cs c) (ab_T c) (ab_N c) q.1 q.2 := by
    intro c
    by_cases hc : c < 7
    · obtain ⟨cC, iS, h⟩ := u_known (T := ab_T c) (N := ab_N c) hts (fun w hw => (ab_layok c (List.mem_range.mpr hc) w hw).1) (hts _ (st_ins c (List.mem_range.mpr hc)))
      exact ⟨(cC, iS), fun _ => h⟩
    · exact ⟨(0, fun _ => 0), fun h => absurd h hc⟩
  obtain ⟨c0, e0, f0⟩ := st_arr (hts _ aw_0)
  obtain ⟨c1, e1, f1⟩ := st_arr (hts _ aw_1)
  obtain ⟨c2, e2, f2⟩ := st_arr (hts _ aw_2)
  refine ⟨fun c => (Classical.choose (hk c)).1, fun c => (Classical.choose (hk c)).2, fun t => if t = 0 then c0 else if t = 1 then c1 else c2, hts, fun c q hq => ?_, fun k q hq => ?_⟩
  · have hc : c < 7 := by
      have := (List.getElem?_eq_some_iff.mp hq).1
      simpa [ab_cls] using this
    rw [ab_cls_get hc] at hq
    cases Option.some.inj hq
    exact Classical.choose_spec (hk c) hc
  · match k, hq with
    | 0, h => cases Option.some.inj h; exact ⟨f0, e0⟩
    | 1, h => cases Option.some.inj h; exact ⟨f1, e1⟩
    | 2, h => cases Option.some.inj h; exact ⟨f2, e2⟩
    | k + 3, h => cases h
theorem sl_0 : decode code 0 = .ok (.new 8, 3) := ((ab_gdi 136).1 0 (0, .new 8, 3, 0, 0) rfl).1
theorem sl_3 : decode code 3 = .ok (.dup, 1) := ((ab_gdi 136).1 1 (3, .dup, 1, 0, 0) rfl).1
theorem sl_4 : decode code 4 = .ok (.invokespecial 49, 3) := ((ab_gdi 136).1 2 (4, .invokespecial 49, 3, 0, 0) rfl).1
theorem sl_7 : decode code 7 = .ok (.astore_n 1, 1) := ((ab_gdi 136).1 3 (7, .astore_n 1, 1, 0, 0) rfl).1
theorem sl_8 : decode code 8 = .ok (.new 50, 3) := ((ab_gdi 136).1 4 (8, .new 50, 3, 0, 0) rfl).1
theorem sl_11 : decode code 11 = .ok (.dup, 1) := ((ab_gdi 136).1 5 (11, .dup, 1, 0, 0) rfl).1
theorem sl_12 : decode code 12 = .ok (.invokespecial 52, 3) := ((ab_gdi 136).1 6 (12, .invokespecial 52, 3, 0, 0) rfl).1
theorem sl_15 : decode code 15 = .ok (.astore_n 2, 1) := ((ab_gdi 136).1 7 (15, .astore_n 2, 1, 0, 0) rfl).1
theorem sl_16 : decode code 16 = .ok (.iconst 1, 1) := ((ab_gdi 136).1 8 (16, .iconst 1, 1, 0, 0) rfl).1
theorem sl_17 : decode code 17 = .ok (.newarray .long, 2) := ((ab_gdi 136).1 9 (17, .newarray .long, 2, 0, 0) rfl).1
theorem sl_19 : decode code 19 = .ok (.astore_n 3, 1) := ((ab_gdi 136).1 10 (19, .astore_n 3, 1, 0, 0) rfl).1
theorem sl_20 : decode code 20 = .ok (.iconst 0, 1) := ((ab_gdi 136).1 11 (20, .iconst 0, 1, 0, 0) rfl).1
theorem sl_21 : decode code 21 = .ok (.istore 4, 2) := ((ab_gdi 136).1 12 (21, .istore 4, 2, 0, 0) rfl).1
theorem sw_n5 : Cond.classLink R_law 8 (ab_cs 5) ∈ lw_tbl := List.mem_append_right _ (List.mem_of_getElem? (i := 17) (by decide +kernel))
theorem sw_n6 : Cond.classLink R_law 50 (ab_cs 6) ∈ lw_tbl := List.mem_append_right _ (List.mem_of_getElem? (i := 658) (by decide +kernel))
theorem sw_m5 : Cond.methodLink R_law 49 ⟨"ParserProof", "<init>", "()V"⟩ ∈ lw_tbl := List.mem_append_right _ (List.mem_of_getElem? (i := 19) (by decide +kernel))
theorem sw_m6 : Cond.methodLink R_law 52 ⟨"ParserProofModel", "<init>", "()V"⟩ ∈ lw_tbl := List.mem_append_right _ (List.mem_of_getElem? (i := 660) (by decide +kernel))
theorem sw_x5 : Cond.instanceMethod ⟨"ParserProof", "<init>", "()V"⟩ ∈ lw_tbl := List.mem_append_right _ (List.mem_of_getElem? (i := 20) (by decide +kernel))
theorem sw_x6 : Cond.instanceMethod ⟨"ParserProofModel", "<init>", "()V"⟩ ∈ lw_tbl := List.mem_append_right _ (List.mem_of_getElem? (i := 661) (by decide +kernel))
def st_pi (k : Nat) : Nat := [0, 1, 7, 10, 12, 14, 19, 2, 3, 4, 5, 6, 8, 9, 11, 13, 15, 16, 17, 18, 20, 21, 22, 23, 24, 25, 26, 27, 28, 29, 30, 31, 32, 33, 34, 35, 36, 37].getD k 0
theorem st_pinj : ∀ i ∈ List.range 38, ∀ j ∈ List.range 38, st_pi i = st_pi j → i = j := by decide +kernel
theorem st_where (N : Nat) (xs : Nat → Int32) : fl_f (fun _ => 0) 4 (-1) = fun j : Nat => Int32.ofInt (ab_h0 N xs 15 (j : Int)) := by
  funext j
  show (if j < 4 then (-1 : Int32) else 0) = Int32.ofInt (if 0 ≤ (j : Int) ∧ (j : Int) < 4 then -1 else 0)
  by_cases h : j < 4
  · rw [if_pos h, if_pos (by omega)]
    rfl
  · rw [if_neg h, if_neg (by omega)]
    rfl
set_option maxHeartbeats 4000000 in
set_option maxRecDepth 100000 in
theorem st_key (N : Nat) (xs : Nat → Int32) (cA : Nat → ClassId) (x g g1 g2 g3 g4 g5 a a1 a2 b9 b1 d d1 r r1 r2 r3 r4 y m1 m2 m3 m4 m5 m6 m7 m8 m9 m10 m11 m12 m13 m14 m15 m16 m17 z b : Nat) : ∀ k : Nat, k < 38 → ([(x, Sum.inr (5, [.ref g, .ref a, .ref b9, .ref d, .ref r])), (g, Sum.inr (3, [.int 0, .ref g1, .ref g2, .ref g3, .ref g4, .ref g5])), (g1, Sum.inl (cA 0, (8, Sum.inl (fun _ => 0)))), (g2, Sum.inl (cA 0, (9, Sum.inl (fun _ => 0)))), (g3, Sum.inl (cA 0, (36, Sum.inl (fun _ => 0)))), (g4, Sum.inl (cA 1, (4, Sum.inl (fun _ => 0)))), (g5, Sum.inl (cA 0, (4, Sum.inl (fun _ => 0)))), (a, Sum.inr (0, [.int 0, .ref a1, .ref a2])), (a1, Sum.inl (cA 0, (500, Sum.inl (fun _ => 0)))), (a2, Sum.inl (cA 0, (2250, Sum.inl (fun _ => 0)))), (b9, Sum.inr (1, [.ref g, .ref a, .ref b1])), (b1, Sum.inl (cA 0, (45, Sum.inl (fun _ => 0)))), (d, Sum.inr (2, [.ref g, .ref a, .ref d1])), (d1, Sum.inl (cA 0, (4, Sum.inl (fl_f (fun _ => 0) 4 (-1))))), (r, Sum.inr (4, [.ref g, .ref a, .ref r1, .int 0, .int 0, .ref r2, .ref r3, .int 0, .ref r4, .int 0])), (r1, Sum.inl (cA 0, (20, Sum.inl (fun _ => 0)))), (r2, Sum.inl (cA 0, (61, Sum.inl (fun _ => 0)))), (r3, Sum.inl (cA 0, (61, Sum.inl (fun _ => 0)))), (r4, Sum.inl (cA 0, (300, Sum.inl (fun _ => 0)))), (y, Sum.inr (6, [.int 0, .int 0, .ref m1, .ref m2, .ref m3, .ref m4, .ref m5, .int 0, .ref m6, .ref m7, .ref m8, .ref m9, .int 0, .int (Int32.ofInt (-1)), .int (Int32.ofInt (-1)), .int (Int32.ofInt (-1)), .int (Int32.ofInt (-1)), .int 0, .ref m10, .int 0, .int 0, .int 0, .int 0, .ref m11, .ref m12, .ref m13, .ref m14, .ref m15, .ref m16, .ref m17])), (m1, Sum.inl (cA 0, (8, Sum.inl (fun _ => 0)))), (m2, Sum.inl (cA 0, (8, Sum.inl (fun _ => 0)))), (m3, Sum.inl (cA 0, (32, Sum.inl (fun _ => 0)))), (m4, Sum.inl (cA 1, (4, Sum.inl (fun _ => 0)))), (m5, Sum.inl (cA 1, (81, Sum.inl (fun _ => 0)))), (m6, Sum.inl (cA 1, (13500, Sum.inl (fun _ => 0)))), (m7, Sum.inl (cA 0, (500, Sum.inl (fun _ => 0)))), (m8, Sum.inl (cA 1, (270, Sum.inl (fun _ => 0)))), (m9, Sum.inl (cA 0, (270, Sum.inl (fun _ => 0)))), (m10, Sum.inl (cA 0, (20, Sum.inl (fun _ => 0)))), (m11, Sum.inl (cA 0, (61, Sum.inl (fun _ => 0)))), (m12, Sum.inl (cA 0, (61, Sum.inl (fun _ => 0)))), (m13, Sum.inl (cA 0, (60, Sum.inl (fun _ => 0)))), (m14, Sum.inl (cA 0, (60, Sum.inl (fun _ => 0)))), (m15, Sum.inl (cA 0, (60, Sum.inl (fun _ => 0)))), (m16, Sum.inl (cA 0, (60, Sum.inl (fun _ => 0)))), (m17, Sum.inl (cA 0, (60, Sum.inl (fun _ => 0)))), (z, Sum.inl (cA 2, (1, Sum.inr (Sum.inl (fun _ => 0)))))] : va_W)[st_pi k]? = some (([x, g, a, b9, d, r, y, g1, g2, g3, g4, g5, a1, a2, b1, d1, r1, r2, r3, r4, m1, m2, m3, m4, m5, m6, m7, m8, m9, m10, m11, m12, m13, m14, m15, m16, m17, z, b] : List Nat).getD k 0, ab_ce (fun k => ([x, g, a, b9, d, r, y, g1, g2, g3, g4, g5, a1, a2, b1, d1, r1, r2, r3, r4, m1, m2, m3, m4, m5, m6, m7, m8, m9, m10, m11, m12, m13, m14, m15, m16, m17, z, b] : List Nat).getD k 0) cA (ab_h0 N xs k) (ab_nd ab_lay k))
  | 0, _ => rfl
  | 1, _ => rfl
  | 2, _ => rfl
  | 3, _ => rfl
  | 4, _ => rfl
  | 5, _ => rfl
  | 6, _ => rfl
  | 7, _ => rfl
  | 8, _ => rfl
  | 9, _ => rfl
  | 10, _ => rfl
  | 11, _ => rfl
  | 12, _ => rfl
  | 13, _ => rfl
  | 14, _ => rfl
  | 15, _ => congrArg (fun f => some (d1, Sum.inl (cA 0, (4, Sum.inl f)))) (st_where N xs)
  | 16, _ => rfl
  | 17, _ => rfl
  | 18, _ => rfl
  | 19, _ => rfl
  | 20, _ => rfl
  | 21, _ => rfl
  | 22, _ => rfl
  | 23, _ => rfl
  | 24, _ => rfl
  | 25, _ => rfl
  | 26, _ => rfl
  | 27, _ => rfl
  | 28, _ => rfl
  | 29, _ => rfl
  | 30, _ => rfl
  | 31, _ => rfl
  | 32, _ => rfl
  | 33, _ => rfl
  | 34, _ => rfl
  | 35, _ => rfl
  | 36, _ => rfl
  | 37, _ => rfl
  | n + 38, h => absurd h (by omega)
end Start
