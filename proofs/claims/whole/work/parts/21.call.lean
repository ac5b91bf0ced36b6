/-! Calls: the relation is closed. -/
section Call9
variable {l : Launch} {s0 : State} {a0 : Array Value} {ad : Nat → Nat} {dC : Nat → ClassId} {dI : Nat → Nat → Nat} {cA : Nat → ClassId} {N : Nat} {xs : Nat → Int32}
variable {p : Program} {e : Env} {R : Room} {s : State} {m : MethodId} {args : Array Value} {below : List Frame} {meth : Method} {c : Code} {T : State} {H : Heap} {locs : List Loc} {cells slots : Nat}
/-- a static call of a private method of a nest mate that returns or throws -/
theorem ab_callSN (X : Stand p l e R s m args below meth c T locs cells slots) (hexec : p.tables.exec = Jvm.exec) {own host : String} {index : Nat} {y : MethodName} {bytes : ByteArray} {maxL : Nat} {ret : Option FieldType}
    (hown : s.vm.findClass own = some m.cls) (hlink : (Cond.methodLinkNest own index y host).before args s = true) (hstat : (Cond.static y).before args s = true) (hinit : (Cond.initialized y.cls).before args s = true)
    (hcode : (Cond.code y bytes maxL ret).before args s = true) (hy : y.cls ≠ "java/lang/invoke/MethodHandle" ∧ y.cls ≠ "java/lang/invoke/VarHandle")
    {W9 : Nat} {Pre : Pt → Array Value → Prop} {Post : Pt → Array Value → Option Value → Pt → Prop} {PostX : Pt → Array Value → Addr → Pt → Prop} (hK : vx_Back l R p e below s args y 3 W9 Pre Post PostX)
    {g : JFrame} (hg : g.method = m) (hsize : g.locals.size = c.maxLocals) {argsL rest : List Value} (hlen : ∀ sig, parseMethodDescriptor y.desc = some sig → argsL.length = sig.parameters.length)
    (hstack : g.stack = argsL.reverse ++ rest) (hW : 2 * g.monitorRoom + (rest.map fun v => v.category).sum ≤ W9) (hdg : decode c.code g.pc = .ok (.invokestatic index, 3))
    (hpre : ∀ vm₁, s.WarmedH vm₁ → Pre ⟨T.setVm vm₁, locs, cells, slots⟩ argsL.toArray) :
    (∃ (v : Option Value) (vm₁ : Vm) (B : Pt), s.WarmedH vm₁ ∧ Stand p l e R s m args below meth c B.U B.locs B.cells B.slots ∧ Post ⟨T.setVm vm₁, locs, cells, slots⟩ argsL.toArray v B ∧
      ∀ target, Steps p.tables e below (B.U.setTop { g with pc := g.pc + 3, stack := v.toList ++ rest }) target → Steps p.tables e below (T.setTop g) target) ∨
    (∃ (q : Addr) (vm₁ : Vm) (B : Pt), s.WarmedH vm₁ ∧ Stand p l e R s m args below meth c B.U B.locs B.cells B.slots ∧ PostX ⟨T.setVm vm₁, locs, cells, slots⟩ argsL.toArray q B ∧
      Steps p.tables e below (T.setTop g) ((B.U.setTop { g with stack := rest }).pushFrame (.throwing q))) := by
  obtain ⟨mk, hnamed⟩ := Cond.code_named hcode
  obtain ⟨methM, cM, hmethM, -, -, -, -, -, -, hsigM⟩ := Cond.code_spec hnamed hcode
  have hstatic : methM.isStatic = true := Cond.static_spec hnamed hmethM hstat
  obtain ⟨kP, hkP, -⟩ := className_of_methodNamed hnamed
  have hinitP : kP.init = .initialized := Cond.initialized_spec (findClass_of_methodNamed hnamed) hkP hinit
  obtain ⟨vm₁, X₁, hstep₁⟩ := X.invokestaticNest hexec hown hlink hnamed hmethM hstatic hkP hinitP hy (g := g) hg (argsL := argsL) (rest := rest) (hlen _ hsigM) hstack hdg
  rcases hK m meth c ⟨T.setVm vm₁, locs, cells, slots⟩ { g with stack := rest } (.invokestatic index) mk argsL.toArray X₁ hg hsize hdg hW (X₁.named hnamed) (hpre vm₁ X₁.warmed) with ⟨v, B, X', hpost, hsteps⟩ | ⟨q, B, X', hpost, hsteps⟩
  · exact Or.inl ⟨v, vm₁, B, X₁.warmed, X', hpost, fun target h => hstep₁ _ fun acts => by rw [doInvoke_state]; exact hsteps.trans h⟩
  · exact Or.inr ⟨q, vm₁, B, X₁.warmed, X', hpost, hstep₁ _ fun acts => by rw [doInvoke_state]; exact hsteps⟩
theorem ab_runSN {y : MethodName} {bytes cc : ByteArray} {maxL nL mc ms n index : Nat} {ret : Option FieldType} {ws : List Cond} {rm : Room} {Pc : Array Value → State → Prop} {Qc : Array Value → State → Outcome → State → Prop} {XC : String → State → State → Prop} {free : Addr → Prop} {Ts : List Cond} {own host : String} {As rest : List Value} {g : JFrame}
    (S : CallFix p m c cc nL s args Ts own) (hM : vx_Met l y ws rm Pc Qc XC mc ms free) (cw : va_CN R s args own index y host bytes maxL ret ws rm mc ms n ∧ (Cond.static y).before args s = true) (hp : PreS s H Pc As)
    (hg : g.method = m) (hn : As.length = n) (hsize : g.locals.size = nL) (hstack : g.stack = As.reverse ++ rest) (hW : 2 * g.monitorRoom + (rest.map fun v => v.category).sum ≤ 8) (hdg : decode cc g.pc = .ok (.invokestatic index, 3)) (hf : cells + mc ≤ R.cells ∧ slots + ms ≤ R.slots) :
    vx_Run p l e R s m args below meth c H locs cells slots mc ms g rest (Qc As.toArray) XC free := by
  obtain ⟨⟨⟨hrc, hrs, hfr, hlo, hws, hcw⟩, hcode, hini, hy, hlen, hl⟩, hstt⟩ := cw
  have hK : vx_Back l R p e below s args y 3 8 (PreOf R mc ms Pc) (PostOf Qc mc ms free) (vx_Post XC mc ms free) := vx_back (bytes := bytes) (maxL := maxL) (ret := ret) hM hp.1 hrc hrs hfr hlo hws hcw (fun a' U hW => word_at hW (Or.inl (by first | rfl | simp [Cond.onTables, Cond.keeps, Cond.steady])) hini)
  obtain ⟨hx, hb, hml, ho, -⟩ := S
  intro T hT X
  rcases ab_callSN X hx (bytes := bytes) (maxL := maxL) (ret := ret) ho hl hstt hini hcode hy hK hg (hsize.trans hml.symm) (argsL := As) (rest := rest) (fun sig h => hn.trans (hlen sig h)) hstack hW (by rw [hb]; exact hdg)
    (fun vm₁ hW₁ => ⟨hf.1, hf.2, hp.2 (T.setVm vm₁) hT hW₁⟩) with ⟨v, vm₁, ⟨U', l2, c2, s2⟩, hW₁, X', ⟨g', mk, t, L, e1, e2, hq, h1, hL, h2, h3⟩, st⟩ | ⟨q, vm₁, ⟨U', l2, c2, s2⟩, hW₁, X', ⟨g', mk, t, L, E, ce, e1, e2, hq, hce, hcv, hcl, h1, hL, h2, h3⟩, st⟩
  · dsimp only [Pt.U, Pt.locs, Pt.cells, Pt.slots] at X' e1 e2 h1 h2 h3 st
    subst h1; subst h2; subst h3
    exact Or.inl ⟨v, (T.setVm vm₁).calling g' mk As.toArray, t, U', L, hT, X', hL, e1, e2, hq, st⟩
  · dsimp only [Pt.U, Pt.locs, Pt.cells, Pt.slots] at X' e1 e2 h1 h2 h3 st hcl
    subst h1; subst h2; subst h3
    exact Or.inr ⟨q, (T.setVm vm₁).calling g' mk As.toArray, t, U', L, E, ce, hT, X', hL, e1, e2, hq, hce, hcv, vx_cls hW₁ hcl, st⟩
theorem nl_sum : ∀ (r : List ab_V), ab_nl r = true → ((r.map (ab_tv ad)).map fun v => v.category).sum = r.length
  | [], _ => rfl
  | v :: t, h => by
    obtain ⟨h1, h2⟩ := nl_c h
    rw [List.map_cons, List.map_cons, List.sum_cons, nl_sum t h2, tv_cat h1, List.length_cons]
    omega
set_option maxRecDepth 100000 in
theorem ab_mlok : ∀ q ∈ ab_CT, (q.2.1 = 0 → ab_pn q.2.2.2 + 1 ≤ ab_ml q.2.2.2) ∧ ab_pn q.2.2.2 ≤ ab_ml q.2.2.2 := by decide +kernel
theorem ab_kwg (j : Nat) : goodWord (ab_kw j) = true := by
  unfold ab_kw
  split <;> rfl
/-- a call of the pure machine as a run of the machine -/
theorem ab_run (hE : ab_E l s0 a0 ad dC dI cA N xs) {i n j : Nat} {as rest : List ab_V} {h h1 : ab_S} {o : ab_O} (hc : ab_cal i n j as rest) (HM : ab_MM l s0 ad dC dI cA N xs j 0 (ab_ent j as) [] h o h1)
    {lsA : Array Slot} {pc : Nat} (hcx : ab_cx s0 i p R s m meth c) (hpc : (ab_L i)[n]?.map (fun t => t.1) = some pc) (hro : ab_ro N xs h) (hP : va_P (dC, dI) ab_cls (ab_wl ad cA h) H) (hS : va_S (fun q => s0.heap.size ≤ q) s.heap H locs)
    (hsz : lsA.size = ab_ml i) (hrs : ab_rgs (as.reverse ++ rest)) (hcell : cells + ab_k h h1 ≤ R.cells) (hslot : slots + 6 * ab_k h h1 ≤ R.slots) :
    vx_Run p l e R s m args below meth c H locs cells slots (ab_k h h1) (6 * ab_k h h1) (F0 m pc lsA ((as.reverse ++ rest).map (ab_tv ad))) (rest.map (ab_tv ad)) (ab_Qc s0 ad dC dI cA N xs o h1 (as.map (ab_tv ad)).toArray) (ab_XC s0 ad dC dI cA N xs o h1) (fun q => s0.heap.size ≤ q) := by
  obtain ⟨t, ht, hj, hj138, hkind, hna, hnr, hr8, hfr9, hlo9⟩ := hc
  obtain ⟨hx, hb, hml, hrt, hlks, hex, hown, hW0, hold, hfr, hlo⟩ := hcx
  obtain ⟨hd, hc1⟩ := (ab_gdi i).1 n t ht
  have hlk := ab_lki ht
  have hpc' : t.1 = pc := by
    rw [ht] at hpc
    exact Option.some.inj hpc
  have hras : ab_rgs as := fun v hv => hrs v (List.mem_append_left _ (List.mem_reverse.mpr hv))
  have hold2 : s0.heap.size ≤ H.size ∧ ∀ q : Nat, q < s0.heap.size → H[q]? = s0.heap[q]? := ⟨Nat.le_trans hold.1 hS.1, fun q hq => by
    rw [hS.2.1 q (Nat.lt_of_lt_of_le hq hold.1) (Nat.not_le.mpr hq)]
    exact hold.2 q hq⟩
  have hPc : ∀ U : State, U.heap = H → s.WarmedH U.vm → ab_Pc s0 ad dC dI cA as h (as.map (ab_tv ad)).toArray U := fun U hU hW => ⟨rfl, State.WarmedH.trans hW0 hW, by rw [hU]; exact hold2, by rw [hU]; exact hP⟩
  have hini := hE.word (ab_iniok (ab_own j) (List.mem_range.mpr (ab_yni j).2.2.2.2)) rfl hW0 args
  rw [← (ab_yni j).2.2.2.1] at hini
  have hy : (ab_yn j).cls ≠ "java/lang/invoke/MethodHandle" ∧ (ab_yn j).cls ≠ "java/lang/invoke/VarHandle" := ⟨(ab_yni j).2.1, (ab_yni j).2.2.1⟩
  have hsig : ∀ sig, parseMethodDescriptor (ab_yn j).desc = some sig → ab_pn j = sig.parameters.length := by
    intro sig hs
    have h2 := ab_pnok j (List.mem_range.mpr hj138)
    rw [hs] at h2
    exact (Option.some.inj h2).symm
  have hsum : 2 * (F0 m pc lsA ((as.reverse ++ rest).map (ab_tv ad))).monitorRoom + ((rest.map (ab_tv ad)).map fun v => v.category).sum ≤ 8 := lv_room (by rw [nl_sum rest hnr]; exact hr8)
  have hT : CallFix p m c (ab_bc i) (ab_ml i) s args [] (ab_cs (ab_own i)) := ⟨hx, hb, hml, hown, fun _ z => nomatch z⟩
  obtain ⟨pc0, ins, len, x1, x2⟩ := t
  dsimp only at hpc' hd hc1 hlk hj hkind
  subst hpc'
  subst hj
  rcases hkind with ⟨k, rfl, hrc, hla⟩ | ⟨k, rfl, hla⟩
  · have hl : len = 3 := by simpa [ab_lk, ab_il] using hlk
    subst hl
    have hct : (ab_own i, 0, k, x1) ∈ ab_CT := by simpa [ab_c1] using hc1
    obtain ⟨hw, -, hj136, -⟩ := ab_cwok _ hct
    have hmlx := (ab_mlok _ hct).1 rfl
    have hkw : ab_kw x1 ∈ lw_tbl := ab_kwok x1 hj138 hj136
    obtain ⟨v, as0, rfl⟩ : ∃ v t, as = v :: t := by
      cases as with
      | nil => cases hla
      | cons v t => exact ⟨v, t, rfl⟩
    rcases v with x | kb | x
    · exact absurd hrc Bool.false_ne_true
    · unfold ab_rc at hrc
      simp only [Bool.and_eq_true, beq_iff_eq] at hrc
      have hk' : kb < 38 := ab_k38 (by rw [hrc.1]; decide)
      have ha := ab_wl_get (ad := ad) (cA := cA) (h := h) hk'
      rw [ab_ce_obj hrc.1] at ha
      obtain ⟨r, hr1, cell, q1, q2, q3, q4⟩ := hP kb _ ha
      dsimp only at hr1 q1 q2
      have hK : va_K (dC, dI) ab_cls [(cA 0, .int), (cA 1, .boolean), (cA 2, .long)] s := va_K.moved hW0.alike hE.2.2.2.1
      have h7 : (ab_nd ab_lay kb).2.1 < 7 := by
        have := (List.getElem?_eq_some_iff.mp hr1).1
        simpa [ab_cls] using this
      have hfc := (hK.1 _ _ (ab_cls_get h7)).2.1
      have hnh : ¬ (127 ≤ x1 ∧ x1 ≤ 135) := by
        intro z
        have z1 : ab_own x1 = 7 := by
          have : ∀ j ∈ List.range 9, ab_own (127 + j) = 7 := by decide +kernel
          have := this (x1 - 127) (List.mem_range.mpr (by omega))
          rwa [show 127 + (x1 - 127) = x1 by omega] at this
        omega
      have hkc := ab_kw_c hnh
      have hMt := ab_met x1 (vR kb :: as0) h o h1 HM hna (by rw [hla]; exact hmlx) hras hro
      rw [hkc] at hMt hkw
      have hcd : (Cond.code (ab_yn x1) (ab_bc x1) (ab_ml x1) (ab_rt x1)).before args s = true := hE.word hkw rfl hW0 args
      refine vx_runV (C := (ab_yn x1).cls) (As := as0.map (ab_tv ad)) (b := ad kb) (rest := rest.map (ab_tv ad)) hT hMt ⟨⟨rfl, rfl, by show ab_fr x1 + 1 ≤ _; omega, by show 8 + (ab_ml x1 + 11) + ab_lo x1 ≤ _; omega, fun w hw a' U hW => ?_, List.mem_cons_self, hcd, hini, hy, hsig, hE.word (hw _ (by exact List.mem_cons_self)) rfl hW0 args⟩, hE.word (hw _ (by exact List.mem_cons_of_mem _ List.mem_cons_self)) rfl hW0 args, hE.word (hw _ (by exact List.mem_cons_of_mem _ (List.mem_cons_of_mem _ List.mem_cons_self))) rfl hW0 args⟩
        ⟨ab_Pc_blind, ⟨cell, q1, by rw [q3]; rfl, ?_⟩, hPc⟩ rfl (by rw [List.length_map]; simpa using hla) hsz ?_ hsum hd ⟨hcell, hslot⟩
      · rw [List.mem_singleton.mp hw]
        exact hE.word hkw rfl (State.WarmedH.trans hW0 hW) a'
      · rw [q2, (ab_yni x1).2.2.2.1, ← hrc.2]
        exact hfc
      · show List.map _ _ = _
        simp [ab_tv]
    · exact absurd hrc Bool.false_ne_true
  · have hl : len = 3 := by simpa [ab_lk, ab_il] using hlk
    subst hl
    have hne : x1 ≠ 9999 := by omega
    have hct : (ab_own i, 1, k, x1) ∈ ab_CT ∨ (ab_own i, 2, k, x1) ∈ ab_CT := by simpa [ab_c1, hne] using hc1
    have hstk : (F0 m pc0 lsA ((as.reverse ++ rest).map (ab_tv ad))).stack = (as.map (ab_tv ad)).reverse ++ rest.map (ab_tv ad) := by
      show List.map _ _ = _
      rw [List.map_append, List.map_reverse]
    rcases hct with hct | hct
    · obtain ⟨hw, -, hj136, -⟩ := ab_cwok _ hct
      have hmlx := (ab_mlok _ hct).2
      have hkw : ab_kw x1 ∈ lw_tbl := ab_kwok x1 hj138 hj136
      have hMt := ab_met x1 as h o h1 HM hna (by rw [hla]; exact hmlx) hras hro
      have hln := hE.word (hw _ (by exact List.mem_cons_self)) rfl hW0 args
      have hst := hE.word (hw _ (by exact List.mem_cons_of_mem _ List.mem_cons_self)) rfl hW0 args
      by_cases hh : 127 ≤ x1 ∧ x1 ≤ 135
      · rw [ab_kw_w hh] at hMt hkw
        refine vx_runSX (As := as.map (ab_tv ad)) (rest := rest.map (ab_tv ad)) hT hMt ⟨⟨rfl, rfl, by show ab_fr x1 + 1 ≤ _; omega, by show 8 + (ab_ml x1 + 11) + ab_lo x1 ≤ _; omega, fun w hw a' U hW => ?_, List.mem_cons_self⟩, hE.word hkw rfl hW0 args, hini, hy, hsig, hln, hst⟩ ⟨ab_Pc_blind, hPc⟩ rfl (by rw [List.length_map]; exact hla) hsz hstk hsum hd ⟨hcell, hslot⟩
        rw [List.mem_singleton.mp hw]
        exact hE.word hkw rfl (State.WarmedH.trans hW0 hW) a'
      · rw [ab_kw_c hh] at hMt hkw
        refine vx_runS (As := as.map (ab_tv ad)) (rest := rest.map (ab_tv ad)) hT hMt ⟨⟨rfl, rfl, by show ab_fr x1 + 1 ≤ _; omega, by show 8 + (ab_ml x1 + 11) + ab_lo x1 ≤ _; omega, fun w hw a' U hW => ?_, List.mem_cons_self, hE.word hkw rfl hW0 args, hini, hy, hsig, hln⟩, hst⟩ ⟨ab_Pc_blind, hPc⟩ rfl (by rw [List.length_map]; exact hla) hsz hstk hsum hd ⟨hcell, hslot⟩
        rw [List.mem_singleton.mp hw]
        exact hE.word hkw rfl (State.WarmedH.trans hW0 hW) a'
    · obtain ⟨hw, -, hj136, -⟩ := ab_cwok _ hct
      have hmlx := (ab_mlok _ hct).2
      have hkw : ab_kw x1 ∈ lw_tbl := ab_kwok x1 hj138 hj136
      have hMt := ab_met x1 as h o h1 HM hna (by rw [hla]; exact hmlx) hras hro
      have hln : (Cond.methodLinkNest (ab_cs (ab_own i)) k (ab_yn x1) "ParserProof").before args s = true := va_Nw.use rfl (va_Nw.warmM hW0 (va_Nw.of rfl (hE.2.1 _ (hw _ (by exact List.mem_cons_self)))))
      have hst := hE.word (hw _ (by exact List.mem_cons_of_mem _ List.mem_cons_self)) rfl hW0 args
      have hh : ¬ (127 ≤ x1 ∧ x1 ≤ 135) := by
        have : ∀ q ∈ ab_CT, q.2.1 = 2 → ¬ (127 ≤ q.2.2.2 ∧ q.2.2.2 ≤ 135) := by decide +kernel
        exact this _ hct rfl
      rw [ab_kw_c hh] at hMt hkw
      refine ab_runSN (As := as.map (ab_tv ad)) (rest := rest.map (ab_tv ad)) hT hMt ⟨⟨⟨rfl, rfl, by show ab_fr x1 + 1 ≤ _; omega, by show 8 + (ab_ml x1 + 11) + ab_lo x1 ≤ _; omega, fun w hw a' U hW => ?_, List.mem_cons_self⟩, hE.word hkw rfl hW0 args, hini, hy, hsig, hln⟩, hst⟩ ⟨ab_Pc_blind, hPc⟩ rfl (by rw [List.length_map]; exact hla) hsz hstk hsum hd ⟨hcell, hslot⟩
      rw [List.mem_singleton.mp hw]
      exact hE.word hkw rfl (State.WarmedH.trans hW0 hW) a'
end Call9
