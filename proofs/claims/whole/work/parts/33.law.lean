/-! The law from its entry, once its loop is known on the pure machine. -/
section Law9
theorem st_th : ∀ q ∈ ab_TH, ∀ (a : Array Value) (s : State), (∀ w ∈ lw_tbl, w.before a s = true) → (Jvm.Cond.and given_1 narrow_1).before a s = true → ∃ (tx : String) (sa : Nat), vk_R (ab_cs q.1) q.2.2.1 tx sa s := by
  have key : ∀ (i : Nat) (tx : String), Cond.stringRef "ParserProof" i tx ∈ lw_tbl → Cond.exactly (.string "ParserProof" i) "java/lang/String" ∈ flatC (Jvm.Cond.and given_1 narrow_1) → ∀ (a : Array Value) (s : State), (∀ w ∈ lw_tbl, w.before a s = true) → (Jvm.Cond.and given_1 narrow_1).before a s = true → ∃ (tx : String) (sa : Nat), vk_R (ab_cs 5) i tx sa s := by
    intro i tx h1 h2 a s hts hg
    have e1 := hts _ h1
    obtain ⟨sa, -, -, -, e2, -⟩ := Cond.exactly_spec (flat_of_before _ hg _ h2)
    exact ⟨tx, sa, vk_R.of e1 e2⟩
  exact List.forall_mem_cons.mpr ⟨key 52 "no such rule" (by decide +kernel) (by decide +kernel), List.forall_mem_cons.mpr ⟨key 63 "there are 8 rules" (by decide +kernel) (by decide +kernel), List.forall_mem_cons.mpr ⟨key 76 "there are no rules" (by decide +kernel) (by decide +kernel), List.forall_mem_cons.mpr ⟨key 85 "a conflict, or too many states" (by decide +kernel) (by decide +kernel), List.forall_mem_cons.mpr ⟨key 99 "no such entry" (by decide +kernel) (by decide +kernel), List.forall_mem_cons.mpr ⟨key 138 "steps are 0 to 400" (by decide +kernel) (by decide +kernel), List.forall_mem_cons.mpr ⟨key 148 "no such node" (by decide +kernel) (by decide +kernel), List.forall_mem_cons.mpr ⟨key 151 "no such thing of a node" (by decide +kernel) (by decide +kernel), List.forall_mem_cons.mpr ⟨key 160 "there is no automaton" (by decide +kernel) (by decide +kernel), List.forall_mem_cons.mpr ⟨key 162 "no such state" (by decide +kernel) (by decide +kernel), List.forall_mem_cons.mpr ⟨key 168 "no such symbol" (by decide +kernel) (by decide +kernel), List.forall_mem_cons.mpr ⟨key 174 "no such item" (by decide +kernel) (by decide +kernel), fun _ h => absurd h List.not_mem_nil⟩⟩⟩⟩⟩⟩⟩⟩⟩⟩⟩⟩
theorem st_nc : ∀ a ∈ List.range 4, ∀ b ∈ List.range 4, a ≠ b → Cond.not (.castable (ab_xs a) (ab_xs b)) ∈ flatC (Jvm.Cond.and given_1 narrow_1) := by decide +kernel
theorem st_zu : (Cond.laysStatic Bundle.tN "UNASSIGNED_STACK" Bundle.steD ∈ lw_tbl ∧ Cond.laysStatic Bundle.tN "SUPPRESSED_SENTINEL" Bundle.listD ∈ lw_tbl) ∧ Cond.initialized Bundle.tN ∈ lw_tbl := by decide +kernel
theorem st_zr : Cond.isRef (.static Bundle.tN "UNASSIGNED_STACK" Bundle.steD) ∈ flatC (Jvm.Cond.and given_1 narrow_1) ∧ Cond.isRef (.static Bundle.tN "SUPPRESSED_SENTINEL" Bundle.listD) ∈ flatC (Jvm.Cond.and given_1 narrow_1) := by decide +kernel
theorem law_end (hpure : ∀ (N : Nat) (xs : Nat → Int32), N ≤ 2560 → X 136 13 [vR 38, vR 0, vR 6, vR 37, vI 0, vJ 0, vJ 0] [] (ab_h0 N xs) (fun o h' => o = oI 1 ∧ h' 39 0 ≤ 512)) {p : Program} {e : Env} {s : State} {m : MethodId} {below : List Frame} {meth : Method} {c : Code} (l : Launch) (htr : l.stackTraces = false) {b L : Nat} {xs : Nat → Int32} (hL : L ≤ 2560) (C0 : lw_At p s m meth c b L xs) (hex : c.exceptionTable.toList = [])
    {dC : Nat → ClassId} {dI : Nat → Nat → Nat} {cA : Nat → ClassId} (hC : ct_E s #[Value.ref b] dC dI cA) (H : Heap) (locs : List Loc) (ls : Array Slot) (ws9 : va_W) (ad : Nat → Nat) (hk2 : ∀ k : Nat, k < 38 → ws9[st_pi k]? = some (ad k, ab_ce ad cA (ab_h0 L xs k) (ab_nd ab_lay k))) (hP : va_P (dC, dI) ab_cls ws9 H) (hD : va_D (fun q => s.heap.size ≤ q) ws9) (hS : va_S (fun q => s.heap.size ≤ q) s.heap H locs)
    (a38 : ad 38 = b) (hl : lv_has ls 7 [(4, .int 0), (3, .ref (ad 37)), (2, .ref (ad 6)), (1, .ref (ad 0)), (0, .ref b)]) :
    W p l e room_1 s m #[Value.ref b] below meth c H locs 38 18478 (lw_Z below #[Value.ref b] s) (F0 m 23 ls []) := by
  obtain ⟨hx, hb, hr, hml, hown, hts, hX, hbl, hlocks, hgv⟩ := C0
  have hW0 : s.WarmedH s.vm := State.WarmedH.refl s
  have hlen : ∀ h : ab_S, (ab_wl ad cA h).length = 38 := fun h => (ab_wr_len _ _).trans ab_lay_len
  have hPw : va_P (dC, dI) ab_cls (ab_wl ad cA (ab_h0 L xs)) H := by
    intro k q hq
    have hk : k < 38 := by rw [← hlen (ab_h0 L xs)]; exact (List.getElem?_eq_some_iff.mp hq).1
    rw [ab_wl_get hk] at hq
    cases Option.some.inj hq
    exact hP _ _ (hk2 k hk)
  have hDw : va_D (fun q => s.heap.size ≤ q) (ab_wl ad cA (fun _ _ => 0)) := by
    have ge : ∀ (k : Nat) (q : Nat × va_E), (ab_wl ad cA (fun _ _ => 0))[k]? = some q → k < 38 ∧ q.1 = ad k := by
      intro k q hq
      have hk : k < 38 := by rw [← hlen (fun _ _ => 0)]; exact (List.getElem?_eq_some_iff.mp hq).1
      rw [ab_wl_get hk] at hq
      cases Option.some.inj hq
      exact ⟨hk, rfl⟩
    refine ⟨fun i j p q hp hq e => ?_, fun k q hq => ?_⟩
    · obtain ⟨hi, ei⟩ := ge i p hp
      obtain ⟨hj, ej⟩ := ge j q hq
      exact st_pinj i (List.mem_range.mpr hi) j (List.mem_range.mpr hj) (hD.1 _ _ _ _ (hk2 i hi) (hk2 j hj) (by show ad i = ad j; rw [← ei, ← ej]; exact e))
    · obtain ⟨hk, ek⟩ := ge k q hq
      rw [ek]
      exact hD.2 _ _ (hk2 k hk)
  have hE : ab_E l s #[Value.ref b] ad dC dI cA L xs := by
    have hfl := flat_of_before _ hgv
    refine ⟨htr, hts, hDw, hC.2, by rw [a38]; exact hbl, by rw [a38]; exact hX, by omega, ?_, ?_, fun q hq => st_th q hq _ s hts hgv, fun i hi j hj hne => va_Nc.of (hfl _ (st_nc i hi j hj hne))⟩
    · exact vx_Zqof (hts _ st_zu.1.1) (hts _ st_zu.2) (hfl _ st_zr.1) (fun q hq => Nat.not_le.mpr hq)
    · exact vx_Zqof (hts _ st_zu.1.2) (hts _ st_zu.2) (hfl _ st_zr.2) (fun q hq => Nat.not_le.mpr hq)
  obtain ⟨o9, h9, hlr, rfl, hcnt⟩ := hpure L xs hL
  have hMM := ab_sound hE hlr
  have hro : ab_ro L xs (ab_h0 L xs) := by
    refine ⟨fun k j hk => ?_, rfl, fun j hj => ?_⟩
    · unfold ab_h0
      split
      · split
        · exact ⟨by omega, by omega⟩
        · split
          · exact i3_rg _
          · exact ⟨by decide, by decide⟩
      · split
        · split
          · exact ⟨by decide, by decide⟩
          · exact ⟨by decide, by decide⟩
        · split
          · split
            · exact ⟨by decide, by decide⟩
            · exact ⟨by decide, by decide⟩
          · exact ⟨by decide, by decide⟩
    · unfold ab_h0
      rw [if_pos rfl, if_neg (by omega), if_pos (by omega)]
      rfl
  have hls : ab_lsr ad (ab_ml 136) [vR 38, vR 0, vR 6, vR 37, vI 0, vJ 0, vJ 0] ls := by
    refine ⟨hl.1, hl.2.1, rfl, fun k v hk hv => ?_⟩
    match k, hk with
    | 0, h => cases Option.some.inj h; show ls[0]? = some (.val (.ref (ad 38))); rw [a38]; exact lv_at hl 4 rfl
    | 1, h => cases Option.some.inj h; show ls[1]? = some (.val (.ref (ad 0))); exact lv_at hl 3 rfl
    | 2, h => cases Option.some.inj h; show ls[2]? = some (.val (.ref (ad 6))); exact lv_at hl 2 rfl
    | 3, h => cases Option.some.inj h; show ls[3]? = some (.val (.ref (ad 37))); exact lv_at hl 1 rfl
    | 4, h => cases Option.some.inj h; exact lv_at hl 0 rfl
    | 5, h => exact absurd (Option.some.inj h).symm (hv 0)
    | 6, h => exact absurd (Option.some.inj h).symm (hv 0)
    | k + 7, h => cases h
  have hk512 : ab_k (ab_h0 L xs) h9 ≤ 512 := by
    have e0 : ab_h0 L xs 39 0 = 0 := rfl
    unfold ab_k
    omega
  have hcx : ab_cx s 136 p room_1 s m meth c := ⟨hx, hb, hml, hr, hlocks, hex, hown, hW0, ⟨Nat.le_refl _, fun _ _ => rfl⟩, (Nat.le_of_ble_eq_true rfl), (Nat.le_of_ble_eq_true rfl)⟩
  have w := hMM.2 p e room_1 s m #[Value.ref b] below meth c H locs 38 18478 ls 23 hcx (by show 38 + _ ≤ 1074; omega) (by show 18478 + _ ≤ 26742; omega) rfl hro hPw hS hls (by
    intro v hv
    simp only [List.mem_cons, List.not_mem_nil, or_false] at hv
    rcases hv with rfl | rfl | rfl | rfl | rfl | rfl | rfl
    all_goals first | trivial | exact (show ab_rg 0 from ⟨by decide, by decide⟩)) (fun _ z => nomatch z)
  intro T hT X
  obtain ⟨t, st, oc, hrun, hend, hq⟩ := w T hT X
  refine ⟨t, st, oc, hrun, hend, ?_⟩
  rcases hq with ⟨⟨r, er, eo, -⟩, Lq, hfe, hLq⟩ | ⟨q, -, E, ce, Lq, ⟨x9, ex, -⟩, -⟩
  · cases er
    subst eo
    refine ⟨rfl, ⟨_, rfl⟩, hfe.2.1, ?_⟩
    exact hfe.2.2.weaken (fun y hy hlt => absurd hlt (Nat.not_lt.mpr (hLq y hy))) (by omega) (by omega)
  · cases ex
theorem st_shape (cA : Nat → ClassId) (ws : va_W) (h0 q1 q2 q3 q4 q5 q6 q7 q8 q9 q10 q11 q12 q13 q14 q15 q16 q17 : Nat) : (((((((((((((((((((((((((((((((((((((((ws ++ ([(h0, Sum.inr (6, [.int 0, .int 0, .null, .null, .null, .null, .null, .int 0, .null, .null, .null, .null, .int 0, .int 0, .int 0, .int 0, .int 0, .int 0, .null, .int 0, .int 0, .int 0, .int 0, .null, .null, .null, .null, .null, .null, .null]))] : va_W)) ++ [ct_ar q1 (cA 0) 8]).set ws.length (h0, Sum.inr (6, [.int 0, .int 0, .ref q1, .null, .null, .null, .null, .int 0, .null, .null, .null, .null, .int 0, .int 0, .int 0, .int 0, .int 0, .int 0, .null, .int 0, .int 0, .int 0, .int 0, .null, .null, .null, .null, .null, .null, .null]))) ++ [ct_ar q2 (cA 0) 8]).set ws.length (h0, Sum.inr (6, [.int 0, .int 0, .ref q1, .ref q2, .null, .null, .null, .int 0, .null, .null, .null, .null, .int 0, .int 0, .int 0, .int 0, .int 0, .int 0, .null, .int 0, .int 0, .int 0, .int 0, .null, .null, .null, .null, .null, .null, .null]))) ++ [ct_ar q3 (cA 0) 32]).set ws.length (h0, Sum.inr (6, [.int 0, .int 0, .ref q1, .ref q2, .ref q3, .null, .null, .int 0, .null, .null, .null, .null, .int 0, .int 0, .int 0, .int 0, .int 0, .int 0, .null, .int 0, .int 0, .int 0, .int 0, .null, .null, .null, .null, .null, .null, .null]))) ++ [ct_ar q4 (cA 1) 4]).set ws.length (h0, Sum.inr (6, [.int 0, .int 0, .ref q1, .ref q2, .ref q3, .ref q4, .null, .int 0, .null, .null, .null, .null, .int 0, .int 0, .int 0, .int 0, .int 0, .int 0, .null, .int 0, .int 0, .int 0, .int 0, .null, .null, .null, .null, .null, .null, .null]))) ++ [ct_ar q5 (cA 1) 81]).set ws.length (h0, Sum.inr (6, [.int 0, .int 0, .ref q1, .ref q2, .ref q3, .ref q4, .ref q5, .int 0, .null, .null, .null, .null, .int 0, .int 0, .int 0, .int 0, .int 0, .int 0, .null, .int 0, .int 0, .int 0, .int 0, .null, .null, .null, .null, .null, .null, .null]))) ++ [ct_ar q6 (cA 1) 13500]).set ws.length (h0, Sum.inr (6, [.int 0, .int 0, .ref q1, .ref q2, .ref q3, .ref q4, .ref q5, .int 0, .ref q6, .null, .null, .null, .int 0, .int 0, .int 0, .int 0, .int 0, .int 0, .null, .int 0, .int 0, .int 0, .int 0, .null, .null, .null, .null, .null, .null, .null]))) ++ [ct_ar q7 (cA 0) 500]).set ws.length (h0, Sum.inr (6, [.int 0, .int 0, .ref q1, .ref q2, .ref q3, .ref q4, .ref q5, .int 0, .ref q6, .ref q7, .null, .null, .int 0, .int 0, .int 0, .int 0, .int 0, .int 0, .null, .int 0, .int 0, .int 0, .int 0, .null, .null, .null, .null, .null, .null, .null]))) ++ [ct_ar q8 (cA 1) 270]).set ws.length (h0, Sum.inr (6, [.int 0, .int 0, .ref q1, .ref q2, .ref q3, .ref q4, .ref q5, .int 0, .ref q6, .ref q7, .ref q8, .null, .int 0, .int 0, .int 0, .int 0, .int 0, .int 0, .null, .int 0, .int 0, .int 0, .int 0, .null, .null, .null, .null, .null, .null, .null]))) ++ [ct_ar q9 (cA 0) 270]).set ws.length (h0, Sum.inr (6, [.int 0, .int 0, .ref q1, .ref q2, .ref q3, .ref q4, .ref q5, .int 0, .ref q6, .ref q7, .ref q8, .ref q9, .int 0, .int 0, .int 0, .int 0, .int 0, .int 0, .null, .int 0, .int 0, .int 0, .int 0, .null, .null, .null, .null, .null, .null, .null]))).set ws.length (h0, Sum.inr (6, [.int 0, .int 0, .ref q1, .ref q2, .ref q3, .ref q4, .ref q5, .int 0, .ref q6, .ref q7, .ref q8, .ref q9, .int 0, .int (Int32.ofInt (-1)), .int 0, .int 0, .int 0, .int 0, .null, .int 0, .int 0, .int 0, .int 0, .null, .null, .null, .null, .null, .null, .null]))).set ws.length (h0, Sum.inr (6, [.int 0, .int 0, .ref q1, .ref q2, .ref q3, .ref q4, .ref q5, .int 0, .ref q6, .ref q7, .ref q8, .ref q9, .int 0, .int (Int32.ofInt (-1)), .int (Int32.ofInt (-1)), .int 0, .int 0, .int 0, .null, .int 0, .int 0, .int 0, .int 0, .null, .null, .null, .null, .null, .null, .null]))).set ws.length (h0, Sum.inr (6, [.int 0, .int 0, .ref q1, .ref q2, .ref q3, .ref q4, .ref q5, .int 0, .ref q6, .ref q7, .ref q8, .ref q9, .int 0, .int (Int32.ofInt (-1)), .int (Int32.ofInt (-1)), .int (Int32.ofInt (-1)), .int 0, .int 0, .null, .int 0, .int 0, .int 0, .int 0, .null, .null, .null, .null, .null, .null, .null]))).set ws.length (h0, Sum.inr (6, [.int 0, .int 0, .ref q1, .ref q2, .ref q3, .ref q4, .ref q5, .int 0, .ref q6, .ref q7, .ref q8, .ref q9, .int 0, .int (Int32.ofInt (-1)), .int (Int32.ofInt (-1)), .int (Int32.ofInt (-1)), .int (Int32.ofInt (-1)), .int 0, .null, .int 0, .int 0, .int 0, .int 0, .null, .null, .null, .null, .null, .null, .null]))) ++ [ct_ar q10 (cA 0) 20]).set ws.length (h0, Sum.inr (6, [.int 0, .int 0, .ref q1, .ref q2, .ref q3, .ref q4, .ref q5, .int 0, .ref q6, .ref q7, .ref q8, .ref q9, .int 0, .int (Int32.ofInt (-1)), .int (Int32.ofInt (-1)), .int (Int32.ofInt (-1)), .int (Int32.ofInt (-1)), .int 0, .ref q10, .int 0, .int 0, .int 0, .int 0, .null, .null, .null, .null, .null, .null, .null]))) ++ [ct_ar q11 (cA 0) 61]).set ws.length (h0, Sum.inr (6, [.int 0, .int 0, .ref q1, .ref q2, .ref q3, .ref q4, .ref q5, .int 0, .ref q6, .ref q7, .ref q8, .ref q9, .int 0, .int (Int32.ofInt (-1)), .int (Int32.ofInt (-1)), .int (Int32.ofInt (-1)), .int (Int32.ofInt (-1)), .int 0, .ref q10, .int 0, .int 0, .int 0, .int 0, .ref q11, .null, .null, .null, .null, .null, .null]))) ++ [ct_ar q12 (cA 0) 61]).set ws.length (h0, Sum.inr (6, [.int 0, .int 0, .ref q1, .ref q2, .ref q3, .ref q4, .ref q5, .int 0, .ref q6, .ref q7, .ref q8, .ref q9, .int 0, .int (Int32.ofInt (-1)), .int (Int32.ofInt (-1)), .int (Int32.ofInt (-1)), .int (Int32.ofInt (-1)), .int 0, .ref q10, .int 0, .int 0, .int 0, .int 0, .ref q11, .ref q12, .null, .null, .null, .null, .null]))) ++ [ct_ar q13 (cA 0) 60]).set ws.length (h0, Sum.inr (6, [.int 0, .int 0, .ref q1, .ref q2, .ref q3, .ref q4, .ref q5, .int 0, .ref q6, .ref q7, .ref q8, .ref q9, .int 0, .int (Int32.ofInt (-1)), .int (Int32.ofInt (-1)), .int (Int32.ofInt (-1)), .int (Int32.ofInt (-1)), .int 0, .ref q10, .int 0, .int 0, .int 0, .int 0, .ref q11, .ref q12, .ref q13, .null, .null, .null, .null]))) ++ [ct_ar q14 (cA 0) 60]).set ws.length (h0, Sum.inr (6, [.int 0, .int 0, .ref q1, .ref q2, .ref q3, .ref q4, .ref q5, .int 0, .ref q6, .ref q7, .ref q8, .ref q9, .int 0, .int (Int32.ofInt (-1)), .int (Int32.ofInt (-1)), .int (Int32.ofInt (-1)), .int (Int32.ofInt (-1)), .int 0, .ref q10, .int 0, .int 0, .int 0, .int 0, .ref q11, .ref q12, .ref q13, .ref q14, .null, .null, .null]))) ++ [ct_ar q15 (cA 0) 60]).set ws.length (h0, Sum.inr (6, [.int 0, .int 0, .ref q1, .ref q2, .ref q3, .ref q4, .ref q5, .int 0, .ref q6, .ref q7, .ref q8, .ref q9, .int 0, .int (Int32.ofInt (-1)), .int (Int32.ofInt (-1)), .int (Int32.ofInt (-1)), .int (Int32.ofInt (-1)), .int 0, .ref q10, .int 0, .int 0, .int 0, .int 0, .ref q11, .ref q12, .ref q13, .ref q14, .ref q15, .null, .null]))) ++ [ct_ar q16 (cA 0) 60]).set ws.length (h0, Sum.inr (6, [.int 0, .int 0, .ref q1, .ref q2, .ref q3, .ref q4, .ref q5, .int 0, .ref q6, .ref q7, .ref q8, .ref q9, .int 0, .int (Int32.ofInt (-1)), .int (Int32.ofInt (-1)), .int (Int32.ofInt (-1)), .int (Int32.ofInt (-1)), .int 0, .ref q10, .int 0, .int 0, .int 0, .int 0, .ref q11, .ref q12, .ref q13, .ref q14, .ref q15, .ref q16, .null]))) ++ [ct_ar q17 (cA 0) 60]).set ws.length (h0, Sum.inr (6, [.int 0, .int 0, .ref q1, .ref q2, .ref q3, .ref q4, .ref q5, .int 0, .ref q6, .ref q7, .ref q8, .ref q9, .int 0, .int (Int32.ofInt (-1)), .int (Int32.ofInt (-1)), .int (Int32.ofInt (-1)), .int (Int32.ofInt (-1)), .int 0, .ref q10, .int 0, .int 0, .int 0, .int 0, .ref q11, .ref q12, .ref q13, .ref q14, .ref q15, .ref q16, .ref q17]))) = ws ++ ([(h0, Sum.inr (6, [.int 0, .int 0, .ref q1, .ref q2, .ref q3, .ref q4, .ref q5, .int 0, .ref q6, .ref q7, .ref q8, .ref q9, .int 0, .int (Int32.ofInt (-1)), .int (Int32.ofInt (-1)), .int (Int32.ofInt (-1)), .int (Int32.ofInt (-1)), .int 0, .ref q10, .int 0, .int 0, .int 0, .int 0, .ref q11, .ref q12, .ref q13, .ref q14, .ref q15, .ref q16, .ref q17])), (q1, Sum.inl (cA 0, (8, Sum.inl (fun _ => 0)))), (q2, Sum.inl (cA 0, (8, Sum.inl (fun _ => 0)))), (q3, Sum.inl (cA 0, (32, Sum.inl (fun _ => 0)))), (q4, Sum.inl (cA 1, (4, Sum.inl (fun _ => 0)))), (q5, Sum.inl (cA 1, (81, Sum.inl (fun _ => 0)))), (q6, Sum.inl (cA 1, (13500, Sum.inl (fun _ => 0)))), (q7, Sum.inl (cA 0, (500, Sum.inl (fun _ => 0)))), (q8, Sum.inl (cA 1, (270, Sum.inl (fun _ => 0)))), (q9, Sum.inl (cA 0, (270, Sum.inl (fun _ => 0)))), (q10, Sum.inl (cA 0, (20, Sum.inl (fun _ => 0)))), (q11, Sum.inl (cA 0, (61, Sum.inl (fun _ => 0)))), (q12, Sum.inl (cA 0, (61, Sum.inl (fun _ => 0)))), (q13, Sum.inl (cA 0, (60, Sum.inl (fun _ => 0)))), (q14, Sum.inl (cA 0, (60, Sum.inl (fun _ => 0)))), (q15, Sum.inl (cA 0, (60, Sum.inl (fun _ => 0)))), (q16, Sum.inl (cA 0, (60, Sum.inl (fun _ => 0)))), (q17, Sum.inl (cA 0, (60, Sum.inl (fun _ => 0))))] : va_W) := by
  simp only [List.append_assoc, List.cons_append, List.nil_append, List.set_append_right, Nat.le_refl, Nat.sub_self, List.set_cons_zero]
theorem st_fs6 : ∀ j ∈ List.range 30, defaultValue (ab_tyf 6 j) = vp_V [.int 0, .int 0, .null, .null, .null, .null, .null, .int 0, .null, .null, .null, .null, .int 0, .int 0, .int 0, .int 0, .int 0, .int 0, .null, .int 0, .int 0, .int 0, .int 0, .null, .null, .null, .null, .null, .null, .null] j := by decide +kernel
set_option maxHeartbeats 600000 in
set_option maxRecDepth 100000 in
theorem law_mid (hpure : ∀ (N : Nat) (xs : Nat → Int32), N ≤ 2560 → X 136 13 [vR 38, vR 0, vR 6, vR 37, vI 0, vJ 0, vJ 0] [] (ab_h0 N xs) (fun o h' => o = oI 1 ∧ h' 39 0 ≤ 512)) {p : Program} {e : Env} {s : State} {m : MethodId} {below : List Frame} {meth : Method} {c : Code} (l : Launch) (htr : l.stackTraces = false) {b L : Nat} {xs : Nat → Int32} (hL : L ≤ 2560) (C0 : lw_At p s m meth c b L xs) (hex : c.exceptionTable.toList = [])
    {dC : Nat → ClassId} {dI : Nat → Nat → Nat} {cA : Nat → ClassId} (hC : ct_E s #[Value.ref b] dC dI cA) (H : Heap) (locs : List Loc) (ls : Array Slot) (W5 : va_W) (x : Nat) (hP : va_P (dC, dI) ab_cls W5 H) (hD : va_D (fun q => s.heap.size ≤ q) W5) (hS : va_S (fun q => s.heap.size ≤ q) s.heap H locs) (hl : lv_has ls 7 [(1, .ref x), (0, .ref b)])
    (hkey : ∀ y m1 m2 m3 m4 m5 m6 m7 m8 m9 m10 m11 m12 m13 m14 m15 m16 m17 z : Nat, ∃ ad : Nat → Nat, ad 38 = b ∧ ad 37 = z ∧ ad 6 = y ∧ ad 0 = x ∧ ∀ k : Nat, k < 38 → (W5 ++ ([(y, Sum.inr (6, [.int 0, .int 0, .ref m1, .ref m2, .ref m3, .ref m4, .ref m5, .int 0, .ref m6, .ref m7, .ref m8, .ref m9, .int 0, .int (Int32.ofInt (-1)), .int (Int32.ofInt (-1)), .int (Int32.ofInt (-1)), .int (Int32.ofInt (-1)), .int 0, .ref m10, .int 0, .int 0, .int 0, .int 0, .ref m11, .ref m12, .ref m13, .ref m14, .ref m15, .ref m16, .ref m17])), (m1, Sum.inl (cA 0, (8, Sum.inl (fun _ => 0)))), (m2, Sum.inl (cA 0, (8, Sum.inl (fun _ => 0)))), (m3, Sum.inl (cA 0, (32, Sum.inl (fun _ => 0)))), (m4, Sum.inl (cA 1, (4, Sum.inl (fun _ => 0)))), (m5, Sum.inl (cA 1, (81, Sum.inl (fun _ => 0)))), (m6, Sum.inl (cA 1, (13500, Sum.inl (fun _ => 0)))), (m7, Sum.inl (cA 0, (500, Sum.inl (fun _ => 0)))), (m8, Sum.inl (cA 1, (270, Sum.inl (fun _ => 0)))), (m9, Sum.inl (cA 0, (270, Sum.inl (fun _ => 0)))), (m10, Sum.inl (cA 0, (20, Sum.inl (fun _ => 0)))), (m11, Sum.inl (cA 0, (61, Sum.inl (fun _ => 0)))), (m12, Sum.inl (cA 0, (61, Sum.inl (fun _ => 0)))), (m13, Sum.inl (cA 0, (60, Sum.inl (fun _ => 0)))), (m14, Sum.inl (cA 0, (60, Sum.inl (fun _ => 0)))), (m15, Sum.inl (cA 0, (60, Sum.inl (fun _ => 0)))), (m16, Sum.inl (cA 0, (60, Sum.inl (fun _ => 0)))), (m17, Sum.inl (cA 0, (60, Sum.inl (fun _ => 0)))), (z, Sum.inl (cA 2, (1, Sum.inr (Sum.inl (fun _ => 0)))))] : va_W))[st_pi k]? = some (ad k, ab_ce ad cA (ab_h0 L xs k) (ab_nd ab_lay k))) :
    W p l e room_1 s m #[Value.ref b] below meth c H locs 19 3332 (lw_Z below #[Value.ref b] s) (F0 m 8 ls []) := by
  have C0' := C0
  obtain ⟨hx, hb, hr, hml, hown, hts, hX, hbl, hlocks, hgv⟩ := C0
  have hW0 : s.WarmedH s.vm := State.WarmedH.refl s
  have e6 : ab_N 6 = 30 := rfl
  refine va_new (ci := 6) (fs := [.int 0, .int 0, .null, .null, .null, .null, .null, .int 0, .null, .null, .null, .null, .int 0, .int 0, .int 0, .int 0, .int 0, .int 0, .null, .int 0, .int 0, .int 0, .int 0, .null, .null, .null, .null, .null, .null, .null]) (C := ab_cs 6) (T := ab_T 6) (N := ab_N 6) hx hb (hC.lays hW0 _ (c := 6) (by decide)) (fun w hw => hw) (ab_tyf 6) (ab_ty0 (by decide)) hown (hC.word sw_n6 rfl hW0 _) (hC.word (st_ins 6 (by decide)) rfl hW0 _) (hC.word (ab_iniok 6 (by decide)) rfl hW0 _) (hC.K hW0) hP hD hS (fun q hq => hq) (ab_cls_get (by decide)) (fun j hj => st_fs6 j (List.mem_range.mpr hj)) (by show 19 + 1 ≤ 1074; omega) (by show 3332 + ab_N 6 ≤ 26742; omega) sl_8 (fun y H hP hD hS => ?_)
  refine W.widen (k := 20) (n := 3362) (by omega) (by omega) ?_
  refine lv_dup hx hb sl_11 rfl ?_
  refine ct_call (s0 := s) (va_runI (b := y) (As := []) (rest := [.ref y]) (Ts := []) ⟨hx, hb, hml, hown, fun _ z => nomatch z⟩ (cn_6 hC (W5 ++ ([(y, Sum.inr (6, [.int 0, .int 0, .null, .null, .null, .null, .null, .int 0, .null, .null, .null, .null, .int 0, .int 0, .int 0, .int 0, .int 0, .int 0, .null, .int 0, .int 0, .int 0, .int 0, .null, .null, .null, .null, .null, .null, .null]))] : va_W)) W5.length y (by rw [List.getElem?_append_right (Nat.le_refl _), Nat.sub_self]; rfl)) ⟨⟨rfl, rfl, (Nat.le_of_ble_eq_true rfl), (Nat.le_of_ble_eq_true rfl), fun w hw a' U hW => by rw [List.mem_singleton.mp hw]; exact hC.word cn_6_k rfl (State.WarmedH.trans hW0 hW) a', List.mem_cons_self, hC.word cn_6_k rfl hW0 _, hC.word (ab_iniok 6 (by decide)) rfl hW0 _, ⟨by decide, by decide⟩, ct_sig 0 (by decide +kernel), hC.word sw_m6 rfl hW0 _⟩, rfl, hC.word sw_x6 rfl hW0 _⟩ ⟨ct_blind, fun U hU hW => ⟨rfl, State.WarmedH.trans hW0 hW, by rw [hU]; exact hS.1, by rw [hU]; exact hP, hD⟩⟩ rfl rfl hl.1 rfl (lv_room (Nat.le_of_ble_eq_true rfl)) sl_12 ⟨by show 37 ≤ 1074; omega, by show 18477 ≤ 26742; omega⟩) hS (fun ws9 H locs hpo hP hD hS => ?_)
  refine W.widen (k := 37) (n := 18477) (by omega) (by omega) ?_
  obtain ⟨m1, m2, m3, m4, m5, m6, m7, m8, m9, m10, m11, m12, m13, m14, m15, m16, m17, hpo⟩ := hpo
  have hpo := hpo.trans (st_shape cA W5 y m1 m2 m3 m4 m5 m6 m7 m8 m9 m10 m11 m12 m13 m14 m15 m16 m17)
  subst hpo
  refine lv_astore_n hx hb sl_15 rfl hl (by decide) rfl (fun ls hl => ?_)
  have hl : lv_has ls 7 [(2, .ref y), (1, .ref x), (0, .ref b)] := hl
  refine lv_iconst (v := 1) hx hb sl_16 rfl ?_
  refine va_newa (atype := .long) (n := 1) (a0 := (1, .inr (.inl (fun _ => 0)))) (N' := 1) (ty := .long) hx hb (hC.word aw_2 rfl hW0 _) rfl (hC.K hW0) hP hD hS (fun q hq => hq) (fun cA => by rw [vp_cell_l]; rfl) (by decide) rfl (by decide) (by show 37 + 1 ≤ 1074; omega) (by show 18477 + 1 ≤ 26742; omega) sl_17 (fun z c9 H hK1 hP hD hS => ?_)
  have e9 := ct_ra (t := 0) (tk := 2) hC hW0 rfl hK1
  subst e9
  rw [List.append_assoc] at hP hD
  refine lv_astore_n hx hb sl_19 rfl hl (by decide) rfl (fun ls hl => ?_)
  refine lv_iconst (v := 0) hx hb sl_20 rfl ?_
  refine lv_istore hx hb sl_21 hl (by decide) rfl (fun ls hl => ?_)
  have hl : lv_has ls 7 [(4, .int 0), (3, .ref z), (2, .ref y), (1, .ref x), (0, .ref b)] := hl
  obtain ⟨ad, a38, a37, a6, a0, hk2⟩ := hkey y m1 m2 m3 m4 m5 m6 m7 m8 m9 m10 m11 m12 m13 m14 m15 m16 m17 z
  refine W.widen (k := 38) (n := 18478) (by omega) (by omega) ?_
  exact law_end hpure l htr hL C0' hex hC H locs ls _ ad hk2 hP hD hS a38 (by rw [a37, a6, a0]; exact hl)
set_option maxHeartbeats 600000 in
set_option maxRecDepth 100000 in
theorem law_start (hpure : ∀ (N : Nat) (xs : Nat → Int32), N ≤ 2560 → X 136 13 [vR 38, vR 0, vR 6, vR 37, vI 0, vJ 0, vJ 0] [] (ab_h0 N xs) (fun o h' => o = oI 1 ∧ h' 39 0 ≤ 512)) {p : Program} {e : Env} {s : State} {m : MethodId} {below : List Frame} {meth : Method} {c : Code} (l : Launch) (htr : l.stackTraces = false) {b L : Nat} {xs : Nat → Int32} (hL : L ≤ 2560) (C0 : lw_At p s m meth c b L xs) (hex : c.exceptionTable.toList = []) :
    W p l e room_1 s m #[Value.ref b] below meth c s.heap [] 0 0 (lw_Z below #[Value.ref b] s) (entryFrame m ([Value.ref b] : List Value).toArray 7) := by
  have C0' := C0
  obtain ⟨hx, hb, hr, hml, hown, hts, hX, hbl, hlocks, hgv⟩ := C0
  obtain ⟨dC, dI, cA, hC⟩ := st_env hts
  have e5 : ab_N 5 = 5 := rfl
  have hW0 : s.WarmedH s.vm := State.WarmedH.refl s
  have hl := lv_entry ([.ref b]) (n := 7) (Nat.le_of_ble_eq_true rfl)
  rw [lg_entry_eq]
  generalize (lg_sl ([.ref b]) ++ List.replicate (7 - (lg_sl ([.ref b])).length) Slot.unset).toArray = ls at hl ⊢
  have hl : lv_has ls 7 [(0, .ref b)] := hl
  have hP : va_P (dC, dI) ab_cls [] s.heap := fun k q hq => nomatch hq
  have hD : va_D (fun q => s.heap.size ≤ q) [] := ⟨fun i j p q hp => (nomatch hp), fun k q hq => nomatch hq⟩
  have hS : va_S (fun q => s.heap.size ≤ q) s.heap s.heap [] := va_S.rf
  refine va_new (ci := 5) (fs := [.null, .null, .null, .null, .null]) (C := ab_cs 5) (T := ab_T 5) (N := ab_N 5) hx hb (hC.lays hW0 _ (c := 5) (by decide)) (fun w hw => hw) (ab_tyf 5) (ab_ty0 (by decide)) hown (hC.word sw_n5 rfl hW0 _) (hC.word (st_ins 5 (by decide)) rfl hW0 _) (hC.word (ab_iniok 5 (by decide)) rfl hW0 _) (hC.K hW0) hP hD hS (fun q hq => hq) (ab_cls_get (by decide)) (fun j hj => by have hj : j < 5 := hj; match j, hj with | 0, _ => rfl | 1, _ => rfl | 2, _ => rfl | 3, _ => rfl | 4, _ => rfl | n + 5, h => exact absurd h (by omega)) (by show 0 + 1 ≤ 1074; omega) (by show 0 + ab_N 5 ≤ 26742; omega) sl_0 (fun x H hP hD hS => ?_)
  refine W.widen (k := 1) (n := 5) (by omega) (by omega) ?_
  have hP : va_P (dC, dI) ab_cls [(x, Sum.inr (5, [.null, .null, .null, .null, .null]))] H := hP
  have hD : va_D (fun q => s.heap.size ≤ q) [(x, Sum.inr (5, [.null, .null, .null, .null, .null]))] := hD
  refine lv_dup hx hb sl_3 rfl ?_
  refine ct_call (s0 := s) (va_runI (b := x) (As := []) (rest := [.ref x]) (Ts := []) ⟨hx, hb, hml, hown, fun _ z => nomatch z⟩ (cn_5 hC x) ⟨⟨rfl, rfl, (Nat.le_of_ble_eq_true rfl), (Nat.le_of_ble_eq_true rfl), fun w hw a' U hW => by rw [List.mem_singleton.mp hw]; exact hC.word cn_5_k rfl (State.WarmedH.trans hW0 hW) a', List.mem_cons_self, hC.word cn_5_k rfl hW0 _, hC.word (ab_iniok 5 (by decide)) rfl hW0 _, ⟨by decide, by decide⟩, ct_sig 0 (by decide +kernel), hC.word sw_m5 rfl hW0 _⟩, rfl, hC.word sw_x5 rfl hW0 _⟩ ⟨ct_blind, fun U hU hW => ⟨rfl, State.WarmedH.trans hW0 hW, by rw [hU]; exact hS.1, by rw [hU]; exact hP, hD⟩⟩ rfl rfl hl.1 rfl (lv_room (Nat.le_of_ble_eq_true rfl)) sl_4 ⟨by show 19 ≤ 1074; omega, by show 3332 ≤ 26742; omega⟩) hS (fun ws9 H locs hpo hP hD hS => ?_)
  refine W.widen (k := 19) (n := 3332) (by omega) (by omega) ?_
  obtain ⟨g, g1, g2, g3, g4, g5, a, a1, a2, b9, b1, d, d1, r, r1, r2, r3, r4, rfl⟩ := hpo
  refine lv_astore_n hx hb sl_7 rfl hl (by decide) rfl (fun ls hl => ?_)
  have hl : lv_has ls 7 [(1, .ref x), (0, .ref b)] := hl
  exact law_mid hpure l htr hL C0' hex hC H locs ls _ x hP hD hS hl (fun y m1 m2 m3 m4 m5 m6 m7 m8 m9 m10 m11 m12 m13 m14 m15 m16 m17 z => ⟨fun k => ([x, g, a, b9, d, r, y, g1, g2, g3, g4, g5, a1, a2, b1, d1, r1, r2, r3, r4, m1, m2, m3, m4, m5, m6, m7, m8, m9, m10, m11, m12, m13, m14, m15, m16, m17, z, b] : List Nat).getD k 0, rfl, rfl, rfl, rfl, st_key L xs cA x g g1 g2 g3 g4 g5 a a1 a2 b9 b1 d d1 r r1 r2 r3 r4 y m1 m2 m3 m4 m5 m6 m7 m8 m9 m10 m11 m12 m13 m14 m15 m16 m17 z b⟩)
end Law9
