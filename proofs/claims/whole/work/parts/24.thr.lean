/-! Throws, copies of arrays: the relation is closed. -/
section Thr9
variable {l : Launch} {s0 : State} {a0 : Array Value} {ad : Nat → Nat} {dC : Nat → ClassId} {dI : Nat → Nat → Nat} {cA : Nat → ClassId} {N : Nat} {xs : Nat → Int32}
theorem ab_E.face (hE : ab_E l s0 a0 ad dC dI cA N xs) {w : Cond} (hw : w ∈ lw_tbl) (hg : ab_wok w = true) {s : State} (hW : s0.WarmedH s.vm) (a : Array Value) : w.before a s = true := by
  unfold ab_wok at hg
  rw [Bool.and_eq_true] at hg
  exact va_tabs hg.1 (rfl : (s0.setVm s.vm).vm = s.vm) (Cond.before_shiftedFace (State.Shifted.of_warmed hW) w hg.2 (hE.2.1 w hw))
theorem ab_wl_39 {h : ab_S} {i v : Int} : ab_wl ad cA (ab_up h 39 i v) = ab_wl ad cA h := by
  apply List.ext_getElem?
  intro j
  have hl : ∀ h : ab_S, (ab_wl ad cA h).length = 38 := fun h => (ab_wr_len _ _).trans ab_lay_len
  by_cases hj : j < 38
  · rw [ab_wl_get hj, ab_wl_get hj]
    have : ab_up h 39 i v j = h j := by
      funext q
      unfold ab_up
      rw [if_neg (by omega)]
    rw [this]
  · rw [List.getElem?_eq_none (by rw [hl]; omega), List.getElem?_eq_none (by rw [hl]; omega)]
theorem ab_rows5 {L : List ab_I} {n : Nat} {a0 a1 a2 a3 a4 : Instr} (h : ((L.drop n).take 5).map (fun t => t.2.1) = [a0, a1, a2, a3, a4]) : ∃ t0 t1 t2 t3 t4 : ab_I, L[n]? = some t0 ∧ L[n + 1]? = some t1 ∧ L[n + 2]? = some t2 ∧ L[n + 3]? = some t3 ∧ L[n + 4]? = some t4 ∧ t0.2.1 = a0 ∧ t1.2.1 = a1 ∧ t2.2.1 = a2 ∧ t3.2.1 = a3 ∧ t4.2.1 = a4 := by
  have key : ∀ (k : Nat) (a : Instr), k < 5 → [a0, a1, a2, a3, a4][k]? = some a → ∃ t : ab_I, L[n + k]? = some t ∧ t.2.1 = a := by
    intro k a hk ha
    rw [← h, List.getElem?_map, List.getElem?_take_of_lt hk, List.getElem?_drop] at ha
    cases e : L[n + k]? with
    | none => rw [e] at ha; cases ha
    | some t => rw [e] at ha; exact ⟨t, rfl, Option.some.inj ha⟩
  obtain ⟨t0, p0, q0⟩ := key 0 a0 (by omega) rfl
  obtain ⟨t1, p1, q1⟩ := key 1 a1 (by omega) rfl
  obtain ⟨t2, p2, q2⟩ := key 2 a2 (by omega) rfl
  obtain ⟨t3, p3, q3⟩ := key 3 a3 (by omega) rfl
  obtain ⟨t4, p4, q4⟩ := key 4 a4 (by omega) rfl
  exact ⟨t0, t1, t2, t3, t4, p0, p1, p2, p3, p4, q0, q1, q2, q3, q4⟩
theorem ab_own5 {i : Nat} (h : ab_own i = 5) : ¬ (127 ≤ i ∧ i ≤ 135) := by
  intro z
  have : ∀ j ∈ List.range 9, ab_own (127 + j) = 7 := by decide +kernel
  have := this (i - 127) (List.mem_range.mpr (by omega))
  rw [show 127 + (i - 127) = i by omega, h] at this
  cases this
theorem so_thr (hE : ab_E l s0 a0 ad dC dI cA N xs) (i n x : Nat) (ls st : List ab_V) (h : ab_S) (hthr : ab_thr i n x) (hnl : ab_nl st = true) (hl8 : st.length ≤ 8) : ab_MM l s0 ad dC dI cA N xs i n ls st h (Sum.inr x) (ab_up h 39 0 (h 39 0 + 1)) := by
  have e39 : ab_up h 39 0 (h 39 0 + 1) 39 0 = h 39 0 + 1 := by
    unfold ab_up
    rw [if_pos rfl, if_pos rfl]
  have ek : ab_k h (ab_up h 39 0 (h 39 0 + 1)) = 1 := by
    unfold ab_k
    rw [e39]
    omega
  refine ⟨by rw [e39]; omega, ?_⟩
  intro p e R s m args below meth c Hp locs cells slots lsA pc hcx hcell hslot hpc hro hP hS hls hrl hrs
  rw [ek] at hcell hslot
  rw [ek]
  obtain ⟨ik, is, ic, hth, hrows, hf6, hl90⟩ := hthr
  obtain ⟨t0, t1, t2, t3, t4, p0, p1, p2, p3, p4, q0, q1, q2, q3, q4⟩ := ab_rows5 hrows
  have hpc' : t0.1 = pc := by
    rw [p0] at hpc
    exact Option.some.inj hpc
  have g0 := (ab_gdi i).2 n t0 t1 p0 p1
  have g1 := (ab_gdi i).2 (n + 1) t1 t2 p1 p2
  have g2 := (ab_gdi i).2 (n + 2) t2 t3 p2 p3
  have g3 := (ab_gdi i).2 (n + 3) t3 t4 p3 p4
  have len : ∀ {n : Nat} {t : ab_I} {a : Instr}, (ab_L i)[n]? = some t → t.2.1 = a → (∀ d lo hi offs, a ≠ .tableswitch d lo hi offs) → t.2.2.1 = ab_il a := by
    intro n t a ht he hne
    have := ab_lki ht
    unfold ab_lk at this
    rw [he] at this
    split at this
    · exact absurd rfl (hne _ _ _ _)
    · exact beq_iff_eq.mp this
  have l0 := len p0 q0 (fun _ _ _ _ z => nomatch z)
  have l1 := len p1 q1 (fun _ _ _ _ z => nomatch z)
  have l2 := len p2 q2 (fun _ _ _ _ z => nomatch z)
  have l3 := len p3 q3 (fun _ _ _ _ z => nomatch z)
  have l4 := len p4 q4 (fun _ _ _ _ z => nomatch z)
  have d0 := ((ab_gdi i).1 n t0 p0).1
  have d1 := ((ab_gdi i).1 _ t1 p1).1
  have d2 := ((ab_gdi i).1 _ t2 p2).1
  have d3 := ((ab_gdi i).1 _ t3 p3).1
  have d4 := ((ab_gdi i).1 _ t4 p4).1
  rw [q0, l0, hpc'] at d0
  rw [l0, hpc'] at g0
  rw [q1, l1, g0] at d1
  rw [l1, g0] at g1
  rw [q2, l2, g1] at d2
  rw [l2, g1] at g2
  rw [q3, l3, g2] at d3
  rw [l3, g2] at g3
  rw [q4, l4, g3] at d4
  obtain ⟨hx, hb, hml, hrt, hlks, hex, hown, hW0, hold, hfr, hlo⟩ := hcx
  obtain ⟨h5, hcs⟩ := th_c _ hth
  dsimp only at h5 hcs
  have hx4 : x < 4 := by omega
  obtain ⟨hin, hfit, -⟩ := th_i x (List.mem_range.mpr hx4)
  have hat : ∀ w ∈ vx_atS (ab_cs 5) ic (ab_xs x) ab_nmz, w ∈ lw_tbl ∧ ab_wok w = true := by
    rcases hcs with ⟨rfl, rfl⟩ | ⟨rfl, rfl⟩ | ⟨rfl, rfl⟩ | ⟨rfl, rfl⟩
    · exact th_0
    · exact th_1
    · exact th_2
    · exact th_3
  obtain ⟨tx, sa, hstr⟩ := hE.2.2.2.2.2.2.2.2.2.1 _ hth
  dsimp only at hstr
  rw [h5] at hstr hown
  have hlnk := th_l _ hth
  have hU := vx_Zq.moved hW0.alike (vx_Zq.kept hE.2.2.2.2.2.2.2.1 (H1 := s.heap) (fun a ha _ => hold.2 a ha))
  have hN := vx_Zq.moved hW0.alike (vx_Zq.kept hE.2.2.2.2.2.2.2.2.1 (H1 := s.heap) (fun a ha _ => hold.2 a ha))
  refine vx_throwS (own := ab_cs 5) (cls := ab_xs x) (text := tx) (names := ab_nmz) (ik := ik) (is := is) (ic := ic) (sa := sa) (A := fun q => s0.heap.size ≤ q) hx hb hE.1 hown hfit (by decide +kernel) (hE.word hlnk rfl hW0 args) (hE.word hin rfl hW0 args) (vk_R.warm hW0 hstr) (fun w hw => hE.face (hat w hw).1 (hat w hw).2 hW0 args) ?_ hU hN hS (by rw [hml]; exact hls.1) d0 d1 d2 d3 d4 ?_ ?_ ?_ hcell (by omega) hlks ?_ hS.2.2 (Nat.le_refl _) (by omega)
  · intro w hw
    rcases List.mem_cons.mp hw with rfl | hw
    · rfl
    · rcases List.mem_cons.mp hw with rfl | hw
      · rfl
      · have h9 := (hat w hw).2
        unfold ab_wok at h9
        rw [Bool.and_eq_true] at h9
        unfold vx_ot
        rw [h9.1]
        rfl
  · intro z hz
    rw [hex] at hz
    unfold ab_hh at hz
    rw [if_neg (ab_own5 h5)] at hz
    exact nomatch hz
  · show 2 + 3 < _
    omega
  · rw [nl_sum st hnl]
    show _ + (13 * (2 + 1) + 43) ≤ _
    omega
  · intro t hvm hsz hkeep
    refine ⟨x, rfl, rfl, hx4, ?_, ?_, ?_, ?_⟩
    · rw [ab_wl_39]
      exact fun k q hq => (hP k q hq).kept (hkeep _ (hP k q hq).lt)
    · refine ⟨fun k j hk => ?_, ?_, fun j hj => ?_⟩
      · unfold ab_up
        rw [if_neg hk]
        exact hro.1 k j hk
      · unfold ab_up
        rw [if_neg (by decide)]
        exact hro.2.1
      · unfold ab_up
        rw [if_neg (by decide)]
        exact hro.2.2 j hj
    · exact Nat.le_trans hS.1 hsz
    · intro q hq hA
      rw [hkeep q (Nat.lt_of_lt_of_le hq hS.1)]
      exact hS.2.1 q hq hA
end Thr9
