/-! Branches and returns: the relation is closed. -/
section So3
variable {l : Launch} {s0 : State} {a0 : Array Value} {ad : Nat → Nat} {dC : Nat → ClassId} {dI : Nat → Nat → Nat} {cA : Nat → ClassId} {N : Nat} {xs : Nat → Int32}
theorem ab_tgt {L : List ab_I} {k : Nat} {z : Int} (h : decide ((L[k]?).map (fun q => (q.1 : Int)) = some z) = true) : ∃ u, L[k]? = some u ∧ (u.1 : Int) = z := by
  rw [decide_eq_true_eq] at h
  cases e : L[k]? with
  | none => rw [e] at h; cases h
  | some u => rw [e] at h; exact ⟨u, rfl, Option.some.inj h⟩
theorem so_goto (i n : Nat) (t : ab_I) (off : Int) (ls st : List ab_V) (h : ab_S) (o : ab_O) (h' : ab_S) (ht : (ab_L i)[n]? = some t) (he : t.2.1 = .goto off) (HM : ab_MM l s0 ad dC dI cA N xs i t.2.2.2.1 ls st h o h') : ab_MM l s0 ad dC dI cA N xs i n ls st h o h' := by
  refine ⟨HM.1, ?_⟩
  intro p e R s m args below meth c Hp locs cells slots lsA pc hcx hcell hslot hpc hro hP hS hls hrl hrs
  obtain ⟨hd, hc1⟩ := (ab_gdi i).1 n t ht
  have hlk := ab_lki ht
  have hpc' : t.1 = pc := by
    rw [ht] at hpc
    exact Option.some.inj hpc
  have hcx' := hcx
  obtain ⟨hx, hb, hml, hrt, hlks, hex, hown, hW0, hold, hfr, hlo⟩ := hcx
  obtain ⟨pc0, ins, len, x1, x2⟩ := t
  dsimp only at hpc' hd hc1 hlk he HM
  subst hpc'
  subst he
  obtain ⟨u, hu, hup⟩ := ab_tgt (by simpa only [ab_c1] using hc1)
  have hl : len = 3 := by simpa [ab_lk, ab_il] using hlk
  subst hl
  exact lv_goto hx hb hd hup.symm (HM.2 p e R s m args below meth c Hp locs cells slots lsA u.1 hcx' hcell hslot (by rw [hu]; rfl) hro hP hS hls hrl hrs)
theorem so_if (i n : Nat) (t : ab_I) (cd : Jvm.ClassFile.Cond) (off : Int) (x : Int) (ls st : List ab_V) (h : ab_S) (o : ab_O) (h' : ab_S) (ht : (ab_L i)[n]? = some t) (he : t.2.1 = .ifCond cd off) (HA : ab_cmp cd x 0 → ab_MM l s0 ad dC dI cA N xs i t.2.2.2.1 ls st h o h') (HB : ¬ ab_cmp cd x 0 → ab_MM l s0 ad dC dI cA N xs i (n + 1) ls st h o h') : ab_MM l s0 ad dC dI cA N xs i n ls (vI x :: st) h o h' := by
  have hmono : h 39 0 ≤ h' 39 0 := by
    by_cases z : ab_cmp cd x 0
    · exact (HA z).1
    · exact (HB z).1
  refine ⟨hmono, ?_⟩
  intro p e R s m args below meth c Hp locs cells slots lsA pc hcx hcell hslot hpc hro hP hS hls hrl hrs
  obtain ⟨hd, hc1⟩ := (ab_gdi i).1 n t ht
  have hlk := ab_lki ht
  have hpc' : t.1 = pc := by
    rw [ht] at hpc
    exact Option.some.inj hpc
  obtain ⟨u2, hu2⟩ := ab_end_of (ab_ends _ (ab_mt_mem i)) ht (by rw [he]; exact fun z => nomatch z) (by rw [he]; exact fun z => nomatch z) (by rw [he]; exact fun z => nomatch z) (by rw [he]; exact fun _ z => nomatch z)
  have hup2 := (ab_gdi i).2 n t u2 ht hu2
  have hcx' := hcx
  obtain ⟨hx, hb, hml, hrt, hlks, hex, hown, hW0, hold, hfr, hlo⟩ := hcx
  obtain ⟨pc0, ins, len, x1, x2⟩ := t
  dsimp only at hpc' hd hc1 hlk he HA HB hup2
  subst hpc'
  subst he
  obtain ⟨u, hu, hup⟩ := ab_tgt (by simpa only [ab_c1] using hc1)
  have hl : len = 3 := by simpa [ab_lk, ab_il] using hlk
  subst hl
  have rx : ab_rg x := rgs_h hrs
  have ry : ab_rg 0 := ⟨by decide, by decide⟩
  have rs := rgs_t hrs
  have kA : ∀ z : ab_cmp cd x 0, W p l e R s m args below meth c Hp locs cells slots (vx_MQ below (ab_Qc s0 ad dC dI cA N xs o h') (ab_XC s0 ad dC dI cA N xs o h') args s (cells + ab_k h h') (slots + 6 * ab_k h h') (fun q => s0.heap.size ≤ q)) (F0 m u.1 lsA (st.map (ab_tv ad))) := fun z => (HA z).2 p e R s m args below meth c Hp locs cells slots lsA u.1 hcx' hcell hslot (by rw [hu]; rfl) hro hP hS hls hrl rs
  have kB : ∀ z : ¬ ab_cmp cd x 0, W p l e R s m args below meth c Hp locs cells slots (vx_MQ below (ab_Qc s0 ad dC dI cA N xs o h') (ab_XC s0 ad dC dI cA N xs o h') args s (cells + ab_k h h') (slots + 6 * ab_k h h') (fun q => s0.heap.size ≤ q)) (F0 m (pc0 + 3) lsA (st.map (ab_tv ad))) := fun z => (HB z).2 p e R s m args below meth c Hp locs cells slots lsA (pc0 + 3) hcx' hcell hslot (by rw [hu2]; exact congrArg some hup2) hro hP hS hls hrl rs
  cases cd
  case eq => exact lv_if_eq hx hb hd hup.symm (fun z => kA ((i3_eq rx ry).mp z)) (fun z => kB (fun w => z ((i3_eq rx ry).mpr w)))
  case ne => exact lv_if_ne hx hb hd hup.symm (fun z => kA (fun w => z ((i3_eq rx ry).mpr w))) (fun z => kB (fun w => w ((i3_eq rx ry).mp z)))
  case lt => exact lv_if_lt hx hb hd hup.symm (fun z => kA ((i3_lt rx ry).mp z)) (fun z => kB (fun w => z ((i3_lt rx ry).mpr w)))
  case ge => exact lv_if_ge hx hb hd hup.symm (fun z => kA ((i3_le ry rx).mp z)) (fun z => kB (fun w => z ((i3_le ry rx).mpr w)))
  case gt => exact lv_if_gt hx hb hd hup.symm (fun z => kA ((i3_lt ry rx).mp z)) (fun z => kB (fun w => z ((i3_lt ry rx).mpr w)))
  case le => exact lv_if_le hx hb hd hup.symm (fun z => kA ((i3_le rx ry).mp z)) (fun z => kB (fun w => z ((i3_le rx ry).mpr w)))
theorem so_icmp (i n : Nat) (t : ab_I) (cd : Jvm.ClassFile.Cond) (off : Int) (x y : Int) (ls st : List ab_V) (h : ab_S) (o : ab_O) (h' : ab_S) (ht : (ab_L i)[n]? = some t) (he : t.2.1 = .if_icmp cd off) (HA : ab_cmp cd x y → ab_MM l s0 ad dC dI cA N xs i t.2.2.2.1 ls st h o h') (HB : ¬ ab_cmp cd x y → ab_MM l s0 ad dC dI cA N xs i (n + 1) ls st h o h') : ab_MM l s0 ad dC dI cA N xs i n ls (vI y :: vI x :: st) h o h' := by
  have hmono : h 39 0 ≤ h' 39 0 := by
    by_cases z : ab_cmp cd x y
    · exact (HA z).1
    · exact (HB z).1
  refine ⟨hmono, ?_⟩
  intro p e R s m args below meth c Hp locs cells slots lsA pc hcx hcell hslot hpc hro hP hS hls hrl hrs
  obtain ⟨hd, hc1⟩ := (ab_gdi i).1 n t ht
  have hlk := ab_lki ht
  have hpc' : t.1 = pc := by
    rw [ht] at hpc
    exact Option.some.inj hpc
  obtain ⟨u2, hu2⟩ := ab_end_of (ab_ends _ (ab_mt_mem i)) ht (by rw [he]; exact fun z => nomatch z) (by rw [he]; exact fun z => nomatch z) (by rw [he]; exact fun z => nomatch z) (by rw [he]; exact fun _ z => nomatch z)
  have hup2 := (ab_gdi i).2 n t u2 ht hu2
  have hcx' := hcx
  obtain ⟨hx, hb, hml, hrt, hlks, hex, hown, hW0, hold, hfr, hlo⟩ := hcx
  obtain ⟨pc0, ins, len, x1, x2⟩ := t
  dsimp only at hpc' hd hc1 hlk he HA HB hup2
  subst hpc'
  subst he
  obtain ⟨u, hu, hup⟩ := ab_tgt (by simpa only [ab_c1] using hc1)
  have hl : len = 3 := by simpa [ab_lk, ab_il] using hlk
  subst hl
  have ry : ab_rg y := rgs_h hrs
  have rx : ab_rg x := rgs_h (rgs_t hrs)
  have rs := rgs_t (rgs_t hrs)
  have kA : ∀ z : ab_cmp cd x y, W p l e R s m args below meth c Hp locs cells slots (vx_MQ below (ab_Qc s0 ad dC dI cA N xs o h') (ab_XC s0 ad dC dI cA N xs o h') args s (cells + ab_k h h') (slots + 6 * ab_k h h') (fun q => s0.heap.size ≤ q)) (F0 m u.1 lsA (st.map (ab_tv ad))) := fun z => (HA z).2 p e R s m args below meth c Hp locs cells slots lsA u.1 hcx' hcell hslot (by rw [hu]; rfl) hro hP hS hls hrl rs
  have kB : ∀ z : ¬ ab_cmp cd x y, W p l e R s m args below meth c Hp locs cells slots (vx_MQ below (ab_Qc s0 ad dC dI cA N xs o h') (ab_XC s0 ad dC dI cA N xs o h') args s (cells + ab_k h h') (slots + 6 * ab_k h h') (fun q => s0.heap.size ≤ q)) (F0 m (pc0 + 3) lsA (st.map (ab_tv ad))) := fun z => (HB z).2 p e R s m args below meth c Hp locs cells slots lsA (pc0 + 3) hcx' hcell hslot (by rw [hu2]; exact congrArg some hup2) hro hP hS hls hrl rs
  cases cd
  case eq => exact lv_icmp_eq hx hb hd hup.symm (fun z => kA ((i3_eq rx ry).mp z)) (fun z => kB (fun w => z ((i3_eq rx ry).mpr w)))
  case ne => exact lv_icmp_ne hx hb hd hup.symm (fun z => kA (fun w => z ((i3_eq rx ry).mpr w))) (fun z => kB (fun w => w ((i3_eq rx ry).mp z)))
  case lt => exact lv_icmp_lt hx hb hd hup.symm (fun z => kA ((i3_lt rx ry).mp z)) (fun z => kB (fun w => z ((i3_lt rx ry).mpr w)))
  case ge => exact lv_icmp_ge hx hb hd hup.symm (fun z => kA ((i3_le ry rx).mp z)) (fun z => kB (fun w => z ((i3_le ry rx).mpr w)))
  case gt => exact lv_icmp_gt hx hb hd hup.symm (fun z => kA ((i3_lt ry rx).mp z)) (fun z => kB (fun w => z ((i3_lt ry rx).mpr w)))
  case le => exact lv_icmp_le hx hb hd hup.symm (fun z => kA ((i3_le rx ry).mp z)) (fun z => kB (fun w => z ((i3_le rx ry).mpr w)))
def ab_swk (L : List ab_I) (t : ab_I) : Bool := match t.2.1 with
  | .tableswitch _ lo hi offs => decide ((offs.toList.length : Int) = hi - lo + 1) && offs.toList.all (fun off => L.any (fun q => decide ((q.1 : Int) = (t.1 : Int) + off)))
  | _ => true
set_option maxRecDepth 100000 in
theorem ab_swks : ∀ m ∈ ab_Ms, (m.2.2.2.2.2.2.2.all (ab_swk m.2.2.2.2.2.2.2)) = true := by decide +kernel
theorem so_sw (i n : Nat) (t : ab_I) (d lo hi : Int) (offs : Array Int) (x : Int) (ls st : List ab_V) (h : ab_S) (o : ab_O) (h' : ab_S) (ht : (ab_L i)[n]? = some t) (he : t.2.1 = .tableswitch d lo hi offs) (HM : ab_MM l s0 ad dC dI cA N xs i (ab_swt (ab_L i) t lo hi offs x) ls st h o h') : ab_MM l s0 ad dC dI cA N xs i n ls (vI x :: st) h o h' := by
  refine ⟨HM.1, ?_⟩
  intro p e R s m args below meth c Hp locs cells slots lsA pc hcx hcell hslot hpc hro hP hS hls hrl hrs
  obtain ⟨hd, hc1⟩ := (ab_gdi i).1 n t ht
  have hlk := ab_lki ht
  have hpc' : t.1 = pc := by
    rw [ht] at hpc
    exact Option.some.inj hpc
  have hcx' := hcx
  have hsk : ab_swk (ab_L i) t = true := List.all_eq_true.mp (ab_swks _ (ab_mt_mem i)) t (List.mem_of_getElem? ht)
  have rx : ab_rg x := rgs_h hrs
  obtain ⟨hx, hb, hml, hrt, hlks, hex, hown, hW0, hold, hfr, hlo⟩ := hcx
  obtain ⟨pc0, ins, len, x1, x2⟩ := t
  dsimp only at hpc' hd hc1 hlk he HM hsk
  subst hpc'
  subst he
  by_cases z : x < lo ∨ hi < x
  · obtain ⟨u, hu, hup⟩ := ab_tgt (by simpa only [ab_c1] using hc1)
    unfold ab_swt at HM
    rw [if_pos z] at HM
    exact lv_tableOut hx hb hd (by rw [i3_toInt rx]; exact z) hup.symm (HM.2 p e R s m args below meth c Hp locs cells slots lsA u.1 hcx' hcell hslot (by rw [hu]; rfl) hro hP hS hls hrl (rgs_t hrs))
  · unfold ab_swt at HM
    rw [if_neg z] at HM
    simp only [ab_swk, Bool.and_eq_true, decide_eq_true_eq] at hsk
    have hlt : (x - lo).toNat < offs.toList.length := by omega
    have hoff : offs.toList.getD (x - lo).toNat 0 = offs.toList[(x - lo).toNat] := by
      rw [List.getD_eq_getElem?_getD, List.getElem?_eq_getElem hlt]
      rfl
    have ha := List.all_eq_true.mp hsk.2 _ (List.getElem_mem hlt)
    obtain ⟨q, hq, hqd⟩ := List.any_eq_true.mp ha
    have hfl : (ab_L i).findIdx (fun q => decide ((q.1 : Int) = (pc0 : Int) + offs.toList.getD (x - lo).toNat 0)) < (ab_L i).length := List.findIdx_lt_length_of_exists ⟨q, hq, by rw [hoff]; exact hqd⟩
    have hfg := List.findIdx_getElem (w := hfl)
    rw [decide_eq_true_eq] at hfg
    refine lv_tableIn (off := offs.toList.getD (x - lo).toNat 0) hx hb hd (by rw [i3_toInt rx]; omega) (by rw [i3_toInt rx]; omega) ?_ hfg.symm (HM.2 p e R s m args below meth c Hp locs cells slots lsA _ hcx' hcell hslot (by rw [List.getElem?_eq_getElem hfl]; rfl) hro hP hS hls hrl (rgs_t hrs))
    rw [i3_toInt rx, hoff, ← Array.getElem?_toList, List.getElem?_eq_getElem hlt]
theorem ab_k0 (h : ab_S) : ab_k h h = 0 := by
  unfold ab_k
  omega
theorem so_iret (i n : Nat) (t : ab_I) (x : Int) (ls : List ab_V) (h : ab_S) (ht : (ab_L i)[n]? = some t) (he : t.2.1 = .ireturn) (hrt0 : ab_rt i = some .int ∨ (ab_rt i = some .boolean ∧ (x = 0 ∨ x = 1))) : ab_MM l s0 ad dC dI cA N xs i n ls [vI x] h (oI x) h := by
  refine ⟨Int.le_refl _, ?_⟩
  intro p e R s m args below meth c Hp locs cells slots lsA pc hcx hcell hslot hpc hro hP hS hls hrl hrs
  obtain ⟨hd, hc1⟩ := (ab_gdi i).1 n t ht
  have hlk := ab_lki ht
  have hpc' : t.1 = pc := by
    rw [ht] at hpc
    exact Option.some.inj hpc
  obtain ⟨hx, hb, hml, hrt, hlks, hex, hown, hW0, hold, hfr, hlo⟩ := hcx
  obtain ⟨pc0, ins, len, x1, x2⟩ := t
  dsimp only at hpc' hd hc1 hlk he
  subst hpc'
  subst he
  have hl : len = 1 := by simpa [ab_lk, ab_il] using hlk
  subst hl
  rw [ab_k0, Nat.mul_zero, Nat.add_zero, Nat.add_zero]
  have hq : ∀ t : State, t.heap = Hp → s.WarmedH t.vm → ab_Qc s0 ad dC dI cA N xs (oI x) h args s (.returned (some (.int (Int32.ofInt x)))) t := fun t ht hW => ⟨some (vI x), rfl, rfl, by rw [ht]; exact hP, hro, rgs_c (rgs_h hrs) (fun _ z => nomatch z), rfl, hS.F ht⟩
  rcases hrt0 with hr | ⟨hr, h01⟩
  · exact vx_ret (W.iret hx hb (hrt.trans hr) hq hS.2.2 hd hlks)
  · exact vx_ret (W.zret hx hb (hrt.trans hr) (by rcases h01 with rfl | rfl <;> rfl) hq hS.2.2 hd hlks)
theorem so_ret (i n : Nat) (t : ab_I) (ls : List ab_V) (h : ab_S) (ht : (ab_L i)[n]? = some t) (he : t.2.1 = .return_) (hrt0 : ab_rt i = none) : ab_MM l s0 ad dC dI cA N xs i n ls [] h oV h := by
  refine ⟨Int.le_refl _, ?_⟩
  intro p e R s m args below meth c Hp locs cells slots lsA pc hcx hcell hslot hpc hro hP hS hls hrl hrs
  obtain ⟨hd, hc1⟩ := (ab_gdi i).1 n t ht
  have hlk := ab_lki ht
  have hpc' : t.1 = pc := by
    rw [ht] at hpc
    exact Option.some.inj hpc
  obtain ⟨hx, hb, hml, hrt, hlks, hex, hown, hW0, hold, hfr, hlo⟩ := hcx
  obtain ⟨pc0, ins, len, x1, x2⟩ := t
  dsimp only at hpc' hd hc1 hlk he
  subst hpc'
  subst he
  have hl : len = 1 := by simpa [ab_lk, ab_il] using hlk
  subst hl
  rw [ab_k0, Nat.mul_zero, Nat.add_zero, Nat.add_zero]
  exact vx_ret (W.vret hx hb (hrt.trans hrt0) (fun t ht hW => ⟨none, rfl, rfl, by rw [ht]; exact hP, hro, (fun _ z => nomatch z), rfl, hS.F ht⟩) hS.2.2 hd hlks)
end So3
