/-! System.arraycopy between two arrays of ints of the world: the relation is closed. -/
section Cp9
variable {l : Launch} {s0 : State} {a0 : Array Value} {ad : Nat → Nat} {dC : Nat → ClassId} {dI : Nat → Nat → Nat} {cA : Nat → ClassId} {N : Nat} {xs : Nat → Int32}
def ab_cpk (m : ab_Mt) (t : ab_I) : Bool := match t.2.1 with
  | .invokestatic k => !(t.2.2.2.1 == 9999) || (m.1 == 0 && k == 38 && decide (2 ≤ m.2.2.2.2.2.1) && decide (60 ≤ m.2.2.2.2.2.2.1))
  | _ => true
set_option maxRecDepth 100000 in
theorem ab_cpks : ∀ m ∈ ab_Ms, (m.2.2.2.2.2.2.2.all (ab_cpk m)) = true := by decide +kernel
theorem cp_w : (Cond.methodLink (ab_cs 0) 38 arraycopyName ∈ lw_tbl ∧ Cond.native arraycopyName ∈ lw_tbl) ∧ Cond.static arraycopyName ∈ lw_tbl ∧ Cond.initialized "java/lang/System" ∈ lw_tbl := by decide +kernel
theorem cp_n : nativeFrameWords "java/lang/System" "arraycopy" 5 + 11 + 3 ≤ 60 := by decide +kernel
theorem ab_cp_fun {h : ab_S} {k d : Nat} {p q m : Int} : ab_cp h k p d q m = fun k' => if k' = d then (fun i' => if q ≤ i' ∧ i' < q + m then h k (p + (i' - q)) else h d i') else h k' := by
  funext k' i'
  unfold ab_cp
  by_cases e : k' = d
  · subst e
    simp
  · simp [e]
theorem so_cp (hE : ab_E l s0 a0 ad dC dI cA N xs) (i n : Nat) (t : ab_I) (k : Nat) (w q : Int) (d : Nat) (pp : Int) (sc : Nat) (rest ls : List ab_V) (h : ab_S) (o : ab_O) (h' : ab_S) (ht : (ab_L i)[n]? = some t) (he : t.2.1 = .invokestatic k) (hj : t.2.2.2.1 = 9999) (hts : ab_ty sc = 0) (htd : ab_ty d = 0) (hs38 : sc < 38) (hd38 : d < 38) (hne : ¬ sc = d)
    (hbd : 0 ≤ pp ∧ 0 ≤ q ∧ 0 ≤ w ∧ pp + w ≤ ab_ln h sc ∧ q + w ≤ ab_ln h d) (hnl : ab_nl rest = true) (hr3 : rest.length ≤ 3) (HM : ab_MM l s0 ad dC dI cA N xs i (n + 1) ls rest (ab_cp h sc pp d q w) o h') :
    ab_MM l s0 ad dC dI cA N xs i n ls (vI w :: vI q :: vR d :: vI pp :: vR sc :: rest) h o h' := by
  have e9 : ab_cp h sc pp d q w 39 0 = h 39 0 := by
    unfold ab_cp
    rw [if_neg (by omega)]
  have ek : ab_k (ab_cp h sc pp d q w) h' = ab_k h h' := by unfold ab_k; rw [e9]
  refine ⟨by rw [← e9]; exact HM.1, ?_⟩
  intro p e R s m args below meth c Hp locs cells slots lsA pc hcx hcell hslot hpc hro hP hS hls hrl hrs
  obtain ⟨hdc, hc1⟩ := (ab_gdi i).1 n t ht
  have hlk := ab_lki ht
  have hcpk : ab_cpk (ab_mt i) t = true := List.all_eq_true.mp (ab_cpks _ (ab_mt_mem i)) t (List.mem_of_getElem? ht)
  have hpc' : t.1 = pc := by
    rw [ht] at hpc
    exact Option.some.inj hpc
  obtain ⟨u, hu⟩ := ab_end_of (ab_ends _ (ab_mt_mem i)) ht (by rw [he]; exact fun z => nomatch z) (by rw [he]; exact fun z => nomatch z) (by rw [he]; exact fun z => nomatch z) (by rw [he]; exact fun _ z => nomatch z)
  have hup := (ab_gdi i).2 n t u ht hu
  have hcx' := hcx
  obtain ⟨hx, hb, hml, hrt, hlks, hex, hown, hW0, hold, hfr, hlo⟩ := hcx
  obtain ⟨pc0, ins, len, x1, x2⟩ := t
  dsimp only at hpc' hdc hlk he hj hup
  subst hpc'
  subst he
  subst hj
  have hl : len = 3 := by simpa [ab_lk, ab_il] using hlk
  subst hl
  simp only [ab_cpk, beq_self_eq_true, Bool.not_true, Bool.false_or, Bool.and_eq_true, beq_iff_eq, decide_eq_true_eq] at hcpk
  obtain ⟨⟨⟨h0, rfl⟩, hf2⟩, hl60⟩ := hcpk
  have hf2 : 2 ≤ ab_fr i := hf2
  have hl60 : 60 ≤ ab_lo i := hl60
  have hown' : s.vm.findClass (ab_cs 0) = some m.cls := by
    rw [← show ab_own i = 0 from h0]
    exact hown
  have e1 : ¬ sc = 38 := by omega
  have e2 : ¬ d = 38 := by omega
  rw [ab_ty_ne e1] at hts
  rw [ab_ty_ne e2] at htd
  rw [ab_ln_ne e1, ab_ln_ne e2] at hbd
  have ha := ab_wl_get (ad := ad) (cA := cA) (h := h) hs38
  have hb2 := ab_wl_get (ad := ad) (cA := cA) (h := h) hd38
  rw [ab_ce_arr hts] at ha
  rw [ab_ce_arr htd] at hb2
  have hK : va_K (dC, dI) ab_cls [(cA 0, .int), (cA 1, .boolean), (cA 2, .long)] s := va_K.moved hW0.alike hE.2.2.2.1
  have rw' : ab_rg w := rgs_h hrs
  have rq : ab_rg q := rgs_h (rgs_t hrs)
  have rp : ab_rg pp := rgs_h (rgs_t (rgs_t (rgs_t hrs)))
  have r0 : ab_rg 0 := ⟨by decide, by decide⟩
  have hcn := cp_n
  refine va_copyi hx hb (by rw [hml]; exact hls.1.symm) hown' (hE.word cp_w.1.1 rfl hW0 args) (hE.word cp_w.1.2 rfl hW0 args) (hE.word cp_w.2.1 rfl hW0 args) (hE.word cp_w.2.2 rfl hW0 args) hK hP (hE.apart h) hS sc d 0 0 ha hb2 rfl rfl rfl
    (fun z => by have := (i3_lt rp r0).mp z; omega) (fun z => by have := (i3_lt rq r0).mp z; omega) (fun z => by have := (i3_lt rw' r0).mp z; omega) (by rw [i3_clamp rp, i3_clamp rw']; omega) (by rw [i3_clamp rq, i3_clamp rw']; omega) (fun _ _ => rfl) (by omega) (by rw [nl_sum rest hnl]; omega) hdc (fun H1 locs1 p1 d1 s1 => ?_)
  have hcpy : va_cpy (fun j : Nat => Int32.ofInt (h sc (j : Int))) (fun j : Nat => Int32.ofInt (h d (j : Int))) (Int32.ofInt pp).toNatClampNeg (Int32.ofInt q).toNatClampNeg (Int32.ofInt w).toNatClampNeg = fun j : Nat => Int32.ofInt ((fun i' => if q ≤ i' ∧ i' < q + w then h sc (pp + (i' - q)) else h d i') (j : Int)) := by
    funext j
    rw [i3_clamp rp, i3_clamp rq, i3_clamp rw']
    unfold va_cpy
    dsimp only
    by_cases z : q.toNat ≤ j ∧ j < q.toNat + w.toNat
    · rw [if_pos z, if_pos (by omega)]
      congr 2
      omega
    · rw [if_neg z, if_neg (by omega)]
  rw [hcpy, ab_wl_set hd38 (fun i' => if q ≤ i' ∧ i' < q + w then h sc (pp + (i' - q)) else h d i') (ab_ce_arr htd).symm, ← ab_cp_fun] at p1
  have hro1 : ab_ro N xs (ab_cp h sc pp d q w) := by
    refine ⟨fun k' j hk' => ?_, ?_, fun j hj => ?_⟩
    · unfold ab_cp
      split
      · split
        · exact hro.1 sc _ (by omega)
        · exact hro.1 k' j hk'
      · exact hro.1 k' j hk'
    · unfold ab_cp
      rw [if_neg (by omega)]
      exact hro.2.1
    · unfold ab_cp
      rw [if_neg (by omega)]
      exact hro.2.2 j hj
  have := HM.2 p e R s m args below meth c H1 locs1 cells slots lsA (pc0 + 3) hcx' (by rw [ek]; exact hcell) (by rw [ek]; exact hslot) (by rw [hu]; exact congrArg some hup) hro1 p1 s1 hls hrl (rgs_t (rgs_t (rgs_t (rgs_t (rgs_t hrs)))))
  rw [ek] at this
  exact this
end Cp9
