/-! Straight instructions: the relation is closed. -/
section So2
variable {l : Launch} {s0 : State} {a0 : Array Value} {ad : Nat → Nat} {dC : Nat → ClassId} {dI : Nat → Nat → Nat} {cA : Nat → ClassId} {N : Nat} {xs : Nat → Int32}
theorem w_cong {p : Program} {l : Launch} {e : Env} {R : Room} {s : State} {m : MethodId} {args : Array Value} {below : List Frame} {meth : Method} {c : Code} {H : Heap} {locs : List Loc} {cells slots : Nat} {Q : State → Prop} {pc : Nat} {A : Array Slot} {st st' : List Value} (e1 : st = st') (k : W p l e R s m args below meth c H locs cells slots Q (F0 m pc A st')) : W p l e R s m args below meth c H locs cells slots Q (F0 m pc A st) := by
  rw [e1]
  exact k
set_option maxHeartbeats 4000000 in
theorem so_1 (hE : ab_E l s0 a0 ad dC dI cA N xs) (i n : Nat) (t : ab_I) (ls st : List ab_V) (h : ab_S) (o : ab_O) (h' : ab_S) (ht : (ab_L i)[n]? = some t)
    (Hw : ab_w1 t ls st h (fun ls1 st1 h1 => ab_MM l s0 ad dC dI cA N xs i (n + 1) ls1 st1 h1 o h')) : ab_MM l s0 ad dC dI cA N xs i n ls st h o h' := by
  have hmono : h 39 0 ≤ h' 39 0 := by
    obtain ⟨ls1, st1, h1, hM, e9⟩ := ab_w1_39 Hw
    rw [← e9]
    exact hM.1
  refine ⟨hmono, ?_⟩
  intro p e R s m args below meth c Hp locs cells slots lsA pc hcx hcell hslot hpc hro hP hS hls hrl hrs
  obtain ⟨u, hu, hup⟩ := ab_next ht Hw
  obtain ⟨hd, hc1⟩ := (ab_gdi i).1 n t ht
  have hlk := ab_lki ht
  have hpc' : t.1 = pc := by
    rw [ht] at hpc
    exact Option.some.inj hpc
  have go : ∀ (ls1 st1 : List ab_V) (h1 : ab_S) (H1 : Heap) (locs1 : List Loc) (A1 : Array Slot), ab_MM l s0 ad dC dI cA N xs i (n + 1) ls1 st1 h1 o h' → h1 39 0 = h 39 0 → ab_ro N xs h1 → va_P (dC, dI) ab_cls (ab_wl ad cA h1) H1 → va_S (fun q => s0.heap.size ≤ q) s.heap H1 locs1 → ab_lsr ad (ab_ml i) ls1 A1 → ab_rgs ls1 → ab_rgs st1 →
      W p l e R s m args below meth c H1 locs1 cells slots (vx_MQ below (ab_Qc s0 ad dC dI cA N xs o h') (ab_XC s0 ad dC dI cA N xs o h') args s (cells + ab_k h h') (slots + 6 * ab_k h h') (fun q => s0.heap.size ≤ q)) (F0 m (pc + t.2.2.1) A1 (st1.map (ab_tv ad))) := by
    intro ls1 st1 h1 H1 locs1 A1 hM e9 b1 b2 b3 b4 b5 b6
    have ek : ab_k h1 h' = ab_k h h' := by unfold ab_k; rw [e9]
    have := hM.2 p e R s m args below meth c H1 locs1 cells slots A1 (pc + t.2.2.1) hcx (by rw [ek]; exact hcell) (by rw [ek]; exact hslot) (by rw [hu, ← hpc', ← hup]; rfl) b1 b2 b3 b4 b5 b6
    rw [ek] at this
    exact this
  obtain ⟨hx, hb, hml, hrt, hlks, hex, hown, hW0, hold, hfr, hlo⟩ := hcx
  have hD := hE.apart h
  have hK : va_K (dC, dI) ab_cls [(cA 0, .int), (cA 1, .boolean), (cA 2, .long)] s := va_K.moved hW0.alike hE.2.2.2.1
  have hXs : va_X (ad 38) N xs s s.heap := by
    obtain ⟨scr, q1, q2, q3, q4, q5⟩ := hE.2.2.2.2.2.1
    exact ⟨scr, by rw [hold.2 _ hE.2.2.2.2.1]; exact q1, State.isArrayOf_alike hW0.alike q2, q3, q4, q5⟩
  have hb38 : ad 38 < s.heap.size := Nat.lt_of_lt_of_le hE.2.2.2.2.1 hold.1
  have hA38 : ¬ (s0.heap.size ≤ ad 38) := Nat.not_le.mpr hE.2.2.2.2.1
  have e38 : ab_ln h 38 = (N : Int) := hro.2.1
  obtain ⟨pc0, ins, len, x1, x2⟩ := t
  dsimp only at hpc' hd hc1 go hlk
  subst hpc'
  cases ins
  case iconst n =>
    have hl : len = 1 := by simpa [ab_lk, ab_il] using hlk
    subst hl
    have hn : ab_rg n := by
      simp only [ab_c1, Bool.and_eq_true, decide_eq_true_eq] at hc1
      exact ⟨by omega, by omega⟩
    exact lv_iconst hx hb hd rfl (go _ _ _ _ _ _ Hw rfl hro hP hS hls hrl (rgs_c hn hrs))
  case bipush n =>
    have hl : len = 2 := by simpa [ab_lk, ab_il] using hlk
    subst hl
    have hn : -128 ≤ n ∧ n ≤ 127 := by
      simpa [ab_c1] using hc1
    refine lv_bipush hx hb hd ?_ (go _ _ _ _ _ _ Hw rfl hro hP hS hls hrl (rgs_c (show ab_rg n from ⟨by omega, by omega⟩) hrs))
    apply Int32.toInt_inj.mp
    rw [i3_toInt ⟨by omega, by omega⟩, Int8.toInt_toInt32, Int8.toInt_ofInt_of_le (by omega) (by omega)]
  case sipush n =>
    have hl : len = 3 := by simpa [ab_lk, ab_il] using hlk
    subst hl
    have hn : -32768 ≤ n ∧ n ≤ 32767 := by
      simpa [ab_c1] using hc1
    refine lv_sipush hx hb hd ?_ (go _ _ _ _ _ _ Hw rfl hro hP hS hls hrl (rgs_c (show ab_rg n from ⟨by omega, by omega⟩) hrs))
    apply Int32.toInt_inj.mp
    rw [i3_toInt ⟨by omega, by omega⟩, Int16.toInt_toInt32, Int16.toInt_ofInt_of_le (by omega) (by omega)]
  case lconst n =>
    have hl : len = 1 := by simpa [ab_lk, ab_il] using hlk
    subst hl
    exact lv_lconst hx hb hd rfl (go _ _ _ _ _ _ Hw rfl hro hP hS hls hrl (rgs_c (show ab_rg (((n.val : Nat) : Int)) from ⟨by omega, by omega⟩) hrs))
  case iload_n k =>
    have hl : len = 1 := by simpa [ab_lk, ab_il] using hlk
    subst hl
    obtain ⟨x, ex, HM⟩ := ab_gI_of Hw
    have hv := rgs_nth hrl k.val
    rw [ex] at hv
    exact lv_iload_n hx hb hd rfl (hls.2.2.2 _ _ (nth_get ex (fun _ e => nomatch e)) (fun _ e => nomatch e)) (go _ _ _ _ _ _ HM rfl hro hP hS hls hrl (rgs_c hv hrs))
  case iload k =>
    have hl : len = 2 := by simpa [ab_lk, ab_il] using hlk
    subst hl
    obtain ⟨x, ex, HM⟩ := ab_gI_of Hw
    have hv := rgs_nth hrl k
    rw [ex] at hv
    exact lv_iload hx hb hd (hls.2.2.2 _ _ (nth_get ex (fun _ e => nomatch e)) (fun _ e => nomatch e)) (go _ _ _ _ _ _ HM rfl hro hP hS hls hrl (rgs_c hv hrs))
  case aload_n k =>
    have hl : len = 1 := by simpa [ab_lk, ab_il] using hlk
    subst hl
    obtain ⟨x, ex, HM⟩ := ab_gR_of Hw
    have hv := rgs_nth hrl k.val
    rw [ex] at hv
    exact lv_aload_n hx hb hd rfl (hls.2.2.2 _ _ (nth_get ex (fun _ e => by cases e)) (fun _ e => by cases e)) (go _ _ _ _ _ _ HM rfl hro hP hS hls hrl (rgs_c hv hrs))
  case aload k =>
    have hl : len = 2 := by simpa [ab_lk, ab_il] using hlk
    subst hl
    obtain ⟨x, ex, HM⟩ := ab_gR_of Hw
    have hv := rgs_nth hrl k
    rw [ex] at hv
    exact lv_aload hx hb hd (hls.2.2.2 _ _ (nth_get ex (fun _ e => by cases e)) (fun _ e => by cases e)) (go _ _ _ _ _ _ HM rfl hro hP hS hls hrl (rgs_c hv hrs))
  case istore_n k =>
    have hl : len = 1 := by simpa [ab_lk, ab_il] using hlk
    subst hl
    obtain ⟨x, t, rfl, HM⟩ := ab_pI_of Hw
    have hk : k.val < ab_ml i := by simpa [ab_c1] using hc1
    exact lv_istore_n hx hb hd rfl hls.has hk rfl (fun A' hA' => go _ _ _ _ _ _ HM rfl hro hP hS (hls.store hA') (rgs_st hrl _ (rgs_h hrs)) (rgs_t hrs))
  case istore k =>
    have hl : len = 2 := by simpa [ab_lk, ab_il] using hlk
    subst hl
    obtain ⟨x, t, rfl, HM⟩ := ab_pI_of Hw
    have hk : k < ab_ml i := by simpa [ab_c1] using hc1
    exact lv_istore hx hb hd hls.has hk rfl (fun A' hA' => go _ _ _ _ _ _ HM rfl hro hP hS (hls.store hA') (rgs_st hrl _ (rgs_h hrs)) (rgs_t hrs))
  case iinc k z =>
    have hl : len = 3 := by simpa [ab_lk, ab_il] using hlk
    subst hl
    obtain ⟨x, ex, hz, HM⟩ := ab_gI_of Hw
    have hk : k < ab_ml i := by
      simp only [ab_c1, Bool.and_eq_true, decide_eq_true_eq] at hc1
      exact hc1.1.1
    have hm := lv_memr (ad := ad) ls 0 k _ (nth_get ex (fun _ e => nomatch e)) (fun _ e => nomatch e)
    rw [Nat.zero_add] at hm
    obtain ⟨j, hj⟩ := List.getElem?_of_mem hm
    exact lv_iinc hx hb hd hls.has hj (Int32.ofInt_add x z).symm hk rfl (fun A' hA' => go _ _ _ _ _ _ HM rfl hro hP hS (hls.store hA') (rgs_st hrl _ hz) hrs)
  case iadd =>
    have hl : len = 1 := by simpa [ab_lk, ab_il] using hlk
    subst hl
    obtain ⟨x, y, t, rfl, hz, HM⟩ := ab_p2_of Hw
    refine lv_iadd hx hb hd ?_
    rw [← Int32.ofInt_add]
    exact go _ _ _ _ _ _ HM rfl hro hP hS hls hrl (rgs_c hz (rgs_t (rgs_t hrs)))
  case isub =>
    have hl : len = 1 := by simpa [ab_lk, ab_il] using hlk
    subst hl
    obtain ⟨x, y, t, rfl, hz, HM⟩ := ab_p2_of Hw
    refine lv_isub hx hb hd ?_
    rw [← Int32.ofInt_sub]
    exact go _ _ _ _ _ _ HM rfl hro hP hS hls hrl (rgs_c hz (rgs_t (rgs_t hrs)))
  case imul =>
    have hl : len = 1 := by simpa [ab_lk, ab_il] using hlk
    subst hl
    obtain ⟨x, y, t, rfl, hz, HM⟩ := ab_p2_of Hw
    refine lv_imul hx hb hd ?_
    rw [← Int32.ofInt_mul]
    exact go _ _ _ _ _ _ HM rfl hro hP hS hls hrl (rgs_c hz (rgs_t (rgs_t hrs)))
  case idiv =>
    have hl : len = 1 := by simpa [ab_lk, ab_il] using hlk
    subst hl
    obtain ⟨x, y, t, rfl, hz, HM⟩ := ab_p2_of Hw
    have ry : ab_rg y := rgs_h hrs
    have rx : ab_rg x := rgs_h (rgs_t hrs)
    refine lv_idiv hx hb hd (fun q => ?_) ?_
    · have := (i3_eq ry (show ab_rg 0 from ⟨by decide, by decide⟩)).mp q
      omega
    · rw [i3_div rx ry hz.1 hz.2]
      exact go _ _ _ _ _ _ HM rfl hro hP hS hls hrl (rgs_c (rg_div rx hz.1 hz.2) (rgs_t (rgs_t hrs)))
  case irem =>
    have hl : len = 1 := by simpa [ab_lk, ab_il] using hlk
    subst hl
    obtain ⟨x, y, t, rfl, hz, HM⟩ := ab_p2_of Hw
    have ry : ab_rg y := rgs_h hrs
    have rx : ab_rg x := rgs_h (rgs_t hrs)
    refine lv_irem hx hb hd (fun q => ?_) ?_
    · have := (i3_eq ry (show ab_rg 0 from ⟨by decide, by decide⟩)).mp q
      omega
    · rw [i3_mod rx ry hz.1 hz.2]
      exact go _ _ _ _ _ _ HM rfl hro hP hS hls hrl (rgs_c (rg_mod ry hz.2) (rgs_t (rgs_t hrs)))
  case iand =>
    have hl : len = 1 := by simpa [ab_lk, ab_il] using hlk
    subst hl
    obtain ⟨x, y, t, rfl, HM⟩ := ab_p2_of Hw
    exact lv_iand hx hb hd (w_cong (by show _ = Value.int (Int32.ofInt (b_and x y)) :: _; unfold b_and; rw [i3_of]) (go _ _ _ _ _ _ HM rfl hro hP hS hls hrl (rgs_c (i3_rg _) (rgs_t (rgs_t hrs)))))
  case ior =>
    have hl : len = 1 := by simpa [ab_lk, ab_il] using hlk
    subst hl
    obtain ⟨x, y, t, rfl, HM⟩ := ab_p2_of Hw
    exact lv_ior hx hb hd (w_cong (by show _ = Value.int (Int32.ofInt (b_or x y)) :: _; unfold b_or; rw [i3_of]) (go _ _ _ _ _ _ HM rfl hro hP hS hls hrl (rgs_c (i3_rg _) (rgs_t (rgs_t hrs)))))
  case ixor =>
    have hl : len = 1 := by simpa [ab_lk, ab_il] using hlk
    subst hl
    obtain ⟨x, y, t, rfl, HM⟩ := ab_p2_of Hw
    exact lv_ixor hx hb hd (w_cong (by show _ = Value.int (Int32.ofInt (b_xor x y)) :: _; unfold b_xor; rw [i3_of]) (go _ _ _ _ _ _ HM rfl hro hP hS hls hrl (rgs_c (i3_rg _) (rgs_t (rgs_t hrs)))))
  case ishl =>
    have hl : len = 1 := by simpa [ab_lk, ab_il] using hlk
    subst hl
    obtain ⟨x, y, t, rfl, HM⟩ := ab_p2_of Hw
    exact lv_ishl hx hb hd (w_cong (by show _ = Value.int (Int32.ofInt (b_shl x y)) :: _; unfold b_shl; rw [i3_of]) (go _ _ _ _ _ _ HM rfl hro hP hS hls hrl (rgs_c (i3_rg _) (rgs_t (rgs_t hrs)))))
  case ishr =>
    have hl : len = 1 := by simpa [ab_lk, ab_il] using hlk
    subst hl
    obtain ⟨x, y, t, rfl, HM⟩ := ab_p2_of Hw
    exact lv_ishr hx hb hd (w_cong (by show _ = Value.int (Int32.ofInt (b_shr x y)) :: _; unfold b_shr; rw [i3_of]) (go _ _ _ _ _ _ HM rfl hro hP hS hls hrl (rgs_c (i3_rg _) (rgs_t (rgs_t hrs)))))
  case iushr =>
    have hl : len = 1 := by simpa [ab_lk, ab_il] using hlk
    subst hl
    obtain ⟨x, y, t, rfl, HM⟩ := ab_p2_of Hw
    exact lv_iushr hx hb hd rfl (w_cong (by show _ = Value.int (Int32.ofInt (b_ushr x y)) :: _; unfold b_ushr; rw [i3_of]) (go _ _ _ _ _ _ HM rfl hro hP hS hls hrl (rgs_c (i3_rg _) (rgs_t (rgs_t hrs)))))
  case i2l =>
    have hl : len = 1 := by simpa [ab_lk, ab_il] using hlk
    subst hl
    obtain ⟨x, t, rfl, HM⟩ := ab_pI_of Hw
    have rx : ab_rg x := rgs_h hrs
    exact lv_i2l hx hb hd (i6_i2l rx) (go _ _ _ _ _ _ HM rfl hro hP hS hls hrl (rgs_c rx (rgs_t hrs)))
  case lcmp =>
    have hl : len = 1 := by simpa [ab_lk, ab_il] using hlk
    subst hl
    obtain ⟨y, t, rfl, HM⟩ := ab_pJ_of Hw
    obtain ⟨x, t, rfl, HM⟩ := ab_pJ_of HM
    have ry : ab_rg y := rgs_h hrs
    have rx : ab_rg x := rgs_h (rgs_t hrs)
    refine W.lcmp hx hb hd ?_
    rw [i6_cmp rx ry]
    exact go _ _ _ _ _ _ HM rfl hro hP hS hls hrl (rgs_c (rg_lc x y) (rgs_t (rgs_t hrs)))
  case dup =>
    have hl : len = 1 := by simpa [ab_lk, ab_il] using hlk
    subst hl
    obtain ⟨v, t, rfl, hv, HM⟩ := ab_p1_of (f := fun v t => ab_MM l s0 ad dC dI cA N xs i (n + 1) ls (v :: v :: t) h o h') Hw
    exact lv_dup hx hb hd (tv_cat hv) (go _ _ _ _ _ _ HM rfl hro hP hS hls hrl (rgs_c (rgs_h hrs) hrs))
  case dup2 =>
    have hl : len = 1 := by simpa [ab_lk, ab_il] using hlk
    subst hl
    obtain ⟨v, t, rfl, hv, HM⟩ := ab_p1_of (f := fun v t => ab_p1 t fun w t => ab_MM l s0 ad dC dI cA N xs i (n + 1) ls (v :: w :: v :: w :: t) h o h') Hw
    obtain ⟨w, t, rfl, hw, HM⟩ := ab_p1_of (f := fun w t => ab_MM l s0 ad dC dI cA N xs i (n + 1) ls (v :: w :: v :: w :: t) h o h') HM
    exact lv_dup2_11 hx hb hd (tv_cat hv) (tv_cat hw) (go _ _ _ _ _ _ HM rfl hro hP hS hls hrl (rgs_c (rgs_h hrs) (rgs_c (rgs_h (rgs_t hrs)) hrs)))
  case pop =>
    have hl : len = 1 := by simpa [ab_lk, ab_il] using hlk
    subst hl
    obtain ⟨v, t, rfl, hv, HM⟩ := ab_p1_of (f := fun _ t => ab_MM l s0 ad dC dI cA N xs i (n + 1) ls t h o h') Hw
    exact lv_pop hx hb hd (tv_cat hv) (go _ _ _ _ _ _ HM rfl hro hP hS hls hrl (rgs_t hrs))
  case arraylength =>
    have hl : len = 1 := by simpa [ab_lk, ab_il] using hlk
    subst hl
    obtain ⟨k, t, rfl, hk, hty, HM⟩ := ab_pR_of Hw
    by_cases e : k = 38
    · subst e
      refine va_slen (A := fun q => s0.heap.size ≤ q) hx hb hXs hb38 hA38 hS hd ?_
      exact w_cong (by show _ = Value.int (Int32.ofInt (ab_ln h 38)) :: _; rw [e38]; rfl) (go _ _ _ _ _ _ HM rfl hro hP hS hls hrl (rgs_c (show ab_rg (ab_ln h 38) from hro.1 38 (-1) (by decide)) (rgs_t hrs)))
    · have hk' : k < 38 := by omega
      have hle := ab_len_le k (List.mem_range.mpr hk')
      rw [ab_ty_ne e] at hty
      have ha := ab_wl_get (ad := ad) (cA := cA) (h := h) hk'
      have hv : Int32.ofNat (ab_nd ab_lay k).2.1 = Int32.ofInt (ab_ln h k) := by rw [ab_ln_ne e]; rfl
      have hr : ab_rv (vI (ab_ln h k)) := by rw [ab_ln_ne e]; exact ⟨by omega, by omega⟩
      have key := go _ _ _ _ _ _ HM rfl hro hP hS hls hrl (rgs_c hr (rgs_t hrs))
      rcases (show (ab_nd ab_lay k).1 = 0 ∨ (ab_nd ab_lay k).1 = 1 ∨ (ab_nd ab_lay k).1 = 2 by omega) with z | z | z
      · rw [ab_ce_arr z] at ha
        exact va_alen hx hb hK hP k 0 ha rfl hv hd key
      · rw [ab_ce_arz z] at ha
        exact va_alen hx hb hK hP k 1 ha rfl hv hd key
      · rw [ab_ce_arj z] at ha
        exact va_alen hx hb hK hP k 2 ha rfl hv hd key
  case iaload =>
    have hl : len = 1 := by simpa [ab_lk, ab_il] using hlk
    subst hl
    obtain ⟨j, t, rfl, HM⟩ := ab_pI_of Hw
    obtain ⟨k, t, rfl, HM⟩ := ab_pR_of HM
    obtain ⟨hty, HM⟩ := ab_if_of HM
    obtain ⟨hj, HM⟩ := HM
    have rj : ab_rg j := rgs_h hrs
    by_cases e : k = 38
    · subst e
      rw [e38] at hj
      refine va_sld (A := fun q => s0.heap.size ≤ q) hx hb hXs hb38 hA38 hS (i3_in rj hj.1 hj.2) hd ?_
      have e2 : h 38 j = (xs j.toNat).toInt := by
        have := hro.2.2 j.toNat (by omega)
        rwa [Int.toNat_of_nonneg hj.1] at this
      exact w_cong (by show _ = Value.int (Int32.ofInt (h 38 j)) :: _; rw [i3_clamp rj, e2, i3_of]) (go _ _ _ _ _ _ HM rfl hro hP hS hls hrl (rgs_c (show ab_rg (h 38 j) from hro.1 38 j (by decide)) (rgs_t (rgs_t hrs))))
    · rw [ab_ty_ne e] at hty
      rw [ab_ln_ne e] at hj
      have hk' : k < 38 := ab_k38 (by rw [hty]; decide)
      have ha := ab_wl_get (ad := ad) (cA := cA) (h := h) hk'
      rw [ab_ce_arr hty] at ha
      refine va_iald hx hb hK hP k 0 ha rfl (i3_in rj hj.1 hj.2) hd ?_
      exact w_cong (by show _ = Value.int (Int32.ofInt (h k j)) :: _; rw [i3_clamp rj, Int.toNat_of_nonneg hj.1]) (go _ _ _ _ _ _ HM rfl hro hP hS hls hrl (rgs_c (show ab_rg (h k j) from hro.1 k j (by omega)) (rgs_t (rgs_t hrs))))
  case baload =>
    have hl : len = 1 := by simpa [ab_lk, ab_il] using hlk
    subst hl
    obtain ⟨j, t, rfl, HM⟩ := ab_pI_of Hw
    obtain ⟨k, t, rfl, HM⟩ := ab_pR_of HM
    obtain ⟨hty, HM⟩ := ab_if_of HM
    obtain ⟨hj, HM⟩ := HM
    have rj : ab_rg j := rgs_h hrs
    have e : ¬ k = 38 := fun e => by subst e; exact absurd hty (by decide)
    · rw [ab_ty_ne e] at hty
      rw [ab_ln_ne e] at hj
      have hk' : k < 38 := ab_k38 (by rw [hty]; decide)
      have ha := ab_wl_get (ad := ad) (cA := cA) (h := h) hk'
      rw [ab_ce_arz hty] at ha
      refine va_zald hx hb hK hP k 1 ha rfl (i3_in rj hj.1 hj.2) hd ?_
      exact w_cong (by show _ = Value.int (Int32.ofInt (h k j)) :: _; rw [i3_clamp rj, Int.toNat_of_nonneg hj.1]) (go _ _ _ _ _ _ HM rfl hro hP hS hls hrl (rgs_c (show ab_rg (h k j) from hro.1 k j (by omega)) (rgs_t (rgs_t hrs))))
  case laload =>
    have hl : len = 1 := by simpa [ab_lk, ab_il] using hlk
    subst hl
    obtain ⟨j, t, rfl, HM⟩ := ab_pI_of Hw
    obtain ⟨k, t, rfl, HM⟩ := ab_pR_of HM
    obtain ⟨hty, HM⟩ := ab_if_of HM
    obtain ⟨hj, HM⟩ := HM
    have rj : ab_rg j := rgs_h hrs
    have e : ¬ k = 38 := fun e => by subst e; exact absurd hty (by decide)
    · rw [ab_ty_ne e] at hty
      rw [ab_ln_ne e] at hj
      have hk' : k < 38 := ab_k38 (by rw [hty]; decide)
      have ha := ab_wl_get (ad := ad) (cA := cA) (h := h) hk'
      rw [ab_ce_arj hty] at ha
      refine va_lald hx hb hK hP k 2 ha rfl (i3_in rj hj.1 hj.2) hd ?_
      exact w_cong (by show _ = Value.long (Int64.ofInt (h k j)) :: _; rw [i3_clamp rj, Int.toNat_of_nonneg hj.1]) (go _ _ _ _ _ _ HM rfl hro hP hS hls hrl (rgs_c (show ab_rg (h k j) from hro.1 k j (by omega)) (rgs_t (rgs_t hrs))))
  case iastore =>
    have hl : len = 1 := by simpa [ab_lk, ab_il] using hlk
    subst hl
    obtain ⟨x, t, rfl, HM⟩ := ab_pI_of Hw
    obtain ⟨j, t, rfl, HM⟩ := ab_pI_of HM
    obtain ⟨k, t, rfl, HM⟩ := ab_pR_of HM
    obtain ⟨hty, HM⟩ := ab_if_of HM
    obtain ⟨e, HM⟩ := ab_ifn_of HM
    obtain ⟨hj, HM⟩ := HM
    have rx : ab_rg x := rgs_h hrs
    have rj : ab_rg j := rgs_h (rgs_t hrs)
    rw [ab_ty_ne e] at hty
    rw [ab_ln_ne e] at hj
    have hk' : k < 38 := ab_k38 (by rw [hty]; decide)
    have ha := ab_wl_get (ad := ad) (cA := cA) (h := h) hk'
    rw [ab_ce_arr hty] at ha
    refine va_iast hx hb hK hP hD hS k 0 ha rfl (i3_in rj hj.1 hj.2) hd (fun H1 locs1 p1 d1 s1 => ?_)
    rw [i3_upd rj hj.1, ab_wl_set hk' (fun i' => if i' = j then x else h k i') (ab_ce_arr hty).symm, ← ab_up_fun] at p1
    exact go _ _ _ _ _ _ HM (ab_up_39 (by omega)) (hro.up hk' j rx) p1 s1 hls hrl (rgs_t (rgs_t (rgs_t hrs)))
  case bastore =>
    have hl : len = 1 := by simpa [ab_lk, ab_il] using hlk
    subst hl
    obtain ⟨x, t, rfl, HM⟩ := ab_pI_of Hw
    obtain ⟨j, t, rfl, HM⟩ := ab_pI_of HM
    obtain ⟨k, t, rfl, HM⟩ := ab_pR_of HM
    obtain ⟨hty, HM⟩ := ab_if_of HM
    have e : ¬ k = 38 := fun e => by subst e; exact absurd hty (by decide)
    obtain ⟨hj, hx01, HM⟩ := HM
    have rx : ab_rg x := rgs_h hrs
    have rj : ab_rg j := rgs_h (rgs_t hrs)
    rw [ab_ty_ne e] at hty
    rw [ab_ln_ne e] at hj
    have hk' : k < 38 := ab_k38 (by rw [hty]; decide)
    have ha := ab_wl_get (ad := ad) (cA := cA) (h := h) hk'
    rw [ab_ce_arz hty] at ha
    refine va_zast hx hb hK hP hD hS k 1 ha rfl (i3_in rj hj.1 hj.2) hd (fun H1 locs1 p1 d1 s1 => ?_)
    have en : vp_nar .boolean (Int32.ofInt x) = Int32.ofInt x := by
      rcases hx01 with rfl | rfl <;> rfl
    rw [en] at p1
    rw [i3_upd rj hj.1, ab_wl_set hk' (fun i' => if i' = j then x else h k i') (ab_ce_arz hty).symm, ← ab_up_fun] at p1
    exact go _ _ _ _ _ _ HM (ab_up_39 (by omega)) (hro.up hk' j rx) p1 s1 hls hrl (rgs_t (rgs_t (rgs_t hrs)))
  case lastore =>
    have hl : len = 1 := by simpa [ab_lk, ab_il] using hlk
    subst hl
    obtain ⟨x, t, rfl, HM⟩ := ab_pJ_of Hw
    obtain ⟨j, t, rfl, HM⟩ := ab_pI_of HM
    obtain ⟨k, t, rfl, HM⟩ := ab_pR_of HM
    obtain ⟨hty, HM⟩ := ab_if_of HM
    have e : ¬ k = 38 := fun e => by subst e; exact absurd hty (by decide)
    obtain ⟨hj, hx01, HM⟩ := HM
    have rx : ab_rg x := rgs_h hrs
    have rj : ab_rg j := rgs_h (rgs_t hrs)
    rw [ab_ty_ne e] at hty
    rw [ab_ln_ne e] at hj
    have hk' : k < 38 := ab_k38 (by rw [hty]; decide)
    have ha := ab_wl_get (ad := ad) (cA := cA) (h := h) hk'
    rw [ab_ce_arj hty] at ha
    refine va_last hx hb hK hP hD hS k 2 ha rfl (i3_in rj hj.1 hj.2) hd (fun H1 locs1 p1 d1 s1 => ?_)
    rw [i3_updL rj hj.1, ab_wl_set hk' (fun i' => if i' = j then x else h k i') (ab_ce_arj hty).symm, ← ab_up_fun] at p1
    exact go _ _ _ _ _ _ HM (ab_up_39 (by omega)) (hro.up hk' j rx) p1 s1 hls hrl (rgs_t (rgs_t (rgs_t hrs)))
  case getfield q =>
    have hl : len = 3 := by simpa [ab_lk, ab_il] using hlk
    subst hl
    obtain ⟨k, t, rfl, HM⟩ := ab_pR_of Hw
    obtain ⟨c3, HM⟩ := ab_if_of HM
    obtain ⟨ck, HM⟩ := ab_if_of HM
    dsimp only at c3 ck HM
    have hk' : k < 38 := ab_k38 (by rw [c3]; decide)
    have hft : (ab_own i, q, x1, x2) ∈ ab_FT := by simpa [ab_c1] using hc1
    obtain ⟨w1, w2, w3, w4⟩ := ab_fwok _ hft
    dsimp only at w3 w4
    have ha := ab_wl_get (ad := ad) (cA := cA) (h := h) hk'
    rw [ab_ce_obj c3, ck] at ha
    have hts : ∀ w ∈ u_ws (ab_cs x1) (ab_T x1) (ab_N x1), w.before args s = true := fun w hw => hE.word (ab_layok x1 (List.mem_range.mpr w3) w hw).1 (ab_layok x1 (List.mem_range.mpr w3) w hw).2 hW0 args
    have hlink : (Cond.fieldLink (ab_cs (ab_own i)) q (ab_cs x1) (ab_T x1 x2).2.1 (ab_T x1 x2).2.2.1).before args s = true := hE.word w1 w2 hW0 args
    cases en : ab_nf (ab_nd ab_lay k).2.2 x2 with
    | none => rw [en] at HM; exact HM.elim
    | some v =>
      have hv := ab_fs_get (ad := ad) _ (h k) 0 x2 v en
      rw [Nat.zero_add] at hv
      cases v with
      | none =>
        rw [en] at HM
        exact va_get hx hb hts (fun w hw => hw) hown hK hP k ha (ab_cls_get w3) x2 w4 hlink (fun _ z => z) hv hd (go _ _ _ _ _ _ HM rfl hro hP hS hls hrl (rgs_c (show ab_rg (h k _) from hro.1 k _ (by omega)) (rgs_t hrs)))
      | some r =>
        rw [en] at HM
        exact va_get hx hb hts (fun w hw => hw) hown hK hP k ha (ab_cls_get w3) x2 w4 hlink (fun _ z => z) hv hd (go _ _ _ _ _ _ HM rfl hro hP hS hls hrl (rgs_c trivial (rgs_t hrs)))
  case putfield q =>
    have hl : len = 3 := by simpa [ab_lk, ab_il] using hlk
    subst hl
    obtain ⟨x, t, rfl, HM⟩ := ab_pI_of Hw
    obtain ⟨k, t, rfl, HM⟩ := ab_pR_of HM
    obtain ⟨c3, HM⟩ := ab_if_of HM
    obtain ⟨ck, HM⟩ := ab_if_of HM
    dsimp only at c3 ck HM
    have hk' : k < 38 := ab_k38 (by rw [c3]; decide)
    have hft : (ab_own i, q, x1, x2) ∈ ab_FT := by simpa [ab_c1] using hc1
    obtain ⟨w1, w2, w3, w4⟩ := ab_fwok _ hft
    dsimp only at w3 w4
    have ha := ab_wl_get (ad := ad) (cA := cA) (h := h) hk'
    rw [ab_ce_obj c3, ck] at ha
    have hts : ∀ w ∈ u_ws (ab_cs x1) (ab_T x1) (ab_N x1), w.before args s = true := fun w hw => hE.word (ab_layok x1 (List.mem_range.mpr w3) w hw).1 (ab_layok x1 (List.mem_range.mpr w3) w hw).2 hW0 args
    have hlink : (Cond.fieldLink (ab_cs (ab_own i)) q (ab_cs x1) (ab_T x1 x2).2.1 (ab_T x1 x2).2.2.1).before args s = true := hE.word w1 w2 hW0 args
    have rx : ab_rg x := rgs_h hrs
    cases en : ab_nf (ab_nd ab_lay k).2.2 x2 with
    | none => rw [en] at HM; exact HM.elim
    | some v =>
      cases v with
      | some r => rw [en] at HM; exact HM.elim
      | none =>
        rw [en] at HM
        dsimp only at HM
        have hlt := ab_nf_lt _ _ _ en
        have h40 := ab_nf_40 k (List.mem_range.mpr hk')
        have hpo := ab_put_ok k (List.mem_range.mpr hk') x2 (List.mem_range.mpr (by omega)) c3 en
        rw [ck] at hpo
        have hty0 : ∀ a, a < ab_N x1 → parseFieldDescriptor (ab_T x1 a).2.2.1 = some (ab_tyf x1 a) := fun a ha => ab_tyok x1 (List.mem_range.mpr w3) a (List.mem_range.mpr ha)
        have hnm : ∀ a, a < ab_N x1 → ∀ b, b < ab_N x1 → a ≠ b → (ab_T x1 a).2.1 ≠ (ab_T x1 b).2.1 := fun a ha b hb => ab_nmok x1 (List.mem_range.mpr w3) a (List.mem_range.mpr ha) b (List.mem_range.mpr hb)
        have key : ∀ HM' : ab_MM l s0 ad dC dI cA N xs i (n + 1) ls t (ab_up h k ((x2 : Nat) : Int) x) o h', ∀ (hn : narrow (ab_tyf x1 x2) (.int (Int32.ofInt x)) = .int (Int32.ofInt x)) (hf : fits (ab_tyf x1 x2) (.int (Int32.ofInt x)) = true),
            W p l e R s m args below meth c Hp locs cells slots (vx_MQ below (ab_Qc s0 ad dC dI cA N xs o h') (ab_XC s0 ad dC dI cA N xs o h') args s (cells + ab_k h h') (slots + 6 * ab_k h h') (fun q => s0.heap.size ≤ q)) (F0 m pc0 lsA (.int (Int32.ofInt x) :: .ref (ad k) :: t.map (ab_tv ad))) := by
          intro HM' hn hf
          refine va_put hx hb hts (fun w hw => hw) (ab_tyf x1) hty0 hnm hown hK hP hD hS k ha (ab_cls_get w3) x2 w4 hlink (fun _ z => z) hpo.1 (hty0 x2 w4) hn hf (by rw [ab_fs_len]; exact hlt) hd (fun H1 locs1 p1 d1 s1 => ?_)
          have e0 := ab_fs_set (ad := ad) _ (h k) 0 x2 x en
          rw [Nat.zero_add] at e0
          rw [e0, ab_wl_set hk' (fun i' => if i' = ((x2 : Nat) : Int) then x else h k i') (by rw [ab_ce_obj c3, ck]), ← ab_up_fun] at p1
          exact go _ _ _ _ _ _ HM' (ab_up_39 (by omega)) (hro.up hk' _ rx) p1 s1 hls hrl (rgs_t (rgs_t hrs))
        rcases hpo.2 with ⟨z1, z2⟩ | ⟨z1, z2⟩
        · rw [z2, if_neg (by decide)] at HM
          exact key HM (by rw [z1]; rfl) (by rw [z1]; rfl)
        · rw [z2, if_pos rfl] at HM
          exact key HM.2 (by rw [z1]; rcases HM.1 with rfl | rfl <;> rfl) (by rw [z1]; rcases HM.1 with rfl | rfl <;> rfl)
  all_goals exact Hw.elim
end So2
