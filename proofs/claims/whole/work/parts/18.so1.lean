/-! Straight instructions: the relation is closed. -/
section So2
variable {l : Launch} {s0 : State} {a0 : Array Value} {ad : Nat → Nat} {dC : Nat → ClassId} {dI : Nat → Nat → Nat} {cA : Nat → ClassId} {N : Nat} {xs : Nat → Int32}
theorem w_cong {p : Program} {l : Launch} {e : Env} {R : Room} {s : State} {m : MethodId} {args : Array Value} {below : List Frame} {meth : Method} {c : Code} {H : Heap} {locs : List Loc} {cells slots : Nat} {Q : State → Prop} {pc : Nat} {A : Array Slot} {st st' : List Value} (e1 : st = st') (k : W p l e R s m args below meth c H locs cells slots Q (F0 m pc A st')) : W p l e R s m args below meth c H locs cells slots Q (F0 m pc A st) := by
  rw [e1]
  exact k
set_option maxHeartbeats 4000000 in
theorem so_1 (hE : ab_E l s0 a0 ad dC dI cA N xs) (i n : Nat) (t : ab_I) (ls st : List ab_V) (h : ab_S) (o : ab_O) (h' : ab_S) (ht : (ab_L i)[n]? = some t)
    (Hw : ab_w1 t ls st h (fun ls1 st1 h1 => ab_MM l s0 ad dC dI cA N xs i (n + 1) ls1 st1 h1 o h')) : ab_MM l s0 ad dC dI cA N xs i n ls st h o h' := by
  have hmono : h 39 0 ≤ h' 39 0 := by
    obtain ⟨ls1, st1, h1, hM, e9⟩ := ab_w1_39 Hw
    rw [← e9]
    exact hM.1
  refine ⟨hmono, ?_⟩
  intro p e R s m args below meth c Hp locs cells slots lsA pc hcx hcell hslot hpc hro hP hS hls hrl hrs
  obtain ⟨u, hu, hup⟩ := ab_next ht Hw
  obtain ⟨hd, hc1⟩ := (ab_gdi i).1 n t ht
  have hlk := ab_lki ht
  have hpc' : t.1 = pc := by
    rw [ht] at hpc
    exact Option.some.inj hpc
  have go : ∀ (ls1 st1 : List ab_V) (h1 : ab_S) (H1 : Heap) (locs1 : List Loc) (A1 : Array Slot), ab_MM l s0 ad dC dI cA N xs i (n + 1) ls1 st1 h1 o h' → h1 39 0 = h 39 0 → ab_ro N xs h1 → va_P (dC, dI) ab_cls (ab_wl ad cA h1) H1 → va_S (fun q => s0.heap.size ≤ q) s.heap H1 locs1 → ab_lsr ad (ab_ml i) ls1 A1 → ab_rgs ls1 → ab_rgs st1 →
      W p l e R s m args below meth c H1 locs1 cells slots (vx_MQ below (ab_Qc s0 ad dC dI cA N xs o h') (ab_XC s0 ad dC dI cA N xs o h') args s (cells + ab_k h h') (slots + 6 * ab_k h h') (fun q => s0.heap.size ≤ q)) (F0 m (pc + t.2.2.1) A1 (st1.map (ab_tv ad))) := by
    intro ls1 st1 h1 H1 locs1 A1 hM e9 b1 b2 b3 b4 b5 b6
    have ek : ab_k h1 h' = ab_k h h' := by unfold ab_k; rw [e9]
    have := hM.2 p e R s m args below meth c H1 locs1 cells slots A1 (pc + t.2.2.1) hcx (by rw [ek]; exact hcell) (by rw [ek]; exact hslot) (by rw [hu, ← hpc', ← hup]; rfl) b1 b2 b3 b4 b5 b6
    rw [ek] at this
    exact this
  obtain ⟨hx, hb, hml, hrt, hlks, hex, hown, hW0, hold, hfr, hlo⟩ := hcx
  have hD := hE.apart h
  have hK : va_K (dC, dI) ab_cls [(cA 0, .int), (cA 1, .boolean), (cA 2, .long)] s := va_K.moved hW0.alike hE.2.2.2.1
  obtain ⟨pc0, ins, len, x1, x2⟩ := t
  dsimp only at hpc' hd hc1 go hlk
  subst hpc'
  cases ins
  case iconst n =>
    have hl : len = 1 := by simpa [ab_lk, ab_il] using hlk
    subst hl
    have hn : ab_rg n := by
      simp only [ab_c1, Bool.and_eq_true, decide_eq_true_eq] at hc1
      exact ⟨by omega, by omega⟩
    exact lv_iconst hx hb hd rfl (go _ _ _ _ _ _ Hw rfl hro hP hS hls hrl (rgs_c hn hrs))
  case bipush n =>
    have hl : len = 2 := by simpa [ab_lk, ab_il] using hlk
    subst hl
    have hn : -128 ≤ n ∧ n ≤ 127 := by
      simpa [ab_c1] using hc1
    refine lv_bipush hx hb hd ?_ (go _ _ _ _ _ _ Hw rfl hro hP hS hls hrl (rgs_c (show ab_rg n from ⟨by omega, by omega⟩) hrs))
    apply Int32.toInt_inj.mp
    rw [i3_toInt ⟨by omega, by omega⟩, Int8.toInt_toInt32, Int8.toInt_ofInt_of_le (by omega) (by omega)]
  case sipush n =>
    have hl : len = 3 := by simpa [ab_lk, ab_il] using hlk
    subst hl
    have hn : -32768 ≤ n ∧ n ≤ 32767 := by
      simpa [ab_c1] using hc1
    refine lv_sipush hx hb hd ?_ (go _ _ _ _ _ _ Hw rfl hro hP hS hls hrl (rgs_c (show ab_rg n from ⟨by omega, by omega⟩) hrs))
    apply Int32.toInt_inj.mp
    rw [i3_toInt ⟨by omega, by omega⟩, Int16.toInt_toInt32, Int16.toInt_ofInt_of_le (by omega) (by omega)]
  case lconst n =>
    have hl : len = 1 := by simpa [ab_lk, ab_il] using hlk
    subst hl
    exact lv_lconst hx hb hd rfl (go _ _ _ _ _ _ Hw rfl hro hP hS hls hrl (rgs_c (show ab_rg (((n.val : Nat) : Int)) from ⟨by omega, by omega⟩) hrs))
  case iload_n k =>
    have hl : len = 1 := by simpa [ab_lk, ab_il] using hlk
    subst hl
    obtain ⟨x, ex, HM⟩ := ab_gI_of Hw
    have hv := rgs_nth hrl k.val
    rw [ex] at hv
    exact lv_iload_n hx hb hd rfl (hls.2.2.2 _ _ (nth_get ex (fun _ e => nomatch e)) (fun _ e => nomatch e)) (go _ _ _ _ _ _ HM rfl hro hP hS hls hrl (rgs_c hv hrs))
  case iload k =>
    have hl : len = 2 := by simpa [ab_lk, ab_il] using hlk
    subst hl
    obtain ⟨x, ex, HM⟩ := ab_gI_of Hw
    have hv := rgs_nth hrl k
    rw [ex] at hv
    exact lv_iload hx hb hd (hls.2.2.2 _ _ (nth_get ex (fun _ e => nomatch e)) (fun _ e => nomatch e)) (go _ _ _ _ _ _ HM rfl hro hP hS hls hrl (rgs_c hv hrs))
  case aload_n k =>
    have hl : len = 1 := by simpa [ab_lk, ab_il] using hlk
    subst hl
    obtain ⟨x, ex, HM⟩ := ab_gR_of Hw
    have hv := rgs_nth hrl k.val
    rw [ex] at hv
    exact lv_aload_n hx hb hd rfl (hls.2.2.2 _ _ (nth_get ex (fun _ e => by cases e)) (fun _ e => by cases e)) (go _ _ _ _ _ _ HM rfl hro hP hS hls hrl (rgs_c hv hrs))
  case aload k =>
    have hl : len = 2 := by simpa [ab_lk, ab_il] using hlk
    subst hl
    obtain ⟨x, ex, HM⟩ := ab_gR_of Hw
    have hv := rgs_nth hrl k
    rw [ex] at hv
    exact lv_aload hx hb hd (hls.2.2.2 _ _ (nth_get ex (fun _ e => by cases e)) (fun _ e => by cases e)) (go _ _ _ _ _ _ HM rfl hro hP hS hls hrl (rgs_c hv hrs))
  case istore_n k =>
    have hl : len = 1 := by simpa [ab_lk, ab_il] using hlk
    subst hl
    obtain ⟨x, t, rfl, HM⟩ := ab_pI_of Hw
    have hk : k.val < ab_ml i := by simpa [ab_c1] using hc1
    exact lv_istore_n hx hb hd rfl hls.has hk rfl (fun A' hA' => go _ _ _ _ _ _ HM rfl hro hP hS (hls.store hA') (rgs_st hrl _ (rgs_h hrs)) (rgs_t hrs))
  case istore k =>
    have hl : len = 2 := by simpa [ab_lk, ab_il] using hlk
    subst hl
    obtain ⟨x, t, rfl, HM⟩ := ab_pI_of Hw
    have hk : k < ab_ml i := by simpa [ab_c1] using hc1
    exact lv_istore hx hb hd hls.has hk rfl (fun A' hA' => go _ _ _ _ _ _ HM rfl hro hP hS (hls.store hA') (rgs_st hrl _ (rgs_h hrs)) (rgs_t hrs))
  case iinc k z =>
    have hl : len = 3 := by simpa [ab_lk, ab_il] using hlk
    subst hl
    obtain ⟨x, ex, hz, HM⟩ := ab_gI_of Hw
    have hk : k < ab_ml i := by
      simp only [ab_c1, Bool.and_eq_true, decide_eq_true_eq] at hc1
      exact hc1.1.1
    have hm := lv_memr (ad := ad) ls 0 k _ (nth_get ex (fun _ e => nomatch e)) (fun _ e => nomatch e)
    rw [Nat.zero_add] at hm
    obtain ⟨j, hj⟩ := List.getElem?_of_mem hm
    exact lv_iinc hx hb hd hls.has hj (Int32.ofInt_add x z).symm hk rfl (fun A' hA' => go _ _ _ _ _ _ HM rfl hro hP hS (hls.store hA') (rgs_st hrl _ hz) hrs)
  case iadd =>
    have hl : len = 1 := by simpa [ab_lk, ab_il] using hlk
    subst hl
    obtain ⟨x, y, t, rfl, hz, HM⟩ := ab_p2_of Hw
    refine lv_iadd hx hb hd ?_
    rw [← Int32.ofInt_add]
    exact go _ _ _ _ _ _ HM rfl hro hP hS hls hrl (rgs_c hz (rgs_t (rgs_t hrs)))
  case isub =>
    have hl : len = 1 := by simpa [ab_lk, ab_il] using hlk
    subst hl
    obtain ⟨x, y, t, rfl, hz, HM⟩ := ab_p2_of Hw
    refine lv_isub hx hb hd ?_
    rw [← Int32.ofInt_sub]
    exact go _ _ _ _ _ _ HM rfl hro hP hS hls hrl (rgs_c hz (rgs_t (rgs_t hrs)))
  case imul =>
    have hl : len = 1 := by simpa [ab_lk, ab_il] using hlk
    subst hl
    obtain ⟨x, y, t, rfl, hz, HM⟩ := ab_p2_of Hw
    refine lv_imul hx hb hd ?_
    rw [← Int32.ofInt_mul]
    exact go _ _ _ _ _ _ HM rfl hro hP hS hls hrl (rgs_c hz (rgs_t (rgs_t hrs)))
  case idiv =>
    have hl : len = 1 := by simpa [ab_lk, ab_il] using hlk
    subst hl
    obtain ⟨x, y, t, rfl, hz, HM⟩ := ab_p2_of Hw
    have ry : ab_rg y := rgs_h hrs
    have rx : ab_rg x := rgs_h (rgs_t hrs)
    refine lv_idiv hx hb hd (fun q => ?_) ?_
    · have := (i3_eq ry (show ab_rg 0 from ⟨by decide, by decide⟩)).mp q
      omega
    · rw [i3_div rx ry hz.1 hz.2]
      exact go _ _ _ _ _ _ HM rfl hro hP hS hls hrl (rgs_c (rg_div rx hz.1 hz.2) (rgs_t (rgs_t hrs)))
  case irem =>
    have hl : len = 1 := by simpa [ab_lk, ab_il] using hlk
    subst hl
    obtain ⟨x, y, t, rfl, hz, HM⟩ := ab_p2_of Hw
    have ry : ab_rg y := rgs_h hrs
    have rx : ab_rg x := rgs_h (rgs_t hrs)
    refine lv_irem hx hb hd (fun q => ?_) ?_
    · have := (i3_eq ry (show ab_rg 0 from ⟨by decide, by decide⟩)).mp q
      omega
    · rw [i3_mod rx ry hz.1 hz.2]
      exact go _ _ _ _ _ _ HM rfl hro hP hS hls hrl (rgs_c (rg_mod ry hz.2) (rgs_t (rgs_t hrs)))
  case iand =>
    have hl : len = 1 := by simpa [ab_lk, ab_il] using hlk
    subst hl
    obtain ⟨x, y, t, rfl, HM⟩ := ab_p2_of Hw
    exact lv_iand hx hb hd (w_cong (by show _ = Value.int (Int32.ofInt (b_and x y)) :: _; unfold b_and; rw [i3_of]) (go _ _ _ _ _ _ HM rfl hro hP hS hls hrl (rgs_c (i3_rg _) (rgs_t (rgs_t hrs)))))
  case ior =>
    have hl : len = 1 := by simpa [ab_lk, ab_il] using hlk
    subst hl
    obtain ⟨x, y, t, rfl, HM⟩ := ab_p2_of Hw
    exact lv_ior hx hb hd (w_cong (by show _ = Value.int (Int32.ofInt (b_or x y)) :: _; unfold b_or; rw [i3_of]) (go _ _ _ _ _ _ HM rfl hro hP hS hls hrl (rgs_c (i3_rg _) (rgs_t (rgs_t hrs)))))
  case ixor =>
    have hl : len = 1 := by simpa [ab_lk, ab_il] using hlk
    subst hl
    obtain ⟨x, y, t, rfl, HM⟩ := ab_p2_of Hw
    exact lv_ixor hx hb hd (w_cong (by show _ = Value.int (Int32.ofInt (b_xor x y)) :: _; unfold b_xor; rw [i3_of]) (go _ _ _ _ _ _ HM rfl hro hP hS hls hrl (rgs_c (i3_rg _) (rgs_t (rgs_t hrs)))))
  case ishl =>
    have hl : len = 1 := by simpa [ab_lk, ab_il] using hlk
    subst hl
    obtain ⟨x, y, t, rfl, HM⟩ := ab_p2_of Hw
    exact lv_ishl hx hb hd (w_cong (by show _ = Value.int (Int32.ofInt (b_shl x y)) :: _; unfold b_shl; rw [i3_of]) (go _ _ _ _ _ _ HM rfl hro hP hS hls hrl (rgs_c (i3_rg _) (rgs_t (rgs_t hrs)))))
  case ishr =>
    have hl : len = 1 := by simpa [ab_lk, ab_il] using hlk
    subst hl
    obtain ⟨x, y, t, rfl, HM⟩ := ab_p2_of Hw
    exact lv_ishr hx hb hd (w_cong (by show _ = Value.int (Int32.ofInt (b_shr x y)) :: _; unfold b_shr; rw [i3_of]) (go _ _ _ _ _ _ HM rfl hro hP hS hls hrl (rgs_c (i3_rg _) (rgs_t (rgs_t hrs)))))
  case iushr =>
    have hl : len = 1 := by simpa [ab_lk, ab_il] using hlk
    subst hl
    obtain ⟨x, y, t, rfl, HM⟩ := ab_p2_of Hw
    exact lv_iushr hx hb hd rfl (w_cong (by show _ = Value.int (Int32.ofInt (b_ushr x y)) :: _; unfold b_ushr; rw [i3_of]) (go _ _ _ _ _ _ HM rfl hro hP hS hls hrl (rgs_c (i3_rg _) (rgs_t (rgs_t hrs)))))
  case i2l =>
    have hl : len = 1 := by simpa [ab_lk, ab_il] using hlk
    subst hl
    obtain ⟨x, t, rfl, HM⟩ := ab_pI_of Hw
    have rx : ab_rg x := rgs_h hrs
    exact lv_i2l hx hb hd (i6_i2l rx) (go _ _ _ _ _ _ HM rfl hro hP hS hls hrl (rgs_c rx (rgs_t hrs)))
  case lcmp =>
    have hl : len = 1 := by simpa [ab_lk, ab_il] using hlk
    subst hl
    obtain ⟨y, t, rfl, HM⟩ := ab_pJ_of Hw
    obtain ⟨x, t, rfl, HM⟩ := ab_pJ_of HM
    have ry : ab_rg y := rgs_h hrs
    have rx : ab_rg x := rgs_h (rgs_t hrs)
    refine W.lcmp hx hb hd ?_
    rw [i6_cmp rx ry]
    exact go _ _ _ _ _ _ HM rfl hro hP hS hls hrl (rgs_c (rg_lc x y) (rgs_t (rgs_t hrs)))
  case dup =>
    have hl : len = 1 := by simpa [ab_lk, ab_il] using hlk
    subst hl
    obtain ⟨v, t, rfl, hv, HM⟩ := ab_p1_of (f := fun v t => ab_MM l s0 ad dC dI cA N xs i (n + 1) ls (v :: v :: t) h o h') Hw
    exact lv_dup hx hb hd (tv_cat hv) (go _ _ _ _ _ _ HM rfl hro hP hS hls hrl (rgs_c (rgs_h hrs) hrs))
  case dup2 =>
    have hl : len = 1 := by simpa [ab_lk, ab_il] using hlk
    subst hl
    obtain ⟨v, t, rfl, hv, HM⟩ := ab_p1_of (f := fun v t => ab_p1 t fun w t => ab_MM l s0 ad dC dI cA N xs i (n + 1) ls (v :: w :: v :: w :: t) h o h') Hw
    obtain ⟨w, t, rfl, hw, HM⟩ := ab_p1_of (f := fun w t => ab_MM l s0 ad dC dI cA N xs i (n + 1) ls (v :: w :: v :: w :: t) h o h') HM
    exact lv_dup2_11 hx hb hd (tv_cat hv) (tv_cat hw) (go _ _ _ _ _ _ HM rfl hro hP hS hls hrl (rgs_c (rgs_h hrs) (rgs_c (rgs_h (rgs_t hrs)) hrs)))
  case pop =>
    have hl : len = 1 := by simpa [ab_lk, ab_il] using hlk
    subst hl
    obtain ⟨v, t, rfl, hv, HM⟩ := ab_p1_of (f := fun _ t => ab_MM l s0 ad dC dI cA N xs i (n + 1) ls t h o h') Hw
    exact lv_pop hx hb hd (tv_cat hv) (go _ _ _ _ _ _ HM rfl hro hP hS hls hrl (rgs_t hrs))
  case arraylength => sorry
  case iaload => sorry
  case baload => sorry
  case laload => sorry
  case iastore => sorry
  case bastore => sorry
  case lastore => sorry
  case getfield q => sorry
  case putfield q => sorry
  all_goals exact Hw.elim
end So2
