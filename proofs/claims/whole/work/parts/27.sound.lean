/-! THE MACHINE DOES WHAT THE PURE MACHINE DOES. -/
section Sound9
variable {l : Launch} {s0 : State} {a0 : Array Value} {ad : Nat → Nat} {dC : Nat → ClassId} {dI : Nat → Nat → Nat} {cA : Nat → ClassId} {N : Nat} {xs : Nat → Int32}
theorem ab_closed (hE : ab_E l s0 a0 ad dC dI cA N xs) : ab_Cl (ab_MM l s0 ad dC dI cA N xs) :=
  ⟨fun i n t ls st h o h' => so_1 hE i n t ls st h o h',
   fun i n t off ls st h o h' => so_goto i n t off ls st h o h',
   fun i n t c off x ls st h o h' => so_if i n t c off x ls st h o h',
   fun i n t c off x y ls st h o h' => so_icmp i n t c off x y ls st h o h',
   fun i n t d lo hi offs x ls st h o h' => so_sw i n t d lo hi offs x ls st h o h',
   fun i n t x ls h => so_iret i n t x ls h,
   fun i n t ls h => so_ret i n t ls h,
   fun i n j as rest ls h r h1 o h' => so_call hE i n j as rest ls h r h1 o h',
   fun i n j as rest ls h x h1 => so_callx hE i n j as rest ls h x h1,
   fun i n j as rest ls h x h1 c hc hm => so_callc hE i n j as rest ls h x h1 c hc (ab_hoks _ hm),
   fun i n x ls st h => so_thr hE i n x ls st h,
   fun i n t k m q d p s rest ls h o h' => so_cp hE i n t k m q d p s rest ls h o h'⟩
theorem ab_sound (hE : ab_E l s0 a0 ad dC dI cA N xs) {i n : Nat} {ls st : List ab_V} {h : ab_S} {o : ab_O} {h' : ab_S} (H : ab_lr i n ls st h o h') : ab_MM l s0 ad dC dI cA N xs i n ls st h o h' := H _ (ab_closed hE)
end Sound9
