/-! Every method's listing is good. -/
section Good
def ab_gd (m : ab_Mt) : Prop := (∀ (n : Nat) (t : ab_I), m.2.2.2.2.2.2.2[n]? = some t → decode m.2.2.1 t.1 = .ok (t.2.1, t.2.2.1) ∧ ab_c1 m.1 m.2.2.2.1 m.2.2.2.2.2.2.2 t = true) ∧ ∀ (n : Nat) (t u : ab_I), m.2.2.2.2.2.2.2[n]? = some t → m.2.2.2.2.2.2.2[n + 1]? = some u → u.1 = t.1 + t.2.2.1
theorem ab_chain_of : ∀ (L : List ab_I), ab_chain L = true → ∀ (n : Nat) (t u : ab_I), L[n]? = some t → L[n + 1]? = some u → u.1 = t.1 + t.2.2.1
  | [], _, n, t, u, h, _ => by simp at h
  | [a], _, n, t, u, _, h => by simp at h
  | a :: b :: r, hc, n, t, u, ht, hu => by
    rw [ab_chain, Bool.and_eq_true, decide_eq_true_eq] at hc
    cases n with
    | zero =>
      cases Option.some.inj ht
      cases Option.some.inj hu
      exact hc.1
    | succ n => exact ab_chain_of (b :: r) hc.2 n t u ht hu
theorem ab_gd_of {m : ab_Mt} (h : ab_chk m = true) : ab_gd m := by
  rw [ab_chk, Bool.and_eq_true] at h
  refine ⟨fun n t ht => ?_, ab_chain_of _ h.2⟩
  have h1 := List.all_eq_true.mp h.1 t (List.mem_of_getElem? ht)
  rw [Bool.and_eq_true, decide_eq_true_eq] at h1
  exact h1
theorem ab_chS_of {m : ab_Mt} {a k : Nat} (h : ab_chS m a k = true) (n : Nat) (t : ab_I) (ht : m.2.2.2.2.2.2.2[n]? = some t) (h1 : a ≤ n) (h2 : n < a + k) : decode m.2.2.1 t.1 = .ok (t.2.1, t.2.2.1) ∧ ab_c1 m.1 m.2.2.2.1 m.2.2.2.2.2.2.2 t = true := by
  have hm : t ∈ (m.2.2.2.2.2.2.2.drop a).take k := by
    refine List.mem_of_getElem? (i := n - a) ?_
    rw [List.getElem?_take_of_lt (by omega), List.getElem?_drop, show a + (n - a) = n by omega]
    exact ht
  have h3 := List.all_eq_true.mp h t hm
  rw [Bool.and_eq_true, decide_eq_true_eq] at h3
  exact h3
set_option maxRecDepth 100000 in
theorem len_136 : L_136.length = 482 := by decide +kernel
theorem gd_136 : ab_gd M_136 := by
  refine ⟨fun n t ht => ?_, ab_chain_of _ cl_c⟩
  have hn : n < L_136.length := (List.getElem?_eq_some_iff.mp ht).1
  rw [len_136] at hn
  by_cases q0 : n < 40
  · exact ab_chS_of cl_0 n t ht (by omega) (by omega)
  by_cases q40 : n < 80
  · exact ab_chS_of cl_40 n t ht (by omega) (by omega)
  by_cases q80 : n < 120
  · exact ab_chS_of cl_80 n t ht (by omega) (by omega)
  by_cases q120 : n < 160
  · exact ab_chS_of cl_120 n t ht (by omega) (by omega)
  by_cases q160 : n < 200
  · exact ab_chS_of cl_160 n t ht (by omega) (by omega)
  by_cases q200 : n < 240
  · exact ab_chS_of cl_200 n t ht (by omega) (by omega)
  by_cases q240 : n < 280
  · exact ab_chS_of cl_240 n t ht (by omega) (by omega)
  by_cases q280 : n < 320
  · exact ab_chS_of cl_280 n t ht (by omega) (by omega)
  by_cases q320 : n < 360
  · exact ab_chS_of cl_320 n t ht (by omega) (by omega)
  by_cases q360 : n < 400
  · exact ab_chS_of cl_360 n t ht (by omega) (by omega)
  by_cases q400 : n < 440
  · exact ab_chS_of cl_400 n t ht (by omega) (by omega)
  by_cases q440 : n < 480
  · exact ab_chS_of cl_440 n t ht (by omega) (by omega)
  exact ab_chS_of cl_480 n t ht (by omega) (by omega)
set_option maxRecDepth 100000 in
theorem ab_gds : ∀ m ∈ ab_Ms, ab_gd m := List.forall_mem_cons.mpr ⟨ab_gd_of ck_0, List.forall_mem_cons.mpr ⟨ab_gd_of ck_1, List.forall_mem_cons.mpr ⟨ab_gd_of ck_2, List.forall_mem_cons.mpr ⟨ab_gd_of ck_3, List.forall_mem_cons.mpr ⟨ab_gd_of ck_4, List.forall_mem_cons.mpr ⟨ab_gd_of ck_5, List.forall_mem_cons.mpr ⟨ab_gd_of ck_6, List.forall_mem_cons.mpr ⟨ab_gd_of ck_7, List.forall_mem_cons.mpr ⟨ab_gd_of ck_8, List.forall_mem_cons.mpr ⟨ab_gd_of ck_9, List.forall_mem_cons.mpr ⟨ab_gd_of ck_10, List.forall_mem_cons.mpr ⟨ab_gd_of ck_11, List.forall_mem_cons.mpr ⟨ab_gd_of ck_12, List.forall_mem_cons.mpr ⟨ab_gd_of ck_13, List.forall_mem_cons.mpr ⟨ab_gd_of ck_14, List.forall_mem_cons.mpr ⟨ab_gd_of ck_15, List.forall_mem_cons.mpr ⟨ab_gd_of ck_16, List.forall_mem_cons.mpr ⟨ab_gd_of ck_17, List.forall_mem_cons.mpr ⟨ab_gd_of ck_18, List.forall_mem_cons.mpr ⟨ab_gd_of ck_19, List.forall_mem_cons.mpr ⟨ab_gd_of ck_20, List.forall_mem_cons.mpr ⟨ab_gd_of ck_21, List.forall_mem_cons.mpr ⟨ab_gd_of ck_22, List.forall_mem_cons.mpr ⟨ab_gd_of ck_23, List.forall_mem_cons.mpr ⟨ab_gd_of ck_24, List.forall_mem_cons.mpr ⟨ab_gd_of ck_25, List.forall_mem_cons.mpr ⟨ab_gd_of ck_26, List.forall_mem_cons.mpr ⟨ab_gd_of ck_27, List.forall_mem_cons.mpr ⟨ab_gd_of ck_28, List.forall_mem_cons.mpr ⟨ab_gd_of ck_29, List.forall_mem_cons.mpr ⟨ab_gd_of ck_30, List.forall_mem_cons.mpr ⟨ab_gd_of ck_31, List.forall_mem_cons.mpr ⟨ab_gd_of ck_32, List.forall_mem_cons.mpr ⟨ab_gd_of ck_33, List.forall_mem_cons.mpr ⟨ab_gd_of ck_34, List.forall_mem_cons.mpr ⟨ab_gd_of ck_35, List.forall_mem_cons.mpr ⟨ab_gd_of ck_36, List.forall_mem_cons.mpr ⟨ab_gd_of ck_37, List.forall_mem_cons.mpr ⟨ab_gd_of ck_38, List.forall_mem_cons.mpr ⟨ab_gd_of ck_39, List.forall_mem_cons.mpr ⟨ab_gd_of ck_40, List.forall_mem_cons.mpr ⟨ab_gd_of ck_41, List.forall_mem_cons.mpr ⟨ab_gd_of ck_42, List.forall_mem_cons.mpr ⟨ab_gd_of ck_43, List.forall_mem_cons.mpr ⟨ab_gd_of ck_44, List.forall_mem_cons.mpr ⟨ab_gd_of ck_45, List.forall_mem_cons.mpr ⟨ab_gd_of ck_46, List.forall_mem_cons.mpr ⟨ab_gd_of ck_47, List.forall_mem_cons.mpr ⟨ab_gd_of ck_48, List.forall_mem_cons.mpr ⟨ab_gd_of ck_49, List.forall_mem_cons.mpr ⟨ab_gd_of ck_50, List.forall_mem_cons.mpr ⟨ab_gd_of ck_51, List.forall_mem_cons.mpr ⟨ab_gd_of ck_52, List.forall_mem_cons.mpr ⟨ab_gd_of ck_53, List.forall_mem_cons.mpr ⟨ab_gd_of ck_54, List.forall_mem_cons.mpr ⟨ab_gd_of ck_55, List.forall_mem_cons.mpr ⟨ab_gd_of ck_56, List.forall_mem_cons.mpr ⟨ab_gd_of ck_57, List.forall_mem_cons.mpr ⟨ab_gd_of ck_58, List.forall_mem_cons.mpr ⟨ab_gd_of ck_59, List.forall_mem_cons.mpr ⟨ab_gd_of ck_60, List.forall_mem_cons.mpr ⟨ab_gd_of ck_61, List.forall_mem_cons.mpr ⟨ab_gd_of ck_62, List.forall_mem_cons.mpr ⟨ab_gd_of ck_63, List.forall_mem_cons.mpr ⟨ab_gd_of ck_64, List.forall_mem_cons.mpr ⟨ab_gd_of ck_65, List.forall_mem_cons.mpr ⟨ab_gd_of ck_66, List.forall_mem_cons.mpr ⟨ab_gd_of ck_67, List.forall_mem_cons.mpr ⟨ab_gd_of ck_68, List.forall_mem_cons.mpr ⟨ab_gd_of ck_69, List.forall_mem_cons.mpr ⟨ab_gd_of ck_70, List.forall_mem_cons.mpr ⟨ab_gd_of ck_71, List.forall_mem_cons.mpr ⟨ab_gd_of ck_72, List.forall_mem_cons.mpr ⟨ab_gd_of ck_73, List.forall_mem_cons.mpr ⟨ab_gd_of ck_74, List.forall_mem_cons.mpr ⟨ab_gd_of ck_75, List.forall_mem_cons.mpr ⟨ab_gd_of ck_76, List.forall_mem_cons.mpr ⟨ab_gd_of ck_77, List.forall_mem_cons.mpr ⟨ab_gd_of ck_78, List.forall_mem_cons.mpr ⟨ab_gd_of ck_79, List.forall_mem_cons.mpr ⟨ab_gd_of ck_80, List.forall_mem_cons.mpr ⟨ab_gd_of ck_81, List.forall_mem_cons.mpr ⟨ab_gd_of ck_82, List.forall_mem_cons.mpr ⟨ab_gd_of ck_83, List.forall_mem_cons.mpr ⟨ab_gd_of ck_84, List.forall_mem_cons.mpr ⟨ab_gd_of ck_85, List.forall_mem_cons.mpr ⟨ab_gd_of ck_86, List.forall_mem_cons.mpr ⟨ab_gd_of ck_87, List.forall_mem_cons.mpr ⟨ab_gd_of ck_88, List.forall_mem_cons.mpr ⟨ab_gd_of ck_89, List.forall_mem_cons.mpr ⟨ab_gd_of ck_90, List.forall_mem_cons.mpr ⟨ab_gd_of ck_91, List.forall_mem_cons.mpr ⟨ab_gd_of ck_92, List.forall_mem_cons.mpr ⟨ab_gd_of ck_93, List.forall_mem_cons.mpr ⟨ab_gd_of ck_94, List.forall_mem_cons.mpr ⟨ab_gd_of ck_95, List.forall_mem_cons.mpr ⟨ab_gd_of ck_96, List.forall_mem_cons.mpr ⟨ab_gd_of ck_97, List.forall_mem_cons.mpr ⟨ab_gd_of ck_98, List.forall_mem_cons.mpr ⟨ab_gd_of ck_99, List.forall_mem_cons.mpr ⟨ab_gd_of ck_100, List.forall_mem_cons.mpr ⟨ab_gd_of ck_101, List.forall_mem_cons.mpr ⟨ab_gd_of ck_102, List.forall_mem_cons.mpr ⟨ab_gd_of ck_103, List.forall_mem_cons.mpr ⟨ab_gd_of ck_104, List.forall_mem_cons.mpr ⟨ab_gd_of ck_105, List.forall_mem_cons.mpr ⟨ab_gd_of ck_106, List.forall_mem_cons.mpr ⟨ab_gd_of ck_107, List.forall_mem_cons.mpr ⟨ab_gd_of ck_108, List.forall_mem_cons.mpr ⟨ab_gd_of ck_109, List.forall_mem_cons.mpr ⟨ab_gd_of ck_110, List.forall_mem_cons.mpr ⟨ab_gd_of ck_111, List.forall_mem_cons.mpr ⟨ab_gd_of ck_112, List.forall_mem_cons.mpr ⟨ab_gd_of ck_113, List.forall_mem_cons.mpr ⟨ab_gd_of ck_114, List.forall_mem_cons.mpr ⟨ab_gd_of ck_115, List.forall_mem_cons.mpr ⟨ab_gd_of ck_116, List.forall_mem_cons.mpr ⟨ab_gd_of ck_117, List.forall_mem_cons.mpr ⟨ab_gd_of ck_118, List.forall_mem_cons.mpr ⟨ab_gd_of ck_119, List.forall_mem_cons.mpr ⟨ab_gd_of ck_120, List.forall_mem_cons.mpr ⟨ab_gd_of ck_121, List.forall_mem_cons.mpr ⟨ab_gd_of ck_122, List.forall_mem_cons.mpr ⟨ab_gd_of ck_123, List.forall_mem_cons.mpr ⟨ab_gd_of ck_124, List.forall_mem_cons.mpr ⟨ab_gd_of ck_125, List.forall_mem_cons.mpr ⟨ab_gd_of ck_126, List.forall_mem_cons.mpr ⟨ab_gd_of ck_127, List.forall_mem_cons.mpr ⟨ab_gd_of ck_128, List.forall_mem_cons.mpr ⟨ab_gd_of ck_129, List.forall_mem_cons.mpr ⟨ab_gd_of ck_130, List.forall_mem_cons.mpr ⟨ab_gd_of ck_131, List.forall_mem_cons.mpr ⟨ab_gd_of ck_132, List.forall_mem_cons.mpr ⟨ab_gd_of ck_133, List.forall_mem_cons.mpr ⟨ab_gd_of ck_134, List.forall_mem_cons.mpr ⟨ab_gd_of ck_135, List.forall_mem_cons.mpr ⟨gd_136, List.forall_mem_cons.mpr ⟨ab_gd_of ck_137, fun _ h => absurd h List.not_mem_nil⟩⟩⟩⟩⟩⟩⟩⟩⟩⟩⟩⟩⟩⟩⟩⟩⟩⟩⟩⟩⟩⟩⟩⟩⟩⟩⟩⟩⟩⟩⟩⟩⟩⟩⟩⟩⟩⟩⟩⟩⟩⟩⟩⟩⟩⟩⟩⟩⟩⟩⟩⟩⟩⟩⟩⟩⟩⟩⟩⟩⟩⟩⟩⟩⟩⟩⟩⟩⟩⟩⟩⟩⟩⟩⟩⟩⟩⟩⟩⟩⟩⟩⟩⟩⟩⟩⟩⟩⟩⟩⟩⟩⟩⟩⟩⟩⟩⟩⟩⟩⟩⟩⟩⟩⟩⟩⟩⟩⟩⟩⟩⟩⟩⟩⟩⟩⟩⟩⟩⟩⟩⟩⟩⟩⟩⟩⟩⟩⟩⟩⟩⟩⟩⟩⟩⟩⟩⟩
theorem ab_mt_mem (i : Nat) : ab_mt i ∈ ab_Ms := by
  unfold ab_mt
  rw [List.getD_eq_getElem?_getD]
  cases h : ab_Ms[i]? with
  | none => exact List.mem_cons_self
  | some m => exact List.mem_of_getElem? h
theorem ab_gdi (i : Nat) : ab_gd (ab_mt i) := ab_gds _ (ab_mt_mem i)
/-- no listing ends with an instruction that goes on -/
def ab_end (L : List ab_I) : Bool := match L.getLast? with
  | some t => (match t.2.1 with
    | .ireturn => true
    | .return_ => true
    | .athrow => true
    | .goto _ => true
    | _ => false)
  | none => false
set_option maxRecDepth 100000 in
theorem ab_ends : ∀ m ∈ ab_Ms, ab_end m.2.2.2.2.2.2.2 = true := by decide +kernel
theorem ab_end_of {L : List ab_I} (h : ab_end L = true) {n : Nat} {t : ab_I} (ht : L[n]? = some t) (h1 : t.2.1 ≠ .ireturn) (h2 : t.2.1 ≠ .return_) (h3 : t.2.1 ≠ .athrow) (h4 : ∀ o, t.2.1 ≠ .goto o) : ∃ u, L[n + 1]? = some u := by
  by_cases hn : n + 1 < L.length
  · exact ⟨L[n + 1], List.getElem?_eq_getElem hn⟩
  · exfalso
    obtain ⟨hl, he⟩ := List.getElem?_eq_some_iff.mp ht
    have hla : L.getLast? = some t := by
      rw [List.getLast?_eq_getElem?, show L.length - 1 = n by omega]
      exact ht
    rw [ab_end, hla] at h
    dsimp only at h
    split at h
    · rename_i e; exact h1 e
    · rename_i e; exact h2 e
    · rename_i e; exact h3 e
    · rename_i o e; exact h4 _ e
    · cases h
end Good
