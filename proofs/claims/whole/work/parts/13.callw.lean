/-! The words that calls ask, put together. By program. -/
theorem ab_kwok : ∀ i, i < 138 → i ≠ 136 → ab_kw i ∈ lw_tbl
  | 0, _, _ => kw_0
  | 1, _, _ => kw_1
  | 2, _, _ => kw_2
  | 3, _, _ => kw_3
  | 4, _, _ => kw_4
  | 5, _, _ => kw_5
  | 6, _, _ => kw_6
  | 7, _, _ => kw_7
  | 8, _, _ => kw_8
  | 9, _, _ => kw_9
  | 10, _, _ => kw_10
  | 11, _, _ => kw_11
  | 12, _, _ => kw_12
  | 13, _, _ => kw_13
  | 14, _, _ => kw_14
  | 15, _, _ => kw_15
  | 16, _, _ => kw_16
  | 17, _, _ => kw_17
  | 18, _, _ => kw_18
  | 19, _, _ => kw_19
  | 20, _, _ => kw_20
  | 21, _, _ => kw_21
  | 22, _, _ => kw_22
  | 23, _, _ => kw_23
  | 24, _, _ => kw_24
  | 25, _, _ => kw_25
  | 26, _, _ => kw_26
  | 27, _, _ => kw_27
  | 28, _, _ => kw_28
  | 29, _, _ => kw_29
  | 30, _, _ => kw_30
  | 31, _, _ => kw_31
  | 32, _, _ => kw_32
  | 33, _, _ => kw_33
  | 34, _, _ => kw_34
  | 35, _, _ => kw_35
  | 36, _, _ => kw_36
  | 37, _, _ => kw_37
  | 38, _, _ => kw_38
  | 39, _, _ => kw_39
  | 40, _, _ => kw_40
  | 41, _, _ => kw_41
  | 42, _, _ => kw_42
  | 43, _, _ => kw_43
  | 44, _, _ => kw_44
  | 45, _, _ => kw_45
  | 46, _, _ => kw_46
  | 47, _, _ => kw_47
  | 48, _, _ => kw_48
  | 49, _, _ => kw_49
  | 50, _, _ => kw_50
  | 51, _, _ => kw_51
  | 52, _, _ => kw_52
  | 53, _, _ => kw_53
  | 54, _, _ => kw_54
  | 55, _, _ => kw_55
  | 56, _, _ => kw_56
  | 57, _, _ => kw_57
  | 58, _, _ => kw_58
  | 59, _, _ => kw_59
  | 60, _, _ => kw_60
  | 61, _, _ => kw_61
  | 62, _, _ => kw_62
  | 63, _, _ => kw_63
  | 64, _, _ => kw_64
  | 65, _, _ => kw_65
  | 66, _, _ => kw_66
  | 67, _, _ => kw_67
  | 68, _, _ => kw_68
  | 69, _, _ => kw_69
  | 70, _, _ => kw_70
  | 71, _, _ => kw_71
  | 72, _, _ => kw_72
  | 73, _, _ => kw_73
  | 74, _, _ => kw_74
  | 75, _, _ => kw_75
  | 76, _, _ => kw_76
  | 77, _, _ => kw_77
  | 78, _, _ => kw_78
  | 79, _, _ => kw_79
  | 80, _, _ => kw_80
  | 81, _, _ => kw_81
  | 82, _, _ => kw_82
  | 83, _, _ => kw_83
  | 84, _, _ => kw_84
  | 85, _, _ => kw_85
  | 86, _, _ => kw_86
  | 87, _, _ => kw_87
  | 88, _, _ => kw_88
  | 89, _, _ => kw_89
  | 90, _, _ => kw_90
  | 91, _, _ => kw_91
  | 92, _, _ => kw_92
  | 93, _, _ => kw_93
  | 94, _, _ => kw_94
  | 95, _, _ => kw_95
  | 96, _, _ => kw_96
  | 97, _, _ => kw_97
  | 98, _, _ => kw_98
  | 99, _, _ => kw_99
  | 100, _, _ => kw_100
  | 101, _, _ => kw_101
  | 102, _, _ => kw_102
  | 103, _, _ => kw_103
  | 104, _, _ => kw_104
  | 105, _, _ => kw_105
  | 106, _, _ => kw_106
  | 107, _, _ => kw_107
  | 108, _, _ => kw_108
  | 109, _, _ => kw_109
  | 110, _, _ => kw_110
  | 111, _, _ => kw_111
  | 112, _, _ => kw_112
  | 113, _, _ => kw_113
  | 114, _, _ => kw_114
  | 115, _, _ => kw_115
  | 116, _, _ => kw_116
  | 117, _, _ => kw_117
  | 118, _, _ => kw_118
  | 119, _, _ => kw_119
  | 120, _, _ => kw_120
  | 121, _, _ => kw_121
  | 122, _, _ => kw_122
  | 123, _, _ => kw_123
  | 124, _, _ => kw_124
  | 125, _, _ => kw_125
  | 126, _, _ => kw_126
  | 127, _, _ => kw_127
  | 128, _, _ => kw_128
  | 129, _, _ => kw_129
  | 130, _, _ => kw_130
  | 131, _, _ => kw_131
  | 132, _, _ => kw_132
  | 133, _, _ => kw_133
  | 134, _, _ => kw_134
  | 135, _, _ => kw_135
  | 136, _, h => absurd rfl h
  | 137, _, _ => kw_137
  | n + 138, h, _ => absurd h (by omega)
set_option maxRecDepth 100000 in
theorem ab_ynok : ∀ m ∈ ab_Ms, plainName m.2.1.cls = true ∧ m.2.1.cls ≠ "java/lang/invoke/MethodHandle" ∧ m.2.1.cls ≠ "java/lang/invoke/VarHandle" ∧ m.2.1.cls = ab_cs m.1 ∧ m.1 < 9 := by decide +kernel
set_option maxRecDepth 100000 in
theorem ab_pnok : ∀ i ∈ List.range 138, (parseMethodDescriptor (ab_yn i).desc).map (fun d => d.parameters.length) = some (ab_pn i) := by decide +kernel
theorem ab_iniok : ∀ c ∈ List.range 9, Cond.initialized (ab_cs c) ∈ lw_tbl := by decide +kernel
/-- the words of a call: kind 0 virtual, 1 static, 2 static of a nest mate -/
def ab_cw (q : Nat × Nat × Nat × Nat) : List Cond := match q.2.1 with
  | 0 => [.methodLink (ab_cs q.1) q.2.2.1 (ab_yn q.2.2.2), .instanceMethod (ab_yn q.2.2.2), .selects (ab_yn q.2.2.2).cls (ab_yn q.2.2.2) (ab_yn q.2.2.2)]
  | 1 => [.methodLink (ab_cs q.1) q.2.2.1 (ab_yn q.2.2.2), .static (ab_yn q.2.2.2)]
  | _ => [.methodLinkNest (ab_cs q.1) q.2.2.1 (ab_yn q.2.2.2) "ParserProof", .static (ab_yn q.2.2.2)]
def ab_cok (q : Nat × Nat × Nat × Nat) : Prop := (∀ w ∈ ab_cw q, w ∈ lw_tbl) ∧ q.2.2.2 < 138 ∧ q.2.2.2 ≠ 136 ∧ q.2.1 < 3
theorem ct_0 : ab_cok (5, 1, 46, 106) := ⟨List.forall_mem_cons.mpr ⟨List.mem_append_right _ (List.mem_of_getElem? (i := 240) (by decide +kernel)), List.forall_mem_cons.mpr ⟨sx_106, fun _ h => absurd h List.not_mem_nil⟩⟩, by decide, by decide, by decide⟩
theorem ct_1 : ab_cok (5, 0, 66, 16) := ⟨List.forall_mem_cons.mpr ⟨List.mem_append_right _ (List.mem_of_getElem? (i := 176) (by decide +kernel)), List.forall_mem_cons.mpr ⟨im_16, List.forall_mem_cons.mpr ⟨se_16, fun _ h => absurd h List.not_mem_nil⟩⟩⟩, by decide, by decide, by decide⟩
theorem ct_2 : ab_cok (5, 0, 69, 107) := ⟨List.forall_mem_cons.mpr ⟨List.mem_append_right _ (List.mem_of_getElem? (i := 334) (by decide +kernel)), List.forall_mem_cons.mpr ⟨im_107, List.forall_mem_cons.mpr ⟨se_107, fun _ h => absurd h List.not_mem_nil⟩⟩⟩, by decide, by decide, by decide⟩
theorem ct_3 : ab_cok (5, 0, 73, 108) := ⟨List.forall_mem_cons.mpr ⟨List.mem_append_right _ (List.mem_of_getElem? (i := 192) (by decide +kernel)), List.forall_mem_cons.mpr ⟨im_108, List.forall_mem_cons.mpr ⟨se_108, fun _ h => absurd h List.not_mem_nil⟩⟩⟩, by decide, by decide, by decide⟩
theorem ct_4 : ab_cok (5, 0, 78, 85) := ⟨List.forall_mem_cons.mpr ⟨List.mem_append_right _ (List.mem_of_getElem? (i := 351) (by decide +kernel)), List.forall_mem_cons.mpr ⟨im_85, List.forall_mem_cons.mpr ⟨se_85, fun _ h => absurd h List.not_mem_nil⟩⟩⟩, by decide, by decide, by decide⟩
theorem ct_5 : ab_cok (5, 0, 88, 19) := ⟨List.forall_mem_cons.mpr ⟨List.mem_append_right _ (List.mem_of_getElem? (i := 462) (by decide +kernel)), List.forall_mem_cons.mpr ⟨im_19, List.forall_mem_cons.mpr ⟨se_19, fun _ h => absurd h List.not_mem_nil⟩⟩⟩, by decide, by decide, by decide⟩
theorem ct_6 : ab_cok (5, 0, 92, 78) := ⟨List.forall_mem_cons.mpr ⟨List.mem_append_right _ (List.mem_of_getElem? (i := 487) (by decide +kernel)), List.forall_mem_cons.mpr ⟨im_78, List.forall_mem_cons.mpr ⟨se_78, fun _ h => absurd h List.not_mem_nil⟩⟩⟩, by decide, by decide, by decide⟩
theorem ct_7 : ab_cok (5, 0, 96, 22) := ⟨List.forall_mem_cons.mpr ⟨List.mem_append_right _ (List.mem_of_getElem? (i := 495) (by decide +kernel)), List.forall_mem_cons.mpr ⟨im_22, List.forall_mem_cons.mpr ⟨se_22, fun _ h => absurd h List.not_mem_nil⟩⟩⟩, by decide, by decide, by decide⟩
theorem ct_8 : ab_cok (5, 0, 101, 79) := ⟨List.forall_mem_cons.mpr ⟨List.mem_append_right _ (List.mem_of_getElem? (i := 501) (by decide +kernel)), List.forall_mem_cons.mpr ⟨im_79, List.forall_mem_cons.mpr ⟨se_79, fun _ h => absurd h List.not_mem_nil⟩⟩⟩, by decide, by decide, by decide⟩
theorem ct_9 : ab_cok (5, 0, 105, 116) := ⟨List.forall_mem_cons.mpr ⟨List.mem_append_right _ (List.mem_of_getElem? (i := 188) (by decide +kernel)), List.forall_mem_cons.mpr ⟨im_116, List.forall_mem_cons.mpr ⟨se_116, fun _ h => absurd h List.not_mem_nil⟩⟩⟩, by decide, by decide, by decide⟩
theorem ct_10 : ab_cok (5, 0, 108, 20) := ⟨List.forall_mem_cons.mpr ⟨List.mem_append_right _ (List.mem_of_getElem? (i := 509) (by decide +kernel)), List.forall_mem_cons.mpr ⟨im_20, List.forall_mem_cons.mpr ⟨se_20, fun _ h => absurd h List.not_mem_nil⟩⟩⟩, by decide, by decide, by decide⟩
theorem ct_11 : ab_cok (5, 0, 112, 81) := ⟨List.forall_mem_cons.mpr ⟨List.mem_append_right _ (List.mem_of_getElem? (i := 518) (by decide +kernel)), List.forall_mem_cons.mpr ⟨im_81, List.forall_mem_cons.mpr ⟨se_81, fun _ h => absurd h List.not_mem_nil⟩⟩⟩, by decide, by decide, by decide⟩
theorem ct_12 : ab_cok (5, 0, 116, 82) := ⟨List.forall_mem_cons.mpr ⟨List.mem_append_right _ (List.mem_of_getElem? (i := 531) (by decide +kernel)), List.forall_mem_cons.mpr ⟨im_82, List.forall_mem_cons.mpr ⟨se_82, fun _ h => absurd h List.not_mem_nil⟩⟩⟩, by decide, by decide, by decide⟩
theorem ct_13 : ab_cok (5, 0, 119, 17) := ⟨List.forall_mem_cons.mpr ⟨List.mem_append_right _ (List.mem_of_getElem? (i := 542) (by decide +kernel)), List.forall_mem_cons.mpr ⟨im_17, List.forall_mem_cons.mpr ⟨se_17, fun _ h => absurd h List.not_mem_nil⟩⟩⟩, by decide, by decide, by decide⟩
theorem ct_14 : ab_cok (5, 0, 122, 95) := ⟨List.forall_mem_cons.mpr ⟨List.mem_append_right _ (List.mem_of_getElem? (i := 547) (by decide +kernel)), List.forall_mem_cons.mpr ⟨im_95, List.forall_mem_cons.mpr ⟨se_95, fun _ h => absurd h List.not_mem_nil⟩⟩⟩, by decide, by decide, by decide⟩
theorem ct_15 : ab_cok (5, 0, 126, 94) := ⟨List.forall_mem_cons.mpr ⟨List.mem_append_right _ (List.mem_of_getElem? (i := 204) (by decide +kernel)), List.forall_mem_cons.mpr ⟨im_94, List.forall_mem_cons.mpr ⟨se_94, fun _ h => absurd h List.not_mem_nil⟩⟩⟩, by decide, by decide, by decide⟩
theorem ct_16 : ab_cok (5, 1, 129, 24) := ⟨List.forall_mem_cons.mpr ⟨List.mem_append_right _ (List.mem_of_getElem? (i := 212) (by decide +kernel)), List.forall_mem_cons.mpr ⟨sx_24, fun _ h => absurd h List.not_mem_nil⟩⟩, by decide, by decide, by decide⟩
theorem ct_17 : ab_cok (5, 0, 135, 115) := ⟨List.forall_mem_cons.mpr ⟨List.mem_append_right _ (List.mem_of_getElem? (i := 215) (by decide +kernel)), List.forall_mem_cons.mpr ⟨im_115, List.forall_mem_cons.mpr ⟨se_115, fun _ h => absurd h List.not_mem_nil⟩⟩⟩, by decide, by decide, by decide⟩
theorem ct_18 : ab_cok (5, 0, 140, 118) := ⟨List.forall_mem_cons.mpr ⟨List.mem_append_right _ (List.mem_of_getElem? (i := 603) (by decide +kernel)), List.forall_mem_cons.mpr ⟨im_118, List.forall_mem_cons.mpr ⟨se_118, fun _ h => absurd h List.not_mem_nil⟩⟩⟩, by decide, by decide, by decide⟩
theorem ct_19 : ab_cok (5, 0, 153, 117) := ⟨List.forall_mem_cons.mpr ⟨List.mem_append_right _ (List.mem_of_getElem? (i := 657) (by decide +kernel)), List.forall_mem_cons.mpr ⟨im_117, List.forall_mem_cons.mpr ⟨se_117, fun _ h => absurd h List.not_mem_nil⟩⟩⟩, by decide, by decide, by decide⟩
theorem ct_20 : ab_cok (5, 0, 159, 92) := ⟨List.forall_mem_cons.mpr ⟨List.mem_append_right _ (List.mem_of_getElem? (i := 180) (by decide +kernel)), List.forall_mem_cons.mpr ⟨im_92, List.forall_mem_cons.mpr ⟨se_92, fun _ h => absurd h List.not_mem_nil⟩⟩⟩, by decide, by decide, by decide⟩
theorem ct_21 : ab_cok (5, 0, 164, 18) := ⟨List.forall_mem_cons.mpr ⟨List.mem_append_right _ (List.mem_of_getElem? (i := 466) (by decide +kernel)), List.forall_mem_cons.mpr ⟨im_18, List.forall_mem_cons.mpr ⟨se_18, fun _ h => absurd h List.not_mem_nil⟩⟩⟩, by decide, by decide, by decide⟩
theorem ct_22 : ab_cok (5, 0, 170, 21) := ⟨List.forall_mem_cons.mpr ⟨List.mem_append_right _ (List.mem_of_getElem? (i := 513) (by decide +kernel)), List.forall_mem_cons.mpr ⟨im_21, List.forall_mem_cons.mpr ⟨se_21, fun _ h => absurd h List.not_mem_nil⟩⟩⟩, by decide, by decide, by decide⟩
theorem ct_23 : ab_cok (5, 0, 176, 109) := ⟨List.forall_mem_cons.mpr ⟨List.mem_append_right _ (List.mem_of_getElem? (i := 499) (by decide +kernel)), List.forall_mem_cons.mpr ⟨im_109, List.forall_mem_cons.mpr ⟨se_109, fun _ h => absurd h List.not_mem_nil⟩⟩⟩, by decide, by decide, by decide⟩
theorem ct_24 : ab_cok (6, 0, 85, 29) := ⟨List.forall_mem_cons.mpr ⟨List.mem_append_right _ (List.mem_of_getElem? (i := 763) (by decide +kernel)), List.forall_mem_cons.mpr ⟨im_29, List.forall_mem_cons.mpr ⟨se_29, fun _ h => absurd h List.not_mem_nil⟩⟩⟩, by decide, by decide, by decide⟩
theorem ct_25 : ab_cok (6, 0, 92, 33) := ⟨List.forall_mem_cons.mpr ⟨List.mem_append_right _ (List.mem_of_getElem? (i := 767) (by decide +kernel)), List.forall_mem_cons.mpr ⟨im_33, List.forall_mem_cons.mpr ⟨se_33, fun _ h => absurd h List.not_mem_nil⟩⟩⟩, by decide, by decide, by decide⟩
theorem ct_26 : ab_cok (6, 0, 98, 30) := ⟨List.forall_mem_cons.mpr ⟨List.mem_append_right _ (List.mem_of_getElem? (i := 771) (by decide +kernel)), List.forall_mem_cons.mpr ⟨im_30, List.forall_mem_cons.mpr ⟨se_30, fun _ h => absurd h List.not_mem_nil⟩⟩⟩, by decide, by decide, by decide⟩
theorem ct_27 : ab_cok (6, 0, 101, 31) := ⟨List.forall_mem_cons.mpr ⟨List.mem_append_right _ (List.mem_of_getElem? (i := 775) (by decide +kernel)), List.forall_mem_cons.mpr ⟨im_31, List.forall_mem_cons.mpr ⟨se_31, fun _ h => absurd h List.not_mem_nil⟩⟩⟩, by decide, by decide, by decide⟩
theorem ct_28 : ab_cok (6, 0, 105, 35) := ⟨List.forall_mem_cons.mpr ⟨List.mem_append_right _ (List.mem_of_getElem? (i := 799) (by decide +kernel)), List.forall_mem_cons.mpr ⟨im_35, List.forall_mem_cons.mpr ⟨se_35, fun _ h => absurd h List.not_mem_nil⟩⟩⟩, by decide, by decide, by decide⟩
theorem ct_29 : ab_cok (6, 0, 108, 36) := ⟨List.forall_mem_cons.mpr ⟨List.mem_append_right _ (List.mem_of_getElem? (i := 795) (by decide +kernel)), List.forall_mem_cons.mpr ⟨im_36, List.forall_mem_cons.mpr ⟨se_36, fun _ h => absurd h List.not_mem_nil⟩⟩⟩, by decide, by decide, by decide⟩
theorem ct_30 : ab_cok (6, 0, 112, 37) := ⟨List.forall_mem_cons.mpr ⟨List.mem_append_right _ (List.mem_of_getElem? (i := 803) (by decide +kernel)), List.forall_mem_cons.mpr ⟨im_37, List.forall_mem_cons.mpr ⟨se_37, fun _ h => absurd h List.not_mem_nil⟩⟩⟩, by decide, by decide, by decide⟩
theorem ct_31 : ab_cok (6, 0, 116, 38) := ⟨List.forall_mem_cons.mpr ⟨List.mem_append_right _ (List.mem_of_getElem? (i := 791) (by decide +kernel)), List.forall_mem_cons.mpr ⟨im_38, List.forall_mem_cons.mpr ⟨se_38, fun _ h => absurd h List.not_mem_nil⟩⟩⟩, by decide, by decide, by decide⟩
theorem ct_32 : ab_cok (6, 1, 120, 41) := ⟨List.forall_mem_cons.mpr ⟨List.mem_append_right _ (List.mem_of_getElem? (i := 811) (by decide +kernel)), List.forall_mem_cons.mpr ⟨sx_41, fun _ h => absurd h List.not_mem_nil⟩⟩, by decide, by decide, by decide⟩
theorem ct_33 : ab_cok (6, 0, 127, 40) := ⟨List.forall_mem_cons.mpr ⟨List.mem_append_right _ (List.mem_of_getElem? (i := 822) (by decide +kernel)), List.forall_mem_cons.mpr ⟨im_40, List.forall_mem_cons.mpr ⟨se_40, fun _ h => absurd h List.not_mem_nil⟩⟩⟩, by decide, by decide, by decide⟩
theorem ct_34 : ab_cok (6, 0, 130, 43) := ⟨List.forall_mem_cons.mpr ⟨List.mem_append_right _ (List.mem_of_getElem? (i := 814) (by decide +kernel)), List.forall_mem_cons.mpr ⟨im_43, List.forall_mem_cons.mpr ⟨se_43, fun _ h => absurd h List.not_mem_nil⟩⟩⟩, by decide, by decide, by decide⟩
theorem ct_35 : ab_cok (6, 0, 134, 44) := ⟨List.forall_mem_cons.mpr ⟨List.mem_append_right _ (List.mem_of_getElem? (i := 807) (by decide +kernel)), List.forall_mem_cons.mpr ⟨im_44, List.forall_mem_cons.mpr ⟨se_44, fun _ h => absurd h List.not_mem_nil⟩⟩⟩, by decide, by decide, by decide⟩
theorem ct_36 : ab_cok (6, 0, 137, 45) := ⟨List.forall_mem_cons.mpr ⟨List.mem_append_right _ (List.mem_of_getElem? (i := 818) (by decide +kernel)), List.forall_mem_cons.mpr ⟨im_45, List.forall_mem_cons.mpr ⟨se_45, fun _ h => absurd h List.not_mem_nil⟩⟩⟩, by decide, by decide, by decide⟩
theorem ct_37 : ab_cok (6, 0, 140, 46) := ⟨List.forall_mem_cons.mpr ⟨List.mem_append_right _ (List.mem_of_getElem? (i := 826) (by decide +kernel)), List.forall_mem_cons.mpr ⟨im_46, List.forall_mem_cons.mpr ⟨se_46, fun _ h => absurd h List.not_mem_nil⟩⟩⟩, by decide, by decide, by decide⟩
theorem ct_38 : ab_cok (6, 0, 144, 39) := ⟨List.forall_mem_cons.mpr ⟨List.mem_append_right _ (List.mem_of_getElem? (i := 787) (by decide +kernel)), List.forall_mem_cons.mpr ⟨im_39, List.forall_mem_cons.mpr ⟨se_39, fun _ h => absurd h List.not_mem_nil⟩⟩⟩, by decide, by decide, by decide⟩
theorem ct_39 : ab_cok (6, 0, 147, 47) := ⟨List.forall_mem_cons.mpr ⟨List.mem_append_right _ (List.mem_of_getElem? (i := 830) (by decide +kernel)), List.forall_mem_cons.mpr ⟨im_47, List.forall_mem_cons.mpr ⟨se_47, fun _ h => absurd h List.not_mem_nil⟩⟩⟩, by decide, by decide, by decide⟩
theorem ct_40 : ab_cok (6, 0, 151, 48) := ⟨List.forall_mem_cons.mpr ⟨List.mem_append_right _ (List.mem_of_getElem? (i := 834) (by decide +kernel)), List.forall_mem_cons.mpr ⟨im_48, List.forall_mem_cons.mpr ⟨se_48, fun _ h => absurd h List.not_mem_nil⟩⟩⟩, by decide, by decide, by decide⟩
theorem ct_41 : ab_cok (6, 0, 154, 51) := ⟨List.forall_mem_cons.mpr ⟨List.mem_append_right _ (List.mem_of_getElem? (i := 846) (by decide +kernel)), List.forall_mem_cons.mpr ⟨im_51, List.forall_mem_cons.mpr ⟨se_51, fun _ h => absurd h List.not_mem_nil⟩⟩⟩, by decide, by decide, by decide⟩
theorem ct_42 : ab_cok (6, 1, 157, 52) := ⟨List.forall_mem_cons.mpr ⟨List.mem_append_right _ (List.mem_of_getElem? (i := 850) (by decide +kernel)), List.forall_mem_cons.mpr ⟨sx_52, fun _ h => absurd h List.not_mem_nil⟩⟩, by decide, by decide, by decide⟩
theorem ct_43 : ab_cok (6, 0, 160, 55) := ⟨List.forall_mem_cons.mpr ⟨List.mem_append_right _ (List.mem_of_getElem? (i := 861) (by decide +kernel)), List.forall_mem_cons.mpr ⟨im_55, List.forall_mem_cons.mpr ⟨se_55, fun _ h => absurd h List.not_mem_nil⟩⟩⟩, by decide, by decide, by decide⟩
theorem ct_44 : ab_cok (6, 0, 163, 42) := ⟨List.forall_mem_cons.mpr ⟨List.mem_append_right _ (List.mem_of_getElem? (i := 865) (by decide +kernel)), List.forall_mem_cons.mpr ⟨im_42, List.forall_mem_cons.mpr ⟨se_42, fun _ h => absurd h List.not_mem_nil⟩⟩⟩, by decide, by decide, by decide⟩
theorem ct_45 : ab_cok (6, 0, 166, 58) := ⟨List.forall_mem_cons.mpr ⟨List.mem_append_right _ (List.mem_of_getElem? (i := 885) (by decide +kernel)), List.forall_mem_cons.mpr ⟨im_58, List.forall_mem_cons.mpr ⟨se_58, fun _ h => absurd h List.not_mem_nil⟩⟩⟩, by decide, by decide, by decide⟩
theorem ct_46 : ab_cok (6, 0, 169, 59) := ⟨List.forall_mem_cons.mpr ⟨List.mem_append_right _ (List.mem_of_getElem? (i := 901) (by decide +kernel)), List.forall_mem_cons.mpr ⟨im_59, List.forall_mem_cons.mpr ⟨se_59, fun _ h => absurd h List.not_mem_nil⟩⟩⟩, by decide, by decide, by decide⟩
theorem ct_47 : ab_cok (6, 0, 172, 60) := ⟨List.forall_mem_cons.mpr ⟨List.mem_append_right _ (List.mem_of_getElem? (i := 897) (by decide +kernel)), List.forall_mem_cons.mpr ⟨im_60, List.forall_mem_cons.mpr ⟨se_60, fun _ h => absurd h List.not_mem_nil⟩⟩⟩, by decide, by decide, by decide⟩
theorem ct_48 : ab_cok (6, 0, 176, 62) := ⟨List.forall_mem_cons.mpr ⟨List.mem_append_right _ (List.mem_of_getElem? (i := 881) (by decide +kernel)), List.forall_mem_cons.mpr ⟨im_62, List.forall_mem_cons.mpr ⟨se_62, fun _ h => absurd h List.not_mem_nil⟩⟩⟩, by decide, by decide, by decide⟩
theorem ct_49 : ab_cok (6, 0, 179, 63) := ⟨List.forall_mem_cons.mpr ⟨List.mem_append_right _ (List.mem_of_getElem? (i := 889) (by decide +kernel)), List.forall_mem_cons.mpr ⟨im_63, List.forall_mem_cons.mpr ⟨se_63, fun _ h => absurd h List.not_mem_nil⟩⟩⟩, by decide, by decide, by decide⟩
theorem ct_50 : ab_cok (6, 0, 182, 64) := ⟨List.forall_mem_cons.mpr ⟨List.mem_append_right _ (List.mem_of_getElem? (i := 877) (by decide +kernel)), List.forall_mem_cons.mpr ⟨im_64, List.forall_mem_cons.mpr ⟨se_64, fun _ h => absurd h List.not_mem_nil⟩⟩⟩, by decide, by decide, by decide⟩
theorem ct_51 : ab_cok (6, 0, 185, 61) := ⟨List.forall_mem_cons.mpr ⟨List.mem_append_right _ (List.mem_of_getElem? (i := 893) (by decide +kernel)), List.forall_mem_cons.mpr ⟨im_61, List.forall_mem_cons.mpr ⟨se_61, fun _ h => absurd h List.not_mem_nil⟩⟩⟩, by decide, by decide, by decide⟩
theorem ct_52 : ab_cok (6, 0, 197, 69) := ⟨List.forall_mem_cons.mpr ⟨List.mem_append_right _ (List.mem_of_getElem? (i := 929) (by decide +kernel)), List.forall_mem_cons.mpr ⟨im_69, List.forall_mem_cons.mpr ⟨se_69, fun _ h => absurd h List.not_mem_nil⟩⟩⟩, by decide, by decide, by decide⟩
theorem ct_53 : ab_cok (6, 0, 201, 70) := ⟨List.forall_mem_cons.mpr ⟨List.mem_append_right _ (List.mem_of_getElem? (i := 933) (by decide +kernel)), List.forall_mem_cons.mpr ⟨im_70, List.forall_mem_cons.mpr ⟨se_70, fun _ h => absurd h List.not_mem_nil⟩⟩⟩, by decide, by decide, by decide⟩
theorem ct_54 : ab_cok (6, 0, 204, 71) := ⟨List.forall_mem_cons.mpr ⟨List.mem_append_right _ (List.mem_of_getElem? (i := 925) (by decide +kernel)), List.forall_mem_cons.mpr ⟨im_71, List.forall_mem_cons.mpr ⟨se_71, fun _ h => absurd h List.not_mem_nil⟩⟩⟩, by decide, by decide, by decide⟩
theorem ct_55 : ab_cok (6, 0, 207, 72) := ⟨List.forall_mem_cons.mpr ⟨List.mem_append_right _ (List.mem_of_getElem? (i := 937) (by decide +kernel)), List.forall_mem_cons.mpr ⟨im_72, List.forall_mem_cons.mpr ⟨se_72, fun _ h => absurd h List.not_mem_nil⟩⟩⟩, by decide, by decide, by decide⟩
theorem ct_56 : ab_cok (6, 0, 210, 73) := ⟨List.forall_mem_cons.mpr ⟨List.mem_append_right _ (List.mem_of_getElem? (i := 921) (by decide +kernel)), List.forall_mem_cons.mpr ⟨im_73, List.forall_mem_cons.mpr ⟨se_73, fun _ h => absurd h List.not_mem_nil⟩⟩⟩, by decide, by decide, by decide⟩
theorem ct_57 : ab_cok (0, 2, 18, 27) := ⟨List.forall_mem_cons.mpr ⟨List.mem_append_right _ (List.mem_of_getElem? (i := 428) (by decide +kernel)), List.forall_mem_cons.mpr ⟨sx_27, fun _ h => absurd h List.not_mem_nil⟩⟩, by decide, by decide, by decide⟩
theorem ct_58 : ab_cok (0, 0, 22, 80) := ⟨List.forall_mem_cons.mpr ⟨List.mem_append_right _ (List.mem_of_getElem? (i := 522) (by decide +kernel)), List.forall_mem_cons.mpr ⟨im_80, List.forall_mem_cons.mpr ⟨se_80, fun _ h => absurd h List.not_mem_nil⟩⟩⟩, by decide, by decide, by decide⟩
theorem ct_59 : ab_cok (0, 2, 26, 26) := ⟨List.forall_mem_cons.mpr ⟨List.mem_append_right _ (List.mem_of_getElem? (i := 523) (by decide +kernel)), List.forall_mem_cons.mpr ⟨sx_26, fun _ h => absurd h List.not_mem_nil⟩⟩, by decide, by decide, by decide⟩
theorem ct_60 : ab_cok (0, 0, 34, 83) := ⟨List.forall_mem_cons.mpr ⟨List.mem_append_right _ (List.mem_of_getElem? (i := 405) (by decide +kernel)), List.forall_mem_cons.mpr ⟨im_83, List.forall_mem_cons.mpr ⟨se_83, fun _ h => absurd h List.not_mem_nil⟩⟩⟩, by decide, by decide, by decide⟩
theorem ct_61 : ab_cok (0, 0, 44, 79) := ⟨List.forall_mem_cons.mpr ⟨List.mem_append_right _ (List.mem_of_getElem? (i := 412) (by decide +kernel)), List.forall_mem_cons.mpr ⟨im_79, List.forall_mem_cons.mpr ⟨se_79, fun _ h => absurd h List.not_mem_nil⟩⟩⟩, by decide, by decide, by decide⟩
theorem ct_62 : ab_cok (1, 0, 23, 114) := ⟨List.forall_mem_cons.mpr ⟨List.mem_append_right _ (List.mem_of_getElem? (i := 355) (by decide +kernel)), List.forall_mem_cons.mpr ⟨im_114, List.forall_mem_cons.mpr ⟨se_114, fun _ h => absurd h List.not_mem_nil⟩⟩⟩, by decide, by decide, by decide⟩
theorem ct_63 : ab_cok (1, 1, 28, 137) := ⟨List.forall_mem_cons.mpr ⟨List.mem_append_right _ (List.mem_of_getElem? (i := 377) (by decide +kernel)), List.forall_mem_cons.mpr ⟨sx_137, fun _ h => absurd h List.not_mem_nil⟩⟩, by decide, by decide, by decide⟩
theorem ct_64 : ab_cok (1, 0, 34, 109) := ⟨List.forall_mem_cons.mpr ⟨List.mem_append_right _ (List.mem_of_getElem? (i := 378) (by decide +kernel)), List.forall_mem_cons.mpr ⟨im_109, List.forall_mem_cons.mpr ⟨se_109, fun _ h => absurd h List.not_mem_nil⟩⟩⟩, by decide, by decide, by decide⟩
theorem ct_65 : ab_cok (1, 2, 38, 27) := ⟨List.forall_mem_cons.mpr ⟨List.mem_append_right _ (List.mem_of_getElem? (i := 382) (by decide +kernel)), List.forall_mem_cons.mpr ⟨sx_27, fun _ h => absurd h List.not_mem_nil⟩⟩, by decide, by decide, by decide⟩
theorem ct_66 : ab_cok (1, 2, 42, 26) := ⟨List.forall_mem_cons.mpr ⟨List.mem_append_right _ (List.mem_of_getElem? (i := 385) (by decide +kernel)), List.forall_mem_cons.mpr ⟨sx_26, fun _ h => absurd h List.not_mem_nil⟩⟩, by decide, by decide, by decide⟩
theorem ct_67 : ab_cok (1, 0, 46, 88) := ⟨List.forall_mem_cons.mpr ⟨List.mem_append_right _ (List.mem_of_getElem? (i := 386) (by decide +kernel)), List.forall_mem_cons.mpr ⟨im_88, List.forall_mem_cons.mpr ⟨se_88, fun _ h => absurd h List.not_mem_nil⟩⟩⟩, by decide, by decide, by decide⟩
theorem ct_68 : ab_cok (1, 0, 49, 84) := ⟨List.forall_mem_cons.mpr ⟨List.mem_append_right _ (List.mem_of_getElem? (i := 401) (by decide +kernel)), List.forall_mem_cons.mpr ⟨im_84, List.forall_mem_cons.mpr ⟨se_84, fun _ h => absurd h List.not_mem_nil⟩⟩⟩, by decide, by decide, by decide⟩
theorem ct_69 : ab_cok (1, 0, 59, 86) := ⟨List.forall_mem_cons.mpr ⟨List.mem_append_right _ (List.mem_of_getElem? (i := 416) (by decide +kernel)), List.forall_mem_cons.mpr ⟨im_86, List.forall_mem_cons.mpr ⟨se_86, fun _ h => absurd h List.not_mem_nil⟩⟩⟩, by decide, by decide, by decide⟩
theorem ct_70 : ab_cok (1, 0, 63, 91) := ⟨List.forall_mem_cons.mpr ⟨List.mem_append_right _ (List.mem_of_getElem? (i := 430) (by decide +kernel)), List.forall_mem_cons.mpr ⟨im_91, List.forall_mem_cons.mpr ⟨se_91, fun _ h => absurd h List.not_mem_nil⟩⟩⟩, by decide, by decide, by decide⟩
theorem ct_71 : ab_cok (1, 0, 66, 87) := ⟨List.forall_mem_cons.mpr ⟨List.mem_append_right _ (List.mem_of_getElem? (i := 420) (by decide +kernel)), List.forall_mem_cons.mpr ⟨im_87, List.forall_mem_cons.mpr ⟨se_87, fun _ h => absurd h List.not_mem_nil⟩⟩⟩, by decide, by decide, by decide⟩
theorem ct_72 : ab_cok (1, 0, 70, 79) := ⟨List.forall_mem_cons.mpr ⟨List.mem_append_right _ (List.mem_of_getElem? (i := 429) (by decide +kernel)), List.forall_mem_cons.mpr ⟨im_79, List.forall_mem_cons.mpr ⟨se_79, fun _ h => absurd h List.not_mem_nil⟩⟩⟩, by decide, by decide, by decide⟩
theorem ct_73 : ab_cok (1, 0, 77, 80) := ⟨List.forall_mem_cons.mpr ⟨List.mem_append_right _ (List.mem_of_getElem? (i := 424) (by decide +kernel)), List.forall_mem_cons.mpr ⟨im_80, List.forall_mem_cons.mpr ⟨se_80, fun _ h => absurd h List.not_mem_nil⟩⟩⟩, by decide, by decide, by decide⟩
theorem ct_74 : ab_cok (1, 0, 81, 111) := ⟨List.forall_mem_cons.mpr ⟨List.mem_append_right _ (List.mem_of_getElem? (i := 394) (by decide +kernel)), List.forall_mem_cons.mpr ⟨im_111, List.forall_mem_cons.mpr ⟨se_111, fun _ h => absurd h List.not_mem_nil⟩⟩⟩, by decide, by decide, by decide⟩
theorem ct_75 : ab_cok (1, 0, 84, 89) := ⟨List.forall_mem_cons.mpr ⟨List.mem_append_right _ (List.mem_of_getElem? (i := 390) (by decide +kernel)), List.forall_mem_cons.mpr ⟨im_89, List.forall_mem_cons.mpr ⟨se_89, fun _ h => absurd h List.not_mem_nil⟩⟩⟩, by decide, by decide, by decide⟩
theorem ct_76 : ab_cok (1, 2, 88, 23) := ⟨List.forall_mem_cons.mpr ⟨List.mem_append_right _ (List.mem_of_getElem? (i := 395) (by decide +kernel)), List.forall_mem_cons.mpr ⟨sx_23, fun _ h => absurd h List.not_mem_nil⟩⟩, by decide, by decide, by decide⟩
theorem ct_77 : ab_cok (1, 0, 91, 113) := ⟨List.forall_mem_cons.mpr ⟨List.mem_append_right _ (List.mem_of_getElem? (i := 396) (by decide +kernel)), List.forall_mem_cons.mpr ⟨im_113, List.forall_mem_cons.mpr ⟨se_113, fun _ h => absurd h List.not_mem_nil⟩⟩⟩, by decide, by decide, by decide⟩
theorem ct_78 : ab_cok (1, 0, 94, 90) := ⟨List.forall_mem_cons.mpr ⟨List.mem_append_right _ (List.mem_of_getElem? (i := 397) (by decide +kernel)), List.forall_mem_cons.mpr ⟨im_90, List.forall_mem_cons.mpr ⟨se_90, fun _ h => absurd h List.not_mem_nil⟩⟩⟩, by decide, by decide, by decide⟩
theorem ct_79 : ab_cok (1, 0, 101, 78) := ⟨List.forall_mem_cons.mpr ⟨List.mem_append_right _ (List.mem_of_getElem? (i := 434) (by decide +kernel)), List.forall_mem_cons.mpr ⟨im_78, List.forall_mem_cons.mpr ⟨se_78, fun _ h => absurd h List.not_mem_nil⟩⟩⟩, by decide, by decide, by decide⟩
theorem ct_80 : ab_cok (2, 0, 29, 93) := ⟨List.forall_mem_cons.mpr ⟨List.mem_append_right _ (List.mem_of_getElem? (i := 184) (by decide +kernel)), List.forall_mem_cons.mpr ⟨im_93, List.forall_mem_cons.mpr ⟨se_93, fun _ h => absurd h List.not_mem_nil⟩⟩⟩, by decide, by decide, by decide⟩
theorem ct_81 : ab_cok (2, 0, 33, 92) := ⟨List.forall_mem_cons.mpr ⟨List.mem_append_right _ (List.mem_of_getElem? (i := 551) (by decide +kernel)), List.forall_mem_cons.mpr ⟨im_92, List.forall_mem_cons.mpr ⟨se_92, fun _ h => absurd h List.not_mem_nil⟩⟩⟩, by decide, by decide, by decide⟩
theorem ct_82 : ab_cok (2, 0, 36, 97) := ⟨List.forall_mem_cons.mpr ⟨List.mem_append_right _ (List.mem_of_getElem? (i := 552) (by decide +kernel)), List.forall_mem_cons.mpr ⟨im_97, List.forall_mem_cons.mpr ⟨se_97, fun _ h => absurd h List.not_mem_nil⟩⟩⟩, by decide, by decide, by decide⟩
theorem ct_83 : ab_cok (2, 0, 40, 96) := ⟨List.forall_mem_cons.mpr ⟨List.mem_append_right _ (List.mem_of_getElem? (i := 583) (by decide +kernel)), List.forall_mem_cons.mpr ⟨im_96, List.forall_mem_cons.mpr ⟨se_96, fun _ h => absurd h List.not_mem_nil⟩⟩⟩, by decide, by decide, by decide⟩
theorem ct_84 : ab_cok (2, 0, 43, 109) := ⟨List.forall_mem_cons.mpr ⟨List.mem_append_right _ (List.mem_of_getElem? (i := 556) (by decide +kernel)), List.forall_mem_cons.mpr ⟨im_109, List.forall_mem_cons.mpr ⟨se_109, fun _ h => absurd h List.not_mem_nil⟩⟩⟩, by decide, by decide, by decide⟩
theorem ct_85 : ab_cok (2, 0, 49, 81) := ⟨List.forall_mem_cons.mpr ⟨List.mem_append_right _ (List.mem_of_getElem? (i := 578) (by decide +kernel)), List.forall_mem_cons.mpr ⟨im_81, List.forall_mem_cons.mpr ⟨se_81, fun _ h => absurd h List.not_mem_nil⟩⟩⟩, by decide, by decide, by decide⟩
theorem ct_86 : ab_cok (2, 0, 59, 99) := ⟨List.forall_mem_cons.mpr ⟨List.mem_append_right _ (List.mem_of_getElem? (i := 587) (by decide +kernel)), List.forall_mem_cons.mpr ⟨im_99, List.forall_mem_cons.mpr ⟨se_99, fun _ h => absurd h List.not_mem_nil⟩⟩⟩, by decide, by decide, by decide⟩
theorem ct_87 : ab_cok (2, 0, 63, 100) := ⟨List.forall_mem_cons.mpr ⟨List.mem_append_right _ (List.mem_of_getElem? (i := 591) (by decide +kernel)), List.forall_mem_cons.mpr ⟨im_100, List.forall_mem_cons.mpr ⟨se_100, fun _ h => absurd h List.not_mem_nil⟩⟩⟩, by decide, by decide, by decide⟩
theorem ct_88 : ab_cok (2, 0, 69, 80) := ⟨List.forall_mem_cons.mpr ⟨List.mem_append_right _ (List.mem_of_getElem? (i := 557) (by decide +kernel)), List.forall_mem_cons.mpr ⟨im_80, List.forall_mem_cons.mpr ⟨se_80, fun _ h => absurd h List.not_mem_nil⟩⟩⟩, by decide, by decide, by decide⟩
theorem ct_89 : ab_cok (2, 2, 73, 26) := ⟨List.forall_mem_cons.mpr ⟨List.mem_append_right _ (List.mem_of_getElem? (i := 558) (by decide +kernel)), List.forall_mem_cons.mpr ⟨sx_26, fun _ h => absurd h List.not_mem_nil⟩⟩, by decide, by decide, by decide⟩
theorem ct_90 : ab_cok (2, 0, 77, 98) := ⟨List.forall_mem_cons.mpr ⟨List.mem_append_right _ (List.mem_of_getElem? (i := 559) (by decide +kernel)), List.forall_mem_cons.mpr ⟨im_98, List.forall_mem_cons.mpr ⟨se_98, fun _ h => absurd h List.not_mem_nil⟩⟩⟩, by decide, by decide, by decide⟩
theorem ct_91 : ab_cok (2, 0, 84, 78) := ⟨List.forall_mem_cons.mpr ⟨List.mem_append_right _ (List.mem_of_getElem? (i := 563) (by decide +kernel)), List.forall_mem_cons.mpr ⟨im_78, List.forall_mem_cons.mpr ⟨se_78, fun _ h => absurd h List.not_mem_nil⟩⟩⟩, by decide, by decide, by decide⟩
theorem ct_92 : ab_cok (2, 2, 88, 25) := ⟨List.forall_mem_cons.mpr ⟨List.mem_append_right _ (List.mem_of_getElem? (i := 564) (by decide +kernel)), List.forall_mem_cons.mpr ⟨sx_25, fun _ h => absurd h List.not_mem_nil⟩⟩, by decide, by decide, by decide⟩
theorem ct_93 : ab_cok (2, 0, 91, 101) := ⟨List.forall_mem_cons.mpr ⟨List.mem_append_right _ (List.mem_of_getElem? (i := 567) (by decide +kernel)), List.forall_mem_cons.mpr ⟨im_101, List.forall_mem_cons.mpr ⟨se_101, fun _ h => absurd h List.not_mem_nil⟩⟩⟩, by decide, by decide, by decide⟩
theorem ct_94 : ab_cok (2, 0, 94, 102) := ⟨List.forall_mem_cons.mpr ⟨List.mem_append_right _ (List.mem_of_getElem? (i := 574) (by decide +kernel)), List.forall_mem_cons.mpr ⟨im_102, List.forall_mem_cons.mpr ⟨se_102, fun _ h => absurd h List.not_mem_nil⟩⟩⟩, by decide, by decide, by decide⟩
theorem ct_95 : ab_cok (2, 0, 97, 103) := ⟨List.forall_mem_cons.mpr ⟨List.mem_append_right _ (List.mem_of_getElem? (i := 579) (by decide +kernel)), List.forall_mem_cons.mpr ⟨im_103, List.forall_mem_cons.mpr ⟨se_103, fun _ h => absurd h List.not_mem_nil⟩⟩⟩, by decide, by decide, by decide⟩
theorem ct_96 : ab_cok (2, 0, 101, 111) := ⟨List.forall_mem_cons.mpr ⟨List.mem_append_right _ (List.mem_of_getElem? (i := 571) (by decide +kernel)), List.forall_mem_cons.mpr ⟨im_111, List.forall_mem_cons.mpr ⟨se_111, fun _ h => absurd h List.not_mem_nil⟩⟩⟩, by decide, by decide, by decide⟩
theorem ct_97 : ab_cok (2, 2, 104, 23) := ⟨List.forall_mem_cons.mpr ⟨List.mem_append_right _ (List.mem_of_getElem? (i := 572) (by decide +kernel)), List.forall_mem_cons.mpr ⟨sx_23, fun _ h => absurd h List.not_mem_nil⟩⟩, by decide, by decide, by decide⟩
theorem ct_98 : ab_cok (2, 0, 107, 113) := ⟨List.forall_mem_cons.mpr ⟨List.mem_append_right _ (List.mem_of_getElem? (i := 573) (by decide +kernel)), List.forall_mem_cons.mpr ⟨im_113, List.forall_mem_cons.mpr ⟨se_113, fun _ h => absurd h List.not_mem_nil⟩⟩⟩, by decide, by decide, by decide⟩
theorem ct_99 : ab_cok (3, 1, 28, 104) := ⟨List.forall_mem_cons.mpr ⟨List.mem_append_right _ (List.mem_of_getElem? (i := 243) (by decide +kernel)), List.forall_mem_cons.mpr ⟨sx_104, fun _ h => absurd h List.not_mem_nil⟩⟩, by decide, by decide, by decide⟩
theorem ct_100 : ab_cok (3, 1, 32, 105) := ⟨List.forall_mem_cons.mpr ⟨List.mem_append_right _ (List.mem_of_getElem? (i := 246) (by decide +kernel)), List.forall_mem_cons.mpr ⟨sx_105, fun _ h => absurd h List.not_mem_nil⟩⟩, by decide, by decide, by decide⟩
theorem ct_101 : ab_cok (3, 0, 40, 110) := ⟨List.forall_mem_cons.mpr ⟨List.mem_append_right _ (List.mem_of_getElem? (i := 338) (by decide +kernel)), List.forall_mem_cons.mpr ⟨im_110, List.forall_mem_cons.mpr ⟨se_110, fun _ h => absurd h List.not_mem_nil⟩⟩⟩, by decide, by decide, by decide⟩
theorem ct_102 : ab_cok (3, 0, 44, 111) := ⟨List.forall_mem_cons.mpr ⟨List.mem_append_right _ (List.mem_of_getElem? (i := 363) (by decide +kernel)), List.forall_mem_cons.mpr ⟨im_111, List.forall_mem_cons.mpr ⟨se_111, fun _ h => absurd h List.not_mem_nil⟩⟩⟩, by decide, by decide, by decide⟩
theorem ct_103 : ab_cok (3, 2, 47, 23) := ⟨List.forall_mem_cons.mpr ⟨List.mem_append_right _ (List.mem_of_getElem? (i := 367) (by decide +kernel)), List.forall_mem_cons.mpr ⟨sx_23, fun _ h => absurd h List.not_mem_nil⟩⟩, by decide, by decide, by decide⟩
theorem ct_104 : ab_cok (3, 2, 51, 26) := ⟨List.forall_mem_cons.mpr ⟨List.mem_append_right _ (List.mem_of_getElem? (i := 374) (by decide +kernel)), List.forall_mem_cons.mpr ⟨sx_26, fun _ h => absurd h List.not_mem_nil⟩⟩, by decide, by decide, by decide⟩
theorem ct_105 : ab_cok (3, 0, 54, 112) := ⟨List.forall_mem_cons.mpr ⟨List.mem_append_right _ (List.mem_of_getElem? (i := 359) (by decide +kernel)), List.forall_mem_cons.mpr ⟨im_112, List.forall_mem_cons.mpr ⟨se_112, fun _ h => absurd h List.not_mem_nil⟩⟩⟩, by decide, by decide, by decide⟩
theorem ct_106 : ab_cok (3, 0, 57, 113) := ⟨List.forall_mem_cons.mpr ⟨List.mem_append_right _ (List.mem_of_getElem? (i := 370) (by decide +kernel)), List.forall_mem_cons.mpr ⟨im_113, List.forall_mem_cons.mpr ⟨se_113, fun _ h => absurd h List.not_mem_nil⟩⟩⟩, by decide, by decide, by decide⟩
theorem ct_107 : ab_cok (4, 0, 45, 119) := ⟨List.forall_mem_cons.mpr ⟨List.mem_append_right _ (List.mem_of_getElem? (i := 607) (by decide +kernel)), List.forall_mem_cons.mpr ⟨im_119, List.forall_mem_cons.mpr ⟨se_119, fun _ h => absurd h List.not_mem_nil⟩⟩⟩, by decide, by decide, by decide⟩
theorem ct_108 : ab_cok (4, 0, 49, 78) := ⟨List.forall_mem_cons.mpr ⟨List.mem_append_right _ (List.mem_of_getElem? (i := 611) (by decide +kernel)), List.forall_mem_cons.mpr ⟨im_78, List.forall_mem_cons.mpr ⟨se_78, fun _ h => absurd h List.not_mem_nil⟩⟩⟩, by decide, by decide, by decide⟩
theorem ct_109 : ab_cok (4, 2, 55, 25) := ⟨List.forall_mem_cons.mpr ⟨List.mem_append_right _ (List.mem_of_getElem? (i := 612) (by decide +kernel)), List.forall_mem_cons.mpr ⟨sx_25, fun _ h => absurd h List.not_mem_nil⟩⟩, by decide, by decide, by decide⟩
theorem ct_110 : ab_cok (4, 0, 59, 120) := ⟨List.forall_mem_cons.mpr ⟨List.mem_append_right _ (List.mem_of_getElem? (i := 613) (by decide +kernel)), List.forall_mem_cons.mpr ⟨im_120, List.forall_mem_cons.mpr ⟨se_120, fun _ h => absurd h List.not_mem_nil⟩⟩⟩, by decide, by decide, by decide⟩
theorem ct_111 : ab_cok (4, 0, 62, 126) := ⟨List.forall_mem_cons.mpr ⟨List.mem_append_right _ (List.mem_of_getElem? (i := 625) (by decide +kernel)), List.forall_mem_cons.mpr ⟨im_126, List.forall_mem_cons.mpr ⟨se_126, fun _ h => absurd h List.not_mem_nil⟩⟩⟩, by decide, by decide, by decide⟩
theorem ct_112 : ab_cok (4, 0, 66, 121) := ⟨List.forall_mem_cons.mpr ⟨List.mem_append_right _ (List.mem_of_getElem? (i := 634) (by decide +kernel)), List.forall_mem_cons.mpr ⟨im_121, List.forall_mem_cons.mpr ⟨se_121, fun _ h => absurd h List.not_mem_nil⟩⟩⟩, by decide, by decide, by decide⟩
theorem ct_113 : ab_cok (4, 0, 70, 124) := ⟨List.forall_mem_cons.mpr ⟨List.mem_append_right _ (List.mem_of_getElem? (i := 617) (by decide +kernel)), List.forall_mem_cons.mpr ⟨im_124, List.forall_mem_cons.mpr ⟨se_124, fun _ h => absurd h List.not_mem_nil⟩⟩⟩, by decide, by decide, by decide⟩
theorem ct_114 : ab_cok (4, 0, 74, 125) := ⟨List.forall_mem_cons.mpr ⟨List.mem_append_right _ (List.mem_of_getElem? (i := 621) (by decide +kernel)), List.forall_mem_cons.mpr ⟨im_125, List.forall_mem_cons.mpr ⟨se_125, fun _ h => absurd h List.not_mem_nil⟩⟩⟩, by decide, by decide, by decide⟩
theorem ct_115 : ab_cok (4, 0, 78, 109) := ⟨List.forall_mem_cons.mpr ⟨List.mem_append_right _ (List.mem_of_getElem? (i := 638) (by decide +kernel)), List.forall_mem_cons.mpr ⟨im_109, List.forall_mem_cons.mpr ⟨se_109, fun _ h => absurd h List.not_mem_nil⟩⟩⟩, by decide, by decide, by decide⟩
theorem ct_116 : ab_cok (4, 0, 83, 122) := ⟨List.forall_mem_cons.mpr ⟨List.mem_append_right _ (List.mem_of_getElem? (i := 639) (by decide +kernel)), List.forall_mem_cons.mpr ⟨im_122, List.forall_mem_cons.mpr ⟨se_122, fun _ h => absurd h List.not_mem_nil⟩⟩⟩, by decide, by decide, by decide⟩
theorem ct_117 : ab_cok (4, 0, 89, 123) := ⟨List.forall_mem_cons.mpr ⟨List.mem_append_right _ (List.mem_of_getElem? (i := 644) (by decide +kernel)), List.forall_mem_cons.mpr ⟨im_123, List.forall_mem_cons.mpr ⟨se_123, fun _ h => absurd h List.not_mem_nil⟩⟩⟩, by decide, by decide, by decide⟩
theorem ct_118 : ab_cok (4, 0, 95, 117) := ⟨List.forall_mem_cons.mpr ⟨List.mem_append_right _ (List.mem_of_getElem? (i := 629) (by decide +kernel)), List.forall_mem_cons.mpr ⟨im_117, List.forall_mem_cons.mpr ⟨se_117, fun _ h => absurd h List.not_mem_nil⟩⟩⟩, by decide, by decide, by decide⟩
theorem ct_119 : ab_cok (4, 0, 98, 111) := ⟨List.forall_mem_cons.mpr ⟨List.mem_append_right _ (List.mem_of_getElem? (i := 643) (by decide +kernel)), List.forall_mem_cons.mpr ⟨im_111, List.forall_mem_cons.mpr ⟨se_111, fun _ h => absurd h List.not_mem_nil⟩⟩⟩, by decide, by decide, by decide⟩
theorem ct_120 : ab_cok (4, 0, 101, 110) := ⟨List.forall_mem_cons.mpr ⟨List.mem_append_right _ (List.mem_of_getElem? (i := 633) (by decide +kernel)), List.forall_mem_cons.mpr ⟨im_110, List.forall_mem_cons.mpr ⟨se_110, fun _ h => absurd h List.not_mem_nil⟩⟩⟩, by decide, by decide, by decide⟩
theorem ct_121 : ab_cok (7, 0, 7, 0) := ⟨List.forall_mem_cons.mpr ⟨List.mem_append_right _ (List.mem_of_getElem? (i := 236) (by decide +kernel)), List.forall_mem_cons.mpr ⟨im_0, List.forall_mem_cons.mpr ⟨se_0, fun _ h => absurd h List.not_mem_nil⟩⟩⟩, by decide, by decide, by decide⟩
theorem ct_122 : ab_cok (7, 0, 17, 2) := ⟨List.forall_mem_cons.mpr ⟨List.mem_append_right _ (List.mem_of_getElem? (i := 346) (by decide +kernel)), List.forall_mem_cons.mpr ⟨im_2, List.forall_mem_cons.mpr ⟨se_2, fun _ h => absurd h List.not_mem_nil⟩⟩⟩, by decide, by decide, by decide⟩
theorem ct_123 : ab_cok (7, 0, 23, 4) := ⟨List.forall_mem_cons.mpr ⟨List.mem_append_right _ (List.mem_of_getElem? (i := 458) (by decide +kernel)), List.forall_mem_cons.mpr ⟨im_4, List.forall_mem_cons.mpr ⟨se_4, fun _ h => absurd h List.not_mem_nil⟩⟩⟩, by decide, by decide, by decide⟩
theorem ct_124 : ab_cok (7, 0, 29, 5) := ⟨List.forall_mem_cons.mpr ⟨List.mem_append_right _ (List.mem_of_getElem? (i := 491) (by decide +kernel)), List.forall_mem_cons.mpr ⟨im_5, List.forall_mem_cons.mpr ⟨se_5, fun _ h => absurd h List.not_mem_nil⟩⟩⟩, by decide, by decide, by decide⟩
theorem ct_125 : ab_cok (7, 0, 33, 6) := ⟨List.forall_mem_cons.mpr ⟨List.mem_append_right _ (List.mem_of_getElem? (i := 505) (by decide +kernel)), List.forall_mem_cons.mpr ⟨im_6, List.forall_mem_cons.mpr ⟨se_6, fun _ h => absurd h List.not_mem_nil⟩⟩⟩, by decide, by decide, by decide⟩
theorem ct_126 : ab_cok (7, 0, 37, 7) := ⟨List.forall_mem_cons.mpr ⟨List.mem_append_right _ (List.mem_of_getElem? (i := 527) (by decide +kernel)), List.forall_mem_cons.mpr ⟨im_7, List.forall_mem_cons.mpr ⟨se_7, fun _ h => absurd h List.not_mem_nil⟩⟩⟩, by decide, by decide, by decide⟩
theorem ct_127 : ab_cok (7, 0, 40, 8) := ⟨List.forall_mem_cons.mpr ⟨List.mem_append_right _ (List.mem_of_getElem? (i := 538) (by decide +kernel)), List.forall_mem_cons.mpr ⟨im_8, List.forall_mem_cons.mpr ⟨se_8, fun _ h => absurd h List.not_mem_nil⟩⟩⟩, by decide, by decide, by decide⟩
theorem ct_128 : ab_cok (7, 0, 43, 12) := ⟨List.forall_mem_cons.mpr ⟨List.mem_append_right _ (List.mem_of_getElem? (i := 598) (by decide +kernel)), List.forall_mem_cons.mpr ⟨im_12, List.forall_mem_cons.mpr ⟨se_12, fun _ h => absurd h List.not_mem_nil⟩⟩⟩, by decide, by decide, by decide⟩
theorem ct_129 : ab_cok (7, 0, 46, 14) := ⟨List.forall_mem_cons.mpr ⟨List.mem_append_right _ (List.mem_of_getElem? (i := 651) (by decide +kernel)), List.forall_mem_cons.mpr ⟨im_14, List.forall_mem_cons.mpr ⟨se_14, fun _ h => absurd h List.not_mem_nil⟩⟩⟩, by decide, by decide, by decide⟩
theorem ct_130 : ab_cok (7, 1, 53, 127) := ⟨List.forall_mem_cons.mpr ⟨List.mem_append_right _ (List.mem_of_getElem? (i := 231) (by decide +kernel)), List.forall_mem_cons.mpr ⟨sx_127, fun _ h => absurd h List.not_mem_nil⟩⟩, by decide, by decide, by decide⟩
theorem ct_131 : ab_cok (7, 0, 58, 32) := ⟨List.forall_mem_cons.mpr ⟨List.mem_append_right _ (List.mem_of_getElem? (i := 759) (by decide +kernel)), List.forall_mem_cons.mpr ⟨im_32, List.forall_mem_cons.mpr ⟨se_32, fun _ h => absurd h List.not_mem_nil⟩⟩⟩, by decide, by decide, by decide⟩
theorem ct_132 : ab_cok (7, 0, 59, 28) := ⟨List.forall_mem_cons.mpr ⟨List.mem_append_right _ (List.mem_of_getElem? (i := 755) (by decide +kernel)), List.forall_mem_cons.mpr ⟨im_28, List.forall_mem_cons.mpr ⟨se_28, fun _ h => absurd h List.not_mem_nil⟩⟩⟩, by decide, by decide, by decide⟩
theorem ct_133 : ab_cok (7, 0, 62, 1) := ⟨List.forall_mem_cons.mpr ⟨List.mem_append_right _ (List.mem_of_getElem? (i := 172) (by decide +kernel)), List.forall_mem_cons.mpr ⟨im_1, List.forall_mem_cons.mpr ⟨se_1, fun _ h => absurd h List.not_mem_nil⟩⟩⟩, by decide, by decide, by decide⟩
theorem ct_134 : ab_cok (7, 0, 65, 34) := ⟨List.forall_mem_cons.mpr ⟨List.mem_append_right _ (List.mem_of_getElem? (i := 779) (by decide +kernel)), List.forall_mem_cons.mpr ⟨im_34, List.forall_mem_cons.mpr ⟨se_34, fun _ h => absurd h List.not_mem_nil⟩⟩⟩, by decide, by decide, by decide⟩
theorem ct_135 : ab_cok (7, 1, 66, 128) := ⟨List.forall_mem_cons.mpr ⟨List.mem_append_right _ (List.mem_of_getElem? (i := 342) (by decide +kernel)), List.forall_mem_cons.mpr ⟨sx_128, fun _ h => absurd h List.not_mem_nil⟩⟩, by decide, by decide, by decide⟩
theorem ct_136 : ab_cok (7, 0, 69, 49) := ⟨List.forall_mem_cons.mpr ⟨List.mem_append_right _ (List.mem_of_getElem? (i := 783) (by decide +kernel)), List.forall_mem_cons.mpr ⟨im_49, List.forall_mem_cons.mpr ⟨se_49, fun _ h => absurd h List.not_mem_nil⟩⟩⟩, by decide, by decide, by decide⟩
theorem ct_137 : ab_cok (7, 0, 70, 3) := ⟨List.forall_mem_cons.mpr ⟨List.mem_append_right _ (List.mem_of_getElem? (i := 196) (by decide +kernel)), List.forall_mem_cons.mpr ⟨im_3, List.forall_mem_cons.mpr ⟨se_3, fun _ h => absurd h List.not_mem_nil⟩⟩⟩, by decide, by decide, by decide⟩
theorem ct_138 : ab_cok (7, 0, 73, 50) := ⟨List.forall_mem_cons.mpr ⟨List.mem_append_right _ (List.mem_of_getElem? (i := 838) (by decide +kernel)), List.forall_mem_cons.mpr ⟨im_50, List.forall_mem_cons.mpr ⟨se_50, fun _ h => absurd h List.not_mem_nil⟩⟩⟩, by decide, by decide, by decide⟩
theorem ct_139 : ab_cok (7, 1, 74, 129) := ⟨List.forall_mem_cons.mpr ⟨List.mem_append_right _ (List.mem_of_getElem? (i := 454) (by decide +kernel)), List.forall_mem_cons.mpr ⟨sx_129, fun _ h => absurd h List.not_mem_nil⟩⟩, by decide, by decide, by decide⟩
theorem ct_140 : ab_cok (7, 0, 77, 53) := ⟨List.forall_mem_cons.mpr ⟨List.mem_append_right _ (List.mem_of_getElem? (i := 842) (by decide +kernel)), List.forall_mem_cons.mpr ⟨im_53, List.forall_mem_cons.mpr ⟨se_53, fun _ h => absurd h List.not_mem_nil⟩⟩⟩, by decide, by decide, by decide⟩
theorem ct_141 : ab_cok (7, 1, 78, 130) := ⟨List.forall_mem_cons.mpr ⟨List.mem_append_right _ (List.mem_of_getElem? (i := 488) (by decide +kernel)), List.forall_mem_cons.mpr ⟨sx_130, fun _ h => absurd h List.not_mem_nil⟩⟩, by decide, by decide, by decide⟩
theorem ct_142 : ab_cok (7, 0, 81, 54) := ⟨List.forall_mem_cons.mpr ⟨List.mem_append_right _ (List.mem_of_getElem? (i := 853) (by decide +kernel)), List.forall_mem_cons.mpr ⟨im_54, List.forall_mem_cons.mpr ⟨se_54, fun _ h => absurd h List.not_mem_nil⟩⟩⟩, by decide, by decide, by decide⟩
theorem ct_143 : ab_cok (7, 1, 82, 131) := ⟨List.forall_mem_cons.mpr ⟨List.mem_append_right _ (List.mem_of_getElem? (i := 502) (by decide +kernel)), List.forall_mem_cons.mpr ⟨sx_131, fun _ h => absurd h List.not_mem_nil⟩⟩, by decide, by decide, by decide⟩
theorem ct_144 : ab_cok (7, 0, 85, 56) := ⟨List.forall_mem_cons.mpr ⟨List.mem_append_right _ (List.mem_of_getElem? (i := 857) (by decide +kernel)), List.forall_mem_cons.mpr ⟨im_56, List.forall_mem_cons.mpr ⟨se_56, fun _ h => absurd h List.not_mem_nil⟩⟩⟩, by decide, by decide, by decide⟩
theorem ct_145 : ab_cok (7, 1, 86, 132) := ⟨List.forall_mem_cons.mpr ⟨List.mem_append_right _ (List.mem_of_getElem? (i := 524) (by decide +kernel)), List.forall_mem_cons.mpr ⟨sx_132, fun _ h => absurd h List.not_mem_nil⟩⟩, by decide, by decide, by decide⟩
theorem ct_146 : ab_cok (7, 0, 88, 57) := ⟨List.forall_mem_cons.mpr ⟨List.mem_append_right _ (List.mem_of_getElem? (i := 869) (by decide +kernel)), List.forall_mem_cons.mpr ⟨im_57, List.forall_mem_cons.mpr ⟨se_57, fun _ h => absurd h List.not_mem_nil⟩⟩⟩, by decide, by decide, by decide⟩
theorem ct_147 : ab_cok (7, 1, 89, 133) := ⟨List.forall_mem_cons.mpr ⟨List.mem_append_right _ (List.mem_of_getElem? (i := 535) (by decide +kernel)), List.forall_mem_cons.mpr ⟨sx_133, fun _ h => absurd h List.not_mem_nil⟩⟩, by decide, by decide, by decide⟩
theorem ct_148 : ab_cok (7, 0, 91, 65) := ⟨List.forall_mem_cons.mpr ⟨List.mem_append_right _ (List.mem_of_getElem? (i := 873) (by decide +kernel)), List.forall_mem_cons.mpr ⟨im_65, List.forall_mem_cons.mpr ⟨se_65, fun _ h => absurd h List.not_mem_nil⟩⟩⟩, by decide, by decide, by decide⟩
theorem ct_149 : ab_cok (7, 0, 92, 9) := ⟨List.forall_mem_cons.mpr ⟨List.mem_append_right _ (List.mem_of_getElem? (i := 200) (by decide +kernel)), List.forall_mem_cons.mpr ⟨im_9, List.forall_mem_cons.mpr ⟨se_9, fun _ h => absurd h List.not_mem_nil⟩⟩⟩, by decide, by decide, by decide⟩
theorem ct_150 : ab_cok (7, 0, 95, 66) := ⟨List.forall_mem_cons.mpr ⟨List.mem_append_right _ (List.mem_of_getElem? (i := 905) (by decide +kernel)), List.forall_mem_cons.mpr ⟨im_66, List.forall_mem_cons.mpr ⟨se_66, fun _ h => absurd h List.not_mem_nil⟩⟩⟩, by decide, by decide, by decide⟩
theorem ct_151 : ab_cok (7, 0, 96, 10) := ⟨List.forall_mem_cons.mpr ⟨List.mem_append_right _ (List.mem_of_getElem? (i := 208) (by decide +kernel)), List.forall_mem_cons.mpr ⟨im_10, List.forall_mem_cons.mpr ⟨se_10, fun _ h => absurd h List.not_mem_nil⟩⟩⟩, by decide, by decide, by decide⟩
theorem ct_152 : ab_cok (7, 0, 99, 67) := ⟨List.forall_mem_cons.mpr ⟨List.mem_append_right _ (List.mem_of_getElem? (i := 909) (by decide +kernel)), List.forall_mem_cons.mpr ⟨im_67, List.forall_mem_cons.mpr ⟨se_67, fun _ h => absurd h List.not_mem_nil⟩⟩⟩, by decide, by decide, by decide⟩
theorem ct_153 : ab_cok (7, 0, 100, 11) := ⟨List.forall_mem_cons.mpr ⟨List.mem_append_right _ (List.mem_of_getElem? (i := 219) (by decide +kernel)), List.forall_mem_cons.mpr ⟨im_11, List.forall_mem_cons.mpr ⟨se_11, fun _ h => absurd h List.not_mem_nil⟩⟩⟩, by decide, by decide, by decide⟩
theorem ct_154 : ab_cok (7, 0, 103, 68) := ⟨List.forall_mem_cons.mpr ⟨List.mem_append_right _ (List.mem_of_getElem? (i := 913) (by decide +kernel)), List.forall_mem_cons.mpr ⟨im_68, List.forall_mem_cons.mpr ⟨se_68, fun _ h => absurd h List.not_mem_nil⟩⟩⟩, by decide, by decide, by decide⟩
theorem ct_155 : ab_cok (7, 1, 104, 134) := ⟨List.forall_mem_cons.mpr ⟨List.mem_append_right _ (List.mem_of_getElem? (i := 595) (by decide +kernel)), List.forall_mem_cons.mpr ⟨sx_134, fun _ h => absurd h List.not_mem_nil⟩⟩, by decide, by decide, by decide⟩
theorem ct_156 : ab_cok (7, 0, 106, 74) := ⟨List.forall_mem_cons.mpr ⟨List.mem_append_right _ (List.mem_of_getElem? (i := 917) (by decide +kernel)), List.forall_mem_cons.mpr ⟨im_74, List.forall_mem_cons.mpr ⟨se_74, fun _ h => absurd h List.not_mem_nil⟩⟩⟩, by decide, by decide, by decide⟩
theorem ct_157 : ab_cok (7, 0, 107, 13) := ⟨List.forall_mem_cons.mpr ⟨List.mem_append_right _ (List.mem_of_getElem? (i := 223) (by decide +kernel)), List.forall_mem_cons.mpr ⟨im_13, List.forall_mem_cons.mpr ⟨se_13, fun _ h => absurd h List.not_mem_nil⟩⟩⟩, by decide, by decide, by decide⟩
theorem ct_158 : ab_cok (7, 0, 110, 75) := ⟨List.forall_mem_cons.mpr ⟨List.mem_append_right _ (List.mem_of_getElem? (i := 941) (by decide +kernel)), List.forall_mem_cons.mpr ⟨im_75, List.forall_mem_cons.mpr ⟨se_75, fun _ h => absurd h List.not_mem_nil⟩⟩⟩, by decide, by decide, by decide⟩
theorem ct_159 : ab_cok (7, 1, 111, 135) := ⟨List.forall_mem_cons.mpr ⟨List.mem_append_right _ (List.mem_of_getElem? (i := 648) (by decide +kernel)), List.forall_mem_cons.mpr ⟨sx_135, fun _ h => absurd h List.not_mem_nil⟩⟩, by decide, by decide, by decide⟩
theorem ct_160 : ab_cok (7, 0, 113, 76) := ⟨List.forall_mem_cons.mpr ⟨List.mem_append_right _ (List.mem_of_getElem? (i := 945) (by decide +kernel)), List.forall_mem_cons.mpr ⟨im_76, List.forall_mem_cons.mpr ⟨se_76, fun _ h => absurd h List.not_mem_nil⟩⟩⟩, by decide, by decide, by decide⟩
theorem ct_161 : ab_cok (7, 0, 114, 15) := ⟨List.forall_mem_cons.mpr ⟨List.mem_append_right _ (List.mem_of_getElem? (i := 227) (by decide +kernel)), List.forall_mem_cons.mpr ⟨im_15, List.forall_mem_cons.mpr ⟨se_15, fun _ h => absurd h List.not_mem_nil⟩⟩⟩, by decide, by decide, by decide⟩
theorem ct_162 : ab_cok (7, 0, 117, 77) := ⟨List.forall_mem_cons.mpr ⟨List.mem_append_right _ (List.mem_of_getElem? (i := 949) (by decide +kernel)), List.forall_mem_cons.mpr ⟨im_77, List.forall_mem_cons.mpr ⟨se_77, fun _ h => absurd h List.not_mem_nil⟩⟩⟩, by decide, by decide, by decide⟩
set_option maxRecDepth 100000 in
theorem ab_cwok : ∀ q ∈ ab_CT, ab_cok q := List.forall_mem_cons.mpr ⟨ct_0, List.forall_mem_cons.mpr ⟨ct_1, List.forall_mem_cons.mpr ⟨ct_2, List.forall_mem_cons.mpr ⟨ct_3, List.forall_mem_cons.mpr ⟨ct_4, List.forall_mem_cons.mpr ⟨ct_5, List.forall_mem_cons.mpr ⟨ct_6, List.forall_mem_cons.mpr ⟨ct_7, List.forall_mem_cons.mpr ⟨ct_8, List.forall_mem_cons.mpr ⟨ct_9, List.forall_mem_cons.mpr ⟨ct_10, List.forall_mem_cons.mpr ⟨ct_11, List.forall_mem_cons.mpr ⟨ct_12, List.forall_mem_cons.mpr ⟨ct_13, List.forall_mem_cons.mpr ⟨ct_14, List.forall_mem_cons.mpr ⟨ct_15, List.forall_mem_cons.mpr ⟨ct_16, List.forall_mem_cons.mpr ⟨ct_17, List.forall_mem_cons.mpr ⟨ct_18, List.forall_mem_cons.mpr ⟨ct_19, List.forall_mem_cons.mpr ⟨ct_20, List.forall_mem_cons.mpr ⟨ct_21, List.forall_mem_cons.mpr ⟨ct_22, List.forall_mem_cons.mpr ⟨ct_23, List.forall_mem_cons.mpr ⟨ct_24, List.forall_mem_cons.mpr ⟨ct_25, List.forall_mem_cons.mpr ⟨ct_26, List.forall_mem_cons.mpr ⟨ct_27, List.forall_mem_cons.mpr ⟨ct_28, List.forall_mem_cons.mpr ⟨ct_29, List.forall_mem_cons.mpr ⟨ct_30, List.forall_mem_cons.mpr ⟨ct_31, List.forall_mem_cons.mpr ⟨ct_32, List.forall_mem_cons.mpr ⟨ct_33, List.forall_mem_cons.mpr ⟨ct_34, List.forall_mem_cons.mpr ⟨ct_35, List.forall_mem_cons.mpr ⟨ct_36, List.forall_mem_cons.mpr ⟨ct_37, List.forall_mem_cons.mpr ⟨ct_38, List.forall_mem_cons.mpr ⟨ct_39, List.forall_mem_cons.mpr ⟨ct_40, List.forall_mem_cons.mpr ⟨ct_41, List.forall_mem_cons.mpr ⟨ct_42, List.forall_mem_cons.mpr ⟨ct_43, List.forall_mem_cons.mpr ⟨ct_44, List.forall_mem_cons.mpr ⟨ct_45, List.forall_mem_cons.mpr ⟨ct_46, List.forall_mem_cons.mpr ⟨ct_47, List.forall_mem_cons.mpr ⟨ct_48, List.forall_mem_cons.mpr ⟨ct_49, List.forall_mem_cons.mpr ⟨ct_50, List.forall_mem_cons.mpr ⟨ct_51, List.forall_mem_cons.mpr ⟨ct_52, List.forall_mem_cons.mpr ⟨ct_53, List.forall_mem_cons.mpr ⟨ct_54, List.forall_mem_cons.mpr ⟨ct_55, List.forall_mem_cons.mpr ⟨ct_56, List.forall_mem_cons.mpr ⟨ct_57, List.forall_mem_cons.mpr ⟨ct_58, List.forall_mem_cons.mpr ⟨ct_59, List.forall_mem_cons.mpr ⟨ct_60, List.forall_mem_cons.mpr ⟨ct_61, List.forall_mem_cons.mpr ⟨ct_62, List.forall_mem_cons.mpr ⟨ct_63, List.forall_mem_cons.mpr ⟨ct_64, List.forall_mem_cons.mpr ⟨ct_65, List.forall_mem_cons.mpr ⟨ct_66, List.forall_mem_cons.mpr ⟨ct_67, List.forall_mem_cons.mpr ⟨ct_68, List.forall_mem_cons.mpr ⟨ct_69, List.forall_mem_cons.mpr ⟨ct_70, List.forall_mem_cons.mpr ⟨ct_71, List.forall_mem_cons.mpr ⟨ct_72, List.forall_mem_cons.mpr ⟨ct_73, List.forall_mem_cons.mpr ⟨ct_74, List.forall_mem_cons.mpr ⟨ct_75, List.forall_mem_cons.mpr ⟨ct_76, List.forall_mem_cons.mpr ⟨ct_77, List.forall_mem_cons.mpr ⟨ct_78, List.forall_mem_cons.mpr ⟨ct_79, List.forall_mem_cons.mpr ⟨ct_80, List.forall_mem_cons.mpr ⟨ct_81, List.forall_mem_cons.mpr ⟨ct_82, List.forall_mem_cons.mpr ⟨ct_83, List.forall_mem_cons.mpr ⟨ct_84, List.forall_mem_cons.mpr ⟨ct_85, List.forall_mem_cons.mpr ⟨ct_86, List.forall_mem_cons.mpr ⟨ct_87, List.forall_mem_cons.mpr ⟨ct_88, List.forall_mem_cons.mpr ⟨ct_89, List.forall_mem_cons.mpr ⟨ct_90, List.forall_mem_cons.mpr ⟨ct_91, List.forall_mem_cons.mpr ⟨ct_92, List.forall_mem_cons.mpr ⟨ct_93, List.forall_mem_cons.mpr ⟨ct_94, List.forall_mem_cons.mpr ⟨ct_95, List.forall_mem_cons.mpr ⟨ct_96, List.forall_mem_cons.mpr ⟨ct_97, List.forall_mem_cons.mpr ⟨ct_98, List.forall_mem_cons.mpr ⟨ct_99, List.forall_mem_cons.mpr ⟨ct_100, List.forall_mem_cons.mpr ⟨ct_101, List.forall_mem_cons.mpr ⟨ct_102, List.forall_mem_cons.mpr ⟨ct_103, List.forall_mem_cons.mpr ⟨ct_104, List.forall_mem_cons.mpr ⟨ct_105, List.forall_mem_cons.mpr ⟨ct_106, List.forall_mem_cons.mpr ⟨ct_107, List.forall_mem_cons.mpr ⟨ct_108, List.forall_mem_cons.mpr ⟨ct_109, List.forall_mem_cons.mpr ⟨ct_110, List.forall_mem_cons.mpr ⟨ct_111, List.forall_mem_cons.mpr ⟨ct_112, List.forall_mem_cons.mpr ⟨ct_113, List.forall_mem_cons.mpr ⟨ct_114, List.forall_mem_cons.mpr ⟨ct_115, List.forall_mem_cons.mpr ⟨ct_116, List.forall_mem_cons.mpr ⟨ct_117, List.forall_mem_cons.mpr ⟨ct_118, List.forall_mem_cons.mpr ⟨ct_119, List.forall_mem_cons.mpr ⟨ct_120, List.forall_mem_cons.mpr ⟨ct_121, List.forall_mem_cons.mpr ⟨ct_122, List.forall_mem_cons.mpr ⟨ct_123, List.forall_mem_cons.mpr ⟨ct_124, List.forall_mem_cons.mpr ⟨ct_125, List.forall_mem_cons.mpr ⟨ct_126, List.forall_mem_cons.mpr ⟨ct_127, List.forall_mem_cons.mpr ⟨ct_128, List.forall_mem_cons.mpr ⟨ct_129, List.forall_mem_cons.mpr ⟨ct_130, List.forall_mem_cons.mpr ⟨ct_131, List.forall_mem_cons.mpr ⟨ct_132, List.forall_mem_cons.mpr ⟨ct_133, List.forall_mem_cons.mpr ⟨ct_134, List.forall_mem_cons.mpr ⟨ct_135, List.forall_mem_cons.mpr ⟨ct_136, List.forall_mem_cons.mpr ⟨ct_137, List.forall_mem_cons.mpr ⟨ct_138, List.forall_mem_cons.mpr ⟨ct_139, List.forall_mem_cons.mpr ⟨ct_140, List.forall_mem_cons.mpr ⟨ct_141, List.forall_mem_cons.mpr ⟨ct_142, List.forall_mem_cons.mpr ⟨ct_143, List.forall_mem_cons.mpr ⟨ct_144, List.forall_mem_cons.mpr ⟨ct_145, List.forall_mem_cons.mpr ⟨ct_146, List.forall_mem_cons.mpr ⟨ct_147, List.forall_mem_cons.mpr ⟨ct_148, List.forall_mem_cons.mpr ⟨ct_149, List.forall_mem_cons.mpr ⟨ct_150, List.forall_mem_cons.mpr ⟨ct_151, List.forall_mem_cons.mpr ⟨ct_152, List.forall_mem_cons.mpr ⟨ct_153, List.forall_mem_cons.mpr ⟨ct_154, List.forall_mem_cons.mpr ⟨ct_155, List.forall_mem_cons.mpr ⟨ct_156, List.forall_mem_cons.mpr ⟨ct_157, List.forall_mem_cons.mpr ⟨ct_158, List.forall_mem_cons.mpr ⟨ct_159, List.forall_mem_cons.mpr ⟨ct_160, List.forall_mem_cons.mpr ⟨ct_161, List.forall_mem_cons.mpr ⟨ct_162, fun _ h => absurd h List.not_mem_nil⟩⟩⟩⟩⟩⟩⟩⟩⟩⟩⟩⟩⟩⟩⟩⟩⟩⟩⟩⟩⟩⟩⟩⟩⟩⟩⟩⟩⟩⟩⟩⟩⟩⟩⟩⟩⟩⟩⟩⟩⟩⟩⟩⟩⟩⟩⟩⟩⟩⟩⟩⟩⟩⟩⟩⟩⟩⟩⟩⟩⟩⟩⟩⟩⟩⟩⟩⟩⟩⟩⟩⟩⟩⟩⟩⟩⟩⟩⟩⟩⟩⟩⟩⟩⟩⟩⟩⟩⟩⟩⟩⟩⟩⟩⟩⟩⟩⟩⟩⟩⟩⟩⟩⟩⟩⟩⟩⟩⟩⟩⟩⟩⟩⟩⟩⟩⟩⟩⟩⟩⟩⟩⟩⟩⟩⟩⟩⟩⟩⟩⟩⟩⟩⟩⟩⟩⟩⟩⟩⟩⟩⟩⟩⟩⟩⟩⟩⟩⟩⟩⟩⟩⟩⟩⟩⟩⟩⟩⟩⟩⟩⟩⟩
