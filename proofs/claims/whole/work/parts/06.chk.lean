/-! By program: every listing is what the bytes say (the law's own: part 07). -/
set_option maxRecDepth 100000 in
theorem ck_0 : ab_chk M_0 = true := by decide +kernel
set_option maxRecDepth 100000 in
theorem ck_1 : ab_chk M_1 = true := by decide +kernel
set_option maxRecDepth 100000 in
theorem ck_2 : ab_chk M_2 = true := by decide +kernel
set_option maxRecDepth 100000 in
theorem ck_3 : ab_chk M_3 = true := by decide +kernel
set_option maxRecDepth 100000 in
theorem ck_4 : ab_chk M_4 = true := by decide +kernel
set_option maxRecDepth 100000 in
theorem ck_5 : ab_chk M_5 = true := by decide +kernel
set_option maxRecDepth 100000 in
theorem ck_6 : ab_chk M_6 = true := by decide +kernel
set_option maxRecDepth 100000 in
theorem ck_7 : ab_chk M_7 = true := by decide +kernel
set_option maxRecDepth 100000 in
theorem ck_8 : ab_chk M_8 = true := by decide +kernel
set_option maxRecDepth 100000 in
theorem ck_9 : ab_chk M_9 = true := by decide +kernel
set_option maxRecDepth 100000 in
theorem ck_10 : ab_chk M_10 = true := by decide +kernel
set_option maxRecDepth 100000 in
theorem ck_11 : ab_chk M_11 = true := by decide +kernel
set_option maxRecDepth 100000 in
theorem ck_12 : ab_chk M_12 = true := by decide +kernel
set_option maxRecDepth 100000 in
theorem ck_13 : ab_chk M_13 = true := by decide +kernel
set_option maxRecDepth 100000 in
theorem ck_14 : ab_chk M_14 = true := by decide +kernel
set_option maxRecDepth 100000 in
theorem ck_15 : ab_chk M_15 = true := by decide +kernel
set_option maxRecDepth 100000 in
theorem ck_16 : ab_chk M_16 = true := by decide +kernel
set_option maxRecDepth 100000 in
theorem ck_17 : ab_chk M_17 = true := by decide +kernel
set_option maxRecDepth 100000 in
theorem ck_18 : ab_chk M_18 = true := by decide +kernel
set_option maxRecDepth 100000 in
theorem ck_19 : ab_chk M_19 = true := by decide +kernel
set_option maxRecDepth 100000 in
theorem ck_20 : ab_chk M_20 = true := by decide +kernel
set_option maxRecDepth 100000 in
theorem ck_21 : ab_chk M_21 = true := by decide +kernel
set_option maxRecDepth 100000 in
theorem ck_22 : ab_chk M_22 = true := by decide +kernel
set_option maxRecDepth 100000 in
theorem ck_23 : ab_chk M_23 = true := by decide +kernel
set_option maxRecDepth 100000 in
theorem ck_24 : ab_chk M_24 = true := by decide +kernel
set_option maxRecDepth 100000 in
theorem ck_25 : ab_chk M_25 = true := by decide +kernel
set_option maxRecDepth 100000 in
theorem ck_26 : ab_chk M_26 = true := by decide +kernel
set_option maxRecDepth 100000 in
theorem ck_27 : ab_chk M_27 = true := by decide +kernel
set_option maxRecDepth 100000 in
theorem ck_28 : ab_chk M_28 = true := by decide +kernel
set_option maxRecDepth 100000 in
theorem ck_29 : ab_chk M_29 = true := by decide +kernel
set_option maxRecDepth 100000 in
theorem ck_30 : ab_chk M_30 = true := by decide +kernel
set_option maxRecDepth 100000 in
theorem ck_31 : ab_chk M_31 = true := by decide +kernel
set_option maxRecDepth 100000 in
theorem ck_32 : ab_chk M_32 = true := by decide +kernel
set_option maxRecDepth 100000 in
theorem ck_33 : ab_chk M_33 = true := by decide +kernel
set_option maxRecDepth 100000 in
theorem ck_34 : ab_chk M_34 = true := by decide +kernel
set_option maxRecDepth 100000 in
theorem ck_35 : ab_chk M_35 = true := by decide +kernel
set_option maxRecDepth 100000 in
theorem ck_36 : ab_chk M_36 = true := by decide +kernel
set_option maxRecDepth 100000 in
theorem ck_37 : ab_chk M_37 = true := by decide +kernel
set_option maxRecDepth 100000 in
theorem ck_38 : ab_chk M_38 = true := by decide +kernel
set_option maxRecDepth 100000 in
theorem ck_39 : ab_chk M_39 = true := by decide +kernel
set_option maxRecDepth 100000 in
theorem ck_40 : ab_chk M_40 = true := by decide +kernel
set_option maxRecDepth 100000 in
theorem ck_41 : ab_chk M_41 = true := by decide +kernel
set_option maxRecDepth 100000 in
theorem ck_42 : ab_chk M_42 = true := by decide +kernel
set_option maxRecDepth 100000 in
theorem ck_43 : ab_chk M_43 = true := by decide +kernel
set_option maxRecDepth 100000 in
theorem ck_44 : ab_chk M_44 = true := by decide +kernel
set_option maxRecDepth 100000 in
theorem ck_45 : ab_chk M_45 = true := by decide +kernel
set_option maxRecDepth 100000 in
theorem ck_46 : ab_chk M_46 = true := by decide +kernel
set_option maxRecDepth 100000 in
theorem ck_47 : ab_chk M_47 = true := by decide +kernel
set_option maxRecDepth 100000 in
theorem ck_48 : ab_chk M_48 = true := by decide +kernel
set_option maxRecDepth 100000 in
theorem ck_49 : ab_chk M_49 = true := by decide +kernel
set_option maxRecDepth 100000 in
theorem ck_50 : ab_chk M_50 = true := by decide +kernel
set_option maxRecDepth 100000 in
theorem ck_51 : ab_chk M_51 = true := by decide +kernel
set_option maxRecDepth 100000 in
theorem ck_52 : ab_chk M_52 = true := by decide +kernel
set_option maxRecDepth 100000 in
theorem ck_53 : ab_chk M_53 = true := by decide +kernel
set_option maxRecDepth 100000 in
theorem ck_54 : ab_chk M_54 = true := by decide +kernel
set_option maxRecDepth 100000 in
theorem ck_55 : ab_chk M_55 = true := by decide +kernel
set_option maxRecDepth 100000 in
theorem ck_56 : ab_chk M_56 = true := by decide +kernel
set_option maxRecDepth 100000 in
theorem ck_57 : ab_chk M_57 = true := by decide +kernel
set_option maxRecDepth 100000 in
theorem ck_58 : ab_chk M_58 = true := by decide +kernel
set_option maxRecDepth 100000 in
theorem ck_59 : ab_chk M_59 = true := by decide +kernel
set_option maxRecDepth 100000 in
theorem ck_60 : ab_chk M_60 = true := by decide +kernel
set_option maxRecDepth 100000 in
theorem ck_61 : ab_chk M_61 = true := by decide +kernel
set_option maxRecDepth 100000 in
theorem ck_62 : ab_chk M_62 = true := by decide +kernel
set_option maxRecDepth 100000 in
theorem ck_63 : ab_chk M_63 = true := by decide +kernel
set_option maxRecDepth 100000 in
theorem ck_64 : ab_chk M_64 = true := by decide +kernel
set_option maxRecDepth 100000 in
theorem ck_65 : ab_chk M_65 = true := by decide +kernel
set_option maxRecDepth 100000 in
theorem ck_66 : ab_chk M_66 = true := by decide +kernel
set_option maxRecDepth 100000 in
theorem ck_67 : ab_chk M_67 = true := by decide +kernel
set_option maxRecDepth 100000 in
theorem ck_68 : ab_chk M_68 = true := by decide +kernel
set_option maxRecDepth 100000 in
theorem ck_69 : ab_chk M_69 = true := by decide +kernel
set_option maxRecDepth 100000 in
theorem ck_70 : ab_chk M_70 = true := by decide +kernel
set_option maxRecDepth 100000 in
theorem ck_71 : ab_chk M_71 = true := by decide +kernel
set_option maxRecDepth 100000 in
theorem ck_72 : ab_chk M_72 = true := by decide +kernel
set_option maxRecDepth 100000 in
theorem ck_73 : ab_chk M_73 = true := by decide +kernel
set_option maxRecDepth 100000 in
theorem ck_74 : ab_chk M_74 = true := by decide +kernel
set_option maxRecDepth 100000 in
theorem ck_75 : ab_chk M_75 = true := by decide +kernel
set_option maxRecDepth 100000 in
theorem ck_76 : ab_chk M_76 = true := by decide +kernel
set_option maxRecDepth 100000 in
theorem ck_77 : ab_chk M_77 = true := by decide +kernel
set_option maxRecDepth 100000 in
theorem ck_78 : ab_chk M_78 = true := by decide +kernel
set_option maxRecDepth 100000 in
theorem ck_79 : ab_chk M_79 = true := by decide +kernel
set_option maxRecDepth 100000 in
theorem ck_80 : ab_chk M_80 = true := by decide +kernel
set_option maxRecDepth 100000 in
theorem ck_81 : ab_chk M_81 = true := by decide +kernel
set_option maxRecDepth 100000 in
theorem ck_82 : ab_chk M_82 = true := by decide +kernel
set_option maxRecDepth 100000 in
theorem ck_83 : ab_chk M_83 = true := by decide +kernel
set_option maxRecDepth 100000 in
theorem ck_84 : ab_chk M_84 = true := by decide +kernel
set_option maxRecDepth 100000 in
theorem ck_85 : ab_chk M_85 = true := by decide +kernel
set_option maxRecDepth 100000 in
theorem ck_86 : ab_chk M_86 = true := by decide +kernel
set_option maxRecDepth 100000 in
theorem ck_87 : ab_chk M_87 = true := by decide +kernel
set_option maxRecDepth 100000 in
theorem ck_88 : ab_chk M_88 = true := by decide +kernel
set_option maxRecDepth 100000 in
theorem ck_89 : ab_chk M_89 = true := by decide +kernel
set_option maxRecDepth 100000 in
theorem ck_90 : ab_chk M_90 = true := by decide +kernel
set_option maxRecDepth 100000 in
theorem ck_91 : ab_chk M_91 = true := by decide +kernel
set_option maxRecDepth 100000 in
theorem ck_92 : ab_chk M_92 = true := by decide +kernel
set_option maxRecDepth 100000 in
theorem ck_93 : ab_chk M_93 = true := by decide +kernel
set_option maxRecDepth 100000 in
theorem ck_94 : ab_chk M_94 = true := by decide +kernel
set_option maxRecDepth 100000 in
theorem ck_95 : ab_chk M_95 = true := by decide +kernel
set_option maxRecDepth 100000 in
theorem ck_96 : ab_chk M_96 = true := by decide +kernel
set_option maxRecDepth 100000 in
theorem ck_97 : ab_chk M_97 = true := by decide +kernel
set_option maxRecDepth 100000 in
theorem ck_98 : ab_chk M_98 = true := by decide +kernel
set_option maxRecDepth 100000 in
theorem ck_99 : ab_chk M_99 = true := by decide +kernel
set_option maxRecDepth 100000 in
theorem ck_100 : ab_chk M_100 = true := by decide +kernel
set_option maxRecDepth 100000 in
theorem ck_101 : ab_chk M_101 = true := by decide +kernel
set_option maxRecDepth 100000 in
theorem ck_102 : ab_chk M_102 = true := by decide +kernel
set_option maxRecDepth 100000 in
theorem ck_103 : ab_chk M_103 = true := by decide +kernel
set_option maxRecDepth 100000 in
theorem ck_104 : ab_chk M_104 = true := by decide +kernel
set_option maxRecDepth 100000 in
theorem ck_105 : ab_chk M_105 = true := by decide +kernel
set_option maxRecDepth 100000 in
theorem ck_106 : ab_chk M_106 = true := by decide +kernel
set_option maxRecDepth 100000 in
theorem ck_107 : ab_chk M_107 = true := by decide +kernel
set_option maxRecDepth 100000 in
theorem ck_108 : ab_chk M_108 = true := by decide +kernel
set_option maxRecDepth 100000 in
theorem ck_109 : ab_chk M_109 = true := by decide +kernel
set_option maxRecDepth 100000 in
theorem ck_110 : ab_chk M_110 = true := by decide +kernel
set_option maxRecDepth 100000 in
theorem ck_111 : ab_chk M_111 = true := by decide +kernel
set_option maxRecDepth 100000 in
theorem ck_112 : ab_chk M_112 = true := by decide +kernel
set_option maxRecDepth 100000 in
theorem ck_113 : ab_chk M_113 = true := by decide +kernel
set_option maxRecDepth 100000 in
theorem ck_114 : ab_chk M_114 = true := by decide +kernel
set_option maxRecDepth 100000 in
theorem ck_115 : ab_chk M_115 = true := by decide +kernel
set_option maxRecDepth 100000 in
theorem ck_116 : ab_chk M_116 = true := by decide +kernel
set_option maxRecDepth 100000 in
theorem ck_117 : ab_chk M_117 = true := by decide +kernel
set_option maxRecDepth 100000 in
theorem ck_118 : ab_chk M_118 = true := by decide +kernel
set_option maxRecDepth 100000 in
theorem ck_119 : ab_chk M_119 = true := by decide +kernel
set_option maxRecDepth 100000 in
theorem ck_120 : ab_chk M_120 = true := by decide +kernel
set_option maxRecDepth 100000 in
theorem ck_121 : ab_chk M_121 = true := by decide +kernel
set_option maxRecDepth 100000 in
theorem ck_122 : ab_chk M_122 = true := by decide +kernel
set_option maxRecDepth 100000 in
theorem ck_123 : ab_chk M_123 = true := by decide +kernel
set_option maxRecDepth 100000 in
theorem ck_124 : ab_chk M_124 = true := by decide +kernel
set_option maxRecDepth 100000 in
theorem ck_125 : ab_chk M_125 = true := by decide +kernel
set_option maxRecDepth 100000 in
theorem ck_126 : ab_chk M_126 = true := by decide +kernel
set_option maxRecDepth 100000 in
theorem ck_127 : ab_chk M_127 = true := by decide +kernel
set_option maxRecDepth 100000 in
theorem ck_128 : ab_chk M_128 = true := by decide +kernel
set_option maxRecDepth 100000 in
theorem ck_129 : ab_chk M_129 = true := by decide +kernel
set_option maxRecDepth 100000 in
theorem ck_130 : ab_chk M_130 = true := by decide +kernel
set_option maxRecDepth 100000 in
theorem ck_131 : ab_chk M_131 = true := by decide +kernel
set_option maxRecDepth 100000 in
theorem ck_132 : ab_chk M_132 = true := by decide +kernel
set_option maxRecDepth 100000 in
theorem ck_133 : ab_chk M_133 = true := by decide +kernel
set_option maxRecDepth 100000 in
theorem ck_134 : ab_chk M_134 = true := by decide +kernel
set_option maxRecDepth 100000 in
theorem ck_135 : ab_chk M_135 = true := by decide +kernel
set_option maxRecDepth 100000 in
theorem ck_137 : ab_chk M_137 = true := by decide +kernel
