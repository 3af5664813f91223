/-! ===== each method's table is its bytecode, and its words are the tables' ===== -/
set_option maxRecDepth 100000 in
theorem ck_0 : chkM MT lw_tbl kNsl kSts kCl MI_0 = true := by decide +kernel
set_option maxRecDepth 100000 in
theorem ck_1 : chkM MT lw_tbl kNsl kSts kCl MI_1 = true := by decide +kernel
set_option maxRecDepth 100000 in
theorem ck_2 : chkM MT lw_tbl kNsl kSts kCl MI_2 = true := by decide +kernel
set_option maxRecDepth 100000 in
theorem ck_3 : chkM MT lw_tbl kNsl kSts kCl MI_3 = true := by decide +kernel
set_option maxRecDepth 100000 in
theorem ck_4 : chkM MT lw_tbl kNsl kSts kCl MI_4 = true := by decide +kernel
set_option maxRecDepth 100000 in
theorem ck_5 : chkM MT lw_tbl kNsl kSts kCl MI_5 = true := by decide +kernel
set_option maxRecDepth 100000 in
theorem ck_6 : chkM MT lw_tbl kNsl kSts kCl MI_6 = true := by decide +kernel
set_option maxRecDepth 100000 in
theorem ck_7 : chkM MT lw_tbl kNsl kSts kCl MI_7 = true := by decide +kernel
set_option maxRecDepth 100000 in
theorem ck_8 : chkM MT lw_tbl kNsl kSts kCl MI_8 = true := by decide +kernel
set_option maxRecDepth 100000 in
theorem ck_9 : chkM MT lw_tbl kNsl kSts kCl MI_9 = true := by decide +kernel
set_option maxRecDepth 100000 in
theorem ck_10 : chkM MT lw_tbl kNsl kSts kCl MI_10 = true := by decide +kernel
set_option maxRecDepth 100000 in
theorem ck_11 : chkM MT lw_tbl kNsl kSts kCl MI_11 = true := by decide +kernel
set_option maxRecDepth 100000 in
theorem ck_12 : chkM MT lw_tbl kNsl kSts kCl MI_12 = true := by decide +kernel
set_option maxRecDepth 100000 in
theorem ck_13 : chkM MT lw_tbl kNsl kSts kCl MI_13 = true := by decide +kernel
set_option maxRecDepth 100000 in
theorem ck_14 : chkM MT lw_tbl kNsl kSts kCl MI_14 = true := by decide +kernel
set_option maxRecDepth 100000 in
theorem ck_15 : chkM MT lw_tbl kNsl kSts kCl MI_15 = true := by decide +kernel
set_option maxRecDepth 100000 in
theorem ck_16 : chkM MT lw_tbl kNsl kSts kCl MI_16 = true := by decide +kernel
set_option maxRecDepth 100000 in
theorem ck_17 : chkM MT lw_tbl kNsl kSts kCl MI_17 = true := by decide +kernel
set_option maxRecDepth 100000 in
theorem ck_18 : chkM MT lw_tbl kNsl kSts kCl MI_18 = true := by decide +kernel
set_option maxRecDepth 100000 in
theorem ck_19 : chkM MT lw_tbl kNsl kSts kCl MI_19 = true := by decide +kernel
set_option maxRecDepth 100000 in
theorem ck_20 : chkM MT lw_tbl kNsl kSts kCl MI_20 = true := by decide +kernel
set_option maxRecDepth 100000 in
theorem ck_21 : chkM MT lw_tbl kNsl kSts kCl MI_21 = true := by decide +kernel
set_option maxRecDepth 100000 in
theorem ck_22 : chkM MT lw_tbl kNsl kSts kCl MI_22 = true := by decide +kernel
set_option maxRecDepth 100000 in
theorem ck_23 : chkM MT lw_tbl kNsl kSts kCl MI_23 = true := by decide +kernel
set_option maxRecDepth 100000 in
theorem ck_24 : chkM MT lw_tbl kNsl kSts kCl MI_24 = true := by decide +kernel
set_option maxRecDepth 100000 in
theorem ck_25 : chkM MT lw_tbl kNsl kSts kCl MI_25 = true := by decide +kernel
set_option maxRecDepth 100000 in
theorem ck_26 : chkM MT lw_tbl kNsl kSts kCl MI_26 = true := by decide +kernel
set_option maxRecDepth 100000 in
theorem ck_27 : chkM MT lw_tbl kNsl kSts kCl MI_27 = true := by decide +kernel
set_option maxRecDepth 100000 in
theorem ck_28 : chkM MT lw_tbl kNsl kSts kCl MI_28 = true := by decide +kernel
set_option maxRecDepth 100000 in
theorem ck_29 : chkM MT lw_tbl kNsl kSts kCl MI_29 = true := by decide +kernel
set_option maxRecDepth 100000 in
theorem ck_30 : chkM MT lw_tbl kNsl kSts kCl MI_30 = true := by decide +kernel
set_option maxRecDepth 100000 in
theorem ck_31 : chkM MT lw_tbl kNsl kSts kCl MI_31 = true := by decide +kernel
set_option maxRecDepth 100000 in
theorem ck_32 : chkM MT lw_tbl kNsl kSts kCl MI_32 = true := by decide +kernel
set_option maxRecDepth 100000 in
theorem ck_33 : chkM MT lw_tbl kNsl kSts kCl MI_33 = true := by decide +kernel
set_option maxRecDepth 100000 in
theorem ck_34 : chkM MT lw_tbl kNsl kSts kCl MI_34 = true := by decide +kernel
set_option maxRecDepth 100000 in
theorem ck_35 : chkM MT lw_tbl kNsl kSts kCl MI_35 = true := by decide +kernel
set_option maxRecDepth 100000 in
theorem ck_36 : chkM MT lw_tbl kNsl kSts kCl MI_36 = true := by decide +kernel
set_option maxRecDepth 100000 in
theorem ck_37 : chkM MT lw_tbl kNsl kSts kCl MI_37 = true := by decide +kernel
set_option maxRecDepth 100000 in
theorem ck_38 : chkM MT lw_tbl kNsl kSts kCl MI_38 = true := by decide +kernel
set_option maxRecDepth 100000 in
theorem ck_39 : chkM MT lw_tbl kNsl kSts kCl MI_39 = true := by decide +kernel
set_option maxRecDepth 100000 in
theorem ck_40 : chkM MT lw_tbl kNsl kSts kCl MI_40 = true := by decide +kernel
set_option maxRecDepth 100000 in
theorem ck_41 : chkM MT lw_tbl kNsl kSts kCl MI_41 = true := by decide +kernel
set_option maxRecDepth 100000 in
theorem ck_42 : chkM MT lw_tbl kNsl kSts kCl MI_42 = true := by decide +kernel
set_option maxRecDepth 100000 in
theorem ck_43 : chkM MT lw_tbl kNsl kSts kCl MI_43 = true := by decide +kernel
set_option maxRecDepth 100000 in
theorem ck_44 : chkM MT lw_tbl kNsl kSts kCl MI_44 = true := by decide +kernel
set_option maxRecDepth 100000 in
theorem ck_45 : chkM MT lw_tbl kNsl kSts kCl MI_45 = true := by decide +kernel
set_option maxRecDepth 100000 in
theorem ck_46 : chkM MT lw_tbl kNsl kSts kCl MI_46 = true := by decide +kernel
set_option maxRecDepth 100000 in
theorem ck_47 : chkM MT lw_tbl kNsl kSts kCl MI_47 = true := by decide +kernel
set_option maxRecDepth 100000 in
theorem ck_48 : chkM MT lw_tbl kNsl kSts kCl MI_48 = true := by decide +kernel
set_option maxRecDepth 100000 in
theorem ck_49 : chkM MT lw_tbl kNsl kSts kCl MI_49 = true := by decide +kernel
set_option maxRecDepth 100000 in
theorem ck_50 : chkM MT lw_tbl kNsl kSts kCl MI_50 = true := by decide +kernel
set_option maxRecDepth 100000 in
theorem ck_51 : chkM MT lw_tbl kNsl kSts kCl MI_51 = true := by decide +kernel
set_option maxRecDepth 100000 in
theorem ck_52 : chkM MT lw_tbl kNsl kSts kCl MI_52 = true := by decide +kernel
set_option maxRecDepth 100000 in
theorem ck_53 : chkM MT lw_tbl kNsl kSts kCl MI_53 = true := by decide +kernel
set_option maxRecDepth 100000 in
theorem ck_54 : chkM MT lw_tbl kNsl kSts kCl MI_54 = true := by decide +kernel
set_option maxRecDepth 100000 in
theorem ck_55 : chkM MT lw_tbl kNsl kSts kCl MI_55 = true := by decide +kernel
set_option maxRecDepth 100000 in
theorem ck_56 : chkM MT lw_tbl kNsl kSts kCl MI_56 = true := by decide +kernel
set_option maxRecDepth 100000 in
theorem ck_57 : chkM MT lw_tbl kNsl kSts kCl MI_57 = true := by decide +kernel
set_option maxRecDepth 100000 in
theorem ck_58 : chkM MT lw_tbl kNsl kSts kCl MI_58 = true := by decide +kernel
set_option maxRecDepth 100000 in
theorem ck_59 : chkM MT lw_tbl kNsl kSts kCl MI_59 = true := by decide +kernel
set_option maxRecDepth 100000 in
theorem ck_60 : chkM MT lw_tbl kNsl kSts kCl MI_60 = true := by decide +kernel
set_option maxRecDepth 100000 in
theorem ck_61 : chkM MT lw_tbl kNsl kSts kCl MI_61 = true := by decide +kernel
set_option maxRecDepth 100000 in
theorem ck_62 : chkM MT lw_tbl kNsl kSts kCl MI_62 = true := by decide +kernel
set_option maxRecDepth 100000 in
theorem ck_63 : chkM MT lw_tbl kNsl kSts kCl MI_63 = true := by decide +kernel
set_option maxRecDepth 100000 in
theorem ck_64 : chkM MT lw_tbl kNsl kSts kCl MI_64 = true := by decide +kernel
set_option maxRecDepth 100000 in
theorem ck_65 : chkM MT lw_tbl kNsl kSts kCl MI_65 = true := by decide +kernel
set_option maxRecDepth 100000 in
theorem ck_66 : chkM MT lw_tbl kNsl kSts kCl MI_66 = true := by decide +kernel
set_option maxRecDepth 100000 in
theorem ck_67 : chkM MT lw_tbl kNsl kSts kCl MI_67 = true := by decide +kernel
set_option maxRecDepth 100000 in
theorem ck_68 : chkM MT lw_tbl kNsl kSts kCl MI_68 = true := by decide +kernel
set_option maxRecDepth 100000 in
theorem ck_69 : chkM MT lw_tbl kNsl kSts kCl MI_69 = true := by decide +kernel
set_option maxRecDepth 100000 in
theorem ck_70 : chkM MT lw_tbl kNsl kSts kCl MI_70 = true := by decide +kernel
set_option maxRecDepth 100000 in
theorem ck_71 : chkM MT lw_tbl kNsl kSts kCl MI_71 = true := by decide +kernel
set_option maxRecDepth 100000 in
theorem ck_72 : chkM MT lw_tbl kNsl kSts kCl MI_72 = true := by decide +kernel
set_option maxRecDepth 100000 in
theorem ck_73 : chkM MT lw_tbl kNsl kSts kCl MI_73 = true := by decide +kernel
set_option maxRecDepth 100000 in
theorem ck_74 : chkM MT lw_tbl kNsl kSts kCl MI_74 = true := by decide +kernel
set_option maxRecDepth 100000 in
theorem ck_75 : chkM MT lw_tbl kNsl kSts kCl MI_75 = true := by decide +kernel
set_option maxRecDepth 100000 in
theorem ck_76 : chkM MT lw_tbl kNsl kSts kCl MI_76 = true := by decide +kernel
set_option maxRecDepth 100000 in
theorem ck_77 : chkM MT lw_tbl kNsl kSts kCl MI_77 = true := by decide +kernel
set_option maxRecDepth 100000 in
theorem ck_78 : chkM MT lw_tbl kNsl kSts kCl MI_78 = true := by decide +kernel
set_option maxRecDepth 100000 in
theorem ck_79 : chkM MT lw_tbl kNsl kSts kCl MI_79 = true := by decide +kernel
set_option maxRecDepth 100000 in
theorem ck_80 : chkM MT lw_tbl kNsl kSts kCl MI_80 = true := by decide +kernel
set_option maxRecDepth 100000 in
theorem ck_81 : chkM MT lw_tbl kNsl kSts kCl MI_81 = true := by decide +kernel
set_option maxRecDepth 100000 in
theorem ck_82 : chkM MT lw_tbl kNsl kSts kCl MI_82 = true := by decide +kernel
set_option maxRecDepth 100000 in
theorem ck_83 : chkM MT lw_tbl kNsl kSts kCl MI_83 = true := by decide +kernel
set_option maxRecDepth 100000 in
theorem ck_84 : chkM MT lw_tbl kNsl kSts kCl MI_84 = true := by decide +kernel
set_option maxRecDepth 100000 in
theorem ck_85 : chkM MT lw_tbl kNsl kSts kCl MI_85 = true := by decide +kernel
set_option maxRecDepth 100000 in
theorem ck_86 : chkM MT lw_tbl kNsl kSts kCl MI_86 = true := by decide +kernel
set_option maxRecDepth 100000 in
theorem ck_87 : chkM MT lw_tbl kNsl kSts kCl MI_87 = true := by decide +kernel
set_option maxRecDepth 100000 in
theorem ck_88 : chkM MT lw_tbl kNsl kSts kCl MI_88 = true := by decide +kernel
set_option maxRecDepth 100000 in
theorem ck_89 : chkM MT lw_tbl kNsl kSts kCl MI_89 = true := by decide +kernel
set_option maxRecDepth 100000 in
theorem ck_90 : chkM MT lw_tbl kNsl kSts kCl MI_90 = true := by decide +kernel
set_option maxRecDepth 100000 in
theorem ck_91 : chkM MT lw_tbl kNsl kSts kCl MI_91 = true := by decide +kernel
set_option maxRecDepth 100000 in
theorem ck_92 : chkM MT lw_tbl kNsl kSts kCl MI_92 = true := by decide +kernel
set_option maxRecDepth 100000 in
theorem ck_93 : chkM MT lw_tbl kNsl kSts kCl MI_93 = true := by decide +kernel
set_option maxRecDepth 100000 in
theorem ck_94 : chkM MT lw_tbl kNsl kSts kCl MI_94 = true := by decide +kernel
set_option maxRecDepth 100000 in
theorem ck_95 : chkM MT lw_tbl kNsl kSts kCl MI_95 = true := by decide +kernel
set_option maxRecDepth 100000 in
theorem ck_96 : chkM MT lw_tbl kNsl kSts kCl MI_96 = true := by decide +kernel
set_option maxRecDepth 100000 in
theorem ck_97 : chkM MT lw_tbl kNsl kSts kCl MI_97 = true := by decide +kernel
set_option maxRecDepth 100000 in
theorem ck_98 : chkM MT lw_tbl kNsl kSts kCl MI_98 = true := by decide +kernel
set_option maxRecDepth 100000 in
theorem ck_99 : chkM MT lw_tbl kNsl kSts kCl MI_99 = true := by decide +kernel
set_option maxRecDepth 100000 in
theorem ck_100 : chkM MT lw_tbl kNsl kSts kCl MI_100 = true := by decide +kernel
set_option maxRecDepth 100000 in
theorem ck_101 : chkM MT lw_tbl kNsl kSts kCl MI_101 = true := by decide +kernel
set_option maxRecDepth 100000 in
theorem ck_102 : chkM MT lw_tbl kNsl kSts kCl MI_102 = true := by decide +kernel
set_option maxRecDepth 100000 in
theorem ck_103 : chkM MT lw_tbl kNsl kSts kCl MI_103 = true := by decide +kernel
set_option maxRecDepth 100000 in
theorem ck_104 : chkM MT lw_tbl kNsl kSts kCl MI_104 = true := by decide +kernel
set_option maxRecDepth 100000 in
theorem ck_105 : chkM MT lw_tbl kNsl kSts kCl MI_105 = true := by decide +kernel
set_option maxRecDepth 100000 in
theorem ck_106 : chkM MT lw_tbl kNsl kSts kCl MI_106 = true := by decide +kernel
set_option maxRecDepth 100000 in
theorem ck_107 : chkM MT lw_tbl kNsl kSts kCl MI_107 = true := by decide +kernel
set_option maxRecDepth 100000 in
theorem ck_108 : chkM MT lw_tbl kNsl kSts kCl MI_108 = true := by decide +kernel
set_option maxRecDepth 100000 in
theorem ck_109 : chkM MT lw_tbl kNsl kSts kCl MI_109 = true := by decide +kernel
set_option maxRecDepth 100000 in
theorem ck_110 : chkM MT lw_tbl kNsl kSts kCl MI_110 = true := by decide +kernel
set_option maxRecDepth 100000 in
theorem ck_111 : chkM MT lw_tbl kNsl kSts kCl MI_111 = true := by decide +kernel
set_option maxRecDepth 100000 in
theorem ck_112 : chkM MT lw_tbl kNsl kSts kCl MI_112 = true := by decide +kernel
set_option maxRecDepth 100000 in
theorem ck_113 : chkM MT lw_tbl kNsl kSts kCl MI_113 = true := by decide +kernel
set_option maxRecDepth 100000 in
theorem ck_114 : chkM MT lw_tbl kNsl kSts kCl MI_114 = true := by decide +kernel
set_option maxRecDepth 100000 in
theorem ck_115 : chkM MT lw_tbl kNsl kSts kCl MI_115 = true := by decide +kernel
set_option maxRecDepth 100000 in
theorem ck_116 : chkM MT lw_tbl kNsl kSts kCl MI_116 = true := by decide +kernel
set_option maxRecDepth 100000 in
theorem ck_117 : chkM MT lw_tbl kNsl kSts kCl MI_117 = true := by decide +kernel
set_option maxRecDepth 100000 in
theorem ck_118 : chkM MT lw_tbl kNsl kSts kCl MI_118 = true := by decide +kernel
set_option maxRecDepth 100000 in
theorem ck_119 : chkM MT lw_tbl kNsl kSts kCl MI_119 = true := by decide +kernel
set_option maxRecDepth 100000 in
theorem ck_120 : chkM MT lw_tbl kNsl kSts kCl MI_120 = true := by decide +kernel
set_option maxRecDepth 100000 in
theorem ck_121 : chkM MT lw_tbl kNsl kSts kCl MI_121 = true := by decide +kernel
set_option maxRecDepth 100000 in
theorem ck_122 : chkM MT lw_tbl kNsl kSts kCl MI_122 = true := by decide +kernel
set_option maxRecDepth 100000 in
theorem ck_123 : chkM MT lw_tbl kNsl kSts kCl MI_123 = true := by decide +kernel
set_option maxRecDepth 100000 in
theorem ck_124 : chkM MT lw_tbl kNsl kSts kCl MI_124 = true := by decide +kernel
set_option maxRecDepth 100000 in
theorem ck_125 : chkM MT lw_tbl kNsl kSts kCl MI_125 = true := by decide +kernel
set_option maxRecDepth 100000 in
theorem ck_126 : chkM MT lw_tbl kNsl kSts kCl MI_126 = true := by decide +kernel
set_option maxRecDepth 100000 in
theorem ck_127 : chkM MT lw_tbl kNsl kSts kCl MI_127 = true := by decide +kernel
set_option maxRecDepth 100000 in
theorem ck_128 : chkM MT lw_tbl kNsl kSts kCl MI_128 = true := by decide +kernel
set_option maxRecDepth 100000 in
theorem ck_129 : chkM MT lw_tbl kNsl kSts kCl MI_129 = true := by decide +kernel
set_option maxRecDepth 100000 in
theorem ck_130 : chkM MT lw_tbl kNsl kSts kCl MI_130 = true := by decide +kernel
set_option maxRecDepth 100000 in
theorem ck_131 : chkM MT lw_tbl kNsl kSts kCl MI_131 = true := by decide +kernel
set_option maxRecDepth 100000 in
theorem ck_132 : chkM MT lw_tbl kNsl kSts kCl MI_132 = true := by decide +kernel
set_option maxRecDepth 100000 in
theorem ck_133 : chkM MT lw_tbl kNsl kSts kCl MI_133 = true := by decide +kernel
set_option maxRecDepth 100000 in
theorem ck_134 : chkM MT lw_tbl kNsl kSts kCl MI_134 = true := by decide +kernel
set_option maxRecDepth 100000 in
theorem ck_135 : chkM MT lw_tbl kNsl kSts kCl MI_135 = true := by decide +kernel
set_option maxRecDepth 100000 in
theorem ck_136 : chkM MT lw_tbl kNsl kSts kCl MI_136 = true := by decide +kernel
set_option maxRecDepth 100000 in
theorem ck_137 : chkM MT lw_tbl kNsl kSts kCl MI_137 = true := by decide +kernel
set_option maxRecDepth 100000 in
theorem ck_138 : chkM MT lw_tbl kNsl kSts kCl MI_138 = true := by decide +kernel
set_option maxRecDepth 100000 in
theorem ck_139 : chkM MT lw_tbl kNsl kSts kCl MI_139 = true := by decide +kernel
set_option maxRecDepth 100000 in
theorem ck_140 : chkM MT lw_tbl kNsl kSts kCl MI_140 = true := by decide +kernel
set_option maxRecDepth 100000 in
theorem ck_141 : chkM MT lw_tbl kNsl kSts kCl MI_141 = true := by decide +kernel
set_option maxRecDepth 100000 in
theorem ck_142 : chkM MT lw_tbl kNsl kSts kCl MI_142 = true := by decide +kernel
set_option maxRecDepth 100000 in
theorem ck_143 : chkM MT lw_tbl kNsl kSts kCl MI_143 = true := by decide +kernel
set_option maxRecDepth 100000 in
theorem ck_144 : chkM MT lw_tbl kNsl kSts kCl MI_144 = true := by decide +kernel
set_option maxRecDepth 100000 in
theorem ck_145 : chkM MT lw_tbl kNsl kSts kCl MI_145 = true := by decide +kernel
set_option maxRecDepth 100000 in
theorem ck_146 : chkM MT lw_tbl kNsl kSts kCl MI_146 = true := by decide +kernel
set_option maxRecDepth 100000 in
theorem ck_147 : chkM MT lw_tbl kNsl kSts kCl MI_147 = true := by decide +kernel
set_option maxRecDepth 100000 in
theorem ck_148 : chkM MT lw_tbl kNsl kSts kCl MI_148 = true := by decide +kernel
set_option maxRecDepth 100000 in
theorem ck_149 : chkM MT lw_tbl kNsl kSts kCl MI_149 = true := by decide +kernel
set_option maxRecDepth 100000 in
theorem ck_150 : chkM MT lw_tbl kNsl kSts kCl MI_150 = true := by decide +kernel
set_option maxRecDepth 100000 in
theorem ck_151 : chkM MT lw_tbl kNsl kSts kCl MI_151 = true := by decide +kernel
set_option maxRecDepth 100000 in
theorem ck_152 : chkM MT lw_tbl kNsl kSts kCl MI_152 = true := by decide +kernel
set_option maxRecDepth 100000 in
theorem ck_153 : chkM MT lw_tbl kNsl kSts kCl MI_153 = true := by decide +kernel
set_option maxRecDepth 100000 in
theorem ck_154 : chkM MT lw_tbl kNsl kSts kCl MI_154 = true := by decide +kernel
set_option maxRecDepth 100000 in
theorem ck_155 : chkM MT lw_tbl kNsl kSts kCl MI_155 = true := by decide +kernel
set_option maxRecDepth 100000 in
theorem ck_156 : chkM MT lw_tbl kNsl kSts kCl MI_156 = true := by decide +kernel
set_option maxRecDepth 100000 in
theorem ck_157 : chkM MT lw_tbl kNsl kSts kCl MI_157 = true := by decide +kernel
set_option maxRecDepth 100000 in
theorem ck_158 : chkM MT lw_tbl kNsl kSts kCl MI_158 = true := by decide +kernel
set_option maxRecDepth 100000 in
theorem ck_159 : chkM MT lw_tbl kNsl kSts kCl MI_159 = true := by decide +kernel
set_option maxRecDepth 100000 in
theorem ck_160 : chkM MT lw_tbl kNsl kSts kCl MI_160 = true := by decide +kernel
set_option maxRecDepth 100000 in
theorem ck_161 : chkM MT lw_tbl kNsl kSts kCl MI_161 = true := by decide +kernel
set_option maxRecDepth 100000 in
theorem ck_162 : chkM MT lw_tbl kNsl kSts kCl MI_162 = true := by decide +kernel
set_option maxRecDepth 100000 in
theorem ck_163 : chkM MT lw_tbl kNsl kSts kCl MI_163 = true := by decide +kernel
set_option maxRecDepth 100000 in
theorem ck_164 : chkM MT lw_tbl kNsl kSts kCl MI_164 = true := by decide +kernel
set_option maxRecDepth 100000 in
theorem ck_165 : chkM MT lw_tbl kNsl kSts kCl MI_165 = true := by decide +kernel
set_option maxRecDepth 100000 in
theorem ck_166 : chkM MT lw_tbl kNsl kSts kCl MI_166 = true := by decide +kernel
set_option maxRecDepth 100000 in
theorem ck_167 : chkM MT lw_tbl kNsl kSts kCl MI_167 = true := by decide +kernel
set_option maxRecDepth 100000 in
theorem ck_168 : chkM MT lw_tbl kNsl kSts kCl MI_168 = true := by decide +kernel
set_option maxRecDepth 100000 in
theorem ck_169 : chkM MT lw_tbl kNsl kSts kCl MI_169 = true := by decide +kernel
set_option maxRecDepth 100000 in
theorem ck_170 : chkM MT lw_tbl kNsl kSts kCl MI_170 = true := by decide +kernel
set_option maxRecDepth 100000 in
theorem ck_171 : chkM MT lw_tbl kNsl kSts kCl MI_171 = true := by decide +kernel
set_option maxRecDepth 100000 in
theorem ck_172 : chkM MT lw_tbl kNsl kSts kCl MI_172 = true := by decide +kernel
set_option maxRecDepth 100000 in
theorem ck_173 : chkM MT lw_tbl kNsl kSts kCl MI_173 = true := by decide +kernel
set_option maxRecDepth 100000 in
theorem ck_174 : chkM MT lw_tbl kNsl kSts kCl MI_174 = true := by decide +kernel
set_option maxRecDepth 100000 in
theorem ck_175 : chkM MT lw_tbl kNsl kSts kCl MI_175 = true := by decide +kernel
set_option maxRecDepth 100000 in
theorem ck_176 : chkM MT lw_tbl kNsl kSts kCl MI_176 = true := by decide +kernel
set_option maxRecDepth 100000 in
theorem ck_177 : chkM MT lw_tbl kNsl kSts kCl MI_177 = true := by decide +kernel
set_option maxRecDepth 100000 in
theorem ck_178 : chkM MT lw_tbl kNsl kSts kCl MI_178 = true := by decide +kernel
set_option maxRecDepth 100000 in
theorem ck_179 : chkM MT lw_tbl kNsl kSts kCl MI_179 = true := by decide +kernel
set_option maxRecDepth 100000 in
theorem ck_180 : chkM MT lw_tbl kNsl kSts kCl MI_180 = true := by decide +kernel
set_option maxRecDepth 100000 in
theorem ck_181 : chkM MT lw_tbl kNsl kSts kCl MI_181 = true := by decide +kernel
set_option maxRecDepth 100000 in
theorem ck_182 : chkM MT lw_tbl kNsl kSts kCl MI_182 = true := by decide +kernel
set_option maxRecDepth 100000 in
theorem ck_183 : chkM MT lw_tbl kNsl kSts kCl MI_183 = true := by decide +kernel
set_option maxRecDepth 100000 in
theorem ck_184 : chkM MT lw_tbl kNsl kSts kCl MI_184 = true := by decide +kernel
set_option maxRecDepth 100000 in
theorem ck_185 : chkM MT lw_tbl kNsl kSts kCl MI_185 = true := by decide +kernel
set_option maxRecDepth 100000 in
theorem ck_186 : chkM MT lw_tbl kNsl kSts kCl MI_186 = true := by decide +kernel
set_option maxRecDepth 100000 in
theorem ck_187 : chkM MT lw_tbl kNsl kSts kCl MI_187 = true := by decide +kernel
set_option maxRecDepth 100000 in
theorem ck_188 : chkM MT lw_tbl kNsl kSts kCl MI_188 = true := by decide +kernel
set_option maxRecDepth 100000 in
theorem ck_189 : chkM MT lw_tbl kNsl kSts kCl MI_189 = true := by decide +kernel
set_option maxRecDepth 100000 in
theorem ck_190 : chkM MT lw_tbl kNsl kSts kCl MI_190 = true := by decide +kernel
set_option maxRecDepth 100000 in
theorem ck_191 : chkM MT lw_tbl kNsl kSts kCl MI_191 = true := by decide +kernel
set_option maxRecDepth 100000 in
theorem ck_192 : chkM MT lw_tbl kNsl kSts kCl MI_192 = true := by decide +kernel
set_option maxRecDepth 100000 in
theorem ck_193 : chkM MT lw_tbl kNsl kSts kCl MI_193 = true := by decide +kernel
set_option maxRecDepth 100000 in
theorem ck_194 : chkM MT lw_tbl kNsl kSts kCl MI_194 = true := by decide +kernel
set_option maxRecDepth 100000 in
theorem ck_195 : chkM MT lw_tbl kNsl kSts kCl MI_195 = true := by decide +kernel
set_option maxRecDepth 100000 in
theorem ck_196 : chkM MT lw_tbl kNsl kSts kCl MI_196 = true := by decide +kernel
set_option maxRecDepth 100000 in
theorem ck_197 : chkM MT lw_tbl kNsl kSts kCl MI_197 = true := by decide +kernel
set_option maxRecDepth 100000 in
theorem ck_198 : chkM MT lw_tbl kNsl kSts kCl MI_198 = true := by decide +kernel
set_option maxRecDepth 100000 in
theorem ck_199 : chkM MT lw_tbl kNsl kSts kCl MI_199 = true := by decide +kernel
set_option maxRecDepth 100000 in
theorem ck_200 : chkM MT lw_tbl kNsl kSts kCl MI_200 = true := by decide +kernel
set_option maxRecDepth 100000 in
theorem ck_201 : chkM MT lw_tbl kNsl kSts kCl MI_201 = true := by decide +kernel
set_option maxRecDepth 100000 in
theorem ck_202 : chkM MT lw_tbl kNsl kSts kCl MI_202 = true := by decide +kernel
set_option maxRecDepth 100000 in
theorem ck_203 : chkM MT lw_tbl kNsl kSts kCl MI_203 = true := by decide +kernel
set_option maxRecDepth 100000 in
theorem ck_204 : chkM MT lw_tbl kNsl kSts kCl MI_204 = true := by decide +kernel
set_option maxRecDepth 100000 in
theorem ck_205 : chkM MT lw_tbl kNsl kSts kCl MI_205 = true := by decide +kernel
set_option maxRecDepth 100000 in
theorem ck_206 : chkM MT lw_tbl kNsl kSts kCl MI_206 = true := by decide +kernel
set_option maxRecDepth 100000 in
theorem ck_207 : chkM MT lw_tbl kNsl kSts kCl MI_207 = true := by decide +kernel
set_option maxRecDepth 100000 in
theorem ck_208 : chkM MT lw_tbl kNsl kSts kCl MI_208 = true := by decide +kernel
set_option maxRecDepth 100000 in
theorem ck_209 : chkM MT lw_tbl kNsl kSts kCl MI_209 = true := by decide +kernel
set_option maxRecDepth 100000 in
theorem ck_210 : chkM MT lw_tbl kNsl kSts kCl MI_210 = true := by decide +kernel
set_option maxRecDepth 100000 in
theorem ck_211 : chkM MT lw_tbl kNsl kSts kCl MI_211 = true := by decide +kernel
set_option maxRecDepth 100000 in
theorem ck_212 : chkM MT lw_tbl kNsl kSts kCl MI_212 = true := by decide +kernel
set_option maxRecDepth 100000 in
theorem ck_213 : chkM MT lw_tbl kNsl kSts kCl MI_213 = true := by decide +kernel
set_option maxRecDepth 100000 in
theorem ck_214 : chkM MT lw_tbl kNsl kSts kCl MI_214 = true := by decide +kernel
set_option maxRecDepth 100000 in
theorem ck_215 : chkM MT lw_tbl kNsl kSts kCl MI_215 = true := by decide +kernel
set_option maxRecDepth 100000 in
theorem ck_216 : chkM MT lw_tbl kNsl kSts kCl MI_216 = true := by decide +kernel
set_option maxRecDepth 100000 in
theorem ck_217 : chkM MT lw_tbl kNsl kSts kCl MI_217 = true := by decide +kernel
set_option maxRecDepth 100000 in
theorem ck_218 : chkM MT lw_tbl kNsl kSts kCl MI_218 = true := by decide +kernel
set_option maxRecDepth 100000 in
theorem ck_219 : chkM MT lw_tbl kNsl kSts kCl MI_219 = true := by decide +kernel
set_option maxRecDepth 100000 in
theorem ck_220 : chkM MT lw_tbl kNsl kSts kCl MI_220 = true := by decide +kernel
set_option maxRecDepth 100000 in
theorem ck_221 : chkM MT lw_tbl kNsl kSts kCl MI_221 = true := by decide +kernel
set_option maxRecDepth 100000 in
theorem ck_222 : chkM MT lw_tbl kNsl kSts kCl MI_222 = true := by decide +kernel
set_option maxRecDepth 100000 in
theorem ck_223 : chkM MT lw_tbl kNsl kSts kCl MI_223 = true := by decide +kernel
set_option maxRecDepth 100000 in
theorem ck_224 : chkM MT lw_tbl kNsl kSts kCl MI_224 = true := by decide +kernel
set_option maxRecDepth 100000 in
theorem ck_225 : chkM MT lw_tbl kNsl kSts kCl MI_225 = true := by decide +kernel
set_option maxRecDepth 100000 in
theorem ck_226 : chkM MT lw_tbl kNsl kSts kCl MI_226 = true := by decide +kernel
set_option maxRecDepth 100000 in
theorem ck_227 : chkM MT lw_tbl kNsl kSts kCl MI_227 = true := by decide +kernel
set_option maxRecDepth 100000 in
theorem ck_228 : chkM MT lw_tbl kNsl kSts kCl MI_228 = true := by decide +kernel
set_option maxRecDepth 100000 in
theorem ck_229 : chkM MT lw_tbl kNsl kSts kCl MI_229 = true := by decide +kernel
set_option maxRecDepth 100000 in
theorem ck_230 : chkM MT lw_tbl kNsl kSts kCl MI_230 = true := by decide +kernel
set_option maxRecDepth 100000 in
theorem ck_231 : chkM MT lw_tbl kNsl kSts kCl MI_231 = true := by decide +kernel
set_option maxRecDepth 100000 in
theorem ck_232 : chkM MT lw_tbl kNsl kSts kCl MI_232 = true := by decide +kernel
set_option maxRecDepth 100000 in
theorem ck_233 : chkM MT lw_tbl kNsl kSts kCl MI_233 = true := by decide +kernel
set_option maxRecDepth 100000 in
theorem ck_234 : chkM MT lw_tbl kNsl kSts kCl MI_234 = true := by decide +kernel
set_option maxRecDepth 100000 in
theorem ck_235 : chkM MT lw_tbl kNsl kSts kCl MI_235 = true := by decide +kernel
set_option maxRecDepth 100000 in
theorem ck_236 : chkM MT lw_tbl kNsl kSts kCl MI_236 = true := by decide +kernel
set_option maxRecDepth 100000 in
theorem ck_237 : chkM MT lw_tbl kNsl kSts kCl MI_237 = true := by decide +kernel
set_option maxRecDepth 100000 in
theorem ck_238 : chkM MT lw_tbl kNsl kSts kCl MI_238 = true := by decide +kernel
set_option maxRecDepth 100000 in
theorem ck_239 : chkM MT lw_tbl kNsl kSts kCl MI_239 = true := by decide +kernel
set_option maxRecDepth 100000 in
theorem ck_240 : chkM MT lw_tbl kNsl kSts kCl MI_240 = true := by decide +kernel
set_option maxRecDepth 100000 in
theorem ck_241 : chkM MT lw_tbl kNsl kSts kCl MI_241 = true := by decide +kernel
set_option maxRecDepth 100000 in
theorem ck_242 : chkM MT lw_tbl kNsl kSts kCl MI_242 = true := by decide +kernel
set_option maxRecDepth 100000 in
theorem ck_243 : chkM MT lw_tbl kNsl kSts kCl MI_243 = true := by decide +kernel
set_option maxRecDepth 100000 in
theorem ck_244 : chkM MT lw_tbl kNsl kSts kCl MI_244 = true := by decide +kernel
set_option maxRecDepth 100000 in
theorem ck_245 : chkM MT lw_tbl kNsl kSts kCl MI_245 = true := by decide +kernel
set_option maxRecDepth 100000 in
theorem ck_246 : chkM MT lw_tbl kNsl kSts kCl MI_246 = true := by decide +kernel
set_option maxRecDepth 100000 in
theorem ck_247 : chkM MT lw_tbl kNsl kSts kCl MI_247 = true := by decide +kernel
set_option maxRecDepth 100000 in
theorem ck_248 : chkM MT lw_tbl kNsl kSts kCl MI_248 = true := by decide +kernel
set_option maxRecDepth 100000 in
theorem ck_249 : chkM MT lw_tbl kNsl kSts kCl MI_249 = true := by decide +kernel
set_option maxRecDepth 100000 in
theorem ck_250 : chkM MT lw_tbl kNsl kSts kCl MI_250 = true := by decide +kernel
set_option maxRecDepth 100000 in
theorem ck_251 : chkM MT lw_tbl kNsl kSts kCl MI_251 = true := by decide +kernel
set_option maxRecDepth 100000 in
theorem ck_252 : chkM MT lw_tbl kNsl kSts kCl MI_252 = true := by decide +kernel
set_option maxRecDepth 100000 in
theorem ck_253 : chkM MT lw_tbl kNsl kSts kCl MI_253 = true := by decide +kernel
set_option maxRecDepth 100000 in
theorem ck_254 : chkM MT lw_tbl kNsl kSts kCl MI_254 = true := by decide +kernel
set_option maxRecDepth 100000 in
theorem ck_255 : chkM MT lw_tbl kNsl kSts kCl MI_255 = true := by decide +kernel
set_option maxRecDepth 100000 in
theorem ck_256 : chkM MT lw_tbl kNsl kSts kCl MI_256 = true := by decide +kernel
set_option maxRecDepth 100000 in
theorem ck_257 : chkM MT lw_tbl kNsl kSts kCl MI_257 = true := by decide +kernel
set_option maxRecDepth 100000 in
theorem ck_258 : chkM MT lw_tbl kNsl kSts kCl MI_258 = true := by decide +kernel
set_option maxRecDepth 100000 in
theorem ck_259 : chkM MT lw_tbl kNsl kSts kCl MI_259 = true := by decide +kernel
set_option maxRecDepth 100000 in
theorem ck_260 : chkM MT lw_tbl kNsl kSts kCl MI_260 = true := by decide +kernel
set_option maxRecDepth 100000 in
theorem ck_261 : chkM MT lw_tbl kNsl kSts kCl MI_261 = true := by decide +kernel
set_option maxRecDepth 100000 in
theorem ck_262 : chkM MT lw_tbl kNsl kSts kCl MI_262 = true := by decide +kernel
set_option maxRecDepth 100000 in
theorem ck_263 : chkM MT lw_tbl kNsl kSts kCl MI_263 = true := by decide +kernel
set_option maxRecDepth 100000 in
theorem ck_264 : chkM MT lw_tbl kNsl kSts kCl MI_264 = true := by decide +kernel
set_option maxRecDepth 100000 in
theorem ck_265 : chkM MT lw_tbl kNsl kSts kCl MI_265 = true := by decide +kernel
set_option maxRecDepth 100000 in
theorem ck_266 : chkM MT lw_tbl kNsl kSts kCl MI_266 = true := by decide +kernel
set_option maxRecDepth 100000 in
theorem ck_267 : chkM MT lw_tbl kNsl kSts kCl MI_267 = true := by decide +kernel
set_option maxRecDepth 100000 in
theorem ck_268 : chkM MT lw_tbl kNsl kSts kCl MI_268 = true := by decide +kernel
set_option maxRecDepth 100000 in
theorem ck_269 : chkM MT lw_tbl kNsl kSts kCl MI_269 = true := by decide +kernel
set_option maxRecDepth 100000 in
theorem ck_270 : chkM MT lw_tbl kNsl kSts kCl MI_270 = true := by decide +kernel
set_option maxRecDepth 100000 in
theorem ck_271 : chkM MT lw_tbl kNsl kSts kCl MI_271 = true := by decide +kernel
set_option maxRecDepth 100000 in
theorem ck_272 : chkM MT lw_tbl kNsl kSts kCl MI_272 = true := by decide +kernel
set_option maxRecDepth 100000 in
theorem ck_273 : chkM MT lw_tbl kNsl kSts kCl MI_273 = true := by decide +kernel
set_option maxRecDepth 100000 in
theorem ck_274 : chkM MT lw_tbl kNsl kSts kCl MI_274 = true := by decide +kernel
set_option maxRecDepth 100000 in
theorem ck_275 : chkM MT lw_tbl kNsl kSts kCl MI_275 = true := by decide +kernel
set_option maxRecDepth 100000 in
theorem ck_276 : chkM MT lw_tbl kNsl kSts kCl MI_276 = true := by decide +kernel
set_option maxRecDepth 100000 in
theorem ck_277 : chkM MT lw_tbl kNsl kSts kCl MI_277 = true := by decide +kernel
set_option maxRecDepth 100000 in
theorem ck_278 : chkM MT lw_tbl kNsl kSts kCl MI_278 = true := by decide +kernel
set_option maxRecDepth 100000 in
theorem ck_279 : chkM MT lw_tbl kNsl kSts kCl MI_279 = true := by decide +kernel
set_option maxRecDepth 100000 in
theorem ck_280 : chkM MT lw_tbl kNsl kSts kCl MI_280 = true := by decide +kernel
set_option maxRecDepth 100000 in
theorem ck_281 : chkM MT lw_tbl kNsl kSts kCl MI_281 = true := by decide +kernel
set_option maxRecDepth 100000 in
theorem ck_282 : chkM MT lw_tbl kNsl kSts kCl MI_282 = true := by decide +kernel
set_option maxRecDepth 100000 in
theorem ck_283 : chkM MT lw_tbl kNsl kSts kCl MI_283 = true := by decide +kernel
set_option maxRecDepth 100000 in
theorem ck_284 : chkM MT lw_tbl kNsl kSts kCl MI_284 = true := by decide +kernel
set_option maxRecDepth 100000 in
theorem ck_285 : chkM MT lw_tbl kNsl kSts kCl MI_285 = true := by decide +kernel
set_option maxRecDepth 100000 in
theorem cw_0 : CW lw_tbl MI_0 := ⟨fun _ => List.mem_filter.mpr ⟨List.mem_of_getElem? (i := 474) rfl, rfl⟩, fun h => by cases h⟩
set_option maxRecDepth 100000 in
theorem cw_1 : CW lw_tbl MI_1 := ⟨fun _ => List.mem_filter.mpr ⟨List.mem_of_getElem? (i := 470) rfl, rfl⟩, fun h => by cases h⟩
set_option maxRecDepth 100000 in
theorem cw_2 : CW lw_tbl MI_2 := ⟨fun _ => List.mem_filter.mpr ⟨List.mem_of_getElem? (i := 1531) rfl, rfl⟩, fun h => by cases h⟩
set_option maxRecDepth 100000 in
theorem cw_3 : CW lw_tbl MI_3 := ⟨fun _ => List.mem_filter.mpr ⟨List.mem_of_getElem? (i := 722) rfl, rfl⟩, fun h => by cases h⟩
set_option maxRecDepth 100000 in
theorem cw_4 : CW lw_tbl MI_4 := ⟨fun _ => List.mem_filter.mpr ⟨List.mem_of_getElem? (i := 718) rfl, rfl⟩, fun h => by cases h⟩
set_option maxRecDepth 100000 in
theorem cw_5 : CW lw_tbl MI_5 := ⟨fun _ => List.mem_filter.mpr ⟨List.mem_of_getElem? (i := 730) rfl, rfl⟩, fun h => by cases h⟩
set_option maxRecDepth 100000 in
theorem cw_6 : CW lw_tbl MI_6 := ⟨fun _ => List.mem_filter.mpr ⟨List.mem_of_getElem? (i := 733) rfl, rfl⟩, fun h => by cases h⟩
set_option maxRecDepth 100000 in
theorem cw_7 : CW lw_tbl MI_7 := ⟨fun _ => List.mem_filter.mpr ⟨List.mem_of_getElem? (i := 736) rfl, rfl⟩, fun h => by cases h⟩
set_option maxRecDepth 100000 in
theorem cw_8 : CW lw_tbl MI_8 := ⟨fun _ => List.mem_filter.mpr ⟨List.mem_of_getElem? (i := 739) rfl, rfl⟩, fun h => by cases h⟩
set_option maxRecDepth 100000 in
theorem cw_9 : CW lw_tbl MI_9 := ⟨fun _ => List.mem_filter.mpr ⟨List.mem_of_getElem? (i := 726) rfl, rfl⟩, fun h => by cases h⟩
set_option maxRecDepth 100000 in
theorem cw_10 : CW lw_tbl MI_10 := ⟨fun _ => List.mem_filter.mpr ⟨List.mem_of_getElem? (i := 748) rfl, rfl⟩, fun h => by cases h⟩
set_option maxRecDepth 100000 in
theorem cw_11 : CW lw_tbl MI_11 := ⟨fun _ => List.mem_filter.mpr ⟨List.mem_of_getElem? (i := 743) rfl, rfl⟩, fun h => by cases h⟩
set_option maxRecDepth 100000 in
theorem cw_12 : CW lw_tbl MI_12 := ⟨fun _ => List.mem_filter.mpr ⟨List.mem_of_getElem? (i := 807) rfl, rfl⟩, fun h => by cases h⟩
set_option maxRecDepth 100000 in
theorem cw_13 : CW lw_tbl MI_13 := ⟨fun _ => List.mem_filter.mpr ⟨List.mem_of_getElem? (i := 815) rfl, rfl⟩, fun h => by cases h⟩
set_option maxRecDepth 100000 in
theorem cw_14 : CW lw_tbl MI_14 := ⟨fun _ => List.mem_filter.mpr ⟨List.mem_of_getElem? (i := 811) rfl, rfl⟩, fun h => by cases h⟩
set_option maxRecDepth 100000 in
theorem cw_15 : CW lw_tbl MI_15 := ⟨fun _ => List.mem_filter.mpr ⟨List.mem_of_getElem? (i := 509) rfl, rfl⟩, fun h => by cases h⟩
set_option maxRecDepth 100000 in
theorem cw_16 : CW lw_tbl MI_16 := ⟨fun _ => List.mem_filter.mpr ⟨List.mem_of_getElem? (i := 823) rfl, rfl⟩, fun h => by cases h⟩
set_option maxRecDepth 100000 in
theorem cw_17 : CW lw_tbl MI_17 := ⟨fun _ => List.mem_filter.mpr ⟨List.mem_of_getElem? (i := 819) rfl, rfl⟩, fun h => by cases h⟩
set_option maxRecDepth 100000 in
theorem cw_18 : CW lw_tbl MI_18 := ⟨fun _ => List.mem_filter.mpr ⟨List.mem_of_getElem? (i := 836) rfl, rfl⟩, fun h => by cases h⟩
set_option maxRecDepth 100000 in
theorem cw_19 : CW lw_tbl MI_19 := ⟨fun _ => List.mem_filter.mpr ⟨List.mem_of_getElem? (i := 865) rfl, rfl⟩, fun h => by cases h⟩
set_option maxRecDepth 100000 in
theorem cw_20 : CW lw_tbl MI_20 := ⟨fun _ => List.mem_filter.mpr ⟨List.mem_of_getElem? (i := 873) rfl, rfl⟩, fun h => by cases h⟩
set_option maxRecDepth 100000 in
theorem cw_21 : CW lw_tbl MI_21 := ⟨fun _ => List.mem_filter.mpr ⟨List.mem_of_getElem? (i := 869) rfl, rfl⟩, fun h => by cases h⟩
set_option maxRecDepth 100000 in
theorem cw_22 : CW lw_tbl MI_22 := ⟨fun _ => List.mem_filter.mpr ⟨List.mem_of_getElem? (i := 884) rfl, rfl⟩, fun h => by cases h⟩
set_option maxRecDepth 100000 in
theorem cw_23 : CW lw_tbl MI_23 := ⟨fun _ => List.mem_filter.mpr ⟨List.mem_of_getElem? (i := 861) rfl, rfl⟩, fun h => by cases h⟩
set_option maxRecDepth 100000 in
theorem cw_24 : CW lw_tbl MI_24 := ⟨fun _ => List.mem_filter.mpr ⟨List.mem_of_getElem? (i := 857) rfl, rfl⟩, fun h => by cases h⟩
set_option maxRecDepth 100000 in
theorem cw_25 : CW lw_tbl MI_25 := ⟨fun _ => List.mem_filter.mpr ⟨List.mem_of_getElem? (i := 853) rfl, rfl⟩, fun h => by cases h⟩
set_option maxRecDepth 100000 in
theorem cw_26 : CW lw_tbl MI_26 := ⟨fun _ => List.mem_filter.mpr ⟨List.mem_of_getElem? (i := 849) rfl, rfl⟩, fun h => by cases h⟩
set_option maxRecDepth 100000 in
theorem cw_27 : CW lw_tbl MI_27 := ⟨fun _ => List.mem_filter.mpr ⟨List.mem_of_getElem? (i := 844) rfl, rfl⟩, fun h => by cases h⟩
set_option maxRecDepth 100000 in
theorem cw_28 : CW lw_tbl MI_28 := ⟨fun _ => List.mem_filter.mpr ⟨List.mem_of_getElem? (i := 840) rfl, rfl⟩, fun h => by cases h⟩
set_option maxRecDepth 100000 in
theorem cw_29 : CW lw_tbl MI_29 := ⟨fun _ => List.mem_filter.mpr ⟨List.mem_of_getElem? (i := 832) rfl, rfl⟩, fun h => by cases h⟩
set_option maxRecDepth 100000 in
theorem cw_30 : CW lw_tbl MI_30 := ⟨fun _ => List.mem_filter.mpr ⟨List.mem_of_getElem? (i := 828) rfl, rfl⟩, fun h => by cases h⟩
set_option maxRecDepth 100000 in
theorem cw_31 : CW lw_tbl MI_31 := ⟨fun _ => List.mem_filter.mpr ⟨List.mem_of_getElem? (i := 893) rfl, rfl⟩, fun h => by cases h⟩
set_option maxRecDepth 100000 in
theorem cw_32 : CW lw_tbl MI_32 := ⟨fun _ => List.mem_filter.mpr ⟨List.mem_of_getElem? (i := 903) rfl, rfl⟩, fun h => by cases h⟩
set_option maxRecDepth 100000 in
theorem cw_33 : CW lw_tbl MI_33 := ⟨fun _ => List.mem_filter.mpr ⟨List.mem_of_getElem? (i := 908) rfl, rfl⟩, fun h => by cases h⟩
set_option maxRecDepth 100000 in
theorem cw_34 : CW lw_tbl MI_34 := ⟨fun _ => List.mem_filter.mpr ⟨List.mem_of_getElem? (i := 897) rfl, rfl⟩, fun h => by cases h⟩
set_option maxRecDepth 100000 in
theorem cw_35 : CW lw_tbl MI_35 := ⟨fun _ => List.mem_filter.mpr ⟨List.mem_of_getElem? (i := 890) rfl, rfl⟩, fun h => by cases h⟩
set_option maxRecDepth 100000 in
theorem cw_36 : CW lw_tbl MI_36 := ⟨fun _ => List.mem_filter.mpr ⟨List.mem_of_getElem? (i := 714) rfl, rfl⟩, fun h => by cases h⟩
set_option maxRecDepth 100000 in
theorem cw_37 : CW lw_tbl MI_37 := ⟨fun _ => List.mem_filter.mpr ⟨List.mem_of_getElem? (i := 490) rfl, rfl⟩, fun h => by cases h⟩
set_option maxRecDepth 100000 in
theorem cw_38 : CW lw_tbl MI_38 := ⟨fun _ => List.mem_filter.mpr ⟨List.mem_of_getElem? (i := 916) rfl, rfl⟩, fun h => by cases h⟩
set_option maxRecDepth 100000 in
theorem cw_39 : CW lw_tbl MI_39 := ⟨fun _ => List.mem_filter.mpr ⟨List.mem_of_getElem? (i := 912) rfl, rfl⟩, fun h => by cases h⟩
set_option maxRecDepth 100000 in
theorem cw_40 : CW lw_tbl MI_40 := ⟨fun _ => List.mem_filter.mpr ⟨List.mem_of_getElem? (i := 558) rfl, rfl⟩, fun h => by cases h⟩
set_option maxRecDepth 100000 in
theorem cw_41 : CW lw_tbl MI_41 := ⟨fun _ => List.mem_filter.mpr ⟨List.mem_of_getElem? (i := 564) rfl, rfl⟩, fun h => by cases h⟩
set_option maxRecDepth 100000 in
theorem cw_42 : CW lw_tbl MI_42 := ⟨fun _ => List.mem_filter.mpr ⟨List.mem_of_getElem? (i := 554) rfl, rfl⟩, fun h => by cases h⟩
set_option maxRecDepth 100000 in
theorem cw_43 : CW lw_tbl MI_43 := ⟨fun _ => List.mem_filter.mpr ⟨List.mem_of_getElem? (i := 561) rfl, rfl⟩, fun h => by cases h⟩
set_option maxRecDepth 100000 in
theorem cw_44 : CW lw_tbl MI_44 := ⟨fun _ => List.mem_filter.mpr ⟨List.mem_of_getElem? (i := 927) rfl, rfl⟩, fun h => by cases h⟩
set_option maxRecDepth 100000 in
theorem cw_45 : CW lw_tbl MI_45 := ⟨fun _ => List.mem_filter.mpr ⟨List.mem_of_getElem? (i := 567) rfl, rfl⟩, fun h => by cases h⟩
set_option maxRecDepth 100000 in
theorem cw_46 : CW lw_tbl MI_46 := ⟨fun _ => List.mem_filter.mpr ⟨List.mem_of_getElem? (i := 930) rfl, rfl⟩, fun h => by cases h⟩
set_option maxRecDepth 100000 in
theorem cw_47 : CW lw_tbl MI_47 := ⟨fun _ => List.mem_filter.mpr ⟨List.mem_of_getElem? (i := 924) rfl, rfl⟩, fun h => by cases h⟩
set_option maxRecDepth 100000 in
theorem cw_48 : CW lw_tbl MI_48 := ⟨fun _ => List.mem_filter.mpr ⟨List.mem_of_getElem? (i := 920) rfl, rfl⟩, fun h => by cases h⟩
set_option maxRecDepth 100000 in
theorem cw_49 : CW lw_tbl MI_49 := ⟨fun _ => List.mem_filter.mpr ⟨List.mem_of_getElem? (i := 934) rfl, rfl⟩, fun h => by cases h⟩
set_option maxRecDepth 100000 in
theorem cw_50 : CW lw_tbl MI_50 := ⟨fun _ => List.mem_filter.mpr ⟨List.mem_of_getElem? (i := 648) rfl, rfl⟩, fun h => by cases h⟩
set_option maxRecDepth 100000 in
theorem cw_51 : CW lw_tbl MI_51 := ⟨fun h => by rcases h with h | h <;> cases h, fun _ => List.mem_filter.mpr ⟨List.mem_of_getElem? (i := 643) rfl, rfl⟩⟩
set_option maxRecDepth 100000 in
theorem cw_52 : CW lw_tbl MI_52 := ⟨fun _ => List.mem_filter.mpr ⟨List.mem_of_getElem? (i := 1539) rfl, rfl⟩, fun h => by cases h⟩
set_option maxRecDepth 100000 in
theorem cw_53 : CW lw_tbl MI_53 := ⟨fun _ => List.mem_filter.mpr ⟨List.mem_of_getElem? (i := 1547) rfl, rfl⟩, fun h => by cases h⟩
set_option maxRecDepth 100000 in
theorem cw_54 : CW lw_tbl MI_54 := ⟨fun _ => List.mem_filter.mpr ⟨List.mem_of_getElem? (i := 1550) rfl, rfl⟩, fun h => by cases h⟩
set_option maxRecDepth 100000 in
theorem cw_55 : CW lw_tbl MI_55 := ⟨fun _ => List.mem_filter.mpr ⟨List.mem_of_getElem? (i := 1553) rfl, rfl⟩, fun h => by cases h⟩
set_option maxRecDepth 100000 in
theorem cw_56 : CW lw_tbl MI_56 := ⟨fun _ => List.mem_filter.mpr ⟨List.mem_of_getElem? (i := 1106) rfl, rfl⟩, fun h => by cases h⟩
set_option maxRecDepth 100000 in
theorem cw_57 : CW lw_tbl MI_57 := ⟨fun _ => List.mem_filter.mpr ⟨List.mem_of_getElem? (i := 1558) rfl, rfl⟩, fun h => by cases h⟩
set_option maxRecDepth 100000 in
theorem cw_58 : CW lw_tbl MI_58 := ⟨fun _ => List.mem_filter.mpr ⟨List.mem_of_getElem? (i := 1543) rfl, rfl⟩, fun h => by cases h⟩
set_option maxRecDepth 100000 in
theorem cw_59 : CW lw_tbl MI_59 := ⟨fun _ => List.mem_filter.mpr ⟨List.mem_of_getElem? (i := 1567) rfl, rfl⟩, fun h => by cases h⟩
set_option maxRecDepth 100000 in
theorem cw_60 : CW lw_tbl MI_60 := ⟨fun _ => List.mem_filter.mpr ⟨List.mem_of_getElem? (i := 1575) rfl, rfl⟩, fun h => by cases h⟩
set_option maxRecDepth 100000 in
theorem cw_61 : CW lw_tbl MI_61 := ⟨fun _ => List.mem_filter.mpr ⟨List.mem_of_getElem? (i := 1579) rfl, rfl⟩, fun h => by cases h⟩
set_option maxRecDepth 100000 in
theorem cw_62 : CW lw_tbl MI_62 := ⟨fun _ => List.mem_filter.mpr ⟨List.mem_of_getElem? (i := 1591) rfl, rfl⟩, fun h => by cases h⟩
set_option maxRecDepth 100000 in
theorem cw_63 : CW lw_tbl MI_63 := ⟨fun _ => List.mem_filter.mpr ⟨List.mem_of_getElem? (i := 1587) rfl, rfl⟩, fun h => by cases h⟩
set_option maxRecDepth 100000 in
theorem cw_64 : CW lw_tbl MI_64 := ⟨fun _ => List.mem_filter.mpr ⟨List.mem_of_getElem? (i := 1595) rfl, rfl⟩, fun h => by cases h⟩
set_option maxRecDepth 100000 in
theorem cw_65 : CW lw_tbl MI_65 := ⟨fun _ => List.mem_filter.mpr ⟨List.mem_of_getElem? (i := 1583) rfl, rfl⟩, fun h => by cases h⟩
set_option maxRecDepth 100000 in
theorem cw_66 : CW lw_tbl MI_66 := ⟨fun _ => List.mem_filter.mpr ⟨List.mem_of_getElem? (i := 1602) rfl, rfl⟩, fun h => by cases h⟩
set_option maxRecDepth 100000 in
theorem cw_67 : CW lw_tbl MI_67 := ⟨fun _ => List.mem_filter.mpr ⟨List.mem_of_getElem? (i := 1610) rfl, rfl⟩, fun h => by cases h⟩
set_option maxRecDepth 100000 in
theorem cw_68 : CW lw_tbl MI_68 := ⟨fun _ => List.mem_filter.mpr ⟨List.mem_of_getElem? (i := 1635) rfl, rfl⟩, fun h => by cases h⟩
set_option maxRecDepth 100000 in
theorem cw_69 : CW lw_tbl MI_69 := ⟨fun _ => List.mem_filter.mpr ⟨List.mem_of_getElem? (i := 1639) rfl, rfl⟩, fun h => by cases h⟩
set_option maxRecDepth 100000 in
theorem cw_70 : CW lw_tbl MI_70 := ⟨fun _ => List.mem_filter.mpr ⟨List.mem_of_getElem? (i := 1631) rfl, rfl⟩, fun h => by cases h⟩
set_option maxRecDepth 100000 in
theorem cw_71 : CW lw_tbl MI_71 := ⟨fun _ => List.mem_filter.mpr ⟨List.mem_of_getElem? (i := 1627) rfl, rfl⟩, fun h => by cases h⟩
set_option maxRecDepth 100000 in
theorem cw_72 : CW lw_tbl MI_72 := ⟨fun _ => List.mem_filter.mpr ⟨List.mem_of_getElem? (i := 1623) rfl, rfl⟩, fun h => by cases h⟩
set_option maxRecDepth 100000 in
theorem cw_73 : CW lw_tbl MI_73 := ⟨fun _ => List.mem_filter.mpr ⟨List.mem_of_getElem? (i := 1618) rfl, rfl⟩, fun h => by cases h⟩
set_option maxRecDepth 100000 in
theorem cw_74 : CW lw_tbl MI_74 := ⟨fun _ => List.mem_filter.mpr ⟨List.mem_of_getElem? (i := 1614) rfl, rfl⟩, fun h => by cases h⟩
set_option maxRecDepth 100000 in
theorem cw_75 : CW lw_tbl MI_75 := ⟨fun _ => List.mem_filter.mpr ⟨List.mem_of_getElem? (i := 1606) rfl, rfl⟩, fun h => by cases h⟩
set_option maxRecDepth 100000 in
theorem cw_76 : CW lw_tbl MI_76 := ⟨fun _ => List.mem_filter.mpr ⟨List.mem_of_getElem? (i := 1562) rfl, rfl⟩, fun h => by cases h⟩
set_option maxRecDepth 100000 in
theorem cw_77 : CW lw_tbl MI_77 := ⟨fun _ => List.mem_filter.mpr ⟨List.mem_of_getElem? (i := 1648) rfl, rfl⟩, fun h => by cases h⟩
set_option maxRecDepth 100000 in
theorem cw_78 : CW lw_tbl MI_78 := ⟨fun _ => List.mem_filter.mpr ⟨List.mem_of_getElem? (i := 1645) rfl, rfl⟩, fun h => by cases h⟩
set_option maxRecDepth 100000 in
theorem cw_79 : CW lw_tbl MI_79 := ⟨fun _ => List.mem_filter.mpr ⟨List.mem_of_getElem? (i := 1535) rfl, rfl⟩, fun h => by cases h⟩
set_option maxRecDepth 100000 in
theorem cw_80 : CW lw_tbl MI_80 := ⟨fun _ => List.mem_filter.mpr ⟨List.mem_of_getElem? (i := 1527) rfl, rfl⟩, fun h => by cases h⟩
set_option maxRecDepth 100000 in
theorem cw_81 : CW lw_tbl MI_81 := ⟨fun _ => List.mem_filter.mpr ⟨List.mem_of_getElem? (i := 478) rfl, rfl⟩, fun h => by cases h⟩
set_option maxRecDepth 100000 in
theorem cw_82 : CW lw_tbl MI_82 := ⟨fun _ => List.mem_filter.mpr ⟨List.mem_of_getElem? (i := 1652) rfl, rfl⟩, fun h => by cases h⟩
set_option maxRecDepth 100000 in
theorem cw_83 : CW lw_tbl MI_83 := ⟨fun _ => List.mem_filter.mpr ⟨List.mem_of_getElem? (i := 516) rfl, rfl⟩, fun h => by cases h⟩
set_option maxRecDepth 100000 in
theorem cw_84 : CW lw_tbl MI_84 := ⟨fun _ => List.mem_filter.mpr ⟨List.mem_of_getElem? (i := 947) rfl, rfl⟩, fun h => by cases h⟩
set_option maxRecDepth 100000 in
theorem cw_85 : CW lw_tbl MI_85 := ⟨fun _ => List.mem_filter.mpr ⟨List.mem_of_getElem? (i := 951) rfl, rfl⟩, fun h => by cases h⟩
set_option maxRecDepth 100000 in
theorem cw_86 : CW lw_tbl MI_86 := ⟨fun _ => List.mem_filter.mpr ⟨List.mem_of_getElem? (i := 943) rfl, rfl⟩, fun h => by cases h⟩
set_option maxRecDepth 100000 in
theorem cw_87 : CW lw_tbl MI_87 := ⟨fun h => by rcases h with h | h <;> cases h, fun _ => List.mem_filter.mpr ⟨List.mem_of_getElem? (i := 938) rfl, rfl⟩⟩
set_option maxRecDepth 100000 in
theorem cw_88 : CW lw_tbl MI_88 := ⟨fun _ => List.mem_filter.mpr ⟨List.mem_of_getElem? (i := 1659) rfl, rfl⟩, fun h => by cases h⟩
set_option maxRecDepth 100000 in
theorem cw_89 : CW lw_tbl MI_89 := ⟨fun _ => List.mem_filter.mpr ⟨List.mem_of_getElem? (i := 1656) rfl, rfl⟩, fun h => by cases h⟩
set_option maxRecDepth 100000 in
theorem cw_90 : CW lw_tbl MI_90 := ⟨fun _ => List.mem_filter.mpr ⟨List.mem_of_getElem? (i := 977) rfl, rfl⟩, fun h => by cases h⟩
set_option maxRecDepth 100000 in
theorem cw_91 : CW lw_tbl MI_91 := ⟨fun _ => List.mem_filter.mpr ⟨List.mem_of_getElem? (i := 981) rfl, rfl⟩, fun h => by cases h⟩
set_option maxRecDepth 100000 in
theorem cw_92 : CW lw_tbl MI_92 := ⟨fun _ => List.mem_filter.mpr ⟨List.mem_of_getElem? (i := 973) rfl, rfl⟩, fun h => by cases h⟩
set_option maxRecDepth 100000 in
theorem cw_93 : CW lw_tbl MI_93 := ⟨fun h => by rcases h with h | h <;> cases h, fun _ => List.mem_filter.mpr ⟨List.mem_of_getElem? (i := 969) rfl, rfl⟩⟩
set_option maxRecDepth 100000 in
theorem cw_94 : CW lw_tbl MI_94 := ⟨fun _ => List.mem_filter.mpr ⟨List.mem_of_getElem? (i := 1666) rfl, rfl⟩, fun h => by cases h⟩
set_option maxRecDepth 100000 in
theorem cw_95 : CW lw_tbl MI_95 := ⟨fun _ => List.mem_filter.mpr ⟨List.mem_of_getElem? (i := 1670) rfl, rfl⟩, fun h => by cases h⟩
set_option maxRecDepth 100000 in
theorem cw_96 : CW lw_tbl MI_96 := ⟨fun _ => List.mem_filter.mpr ⟨List.mem_of_getElem? (i := 1674) rfl, rfl⟩, fun h => by cases h⟩
set_option maxRecDepth 100000 in
theorem cw_97 : CW lw_tbl MI_97 := ⟨fun _ => List.mem_filter.mpr ⟨List.mem_of_getElem? (i := 1663) rfl, rfl⟩, fun h => by cases h⟩
set_option maxRecDepth 100000 in
theorem cw_98 : CW lw_tbl MI_98 := ⟨fun _ => List.mem_filter.mpr ⟨List.mem_of_getElem? (i := 990) rfl, rfl⟩, fun h => by cases h⟩
set_option maxRecDepth 100000 in
theorem cw_99 : CW lw_tbl MI_99 := ⟨fun h => by rcases h with h | h <;> cases h, fun _ => List.mem_filter.mpr ⟨List.mem_of_getElem? (i := 986) rfl, rfl⟩⟩
set_option maxRecDepth 100000 in
theorem cw_100 : CW lw_tbl MI_100 := ⟨fun _ => List.mem_filter.mpr ⟨List.mem_of_getElem? (i := 1679) rfl, rfl⟩, fun h => by cases h⟩
set_option maxRecDepth 100000 in
theorem cw_101 : CW lw_tbl MI_101 := ⟨fun _ => List.mem_filter.mpr ⟨List.mem_of_getElem? (i := 485) rfl, rfl⟩, fun h => by cases h⟩
set_option maxRecDepth 100000 in
theorem cw_102 : CW lw_tbl MI_102 := ⟨fun _ => List.mem_filter.mpr ⟨List.mem_of_getElem? (i := 494) rfl, rfl⟩, fun h => by cases h⟩
set_option maxRecDepth 100000 in
theorem cw_103 : CW lw_tbl MI_103 := ⟨fun _ => List.mem_filter.mpr ⟨List.mem_of_getElem? (i := 482) rfl, rfl⟩, fun h => by cases h⟩
set_option maxRecDepth 100000 in
theorem cw_104 : CW lw_tbl MI_104 := ⟨fun _ => List.mem_filter.mpr ⟨List.mem_of_getElem? (i := 1686) rfl, rfl⟩, fun h => by cases h⟩
set_option maxRecDepth 100000 in
theorem cw_105 : CW lw_tbl MI_105 := ⟨fun _ => List.mem_filter.mpr ⟨List.mem_of_getElem? (i := 1694) rfl, rfl⟩, fun h => by cases h⟩
set_option maxRecDepth 100000 in
theorem cw_106 : CW lw_tbl MI_106 := ⟨fun _ => List.mem_filter.mpr ⟨List.mem_of_getElem? (i := 1690) rfl, rfl⟩, fun h => by cases h⟩
set_option maxRecDepth 100000 in
theorem cw_107 : CW lw_tbl MI_107 := ⟨fun _ => List.mem_filter.mpr ⟨List.mem_of_getElem? (i := 1683) rfl, rfl⟩, fun h => by cases h⟩
set_option maxRecDepth 100000 in
theorem cw_108 : CW lw_tbl MI_108 := ⟨fun _ => List.mem_filter.mpr ⟨List.mem_of_getElem? (i := 998) rfl, rfl⟩, fun h => by cases h⟩
set_option maxRecDepth 100000 in
theorem cw_109 : CW lw_tbl MI_109 := ⟨fun h => by rcases h with h | h <;> cases h, fun _ => List.mem_filter.mpr ⟨List.mem_of_getElem? (i := 994) rfl, rfl⟩⟩
set_option maxRecDepth 100000 in
theorem cw_110 : CW lw_tbl MI_110 := ⟨fun _ => List.mem_filter.mpr ⟨List.mem_of_getElem? (i := 1698) rfl, rfl⟩, fun h => by cases h⟩
set_option maxRecDepth 100000 in
theorem cw_111 : CW lw_tbl MI_111 := ⟨fun _ => List.mem_filter.mpr ⟨List.mem_of_getElem? (i := 506) rfl, rfl⟩, fun h => by cases h⟩
set_option maxRecDepth 100000 in
theorem cw_112 : CW lw_tbl MI_112 := ⟨fun _ => List.mem_filter.mpr ⟨List.mem_of_getElem? (i := 513) rfl, rfl⟩, fun h => by cases h⟩
set_option maxRecDepth 100000 in
theorem cw_113 : CW lw_tbl MI_113 := ⟨fun _ => List.mem_filter.mpr ⟨List.mem_of_getElem? (i := 525) rfl, rfl⟩, fun h => by cases h⟩
set_option maxRecDepth 100000 in
theorem cw_114 : CW lw_tbl MI_114 := ⟨fun _ => List.mem_filter.mpr ⟨List.mem_of_getElem? (i := 522) rfl, rfl⟩, fun h => by cases h⟩
set_option maxRecDepth 100000 in
theorem cw_115 : CW lw_tbl MI_115 := ⟨fun _ => List.mem_filter.mpr ⟨List.mem_of_getElem? (i := 502) rfl, rfl⟩, fun h => by cases h⟩
set_option maxRecDepth 100000 in
theorem cw_116 : CW lw_tbl MI_116 := ⟨fun _ => List.mem_filter.mpr ⟨List.mem_of_getElem? (i := 498) rfl, rfl⟩, fun h => by cases h⟩
set_option maxRecDepth 100000 in
theorem cw_117 : CW lw_tbl MI_117 := ⟨fun _ => List.mem_filter.mpr ⟨List.mem_of_getElem? (i := 1707) rfl, rfl⟩, fun h => by cases h⟩
set_option maxRecDepth 100000 in
theorem cw_118 : CW lw_tbl MI_118 := ⟨fun _ => List.mem_filter.mpr ⟨List.mem_of_getElem? (i := 1714) rfl, rfl⟩, fun h => by cases h⟩
set_option maxRecDepth 100000 in
theorem cw_119 : CW lw_tbl MI_119 := ⟨fun _ => List.mem_filter.mpr ⟨List.mem_of_getElem? (i := 1721) rfl, rfl⟩, fun h => by cases h⟩
set_option maxRecDepth 100000 in
theorem cw_120 : CW lw_tbl MI_120 := ⟨fun _ => List.mem_filter.mpr ⟨List.mem_of_getElem? (i := 1718) rfl, rfl⟩, fun h => by cases h⟩
set_option maxRecDepth 100000 in
theorem cw_121 : CW lw_tbl MI_121 := ⟨fun _ => List.mem_filter.mpr ⟨List.mem_of_getElem? (i := 1711) rfl, rfl⟩, fun h => by cases h⟩
set_option maxRecDepth 100000 in
theorem cw_122 : CW lw_tbl MI_122 := ⟨fun _ => List.mem_filter.mpr ⟨List.mem_of_getElem? (i := 1702) rfl, rfl⟩, fun h => by cases h⟩
set_option maxRecDepth 100000 in
theorem cw_123 : CW lw_tbl MI_123 := ⟨fun _ => List.mem_filter.mpr ⟨List.mem_of_getElem? (i := 534) rfl, rfl⟩, fun h => by cases h⟩
set_option maxRecDepth 100000 in
theorem cw_124 : CW lw_tbl MI_124 := ⟨fun _ => List.mem_filter.mpr ⟨List.mem_of_getElem? (i := 530) rfl, rfl⟩, fun h => by cases h⟩
set_option maxRecDepth 100000 in
theorem cw_125 : CW lw_tbl MI_125 := ⟨fun _ => List.mem_filter.mpr ⟨List.mem_of_getElem? (i := 1729) rfl, rfl⟩, fun h => by cases h⟩
set_option maxRecDepth 100000 in
theorem cw_126 : CW lw_tbl MI_126 := ⟨fun _ => List.mem_filter.mpr ⟨List.mem_of_getElem? (i := 1725) rfl, rfl⟩, fun h => by cases h⟩
set_option maxRecDepth 100000 in
theorem cw_127 : CW lw_tbl MI_127 := ⟨fun _ => List.mem_filter.mpr ⟨List.mem_of_getElem? (i := 601) rfl, rfl⟩, fun h => by cases h⟩
set_option maxRecDepth 100000 in
theorem cw_128 : CW lw_tbl MI_128 := ⟨fun _ => List.mem_filter.mpr ⟨List.mem_of_getElem? (i := 1005) rfl, rfl⟩, fun h => by cases h⟩
set_option maxRecDepth 100000 in
theorem cw_129 : CW lw_tbl MI_129 := ⟨fun h => by rcases h with h | h <;> cases h, fun _ => List.mem_filter.mpr ⟨List.mem_of_getElem? (i := 1001) rfl, rfl⟩⟩
set_option maxRecDepth 100000 in
theorem cw_130 : CW lw_tbl MI_130 := ⟨fun _ => List.mem_filter.mpr ⟨List.mem_of_getElem? (i := 1741) rfl, rfl⟩, fun h => by cases h⟩
set_option maxRecDepth 100000 in
theorem cw_131 : CW lw_tbl MI_131 := ⟨fun _ => List.mem_filter.mpr ⟨List.mem_of_getElem? (i := 1737) rfl, rfl⟩, fun h => by cases h⟩
set_option maxRecDepth 100000 in
theorem cw_132 : CW lw_tbl MI_132 := ⟨fun _ => List.mem_filter.mpr ⟨List.mem_of_getElem? (i := 1733) rfl, rfl⟩, fun h => by cases h⟩
set_option maxRecDepth 100000 in
theorem cw_133 : CW lw_tbl MI_133 := ⟨fun _ => List.mem_filter.mpr ⟨List.mem_of_getElem? (i := 550) rfl, rfl⟩, fun h => by cases h⟩
set_option maxRecDepth 100000 in
theorem cw_134 : CW lw_tbl MI_134 := ⟨fun _ => List.mem_filter.mpr ⟨List.mem_of_getElem? (i := 546) rfl, rfl⟩, fun h => by cases h⟩
set_option maxRecDepth 100000 in
theorem cw_135 : CW lw_tbl MI_135 := ⟨fun _ => List.mem_filter.mpr ⟨List.mem_of_getElem? (i := 1012) rfl, rfl⟩, fun h => by cases h⟩
set_option maxRecDepth 100000 in
theorem cw_136 : CW lw_tbl MI_136 := ⟨fun h => by rcases h with h | h <;> cases h, fun _ => List.mem_filter.mpr ⟨List.mem_of_getElem? (i := 1008) rfl, rfl⟩⟩
set_option maxRecDepth 100000 in
theorem cw_137 : CW lw_tbl MI_137 := ⟨fun _ => List.mem_filter.mpr ⟨List.mem_of_getElem? (i := 1749) rfl, rfl⟩, fun h => by cases h⟩
set_option maxRecDepth 100000 in
theorem cw_138 : CW lw_tbl MI_138 := ⟨fun _ => List.mem_filter.mpr ⟨List.mem_of_getElem? (i := 1766) rfl, rfl⟩, fun h => by cases h⟩
set_option maxRecDepth 100000 in
theorem cw_139 : CW lw_tbl MI_139 := ⟨fun _ => List.mem_filter.mpr ⟨List.mem_of_getElem? (i := 1769) rfl, rfl⟩, fun h => by cases h⟩
set_option maxRecDepth 100000 in
theorem cw_140 : CW lw_tbl MI_140 := ⟨fun _ => List.mem_filter.mpr ⟨List.mem_of_getElem? (i := 1761) rfl, rfl⟩, fun h => by cases h⟩
set_option maxRecDepth 100000 in
theorem cw_141 : CW lw_tbl MI_141 := ⟨fun _ => List.mem_filter.mpr ⟨List.mem_of_getElem? (i := 1757) rfl, rfl⟩, fun h => by cases h⟩
set_option maxRecDepth 100000 in
theorem cw_142 : CW lw_tbl MI_142 := ⟨fun _ => List.mem_filter.mpr ⟨List.mem_of_getElem? (i := 1777) rfl, rfl⟩, fun h => by cases h⟩
set_option maxRecDepth 100000 in
theorem cw_143 : CW lw_tbl MI_143 := ⟨fun _ => List.mem_filter.mpr ⟨List.mem_of_getElem? (i := 1773) rfl, rfl⟩, fun h => by cases h⟩
set_option maxRecDepth 100000 in
theorem cw_144 : CW lw_tbl MI_144 := ⟨fun _ => List.mem_filter.mpr ⟨List.mem_of_getElem? (i := 1753) rfl, rfl⟩, fun h => by cases h⟩
set_option maxRecDepth 100000 in
theorem cw_145 : CW lw_tbl MI_145 := ⟨fun _ => List.mem_filter.mpr ⟨List.mem_of_getElem? (i := 1745) rfl, rfl⟩, fun h => by cases h⟩
set_option maxRecDepth 100000 in
theorem cw_146 : CW lw_tbl MI_146 := ⟨fun _ => List.mem_filter.mpr ⟨List.mem_of_getElem? (i := 542) rfl, rfl⟩, fun h => by cases h⟩
set_option maxRecDepth 100000 in
theorem cw_147 : CW lw_tbl MI_147 := ⟨fun _ => List.mem_filter.mpr ⟨List.mem_of_getElem? (i := 574) rfl, rfl⟩, fun h => by cases h⟩
set_option maxRecDepth 100000 in
theorem cw_148 : CW lw_tbl MI_148 := ⟨fun _ => List.mem_filter.mpr ⟨List.mem_of_getElem? (i := 571) rfl, rfl⟩, fun h => by cases h⟩
set_option maxRecDepth 100000 in
theorem cw_149 : CW lw_tbl MI_149 := ⟨fun _ => List.mem_filter.mpr ⟨List.mem_of_getElem? (i := 1021) rfl, rfl⟩, fun h => by cases h⟩
set_option maxRecDepth 100000 in
theorem cw_150 : CW lw_tbl MI_150 := ⟨fun h => by rcases h with h | h <;> cases h, fun _ => List.mem_filter.mpr ⟨List.mem_of_getElem? (i := 1017) rfl, rfl⟩⟩
set_option maxRecDepth 100000 in
theorem cw_151 : CW lw_tbl MI_151 := ⟨fun _ => List.mem_filter.mpr ⟨List.mem_of_getElem? (i := 1793) rfl, rfl⟩, fun h => by cases h⟩
set_option maxRecDepth 100000 in
theorem cw_152 : CW lw_tbl MI_152 := ⟨fun _ => List.mem_filter.mpr ⟨List.mem_of_getElem? (i := 1790) rfl, rfl⟩, fun h => by cases h⟩
set_option maxRecDepth 100000 in
theorem cw_153 : CW lw_tbl MI_153 := ⟨fun _ => List.mem_filter.mpr ⟨List.mem_of_getElem? (i := 1786) rfl, rfl⟩, fun h => by cases h⟩
set_option maxRecDepth 100000 in
theorem cw_154 : CW lw_tbl MI_154 := ⟨fun _ => List.mem_filter.mpr ⟨List.mem_of_getElem? (i := 1782) rfl, rfl⟩, fun h => by cases h⟩
set_option maxRecDepth 100000 in
theorem cw_155 : CW lw_tbl MI_155 := ⟨fun _ => List.mem_filter.mpr ⟨List.mem_of_getElem? (i := 1035) rfl, rfl⟩, fun h => by cases h⟩
set_option maxRecDepth 100000 in
theorem cw_156 : CW lw_tbl MI_156 := ⟨fun _ => List.mem_filter.mpr ⟨List.mem_of_getElem? (i := 1032) rfl, rfl⟩, fun h => by cases h⟩
set_option maxRecDepth 100000 in
theorem cw_157 : CW lw_tbl MI_157 := ⟨fun _ => List.mem_filter.mpr ⟨List.mem_of_getElem? (i := 1028) rfl, rfl⟩, fun h => by cases h⟩
set_option maxRecDepth 100000 in
theorem cw_158 : CW lw_tbl MI_158 := ⟨fun h => by rcases h with h | h <;> cases h, fun _ => List.mem_filter.mpr ⟨List.mem_of_getElem? (i := 1024) rfl, rfl⟩⟩
set_option maxRecDepth 100000 in
theorem cw_159 : CW lw_tbl MI_159 := ⟨fun _ => List.mem_filter.mpr ⟨List.mem_of_getElem? (i := 1797) rfl, rfl⟩, fun h => by cases h⟩
set_option maxRecDepth 100000 in
theorem cw_160 : CW lw_tbl MI_160 := ⟨fun _ => List.mem_filter.mpr ⟨List.mem_of_getElem? (i := 538) rfl, rfl⟩, fun h => by cases h⟩
set_option maxRecDepth 100000 in
theorem cw_161 : CW lw_tbl MI_161 := ⟨fun _ => List.mem_filter.mpr ⟨List.mem_of_getElem? (i := 1802) rfl, rfl⟩, fun h => by cases h⟩
set_option maxRecDepth 100000 in
theorem cw_162 : CW lw_tbl MI_162 := ⟨fun _ => List.mem_filter.mpr ⟨List.mem_of_getElem? (i := 1048) rfl, rfl⟩, fun h => by cases h⟩
set_option maxRecDepth 100000 in
theorem cw_163 : CW lw_tbl MI_163 := ⟨fun _ => List.mem_filter.mpr ⟨List.mem_of_getElem? (i := 1042) rfl, rfl⟩, fun h => by cases h⟩
set_option maxRecDepth 100000 in
theorem cw_164 : CW lw_tbl MI_164 := ⟨fun h => by rcases h with h | h <;> cases h, fun _ => List.mem_filter.mpr ⟨List.mem_of_getElem? (i := 1038) rfl, rfl⟩⟩
set_option maxRecDepth 100000 in
theorem cw_165 : CW lw_tbl MI_165 := ⟨fun _ => List.mem_filter.mpr ⟨List.mem_of_getElem? (i := 1806) rfl, rfl⟩, fun h => by cases h⟩
set_option maxRecDepth 100000 in
theorem cw_166 : CW lw_tbl MI_166 := ⟨fun _ => List.mem_filter.mpr ⟨List.mem_of_getElem? (i := 1055) rfl, rfl⟩, fun h => by cases h⟩
set_option maxRecDepth 100000 in
theorem cw_167 : CW lw_tbl MI_167 := ⟨fun h => by rcases h with h | h <;> cases h, fun _ => List.mem_filter.mpr ⟨List.mem_of_getElem? (i := 1051) rfl, rfl⟩⟩
set_option maxRecDepth 100000 in
theorem cw_168 : CW lw_tbl MI_168 := ⟨fun _ => List.mem_filter.mpr ⟨List.mem_of_getElem? (i := 1810) rfl, rfl⟩, fun h => by cases h⟩
set_option maxRecDepth 100000 in
theorem cw_169 : CW lw_tbl MI_169 := ⟨fun _ => List.mem_filter.mpr ⟨List.mem_of_getElem? (i := 1062) rfl, rfl⟩, fun h => by cases h⟩
set_option maxRecDepth 100000 in
theorem cw_170 : CW lw_tbl MI_170 := ⟨fun h => by rcases h with h | h <;> cases h, fun _ => List.mem_filter.mpr ⟨List.mem_of_getElem? (i := 1058) rfl, rfl⟩⟩
set_option maxRecDepth 100000 in
theorem cw_171 : CW lw_tbl MI_171 := ⟨fun _ => List.mem_filter.mpr ⟨List.mem_of_getElem? (i := 1814) rfl, rfl⟩, fun h => by cases h⟩
set_option maxRecDepth 100000 in
theorem cw_172 : CW lw_tbl MI_172 := ⟨fun _ => List.mem_filter.mpr ⟨List.mem_of_getElem? (i := 585) rfl, rfl⟩, fun h => by cases h⟩
set_option maxRecDepth 100000 in
theorem cw_173 : CW lw_tbl MI_173 := ⟨fun _ => List.mem_filter.mpr ⟨List.mem_of_getElem? (i := 581) rfl, rfl⟩, fun h => by cases h⟩
set_option maxRecDepth 100000 in
theorem cw_174 : CW lw_tbl MI_174 := ⟨fun _ => List.mem_filter.mpr ⟨List.mem_of_getElem? (i := 1818) rfl, rfl⟩, fun h => by cases h⟩
set_option maxRecDepth 100000 in
theorem cw_175 : CW lw_tbl MI_175 := ⟨fun _ => List.mem_filter.mpr ⟨List.mem_of_getElem? (i := 589) rfl, rfl⟩, fun h => by cases h⟩
set_option maxRecDepth 100000 in
theorem cw_176 : CW lw_tbl MI_176 := ⟨fun _ => List.mem_filter.mpr ⟨List.mem_of_getElem? (i := 1822) rfl, rfl⟩, fun h => by cases h⟩
set_option maxRecDepth 100000 in
theorem cw_177 : CW lw_tbl MI_177 := ⟨fun _ => List.mem_filter.mpr ⟨List.mem_of_getElem? (i := 597) rfl, rfl⟩, fun h => by cases h⟩
set_option maxRecDepth 100000 in
theorem cw_178 : CW lw_tbl MI_178 := ⟨fun _ => List.mem_filter.mpr ⟨List.mem_of_getElem? (i := 611) rfl, rfl⟩, fun h => by cases h⟩
set_option maxRecDepth 100000 in
theorem cw_179 : CW lw_tbl MI_179 := ⟨fun _ => List.mem_filter.mpr ⟨List.mem_of_getElem? (i := 607) rfl, rfl⟩, fun h => by cases h⟩
set_option maxRecDepth 100000 in
theorem cw_180 : CW lw_tbl MI_180 := ⟨fun _ => List.mem_filter.mpr ⟨List.mem_of_getElem? (i := 593) rfl, rfl⟩, fun h => by cases h⟩
set_option maxRecDepth 100000 in
theorem cw_181 : CW lw_tbl MI_181 := ⟨fun _ => List.mem_filter.mpr ⟨List.mem_of_getElem? (i := 1830) rfl, rfl⟩, fun h => by cases h⟩
set_option maxRecDepth 100000 in
theorem cw_182 : CW lw_tbl MI_182 := ⟨fun _ => List.mem_filter.mpr ⟨List.mem_of_getElem? (i := 1826) rfl, rfl⟩, fun h => by cases h⟩
set_option maxRecDepth 100000 in
theorem cw_183 : CW lw_tbl MI_183 := ⟨fun _ => List.mem_filter.mpr ⟨List.mem_of_getElem? (i := 1078) rfl, rfl⟩, fun h => by cases h⟩
set_option maxRecDepth 100000 in
theorem cw_184 : CW lw_tbl MI_184 := ⟨fun _ => List.mem_filter.mpr ⟨List.mem_of_getElem? (i := 1073) rfl, rfl⟩, fun h => by cases h⟩
set_option maxRecDepth 100000 in
theorem cw_185 : CW lw_tbl MI_185 := ⟨fun _ => List.mem_filter.mpr ⟨List.mem_of_getElem? (i := 1069) rfl, rfl⟩, fun h => by cases h⟩
set_option maxRecDepth 100000 in
theorem cw_186 : CW lw_tbl MI_186 := ⟨fun h => by rcases h with h | h <;> cases h, fun _ => List.mem_filter.mpr ⟨List.mem_of_getElem? (i := 1065) rfl, rfl⟩⟩
set_option maxRecDepth 100000 in
theorem cw_187 : CW lw_tbl MI_187 := ⟨fun _ => List.mem_filter.mpr ⟨List.mem_of_getElem? (i := 1839) rfl, rfl⟩, fun h => by cases h⟩
set_option maxRecDepth 100000 in
theorem cw_188 : CW lw_tbl MI_188 := ⟨fun _ => List.mem_filter.mpr ⟨List.mem_of_getElem? (i := 1834) rfl, rfl⟩, fun h => by cases h⟩
set_option maxRecDepth 100000 in
theorem cw_189 : CW lw_tbl MI_189 := ⟨fun _ => List.mem_filter.mpr ⟨List.mem_of_getElem? (i := 1103) rfl, rfl⟩, fun h => by cases h⟩
set_option maxRecDepth 100000 in
theorem cw_190 : CW lw_tbl MI_190 := ⟨fun _ => List.mem_filter.mpr ⟨List.mem_of_getElem? (i := 1099) rfl, rfl⟩, fun h => by cases h⟩
set_option maxRecDepth 100000 in
theorem cw_191 : CW lw_tbl MI_191 := ⟨fun _ => List.mem_filter.mpr ⟨List.mem_of_getElem? (i := 1095) rfl, rfl⟩, fun h => by cases h⟩
set_option maxRecDepth 100000 in
theorem cw_192 : CW lw_tbl MI_192 := ⟨fun _ => List.mem_filter.mpr ⟨List.mem_of_getElem? (i := 1110) rfl, rfl⟩, fun h => by cases h⟩
set_option maxRecDepth 100000 in
theorem cw_193 : CW lw_tbl MI_193 := ⟨fun _ => List.mem_filter.mpr ⟨List.mem_of_getElem? (i := 1089) rfl, rfl⟩, fun h => by cases h⟩
set_option maxRecDepth 100000 in
theorem cw_194 : CW lw_tbl MI_194 := ⟨fun _ => List.mem_filter.mpr ⟨List.mem_of_getElem? (i := 1085) rfl, rfl⟩, fun h => by cases h⟩
set_option maxRecDepth 100000 in
theorem cw_195 : CW lw_tbl MI_195 := ⟨fun h => by rcases h with h | h <;> cases h, fun _ => List.mem_filter.mpr ⟨List.mem_of_getElem? (i := 1081) rfl, rfl⟩⟩
set_option maxRecDepth 100000 in
theorem cw_196 : CW lw_tbl MI_196 := ⟨fun _ => List.mem_filter.mpr ⟨List.mem_of_getElem? (i := 1852) rfl, rfl⟩, fun h => by cases h⟩
set_option maxRecDepth 100000 in
theorem cw_197 : CW lw_tbl MI_197 := ⟨fun _ => List.mem_filter.mpr ⟨List.mem_of_getElem? (i := 1848) rfl, rfl⟩, fun h => by cases h⟩
set_option maxRecDepth 100000 in
theorem cw_198 : CW lw_tbl MI_198 := ⟨fun _ => List.mem_filter.mpr ⟨List.mem_of_getElem? (i := 1843) rfl, rfl⟩, fun h => by cases h⟩
set_option maxRecDepth 100000 in
theorem cw_199 : CW lw_tbl MI_199 := ⟨fun _ => List.mem_filter.mpr ⟨List.mem_of_getElem? (i := 1120) rfl, rfl⟩, fun h => by cases h⟩
set_option maxRecDepth 100000 in
theorem cw_200 : CW lw_tbl MI_200 := ⟨fun _ => List.mem_filter.mpr ⟨List.mem_of_getElem? (i := 1129) rfl, rfl⟩, fun h => by cases h⟩
set_option maxRecDepth 100000 in
theorem cw_201 : CW lw_tbl MI_201 := ⟨fun _ => List.mem_filter.mpr ⟨List.mem_of_getElem? (i := 1125) rfl, rfl⟩, fun h => by cases h⟩
set_option maxRecDepth 100000 in
theorem cw_202 : CW lw_tbl MI_202 := ⟨fun _ => List.mem_filter.mpr ⟨List.mem_of_getElem? (i := 1133) rfl, rfl⟩, fun h => by cases h⟩
set_option maxRecDepth 100000 in
theorem cw_203 : CW lw_tbl MI_203 := ⟨fun _ => List.mem_filter.mpr ⟨List.mem_of_getElem? (i := 1137) rfl, rfl⟩, fun h => by cases h⟩
set_option maxRecDepth 100000 in
theorem cw_204 : CW lw_tbl MI_204 := ⟨fun _ => List.mem_filter.mpr ⟨List.mem_of_getElem? (i := 1142) rfl, rfl⟩, fun h => by cases h⟩
set_option maxRecDepth 100000 in
theorem cw_205 : CW lw_tbl MI_205 := ⟨fun _ => List.mem_filter.mpr ⟨List.mem_of_getElem? (i := 1117) rfl, rfl⟩, fun h => by cases h⟩
set_option maxRecDepth 100000 in
theorem cw_206 : CW lw_tbl MI_206 := ⟨fun h => by rcases h with h | h <;> cases h, fun _ => List.mem_filter.mpr ⟨List.mem_of_getElem? (i := 1113) rfl, rfl⟩⟩
set_option maxRecDepth 100000 in
theorem cw_207 : CW lw_tbl MI_207 := ⟨fun _ => List.mem_filter.mpr ⟨List.mem_of_getElem? (i := 1859) rfl, rfl⟩, fun h => by cases h⟩
set_option maxRecDepth 100000 in
theorem cw_208 : CW lw_tbl MI_208 := ⟨fun _ => List.mem_filter.mpr ⟨List.mem_of_getElem? (i := 1864) rfl, rfl⟩, fun h => by cases h⟩
set_option maxRecDepth 100000 in
theorem cw_209 : CW lw_tbl MI_209 := ⟨fun _ => List.mem_filter.mpr ⟨List.mem_of_getElem? (i := 1856) rfl, rfl⟩, fun h => by cases h⟩
set_option maxRecDepth 100000 in
theorem cw_210 : CW lw_tbl MI_210 := ⟨fun _ => List.mem_filter.mpr ⟨List.mem_of_getElem? (i := 1153) rfl, rfl⟩, fun h => by cases h⟩
set_option maxRecDepth 100000 in
theorem cw_211 : CW lw_tbl MI_211 := ⟨fun _ => List.mem_filter.mpr ⟨List.mem_of_getElem? (i := 1159) rfl, rfl⟩, fun h => by cases h⟩
set_option maxRecDepth 100000 in
theorem cw_212 : CW lw_tbl MI_212 := ⟨fun _ => List.mem_filter.mpr ⟨List.mem_of_getElem? (i := 1164) rfl, rfl⟩, fun h => by cases h⟩
set_option maxRecDepth 100000 in
theorem cw_213 : CW lw_tbl MI_213 := ⟨fun _ => List.mem_filter.mpr ⟨List.mem_of_getElem? (i := 1149) rfl, rfl⟩, fun h => by cases h⟩
set_option maxRecDepth 100000 in
theorem cw_214 : CW lw_tbl MI_214 := ⟨fun h => by rcases h with h | h <;> cases h, fun _ => List.mem_filter.mpr ⟨List.mem_of_getElem? (i := 1145) rfl, rfl⟩⟩
set_option maxRecDepth 100000 in
theorem cw_215 : CW lw_tbl MI_215 := ⟨fun _ => List.mem_filter.mpr ⟨List.mem_of_getElem? (i := 1868) rfl, rfl⟩, fun h => by cases h⟩
set_option maxRecDepth 100000 in
theorem cw_216 : CW lw_tbl MI_216 := ⟨fun _ => List.mem_filter.mpr ⟨List.mem_of_getElem? (i := 1179) rfl, rfl⟩, fun h => by cases h⟩
set_option maxRecDepth 100000 in
theorem cw_217 : CW lw_tbl MI_217 := ⟨fun _ => List.mem_filter.mpr ⟨List.mem_of_getElem? (i := 1175) rfl, rfl⟩, fun h => by cases h⟩
set_option maxRecDepth 100000 in
theorem cw_218 : CW lw_tbl MI_218 := ⟨fun _ => List.mem_filter.mpr ⟨List.mem_of_getElem? (i := 1171) rfl, rfl⟩, fun h => by cases h⟩
set_option maxRecDepth 100000 in
theorem cw_219 : CW lw_tbl MI_219 := ⟨fun h => by rcases h with h | h <;> cases h, fun _ => List.mem_filter.mpr ⟨List.mem_of_getElem? (i := 1167) rfl, rfl⟩⟩
set_option maxRecDepth 100000 in
theorem cw_220 : CW lw_tbl MI_220 := ⟨fun _ => List.mem_filter.mpr ⟨List.mem_of_getElem? (i := 1876) rfl, rfl⟩, fun h => by cases h⟩
set_option maxRecDepth 100000 in
theorem cw_221 : CW lw_tbl MI_221 := ⟨fun _ => List.mem_filter.mpr ⟨List.mem_of_getElem? (i := 1872) rfl, rfl⟩, fun h => by cases h⟩
set_option maxRecDepth 100000 in
theorem cw_222 : CW lw_tbl MI_222 := ⟨fun _ => List.mem_filter.mpr ⟨List.mem_of_getElem? (i := 1194) rfl, rfl⟩, fun h => by cases h⟩
set_option maxRecDepth 100000 in
theorem cw_223 : CW lw_tbl MI_223 := ⟨fun _ => List.mem_filter.mpr ⟨List.mem_of_getElem? (i := 1191) rfl, rfl⟩, fun h => by cases h⟩
set_option maxRecDepth 100000 in
theorem cw_224 : CW lw_tbl MI_224 := ⟨fun _ => List.mem_filter.mpr ⟨List.mem_of_getElem? (i := 1188) rfl, rfl⟩, fun h => by cases h⟩
set_option maxRecDepth 100000 in
theorem cw_225 : CW lw_tbl MI_225 := ⟨fun h => by rcases h with h | h <;> cases h, fun _ => List.mem_filter.mpr ⟨List.mem_of_getElem? (i := 1184) rfl, rfl⟩⟩
set_option maxRecDepth 100000 in
theorem cw_226 : CW lw_tbl MI_226 := ⟨fun _ => List.mem_filter.mpr ⟨List.mem_of_getElem? (i := 1880) rfl, rfl⟩, fun h => by cases h⟩
set_option maxRecDepth 100000 in
theorem cw_227 : CW lw_tbl MI_227 := ⟨fun _ => List.mem_filter.mpr ⟨List.mem_of_getElem? (i := 1201) rfl, rfl⟩, fun h => by cases h⟩
set_option maxRecDepth 100000 in
theorem cw_228 : CW lw_tbl MI_228 := ⟨fun h => by rcases h with h | h <;> cases h, fun _ => List.mem_filter.mpr ⟨List.mem_of_getElem? (i := 1197) rfl, rfl⟩⟩
set_option maxRecDepth 100000 in
theorem cw_229 : CW lw_tbl MI_229 := ⟨fun _ => List.mem_filter.mpr ⟨List.mem_of_getElem? (i := 1888) rfl, rfl⟩, fun h => by cases h⟩
set_option maxRecDepth 100000 in
theorem cw_230 : CW lw_tbl MI_230 := ⟨fun _ => List.mem_filter.mpr ⟨List.mem_of_getElem? (i := 1884) rfl, rfl⟩, fun h => by cases h⟩
set_option maxRecDepth 100000 in
theorem cw_231 : CW lw_tbl MI_231 := ⟨fun _ => List.mem_filter.mpr ⟨List.mem_of_getElem? (i := 1212) rfl, rfl⟩, fun h => by cases h⟩
set_option maxRecDepth 100000 in
theorem cw_232 : CW lw_tbl MI_232 := ⟨fun _ => List.mem_filter.mpr ⟨List.mem_of_getElem? (i := 1227) rfl, rfl⟩, fun h => by cases h⟩
set_option maxRecDepth 100000 in
theorem cw_233 : CW lw_tbl MI_233 := ⟨fun _ => List.mem_filter.mpr ⟨List.mem_of_getElem? (i := 1223) rfl, rfl⟩, fun h => by cases h⟩
set_option maxRecDepth 100000 in
theorem cw_234 : CW lw_tbl MI_234 := ⟨fun _ => List.mem_filter.mpr ⟨List.mem_of_getElem? (i := 1217) rfl, rfl⟩, fun h => by cases h⟩
set_option maxRecDepth 100000 in
theorem cw_235 : CW lw_tbl MI_235 := ⟨fun _ => List.mem_filter.mpr ⟨List.mem_of_getElem? (i := 1209) rfl, rfl⟩, fun h => by cases h⟩
set_option maxRecDepth 100000 in
theorem cw_236 : CW lw_tbl MI_236 := ⟨fun h => by rcases h with h | h <;> cases h, fun _ => List.mem_filter.mpr ⟨List.mem_of_getElem? (i := 1205) rfl, rfl⟩⟩
set_option maxRecDepth 100000 in
theorem cw_237 : CW lw_tbl MI_237 := ⟨fun _ => List.mem_filter.mpr ⟨List.mem_of_getElem? (i := 1895) rfl, rfl⟩, fun h => by cases h⟩
set_option maxRecDepth 100000 in
theorem cw_238 : CW lw_tbl MI_238 := ⟨fun _ => List.mem_filter.mpr ⟨List.mem_of_getElem? (i := 1901) rfl, rfl⟩, fun h => by cases h⟩
set_option maxRecDepth 100000 in
theorem cw_239 : CW lw_tbl MI_239 := ⟨fun _ => List.mem_filter.mpr ⟨List.mem_of_getElem? (i := 1906) rfl, rfl⟩, fun h => by cases h⟩
set_option maxRecDepth 100000 in
theorem cw_240 : CW lw_tbl MI_240 := ⟨fun _ => List.mem_filter.mpr ⟨List.mem_of_getElem? (i := 1892) rfl, rfl⟩, fun h => by cases h⟩
set_option maxRecDepth 100000 in
theorem cw_241 : CW lw_tbl MI_241 := ⟨fun _ => List.mem_filter.mpr ⟨List.mem_of_getElem? (i := 1238) rfl, rfl⟩, fun h => by cases h⟩
set_option maxRecDepth 100000 in
theorem cw_242 : CW lw_tbl MI_242 := ⟨fun _ => List.mem_filter.mpr ⟨List.mem_of_getElem? (i := 1243) rfl, rfl⟩, fun h => by cases h⟩
set_option maxRecDepth 100000 in
theorem cw_243 : CW lw_tbl MI_243 := ⟨fun _ => List.mem_filter.mpr ⟨List.mem_of_getElem? (i := 1235) rfl, rfl⟩, fun h => by cases h⟩
set_option maxRecDepth 100000 in
theorem cw_244 : CW lw_tbl MI_244 := ⟨fun h => by rcases h with h | h <;> cases h, fun _ => List.mem_filter.mpr ⟨List.mem_of_getElem? (i := 1231) rfl, rfl⟩⟩
set_option maxRecDepth 100000 in
theorem cw_245 : CW lw_tbl MI_245 := ⟨fun _ => List.mem_filter.mpr ⟨List.mem_of_getElem? (i := 1915) rfl, rfl⟩, fun h => by cases h⟩
set_option maxRecDepth 100000 in
theorem cw_246 : CW lw_tbl MI_246 := ⟨fun _ => List.mem_filter.mpr ⟨List.mem_of_getElem? (i := 1918) rfl, rfl⟩, fun h => by cases h⟩
set_option maxRecDepth 100000 in
theorem cw_247 : CW lw_tbl MI_247 := ⟨fun _ => List.mem_filter.mpr ⟨List.mem_of_getElem? (i := 1910) rfl, rfl⟩, fun h => by cases h⟩
set_option maxRecDepth 100000 in
theorem cw_248 : CW lw_tbl MI_248 := ⟨fun _ => List.mem_filter.mpr ⟨List.mem_of_getElem? (i := 1251) rfl, rfl⟩, fun h => by cases h⟩
set_option maxRecDepth 100000 in
theorem cw_249 : CW lw_tbl MI_249 := ⟨fun h => by rcases h with h | h <;> cases h, fun _ => List.mem_filter.mpr ⟨List.mem_of_getElem? (i := 1247) rfl, rfl⟩⟩
set_option maxRecDepth 100000 in
theorem cw_250 : CW lw_tbl MI_250 := ⟨fun _ => List.mem_filter.mpr ⟨List.mem_of_getElem? (i := 1922) rfl, rfl⟩, fun h => by cases h⟩
set_option maxRecDepth 100000 in
theorem cw_251 : CW lw_tbl MI_251 := ⟨fun _ => List.mem_filter.mpr ⟨List.mem_of_getElem? (i := 1262) rfl, rfl⟩, fun h => by cases h⟩
set_option maxRecDepth 100000 in
theorem cw_252 : CW lw_tbl MI_252 := ⟨fun _ => List.mem_filter.mpr ⟨List.mem_of_getElem? (i := 1258) rfl, rfl⟩, fun h => by cases h⟩
set_option maxRecDepth 100000 in
theorem cw_253 : CW lw_tbl MI_253 := ⟨fun h => by rcases h with h | h <;> cases h, fun _ => List.mem_filter.mpr ⟨List.mem_of_getElem? (i := 1254) rfl, rfl⟩⟩
set_option maxRecDepth 100000 in
theorem cw_254 : CW lw_tbl MI_254 := ⟨fun _ => List.mem_filter.mpr ⟨List.mem_of_getElem? (i := 1926) rfl, rfl⟩, fun h => by cases h⟩
set_option maxRecDepth 100000 in
theorem cw_255 : CW lw_tbl MI_255 := ⟨fun _ => List.mem_filter.mpr ⟨List.mem_of_getElem? (i := 619) rfl, rfl⟩, fun h => by cases h⟩
set_option maxRecDepth 100000 in
theorem cw_256 : CW lw_tbl MI_256 := ⟨fun _ => List.mem_filter.mpr ⟨List.mem_of_getElem? (i := 615) rfl, rfl⟩, fun h => by cases h⟩
set_option maxRecDepth 100000 in
theorem cw_257 : CW lw_tbl MI_257 := ⟨fun _ => List.mem_filter.mpr ⟨List.mem_of_getElem? (i := 1930) rfl, rfl⟩, fun h => by cases h⟩
set_option maxRecDepth 100000 in
theorem cw_258 : CW lw_tbl MI_258 := ⟨fun _ => List.mem_filter.mpr ⟨List.mem_of_getElem? (i := 628) rfl, rfl⟩, fun h => by cases h⟩
set_option maxRecDepth 100000 in
theorem cw_259 : CW lw_tbl MI_259 := ⟨fun _ => List.mem_filter.mpr ⟨List.mem_of_getElem? (i := 624) rfl, rfl⟩, fun h => by cases h⟩
set_option maxRecDepth 100000 in
theorem cw_260 : CW lw_tbl MI_260 := ⟨fun _ => List.mem_filter.mpr ⟨List.mem_of_getElem? (i := 1934) rfl, rfl⟩, fun h => by cases h⟩
set_option maxRecDepth 100000 in
theorem cw_261 : CW lw_tbl MI_261 := ⟨fun _ => List.mem_filter.mpr ⟨List.mem_of_getElem? (i := 1273) rfl, rfl⟩, fun h => by cases h⟩
set_option maxRecDepth 100000 in
theorem cw_262 : CW lw_tbl MI_262 := ⟨fun _ => List.mem_filter.mpr ⟨List.mem_of_getElem? (i := 1277) rfl, rfl⟩, fun h => by cases h⟩
set_option maxRecDepth 100000 in
theorem cw_263 : CW lw_tbl MI_263 := ⟨fun _ => List.mem_filter.mpr ⟨List.mem_of_getElem? (i := 1269) rfl, rfl⟩, fun h => by cases h⟩
set_option maxRecDepth 100000 in
theorem cw_264 : CW lw_tbl MI_264 := ⟨fun h => by rcases h with h | h <;> cases h, fun _ => List.mem_filter.mpr ⟨List.mem_of_getElem? (i := 1265) rfl, rfl⟩⟩
set_option maxRecDepth 100000 in
theorem cw_265 : CW lw_tbl MI_265 := ⟨fun _ => List.mem_filter.mpr ⟨List.mem_of_getElem? (i := 1942) rfl, rfl⟩, fun h => by cases h⟩
set_option maxRecDepth 100000 in
theorem cw_266 : CW lw_tbl MI_266 := ⟨fun _ => List.mem_filter.mpr ⟨List.mem_of_getElem? (i := 1938) rfl, rfl⟩, fun h => by cases h⟩
set_option maxRecDepth 100000 in
theorem cw_267 : CW lw_tbl MI_267 := ⟨fun _ => List.mem_filter.mpr ⟨List.mem_of_getElem? (i := 1296) rfl, rfl⟩, fun h => by cases h⟩
set_option maxRecDepth 100000 in
theorem cw_268 : CW lw_tbl MI_268 := ⟨fun _ => List.mem_filter.mpr ⟨List.mem_of_getElem? (i := 1292) rfl, rfl⟩, fun h => by cases h⟩
set_option maxRecDepth 100000 in
theorem cw_269 : CW lw_tbl MI_269 := ⟨fun _ => List.mem_filter.mpr ⟨List.mem_of_getElem? (i := 1288) rfl, rfl⟩, fun h => by cases h⟩
set_option maxRecDepth 100000 in
theorem cw_270 : CW lw_tbl MI_270 := ⟨fun _ => List.mem_filter.mpr ⟨List.mem_of_getElem? (i := 1284) rfl, rfl⟩, fun h => by cases h⟩
set_option maxRecDepth 100000 in
theorem cw_271 : CW lw_tbl MI_271 := ⟨fun h => by rcases h with h | h <;> cases h, fun _ => List.mem_filter.mpr ⟨List.mem_of_getElem? (i := 1280) rfl, rfl⟩⟩
set_option maxRecDepth 100000 in
theorem cw_272 : CW lw_tbl MI_272 := ⟨fun _ => List.mem_filter.mpr ⟨List.mem_of_getElem? (i := 1954) rfl, rfl⟩, fun h => by cases h⟩
set_option maxRecDepth 100000 in
theorem cw_273 : CW lw_tbl MI_273 := ⟨fun _ => List.mem_filter.mpr ⟨List.mem_of_getElem? (i := 1950) rfl, rfl⟩, fun h => by cases h⟩
set_option maxRecDepth 100000 in
theorem cw_274 : CW lw_tbl MI_274 := ⟨fun _ => List.mem_filter.mpr ⟨List.mem_of_getElem? (i := 1946) rfl, rfl⟩, fun h => by cases h⟩
set_option maxRecDepth 100000 in
theorem cw_275 : CW lw_tbl MI_275 := ⟨fun _ => List.mem_filter.mpr ⟨List.mem_of_getElem? (i := 1303) rfl, rfl⟩, fun h => by cases h⟩
set_option maxRecDepth 100000 in
theorem cw_276 : CW lw_tbl MI_276 := ⟨fun h => by rcases h with h | h <;> cases h, fun _ => List.mem_filter.mpr ⟨List.mem_of_getElem? (i := 1299) rfl, rfl⟩⟩
set_option maxRecDepth 100000 in
theorem cw_277 : CW lw_tbl MI_277 := ⟨fun _ => List.mem_filter.mpr ⟨List.mem_of_getElem? (i := 1958) rfl, rfl⟩, fun h => by cases h⟩
set_option maxRecDepth 100000 in
theorem cw_278 : CW lw_tbl MI_278 := ⟨fun _ => List.mem_filter.mpr ⟨List.mem_of_getElem? (i := 636) rfl, rfl⟩, fun h => by cases h⟩
set_option maxRecDepth 100000 in
theorem cw_279 : CW lw_tbl MI_279 := ⟨fun _ => List.mem_filter.mpr ⟨List.mem_of_getElem? (i := 632) rfl, rfl⟩, fun h => by cases h⟩
set_option maxRecDepth 100000 in
theorem cw_280 : CW lw_tbl MI_280 := ⟨fun _ => List.mem_filter.mpr ⟨List.mem_of_getElem? (i := 1968) rfl, rfl⟩, fun h => by cases h⟩
set_option maxRecDepth 100000 in
theorem cw_281 : CW lw_tbl MI_281 := ⟨fun _ => List.mem_filter.mpr ⟨List.mem_of_getElem? (i := 1971) rfl, rfl⟩, fun h => by cases h⟩
set_option maxRecDepth 100000 in
theorem cw_282 : CW lw_tbl MI_282 := ⟨fun _ => List.mem_filter.mpr ⟨List.mem_of_getElem? (i := 1965) rfl, rfl⟩, fun h => by cases h⟩
set_option maxRecDepth 100000 in
theorem cw_283 : CW lw_tbl MI_283 := ⟨fun _ => List.mem_filter.mpr ⟨List.mem_of_getElem? (i := 640) rfl, rfl⟩, fun h => by cases h⟩
set_option maxRecDepth 100000 in
theorem cw_284 : CW lw_tbl MI_284 := ⟨fun _ => List.mem_filter.mpr ⟨List.mem_of_getElem? (i := 1975) rfl, rfl⟩, fun h => by cases h⟩
theorem cw_285 : CW lw_tbl MI_285 := ⟨fun h => by rcases h with h | h <;> cases h, fun h => by cases h⟩
theorem kCk : ∀ mi ∈ MT, chkM MT lw_tbl kNsl kSts kCl mi = true := by
  intro mi h
  simp only [MT, List.mem_cons, List.not_mem_nil, or_false] at h
  rcases h with rfl | rfl | rfl | rfl | rfl | rfl | rfl | rfl | rfl | rfl | rfl | rfl | rfl | rfl | rfl | rfl | rfl | rfl | rfl | rfl | rfl | rfl | rfl | rfl | rfl | rfl | rfl | rfl | rfl | rfl | rfl | rfl | rfl | rfl | rfl | rfl | rfl | rfl | rfl | rfl | rfl | rfl | rfl | rfl | rfl | rfl | rfl | rfl | rfl | rfl | rfl | rfl | rfl | rfl | rfl | rfl | rfl | rfl | rfl | rfl | rfl | rfl | rfl | rfl | rfl | rfl | rfl | rfl | rfl | rfl | rfl | rfl | rfl | rfl | rfl | rfl | rfl | rfl | rfl | rfl | rfl | rfl | rfl | rfl | rfl | rfl | rfl | rfl | rfl | rfl | rfl | rfl | rfl | rfl | rfl | rfl | rfl | rfl | rfl | rfl | rfl | rfl | rfl | rfl | rfl | rfl | rfl | rfl | rfl | rfl | rfl | rfl | rfl | rfl | rfl | rfl | rfl | rfl | rfl | rfl | rfl | rfl | rfl | rfl | rfl | rfl | rfl | rfl | rfl | rfl | rfl | rfl | rfl | rfl | rfl | rfl | rfl | rfl | rfl | rfl | rfl | rfl | rfl | rfl | rfl | rfl | rfl | rfl | rfl | rfl | rfl | rfl | rfl | rfl | rfl | rfl | rfl | rfl | rfl | rfl | rfl | rfl | rfl | rfl | rfl | rfl | rfl | rfl | rfl | rfl | rfl | rfl | rfl | rfl | rfl | rfl | rfl | rfl | rfl | rfl | rfl | rfl | rfl | rfl | rfl | rfl | rfl | rfl | rfl | rfl | rfl | rfl | rfl | rfl | rfl | rfl | rfl | rfl | rfl | rfl | rfl | rfl | rfl | rfl | rfl | rfl | rfl | rfl | rfl | rfl | rfl | rfl | rfl | rfl | rfl | rfl | rfl | rfl | rfl | rfl | rfl | rfl | rfl | rfl | rfl | rfl | rfl | rfl | rfl | rfl | rfl | rfl | rfl | rfl | rfl | rfl | rfl | rfl | rfl | rfl | rfl | rfl | rfl | rfl | rfl | rfl | rfl | rfl | rfl | rfl | rfl | rfl | rfl | rfl | rfl | rfl | rfl | rfl | rfl | rfl | rfl | rfl | rfl | rfl | rfl | rfl | rfl | rfl | rfl | rfl | rfl | rfl | rfl | rfl | rfl | rfl | rfl | rfl | rfl | rfl | rfl | rfl | rfl | rfl | rfl | rfl
  · exact ck_0
  · exact ck_1
  · exact ck_2
  · exact ck_3
  · exact ck_4
  · exact ck_5
  · exact ck_6
  · exact ck_7
  · exact ck_8
  · exact ck_9
  · exact ck_10
  · exact ck_11
  · exact ck_12
  · exact ck_13
  · exact ck_14
  · exact ck_15
  · exact ck_16
  · exact ck_17
  · exact ck_18
  · exact ck_19
  · exact ck_20
  · exact ck_21
  · exact ck_22
  · exact ck_23
  · exact ck_24
  · exact ck_25
  · exact ck_26
  · exact ck_27
  · exact ck_28
  · exact ck_29
  · exact ck_30
  · exact ck_31
  · exact ck_32
  · exact ck_33
  · exact ck_34
  · exact ck_35
  · exact ck_36
  · exact ck_37
  · exact ck_38
  · exact ck_39
  · exact ck_40
  · exact ck_41
  · exact ck_42
  · exact ck_43
  · exact ck_44
  · exact ck_45
  · exact ck_46
  · exact ck_47
  · exact ck_48
  · exact ck_49
  · exact ck_50
  · exact ck_51
  · exact ck_52
  · exact ck_53
  · exact ck_54
  · exact ck_55
  · exact ck_56
  · exact ck_57
  · exact ck_58
  · exact ck_59
  · exact ck_60
  · exact ck_61
  · exact ck_62
  · exact ck_63
  · exact ck_64
  · exact ck_65
  · exact ck_66
  · exact ck_67
  · exact ck_68
  · exact ck_69
  · exact ck_70
  · exact ck_71
  · exact ck_72
  · exact ck_73
  · exact ck_74
  · exact ck_75
  · exact ck_76
  · exact ck_77
  · exact ck_78
  · exact ck_79
  · exact ck_80
  · exact ck_81
  · exact ck_82
  · exact ck_83
  · exact ck_84
  · exact ck_85
  · exact ck_86
  · exact ck_87
  · exact ck_88
  · exact ck_89
  · exact ck_90
  · exact ck_91
  · exact ck_92
  · exact ck_93
  · exact ck_94
  · exact ck_95
  · exact ck_96
  · exact ck_97
  · exact ck_98
  · exact ck_99
  · exact ck_100
  · exact ck_101
  · exact ck_102
  · exact ck_103
  · exact ck_104
  · exact ck_105
  · exact ck_106
  · exact ck_107
  · exact ck_108
  · exact ck_109
  · exact ck_110
  · exact ck_111
  · exact ck_112
  · exact ck_113
  · exact ck_114
  · exact ck_115
  · exact ck_116
  · exact ck_117
  · exact ck_118
  · exact ck_119
  · exact ck_120
  · exact ck_121
  · exact ck_122
  · exact ck_123
  · exact ck_124
  · exact ck_125
  · exact ck_126
  · exact ck_127
  · exact ck_128
  · exact ck_129
  · exact ck_130
  · exact ck_131
  · exact ck_132
  · exact ck_133
  · exact ck_134
  · exact ck_135
  · exact ck_136
  · exact ck_137
  · exact ck_138
  · exact ck_139
  · exact ck_140
  · exact ck_141
  · exact ck_142
  · exact ck_143
  · exact ck_144
  · exact ck_145
  · exact ck_146
  · exact ck_147
  · exact ck_148
  · exact ck_149
  · exact ck_150
  · exact ck_151
  · exact ck_152
  · exact ck_153
  · exact ck_154
  · exact ck_155
  · exact ck_156
  · exact ck_157
  · exact ck_158
  · exact ck_159
  · exact ck_160
  · exact ck_161
  · exact ck_162
  · exact ck_163
  · exact ck_164
  · exact ck_165
  · exact ck_166
  · exact ck_167
  · exact ck_168
  · exact ck_169
  · exact ck_170
  · exact ck_171
  · exact ck_172
  · exact ck_173
  · exact ck_174
  · exact ck_175
  · exact ck_176
  · exact ck_177
  · exact ck_178
  · exact ck_179
  · exact ck_180
  · exact ck_181
  · exact ck_182
  · exact ck_183
  · exact ck_184
  · exact ck_185
  · exact ck_186
  · exact ck_187
  · exact ck_188
  · exact ck_189
  · exact ck_190
  · exact ck_191
  · exact ck_192
  · exact ck_193
  · exact ck_194
  · exact ck_195
  · exact ck_196
  · exact ck_197
  · exact ck_198
  · exact ck_199
  · exact ck_200
  · exact ck_201
  · exact ck_202
  · exact ck_203
  · exact ck_204
  · exact ck_205
  · exact ck_206
  · exact ck_207
  · exact ck_208
  · exact ck_209
  · exact ck_210
  · exact ck_211
  · exact ck_212
  · exact ck_213
  · exact ck_214
  · exact ck_215
  · exact ck_216
  · exact ck_217
  · exact ck_218
  · exact ck_219
  · exact ck_220
  · exact ck_221
  · exact ck_222
  · exact ck_223
  · exact ck_224
  · exact ck_225
  · exact ck_226
  · exact ck_227
  · exact ck_228
  · exact ck_229
  · exact ck_230
  · exact ck_231
  · exact ck_232
  · exact ck_233
  · exact ck_234
  · exact ck_235
  · exact ck_236
  · exact ck_237
  · exact ck_238
  · exact ck_239
  · exact ck_240
  · exact ck_241
  · exact ck_242
  · exact ck_243
  · exact ck_244
  · exact ck_245
  · exact ck_246
  · exact ck_247
  · exact ck_248
  · exact ck_249
  · exact ck_250
  · exact ck_251
  · exact ck_252
  · exact ck_253
  · exact ck_254
  · exact ck_255
  · exact ck_256
  · exact ck_257
  · exact ck_258
  · exact ck_259
  · exact ck_260
  · exact ck_261
  · exact ck_262
  · exact ck_263
  · exact ck_264
  · exact ck_265
  · exact ck_266
  · exact ck_267
  · exact ck_268
  · exact ck_269
  · exact ck_270
  · exact ck_271
  · exact ck_272
  · exact ck_273
  · exact ck_274
  · exact ck_275
  · exact ck_276
  · exact ck_277
  · exact ck_278
  · exact ck_279
  · exact ck_280
  · exact ck_281
  · exact ck_282
  · exact ck_283
  · exact ck_284
  · exact ck_285
theorem kCw : ∀ mi ∈ MT, CW lw_tbl mi := by
  intro mi h
  simp only [MT, List.mem_cons, List.not_mem_nil, or_false] at h
  rcases h with rfl | rfl | rfl | rfl | rfl | rfl | rfl | rfl | rfl | rfl | rfl | rfl | rfl | rfl | rfl | rfl | rfl | rfl | rfl | rfl | rfl | rfl | rfl | rfl | rfl | rfl | rfl | rfl | rfl | rfl | rfl | rfl | rfl | rfl | rfl | rfl | rfl | rfl | rfl | rfl | rfl | rfl | rfl | rfl | rfl | rfl | rfl | rfl | rfl | rfl | rfl | rfl | rfl | rfl | rfl | rfl | rfl | rfl | rfl | rfl | rfl | rfl | rfl | rfl | rfl | rfl | rfl | rfl | rfl | rfl | rfl | rfl | rfl | rfl | rfl | rfl | rfl | rfl | rfl | rfl | rfl | rfl | rfl | rfl | rfl | rfl | rfl | rfl | rfl | rfl | rfl | rfl | rfl | rfl | rfl | rfl | rfl | rfl | rfl | rfl | rfl | rfl | rfl | rfl | rfl | rfl | rfl | rfl | rfl | rfl | rfl | rfl | rfl | rfl | rfl | rfl | rfl | rfl | rfl | rfl | rfl | rfl | rfl | rfl | rfl | rfl | rfl | rfl | rfl | rfl | rfl | rfl | rfl | rfl | rfl | rfl | rfl | rfl | rfl | rfl | rfl | rfl | rfl | rfl | rfl | rfl | rfl | rfl | rfl | rfl | rfl | rfl | rfl | rfl | rfl | rfl | rfl | rfl | rfl | rfl | rfl | rfl | rfl | rfl | rfl | rfl | rfl | rfl | rfl | rfl | rfl | rfl | rfl | rfl | rfl | rfl | rfl | rfl | rfl | rfl | rfl | rfl | rfl | rfl | rfl | rfl | rfl | rfl | rfl | rfl | rfl | rfl | rfl | rfl | rfl | rfl | rfl | rfl | rfl | rfl | rfl | rfl | rfl | rfl | rfl | rfl | rfl | rfl | rfl | rfl | rfl | rfl | rfl | rfl | rfl | rfl | rfl | rfl | rfl | rfl | rfl | rfl | rfl | rfl | rfl | rfl | rfl | rfl | rfl | rfl | rfl | rfl | rfl | rfl | rfl | rfl | rfl | rfl | rfl | rfl | rfl | rfl | rfl | rfl | rfl | rfl | rfl | rfl | rfl | rfl | rfl | rfl | rfl | rfl | rfl | rfl | rfl | rfl | rfl | rfl | rfl | rfl | rfl | rfl | rfl | rfl | rfl | rfl | rfl | rfl | rfl | rfl | rfl | rfl | rfl | rfl | rfl | rfl | rfl | rfl | rfl | rfl | rfl | rfl | rfl | rfl
  · exact cw_0
  · exact cw_1
  · exact cw_2
  · exact cw_3
  · exact cw_4
  · exact cw_5
  · exact cw_6
  · exact cw_7
  · exact cw_8
  · exact cw_9
  · exact cw_10
  · exact cw_11
  · exact cw_12
  · exact cw_13
  · exact cw_14
  · exact cw_15
  · exact cw_16
  · exact cw_17
  · exact cw_18
  · exact cw_19
  · exact cw_20
  · exact cw_21
  · exact cw_22
  · exact cw_23
  · exact cw_24
  · exact cw_25
  · exact cw_26
  · exact cw_27
  · exact cw_28
  · exact cw_29
  · exact cw_30
  · exact cw_31
  · exact cw_32
  · exact cw_33
  · exact cw_34
  · exact cw_35
  · exact cw_36
  · exact cw_37
  · exact cw_38
  · exact cw_39
  · exact cw_40
  · exact cw_41
  · exact cw_42
  · exact cw_43
  · exact cw_44
  · exact cw_45
  · exact cw_46
  · exact cw_47
  · exact cw_48
  · exact cw_49
  · exact cw_50
  · exact cw_51
  · exact cw_52
  · exact cw_53
  · exact cw_54
  · exact cw_55
  · exact cw_56
  · exact cw_57
  · exact cw_58
  · exact cw_59
  · exact cw_60
  · exact cw_61
  · exact cw_62
  · exact cw_63
  · exact cw_64
  · exact cw_65
  · exact cw_66
  · exact cw_67
  · exact cw_68
  · exact cw_69
  · exact cw_70
  · exact cw_71
  · exact cw_72
  · exact cw_73
  · exact cw_74
  · exact cw_75
  · exact cw_76
  · exact cw_77
  · exact cw_78
  · exact cw_79
  · exact cw_80
  · exact cw_81
  · exact cw_82
  · exact cw_83
  · exact cw_84
  · exact cw_85
  · exact cw_86
  · exact cw_87
  · exact cw_88
  · exact cw_89
  · exact cw_90
  · exact cw_91
  · exact cw_92
  · exact cw_93
  · exact cw_94
  · exact cw_95
  · exact cw_96
  · exact cw_97
  · exact cw_98
  · exact cw_99
  · exact cw_100
  · exact cw_101
  · exact cw_102
  · exact cw_103
  · exact cw_104
  · exact cw_105
  · exact cw_106
  · exact cw_107
  · exact cw_108
  · exact cw_109
  · exact cw_110
  · exact cw_111
  · exact cw_112
  · exact cw_113
  · exact cw_114
  · exact cw_115
  · exact cw_116
  · exact cw_117
  · exact cw_118
  · exact cw_119
  · exact cw_120
  · exact cw_121
  · exact cw_122
  · exact cw_123
  · exact cw_124
  · exact cw_125
  · exact cw_126
  · exact cw_127
  · exact cw_128
  · exact cw_129
  · exact cw_130
  · exact cw_131
  · exact cw_132
  · exact cw_133
  · exact cw_134
  · exact cw_135
  · exact cw_136
  · exact cw_137
  · exact cw_138
  · exact cw_139
  · exact cw_140
  · exact cw_141
  · exact cw_142
  · exact cw_143
  · exact cw_144
  · exact cw_145
  · exact cw_146
  · exact cw_147
  · exact cw_148
  · exact cw_149
  · exact cw_150
  · exact cw_151
  · exact cw_152
  · exact cw_153
  · exact cw_154
  · exact cw_155
  · exact cw_156
  · exact cw_157
  · exact cw_158
  · exact cw_159
  · exact cw_160
  · exact cw_161
  · exact cw_162
  · exact cw_163
  · exact cw_164
  · exact cw_165
  · exact cw_166
  · exact cw_167
  · exact cw_168
  · exact cw_169
  · exact cw_170
  · exact cw_171
  · exact cw_172
  · exact cw_173
  · exact cw_174
  · exact cw_175
  · exact cw_176
  · exact cw_177
  · exact cw_178
  · exact cw_179
  · exact cw_180
  · exact cw_181
  · exact cw_182
  · exact cw_183
  · exact cw_184
  · exact cw_185
  · exact cw_186
  · exact cw_187
  · exact cw_188
  · exact cw_189
  · exact cw_190
  · exact cw_191
  · exact cw_192
  · exact cw_193
  · exact cw_194
  · exact cw_195
  · exact cw_196
  · exact cw_197
  · exact cw_198
  · exact cw_199
  · exact cw_200
  · exact cw_201
  · exact cw_202
  · exact cw_203
  · exact cw_204
  · exact cw_205
  · exact cw_206
  · exact cw_207
  · exact cw_208
  · exact cw_209
  · exact cw_210
  · exact cw_211
  · exact cw_212
  · exact cw_213
  · exact cw_214
  · exact cw_215
  · exact cw_216
  · exact cw_217
  · exact cw_218
  · exact cw_219
  · exact cw_220
  · exact cw_221
  · exact cw_222
  · exact cw_223
  · exact cw_224
  · exact cw_225
  · exact cw_226
  · exact cw_227
  · exact cw_228
  · exact cw_229
  · exact cw_230
  · exact cw_231
  · exact cw_232
  · exact cw_233
  · exact cw_234
  · exact cw_235
  · exact cw_236
  · exact cw_237
  · exact cw_238
  · exact cw_239
  · exact cw_240
  · exact cw_241
  · exact cw_242
  · exact cw_243
  · exact cw_244
  · exact cw_245
  · exact cw_246
  · exact cw_247
  · exact cw_248
  · exact cw_249
  · exact cw_250
  · exact cw_251
  · exact cw_252
  · exact cw_253
  · exact cw_254
  · exact cw_255
  · exact cw_256
  · exact cw_257
  · exact cw_258
  · exact cw_259
  · exact cw_260
  · exact cw_261
  · exact cw_262
  · exact cw_263
  · exact cw_264
  · exact cw_265
  · exact cw_266
  · exact cw_267
  · exact cw_268
  · exact cw_269
  · exact cw_270
  · exact cw_271
  · exact cw_272
  · exact cw_273
  · exact cw_274
  · exact cw_275
  · exact cw_276
  · exact cw_277
  · exact cw_278
  · exact cw_279
  · exact cw_280
  · exact cw_281
  · exact cw_282
  · exact cw_283
  · exact cw_284
  · exact cw_285
