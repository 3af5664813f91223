/-! ===== each method's table is its bytecode, and its words are the tables' ===== -/
set_option maxRecDepth 100000 in
theorem ck_0 : chkM MT lw_tbl kNsl kSts kCl MI_0 = true := by decide +kernel
set_option maxRecDepth 100000 in
theorem ck_1 : chkM MT lw_tbl kNsl kSts kCl MI_1 = true := by decide +kernel
set_option maxRecDepth 100000 in
theorem ck_2 : chkM MT lw_tbl kNsl kSts kCl MI_2 = true := by decide +kernel
set_option maxRecDepth 100000 in
theorem ck_3 : chkM MT lw_tbl kNsl kSts kCl MI_3 = true := by decide +kernel
set_option maxRecDepth 100000 in
theorem ck_4 : chkM MT lw_tbl kNsl kSts kCl MI_4 = true := by decide +kernel
set_option maxRecDepth 100000 in
theorem ck_5 : chkM MT lw_tbl kNsl kSts kCl MI_5 = true := by decide +kernel
set_option maxRecDepth 100000 in
theorem ck_6 : chkM MT lw_tbl kNsl kSts kCl MI_6 = true := by decide +kernel
set_option maxRecDepth 100000 in
theorem ck_7 : chkM MT lw_tbl kNsl kSts kCl MI_7 = true := by decide +kernel
set_option maxRecDepth 100000 in
theorem ck_8 : chkM MT lw_tbl kNsl kSts kCl MI_8 = true := by decide +kernel
set_option maxRecDepth 100000 in
theorem ck_9 : chkM MT lw_tbl kNsl kSts kCl MI_9 = true := by decide +kernel
set_option maxRecDepth 100000 in
theorem ck_10 : chkM MT lw_tbl kNsl kSts kCl MI_10 = true := by decide +kernel
set_option maxRecDepth 100000 in
theorem ck_11 : chkM MT lw_tbl kNsl kSts kCl MI_11 = true := by decide +kernel
set_option maxRecDepth 100000 in
theorem ck_12 : chkM MT lw_tbl kNsl kSts kCl MI_12 = true := by decide +kernel
set_option maxRecDepth 100000 in
theorem ck_13 : chkM MT lw_tbl kNsl kSts kCl MI_13 = true := by decide +kernel
set_option maxRecDepth 100000 in
theorem ck_14 : chkM MT lw_tbl kNsl kSts kCl MI_14 = true := by decide +kernel
set_option maxRecDepth 100000 in
theorem ck_15 : chkM MT lw_tbl kNsl kSts kCl MI_15 = true := by decide +kernel
set_option maxRecDepth 100000 in
theorem ck_16 : chkM MT lw_tbl kNsl kSts kCl MI_16 = true := by decide +kernel
set_option maxRecDepth 100000 in
theorem ck_17 : chkM MT lw_tbl kNsl kSts kCl MI_17 = true := by decide +kernel
set_option maxRecDepth 100000 in
theorem ck_18 : chkM MT lw_tbl kNsl kSts kCl MI_18 = true := by decide +kernel
set_option maxRecDepth 100000 in
theorem ck_19 : chkM MT lw_tbl kNsl kSts kCl MI_19 = true := by decide +kernel
set_option maxRecDepth 100000 in
theorem ck_20 : chkM MT lw_tbl kNsl kSts kCl MI_20 = true := by decide +kernel
set_option maxRecDepth 100000 in
theorem ck_21 : chkM MT lw_tbl kNsl kSts kCl MI_21 = true := by decide +kernel
set_option maxRecDepth 100000 in
theorem ck_22 : chkM MT lw_tbl kNsl kSts kCl MI_22 = true := by decide +kernel
set_option maxRecDepth 100000 in
theorem ck_23 : chkM MT lw_tbl kNsl kSts kCl MI_23 = true := by decide +kernel
set_option maxRecDepth 100000 in
theorem ck_24 : chkM MT lw_tbl kNsl kSts kCl MI_24 = true := by decide +kernel
set_option maxRecDepth 100000 in
theorem ck_25 : chkM MT lw_tbl kNsl kSts kCl MI_25 = true := by decide +kernel
set_option maxRecDepth 100000 in
theorem ck_26 : chkM MT lw_tbl kNsl kSts kCl MI_26 = true := by decide +kernel
set_option maxRecDepth 100000 in
theorem ck_27 : chkM MT lw_tbl kNsl kSts kCl MI_27 = true := by decide +kernel
set_option maxRecDepth 100000 in
theorem ck_28 : chkM MT lw_tbl kNsl kSts kCl MI_28 = true := by decide +kernel
set_option maxRecDepth 100000 in
theorem ck_29 : chkM MT lw_tbl kNsl kSts kCl MI_29 = true := by decide +kernel
set_option maxRecDepth 100000 in
theorem ck_30 : chkM MT lw_tbl kNsl kSts kCl MI_30 = true := by decide +kernel
set_option maxRecDepth 100000 in
theorem ck_31 : chkM MT lw_tbl kNsl kSts kCl MI_31 = true := by decide +kernel
set_option maxRecDepth 100000 in
theorem ck_32 : chkM MT lw_tbl kNsl kSts kCl MI_32 = true := by decide +kernel
set_option maxRecDepth 100000 in
theorem ck_33 : chkM MT lw_tbl kNsl kSts kCl MI_33 = true := by decide +kernel
set_option maxRecDepth 100000 in
theorem ck_34 : chkM MT lw_tbl kNsl kSts kCl MI_34 = true := by decide +kernel
set_option maxRecDepth 100000 in
theorem ck_35 : chkM MT lw_tbl kNsl kSts kCl MI_35 = true := by decide +kernel
set_option maxRecDepth 100000 in
theorem ck_36 : chkM MT lw_tbl kNsl kSts kCl MI_36 = true := by decide +kernel
set_option maxRecDepth 100000 in
theorem ck_37 : chkM MT lw_tbl kNsl kSts kCl MI_37 = true := by decide +kernel
set_option maxRecDepth 100000 in
theorem ck_38 : chkM MT lw_tbl kNsl kSts kCl MI_38 = true := by decide +kernel
set_option maxRecDepth 100000 in
theorem ck_39 : chkM MT lw_tbl kNsl kSts kCl MI_39 = true := by decide +kernel
set_option maxRecDepth 100000 in
theorem ck_40 : chkM MT lw_tbl kNsl kSts kCl MI_40 = true := by decide +kernel
set_option maxRecDepth 100000 in
theorem ck_41 : chkM MT lw_tbl kNsl kSts kCl MI_41 = true := by decide +kernel
set_option maxRecDepth 100000 in
theorem ck_42 : chkM MT lw_tbl kNsl kSts kCl MI_42 = true := by decide +kernel
set_option maxRecDepth 100000 in
theorem ck_43 : chkM MT lw_tbl kNsl kSts kCl MI_43 = true := by decide +kernel
set_option maxRecDepth 100000 in
theorem ck_44 : chkM MT lw_tbl kNsl kSts kCl MI_44 = true := by decide +kernel
set_option maxRecDepth 100000 in
theorem ck_45 : chkM MT lw_tbl kNsl kSts kCl MI_45 = true := by decide +kernel
set_option maxRecDepth 100000 in
theorem ck_46 : chkM MT lw_tbl kNsl kSts kCl MI_46 = true := by decide +kernel
set_option maxRecDepth 100000 in
theorem ck_47 : chkM MT lw_tbl kNsl kSts kCl MI_47 = true := by decide +kernel
set_option maxRecDepth 100000 in
theorem ck_48 : chkM MT lw_tbl kNsl kSts kCl MI_48 = true := by decide +kernel
set_option maxRecDepth 100000 in
theorem ck_49 : chkM MT lw_tbl kNsl kSts kCl MI_49 = true := by decide +kernel
set_option maxRecDepth 100000 in
theorem ck_50 : chkM MT lw_tbl kNsl kSts kCl MI_50 = true := by decide +kernel
set_option maxRecDepth 100000 in
theorem ck_51 : chkM MT lw_tbl kNsl kSts kCl MI_51 = true := by decide +kernel
set_option maxRecDepth 100000 in
theorem ck_52 : chkM MT lw_tbl kNsl kSts kCl MI_52 = true := by decide +kernel
set_option maxRecDepth 100000 in
theorem ck_53 : chkM MT lw_tbl kNsl kSts kCl MI_53 = true := by decide +kernel
set_option maxRecDepth 100000 in
theorem ck_54 : chkM MT lw_tbl kNsl kSts kCl MI_54 = true := by decide +kernel
set_option maxRecDepth 100000 in
theorem ck_55 : chkM MT lw_tbl kNsl kSts kCl MI_55 = true := by decide +kernel
set_option maxRecDepth 100000 in
theorem ck_56 : chkM MT lw_tbl kNsl kSts kCl MI_56 = true := by decide +kernel
set_option maxRecDepth 100000 in
theorem ck_57 : chkM MT lw_tbl kNsl kSts kCl MI_57 = true := by decide +kernel
set_option maxRecDepth 100000 in
theorem ck_58 : chkM MT lw_tbl kNsl kSts kCl MI_58 = true := by decide +kernel
set_option maxRecDepth 100000 in
theorem ck_59 : chkM MT lw_tbl kNsl kSts kCl MI_59 = true := by decide +kernel
set_option maxRecDepth 100000 in
theorem ck_60 : chkM MT lw_tbl kNsl kSts kCl MI_60 = true := by decide +kernel
set_option maxRecDepth 100000 in
theorem ck_61 : chkM MT lw_tbl kNsl kSts kCl MI_61 = true := by decide +kernel
set_option maxRecDepth 100000 in
theorem ck_62 : chkM MT lw_tbl kNsl kSts kCl MI_62 = true := by decide +kernel
set_option maxRecDepth 100000 in
theorem ck_63 : chkM MT lw_tbl kNsl kSts kCl MI_63 = true := by decide +kernel
set_option maxRecDepth 100000 in
theorem ck_64 : chkM MT lw_tbl kNsl kSts kCl MI_64 = true := by decide +kernel
set_option maxRecDepth 100000 in
theorem ck_65 : chkM MT lw_tbl kNsl kSts kCl MI_65 = true := by decide +kernel
set_option maxRecDepth 100000 in
theorem ck_66 : chkM MT lw_tbl kNsl kSts kCl MI_66 = true := by decide +kernel
set_option maxRecDepth 100000 in
theorem ck_67 : chkM MT lw_tbl kNsl kSts kCl MI_67 = true := by decide +kernel
set_option maxRecDepth 100000 in
theorem ck_68 : chkM MT lw_tbl kNsl kSts kCl MI_68 = true := by decide +kernel
set_option maxRecDepth 100000 in
theorem ck_69 : chkM MT lw_tbl kNsl kSts kCl MI_69 = true := by decide +kernel
set_option maxRecDepth 100000 in
theorem ck_70 : chkM MT lw_tbl kNsl kSts kCl MI_70 = true := by decide +kernel
set_option maxRecDepth 100000 in
theorem ck_71 : chkM MT lw_tbl kNsl kSts kCl MI_71 = true := by decide +kernel
set_option maxRecDepth 100000 in
theorem ck_72 : chkM MT lw_tbl kNsl kSts kCl MI_72 = true := by decide +kernel
set_option maxRecDepth 100000 in
theorem ck_73 : chkM MT lw_tbl kNsl kSts kCl MI_73 = true := by decide +kernel
set_option maxRecDepth 100000 in
theorem ck_74 : chkM MT lw_tbl kNsl kSts kCl MI_74 = true := by decide +kernel
set_option maxRecDepth 100000 in
theorem ck_75 : chkM MT lw_tbl kNsl kSts kCl MI_75 = true := by decide +kernel
set_option maxRecDepth 100000 in
theorem ck_76 : chkM MT lw_tbl kNsl kSts kCl MI_76 = true := by decide +kernel
set_option maxRecDepth 100000 in
theorem ck_77 : chkM MT lw_tbl kNsl kSts kCl MI_77 = true := by decide +kernel
set_option maxRecDepth 100000 in
theorem ck_78 : chkM MT lw_tbl kNsl kSts kCl MI_78 = true := by decide +kernel
set_option maxRecDepth 100000 in
theorem ck_79 : chkM MT lw_tbl kNsl kSts kCl MI_79 = true := by decide +kernel
set_option maxRecDepth 100000 in
theorem ck_80 : chkM MT lw_tbl kNsl kSts kCl MI_80 = true := by decide +kernel
set_option maxRecDepth 100000 in
theorem ck_81 : chkM MT lw_tbl kNsl kSts kCl MI_81 = true := by decide +kernel
set_option maxRecDepth 100000 in
theorem ck_82 : chkM MT lw_tbl kNsl kSts kCl MI_82 = true := by decide +kernel
set_option maxRecDepth 100000 in
theorem ck_83 : chkM MT lw_tbl kNsl kSts kCl MI_83 = true := by decide +kernel
set_option maxRecDepth 100000 in
theorem ck_84 : chkM MT lw_tbl kNsl kSts kCl MI_84 = true := by decide +kernel
set_option maxRecDepth 100000 in
theorem ck_85 : chkM MT lw_tbl kNsl kSts kCl MI_85 = true := by decide +kernel
set_option maxRecDepth 100000 in
theorem ck_86 : chkM MT lw_tbl kNsl kSts kCl MI_86 = true := by decide +kernel
set_option maxRecDepth 100000 in
theorem ck_87 : chkM MT lw_tbl kNsl kSts kCl MI_87 = true := by decide +kernel
set_option maxRecDepth 100000 in
theorem ck_88 : chkM MT lw_tbl kNsl kSts kCl MI_88 = true := by decide +kernel
set_option maxRecDepth 100000 in
theorem ck_89 : chkM MT lw_tbl kNsl kSts kCl MI_89 = true := by decide +kernel
set_option maxRecDepth 100000 in
theorem ck_90 : chkM MT lw_tbl kNsl kSts kCl MI_90 = true := by decide +kernel
set_option maxRecDepth 100000 in
theorem ck_91 : chkM MT lw_tbl kNsl kSts kCl MI_91 = true := by decide +kernel
set_option maxRecDepth 100000 in
theorem ck_92 : chkM MT lw_tbl kNsl kSts kCl MI_92 = true := by decide +kernel
set_option maxRecDepth 100000 in
theorem ck_93 : chkM MT lw_tbl kNsl kSts kCl MI_93 = true := by decide +kernel
set_option maxRecDepth 100000 in
theorem ck_94 : chkM MT lw_tbl kNsl kSts kCl MI_94 = true := by decide +kernel
set_option maxRecDepth 100000 in
theorem ck_95 : chkM MT lw_tbl kNsl kSts kCl MI_95 = true := by decide +kernel
set_option maxRecDepth 100000 in
theorem ck_96 : chkM MT lw_tbl kNsl kSts kCl MI_96 = true := by decide +kernel
set_option maxRecDepth 100000 in
theorem ck_97 : chkM MT lw_tbl kNsl kSts kCl MI_97 = true := by decide +kernel
set_option maxRecDepth 100000 in
theorem ck_98 : chkM MT lw_tbl kNsl kSts kCl MI_98 = true := by decide +kernel
set_option maxRecDepth 100000 in
theorem ck_99 : chkM MT lw_tbl kNsl kSts kCl MI_99 = true := by decide +kernel
set_option maxRecDepth 100000 in
theorem ck_100 : chkM MT lw_tbl kNsl kSts kCl MI_100 = true := by decide +kernel
set_option maxRecDepth 100000 in
theorem ck_101 : chkM MT lw_tbl kNsl kSts kCl MI_101 = true := by decide +kernel
set_option maxRecDepth 100000 in
theorem ck_102 : chkM MT lw_tbl kNsl kSts kCl MI_102 = true := by decide +kernel
set_option maxRecDepth 100000 in
theorem ck_103 : chkM MT lw_tbl kNsl kSts kCl MI_103 = true := by decide +kernel
set_option maxRecDepth 100000 in
theorem ck_104 : chkM MT lw_tbl kNsl kSts kCl MI_104 = true := by decide +kernel
set_option maxRecDepth 100000 in
theorem ck_105 : chkM MT lw_tbl kNsl kSts kCl MI_105 = true := by decide +kernel
set_option maxRecDepth 100000 in
theorem ck_106 : chkM MT lw_tbl kNsl kSts kCl MI_106 = true := by decide +kernel
set_option maxRecDepth 100000 in
theorem ck_107 : chkM MT lw_tbl kNsl kSts kCl MI_107 = true := by decide +kernel
set_option maxRecDepth 100000 in
theorem ck_108 : chkM MT lw_tbl kNsl kSts kCl MI_108 = true := by decide +kernel
set_option maxRecDepth 100000 in
theorem ck_109 : chkM MT lw_tbl kNsl kSts kCl MI_109 = true := by decide +kernel
set_option maxRecDepth 100000 in
theorem ck_110 : chkM MT lw_tbl kNsl kSts kCl MI_110 = true := by decide +kernel
set_option maxRecDepth 100000 in
theorem ck_111 : chkM MT lw_tbl kNsl kSts kCl MI_111 = true := by decide +kernel
set_option maxRecDepth 100000 in
theorem ck_112 : chkM MT lw_tbl kNsl kSts kCl MI_112 = true := by decide +kernel
set_option maxRecDepth 100000 in
theorem ck_113 : chkM MT lw_tbl kNsl kSts kCl MI_113 = true := by decide +kernel
set_option maxRecDepth 100000 in
theorem ck_114 : chkM MT lw_tbl kNsl kSts kCl MI_114 = true := by decide +kernel
set_option maxRecDepth 100000 in
theorem ck_115 : chkM MT lw_tbl kNsl kSts kCl MI_115 = true := by decide +kernel
set_option maxRecDepth 100000 in
theorem ck_116 : chkM MT lw_tbl kNsl kSts kCl MI_116 = true := by decide +kernel
set_option maxRecDepth 100000 in
theorem ck_117 : chkM MT lw_tbl kNsl kSts kCl MI_117 = true := by decide +kernel
set_option maxRecDepth 100000 in
theorem ck_118 : chkM MT lw_tbl kNsl kSts kCl MI_118 = true := by decide +kernel
set_option maxRecDepth 100000 in
theorem ck_119 : chkM MT lw_tbl kNsl kSts kCl MI_119 = true := by decide +kernel
set_option maxRecDepth 100000 in
theorem ck_120 : chkM MT lw_tbl kNsl kSts kCl MI_120 = true := by decide +kernel
set_option maxRecDepth 100000 in
theorem ck_121 : chkM MT lw_tbl kNsl kSts kCl MI_121 = true := by decide +kernel
set_option maxRecDepth 100000 in
theorem ck_122 : chkM MT lw_tbl kNsl kSts kCl MI_122 = true := by decide +kernel
set_option maxRecDepth 100000 in
theorem ck_123 : chkM MT lw_tbl kNsl kSts kCl MI_123 = true := by decide +kernel
set_option maxRecDepth 100000 in
theorem ck_124 : chkM MT lw_tbl kNsl kSts kCl MI_124 = true := by decide +kernel
set_option maxRecDepth 100000 in
theorem ck_125 : chkM MT lw_tbl kNsl kSts kCl MI_125 = true := by decide +kernel
set_option maxRecDepth 100000 in
theorem ck_126 : chkM MT lw_tbl kNsl kSts kCl MI_126 = true := by decide +kernel
set_option maxRecDepth 100000 in
theorem ck_127 : chkM MT lw_tbl kNsl kSts kCl MI_127 = true := by decide +kernel
set_option maxRecDepth 100000 in
theorem ck_128 : chkM MT lw_tbl kNsl kSts kCl MI_128 = true := by decide +kernel
set_option maxRecDepth 100000 in
theorem ck_129 : chkM MT lw_tbl kNsl kSts kCl MI_129 = true := by decide +kernel
set_option maxRecDepth 100000 in
theorem ck_130 : chkM MT lw_tbl kNsl kSts kCl MI_130 = true := by decide +kernel
set_option maxRecDepth 100000 in
theorem ck_131 : chkM MT lw_tbl kNsl kSts kCl MI_131 = true := by decide +kernel
set_option maxRecDepth 100000 in
theorem ck_132 : chkM MT lw_tbl kNsl kSts kCl MI_132 = true := by decide +kernel
set_option maxRecDepth 100000 in
theorem ck_133 : chkM MT lw_tbl kNsl kSts kCl MI_133 = true := by decide +kernel
set_option maxRecDepth 100000 in
theorem ck_134 : chkM MT lw_tbl kNsl kSts kCl MI_134 = true := by decide +kernel
set_option maxRecDepth 100000 in
theorem ck_135 : chkM MT lw_tbl kNsl kSts kCl MI_135 = true := by decide +kernel
set_option maxRecDepth 100000 in
theorem ck_136 : chkM MT lw_tbl kNsl kSts kCl MI_136 = true := by decide +kernel
set_option maxRecDepth 100000 in
theorem ck_137 : chkM MT lw_tbl kNsl kSts kCl MI_137 = true := by decide +kernel
set_option maxRecDepth 100000 in
theorem ck_138 : chkM MT lw_tbl kNsl kSts kCl MI_138 = true := by decide +kernel
set_option maxRecDepth 100000 in
theorem ck_139 : chkM MT lw_tbl kNsl kSts kCl MI_139 = true := by decide +kernel
set_option maxRecDepth 100000 in
theorem ck_140 : chkM MT lw_tbl kNsl kSts kCl MI_140 = true := by decide +kernel
set_option maxRecDepth 100000 in
theorem ck_141 : chkM MT lw_tbl kNsl kSts kCl MI_141 = true := by decide +kernel
set_option maxRecDepth 100000 in
theorem ck_142 : chkM MT lw_tbl kNsl kSts kCl MI_142 = true := by decide +kernel
set_option maxRecDepth 100000 in
theorem ck_143 : chkM MT lw_tbl kNsl kSts kCl MI_143 = true := by decide +kernel
set_option maxRecDepth 100000 in
theorem ck_144 : chkM MT lw_tbl kNsl kSts kCl MI_144 = true := by decide +kernel
set_option maxRecDepth 100000 in
theorem ck_145 : chkM MT lw_tbl kNsl kSts kCl MI_145 = true := by decide +kernel
set_option maxRecDepth 100000 in
theorem ck_146 : chkM MT lw_tbl kNsl kSts kCl MI_146 = true := by decide +kernel
set_option maxRecDepth 100000 in
theorem ck_147 : chkM MT lw_tbl kNsl kSts kCl MI_147 = true := by decide +kernel
set_option maxRecDepth 100000 in
theorem ck_148 : chkM MT lw_tbl kNsl kSts kCl MI_148 = true := by decide +kernel
set_option maxRecDepth 100000 in
theorem ck_149 : chkM MT lw_tbl kNsl kSts kCl MI_149 = true := by decide +kernel
set_option maxRecDepth 100000 in
theorem ck_150 : chkM MT lw_tbl kNsl kSts kCl MI_150 = true := by decide +kernel
set_option maxRecDepth 100000 in
theorem ck_151 : chkM MT lw_tbl kNsl kSts kCl MI_151 = true := by decide +kernel
set_option maxRecDepth 100000 in
theorem ck_152 : chkM MT lw_tbl kNsl kSts kCl MI_152 = true := by decide +kernel
set_option maxRecDepth 100000 in
theorem ck_153 : chkM MT lw_tbl kNsl kSts kCl MI_153 = true := by decide +kernel
set_option maxRecDepth 100000 in
theorem ck_154 : chkM MT lw_tbl kNsl kSts kCl MI_154 = true := by decide +kernel
set_option maxRecDepth 100000 in
theorem ck_155 : chkM MT lw_tbl kNsl kSts kCl MI_155 = true := by decide +kernel
set_option maxRecDepth 100000 in
theorem ck_156 : chkM MT lw_tbl kNsl kSts kCl MI_156 = true := by decide +kernel
set_option maxRecDepth 100000 in
theorem ck_157 : chkM MT lw_tbl kNsl kSts kCl MI_157 = true := by decide +kernel
set_option maxRecDepth 100000 in
theorem ck_158 : chkM MT lw_tbl kNsl kSts kCl MI_158 = true := by decide +kernel
set_option maxRecDepth 100000 in
theorem ck_159 : chkM MT lw_tbl kNsl kSts kCl MI_159 = true := by decide +kernel
set_option maxRecDepth 100000 in
theorem ck_160 : chkM MT lw_tbl kNsl kSts kCl MI_160 = true := by decide +kernel
set_option maxRecDepth 100000 in
theorem ck_161 : chkM MT lw_tbl kNsl kSts kCl MI_161 = true := by decide +kernel
set_option maxRecDepth 100000 in
theorem ck_162 : chkM MT lw_tbl kNsl kSts kCl MI_162 = true := by decide +kernel
set_option maxRecDepth 100000 in
theorem ck_163 : chkM MT lw_tbl kNsl kSts kCl MI_163 = true := by decide +kernel
set_option maxRecDepth 100000 in
theorem ck_164 : chkM MT lw_tbl kNsl kSts kCl MI_164 = true := by decide +kernel
set_option maxRecDepth 100000 in
theorem ck_165 : chkM MT lw_tbl kNsl kSts kCl MI_165 = true := by decide +kernel
set_option maxRecDepth 100000 in
theorem ck_166 : chkM MT lw_tbl kNsl kSts kCl MI_166 = true := by decide +kernel
set_option maxRecDepth 100000 in
theorem ck_167 : chkM MT lw_tbl kNsl kSts kCl MI_167 = true := by decide +kernel
set_option maxRecDepth 100000 in
theorem ck_168 : chkM MT lw_tbl kNsl kSts kCl MI_168 = true := by decide +kernel
set_option maxRecDepth 100000 in
theorem ck_169 : chkM MT lw_tbl kNsl kSts kCl MI_169 = true := by decide +kernel
set_option maxRecDepth 100000 in
theorem ck_170 : chkM MT lw_tbl kNsl kSts kCl MI_170 = true := by decide +kernel
set_option maxRecDepth 100000 in
theorem ck_171 : chkM MT lw_tbl kNsl kSts kCl MI_171 = true := by decide +kernel
set_option maxRecDepth 100000 in
theorem ck_172 : chkM MT lw_tbl kNsl kSts kCl MI_172 = true := by decide +kernel
set_option maxRecDepth 100000 in
theorem ck_173 : chkM MT lw_tbl kNsl kSts kCl MI_173 = true := by decide +kernel
set_option maxRecDepth 100000 in
theorem ck_174 : chkM MT lw_tbl kNsl kSts kCl MI_174 = true := by decide +kernel
set_option maxRecDepth 100000 in
theorem ck_175 : chkM MT lw_tbl kNsl kSts kCl MI_175 = true := by decide +kernel
set_option maxRecDepth 100000 in
theorem ck_176 : chkM MT lw_tbl kNsl kSts kCl MI_176 = true := by decide +kernel
set_option maxRecDepth 100000 in
theorem ck_177 : chkM MT lw_tbl kNsl kSts kCl MI_177 = true := by decide +kernel
set_option maxRecDepth 100000 in
theorem ck_178 : chkM MT lw_tbl kNsl kSts kCl MI_178 = true := by decide +kernel
set_option maxRecDepth 100000 in
theorem ck_179 : chkM MT lw_tbl kNsl kSts kCl MI_179 = true := by decide +kernel
set_option maxRecDepth 100000 in
theorem ck_180 : chkM MT lw_tbl kNsl kSts kCl MI_180 = true := by decide +kernel
set_option maxRecDepth 100000 in
theorem ck_181 : chkM MT lw_tbl kNsl kSts kCl MI_181 = true := by decide +kernel
set_option maxRecDepth 100000 in
theorem ck_182 : chkM MT lw_tbl kNsl kSts kCl MI_182 = true := by decide +kernel
set_option maxRecDepth 100000 in
theorem ck_183 : chkM MT lw_tbl kNsl kSts kCl MI_183 = true := by decide +kernel
set_option maxRecDepth 100000 in
theorem ck_184 : chkM MT lw_tbl kNsl kSts kCl MI_184 = true := by decide +kernel
set_option maxRecDepth 100000 in
theorem ck_185 : chkM MT lw_tbl kNsl kSts kCl MI_185 = true := by decide +kernel
set_option maxRecDepth 100000 in
theorem ck_186 : chkM MT lw_tbl kNsl kSts kCl MI_186 = true := by decide +kernel
set_option maxRecDepth 100000 in
theorem ck_187 : chkM MT lw_tbl kNsl kSts kCl MI_187 = true := by decide +kernel
set_option maxRecDepth 100000 in
theorem ck_188 : chkM MT lw_tbl kNsl kSts kCl MI_188 = true := by decide +kernel
set_option maxRecDepth 100000 in
theorem ck_189 : chkM MT lw_tbl kNsl kSts kCl MI_189 = true := by decide +kernel
set_option maxRecDepth 100000 in
theorem ck_190 : chkM MT lw_tbl kNsl kSts kCl MI_190 = true := by decide +kernel
set_option maxRecDepth 100000 in
theorem ck_191 : chkM MT lw_tbl kNsl kSts kCl MI_191 = true := by decide +kernel
set_option maxRecDepth 100000 in
theorem ck_192 : chkM MT lw_tbl kNsl kSts kCl MI_192 = true := by decide +kernel
set_option maxRecDepth 100000 in
theorem ck_193 : chkM MT lw_tbl kNsl kSts kCl MI_193 = true := by decide +kernel
set_option maxRecDepth 100000 in
theorem ck_194 : chkM MT lw_tbl kNsl kSts kCl MI_194 = true := by decide +kernel
set_option maxRecDepth 100000 in
theorem ck_195 : chkM MT lw_tbl kNsl kSts kCl MI_195 = true := by decide +kernel
set_option maxRecDepth 100000 in
theorem ck_196 : chkM MT lw_tbl kNsl kSts kCl MI_196 = true := by decide +kernel
set_option maxRecDepth 100000 in
theorem ck_197 : chkM MT lw_tbl kNsl kSts kCl MI_197 = true := by decide +kernel
set_option maxRecDepth 100000 in
theorem ck_198 : chkM MT lw_tbl kNsl kSts kCl MI_198 = true := by decide +kernel
set_option maxRecDepth 100000 in
theorem ck_199 : chkM MT lw_tbl kNsl kSts kCl MI_199 = true := by decide +kernel
set_option maxRecDepth 100000 in
theorem ck_200 : chkM MT lw_tbl kNsl kSts kCl MI_200 = true := by decide +kernel
set_option maxRecDepth 100000 in
theorem ck_201 : chkM MT lw_tbl kNsl kSts kCl MI_201 = true := by decide +kernel
set_option maxRecDepth 100000 in
theorem ck_202 : chkM MT lw_tbl kNsl kSts kCl MI_202 = true := by decide +kernel
set_option maxRecDepth 100000 in
theorem ck_203 : chkM MT lw_tbl kNsl kSts kCl MI_203 = true := by decide +kernel
set_option maxRecDepth 100000 in
theorem ck_204 : chkM MT lw_tbl kNsl kSts kCl MI_204 = true := by decide +kernel
set_option maxRecDepth 100000 in
theorem ck_205 : chkM MT lw_tbl kNsl kSts kCl MI_205 = true := by decide +kernel
set_option maxRecDepth 100000 in
theorem ck_206 : chkM MT lw_tbl kNsl kSts kCl MI_206 = true := by decide +kernel
set_option maxRecDepth 100000 in
theorem ck_207 : chkM MT lw_tbl kNsl kSts kCl MI_207 = true := by decide +kernel
set_option maxRecDepth 100000 in
theorem ck_208 : chkM MT lw_tbl kNsl kSts kCl MI_208 = true := by decide +kernel
set_option maxRecDepth 100000 in
theorem ck_209 : chkM MT lw_tbl kNsl kSts kCl MI_209 = true := by decide +kernel
set_option maxRecDepth 100000 in
theorem ck_210 : chkM MT lw_tbl kNsl kSts kCl MI_210 = true := by decide +kernel
set_option maxRecDepth 100000 in
theorem ck_211 : chkM MT lw_tbl kNsl kSts kCl MI_211 = true := by decide +kernel
set_option maxRecDepth 100000 in
theorem ck_212 : chkM MT lw_tbl kNsl kSts kCl MI_212 = true := by decide +kernel
set_option maxRecDepth 100000 in
theorem ck_213 : chkM MT lw_tbl kNsl kSts kCl MI_213 = true := by decide +kernel
set_option maxRecDepth 100000 in
theorem ck_214 : chkM MT lw_tbl kNsl kSts kCl MI_214 = true := by decide +kernel
set_option maxRecDepth 100000 in
theorem ck_215 : chkM MT lw_tbl kNsl kSts kCl MI_215 = true := by decide +kernel
set_option maxRecDepth 100000 in
theorem ck_216 : chkM MT lw_tbl kNsl kSts kCl MI_216 = true := by decide +kernel
set_option maxRecDepth 100000 in
theorem ck_217 : chkM MT lw_tbl kNsl kSts kCl MI_217 = true := by decide +kernel
set_option maxRecDepth 100000 in
theorem ck_218 : chkM MT lw_tbl kNsl kSts kCl MI_218 = true := by decide +kernel
set_option maxRecDepth 100000 in
theorem ck_219 : chkM MT lw_tbl kNsl kSts kCl MI_219 = true := by decide +kernel
set_option maxRecDepth 100000 in
theorem ck_220 : chkM MT lw_tbl kNsl kSts kCl MI_220 = true := by decide +kernel
set_option maxRecDepth 100000 in
theorem ck_221 : chkM MT lw_tbl kNsl kSts kCl MI_221 = true := by decide +kernel
set_option maxRecDepth 100000 in
theorem ck_222 : chkM MT lw_tbl kNsl kSts kCl MI_222 = true := by decide +kernel
set_option maxRecDepth 100000 in
theorem ck_223 : chkM MT lw_tbl kNsl kSts kCl MI_223 = true := by decide +kernel
set_option maxRecDepth 100000 in
theorem ck_224 : chkM MT lw_tbl kNsl kSts kCl MI_224 = true := by decide +kernel
set_option maxRecDepth 100000 in
theorem ck_225 : chkM MT lw_tbl kNsl kSts kCl MI_225 = true := by decide +kernel
set_option maxRecDepth 100000 in
theorem ck_226 : chkM MT lw_tbl kNsl kSts kCl MI_226 = true := by decide +kernel
set_option maxRecDepth 100000 in
theorem ck_227 : chkM MT lw_tbl kNsl kSts kCl MI_227 = true := by decide +kernel
set_option maxRecDepth 100000 in
theorem ck_228 : chkM MT lw_tbl kNsl kSts kCl MI_228 = true := by decide +kernel
set_option maxRecDepth 100000 in
theorem ck_229 : chkM MT lw_tbl kNsl kSts kCl MI_229 = true := by decide +kernel
set_option maxRecDepth 100000 in
theorem ck_230 : chkM MT lw_tbl kNsl kSts kCl MI_230 = true := by decide +kernel
set_option maxRecDepth 100000 in
theorem ck_231 : chkM MT lw_tbl kNsl kSts kCl MI_231 = true := by decide +kernel
set_option maxRecDepth 100000 in
theorem ck_232 : chkM MT lw_tbl kNsl kSts kCl MI_232 = true := by decide +kernel
set_option maxRecDepth 100000 in
theorem ck_233 : chkM MT lw_tbl kNsl kSts kCl MI_233 = true := by decide +kernel
set_option maxRecDepth 100000 in
theorem ck_234 : chkM MT lw_tbl kNsl kSts kCl MI_234 = true := by decide +kernel
set_option maxRecDepth 100000 in
theorem ck_235 : chkM MT lw_tbl kNsl kSts kCl MI_235 = true := by decide +kernel
set_option maxRecDepth 100000 in
theorem ck_236 : chkM MT lw_tbl kNsl kSts kCl MI_236 = true := by decide +kernel
set_option maxRecDepth 100000 in
theorem ck_237 : chkM MT lw_tbl kNsl kSts kCl MI_237 = true := by decide +kernel
set_option maxRecDepth 100000 in
theorem ck_238 : chkM MT lw_tbl kNsl kSts kCl MI_238 = true := by decide +kernel
set_option maxRecDepth 100000 in
theorem ck_239 : chkM MT lw_tbl kNsl kSts kCl MI_239 = true := by decide +kernel
set_option maxRecDepth 100000 in
theorem ck_240 : chkM MT lw_tbl kNsl kSts kCl MI_240 = true := by decide +kernel
set_option maxRecDepth 100000 in
theorem ck_241 : chkM MT lw_tbl kNsl kSts kCl MI_241 = true := by decide +kernel
set_option maxRecDepth 100000 in
theorem ck_242 : chkM MT lw_tbl kNsl kSts kCl MI_242 = true := by decide +kernel
set_option maxRecDepth 100000 in
theorem ck_243 : chkM MT lw_tbl kNsl kSts kCl MI_243 = true := by decide +kernel
set_option maxRecDepth 100000 in
theorem ck_244 : chkM MT lw_tbl kNsl kSts kCl MI_244 = true := by decide +kernel
set_option maxRecDepth 100000 in
theorem ck_245 : chkM MT lw_tbl kNsl kSts kCl MI_245 = true := by decide +kernel
set_option maxRecDepth 100000 in
theorem ck_246 : chkM MT lw_tbl kNsl kSts kCl MI_246 = true := by decide +kernel
set_option maxRecDepth 100000 in
theorem ck_247 : chkM MT lw_tbl kNsl kSts kCl MI_247 = true := by decide +kernel
set_option maxRecDepth 100000 in
theorem ck_248 : chkM MT lw_tbl kNsl kSts kCl MI_248 = true := by decide +kernel
set_option maxRecDepth 100000 in
theorem ck_249 : chkM MT lw_tbl kNsl kSts kCl MI_249 = true := by decide +kernel
set_option maxRecDepth 100000 in
theorem ck_250 : chkM MT lw_tbl kNsl kSts kCl MI_250 = true := by decide +kernel
set_option maxRecDepth 100000 in
theorem ck_251 : chkM MT lw_tbl kNsl kSts kCl MI_251 = true := by decide +kernel
set_option maxRecDepth 100000 in
theorem ck_252 : chkM MT lw_tbl kNsl kSts kCl MI_252 = true := by decide +kernel
set_option maxRecDepth 100000 in
theorem ck_253 : chkM MT lw_tbl kNsl kSts kCl MI_253 = true := by decide +kernel
set_option maxRecDepth 100000 in
theorem ck_254 : chkM MT lw_tbl kNsl kSts kCl MI_254 = true := by decide +kernel
set_option maxRecDepth 100000 in
theorem ck_255 : chkM MT lw_tbl kNsl kSts kCl MI_255 = true := by decide +kernel
set_option maxRecDepth 100000 in
theorem ck_256 : chkM MT lw_tbl kNsl kSts kCl MI_256 = true := by decide +kernel
set_option maxRecDepth 100000 in
theorem ck_257 : chkM MT lw_tbl kNsl kSts kCl MI_257 = true := by decide +kernel
set_option maxRecDepth 100000 in
theorem ck_258 : chkM MT lw_tbl kNsl kSts kCl MI_258 = true := by decide +kernel
set_option maxRecDepth 100000 in
theorem ck_259 : chkM MT lw_tbl kNsl kSts kCl MI_259 = true := by decide +kernel
set_option maxRecDepth 100000 in
theorem ck_260 : chkM MT lw_tbl kNsl kSts kCl MI_260 = true := by decide +kernel
set_option maxRecDepth 100000 in
theorem ck_261 : chkM MT lw_tbl kNsl kSts kCl MI_261 = true := by decide +kernel
set_option maxRecDepth 100000 in
theorem ck_262 : chkM MT lw_tbl kNsl kSts kCl MI_262 = true := by decide +kernel
set_option maxRecDepth 100000 in
theorem ck_263 : chkM MT lw_tbl kNsl kSts kCl MI_263 = true := by decide +kernel
set_option maxRecDepth 100000 in
theorem ck_264 : chkM MT lw_tbl kNsl kSts kCl MI_264 = true := by decide +kernel
set_option maxRecDepth 100000 in
theorem ck_265 : chkM MT lw_tbl kNsl kSts kCl MI_265 = true := by decide +kernel
set_option maxRecDepth 100000 in
theorem ck_266 : chkM MT lw_tbl kNsl kSts kCl MI_266 = true := by decide +kernel
set_option maxRecDepth 100000 in
theorem ck_267 : chkM MT lw_tbl kNsl kSts kCl MI_267 = true := by decide +kernel
set_option maxRecDepth 100000 in
theorem ck_268 : chkM MT lw_tbl kNsl kSts kCl MI_268 = true := by decide +kernel
set_option maxRecDepth 100000 in
theorem ck_269 : chkM MT lw_tbl kNsl kSts kCl MI_269 = true := by decide +kernel
set_option maxRecDepth 100000 in
theorem ck_270 : chkM MT lw_tbl kNsl kSts kCl MI_270 = true := by decide +kernel
set_option maxRecDepth 100000 in
theorem ck_271 : chkM MT lw_tbl kNsl kSts kCl MI_271 = true := by decide +kernel
set_option maxRecDepth 100000 in
theorem ck_272 : chkM MT lw_tbl kNsl kSts kCl MI_272 = true := by decide +kernel
set_option maxRecDepth 100000 in
theorem ck_273 : chkM MT lw_tbl kNsl kSts kCl MI_273 = true := by decide +kernel
set_option maxRecDepth 100000 in
theorem ck_274 : chkM MT lw_tbl kNsl kSts kCl MI_274 = true := by decide +kernel
set_option maxRecDepth 100000 in
theorem ck_275 : chkM MT lw_tbl kNsl kSts kCl MI_275 = true := by decide +kernel
set_option maxRecDepth 100000 in
theorem ck_276 : chkM MT lw_tbl kNsl kSts kCl MI_276 = true := by decide +kernel
set_option maxRecDepth 100000 in
theorem ck_277 : chkM MT lw_tbl kNsl kSts kCl MI_277 = true := by decide +kernel
set_option maxRecDepth 100000 in
theorem ck_278 : chkM MT lw_tbl kNsl kSts kCl MI_278 = true := by decide +kernel
set_option maxRecDepth 100000 in
theorem ck_279 : chkM MT lw_tbl kNsl kSts kCl MI_279 = true := by decide +kernel
set_option maxRecDepth 100000 in
theorem ck_280 : chkM MT lw_tbl kNsl kSts kCl MI_280 = true := by decide +kernel
set_option maxRecDepth 100000 in
theorem ck_281 : chkM MT lw_tbl kNsl kSts kCl MI_281 = true := by decide +kernel
set_option maxRecDepth 100000 in
theorem ck_282 : chkM MT lw_tbl kNsl kSts kCl MI_282 = true := by decide +kernel
set_option maxRecDepth 100000 in
theorem ck_283 : chkM MT lw_tbl kNsl kSts kCl MI_283 = true := by decide +kernel
set_option maxRecDepth 100000 in
theorem ck_284 : chkM MT lw_tbl kNsl kSts kCl MI_284 = true := by decide +kernel
set_option maxRecDepth 100000 in
theorem ck_285 : chkM MT lw_tbl kNsl kSts kCl MI_285 = true := by decide +kernel
theorem kCk : ∀ mi ∈ MT, chkM MT lw_tbl kNsl kSts kCl mi = true := by
  intro mi h
  simp only [MT, List.mem_cons, List.not_mem_nil, or_false] at h
  rcases h with rfl | rfl | rfl | rfl | rfl | rfl | rfl | rfl | rfl | rfl | rfl | rfl | rfl | rfl | rfl | rfl | rfl | rfl | rfl | rfl | rfl | rfl | rfl | rfl | rfl | rfl | rfl | rfl | rfl | rfl | rfl | rfl | rfl | rfl | rfl | rfl | rfl | rfl | rfl | rfl | rfl | rfl | rfl | rfl | rfl | rfl | rfl | rfl | rfl | rfl | rfl | rfl | rfl | rfl | rfl | rfl | rfl | rfl | rfl | rfl | rfl | rfl | rfl | rfl | rfl | rfl | rfl | rfl | rfl | rfl | rfl | rfl | rfl | rfl | rfl | rfl | rfl | rfl | rfl | rfl | rfl | rfl | rfl | rfl | rfl | rfl | rfl | rfl | rfl | rfl | rfl | rfl | rfl | rfl | rfl | rfl | rfl | rfl | rfl | rfl | rfl | rfl | rfl | rfl | rfl | rfl | rfl | rfl | rfl | rfl | rfl | rfl | rfl | rfl | rfl | rfl | rfl | rfl | rfl | rfl | rfl | rfl | rfl | rfl | rfl | rfl | rfl | rfl | rfl | rfl | rfl | rfl | rfl | rfl | rfl | rfl | rfl | rfl | rfl | rfl | rfl | rfl | rfl | rfl | rfl | rfl | rfl | rfl | rfl | rfl | rfl | rfl | rfl | rfl | rfl | rfl | rfl | rfl | rfl | rfl | rfl | rfl | rfl | rfl | rfl | rfl | rfl | rfl | rfl | rfl | rfl | rfl | rfl | rfl | rfl | rfl | rfl | rfl | rfl | rfl | rfl | rfl | rfl | rfl | rfl | rfl | rfl | rfl | rfl | rfl | rfl | rfl | rfl | rfl | rfl | rfl | rfl | rfl | rfl | rfl | rfl | rfl | rfl | rfl | rfl | rfl | rfl | rfl | rfl | rfl | rfl | rfl | rfl | rfl | rfl | rfl | rfl | rfl | rfl | rfl | rfl | rfl | rfl | rfl | rfl | rfl | rfl | rfl | rfl | rfl | rfl | rfl | rfl | rfl | rfl | rfl | rfl | rfl | rfl | rfl | rfl | rfl | rfl | rfl | rfl | rfl | rfl | rfl | rfl | rfl | rfl | rfl | rfl | rfl | rfl | rfl | rfl | rfl | rfl | rfl | rfl | rfl | rfl | rfl | rfl | rfl | rfl | rfl | rfl | rfl | rfl | rfl | rfl | rfl | rfl | rfl | rfl | rfl | rfl | rfl | rfl | rfl | rfl | rfl | rfl | rfl
  · exact ck_0
  · exact ck_1
  · exact ck_2
  · exact ck_3
  · exact ck_4
  · exact ck_5
  · exact ck_6
  · exact ck_7
  · exact ck_8
  · exact ck_9
  · exact ck_10
  · exact ck_11
  · exact ck_12
  · exact ck_13
  · exact ck_14
  · exact ck_15
  · exact ck_16
  · exact ck_17
  · exact ck_18
  · exact ck_19
  · exact ck_20
  · exact ck_21
  · exact ck_22
  · exact ck_23
  · exact ck_24
  · exact ck_25
  · exact ck_26
  · exact ck_27
  · exact ck_28
  · exact ck_29
  · exact ck_30
  · exact ck_31
  · exact ck_32
  · exact ck_33
  · exact ck_34
  · exact ck_35
  · exact ck_36
  · exact ck_37
  · exact ck_38
  · exact ck_39
  · exact ck_40
  · exact ck_41
  · exact ck_42
  · exact ck_43
  · exact ck_44
  · exact ck_45
  · exact ck_46
  · exact ck_47
  · exact ck_48
  · exact ck_49
  · exact ck_50
  · exact ck_51
  · exact ck_52
  · exact ck_53
  · exact ck_54
  · exact ck_55
  · exact ck_56
  · exact ck_57
  · exact ck_58
  · exact ck_59
  · exact ck_60
  · exact ck_61
  · exact ck_62
  · exact ck_63
  · exact ck_64
  · exact ck_65
  · exact ck_66
  · exact ck_67
  · exact ck_68
  · exact ck_69
  · exact ck_70
  · exact ck_71
  · exact ck_72
  · exact ck_73
  · exact ck_74
  · exact ck_75
  · exact ck_76
  · exact ck_77
  · exact ck_78
  · exact ck_79
  · exact ck_80
  · exact ck_81
  · exact ck_82
  · exact ck_83
  · exact ck_84
  · exact ck_85
  · exact ck_86
  · exact ck_87
  · exact ck_88
  · exact ck_89
  · exact ck_90
  · exact ck_91
  · exact ck_92
  · exact ck_93
  · exact ck_94
  · exact ck_95
  · exact ck_96
  · exact ck_97
  · exact ck_98
  · exact ck_99
  · exact ck_100
  · exact ck_101
  · exact ck_102
  · exact ck_103
  · exact ck_104
  · exact ck_105
  · exact ck_106
  · exact ck_107
  · exact ck_108
  · exact ck_109
  · exact ck_110
  · exact ck_111
  · exact ck_112
  · exact ck_113
  · exact ck_114
  · exact ck_115
  · exact ck_116
  · exact ck_117
  · exact ck_118
  · exact ck_119
  · exact ck_120
  · exact ck_121
  · exact ck_122
  · exact ck_123
  · exact ck_124
  · exact ck_125
  · exact ck_126
  · exact ck_127
  · exact ck_128
  · exact ck_129
  · exact ck_130
  · exact ck_131
  · exact ck_132
  · exact ck_133
  · exact ck_134
  · exact ck_135
  · exact ck_136
  · exact ck_137
  · exact ck_138
  · exact ck_139
  · exact ck_140
  · exact ck_141
  · exact ck_142
  · exact ck_143
  · exact ck_144
  · exact ck_145
  · exact ck_146
  · exact ck_147
  · exact ck_148
  · exact ck_149
  · exact ck_150
  · exact ck_151
  · exact ck_152
  · exact ck_153
  · exact ck_154
  · exact ck_155
  · exact ck_156
  · exact ck_157
  · exact ck_158
  · exact ck_159
  · exact ck_160
  · exact ck_161
  · exact ck_162
  · exact ck_163
  · exact ck_164
  · exact ck_165
  · exact ck_166
  · exact ck_167
  · exact ck_168
  · exact ck_169
  · exact ck_170
  · exact ck_171
  · exact ck_172
  · exact ck_173
  · exact ck_174
  · exact ck_175
  · exact ck_176
  · exact ck_177
  · exact ck_178
  · exact ck_179
  · exact ck_180
  · exact ck_181
  · exact ck_182
  · exact ck_183
  · exact ck_184
  · exact ck_185
  · exact ck_186
  · exact ck_187
  · exact ck_188
  · exact ck_189
  · exact ck_190
  · exact ck_191
  · exact ck_192
  · exact ck_193
  · exact ck_194
  · exact ck_195
  · exact ck_196
  · exact ck_197
  · exact ck_198
  · exact ck_199
  · exact ck_200
  · exact ck_201
  · exact ck_202
  · exact ck_203
  · exact ck_204
  · exact ck_205
  · exact ck_206
  · exact ck_207
  · exact ck_208
  · exact ck_209
  · exact ck_210
  · exact ck_211
  · exact ck_212
  · exact ck_213
  · exact ck_214
  · exact ck_215
  · exact ck_216
  · exact ck_217
  · exact ck_218
  · exact ck_219
  · exact ck_220
  · exact ck_221
  · exact ck_222
  · exact ck_223
  · exact ck_224
  · exact ck_225
  · exact ck_226
  · exact ck_227
  · exact ck_228
  · exact ck_229
  · exact ck_230
  · exact ck_231
  · exact ck_232
  · exact ck_233
  · exact ck_234
  · exact ck_235
  · exact ck_236
  · exact ck_237
  · exact ck_238
  · exact ck_239
  · exact ck_240
  · exact ck_241
  · exact ck_242
  · exact ck_243
  · exact ck_244
  · exact ck_245
  · exact ck_246
  · exact ck_247
  · exact ck_248
  · exact ck_249
  · exact ck_250
  · exact ck_251
  · exact ck_252
  · exact ck_253
  · exact ck_254
  · exact ck_255
  · exact ck_256
  · exact ck_257
  · exact ck_258
  · exact ck_259
  · exact ck_260
  · exact ck_261
  · exact ck_262
  · exact ck_263
  · exact ck_264
  · exact ck_265
  · exact ck_266
  · exact ck_267
  · exact ck_268
  · exact ck_269
  · exact ck_270
  · exact ck_271
  · exact ck_272
  · exact ck_273
  · exact ck_274
  · exact ck_275
  · exact ck_276
  · exact ck_277
  · exact ck_278
  · exact ck_279
  · exact ck_280
  · exact ck_281
  · exact ck_282
  · exact ck_283
  · exact ck_284
  · exact ck_285
