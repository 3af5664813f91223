/-! ===== each method's table is its bytecode, and its words are the tables' ===== -/
set_option maxRecDepth 100000 in
theorem ck_96 : chkM MT lw_tbl kNsl kSts kCl MI_96 = true := by decide +kernel
set_option maxRecDepth 100000 in
theorem cw_96 : CW lw_tbl MI_96 := by
  refine ⟨fun h => (by rcases h with h | h <;> cases h), fun _ => List.mem_filter.mpr ⟨List.mem_of_getElem? (i := 986) ?_, ?_⟩⟩
  · rfl
  · rfl
set_option maxRecDepth 100000 in
theorem ck_97 : chkM MT lw_tbl kNsl kSts kCl MI_97 = true := by decide +kernel
set_option maxRecDepth 100000 in
theorem cw_97 : CW lw_tbl MI_97 := by
  refine ⟨fun _ => List.mem_filter.mpr ⟨List.mem_of_getElem? (i := 1679) ?_, ?_⟩, fun h => (by cases h)⟩
  · rfl
  · rfl
set_option maxRecDepth 100000 in
theorem ck_98 : chkM MT lw_tbl kNsl kSts kCl MI_98 = true := by decide +kernel
set_option maxRecDepth 100000 in
theorem cw_98 : CW lw_tbl MI_98 := by
  refine ⟨fun _ => List.mem_filter.mpr ⟨List.mem_of_getElem? (i := 485) ?_, ?_⟩, fun h => (by cases h)⟩
  · rfl
  · rfl
set_option maxRecDepth 100000 in
theorem ck_99 : chkM MT lw_tbl kNsl kSts kCl MI_99 = true := by decide +kernel
set_option maxRecDepth 100000 in
theorem cw_99 : CW lw_tbl MI_99 := by
  refine ⟨fun _ => List.mem_filter.mpr ⟨List.mem_of_getElem? (i := 494) ?_, ?_⟩, fun h => (by cases h)⟩
  · rfl
  · rfl
set_option maxRecDepth 100000 in
theorem ck_100 : chkM MT lw_tbl kNsl kSts kCl MI_100 = true := by decide +kernel
set_option maxRecDepth 100000 in
theorem cw_100 : CW lw_tbl MI_100 := by
  refine ⟨fun _ => List.mem_filter.mpr ⟨List.mem_of_getElem? (i := 482) ?_, ?_⟩, fun h => (by cases h)⟩
  · rfl
  · rfl
set_option maxRecDepth 100000 in
theorem ck_101 : chkM MT lw_tbl kNsl kSts kCl MI_101 = true := by decide +kernel
set_option maxRecDepth 100000 in
theorem cw_101 : CW lw_tbl MI_101 := by
  refine ⟨fun _ => List.mem_filter.mpr ⟨List.mem_of_getElem? (i := 1686) ?_, ?_⟩, fun h => (by cases h)⟩
  · rfl
  · rfl
set_option maxRecDepth 100000 in
theorem ck_102 : chkM MT lw_tbl kNsl kSts kCl MI_102 = true := by decide +kernel
set_option maxRecDepth 100000 in
theorem cw_102 : CW lw_tbl MI_102 := by
  refine ⟨fun _ => List.mem_filter.mpr ⟨List.mem_of_getElem? (i := 1694) ?_, ?_⟩, fun h => (by cases h)⟩
  · rfl
  · rfl
set_option maxRecDepth 100000 in
theorem ck_103 : chkM MT lw_tbl kNsl kSts kCl MI_103 = true := by decide +kernel
set_option maxRecDepth 100000 in
theorem cw_103 : CW lw_tbl MI_103 := by
  refine ⟨fun _ => List.mem_filter.mpr ⟨List.mem_of_getElem? (i := 1690) ?_, ?_⟩, fun h => (by cases h)⟩
  · rfl
  · rfl
set_option maxRecDepth 100000 in
theorem ck_104 : chkM MT lw_tbl kNsl kSts kCl MI_104 = true := by decide +kernel
set_option maxRecDepth 100000 in
theorem cw_104 : CW lw_tbl MI_104 := by
  refine ⟨fun _ => List.mem_filter.mpr ⟨List.mem_of_getElem? (i := 1683) ?_, ?_⟩, fun h => (by cases h)⟩
  · rfl
  · rfl
set_option maxRecDepth 100000 in
theorem ck_105 : chkM MT lw_tbl kNsl kSts kCl MI_105 = true := by decide +kernel
set_option maxRecDepth 100000 in
theorem cw_105 : CW lw_tbl MI_105 := by
  refine ⟨fun _ => List.mem_filter.mpr ⟨List.mem_of_getElem? (i := 998) ?_, ?_⟩, fun h => (by cases h)⟩
  · rfl
  · rfl
set_option maxRecDepth 100000 in
theorem ck_106 : chkM MT lw_tbl kNsl kSts kCl MI_106 = true := by decide +kernel
set_option maxRecDepth 100000 in
theorem cw_106 : CW lw_tbl MI_106 := by
  refine ⟨fun h => (by rcases h with h | h <;> cases h), fun _ => List.mem_filter.mpr ⟨List.mem_of_getElem? (i := 994) ?_, ?_⟩⟩
  · rfl
  · rfl
set_option maxRecDepth 100000 in
theorem ck_107 : chkM MT lw_tbl kNsl kSts kCl MI_107 = true := by decide +kernel
set_option maxRecDepth 100000 in
theorem cw_107 : CW lw_tbl MI_107 := by
  refine ⟨fun _ => List.mem_filter.mpr ⟨List.mem_of_getElem? (i := 1698) ?_, ?_⟩, fun h => (by cases h)⟩
  · rfl
  · rfl
set_option maxRecDepth 100000 in
theorem ck_108 : chkM MT lw_tbl kNsl kSts kCl MI_108 = true := by decide +kernel
set_option maxRecDepth 100000 in
theorem cw_108 : CW lw_tbl MI_108 := by
  refine ⟨fun _ => List.mem_filter.mpr ⟨List.mem_of_getElem? (i := 506) ?_, ?_⟩, fun h => (by cases h)⟩
  · rfl
  · rfl
set_option maxRecDepth 100000 in
theorem ck_109 : chkM MT lw_tbl kNsl kSts kCl MI_109 = true := by decide +kernel
set_option maxRecDepth 100000 in
theorem cw_109 : CW lw_tbl MI_109 := by
  refine ⟨fun _ => List.mem_filter.mpr ⟨List.mem_of_getElem? (i := 513) ?_, ?_⟩, fun h => (by cases h)⟩
  · rfl
  · rfl
set_option maxRecDepth 100000 in
theorem ck_110 : chkM MT lw_tbl kNsl kSts kCl MI_110 = true := by decide +kernel
set_option maxRecDepth 100000 in
theorem cw_110 : CW lw_tbl MI_110 := by
  refine ⟨fun _ => List.mem_filter.mpr ⟨List.mem_of_getElem? (i := 525) ?_, ?_⟩, fun h => (by cases h)⟩
  · rfl
  · rfl
set_option maxRecDepth 100000 in
theorem ck_111 : chkM MT lw_tbl kNsl kSts kCl MI_111 = true := by decide +kernel
set_option maxRecDepth 100000 in
theorem cw_111 : CW lw_tbl MI_111 := by
  refine ⟨fun _ => List.mem_filter.mpr ⟨List.mem_of_getElem? (i := 522) ?_, ?_⟩, fun h => (by cases h)⟩
  · rfl
  · rfl
set_option maxRecDepth 100000 in
theorem ck_112 : chkM MT lw_tbl kNsl kSts kCl MI_112 = true := by decide +kernel
set_option maxRecDepth 100000 in
theorem cw_112 : CW lw_tbl MI_112 := by
  refine ⟨fun _ => List.mem_filter.mpr ⟨List.mem_of_getElem? (i := 502) ?_, ?_⟩, fun h => (by cases h)⟩
  · rfl
  · rfl
set_option maxRecDepth 100000 in
theorem ck_113 : chkM MT lw_tbl kNsl kSts kCl MI_113 = true := by decide +kernel
set_option maxRecDepth 100000 in
theorem cw_113 : CW lw_tbl MI_113 := by
  refine ⟨fun _ => List.mem_filter.mpr ⟨List.mem_of_getElem? (i := 498) ?_, ?_⟩, fun h => (by cases h)⟩
  · rfl
  · rfl
set_option maxRecDepth 100000 in
theorem ck_114 : chkM MT lw_tbl kNsl kSts kCl MI_114 = true := by decide +kernel
set_option maxRecDepth 100000 in
theorem cw_114 : CW lw_tbl MI_114 := by
  refine ⟨fun _ => List.mem_filter.mpr ⟨List.mem_of_getElem? (i := 1707) ?_, ?_⟩, fun h => (by cases h)⟩
  · rfl
  · rfl
set_option maxRecDepth 100000 in
theorem ck_115 : chkM MT lw_tbl kNsl kSts kCl MI_115 = true := by decide +kernel
set_option maxRecDepth 100000 in
theorem cw_115 : CW lw_tbl MI_115 := by
  refine ⟨fun _ => List.mem_filter.mpr ⟨List.mem_of_getElem? (i := 1714) ?_, ?_⟩, fun h => (by cases h)⟩
  · rfl
  · rfl
set_option maxRecDepth 100000 in
theorem ck_116 : chkM MT lw_tbl kNsl kSts kCl MI_116 = true := by decide +kernel
set_option maxRecDepth 100000 in
theorem cw_116 : CW lw_tbl MI_116 := by
  refine ⟨fun _ => List.mem_filter.mpr ⟨List.mem_of_getElem? (i := 1721) ?_, ?_⟩, fun h => (by cases h)⟩
  · rfl
  · rfl
set_option maxRecDepth 100000 in
theorem ck_117 : chkM MT lw_tbl kNsl kSts kCl MI_117 = true := by decide +kernel
set_option maxRecDepth 100000 in
theorem cw_117 : CW lw_tbl MI_117 := by
  refine ⟨fun _ => List.mem_filter.mpr ⟨List.mem_of_getElem? (i := 1718) ?_, ?_⟩, fun h => (by cases h)⟩
  · rfl
  · rfl
set_option maxRecDepth 100000 in
theorem ck_118 : chkM MT lw_tbl kNsl kSts kCl MI_118 = true := by decide +kernel
set_option maxRecDepth 100000 in
theorem cw_118 : CW lw_tbl MI_118 := by
  refine ⟨fun _ => List.mem_filter.mpr ⟨List.mem_of_getElem? (i := 1711) ?_, ?_⟩, fun h => (by cases h)⟩
  · rfl
  · rfl
set_option maxRecDepth 100000 in
theorem ck_119 : chkM MT lw_tbl kNsl kSts kCl MI_119 = true := by decide +kernel
set_option maxRecDepth 100000 in
theorem cw_119 : CW lw_tbl MI_119 := by
  refine ⟨fun _ => List.mem_filter.mpr ⟨List.mem_of_getElem? (i := 1702) ?_, ?_⟩, fun h => (by cases h)⟩
  · rfl
  · rfl
set_option maxRecDepth 100000 in
theorem ck_120 : chkM MT lw_tbl kNsl kSts kCl MI_120 = true := by decide +kernel
set_option maxRecDepth 100000 in
theorem cw_120 : CW lw_tbl MI_120 := by
  refine ⟨fun _ => List.mem_filter.mpr ⟨List.mem_of_getElem? (i := 534) ?_, ?_⟩, fun h => (by cases h)⟩
  · rfl
  · rfl
set_option maxRecDepth 100000 in
theorem ck_121 : chkM MT lw_tbl kNsl kSts kCl MI_121 = true := by decide +kernel
set_option maxRecDepth 100000 in
theorem cw_121 : CW lw_tbl MI_121 := by
  refine ⟨fun _ => List.mem_filter.mpr ⟨List.mem_of_getElem? (i := 530) ?_, ?_⟩, fun h => (by cases h)⟩
  · rfl
  · rfl
set_option maxRecDepth 100000 in
theorem ck_122 : chkM MT lw_tbl kNsl kSts kCl MI_122 = true := by decide +kernel
set_option maxRecDepth 100000 in
theorem cw_122 : CW lw_tbl MI_122 := by
  refine ⟨fun _ => List.mem_filter.mpr ⟨List.mem_of_getElem? (i := 1729) ?_, ?_⟩, fun h => (by cases h)⟩
  · rfl
  · rfl
set_option maxRecDepth 100000 in
theorem ck_123 : chkM MT lw_tbl kNsl kSts kCl MI_123 = true := by decide +kernel
set_option maxRecDepth 100000 in
theorem cw_123 : CW lw_tbl MI_123 := by
  refine ⟨fun _ => List.mem_filter.mpr ⟨List.mem_of_getElem? (i := 1725) ?_, ?_⟩, fun h => (by cases h)⟩
  · rfl
  · rfl
set_option maxRecDepth 100000 in
theorem ck_124 : chkM MT lw_tbl kNsl kSts kCl MI_124 = true := by decide +kernel
set_option maxRecDepth 100000 in
theorem cw_124 : CW lw_tbl MI_124 := by
  refine ⟨fun _ => List.mem_filter.mpr ⟨List.mem_of_getElem? (i := 601) ?_, ?_⟩, fun h => (by cases h)⟩
  · rfl
  · rfl
set_option maxRecDepth 100000 in
theorem ck_125 : chkM MT lw_tbl kNsl kSts kCl MI_125 = true := by decide +kernel
set_option maxRecDepth 100000 in
theorem cw_125 : CW lw_tbl MI_125 := by
  refine ⟨fun _ => List.mem_filter.mpr ⟨List.mem_of_getElem? (i := 1005) ?_, ?_⟩, fun h => (by cases h)⟩
  · rfl
  · rfl
set_option maxRecDepth 100000 in
theorem ck_126 : chkM MT lw_tbl kNsl kSts kCl MI_126 = true := by decide +kernel
set_option maxRecDepth 100000 in
theorem cw_126 : CW lw_tbl MI_126 := by
  refine ⟨fun h => (by rcases h with h | h <;> cases h), fun _ => List.mem_filter.mpr ⟨List.mem_of_getElem? (i := 1001) ?_, ?_⟩⟩
  · rfl
  · rfl
set_option maxRecDepth 100000 in
theorem ck_127 : chkM MT lw_tbl kNsl kSts kCl MI_127 = true := by decide +kernel
set_option maxRecDepth 100000 in
theorem cw_127 : CW lw_tbl MI_127 := by
  refine ⟨fun _ => List.mem_filter.mpr ⟨List.mem_of_getElem? (i := 1741) ?_, ?_⟩, fun h => (by cases h)⟩
  · rfl
  · rfl
set_option maxRecDepth 100000 in
theorem ck_128 : chkM MT lw_tbl kNsl kSts kCl MI_128 = true := by decide +kernel
set_option maxRecDepth 100000 in
theorem cw_128 : CW lw_tbl MI_128 := by
  refine ⟨fun _ => List.mem_filter.mpr ⟨List.mem_of_getElem? (i := 1737) ?_, ?_⟩, fun h => (by cases h)⟩
  · rfl
  · rfl
set_option maxRecDepth 100000 in
theorem ck_129 : chkM MT lw_tbl kNsl kSts kCl MI_129 = true := by decide +kernel
set_option maxRecDepth 100000 in
theorem cw_129 : CW lw_tbl MI_129 := by
  refine ⟨fun _ => List.mem_filter.mpr ⟨List.mem_of_getElem? (i := 1733) ?_, ?_⟩, fun h => (by cases h)⟩
  · rfl
  · rfl
set_option maxRecDepth 100000 in
theorem ck_130 : chkM MT lw_tbl kNsl kSts kCl MI_130 = true := by decide +kernel
set_option maxRecDepth 100000 in
theorem cw_130 : CW lw_tbl MI_130 := by
  refine ⟨fun _ => List.mem_filter.mpr ⟨List.mem_of_getElem? (i := 550) ?_, ?_⟩, fun h => (by cases h)⟩
  · rfl
  · rfl
set_option maxRecDepth 100000 in
theorem ck_131 : chkM MT lw_tbl kNsl kSts kCl MI_131 = true := by decide +kernel
set_option maxRecDepth 100000 in
theorem cw_131 : CW lw_tbl MI_131 := by
  refine ⟨fun _ => List.mem_filter.mpr ⟨List.mem_of_getElem? (i := 546) ?_, ?_⟩, fun h => (by cases h)⟩
  · rfl
  · rfl
set_option maxRecDepth 100000 in
theorem ck_132 : chkM MT lw_tbl kNsl kSts kCl MI_132 = true := by decide +kernel
set_option maxRecDepth 100000 in
theorem cw_132 : CW lw_tbl MI_132 := by
  refine ⟨fun _ => List.mem_filter.mpr ⟨List.mem_of_getElem? (i := 1012) ?_, ?_⟩, fun h => (by cases h)⟩
  · rfl
  · rfl
set_option maxRecDepth 100000 in
theorem ck_133 : chkM MT lw_tbl kNsl kSts kCl MI_133 = true := by decide +kernel
set_option maxRecDepth 100000 in
theorem cw_133 : CW lw_tbl MI_133 := by
  refine ⟨fun h => (by rcases h with h | h <;> cases h), fun _ => List.mem_filter.mpr ⟨List.mem_of_getElem? (i := 1008) ?_, ?_⟩⟩
  · rfl
  · rfl
set_option maxRecDepth 100000 in
theorem ck_134 : chkM MT lw_tbl kNsl kSts kCl MI_134 = true := by decide +kernel
set_option maxRecDepth 100000 in
theorem cw_134 : CW lw_tbl MI_134 := by
  refine ⟨fun _ => List.mem_filter.mpr ⟨List.mem_of_getElem? (i := 1749) ?_, ?_⟩, fun h => (by cases h)⟩
  · rfl
  · rfl
set_option maxRecDepth 100000 in
theorem ck_135 : chkM MT lw_tbl kNsl kSts kCl MI_135 = true := by decide +kernel
set_option maxRecDepth 100000 in
theorem cw_135 : CW lw_tbl MI_135 := by
  refine ⟨fun _ => List.mem_filter.mpr ⟨List.mem_of_getElem? (i := 1766) ?_, ?_⟩, fun h => (by cases h)⟩
  · rfl
  · rfl
set_option maxRecDepth 100000 in
theorem ck_136 : chkM MT lw_tbl kNsl kSts kCl MI_136 = true := by decide +kernel
set_option maxRecDepth 100000 in
theorem cw_136 : CW lw_tbl MI_136 := by
  refine ⟨fun _ => List.mem_filter.mpr ⟨List.mem_of_getElem? (i := 1769) ?_, ?_⟩, fun h => (by cases h)⟩
  · rfl
  · rfl
set_option maxRecDepth 100000 in
theorem ck_137 : chkM MT lw_tbl kNsl kSts kCl MI_137 = true := by decide +kernel
set_option maxRecDepth 100000 in
theorem cw_137 : CW lw_tbl MI_137 := by
  refine ⟨fun _ => List.mem_filter.mpr ⟨List.mem_of_getElem? (i := 1761) ?_, ?_⟩, fun h => (by cases h)⟩
  · rfl
  · rfl
set_option maxRecDepth 100000 in
theorem ck_138 : chkM MT lw_tbl kNsl kSts kCl MI_138 = true := by decide +kernel
set_option maxRecDepth 100000 in
theorem cw_138 : CW lw_tbl MI_138 := by
  refine ⟨fun _ => List.mem_filter.mpr ⟨List.mem_of_getElem? (i := 1757) ?_, ?_⟩, fun h => (by cases h)⟩
  · rfl
  · rfl
set_option maxRecDepth 100000 in
theorem ck_139 : chkM MT lw_tbl kNsl kSts kCl MI_139 = true := by decide +kernel
set_option maxRecDepth 100000 in
theorem cw_139 : CW lw_tbl MI_139 := by
  refine ⟨fun _ => List.mem_filter.mpr ⟨List.mem_of_getElem? (i := 1777) ?_, ?_⟩, fun h => (by cases h)⟩
  · rfl
  · rfl
set_option maxRecDepth 100000 in
theorem ck_140 : chkM MT lw_tbl kNsl kSts kCl MI_140 = true := by decide +kernel
set_option maxRecDepth 100000 in
theorem cw_140 : CW lw_tbl MI_140 := by
  refine ⟨fun _ => List.mem_filter.mpr ⟨List.mem_of_getElem? (i := 1773) ?_, ?_⟩, fun h => (by cases h)⟩
  · rfl
  · rfl
set_option maxRecDepth 100000 in
theorem ck_141 : chkM MT lw_tbl kNsl kSts kCl MI_141 = true := by decide +kernel
set_option maxRecDepth 100000 in
theorem cw_141 : CW lw_tbl MI_141 := by
  refine ⟨fun _ => List.mem_filter.mpr ⟨List.mem_of_getElem? (i := 1753) ?_, ?_⟩, fun h => (by cases h)⟩
  · rfl
  · rfl
set_option maxRecDepth 100000 in
theorem ck_142 : chkM MT lw_tbl kNsl kSts kCl MI_142 = true := by decide +kernel
set_option maxRecDepth 100000 in
theorem cw_142 : CW lw_tbl MI_142 := by
  refine ⟨fun _ => List.mem_filter.mpr ⟨List.mem_of_getElem? (i := 1745) ?_, ?_⟩, fun h => (by cases h)⟩
  · rfl
  · rfl
set_option maxRecDepth 100000 in
theorem ck_143 : chkM MT lw_tbl kNsl kSts kCl MI_143 = true := by decide +kernel
set_option maxRecDepth 100000 in
theorem cw_143 : CW lw_tbl MI_143 := by
  refine ⟨fun _ => List.mem_filter.mpr ⟨List.mem_of_getElem? (i := 542) ?_, ?_⟩, fun h => (by cases h)⟩
  · rfl
  · rfl
