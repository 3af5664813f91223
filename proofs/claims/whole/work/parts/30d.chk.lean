/-! ===== each method's table is its bytecode, and its words are the tables' ===== -/
set_option maxRecDepth 100000 in
theorem ck_144 : chkM MT lw_tbl kNsl kSts kCl MI_144 = true := by decide +kernel
set_option maxRecDepth 100000 in
theorem cw_144 : CW lw_tbl MI_144 := by
  refine ⟨fun _ => List.mem_filter.mpr ⟨List.mem_of_getElem? (i := 574) ?_, ?_⟩, fun h => (by cases h)⟩
  · rfl
  · rfl
set_option maxRecDepth 100000 in
theorem ck_145 : chkM MT lw_tbl kNsl kSts kCl MI_145 = true := by decide +kernel
set_option maxRecDepth 100000 in
theorem cw_145 : CW lw_tbl MI_145 := by
  refine ⟨fun _ => List.mem_filter.mpr ⟨List.mem_of_getElem? (i := 571) ?_, ?_⟩, fun h => (by cases h)⟩
  · rfl
  · rfl
set_option maxRecDepth 100000 in
theorem ck_146 : chkM MT lw_tbl kNsl kSts kCl MI_146 = true := by decide +kernel
set_option maxRecDepth 100000 in
theorem cw_146 : CW lw_tbl MI_146 := by
  refine ⟨fun _ => List.mem_filter.mpr ⟨List.mem_of_getElem? (i := 1021) ?_, ?_⟩, fun h => (by cases h)⟩
  · rfl
  · rfl
set_option maxRecDepth 100000 in
theorem ck_147 : chkM MT lw_tbl kNsl kSts kCl MI_147 = true := by decide +kernel
set_option maxRecDepth 100000 in
theorem cw_147 : CW lw_tbl MI_147 := by
  refine ⟨fun h => (by rcases h with h | h <;> cases h), fun _ => List.mem_filter.mpr ⟨List.mem_of_getElem? (i := 1017) ?_, ?_⟩⟩
  · rfl
  · rfl
set_option maxRecDepth 100000 in
theorem ck_148 : chkM MT lw_tbl kNsl kSts kCl MI_148 = true := by decide +kernel
set_option maxRecDepth 100000 in
theorem cw_148 : CW lw_tbl MI_148 := by
  refine ⟨fun _ => List.mem_filter.mpr ⟨List.mem_of_getElem? (i := 1793) ?_, ?_⟩, fun h => (by cases h)⟩
  · rfl
  · rfl
set_option maxRecDepth 100000 in
theorem ck_149 : chkM MT lw_tbl kNsl kSts kCl MI_149 = true := by decide +kernel
set_option maxRecDepth 100000 in
theorem cw_149 : CW lw_tbl MI_149 := by
  refine ⟨fun _ => List.mem_filter.mpr ⟨List.mem_of_getElem? (i := 1790) ?_, ?_⟩, fun h => (by cases h)⟩
  · rfl
  · rfl
set_option maxRecDepth 100000 in
theorem ck_150 : chkM MT lw_tbl kNsl kSts kCl MI_150 = true := by decide +kernel
set_option maxRecDepth 100000 in
theorem cw_150 : CW lw_tbl MI_150 := by
  refine ⟨fun _ => List.mem_filter.mpr ⟨List.mem_of_getElem? (i := 1786) ?_, ?_⟩, fun h => (by cases h)⟩
  · rfl
  · rfl
set_option maxRecDepth 100000 in
theorem ck_151 : chkM MT lw_tbl kNsl kSts kCl MI_151 = true := by decide +kernel
set_option maxRecDepth 100000 in
theorem cw_151 : CW lw_tbl MI_151 := by
  refine ⟨fun _ => List.mem_filter.mpr ⟨List.mem_of_getElem? (i := 1782) ?_, ?_⟩, fun h => (by cases h)⟩
  · rfl
  · rfl
set_option maxRecDepth 100000 in
theorem ck_152 : chkM MT lw_tbl kNsl kSts kCl MI_152 = true := by decide +kernel
set_option maxRecDepth 100000 in
theorem cw_152 : CW lw_tbl MI_152 := by
  refine ⟨fun _ => List.mem_filter.mpr ⟨List.mem_of_getElem? (i := 1035) ?_, ?_⟩, fun h => (by cases h)⟩
  · rfl
  · rfl
set_option maxRecDepth 100000 in
theorem ck_153 : chkM MT lw_tbl kNsl kSts kCl MI_153 = true := by decide +kernel
set_option maxRecDepth 100000 in
theorem cw_153 : CW lw_tbl MI_153 := by
  refine ⟨fun _ => List.mem_filter.mpr ⟨List.mem_of_getElem? (i := 1032) ?_, ?_⟩, fun h => (by cases h)⟩
  · rfl
  · rfl
set_option maxRecDepth 100000 in
theorem ck_154 : chkM MT lw_tbl kNsl kSts kCl MI_154 = true := by decide +kernel
set_option maxRecDepth 100000 in
theorem cw_154 : CW lw_tbl MI_154 := by
  refine ⟨fun _ => List.mem_filter.mpr ⟨List.mem_of_getElem? (i := 1028) ?_, ?_⟩, fun h => (by cases h)⟩
  · rfl
  · rfl
set_option maxRecDepth 100000 in
theorem ck_155 : chkM MT lw_tbl kNsl kSts kCl MI_155 = true := by decide +kernel
set_option maxRecDepth 100000 in
theorem cw_155 : CW lw_tbl MI_155 := by
  refine ⟨fun h => (by rcases h with h | h <;> cases h), fun _ => List.mem_filter.mpr ⟨List.mem_of_getElem? (i := 1024) ?_, ?_⟩⟩
  · rfl
  · rfl
set_option maxRecDepth 100000 in
theorem ck_156 : chkM MT lw_tbl kNsl kSts kCl MI_156 = true := by decide +kernel
set_option maxRecDepth 100000 in
theorem cw_156 : CW lw_tbl MI_156 := by
  refine ⟨fun _ => List.mem_filter.mpr ⟨List.mem_of_getElem? (i := 1797) ?_, ?_⟩, fun h => (by cases h)⟩
  · rfl
  · rfl
set_option maxRecDepth 100000 in
theorem ck_157 : chkM MT lw_tbl kNsl kSts kCl MI_157 = true := by decide +kernel
set_option maxRecDepth 100000 in
theorem cw_157 : CW lw_tbl MI_157 := by
  refine ⟨fun _ => List.mem_filter.mpr ⟨List.mem_of_getElem? (i := 538) ?_, ?_⟩, fun h => (by cases h)⟩
  · rfl
  · rfl
set_option maxRecDepth 100000 in
theorem ck_158 : chkM MT lw_tbl kNsl kSts kCl MI_158 = true := by decide +kernel
set_option maxRecDepth 100000 in
theorem cw_158 : CW lw_tbl MI_158 := by
  refine ⟨fun _ => List.mem_filter.mpr ⟨List.mem_of_getElem? (i := 1802) ?_, ?_⟩, fun h => (by cases h)⟩
  · rfl
  · rfl
set_option maxRecDepth 100000 in
theorem ck_159 : chkM MT lw_tbl kNsl kSts kCl MI_159 = true := by decide +kernel
set_option maxRecDepth 100000 in
theorem cw_159 : CW lw_tbl MI_159 := by
  refine ⟨fun _ => List.mem_filter.mpr ⟨List.mem_of_getElem? (i := 1048) ?_, ?_⟩, fun h => (by cases h)⟩
  · rfl
  · rfl
set_option maxRecDepth 100000 in
theorem ck_160 : chkM MT lw_tbl kNsl kSts kCl MI_160 = true := by decide +kernel
set_option maxRecDepth 100000 in
theorem cw_160 : CW lw_tbl MI_160 := by
  refine ⟨fun _ => List.mem_filter.mpr ⟨List.mem_of_getElem? (i := 1042) ?_, ?_⟩, fun h => (by cases h)⟩
  · rfl
  · rfl
set_option maxRecDepth 100000 in
theorem ck_161 : chkM MT lw_tbl kNsl kSts kCl MI_161 = true := by decide +kernel
set_option maxRecDepth 100000 in
theorem cw_161 : CW lw_tbl MI_161 := by
  refine ⟨fun h => (by rcases h with h | h <;> cases h), fun _ => List.mem_filter.mpr ⟨List.mem_of_getElem? (i := 1038) ?_, ?_⟩⟩
  · rfl
  · rfl
set_option maxRecDepth 100000 in
theorem ck_162 : chkM MT lw_tbl kNsl kSts kCl MI_162 = true := by decide +kernel
set_option maxRecDepth 100000 in
theorem cw_162 : CW lw_tbl MI_162 := by
  refine ⟨fun _ => List.mem_filter.mpr ⟨List.mem_of_getElem? (i := 1806) ?_, ?_⟩, fun h => (by cases h)⟩
  · rfl
  · rfl
set_option maxRecDepth 100000 in
theorem ck_163 : chkM MT lw_tbl kNsl kSts kCl MI_163 = true := by decide +kernel
set_option maxRecDepth 100000 in
theorem cw_163 : CW lw_tbl MI_163 := by
  refine ⟨fun _ => List.mem_filter.mpr ⟨List.mem_of_getElem? (i := 1055) ?_, ?_⟩, fun h => (by cases h)⟩
  · rfl
  · rfl
set_option maxRecDepth 100000 in
theorem ck_164 : chkM MT lw_tbl kNsl kSts kCl MI_164 = true := by decide +kernel
set_option maxRecDepth 100000 in
theorem cw_164 : CW lw_tbl MI_164 := by
  refine ⟨fun h => (by rcases h with h | h <;> cases h), fun _ => List.mem_filter.mpr ⟨List.mem_of_getElem? (i := 1051) ?_, ?_⟩⟩
  · rfl
  · rfl
set_option maxRecDepth 100000 in
theorem ck_165 : chkM MT lw_tbl kNsl kSts kCl MI_165 = true := by decide +kernel
set_option maxRecDepth 100000 in
theorem cw_165 : CW lw_tbl MI_165 := by
  refine ⟨fun _ => List.mem_filter.mpr ⟨List.mem_of_getElem? (i := 1810) ?_, ?_⟩, fun h => (by cases h)⟩
  · rfl
  · rfl
set_option maxRecDepth 100000 in
theorem ck_166 : chkM MT lw_tbl kNsl kSts kCl MI_166 = true := by decide +kernel
set_option maxRecDepth 100000 in
theorem cw_166 : CW lw_tbl MI_166 := by
  refine ⟨fun _ => List.mem_filter.mpr ⟨List.mem_of_getElem? (i := 1062) ?_, ?_⟩, fun h => (by cases h)⟩
  · rfl
  · rfl
set_option maxRecDepth 100000 in
theorem ck_167 : chkM MT lw_tbl kNsl kSts kCl MI_167 = true := by decide +kernel
set_option maxRecDepth 100000 in
theorem cw_167 : CW lw_tbl MI_167 := by
  refine ⟨fun h => (by rcases h with h | h <;> cases h), fun _ => List.mem_filter.mpr ⟨List.mem_of_getElem? (i := 1058) ?_, ?_⟩⟩
  · rfl
  · rfl
set_option maxRecDepth 100000 in
theorem ck_168 : chkM MT lw_tbl kNsl kSts kCl MI_168 = true := by decide +kernel
set_option maxRecDepth 100000 in
theorem cw_168 : CW lw_tbl MI_168 := by
  refine ⟨fun _ => List.mem_filter.mpr ⟨List.mem_of_getElem? (i := 1814) ?_, ?_⟩, fun h => (by cases h)⟩
  · rfl
  · rfl
set_option maxRecDepth 100000 in
theorem ck_169 : chkM MT lw_tbl kNsl kSts kCl MI_169 = true := by decide +kernel
set_option maxRecDepth 100000 in
theorem cw_169 : CW lw_tbl MI_169 := by
  refine ⟨fun _ => List.mem_filter.mpr ⟨List.mem_of_getElem? (i := 585) ?_, ?_⟩, fun h => (by cases h)⟩
  · rfl
  · rfl
set_option maxRecDepth 100000 in
theorem ck_170 : chkM MT lw_tbl kNsl kSts kCl MI_170 = true := by decide +kernel
set_option maxRecDepth 100000 in
theorem cw_170 : CW lw_tbl MI_170 := by
  refine ⟨fun _ => List.mem_filter.mpr ⟨List.mem_of_getElem? (i := 581) ?_, ?_⟩, fun h => (by cases h)⟩
  · rfl
  · rfl
set_option maxRecDepth 100000 in
theorem ck_171 : chkM MT lw_tbl kNsl kSts kCl MI_171 = true := by decide +kernel
set_option maxRecDepth 100000 in
theorem cw_171 : CW lw_tbl MI_171 := by
  refine ⟨fun _ => List.mem_filter.mpr ⟨List.mem_of_getElem? (i := 1818) ?_, ?_⟩, fun h => (by cases h)⟩
  · rfl
  · rfl
set_option maxRecDepth 100000 in
theorem ck_172 : chkM MT lw_tbl kNsl kSts kCl MI_172 = true := by decide +kernel
set_option maxRecDepth 100000 in
theorem cw_172 : CW lw_tbl MI_172 := by
  refine ⟨fun _ => List.mem_filter.mpr ⟨List.mem_of_getElem? (i := 589) ?_, ?_⟩, fun h => (by cases h)⟩
  · rfl
  · rfl
set_option maxRecDepth 100000 in
theorem ck_173 : chkM MT lw_tbl kNsl kSts kCl MI_173 = true := by decide +kernel
set_option maxRecDepth 100000 in
theorem cw_173 : CW lw_tbl MI_173 := by
  refine ⟨fun _ => List.mem_filter.mpr ⟨List.mem_of_getElem? (i := 1822) ?_, ?_⟩, fun h => (by cases h)⟩
  · rfl
  · rfl
set_option maxRecDepth 100000 in
theorem ck_174 : chkM MT lw_tbl kNsl kSts kCl MI_174 = true := by decide +kernel
set_option maxRecDepth 100000 in
theorem cw_174 : CW lw_tbl MI_174 := by
  refine ⟨fun _ => List.mem_filter.mpr ⟨List.mem_of_getElem? (i := 597) ?_, ?_⟩, fun h => (by cases h)⟩
  · rfl
  · rfl
set_option maxRecDepth 100000 in
theorem ck_175 : chkM MT lw_tbl kNsl kSts kCl MI_175 = true := by decide +kernel
set_option maxRecDepth 100000 in
theorem cw_175 : CW lw_tbl MI_175 := by
  refine ⟨fun _ => List.mem_filter.mpr ⟨List.mem_of_getElem? (i := 611) ?_, ?_⟩, fun h => (by cases h)⟩
  · rfl
  · rfl
set_option maxRecDepth 100000 in
theorem ck_176 : chkM MT lw_tbl kNsl kSts kCl MI_176 = true := by decide +kernel
set_option maxRecDepth 100000 in
theorem cw_176 : CW lw_tbl MI_176 := by
  refine ⟨fun _ => List.mem_filter.mpr ⟨List.mem_of_getElem? (i := 607) ?_, ?_⟩, fun h => (by cases h)⟩
  · rfl
  · rfl
set_option maxRecDepth 100000 in
theorem ck_177 : chkM MT lw_tbl kNsl kSts kCl MI_177 = true := by decide +kernel
set_option maxRecDepth 100000 in
theorem cw_177 : CW lw_tbl MI_177 := by
  refine ⟨fun _ => List.mem_filter.mpr ⟨List.mem_of_getElem? (i := 593) ?_, ?_⟩, fun h => (by cases h)⟩
  · rfl
  · rfl
set_option maxRecDepth 100000 in
theorem ck_178 : chkM MT lw_tbl kNsl kSts kCl MI_178 = true := by decide +kernel
set_option maxRecDepth 100000 in
theorem cw_178 : CW lw_tbl MI_178 := by
  refine ⟨fun _ => List.mem_filter.mpr ⟨List.mem_of_getElem? (i := 1830) ?_, ?_⟩, fun h => (by cases h)⟩
  · rfl
  · rfl
set_option maxRecDepth 100000 in
theorem ck_179 : chkM MT lw_tbl kNsl kSts kCl MI_179 = true := by decide +kernel
set_option maxRecDepth 100000 in
theorem cw_179 : CW lw_tbl MI_179 := by
  refine ⟨fun _ => List.mem_filter.mpr ⟨List.mem_of_getElem? (i := 1826) ?_, ?_⟩, fun h => (by cases h)⟩
  · rfl
  · rfl
set_option maxRecDepth 100000 in
theorem ck_180 : chkM MT lw_tbl kNsl kSts kCl MI_180 = true := by decide +kernel
set_option maxRecDepth 100000 in
theorem cw_180 : CW lw_tbl MI_180 := by
  refine ⟨fun _ => List.mem_filter.mpr ⟨List.mem_of_getElem? (i := 1078) ?_, ?_⟩, fun h => (by cases h)⟩
  · rfl
  · rfl
set_option maxRecDepth 100000 in
theorem ck_181 : chkM MT lw_tbl kNsl kSts kCl MI_181 = true := by decide +kernel
set_option maxRecDepth 100000 in
theorem cw_181 : CW lw_tbl MI_181 := by
  refine ⟨fun _ => List.mem_filter.mpr ⟨List.mem_of_getElem? (i := 1073) ?_, ?_⟩, fun h => (by cases h)⟩
  · rfl
  · rfl
set_option maxRecDepth 100000 in
theorem ck_182 : chkM MT lw_tbl kNsl kSts kCl MI_182 = true := by decide +kernel
set_option maxRecDepth 100000 in
theorem cw_182 : CW lw_tbl MI_182 := by
  refine ⟨fun _ => List.mem_filter.mpr ⟨List.mem_of_getElem? (i := 1069) ?_, ?_⟩, fun h => (by cases h)⟩
  · rfl
  · rfl
set_option maxRecDepth 100000 in
theorem ck_183 : chkM MT lw_tbl kNsl kSts kCl MI_183 = true := by decide +kernel
set_option maxRecDepth 100000 in
theorem cw_183 : CW lw_tbl MI_183 := by
  refine ⟨fun h => (by rcases h with h | h <;> cases h), fun _ => List.mem_filter.mpr ⟨List.mem_of_getElem? (i := 1065) ?_, ?_⟩⟩
  · rfl
  · rfl
set_option maxRecDepth 100000 in
theorem ck_184 : chkM MT lw_tbl kNsl kSts kCl MI_184 = true := by decide +kernel
set_option maxRecDepth 100000 in
theorem cw_184 : CW lw_tbl MI_184 := by
  refine ⟨fun _ => List.mem_filter.mpr ⟨List.mem_of_getElem? (i := 1839) ?_, ?_⟩, fun h => (by cases h)⟩
  · rfl
  · rfl
set_option maxRecDepth 100000 in
theorem ck_185 : chkM MT lw_tbl kNsl kSts kCl MI_185 = true := by decide +kernel
set_option maxRecDepth 100000 in
theorem cw_185 : CW lw_tbl MI_185 := by
  refine ⟨fun _ => List.mem_filter.mpr ⟨List.mem_of_getElem? (i := 1834) ?_, ?_⟩, fun h => (by cases h)⟩
  · rfl
  · rfl
set_option maxRecDepth 100000 in
theorem ck_186 : chkM MT lw_tbl kNsl kSts kCl MI_186 = true := by decide +kernel
set_option maxRecDepth 100000 in
theorem cw_186 : CW lw_tbl MI_186 := by
  refine ⟨fun _ => List.mem_filter.mpr ⟨List.mem_of_getElem? (i := 1099) ?_, ?_⟩, fun h => (by cases h)⟩
  · rfl
  · rfl
set_option maxRecDepth 100000 in
theorem ck_187 : chkM MT lw_tbl kNsl kSts kCl MI_187 = true := by decide +kernel
set_option maxRecDepth 100000 in
theorem cw_187 : CW lw_tbl MI_187 := by
  refine ⟨fun _ => List.mem_filter.mpr ⟨List.mem_of_getElem? (i := 1095) ?_, ?_⟩, fun h => (by cases h)⟩
  · rfl
  · rfl
set_option maxRecDepth 100000 in
theorem ck_188 : chkM MT lw_tbl kNsl kSts kCl MI_188 = true := by decide +kernel
set_option maxRecDepth 100000 in
theorem cw_188 : CW lw_tbl MI_188 := by
  refine ⟨fun _ => List.mem_filter.mpr ⟨List.mem_of_getElem? (i := 1110) ?_, ?_⟩, fun h => (by cases h)⟩
  · rfl
  · rfl
set_option maxRecDepth 100000 in
theorem ck_189 : chkM MT lw_tbl kNsl kSts kCl MI_189 = true := by decide +kernel
set_option maxRecDepth 100000 in
theorem cw_189 : CW lw_tbl MI_189 := by
  refine ⟨fun _ => List.mem_filter.mpr ⟨List.mem_of_getElem? (i := 1089) ?_, ?_⟩, fun h => (by cases h)⟩
  · rfl
  · rfl
set_option maxRecDepth 100000 in
theorem ck_190 : chkM MT lw_tbl kNsl kSts kCl MI_190 = true := by decide +kernel
set_option maxRecDepth 100000 in
theorem cw_190 : CW lw_tbl MI_190 := by
  refine ⟨fun _ => List.mem_filter.mpr ⟨List.mem_of_getElem? (i := 1085) ?_, ?_⟩, fun h => (by cases h)⟩
  · rfl
  · rfl
set_option maxRecDepth 100000 in
theorem ck_191 : chkM MT lw_tbl kNsl kSts kCl MI_191 = true := by decide +kernel
set_option maxRecDepth 100000 in
theorem cw_191 : CW lw_tbl MI_191 := by
  refine ⟨fun h => (by rcases h with h | h <;> cases h), fun _ => List.mem_filter.mpr ⟨List.mem_of_getElem? (i := 1081) ?_, ?_⟩⟩
  · rfl
  · rfl
