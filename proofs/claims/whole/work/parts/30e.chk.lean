/-! ===== each method's table is its bytecode, and its words are the tables' ===== -/
set_option maxRecDepth 100000 in
theorem ck_192 : chkM MT lw_tbl kNsl kSts kCl MI_192 = true := by decide +kernel
set_option maxRecDepth 100000 in
theorem cw_192 : CW lw_tbl MI_192 := by
  refine ⟨fun _ => List.mem_filter.mpr ⟨List.mem_of_getElem? (i := 1852) ?_, ?_⟩, fun h => (by cases h)⟩
  · rfl
  · rfl
set_option maxRecDepth 100000 in
theorem ck_193 : chkM MT lw_tbl kNsl kSts kCl MI_193 = true := by decide +kernel
set_option maxRecDepth 100000 in
theorem cw_193 : CW lw_tbl MI_193 := by
  refine ⟨fun _ => List.mem_filter.mpr ⟨List.mem_of_getElem? (i := 1848) ?_, ?_⟩, fun h => (by cases h)⟩
  · rfl
  · rfl
set_option maxRecDepth 100000 in
theorem ck_194 : chkM MT lw_tbl kNsl kSts kCl MI_194 = true := by decide +kernel
set_option maxRecDepth 100000 in
theorem cw_194 : CW lw_tbl MI_194 := by
  refine ⟨fun _ => List.mem_filter.mpr ⟨List.mem_of_getElem? (i := 1843) ?_, ?_⟩, fun h => (by cases h)⟩
  · rfl
  · rfl
set_option maxRecDepth 100000 in
theorem ck_195 : chkM MT lw_tbl kNsl kSts kCl MI_195 = true := by decide +kernel
set_option maxRecDepth 100000 in
theorem cw_195 : CW lw_tbl MI_195 := by
  refine ⟨fun _ => List.mem_filter.mpr ⟨List.mem_of_getElem? (i := 1120) ?_, ?_⟩, fun h => (by cases h)⟩
  · rfl
  · rfl
set_option maxRecDepth 100000 in
theorem ck_196 : chkM MT lw_tbl kNsl kSts kCl MI_196 = true := by decide +kernel
set_option maxRecDepth 100000 in
theorem cw_196 : CW lw_tbl MI_196 := by
  refine ⟨fun _ => List.mem_filter.mpr ⟨List.mem_of_getElem? (i := 1129) ?_, ?_⟩, fun h => (by cases h)⟩
  · rfl
  · rfl
set_option maxRecDepth 100000 in
theorem ck_197 : chkM MT lw_tbl kNsl kSts kCl MI_197 = true := by decide +kernel
set_option maxRecDepth 100000 in
theorem cw_197 : CW lw_tbl MI_197 := by
  refine ⟨fun _ => List.mem_filter.mpr ⟨List.mem_of_getElem? (i := 1125) ?_, ?_⟩, fun h => (by cases h)⟩
  · rfl
  · rfl
set_option maxRecDepth 100000 in
theorem ck_198 : chkM MT lw_tbl kNsl kSts kCl MI_198 = true := by decide +kernel
set_option maxRecDepth 100000 in
theorem cw_198 : CW lw_tbl MI_198 := by
  refine ⟨fun _ => List.mem_filter.mpr ⟨List.mem_of_getElem? (i := 1133) ?_, ?_⟩, fun h => (by cases h)⟩
  · rfl
  · rfl
set_option maxRecDepth 100000 in
theorem ck_199 : chkM MT lw_tbl kNsl kSts kCl MI_199 = true := by decide +kernel
set_option maxRecDepth 100000 in
theorem cw_199 : CW lw_tbl MI_199 := by
  refine ⟨fun _ => List.mem_filter.mpr ⟨List.mem_of_getElem? (i := 1137) ?_, ?_⟩, fun h => (by cases h)⟩
  · rfl
  · rfl
set_option maxRecDepth 100000 in
theorem ck_200 : chkM MT lw_tbl kNsl kSts kCl MI_200 = true := by decide +kernel
set_option maxRecDepth 100000 in
theorem cw_200 : CW lw_tbl MI_200 := by
  refine ⟨fun _ => List.mem_filter.mpr ⟨List.mem_of_getElem? (i := 1142) ?_, ?_⟩, fun h => (by cases h)⟩
  · rfl
  · rfl
set_option maxRecDepth 100000 in
theorem ck_201 : chkM MT lw_tbl kNsl kSts kCl MI_201 = true := by decide +kernel
set_option maxRecDepth 100000 in
theorem cw_201 : CW lw_tbl MI_201 := by
  refine ⟨fun _ => List.mem_filter.mpr ⟨List.mem_of_getElem? (i := 1117) ?_, ?_⟩, fun h => (by cases h)⟩
  · rfl
  · rfl
set_option maxRecDepth 100000 in
theorem ck_202 : chkM MT lw_tbl kNsl kSts kCl MI_202 = true := by decide +kernel
set_option maxRecDepth 100000 in
theorem cw_202 : CW lw_tbl MI_202 := by
  refine ⟨fun h => (by rcases h with h | h <;> cases h), fun _ => List.mem_filter.mpr ⟨List.mem_of_getElem? (i := 1113) ?_, ?_⟩⟩
  · rfl
  · rfl
set_option maxRecDepth 100000 in
theorem ck_203 : chkM MT lw_tbl kNsl kSts kCl MI_203 = true := by decide +kernel
set_option maxRecDepth 100000 in
theorem cw_203 : CW lw_tbl MI_203 := by
  refine ⟨fun _ => List.mem_filter.mpr ⟨List.mem_of_getElem? (i := 1859) ?_, ?_⟩, fun h => (by cases h)⟩
  · rfl
  · rfl
set_option maxRecDepth 100000 in
theorem ck_204 : chkM MT lw_tbl kNsl kSts kCl MI_204 = true := by decide +kernel
set_option maxRecDepth 100000 in
theorem cw_204 : CW lw_tbl MI_204 := by
  refine ⟨fun _ => List.mem_filter.mpr ⟨List.mem_of_getElem? (i := 1864) ?_, ?_⟩, fun h => (by cases h)⟩
  · rfl
  · rfl
set_option maxRecDepth 100000 in
theorem ck_205 : chkM MT lw_tbl kNsl kSts kCl MI_205 = true := by decide +kernel
set_option maxRecDepth 100000 in
theorem cw_205 : CW lw_tbl MI_205 := by
  refine ⟨fun _ => List.mem_filter.mpr ⟨List.mem_of_getElem? (i := 1856) ?_, ?_⟩, fun h => (by cases h)⟩
  · rfl
  · rfl
set_option maxRecDepth 100000 in
theorem ck_206 : chkM MT lw_tbl kNsl kSts kCl MI_206 = true := by decide +kernel
set_option maxRecDepth 100000 in
theorem cw_206 : CW lw_tbl MI_206 := by
  refine ⟨fun _ => List.mem_filter.mpr ⟨List.mem_of_getElem? (i := 1153) ?_, ?_⟩, fun h => (by cases h)⟩
  · rfl
  · rfl
set_option maxRecDepth 100000 in
theorem ck_207 : chkM MT lw_tbl kNsl kSts kCl MI_207 = true := by decide +kernel
set_option maxRecDepth 100000 in
theorem cw_207 : CW lw_tbl MI_207 := by
  refine ⟨fun _ => List.mem_filter.mpr ⟨List.mem_of_getElem? (i := 1159) ?_, ?_⟩, fun h => (by cases h)⟩
  · rfl
  · rfl
set_option maxRecDepth 100000 in
theorem ck_208 : chkM MT lw_tbl kNsl kSts kCl MI_208 = true := by decide +kernel
set_option maxRecDepth 100000 in
theorem cw_208 : CW lw_tbl MI_208 := by
  refine ⟨fun _ => List.mem_filter.mpr ⟨List.mem_of_getElem? (i := 1164) ?_, ?_⟩, fun h => (by cases h)⟩
  · rfl
  · rfl
set_option maxRecDepth 100000 in
theorem ck_209 : chkM MT lw_tbl kNsl kSts kCl MI_209 = true := by decide +kernel
set_option maxRecDepth 100000 in
theorem cw_209 : CW lw_tbl MI_209 := by
  refine ⟨fun _ => List.mem_filter.mpr ⟨List.mem_of_getElem? (i := 1149) ?_, ?_⟩, fun h => (by cases h)⟩
  · rfl
  · rfl
set_option maxRecDepth 100000 in
theorem ck_210 : chkM MT lw_tbl kNsl kSts kCl MI_210 = true := by decide +kernel
set_option maxRecDepth 100000 in
theorem cw_210 : CW lw_tbl MI_210 := by
  refine ⟨fun h => (by rcases h with h | h <;> cases h), fun _ => List.mem_filter.mpr ⟨List.mem_of_getElem? (i := 1145) ?_, ?_⟩⟩
  · rfl
  · rfl
set_option maxRecDepth 100000 in
theorem ck_211 : chkM MT lw_tbl kNsl kSts kCl MI_211 = true := by decide +kernel
set_option maxRecDepth 100000 in
theorem cw_211 : CW lw_tbl MI_211 := by
  refine ⟨fun _ => List.mem_filter.mpr ⟨List.mem_of_getElem? (i := 1868) ?_, ?_⟩, fun h => (by cases h)⟩
  · rfl
  · rfl
set_option maxRecDepth 100000 in
theorem ck_212 : chkM MT lw_tbl kNsl kSts kCl MI_212 = true := by decide +kernel
set_option maxRecDepth 100000 in
theorem cw_212 : CW lw_tbl MI_212 := by
  refine ⟨fun _ => List.mem_filter.mpr ⟨List.mem_of_getElem? (i := 1179) ?_, ?_⟩, fun h => (by cases h)⟩
  · rfl
  · rfl
set_option maxRecDepth 100000 in
theorem ck_213 : chkM MT lw_tbl kNsl kSts kCl MI_213 = true := by decide +kernel
set_option maxRecDepth 100000 in
theorem cw_213 : CW lw_tbl MI_213 := by
  refine ⟨fun _ => List.mem_filter.mpr ⟨List.mem_of_getElem? (i := 1175) ?_, ?_⟩, fun h => (by cases h)⟩
  · rfl
  · rfl
set_option maxRecDepth 100000 in
theorem ck_214 : chkM MT lw_tbl kNsl kSts kCl MI_214 = true := by decide +kernel
set_option maxRecDepth 100000 in
theorem cw_214 : CW lw_tbl MI_214 := by
  refine ⟨fun _ => List.mem_filter.mpr ⟨List.mem_of_getElem? (i := 1171) ?_, ?_⟩, fun h => (by cases h)⟩
  · rfl
  · rfl
set_option maxRecDepth 100000 in
theorem ck_215 : chkM MT lw_tbl kNsl kSts kCl MI_215 = true := by decide +kernel
set_option maxRecDepth 100000 in
theorem cw_215 : CW lw_tbl MI_215 := by
  refine ⟨fun h => (by rcases h with h | h <;> cases h), fun _ => List.mem_filter.mpr ⟨List.mem_of_getElem? (i := 1167) ?_, ?_⟩⟩
  · rfl
  · rfl
set_option maxRecDepth 100000 in
theorem ck_216 : chkM MT lw_tbl kNsl kSts kCl MI_216 = true := by decide +kernel
set_option maxRecDepth 100000 in
theorem cw_216 : CW lw_tbl MI_216 := by
  refine ⟨fun _ => List.mem_filter.mpr ⟨List.mem_of_getElem? (i := 1876) ?_, ?_⟩, fun h => (by cases h)⟩
  · rfl
  · rfl
set_option maxRecDepth 100000 in
theorem ck_217 : chkM MT lw_tbl kNsl kSts kCl MI_217 = true := by decide +kernel
set_option maxRecDepth 100000 in
theorem cw_217 : CW lw_tbl MI_217 := by
  refine ⟨fun _ => List.mem_filter.mpr ⟨List.mem_of_getElem? (i := 1872) ?_, ?_⟩, fun h => (by cases h)⟩
  · rfl
  · rfl
set_option maxRecDepth 100000 in
theorem ck_218 : chkM MT lw_tbl kNsl kSts kCl MI_218 = true := by decide +kernel
set_option maxRecDepth 100000 in
theorem cw_218 : CW lw_tbl MI_218 := by
  refine ⟨fun _ => List.mem_filter.mpr ⟨List.mem_of_getElem? (i := 1194) ?_, ?_⟩, fun h => (by cases h)⟩
  · rfl
  · rfl
set_option maxRecDepth 100000 in
theorem ck_219 : chkM MT lw_tbl kNsl kSts kCl MI_219 = true := by decide +kernel
set_option maxRecDepth 100000 in
theorem cw_219 : CW lw_tbl MI_219 := by
  refine ⟨fun _ => List.mem_filter.mpr ⟨List.mem_of_getElem? (i := 1191) ?_, ?_⟩, fun h => (by cases h)⟩
  · rfl
  · rfl
set_option maxRecDepth 100000 in
theorem ck_220 : chkM MT lw_tbl kNsl kSts kCl MI_220 = true := by decide +kernel
set_option maxRecDepth 100000 in
theorem cw_220 : CW lw_tbl MI_220 := by
  refine ⟨fun _ => List.mem_filter.mpr ⟨List.mem_of_getElem? (i := 1188) ?_, ?_⟩, fun h => (by cases h)⟩
  · rfl
  · rfl
set_option maxRecDepth 100000 in
theorem ck_221 : chkM MT lw_tbl kNsl kSts kCl MI_221 = true := by decide +kernel
set_option maxRecDepth 100000 in
theorem cw_221 : CW lw_tbl MI_221 := by
  refine ⟨fun h => (by rcases h with h | h <;> cases h), fun _ => List.mem_filter.mpr ⟨List.mem_of_getElem? (i := 1184) ?_, ?_⟩⟩
  · rfl
  · rfl
set_option maxRecDepth 100000 in
theorem ck_222 : chkM MT lw_tbl kNsl kSts kCl MI_222 = true := by decide +kernel
set_option maxRecDepth 100000 in
theorem cw_222 : CW lw_tbl MI_222 := by
  refine ⟨fun _ => List.mem_filter.mpr ⟨List.mem_of_getElem? (i := 1880) ?_, ?_⟩, fun h => (by cases h)⟩
  · rfl
  · rfl
set_option maxRecDepth 100000 in
theorem ck_223 : chkM MT lw_tbl kNsl kSts kCl MI_223 = true := by decide +kernel
set_option maxRecDepth 100000 in
theorem cw_223 : CW lw_tbl MI_223 := by
  refine ⟨fun _ => List.mem_filter.mpr ⟨List.mem_of_getElem? (i := 1201) ?_, ?_⟩, fun h => (by cases h)⟩
  · rfl
  · rfl
set_option maxRecDepth 100000 in
theorem ck_224 : chkM MT lw_tbl kNsl kSts kCl MI_224 = true := by decide +kernel
set_option maxRecDepth 100000 in
theorem cw_224 : CW lw_tbl MI_224 := by
  refine ⟨fun h => (by rcases h with h | h <;> cases h), fun _ => List.mem_filter.mpr ⟨List.mem_of_getElem? (i := 1197) ?_, ?_⟩⟩
  · rfl
  · rfl
set_option maxRecDepth 100000 in
theorem ck_225 : chkM MT lw_tbl kNsl kSts kCl MI_225 = true := by decide +kernel
set_option maxRecDepth 100000 in
theorem cw_225 : CW lw_tbl MI_225 := by
  refine ⟨fun _ => List.mem_filter.mpr ⟨List.mem_of_getElem? (i := 1888) ?_, ?_⟩, fun h => (by cases h)⟩
  · rfl
  · rfl
set_option maxRecDepth 100000 in
theorem ck_226 : chkM MT lw_tbl kNsl kSts kCl MI_226 = true := by decide +kernel
set_option maxRecDepth 100000 in
theorem cw_226 : CW lw_tbl MI_226 := by
  refine ⟨fun _ => List.mem_filter.mpr ⟨List.mem_of_getElem? (i := 1884) ?_, ?_⟩, fun h => (by cases h)⟩
  · rfl
  · rfl
set_option maxRecDepth 100000 in
theorem ck_227 : chkM MT lw_tbl kNsl kSts kCl MI_227 = true := by decide +kernel
set_option maxRecDepth 100000 in
theorem cw_227 : CW lw_tbl MI_227 := by
  refine ⟨fun _ => List.mem_filter.mpr ⟨List.mem_of_getElem? (i := 1212) ?_, ?_⟩, fun h => (by cases h)⟩
  · rfl
  · rfl
set_option maxRecDepth 100000 in
theorem ck_228 : chkM MT lw_tbl kNsl kSts kCl MI_228 = true := by decide +kernel
set_option maxRecDepth 100000 in
theorem cw_228 : CW lw_tbl MI_228 := by
  refine ⟨fun _ => List.mem_filter.mpr ⟨List.mem_of_getElem? (i := 1227) ?_, ?_⟩, fun h => (by cases h)⟩
  · rfl
  · rfl
set_option maxRecDepth 100000 in
theorem ck_229 : chkM MT lw_tbl kNsl kSts kCl MI_229 = true := by decide +kernel
set_option maxRecDepth 100000 in
theorem cw_229 : CW lw_tbl MI_229 := by
  refine ⟨fun _ => List.mem_filter.mpr ⟨List.mem_of_getElem? (i := 1223) ?_, ?_⟩, fun h => (by cases h)⟩
  · rfl
  · rfl
set_option maxRecDepth 100000 in
theorem ck_230 : chkM MT lw_tbl kNsl kSts kCl MI_230 = true := by decide +kernel
set_option maxRecDepth 100000 in
theorem cw_230 : CW lw_tbl MI_230 := by
  refine ⟨fun _ => List.mem_filter.mpr ⟨List.mem_of_getElem? (i := 1217) ?_, ?_⟩, fun h => (by cases h)⟩
  · rfl
  · rfl
set_option maxRecDepth 100000 in
theorem ck_231 : chkM MT lw_tbl kNsl kSts kCl MI_231 = true := by decide +kernel
set_option maxRecDepth 100000 in
theorem cw_231 : CW lw_tbl MI_231 := by
  refine ⟨fun _ => List.mem_filter.mpr ⟨List.mem_of_getElem? (i := 1209) ?_, ?_⟩, fun h => (by cases h)⟩
  · rfl
  · rfl
set_option maxRecDepth 100000 in
theorem ck_232 : chkM MT lw_tbl kNsl kSts kCl MI_232 = true := by decide +kernel
set_option maxRecDepth 100000 in
theorem cw_232 : CW lw_tbl MI_232 := by
  refine ⟨fun h => (by rcases h with h | h <;> cases h), fun _ => List.mem_filter.mpr ⟨List.mem_of_getElem? (i := 1205) ?_, ?_⟩⟩
  · rfl
  · rfl
set_option maxRecDepth 100000 in
theorem ck_233 : chkM MT lw_tbl kNsl kSts kCl MI_233 = true := by decide +kernel
set_option maxRecDepth 100000 in
theorem cw_233 : CW lw_tbl MI_233 := by
  refine ⟨fun _ => List.mem_filter.mpr ⟨List.mem_of_getElem? (i := 1895) ?_, ?_⟩, fun h => (by cases h)⟩
  · rfl
  · rfl
set_option maxRecDepth 100000 in
theorem ck_234 : chkM MT lw_tbl kNsl kSts kCl MI_234 = true := by decide +kernel
set_option maxRecDepth 100000 in
theorem cw_234 : CW lw_tbl MI_234 := by
  refine ⟨fun _ => List.mem_filter.mpr ⟨List.mem_of_getElem? (i := 1901) ?_, ?_⟩, fun h => (by cases h)⟩
  · rfl
  · rfl
set_option maxRecDepth 100000 in
theorem ck_235 : chkM MT lw_tbl kNsl kSts kCl MI_235 = true := by decide +kernel
set_option maxRecDepth 100000 in
theorem cw_235 : CW lw_tbl MI_235 := by
  refine ⟨fun _ => List.mem_filter.mpr ⟨List.mem_of_getElem? (i := 1906) ?_, ?_⟩, fun h => (by cases h)⟩
  · rfl
  · rfl
set_option maxRecDepth 100000 in
theorem ck_236 : chkM MT lw_tbl kNsl kSts kCl MI_236 = true := by decide +kernel
set_option maxRecDepth 100000 in
theorem cw_236 : CW lw_tbl MI_236 := by
  refine ⟨fun _ => List.mem_filter.mpr ⟨List.mem_of_getElem? (i := 1892) ?_, ?_⟩, fun h => (by cases h)⟩
  · rfl
  · rfl
set_option maxRecDepth 100000 in
theorem ck_237 : chkM MT lw_tbl kNsl kSts kCl MI_237 = true := by decide +kernel
set_option maxRecDepth 100000 in
theorem cw_237 : CW lw_tbl MI_237 := by
  refine ⟨fun _ => List.mem_filter.mpr ⟨List.mem_of_getElem? (i := 1238) ?_, ?_⟩, fun h => (by cases h)⟩
  · rfl
  · rfl
set_option maxRecDepth 100000 in
theorem ck_238 : chkM MT lw_tbl kNsl kSts kCl MI_238 = true := by decide +kernel
set_option maxRecDepth 100000 in
theorem cw_238 : CW lw_tbl MI_238 := by
  refine ⟨fun _ => List.mem_filter.mpr ⟨List.mem_of_getElem? (i := 1243) ?_, ?_⟩, fun h => (by cases h)⟩
  · rfl
  · rfl
set_option maxRecDepth 100000 in
theorem ck_239 : chkM MT lw_tbl kNsl kSts kCl MI_239 = true := by decide +kernel
set_option maxRecDepth 100000 in
theorem cw_239 : CW lw_tbl MI_239 := by
  refine ⟨fun _ => List.mem_filter.mpr ⟨List.mem_of_getElem? (i := 1235) ?_, ?_⟩, fun h => (by cases h)⟩
  · rfl
  · rfl
