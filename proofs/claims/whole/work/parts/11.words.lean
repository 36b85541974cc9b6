/-! words of the tables, by their places -/
theorem sw_26 : (.instanceMethod ⟨"StuckLines$Circuit", "<init>", "()V"⟩ : Cond) ∈ sk_ts := sk_in (List.mem_of_getElem? (i := 26) (by decide +kernel)) rfl
theorem sw_2 : (.initialized "StuckLines$Circuit" : Cond) ∈ sk_ts := sk_in (List.mem_of_getElem? (i := 2) (by decide +kernel)) rfl
theorem sw_27 : (.code ⟨"StuckLines$Circuit", "<init>", "()V"⟩ prog_2_method_1_code 1 none : Cond) ∈ sk_ts := sk_in (List.mem_of_getElem? (i := 27) (by decide +kernel)) rfl
theorem sw_98 : (.methodLink "StuckLines" 18 ⟨"StuckLines$Signals", "<init>", "(LStuckLines$Circuit;)V"⟩ : Cond) ∈ sk_ts := sk_in (List.mem_of_getElem? (i := 98) (by decide +kernel)) rfl
theorem sw_99 : (.instanceMethod ⟨"StuckLines$Signals", "<init>", "(LStuckLines$Circuit;)V"⟩ : Cond) ∈ sk_ts := sk_in (List.mem_of_getElem? (i := 99) (by decide +kernel)) rfl
theorem sw_3 : (.initialized "StuckLines$Signals" : Cond) ∈ sk_ts := sk_in (List.mem_of_getElem? (i := 3) (by decide +kernel)) rfl
theorem sw_100 : (.code ⟨"StuckLines$Signals", "<init>", "(LStuckLines$Circuit;)V"⟩ prog_7_method_1_code 2 none : Cond) ∈ sk_ts := sk_in (List.mem_of_getElem? (i := 100) (by decide +kernel)) rfl
theorem sw_127 : (.methodLink "StuckLines" 27 ⟨"StuckLines$Responses", "<init>", "(LStuckLines$Circuit;)V"⟩ : Cond) ∈ sk_ts := sk_in (List.mem_of_getElem? (i := 127) (by decide +kernel)) rfl
theorem sw_128 : (.instanceMethod ⟨"StuckLines$Responses", "<init>", "(LStuckLines$Circuit;)V"⟩ : Cond) ∈ sk_ts := sk_in (List.mem_of_getElem? (i := 128) (by decide +kernel)) rfl
theorem sw_4 : (.initialized "StuckLines$Responses" : Cond) ∈ sk_ts := sk_in (List.mem_of_getElem? (i := 4) (by decide +kernel)) rfl
theorem sw_129 : (.code ⟨"StuckLines$Responses", "<init>", "(LStuckLines$Circuit;)V"⟩ prog_5_method_1_code 2 none : Cond) ∈ sk_ts := sk_in (List.mem_of_getElem? (i := 129) (by decide +kernel)) rfl
theorem sw_151 : (.methodLink "StuckLines" 34 ⟨"StuckLines$Cubes", "<init>", "(LStuckLines$Circuit;)V"⟩ : Cond) ∈ sk_ts := sk_in (List.mem_of_getElem? (i := 151) (by decide +kernel)) rfl
theorem sw_152 : (.instanceMethod ⟨"StuckLines$Cubes", "<init>", "(LStuckLines$Circuit;)V"⟩ : Cond) ∈ sk_ts := sk_in (List.mem_of_getElem? (i := 152) (by decide +kernel)) rfl
theorem sw_5 : (.initialized "StuckLines$Cubes" : Cond) ∈ sk_ts := sk_in (List.mem_of_getElem? (i := 5) (by decide +kernel)) rfl
theorem sw_153 : (.code ⟨"StuckLines$Cubes", "<init>", "(LStuckLines$Circuit;)V"⟩ prog_3_method_1_code 2 none : Cond) ∈ sk_ts := sk_in (List.mem_of_getElem? (i := 153) (by decide +kernel)) rfl
theorem sw_169 : (.methodLink "StuckLines" 41 ⟨"StuckLines$PackedSet", "<init>", "(LStuckLines$Circuit;LStuckLines$Responses;)V"⟩ : Cond) ∈ sk_ts := sk_in (List.mem_of_getElem? (i := 169) (by decide +kernel)) rfl
theorem sw_170 : (.instanceMethod ⟨"StuckLines$PackedSet", "<init>", "(LStuckLines$Circuit;LStuckLines$Responses;)V"⟩ : Cond) ∈ sk_ts := sk_in (List.mem_of_getElem? (i := 170) (by decide +kernel)) rfl
theorem sw_6 : (.initialized "StuckLines$PackedSet" : Cond) ∈ sk_ts := sk_in (List.mem_of_getElem? (i := 6) (by decide +kernel)) rfl
theorem sw_171 : (.code ⟨"StuckLines$PackedSet", "<init>", "(LStuckLines$Circuit;LStuckLines$Responses;)V"⟩ prog_4_method_1_code 3 none : Cond) ∈ sk_ts := sk_in (List.mem_of_getElem? (i := 171) (by decide +kernel)) rfl
theorem sw_194 : (.methodLink "StuckLines" 50 ⟨"StuckLines$SeenLog", "<init>", "(LStuckLines$Responses;)V"⟩ : Cond) ∈ sk_ts := sk_in (List.mem_of_getElem? (i := 194) (by decide +kernel)) rfl
theorem sw_195 : (.instanceMethod ⟨"StuckLines$SeenLog", "<init>", "(LStuckLines$Responses;)V"⟩ : Cond) ∈ sk_ts := sk_in (List.mem_of_getElem? (i := 195) (by decide +kernel)) rfl
theorem sw_7 : (.initialized "StuckLines$SeenLog" : Cond) ∈ sk_ts := sk_in (List.mem_of_getElem? (i := 7) (by decide +kernel)) rfl
theorem sw_196 : (.code ⟨"StuckLines$SeenLog", "<init>", "(LStuckLines$Responses;)V"⟩ prog_6_method_1_code 2 none : Cond) ∈ sk_ts := sk_in (List.mem_of_getElem? (i := 196) (by decide +kernel)) rfl
theorem sw_132 : (.methodLink "StuckLines$Responses" 28 ⟨"StuckLines$Signals", "<init>", "(LStuckLines$Circuit;)V"⟩ : Cond) ∈ sk_ts := sk_in (List.mem_of_getElem? (i := 132) (by decide +kernel)) rfl
theorem sw_156 : (.methodLink "StuckLines$Cubes" 17 ⟨"StuckLines$Signals", "<init>", "(LStuckLines$Circuit;)V"⟩ : Cond) ∈ sk_ts := sk_in (List.mem_of_getElem? (i := 156) (by decide +kernel)) rfl
theorem sw_235 : (.methodLink "StuckLines" 57 ⟨"StuckLines$Circuit", "removeAll", "()V"⟩ : Cond) ∈ sk_ts := sk_in (List.mem_of_getElem? (i := 235) (by decide +kernel)) rfl
theorem sw_236 : (.instanceMethod ⟨"StuckLines$Circuit", "removeAll", "()V"⟩ : Cond) ∈ sk_ts := sk_in (List.mem_of_getElem? (i := 236) (by decide +kernel)) rfl
theorem sw_237 : (.selects "StuckLines$Circuit" ⟨"StuckLines$Circuit", "removeAll", "()V"⟩ ⟨"StuckLines$Circuit", "removeAll", "()V"⟩ : Cond) ∈ sk_ts := sk_in (List.mem_of_getElem? (i := 237) (by decide +kernel)) rfl
theorem sw_238 : (.code ⟨"StuckLines$Circuit", "removeAll", "()V"⟩ prog_2_method_2_code 1 none : Cond) ∈ sk_ts := sk_in (List.mem_of_getElem? (i := 238) (by decide +kernel)) rfl
theorem sw_239 : (.methodLink "StuckLines" 60 ⟨"StuckLines$SeenLog", "removeAll", "()V"⟩ : Cond) ∈ sk_ts := sk_in (List.mem_of_getElem? (i := 239) (by decide +kernel)) rfl
theorem sw_240 : (.instanceMethod ⟨"StuckLines$SeenLog", "removeAll", "()V"⟩ : Cond) ∈ sk_ts := sk_in (List.mem_of_getElem? (i := 240) (by decide +kernel)) rfl
theorem sw_241 : (.selects "StuckLines$SeenLog" ⟨"StuckLines$SeenLog", "removeAll", "()V"⟩ ⟨"StuckLines$SeenLog", "removeAll", "()V"⟩ : Cond) ∈ sk_ts := sk_in (List.mem_of_getElem? (i := 241) (by decide +kernel)) rfl
theorem sw_242 : (.code ⟨"StuckLines$SeenLog", "removeAll", "()V"⟩ prog_6_method_3_code 1 none : Cond) ∈ sk_ts := sk_in (List.mem_of_getElem? (i := 242) (by decide +kernel)) rfl
theorem sw_247 : (.methodLink "StuckLines" 159 ⟨"StuckLines$Circuit", "hasLine", "(I)Z"⟩ : Cond) ∈ sk_ts := sk_in (List.mem_of_getElem? (i := 247) (by decide +kernel)) rfl
theorem sw_248 : (.instanceMethod ⟨"StuckLines$Circuit", "hasLine", "(I)Z"⟩ : Cond) ∈ sk_ts := sk_in (List.mem_of_getElem? (i := 248) (by decide +kernel)) rfl
theorem sw_249 : (.selects "StuckLines$Circuit" ⟨"StuckLines$Circuit", "hasLine", "(I)Z"⟩ ⟨"StuckLines$Circuit", "hasLine", "(I)Z"⟩ : Cond) ∈ sk_ts := sk_in (List.mem_of_getElem? (i := 249) (by decide +kernel)) rfl
theorem sw_250 : (.code ⟨"StuckLines$Circuit", "hasLine", "(I)Z"⟩ prog_2_method_12_code 2 (some .boolean) : Cond) ∈ sk_ts := sk_in (List.mem_of_getElem? (i := 250) (by decide +kernel)) rfl
theorem sw_251 : (.methodLink "StuckLines" 162 ⟨"StuckLines$Circuit", "pinsOf", "(I)I"⟩ : Cond) ∈ sk_ts := sk_in (List.mem_of_getElem? (i := 251) (by decide +kernel)) rfl
theorem sw_252 : (.instanceMethod ⟨"StuckLines$Circuit", "pinsOf", "(I)I"⟩ : Cond) ∈ sk_ts := sk_in (List.mem_of_getElem? (i := 252) (by decide +kernel)) rfl
theorem sw_253 : (.selects "StuckLines$Circuit" ⟨"StuckLines$Circuit", "pinsOf", "(I)I"⟩ ⟨"StuckLines$Circuit", "pinsOf", "(I)I"⟩ : Cond) ∈ sk_ts := sk_in (List.mem_of_getElem? (i := 253) (by decide +kernel)) rfl
theorem sw_254 : (.code ⟨"StuckLines$Circuit", "pinsOf", "(I)I"⟩ prog_2_method_13_code 2 (some .int) : Cond) ∈ sk_ts := sk_in (List.mem_of_getElem? (i := 254) (by decide +kernel)) rfl
theorem sw_259 : (.methodLink "StuckLines" 129 ⟨"StuckLines$Responses", "prepareAll", "()V"⟩ : Cond) ∈ sk_ts := sk_in (List.mem_of_getElem? (i := 259) (by decide +kernel)) rfl
theorem sw_260 : (.instanceMethod ⟨"StuckLines$Responses", "prepareAll", "()V"⟩ : Cond) ∈ sk_ts := sk_in (List.mem_of_getElem? (i := 260) (by decide +kernel)) rfl
theorem sw_261 : (.selects "StuckLines$Responses" ⟨"StuckLines$Responses", "prepareAll", "()V"⟩ ⟨"StuckLines$Responses", "prepareAll", "()V"⟩ : Cond) ∈ sk_ts := sk_in (List.mem_of_getElem? (i := 261) (by decide +kernel)) rfl
theorem sw_262 : (.code ⟨"StuckLines$Responses", "prepareAll", "()V"⟩ prog_5_method_2_code 2 none : Cond) ∈ sk_ts := sk_in (List.mem_of_getElem? (i := 262) (by decide +kernel)) rfl
theorem sw_303 : (.methodLink "StuckLines" 207 ⟨"StuckLines$PackedSet", "at", "(I)I"⟩ : Cond) ∈ sk_ts := sk_in (List.mem_of_getElem? (i := 303) (by decide +kernel)) rfl
theorem sw_304 : (.instanceMethod ⟨"StuckLines$PackedSet", "at", "(I)I"⟩ : Cond) ∈ sk_ts := sk_in (List.mem_of_getElem? (i := 304) (by decide +kernel)) rfl
theorem sw_305 : (.selects "StuckLines$PackedSet" ⟨"StuckLines$PackedSet", "at", "(I)I"⟩ ⟨"StuckLines$PackedSet", "at", "(I)I"⟩ : Cond) ∈ sk_ts := sk_in (List.mem_of_getElem? (i := 305) (by decide +kernel)) rfl
theorem sw_306 : (.code ⟨"StuckLines$PackedSet", "at", "(I)I"⟩ prog_4_method_2_code 2 (some .int) : Cond) ∈ sk_ts := sk_in (List.mem_of_getElem? (i := 306) (by decide +kernel)) rfl
theorem sw_263 : (.methodLink "StuckLines$Responses" 35 ⟨"StuckLines$Circuit", "faults", "()I"⟩ : Cond) ∈ sk_ts := sk_in (List.mem_of_getElem? (i := 263) (by decide +kernel)) rfl
theorem sw_264 : (.instanceMethod ⟨"StuckLines$Circuit", "faults", "()I"⟩ : Cond) ∈ sk_ts := sk_in (List.mem_of_getElem? (i := 264) (by decide +kernel)) rfl
theorem sw_265 : (.selects "StuckLines$Circuit" ⟨"StuckLines$Circuit", "faults", "()I"⟩ ⟨"StuckLines$Circuit", "faults", "()I"⟩ : Cond) ∈ sk_ts := sk_in (List.mem_of_getElem? (i := 265) (by decide +kernel)) rfl
theorem sw_266 : (.code ⟨"StuckLines$Circuit", "faults", "()I"⟩ prog_2_method_16_code 1 (some .int) : Cond) ∈ sk_ts := sk_in (List.mem_of_getElem? (i := 266) (by decide +kernel)) rfl
theorem sw_267 : (.methodLink "StuckLines$Responses" 41 ⟨"StuckLines$Responses", "workOut", "(I)V"⟩ : Cond) ∈ sk_ts := sk_in (List.mem_of_getElem? (i := 267) (by decide +kernel)) rfl
theorem sw_269 : (.instanceMethod ⟨"StuckLines$Responses", "workOut", "(I)V"⟩ : Cond) ∈ sk_ts := sk_in (List.mem_of_getElem? (i := 269) (by decide +kernel)) rfl
theorem sv_0 : (.selects "StuckLines$Responses" ⟨"StuckLines$Responses", "workOut", "(I)V"⟩ ⟨"StuckLines$Responses", "workOut", "(I)V"⟩ : Cond) ∈ sk_ts := sk_inp (q := (⟨"StuckLines$Responses", "workOut", "(I)V"⟩, 5)) (List.mem_of_getElem? (i := 0) (by decide +kernel)) rfl
theorem sw_270 : (.code ⟨"StuckLines$Responses", "workOut", "(I)V"⟩ prog_5_method_4_code 10 none : Cond) ∈ sk_ts := sk_in (List.mem_of_getElem? (i := 270) (by decide +kernel)) rfl
theorem sw_272 : (.methodLink "StuckLines$Responses" 51 ⟨"StuckLines$Circuit", "vectors", "()I"⟩ : Cond) ∈ sk_ts := sk_in (List.mem_of_getElem? (i := 272) (by decide +kernel)) rfl
theorem sw_273 : (.instanceMethod ⟨"StuckLines$Circuit", "vectors", "()I"⟩ : Cond) ∈ sk_ts := sk_in (List.mem_of_getElem? (i := 273) (by decide +kernel)) rfl
theorem sw_274 : (.selects "StuckLines$Circuit" ⟨"StuckLines$Circuit", "vectors", "()I"⟩ ⟨"StuckLines$Circuit", "vectors", "()I"⟩ : Cond) ∈ sk_ts := sk_in (List.mem_of_getElem? (i := 274) (by decide +kernel)) rfl
theorem sw_275 : (.code ⟨"StuckLines$Circuit", "vectors", "()I"⟩ prog_2_method_14_code 1 (some .int) : Cond) ∈ sk_ts := sk_in (List.mem_of_getElem? (i := 275) (by decide +kernel)) rfl
theorem sw_276 : (.methodLink "StuckLines$Responses" 54 ⟨"StuckLines$Signals", "settleVectors", "(I)V"⟩ : Cond) ∈ sk_ts := sk_in (List.mem_of_getElem? (i := 276) (by decide +kernel)) rfl
theorem sw_277 : (.instanceMethod ⟨"StuckLines$Signals", "settleVectors", "(I)V"⟩ : Cond) ∈ sk_ts := sk_in (List.mem_of_getElem? (i := 277) (by decide +kernel)) rfl
theorem sw_278 : (.selects "StuckLines$Signals" ⟨"StuckLines$Signals", "settleVectors", "(I)V"⟩ ⟨"StuckLines$Signals", "settleVectors", "(I)V"⟩ : Cond) ∈ sk_ts := sk_in (List.mem_of_getElem? (i := 278) (by decide +kernel)) rfl
theorem sw_279 : (.code ⟨"StuckLines$Signals", "settleVectors", "(I)V"⟩ prog_7_method_2_code 3 none : Cond) ∈ sk_ts := sk_in (List.mem_of_getElem? (i := 279) (by decide +kernel)) rfl
theorem sw_299 : (.methodLink "StuckLines$Responses" 63 ⟨"StuckLines$Signals", "onesOf", "(I)J"⟩ : Cond) ∈ sk_ts := sk_in (List.mem_of_getElem? (i := 299) (by decide +kernel)) rfl
theorem sw_300 : (.instanceMethod ⟨"StuckLines$Signals", "onesOf", "(I)J"⟩ : Cond) ∈ sk_ts := sk_in (List.mem_of_getElem? (i := 300) (by decide +kernel)) rfl
theorem sw_301 : (.selects "StuckLines$Signals" ⟨"StuckLines$Signals", "onesOf", "(I)J"⟩ ⟨"StuckLines$Signals", "onesOf", "(I)J"⟩ : Cond) ∈ sk_ts := sk_in (List.mem_of_getElem? (i := 301) (by decide +kernel)) rfl
theorem sw_302 : (.code ⟨"StuckLines$Signals", "onesOf", "(I)J"⟩ prog_7_method_7_code 2 (some .long) : Cond) ∈ sk_ts := sk_in (List.mem_of_getElem? (i := 302) (by decide +kernel)) rfl
theorem sw_283 : (.methodLink "StuckLines$Signals" 41 ⟨"StuckLines$Signals", "settle", "(I)V"⟩ : Cond) ∈ sk_ts := sk_in (List.mem_of_getElem? (i := 283) (by decide +kernel)) rfl
theorem sw_285 : (.instanceMethod ⟨"StuckLines$Signals", "settle", "(I)V"⟩ : Cond) ∈ sk_ts := sk_in (List.mem_of_getElem? (i := 285) (by decide +kernel)) rfl
theorem sv_1 : (.selects "StuckLines$Signals" ⟨"StuckLines$Signals", "settle", "(I)V"⟩ ⟨"StuckLines$Signals", "settle", "(I)V"⟩ : Cond) ∈ sk_ts := sk_inp (q := (⟨"StuckLines$Signals", "settle", "(I)V"⟩, 7)) (List.mem_of_getElem? (i := 1) (by decide +kernel)) rfl
theorem sw_286 : (.code ⟨"StuckLines$Signals", "settle", "(I)V"⟩ prog_7_method_4_code 4 none : Cond) ∈ sk_ts := sk_in (List.mem_of_getElem? (i := 286) (by decide +kernel)) rfl
theorem sw_287 : (.methodLink "StuckLines$Signals" 45 ⟨"StuckLines$Circuit", "stuckLine", "(I)I"⟩ : Cond) ∈ sk_ts := sk_in (List.mem_of_getElem? (i := 287) (by decide +kernel)) rfl
theorem sw_288 : (.instanceMethod ⟨"StuckLines$Circuit", "stuckLine", "(I)I"⟩ : Cond) ∈ sk_ts := sk_in (List.mem_of_getElem? (i := 288) (by decide +kernel)) rfl
theorem sw_289 : (.selects "StuckLines$Circuit" ⟨"StuckLines$Circuit", "stuckLine", "(I)I"⟩ ⟨"StuckLines$Circuit", "stuckLine", "(I)I"⟩ : Cond) ∈ sk_ts := sk_in (List.mem_of_getElem? (i := 289) (by decide +kernel)) rfl
theorem sw_290 : (.code ⟨"StuckLines$Circuit", "stuckLine", "(I)I"⟩ prog_2_method_17_code 3 (some .int) : Cond) ∈ sk_ts := sk_in (List.mem_of_getElem? (i := 290) (by decide +kernel)) rfl
theorem sw_291 : (.methodLink "StuckLines$Signals" 51 ⟨"StuckLines$Circuit", "stuckPin", "(I)I"⟩ : Cond) ∈ sk_ts := sk_in (List.mem_of_getElem? (i := 291) (by decide +kernel)) rfl
theorem sw_292 : (.instanceMethod ⟨"StuckLines$Circuit", "stuckPin", "(I)I"⟩ : Cond) ∈ sk_ts := sk_in (List.mem_of_getElem? (i := 292) (by decide +kernel)) rfl
theorem sw_293 : (.selects "StuckLines$Circuit" ⟨"StuckLines$Circuit", "stuckPin", "(I)I"⟩ ⟨"StuckLines$Circuit", "stuckPin", "(I)I"⟩ : Cond) ∈ sk_ts := sk_in (List.mem_of_getElem? (i := 293) (by decide +kernel)) rfl
theorem sw_294 : (.code ⟨"StuckLines$Circuit", "stuckPin", "(I)I"⟩ prog_2_method_18_code 3 (some .int) : Cond) ∈ sk_ts := sk_in (List.mem_of_getElem? (i := 294) (by decide +kernel)) rfl
theorem sw_295 : (.methodLink "StuckLines$Signals" 63 ⟨"StuckLines$Signals", "settleGate", "(I)V"⟩ : Cond) ∈ sk_ts := sk_in (List.mem_of_getElem? (i := 295) (by decide +kernel)) rfl
theorem sw_297 : (.instanceMethod ⟨"StuckLines$Signals", "settleGate", "(I)V"⟩ : Cond) ∈ sk_ts := sk_in (List.mem_of_getElem? (i := 297) (by decide +kernel)) rfl
theorem sv_2 : (.selects "StuckLines$Signals" ⟨"StuckLines$Signals", "settleGate", "(I)V"⟩ ⟨"StuckLines$Signals", "settleGate", "(I)V"⟩ : Cond) ∈ sk_ts := sk_inp (q := (⟨"StuckLines$Signals", "settleGate", "(I)V"⟩, 7)) (List.mem_of_getElem? (i := 2) (by decide +kernel)) rfl
theorem sw_298 : (.code ⟨"StuckLines$Signals", "settleGate", "(I)V"⟩ prog_7_method_5_code 16 none : Cond) ∈ sk_ts := sk_in (List.mem_of_getElem? (i := 298) (by decide +kernel)) rfl
theorem sw_307 : (.methodLink "StuckLines$PackedSet" 37 ⟨"StuckLines$PackedSet", "gather", "()V"⟩ : Cond) ∈ sk_ts := sk_in (List.mem_of_getElem? (i := 307) (by decide +kernel)) rfl
theorem sw_309 : (.instanceMethod ⟨"StuckLines$PackedSet", "gather", "()V"⟩ : Cond) ∈ sk_ts := sk_in (List.mem_of_getElem? (i := 309) (by decide +kernel)) rfl
theorem sv_3 : (.selects "StuckLines$PackedSet" ⟨"StuckLines$PackedSet", "gather", "()V"⟩ ⟨"StuckLines$PackedSet", "gather", "()V"⟩ : Cond) ∈ sk_ts := sk_inp (q := (⟨"StuckLines$PackedSet", "gather", "()V"⟩, 6)) (List.mem_of_getElem? (i := 3) (by decide +kernel)) rfl
theorem sw_310 : (.code ⟨"StuckLines$PackedSet", "gather", "()V"⟩ prog_4_method_3_code 3 none : Cond) ∈ sk_ts := sk_in (List.mem_of_getElem? (i := 310) (by decide +kernel)) rfl
theorem sw_321 : (.methodLink "StuckLines$PackedSet" 40 ⟨"StuckLines$PackedSet", "thinOut", "()V"⟩ : Cond) ∈ sk_ts := sk_in (List.mem_of_getElem? (i := 321) (by decide +kernel)) rfl
theorem sw_323 : (.instanceMethod ⟨"StuckLines$PackedSet", "thinOut", "()V"⟩ : Cond) ∈ sk_ts := sk_in (List.mem_of_getElem? (i := 323) (by decide +kernel)) rfl
theorem sv_4 : (.selects "StuckLines$PackedSet" ⟨"StuckLines$PackedSet", "thinOut", "()V"⟩ ⟨"StuckLines$PackedSet", "thinOut", "()V"⟩ : Cond) ∈ sk_ts := sk_inp (q := (⟨"StuckLines$PackedSet", "thinOut", "()V"⟩, 6)) (List.mem_of_getElem? (i := 4) (by decide +kernel)) rfl
theorem sw_324 : (.code ⟨"StuckLines$PackedSet", "thinOut", "()V"⟩ prog_4_method_4_code 4 none : Cond) ∈ sk_ts := sk_in (List.mem_of_getElem? (i := 324) (by decide +kernel)) rfl
theorem sw_330 : (.methodLink "StuckLines$PackedSet" 43 ⟨"StuckLines$PackedSet", "dropTheLeftOut", "()V"⟩ : Cond) ∈ sk_ts := sk_in (List.mem_of_getElem? (i := 330) (by decide +kernel)) rfl
theorem sw_332 : (.instanceMethod ⟨"StuckLines$PackedSet", "dropTheLeftOut", "()V"⟩ : Cond) ∈ sk_ts := sk_in (List.mem_of_getElem? (i := 332) (by decide +kernel)) rfl
theorem sv_6 : (.selects "StuckLines$PackedSet" ⟨"StuckLines$PackedSet", "dropTheLeftOut", "()V"⟩ ⟨"StuckLines$PackedSet", "dropTheLeftOut", "()V"⟩ : Cond) ∈ sk_ts := sk_inp (q := (⟨"StuckLines$PackedSet", "dropTheLeftOut", "()V"⟩, 6)) (List.mem_of_getElem? (i := 6) (by decide +kernel)) rfl
theorem sw_333 : (.code ⟨"StuckLines$PackedSet", "dropTheLeftOut", "()V"⟩ prog_4_method_6_code 3 none : Cond) ∈ sk_ts := sk_in (List.mem_of_getElem? (i := 333) (by decide +kernel)) rfl
theorem sw_311 : (.methodLink "StuckLines$PackedSet" 46 ⟨"StuckLines$Circuit", "faults", "()I"⟩ : Cond) ∈ sk_ts := sk_in (List.mem_of_getElem? (i := 311) (by decide +kernel)) rfl
theorem sw_312 : (.methodLink "StuckLines$PackedSet" 50 ⟨"StuckLines$Responses", "firstShowing", "(I)I"⟩ : Cond) ∈ sk_ts := sk_in (List.mem_of_getElem? (i := 312) (by decide +kernel)) rfl
theorem sw_313 : (.instanceMethod ⟨"StuckLines$Responses", "firstShowing", "(I)I"⟩ : Cond) ∈ sk_ts := sk_in (List.mem_of_getElem? (i := 313) (by decide +kernel)) rfl
theorem sw_314 : (.selects "StuckLines$Responses" ⟨"StuckLines$Responses", "firstShowing", "(I)I"⟩ ⟨"StuckLines$Responses", "firstShowing", "(I)I"⟩ : Cond) ∈ sk_ts := sk_in (List.mem_of_getElem? (i := 314) (by decide +kernel)) rfl
theorem sw_315 : (.code ⟨"StuckLines$Responses", "firstShowing", "(I)I"⟩ prog_5_method_7_code 5 (some .int) : Cond) ∈ sk_ts := sk_in (List.mem_of_getElem? (i := 315) (by decide +kernel)) rfl
theorem sw_320 : (.methodLink "StuckLines$PackedSet" 56 ⟨"StuckLines$Responses", "vectorsShowing", "(I)J"⟩ : Cond) ∈ sk_ts := sk_in (List.mem_of_getElem? (i := 320) (by decide +kernel)) rfl
theorem sw_317 : (.instanceMethod ⟨"StuckLines$Responses", "vectorsShowing", "(I)J"⟩ : Cond) ∈ sk_ts := sk_in (List.mem_of_getElem? (i := 317) (by decide +kernel)) rfl
theorem sw_318 : (.selects "StuckLines$Responses" ⟨"StuckLines$Responses", "vectorsShowing", "(I)J"⟩ ⟨"StuckLines$Responses", "vectorsShowing", "(I)J"⟩ : Cond) ∈ sk_ts := sk_in (List.mem_of_getElem? (i := 318) (by decide +kernel)) rfl
theorem sw_319 : (.code ⟨"StuckLines$Responses", "vectorsShowing", "(I)J"⟩ prog_5_method_6_code 2 (some .long) : Cond) ∈ sk_ts := sk_in (List.mem_of_getElem? (i := 319) (by decide +kernel)) rfl
theorem sw_316 : (.methodLink "StuckLines$Responses" 67 ⟨"StuckLines$Responses", "vectorsShowing", "(I)J"⟩ : Cond) ∈ sk_ts := sk_in (List.mem_of_getElem? (i := 316) (by decide +kernel)) rfl
theorem sw_326 : (.methodLink "StuckLines$PackedSet" 62 ⟨"StuckLines$PackedSet", "showAll", "(J)Z"⟩ : Cond) ∈ sk_ts := sk_in (List.mem_of_getElem? (i := 326) (by decide +kernel)) rfl
theorem sw_328 : (.instanceMethod ⟨"StuckLines$PackedSet", "showAll", "(J)Z"⟩ : Cond) ∈ sk_ts := sk_in (List.mem_of_getElem? (i := 328) (by decide +kernel)) rfl
theorem sv_5 : (.selects "StuckLines$PackedSet" ⟨"StuckLines$PackedSet", "showAll", "(J)Z"⟩ ⟨"StuckLines$PackedSet", "showAll", "(J)Z"⟩ : Cond) ∈ sk_ts := sk_inp (q := (⟨"StuckLines$PackedSet", "showAll", "(J)Z"⟩, 6)) (List.mem_of_getElem? (i := 5) (by decide +kernel)) rfl
theorem sw_329 : (.code ⟨"StuckLines$PackedSet", "showAll", "(J)Z"⟩ prog_4_method_5_code 6 (some .boolean) : Cond) ∈ sk_ts := sk_in (List.mem_of_getElem? (i := 329) (by decide +kernel)) rfl
theorem sw_342 : (.methodLink "StuckLines" 153 ⟨"StuckLines$Responses", "prepare", "(I)V"⟩ : Cond) ∈ sk_ts := sk_in (List.mem_of_getElem? (i := 342) (by decide +kernel)) rfl
theorem sw_343 : (.instanceMethod ⟨"StuckLines$Responses", "prepare", "(I)V"⟩ : Cond) ∈ sk_ts := sk_in (List.mem_of_getElem? (i := 343) (by decide +kernel)) rfl
theorem sw_344 : (.selects "StuckLines$Responses" ⟨"StuckLines$Responses", "prepare", "(I)V"⟩ ⟨"StuckLines$Responses", "prepare", "(I)V"⟩ : Cond) ∈ sk_ts := sk_in (List.mem_of_getElem? (i := 344) (by decide +kernel)) rfl
theorem sw_345 : (.code ⟨"StuckLines$Responses", "prepare", "(I)V"⟩ prog_5_method_3_code 2 none : Cond) ∈ sk_ts := sk_in (List.mem_of_getElem? (i := 345) (by decide +kernel)) rfl
theorem sw_346 : (.methodLink "StuckLines" 220 ⟨"StuckLines$SeenLog", "isExplainedBy", "(I)Z"⟩ : Cond) ∈ sk_ts := sk_in (List.mem_of_getElem? (i := 346) (by decide +kernel)) rfl
theorem sw_347 : (.instanceMethod ⟨"StuckLines$SeenLog", "isExplainedBy", "(I)Z"⟩ : Cond) ∈ sk_ts := sk_in (List.mem_of_getElem? (i := 347) (by decide +kernel)) rfl
theorem sw_348 : (.selects "StuckLines$SeenLog" ⟨"StuckLines$SeenLog", "isExplainedBy", "(I)Z"⟩ ⟨"StuckLines$SeenLog", "isExplainedBy", "(I)Z"⟩ : Cond) ∈ sk_ts := sk_in (List.mem_of_getElem? (i := 348) (by decide +kernel)) rfl
theorem sw_349 : (.code ⟨"StuckLines$SeenLog", "isExplainedBy", "(I)Z"⟩ prog_6_method_4_code 3 (some .boolean) : Cond) ∈ sk_ts := sk_in (List.mem_of_getElem? (i := 349) (by decide +kernel)) rfl
theorem sw_354 : (.methodLink "StuckLines" 125 ⟨"StuckLines$Circuit", "faults", "()I"⟩ : Cond) ∈ sk_ts := sk_in (List.mem_of_getElem? (i := 354) (by decide +kernel)) rfl
theorem sw_350 : (.methodLink "StuckLines$SeenLog" 26 ⟨"StuckLines$Responses", "to", "(II)I"⟩ : Cond) ∈ sk_ts := sk_in (List.mem_of_getElem? (i := 350) (by decide +kernel)) rfl
theorem sw_351 : (.instanceMethod ⟨"StuckLines$Responses", "to", "(II)I"⟩ : Cond) ∈ sk_ts := sk_in (List.mem_of_getElem? (i := 351) (by decide +kernel)) rfl
theorem sw_352 : (.selects "StuckLines$Responses" ⟨"StuckLines$Responses", "to", "(II)I"⟩ ⟨"StuckLines$Responses", "to", "(II)I"⟩ : Cond) ∈ sk_ts := sk_in (List.mem_of_getElem? (i := 352) (by decide +kernel)) rfl
theorem sw_353 : (.code ⟨"StuckLines$Responses", "to", "(II)I"⟩ prog_5_method_5_code 6 (some .int) : Cond) ∈ sk_ts := sk_in (List.mem_of_getElem? (i := 353) (by decide +kernel)) rfl
theorem sw_359 : (.methodLink "StuckLinesLaw" 7 ⟨"StuckLines", "source", "(Z)I"⟩ : Cond) ∈ sk_ts := sk_in (List.mem_of_getElem? (i := 359) (by decide +kernel)) rfl
theorem sw_360 : (.instanceMethod ⟨"StuckLines", "source", "(Z)I"⟩ : Cond) ∈ sk_ts := sk_in (List.mem_of_getElem? (i := 360) (by decide +kernel)) rfl
theorem sw_361 : (.selects "StuckLines" ⟨"StuckLines", "source", "(Z)I"⟩ ⟨"StuckLines", "source", "(Z)I"⟩ : Cond) ∈ sk_ts := sk_in (List.mem_of_getElem? (i := 361) (by decide +kernel)) rfl
theorem sw_1 : (.initialized "StuckLines" : Cond) ∈ sk_ts := sk_in (List.mem_of_getElem? (i := 1) (by decide +kernel)) rfl
theorem sw_362 : (.code ⟨"StuckLines", "source", "(Z)I"⟩ prog_1_method_3_code 2 (some .int) : Cond) ∈ sk_ts := sk_in (List.mem_of_getElem? (i := 362) (by decide +kernel)) rfl
theorem sw_431 : (.methodLink "StuckLines" 75 ⟨"StuckLines$Circuit", "addSource", "(Z)I"⟩ : Cond) ∈ sk_ts := sk_in (List.mem_of_getElem? (i := 431) (by decide +kernel)) rfl
theorem sw_432 : (.instanceMethod ⟨"StuckLines$Circuit", "addSource", "(Z)I"⟩ : Cond) ∈ sk_ts := sk_in (List.mem_of_getElem? (i := 432) (by decide +kernel)) rfl
theorem sw_433 : (.selects "StuckLines$Circuit" ⟨"StuckLines$Circuit", "addSource", "(Z)I"⟩ ⟨"StuckLines$Circuit", "addSource", "(Z)I"⟩ : Cond) ∈ sk_ts := sk_in (List.mem_of_getElem? (i := 433) (by decide +kernel)) rfl
theorem sw_434 : (.code ⟨"StuckLines$Circuit", "addSource", "(Z)I"⟩ prog_2_method_3_code 3 (some .int) : Cond) ∈ sk_ts := sk_in (List.mem_of_getElem? (i := 434) (by decide +kernel)) rfl
theorem sw_435 : (.methodLink "StuckLines$Circuit" 59 ⟨"StuckLines$Circuit", "addLine", "(I)I"⟩ : Cond) ∈ sk_ts := sk_in (List.mem_of_getElem? (i := 435) (by decide +kernel)) rfl
theorem sw_437 : (.instanceMethod ⟨"StuckLines$Circuit", "addLine", "(I)I"⟩ : Cond) ∈ sk_ts := sk_in (List.mem_of_getElem? (i := 437) (by decide +kernel)) rfl
theorem sv_8 : (.selects "StuckLines$Circuit" ⟨"StuckLines$Circuit", "addLine", "(I)I"⟩ ⟨"StuckLines$Circuit", "addLine", "(I)I"⟩ : Cond) ∈ sk_ts := sk_inp (q := (⟨"StuckLines$Circuit", "addLine", "(I)I"⟩, 15)) (List.mem_of_getElem? (i := 8) (by decide +kernel)) rfl
theorem sw_438 : (.code ⟨"StuckLines$Circuit", "addLine", "(I)I"⟩ prog_2_method_5_code 3 (some .int) : Cond) ∈ sk_ts := sk_in (List.mem_of_getElem? (i := 438) (by decide +kernel)) rfl
theorem sw_444 : (.methodLink "StuckLinesLaw" 15 ⟨"StuckLines", "gate", "(IIII)I"⟩ : Cond) ∈ sk_ts := sk_in (List.mem_of_getElem? (i := 444) (by decide +kernel)) rfl
theorem sw_445 : (.instanceMethod ⟨"StuckLines", "gate", "(IIII)I"⟩ : Cond) ∈ sk_ts := sk_in (List.mem_of_getElem? (i := 445) (by decide +kernel)) rfl
theorem sw_446 : (.selects "StuckLines" ⟨"StuckLines", "gate", "(IIII)I"⟩ ⟨"StuckLines", "gate", "(IIII)I"⟩ : Cond) ∈ sk_ts := sk_in (List.mem_of_getElem? (i := 446) (by decide +kernel)) rfl
theorem sw_447 : (.code ⟨"StuckLines", "gate", "(IIII)I"⟩ prog_1_method_4_code 5 (some .int) : Cond) ∈ sk_ts := sk_in (List.mem_of_getElem? (i := 447) (by decide +kernel)) rfl
theorem sw_465 : (.methodLink "StuckLines" 86 ⟨"StuckLines", "requireLine", "(I)V"⟩ : Cond) ∈ sk_ts := sk_in (List.mem_of_getElem? (i := 465) (by decide +kernel)) rfl
theorem sw_467 : (.instanceMethod ⟨"StuckLines", "requireLine", "(I)V"⟩ : Cond) ∈ sk_ts := sk_in (List.mem_of_getElem? (i := 467) (by decide +kernel)) rfl
theorem sv_9 : (.selects "StuckLines" ⟨"StuckLines", "requireLine", "(I)V"⟩ ⟨"StuckLines", "requireLine", "(I)V"⟩ : Cond) ∈ sk_ts := sk_inp (q := (⟨"StuckLines", "requireLine", "(I)V"⟩, 6)) (List.mem_of_getElem? (i := 9) (by decide +kernel)) rfl
theorem sw_468 : (.code ⟨"StuckLines", "requireLine", "(I)V"⟩ prog_1_method_21_code 2 none : Cond) ∈ sk_ts := sk_in (List.mem_of_getElem? (i := 468) (by decide +kernel)) rfl
theorem sw_485 : (.methodLink "StuckLines" 90 ⟨"StuckLines", "requireLineOrNone", "(I)V"⟩ : Cond) ∈ sk_ts := sk_in (List.mem_of_getElem? (i := 485) (by decide +kernel)) rfl
theorem sw_487 : (.instanceMethod ⟨"StuckLines", "requireLineOrNone", "(I)V"⟩ : Cond) ∈ sk_ts := sk_in (List.mem_of_getElem? (i := 487) (by decide +kernel)) rfl
theorem sv_10 : (.selects "StuckLines" ⟨"StuckLines", "requireLineOrNone", "(I)V"⟩ ⟨"StuckLines", "requireLineOrNone", "(I)V"⟩ : Cond) ∈ sk_ts := sk_inp (q := (⟨"StuckLines", "requireLineOrNone", "(I)V"⟩, 6)) (List.mem_of_getElem? (i := 10) (by decide +kernel)) rfl
theorem sw_488 : (.code ⟨"StuckLines", "requireLineOrNone", "(I)V"⟩ prog_1_method_22_code 2 none : Cond) ∈ sk_ts := sk_in (List.mem_of_getElem? (i := 488) (by decide +kernel)) rfl
theorem sw_490 : (.methodLink "StuckLines" 95 ⟨"StuckLines$Circuit", "addGate", "(IIII)I"⟩ : Cond) ∈ sk_ts := sk_in (List.mem_of_getElem? (i := 490) (by decide +kernel)) rfl
theorem sw_491 : (.instanceMethod ⟨"StuckLines$Circuit", "addGate", "(IIII)I"⟩ : Cond) ∈ sk_ts := sk_in (List.mem_of_getElem? (i := 491) (by decide +kernel)) rfl
theorem sw_492 : (.selects "StuckLines$Circuit" ⟨"StuckLines$Circuit", "addGate", "(IIII)I"⟩ ⟨"StuckLines$Circuit", "addGate", "(IIII)I"⟩ : Cond) ∈ sk_ts := sk_in (List.mem_of_getElem? (i := 492) (by decide +kernel)) rfl
theorem sw_493 : (.code ⟨"StuckLines$Circuit", "addGate", "(IIII)I"⟩ prog_2_method_4_code 6 (some .int) : Cond) ∈ sk_ts := sk_in (List.mem_of_getElem? (i := 493) (by decide +kernel)) rfl
theorem sw_494 : (.methodLink "StuckLines$Circuit" 63 ⟨"StuckLines$Circuit", "addPin", "(II)V"⟩ : Cond) ∈ sk_ts := sk_in (List.mem_of_getElem? (i := 494) (by decide +kernel)) rfl
theorem sw_496 : (.instanceMethod ⟨"StuckLines$Circuit", "addPin", "(II)V"⟩ : Cond) ∈ sk_ts := sk_in (List.mem_of_getElem? (i := 496) (by decide +kernel)) rfl
theorem sv_11 : (.selects "StuckLines$Circuit" ⟨"StuckLines$Circuit", "addPin", "(II)V"⟩ ⟨"StuckLines$Circuit", "addPin", "(II)V"⟩ : Cond) ∈ sk_ts := sk_inp (q := (⟨"StuckLines$Circuit", "addPin", "(II)V"⟩, 15)) (List.mem_of_getElem? (i := 11) (by decide +kernel)) rfl
theorem sw_497 : (.code ⟨"StuckLines$Circuit", "addPin", "(II)V"⟩ prog_2_method_6_code 3 none : Cond) ∈ sk_ts := sk_in (List.mem_of_getElem? (i := 497) (by decide +kernel)) rfl
theorem sw_501 : (.methodLink "StuckLinesLaw" 23 ⟨"StuckLines", "output", "(I)I"⟩ : Cond) ∈ sk_ts := sk_in (List.mem_of_getElem? (i := 501) (by decide +kernel)) rfl
theorem sw_502 : (.instanceMethod ⟨"StuckLines", "output", "(I)I"⟩ : Cond) ∈ sk_ts := sk_in (List.mem_of_getElem? (i := 502) (by decide +kernel)) rfl
theorem sw_503 : (.selects "StuckLines" ⟨"StuckLines", "output", "(I)I"⟩ ⟨"StuckLines", "output", "(I)I"⟩ : Cond) ∈ sk_ts := sk_in (List.mem_of_getElem? (i := 503) (by decide +kernel)) rfl
theorem sw_504 : (.code ⟨"StuckLines", "output", "(I)I"⟩ prog_1_method_5_code 2 (some .int) : Cond) ∈ sk_ts := sk_in (List.mem_of_getElem? (i := 504) (by decide +kernel)) rfl
theorem sw_505 : (.methodLink "StuckLines" 99 ⟨"StuckLines$Circuit", "isOutput", "(I)Z"⟩ : Cond) ∈ sk_ts := sk_in (List.mem_of_getElem? (i := 505) (by decide +kernel)) rfl
theorem sw_506 : (.instanceMethod ⟨"StuckLines$Circuit", "isOutput", "(I)Z"⟩ : Cond) ∈ sk_ts := sk_in (List.mem_of_getElem? (i := 506) (by decide +kernel)) rfl
theorem sw_507 : (.selects "StuckLines$Circuit" ⟨"StuckLines$Circuit", "isOutput", "(I)Z"⟩ ⟨"StuckLines$Circuit", "isOutput", "(I)Z"⟩ : Cond) ∈ sk_ts := sk_in (List.mem_of_getElem? (i := 507) (by decide +kernel)) rfl
theorem sw_508 : (.code ⟨"StuckLines$Circuit", "isOutput", "(I)Z"⟩ prog_2_method_11_code 3 (some .boolean) : Cond) ∈ sk_ts := sk_in (List.mem_of_getElem? (i := 508) (by decide +kernel)) rfl
theorem sw_510 : (.methodLink "StuckLines" 108 ⟨"StuckLines$Circuit", "addOutput", "(I)I"⟩ : Cond) ∈ sk_ts := sk_in (List.mem_of_getElem? (i := 510) (by decide +kernel)) rfl
theorem sw_511 : (.instanceMethod ⟨"StuckLines$Circuit", "addOutput", "(I)I"⟩ : Cond) ∈ sk_ts := sk_in (List.mem_of_getElem? (i := 511) (by decide +kernel)) rfl
theorem sw_512 : (.selects "StuckLines$Circuit" ⟨"StuckLines$Circuit", "addOutput", "(I)I"⟩ ⟨"StuckLines$Circuit", "addOutput", "(I)I"⟩ : Cond) ∈ sk_ts := sk_in (List.mem_of_getElem? (i := 512) (by decide +kernel)) rfl
theorem sw_513 : (.code ⟨"StuckLines$Circuit", "addOutput", "(I)I"⟩ prog_2_method_7_code 2 (some .int) : Cond) ∈ sk_ts := sk_in (List.mem_of_getElem? (i := 513) (by decide +kernel)) rfl
theorem sw_514 : (.methodLink "StuckLines$Circuit" 67 ⟨"StuckLines$Circuit", "gatherObserved", "()V"⟩ : Cond) ∈ sk_ts := sk_in (List.mem_of_getElem? (i := 514) (by decide +kernel)) rfl
theorem sw_516 : (.instanceMethod ⟨"StuckLines$Circuit", "gatherObserved", "()V"⟩ : Cond) ∈ sk_ts := sk_in (List.mem_of_getElem? (i := 516) (by decide +kernel)) rfl
theorem sv_12 : (.selects "StuckLines$Circuit" ⟨"StuckLines$Circuit", "gatherObserved", "()V"⟩ ⟨"StuckLines$Circuit", "gatherObserved", "()V"⟩ : Cond) ∈ sk_ts := sk_inp (q := (⟨"StuckLines$Circuit", "gatherObserved", "()V"⟩, 15)) (List.mem_of_getElem? (i := 12) (by decide +kernel)) rfl
theorem sw_517 : (.code ⟨"StuckLines$Circuit", "gatherObserved", "()V"⟩ prog_2_method_9_code 2 none : Cond) ∈ sk_ts := sk_in (List.mem_of_getElem? (i := 517) (by decide +kernel)) rfl
theorem sw_518 : (.methodLink "StuckLines$Circuit" 70 ⟨"StuckLines$Circuit", "observe", "(I)V"⟩ : Cond) ∈ sk_ts := sk_in (List.mem_of_getElem? (i := 518) (by decide +kernel)) rfl
theorem sw_520 : (.instanceMethod ⟨"StuckLines$Circuit", "observe", "(I)V"⟩ : Cond) ∈ sk_ts := sk_in (List.mem_of_getElem? (i := 520) (by decide +kernel)) rfl
theorem sv_13 : (.selects "StuckLines$Circuit" ⟨"StuckLines$Circuit", "observe", "(I)V"⟩ ⟨"StuckLines$Circuit", "observe", "(I)V"⟩ : Cond) ∈ sk_ts := sk_inp (q := (⟨"StuckLines$Circuit", "observe", "(I)V"⟩, 15)) (List.mem_of_getElem? (i := 13) (by decide +kernel)) rfl
theorem sw_521 : (.code ⟨"StuckLines$Circuit", "observe", "(I)V"⟩ prog_2_method_10_code 2 none : Cond) ∈ sk_ts := sk_in (List.mem_of_getElem? (i := 521) (by decide +kernel)) rfl
theorem sw_525 : (.methodLink "StuckLinesLaw" 27 ⟨"StuckLines", "data", "(II)V"⟩ : Cond) ∈ sk_ts := sk_in (List.mem_of_getElem? (i := 525) (by decide +kernel)) rfl
theorem sw_526 : (.instanceMethod ⟨"StuckLines", "data", "(II)V"⟩ : Cond) ∈ sk_ts := sk_in (List.mem_of_getElem? (i := 526) (by decide +kernel)) rfl
theorem sw_527 : (.selects "StuckLines" ⟨"StuckLines", "data", "(II)V"⟩ ⟨"StuckLines", "data", "(II)V"⟩ : Cond) ∈ sk_ts := sk_in (List.mem_of_getElem? (i := 527) (by decide +kernel)) rfl
theorem sw_528 : (.code ⟨"StuckLines", "data", "(II)V"⟩ prog_1_method_6_code 3 none : Cond) ∈ sk_ts := sk_in (List.mem_of_getElem? (i := 528) (by decide +kernel)) rfl
theorem sw_530 : (.methodLink "StuckLines" 118 ⟨"StuckLines$Circuit", "connectData", "(II)V"⟩ : Cond) ∈ sk_ts := sk_in (List.mem_of_getElem? (i := 530) (by decide +kernel)) rfl
theorem sw_531 : (.instanceMethod ⟨"StuckLines$Circuit", "connectData", "(II)V"⟩ : Cond) ∈ sk_ts := sk_in (List.mem_of_getElem? (i := 531) (by decide +kernel)) rfl
theorem sw_532 : (.selects "StuckLines$Circuit" ⟨"StuckLines$Circuit", "connectData", "(II)V"⟩ ⟨"StuckLines$Circuit", "connectData", "(II)V"⟩ : Cond) ∈ sk_ts := sk_in (List.mem_of_getElem? (i := 532) (by decide +kernel)) rfl
theorem sw_533 : (.code ⟨"StuckLines$Circuit", "connectData", "(II)V"⟩ prog_2_method_8_code 3 none : Cond) ∈ sk_ts := sk_in (List.mem_of_getElem? (i := 533) (by decide +kernel)) rfl
theorem sw_537 : (.methodLink "StuckLinesLaw" 31 ⟨"StuckLines", "count", "(I)I"⟩ : Cond) ∈ sk_ts := sk_in (List.mem_of_getElem? (i := 537) (by decide +kernel)) rfl
theorem sw_538 : (.instanceMethod ⟨"StuckLines", "count", "(I)I"⟩ : Cond) ∈ sk_ts := sk_in (List.mem_of_getElem? (i := 538) (by decide +kernel)) rfl
theorem sw_539 : (.selects "StuckLines" ⟨"StuckLines", "count", "(I)I"⟩ ⟨"StuckLines", "count", "(I)I"⟩ : Cond) ∈ sk_ts := sk_in (List.mem_of_getElem? (i := 539) (by decide +kernel)) rfl
theorem sw_540 : (.code ⟨"StuckLines", "count", "(I)I"⟩ prog_1_method_7_code 2 (some .int) : Cond) ∈ sk_ts := sk_in (List.mem_of_getElem? (i := 540) (by decide +kernel)) rfl
theorem sw_541 : (.methodLink "StuckLines" 132 ⟨"StuckLines$Responses", "shownFaults", "()I"⟩ : Cond) ∈ sk_ts := sk_in (List.mem_of_getElem? (i := 541) (by decide +kernel)) rfl
theorem sw_542 : (.instanceMethod ⟨"StuckLines$Responses", "shownFaults", "()I"⟩ : Cond) ∈ sk_ts := sk_in (List.mem_of_getElem? (i := 542) (by decide +kernel)) rfl
theorem sw_543 : (.selects "StuckLines$Responses" ⟨"StuckLines$Responses", "shownFaults", "()I"⟩ ⟨"StuckLines$Responses", "shownFaults", "()I"⟩ : Cond) ∈ sk_ts := sk_in (List.mem_of_getElem? (i := 543) (by decide +kernel)) rfl
theorem sw_544 : (.code ⟨"StuckLines$Responses", "shownFaults", "()I"⟩ prog_5_method_10_code 3 (some .int) : Cond) ∈ sk_ts := sk_in (List.mem_of_getElem? (i := 544) (by decide +kernel)) rfl
theorem sw_545 : (.methodLink "StuckLines" 135 ⟨"StuckLines$Responses", "classesOfAlike", "()I"⟩ : Cond) ∈ sk_ts := sk_in (List.mem_of_getElem? (i := 545) (by decide +kernel)) rfl
theorem sw_546 : (.instanceMethod ⟨"StuckLines$Responses", "classesOfAlike", "()I"⟩ : Cond) ∈ sk_ts := sk_in (List.mem_of_getElem? (i := 546) (by decide +kernel)) rfl
theorem sw_547 : (.selects "StuckLines$Responses" ⟨"StuckLines$Responses", "classesOfAlike", "()I"⟩ ⟨"StuckLines$Responses", "classesOfAlike", "()I"⟩ : Cond) ∈ sk_ts := sk_in (List.mem_of_getElem? (i := 547) (by decide +kernel)) rfl
theorem sw_548 : (.code ⟨"StuckLines$Responses", "classesOfAlike", "()I"⟩ prog_5_method_11_code 3 (some .int) : Cond) ∈ sk_ts := sk_in (List.mem_of_getElem? (i := 548) (by decide +kernel)) rfl
theorem sw_549 : (.methodLink "StuckLines$Responses" 74 ⟨"StuckLines$Responses", "firstAlike", "(I)I"⟩ : Cond) ∈ sk_ts := sk_in (List.mem_of_getElem? (i := 549) (by decide +kernel)) rfl
theorem sw_550 : (.instanceMethod ⟨"StuckLines$Responses", "firstAlike", "(I)I"⟩ : Cond) ∈ sk_ts := sk_in (List.mem_of_getElem? (i := 550) (by decide +kernel)) rfl
theorem sw_551 : (.selects "StuckLines$Responses" ⟨"StuckLines$Responses", "firstAlike", "(I)I"⟩ ⟨"StuckLines$Responses", "firstAlike", "(I)I"⟩ : Cond) ∈ sk_ts := sk_in (List.mem_of_getElem? (i := 551) (by decide +kernel)) rfl
theorem sw_552 : (.code ⟨"StuckLines$Responses", "firstAlike", "(I)I"⟩ prog_5_method_8_code 3 (some .int) : Cond) ∈ sk_ts := sk_in (List.mem_of_getElem? (i := 552) (by decide +kernel)) rfl
theorem sw_553 : (.methodLink "StuckLines$Responses" 70 ⟨"StuckLines$Responses", "areAlike", "(II)Z"⟩ : Cond) ∈ sk_ts := sk_in (List.mem_of_getElem? (i := 553) (by decide +kernel)) rfl
theorem sw_555 : (.instanceMethod ⟨"StuckLines$Responses", "areAlike", "(II)Z"⟩ : Cond) ∈ sk_ts := sk_in (List.mem_of_getElem? (i := 555) (by decide +kernel)) rfl
theorem sv_14 : (.selects "StuckLines$Responses" ⟨"StuckLines$Responses", "areAlike", "(II)Z"⟩ ⟨"StuckLines$Responses", "areAlike", "(II)Z"⟩ : Cond) ∈ sk_ts := sk_inp (q := (⟨"StuckLines$Responses", "areAlike", "(II)Z"⟩, 5)) (List.mem_of_getElem? (i := 14) (by decide +kernel)) rfl
theorem sw_556 : (.code ⟨"StuckLines$Responses", "areAlike", "(II)Z"⟩ prog_5_method_9_code 6 (some .boolean) : Cond) ∈ sk_ts := sk_in (List.mem_of_getElem? (i := 556) (by decide +kernel)) rfl
theorem sw_561 : (.methodLink "StuckLinesLaw" 34 ⟨"StuckLines", "value", "(III)I"⟩ : Cond) ∈ sk_ts := sk_in (List.mem_of_getElem? (i := 561) (by decide +kernel)) rfl
theorem sw_562 : (.instanceMethod ⟨"StuckLines", "value", "(III)I"⟩ : Cond) ∈ sk_ts := sk_in (List.mem_of_getElem? (i := 562) (by decide +kernel)) rfl
theorem sw_563 : (.selects "StuckLines" ⟨"StuckLines", "value", "(III)I"⟩ ⟨"StuckLines", "value", "(III)I"⟩ : Cond) ∈ sk_ts := sk_in (List.mem_of_getElem? (i := 563) (by decide +kernel)) rfl
theorem sw_564 : (.code ⟨"StuckLines", "value", "(III)I"⟩ prog_1_method_8_code 4 (some .int) : Cond) ∈ sk_ts := sk_in (List.mem_of_getElem? (i := 564) (by decide +kernel)) rfl
theorem sw_565 : (.methodLink "StuckLines" 140 ⟨"StuckLines", "requireVector", "(I)V"⟩ : Cond) ∈ sk_ts := sk_in (List.mem_of_getElem? (i := 565) (by decide +kernel)) rfl
theorem sw_567 : (.instanceMethod ⟨"StuckLines", "requireVector", "(I)V"⟩ : Cond) ∈ sk_ts := sk_in (List.mem_of_getElem? (i := 567) (by decide +kernel)) rfl
theorem sv_15 : (.selects "StuckLines" ⟨"StuckLines", "requireVector", "(I)V"⟩ ⟨"StuckLines", "requireVector", "(I)V"⟩ : Cond) ∈ sk_ts := sk_inp (q := (⟨"StuckLines", "requireVector", "(I)V"⟩, 6)) (List.mem_of_getElem? (i := 15) (by decide +kernel)) rfl
theorem sw_568 : (.code ⟨"StuckLines", "requireVector", "(I)V"⟩ prog_1_method_23_code 2 none : Cond) ∈ sk_ts := sk_in (List.mem_of_getElem? (i := 568) (by decide +kernel)) rfl
theorem sw_571 : (.methodLink "StuckLines" 143 ⟨"StuckLines", "requireFaultOrNone", "(I)V"⟩ : Cond) ∈ sk_ts := sk_in (List.mem_of_getElem? (i := 571) (by decide +kernel)) rfl
theorem sw_573 : (.instanceMethod ⟨"StuckLines", "requireFaultOrNone", "(I)V"⟩ : Cond) ∈ sk_ts := sk_in (List.mem_of_getElem? (i := 573) (by decide +kernel)) rfl
theorem sv_16 : (.selects "StuckLines" ⟨"StuckLines", "requireFaultOrNone", "(I)V"⟩ ⟨"StuckLines", "requireFaultOrNone", "(I)V"⟩ : Cond) ∈ sk_ts := sk_inp (q := (⟨"StuckLines", "requireFaultOrNone", "(I)V"⟩, 6)) (List.mem_of_getElem? (i := 16) (by decide +kernel)) rfl
theorem sw_574 : (.code ⟨"StuckLines", "requireFaultOrNone", "(I)V"⟩ prog_1_method_25_code 2 none : Cond) ∈ sk_ts := sk_in (List.mem_of_getElem? (i := 574) (by decide +kernel)) rfl
theorem sw_580 : (.methodLink "StuckLines" 146 ⟨"StuckLines$Signals", "settleVectors", "(I)V"⟩ : Cond) ∈ sk_ts := sk_in (List.mem_of_getElem? (i := 580) (by decide +kernel)) rfl
theorem sw_581 : (.methodLink "StuckLines" 149 ⟨"StuckLines$Signals", "stateOf", "(II)I"⟩ : Cond) ∈ sk_ts := sk_in (List.mem_of_getElem? (i := 581) (by decide +kernel)) rfl
theorem sw_582 : (.instanceMethod ⟨"StuckLines$Signals", "stateOf", "(II)I"⟩ : Cond) ∈ sk_ts := sk_in (List.mem_of_getElem? (i := 582) (by decide +kernel)) rfl
theorem sw_583 : (.selects "StuckLines$Signals" ⟨"StuckLines$Signals", "stateOf", "(II)I"⟩ ⟨"StuckLines$Signals", "stateOf", "(II)I"⟩ : Cond) ∈ sk_ts := sk_in (List.mem_of_getElem? (i := 583) (by decide +kernel)) rfl
theorem sw_584 : (.code ⟨"StuckLines$Signals", "stateOf", "(II)I"⟩ prog_7_method_6_code 3 (some .int) : Cond) ∈ sk_ts := sk_in (List.mem_of_getElem? (i := 584) (by decide +kernel)) rfl
theorem sw_569 : (.methodLink "StuckLines" 228 ⟨"StuckLines$Circuit", "vectors", "()I"⟩ : Cond) ∈ sk_ts := sk_in (List.mem_of_getElem? (i := 569) (by decide +kernel)) rfl
theorem sw_575 : (.methodLink "StuckLines" 169 ⟨"StuckLines", "requireFault", "(I)V"⟩ : Cond) ∈ sk_ts := sk_in (List.mem_of_getElem? (i := 575) (by decide +kernel)) rfl
theorem sw_577 : (.instanceMethod ⟨"StuckLines", "requireFault", "(I)V"⟩ : Cond) ∈ sk_ts := sk_in (List.mem_of_getElem? (i := 577) (by decide +kernel)) rfl
theorem sv_17 : (.selects "StuckLines" ⟨"StuckLines", "requireFault", "(I)V"⟩ ⟨"StuckLines", "requireFault", "(I)V"⟩ : Cond) ∈ sk_ts := sk_inp (q := (⟨"StuckLines", "requireFault", "(I)V"⟩, 6)) (List.mem_of_getElem? (i := 17) (by decide +kernel)) rfl
theorem sw_578 : (.code ⟨"StuckLines", "requireFault", "(I)V"⟩ prog_1_method_24_code 2 none : Cond) ∈ sk_ts := sk_in (List.mem_of_getElem? (i := 578) (by decide +kernel)) rfl
theorem sw_588 : (.methodLink "StuckLinesLaw" 38 ⟨"StuckLines", "response", "(II)I"⟩ : Cond) ∈ sk_ts := sk_in (List.mem_of_getElem? (i := 588) (by decide +kernel)) rfl
theorem sw_589 : (.instanceMethod ⟨"StuckLines", "response", "(II)I"⟩ : Cond) ∈ sk_ts := sk_in (List.mem_of_getElem? (i := 589) (by decide +kernel)) rfl
theorem sw_590 : (.selects "StuckLines" ⟨"StuckLines", "response", "(II)I"⟩ ⟨"StuckLines", "response", "(II)I"⟩ : Cond) ∈ sk_ts := sk_in (List.mem_of_getElem? (i := 590) (by decide +kernel)) rfl
theorem sw_591 : (.code ⟨"StuckLines", "response", "(II)I"⟩ prog_1_method_9_code 3 (some .int) : Cond) ∈ sk_ts := sk_in (List.mem_of_getElem? (i := 591) (by decide +kernel)) rfl
theorem sw_592 : (.methodLink "StuckLines" 156 ⟨"StuckLines$Responses", "to", "(II)I"⟩ : Cond) ∈ sk_ts := sk_in (List.mem_of_getElem? (i := 592) (by decide +kernel)) rfl
theorem sw_596 : (.methodLink "StuckLinesLaw" 42 ⟨"StuckLines", "faultAt", "(II)I"⟩ : Cond) ∈ sk_ts := sk_in (List.mem_of_getElem? (i := 596) (by decide +kernel)) rfl
theorem sw_597 : (.instanceMethod ⟨"StuckLines", "faultAt", "(II)I"⟩ : Cond) ∈ sk_ts := sk_in (List.mem_of_getElem? (i := 597) (by decide +kernel)) rfl
theorem sw_598 : (.selects "StuckLines" ⟨"StuckLines", "faultAt", "(II)I"⟩ ⟨"StuckLines", "faultAt", "(II)I"⟩ : Cond) ∈ sk_ts := sk_in (List.mem_of_getElem? (i := 598) (by decide +kernel)) rfl
theorem sw_599 : (.code ⟨"StuckLines", "faultAt", "(II)I"⟩ prog_1_method_11_code 5 (some .int) : Cond) ∈ sk_ts := sk_in (List.mem_of_getElem? (i := 599) (by decide +kernel)) rfl
theorem sw_600 : (.methodLink "StuckLines" 172 ⟨"StuckLines$Circuit", "stuckLine", "(I)I"⟩ : Cond) ∈ sk_ts := sk_in (List.mem_of_getElem? (i := 600) (by decide +kernel)) rfl
theorem sw_601 : (.methodLink "StuckLines" 175 ⟨"StuckLines$Circuit", "stuckPin", "(I)I"⟩ : Cond) ∈ sk_ts := sk_in (List.mem_of_getElem? (i := 601) (by decide +kernel)) rfl
theorem sw_606 : (.methodLink "StuckLinesLaw" 45 ⟨"StuckLines", "least", "(I)I"⟩ : Cond) ∈ sk_ts := sk_in (List.mem_of_getElem? (i := 606) (by decide +kernel)) rfl
theorem sw_607 : (.instanceMethod ⟨"StuckLines", "least", "(I)I"⟩ : Cond) ∈ sk_ts := sk_in (List.mem_of_getElem? (i := 607) (by decide +kernel)) rfl
theorem sw_608 : (.selects "StuckLines" ⟨"StuckLines", "least", "(I)I"⟩ ⟨"StuckLines", "least", "(I)I"⟩ : Cond) ∈ sk_ts := sk_in (List.mem_of_getElem? (i := 608) (by decide +kernel)) rfl
theorem sw_609 : (.code ⟨"StuckLines", "least", "(I)I"⟩ prog_1_method_12_code 2 (some .int) : Cond) ∈ sk_ts := sk_in (List.mem_of_getElem? (i := 609) (by decide +kernel)) rfl
theorem sw_610 : (.methodLink "StuckLines" 183 ⟨"StuckLines$Responses", "firstShowing", "(I)I"⟩ : Cond) ∈ sk_ts := sk_in (List.mem_of_getElem? (i := 610) (by decide +kernel)) rfl
theorem sw_614 : (.methodLink "StuckLinesLaw" 48 ⟨"StuckLines", "showing", "(I)J"⟩ : Cond) ∈ sk_ts := sk_in (List.mem_of_getElem? (i := 614) (by decide +kernel)) rfl
theorem sw_615 : (.instanceMethod ⟨"StuckLines", "showing", "(I)J"⟩ : Cond) ∈ sk_ts := sk_in (List.mem_of_getElem? (i := 615) (by decide +kernel)) rfl
theorem sw_616 : (.selects "StuckLines" ⟨"StuckLines", "showing", "(I)J"⟩ ⟨"StuckLines", "showing", "(I)J"⟩ : Cond) ∈ sk_ts := sk_in (List.mem_of_getElem? (i := 616) (by decide +kernel)) rfl
theorem sw_617 : (.code ⟨"StuckLines", "showing", "(I)J"⟩ prog_1_method_13_code 2 (some .long) : Cond) ∈ sk_ts := sk_in (List.mem_of_getElem? (i := 617) (by decide +kernel)) rfl
theorem sw_618 : (.methodLink "StuckLines" 186 ⟨"StuckLines$Responses", "vectorsShowing", "(I)J"⟩ : Cond) ∈ sk_ts := sk_in (List.mem_of_getElem? (i := 618) (by decide +kernel)) rfl
theorem sw_622 : (.methodLink "StuckLinesLaw" 52 ⟨"StuckLines", "alike", "(I)I"⟩ : Cond) ∈ sk_ts := sk_in (List.mem_of_getElem? (i := 622) (by decide +kernel)) rfl
theorem sw_623 : (.instanceMethod ⟨"StuckLines", "alike", "(I)I"⟩ : Cond) ∈ sk_ts := sk_in (List.mem_of_getElem? (i := 623) (by decide +kernel)) rfl
theorem sw_624 : (.selects "StuckLines" ⟨"StuckLines", "alike", "(I)I"⟩ ⟨"StuckLines", "alike", "(I)I"⟩ : Cond) ∈ sk_ts := sk_in (List.mem_of_getElem? (i := 624) (by decide +kernel)) rfl
theorem sw_625 : (.code ⟨"StuckLines", "alike", "(I)I"⟩ prog_1_method_14_code 2 (some .int) : Cond) ∈ sk_ts := sk_in (List.mem_of_getElem? (i := 625) (by decide +kernel)) rfl
theorem sw_626 : (.methodLink "StuckLines" 190 ⟨"StuckLines$Responses", "firstAlike", "(I)I"⟩ : Cond) ∈ sk_ts := sk_in (List.mem_of_getElem? (i := 626) (by decide +kernel)) rfl
theorem sw_630 : (.methodLink "StuckLinesLaw" 55 ⟨"StuckLines", "ternary", "(IIII)I"⟩ : Cond) ∈ sk_ts := sk_in (List.mem_of_getElem? (i := 630) (by decide +kernel)) rfl
theorem sw_631 : (.instanceMethod ⟨"StuckLines", "ternary", "(IIII)I"⟩ : Cond) ∈ sk_ts := sk_in (List.mem_of_getElem? (i := 631) (by decide +kernel)) rfl
theorem sw_632 : (.selects "StuckLines" ⟨"StuckLines", "ternary", "(IIII)I"⟩ ⟨"StuckLines", "ternary", "(IIII)I"⟩ : Cond) ∈ sk_ts := sk_in (List.mem_of_getElem? (i := 632) (by decide +kernel)) rfl
theorem sw_633 : (.code ⟨"StuckLines", "ternary", "(IIII)I"⟩ prog_1_method_15_code 5 (some .int) : Cond) ∈ sk_ts := sk_in (List.mem_of_getElem? (i := 633) (by decide +kernel)) rfl
theorem sw_634 : (.methodLink "StuckLines" 193 ⟨"StuckLines$Circuit", "isSumOfSources", "(I)Z"⟩ : Cond) ∈ sk_ts := sk_in (List.mem_of_getElem? (i := 634) (by decide +kernel)) rfl
theorem sw_635 : (.instanceMethod ⟨"StuckLines$Circuit", "isSumOfSources", "(I)Z"⟩ : Cond) ∈ sk_ts := sk_in (List.mem_of_getElem? (i := 635) (by decide +kernel)) rfl
theorem sw_636 : (.selects "StuckLines$Circuit" ⟨"StuckLines$Circuit", "isSumOfSources", "(I)Z"⟩ ⟨"StuckLines$Circuit", "isSumOfSources", "(I)Z"⟩ : Cond) ∈ sk_ts := sk_in (List.mem_of_getElem? (i := 636) (by decide +kernel)) rfl
theorem sw_637 : (.code ⟨"StuckLines$Circuit", "isSumOfSources", "(I)Z"⟩ prog_2_method_15_code 2 (some .boolean) : Cond) ∈ sk_ts := sk_in (List.mem_of_getElem? (i := 637) (by decide +kernel)) rfl
theorem sw_641 : (.methodLink "StuckLines" 200 ⟨"StuckLines$Signals", "settleCube", "(III)V"⟩ : Cond) ∈ sk_ts := sk_in (List.mem_of_getElem? (i := 641) (by decide +kernel)) rfl
theorem sw_642 : (.instanceMethod ⟨"StuckLines$Signals", "settleCube", "(III)V"⟩ : Cond) ∈ sk_ts := sk_in (List.mem_of_getElem? (i := 642) (by decide +kernel)) rfl
theorem sw_643 : (.selects "StuckLines$Signals" ⟨"StuckLines$Signals", "settleCube", "(III)V"⟩ ⟨"StuckLines$Signals", "settleCube", "(III)V"⟩ : Cond) ∈ sk_ts := sk_in (List.mem_of_getElem? (i := 643) (by decide +kernel)) rfl
theorem sw_644 : (.code ⟨"StuckLines$Signals", "settleCube", "(III)V"⟩ prog_7_method_3_code 7 none : Cond) ∈ sk_ts := sk_in (List.mem_of_getElem? (i := 644) (by decide +kernel)) rfl
theorem sw_638 : (.methodLink "StuckLines$Circuit" 74 ⟨"StuckLines$Circuit", "vectors", "()I"⟩ : Cond) ∈ sk_ts := sk_in (List.mem_of_getElem? (i := 638) (by decide +kernel)) rfl
theorem sw_648 : (.methodLink "StuckLinesLaw" 58 ⟨"StuckLines", "cube", "(I)I"⟩ : Cond) ∈ sk_ts := sk_in (List.mem_of_getElem? (i := 648) (by decide +kernel)) rfl
theorem sw_649 : (.instanceMethod ⟨"StuckLines", "cube", "(I)I"⟩ : Cond) ∈ sk_ts := sk_in (List.mem_of_getElem? (i := 649) (by decide +kernel)) rfl
theorem sw_650 : (.selects "StuckLines" ⟨"StuckLines", "cube", "(I)I"⟩ ⟨"StuckLines", "cube", "(I)I"⟩ : Cond) ∈ sk_ts := sk_in (List.mem_of_getElem? (i := 650) (by decide +kernel)) rfl
theorem sw_651 : (.code ⟨"StuckLines", "cube", "(I)I"⟩ prog_1_method_16_code 3 (some .int) : Cond) ∈ sk_ts := sk_in (List.mem_of_getElem? (i := 651) (by decide +kernel)) rfl
theorem sw_652 : (.methodLink "StuckLines" 204 ⟨"StuckLines$Cubes", "widen", "(II)I"⟩ : Cond) ∈ sk_ts := sk_in (List.mem_of_getElem? (i := 652) (by decide +kernel)) rfl
theorem sw_653 : (.instanceMethod ⟨"StuckLines$Cubes", "widen", "(II)I"⟩ : Cond) ∈ sk_ts := sk_in (List.mem_of_getElem? (i := 653) (by decide +kernel)) rfl
theorem sw_654 : (.selects "StuckLines$Cubes" ⟨"StuckLines$Cubes", "widen", "(II)I"⟩ ⟨"StuckLines$Cubes", "widen", "(II)I"⟩ : Cond) ∈ sk_ts := sk_in (List.mem_of_getElem? (i := 654) (by decide +kernel)) rfl
theorem sw_655 : (.code ⟨"StuckLines$Cubes", "widen", "(II)I"⟩ prog_3_method_2_code 7 (some .int) : Cond) ∈ sk_ts := sk_in (List.mem_of_getElem? (i := 655) (by decide +kernel)) rfl
theorem sw_656 : (.methodLink "StuckLines$Cubes" 33 ⟨"StuckLines$Cubes", "shows", "(III)Z"⟩ : Cond) ∈ sk_ts := sk_in (List.mem_of_getElem? (i := 656) (by decide +kernel)) rfl
theorem sw_658 : (.instanceMethod ⟨"StuckLines$Cubes", "shows", "(III)Z"⟩ : Cond) ∈ sk_ts := sk_in (List.mem_of_getElem? (i := 658) (by decide +kernel)) rfl
theorem sv_18 : (.selects "StuckLines$Cubes" ⟨"StuckLines$Cubes", "shows", "(III)Z"⟩ ⟨"StuckLines$Cubes", "shows", "(III)Z"⟩ : Cond) ∈ sk_ts := sk_inp (q := (⟨"StuckLines$Cubes", "shows", "(III)Z"⟩, 3)) (List.mem_of_getElem? (i := 18) (by decide +kernel)) rfl
theorem sw_659 : (.code ⟨"StuckLines$Cubes", "shows", "(III)Z"⟩ prog_3_method_3_code 4 (some .boolean) : Cond) ∈ sk_ts := sk_in (List.mem_of_getElem? (i := 659) (by decide +kernel)) rfl
theorem sw_660 : (.methodLink "StuckLines$Cubes" 37 ⟨"StuckLines$Signals", "settleCube", "(III)V"⟩ : Cond) ∈ sk_ts := sk_in (List.mem_of_getElem? (i := 660) (by decide +kernel)) rfl
theorem sw_661 : (.methodLink "StuckLines$Cubes" 41 ⟨"StuckLines$Signals", "isContraryTo", "(LStuckLines$Signals;)Z"⟩ : Cond) ∈ sk_ts := sk_in (List.mem_of_getElem? (i := 661) (by decide +kernel)) rfl
theorem sw_662 : (.instanceMethod ⟨"StuckLines$Signals", "isContraryTo", "(LStuckLines$Signals;)Z"⟩ : Cond) ∈ sk_ts := sk_in (List.mem_of_getElem? (i := 662) (by decide +kernel)) rfl
theorem sw_663 : (.selects "StuckLines$Signals" ⟨"StuckLines$Signals", "isContraryTo", "(LStuckLines$Signals;)Z"⟩ ⟨"StuckLines$Signals", "isContraryTo", "(LStuckLines$Signals;)Z"⟩ : Cond) ∈ sk_ts := sk_in (List.mem_of_getElem? (i := 663) (by decide +kernel)) rfl
theorem sw_664 : (.code ⟨"StuckLines$Signals", "isContraryTo", "(LStuckLines$Signals;)Z"⟩ prog_7_method_8_code 4 (some .boolean) : Cond) ∈ sk_ts := sk_in (List.mem_of_getElem? (i := 664) (by decide +kernel)) rfl
theorem sw_668 : (.methodLink "StuckLinesLaw" 61 ⟨"StuckLines", "log", "(II)I"⟩ : Cond) ∈ sk_ts := sk_in (List.mem_of_getElem? (i := 668) (by decide +kernel)) rfl
theorem sw_669 : (.instanceMethod ⟨"StuckLines", "log", "(II)I"⟩ : Cond) ∈ sk_ts := sk_in (List.mem_of_getElem? (i := 669) (by decide +kernel)) rfl
theorem sw_670 : (.selects "StuckLines" ⟨"StuckLines", "log", "(II)I"⟩ ⟨"StuckLines", "log", "(II)I"⟩ : Cond) ∈ sk_ts := sk_in (List.mem_of_getElem? (i := 670) (by decide +kernel)) rfl
theorem sw_671 : (.code ⟨"StuckLines", "log", "(II)I"⟩ prog_1_method_18_code 3 (some .int) : Cond) ∈ sk_ts := sk_in (List.mem_of_getElem? (i := 671) (by decide +kernel)) rfl
theorem sw_674 : (.methodLink "StuckLines" 217 ⟨"StuckLines$SeenLog", "add", "(II)I"⟩ : Cond) ∈ sk_ts := sk_in (List.mem_of_getElem? (i := 674) (by decide +kernel)) rfl
theorem sw_675 : (.instanceMethod ⟨"StuckLines$SeenLog", "add", "(II)I"⟩ : Cond) ∈ sk_ts := sk_in (List.mem_of_getElem? (i := 675) (by decide +kernel)) rfl
theorem sw_676 : (.selects "StuckLines$SeenLog" ⟨"StuckLines$SeenLog", "add", "(II)I"⟩ ⟨"StuckLines$SeenLog", "add", "(II)I"⟩ : Cond) ∈ sk_ts := sk_in (List.mem_of_getElem? (i := 676) (by decide +kernel)) rfl
theorem sw_677 : (.code ⟨"StuckLines$SeenLog", "add", "(II)I"⟩ prog_6_method_2_code 3 (some .int) : Cond) ∈ sk_ts := sk_in (List.mem_of_getElem? (i := 677) (by decide +kernel)) rfl
theorem sw_780 : (.methodLink "StuckLinesModel" 97 ⟨"StuckLinesModel", "built", "()V"⟩ : Cond) ∈ sk_ts := sk_in (List.mem_of_getElem? (i := 780) (by decide +kernel)) rfl
theorem sw_782 : (.instanceMethod ⟨"StuckLinesModel", "built", "()V"⟩ : Cond) ∈ sk_ts := sk_in (List.mem_of_getElem? (i := 782) (by decide +kernel)) rfl
theorem sv_19 : (.selects "StuckLinesModel" ⟨"StuckLinesModel", "built", "()V"⟩ ⟨"StuckLinesModel", "built", "()V"⟩ : Cond) ∈ sk_ts := sk_inp (q := (⟨"StuckLinesModel", "built", "()V"⟩, 29)) (List.mem_of_getElem? (i := 19) (by decide +kernel)) rfl
theorem sw_8 : (.initialized "StuckLinesModel" : Cond) ∈ sk_ts := sk_in (List.mem_of_getElem? (i := 8) (by decide +kernel)) rfl
theorem sw_783 : (.code ⟨"StuckLinesModel", "built", "()V"⟩ prog_9_method_6_code 3 none : Cond) ∈ sk_ts := sk_in (List.mem_of_getElem? (i := 783) (by decide +kernel)) rfl
theorem sw_792 : (.methodLink "StuckLinesModel" 100 ⟨"StuckLinesModel", "noLine", "(I)Z"⟩ : Cond) ∈ sk_ts := sk_in (List.mem_of_getElem? (i := 792) (by decide +kernel)) rfl
theorem sw_794 : (.instanceMethod ⟨"StuckLinesModel", "noLine", "(I)Z"⟩ : Cond) ∈ sk_ts := sk_in (List.mem_of_getElem? (i := 794) (by decide +kernel)) rfl
theorem sv_20 : (.selects "StuckLinesModel" ⟨"StuckLinesModel", "noLine", "(I)Z"⟩ ⟨"StuckLinesModel", "noLine", "(I)Z"⟩ : Cond) ∈ sk_ts := sk_inp (q := (⟨"StuckLinesModel", "noLine", "(I)Z"⟩, 29)) (List.mem_of_getElem? (i := 20) (by decide +kernel)) rfl
theorem sw_795 : (.code ⟨"StuckLinesModel", "noLine", "(I)Z"⟩ prog_9_method_3_code 2 (some .boolean) : Cond) ∈ sk_ts := sk_in (List.mem_of_getElem? (i := 795) (by decide +kernel)) rfl
theorem sw_808 : (.methodLink "StuckLinesModel" 119 ⟨"StuckLinesModel", "learn", "()V"⟩ : Cond) ∈ sk_ts := sk_in (List.mem_of_getElem? (i := 808) (by decide +kernel)) rfl
theorem sw_810 : (.instanceMethod ⟨"StuckLinesModel", "learn", "()V"⟩ : Cond) ∈ sk_ts := sk_in (List.mem_of_getElem? (i := 810) (by decide +kernel)) rfl
theorem sv_21 : (.selects "StuckLinesModel" ⟨"StuckLinesModel", "learn", "()V"⟩ ⟨"StuckLinesModel", "learn", "()V"⟩ : Cond) ∈ sk_ts := sk_inp (q := (⟨"StuckLinesModel", "learn", "()V"⟩, 29)) (List.mem_of_getElem? (i := 21) (by decide +kernel)) rfl
theorem sw_811 : (.code ⟨"StuckLinesModel", "learn", "()V"⟩ prog_9_method_15_code 3 none : Cond) ∈ sk_ts := sk_in (List.mem_of_getElem? (i := 811) (by decide +kernel)) rfl
theorem sw_827 : (.methodLink "StuckLinesModel" 122 ⟨"StuckLinesModel", "leastOf", "(I)I"⟩ : Cond) ∈ sk_ts := sk_in (List.mem_of_getElem? (i := 827) (by decide +kernel)) rfl
theorem sw_829 : (.instanceMethod ⟨"StuckLinesModel", "leastOf", "(I)I"⟩ : Cond) ∈ sk_ts := sk_in (List.mem_of_getElem? (i := 829) (by decide +kernel)) rfl
theorem sv_25 : (.selects "StuckLinesModel" ⟨"StuckLinesModel", "leastOf", "(I)I"⟩ ⟨"StuckLinesModel", "leastOf", "(I)I"⟩ : Cond) ∈ sk_ts := sk_inp (q := (⟨"StuckLinesModel", "leastOf", "(I)I"⟩, 29)) (List.mem_of_getElem? (i := 25) (by decide +kernel)) rfl
theorem sw_830 : (.code ⟨"StuckLinesModel", "leastOf", "(I)I"⟩ prog_9_method_16_code 3 (some .int) : Cond) ∈ sk_ts := sk_in (List.mem_of_getElem? (i := 830) (by decide +kernel)) rfl
theorem sw_831 : (.methodLink "StuckLinesModel" 126 ⟨"StuckLinesModel", "firstAlike", "(I)I"⟩ : Cond) ∈ sk_ts := sk_in (List.mem_of_getElem? (i := 831) (by decide +kernel)) rfl
theorem sw_833 : (.instanceMethod ⟨"StuckLinesModel", "firstAlike", "(I)I"⟩ : Cond) ∈ sk_ts := sk_in (List.mem_of_getElem? (i := 833) (by decide +kernel)) rfl
theorem sv_26 : (.selects "StuckLinesModel" ⟨"StuckLinesModel", "firstAlike", "(I)I"⟩ ⟨"StuckLinesModel", "firstAlike", "(I)I"⟩ : Cond) ∈ sk_ts := sk_inp (q := (⟨"StuckLinesModel", "firstAlike", "(I)I"⟩, 29)) (List.mem_of_getElem? (i := 26) (by decide +kernel)) rfl
theorem sw_834 : (.code ⟨"StuckLinesModel", "firstAlike", "(I)I"⟩ prog_9_method_17_code 5 (some .int) : Cond) ∈ sk_ts := sk_in (List.mem_of_getElem? (i := 834) (by decide +kernel)) rfl
theorem sw_812 : (.methodLink "StuckLinesModel" 108 ⟨"StuckLinesModel", "vectors", "()I"⟩ : Cond) ∈ sk_ts := sk_in (List.mem_of_getElem? (i := 812) (by decide +kernel)) rfl
theorem sw_814 : (.instanceMethod ⟨"StuckLinesModel", "vectors", "()I"⟩ : Cond) ∈ sk_ts := sk_in (List.mem_of_getElem? (i := 814) (by decide +kernel)) rfl
theorem sv_22 : (.selects "StuckLinesModel" ⟨"StuckLinesModel", "vectors", "()I"⟩ ⟨"StuckLinesModel", "vectors", "()I"⟩ : Cond) ∈ sk_ts := sk_inp (q := (⟨"StuckLinesModel", "vectors", "()I"⟩, 29)) (List.mem_of_getElem? (i := 22) (by decide +kernel)) rfl
theorem sw_815 : (.code ⟨"StuckLinesModel", "vectors", "()I"⟩ prog_9_method_4_code 1 (some .int) : Cond) ∈ sk_ts := sk_in (List.mem_of_getElem? (i := 815) (by decide +kernel)) rfl
theorem sw_816 : (.methodLink "StuckLinesModel" 112 ⟨"StuckLinesModel", "make", "(III)V"⟩ : Cond) ∈ sk_ts := sk_in (List.mem_of_getElem? (i := 816) (by decide +kernel)) rfl
theorem sw_818 : (.instanceMethod ⟨"StuckLinesModel", "make", "(III)V"⟩ : Cond) ∈ sk_ts := sk_in (List.mem_of_getElem? (i := 818) (by decide +kernel)) rfl
theorem sv_23 : (.selects "StuckLinesModel" ⟨"StuckLinesModel", "make", "(III)V"⟩ ⟨"StuckLinesModel", "make", "(III)V"⟩ : Cond) ∈ sk_ts := sk_inp (q := (⟨"StuckLinesModel", "make", "(III)V"⟩, 29)) (List.mem_of_getElem? (i := 23) (by decide +kernel)) rfl
theorem sw_819 : (.code ⟨"StuckLinesModel", "make", "(III)V"⟩ prog_9_method_13_code 14 none : Cond) ∈ sk_ts := sk_in (List.mem_of_getElem? (i := 819) (by decide +kernel)) rfl
theorem sw_823 : (.methodLink "StuckLinesModel" 116 ⟨"StuckLinesModel", "answered", "()I"⟩ : Cond) ∈ sk_ts := sk_in (List.mem_of_getElem? (i := 823) (by decide +kernel)) rfl
theorem sw_825 : (.instanceMethod ⟨"StuckLinesModel", "answered", "()I"⟩ : Cond) ∈ sk_ts := sk_in (List.mem_of_getElem? (i := 825) (by decide +kernel)) rfl
theorem sv_24 : (.selects "StuckLinesModel" ⟨"StuckLinesModel", "answered", "()I"⟩ ⟨"StuckLinesModel", "answered", "()I"⟩ : Cond) ∈ sk_ts := sk_inp (q := (⟨"StuckLinesModel", "answered", "()I"⟩, 29)) (List.mem_of_getElem? (i := 24) (by decide +kernel)) rfl
theorem sw_826 : (.code ⟨"StuckLinesModel", "answered", "()I"⟩ prog_9_method_14_code 3 (some .int) : Cond) ∈ sk_ts := sk_in (List.mem_of_getElem? (i := 826) (by decide +kernel)) rfl
theorem sw_820 : (.methodLink "StuckLinesModel" 104 ⟨"StuckLinesModel", "madeOf", "(IIII)I"⟩ : Cond) ∈ sk_ts := sk_in (List.mem_of_getElem? (i := 820) (by decide +kernel)) rfl
theorem sw_821 : (.static ⟨"StuckLinesModel", "madeOf", "(IIII)I"⟩ : Cond) ∈ sk_ts := sk_in (List.mem_of_getElem? (i := 821) (by decide +kernel)) rfl
theorem sw_822 : (.code ⟨"StuckLinesModel", "madeOf", "(IIII)I"⟩ prog_9_method_12_code 5 (some .int) : Cond) ∈ sk_ts := sk_in (List.mem_of_getElem? (i := 822) (by decide +kernel)) rfl
theorem sw_839 : (.methodLink "StuckLinesModel" 129 ⟨"StuckLinesModel", "noFault", "(I)Z"⟩ : Cond) ∈ sk_ts := sk_in (List.mem_of_getElem? (i := 839) (by decide +kernel)) rfl
theorem sw_841 : (.instanceMethod ⟨"StuckLinesModel", "noFault", "(I)Z"⟩ : Cond) ∈ sk_ts := sk_in (List.mem_of_getElem? (i := 841) (by decide +kernel)) rfl
theorem sv_27 : (.selects "StuckLinesModel" ⟨"StuckLinesModel", "noFault", "(I)Z"⟩ ⟨"StuckLinesModel", "noFault", "(I)Z"⟩ : Cond) ∈ sk_ts := sk_inp (q := (⟨"StuckLinesModel", "noFault", "(I)Z"⟩, 29)) (List.mem_of_getElem? (i := 27) (by decide +kernel)) rfl
theorem sw_842 : (.code ⟨"StuckLinesModel", "noFault", "(I)Z"⟩ prog_9_method_5_code 2 (some .boolean) : Cond) ∈ sk_ts := sk_in (List.mem_of_getElem? (i := 842) (by decide +kernel)) rfl
theorem sw_875 : (.methodLink "StuckLinesModel" 132 ⟨"StuckLinesModel", "tells", "(III)Z"⟩ : Cond) ∈ sk_ts := sk_in (List.mem_of_getElem? (i := 875) (by decide +kernel)) rfl
theorem sw_877 : (.instanceMethod ⟨"StuckLinesModel", "tells", "(III)Z"⟩ : Cond) ∈ sk_ts := sk_in (List.mem_of_getElem? (i := 877) (by decide +kernel)) rfl
theorem sv_28 : (.selects "StuckLinesModel" ⟨"StuckLinesModel", "tells", "(III)Z"⟩ ⟨"StuckLinesModel", "tells", "(III)Z"⟩ : Cond) ∈ sk_ts := sk_inp (q := (⟨"StuckLinesModel", "tells", "(III)Z"⟩, 29)) (List.mem_of_getElem? (i := 28) (by decide +kernel)) rfl
theorem sw_878 : (.code ⟨"StuckLinesModel", "tells", "(III)Z"⟩ prog_9_method_27_code 7 (some .boolean) : Cond) ∈ sk_ts := sk_in (List.mem_of_getElem? (i := 878) (by decide +kernel)) rfl
theorem sw_883 : (.methodLink "StuckLinesModel" 143 ⟨"StuckLinesModel", "pack", "()V"⟩ : Cond) ∈ sk_ts := sk_in (List.mem_of_getElem? (i := 883) (by decide +kernel)) rfl
theorem sw_885 : (.instanceMethod ⟨"StuckLinesModel", "pack", "()V"⟩ : Cond) ∈ sk_ts := sk_in (List.mem_of_getElem? (i := 885) (by decide +kernel)) rfl
theorem sv_29 : (.selects "StuckLinesModel" ⟨"StuckLinesModel", "pack", "()V"⟩ ⟨"StuckLinesModel", "pack", "()V"⟩ : Cond) ∈ sk_ts := sk_inp (q := (⟨"StuckLinesModel", "pack", "()V"⟩, 29)) (List.mem_of_getElem? (i := 29) (by decide +kernel)) rfl
theorem sw_886 : (.code ⟨"StuckLinesModel", "pack", "()V"⟩ prog_9_method_30_code 4 none : Cond) ∈ sk_ts := sk_in (List.mem_of_getElem? (i := 886) (by decide +kernel)) rfl
theorem sw_887 : (.methodLink "StuckLinesModel" 139 ⟨"StuckLinesModel", "covered", "(II)Z"⟩ : Cond) ∈ sk_ts := sk_in (List.mem_of_getElem? (i := 887) (by decide +kernel)) rfl
theorem sw_889 : (.instanceMethod ⟨"StuckLinesModel", "covered", "(II)Z"⟩ : Cond) ∈ sk_ts := sk_in (List.mem_of_getElem? (i := 889) (by decide +kernel)) rfl
theorem sv_30 : (.selects "StuckLinesModel" ⟨"StuckLinesModel", "covered", "(II)Z"⟩ ⟨"StuckLinesModel", "covered", "(II)Z"⟩ : Cond) ∈ sk_ts := sk_inp (q := (⟨"StuckLinesModel", "covered", "(II)Z"⟩, 29)) (List.mem_of_getElem? (i := 30) (by decide +kernel)) rfl
theorem sw_890 : (.code ⟨"StuckLinesModel", "covered", "(II)Z"⟩ prog_9_method_29_code 5 (some .boolean) : Cond) ∈ sk_ts := sk_in (List.mem_of_getElem? (i := 890) (by decide +kernel)) rfl
theorem sw_903 : (.methodLink "StuckLinesModel" 146 ⟨"StuckLinesModel", "gives", "(I)Z"⟩ : Cond) ∈ sk_ts := sk_in (List.mem_of_getElem? (i := 903) (by decide +kernel)) rfl
theorem sw_905 : (.instanceMethod ⟨"StuckLinesModel", "gives", "(I)Z"⟩ : Cond) ∈ sk_ts := sk_in (List.mem_of_getElem? (i := 905) (by decide +kernel)) rfl
theorem sv_31 : (.selects "StuckLinesModel" ⟨"StuckLinesModel", "gives", "(I)Z"⟩ ⟨"StuckLinesModel", "gives", "(I)Z"⟩ : Cond) ∈ sk_ts := sk_inp (q := (⟨"StuckLinesModel", "gives", "(I)Z"⟩, 29)) (List.mem_of_getElem? (i := 31) (by decide +kernel)) rfl
theorem sw_906 : (.code ⟨"StuckLinesModel", "gives", "(I)Z"⟩ prog_9_method_34_code 5 (some .boolean) : Cond) ∈ sk_ts := sk_in (List.mem_of_getElem? (i := 906) (by decide +kernel)) rfl
theorem sw_17 : (.methodLink "StuckLinesLaw" 64 ⟨"StuckLines", "<init>", "()V"⟩ : Cond) ∈ sk_ts := sk_in (List.mem_of_getElem? (i := 17) (by decide +kernel)) rfl
theorem sw_18 : (.instanceMethod ⟨"StuckLines", "<init>", "()V"⟩ : Cond) ∈ sk_ts := sk_in (List.mem_of_getElem? (i := 18) (by decide +kernel)) rfl
theorem sw_19 : (.code ⟨"StuckLines", "<init>", "()V"⟩ prog_1_method_1_code 1 none : Cond) ∈ sk_ts := sk_in (List.mem_of_getElem? (i := 19) (by decide +kernel)) rfl
theorem sw_680 : (.methodLink "StuckLinesLaw" 67 ⟨"StuckLinesModel", "<init>", "()V"⟩ : Cond) ∈ sk_ts := sk_in (List.mem_of_getElem? (i := 680) (by decide +kernel)) rfl
theorem sw_681 : (.instanceMethod ⟨"StuckLinesModel", "<init>", "()V"⟩ : Cond) ∈ sk_ts := sk_in (List.mem_of_getElem? (i := 681) (by decide +kernel)) rfl
theorem sw_682 : (.code ⟨"StuckLinesModel", "<init>", "()V"⟩ prog_9_method_1_code 1 none : Cond) ∈ sk_ts := sk_in (List.mem_of_getElem? (i := 682) (by decide +kernel)) rfl
theorem sw_231 : (.methodLink "StuckLinesLaw" 68 ⟨"StuckLines", "clear", "()V"⟩ : Cond) ∈ sk_ts := sk_in (List.mem_of_getElem? (i := 231) (by decide +kernel)) rfl
theorem sw_232 : (.instanceMethod ⟨"StuckLines", "clear", "()V"⟩ : Cond) ∈ sk_ts := sk_in (List.mem_of_getElem? (i := 232) (by decide +kernel)) rfl
theorem sw_233 : (.selects "StuckLines" ⟨"StuckLines", "clear", "()V"⟩ ⟨"StuckLines", "clear", "()V"⟩ : Cond) ∈ sk_ts := sk_in (List.mem_of_getElem? (i := 233) (by decide +kernel)) rfl
theorem sw_234 : (.code ⟨"StuckLines", "clear", "()V"⟩ prog_1_method_2_code 1 none : Cond) ∈ sk_ts := sk_in (List.mem_of_getElem? (i := 234) (by decide +kernel)) rfl
theorem sw_776 : (.methodLink "StuckLinesLaw" 71 ⟨"StuckLinesModel", "clear", "()V"⟩ : Cond) ∈ sk_ts := sk_in (List.mem_of_getElem? (i := 776) (by decide +kernel)) rfl
theorem sw_777 : (.instanceMethod ⟨"StuckLinesModel", "clear", "()V"⟩ : Cond) ∈ sk_ts := sk_in (List.mem_of_getElem? (i := 777) (by decide +kernel)) rfl
theorem sw_778 : (.selects "StuckLinesModel" ⟨"StuckLinesModel", "clear", "()V"⟩ ⟨"StuckLinesModel", "clear", "()V"⟩ : Cond) ∈ sk_ts := sk_in (List.mem_of_getElem? (i := 778) (by decide +kernel)) rfl
theorem sw_779 : (.code ⟨"StuckLinesModel", "clear", "()V"⟩ prog_9_method_7_code 1 none : Cond) ∈ sk_ts := sk_in (List.mem_of_getElem? (i := 779) (by decide +kernel)) rfl
theorem sw_355 : (.methodLink "StuckLinesLaw" 72 ⟨"StuckLinesLaw", "source", "(LStuckLines;Z[J)I"⟩ : Cond) ∈ sk_ts := sk_in (List.mem_of_getElem? (i := 355) (by decide +kernel)) rfl
theorem sw_356 : (.static ⟨"StuckLinesLaw", "source", "(LStuckLines;Z[J)I"⟩ : Cond) ∈ sk_ts := sk_in (List.mem_of_getElem? (i := 356) (by decide +kernel)) rfl
theorem sw_0 : (.initialized "StuckLinesLaw" : Cond) ∈ sk_ts := sk_in (List.mem_of_getElem? (i := 0) (by decide +kernel)) rfl
theorem sw_357 : (.codeWith ⟨"StuckLinesLaw", "source", "(LStuckLines;Z[J)I"⟩ method_3_code 4 (some .int) [(0, 9, 12, 13)] : Cond) ∈ sk_ts := sk_in (List.mem_of_getElem? (i := 357) (by decide +kernel)) rfl
theorem sw_784 : (.methodLink "StuckLinesLaw" 77 ⟨"StuckLinesModel", "source", "(Z)I"⟩ : Cond) ∈ sk_ts := sk_in (List.mem_of_getElem? (i := 784) (by decide +kernel)) rfl
theorem sw_785 : (.instanceMethod ⟨"StuckLinesModel", "source", "(Z)I"⟩ : Cond) ∈ sk_ts := sk_in (List.mem_of_getElem? (i := 785) (by decide +kernel)) rfl
theorem sw_786 : (.selects "StuckLinesModel" ⟨"StuckLinesModel", "source", "(Z)I"⟩ ⟨"StuckLinesModel", "source", "(Z)I"⟩ : Cond) ∈ sk_ts := sk_in (List.mem_of_getElem? (i := 786) (by decide +kernel)) rfl
theorem sw_787 : (.code ⟨"StuckLinesModel", "source", "(Z)I"⟩ prog_9_method_8_code 2 (some .int) : Cond) ∈ sk_ts := sk_in (List.mem_of_getElem? (i := 787) (by decide +kernel)) rfl
theorem sw_772 : (.methodLink "StuckLinesLaw" 78 ⟨"StuckLinesModel", "thrown", "()I"⟩ : Cond) ∈ sk_ts := sk_in (List.mem_of_getElem? (i := 772) (by decide +kernel)) rfl
theorem sw_773 : (.instanceMethod ⟨"StuckLinesModel", "thrown", "()I"⟩ : Cond) ∈ sk_ts := sk_in (List.mem_of_getElem? (i := 773) (by decide +kernel)) rfl
theorem sw_774 : (.selects "StuckLinesModel" ⟨"StuckLinesModel", "thrown", "()I"⟩ ⟨"StuckLinesModel", "thrown", "()I"⟩ : Cond) ∈ sk_ts := sk_in (List.mem_of_getElem? (i := 774) (by decide +kernel)) rfl
theorem sw_775 : (.code ⟨"StuckLinesModel", "thrown", "()I"⟩ prog_9_method_2_code 1 (some .int) : Cond) ∈ sk_ts := sk_in (List.mem_of_getElem? (i := 775) (by decide +kernel)) rfl
theorem sw_439 : (.methodLink "StuckLinesLaw" 82 ⟨"StuckLinesLaw", "gate", "(LStuckLines;IIII[J)I"⟩ : Cond) ∈ sk_ts := sk_in (List.mem_of_getElem? (i := 439) (by decide +kernel)) rfl
theorem sw_440 : (.static ⟨"StuckLinesLaw", "gate", "(LStuckLines;IIII[J)I"⟩ : Cond) ∈ sk_ts := sk_in (List.mem_of_getElem? (i := 440) (by decide +kernel)) rfl
theorem sw_441 : (.codeWith ⟨"StuckLinesLaw", "gate", "(LStuckLines;IIII[J)I"⟩ method_4_code 7 (some .int) [(0, 14, 17, 19), (0, 14, 21, 21), (0, 14, 25, 13)] : Cond) ∈ sk_ts := sk_in (List.mem_of_getElem? (i := 441) (by decide +kernel)) rfl
theorem sw_788 : (.methodLink "StuckLinesLaw" 85 ⟨"StuckLinesModel", "gate", "(IIII)I"⟩ : Cond) ∈ sk_ts := sk_in (List.mem_of_getElem? (i := 788) (by decide +kernel)) rfl
theorem sw_789 : (.instanceMethod ⟨"StuckLinesModel", "gate", "(IIII)I"⟩ : Cond) ∈ sk_ts := sk_in (List.mem_of_getElem? (i := 789) (by decide +kernel)) rfl
theorem sw_790 : (.selects "StuckLinesModel" ⟨"StuckLinesModel", "gate", "(IIII)I"⟩ ⟨"StuckLinesModel", "gate", "(IIII)I"⟩ : Cond) ∈ sk_ts := sk_in (List.mem_of_getElem? (i := 790) (by decide +kernel)) rfl
theorem sw_791 : (.code ⟨"StuckLinesModel", "gate", "(IIII)I"⟩ prog_9_method_9_code 7 (some .int) : Cond) ∈ sk_ts := sk_in (List.mem_of_getElem? (i := 791) (by decide +kernel)) rfl
theorem sw_498 : (.methodLink "StuckLinesLaw" 86 ⟨"StuckLinesLaw", "output", "(LStuckLines;I[J)I"⟩ : Cond) ∈ sk_ts := sk_in (List.mem_of_getElem? (i := 498) (by decide +kernel)) rfl
theorem sw_499 : (.static ⟨"StuckLinesLaw", "output", "(LStuckLines;I[J)I"⟩ : Cond) ∈ sk_ts := sk_in (List.mem_of_getElem? (i := 499) (by decide +kernel)) rfl
theorem sw_500 : (.codeWith ⟨"StuckLinesLaw", "output", "(LStuckLines;I[J)I"⟩ method_5_code 4 (some .int) [(0, 9, 12, 21), (0, 9, 15, 13)] : Cond) ∈ sk_ts := sk_in (List.mem_of_getElem? (i := 500) (by decide +kernel)) rfl
theorem sw_796 : (.methodLink "StuckLinesLaw" 89 ⟨"StuckLinesModel", "output", "(I)I"⟩ : Cond) ∈ sk_ts := sk_in (List.mem_of_getElem? (i := 796) (by decide +kernel)) rfl
theorem sw_797 : (.instanceMethod ⟨"StuckLinesModel", "output", "(I)I"⟩ : Cond) ∈ sk_ts := sk_in (List.mem_of_getElem? (i := 797) (by decide +kernel)) rfl
theorem sw_798 : (.selects "StuckLinesModel" ⟨"StuckLinesModel", "output", "(I)I"⟩ ⟨"StuckLinesModel", "output", "(I)I"⟩ : Cond) ∈ sk_ts := sk_in (List.mem_of_getElem? (i := 798) (by decide +kernel)) rfl
theorem sw_799 : (.code ⟨"StuckLinesModel", "output", "(I)I"⟩ prog_9_method_10_code 4 (some .int) : Cond) ∈ sk_ts := sk_in (List.mem_of_getElem? (i := 799) (by decide +kernel)) rfl
theorem sw_522 : (.methodLink "StuckLinesLaw" 90 ⟨"StuckLinesLaw", "data", "(LStuckLines;II)I"⟩ : Cond) ∈ sk_ts := sk_in (List.mem_of_getElem? (i := 522) (by decide +kernel)) rfl
theorem sw_523 : (.static ⟨"StuckLinesLaw", "data", "(LStuckLines;II)I"⟩ : Cond) ∈ sk_ts := sk_in (List.mem_of_getElem? (i := 523) (by decide +kernel)) rfl
theorem sw_524 : (.codeWith ⟨"StuckLinesLaw", "data", "(LStuckLines;II)I"⟩ method_6_code 4 (some .int) [(0, 6, 9, 21), (0, 6, 12, 19)] : Cond) ∈ sk_ts := sk_in (List.mem_of_getElem? (i := 524) (by decide +kernel)) rfl
theorem sw_800 : (.methodLink "StuckLinesLaw" 93 ⟨"StuckLinesModel", "data", "(II)V"⟩ : Cond) ∈ sk_ts := sk_in (List.mem_of_getElem? (i := 800) (by decide +kernel)) rfl
theorem sw_801 : (.instanceMethod ⟨"StuckLinesModel", "data", "(II)V"⟩ : Cond) ∈ sk_ts := sk_in (List.mem_of_getElem? (i := 801) (by decide +kernel)) rfl
theorem sw_802 : (.selects "StuckLinesModel" ⟨"StuckLinesModel", "data", "(II)V"⟩ ⟨"StuckLinesModel", "data", "(II)V"⟩ : Cond) ∈ sk_ts := sk_in (List.mem_of_getElem? (i := 802) (by decide +kernel)) rfl
theorem sw_803 : (.code ⟨"StuckLinesModel", "data", "(II)V"⟩ prog_9_method_11_code 4 none : Cond) ∈ sk_ts := sk_in (List.mem_of_getElem? (i := 803) (by decide +kernel)) rfl
theorem sw_534 : (.methodLink "StuckLinesLaw" 94 ⟨"StuckLinesLaw", "count", "(LStuckLines;I[J)I"⟩ : Cond) ∈ sk_ts := sk_in (List.mem_of_getElem? (i := 534) (by decide +kernel)) rfl
theorem sw_535 : (.static ⟨"StuckLinesLaw", "count", "(LStuckLines;I[J)I"⟩ : Cond) ∈ sk_ts := sk_in (List.mem_of_getElem? (i := 535) (by decide +kernel)) rfl
theorem sw_536 : (.codeWith ⟨"StuckLinesLaw", "count", "(LStuckLines;I[J)I"⟩ method_7_code 4 (some .int) [(0, 9, 12, 19)] : Cond) ∈ sk_ts := sk_in (List.mem_of_getElem? (i := 536) (by decide +kernel)) rfl
theorem sw_804 : (.methodLink "StuckLinesLaw" 96 ⟨"StuckLinesModel", "count", "(I)I"⟩ : Cond) ∈ sk_ts := sk_in (List.mem_of_getElem? (i := 804) (by decide +kernel)) rfl
theorem sw_805 : (.instanceMethod ⟨"StuckLinesModel", "count", "(I)I"⟩ : Cond) ∈ sk_ts := sk_in (List.mem_of_getElem? (i := 805) (by decide +kernel)) rfl
theorem sw_806 : (.selects "StuckLinesModel" ⟨"StuckLinesModel", "count", "(I)I"⟩ ⟨"StuckLinesModel", "count", "(I)I"⟩ : Cond) ∈ sk_ts := sk_in (List.mem_of_getElem? (i := 806) (by decide +kernel)) rfl
theorem sw_807 : (.code ⟨"StuckLinesModel", "count", "(I)I"⟩ prog_9_method_18_code 5 (some .int) : Cond) ∈ sk_ts := sk_in (List.mem_of_getElem? (i := 807) (by decide +kernel)) rfl
theorem sw_558 : (.methodLink "StuckLinesLaw" 97 ⟨"StuckLinesLaw", "value", "(LStuckLines;III[J)I"⟩ : Cond) ∈ sk_ts := sk_in (List.mem_of_getElem? (i := 558) (by decide +kernel)) rfl
theorem sw_559 : (.static ⟨"StuckLinesLaw", "value", "(LStuckLines;III[J)I"⟩ : Cond) ∈ sk_ts := sk_in (List.mem_of_getElem? (i := 559) (by decide +kernel)) rfl
theorem sw_560 : (.codeWith ⟨"StuckLinesLaw", "value", "(LStuckLines;III[J)I"⟩ method_8_code 6 (some .int) [(0, 12, 15, 21)] : Cond) ∈ sk_ts := sk_in (List.mem_of_getElem? (i := 560) (by decide +kernel)) rfl
theorem sw_835 : (.methodLink "StuckLinesLaw" 100 ⟨"StuckLinesModel", "value", "(III)I"⟩ : Cond) ∈ sk_ts := sk_in (List.mem_of_getElem? (i := 835) (by decide +kernel)) rfl
theorem sw_836 : (.instanceMethod ⟨"StuckLinesModel", "value", "(III)I"⟩ : Cond) ∈ sk_ts := sk_in (List.mem_of_getElem? (i := 836) (by decide +kernel)) rfl
theorem sw_837 : (.selects "StuckLinesModel" ⟨"StuckLinesModel", "value", "(III)I"⟩ ⟨"StuckLinesModel", "value", "(III)I"⟩ : Cond) ∈ sk_ts := sk_in (List.mem_of_getElem? (i := 837) (by decide +kernel)) rfl
theorem sw_838 : (.code ⟨"StuckLinesModel", "value", "(III)I"⟩ prog_9_method_19_code 4 (some .int) : Cond) ∈ sk_ts := sk_in (List.mem_of_getElem? (i := 838) (by decide +kernel)) rfl
theorem sw_585 : (.methodLink "StuckLinesLaw" 101 ⟨"StuckLinesLaw", "response", "(LStuckLines;II[J)I"⟩ : Cond) ∈ sk_ts := sk_in (List.mem_of_getElem? (i := 585) (by decide +kernel)) rfl
theorem sw_586 : (.static ⟨"StuckLinesLaw", "response", "(LStuckLines;II[J)I"⟩ : Cond) ∈ sk_ts := sk_in (List.mem_of_getElem? (i := 586) (by decide +kernel)) rfl
theorem sw_587 : (.codeWith ⟨"StuckLinesLaw", "response", "(LStuckLines;II[J)I"⟩ method_9_code 5 (some .int) [(0, 10, 13, 21)] : Cond) ∈ sk_ts := sk_in (List.mem_of_getElem? (i := 587) (by decide +kernel)) rfl
theorem sw_843 : (.methodLink "StuckLinesLaw" 104 ⟨"StuckLinesModel", "response", "(II)I"⟩ : Cond) ∈ sk_ts := sk_in (List.mem_of_getElem? (i := 843) (by decide +kernel)) rfl
theorem sw_844 : (.instanceMethod ⟨"StuckLinesModel", "response", "(II)I"⟩ : Cond) ∈ sk_ts := sk_in (List.mem_of_getElem? (i := 844) (by decide +kernel)) rfl
theorem sw_845 : (.selects "StuckLinesModel" ⟨"StuckLinesModel", "response", "(II)I"⟩ ⟨"StuckLinesModel", "response", "(II)I"⟩ : Cond) ∈ sk_ts := sk_in (List.mem_of_getElem? (i := 845) (by decide +kernel)) rfl
theorem sw_846 : (.code ⟨"StuckLinesModel", "response", "(II)I"⟩ prog_9_method_20_code 3 (some .int) : Cond) ∈ sk_ts := sk_in (List.mem_of_getElem? (i := 846) (by decide +kernel)) rfl
theorem sw_243 : (.methodLink "StuckLinesLaw" 105 ⟨"StuckLines", "fault", "(III)I"⟩ : Cond) ∈ sk_ts := sk_in (List.mem_of_getElem? (i := 243) (by decide +kernel)) rfl
theorem sw_244 : (.instanceMethod ⟨"StuckLines", "fault", "(III)I"⟩ : Cond) ∈ sk_ts := sk_in (List.mem_of_getElem? (i := 244) (by decide +kernel)) rfl
theorem sw_245 : (.selects "StuckLines" ⟨"StuckLines", "fault", "(III)I"⟩ ⟨"StuckLines", "fault", "(III)I"⟩ : Cond) ∈ sk_ts := sk_in (List.mem_of_getElem? (i := 245) (by decide +kernel)) rfl
theorem sw_246 : (.code ⟨"StuckLines", "fault", "(III)I"⟩ prog_1_method_10_code 4 (some .int) : Cond) ∈ sk_ts := sk_in (List.mem_of_getElem? (i := 246) (by decide +kernel)) rfl
theorem sw_847 : (.methodLink "StuckLinesLaw" 108 ⟨"StuckLinesModel", "fault", "(III)I"⟩ : Cond) ∈ sk_ts := sk_in (List.mem_of_getElem? (i := 847) (by decide +kernel)) rfl
theorem sw_848 : (.instanceMethod ⟨"StuckLinesModel", "fault", "(III)I"⟩ : Cond) ∈ sk_ts := sk_in (List.mem_of_getElem? (i := 848) (by decide +kernel)) rfl
theorem sw_849 : (.selects "StuckLinesModel" ⟨"StuckLinesModel", "fault", "(III)I"⟩ ⟨"StuckLinesModel", "fault", "(III)I"⟩ : Cond) ∈ sk_ts := sk_in (List.mem_of_getElem? (i := 849) (by decide +kernel)) rfl
theorem sw_850 : (.code ⟨"StuckLinesModel", "fault", "(III)I"⟩ prog_9_method_21_code 5 (some .int) : Cond) ∈ sk_ts := sk_in (List.mem_of_getElem? (i := 850) (by decide +kernel)) rfl
theorem sw_593 : (.methodLink "StuckLinesLaw" 109 ⟨"StuckLinesLaw", "faultAt", "(LStuckLines;II[J)I"⟩ : Cond) ∈ sk_ts := sk_in (List.mem_of_getElem? (i := 593) (by decide +kernel)) rfl
theorem sw_594 : (.static ⟨"StuckLinesLaw", "faultAt", "(LStuckLines;II[J)I"⟩ : Cond) ∈ sk_ts := sk_in (List.mem_of_getElem? (i := 594) (by decide +kernel)) rfl
theorem sw_595 : (.codeWith ⟨"StuckLinesLaw", "faultAt", "(LStuckLines;II[J)I"⟩ method_10_code 5 (some .int) [(0, 10, 13, 21), (0, 10, 17, 19)] : Cond) ∈ sk_ts := sk_in (List.mem_of_getElem? (i := 595) (by decide +kernel)) rfl
theorem sw_851 : (.methodLink "StuckLinesLaw" 111 ⟨"StuckLinesModel", "faultAt", "(II)I"⟩ : Cond) ∈ sk_ts := sk_in (List.mem_of_getElem? (i := 851) (by decide +kernel)) rfl
theorem sw_852 : (.instanceMethod ⟨"StuckLinesModel", "faultAt", "(II)I"⟩ : Cond) ∈ sk_ts := sk_in (List.mem_of_getElem? (i := 852) (by decide +kernel)) rfl
theorem sw_853 : (.selects "StuckLinesModel" ⟨"StuckLinesModel", "faultAt", "(II)I"⟩ ⟨"StuckLinesModel", "faultAt", "(II)I"⟩ : Cond) ∈ sk_ts := sk_in (List.mem_of_getElem? (i := 853) (by decide +kernel)) rfl
theorem sw_854 : (.code ⟨"StuckLinesModel", "faultAt", "(II)I"⟩ prog_9_method_22_code 3 (some .int) : Cond) ∈ sk_ts := sk_in (List.mem_of_getElem? (i := 854) (by decide +kernel)) rfl
theorem sw_603 : (.methodLink "StuckLinesLaw" 112 ⟨"StuckLinesLaw", "least", "(LStuckLines;I[J)I"⟩ : Cond) ∈ sk_ts := sk_in (List.mem_of_getElem? (i := 603) (by decide +kernel)) rfl
theorem sw_604 : (.static ⟨"StuckLinesLaw", "least", "(LStuckLines;I[J)I"⟩ : Cond) ∈ sk_ts := sk_in (List.mem_of_getElem? (i := 604) (by decide +kernel)) rfl
theorem sw_605 : (.codeWith ⟨"StuckLinesLaw", "least", "(LStuckLines;I[J)I"⟩ method_11_code 4 (some .int) [(0, 9, 12, 21)] : Cond) ∈ sk_ts := sk_in (List.mem_of_getElem? (i := 605) (by decide +kernel)) rfl
theorem sw_855 : (.methodLink "StuckLinesLaw" 114 ⟨"StuckLinesModel", "least", "(I)I"⟩ : Cond) ∈ sk_ts := sk_in (List.mem_of_getElem? (i := 855) (by decide +kernel)) rfl
theorem sw_856 : (.instanceMethod ⟨"StuckLinesModel", "least", "(I)I"⟩ : Cond) ∈ sk_ts := sk_in (List.mem_of_getElem? (i := 856) (by decide +kernel)) rfl
theorem sw_857 : (.selects "StuckLinesModel" ⟨"StuckLinesModel", "least", "(I)I"⟩ ⟨"StuckLinesModel", "least", "(I)I"⟩ : Cond) ∈ sk_ts := sk_in (List.mem_of_getElem? (i := 857) (by decide +kernel)) rfl
theorem sw_858 : (.code ⟨"StuckLinesModel", "least", "(I)I"⟩ prog_9_method_23_code 2 (some .int) : Cond) ∈ sk_ts := sk_in (List.mem_of_getElem? (i := 858) (by decide +kernel)) rfl
theorem sw_611 : (.methodLink "StuckLinesLaw" 115 ⟨"StuckLinesLaw", "showing", "(LStuckLines;I[J)I"⟩ : Cond) ∈ sk_ts := sk_in (List.mem_of_getElem? (i := 611) (by decide +kernel)) rfl
theorem sw_612 : (.static ⟨"StuckLinesLaw", "showing", "(LStuckLines;I[J)I"⟩ : Cond) ∈ sk_ts := sk_in (List.mem_of_getElem? (i := 612) (by decide +kernel)) rfl
theorem sw_613 : (.codeWith ⟨"StuckLinesLaw", "showing", "(LStuckLines;I[J)I"⟩ method_12_code 4 (some .int) [(0, 8, 11, 21)] : Cond) ∈ sk_ts := sk_in (List.mem_of_getElem? (i := 613) (by decide +kernel)) rfl
theorem sw_859 : (.methodLink "StuckLinesLaw" 117 ⟨"StuckLinesModel", "showing", "(I)J"⟩ : Cond) ∈ sk_ts := sk_in (List.mem_of_getElem? (i := 859) (by decide +kernel)) rfl
theorem sw_860 : (.instanceMethod ⟨"StuckLinesModel", "showing", "(I)J"⟩ : Cond) ∈ sk_ts := sk_in (List.mem_of_getElem? (i := 860) (by decide +kernel)) rfl
theorem sw_861 : (.selects "StuckLinesModel" ⟨"StuckLinesModel", "showing", "(I)J"⟩ ⟨"StuckLinesModel", "showing", "(I)J"⟩ : Cond) ∈ sk_ts := sk_in (List.mem_of_getElem? (i := 861) (by decide +kernel)) rfl
theorem sw_862 : (.code ⟨"StuckLinesModel", "showing", "(I)J"⟩ prog_9_method_24_code 5 (some .long) : Cond) ∈ sk_ts := sk_in (List.mem_of_getElem? (i := 862) (by decide +kernel)) rfl
theorem sw_619 : (.methodLink "StuckLinesLaw" 118 ⟨"StuckLinesLaw", "alike", "(LStuckLines;I[J)I"⟩ : Cond) ∈ sk_ts := sk_in (List.mem_of_getElem? (i := 619) (by decide +kernel)) rfl
theorem sw_620 : (.static ⟨"StuckLinesLaw", "alike", "(LStuckLines;I[J)I"⟩ : Cond) ∈ sk_ts := sk_in (List.mem_of_getElem? (i := 620) (by decide +kernel)) rfl
theorem sw_621 : (.codeWith ⟨"StuckLinesLaw", "alike", "(LStuckLines;I[J)I"⟩ method_13_code 4 (some .int) [(0, 9, 12, 21)] : Cond) ∈ sk_ts := sk_in (List.mem_of_getElem? (i := 621) (by decide +kernel)) rfl
theorem sw_863 : (.methodLink "StuckLinesLaw" 120 ⟨"StuckLinesModel", "alike", "(I)I"⟩ : Cond) ∈ sk_ts := sk_in (List.mem_of_getElem? (i := 863) (by decide +kernel)) rfl
theorem sw_864 : (.instanceMethod ⟨"StuckLinesModel", "alike", "(I)I"⟩ : Cond) ∈ sk_ts := sk_in (List.mem_of_getElem? (i := 864) (by decide +kernel)) rfl
theorem sw_865 : (.selects "StuckLinesModel" ⟨"StuckLinesModel", "alike", "(I)I"⟩ ⟨"StuckLinesModel", "alike", "(I)I"⟩ : Cond) ∈ sk_ts := sk_in (List.mem_of_getElem? (i := 865) (by decide +kernel)) rfl
theorem sw_866 : (.code ⟨"StuckLinesModel", "alike", "(I)I"⟩ prog_9_method_25_code 2 (some .int) : Cond) ∈ sk_ts := sk_in (List.mem_of_getElem? (i := 866) (by decide +kernel)) rfl
theorem sw_627 : (.methodLink "StuckLinesLaw" 121 ⟨"StuckLinesLaw", "ternary", "(LStuckLines;IIII[J)I"⟩ : Cond) ∈ sk_ts := sk_in (List.mem_of_getElem? (i := 627) (by decide +kernel)) rfl
theorem sw_628 : (.static ⟨"StuckLinesLaw", "ternary", "(LStuckLines;IIII[J)I"⟩ : Cond) ∈ sk_ts := sk_in (List.mem_of_getElem? (i := 628) (by decide +kernel)) rfl
theorem sw_629 : (.codeWith ⟨"StuckLinesLaw", "ternary", "(LStuckLines;IIII[J)I"⟩ method_14_code 7 (some .int) [(0, 14, 17, 21), (0, 14, 21, 19)] : Cond) ∈ sk_ts := sk_in (List.mem_of_getElem? (i := 629) (by decide +kernel)) rfl
theorem sw_867 : (.methodLink "StuckLinesLaw" 123 ⟨"StuckLinesModel", "ternary", "(IIII)I"⟩ : Cond) ∈ sk_ts := sk_in (List.mem_of_getElem? (i := 867) (by decide +kernel)) rfl
theorem sw_868 : (.instanceMethod ⟨"StuckLinesModel", "ternary", "(IIII)I"⟩ : Cond) ∈ sk_ts := sk_in (List.mem_of_getElem? (i := 868) (by decide +kernel)) rfl
theorem sw_869 : (.selects "StuckLinesModel" ⟨"StuckLinesModel", "ternary", "(IIII)I"⟩ ⟨"StuckLinesModel", "ternary", "(IIII)I"⟩ : Cond) ∈ sk_ts := sk_in (List.mem_of_getElem? (i := 869) (by decide +kernel)) rfl
theorem sw_870 : (.code ⟨"StuckLinesModel", "ternary", "(IIII)I"⟩ prog_9_method_26_code 7 (some .int) : Cond) ∈ sk_ts := sk_in (List.mem_of_getElem? (i := 870) (by decide +kernel)) rfl
theorem sw_645 : (.methodLink "StuckLinesLaw" 124 ⟨"StuckLinesLaw", "cube", "(LStuckLines;I[J)I"⟩ : Cond) ∈ sk_ts := sk_in (List.mem_of_getElem? (i := 645) (by decide +kernel)) rfl
theorem sw_646 : (.static ⟨"StuckLinesLaw", "cube", "(LStuckLines;I[J)I"⟩ : Cond) ∈ sk_ts := sk_in (List.mem_of_getElem? (i := 646) (by decide +kernel)) rfl
theorem sw_647 : (.codeWith ⟨"StuckLinesLaw", "cube", "(LStuckLines;I[J)I"⟩ method_15_code 4 (some .int) [(0, 9, 12, 21)] : Cond) ∈ sk_ts := sk_in (List.mem_of_getElem? (i := 647) (by decide +kernel)) rfl
theorem sw_871 : (.methodLink "StuckLinesLaw" 126 ⟨"StuckLinesModel", "cube", "(I)I"⟩ : Cond) ∈ sk_ts := sk_in (List.mem_of_getElem? (i := 871) (by decide +kernel)) rfl
theorem sw_872 : (.instanceMethod ⟨"StuckLinesModel", "cube", "(I)I"⟩ : Cond) ∈ sk_ts := sk_in (List.mem_of_getElem? (i := 872) (by decide +kernel)) rfl
theorem sw_873 : (.selects "StuckLinesModel" ⟨"StuckLinesModel", "cube", "(I)I"⟩ ⟨"StuckLinesModel", "cube", "(I)I"⟩ : Cond) ∈ sk_ts := sk_in (List.mem_of_getElem? (i := 873) (by decide +kernel)) rfl
theorem sw_874 : (.code ⟨"StuckLinesModel", "cube", "(I)I"⟩ prog_9_method_28_code 6 (some .int) : Cond) ∈ sk_ts := sk_in (List.mem_of_getElem? (i := 874) (by decide +kernel)) rfl
theorem sw_255 : (.methodLink "StuckLinesLaw" 127 ⟨"StuckLines", "packed", "(I)I"⟩ : Cond) ∈ sk_ts := sk_in (List.mem_of_getElem? (i := 255) (by decide +kernel)) rfl
theorem sw_256 : (.instanceMethod ⟨"StuckLines", "packed", "(I)I"⟩ : Cond) ∈ sk_ts := sk_in (List.mem_of_getElem? (i := 256) (by decide +kernel)) rfl
theorem sw_257 : (.selects "StuckLines" ⟨"StuckLines", "packed", "(I)I"⟩ ⟨"StuckLines", "packed", "(I)I"⟩ : Cond) ∈ sk_ts := sk_in (List.mem_of_getElem? (i := 257) (by decide +kernel)) rfl
theorem sw_258 : (.code ⟨"StuckLines", "packed", "(I)I"⟩ prog_1_method_17_code 2 (some .int) : Cond) ∈ sk_ts := sk_in (List.mem_of_getElem? (i := 258) (by decide +kernel)) rfl
theorem sw_879 : (.methodLink "StuckLinesLaw" 130 ⟨"StuckLinesModel", "packed", "(I)I"⟩ : Cond) ∈ sk_ts := sk_in (List.mem_of_getElem? (i := 879) (by decide +kernel)) rfl
theorem sw_880 : (.instanceMethod ⟨"StuckLinesModel", "packed", "(I)I"⟩ : Cond) ∈ sk_ts := sk_in (List.mem_of_getElem? (i := 880) (by decide +kernel)) rfl
theorem sw_881 : (.selects "StuckLinesModel" ⟨"StuckLinesModel", "packed", "(I)I"⟩ ⟨"StuckLinesModel", "packed", "(I)I"⟩ : Cond) ∈ sk_ts := sk_in (List.mem_of_getElem? (i := 881) (by decide +kernel)) rfl
theorem sw_882 : (.code ⟨"StuckLinesModel", "packed", "(I)I"⟩ prog_9_method_31_code 4 (some .int) : Cond) ∈ sk_ts := sk_in (List.mem_of_getElem? (i := 882) (by decide +kernel)) rfl
theorem sw_665 : (.methodLink "StuckLinesLaw" 131 ⟨"StuckLinesLaw", "log", "(LStuckLines;II[J)I"⟩ : Cond) ∈ sk_ts := sk_in (List.mem_of_getElem? (i := 665) (by decide +kernel)) rfl
theorem sw_666 : (.static ⟨"StuckLinesLaw", "log", "(LStuckLines;II[J)I"⟩ : Cond) ∈ sk_ts := sk_in (List.mem_of_getElem? (i := 666) (by decide +kernel)) rfl
theorem sw_667 : (.codeWith ⟨"StuckLinesLaw", "log", "(LStuckLines;II[J)I"⟩ method_16_code 5 (some .int) [(0, 10, 13, 21), (0, 10, 17, 19), (0, 10, 21, 13)] : Cond) ∈ sk_ts := sk_in (List.mem_of_getElem? (i := 667) (by decide +kernel)) rfl
theorem sw_891 : (.methodLink "StuckLinesLaw" 133 ⟨"StuckLinesModel", "log", "(II)I"⟩ : Cond) ∈ sk_ts := sk_in (List.mem_of_getElem? (i := 891) (by decide +kernel)) rfl
theorem sw_892 : (.instanceMethod ⟨"StuckLinesModel", "log", "(II)I"⟩ : Cond) ∈ sk_ts := sk_in (List.mem_of_getElem? (i := 892) (by decide +kernel)) rfl
theorem sw_893 : (.selects "StuckLinesModel" ⟨"StuckLinesModel", "log", "(II)I"⟩ ⟨"StuckLinesModel", "log", "(II)I"⟩ : Cond) ∈ sk_ts := sk_in (List.mem_of_getElem? (i := 893) (by decide +kernel)) rfl
theorem sw_894 : (.code ⟨"StuckLinesModel", "log", "(II)I"⟩ prog_9_method_32_code 3 (some .int) : Cond) ∈ sk_ts := sk_in (List.mem_of_getElem? (i := 894) (by decide +kernel)) rfl
theorem sw_334 : (.methodLink "StuckLinesLaw" 134 ⟨"StuckLines", "forget", "()I"⟩ : Cond) ∈ sk_ts := sk_in (List.mem_of_getElem? (i := 334) (by decide +kernel)) rfl
theorem sw_335 : (.instanceMethod ⟨"StuckLines", "forget", "()I"⟩ : Cond) ∈ sk_ts := sk_in (List.mem_of_getElem? (i := 335) (by decide +kernel)) rfl
theorem sw_336 : (.selects "StuckLines" ⟨"StuckLines", "forget", "()I"⟩ ⟨"StuckLines", "forget", "()I"⟩ : Cond) ∈ sk_ts := sk_in (List.mem_of_getElem? (i := 336) (by decide +kernel)) rfl
theorem sw_337 : (.code ⟨"StuckLines", "forget", "()I"⟩ prog_1_method_19_code 2 (some .int) : Cond) ∈ sk_ts := sk_in (List.mem_of_getElem? (i := 337) (by decide +kernel)) rfl
theorem sw_895 : (.methodLink "StuckLinesLaw" 137 ⟨"StuckLinesModel", "forget", "()I"⟩ : Cond) ∈ sk_ts := sk_in (List.mem_of_getElem? (i := 895) (by decide +kernel)) rfl
theorem sw_896 : (.instanceMethod ⟨"StuckLinesModel", "forget", "()I"⟩ : Cond) ∈ sk_ts := sk_in (List.mem_of_getElem? (i := 896) (by decide +kernel)) rfl
theorem sw_897 : (.selects "StuckLinesModel" ⟨"StuckLinesModel", "forget", "()I"⟩ ⟨"StuckLinesModel", "forget", "()I"⟩ : Cond) ∈ sk_ts := sk_in (List.mem_of_getElem? (i := 897) (by decide +kernel)) rfl
theorem sw_898 : (.code ⟨"StuckLinesModel", "forget", "()I"⟩ prog_9_method_33_code 2 (some .int) : Cond) ∈ sk_ts := sk_in (List.mem_of_getElem? (i := 898) (by decide +kernel)) rfl
theorem sw_338 : (.methodLink "StuckLinesLaw" 138 ⟨"StuckLines", "explains", "(I)I"⟩ : Cond) ∈ sk_ts := sk_in (List.mem_of_getElem? (i := 338) (by decide +kernel)) rfl
theorem sw_339 : (.instanceMethod ⟨"StuckLines", "explains", "(I)I"⟩ : Cond) ∈ sk_ts := sk_in (List.mem_of_getElem? (i := 339) (by decide +kernel)) rfl
theorem sw_340 : (.selects "StuckLines" ⟨"StuckLines", "explains", "(I)I"⟩ ⟨"StuckLines", "explains", "(I)I"⟩ : Cond) ∈ sk_ts := sk_in (List.mem_of_getElem? (i := 340) (by decide +kernel)) rfl
theorem sw_341 : (.code ⟨"StuckLines", "explains", "(I)I"⟩ prog_1_method_20_code 4 (some .int) : Cond) ∈ sk_ts := sk_in (List.mem_of_getElem? (i := 341) (by decide +kernel)) rfl
theorem sw_899 : (.methodLink "StuckLinesLaw" 141 ⟨"StuckLinesModel", "explains", "(I)I"⟩ : Cond) ∈ sk_ts := sk_in (List.mem_of_getElem? (i := 899) (by decide +kernel)) rfl
theorem sw_900 : (.instanceMethod ⟨"StuckLinesModel", "explains", "(I)I"⟩ : Cond) ∈ sk_ts := sk_in (List.mem_of_getElem? (i := 900) (by decide +kernel)) rfl
theorem sw_901 : (.selects "StuckLinesModel" ⟨"StuckLinesModel", "explains", "(I)I"⟩ ⟨"StuckLinesModel", "explains", "(I)I"⟩ : Cond) ∈ sk_ts := sk_in (List.mem_of_getElem? (i := 901) (by decide +kernel)) rfl
theorem sw_902 : (.code ⟨"StuckLinesModel", "explains", "(I)I"⟩ prog_9_method_35_code 4 (some .int) : Cond) ∈ sk_ts := sk_in (List.mem_of_getElem? (i := 902) (by decide +kernel)) rfl
theorem sw_23 : (.classLink "StuckLines" 9 "StuckLines$Circuit" : Cond) ∈ sk_ts := sk_in (List.mem_of_getElem? (i := 23) (by decide +kernel)) rfl
theorem sw_24 : (.instantiable "StuckLines$Circuit" 15 : Cond) ∈ sk_ts := sk_in (List.mem_of_getElem? (i := 24) (by decide +kernel)) rfl
theorem sw_212 : (.fieldLink "StuckLines" 12 "StuckLines" "circuit" "LStuckLines$Circuit;" : Cond) ∈ sk_ts := sk_in (List.mem_of_getElem? (i := 212) (by decide +kernel)) rfl
theorem sw_96 : (.classLink "StuckLines" 16 "StuckLines$Signals" : Cond) ∈ sk_ts := sk_in (List.mem_of_getElem? (i := 96) (by decide +kernel)) rfl
theorem sw_97 : (.instantiable "StuckLines$Signals" 7 : Cond) ∈ sk_ts := sk_in (List.mem_of_getElem? (i := 97) (by decide +kernel)) rfl
theorem sw_213 : (.fieldLink "StuckLines" 21 "StuckLines" "signals" "LStuckLines$Signals;" : Cond) ∈ sk_ts := sk_in (List.mem_of_getElem? (i := 213) (by decide +kernel)) rfl
theorem sw_125 : (.classLink "StuckLines" 25 "StuckLines$Responses" : Cond) ∈ sk_ts := sk_in (List.mem_of_getElem? (i := 125) (by decide +kernel)) rfl
theorem sw_126 : (.instantiable "StuckLines$Responses" 5 : Cond) ∈ sk_ts := sk_in (List.mem_of_getElem? (i := 126) (by decide +kernel)) rfl
theorem sw_214 : (.fieldLink "StuckLines" 28 "StuckLines" "responses" "LStuckLines$Responses;" : Cond) ∈ sk_ts := sk_in (List.mem_of_getElem? (i := 214) (by decide +kernel)) rfl
theorem sw_149 : (.classLink "StuckLines" 32 "StuckLines$Cubes" : Cond) ∈ sk_ts := sk_in (List.mem_of_getElem? (i := 149) (by decide +kernel)) rfl
theorem sw_150 : (.instantiable "StuckLines$Cubes" 3 : Cond) ∈ sk_ts := sk_in (List.mem_of_getElem? (i := 150) (by decide +kernel)) rfl
theorem sw_215 : (.fieldLink "StuckLines" 35 "StuckLines" "cubes" "LStuckLines$Cubes;" : Cond) ∈ sk_ts := sk_in (List.mem_of_getElem? (i := 215) (by decide +kernel)) rfl
theorem sw_167 : (.classLink "StuckLines" 39 "StuckLines$PackedSet" : Cond) ∈ sk_ts := sk_in (List.mem_of_getElem? (i := 167) (by decide +kernel)) rfl
theorem sw_168 : (.instantiable "StuckLines$PackedSet" 6 : Cond) ∈ sk_ts := sk_in (List.mem_of_getElem? (i := 168) (by decide +kernel)) rfl
theorem sw_216 : (.fieldLink "StuckLines" 44 "StuckLines" "packedSet" "LStuckLines$PackedSet;" : Cond) ∈ sk_ts := sk_in (List.mem_of_getElem? (i := 216) (by decide +kernel)) rfl
theorem sw_192 : (.classLink "StuckLines" 48 "StuckLines$SeenLog" : Cond) ∈ sk_ts := sk_in (List.mem_of_getElem? (i := 192) (by decide +kernel)) rfl
theorem sw_193 : (.instantiable "StuckLines$SeenLog" 4 : Cond) ∈ sk_ts := sk_in (List.mem_of_getElem? (i := 193) (by decide +kernel)) rfl
theorem sw_217 : (.fieldLink "StuckLines" 53 "StuckLines" "seen" "LStuckLines$SeenLog;" : Cond) ∈ sk_ts := sk_in (List.mem_of_getElem? (i := 217) (by decide +kernel)) rfl
theorem sw_29 : (.fieldLink "StuckLines$Circuit" 9 "StuckLines$Circuit" "version" "I" : Cond) ∈ sk_ts := sk_in (List.mem_of_getElem? (i := 29) (by decide +kernel)) rfl
theorem sw_32 : (.fieldLink "StuckLines$Circuit" 15 "StuckLines$Circuit" "lines" "I" : Cond) ∈ sk_ts := sk_in (List.mem_of_getElem? (i := 32) (by decide +kernel)) rfl
theorem sw_35 : (.fieldLink "StuckLines$Circuit" 18 "StuckLines$Circuit" "sources" "I" : Cond) ∈ sk_ts := sk_in (List.mem_of_getElem? (i := 35) (by decide +kernel)) rfl
theorem sw_38 : (.fieldLink "StuckLines$Circuit" 21 "StuckLines$Circuit" "outputs" "I" : Cond) ∈ sk_ts := sk_in (List.mem_of_getElem? (i := 38) (by decide +kernel)) rfl
theorem sw_40 : (.fieldLink "StuckLines$Circuit" 24 "StuckLines$Circuit" "observed" "I" : Cond) ∈ sk_ts := sk_in (List.mem_of_getElem? (i := 40) (by decide +kernel)) rfl
theorem sw_44 : (.fieldLink "StuckLines$Circuit" 27 "StuckLines$Circuit" "pins" "I" : Cond) ∈ sk_ts := sk_in (List.mem_of_getElem? (i := 44) (by decide +kernel)) rfl
theorem sw_45 : (.fieldLink "StuckLines$Circuit" 30 "StuckLines$Circuit" "kindOf" "[I" : Cond) ∈ sk_ts := sk_in (List.mem_of_getElem? (i := 45) (by decide +kernel)) rfl
theorem sw_47 : (.fieldLink "StuckLines$Circuit" 34 "StuckLines$Circuit" "sourceOf" "[I" : Cond) ∈ sk_ts := sk_in (List.mem_of_getElem? (i := 47) (by decide +kernel)) rfl
theorem sw_49 : (.fieldLink "StuckLines$Circuit" 37 "StuckLines$Circuit" "isFlop" "[Z" : Cond) ∈ sk_ts := sk_in (List.mem_of_getElem? (i := 49) (by decide +kernel)) rfl
theorem sw_51 : (.fieldLink "StuckLines$Circuit" 41 "StuckLines$Circuit" "firstPin" "[I" : Cond) ∈ sk_ts := sk_in (List.mem_of_getElem? (i := 51) (by decide +kernel)) rfl
theorem sw_54 : (.fieldLink "StuckLines$Circuit" 44 "StuckLines$Circuit" "lineReadBy" "[I" : Cond) ∈ sk_ts := sk_in (List.mem_of_getElem? (i := 54) (by decide +kernel)) rfl
theorem sw_56 : (.fieldLink "StuckLines$Circuit" 47 "StuckLines$Circuit" "gateOfPin" "[I" : Cond) ∈ sk_ts := sk_in (List.mem_of_getElem? (i := 56) (by decide +kernel)) rfl
theorem sw_58 : (.fieldLink "StuckLines$Circuit" 50 "StuckLines$Circuit" "observedLine" "[I" : Cond) ∈ sk_ts := sk_in (List.mem_of_getElem? (i := 58) (by decide +kernel)) rfl
theorem sw_61 : (.fieldLink "StuckLines$Circuit" 53 "StuckLines$Circuit" "dataOf" "[I" : Cond) ∈ sk_ts := sk_in (List.mem_of_getElem? (i := 61) (by decide +kernel)) rfl
theorem sw_62 : (.fieldLink "StuckLines$Circuit" 56 "StuckLines$Circuit" "outputLine" "[I" : Cond) ∈ sk_ts := sk_in (List.mem_of_getElem? (i := 62) (by decide +kernel)) rfl
theorem sw_103 : (.fieldLink "StuckLines$Signals" 9 "StuckLines$Signals" "sourceOnes" "[J" : Cond) ∈ sk_ts := sk_in (List.mem_of_getElem? (i := 103) (by decide +kernel)) rfl
theorem sw_104 : (.fieldLink "StuckLines$Signals" 15 "StuckLines$Signals" "sourceZeros" "[J" : Cond) ∈ sk_ts := sk_in (List.mem_of_getElem? (i := 104) (by decide +kernel)) rfl
theorem sw_105 : (.fieldLink "StuckLines$Signals" 18 "StuckLines$Signals" "ones" "[J" : Cond) ∈ sk_ts := sk_in (List.mem_of_getElem? (i := 105) (by decide +kernel)) rfl
theorem sw_106 : (.fieldLink "StuckLines$Signals" 21 "StuckLines$Signals" "zeros" "[J" : Cond) ∈ sk_ts := sk_in (List.mem_of_getElem? (i := 106) (by decide +kernel)) rfl
theorem sw_107 : (.fieldLink "StuckLines$Signals" 24 "StuckLines$Signals" "stuckPin" "I" : Cond) ∈ sk_ts := sk_in (List.mem_of_getElem? (i := 107) (by decide +kernel)) rfl
theorem sw_108 : (.fieldLink "StuckLines$Signals" 28 "StuckLines$Signals" "stuckOnes" "J" : Cond) ∈ sk_ts := sk_in (List.mem_of_getElem? (i := 108) (by decide +kernel)) rfl
theorem sw_102 : (.fieldLink "StuckLines$Signals" 32 "StuckLines$Signals" "circuit" "LStuckLines$Circuit;" : Cond) ∈ sk_ts := sk_in (List.mem_of_getElem? (i := 102) (by decide +kernel)) rfl
theorem sw_135 : (.fieldLink "StuckLines$Responses" 9 "StuckLines$Responses" "observedOnes" "[J" : Cond) ∈ sk_ts := sk_in (List.mem_of_getElem? (i := 135) (by decide +kernel)) rfl
theorem sw_136 : (.fieldLink "StuckLines$Responses" 15 "StuckLines$Responses" "shownBy" "[J" : Cond) ∈ sk_ts := sk_in (List.mem_of_getElem? (i := 136) (by decide +kernel)) rfl
theorem sw_137 : (.fieldLink "StuckLines$Responses" 18 "StuckLines$Responses" "versionOf" "[I" : Cond) ∈ sk_ts := sk_in (List.mem_of_getElem? (i := 137) (by decide +kernel)) rfl
theorem sw_133 : (.fieldLink "StuckLines$Responses" 22 "StuckLines$Responses" "circuit" "LStuckLines$Circuit;" : Cond) ∈ sk_ts := sk_in (List.mem_of_getElem? (i := 133) (by decide +kernel)) rfl
theorem sw_131 : (.classLink "StuckLines$Responses" 26 "StuckLines$Signals" : Cond) ∈ sk_ts := sk_in (List.mem_of_getElem? (i := 131) (by decide +kernel)) rfl
theorem sw_134 : (.fieldLink "StuckLines$Responses" 31 "StuckLines$Responses" "signals" "LStuckLines$Signals;" : Cond) ∈ sk_ts := sk_in (List.mem_of_getElem? (i := 134) (by decide +kernel)) rfl
theorem sw_157 : (.fieldLink "StuckLines$Cubes" 9 "StuckLines$Cubes" "circuit" "LStuckLines$Circuit;" : Cond) ∈ sk_ts := sk_in (List.mem_of_getElem? (i := 157) (by decide +kernel)) rfl
theorem sw_155 : (.classLink "StuckLines$Cubes" 15 "StuckLines$Signals" : Cond) ∈ sk_ts := sk_in (List.mem_of_getElem? (i := 155) (by decide +kernel)) rfl
theorem sw_158 : (.fieldLink "StuckLines$Cubes" 20 "StuckLines$Cubes" "sound" "LStuckLines$Signals;" : Cond) ∈ sk_ts := sk_in (List.mem_of_getElem? (i := 158) (by decide +kernel)) rfl
theorem sw_159 : (.fieldLink "StuckLines$Cubes" 24 "StuckLines$Cubes" "faulty" "LStuckLines$Signals;" : Cond) ∈ sk_ts := sk_in (List.mem_of_getElem? (i := 159) (by decide +kernel)) rfl
theorem sw_175 : (.fieldLink "StuckLines$PackedSet" 9 "StuckLines$PackedSet" "vectors" "[I" : Cond) ∈ sk_ts := sk_in (List.mem_of_getElem? (i := 175) (by decide +kernel)) rfl
theorem sw_176 : (.fieldLink "StuckLines$PackedSet" 15 "StuckLines$PackedSet" "size" "I" : Cond) ∈ sk_ts := sk_in (List.mem_of_getElem? (i := 176) (by decide +kernel)) rfl
theorem sw_177 : (.fieldLink "StuckLines$PackedSet" 19 "StuckLines$PackedSet" "members" "J" : Cond) ∈ sk_ts := sk_in (List.mem_of_getElem? (i := 177) (by decide +kernel)) rfl
theorem sw_178 : (.fieldLink "StuckLines$PackedSet" 23 "StuckLines$PackedSet" "version" "I" : Cond) ∈ sk_ts := sk_in (List.mem_of_getElem? (i := 178) (by decide +kernel)) rfl
theorem sw_173 : (.fieldLink "StuckLines$PackedSet" 26 "StuckLines$PackedSet" "circuit" "LStuckLines$Circuit;" : Cond) ∈ sk_ts := sk_in (List.mem_of_getElem? (i := 173) (by decide +kernel)) rfl
theorem sw_174 : (.fieldLink "StuckLines$PackedSet" 30 "StuckLines$PackedSet" "responses" "LStuckLines$Responses;" : Cond) ∈ sk_ts := sk_in (List.mem_of_getElem? (i := 174) (by decide +kernel)) rfl
theorem sw_199 : (.fieldLink "StuckLines$SeenLog" 9 "StuckLines$SeenLog" "vectors" "[I" : Cond) ∈ sk_ts := sk_in (List.mem_of_getElem? (i := 199) (by decide +kernel)) rfl
theorem sw_200 : (.fieldLink "StuckLines$SeenLog" 15 "StuckLines$SeenLog" "seenResponses" "[I" : Cond) ∈ sk_ts := sk_in (List.mem_of_getElem? (i := 200) (by decide +kernel)) rfl
theorem sw_201 : (.fieldLink "StuckLines$SeenLog" 18 "StuckLines$SeenLog" "size" "I" : Cond) ∈ sk_ts := sk_in (List.mem_of_getElem? (i := 201) (by decide +kernel)) rfl
theorem sw_198 : (.fieldLink "StuckLines$SeenLog" 22 "StuckLines$SeenLog" "responses" "LStuckLines$Responses;" : Cond) ∈ sk_ts := sk_in (List.mem_of_getElem? (i := 198) (by decide +kernel)) rfl
theorem sw_33 : (.fieldLink "StuckLines" 65 "StuckLines$Circuit" "lines" "I" : Cond) ∈ sk_ts := sk_in (List.mem_of_getElem? (i := 33) (by decide +kernel)) rfl
theorem sw_53 : (.fieldLink "StuckLines" 165 "StuckLines$Circuit" "firstPin" "[I" : Cond) ∈ sk_ts := sk_in (List.mem_of_getElem? (i := 53) (by decide +kernel)) rfl
theorem sw_31 : (.fieldLink "StuckLines$Responses" 45 "StuckLines$Circuit" "version" "I" : Cond) ∈ sk_ts := sk_in (List.mem_of_getElem? (i := 31) (by decide +kernel)) rfl
theorem sw_41 : (.fieldLink "StuckLines$Responses" 57 "StuckLines$Circuit" "observed" "I" : Cond) ∈ sk_ts := sk_in (List.mem_of_getElem? (i := 41) (by decide +kernel)) rfl
theorem sw_59 : (.fieldLink "StuckLines$Responses" 60 "StuckLines$Circuit" "observedLine" "[I" : Cond) ∈ sk_ts := sk_in (List.mem_of_getElem? (i := 59) (by decide +kernel)) rfl
theorem sw_34 : (.fieldLink "StuckLines$Signals" 53 "StuckLines$Circuit" "lines" "I" : Cond) ∈ sk_ts := sk_in (List.mem_of_getElem? (i := 34) (by decide +kernel)) rfl
theorem sw_46 : (.fieldLink "StuckLines$Signals" 56 "StuckLines$Circuit" "kindOf" "[I" : Cond) ∈ sk_ts := sk_in (List.mem_of_getElem? (i := 46) (by decide +kernel)) rfl
theorem sw_48 : (.fieldLink "StuckLines$Signals" 60 "StuckLines$Circuit" "sourceOf" "[I" : Cond) ∈ sk_ts := sk_in (List.mem_of_getElem? (i := 48) (by decide +kernel)) rfl
theorem sw_52 : (.fieldLink "StuckLines$Signals" 66 "StuckLines$Circuit" "firstPin" "[I" : Cond) ∈ sk_ts := sk_in (List.mem_of_getElem? (i := 52) (by decide +kernel)) rfl
theorem sw_55 : (.fieldLink "StuckLines$Signals" 69 "StuckLines$Circuit" "lineReadBy" "[I" : Cond) ∈ sk_ts := sk_in (List.mem_of_getElem? (i := 55) (by decide +kernel)) rfl
theorem sw_30 : (.fieldLink "StuckLines$PackedSet" 34 "StuckLines$Circuit" "version" "I" : Cond) ∈ sk_ts := sk_in (List.mem_of_getElem? (i := 30) (by decide +kernel)) rfl
theorem sw_202 : (.fieldLink "StuckLines" 212 "StuckLines$SeenLog" "size" "I" : Cond) ∈ sk_ts := sk_in (List.mem_of_getElem? (i := 202) (by decide +kernel)) rfl
theorem sw_37 : (.fieldLink "StuckLines" 61 "StuckLines$Circuit" "sources" "I" : Cond) ∈ sk_ts := sk_in (List.mem_of_getElem? (i := 37) (by decide +kernel)) rfl
theorem sw_39 : (.fieldLink "StuckLines" 103 "StuckLines$Circuit" "outputs" "I" : Cond) ∈ sk_ts := sk_in (List.mem_of_getElem? (i := 39) (by decide +kernel)) rfl
theorem sw_50 : (.fieldLink "StuckLines" 112 "StuckLines$Circuit" "isFlop" "[Z" : Cond) ∈ sk_ts := sk_in (List.mem_of_getElem? (i := 50) (by decide +kernel)) rfl
theorem sw_42 : (.fieldLink "StuckLines" 122 "StuckLines$Circuit" "observed" "I" : Cond) ∈ sk_ts := sk_in (List.mem_of_getElem? (i := 42) (by decide +kernel)) rfl
theorem sw_57 : (.fieldLink "StuckLines" 178 "StuckLines$Circuit" "gateOfPin" "[I" : Cond) ∈ sk_ts := sk_in (List.mem_of_getElem? (i := 57) (by decide +kernel)) rfl
theorem sw_36 : (.fieldLink "StuckLines$Cubes" 27 "StuckLines$Circuit" "sources" "I" : Cond) ∈ sk_ts := sk_in (List.mem_of_getElem? (i := 36) (by decide +kernel)) rfl
theorem sw_43 : (.fieldLink "StuckLines$Signals" 72 "StuckLines$Circuit" "observed" "I" : Cond) ∈ sk_ts := sk_in (List.mem_of_getElem? (i := 43) (by decide +kernel)) rfl
theorem sw_60 : (.fieldLink "StuckLines$Signals" 75 "StuckLines$Circuit" "observedLine" "[I" : Cond) ∈ sk_ts := sk_in (List.mem_of_getElem? (i := 60) (by decide +kernel)) rfl
theorem sw_686 : (.fieldLink "StuckLinesModel" 7 "StuckLinesModel" "sourceOf" "[I" : Cond) ∈ sk_ts := sk_in (List.mem_of_getElem? (i := 686) (by decide +kernel)) rfl
theorem sw_687 : (.fieldLink "StuckLinesModel" 13 "StuckLinesModel" "kinds" "[I" : Cond) ∈ sk_ts := sk_in (List.mem_of_getElem? (i := 687) (by decide +kernel)) rfl
theorem sw_688 : (.fieldLink "StuckLinesModel" 16 "StuckLinesModel" "pins" "[I" : Cond) ∈ sk_ts := sk_in (List.mem_of_getElem? (i := 688) (by decide +kernel)) rfl
theorem sw_689 : (.fieldLink "StuckLinesModel" 19 "StuckLinesModel" "pinCount" "[I" : Cond) ∈ sk_ts := sk_in (List.mem_of_getElem? (i := 689) (by decide +kernel)) rfl
theorem sw_691 : (.fieldLink "StuckLinesModel" 22 "StuckLinesModel" "sourceLine" "[I" : Cond) ∈ sk_ts := sk_in (List.mem_of_getElem? (i := 691) (by decide +kernel)) rfl
theorem sw_692 : (.fieldLink "StuckLinesModel" 25 "StuckLinesModel" "flop" "[Z" : Cond) ∈ sk_ts := sk_in (List.mem_of_getElem? (i := 692) (by decide +kernel)) rfl
theorem sw_693 : (.fieldLink "StuckLinesModel" 29 "StuckLinesModel" "datum" "[I" : Cond) ∈ sk_ts := sk_in (List.mem_of_getElem? (i := 693) (by decide +kernel)) rfl
theorem sw_695 : (.fieldLink "StuckLinesModel" 32 "StuckLinesModel" "outputLine" "[I" : Cond) ∈ sk_ts := sk_in (List.mem_of_getElem? (i := 695) (by decide +kernel)) rfl
theorem sw_697 : (.fieldLink "StuckLinesModel" 35 "StuckLinesModel" "observed" "[I" : Cond) ∈ sk_ts := sk_in (List.mem_of_getElem? (i := 697) (by decide +kernel)) rfl
theorem sw_699 : (.fieldLink "StuckLinesModel" 38 "StuckLinesModel" "siteLine" "[I" : Cond) ∈ sk_ts := sk_in (List.mem_of_getElem? (i := 699) (by decide +kernel)) rfl
theorem sw_700 : (.fieldLink "StuckLinesModel" 41 "StuckLinesModel" "sitePin" "[I" : Cond) ∈ sk_ts := sk_in (List.mem_of_getElem? (i := 700) (by decide +kernel)) rfl
theorem sw_701 : (.fieldLink "StuckLinesModel" 44 "StuckLinesModel" "values" "[I" : Cond) ∈ sk_ts := sk_in (List.mem_of_getElem? (i := 701) (by decide +kernel)) rfl
theorem sw_702 : (.fieldLink "StuckLinesModel" 47 "StuckLinesModel" "plain" "[I" : Cond) ∈ sk_ts := sk_in (List.mem_of_getElem? (i := 702) (by decide +kernel)) rfl
theorem sw_704 : (.fieldLink "StuckLinesModel" 50 "StuckLinesModel" "responses" "[I" : Cond) ∈ sk_ts := sk_in (List.mem_of_getElem? (i := 704) (by decide +kernel)) rfl
theorem sw_705 : (.fieldLink "StuckLinesModel" 53 "StuckLinesModel" "right" "[I" : Cond) ∈ sk_ts := sk_in (List.mem_of_getElem? (i := 705) (by decide +kernel)) rfl
theorem sw_708 : (.fieldLink "StuckLinesModel" 56 "StuckLinesModel" "set" "[I" : Cond) ∈ sk_ts := sk_in (List.mem_of_getElem? (i := 708) (by decide +kernel)) rfl
theorem sw_709 : (.fieldLink "StuckLinesModel" 59 "StuckLinesModel" "gone" "[Z" : Cond) ∈ sk_ts := sk_in (List.mem_of_getElem? (i := 709) (by decide +kernel)) rfl
theorem sw_711 : (.fieldLink "StuckLinesModel" 62 "StuckLinesModel" "logVector" "[I" : Cond) ∈ sk_ts := sk_in (List.mem_of_getElem? (i := 711) (by decide +kernel)) rfl
theorem sw_712 : (.fieldLink "StuckLinesModel" 65 "StuckLinesModel" "logResponse" "[I" : Cond) ∈ sk_ts := sk_in (List.mem_of_getElem? (i := 712) (by decide +kernel)) rfl
theorem sw_684 : (.fieldLink "StuckLinesModel" 68 "StuckLinesModel" "code" "I" : Cond) ∈ sk_ts := sk_in (List.mem_of_getElem? (i := 684) (by decide +kernel)) rfl
theorem sw_685 : (.fieldLink "StuckLinesModel" 72 "StuckLinesModel" "lines" "I" : Cond) ∈ sk_ts := sk_in (List.mem_of_getElem? (i := 685) (by decide +kernel)) rfl
theorem sw_690 : (.fieldLink "StuckLinesModel" 75 "StuckLinesModel" "sources" "I" : Cond) ∈ sk_ts := sk_in (List.mem_of_getElem? (i := 690) (by decide +kernel)) rfl
theorem sw_694 : (.fieldLink "StuckLinesModel" 94 "StuckLinesModel" "outputs" "I" : Cond) ∈ sk_ts := sk_in (List.mem_of_getElem? (i := 694) (by decide +kernel)) rfl
theorem sw_703 : (.fieldLink "StuckLinesModel" 81 "StuckLinesModel" "known" "Z" : Cond) ∈ sk_ts := sk_in (List.mem_of_getElem? (i := 703) (by decide +kernel)) rfl
theorem sw_706 : (.fieldLink "StuckLinesModel" 85 "StuckLinesModel" "packedUp" "Z" : Cond) ∈ sk_ts := sk_in (List.mem_of_getElem? (i := 706) (by decide +kernel)) rfl
theorem sw_710 : (.fieldLink "StuckLinesModel" 88 "StuckLinesModel" "logged" "I" : Cond) ∈ sk_ts := sk_in (List.mem_of_getElem? (i := 710) (by decide +kernel)) rfl
theorem sw_696 : (.fieldLink "StuckLinesModel" 91 "StuckLinesModel" "seen" "I" : Cond) ∈ sk_ts := sk_in (List.mem_of_getElem? (i := 696) (by decide +kernel)) rfl
theorem sw_698 : (.fieldLink "StuckLinesModel" 78 "StuckLinesModel" "sites" "I" : Cond) ∈ sk_ts := sk_in (List.mem_of_getElem? (i := 698) (by decide +kernel)) rfl
theorem sw_707 : (.fieldLink "StuckLinesModel" 136 "StuckLinesModel" "chosen" "I" : Cond) ∈ sk_ts := sk_in (List.mem_of_getElem? (i := 707) (by decide +kernel)) rfl
theorem sw_15 : (.classLink "StuckLinesLaw" 8 "StuckLines" : Cond) ∈ sk_ts := sk_in (List.mem_of_getElem? (i := 15) (by decide +kernel)) rfl
theorem sw_16 : (.instantiable "StuckLines" 6 : Cond) ∈ sk_ts := sk_in (List.mem_of_getElem? (i := 16) (by decide +kernel)) rfl
theorem sw_678 : (.classLink "StuckLinesLaw" 65 "StuckLinesModel" : Cond) ∈ sk_ts := sk_in (List.mem_of_getElem? (i := 678) (by decide +kernel)) rfl
theorem sw_679 : (.instantiable "StuckLinesModel" 29 : Cond) ∈ sk_ts := sk_in (List.mem_of_getElem? (i := 679) (by decide +kernel)) rfl
theorem sw_94 : (.arrayClass .int : Cond) ∈ sk_ts := sk_in (List.mem_of_getElem? (i := 94) (by decide +kernel)) rfl
theorem sw_95 : (.arrayClass .boolean : Cond) ∈ sk_ts := sk_in (List.mem_of_getElem? (i := 95) (by decide +kernel)) rfl
theorem sw_124 : (.arrayClass .long : Cond) ∈ sk_ts := sk_in (List.mem_of_getElem? (i := 124) (by decide +kernel)) rfl
theorem sw_20 : (.methodLink "StuckLines" 3 ⟨"java/lang/Object", "<init>", "()V"⟩ : Cond) ∈ sk_ts := sk_in (List.mem_of_getElem? (i := 20) (by decide +kernel)) rfl
theorem sw_28 : (.methodLink "StuckLines$Circuit" 3 ⟨"java/lang/Object", "<init>", "()V"⟩ : Cond) ∈ sk_ts := sk_in (List.mem_of_getElem? (i := 28) (by decide +kernel)) rfl
theorem sw_101 : (.methodLink "StuckLines$Signals" 3 ⟨"java/lang/Object", "<init>", "()V"⟩ : Cond) ∈ sk_ts := sk_in (List.mem_of_getElem? (i := 101) (by decide +kernel)) rfl
theorem sw_130 : (.methodLink "StuckLines$Responses" 3 ⟨"java/lang/Object", "<init>", "()V"⟩ : Cond) ∈ sk_ts := sk_in (List.mem_of_getElem? (i := 130) (by decide +kernel)) rfl
theorem sw_154 : (.methodLink "StuckLines$Cubes" 3 ⟨"java/lang/Object", "<init>", "()V"⟩ : Cond) ∈ sk_ts := sk_in (List.mem_of_getElem? (i := 154) (by decide +kernel)) rfl
theorem sw_172 : (.methodLink "StuckLines$PackedSet" 3 ⟨"java/lang/Object", "<init>", "()V"⟩ : Cond) ∈ sk_ts := sk_in (List.mem_of_getElem? (i := 172) (by decide +kernel)) rfl
theorem sw_197 : (.methodLink "StuckLines$SeenLog" 3 ⟨"java/lang/Object", "<init>", "()V"⟩ : Cond) ∈ sk_ts := sk_in (List.mem_of_getElem? (i := 197) (by decide +kernel)) rfl
theorem sw_271 : (.constantLong "StuckLines$Responses" 49 (-1) : Cond) ∈ sk_ts := sk_in (List.mem_of_getElem? (i := 271) (by decide +kernel)) rfl
theorem sw_282 : (.constantLong "StuckLines$Signals" 39 (-1) : Cond) ∈ sk_ts := sk_in (List.mem_of_getElem? (i := 282) (by decide +kernel)) rfl
theorem sw_325 : (.constantLong "StuckLines$PackedSet" 60 (-1) : Cond) ∈ sk_ts := sk_in (List.mem_of_getElem? (i := 325) (by decide +kernel)) rfl
theorem sw_683 : (.methodLink "StuckLinesModel" 1 ⟨"java/lang/Object", "<init>", "()V"⟩ : Cond) ∈ sk_ts := sk_in (List.mem_of_getElem? (i := 683) (by decide +kernel)) rfl
theorem sw_21 : (.instanceMethod ⟨"java/lang/Object", "<init>", "()V"⟩ : Cond) ∈ sk_ts := sk_in (List.mem_of_getElem? (i := 21) (by decide +kernel)) rfl
theorem sw_22 : (.code ⟨"java/lang/Object", "<init>", "()V"⟩ object_method_1_code 1 none : Cond) ∈ sk_ts := sk_in (List.mem_of_getElem? (i := 22) (by decide +kernel)) rfl
theorem sw_363 : (.classLink "StuckLines" 68 "java/lang/IllegalStateException" : Cond) ∈ sk_ts := sk_in (List.mem_of_getElem? (i := 363) (by decide +kernel)) rfl
theorem sw_12 : (.initialized "java/lang/IllegalStateException" : Cond) ∈ sk_ts := sk_in (List.mem_of_getElem? (i := 12) (by decide +kernel)) rfl
theorem sw_448 : (.classLink "StuckLines" 79 "java/lang/IllegalArgumentException" : Cond) ∈ sk_ts := sk_in (List.mem_of_getElem? (i := 448) (by decide +kernel)) rfl
theorem sw_13 : (.initialized "java/lang/IllegalArgumentException" : Cond) ∈ sk_ts := sk_in (List.mem_of_getElem? (i := 13) (by decide +kernel)) rfl
theorem sw_469 : (.classLink "StuckLines" 223 "java/lang/IndexOutOfBoundsException" : Cond) ∈ sk_ts := sk_in (List.mem_of_getElem? (i := 469) (by decide +kernel)) rfl
theorem sw_14 : (.initialized "java/lang/IndexOutOfBoundsException" : Cond) ∈ sk_ts := sk_in (List.mem_of_getElem? (i := 14) (by decide +kernel)) rfl
theorem sw_358 : (.classLink "StuckLinesLaw" 13 "java/lang/IllegalStateException" : Cond) ∈ sk_ts := sk_in (List.mem_of_getElem? (i := 358) (by decide +kernel)) rfl
theorem sw_442 : (.classLink "StuckLinesLaw" 19 "java/lang/IllegalArgumentException" : Cond) ∈ sk_ts := sk_in (List.mem_of_getElem? (i := 442) (by decide +kernel)) rfl
theorem sw_443 : (.classLink "StuckLinesLaw" 21 "java/lang/IndexOutOfBoundsException" : Cond) ∈ sk_ts := sk_in (List.mem_of_getElem? (i := 443) (by decide +kernel)) rfl
