/-! The law, call by call -/
theorem gll_15 : g_L RL 15 yX9_feed cX9_feed 5 (some .int) 2 := ⟨wm_180, wm_177, wm_2, by decide, by decide, by decide +kernel⟩
theorem gllv_15 : Cond.instanceMethod yX9_feed ∈ wsL_law ∧ Cond.selects yX9_feed.cls yX9_feed yX9_feed ∈ wsL_law := ⟨wm_178, wm_179⟩
theorem gll_19 : g_L RL 19 yX10_feed cX10_feed 5 (some .int) 2 := ⟨wm_191, wm_188, wm_5, by decide, by decide, by decide +kernel⟩
theorem gllv_19 : Cond.instanceMethod yX10_feed ∈ wsL_law ∧ Cond.selects yX10_feed.cls yX10_feed yX10_feed ∈ wsL_law := ⟨wm_189, wm_190⟩
set_option maxRecDepth 100000 in
set_option maxHeartbeats 4000000 in
theorem lw_case_0 {p : Program} {l : Launch} {e : Env} {s : State} {m : MethodId} {below : List Frame} {meth : Method} {c : Code} {b L : Nat} {xs : Nat → Int32} {D : va_G} {kd : Nat → ClassId} {adK adV adC adM : Nat → Nat} {i : Nat} (K : lwK p s m meth c b L xs D kd adK adV adC adM) (hL : L ≤ 2048) (hi : i + 3 < L) {cs ms : gS} (R : Rel cs ms) (next : ∀ cs' ms', Rel cs' ms' → lwY p l e s m below meth c b D kd adC adM 950 [(3, .int (nI i)), (2, .ref (adM 0)), (1, .ref (adC 0)), (0, .ref b)] [] cs' ms') : lwY p l e s m below meth c b D kd adC adM 152 [(3, .int (nI i)), (2, .ref (adM 0)), (1, .ref (adC 0)), (0, .ref b)] [] cs ms := by
  refine y_aload_n K (q := 153) 2 rfl dL_law_152 rfl ?_
  refine y_aload_n K (q := 154) 3 rfl dL_law_153 rfl ?_
  refine y_iload_n K (q := 155) 0 rfl dL_law_154 rfl ?_
  refine y_iconst K (q := 156) (v := 1) (by decide) dL_law_155 rfl ?_
  refine y_iadd K (q := 157) (v := nI (i + 1)) (nI_add i 1) dL_law_156 rfl ?_
  refine y_sld K (q := 158) (j := i + 1) (by omega) hL dL_law_157 rfl ?_
  refine y_aload_n K (q := 159) 3 rfl dL_law_158 rfl ?_
  refine y_iload_n K (q := 160) 0 rfl dL_law_159 rfl ?_
  refine y_iconst K (q := 161) (v := 2) (by decide) dL_law_160 rfl ?_
  refine y_iadd K (q := 162) (v := nI (i + 2)) (nI_add i 2) dL_law_161 rfl ?_
  refine y_sld K (q := 163) (j := i + 2) (by omega) hL dL_law_162 rfl ?_
  refine y_i2l K (q := 164) dL_law_163 rfl ?_
  refine y_bipush K (q := 166) (v := 32) (by decide) dL_law_164 rfl ?_
  refine y_lshl K (q := 167) dL_law_166 rfl ?_
  refine y_aload_n K (q := 168) 3 rfl dL_law_167 rfl ?_
  refine y_iload_n K (q := 169) 0 rfl dL_law_168 rfl ?_
  refine y_iconst K (q := 170) (v := 3) (by decide) dL_law_169 rfl ?_
  refine y_iadd K (q := 171) (v := nI (i + 3)) (nI_add i 3) dL_law_170 rfl ?_
  refine y_sld K (q := 172) (j := i + 3) (by omega) hL dL_law_171 rfl ?_
  refine y_i2l K (q := 173) dL_law_172 rfl ?_
  refine y_ldc2 K (q := 176) (v := 4294967295) wm_6 dL_law_173 rfl ?_
  refine y_land K (q := 177) dL_law_176 rfl ?_
  refine y_lor K (q := 178) dL_law_177 rfl ?_
  obtain ⟨v, c1, m1, e1, e2, R1⟩ := op_feed R (xs (i + 1)) ((((xs (i + 2)).toInt64 <<< ((32 : Int32).toInt64 &&& 63)) ||| ((xs (i + 3)).toInt64 &&& (4294967295 : Int64))))
  have hmC := m_X9_feed (l, D, kd, adK, adV) K.2.2.2.2.2.2.2.2.2.2.2.1 (xs (i + 1)) ((((xs (i + 2)).toInt64 <<< ((32 : Int32).toInt64 &&& 63)) ||| ((xs (i + 3)).toInt64 &&& (4294967295 : Int64)))) cs
  rw [e1] at hmC
  refine y_callC K (q := 181) (levy := 1) (st := []) [.int (xs (i + 1)), .long ((((xs (i + 2)).toInt64 <<< ((32 : Int32).toInt64 &&& 63)) ||| ((xs (i + 3)).toInt64 &&& (4294967295 : Int64))))] rfl gll_15 gllv_15 hmC rfl rfl (Nat.le_of_ble_eq_true rfl) ⟨by omega, by omega⟩ dL_law_178 rfl ?_
  refine y_aload_n K (q := 182) 1 rfl dL_law_181 rfl ?_
  refine y_aload_n K (q := 183) 3 rfl dL_law_182 rfl ?_
  refine y_iload_n K (q := 184) 0 rfl dL_law_183 rfl ?_
  refine y_iconst K (q := 185) (v := 1) (by decide) dL_law_184 rfl ?_
  refine y_iadd K (q := 186) (v := nI (i + 1)) (nI_add i 1) dL_law_185 rfl ?_
  refine y_sld K (q := 187) (j := i + 1) (by omega) hL dL_law_186 rfl ?_
  refine y_aload_n K (q := 188) 3 rfl dL_law_187 rfl ?_
  refine y_iload_n K (q := 189) 0 rfl dL_law_188 rfl ?_
  refine y_iconst K (q := 190) (v := 2) (by decide) dL_law_189 rfl ?_
  refine y_iadd K (q := 191) (v := nI (i + 2)) (nI_add i 2) dL_law_190 rfl ?_
  refine y_sld K (q := 192) (j := i + 2) (by omega) hL dL_law_191 rfl ?_
  refine y_i2l K (q := 193) dL_law_192 rfl ?_
  refine y_bipush K (q := 195) (v := 32) (by decide) dL_law_193 rfl ?_
  refine y_lshl K (q := 196) dL_law_195 rfl ?_
  refine y_aload_n K (q := 197) 3 rfl dL_law_196 rfl ?_
  refine y_iload_n K (q := 198) 0 rfl dL_law_197 rfl ?_
  refine y_iconst K (q := 199) (v := 3) (by decide) dL_law_198 rfl ?_
  refine y_iadd K (q := 200) (v := nI (i + 3)) (nI_add i 3) dL_law_199 rfl ?_
  refine y_sld K (q := 201) (j := i + 3) (by omega) hL dL_law_200 rfl ?_
  refine y_i2l K (q := 202) dL_law_201 rfl ?_
  refine y_ldc2 K (q := 205) (v := 4294967295) wm_6 dL_law_202 rfl ?_
  refine y_land K (q := 206) dL_law_205 rfl ?_
  refine y_lor K (q := 207) dL_law_206 rfl ?_
  have hmM := m_X10_feed (l, D, kd, adK, adV) K.2.2.2.2.2.2.2.2.2.2.2.2.1 (xs (i + 1)) ((((xs (i + 2)).toInt64 <<< ((32 : Int32).toInt64 &&& 63)) ||| ((xs (i + 3)).toInt64 &&& (4294967295 : Int64)))) ms
  rw [e2] at hmM
  refine y_callM K (q := 210) (levy := 1) (st := [.int v]) [.int (xs (i + 1)), .long ((((xs (i + 2)).toInt64 <<< ((32 : Int32).toInt64 &&& 63)) ||| ((xs (i + 3)).toInt64 &&& (4294967295 : Int64))))] rfl gll_19 gllv_19 hmM rfl rfl (Nat.le_of_ble_eq_true rfl) ⟨by omega, by omega⟩ dL_law_207 rfl ?_
  refine y_icmp_eq K (tgt := 950) dL_law_210 rfl ?_
  exact next c1 m1 R1
theorem gll_20 : g_L RL 20 yX9_meadow cX9_meadow 2 (some .int) 0 := ⟨wm_203, wm_200, wm_2, by decide, by decide, by decide +kernel⟩
theorem gllv_20 : Cond.instanceMethod yX9_meadow ∈ wsL_law ∧ Cond.selects yX9_meadow.cls yX9_meadow yX9_meadow ∈ wsL_law := ⟨wm_201, wm_202⟩
theorem gll_24 : g_L RL 24 yX10_meadow cX10_meadow 3 (some .int) 0 := ⟨wm_372, wm_369, wm_5, by decide, by decide, by decide +kernel⟩
theorem gllv_24 : Cond.instanceMethod yX10_meadow ∈ wsL_law ∧ Cond.selects yX10_meadow.cls yX10_meadow yX10_meadow ∈ wsL_law := ⟨wm_370, wm_371⟩
set_option maxRecDepth 100000 in
set_option maxHeartbeats 4000000 in
theorem lw_case_1 {p : Program} {l : Launch} {e : Env} {s : State} {m : MethodId} {below : List Frame} {meth : Method} {c : Code} {b L : Nat} {xs : Nat → Int32} {D : va_G} {kd : Nat → ClassId} {adK adV adC adM : Nat → Nat} {i : Nat} (K : lwK p s m meth c b L xs D kd adK adV adC adM) (hL : L ≤ 2048) (hi : i + 3 < L) {cs ms : gS} (R : Rel cs ms) (next : ∀ cs' ms', Rel cs' ms' → lwY p l e s m below meth c b D kd adC adM 950 [(3, .int (nI i)), (2, .ref (adM 0)), (1, .ref (adC 0)), (0, .ref b)] [] cs' ms') : lwY p l e s m below meth c b D kd adC adM 215 [(3, .int (nI i)), (2, .ref (adM 0)), (1, .ref (adC 0)), (0, .ref b)] [] cs ms := by
  refine y_aload_n K (q := 216) 2 rfl dL_law_215 rfl ?_
  obtain ⟨v, c1, m1, e1, e2, R1⟩ := op_meadow R 
  have hmC := m_X9_meadow (l, D, kd, adK, adV) K.2.2.2.2.2.2.2.2.2.2.2.1  cs
  rw [e1] at hmC
  refine y_callC K (q := 219) (levy := 9) (st := []) [] rfl gll_20 gllv_20 hmC rfl rfl (Nat.le_of_ble_eq_true rfl) ⟨by omega, by omega⟩ dL_law_216 rfl ?_
  refine y_aload_n K (q := 220) 1 rfl dL_law_219 rfl ?_
  have hmM := m_X10_meadow (l, D, kd, adK, adV) K.2.2.2.2.2.2.2.2.2.2.2.2.1  ms
  rw [e2] at hmM
  refine y_callM K (q := 223) (levy := 9) (st := [.int v]) [] rfl gll_24 gllv_24 hmM rfl rfl (Nat.le_of_ble_eq_true rfl) ⟨by omega, by omega⟩ dL_law_220 rfl ?_
  refine y_icmp_eq K (tgt := 950) dL_law_223 rfl ?_
  exact next c1 m1 R1
theorem gll_25 : g_L RL 25 yX9_fault cX9_fault 1 (some .int) 0 := ⟨wm_479, wm_476, wm_2, by decide, by decide, by decide +kernel⟩
theorem gllv_25 : Cond.instanceMethod yX9_fault ∈ wsL_law ∧ Cond.selects yX9_fault.cls yX9_fault yX9_fault ∈ wsL_law := ⟨wm_477, wm_478⟩
theorem gll_28 : g_L RL 28 yX10_fault cX10_fault 1 (some .int) 0 := ⟨wm_483, wm_480, wm_5, by decide, by decide, by decide +kernel⟩
theorem gllv_28 : Cond.instanceMethod yX10_fault ∈ wsL_law ∧ Cond.selects yX10_fault.cls yX10_fault yX10_fault ∈ wsL_law := ⟨wm_481, wm_482⟩
set_option maxRecDepth 100000 in
set_option maxHeartbeats 4000000 in
theorem lw_case_2 {p : Program} {l : Launch} {e : Env} {s : State} {m : MethodId} {below : List Frame} {meth : Method} {c : Code} {b L : Nat} {xs : Nat → Int32} {D : va_G} {kd : Nat → ClassId} {adK adV adC adM : Nat → Nat} {i : Nat} (K : lwK p s m meth c b L xs D kd adK adV adC adM) (hL : L ≤ 2048) (hi : i + 3 < L) {cs ms : gS} (R : Rel cs ms) (next : ∀ cs' ms', Rel cs' ms' → lwY p l e s m below meth c b D kd adC adM 950 [(3, .int (nI i)), (2, .ref (adM 0)), (1, .ref (adC 0)), (0, .ref b)] [] cs' ms') : lwY p l e s m below meth c b D kd adC adM 228 [(3, .int (nI i)), (2, .ref (adM 0)), (1, .ref (adC 0)), (0, .ref b)] [] cs ms := by
  refine y_aload_n K (q := 229) 2 rfl dL_law_228 rfl ?_
  obtain ⟨v, c1, m1, e1, e2, R1⟩ := op_fault R 
  have hmC := m_X9_fault (l, D, kd, adK, adV) K.2.2.2.2.2.2.2.2.2.2.2.1  cs
  rw [e1] at hmC
  refine y_callC K (q := 232) (levy := 0) (st := []) [] rfl gll_25 gllv_25 hmC rfl rfl (Nat.le_of_ble_eq_true rfl) ⟨by omega, by omega⟩ dL_law_229 rfl ?_
  refine y_aload_n K (q := 233) 1 rfl dL_law_232 rfl ?_
  have hmM := m_X10_fault (l, D, kd, adK, adV) K.2.2.2.2.2.2.2.2.2.2.2.2.1  ms
  rw [e2] at hmM
  refine y_callM K (q := 236) (levy := 0) (st := [.int v]) [] rfl gll_28 gllv_28 hmM rfl rfl (Nat.le_of_ble_eq_true rfl) ⟨by omega, by omega⟩ dL_law_233 rfl ?_
  refine y_icmp_eq K (tgt := 950) dL_law_236 rfl ?_
  exact next c1 m1 R1
theorem gll_29 : g_L RL 29 yX9_told cX9_told 2 (some .int) 1 := ⟨wm_487, wm_484, wm_2, by decide, by decide, by decide +kernel⟩
theorem gllv_29 : Cond.instanceMethod yX9_told ∈ wsL_law ∧ Cond.selects yX9_told.cls yX9_told yX9_told ∈ wsL_law := ⟨wm_485, wm_486⟩
theorem gll_33 : g_L RL 33 yX10_told cX10_told 2 (some .int) 1 := ⟨wm_495, wm_492, wm_5, by decide, by decide, by decide +kernel⟩
theorem gllv_33 : Cond.instanceMethod yX10_told ∈ wsL_law ∧ Cond.selects yX10_told.cls yX10_told yX10_told ∈ wsL_law := ⟨wm_493, wm_494⟩
set_option maxRecDepth 100000 in
set_option maxHeartbeats 4000000 in
theorem lw_case_3 {p : Program} {l : Launch} {e : Env} {s : State} {m : MethodId} {below : List Frame} {meth : Method} {c : Code} {b L : Nat} {xs : Nat → Int32} {D : va_G} {kd : Nat → ClassId} {adK adV adC adM : Nat → Nat} {i : Nat} (K : lwK p s m meth c b L xs D kd adK adV adC adM) (hL : L ≤ 2048) (hi : i + 3 < L) {cs ms : gS} (R : Rel cs ms) (next : ∀ cs' ms', Rel cs' ms' → lwY p l e s m below meth c b D kd adC adM 950 [(3, .int (nI i)), (2, .ref (adM 0)), (1, .ref (adC 0)), (0, .ref b)] [] cs' ms') : lwY p l e s m below meth c b D kd adC adM 241 [(3, .int (nI i)), (2, .ref (adM 0)), (1, .ref (adC 0)), (0, .ref b)] [] cs ms := by
  refine y_aload_n K (q := 242) 2 rfl dL_law_241 rfl ?_
  refine y_aload_n K (q := 243) 3 rfl dL_law_242 rfl ?_
  refine y_iload_n K (q := 244) 0 rfl dL_law_243 rfl ?_
  refine y_iconst K (q := 245) (v := 1) (by decide) dL_law_244 rfl ?_
  refine y_iadd K (q := 246) (v := nI (i + 1)) (nI_add i 1) dL_law_245 rfl ?_
  refine y_sld K (q := 247) (j := i + 1) (by omega) hL dL_law_246 rfl ?_
  obtain ⟨v, c1, m1, e1, e2, R1⟩ := op_told R (xs (i + 1))
  have hmC := m_X9_told (l, D, kd, adK, adV) K.2.2.2.2.2.2.2.2.2.2.2.1 (xs (i + 1)) cs
  rw [e1] at hmC
  refine y_callC K (q := 250) (levy := 2) (st := []) [.int (xs (i + 1))] rfl gll_29 gllv_29 hmC rfl rfl (Nat.le_of_ble_eq_true rfl) ⟨by omega, by omega⟩ dL_law_247 rfl ?_
  refine y_aload_n K (q := 251) 1 rfl dL_law_250 rfl ?_
  refine y_aload_n K (q := 252) 3 rfl dL_law_251 rfl ?_
  refine y_iload_n K (q := 253) 0 rfl dL_law_252 rfl ?_
  refine y_iconst K (q := 254) (v := 1) (by decide) dL_law_253 rfl ?_
  refine y_iadd K (q := 255) (v := nI (i + 1)) (nI_add i 1) dL_law_254 rfl ?_
  refine y_sld K (q := 256) (j := i + 1) (by omega) hL dL_law_255 rfl ?_
  have hmM := m_X10_told (l, D, kd, adK, adV) K.2.2.2.2.2.2.2.2.2.2.2.2.1 (xs (i + 1)) ms
  rw [e2] at hmM
  refine y_callM K (q := 259) (levy := 1) (st := [.int v]) [.int (xs (i + 1))] rfl gll_33 gllv_33 hmM rfl rfl (Nat.le_of_ble_eq_true rfl) ⟨by omega, by omega⟩ dL_law_256 rfl ?_
  refine y_icmp_eq K (tgt := 950) dL_law_259 rfl ?_
  exact next c1 m1 R1
theorem gll_34 : g_L RL 34 yX9_cell cX9_cell 5 (some .int) 3 := ⟨wm_503, wm_500, wm_2, by decide, by decide, by decide +kernel⟩
theorem gllv_34 : Cond.instanceMethod yX9_cell ∈ wsL_law ∧ Cond.selects yX9_cell.cls yX9_cell yX9_cell ∈ wsL_law := ⟨wm_501, wm_502⟩
theorem gll_38 : g_L RL 38 yX10_cell cX10_cell 5 (some .int) 3 := ⟨wm_523, wm_520, wm_5, by decide, by decide, by decide +kernel⟩
theorem gllv_38 : Cond.instanceMethod yX10_cell ∈ wsL_law ∧ Cond.selects yX10_cell.cls yX10_cell yX10_cell ∈ wsL_law := ⟨wm_521, wm_522⟩
set_option maxRecDepth 100000 in
set_option maxHeartbeats 4000000 in
theorem lw_case_4 {p : Program} {l : Launch} {e : Env} {s : State} {m : MethodId} {below : List Frame} {meth : Method} {c : Code} {b L : Nat} {xs : Nat → Int32} {D : va_G} {kd : Nat → ClassId} {adK adV adC adM : Nat → Nat} {i : Nat} (K : lwK p s m meth c b L xs D kd adK adV adC adM) (hL : L ≤ 2048) (hi : i + 3 < L) {cs ms : gS} (R : Rel cs ms) (next : ∀ cs' ms', Rel cs' ms' → lwY p l e s m below meth c b D kd adC adM 950 [(3, .int (nI i)), (2, .ref (adM 0)), (1, .ref (adC 0)), (0, .ref b)] [] cs' ms') : lwY p l e s m below meth c b D kd adC adM 264 [(3, .int (nI i)), (2, .ref (adM 0)), (1, .ref (adC 0)), (0, .ref b)] [] cs ms := by
  refine y_aload_n K (q := 265) 2 rfl dL_law_264 rfl ?_
  refine y_aload_n K (q := 266) 3 rfl dL_law_265 rfl ?_
  refine y_iload_n K (q := 267) 0 rfl dL_law_266 rfl ?_
  refine y_iconst K (q := 268) (v := 1) (by decide) dL_law_267 rfl ?_
  refine y_iadd K (q := 269) (v := nI (i + 1)) (nI_add i 1) dL_law_268 rfl ?_
  refine y_sld K (q := 270) (j := i + 1) (by omega) hL dL_law_269 rfl ?_
  refine y_aload_n K (q := 271) 3 rfl dL_law_270 rfl ?_
  refine y_iload_n K (q := 272) 0 rfl dL_law_271 rfl ?_
  refine y_iconst K (q := 273) (v := 2) (by decide) dL_law_272 rfl ?_
  refine y_iadd K (q := 274) (v := nI (i + 2)) (nI_add i 2) dL_law_273 rfl ?_
  refine y_sld K (q := 275) (j := i + 2) (by omega) hL dL_law_274 rfl ?_
  refine y_aload_n K (q := 276) 3 rfl dL_law_275 rfl ?_
  refine y_iload_n K (q := 277) 0 rfl dL_law_276 rfl ?_
  refine y_iconst K (q := 278) (v := 3) (by decide) dL_law_277 rfl ?_
  refine y_iadd K (q := 279) (v := nI (i + 3)) (nI_add i 3) dL_law_278 rfl ?_
  refine y_sld K (q := 280) (j := i + 3) (by omega) hL dL_law_279 rfl ?_
  obtain ⟨v, c1, m1, e1, e2, R1⟩ := op_cell R (xs (i + 1)) (xs (i + 2)) (xs (i + 3))
  have hmC := m_X9_cell (l, D, kd, adK, adV) K.2.2.2.2.2.2.2.2.2.2.2.1 (xs (i + 1)) (xs (i + 2)) (xs (i + 3)) cs
  rw [e1] at hmC
  refine y_callC K (q := 283) (levy := 3) (st := []) [.int (xs (i + 1)), .int (xs (i + 2)), .int (xs (i + 3))] rfl gll_34 gllv_34 hmC rfl rfl (Nat.le_of_ble_eq_true rfl) ⟨by omega, by omega⟩ dL_law_280 rfl ?_
  refine y_aload_n K (q := 284) 1 rfl dL_law_283 rfl ?_
  refine y_aload_n K (q := 285) 3 rfl dL_law_284 rfl ?_
  refine y_iload_n K (q := 286) 0 rfl dL_law_285 rfl ?_
  refine y_iconst K (q := 287) (v := 1) (by decide) dL_law_286 rfl ?_
  refine y_iadd K (q := 288) (v := nI (i + 1)) (nI_add i 1) dL_law_287 rfl ?_
  refine y_sld K (q := 289) (j := i + 1) (by omega) hL dL_law_288 rfl ?_
  refine y_aload_n K (q := 290) 3 rfl dL_law_289 rfl ?_
  refine y_iload_n K (q := 291) 0 rfl dL_law_290 rfl ?_
  refine y_iconst K (q := 292) (v := 2) (by decide) dL_law_291 rfl ?_
  refine y_iadd K (q := 293) (v := nI (i + 2)) (nI_add i 2) dL_law_292 rfl ?_
  refine y_sld K (q := 294) (j := i + 2) (by omega) hL dL_law_293 rfl ?_
  refine y_aload_n K (q := 295) 3 rfl dL_law_294 rfl ?_
  refine y_iload_n K (q := 296) 0 rfl dL_law_295 rfl ?_
  refine y_iconst K (q := 297) (v := 3) (by decide) dL_law_296 rfl ?_
  refine y_iadd K (q := 298) (v := nI (i + 3)) (nI_add i 3) dL_law_297 rfl ?_
  refine y_sld K (q := 299) (j := i + 3) (by omega) hL dL_law_298 rfl ?_
  have hmM := m_X10_cell (l, D, kd, adK, adV) K.2.2.2.2.2.2.2.2.2.2.2.2.1 (xs (i + 1)) (xs (i + 2)) (xs (i + 3)) ms
  rw [e2] at hmM
  refine y_callM K (q := 302) (levy := 2) (st := [.int v]) [.int (xs (i + 1)), .int (xs (i + 2)), .int (xs (i + 3))] rfl gll_38 gllv_38 hmM rfl rfl (Nat.le_of_ble_eq_true rfl) ⟨by omega, by omega⟩ dL_law_299 rfl ?_
  refine y_icmp_eq K (tgt := 950) dL_law_302 rfl ?_
  exact next c1 m1 R1
theorem gll_39 : g_L RL 39 yX9_tithes cX9_tithes 5 (some .int) 3 := ⟨wm_536, wm_533, wm_2, by decide, by decide, by decide +kernel⟩
theorem gllv_39 : Cond.instanceMethod yX9_tithes ∈ wsL_law ∧ Cond.selects yX9_tithes.cls yX9_tithes yX9_tithes ∈ wsL_law := ⟨wm_534, wm_535⟩
theorem gll_42 : g_L RL 42 yX10_tithes cX10_tithes 4 (some .int) 3 := ⟨wm_551, wm_548, wm_5, by decide, by decide, by decide +kernel⟩
theorem gllv_42 : Cond.instanceMethod yX10_tithes ∈ wsL_law ∧ Cond.selects yX10_tithes.cls yX10_tithes yX10_tithes ∈ wsL_law := ⟨wm_549, wm_550⟩
set_option maxRecDepth 100000 in
set_option maxHeartbeats 4000000 in
theorem lw_case_5 {p : Program} {l : Launch} {e : Env} {s : State} {m : MethodId} {below : List Frame} {meth : Method} {c : Code} {b L : Nat} {xs : Nat → Int32} {D : va_G} {kd : Nat → ClassId} {adK adV adC adM : Nat → Nat} {i : Nat} (K : lwK p s m meth c b L xs D kd adK adV adC adM) (hL : L ≤ 2048) (hi : i + 3 < L) {cs ms : gS} (R : Rel cs ms) (next : ∀ cs' ms', Rel cs' ms' → lwY p l e s m below meth c b D kd adC adM 950 [(3, .int (nI i)), (2, .ref (adM 0)), (1, .ref (adC 0)), (0, .ref b)] [] cs' ms') : lwY p l e s m below meth c b D kd adC adM 307 [(3, .int (nI i)), (2, .ref (adM 0)), (1, .ref (adC 0)), (0, .ref b)] [] cs ms := by
  refine y_aload_n K (q := 308) 2 rfl dL_law_307 rfl ?_
  refine y_aload_n K (q := 309) 3 rfl dL_law_308 rfl ?_
  refine y_iload_n K (q := 310) 0 rfl dL_law_309 rfl ?_
  refine y_iconst K (q := 311) (v := 1) (by decide) dL_law_310 rfl ?_
  refine y_iadd K (q := 312) (v := nI (i + 1)) (nI_add i 1) dL_law_311 rfl ?_
  refine y_sld K (q := 313) (j := i + 1) (by omega) hL dL_law_312 rfl ?_
  refine y_aload_n K (q := 314) 3 rfl dL_law_313 rfl ?_
  refine y_iload_n K (q := 315) 0 rfl dL_law_314 rfl ?_
  refine y_iconst K (q := 316) (v := 2) (by decide) dL_law_315 rfl ?_
  refine y_iadd K (q := 317) (v := nI (i + 2)) (nI_add i 2) dL_law_316 rfl ?_
  refine y_sld K (q := 318) (j := i + 2) (by omega) hL dL_law_317 rfl ?_
  refine y_aload_n K (q := 319) 3 rfl dL_law_318 rfl ?_
  refine y_iload_n K (q := 320) 0 rfl dL_law_319 rfl ?_
  refine y_iconst K (q := 321) (v := 3) (by decide) dL_law_320 rfl ?_
  refine y_iadd K (q := 322) (v := nI (i + 3)) (nI_add i 3) dL_law_321 rfl ?_
  refine y_sld K (q := 323) (j := i + 3) (by omega) hL dL_law_322 rfl ?_
  obtain ⟨v, c1, m1, e1, e2, R1⟩ := op_tithes R (xs (i + 1)) (xs (i + 2)) (xs (i + 3))
  have hmC := m_X9_tithes (l, D, kd, adK, adV) K.2.2.2.2.2.2.2.2.2.2.2.1 (xs (i + 1)) (xs (i + 2)) (xs (i + 3)) cs
  rw [e1] at hmC
  refine y_callC K (q := 326) (levy := 3) (st := []) [.int (xs (i + 1)), .int (xs (i + 2)), .int (xs (i + 3))] rfl gll_39 gllv_39 hmC rfl rfl (Nat.le_of_ble_eq_true rfl) ⟨by omega, by omega⟩ dL_law_323 rfl ?_
  refine y_aload_n K (q := 327) 1 rfl dL_law_326 rfl ?_
  refine y_aload_n K (q := 328) 3 rfl dL_law_327 rfl ?_
  refine y_iload_n K (q := 329) 0 rfl dL_law_328 rfl ?_
  refine y_iconst K (q := 330) (v := 1) (by decide) dL_law_329 rfl ?_
  refine y_iadd K (q := 331) (v := nI (i + 1)) (nI_add i 1) dL_law_330 rfl ?_
  refine y_sld K (q := 332) (j := i + 1) (by omega) hL dL_law_331 rfl ?_
  refine y_aload_n K (q := 333) 3 rfl dL_law_332 rfl ?_
  refine y_iload_n K (q := 334) 0 rfl dL_law_333 rfl ?_
  refine y_iconst K (q := 335) (v := 2) (by decide) dL_law_334 rfl ?_
  refine y_iadd K (q := 336) (v := nI (i + 2)) (nI_add i 2) dL_law_335 rfl ?_
  refine y_sld K (q := 337) (j := i + 2) (by omega) hL dL_law_336 rfl ?_
  refine y_aload_n K (q := 338) 3 rfl dL_law_337 rfl ?_
  refine y_iload_n K (q := 339) 0 rfl dL_law_338 rfl ?_
  refine y_iconst K (q := 340) (v := 3) (by decide) dL_law_339 rfl ?_
  refine y_iadd K (q := 341) (v := nI (i + 3)) (nI_add i 3) dL_law_340 rfl ?_
  refine y_sld K (q := 342) (j := i + 3) (by omega) hL dL_law_341 rfl ?_
  have hmM := m_X10_tithes (l, D, kd, adK, adV) K.2.2.2.2.2.2.2.2.2.2.2.2.1 (xs (i + 1)) (xs (i + 2)) (xs (i + 3)) ms
  rw [e2] at hmM
  refine y_callM K (q := 345) (levy := 2) (st := [.int v]) [.int (xs (i + 1)), .int (xs (i + 2)), .int (xs (i + 3))] rfl gll_42 gllv_42 hmM rfl rfl (Nat.le_of_ble_eq_true rfl) ⟨by omega, by omega⟩ dL_law_342 rfl ?_
  refine y_icmp_eq K (tgt := 950) dL_law_345 rfl ?_
  exact next c1 m1 R1
theorem gll_43 : g_L RL 43 yX9_day cX9_day 3 (some .int) 1 := ⟨wm_566, wm_563, wm_2, by decide, by decide, by decide +kernel⟩
theorem gllv_43 : Cond.instanceMethod yX9_day ∈ wsL_law ∧ Cond.selects yX9_day.cls yX9_day yX9_day ∈ wsL_law := ⟨wm_564, wm_565⟩
theorem gll_46 : g_L RL 46 yX10_day cX10_day 5 (some .int) 1 := ⟨wm_603, wm_600, wm_5, by decide, by decide, by decide +kernel⟩
theorem gllv_46 : Cond.instanceMethod yX10_day ∈ wsL_law ∧ Cond.selects yX10_day.cls yX10_day yX10_day ∈ wsL_law := ⟨wm_601, wm_602⟩
set_option maxRecDepth 100000 in
set_option maxHeartbeats 4000000 in
theorem lw_case_6 {p : Program} {l : Launch} {e : Env} {s : State} {m : MethodId} {below : List Frame} {meth : Method} {c : Code} {b L : Nat} {xs : Nat → Int32} {D : va_G} {kd : Nat → ClassId} {adK adV adC adM : Nat → Nat} {i : Nat} (K : lwK p s m meth c b L xs D kd adK adV adC adM) (hL : L ≤ 2048) (hi : i + 3 < L) {cs ms : gS} (R : Rel cs ms) (next : ∀ cs' ms', Rel cs' ms' → lwY p l e s m below meth c b D kd adC adM 950 [(3, .int (nI i)), (2, .ref (adM 0)), (1, .ref (adC 0)), (0, .ref b)] [] cs' ms') : lwY p l e s m below meth c b D kd adC adM 350 [(3, .int (nI i)), (2, .ref (adM 0)), (1, .ref (adC 0)), (0, .ref b)] [] cs ms := by
  refine y_aload_n K (q := 351) 2 rfl dL_law_350 rfl ?_
  refine y_aload_n K (q := 352) 3 rfl dL_law_351 rfl ?_
  refine y_iload_n K (q := 353) 0 rfl dL_law_352 rfl ?_
  refine y_iconst K (q := 354) (v := 1) (by decide) dL_law_353 rfl ?_
  refine y_iadd K (q := 355) (v := nI (i + 1)) (nI_add i 1) dL_law_354 rfl ?_
  refine y_sld K (q := 356) (j := i + 1) (by omega) hL dL_law_355 rfl ?_
  obtain ⟨v, c1, m1, e1, e2, R1⟩ := op_day R (xs (i + 1))
  have hmC := m_X9_day (l, D, kd, adK, adV) K.2.2.2.2.2.2.2.2.2.2.2.1 (xs (i + 1)) cs
  rw [e1] at hmC
  refine y_callC K (q := 359) (levy := 5) (st := []) [.int (xs (i + 1))] rfl gll_43 gllv_43 hmC rfl rfl (Nat.le_of_ble_eq_true rfl) ⟨by omega, by omega⟩ dL_law_356 rfl ?_
  refine y_aload_n K (q := 360) 1 rfl dL_law_359 rfl ?_
  refine y_aload_n K (q := 361) 3 rfl dL_law_360 rfl ?_
  refine y_iload_n K (q := 362) 0 rfl dL_law_361 rfl ?_
  refine y_iconst K (q := 363) (v := 1) (by decide) dL_law_362 rfl ?_
  refine y_iadd K (q := 364) (v := nI (i + 1)) (nI_add i 1) dL_law_363 rfl ?_
  refine y_sld K (q := 365) (j := i + 1) (by omega) hL dL_law_364 rfl ?_
  have hmM := m_X10_day (l, D, kd, adK, adV) K.2.2.2.2.2.2.2.2.2.2.2.2.1 (xs (i + 1)) ms
  rw [e2] at hmM
  refine y_callM K (q := 368) (levy := 5) (st := [.int v]) [.int (xs (i + 1))] rfl gll_46 gllv_46 hmM rfl rfl (Nat.le_of_ble_eq_true rfl) ⟨by omega, by omega⟩ dL_law_365 rfl ?_
  refine y_icmp_eq K (tgt := 950) dL_law_368 rfl ?_
  exact next c1 m1 R1
theorem gll_47 : g_L RL 47 yX9_law cX9_law 3 (some .int) 1 := ⟨wm_629, wm_626, wm_2, by decide, by decide, by decide +kernel⟩
theorem gllv_47 : Cond.instanceMethod yX9_law ∈ wsL_law ∧ Cond.selects yX9_law.cls yX9_law yX9_law ∈ wsL_law := ⟨wm_627, wm_628⟩
theorem gll_50 : g_L RL 50 yX10_law cX10_law 3 (some .int) 1 := ⟨wm_633, wm_630, wm_5, by decide, by decide, by decide +kernel⟩
theorem gllv_50 : Cond.instanceMethod yX10_law ∈ wsL_law ∧ Cond.selects yX10_law.cls yX10_law yX10_law ∈ wsL_law := ⟨wm_631, wm_632⟩
set_option maxRecDepth 100000 in
set_option maxHeartbeats 4000000 in
theorem lw_case_7 {p : Program} {l : Launch} {e : Env} {s : State} {m : MethodId} {below : List Frame} {meth : Method} {c : Code} {b L : Nat} {xs : Nat → Int32} {D : va_G} {kd : Nat → ClassId} {adK adV adC adM : Nat → Nat} {i : Nat} (K : lwK p s m meth c b L xs D kd adK adV adC adM) (hL : L ≤ 2048) (hi : i + 3 < L) {cs ms : gS} (R : Rel cs ms) (next : ∀ cs' ms', Rel cs' ms' → lwY p l e s m below meth c b D kd adC adM 950 [(3, .int (nI i)), (2, .ref (adM 0)), (1, .ref (adC 0)), (0, .ref b)] [] cs' ms') : lwY p l e s m below meth c b D kd adC adM 373 [(3, .int (nI i)), (2, .ref (adM 0)), (1, .ref (adC 0)), (0, .ref b)] [] cs ms := by
  refine y_aload_n K (q := 374) 2 rfl dL_law_373 rfl ?_
  refine y_aload_n K (q := 375) 3 rfl dL_law_374 rfl ?_
  refine y_iload_n K (q := 376) 0 rfl dL_law_375 rfl ?_
  refine y_iconst K (q := 377) (v := 1) (by decide) dL_law_376 rfl ?_
  refine y_iadd K (q := 378) (v := nI (i + 1)) (nI_add i 1) dL_law_377 rfl ?_
  refine y_sld K (q := 379) (j := i + 1) (by omega) hL dL_law_378 rfl ?_
  obtain ⟨v, c1, m1, e1, e2, R1⟩ := op_law R (xs (i + 1))
  have hmC := m_X9_law (l, D, kd, adK, adV) K.2.2.2.2.2.2.2.2.2.2.2.1 (xs (i + 1)) cs
  rw [e1] at hmC
  refine y_callC K (q := 382) (levy := 0) (st := []) [.int (xs (i + 1))] rfl gll_47 gllv_47 hmC rfl rfl (Nat.le_of_ble_eq_true rfl) ⟨by omega, by omega⟩ dL_law_379 rfl ?_
  refine y_aload_n K (q := 383) 1 rfl dL_law_382 rfl ?_
  refine y_aload_n K (q := 384) 3 rfl dL_law_383 rfl ?_
  refine y_iload_n K (q := 385) 0 rfl dL_law_384 rfl ?_
  refine y_iconst K (q := 386) (v := 1) (by decide) dL_law_385 rfl ?_
  refine y_iadd K (q := 387) (v := nI (i + 1)) (nI_add i 1) dL_law_386 rfl ?_
  refine y_sld K (q := 388) (j := i + 1) (by omega) hL dL_law_387 rfl ?_
  have hmM := m_X10_law (l, D, kd, adK, adV) K.2.2.2.2.2.2.2.2.2.2.2.2.1 (xs (i + 1)) ms
  rw [e2] at hmM
  refine y_callM K (q := 391) (levy := 1) (st := [.int v]) [.int (xs (i + 1))] rfl gll_50 gllv_50 hmM rfl rfl (Nat.le_of_ble_eq_true rfl) ⟨by omega, by omega⟩ dL_law_388 rfl ?_
  refine y_icmp_eq K (tgt := 950) dL_law_391 rfl ?_
  exact next c1 m1 R1
theorem gll_51 : g_L RL 51 yX9_sow cX9_sow 5 (some .int) 3 := ⟨wm_638, wm_635, wm_2, by decide, by decide, by decide +kernel⟩
theorem gllv_51 : Cond.instanceMethod yX9_sow ∈ wsL_law ∧ Cond.selects yX9_sow.cls yX9_sow yX9_sow ∈ wsL_law := ⟨wm_636, wm_637⟩
theorem gll_54 : g_L RL 54 yX10_sow cX10_sow 4 (some .int) 3 := ⟨wm_651, wm_648, wm_5, by decide, by decide, by decide +kernel⟩
theorem gllv_54 : Cond.instanceMethod yX10_sow ∈ wsL_law ∧ Cond.selects yX10_sow.cls yX10_sow yX10_sow ∈ wsL_law := ⟨wm_649, wm_650⟩
set_option maxRecDepth 100000 in
set_option maxHeartbeats 4000000 in
theorem lw_case_8 {p : Program} {l : Launch} {e : Env} {s : State} {m : MethodId} {below : List Frame} {meth : Method} {c : Code} {b L : Nat} {xs : Nat → Int32} {D : va_G} {kd : Nat → ClassId} {adK adV adC adM : Nat → Nat} {i : Nat} (K : lwK p s m meth c b L xs D kd adK adV adC adM) (hL : L ≤ 2048) (hi : i + 3 < L) {cs ms : gS} (R : Rel cs ms) (next : ∀ cs' ms', Rel cs' ms' → lwY p l e s m below meth c b D kd adC adM 950 [(3, .int (nI i)), (2, .ref (adM 0)), (1, .ref (adC 0)), (0, .ref b)] [] cs' ms') : lwY p l e s m below meth c b D kd adC adM 396 [(3, .int (nI i)), (2, .ref (adM 0)), (1, .ref (adC 0)), (0, .ref b)] [] cs ms := by
  refine y_aload_n K (q := 397) 2 rfl dL_law_396 rfl ?_
  refine y_aload_n K (q := 398) 3 rfl dL_law_397 rfl ?_
  refine y_iload_n K (q := 399) 0 rfl dL_law_398 rfl ?_
  refine y_iconst K (q := 400) (v := 1) (by decide) dL_law_399 rfl ?_
  refine y_iadd K (q := 401) (v := nI (i + 1)) (nI_add i 1) dL_law_400 rfl ?_
  refine y_sld K (q := 402) (j := i + 1) (by omega) hL dL_law_401 rfl ?_
  refine y_aload_n K (q := 403) 3 rfl dL_law_402 rfl ?_
  refine y_iload_n K (q := 404) 0 rfl dL_law_403 rfl ?_
  refine y_iconst K (q := 405) (v := 2) (by decide) dL_law_404 rfl ?_
  refine y_iadd K (q := 406) (v := nI (i + 2)) (nI_add i 2) dL_law_405 rfl ?_
  refine y_sld K (q := 407) (j := i + 2) (by omega) hL dL_law_406 rfl ?_
  refine y_aload_n K (q := 408) 3 rfl dL_law_407 rfl ?_
  refine y_iload_n K (q := 409) 0 rfl dL_law_408 rfl ?_
  refine y_iconst K (q := 410) (v := 3) (by decide) dL_law_409 rfl ?_
  refine y_iadd K (q := 411) (v := nI (i + 3)) (nI_add i 3) dL_law_410 rfl ?_
  refine y_sld K (q := 412) (j := i + 3) (by omega) hL dL_law_411 rfl ?_
  obtain ⟨v, c1, m1, e1, e2, R1⟩ := op_sow R (xs (i + 1)) (xs (i + 2)) (xs (i + 3))
  have hmC := m_X9_sow (l, D, kd, adK, adV) K.2.2.2.2.2.2.2.2.2.2.2.1 (xs (i + 1)) (xs (i + 2)) (xs (i + 3)) cs
  rw [e1] at hmC
  refine y_callC K (q := 415) (levy := 2) (st := []) [.int (xs (i + 1)), .int (xs (i + 2)), .int (xs (i + 3))] rfl gll_51 gllv_51 hmC rfl rfl (Nat.le_of_ble_eq_true rfl) ⟨by omega, by omega⟩ dL_law_412 rfl ?_
  refine y_aload_n K (q := 416) 1 rfl dL_law_415 rfl ?_
  refine y_aload_n K (q := 417) 3 rfl dL_law_416 rfl ?_
  refine y_iload_n K (q := 418) 0 rfl dL_law_417 rfl ?_
  refine y_iconst K (q := 419) (v := 1) (by decide) dL_law_418 rfl ?_
  refine y_iadd K (q := 420) (v := nI (i + 1)) (nI_add i 1) dL_law_419 rfl ?_
  refine y_sld K (q := 421) (j := i + 1) (by omega) hL dL_law_420 rfl ?_
  refine y_aload_n K (q := 422) 3 rfl dL_law_421 rfl ?_
  refine y_iload_n K (q := 423) 0 rfl dL_law_422 rfl ?_
  refine y_iconst K (q := 424) (v := 2) (by decide) dL_law_423 rfl ?_
  refine y_iadd K (q := 425) (v := nI (i + 2)) (nI_add i 2) dL_law_424 rfl ?_
  refine y_sld K (q := 426) (j := i + 2) (by omega) hL dL_law_425 rfl ?_
  refine y_aload_n K (q := 427) 3 rfl dL_law_426 rfl ?_
  refine y_iload_n K (q := 428) 0 rfl dL_law_427 rfl ?_
  refine y_iconst K (q := 429) (v := 3) (by decide) dL_law_428 rfl ?_
  refine y_iadd K (q := 430) (v := nI (i + 3)) (nI_add i 3) dL_law_429 rfl ?_
  refine y_sld K (q := 431) (j := i + 3) (by omega) hL dL_law_430 rfl ?_
  have hmM := m_X10_sow (l, D, kd, adK, adV) K.2.2.2.2.2.2.2.2.2.2.2.2.1 (xs (i + 1)) (xs (i + 2)) (xs (i + 3)) ms
  rw [e2] at hmM
  refine y_callM K (q := 434) (levy := 2) (st := [.int v]) [.int (xs (i + 1)), .int (xs (i + 2)), .int (xs (i + 3))] rfl gll_54 gllv_54 hmM rfl rfl (Nat.le_of_ble_eq_true rfl) ⟨by omega, by omega⟩ dL_law_431 rfl ?_
  refine y_icmp_eq K (tgt := 950) dL_law_434 rfl ?_
  exact next c1 m1 R1
theorem gll_55 : g_L RL 55 yX9_lead cX9_lead 5 (some .int) 2 := ⟨wm_659, wm_656, wm_2, by decide, by decide, by decide +kernel⟩
theorem gllv_55 : Cond.instanceMethod yX9_lead ∈ wsL_law ∧ Cond.selects yX9_lead.cls yX9_lead yX9_lead ∈ wsL_law := ⟨wm_657, wm_658⟩
theorem gll_59 : g_L RL 59 yX10_lead cX10_lead 4 (some .int) 2 := ⟨wm_663, wm_660, wm_5, by decide, by decide, by decide +kernel⟩
theorem gllv_59 : Cond.instanceMethod yX10_lead ∈ wsL_law ∧ Cond.selects yX10_lead.cls yX10_lead yX10_lead ∈ wsL_law := ⟨wm_661, wm_662⟩
set_option maxRecDepth 100000 in
set_option maxHeartbeats 4000000 in
theorem lw_case_9 {p : Program} {l : Launch} {e : Env} {s : State} {m : MethodId} {below : List Frame} {meth : Method} {c : Code} {b L : Nat} {xs : Nat → Int32} {D : va_G} {kd : Nat → ClassId} {adK adV adC adM : Nat → Nat} {i : Nat} (K : lwK p s m meth c b L xs D kd adK adV adC adM) (hL : L ≤ 2048) (hi : i + 3 < L) {cs ms : gS} (R : Rel cs ms) (next : ∀ cs' ms', Rel cs' ms' → lwY p l e s m below meth c b D kd adC adM 950 [(3, .int (nI i)), (2, .ref (adM 0)), (1, .ref (adC 0)), (0, .ref b)] [] cs' ms') : lwY p l e s m below meth c b D kd adC adM 439 [(3, .int (nI i)), (2, .ref (adM 0)), (1, .ref (adC 0)), (0, .ref b)] [] cs ms := by
  refine y_aload_n K (q := 440) 2 rfl dL_law_439 rfl ?_
  refine y_aload_n K (q := 441) 3 rfl dL_law_440 rfl ?_
  refine y_iload_n K (q := 442) 0 rfl dL_law_441 rfl ?_
  refine y_iconst K (q := 443) (v := 1) (by decide) dL_law_442 rfl ?_
  refine y_iadd K (q := 444) (v := nI (i + 1)) (nI_add i 1) dL_law_443 rfl ?_
  refine y_sld K (q := 445) (j := i + 1) (by omega) hL dL_law_444 rfl ?_
  refine y_aload_n K (q := 446) 3 rfl dL_law_445 rfl ?_
  refine y_iload_n K (q := 447) 0 rfl dL_law_446 rfl ?_
  refine y_iconst K (q := 448) (v := 2) (by decide) dL_law_447 rfl ?_
  refine y_iadd K (q := 449) (v := nI (i + 2)) (nI_add i 2) dL_law_448 rfl ?_
  refine y_sld K (q := 450) (j := i + 2) (by omega) hL dL_law_449 rfl ?_
  obtain ⟨v, c1, m1, e1, e2, R1⟩ := op_lead R (xs (i + 1)) (xs (i + 2))
  have hmC := m_X9_lead (l, D, kd, adK, adV) K.2.2.2.2.2.2.2.2.2.2.2.1 (xs (i + 1)) (xs (i + 2)) cs
  rw [e1] at hmC
  refine y_callC K (q := 453) (levy := 2) (st := []) [.int (xs (i + 1)), .int (xs (i + 2))] rfl gll_55 gllv_55 hmC rfl rfl (Nat.le_of_ble_eq_true rfl) ⟨by omega, by omega⟩ dL_law_450 rfl ?_
  refine y_aload_n K (q := 454) 1 rfl dL_law_453 rfl ?_
  refine y_aload_n K (q := 455) 3 rfl dL_law_454 rfl ?_
  refine y_iload_n K (q := 456) 0 rfl dL_law_455 rfl ?_
  refine y_iconst K (q := 457) (v := 1) (by decide) dL_law_456 rfl ?_
  refine y_iadd K (q := 458) (v := nI (i + 1)) (nI_add i 1) dL_law_457 rfl ?_
  refine y_sld K (q := 459) (j := i + 1) (by omega) hL dL_law_458 rfl ?_
  refine y_aload_n K (q := 460) 3 rfl dL_law_459 rfl ?_
  refine y_iload_n K (q := 461) 0 rfl dL_law_460 rfl ?_
  refine y_iconst K (q := 462) (v := 2) (by decide) dL_law_461 rfl ?_
  refine y_iadd K (q := 463) (v := nI (i + 2)) (nI_add i 2) dL_law_462 rfl ?_
  refine y_sld K (q := 464) (j := i + 2) (by omega) hL dL_law_463 rfl ?_
  have hmM := m_X10_lead (l, D, kd, adK, adV) K.2.2.2.2.2.2.2.2.2.2.2.2.1 (xs (i + 1)) (xs (i + 2)) ms
  rw [e2] at hmM
  refine y_callM K (q := 467) (levy := 2) (st := [.int v]) [.int (xs (i + 1)), .int (xs (i + 2))] rfl gll_59 gllv_59 hmM rfl rfl (Nat.le_of_ble_eq_true rfl) ⟨by omega, by omega⟩ dL_law_464 rfl ?_
  refine y_icmp_eq K (tgt := 950) dL_law_467 rfl ?_
  exact next c1 m1 R1
theorem gll_60 : g_L RL 60 yX9_lick cX9_lick 5 (some .int) 2 := ⟨wm_667, wm_664, wm_2, by decide, by decide, by decide +kernel⟩
theorem gllv_60 : Cond.instanceMethod yX9_lick ∈ wsL_law ∧ Cond.selects yX9_lick.cls yX9_lick yX9_lick ∈ wsL_law := ⟨wm_665, wm_666⟩
theorem gll_63 : g_L RL 63 yX10_lick cX10_lick 4 (some .int) 2 := ⟨wm_671, wm_668, wm_5, by decide, by decide, by decide +kernel⟩
theorem gllv_63 : Cond.instanceMethod yX10_lick ∈ wsL_law ∧ Cond.selects yX10_lick.cls yX10_lick yX10_lick ∈ wsL_law := ⟨wm_669, wm_670⟩
set_option maxRecDepth 100000 in
set_option maxHeartbeats 4000000 in
theorem lw_case_10 {p : Program} {l : Launch} {e : Env} {s : State} {m : MethodId} {below : List Frame} {meth : Method} {c : Code} {b L : Nat} {xs : Nat → Int32} {D : va_G} {kd : Nat → ClassId} {adK adV adC adM : Nat → Nat} {i : Nat} (K : lwK p s m meth c b L xs D kd adK adV adC adM) (hL : L ≤ 2048) (hi : i + 3 < L) {cs ms : gS} (R : Rel cs ms) (next : ∀ cs' ms', Rel cs' ms' → lwY p l e s m below meth c b D kd adC adM 950 [(3, .int (nI i)), (2, .ref (adM 0)), (1, .ref (adC 0)), (0, .ref b)] [] cs' ms') : lwY p l e s m below meth c b D kd adC adM 472 [(3, .int (nI i)), (2, .ref (adM 0)), (1, .ref (adC 0)), (0, .ref b)] [] cs ms := by
  refine y_aload_n K (q := 473) 2 rfl dL_law_472 rfl ?_
  refine y_aload_n K (q := 474) 3 rfl dL_law_473 rfl ?_
  refine y_iload_n K (q := 475) 0 rfl dL_law_474 rfl ?_
  refine y_iconst K (q := 476) (v := 1) (by decide) dL_law_475 rfl ?_
  refine y_iadd K (q := 477) (v := nI (i + 1)) (nI_add i 1) dL_law_476 rfl ?_
  refine y_sld K (q := 478) (j := i + 1) (by omega) hL dL_law_477 rfl ?_
  refine y_aload_n K (q := 479) 3 rfl dL_law_478 rfl ?_
  refine y_iload_n K (q := 480) 0 rfl dL_law_479 rfl ?_
  refine y_iconst K (q := 481) (v := 2) (by decide) dL_law_480 rfl ?_
  refine y_iadd K (q := 482) (v := nI (i + 2)) (nI_add i 2) dL_law_481 rfl ?_
  refine y_sld K (q := 483) (j := i + 2) (by omega) hL dL_law_482 rfl ?_
  obtain ⟨v, c1, m1, e1, e2, R1⟩ := op_lick R (xs (i + 1)) (xs (i + 2))
  have hmC := m_X9_lick (l, D, kd, adK, adV) K.2.2.2.2.2.2.2.2.2.2.2.1 (xs (i + 1)) (xs (i + 2)) cs
  rw [e1] at hmC
  refine y_callC K (q := 486) (levy := 2) (st := []) [.int (xs (i + 1)), .int (xs (i + 2))] rfl gll_60 gllv_60 hmC rfl rfl (Nat.le_of_ble_eq_true rfl) ⟨by omega, by omega⟩ dL_law_483 rfl ?_
  refine y_aload_n K (q := 487) 1 rfl dL_law_486 rfl ?_
  refine y_aload_n K (q := 488) 3 rfl dL_law_487 rfl ?_
  refine y_iload_n K (q := 489) 0 rfl dL_law_488 rfl ?_
  refine y_iconst K (q := 490) (v := 1) (by decide) dL_law_489 rfl ?_
  refine y_iadd K (q := 491) (v := nI (i + 1)) (nI_add i 1) dL_law_490 rfl ?_
  refine y_sld K (q := 492) (j := i + 1) (by omega) hL dL_law_491 rfl ?_
  refine y_aload_n K (q := 493) 3 rfl dL_law_492 rfl ?_
  refine y_iload_n K (q := 494) 0 rfl dL_law_493 rfl ?_
  refine y_iconst K (q := 495) (v := 2) (by decide) dL_law_494 rfl ?_
  refine y_iadd K (q := 496) (v := nI (i + 2)) (nI_add i 2) dL_law_495 rfl ?_
  refine y_sld K (q := 497) (j := i + 2) (by omega) hL dL_law_496 rfl ?_
  have hmM := m_X10_lick (l, D, kd, adK, adV) K.2.2.2.2.2.2.2.2.2.2.2.2.1 (xs (i + 1)) (xs (i + 2)) ms
  rw [e2] at hmM
  refine y_callM K (q := 500) (levy := 2) (st := [.int v]) [.int (xs (i + 1)), .int (xs (i + 2))] rfl gll_63 gllv_63 hmM rfl rfl (Nat.le_of_ble_eq_true rfl) ⟨by omega, by omega⟩ dL_law_497 rfl ?_
  refine y_icmp_eq K (tgt := 950) dL_law_500 rfl ?_
  exact next c1 m1 R1
theorem gll_64 : g_L RL 64 yX9_odds cX9_odds 5 (some .int) 3 := ⟨wm_675, wm_672, wm_2, by decide, by decide, by decide +kernel⟩
theorem gllv_64 : Cond.instanceMethod yX9_odds ∈ wsL_law ∧ Cond.selects yX9_odds.cls yX9_odds yX9_odds ∈ wsL_law := ⟨wm_673, wm_674⟩
theorem gll_67 : g_L RL 67 yX10_odds cX10_odds 4 (some .int) 3 := ⟨wm_710, wm_707, wm_5, by decide, by decide, by decide +kernel⟩
theorem gllv_67 : Cond.instanceMethod yX10_odds ∈ wsL_law ∧ Cond.selects yX10_odds.cls yX10_odds yX10_odds ∈ wsL_law := ⟨wm_708, wm_709⟩
set_option maxRecDepth 100000 in
set_option maxHeartbeats 4000000 in
theorem lw_case_11 {p : Program} {l : Launch} {e : Env} {s : State} {m : MethodId} {below : List Frame} {meth : Method} {c : Code} {b L : Nat} {xs : Nat → Int32} {D : va_G} {kd : Nat → ClassId} {adK adV adC adM : Nat → Nat} {i : Nat} (K : lwK p s m meth c b L xs D kd adK adV adC adM) (hL : L ≤ 2048) (hi : i + 3 < L) {cs ms : gS} (R : Rel cs ms) (next : ∀ cs' ms', Rel cs' ms' → lwY p l e s m below meth c b D kd adC adM 950 [(3, .int (nI i)), (2, .ref (adM 0)), (1, .ref (adC 0)), (0, .ref b)] [] cs' ms') : lwY p l e s m below meth c b D kd adC adM 505 [(3, .int (nI i)), (2, .ref (adM 0)), (1, .ref (adC 0)), (0, .ref b)] [] cs ms := by
  refine y_aload_n K (q := 506) 2 rfl dL_law_505 rfl ?_
  refine y_aload_n K (q := 507) 3 rfl dL_law_506 rfl ?_
  refine y_iload_n K (q := 508) 0 rfl dL_law_507 rfl ?_
  refine y_iconst K (q := 509) (v := 1) (by decide) dL_law_508 rfl ?_
  refine y_iadd K (q := 510) (v := nI (i + 1)) (nI_add i 1) dL_law_509 rfl ?_
  refine y_sld K (q := 511) (j := i + 1) (by omega) hL dL_law_510 rfl ?_
  refine y_aload_n K (q := 512) 3 rfl dL_law_511 rfl ?_
  refine y_iload_n K (q := 513) 0 rfl dL_law_512 rfl ?_
  refine y_iconst K (q := 514) (v := 2) (by decide) dL_law_513 rfl ?_
  refine y_iadd K (q := 515) (v := nI (i + 2)) (nI_add i 2) dL_law_514 rfl ?_
  refine y_sld K (q := 516) (j := i + 2) (by omega) hL dL_law_515 rfl ?_
  refine y_aload_n K (q := 517) 3 rfl dL_law_516 rfl ?_
  refine y_iload_n K (q := 518) 0 rfl dL_law_517 rfl ?_
  refine y_iconst K (q := 519) (v := 3) (by decide) dL_law_518 rfl ?_
  refine y_iadd K (q := 520) (v := nI (i + 3)) (nI_add i 3) dL_law_519 rfl ?_
  refine y_sld K (q := 521) (j := i + 3) (by omega) hL dL_law_520 rfl ?_
  obtain ⟨v, c1, m1, e1, e2, R1⟩ := op_odds R (xs (i + 1)) (xs (i + 2)) (xs (i + 3))
  have hmC := m_X9_odds (l, D, kd, adK, adV) K.2.2.2.2.2.2.2.2.2.2.2.1 (xs (i + 1)) (xs (i + 2)) (xs (i + 3)) cs
  rw [e1] at hmC
  refine y_callC K (q := 524) (levy := 4) (st := []) [.int (xs (i + 1)), .int (xs (i + 2)), .int (xs (i + 3))] rfl gll_64 gllv_64 hmC rfl rfl (Nat.le_of_ble_eq_true rfl) ⟨by omega, by omega⟩ dL_law_521 rfl ?_
  refine y_aload_n K (q := 525) 1 rfl dL_law_524 rfl ?_
  refine y_aload_n K (q := 526) 3 rfl dL_law_525 rfl ?_
  refine y_iload_n K (q := 527) 0 rfl dL_law_526 rfl ?_
  refine y_iconst K (q := 528) (v := 1) (by decide) dL_law_527 rfl ?_
  refine y_iadd K (q := 529) (v := nI (i + 1)) (nI_add i 1) dL_law_528 rfl ?_
  refine y_sld K (q := 530) (j := i + 1) (by omega) hL dL_law_529 rfl ?_
  refine y_aload_n K (q := 531) 3 rfl dL_law_530 rfl ?_
  refine y_iload_n K (q := 532) 0 rfl dL_law_531 rfl ?_
  refine y_iconst K (q := 533) (v := 2) (by decide) dL_law_532 rfl ?_
  refine y_iadd K (q := 534) (v := nI (i + 2)) (nI_add i 2) dL_law_533 rfl ?_
  refine y_sld K (q := 535) (j := i + 2) (by omega) hL dL_law_534 rfl ?_
  refine y_aload_n K (q := 536) 3 rfl dL_law_535 rfl ?_
  refine y_iload_n K (q := 537) 0 rfl dL_law_536 rfl ?_
  refine y_iconst K (q := 538) (v := 3) (by decide) dL_law_537 rfl ?_
  refine y_iadd K (q := 539) (v := nI (i + 3)) (nI_add i 3) dL_law_538 rfl ?_
  refine y_sld K (q := 540) (j := i + 3) (by omega) hL dL_law_539 rfl ?_
  have hmM := m_X10_odds (l, D, kd, adK, adV) K.2.2.2.2.2.2.2.2.2.2.2.2.1 (xs (i + 1)) (xs (i + 2)) (xs (i + 3)) ms
  rw [e2] at hmM
  refine y_callM K (q := 543) (levy := 7) (st := [.int v]) [.int (xs (i + 1)), .int (xs (i + 2)), .int (xs (i + 3))] rfl gll_67 gllv_67 hmM rfl rfl (Nat.le_of_ble_eq_true rfl) ⟨by omega, by omega⟩ dL_law_540 rfl ?_
  refine y_icmp_eq K (tgt := 950) dL_law_543 rfl ?_
  exact next c1 m1 R1
theorem gll_68 : g_L RL 68 yX9_mean cX9_mean 2 (some .int) 1 := ⟨wm_732, wm_729, wm_2, by decide, by decide, by decide +kernel⟩
theorem gllv_68 : Cond.instanceMethod yX9_mean ∈ wsL_law ∧ Cond.selects yX9_mean.cls yX9_mean yX9_mean ∈ wsL_law := ⟨wm_730, wm_731⟩
theorem gll_71 : g_L RL 71 yX10_mean cX10_mean 2 (some .int) 1 := ⟨wm_752, wm_749, wm_5, by decide, by decide, by decide +kernel⟩
theorem gllv_71 : Cond.instanceMethod yX10_mean ∈ wsL_law ∧ Cond.selects yX10_mean.cls yX10_mean yX10_mean ∈ wsL_law := ⟨wm_750, wm_751⟩
set_option maxRecDepth 100000 in
set_option maxHeartbeats 4000000 in
theorem lw_case_12 {p : Program} {l : Launch} {e : Env} {s : State} {m : MethodId} {below : List Frame} {meth : Method} {c : Code} {b L : Nat} {xs : Nat → Int32} {D : va_G} {kd : Nat → ClassId} {adK adV adC adM : Nat → Nat} {i : Nat} (K : lwK p s m meth c b L xs D kd adK adV adC adM) (hL : L ≤ 2048) (hi : i + 3 < L) {cs ms : gS} (R : Rel cs ms) (next : ∀ cs' ms', Rel cs' ms' → lwY p l e s m below meth c b D kd adC adM 950 [(3, .int (nI i)), (2, .ref (adM 0)), (1, .ref (adC 0)), (0, .ref b)] [] cs' ms') : lwY p l e s m below meth c b D kd adC adM 548 [(3, .int (nI i)), (2, .ref (adM 0)), (1, .ref (adC 0)), (0, .ref b)] [] cs ms := by
  refine y_aload_n K (q := 549) 2 rfl dL_law_548 rfl ?_
  refine y_aload_n K (q := 550) 3 rfl dL_law_549 rfl ?_
  refine y_iload_n K (q := 551) 0 rfl dL_law_550 rfl ?_
  refine y_iconst K (q := 552) (v := 1) (by decide) dL_law_551 rfl ?_
  refine y_iadd K (q := 553) (v := nI (i + 1)) (nI_add i 1) dL_law_552 rfl ?_
  refine y_sld K (q := 554) (j := i + 1) (by omega) hL dL_law_553 rfl ?_
  obtain ⟨v, c1, m1, e1, e2, R1⟩ := op_mean R (xs (i + 1))
  have hmC := m_X9_mean (l, D, kd, adK, adV) K.2.2.2.2.2.2.2.2.2.2.2.1 (xs (i + 1)) cs
  rw [e1] at hmC
  refine y_callC K (q := 557) (levy := 5) (st := []) [.int (xs (i + 1))] rfl gll_68 gllv_68 hmC rfl rfl (Nat.le_of_ble_eq_true rfl) ⟨by omega, by omega⟩ dL_law_554 rfl ?_
  refine y_aload_n K (q := 558) 1 rfl dL_law_557 rfl ?_
  refine y_aload_n K (q := 559) 3 rfl dL_law_558 rfl ?_
  refine y_iload_n K (q := 560) 0 rfl dL_law_559 rfl ?_
  refine y_iconst K (q := 561) (v := 1) (by decide) dL_law_560 rfl ?_
  refine y_iadd K (q := 562) (v := nI (i + 1)) (nI_add i 1) dL_law_561 rfl ?_
  refine y_sld K (q := 563) (j := i + 1) (by omega) hL dL_law_562 rfl ?_
  have hmM := m_X10_mean (l, D, kd, adK, adV) K.2.2.2.2.2.2.2.2.2.2.2.2.1 (xs (i + 1)) ms
  rw [e2] at hmM
  refine y_callM K (q := 566) (levy := 8) (st := [.int v]) [.int (xs (i + 1))] rfl gll_71 gllv_71 hmM rfl rfl (Nat.le_of_ble_eq_true rfl) ⟨by omega, by omega⟩ dL_law_563 rfl ?_
  refine y_icmp_eq K (tgt := 950) dL_law_566 rfl ?_
  exact next c1 m1 R1
theorem gll_72 : g_L RL 72 yX9_clover cX9_clover 5 (some .int) 3 := ⟨wm_760, wm_757, wm_2, by decide, by decide, by decide +kernel⟩
theorem gllv_72 : Cond.instanceMethod yX9_clover ∈ wsL_law ∧ Cond.selects yX9_clover.cls yX9_clover yX9_clover ∈ wsL_law := ⟨wm_758, wm_759⟩
theorem gll_75 : g_L RL 75 yX10_clover cX10_clover 5 (some .int) 3 := ⟨wm_774, wm_771, wm_5, by decide, by decide, by decide +kernel⟩
theorem gllv_75 : Cond.instanceMethod yX10_clover ∈ wsL_law ∧ Cond.selects yX10_clover.cls yX10_clover yX10_clover ∈ wsL_law := ⟨wm_772, wm_773⟩
set_option maxRecDepth 100000 in
set_option maxHeartbeats 4000000 in
theorem lw_case_13 {p : Program} {l : Launch} {e : Env} {s : State} {m : MethodId} {below : List Frame} {meth : Method} {c : Code} {b L : Nat} {xs : Nat → Int32} {D : va_G} {kd : Nat → ClassId} {adK adV adC adM : Nat → Nat} {i : Nat} (K : lwK p s m meth c b L xs D kd adK adV adC adM) (hL : L ≤ 2048) (hi : i + 3 < L) {cs ms : gS} (R : Rel cs ms) (next : ∀ cs' ms', Rel cs' ms' → lwY p l e s m below meth c b D kd adC adM 950 [(3, .int (nI i)), (2, .ref (adM 0)), (1, .ref (adC 0)), (0, .ref b)] [] cs' ms') : lwY p l e s m below meth c b D kd adC adM 571 [(3, .int (nI i)), (2, .ref (adM 0)), (1, .ref (adC 0)), (0, .ref b)] [] cs ms := by
  refine y_aload_n K (q := 572) 2 rfl dL_law_571 rfl ?_
  refine y_aload_n K (q := 573) 3 rfl dL_law_572 rfl ?_
  refine y_iload_n K (q := 574) 0 rfl dL_law_573 rfl ?_
  refine y_iconst K (q := 575) (v := 1) (by decide) dL_law_574 rfl ?_
  refine y_iadd K (q := 576) (v := nI (i + 1)) (nI_add i 1) dL_law_575 rfl ?_
  refine y_sld K (q := 577) (j := i + 1) (by omega) hL dL_law_576 rfl ?_
  refine y_aload_n K (q := 578) 3 rfl dL_law_577 rfl ?_
  refine y_iload_n K (q := 579) 0 rfl dL_law_578 rfl ?_
  refine y_iconst K (q := 580) (v := 2) (by decide) dL_law_579 rfl ?_
  refine y_iadd K (q := 581) (v := nI (i + 2)) (nI_add i 2) dL_law_580 rfl ?_
  refine y_sld K (q := 582) (j := i + 2) (by omega) hL dL_law_581 rfl ?_
  refine y_aload_n K (q := 583) 3 rfl dL_law_582 rfl ?_
  refine y_iload_n K (q := 584) 0 rfl dL_law_583 rfl ?_
  refine y_iconst K (q := 585) (v := 3) (by decide) dL_law_584 rfl ?_
  refine y_iadd K (q := 586) (v := nI (i + 3)) (nI_add i 3) dL_law_585 rfl ?_
  refine y_sld K (q := 587) (j := i + 3) (by omega) hL dL_law_586 rfl ?_
  obtain ⟨v, c1, m1, e1, e2, R1⟩ := op_clover R (xs (i + 1)) (xs (i + 2)) (xs (i + 3))
  have hmC := m_X9_clover (l, D, kd, adK, adV) K.2.2.2.2.2.2.2.2.2.2.2.1 (xs (i + 1)) (xs (i + 2)) (xs (i + 3)) cs
  rw [e1] at hmC
  refine y_callC K (q := 590) (levy := 5) (st := []) [.int (xs (i + 1)), .int (xs (i + 2)), .int (xs (i + 3))] rfl gll_72 gllv_72 hmC rfl rfl (Nat.le_of_ble_eq_true rfl) ⟨by omega, by omega⟩ dL_law_587 rfl ?_
  refine y_aload_n K (q := 591) 1 rfl dL_law_590 rfl ?_
  refine y_aload_n K (q := 592) 3 rfl dL_law_591 rfl ?_
  refine y_iload_n K (q := 593) 0 rfl dL_law_592 rfl ?_
  refine y_iconst K (q := 594) (v := 1) (by decide) dL_law_593 rfl ?_
  refine y_iadd K (q := 595) (v := nI (i + 1)) (nI_add i 1) dL_law_594 rfl ?_
  refine y_sld K (q := 596) (j := i + 1) (by omega) hL dL_law_595 rfl ?_
  refine y_aload_n K (q := 597) 3 rfl dL_law_596 rfl ?_
  refine y_iload_n K (q := 598) 0 rfl dL_law_597 rfl ?_
  refine y_iconst K (q := 599) (v := 2) (by decide) dL_law_598 rfl ?_
  refine y_iadd K (q := 600) (v := nI (i + 2)) (nI_add i 2) dL_law_599 rfl ?_
  refine y_sld K (q := 601) (j := i + 2) (by omega) hL dL_law_600 rfl ?_
  refine y_aload_n K (q := 602) 3 rfl dL_law_601 rfl ?_
  refine y_iload_n K (q := 603) 0 rfl dL_law_602 rfl ?_
  refine y_iconst K (q := 604) (v := 3) (by decide) dL_law_603 rfl ?_
  refine y_iadd K (q := 605) (v := nI (i + 3)) (nI_add i 3) dL_law_604 rfl ?_
  refine y_sld K (q := 606) (j := i + 3) (by omega) hL dL_law_605 rfl ?_
  have hmM := m_X10_clover (l, D, kd, adK, adV) K.2.2.2.2.2.2.2.2.2.2.2.2.1 (xs (i + 1)) (xs (i + 2)) (xs (i + 3)) ms
  rw [e2] at hmM
  refine y_callM K (q := 609) (levy := 9) (st := [.int v]) [.int (xs (i + 1)), .int (xs (i + 2)), .int (xs (i + 3))] rfl gll_75 gllv_75 hmM rfl rfl (Nat.le_of_ble_eq_true rfl) ⟨by omega, by omega⟩ dL_law_606 rfl ?_
  refine y_icmp_eq K (tgt := 950) dL_law_609 rfl ?_
  exact next c1 m1 R1
theorem gll_76 : g_L RL 76 yX9_rests cX9_rests 4 (some .int) 2 := ⟨wm_792, wm_789, wm_2, by decide, by decide, by decide +kernel⟩
theorem gllv_76 : Cond.instanceMethod yX9_rests ∈ wsL_law ∧ Cond.selects yX9_rests.cls yX9_rests yX9_rests ∈ wsL_law := ⟨wm_790, wm_791⟩
theorem gll_79 : g_L RL 79 yX10_rests cX10_rests 8 (some .int) 2 := ⟨wm_803, wm_800, wm_5, by decide, by decide, by decide +kernel⟩
theorem gllv_79 : Cond.instanceMethod yX10_rests ∈ wsL_law ∧ Cond.selects yX10_rests.cls yX10_rests yX10_rests ∈ wsL_law := ⟨wm_801, wm_802⟩
set_option maxRecDepth 100000 in
set_option maxHeartbeats 4000000 in
theorem lw_case_14 {p : Program} {l : Launch} {e : Env} {s : State} {m : MethodId} {below : List Frame} {meth : Method} {c : Code} {b L : Nat} {xs : Nat → Int32} {D : va_G} {kd : Nat → ClassId} {adK adV adC adM : Nat → Nat} {i : Nat} (K : lwK p s m meth c b L xs D kd adK adV adC adM) (hL : L ≤ 2048) (hi : i + 3 < L) {cs ms : gS} (R : Rel cs ms) (next : ∀ cs' ms', Rel cs' ms' → lwY p l e s m below meth c b D kd adC adM 950 [(3, .int (nI i)), (2, .ref (adM 0)), (1, .ref (adC 0)), (0, .ref b)] [] cs' ms') : lwY p l e s m below meth c b D kd adC adM 614 [(3, .int (nI i)), (2, .ref (adM 0)), (1, .ref (adC 0)), (0, .ref b)] [] cs ms := by
  refine y_aload_n K (q := 615) 2 rfl dL_law_614 rfl ?_
  refine y_aload_n K (q := 616) 3 rfl dL_law_615 rfl ?_
  refine y_iload_n K (q := 617) 0 rfl dL_law_616 rfl ?_
  refine y_iconst K (q := 618) (v := 1) (by decide) dL_law_617 rfl ?_
  refine y_iadd K (q := 619) (v := nI (i + 1)) (nI_add i 1) dL_law_618 rfl ?_
  refine y_sld K (q := 620) (j := i + 1) (by omega) hL dL_law_619 rfl ?_
  refine y_aload_n K (q := 621) 3 rfl dL_law_620 rfl ?_
  refine y_iload_n K (q := 622) 0 rfl dL_law_621 rfl ?_
  refine y_iconst K (q := 623) (v := 2) (by decide) dL_law_622 rfl ?_
  refine y_iadd K (q := 624) (v := nI (i + 2)) (nI_add i 2) dL_law_623 rfl ?_
  refine y_sld K (q := 625) (j := i + 2) (by omega) hL dL_law_624 rfl ?_
  obtain ⟨v, c1, m1, e1, e2, R1⟩ := op_rests R (xs (i + 1)) (xs (i + 2))
  have hmC := m_X9_rests (l, D, kd, adK, adV) K.2.2.2.2.2.2.2.2.2.2.2.1 (xs (i + 1)) (xs (i + 2)) cs
  rw [e1] at hmC
  refine y_callC K (q := 628) (levy := 6) (st := []) [.int (xs (i + 1)), .int (xs (i + 2))] rfl gll_76 gllv_76 hmC rfl rfl (Nat.le_of_ble_eq_true rfl) ⟨by omega, by omega⟩ dL_law_625 rfl ?_
  refine y_aload_n K (q := 629) 1 rfl dL_law_628 rfl ?_
  refine y_aload_n K (q := 630) 3 rfl dL_law_629 rfl ?_
  refine y_iload_n K (q := 631) 0 rfl dL_law_630 rfl ?_
  refine y_iconst K (q := 632) (v := 1) (by decide) dL_law_631 rfl ?_
  refine y_iadd K (q := 633) (v := nI (i + 1)) (nI_add i 1) dL_law_632 rfl ?_
  refine y_sld K (q := 634) (j := i + 1) (by omega) hL dL_law_633 rfl ?_
  refine y_aload_n K (q := 635) 3 rfl dL_law_634 rfl ?_
  refine y_iload_n K (q := 636) 0 rfl dL_law_635 rfl ?_
  refine y_iconst K (q := 637) (v := 2) (by decide) dL_law_636 rfl ?_
  refine y_iadd K (q := 638) (v := nI (i + 2)) (nI_add i 2) dL_law_637 rfl ?_
  refine y_sld K (q := 639) (j := i + 2) (by omega) hL dL_law_638 rfl ?_
  have hmM := m_X10_rests (l, D, kd, adK, adV) K.2.2.2.2.2.2.2.2.2.2.2.2.1 (xs (i + 1)) (xs (i + 2)) ms
  rw [e2] at hmM
  refine y_callM K (q := 642) (levy := 9) (st := [.int v]) [.int (xs (i + 1)), .int (xs (i + 2))] rfl gll_79 gllv_79 hmM rfl rfl (Nat.le_of_ble_eq_true rfl) ⟨by omega, by omega⟩ dL_law_639 rfl ?_
  refine y_icmp_eq K (tgt := 950) dL_law_642 rfl ?_
  exact next c1 m1 R1
theorem gll_80 : g_L RL 80 yX9_worth cX9_worth 5 (some .int) 3 := ⟨wm_807, wm_804, wm_2, by decide, by decide, by decide +kernel⟩
theorem gllv_80 : Cond.instanceMethod yX9_worth ∈ wsL_law ∧ Cond.selects yX9_worth.cls yX9_worth yX9_worth ∈ wsL_law := ⟨wm_805, wm_806⟩
theorem gll_83 : g_L RL 83 yX10_worth cX10_worth 7 (some .int) 3 := ⟨wm_811, wm_808, wm_5, by decide, by decide, by decide +kernel⟩
theorem gllv_83 : Cond.instanceMethod yX10_worth ∈ wsL_law ∧ Cond.selects yX10_worth.cls yX10_worth yX10_worth ∈ wsL_law := ⟨wm_809, wm_810⟩
set_option maxRecDepth 100000 in
set_option maxHeartbeats 4000000 in
theorem lw_case_15 {p : Program} {l : Launch} {e : Env} {s : State} {m : MethodId} {below : List Frame} {meth : Method} {c : Code} {b L : Nat} {xs : Nat → Int32} {D : va_G} {kd : Nat → ClassId} {adK adV adC adM : Nat → Nat} {i : Nat} (K : lwK p s m meth c b L xs D kd adK adV adC adM) (hL : L ≤ 2048) (hi : i + 3 < L) {cs ms : gS} (R : Rel cs ms) (next : ∀ cs' ms', Rel cs' ms' → lwY p l e s m below meth c b D kd adC adM 950 [(3, .int (nI i)), (2, .ref (adM 0)), (1, .ref (adC 0)), (0, .ref b)] [] cs' ms') : lwY p l e s m below meth c b D kd adC adM 647 [(3, .int (nI i)), (2, .ref (adM 0)), (1, .ref (adC 0)), (0, .ref b)] [] cs ms := by
  refine y_aload_n K (q := 648) 2 rfl dL_law_647 rfl ?_
  refine y_aload_n K (q := 649) 3 rfl dL_law_648 rfl ?_
  refine y_iload_n K (q := 650) 0 rfl dL_law_649 rfl ?_
  refine y_iconst K (q := 651) (v := 1) (by decide) dL_law_650 rfl ?_
  refine y_iadd K (q := 652) (v := nI (i + 1)) (nI_add i 1) dL_law_651 rfl ?_
  refine y_sld K (q := 653) (j := i + 1) (by omega) hL dL_law_652 rfl ?_
  refine y_aload_n K (q := 654) 3 rfl dL_law_653 rfl ?_
  refine y_iload_n K (q := 655) 0 rfl dL_law_654 rfl ?_
  refine y_iconst K (q := 656) (v := 2) (by decide) dL_law_655 rfl ?_
  refine y_iadd K (q := 657) (v := nI (i + 2)) (nI_add i 2) dL_law_656 rfl ?_
  refine y_sld K (q := 658) (j := i + 2) (by omega) hL dL_law_657 rfl ?_
  refine y_aload_n K (q := 659) 3 rfl dL_law_658 rfl ?_
  refine y_iload_n K (q := 660) 0 rfl dL_law_659 rfl ?_
  refine y_iconst K (q := 661) (v := 3) (by decide) dL_law_660 rfl ?_
  refine y_iadd K (q := 662) (v := nI (i + 3)) (nI_add i 3) dL_law_661 rfl ?_
  refine y_sld K (q := 663) (j := i + 3) (by omega) hL dL_law_662 rfl ?_
  obtain ⟨v, c1, m1, e1, e2, R1⟩ := op_worth R (xs (i + 1)) (xs (i + 2)) (xs (i + 3))
  have hmC := m_X9_worth (l, D, kd, adK, adV) K.2.2.2.2.2.2.2.2.2.2.2.1 (xs (i + 1)) (xs (i + 2)) (xs (i + 3)) cs
  rw [e1] at hmC
  refine y_callC K (q := 666) (levy := 5) (st := []) [.int (xs (i + 1)), .int (xs (i + 2)), .int (xs (i + 3))] rfl gll_80 gllv_80 hmC rfl rfl (Nat.le_of_ble_eq_true rfl) ⟨by omega, by omega⟩ dL_law_663 rfl ?_
  refine y_aload_n K (q := 667) 1 rfl dL_law_666 rfl ?_
  refine y_aload_n K (q := 668) 3 rfl dL_law_667 rfl ?_
  refine y_iload_n K (q := 669) 0 rfl dL_law_668 rfl ?_
  refine y_iconst K (q := 670) (v := 1) (by decide) dL_law_669 rfl ?_
  refine y_iadd K (q := 671) (v := nI (i + 1)) (nI_add i 1) dL_law_670 rfl ?_
  refine y_sld K (q := 672) (j := i + 1) (by omega) hL dL_law_671 rfl ?_
  refine y_aload_n K (q := 673) 3 rfl dL_law_672 rfl ?_
  refine y_iload_n K (q := 674) 0 rfl dL_law_673 rfl ?_
  refine y_iconst K (q := 675) (v := 2) (by decide) dL_law_674 rfl ?_
  refine y_iadd K (q := 676) (v := nI (i + 2)) (nI_add i 2) dL_law_675 rfl ?_
  refine y_sld K (q := 677) (j := i + 2) (by omega) hL dL_law_676 rfl ?_
  refine y_aload_n K (q := 678) 3 rfl dL_law_677 rfl ?_
  refine y_iload_n K (q := 679) 0 rfl dL_law_678 rfl ?_
  refine y_iconst K (q := 680) (v := 3) (by decide) dL_law_679 rfl ?_
  refine y_iadd K (q := 681) (v := nI (i + 3)) (nI_add i 3) dL_law_680 rfl ?_
  refine y_sld K (q := 682) (j := i + 3) (by omega) hL dL_law_681 rfl ?_
  have hmM := m_X10_worth (l, D, kd, adK, adV) K.2.2.2.2.2.2.2.2.2.2.2.2.1 (xs (i + 1)) (xs (i + 2)) (xs (i + 3)) ms
  rw [e2] at hmM
  refine y_callM K (q := 685) (levy := 8) (st := [.int v]) [.int (xs (i + 1)), .int (xs (i + 2)), .int (xs (i + 3))] rfl gll_83 gllv_83 hmM rfl rfl (Nat.le_of_ble_eq_true rfl) ⟨by omega, by omega⟩ dL_law_682 rfl ?_
  refine y_icmp_eq K (tgt := 950) dL_law_685 rfl ?_
  exact next c1 m1 R1
theorem gll_84 : g_L RL 84 yX9_fairest cX9_fairest 3 (some .int) 1 := ⟨wm_815, wm_812, wm_2, by decide, by decide, by decide +kernel⟩
theorem gllv_84 : Cond.instanceMethod yX9_fairest ∈ wsL_law ∧ Cond.selects yX9_fairest.cls yX9_fairest yX9_fairest ∈ wsL_law := ⟨wm_813, wm_814⟩
theorem gll_87 : g_L RL 87 yX10_fairest cX10_fairest 7 (some .int) 1 := ⟨wm_828, wm_825, wm_5, by decide, by decide, by decide +kernel⟩
theorem gllv_87 : Cond.instanceMethod yX10_fairest ∈ wsL_law ∧ Cond.selects yX10_fairest.cls yX10_fairest yX10_fairest ∈ wsL_law := ⟨wm_826, wm_827⟩
set_option maxRecDepth 100000 in
set_option maxHeartbeats 4000000 in
theorem lw_case_16 {p : Program} {l : Launch} {e : Env} {s : State} {m : MethodId} {below : List Frame} {meth : Method} {c : Code} {b L : Nat} {xs : Nat → Int32} {D : va_G} {kd : Nat → ClassId} {adK adV adC adM : Nat → Nat} {i : Nat} (K : lwK p s m meth c b L xs D kd adK adV adC adM) (hL : L ≤ 2048) (hi : i + 3 < L) {cs ms : gS} (R : Rel cs ms) (next : ∀ cs' ms', Rel cs' ms' → lwY p l e s m below meth c b D kd adC adM 950 [(3, .int (nI i)), (2, .ref (adM 0)), (1, .ref (adC 0)), (0, .ref b)] [] cs' ms') : lwY p l e s m below meth c b D kd adC adM 690 [(3, .int (nI i)), (2, .ref (adM 0)), (1, .ref (adC 0)), (0, .ref b)] [] cs ms := by
  refine y_aload_n K (q := 691) 2 rfl dL_law_690 rfl ?_
  refine y_aload_n K (q := 692) 3 rfl dL_law_691 rfl ?_
  refine y_iload_n K (q := 693) 0 rfl dL_law_692 rfl ?_
  refine y_iconst K (q := 694) (v := 1) (by decide) dL_law_693 rfl ?_
  refine y_iadd K (q := 695) (v := nI (i + 1)) (nI_add i 1) dL_law_694 rfl ?_
  refine y_sld K (q := 696) (j := i + 1) (by omega) hL dL_law_695 rfl ?_
  obtain ⟨v, c1, m1, e1, e2, R1⟩ := op_fairest R (xs (i + 1))
  have hmC := m_X9_fairest (l, D, kd, adK, adV) K.2.2.2.2.2.2.2.2.2.2.2.1 (xs (i + 1)) cs
  rw [e1] at hmC
  refine y_callC K (q := 699) (levy := 6) (st := []) [.int (xs (i + 1))] rfl gll_84 gllv_84 hmC rfl rfl (Nat.le_of_ble_eq_true rfl) ⟨by omega, by omega⟩ dL_law_696 rfl ?_
  refine y_aload_n K (q := 700) 1 rfl dL_law_699 rfl ?_
  refine y_aload_n K (q := 701) 3 rfl dL_law_700 rfl ?_
  refine y_iload_n K (q := 702) 0 rfl dL_law_701 rfl ?_
  refine y_iconst K (q := 703) (v := 1) (by decide) dL_law_702 rfl ?_
  refine y_iadd K (q := 704) (v := nI (i + 1)) (nI_add i 1) dL_law_703 rfl ?_
  refine y_sld K (q := 705) (j := i + 1) (by omega) hL dL_law_704 rfl ?_
  have hmM := m_X10_fairest (l, D, kd, adK, adV) K.2.2.2.2.2.2.2.2.2.2.2.2.1 (xs (i + 1)) ms
  rw [e2] at hmM
  refine y_callM K (q := 708) (levy := 8) (st := [.int v]) [.int (xs (i + 1))] rfl gll_87 gllv_87 hmM rfl rfl (Nat.le_of_ble_eq_true rfl) ⟨by omega, by omega⟩ dL_law_705 rfl ?_
  refine y_icmp_eq K (tgt := 950) dL_law_708 rfl ?_
  exact next c1 m1 R1
theorem gll_88 : g_L RL 88 yX9_watch cX9_watch 2 (some .int) 1 := ⟨wm_833, wm_830, wm_2, by decide, by decide, by decide +kernel⟩
theorem gllv_88 : Cond.instanceMethod yX9_watch ∈ wsL_law ∧ Cond.selects yX9_watch.cls yX9_watch yX9_watch ∈ wsL_law := ⟨wm_831, wm_832⟩
theorem gll_91 : g_L RL 91 yX10_watch cX10_watch 9 (some .int) 1 := ⟨wm_846, wm_843, wm_5, by decide, by decide, by decide +kernel⟩
theorem gllv_91 : Cond.instanceMethod yX10_watch ∈ wsL_law ∧ Cond.selects yX10_watch.cls yX10_watch yX10_watch ∈ wsL_law := ⟨wm_844, wm_845⟩
set_option maxRecDepth 100000 in
set_option maxHeartbeats 4000000 in
theorem lw_case_17 {p : Program} {l : Launch} {e : Env} {s : State} {m : MethodId} {below : List Frame} {meth : Method} {c : Code} {b L : Nat} {xs : Nat → Int32} {D : va_G} {kd : Nat → ClassId} {adK adV adC adM : Nat → Nat} {i : Nat} (K : lwK p s m meth c b L xs D kd adK adV adC adM) (hL : L ≤ 2048) (hi : i + 3 < L) {cs ms : gS} (R : Rel cs ms) (next : ∀ cs' ms', Rel cs' ms' → lwY p l e s m below meth c b D kd adC adM 950 [(3, .int (nI i)), (2, .ref (adM 0)), (1, .ref (adC 0)), (0, .ref b)] [] cs' ms') : lwY p l e s m below meth c b D kd adC adM 713 [(3, .int (nI i)), (2, .ref (adM 0)), (1, .ref (adC 0)), (0, .ref b)] [] cs ms := by
  refine y_aload_n K (q := 714) 2 rfl dL_law_713 rfl ?_
  refine y_aload_n K (q := 715) 3 rfl dL_law_714 rfl ?_
  refine y_iload_n K (q := 716) 0 rfl dL_law_715 rfl ?_
  refine y_iconst K (q := 717) (v := 1) (by decide) dL_law_716 rfl ?_
  refine y_iadd K (q := 718) (v := nI (i + 1)) (nI_add i 1) dL_law_717 rfl ?_
  refine y_sld K (q := 719) (j := i + 1) (by omega) hL dL_law_718 rfl ?_
  obtain ⟨v, c1, m1, e1, e2, R1⟩ := op_watch R (xs (i + 1))
  have hmC := m_X9_watch (l, D, kd, adK, adV) K.2.2.2.2.2.2.2.2.2.2.2.1 (xs (i + 1)) cs
  rw [e1] at hmC
  refine y_callC K (q := 722) (levy := 4) (st := []) [.int (xs (i + 1))] rfl gll_88 gllv_88 hmC rfl rfl (Nat.le_of_ble_eq_true rfl) ⟨by omega, by omega⟩ dL_law_719 rfl ?_
  refine y_aload_n K (q := 723) 1 rfl dL_law_722 rfl ?_
  refine y_aload_n K (q := 724) 3 rfl dL_law_723 rfl ?_
  refine y_iload_n K (q := 725) 0 rfl dL_law_724 rfl ?_
  refine y_iconst K (q := 726) (v := 1) (by decide) dL_law_725 rfl ?_
  refine y_iadd K (q := 727) (v := nI (i + 1)) (nI_add i 1) dL_law_726 rfl ?_
  refine y_sld K (q := 728) (j := i + 1) (by omega) hL dL_law_727 rfl ?_
  have hmM := m_X10_watch (l, D, kd, adK, adV) K.2.2.2.2.2.2.2.2.2.2.2.2.1 (xs (i + 1)) ms
  rw [e2] at hmM
  refine y_callM K (q := 731) (levy := 6) (st := [.int v]) [.int (xs (i + 1))] rfl gll_91 gllv_91 hmM rfl rfl (Nat.le_of_ble_eq_true rfl) ⟨by omega, by omega⟩ dL_law_728 rfl ?_
  refine y_icmp_eq K (tgt := 950) dL_law_731 rfl ?_
  exact next c1 m1 R1
theorem gll_92 : g_L RL 92 yX9_see cX9_see 5 (some .int) 3 := ⟨wm_851, wm_848, wm_2, by decide, by decide, by decide +kernel⟩
theorem gllv_92 : Cond.instanceMethod yX9_see ∈ wsL_law ∧ Cond.selects yX9_see.cls yX9_see yX9_see ∈ wsL_law := ⟨wm_849, wm_850⟩
theorem gll_95 : g_L RL 95 yX10_see cX10_see 4 (some .int) 3 := ⟨wm_860, wm_857, wm_5, by decide, by decide, by decide +kernel⟩
theorem gllv_95 : Cond.instanceMethod yX10_see ∈ wsL_law ∧ Cond.selects yX10_see.cls yX10_see yX10_see ∈ wsL_law := ⟨wm_858, wm_859⟩
set_option maxRecDepth 100000 in
set_option maxHeartbeats 4000000 in
theorem lw_case_18 {p : Program} {l : Launch} {e : Env} {s : State} {m : MethodId} {below : List Frame} {meth : Method} {c : Code} {b L : Nat} {xs : Nat → Int32} {D : va_G} {kd : Nat → ClassId} {adK adV adC adM : Nat → Nat} {i : Nat} (K : lwK p s m meth c b L xs D kd adK adV adC adM) (hL : L ≤ 2048) (hi : i + 3 < L) {cs ms : gS} (R : Rel cs ms) (next : ∀ cs' ms', Rel cs' ms' → lwY p l e s m below meth c b D kd adC adM 950 [(3, .int (nI i)), (2, .ref (adM 0)), (1, .ref (adC 0)), (0, .ref b)] [] cs' ms') : lwY p l e s m below meth c b D kd adC adM 736 [(3, .int (nI i)), (2, .ref (adM 0)), (1, .ref (adC 0)), (0, .ref b)] [] cs ms := by
  refine y_aload_n K (q := 737) 2 rfl dL_law_736 rfl ?_
  refine y_aload_n K (q := 738) 3 rfl dL_law_737 rfl ?_
  refine y_iload_n K (q := 739) 0 rfl dL_law_738 rfl ?_
  refine y_iconst K (q := 740) (v := 1) (by decide) dL_law_739 rfl ?_
  refine y_iadd K (q := 741) (v := nI (i + 1)) (nI_add i 1) dL_law_740 rfl ?_
  refine y_sld K (q := 742) (j := i + 1) (by omega) hL dL_law_741 rfl ?_
  refine y_aload_n K (q := 743) 3 rfl dL_law_742 rfl ?_
  refine y_iload_n K (q := 744) 0 rfl dL_law_743 rfl ?_
  refine y_iconst K (q := 745) (v := 2) (by decide) dL_law_744 rfl ?_
  refine y_iadd K (q := 746) (v := nI (i + 2)) (nI_add i 2) dL_law_745 rfl ?_
  refine y_sld K (q := 747) (j := i + 2) (by omega) hL dL_law_746 rfl ?_
  refine y_aload_n K (q := 748) 3 rfl dL_law_747 rfl ?_
  refine y_iload_n K (q := 749) 0 rfl dL_law_748 rfl ?_
  refine y_iconst K (q := 750) (v := 3) (by decide) dL_law_749 rfl ?_
  refine y_iadd K (q := 751) (v := nI (i + 3)) (nI_add i 3) dL_law_750 rfl ?_
  refine y_sld K (q := 752) (j := i + 3) (by omega) hL dL_law_751 rfl ?_
  obtain ⟨v, c1, m1, e1, e2, R1⟩ := op_see R (xs (i + 1)) (xs (i + 2)) (xs (i + 3))
  have hmC := m_X9_see (l, D, kd, adK, adV) K.2.2.2.2.2.2.2.2.2.2.2.1 (xs (i + 1)) (xs (i + 2)) (xs (i + 3)) cs
  rw [e1] at hmC
  refine y_callC K (q := 755) (levy := 1) (st := []) [.int (xs (i + 1)), .int (xs (i + 2)), .int (xs (i + 3))] rfl gll_92 gllv_92 hmC rfl rfl (Nat.le_of_ble_eq_true rfl) ⟨by omega, by omega⟩ dL_law_752 rfl ?_
  refine y_aload_n K (q := 756) 1 rfl dL_law_755 rfl ?_
  refine y_aload_n K (q := 757) 3 rfl dL_law_756 rfl ?_
  refine y_iload_n K (q := 758) 0 rfl dL_law_757 rfl ?_
  refine y_iconst K (q := 759) (v := 1) (by decide) dL_law_758 rfl ?_
  refine y_iadd K (q := 760) (v := nI (i + 1)) (nI_add i 1) dL_law_759 rfl ?_
  refine y_sld K (q := 761) (j := i + 1) (by omega) hL dL_law_760 rfl ?_
  refine y_aload_n K (q := 762) 3 rfl dL_law_761 rfl ?_
  refine y_iload_n K (q := 763) 0 rfl dL_law_762 rfl ?_
  refine y_iconst K (q := 764) (v := 2) (by decide) dL_law_763 rfl ?_
  refine y_iadd K (q := 765) (v := nI (i + 2)) (nI_add i 2) dL_law_764 rfl ?_
  refine y_sld K (q := 766) (j := i + 2) (by omega) hL dL_law_765 rfl ?_
  refine y_aload_n K (q := 767) 3 rfl dL_law_766 rfl ?_
  refine y_iload_n K (q := 768) 0 rfl dL_law_767 rfl ?_
  refine y_iconst K (q := 769) (v := 3) (by decide) dL_law_768 rfl ?_
  refine y_iadd K (q := 770) (v := nI (i + 3)) (nI_add i 3) dL_law_769 rfl ?_
  refine y_sld K (q := 771) (j := i + 3) (by omega) hL dL_law_770 rfl ?_
  have hmM := m_X10_see (l, D, kd, adK, adV) K.2.2.2.2.2.2.2.2.2.2.2.2.1 (xs (i + 1)) (xs (i + 2)) (xs (i + 3)) ms
  rw [e2] at hmM
  refine y_callM K (q := 774) (levy := 2) (st := [.int v]) [.int (xs (i + 1)), .int (xs (i + 2)), .int (xs (i + 3))] rfl gll_95 gllv_95 hmM rfl rfl (Nat.le_of_ble_eq_true rfl) ⟨by omega, by omega⟩ dL_law_771 rfl ?_
  refine y_icmp_eq K (tgt := 950) dL_law_774 rfl ?_
  exact next c1 m1 R1
theorem gll_96 : g_L RL 96 yX9_lay cX9_lay 3 (some .int) 2 := ⟨wm_864, wm_861, wm_2, by decide, by decide, by decide +kernel⟩
theorem gllv_96 : Cond.instanceMethod yX9_lay ∈ wsL_law ∧ Cond.selects yX9_lay.cls yX9_lay yX9_lay ∈ wsL_law := ⟨wm_862, wm_863⟩
theorem gll_99 : g_L RL 99 yX10_lay cX10_lay 6 (some .int) 2 := ⟨wm_902, wm_899, wm_5, by decide, by decide, by decide +kernel⟩
theorem gllv_99 : Cond.instanceMethod yX10_lay ∈ wsL_law ∧ Cond.selects yX10_lay.cls yX10_lay yX10_lay ∈ wsL_law := ⟨wm_900, wm_901⟩
set_option maxRecDepth 100000 in
set_option maxHeartbeats 4000000 in
theorem lw_case_19 {p : Program} {l : Launch} {e : Env} {s : State} {m : MethodId} {below : List Frame} {meth : Method} {c : Code} {b L : Nat} {xs : Nat → Int32} {D : va_G} {kd : Nat → ClassId} {adK adV adC adM : Nat → Nat} {i : Nat} (K : lwK p s m meth c b L xs D kd adK adV adC adM) (hL : L ≤ 2048) (hi : i + 3 < L) {cs ms : gS} (R : Rel cs ms) (next : ∀ cs' ms', Rel cs' ms' → lwY p l e s m below meth c b D kd adC adM 950 [(3, .int (nI i)), (2, .ref (adM 0)), (1, .ref (adC 0)), (0, .ref b)] [] cs' ms') : lwY p l e s m below meth c b D kd adC adM 779 [(3, .int (nI i)), (2, .ref (adM 0)), (1, .ref (adC 0)), (0, .ref b)] [] cs ms := by
  refine y_aload_n K (q := 780) 2 rfl dL_law_779 rfl ?_
  refine y_aload_n K (q := 781) 3 rfl dL_law_780 rfl ?_
  refine y_iload_n K (q := 782) 0 rfl dL_law_781 rfl ?_
  refine y_iconst K (q := 783) (v := 1) (by decide) dL_law_782 rfl ?_
  refine y_iadd K (q := 784) (v := nI (i + 1)) (nI_add i 1) dL_law_783 rfl ?_
  refine y_sld K (q := 785) (j := i + 1) (by omega) hL dL_law_784 rfl ?_
  refine y_aload_n K (q := 786) 3 rfl dL_law_785 rfl ?_
  refine y_iload_n K (q := 787) 0 rfl dL_law_786 rfl ?_
  refine y_iconst K (q := 788) (v := 2) (by decide) dL_law_787 rfl ?_
  refine y_iadd K (q := 789) (v := nI (i + 2)) (nI_add i 2) dL_law_788 rfl ?_
  refine y_sld K (q := 790) (j := i + 2) (by omega) hL dL_law_789 rfl ?_
  obtain ⟨v, c1, m1, e1, e2, R1⟩ := op_lay R (xs (i + 1)) (xs (i + 2))
  have hmC := m_X9_lay (l, D, kd, adK, adV) K.2.2.2.2.2.2.2.2.2.2.2.1 (xs (i + 1)) (xs (i + 2)) cs
  rw [e1] at hmC
  refine y_callC K (q := 793) (levy := 5) (st := []) [.int (xs (i + 1)), .int (xs (i + 2))] rfl gll_96 gllv_96 hmC rfl rfl (Nat.le_of_ble_eq_true rfl) ⟨by omega, by omega⟩ dL_law_790 rfl ?_
  refine y_aload_n K (q := 794) 1 rfl dL_law_793 rfl ?_
  refine y_aload_n K (q := 795) 3 rfl dL_law_794 rfl ?_
  refine y_iload_n K (q := 796) 0 rfl dL_law_795 rfl ?_
  refine y_iconst K (q := 797) (v := 1) (by decide) dL_law_796 rfl ?_
  refine y_iadd K (q := 798) (v := nI (i + 1)) (nI_add i 1) dL_law_797 rfl ?_
  refine y_sld K (q := 799) (j := i + 1) (by omega) hL dL_law_798 rfl ?_
  refine y_aload_n K (q := 800) 3 rfl dL_law_799 rfl ?_
  refine y_iload_n K (q := 801) 0 rfl dL_law_800 rfl ?_
  refine y_iconst K (q := 802) (v := 2) (by decide) dL_law_801 rfl ?_
  refine y_iadd K (q := 803) (v := nI (i + 2)) (nI_add i 2) dL_law_802 rfl ?_
  refine y_sld K (q := 804) (j := i + 2) (by omega) hL dL_law_803 rfl ?_
  have hmM := m_X10_lay (l, D, kd, adK, adV) K.2.2.2.2.2.2.2.2.2.2.2.2.1 (xs (i + 1)) (xs (i + 2)) ms
  rw [e2] at hmM
  refine y_callM K (q := 807) (levy := 4) (st := [.int v]) [.int (xs (i + 1)), .int (xs (i + 2))] rfl gll_99 gllv_99 hmM rfl rfl (Nat.le_of_ble_eq_true rfl) ⟨by omega, by omega⟩ dL_law_804 rfl ?_
  refine y_icmp_eq K (tgt := 950) dL_law_807 rfl ?_
  exact next c1 m1 R1
theorem gll_100 : g_L RL 100 yX9_write cX9_write 5 (some .int) 3 := ⟨wm_915, wm_912, wm_2, by decide, by decide, by decide +kernel⟩
theorem gllv_100 : Cond.instanceMethod yX9_write ∈ wsL_law ∧ Cond.selects yX9_write.cls yX9_write yX9_write ∈ wsL_law := ⟨wm_913, wm_914⟩
theorem gll_103 : g_L RL 103 yX10_write cX10_write 4 (some .int) 3 := ⟨wm_924, wm_921, wm_5, by decide, by decide, by decide +kernel⟩
theorem gllv_103 : Cond.instanceMethod yX10_write ∈ wsL_law ∧ Cond.selects yX10_write.cls yX10_write yX10_write ∈ wsL_law := ⟨wm_922, wm_923⟩
set_option maxRecDepth 100000 in
set_option maxHeartbeats 4000000 in
theorem lw_case_20 {p : Program} {l : Launch} {e : Env} {s : State} {m : MethodId} {below : List Frame} {meth : Method} {c : Code} {b L : Nat} {xs : Nat → Int32} {D : va_G} {kd : Nat → ClassId} {adK adV adC adM : Nat → Nat} {i : Nat} (K : lwK p s m meth c b L xs D kd adK adV adC adM) (hL : L ≤ 2048) (hi : i + 3 < L) {cs ms : gS} (R : Rel cs ms) (next : ∀ cs' ms', Rel cs' ms' → lwY p l e s m below meth c b D kd adC adM 950 [(3, .int (nI i)), (2, .ref (adM 0)), (1, .ref (adC 0)), (0, .ref b)] [] cs' ms') : lwY p l e s m below meth c b D kd adC adM 812 [(3, .int (nI i)), (2, .ref (adM 0)), (1, .ref (adC 0)), (0, .ref b)] [] cs ms := by
  refine y_aload_n K (q := 813) 2 rfl dL_law_812 rfl ?_
  refine y_aload_n K (q := 814) 3 rfl dL_law_813 rfl ?_
  refine y_iload_n K (q := 815) 0 rfl dL_law_814 rfl ?_
  refine y_iconst K (q := 816) (v := 1) (by decide) dL_law_815 rfl ?_
  refine y_iadd K (q := 817) (v := nI (i + 1)) (nI_add i 1) dL_law_816 rfl ?_
  refine y_sld K (q := 818) (j := i + 1) (by omega) hL dL_law_817 rfl ?_
  refine y_aload_n K (q := 819) 3 rfl dL_law_818 rfl ?_
  refine y_iload_n K (q := 820) 0 rfl dL_law_819 rfl ?_
  refine y_iconst K (q := 821) (v := 2) (by decide) dL_law_820 rfl ?_
  refine y_iadd K (q := 822) (v := nI (i + 2)) (nI_add i 2) dL_law_821 rfl ?_
  refine y_sld K (q := 823) (j := i + 2) (by omega) hL dL_law_822 rfl ?_
  refine y_aload_n K (q := 824) 3 rfl dL_law_823 rfl ?_
  refine y_iload_n K (q := 825) 0 rfl dL_law_824 rfl ?_
  refine y_iconst K (q := 826) (v := 3) (by decide) dL_law_825 rfl ?_
  refine y_iadd K (q := 827) (v := nI (i + 3)) (nI_add i 3) dL_law_826 rfl ?_
  refine y_sld K (q := 828) (j := i + 3) (by omega) hL dL_law_827 rfl ?_
  obtain ⟨v, c1, m1, e1, e2, R1⟩ := op_write R (xs (i + 1)) (xs (i + 2)) (xs (i + 3))
  have hmC := m_X9_write (l, D, kd, adK, adV) K.2.2.2.2.2.2.2.2.2.2.2.1 (xs (i + 1)) (xs (i + 2)) (xs (i + 3)) cs
  rw [e1] at hmC
  refine y_callC K (q := 831) (levy := 1) (st := []) [.int (xs (i + 1)), .int (xs (i + 2)), .int (xs (i + 3))] rfl gll_100 gllv_100 hmC rfl rfl (Nat.le_of_ble_eq_true rfl) ⟨by omega, by omega⟩ dL_law_828 rfl ?_
  refine y_aload_n K (q := 832) 1 rfl dL_law_831 rfl ?_
  refine y_aload_n K (q := 833) 3 rfl dL_law_832 rfl ?_
  refine y_iload_n K (q := 834) 0 rfl dL_law_833 rfl ?_
  refine y_iconst K (q := 835) (v := 1) (by decide) dL_law_834 rfl ?_
  refine y_iadd K (q := 836) (v := nI (i + 1)) (nI_add i 1) dL_law_835 rfl ?_
  refine y_sld K (q := 837) (j := i + 1) (by omega) hL dL_law_836 rfl ?_
  refine y_aload_n K (q := 838) 3 rfl dL_law_837 rfl ?_
  refine y_iload_n K (q := 839) 0 rfl dL_law_838 rfl ?_
  refine y_iconst K (q := 840) (v := 2) (by decide) dL_law_839 rfl ?_
  refine y_iadd K (q := 841) (v := nI (i + 2)) (nI_add i 2) dL_law_840 rfl ?_
  refine y_sld K (q := 842) (j := i + 2) (by omega) hL dL_law_841 rfl ?_
  refine y_aload_n K (q := 843) 3 rfl dL_law_842 rfl ?_
  refine y_iload_n K (q := 844) 0 rfl dL_law_843 rfl ?_
  refine y_iconst K (q := 845) (v := 3) (by decide) dL_law_844 rfl ?_
  refine y_iadd K (q := 846) (v := nI (i + 3)) (nI_add i 3) dL_law_845 rfl ?_
  refine y_sld K (q := 847) (j := i + 3) (by omega) hL dL_law_846 rfl ?_
  have hmM := m_X10_write (l, D, kd, adK, adV) K.2.2.2.2.2.2.2.2.2.2.2.2.1 (xs (i + 1)) (xs (i + 2)) (xs (i + 3)) ms
  rw [e2] at hmM
  refine y_callM K (q := 850) (levy := 2) (st := [.int v]) [.int (xs (i + 1)), .int (xs (i + 2)), .int (xs (i + 3))] rfl gll_103 gllv_103 hmM rfl rfl (Nat.le_of_ble_eq_true rfl) ⟨by omega, by omega⟩ dL_law_847 rfl ?_
  refine y_icmp_eq K (tgt := 950) dL_law_850 rfl ?_
  exact next c1 m1 R1
theorem gll_104 : g_L RL 104 yX9_tear cX9_tear 2 (some .int) 0 := ⟨wm_928, wm_925, wm_2, by decide, by decide, by decide +kernel⟩
theorem gllv_104 : Cond.instanceMethod yX9_tear ∈ wsL_law ∧ Cond.selects yX9_tear.cls yX9_tear yX9_tear ∈ wsL_law := ⟨wm_926, wm_927⟩
theorem gll_107 : g_L RL 107 yX10_tear cX10_tear 2 (some .int) 0 := ⟨wm_932, wm_929, wm_5, by decide, by decide, by decide +kernel⟩
theorem gllv_107 : Cond.instanceMethod yX10_tear ∈ wsL_law ∧ Cond.selects yX10_tear.cls yX10_tear yX10_tear ∈ wsL_law := ⟨wm_930, wm_931⟩
set_option maxRecDepth 100000 in
set_option maxHeartbeats 4000000 in
theorem lw_case_21 {p : Program} {l : Launch} {e : Env} {s : State} {m : MethodId} {below : List Frame} {meth : Method} {c : Code} {b L : Nat} {xs : Nat → Int32} {D : va_G} {kd : Nat → ClassId} {adK adV adC adM : Nat → Nat} {i : Nat} (K : lwK p s m meth c b L xs D kd adK adV adC adM) (hL : L ≤ 2048) (hi : i + 3 < L) {cs ms : gS} (R : Rel cs ms) (next : ∀ cs' ms', Rel cs' ms' → lwY p l e s m below meth c b D kd adC adM 950 [(3, .int (nI i)), (2, .ref (adM 0)), (1, .ref (adC 0)), (0, .ref b)] [] cs' ms') : lwY p l e s m below meth c b D kd adC adM 855 [(3, .int (nI i)), (2, .ref (adM 0)), (1, .ref (adC 0)), (0, .ref b)] [] cs ms := by
  refine y_aload_n K (q := 856) 2 rfl dL_law_855 rfl ?_
  obtain ⟨v, c1, m1, e1, e2, R1⟩ := op_tear R 
  have hmC := m_X9_tear (l, D, kd, adK, adV) K.2.2.2.2.2.2.2.2.2.2.2.1  cs
  rw [e1] at hmC
  refine y_callC K (q := 859) (levy := 0) (st := []) [] rfl gll_104 gllv_104 hmC rfl rfl (Nat.le_of_ble_eq_true rfl) ⟨by omega, by omega⟩ dL_law_856 rfl ?_
  refine y_aload_n K (q := 860) 1 rfl dL_law_859 rfl ?_
  have hmM := m_X10_tear (l, D, kd, adK, adV) K.2.2.2.2.2.2.2.2.2.2.2.2.1  ms
  rw [e2] at hmM
  refine y_callM K (q := 863) (levy := 0) (st := [.int v]) [] rfl gll_107 gllv_107 hmM rfl rfl (Nat.le_of_ble_eq_true rfl) ⟨by omega, by omega⟩ dL_law_860 rfl ?_
  refine y_icmp_eq K (tgt := 950) dL_law_863 rfl ?_
  exact next c1 m1 R1
theorem gll_108 : g_L RL 108 yX9_judge cX9_judge 1 (some .int) 0 := ⟨wm_936, wm_933, wm_2, by decide, by decide, by decide +kernel⟩
theorem gllv_108 : Cond.instanceMethod yX9_judge ∈ wsL_law ∧ Cond.selects yX9_judge.cls yX9_judge yX9_judge ∈ wsL_law := ⟨wm_934, wm_935⟩
theorem gll_111 : g_L RL 111 yX10_judge cX10_judge 2 (some .int) 0 := ⟨wm_945, wm_942, wm_5, by decide, by decide, by decide +kernel⟩
theorem gllv_111 : Cond.instanceMethod yX10_judge ∈ wsL_law ∧ Cond.selects yX10_judge.cls yX10_judge yX10_judge ∈ wsL_law := ⟨wm_943, wm_944⟩
set_option maxRecDepth 100000 in
set_option maxHeartbeats 4000000 in
theorem lw_case_22 {p : Program} {l : Launch} {e : Env} {s : State} {m : MethodId} {below : List Frame} {meth : Method} {c : Code} {b L : Nat} {xs : Nat → Int32} {D : va_G} {kd : Nat → ClassId} {adK adV adC adM : Nat → Nat} {i : Nat} (K : lwK p s m meth c b L xs D kd adK adV adC adM) (hL : L ≤ 2048) (hi : i + 3 < L) {cs ms : gS} (R : Rel cs ms) (next : ∀ cs' ms', Rel cs' ms' → lwY p l e s m below meth c b D kd adC adM 950 [(3, .int (nI i)), (2, .ref (adM 0)), (1, .ref (adC 0)), (0, .ref b)] [] cs' ms') : lwY p l e s m below meth c b D kd adC adM 868 [(3, .int (nI i)), (2, .ref (adM 0)), (1, .ref (adC 0)), (0, .ref b)] [] cs ms := by
  refine y_aload_n K (q := 869) 2 rfl dL_law_868 rfl ?_
  obtain ⟨v, c1, m1, e1, e2, R1⟩ := op_judge R 
  have hmC := m_X9_judge (l, D, kd, adK, adV) K.2.2.2.2.2.2.2.2.2.2.2.1  cs
  rw [e1] at hmC
  refine y_callC K (q := 872) (levy := 4) (st := []) [] rfl gll_108 gllv_108 hmC rfl rfl (Nat.le_of_ble_eq_true rfl) ⟨by omega, by omega⟩ dL_law_869 rfl ?_
  refine y_aload_n K (q := 873) 1 rfl dL_law_872 rfl ?_
  have hmM := m_X10_judge (l, D, kd, adK, adV) K.2.2.2.2.2.2.2.2.2.2.2.2.1  ms
  rw [e2] at hmM
  refine y_callM K (q := 876) (levy := 2) (st := [.int v]) [] rfl gll_111 gllv_111 hmM rfl rfl (Nat.le_of_ble_eq_true rfl) ⟨by omega, by omega⟩ dL_law_873 rfl ?_
  refine y_icmp_eq K (tgt := 950) dL_law_876 rfl ?_
  exact next c1 m1 R1
theorem gll_112 : g_L RL 112 yX9_seed cX9_seed 3 (some .int) 1 := ⟨wm_949, wm_946, wm_2, by decide, by decide, by decide +kernel⟩
theorem gllv_112 : Cond.instanceMethod yX9_seed ∈ wsL_law ∧ Cond.selects yX9_seed.cls yX9_seed yX9_seed ∈ wsL_law := ⟨wm_947, wm_948⟩
theorem gll_115 : g_L RL 115 yX10_seed cX10_seed 3 (some .int) 1 := ⟨wm_953, wm_950, wm_5, by decide, by decide, by decide +kernel⟩
theorem gllv_115 : Cond.instanceMethod yX10_seed ∈ wsL_law ∧ Cond.selects yX10_seed.cls yX10_seed yX10_seed ∈ wsL_law := ⟨wm_951, wm_952⟩
set_option maxRecDepth 100000 in
set_option maxHeartbeats 4000000 in
theorem lw_case_23 {p : Program} {l : Launch} {e : Env} {s : State} {m : MethodId} {below : List Frame} {meth : Method} {c : Code} {b L : Nat} {xs : Nat → Int32} {D : va_G} {kd : Nat → ClassId} {adK adV adC adM : Nat → Nat} {i : Nat} (K : lwK p s m meth c b L xs D kd adK adV adC adM) (hL : L ≤ 2048) (hi : i + 3 < L) {cs ms : gS} (R : Rel cs ms) (next : ∀ cs' ms', Rel cs' ms' → lwY p l e s m below meth c b D kd adC adM 950 [(3, .int (nI i)), (2, .ref (adM 0)), (1, .ref (adC 0)), (0, .ref b)] [] cs' ms') : lwY p l e s m below meth c b D kd adC adM 881 [(3, .int (nI i)), (2, .ref (adM 0)), (1, .ref (adC 0)), (0, .ref b)] [] cs ms := by
  refine y_aload_n K (q := 882) 2 rfl dL_law_881 rfl ?_
  refine y_aload_n K (q := 883) 3 rfl dL_law_882 rfl ?_
  refine y_iload_n K (q := 884) 0 rfl dL_law_883 rfl ?_
  refine y_iconst K (q := 885) (v := 1) (by decide) dL_law_884 rfl ?_
  refine y_iadd K (q := 886) (v := nI (i + 1)) (nI_add i 1) dL_law_885 rfl ?_
  refine y_sld K (q := 887) (j := i + 1) (by omega) hL dL_law_886 rfl ?_
  obtain ⟨v, c1, m1, e1, e2, R1⟩ := op_seed R (xs (i + 1))
  have hmC := m_X9_seed (l, D, kd, adK, adV) K.2.2.2.2.2.2.2.2.2.2.2.1 (xs (i + 1)) cs
  rw [e1] at hmC
  refine y_callC K (q := 890) (levy := 0) (st := []) [.int (xs (i + 1))] rfl gll_112 gllv_112 hmC rfl rfl (Nat.le_of_ble_eq_true rfl) ⟨by omega, by omega⟩ dL_law_887 rfl ?_
  refine y_aload_n K (q := 891) 1 rfl dL_law_890 rfl ?_
  refine y_aload_n K (q := 892) 3 rfl dL_law_891 rfl ?_
  refine y_iload_n K (q := 893) 0 rfl dL_law_892 rfl ?_
  refine y_iconst K (q := 894) (v := 1) (by decide) dL_law_893 rfl ?_
  refine y_iadd K (q := 895) (v := nI (i + 1)) (nI_add i 1) dL_law_894 rfl ?_
  refine y_sld K (q := 896) (j := i + 1) (by omega) hL dL_law_895 rfl ?_
  have hmM := m_X10_seed (l, D, kd, adK, adV) K.2.2.2.2.2.2.2.2.2.2.2.2.1 (xs (i + 1)) ms
  rw [e2] at hmM
  refine y_callM K (q := 899) (levy := 0) (st := [.int v]) [.int (xs (i + 1))] rfl gll_115 gllv_115 hmM rfl rfl (Nat.le_of_ble_eq_true rfl) ⟨by omega, by omega⟩ dL_law_896 rfl ?_
  refine y_icmp_eq K (tgt := 950) dL_law_899 rfl ?_
  exact next c1 m1 R1
theorem gll_116 : g_L RL 116 yX9_keep cX9_keep 3 (some .int) 1 := ⟨wm_957, wm_954, wm_2, by decide, by decide, by decide +kernel⟩
theorem gllv_116 : Cond.instanceMethod yX9_keep ∈ wsL_law ∧ Cond.selects yX9_keep.cls yX9_keep yX9_keep ∈ wsL_law := ⟨wm_955, wm_956⟩
theorem gll_119 : g_L RL 119 yX10_keep cX10_keep 3 (some .int) 1 := ⟨wm_968, wm_965, wm_5, by decide, by decide, by decide +kernel⟩
theorem gllv_119 : Cond.instanceMethod yX10_keep ∈ wsL_law ∧ Cond.selects yX10_keep.cls yX10_keep yX10_keep ∈ wsL_law := ⟨wm_966, wm_967⟩
set_option maxRecDepth 100000 in
set_option maxHeartbeats 4000000 in
theorem lw_case_24 {p : Program} {l : Launch} {e : Env} {s : State} {m : MethodId} {below : List Frame} {meth : Method} {c : Code} {b L : Nat} {xs : Nat → Int32} {D : va_G} {kd : Nat → ClassId} {adK adV adC adM : Nat → Nat} {i : Nat} (K : lwK p s m meth c b L xs D kd adK adV adC adM) (hL : L ≤ 2048) (hi : i + 3 < L) {cs ms : gS} (R : Rel cs ms) (next : ∀ cs' ms', Rel cs' ms' → lwY p l e s m below meth c b D kd adC adM 950 [(3, .int (nI i)), (2, .ref (adM 0)), (1, .ref (adC 0)), (0, .ref b)] [] cs' ms') : lwY p l e s m below meth c b D kd adC adM 904 [(3, .int (nI i)), (2, .ref (adM 0)), (1, .ref (adC 0)), (0, .ref b)] [] cs ms := by
  refine y_aload_n K (q := 905) 2 rfl dL_law_904 rfl ?_
  refine y_aload_n K (q := 906) 3 rfl dL_law_905 rfl ?_
  refine y_iload_n K (q := 907) 0 rfl dL_law_906 rfl ?_
  refine y_iconst K (q := 908) (v := 1) (by decide) dL_law_907 rfl ?_
  refine y_iadd K (q := 909) (v := nI (i + 1)) (nI_add i 1) dL_law_908 rfl ?_
  refine y_sld K (q := 910) (j := i + 1) (by omega) hL dL_law_909 rfl ?_
  obtain ⟨v, c1, m1, e1, e2, R1⟩ := op_keep R (xs (i + 1))
  have hmC := m_X9_keep (l, D, kd, adK, adV) K.2.2.2.2.2.2.2.2.2.2.2.1 (xs (i + 1)) cs
  rw [e1] at hmC
  refine y_callC K (q := 913) (levy := 1) (st := []) [.int (xs (i + 1))] rfl gll_116 gllv_116 hmC rfl rfl (Nat.le_of_ble_eq_true rfl) ⟨by omega, by omega⟩ dL_law_910 rfl ?_
  refine y_aload_n K (q := 914) 1 rfl dL_law_913 rfl ?_
  refine y_aload_n K (q := 915) 3 rfl dL_law_914 rfl ?_
  refine y_iload_n K (q := 916) 0 rfl dL_law_915 rfl ?_
  refine y_iconst K (q := 917) (v := 1) (by decide) dL_law_916 rfl ?_
  refine y_iadd K (q := 918) (v := nI (i + 1)) (nI_add i 1) dL_law_917 rfl ?_
  refine y_sld K (q := 919) (j := i + 1) (by omega) hL dL_law_918 rfl ?_
  have hmM := m_X10_keep (l, D, kd, adK, adV) K.2.2.2.2.2.2.2.2.2.2.2.2.1 (xs (i + 1)) ms
  rw [e2] at hmM
  refine y_callM K (q := 922) (levy := 1) (st := [.int v]) [.int (xs (i + 1))] rfl gll_119 gllv_119 hmM rfl rfl (Nat.le_of_ble_eq_true rfl) ⟨by omega, by omega⟩ dL_law_919 rfl ?_
  refine y_icmp_eq K (tgt := 950) dL_law_922 rfl ?_
  exact next c1 m1 R1
theorem gll_120 : g_L RL 120 yX9_goBack cX9_goBack 3 (some .int) 1 := ⟨wm_972, wm_969, wm_2, by decide, by decide, by decide +kernel⟩
theorem gllv_120 : Cond.instanceMethod yX9_goBack ∈ wsL_law ∧ Cond.selects yX9_goBack.cls yX9_goBack yX9_goBack ∈ wsL_law := ⟨wm_970, wm_971⟩
theorem gll_123 : g_L RL 123 yX10_goBack cX10_goBack 3 (some .int) 1 := ⟨wm_976, wm_973, wm_5, by decide, by decide, by decide +kernel⟩
theorem gllv_123 : Cond.instanceMethod yX10_goBack ∈ wsL_law ∧ Cond.selects yX10_goBack.cls yX10_goBack yX10_goBack ∈ wsL_law := ⟨wm_974, wm_975⟩
set_option maxRecDepth 100000 in
set_option maxHeartbeats 4000000 in
theorem lw_case_25 {p : Program} {l : Launch} {e : Env} {s : State} {m : MethodId} {below : List Frame} {meth : Method} {c : Code} {b L : Nat} {xs : Nat → Int32} {D : va_G} {kd : Nat → ClassId} {adK adV adC adM : Nat → Nat} {i : Nat} (K : lwK p s m meth c b L xs D kd adK adV adC adM) (hL : L ≤ 2048) (hi : i + 3 < L) {cs ms : gS} (R : Rel cs ms) (next : ∀ cs' ms', Rel cs' ms' → lwY p l e s m below meth c b D kd adC adM 950 [(3, .int (nI i)), (2, .ref (adM 0)), (1, .ref (adC 0)), (0, .ref b)] [] cs' ms') : lwY p l e s m below meth c b D kd adC adM 927 [(3, .int (nI i)), (2, .ref (adM 0)), (1, .ref (adC 0)), (0, .ref b)] [] cs ms := by
  refine y_aload_n K (q := 928) 2 rfl dL_law_927 rfl ?_
  refine y_aload_n K (q := 929) 3 rfl dL_law_928 rfl ?_
  refine y_iload_n K (q := 930) 0 rfl dL_law_929 rfl ?_
  refine y_iconst K (q := 931) (v := 1) (by decide) dL_law_930 rfl ?_
  refine y_iadd K (q := 932) (v := nI (i + 1)) (nI_add i 1) dL_law_931 rfl ?_
  refine y_sld K (q := 933) (j := i + 1) (by omega) hL dL_law_932 rfl ?_
  obtain ⟨v, c1, m1, e1, e2, R1⟩ := op_goBack R (xs (i + 1))
  have hmC := m_X9_goBack (l, D, kd, adK, adV) K.2.2.2.2.2.2.2.2.2.2.2.1 (xs (i + 1)) cs
  rw [e1] at hmC
  refine y_callC K (q := 936) (levy := 1) (st := []) [.int (xs (i + 1))] rfl gll_120 gllv_120 hmC rfl rfl (Nat.le_of_ble_eq_true rfl) ⟨by omega, by omega⟩ dL_law_933 rfl ?_
  refine y_aload_n K (q := 937) 1 rfl dL_law_936 rfl ?_
  refine y_aload_n K (q := 938) 3 rfl dL_law_937 rfl ?_
  refine y_iload_n K (q := 939) 0 rfl dL_law_938 rfl ?_
  refine y_iconst K (q := 940) (v := 1) (by decide) dL_law_939 rfl ?_
  refine y_iadd K (q := 941) (v := nI (i + 1)) (nI_add i 1) dL_law_940 rfl ?_
  refine y_sld K (q := 942) (j := i + 1) (by omega) hL dL_law_941 rfl ?_
  have hmM := m_X10_goBack (l, D, kd, adK, adV) K.2.2.2.2.2.2.2.2.2.2.2.2.1 (xs (i + 1)) ms
  rw [e2] at hmM
  refine y_callM K (q := 945) (levy := 1) (st := [.int v]) [.int (xs (i + 1))] rfl gll_123 gllv_123 hmM rfl rfl (Nat.le_of_ble_eq_true rfl) ⟨by omega, by omega⟩ dL_law_942 rfl ?_
  refine y_icmp_eq K (tgt := 950) dL_law_945 rfl ?_
  exact next c1 m1 R1
