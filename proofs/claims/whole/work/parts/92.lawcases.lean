/-! THE LAW: its cases -/
theorem lc_0 {X : gX} {G : gG} {A : Nat → Prop} {ad0 : Nat → Nat} {b Ln : Nat} {xs : Nat → Int32} {mc ms : Nat} {Q : State → Prop} (h : b_lc X G A ad0 b Ln xs mc ms) {i : Nat} {σ : gS} (hi : i + 6 ≤ Ln) (hv : IVx σ) (hx : ∀ s, IVx s → bV X G.2.1 A 4 Q (g_wl G b_KK s) (b_L b i G) [] mc ms 1173) : bV X G.2.1 A 4 Q (g_wl G b_KK σ) (b_L b i G) [] mc ms 176 := by
  obtain ⟨C, E, had, S, hL, h1, h2⟩ := h
  obtain ⟨H, nT, t, TT, bb, n, hv⟩ := hv
  obtain ⟨hX, Q1, hle, MX, nx⟩ := jp_set hv (xs (i + 1)) (xs (i + 2)) (xs (i + 3))
  refine B_aload C 2 dL_law_176 rfl rfl ?_
  refine B_sc C S (j := 1) (by omega) hL rfl rfl rfl dL_law_177 dL_law_178 dL_law_179 dL_law_180 dL_law_181 ?_
  refine B_sc C S (j := 2) (by omega) hL rfl rfl rfl dL_law_182 dL_law_183 dL_law_184 dL_law_185 dL_law_186 ?_
  refine B_sc C S (j := 3) (by omega) hL rfl rfl rfl dL_law_187 dL_law_188 dL_law_189 dL_law_190 dL_law_191 ?_
  refine B_gV (ws := []) (G := G) (K := b_KK) (σ := σ) C E had KK_nd (k := 0) (As := [.int (xs (i + 1)), .int (xs (i + 2)), .int (xs (i + 3))]) (rest := []) cv_X9_13 MX ⟨_, _, _, _, rfl, rfl⟩ (by decide) kX_in (by show hX + 1 ≤ 2048; omega) (by show 8 + (4 + 11) + 64 * hX ≤ 84000; omega) rfl rfl (Nat.le_of_ble_eq_true rfl) ⟨h1, h2⟩ dL_law_192 (fun rv s1 hq => ?_)
  obtain ⟨hM, Q2, r, hle2, rfl, MM, nx2⟩ := nx rv s1 hq
  refine B_weq (ws' := g_wl G b_KK s1) rfl ?_
  refine B_steq (st' := [.int r]) rfl ?_
  refine B_aload C 1 dL_law_195 rfl rfl ?_
  refine B_sc C S (j := 1) (by omega) hL rfl rfl rfl dL_law_196 dL_law_197 dL_law_198 dL_law_199 dL_law_200 ?_
  refine B_sc C S (j := 2) (by omega) hL rfl rfl rfl dL_law_201 dL_law_202 dL_law_203 dL_law_204 dL_law_205 ?_
  refine B_sc C S (j := 3) (by omega) hL rfl rfl rfl dL_law_206 dL_law_207 dL_law_208 dL_law_209 dL_law_210 ?_
  refine B_gV (ws := []) (G := G) (K := b_KK) (σ := s1) C E had KK_nd (k := 63) (As := [.int (xs (i + 1)), .int (xs (i + 2)), .int (xs (i + 3))]) (rest := [.int r]) cv_X9_17 MM ⟨_, _, _, _, rfl, rfl⟩ (by decide) kM_inK (by show hM + 1 ≤ 2048; omega) (by show 8 + (5 + 11) + 64 * hM ≤ 84000; omega) rfl rfl (Nat.le_of_ble_eq_true rfl) ⟨h1, h2⟩ dL_law_211 (fun rv2 s2 hq2 => ?_)
  obtain ⟨rfl, hiv⟩ := nx2 rv2 s2 hq2
  refine B_weq (ws' := g_wl G b_KK s2) rfl ?_
  refine B_steq (st' := [.int r, .int r]) rfl ?_
  exact B_icmpeq C (tgt := 1173) dL_law_214 (by decide) (fun _ => hx s2 hiv) (fun z => absurd rfl z)
theorem lc_1 {X : gX} {G : gG} {A : Nat → Prop} {ad0 : Nat → Nat} {b Ln : Nat} {xs : Nat → Int32} {mc ms : Nat} {Q : State → Prop} (h : b_lc X G A ad0 b Ln xs mc ms) {i : Nat} {σ : gS} (hi : i + 6 ≤ Ln) (hv : IVx σ) (hx : ∀ s, IVx s → bV X G.2.1 A 4 Q (g_wl G b_KK s) (b_L b i G) [] mc ms 1173) : bV X G.2.1 A 4 Q (g_wl G b_KK σ) (b_L b i G) [] mc ms 219 := by
  obtain ⟨C, E, had, S, hL, h1, h2⟩ := h
  obtain ⟨H, nT, t, TT, bb, n, hv⟩ := hv
  obtain ⟨hX, Q1, hle, MX, nx⟩ := jp_drip hv (xs (i + 1)) (xs (i + 2)) (xs (i + 3))
  refine B_aload C 2 dL_law_219 rfl rfl ?_
  refine B_sc C S (j := 1) (by omega) hL rfl rfl rfl dL_law_220 dL_law_221 dL_law_222 dL_law_223 dL_law_224 ?_
  refine B_sc C S (j := 2) (by omega) hL rfl rfl rfl dL_law_225 dL_law_226 dL_law_227 dL_law_228 dL_law_229 ?_
  refine B_sc C S (j := 3) (by omega) hL rfl rfl rfl dL_law_230 dL_law_231 dL_law_232 dL_law_233 dL_law_234 ?_
  refine B_gV (ws := []) (G := G) (K := b_KK) (σ := σ) C E had KK_nd (k := 0) (As := [.int (xs (i + 1)), .int (xs (i + 2)), .int (xs (i + 3))]) (rest := []) cv_X9_18 MX ⟨_, _, _, _, rfl, rfl⟩ (by decide) kX_in (by show hX + 1 ≤ 2048; omega) (by show 8 + (5 + 11) + 64 * hX ≤ 84000; omega) rfl rfl (Nat.le_of_ble_eq_true rfl) ⟨h1, h2⟩ dL_law_235 (fun rv s1 hq => ?_)
  obtain ⟨hM, Q2, r, hle2, rfl, MM, nx2⟩ := nx rv s1 hq
  refine B_weq (ws' := g_wl G b_KK s1) rfl ?_
  refine B_steq (st' := [.int r]) rfl ?_
  refine B_aload C 1 dL_law_238 rfl rfl ?_
  refine B_sc C S (j := 1) (by omega) hL rfl rfl rfl dL_law_239 dL_law_240 dL_law_241 dL_law_242 dL_law_243 ?_
  refine B_sc C S (j := 2) (by omega) hL rfl rfl rfl dL_law_244 dL_law_245 dL_law_246 dL_law_247 dL_law_248 ?_
  refine B_sc C S (j := 3) (by omega) hL rfl rfl rfl dL_law_249 dL_law_250 dL_law_251 dL_law_252 dL_law_253 ?_
  refine B_gV (ws := []) (G := G) (K := b_KK) (σ := s1) C E had KK_nd (k := 63) (As := [.int (xs (i + 1)), .int (xs (i + 2)), .int (xs (i + 3))]) (rest := [.int r]) cv_X9_21 MM ⟨_, _, _, _, rfl, rfl⟩ (by decide) kM_inK (by show hM + 1 ≤ 2048; omega) (by show 8 + (4 + 11) + 64 * hM ≤ 84000; omega) rfl rfl (Nat.le_of_ble_eq_true rfl) ⟨h1, h2⟩ dL_law_254 (fun rv2 s2 hq2 => ?_)
  obtain ⟨rfl, hiv⟩ := nx2 rv2 s2 hq2
  refine B_weq (ws' := g_wl G b_KK s2) rfl ?_
  refine B_steq (st' := [.int r, .int r]) rfl ?_
  exact B_icmpeq C (tgt := 1173) dL_law_257 (by decide) (fun _ => hx s2 hiv) (fun z => absurd rfl z)
theorem lc_2 {X : gX} {G : gG} {A : Nat → Prop} {ad0 : Nat → Nat} {b Ln : Nat} {xs : Nat → Int32} {mc ms : Nat} {Q : State → Prop} (h : b_lc X G A ad0 b Ln xs mc ms) {i : Nat} {σ : gS} (hi : i + 6 ≤ Ln) (hv : IVx σ) (hx : ∀ s, IVx s → bV X G.2.1 A 4 Q (g_wl G b_KK s) (b_L b i G) [] mc ms 1173) : bV X G.2.1 A 4 Q (g_wl G b_KK σ) (b_L b i G) [] mc ms 262 := by
  obtain ⟨C, E, had, S, hL, h1, h2⟩ := h
  obtain ⟨H, nT, t, TT, bb, n, hv⟩ := hv
  obtain ⟨hX, Q1, hle, MX, nx⟩ := jp_vessel hv (xs (i + 1))
  refine B_aload C 2 dL_law_262 rfl rfl ?_
  refine B_sc C S (j := 1) (by omega) hL rfl rfl rfl dL_law_263 dL_law_264 dL_law_265 dL_law_266 dL_law_267 ?_
  refine B_gV (ws := []) (G := G) (K := b_KK) (σ := σ) C E had KK_nd (k := 0) (As := [.int (xs (i + 1))]) (rest := []) cv_X9_22 MX ⟨_, _, _, _, rfl, rfl⟩ (by decide) kX_in (by show hX + 1 ≤ 2048; omega) (by show 8 + (3 + 11) + 64 * hX ≤ 84000; omega) rfl rfl (Nat.le_of_ble_eq_true rfl) ⟨h1, h2⟩ dL_law_268 (fun rv s1 hq => ?_)
  obtain ⟨hM, Q2, r, hle2, rfl, MM, nx2⟩ := nx rv s1 hq
  refine B_weq (ws' := g_wl G b_KK s1) rfl ?_
  refine B_steq (st' := [.int r]) rfl ?_
  refine B_aload C 1 dL_law_271 rfl rfl ?_
  refine B_sc C S (j := 1) (by omega) hL rfl rfl rfl dL_law_272 dL_law_273 dL_law_274 dL_law_275 dL_law_276 ?_
  refine B_gV (ws := []) (G := G) (K := b_KK) (σ := s1) C E had KK_nd (k := 63) (As := [.int (xs (i + 1))]) (rest := [.int r]) cv_X9_26 MM ⟨_, _, _, _, rfl, rfl⟩ (by decide) kM_inK (by show hM + 1 ≤ 2048; omega) (by show 8 + (2 + 11) + 64 * hM ≤ 84000; omega) rfl rfl (Nat.le_of_ble_eq_true rfl) ⟨h1, h2⟩ dL_law_277 (fun rv2 s2 hq2 => ?_)
  obtain ⟨rfl, hiv⟩ := nx2 rv2 s2 hq2
  refine B_weq (ws' := g_wl G b_KK s2) rfl ?_
  refine B_steq (st' := [.int r, .int r]) rfl ?_
  exact B_icmpeq C (tgt := 1173) dL_law_280 (by decide) (fun _ => hx s2 hiv) (fun z => absurd rfl z)
theorem lc_3 {X : gX} {G : gG} {A : Nat → Prop} {ad0 : Nat → Nat} {b Ln : Nat} {xs : Nat → Int32} {mc ms : Nat} {Q : State → Prop} (h : b_lc X G A ad0 b Ln xs mc ms) {i : Nat} {σ : gS} (hi : i + 6 ≤ Ln) (hv : IVx σ) (hx : ∀ s, IVx s → bV X G.2.1 A 4 Q (g_wl G b_KK s) (b_L b i G) [] mc ms 1173) : bV X G.2.1 A 4 Q (g_wl G b_KK σ) (b_L b i G) [] mc ms 285 := by
  obtain ⟨C, E, had, S, hL, h1, h2⟩ := h
  obtain ⟨H, nT, t, TT, bb, n, hv⟩ := hv
  obtain ⟨hX, Q1, hle, MX, nx⟩ := jp_put hv (xs (i + 1)) (xs (i + 2))
  refine B_aload C 2 dL_law_285 rfl rfl ?_
  refine B_sc C S (j := 1) (by omega) hL rfl rfl rfl dL_law_286 dL_law_287 dL_law_288 dL_law_289 dL_law_290 ?_
  refine B_sc C S (j := 2) (by omega) hL rfl rfl rfl dL_law_291 dL_law_292 dL_law_293 dL_law_294 dL_law_295 ?_
  refine B_gV (ws := []) (G := G) (K := b_KK) (σ := σ) C E had KK_nd (k := 0) (As := [.int (xs (i + 1)), .int (xs (i + 2))]) (rest := []) cv_X9_27 MX ⟨_, _, _, _, rfl, rfl⟩ (by decide) kX_in (by show hX + 1 ≤ 2048; omega) (by show 8 + (4 + 11) + 64 * hX ≤ 84000; omega) rfl rfl (Nat.le_of_ble_eq_true rfl) ⟨h1, h2⟩ dL_law_296 (fun rv s1 hq => ?_)
  obtain ⟨hM, Q2, r, hle2, rfl, MM, nx2⟩ := nx rv s1 hq
  refine B_weq (ws' := g_wl G b_KK s1) rfl ?_
  refine B_steq (st' := [.int r]) rfl ?_
  refine B_aload C 1 dL_law_299 rfl rfl ?_
  refine B_sc C S (j := 1) (by omega) hL rfl rfl rfl dL_law_300 dL_law_301 dL_law_302 dL_law_303 dL_law_304 ?_
  refine B_sc C S (j := 2) (by omega) hL rfl rfl rfl dL_law_305 dL_law_306 dL_law_307 dL_law_308 dL_law_309 ?_
  refine B_gV (ws := []) (G := G) (K := b_KK) (σ := s1) C E had KK_nd (k := 63) (As := [.int (xs (i + 1)), .int (xs (i + 2))]) (rest := [.int r]) cv_X9_31 MM ⟨_, _, _, _, rfl, rfl⟩ (by decide) kM_inK (by show hM + 1 ≤ 2048; omega) (by show 8 + (5 + 11) + 64 * hM ≤ 84000; omega) rfl rfl (Nat.le_of_ble_eq_true rfl) ⟨h1, h2⟩ dL_law_310 (fun rv2 s2 hq2 => ?_)
  obtain ⟨rfl, hiv⟩ := nx2 rv2 s2 hq2
  refine B_weq (ws' := g_wl G b_KK s2) rfl ?_
  refine B_steq (st' := [.int r, .int r]) rfl ?_
  exact B_icmpeq C (tgt := 1173) dL_law_313 (by decide) (fun _ => hx s2 hiv) (fun z => absurd rfl z)
theorem lc_4 {X : gX} {G : gG} {A : Nat → Prop} {ad0 : Nat → Nat} {b Ln : Nat} {xs : Nat → Int32} {mc ms : Nat} {Q : State → Prop} (h : b_lc X G A ad0 b Ln xs mc ms) {i : Nat} {σ : gS} (hi : i + 6 ≤ Ln) (hv : IVx σ) (hx : ∀ s, IVx s → bV X G.2.1 A 4 Q (g_wl G b_KK s) (b_L b i G) [] mc ms 1173) : bV X G.2.1 A 4 Q (g_wl G b_KK σ) (b_L b i G) [] mc ms 318 := by
  obtain ⟨C, E, had, S, hL, h1, h2⟩ := h
  obtain ⟨H, nT, t, TT, bb, n, hv⟩ := hv
  obtain ⟨hX, Q1, hle, MX, nx⟩ := jp_fill hv (xs (i + 1)) (xs (i + 2))
  refine B_aload C 2 dL_law_318 rfl rfl ?_
  refine B_sc C S (j := 1) (by omega) hL rfl rfl rfl dL_law_319 dL_law_320 dL_law_321 dL_law_322 dL_law_323 ?_
  refine B_sc C S (j := 2) (by omega) hL rfl rfl rfl dL_law_324 dL_law_325 dL_law_326 dL_law_327 dL_law_328 ?_
  refine B_gV (ws := []) (G := G) (K := b_KK) (σ := σ) C E had KK_nd (k := 0) (As := [.int (xs (i + 1)), .int (xs (i + 2))]) (rest := []) cv_X9_32 MX ⟨_, _, _, _, rfl, rfl⟩ (by decide) kX_in (by show hX + 1 ≤ 2048; omega) (by show 8 + (3 + 11) + 64 * hX ≤ 84000; omega) rfl rfl (Nat.le_of_ble_eq_true rfl) ⟨h1, h2⟩ dL_law_329 (fun rv s1 hq => ?_)
  obtain ⟨hM, Q2, r, hle2, rfl, MM, nx2⟩ := nx rv s1 hq
  refine B_weq (ws' := g_wl G b_KK s1) rfl ?_
  refine B_steq (st' := [.int r]) rfl ?_
  refine B_aload C 1 dL_law_332 rfl rfl ?_
  refine B_sc C S (j := 1) (by omega) hL rfl rfl rfl dL_law_333 dL_law_334 dL_law_335 dL_law_336 dL_law_337 ?_
  refine B_sc C S (j := 2) (by omega) hL rfl rfl rfl dL_law_338 dL_law_339 dL_law_340 dL_law_341 dL_law_342 ?_
  refine B_gV (ws := []) (G := G) (K := b_KK) (σ := s1) C E had KK_nd (k := 63) (As := [.int (xs (i + 1)), .int (xs (i + 2))]) (rest := [.int r]) cv_X9_35 MM ⟨_, _, _, _, rfl, rfl⟩ (by decide) kM_inK (by show hM + 1 ≤ 2048; omega) (by show 8 + (4 + 11) + 64 * hM ≤ 84000; omega) rfl rfl (Nat.le_of_ble_eq_true rfl) ⟨h1, h2⟩ dL_law_343 (fun rv2 s2 hq2 => ?_)
  obtain ⟨rfl, hiv⟩ := nx2 rv2 s2 hq2
  refine B_weq (ws' := g_wl G b_KK s2) rfl ?_
  refine B_steq (st' := [.int r, .int r]) rfl ?_
  exact B_icmpeq C (tgt := 1173) dL_law_346 (by decide) (fun _ => hx s2 hiv) (fun z => absurd rfl z)
theorem lc_5 {X : gX} {G : gG} {A : Nat → Prop} {ad0 : Nat → Nat} {b Ln : Nat} {xs : Nat → Int32} {mc ms : Nat} {Q : State → Prop} (h : b_lc X G A ad0 b Ln xs mc ms) {i : Nat} {σ : gS} (hi : i + 6 ≤ Ln) (hv : IVx σ) (hx : ∀ s, IVx s → bV X G.2.1 A 4 Q (g_wl G b_KK s) (b_L b i G) [] mc ms 1173) : bV X G.2.1 A 4 Q (g_wl G b_KK σ) (b_L b i G) [] mc ms 351 := by
  obtain ⟨C, E, had, S, hL, h1, h2⟩ := h
  obtain ⟨H, nT, t, TT, bb, n, hv⟩ := hv
  obtain ⟨hX, Q1, hle, MX, nx⟩ := jp_told hv (xs (i + 1)) (xs (i + 2))
  refine B_aload C 2 dL_law_351 rfl rfl ?_
  refine B_sc C S (j := 1) (by omega) hL rfl rfl rfl dL_law_352 dL_law_353 dL_law_354 dL_law_355 dL_law_356 ?_
  refine B_sc C S (j := 2) (by omega) hL rfl rfl rfl dL_law_357 dL_law_358 dL_law_359 dL_law_360 dL_law_361 ?_
  refine B_gV (ws := []) (G := G) (K := b_KK) (σ := σ) C E had KK_nd (k := 0) (As := [.int (xs (i + 1)), .int (xs (i + 2))]) (rest := []) cv_X9_36 MX ⟨_, _, _, _, rfl, rfl⟩ (by decide) kX_in (by show hX + 1 ≤ 2048; omega) (by show 8 + (3 + 11) + 64 * hX ≤ 84000; omega) rfl rfl (Nat.le_of_ble_eq_true rfl) ⟨h1, h2⟩ dL_law_362 (fun rv s1 hq => ?_)
  obtain ⟨hM, Q2, r, hle2, rfl, MM, nx2⟩ := nx rv s1 hq
  refine B_weq (ws' := g_wl G b_KK s1) rfl ?_
  refine B_steq (st' := [.int r]) rfl ?_
  refine B_aload C 1 dL_law_365 rfl rfl ?_
  refine B_sc C S (j := 1) (by omega) hL rfl rfl rfl dL_law_366 dL_law_367 dL_law_368 dL_law_369 dL_law_370 ?_
  refine B_sc C S (j := 2) (by omega) hL rfl rfl rfl dL_law_371 dL_law_372 dL_law_373 dL_law_374 dL_law_375 ?_
  refine B_gV (ws := []) (G := G) (K := b_KK) (σ := s1) C E had KK_nd (k := 63) (As := [.int (xs (i + 1)), .int (xs (i + 2))]) (rest := [.int r]) cv_X9_39 MM ⟨_, _, _, _, rfl, rfl⟩ (by decide) kM_inK (by show hM + 1 ≤ 2048; omega) (by show 8 + (3 + 11) + 64 * hM ≤ 84000; omega) rfl rfl (Nat.le_of_ble_eq_true rfl) ⟨h1, h2⟩ dL_law_376 (fun rv2 s2 hq2 => ?_)
  obtain ⟨rfl, hiv⟩ := nx2 rv2 s2 hq2
  refine B_weq (ws' := g_wl G b_KK s2) rfl ?_
  refine B_steq (st' := [.int r, .int r]) rfl ?_
  exact B_icmpeq C (tgt := 1173) dL_law_379 (by decide) (fun _ => hx s2 hiv) (fun z => absurd rfl z)
theorem lc_6 {X : gX} {G : gG} {A : Nat → Prop} {ad0 : Nat → Nat} {b Ln : Nat} {xs : Nat → Int32} {mc ms : Nat} {Q : State → Prop} (h : b_lc X G A ad0 b Ln xs mc ms) {i : Nat} {σ : gS} (hi : i + 6 ≤ Ln) (hv : IVx σ) (hx : ∀ s, IVx s → bV X G.2.1 A 4 Q (g_wl G b_KK s) (b_L b i G) [] mc ms 1173) : bV X G.2.1 A 4 Q (g_wl G b_KK σ) (b_L b i G) [] mc ms 384 := by
  obtain ⟨C, E, had, S, hL, h1, h2⟩ := h
  obtain ⟨H, nT, t, TT, bb, n, hv⟩ := hv
  obtain ⟨hX, Q1, hle, MX, nx⟩ := jp_falls hv (xs (i + 1)) (xs (i + 2)) (xs (i + 3))
  refine B_aload C 2 dL_law_384 rfl rfl ?_
  refine B_sc C S (j := 1) (by omega) hL rfl rfl rfl dL_law_385 dL_law_386 dL_law_387 dL_law_388 dL_law_389 ?_
  refine B_sc C S (j := 2) (by omega) hL rfl rfl rfl dL_law_390 dL_law_391 dL_law_392 dL_law_393 dL_law_394 ?_
  refine B_sc C S (j := 3) (by omega) hL rfl rfl rfl dL_law_395 dL_law_396 dL_law_397 dL_law_398 dL_law_399 ?_
  refine B_gV (ws := []) (G := G) (K := b_KK) (σ := σ) C E had KK_nd (k := 0) (As := [.int (xs (i + 1)), .int (xs (i + 2)), .int (xs (i + 3))]) (rest := []) cv_X9_40 MX ⟨_, _, _, _, rfl, rfl⟩ (by decide) kX_in (by show hX + 1 ≤ 2048; omega) (by show 8 + (6 + 11) + 64 * hX ≤ 84000; omega) rfl rfl (Nat.le_of_ble_eq_true rfl) ⟨h1, h2⟩ dL_law_400 (fun rv s1 hq => ?_)
  obtain ⟨hM, Q2, r, hle2, rfl, MM, nx2⟩ := nx rv s1 hq
  refine B_weq (ws' := g_wl G b_KK s1) rfl ?_
  refine B_steq (st' := [.int r]) rfl ?_
  refine B_aload C 1 dL_law_403 rfl rfl ?_
  refine B_sc C S (j := 1) (by omega) hL rfl rfl rfl dL_law_404 dL_law_405 dL_law_406 dL_law_407 dL_law_408 ?_
  refine B_sc C S (j := 2) (by omega) hL rfl rfl rfl dL_law_409 dL_law_410 dL_law_411 dL_law_412 dL_law_413 ?_
  refine B_sc C S (j := 3) (by omega) hL rfl rfl rfl dL_law_414 dL_law_415 dL_law_416 dL_law_417 dL_law_418 ?_
  refine B_gV (ws := []) (G := G) (K := b_KK) (σ := s1) C E had KK_nd (k := 63) (As := [.int (xs (i + 1)), .int (xs (i + 2)), .int (xs (i + 3))]) (rest := [.int r]) cv_X9_43 MM ⟨_, _, _, _, rfl, rfl⟩ (by decide) kM_inK (by show hM + 1 ≤ 2048; omega) (by show 8 + (4 + 11) + 64 * hM ≤ 84000; omega) rfl rfl (Nat.le_of_ble_eq_true rfl) ⟨h1, h2⟩ dL_law_419 (fun rv2 s2 hq2 => ?_)
  obtain ⟨rfl, hiv⟩ := nx2 rv2 s2 hq2
  refine B_weq (ws' := g_wl G b_KK s2) rfl ?_
  refine B_steq (st' := [.int r, .int r]) rfl ?_
  exact B_icmpeq C (tgt := 1173) dL_law_422 (by decide) (fun _ => hx s2 hiv) (fun z => absurd rfl z)
theorem lc_7 {X : gX} {G : gG} {A : Nat → Prop} {ad0 : Nat → Nat} {b Ln : Nat} {xs : Nat → Int32} {mc ms : Nat} {Q : State → Prop} (h : b_lc X G A ad0 b Ln xs mc ms) {i : Nat} {σ : gS} (hi : i + 6 ≤ Ln) (hv : IVx σ) (hx : ∀ s, IVx s → bV X G.2.1 A 4 Q (g_wl G b_KK s) (b_L b i G) [] mc ms 1173) : bV X G.2.1 A 4 Q (g_wl G b_KK σ) (b_L b i G) [] mc ms 427 := by
  obtain ⟨C, E, had, S, hL, h1, h2⟩ := h
  obtain ⟨H, nT, t, TT, bb, n, hv⟩ := hv
  obtain ⟨hX, Q1, hle, MX, nx⟩ := jp_feed hv (xs (i + 1))
  refine B_aload C 2 dL_law_427 rfl rfl ?_
  refine B_sc C S (j := 1) (by omega) hL rfl rfl rfl dL_law_428 dL_law_429 dL_law_430 dL_law_431 dL_law_432 ?_
  refine B_gV (ws := []) (G := G) (K := b_KK) (σ := σ) C E had KK_nd (k := 0) (As := [.int (xs (i + 1))]) (rest := []) cv_X9_44 MX ⟨_, _, _, _, rfl, rfl⟩ (by decide) kX_in (by show hX + 1 ≤ 2048; omega) (by show 8 + (2 + 11) + 64 * hX ≤ 84000; omega) rfl rfl (Nat.le_of_ble_eq_true rfl) ⟨h1, h2⟩ dL_law_433 (fun rv s1 hq => ?_)
  obtain ⟨hM, Q2, r, hle2, rfl, MM, nx2⟩ := nx rv s1 hq
  refine B_weq (ws' := g_wl G b_KK s1) rfl ?_
  refine B_steq (st' := [.int r]) rfl ?_
  refine B_aload C 1 dL_law_436 rfl rfl ?_
  refine B_sc C S (j := 1) (by omega) hL rfl rfl rfl dL_law_437 dL_law_438 dL_law_439 dL_law_440 dL_law_441 ?_
  refine B_gV (ws := []) (G := G) (K := b_KK) (σ := s1) C E had KK_nd (k := 63) (As := [.int (xs (i + 1))]) (rest := [.int r]) cv_X9_47 MM ⟨_, _, _, _, rfl, rfl⟩ (by decide) kM_inK (by show hM + 1 ≤ 2048; omega) (by show 8 + (2 + 11) + 64 * hM ≤ 84000; omega) rfl rfl (Nat.le_of_ble_eq_true rfl) ⟨h1, h2⟩ dL_law_442 (fun rv2 s2 hq2 => ?_)
  obtain ⟨rfl, hiv⟩ := nx2 rv2 s2 hq2
  refine B_weq (ws' := g_wl G b_KK s2) rfl ?_
  refine B_steq (st' := [.int r, .int r]) rfl ?_
  exact B_icmpeq C (tgt := 1173) dL_law_445 (by decide) (fun _ => hx s2 hiv) (fun z => absurd rfl z)
theorem lc_8 {X : gX} {G : gG} {A : Nat → Prop} {ad0 : Nat → Nat} {b Ln : Nat} {xs : Nat → Int32} {mc ms : Nat} {Q : State → Prop} (h : b_lc X G A ad0 b Ln xs mc ms) {i : Nat} {σ : gS} (hi : i + 6 ≤ Ln) (hv : IVx σ) (hx : ∀ s, IVx s → bV X G.2.1 A 4 Q (g_wl G b_KK s) (b_L b i G) [] mc ms 1173) : bV X G.2.1 A 4 Q (g_wl G b_KK σ) (b_L b i G) [] mc ms 450 := by
  obtain ⟨C, E, had, S, hL, h1, h2⟩ := h
  obtain ⟨H, nT, t, TT, bb, n, hv⟩ := hv
  obtain ⟨hX, Q1, hle, MX, nx⟩ := jp_text hv 
  refine B_aload C 2 dL_law_450 rfl rfl ?_
  refine B_gV (ws := []) (G := G) (K := b_KK) (σ := σ) C E had KK_nd (k := 0) (As := []) (rest := []) cv_X9_48 MX ⟨_, _, _, _, rfl, rfl⟩ (by decide) kX_in (by show hX + 1 ≤ 2048; omega) (by show 8 + (2 + 11) + 64 * hX ≤ 84000; omega) rfl rfl (Nat.le_of_ble_eq_true rfl) ⟨h1, h2⟩ dL_law_451 (fun rv s1 hq => ?_)
  obtain ⟨hM, Q2, r, hle2, rfl, MM, nx2⟩ := nx rv s1 hq
  refine B_weq (ws' := g_wl G b_KK s1) rfl ?_
  refine B_steq (st' := [.int r]) rfl ?_
  refine B_aload C 1 dL_law_454 rfl rfl ?_
  refine B_gV (ws := []) (G := G) (K := b_KK) (σ := s1) C E had KK_nd (k := 63) (As := []) (rest := [.int r]) cv_X9_52 MM ⟨_, _, _, _, rfl, rfl⟩ (by decide) kM_inK (by show hM + 1 ≤ 2048; omega) (by show 8 + (2 + 11) + 64 * hM ≤ 84000; omega) rfl rfl (Nat.le_of_ble_eq_true rfl) ⟨h1, h2⟩ dL_law_455 (fun rv2 s2 hq2 => ?_)
  obtain ⟨rfl, hiv⟩ := nx2 rv2 s2 hq2
  refine B_weq (ws' := g_wl G b_KK s2) rfl ?_
  refine B_steq (st' := [.int r, .int r]) rfl ?_
  exact B_icmpeq C (tgt := 1173) dL_law_458 (by decide) (fun _ => hx s2 hiv) (fun z => absurd rfl z)
theorem lc_9 {X : gX} {G : gG} {A : Nat → Prop} {ad0 : Nat → Nat} {b Ln : Nat} {xs : Nat → Int32} {mc ms : Nat} {Q : State → Prop} (h : b_lc X G A ad0 b Ln xs mc ms) {i : Nat} {σ : gS} (hi : i + 6 ≤ Ln) (hv : IVx σ) (hx : ∀ s, IVx s → bV X G.2.1 A 4 Q (g_wl G b_KK s) (b_L b i G) [] mc ms 1173) : bV X G.2.1 A 4 Q (g_wl G b_KK σ) (b_L b i G) [] mc ms 463 := by
  obtain ⟨C, E, had, S, hL, h1, h2⟩ := h
  obtain ⟨H, nT, t, TT, bb, n, hv⟩ := hv
  obtain ⟨hX, Q1, hle, MX, nx⟩ := jp_force hv (xs (i + 1))
  refine B_aload C 2 dL_law_463 rfl rfl ?_
  refine B_sc C S (j := 1) (by omega) hL rfl rfl rfl dL_law_464 dL_law_465 dL_law_466 dL_law_467 dL_law_468 ?_
  refine B_gV (ws := []) (G := G) (K := b_KK) (σ := σ) C E had KK_nd (k := 0) (As := [.int (xs (i + 1))]) (rest := []) cv_X9_53 MX ⟨_, _, _, _, rfl, rfl⟩ (by decide) kX_in (by show hX + 1 ≤ 2048; omega) (by show 8 + (3 + 11) + 64 * hX ≤ 84000; omega) rfl rfl (Nat.le_of_ble_eq_true rfl) ⟨h1, h2⟩ dL_law_469 (fun rv s1 hq => ?_)
  obtain ⟨hM, Q2, r, hle2, rfl, MM, nx2⟩ := nx rv s1 hq
  refine B_weq (ws' := g_wl G b_KK s1) rfl ?_
  refine B_steq (st' := [.int r]) rfl ?_
  refine B_aload C 1 dL_law_472 rfl rfl ?_
  refine B_sc C S (j := 1) (by omega) hL rfl rfl rfl dL_law_473 dL_law_474 dL_law_475 dL_law_476 dL_law_477 ?_
  refine B_gV (ws := []) (G := G) (K := b_KK) (σ := s1) C E had KK_nd (k := 63) (As := [.int (xs (i + 1))]) (rest := [.int r]) cv_X9_56 MM ⟨_, _, _, _, rfl, rfl⟩ (by decide) kM_inK (by show hM + 1 ≤ 2048; omega) (by show 8 + (3 + 11) + 64 * hM ≤ 84000; omega) rfl rfl (Nat.le_of_ble_eq_true rfl) ⟨h1, h2⟩ dL_law_478 (fun rv2 s2 hq2 => ?_)
  obtain ⟨rfl, hiv⟩ := nx2 rv2 s2 hq2
  refine B_weq (ws' := g_wl G b_KK s2) rfl ?_
  refine B_steq (st' := [.int r, .int r]) rfl ?_
  exact B_icmpeq C (tgt := 1173) dL_law_481 (by decide) (fun _ => hx s2 hiv) (fun z => absurd rfl z)
theorem lc_10 {X : gX} {G : gG} {A : Nat → Prop} {ad0 : Nat → Nat} {b Ln : Nat} {xs : Nat → Int32} {mc ms : Nat} {Q : State → Prop} (h : b_lc X G A ad0 b Ln xs mc ms) {i : Nat} {σ : gS} (hi : i + 6 ≤ Ln) (hv : IVx σ) (hx : ∀ s, IVx s → bV X G.2.1 A 4 Q (g_wl G b_KK s) (b_L b i G) [] mc ms 1173) : bV X G.2.1 A 4 Q (g_wl G b_KK σ) (b_L b i G) [] mc ms 486 := by
  obtain ⟨C, E, had, S, hL, h1, h2⟩ := h
  obtain ⟨H, nT, t, TT, bb, n, hv⟩ := hv
  obtain ⟨hX, Q1, hle, MX, nx⟩ := jp_day hv (xs (i + 1))
  refine B_aload C 2 dL_law_486 rfl rfl ?_
  refine B_sc C S (j := 1) (by omega) hL rfl rfl rfl dL_law_487 dL_law_488 dL_law_489 dL_law_490 dL_law_491 ?_
  refine B_gV (ws := []) (G := G) (K := b_KK) (σ := σ) C E had KK_nd (k := 0) (As := [.int (xs (i + 1))]) (rest := []) cv_X9_57 MX ⟨_, _, _, _, rfl, rfl⟩ (by decide) kX_in (by show hX + 1 ≤ 2048; omega) (by show 8 + (3 + 11) + 64 * hX ≤ 84000; omega) rfl rfl (Nat.le_of_ble_eq_true rfl) ⟨h1, h2⟩ dL_law_492 (fun rv s1 hq => ?_)
  obtain ⟨hM, Q2, r, hle2, rfl, MM, nx2⟩ := nx rv s1 hq
  refine B_weq (ws' := g_wl G b_KK s1) rfl ?_
  refine B_steq (st' := [.int r]) rfl ?_
  refine B_aload C 1 dL_law_495 rfl rfl ?_
  refine B_sc C S (j := 1) (by omega) hL rfl rfl rfl dL_law_496 dL_law_497 dL_law_498 dL_law_499 dL_law_500 ?_
  refine B_gV (ws := []) (G := G) (K := b_KK) (σ := s1) C E had KK_nd (k := 63) (As := [.int (xs (i + 1))]) (rest := [.int r]) cv_X9_60 MM ⟨_, _, _, _, rfl, rfl⟩ (by decide) kM_inK (by show hM + 1 ≤ 2048; omega) (by show 8 + (5 + 11) + 64 * hM ≤ 84000; omega) rfl rfl (Nat.le_of_ble_eq_true rfl) ⟨h1, h2⟩ dL_law_501 (fun rv2 s2 hq2 => ?_)
  obtain ⟨rfl, hiv⟩ := nx2 rv2 s2 hq2
  refine B_weq (ws' := g_wl G b_KK s2) rfl ?_
  refine B_steq (st' := [.int r, .int r]) rfl ?_
  exact B_icmpeq C (tgt := 1173) dL_law_504 (by decide) (fun _ => hx s2 hiv) (fun z => absurd rfl z)
theorem lc_11 {X : gX} {G : gG} {A : Nat → Prop} {ad0 : Nat → Nat} {b Ln : Nat} {xs : Nat → Int32} {mc ms : Nat} {Q : State → Prop} (h : b_lc X G A ad0 b Ln xs mc ms) {i : Nat} {σ : gS} (hi : i + 6 ≤ Ln) (hv : IVx σ) (hx : ∀ s, IVx s → bV X G.2.1 A 4 Q (g_wl G b_KK s) (b_L b i G) [] mc ms 1173) : bV X G.2.1 A 4 Q (g_wl G b_KK σ) (b_L b i G) [] mc ms 509 := by
  obtain ⟨C, E, had, S, hL, h1, h2⟩ := h
  obtain ⟨H, nT, t, TT, bb, n, hv⟩ := hv
  obtain ⟨hX, Q1, hle, MX, nx⟩ := jp_water hv (xs (i + 1)) (xs (i + 2)) (xs (i + 3))
  refine B_aload C 2 dL_law_509 rfl rfl ?_
  refine B_sc C S (j := 1) (by omega) hL rfl rfl rfl dL_law_510 dL_law_511 dL_law_512 dL_law_513 dL_law_514 ?_
  refine B_sc C S (j := 2) (by omega) hL rfl rfl rfl dL_law_515 dL_law_516 dL_law_517 dL_law_518 dL_law_519 ?_
  refine B_sc C S (j := 3) (by omega) hL rfl rfl rfl dL_law_520 dL_law_521 dL_law_522 dL_law_523 dL_law_524 ?_
  refine B_gV (ws := []) (G := G) (K := b_KK) (σ := σ) C E had KK_nd (k := 0) (As := [.int (xs (i + 1)), .int (xs (i + 2)), .int (xs (i + 3))]) (rest := []) cv_X9_61 MX ⟨_, _, _, _, rfl, rfl⟩ (by decide) kX_in (by show hX + 1 ≤ 2048; omega) (by show 8 + (4 + 11) + 64 * hX ≤ 84000; omega) rfl rfl (Nat.le_of_ble_eq_true rfl) ⟨h1, h2⟩ dL_law_525 (fun rv s1 hq => ?_)
  obtain ⟨hM, Q2, r, hle2, rfl, MM, nx2⟩ := nx rv s1 hq
  refine B_weq (ws' := g_wl G b_KK s1) rfl ?_
  refine B_steq (st' := [.int r]) rfl ?_
  refine B_aload C 1 dL_law_528 rfl rfl ?_
  refine B_sc C S (j := 1) (by omega) hL rfl rfl rfl dL_law_529 dL_law_530 dL_law_531 dL_law_532 dL_law_533 ?_
  refine B_sc C S (j := 2) (by omega) hL rfl rfl rfl dL_law_534 dL_law_535 dL_law_536 dL_law_537 dL_law_538 ?_
  refine B_sc C S (j := 3) (by omega) hL rfl rfl rfl dL_law_539 dL_law_540 dL_law_541 dL_law_542 dL_law_543 ?_
  refine B_gV (ws := []) (G := G) (K := b_KK) (σ := s1) C E had KK_nd (k := 63) (As := [.int (xs (i + 1)), .int (xs (i + 2)), .int (xs (i + 3))]) (rest := [.int r]) cv_X9_64 MM ⟨_, _, _, _, rfl, rfl⟩ (by decide) kM_inK (by show hM + 1 ≤ 2048; omega) (by show 8 + (4 + 11) + 64 * hM ≤ 84000; omega) rfl rfl (Nat.le_of_ble_eq_true rfl) ⟨h1, h2⟩ dL_law_544 (fun rv2 s2 hq2 => ?_)
  obtain ⟨rfl, hiv⟩ := nx2 rv2 s2 hq2
  refine B_weq (ws' := g_wl G b_KK s2) rfl ?_
  refine B_steq (st' := [.int r, .int r]) rfl ?_
  exact B_icmpeq C (tgt := 1173) dL_law_547 (by decide) (fun _ => hx s2 hiv) (fun z => absurd rfl z)
theorem lc_12 {X : gX} {G : gG} {A : Nat → Prop} {ad0 : Nat → Nat} {b Ln : Nat} {xs : Nat → Int32} {mc ms : Nat} {Q : State → Prop} (h : b_lc X G A ad0 b Ln xs mc ms) {i : Nat} {σ : gS} (hi : i + 6 ≤ Ln) (hv : IVx σ) (hx : ∀ s, IVx s → bV X G.2.1 A 4 Q (g_wl G b_KK s) (b_L b i G) [] mc ms 1173) : bV X G.2.1 A 4 Q (g_wl G b_KK σ) (b_L b i G) [] mc ms 552 := by
  obtain ⟨C, E, had, S, hL, h1, h2⟩ := h
  obtain ⟨H, nT, t, TT, bb, n, hv⟩ := hv
  obtain ⟨hX, Q1, hle, MX, nx⟩ := jp_pass hv (xs (i + 1))
  refine B_aload C 2 dL_law_552 rfl rfl ?_
  refine B_sc C S (j := 1) (by omega) hL rfl rfl rfl dL_law_553 dL_law_554 dL_law_555 dL_law_556 dL_law_557 ?_
  refine B_gV (ws := []) (G := G) (K := b_KK) (σ := σ) C E had KK_nd (k := 0) (As := [.int (xs (i + 1))]) (rest := []) cv_X9_65 MX ⟨_, _, _, _, rfl, rfl⟩ (by decide) kX_in (by show hX + 1 ≤ 2048; omega) (by show 8 + (3 + 11) + 64 * hX ≤ 84000; omega) rfl rfl (Nat.le_of_ble_eq_true rfl) ⟨h1, h2⟩ dL_law_558 (fun rv s1 hq => ?_)
  obtain ⟨hM, Q2, r, hle2, rfl, MM, nx2⟩ := nx rv s1 hq
  refine B_weq (ws' := g_wl G b_KK s1) rfl ?_
  refine B_steq (st' := [.int r]) rfl ?_
  refine B_aload C 1 dL_law_561 rfl rfl ?_
  refine B_sc C S (j := 1) (by omega) hL rfl rfl rfl dL_law_562 dL_law_563 dL_law_564 dL_law_565 dL_law_566 ?_
  refine B_gV (ws := []) (G := G) (K := b_KK) (σ := s1) C E had KK_nd (k := 63) (As := [.int (xs (i + 1))]) (rest := [.int r]) cv_X9_68 MM ⟨_, _, _, _, rfl, rfl⟩ (by decide) kM_inK (by show hM + 1 ≤ 2048; omega) (by show 8 + (3 + 11) + 64 * hM ≤ 84000; omega) rfl rfl (Nat.le_of_ble_eq_true rfl) ⟨h1, h2⟩ dL_law_567 (fun rv2 s2 hq2 => ?_)
  obtain ⟨rfl, hiv⟩ := nx2 rv2 s2 hq2
  refine B_weq (ws' := g_wl G b_KK s2) rfl ?_
  refine B_steq (st' := [.int r, .int r]) rfl ?_
  exact B_icmpeq C (tgt := 1173) dL_law_570 (by decide) (fun _ => hx s2 hiv) (fun z => absurd rfl z)
theorem lc_13 {X : gX} {G : gG} {A : Nat → Prop} {ad0 : Nat → Nat} {b Ln : Nat} {xs : Nat → Int32} {mc ms : Nat} {Q : State → Prop} (h : b_lc X G A ad0 b Ln xs mc ms) {i : Nat} {σ : gS} (hi : i + 6 ≤ Ln) (hv : IVx σ) (hx : ∀ s, IVx s → bV X G.2.1 A 4 Q (g_wl G b_KK s) (b_L b i G) [] mc ms 1173) : bV X G.2.1 A 4 Q (g_wl G b_KK σ) (b_L b i G) [] mc ms 575 := by
  obtain ⟨C, E, had, S, hL, h1, h2⟩ := h
  obtain ⟨H, nT, t, TT, bb, n, hv⟩ := hv
  obtain ⟨hX, Q1, hle, MX, nx⟩ := jp_stand hv (xs (i + 1))
  refine B_aload C 2 dL_law_575 rfl rfl ?_
  refine B_sc C S (j := 1) (by omega) hL rfl rfl rfl dL_law_576 dL_law_577 dL_law_578 dL_law_579 dL_law_580 ?_
  refine B_gV (ws := []) (G := G) (K := b_KK) (σ := σ) C E had KK_nd (k := 0) (As := [.int (xs (i + 1))]) (rest := []) cv_X9_69 MX ⟨_, _, _, _, rfl, rfl⟩ (by decide) kX_in (by show hX + 1 ≤ 2048; omega) (by show 8 + (5 + 11) + 64 * hX ≤ 84000; omega) rfl rfl (Nat.le_of_ble_eq_true rfl) ⟨h1, h2⟩ dL_law_581 (fun rv s1 hq => ?_)
  obtain ⟨hM, Q2, r, hle2, rfl, MM, nx2⟩ := nx rv s1 hq
  refine B_weq (ws' := g_wl G b_KK s1) rfl ?_
  refine B_steq (st' := [.int r]) rfl ?_
  refine B_aload C 1 dL_law_584 rfl rfl ?_
  refine B_sc C S (j := 1) (by omega) hL rfl rfl rfl dL_law_585 dL_law_586 dL_law_587 dL_law_588 dL_law_589 ?_
  refine B_gV (ws := []) (G := G) (K := b_KK) (σ := s1) C E had KK_nd (k := 63) (As := [.int (xs (i + 1))]) (rest := [.int r]) cv_X9_72 MM ⟨_, _, _, _, rfl, rfl⟩ (by decide) kM_inK (by show hM + 1 ≤ 2048; omega) (by show 8 + (3 + 11) + 64 * hM ≤ 84000; omega) rfl rfl (Nat.le_of_ble_eq_true rfl) ⟨h1, h2⟩ dL_law_590 (fun rv2 s2 hq2 => ?_)
  obtain ⟨rfl, hiv⟩ := nx2 rv2 s2 hq2
  refine B_weq (ws' := g_wl G b_KK s2) rfl ?_
  refine B_steq (st' := [.int r, .int r]) rfl ?_
  exact B_icmpeq C (tgt := 1173) dL_law_593 (by decide) (fun _ => hx s2 hiv) (fun z => absurd rfl z)
theorem lc_14 {X : gX} {G : gG} {A : Nat → Prop} {ad0 : Nat → Nat} {b Ln : Nat} {xs : Nat → Int32} {mc ms : Nat} {Q : State → Prop} (h : b_lc X G A ad0 b Ln xs mc ms) {i : Nat} {σ : gS} (hi : i + 6 ≤ Ln) (hv : IVx σ) (hx : ∀ s, IVx s → bV X G.2.1 A 4 Q (g_wl G b_KK s) (b_L b i G) [] mc ms 1173) : bV X G.2.1 A 4 Q (g_wl G b_KK σ) (b_L b i G) [] mc ms 598 := by
  obtain ⟨C, E, had, S, hL, h1, h2⟩ := h
  obtain ⟨H, nT, t, TT, bb, n, hv⟩ := hv
  obtain ⟨hX, Q1, hle, MX, nx⟩ := jp_rise hv (xs (i + 1)) (xs (i + 2))
  refine B_aload C 2 dL_law_598 rfl rfl ?_
  refine B_sc C S (j := 1) (by omega) hL rfl rfl rfl dL_law_599 dL_law_600 dL_law_601 dL_law_602 dL_law_603 ?_
  refine B_sc C S (j := 2) (by omega) hL rfl rfl rfl dL_law_604 dL_law_605 dL_law_606 dL_law_607 dL_law_608 ?_
  refine B_gV (ws := []) (G := G) (K := b_KK) (σ := σ) C E had KK_nd (k := 0) (As := [.int (xs (i + 1)), .int (xs (i + 2))]) (rest := []) cv_X9_73 MX ⟨_, _, _, _, rfl, rfl⟩ (by decide) kX_in (by show hX + 1 ≤ 2048; omega) (by show 8 + (5 + 11) + 64 * hX ≤ 84000; omega) rfl rfl (Nat.le_of_ble_eq_true rfl) ⟨h1, h2⟩ dL_law_609 (fun rv s1 hq => ?_)
  obtain ⟨hM, Q2, r, hle2, rfl, MM, nx2⟩ := nx rv s1 hq
  refine B_weq (ws' := g_wl G b_KK s1) rfl ?_
  refine B_steq (st' := [.int r]) rfl ?_
  refine B_aload C 1 dL_law_612 rfl rfl ?_
  refine B_sc C S (j := 1) (by omega) hL rfl rfl rfl dL_law_613 dL_law_614 dL_law_615 dL_law_616 dL_law_617 ?_
  refine B_sc C S (j := 2) (by omega) hL rfl rfl rfl dL_law_618 dL_law_619 dL_law_620 dL_law_621 dL_law_622 ?_
  refine B_gV (ws := []) (G := G) (K := b_KK) (σ := s1) C E had KK_nd (k := 63) (As := [.int (xs (i + 1)), .int (xs (i + 2))]) (rest := [.int r]) cv_X9_76 MM ⟨_, _, _, _, rfl, rfl⟩ (by decide) kM_inK (by show hM + 1 ≤ 2048; omega) (by show 8 + (7 + 11) + 64 * hM ≤ 84000; omega) rfl rfl (Nat.le_of_ble_eq_true rfl) ⟨h1, h2⟩ dL_law_623 (fun rv2 s2 hq2 => ?_)
  obtain ⟨rfl, hiv⟩ := nx2 rv2 s2 hq2
  refine B_weq (ws' := g_wl G b_KK s2) rfl ?_
  refine B_steq (st' := [.int r, .int r]) rfl ?_
  exact B_icmpeq C (tgt := 1173) dL_law_626 (by decide) (fun _ => hx s2 hiv) (fun z => absurd rfl z)
theorem lc_15 {X : gX} {G : gG} {A : Nat → Prop} {ad0 : Nat → Nat} {b Ln : Nat} {xs : Nat → Int32} {mc ms : Nat} {Q : State → Prop} (h : b_lc X G A ad0 b Ln xs mc ms) {i : Nat} {σ : gS} (hi : i + 6 ≤ Ln) (hv : IVx σ) (hx : ∀ s, IVx s → bV X G.2.1 A 4 Q (g_wl G b_KK s) (b_L b i G) [] mc ms 1173) : bV X G.2.1 A 4 Q (g_wl G b_KK σ) (b_L b i G) [] mc ms 631 := by
  obtain ⟨C, E, had, S, hL, h1, h2⟩ := h
  obtain ⟨H, nT, t, TT, bb, n, hv⟩ := hv
  obtain ⟨hX, Q1, hle, MX, nx⟩ := jp_lead hv (xs (i + 1))
  refine B_aload C 2 dL_law_631 rfl rfl ?_
  refine B_sc C S (j := 1) (by omega) hL rfl rfl rfl dL_law_632 dL_law_633 dL_law_634 dL_law_635 dL_law_636 ?_
  refine B_gV (ws := []) (G := G) (K := b_KK) (σ := σ) C E had KK_nd (k := 0) (As := [.int (xs (i + 1))]) (rest := []) cv_X9_77 MX ⟨_, _, _, _, rfl, rfl⟩ (by decide) kX_in (by show hX + 1 ≤ 2048; omega) (by show 8 + (6 + 11) + 64 * hX ≤ 84000; omega) rfl rfl (Nat.le_of_ble_eq_true rfl) ⟨h1, h2⟩ dL_law_637 (fun rv s1 hq => ?_)
  obtain ⟨hM, Q2, r, hle2, rfl, MM, nx2⟩ := nx rv s1 hq
  refine B_weq (ws' := g_wl G b_KK s1) rfl ?_
  refine B_steq (st' := [.int r]) rfl ?_
  refine B_aload C 1 dL_law_640 rfl rfl ?_
  refine B_sc C S (j := 1) (by omega) hL rfl rfl rfl dL_law_641 dL_law_642 dL_law_643 dL_law_644 dL_law_645 ?_
  refine B_gV (ws := []) (G := G) (K := b_KK) (σ := s1) C E had KK_nd (k := 63) (As := [.int (xs (i + 1))]) (rest := [.int r]) cv_X9_80 MM ⟨_, _, _, _, rfl, rfl⟩ (by decide) kM_inK (by show hM + 1 ≤ 2048; omega) (by show 8 + (7 + 11) + 64 * hM ≤ 84000; omega) rfl rfl (Nat.le_of_ble_eq_true rfl) ⟨h1, h2⟩ dL_law_646 (fun rv2 s2 hq2 => ?_)
  obtain ⟨rfl, hiv⟩ := nx2 rv2 s2 hq2
  refine B_weq (ws' := g_wl G b_KK s2) rfl ?_
  refine B_steq (st' := [.int r, .int r]) rfl ?_
  exact B_icmpeq C (tgt := 1173) dL_law_649 (by decide) (fun _ => hx s2 hiv) (fun z => absurd rfl z)
theorem lc_16 {X : gX} {G : gG} {A : Nat → Prop} {ad0 : Nat → Nat} {b Ln : Nat} {xs : Nat → Int32} {mc ms : Nat} {Q : State → Prop} (h : b_lc X G A ad0 b Ln xs mc ms) {i : Nat} {σ : gS} (hi : i + 6 ≤ Ln) (hv : IVx σ) (hx : ∀ s, IVx s → bV X G.2.1 A 4 Q (g_wl G b_KK s) (b_L b i G) [] mc ms 1173) : bV X G.2.1 A 4 Q (g_wl G b_KK σ) (b_L b i G) [] mc ms 654 := by
  obtain ⟨C, E, had, S, hL, h1, h2⟩ := h
  obtain ⟨H, nT, t, TT, bb, n, hv⟩ := hv
  obtain ⟨hX, Q1, hle, MX, nx⟩ := jp_gone hv 
  refine B_aload C 2 dL_law_654 rfl rfl ?_
  refine B_gV (ws := []) (G := G) (K := b_KK) (σ := σ) C E had KK_nd (k := 0) (As := []) (rest := []) cv_X9_81 MX ⟨_, _, _, _, rfl, rfl⟩ (by decide) kX_in (by show hX + 1 ≤ 2048; omega) (by show 8 + (1 + 11) + 64 * hX ≤ 84000; omega) rfl rfl (Nat.le_of_ble_eq_true rfl) ⟨h1, h2⟩ dL_law_655 (fun rv s1 hq => ?_)
  obtain ⟨hM, Q2, r, hle2, rfl, MM, nx2⟩ := nx rv s1 hq
  refine B_weq (ws' := g_wl G b_KK s1) rfl ?_
  refine B_steq (st' := [.int r]) rfl ?_
  refine B_aload C 1 dL_law_658 rfl rfl ?_
  refine B_gV (ws := []) (G := G) (K := b_KK) (σ := s1) C E had KK_nd (k := 63) (As := []) (rest := [.int r]) cv_X9_84 MM ⟨_, _, _, _, rfl, rfl⟩ (by decide) kM_inK (by show hM + 1 ≤ 2048; omega) (by show 8 + (2 + 11) + 64 * hM ≤ 84000; omega) rfl rfl (Nat.le_of_ble_eq_true rfl) ⟨h1, h2⟩ dL_law_659 (fun rv2 s2 hq2 => ?_)
  obtain ⟨rfl, hiv⟩ := nx2 rv2 s2 hq2
  refine B_weq (ws' := g_wl G b_KK s2) rfl ?_
  refine B_steq (st' := [.int r, .int r]) rfl ?_
  exact B_icmpeq C (tgt := 1173) dL_law_662 (by decide) (fun _ => hx s2 hiv) (fun z => absurd rfl z)
theorem lc_17 {X : gX} {G : gG} {A : Nat → Prop} {ad0 : Nat → Nat} {b Ln : Nat} {xs : Nat → Int32} {mc ms : Nat} {Q : State → Prop} (h : b_lc X G A ad0 b Ln xs mc ms) {i : Nat} {σ : gS} (hi : i + 6 ≤ Ln) (hv : IVx σ) (hx : ∀ s, IVx s → bV X G.2.1 A 4 Q (g_wl G b_KK s) (b_L b i G) [] mc ms 1173) : bV X G.2.1 A 4 Q (g_wl G b_KK σ) (b_L b i G) [] mc ms 667 := by
  obtain ⟨C, E, had, S, hL, h1, h2⟩ := h
  obtain ⟨H, nT, t, TT, bb, n, hv⟩ := hv
  obtain ⟨hX, Q1, hle, MX, nx⟩ := jp_tile hv (xs (i + 1))
  refine B_aload C 2 dL_law_667 rfl rfl ?_
  refine B_sc C S (j := 1) (by omega) hL rfl rfl rfl dL_law_668 dL_law_669 dL_law_670 dL_law_671 dL_law_672 ?_
  refine B_gV (ws := []) (G := G) (K := b_KK) (σ := σ) C E had KK_nd (k := 0) (As := [.int (xs (i + 1))]) (rest := []) cv_X9_85 MX ⟨_, _, _, _, rfl, rfl⟩ (by decide) kX_in (by show hX + 1 ≤ 2048; omega) (by show 8 + (3 + 11) + 64 * hX ≤ 84000; omega) rfl rfl (Nat.le_of_ble_eq_true rfl) ⟨h1, h2⟩ dL_law_673 (fun rv s1 hq => ?_)
  obtain ⟨hM, Q2, r, hle2, rfl, MM, nx2⟩ := nx rv s1 hq
  refine B_weq (ws' := g_wl G b_KK s1) rfl ?_
  refine B_steq (st' := [.int r]) rfl ?_
  refine B_aload C 1 dL_law_676 rfl rfl ?_
  refine B_sc C S (j := 1) (by omega) hL rfl rfl rfl dL_law_677 dL_law_678 dL_law_679 dL_law_680 dL_law_681 ?_
  refine B_gV (ws := []) (G := G) (K := b_KK) (σ := s1) C E had KK_nd (k := 63) (As := [.int (xs (i + 1))]) (rest := [.int r]) cv_X9_88 MM ⟨_, _, _, _, rfl, rfl⟩ (by decide) kM_inK (by show hM + 1 ≤ 2048; omega) (by show 8 + (3 + 11) + 64 * hM ≤ 84000; omega) rfl rfl (Nat.le_of_ble_eq_true rfl) ⟨h1, h2⟩ dL_law_682 (fun rv2 s2 hq2 => ?_)
  obtain ⟨rfl, hiv⟩ := nx2 rv2 s2 hq2
  refine B_weq (ws' := g_wl G b_KK s2) rfl ?_
  refine B_steq (st' := [.int r, .int r]) rfl ?_
  exact B_icmpeq C (tgt := 1173) dL_law_685 (by decide) (fun _ => hx s2 hiv) (fun z => absurd rfl z)
theorem lc_18 {X : gX} {G : gG} {A : Nat → Prop} {ad0 : Nat → Nat} {b Ln : Nat} {xs : Nat → Int32} {mc ms : Nat} {Q : State → Prop} (h : b_lc X G A ad0 b Ln xs mc ms) {i : Nat} {σ : gS} (hi : i + 6 ≤ Ln) (hv : IVx σ) (hx : ∀ s, IVx s → bV X G.2.1 A 4 Q (g_wl G b_KK s) (b_L b i G) [] mc ms 1173) : bV X G.2.1 A 4 Q (g_wl G b_KK σ) (b_L b i G) [] mc ms 690 := by
  obtain ⟨C, E, had, S, hL, h1, h2⟩ := h
  obtain ⟨H, nT, t, TT, bb, n, hv⟩ := hv
  obtain ⟨hX, Q1, hle, MX, nx⟩ := jp_more hv (xs (i + 1)) (xs (i + 2))
  refine B_aload C 2 dL_law_690 rfl rfl ?_
  refine B_sc C S (j := 1) (by omega) hL rfl rfl rfl dL_law_691 dL_law_692 dL_law_693 dL_law_694 dL_law_695 ?_
  refine B_sc C S (j := 2) (by omega) hL rfl rfl rfl dL_law_696 dL_law_697 dL_law_698 dL_law_699 dL_law_700 ?_
  refine B_gV (ws := []) (G := G) (K := b_KK) (σ := σ) C E had KK_nd (k := 0) (As := [.int (xs (i + 1)), .int (xs (i + 2))]) (rest := []) cv_X9_89 MX ⟨_, _, _, _, rfl, rfl⟩ (by decide) kX_in (by show hX + 1 ≤ 2048; omega) (by show 8 + (4 + 11) + 64 * hX ≤ 84000; omega) rfl rfl (Nat.le_of_ble_eq_true rfl) ⟨h1, h2⟩ dL_law_701 (fun rv s1 hq => ?_)
  obtain ⟨hM, Q2, r, hle2, rfl, MM, nx2⟩ := nx rv s1 hq
  refine B_weq (ws' := g_wl G b_KK s1) rfl ?_
  refine B_steq (st' := [.int r]) rfl ?_
  refine B_aload C 1 dL_law_704 rfl rfl ?_
  refine B_sc C S (j := 1) (by omega) hL rfl rfl rfl dL_law_705 dL_law_706 dL_law_707 dL_law_708 dL_law_709 ?_
  refine B_sc C S (j := 2) (by omega) hL rfl rfl rfl dL_law_710 dL_law_711 dL_law_712 dL_law_713 dL_law_714 ?_
  refine B_gV (ws := []) (G := G) (K := b_KK) (σ := s1) C E had KK_nd (k := 63) (As := [.int (xs (i + 1)), .int (xs (i + 2))]) (rest := [.int r]) cv_X9_92 MM ⟨_, _, _, _, rfl, rfl⟩ (by decide) kM_inK (by show hM + 1 ≤ 2048; omega) (by show 8 + (4 + 11) + 64 * hM ≤ 84000; omega) rfl rfl (Nat.le_of_ble_eq_true rfl) ⟨h1, h2⟩ dL_law_715 (fun rv2 s2 hq2 => ?_)
  obtain ⟨rfl, hiv⟩ := nx2 rv2 s2 hq2
  refine B_weq (ws' := g_wl G b_KK s2) rfl ?_
  refine B_steq (st' := [.int r, .int r]) rfl ?_
  exact B_icmpeq C (tgt := 1173) dL_law_718 (by decide) (fun _ => hx s2 hiv) (fun z => absurd rfl z)
theorem lc_19 {X : gX} {G : gG} {A : Nat → Prop} {ad0 : Nat → Nat} {b Ln : Nat} {xs : Nat → Int32} {mc ms : Nat} {Q : State → Prop} (h : b_lc X G A ad0 b Ln xs mc ms) {i : Nat} {σ : gS} (hi : i + 6 ≤ Ln) (hv : IVx σ) (hx : ∀ s, IVx s → bV X G.2.1 A 4 Q (g_wl G b_KK s) (b_L b i G) [] mc ms 1173) : bV X G.2.1 A 4 Q (g_wl G b_KK σ) (b_L b i G) [] mc ms 723 := by
  obtain ⟨C, E, had, S, hL, h1, h2⟩ := h
  obtain ⟨H, nT, t, TT, bb, n, hv⟩ := hv
  obtain ⟨hX, Q1, hle, MX, nx⟩ := jp_sorted hv (xs (i + 1))
  refine B_aload C 2 dL_law_723 rfl rfl ?_
  refine B_sc C S (j := 1) (by omega) hL rfl rfl rfl dL_law_724 dL_law_725 dL_law_726 dL_law_727 dL_law_728 ?_
  refine B_gV (ws := []) (G := G) (K := b_KK) (σ := σ) C E had KK_nd (k := 0) (As := [.int (xs (i + 1))]) (rest := []) cv_X9_93 MX ⟨_, _, _, _, rfl, rfl⟩ (by decide) kX_in (by show hX + 1 ≤ 2048; omega) (by show 8 + (4 + 11) + 64 * hX ≤ 84000; omega) rfl rfl (Nat.le_of_ble_eq_true rfl) ⟨h1, h2⟩ dL_law_729 (fun rv s1 hq => ?_)
  obtain ⟨hM, Q2, r, hle2, rfl, MM, nx2⟩ := nx rv s1 hq
  refine B_weq (ws' := g_wl G b_KK s1) rfl ?_
  refine B_steq (st' := [.int r]) rfl ?_
  refine B_aload C 1 dL_law_732 rfl rfl ?_
  refine B_sc C S (j := 1) (by omega) hL rfl rfl rfl dL_law_733 dL_law_734 dL_law_735 dL_law_736 dL_law_737 ?_
  refine B_gV (ws := []) (G := G) (K := b_KK) (σ := s1) C E had KK_nd (k := 63) (As := [.int (xs (i + 1))]) (rest := [.int r]) cv_X9_96 MM ⟨_, _, _, _, rfl, rfl⟩ (by decide) kM_inK (by show hM + 1 ≤ 2048; omega) (by show 8 + (6 + 11) + 64 * hM ≤ 84000; omega) rfl rfl (Nat.le_of_ble_eq_true rfl) ⟨h1, h2⟩ dL_law_738 (fun rv2 s2 hq2 => ?_)
  obtain ⟨rfl, hiv⟩ := nx2 rv2 s2 hq2
  refine B_weq (ws' := g_wl G b_KK s2) rfl ?_
  refine B_steq (st' := [.int r, .int r]) rfl ?_
  exact B_icmpeq C (tgt := 1173) dL_law_741 (by decide) (fun _ => hx s2 hiv) (fun z => absurd rfl z)
theorem lc_20 {X : gX} {G : gG} {A : Nat → Prop} {ad0 : Nat → Nat} {b Ln : Nat} {xs : Nat → Int32} {mc ms : Nat} {Q : State → Prop} (h : b_lc X G A ad0 b Ln xs mc ms) {i : Nat} {σ : gS} (hi : i + 6 ≤ Ln) (hv : IVx σ) (hx : ∀ s, IVx s → bV X G.2.1 A 4 Q (g_wl G b_KK s) (b_L b i G) [] mc ms 1173) : bV X G.2.1 A 4 Q (g_wl G b_KK σ) (b_L b i G) [] mc ms 746 := by
  obtain ⟨C, E, had, S, hL, h1, h2⟩ := h
  obtain ⟨H, nT, t, TT, bb, n, hv⟩ := hv
  obtain ⟨hX, Q1, hle, MX, nx⟩ := jp_seen hv (xs (i + 1)) (xs (i + 2)) (xs (i + 3))
  refine B_aload C 2 dL_law_746 rfl rfl ?_
  refine B_sc C S (j := 1) (by omega) hL rfl rfl rfl dL_law_747 dL_law_748 dL_law_749 dL_law_750 dL_law_751 ?_
  refine B_sc C S (j := 2) (by omega) hL rfl rfl rfl dL_law_752 dL_law_753 dL_law_754 dL_law_755 dL_law_756 ?_
  refine B_sc C S (j := 3) (by omega) hL rfl rfl rfl dL_law_757 dL_law_758 dL_law_759 dL_law_760 dL_law_761 ?_
  refine B_gV (ws := []) (G := G) (K := b_KK) (σ := σ) C E had KK_nd (k := 0) (As := [.int (xs (i + 1)), .int (xs (i + 2)), .int (xs (i + 3))]) (rest := []) cv_X9_97 MX ⟨_, _, _, _, rfl, rfl⟩ (by decide) kX_in (by show hX + 1 ≤ 2048; omega) (by show 8 + (8 + 11) + 64 * hX ≤ 84000; omega) rfl rfl (Nat.le_of_ble_eq_true rfl) ⟨h1, h2⟩ dL_law_762 (fun rv s1 hq => ?_)
  obtain ⟨hM, Q2, r, hle2, rfl, MM, nx2⟩ := nx rv s1 hq
  refine B_weq (ws' := g_wl G b_KK s1) rfl ?_
  refine B_steq (st' := [.int r]) rfl ?_
  refine B_aload C 1 dL_law_765 rfl rfl ?_
  refine B_sc C S (j := 1) (by omega) hL rfl rfl rfl dL_law_766 dL_law_767 dL_law_768 dL_law_769 dL_law_770 ?_
  refine B_sc C S (j := 2) (by omega) hL rfl rfl rfl dL_law_771 dL_law_772 dL_law_773 dL_law_774 dL_law_775 ?_
  refine B_sc C S (j := 3) (by omega) hL rfl rfl rfl dL_law_776 dL_law_777 dL_law_778 dL_law_779 dL_law_780 ?_
  refine B_gV (ws := []) (G := G) (K := b_KK) (σ := s1) C E had KK_nd (k := 63) (As := [.int (xs (i + 1)), .int (xs (i + 2)), .int (xs (i + 3))]) (rest := [.int r]) cv_X9_100 MM ⟨_, _, _, _, rfl, rfl⟩ (by decide) kM_inK (by show hM + 1 ≤ 2048; omega) (by show 8 + (8 + 11) + 64 * hM ≤ 84000; omega) rfl rfl (Nat.le_of_ble_eq_true rfl) ⟨h1, h2⟩ dL_law_781 (fun rv2 s2 hq2 => ?_)
  obtain ⟨rfl, hiv⟩ := nx2 rv2 s2 hq2
  refine B_weq (ws' := g_wl G b_KK s2) rfl ?_
  refine B_steq (st' := [.int r, .int r]) rfl ?_
  exact B_icmpeq C (tgt := 1173) dL_law_784 (by decide) (fun _ => hx s2 hiv) (fun z => absurd rfl z)
theorem lc_21 {X : gX} {G : gG} {A : Nat → Prop} {ad0 : Nat → Nat} {b Ln : Nat} {xs : Nat → Int32} {mc ms : Nat} {Q : State → Prop} (h : b_lc X G A ad0 b Ln xs mc ms) {i : Nat} {σ : gS} (hi : i + 6 ≤ Ln) (hv : IVx σ) (hx : ∀ s, IVx s → bV X G.2.1 A 4 Q (g_wl G b_KK s) (b_L b i G) [] mc ms 1173) : bV X G.2.1 A 4 Q (g_wl G b_KK σ) (b_L b i G) [] mc ms 789 := by
  obtain ⟨C, E, had, S, hL, h1, h2⟩ := h
  obtain ⟨H, nT, t, TT, bb, n, hv⟩ := hv
  obtain ⟨hX, Q1, hle, MX, nx⟩ := jp_strange hv (xs (i + 1)) (xs (i + 2))
  refine B_aload C 2 dL_law_789 rfl rfl ?_
  refine B_sc C S (j := 1) (by omega) hL rfl rfl rfl dL_law_790 dL_law_791 dL_law_792 dL_law_793 dL_law_794 ?_
  refine B_sc C S (j := 2) (by omega) hL rfl rfl rfl dL_law_795 dL_law_796 dL_law_797 dL_law_798 dL_law_799 ?_
  refine B_gV (ws := []) (G := G) (K := b_KK) (σ := σ) C E had KK_nd (k := 0) (As := [.int (xs (i + 1)), .int (xs (i + 2))]) (rest := []) cv_X9_101 MX ⟨_, _, _, _, rfl, rfl⟩ (by decide) kX_in (by show hX + 1 ≤ 2048; omega) (by show 8 + (6 + 11) + 64 * hX ≤ 84000; omega) rfl rfl (Nat.le_of_ble_eq_true rfl) ⟨h1, h2⟩ dL_law_800 (fun rv s1 hq => ?_)
  obtain ⟨hM, Q2, r, hle2, rfl, MM, nx2⟩ := nx rv s1 hq
  refine B_weq (ws' := g_wl G b_KK s1) rfl ?_
  refine B_steq (st' := [.int r]) rfl ?_
  refine B_aload C 1 dL_law_803 rfl rfl ?_
  refine B_sc C S (j := 1) (by omega) hL rfl rfl rfl dL_law_804 dL_law_805 dL_law_806 dL_law_807 dL_law_808 ?_
  refine B_sc C S (j := 2) (by omega) hL rfl rfl rfl dL_law_809 dL_law_810 dL_law_811 dL_law_812 dL_law_813 ?_
  refine B_gV (ws := []) (G := G) (K := b_KK) (σ := s1) C E had KK_nd (k := 63) (As := [.int (xs (i + 1)), .int (xs (i + 2))]) (rest := [.int r]) cv_X9_104 MM ⟨_, _, _, _, rfl, rfl⟩ (by decide) kM_inK (by show hM + 1 ≤ 2048; omega) (by show 8 + (5 + 11) + 64 * hM ≤ 84000; omega) rfl rfl (Nat.le_of_ble_eq_true rfl) ⟨h1, h2⟩ dL_law_814 (fun rv2 s2 hq2 => ?_)
  obtain ⟨rfl, hiv⟩ := nx2 rv2 s2 hq2
  refine B_weq (ws' := g_wl G b_KK s2) rfl ?_
  refine B_steq (st' := [.int r, .int r]) rfl ?_
  exact B_icmpeq C (tgt := 1173) dL_law_817 (by decide) (fun _ => hx s2 hiv) (fun z => absurd rfl z)
theorem lc_22 {X : gX} {G : gG} {A : Nat → Prop} {ad0 : Nat → Nat} {b Ln : Nat} {xs : Nat → Int32} {mc ms : Nat} {Q : State → Prop} (h : b_lc X G A ad0 b Ln xs mc ms) {i : Nat} {σ : gS} (hi : i + 6 ≤ Ln) (hv : IVx σ) (hx : ∀ s, IVx s → bV X G.2.1 A 4 Q (g_wl G b_KK s) (b_L b i G) [] mc ms 1173) : bV X G.2.1 A 4 Q (g_wl G b_KK σ) (b_L b i G) [] mc ms 822 := by
  obtain ⟨C, E, had, S, hL, h1, h2⟩ := h
  obtain ⟨H, nT, t, TT, bb, n, hv⟩ := hv
  obtain ⟨hX, Q1, hle, MX, nx⟩ := jp_drawn hv (xs (i + 1))
  refine B_aload C 2 dL_law_822 rfl rfl ?_
  refine B_sc C S (j := 1) (by omega) hL rfl rfl rfl dL_law_823 dL_law_824 dL_law_825 dL_law_826 dL_law_827 ?_
  refine B_gV (ws := []) (G := G) (K := b_KK) (σ := σ) C E had KK_nd (k := 0) (As := [.int (xs (i + 1))]) (rest := []) cv_X9_105 MX ⟨_, _, _, _, rfl, rfl⟩ (by decide) kX_in (by show hX + 1 ≤ 2048; omega) (by show 8 + (2 + 11) + 64 * hX ≤ 84000; omega) rfl rfl (Nat.le_of_ble_eq_true rfl) ⟨h1, h2⟩ dL_law_828 (fun rv s1 hq => ?_)
  obtain ⟨hM, Q2, r, hle2, rfl, MM, nx2⟩ := nx rv s1 hq
  refine B_weq (ws' := g_wl G b_KK s1) rfl ?_
  refine B_steq (st' := [.int r]) rfl ?_
  refine B_aload C 1 dL_law_831 rfl rfl ?_
  refine B_sc C S (j := 1) (by omega) hL rfl rfl rfl dL_law_832 dL_law_833 dL_law_834 dL_law_835 dL_law_836 ?_
  refine B_gV (ws := []) (G := G) (K := b_KK) (σ := s1) C E had KK_nd (k := 63) (As := [.int (xs (i + 1))]) (rest := [.int r]) cv_X9_108 MM ⟨_, _, _, _, rfl, rfl⟩ (by decide) kM_inK (by show hM + 1 ≤ 2048; omega) (by show 8 + (2 + 11) + 64 * hM ≤ 84000; omega) rfl rfl (Nat.le_of_ble_eq_true rfl) ⟨h1, h2⟩ dL_law_837 (fun rv2 s2 hq2 => ?_)
  obtain ⟨rfl, hiv⟩ := nx2 rv2 s2 hq2
  refine B_weq (ws' := g_wl G b_KK s2) rfl ?_
  refine B_steq (st' := [.int r, .int r]) rfl ?_
  exact B_icmpeq C (tgt := 1173) dL_law_840 (by decide) (fun _ => hx s2 hiv) (fun z => absurd rfl z)
theorem lc_23 {X : gX} {G : gG} {A : Nat → Prop} {ad0 : Nat → Nat} {b Ln : Nat} {xs : Nat → Int32} {mc ms : Nat} {Q : State → Prop} (h : b_lc X G A ad0 b Ln xs mc ms) {i : Nat} {σ : gS} (hi : i + 6 ≤ Ln) (hv : IVx σ) (hx : ∀ s, IVx s → bV X G.2.1 A 4 Q (g_wl G b_KK s) (b_L b i G) [] mc ms 1173) : bV X G.2.1 A 4 Q (g_wl G b_KK σ) (b_L b i G) [] mc ms 845 := by
  obtain ⟨C, E, had, S, hL, h1, h2⟩ := h
  obtain ⟨H, nT, t, TT, bb, n, hv⟩ := hv
  obtain ⟨hX, Q1, hle, MX, nx⟩ := jp_chance hv (xs (i + 1)) (xs (i + 2)) (xs (i + 3))
  refine B_aload C 2 dL_law_845 rfl rfl ?_
  refine B_sc C S (j := 1) (by omega) hL rfl rfl rfl dL_law_846 dL_law_847 dL_law_848 dL_law_849 dL_law_850 ?_
  refine B_sc C S (j := 2) (by omega) hL rfl rfl rfl dL_law_851 dL_law_852 dL_law_853 dL_law_854 dL_law_855 ?_
  refine B_sc C S (j := 3) (by omega) hL rfl rfl rfl dL_law_856 dL_law_857 dL_law_858 dL_law_859 dL_law_860 ?_
  refine B_gV (ws := []) (G := G) (K := b_KK) (σ := σ) C E had KK_nd (k := 0) (As := [.int (xs (i + 1)), .int (xs (i + 2)), .int (xs (i + 3))]) (rest := []) cv_X9_109 MX ⟨_, _, _, _, rfl, rfl⟩ (by decide) kX_in (by show hX + 1 ≤ 2048; omega) (by show 8 + (6 + 11) + 64 * hX ≤ 84000; omega) rfl rfl (Nat.le_of_ble_eq_true rfl) ⟨h1, h2⟩ dL_law_861 (fun rv s1 hq => ?_)
  obtain ⟨hM, Q2, r, hle2, rfl, MM, nx2⟩ := nx rv s1 hq
  refine B_weq (ws' := g_wl G b_KK s1) rfl ?_
  refine B_steq (st' := [.long r]) rfl ?_
  refine B_aload C 1 dL_law_864 rfl rfl ?_
  refine B_sc C S (j := 1) (by omega) hL rfl rfl rfl dL_law_865 dL_law_866 dL_law_867 dL_law_868 dL_law_869 ?_
  refine B_sc C S (j := 2) (by omega) hL rfl rfl rfl dL_law_870 dL_law_871 dL_law_872 dL_law_873 dL_law_874 ?_
  refine B_sc C S (j := 3) (by omega) hL rfl rfl rfl dL_law_875 dL_law_876 dL_law_877 dL_law_878 dL_law_879 ?_
  refine B_gV (ws := []) (G := G) (K := b_KK) (σ := s1) C E had KK_nd (k := 63) (As := [.int (xs (i + 1)), .int (xs (i + 2)), .int (xs (i + 3))]) (rest := [.long r]) cv_X9_113 MM ⟨_, _, _, _, rfl, rfl⟩ (by decide) kM_inK (by show hM + 1 ≤ 2048; omega) (by show 8 + (12 + 11) + 64 * hM ≤ 84000; omega) rfl rfl (Nat.le_of_ble_eq_true rfl) ⟨h1, h2⟩ dL_law_880 (fun rv2 s2 hq2 => ?_)
  obtain ⟨rfl, hiv⟩ := nx2 rv2 s2 hq2
  refine B_weq (ws' := g_wl G b_KK s2) rfl ?_
  refine B_steq (st' := [.long r, .long r]) rfl ?_
  refine B_lcmp C dL_law_883 ?_
  exact B_ifeq C (tgt := 1173) dL_law_884 (by decide) (fun _ => hx s2 hiv) (fun z => absurd (lg_cmp_rfl r) z)
theorem lc_24 {X : gX} {G : gG} {A : Nat → Prop} {ad0 : Nat → Nat} {b Ln : Nat} {xs : Nat → Int32} {mc ms : Nat} {Q : State → Prop} (h : b_lc X G A ad0 b Ln xs mc ms) {i : Nat} {σ : gS} (hi : i + 6 ≤ Ln) (hv : IVx σ) (hx : ∀ s, IVx s → bV X G.2.1 A 4 Q (g_wl G b_KK s) (b_L b i G) [] mc ms 1173) : bV X G.2.1 A 4 Q (g_wl G b_KK σ) (b_L b i G) [] mc ms 889 := by
  obtain ⟨C, E, had, S, hL, h1, h2⟩ := h
  obtain ⟨H, nT, t, TT, bb, n, hv⟩ := hv
  obtain ⟨hX, Q1, hle, MX, nx⟩ := jp_image hv 
  refine B_aload C 2 dL_law_889 rfl rfl ?_
  refine B_gV (ws := []) (G := G) (K := b_KK) (σ := σ) C E had KK_nd (k := 0) (As := []) (rest := []) cv_X9_114 MX ⟨_, _, _, _, rfl, rfl⟩ (by decide) kX_in (by show hX + 1 ≤ 2048; omega) (by show 8 + (1 + 11) + 64 * hX ≤ 84000; omega) rfl rfl (Nat.le_of_ble_eq_true rfl) ⟨h1, h2⟩ dL_law_890 (fun rv s1 hq => ?_)
  obtain ⟨hM, Q2, r, hle2, rfl, MM, nx2⟩ := nx rv s1 hq
  refine B_weq (ws' := g_wl G b_KK s1) rfl ?_
  refine B_steq (st' := [.int r]) rfl ?_
  refine B_aload C 1 dL_law_893 rfl rfl ?_
  refine B_gV (ws := []) (G := G) (K := b_KK) (σ := s1) C E had KK_nd (k := 63) (As := []) (rest := [.int r]) cv_X9_117 MM ⟨_, _, _, _, rfl, rfl⟩ (by decide) kM_inK (by show hM + 1 ≤ 2048; omega) (by show 8 + (2 + 11) + 64 * hM ≤ 84000; omega) rfl rfl (Nat.le_of_ble_eq_true rfl) ⟨h1, h2⟩ dL_law_894 (fun rv2 s2 hq2 => ?_)
  obtain ⟨rfl, hiv⟩ := nx2 rv2 s2 hq2
  refine B_weq (ws' := g_wl G b_KK s2) rfl ?_
  refine B_steq (st' := [.int r, .int r]) rfl ?_
  exact B_icmpeq C (tgt := 1173) dL_law_897 (by decide) (fun _ => hx s2 hiv) (fun z => absurd rfl z)
theorem lc_25 {X : gX} {G : gG} {A : Nat → Prop} {ad0 : Nat → Nat} {b Ln : Nat} {xs : Nat → Int32} {mc ms : Nat} {Q : State → Prop} (h : b_lc X G A ad0 b Ln xs mc ms) {i : Nat} {σ : gS} (hi : i + 6 ≤ Ln) (hv : IVx σ) (hx : ∀ s, IVx s → bV X G.2.1 A 4 Q (g_wl G b_KK s) (b_L b i G) [] mc ms 1173) : bV X G.2.1 A 4 Q (g_wl G b_KK σ) (b_L b i G) [] mc ms 902 := by
  obtain ⟨C, E, had, S, hL, h1, h2⟩ := h
  obtain ⟨H, nT, t, TT, bb, n, hv⟩ := hv
  obtain ⟨hX, Q1, hle, MX, nx⟩ := jp_back hv 
  refine B_aload C 2 dL_law_902 rfl rfl ?_
  refine B_gV (ws := []) (G := G) (K := b_KK) (σ := σ) C E had KK_nd (k := 0) (As := []) (rest := []) cv_X9_118 MX ⟨_, _, _, _, rfl, rfl⟩ (by decide) kX_in (by show hX + 1 ≤ 2048; omega) (by show 8 + (1 + 11) + 64 * hX ≤ 84000; omega) rfl rfl (Nat.le_of_ble_eq_true rfl) ⟨h1, h2⟩ dL_law_903 (fun rv s1 hq => ?_)
  obtain ⟨hM, Q2, r, hle2, rfl, MM, nx2⟩ := nx rv s1 hq
  refine B_weq (ws' := g_wl G b_KK s1) rfl ?_
  refine B_steq (st' := [.int r]) rfl ?_
  refine B_aload C 1 dL_law_906 rfl rfl ?_
  refine B_gV (ws := []) (G := G) (K := b_KK) (σ := s1) C E had KK_nd (k := 63) (As := []) (rest := [.int r]) cv_X9_121 MM ⟨_, _, _, _, rfl, rfl⟩ (by decide) kM_inK (by show hM + 1 ≤ 2048; omega) (by show 8 + (2 + 11) + 64 * hM ≤ 84000; omega) rfl rfl (Nat.le_of_ble_eq_true rfl) ⟨h1, h2⟩ dL_law_907 (fun rv2 s2 hq2 => ?_)
  obtain ⟨rfl, hiv⟩ := nx2 rv2 s2 hq2
  refine B_weq (ws' := g_wl G b_KK s2) rfl ?_
  refine B_steq (st' := [.int r, .int r]) rfl ?_
  exact B_icmpeq C (tgt := 1173) dL_law_910 (by decide) (fun _ => hx s2 hiv) (fun z => absurd rfl z)
theorem lc_26 {X : gX} {G : gG} {A : Nat → Prop} {ad0 : Nat → Nat} {b Ln : Nat} {xs : Nat → Int32} {mc ms : Nat} {Q : State → Prop} (h : b_lc X G A ad0 b Ln xs mc ms) {i : Nat} {σ : gS} (hi : i + 6 ≤ Ln) (hv : IVx σ) (hx : ∀ s, IVx s → bV X G.2.1 A 4 Q (g_wl G b_KK s) (b_L b i G) [] mc ms 1173) : bV X G.2.1 A 4 Q (g_wl G b_KK σ) (b_L b i G) [] mc ms 915 := by
  obtain ⟨C, E, had, S, hL, h1, h2⟩ := h
  obtain ⟨H, nT, t, TT, bb, n, hv⟩ := hv
  obtain ⟨hX, Q1, hle, MX, nx⟩ := jp_count hv (xs (i + 1))
  refine B_aload C 2 dL_law_915 rfl rfl ?_
  refine B_sc C S (j := 1) (by omega) hL rfl rfl rfl dL_law_916 dL_law_917 dL_law_918 dL_law_919 dL_law_920 ?_
  refine B_gV (ws := []) (G := G) (K := b_KK) (σ := σ) C E had KK_nd (k := 0) (As := [.int (xs (i + 1))]) (rest := []) cv_X9_122 MX ⟨_, _, _, _, rfl, rfl⟩ (by decide) kX_in (by show hX + 1 ≤ 2048; omega) (by show 8 + (2 + 11) + 64 * hX ≤ 84000; omega) rfl rfl (Nat.le_of_ble_eq_true rfl) ⟨h1, h2⟩ dL_law_921 (fun rv s1 hq => ?_)
  obtain ⟨hM, Q2, r, hle2, rfl, MM, nx2⟩ := nx rv s1 hq
  refine B_weq (ws' := g_wl G b_KK s1) rfl ?_
  refine B_steq (st' := [.int r]) rfl ?_
  refine B_aload C 1 dL_law_924 rfl rfl ?_
  refine B_sc C S (j := 1) (by omega) hL rfl rfl rfl dL_law_925 dL_law_926 dL_law_927 dL_law_928 dL_law_929 ?_
  refine B_gV (ws := []) (G := G) (K := b_KK) (σ := s1) C E had KK_nd (k := 63) (As := [.int (xs (i + 1))]) (rest := [.int r]) cv_X9_125 MM ⟨_, _, _, _, rfl, rfl⟩ (by decide) kM_inK (by show hM + 1 ≤ 2048; omega) (by show 8 + (4 + 11) + 64 * hM ≤ 84000; omega) rfl rfl (Nat.le_of_ble_eq_true rfl) ⟨h1, h2⟩ dL_law_930 (fun rv2 s2 hq2 => ?_)
  obtain ⟨rfl, hiv⟩ := nx2 rv2 s2 hq2
  refine B_weq (ws' := g_wl G b_KK s2) rfl ?_
  refine B_steq (st' := [.int r, .int r]) rfl ?_
  exact B_icmpeq C (tgt := 1173) dL_law_933 (by decide) (fun _ => hx s2 hiv) (fun z => absurd rfl z)
theorem lc_27 {X : gX} {G : gG} {A : Nat → Prop} {ad0 : Nat → Nat} {b Ln : Nat} {xs : Nat → Int32} {mc ms : Nat} {Q : State → Prop} (h : b_lc X G A ad0 b Ln xs mc ms) {i : Nat} {σ : gS} (hi : i + 6 ≤ Ln) (hv : IVx σ) (hx : ∀ s, IVx s → bV X G.2.1 A 4 Q (g_wl G b_KK s) (b_L b i G) [] mc ms 1173) : bV X G.2.1 A 4 Q (g_wl G b_KK σ) (b_L b i G) [] mc ms 938 := by
  obtain ⟨C, E, had, S, hL, h1, h2⟩ := h
  obtain ⟨H, nT, t, TT, bb, n, hv⟩ := hv
  obtain ⟨hX, Q1, hle, MX, nx⟩ := jp_sheet hv (xs (i + 1)) (xs (i + 2)) (xs (i + 3))
  refine B_aload C 2 dL_law_938 rfl rfl ?_
  refine B_sc C S (j := 1) (by omega) hL rfl rfl rfl dL_law_939 dL_law_940 dL_law_941 dL_law_942 dL_law_943 ?_
  refine B_sc C S (j := 2) (by omega) hL rfl rfl rfl dL_law_944 dL_law_945 dL_law_946 dL_law_947 dL_law_948 ?_
  refine B_sc C S (j := 3) (by omega) hL rfl rfl rfl dL_law_949 dL_law_950 dL_law_951 dL_law_952 dL_law_953 ?_
  refine B_gV (ws := []) (G := G) (K := b_KK) (σ := σ) C E had KK_nd (k := 0) (As := [.int (xs (i + 1)), .int (xs (i + 2)), .int (xs (i + 3))]) (rest := []) cv_X9_126 MX ⟨_, _, _, _, rfl, rfl⟩ (by decide) kX_in (by show hX + 1 ≤ 2048; omega) (by show 8 + (4 + 11) + 64 * hX ≤ 84000; omega) rfl rfl (Nat.le_of_ble_eq_true rfl) ⟨h1, h2⟩ dL_law_954 (fun rv s1 hq => ?_)
  obtain ⟨hM, Q2, r, hle2, rfl, MM, nx2⟩ := nx rv s1 hq
  refine B_weq (ws' := g_wl G b_KK s1) rfl ?_
  refine B_steq (st' := [.int r]) rfl ?_
  refine B_aload C 1 dL_law_957 rfl rfl ?_
  refine B_sc C S (j := 1) (by omega) hL rfl rfl rfl dL_law_958 dL_law_959 dL_law_960 dL_law_961 dL_law_962 ?_
  refine B_sc C S (j := 2) (by omega) hL rfl rfl rfl dL_law_963 dL_law_964 dL_law_965 dL_law_966 dL_law_967 ?_
  refine B_sc C S (j := 3) (by omega) hL rfl rfl rfl dL_law_968 dL_law_969 dL_law_970 dL_law_971 dL_law_972 ?_
  refine B_gV (ws := []) (G := G) (K := b_KK) (σ := s1) C E had KK_nd (k := 63) (As := [.int (xs (i + 1)), .int (xs (i + 2)), .int (xs (i + 3))]) (rest := [.int r]) cv_X9_129 MM ⟨_, _, _, _, rfl, rfl⟩ (by decide) kM_inK (by show hM + 1 ≤ 2048; omega) (by show 8 + (5 + 11) + 64 * hM ≤ 84000; omega) rfl rfl (Nat.le_of_ble_eq_true rfl) ⟨h1, h2⟩ dL_law_973 (fun rv2 s2 hq2 => ?_)
  obtain ⟨rfl, hiv⟩ := nx2 rv2 s2 hq2
  refine B_weq (ws' := g_wl G b_KK s2) rfl ?_
  refine B_steq (st' := [.int r, .int r]) rfl ?_
  exact B_icmpeq C (tgt := 1173) dL_law_976 (by decide) (fun _ => hx s2 hiv) (fun z => absurd rfl z)
theorem lc_28 {X : gX} {G : gG} {A : Nat → Prop} {ad0 : Nat → Nat} {b Ln : Nat} {xs : Nat → Int32} {mc ms : Nat} {Q : State → Prop} (h : b_lc X G A ad0 b Ln xs mc ms) {i : Nat} {σ : gS} (hi : i + 6 ≤ Ln) (hv : IVx σ) (hx : ∀ s, IVx s → bV X G.2.1 A 4 Q (g_wl G b_KK s) (b_L b i G) [] mc ms 1173) : bV X G.2.1 A 4 Q (g_wl G b_KK σ) (b_L b i G) [] mc ms 981 := by
  obtain ⟨C, E, had, S, hL, h1, h2⟩ := h
  obtain ⟨H, nT, t, TT, bb, n, hv⟩ := hv
  obtain ⟨hX, Q1, hle, MX, nx⟩ := jp_cell hv (xs (i + 1)) (xs (i + 2)) (xs (i + 3))
  refine B_aload C 2 dL_law_981 rfl rfl ?_
  refine B_sc C S (j := 1) (by omega) hL rfl rfl rfl dL_law_982 dL_law_983 dL_law_984 dL_law_985 dL_law_986 ?_
  refine B_sc C S (j := 2) (by omega) hL rfl rfl rfl dL_law_987 dL_law_988 dL_law_989 dL_law_990 dL_law_991 ?_
  refine B_sc C S (j := 3) (by omega) hL rfl rfl rfl dL_law_992 dL_law_993 dL_law_994 dL_law_995 dL_law_996 ?_
  refine B_gV (ws := []) (G := G) (K := b_KK) (σ := σ) C E had KK_nd (k := 0) (As := [.int (xs (i + 1)), .int (xs (i + 2)), .int (xs (i + 3))]) (rest := []) cv_X9_130 MX ⟨_, _, _, _, rfl, rfl⟩ (by decide) kX_in (by show hX + 1 ≤ 2048; omega) (by show 8 + (4 + 11) + 64 * hX ≤ 84000; omega) rfl rfl (Nat.le_of_ble_eq_true rfl) ⟨h1, h2⟩ dL_law_997 (fun rv s1 hq => ?_)
  obtain ⟨hM, Q2, r, hle2, rfl, MM, nx2⟩ := nx rv s1 hq
  refine B_weq (ws' := g_wl G b_KK s1) rfl ?_
  refine B_steq (st' := [.int r]) rfl ?_
  refine B_aload C 1 dL_law_1000 rfl rfl ?_
  refine B_sc C S (j := 1) (by omega) hL rfl rfl rfl dL_law_1001 dL_law_1002 dL_law_1003 dL_law_1004 dL_law_1005 ?_
  refine B_sc C S (j := 2) (by omega) hL rfl rfl rfl dL_law_1006 dL_law_1007 dL_law_1008 dL_law_1009 dL_law_1010 ?_
  refine B_sc C S (j := 3) (by omega) hL rfl rfl rfl dL_law_1011 dL_law_1012 dL_law_1013 dL_law_1014 dL_law_1015 ?_
  refine B_gV (ws := []) (G := G) (K := b_KK) (σ := s1) C E had KK_nd (k := 63) (As := [.int (xs (i + 1)), .int (xs (i + 2)), .int (xs (i + 3))]) (rest := [.int r]) cv_X9_133 MM ⟨_, _, _, _, rfl, rfl⟩ (by decide) kM_inK (by show hM + 1 ≤ 2048; omega) (by show 8 + (4 + 11) + 64 * hM ≤ 84000; omega) rfl rfl (Nat.le_of_ble_eq_true rfl) ⟨h1, h2⟩ dL_law_1016 (fun rv2 s2 hq2 => ?_)
  obtain ⟨rfl, hiv⟩ := nx2 rv2 s2 hq2
  refine B_weq (ws' := g_wl G b_KK s2) rfl ?_
  refine B_steq (st' := [.int r, .int r]) rfl ?_
  exact B_icmpeq C (tgt := 1173) dL_law_1019 (by decide) (fun _ => hx s2 hiv) (fun z => absurd rfl z)
theorem lc_29 {X : gX} {G : gG} {A : Nat → Prop} {ad0 : Nat → Nat} {b Ln : Nat} {xs : Nat → Int32} {mc ms : Nat} {Q : State → Prop} (h : b_lc X G A ad0 b Ln xs mc ms) {i : Nat} {σ : gS} (hi : i + 6 ≤ Ln) (hv : IVx σ) (hx : ∀ s, IVx s → bV X G.2.1 A 4 Q (g_wl G b_KK s) (b_L b i G) [] mc ms 1173) : bV X G.2.1 A 4 Q (g_wl G b_KK σ) (b_L b i G) [] mc ms 1024 := by
  obtain ⟨C, E, had, S, hL, h1, h2⟩ := h
  obtain ⟨H, nT, t, TT, bb, n, hv⟩ := hv
  obtain ⟨hX, Q1, hle, MX, nx⟩ := jp_copy hv (xs (i + 1)) (xs (i + 2)) (xs (i + 3)) (xs (i + 4)) (xs (i + 5))
  refine B_aload C 2 dL_law_1024 rfl rfl ?_
  refine B_sc C S (j := 1) (by omega) hL rfl rfl rfl dL_law_1025 dL_law_1026 dL_law_1027 dL_law_1028 dL_law_1029 ?_
  refine B_sc C S (j := 2) (by omega) hL rfl rfl rfl dL_law_1030 dL_law_1031 dL_law_1032 dL_law_1033 dL_law_1034 ?_
  refine B_sc C S (j := 3) (by omega) hL rfl rfl rfl dL_law_1035 dL_law_1036 dL_law_1037 dL_law_1038 dL_law_1039 ?_
  refine B_sc C S (j := 4) (by omega) hL rfl rfl rfl dL_law_1040 dL_law_1041 dL_law_1042 dL_law_1043 dL_law_1044 ?_
  refine B_sc C S (j := 5) (by omega) hL rfl rfl rfl dL_law_1045 dL_law_1046 dL_law_1047 dL_law_1048 dL_law_1049 ?_
  refine B_gV (ws := []) (G := G) (K := b_KK) (σ := σ) C E had KK_nd (k := 0) (As := [.int (xs (i + 1)), .int (xs (i + 2)), .int (xs (i + 3)), .int (xs (i + 4)), .int (xs (i + 5))]) (rest := []) cv_X9_134 MX ⟨_, _, _, _, rfl, rfl⟩ (by decide) kX_in (by show hX + 1 ≤ 2048; omega) (by show 8 + (8 + 11) + 64 * hX ≤ 84000; omega) rfl rfl (Nat.le_of_ble_eq_true rfl) ⟨h1, h2⟩ dL_law_1050 (fun rv s1 hq => ?_)
  obtain ⟨hM, Q2, r, hle2, rfl, MM, nx2⟩ := nx rv s1 hq
  refine B_weq (ws' := g_wl G b_KK s1) rfl ?_
  refine B_steq (st' := [.int r]) rfl ?_
  refine B_aload C 1 dL_law_1053 rfl rfl ?_
  refine B_sc C S (j := 1) (by omega) hL rfl rfl rfl dL_law_1054 dL_law_1055 dL_law_1056 dL_law_1057 dL_law_1058 ?_
  refine B_sc C S (j := 2) (by omega) hL rfl rfl rfl dL_law_1059 dL_law_1060 dL_law_1061 dL_law_1062 dL_law_1063 ?_
  refine B_sc C S (j := 3) (by omega) hL rfl rfl rfl dL_law_1064 dL_law_1065 dL_law_1066 dL_law_1067 dL_law_1068 ?_
  refine B_sc C S (j := 4) (by omega) hL rfl rfl rfl dL_law_1069 dL_law_1070 dL_law_1071 dL_law_1072 dL_law_1073 ?_
  refine B_sc C S (j := 5) (by omega) hL rfl rfl rfl dL_law_1074 dL_law_1075 dL_law_1076 dL_law_1077 dL_law_1078 ?_
  refine B_gV (ws := []) (G := G) (K := b_KK) (σ := s1) C E had KK_nd (k := 63) (As := [.int (xs (i + 1)), .int (xs (i + 2)), .int (xs (i + 3)), .int (xs (i + 4)), .int (xs (i + 5))]) (rest := [.int r]) cv_X9_138 MM ⟨_, _, _, _, rfl, rfl⟩ (by decide) kM_inK (by show hM + 1 ≤ 2048; omega) (by show 8 + (9 + 11) + 64 * hM ≤ 84000; omega) rfl rfl (Nat.le_of_ble_eq_true rfl) ⟨h1, h2⟩ dL_law_1079 (fun rv2 s2 hq2 => ?_)
  obtain ⟨rfl, hiv⟩ := nx2 rv2 s2 hq2
  refine B_weq (ws' := g_wl G b_KK s2) rfl ?_
  refine B_steq (st' := [.int r, .int r]) rfl ?_
  exact B_icmpeq C (tgt := 1173) dL_law_1082 (by decide) (fun _ => hx s2 hiv) (fun z => absurd rfl z)
theorem lc_30 {X : gX} {G : gG} {A : Nat → Prop} {ad0 : Nat → Nat} {b Ln : Nat} {xs : Nat → Int32} {mc ms : Nat} {Q : State → Prop} (h : b_lc X G A ad0 b Ln xs mc ms) {i : Nat} {σ : gS} (hi : i + 6 ≤ Ln) (hv : IVx σ) (hx : ∀ s, IVx s → bV X G.2.1 A 4 Q (g_wl G b_KK s) (b_L b i G) [] mc ms 1173) : bV X G.2.1 A 4 Q (g_wl G b_KK σ) (b_L b i G) [] mc ms 1087 := by
  obtain ⟨C, E, had, S, hL, h1, h2⟩ := h
  obtain ⟨H, nT, t, TT, bb, n, hv⟩ := hv
  obtain ⟨hX, Q1, hle, MX, nx⟩ := jp_rains hv (xs (i + 1)) (xs (i + 2)) (xs (i + 3)) (xs (i + 4))
  refine B_aload C 2 dL_law_1087 rfl rfl ?_
  refine B_sc C S (j := 1) (by omega) hL rfl rfl rfl dL_law_1088 dL_law_1089 dL_law_1090 dL_law_1091 dL_law_1092 ?_
  refine B_sc C S (j := 2) (by omega) hL rfl rfl rfl dL_law_1093 dL_law_1094 dL_law_1095 dL_law_1096 dL_law_1097 ?_
  refine B_sc C S (j := 3) (by omega) hL rfl rfl rfl dL_law_1098 dL_law_1099 dL_law_1100 dL_law_1101 dL_law_1102 ?_
  refine B_sc C S (j := 4) (by omega) hL rfl rfl rfl dL_law_1103 dL_law_1104 dL_law_1105 dL_law_1106 dL_law_1107 ?_
  refine B_gV (ws := []) (G := G) (K := b_KK) (σ := σ) C E had KK_nd (k := 0) (As := [.int (xs (i + 1)), .int (xs (i + 2)), .int (xs (i + 3)), .int (xs (i + 4))]) (rest := []) cv_X9_139 MX ⟨_, _, _, _, rfl, rfl⟩ (by decide) kX_in (by show hX + 1 ≤ 2048; omega) (by show 8 + (6 + 11) + 64 * hX ≤ 84000; omega) rfl rfl (Nat.le_of_ble_eq_true rfl) ⟨h1, h2⟩ dL_law_1108 (fun rv s1 hq => ?_)
  obtain ⟨hM, Q2, r, hle2, rfl, MM, nx2⟩ := nx rv s1 hq
  refine B_weq (ws' := g_wl G b_KK s1) rfl ?_
  refine B_steq (st' := [.int r]) rfl ?_
  refine B_aload C 1 dL_law_1111 rfl rfl ?_
  refine B_sc C S (j := 1) (by omega) hL rfl rfl rfl dL_law_1112 dL_law_1113 dL_law_1114 dL_law_1115 dL_law_1116 ?_
  refine B_sc C S (j := 2) (by omega) hL rfl rfl rfl dL_law_1117 dL_law_1118 dL_law_1119 dL_law_1120 dL_law_1121 ?_
  refine B_sc C S (j := 3) (by omega) hL rfl rfl rfl dL_law_1122 dL_law_1123 dL_law_1124 dL_law_1125 dL_law_1126 ?_
  refine B_sc C S (j := 4) (by omega) hL rfl rfl rfl dL_law_1127 dL_law_1128 dL_law_1129 dL_law_1130 dL_law_1131 ?_
  refine B_gV (ws := []) (G := G) (K := b_KK) (σ := s1) C E had KK_nd (k := 63) (As := [.int (xs (i + 1)), .int (xs (i + 2)), .int (xs (i + 3)), .int (xs (i + 4))]) (rest := [.int r]) cv_X9_143 MM ⟨_, _, _, _, rfl, rfl⟩ (by decide) kM_inK (by show hM + 1 ≤ 2048; omega) (by show 8 + (8 + 11) + 64 * hM ≤ 84000; omega) rfl rfl (Nat.le_of_ble_eq_true rfl) ⟨h1, h2⟩ dL_law_1132 (fun rv2 s2 hq2 => ?_)
  obtain ⟨rfl, hiv⟩ := nx2 rv2 s2 hq2
  refine B_weq (ws' := g_wl G b_KK s2) rfl ?_
  refine B_steq (st' := [.int r, .int r]) rfl ?_
  exact B_icmpeq C (tgt := 1173) dL_law_1135 (by decide) (fun _ => hx s2 hiv) (fun z => absurd rfl z)
theorem lc_31 {X : gX} {G : gG} {A : Nat → Prop} {ad0 : Nat → Nat} {b Ln : Nat} {xs : Nat → Int32} {mc ms : Nat} {Q : State → Prop} (h : b_lc X G A ad0 b Ln xs mc ms) {i : Nat} {σ : gS} (hi : i + 6 ≤ Ln) (hv : IVx σ) (hx : ∀ s, IVx s → bV X G.2.1 A 4 Q (g_wl G b_KK s) (b_L b i G) [] mc ms 1173) : bV X G.2.1 A 4 Q (g_wl G b_KK σ) (b_L b i G) [] mc ms 1140 := by
  obtain ⟨C, E, had, S, hL, h1, h2⟩ := h
  obtain ⟨H, nT, t, TT, bb, n, hv⟩ := hv
  obtain ⟨hX, Q1, hle, MX, nx⟩ := jp_taken hv (xs (i + 1)) (xs (i + 2))
  refine B_aload C 2 dL_law_1140 rfl rfl ?_
  refine B_sc C S (j := 1) (by omega) hL rfl rfl rfl dL_law_1141 dL_law_1142 dL_law_1143 dL_law_1144 dL_law_1145 ?_
  refine B_sc C S (j := 2) (by omega) hL rfl rfl rfl dL_law_1146 dL_law_1147 dL_law_1148 dL_law_1149 dL_law_1150 ?_
  refine B_gV (ws := []) (G := G) (K := b_KK) (σ := σ) C E had KK_nd (k := 0) (As := [.int (xs (i + 1)), .int (xs (i + 2))]) (rest := []) cv_X9_144 MX ⟨_, _, _, _, rfl, rfl⟩ (by decide) kX_in (by show hX + 1 ≤ 2048; omega) (by show 8 + (3 + 11) + 64 * hX ≤ 84000; omega) rfl rfl (Nat.le_of_ble_eq_true rfl) ⟨h1, h2⟩ dL_law_1151 (fun rv s1 hq => ?_)
  obtain ⟨hM, Q2, r, hle2, rfl, MM, nx2⟩ := nx rv s1 hq
  refine B_weq (ws' := g_wl G b_KK s1) rfl ?_
  refine B_steq (st' := [.int r]) rfl ?_
  refine B_aload C 1 dL_law_1154 rfl rfl ?_
  refine B_sc C S (j := 1) (by omega) hL rfl rfl rfl dL_law_1155 dL_law_1156 dL_law_1157 dL_law_1158 dL_law_1159 ?_
  refine B_sc C S (j := 2) (by omega) hL rfl rfl rfl dL_law_1160 dL_law_1161 dL_law_1162 dL_law_1163 dL_law_1164 ?_
  refine B_gV (ws := []) (G := G) (K := b_KK) (σ := s1) C E had KK_nd (k := 63) (As := [.int (xs (i + 1)), .int (xs (i + 2))]) (rest := [.int r]) cv_X9_147 MM ⟨_, _, _, _, rfl, rfl⟩ (by decide) kM_inK (by show hM + 1 ≤ 2048; omega) (by show 8 + (4 + 11) + 64 * hM ≤ 84000; omega) rfl rfl (Nat.le_of_ble_eq_true rfl) ⟨h1, h2⟩ dL_law_1165 (fun rv2 s2 hq2 => ?_)
  obtain ⟨rfl, hiv⟩ := nx2 rv2 s2 hq2
  refine B_weq (ws' := g_wl G b_KK s2) rfl ?_
  refine B_steq (st' := [.int r, .int r]) rfl ?_
  exact B_icmpeq C (tgt := 1173) dL_law_1168 (by decide) (fun _ => hx s2 hiv) (fun z => absurd rfl z)
set_option maxHeartbeats 4000000 in
theorem law_loop {X : gX} {G : gG} {A : Nat → Prop} {ad0 : Nat → Nat} {b Ln : Nat} {xs : Nat → Int32} {mc ms : Nat} {Q : State → Prop} (h : b_lc X G A ad0 b Ln xs mc ms) (hend : ∀ (i : Nat) (σ : gS), bV X G.2.1 A 4 Q (g_wl G b_KK σ) (b_L b i G) [] mc ms 1179) : ∀ (n i : Nat) (σ : gS), Ln + 1 ≤ i + n → i ≤ 4000 → IVx σ → bV X G.2.1 A 4 Q (g_wl G b_KK σ) (b_L b i G) [] mc ms 18 := by
  have h0 := h
  obtain ⟨C, E, had, S, hL, h1, h2⟩ := h0
  have e6 : (nI Ln - 6).toInt = (Ln : Int) - 6 := by
    have : nI Ln - 6 = nI Ln - nI 6 := rfl
    rw [this, pk_sub_toInt (by omega) (by omega)]
    rfl
  intro n
  induction n with
  | zero =>
    intro i σ hi h4 hv
    refine B_iload C 0 dL_law_18 rfl rfl ?_
    refine B_aload C 3 dL_law_19 rfl rfl ?_
    refine B_slen C S dL_law_20 ?_
    refine B_bipush C (v := 6) dL_law_21 rfl ?_
    refine B_isub C dL_law_23 ?_
    refine B_icmpgt C (tgt := 1179) dL_law_24 (by decide) (fun _ => hend i σ) (fun z => absurd ?_ z)
    rw [Int32.lt_iff_toInt_lt, e6, nI_toInt (by omega)]
    omega
  | succ n ih =>
    intro i σ hi h4 hv
    refine B_iload C 0 dL_law_18 rfl rfl ?_
    refine B_aload C 3 dL_law_19 rfl rfl ?_
    refine B_slen C S dL_law_20 ?_
    refine B_bipush C (v := 6) dL_law_21 rfl ?_
    refine B_isub C dL_law_23 ?_
    refine B_icmpgt C (tgt := 1179) dL_law_24 (by decide) (fun _ => hend i σ) (fun z => ?_)
    rw [Int32.lt_iff_toInt_lt, e6, nI_toInt (by omega)] at z
    have hi6 : i + 6 ≤ Ln := by omega
    refine B_aload C 3 dL_law_27 rfl rfl ?_
    refine B_iload C 0 dL_law_28 rfl rfl ?_
    refine B_sld C S (i := i) (by omega) hL dL_law_29 ?_
    refine B_bipush C (v := 31) dL_law_30 rfl ?_
    refine B_iand C dL_law_32 ?_
    obtain ⟨j, hj, ej⟩ := pk_andE (xs i) (m := 31) 5 (by decide)
    rw [ej]
    have tail : ∀ s, IVx s → bV X G.2.1 A 4 Q (g_wl G b_KK s) (b_L b i G) [] mc ms 1173 := fun s hs => by
      refine B_iinc C (v := nI (i + 6)) (b_L b (i + 6) G) dL_law_1173 (k := 0) rfl (nI_add i 6) (by decide) rfl ?_
      refine B_goto C (tgt := 18) dL_law_1176 (by decide) ?_
      exact ih (i + 6) s (by omega) (by omega) hs
    have hj' : j < 32 := hj
    rcases (show j = 0 ∨ j = 1 ∨ j = 2 ∨ j = 3 ∨ j = 4 ∨ j = 5 ∨ j = 6 ∨ j = 7 ∨ j = 8 ∨ j = 9 ∨ j = 10 ∨ j = 11 ∨ j = 12 ∨ j = 13 ∨ j = 14 ∨ j = 15 ∨ j = 16 ∨ j = 17 ∨ j = 18 ∨ j = 19 ∨ j = 20 ∨ j = 21 ∨ j = 22 ∨ j = 23 ∨ j = 24 ∨ j = 25 ∨ j = 26 ∨ j = 27 ∨ j = 28 ∨ j = 29 ∨ j = 30 ∨ j = 31 by omega) with rfl | rfl | rfl | rfl | rfl | rfl | rfl | rfl | rfl | rfl | rfl | rfl | rfl | rfl | rfl | rfl | rfl | rfl | rfl | rfl | rfl | rfl | rfl | rfl | rfl | rfl | rfl | rfl | rfl | rfl | rfl | rfl
    · exact B_tsw C 143 (tgt := 176) dL_law_33 (by decide) (by decide) (by decide) (by decide) (lc_0 h hi6 hv tail)
    · exact B_tsw C 186 (tgt := 219) dL_law_33 (by decide) (by decide) (by decide) (by decide) (lc_1 h hi6 hv tail)
    · exact B_tsw C 229 (tgt := 262) dL_law_33 (by decide) (by decide) (by decide) (by decide) (lc_2 h hi6 hv tail)
    · exact B_tsw C 252 (tgt := 285) dL_law_33 (by decide) (by decide) (by decide) (by decide) (lc_3 h hi6 hv tail)
    · exact B_tsw C 285 (tgt := 318) dL_law_33 (by decide) (by decide) (by decide) (by decide) (lc_4 h hi6 hv tail)
    · exact B_tsw C 318 (tgt := 351) dL_law_33 (by decide) (by decide) (by decide) (by decide) (lc_5 h hi6 hv tail)
    · exact B_tsw C 351 (tgt := 384) dL_law_33 (by decide) (by decide) (by decide) (by decide) (lc_6 h hi6 hv tail)
    · exact B_tsw C 394 (tgt := 427) dL_law_33 (by decide) (by decide) (by decide) (by decide) (lc_7 h hi6 hv tail)
    · exact B_tsw C 417 (tgt := 450) dL_law_33 (by decide) (by decide) (by decide) (by decide) (lc_8 h hi6 hv tail)
    · exact B_tsw C 430 (tgt := 463) dL_law_33 (by decide) (by decide) (by decide) (by decide) (lc_9 h hi6 hv tail)
    · exact B_tsw C 453 (tgt := 486) dL_law_33 (by decide) (by decide) (by decide) (by decide) (lc_10 h hi6 hv tail)
    · exact B_tsw C 476 (tgt := 509) dL_law_33 (by decide) (by decide) (by decide) (by decide) (lc_11 h hi6 hv tail)
    · exact B_tsw C 519 (tgt := 552) dL_law_33 (by decide) (by decide) (by decide) (by decide) (lc_12 h hi6 hv tail)
    · exact B_tsw C 542 (tgt := 575) dL_law_33 (by decide) (by decide) (by decide) (by decide) (lc_13 h hi6 hv tail)
    · exact B_tsw C 565 (tgt := 598) dL_law_33 (by decide) (by decide) (by decide) (by decide) (lc_14 h hi6 hv tail)
    · exact B_tsw C 598 (tgt := 631) dL_law_33 (by decide) (by decide) (by decide) (by decide) (lc_15 h hi6 hv tail)
    · exact B_tsw C 621 (tgt := 654) dL_law_33 (by decide) (by decide) (by decide) (by decide) (lc_16 h hi6 hv tail)
    · exact B_tsw C 634 (tgt := 667) dL_law_33 (by decide) (by decide) (by decide) (by decide) (lc_17 h hi6 hv tail)
    · exact B_tsw C 657 (tgt := 690) dL_law_33 (by decide) (by decide) (by decide) (by decide) (lc_18 h hi6 hv tail)
    · exact B_tsw C 690 (tgt := 723) dL_law_33 (by decide) (by decide) (by decide) (by decide) (lc_19 h hi6 hv tail)
    · exact B_tsw C 713 (tgt := 746) dL_law_33 (by decide) (by decide) (by decide) (by decide) (lc_20 h hi6 hv tail)
    · exact B_tsw C 756 (tgt := 789) dL_law_33 (by decide) (by decide) (by decide) (by decide) (lc_21 h hi6 hv tail)
    · exact B_tsw C 789 (tgt := 822) dL_law_33 (by decide) (by decide) (by decide) (by decide) (lc_22 h hi6 hv tail)
    · exact B_tsw C 812 (tgt := 845) dL_law_33 (by decide) (by decide) (by decide) (by decide) (lc_23 h hi6 hv tail)
    · exact B_tsw C 856 (tgt := 889) dL_law_33 (by decide) (by decide) (by decide) (by decide) (lc_24 h hi6 hv tail)
    · exact B_tsw C 869 (tgt := 902) dL_law_33 (by decide) (by decide) (by decide) (by decide) (lc_25 h hi6 hv tail)
    · exact B_tsw C 882 (tgt := 915) dL_law_33 (by decide) (by decide) (by decide) (by decide) (lc_26 h hi6 hv tail)
    · exact B_tsw C 905 (tgt := 938) dL_law_33 (by decide) (by decide) (by decide) (by decide) (lc_27 h hi6 hv tail)
    · exact B_tsw C 948 (tgt := 981) dL_law_33 (by decide) (by decide) (by decide) (by decide) (lc_28 h hi6 hv tail)
    · exact B_tsw C 991 (tgt := 1024) dL_law_33 (by decide) (by decide) (by decide) (by decide) (lc_29 h hi6 hv tail)
    · exact B_tsw C 1054 (tgt := 1087) dL_law_33 (by decide) (by decide) (by decide) (by decide) (lc_30 h hi6 hv tail)
    · exact B_tsw C 1107 (tgt := 1140) dL_law_33 (by decide) (by decide) (by decide) (by decide) (lc_31 h hi6 hv tail)
