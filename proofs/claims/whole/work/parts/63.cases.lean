/-! the law's cases -/
section LC
variable {X : CT} {Z : State → Prop} {cells slots b aX aM Ln i nc : Nat} {xs : Nat → Int32} {σ τ : St}
theorem lc_0 (hX : Dok X 4 cL_law ret room_1 RL) (hXs : Xs X b Ln xs) (hL : Ln ≤ 3072) (hi : i + 6 ≤ Ln) (h : Inv nc σ τ) (hc : cells ≤ 679924) (hs : slots ≤ 7062475) (kk : ∀ σ' τ', Inv nc σ' τ' → Bw X 4 Z cells slots 1138 (LL b aX aM (nI i)) [] (LWd X (idsC nc) idsR 100 aX 0 aM σ' τ')) : Bw X 4 Z cells slots 164 (LL b aX aM (nI i)) [] (LWd X (idsC nc) idsR 100 aX 0 aM σ τ) := by
  have hn := h.nc
  refine b_aload_n 1 hX dL_law_164 rfl rfl ?_
  refine l_arg 1 hX hXs hL hi dL_law_165 dL_law_166 dL_law_167 dL_law_168 dL_law_169 (by decide) (by decide) ?_
  refine l_arg 2 hX hXs hL hi dL_law_170 dL_law_171 dL_law_172 dL_law_173 dL_law_174 (by decide) (by decide) ?_
  refine l_arg 3 hX hXs hL hi dL_law_175 dL_law_176 dL_law_177 dL_law_178 dL_law_179 (by decide) (by decide) ?_
  refine l_arg 4 hX hXs hL hi dL_law_180 dL_law_181 dL_law_182 dL_law_183 dL_law_184 (by decide) (by decide) ?_
  refine l_bool hX dL_law_185 dL_law_188 dL_law_189 dL_law_192 ?_
  refine l_call (ci := 6) (C := RX6) (T := TX6) (N := 13) (n := 4) (d := 2) (As := [.int (xs (i + 1)), .int (xs (i + 2)), .int (xs (i + 3)), .int (if xs (i + 4) = 0 then 0 else 1)]) (S := []) Yok_X6_link rfl rfl lwd_307 lwd_308 lwd_306 hX dL_law_193 (h100 hn).2.1 rfl (idsC_nodup nc hn) rfl (fun _ => rfl) rfl (by decide) (Nat.le_of_ble_eq_true rfl) (Nat.le_of_ble_eq_true rfl) hc hs (s_link (d := 0) (e := 0) (Q := fun x σ' y τ' => y = x ∧ Inv nc σ' τ') h (fun _ _ _ q => ⟨rfl, q⟩)) (fun r σ' r1 hF => ?_)
  obtain ⟨x, rfl, hE⟩ := hF
  show Bw X 4 Z cells slots _ _ [.int x] _
  refine b_aload_n 2 hX dL_law_196 rfl rfl ?_
  refine l_arg 1 hX hXs hL hi dL_law_197 dL_law_198 dL_law_199 dL_law_200 dL_law_201 (by decide) (by decide) ?_
  refine l_arg 2 hX hXs hL hi dL_law_202 dL_law_203 dL_law_204 dL_law_205 dL_law_206 (by decide) (by decide) ?_
  refine l_arg 3 hX hXs hL hi dL_law_207 dL_law_208 dL_law_209 dL_law_210 dL_law_211 (by decide) (by decide) ?_
  refine l_arg 4 hX hXs hL hi dL_law_212 dL_law_213 dL_law_214 dL_law_215 dL_law_216 (by decide) (by decide) ?_
  refine l_bool hX dL_law_217 dL_law_220 dL_law_221 dL_law_224 ?_
  refine l_call2 (ci := 7) (C := RX7) (T := TX7) (N := 51) (n := 4) (d := 3) (As := [.int (xs (i + 1)), .int (xs (i + 2)), .int (xs (i + 3)), .int (if xs (i + 4) = 0 then 0 else 1)]) (S := [.int x]) Yok_X7_link rfl rfl lwd_799 lwd_800 lwd_798 hX dL_law_225 hR.2.1 rfl idsR_nodup rfl (fun _ => rfl) rfl (Nat.le_of_ble_eq_true rfl) (Nat.le_of_ble_eq_true rfl) (Nat.le_of_ble_eq_true rfl) hc hs hE (fun r τ' r1 hF => ?_)
  obtain ⟨y, rfl, rfl, hI⟩ := hF
  show Bw X 4 Z cells slots _ _ [.int y, .int y] _
  exact b_icmp_eq 1138 hX dL_law_228 (by decide) (fun _ => kk σ' τ' hI) (fun z => absurd rfl z)
theorem lc_1 (hX : Dok X 4 cL_law ret room_1 RL) (hNo : Nok X) (hXs : Xs X b Ln xs) (hL : Ln ≤ 3072) (hi : i + 6 ≤ Ln) (h : Inv nc σ τ) (hc : cells + 5 ≤ 679924) (hs : slots + 20 ≤ 7062475) (kk : ∀ n' σ' τ', Inv n' σ' τ' → Bw X 4 Z (cells + 5) (slots + 20) 1138 (LL b aX aM (nI i)) [] (LWd X (idsC n') idsR 100 aX 0 aM σ' τ')) : Bw X 4 Z cells slots 233 (LL b aX aM (nI i)) [] (LWd X (idsC nc) idsR 100 aX 0 aM σ τ) := by
  have hn := h.nc
  refine b_aload_n 1 hX dL_law_233 rfl rfl ?_
  refine l_arg 1 hX hXs hL hi dL_law_234 dL_law_235 dL_law_236 dL_law_237 dL_law_238 (by decide) (by decide) ?_
  refine l_new (S := []) (a2 := aM) lwd_313 hX hNo dL_law_239 hn rfl (by decide) (Nat.le_of_ble_eq_true rfl : 3 + 1 ≤ room_1.frames) (Nat.le_of_ble_eq_true rfl) hc hs (s_newCase (d := 0) (e := 0) (Q := fun x n' σ' y τ' => y = x ∧ Inv n' σ' τ') h (fun _ _ _ _ q => ⟨rfl, q⟩)) (fun x n' σ' hE => ?_)
  show Bw X 4 Z (cells + 5) (slots + 20) _ _ [.int x] _
  refine b_aload_n 2 hX dL_law_242 rfl rfl ?_
  refine l_arg 1 hX hXs hL hi dL_law_243 dL_law_244 dL_law_245 dL_law_246 dL_law_247 (by decide) (by decide) ?_
  refine l_call2 (ci := 7) (C := RX7) (T := TX7) (N := 51) (n := 1) (d := 2) (As := [.int (xs (i + 1))]) (S := [.int x]) Yok_X7_newCase rfl rfl lwd_812 lwd_813 lwd_811 hX dL_law_248 hR.2.1 rfl idsR_nodup rfl (fun _ => rfl) rfl (Nat.le_of_ble_eq_true rfl) (Nat.le_of_ble_eq_true rfl) (Nat.le_of_ble_eq_true rfl) (Nat.le_trans (Nat.le_refl _) hc) (Nat.le_trans (Nat.le_refl _) hs) hE (fun r τ' r1 hF => ?_)
  obtain ⟨y, rfl, rfl, hI⟩ := hF
  show Bw X 4 Z (cells + 5) (slots + 20) _ _ [.int y, .int y] _
  exact b_icmp_eq 1138 hX dL_law_251 (by decide) (fun _ => kk n' σ' τ' hI) (fun z => absurd rfl z)
theorem lc_2 (hX : Dok X 4 cL_law ret room_1 RL) (hXs : Xs X b Ln xs) (hL : Ln ≤ 3072) (hi : i + 6 ≤ Ln) (h : Inv nc σ τ) (hc : cells ≤ 679924) (hs : slots ≤ 7062475) (kk : ∀ σ' τ', Inv nc σ' τ' → Bw X 4 Z cells slots 1138 (LL b aX aM (nI i)) [] (LWd X (idsC nc) idsR 100 aX 0 aM σ' τ')) : Bw X 4 Z cells slots 256 (LL b aX aM (nI i)) [] (LWd X (idsC nc) idsR 100 aX 0 aM σ τ) := by
  have hn := h.nc
  refine b_aload_n 1 hX dL_law_256 rfl rfl ?_
  refine l_arg 1 hX hXs hL hi dL_law_257 dL_law_258 dL_law_259 dL_law_260 dL_law_261 (by decide) (by decide) ?_
  refine l_arg 2 hX hXs hL hi dL_law_262 dL_law_263 dL_law_264 dL_law_265 dL_law_266 (by decide) (by decide) ?_
  refine l_arg 3 hX hXs hL hi dL_law_267 dL_law_268 dL_law_269 dL_law_270 dL_law_271 (by decide) (by decide) ?_
  refine l_arg 4 hX hXs hL hi dL_law_272 dL_law_273 dL_law_274 dL_law_275 dL_law_276 (by decide) (by decide) ?_
  refine l_call (ci := 6) (C := RX6) (T := TX6) (N := 13) (n := 4) (d := 2) (As := [.int (xs (i + 1)), .int (xs (i + 2)), .int (xs (i + 3)), .int (xs (i + 4))]) (S := []) Yok_X6_put rfl rfl lwd_335 lwd_336 lwd_334 hX dL_law_277 (h100 hn).2.1 rfl (idsC_nodup nc hn) rfl (fun _ => rfl) rfl (by decide) (Nat.le_of_ble_eq_true rfl) (Nat.le_of_ble_eq_true rfl) hc hs (s_put (d := 0) (e := 0) (Q := fun x σ' y τ' => y = x ∧ Inv nc σ' τ') h (fun _ _ _ q => ⟨rfl, q⟩)) (fun r σ' r1 hF => ?_)
  obtain ⟨x, rfl, hE⟩ := hF
  show Bw X 4 Z cells slots _ _ [.int x] _
  refine b_aload_n 2 hX dL_law_280 rfl rfl ?_
  refine l_arg 1 hX hXs hL hi dL_law_281 dL_law_282 dL_law_283 dL_law_284 dL_law_285 (by decide) (by decide) ?_
  refine l_arg 2 hX hXs hL hi dL_law_286 dL_law_287 dL_law_288 dL_law_289 dL_law_290 (by decide) (by decide) ?_
  refine l_arg 3 hX hXs hL hi dL_law_291 dL_law_292 dL_law_293 dL_law_294 dL_law_295 (by decide) (by decide) ?_
  refine l_arg 4 hX hXs hL hi dL_law_296 dL_law_297 dL_law_298 dL_law_299 dL_law_300 (by decide) (by decide) ?_
  refine l_call2 (ci := 7) (C := RX7) (T := TX7) (N := 51) (n := 4) (d := 3) (As := [.int (xs (i + 1)), .int (xs (i + 2)), .int (xs (i + 3)), .int (xs (i + 4))]) (S := [.int x]) Yok_X7_put rfl rfl lwd_816 lwd_817 lwd_815 hX dL_law_301 hR.2.1 rfl idsR_nodup rfl (fun _ => rfl) rfl (Nat.le_of_ble_eq_true rfl) (Nat.le_of_ble_eq_true rfl) (Nat.le_of_ble_eq_true rfl) hc hs hE (fun r τ' r1 hF => ?_)
  obtain ⟨y, rfl, rfl, hI⟩ := hF
  show Bw X 4 Z cells slots _ _ [.int y, .int y] _
  exact b_icmp_eq 1138 hX dL_law_304 (by decide) (fun _ => kk σ' τ' hI) (fun z => absurd rfl z)
theorem lc_3 (hX : Dok X 4 cL_law ret room_1 RL) (hXs : Xs X b Ln xs) (hL : Ln ≤ 3072) (hi : i + 6 ≤ Ln) (h : Inv nc σ τ) (hc : cells ≤ 679924) (hs : slots ≤ 7062475) (kk : ∀ σ' τ', Inv nc σ' τ' → Bw X 4 Z cells slots 1138 (LL b aX aM (nI i)) [] (LWd X (idsC nc) idsR 100 aX 0 aM σ' τ')) : Bw X 4 Z cells slots 309 (LL b aX aM (nI i)) [] (LWd X (idsC nc) idsR 100 aX 0 aM σ τ) := by
  have hn := h.nc
  refine b_aload_n 1 hX dL_law_309 rfl rfl ?_
  refine l_arg 1 hX hXs hL hi dL_law_310 dL_law_311 dL_law_312 dL_law_313 dL_law_314 (by decide) (by decide) ?_
  refine l_arg 2 hX hXs hL hi dL_law_315 dL_law_316 dL_law_317 dL_law_318 dL_law_319 (by decide) (by decide) ?_
  refine l_arg 3 hX hXs hL hi dL_law_320 dL_law_321 dL_law_322 dL_law_323 dL_law_324 (by decide) (by decide) ?_
  refine l_call (ci := 6) (C := RX6) (T := TX6) (N := 13) (n := 3) (d := 35) (As := [.int (xs (i + 1)), .int (xs (i + 2)), .int (xs (i + 3))]) (S := []) Yok_X6_of rfl rfl lwd_343 lwd_344 lwd_342 hX dL_law_325 (h100 hn).2.1 rfl (idsC_nodup nc hn) rfl (fun _ => rfl) rfl (by decide) (Nat.le_of_ble_eq_true rfl) (Nat.le_of_ble_eq_true rfl) hc hs (s_of (d := 0) (e := 0) (Q := fun x σ' y τ' => y = x ∧ Inv nc σ' τ') h (fun _ _ _ q => ⟨rfl, q⟩)) (fun r σ' r1 hF => ?_)
  obtain ⟨x, rfl, hE⟩ := hF
  show Bw X 4 Z cells slots _ _ [.int x] _
  refine b_aload_n 2 hX dL_law_328 rfl rfl ?_
  refine l_arg 1 hX hXs hL hi dL_law_329 dL_law_330 dL_law_331 dL_law_332 dL_law_333 (by decide) (by decide) ?_
  refine l_arg 2 hX hXs hL hi dL_law_334 dL_law_335 dL_law_336 dL_law_337 dL_law_338 (by decide) (by decide) ?_
  refine l_arg 3 hX hXs hL hi dL_law_339 dL_law_340 dL_law_341 dL_law_342 dL_law_343 (by decide) (by decide) ?_
  refine l_call2 (ci := 7) (C := RX7) (T := TX7) (N := 51) (n := 3) (d := 4) (As := [.int (xs (i + 1)), .int (xs (i + 2)), .int (xs (i + 3))]) (S := [.int x]) Yok_X7_of rfl rfl lwd_824 lwd_825 lwd_823 hX dL_law_344 hR.2.1 rfl idsR_nodup rfl (fun _ => rfl) rfl (Nat.le_of_ble_eq_true rfl) (Nat.le_of_ble_eq_true rfl) (Nat.le_of_ble_eq_true rfl) hc hs hE (fun r τ' r1 hF => ?_)
  obtain ⟨y, rfl, rfl, hI⟩ := hF
  show Bw X 4 Z cells slots _ _ [.int y, .int y] _
  exact b_icmp_eq 1138 hX dL_law_347 (by decide) (fun _ => kk σ' τ' hI) (fun z => absurd rfl z)
theorem lc_4 (hX : Dok X 4 cL_law ret room_1 RL) (hXs : Xs X b Ln xs) (hL : Ln ≤ 3072) (hi : i + 6 ≤ Ln) (h : Inv nc σ τ) (hc : cells ≤ 679924) (hs : slots ≤ 7062475) (kk : ∀ σ' τ', Inv nc σ' τ' → Bw X 4 Z cells slots 1138 (LL b aX aM (nI i)) [] (LWd X (idsC nc) idsR 100 aX 0 aM σ' τ')) : Bw X 4 Z cells slots 352 (LL b aX aM (nI i)) [] (LWd X (idsC nc) idsR 100 aX 0 aM σ τ) := by
  have hn := h.nc
  refine b_aload_n 1 hX dL_law_352 rfl rfl ?_
  refine l_arg 1 hX hXs hL hi dL_law_353 dL_law_354 dL_law_355 dL_law_356 dL_law_357 (by decide) (by decide) ?_
  refine l_arg 2 hX hXs hL hi dL_law_358 dL_law_359 dL_law_360 dL_law_361 dL_law_362 (by decide) (by decide) ?_
  refine l_call (ci := 6) (C := RX6) (T := TX6) (N := 13) (n := 2) (d := 2) (As := [.int (xs (i + 1)), .int (xs (i + 2))]) (S := []) Yok_X6_feed rfl rfl lwd_358 lwd_359 lwd_357 hX dL_law_363 (h100 hn).2.1 rfl (idsC_nodup nc hn) rfl (fun _ => rfl) rfl (by decide) (Nat.le_of_ble_eq_true rfl) (Nat.le_of_ble_eq_true rfl) hc hs (s_feed (d := 0) (e := 0) (Q := fun x σ' y τ' => y = x ∧ Inv nc σ' τ') h (fun _ _ _ q => ⟨rfl, q⟩)) (fun r σ' r1 hF => ?_)
  obtain ⟨x, rfl, hE⟩ := hF
  show Bw X 4 Z cells slots _ _ [.int x] _
  refine b_aload_n 2 hX dL_law_366 rfl rfl ?_
  refine l_arg 1 hX hXs hL hi dL_law_367 dL_law_368 dL_law_369 dL_law_370 dL_law_371 (by decide) (by decide) ?_
  refine l_arg 2 hX hXs hL hi dL_law_372 dL_law_373 dL_law_374 dL_law_375 dL_law_376 (by decide) (by decide) ?_
  refine l_call2 (ci := 7) (C := RX7) (T := TX7) (N := 51) (n := 2) (d := 2) (As := [.int (xs (i + 1)), .int (xs (i + 2))]) (S := [.int x]) Yok_X7_feed rfl rfl lwd_844 lwd_845 lwd_843 hX dL_law_377 hR.2.1 rfl idsR_nodup rfl (fun _ => rfl) rfl (Nat.le_of_ble_eq_true rfl) (Nat.le_of_ble_eq_true rfl) (Nat.le_of_ble_eq_true rfl) hc hs hE (fun r τ' r1 hF => ?_)
  obtain ⟨y, rfl, rfl, hI⟩ := hF
  show Bw X 4 Z cells slots _ _ [.int y, .int y] _
  exact b_icmp_eq 1138 hX dL_law_380 (by decide) (fun _ => kk σ' τ' hI) (fun z => absurd rfl z)
theorem lc_5 (hX : Dok X 4 cL_law ret room_1 RL) (hXs : Xs X b Ln xs) (hL : Ln ≤ 3072) (hi : i + 6 ≤ Ln) (h : Inv nc σ τ) (hc : cells ≤ 679924) (hs : slots ≤ 7062475) (kk : ∀ σ' τ', Inv nc σ' τ' → Bw X 4 Z cells slots 1138 (LL b aX aM (nI i)) [] (LWd X (idsC nc) idsR 100 aX 0 aM σ' τ')) : Bw X 4 Z cells slots 385 (LL b aX aM (nI i)) [] (LWd X (idsC nc) idsR 100 aX 0 aM σ τ) := by
  have hn := h.nc
  refine b_aload_n 1 hX dL_law_385 rfl rfl ?_
  refine l_call (ci := 6) (C := RX6) (T := TX6) (N := 13) (n := 0) (d := 512) (As := []) (S := []) Yok_X6_rules rfl rfl lwd_366 lwd_367 lwd_365 hX dL_law_386 (h100 hn).2.1 rfl (idsC_nodup nc hn) rfl (fun _ => rfl) rfl (by decide) (Nat.le_of_ble_eq_true rfl) (Nat.le_of_ble_eq_true rfl) hc hs (s_rules (d := 0) (e := 0) (Q := fun x σ' y τ' => y = x ∧ Inv nc σ' τ') h (fun _ _ _ q => ⟨rfl, q⟩)) (fun r σ' r1 hF => ?_)
  obtain ⟨x, rfl, hE⟩ := hF
  show Bw X 4 Z cells slots _ _ [.int x] _
  refine b_aload_n 2 hX dL_law_389 rfl rfl ?_
  refine l_call2 (ci := 7) (C := RX7) (T := TX7) (N := 51) (n := 0) (d := 9) (As := []) (S := [.int x]) Yok_X7_rules rfl rfl lwd_848 lwd_849 lwd_847 hX dL_law_390 hR.2.1 rfl idsR_nodup rfl (fun _ => rfl) rfl (Nat.le_of_ble_eq_true rfl) (Nat.le_of_ble_eq_true rfl) (Nat.le_of_ble_eq_true rfl) hc hs hE (fun r τ' r1 hF => ?_)
  obtain ⟨y, rfl, rfl, hI⟩ := hF
  show Bw X 4 Z cells slots _ _ [.int y, .int y] _
  exact b_icmp_eq 1138 hX dL_law_393 (by decide) (fun _ => kk σ' τ' hI) (fun z => absurd rfl z)
theorem lc_6 (hX : Dok X 4 cL_law ret room_1 RL) (hXs : Xs X b Ln xs) (hL : Ln ≤ 3072) (hi : i + 6 ≤ Ln) (h : Inv nc σ τ) (hc : cells ≤ 679924) (hs : slots ≤ 7062475) (kk : ∀ σ' τ', Inv nc σ' τ' → Bw X 4 Z cells slots 1138 (LL b aX aM (nI i)) [] (LWd X (idsC nc) idsR 100 aX 0 aM σ' τ')) : Bw X 4 Z cells slots 398 (LL b aX aM (nI i)) [] (LWd X (idsC nc) idsR 100 aX 0 aM σ τ) := by
  have hn := h.nc
  refine b_aload_n 1 hX dL_law_398 rfl rfl ?_
  refine l_arg 1 hX hXs hL hi dL_law_399 dL_law_400 dL_law_401 dL_law_402 dL_law_403 (by decide) (by decide) ?_
  refine l_call (ci := 6) (C := RX6) (T := TX6) (N := 13) (n := 1) (d := 5) (As := [.int (xs (i + 1))]) (S := []) Yok_X6_begin rfl rfl lwd_576 lwd_577 lwd_575 hX dL_law_404 (h100 hn).2.1 rfl (idsC_nodup nc hn) rfl (fun _ => rfl) rfl (by decide) (Nat.le_of_ble_eq_true rfl) (Nat.le_of_ble_eq_true rfl) hc hs (s_begin (d := 0) (e := 0) (Q := fun x σ' y τ' => y = x ∧ Inv nc σ' τ') h (fun _ _ _ q => ⟨rfl, q⟩)) (fun r σ' r1 hF => ?_)
  obtain ⟨x, rfl, hE⟩ := hF
  show Bw X 4 Z cells slots _ _ [.int x] _
  refine b_aload_n 2 hX dL_law_407 rfl rfl ?_
  refine l_arg 1 hX hXs hL hi dL_law_408 dL_law_409 dL_law_410 dL_law_411 dL_law_412 (by decide) (by decide) ?_
  refine l_call2 (ci := 7) (C := RX7) (T := TX7) (N := 51) (n := 1) (d := 3) (As := [.int (xs (i + 1))]) (S := [.int x]) Yok_X7_begin rfl rfl lwd_1075 lwd_1076 lwd_1074 hX dL_law_413 hR.2.1 rfl idsR_nodup rfl (fun _ => rfl) rfl (Nat.le_of_ble_eq_true rfl) (Nat.le_of_ble_eq_true rfl) (Nat.le_of_ble_eq_true rfl) hc hs hE (fun r τ' r1 hF => ?_)
  obtain ⟨y, rfl, rfl, hI⟩ := hF
  show Bw X 4 Z cells slots _ _ [.int y, .int y] _
  exact b_icmp_eq 1138 hX dL_law_416 (by decide) (fun _ => kk σ' τ' hI) (fun z => absurd rfl z)
theorem lc_7 (hX : Dok X 4 cL_law ret room_1 RL) (hXs : Xs X b Ln xs) (hL : Ln ≤ 3072) (hi : i + 6 ≤ Ln) (h : Inv nc σ τ) (hc : cells ≤ 679924) (hs : slots ≤ 7062475) (kk : ∀ σ' τ', Inv nc σ' τ' → Bw X 4 Z cells slots 1138 (LL b aX aM (nI i)) [] (LWd X (idsC nc) idsR 100 aX 0 aM σ' τ')) : Bw X 4 Z cells slots 421 (LL b aX aM (nI i)) [] (LWd X (idsC nc) idsR 100 aX 0 aM σ τ) := by
  have hn := h.nc
  refine b_aload_n 1 hX dL_law_421 rfl rfl ?_
  refine l_arg 1 hX hXs hL hi dL_law_422 dL_law_423 dL_law_424 dL_law_425 dL_law_426 (by decide) (by decide) ?_
  refine l_call (ci := 6) (C := RX6) (T := TX6) (N := 13) (n := 1) (d := 4) (As := [.int (xs (i + 1))]) (S := []) Yok_X6_may rfl rfl lwd_584 lwd_585 lwd_583 hX dL_law_427 (h100 hn).2.1 rfl (idsC_nodup nc hn) rfl (fun _ => rfl) rfl (by decide) (Nat.le_of_ble_eq_true rfl) (Nat.le_of_ble_eq_true rfl) hc hs (s_may (d := 0) (e := 0) (Q := fun x σ' y τ' => y = x ∧ Inv nc σ' τ') h (fun _ _ _ q => ⟨rfl, q⟩)) (fun r σ' r1 hF => ?_)
  obtain ⟨x, rfl, hE⟩ := hF
  show Bw X 4 Z cells slots _ _ [.int x] _
  refine b_aload_n 2 hX dL_law_430 rfl rfl ?_
  refine l_arg 1 hX hXs hL hi dL_law_431 dL_law_432 dL_law_433 dL_law_434 dL_law_435 (by decide) (by decide) ?_
  refine l_call2 (ci := 7) (C := RX7) (T := TX7) (N := 51) (n := 1) (d := 6) (As := [.int (xs (i + 1))]) (S := [.int x]) Yok_X7_may rfl rfl lwd_1087 lwd_1088 lwd_1086 hX dL_law_436 hR.2.1 rfl idsR_nodup rfl (fun _ => rfl) rfl (Nat.le_of_ble_eq_true rfl) (Nat.le_of_ble_eq_true rfl) (Nat.le_of_ble_eq_true rfl) hc hs hE (fun r τ' r1 hF => ?_)
  obtain ⟨y, rfl, rfl, hI⟩ := hF
  show Bw X 4 Z cells slots _ _ [.int y, .int y] _
  exact b_icmp_eq 1138 hX dL_law_439 (by decide) (fun _ => kk σ' τ' hI) (fun z => absurd rfl z)
theorem lc_8 (hX : Dok X 4 cL_law ret room_1 RL) (hXs : Xs X b Ln xs) (hL : Ln ≤ 3072) (hi : i + 6 ≤ Ln) (h : Inv nc σ τ) (hc : cells ≤ 679924) (hs : slots ≤ 7062475) (kk : ∀ σ' τ', Inv nc σ' τ' → Bw X 4 Z cells slots 1138 (LL b aX aM (nI i)) [] (LWd X (idsC nc) idsR 100 aX 0 aM σ' τ')) : Bw X 4 Z cells slots 444 (LL b aX aM (nI i)) [] (LWd X (idsC nc) idsR 100 aX 0 aM σ τ) := by
  have hn := h.nc
  refine b_aload_n 1 hX dL_law_444 rfl rfl ?_
  refine l_arg 1 hX hXs hL hi dL_law_445 dL_law_446 dL_law_447 dL_law_448 dL_law_449 (by decide) (by decide) ?_
  refine l_call (ci := 6) (C := RX6) (T := TX6) (N := 13) (n := 1) (d := 5) (As := [.int (xs (i + 1))]) (S := []) Yok_X6_plead rfl rfl lwd_597 lwd_598 lwd_596 hX dL_law_450 (h100 hn).2.1 rfl (idsC_nodup nc hn) rfl (fun _ => rfl) rfl (by decide) (Nat.le_of_ble_eq_true rfl) (Nat.le_of_ble_eq_true rfl) hc hs (s_plead (d := 0) (e := 0) (Q := fun x σ' y τ' => y = x ∧ Inv nc σ' τ') h (fun _ _ _ q => ⟨rfl, q⟩)) (fun r σ' r1 hF => ?_)
  obtain ⟨x, rfl, hE⟩ := hF
  show Bw X 4 Z cells slots _ _ [.int x] _
  refine b_aload_n 2 hX dL_law_453 rfl rfl ?_
  refine l_arg 1 hX hXs hL hi dL_law_454 dL_law_455 dL_law_456 dL_law_457 dL_law_458 (by decide) (by decide) ?_
  refine l_call2 (ci := 7) (C := RX7) (T := TX7) (N := 51) (n := 1) (d := 6) (As := [.int (xs (i + 1))]) (S := [.int x]) Yok_X7_plead rfl rfl lwd_1119 lwd_1120 lwd_1118 hX dL_law_459 hR.2.1 rfl idsR_nodup rfl (fun _ => rfl) rfl (Nat.le_of_ble_eq_true rfl) (Nat.le_of_ble_eq_true rfl) (Nat.le_of_ble_eq_true rfl) hc hs hE (fun r τ' r1 hF => ?_)
  obtain ⟨y, rfl, rfl, hI⟩ := hF
  show Bw X 4 Z cells slots _ _ [.int y, .int y] _
  exact b_icmp_eq 1138 hX dL_law_462 (by decide) (fun _ => kk σ' τ' hI) (fun z => absurd rfl z)
theorem lc_9 (hX : Dok X 4 cL_law ret room_1 RL) (hXs : Xs X b Ln xs) (hL : Ln ≤ 3072) (hi : i + 6 ≤ Ln) (h : Inv nc σ τ) (hc : cells ≤ 679924) (hs : slots ≤ 7062475) (kk : ∀ σ' τ', Inv nc σ' τ' → Bw X 4 Z cells slots 1138 (LL b aX aM (nI i)) [] (LWd X (idsC nc) idsR 100 aX 0 aM σ' τ')) : Bw X 4 Z cells slots 467 (LL b aX aM (nI i)) [] (LWd X (idsC nc) idsR 100 aX 0 aM σ τ) := by
  have hn := h.nc
  refine b_aload_n 1 hX dL_law_467 rfl rfl ?_
  refine l_call (ci := 6) (C := RX6) (T := TX6) (N := 13) (n := 0) (d := 1) (As := []) (S := []) Yok_X6_back rfl rfl lwd_609 lwd_610 lwd_608 hX dL_law_468 (h100 hn).2.1 rfl (idsC_nodup nc hn) rfl (fun _ => rfl) rfl (by decide) (Nat.le_of_ble_eq_true rfl) (Nat.le_of_ble_eq_true rfl) hc hs (s_back (d := 0) (e := 0) (Q := fun x σ' y τ' => y = x ∧ Inv nc σ' τ') h (fun _ _ _ q => ⟨rfl, q⟩)) (fun r σ' r1 hF => ?_)
  obtain ⟨x, rfl, hE⟩ := hF
  show Bw X 4 Z cells slots _ _ [.int x] _
  refine b_aload_n 2 hX dL_law_471 rfl rfl ?_
  refine l_call2 (ci := 7) (C := RX7) (T := TX7) (N := 51) (n := 0) (d := 1) (As := []) (S := [.int x]) Yok_X7_back rfl rfl lwd_1127 lwd_1128 lwd_1126 hX dL_law_472 hR.2.1 rfl idsR_nodup rfl (fun _ => rfl) rfl (Nat.le_of_ble_eq_true rfl) (Nat.le_of_ble_eq_true rfl) (Nat.le_of_ble_eq_true rfl) hc hs hE (fun r τ' r1 hF => ?_)
  obtain ⟨y, rfl, rfl, hI⟩ := hF
  show Bw X 4 Z cells slots _ _ [.int y, .int y] _
  exact b_icmp_eq 1138 hX dL_law_475 (by decide) (fun _ => kk σ' τ' hI) (fun z => absurd rfl z)
end LC
