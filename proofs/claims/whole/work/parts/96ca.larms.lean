set_option maxHeartbeats 1000000
set_option maxRecDepth 100000
theorem lg_cmp_same (x : Int64) : lg_cmp x x = 0 := by
  unfold lg_cmp
  rw [if_neg (show ¬ x > x from Int64.lt_irrefl), if_pos rfl]
theorem la_feed {C : zC} {cs : Nat × Nat} {b L i n : Nat} {xs : Nat → Int32} (E : zEl C) (hc : zSc C b L xs) (hi : i + 6 ≤ L) (hL : L ≤ 3072) (hn : n ≤ 512) {I : Nat → Nat → Int32} {J : Nat → Nat → Int64} {Rr : Nat → Nat → Option Nat} {D : zD} (hI : INV n I J Rr D) (h1 : cs.1 + 27 ≤ 600000) (h2 : cs.2 + 794 ≤ 7302249) (kk : ∀ S2, INVs (n + 1) S2 → zB C (cs.1 + 27, cs.2 + 794) 1159 (lvl C b i) [] S2) : zB C cs 168 (lvl C b i) [] (I, J, Rr, D) := by
  obtain ⟨r, S1, S2, k1, k2, hI2⟩ := arm_feed (by omega) hI (a1 := xs (i + 1)) (a2 := xs (i + 2)) (a3 := xs (i + 3)) (a4 := xs (i + 4)) (a5 := xs (i + 5))
  refine zb_aload_n E dl_168 2 rfl rfl ?_
  refine la_arg E hc hi hL 1 (by decide) (kz := 1) rfl dl_169 dl_170 dl_171 dl_172 dl_173 ?_
  refine la_arg E hc hi hL 2 (by decide) (kz := 2) rfl dl_174 dl_175 dl_176 dl_177 dl_178 ?_
  refine la_arg E hc hi hL 3 (by decide) (kz := 3) rfl dl_179 dl_180 dl_181 dl_182 dl_183 ?_
  refine la_arg E hc hi hL 4 (by decide) (kz := 4) rfl dl_184 dl_185 dl_186 dl_187 dl_188 ?_
  refine la_arg E hc hi hL 5 (by decide) (kz := 5) rfl dl_189 dl_190 dl_191 dl_192 dl_193 ?_
  refine zb_cVi E [.int (xs (i + 1)), .int (xs (i + 2)), .int (xs (i + 3)), .int (xs (i + 4)), .int (xs (i + 5))] 0 zy_X11_feed zw_372 (by decide) (zF_0 _ _ _ _) rfl (k1 _ _) ⟨Nat.le_of_ble_eq_true rfl, Nat.le_of_ble_eq_true rfl, by show _ ≤ 600000; (try dsimp only); omega, by show _ ≤ 7302249; (try dsimp only); omega⟩ rfl rfl (by first | decide | simp [Value.category]) dl_194 rfl ?_
  refine zb_aload_n E dl_197 3 rfl rfl ?_
  refine la_arg E hc hi hL 1 (by decide) (kz := 1) rfl dl_198 dl_199 dl_200 dl_201 dl_202 ?_
  refine la_arg E hc hi hL 2 (by decide) (kz := 2) rfl dl_203 dl_204 dl_205 dl_206 dl_207 ?_
  refine la_arg E hc hi hL 3 (by decide) (kz := 3) rfl dl_208 dl_209 dl_210 dl_211 dl_212 ?_
  refine la_arg E hc hi hL 4 (by decide) (kz := 4) rfl dl_213 dl_214 dl_215 dl_216 dl_217 ?_
  refine la_arg E hc hi hL 5 (by decide) (kz := 5) rfl dl_218 dl_219 dl_220 dl_221 dl_222 ?_
  refine zb_cVi E [.int (xs (i + 1)), .int (xs (i + 2)), .int (xs (i + 3)), .int (xs (i + 4)), .int (xs (i + 5))] 128 zy_X12_feed zw_1549 (by decide) (zF_128 _ _ _ _) rfl (k2 _ _) ⟨Nat.le_of_ble_eq_true rfl, Nat.le_of_ble_eq_true rfl, by show _ ≤ 600000; (try dsimp only); omega, by show _ ≤ 7302249; (try dsimp only); omega⟩ rfl rfl (by first | decide | simp [Value.category]) dl_223 rfl ?_
  refine zb_icmp_eq E dl_226 (tgt := 1159) rfl (fun _ => ?_) (fun h => absurd rfl h)
  exact zb_wide (by (try dsimp only); omega) (by (try dsimp only); omega) (kk _ hI2)
theorem la_end {C : zC} {cs : Nat × Nat} {b L i n : Nat} {xs : Nat → Int32} (E : zEl C) (hc : zSc C b L xs) (hi : i + 6 ≤ L) (hL : L ≤ 3072) (hn : n ≤ 512) {I : Nat → Nat → Int32} {J : Nat → Nat → Int64} {Rr : Nat → Nat → Option Nat} {D : zD} (hI : INV n I J Rr D) (h1 : cs.1 + 27 ≤ 600000) (h2 : cs.2 + 794 ≤ 7302249) (kk : ∀ S2, INVs (n + 1) S2 → zB C (cs.1 + 27, cs.2 + 794) 1159 (lvl C b i) [] S2) : zB C cs 231 (lvl C b i) [] (I, J, Rr, D) := by
  obtain ⟨r, S1, S2, k1, k2, hI2⟩ := arm_end (by omega) hI (a1 := xs (i + 1))
  refine zb_aload_n E dl_231 2 rfl rfl ?_
  refine la_arg E hc hi hL 1 (by decide) (kz := 1) rfl dl_232 dl_233 dl_234 dl_235 dl_236 ?_
  refine zb_cVi E [.int (xs (i + 1))] 0 zy_X11_end zw_384 (by decide) (zF_0 _ _ _ _) rfl (k1 _ _) ⟨Nat.le_of_ble_eq_true rfl, Nat.le_of_ble_eq_true rfl, by show _ ≤ 600000; (try dsimp only); omega, by show _ ≤ 7302249; (try dsimp only); omega⟩ rfl rfl (by first | decide | simp [Value.category]) dl_237 rfl ?_
  refine zb_aload_n E dl_240 3 rfl rfl ?_
  refine la_arg E hc hi hL 1 (by decide) (kz := 1) rfl dl_241 dl_242 dl_243 dl_244 dl_245 ?_
  refine zb_cVi E [.int (xs (i + 1))] 128 zy_X12_end zw_1553 (by decide) (zF_128 _ _ _ _) rfl (k2 _ _) ⟨Nat.le_of_ble_eq_true rfl, Nat.le_of_ble_eq_true rfl, by show _ ≤ 600000; (try dsimp only); omega, by show _ ≤ 7302249; (try dsimp only); omega⟩ rfl rfl (by first | decide | simp [Value.category]) dl_246 rfl ?_
  refine zb_icmp_eq E dl_249 (tgt := 1159) rfl (fun _ => ?_) (fun h => absurd rfl h)
  exact zb_wide (by (try dsimp only); omega) (by (try dsimp only); omega) (kk _ hI2)
theorem la_put {C : zC} {cs : Nat × Nat} {b L i n : Nat} {xs : Nat → Int32} (E : zEl C) (hc : zSc C b L xs) (hi : i + 6 ≤ L) (hL : L ≤ 3072) (hn : n ≤ 512) {I : Nat → Nat → Int32} {J : Nat → Nat → Int64} {Rr : Nat → Nat → Option Nat} {D : zD} (hI : INV n I J Rr D) (h1 : cs.1 + 27 ≤ 600000) (h2 : cs.2 + 794 ≤ 7302249) (kk : ∀ S2, INVs (n + 1) S2 → zB C (cs.1 + 27, cs.2 + 794) 1159 (lvl C b i) [] S2) : zB C cs 254 (lvl C b i) [] (I, J, Rr, D) := by
  obtain ⟨r, S1, S2, k1, k2, hI2⟩ := arm_put (by omega) hI (a1 := xs (i + 1)) (a2 := xs (i + 2))
  refine zb_aload_n E dl_254 2 rfl rfl ?_
  refine la_arg E hc hi hL 1 (by decide) (kz := 1) rfl dl_255 dl_256 dl_257 dl_258 dl_259 ?_
  refine la_arg E hc hi hL 2 (by decide) (kz := 2) rfl dl_260 dl_261 dl_262 dl_263 dl_264 ?_
  refine zb_cVi E [.int (xs (i + 1)), .int (xs (i + 2))] 0 zy_X11_put zw_392 (by decide) (zF_0 _ _ _ _) rfl (k1 _ _) ⟨Nat.le_of_ble_eq_true rfl, Nat.le_of_ble_eq_true rfl, by show _ ≤ 600000; (try dsimp only); omega, by show _ ≤ 7302249; (try dsimp only); omega⟩ rfl rfl (by first | decide | simp [Value.category]) dl_265 rfl ?_
  refine zb_aload_n E dl_268 3 rfl rfl ?_
  refine la_arg E hc hi hL 1 (by decide) (kz := 1) rfl dl_269 dl_270 dl_271 dl_272 dl_273 ?_
  refine la_arg E hc hi hL 2 (by decide) (kz := 2) rfl dl_274 dl_275 dl_276 dl_277 dl_278 ?_
  refine zb_cVi E [.int (xs (i + 1)), .int (xs (i + 2))] 128 zy_X12_put zw_1424 (by decide) (zF_128 _ _ _ _) rfl (k2 _ _) ⟨Nat.le_of_ble_eq_true rfl, Nat.le_of_ble_eq_true rfl, by show _ ≤ 600000; (try dsimp only); omega, by show _ ≤ 7302249; (try dsimp only); omega⟩ rfl rfl (by first | decide | simp [Value.category]) dl_279 rfl ?_
  refine zb_icmp_eq E dl_282 (tgt := 1159) rfl (fun _ => ?_) (fun h => absurd rfl h)
  exact zb_wide (by (try dsimp only); omega) (by (try dsimp only); omega) (kk _ hI2)
theorem la_lies {C : zC} {cs : Nat × Nat} {b L i n : Nat} {xs : Nat → Int32} (E : zEl C) (hc : zSc C b L xs) (hi : i + 6 ≤ L) (hL : L ≤ 3072) (hn : n ≤ 512) {I : Nat → Nat → Int32} {J : Nat → Nat → Int64} {Rr : Nat → Nat → Option Nat} {D : zD} (hI : INV n I J Rr D) (h1 : cs.1 + 27 ≤ 600000) (h2 : cs.2 + 794 ≤ 7302249) (kk : ∀ S2, INVs (n + 1) S2 → zB C (cs.1 + 27, cs.2 + 794) 1159 (lvl C b i) [] S2) : zB C cs 287 (lvl C b i) [] (I, J, Rr, D) := by
  obtain ⟨r, S1, S2, k1, k2, hI2⟩ := arm_lies (by omega) hI (a1 := xs (i + 1))
  refine zb_aload_n E dl_287 2 rfl rfl ?_
  refine la_arg E hc hi hL 1 (by decide) (kz := 1) rfl dl_288 dl_289 dl_290 dl_291 dl_292 ?_
  refine zb_cVi E [.int (xs (i + 1))] 0 zy_X11_lies zw_403 (by decide) (zF_0 _ _ _ _) rfl (k1 _ _) ⟨Nat.le_of_ble_eq_true rfl, Nat.le_of_ble_eq_true rfl, by show _ ≤ 600000; (try dsimp only); omega, by show _ ≤ 7302249; (try dsimp only); omega⟩ rfl rfl (by first | decide | simp [Value.category]) dl_293 rfl ?_
  refine zb_aload_n E dl_296 3 rfl rfl ?_
  refine la_arg E hc hi hL 1 (by decide) (kz := 1) rfl dl_297 dl_298 dl_299 dl_300 dl_301 ?_
  refine zb_cVi E [.int (xs (i + 1))] 128 zy_X12_lies zw_1433 (by decide) (zF_128 _ _ _ _) rfl (k2 _ _) ⟨Nat.le_of_ble_eq_true rfl, Nat.le_of_ble_eq_true rfl, by show _ ≤ 600000; (try dsimp only); omega, by show _ ≤ 7302249; (try dsimp only); omega⟩ rfl rfl (by first | decide | simp [Value.category]) dl_302 rfl ?_
  refine zb_icmp_eq E dl_305 (tgt := 1159) rfl (fun _ => ?_) (fun h => absurd rfl h)
  exact zb_wide (by (try dsimp only); omega) (by (try dsimp only); omega) (kk _ hI2)
theorem la_worth {C : zC} {cs : Nat × Nat} {b L i n : Nat} {xs : Nat → Int32} (E : zEl C) (hc : zSc C b L xs) (hi : i + 6 ≤ L) (hL : L ≤ 3072) (hn : n ≤ 512) {I : Nat → Nat → Int32} {J : Nat → Nat → Int64} {Rr : Nat → Nat → Option Nat} {D : zD} (hI : INV n I J Rr D) (h1 : cs.1 + 27 ≤ 600000) (h2 : cs.2 + 794 ≤ 7302249) (kk : ∀ S2, INVs (n + 1) S2 → zB C (cs.1 + 27, cs.2 + 794) 1159 (lvl C b i) [] S2) : zB C cs 310 (lvl C b i) [] (I, J, Rr, D) := by
  obtain ⟨r, S1, S2, k1, k2, hI2⟩ := arm_worth (by omega) hI 
  refine zb_aload_n E dl_310 2 rfl rfl ?_
  refine zb_cVl E [] 0 zy_X11_worth zw_411 (by decide) (zF_0 _ _ _ _) rfl (k1 _ _) ⟨Nat.le_of_ble_eq_true rfl, Nat.le_of_ble_eq_true rfl, by show _ ≤ 600000; (try dsimp only); omega, by show _ ≤ 7302249; (try dsimp only); omega⟩ rfl rfl (by first | decide | simp [Value.category]) dl_311 rfl ?_
  refine zb_aload_n E dl_314 3 rfl rfl ?_
  refine zb_cVl E [] 128 zy_X12_worth zw_1437 (by decide) (zF_128 _ _ _ _) rfl (k2 _ _) ⟨Nat.le_of_ble_eq_true rfl, Nat.le_of_ble_eq_true rfl, by show _ ≤ 600000; (try dsimp only); omega, by show _ ≤ 7302249; (try dsimp only); omega⟩ rfl rfl (by first | decide | simp [Value.category]) dl_315 rfl ?_
  refine zb_lcmp E dl_318 ?_
  refine zb_if_eq E dl_319 (tgt := 1159) rfl (fun _ => ?_) (fun h => absurd (lg_cmp_same r) h)
  exact zb_wide (by (try dsimp only); omega) (by (try dsimp only); omega) (kk _ hI2)
theorem la_plain {C : zC} {cs : Nat × Nat} {b L i n : Nat} {xs : Nat → Int32} (E : zEl C) (hc : zSc C b L xs) (hi : i + 6 ≤ L) (hL : L ≤ 3072) (hn : n ≤ 512) {I : Nat → Nat → Int32} {J : Nat → Nat → Int64} {Rr : Nat → Nat → Option Nat} {D : zD} (hI : INV n I J Rr D) (h1 : cs.1 + 27 ≤ 600000) (h2 : cs.2 + 794 ≤ 7302249) (kk : ∀ S2, INVs (n + 1) S2 → zB C (cs.1 + 27, cs.2 + 794) 1159 (lvl C b i) [] S2) : zB C cs 324 (lvl C b i) [] (I, J, Rr, D) := by
  obtain ⟨r, S1, S2, k1, k2, hI2⟩ := arm_plain (by omega) hI (a1 := xs (i + 1)) (a2 := xs (i + 2))
  refine zb_aload_n E dl_324 2 rfl rfl ?_
  refine la_arg E hc hi hL 1 (by decide) (kz := 1) rfl dl_325 dl_326 dl_327 dl_328 dl_329 ?_
  refine la_arg E hc hi hL 2 (by decide) (kz := 2) rfl dl_330 dl_331 dl_332 dl_333 dl_334 ?_
  refine zb_cVi E [.int (xs (i + 1)), .int (xs (i + 2))] 0 zy_X11_plain zw_421 (by decide) (zF_0 _ _ _ _) rfl (k1 _ _) ⟨Nat.le_of_ble_eq_true rfl, Nat.le_of_ble_eq_true rfl, by show _ ≤ 600000; (try dsimp only); omega, by show _ ≤ 7302249; (try dsimp only); omega⟩ rfl rfl (by first | decide | simp [Value.category]) dl_335 rfl ?_
  refine zb_aload_n E dl_338 3 rfl rfl ?_
  refine la_arg E hc hi hL 1 (by decide) (kz := 1) rfl dl_339 dl_340 dl_341 dl_342 dl_343 ?_
  refine la_arg E hc hi hL 2 (by decide) (kz := 2) rfl dl_344 dl_345 dl_346 dl_347 dl_348 ?_
  refine zb_cVi E [.int (xs (i + 1)), .int (xs (i + 2))] 128 zy_X12_plain zw_1445 (by decide) (zF_128 _ _ _ _) rfl (k2 _ _) ⟨Nat.le_of_ble_eq_true rfl, Nat.le_of_ble_eq_true rfl, by show _ ≤ 600000; (try dsimp only); omega, by show _ ≤ 7302249; (try dsimp only); omega⟩ rfl rfl (by first | decide | simp [Value.category]) dl_349 rfl ?_
  refine zb_icmp_eq E dl_352 (tgt := 1159) rfl (fun _ => ?_) (fun h => absurd rfl h)
  exact zb_wide (by (try dsimp only); omega) (by (try dsimp only); omega) (kk _ hI2)
theorem la_lay {C : zC} {cs : Nat × Nat} {b L i n : Nat} {xs : Nat → Int32} (E : zEl C) (hc : zSc C b L xs) (hi : i + 6 ≤ L) (hL : L ≤ 3072) (hn : n ≤ 512) {I : Nat → Nat → Int32} {J : Nat → Nat → Int64} {Rr : Nat → Nat → Option Nat} {D : zD} (hI : INV n I J Rr D) (h1 : cs.1 + 27 ≤ 600000) (h2 : cs.2 + 794 ≤ 7302249) (kk : ∀ S2, INVs (n + 1) S2 → zB C (cs.1 + 27, cs.2 + 794) 1159 (lvl C b i) [] S2) : zB C cs 357 (lvl C b i) [] (I, J, Rr, D) := by
  obtain ⟨r, S1, S2, k1, k2, hI2⟩ := arm_lay (by omega) hI (a1 := xs (i + 1))
  refine zb_aload_n E dl_357 2 rfl rfl ?_
  refine la_arg E hc hi hL 1 (by decide) (kz := 1) rfl dl_358 dl_359 dl_360 dl_361 dl_362 ?_
  refine zb_cVi E [.int (xs (i + 1))] 0 zy_X11_lay zw_434 (by decide) (zF_0 _ _ _ _) rfl (k1 _ _) ⟨Nat.le_of_ble_eq_true rfl, Nat.le_of_ble_eq_true rfl, by show _ ≤ 600000; (try dsimp only); omega, by show _ ≤ 7302249; (try dsimp only); omega⟩ rfl rfl (by first | decide | simp [Value.category]) dl_363 rfl ?_
  refine zb_aload_n E dl_366 3 rfl rfl ?_
  refine la_arg E hc hi hL 1 (by decide) (kz := 1) rfl dl_367 dl_368 dl_369 dl_370 dl_371 ?_
  refine zb_cVi E [.int (xs (i + 1))] 128 zy_X12_lay zw_1454 (by decide) (zF_128 _ _ _ _) rfl (k2 _ _) ⟨Nat.le_of_ble_eq_true rfl, Nat.le_of_ble_eq_true rfl, by show _ ≤ 600000; (try dsimp only); omega, by show _ ≤ 7302249; (try dsimp only); omega⟩ rfl rfl (by first | decide | simp [Value.category]) dl_372 rfl ?_
  refine zb_icmp_eq E dl_375 (tgt := 1159) rfl (fun _ => ?_) (fun h => absurd rfl h)
  exact zb_wide (by (try dsimp only); omega) (by (try dsimp only); omega) (kk _ hI2)
theorem la_draw {C : zC} {cs : Nat × Nat} {b L i n : Nat} {xs : Nat → Int32} (E : zEl C) (hc : zSc C b L xs) (hi : i + 6 ≤ L) (hL : L ≤ 3072) (hn : n ≤ 512) {I : Nat → Nat → Int32} {J : Nat → Nat → Int64} {Rr : Nat → Nat → Option Nat} {D : zD} (hI : INV n I J Rr D) (h1 : cs.1 + 27 ≤ 600000) (h2 : cs.2 + 794 ≤ 7302249) (kk : ∀ S2, INVs (n + 1) S2 → zB C (cs.1 + 27, cs.2 + 794) 1159 (lvl C b i) [] S2) : zB C cs 380 (lvl C b i) [] (I, J, Rr, D) := by
  obtain ⟨r, S1, S2, k1, k2, hI2⟩ := arm_draw (by omega) hI (a1 := xs (i + 1))
  refine zb_aload_n E dl_380 2 rfl rfl ?_
  refine la_arg E hc hi hL 1 (by decide) (kz := 1) rfl dl_381 dl_382 dl_383 dl_384 dl_385 ?_
  refine zb_cVi E [.int (xs (i + 1))] 0 zy_X11_draw zw_451 (by decide) (zF_0 _ _ _ _) rfl (k1 _ _) ⟨Nat.le_of_ble_eq_true rfl, Nat.le_of_ble_eq_true rfl, by show _ ≤ 600000; (try dsimp only); omega, by show _ ≤ 7302249; (try dsimp only); omega⟩ rfl rfl (by first | decide | simp [Value.category]) dl_386 rfl ?_
  refine zb_aload_n E dl_389 3 rfl rfl ?_
  refine la_arg E hc hi hL 1 (by decide) (kz := 1) rfl dl_390 dl_391 dl_392 dl_393 dl_394 ?_
  refine zb_cVi E [.int (xs (i + 1))] 128 zy_X12_draw zw_1466 (by decide) (zF_128 _ _ _ _) rfl (k2 _ _) ⟨Nat.le_of_ble_eq_true rfl, Nat.le_of_ble_eq_true rfl, by show _ ≤ 600000; (try dsimp only); omega, by show _ ≤ 7302249; (try dsimp only); omega⟩ rfl rfl (by first | decide | simp [Value.category]) dl_395 rfl ?_
  refine zb_icmp_eq E dl_398 (tgt := 1159) rfl (fun _ => ?_) (fun h => absurd rfl h)
  exact zb_wide (by (try dsimp only); omega) (by (try dsimp only); omega) (kk _ hI2)
theorem la_steps {C : zC} {cs : Nat × Nat} {b L i n : Nat} {xs : Nat → Int32} (E : zEl C) (hc : zSc C b L xs) (hi : i + 6 ≤ L) (hL : L ≤ 3072) (hn : n ≤ 512) {I : Nat → Nat → Int32} {J : Nat → Nat → Int64} {Rr : Nat → Nat → Option Nat} {D : zD} (hI : INV n I J Rr D) (h1 : cs.1 + 27 ≤ 600000) (h2 : cs.2 + 794 ≤ 7302249) (kk : ∀ S2, INVs (n + 1) S2 → zB C (cs.1 + 27, cs.2 + 794) 1159 (lvl C b i) [] S2) : zB C cs 403 (lvl C b i) [] (I, J, Rr, D) := by
  obtain ⟨r, S1, S2, k1, k2, hI2⟩ := arm_steps (by omega) hI (a1 := xs (i + 1))
  refine zb_aload_n E dl_403 2 rfl rfl ?_
  refine la_arg E hc hi hL 1 (by decide) (kz := 1) rfl dl_404 dl_405 dl_406 dl_407 dl_408 ?_
  refine zb_cVi E [.int (xs (i + 1))] 0 zy_X11_steps zw_463 (by decide) (zF_0 _ _ _ _) rfl (k1 _ _) ⟨Nat.le_of_ble_eq_true rfl, Nat.le_of_ble_eq_true rfl, by show _ ≤ 600000; (try dsimp only); omega, by show _ ≤ 7302249; (try dsimp only); omega⟩ rfl rfl (by first | decide | simp [Value.category]) dl_409 rfl ?_
  refine zb_aload_n E dl_412 3 rfl rfl ?_
  refine la_arg E hc hi hL 1 (by decide) (kz := 1) rfl dl_413 dl_414 dl_415 dl_416 dl_417 ?_
  refine zb_cVi E [.int (xs (i + 1))] 128 zy_X12_steps zw_1475 (by decide) (zF_128 _ _ _ _) rfl (k2 _ _) ⟨Nat.le_of_ble_eq_true rfl, Nat.le_of_ble_eq_true rfl, by show _ ≤ 600000; (try dsimp only); omega, by show _ ≤ 7302249; (try dsimp only); omega⟩ rfl rfl (by first | decide | simp [Value.category]) dl_418 rfl ?_
  refine zb_icmp_eq E dl_421 (tgt := 1159) rfl (fun _ => ?_) (fun h => absurd rfl h)
  exact zb_wide (by (try dsimp only); omega) (by (try dsimp only); omega) (kk _ hI2)
theorem la_cut {C : zC} {cs : Nat × Nat} {b L i n : Nat} {xs : Nat → Int32} (E : zEl C) (hc : zSc C b L xs) (hi : i + 6 ≤ L) (hL : L ≤ 3072) (hn : n ≤ 512) {I : Nat → Nat → Int32} {J : Nat → Nat → Int64} {Rr : Nat → Nat → Option Nat} {D : zD} (hI : INV n I J Rr D) (h1 : cs.1 + 27 ≤ 600000) (h2 : cs.2 + 794 ≤ 7302249) (kk : ∀ S2, INVs (n + 1) S2 → zB C (cs.1 + 27, cs.2 + 794) 1159 (lvl C b i) [] S2) : zB C cs 426 (lvl C b i) [] (I, J, Rr, D) := by
  by_cases hz : xs (i + 1) = 0
  · obtain ⟨r, S1, S2, k1, k2, hI2⟩ := arm_cut (by omega) hI (a1 := 0) (a2 := xs (i + 2)) (a3 := xs (i + 3)) (a4 := xs (i + 4))
    refine zb_aload_n E dl_426 2 rfl rfl ?_
    refine la_arg E hc hi hL 1 (by decide) (kz := 1) rfl dl_427 dl_428 dl_429 dl_430 dl_431 ?_
    refine zb_if_eq E dl_432 (tgt := 439) rfl (fun _ => ?_) (fun h => absurd hz h)
    refine zb_iconst E dl_439 (v := 0) rfl ?_
    refine la_arg E hc hi hL 2 (by decide) (kz := 2) rfl dl_440 dl_441 dl_442 dl_443 dl_444 ?_
    refine la_arg E hc hi hL 3 (by decide) (kz := 3) rfl dl_445 dl_446 dl_447 dl_448 dl_449 ?_
    refine la_arg E hc hi hL 4 (by decide) (kz := 4) rfl dl_450 dl_451 dl_452 dl_453 dl_454 ?_
    refine zb_cVi E [.int (0), .int (xs (i + 2)), .int (xs (i + 3)), .int (xs (i + 4))] 0 zy_X11_cut zw_483 (by decide) (zF_0 _ _ _ _) rfl (k1 _ _) ⟨Nat.le_of_ble_eq_true rfl, Nat.le_of_ble_eq_true rfl, by show _ ≤ 600000; (try dsimp only); omega, by show _ ≤ 7302249; (try dsimp only); omega⟩ rfl rfl (by first | decide | simp [Value.category]) dl_455 rfl ?_
    refine zb_aload_n E dl_458 3 rfl rfl ?_
    refine la_arg E hc hi hL 1 (by decide) (kz := 1) rfl dl_459 dl_460 dl_461 dl_462 dl_463 ?_
    refine zb_if_eq E dl_464 (tgt := 471) rfl (fun _ => ?_) (fun h => absurd hz h)
    refine zb_iconst E dl_471 (v := 0) rfl ?_
    refine la_arg E hc hi hL 2 (by decide) (kz := 2) rfl dl_472 dl_473 dl_474 dl_475 dl_476 ?_
    refine la_arg E hc hi hL 3 (by decide) (kz := 3) rfl dl_477 dl_478 dl_479 dl_480 dl_481 ?_
    refine la_arg E hc hi hL 4 (by decide) (kz := 4) rfl dl_482 dl_483 dl_484 dl_485 dl_486 ?_
    refine zb_cVi E [.int (0), .int (xs (i + 2)), .int (xs (i + 3)), .int (xs (i + 4))] 128 zy_X12_cut zw_1483 (by decide) (zF_128 _ _ _ _) rfl (k2 _ _) ⟨Nat.le_of_ble_eq_true rfl, Nat.le_of_ble_eq_true rfl, by show _ ≤ 600000; (try dsimp only); omega, by show _ ≤ 7302249; (try dsimp only); omega⟩ rfl rfl (by first | decide | simp [Value.category]) dl_487 rfl ?_
    refine zb_icmp_eq E dl_490 (tgt := 1159) rfl (fun _ => ?_) (fun h => absurd rfl h)
    exact zb_wide (by (try dsimp only); omega) (by (try dsimp only); omega) (kk _ hI2)
  · obtain ⟨r, S1, S2, k1, k2, hI2⟩ := arm_cut (by omega) hI (a1 := 1) (a2 := xs (i + 2)) (a3 := xs (i + 3)) (a4 := xs (i + 4))
    refine zb_aload_n E dl_426 2 rfl rfl ?_
    refine la_arg E hc hi hL 1 (by decide) (kz := 1) rfl dl_427 dl_428 dl_429 dl_430 dl_431 ?_
    refine zb_if_eq E dl_432 (tgt := 439) rfl (fun h => absurd h hz) (fun _ => ?_)
    refine zb_iconst E dl_435 (v := 1) rfl ?_
    refine zb_goto E dl_436 (tgt := 440) rfl ?_
    refine la_arg E hc hi hL 2 (by decide) (kz := 2) rfl dl_440 dl_441 dl_442 dl_443 dl_444 ?_
    refine la_arg E hc hi hL 3 (by decide) (kz := 3) rfl dl_445 dl_446 dl_447 dl_448 dl_449 ?_
    refine la_arg E hc hi hL 4 (by decide) (kz := 4) rfl dl_450 dl_451 dl_452 dl_453 dl_454 ?_
    refine zb_cVi E [.int (1), .int (xs (i + 2)), .int (xs (i + 3)), .int (xs (i + 4))] 0 zy_X11_cut zw_483 (by decide) (zF_0 _ _ _ _) rfl (k1 _ _) ⟨Nat.le_of_ble_eq_true rfl, Nat.le_of_ble_eq_true rfl, by show _ ≤ 600000; (try dsimp only); omega, by show _ ≤ 7302249; (try dsimp only); omega⟩ rfl rfl (by first | decide | simp [Value.category]) dl_455 rfl ?_
    refine zb_aload_n E dl_458 3 rfl rfl ?_
    refine la_arg E hc hi hL 1 (by decide) (kz := 1) rfl dl_459 dl_460 dl_461 dl_462 dl_463 ?_
    refine zb_if_eq E dl_464 (tgt := 471) rfl (fun h => absurd h hz) (fun _ => ?_)
    refine zb_iconst E dl_467 (v := 1) rfl ?_
    refine zb_goto E dl_468 (tgt := 472) rfl ?_
    refine la_arg E hc hi hL 2 (by decide) (kz := 2) rfl dl_472 dl_473 dl_474 dl_475 dl_476 ?_
    refine la_arg E hc hi hL 3 (by decide) (kz := 3) rfl dl_477 dl_478 dl_479 dl_480 dl_481 ?_
    refine la_arg E hc hi hL 4 (by decide) (kz := 4) rfl dl_482 dl_483 dl_484 dl_485 dl_486 ?_
    refine zb_cVi E [.int (1), .int (xs (i + 2)), .int (xs (i + 3)), .int (xs (i + 4))] 128 zy_X12_cut zw_1483 (by decide) (zF_128 _ _ _ _) rfl (k2 _ _) ⟨Nat.le_of_ble_eq_true rfl, Nat.le_of_ble_eq_true rfl, by show _ ≤ 600000; (try dsimp only); omega, by show _ ≤ 7302249; (try dsimp only); omega⟩ rfl rfl (by first | decide | simp [Value.category]) dl_487 rfl ?_
    refine zb_icmp_eq E dl_490 (tgt := 1159) rfl (fun _ => ?_) (fun h => absurd rfl h)
    exact zb_wide (by (try dsimp only); omega) (by (try dsimp only); omega) (kk _ hI2)
