theorem law_out {G : zG} {L : zL} {h : zH} {c n : Nat} : zR zTt G cd_L 600000 7302250 (some .boolean) (zW zTt G 12) (fun w _ => w = some (.int 1)) 2149 L [] h c n := by
  refine r_push (zW_mono _ _ _) lq_2149 ?_
  exact r_iret (zW_mono _ _ _) lq_2150 rfl (by decide +kernel) rfl
theorem law_end {G : zG} (hN : G.2.2.1 = 8) {h : zH} {c n : Nat} : zR zTt G cd_L 600000 7302250 (some .boolean) (zW zTt G 12) (fun w _ => w = some (.int 1)) 2143 [some (.retAddr 0), some (.ref 0), some (.ref 111), some (.int 0)] [] h c n := by
  refine r_iinc (zW_mono _ _ _) lq_2143 rfl (Nat.le_of_ble_eq_true rfl) ?_
  refine r_goto (zW_mono _ _ _) lq_2146 ?_
  refine r_iload (zW_mono _ _ _) lq_18 rfl ?_
  refine r_aloadS (zW_mono _ _ _) lq_19 rfl ?_
  refine r_slen (zW_mono _ _ _) lq_20 ?_
  refine r_push (zW_mono _ _ _) lq_21 ?_
  refine r_isub (zW_mono _ _ _) lq_23 ?_
  rw [hN]
  refine r_icmp_gt (zW_mono _ _ _) lq_24 (fun _ => law_out) (fun q => absurd q (by decide +kernel))
set_option maxHeartbeats 1000000 in
theorem lawop_clock {G : zG} (hG : G.1 = zProg) (hT : G.2.1 = ztx) (hN : G.2.2.1 = 8) {c n : Nat} (hc : c ≤ 1000) (hn : n ≤ 100000) : zR zTt G cd_L 600000 7302250 (some .boolean) (zW zTt G 12) (fun w _ => w = some (.int 1)) 240 [some (.retAddr 0), some (.ref 0), some (.ref 111), some (.int 0)] [] (dzH dH0) c n := by
  have v1 : vp_in ((0 : Int32) + 1) G.2.2.1 := by rw [hN]; exact vp_in_iff.mpr ⟨by decide +kernel, by decide +kernel⟩
  have hB := hG
  refine r_aload (zW_mono _ _ _) lq_240 rfl ?_
  refine r_aloadS (zW_mono _ _ _) lq_241 rfl ?_
  refine r_iload (zW_mono _ _ _) lq_242 rfl ?_
  refine r_push (zW_mono _ _ _) lq_243 ?_
  refine r_iadd (zW_mono _ _ _) lq_244 ?_
  refine r_sld (zW_mono _ _ _) lq_245 v1 ?_
  refine r_virt1 (m1 := 0) (m2 := 0) (zW_mono _ _ _) lq_246 hx_0 (Nat.le_of_ble_eq_true rfl) (by unfold zbud; rw [hB]; rfl) (by omega) (by omega) ?_
  refine zW_mono zTt G 12 _ _ _ _ _ ?_ (op_clock hG _)
  rintro w h2 ⟨x9, rfl, ⟨fs9, hr9⟩, k9⟩
  refine r_aload (zW_mono _ _ _) lq_249 rfl ?_
  refine r_aloadS (zW_mono _ _ _) lq_250 rfl ?_
  refine r_iload (zW_mono _ _ _) lq_251 rfl ?_
  refine r_push (zW_mono _ _ _) lq_252 ?_
  refine r_iadd (zW_mono _ _ _) lq_253 ?_
  refine r_sld (zW_mono _ _ _) lq_254 v1 ?_
  refine r_virt1 (m1 := 0) (m2 := 0) (zW_mono _ _ _) lq_255 hr9 (Nat.le_of_ble_eq_true rfl) (by unfold zbud; rw [hB]; rfl) (by omega) (by omega) ?_
  refine zW_mono zTt G 12 _ _ _ _ _ ?_ k9
  rintro w h3 rfl
  refine r_icmp_eq (zW_mono _ _ _) lq_258 (fun _ => ?_) (fun q => absurd rfl q)
  exact law_end hN
set_option maxHeartbeats 1000000 in
theorem lawop_person {G : zG} (hG : G.1 = zProg) (hT : G.2.1 = ztx) (hN : G.2.2.1 = 8) {c n : Nat} (hc : c ≤ 1000) (hn : n ≤ 100000) : zR zTt G cd_L 600000 7302250 (some .boolean) (zW zTt G 12) (fun w _ => w = some (.int 1)) 263 [some (.retAddr 0), some (.ref 0), some (.ref 111), some (.int 0)] [] (dzH dH0) c n := by
  have v1 : vp_in ((0 : Int32) + 1) G.2.2.1 := by rw [hN]; exact vp_in_iff.mpr ⟨by decide +kernel, by decide +kernel⟩
  have hB := hG
  refine r_aload (zW_mono _ _ _) lq_263 rfl ?_
  refine r_aloadS (zW_mono _ _ _) lq_264 rfl ?_
  refine r_iload (zW_mono _ _ _) lq_265 rfl ?_
  refine r_push (zW_mono _ _ _) lq_266 ?_
  refine r_iadd (zW_mono _ _ _) lq_267 ?_
  refine r_sld (zW_mono _ _ _) lq_268 v1 ?_
  refine r_virt1 (m1 := 0) (m2 := 0) (zW_mono _ _ _) lq_269 hx_0 (Nat.le_of_ble_eq_true rfl) (by unfold zbud; rw [hB]; rfl) (by omega) (by omega) ?_
  refine zW_mono zTt G 12 _ _ _ _ _ ?_ (op_person hG _)
  rintro w h2 ⟨x9, rfl, ⟨fs9, hr9⟩, k9⟩
  refine r_aload (zW_mono _ _ _) lq_272 rfl ?_
  refine r_aloadS (zW_mono _ _ _) lq_273 rfl ?_
  refine r_iload (zW_mono _ _ _) lq_274 rfl ?_
  refine r_push (zW_mono _ _ _) lq_275 ?_
  refine r_iadd (zW_mono _ _ _) lq_276 ?_
  refine r_sld (zW_mono _ _ _) lq_277 v1 ?_
  refine r_virt1 (m1 := 0) (m2 := 0) (zW_mono _ _ _) lq_278 hr9 (Nat.le_of_ble_eq_true rfl) (by unfold zbud; rw [hB]; rfl) (by omega) (by omega) ?_
  refine zW_mono zTt G 12 _ _ _ _ _ ?_ k9
  rintro w h3 rfl
  refine r_icmp_eq (zW_mono _ _ _) lq_281 (fun _ => ?_) (fun q => absurd rfl q)
  exact law_end hN
set_option maxHeartbeats 1000000 in
theorem lawop_factor {G : zG} (hG : G.1 = zProg) (hT : G.2.1 = ztx) (hN : G.2.2.1 = 8) {c n : Nat} (hc : c ≤ 1000) (hn : n ≤ 100000) : zR zTt G cd_L 600000 7302250 (some .boolean) (zW zTt G 12) (fun w _ => w = some (.int 1)) 286 [some (.retAddr 0), some (.ref 0), some (.ref 111), some (.int 0)] [] (dzH dH0) c n := by
  have v1 : vp_in ((0 : Int32) + 1) G.2.2.1 := by rw [hN]; exact vp_in_iff.mpr ⟨by decide +kernel, by decide +kernel⟩
  have v2 : vp_in ((0 : Int32) + 2) G.2.2.1 := by rw [hN]; exact vp_in_iff.mpr ⟨by decide +kernel, by decide +kernel⟩
  have hB := hG
  refine r_aload (zW_mono _ _ _) lq_286 rfl ?_
  refine r_aloadS (zW_mono _ _ _) lq_287 rfl ?_
  refine r_iload (zW_mono _ _ _) lq_288 rfl ?_
  refine r_push (zW_mono _ _ _) lq_289 ?_
  refine r_iadd (zW_mono _ _ _) lq_290 ?_
  refine r_sld (zW_mono _ _ _) lq_291 v1 ?_
  refine r_aloadS (zW_mono _ _ _) lq_292 rfl ?_
  refine r_iload (zW_mono _ _ _) lq_293 rfl ?_
  refine r_push (zW_mono _ _ _) lq_294 ?_
  refine r_iadd (zW_mono _ _ _) lq_295 ?_
  refine r_sld (zW_mono _ _ _) lq_296 v2 ?_
  refine r_virt2 (m1 := 0) (m2 := 0) (zW_mono _ _ _) lq_297 hx_0 (Nat.le_of_ble_eq_true rfl) (by unfold zbud; rw [hB]; rfl) (by omega) (by omega) ?_
  refine zW_mono zTt G 12 _ _ _ _ _ ?_ (op_factor hG _ _)
  rintro w h2 ⟨x9, rfl, ⟨fs9, hr9⟩, k9⟩
  refine r_aload (zW_mono _ _ _) lq_300 rfl ?_
  refine r_aloadS (zW_mono _ _ _) lq_301 rfl ?_
  refine r_iload (zW_mono _ _ _) lq_302 rfl ?_
  refine r_push (zW_mono _ _ _) lq_303 ?_
  refine r_iadd (zW_mono _ _ _) lq_304 ?_
  refine r_sld (zW_mono _ _ _) lq_305 v1 ?_
  refine r_aloadS (zW_mono _ _ _) lq_306 rfl ?_
  refine r_iload (zW_mono _ _ _) lq_307 rfl ?_
  refine r_push (zW_mono _ _ _) lq_308 ?_
  refine r_iadd (zW_mono _ _ _) lq_309 ?_
  refine r_sld (zW_mono _ _ _) lq_310 v2 ?_
  refine r_virt2 (m1 := 0) (m2 := 0) (zW_mono _ _ _) lq_311 hr9 (Nat.le_of_ble_eq_true rfl) (by unfold zbud; rw [hB]; rfl) (by omega) (by omega) ?_
  refine zW_mono zTt G 12 _ _ _ _ _ ?_ k9
  rintro w h3 rfl
  refine r_icmp_eq (zW_mono _ _ _) lq_314 (fun _ => ?_) (fun q => absurd rfl q)
  exact law_end hN
set_option maxHeartbeats 1000000 in
theorem lawop_kind {G : zG} (hG : G.1 = zProg) (hT : G.2.1 = ztx) (hN : G.2.2.1 = 8) {c n : Nat} (hc : c ≤ 1000) (hn : n ≤ 100000) : zR zTt G cd_L 600000 7302250 (some .boolean) (zW zTt G 12) (fun w _ => w = some (.int 1)) 319 [some (.retAddr 0), some (.ref 0), some (.ref 111), some (.int 0)] [] (dzH dH0) c n := by
  have v1 : vp_in ((0 : Int32) + 1) G.2.2.1 := by rw [hN]; exact vp_in_iff.mpr ⟨by decide +kernel, by decide +kernel⟩
  have v2 : vp_in ((0 : Int32) + 2) G.2.2.1 := by rw [hN]; exact vp_in_iff.mpr ⟨by decide +kernel, by decide +kernel⟩
  have v3 : vp_in ((0 : Int32) + 3) G.2.2.1 := by rw [hN]; exact vp_in_iff.mpr ⟨by decide +kernel, by decide +kernel⟩
  have v4 : vp_in ((0 : Int32) + 4) G.2.2.1 := by rw [hN]; exact vp_in_iff.mpr ⟨by decide +kernel, by decide +kernel⟩
  have hB := hG
  refine r_aload (zW_mono _ _ _) lq_319 rfl ?_
  refine r_aloadS (zW_mono _ _ _) lq_320 rfl ?_
  refine r_iload (zW_mono _ _ _) lq_321 rfl ?_
  refine r_push (zW_mono _ _ _) lq_322 ?_
  refine r_iadd (zW_mono _ _ _) lq_323 ?_
  refine r_sld (zW_mono _ _ _) lq_324 v1 ?_
  refine r_aloadS (zW_mono _ _ _) lq_325 rfl ?_
  refine r_iload (zW_mono _ _ _) lq_326 rfl ?_
  refine r_push (zW_mono _ _ _) lq_327 ?_
  refine r_iadd (zW_mono _ _ _) lq_328 ?_
  refine r_sld (zW_mono _ _ _) lq_329 v2 ?_
  refine r_aloadS (zW_mono _ _ _) lq_330 rfl ?_
  refine r_iload (zW_mono _ _ _) lq_331 rfl ?_
  refine r_push (zW_mono _ _ _) lq_332 ?_
  refine r_iadd (zW_mono _ _ _) lq_333 ?_
  refine r_sld (zW_mono _ _ _) lq_334 v3 ?_
  refine r_aloadS (zW_mono _ _ _) lq_335 rfl ?_
  refine r_iload (zW_mono _ _ _) lq_336 rfl ?_
  refine r_push (zW_mono _ _ _) lq_337 ?_
  refine r_iadd (zW_mono _ _ _) lq_338 ?_
  refine r_sld (zW_mono _ _ _) lq_339 v4 ?_
  refine r_virt4 (m1 := 0) (m2 := 0) (zW_mono _ _ _) lq_340 hx_0 (Nat.le_of_ble_eq_true rfl) (by unfold zbud; rw [hB]; rfl) (by omega) (by omega) ?_
  refine zW_mono zTt G 12 _ _ _ _ _ ?_ (op_kind hG _ _ _ _)
  rintro w h2 ⟨x9, rfl, ⟨fs9, hr9⟩, k9⟩
  refine r_aload (zW_mono _ _ _) lq_343 rfl ?_
  refine r_aloadS (zW_mono _ _ _) lq_344 rfl ?_
  refine r_iload (zW_mono _ _ _) lq_345 rfl ?_
  refine r_push (zW_mono _ _ _) lq_346 ?_
  refine r_iadd (zW_mono _ _ _) lq_347 ?_
  refine r_sld (zW_mono _ _ _) lq_348 v1 ?_
  refine r_aloadS (zW_mono _ _ _) lq_349 rfl ?_
  refine r_iload (zW_mono _ _ _) lq_350 rfl ?_
  refine r_push (zW_mono _ _ _) lq_351 ?_
  refine r_iadd (zW_mono _ _ _) lq_352 ?_
  refine r_sld (zW_mono _ _ _) lq_353 v2 ?_
  refine r_aloadS (zW_mono _ _ _) lq_354 rfl ?_
  refine r_iload (zW_mono _ _ _) lq_355 rfl ?_
  refine r_push (zW_mono _ _ _) lq_356 ?_
  refine r_iadd (zW_mono _ _ _) lq_357 ?_
  refine r_sld (zW_mono _ _ _) lq_358 v3 ?_
  refine r_aloadS (zW_mono _ _ _) lq_359 rfl ?_
  refine r_iload (zW_mono _ _ _) lq_360 rfl ?_
  refine r_push (zW_mono _ _ _) lq_361 ?_
  refine r_iadd (zW_mono _ _ _) lq_362 ?_
  refine r_sld (zW_mono _ _ _) lq_363 v4 ?_
  refine r_virt4 (m1 := 0) (m2 := 0) (zW_mono _ _ _) lq_364 hr9 (Nat.le_of_ble_eq_true rfl) (by unfold zbud; rw [hB]; rfl) (by omega) (by omega) ?_
  refine zW_mono zTt G 12 _ _ _ _ _ ?_ k9
  rintro w h3 rfl
  refine r_icmp_eq (zW_mono _ _ _) lq_367 (fun _ => ?_) (fun q => absurd rfl q)
  exact law_end hN
set_option maxHeartbeats 1000000 in
theorem lawop_part {G : zG} (hG : G.1 = zProg) (hT : G.2.1 = ztx) (hN : G.2.2.1 = 8) {c n : Nat} (hc : c ≤ 1000) (hn : n ≤ 100000) : zR zTt G cd_L 600000 7302250 (some .boolean) (zW zTt G 12) (fun w _ => w = some (.int 1)) 372 [some (.retAddr 0), some (.ref 0), some (.ref 111), some (.int 0)] [] (dzH dH0) c n := by
  have v1 : vp_in ((0 : Int32) + 1) G.2.2.1 := by rw [hN]; exact vp_in_iff.mpr ⟨by decide +kernel, by decide +kernel⟩
  have v2 : vp_in ((0 : Int32) + 2) G.2.2.1 := by rw [hN]; exact vp_in_iff.mpr ⟨by decide +kernel, by decide +kernel⟩
  have v3 : vp_in ((0 : Int32) + 3) G.2.2.1 := by rw [hN]; exact vp_in_iff.mpr ⟨by decide +kernel, by decide +kernel⟩
  have v4 : vp_in ((0 : Int32) + 4) G.2.2.1 := by rw [hN]; exact vp_in_iff.mpr ⟨by decide +kernel, by decide +kernel⟩
  have hB := hG
  refine r_aload (zW_mono _ _ _) lq_372 rfl ?_
  refine r_aloadS (zW_mono _ _ _) lq_373 rfl ?_
  refine r_iload (zW_mono _ _ _) lq_374 rfl ?_
  refine r_push (zW_mono _ _ _) lq_375 ?_
  refine r_iadd (zW_mono _ _ _) lq_376 ?_
  refine r_sld (zW_mono _ _ _) lq_377 v1 ?_
  refine r_aloadS (zW_mono _ _ _) lq_378 rfl ?_
  refine r_iload (zW_mono _ _ _) lq_379 rfl ?_
  refine r_push (zW_mono _ _ _) lq_380 ?_
  refine r_iadd (zW_mono _ _ _) lq_381 ?_
  refine r_sld (zW_mono _ _ _) lq_382 v2 ?_
  refine r_aloadS (zW_mono _ _ _) lq_383 rfl ?_
  refine r_iload (zW_mono _ _ _) lq_384 rfl ?_
  refine r_push (zW_mono _ _ _) lq_385 ?_
  refine r_iadd (zW_mono _ _ _) lq_386 ?_
  refine r_sld (zW_mono _ _ _) lq_387 v3 ?_
  refine r_aloadS (zW_mono _ _ _) lq_388 rfl ?_
  refine r_iload (zW_mono _ _ _) lq_389 rfl ?_
  refine r_push (zW_mono _ _ _) lq_390 ?_
  refine r_iadd (zW_mono _ _ _) lq_391 ?_
  refine r_sld (zW_mono _ _ _) lq_392 v4 ?_
  refine r_virt4 (m1 := 0) (m2 := 0) (zW_mono _ _ _) lq_393 hx_0 (Nat.le_of_ble_eq_true rfl) (by unfold zbud; rw [hB]; rfl) (by omega) (by omega) ?_
  refine zW_mono zTt G 12 _ _ _ _ _ ?_ (op_part hG _ _ _ _)
  rintro w h2 ⟨x9, rfl, ⟨fs9, hr9⟩, k9⟩
  refine r_aload (zW_mono _ _ _) lq_396 rfl ?_
  refine r_aloadS (zW_mono _ _ _) lq_397 rfl ?_
  refine r_iload (zW_mono _ _ _) lq_398 rfl ?_
  refine r_push (zW_mono _ _ _) lq_399 ?_
  refine r_iadd (zW_mono _ _ _) lq_400 ?_
  refine r_sld (zW_mono _ _ _) lq_401 v1 ?_
  refine r_aloadS (zW_mono _ _ _) lq_402 rfl ?_
  refine r_iload (zW_mono _ _ _) lq_403 rfl ?_
  refine r_push (zW_mono _ _ _) lq_404 ?_
  refine r_iadd (zW_mono _ _ _) lq_405 ?_
  refine r_sld (zW_mono _ _ _) lq_406 v2 ?_
  refine r_aloadS (zW_mono _ _ _) lq_407 rfl ?_
  refine r_iload (zW_mono _ _ _) lq_408 rfl ?_
  refine r_push (zW_mono _ _ _) lq_409 ?_
  refine r_iadd (zW_mono _ _ _) lq_410 ?_
  refine r_sld (zW_mono _ _ _) lq_411 v3 ?_
  refine r_aloadS (zW_mono _ _ _) lq_412 rfl ?_
  refine r_iload (zW_mono _ _ _) lq_413 rfl ?_
  refine r_push (zW_mono _ _ _) lq_414 ?_
  refine r_iadd (zW_mono _ _ _) lq_415 ?_
  refine r_sld (zW_mono _ _ _) lq_416 v4 ?_
  refine r_virt4 (m1 := 0) (m2 := 0) (zW_mono _ _ _) lq_417 hr9 (Nat.le_of_ble_eq_true rfl) (by unfold zbud; rw [hB]; rfl) (by omega) (by omega) ?_
  refine zW_mono zTt G 12 _ _ _ _ _ ?_ k9
  rintro w h3 rfl
  refine r_icmp_eq (zW_mono _ _ _) lq_420 (fun _ => ?_) (fun q => absurd rfl q)
  exact law_end hN
set_option maxHeartbeats 1000000 in
theorem lawop_fit {G : zG} (hG : G.1 = zProg) (hT : G.2.1 = ztx) (hN : G.2.2.1 = 8) {c n : Nat} (hc : c ≤ 1000) (hn : n ≤ 100000) : zR zTt G cd_L 600000 7302250 (some .boolean) (zW zTt G 12) (fun w _ => w = some (.int 1)) 425 [some (.retAddr 0), some (.ref 0), some (.ref 111), some (.int 0)] [] (dzH dH0) c n := by
  have v1 : vp_in ((0 : Int32) + 1) G.2.2.1 := by rw [hN]; exact vp_in_iff.mpr ⟨by decide +kernel, by decide +kernel⟩
  have v2 : vp_in ((0 : Int32) + 2) G.2.2.1 := by rw [hN]; exact vp_in_iff.mpr ⟨by decide +kernel, by decide +kernel⟩
  have v3 : vp_in ((0 : Int32) + 3) G.2.2.1 := by rw [hN]; exact vp_in_iff.mpr ⟨by decide +kernel, by decide +kernel⟩
  have hB := hG
  refine r_aload (zW_mono _ _ _) lq_425 rfl ?_
  refine r_aloadS (zW_mono _ _ _) lq_426 rfl ?_
  refine r_iload (zW_mono _ _ _) lq_427 rfl ?_
  refine r_push (zW_mono _ _ _) lq_428 ?_
  refine r_iadd (zW_mono _ _ _) lq_429 ?_
  refine r_sld (zW_mono _ _ _) lq_430 v1 ?_
  refine r_aloadS (zW_mono _ _ _) lq_431 rfl ?_
  refine r_iload (zW_mono _ _ _) lq_432 rfl ?_
  refine r_push (zW_mono _ _ _) lq_433 ?_
  refine r_iadd (zW_mono _ _ _) lq_434 ?_
  refine r_sld (zW_mono _ _ _) lq_435 v2 ?_
  refine r_aloadS (zW_mono _ _ _) lq_436 rfl ?_
  refine r_iload (zW_mono _ _ _) lq_437 rfl ?_
  refine r_push (zW_mono _ _ _) lq_438 ?_
  refine r_iadd (zW_mono _ _ _) lq_439 ?_
  refine r_sld (zW_mono _ _ _) lq_440 v3 ?_
  refine r_virt3 (m1 := 0) (m2 := 0) (zW_mono _ _ _) lq_441 hx_0 (Nat.le_of_ble_eq_true rfl) (by unfold zbud; rw [hB]; rfl) (by omega) (by omega) ?_
  refine zW_mono zTt G 12 _ _ _ _ _ ?_ (op_fit hG _ _ _)
  rintro w h2 ⟨x9, rfl, ⟨fs9, hr9⟩, k9⟩
  refine r_aload (zW_mono _ _ _) lq_444 rfl ?_
  refine r_aloadS (zW_mono _ _ _) lq_445 rfl ?_
  refine r_iload (zW_mono _ _ _) lq_446 rfl ?_
  refine r_push (zW_mono _ _ _) lq_447 ?_
  refine r_iadd (zW_mono _ _ _) lq_448 ?_
  refine r_sld (zW_mono _ _ _) lq_449 v1 ?_
  refine r_aloadS (zW_mono _ _ _) lq_450 rfl ?_
  refine r_iload (zW_mono _ _ _) lq_451 rfl ?_
  refine r_push (zW_mono _ _ _) lq_452 ?_
  refine r_iadd (zW_mono _ _ _) lq_453 ?_
  refine r_sld (zW_mono _ _ _) lq_454 v2 ?_
  refine r_aloadS (zW_mono _ _ _) lq_455 rfl ?_
  refine r_iload (zW_mono _ _ _) lq_456 rfl ?_
  refine r_push (zW_mono _ _ _) lq_457 ?_
  refine r_iadd (zW_mono _ _ _) lq_458 ?_
  refine r_sld (zW_mono _ _ _) lq_459 v3 ?_
  refine r_virt3 (m1 := 0) (m2 := 0) (zW_mono _ _ _) lq_460 hr9 (Nat.le_of_ble_eq_true rfl) (by unfold zbud; rw [hB]; rfl) (by omega) (by omega) ?_
  refine zW_mono zTt G 12 _ _ _ _ _ ?_ k9
  rintro w h3 rfl
  refine r_icmp_eq (zW_mono _ _ _) lq_463 (fun _ => ?_) (fun q => absurd rfl q)
  exact law_end hN
set_option maxHeartbeats 1000000 in
theorem lawop_car {G : zG} (hG : G.1 = zProg) (hT : G.2.1 = ztx) (hN : G.2.2.1 = 8) {c n : Nat} (hc : c ≤ 1000) (hn : n ≤ 100000) : zR zTt G cd_L 600000 7302250 (some .boolean) (zW zTt G 12) (fun w _ => w = some (.int 1)) 468 [some (.retAddr 0), some (.ref 0), some (.ref 111), some (.int 0)] [] (dzH dH0) c n := by
  have v1 : vp_in ((0 : Int32) + 1) G.2.2.1 := by rw [hN]; exact vp_in_iff.mpr ⟨by decide +kernel, by decide +kernel⟩
  have v2 : vp_in ((0 : Int32) + 2) G.2.2.1 := by rw [hN]; exact vp_in_iff.mpr ⟨by decide +kernel, by decide +kernel⟩
  have v3 : vp_in ((0 : Int32) + 3) G.2.2.1 := by rw [hN]; exact vp_in_iff.mpr ⟨by decide +kernel, by decide +kernel⟩
  have hB := hG
  refine r_aload (zW_mono _ _ _) lq_468 rfl ?_
  refine r_aloadS (zW_mono _ _ _) lq_469 rfl ?_
  refine r_iload (zW_mono _ _ _) lq_470 rfl ?_
  refine r_push (zW_mono _ _ _) lq_471 ?_
  refine r_iadd (zW_mono _ _ _) lq_472 ?_
  refine r_sld (zW_mono _ _ _) lq_473 v1 ?_
  refine r_aloadS (zW_mono _ _ _) lq_474 rfl ?_
  refine r_iload (zW_mono _ _ _) lq_475 rfl ?_
  refine r_push (zW_mono _ _ _) lq_476 ?_
  refine r_iadd (zW_mono _ _ _) lq_477 ?_
  refine r_sld (zW_mono _ _ _) lq_478 v2 ?_
  refine r_aloadS (zW_mono _ _ _) lq_479 rfl ?_
  refine r_iload (zW_mono _ _ _) lq_480 rfl ?_
  refine r_push (zW_mono _ _ _) lq_481 ?_
  refine r_iadd (zW_mono _ _ _) lq_482 ?_
  refine r_sld (zW_mono _ _ _) lq_483 v3 ?_
  refine r_virt3 (m1 := 2) (m2 := 23) (zW_mono _ _ _) lq_484 hx_0 (Nat.le_of_ble_eq_true rfl) (by unfold zbud; rw [hB]; rfl) (by omega) (by omega) ?_
  refine zW_mono zTt G 12 _ _ _ _ _ ?_ (op_car hG _ _ _)
  rintro w h2 ⟨x9, rfl, ⟨fs9, hr9⟩, k9⟩
  refine r_aload (zW_mono _ _ _) lq_487 rfl ?_
  refine r_aloadS (zW_mono _ _ _) lq_488 rfl ?_
  refine r_iload (zW_mono _ _ _) lq_489 rfl ?_
  refine r_push (zW_mono _ _ _) lq_490 ?_
  refine r_iadd (zW_mono _ _ _) lq_491 ?_
  refine r_sld (zW_mono _ _ _) lq_492 v1 ?_
  refine r_aloadS (zW_mono _ _ _) lq_493 rfl ?_
  refine r_iload (zW_mono _ _ _) lq_494 rfl ?_
  refine r_push (zW_mono _ _ _) lq_495 ?_
  refine r_iadd (zW_mono _ _ _) lq_496 ?_
  refine r_sld (zW_mono _ _ _) lq_497 v2 ?_
  refine r_aloadS (zW_mono _ _ _) lq_498 rfl ?_
  refine r_iload (zW_mono _ _ _) lq_499 rfl ?_
  refine r_push (zW_mono _ _ _) lq_500 ?_
  refine r_iadd (zW_mono _ _ _) lq_501 ?_
  refine r_sld (zW_mono _ _ _) lq_502 v3 ?_
  refine r_virt3 (m1 := 0) (m2 := 0) (zW_mono _ _ _) lq_503 hr9 (Nat.le_of_ble_eq_true rfl) (by unfold zbud; rw [hB]; rfl) (by omega) (by omega) ?_
  refine zW_mono zTt G 12 _ _ _ _ _ ?_ k9
  rintro w h3 rfl
  refine r_icmp_eq (zW_mono _ _ _) lq_506 (fun _ => ?_) (fun q => absurd rfl q)
  exact law_end hN
set_option maxHeartbeats 1000000 in
theorem lawop_sell {G : zG} (hG : G.1 = zProg) (hT : G.2.1 = ztx) (hN : G.2.2.1 = 8) {c n : Nat} (hc : c ≤ 1000) (hn : n ≤ 100000) : zR zTt G cd_L 600000 7302250 (some .boolean) (zW zTt G 12) (fun w _ => w = some (.int 1)) 511 [some (.retAddr 0), some (.ref 0), some (.ref 111), some (.int 0)] [] (dzH dH0) c n := by
  have v1 : vp_in ((0 : Int32) + 1) G.2.2.1 := by rw [hN]; exact vp_in_iff.mpr ⟨by decide +kernel, by decide +kernel⟩
  have v2 : vp_in ((0 : Int32) + 2) G.2.2.1 := by rw [hN]; exact vp_in_iff.mpr ⟨by decide +kernel, by decide +kernel⟩
  have v3 : vp_in ((0 : Int32) + 3) G.2.2.1 := by rw [hN]; exact vp_in_iff.mpr ⟨by decide +kernel, by decide +kernel⟩
  have hB := hG
  refine r_aload (zW_mono _ _ _) lq_511 rfl ?_
  refine r_aloadS (zW_mono _ _ _) lq_512 rfl ?_
  refine r_iload (zW_mono _ _ _) lq_513 rfl ?_
  refine r_push (zW_mono _ _ _) lq_514 ?_
  refine r_iadd (zW_mono _ _ _) lq_515 ?_
  refine r_sld (zW_mono _ _ _) lq_516 v1 ?_
  refine r_aloadS (zW_mono _ _ _) lq_517 rfl ?_
  refine r_iload (zW_mono _ _ _) lq_518 rfl ?_
  refine r_push (zW_mono _ _ _) lq_519 ?_
  refine r_iadd (zW_mono _ _ _) lq_520 ?_
  refine r_sld (zW_mono _ _ _) lq_521 v2 ?_
  refine r_aloadS (zW_mono _ _ _) lq_522 rfl ?_
  refine r_iload (zW_mono _ _ _) lq_523 rfl ?_
  refine r_push (zW_mono _ _ _) lq_524 ?_
  refine r_iadd (zW_mono _ _ _) lq_525 ?_
  refine r_sld (zW_mono _ _ _) lq_526 v3 ?_
  refine r_virt3 (m1 := 0) (m2 := 0) (zW_mono _ _ _) lq_527 hx_0 (Nat.le_of_ble_eq_true rfl) (by unfold zbud; rw [hB]; rfl) (by omega) (by omega) ?_
  refine zW_mono zTt G 12 _ _ _ _ _ ?_ (op_sell hG _ _ _)
  rintro w h2 ⟨x9, rfl, ⟨fs9, hr9⟩, k9⟩
  refine r_aload (zW_mono _ _ _) lq_530 rfl ?_
  refine r_aloadS (zW_mono _ _ _) lq_531 rfl ?_
  refine r_iload (zW_mono _ _ _) lq_532 rfl ?_
  refine r_push (zW_mono _ _ _) lq_533 ?_
  refine r_iadd (zW_mono _ _ _) lq_534 ?_
  refine r_sld (zW_mono _ _ _) lq_535 v1 ?_
  refine r_aloadS (zW_mono _ _ _) lq_536 rfl ?_
  refine r_iload (zW_mono _ _ _) lq_537 rfl ?_
  refine r_push (zW_mono _ _ _) lq_538 ?_
  refine r_iadd (zW_mono _ _ _) lq_539 ?_
  refine r_sld (zW_mono _ _ _) lq_540 v2 ?_
  refine r_aloadS (zW_mono _ _ _) lq_541 rfl ?_
  refine r_iload (zW_mono _ _ _) lq_542 rfl ?_
  refine r_push (zW_mono _ _ _) lq_543 ?_
  refine r_iadd (zW_mono _ _ _) lq_544 ?_
  refine r_sld (zW_mono _ _ _) lq_545 v3 ?_
  refine r_virt3 (m1 := 0) (m2 := 0) (zW_mono _ _ _) lq_546 hr9 (Nat.le_of_ble_eq_true rfl) (by unfold zbud; rw [hB]; rfl) (by omega) (by omega) ?_
  refine zW_mono zTt G 12 _ _ _ _ _ ?_ k9
  rintro w h3 rfl
  refine r_icmp_eq (zW_mono _ _ _) lq_549 (fun _ => ?_) (fun q => absurd rfl q)
  exact law_end hN
set_option maxHeartbeats 1000000 in
theorem lawop_owner {G : zG} (hG : G.1 = zProg) (hT : G.2.1 = ztx) (hN : G.2.2.1 = 8) {c n : Nat} (hc : c ≤ 1000) (hn : n ≤ 100000) : zR zTt G cd_L 600000 7302250 (some .boolean) (zW zTt G 12) (fun w _ => w = some (.int 1)) 554 [some (.retAddr 0), some (.ref 0), some (.ref 111), some (.int 0)] [] (dzH dH0) c n := by
  have v1 : vp_in ((0 : Int32) + 1) G.2.2.1 := by rw [hN]; exact vp_in_iff.mpr ⟨by decide +kernel, by decide +kernel⟩
  have v2 : vp_in ((0 : Int32) + 2) G.2.2.1 := by rw [hN]; exact vp_in_iff.mpr ⟨by decide +kernel, by decide +kernel⟩
  have v3 : vp_in ((0 : Int32) + 3) G.2.2.1 := by rw [hN]; exact vp_in_iff.mpr ⟨by decide +kernel, by decide +kernel⟩
  have hB := hG
  refine r_aload (zW_mono _ _ _) lq_554 rfl ?_
  refine r_aloadS (zW_mono _ _ _) lq_555 rfl ?_
  refine r_iload (zW_mono _ _ _) lq_556 rfl ?_
  refine r_push (zW_mono _ _ _) lq_557 ?_
  refine r_iadd (zW_mono _ _ _) lq_558 ?_
  refine r_sld (zW_mono _ _ _) lq_559 v1 ?_
  refine r_aloadS (zW_mono _ _ _) lq_560 rfl ?_
  refine r_iload (zW_mono _ _ _) lq_561 rfl ?_
  refine r_push (zW_mono _ _ _) lq_562 ?_
  refine r_iadd (zW_mono _ _ _) lq_563 ?_
  refine r_sld (zW_mono _ _ _) lq_564 v2 ?_
  refine r_aloadS (zW_mono _ _ _) lq_565 rfl ?_
  refine r_iload (zW_mono _ _ _) lq_566 rfl ?_
  refine r_push (zW_mono _ _ _) lq_567 ?_
  refine r_iadd (zW_mono _ _ _) lq_568 ?_
  refine r_sld (zW_mono _ _ _) lq_569 v3 ?_
  refine r_virt3 (m1 := 0) (m2 := 0) (zW_mono _ _ _) lq_570 hx_0 (Nat.le_of_ble_eq_true rfl) (by unfold zbud; rw [hB]; rfl) (by omega) (by omega) ?_
  refine zW_mono zTt G 12 _ _ _ _ _ ?_ (op_owner hG _ _ _)
  rintro w h2 ⟨x9, rfl, ⟨fs9, hr9⟩, k9⟩
  refine r_aload (zW_mono _ _ _) lq_573 rfl ?_
  refine r_aloadS (zW_mono _ _ _) lq_574 rfl ?_
  refine r_iload (zW_mono _ _ _) lq_575 rfl ?_
  refine r_push (zW_mono _ _ _) lq_576 ?_
  refine r_iadd (zW_mono _ _ _) lq_577 ?_
  refine r_sld (zW_mono _ _ _) lq_578 v1 ?_
  refine r_aloadS (zW_mono _ _ _) lq_579 rfl ?_
  refine r_iload (zW_mono _ _ _) lq_580 rfl ?_
  refine r_push (zW_mono _ _ _) lq_581 ?_
  refine r_iadd (zW_mono _ _ _) lq_582 ?_
  refine r_sld (zW_mono _ _ _) lq_583 v2 ?_
  refine r_aloadS (zW_mono _ _ _) lq_584 rfl ?_
  refine r_iload (zW_mono _ _ _) lq_585 rfl ?_
  refine r_push (zW_mono _ _ _) lq_586 ?_
  refine r_iadd (zW_mono _ _ _) lq_587 ?_
  refine r_sld (zW_mono _ _ _) lq_588 v3 ?_
  refine r_virt3 (m1 := 0) (m2 := 0) (zW_mono _ _ _) lq_589 hr9 (Nat.le_of_ble_eq_true rfl) (by unfold zbud; rw [hB]; rfl) (by omega) (by omega) ?_
  refine zW_mono zTt G 12 _ _ _ _ _ ?_ k9
  rintro w h3 rfl
  refine r_icmp_eq (zW_mono _ _ _) lq_592 (fun _ => ?_) (fun q => absurd rfl q)
  exact law_end hN
set_option maxHeartbeats 1000000 in
theorem lawop_cars {G : zG} (hG : G.1 = zProg) (hT : G.2.1 = ztx) (hN : G.2.2.1 = 8) {c n : Nat} (hc : c ≤ 1000) (hn : n ≤ 100000) : zR zTt G cd_L 600000 7302250 (some .boolean) (zW zTt G 12) (fun w _ => w = some (.int 1)) 597 [some (.retAddr 0), some (.ref 0), some (.ref 111), some (.int 0)] [] (dzH dH0) c n := by
  have v1 : vp_in ((0 : Int32) + 1) G.2.2.1 := by rw [hN]; exact vp_in_iff.mpr ⟨by decide +kernel, by decide +kernel⟩
  have v2 : vp_in ((0 : Int32) + 2) G.2.2.1 := by rw [hN]; exact vp_in_iff.mpr ⟨by decide +kernel, by decide +kernel⟩
  have hB := hG
  refine r_aload (zW_mono _ _ _) lq_597 rfl ?_
  refine r_aloadS (zW_mono _ _ _) lq_598 rfl ?_
  refine r_iload (zW_mono _ _ _) lq_599 rfl ?_
  refine r_push (zW_mono _ _ _) lq_600 ?_
  refine r_iadd (zW_mono _ _ _) lq_601 ?_
  refine r_sld (zW_mono _ _ _) lq_602 v1 ?_
  refine r_aloadS (zW_mono _ _ _) lq_603 rfl ?_
  refine r_iload (zW_mono _ _ _) lq_604 rfl ?_
  refine r_push (zW_mono _ _ _) lq_605 ?_
  refine r_iadd (zW_mono _ _ _) lq_606 ?_
  refine r_sld (zW_mono _ _ _) lq_607 v2 ?_
  refine r_virt2 (m1 := 0) (m2 := 0) (zW_mono _ _ _) lq_608 hx_0 (Nat.le_of_ble_eq_true rfl) (by unfold zbud; rw [hB]; rfl) (by omega) (by omega) ?_
  refine zW_mono zTt G 12 _ _ _ _ _ ?_ (op_cars hG _ _)
  rintro w h2 ⟨x9, rfl, ⟨fs9, hr9⟩, k9⟩
  refine r_aload (zW_mono _ _ _) lq_611 rfl ?_
  refine r_aloadS (zW_mono _ _ _) lq_612 rfl ?_
  refine r_iload (zW_mono _ _ _) lq_613 rfl ?_
  refine r_push (zW_mono _ _ _) lq_614 ?_
  refine r_iadd (zW_mono _ _ _) lq_615 ?_
  refine r_sld (zW_mono _ _ _) lq_616 v1 ?_
  refine r_aloadS (zW_mono _ _ _) lq_617 rfl ?_
  refine r_iload (zW_mono _ _ _) lq_618 rfl ?_
  refine r_push (zW_mono _ _ _) lq_619 ?_
  refine r_iadd (zW_mono _ _ _) lq_620 ?_
  refine r_sld (zW_mono _ _ _) lq_621 v2 ?_
  refine r_virt2 (m1 := 0) (m2 := 0) (zW_mono _ _ _) lq_622 hr9 (Nat.le_of_ble_eq_true rfl) (by unfold zbud; rw [hB]; rfl) (by omega) (by omega) ?_
  refine zW_mono zTt G 12 _ _ _ _ _ ?_ k9
  rintro w h3 rfl
  refine r_icmp_eq (zW_mono _ _ _) lq_625 (fun _ => ?_) (fun q => absurd rfl q)
  exact law_end hN
set_option maxHeartbeats 1000000 in
theorem lawop_force {G : zG} (hG : G.1 = zProg) (hT : G.2.1 = ztx) (hN : G.2.2.1 = 8) {c n : Nat} (hc : c ≤ 1000) (hn : n ≤ 100000) : zR zTt G cd_L 600000 7302250 (some .boolean) (zW zTt G 12) (fun w _ => w = some (.int 1)) 630 [some (.retAddr 0), some (.ref 0), some (.ref 111), some (.int 0)] [] (dzH dH0) c n := by
  have v1 : vp_in ((0 : Int32) + 1) G.2.2.1 := by rw [hN]; exact vp_in_iff.mpr ⟨by decide +kernel, by decide +kernel⟩
  have v2 : vp_in ((0 : Int32) + 2) G.2.2.1 := by rw [hN]; exact vp_in_iff.mpr ⟨by decide +kernel, by decide +kernel⟩
  have hB := hG
  refine r_aload (zW_mono _ _ _) lq_630 rfl ?_
  refine r_aloadS (zW_mono _ _ _) lq_631 rfl ?_
  refine r_iload (zW_mono _ _ _) lq_632 rfl ?_
  refine r_push (zW_mono _ _ _) lq_633 ?_
  refine r_iadd (zW_mono _ _ _) lq_634 ?_
  refine r_sld (zW_mono _ _ _) lq_635 v1 ?_
  refine r_aloadS (zW_mono _ _ _) lq_636 rfl ?_
  refine r_iload (zW_mono _ _ _) lq_637 rfl ?_
  refine r_push (zW_mono _ _ _) lq_638 ?_
  refine r_iadd (zW_mono _ _ _) lq_639 ?_
  refine r_sld (zW_mono _ _ _) lq_640 v2 ?_
  refine r_virt2 (m1 := 0) (m2 := 0) (zW_mono _ _ _) lq_641 hx_0 (Nat.le_of_ble_eq_true rfl) (by unfold zbud; rw [hB]; rfl) (by omega) (by omega) ?_
  refine zW_mono zTt G 12 _ _ _ _ _ ?_ (op_force hG _ _)
  rintro w h2 ⟨x9, rfl, ⟨fs9, hr9⟩, k9⟩
  refine r_aload (zW_mono _ _ _) lq_644 rfl ?_
  refine r_aloadS (zW_mono _ _ _) lq_645 rfl ?_
  refine r_iload (zW_mono _ _ _) lq_646 rfl ?_
  refine r_push (zW_mono _ _ _) lq_647 ?_
  refine r_iadd (zW_mono _ _ _) lq_648 ?_
  refine r_sld (zW_mono _ _ _) lq_649 v1 ?_
  refine r_aloadS (zW_mono _ _ _) lq_650 rfl ?_
  refine r_iload (zW_mono _ _ _) lq_651 rfl ?_
  refine r_push (zW_mono _ _ _) lq_652 ?_
  refine r_iadd (zW_mono _ _ _) lq_653 ?_
  refine r_sld (zW_mono _ _ _) lq_654 v2 ?_
  refine r_virt2 (m1 := 0) (m2 := 0) (zW_mono _ _ _) lq_655 hr9 (Nat.le_of_ble_eq_true rfl) (by unfold zbud; rw [hB]; rfl) (by omega) (by omega) ?_
  refine zW_mono zTt G 12 _ _ _ _ _ ?_ k9
  rintro w h3 rfl
  refine r_icmp_eq (zW_mono _ _ _) lq_658 (fun _ => ?_) (fun q => absurd rfl q)
  exact law_end hN
set_option maxHeartbeats 1000000 in
theorem lawop_burns {G : zG} (hG : G.1 = zProg) (hT : G.2.1 = ztx) (hN : G.2.2.1 = 8) {c n : Nat} (hc : c ≤ 1000) (hn : n ≤ 100000) : zR zTt G cd_L 600000 7302250 (some .boolean) (zW zTt G 12) (fun w _ => w = some (.int 1)) 663 [some (.retAddr 0), some (.ref 0), some (.ref 111), some (.int 0)] [] (dzH dH0) c n := by
  have v1 : vp_in ((0 : Int32) + 1) G.2.2.1 := by rw [hN]; exact vp_in_iff.mpr ⟨by decide +kernel, by decide +kernel⟩
  have v2 : vp_in ((0 : Int32) + 2) G.2.2.1 := by rw [hN]; exact vp_in_iff.mpr ⟨by decide +kernel, by decide +kernel⟩
  have v3 : vp_in ((0 : Int32) + 3) G.2.2.1 := by rw [hN]; exact vp_in_iff.mpr ⟨by decide +kernel, by decide +kernel⟩
  have v4 : vp_in ((0 : Int32) + 4) G.2.2.1 := by rw [hN]; exact vp_in_iff.mpr ⟨by decide +kernel, by decide +kernel⟩
  have v5 : vp_in ((0 : Int32) + 5) G.2.2.1 := by rw [hN]; exact vp_in_iff.mpr ⟨by decide +kernel, by decide +kernel⟩
  have hB := hG
  refine r_aload (zW_mono _ _ _) lq_663 rfl ?_
  refine r_aloadS (zW_mono _ _ _) lq_664 rfl ?_
  refine r_iload (zW_mono _ _ _) lq_665 rfl ?_
  refine r_push (zW_mono _ _ _) lq_666 ?_
  refine r_iadd (zW_mono _ _ _) lq_667 ?_
  refine r_sld (zW_mono _ _ _) lq_668 v1 ?_
  refine r_aloadS (zW_mono _ _ _) lq_669 rfl ?_
  refine r_iload (zW_mono _ _ _) lq_670 rfl ?_
  refine r_push (zW_mono _ _ _) lq_671 ?_
  refine r_iadd (zW_mono _ _ _) lq_672 ?_
  refine r_sld (zW_mono _ _ _) lq_673 v2 ?_
  refine r_aloadS (zW_mono _ _ _) lq_674 rfl ?_
  refine r_iload (zW_mono _ _ _) lq_675 rfl ?_
  refine r_push (zW_mono _ _ _) lq_676 ?_
  refine r_iadd (zW_mono _ _ _) lq_677 ?_
  refine r_sld (zW_mono _ _ _) lq_678 v3 ?_
  refine r_aloadS (zW_mono _ _ _) lq_679 rfl ?_
  refine r_iload (zW_mono _ _ _) lq_680 rfl ?_
  refine r_push (zW_mono _ _ _) lq_681 ?_
  refine r_iadd (zW_mono _ _ _) lq_682 ?_
  refine r_sld (zW_mono _ _ _) lq_683 v4 ?_
  refine r_aloadS (zW_mono _ _ _) lq_684 rfl ?_
  refine r_iload (zW_mono _ _ _) lq_685 rfl ?_
  refine r_push (zW_mono _ _ _) lq_686 ?_
  refine r_iadd (zW_mono _ _ _) lq_687 ?_
  refine r_sld (zW_mono _ _ _) lq_688 v5 ?_
  refine r_virt5 (m1 := 0) (m2 := 0) (zW_mono _ _ _) lq_689 hx_0 (Nat.le_of_ble_eq_true rfl) (by unfold zbud; rw [hB]; rfl) (by omega) (by omega) ?_
  refine zW_mono zTt G 12 _ _ _ _ _ ?_ (op_burns hG _ _ _ _ _)
  rintro w h2 ⟨x9, rfl, ⟨fs9, hr9⟩, k9⟩
  refine r_aload (zW_mono _ _ _) lq_692 rfl ?_
  refine r_aloadS (zW_mono _ _ _) lq_693 rfl ?_
  refine r_iload (zW_mono _ _ _) lq_694 rfl ?_
  refine r_push (zW_mono _ _ _) lq_695 ?_
  refine r_iadd (zW_mono _ _ _) lq_696 ?_
  refine r_sld (zW_mono _ _ _) lq_697 v1 ?_
  refine r_aloadS (zW_mono _ _ _) lq_698 rfl ?_
  refine r_iload (zW_mono _ _ _) lq_699 rfl ?_
  refine r_push (zW_mono _ _ _) lq_700 ?_
  refine r_iadd (zW_mono _ _ _) lq_701 ?_
  refine r_sld (zW_mono _ _ _) lq_702 v2 ?_
  refine r_aloadS (zW_mono _ _ _) lq_703 rfl ?_
  refine r_iload (zW_mono _ _ _) lq_704 rfl ?_
  refine r_push (zW_mono _ _ _) lq_705 ?_
  refine r_iadd (zW_mono _ _ _) lq_706 ?_
  refine r_sld (zW_mono _ _ _) lq_707 v3 ?_
  refine r_aloadS (zW_mono _ _ _) lq_708 rfl ?_
  refine r_iload (zW_mono _ _ _) lq_709 rfl ?_
  refine r_push (zW_mono _ _ _) lq_710 ?_
  refine r_iadd (zW_mono _ _ _) lq_711 ?_
  refine r_sld (zW_mono _ _ _) lq_712 v4 ?_
  refine r_aloadS (zW_mono _ _ _) lq_713 rfl ?_
  refine r_iload (zW_mono _ _ _) lq_714 rfl ?_
  refine r_push (zW_mono _ _ _) lq_715 ?_
  refine r_iadd (zW_mono _ _ _) lq_716 ?_
  refine r_sld (zW_mono _ _ _) lq_717 v5 ?_
  refine r_virt5 (m1 := 0) (m2 := 0) (zW_mono _ _ _) lq_718 hr9 (Nat.le_of_ble_eq_true rfl) (by unfold zbud; rw [hB]; rfl) (by omega) (by omega) ?_
  refine zW_mono zTt G 12 _ _ _ _ _ ?_ k9
  rintro w h3 rfl
  refine r_icmp_eq (zW_mono _ _ _) lq_721 (fun _ => ?_) (fun q => absurd rfl q)
  exact law_end hN
set_option maxHeartbeats 1000000 in
theorem lawop_feed {G : zG} (hG : G.1 = zProg) (hT : G.2.1 = ztx) (hN : G.2.2.1 = 8) {c n : Nat} (hc : c ≤ 1000) (hn : n ≤ 100000) : zR zTt G cd_L 600000 7302250 (some .boolean) (zW zTt G 12) (fun w _ => w = some (.int 1)) 726 [some (.retAddr 0), some (.ref 0), some (.ref 111), some (.int 0)] [] (dzH dH0) c n := by
  have v1 : vp_in ((0 : Int32) + 1) G.2.2.1 := by rw [hN]; exact vp_in_iff.mpr ⟨by decide +kernel, by decide +kernel⟩
  have v2 : vp_in ((0 : Int32) + 2) G.2.2.1 := by rw [hN]; exact vp_in_iff.mpr ⟨by decide +kernel, by decide +kernel⟩
  have v3 : vp_in ((0 : Int32) + 3) G.2.2.1 := by rw [hN]; exact vp_in_iff.mpr ⟨by decide +kernel, by decide +kernel⟩
  have v4 : vp_in ((0 : Int32) + 4) G.2.2.1 := by rw [hN]; exact vp_in_iff.mpr ⟨by decide +kernel, by decide +kernel⟩
  have v5 : vp_in ((0 : Int32) + 5) G.2.2.1 := by rw [hN]; exact vp_in_iff.mpr ⟨by decide +kernel, by decide +kernel⟩
  have hB := hG
  refine r_aload (zW_mono _ _ _) lq_726 rfl ?_
  refine r_aloadS (zW_mono _ _ _) lq_727 rfl ?_
  refine r_iload (zW_mono _ _ _) lq_728 rfl ?_
  refine r_push (zW_mono _ _ _) lq_729 ?_
  refine r_iadd (zW_mono _ _ _) lq_730 ?_
  refine r_sld (zW_mono _ _ _) lq_731 v1 ?_
  refine r_aloadS (zW_mono _ _ _) lq_732 rfl ?_
  refine r_iload (zW_mono _ _ _) lq_733 rfl ?_
  refine r_push (zW_mono _ _ _) lq_734 ?_
  refine r_iadd (zW_mono _ _ _) lq_735 ?_
  refine r_sld (zW_mono _ _ _) lq_736 v2 ?_
  refine r_aloadS (zW_mono _ _ _) lq_737 rfl ?_
  refine r_iload (zW_mono _ _ _) lq_738 rfl ?_
  refine r_push (zW_mono _ _ _) lq_739 ?_
  refine r_iadd (zW_mono _ _ _) lq_740 ?_
  refine r_sld (zW_mono _ _ _) lq_741 v3 ?_
  refine r_aloadS (zW_mono _ _ _) lq_742 rfl ?_
  refine r_iload (zW_mono _ _ _) lq_743 rfl ?_
  refine r_push (zW_mono _ _ _) lq_744 ?_
  refine r_iadd (zW_mono _ _ _) lq_745 ?_
  refine r_sld (zW_mono _ _ _) lq_746 v4 ?_
  refine r_aloadS (zW_mono _ _ _) lq_747 rfl ?_
  refine r_iload (zW_mono _ _ _) lq_748 rfl ?_
  refine r_push (zW_mono _ _ _) lq_749 ?_
  refine r_iadd (zW_mono _ _ _) lq_750 ?_
  refine r_sld (zW_mono _ _ _) lq_751 v5 ?_
  refine r_virt5 (m1 := 0) (m2 := 0) (zW_mono _ _ _) lq_752 hx_0 (Nat.le_of_ble_eq_true rfl) (by unfold zbud; rw [hB]; rfl) (by omega) (by omega) ?_
  refine zW_mono zTt G 12 _ _ _ _ _ ?_ (op_feed hG _ _ _ _ _)
  rintro w h2 ⟨x9, rfl, ⟨fs9, hr9⟩, k9⟩
  refine r_aload (zW_mono _ _ _) lq_755 rfl ?_
  refine r_aloadS (zW_mono _ _ _) lq_756 rfl ?_
  refine r_iload (zW_mono _ _ _) lq_757 rfl ?_
  refine r_push (zW_mono _ _ _) lq_758 ?_
  refine r_iadd (zW_mono _ _ _) lq_759 ?_
  refine r_sld (zW_mono _ _ _) lq_760 v1 ?_
  refine r_aloadS (zW_mono _ _ _) lq_761 rfl ?_
  refine r_iload (zW_mono _ _ _) lq_762 rfl ?_
  refine r_push (zW_mono _ _ _) lq_763 ?_
  refine r_iadd (zW_mono _ _ _) lq_764 ?_
  refine r_sld (zW_mono _ _ _) lq_765 v2 ?_
  refine r_aloadS (zW_mono _ _ _) lq_766 rfl ?_
  refine r_iload (zW_mono _ _ _) lq_767 rfl ?_
  refine r_push (zW_mono _ _ _) lq_768 ?_
  refine r_iadd (zW_mono _ _ _) lq_769 ?_
  refine r_sld (zW_mono _ _ _) lq_770 v3 ?_
  refine r_aloadS (zW_mono _ _ _) lq_771 rfl ?_
  refine r_iload (zW_mono _ _ _) lq_772 rfl ?_
  refine r_push (zW_mono _ _ _) lq_773 ?_
  refine r_iadd (zW_mono _ _ _) lq_774 ?_
  refine r_sld (zW_mono _ _ _) lq_775 v4 ?_
  refine r_aloadS (zW_mono _ _ _) lq_776 rfl ?_
  refine r_iload (zW_mono _ _ _) lq_777 rfl ?_
  refine r_push (zW_mono _ _ _) lq_778 ?_
  refine r_iadd (zW_mono _ _ _) lq_779 ?_
  refine r_sld (zW_mono _ _ _) lq_780 v5 ?_
  refine r_virt5 (m1 := 0) (m2 := 0) (zW_mono _ _ _) lq_781 hr9 (Nat.le_of_ble_eq_true rfl) (by unfold zbud; rw [hB]; rfl) (by omega) (by omega) ?_
  refine zW_mono zTt G 12 _ _ _ _ _ ?_ k9
  rintro w h3 rfl
  refine r_icmp_eq (zW_mono _ _ _) lq_784 (fun _ => ?_) (fun q => absurd rfl q)
  exact law_end hN
set_option maxHeartbeats 1000000 in
theorem lawop_end {G : zG} (hG : G.1 = zProg) (hT : G.2.1 = ztx) (hN : G.2.2.1 = 8) {c n : Nat} (hc : c ≤ 1000) (hn : n ≤ 100000) : zR zTt G cd_L 600000 7302250 (some .boolean) (zW zTt G 12) (fun w _ => w = some (.int 1)) 789 [some (.retAddr 0), some (.ref 0), some (.ref 111), some (.int 0)] [] (dzH dH0) c n := by
  have v1 : vp_in ((0 : Int32) + 1) G.2.2.1 := by rw [hN]; exact vp_in_iff.mpr ⟨by decide +kernel, by decide +kernel⟩
  have hB := hG
  refine r_aload (zW_mono _ _ _) lq_789 rfl ?_
  refine r_aloadS (zW_mono _ _ _) lq_790 rfl ?_
  refine r_iload (zW_mono _ _ _) lq_791 rfl ?_
  refine r_push (zW_mono _ _ _) lq_792 ?_
  refine r_iadd (zW_mono _ _ _) lq_793 ?_
  refine r_sld (zW_mono _ _ _) lq_794 v1 ?_
  refine r_virt1 (m1 := 0) (m2 := 0) (zW_mono _ _ _) lq_795 hx_0 (Nat.le_of_ble_eq_true rfl) (by unfold zbud; rw [hB]; rfl) (by omega) (by omega) ?_
  refine zW_mono zTt G 12 _ _ _ _ _ ?_ (op_end hG _)
  rintro w h2 ⟨x9, rfl, ⟨fs9, hr9⟩, k9⟩
  refine r_aload (zW_mono _ _ _) lq_798 rfl ?_
  refine r_aloadS (zW_mono _ _ _) lq_799 rfl ?_
  refine r_iload (zW_mono _ _ _) lq_800 rfl ?_
  refine r_push (zW_mono _ _ _) lq_801 ?_
  refine r_iadd (zW_mono _ _ _) lq_802 ?_
  refine r_sld (zW_mono _ _ _) lq_803 v1 ?_
  refine r_virt1 (m1 := 0) (m2 := 0) (zW_mono _ _ _) lq_804 hr9 (Nat.le_of_ble_eq_true rfl) (by unfold zbud; rw [hB]; rfl) (by omega) (by omega) ?_
  refine zW_mono zTt G 12 _ _ _ _ _ ?_ k9
  rintro w h3 rfl
  refine r_icmp_eq (zW_mono _ _ _) lq_807 (fun _ => ?_) (fun q => absurd rfl q)
  exact law_end hN
set_option maxHeartbeats 1000000 in
theorem lawop_rule {G : zG} (hG : G.1 = zProg) (hT : G.2.1 = ztx) (hN : G.2.2.1 = 8) {c n : Nat} (hc : c ≤ 1000) (hn : n ≤ 100000) : zR zTt G cd_L 600000 7302250 (some .boolean) (zW zTt G 12) (fun w _ => w = some (.int 1)) 812 [some (.retAddr 0), some (.ref 0), some (.ref 111), some (.int 0)] [] (dzH dH0) c n := by
  have v1 : vp_in ((0 : Int32) + 1) G.2.2.1 := by rw [hN]; exact vp_in_iff.mpr ⟨by decide +kernel, by decide +kernel⟩
  have hB := hG
  refine r_aload (zW_mono _ _ _) lq_812 rfl ?_
  refine r_aloadS (zW_mono _ _ _) lq_813 rfl ?_
  refine r_iload (zW_mono _ _ _) lq_814 rfl ?_
  refine r_push (zW_mono _ _ _) lq_815 ?_
  refine r_iadd (zW_mono _ _ _) lq_816 ?_
  refine r_sld (zW_mono _ _ _) lq_817 v1 ?_
  refine r_virt1 (m1 := 0) (m2 := 0) (zW_mono _ _ _) lq_818 hx_0 (Nat.le_of_ble_eq_true rfl) (by unfold zbud; rw [hB]; rfl) (by omega) (by omega) ?_
  refine zW_mono zTt G 12 _ _ _ _ _ ?_ (op_rule hG hT _)
  rintro w h2 ⟨x9, rfl, ⟨fs9, hr9⟩, k9⟩
  refine r_aload (zW_mono _ _ _) lq_821 rfl ?_
  refine r_aloadS (zW_mono _ _ _) lq_822 rfl ?_
  refine r_iload (zW_mono _ _ _) lq_823 rfl ?_
  refine r_push (zW_mono _ _ _) lq_824 ?_
  refine r_iadd (zW_mono _ _ _) lq_825 ?_
  refine r_sld (zW_mono _ _ _) lq_826 v1 ?_
  refine r_virt1 (m1 := 0) (m2 := 0) (zW_mono _ _ _) lq_827 hr9 (Nat.le_of_ble_eq_true rfl) (by unfold zbud; rw [hB]; rfl) (by omega) (by omega) ?_
  refine zW_mono zTt G 12 _ _ _ _ _ ?_ k9
  rintro w h3 rfl
  refine r_icmp_eq (zW_mono _ _ _) lq_830 (fun _ => ?_) (fun q => absurd rfl q)
  exact law_end hN
set_option maxHeartbeats 1000000 in
theorem lawop_inForce {G : zG} (hG : G.1 = zProg) (hT : G.2.1 = ztx) (hN : G.2.2.1 = 8) {c n : Nat} (hc : c ≤ 1000) (hn : n ≤ 100000) : zR zTt G cd_L 600000 7302250 (some .boolean) (zW zTt G 12) (fun w _ => w = some (.int 1)) 835 [some (.retAddr 0), some (.ref 0), some (.ref 111), some (.int 0)] [] (dzH dH0) c n := by
  have v1 : vp_in ((0 : Int32) + 1) G.2.2.1 := by rw [hN]; exact vp_in_iff.mpr ⟨by decide +kernel, by decide +kernel⟩
  have hB := hG
  refine r_aload (zW_mono _ _ _) lq_835 rfl ?_
  refine r_aloadS (zW_mono _ _ _) lq_836 rfl ?_
  refine r_iload (zW_mono _ _ _) lq_837 rfl ?_
  refine r_push (zW_mono _ _ _) lq_838 ?_
  refine r_iadd (zW_mono _ _ _) lq_839 ?_
  refine r_sld (zW_mono _ _ _) lq_840 v1 ?_
  refine r_virt1 (m1 := 0) (m2 := 0) (zW_mono _ _ _) lq_841 hx_0 (Nat.le_of_ble_eq_true rfl) (by unfold zbud; rw [hB]; rfl) (by omega) (by omega) ?_
  refine zW_mono zTt G 12 _ _ _ _ _ ?_ (op_inForce hG _)
  rintro w h2 ⟨x9, rfl, ⟨fs9, hr9⟩, k9⟩
  refine r_aload (zW_mono _ _ _) lq_844 rfl ?_
  refine r_aloadS (zW_mono _ _ _) lq_845 rfl ?_
  refine r_iload (zW_mono _ _ _) lq_846 rfl ?_
  refine r_push (zW_mono _ _ _) lq_847 ?_
  refine r_iadd (zW_mono _ _ _) lq_848 ?_
  refine r_sld (zW_mono _ _ _) lq_849 v1 ?_
  refine r_virt1 (m1 := 0) (m2 := 0) (zW_mono _ _ _) lq_850 hr9 (Nat.le_of_ble_eq_true rfl) (by unfold zbud; rw [hB]; rfl) (by omega) (by omega) ?_
  refine zW_mono zTt G 12 _ _ _ _ _ ?_ k9
  rintro w h3 rfl
  refine r_icmp_eq (zW_mono _ _ _) lq_853 (fun _ => ?_) (fun q => absurd rfl q)
  exact law_end hN
set_option maxHeartbeats 1000000 in
theorem lawop_must {G : zG} (hG : G.1 = zProg) (hT : G.2.1 = ztx) (hN : G.2.2.1 = 8) {c n : Nat} (hc : c ≤ 1000) (hn : n ≤ 100000) : zR zTt G cd_L 600000 7302250 (some .boolean) (zW zTt G 12) (fun w _ => w = some (.int 1)) 858 [some (.retAddr 0), some (.ref 0), some (.ref 111), some (.int 0)] [] (dzH dH0) c n := by
  have v1 : vp_in ((0 : Int32) + 1) G.2.2.1 := by rw [hN]; exact vp_in_iff.mpr ⟨by decide +kernel, by decide +kernel⟩
  have v2 : vp_in ((0 : Int32) + 2) G.2.2.1 := by rw [hN]; exact vp_in_iff.mpr ⟨by decide +kernel, by decide +kernel⟩
  have v3 : vp_in ((0 : Int32) + 3) G.2.2.1 := by rw [hN]; exact vp_in_iff.mpr ⟨by decide +kernel, by decide +kernel⟩
  have hB := hG
  refine r_aload (zW_mono _ _ _) lq_858 rfl ?_
  refine r_aloadS (zW_mono _ _ _) lq_859 rfl ?_
  refine r_iload (zW_mono _ _ _) lq_860 rfl ?_
  refine r_push (zW_mono _ _ _) lq_861 ?_
  refine r_iadd (zW_mono _ _ _) lq_862 ?_
  refine r_sld (zW_mono _ _ _) lq_863 v1 ?_
  refine r_aloadS (zW_mono _ _ _) lq_864 rfl ?_
  refine r_iload (zW_mono _ _ _) lq_865 rfl ?_
  refine r_push (zW_mono _ _ _) lq_866 ?_
  refine r_iadd (zW_mono _ _ _) lq_867 ?_
  refine r_sld (zW_mono _ _ _) lq_868 v2 ?_
  refine r_aloadS (zW_mono _ _ _) lq_869 rfl ?_
  refine r_iload (zW_mono _ _ _) lq_870 rfl ?_
  refine r_push (zW_mono _ _ _) lq_871 ?_
  refine r_iadd (zW_mono _ _ _) lq_872 ?_
  refine r_sld (zW_mono _ _ _) lq_873 v3 ?_
  refine r_virt3 (m1 := 0) (m2 := 0) (zW_mono _ _ _) lq_874 hx_0 (Nat.le_of_ble_eq_true rfl) (by unfold zbud; rw [hB]; rfl) (by omega) (by omega) ?_
  refine zW_mono zTt G 12 _ _ _ _ _ ?_ (op_must hG _ _ _)
  rintro w h2 ⟨x9, rfl, ⟨fs9, hr9⟩, k9⟩
  refine r_aload (zW_mono _ _ _) lq_877 rfl ?_
  refine r_aloadS (zW_mono _ _ _) lq_878 rfl ?_
  refine r_iload (zW_mono _ _ _) lq_879 rfl ?_
  refine r_push (zW_mono _ _ _) lq_880 ?_
  refine r_iadd (zW_mono _ _ _) lq_881 ?_
  refine r_sld (zW_mono _ _ _) lq_882 v1 ?_
  refine r_aloadS (zW_mono _ _ _) lq_883 rfl ?_
  refine r_iload (zW_mono _ _ _) lq_884 rfl ?_
  refine r_push (zW_mono _ _ _) lq_885 ?_
  refine r_iadd (zW_mono _ _ _) lq_886 ?_
  refine r_sld (zW_mono _ _ _) lq_887 v2 ?_
  refine r_aloadS (zW_mono _ _ _) lq_888 rfl ?_
  refine r_iload (zW_mono _ _ _) lq_889 rfl ?_
  refine r_push (zW_mono _ _ _) lq_890 ?_
  refine r_iadd (zW_mono _ _ _) lq_891 ?_
  refine r_sld (zW_mono _ _ _) lq_892 v3 ?_
  refine r_virt3 (m1 := 0) (m2 := 0) (zW_mono _ _ _) lq_893 hr9 (Nat.le_of_ble_eq_true rfl) (by unfold zbud; rw [hB]; rfl) (by omega) (by omega) ?_
  refine zW_mono zTt G 12 _ _ _ _ _ ?_ k9
  rintro w h3 rfl
  refine r_icmp_eq (zW_mono _ _ _) lq_896 (fun _ => ?_) (fun q => absurd rfl q)
  exact law_end hN
set_option maxHeartbeats 1000000 in
theorem lawop_fails {G : zG} (hG : G.1 = zProg) (hT : G.2.1 = ztx) (hN : G.2.2.1 = 8) {c n : Nat} (hc : c ≤ 1000) (hn : n ≤ 100000) : zR zTt G cd_L 600000 7302250 (some .boolean) (zW zTt G 12) (fun w _ => w = some (.int 1)) 901 [some (.retAddr 0), some (.ref 0), some (.ref 111), some (.int 0)] [] (dzH dH0) c n := by
  have v1 : vp_in ((0 : Int32) + 1) G.2.2.1 := by rw [hN]; exact vp_in_iff.mpr ⟨by decide +kernel, by decide +kernel⟩
  have v2 : vp_in ((0 : Int32) + 2) G.2.2.1 := by rw [hN]; exact vp_in_iff.mpr ⟨by decide +kernel, by decide +kernel⟩
  have v3 : vp_in ((0 : Int32) + 3) G.2.2.1 := by rw [hN]; exact vp_in_iff.mpr ⟨by decide +kernel, by decide +kernel⟩
  have hB := hG
  refine r_aload (zW_mono _ _ _) lq_901 rfl ?_
  refine r_aloadS (zW_mono _ _ _) lq_902 rfl ?_
  refine r_iload (zW_mono _ _ _) lq_903 rfl ?_
  refine r_push (zW_mono _ _ _) lq_904 ?_
  refine r_iadd (zW_mono _ _ _) lq_905 ?_
  refine r_sld (zW_mono _ _ _) lq_906 v1 ?_
  refine r_aloadS (zW_mono _ _ _) lq_907 rfl ?_
  refine r_iload (zW_mono _ _ _) lq_908 rfl ?_
  refine r_push (zW_mono _ _ _) lq_909 ?_
  refine r_iadd (zW_mono _ _ _) lq_910 ?_
  refine r_sld (zW_mono _ _ _) lq_911 v2 ?_
  refine r_aloadS (zW_mono _ _ _) lq_912 rfl ?_
  refine r_iload (zW_mono _ _ _) lq_913 rfl ?_
  refine r_push (zW_mono _ _ _) lq_914 ?_
  refine r_iadd (zW_mono _ _ _) lq_915 ?_
  refine r_sld (zW_mono _ _ _) lq_916 v3 ?_
  refine r_virt3 (m1 := 0) (m2 := 0) (zW_mono _ _ _) lq_917 hx_0 (Nat.le_of_ble_eq_true rfl) (by unfold zbud; rw [hB]; rfl) (by omega) (by omega) ?_
  refine zW_mono zTt G 12 _ _ _ _ _ ?_ (op_fails hG _ _ _)
  rintro w h2 ⟨x9, rfl, ⟨fs9, hr9⟩, k9⟩
  refine r_aload (zW_mono _ _ _) lq_920 rfl ?_
  refine r_aloadS (zW_mono _ _ _) lq_921 rfl ?_
  refine r_iload (zW_mono _ _ _) lq_922 rfl ?_
  refine r_push (zW_mono _ _ _) lq_923 ?_
  refine r_iadd (zW_mono _ _ _) lq_924 ?_
  refine r_sld (zW_mono _ _ _) lq_925 v1 ?_
  refine r_aloadS (zW_mono _ _ _) lq_926 rfl ?_
  refine r_iload (zW_mono _ _ _) lq_927 rfl ?_
  refine r_push (zW_mono _ _ _) lq_928 ?_
  refine r_iadd (zW_mono _ _ _) lq_929 ?_
  refine r_sld (zW_mono _ _ _) lq_930 v2 ?_
  refine r_aloadS (zW_mono _ _ _) lq_931 rfl ?_
  refine r_iload (zW_mono _ _ _) lq_932 rfl ?_
  refine r_push (zW_mono _ _ _) lq_933 ?_
  refine r_iadd (zW_mono _ _ _) lq_934 ?_
  refine r_sld (zW_mono _ _ _) lq_935 v3 ?_
  refine r_virt3 (m1 := 0) (m2 := 0) (zW_mono _ _ _) lq_936 hr9 (Nat.le_of_ble_eq_true rfl) (by unfold zbud; rw [hB]; rfl) (by omega) (by omega) ?_
  refine zW_mono zTt G 12 _ _ _ _ _ ?_ k9
  rintro w h3 rfl
  refine r_icmp_eq (zW_mono _ _ _) lq_939 (fun _ => ?_) (fun q => absurd rfl q)
  exact law_end hN
set_option maxHeartbeats 1000000 in
theorem lawop_owed {G : zG} (hG : G.1 = zProg) (hT : G.2.1 = ztx) (hN : G.2.2.1 = 8) {c n : Nat} (hc : c ≤ 1000) (hn : n ≤ 100000) : zR zTt G cd_L 600000 7302250 (some .boolean) (zW zTt G 12) (fun w _ => w = some (.int 1)) 944 [some (.retAddr 0), some (.ref 0), some (.ref 111), some (.int 0)] [] (dzH dH0) c n := by
  have v1 : vp_in ((0 : Int32) + 1) G.2.2.1 := by rw [hN]; exact vp_in_iff.mpr ⟨by decide +kernel, by decide +kernel⟩
  have v2 : vp_in ((0 : Int32) + 2) G.2.2.1 := by rw [hN]; exact vp_in_iff.mpr ⟨by decide +kernel, by decide +kernel⟩
  have hB := hG
  refine r_aload (zW_mono _ _ _) lq_944 rfl ?_
  refine r_aloadS (zW_mono _ _ _) lq_945 rfl ?_
  refine r_iload (zW_mono _ _ _) lq_946 rfl ?_
  refine r_push (zW_mono _ _ _) lq_947 ?_
  refine r_iadd (zW_mono _ _ _) lq_948 ?_
  refine r_sld (zW_mono _ _ _) lq_949 v1 ?_
  refine r_aloadS (zW_mono _ _ _) lq_950 rfl ?_
  refine r_iload (zW_mono _ _ _) lq_951 rfl ?_
  refine r_push (zW_mono _ _ _) lq_952 ?_
  refine r_iadd (zW_mono _ _ _) lq_953 ?_
  refine r_sld (zW_mono _ _ _) lq_954 v2 ?_
  refine r_virt2 (m1 := 0) (m2 := 0) (zW_mono _ _ _) lq_955 hx_0 (Nat.le_of_ble_eq_true rfl) (by unfold zbud; rw [hB]; rfl) (by omega) (by omega) ?_
  refine zW_mono zTt G 12 _ _ _ _ _ ?_ (op_owed hG _ _)
  rintro w h2 ⟨x9, rfl, ⟨fs9, hr9⟩, k9⟩
  refine r_aload (zW_mono _ _ _) lq_958 rfl ?_
  refine r_aloadS (zW_mono _ _ _) lq_959 rfl ?_
  refine r_iload (zW_mono _ _ _) lq_960 rfl ?_
  refine r_push (zW_mono _ _ _) lq_961 ?_
  refine r_iadd (zW_mono _ _ _) lq_962 ?_
  refine r_sld (zW_mono _ _ _) lq_963 v1 ?_
  refine r_aloadS (zW_mono _ _ _) lq_964 rfl ?_
  refine r_iload (zW_mono _ _ _) lq_965 rfl ?_
  refine r_push (zW_mono _ _ _) lq_966 ?_
  refine r_iadd (zW_mono _ _ _) lq_967 ?_
  refine r_sld (zW_mono _ _ _) lq_968 v2 ?_
  refine r_virt2 (m1 := 0) (m2 := 0) (zW_mono _ _ _) lq_969 hr9 (Nat.le_of_ble_eq_true rfl) (by unfold zbud; rw [hB]; rfl) (by omega) (by omega) ?_
  refine zW_mono zTt G 12 _ _ _ _ _ ?_ k9
  rintro w h3 rfl
  refine r_icmp_eq (zW_mono _ _ _) lq_972 (fun _ => ?_) (fun q => absurd rfl q)
  exact law_end hN
set_option maxHeartbeats 1000000 in
theorem lawop_test {G : zG} (hG : G.1 = zProg) (hT : G.2.1 = ztx) (hN : G.2.2.1 = 8) {c n : Nat} (hc : c ≤ 1000) (hn : n ≤ 100000) : zR zTt G cd_L 600000 7302250 (some .boolean) (zW zTt G 12) (fun w _ => w = some (.int 1)) 977 [some (.retAddr 0), some (.ref 0), some (.ref 111), some (.int 0)] [] (dzH dH0) c n := by
  have v1 : vp_in ((0 : Int32) + 1) G.2.2.1 := by rw [hN]; exact vp_in_iff.mpr ⟨by decide +kernel, by decide +kernel⟩
  have v2 : vp_in ((0 : Int32) + 2) G.2.2.1 := by rw [hN]; exact vp_in_iff.mpr ⟨by decide +kernel, by decide +kernel⟩
  have v3 : vp_in ((0 : Int32) + 3) G.2.2.1 := by rw [hN]; exact vp_in_iff.mpr ⟨by decide +kernel, by decide +kernel⟩
  have v4 : vp_in ((0 : Int32) + 4) G.2.2.1 := by rw [hN]; exact vp_in_iff.mpr ⟨by decide +kernel, by decide +kernel⟩
  have hB := hG
  refine r_aload (zW_mono _ _ _) lq_977 rfl ?_
  refine r_aloadS (zW_mono _ _ _) lq_978 rfl ?_
  refine r_iload (zW_mono _ _ _) lq_979 rfl ?_
  refine r_push (zW_mono _ _ _) lq_980 ?_
  refine r_iadd (zW_mono _ _ _) lq_981 ?_
  refine r_sld (zW_mono _ _ _) lq_982 v1 ?_
  refine r_aloadS (zW_mono _ _ _) lq_983 rfl ?_
  refine r_iload (zW_mono _ _ _) lq_984 rfl ?_
  refine r_push (zW_mono _ _ _) lq_985 ?_
  refine r_iadd (zW_mono _ _ _) lq_986 ?_
  refine r_sld (zW_mono _ _ _) lq_987 v2 ?_
  refine r_aloadS (zW_mono _ _ _) lq_988 rfl ?_
  refine r_iload (zW_mono _ _ _) lq_989 rfl ?_
  refine r_push (zW_mono _ _ _) lq_990 ?_
  refine r_iadd (zW_mono _ _ _) lq_991 ?_
  refine r_sld (zW_mono _ _ _) lq_992 v3 ?_
  refine r_aloadS (zW_mono _ _ _) lq_993 rfl ?_
  refine r_iload (zW_mono _ _ _) lq_994 rfl ?_
  refine r_push (zW_mono _ _ _) lq_995 ?_
  refine r_iadd (zW_mono _ _ _) lq_996 ?_
  refine r_sld (zW_mono _ _ _) lq_997 v4 ?_
  refine r_if_eq (zW_mono _ _ _) lq_998 (fun q4 => ?_) (fun q4 => ?_)
  · refine r_push (zW_mono _ _ _) lq_1005 ?_
    refine r_virt4 (m1 := 0) (m2 := 0) (zW_mono _ _ _) lq_1006 hx_0 (Nat.le_of_ble_eq_true rfl) (by unfold zbud; rw [hB]; rfl) (by omega) (by omega) ?_
    refine zW_mono zTt G 12 _ _ _ _ _ ?_ (op_test hG _ _ _ _)
    rintro w h2 ⟨x9, rfl, ⟨fs9, hr9⟩, k9⟩
    refine r_aload (zW_mono _ _ _) lq_1009 rfl ?_
    refine r_aloadS (zW_mono _ _ _) lq_1010 rfl ?_
    refine r_iload (zW_mono _ _ _) lq_1011 rfl ?_
    refine r_push (zW_mono _ _ _) lq_1012 ?_
    refine r_iadd (zW_mono _ _ _) lq_1013 ?_
    refine r_sld (zW_mono _ _ _) lq_1014 v1 ?_
    refine r_aloadS (zW_mono _ _ _) lq_1015 rfl ?_
    refine r_iload (zW_mono _ _ _) lq_1016 rfl ?_
    refine r_push (zW_mono _ _ _) lq_1017 ?_
    refine r_iadd (zW_mono _ _ _) lq_1018 ?_
    refine r_sld (zW_mono _ _ _) lq_1019 v2 ?_
    refine r_aloadS (zW_mono _ _ _) lq_1020 rfl ?_
    refine r_iload (zW_mono _ _ _) lq_1021 rfl ?_
    refine r_push (zW_mono _ _ _) lq_1022 ?_
    refine r_iadd (zW_mono _ _ _) lq_1023 ?_
    refine r_sld (zW_mono _ _ _) lq_1024 v3 ?_
    refine r_aloadS (zW_mono _ _ _) lq_1025 rfl ?_
    refine r_iload (zW_mono _ _ _) lq_1026 rfl ?_
    refine r_push (zW_mono _ _ _) lq_1027 ?_
    refine r_iadd (zW_mono _ _ _) lq_1028 ?_
    refine r_sld (zW_mono _ _ _) lq_1029 v4 ?_
    refine r_if_eq (zW_mono _ _ _) lq_1030 (fun _ => ?_) (fun q => absurd q4 q)
    refine r_push (zW_mono _ _ _) lq_1037 ?_
    refine r_virt4 (m1 := 0) (m2 := 0) (zW_mono _ _ _) lq_1038 hr9 (Nat.le_of_ble_eq_true rfl) (by unfold zbud; rw [hB]; rfl) (by omega) (by omega) ?_
    refine zW_mono zTt G 12 _ _ _ _ _ ?_ k9
    rintro w h3 rfl
    refine r_icmp_eq (zW_mono _ _ _) lq_1041 (fun _ => ?_) (fun q => absurd rfl q)
    exact law_end hN
  · refine r_push (zW_mono _ _ _) lq_1001 ?_
    refine r_goto (zW_mono _ _ _) lq_1002 ?_
    refine r_virt4 (m1 := 0) (m2 := 0) (zW_mono _ _ _) lq_1006 hx_0 (Nat.le_of_ble_eq_true rfl) (by unfold zbud; rw [hB]; rfl) (by omega) (by omega) ?_
    refine zW_mono zTt G 12 _ _ _ _ _ ?_ (op_test hG _ _ _ _)
    rintro w h2 ⟨x9, rfl, ⟨fs9, hr9⟩, k9⟩
    refine r_aload (zW_mono _ _ _) lq_1009 rfl ?_
    refine r_aloadS (zW_mono _ _ _) lq_1010 rfl ?_
    refine r_iload (zW_mono _ _ _) lq_1011 rfl ?_
    refine r_push (zW_mono _ _ _) lq_1012 ?_
    refine r_iadd (zW_mono _ _ _) lq_1013 ?_
    refine r_sld (zW_mono _ _ _) lq_1014 v1 ?_
    refine r_aloadS (zW_mono _ _ _) lq_1015 rfl ?_
    refine r_iload (zW_mono _ _ _) lq_1016 rfl ?_
    refine r_push (zW_mono _ _ _) lq_1017 ?_
    refine r_iadd (zW_mono _ _ _) lq_1018 ?_
    refine r_sld (zW_mono _ _ _) lq_1019 v2 ?_
    refine r_aloadS (zW_mono _ _ _) lq_1020 rfl ?_
    refine r_iload (zW_mono _ _ _) lq_1021 rfl ?_
    refine r_push (zW_mono _ _ _) lq_1022 ?_
    refine r_iadd (zW_mono _ _ _) lq_1023 ?_
    refine r_sld (zW_mono _ _ _) lq_1024 v3 ?_
    refine r_aloadS (zW_mono _ _ _) lq_1025 rfl ?_
    refine r_iload (zW_mono _ _ _) lq_1026 rfl ?_
    refine r_push (zW_mono _ _ _) lq_1027 ?_
    refine r_iadd (zW_mono _ _ _) lq_1028 ?_
    refine r_sld (zW_mono _ _ _) lq_1029 v4 ?_
    refine r_if_eq (zW_mono _ _ _) lq_1030 (fun q => absurd q q4) (fun _ => ?_)
    refine r_push (zW_mono _ _ _) lq_1033 ?_
    refine r_goto (zW_mono _ _ _) lq_1034 ?_
    refine r_virt4 (m1 := 0) (m2 := 0) (zW_mono _ _ _) lq_1038 hr9 (Nat.le_of_ble_eq_true rfl) (by unfold zbud; rw [hB]; rfl) (by omega) (by omega) ?_
    refine zW_mono zTt G 12 _ _ _ _ _ ?_ k9
    rintro w h3 rfl
    refine r_icmp_eq (zW_mono _ _ _) lq_1041 (fun _ => ?_) (fun q => absurd rfl q)
    exact law_end hN
set_option maxHeartbeats 1000000 in
theorem lawop_reads {G : zG} (hG : G.1 = zProg) (hT : G.2.1 = ztx) (hN : G.2.2.1 = 8) {c n : Nat} (hc : c ≤ 1000) (hn : n ≤ 100000) : zR zTt G cd_L 600000 7302250 (some .boolean) (zW zTt G 12) (fun w _ => w = some (.int 1)) 1046 [some (.retAddr 0), some (.ref 0), some (.ref 111), some (.int 0)] [] (dzH dH0) c n := by
  have v1 : vp_in ((0 : Int32) + 1) G.2.2.1 := by rw [hN]; exact vp_in_iff.mpr ⟨by decide +kernel, by decide +kernel⟩
  have v2 : vp_in ((0 : Int32) + 2) G.2.2.1 := by rw [hN]; exact vp_in_iff.mpr ⟨by decide +kernel, by decide +kernel⟩
  have hB := hG
  refine r_aload (zW_mono _ _ _) lq_1046 rfl ?_
  refine r_aloadS (zW_mono _ _ _) lq_1047 rfl ?_
  refine r_iload (zW_mono _ _ _) lq_1048 rfl ?_
  refine r_push (zW_mono _ _ _) lq_1049 ?_
  refine r_iadd (zW_mono _ _ _) lq_1050 ?_
  refine r_sld (zW_mono _ _ _) lq_1051 v1 ?_
  refine r_aloadS (zW_mono _ _ _) lq_1052 rfl ?_
  refine r_iload (zW_mono _ _ _) lq_1053 rfl ?_
  refine r_push (zW_mono _ _ _) lq_1054 ?_
  refine r_iadd (zW_mono _ _ _) lq_1055 ?_
  refine r_sld (zW_mono _ _ _) lq_1056 v2 ?_
  refine r_virt2 (m1 := 0) (m2 := 0) (zW_mono _ _ _) lq_1057 hx_0 (Nat.le_of_ble_eq_true rfl) (by unfold zbud; rw [hB]; rfl) (by omega) (by omega) ?_
  refine zW_mono zTt G 12 _ _ _ _ _ ?_ (op_reads hG _ _)
  rintro w h2 ⟨x9, rfl, ⟨fs9, hr9⟩, k9⟩
  refine r_aload (zW_mono _ _ _) lq_1060 rfl ?_
  refine r_aloadS (zW_mono _ _ _) lq_1061 rfl ?_
  refine r_iload (zW_mono _ _ _) lq_1062 rfl ?_
  refine r_push (zW_mono _ _ _) lq_1063 ?_
  refine r_iadd (zW_mono _ _ _) lq_1064 ?_
  refine r_sld (zW_mono _ _ _) lq_1065 v1 ?_
  refine r_aloadS (zW_mono _ _ _) lq_1066 rfl ?_
  refine r_iload (zW_mono _ _ _) lq_1067 rfl ?_
  refine r_push (zW_mono _ _ _) lq_1068 ?_
  refine r_iadd (zW_mono _ _ _) lq_1069 ?_
  refine r_sld (zW_mono _ _ _) lq_1070 v2 ?_
  refine r_virt2 (m1 := 0) (m2 := 0) (zW_mono _ _ _) lq_1071 hr9 (Nat.le_of_ble_eq_true rfl) (by unfold zbud; rw [hB]; rfl) (by omega) (by omega) ?_
  refine zW_mono zTt G 12 _ _ _ _ _ ?_ k9
  rintro w h3 rfl
  refine r_icmp_eq (zW_mono _ _ _) lq_1074 (fun _ => ?_) (fun q => absurd rfl q)
  exact law_end hN
set_option maxHeartbeats 1000000 in
theorem lawop_knew {G : zG} (hG : G.1 = zProg) (hT : G.2.1 = ztx) (hN : G.2.2.1 = 8) {c n : Nat} (hc : c ≤ 1000) (hn : n ≤ 100000) : zR zTt G cd_L 600000 7302250 (some .boolean) (zW zTt G 12) (fun w _ => w = some (.int 1)) 1079 [some (.retAddr 0), some (.ref 0), some (.ref 111), some (.int 0)] [] (dzH dH0) c n := by
  have v1 : vp_in ((0 : Int32) + 1) G.2.2.1 := by rw [hN]; exact vp_in_iff.mpr ⟨by decide +kernel, by decide +kernel⟩
  have v2 : vp_in ((0 : Int32) + 2) G.2.2.1 := by rw [hN]; exact vp_in_iff.mpr ⟨by decide +kernel, by decide +kernel⟩
  have v3 : vp_in ((0 : Int32) + 3) G.2.2.1 := by rw [hN]; exact vp_in_iff.mpr ⟨by decide +kernel, by decide +kernel⟩
  have v4 : vp_in ((0 : Int32) + 4) G.2.2.1 := by rw [hN]; exact vp_in_iff.mpr ⟨by decide +kernel, by decide +kernel⟩
  have v5 : vp_in ((0 : Int32) + 5) G.2.2.1 := by rw [hN]; exact vp_in_iff.mpr ⟨by decide +kernel, by decide +kernel⟩
  have hB := hG
  refine r_aload (zW_mono _ _ _) lq_1079 rfl ?_
  refine r_aloadS (zW_mono _ _ _) lq_1080 rfl ?_
  refine r_iload (zW_mono _ _ _) lq_1081 rfl ?_
  refine r_push (zW_mono _ _ _) lq_1082 ?_
  refine r_iadd (zW_mono _ _ _) lq_1083 ?_
  refine r_sld (zW_mono _ _ _) lq_1084 v1 ?_
  refine r_aloadS (zW_mono _ _ _) lq_1085 rfl ?_
  refine r_iload (zW_mono _ _ _) lq_1086 rfl ?_
  refine r_push (zW_mono _ _ _) lq_1087 ?_
  refine r_iadd (zW_mono _ _ _) lq_1088 ?_
  refine r_sld (zW_mono _ _ _) lq_1089 v2 ?_
  refine r_aloadS (zW_mono _ _ _) lq_1090 rfl ?_
  refine r_iload (zW_mono _ _ _) lq_1091 rfl ?_
  refine r_push (zW_mono _ _ _) lq_1092 ?_
  refine r_iadd (zW_mono _ _ _) lq_1093 ?_
  refine r_sld (zW_mono _ _ _) lq_1094 v3 ?_
  refine r_aloadS (zW_mono _ _ _) lq_1095 rfl ?_
  refine r_iload (zW_mono _ _ _) lq_1096 rfl ?_
  refine r_push (zW_mono _ _ _) lq_1097 ?_
  refine r_iadd (zW_mono _ _ _) lq_1098 ?_
  refine r_sld (zW_mono _ _ _) lq_1099 v4 ?_
  refine r_aloadS (zW_mono _ _ _) lq_1100 rfl ?_
  refine r_iload (zW_mono _ _ _) lq_1101 rfl ?_
  refine r_push (zW_mono _ _ _) lq_1102 ?_
  refine r_iadd (zW_mono _ _ _) lq_1103 ?_
  refine r_sld (zW_mono _ _ _) lq_1104 v5 ?_
  refine r_virt5 (m1 := 0) (m2 := 0) (zW_mono _ _ _) lq_1105 hx_0 (Nat.le_of_ble_eq_true rfl) (by unfold zbud; rw [hB]; rfl) (by omega) (by omega) ?_
  refine zW_mono zTt G 12 _ _ _ _ _ ?_ (op_knew hG _ _ _ _ _)
  rintro w h2 ⟨x9, rfl, ⟨fs9, hr9⟩, k9⟩
  refine r_aload (zW_mono _ _ _) lq_1108 rfl ?_
  refine r_aloadS (zW_mono _ _ _) lq_1109 rfl ?_
  refine r_iload (zW_mono _ _ _) lq_1110 rfl ?_
  refine r_push (zW_mono _ _ _) lq_1111 ?_
  refine r_iadd (zW_mono _ _ _) lq_1112 ?_
  refine r_sld (zW_mono _ _ _) lq_1113 v1 ?_
  refine r_aloadS (zW_mono _ _ _) lq_1114 rfl ?_
  refine r_iload (zW_mono _ _ _) lq_1115 rfl ?_
  refine r_push (zW_mono _ _ _) lq_1116 ?_
  refine r_iadd (zW_mono _ _ _) lq_1117 ?_
  refine r_sld (zW_mono _ _ _) lq_1118 v2 ?_
  refine r_aloadS (zW_mono _ _ _) lq_1119 rfl ?_
  refine r_iload (zW_mono _ _ _) lq_1120 rfl ?_
  refine r_push (zW_mono _ _ _) lq_1121 ?_
  refine r_iadd (zW_mono _ _ _) lq_1122 ?_
  refine r_sld (zW_mono _ _ _) lq_1123 v3 ?_
  refine r_aloadS (zW_mono _ _ _) lq_1124 rfl ?_
  refine r_iload (zW_mono _ _ _) lq_1125 rfl ?_
  refine r_push (zW_mono _ _ _) lq_1126 ?_
  refine r_iadd (zW_mono _ _ _) lq_1127 ?_
  refine r_sld (zW_mono _ _ _) lq_1128 v4 ?_
  refine r_aloadS (zW_mono _ _ _) lq_1129 rfl ?_
  refine r_iload (zW_mono _ _ _) lq_1130 rfl ?_
  refine r_push (zW_mono _ _ _) lq_1131 ?_
  refine r_iadd (zW_mono _ _ _) lq_1132 ?_
  refine r_sld (zW_mono _ _ _) lq_1133 v5 ?_
  refine r_virt5 (m1 := 0) (m2 := 0) (zW_mono _ _ _) lq_1134 hr9 (Nat.le_of_ble_eq_true rfl) (by unfold zbud; rw [hB]; rfl) (by omega) (by omega) ?_
  refine zW_mono zTt G 12 _ _ _ _ _ ?_ k9
  rintro w h3 rfl
  refine r_icmp_eq (zW_mono _ _ _) lq_1137 (fun _ => ?_) (fun q => absurd rfl q)
  exact law_end hN
set_option maxHeartbeats 1000000 in
theorem lawop_knewFails {G : zG} (hG : G.1 = zProg) (hT : G.2.1 = ztx) (hN : G.2.2.1 = 8) {c n : Nat} (hc : c ≤ 1000) (hn : n ≤ 100000) : zR zTt G cd_L 600000 7302250 (some .boolean) (zW zTt G 12) (fun w _ => w = some (.int 1)) 1142 [some (.retAddr 0), some (.ref 0), some (.ref 111), some (.int 0)] [] (dzH dH0) c n := by
  have v1 : vp_in ((0 : Int32) + 1) G.2.2.1 := by rw [hN]; exact vp_in_iff.mpr ⟨by decide +kernel, by decide +kernel⟩
  have v2 : vp_in ((0 : Int32) + 2) G.2.2.1 := by rw [hN]; exact vp_in_iff.mpr ⟨by decide +kernel, by decide +kernel⟩
  have v3 : vp_in ((0 : Int32) + 3) G.2.2.1 := by rw [hN]; exact vp_in_iff.mpr ⟨by decide +kernel, by decide +kernel⟩
  have hB := hG
  refine r_aload (zW_mono _ _ _) lq_1142 rfl ?_
  refine r_aloadS (zW_mono _ _ _) lq_1143 rfl ?_
  refine r_iload (zW_mono _ _ _) lq_1144 rfl ?_
  refine r_push (zW_mono _ _ _) lq_1145 ?_
  refine r_iadd (zW_mono _ _ _) lq_1146 ?_
  refine r_sld (zW_mono _ _ _) lq_1147 v1 ?_
  refine r_aloadS (zW_mono _ _ _) lq_1148 rfl ?_
  refine r_iload (zW_mono _ _ _) lq_1149 rfl ?_
  refine r_push (zW_mono _ _ _) lq_1150 ?_
  refine r_iadd (zW_mono _ _ _) lq_1151 ?_
  refine r_sld (zW_mono _ _ _) lq_1152 v2 ?_
  refine r_aloadS (zW_mono _ _ _) lq_1153 rfl ?_
  refine r_iload (zW_mono _ _ _) lq_1154 rfl ?_
  refine r_push (zW_mono _ _ _) lq_1155 ?_
  refine r_iadd (zW_mono _ _ _) lq_1156 ?_
  refine r_sld (zW_mono _ _ _) lq_1157 v3 ?_
  refine r_virt3 (m1 := 0) (m2 := 0) (zW_mono _ _ _) lq_1158 hx_0 (Nat.le_of_ble_eq_true rfl) (by unfold zbud; rw [hB]; rfl) (by omega) (by omega) ?_
  refine zW_mono zTt G 12 _ _ _ _ _ ?_ (op_knewFails hG _ _ _)
  rintro w h2 ⟨x9, rfl, ⟨fs9, hr9⟩, k9⟩
  refine r_aload (zW_mono _ _ _) lq_1161 rfl ?_
  refine r_aloadS (zW_mono _ _ _) lq_1162 rfl ?_
  refine r_iload (zW_mono _ _ _) lq_1163 rfl ?_
  refine r_push (zW_mono _ _ _) lq_1164 ?_
  refine r_iadd (zW_mono _ _ _) lq_1165 ?_
  refine r_sld (zW_mono _ _ _) lq_1166 v1 ?_
  refine r_aloadS (zW_mono _ _ _) lq_1167 rfl ?_
  refine r_iload (zW_mono _ _ _) lq_1168 rfl ?_
  refine r_push (zW_mono _ _ _) lq_1169 ?_
  refine r_iadd (zW_mono _ _ _) lq_1170 ?_
  refine r_sld (zW_mono _ _ _) lq_1171 v2 ?_
  refine r_aloadS (zW_mono _ _ _) lq_1172 rfl ?_
  refine r_iload (zW_mono _ _ _) lq_1173 rfl ?_
  refine r_push (zW_mono _ _ _) lq_1174 ?_
  refine r_iadd (zW_mono _ _ _) lq_1175 ?_
  refine r_sld (zW_mono _ _ _) lq_1176 v3 ?_
  refine r_virt3 (m1 := 0) (m2 := 0) (zW_mono _ _ _) lq_1177 hr9 (Nat.le_of_ble_eq_true rfl) (by unfold zbud; rw [hB]; rfl) (by omega) (by omega) ?_
  refine zW_mono zTt G 12 _ _ _ _ _ ?_ k9
  rintro w h3 rfl
  refine r_icmp_eq (zW_mono _ _ _) lq_1180 (fun _ => ?_) (fun q => absurd rfl q)
  exact law_end hN
set_option maxHeartbeats 1000000 in
theorem lawop_crash {G : zG} (hG : G.1 = zProg) (hT : G.2.1 = ztx) (hN : G.2.2.1 = 8) {c n : Nat} (hc : c ≤ 1000) (hn : n ≤ 100000) : zR zTt G cd_L 600000 7302250 (some .boolean) (zW zTt G 12) (fun w _ => w = some (.int 1)) 1185 [some (.retAddr 0), some (.ref 0), some (.ref 111), some (.int 0)] [] (dzH dH0) c n := by
  have v1 : vp_in ((0 : Int32) + 1) G.2.2.1 := by rw [hN]; exact vp_in_iff.mpr ⟨by decide +kernel, by decide +kernel⟩
  have v2 : vp_in ((0 : Int32) + 2) G.2.2.1 := by rw [hN]; exact vp_in_iff.mpr ⟨by decide +kernel, by decide +kernel⟩
  have v3 : vp_in ((0 : Int32) + 3) G.2.2.1 := by rw [hN]; exact vp_in_iff.mpr ⟨by decide +kernel, by decide +kernel⟩
  have v4 : vp_in ((0 : Int32) + 4) G.2.2.1 := by rw [hN]; exact vp_in_iff.mpr ⟨by decide +kernel, by decide +kernel⟩
  have v5 : vp_in ((0 : Int32) + 5) G.2.2.1 := by rw [hN]; exact vp_in_iff.mpr ⟨by decide +kernel, by decide +kernel⟩
  have v6 : vp_in ((0 : Int32) + 6) G.2.2.1 := by rw [hN]; exact vp_in_iff.mpr ⟨by decide +kernel, by decide +kernel⟩
  have v7 : vp_in ((0 : Int32) + 7) G.2.2.1 := by rw [hN]; exact vp_in_iff.mpr ⟨by decide +kernel, by decide +kernel⟩
  have hB := hG
  refine r_aload (zW_mono _ _ _) lq_1185 rfl ?_
  refine r_aloadS (zW_mono _ _ _) lq_1186 rfl ?_
  refine r_iload (zW_mono _ _ _) lq_1187 rfl ?_
  refine r_push (zW_mono _ _ _) lq_1188 ?_
  refine r_iadd (zW_mono _ _ _) lq_1189 ?_
  refine r_sld (zW_mono _ _ _) lq_1190 v1 ?_
  refine r_aloadS (zW_mono _ _ _) lq_1191 rfl ?_
  refine r_iload (zW_mono _ _ _) lq_1192 rfl ?_
  refine r_push (zW_mono _ _ _) lq_1193 ?_
  refine r_iadd (zW_mono _ _ _) lq_1194 ?_
  refine r_sld (zW_mono _ _ _) lq_1195 v2 ?_
  refine r_aloadS (zW_mono _ _ _) lq_1196 rfl ?_
  refine r_iload (zW_mono _ _ _) lq_1197 rfl ?_
  refine r_push (zW_mono _ _ _) lq_1198 ?_
  refine r_iadd (zW_mono _ _ _) lq_1199 ?_
  refine r_sld (zW_mono _ _ _) lq_1200 v3 ?_
  refine r_aloadS (zW_mono _ _ _) lq_1201 rfl ?_
  refine r_iload (zW_mono _ _ _) lq_1202 rfl ?_
  refine r_push (zW_mono _ _ _) lq_1203 ?_
  refine r_iadd (zW_mono _ _ _) lq_1204 ?_
  refine r_sld (zW_mono _ _ _) lq_1205 v4 ?_
  refine r_aloadS (zW_mono _ _ _) lq_1206 rfl ?_
  refine r_iload (zW_mono _ _ _) lq_1207 rfl ?_
  refine r_push (zW_mono _ _ _) lq_1208 ?_
  refine r_iadd (zW_mono _ _ _) lq_1209 ?_
  refine r_sld (zW_mono _ _ _) lq_1210 v5 ?_
  refine r_aloadS (zW_mono _ _ _) lq_1211 rfl ?_
  refine r_iload (zW_mono _ _ _) lq_1212 rfl ?_
  refine r_push (zW_mono _ _ _) lq_1213 ?_
  refine r_iadd (zW_mono _ _ _) lq_1215 ?_
  refine r_sld (zW_mono _ _ _) lq_1216 v6 ?_
  refine r_if_eq (zW_mono _ _ _) lq_1217 (fun q6 => ?_) (fun q6 => ?_)
  · refine r_push (zW_mono _ _ _) lq_1224 ?_
    refine r_aloadS (zW_mono _ _ _) lq_1225 rfl ?_
    refine r_iload (zW_mono _ _ _) lq_1226 rfl ?_
    refine r_push (zW_mono _ _ _) lq_1227 ?_
    refine r_iadd (zW_mono _ _ _) lq_1229 ?_
    refine r_sld (zW_mono _ _ _) lq_1230 v7 ?_
    refine r_if_eq (zW_mono _ _ _) lq_1231 (fun q7 => ?_) (fun q7 => ?_)
    · refine r_push (zW_mono _ _ _) lq_1238 ?_
      refine r_virt7 (m1 := 0) (m2 := 0) (zW_mono _ _ _) lq_1239 hx_0 (Nat.le_of_ble_eq_true rfl) (by unfold zbud; rw [hB]; rfl) (by omega) (by omega) ?_
      refine zW_mono zTt G 12 _ _ _ _ _ ?_ (op_crash hG _ _ _ _ _ _ _)
      rintro w h2 ⟨x9, rfl, ⟨fs9, hr9⟩, k9⟩
      refine r_aload (zW_mono _ _ _) lq_1242 rfl ?_
      refine r_aloadS (zW_mono _ _ _) lq_1243 rfl ?_
      refine r_iload (zW_mono _ _ _) lq_1244 rfl ?_
      refine r_push (zW_mono _ _ _) lq_1245 ?_
      refine r_iadd (zW_mono _ _ _) lq_1246 ?_
      refine r_sld (zW_mono _ _ _) lq_1247 v1 ?_
      refine r_aloadS (zW_mono _ _ _) lq_1248 rfl ?_
      refine r_iload (zW_mono _ _ _) lq_1249 rfl ?_
      refine r_push (zW_mono _ _ _) lq_1250 ?_
      refine r_iadd (zW_mono _ _ _) lq_1251 ?_
      refine r_sld (zW_mono _ _ _) lq_1252 v2 ?_
      refine r_aloadS (zW_mono _ _ _) lq_1253 rfl ?_
      refine r_iload (zW_mono _ _ _) lq_1254 rfl ?_
      refine r_push (zW_mono _ _ _) lq_1255 ?_
      refine r_iadd (zW_mono _ _ _) lq_1256 ?_
      refine r_sld (zW_mono _ _ _) lq_1257 v3 ?_
      refine r_aloadS (zW_mono _ _ _) lq_1258 rfl ?_
      refine r_iload (zW_mono _ _ _) lq_1259 rfl ?_
      refine r_push (zW_mono _ _ _) lq_1260 ?_
      refine r_iadd (zW_mono _ _ _) lq_1261 ?_
      refine r_sld (zW_mono _ _ _) lq_1262 v4 ?_
      refine r_aloadS (zW_mono _ _ _) lq_1263 rfl ?_
      refine r_iload (zW_mono _ _ _) lq_1264 rfl ?_
      refine r_push (zW_mono _ _ _) lq_1265 ?_
      refine r_iadd (zW_mono _ _ _) lq_1266 ?_
      refine r_sld (zW_mono _ _ _) lq_1267 v5 ?_
      refine r_aloadS (zW_mono _ _ _) lq_1268 rfl ?_
      refine r_iload (zW_mono _ _ _) lq_1269 rfl ?_
      refine r_push (zW_mono _ _ _) lq_1270 ?_
      refine r_iadd (zW_mono _ _ _) lq_1272 ?_
      refine r_sld (zW_mono _ _ _) lq_1273 v6 ?_
      refine r_if_eq (zW_mono _ _ _) lq_1274 (fun _ => ?_) (fun q => absurd q6 q)
      refine r_push (zW_mono _ _ _) lq_1281 ?_
      refine r_aloadS (zW_mono _ _ _) lq_1282 rfl ?_
      refine r_iload (zW_mono _ _ _) lq_1283 rfl ?_
      refine r_push (zW_mono _ _ _) lq_1284 ?_
      refine r_iadd (zW_mono _ _ _) lq_1286 ?_
      refine r_sld (zW_mono _ _ _) lq_1287 v7 ?_
      refine r_if_eq (zW_mono _ _ _) lq_1288 (fun _ => ?_) (fun q => absurd q7 q)
      refine r_push (zW_mono _ _ _) lq_1295 ?_
      refine r_virt7 (m1 := 0) (m2 := 0) (zW_mono _ _ _) lq_1296 hr9 (Nat.le_of_ble_eq_true rfl) (by unfold zbud; rw [hB]; rfl) (by omega) (by omega) ?_
      refine zW_mono zTt G 12 _ _ _ _ _ ?_ k9
      rintro w h3 rfl
      refine r_icmp_eq (zW_mono _ _ _) lq_1299 (fun _ => ?_) (fun q => absurd rfl q)
      exact law_end hN
    · refine r_push (zW_mono _ _ _) lq_1234 ?_
      refine r_goto (zW_mono _ _ _) lq_1235 ?_
      refine r_virt7 (m1 := 0) (m2 := 0) (zW_mono _ _ _) lq_1239 hx_0 (Nat.le_of_ble_eq_true rfl) (by unfold zbud; rw [hB]; rfl) (by omega) (by omega) ?_
      refine zW_mono zTt G 12 _ _ _ _ _ ?_ (op_crash hG _ _ _ _ _ _ _)
      rintro w h2 ⟨x9, rfl, ⟨fs9, hr9⟩, k9⟩
      refine r_aload (zW_mono _ _ _) lq_1242 rfl ?_
      refine r_aloadS (zW_mono _ _ _) lq_1243 rfl ?_
      refine r_iload (zW_mono _ _ _) lq_1244 rfl ?_
      refine r_push (zW_mono _ _ _) lq_1245 ?_
      refine r_iadd (zW_mono _ _ _) lq_1246 ?_
      refine r_sld (zW_mono _ _ _) lq_1247 v1 ?_
      refine r_aloadS (zW_mono _ _ _) lq_1248 rfl ?_
      refine r_iload (zW_mono _ _ _) lq_1249 rfl ?_
      refine r_push (zW_mono _ _ _) lq_1250 ?_
      refine r_iadd (zW_mono _ _ _) lq_1251 ?_
      refine r_sld (zW_mono _ _ _) lq_1252 v2 ?_
      refine r_aloadS (zW_mono _ _ _) lq_1253 rfl ?_
      refine r_iload (zW_mono _ _ _) lq_1254 rfl ?_
      refine r_push (zW_mono _ _ _) lq_1255 ?_
      refine r_iadd (zW_mono _ _ _) lq_1256 ?_
      refine r_sld (zW_mono _ _ _) lq_1257 v3 ?_
      refine r_aloadS (zW_mono _ _ _) lq_1258 rfl ?_
      refine r_iload (zW_mono _ _ _) lq_1259 rfl ?_
      refine r_push (zW_mono _ _ _) lq_1260 ?_
      refine r_iadd (zW_mono _ _ _) lq_1261 ?_
      refine r_sld (zW_mono _ _ _) lq_1262 v4 ?_
      refine r_aloadS (zW_mono _ _ _) lq_1263 rfl ?_
      refine r_iload (zW_mono _ _ _) lq_1264 rfl ?_
      refine r_push (zW_mono _ _ _) lq_1265 ?_
      refine r_iadd (zW_mono _ _ _) lq_1266 ?_
      refine r_sld (zW_mono _ _ _) lq_1267 v5 ?_
      refine r_aloadS (zW_mono _ _ _) lq_1268 rfl ?_
      refine r_iload (zW_mono _ _ _) lq_1269 rfl ?_
      refine r_push (zW_mono _ _ _) lq_1270 ?_
      refine r_iadd (zW_mono _ _ _) lq_1272 ?_
      refine r_sld (zW_mono _ _ _) lq_1273 v6 ?_
      refine r_if_eq (zW_mono _ _ _) lq_1274 (fun _ => ?_) (fun q => absurd q6 q)
      refine r_push (zW_mono _ _ _) lq_1281 ?_
      refine r_aloadS (zW_mono _ _ _) lq_1282 rfl ?_
      refine r_iload (zW_mono _ _ _) lq_1283 rfl ?_
      refine r_push (zW_mono _ _ _) lq_1284 ?_
      refine r_iadd (zW_mono _ _ _) lq_1286 ?_
      refine r_sld (zW_mono _ _ _) lq_1287 v7 ?_
      refine r_if_eq (zW_mono _ _ _) lq_1288 (fun q => absurd q q7) (fun _ => ?_)
      refine r_push (zW_mono _ _ _) lq_1291 ?_
      refine r_goto (zW_mono _ _ _) lq_1292 ?_
      refine r_virt7 (m1 := 0) (m2 := 0) (zW_mono _ _ _) lq_1296 hr9 (Nat.le_of_ble_eq_true rfl) (by unfold zbud; rw [hB]; rfl) (by omega) (by omega) ?_
      refine zW_mono zTt G 12 _ _ _ _ _ ?_ k9
      rintro w h3 rfl
      refine r_icmp_eq (zW_mono _ _ _) lq_1299 (fun _ => ?_) (fun q => absurd rfl q)
      exact law_end hN
  · refine r_push (zW_mono _ _ _) lq_1220 ?_
    refine r_goto (zW_mono _ _ _) lq_1221 ?_
    refine r_aloadS (zW_mono _ _ _) lq_1225 rfl ?_
    refine r_iload (zW_mono _ _ _) lq_1226 rfl ?_
    refine r_push (zW_mono _ _ _) lq_1227 ?_
    refine r_iadd (zW_mono _ _ _) lq_1229 ?_
    refine r_sld (zW_mono _ _ _) lq_1230 v7 ?_
    refine r_if_eq (zW_mono _ _ _) lq_1231 (fun q7 => ?_) (fun q7 => ?_)
    · refine r_push (zW_mono _ _ _) lq_1238 ?_
      refine r_virt7 (m1 := 0) (m2 := 0) (zW_mono _ _ _) lq_1239 hx_0 (Nat.le_of_ble_eq_true rfl) (by unfold zbud; rw [hB]; rfl) (by omega) (by omega) ?_
      refine zW_mono zTt G 12 _ _ _ _ _ ?_ (op_crash hG _ _ _ _ _ _ _)
      rintro w h2 ⟨x9, rfl, ⟨fs9, hr9⟩, k9⟩
      refine r_aload (zW_mono _ _ _) lq_1242 rfl ?_
      refine r_aloadS (zW_mono _ _ _) lq_1243 rfl ?_
      refine r_iload (zW_mono _ _ _) lq_1244 rfl ?_
      refine r_push (zW_mono _ _ _) lq_1245 ?_
      refine r_iadd (zW_mono _ _ _) lq_1246 ?_
      refine r_sld (zW_mono _ _ _) lq_1247 v1 ?_
      refine r_aloadS (zW_mono _ _ _) lq_1248 rfl ?_
      refine r_iload (zW_mono _ _ _) lq_1249 rfl ?_
      refine r_push (zW_mono _ _ _) lq_1250 ?_
      refine r_iadd (zW_mono _ _ _) lq_1251 ?_
      refine r_sld (zW_mono _ _ _) lq_1252 v2 ?_
      refine r_aloadS (zW_mono _ _ _) lq_1253 rfl ?_
      refine r_iload (zW_mono _ _ _) lq_1254 rfl ?_
      refine r_push (zW_mono _ _ _) lq_1255 ?_
      refine r_iadd (zW_mono _ _ _) lq_1256 ?_
      refine r_sld (zW_mono _ _ _) lq_1257 v3 ?_
      refine r_aloadS (zW_mono _ _ _) lq_1258 rfl ?_
      refine r_iload (zW_mono _ _ _) lq_1259 rfl ?_
      refine r_push (zW_mono _ _ _) lq_1260 ?_
      refine r_iadd (zW_mono _ _ _) lq_1261 ?_
      refine r_sld (zW_mono _ _ _) lq_1262 v4 ?_
      refine r_aloadS (zW_mono _ _ _) lq_1263 rfl ?_
      refine r_iload (zW_mono _ _ _) lq_1264 rfl ?_
      refine r_push (zW_mono _ _ _) lq_1265 ?_
      refine r_iadd (zW_mono _ _ _) lq_1266 ?_
      refine r_sld (zW_mono _ _ _) lq_1267 v5 ?_
      refine r_aloadS (zW_mono _ _ _) lq_1268 rfl ?_
      refine r_iload (zW_mono _ _ _) lq_1269 rfl ?_
      refine r_push (zW_mono _ _ _) lq_1270 ?_
      refine r_iadd (zW_mono _ _ _) lq_1272 ?_
      refine r_sld (zW_mono _ _ _) lq_1273 v6 ?_
      refine r_if_eq (zW_mono _ _ _) lq_1274 (fun q => absurd q q6) (fun _ => ?_)
      refine r_push (zW_mono _ _ _) lq_1277 ?_
      refine r_goto (zW_mono _ _ _) lq_1278 ?_
      refine r_aloadS (zW_mono _ _ _) lq_1282 rfl ?_
      refine r_iload (zW_mono _ _ _) lq_1283 rfl ?_
      refine r_push (zW_mono _ _ _) lq_1284 ?_
      refine r_iadd (zW_mono _ _ _) lq_1286 ?_
      refine r_sld (zW_mono _ _ _) lq_1287 v7 ?_
      refine r_if_eq (zW_mono _ _ _) lq_1288 (fun _ => ?_) (fun q => absurd q7 q)
      refine r_push (zW_mono _ _ _) lq_1295 ?_
      refine r_virt7 (m1 := 0) (m2 := 0) (zW_mono _ _ _) lq_1296 hr9 (Nat.le_of_ble_eq_true rfl) (by unfold zbud; rw [hB]; rfl) (by omega) (by omega) ?_
      refine zW_mono zTt G 12 _ _ _ _ _ ?_ k9
      rintro w h3 rfl
      refine r_icmp_eq (zW_mono _ _ _) lq_1299 (fun _ => ?_) (fun q => absurd rfl q)
      exact law_end hN
    · refine r_push (zW_mono _ _ _) lq_1234 ?_
      refine r_goto (zW_mono _ _ _) lq_1235 ?_
      refine r_virt7 (m1 := 0) (m2 := 0) (zW_mono _ _ _) lq_1239 hx_0 (Nat.le_of_ble_eq_true rfl) (by unfold zbud; rw [hB]; rfl) (by omega) (by omega) ?_
      refine zW_mono zTt G 12 _ _ _ _ _ ?_ (op_crash hG _ _ _ _ _ _ _)
      rintro w h2 ⟨x9, rfl, ⟨fs9, hr9⟩, k9⟩
      refine r_aload (zW_mono _ _ _) lq_1242 rfl ?_
      refine r_aloadS (zW_mono _ _ _) lq_1243 rfl ?_
      refine r_iload (zW_mono _ _ _) lq_1244 rfl ?_
      refine r_push (zW_mono _ _ _) lq_1245 ?_
      refine r_iadd (zW_mono _ _ _) lq_1246 ?_
      refine r_sld (zW_mono _ _ _) lq_1247 v1 ?_
      refine r_aloadS (zW_mono _ _ _) lq_1248 rfl ?_
      refine r_iload (zW_mono _ _ _) lq_1249 rfl ?_
      refine r_push (zW_mono _ _ _) lq_1250 ?_
      refine r_iadd (zW_mono _ _ _) lq_1251 ?_
      refine r_sld (zW_mono _ _ _) lq_1252 v2 ?_
      refine r_aloadS (zW_mono _ _ _) lq_1253 rfl ?_
      refine r_iload (zW_mono _ _ _) lq_1254 rfl ?_
      refine r_push (zW_mono _ _ _) lq_1255 ?_
      refine r_iadd (zW_mono _ _ _) lq_1256 ?_
      refine r_sld (zW_mono _ _ _) lq_1257 v3 ?_
      refine r_aloadS (zW_mono _ _ _) lq_1258 rfl ?_
      refine r_iload (zW_mono _ _ _) lq_1259 rfl ?_
      refine r_push (zW_mono _ _ _) lq_1260 ?_
      refine r_iadd (zW_mono _ _ _) lq_1261 ?_
      refine r_sld (zW_mono _ _ _) lq_1262 v4 ?_
      refine r_aloadS (zW_mono _ _ _) lq_1263 rfl ?_
      refine r_iload (zW_mono _ _ _) lq_1264 rfl ?_
      refine r_push (zW_mono _ _ _) lq_1265 ?_
      refine r_iadd (zW_mono _ _ _) lq_1266 ?_
      refine r_sld (zW_mono _ _ _) lq_1267 v5 ?_
      refine r_aloadS (zW_mono _ _ _) lq_1268 rfl ?_
      refine r_iload (zW_mono _ _ _) lq_1269 rfl ?_
      refine r_push (zW_mono _ _ _) lq_1270 ?_
      refine r_iadd (zW_mono _ _ _) lq_1272 ?_
      refine r_sld (zW_mono _ _ _) lq_1273 v6 ?_
      refine r_if_eq (zW_mono _ _ _) lq_1274 (fun q => absurd q q6) (fun _ => ?_)
      refine r_push (zW_mono _ _ _) lq_1277 ?_
      refine r_goto (zW_mono _ _ _) lq_1278 ?_
      refine r_aloadS (zW_mono _ _ _) lq_1282 rfl ?_
      refine r_iload (zW_mono _ _ _) lq_1283 rfl ?_
      refine r_push (zW_mono _ _ _) lq_1284 ?_
      refine r_iadd (zW_mono _ _ _) lq_1286 ?_
      refine r_sld (zW_mono _ _ _) lq_1287 v7 ?_
      refine r_if_eq (zW_mono _ _ _) lq_1288 (fun q => absurd q q7) (fun _ => ?_)
      refine r_push (zW_mono _ _ _) lq_1291 ?_
      refine r_goto (zW_mono _ _ _) lq_1292 ?_
      refine r_virt7 (m1 := 0) (m2 := 0) (zW_mono _ _ _) lq_1296 hr9 (Nat.le_of_ble_eq_true rfl) (by unfold zbud; rw [hB]; rfl) (by omega) (by omega) ?_
      refine zW_mono zTt G 12 _ _ _ _ _ ?_ k9
      rintro w h3 rfl
      refine r_icmp_eq (zW_mono _ _ _) lq_1299 (fun _ => ?_) (fun q => absurd rfl q)
      exact law_end hN
set_option maxHeartbeats 1000000 in
theorem lawop_odd {G : zG} (hG : G.1 = zProg) (hT : G.2.1 = ztx) (hN : G.2.2.1 = 8) {c n : Nat} (hc : c ≤ 1000) (hn : n ≤ 100000) : zR zTt G cd_L 600000 7302250 (some .boolean) (zW zTt G 12) (fun w _ => w = some (.int 1)) 1304 [some (.retAddr 0), some (.ref 0), some (.ref 111), some (.int 0)] [] (dzH dH0) c n := by
  have v1 : vp_in ((0 : Int32) + 1) G.2.2.1 := by rw [hN]; exact vp_in_iff.mpr ⟨by decide +kernel, by decide +kernel⟩
  have hB := hG
  refine r_aload (zW_mono _ _ _) lq_1304 rfl ?_
  refine r_aloadS (zW_mono _ _ _) lq_1305 rfl ?_
  refine r_iload (zW_mono _ _ _) lq_1306 rfl ?_
  refine r_push (zW_mono _ _ _) lq_1307 ?_
  refine r_iadd (zW_mono _ _ _) lq_1308 ?_
  refine r_sld (zW_mono _ _ _) lq_1309 v1 ?_
  refine r_virt1 (m1 := 0) (m2 := 0) (zW_mono _ _ _) lq_1310 hx_0 (Nat.le_of_ble_eq_true rfl) (by unfold zbud; rw [hB]; rfl) (by omega) (by omega) ?_
  refine zW_mono zTt G 12 _ _ _ _ _ ?_ (op_odd hG _)
  rintro w h2 ⟨x9, rfl, ⟨fs9, hr9⟩, k9⟩
  refine r_aload (zW_mono _ _ _) lq_1313 rfl ?_
  refine r_aloadS (zW_mono _ _ _) lq_1314 rfl ?_
  refine r_iload (zW_mono _ _ _) lq_1315 rfl ?_
  refine r_push (zW_mono _ _ _) lq_1316 ?_
  refine r_iadd (zW_mono _ _ _) lq_1317 ?_
  refine r_sld (zW_mono _ _ _) lq_1318 v1 ?_
  refine r_virt1 (m1 := 0) (m2 := 0) (zW_mono _ _ _) lq_1319 hr9 (Nat.le_of_ble_eq_true rfl) (by unfold zbud; rw [hB]; rfl) (by omega) (by omega) ?_
  refine zW_mono zTt G 12 _ _ _ _ _ ?_ k9
  rintro w h3 rfl
  refine r_icmp_eq (zW_mono _ _ _) lq_1322 (fun _ => ?_) (fun q => absurd rfl q)
  exact law_end hN
set_option maxHeartbeats 1000000 in
theorem lawop_expected {G : zG} (hG : G.1 = zProg) (hT : G.2.1 = ztx) (hN : G.2.2.1 = 8) {c n : Nat} (hc : c ≤ 1000) (hn : n ≤ 100000) : zR zTt G cd_L 600000 7302250 (some .boolean) (zW zTt G 12) (fun w _ => w = some (.int 1)) 1327 [some (.retAddr 0), some (.ref 0), some (.ref 111), some (.int 0)] [] (dzH dH0) c n := by
  have v1 : vp_in ((0 : Int32) + 1) G.2.2.1 := by rw [hN]; exact vp_in_iff.mpr ⟨by decide +kernel, by decide +kernel⟩
  have v2 : vp_in ((0 : Int32) + 2) G.2.2.1 := by rw [hN]; exact vp_in_iff.mpr ⟨by decide +kernel, by decide +kernel⟩
  have v3 : vp_in ((0 : Int32) + 3) G.2.2.1 := by rw [hN]; exact vp_in_iff.mpr ⟨by decide +kernel, by decide +kernel⟩
  have hB := hG
  refine r_aload (zW_mono _ _ _) lq_1327 rfl ?_
  refine r_aloadS (zW_mono _ _ _) lq_1328 rfl ?_
  refine r_iload (zW_mono _ _ _) lq_1329 rfl ?_
  refine r_push (zW_mono _ _ _) lq_1330 ?_
  refine r_iadd (zW_mono _ _ _) lq_1331 ?_
  refine r_sld (zW_mono _ _ _) lq_1332 v1 ?_
  refine r_aloadS (zW_mono _ _ _) lq_1333 rfl ?_
  refine r_iload (zW_mono _ _ _) lq_1334 rfl ?_
  refine r_push (zW_mono _ _ _) lq_1335 ?_
  refine r_iadd (zW_mono _ _ _) lq_1336 ?_
  refine r_sld (zW_mono _ _ _) lq_1337 v2 ?_
  refine r_aloadS (zW_mono _ _ _) lq_1338 rfl ?_
  refine r_iload (zW_mono _ _ _) lq_1339 rfl ?_
  refine r_push (zW_mono _ _ _) lq_1340 ?_
  refine r_iadd (zW_mono _ _ _) lq_1341 ?_
  refine r_sld (zW_mono _ _ _) lq_1342 v3 ?_
  refine r_virt3 (m1 := 0) (m2 := 0) (zW_mono _ _ _) lq_1343 hx_0 (Nat.le_of_ble_eq_true rfl) (by unfold zbud; rw [hB]; rfl) (by omega) (by omega) ?_
  refine zW_mono zTt G 12 _ _ _ _ _ ?_ (op_expected hG _ _ _)
  rintro w h2 ⟨x9, rfl, ⟨fs9, hr9⟩, k9⟩
  refine r_aload (zW_mono _ _ _) lq_1346 rfl ?_
  refine r_aloadS (zW_mono _ _ _) lq_1347 rfl ?_
  refine r_iload (zW_mono _ _ _) lq_1348 rfl ?_
  refine r_push (zW_mono _ _ _) lq_1349 ?_
  refine r_iadd (zW_mono _ _ _) lq_1350 ?_
  refine r_sld (zW_mono _ _ _) lq_1351 v1 ?_
  refine r_aloadS (zW_mono _ _ _) lq_1352 rfl ?_
  refine r_iload (zW_mono _ _ _) lq_1353 rfl ?_
  refine r_push (zW_mono _ _ _) lq_1354 ?_
  refine r_iadd (zW_mono _ _ _) lq_1355 ?_
  refine r_sld (zW_mono _ _ _) lq_1356 v2 ?_
  refine r_aloadS (zW_mono _ _ _) lq_1357 rfl ?_
  refine r_iload (zW_mono _ _ _) lq_1358 rfl ?_
  refine r_push (zW_mono _ _ _) lq_1359 ?_
  refine r_iadd (zW_mono _ _ _) lq_1360 ?_
  refine r_sld (zW_mono _ _ _) lq_1361 v3 ?_
  refine r_virt3 (m1 := 0) (m2 := 0) (zW_mono _ _ _) lq_1362 hr9 (Nat.le_of_ble_eq_true rfl) (by unfold zbud; rw [hB]; rfl) (by omega) (by omega) ?_
  refine zW_mono zTt G 12 _ _ _ _ _ ?_ k9
  rintro w h3 rfl
  refine r_lc_eq (X := x9.toInt) (Y := x9.toInt) (zW_mono _ _ _) lq_1365 lq_1366 rfl rfl (fun _ => ?_) (fun q => absurd rfl q)
  exact law_end hN
set_option maxHeartbeats 1000000 in
theorem lawop_memo {G : zG} (hG : G.1 = zProg) (hT : G.2.1 = ztx) (hN : G.2.2.1 = 8) {c n : Nat} (hc : c ≤ 1000) (hn : n ≤ 100000) : zR zTt G cd_L 600000 7302250 (some .boolean) (zW zTt G 12) (fun w _ => w = some (.int 1)) 1371 [some (.retAddr 0), some (.ref 0), some (.ref 111), some (.int 0)] [] (dzH dH0) c n := by
  have v1 : vp_in ((0 : Int32) + 1) G.2.2.1 := by rw [hN]; exact vp_in_iff.mpr ⟨by decide +kernel, by decide +kernel⟩
  have hB := hG
  refine r_aload (zW_mono _ _ _) lq_1371 rfl ?_
  refine r_aloadS (zW_mono _ _ _) lq_1372 rfl ?_
  refine r_iload (zW_mono _ _ _) lq_1373 rfl ?_
  refine r_push (zW_mono _ _ _) lq_1374 ?_
  refine r_iadd (zW_mono _ _ _) lq_1375 ?_
  refine r_sld (zW_mono _ _ _) lq_1376 v1 ?_
  refine r_virt1 (m1 := 0) (m2 := 0) (zW_mono _ _ _) lq_1377 hx_0 (Nat.le_of_ble_eq_true rfl) (by unfold zbud; rw [hB]; rfl) (by omega) (by omega) ?_
  refine zW_mono zTt G 12 _ _ _ _ _ ?_ (op_memo hG _)
  rintro w h2 ⟨x9, rfl, ⟨fs9, hr9⟩, k9⟩
  refine r_aload (zW_mono _ _ _) lq_1380 rfl ?_
  refine r_aloadS (zW_mono _ _ _) lq_1381 rfl ?_
  refine r_iload (zW_mono _ _ _) lq_1382 rfl ?_
  refine r_push (zW_mono _ _ _) lq_1383 ?_
  refine r_iadd (zW_mono _ _ _) lq_1384 ?_
  refine r_sld (zW_mono _ _ _) lq_1385 v1 ?_
  refine r_virt1 (m1 := 0) (m2 := 0) (zW_mono _ _ _) lq_1386 hr9 (Nat.le_of_ble_eq_true rfl) (by unfold zbud; rw [hB]; rfl) (by omega) (by omega) ?_
  refine zW_mono zTt G 12 _ _ _ _ _ ?_ k9
  rintro w h3 rfl
  refine r_icmp_eq (zW_mono _ _ _) lq_1389 (fun _ => ?_) (fun q => absurd rfl q)
  exact law_end hN
set_option maxHeartbeats 1000000 in
theorem lawop_row {G : zG} (hG : G.1 = zProg) (hT : G.2.1 = ztx) (hN : G.2.2.1 = 8) {c n : Nat} (hc : c ≤ 1000) (hn : n ≤ 100000) : zR zTt G cd_L 600000 7302250 (some .boolean) (zW zTt G 12) (fun w _ => w = some (.int 1)) 1394 [some (.retAddr 0), some (.ref 0), some (.ref 111), some (.int 0)] [] (dzH dH0) c n := by
  have v1 : vp_in ((0 : Int32) + 1) G.2.2.1 := by rw [hN]; exact vp_in_iff.mpr ⟨by decide +kernel, by decide +kernel⟩
  have v2 : vp_in ((0 : Int32) + 2) G.2.2.1 := by rw [hN]; exact vp_in_iff.mpr ⟨by decide +kernel, by decide +kernel⟩
  have v3 : vp_in ((0 : Int32) + 3) G.2.2.1 := by rw [hN]; exact vp_in_iff.mpr ⟨by decide +kernel, by decide +kernel⟩
  have v4 : vp_in ((0 : Int32) + 4) G.2.2.1 := by rw [hN]; exact vp_in_iff.mpr ⟨by decide +kernel, by decide +kernel⟩
  have hB := hG
  refine r_aload (zW_mono _ _ _) lq_1394 rfl ?_
  refine r_aloadS (zW_mono _ _ _) lq_1395 rfl ?_
  refine r_iload (zW_mono _ _ _) lq_1396 rfl ?_
  refine r_push (zW_mono _ _ _) lq_1397 ?_
  refine r_iadd (zW_mono _ _ _) lq_1398 ?_
  refine r_sld (zW_mono _ _ _) lq_1399 v1 ?_
  refine r_aloadS (zW_mono _ _ _) lq_1400 rfl ?_
  refine r_iload (zW_mono _ _ _) lq_1401 rfl ?_
  refine r_push (zW_mono _ _ _) lq_1402 ?_
  refine r_iadd (zW_mono _ _ _) lq_1403 ?_
  refine r_sld (zW_mono _ _ _) lq_1404 v2 ?_
  refine r_if_eq (zW_mono _ _ _) lq_1405 (fun q2 => ?_) (fun q2 => ?_)
  · refine r_push (zW_mono _ _ _) lq_1412 ?_
    refine r_aloadS (zW_mono _ _ _) lq_1413 rfl ?_
    refine r_iload (zW_mono _ _ _) lq_1414 rfl ?_
    refine r_push (zW_mono _ _ _) lq_1415 ?_
    refine r_iadd (zW_mono _ _ _) lq_1416 ?_
    refine r_sld (zW_mono _ _ _) lq_1417 v3 ?_
    refine r_aloadS (zW_mono _ _ _) lq_1418 rfl ?_
    refine r_iload (zW_mono _ _ _) lq_1419 rfl ?_
    refine r_push (zW_mono _ _ _) lq_1420 ?_
    refine r_iadd (zW_mono _ _ _) lq_1421 ?_
    refine r_sld (zW_mono _ _ _) lq_1422 v4 ?_
    refine r_virt4 (m1 := 0) (m2 := 0) (zW_mono _ _ _) lq_1423 hx_0 (Nat.le_of_ble_eq_true rfl) (by unfold zbud; rw [hB]; rfl) (by omega) (by omega) ?_
    refine zW_mono zTt G 12 _ _ _ _ _ ?_ (op_row hG _ _ _ _)
    rintro w h2 ⟨x9, rfl, ⟨fs9, hr9⟩, k9⟩
    refine r_aload (zW_mono _ _ _) lq_1426 rfl ?_
    refine r_aloadS (zW_mono _ _ _) lq_1427 rfl ?_
    refine r_iload (zW_mono _ _ _) lq_1428 rfl ?_
    refine r_push (zW_mono _ _ _) lq_1429 ?_
    refine r_iadd (zW_mono _ _ _) lq_1430 ?_
    refine r_sld (zW_mono _ _ _) lq_1431 v1 ?_
    refine r_aloadS (zW_mono _ _ _) lq_1432 rfl ?_
    refine r_iload (zW_mono _ _ _) lq_1433 rfl ?_
    refine r_push (zW_mono _ _ _) lq_1434 ?_
    refine r_iadd (zW_mono _ _ _) lq_1435 ?_
    refine r_sld (zW_mono _ _ _) lq_1436 v2 ?_
    refine r_if_eq (zW_mono _ _ _) lq_1437 (fun _ => ?_) (fun q => absurd q2 q)
    refine r_push (zW_mono _ _ _) lq_1444 ?_
    refine r_aloadS (zW_mono _ _ _) lq_1445 rfl ?_
    refine r_iload (zW_mono _ _ _) lq_1446 rfl ?_
    refine r_push (zW_mono _ _ _) lq_1447 ?_
    refine r_iadd (zW_mono _ _ _) lq_1448 ?_
    refine r_sld (zW_mono _ _ _) lq_1449 v3 ?_
    refine r_aloadS (zW_mono _ _ _) lq_1450 rfl ?_
    refine r_iload (zW_mono _ _ _) lq_1451 rfl ?_
    refine r_push (zW_mono _ _ _) lq_1452 ?_
    refine r_iadd (zW_mono _ _ _) lq_1453 ?_
    refine r_sld (zW_mono _ _ _) lq_1454 v4 ?_
    refine r_virt4 (m1 := 0) (m2 := 0) (zW_mono _ _ _) lq_1455 hr9 (Nat.le_of_ble_eq_true rfl) (by unfold zbud; rw [hB]; rfl) (by omega) (by omega) ?_
    refine zW_mono zTt G 12 _ _ _ _ _ ?_ k9
    rintro w h3 rfl
    refine r_icmp_eq (zW_mono _ _ _) lq_1458 (fun _ => ?_) (fun q => absurd rfl q)
    exact law_end hN
  · refine r_push (zW_mono _ _ _) lq_1408 ?_
    refine r_goto (zW_mono _ _ _) lq_1409 ?_
    refine r_aloadS (zW_mono _ _ _) lq_1413 rfl ?_
    refine r_iload (zW_mono _ _ _) lq_1414 rfl ?_
    refine r_push (zW_mono _ _ _) lq_1415 ?_
    refine r_iadd (zW_mono _ _ _) lq_1416 ?_
    refine r_sld (zW_mono _ _ _) lq_1417 v3 ?_
    refine r_aloadS (zW_mono _ _ _) lq_1418 rfl ?_
    refine r_iload (zW_mono _ _ _) lq_1419 rfl ?_
    refine r_push (zW_mono _ _ _) lq_1420 ?_
    refine r_iadd (zW_mono _ _ _) lq_1421 ?_
    refine r_sld (zW_mono _ _ _) lq_1422 v4 ?_
    refine r_virt4 (m1 := 0) (m2 := 0) (zW_mono _ _ _) lq_1423 hx_0 (Nat.le_of_ble_eq_true rfl) (by unfold zbud; rw [hB]; rfl) (by omega) (by omega) ?_
    refine zW_mono zTt G 12 _ _ _ _ _ ?_ (op_row hG _ _ _ _)
    rintro w h2 ⟨x9, rfl, ⟨fs9, hr9⟩, k9⟩
    refine r_aload (zW_mono _ _ _) lq_1426 rfl ?_
    refine r_aloadS (zW_mono _ _ _) lq_1427 rfl ?_
    refine r_iload (zW_mono _ _ _) lq_1428 rfl ?_
    refine r_push (zW_mono _ _ _) lq_1429 ?_
    refine r_iadd (zW_mono _ _ _) lq_1430 ?_
    refine r_sld (zW_mono _ _ _) lq_1431 v1 ?_
    refine r_aloadS (zW_mono _ _ _) lq_1432 rfl ?_
    refine r_iload (zW_mono _ _ _) lq_1433 rfl ?_
    refine r_push (zW_mono _ _ _) lq_1434 ?_
    refine r_iadd (zW_mono _ _ _) lq_1435 ?_
    refine r_sld (zW_mono _ _ _) lq_1436 v2 ?_
    refine r_if_eq (zW_mono _ _ _) lq_1437 (fun q => absurd q q2) (fun _ => ?_)
    refine r_push (zW_mono _ _ _) lq_1440 ?_
    refine r_goto (zW_mono _ _ _) lq_1441 ?_
    refine r_aloadS (zW_mono _ _ _) lq_1445 rfl ?_
    refine r_iload (zW_mono _ _ _) lq_1446 rfl ?_
    refine r_push (zW_mono _ _ _) lq_1447 ?_
    refine r_iadd (zW_mono _ _ _) lq_1448 ?_
    refine r_sld (zW_mono _ _ _) lq_1449 v3 ?_
    refine r_aloadS (zW_mono _ _ _) lq_1450 rfl ?_
    refine r_iload (zW_mono _ _ _) lq_1451 rfl ?_
    refine r_push (zW_mono _ _ _) lq_1452 ?_
    refine r_iadd (zW_mono _ _ _) lq_1453 ?_
    refine r_sld (zW_mono _ _ _) lq_1454 v4 ?_
    refine r_virt4 (m1 := 0) (m2 := 0) (zW_mono _ _ _) lq_1455 hr9 (Nat.le_of_ble_eq_true rfl) (by unfold zbud; rw [hB]; rfl) (by omega) (by omega) ?_
    refine zW_mono zTt G 12 _ _ _ _ _ ?_ k9
    rintro w h3 rfl
    refine r_icmp_eq (zW_mono _ _ _) lq_1458 (fun _ => ?_) (fun q => absurd rfl q)
    exact law_end hN
set_option maxHeartbeats 1000000 in
theorem lawop_memoSum {G : zG} (hG : G.1 = zProg) (hT : G.2.1 = ztx) (hN : G.2.2.1 = 8) {c n : Nat} (hc : c ≤ 1000) (hn : n ≤ 100000) : zR zTt G cd_L 600000 7302250 (some .boolean) (zW zTt G 12) (fun w _ => w = some (.int 1)) 1463 [some (.retAddr 0), some (.ref 0), some (.ref 111), some (.int 0)] [] (dzH dH0) c n := by
  have v1 : vp_in ((0 : Int32) + 1) G.2.2.1 := by rw [hN]; exact vp_in_iff.mpr ⟨by decide +kernel, by decide +kernel⟩
  have hB := hG
  refine r_aload (zW_mono _ _ _) lq_1463 rfl ?_
  refine r_aloadS (zW_mono _ _ _) lq_1464 rfl ?_
  refine r_iload (zW_mono _ _ _) lq_1465 rfl ?_
  refine r_push (zW_mono _ _ _) lq_1466 ?_
  refine r_iadd (zW_mono _ _ _) lq_1467 ?_
  refine r_sld (zW_mono _ _ _) lq_1468 v1 ?_
  refine r_virt1 (m1 := 0) (m2 := 0) (zW_mono _ _ _) lq_1469 hx_0 (Nat.le_of_ble_eq_true rfl) (by unfold zbud; rw [hB]; rfl) (by omega) (by omega) ?_
  refine zW_mono zTt G 12 _ _ _ _ _ ?_ (op_memoSum hG _)
  rintro w h2 ⟨x9, rfl, ⟨fs9, hr9⟩, k9⟩
  refine r_aload (zW_mono _ _ _) lq_1472 rfl ?_
  refine r_aloadS (zW_mono _ _ _) lq_1473 rfl ?_
  refine r_iload (zW_mono _ _ _) lq_1474 rfl ?_
  refine r_push (zW_mono _ _ _) lq_1475 ?_
  refine r_iadd (zW_mono _ _ _) lq_1476 ?_
  refine r_sld (zW_mono _ _ _) lq_1477 v1 ?_
  refine r_virt1 (m1 := 0) (m2 := 0) (zW_mono _ _ _) lq_1478 hr9 (Nat.le_of_ble_eq_true rfl) (by unfold zbud; rw [hB]; rfl) (by omega) (by omega) ?_
  refine zW_mono zTt G 12 _ _ _ _ _ ?_ k9
  rintro w h3 rfl
  refine r_lc_eq (X := x9.toInt) (Y := x9.toInt) (zW_mono _ _ _) lq_1481 lq_1482 rfl rfl (fun _ => ?_) (fun q => absurd rfl q)
  exact law_end hN
set_option maxHeartbeats 1000000 in
theorem lawop_turnsAt {G : zG} (hG : G.1 = zProg) (hT : G.2.1 = ztx) (hN : G.2.2.1 = 8) {c n : Nat} (hc : c ≤ 1000) (hn : n ≤ 100000) : zR zTt G cd_L 600000 7302250 (some .boolean) (zW zTt G 12) (fun w _ => w = some (.int 1)) 1487 [some (.retAddr 0), some (.ref 0), some (.ref 111), some (.int 0)] [] (dzH dH0) c n := by
  have v1 : vp_in ((0 : Int32) + 1) G.2.2.1 := by rw [hN]; exact vp_in_iff.mpr ⟨by decide +kernel, by decide +kernel⟩
  have v2 : vp_in ((0 : Int32) + 2) G.2.2.1 := by rw [hN]; exact vp_in_iff.mpr ⟨by decide +kernel, by decide +kernel⟩
  have v3 : vp_in ((0 : Int32) + 3) G.2.2.1 := by rw [hN]; exact vp_in_iff.mpr ⟨by decide +kernel, by decide +kernel⟩
  have hB := hG
  refine r_aload (zW_mono _ _ _) lq_1487 rfl ?_
  refine r_aloadS (zW_mono _ _ _) lq_1488 rfl ?_
  refine r_iload (zW_mono _ _ _) lq_1489 rfl ?_
  refine r_push (zW_mono _ _ _) lq_1490 ?_
  refine r_iadd (zW_mono _ _ _) lq_1491 ?_
  refine r_sld (zW_mono _ _ _) lq_1492 v1 ?_
  refine r_aloadS (zW_mono _ _ _) lq_1493 rfl ?_
  refine r_iload (zW_mono _ _ _) lq_1494 rfl ?_
  refine r_push (zW_mono _ _ _) lq_1495 ?_
  refine r_iadd (zW_mono _ _ _) lq_1496 ?_
  refine r_sld (zW_mono _ _ _) lq_1497 v2 ?_
  refine r_aloadS (zW_mono _ _ _) lq_1498 rfl ?_
  refine r_iload (zW_mono _ _ _) lq_1499 rfl ?_
  refine r_push (zW_mono _ _ _) lq_1500 ?_
  refine r_iadd (zW_mono _ _ _) lq_1501 ?_
  refine r_sld (zW_mono _ _ _) lq_1502 v3 ?_
  refine r_virt3 (m1 := 0) (m2 := 0) (zW_mono _ _ _) lq_1503 hx_0 (Nat.le_of_ble_eq_true rfl) (by unfold zbud; rw [hB]; rfl) (by omega) (by omega) ?_
  refine zW_mono zTt G 12 _ _ _ _ _ ?_ (op_turnsAt hG _ _ _)
  rintro w h2 ⟨x9, rfl, ⟨fs9, hr9⟩, k9⟩
  refine r_aload (zW_mono _ _ _) lq_1506 rfl ?_
  refine r_aloadS (zW_mono _ _ _) lq_1507 rfl ?_
  refine r_iload (zW_mono _ _ _) lq_1508 rfl ?_
  refine r_push (zW_mono _ _ _) lq_1509 ?_
  refine r_iadd (zW_mono _ _ _) lq_1510 ?_
  refine r_sld (zW_mono _ _ _) lq_1511 v1 ?_
  refine r_aloadS (zW_mono _ _ _) lq_1512 rfl ?_
  refine r_iload (zW_mono _ _ _) lq_1513 rfl ?_
  refine r_push (zW_mono _ _ _) lq_1514 ?_
  refine r_iadd (zW_mono _ _ _) lq_1515 ?_
  refine r_sld (zW_mono _ _ _) lq_1516 v2 ?_
  refine r_aloadS (zW_mono _ _ _) lq_1517 rfl ?_
  refine r_iload (zW_mono _ _ _) lq_1518 rfl ?_
  refine r_push (zW_mono _ _ _) lq_1519 ?_
  refine r_iadd (zW_mono _ _ _) lq_1520 ?_
  refine r_sld (zW_mono _ _ _) lq_1521 v3 ?_
  refine r_virt3 (m1 := 0) (m2 := 0) (zW_mono _ _ _) lq_1522 hr9 (Nat.le_of_ble_eq_true rfl) (by unfold zbud; rw [hB]; rfl) (by omega) (by omega) ?_
  refine zW_mono zTt G 12 _ _ _ _ _ ?_ k9
  rintro w h3 rfl
  refine r_lc_eq (X := x9.toInt) (Y := x9.toInt) (zW_mono _ _ _) lq_1525 lq_1526 rfl rfl (fun _ => ?_) (fun q => absurd rfl q)
  exact law_end hN
set_option maxHeartbeats 1000000 in
theorem lawop_beside {G : zG} (hG : G.1 = zProg) (hT : G.2.1 = ztx) (hN : G.2.2.1 = 8) {c n : Nat} (hc : c ≤ 1000) (hn : n ≤ 100000) : zR zTt G cd_L 600000 7302250 (some .boolean) (zW zTt G 12) (fun w _ => w = some (.int 1)) 1531 [some (.retAddr 0), some (.ref 0), some (.ref 111), some (.int 0)] [] (dzH dH0) c n := by
  have v1 : vp_in ((0 : Int32) + 1) G.2.2.1 := by rw [hN]; exact vp_in_iff.mpr ⟨by decide +kernel, by decide +kernel⟩
  have v2 : vp_in ((0 : Int32) + 2) G.2.2.1 := by rw [hN]; exact vp_in_iff.mpr ⟨by decide +kernel, by decide +kernel⟩
  have v3 : vp_in ((0 : Int32) + 3) G.2.2.1 := by rw [hN]; exact vp_in_iff.mpr ⟨by decide +kernel, by decide +kernel⟩
  have hB := hG
  refine r_aload (zW_mono _ _ _) lq_1531 rfl ?_
  refine r_aloadS (zW_mono _ _ _) lq_1532 rfl ?_
  refine r_iload (zW_mono _ _ _) lq_1533 rfl ?_
  refine r_push (zW_mono _ _ _) lq_1534 ?_
  refine r_iadd (zW_mono _ _ _) lq_1535 ?_
  refine r_sld (zW_mono _ _ _) lq_1536 v1 ?_
  refine r_aloadS (zW_mono _ _ _) lq_1537 rfl ?_
  refine r_iload (zW_mono _ _ _) lq_1538 rfl ?_
  refine r_push (zW_mono _ _ _) lq_1539 ?_
  refine r_iadd (zW_mono _ _ _) lq_1540 ?_
  refine r_sld (zW_mono _ _ _) lq_1541 v2 ?_
  refine r_aloadS (zW_mono _ _ _) lq_1542 rfl ?_
  refine r_iload (zW_mono _ _ _) lq_1543 rfl ?_
  refine r_push (zW_mono _ _ _) lq_1544 ?_
  refine r_iadd (zW_mono _ _ _) lq_1545 ?_
  refine r_sld (zW_mono _ _ _) lq_1546 v3 ?_
  refine r_virt3 (m1 := 0) (m2 := 0) (zW_mono _ _ _) lq_1547 hx_0 (Nat.le_of_ble_eq_true rfl) (by unfold zbud; rw [hB]; rfl) (by omega) (by omega) ?_
  refine zW_mono zTt G 12 _ _ _ _ _ ?_ (op_beside hG _ _ _)
  rintro w h2 ⟨x9, rfl, ⟨fs9, hr9⟩, k9⟩
  refine r_aload (zW_mono _ _ _) lq_1550 rfl ?_
  refine r_aloadS (zW_mono _ _ _) lq_1551 rfl ?_
  refine r_iload (zW_mono _ _ _) lq_1552 rfl ?_
  refine r_push (zW_mono _ _ _) lq_1553 ?_
  refine r_iadd (zW_mono _ _ _) lq_1554 ?_
  refine r_sld (zW_mono _ _ _) lq_1555 v1 ?_
  refine r_aloadS (zW_mono _ _ _) lq_1556 rfl ?_
  refine r_iload (zW_mono _ _ _) lq_1557 rfl ?_
  refine r_push (zW_mono _ _ _) lq_1558 ?_
  refine r_iadd (zW_mono _ _ _) lq_1559 ?_
  refine r_sld (zW_mono _ _ _) lq_1560 v2 ?_
  refine r_aloadS (zW_mono _ _ _) lq_1561 rfl ?_
  refine r_iload (zW_mono _ _ _) lq_1562 rfl ?_
  refine r_push (zW_mono _ _ _) lq_1563 ?_
  refine r_iadd (zW_mono _ _ _) lq_1564 ?_
  refine r_sld (zW_mono _ _ _) lq_1565 v3 ?_
  refine r_virt3 (m1 := 0) (m2 := 0) (zW_mono _ _ _) lq_1566 hr9 (Nat.le_of_ble_eq_true rfl) (by unfold zbud; rw [hB]; rfl) (by omega) (by omega) ?_
  refine zW_mono zTt G 12 _ _ _ _ _ ?_ k9
  rintro w h3 rfl
  refine r_lc_eq (X := x9.toInt) (Y := x9.toInt) (zW_mono _ _ _) lq_1569 lq_1570 rfl rfl (fun _ => ?_) (fun q => absurd rfl q)
  exact law_end hN
set_option maxHeartbeats 1000000 in
theorem lawop_step {G : zG} (hG : G.1 = zProg) (hT : G.2.1 = ztx) (hN : G.2.2.1 = 8) {c n : Nat} (hc : c ≤ 1000) (hn : n ≤ 100000) : zR zTt G cd_L 600000 7302250 (some .boolean) (zW zTt G 12) (fun w _ => w = some (.int 1)) 1575 [some (.retAddr 0), some (.ref 0), some (.ref 111), some (.int 0)] [] (dzH dH0) c n := by
  have v1 : vp_in ((0 : Int32) + 1) G.2.2.1 := by rw [hN]; exact vp_in_iff.mpr ⟨by decide +kernel, by decide +kernel⟩
  have v2 : vp_in ((0 : Int32) + 2) G.2.2.1 := by rw [hN]; exact vp_in_iff.mpr ⟨by decide +kernel, by decide +kernel⟩
  have v3 : vp_in ((0 : Int32) + 3) G.2.2.1 := by rw [hN]; exact vp_in_iff.mpr ⟨by decide +kernel, by decide +kernel⟩
  have v4 : vp_in ((0 : Int32) + 4) G.2.2.1 := by rw [hN]; exact vp_in_iff.mpr ⟨by decide +kernel, by decide +kernel⟩
  have hB := hG
  refine r_aload (zW_mono _ _ _) lq_1575 rfl ?_
  refine r_aloadS (zW_mono _ _ _) lq_1576 rfl ?_
  refine r_iload (zW_mono _ _ _) lq_1577 rfl ?_
  refine r_push (zW_mono _ _ _) lq_1578 ?_
  refine r_iadd (zW_mono _ _ _) lq_1579 ?_
  refine r_sld (zW_mono _ _ _) lq_1580 v1 ?_
  refine r_aloadS (zW_mono _ _ _) lq_1581 rfl ?_
  refine r_iload (zW_mono _ _ _) lq_1582 rfl ?_
  refine r_push (zW_mono _ _ _) lq_1583 ?_
  refine r_iadd (zW_mono _ _ _) lq_1584 ?_
  refine r_sld (zW_mono _ _ _) lq_1585 v2 ?_
  refine r_aloadS (zW_mono _ _ _) lq_1586 rfl ?_
  refine r_iload (zW_mono _ _ _) lq_1587 rfl ?_
  refine r_push (zW_mono _ _ _) lq_1588 ?_
  refine r_iadd (zW_mono _ _ _) lq_1589 ?_
  refine r_sld (zW_mono _ _ _) lq_1590 v3 ?_
  refine r_aloadS (zW_mono _ _ _) lq_1591 rfl ?_
  refine r_iload (zW_mono _ _ _) lq_1592 rfl ?_
  refine r_push (zW_mono _ _ _) lq_1593 ?_
  refine r_iadd (zW_mono _ _ _) lq_1594 ?_
  refine r_sld (zW_mono _ _ _) lq_1595 v4 ?_
  refine r_virt4 (m1 := 0) (m2 := 0) (zW_mono _ _ _) lq_1596 hx_0 (Nat.le_of_ble_eq_true rfl) (by unfold zbud; rw [hB]; rfl) (by omega) (by omega) ?_
  refine zW_mono zTt G 12 _ _ _ _ _ ?_ (op_step hG _ _ _ _)
  rintro w h2 ⟨x9, rfl, ⟨fs9, hr9⟩, k9⟩
  refine r_aload (zW_mono _ _ _) lq_1599 rfl ?_
  refine r_aloadS (zW_mono _ _ _) lq_1600 rfl ?_
  refine r_iload (zW_mono _ _ _) lq_1601 rfl ?_
  refine r_push (zW_mono _ _ _) lq_1602 ?_
  refine r_iadd (zW_mono _ _ _) lq_1603 ?_
  refine r_sld (zW_mono _ _ _) lq_1604 v1 ?_
  refine r_aloadS (zW_mono _ _ _) lq_1605 rfl ?_
  refine r_iload (zW_mono _ _ _) lq_1606 rfl ?_
  refine r_push (zW_mono _ _ _) lq_1607 ?_
  refine r_iadd (zW_mono _ _ _) lq_1608 ?_
  refine r_sld (zW_mono _ _ _) lq_1609 v2 ?_
  refine r_aloadS (zW_mono _ _ _) lq_1610 rfl ?_
  refine r_iload (zW_mono _ _ _) lq_1611 rfl ?_
  refine r_push (zW_mono _ _ _) lq_1612 ?_
  refine r_iadd (zW_mono _ _ _) lq_1613 ?_
  refine r_sld (zW_mono _ _ _) lq_1614 v3 ?_
  refine r_aloadS (zW_mono _ _ _) lq_1615 rfl ?_
  refine r_iload (zW_mono _ _ _) lq_1616 rfl ?_
  refine r_push (zW_mono _ _ _) lq_1617 ?_
  refine r_iadd (zW_mono _ _ _) lq_1618 ?_
  refine r_sld (zW_mono _ _ _) lq_1619 v4 ?_
  refine r_virt4 (m1 := 0) (m2 := 0) (zW_mono _ _ _) lq_1620 hr9 (Nat.le_of_ble_eq_true rfl) (by unfold zbud; rw [hB]; rfl) (by omega) (by omega) ?_
  refine zW_mono zTt G 12 _ _ _ _ _ ?_ k9
  rintro w h3 rfl
  refine r_icmp_eq (zW_mono _ _ _) lq_1623 (fun _ => ?_) (fun q => absurd rfl q)
  exact law_end hN
set_option maxHeartbeats 1000000 in
theorem lawop_steps {G : zG} (hG : G.1 = zProg) (hT : G.2.1 = ztx) (hN : G.2.2.1 = 8) {c n : Nat} (hc : c ≤ 1000) (hn : n ≤ 100000) : zR zTt G cd_L 600000 7302250 (some .boolean) (zW zTt G 12) (fun w _ => w = some (.int 1)) 1628 [some (.retAddr 0), some (.ref 0), some (.ref 111), some (.int 0)] [] (dzH dH0) c n := by
  have v1 : vp_in ((0 : Int32) + 1) G.2.2.1 := by rw [hN]; exact vp_in_iff.mpr ⟨by decide +kernel, by decide +kernel⟩
  have v2 : vp_in ((0 : Int32) + 2) G.2.2.1 := by rw [hN]; exact vp_in_iff.mpr ⟨by decide +kernel, by decide +kernel⟩
  have hB := hG
  refine r_aload (zW_mono _ _ _) lq_1628 rfl ?_
  refine r_aloadS (zW_mono _ _ _) lq_1629 rfl ?_
  refine r_iload (zW_mono _ _ _) lq_1630 rfl ?_
  refine r_push (zW_mono _ _ _) lq_1631 ?_
  refine r_iadd (zW_mono _ _ _) lq_1632 ?_
  refine r_sld (zW_mono _ _ _) lq_1633 v1 ?_
  refine r_aloadS (zW_mono _ _ _) lq_1634 rfl ?_
  refine r_iload (zW_mono _ _ _) lq_1635 rfl ?_
  refine r_push (zW_mono _ _ _) lq_1636 ?_
  refine r_iadd (zW_mono _ _ _) lq_1637 ?_
  refine r_sld (zW_mono _ _ _) lq_1638 v2 ?_
  refine r_virt2 (m1 := 0) (m2 := 0) (zW_mono _ _ _) lq_1639 hx_0 (Nat.le_of_ble_eq_true rfl) (by unfold zbud; rw [hB]; rfl) (by omega) (by omega) ?_
  refine zW_mono zTt G 12 _ _ _ _ _ ?_ (op_steps hG _ _)
  rintro w h2 ⟨x9, rfl, ⟨fs9, hr9⟩, k9⟩
  refine r_aload (zW_mono _ _ _) lq_1642 rfl ?_
  refine r_aloadS (zW_mono _ _ _) lq_1643 rfl ?_
  refine r_iload (zW_mono _ _ _) lq_1644 rfl ?_
  refine r_push (zW_mono _ _ _) lq_1645 ?_
  refine r_iadd (zW_mono _ _ _) lq_1646 ?_
  refine r_sld (zW_mono _ _ _) lq_1647 v1 ?_
  refine r_aloadS (zW_mono _ _ _) lq_1648 rfl ?_
  refine r_iload (zW_mono _ _ _) lq_1649 rfl ?_
  refine r_push (zW_mono _ _ _) lq_1650 ?_
  refine r_iadd (zW_mono _ _ _) lq_1651 ?_
  refine r_sld (zW_mono _ _ _) lq_1652 v2 ?_
  refine r_virt2 (m1 := 0) (m2 := 0) (zW_mono _ _ _) lq_1653 hr9 (Nat.le_of_ble_eq_true rfl) (by unfold zbud; rw [hB]; rfl) (by omega) (by omega) ?_
  refine zW_mono zTt G 12 _ _ _ _ _ ?_ k9
  rintro w h3 rfl
  refine r_icmp_eq (zW_mono _ _ _) lq_1656 (fun _ => ?_) (fun q => absurd rfl q)
  exact law_end hN
set_option maxHeartbeats 1000000 in
theorem lawop_putOff {G : zG} (hG : G.1 = zProg) (hT : G.2.1 = ztx) (hN : G.2.2.1 = 8) {c n : Nat} (hc : c ≤ 1000) (hn : n ≤ 100000) : zR zTt G cd_L 600000 7302250 (some .boolean) (zW zTt G 12) (fun w _ => w = some (.int 1)) 1661 [some (.retAddr 0), some (.ref 0), some (.ref 111), some (.int 0)] [] (dzH dH0) c n := by
  have v1 : vp_in ((0 : Int32) + 1) G.2.2.1 := by rw [hN]; exact vp_in_iff.mpr ⟨by decide +kernel, by decide +kernel⟩
  have hB := hG
  refine r_aload (zW_mono _ _ _) lq_1661 rfl ?_
  refine r_aloadS (zW_mono _ _ _) lq_1662 rfl ?_
  refine r_iload (zW_mono _ _ _) lq_1663 rfl ?_
  refine r_push (zW_mono _ _ _) lq_1664 ?_
  refine r_iadd (zW_mono _ _ _) lq_1665 ?_
  refine r_sld (zW_mono _ _ _) lq_1666 v1 ?_
  refine r_virt1 (m1 := 0) (m2 := 0) (zW_mono _ _ _) lq_1667 hx_0 (Nat.le_of_ble_eq_true rfl) (by unfold zbud; rw [hB]; rfl) (by omega) (by omega) ?_
  refine zW_mono zTt G 12 _ _ _ _ _ ?_ (op_putOff hG _)
  rintro w h2 ⟨x9, rfl, ⟨fs9, hr9⟩, k9⟩
  refine r_aload (zW_mono _ _ _) lq_1670 rfl ?_
  refine r_aloadS (zW_mono _ _ _) lq_1671 rfl ?_
  refine r_iload (zW_mono _ _ _) lq_1672 rfl ?_
  refine r_push (zW_mono _ _ _) lq_1673 ?_
  refine r_iadd (zW_mono _ _ _) lq_1674 ?_
  refine r_sld (zW_mono _ _ _) lq_1675 v1 ?_
  refine r_virt1 (m1 := 0) (m2 := 0) (zW_mono _ _ _) lq_1676 hr9 (Nat.le_of_ble_eq_true rfl) (by unfold zbud; rw [hB]; rfl) (by omega) (by omega) ?_
  refine zW_mono zTt G 12 _ _ _ _ _ ?_ k9
  rintro w h3 rfl
  refine r_icmp_eq (zW_mono _ _ _) lq_1679 (fun _ => ?_) (fun q => absurd rfl q)
  exact law_end hN
set_option maxHeartbeats 1000000 in
theorem lawop_change {G : zG} (hG : G.1 = zProg) (hT : G.2.1 = ztx) (hN : G.2.2.1 = 8) {c n : Nat} (hc : c ≤ 1000) (hn : n ≤ 100000) : zR zTt G cd_L 600000 7302250 (some .boolean) (zW zTt G 12) (fun w _ => w = some (.int 1)) 1684 [some (.retAddr 0), some (.ref 0), some (.ref 111), some (.int 0)] [] (dzH dH0) c n := by
  have v1 : vp_in ((0 : Int32) + 1) G.2.2.1 := by rw [hN]; exact vp_in_iff.mpr ⟨by decide +kernel, by decide +kernel⟩
  have v2 : vp_in ((0 : Int32) + 2) G.2.2.1 := by rw [hN]; exact vp_in_iff.mpr ⟨by decide +kernel, by decide +kernel⟩
  have hB := hG
  refine r_aload (zW_mono _ _ _) lq_1684 rfl ?_
  refine r_aloadS (zW_mono _ _ _) lq_1685 rfl ?_
  refine r_iload (zW_mono _ _ _) lq_1686 rfl ?_
  refine r_push (zW_mono _ _ _) lq_1687 ?_
  refine r_iadd (zW_mono _ _ _) lq_1688 ?_
  refine r_sld (zW_mono _ _ _) lq_1689 v1 ?_
  refine r_aloadS (zW_mono _ _ _) lq_1690 rfl ?_
  refine r_iload (zW_mono _ _ _) lq_1691 rfl ?_
  refine r_push (zW_mono _ _ _) lq_1692 ?_
  refine r_iadd (zW_mono _ _ _) lq_1693 ?_
  refine r_sld (zW_mono _ _ _) lq_1694 v2 ?_
  refine r_virt2 (m1 := 0) (m2 := 0) (zW_mono _ _ _) lq_1695 hx_0 (Nat.le_of_ble_eq_true rfl) (by unfold zbud; rw [hB]; rfl) (by omega) (by omega) ?_
  refine zW_mono zTt G 12 _ _ _ _ _ ?_ (op_change hG _ _)
  rintro w h2 ⟨x9, rfl, ⟨fs9, hr9⟩, k9⟩
  refine r_aload (zW_mono _ _ _) lq_1698 rfl ?_
  refine r_aloadS (zW_mono _ _ _) lq_1699 rfl ?_
  refine r_iload (zW_mono _ _ _) lq_1700 rfl ?_
  refine r_push (zW_mono _ _ _) lq_1701 ?_
  refine r_iadd (zW_mono _ _ _) lq_1702 ?_
  refine r_sld (zW_mono _ _ _) lq_1703 v1 ?_
  refine r_aloadS (zW_mono _ _ _) lq_1704 rfl ?_
  refine r_iload (zW_mono _ _ _) lq_1705 rfl ?_
  refine r_push (zW_mono _ _ _) lq_1706 ?_
  refine r_iadd (zW_mono _ _ _) lq_1707 ?_
  refine r_sld (zW_mono _ _ _) lq_1708 v2 ?_
  refine r_virt2 (m1 := 0) (m2 := 0) (zW_mono _ _ _) lq_1709 hr9 (Nat.le_of_ble_eq_true rfl) (by unfold zbud; rw [hB]; rfl) (by omega) (by omega) ?_
  refine zW_mono zTt G 12 _ _ _ _ _ ?_ k9
  rintro w h3 rfl
  refine r_icmp_eq (zW_mono _ _ _) lq_1712 (fun _ => ?_) (fun q => absurd rfl q)
  exact law_end hN
set_option maxHeartbeats 1000000 in
theorem lawop_cheap {G : zG} (hG : G.1 = zProg) (hT : G.2.1 = ztx) (hN : G.2.2.1 = 8) {c n : Nat} (hc : c ≤ 1000) (hn : n ≤ 100000) : zR zTt G cd_L 600000 7302250 (some .boolean) (zW zTt G 12) (fun w _ => w = some (.int 1)) 1717 [some (.retAddr 0), some (.ref 0), some (.ref 111), some (.int 0)] [] (dzH dH0) c n := by
  have v1 : vp_in ((0 : Int32) + 1) G.2.2.1 := by rw [hN]; exact vp_in_iff.mpr ⟨by decide +kernel, by decide +kernel⟩
  have v2 : vp_in ((0 : Int32) + 2) G.2.2.1 := by rw [hN]; exact vp_in_iff.mpr ⟨by decide +kernel, by decide +kernel⟩
  have hB := hG
  refine r_aload (zW_mono _ _ _) lq_1717 rfl ?_
  refine r_aloadS (zW_mono _ _ _) lq_1718 rfl ?_
  refine r_iload (zW_mono _ _ _) lq_1719 rfl ?_
  refine r_push (zW_mono _ _ _) lq_1720 ?_
  refine r_iadd (zW_mono _ _ _) lq_1721 ?_
  refine r_sld (zW_mono _ _ _) lq_1722 v1 ?_
  refine r_aloadS (zW_mono _ _ _) lq_1723 rfl ?_
  refine r_iload (zW_mono _ _ _) lq_1724 rfl ?_
  refine r_push (zW_mono _ _ _) lq_1725 ?_
  refine r_iadd (zW_mono _ _ _) lq_1726 ?_
  refine r_sld (zW_mono _ _ _) lq_1727 v2 ?_
  refine r_virt2 (m1 := 0) (m2 := 0) (zW_mono _ _ _) lq_1728 hx_0 (Nat.le_of_ble_eq_true rfl) (by unfold zbud; rw [hB]; rfl) (by omega) (by omega) ?_
  refine zW_mono zTt G 12 _ _ _ _ _ ?_ (op_cheap hG _ _)
  rintro w h2 ⟨x9, rfl, ⟨fs9, hr9⟩, k9⟩
  refine r_aload (zW_mono _ _ _) lq_1731 rfl ?_
  refine r_aloadS (zW_mono _ _ _) lq_1732 rfl ?_
  refine r_iload (zW_mono _ _ _) lq_1733 rfl ?_
  refine r_push (zW_mono _ _ _) lq_1734 ?_
  refine r_iadd (zW_mono _ _ _) lq_1735 ?_
  refine r_sld (zW_mono _ _ _) lq_1736 v1 ?_
  refine r_aloadS (zW_mono _ _ _) lq_1737 rfl ?_
  refine r_iload (zW_mono _ _ _) lq_1738 rfl ?_
  refine r_push (zW_mono _ _ _) lq_1739 ?_
  refine r_iadd (zW_mono _ _ _) lq_1740 ?_
  refine r_sld (zW_mono _ _ _) lq_1741 v2 ?_
  refine r_virt2 (m1 := 0) (m2 := 0) (zW_mono _ _ _) lq_1742 hr9 (Nat.le_of_ble_eq_true rfl) (by unfold zbud; rw [hB]; rfl) (by omega) (by omega) ?_
  refine zW_mono zTt G 12 _ _ _ _ _ ?_ k9
  rintro w h3 rfl
  refine r_icmp_eq (zW_mono _ _ _) lq_1745 (fun _ => ?_) (fun q => absurd rfl q)
  exact law_end hN
set_option maxHeartbeats 1000000 in
theorem lawop_call {G : zG} (hG : G.1 = zProg) (hT : G.2.1 = ztx) (hN : G.2.2.1 = 8) {c n : Nat} (hc : c ≤ 1000) (hn : n ≤ 100000) : zR zTt G cd_L 600000 7302250 (some .boolean) (zW zTt G 12) (fun w _ => w = some (.int 1)) 1750 [some (.retAddr 0), some (.ref 0), some (.ref 111), some (.int 0)] [] (dzH dH0) c n := by
  have v1 : vp_in ((0 : Int32) + 1) G.2.2.1 := by rw [hN]; exact vp_in_iff.mpr ⟨by decide +kernel, by decide +kernel⟩
  have v2 : vp_in ((0 : Int32) + 2) G.2.2.1 := by rw [hN]; exact vp_in_iff.mpr ⟨by decide +kernel, by decide +kernel⟩
  have v3 : vp_in ((0 : Int32) + 3) G.2.2.1 := by rw [hN]; exact vp_in_iff.mpr ⟨by decide +kernel, by decide +kernel⟩
  have v4 : vp_in ((0 : Int32) + 4) G.2.2.1 := by rw [hN]; exact vp_in_iff.mpr ⟨by decide +kernel, by decide +kernel⟩
  have hB := hG
  refine r_aload (zW_mono _ _ _) lq_1750 rfl ?_
  refine r_aloadS (zW_mono _ _ _) lq_1751 rfl ?_
  refine r_iload (zW_mono _ _ _) lq_1752 rfl ?_
  refine r_push (zW_mono _ _ _) lq_1753 ?_
  refine r_iadd (zW_mono _ _ _) lq_1754 ?_
  refine r_sld (zW_mono _ _ _) lq_1755 v1 ?_
  refine r_aloadS (zW_mono _ _ _) lq_1756 rfl ?_
  refine r_iload (zW_mono _ _ _) lq_1757 rfl ?_
  refine r_push (zW_mono _ _ _) lq_1758 ?_
  refine r_iadd (zW_mono _ _ _) lq_1759 ?_
  refine r_sld (zW_mono _ _ _) lq_1760 v2 ?_
  refine r_aloadS (zW_mono _ _ _) lq_1761 rfl ?_
  refine r_iload (zW_mono _ _ _) lq_1762 rfl ?_
  refine r_push (zW_mono _ _ _) lq_1763 ?_
  refine r_iadd (zW_mono _ _ _) lq_1764 ?_
  refine r_sld (zW_mono _ _ _) lq_1765 v3 ?_
  refine r_aloadS (zW_mono _ _ _) lq_1766 rfl ?_
  refine r_iload (zW_mono _ _ _) lq_1767 rfl ?_
  refine r_push (zW_mono _ _ _) lq_1768 ?_
  refine r_iadd (zW_mono _ _ _) lq_1769 ?_
  refine r_sld (zW_mono _ _ _) lq_1770 v4 ?_
  refine r_virt4 (m1 := 0) (m2 := 0) (zW_mono _ _ _) lq_1771 hx_0 (Nat.le_of_ble_eq_true rfl) (by unfold zbud; rw [hB]; rfl) (by omega) (by omega) ?_
  refine zW_mono zTt G 12 _ _ _ _ _ ?_ (op_call hG _ _ _ _)
  rintro w h2 ⟨x9, rfl, ⟨fs9, hr9⟩, k9⟩
  refine r_aload (zW_mono _ _ _) lq_1774 rfl ?_
  refine r_aloadS (zW_mono _ _ _) lq_1775 rfl ?_
  refine r_iload (zW_mono _ _ _) lq_1776 rfl ?_
  refine r_push (zW_mono _ _ _) lq_1777 ?_
  refine r_iadd (zW_mono _ _ _) lq_1778 ?_
  refine r_sld (zW_mono _ _ _) lq_1779 v1 ?_
  refine r_aloadS (zW_mono _ _ _) lq_1780 rfl ?_
  refine r_iload (zW_mono _ _ _) lq_1781 rfl ?_
  refine r_push (zW_mono _ _ _) lq_1782 ?_
  refine r_iadd (zW_mono _ _ _) lq_1783 ?_
  refine r_sld (zW_mono _ _ _) lq_1784 v2 ?_
  refine r_aloadS (zW_mono _ _ _) lq_1785 rfl ?_
  refine r_iload (zW_mono _ _ _) lq_1786 rfl ?_
  refine r_push (zW_mono _ _ _) lq_1787 ?_
  refine r_iadd (zW_mono _ _ _) lq_1788 ?_
  refine r_sld (zW_mono _ _ _) lq_1789 v3 ?_
  refine r_aloadS (zW_mono _ _ _) lq_1790 rfl ?_
  refine r_iload (zW_mono _ _ _) lq_1791 rfl ?_
  refine r_push (zW_mono _ _ _) lq_1792 ?_
  refine r_iadd (zW_mono _ _ _) lq_1793 ?_
  refine r_sld (zW_mono _ _ _) lq_1794 v4 ?_
  refine r_virt4 (m1 := 0) (m2 := 0) (zW_mono _ _ _) lq_1795 hr9 (Nat.le_of_ble_eq_true rfl) (by unfold zbud; rw [hB]; rfl) (by omega) (by omega) ?_
  refine zW_mono zTt G 12 _ _ _ _ _ ?_ k9
  rintro w h3 rfl
  refine r_icmp_eq (zW_mono _ _ _) lq_1798 (fun _ => ?_) (fun q => absurd rfl q)
  exact law_end hN
set_option maxHeartbeats 1000000 in
theorem lawop_letters {G : zG} (hG : G.1 = zProg) (hT : G.2.1 = ztx) (hN : G.2.2.1 = 8) {c n : Nat} (hc : c ≤ 1000) (hn : n ≤ 100000) : zR zTt G cd_L 600000 7302250 (some .boolean) (zW zTt G 12) (fun w _ => w = some (.int 1)) 1803 [some (.retAddr 0), some (.ref 0), some (.ref 111), some (.int 0)] [] (dzH dH0) c n := by
  have v1 : vp_in ((0 : Int32) + 1) G.2.2.1 := by rw [hN]; exact vp_in_iff.mpr ⟨by decide +kernel, by decide +kernel⟩
  have hB := hG
  refine r_aload (zW_mono _ _ _) lq_1803 rfl ?_
  refine r_aloadS (zW_mono _ _ _) lq_1804 rfl ?_
  refine r_iload (zW_mono _ _ _) lq_1805 rfl ?_
  refine r_push (zW_mono _ _ _) lq_1806 ?_
  refine r_iadd (zW_mono _ _ _) lq_1807 ?_
  refine r_sld (zW_mono _ _ _) lq_1808 v1 ?_
  refine r_virt1 (m1 := 0) (m2 := 0) (zW_mono _ _ _) lq_1809 hx_0 (Nat.le_of_ble_eq_true rfl) (by unfold zbud; rw [hB]; rfl) (by omega) (by omega) ?_
  refine zW_mono zTt G 12 _ _ _ _ _ ?_ (op_letters hG _)
  rintro w h2 ⟨x9, rfl, ⟨fs9, hr9⟩, k9⟩
  refine r_aload (zW_mono _ _ _) lq_1812 rfl ?_
  refine r_aloadS (zW_mono _ _ _) lq_1813 rfl ?_
  refine r_iload (zW_mono _ _ _) lq_1814 rfl ?_
  refine r_push (zW_mono _ _ _) lq_1815 ?_
  refine r_iadd (zW_mono _ _ _) lq_1816 ?_
  refine r_sld (zW_mono _ _ _) lq_1817 v1 ?_
  refine r_virt1 (m1 := 0) (m2 := 0) (zW_mono _ _ _) lq_1818 hr9 (Nat.le_of_ble_eq_true rfl) (by unfold zbud; rw [hB]; rfl) (by omega) (by omega) ?_
  refine zW_mono zTt G 12 _ _ _ _ _ ?_ k9
  rintro w h3 rfl
  refine r_icmp_eq (zW_mono _ _ _) lq_1821 (fun _ => ?_) (fun q => absurd rfl q)
  exact law_end hN
set_option maxHeartbeats 1000000 in
theorem lawop_reached {G : zG} (hG : G.1 = zProg) (hT : G.2.1 = ztx) (hN : G.2.2.1 = 8) {c n : Nat} (hc : c ≤ 1000) (hn : n ≤ 100000) : zR zTt G cd_L 600000 7302250 (some .boolean) (zW zTt G 12) (fun w _ => w = some (.int 1)) 1826 [some (.retAddr 0), some (.ref 0), some (.ref 111), some (.int 0)] [] (dzH dH0) c n := by
  have v1 : vp_in ((0 : Int32) + 1) G.2.2.1 := by rw [hN]; exact vp_in_iff.mpr ⟨by decide +kernel, by decide +kernel⟩
  have v2 : vp_in ((0 : Int32) + 2) G.2.2.1 := by rw [hN]; exact vp_in_iff.mpr ⟨by decide +kernel, by decide +kernel⟩
  have hB := hG
  refine r_aload (zW_mono _ _ _) lq_1826 rfl ?_
  refine r_aloadS (zW_mono _ _ _) lq_1827 rfl ?_
  refine r_iload (zW_mono _ _ _) lq_1828 rfl ?_
  refine r_push (zW_mono _ _ _) lq_1829 ?_
  refine r_iadd (zW_mono _ _ _) lq_1830 ?_
  refine r_sld (zW_mono _ _ _) lq_1831 v1 ?_
  refine r_aloadS (zW_mono _ _ _) lq_1832 rfl ?_
  refine r_iload (zW_mono _ _ _) lq_1833 rfl ?_
  refine r_push (zW_mono _ _ _) lq_1834 ?_
  refine r_iadd (zW_mono _ _ _) lq_1835 ?_
  refine r_sld (zW_mono _ _ _) lq_1836 v2 ?_
  refine r_virt2 (m1 := 0) (m2 := 0) (zW_mono _ _ _) lq_1837 hx_0 (Nat.le_of_ble_eq_true rfl) (by unfold zbud; rw [hB]; rfl) (by omega) (by omega) ?_
  refine zW_mono zTt G 12 _ _ _ _ _ ?_ (op_reached hG _ _)
  rintro w h2 ⟨x9, rfl, ⟨fs9, hr9⟩, k9⟩
  refine r_aload (zW_mono _ _ _) lq_1840 rfl ?_
  refine r_aloadS (zW_mono _ _ _) lq_1841 rfl ?_
  refine r_iload (zW_mono _ _ _) lq_1842 rfl ?_
  refine r_push (zW_mono _ _ _) lq_1843 ?_
  refine r_iadd (zW_mono _ _ _) lq_1844 ?_
  refine r_sld (zW_mono _ _ _) lq_1845 v1 ?_
  refine r_aloadS (zW_mono _ _ _) lq_1846 rfl ?_
  refine r_iload (zW_mono _ _ _) lq_1847 rfl ?_
  refine r_push (zW_mono _ _ _) lq_1848 ?_
  refine r_iadd (zW_mono _ _ _) lq_1849 ?_
  refine r_sld (zW_mono _ _ _) lq_1850 v2 ?_
  refine r_virt2 (m1 := 0) (m2 := 0) (zW_mono _ _ _) lq_1851 hr9 (Nat.le_of_ble_eq_true rfl) (by unfold zbud; rw [hB]; rfl) (by omega) (by omega) ?_
  refine zW_mono zTt G 12 _ _ _ _ _ ?_ k9
  rintro w h3 rfl
  refine r_icmp_eq (zW_mono _ _ _) lq_1854 (fun _ => ?_) (fun q => absurd rfl q)
  exact law_end hN
set_option maxHeartbeats 1000000 in
theorem lawop_mend {G : zG} (hG : G.1 = zProg) (hT : G.2.1 = ztx) (hN : G.2.2.1 = 8) {c n : Nat} (hc : c ≤ 1000) (hn : n ≤ 100000) : zR zTt G cd_L 600000 7302250 (some .boolean) (zW zTt G 12) (fun w _ => w = some (.int 1)) 1859 [some (.retAddr 0), some (.ref 0), some (.ref 111), some (.int 0)] [] (dzH dH0) c n := by
  have v1 : vp_in ((0 : Int32) + 1) G.2.2.1 := by rw [hN]; exact vp_in_iff.mpr ⟨by decide +kernel, by decide +kernel⟩
  have v2 : vp_in ((0 : Int32) + 2) G.2.2.1 := by rw [hN]; exact vp_in_iff.mpr ⟨by decide +kernel, by decide +kernel⟩
  have hB := hG
  refine r_aload (zW_mono _ _ _) lq_1859 rfl ?_
  refine r_aloadS (zW_mono _ _ _) lq_1860 rfl ?_
  refine r_iload (zW_mono _ _ _) lq_1861 rfl ?_
  refine r_push (zW_mono _ _ _) lq_1862 ?_
  refine r_iadd (zW_mono _ _ _) lq_1863 ?_
  refine r_sld (zW_mono _ _ _) lq_1864 v1 ?_
  refine r_aloadS (zW_mono _ _ _) lq_1865 rfl ?_
  refine r_iload (zW_mono _ _ _) lq_1866 rfl ?_
  refine r_push (zW_mono _ _ _) lq_1867 ?_
  refine r_iadd (zW_mono _ _ _) lq_1868 ?_
  refine r_sld (zW_mono _ _ _) lq_1869 v2 ?_
  refine r_virt2 (m1 := 0) (m2 := 0) (zW_mono _ _ _) lq_1870 hx_0 (Nat.le_of_ble_eq_true rfl) (by unfold zbud; rw [hB]; rfl) (by omega) (by omega) ?_
  refine zW_mono zTt G 12 _ _ _ _ _ ?_ (op_mend hG _ _)
  rintro w h2 ⟨x9, rfl, ⟨fs9, hr9⟩, k9⟩
  refine r_aload (zW_mono _ _ _) lq_1873 rfl ?_
  refine r_aloadS (zW_mono _ _ _) lq_1874 rfl ?_
  refine r_iload (zW_mono _ _ _) lq_1875 rfl ?_
  refine r_push (zW_mono _ _ _) lq_1876 ?_
  refine r_iadd (zW_mono _ _ _) lq_1877 ?_
  refine r_sld (zW_mono _ _ _) lq_1878 v1 ?_
  refine r_aloadS (zW_mono _ _ _) lq_1879 rfl ?_
  refine r_iload (zW_mono _ _ _) lq_1880 rfl ?_
  refine r_push (zW_mono _ _ _) lq_1881 ?_
  refine r_iadd (zW_mono _ _ _) lq_1882 ?_
  refine r_sld (zW_mono _ _ _) lq_1883 v2 ?_
  refine r_virt2 (m1 := 0) (m2 := 0) (zW_mono _ _ _) lq_1884 hr9 (Nat.le_of_ble_eq_true rfl) (by unfold zbud; rw [hB]; rfl) (by omega) (by omega) ?_
  refine zW_mono zTt G 12 _ _ _ _ _ ?_ k9
  rintro w h3 rfl
  refine r_icmp_eq (zW_mono _ _ _) lq_1887 (fun _ => ?_) (fun q => absurd rfl q)
  exact law_end hN
set_option maxHeartbeats 1000000 in
theorem lawop_left {G : zG} (hG : G.1 = zProg) (hT : G.2.1 = ztx) (hN : G.2.2.1 = 8) {c n : Nat} (hc : c ≤ 1000) (hn : n ≤ 100000) : zR zTt G cd_L 600000 7302250 (some .boolean) (zW zTt G 12) (fun w _ => w = some (.int 1)) 1892 [some (.retAddr 0), some (.ref 0), some (.ref 111), some (.int 0)] [] (dzH dH0) c n := by
  have v1 : vp_in ((0 : Int32) + 1) G.2.2.1 := by rw [hN]; exact vp_in_iff.mpr ⟨by decide +kernel, by decide +kernel⟩
  have v2 : vp_in ((0 : Int32) + 2) G.2.2.1 := by rw [hN]; exact vp_in_iff.mpr ⟨by decide +kernel, by decide +kernel⟩
  have hB := hG
  refine r_aload (zW_mono _ _ _) lq_1892 rfl ?_
  refine r_aloadS (zW_mono _ _ _) lq_1893 rfl ?_
  refine r_iload (zW_mono _ _ _) lq_1894 rfl ?_
  refine r_push (zW_mono _ _ _) lq_1895 ?_
  refine r_iadd (zW_mono _ _ _) lq_1896 ?_
  refine r_sld (zW_mono _ _ _) lq_1897 v1 ?_
  refine r_aloadS (zW_mono _ _ _) lq_1898 rfl ?_
  refine r_iload (zW_mono _ _ _) lq_1899 rfl ?_
  refine r_push (zW_mono _ _ _) lq_1900 ?_
  refine r_iadd (zW_mono _ _ _) lq_1901 ?_
  refine r_sld (zW_mono _ _ _) lq_1902 v2 ?_
  refine r_virt2 (m1 := 0) (m2 := 0) (zW_mono _ _ _) lq_1903 hx_0 (Nat.le_of_ble_eq_true rfl) (by unfold zbud; rw [hB]; rfl) (by omega) (by omega) ?_
  refine zW_mono zTt G 12 _ _ _ _ _ ?_ (op_left hG _ _)
  rintro w h2 ⟨x9, rfl, ⟨fs9, hr9⟩, k9⟩
  refine r_aload (zW_mono _ _ _) lq_1906 rfl ?_
  refine r_aloadS (zW_mono _ _ _) lq_1907 rfl ?_
  refine r_iload (zW_mono _ _ _) lq_1908 rfl ?_
  refine r_push (zW_mono _ _ _) lq_1909 ?_
  refine r_iadd (zW_mono _ _ _) lq_1910 ?_
  refine r_sld (zW_mono _ _ _) lq_1911 v1 ?_
  refine r_aloadS (zW_mono _ _ _) lq_1912 rfl ?_
  refine r_iload (zW_mono _ _ _) lq_1913 rfl ?_
  refine r_push (zW_mono _ _ _) lq_1914 ?_
  refine r_iadd (zW_mono _ _ _) lq_1915 ?_
  refine r_sld (zW_mono _ _ _) lq_1916 v2 ?_
  refine r_virt2 (m1 := 0) (m2 := 0) (zW_mono _ _ _) lq_1917 hr9 (Nat.le_of_ble_eq_true rfl) (by unfold zbud; rw [hB]; rfl) (by omega) (by omega) ?_
  refine zW_mono zTt G 12 _ _ _ _ _ ?_ k9
  rintro w h3 rfl
  refine r_icmp_eq (zW_mono _ _ _) lq_1920 (fun _ => ?_) (fun q => absurd rfl q)
  exact law_end hN
set_option maxHeartbeats 1000000 in
theorem lawop_moves {G : zG} (hG : G.1 = zProg) (hT : G.2.1 = ztx) (hN : G.2.2.1 = 8) {c n : Nat} (hc : c ≤ 1000) (hn : n ≤ 100000) : zR zTt G cd_L 600000 7302250 (some .boolean) (zW zTt G 12) (fun w _ => w = some (.int 1)) 1925 [some (.retAddr 0), some (.ref 0), some (.ref 111), some (.int 0)] [] (dzH dH0) c n := by
  have v1 : vp_in ((0 : Int32) + 1) G.2.2.1 := by rw [hN]; exact vp_in_iff.mpr ⟨by decide +kernel, by decide +kernel⟩
  have v2 : vp_in ((0 : Int32) + 2) G.2.2.1 := by rw [hN]; exact vp_in_iff.mpr ⟨by decide +kernel, by decide +kernel⟩
  have hB := hG
  refine r_aload (zW_mono _ _ _) lq_1925 rfl ?_
  refine r_aloadS (zW_mono _ _ _) lq_1926 rfl ?_
  refine r_iload (zW_mono _ _ _) lq_1927 rfl ?_
  refine r_push (zW_mono _ _ _) lq_1928 ?_
  refine r_iadd (zW_mono _ _ _) lq_1929 ?_
  refine r_sld (zW_mono _ _ _) lq_1930 v1 ?_
  refine r_aloadS (zW_mono _ _ _) lq_1931 rfl ?_
  refine r_iload (zW_mono _ _ _) lq_1932 rfl ?_
  refine r_push (zW_mono _ _ _) lq_1933 ?_
  refine r_iadd (zW_mono _ _ _) lq_1934 ?_
  refine r_sld (zW_mono _ _ _) lq_1935 v2 ?_
  refine r_if_eq (zW_mono _ _ _) lq_1936 (fun q2 => ?_) (fun q2 => ?_)
  · refine r_push (zW_mono _ _ _) lq_1943 ?_
    refine r_virt2 (m1 := 0) (m2 := 0) (zW_mono _ _ _) lq_1944 hx_0 (Nat.le_of_ble_eq_true rfl) (by unfold zbud; rw [hB]; rfl) (by omega) (by omega) ?_
    refine zW_mono zTt G 12 _ _ _ _ _ ?_ (op_moves hG _ _)
    rintro w h2 ⟨x9, rfl, ⟨fs9, hr9⟩, k9⟩
    refine r_aload (zW_mono _ _ _) lq_1947 rfl ?_
    refine r_aloadS (zW_mono _ _ _) lq_1948 rfl ?_
    refine r_iload (zW_mono _ _ _) lq_1949 rfl ?_
    refine r_push (zW_mono _ _ _) lq_1950 ?_
    refine r_iadd (zW_mono _ _ _) lq_1951 ?_
    refine r_sld (zW_mono _ _ _) lq_1952 v1 ?_
    refine r_aloadS (zW_mono _ _ _) lq_1953 rfl ?_
    refine r_iload (zW_mono _ _ _) lq_1954 rfl ?_
    refine r_push (zW_mono _ _ _) lq_1955 ?_
    refine r_iadd (zW_mono _ _ _) lq_1956 ?_
    refine r_sld (zW_mono _ _ _) lq_1957 v2 ?_
    refine r_if_eq (zW_mono _ _ _) lq_1958 (fun _ => ?_) (fun q => absurd q2 q)
    refine r_push (zW_mono _ _ _) lq_1965 ?_
    refine r_virt2 (m1 := 0) (m2 := 0) (zW_mono _ _ _) lq_1966 hr9 (Nat.le_of_ble_eq_true rfl) (by unfold zbud; rw [hB]; rfl) (by omega) (by omega) ?_
    refine zW_mono zTt G 12 _ _ _ _ _ ?_ k9
    rintro w h3 rfl
    refine r_icmp_eq (zW_mono _ _ _) lq_1969 (fun _ => ?_) (fun q => absurd rfl q)
    exact law_end hN
  · refine r_push (zW_mono _ _ _) lq_1939 ?_
    refine r_goto (zW_mono _ _ _) lq_1940 ?_
    refine r_virt2 (m1 := 0) (m2 := 0) (zW_mono _ _ _) lq_1944 hx_0 (Nat.le_of_ble_eq_true rfl) (by unfold zbud; rw [hB]; rfl) (by omega) (by omega) ?_
    refine zW_mono zTt G 12 _ _ _ _ _ ?_ (op_moves hG _ _)
    rintro w h2 ⟨x9, rfl, ⟨fs9, hr9⟩, k9⟩
    refine r_aload (zW_mono _ _ _) lq_1947 rfl ?_
    refine r_aloadS (zW_mono _ _ _) lq_1948 rfl ?_
    refine r_iload (zW_mono _ _ _) lq_1949 rfl ?_
    refine r_push (zW_mono _ _ _) lq_1950 ?_
    refine r_iadd (zW_mono _ _ _) lq_1951 ?_
    refine r_sld (zW_mono _ _ _) lq_1952 v1 ?_
    refine r_aloadS (zW_mono _ _ _) lq_1953 rfl ?_
    refine r_iload (zW_mono _ _ _) lq_1954 rfl ?_
    refine r_push (zW_mono _ _ _) lq_1955 ?_
    refine r_iadd (zW_mono _ _ _) lq_1956 ?_
    refine r_sld (zW_mono _ _ _) lq_1957 v2 ?_
    refine r_if_eq (zW_mono _ _ _) lq_1958 (fun q => absurd q q2) (fun _ => ?_)
    refine r_push (zW_mono _ _ _) lq_1961 ?_
    refine r_goto (zW_mono _ _ _) lq_1962 ?_
    refine r_virt2 (m1 := 0) (m2 := 0) (zW_mono _ _ _) lq_1966 hr9 (Nat.le_of_ble_eq_true rfl) (by unfold zbud; rw [hB]; rfl) (by omega) (by omega) ?_
    refine zW_mono zTt G 12 _ _ _ _ _ ?_ k9
    rintro w h3 rfl
    refine r_icmp_eq (zW_mono _ _ _) lq_1969 (fun _ => ?_) (fun q => absurd rfl q)
    exact law_end hN
set_option maxHeartbeats 1000000 in
theorem lawop_jury {G : zG} (hG : G.1 = zProg) (hT : G.2.1 = ztx) (hN : G.2.2.1 = 8) {c n : Nat} (hc : c ≤ 1000) (hn : n ≤ 100000) : zR zTt G cd_L 600000 7302250 (some .boolean) (zW zTt G 12) (fun w _ => w = some (.int 1)) 1974 [some (.retAddr 0), some (.ref 0), some (.ref 111), some (.int 0)] [] (dzH dH0) c n := by
  have v1 : vp_in ((0 : Int32) + 1) G.2.2.1 := by rw [hN]; exact vp_in_iff.mpr ⟨by decide +kernel, by decide +kernel⟩
  have hB := hG
  refine r_aload (zW_mono _ _ _) lq_1974 rfl ?_
  refine r_aloadS (zW_mono _ _ _) lq_1975 rfl ?_
  refine r_iload (zW_mono _ _ _) lq_1976 rfl ?_
  refine r_push (zW_mono _ _ _) lq_1977 ?_
  refine r_iadd (zW_mono _ _ _) lq_1978 ?_
  refine r_sld (zW_mono _ _ _) lq_1979 v1 ?_
  refine r_virt1 (m1 := 0) (m2 := 0) (zW_mono _ _ _) lq_1980 hx_0 (Nat.le_of_ble_eq_true rfl) (by unfold zbud; rw [hB]; rfl) (by omega) (by omega) ?_
  refine zW_mono zTt G 12 _ _ _ _ _ ?_ (op_jury hG _)
  rintro w h2 ⟨x9, rfl, ⟨fs9, hr9⟩, k9⟩
  refine r_aload (zW_mono _ _ _) lq_1983 rfl ?_
  refine r_aloadS (zW_mono _ _ _) lq_1984 rfl ?_
  refine r_iload (zW_mono _ _ _) lq_1985 rfl ?_
  refine r_push (zW_mono _ _ _) lq_1986 ?_
  refine r_iadd (zW_mono _ _ _) lq_1987 ?_
  refine r_sld (zW_mono _ _ _) lq_1988 v1 ?_
  refine r_virt1 (m1 := 0) (m2 := 0) (zW_mono _ _ _) lq_1989 hr9 (Nat.le_of_ble_eq_true rfl) (by unfold zbud; rw [hB]; rfl) (by omega) (by omega) ?_
  refine zW_mono zTt G 12 _ _ _ _ _ ?_ k9
  rintro w h3 rfl
  refine r_lc_eq (X := x9.toInt) (Y := x9.toInt) (zW_mono _ _ _) lq_1992 lq_1993 rfl rfl (fun _ => ?_) (fun q => absurd rfl q)
  exact law_end hN
set_option maxHeartbeats 1000000 in
theorem lawop_saver {G : zG} (hG : G.1 = zProg) (hT : G.2.1 = ztx) (hN : G.2.2.1 = 8) {c n : Nat} (hc : c ≤ 1000) (hn : n ≤ 100000) : zR zTt G cd_L 600000 7302250 (some .boolean) (zW zTt G 12) (fun w _ => w = some (.int 1)) 1998 [some (.retAddr 0), some (.ref 0), some (.ref 111), some (.int 0)] [] (dzH dH0) c n := by
  have v1 : vp_in ((0 : Int32) + 1) G.2.2.1 := by rw [hN]; exact vp_in_iff.mpr ⟨by decide +kernel, by decide +kernel⟩
  have v2 : vp_in ((0 : Int32) + 2) G.2.2.1 := by rw [hN]; exact vp_in_iff.mpr ⟨by decide +kernel, by decide +kernel⟩
  have hB := hG
  refine r_aload (zW_mono _ _ _) lq_1998 rfl ?_
  refine r_aloadS (zW_mono _ _ _) lq_1999 rfl ?_
  refine r_iload (zW_mono _ _ _) lq_2000 rfl ?_
  refine r_push (zW_mono _ _ _) lq_2001 ?_
  refine r_iadd (zW_mono _ _ _) lq_2002 ?_
  refine r_sld (zW_mono _ _ _) lq_2003 v1 ?_
  refine r_aloadS (zW_mono _ _ _) lq_2004 rfl ?_
  refine r_iload (zW_mono _ _ _) lq_2005 rfl ?_
  refine r_push (zW_mono _ _ _) lq_2006 ?_
  refine r_iadd (zW_mono _ _ _) lq_2007 ?_
  refine r_sld (zW_mono _ _ _) lq_2008 v2 ?_
  refine r_virt2 (m1 := 0) (m2 := 0) (zW_mono _ _ _) lq_2009 hx_0 (Nat.le_of_ble_eq_true rfl) (by unfold zbud; rw [hB]; rfl) (by omega) (by omega) ?_
  refine zW_mono zTt G 12 _ _ _ _ _ ?_ (op_saver hG _ _)
  rintro w h2 ⟨x9, rfl, ⟨fs9, hr9⟩, k9⟩
  refine r_aload (zW_mono _ _ _) lq_2012 rfl ?_
  refine r_aloadS (zW_mono _ _ _) lq_2013 rfl ?_
  refine r_iload (zW_mono _ _ _) lq_2014 rfl ?_
  refine r_push (zW_mono _ _ _) lq_2015 ?_
  refine r_iadd (zW_mono _ _ _) lq_2016 ?_
  refine r_sld (zW_mono _ _ _) lq_2017 v1 ?_
  refine r_aloadS (zW_mono _ _ _) lq_2018 rfl ?_
  refine r_iload (zW_mono _ _ _) lq_2019 rfl ?_
  refine r_push (zW_mono _ _ _) lq_2020 ?_
  refine r_iadd (zW_mono _ _ _) lq_2021 ?_
  refine r_sld (zW_mono _ _ _) lq_2022 v2 ?_
  refine r_virt2 (m1 := 0) (m2 := 0) (zW_mono _ _ _) lq_2023 hr9 (Nat.le_of_ble_eq_true rfl) (by unfold zbud; rw [hB]; rfl) (by omega) (by omega) ?_
  refine zW_mono zTt G 12 _ _ _ _ _ ?_ k9
  rintro w h3 rfl
  refine r_icmp_eq (zW_mono _ _ _) lq_2026 (fun _ => ?_) (fun q => absurd rfl q)
  exact law_end hN
set_option maxHeartbeats 1000000 in
theorem lawop_overlap {G : zG} (hG : G.1 = zProg) (hT : G.2.1 = ztx) (hN : G.2.2.1 = 8) {c n : Nat} (hc : c ≤ 1000) (hn : n ≤ 100000) : zR zTt G cd_L 600000 7302250 (some .boolean) (zW zTt G 12) (fun w _ => w = some (.int 1)) 2031 [some (.retAddr 0), some (.ref 0), some (.ref 111), some (.int 0)] [] (dzH dH0) c n := by
  have v1 : vp_in ((0 : Int32) + 1) G.2.2.1 := by rw [hN]; exact vp_in_iff.mpr ⟨by decide +kernel, by decide +kernel⟩
  have v2 : vp_in ((0 : Int32) + 2) G.2.2.1 := by rw [hN]; exact vp_in_iff.mpr ⟨by decide +kernel, by decide +kernel⟩
  have v3 : vp_in ((0 : Int32) + 3) G.2.2.1 := by rw [hN]; exact vp_in_iff.mpr ⟨by decide +kernel, by decide +kernel⟩
  have hB := hG
  refine r_aload (zW_mono _ _ _) lq_2031 rfl ?_
  refine r_aloadS (zW_mono _ _ _) lq_2032 rfl ?_
  refine r_iload (zW_mono _ _ _) lq_2033 rfl ?_
  refine r_push (zW_mono _ _ _) lq_2034 ?_
  refine r_iadd (zW_mono _ _ _) lq_2035 ?_
  refine r_sld (zW_mono _ _ _) lq_2036 v1 ?_
  refine r_aloadS (zW_mono _ _ _) lq_2037 rfl ?_
  refine r_iload (zW_mono _ _ _) lq_2038 rfl ?_
  refine r_push (zW_mono _ _ _) lq_2039 ?_
  refine r_iadd (zW_mono _ _ _) lq_2040 ?_
  refine r_sld (zW_mono _ _ _) lq_2041 v2 ?_
  refine r_aloadS (zW_mono _ _ _) lq_2042 rfl ?_
  refine r_iload (zW_mono _ _ _) lq_2043 rfl ?_
  refine r_push (zW_mono _ _ _) lq_2044 ?_
  refine r_iadd (zW_mono _ _ _) lq_2045 ?_
  refine r_sld (zW_mono _ _ _) lq_2046 v3 ?_
  refine r_virt3 (m1 := 0) (m2 := 0) (zW_mono _ _ _) lq_2047 hx_0 (Nat.le_of_ble_eq_true rfl) (by unfold zbud; rw [hB]; rfl) (by omega) (by omega) ?_
  refine zW_mono zTt G 12 _ _ _ _ _ ?_ (op_overlap hG _ _ _)
  rintro w h2 ⟨x9, rfl, ⟨fs9, hr9⟩, k9⟩
  refine r_aload (zW_mono _ _ _) lq_2050 rfl ?_
  refine r_aloadS (zW_mono _ _ _) lq_2051 rfl ?_
  refine r_iload (zW_mono _ _ _) lq_2052 rfl ?_
  refine r_push (zW_mono _ _ _) lq_2053 ?_
  refine r_iadd (zW_mono _ _ _) lq_2054 ?_
  refine r_sld (zW_mono _ _ _) lq_2055 v1 ?_
  refine r_aloadS (zW_mono _ _ _) lq_2056 rfl ?_
  refine r_iload (zW_mono _ _ _) lq_2057 rfl ?_
  refine r_push (zW_mono _ _ _) lq_2058 ?_
  refine r_iadd (zW_mono _ _ _) lq_2059 ?_
  refine r_sld (zW_mono _ _ _) lq_2060 v2 ?_
  refine r_aloadS (zW_mono _ _ _) lq_2061 rfl ?_
  refine r_iload (zW_mono _ _ _) lq_2062 rfl ?_
  refine r_push (zW_mono _ _ _) lq_2063 ?_
  refine r_iadd (zW_mono _ _ _) lq_2064 ?_
  refine r_sld (zW_mono _ _ _) lq_2065 v3 ?_
  refine r_virt3 (m1 := 0) (m2 := 0) (zW_mono _ _ _) lq_2066 hr9 (Nat.le_of_ble_eq_true rfl) (by unfold zbud; rw [hB]; rfl) (by omega) (by omega) ?_
  refine zW_mono zTt G 12 _ _ _ _ _ ?_ k9
  rintro w h3 rfl
  refine r_icmp_eq (zW_mono _ _ _) lq_2069 (fun _ => ?_) (fun q => absurd rfl q)
  exact law_end hN
set_option maxHeartbeats 1000000 in
theorem lawop_best {G : zG} (hG : G.1 = zProg) (hT : G.2.1 = ztx) (hN : G.2.2.1 = 8) {c n : Nat} (hc : c ≤ 1000) (hn : n ≤ 100000) : zR zTt G cd_L 600000 7302250 (some .boolean) (zW zTt G 12) (fun w _ => w = some (.int 1)) 2074 [some (.retAddr 0), some (.ref 0), some (.ref 111), some (.int 0)] [] (dzH dH0) c n := by
  have v1 : vp_in ((0 : Int32) + 1) G.2.2.1 := by rw [hN]; exact vp_in_iff.mpr ⟨by decide +kernel, by decide +kernel⟩
  have hB := hG
  refine r_aload (zW_mono _ _ _) lq_2074 rfl ?_
  refine r_aloadS (zW_mono _ _ _) lq_2075 rfl ?_
  refine r_iload (zW_mono _ _ _) lq_2076 rfl ?_
  refine r_push (zW_mono _ _ _) lq_2077 ?_
  refine r_iadd (zW_mono _ _ _) lq_2078 ?_
  refine r_sld (zW_mono _ _ _) lq_2079 v1 ?_
  refine r_virt1 (m1 := 0) (m2 := 0) (zW_mono _ _ _) lq_2080 hx_0 (Nat.le_of_ble_eq_true rfl) (by unfold zbud; rw [hB]; rfl) (by omega) (by omega) ?_
  refine zW_mono zTt G 12 _ _ _ _ _ ?_ (op_best hG _)
  rintro w h2 ⟨x9, rfl, ⟨fs9, hr9⟩, k9⟩
  refine r_aload (zW_mono _ _ _) lq_2083 rfl ?_
  refine r_aloadS (zW_mono _ _ _) lq_2084 rfl ?_
  refine r_iload (zW_mono _ _ _) lq_2085 rfl ?_
  refine r_push (zW_mono _ _ _) lq_2086 ?_
  refine r_iadd (zW_mono _ _ _) lq_2087 ?_
  refine r_sld (zW_mono _ _ _) lq_2088 v1 ?_
  refine r_virt1 (m1 := 0) (m2 := 0) (zW_mono _ _ _) lq_2089 hr9 (Nat.le_of_ble_eq_true rfl) (by unfold zbud; rw [hB]; rfl) (by omega) (by omega) ?_
  refine zW_mono zTt G 12 _ _ _ _ _ ?_ k9
  rintro w h3 rfl
  refine r_icmp_eq (zW_mono _ _ _) lq_2092 (fun _ => ?_) (fun q => absurd rfl q)
  exact law_end hN
set_option maxHeartbeats 1000000 in
theorem lawop_bests {G : zG} (hG : G.1 = zProg) (hT : G.2.1 = ztx) (hN : G.2.2.1 = 8) {c n : Nat} (hc : c ≤ 1000) (hn : n ≤ 100000) : zR zTt G cd_L 600000 7302250 (some .boolean) (zW zTt G 12) (fun w _ => w = some (.int 1)) 2097 [some (.retAddr 0), some (.ref 0), some (.ref 111), some (.int 0)] [] (dzH dH0) c n := by
  have v1 : vp_in ((0 : Int32) + 1) G.2.2.1 := by rw [hN]; exact vp_in_iff.mpr ⟨by decide +kernel, by decide +kernel⟩
  have hB := hG
  refine r_aload (zW_mono _ _ _) lq_2097 rfl ?_
  refine r_aloadS (zW_mono _ _ _) lq_2098 rfl ?_
  refine r_iload (zW_mono _ _ _) lq_2099 rfl ?_
  refine r_push (zW_mono _ _ _) lq_2100 ?_
  refine r_iadd (zW_mono _ _ _) lq_2101 ?_
  refine r_sld (zW_mono _ _ _) lq_2102 v1 ?_
  refine r_virt1 (m1 := 0) (m2 := 0) (zW_mono _ _ _) lq_2103 hx_0 (Nat.le_of_ble_eq_true rfl) (by unfold zbud; rw [hB]; rfl) (by omega) (by omega) ?_
  refine zW_mono zTt G 12 _ _ _ _ _ ?_ (op_bests hG _)
  rintro w h2 ⟨x9, rfl, ⟨fs9, hr9⟩, k9⟩
  refine r_aload (zW_mono _ _ _) lq_2106 rfl ?_
  refine r_aloadS (zW_mono _ _ _) lq_2107 rfl ?_
  refine r_iload (zW_mono _ _ _) lq_2108 rfl ?_
  refine r_push (zW_mono _ _ _) lq_2109 ?_
  refine r_iadd (zW_mono _ _ _) lq_2110 ?_
  refine r_sld (zW_mono _ _ _) lq_2111 v1 ?_
  refine r_virt1 (m1 := 0) (m2 := 0) (zW_mono _ _ _) lq_2112 hr9 (Nat.le_of_ble_eq_true rfl) (by unfold zbud; rw [hB]; rfl) (by omega) (by omega) ?_
  refine zW_mono zTt G 12 _ _ _ _ _ ?_ k9
  rintro w h3 rfl
  refine r_icmp_eq (zW_mono _ _ _) lq_2115 (fun _ => ?_) (fun q => absurd rfl q)
  exact law_end hN
set_option maxHeartbeats 1000000 in
theorem lawop_count {G : zG} (hG : G.1 = zProg) (hT : G.2.1 = ztx) (hN : G.2.2.1 = 8) {c n : Nat} (hc : c ≤ 1000) (hn : n ≤ 100000) : zR zTt G cd_L 600000 7302250 (some .boolean) (zW zTt G 12) (fun w _ => w = some (.int 1)) 2120 [some (.retAddr 0), some (.ref 0), some (.ref 111), some (.int 0)] [] (dzH dH0) c n := by
  have v1 : vp_in ((0 : Int32) + 1) G.2.2.1 := by rw [hN]; exact vp_in_iff.mpr ⟨by decide +kernel, by decide +kernel⟩
  have hB := hG
  refine r_aload (zW_mono _ _ _) lq_2120 rfl ?_
  refine r_aloadS (zW_mono _ _ _) lq_2121 rfl ?_
  refine r_iload (zW_mono _ _ _) lq_2122 rfl ?_
  refine r_push (zW_mono _ _ _) lq_2123 ?_
  refine r_iadd (zW_mono _ _ _) lq_2124 ?_
  refine r_sld (zW_mono _ _ _) lq_2125 v1 ?_
  refine r_virt1 (m1 := 0) (m2 := 0) (zW_mono _ _ _) lq_2126 hx_0 (Nat.le_of_ble_eq_true rfl) (by unfold zbud; rw [hB]; rfl) (by omega) (by omega) ?_
  refine zW_mono zTt G 12 _ _ _ _ _ ?_ (op_count hG _)
  rintro w h2 ⟨x9, rfl, ⟨fs9, hr9⟩, k9⟩
  refine r_aload (zW_mono _ _ _) lq_2129 rfl ?_
  refine r_aloadS (zW_mono _ _ _) lq_2130 rfl ?_
  refine r_iload (zW_mono _ _ _) lq_2131 rfl ?_
  refine r_push (zW_mono _ _ _) lq_2132 ?_
  refine r_iadd (zW_mono _ _ _) lq_2133 ?_
  refine r_sld (zW_mono _ _ _) lq_2134 v1 ?_
  refine r_virt1 (m1 := 0) (m2 := 0) (zW_mono _ _ _) lq_2135 hr9 (Nat.le_of_ble_eq_true rfl) (by unfold zbud; rw [hB]; rfl) (by omega) (by omega) ?_
  refine zW_mono zTt G 12 _ _ _ _ _ ?_ k9
  rintro w h3 rfl
  refine r_icmp_eq (zW_mono _ _ _) lq_2138 (fun _ => ?_) (fun q => absurd rfl q)
  exact law_end hN
theorem zin_dm {G : zG} (hG : G.1 = zProg) (hT : G.2.1 = ztx) {d j : Nat} {as : List Value} {X : dH} {Y : zH} {w : Option Value} {h2 : dH} {Q : zQ} (hX : dmet zTt zG0 20000 d j as X = some (w, h2)) (e : Y = dzH X) (k : Q w (dzH h2)) : zW zTt G d j as Y Q := by
  subst e
  exact dmet_ok (G := zG0) (G2 := G) hG hT d j as X w h2 hX Q k
theorem zand63 (x : Int32) : 0 ≤ (x &&& 63).toInt ∧ (x &&& 63).toInt ≤ 63 := by
  obtain ⟨j, hj, e⟩ := pk_andE x (m := 63) 6 (by decide)
  rw [e, nI_toInt (by omega)]
  omega
set_option maxHeartbeats 4000000 in
theorem law_loop {G : zG} (hG : G.1 = zProg) (hT : G.2.1 = ztx) (hN : G.2.2.1 ≤ 8) {c n : Nat} (hc : c ≤ 1000) (hn : n ≤ 100000) : zR zTt G cd_L 600000 7302250 (some .boolean) (zW zTt G 12) (fun w _ => w = some (.int 1)) 18 [some (.retAddr 0), some (.ref 0), some (.ref 111), some (.int 0)] [] (dzH dH0) c n := by
  refine r_iload (zW_mono _ _ _) lq_18 rfl ?_
  refine r_aloadS (zW_mono _ _ _) lq_19 rfl ?_
  refine r_slen (zW_mono _ _ _) lq_20 ?_
  refine r_push (zW_mono _ _ _) lq_21 ?_
  refine r_isub (zW_mono _ _ _) lq_23 ?_
  by_cases h8 : G.2.2.1 = 8
  · refine r_icmp_gt (zW_mono _ _ _) lq_24 (fun q => absurd q (by rw [h8]; decide +kernel)) (fun _ => ?_)
    have v0 : vp_in (0 : Int32) G.2.2.1 := by rw [h8]; exact vp_in_iff.mpr ⟨by decide +kernel, by decide +kernel⟩
    refine r_aloadS (zW_mono _ _ _) lq_27 rfl ?_
    refine r_iload (zW_mono _ _ _) lq_28 rfl ?_
    refine r_sld (zW_mono _ _ _) lq_29 v0 ?_
    refine r_push (zW_mono _ _ _) lq_30 ?_
    refine r_iand (zW_mono _ _ _) lq_32 ?_
    generalize G.2.2.2 ((0 : Int32).toNatClampNeg) = x
    obtain ⟨b1, b2⟩ := zand63 x
    generalize x &&& 63 = y at b1 b2 ⊢
    refine r_table (zW_mono _ _ _) lq_33 (fun _ => law_end h8) (fun q1 q2 => ?_)
    rcases (by omega : y.toInt = 0 ∨ y.toInt = 1 ∨ y.toInt = 2 ∨ y.toInt = 3 ∨ y.toInt = 4 ∨ y.toInt = 5 ∨ y.toInt = 6 ∨ y.toInt = 7 ∨ y.toInt = 8 ∨ y.toInt = 9 ∨ y.toInt = 10 ∨ y.toInt = 11 ∨ y.toInt = 12 ∨ y.toInt = 13 ∨ y.toInt = 14 ∨ y.toInt = 15 ∨ y.toInt = 16 ∨ y.toInt = 17 ∨ y.toInt = 18 ∨ y.toInt = 19 ∨ y.toInt = 20 ∨ y.toInt = 21 ∨ y.toInt = 22 ∨ y.toInt = 23 ∨ y.toInt = 24 ∨ y.toInt = 25 ∨ y.toInt = 26 ∨ y.toInt = 27 ∨ y.toInt = 28 ∨ y.toInt = 29 ∨ y.toInt = 30 ∨ y.toInt = 31 ∨ y.toInt = 32 ∨ y.toInt = 33 ∨ y.toInt = 34 ∨ y.toInt = 35 ∨ y.toInt = 36 ∨ y.toInt = 37 ∨ y.toInt = 38 ∨ y.toInt = 39 ∨ y.toInt = 40 ∨ y.toInt = 41 ∨ y.toInt = 42 ∨ y.toInt = 43 ∨ y.toInt = 44 ∨ y.toInt = 45 ∨ y.toInt = 46 ∨ y.toInt = 47) with q | q | q | q | q | q | q | q | q | q | q | q | q | q | q | q | q | q | q | q | q | q | q | q | q | q | q | q | q | q | q | q | q | q | q | q | q | q | q | q | q | q | q | q | q | q | q | q
    · exact ⟨240, by rw [q]; rfl, lawop_clock hG hT h8 hc hn⟩
    · exact ⟨263, by rw [q]; rfl, lawop_person hG hT h8 hc hn⟩
    · exact ⟨286, by rw [q]; rfl, lawop_factor hG hT h8 hc hn⟩
    · exact ⟨319, by rw [q]; rfl, lawop_kind hG hT h8 hc hn⟩
    · exact ⟨372, by rw [q]; rfl, lawop_part hG hT h8 hc hn⟩
    · exact ⟨425, by rw [q]; rfl, lawop_fit hG hT h8 hc hn⟩
    · exact ⟨468, by rw [q]; rfl, lawop_car hG hT h8 hc hn⟩
    · exact ⟨511, by rw [q]; rfl, lawop_sell hG hT h8 hc hn⟩
    · exact ⟨554, by rw [q]; rfl, lawop_owner hG hT h8 hc hn⟩
    · exact ⟨597, by rw [q]; rfl, lawop_cars hG hT h8 hc hn⟩
    · exact ⟨630, by rw [q]; rfl, lawop_force hG hT h8 hc hn⟩
    · exact ⟨663, by rw [q]; rfl, lawop_burns hG hT h8 hc hn⟩
    · exact ⟨726, by rw [q]; rfl, lawop_feed hG hT h8 hc hn⟩
    · exact ⟨789, by rw [q]; rfl, lawop_end hG hT h8 hc hn⟩
    · exact ⟨812, by rw [q]; rfl, lawop_rule hG hT h8 hc hn⟩
    · exact ⟨835, by rw [q]; rfl, lawop_inForce hG hT h8 hc hn⟩
    · exact ⟨858, by rw [q]; rfl, lawop_must hG hT h8 hc hn⟩
    · exact ⟨901, by rw [q]; rfl, lawop_fails hG hT h8 hc hn⟩
    · exact ⟨944, by rw [q]; rfl, lawop_owed hG hT h8 hc hn⟩
    · exact ⟨977, by rw [q]; rfl, lawop_test hG hT h8 hc hn⟩
    · exact ⟨1046, by rw [q]; rfl, lawop_reads hG hT h8 hc hn⟩
    · exact ⟨1079, by rw [q]; rfl, lawop_knew hG hT h8 hc hn⟩
    · exact ⟨1142, by rw [q]; rfl, lawop_knewFails hG hT h8 hc hn⟩
    · exact ⟨1185, by rw [q]; rfl, lawop_crash hG hT h8 hc hn⟩
    · exact ⟨1304, by rw [q]; rfl, lawop_odd hG hT h8 hc hn⟩
    · exact ⟨1327, by rw [q]; rfl, lawop_expected hG hT h8 hc hn⟩
    · exact ⟨1371, by rw [q]; rfl, lawop_memo hG hT h8 hc hn⟩
    · exact ⟨1394, by rw [q]; rfl, lawop_row hG hT h8 hc hn⟩
    · exact ⟨1463, by rw [q]; rfl, lawop_memoSum hG hT h8 hc hn⟩
    · exact ⟨1487, by rw [q]; rfl, lawop_turnsAt hG hT h8 hc hn⟩
    · exact ⟨1531, by rw [q]; rfl, lawop_beside hG hT h8 hc hn⟩
    · exact ⟨1575, by rw [q]; rfl, lawop_step hG hT h8 hc hn⟩
    · exact ⟨1628, by rw [q]; rfl, lawop_steps hG hT h8 hc hn⟩
    · exact ⟨1661, by rw [q]; rfl, lawop_putOff hG hT h8 hc hn⟩
    · exact ⟨1684, by rw [q]; rfl, lawop_change hG hT h8 hc hn⟩
    · exact ⟨1717, by rw [q]; rfl, lawop_cheap hG hT h8 hc hn⟩
    · exact ⟨1750, by rw [q]; rfl, lawop_call hG hT h8 hc hn⟩
    · exact ⟨1803, by rw [q]; rfl, lawop_letters hG hT h8 hc hn⟩
    · exact ⟨1826, by rw [q]; rfl, lawop_reached hG hT h8 hc hn⟩
    · exact ⟨1859, by rw [q]; rfl, lawop_mend hG hT h8 hc hn⟩
    · exact ⟨1892, by rw [q]; rfl, lawop_left hG hT h8 hc hn⟩
    · exact ⟨1925, by rw [q]; rfl, lawop_moves hG hT h8 hc hn⟩
    · exact ⟨1974, by rw [q]; rfl, lawop_jury hG hT h8 hc hn⟩
    · exact ⟨1998, by rw [q]; rfl, lawop_saver hG hT h8 hc hn⟩
    · exact ⟨2031, by rw [q]; rfl, lawop_overlap hG hT h8 hc hn⟩
    · exact ⟨2074, by rw [q]; rfl, lawop_best hG hT h8 hc hn⟩
    · exact ⟨2097, by rw [q]; rfl, lawop_bests hG hT h8 hc hn⟩
    · exact ⟨2120, by rw [q]; rfl, lawop_count hG hT h8 hc hn⟩
  · have h7 : G.2.2.1 = 0 ∨ G.2.2.1 = 1 ∨ G.2.2.1 = 2 ∨ G.2.2.1 = 3 ∨ G.2.2.1 = 4 ∨ G.2.2.1 = 5 ∨ G.2.2.1 = 6 ∨ G.2.2.1 = 7 := by omega
    refine r_icmp_gt (zW_mono _ _ _) lq_24 (fun _ => law_out) (fun q => absurd q ?_)
    rcases h7 with q | q | q | q | q | q | q | q <;> rw [q] <;> decide +kernel
set_option maxHeartbeats 4000000 in
theorem law_run {G : zG} (hG : G.1 = zProg) (hT : G.2.1 = ztx) (hN : G.2.2.1 ≤ 8) : zR zTt G cd_L 600000 7302250 (some .boolean) (zW zTt G 12) (fun w _ => w = some (.int 1)) 0 (zentry [.retAddr 0] 4) [] [] 0 0 := by
  refine r_new (fs := zcls zTt 11) (zW_mono _ _ _) lq_0 rfl (Nat.le_of_ble_eq_true rfl) (Nat.le_of_ble_eq_true rfl) ?_
  refine r_dup (zW_mono _ _ _) lq_3 rfl ?_
  refine r_spec0 (m1 := 110) (m2 := 10850) (zW_mono _ _ _) lq_4 (Nat.le_of_ble_eq_true rfl) (by unfold zbud; rw [hG]; rfl) (Nat.le_of_ble_eq_true rfl) (Nat.le_of_ble_eq_true rfl) ?_
  refine dmet_ok (G := zG0) (G2 := G) hG hT 12 109 [.ref 0] [.inr (11, zcls zTt 11)] none (dH0.take 111) fr_x _ ?_
  refine r_astore (zW_mono _ _ _) lq_7 (Nat.le_of_ble_eq_true rfl) ?_
  refine r_new (fs := zcls zTt 12) (zW_mono _ _ _) lq_8 rfl (Nat.le_of_ble_eq_true rfl) (Nat.le_of_ble_eq_true rfl) ?_
  have hl : (dzH (dH0.take 111)).length = 111 := by rw [dzH_len]; rfl
  rw [hl]
  refine r_dup (zW_mono _ _ _) lq_11 rfl ?_
  refine r_spec0 (m1 := 70) (m2 := 32970) (zW_mono _ _ _) lq_12 (Nat.le_of_ble_eq_true rfl) (by unfold zbud; rw [hG]; rfl) (Nat.le_of_ble_eq_true rfl) (Nat.le_of_ble_eq_true rfl) ?_
  refine zin_dm hG hT fr_m (by rw [dzH_app]; rfl) ?_
  refine r_astore (zW_mono _ _ _) lq_15 (Nat.le_of_ble_eq_true rfl) ?_
  refine r_push (zW_mono _ _ _) lq_16 ?_
  refine r_istore (zW_mono _ _ _) lq_17 (Nat.le_of_ble_eq_true rfl) ?_
  exact law_loop hG hT hN (Nat.le_of_ble_eq_true rfl) (Nat.le_of_ble_eq_true rfl)
