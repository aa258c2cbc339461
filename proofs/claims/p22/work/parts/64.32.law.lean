theorem law_out {G : zG} {L : zL} {h : zH} {c n : Nat} : zR zTt G cd_L 600000 7302250 (some .boolean) (zW zTt G 64) (fun w _ => w = some (.int 1)) 2144 L [] h c n := by
  refine r_push (zW_mono _ _ _) lq_2144 ?_
  exact r_iret (zW_mono _ _ _) lq_2145 rfl (by decide +kernel) rfl
theorem r_popl {tt : zT} {G : zG} {cd : zK} {bc bs : Nat} {rt : Option FieldType} {M : zM} {ret : zQ} {pc nx a b d : Nat} {L : zL} {s : List Value} {h : zH} {c n : Nat} {v w : Value} (hM : zmono M) (hc : cd[pc]? = some (some (.drem, nx, a, b, d, v))) (hw : w.category = 2) (k : zR tt G cd bc bs rt M ret nx L s h c n) : zR tt G cd bc bs rt M ret pc L (w :: s) h c n := zR.step hM (by unfold zstep; rw [hc]; exact Or.inl ⟨hw, k⟩)
theorem zsx {x : Int32} {N : Nat} (h0 : 0 ≤ x.toInt) (h1 : x.toInt + 8 ≤ N) (hN : N ≤ 4096) (k : Int32) (hk0 : 0 ≤ k.toInt) (hk : k.toInt < 8) : vp_in (x + k) N := by
  have e : (x + k).toInt = x.toInt + k.toInt := by
    rw [Int32.toInt_add]
    exact Int.bmod_eq_of_le (by show (-2147483648 : Int) ≤ _; omega) (by show _ < (2147483648 : Int); omega)
  exact (yvp_in (i := x + k) (by omega) (by omega)).1
theorem zsx0 {x : Int32} {N : Nat} (h0 : 0 ≤ x.toInt) (h1 : x.toInt + 8 ≤ N) : vp_in x N := (yvp_in (i := x) (by omega) (by omega)).1
set_option maxHeartbeats 1000000 in
theorem lawop_clock {G : zG} (hG : G.1 = zProg) (hN : G.2.2.1 ≤ 4096) {P : zH → Prop} {h : zH} {x : Int32} {q : Nat} (hx : x.toInt = 8 * q) (hq : 8 * q + 8 ≤ G.2.2.1) {c n : Nat} (hc : c ≤ 182 + 8 * q) (hn : n ≤ 43931 + 800 * q) (h0 : ∃ fs, h[0]? = some (.inr (11, fs))) (A : ∀ xs, zpB [zfI] xs → zW zTt G 64 110 (.ref 0 :: xs.map Value.int) h (fun w h2 => zTy 0 w ∧ (∃ fs, h2[111]? = some (.inr (12, fs))) ∧ zW zTt G 64 174 (.ref 111 :: xs.map Value.int) h2 (fun w2 h3 => zTy 0 w2 ∧ (false = true → w2 = w) ∧ P h3))) (K : ∀ h3 c n, P h3 → c ≤ 182 + 8 * (q + 1) → n ≤ 43931 + 800 * (q + 1) → zR zTt G cd_L 600000 7302250 (some .boolean) (zW zTt G 64) (fun w _ => w = some (.int 1)) 2138 [some (.retAddr 0), some (.ref 0), some (.ref 111), some (.int x)] [] h3 c n) : zR zTt G cd_L 600000 7302250 (some .boolean) (zW zTt G 64) (fun w _ => w = some (.int 1)) 240 [some (.retAddr 0), some (.ref 0), some (.ref 111), some (.int x)] [] h c n := by
  have hx0 : 0 ≤ x.toInt := by omega
  have hx8 : x.toInt + 8 ≤ G.2.2.1 := by omega
  obtain ⟨fs0, hx_0⟩ := h0
  refine r_aload (zW_mono _ _ _) lq_240 rfl ?_
  refine r_aloadS (zW_mono _ _ _) lq_241 rfl ?_
  refine r_iload (zW_mono _ _ _) lq_242 rfl ?_
  refine r_push (zW_mono _ _ _) lq_243 ?_
  refine r_iadd (zW_mono _ _ _) lq_244 ?_
  refine r_sld (zW_mono _ _ _) lq_245 (zsx hx0 hx8 hN 1 (by decide) (by decide)) ?_
  refine r_virt1 (m1 := 0) (m2 := 0) (zW_mono _ _ _) lq_246 hx_0 (Nat.le_of_ble_eq_true rfl) (by unfold zbud; rw [hG]; rfl) (by omega) (by omega) ?_
  refine zW_mono zTt G 64 _ _ _ _ _ ?_ (A [G.2.2.2 (x + 1).toNatClampNeg] ⟨zfI_ok _, trivial⟩)
  rintro w h2 ⟨⟨x9, rfl⟩, ⟨fs9, hr9⟩, k9⟩
  refine r_pop (zW_mono _ _ _) lq_249 rfl ?_
  refine r_aload (zW_mono _ _ _) lq_250 rfl ?_
  refine r_aloadS (zW_mono _ _ _) lq_251 rfl ?_
  refine r_iload (zW_mono _ _ _) lq_252 rfl ?_
  refine r_push (zW_mono _ _ _) lq_253 ?_
  refine r_iadd (zW_mono _ _ _) lq_254 ?_
  refine r_sld (zW_mono _ _ _) lq_255 (zsx hx0 hx8 hN 1 (by decide) (by decide)) ?_
  refine r_virt1 (m1 := 0) (m2 := 0) (zW_mono _ _ _) lq_256 hr9 (Nat.le_of_ble_eq_true rfl) (by unfold zbud; rw [hG]; rfl) (by omega) (by omega) ?_
  refine zW_mono zTt G 64 _ _ _ _ _ ?_ k9
  rintro w h3 ⟨⟨y9, rfl⟩, e9, p9⟩
  refine r_pop (zW_mono _ _ _) lq_259 rfl ?_
  refine r_goto (zW_mono _ _ _) lq_260 ?_
  exact K h3 _ _ p9 (by omega) (by omega)
set_option maxHeartbeats 1000000 in
theorem lawop_person {G : zG} (hG : G.1 = zProg) (hN : G.2.2.1 ≤ 4096) {P : zH → Prop} {h : zH} {x : Int32} {q : Nat} (hx : x.toInt = 8 * q) (hq : 8 * q + 8 ≤ G.2.2.1) {c n : Nat} (hc : c ≤ 182 + 8 * q) (hn : n ≤ 43931 + 800 * q) (h0 : ∃ fs, h[0]? = some (.inr (11, fs))) (A : ∀ xs, zpB [zfI] xs → zW zTt G 64 111 (.ref 0 :: xs.map Value.int) h (fun w h2 => zTy 0 w ∧ (∃ fs, h2[111]? = some (.inr (12, fs))) ∧ zW zTt G 64 179 (.ref 111 :: xs.map Value.int) h2 (fun w2 h3 => zTy 0 w2 ∧ (false = true → w2 = w) ∧ P h3))) (K : ∀ h3 c n, P h3 → c ≤ 182 + 8 * (q + 1) → n ≤ 43931 + 800 * (q + 1) → zR zTt G cd_L 600000 7302250 (some .boolean) (zW zTt G 64) (fun w _ => w = some (.int 1)) 2138 [some (.retAddr 0), some (.ref 0), some (.ref 111), some (.int x)] [] h3 c n) : zR zTt G cd_L 600000 7302250 (some .boolean) (zW zTt G 64) (fun w _ => w = some (.int 1)) 263 [some (.retAddr 0), some (.ref 0), some (.ref 111), some (.int x)] [] h c n := by
  have hx0 : 0 ≤ x.toInt := by omega
  have hx8 : x.toInt + 8 ≤ G.2.2.1 := by omega
  obtain ⟨fs0, hx_0⟩ := h0
  refine r_aload (zW_mono _ _ _) lq_263 rfl ?_
  refine r_aloadS (zW_mono _ _ _) lq_264 rfl ?_
  refine r_iload (zW_mono _ _ _) lq_265 rfl ?_
  refine r_push (zW_mono _ _ _) lq_266 ?_
  refine r_iadd (zW_mono _ _ _) lq_267 ?_
  refine r_sld (zW_mono _ _ _) lq_268 (zsx hx0 hx8 hN 1 (by decide) (by decide)) ?_
  refine r_virt1 (m1 := 0) (m2 := 0) (zW_mono _ _ _) lq_269 hx_0 (Nat.le_of_ble_eq_true rfl) (by unfold zbud; rw [hG]; rfl) (by omega) (by omega) ?_
  refine zW_mono zTt G 64 _ _ _ _ _ ?_ (A [G.2.2.2 (x + 1).toNatClampNeg] ⟨zfI_ok _, trivial⟩)
  rintro w h2 ⟨⟨x9, rfl⟩, ⟨fs9, hr9⟩, k9⟩
  refine r_pop (zW_mono _ _ _) lq_272 rfl ?_
  refine r_aload (zW_mono _ _ _) lq_273 rfl ?_
  refine r_aloadS (zW_mono _ _ _) lq_274 rfl ?_
  refine r_iload (zW_mono _ _ _) lq_275 rfl ?_
  refine r_push (zW_mono _ _ _) lq_276 ?_
  refine r_iadd (zW_mono _ _ _) lq_277 ?_
  refine r_sld (zW_mono _ _ _) lq_278 (zsx hx0 hx8 hN 1 (by decide) (by decide)) ?_
  refine r_virt1 (m1 := 0) (m2 := 0) (zW_mono _ _ _) lq_279 hr9 (Nat.le_of_ble_eq_true rfl) (by unfold zbud; rw [hG]; rfl) (by omega) (by omega) ?_
  refine zW_mono zTt G 64 _ _ _ _ _ ?_ k9
  rintro w h3 ⟨⟨y9, rfl⟩, e9, p9⟩
  refine r_pop (zW_mono _ _ _) lq_282 rfl ?_
  refine r_goto (zW_mono _ _ _) lq_283 ?_
  exact K h3 _ _ p9 (by omega) (by omega)
set_option maxHeartbeats 1000000 in
theorem lawop_factor {G : zG} (hG : G.1 = zProg) (hN : G.2.2.1 ≤ 4096) {P : zH → Prop} {h : zH} {x : Int32} {q : Nat} (hx : x.toInt = 8 * q) (hq : 8 * q + 8 ≤ G.2.2.1) {c n : Nat} (hc : c ≤ 182 + 8 * q) (hn : n ≤ 43931 + 800 * q) (h0 : ∃ fs, h[0]? = some (.inr (11, fs))) (A : ∀ xs, zpB [zfI, zfI] xs → zW zTt G 64 112 (.ref 0 :: xs.map Value.int) h (fun w h2 => zTy 0 w ∧ (∃ fs, h2[111]? = some (.inr (12, fs))) ∧ zW zTt G 64 180 (.ref 111 :: xs.map Value.int) h2 (fun w2 h3 => zTy 0 w2 ∧ (false = true → w2 = w) ∧ P h3))) (K : ∀ h3 c n, P h3 → c ≤ 182 + 8 * (q + 1) → n ≤ 43931 + 800 * (q + 1) → zR zTt G cd_L 600000 7302250 (some .boolean) (zW zTt G 64) (fun w _ => w = some (.int 1)) 2138 [some (.retAddr 0), some (.ref 0), some (.ref 111), some (.int x)] [] h3 c n) : zR zTt G cd_L 600000 7302250 (some .boolean) (zW zTt G 64) (fun w _ => w = some (.int 1)) 286 [some (.retAddr 0), some (.ref 0), some (.ref 111), some (.int x)] [] h c n := by
  have hx0 : 0 ≤ x.toInt := by omega
  have hx8 : x.toInt + 8 ≤ G.2.2.1 := by omega
  obtain ⟨fs0, hx_0⟩ := h0
  refine r_aload (zW_mono _ _ _) lq_286 rfl ?_
  refine r_aloadS (zW_mono _ _ _) lq_287 rfl ?_
  refine r_iload (zW_mono _ _ _) lq_288 rfl ?_
  refine r_push (zW_mono _ _ _) lq_289 ?_
  refine r_iadd (zW_mono _ _ _) lq_290 ?_
  refine r_sld (zW_mono _ _ _) lq_291 (zsx hx0 hx8 hN 1 (by decide) (by decide)) ?_
  refine r_aloadS (zW_mono _ _ _) lq_292 rfl ?_
  refine r_iload (zW_mono _ _ _) lq_293 rfl ?_
  refine r_push (zW_mono _ _ _) lq_294 ?_
  refine r_iadd (zW_mono _ _ _) lq_295 ?_
  refine r_sld (zW_mono _ _ _) lq_296 (zsx hx0 hx8 hN 2 (by decide) (by decide)) ?_
  refine r_virt2 (m1 := 0) (m2 := 0) (zW_mono _ _ _) lq_297 hx_0 (Nat.le_of_ble_eq_true rfl) (by unfold zbud; rw [hG]; rfl) (by omega) (by omega) ?_
  refine zW_mono zTt G 64 _ _ _ _ _ ?_ (A [G.2.2.2 (x + 1).toNatClampNeg, G.2.2.2 (x + 2).toNatClampNeg] ⟨zfI_ok _, zfI_ok _, trivial⟩)
  rintro w h2 ⟨⟨x9, rfl⟩, ⟨fs9, hr9⟩, k9⟩
  refine r_pop (zW_mono _ _ _) lq_300 rfl ?_
  refine r_aload (zW_mono _ _ _) lq_301 rfl ?_
  refine r_aloadS (zW_mono _ _ _) lq_302 rfl ?_
  refine r_iload (zW_mono _ _ _) lq_303 rfl ?_
  refine r_push (zW_mono _ _ _) lq_304 ?_
  refine r_iadd (zW_mono _ _ _) lq_305 ?_
  refine r_sld (zW_mono _ _ _) lq_306 (zsx hx0 hx8 hN 1 (by decide) (by decide)) ?_
  refine r_aloadS (zW_mono _ _ _) lq_307 rfl ?_
  refine r_iload (zW_mono _ _ _) lq_308 rfl ?_
  refine r_push (zW_mono _ _ _) lq_309 ?_
  refine r_iadd (zW_mono _ _ _) lq_310 ?_
  refine r_sld (zW_mono _ _ _) lq_311 (zsx hx0 hx8 hN 2 (by decide) (by decide)) ?_
  refine r_virt2 (m1 := 0) (m2 := 0) (zW_mono _ _ _) lq_312 hr9 (Nat.le_of_ble_eq_true rfl) (by unfold zbud; rw [hG]; rfl) (by omega) (by omega) ?_
  refine zW_mono zTt G 64 _ _ _ _ _ ?_ k9
  rintro w h3 ⟨⟨y9, rfl⟩, e9, p9⟩
  refine r_pop (zW_mono _ _ _) lq_315 rfl ?_
  refine r_goto (zW_mono _ _ _) lq_316 ?_
  exact K h3 _ _ p9 (by omega) (by omega)
set_option maxHeartbeats 1000000 in
theorem lawop_kind {G : zG} (hG : G.1 = zProg) (hN : G.2.2.1 ≤ 4096) {P : zH → Prop} {h : zH} {x : Int32} {q : Nat} (hx : x.toInt = 8 * q) (hq : 8 * q + 8 ≤ G.2.2.1) {c n : Nat} (hc : c ≤ 182 + 8 * q) (hn : n ≤ 43931 + 800 * q) (h0 : ∃ fs, h[0]? = some (.inr (11, fs))) (A : ∀ xs, zpB [zfI, zfI, zfI, zfI] xs → zW zTt G 64 113 (.ref 0 :: xs.map Value.int) h (fun w h2 => zTy 0 w ∧ (∃ fs, h2[111]? = some (.inr (12, fs))) ∧ zW zTt G 64 181 (.ref 111 :: xs.map Value.int) h2 (fun w2 h3 => zTy 0 w2 ∧ (false = true → w2 = w) ∧ P h3))) (K : ∀ h3 c n, P h3 → c ≤ 182 + 8 * (q + 1) → n ≤ 43931 + 800 * (q + 1) → zR zTt G cd_L 600000 7302250 (some .boolean) (zW zTt G 64) (fun w _ => w = some (.int 1)) 2138 [some (.retAddr 0), some (.ref 0), some (.ref 111), some (.int x)] [] h3 c n) : zR zTt G cd_L 600000 7302250 (some .boolean) (zW zTt G 64) (fun w _ => w = some (.int 1)) 319 [some (.retAddr 0), some (.ref 0), some (.ref 111), some (.int x)] [] h c n := by
  have hx0 : 0 ≤ x.toInt := by omega
  have hx8 : x.toInt + 8 ≤ G.2.2.1 := by omega
  obtain ⟨fs0, hx_0⟩ := h0
  refine r_aload (zW_mono _ _ _) lq_319 rfl ?_
  refine r_aloadS (zW_mono _ _ _) lq_320 rfl ?_
  refine r_iload (zW_mono _ _ _) lq_321 rfl ?_
  refine r_push (zW_mono _ _ _) lq_322 ?_
  refine r_iadd (zW_mono _ _ _) lq_323 ?_
  refine r_sld (zW_mono _ _ _) lq_324 (zsx hx0 hx8 hN 1 (by decide) (by decide)) ?_
  refine r_aloadS (zW_mono _ _ _) lq_325 rfl ?_
  refine r_iload (zW_mono _ _ _) lq_326 rfl ?_
  refine r_push (zW_mono _ _ _) lq_327 ?_
  refine r_iadd (zW_mono _ _ _) lq_328 ?_
  refine r_sld (zW_mono _ _ _) lq_329 (zsx hx0 hx8 hN 2 (by decide) (by decide)) ?_
  refine r_aloadS (zW_mono _ _ _) lq_330 rfl ?_
  refine r_iload (zW_mono _ _ _) lq_331 rfl ?_
  refine r_push (zW_mono _ _ _) lq_332 ?_
  refine r_iadd (zW_mono _ _ _) lq_333 ?_
  refine r_sld (zW_mono _ _ _) lq_334 (zsx hx0 hx8 hN 3 (by decide) (by decide)) ?_
  refine r_aloadS (zW_mono _ _ _) lq_335 rfl ?_
  refine r_iload (zW_mono _ _ _) lq_336 rfl ?_
  refine r_push (zW_mono _ _ _) lq_337 ?_
  refine r_iadd (zW_mono _ _ _) lq_338 ?_
  refine r_sld (zW_mono _ _ _) lq_339 (zsx hx0 hx8 hN 4 (by decide) (by decide)) ?_
  refine r_virt4 (m1 := 0) (m2 := 0) (zW_mono _ _ _) lq_340 hx_0 (Nat.le_of_ble_eq_true rfl) (by unfold zbud; rw [hG]; rfl) (by omega) (by omega) ?_
  refine zW_mono zTt G 64 _ _ _ _ _ ?_ (A [G.2.2.2 (x + 1).toNatClampNeg, G.2.2.2 (x + 2).toNatClampNeg, G.2.2.2 (x + 3).toNatClampNeg, G.2.2.2 (x + 4).toNatClampNeg] ⟨zfI_ok _, zfI_ok _, zfI_ok _, zfI_ok _, trivial⟩)
  rintro w h2 ⟨⟨x9, rfl⟩, ⟨fs9, hr9⟩, k9⟩
  refine r_pop (zW_mono _ _ _) lq_343 rfl ?_
  refine r_aload (zW_mono _ _ _) lq_344 rfl ?_
  refine r_aloadS (zW_mono _ _ _) lq_345 rfl ?_
  refine r_iload (zW_mono _ _ _) lq_346 rfl ?_
  refine r_push (zW_mono _ _ _) lq_347 ?_
  refine r_iadd (zW_mono _ _ _) lq_348 ?_
  refine r_sld (zW_mono _ _ _) lq_349 (zsx hx0 hx8 hN 1 (by decide) (by decide)) ?_
  refine r_aloadS (zW_mono _ _ _) lq_350 rfl ?_
  refine r_iload (zW_mono _ _ _) lq_351 rfl ?_
  refine r_push (zW_mono _ _ _) lq_352 ?_
  refine r_iadd (zW_mono _ _ _) lq_353 ?_
  refine r_sld (zW_mono _ _ _) lq_354 (zsx hx0 hx8 hN 2 (by decide) (by decide)) ?_
  refine r_aloadS (zW_mono _ _ _) lq_355 rfl ?_
  refine r_iload (zW_mono _ _ _) lq_356 rfl ?_
  refine r_push (zW_mono _ _ _) lq_357 ?_
  refine r_iadd (zW_mono _ _ _) lq_358 ?_
  refine r_sld (zW_mono _ _ _) lq_359 (zsx hx0 hx8 hN 3 (by decide) (by decide)) ?_
  refine r_aloadS (zW_mono _ _ _) lq_360 rfl ?_
  refine r_iload (zW_mono _ _ _) lq_361 rfl ?_
  refine r_push (zW_mono _ _ _) lq_362 ?_
  refine r_iadd (zW_mono _ _ _) lq_363 ?_
  refine r_sld (zW_mono _ _ _) lq_364 (zsx hx0 hx8 hN 4 (by decide) (by decide)) ?_
  refine r_virt4 (m1 := 0) (m2 := 0) (zW_mono _ _ _) lq_365 hr9 (Nat.le_of_ble_eq_true rfl) (by unfold zbud; rw [hG]; rfl) (by omega) (by omega) ?_
  refine zW_mono zTt G 64 _ _ _ _ _ ?_ k9
  rintro w h3 ⟨⟨y9, rfl⟩, e9, p9⟩
  refine r_pop (zW_mono _ _ _) lq_368 rfl ?_
  refine r_goto (zW_mono _ _ _) lq_369 ?_
  exact K h3 _ _ p9 (by omega) (by omega)
set_option maxHeartbeats 1000000 in
theorem lawop_part {G : zG} (hG : G.1 = zProg) (hN : G.2.2.1 ≤ 4096) {P : zH → Prop} {h : zH} {x : Int32} {q : Nat} (hx : x.toInt = 8 * q) (hq : 8 * q + 8 ≤ G.2.2.1) {c n : Nat} (hc : c ≤ 182 + 8 * q) (hn : n ≤ 43931 + 800 * q) (h0 : ∃ fs, h[0]? = some (.inr (11, fs))) (A : ∀ xs, zpB [zfI, zfI, zfI, zfI] xs → zW zTt G 64 114 (.ref 0 :: xs.map Value.int) h (fun w h2 => zTy 0 w ∧ (∃ fs, h2[111]? = some (.inr (12, fs))) ∧ zW zTt G 64 182 (.ref 111 :: xs.map Value.int) h2 (fun w2 h3 => zTy 0 w2 ∧ (false = true → w2 = w) ∧ P h3))) (K : ∀ h3 c n, P h3 → c ≤ 182 + 8 * (q + 1) → n ≤ 43931 + 800 * (q + 1) → zR zTt G cd_L 600000 7302250 (some .boolean) (zW zTt G 64) (fun w _ => w = some (.int 1)) 2138 [some (.retAddr 0), some (.ref 0), some (.ref 111), some (.int x)] [] h3 c n) : zR zTt G cd_L 600000 7302250 (some .boolean) (zW zTt G 64) (fun w _ => w = some (.int 1)) 372 [some (.retAddr 0), some (.ref 0), some (.ref 111), some (.int x)] [] h c n := by
  have hx0 : 0 ≤ x.toInt := by omega
  have hx8 : x.toInt + 8 ≤ G.2.2.1 := by omega
  obtain ⟨fs0, hx_0⟩ := h0
  refine r_aload (zW_mono _ _ _) lq_372 rfl ?_
  refine r_aloadS (zW_mono _ _ _) lq_373 rfl ?_
  refine r_iload (zW_mono _ _ _) lq_374 rfl ?_
  refine r_push (zW_mono _ _ _) lq_375 ?_
  refine r_iadd (zW_mono _ _ _) lq_376 ?_
  refine r_sld (zW_mono _ _ _) lq_377 (zsx hx0 hx8 hN 1 (by decide) (by decide)) ?_
  refine r_aloadS (zW_mono _ _ _) lq_378 rfl ?_
  refine r_iload (zW_mono _ _ _) lq_379 rfl ?_
  refine r_push (zW_mono _ _ _) lq_380 ?_
  refine r_iadd (zW_mono _ _ _) lq_381 ?_
  refine r_sld (zW_mono _ _ _) lq_382 (zsx hx0 hx8 hN 2 (by decide) (by decide)) ?_
  refine r_aloadS (zW_mono _ _ _) lq_383 rfl ?_
  refine r_iload (zW_mono _ _ _) lq_384 rfl ?_
  refine r_push (zW_mono _ _ _) lq_385 ?_
  refine r_iadd (zW_mono _ _ _) lq_386 ?_
  refine r_sld (zW_mono _ _ _) lq_387 (zsx hx0 hx8 hN 3 (by decide) (by decide)) ?_
  refine r_aloadS (zW_mono _ _ _) lq_388 rfl ?_
  refine r_iload (zW_mono _ _ _) lq_389 rfl ?_
  refine r_push (zW_mono _ _ _) lq_390 ?_
  refine r_iadd (zW_mono _ _ _) lq_391 ?_
  refine r_sld (zW_mono _ _ _) lq_392 (zsx hx0 hx8 hN 4 (by decide) (by decide)) ?_
  refine r_virt4 (m1 := 0) (m2 := 0) (zW_mono _ _ _) lq_393 hx_0 (Nat.le_of_ble_eq_true rfl) (by unfold zbud; rw [hG]; rfl) (by omega) (by omega) ?_
  refine zW_mono zTt G 64 _ _ _ _ _ ?_ (A [G.2.2.2 (x + 1).toNatClampNeg, G.2.2.2 (x + 2).toNatClampNeg, G.2.2.2 (x + 3).toNatClampNeg, G.2.2.2 (x + 4).toNatClampNeg] ⟨zfI_ok _, zfI_ok _, zfI_ok _, zfI_ok _, trivial⟩)
  rintro w h2 ⟨⟨x9, rfl⟩, ⟨fs9, hr9⟩, k9⟩
  refine r_pop (zW_mono _ _ _) lq_396 rfl ?_
  refine r_aload (zW_mono _ _ _) lq_397 rfl ?_
  refine r_aloadS (zW_mono _ _ _) lq_398 rfl ?_
  refine r_iload (zW_mono _ _ _) lq_399 rfl ?_
  refine r_push (zW_mono _ _ _) lq_400 ?_
  refine r_iadd (zW_mono _ _ _) lq_401 ?_
  refine r_sld (zW_mono _ _ _) lq_402 (zsx hx0 hx8 hN 1 (by decide) (by decide)) ?_
  refine r_aloadS (zW_mono _ _ _) lq_403 rfl ?_
  refine r_iload (zW_mono _ _ _) lq_404 rfl ?_
  refine r_push (zW_mono _ _ _) lq_405 ?_
  refine r_iadd (zW_mono _ _ _) lq_406 ?_
  refine r_sld (zW_mono _ _ _) lq_407 (zsx hx0 hx8 hN 2 (by decide) (by decide)) ?_
  refine r_aloadS (zW_mono _ _ _) lq_408 rfl ?_
  refine r_iload (zW_mono _ _ _) lq_409 rfl ?_
  refine r_push (zW_mono _ _ _) lq_410 ?_
  refine r_iadd (zW_mono _ _ _) lq_411 ?_
  refine r_sld (zW_mono _ _ _) lq_412 (zsx hx0 hx8 hN 3 (by decide) (by decide)) ?_
  refine r_aloadS (zW_mono _ _ _) lq_413 rfl ?_
  refine r_iload (zW_mono _ _ _) lq_414 rfl ?_
  refine r_push (zW_mono _ _ _) lq_415 ?_
  refine r_iadd (zW_mono _ _ _) lq_416 ?_
  refine r_sld (zW_mono _ _ _) lq_417 (zsx hx0 hx8 hN 4 (by decide) (by decide)) ?_
  refine r_virt4 (m1 := 0) (m2 := 0) (zW_mono _ _ _) lq_418 hr9 (Nat.le_of_ble_eq_true rfl) (by unfold zbud; rw [hG]; rfl) (by omega) (by omega) ?_
  refine zW_mono zTt G 64 _ _ _ _ _ ?_ k9
  rintro w h3 ⟨⟨y9, rfl⟩, e9, p9⟩
  refine r_pop (zW_mono _ _ _) lq_421 rfl ?_
  refine r_goto (zW_mono _ _ _) lq_422 ?_
  exact K h3 _ _ p9 (by omega) (by omega)
set_option maxHeartbeats 1000000 in
theorem lawop_fit {G : zG} (hG : G.1 = zProg) (hN : G.2.2.1 ≤ 4096) {P : zH → Prop} {h : zH} {x : Int32} {q : Nat} (hx : x.toInt = 8 * q) (hq : 8 * q + 8 ≤ G.2.2.1) {c n : Nat} (hc : c ≤ 182 + 8 * q) (hn : n ≤ 43931 + 800 * q) (h0 : ∃ fs, h[0]? = some (.inr (11, fs))) (A : ∀ xs, zpB [zfI, zfI, zfI] xs → zW zTt G 64 115 (.ref 0 :: xs.map Value.int) h (fun w h2 => zTy 0 w ∧ (∃ fs, h2[111]? = some (.inr (12, fs))) ∧ zW zTt G 64 183 (.ref 111 :: xs.map Value.int) h2 (fun w2 h3 => zTy 0 w2 ∧ (false = true → w2 = w) ∧ P h3))) (K : ∀ h3 c n, P h3 → c ≤ 182 + 8 * (q + 1) → n ≤ 43931 + 800 * (q + 1) → zR zTt G cd_L 600000 7302250 (some .boolean) (zW zTt G 64) (fun w _ => w = some (.int 1)) 2138 [some (.retAddr 0), some (.ref 0), some (.ref 111), some (.int x)] [] h3 c n) : zR zTt G cd_L 600000 7302250 (some .boolean) (zW zTt G 64) (fun w _ => w = some (.int 1)) 425 [some (.retAddr 0), some (.ref 0), some (.ref 111), some (.int x)] [] h c n := by
  have hx0 : 0 ≤ x.toInt := by omega
  have hx8 : x.toInt + 8 ≤ G.2.2.1 := by omega
  obtain ⟨fs0, hx_0⟩ := h0
  refine r_aload (zW_mono _ _ _) lq_425 rfl ?_
  refine r_aloadS (zW_mono _ _ _) lq_426 rfl ?_
  refine r_iload (zW_mono _ _ _) lq_427 rfl ?_
  refine r_push (zW_mono _ _ _) lq_428 ?_
  refine r_iadd (zW_mono _ _ _) lq_429 ?_
  refine r_sld (zW_mono _ _ _) lq_430 (zsx hx0 hx8 hN 1 (by decide) (by decide)) ?_
  refine r_aloadS (zW_mono _ _ _) lq_431 rfl ?_
  refine r_iload (zW_mono _ _ _) lq_432 rfl ?_
  refine r_push (zW_mono _ _ _) lq_433 ?_
  refine r_iadd (zW_mono _ _ _) lq_434 ?_
  refine r_sld (zW_mono _ _ _) lq_435 (zsx hx0 hx8 hN 2 (by decide) (by decide)) ?_
  refine r_aloadS (zW_mono _ _ _) lq_436 rfl ?_
  refine r_iload (zW_mono _ _ _) lq_437 rfl ?_
  refine r_push (zW_mono _ _ _) lq_438 ?_
  refine r_iadd (zW_mono _ _ _) lq_439 ?_
  refine r_sld (zW_mono _ _ _) lq_440 (zsx hx0 hx8 hN 3 (by decide) (by decide)) ?_
  refine r_virt3 (m1 := 0) (m2 := 0) (zW_mono _ _ _) lq_441 hx_0 (Nat.le_of_ble_eq_true rfl) (by unfold zbud; rw [hG]; rfl) (by omega) (by omega) ?_
  refine zW_mono zTt G 64 _ _ _ _ _ ?_ (A [G.2.2.2 (x + 1).toNatClampNeg, G.2.2.2 (x + 2).toNatClampNeg, G.2.2.2 (x + 3).toNatClampNeg] ⟨zfI_ok _, zfI_ok _, zfI_ok _, trivial⟩)
  rintro w h2 ⟨⟨x9, rfl⟩, ⟨fs9, hr9⟩, k9⟩
  refine r_pop (zW_mono _ _ _) lq_444 rfl ?_
  refine r_aload (zW_mono _ _ _) lq_445 rfl ?_
  refine r_aloadS (zW_mono _ _ _) lq_446 rfl ?_
  refine r_iload (zW_mono _ _ _) lq_447 rfl ?_
  refine r_push (zW_mono _ _ _) lq_448 ?_
  refine r_iadd (zW_mono _ _ _) lq_449 ?_
  refine r_sld (zW_mono _ _ _) lq_450 (zsx hx0 hx8 hN 1 (by decide) (by decide)) ?_
  refine r_aloadS (zW_mono _ _ _) lq_451 rfl ?_
  refine r_iload (zW_mono _ _ _) lq_452 rfl ?_
  refine r_push (zW_mono _ _ _) lq_453 ?_
  refine r_iadd (zW_mono _ _ _) lq_454 ?_
  refine r_sld (zW_mono _ _ _) lq_455 (zsx hx0 hx8 hN 2 (by decide) (by decide)) ?_
  refine r_aloadS (zW_mono _ _ _) lq_456 rfl ?_
  refine r_iload (zW_mono _ _ _) lq_457 rfl ?_
  refine r_push (zW_mono _ _ _) lq_458 ?_
  refine r_iadd (zW_mono _ _ _) lq_459 ?_
  refine r_sld (zW_mono _ _ _) lq_460 (zsx hx0 hx8 hN 3 (by decide) (by decide)) ?_
  refine r_virt3 (m1 := 0) (m2 := 0) (zW_mono _ _ _) lq_461 hr9 (Nat.le_of_ble_eq_true rfl) (by unfold zbud; rw [hG]; rfl) (by omega) (by omega) ?_
  refine zW_mono zTt G 64 _ _ _ _ _ ?_ k9
  rintro w h3 ⟨⟨y9, rfl⟩, e9, p9⟩
  refine r_pop (zW_mono _ _ _) lq_464 rfl ?_
  refine r_goto (zW_mono _ _ _) lq_465 ?_
  exact K h3 _ _ p9 (by omega) (by omega)
set_option maxHeartbeats 1000000 in
theorem lawop_car {G : zG} (hG : G.1 = zProg) (hN : G.2.2.1 ≤ 4096) {P : zH → Prop} {h : zH} {x : Int32} {q : Nat} (hx : x.toInt = 8 * q) (hq : 8 * q + 8 ≤ G.2.2.1) {c n : Nat} (hc : c ≤ 182 + 8 * q) (hn : n ≤ 43931 + 800 * q) (h0 : ∃ fs, h[0]? = some (.inr (11, fs))) (A : ∀ xs, zpB [zfI, zfI, zfI] xs → zW zTt G 64 116 (.ref 0 :: xs.map Value.int) h (fun w h2 => zTy 0 w ∧ (∃ fs, h2[111]? = some (.inr (12, fs))) ∧ zW zTt G 64 184 (.ref 111 :: xs.map Value.int) h2 (fun w2 h3 => zTy 0 w2 ∧ (false = true → w2 = w) ∧ P h3))) (K : ∀ h3 c n, P h3 → c ≤ 182 + 8 * (q + 1) → n ≤ 43931 + 800 * (q + 1) → zR zTt G cd_L 600000 7302250 (some .boolean) (zW zTt G 64) (fun w _ => w = some (.int 1)) 2138 [some (.retAddr 0), some (.ref 0), some (.ref 111), some (.int x)] [] h3 c n) : zR zTt G cd_L 600000 7302250 (some .boolean) (zW zTt G 64) (fun w _ => w = some (.int 1)) 468 [some (.retAddr 0), some (.ref 0), some (.ref 111), some (.int x)] [] h c n := by
  have hx0 : 0 ≤ x.toInt := by omega
  have hx8 : x.toInt + 8 ≤ G.2.2.1 := by omega
  obtain ⟨fs0, hx_0⟩ := h0
  refine r_aload (zW_mono _ _ _) lq_468 rfl ?_
  refine r_aloadS (zW_mono _ _ _) lq_469 rfl ?_
  refine r_iload (zW_mono _ _ _) lq_470 rfl ?_
  refine r_push (zW_mono _ _ _) lq_471 ?_
  refine r_iadd (zW_mono _ _ _) lq_472 ?_
  refine r_sld (zW_mono _ _ _) lq_473 (zsx hx0 hx8 hN 1 (by decide) (by decide)) ?_
  refine r_aloadS (zW_mono _ _ _) lq_474 rfl ?_
  refine r_iload (zW_mono _ _ _) lq_475 rfl ?_
  refine r_push (zW_mono _ _ _) lq_476 ?_
  refine r_iadd (zW_mono _ _ _) lq_477 ?_
  refine r_sld (zW_mono _ _ _) lq_478 (zsx hx0 hx8 hN 2 (by decide) (by decide)) ?_
  refine r_aloadS (zW_mono _ _ _) lq_479 rfl ?_
  refine r_iload (zW_mono _ _ _) lq_480 rfl ?_
  refine r_push (zW_mono _ _ _) lq_481 ?_
  refine r_iadd (zW_mono _ _ _) lq_482 ?_
  refine r_sld (zW_mono _ _ _) lq_483 (zsx hx0 hx8 hN 3 (by decide) (by decide)) ?_
  refine r_virt3 (m1 := 2) (m2 := 23) (zW_mono _ _ _) lq_484 hx_0 (Nat.le_of_ble_eq_true rfl) (by unfold zbud; rw [hG]; rfl) (by omega) (by omega) ?_
  refine zW_mono zTt G 64 _ _ _ _ _ ?_ (A [G.2.2.2 (x + 1).toNatClampNeg, G.2.2.2 (x + 2).toNatClampNeg, G.2.2.2 (x + 3).toNatClampNeg] ⟨zfI_ok _, zfI_ok _, zfI_ok _, trivial⟩)
  rintro w h2 ⟨⟨x9, rfl⟩, ⟨fs9, hr9⟩, k9⟩
  refine r_pop (zW_mono _ _ _) lq_487 rfl ?_
  refine r_aload (zW_mono _ _ _) lq_488 rfl ?_
  refine r_aloadS (zW_mono _ _ _) lq_489 rfl ?_
  refine r_iload (zW_mono _ _ _) lq_490 rfl ?_
  refine r_push (zW_mono _ _ _) lq_491 ?_
  refine r_iadd (zW_mono _ _ _) lq_492 ?_
  refine r_sld (zW_mono _ _ _) lq_493 (zsx hx0 hx8 hN 1 (by decide) (by decide)) ?_
  refine r_aloadS (zW_mono _ _ _) lq_494 rfl ?_
  refine r_iload (zW_mono _ _ _) lq_495 rfl ?_
  refine r_push (zW_mono _ _ _) lq_496 ?_
  refine r_iadd (zW_mono _ _ _) lq_497 ?_
  refine r_sld (zW_mono _ _ _) lq_498 (zsx hx0 hx8 hN 2 (by decide) (by decide)) ?_
  refine r_aloadS (zW_mono _ _ _) lq_499 rfl ?_
  refine r_iload (zW_mono _ _ _) lq_500 rfl ?_
  refine r_push (zW_mono _ _ _) lq_501 ?_
  refine r_iadd (zW_mono _ _ _) lq_502 ?_
  refine r_sld (zW_mono _ _ _) lq_503 (zsx hx0 hx8 hN 3 (by decide) (by decide)) ?_
  refine r_virt3 (m1 := 0) (m2 := 0) (zW_mono _ _ _) lq_504 hr9 (Nat.le_of_ble_eq_true rfl) (by unfold zbud; rw [hG]; rfl) (by omega) (by omega) ?_
  refine zW_mono zTt G 64 _ _ _ _ _ ?_ k9
  rintro w h3 ⟨⟨y9, rfl⟩, e9, p9⟩
  refine r_pop (zW_mono _ _ _) lq_507 rfl ?_
  refine r_goto (zW_mono _ _ _) lq_508 ?_
  exact K h3 _ _ p9 (by omega) (by omega)
set_option maxHeartbeats 1000000 in
theorem lawop_sell {G : zG} (hG : G.1 = zProg) (hN : G.2.2.1 ≤ 4096) {P : zH → Prop} {h : zH} {x : Int32} {q : Nat} (hx : x.toInt = 8 * q) (hq : 8 * q + 8 ≤ G.2.2.1) {c n : Nat} (hc : c ≤ 182 + 8 * q) (hn : n ≤ 43931 + 800 * q) (h0 : ∃ fs, h[0]? = some (.inr (11, fs))) (A : ∀ xs, zpB [zfI, zfI, zfI] xs → zW zTt G 64 117 (.ref 0 :: xs.map Value.int) h (fun w h2 => zTy 0 w ∧ (∃ fs, h2[111]? = some (.inr (12, fs))) ∧ zW zTt G 64 185 (.ref 111 :: xs.map Value.int) h2 (fun w2 h3 => zTy 0 w2 ∧ (false = true → w2 = w) ∧ P h3))) (K : ∀ h3 c n, P h3 → c ≤ 182 + 8 * (q + 1) → n ≤ 43931 + 800 * (q + 1) → zR zTt G cd_L 600000 7302250 (some .boolean) (zW zTt G 64) (fun w _ => w = some (.int 1)) 2138 [some (.retAddr 0), some (.ref 0), some (.ref 111), some (.int x)] [] h3 c n) : zR zTt G cd_L 600000 7302250 (some .boolean) (zW zTt G 64) (fun w _ => w = some (.int 1)) 511 [some (.retAddr 0), some (.ref 0), some (.ref 111), some (.int x)] [] h c n := by
  have hx0 : 0 ≤ x.toInt := by omega
  have hx8 : x.toInt + 8 ≤ G.2.2.1 := by omega
  obtain ⟨fs0, hx_0⟩ := h0
  refine r_aload (zW_mono _ _ _) lq_511 rfl ?_
  refine r_aloadS (zW_mono _ _ _) lq_512 rfl ?_
  refine r_iload (zW_mono _ _ _) lq_513 rfl ?_
  refine r_push (zW_mono _ _ _) lq_514 ?_
  refine r_iadd (zW_mono _ _ _) lq_515 ?_
  refine r_sld (zW_mono _ _ _) lq_516 (zsx hx0 hx8 hN 1 (by decide) (by decide)) ?_
  refine r_aloadS (zW_mono _ _ _) lq_517 rfl ?_
  refine r_iload (zW_mono _ _ _) lq_518 rfl ?_
  refine r_push (zW_mono _ _ _) lq_519 ?_
  refine r_iadd (zW_mono _ _ _) lq_520 ?_
  refine r_sld (zW_mono _ _ _) lq_521 (zsx hx0 hx8 hN 2 (by decide) (by decide)) ?_
  refine r_aloadS (zW_mono _ _ _) lq_522 rfl ?_
  refine r_iload (zW_mono _ _ _) lq_523 rfl ?_
  refine r_push (zW_mono _ _ _) lq_524 ?_
  refine r_iadd (zW_mono _ _ _) lq_525 ?_
  refine r_sld (zW_mono _ _ _) lq_526 (zsx hx0 hx8 hN 3 (by decide) (by decide)) ?_
  refine r_virt3 (m1 := 0) (m2 := 0) (zW_mono _ _ _) lq_527 hx_0 (Nat.le_of_ble_eq_true rfl) (by unfold zbud; rw [hG]; rfl) (by omega) (by omega) ?_
  refine zW_mono zTt G 64 _ _ _ _ _ ?_ (A [G.2.2.2 (x + 1).toNatClampNeg, G.2.2.2 (x + 2).toNatClampNeg, G.2.2.2 (x + 3).toNatClampNeg] ⟨zfI_ok _, zfI_ok _, zfI_ok _, trivial⟩)
  rintro w h2 ⟨⟨x9, rfl⟩, ⟨fs9, hr9⟩, k9⟩
  refine r_pop (zW_mono _ _ _) lq_530 rfl ?_
  refine r_aload (zW_mono _ _ _) lq_531 rfl ?_
  refine r_aloadS (zW_mono _ _ _) lq_532 rfl ?_
  refine r_iload (zW_mono _ _ _) lq_533 rfl ?_
  refine r_push (zW_mono _ _ _) lq_534 ?_
  refine r_iadd (zW_mono _ _ _) lq_535 ?_
  refine r_sld (zW_mono _ _ _) lq_536 (zsx hx0 hx8 hN 1 (by decide) (by decide)) ?_
  refine r_aloadS (zW_mono _ _ _) lq_537 rfl ?_
  refine r_iload (zW_mono _ _ _) lq_538 rfl ?_
  refine r_push (zW_mono _ _ _) lq_539 ?_
  refine r_iadd (zW_mono _ _ _) lq_540 ?_
  refine r_sld (zW_mono _ _ _) lq_541 (zsx hx0 hx8 hN 2 (by decide) (by decide)) ?_
  refine r_aloadS (zW_mono _ _ _) lq_542 rfl ?_
  refine r_iload (zW_mono _ _ _) lq_543 rfl ?_
  refine r_push (zW_mono _ _ _) lq_544 ?_
  refine r_iadd (zW_mono _ _ _) lq_545 ?_
  refine r_sld (zW_mono _ _ _) lq_546 (zsx hx0 hx8 hN 3 (by decide) (by decide)) ?_
  refine r_virt3 (m1 := 0) (m2 := 0) (zW_mono _ _ _) lq_547 hr9 (Nat.le_of_ble_eq_true rfl) (by unfold zbud; rw [hG]; rfl) (by omega) (by omega) ?_
  refine zW_mono zTt G 64 _ _ _ _ _ ?_ k9
  rintro w h3 ⟨⟨y9, rfl⟩, e9, p9⟩
  refine r_pop (zW_mono _ _ _) lq_550 rfl ?_
  refine r_goto (zW_mono _ _ _) lq_551 ?_
  exact K h3 _ _ p9 (by omega) (by omega)
set_option maxHeartbeats 1000000 in
theorem lawop_owner {G : zG} (hG : G.1 = zProg) (hN : G.2.2.1 ≤ 4096) {P : zH → Prop} {h : zH} {x : Int32} {q : Nat} (hx : x.toInt = 8 * q) (hq : 8 * q + 8 ≤ G.2.2.1) {c n : Nat} (hc : c ≤ 182 + 8 * q) (hn : n ≤ 43931 + 800 * q) (h0 : ∃ fs, h[0]? = some (.inr (11, fs))) (A : ∀ xs, zpB [zfI, zfI, zfI] xs → zW zTt G 64 118 (.ref 0 :: xs.map Value.int) h (fun w h2 => zTy 0 w ∧ (∃ fs, h2[111]? = some (.inr (12, fs))) ∧ zW zTt G 64 187 (.ref 111 :: xs.map Value.int) h2 (fun w2 h3 => zTy 0 w2 ∧ (false = true → w2 = w) ∧ P h3))) (K : ∀ h3 c n, P h3 → c ≤ 182 + 8 * (q + 1) → n ≤ 43931 + 800 * (q + 1) → zR zTt G cd_L 600000 7302250 (some .boolean) (zW zTt G 64) (fun w _ => w = some (.int 1)) 2138 [some (.retAddr 0), some (.ref 0), some (.ref 111), some (.int x)] [] h3 c n) : zR zTt G cd_L 600000 7302250 (some .boolean) (zW zTt G 64) (fun w _ => w = some (.int 1)) 554 [some (.retAddr 0), some (.ref 0), some (.ref 111), some (.int x)] [] h c n := by
  have hx0 : 0 ≤ x.toInt := by omega
  have hx8 : x.toInt + 8 ≤ G.2.2.1 := by omega
  obtain ⟨fs0, hx_0⟩ := h0
  refine r_aload (zW_mono _ _ _) lq_554 rfl ?_
  refine r_aloadS (zW_mono _ _ _) lq_555 rfl ?_
  refine r_iload (zW_mono _ _ _) lq_556 rfl ?_
  refine r_push (zW_mono _ _ _) lq_557 ?_
  refine r_iadd (zW_mono _ _ _) lq_558 ?_
  refine r_sld (zW_mono _ _ _) lq_559 (zsx hx0 hx8 hN 1 (by decide) (by decide)) ?_
  refine r_aloadS (zW_mono _ _ _) lq_560 rfl ?_
  refine r_iload (zW_mono _ _ _) lq_561 rfl ?_
  refine r_push (zW_mono _ _ _) lq_562 ?_
  refine r_iadd (zW_mono _ _ _) lq_563 ?_
  refine r_sld (zW_mono _ _ _) lq_564 (zsx hx0 hx8 hN 2 (by decide) (by decide)) ?_
  refine r_aloadS (zW_mono _ _ _) lq_565 rfl ?_
  refine r_iload (zW_mono _ _ _) lq_566 rfl ?_
  refine r_push (zW_mono _ _ _) lq_567 ?_
  refine r_iadd (zW_mono _ _ _) lq_568 ?_
  refine r_sld (zW_mono _ _ _) lq_569 (zsx hx0 hx8 hN 3 (by decide) (by decide)) ?_
  refine r_virt3 (m1 := 0) (m2 := 0) (zW_mono _ _ _) lq_570 hx_0 (Nat.le_of_ble_eq_true rfl) (by unfold zbud; rw [hG]; rfl) (by omega) (by omega) ?_
  refine zW_mono zTt G 64 _ _ _ _ _ ?_ (A [G.2.2.2 (x + 1).toNatClampNeg, G.2.2.2 (x + 2).toNatClampNeg, G.2.2.2 (x + 3).toNatClampNeg] ⟨zfI_ok _, zfI_ok _, zfI_ok _, trivial⟩)
  rintro w h2 ⟨⟨x9, rfl⟩, ⟨fs9, hr9⟩, k9⟩
  refine r_pop (zW_mono _ _ _) lq_573 rfl ?_
  refine r_aload (zW_mono _ _ _) lq_574 rfl ?_
  refine r_aloadS (zW_mono _ _ _) lq_575 rfl ?_
  refine r_iload (zW_mono _ _ _) lq_576 rfl ?_
  refine r_push (zW_mono _ _ _) lq_577 ?_
  refine r_iadd (zW_mono _ _ _) lq_578 ?_
  refine r_sld (zW_mono _ _ _) lq_579 (zsx hx0 hx8 hN 1 (by decide) (by decide)) ?_
  refine r_aloadS (zW_mono _ _ _) lq_580 rfl ?_
  refine r_iload (zW_mono _ _ _) lq_581 rfl ?_
  refine r_push (zW_mono _ _ _) lq_582 ?_
  refine r_iadd (zW_mono _ _ _) lq_583 ?_
  refine r_sld (zW_mono _ _ _) lq_584 (zsx hx0 hx8 hN 2 (by decide) (by decide)) ?_
  refine r_aloadS (zW_mono _ _ _) lq_585 rfl ?_
  refine r_iload (zW_mono _ _ _) lq_586 rfl ?_
  refine r_push (zW_mono _ _ _) lq_587 ?_
  refine r_iadd (zW_mono _ _ _) lq_588 ?_
  refine r_sld (zW_mono _ _ _) lq_589 (zsx hx0 hx8 hN 3 (by decide) (by decide)) ?_
  refine r_virt3 (m1 := 0) (m2 := 0) (zW_mono _ _ _) lq_590 hr9 (Nat.le_of_ble_eq_true rfl) (by unfold zbud; rw [hG]; rfl) (by omega) (by omega) ?_
  refine zW_mono zTt G 64 _ _ _ _ _ ?_ k9
  rintro w h3 ⟨⟨y9, rfl⟩, e9, p9⟩
  refine r_pop (zW_mono _ _ _) lq_593 rfl ?_
  refine r_goto (zW_mono _ _ _) lq_594 ?_
  exact K h3 _ _ p9 (by omega) (by omega)
set_option maxHeartbeats 1000000 in
theorem lawop_cars {G : zG} (hG : G.1 = zProg) (hN : G.2.2.1 ≤ 4096) {P : zH → Prop} {h : zH} {x : Int32} {q : Nat} (hx : x.toInt = 8 * q) (hq : 8 * q + 8 ≤ G.2.2.1) {c n : Nat} (hc : c ≤ 182 + 8 * q) (hn : n ≤ 43931 + 800 * q) (h0 : ∃ fs, h[0]? = some (.inr (11, fs))) (A : ∀ xs, zpB [zfI, zfI] xs → zW zTt G 64 119 (.ref 0 :: xs.map Value.int) h (fun w h2 => zTy 0 w ∧ (∃ fs, h2[111]? = some (.inr (12, fs))) ∧ zW zTt G 64 192 (.ref 111 :: xs.map Value.int) h2 (fun w2 h3 => zTy 0 w2 ∧ (false = true → w2 = w) ∧ P h3))) (K : ∀ h3 c n, P h3 → c ≤ 182 + 8 * (q + 1) → n ≤ 43931 + 800 * (q + 1) → zR zTt G cd_L 600000 7302250 (some .boolean) (zW zTt G 64) (fun w _ => w = some (.int 1)) 2138 [some (.retAddr 0), some (.ref 0), some (.ref 111), some (.int x)] [] h3 c n) : zR zTt G cd_L 600000 7302250 (some .boolean) (zW zTt G 64) (fun w _ => w = some (.int 1)) 597 [some (.retAddr 0), some (.ref 0), some (.ref 111), some (.int x)] [] h c n := by
  have hx0 : 0 ≤ x.toInt := by omega
  have hx8 : x.toInt + 8 ≤ G.2.2.1 := by omega
  obtain ⟨fs0, hx_0⟩ := h0
  refine r_aload (zW_mono _ _ _) lq_597 rfl ?_
  refine r_aloadS (zW_mono _ _ _) lq_598 rfl ?_
  refine r_iload (zW_mono _ _ _) lq_599 rfl ?_
  refine r_push (zW_mono _ _ _) lq_600 ?_
  refine r_iadd (zW_mono _ _ _) lq_601 ?_
  refine r_sld (zW_mono _ _ _) lq_602 (zsx hx0 hx8 hN 1 (by decide) (by decide)) ?_
  refine r_aloadS (zW_mono _ _ _) lq_603 rfl ?_
  refine r_iload (zW_mono _ _ _) lq_604 rfl ?_
  refine r_push (zW_mono _ _ _) lq_605 ?_
  refine r_iadd (zW_mono _ _ _) lq_606 ?_
  refine r_sld (zW_mono _ _ _) lq_607 (zsx hx0 hx8 hN 2 (by decide) (by decide)) ?_
  refine r_virt2 (m1 := 0) (m2 := 0) (zW_mono _ _ _) lq_608 hx_0 (Nat.le_of_ble_eq_true rfl) (by unfold zbud; rw [hG]; rfl) (by omega) (by omega) ?_
  refine zW_mono zTt G 64 _ _ _ _ _ ?_ (A [G.2.2.2 (x + 1).toNatClampNeg, G.2.2.2 (x + 2).toNatClampNeg] ⟨zfI_ok _, zfI_ok _, trivial⟩)
  rintro w h2 ⟨⟨x9, rfl⟩, ⟨fs9, hr9⟩, k9⟩
  refine r_pop (zW_mono _ _ _) lq_611 rfl ?_
  refine r_aload (zW_mono _ _ _) lq_612 rfl ?_
  refine r_aloadS (zW_mono _ _ _) lq_613 rfl ?_
  refine r_iload (zW_mono _ _ _) lq_614 rfl ?_
  refine r_push (zW_mono _ _ _) lq_615 ?_
  refine r_iadd (zW_mono _ _ _) lq_616 ?_
  refine r_sld (zW_mono _ _ _) lq_617 (zsx hx0 hx8 hN 1 (by decide) (by decide)) ?_
  refine r_aloadS (zW_mono _ _ _) lq_618 rfl ?_
  refine r_iload (zW_mono _ _ _) lq_619 rfl ?_
  refine r_push (zW_mono _ _ _) lq_620 ?_
  refine r_iadd (zW_mono _ _ _) lq_621 ?_
  refine r_sld (zW_mono _ _ _) lq_622 (zsx hx0 hx8 hN 2 (by decide) (by decide)) ?_
  refine r_virt2 (m1 := 0) (m2 := 0) (zW_mono _ _ _) lq_623 hr9 (Nat.le_of_ble_eq_true rfl) (by unfold zbud; rw [hG]; rfl) (by omega) (by omega) ?_
  refine zW_mono zTt G 64 _ _ _ _ _ ?_ k9
  rintro w h3 ⟨⟨y9, rfl⟩, e9, p9⟩
  refine r_pop (zW_mono _ _ _) lq_626 rfl ?_
  refine r_goto (zW_mono _ _ _) lq_627 ?_
  exact K h3 _ _ p9 (by omega) (by omega)
set_option maxHeartbeats 1000000 in
theorem lawop_force {G : zG} (hG : G.1 = zProg) (hN : G.2.2.1 ≤ 4096) {P : zH → Prop} {h : zH} {x : Int32} {q : Nat} (hx : x.toInt = 8 * q) (hq : 8 * q + 8 ≤ G.2.2.1) {c n : Nat} (hc : c ≤ 182 + 8 * q) (hn : n ≤ 43931 + 800 * q) (h0 : ∃ fs, h[0]? = some (.inr (11, fs))) (A : ∀ xs, zpB [zfI, zfI] xs → zW zTt G 64 120 (.ref 0 :: xs.map Value.int) h (fun w h2 => zTy 0 w ∧ (∃ fs, h2[111]? = some (.inr (12, fs))) ∧ zW zTt G 64 193 (.ref 111 :: xs.map Value.int) h2 (fun w2 h3 => zTy 0 w2 ∧ (false = true → w2 = w) ∧ P h3))) (K : ∀ h3 c n, P h3 → c ≤ 182 + 8 * (q + 1) → n ≤ 43931 + 800 * (q + 1) → zR zTt G cd_L 600000 7302250 (some .boolean) (zW zTt G 64) (fun w _ => w = some (.int 1)) 2138 [some (.retAddr 0), some (.ref 0), some (.ref 111), some (.int x)] [] h3 c n) : zR zTt G cd_L 600000 7302250 (some .boolean) (zW zTt G 64) (fun w _ => w = some (.int 1)) 630 [some (.retAddr 0), some (.ref 0), some (.ref 111), some (.int x)] [] h c n := by
  have hx0 : 0 ≤ x.toInt := by omega
  have hx8 : x.toInt + 8 ≤ G.2.2.1 := by omega
  obtain ⟨fs0, hx_0⟩ := h0
  refine r_aload (zW_mono _ _ _) lq_630 rfl ?_
  refine r_aloadS (zW_mono _ _ _) lq_631 rfl ?_
  refine r_iload (zW_mono _ _ _) lq_632 rfl ?_
  refine r_push (zW_mono _ _ _) lq_633 ?_
  refine r_iadd (zW_mono _ _ _) lq_634 ?_
  refine r_sld (zW_mono _ _ _) lq_635 (zsx hx0 hx8 hN 1 (by decide) (by decide)) ?_
  refine r_aloadS (zW_mono _ _ _) lq_636 rfl ?_
  refine r_iload (zW_mono _ _ _) lq_637 rfl ?_
  refine r_push (zW_mono _ _ _) lq_638 ?_
  refine r_iadd (zW_mono _ _ _) lq_639 ?_
  refine r_sld (zW_mono _ _ _) lq_640 (zsx hx0 hx8 hN 2 (by decide) (by decide)) ?_
  refine r_virt2 (m1 := 0) (m2 := 0) (zW_mono _ _ _) lq_641 hx_0 (Nat.le_of_ble_eq_true rfl) (by unfold zbud; rw [hG]; rfl) (by omega) (by omega) ?_
  refine zW_mono zTt G 64 _ _ _ _ _ ?_ (A [G.2.2.2 (x + 1).toNatClampNeg, G.2.2.2 (x + 2).toNatClampNeg] ⟨zfI_ok _, zfI_ok _, trivial⟩)
  rintro w h2 ⟨⟨x9, rfl⟩, ⟨fs9, hr9⟩, k9⟩
  refine r_pop (zW_mono _ _ _) lq_644 rfl ?_
  refine r_aload (zW_mono _ _ _) lq_645 rfl ?_
  refine r_aloadS (zW_mono _ _ _) lq_646 rfl ?_
  refine r_iload (zW_mono _ _ _) lq_647 rfl ?_
  refine r_push (zW_mono _ _ _) lq_648 ?_
  refine r_iadd (zW_mono _ _ _) lq_649 ?_
  refine r_sld (zW_mono _ _ _) lq_650 (zsx hx0 hx8 hN 1 (by decide) (by decide)) ?_
  refine r_aloadS (zW_mono _ _ _) lq_651 rfl ?_
  refine r_iload (zW_mono _ _ _) lq_652 rfl ?_
  refine r_push (zW_mono _ _ _) lq_653 ?_
  refine r_iadd (zW_mono _ _ _) lq_654 ?_
  refine r_sld (zW_mono _ _ _) lq_655 (zsx hx0 hx8 hN 2 (by decide) (by decide)) ?_
  refine r_virt2 (m1 := 0) (m2 := 0) (zW_mono _ _ _) lq_656 hr9 (Nat.le_of_ble_eq_true rfl) (by unfold zbud; rw [hG]; rfl) (by omega) (by omega) ?_
  refine zW_mono zTt G 64 _ _ _ _ _ ?_ k9
  rintro w h3 ⟨⟨y9, rfl⟩, e9, p9⟩
  refine r_pop (zW_mono _ _ _) lq_659 rfl ?_
  refine r_goto (zW_mono _ _ _) lq_660 ?_
  exact K h3 _ _ p9 (by omega) (by omega)
set_option maxHeartbeats 1000000 in
theorem lawop_burns {G : zG} (hG : G.1 = zProg) (hN : G.2.2.1 ≤ 4096) {P : zH → Prop} {h : zH} {x : Int32} {q : Nat} (hx : x.toInt = 8 * q) (hq : 8 * q + 8 ≤ G.2.2.1) {c n : Nat} (hc : c ≤ 182 + 8 * q) (hn : n ≤ 43931 + 800 * q) (h0 : ∃ fs, h[0]? = some (.inr (11, fs))) (A : ∀ xs, zpB [zfI, zfI, zfI, zfI, zfI] xs → zW zTt G 64 121 (.ref 0 :: xs.map Value.int) h (fun w h2 => zTy 0 w ∧ (∃ fs, h2[111]? = some (.inr (12, fs))) ∧ zW zTt G 64 195 (.ref 111 :: xs.map Value.int) h2 (fun w2 h3 => zTy 0 w2 ∧ (false = true → w2 = w) ∧ P h3))) (K : ∀ h3 c n, P h3 → c ≤ 182 + 8 * (q + 1) → n ≤ 43931 + 800 * (q + 1) → zR zTt G cd_L 600000 7302250 (some .boolean) (zW zTt G 64) (fun w _ => w = some (.int 1)) 2138 [some (.retAddr 0), some (.ref 0), some (.ref 111), some (.int x)] [] h3 c n) : zR zTt G cd_L 600000 7302250 (some .boolean) (zW zTt G 64) (fun w _ => w = some (.int 1)) 663 [some (.retAddr 0), some (.ref 0), some (.ref 111), some (.int x)] [] h c n := by
  have hx0 : 0 ≤ x.toInt := by omega
  have hx8 : x.toInt + 8 ≤ G.2.2.1 := by omega
  obtain ⟨fs0, hx_0⟩ := h0
  refine r_aload (zW_mono _ _ _) lq_663 rfl ?_
  refine r_aloadS (zW_mono _ _ _) lq_664 rfl ?_
  refine r_iload (zW_mono _ _ _) lq_665 rfl ?_
  refine r_push (zW_mono _ _ _) lq_666 ?_
  refine r_iadd (zW_mono _ _ _) lq_667 ?_
  refine r_sld (zW_mono _ _ _) lq_668 (zsx hx0 hx8 hN 1 (by decide) (by decide)) ?_
  refine r_aloadS (zW_mono _ _ _) lq_669 rfl ?_
  refine r_iload (zW_mono _ _ _) lq_670 rfl ?_
  refine r_push (zW_mono _ _ _) lq_671 ?_
  refine r_iadd (zW_mono _ _ _) lq_672 ?_
  refine r_sld (zW_mono _ _ _) lq_673 (zsx hx0 hx8 hN 2 (by decide) (by decide)) ?_
  refine r_aloadS (zW_mono _ _ _) lq_674 rfl ?_
  refine r_iload (zW_mono _ _ _) lq_675 rfl ?_
  refine r_push (zW_mono _ _ _) lq_676 ?_
  refine r_iadd (zW_mono _ _ _) lq_677 ?_
  refine r_sld (zW_mono _ _ _) lq_678 (zsx hx0 hx8 hN 3 (by decide) (by decide)) ?_
  refine r_aloadS (zW_mono _ _ _) lq_679 rfl ?_
  refine r_iload (zW_mono _ _ _) lq_680 rfl ?_
  refine r_push (zW_mono _ _ _) lq_681 ?_
  refine r_iadd (zW_mono _ _ _) lq_682 ?_
  refine r_sld (zW_mono _ _ _) lq_683 (zsx hx0 hx8 hN 4 (by decide) (by decide)) ?_
  refine r_aloadS (zW_mono _ _ _) lq_684 rfl ?_
  refine r_iload (zW_mono _ _ _) lq_685 rfl ?_
  refine r_push (zW_mono _ _ _) lq_686 ?_
  refine r_iadd (zW_mono _ _ _) lq_687 ?_
  refine r_sld (zW_mono _ _ _) lq_688 (zsx hx0 hx8 hN 5 (by decide) (by decide)) ?_
  refine r_virt5 (m1 := 0) (m2 := 0) (zW_mono _ _ _) lq_689 hx_0 (Nat.le_of_ble_eq_true rfl) (by unfold zbud; rw [hG]; rfl) (by omega) (by omega) ?_
  refine zW_mono zTt G 64 _ _ _ _ _ ?_ (A [G.2.2.2 (x + 1).toNatClampNeg, G.2.2.2 (x + 2).toNatClampNeg, G.2.2.2 (x + 3).toNatClampNeg, G.2.2.2 (x + 4).toNatClampNeg, G.2.2.2 (x + 5).toNatClampNeg] ⟨zfI_ok _, zfI_ok _, zfI_ok _, zfI_ok _, zfI_ok _, trivial⟩)
  rintro w h2 ⟨⟨x9, rfl⟩, ⟨fs9, hr9⟩, k9⟩
  refine r_pop (zW_mono _ _ _) lq_692 rfl ?_
  refine r_aload (zW_mono _ _ _) lq_693 rfl ?_
  refine r_aloadS (zW_mono _ _ _) lq_694 rfl ?_
  refine r_iload (zW_mono _ _ _) lq_695 rfl ?_
  refine r_push (zW_mono _ _ _) lq_696 ?_
  refine r_iadd (zW_mono _ _ _) lq_697 ?_
  refine r_sld (zW_mono _ _ _) lq_698 (zsx hx0 hx8 hN 1 (by decide) (by decide)) ?_
  refine r_aloadS (zW_mono _ _ _) lq_699 rfl ?_
  refine r_iload (zW_mono _ _ _) lq_700 rfl ?_
  refine r_push (zW_mono _ _ _) lq_701 ?_
  refine r_iadd (zW_mono _ _ _) lq_702 ?_
  refine r_sld (zW_mono _ _ _) lq_703 (zsx hx0 hx8 hN 2 (by decide) (by decide)) ?_
  refine r_aloadS (zW_mono _ _ _) lq_704 rfl ?_
  refine r_iload (zW_mono _ _ _) lq_705 rfl ?_
  refine r_push (zW_mono _ _ _) lq_706 ?_
  refine r_iadd (zW_mono _ _ _) lq_707 ?_
  refine r_sld (zW_mono _ _ _) lq_708 (zsx hx0 hx8 hN 3 (by decide) (by decide)) ?_
  refine r_aloadS (zW_mono _ _ _) lq_709 rfl ?_
  refine r_iload (zW_mono _ _ _) lq_710 rfl ?_
  refine r_push (zW_mono _ _ _) lq_711 ?_
  refine r_iadd (zW_mono _ _ _) lq_712 ?_
  refine r_sld (zW_mono _ _ _) lq_713 (zsx hx0 hx8 hN 4 (by decide) (by decide)) ?_
  refine r_aloadS (zW_mono _ _ _) lq_714 rfl ?_
  refine r_iload (zW_mono _ _ _) lq_715 rfl ?_
  refine r_push (zW_mono _ _ _) lq_716 ?_
  refine r_iadd (zW_mono _ _ _) lq_717 ?_
  refine r_sld (zW_mono _ _ _) lq_718 (zsx hx0 hx8 hN 5 (by decide) (by decide)) ?_
  refine r_virt5 (m1 := 0) (m2 := 0) (zW_mono _ _ _) lq_719 hr9 (Nat.le_of_ble_eq_true rfl) (by unfold zbud; rw [hG]; rfl) (by omega) (by omega) ?_
  refine zW_mono zTt G 64 _ _ _ _ _ ?_ k9
  rintro w h3 ⟨⟨y9, rfl⟩, e9, p9⟩
  refine r_pop (zW_mono _ _ _) lq_722 rfl ?_
  refine r_goto (zW_mono _ _ _) lq_723 ?_
  exact K h3 _ _ p9 (by omega) (by omega)
set_option maxHeartbeats 1000000 in
theorem lawop_feed {G : zG} (hG : G.1 = zProg) (hN : G.2.2.1 ≤ 4096) {P : zH → Prop} {h : zH} {x : Int32} {q : Nat} (hx : x.toInt = 8 * q) (hq : 8 * q + 8 ≤ G.2.2.1) {c n : Nat} (hc : c ≤ 182 + 8 * q) (hn : n ≤ 43931 + 800 * q) (h0 : ∃ fs, h[0]? = some (.inr (11, fs))) (A : ∀ xs, zpB [zfI, zfI, zfI, zfI, zfI] xs → zW zTt G 64 122 (.ref 0 :: xs.map Value.int) h (fun w h2 => zTy 0 w ∧ (∃ fs, h2[111]? = some (.inr (12, fs))) ∧ zW zTt G 64 196 (.ref 111 :: xs.map Value.int) h2 (fun w2 h3 => zTy 0 w2 ∧ (false = true → w2 = w) ∧ P h3))) (K : ∀ h3 c n, P h3 → c ≤ 182 + 8 * (q + 1) → n ≤ 43931 + 800 * (q + 1) → zR zTt G cd_L 600000 7302250 (some .boolean) (zW zTt G 64) (fun w _ => w = some (.int 1)) 2138 [some (.retAddr 0), some (.ref 0), some (.ref 111), some (.int x)] [] h3 c n) : zR zTt G cd_L 600000 7302250 (some .boolean) (zW zTt G 64) (fun w _ => w = some (.int 1)) 726 [some (.retAddr 0), some (.ref 0), some (.ref 111), some (.int x)] [] h c n := by
  have hx0 : 0 ≤ x.toInt := by omega
  have hx8 : x.toInt + 8 ≤ G.2.2.1 := by omega
  obtain ⟨fs0, hx_0⟩ := h0
  refine r_aload (zW_mono _ _ _) lq_726 rfl ?_
  refine r_aloadS (zW_mono _ _ _) lq_727 rfl ?_
  refine r_iload (zW_mono _ _ _) lq_728 rfl ?_
  refine r_push (zW_mono _ _ _) lq_729 ?_
  refine r_iadd (zW_mono _ _ _) lq_730 ?_
  refine r_sld (zW_mono _ _ _) lq_731 (zsx hx0 hx8 hN 1 (by decide) (by decide)) ?_
  refine r_aloadS (zW_mono _ _ _) lq_732 rfl ?_
  refine r_iload (zW_mono _ _ _) lq_733 rfl ?_
  refine r_push (zW_mono _ _ _) lq_734 ?_
  refine r_iadd (zW_mono _ _ _) lq_735 ?_
  refine r_sld (zW_mono _ _ _) lq_736 (zsx hx0 hx8 hN 2 (by decide) (by decide)) ?_
  refine r_aloadS (zW_mono _ _ _) lq_737 rfl ?_
  refine r_iload (zW_mono _ _ _) lq_738 rfl ?_
  refine r_push (zW_mono _ _ _) lq_739 ?_
  refine r_iadd (zW_mono _ _ _) lq_740 ?_
  refine r_sld (zW_mono _ _ _) lq_741 (zsx hx0 hx8 hN 3 (by decide) (by decide)) ?_
  refine r_aloadS (zW_mono _ _ _) lq_742 rfl ?_
  refine r_iload (zW_mono _ _ _) lq_743 rfl ?_
  refine r_push (zW_mono _ _ _) lq_744 ?_
  refine r_iadd (zW_mono _ _ _) lq_745 ?_
  refine r_sld (zW_mono _ _ _) lq_746 (zsx hx0 hx8 hN 4 (by decide) (by decide)) ?_
  refine r_aloadS (zW_mono _ _ _) lq_747 rfl ?_
  refine r_iload (zW_mono _ _ _) lq_748 rfl ?_
  refine r_push (zW_mono _ _ _) lq_749 ?_
  refine r_iadd (zW_mono _ _ _) lq_750 ?_
  refine r_sld (zW_mono _ _ _) lq_751 (zsx hx0 hx8 hN 5 (by decide) (by decide)) ?_
  refine r_virt5 (m1 := 0) (m2 := 0) (zW_mono _ _ _) lq_752 hx_0 (Nat.le_of_ble_eq_true rfl) (by unfold zbud; rw [hG]; rfl) (by omega) (by omega) ?_
  refine zW_mono zTt G 64 _ _ _ _ _ ?_ (A [G.2.2.2 (x + 1).toNatClampNeg, G.2.2.2 (x + 2).toNatClampNeg, G.2.2.2 (x + 3).toNatClampNeg, G.2.2.2 (x + 4).toNatClampNeg, G.2.2.2 (x + 5).toNatClampNeg] ⟨zfI_ok _, zfI_ok _, zfI_ok _, zfI_ok _, zfI_ok _, trivial⟩)
  rintro w h2 ⟨⟨x9, rfl⟩, ⟨fs9, hr9⟩, k9⟩
  refine r_pop (zW_mono _ _ _) lq_755 rfl ?_
  refine r_aload (zW_mono _ _ _) lq_756 rfl ?_
  refine r_aloadS (zW_mono _ _ _) lq_757 rfl ?_
  refine r_iload (zW_mono _ _ _) lq_758 rfl ?_
  refine r_push (zW_mono _ _ _) lq_759 ?_
  refine r_iadd (zW_mono _ _ _) lq_760 ?_
  refine r_sld (zW_mono _ _ _) lq_761 (zsx hx0 hx8 hN 1 (by decide) (by decide)) ?_
  refine r_aloadS (zW_mono _ _ _) lq_762 rfl ?_
  refine r_iload (zW_mono _ _ _) lq_763 rfl ?_
  refine r_push (zW_mono _ _ _) lq_764 ?_
  refine r_iadd (zW_mono _ _ _) lq_765 ?_
  refine r_sld (zW_mono _ _ _) lq_766 (zsx hx0 hx8 hN 2 (by decide) (by decide)) ?_
  refine r_aloadS (zW_mono _ _ _) lq_767 rfl ?_
  refine r_iload (zW_mono _ _ _) lq_768 rfl ?_
  refine r_push (zW_mono _ _ _) lq_769 ?_
  refine r_iadd (zW_mono _ _ _) lq_770 ?_
  refine r_sld (zW_mono _ _ _) lq_771 (zsx hx0 hx8 hN 3 (by decide) (by decide)) ?_
  refine r_aloadS (zW_mono _ _ _) lq_772 rfl ?_
  refine r_iload (zW_mono _ _ _) lq_773 rfl ?_
  refine r_push (zW_mono _ _ _) lq_774 ?_
  refine r_iadd (zW_mono _ _ _) lq_775 ?_
  refine r_sld (zW_mono _ _ _) lq_776 (zsx hx0 hx8 hN 4 (by decide) (by decide)) ?_
  refine r_aloadS (zW_mono _ _ _) lq_777 rfl ?_
  refine r_iload (zW_mono _ _ _) lq_778 rfl ?_
  refine r_push (zW_mono _ _ _) lq_779 ?_
  refine r_iadd (zW_mono _ _ _) lq_780 ?_
  refine r_sld (zW_mono _ _ _) lq_781 (zsx hx0 hx8 hN 5 (by decide) (by decide)) ?_
  refine r_virt5 (m1 := 0) (m2 := 0) (zW_mono _ _ _) lq_782 hr9 (Nat.le_of_ble_eq_true rfl) (by unfold zbud; rw [hG]; rfl) (by omega) (by omega) ?_
  refine zW_mono zTt G 64 _ _ _ _ _ ?_ k9
  rintro w h3 ⟨⟨y9, rfl⟩, e9, p9⟩
  refine r_pop (zW_mono _ _ _) lq_785 rfl ?_
  refine r_goto (zW_mono _ _ _) lq_786 ?_
  exact K h3 _ _ p9 (by omega) (by omega)
set_option maxHeartbeats 1000000 in
theorem lawop_end {G : zG} (hG : G.1 = zProg) (hN : G.2.2.1 ≤ 4096) {P : zH → Prop} {h : zH} {x : Int32} {q : Nat} (hx : x.toInt = 8 * q) (hq : 8 * q + 8 ≤ G.2.2.1) {c n : Nat} (hc : c ≤ 182 + 8 * q) (hn : n ≤ 43931 + 800 * q) (h0 : ∃ fs, h[0]? = some (.inr (11, fs))) (A : ∀ xs, zpB [zfI] xs → zW zTt G 64 123 (.ref 0 :: xs.map Value.int) h (fun w h2 => zTy 0 w ∧ (∃ fs, h2[111]? = some (.inr (12, fs))) ∧ zW zTt G 64 198 (.ref 111 :: xs.map Value.int) h2 (fun w2 h3 => zTy 0 w2 ∧ (false = true → w2 = w) ∧ P h3))) (K : ∀ h3 c n, P h3 → c ≤ 182 + 8 * (q + 1) → n ≤ 43931 + 800 * (q + 1) → zR zTt G cd_L 600000 7302250 (some .boolean) (zW zTt G 64) (fun w _ => w = some (.int 1)) 2138 [some (.retAddr 0), some (.ref 0), some (.ref 111), some (.int x)] [] h3 c n) : zR zTt G cd_L 600000 7302250 (some .boolean) (zW zTt G 64) (fun w _ => w = some (.int 1)) 789 [some (.retAddr 0), some (.ref 0), some (.ref 111), some (.int x)] [] h c n := by
  have hx0 : 0 ≤ x.toInt := by omega
  have hx8 : x.toInt + 8 ≤ G.2.2.1 := by omega
  obtain ⟨fs0, hx_0⟩ := h0
  refine r_aload (zW_mono _ _ _) lq_789 rfl ?_
  refine r_aloadS (zW_mono _ _ _) lq_790 rfl ?_
  refine r_iload (zW_mono _ _ _) lq_791 rfl ?_
  refine r_push (zW_mono _ _ _) lq_792 ?_
  refine r_iadd (zW_mono _ _ _) lq_793 ?_
  refine r_sld (zW_mono _ _ _) lq_794 (zsx hx0 hx8 hN 1 (by decide) (by decide)) ?_
  refine r_virt1 (m1 := 0) (m2 := 0) (zW_mono _ _ _) lq_795 hx_0 (Nat.le_of_ble_eq_true rfl) (by unfold zbud; rw [hG]; rfl) (by omega) (by omega) ?_
  refine zW_mono zTt G 64 _ _ _ _ _ ?_ (A [G.2.2.2 (x + 1).toNatClampNeg] ⟨zfI_ok _, trivial⟩)
  rintro w h2 ⟨⟨x9, rfl⟩, ⟨fs9, hr9⟩, k9⟩
  refine r_pop (zW_mono _ _ _) lq_798 rfl ?_
  refine r_aload (zW_mono _ _ _) lq_799 rfl ?_
  refine r_aloadS (zW_mono _ _ _) lq_800 rfl ?_
  refine r_iload (zW_mono _ _ _) lq_801 rfl ?_
  refine r_push (zW_mono _ _ _) lq_802 ?_
  refine r_iadd (zW_mono _ _ _) lq_803 ?_
  refine r_sld (zW_mono _ _ _) lq_804 (zsx hx0 hx8 hN 1 (by decide) (by decide)) ?_
  refine r_virt1 (m1 := 0) (m2 := 0) (zW_mono _ _ _) lq_805 hr9 (Nat.le_of_ble_eq_true rfl) (by unfold zbud; rw [hG]; rfl) (by omega) (by omega) ?_
  refine zW_mono zTt G 64 _ _ _ _ _ ?_ k9
  rintro w h3 ⟨⟨y9, rfl⟩, e9, p9⟩
  refine r_pop (zW_mono _ _ _) lq_808 rfl ?_
  refine r_goto (zW_mono _ _ _) lq_809 ?_
  exact K h3 _ _ p9 (by omega) (by omega)
set_option maxHeartbeats 1000000 in
theorem lawop_rule {G : zG} (hG : G.1 = zProg) (hN : G.2.2.1 ≤ 4096) {P : zH → Prop} {h : zH} {x : Int32} {q : Nat} (hx : x.toInt = 8 * q) (hq : 8 * q + 8 ≤ G.2.2.1) {c n : Nat} (hc : c ≤ 182 + 8 * q) (hn : n ≤ 43931 + 800 * q) (h0 : ∃ fs, h[0]? = some (.inr (11, fs))) (A : ∀ xs, zpB [zfI] xs → zW zTt G 64 124 (.ref 0 :: xs.map Value.int) h (fun w h2 => zTy 0 w ∧ (∃ fs, h2[111]? = some (.inr (12, fs))) ∧ zW zTt G 64 225 (.ref 111 :: xs.map Value.int) h2 (fun w2 h3 => zTy 0 w2 ∧ (false = true → w2 = w) ∧ P h3))) (K : ∀ h3 c n, P h3 → c ≤ 182 + 8 * (q + 1) → n ≤ 43931 + 800 * (q + 1) → zR zTt G cd_L 600000 7302250 (some .boolean) (zW zTt G 64) (fun w _ => w = some (.int 1)) 2138 [some (.retAddr 0), some (.ref 0), some (.ref 111), some (.int x)] [] h3 c n) : zR zTt G cd_L 600000 7302250 (some .boolean) (zW zTt G 64) (fun w _ => w = some (.int 1)) 812 [some (.retAddr 0), some (.ref 0), some (.ref 111), some (.int x)] [] h c n := by
  have hx0 : 0 ≤ x.toInt := by omega
  have hx8 : x.toInt + 8 ≤ G.2.2.1 := by omega
  obtain ⟨fs0, hx_0⟩ := h0
  refine r_aload (zW_mono _ _ _) lq_812 rfl ?_
  refine r_aloadS (zW_mono _ _ _) lq_813 rfl ?_
  refine r_iload (zW_mono _ _ _) lq_814 rfl ?_
  refine r_push (zW_mono _ _ _) lq_815 ?_
  refine r_iadd (zW_mono _ _ _) lq_816 ?_
  refine r_sld (zW_mono _ _ _) lq_817 (zsx hx0 hx8 hN 1 (by decide) (by decide)) ?_
  refine r_virt1 (m1 := 2) (m2 := 800) (zW_mono _ _ _) lq_818 hx_0 (Nat.le_of_ble_eq_true rfl) (by unfold zbud; rw [hG]; rfl) (by omega) (by omega) ?_
  refine zW_mono zTt G 64 _ _ _ _ _ ?_ (A [G.2.2.2 (x + 1).toNatClampNeg] ⟨zfI_ok _, trivial⟩)
  rintro w h2 ⟨⟨x9, rfl⟩, ⟨fs9, hr9⟩, k9⟩
  refine r_pop (zW_mono _ _ _) lq_821 rfl ?_
  refine r_aload (zW_mono _ _ _) lq_822 rfl ?_
  refine r_aloadS (zW_mono _ _ _) lq_823 rfl ?_
  refine r_iload (zW_mono _ _ _) lq_824 rfl ?_
  refine r_push (zW_mono _ _ _) lq_825 ?_
  refine r_iadd (zW_mono _ _ _) lq_826 ?_
  refine r_sld (zW_mono _ _ _) lq_827 (zsx hx0 hx8 hN 1 (by decide) (by decide)) ?_
  refine r_virt1 (m1 := 0) (m2 := 0) (zW_mono _ _ _) lq_828 hr9 (Nat.le_of_ble_eq_true rfl) (by unfold zbud; rw [hG]; rfl) (by omega) (by omega) ?_
  refine zW_mono zTt G 64 _ _ _ _ _ ?_ k9
  rintro w h3 ⟨⟨y9, rfl⟩, e9, p9⟩
  refine r_pop (zW_mono _ _ _) lq_831 rfl ?_
  refine r_goto (zW_mono _ _ _) lq_832 ?_
  exact K h3 _ _ p9 (by omega) (by omega)
set_option maxHeartbeats 1000000 in
theorem lawop_inForce {G : zG} (hG : G.1 = zProg) (hN : G.2.2.1 ≤ 4096) {P : zH → Prop} {h : zH} {x : Int32} {q : Nat} (hx : x.toInt = 8 * q) (hq : 8 * q + 8 ≤ G.2.2.1) {c n : Nat} (hc : c ≤ 182 + 8 * q) (hn : n ≤ 43931 + 800 * q) (h0 : ∃ fs, h[0]? = some (.inr (11, fs))) (A : ∀ xs, zpB [zfI] xs → zW zTt G 64 125 (.ref 0 :: xs.map Value.int) h (fun w h2 => zTy 0 w ∧ (∃ fs, h2[111]? = some (.inr (12, fs))) ∧ zW zTt G 64 227 (.ref 111 :: xs.map Value.int) h2 (fun w2 h3 => zTy 0 w2 ∧ (false = true → w2 = w) ∧ P h3))) (K : ∀ h3 c n, P h3 → c ≤ 182 + 8 * (q + 1) → n ≤ 43931 + 800 * (q + 1) → zR zTt G cd_L 600000 7302250 (some .boolean) (zW zTt G 64) (fun w _ => w = some (.int 1)) 2138 [some (.retAddr 0), some (.ref 0), some (.ref 111), some (.int x)] [] h3 c n) : zR zTt G cd_L 600000 7302250 (some .boolean) (zW zTt G 64) (fun w _ => w = some (.int 1)) 835 [some (.retAddr 0), some (.ref 0), some (.ref 111), some (.int x)] [] h c n := by
  have hx0 : 0 ≤ x.toInt := by omega
  have hx8 : x.toInt + 8 ≤ G.2.2.1 := by omega
  obtain ⟨fs0, hx_0⟩ := h0
  refine r_aload (zW_mono _ _ _) lq_835 rfl ?_
  refine r_aloadS (zW_mono _ _ _) lq_836 rfl ?_
  refine r_iload (zW_mono _ _ _) lq_837 rfl ?_
  refine r_push (zW_mono _ _ _) lq_838 ?_
  refine r_iadd (zW_mono _ _ _) lq_839 ?_
  refine r_sld (zW_mono _ _ _) lq_840 (zsx hx0 hx8 hN 1 (by decide) (by decide)) ?_
  refine r_virt1 (m1 := 0) (m2 := 0) (zW_mono _ _ _) lq_841 hx_0 (Nat.le_of_ble_eq_true rfl) (by unfold zbud; rw [hG]; rfl) (by omega) (by omega) ?_
  refine zW_mono zTt G 64 _ _ _ _ _ ?_ (A [G.2.2.2 (x + 1).toNatClampNeg] ⟨zfI_ok _, trivial⟩)
  rintro w h2 ⟨⟨x9, rfl⟩, ⟨fs9, hr9⟩, k9⟩
  refine r_pop (zW_mono _ _ _) lq_844 rfl ?_
  refine r_aload (zW_mono _ _ _) lq_845 rfl ?_
  refine r_aloadS (zW_mono _ _ _) lq_846 rfl ?_
  refine r_iload (zW_mono _ _ _) lq_847 rfl ?_
  refine r_push (zW_mono _ _ _) lq_848 ?_
  refine r_iadd (zW_mono _ _ _) lq_849 ?_
  refine r_sld (zW_mono _ _ _) lq_850 (zsx hx0 hx8 hN 1 (by decide) (by decide)) ?_
  refine r_virt1 (m1 := 0) (m2 := 0) (zW_mono _ _ _) lq_851 hr9 (Nat.le_of_ble_eq_true rfl) (by unfold zbud; rw [hG]; rfl) (by omega) (by omega) ?_
  refine zW_mono zTt G 64 _ _ _ _ _ ?_ k9
  rintro w h3 ⟨⟨y9, rfl⟩, e9, p9⟩
  refine r_pop (zW_mono _ _ _) lq_854 rfl ?_
  refine r_goto (zW_mono _ _ _) lq_855 ?_
  exact K h3 _ _ p9 (by omega) (by omega)
set_option maxHeartbeats 1000000 in
theorem lawop_must {G : zG} (hG : G.1 = zProg) (hN : G.2.2.1 ≤ 4096) {P : zH → Prop} {h : zH} {x : Int32} {q : Nat} (hx : x.toInt = 8 * q) (hq : 8 * q + 8 ≤ G.2.2.1) {c n : Nat} (hc : c ≤ 182 + 8 * q) (hn : n ≤ 43931 + 800 * q) (h0 : ∃ fs, h[0]? = some (.inr (11, fs))) (A : ∀ xs, zpB [zfI, zfI, zfI] xs → zW zTt G 64 126 (.ref 0 :: xs.map Value.int) h (fun w h2 => zTy 0 w ∧ (∃ fs, h2[111]? = some (.inr (12, fs))) ∧ zW zTt G 64 235 (.ref 111 :: xs.map Value.int) h2 (fun w2 h3 => zTy 0 w2 ∧ (false = true → w2 = w) ∧ P h3))) (K : ∀ h3 c n, P h3 → c ≤ 182 + 8 * (q + 1) → n ≤ 43931 + 800 * (q + 1) → zR zTt G cd_L 600000 7302250 (some .boolean) (zW zTt G 64) (fun w _ => w = some (.int 1)) 2138 [some (.retAddr 0), some (.ref 0), some (.ref 111), some (.int x)] [] h3 c n) : zR zTt G cd_L 600000 7302250 (some .boolean) (zW zTt G 64) (fun w _ => w = some (.int 1)) 858 [some (.retAddr 0), some (.ref 0), some (.ref 111), some (.int x)] [] h c n := by
  have hx0 : 0 ≤ x.toInt := by omega
  have hx8 : x.toInt + 8 ≤ G.2.2.1 := by omega
  obtain ⟨fs0, hx_0⟩ := h0
  refine r_aload (zW_mono _ _ _) lq_858 rfl ?_
  refine r_aloadS (zW_mono _ _ _) lq_859 rfl ?_
  refine r_iload (zW_mono _ _ _) lq_860 rfl ?_
  refine r_push (zW_mono _ _ _) lq_861 ?_
  refine r_iadd (zW_mono _ _ _) lq_862 ?_
  refine r_sld (zW_mono _ _ _) lq_863 (zsx hx0 hx8 hN 1 (by decide) (by decide)) ?_
  refine r_aloadS (zW_mono _ _ _) lq_864 rfl ?_
  refine r_iload (zW_mono _ _ _) lq_865 rfl ?_
  refine r_push (zW_mono _ _ _) lq_866 ?_
  refine r_iadd (zW_mono _ _ _) lq_867 ?_
  refine r_sld (zW_mono _ _ _) lq_868 (zsx hx0 hx8 hN 2 (by decide) (by decide)) ?_
  refine r_aloadS (zW_mono _ _ _) lq_869 rfl ?_
  refine r_iload (zW_mono _ _ _) lq_870 rfl ?_
  refine r_push (zW_mono _ _ _) lq_871 ?_
  refine r_iadd (zW_mono _ _ _) lq_872 ?_
  refine r_sld (zW_mono _ _ _) lq_873 (zsx hx0 hx8 hN 3 (by decide) (by decide)) ?_
  refine r_virt3 (m1 := 0) (m2 := 0) (zW_mono _ _ _) lq_874 hx_0 (Nat.le_of_ble_eq_true rfl) (by unfold zbud; rw [hG]; rfl) (by omega) (by omega) ?_
  refine zW_mono zTt G 64 _ _ _ _ _ ?_ (A [G.2.2.2 (x + 1).toNatClampNeg, G.2.2.2 (x + 2).toNatClampNeg, G.2.2.2 (x + 3).toNatClampNeg] ⟨zfI_ok _, zfI_ok _, zfI_ok _, trivial⟩)
  rintro w h2 ⟨⟨x9, rfl⟩, ⟨fs9, hr9⟩, k9⟩
  refine r_pop (zW_mono _ _ _) lq_877 rfl ?_
  refine r_aload (zW_mono _ _ _) lq_878 rfl ?_
  refine r_aloadS (zW_mono _ _ _) lq_879 rfl ?_
  refine r_iload (zW_mono _ _ _) lq_880 rfl ?_
  refine r_push (zW_mono _ _ _) lq_881 ?_
  refine r_iadd (zW_mono _ _ _) lq_882 ?_
  refine r_sld (zW_mono _ _ _) lq_883 (zsx hx0 hx8 hN 1 (by decide) (by decide)) ?_
  refine r_aloadS (zW_mono _ _ _) lq_884 rfl ?_
  refine r_iload (zW_mono _ _ _) lq_885 rfl ?_
  refine r_push (zW_mono _ _ _) lq_886 ?_
  refine r_iadd (zW_mono _ _ _) lq_887 ?_
  refine r_sld (zW_mono _ _ _) lq_888 (zsx hx0 hx8 hN 2 (by decide) (by decide)) ?_
  refine r_aloadS (zW_mono _ _ _) lq_889 rfl ?_
  refine r_iload (zW_mono _ _ _) lq_890 rfl ?_
  refine r_push (zW_mono _ _ _) lq_891 ?_
  refine r_iadd (zW_mono _ _ _) lq_892 ?_
  refine r_sld (zW_mono _ _ _) lq_893 (zsx hx0 hx8 hN 3 (by decide) (by decide)) ?_
  refine r_virt3 (m1 := 0) (m2 := 0) (zW_mono _ _ _) lq_894 hr9 (Nat.le_of_ble_eq_true rfl) (by unfold zbud; rw [hG]; rfl) (by omega) (by omega) ?_
  refine zW_mono zTt G 64 _ _ _ _ _ ?_ k9
  rintro w h3 ⟨⟨y9, rfl⟩, e9, p9⟩
  refine r_pop (zW_mono _ _ _) lq_897 rfl ?_
  refine r_goto (zW_mono _ _ _) lq_898 ?_
  exact K h3 _ _ p9 (by omega) (by omega)
set_option maxHeartbeats 1000000 in
theorem lawop_fails {G : zG} (hG : G.1 = zProg) (hN : G.2.2.1 ≤ 4096) {P : zH → Prop} {h : zH} {x : Int32} {q : Nat} (hx : x.toInt = 8 * q) (hq : 8 * q + 8 ≤ G.2.2.1) {c n : Nat} (hc : c ≤ 182 + 8 * q) (hn : n ≤ 43931 + 800 * q) (h0 : ∃ fs, h[0]? = some (.inr (11, fs))) (A : ∀ xs, zpB [zfI, zfI, zfI] xs → zW zTt G 64 127 (.ref 0 :: xs.map Value.int) h (fun w h2 => zTy 0 w ∧ (∃ fs, h2[111]? = some (.inr (12, fs))) ∧ zW zTt G 64 236 (.ref 111 :: xs.map Value.int) h2 (fun w2 h3 => zTy 0 w2 ∧ (false = true → w2 = w) ∧ P h3))) (K : ∀ h3 c n, P h3 → c ≤ 182 + 8 * (q + 1) → n ≤ 43931 + 800 * (q + 1) → zR zTt G cd_L 600000 7302250 (some .boolean) (zW zTt G 64) (fun w _ => w = some (.int 1)) 2138 [some (.retAddr 0), some (.ref 0), some (.ref 111), some (.int x)] [] h3 c n) : zR zTt G cd_L 600000 7302250 (some .boolean) (zW zTt G 64) (fun w _ => w = some (.int 1)) 901 [some (.retAddr 0), some (.ref 0), some (.ref 111), some (.int x)] [] h c n := by
  have hx0 : 0 ≤ x.toInt := by omega
  have hx8 : x.toInt + 8 ≤ G.2.2.1 := by omega
  obtain ⟨fs0, hx_0⟩ := h0
  refine r_aload (zW_mono _ _ _) lq_901 rfl ?_
  refine r_aloadS (zW_mono _ _ _) lq_902 rfl ?_
  refine r_iload (zW_mono _ _ _) lq_903 rfl ?_
  refine r_push (zW_mono _ _ _) lq_904 ?_
  refine r_iadd (zW_mono _ _ _) lq_905 ?_
  refine r_sld (zW_mono _ _ _) lq_906 (zsx hx0 hx8 hN 1 (by decide) (by decide)) ?_
  refine r_aloadS (zW_mono _ _ _) lq_907 rfl ?_
  refine r_iload (zW_mono _ _ _) lq_908 rfl ?_
  refine r_push (zW_mono _ _ _) lq_909 ?_
  refine r_iadd (zW_mono _ _ _) lq_910 ?_
  refine r_sld (zW_mono _ _ _) lq_911 (zsx hx0 hx8 hN 2 (by decide) (by decide)) ?_
  refine r_aloadS (zW_mono _ _ _) lq_912 rfl ?_
  refine r_iload (zW_mono _ _ _) lq_913 rfl ?_
  refine r_push (zW_mono _ _ _) lq_914 ?_
  refine r_iadd (zW_mono _ _ _) lq_915 ?_
  refine r_sld (zW_mono _ _ _) lq_916 (zsx hx0 hx8 hN 3 (by decide) (by decide)) ?_
  refine r_virt3 (m1 := 0) (m2 := 0) (zW_mono _ _ _) lq_917 hx_0 (Nat.le_of_ble_eq_true rfl) (by unfold zbud; rw [hG]; rfl) (by omega) (by omega) ?_
  refine zW_mono zTt G 64 _ _ _ _ _ ?_ (A [G.2.2.2 (x + 1).toNatClampNeg, G.2.2.2 (x + 2).toNatClampNeg, G.2.2.2 (x + 3).toNatClampNeg] ⟨zfI_ok _, zfI_ok _, zfI_ok _, trivial⟩)
  rintro w h2 ⟨⟨x9, rfl⟩, ⟨fs9, hr9⟩, k9⟩
  refine r_pop (zW_mono _ _ _) lq_920 rfl ?_
  refine r_aload (zW_mono _ _ _) lq_921 rfl ?_
  refine r_aloadS (zW_mono _ _ _) lq_922 rfl ?_
  refine r_iload (zW_mono _ _ _) lq_923 rfl ?_
  refine r_push (zW_mono _ _ _) lq_924 ?_
  refine r_iadd (zW_mono _ _ _) lq_925 ?_
  refine r_sld (zW_mono _ _ _) lq_926 (zsx hx0 hx8 hN 1 (by decide) (by decide)) ?_
  refine r_aloadS (zW_mono _ _ _) lq_927 rfl ?_
  refine r_iload (zW_mono _ _ _) lq_928 rfl ?_
  refine r_push (zW_mono _ _ _) lq_929 ?_
  refine r_iadd (zW_mono _ _ _) lq_930 ?_
  refine r_sld (zW_mono _ _ _) lq_931 (zsx hx0 hx8 hN 2 (by decide) (by decide)) ?_
  refine r_aloadS (zW_mono _ _ _) lq_932 rfl ?_
  refine r_iload (zW_mono _ _ _) lq_933 rfl ?_
  refine r_push (zW_mono _ _ _) lq_934 ?_
  refine r_iadd (zW_mono _ _ _) lq_935 ?_
  refine r_sld (zW_mono _ _ _) lq_936 (zsx hx0 hx8 hN 3 (by decide) (by decide)) ?_
  refine r_virt3 (m1 := 0) (m2 := 0) (zW_mono _ _ _) lq_937 hr9 (Nat.le_of_ble_eq_true rfl) (by unfold zbud; rw [hG]; rfl) (by omega) (by omega) ?_
  refine zW_mono zTt G 64 _ _ _ _ _ ?_ k9
  rintro w h3 ⟨⟨y9, rfl⟩, e9, p9⟩
  refine r_pop (zW_mono _ _ _) lq_940 rfl ?_
  refine r_goto (zW_mono _ _ _) lq_941 ?_
  exact K h3 _ _ p9 (by omega) (by omega)
set_option maxHeartbeats 1000000 in
theorem lawop_owed {G : zG} (hG : G.1 = zProg) (hN : G.2.2.1 ≤ 4096) {P : zH → Prop} {h : zH} {x : Int32} {q : Nat} (hx : x.toInt = 8 * q) (hq : 8 * q + 8 ≤ G.2.2.1) {c n : Nat} (hc : c ≤ 182 + 8 * q) (hn : n ≤ 43931 + 800 * q) (h0 : ∃ fs, h[0]? = some (.inr (11, fs))) (A : ∀ xs, zpB [zfI, zfI] xs → zW zTt G 64 128 (.ref 0 :: xs.map Value.int) h (fun w h2 => zTy 0 w ∧ (∃ fs, h2[111]? = some (.inr (12, fs))) ∧ zW zTt G 64 237 (.ref 111 :: xs.map Value.int) h2 (fun w2 h3 => zTy 0 w2 ∧ (false = true → w2 = w) ∧ P h3))) (K : ∀ h3 c n, P h3 → c ≤ 182 + 8 * (q + 1) → n ≤ 43931 + 800 * (q + 1) → zR zTt G cd_L 600000 7302250 (some .boolean) (zW zTt G 64) (fun w _ => w = some (.int 1)) 2138 [some (.retAddr 0), some (.ref 0), some (.ref 111), some (.int x)] [] h3 c n) : zR zTt G cd_L 600000 7302250 (some .boolean) (zW zTt G 64) (fun w _ => w = some (.int 1)) 944 [some (.retAddr 0), some (.ref 0), some (.ref 111), some (.int x)] [] h c n := by
  have hx0 : 0 ≤ x.toInt := by omega
  have hx8 : x.toInt + 8 ≤ G.2.2.1 := by omega
  obtain ⟨fs0, hx_0⟩ := h0
  refine r_aload (zW_mono _ _ _) lq_944 rfl ?_
  refine r_aloadS (zW_mono _ _ _) lq_945 rfl ?_
  refine r_iload (zW_mono _ _ _) lq_946 rfl ?_
  refine r_push (zW_mono _ _ _) lq_947 ?_
  refine r_iadd (zW_mono _ _ _) lq_948 ?_
  refine r_sld (zW_mono _ _ _) lq_949 (zsx hx0 hx8 hN 1 (by decide) (by decide)) ?_
  refine r_aloadS (zW_mono _ _ _) lq_950 rfl ?_
  refine r_iload (zW_mono _ _ _) lq_951 rfl ?_
  refine r_push (zW_mono _ _ _) lq_952 ?_
  refine r_iadd (zW_mono _ _ _) lq_953 ?_
  refine r_sld (zW_mono _ _ _) lq_954 (zsx hx0 hx8 hN 2 (by decide) (by decide)) ?_
  refine r_virt2 (m1 := 0) (m2 := 0) (zW_mono _ _ _) lq_955 hx_0 (Nat.le_of_ble_eq_true rfl) (by unfold zbud; rw [hG]; rfl) (by omega) (by omega) ?_
  refine zW_mono zTt G 64 _ _ _ _ _ ?_ (A [G.2.2.2 (x + 1).toNatClampNeg, G.2.2.2 (x + 2).toNatClampNeg] ⟨zfI_ok _, zfI_ok _, trivial⟩)
  rintro w h2 ⟨⟨x9, rfl⟩, ⟨fs9, hr9⟩, k9⟩
  refine r_pop (zW_mono _ _ _) lq_958 rfl ?_
  refine r_aload (zW_mono _ _ _) lq_959 rfl ?_
  refine r_aloadS (zW_mono _ _ _) lq_960 rfl ?_
  refine r_iload (zW_mono _ _ _) lq_961 rfl ?_
  refine r_push (zW_mono _ _ _) lq_962 ?_
  refine r_iadd (zW_mono _ _ _) lq_963 ?_
  refine r_sld (zW_mono _ _ _) lq_964 (zsx hx0 hx8 hN 1 (by decide) (by decide)) ?_
  refine r_aloadS (zW_mono _ _ _) lq_965 rfl ?_
  refine r_iload (zW_mono _ _ _) lq_966 rfl ?_
  refine r_push (zW_mono _ _ _) lq_967 ?_
  refine r_iadd (zW_mono _ _ _) lq_968 ?_
  refine r_sld (zW_mono _ _ _) lq_969 (zsx hx0 hx8 hN 2 (by decide) (by decide)) ?_
  refine r_virt2 (m1 := 0) (m2 := 0) (zW_mono _ _ _) lq_970 hr9 (Nat.le_of_ble_eq_true rfl) (by unfold zbud; rw [hG]; rfl) (by omega) (by omega) ?_
  refine zW_mono zTt G 64 _ _ _ _ _ ?_ k9
  rintro w h3 ⟨⟨y9, rfl⟩, e9, p9⟩
  refine r_pop (zW_mono _ _ _) lq_973 rfl ?_
  refine r_goto (zW_mono _ _ _) lq_974 ?_
  exact K h3 _ _ p9 (by omega) (by omega)
set_option maxHeartbeats 1000000 in
theorem lawop_test {G : zG} (hG : G.1 = zProg) (hN : G.2.2.1 ≤ 4096) {P : zH → Prop} {h : zH} {x : Int32} {q : Nat} (hx : x.toInt = 8 * q) (hq : 8 * q + 8 ≤ G.2.2.1) {c n : Nat} (hc : c ≤ 182 + 8 * q) (hn : n ≤ 43931 + 800 * q) (h0 : ∃ fs, h[0]? = some (.inr (11, fs))) (A : ∀ xs, zpB [zfI, zfI, zfI, zbI] xs → zW zTt G 64 129 (.ref 0 :: xs.map Value.int) h (fun w h2 => zTy 0 w ∧ (∃ fs, h2[111]? = some (.inr (12, fs))) ∧ zW zTt G 64 238 (.ref 111 :: xs.map Value.int) h2 (fun w2 h3 => zTy 0 w2 ∧ (false = true → w2 = w) ∧ P h3))) (K : ∀ h3 c n, P h3 → c ≤ 182 + 8 * (q + 1) → n ≤ 43931 + 800 * (q + 1) → zR zTt G cd_L 600000 7302250 (some .boolean) (zW zTt G 64) (fun w _ => w = some (.int 1)) 2138 [some (.retAddr 0), some (.ref 0), some (.ref 111), some (.int x)] [] h3 c n) : zR zTt G cd_L 600000 7302250 (some .boolean) (zW zTt G 64) (fun w _ => w = some (.int 1)) 977 [some (.retAddr 0), some (.ref 0), some (.ref 111), some (.int x)] [] h c n := by
  have hx0 : 0 ≤ x.toInt := by omega
  have hx8 : x.toInt + 8 ≤ G.2.2.1 := by omega
  obtain ⟨fs0, hx_0⟩ := h0
  refine r_aload (zW_mono _ _ _) lq_977 rfl ?_
  refine r_aloadS (zW_mono _ _ _) lq_978 rfl ?_
  refine r_iload (zW_mono _ _ _) lq_979 rfl ?_
  refine r_push (zW_mono _ _ _) lq_980 ?_
  refine r_iadd (zW_mono _ _ _) lq_981 ?_
  refine r_sld (zW_mono _ _ _) lq_982 (zsx hx0 hx8 hN 1 (by decide) (by decide)) ?_
  refine r_aloadS (zW_mono _ _ _) lq_983 rfl ?_
  refine r_iload (zW_mono _ _ _) lq_984 rfl ?_
  refine r_push (zW_mono _ _ _) lq_985 ?_
  refine r_iadd (zW_mono _ _ _) lq_986 ?_
  refine r_sld (zW_mono _ _ _) lq_987 (zsx hx0 hx8 hN 2 (by decide) (by decide)) ?_
  refine r_aloadS (zW_mono _ _ _) lq_988 rfl ?_
  refine r_iload (zW_mono _ _ _) lq_989 rfl ?_
  refine r_push (zW_mono _ _ _) lq_990 ?_
  refine r_iadd (zW_mono _ _ _) lq_991 ?_
  refine r_sld (zW_mono _ _ _) lq_992 (zsx hx0 hx8 hN 3 (by decide) (by decide)) ?_
  refine r_aloadS (zW_mono _ _ _) lq_993 rfl ?_
  refine r_iload (zW_mono _ _ _) lq_994 rfl ?_
  refine r_push (zW_mono _ _ _) lq_995 ?_
  refine r_iadd (zW_mono _ _ _) lq_996 ?_
  refine r_sld (zW_mono _ _ _) lq_997 (zsx hx0 hx8 hN 4 (by decide) (by decide)) ?_
  refine r_if_eq (zW_mono _ _ _) lq_998 (fun q4 => ?_) (fun q4 => ?_)
  · refine r_push (zW_mono _ _ _) lq_1005 ?_
    refine r_virt4 (m1 := 0) (m2 := 0) (zW_mono _ _ _) lq_1006 hx_0 (Nat.le_of_ble_eq_true rfl) (by unfold zbud; rw [hG]; rfl) (by omega) (by omega) ?_
    refine zW_mono zTt G 64 _ _ _ _ _ ?_ (A [G.2.2.2 (x + 1).toNatClampNeg, G.2.2.2 (x + 2).toNatClampNeg, G.2.2.2 (x + 3).toNatClampNeg, 0] ⟨zfI_ok _, zfI_ok _, zfI_ok _, ⟨by decide, by decide⟩, trivial⟩)
    rintro w h2 ⟨⟨x9, rfl⟩, ⟨fs9, hr9⟩, k9⟩
    refine r_pop (zW_mono _ _ _) lq_1009 rfl ?_
    refine r_aload (zW_mono _ _ _) lq_1010 rfl ?_
    refine r_aloadS (zW_mono _ _ _) lq_1011 rfl ?_
    refine r_iload (zW_mono _ _ _) lq_1012 rfl ?_
    refine r_push (zW_mono _ _ _) lq_1013 ?_
    refine r_iadd (zW_mono _ _ _) lq_1014 ?_
    refine r_sld (zW_mono _ _ _) lq_1015 (zsx hx0 hx8 hN 1 (by decide) (by decide)) ?_
    refine r_aloadS (zW_mono _ _ _) lq_1016 rfl ?_
    refine r_iload (zW_mono _ _ _) lq_1017 rfl ?_
    refine r_push (zW_mono _ _ _) lq_1018 ?_
    refine r_iadd (zW_mono _ _ _) lq_1019 ?_
    refine r_sld (zW_mono _ _ _) lq_1020 (zsx hx0 hx8 hN 2 (by decide) (by decide)) ?_
    refine r_aloadS (zW_mono _ _ _) lq_1021 rfl ?_
    refine r_iload (zW_mono _ _ _) lq_1022 rfl ?_
    refine r_push (zW_mono _ _ _) lq_1023 ?_
    refine r_iadd (zW_mono _ _ _) lq_1024 ?_
    refine r_sld (zW_mono _ _ _) lq_1025 (zsx hx0 hx8 hN 3 (by decide) (by decide)) ?_
    refine r_aloadS (zW_mono _ _ _) lq_1026 rfl ?_
    refine r_iload (zW_mono _ _ _) lq_1027 rfl ?_
    refine r_push (zW_mono _ _ _) lq_1028 ?_
    refine r_iadd (zW_mono _ _ _) lq_1029 ?_
    refine r_sld (zW_mono _ _ _) lq_1030 (zsx hx0 hx8 hN 4 (by decide) (by decide)) ?_
    refine r_if_eq (zW_mono _ _ _) lq_1031 (fun _ => ?_) (fun q => absurd q4 q)
    refine r_push (zW_mono _ _ _) lq_1038 ?_
    refine r_virt4 (m1 := 0) (m2 := 0) (zW_mono _ _ _) lq_1039 hr9 (Nat.le_of_ble_eq_true rfl) (by unfold zbud; rw [hG]; rfl) (by omega) (by omega) ?_
    refine zW_mono zTt G 64 _ _ _ _ _ ?_ k9
    rintro w h3 ⟨⟨y9, rfl⟩, e9, p9⟩
    refine r_pop (zW_mono _ _ _) lq_1042 rfl ?_
    refine r_goto (zW_mono _ _ _) lq_1043 ?_
    exact K h3 _ _ p9 (by omega) (by omega)
  · refine r_push (zW_mono _ _ _) lq_1001 ?_
    refine r_goto (zW_mono _ _ _) lq_1002 ?_
    refine r_virt4 (m1 := 0) (m2 := 0) (zW_mono _ _ _) lq_1006 hx_0 (Nat.le_of_ble_eq_true rfl) (by unfold zbud; rw [hG]; rfl) (by omega) (by omega) ?_
    refine zW_mono zTt G 64 _ _ _ _ _ ?_ (A [G.2.2.2 (x + 1).toNatClampNeg, G.2.2.2 (x + 2).toNatClampNeg, G.2.2.2 (x + 3).toNatClampNeg, 1] ⟨zfI_ok _, zfI_ok _, zfI_ok _, ⟨by decide, by decide⟩, trivial⟩)
    rintro w h2 ⟨⟨x9, rfl⟩, ⟨fs9, hr9⟩, k9⟩
    refine r_pop (zW_mono _ _ _) lq_1009 rfl ?_
    refine r_aload (zW_mono _ _ _) lq_1010 rfl ?_
    refine r_aloadS (zW_mono _ _ _) lq_1011 rfl ?_
    refine r_iload (zW_mono _ _ _) lq_1012 rfl ?_
    refine r_push (zW_mono _ _ _) lq_1013 ?_
    refine r_iadd (zW_mono _ _ _) lq_1014 ?_
    refine r_sld (zW_mono _ _ _) lq_1015 (zsx hx0 hx8 hN 1 (by decide) (by decide)) ?_
    refine r_aloadS (zW_mono _ _ _) lq_1016 rfl ?_
    refine r_iload (zW_mono _ _ _) lq_1017 rfl ?_
    refine r_push (zW_mono _ _ _) lq_1018 ?_
    refine r_iadd (zW_mono _ _ _) lq_1019 ?_
    refine r_sld (zW_mono _ _ _) lq_1020 (zsx hx0 hx8 hN 2 (by decide) (by decide)) ?_
    refine r_aloadS (zW_mono _ _ _) lq_1021 rfl ?_
    refine r_iload (zW_mono _ _ _) lq_1022 rfl ?_
    refine r_push (zW_mono _ _ _) lq_1023 ?_
    refine r_iadd (zW_mono _ _ _) lq_1024 ?_
    refine r_sld (zW_mono _ _ _) lq_1025 (zsx hx0 hx8 hN 3 (by decide) (by decide)) ?_
    refine r_aloadS (zW_mono _ _ _) lq_1026 rfl ?_
    refine r_iload (zW_mono _ _ _) lq_1027 rfl ?_
    refine r_push (zW_mono _ _ _) lq_1028 ?_
    refine r_iadd (zW_mono _ _ _) lq_1029 ?_
    refine r_sld (zW_mono _ _ _) lq_1030 (zsx hx0 hx8 hN 4 (by decide) (by decide)) ?_
    refine r_if_eq (zW_mono _ _ _) lq_1031 (fun q => absurd q q4) (fun _ => ?_)
    refine r_push (zW_mono _ _ _) lq_1034 ?_
    refine r_goto (zW_mono _ _ _) lq_1035 ?_
    refine r_virt4 (m1 := 0) (m2 := 0) (zW_mono _ _ _) lq_1039 hr9 (Nat.le_of_ble_eq_true rfl) (by unfold zbud; rw [hG]; rfl) (by omega) (by omega) ?_
    refine zW_mono zTt G 64 _ _ _ _ _ ?_ k9
    rintro w h3 ⟨⟨y9, rfl⟩, e9, p9⟩
    refine r_pop (zW_mono _ _ _) lq_1042 rfl ?_
    refine r_goto (zW_mono _ _ _) lq_1043 ?_
    exact K h3 _ _ p9 (by omega) (by omega)
set_option maxHeartbeats 1000000 in
theorem lawop_reads {G : zG} (hG : G.1 = zProg) (hN : G.2.2.1 ≤ 4096) {P : zH → Prop} {h : zH} {x : Int32} {q : Nat} (hx : x.toInt = 8 * q) (hq : 8 * q + 8 ≤ G.2.2.1) {c n : Nat} (hc : c ≤ 182 + 8 * q) (hn : n ≤ 43931 + 800 * q) (h0 : ∃ fs, h[0]? = some (.inr (11, fs))) (A : ∀ xs, zpB [zfI, zfI] xs → zW zTt G 64 130 (.ref 0 :: xs.map Value.int) h (fun w h2 => zTy 0 w ∧ (∃ fs, h2[111]? = some (.inr (12, fs))) ∧ zW zTt G 64 239 (.ref 111 :: xs.map Value.int) h2 (fun w2 h3 => zTy 0 w2 ∧ (true = true → w2 = w) ∧ P h3))) (K : ∀ h3 c n, P h3 → c ≤ 182 + 8 * (q + 1) → n ≤ 43931 + 800 * (q + 1) → zR zTt G cd_L 600000 7302250 (some .boolean) (zW zTt G 64) (fun w _ => w = some (.int 1)) 2138 [some (.retAddr 0), some (.ref 0), some (.ref 111), some (.int x)] [] h3 c n) : zR zTt G cd_L 600000 7302250 (some .boolean) (zW zTt G 64) (fun w _ => w = some (.int 1)) 1046 [some (.retAddr 0), some (.ref 0), some (.ref 111), some (.int x)] [] h c n := by
  have hx0 : 0 ≤ x.toInt := by omega
  have hx8 : x.toInt + 8 ≤ G.2.2.1 := by omega
  obtain ⟨fs0, hx_0⟩ := h0
  refine r_aload (zW_mono _ _ _) lq_1046 rfl ?_
  refine r_aloadS (zW_mono _ _ _) lq_1047 rfl ?_
  refine r_iload (zW_mono _ _ _) lq_1048 rfl ?_
  refine r_push (zW_mono _ _ _) lq_1049 ?_
  refine r_iadd (zW_mono _ _ _) lq_1050 ?_
  refine r_sld (zW_mono _ _ _) lq_1051 (zsx hx0 hx8 hN 1 (by decide) (by decide)) ?_
  refine r_aloadS (zW_mono _ _ _) lq_1052 rfl ?_
  refine r_iload (zW_mono _ _ _) lq_1053 rfl ?_
  refine r_push (zW_mono _ _ _) lq_1054 ?_
  refine r_iadd (zW_mono _ _ _) lq_1055 ?_
  refine r_sld (zW_mono _ _ _) lq_1056 (zsx hx0 hx8 hN 2 (by decide) (by decide)) ?_
  refine r_virt2 (m1 := 0) (m2 := 0) (zW_mono _ _ _) lq_1057 hx_0 (Nat.le_of_ble_eq_true rfl) (by unfold zbud; rw [hG]; rfl) (by omega) (by omega) ?_
  refine zW_mono zTt G 64 _ _ _ _ _ ?_ (A [G.2.2.2 (x + 1).toNatClampNeg, G.2.2.2 (x + 2).toNatClampNeg] ⟨zfI_ok _, zfI_ok _, trivial⟩)
  rintro w h2 ⟨⟨x9, rfl⟩, ⟨fs9, hr9⟩, k9⟩
  refine r_aload (zW_mono _ _ _) lq_1060 rfl ?_
  refine r_aloadS (zW_mono _ _ _) lq_1061 rfl ?_
  refine r_iload (zW_mono _ _ _) lq_1062 rfl ?_
  refine r_push (zW_mono _ _ _) lq_1063 ?_
  refine r_iadd (zW_mono _ _ _) lq_1064 ?_
  refine r_sld (zW_mono _ _ _) lq_1065 (zsx hx0 hx8 hN 1 (by decide) (by decide)) ?_
  refine r_aloadS (zW_mono _ _ _) lq_1066 rfl ?_
  refine r_iload (zW_mono _ _ _) lq_1067 rfl ?_
  refine r_push (zW_mono _ _ _) lq_1068 ?_
  refine r_iadd (zW_mono _ _ _) lq_1069 ?_
  refine r_sld (zW_mono _ _ _) lq_1070 (zsx hx0 hx8 hN 2 (by decide) (by decide)) ?_
  refine r_virt2 (m1 := 0) (m2 := 0) (zW_mono _ _ _) lq_1071 hr9 (Nat.le_of_ble_eq_true rfl) (by unfold zbud; rw [hG]; rfl) (by omega) (by omega) ?_
  refine zW_mono zTt G 64 _ _ _ _ _ ?_ k9
  rintro w h3 ⟨⟨y9, rfl⟩, e9, p9⟩
  cases e9 rfl
  refine r_icmp_eq (zW_mono _ _ _) lq_1074 (fun _ => ?_) (fun q => absurd rfl q)
  exact K h3 _ _ p9 (by omega) (by omega)
set_option maxHeartbeats 1000000 in
theorem lawop_knew {G : zG} (hG : G.1 = zProg) (hN : G.2.2.1 ≤ 4096) {P : zH → Prop} {h : zH} {x : Int32} {q : Nat} (hx : x.toInt = 8 * q) (hq : 8 * q + 8 ≤ G.2.2.1) {c n : Nat} (hc : c ≤ 182 + 8 * q) (hn : n ≤ 43931 + 800 * q) (h0 : ∃ fs, h[0]? = some (.inr (11, fs))) (A : ∀ xs, zpB [zfI, zfI, zfI, zfI, zfI] xs → zW zTt G 64 131 (.ref 0 :: xs.map Value.int) h (fun w h2 => zTy 0 w ∧ (∃ fs, h2[111]? = some (.inr (12, fs))) ∧ zW zTt G 64 241 (.ref 111 :: xs.map Value.int) h2 (fun w2 h3 => zTy 0 w2 ∧ (false = true → w2 = w) ∧ P h3))) (K : ∀ h3 c n, P h3 → c ≤ 182 + 8 * (q + 1) → n ≤ 43931 + 800 * (q + 1) → zR zTt G cd_L 600000 7302250 (some .boolean) (zW zTt G 64) (fun w _ => w = some (.int 1)) 2138 [some (.retAddr 0), some (.ref 0), some (.ref 111), some (.int x)] [] h3 c n) : zR zTt G cd_L 600000 7302250 (some .boolean) (zW zTt G 64) (fun w _ => w = some (.int 1)) 1079 [some (.retAddr 0), some (.ref 0), some (.ref 111), some (.int x)] [] h c n := by
  have hx0 : 0 ≤ x.toInt := by omega
  have hx8 : x.toInt + 8 ≤ G.2.2.1 := by omega
  obtain ⟨fs0, hx_0⟩ := h0
  refine r_aload (zW_mono _ _ _) lq_1079 rfl ?_
  refine r_aloadS (zW_mono _ _ _) lq_1080 rfl ?_
  refine r_iload (zW_mono _ _ _) lq_1081 rfl ?_
  refine r_push (zW_mono _ _ _) lq_1082 ?_
  refine r_iadd (zW_mono _ _ _) lq_1083 ?_
  refine r_sld (zW_mono _ _ _) lq_1084 (zsx hx0 hx8 hN 1 (by decide) (by decide)) ?_
  refine r_aloadS (zW_mono _ _ _) lq_1085 rfl ?_
  refine r_iload (zW_mono _ _ _) lq_1086 rfl ?_
  refine r_push (zW_mono _ _ _) lq_1087 ?_
  refine r_iadd (zW_mono _ _ _) lq_1088 ?_
  refine r_sld (zW_mono _ _ _) lq_1089 (zsx hx0 hx8 hN 2 (by decide) (by decide)) ?_
  refine r_aloadS (zW_mono _ _ _) lq_1090 rfl ?_
  refine r_iload (zW_mono _ _ _) lq_1091 rfl ?_
  refine r_push (zW_mono _ _ _) lq_1092 ?_
  refine r_iadd (zW_mono _ _ _) lq_1093 ?_
  refine r_sld (zW_mono _ _ _) lq_1094 (zsx hx0 hx8 hN 3 (by decide) (by decide)) ?_
  refine r_aloadS (zW_mono _ _ _) lq_1095 rfl ?_
  refine r_iload (zW_mono _ _ _) lq_1096 rfl ?_
  refine r_push (zW_mono _ _ _) lq_1097 ?_
  refine r_iadd (zW_mono _ _ _) lq_1098 ?_
  refine r_sld (zW_mono _ _ _) lq_1099 (zsx hx0 hx8 hN 4 (by decide) (by decide)) ?_
  refine r_aloadS (zW_mono _ _ _) lq_1100 rfl ?_
  refine r_iload (zW_mono _ _ _) lq_1101 rfl ?_
  refine r_push (zW_mono _ _ _) lq_1102 ?_
  refine r_iadd (zW_mono _ _ _) lq_1103 ?_
  refine r_sld (zW_mono _ _ _) lq_1104 (zsx hx0 hx8 hN 5 (by decide) (by decide)) ?_
  refine r_virt5 (m1 := 0) (m2 := 0) (zW_mono _ _ _) lq_1105 hx_0 (Nat.le_of_ble_eq_true rfl) (by unfold zbud; rw [hG]; rfl) (by omega) (by omega) ?_
  refine zW_mono zTt G 64 _ _ _ _ _ ?_ (A [G.2.2.2 (x + 1).toNatClampNeg, G.2.2.2 (x + 2).toNatClampNeg, G.2.2.2 (x + 3).toNatClampNeg, G.2.2.2 (x + 4).toNatClampNeg, G.2.2.2 (x + 5).toNatClampNeg] ⟨zfI_ok _, zfI_ok _, zfI_ok _, zfI_ok _, zfI_ok _, trivial⟩)
  rintro w h2 ⟨⟨x9, rfl⟩, ⟨fs9, hr9⟩, k9⟩
  refine r_pop (zW_mono _ _ _) lq_1108 rfl ?_
  refine r_aload (zW_mono _ _ _) lq_1109 rfl ?_
  refine r_aloadS (zW_mono _ _ _) lq_1110 rfl ?_
  refine r_iload (zW_mono _ _ _) lq_1111 rfl ?_
  refine r_push (zW_mono _ _ _) lq_1112 ?_
  refine r_iadd (zW_mono _ _ _) lq_1113 ?_
  refine r_sld (zW_mono _ _ _) lq_1114 (zsx hx0 hx8 hN 1 (by decide) (by decide)) ?_
  refine r_aloadS (zW_mono _ _ _) lq_1115 rfl ?_
  refine r_iload (zW_mono _ _ _) lq_1116 rfl ?_
  refine r_push (zW_mono _ _ _) lq_1117 ?_
  refine r_iadd (zW_mono _ _ _) lq_1118 ?_
  refine r_sld (zW_mono _ _ _) lq_1119 (zsx hx0 hx8 hN 2 (by decide) (by decide)) ?_
  refine r_aloadS (zW_mono _ _ _) lq_1120 rfl ?_
  refine r_iload (zW_mono _ _ _) lq_1121 rfl ?_
  refine r_push (zW_mono _ _ _) lq_1122 ?_
  refine r_iadd (zW_mono _ _ _) lq_1123 ?_
  refine r_sld (zW_mono _ _ _) lq_1124 (zsx hx0 hx8 hN 3 (by decide) (by decide)) ?_
  refine r_aloadS (zW_mono _ _ _) lq_1125 rfl ?_
  refine r_iload (zW_mono _ _ _) lq_1126 rfl ?_
  refine r_push (zW_mono _ _ _) lq_1127 ?_
  refine r_iadd (zW_mono _ _ _) lq_1128 ?_
  refine r_sld (zW_mono _ _ _) lq_1129 (zsx hx0 hx8 hN 4 (by decide) (by decide)) ?_
  refine r_aloadS (zW_mono _ _ _) lq_1130 rfl ?_
  refine r_iload (zW_mono _ _ _) lq_1131 rfl ?_
  refine r_push (zW_mono _ _ _) lq_1132 ?_
  refine r_iadd (zW_mono _ _ _) lq_1133 ?_
  refine r_sld (zW_mono _ _ _) lq_1134 (zsx hx0 hx8 hN 5 (by decide) (by decide)) ?_
  refine r_virt5 (m1 := 0) (m2 := 0) (zW_mono _ _ _) lq_1135 hr9 (Nat.le_of_ble_eq_true rfl) (by unfold zbud; rw [hG]; rfl) (by omega) (by omega) ?_
  refine zW_mono zTt G 64 _ _ _ _ _ ?_ k9
  rintro w h3 ⟨⟨y9, rfl⟩, e9, p9⟩
  refine r_pop (zW_mono _ _ _) lq_1138 rfl ?_
  refine r_goto (zW_mono _ _ _) lq_1139 ?_
  exact K h3 _ _ p9 (by omega) (by omega)
set_option maxHeartbeats 1000000 in
theorem lawop_knewFails {G : zG} (hG : G.1 = zProg) (hN : G.2.2.1 ≤ 4096) {P : zH → Prop} {h : zH} {x : Int32} {q : Nat} (hx : x.toInt = 8 * q) (hq : 8 * q + 8 ≤ G.2.2.1) {c n : Nat} (hc : c ≤ 182 + 8 * q) (hn : n ≤ 43931 + 800 * q) (h0 : ∃ fs, h[0]? = some (.inr (11, fs))) (A : ∀ xs, zpB [zfI, zfI, zfI] xs → zW zTt G 64 132 (.ref 0 :: xs.map Value.int) h (fun w h2 => zTy 0 w ∧ (∃ fs, h2[111]? = some (.inr (12, fs))) ∧ zW zTt G 64 243 (.ref 111 :: xs.map Value.int) h2 (fun w2 h3 => zTy 0 w2 ∧ (false = true → w2 = w) ∧ P h3))) (K : ∀ h3 c n, P h3 → c ≤ 182 + 8 * (q + 1) → n ≤ 43931 + 800 * (q + 1) → zR zTt G cd_L 600000 7302250 (some .boolean) (zW zTt G 64) (fun w _ => w = some (.int 1)) 2138 [some (.retAddr 0), some (.ref 0), some (.ref 111), some (.int x)] [] h3 c n) : zR zTt G cd_L 600000 7302250 (some .boolean) (zW zTt G 64) (fun w _ => w = some (.int 1)) 1142 [some (.retAddr 0), some (.ref 0), some (.ref 111), some (.int x)] [] h c n := by
  have hx0 : 0 ≤ x.toInt := by omega
  have hx8 : x.toInt + 8 ≤ G.2.2.1 := by omega
  obtain ⟨fs0, hx_0⟩ := h0
  refine r_aload (zW_mono _ _ _) lq_1142 rfl ?_
  refine r_aloadS (zW_mono _ _ _) lq_1143 rfl ?_
  refine r_iload (zW_mono _ _ _) lq_1144 rfl ?_
  refine r_push (zW_mono _ _ _) lq_1145 ?_
  refine r_iadd (zW_mono _ _ _) lq_1146 ?_
  refine r_sld (zW_mono _ _ _) lq_1147 (zsx hx0 hx8 hN 1 (by decide) (by decide)) ?_
  refine r_aloadS (zW_mono _ _ _) lq_1148 rfl ?_
  refine r_iload (zW_mono _ _ _) lq_1149 rfl ?_
  refine r_push (zW_mono _ _ _) lq_1150 ?_
  refine r_iadd (zW_mono _ _ _) lq_1151 ?_
  refine r_sld (zW_mono _ _ _) lq_1152 (zsx hx0 hx8 hN 2 (by decide) (by decide)) ?_
  refine r_aloadS (zW_mono _ _ _) lq_1153 rfl ?_
  refine r_iload (zW_mono _ _ _) lq_1154 rfl ?_
  refine r_push (zW_mono _ _ _) lq_1155 ?_
  refine r_iadd (zW_mono _ _ _) lq_1156 ?_
  refine r_sld (zW_mono _ _ _) lq_1157 (zsx hx0 hx8 hN 3 (by decide) (by decide)) ?_
  refine r_virt3 (m1 := 0) (m2 := 0) (zW_mono _ _ _) lq_1158 hx_0 (Nat.le_of_ble_eq_true rfl) (by unfold zbud; rw [hG]; rfl) (by omega) (by omega) ?_
  refine zW_mono zTt G 64 _ _ _ _ _ ?_ (A [G.2.2.2 (x + 1).toNatClampNeg, G.2.2.2 (x + 2).toNatClampNeg, G.2.2.2 (x + 3).toNatClampNeg] ⟨zfI_ok _, zfI_ok _, zfI_ok _, trivial⟩)
  rintro w h2 ⟨⟨x9, rfl⟩, ⟨fs9, hr9⟩, k9⟩
  refine r_pop (zW_mono _ _ _) lq_1161 rfl ?_
  refine r_aload (zW_mono _ _ _) lq_1162 rfl ?_
  refine r_aloadS (zW_mono _ _ _) lq_1163 rfl ?_
  refine r_iload (zW_mono _ _ _) lq_1164 rfl ?_
  refine r_push (zW_mono _ _ _) lq_1165 ?_
  refine r_iadd (zW_mono _ _ _) lq_1166 ?_
  refine r_sld (zW_mono _ _ _) lq_1167 (zsx hx0 hx8 hN 1 (by decide) (by decide)) ?_
  refine r_aloadS (zW_mono _ _ _) lq_1168 rfl ?_
  refine r_iload (zW_mono _ _ _) lq_1169 rfl ?_
  refine r_push (zW_mono _ _ _) lq_1170 ?_
  refine r_iadd (zW_mono _ _ _) lq_1171 ?_
  refine r_sld (zW_mono _ _ _) lq_1172 (zsx hx0 hx8 hN 2 (by decide) (by decide)) ?_
  refine r_aloadS (zW_mono _ _ _) lq_1173 rfl ?_
  refine r_iload (zW_mono _ _ _) lq_1174 rfl ?_
  refine r_push (zW_mono _ _ _) lq_1175 ?_
  refine r_iadd (zW_mono _ _ _) lq_1176 ?_
  refine r_sld (zW_mono _ _ _) lq_1177 (zsx hx0 hx8 hN 3 (by decide) (by decide)) ?_
  refine r_virt3 (m1 := 0) (m2 := 0) (zW_mono _ _ _) lq_1178 hr9 (Nat.le_of_ble_eq_true rfl) (by unfold zbud; rw [hG]; rfl) (by omega) (by omega) ?_
  refine zW_mono zTt G 64 _ _ _ _ _ ?_ k9
  rintro w h3 ⟨⟨y9, rfl⟩, e9, p9⟩
  refine r_pop (zW_mono _ _ _) lq_1181 rfl ?_
  refine r_goto (zW_mono _ _ _) lq_1182 ?_
  exact K h3 _ _ p9 (by omega) (by omega)
set_option maxHeartbeats 1000000 in
theorem lawop_crash {G : zG} (hG : G.1 = zProg) (hN : G.2.2.1 ≤ 4096) {P : zH → Prop} {h : zH} {x : Int32} {q : Nat} (hx : x.toInt = 8 * q) (hq : 8 * q + 8 ≤ G.2.2.1) {c n : Nat} (hc : c ≤ 182 + 8 * q) (hn : n ≤ 43931 + 800 * q) (h0 : ∃ fs, h[0]? = some (.inr (11, fs))) (A : ∀ xs, zpB [zfI, zfI, zfI, zfI, zfI, zbI, zbI] xs → zW zTt G 64 133 (.ref 0 :: xs.map Value.int) h (fun w h2 => zTy 0 w ∧ (∃ fs, h2[111]? = some (.inr (12, fs))) ∧ zW zTt G 64 244 (.ref 111 :: xs.map Value.int) h2 (fun w2 h3 => zTy 0 w2 ∧ (false = true → w2 = w) ∧ P h3))) (K : ∀ h3 c n, P h3 → c ≤ 182 + 8 * (q + 1) → n ≤ 43931 + 800 * (q + 1) → zR zTt G cd_L 600000 7302250 (some .boolean) (zW zTt G 64) (fun w _ => w = some (.int 1)) 2138 [some (.retAddr 0), some (.ref 0), some (.ref 111), some (.int x)] [] h3 c n) : zR zTt G cd_L 600000 7302250 (some .boolean) (zW zTt G 64) (fun w _ => w = some (.int 1)) 1185 [some (.retAddr 0), some (.ref 0), some (.ref 111), some (.int x)] [] h c n := by
  have hx0 : 0 ≤ x.toInt := by omega
  have hx8 : x.toInt + 8 ≤ G.2.2.1 := by omega
  obtain ⟨fs0, hx_0⟩ := h0
  refine r_aload (zW_mono _ _ _) lq_1185 rfl ?_
  refine r_aloadS (zW_mono _ _ _) lq_1186 rfl ?_
  refine r_iload (zW_mono _ _ _) lq_1187 rfl ?_
  refine r_push (zW_mono _ _ _) lq_1188 ?_
  refine r_iadd (zW_mono _ _ _) lq_1189 ?_
  refine r_sld (zW_mono _ _ _) lq_1190 (zsx hx0 hx8 hN 1 (by decide) (by decide)) ?_
  refine r_aloadS (zW_mono _ _ _) lq_1191 rfl ?_
  refine r_iload (zW_mono _ _ _) lq_1192 rfl ?_
  refine r_push (zW_mono _ _ _) lq_1193 ?_
  refine r_iadd (zW_mono _ _ _) lq_1194 ?_
  refine r_sld (zW_mono _ _ _) lq_1195 (zsx hx0 hx8 hN 2 (by decide) (by decide)) ?_
  refine r_aloadS (zW_mono _ _ _) lq_1196 rfl ?_
  refine r_iload (zW_mono _ _ _) lq_1197 rfl ?_
  refine r_push (zW_mono _ _ _) lq_1198 ?_
  refine r_iadd (zW_mono _ _ _) lq_1199 ?_
  refine r_sld (zW_mono _ _ _) lq_1200 (zsx hx0 hx8 hN 3 (by decide) (by decide)) ?_
  refine r_aloadS (zW_mono _ _ _) lq_1201 rfl ?_
  refine r_iload (zW_mono _ _ _) lq_1202 rfl ?_
  refine r_push (zW_mono _ _ _) lq_1203 ?_
  refine r_iadd (zW_mono _ _ _) lq_1204 ?_
  refine r_sld (zW_mono _ _ _) lq_1205 (zsx hx0 hx8 hN 4 (by decide) (by decide)) ?_
  refine r_aloadS (zW_mono _ _ _) lq_1206 rfl ?_
  refine r_iload (zW_mono _ _ _) lq_1207 rfl ?_
  refine r_push (zW_mono _ _ _) lq_1208 ?_
  refine r_iadd (zW_mono _ _ _) lq_1209 ?_
  refine r_sld (zW_mono _ _ _) lq_1210 (zsx hx0 hx8 hN 5 (by decide) (by decide)) ?_
  refine r_aloadS (zW_mono _ _ _) lq_1211 rfl ?_
  refine r_iload (zW_mono _ _ _) lq_1212 rfl ?_
  refine r_push (zW_mono _ _ _) lq_1213 ?_
  refine r_iadd (zW_mono _ _ _) lq_1215 ?_
  refine r_sld (zW_mono _ _ _) lq_1216 (zsx hx0 hx8 hN 6 (by decide) (by decide)) ?_
  refine r_if_eq (zW_mono _ _ _) lq_1217 (fun q6 => ?_) (fun q6 => ?_)
  · refine r_push (zW_mono _ _ _) lq_1224 ?_
    refine r_aloadS (zW_mono _ _ _) lq_1225 rfl ?_
    refine r_iload (zW_mono _ _ _) lq_1226 rfl ?_
    refine r_push (zW_mono _ _ _) lq_1227 ?_
    refine r_iadd (zW_mono _ _ _) lq_1229 ?_
    refine r_sld (zW_mono _ _ _) lq_1230 (zsx hx0 hx8 hN 7 (by decide) (by decide)) ?_
    refine r_if_eq (zW_mono _ _ _) lq_1231 (fun q7 => ?_) (fun q7 => ?_)
    · refine r_push (zW_mono _ _ _) lq_1238 ?_
      refine r_virt7 (m1 := 0) (m2 := 0) (zW_mono _ _ _) lq_1239 hx_0 (Nat.le_of_ble_eq_true rfl) (by unfold zbud; rw [hG]; rfl) (by omega) (by omega) ?_
      refine zW_mono zTt G 64 _ _ _ _ _ ?_ (A [G.2.2.2 (x + 1).toNatClampNeg, G.2.2.2 (x + 2).toNatClampNeg, G.2.2.2 (x + 3).toNatClampNeg, G.2.2.2 (x + 4).toNatClampNeg, G.2.2.2 (x + 5).toNatClampNeg, 0, 0] ⟨zfI_ok _, zfI_ok _, zfI_ok _, zfI_ok _, zfI_ok _, ⟨by decide, by decide⟩, ⟨by decide, by decide⟩, trivial⟩)
      rintro w h2 ⟨⟨x9, rfl⟩, ⟨fs9, hr9⟩, k9⟩
      refine r_pop (zW_mono _ _ _) lq_1242 rfl ?_
      refine r_aload (zW_mono _ _ _) lq_1243 rfl ?_
      refine r_aloadS (zW_mono _ _ _) lq_1244 rfl ?_
      refine r_iload (zW_mono _ _ _) lq_1245 rfl ?_
      refine r_push (zW_mono _ _ _) lq_1246 ?_
      refine r_iadd (zW_mono _ _ _) lq_1247 ?_
      refine r_sld (zW_mono _ _ _) lq_1248 (zsx hx0 hx8 hN 1 (by decide) (by decide)) ?_
      refine r_aloadS (zW_mono _ _ _) lq_1249 rfl ?_
      refine r_iload (zW_mono _ _ _) lq_1250 rfl ?_
      refine r_push (zW_mono _ _ _) lq_1251 ?_
      refine r_iadd (zW_mono _ _ _) lq_1252 ?_
      refine r_sld (zW_mono _ _ _) lq_1253 (zsx hx0 hx8 hN 2 (by decide) (by decide)) ?_
      refine r_aloadS (zW_mono _ _ _) lq_1254 rfl ?_
      refine r_iload (zW_mono _ _ _) lq_1255 rfl ?_
      refine r_push (zW_mono _ _ _) lq_1256 ?_
      refine r_iadd (zW_mono _ _ _) lq_1257 ?_
      refine r_sld (zW_mono _ _ _) lq_1258 (zsx hx0 hx8 hN 3 (by decide) (by decide)) ?_
      refine r_aloadS (zW_mono _ _ _) lq_1259 rfl ?_
      refine r_iload (zW_mono _ _ _) lq_1260 rfl ?_
      refine r_push (zW_mono _ _ _) lq_1261 ?_
      refine r_iadd (zW_mono _ _ _) lq_1262 ?_
      refine r_sld (zW_mono _ _ _) lq_1263 (zsx hx0 hx8 hN 4 (by decide) (by decide)) ?_
      refine r_aloadS (zW_mono _ _ _) lq_1264 rfl ?_
      refine r_iload (zW_mono _ _ _) lq_1265 rfl ?_
      refine r_push (zW_mono _ _ _) lq_1266 ?_
      refine r_iadd (zW_mono _ _ _) lq_1267 ?_
      refine r_sld (zW_mono _ _ _) lq_1268 (zsx hx0 hx8 hN 5 (by decide) (by decide)) ?_
      refine r_aloadS (zW_mono _ _ _) lq_1269 rfl ?_
      refine r_iload (zW_mono _ _ _) lq_1270 rfl ?_
      refine r_push (zW_mono _ _ _) lq_1271 ?_
      refine r_iadd (zW_mono _ _ _) lq_1273 ?_
      refine r_sld (zW_mono _ _ _) lq_1274 (zsx hx0 hx8 hN 6 (by decide) (by decide)) ?_
      refine r_if_eq (zW_mono _ _ _) lq_1275 (fun _ => ?_) (fun q => absurd q6 q)
      refine r_push (zW_mono _ _ _) lq_1282 ?_
      refine r_aloadS (zW_mono _ _ _) lq_1283 rfl ?_
      refine r_iload (zW_mono _ _ _) lq_1284 rfl ?_
      refine r_push (zW_mono _ _ _) lq_1285 ?_
      refine r_iadd (zW_mono _ _ _) lq_1287 ?_
      refine r_sld (zW_mono _ _ _) lq_1288 (zsx hx0 hx8 hN 7 (by decide) (by decide)) ?_
      refine r_if_eq (zW_mono _ _ _) lq_1289 (fun _ => ?_) (fun q => absurd q7 q)
      refine r_push (zW_mono _ _ _) lq_1296 ?_
      refine r_virt7 (m1 := 0) (m2 := 0) (zW_mono _ _ _) lq_1297 hr9 (Nat.le_of_ble_eq_true rfl) (by unfold zbud; rw [hG]; rfl) (by omega) (by omega) ?_
      refine zW_mono zTt G 64 _ _ _ _ _ ?_ k9
      rintro w h3 ⟨⟨y9, rfl⟩, e9, p9⟩
      refine r_pop (zW_mono _ _ _) lq_1300 rfl ?_
      refine r_goto (zW_mono _ _ _) lq_1301 ?_
      exact K h3 _ _ p9 (by omega) (by omega)
    · refine r_push (zW_mono _ _ _) lq_1234 ?_
      refine r_goto (zW_mono _ _ _) lq_1235 ?_
      refine r_virt7 (m1 := 0) (m2 := 0) (zW_mono _ _ _) lq_1239 hx_0 (Nat.le_of_ble_eq_true rfl) (by unfold zbud; rw [hG]; rfl) (by omega) (by omega) ?_
      refine zW_mono zTt G 64 _ _ _ _ _ ?_ (A [G.2.2.2 (x + 1).toNatClampNeg, G.2.2.2 (x + 2).toNatClampNeg, G.2.2.2 (x + 3).toNatClampNeg, G.2.2.2 (x + 4).toNatClampNeg, G.2.2.2 (x + 5).toNatClampNeg, 0, 1] ⟨zfI_ok _, zfI_ok _, zfI_ok _, zfI_ok _, zfI_ok _, ⟨by decide, by decide⟩, ⟨by decide, by decide⟩, trivial⟩)
      rintro w h2 ⟨⟨x9, rfl⟩, ⟨fs9, hr9⟩, k9⟩
      refine r_pop (zW_mono _ _ _) lq_1242 rfl ?_
      refine r_aload (zW_mono _ _ _) lq_1243 rfl ?_
      refine r_aloadS (zW_mono _ _ _) lq_1244 rfl ?_
      refine r_iload (zW_mono _ _ _) lq_1245 rfl ?_
      refine r_push (zW_mono _ _ _) lq_1246 ?_
      refine r_iadd (zW_mono _ _ _) lq_1247 ?_
      refine r_sld (zW_mono _ _ _) lq_1248 (zsx hx0 hx8 hN 1 (by decide) (by decide)) ?_
      refine r_aloadS (zW_mono _ _ _) lq_1249 rfl ?_
      refine r_iload (zW_mono _ _ _) lq_1250 rfl ?_
      refine r_push (zW_mono _ _ _) lq_1251 ?_
      refine r_iadd (zW_mono _ _ _) lq_1252 ?_
      refine r_sld (zW_mono _ _ _) lq_1253 (zsx hx0 hx8 hN 2 (by decide) (by decide)) ?_
      refine r_aloadS (zW_mono _ _ _) lq_1254 rfl ?_
      refine r_iload (zW_mono _ _ _) lq_1255 rfl ?_
      refine r_push (zW_mono _ _ _) lq_1256 ?_
      refine r_iadd (zW_mono _ _ _) lq_1257 ?_
      refine r_sld (zW_mono _ _ _) lq_1258 (zsx hx0 hx8 hN 3 (by decide) (by decide)) ?_
      refine r_aloadS (zW_mono _ _ _) lq_1259 rfl ?_
      refine r_iload (zW_mono _ _ _) lq_1260 rfl ?_
      refine r_push (zW_mono _ _ _) lq_1261 ?_
      refine r_iadd (zW_mono _ _ _) lq_1262 ?_
      refine r_sld (zW_mono _ _ _) lq_1263 (zsx hx0 hx8 hN 4 (by decide) (by decide)) ?_
      refine r_aloadS (zW_mono _ _ _) lq_1264 rfl ?_
      refine r_iload (zW_mono _ _ _) lq_1265 rfl ?_
      refine r_push (zW_mono _ _ _) lq_1266 ?_
      refine r_iadd (zW_mono _ _ _) lq_1267 ?_
      refine r_sld (zW_mono _ _ _) lq_1268 (zsx hx0 hx8 hN 5 (by decide) (by decide)) ?_
      refine r_aloadS (zW_mono _ _ _) lq_1269 rfl ?_
      refine r_iload (zW_mono _ _ _) lq_1270 rfl ?_
      refine r_push (zW_mono _ _ _) lq_1271 ?_
      refine r_iadd (zW_mono _ _ _) lq_1273 ?_
      refine r_sld (zW_mono _ _ _) lq_1274 (zsx hx0 hx8 hN 6 (by decide) (by decide)) ?_
      refine r_if_eq (zW_mono _ _ _) lq_1275 (fun _ => ?_) (fun q => absurd q6 q)
      refine r_push (zW_mono _ _ _) lq_1282 ?_
      refine r_aloadS (zW_mono _ _ _) lq_1283 rfl ?_
      refine r_iload (zW_mono _ _ _) lq_1284 rfl ?_
      refine r_push (zW_mono _ _ _) lq_1285 ?_
      refine r_iadd (zW_mono _ _ _) lq_1287 ?_
      refine r_sld (zW_mono _ _ _) lq_1288 (zsx hx0 hx8 hN 7 (by decide) (by decide)) ?_
      refine r_if_eq (zW_mono _ _ _) lq_1289 (fun q => absurd q q7) (fun _ => ?_)
      refine r_push (zW_mono _ _ _) lq_1292 ?_
      refine r_goto (zW_mono _ _ _) lq_1293 ?_
      refine r_virt7 (m1 := 0) (m2 := 0) (zW_mono _ _ _) lq_1297 hr9 (Nat.le_of_ble_eq_true rfl) (by unfold zbud; rw [hG]; rfl) (by omega) (by omega) ?_
      refine zW_mono zTt G 64 _ _ _ _ _ ?_ k9
      rintro w h3 ⟨⟨y9, rfl⟩, e9, p9⟩
      refine r_pop (zW_mono _ _ _) lq_1300 rfl ?_
      refine r_goto (zW_mono _ _ _) lq_1301 ?_
      exact K h3 _ _ p9 (by omega) (by omega)
  · refine r_push (zW_mono _ _ _) lq_1220 ?_
    refine r_goto (zW_mono _ _ _) lq_1221 ?_
    refine r_aloadS (zW_mono _ _ _) lq_1225 rfl ?_
    refine r_iload (zW_mono _ _ _) lq_1226 rfl ?_
    refine r_push (zW_mono _ _ _) lq_1227 ?_
    refine r_iadd (zW_mono _ _ _) lq_1229 ?_
    refine r_sld (zW_mono _ _ _) lq_1230 (zsx hx0 hx8 hN 7 (by decide) (by decide)) ?_
    refine r_if_eq (zW_mono _ _ _) lq_1231 (fun q7 => ?_) (fun q7 => ?_)
    · refine r_push (zW_mono _ _ _) lq_1238 ?_
      refine r_virt7 (m1 := 0) (m2 := 0) (zW_mono _ _ _) lq_1239 hx_0 (Nat.le_of_ble_eq_true rfl) (by unfold zbud; rw [hG]; rfl) (by omega) (by omega) ?_
      refine zW_mono zTt G 64 _ _ _ _ _ ?_ (A [G.2.2.2 (x + 1).toNatClampNeg, G.2.2.2 (x + 2).toNatClampNeg, G.2.2.2 (x + 3).toNatClampNeg, G.2.2.2 (x + 4).toNatClampNeg, G.2.2.2 (x + 5).toNatClampNeg, 1, 0] ⟨zfI_ok _, zfI_ok _, zfI_ok _, zfI_ok _, zfI_ok _, ⟨by decide, by decide⟩, ⟨by decide, by decide⟩, trivial⟩)
      rintro w h2 ⟨⟨x9, rfl⟩, ⟨fs9, hr9⟩, k9⟩
      refine r_pop (zW_mono _ _ _) lq_1242 rfl ?_
      refine r_aload (zW_mono _ _ _) lq_1243 rfl ?_
      refine r_aloadS (zW_mono _ _ _) lq_1244 rfl ?_
      refine r_iload (zW_mono _ _ _) lq_1245 rfl ?_
      refine r_push (zW_mono _ _ _) lq_1246 ?_
      refine r_iadd (zW_mono _ _ _) lq_1247 ?_
      refine r_sld (zW_mono _ _ _) lq_1248 (zsx hx0 hx8 hN 1 (by decide) (by decide)) ?_
      refine r_aloadS (zW_mono _ _ _) lq_1249 rfl ?_
      refine r_iload (zW_mono _ _ _) lq_1250 rfl ?_
      refine r_push (zW_mono _ _ _) lq_1251 ?_
      refine r_iadd (zW_mono _ _ _) lq_1252 ?_
      refine r_sld (zW_mono _ _ _) lq_1253 (zsx hx0 hx8 hN 2 (by decide) (by decide)) ?_
      refine r_aloadS (zW_mono _ _ _) lq_1254 rfl ?_
      refine r_iload (zW_mono _ _ _) lq_1255 rfl ?_
      refine r_push (zW_mono _ _ _) lq_1256 ?_
      refine r_iadd (zW_mono _ _ _) lq_1257 ?_
      refine r_sld (zW_mono _ _ _) lq_1258 (zsx hx0 hx8 hN 3 (by decide) (by decide)) ?_
      refine r_aloadS (zW_mono _ _ _) lq_1259 rfl ?_
      refine r_iload (zW_mono _ _ _) lq_1260 rfl ?_
      refine r_push (zW_mono _ _ _) lq_1261 ?_
      refine r_iadd (zW_mono _ _ _) lq_1262 ?_
      refine r_sld (zW_mono _ _ _) lq_1263 (zsx hx0 hx8 hN 4 (by decide) (by decide)) ?_
      refine r_aloadS (zW_mono _ _ _) lq_1264 rfl ?_
      refine r_iload (zW_mono _ _ _) lq_1265 rfl ?_
      refine r_push (zW_mono _ _ _) lq_1266 ?_
      refine r_iadd (zW_mono _ _ _) lq_1267 ?_
      refine r_sld (zW_mono _ _ _) lq_1268 (zsx hx0 hx8 hN 5 (by decide) (by decide)) ?_
      refine r_aloadS (zW_mono _ _ _) lq_1269 rfl ?_
      refine r_iload (zW_mono _ _ _) lq_1270 rfl ?_
      refine r_push (zW_mono _ _ _) lq_1271 ?_
      refine r_iadd (zW_mono _ _ _) lq_1273 ?_
      refine r_sld (zW_mono _ _ _) lq_1274 (zsx hx0 hx8 hN 6 (by decide) (by decide)) ?_
      refine r_if_eq (zW_mono _ _ _) lq_1275 (fun q => absurd q q6) (fun _ => ?_)
      refine r_push (zW_mono _ _ _) lq_1278 ?_
      refine r_goto (zW_mono _ _ _) lq_1279 ?_
      refine r_aloadS (zW_mono _ _ _) lq_1283 rfl ?_
      refine r_iload (zW_mono _ _ _) lq_1284 rfl ?_
      refine r_push (zW_mono _ _ _) lq_1285 ?_
      refine r_iadd (zW_mono _ _ _) lq_1287 ?_
      refine r_sld (zW_mono _ _ _) lq_1288 (zsx hx0 hx8 hN 7 (by decide) (by decide)) ?_
      refine r_if_eq (zW_mono _ _ _) lq_1289 (fun _ => ?_) (fun q => absurd q7 q)
      refine r_push (zW_mono _ _ _) lq_1296 ?_
      refine r_virt7 (m1 := 0) (m2 := 0) (zW_mono _ _ _) lq_1297 hr9 (Nat.le_of_ble_eq_true rfl) (by unfold zbud; rw [hG]; rfl) (by omega) (by omega) ?_
      refine zW_mono zTt G 64 _ _ _ _ _ ?_ k9
      rintro w h3 ⟨⟨y9, rfl⟩, e9, p9⟩
      refine r_pop (zW_mono _ _ _) lq_1300 rfl ?_
      refine r_goto (zW_mono _ _ _) lq_1301 ?_
      exact K h3 _ _ p9 (by omega) (by omega)
    · refine r_push (zW_mono _ _ _) lq_1234 ?_
      refine r_goto (zW_mono _ _ _) lq_1235 ?_
      refine r_virt7 (m1 := 0) (m2 := 0) (zW_mono _ _ _) lq_1239 hx_0 (Nat.le_of_ble_eq_true rfl) (by unfold zbud; rw [hG]; rfl) (by omega) (by omega) ?_
      refine zW_mono zTt G 64 _ _ _ _ _ ?_ (A [G.2.2.2 (x + 1).toNatClampNeg, G.2.2.2 (x + 2).toNatClampNeg, G.2.2.2 (x + 3).toNatClampNeg, G.2.2.2 (x + 4).toNatClampNeg, G.2.2.2 (x + 5).toNatClampNeg, 1, 1] ⟨zfI_ok _, zfI_ok _, zfI_ok _, zfI_ok _, zfI_ok _, ⟨by decide, by decide⟩, ⟨by decide, by decide⟩, trivial⟩)
      rintro w h2 ⟨⟨x9, rfl⟩, ⟨fs9, hr9⟩, k9⟩
      refine r_pop (zW_mono _ _ _) lq_1242 rfl ?_
      refine r_aload (zW_mono _ _ _) lq_1243 rfl ?_
      refine r_aloadS (zW_mono _ _ _) lq_1244 rfl ?_
      refine r_iload (zW_mono _ _ _) lq_1245 rfl ?_
      refine r_push (zW_mono _ _ _) lq_1246 ?_
      refine r_iadd (zW_mono _ _ _) lq_1247 ?_
      refine r_sld (zW_mono _ _ _) lq_1248 (zsx hx0 hx8 hN 1 (by decide) (by decide)) ?_
      refine r_aloadS (zW_mono _ _ _) lq_1249 rfl ?_
      refine r_iload (zW_mono _ _ _) lq_1250 rfl ?_
      refine r_push (zW_mono _ _ _) lq_1251 ?_
      refine r_iadd (zW_mono _ _ _) lq_1252 ?_
      refine r_sld (zW_mono _ _ _) lq_1253 (zsx hx0 hx8 hN 2 (by decide) (by decide)) ?_
      refine r_aloadS (zW_mono _ _ _) lq_1254 rfl ?_
      refine r_iload (zW_mono _ _ _) lq_1255 rfl ?_
      refine r_push (zW_mono _ _ _) lq_1256 ?_
      refine r_iadd (zW_mono _ _ _) lq_1257 ?_
      refine r_sld (zW_mono _ _ _) lq_1258 (zsx hx0 hx8 hN 3 (by decide) (by decide)) ?_
      refine r_aloadS (zW_mono _ _ _) lq_1259 rfl ?_
      refine r_iload (zW_mono _ _ _) lq_1260 rfl ?_
      refine r_push (zW_mono _ _ _) lq_1261 ?_
      refine r_iadd (zW_mono _ _ _) lq_1262 ?_
      refine r_sld (zW_mono _ _ _) lq_1263 (zsx hx0 hx8 hN 4 (by decide) (by decide)) ?_
      refine r_aloadS (zW_mono _ _ _) lq_1264 rfl ?_
      refine r_iload (zW_mono _ _ _) lq_1265 rfl ?_
      refine r_push (zW_mono _ _ _) lq_1266 ?_
      refine r_iadd (zW_mono _ _ _) lq_1267 ?_
      refine r_sld (zW_mono _ _ _) lq_1268 (zsx hx0 hx8 hN 5 (by decide) (by decide)) ?_
      refine r_aloadS (zW_mono _ _ _) lq_1269 rfl ?_
      refine r_iload (zW_mono _ _ _) lq_1270 rfl ?_
      refine r_push (zW_mono _ _ _) lq_1271 ?_
      refine r_iadd (zW_mono _ _ _) lq_1273 ?_
      refine r_sld (zW_mono _ _ _) lq_1274 (zsx hx0 hx8 hN 6 (by decide) (by decide)) ?_
      refine r_if_eq (zW_mono _ _ _) lq_1275 (fun q => absurd q q6) (fun _ => ?_)
      refine r_push (zW_mono _ _ _) lq_1278 ?_
      refine r_goto (zW_mono _ _ _) lq_1279 ?_
      refine r_aloadS (zW_mono _ _ _) lq_1283 rfl ?_
      refine r_iload (zW_mono _ _ _) lq_1284 rfl ?_
      refine r_push (zW_mono _ _ _) lq_1285 ?_
      refine r_iadd (zW_mono _ _ _) lq_1287 ?_
      refine r_sld (zW_mono _ _ _) lq_1288 (zsx hx0 hx8 hN 7 (by decide) (by decide)) ?_
      refine r_if_eq (zW_mono _ _ _) lq_1289 (fun q => absurd q q7) (fun _ => ?_)
      refine r_push (zW_mono _ _ _) lq_1292 ?_
      refine r_goto (zW_mono _ _ _) lq_1293 ?_
      refine r_virt7 (m1 := 0) (m2 := 0) (zW_mono _ _ _) lq_1297 hr9 (Nat.le_of_ble_eq_true rfl) (by unfold zbud; rw [hG]; rfl) (by omega) (by omega) ?_
      refine zW_mono zTt G 64 _ _ _ _ _ ?_ k9
      rintro w h3 ⟨⟨y9, rfl⟩, e9, p9⟩
      refine r_pop (zW_mono _ _ _) lq_1300 rfl ?_
      refine r_goto (zW_mono _ _ _) lq_1301 ?_
      exact K h3 _ _ p9 (by omega) (by omega)
set_option maxHeartbeats 1000000 in
theorem lawop_odd {G : zG} (hG : G.1 = zProg) (hN : G.2.2.1 ≤ 4096) {P : zH → Prop} {h : zH} {x : Int32} {q : Nat} (hx : x.toInt = 8 * q) (hq : 8 * q + 8 ≤ G.2.2.1) {c n : Nat} (hc : c ≤ 182 + 8 * q) (hn : n ≤ 43931 + 800 * q) (h0 : ∃ fs, h[0]? = some (.inr (11, fs))) (A : ∀ xs, zpB [zfI] xs → zW zTt G 64 134 (.ref 0 :: xs.map Value.int) h (fun w h2 => zTy 0 w ∧ (∃ fs, h2[111]? = some (.inr (12, fs))) ∧ zW zTt G 64 245 (.ref 111 :: xs.map Value.int) h2 (fun w2 h3 => zTy 0 w2 ∧ (false = true → w2 = w) ∧ P h3))) (K : ∀ h3 c n, P h3 → c ≤ 182 + 8 * (q + 1) → n ≤ 43931 + 800 * (q + 1) → zR zTt G cd_L 600000 7302250 (some .boolean) (zW zTt G 64) (fun w _ => w = some (.int 1)) 2138 [some (.retAddr 0), some (.ref 0), some (.ref 111), some (.int x)] [] h3 c n) : zR zTt G cd_L 600000 7302250 (some .boolean) (zW zTt G 64) (fun w _ => w = some (.int 1)) 1304 [some (.retAddr 0), some (.ref 0), some (.ref 111), some (.int x)] [] h c n := by
  have hx0 : 0 ≤ x.toInt := by omega
  have hx8 : x.toInt + 8 ≤ G.2.2.1 := by omega
  obtain ⟨fs0, hx_0⟩ := h0
  refine r_aload (zW_mono _ _ _) lq_1304 rfl ?_
  refine r_aloadS (zW_mono _ _ _) lq_1305 rfl ?_
  refine r_iload (zW_mono _ _ _) lq_1306 rfl ?_
  refine r_push (zW_mono _ _ _) lq_1307 ?_
  refine r_iadd (zW_mono _ _ _) lq_1308 ?_
  refine r_sld (zW_mono _ _ _) lq_1309 (zsx hx0 hx8 hN 1 (by decide) (by decide)) ?_
  refine r_virt1 (m1 := 0) (m2 := 0) (zW_mono _ _ _) lq_1310 hx_0 (Nat.le_of_ble_eq_true rfl) (by unfold zbud; rw [hG]; rfl) (by omega) (by omega) ?_
  refine zW_mono zTt G 64 _ _ _ _ _ ?_ (A [G.2.2.2 (x + 1).toNatClampNeg] ⟨zfI_ok _, trivial⟩)
  rintro w h2 ⟨⟨x9, rfl⟩, ⟨fs9, hr9⟩, k9⟩
  refine r_pop (zW_mono _ _ _) lq_1313 rfl ?_
  refine r_aload (zW_mono _ _ _) lq_1314 rfl ?_
  refine r_aloadS (zW_mono _ _ _) lq_1315 rfl ?_
  refine r_iload (zW_mono _ _ _) lq_1316 rfl ?_
  refine r_push (zW_mono _ _ _) lq_1317 ?_
  refine r_iadd (zW_mono _ _ _) lq_1318 ?_
  refine r_sld (zW_mono _ _ _) lq_1319 (zsx hx0 hx8 hN 1 (by decide) (by decide)) ?_
  refine r_virt1 (m1 := 0) (m2 := 0) (zW_mono _ _ _) lq_1320 hr9 (Nat.le_of_ble_eq_true rfl) (by unfold zbud; rw [hG]; rfl) (by omega) (by omega) ?_
  refine zW_mono zTt G 64 _ _ _ _ _ ?_ k9
  rintro w h3 ⟨⟨y9, rfl⟩, e9, p9⟩
  refine r_pop (zW_mono _ _ _) lq_1323 rfl ?_
  refine r_goto (zW_mono _ _ _) lq_1324 ?_
  exact K h3 _ _ p9 (by omega) (by omega)
set_option maxHeartbeats 1000000 in
theorem lawop_expected {G : zG} (hG : G.1 = zProg) (hN : G.2.2.1 ≤ 4096) {P : zH → Prop} {h : zH} {x : Int32} {q : Nat} (hx : x.toInt = 8 * q) (hq : 8 * q + 8 ≤ G.2.2.1) {c n : Nat} (hc : c ≤ 182 + 8 * q) (hn : n ≤ 43931 + 800 * q) (h0 : ∃ fs, h[0]? = some (.inr (11, fs))) (A : ∀ xs, zpB [zfI, zfI, zfI] xs → zW zTt G 64 135 (.ref 0 :: xs.map Value.int) h (fun w h2 => zTy 1 w ∧ (∃ fs, h2[111]? = some (.inr (12, fs))) ∧ zW zTt G 64 247 (.ref 111 :: xs.map Value.int) h2 (fun w2 h3 => zTy 1 w2 ∧ (false = true → w2 = w) ∧ P h3))) (K : ∀ h3 c n, P h3 → c ≤ 182 + 8 * (q + 1) → n ≤ 43931 + 800 * (q + 1) → zR zTt G cd_L 600000 7302250 (some .boolean) (zW zTt G 64) (fun w _ => w = some (.int 1)) 2138 [some (.retAddr 0), some (.ref 0), some (.ref 111), some (.int x)] [] h3 c n) : zR zTt G cd_L 600000 7302250 (some .boolean) (zW zTt G 64) (fun w _ => w = some (.int 1)) 1327 [some (.retAddr 0), some (.ref 0), some (.ref 111), some (.int x)] [] h c n := by
  have hx0 : 0 ≤ x.toInt := by omega
  have hx8 : x.toInt + 8 ≤ G.2.2.1 := by omega
  obtain ⟨fs0, hx_0⟩ := h0
  refine r_aload (zW_mono _ _ _) lq_1327 rfl ?_
  refine r_aloadS (zW_mono _ _ _) lq_1328 rfl ?_
  refine r_iload (zW_mono _ _ _) lq_1329 rfl ?_
  refine r_push (zW_mono _ _ _) lq_1330 ?_
  refine r_iadd (zW_mono _ _ _) lq_1331 ?_
  refine r_sld (zW_mono _ _ _) lq_1332 (zsx hx0 hx8 hN 1 (by decide) (by decide)) ?_
  refine r_aloadS (zW_mono _ _ _) lq_1333 rfl ?_
  refine r_iload (zW_mono _ _ _) lq_1334 rfl ?_
  refine r_push (zW_mono _ _ _) lq_1335 ?_
  refine r_iadd (zW_mono _ _ _) lq_1336 ?_
  refine r_sld (zW_mono _ _ _) lq_1337 (zsx hx0 hx8 hN 2 (by decide) (by decide)) ?_
  refine r_aloadS (zW_mono _ _ _) lq_1338 rfl ?_
  refine r_iload (zW_mono _ _ _) lq_1339 rfl ?_
  refine r_push (zW_mono _ _ _) lq_1340 ?_
  refine r_iadd (zW_mono _ _ _) lq_1341 ?_
  refine r_sld (zW_mono _ _ _) lq_1342 (zsx hx0 hx8 hN 3 (by decide) (by decide)) ?_
  refine r_virt3 (m1 := 0) (m2 := 0) (zW_mono _ _ _) lq_1343 hx_0 (Nat.le_of_ble_eq_true rfl) (by unfold zbud; rw [hG]; rfl) (by omega) (by omega) ?_
  refine zW_mono zTt G 64 _ _ _ _ _ ?_ (A [G.2.2.2 (x + 1).toNatClampNeg, G.2.2.2 (x + 2).toNatClampNeg, G.2.2.2 (x + 3).toNatClampNeg] ⟨zfI_ok _, zfI_ok _, zfI_ok _, trivial⟩)
  rintro w h2 ⟨⟨x9, rfl⟩, ⟨fs9, hr9⟩, k9⟩
  refine r_popl (zW_mono _ _ _) lq_1346 rfl ?_
  refine r_aload (zW_mono _ _ _) lq_1347 rfl ?_
  refine r_aloadS (zW_mono _ _ _) lq_1348 rfl ?_
  refine r_iload (zW_mono _ _ _) lq_1349 rfl ?_
  refine r_push (zW_mono _ _ _) lq_1350 ?_
  refine r_iadd (zW_mono _ _ _) lq_1351 ?_
  refine r_sld (zW_mono _ _ _) lq_1352 (zsx hx0 hx8 hN 1 (by decide) (by decide)) ?_
  refine r_aloadS (zW_mono _ _ _) lq_1353 rfl ?_
  refine r_iload (zW_mono _ _ _) lq_1354 rfl ?_
  refine r_push (zW_mono _ _ _) lq_1355 ?_
  refine r_iadd (zW_mono _ _ _) lq_1356 ?_
  refine r_sld (zW_mono _ _ _) lq_1357 (zsx hx0 hx8 hN 2 (by decide) (by decide)) ?_
  refine r_aloadS (zW_mono _ _ _) lq_1358 rfl ?_
  refine r_iload (zW_mono _ _ _) lq_1359 rfl ?_
  refine r_push (zW_mono _ _ _) lq_1360 ?_
  refine r_iadd (zW_mono _ _ _) lq_1361 ?_
  refine r_sld (zW_mono _ _ _) lq_1362 (zsx hx0 hx8 hN 3 (by decide) (by decide)) ?_
  refine r_virt3 (m1 := 0) (m2 := 0) (zW_mono _ _ _) lq_1363 hr9 (Nat.le_of_ble_eq_true rfl) (by unfold zbud; rw [hG]; rfl) (by omega) (by omega) ?_
  refine zW_mono zTt G 64 _ _ _ _ _ ?_ k9
  rintro w h3 ⟨⟨y9, rfl⟩, e9, p9⟩
  refine r_popl (zW_mono _ _ _) lq_1366 rfl ?_
  refine r_goto (zW_mono _ _ _) lq_1367 ?_
  exact K h3 _ _ p9 (by omega) (by omega)
set_option maxHeartbeats 1000000 in
theorem lawop_memo {G : zG} (hG : G.1 = zProg) (hN : G.2.2.1 ≤ 4096) {P : zH → Prop} {h : zH} {x : Int32} {q : Nat} (hx : x.toInt = 8 * q) (hq : 8 * q + 8 ≤ G.2.2.1) {c n : Nat} (hc : c ≤ 182 + 8 * q) (hn : n ≤ 43931 + 800 * q) (h0 : ∃ fs, h[0]? = some (.inr (11, fs))) (A : ∀ xs, zpB [zfI] xs → zW zTt G 64 136 (.ref 0 :: xs.map Value.int) h (fun w h2 => zTy 0 w ∧ (∃ fs, h2[111]? = some (.inr (12, fs))) ∧ zW zTt G 64 248 (.ref 111 :: xs.map Value.int) h2 (fun w2 h3 => zTy 0 w2 ∧ (false = true → w2 = w) ∧ P h3))) (K : ∀ h3 c n, P h3 → c ≤ 182 + 8 * (q + 1) → n ≤ 43931 + 800 * (q + 1) → zR zTt G cd_L 600000 7302250 (some .boolean) (zW zTt G 64) (fun w _ => w = some (.int 1)) 2138 [some (.retAddr 0), some (.ref 0), some (.ref 111), some (.int x)] [] h3 c n) : zR zTt G cd_L 600000 7302250 (some .boolean) (zW zTt G 64) (fun w _ => w = some (.int 1)) 1370 [some (.retAddr 0), some (.ref 0), some (.ref 111), some (.int x)] [] h c n := by
  have hx0 : 0 ≤ x.toInt := by omega
  have hx8 : x.toInt + 8 ≤ G.2.2.1 := by omega
  obtain ⟨fs0, hx_0⟩ := h0
  refine r_aload (zW_mono _ _ _) lq_1370 rfl ?_
  refine r_aloadS (zW_mono _ _ _) lq_1371 rfl ?_
  refine r_iload (zW_mono _ _ _) lq_1372 rfl ?_
  refine r_push (zW_mono _ _ _) lq_1373 ?_
  refine r_iadd (zW_mono _ _ _) lq_1374 ?_
  refine r_sld (zW_mono _ _ _) lq_1375 (zsx hx0 hx8 hN 1 (by decide) (by decide)) ?_
  refine r_virt1 (m1 := 0) (m2 := 0) (zW_mono _ _ _) lq_1376 hx_0 (Nat.le_of_ble_eq_true rfl) (by unfold zbud; rw [hG]; rfl) (by omega) (by omega) ?_
  refine zW_mono zTt G 64 _ _ _ _ _ ?_ (A [G.2.2.2 (x + 1).toNatClampNeg] ⟨zfI_ok _, trivial⟩)
  rintro w h2 ⟨⟨x9, rfl⟩, ⟨fs9, hr9⟩, k9⟩
  refine r_pop (zW_mono _ _ _) lq_1379 rfl ?_
  refine r_aload (zW_mono _ _ _) lq_1380 rfl ?_
  refine r_aloadS (zW_mono _ _ _) lq_1381 rfl ?_
  refine r_iload (zW_mono _ _ _) lq_1382 rfl ?_
  refine r_push (zW_mono _ _ _) lq_1383 ?_
  refine r_iadd (zW_mono _ _ _) lq_1384 ?_
  refine r_sld (zW_mono _ _ _) lq_1385 (zsx hx0 hx8 hN 1 (by decide) (by decide)) ?_
  refine r_virt1 (m1 := 0) (m2 := 0) (zW_mono _ _ _) lq_1386 hr9 (Nat.le_of_ble_eq_true rfl) (by unfold zbud; rw [hG]; rfl) (by omega) (by omega) ?_
  refine zW_mono zTt G 64 _ _ _ _ _ ?_ k9
  rintro w h3 ⟨⟨y9, rfl⟩, e9, p9⟩
  refine r_pop (zW_mono _ _ _) lq_1389 rfl ?_
  refine r_goto (zW_mono _ _ _) lq_1390 ?_
  exact K h3 _ _ p9 (by omega) (by omega)
set_option maxHeartbeats 1000000 in
theorem lawop_row {G : zG} (hG : G.1 = zProg) (hN : G.2.2.1 ≤ 4096) {P : zH → Prop} {h : zH} {x : Int32} {q : Nat} (hx : x.toInt = 8 * q) (hq : 8 * q + 8 ≤ G.2.2.1) {c n : Nat} (hc : c ≤ 182 + 8 * q) (hn : n ≤ 43931 + 800 * q) (h0 : ∃ fs, h[0]? = some (.inr (11, fs))) (A : ∀ xs, zpB [zfI, zbI, zfI, zfI] xs → zW zTt G 64 137 (.ref 0 :: xs.map Value.int) h (fun w h2 => zTy 0 w ∧ (∃ fs, h2[111]? = some (.inr (12, fs))) ∧ zW zTt G 64 250 (.ref 111 :: xs.map Value.int) h2 (fun w2 h3 => zTy 0 w2 ∧ (false = true → w2 = w) ∧ P h3))) (K : ∀ h3 c n, P h3 → c ≤ 182 + 8 * (q + 1) → n ≤ 43931 + 800 * (q + 1) → zR zTt G cd_L 600000 7302250 (some .boolean) (zW zTt G 64) (fun w _ => w = some (.int 1)) 2138 [some (.retAddr 0), some (.ref 0), some (.ref 111), some (.int x)] [] h3 c n) : zR zTt G cd_L 600000 7302250 (some .boolean) (zW zTt G 64) (fun w _ => w = some (.int 1)) 1393 [some (.retAddr 0), some (.ref 0), some (.ref 111), some (.int x)] [] h c n := by
  have hx0 : 0 ≤ x.toInt := by omega
  have hx8 : x.toInt + 8 ≤ G.2.2.1 := by omega
  obtain ⟨fs0, hx_0⟩ := h0
  refine r_aload (zW_mono _ _ _) lq_1393 rfl ?_
  refine r_aloadS (zW_mono _ _ _) lq_1394 rfl ?_
  refine r_iload (zW_mono _ _ _) lq_1395 rfl ?_
  refine r_push (zW_mono _ _ _) lq_1396 ?_
  refine r_iadd (zW_mono _ _ _) lq_1397 ?_
  refine r_sld (zW_mono _ _ _) lq_1398 (zsx hx0 hx8 hN 1 (by decide) (by decide)) ?_
  refine r_aloadS (zW_mono _ _ _) lq_1399 rfl ?_
  refine r_iload (zW_mono _ _ _) lq_1400 rfl ?_
  refine r_push (zW_mono _ _ _) lq_1401 ?_
  refine r_iadd (zW_mono _ _ _) lq_1402 ?_
  refine r_sld (zW_mono _ _ _) lq_1403 (zsx hx0 hx8 hN 2 (by decide) (by decide)) ?_
  refine r_if_eq (zW_mono _ _ _) lq_1404 (fun q2 => ?_) (fun q2 => ?_)
  · refine r_push (zW_mono _ _ _) lq_1411 ?_
    refine r_aloadS (zW_mono _ _ _) lq_1412 rfl ?_
    refine r_iload (zW_mono _ _ _) lq_1413 rfl ?_
    refine r_push (zW_mono _ _ _) lq_1414 ?_
    refine r_iadd (zW_mono _ _ _) lq_1415 ?_
    refine r_sld (zW_mono _ _ _) lq_1416 (zsx hx0 hx8 hN 3 (by decide) (by decide)) ?_
    refine r_aloadS (zW_mono _ _ _) lq_1417 rfl ?_
    refine r_iload (zW_mono _ _ _) lq_1418 rfl ?_
    refine r_push (zW_mono _ _ _) lq_1419 ?_
    refine r_iadd (zW_mono _ _ _) lq_1420 ?_
    refine r_sld (zW_mono _ _ _) lq_1421 (zsx hx0 hx8 hN 4 (by decide) (by decide)) ?_
    refine r_virt4 (m1 := 0) (m2 := 0) (zW_mono _ _ _) lq_1422 hx_0 (Nat.le_of_ble_eq_true rfl) (by unfold zbud; rw [hG]; rfl) (by omega) (by omega) ?_
    refine zW_mono zTt G 64 _ _ _ _ _ ?_ (A [G.2.2.2 (x + 1).toNatClampNeg, 0, G.2.2.2 (x + 3).toNatClampNeg, G.2.2.2 (x + 4).toNatClampNeg] ⟨zfI_ok _, ⟨by decide, by decide⟩, zfI_ok _, zfI_ok _, trivial⟩)
    rintro w h2 ⟨⟨x9, rfl⟩, ⟨fs9, hr9⟩, k9⟩
    refine r_pop (zW_mono _ _ _) lq_1425 rfl ?_
    refine r_aload (zW_mono _ _ _) lq_1426 rfl ?_
    refine r_aloadS (zW_mono _ _ _) lq_1427 rfl ?_
    refine r_iload (zW_mono _ _ _) lq_1428 rfl ?_
    refine r_push (zW_mono _ _ _) lq_1429 ?_
    refine r_iadd (zW_mono _ _ _) lq_1430 ?_
    refine r_sld (zW_mono _ _ _) lq_1431 (zsx hx0 hx8 hN 1 (by decide) (by decide)) ?_
    refine r_aloadS (zW_mono _ _ _) lq_1432 rfl ?_
    refine r_iload (zW_mono _ _ _) lq_1433 rfl ?_
    refine r_push (zW_mono _ _ _) lq_1434 ?_
    refine r_iadd (zW_mono _ _ _) lq_1435 ?_
    refine r_sld (zW_mono _ _ _) lq_1436 (zsx hx0 hx8 hN 2 (by decide) (by decide)) ?_
    refine r_if_eq (zW_mono _ _ _) lq_1437 (fun _ => ?_) (fun q => absurd q2 q)
    refine r_push (zW_mono _ _ _) lq_1444 ?_
    refine r_aloadS (zW_mono _ _ _) lq_1445 rfl ?_
    refine r_iload (zW_mono _ _ _) lq_1446 rfl ?_
    refine r_push (zW_mono _ _ _) lq_1447 ?_
    refine r_iadd (zW_mono _ _ _) lq_1448 ?_
    refine r_sld (zW_mono _ _ _) lq_1449 (zsx hx0 hx8 hN 3 (by decide) (by decide)) ?_
    refine r_aloadS (zW_mono _ _ _) lq_1450 rfl ?_
    refine r_iload (zW_mono _ _ _) lq_1451 rfl ?_
    refine r_push (zW_mono _ _ _) lq_1452 ?_
    refine r_iadd (zW_mono _ _ _) lq_1453 ?_
    refine r_sld (zW_mono _ _ _) lq_1454 (zsx hx0 hx8 hN 4 (by decide) (by decide)) ?_
    refine r_virt4 (m1 := 0) (m2 := 0) (zW_mono _ _ _) lq_1455 hr9 (Nat.le_of_ble_eq_true rfl) (by unfold zbud; rw [hG]; rfl) (by omega) (by omega) ?_
    refine zW_mono zTt G 64 _ _ _ _ _ ?_ k9
    rintro w h3 ⟨⟨y9, rfl⟩, e9, p9⟩
    refine r_pop (zW_mono _ _ _) lq_1458 rfl ?_
    refine r_goto (zW_mono _ _ _) lq_1459 ?_
    exact K h3 _ _ p9 (by omega) (by omega)
  · refine r_push (zW_mono _ _ _) lq_1407 ?_
    refine r_goto (zW_mono _ _ _) lq_1408 ?_
    refine r_aloadS (zW_mono _ _ _) lq_1412 rfl ?_
    refine r_iload (zW_mono _ _ _) lq_1413 rfl ?_
    refine r_push (zW_mono _ _ _) lq_1414 ?_
    refine r_iadd (zW_mono _ _ _) lq_1415 ?_
    refine r_sld (zW_mono _ _ _) lq_1416 (zsx hx0 hx8 hN 3 (by decide) (by decide)) ?_
    refine r_aloadS (zW_mono _ _ _) lq_1417 rfl ?_
    refine r_iload (zW_mono _ _ _) lq_1418 rfl ?_
    refine r_push (zW_mono _ _ _) lq_1419 ?_
    refine r_iadd (zW_mono _ _ _) lq_1420 ?_
    refine r_sld (zW_mono _ _ _) lq_1421 (zsx hx0 hx8 hN 4 (by decide) (by decide)) ?_
    refine r_virt4 (m1 := 0) (m2 := 0) (zW_mono _ _ _) lq_1422 hx_0 (Nat.le_of_ble_eq_true rfl) (by unfold zbud; rw [hG]; rfl) (by omega) (by omega) ?_
    refine zW_mono zTt G 64 _ _ _ _ _ ?_ (A [G.2.2.2 (x + 1).toNatClampNeg, 1, G.2.2.2 (x + 3).toNatClampNeg, G.2.2.2 (x + 4).toNatClampNeg] ⟨zfI_ok _, ⟨by decide, by decide⟩, zfI_ok _, zfI_ok _, trivial⟩)
    rintro w h2 ⟨⟨x9, rfl⟩, ⟨fs9, hr9⟩, k9⟩
    refine r_pop (zW_mono _ _ _) lq_1425 rfl ?_
    refine r_aload (zW_mono _ _ _) lq_1426 rfl ?_
    refine r_aloadS (zW_mono _ _ _) lq_1427 rfl ?_
    refine r_iload (zW_mono _ _ _) lq_1428 rfl ?_
    refine r_push (zW_mono _ _ _) lq_1429 ?_
    refine r_iadd (zW_mono _ _ _) lq_1430 ?_
    refine r_sld (zW_mono _ _ _) lq_1431 (zsx hx0 hx8 hN 1 (by decide) (by decide)) ?_
    refine r_aloadS (zW_mono _ _ _) lq_1432 rfl ?_
    refine r_iload (zW_mono _ _ _) lq_1433 rfl ?_
    refine r_push (zW_mono _ _ _) lq_1434 ?_
    refine r_iadd (zW_mono _ _ _) lq_1435 ?_
    refine r_sld (zW_mono _ _ _) lq_1436 (zsx hx0 hx8 hN 2 (by decide) (by decide)) ?_
    refine r_if_eq (zW_mono _ _ _) lq_1437 (fun q => absurd q q2) (fun _ => ?_)
    refine r_push (zW_mono _ _ _) lq_1440 ?_
    refine r_goto (zW_mono _ _ _) lq_1441 ?_
    refine r_aloadS (zW_mono _ _ _) lq_1445 rfl ?_
    refine r_iload (zW_mono _ _ _) lq_1446 rfl ?_
    refine r_push (zW_mono _ _ _) lq_1447 ?_
    refine r_iadd (zW_mono _ _ _) lq_1448 ?_
    refine r_sld (zW_mono _ _ _) lq_1449 (zsx hx0 hx8 hN 3 (by decide) (by decide)) ?_
    refine r_aloadS (zW_mono _ _ _) lq_1450 rfl ?_
    refine r_iload (zW_mono _ _ _) lq_1451 rfl ?_
    refine r_push (zW_mono _ _ _) lq_1452 ?_
    refine r_iadd (zW_mono _ _ _) lq_1453 ?_
    refine r_sld (zW_mono _ _ _) lq_1454 (zsx hx0 hx8 hN 4 (by decide) (by decide)) ?_
    refine r_virt4 (m1 := 0) (m2 := 0) (zW_mono _ _ _) lq_1455 hr9 (Nat.le_of_ble_eq_true rfl) (by unfold zbud; rw [hG]; rfl) (by omega) (by omega) ?_
    refine zW_mono zTt G 64 _ _ _ _ _ ?_ k9
    rintro w h3 ⟨⟨y9, rfl⟩, e9, p9⟩
    refine r_pop (zW_mono _ _ _) lq_1458 rfl ?_
    refine r_goto (zW_mono _ _ _) lq_1459 ?_
    exact K h3 _ _ p9 (by omega) (by omega)
set_option maxHeartbeats 1000000 in
theorem lawop_memoSum {G : zG} (hG : G.1 = zProg) (hN : G.2.2.1 ≤ 4096) {P : zH → Prop} {h : zH} {x : Int32} {q : Nat} (hx : x.toInt = 8 * q) (hq : 8 * q + 8 ≤ G.2.2.1) {c n : Nat} (hc : c ≤ 182 + 8 * q) (hn : n ≤ 43931 + 800 * q) (h0 : ∃ fs, h[0]? = some (.inr (11, fs))) (A : ∀ xs, zpB [zfI] xs → zW zTt G 64 138 (.ref 0 :: xs.map Value.int) h (fun w h2 => zTy 1 w ∧ (∃ fs, h2[111]? = some (.inr (12, fs))) ∧ zW zTt G 64 252 (.ref 111 :: xs.map Value.int) h2 (fun w2 h3 => zTy 1 w2 ∧ (false = true → w2 = w) ∧ P h3))) (K : ∀ h3 c n, P h3 → c ≤ 182 + 8 * (q + 1) → n ≤ 43931 + 800 * (q + 1) → zR zTt G cd_L 600000 7302250 (some .boolean) (zW zTt G 64) (fun w _ => w = some (.int 1)) 2138 [some (.retAddr 0), some (.ref 0), some (.ref 111), some (.int x)] [] h3 c n) : zR zTt G cd_L 600000 7302250 (some .boolean) (zW zTt G 64) (fun w _ => w = some (.int 1)) 1462 [some (.retAddr 0), some (.ref 0), some (.ref 111), some (.int x)] [] h c n := by
  have hx0 : 0 ≤ x.toInt := by omega
  have hx8 : x.toInt + 8 ≤ G.2.2.1 := by omega
  obtain ⟨fs0, hx_0⟩ := h0
  refine r_aload (zW_mono _ _ _) lq_1462 rfl ?_
  refine r_aloadS (zW_mono _ _ _) lq_1463 rfl ?_
  refine r_iload (zW_mono _ _ _) lq_1464 rfl ?_
  refine r_push (zW_mono _ _ _) lq_1465 ?_
  refine r_iadd (zW_mono _ _ _) lq_1466 ?_
  refine r_sld (zW_mono _ _ _) lq_1467 (zsx hx0 hx8 hN 1 (by decide) (by decide)) ?_
  refine r_virt1 (m1 := 0) (m2 := 0) (zW_mono _ _ _) lq_1468 hx_0 (Nat.le_of_ble_eq_true rfl) (by unfold zbud; rw [hG]; rfl) (by omega) (by omega) ?_
  refine zW_mono zTt G 64 _ _ _ _ _ ?_ (A [G.2.2.2 (x + 1).toNatClampNeg] ⟨zfI_ok _, trivial⟩)
  rintro w h2 ⟨⟨x9, rfl⟩, ⟨fs9, hr9⟩, k9⟩
  refine r_popl (zW_mono _ _ _) lq_1471 rfl ?_
  refine r_aload (zW_mono _ _ _) lq_1472 rfl ?_
  refine r_aloadS (zW_mono _ _ _) lq_1473 rfl ?_
  refine r_iload (zW_mono _ _ _) lq_1474 rfl ?_
  refine r_push (zW_mono _ _ _) lq_1475 ?_
  refine r_iadd (zW_mono _ _ _) lq_1476 ?_
  refine r_sld (zW_mono _ _ _) lq_1477 (zsx hx0 hx8 hN 1 (by decide) (by decide)) ?_
  refine r_virt1 (m1 := 0) (m2 := 0) (zW_mono _ _ _) lq_1478 hr9 (Nat.le_of_ble_eq_true rfl) (by unfold zbud; rw [hG]; rfl) (by omega) (by omega) ?_
  refine zW_mono zTt G 64 _ _ _ _ _ ?_ k9
  rintro w h3 ⟨⟨y9, rfl⟩, e9, p9⟩
  refine r_popl (zW_mono _ _ _) lq_1481 rfl ?_
  refine r_goto (zW_mono _ _ _) lq_1482 ?_
  exact K h3 _ _ p9 (by omega) (by omega)
set_option maxHeartbeats 1000000 in
theorem lawop_turnsAt {G : zG} (hG : G.1 = zProg) (hN : G.2.2.1 ≤ 4096) {P : zH → Prop} {h : zH} {x : Int32} {q : Nat} (hx : x.toInt = 8 * q) (hq : 8 * q + 8 ≤ G.2.2.1) {c n : Nat} (hc : c ≤ 182 + 8 * q) (hn : n ≤ 43931 + 800 * q) (h0 : ∃ fs, h[0]? = some (.inr (11, fs))) (A : ∀ xs, zpB [zfI, zfI, zfI] xs → zW zTt G 64 139 (.ref 0 :: xs.map Value.int) h (fun w h2 => zTy 1 w ∧ (∃ fs, h2[111]? = some (.inr (12, fs))) ∧ zW zTt G 64 253 (.ref 111 :: xs.map Value.int) h2 (fun w2 h3 => zTy 1 w2 ∧ (false = true → w2 = w) ∧ P h3))) (K : ∀ h3 c n, P h3 → c ≤ 182 + 8 * (q + 1) → n ≤ 43931 + 800 * (q + 1) → zR zTt G cd_L 600000 7302250 (some .boolean) (zW zTt G 64) (fun w _ => w = some (.int 1)) 2138 [some (.retAddr 0), some (.ref 0), some (.ref 111), some (.int x)] [] h3 c n) : zR zTt G cd_L 600000 7302250 (some .boolean) (zW zTt G 64) (fun w _ => w = some (.int 1)) 1485 [some (.retAddr 0), some (.ref 0), some (.ref 111), some (.int x)] [] h c n := by
  have hx0 : 0 ≤ x.toInt := by omega
  have hx8 : x.toInt + 8 ≤ G.2.2.1 := by omega
  obtain ⟨fs0, hx_0⟩ := h0
  refine r_aload (zW_mono _ _ _) lq_1485 rfl ?_
  refine r_aloadS (zW_mono _ _ _) lq_1486 rfl ?_
  refine r_iload (zW_mono _ _ _) lq_1487 rfl ?_
  refine r_push (zW_mono _ _ _) lq_1488 ?_
  refine r_iadd (zW_mono _ _ _) lq_1489 ?_
  refine r_sld (zW_mono _ _ _) lq_1490 (zsx hx0 hx8 hN 1 (by decide) (by decide)) ?_
  refine r_aloadS (zW_mono _ _ _) lq_1491 rfl ?_
  refine r_iload (zW_mono _ _ _) lq_1492 rfl ?_
  refine r_push (zW_mono _ _ _) lq_1493 ?_
  refine r_iadd (zW_mono _ _ _) lq_1494 ?_
  refine r_sld (zW_mono _ _ _) lq_1495 (zsx hx0 hx8 hN 2 (by decide) (by decide)) ?_
  refine r_aloadS (zW_mono _ _ _) lq_1496 rfl ?_
  refine r_iload (zW_mono _ _ _) lq_1497 rfl ?_
  refine r_push (zW_mono _ _ _) lq_1498 ?_
  refine r_iadd (zW_mono _ _ _) lq_1499 ?_
  refine r_sld (zW_mono _ _ _) lq_1500 (zsx hx0 hx8 hN 3 (by decide) (by decide)) ?_
  refine r_virt3 (m1 := 0) (m2 := 0) (zW_mono _ _ _) lq_1501 hx_0 (Nat.le_of_ble_eq_true rfl) (by unfold zbud; rw [hG]; rfl) (by omega) (by omega) ?_
  refine zW_mono zTt G 64 _ _ _ _ _ ?_ (A [G.2.2.2 (x + 1).toNatClampNeg, G.2.2.2 (x + 2).toNatClampNeg, G.2.2.2 (x + 3).toNatClampNeg] ⟨zfI_ok _, zfI_ok _, zfI_ok _, trivial⟩)
  rintro w h2 ⟨⟨x9, rfl⟩, ⟨fs9, hr9⟩, k9⟩
  refine r_popl (zW_mono _ _ _) lq_1504 rfl ?_
  refine r_aload (zW_mono _ _ _) lq_1505 rfl ?_
  refine r_aloadS (zW_mono _ _ _) lq_1506 rfl ?_
  refine r_iload (zW_mono _ _ _) lq_1507 rfl ?_
  refine r_push (zW_mono _ _ _) lq_1508 ?_
  refine r_iadd (zW_mono _ _ _) lq_1509 ?_
  refine r_sld (zW_mono _ _ _) lq_1510 (zsx hx0 hx8 hN 1 (by decide) (by decide)) ?_
  refine r_aloadS (zW_mono _ _ _) lq_1511 rfl ?_
  refine r_iload (zW_mono _ _ _) lq_1512 rfl ?_
  refine r_push (zW_mono _ _ _) lq_1513 ?_
  refine r_iadd (zW_mono _ _ _) lq_1514 ?_
  refine r_sld (zW_mono _ _ _) lq_1515 (zsx hx0 hx8 hN 2 (by decide) (by decide)) ?_
  refine r_aloadS (zW_mono _ _ _) lq_1516 rfl ?_
  refine r_iload (zW_mono _ _ _) lq_1517 rfl ?_
  refine r_push (zW_mono _ _ _) lq_1518 ?_
  refine r_iadd (zW_mono _ _ _) lq_1519 ?_
  refine r_sld (zW_mono _ _ _) lq_1520 (zsx hx0 hx8 hN 3 (by decide) (by decide)) ?_
  refine r_virt3 (m1 := 0) (m2 := 0) (zW_mono _ _ _) lq_1521 hr9 (Nat.le_of_ble_eq_true rfl) (by unfold zbud; rw [hG]; rfl) (by omega) (by omega) ?_
  refine zW_mono zTt G 64 _ _ _ _ _ ?_ k9
  rintro w h3 ⟨⟨y9, rfl⟩, e9, p9⟩
  refine r_popl (zW_mono _ _ _) lq_1524 rfl ?_
  refine r_goto (zW_mono _ _ _) lq_1525 ?_
  exact K h3 _ _ p9 (by omega) (by omega)
set_option maxHeartbeats 1000000 in
theorem lawop_beside {G : zG} (hG : G.1 = zProg) (hN : G.2.2.1 ≤ 4096) {P : zH → Prop} {h : zH} {x : Int32} {q : Nat} (hx : x.toInt = 8 * q) (hq : 8 * q + 8 ≤ G.2.2.1) {c n : Nat} (hc : c ≤ 182 + 8 * q) (hn : n ≤ 43931 + 800 * q) (h0 : ∃ fs, h[0]? = some (.inr (11, fs))) (A : ∀ xs, zpB [zfI, zfI, zfI] xs → zW zTt G 64 140 (.ref 0 :: xs.map Value.int) h (fun w h2 => zTy 1 w ∧ (∃ fs, h2[111]? = some (.inr (12, fs))) ∧ zW zTt G 64 256 (.ref 111 :: xs.map Value.int) h2 (fun w2 h3 => zTy 1 w2 ∧ (false = true → w2 = w) ∧ P h3))) (K : ∀ h3 c n, P h3 → c ≤ 182 + 8 * (q + 1) → n ≤ 43931 + 800 * (q + 1) → zR zTt G cd_L 600000 7302250 (some .boolean) (zW zTt G 64) (fun w _ => w = some (.int 1)) 2138 [some (.retAddr 0), some (.ref 0), some (.ref 111), some (.int x)] [] h3 c n) : zR zTt G cd_L 600000 7302250 (some .boolean) (zW zTt G 64) (fun w _ => w = some (.int 1)) 1528 [some (.retAddr 0), some (.ref 0), some (.ref 111), some (.int x)] [] h c n := by
  have hx0 : 0 ≤ x.toInt := by omega
  have hx8 : x.toInt + 8 ≤ G.2.2.1 := by omega
  obtain ⟨fs0, hx_0⟩ := h0
  refine r_aload (zW_mono _ _ _) lq_1528 rfl ?_
  refine r_aloadS (zW_mono _ _ _) lq_1529 rfl ?_
  refine r_iload (zW_mono _ _ _) lq_1530 rfl ?_
  refine r_push (zW_mono _ _ _) lq_1531 ?_
  refine r_iadd (zW_mono _ _ _) lq_1532 ?_
  refine r_sld (zW_mono _ _ _) lq_1533 (zsx hx0 hx8 hN 1 (by decide) (by decide)) ?_
  refine r_aloadS (zW_mono _ _ _) lq_1534 rfl ?_
  refine r_iload (zW_mono _ _ _) lq_1535 rfl ?_
  refine r_push (zW_mono _ _ _) lq_1536 ?_
  refine r_iadd (zW_mono _ _ _) lq_1537 ?_
  refine r_sld (zW_mono _ _ _) lq_1538 (zsx hx0 hx8 hN 2 (by decide) (by decide)) ?_
  refine r_aloadS (zW_mono _ _ _) lq_1539 rfl ?_
  refine r_iload (zW_mono _ _ _) lq_1540 rfl ?_
  refine r_push (zW_mono _ _ _) lq_1541 ?_
  refine r_iadd (zW_mono _ _ _) lq_1542 ?_
  refine r_sld (zW_mono _ _ _) lq_1543 (zsx hx0 hx8 hN 3 (by decide) (by decide)) ?_
  refine r_virt3 (m1 := 0) (m2 := 0) (zW_mono _ _ _) lq_1544 hx_0 (Nat.le_of_ble_eq_true rfl) (by unfold zbud; rw [hG]; rfl) (by omega) (by omega) ?_
  refine zW_mono zTt G 64 _ _ _ _ _ ?_ (A [G.2.2.2 (x + 1).toNatClampNeg, G.2.2.2 (x + 2).toNatClampNeg, G.2.2.2 (x + 3).toNatClampNeg] ⟨zfI_ok _, zfI_ok _, zfI_ok _, trivial⟩)
  rintro w h2 ⟨⟨x9, rfl⟩, ⟨fs9, hr9⟩, k9⟩
  refine r_popl (zW_mono _ _ _) lq_1547 rfl ?_
  refine r_aload (zW_mono _ _ _) lq_1548 rfl ?_
  refine r_aloadS (zW_mono _ _ _) lq_1549 rfl ?_
  refine r_iload (zW_mono _ _ _) lq_1550 rfl ?_
  refine r_push (zW_mono _ _ _) lq_1551 ?_
  refine r_iadd (zW_mono _ _ _) lq_1552 ?_
  refine r_sld (zW_mono _ _ _) lq_1553 (zsx hx0 hx8 hN 1 (by decide) (by decide)) ?_
  refine r_aloadS (zW_mono _ _ _) lq_1554 rfl ?_
  refine r_iload (zW_mono _ _ _) lq_1555 rfl ?_
  refine r_push (zW_mono _ _ _) lq_1556 ?_
  refine r_iadd (zW_mono _ _ _) lq_1557 ?_
  refine r_sld (zW_mono _ _ _) lq_1558 (zsx hx0 hx8 hN 2 (by decide) (by decide)) ?_
  refine r_aloadS (zW_mono _ _ _) lq_1559 rfl ?_
  refine r_iload (zW_mono _ _ _) lq_1560 rfl ?_
  refine r_push (zW_mono _ _ _) lq_1561 ?_
  refine r_iadd (zW_mono _ _ _) lq_1562 ?_
  refine r_sld (zW_mono _ _ _) lq_1563 (zsx hx0 hx8 hN 3 (by decide) (by decide)) ?_
  refine r_virt3 (m1 := 0) (m2 := 0) (zW_mono _ _ _) lq_1564 hr9 (Nat.le_of_ble_eq_true rfl) (by unfold zbud; rw [hG]; rfl) (by omega) (by omega) ?_
  refine zW_mono zTt G 64 _ _ _ _ _ ?_ k9
  rintro w h3 ⟨⟨y9, rfl⟩, e9, p9⟩
  refine r_popl (zW_mono _ _ _) lq_1567 rfl ?_
  refine r_goto (zW_mono _ _ _) lq_1568 ?_
  exact K h3 _ _ p9 (by omega) (by omega)
set_option maxHeartbeats 1000000 in
theorem lawop_step {G : zG} (hG : G.1 = zProg) (hN : G.2.2.1 ≤ 4096) {P : zH → Prop} {h : zH} {x : Int32} {q : Nat} (hx : x.toInt = 8 * q) (hq : 8 * q + 8 ≤ G.2.2.1) {c n : Nat} (hc : c ≤ 182 + 8 * q) (hn : n ≤ 43931 + 800 * q) (h0 : ∃ fs, h[0]? = some (.inr (11, fs))) (A : ∀ xs, zpB [zfI, zfI, zfI, zfI] xs → zW zTt G 64 141 (.ref 0 :: xs.map Value.int) h (fun w h2 => zTy 0 w ∧ (∃ fs, h2[111]? = some (.inr (12, fs))) ∧ zW zTt G 64 257 (.ref 111 :: xs.map Value.int) h2 (fun w2 h3 => zTy 0 w2 ∧ (false = true → w2 = w) ∧ P h3))) (K : ∀ h3 c n, P h3 → c ≤ 182 + 8 * (q + 1) → n ≤ 43931 + 800 * (q + 1) → zR zTt G cd_L 600000 7302250 (some .boolean) (zW zTt G 64) (fun w _ => w = some (.int 1)) 2138 [some (.retAddr 0), some (.ref 0), some (.ref 111), some (.int x)] [] h3 c n) : zR zTt G cd_L 600000 7302250 (some .boolean) (zW zTt G 64) (fun w _ => w = some (.int 1)) 1571 [some (.retAddr 0), some (.ref 0), some (.ref 111), some (.int x)] [] h c n := by
  have hx0 : 0 ≤ x.toInt := by omega
  have hx8 : x.toInt + 8 ≤ G.2.2.1 := by omega
  obtain ⟨fs0, hx_0⟩ := h0
  refine r_aload (zW_mono _ _ _) lq_1571 rfl ?_
  refine r_aloadS (zW_mono _ _ _) lq_1572 rfl ?_
  refine r_iload (zW_mono _ _ _) lq_1573 rfl ?_
  refine r_push (zW_mono _ _ _) lq_1574 ?_
  refine r_iadd (zW_mono _ _ _) lq_1575 ?_
  refine r_sld (zW_mono _ _ _) lq_1576 (zsx hx0 hx8 hN 1 (by decide) (by decide)) ?_
  refine r_aloadS (zW_mono _ _ _) lq_1577 rfl ?_
  refine r_iload (zW_mono _ _ _) lq_1578 rfl ?_
  refine r_push (zW_mono _ _ _) lq_1579 ?_
  refine r_iadd (zW_mono _ _ _) lq_1580 ?_
  refine r_sld (zW_mono _ _ _) lq_1581 (zsx hx0 hx8 hN 2 (by decide) (by decide)) ?_
  refine r_aloadS (zW_mono _ _ _) lq_1582 rfl ?_
  refine r_iload (zW_mono _ _ _) lq_1583 rfl ?_
  refine r_push (zW_mono _ _ _) lq_1584 ?_
  refine r_iadd (zW_mono _ _ _) lq_1585 ?_
  refine r_sld (zW_mono _ _ _) lq_1586 (zsx hx0 hx8 hN 3 (by decide) (by decide)) ?_
  refine r_aloadS (zW_mono _ _ _) lq_1587 rfl ?_
  refine r_iload (zW_mono _ _ _) lq_1588 rfl ?_
  refine r_push (zW_mono _ _ _) lq_1589 ?_
  refine r_iadd (zW_mono _ _ _) lq_1590 ?_
  refine r_sld (zW_mono _ _ _) lq_1591 (zsx hx0 hx8 hN 4 (by decide) (by decide)) ?_
  refine r_virt4 (m1 := 0) (m2 := 0) (zW_mono _ _ _) lq_1592 hx_0 (Nat.le_of_ble_eq_true rfl) (by unfold zbud; rw [hG]; rfl) (by omega) (by omega) ?_
  refine zW_mono zTt G 64 _ _ _ _ _ ?_ (A [G.2.2.2 (x + 1).toNatClampNeg, G.2.2.2 (x + 2).toNatClampNeg, G.2.2.2 (x + 3).toNatClampNeg, G.2.2.2 (x + 4).toNatClampNeg] ⟨zfI_ok _, zfI_ok _, zfI_ok _, zfI_ok _, trivial⟩)
  rintro w h2 ⟨⟨x9, rfl⟩, ⟨fs9, hr9⟩, k9⟩
  refine r_pop (zW_mono _ _ _) lq_1595 rfl ?_
  refine r_aload (zW_mono _ _ _) lq_1596 rfl ?_
  refine r_aloadS (zW_mono _ _ _) lq_1597 rfl ?_
  refine r_iload (zW_mono _ _ _) lq_1598 rfl ?_
  refine r_push (zW_mono _ _ _) lq_1599 ?_
  refine r_iadd (zW_mono _ _ _) lq_1600 ?_
  refine r_sld (zW_mono _ _ _) lq_1601 (zsx hx0 hx8 hN 1 (by decide) (by decide)) ?_
  refine r_aloadS (zW_mono _ _ _) lq_1602 rfl ?_
  refine r_iload (zW_mono _ _ _) lq_1603 rfl ?_
  refine r_push (zW_mono _ _ _) lq_1604 ?_
  refine r_iadd (zW_mono _ _ _) lq_1605 ?_
  refine r_sld (zW_mono _ _ _) lq_1606 (zsx hx0 hx8 hN 2 (by decide) (by decide)) ?_
  refine r_aloadS (zW_mono _ _ _) lq_1607 rfl ?_
  refine r_iload (zW_mono _ _ _) lq_1608 rfl ?_
  refine r_push (zW_mono _ _ _) lq_1609 ?_
  refine r_iadd (zW_mono _ _ _) lq_1610 ?_
  refine r_sld (zW_mono _ _ _) lq_1611 (zsx hx0 hx8 hN 3 (by decide) (by decide)) ?_
  refine r_aloadS (zW_mono _ _ _) lq_1612 rfl ?_
  refine r_iload (zW_mono _ _ _) lq_1613 rfl ?_
  refine r_push (zW_mono _ _ _) lq_1614 ?_
  refine r_iadd (zW_mono _ _ _) lq_1615 ?_
  refine r_sld (zW_mono _ _ _) lq_1616 (zsx hx0 hx8 hN 4 (by decide) (by decide)) ?_
  refine r_virt4 (m1 := 0) (m2 := 0) (zW_mono _ _ _) lq_1617 hr9 (Nat.le_of_ble_eq_true rfl) (by unfold zbud; rw [hG]; rfl) (by omega) (by omega) ?_
  refine zW_mono zTt G 64 _ _ _ _ _ ?_ k9
  rintro w h3 ⟨⟨y9, rfl⟩, e9, p9⟩
  refine r_pop (zW_mono _ _ _) lq_1620 rfl ?_
  refine r_goto (zW_mono _ _ _) lq_1621 ?_
  exact K h3 _ _ p9 (by omega) (by omega)
set_option maxHeartbeats 1000000 in
theorem lawop_steps {G : zG} (hG : G.1 = zProg) (hN : G.2.2.1 ≤ 4096) {P : zH → Prop} {h : zH} {x : Int32} {q : Nat} (hx : x.toInt = 8 * q) (hq : 8 * q + 8 ≤ G.2.2.1) {c n : Nat} (hc : c ≤ 182 + 8 * q) (hn : n ≤ 43931 + 800 * q) (h0 : ∃ fs, h[0]? = some (.inr (11, fs))) (A : ∀ xs, zpB [zfI, zfI] xs → zW zTt G 64 142 (.ref 0 :: xs.map Value.int) h (fun w h2 => zTy 0 w ∧ (∃ fs, h2[111]? = some (.inr (12, fs))) ∧ zW zTt G 64 260 (.ref 111 :: xs.map Value.int) h2 (fun w2 h3 => zTy 0 w2 ∧ (false = true → w2 = w) ∧ P h3))) (K : ∀ h3 c n, P h3 → c ≤ 182 + 8 * (q + 1) → n ≤ 43931 + 800 * (q + 1) → zR zTt G cd_L 600000 7302250 (some .boolean) (zW zTt G 64) (fun w _ => w = some (.int 1)) 2138 [some (.retAddr 0), some (.ref 0), some (.ref 111), some (.int x)] [] h3 c n) : zR zTt G cd_L 600000 7302250 (some .boolean) (zW zTt G 64) (fun w _ => w = some (.int 1)) 1624 [some (.retAddr 0), some (.ref 0), some (.ref 111), some (.int x)] [] h c n := by
  have hx0 : 0 ≤ x.toInt := by omega
  have hx8 : x.toInt + 8 ≤ G.2.2.1 := by omega
  obtain ⟨fs0, hx_0⟩ := h0
  refine r_aload (zW_mono _ _ _) lq_1624 rfl ?_
  refine r_aloadS (zW_mono _ _ _) lq_1625 rfl ?_
  refine r_iload (zW_mono _ _ _) lq_1626 rfl ?_
  refine r_push (zW_mono _ _ _) lq_1627 ?_
  refine r_iadd (zW_mono _ _ _) lq_1628 ?_
  refine r_sld (zW_mono _ _ _) lq_1629 (zsx hx0 hx8 hN 1 (by decide) (by decide)) ?_
  refine r_aloadS (zW_mono _ _ _) lq_1630 rfl ?_
  refine r_iload (zW_mono _ _ _) lq_1631 rfl ?_
  refine r_push (zW_mono _ _ _) lq_1632 ?_
  refine r_iadd (zW_mono _ _ _) lq_1633 ?_
  refine r_sld (zW_mono _ _ _) lq_1634 (zsx hx0 hx8 hN 2 (by decide) (by decide)) ?_
  refine r_virt2 (m1 := 0) (m2 := 0) (zW_mono _ _ _) lq_1635 hx_0 (Nat.le_of_ble_eq_true rfl) (by unfold zbud; rw [hG]; rfl) (by omega) (by omega) ?_
  refine zW_mono zTt G 64 _ _ _ _ _ ?_ (A [G.2.2.2 (x + 1).toNatClampNeg, G.2.2.2 (x + 2).toNatClampNeg] ⟨zfI_ok _, zfI_ok _, trivial⟩)
  rintro w h2 ⟨⟨x9, rfl⟩, ⟨fs9, hr9⟩, k9⟩
  refine r_pop (zW_mono _ _ _) lq_1638 rfl ?_
  refine r_aload (zW_mono _ _ _) lq_1639 rfl ?_
  refine r_aloadS (zW_mono _ _ _) lq_1640 rfl ?_
  refine r_iload (zW_mono _ _ _) lq_1641 rfl ?_
  refine r_push (zW_mono _ _ _) lq_1642 ?_
  refine r_iadd (zW_mono _ _ _) lq_1643 ?_
  refine r_sld (zW_mono _ _ _) lq_1644 (zsx hx0 hx8 hN 1 (by decide) (by decide)) ?_
  refine r_aloadS (zW_mono _ _ _) lq_1645 rfl ?_
  refine r_iload (zW_mono _ _ _) lq_1646 rfl ?_
  refine r_push (zW_mono _ _ _) lq_1647 ?_
  refine r_iadd (zW_mono _ _ _) lq_1648 ?_
  refine r_sld (zW_mono _ _ _) lq_1649 (zsx hx0 hx8 hN 2 (by decide) (by decide)) ?_
  refine r_virt2 (m1 := 0) (m2 := 0) (zW_mono _ _ _) lq_1650 hr9 (Nat.le_of_ble_eq_true rfl) (by unfold zbud; rw [hG]; rfl) (by omega) (by omega) ?_
  refine zW_mono zTt G 64 _ _ _ _ _ ?_ k9
  rintro w h3 ⟨⟨y9, rfl⟩, e9, p9⟩
  refine r_pop (zW_mono _ _ _) lq_1653 rfl ?_
  refine r_goto (zW_mono _ _ _) lq_1654 ?_
  exact K h3 _ _ p9 (by omega) (by omega)
set_option maxHeartbeats 1000000 in
theorem lawop_putOff {G : zG} (hG : G.1 = zProg) (hN : G.2.2.1 ≤ 4096) {P : zH → Prop} {h : zH} {x : Int32} {q : Nat} (hx : x.toInt = 8 * q) (hq : 8 * q + 8 ≤ G.2.2.1) {c n : Nat} (hc : c ≤ 182 + 8 * q) (hn : n ≤ 43931 + 800 * q) (h0 : ∃ fs, h[0]? = some (.inr (11, fs))) (A : ∀ xs, zpB [zfI] xs → zW zTt G 64 143 (.ref 0 :: xs.map Value.int) h (fun w h2 => zTy 0 w ∧ (∃ fs, h2[111]? = some (.inr (12, fs))) ∧ zW zTt G 64 261 (.ref 111 :: xs.map Value.int) h2 (fun w2 h3 => zTy 0 w2 ∧ (false = true → w2 = w) ∧ P h3))) (K : ∀ h3 c n, P h3 → c ≤ 182 + 8 * (q + 1) → n ≤ 43931 + 800 * (q + 1) → zR zTt G cd_L 600000 7302250 (some .boolean) (zW zTt G 64) (fun w _ => w = some (.int 1)) 2138 [some (.retAddr 0), some (.ref 0), some (.ref 111), some (.int x)] [] h3 c n) : zR zTt G cd_L 600000 7302250 (some .boolean) (zW zTt G 64) (fun w _ => w = some (.int 1)) 1657 [some (.retAddr 0), some (.ref 0), some (.ref 111), some (.int x)] [] h c n := by
  have hx0 : 0 ≤ x.toInt := by omega
  have hx8 : x.toInt + 8 ≤ G.2.2.1 := by omega
  obtain ⟨fs0, hx_0⟩ := h0
  refine r_aload (zW_mono _ _ _) lq_1657 rfl ?_
  refine r_aloadS (zW_mono _ _ _) lq_1658 rfl ?_
  refine r_iload (zW_mono _ _ _) lq_1659 rfl ?_
  refine r_push (zW_mono _ _ _) lq_1660 ?_
  refine r_iadd (zW_mono _ _ _) lq_1661 ?_
  refine r_sld (zW_mono _ _ _) lq_1662 (zsx hx0 hx8 hN 1 (by decide) (by decide)) ?_
  refine r_virt1 (m1 := 0) (m2 := 0) (zW_mono _ _ _) lq_1663 hx_0 (Nat.le_of_ble_eq_true rfl) (by unfold zbud; rw [hG]; rfl) (by omega) (by omega) ?_
  refine zW_mono zTt G 64 _ _ _ _ _ ?_ (A [G.2.2.2 (x + 1).toNatClampNeg] ⟨zfI_ok _, trivial⟩)
  rintro w h2 ⟨⟨x9, rfl⟩, ⟨fs9, hr9⟩, k9⟩
  refine r_pop (zW_mono _ _ _) lq_1666 rfl ?_
  refine r_aload (zW_mono _ _ _) lq_1667 rfl ?_
  refine r_aloadS (zW_mono _ _ _) lq_1668 rfl ?_
  refine r_iload (zW_mono _ _ _) lq_1669 rfl ?_
  refine r_push (zW_mono _ _ _) lq_1670 ?_
  refine r_iadd (zW_mono _ _ _) lq_1671 ?_
  refine r_sld (zW_mono _ _ _) lq_1672 (zsx hx0 hx8 hN 1 (by decide) (by decide)) ?_
  refine r_virt1 (m1 := 0) (m2 := 0) (zW_mono _ _ _) lq_1673 hr9 (Nat.le_of_ble_eq_true rfl) (by unfold zbud; rw [hG]; rfl) (by omega) (by omega) ?_
  refine zW_mono zTt G 64 _ _ _ _ _ ?_ k9
  rintro w h3 ⟨⟨y9, rfl⟩, e9, p9⟩
  refine r_pop (zW_mono _ _ _) lq_1676 rfl ?_
  refine r_goto (zW_mono _ _ _) lq_1677 ?_
  exact K h3 _ _ p9 (by omega) (by omega)
set_option maxHeartbeats 1000000 in
theorem lawop_change {G : zG} (hG : G.1 = zProg) (hN : G.2.2.1 ≤ 4096) {P : zH → Prop} {h : zH} {x : Int32} {q : Nat} (hx : x.toInt = 8 * q) (hq : 8 * q + 8 ≤ G.2.2.1) {c n : Nat} (hc : c ≤ 182 + 8 * q) (hn : n ≤ 43931 + 800 * q) (h0 : ∃ fs, h[0]? = some (.inr (11, fs))) (A : ∀ xs, zpB [zfI, zfI] xs → zW zTt G 64 144 (.ref 0 :: xs.map Value.int) h (fun w h2 => zTy 0 w ∧ (∃ fs, h2[111]? = some (.inr (12, fs))) ∧ zW zTt G 64 263 (.ref 111 :: xs.map Value.int) h2 (fun w2 h3 => zTy 0 w2 ∧ (false = true → w2 = w) ∧ P h3))) (K : ∀ h3 c n, P h3 → c ≤ 182 + 8 * (q + 1) → n ≤ 43931 + 800 * (q + 1) → zR zTt G cd_L 600000 7302250 (some .boolean) (zW zTt G 64) (fun w _ => w = some (.int 1)) 2138 [some (.retAddr 0), some (.ref 0), some (.ref 111), some (.int x)] [] h3 c n) : zR zTt G cd_L 600000 7302250 (some .boolean) (zW zTt G 64) (fun w _ => w = some (.int 1)) 1680 [some (.retAddr 0), some (.ref 0), some (.ref 111), some (.int x)] [] h c n := by
  have hx0 : 0 ≤ x.toInt := by omega
  have hx8 : x.toInt + 8 ≤ G.2.2.1 := by omega
  obtain ⟨fs0, hx_0⟩ := h0
  refine r_aload (zW_mono _ _ _) lq_1680 rfl ?_
  refine r_aloadS (zW_mono _ _ _) lq_1681 rfl ?_
  refine r_iload (zW_mono _ _ _) lq_1682 rfl ?_
  refine r_push (zW_mono _ _ _) lq_1683 ?_
  refine r_iadd (zW_mono _ _ _) lq_1684 ?_
  refine r_sld (zW_mono _ _ _) lq_1685 (zsx hx0 hx8 hN 1 (by decide) (by decide)) ?_
  refine r_aloadS (zW_mono _ _ _) lq_1686 rfl ?_
  refine r_iload (zW_mono _ _ _) lq_1687 rfl ?_
  refine r_push (zW_mono _ _ _) lq_1688 ?_
  refine r_iadd (zW_mono _ _ _) lq_1689 ?_
  refine r_sld (zW_mono _ _ _) lq_1690 (zsx hx0 hx8 hN 2 (by decide) (by decide)) ?_
  refine r_virt2 (m1 := 0) (m2 := 0) (zW_mono _ _ _) lq_1691 hx_0 (Nat.le_of_ble_eq_true rfl) (by unfold zbud; rw [hG]; rfl) (by omega) (by omega) ?_
  refine zW_mono zTt G 64 _ _ _ _ _ ?_ (A [G.2.2.2 (x + 1).toNatClampNeg, G.2.2.2 (x + 2).toNatClampNeg] ⟨zfI_ok _, zfI_ok _, trivial⟩)
  rintro w h2 ⟨⟨x9, rfl⟩, ⟨fs9, hr9⟩, k9⟩
  refine r_pop (zW_mono _ _ _) lq_1694 rfl ?_
  refine r_aload (zW_mono _ _ _) lq_1695 rfl ?_
  refine r_aloadS (zW_mono _ _ _) lq_1696 rfl ?_
  refine r_iload (zW_mono _ _ _) lq_1697 rfl ?_
  refine r_push (zW_mono _ _ _) lq_1698 ?_
  refine r_iadd (zW_mono _ _ _) lq_1699 ?_
  refine r_sld (zW_mono _ _ _) lq_1700 (zsx hx0 hx8 hN 1 (by decide) (by decide)) ?_
  refine r_aloadS (zW_mono _ _ _) lq_1701 rfl ?_
  refine r_iload (zW_mono _ _ _) lq_1702 rfl ?_
  refine r_push (zW_mono _ _ _) lq_1703 ?_
  refine r_iadd (zW_mono _ _ _) lq_1704 ?_
  refine r_sld (zW_mono _ _ _) lq_1705 (zsx hx0 hx8 hN 2 (by decide) (by decide)) ?_
  refine r_virt2 (m1 := 0) (m2 := 0) (zW_mono _ _ _) lq_1706 hr9 (Nat.le_of_ble_eq_true rfl) (by unfold zbud; rw [hG]; rfl) (by omega) (by omega) ?_
  refine zW_mono zTt G 64 _ _ _ _ _ ?_ k9
  rintro w h3 ⟨⟨y9, rfl⟩, e9, p9⟩
  refine r_pop (zW_mono _ _ _) lq_1709 rfl ?_
  refine r_goto (zW_mono _ _ _) lq_1710 ?_
  exact K h3 _ _ p9 (by omega) (by omega)
set_option maxHeartbeats 1000000 in
theorem lawop_cheap {G : zG} (hG : G.1 = zProg) (hN : G.2.2.1 ≤ 4096) {P : zH → Prop} {h : zH} {x : Int32} {q : Nat} (hx : x.toInt = 8 * q) (hq : 8 * q + 8 ≤ G.2.2.1) {c n : Nat} (hc : c ≤ 182 + 8 * q) (hn : n ≤ 43931 + 800 * q) (h0 : ∃ fs, h[0]? = some (.inr (11, fs))) (A : ∀ xs, zpB [zfI, zfI] xs → zW zTt G 64 145 (.ref 0 :: xs.map Value.int) h (fun w h2 => zTy 0 w ∧ (∃ fs, h2[111]? = some (.inr (12, fs))) ∧ zW zTt G 64 264 (.ref 111 :: xs.map Value.int) h2 (fun w2 h3 => zTy 0 w2 ∧ (false = true → w2 = w) ∧ P h3))) (K : ∀ h3 c n, P h3 → c ≤ 182 + 8 * (q + 1) → n ≤ 43931 + 800 * (q + 1) → zR zTt G cd_L 600000 7302250 (some .boolean) (zW zTt G 64) (fun w _ => w = some (.int 1)) 2138 [some (.retAddr 0), some (.ref 0), some (.ref 111), some (.int x)] [] h3 c n) : zR zTt G cd_L 600000 7302250 (some .boolean) (zW zTt G 64) (fun w _ => w = some (.int 1)) 1713 [some (.retAddr 0), some (.ref 0), some (.ref 111), some (.int x)] [] h c n := by
  have hx0 : 0 ≤ x.toInt := by omega
  have hx8 : x.toInt + 8 ≤ G.2.2.1 := by omega
  obtain ⟨fs0, hx_0⟩ := h0
  refine r_aload (zW_mono _ _ _) lq_1713 rfl ?_
  refine r_aloadS (zW_mono _ _ _) lq_1714 rfl ?_
  refine r_iload (zW_mono _ _ _) lq_1715 rfl ?_
  refine r_push (zW_mono _ _ _) lq_1716 ?_
  refine r_iadd (zW_mono _ _ _) lq_1717 ?_
  refine r_sld (zW_mono _ _ _) lq_1718 (zsx hx0 hx8 hN 1 (by decide) (by decide)) ?_
  refine r_aloadS (zW_mono _ _ _) lq_1719 rfl ?_
  refine r_iload (zW_mono _ _ _) lq_1720 rfl ?_
  refine r_push (zW_mono _ _ _) lq_1721 ?_
  refine r_iadd (zW_mono _ _ _) lq_1722 ?_
  refine r_sld (zW_mono _ _ _) lq_1723 (zsx hx0 hx8 hN 2 (by decide) (by decide)) ?_
  refine r_virt2 (m1 := 0) (m2 := 0) (zW_mono _ _ _) lq_1724 hx_0 (Nat.le_of_ble_eq_true rfl) (by unfold zbud; rw [hG]; rfl) (by omega) (by omega) ?_
  refine zW_mono zTt G 64 _ _ _ _ _ ?_ (A [G.2.2.2 (x + 1).toNatClampNeg, G.2.2.2 (x + 2).toNatClampNeg] ⟨zfI_ok _, zfI_ok _, trivial⟩)
  rintro w h2 ⟨⟨x9, rfl⟩, ⟨fs9, hr9⟩, k9⟩
  refine r_pop (zW_mono _ _ _) lq_1727 rfl ?_
  refine r_aload (zW_mono _ _ _) lq_1728 rfl ?_
  refine r_aloadS (zW_mono _ _ _) lq_1729 rfl ?_
  refine r_iload (zW_mono _ _ _) lq_1730 rfl ?_
  refine r_push (zW_mono _ _ _) lq_1731 ?_
  refine r_iadd (zW_mono _ _ _) lq_1732 ?_
  refine r_sld (zW_mono _ _ _) lq_1733 (zsx hx0 hx8 hN 1 (by decide) (by decide)) ?_
  refine r_aloadS (zW_mono _ _ _) lq_1734 rfl ?_
  refine r_iload (zW_mono _ _ _) lq_1735 rfl ?_
  refine r_push (zW_mono _ _ _) lq_1736 ?_
  refine r_iadd (zW_mono _ _ _) lq_1737 ?_
  refine r_sld (zW_mono _ _ _) lq_1738 (zsx hx0 hx8 hN 2 (by decide) (by decide)) ?_
  refine r_virt2 (m1 := 0) (m2 := 0) (zW_mono _ _ _) lq_1739 hr9 (Nat.le_of_ble_eq_true rfl) (by unfold zbud; rw [hG]; rfl) (by omega) (by omega) ?_
  refine zW_mono zTt G 64 _ _ _ _ _ ?_ k9
  rintro w h3 ⟨⟨y9, rfl⟩, e9, p9⟩
  refine r_pop (zW_mono _ _ _) lq_1742 rfl ?_
  refine r_goto (zW_mono _ _ _) lq_1743 ?_
  exact K h3 _ _ p9 (by omega) (by omega)
set_option maxHeartbeats 1000000 in
theorem lawop_call {G : zG} (hG : G.1 = zProg) (hN : G.2.2.1 ≤ 4096) {P : zH → Prop} {h : zH} {x : Int32} {q : Nat} (hx : x.toInt = 8 * q) (hq : 8 * q + 8 ≤ G.2.2.1) {c n : Nat} (hc : c ≤ 182 + 8 * q) (hn : n ≤ 43931 + 800 * q) (h0 : ∃ fs, h[0]? = some (.inr (11, fs))) (A : ∀ xs, zpB [zfI, zfI, zfI, zfI] xs → zW zTt G 64 146 (.ref 0 :: xs.map Value.int) h (fun w h2 => zTy 0 w ∧ (∃ fs, h2[111]? = some (.inr (12, fs))) ∧ zW zTt G 64 265 (.ref 111 :: xs.map Value.int) h2 (fun w2 h3 => zTy 0 w2 ∧ (false = true → w2 = w) ∧ P h3))) (K : ∀ h3 c n, P h3 → c ≤ 182 + 8 * (q + 1) → n ≤ 43931 + 800 * (q + 1) → zR zTt G cd_L 600000 7302250 (some .boolean) (zW zTt G 64) (fun w _ => w = some (.int 1)) 2138 [some (.retAddr 0), some (.ref 0), some (.ref 111), some (.int x)] [] h3 c n) : zR zTt G cd_L 600000 7302250 (some .boolean) (zW zTt G 64) (fun w _ => w = some (.int 1)) 1746 [some (.retAddr 0), some (.ref 0), some (.ref 111), some (.int x)] [] h c n := by
  have hx0 : 0 ≤ x.toInt := by omega
  have hx8 : x.toInt + 8 ≤ G.2.2.1 := by omega
  obtain ⟨fs0, hx_0⟩ := h0
  refine r_aload (zW_mono _ _ _) lq_1746 rfl ?_
  refine r_aloadS (zW_mono _ _ _) lq_1747 rfl ?_
  refine r_iload (zW_mono _ _ _) lq_1748 rfl ?_
  refine r_push (zW_mono _ _ _) lq_1749 ?_
  refine r_iadd (zW_mono _ _ _) lq_1750 ?_
  refine r_sld (zW_mono _ _ _) lq_1751 (zsx hx0 hx8 hN 1 (by decide) (by decide)) ?_
  refine r_aloadS (zW_mono _ _ _) lq_1752 rfl ?_
  refine r_iload (zW_mono _ _ _) lq_1753 rfl ?_
  refine r_push (zW_mono _ _ _) lq_1754 ?_
  refine r_iadd (zW_mono _ _ _) lq_1755 ?_
  refine r_sld (zW_mono _ _ _) lq_1756 (zsx hx0 hx8 hN 2 (by decide) (by decide)) ?_
  refine r_aloadS (zW_mono _ _ _) lq_1757 rfl ?_
  refine r_iload (zW_mono _ _ _) lq_1758 rfl ?_
  refine r_push (zW_mono _ _ _) lq_1759 ?_
  refine r_iadd (zW_mono _ _ _) lq_1760 ?_
  refine r_sld (zW_mono _ _ _) lq_1761 (zsx hx0 hx8 hN 3 (by decide) (by decide)) ?_
  refine r_aloadS (zW_mono _ _ _) lq_1762 rfl ?_
  refine r_iload (zW_mono _ _ _) lq_1763 rfl ?_
  refine r_push (zW_mono _ _ _) lq_1764 ?_
  refine r_iadd (zW_mono _ _ _) lq_1765 ?_
  refine r_sld (zW_mono _ _ _) lq_1766 (zsx hx0 hx8 hN 4 (by decide) (by decide)) ?_
  refine r_virt4 (m1 := 0) (m2 := 0) (zW_mono _ _ _) lq_1767 hx_0 (Nat.le_of_ble_eq_true rfl) (by unfold zbud; rw [hG]; rfl) (by omega) (by omega) ?_
  refine zW_mono zTt G 64 _ _ _ _ _ ?_ (A [G.2.2.2 (x + 1).toNatClampNeg, G.2.2.2 (x + 2).toNatClampNeg, G.2.2.2 (x + 3).toNatClampNeg, G.2.2.2 (x + 4).toNatClampNeg] ⟨zfI_ok _, zfI_ok _, zfI_ok _, zfI_ok _, trivial⟩)
  rintro w h2 ⟨⟨x9, rfl⟩, ⟨fs9, hr9⟩, k9⟩
  refine r_pop (zW_mono _ _ _) lq_1770 rfl ?_
  refine r_aload (zW_mono _ _ _) lq_1771 rfl ?_
  refine r_aloadS (zW_mono _ _ _) lq_1772 rfl ?_
  refine r_iload (zW_mono _ _ _) lq_1773 rfl ?_
  refine r_push (zW_mono _ _ _) lq_1774 ?_
  refine r_iadd (zW_mono _ _ _) lq_1775 ?_
  refine r_sld (zW_mono _ _ _) lq_1776 (zsx hx0 hx8 hN 1 (by decide) (by decide)) ?_
  refine r_aloadS (zW_mono _ _ _) lq_1777 rfl ?_
  refine r_iload (zW_mono _ _ _) lq_1778 rfl ?_
  refine r_push (zW_mono _ _ _) lq_1779 ?_
  refine r_iadd (zW_mono _ _ _) lq_1780 ?_
  refine r_sld (zW_mono _ _ _) lq_1781 (zsx hx0 hx8 hN 2 (by decide) (by decide)) ?_
  refine r_aloadS (zW_mono _ _ _) lq_1782 rfl ?_
  refine r_iload (zW_mono _ _ _) lq_1783 rfl ?_
  refine r_push (zW_mono _ _ _) lq_1784 ?_
  refine r_iadd (zW_mono _ _ _) lq_1785 ?_
  refine r_sld (zW_mono _ _ _) lq_1786 (zsx hx0 hx8 hN 3 (by decide) (by decide)) ?_
  refine r_aloadS (zW_mono _ _ _) lq_1787 rfl ?_
  refine r_iload (zW_mono _ _ _) lq_1788 rfl ?_
  refine r_push (zW_mono _ _ _) lq_1789 ?_
  refine r_iadd (zW_mono _ _ _) lq_1790 ?_
  refine r_sld (zW_mono _ _ _) lq_1791 (zsx hx0 hx8 hN 4 (by decide) (by decide)) ?_
  refine r_virt4 (m1 := 0) (m2 := 0) (zW_mono _ _ _) lq_1792 hr9 (Nat.le_of_ble_eq_true rfl) (by unfold zbud; rw [hG]; rfl) (by omega) (by omega) ?_
  refine zW_mono zTt G 64 _ _ _ _ _ ?_ k9
  rintro w h3 ⟨⟨y9, rfl⟩, e9, p9⟩
  refine r_pop (zW_mono _ _ _) lq_1795 rfl ?_
  refine r_goto (zW_mono _ _ _) lq_1796 ?_
  exact K h3 _ _ p9 (by omega) (by omega)
set_option maxHeartbeats 1000000 in
theorem lawop_letters {G : zG} (hG : G.1 = zProg) (hN : G.2.2.1 ≤ 4096) {P : zH → Prop} {h : zH} {x : Int32} {q : Nat} (hx : x.toInt = 8 * q) (hq : 8 * q + 8 ≤ G.2.2.1) {c n : Nat} (hc : c ≤ 182 + 8 * q) (hn : n ≤ 43931 + 800 * q) (h0 : ∃ fs, h[0]? = some (.inr (11, fs))) (A : ∀ xs, zpB [zfI] xs → zW zTt G 64 147 (.ref 0 :: xs.map Value.int) h (fun w h2 => zTy 0 w ∧ (∃ fs, h2[111]? = some (.inr (12, fs))) ∧ zW zTt G 64 269 (.ref 111 :: xs.map Value.int) h2 (fun w2 h3 => zTy 0 w2 ∧ (false = true → w2 = w) ∧ P h3))) (K : ∀ h3 c n, P h3 → c ≤ 182 + 8 * (q + 1) → n ≤ 43931 + 800 * (q + 1) → zR zTt G cd_L 600000 7302250 (some .boolean) (zW zTt G 64) (fun w _ => w = some (.int 1)) 2138 [some (.retAddr 0), some (.ref 0), some (.ref 111), some (.int x)] [] h3 c n) : zR zTt G cd_L 600000 7302250 (some .boolean) (zW zTt G 64) (fun w _ => w = some (.int 1)) 1799 [some (.retAddr 0), some (.ref 0), some (.ref 111), some (.int x)] [] h c n := by
  have hx0 : 0 ≤ x.toInt := by omega
  have hx8 : x.toInt + 8 ≤ G.2.2.1 := by omega
  obtain ⟨fs0, hx_0⟩ := h0
  refine r_aload (zW_mono _ _ _) lq_1799 rfl ?_
  refine r_aloadS (zW_mono _ _ _) lq_1800 rfl ?_
  refine r_iload (zW_mono _ _ _) lq_1801 rfl ?_
  refine r_push (zW_mono _ _ _) lq_1802 ?_
  refine r_iadd (zW_mono _ _ _) lq_1803 ?_
  refine r_sld (zW_mono _ _ _) lq_1804 (zsx hx0 hx8 hN 1 (by decide) (by decide)) ?_
  refine r_virt1 (m1 := 0) (m2 := 0) (zW_mono _ _ _) lq_1805 hx_0 (Nat.le_of_ble_eq_true rfl) (by unfold zbud; rw [hG]; rfl) (by omega) (by omega) ?_
  refine zW_mono zTt G 64 _ _ _ _ _ ?_ (A [G.2.2.2 (x + 1).toNatClampNeg] ⟨zfI_ok _, trivial⟩)
  rintro w h2 ⟨⟨x9, rfl⟩, ⟨fs9, hr9⟩, k9⟩
  refine r_pop (zW_mono _ _ _) lq_1808 rfl ?_
  refine r_aload (zW_mono _ _ _) lq_1809 rfl ?_
  refine r_aloadS (zW_mono _ _ _) lq_1810 rfl ?_
  refine r_iload (zW_mono _ _ _) lq_1811 rfl ?_
  refine r_push (zW_mono _ _ _) lq_1812 ?_
  refine r_iadd (zW_mono _ _ _) lq_1813 ?_
  refine r_sld (zW_mono _ _ _) lq_1814 (zsx hx0 hx8 hN 1 (by decide) (by decide)) ?_
  refine r_virt1 (m1 := 0) (m2 := 0) (zW_mono _ _ _) lq_1815 hr9 (Nat.le_of_ble_eq_true rfl) (by unfold zbud; rw [hG]; rfl) (by omega) (by omega) ?_
  refine zW_mono zTt G 64 _ _ _ _ _ ?_ k9
  rintro w h3 ⟨⟨y9, rfl⟩, e9, p9⟩
  refine r_pop (zW_mono _ _ _) lq_1818 rfl ?_
  refine r_goto (zW_mono _ _ _) lq_1819 ?_
  exact K h3 _ _ p9 (by omega) (by omega)
set_option maxHeartbeats 1000000 in
theorem lawop_reached {G : zG} (hG : G.1 = zProg) (hN : G.2.2.1 ≤ 4096) {P : zH → Prop} {h : zH} {x : Int32} {q : Nat} (hx : x.toInt = 8 * q) (hq : 8 * q + 8 ≤ G.2.2.1) {c n : Nat} (hc : c ≤ 182 + 8 * q) (hn : n ≤ 43931 + 800 * q) (h0 : ∃ fs, h[0]? = some (.inr (11, fs))) (A : ∀ xs, zpB [zfI, zfI] xs → zW zTt G 64 148 (.ref 0 :: xs.map Value.int) h (fun w h2 => zTy 0 w ∧ (∃ fs, h2[111]? = some (.inr (12, fs))) ∧ zW zTt G 64 270 (.ref 111 :: xs.map Value.int) h2 (fun w2 h3 => zTy 0 w2 ∧ (false = true → w2 = w) ∧ P h3))) (K : ∀ h3 c n, P h3 → c ≤ 182 + 8 * (q + 1) → n ≤ 43931 + 800 * (q + 1) → zR zTt G cd_L 600000 7302250 (some .boolean) (zW zTt G 64) (fun w _ => w = some (.int 1)) 2138 [some (.retAddr 0), some (.ref 0), some (.ref 111), some (.int x)] [] h3 c n) : zR zTt G cd_L 600000 7302250 (some .boolean) (zW zTt G 64) (fun w _ => w = some (.int 1)) 1822 [some (.retAddr 0), some (.ref 0), some (.ref 111), some (.int x)] [] h c n := by
  have hx0 : 0 ≤ x.toInt := by omega
  have hx8 : x.toInt + 8 ≤ G.2.2.1 := by omega
  obtain ⟨fs0, hx_0⟩ := h0
  refine r_aload (zW_mono _ _ _) lq_1822 rfl ?_
  refine r_aloadS (zW_mono _ _ _) lq_1823 rfl ?_
  refine r_iload (zW_mono _ _ _) lq_1824 rfl ?_
  refine r_push (zW_mono _ _ _) lq_1825 ?_
  refine r_iadd (zW_mono _ _ _) lq_1826 ?_
  refine r_sld (zW_mono _ _ _) lq_1827 (zsx hx0 hx8 hN 1 (by decide) (by decide)) ?_
  refine r_aloadS (zW_mono _ _ _) lq_1828 rfl ?_
  refine r_iload (zW_mono _ _ _) lq_1829 rfl ?_
  refine r_push (zW_mono _ _ _) lq_1830 ?_
  refine r_iadd (zW_mono _ _ _) lq_1831 ?_
  refine r_sld (zW_mono _ _ _) lq_1832 (zsx hx0 hx8 hN 2 (by decide) (by decide)) ?_
  refine r_virt2 (m1 := 0) (m2 := 0) (zW_mono _ _ _) lq_1833 hx_0 (Nat.le_of_ble_eq_true rfl) (by unfold zbud; rw [hG]; rfl) (by omega) (by omega) ?_
  refine zW_mono zTt G 64 _ _ _ _ _ ?_ (A [G.2.2.2 (x + 1).toNatClampNeg, G.2.2.2 (x + 2).toNatClampNeg] ⟨zfI_ok _, zfI_ok _, trivial⟩)
  rintro w h2 ⟨⟨x9, rfl⟩, ⟨fs9, hr9⟩, k9⟩
  refine r_pop (zW_mono _ _ _) lq_1836 rfl ?_
  refine r_aload (zW_mono _ _ _) lq_1837 rfl ?_
  refine r_aloadS (zW_mono _ _ _) lq_1838 rfl ?_
  refine r_iload (zW_mono _ _ _) lq_1839 rfl ?_
  refine r_push (zW_mono _ _ _) lq_1840 ?_
  refine r_iadd (zW_mono _ _ _) lq_1841 ?_
  refine r_sld (zW_mono _ _ _) lq_1842 (zsx hx0 hx8 hN 1 (by decide) (by decide)) ?_
  refine r_aloadS (zW_mono _ _ _) lq_1843 rfl ?_
  refine r_iload (zW_mono _ _ _) lq_1844 rfl ?_
  refine r_push (zW_mono _ _ _) lq_1845 ?_
  refine r_iadd (zW_mono _ _ _) lq_1846 ?_
  refine r_sld (zW_mono _ _ _) lq_1847 (zsx hx0 hx8 hN 2 (by decide) (by decide)) ?_
  refine r_virt2 (m1 := 0) (m2 := 0) (zW_mono _ _ _) lq_1848 hr9 (Nat.le_of_ble_eq_true rfl) (by unfold zbud; rw [hG]; rfl) (by omega) (by omega) ?_
  refine zW_mono zTt G 64 _ _ _ _ _ ?_ k9
  rintro w h3 ⟨⟨y9, rfl⟩, e9, p9⟩
  refine r_pop (zW_mono _ _ _) lq_1851 rfl ?_
  refine r_goto (zW_mono _ _ _) lq_1852 ?_
  exact K h3 _ _ p9 (by omega) (by omega)
set_option maxHeartbeats 1000000 in
theorem lawop_mend {G : zG} (hG : G.1 = zProg) (hN : G.2.2.1 ≤ 4096) {P : zH → Prop} {h : zH} {x : Int32} {q : Nat} (hx : x.toInt = 8 * q) (hq : 8 * q + 8 ≤ G.2.2.1) {c n : Nat} (hc : c ≤ 182 + 8 * q) (hn : n ≤ 43931 + 800 * q) (h0 : ∃ fs, h[0]? = some (.inr (11, fs))) (A : ∀ xs, zpB [zfI, zfI] xs → zW zTt G 64 149 (.ref 0 :: xs.map Value.int) h (fun w h2 => zTy 0 w ∧ (∃ fs, h2[111]? = some (.inr (12, fs))) ∧ zW zTt G 64 271 (.ref 111 :: xs.map Value.int) h2 (fun w2 h3 => zTy 0 w2 ∧ (false = true → w2 = w) ∧ P h3))) (K : ∀ h3 c n, P h3 → c ≤ 182 + 8 * (q + 1) → n ≤ 43931 + 800 * (q + 1) → zR zTt G cd_L 600000 7302250 (some .boolean) (zW zTt G 64) (fun w _ => w = some (.int 1)) 2138 [some (.retAddr 0), some (.ref 0), some (.ref 111), some (.int x)] [] h3 c n) : zR zTt G cd_L 600000 7302250 (some .boolean) (zW zTt G 64) (fun w _ => w = some (.int 1)) 1855 [some (.retAddr 0), some (.ref 0), some (.ref 111), some (.int x)] [] h c n := by
  have hx0 : 0 ≤ x.toInt := by omega
  have hx8 : x.toInt + 8 ≤ G.2.2.1 := by omega
  obtain ⟨fs0, hx_0⟩ := h0
  refine r_aload (zW_mono _ _ _) lq_1855 rfl ?_
  refine r_aloadS (zW_mono _ _ _) lq_1856 rfl ?_
  refine r_iload (zW_mono _ _ _) lq_1857 rfl ?_
  refine r_push (zW_mono _ _ _) lq_1858 ?_
  refine r_iadd (zW_mono _ _ _) lq_1859 ?_
  refine r_sld (zW_mono _ _ _) lq_1860 (zsx hx0 hx8 hN 1 (by decide) (by decide)) ?_
  refine r_aloadS (zW_mono _ _ _) lq_1861 rfl ?_
  refine r_iload (zW_mono _ _ _) lq_1862 rfl ?_
  refine r_push (zW_mono _ _ _) lq_1863 ?_
  refine r_iadd (zW_mono _ _ _) lq_1864 ?_
  refine r_sld (zW_mono _ _ _) lq_1865 (zsx hx0 hx8 hN 2 (by decide) (by decide)) ?_
  refine r_virt2 (m1 := 0) (m2 := 0) (zW_mono _ _ _) lq_1866 hx_0 (Nat.le_of_ble_eq_true rfl) (by unfold zbud; rw [hG]; rfl) (by omega) (by omega) ?_
  refine zW_mono zTt G 64 _ _ _ _ _ ?_ (A [G.2.2.2 (x + 1).toNatClampNeg, G.2.2.2 (x + 2).toNatClampNeg] ⟨zfI_ok _, zfI_ok _, trivial⟩)
  rintro w h2 ⟨⟨x9, rfl⟩, ⟨fs9, hr9⟩, k9⟩
  refine r_pop (zW_mono _ _ _) lq_1869 rfl ?_
  refine r_aload (zW_mono _ _ _) lq_1870 rfl ?_
  refine r_aloadS (zW_mono _ _ _) lq_1871 rfl ?_
  refine r_iload (zW_mono _ _ _) lq_1872 rfl ?_
  refine r_push (zW_mono _ _ _) lq_1873 ?_
  refine r_iadd (zW_mono _ _ _) lq_1874 ?_
  refine r_sld (zW_mono _ _ _) lq_1875 (zsx hx0 hx8 hN 1 (by decide) (by decide)) ?_
  refine r_aloadS (zW_mono _ _ _) lq_1876 rfl ?_
  refine r_iload (zW_mono _ _ _) lq_1877 rfl ?_
  refine r_push (zW_mono _ _ _) lq_1878 ?_
  refine r_iadd (zW_mono _ _ _) lq_1879 ?_
  refine r_sld (zW_mono _ _ _) lq_1880 (zsx hx0 hx8 hN 2 (by decide) (by decide)) ?_
  refine r_virt2 (m1 := 0) (m2 := 0) (zW_mono _ _ _) lq_1881 hr9 (Nat.le_of_ble_eq_true rfl) (by unfold zbud; rw [hG]; rfl) (by omega) (by omega) ?_
  refine zW_mono zTt G 64 _ _ _ _ _ ?_ k9
  rintro w h3 ⟨⟨y9, rfl⟩, e9, p9⟩
  refine r_pop (zW_mono _ _ _) lq_1884 rfl ?_
  refine r_goto (zW_mono _ _ _) lq_1885 ?_
  exact K h3 _ _ p9 (by omega) (by omega)
set_option maxHeartbeats 1000000 in
theorem lawop_left {G : zG} (hG : G.1 = zProg) (hN : G.2.2.1 ≤ 4096) {P : zH → Prop} {h : zH} {x : Int32} {q : Nat} (hx : x.toInt = 8 * q) (hq : 8 * q + 8 ≤ G.2.2.1) {c n : Nat} (hc : c ≤ 182 + 8 * q) (hn : n ≤ 43931 + 800 * q) (h0 : ∃ fs, h[0]? = some (.inr (11, fs))) (A : ∀ xs, zpB [zfI, zfI] xs → zW zTt G 64 150 (.ref 0 :: xs.map Value.int) h (fun w h2 => zTy 0 w ∧ (∃ fs, h2[111]? = some (.inr (12, fs))) ∧ zW zTt G 64 272 (.ref 111 :: xs.map Value.int) h2 (fun w2 h3 => zTy 0 w2 ∧ (false = true → w2 = w) ∧ P h3))) (K : ∀ h3 c n, P h3 → c ≤ 182 + 8 * (q + 1) → n ≤ 43931 + 800 * (q + 1) → zR zTt G cd_L 600000 7302250 (some .boolean) (zW zTt G 64) (fun w _ => w = some (.int 1)) 2138 [some (.retAddr 0), some (.ref 0), some (.ref 111), some (.int x)] [] h3 c n) : zR zTt G cd_L 600000 7302250 (some .boolean) (zW zTt G 64) (fun w _ => w = some (.int 1)) 1888 [some (.retAddr 0), some (.ref 0), some (.ref 111), some (.int x)] [] h c n := by
  have hx0 : 0 ≤ x.toInt := by omega
  have hx8 : x.toInt + 8 ≤ G.2.2.1 := by omega
  obtain ⟨fs0, hx_0⟩ := h0
  refine r_aload (zW_mono _ _ _) lq_1888 rfl ?_
  refine r_aloadS (zW_mono _ _ _) lq_1889 rfl ?_
  refine r_iload (zW_mono _ _ _) lq_1890 rfl ?_
  refine r_push (zW_mono _ _ _) lq_1891 ?_
  refine r_iadd (zW_mono _ _ _) lq_1892 ?_
  refine r_sld (zW_mono _ _ _) lq_1893 (zsx hx0 hx8 hN 1 (by decide) (by decide)) ?_
  refine r_aloadS (zW_mono _ _ _) lq_1894 rfl ?_
  refine r_iload (zW_mono _ _ _) lq_1895 rfl ?_
  refine r_push (zW_mono _ _ _) lq_1896 ?_
  refine r_iadd (zW_mono _ _ _) lq_1897 ?_
  refine r_sld (zW_mono _ _ _) lq_1898 (zsx hx0 hx8 hN 2 (by decide) (by decide)) ?_
  refine r_virt2 (m1 := 0) (m2 := 0) (zW_mono _ _ _) lq_1899 hx_0 (Nat.le_of_ble_eq_true rfl) (by unfold zbud; rw [hG]; rfl) (by omega) (by omega) ?_
  refine zW_mono zTt G 64 _ _ _ _ _ ?_ (A [G.2.2.2 (x + 1).toNatClampNeg, G.2.2.2 (x + 2).toNatClampNeg] ⟨zfI_ok _, zfI_ok _, trivial⟩)
  rintro w h2 ⟨⟨x9, rfl⟩, ⟨fs9, hr9⟩, k9⟩
  refine r_pop (zW_mono _ _ _) lq_1902 rfl ?_
  refine r_aload (zW_mono _ _ _) lq_1903 rfl ?_
  refine r_aloadS (zW_mono _ _ _) lq_1904 rfl ?_
  refine r_iload (zW_mono _ _ _) lq_1905 rfl ?_
  refine r_push (zW_mono _ _ _) lq_1906 ?_
  refine r_iadd (zW_mono _ _ _) lq_1907 ?_
  refine r_sld (zW_mono _ _ _) lq_1908 (zsx hx0 hx8 hN 1 (by decide) (by decide)) ?_
  refine r_aloadS (zW_mono _ _ _) lq_1909 rfl ?_
  refine r_iload (zW_mono _ _ _) lq_1910 rfl ?_
  refine r_push (zW_mono _ _ _) lq_1911 ?_
  refine r_iadd (zW_mono _ _ _) lq_1912 ?_
  refine r_sld (zW_mono _ _ _) lq_1913 (zsx hx0 hx8 hN 2 (by decide) (by decide)) ?_
  refine r_virt2 (m1 := 0) (m2 := 0) (zW_mono _ _ _) lq_1914 hr9 (Nat.le_of_ble_eq_true rfl) (by unfold zbud; rw [hG]; rfl) (by omega) (by omega) ?_
  refine zW_mono zTt G 64 _ _ _ _ _ ?_ k9
  rintro w h3 ⟨⟨y9, rfl⟩, e9, p9⟩
  refine r_pop (zW_mono _ _ _) lq_1917 rfl ?_
  refine r_goto (zW_mono _ _ _) lq_1918 ?_
  exact K h3 _ _ p9 (by omega) (by omega)
set_option maxHeartbeats 1000000 in
theorem lawop_moves {G : zG} (hG : G.1 = zProg) (hN : G.2.2.1 ≤ 4096) {P : zH → Prop} {h : zH} {x : Int32} {q : Nat} (hx : x.toInt = 8 * q) (hq : 8 * q + 8 ≤ G.2.2.1) {c n : Nat} (hc : c ≤ 182 + 8 * q) (hn : n ≤ 43931 + 800 * q) (h0 : ∃ fs, h[0]? = some (.inr (11, fs))) (A : ∀ xs, zpB [zfI, zbI] xs → zW zTt G 64 151 (.ref 0 :: xs.map Value.int) h (fun w h2 => zTy 0 w ∧ (∃ fs, h2[111]? = some (.inr (12, fs))) ∧ zW zTt G 64 273 (.ref 111 :: xs.map Value.int) h2 (fun w2 h3 => zTy 0 w2 ∧ (false = true → w2 = w) ∧ P h3))) (K : ∀ h3 c n, P h3 → c ≤ 182 + 8 * (q + 1) → n ≤ 43931 + 800 * (q + 1) → zR zTt G cd_L 600000 7302250 (some .boolean) (zW zTt G 64) (fun w _ => w = some (.int 1)) 2138 [some (.retAddr 0), some (.ref 0), some (.ref 111), some (.int x)] [] h3 c n) : zR zTt G cd_L 600000 7302250 (some .boolean) (zW zTt G 64) (fun w _ => w = some (.int 1)) 1921 [some (.retAddr 0), some (.ref 0), some (.ref 111), some (.int x)] [] h c n := by
  have hx0 : 0 ≤ x.toInt := by omega
  have hx8 : x.toInt + 8 ≤ G.2.2.1 := by omega
  obtain ⟨fs0, hx_0⟩ := h0
  refine r_aload (zW_mono _ _ _) lq_1921 rfl ?_
  refine r_aloadS (zW_mono _ _ _) lq_1922 rfl ?_
  refine r_iload (zW_mono _ _ _) lq_1923 rfl ?_
  refine r_push (zW_mono _ _ _) lq_1924 ?_
  refine r_iadd (zW_mono _ _ _) lq_1925 ?_
  refine r_sld (zW_mono _ _ _) lq_1926 (zsx hx0 hx8 hN 1 (by decide) (by decide)) ?_
  refine r_aloadS (zW_mono _ _ _) lq_1927 rfl ?_
  refine r_iload (zW_mono _ _ _) lq_1928 rfl ?_
  refine r_push (zW_mono _ _ _) lq_1929 ?_
  refine r_iadd (zW_mono _ _ _) lq_1930 ?_
  refine r_sld (zW_mono _ _ _) lq_1931 (zsx hx0 hx8 hN 2 (by decide) (by decide)) ?_
  refine r_if_eq (zW_mono _ _ _) lq_1932 (fun q2 => ?_) (fun q2 => ?_)
  · refine r_push (zW_mono _ _ _) lq_1939 ?_
    refine r_virt2 (m1 := 0) (m2 := 0) (zW_mono _ _ _) lq_1940 hx_0 (Nat.le_of_ble_eq_true rfl) (by unfold zbud; rw [hG]; rfl) (by omega) (by omega) ?_
    refine zW_mono zTt G 64 _ _ _ _ _ ?_ (A [G.2.2.2 (x + 1).toNatClampNeg, 0] ⟨zfI_ok _, ⟨by decide, by decide⟩, trivial⟩)
    rintro w h2 ⟨⟨x9, rfl⟩, ⟨fs9, hr9⟩, k9⟩
    refine r_pop (zW_mono _ _ _) lq_1943 rfl ?_
    refine r_aload (zW_mono _ _ _) lq_1944 rfl ?_
    refine r_aloadS (zW_mono _ _ _) lq_1945 rfl ?_
    refine r_iload (zW_mono _ _ _) lq_1946 rfl ?_
    refine r_push (zW_mono _ _ _) lq_1947 ?_
    refine r_iadd (zW_mono _ _ _) lq_1948 ?_
    refine r_sld (zW_mono _ _ _) lq_1949 (zsx hx0 hx8 hN 1 (by decide) (by decide)) ?_
    refine r_aloadS (zW_mono _ _ _) lq_1950 rfl ?_
    refine r_iload (zW_mono _ _ _) lq_1951 rfl ?_
    refine r_push (zW_mono _ _ _) lq_1952 ?_
    refine r_iadd (zW_mono _ _ _) lq_1953 ?_
    refine r_sld (zW_mono _ _ _) lq_1954 (zsx hx0 hx8 hN 2 (by decide) (by decide)) ?_
    refine r_if_eq (zW_mono _ _ _) lq_1955 (fun _ => ?_) (fun q => absurd q2 q)
    refine r_push (zW_mono _ _ _) lq_1962 ?_
    refine r_virt2 (m1 := 0) (m2 := 0) (zW_mono _ _ _) lq_1963 hr9 (Nat.le_of_ble_eq_true rfl) (by unfold zbud; rw [hG]; rfl) (by omega) (by omega) ?_
    refine zW_mono zTt G 64 _ _ _ _ _ ?_ k9
    rintro w h3 ⟨⟨y9, rfl⟩, e9, p9⟩
    refine r_pop (zW_mono _ _ _) lq_1966 rfl ?_
    refine r_goto (zW_mono _ _ _) lq_1967 ?_
    exact K h3 _ _ p9 (by omega) (by omega)
  · refine r_push (zW_mono _ _ _) lq_1935 ?_
    refine r_goto (zW_mono _ _ _) lq_1936 ?_
    refine r_virt2 (m1 := 0) (m2 := 0) (zW_mono _ _ _) lq_1940 hx_0 (Nat.le_of_ble_eq_true rfl) (by unfold zbud; rw [hG]; rfl) (by omega) (by omega) ?_
    refine zW_mono zTt G 64 _ _ _ _ _ ?_ (A [G.2.2.2 (x + 1).toNatClampNeg, 1] ⟨zfI_ok _, ⟨by decide, by decide⟩, trivial⟩)
    rintro w h2 ⟨⟨x9, rfl⟩, ⟨fs9, hr9⟩, k9⟩
    refine r_pop (zW_mono _ _ _) lq_1943 rfl ?_
    refine r_aload (zW_mono _ _ _) lq_1944 rfl ?_
    refine r_aloadS (zW_mono _ _ _) lq_1945 rfl ?_
    refine r_iload (zW_mono _ _ _) lq_1946 rfl ?_
    refine r_push (zW_mono _ _ _) lq_1947 ?_
    refine r_iadd (zW_mono _ _ _) lq_1948 ?_
    refine r_sld (zW_mono _ _ _) lq_1949 (zsx hx0 hx8 hN 1 (by decide) (by decide)) ?_
    refine r_aloadS (zW_mono _ _ _) lq_1950 rfl ?_
    refine r_iload (zW_mono _ _ _) lq_1951 rfl ?_
    refine r_push (zW_mono _ _ _) lq_1952 ?_
    refine r_iadd (zW_mono _ _ _) lq_1953 ?_
    refine r_sld (zW_mono _ _ _) lq_1954 (zsx hx0 hx8 hN 2 (by decide) (by decide)) ?_
    refine r_if_eq (zW_mono _ _ _) lq_1955 (fun q => absurd q q2) (fun _ => ?_)
    refine r_push (zW_mono _ _ _) lq_1958 ?_
    refine r_goto (zW_mono _ _ _) lq_1959 ?_
    refine r_virt2 (m1 := 0) (m2 := 0) (zW_mono _ _ _) lq_1963 hr9 (Nat.le_of_ble_eq_true rfl) (by unfold zbud; rw [hG]; rfl) (by omega) (by omega) ?_
    refine zW_mono zTt G 64 _ _ _ _ _ ?_ k9
    rintro w h3 ⟨⟨y9, rfl⟩, e9, p9⟩
    refine r_pop (zW_mono _ _ _) lq_1966 rfl ?_
    refine r_goto (zW_mono _ _ _) lq_1967 ?_
    exact K h3 _ _ p9 (by omega) (by omega)
set_option maxHeartbeats 1000000 in
theorem lawop_jury {G : zG} (hG : G.1 = zProg) (hN : G.2.2.1 ≤ 4096) {P : zH → Prop} {h : zH} {x : Int32} {q : Nat} (hx : x.toInt = 8 * q) (hq : 8 * q + 8 ≤ G.2.2.1) {c n : Nat} (hc : c ≤ 182 + 8 * q) (hn : n ≤ 43931 + 800 * q) (h0 : ∃ fs, h[0]? = some (.inr (11, fs))) (A : ∀ xs, zpB [zfI] xs → zW zTt G 64 152 (.ref 0 :: xs.map Value.int) h (fun w h2 => zTy 1 w ∧ (∃ fs, h2[111]? = some (.inr (12, fs))) ∧ zW zTt G 64 274 (.ref 111 :: xs.map Value.int) h2 (fun w2 h3 => zTy 1 w2 ∧ (false = true → w2 = w) ∧ P h3))) (K : ∀ h3 c n, P h3 → c ≤ 182 + 8 * (q + 1) → n ≤ 43931 + 800 * (q + 1) → zR zTt G cd_L 600000 7302250 (some .boolean) (zW zTt G 64) (fun w _ => w = some (.int 1)) 2138 [some (.retAddr 0), some (.ref 0), some (.ref 111), some (.int x)] [] h3 c n) : zR zTt G cd_L 600000 7302250 (some .boolean) (zW zTt G 64) (fun w _ => w = some (.int 1)) 1970 [some (.retAddr 0), some (.ref 0), some (.ref 111), some (.int x)] [] h c n := by
  have hx0 : 0 ≤ x.toInt := by omega
  have hx8 : x.toInt + 8 ≤ G.2.2.1 := by omega
  obtain ⟨fs0, hx_0⟩ := h0
  refine r_aload (zW_mono _ _ _) lq_1970 rfl ?_
  refine r_aloadS (zW_mono _ _ _) lq_1971 rfl ?_
  refine r_iload (zW_mono _ _ _) lq_1972 rfl ?_
  refine r_push (zW_mono _ _ _) lq_1973 ?_
  refine r_iadd (zW_mono _ _ _) lq_1974 ?_
  refine r_sld (zW_mono _ _ _) lq_1975 (zsx hx0 hx8 hN 1 (by decide) (by decide)) ?_
  refine r_virt1 (m1 := 0) (m2 := 0) (zW_mono _ _ _) lq_1976 hx_0 (Nat.le_of_ble_eq_true rfl) (by unfold zbud; rw [hG]; rfl) (by omega) (by omega) ?_
  refine zW_mono zTt G 64 _ _ _ _ _ ?_ (A [G.2.2.2 (x + 1).toNatClampNeg] ⟨zfI_ok _, trivial⟩)
  rintro w h2 ⟨⟨x9, rfl⟩, ⟨fs9, hr9⟩, k9⟩
  refine r_popl (zW_mono _ _ _) lq_1979 rfl ?_
  refine r_aload (zW_mono _ _ _) lq_1980 rfl ?_
  refine r_aloadS (zW_mono _ _ _) lq_1981 rfl ?_
  refine r_iload (zW_mono _ _ _) lq_1982 rfl ?_
  refine r_push (zW_mono _ _ _) lq_1983 ?_
  refine r_iadd (zW_mono _ _ _) lq_1984 ?_
  refine r_sld (zW_mono _ _ _) lq_1985 (zsx hx0 hx8 hN 1 (by decide) (by decide)) ?_
  refine r_virt1 (m1 := 0) (m2 := 0) (zW_mono _ _ _) lq_1986 hr9 (Nat.le_of_ble_eq_true rfl) (by unfold zbud; rw [hG]; rfl) (by omega) (by omega) ?_
  refine zW_mono zTt G 64 _ _ _ _ _ ?_ k9
  rintro w h3 ⟨⟨y9, rfl⟩, e9, p9⟩
  refine r_popl (zW_mono _ _ _) lq_1989 rfl ?_
  refine r_goto (zW_mono _ _ _) lq_1990 ?_
  exact K h3 _ _ p9 (by omega) (by omega)
set_option maxHeartbeats 1000000 in
theorem lawop_saver {G : zG} (hG : G.1 = zProg) (hN : G.2.2.1 ≤ 4096) {P : zH → Prop} {h : zH} {x : Int32} {q : Nat} (hx : x.toInt = 8 * q) (hq : 8 * q + 8 ≤ G.2.2.1) {c n : Nat} (hc : c ≤ 182 + 8 * q) (hn : n ≤ 43931 + 800 * q) (h0 : ∃ fs, h[0]? = some (.inr (11, fs))) (A : ∀ xs, zpB [zfI, zfI] xs → zW zTt G 64 153 (.ref 0 :: xs.map Value.int) h (fun w h2 => zTy 0 w ∧ (∃ fs, h2[111]? = some (.inr (12, fs))) ∧ zW zTt G 64 275 (.ref 111 :: xs.map Value.int) h2 (fun w2 h3 => zTy 0 w2 ∧ (false = true → w2 = w) ∧ P h3))) (K : ∀ h3 c n, P h3 → c ≤ 182 + 8 * (q + 1) → n ≤ 43931 + 800 * (q + 1) → zR zTt G cd_L 600000 7302250 (some .boolean) (zW zTt G 64) (fun w _ => w = some (.int 1)) 2138 [some (.retAddr 0), some (.ref 0), some (.ref 111), some (.int x)] [] h3 c n) : zR zTt G cd_L 600000 7302250 (some .boolean) (zW zTt G 64) (fun w _ => w = some (.int 1)) 1993 [some (.retAddr 0), some (.ref 0), some (.ref 111), some (.int x)] [] h c n := by
  have hx0 : 0 ≤ x.toInt := by omega
  have hx8 : x.toInt + 8 ≤ G.2.2.1 := by omega
  obtain ⟨fs0, hx_0⟩ := h0
  refine r_aload (zW_mono _ _ _) lq_1993 rfl ?_
  refine r_aloadS (zW_mono _ _ _) lq_1994 rfl ?_
  refine r_iload (zW_mono _ _ _) lq_1995 rfl ?_
  refine r_push (zW_mono _ _ _) lq_1996 ?_
  refine r_iadd (zW_mono _ _ _) lq_1997 ?_
  refine r_sld (zW_mono _ _ _) lq_1998 (zsx hx0 hx8 hN 1 (by decide) (by decide)) ?_
  refine r_aloadS (zW_mono _ _ _) lq_1999 rfl ?_
  refine r_iload (zW_mono _ _ _) lq_2000 rfl ?_
  refine r_push (zW_mono _ _ _) lq_2001 ?_
  refine r_iadd (zW_mono _ _ _) lq_2002 ?_
  refine r_sld (zW_mono _ _ _) lq_2003 (zsx hx0 hx8 hN 2 (by decide) (by decide)) ?_
  refine r_virt2 (m1 := 0) (m2 := 0) (zW_mono _ _ _) lq_2004 hx_0 (Nat.le_of_ble_eq_true rfl) (by unfold zbud; rw [hG]; rfl) (by omega) (by omega) ?_
  refine zW_mono zTt G 64 _ _ _ _ _ ?_ (A [G.2.2.2 (x + 1).toNatClampNeg, G.2.2.2 (x + 2).toNatClampNeg] ⟨zfI_ok _, zfI_ok _, trivial⟩)
  rintro w h2 ⟨⟨x9, rfl⟩, ⟨fs9, hr9⟩, k9⟩
  refine r_pop (zW_mono _ _ _) lq_2007 rfl ?_
  refine r_aload (zW_mono _ _ _) lq_2008 rfl ?_
  refine r_aloadS (zW_mono _ _ _) lq_2009 rfl ?_
  refine r_iload (zW_mono _ _ _) lq_2010 rfl ?_
  refine r_push (zW_mono _ _ _) lq_2011 ?_
  refine r_iadd (zW_mono _ _ _) lq_2012 ?_
  refine r_sld (zW_mono _ _ _) lq_2013 (zsx hx0 hx8 hN 1 (by decide) (by decide)) ?_
  refine r_aloadS (zW_mono _ _ _) lq_2014 rfl ?_
  refine r_iload (zW_mono _ _ _) lq_2015 rfl ?_
  refine r_push (zW_mono _ _ _) lq_2016 ?_
  refine r_iadd (zW_mono _ _ _) lq_2017 ?_
  refine r_sld (zW_mono _ _ _) lq_2018 (zsx hx0 hx8 hN 2 (by decide) (by decide)) ?_
  refine r_virt2 (m1 := 0) (m2 := 0) (zW_mono _ _ _) lq_2019 hr9 (Nat.le_of_ble_eq_true rfl) (by unfold zbud; rw [hG]; rfl) (by omega) (by omega) ?_
  refine zW_mono zTt G 64 _ _ _ _ _ ?_ k9
  rintro w h3 ⟨⟨y9, rfl⟩, e9, p9⟩
  refine r_pop (zW_mono _ _ _) lq_2022 rfl ?_
  refine r_goto (zW_mono _ _ _) lq_2023 ?_
  exact K h3 _ _ p9 (by omega) (by omega)
set_option maxHeartbeats 1000000 in
theorem lawop_overlap {G : zG} (hG : G.1 = zProg) (hN : G.2.2.1 ≤ 4096) {P : zH → Prop} {h : zH} {x : Int32} {q : Nat} (hx : x.toInt = 8 * q) (hq : 8 * q + 8 ≤ G.2.2.1) {c n : Nat} (hc : c ≤ 182 + 8 * q) (hn : n ≤ 43931 + 800 * q) (h0 : ∃ fs, h[0]? = some (.inr (11, fs))) (A : ∀ xs, zpB [zfI, zfI, zfI] xs → zW zTt G 64 154 (.ref 0 :: xs.map Value.int) h (fun w h2 => zTy 0 w ∧ (∃ fs, h2[111]? = some (.inr (12, fs))) ∧ zW zTt G 64 276 (.ref 111 :: xs.map Value.int) h2 (fun w2 h3 => zTy 0 w2 ∧ (false = true → w2 = w) ∧ P h3))) (K : ∀ h3 c n, P h3 → c ≤ 182 + 8 * (q + 1) → n ≤ 43931 + 800 * (q + 1) → zR zTt G cd_L 600000 7302250 (some .boolean) (zW zTt G 64) (fun w _ => w = some (.int 1)) 2138 [some (.retAddr 0), some (.ref 0), some (.ref 111), some (.int x)] [] h3 c n) : zR zTt G cd_L 600000 7302250 (some .boolean) (zW zTt G 64) (fun w _ => w = some (.int 1)) 2026 [some (.retAddr 0), some (.ref 0), some (.ref 111), some (.int x)] [] h c n := by
  have hx0 : 0 ≤ x.toInt := by omega
  have hx8 : x.toInt + 8 ≤ G.2.2.1 := by omega
  obtain ⟨fs0, hx_0⟩ := h0
  refine r_aload (zW_mono _ _ _) lq_2026 rfl ?_
  refine r_aloadS (zW_mono _ _ _) lq_2027 rfl ?_
  refine r_iload (zW_mono _ _ _) lq_2028 rfl ?_
  refine r_push (zW_mono _ _ _) lq_2029 ?_
  refine r_iadd (zW_mono _ _ _) lq_2030 ?_
  refine r_sld (zW_mono _ _ _) lq_2031 (zsx hx0 hx8 hN 1 (by decide) (by decide)) ?_
  refine r_aloadS (zW_mono _ _ _) lq_2032 rfl ?_
  refine r_iload (zW_mono _ _ _) lq_2033 rfl ?_
  refine r_push (zW_mono _ _ _) lq_2034 ?_
  refine r_iadd (zW_mono _ _ _) lq_2035 ?_
  refine r_sld (zW_mono _ _ _) lq_2036 (zsx hx0 hx8 hN 2 (by decide) (by decide)) ?_
  refine r_aloadS (zW_mono _ _ _) lq_2037 rfl ?_
  refine r_iload (zW_mono _ _ _) lq_2038 rfl ?_
  refine r_push (zW_mono _ _ _) lq_2039 ?_
  refine r_iadd (zW_mono _ _ _) lq_2040 ?_
  refine r_sld (zW_mono _ _ _) lq_2041 (zsx hx0 hx8 hN 3 (by decide) (by decide)) ?_
  refine r_virt3 (m1 := 0) (m2 := 0) (zW_mono _ _ _) lq_2042 hx_0 (Nat.le_of_ble_eq_true rfl) (by unfold zbud; rw [hG]; rfl) (by omega) (by omega) ?_
  refine zW_mono zTt G 64 _ _ _ _ _ ?_ (A [G.2.2.2 (x + 1).toNatClampNeg, G.2.2.2 (x + 2).toNatClampNeg, G.2.2.2 (x + 3).toNatClampNeg] ⟨zfI_ok _, zfI_ok _, zfI_ok _, trivial⟩)
  rintro w h2 ⟨⟨x9, rfl⟩, ⟨fs9, hr9⟩, k9⟩
  refine r_pop (zW_mono _ _ _) lq_2045 rfl ?_
  refine r_aload (zW_mono _ _ _) lq_2046 rfl ?_
  refine r_aloadS (zW_mono _ _ _) lq_2047 rfl ?_
  refine r_iload (zW_mono _ _ _) lq_2048 rfl ?_
  refine r_push (zW_mono _ _ _) lq_2049 ?_
  refine r_iadd (zW_mono _ _ _) lq_2050 ?_
  refine r_sld (zW_mono _ _ _) lq_2051 (zsx hx0 hx8 hN 1 (by decide) (by decide)) ?_
  refine r_aloadS (zW_mono _ _ _) lq_2052 rfl ?_
  refine r_iload (zW_mono _ _ _) lq_2053 rfl ?_
  refine r_push (zW_mono _ _ _) lq_2054 ?_
  refine r_iadd (zW_mono _ _ _) lq_2055 ?_
  refine r_sld (zW_mono _ _ _) lq_2056 (zsx hx0 hx8 hN 2 (by decide) (by decide)) ?_
  refine r_aloadS (zW_mono _ _ _) lq_2057 rfl ?_
  refine r_iload (zW_mono _ _ _) lq_2058 rfl ?_
  refine r_push (zW_mono _ _ _) lq_2059 ?_
  refine r_iadd (zW_mono _ _ _) lq_2060 ?_
  refine r_sld (zW_mono _ _ _) lq_2061 (zsx hx0 hx8 hN 3 (by decide) (by decide)) ?_
  refine r_virt3 (m1 := 0) (m2 := 0) (zW_mono _ _ _) lq_2062 hr9 (Nat.le_of_ble_eq_true rfl) (by unfold zbud; rw [hG]; rfl) (by omega) (by omega) ?_
  refine zW_mono zTt G 64 _ _ _ _ _ ?_ k9
  rintro w h3 ⟨⟨y9, rfl⟩, e9, p9⟩
  refine r_pop (zW_mono _ _ _) lq_2065 rfl ?_
  refine r_goto (zW_mono _ _ _) lq_2066 ?_
  exact K h3 _ _ p9 (by omega) (by omega)
set_option maxHeartbeats 1000000 in
theorem lawop_best {G : zG} (hG : G.1 = zProg) (hN : G.2.2.1 ≤ 4096) {P : zH → Prop} {h : zH} {x : Int32} {q : Nat} (hx : x.toInt = 8 * q) (hq : 8 * q + 8 ≤ G.2.2.1) {c n : Nat} (hc : c ≤ 182 + 8 * q) (hn : n ≤ 43931 + 800 * q) (h0 : ∃ fs, h[0]? = some (.inr (11, fs))) (A : ∀ xs, zpB [zfI] xs → zW zTt G 64 155 (.ref 0 :: xs.map Value.int) h (fun w h2 => zTy 0 w ∧ (∃ fs, h2[111]? = some (.inr (12, fs))) ∧ zW zTt G 64 277 (.ref 111 :: xs.map Value.int) h2 (fun w2 h3 => zTy 0 w2 ∧ (false = true → w2 = w) ∧ P h3))) (K : ∀ h3 c n, P h3 → c ≤ 182 + 8 * (q + 1) → n ≤ 43931 + 800 * (q + 1) → zR zTt G cd_L 600000 7302250 (some .boolean) (zW zTt G 64) (fun w _ => w = some (.int 1)) 2138 [some (.retAddr 0), some (.ref 0), some (.ref 111), some (.int x)] [] h3 c n) : zR zTt G cd_L 600000 7302250 (some .boolean) (zW zTt G 64) (fun w _ => w = some (.int 1)) 2069 [some (.retAddr 0), some (.ref 0), some (.ref 111), some (.int x)] [] h c n := by
  have hx0 : 0 ≤ x.toInt := by omega
  have hx8 : x.toInt + 8 ≤ G.2.2.1 := by omega
  obtain ⟨fs0, hx_0⟩ := h0
  refine r_aload (zW_mono _ _ _) lq_2069 rfl ?_
  refine r_aloadS (zW_mono _ _ _) lq_2070 rfl ?_
  refine r_iload (zW_mono _ _ _) lq_2071 rfl ?_
  refine r_push (zW_mono _ _ _) lq_2072 ?_
  refine r_iadd (zW_mono _ _ _) lq_2073 ?_
  refine r_sld (zW_mono _ _ _) lq_2074 (zsx hx0 hx8 hN 1 (by decide) (by decide)) ?_
  refine r_virt1 (m1 := 0) (m2 := 0) (zW_mono _ _ _) lq_2075 hx_0 (Nat.le_of_ble_eq_true rfl) (by unfold zbud; rw [hG]; rfl) (by omega) (by omega) ?_
  refine zW_mono zTt G 64 _ _ _ _ _ ?_ (A [G.2.2.2 (x + 1).toNatClampNeg] ⟨zfI_ok _, trivial⟩)
  rintro w h2 ⟨⟨x9, rfl⟩, ⟨fs9, hr9⟩, k9⟩
  refine r_pop (zW_mono _ _ _) lq_2078 rfl ?_
  refine r_aload (zW_mono _ _ _) lq_2079 rfl ?_
  refine r_aloadS (zW_mono _ _ _) lq_2080 rfl ?_
  refine r_iload (zW_mono _ _ _) lq_2081 rfl ?_
  refine r_push (zW_mono _ _ _) lq_2082 ?_
  refine r_iadd (zW_mono _ _ _) lq_2083 ?_
  refine r_sld (zW_mono _ _ _) lq_2084 (zsx hx0 hx8 hN 1 (by decide) (by decide)) ?_
  refine r_virt1 (m1 := 0) (m2 := 0) (zW_mono _ _ _) lq_2085 hr9 (Nat.le_of_ble_eq_true rfl) (by unfold zbud; rw [hG]; rfl) (by omega) (by omega) ?_
  refine zW_mono zTt G 64 _ _ _ _ _ ?_ k9
  rintro w h3 ⟨⟨y9, rfl⟩, e9, p9⟩
  refine r_pop (zW_mono _ _ _) lq_2088 rfl ?_
  refine r_goto (zW_mono _ _ _) lq_2089 ?_
  exact K h3 _ _ p9 (by omega) (by omega)
set_option maxHeartbeats 1000000 in
theorem lawop_bests {G : zG} (hG : G.1 = zProg) (hN : G.2.2.1 ≤ 4096) {P : zH → Prop} {h : zH} {x : Int32} {q : Nat} (hx : x.toInt = 8 * q) (hq : 8 * q + 8 ≤ G.2.2.1) {c n : Nat} (hc : c ≤ 182 + 8 * q) (hn : n ≤ 43931 + 800 * q) (h0 : ∃ fs, h[0]? = some (.inr (11, fs))) (A : ∀ xs, zpB [zfI] xs → zW zTt G 64 156 (.ref 0 :: xs.map Value.int) h (fun w h2 => zTy 0 w ∧ (∃ fs, h2[111]? = some (.inr (12, fs))) ∧ zW zTt G 64 278 (.ref 111 :: xs.map Value.int) h2 (fun w2 h3 => zTy 0 w2 ∧ (false = true → w2 = w) ∧ P h3))) (K : ∀ h3 c n, P h3 → c ≤ 182 + 8 * (q + 1) → n ≤ 43931 + 800 * (q + 1) → zR zTt G cd_L 600000 7302250 (some .boolean) (zW zTt G 64) (fun w _ => w = some (.int 1)) 2138 [some (.retAddr 0), some (.ref 0), some (.ref 111), some (.int x)] [] h3 c n) : zR zTt G cd_L 600000 7302250 (some .boolean) (zW zTt G 64) (fun w _ => w = some (.int 1)) 2092 [some (.retAddr 0), some (.ref 0), some (.ref 111), some (.int x)] [] h c n := by
  have hx0 : 0 ≤ x.toInt := by omega
  have hx8 : x.toInt + 8 ≤ G.2.2.1 := by omega
  obtain ⟨fs0, hx_0⟩ := h0
  refine r_aload (zW_mono _ _ _) lq_2092 rfl ?_
  refine r_aloadS (zW_mono _ _ _) lq_2093 rfl ?_
  refine r_iload (zW_mono _ _ _) lq_2094 rfl ?_
  refine r_push (zW_mono _ _ _) lq_2095 ?_
  refine r_iadd (zW_mono _ _ _) lq_2096 ?_
  refine r_sld (zW_mono _ _ _) lq_2097 (zsx hx0 hx8 hN 1 (by decide) (by decide)) ?_
  refine r_virt1 (m1 := 0) (m2 := 0) (zW_mono _ _ _) lq_2098 hx_0 (Nat.le_of_ble_eq_true rfl) (by unfold zbud; rw [hG]; rfl) (by omega) (by omega) ?_
  refine zW_mono zTt G 64 _ _ _ _ _ ?_ (A [G.2.2.2 (x + 1).toNatClampNeg] ⟨zfI_ok _, trivial⟩)
  rintro w h2 ⟨⟨x9, rfl⟩, ⟨fs9, hr9⟩, k9⟩
  refine r_pop (zW_mono _ _ _) lq_2101 rfl ?_
  refine r_aload (zW_mono _ _ _) lq_2102 rfl ?_
  refine r_aloadS (zW_mono _ _ _) lq_2103 rfl ?_
  refine r_iload (zW_mono _ _ _) lq_2104 rfl ?_
  refine r_push (zW_mono _ _ _) lq_2105 ?_
  refine r_iadd (zW_mono _ _ _) lq_2106 ?_
  refine r_sld (zW_mono _ _ _) lq_2107 (zsx hx0 hx8 hN 1 (by decide) (by decide)) ?_
  refine r_virt1 (m1 := 0) (m2 := 0) (zW_mono _ _ _) lq_2108 hr9 (Nat.le_of_ble_eq_true rfl) (by unfold zbud; rw [hG]; rfl) (by omega) (by omega) ?_
  refine zW_mono zTt G 64 _ _ _ _ _ ?_ k9
  rintro w h3 ⟨⟨y9, rfl⟩, e9, p9⟩
  refine r_pop (zW_mono _ _ _) lq_2111 rfl ?_
  refine r_goto (zW_mono _ _ _) lq_2112 ?_
  exact K h3 _ _ p9 (by omega) (by omega)
set_option maxHeartbeats 1000000 in
theorem lawop_count {G : zG} (hG : G.1 = zProg) (hN : G.2.2.1 ≤ 4096) {P : zH → Prop} {h : zH} {x : Int32} {q : Nat} (hx : x.toInt = 8 * q) (hq : 8 * q + 8 ≤ G.2.2.1) {c n : Nat} (hc : c ≤ 182 + 8 * q) (hn : n ≤ 43931 + 800 * q) (h0 : ∃ fs, h[0]? = some (.inr (11, fs))) (A : ∀ xs, zpB [zfI] xs → zW zTt G 64 157 (.ref 0 :: xs.map Value.int) h (fun w h2 => zTy 0 w ∧ (∃ fs, h2[111]? = some (.inr (12, fs))) ∧ zW zTt G 64 279 (.ref 111 :: xs.map Value.int) h2 (fun w2 h3 => zTy 0 w2 ∧ (false = true → w2 = w) ∧ P h3))) (K : ∀ h3 c n, P h3 → c ≤ 182 + 8 * (q + 1) → n ≤ 43931 + 800 * (q + 1) → zR zTt G cd_L 600000 7302250 (some .boolean) (zW zTt G 64) (fun w _ => w = some (.int 1)) 2138 [some (.retAddr 0), some (.ref 0), some (.ref 111), some (.int x)] [] h3 c n) : zR zTt G cd_L 600000 7302250 (some .boolean) (zW zTt G 64) (fun w _ => w = some (.int 1)) 2115 [some (.retAddr 0), some (.ref 0), some (.ref 111), some (.int x)] [] h c n := by
  have hx0 : 0 ≤ x.toInt := by omega
  have hx8 : x.toInt + 8 ≤ G.2.2.1 := by omega
  obtain ⟨fs0, hx_0⟩ := h0
  refine r_aload (zW_mono _ _ _) lq_2115 rfl ?_
  refine r_aloadS (zW_mono _ _ _) lq_2116 rfl ?_
  refine r_iload (zW_mono _ _ _) lq_2117 rfl ?_
  refine r_push (zW_mono _ _ _) lq_2118 ?_
  refine r_iadd (zW_mono _ _ _) lq_2119 ?_
  refine r_sld (zW_mono _ _ _) lq_2120 (zsx hx0 hx8 hN 1 (by decide) (by decide)) ?_
  refine r_virt1 (m1 := 0) (m2 := 0) (zW_mono _ _ _) lq_2121 hx_0 (Nat.le_of_ble_eq_true rfl) (by unfold zbud; rw [hG]; rfl) (by omega) (by omega) ?_
  refine zW_mono zTt G 64 _ _ _ _ _ ?_ (A [G.2.2.2 (x + 1).toNatClampNeg] ⟨zfI_ok _, trivial⟩)
  rintro w h2 ⟨⟨x9, rfl⟩, ⟨fs9, hr9⟩, k9⟩
  refine r_pop (zW_mono _ _ _) lq_2124 rfl ?_
  refine r_aload (zW_mono _ _ _) lq_2125 rfl ?_
  refine r_aloadS (zW_mono _ _ _) lq_2126 rfl ?_
  refine r_iload (zW_mono _ _ _) lq_2127 rfl ?_
  refine r_push (zW_mono _ _ _) lq_2128 ?_
  refine r_iadd (zW_mono _ _ _) lq_2129 ?_
  refine r_sld (zW_mono _ _ _) lq_2130 (zsx hx0 hx8 hN 1 (by decide) (by decide)) ?_
  refine r_virt1 (m1 := 0) (m2 := 0) (zW_mono _ _ _) lq_2131 hr9 (Nat.le_of_ble_eq_true rfl) (by unfold zbud; rw [hG]; rfl) (by omega) (by omega) ?_
  refine zW_mono zTt G 64 _ _ _ _ _ ?_ k9
  rintro w h3 ⟨⟨y9, rfl⟩, e9, p9⟩
  refine r_pop (zW_mono _ _ _) lq_2134 rfl ?_
  refine r_goto (zW_mono _ _ _) lq_2135 ?_
  exact K h3 _ _ p9 (by omega) (by omega)
theorem zand63 (x : Int32) : 0 ≤ (x &&& 63).toInt ∧ (x &&& 63).toInt ≤ 63 := by
  obtain ⟨j, hj, e⟩ := pk_andE x (m := 63) 6 (by decide)
  rw [e, nI_toInt (by omega)]
  omega
set_option maxHeartbeats 8000000 in
theorem law_loop {G : zG} (hG : G.1 = zProg) (hN : G.2.2.1 ≤ 4096) {R : zH → Prop} (a0 : zAr G R 110 174 0 [zfI] false) (a1 : zAr G R 111 179 0 [zfI] false) (a2 : zAr G R 112 180 0 [zfI, zfI] false) (a3 : zAr G R 113 181 0 [zfI, zfI, zfI, zfI] false) (a4 : zAr G R 114 182 0 [zfI, zfI, zfI, zfI] false) (a5 : zAr G R 115 183 0 [zfI, zfI, zfI] false) (a6 : zAr G R 116 184 0 [zfI, zfI, zfI] false) (a7 : zAr G R 117 185 0 [zfI, zfI, zfI] false) (a8 : zAr G R 118 187 0 [zfI, zfI, zfI] false) (a9 : zAr G R 119 192 0 [zfI, zfI] false) (a10 : zAr G R 120 193 0 [zfI, zfI] false) (a11 : zAr G R 121 195 0 [zfI, zfI, zfI, zfI, zfI] false) (a12 : zAr G R 122 196 0 [zfI, zfI, zfI, zfI, zfI] false) (a13 : zAr G R 123 198 0 [zfI] false) (a14 : zAr G R 124 225 0 [zfI] false) (a15 : zAr G R 125 227 0 [zfI] false) (a16 : zAr G R 126 235 0 [zfI, zfI, zfI] false) (a17 : zAr G R 127 236 0 [zfI, zfI, zfI] false) (a18 : zAr G R 128 237 0 [zfI, zfI] false) (a19 : zAr G R 129 238 0 [zfI, zfI, zfI, zbI] false) (a20 : zAr G R 130 239 0 [zfI, zfI] true) (a21 : zAr G R 131 241 0 [zfI, zfI, zfI, zfI, zfI] false) (a22 : zAr G R 132 243 0 [zfI, zfI, zfI] false) (a23 : zAr G R 133 244 0 [zfI, zfI, zfI, zfI, zfI, zbI, zbI] false) (a24 : zAr G R 134 245 0 [zfI] false) (a25 : zAr G R 135 247 1 [zfI, zfI, zfI] false) (a26 : zAr G R 136 248 0 [zfI] false) (a27 : zAr G R 137 250 0 [zfI, zbI, zfI, zfI] false) (a28 : zAr G R 138 252 1 [zfI] false) (a29 : zAr G R 139 253 1 [zfI, zfI, zfI] false) (a30 : zAr G R 140 256 1 [zfI, zfI, zfI] false) (a31 : zAr G R 141 257 0 [zfI, zfI, zfI, zfI] false) (a32 : zAr G R 142 260 0 [zfI, zfI] false) (a33 : zAr G R 143 261 0 [zfI] false) (a34 : zAr G R 144 263 0 [zfI, zfI] false) (a35 : zAr G R 145 264 0 [zfI, zfI] false) (a36 : zAr G R 146 265 0 [zfI, zfI, zfI, zfI] false) (a37 : zAr G R 147 269 0 [zfI] false) (a38 : zAr G R 148 270 0 [zfI, zfI] false) (a39 : zAr G R 149 271 0 [zfI, zfI] false) (a40 : zAr G R 150 272 0 [zfI, zfI] false) (a41 : zAr G R 151 273 0 [zfI, zbI] false) (a42 : zAr G R 152 274 1 [zfI] false) (a43 : zAr G R 153 275 0 [zfI, zfI] false) (a44 : zAr G R 154 276 0 [zfI, zfI, zfI] false) (a45 : zAr G R 155 277 0 [zfI] false) (a46 : zAr G R 156 278 0 [zfI] false) (a47 : zAr G R 157 279 0 [zfI] false) : ∀ (m q : Nat) (x : Int32) (h : zH) (c n : Nat), x.toInt = 8 * q → G.2.2.1 < 8 * q + 8 * m + 8 → q ≤ 512 → zIv G.2.2.2 R h → c ≤ 182 + 8 * q → n ≤ 43931 + 800 * q → zR zTt G cd_L 600000 7302250 (some .boolean) (zW zTt G 64) (fun w _ => w = some (.int 1)) 18 [some (.retAddr 0), some (.ref 0), some (.ref 111), some (.int x)] [] h c n := by
  intro m
  induction m with
  | zero =>
    intro q x h c n hx hm hq hI hc hn
    refine r_iload (zW_mono _ _ _) lq_18 rfl ?_
    refine r_aloadS (zW_mono _ _ _) lq_19 rfl ?_
    refine r_slen (zW_mono _ _ _) lq_20 ?_
    refine r_push (zW_mono _ _ _) lq_21 ?_
    refine r_isub (zW_mono _ _ _) lq_23 ?_
    have e8 : (Int32.ofNat G.2.2.1 - 8).toInt = (G.2.2.1 : Int) - 8 := by rw [Int32.toInt_sub, yofN (by omega)]; exact Int.bmod_eq_of_le (by show (-2147483648 : Int) ≤ (G.2.2.1 : Int) - 8; omega) (by show (G.2.2.1 : Int) - 8 < (2147483648 : Int); omega)
    exact r_ic_gt (zW_mono _ _ _) lq_24 hx e8 (fun _ => law_out) (fun z => absurd z (by omega))
  | succ m ih =>
    intro q x h c n hx hm hq hI hc hn
    refine r_iload (zW_mono _ _ _) lq_18 rfl ?_
    refine r_aloadS (zW_mono _ _ _) lq_19 rfl ?_
    refine r_slen (zW_mono _ _ _) lq_20 ?_
    refine r_push (zW_mono _ _ _) lq_21 ?_
    refine r_isub (zW_mono _ _ _) lq_23 ?_
    have e8 : (Int32.ofNat G.2.2.1 - 8).toInt = (G.2.2.1 : Int) - 8 := by rw [Int32.toInt_sub, yofN (by omega)]; exact Int.bmod_eq_of_le (by show (-2147483648 : Int) ≤ (G.2.2.1 : Int) - 8; omega) (by show (G.2.2.1 : Int) - 8 < (2147483648 : Int); omega)
    refine r_ic_gt (zW_mono _ _ _) lq_24 hx e8 (fun _ => law_out) (fun z => ?_)
    have hq8 : 8 * q + 8 ≤ G.2.2.1 := by omega
    have hx0 : 0 ≤ x.toInt := by omega
    have hx8 : x.toInt + 8 ≤ G.2.2.1 := by omega
    have K : ∀ h3 c n, zIv G.2.2.2 R h3 → c ≤ 182 + 8 * (q + 1) → n ≤ 43931 + 800 * (q + 1) → zR zTt G cd_L 600000 7302250 (some .boolean) (zW zTt G 64) (fun w _ => w = some (.int 1)) 2138 [some (.retAddr 0), some (.ref 0), some (.ref 111), some (.int x)] [] h3 c n := by
      intro h3 c n p hc hn
      refine r_iinc (zW_mono _ _ _) lq_2138 rfl (Nat.le_of_ble_eq_true rfl) ?_
      refine r_goto (zW_mono _ _ _) lq_2141 ?_
      have e : (x + 8).toInt = 8 * ((q + 1 : Nat) : Int) := by
        rw [Int32.toInt_add]
        refine (Int.bmod_eq_of_le (by show (-2147483648 : Int) ≤ x.toInt + 8; omega) (by show x.toInt + 8 < (2147483648 : Int); omega)).trans ?_
        show x.toInt + 8 = _
        omega
      exact ih (q + 1) (x + 8) h3 c n e (by omega) (by omega) p (by omega) (by omega)
    have h0 : ∃ fs, h[0]? = some (.inr (11, fs)) := by obtain ⟨⟨τ, hB⟩, -⟩ := hI; exact zBs_0 hB
    refine r_aloadS (zW_mono _ _ _) lq_27 rfl ?_
    refine r_iload (zW_mono _ _ _) lq_28 rfl ?_
    refine r_sld (zW_mono _ _ _) lq_29 (zsx0 hx0 hx8) ?_
    refine r_push (zW_mono _ _ _) lq_30 ?_
    refine r_iand (zW_mono _ _ _) lq_32 ?_
    obtain ⟨b1, b2⟩ := zand63 (G.2.2.2 x.toNatClampNeg)
    generalize G.2.2.2 x.toNatClampNeg &&& 63 = y at b1 b2 ⊢
    have kd := K h c n hI (by omega) (by omega)
    refine r_table (zW_mono _ _ _) lq_33 (fun _ => kd) (fun q1 q2 => ?_)
    rcases (by omega : y.toInt = 0 ∨ y.toInt = 1 ∨ y.toInt = 2 ∨ y.toInt = 3 ∨ y.toInt = 4 ∨ y.toInt = 5 ∨ y.toInt = 6 ∨ y.toInt = 7 ∨ y.toInt = 8 ∨ y.toInt = 9 ∨ y.toInt = 10 ∨ y.toInt = 11 ∨ y.toInt = 12 ∨ y.toInt = 13 ∨ y.toInt = 14 ∨ y.toInt = 15 ∨ y.toInt = 16 ∨ y.toInt = 17 ∨ y.toInt = 18 ∨ y.toInt = 19 ∨ y.toInt = 20 ∨ y.toInt = 21 ∨ y.toInt = 22 ∨ y.toInt = 23 ∨ y.toInt = 24 ∨ y.toInt = 25 ∨ y.toInt = 26 ∨ y.toInt = 27 ∨ y.toInt = 28 ∨ y.toInt = 29 ∨ y.toInt = 30 ∨ y.toInt = 31 ∨ y.toInt = 32 ∨ y.toInt = 33 ∨ y.toInt = 34 ∨ y.toInt = 35 ∨ y.toInt = 36 ∨ y.toInt = 37 ∨ y.toInt = 38 ∨ y.toInt = 39 ∨ y.toInt = 40 ∨ y.toInt = 41 ∨ y.toInt = 42 ∨ y.toInt = 43 ∨ y.toInt = 44 ∨ y.toInt = 45 ∨ y.toInt = 46 ∨ y.toInt = 47) with z | z | z | z | z | z | z | z | z | z | z | z | z | z | z | z | z | z | z | z | z | z | z | z | z | z | z | z | z | z | z | z | z | z | z | z | z | z | z | z | z | z | z | z | z | z | z | z
    · exact ⟨240, by rw [z]; rfl, lawop_clock hG hN hx hq8 hc hn h0 (fun xs hb => a0 xs h hb hI) K⟩
    · exact ⟨263, by rw [z]; rfl, lawop_person hG hN hx hq8 hc hn h0 (fun xs hb => a1 xs h hb hI) K⟩
    · exact ⟨286, by rw [z]; rfl, lawop_factor hG hN hx hq8 hc hn h0 (fun xs hb => a2 xs h hb hI) K⟩
    · exact ⟨319, by rw [z]; rfl, lawop_kind hG hN hx hq8 hc hn h0 (fun xs hb => a3 xs h hb hI) K⟩
    · exact ⟨372, by rw [z]; rfl, lawop_part hG hN hx hq8 hc hn h0 (fun xs hb => a4 xs h hb hI) K⟩
    · exact ⟨425, by rw [z]; rfl, lawop_fit hG hN hx hq8 hc hn h0 (fun xs hb => a5 xs h hb hI) K⟩
    · exact ⟨468, by rw [z]; rfl, lawop_car hG hN hx hq8 hc hn h0 (fun xs hb => a6 xs h hb hI) K⟩
    · exact ⟨511, by rw [z]; rfl, lawop_sell hG hN hx hq8 hc hn h0 (fun xs hb => a7 xs h hb hI) K⟩
    · exact ⟨554, by rw [z]; rfl, lawop_owner hG hN hx hq8 hc hn h0 (fun xs hb => a8 xs h hb hI) K⟩
    · exact ⟨597, by rw [z]; rfl, lawop_cars hG hN hx hq8 hc hn h0 (fun xs hb => a9 xs h hb hI) K⟩
    · exact ⟨630, by rw [z]; rfl, lawop_force hG hN hx hq8 hc hn h0 (fun xs hb => a10 xs h hb hI) K⟩
    · exact ⟨663, by rw [z]; rfl, lawop_burns hG hN hx hq8 hc hn h0 (fun xs hb => a11 xs h hb hI) K⟩
    · exact ⟨726, by rw [z]; rfl, lawop_feed hG hN hx hq8 hc hn h0 (fun xs hb => a12 xs h hb hI) K⟩
    · exact ⟨789, by rw [z]; rfl, lawop_end hG hN hx hq8 hc hn h0 (fun xs hb => a13 xs h hb hI) K⟩
    · exact ⟨812, by rw [z]; rfl, lawop_rule hG hN hx hq8 hc hn h0 (fun xs hb => a14 xs h hb hI) K⟩
    · exact ⟨835, by rw [z]; rfl, lawop_inForce hG hN hx hq8 hc hn h0 (fun xs hb => a15 xs h hb hI) K⟩
    · exact ⟨858, by rw [z]; rfl, lawop_must hG hN hx hq8 hc hn h0 (fun xs hb => a16 xs h hb hI) K⟩
    · exact ⟨901, by rw [z]; rfl, lawop_fails hG hN hx hq8 hc hn h0 (fun xs hb => a17 xs h hb hI) K⟩
    · exact ⟨944, by rw [z]; rfl, lawop_owed hG hN hx hq8 hc hn h0 (fun xs hb => a18 xs h hb hI) K⟩
    · exact ⟨977, by rw [z]; rfl, lawop_test hG hN hx hq8 hc hn h0 (fun xs hb => a19 xs h hb hI) K⟩
    · exact ⟨1046, by rw [z]; rfl, lawop_reads hG hN hx hq8 hc hn h0 (fun xs hb => a20 xs h hb hI) K⟩
    · exact ⟨1079, by rw [z]; rfl, lawop_knew hG hN hx hq8 hc hn h0 (fun xs hb => a21 xs h hb hI) K⟩
    · exact ⟨1142, by rw [z]; rfl, lawop_knewFails hG hN hx hq8 hc hn h0 (fun xs hb => a22 xs h hb hI) K⟩
    · exact ⟨1185, by rw [z]; rfl, lawop_crash hG hN hx hq8 hc hn h0 (fun xs hb => a23 xs h hb hI) K⟩
    · exact ⟨1304, by rw [z]; rfl, lawop_odd hG hN hx hq8 hc hn h0 (fun xs hb => a24 xs h hb hI) K⟩
    · exact ⟨1327, by rw [z]; rfl, lawop_expected hG hN hx hq8 hc hn h0 (fun xs hb => a25 xs h hb hI) K⟩
    · exact ⟨1370, by rw [z]; rfl, lawop_memo hG hN hx hq8 hc hn h0 (fun xs hb => a26 xs h hb hI) K⟩
    · exact ⟨1393, by rw [z]; rfl, lawop_row hG hN hx hq8 hc hn h0 (fun xs hb => a27 xs h hb hI) K⟩
    · exact ⟨1462, by rw [z]; rfl, lawop_memoSum hG hN hx hq8 hc hn h0 (fun xs hb => a28 xs h hb hI) K⟩
    · exact ⟨1485, by rw [z]; rfl, lawop_turnsAt hG hN hx hq8 hc hn h0 (fun xs hb => a29 xs h hb hI) K⟩
    · exact ⟨1528, by rw [z]; rfl, lawop_beside hG hN hx hq8 hc hn h0 (fun xs hb => a30 xs h hb hI) K⟩
    · exact ⟨1571, by rw [z]; rfl, lawop_step hG hN hx hq8 hc hn h0 (fun xs hb => a31 xs h hb hI) K⟩
    · exact ⟨1624, by rw [z]; rfl, lawop_steps hG hN hx hq8 hc hn h0 (fun xs hb => a32 xs h hb hI) K⟩
    · exact ⟨1657, by rw [z]; rfl, lawop_putOff hG hN hx hq8 hc hn h0 (fun xs hb => a33 xs h hb hI) K⟩
    · exact ⟨1680, by rw [z]; rfl, lawop_change hG hN hx hq8 hc hn h0 (fun xs hb => a34 xs h hb hI) K⟩
    · exact ⟨1713, by rw [z]; rfl, lawop_cheap hG hN hx hq8 hc hn h0 (fun xs hb => a35 xs h hb hI) K⟩
    · exact ⟨1746, by rw [z]; rfl, lawop_call hG hN hx hq8 hc hn h0 (fun xs hb => a36 xs h hb hI) K⟩
    · exact ⟨1799, by rw [z]; rfl, lawop_letters hG hN hx hq8 hc hn h0 (fun xs hb => a37 xs h hb hI) K⟩
    · exact ⟨1822, by rw [z]; rfl, lawop_reached hG hN hx hq8 hc hn h0 (fun xs hb => a38 xs h hb hI) K⟩
    · exact ⟨1855, by rw [z]; rfl, lawop_mend hG hN hx hq8 hc hn h0 (fun xs hb => a39 xs h hb hI) K⟩
    · exact ⟨1888, by rw [z]; rfl, lawop_left hG hN hx hq8 hc hn h0 (fun xs hb => a40 xs h hb hI) K⟩
    · exact ⟨1921, by rw [z]; rfl, lawop_moves hG hN hx hq8 hc hn h0 (fun xs hb => a41 xs h hb hI) K⟩
    · exact ⟨1970, by rw [z]; rfl, lawop_jury hG hN hx hq8 hc hn h0 (fun xs hb => a42 xs h hb hI) K⟩
    · exact ⟨1993, by rw [z]; rfl, lawop_saver hG hN hx hq8 hc hn h0 (fun xs hb => a43 xs h hb hI) K⟩
    · exact ⟨2026, by rw [z]; rfl, lawop_overlap hG hN hx hq8 hc hn h0 (fun xs hb => a44 xs h hb hI) K⟩
    · exact ⟨2069, by rw [z]; rfl, lawop_best hG hN hx hq8 hc hn h0 (fun xs hb => a45 xs h hb hI) K⟩
    · exact ⟨2092, by rw [z]; rfl, lawop_bests hG hN hx hq8 hc hn h0 (fun xs hb => a46 xs h hb hI) K⟩
    · exact ⟨2115, by rw [z]; rfl, lawop_count hG hN hx hq8 hc hn h0 (fun xs hb => a47 xs h hb hI) K⟩
theorem zin_dm {G : zG} (hG : G.1 = zProg) (hT : G.2.1 = ztx) {d j : Nat} {as : List Value} {X : dH} {Y : zH} {w : Option Value} {h2 : dH} {Q : zQ} (hX : dmet zTt zG0 20000 d j as X = some (w, h2)) (e : Y = dzH X) (k : Q w (dzH h2)) : zW zTt G d j as Y Q := by
  subst e
  exact dmet_ok (G := zG0) (G2 := G) hG hT d j as X w h2 hX Q k
set_option maxHeartbeats 4000000 in
theorem law_first {G : zG} (hG : G.1 = zProg) (hT : G.2.1 = ztx) (k : zR zTt G cd_L 600000 7302250 (some .boolean) (zW zTt G 64) (fun w _ => w = some (.int 1)) 18 [some (.retAddr 0), some (.ref 0), some (.ref 111), some (.int 0)] [] (dzH dH0) 182 43931) : zR zTt G cd_L 600000 7302250 (some .boolean) (zW zTt G 64) (fun w _ => w = some (.int 1)) 0 (zentry [.retAddr 0] 4) [] [] 0 0 := by
  refine r_new (fs := zcls zTt 11) (zW_mono _ _ _) lq_0 rfl (Nat.le_of_ble_eq_true rfl) (Nat.le_of_ble_eq_true rfl) ?_
  refine r_dup (zW_mono _ _ _) lq_3 rfl ?_
  refine r_spec0 (m1 := 110) (m2 := 10850) (zW_mono _ _ _) lq_4 (Nat.le_of_ble_eq_true rfl) (by unfold zbud; rw [hG]; rfl) (Nat.le_of_ble_eq_true rfl) (Nat.le_of_ble_eq_true rfl) ?_
  refine dmet_ok (G := zG0) (G2 := G) hG hT 64 109 [.ref 0] [.inr (11, zcls zTt 11)] none (dH0.take 111) fr_x _ ?_
  refine r_astore (zW_mono _ _ _) lq_7 (Nat.le_of_ble_eq_true rfl) ?_
  refine r_new (fs := zcls zTt 12) (zW_mono _ _ _) lq_8 rfl (Nat.le_of_ble_eq_true rfl) (Nat.le_of_ble_eq_true rfl) ?_
  have hl : (dzH (dH0.take 111)).length = 111 := by rw [dzH_len]; rfl
  rw [hl]
  refine r_dup (zW_mono _ _ _) lq_11 rfl ?_
  refine r_spec0 (m1 := 70) (m2 := 32970) (zW_mono _ _ _) lq_12 (Nat.le_of_ble_eq_true rfl) (by unfold zbud; rw [hG]; rfl) (Nat.le_of_ble_eq_true rfl) (Nat.le_of_ble_eq_true rfl) ?_
  refine zin_dm hG hT fr_m (by rw [dzH_app]; rfl) ?_
  refine r_astore (zW_mono _ _ _) lq_15 (Nat.le_of_ble_eq_true rfl) ?_
  refine r_push (zW_mono _ _ _) lq_16 ?_
  refine r_istore (zW_mono _ _ _) lq_17 (Nat.le_of_ble_eq_true rfl) ?_
  exact k
