/-! ===== the law's cases ===== -/
theorem lg_same (x : Int64) : lg_cmp x x = 0 := by simp [lg_cmp]
section LAW
variable {p : Program} {l : Launch} {e : Env} {s : State} {m : MethodId} {below : List Frame} {meth : Method} {c : Code} {H : Heap} {locs : List Loc} {cells slots : Nat} {Q : State → Prop}
variable {ls : Array Slot} {G : gG} {A : Nat → Prop} {b L : Nat} {xs : Nat → Int32} {ad bd : Nat → Nat} {qb cap qo : Nat} {x y xm : SX} {o : Nat → Int64}
set_option maxHeartbeats 4000000 in
set_option maxRecDepth 100000 in
theorem c_dayNumber (C : LC p l s m c b L xs A) {i : Nat} (hi : i + 5 ≤ L) {n : Nat} {k0 : Nat} {rv c0 : Int32} (hf : f_X6_dayNumber n x (xs (i + 1)) (xs (i + 2)) (xs (i + 3)) = some (k0, rv)) (hc : (k0 = 0 ∧ c0 = 0) ∨ (k0 = 1 ∧ c0 = 1)) {n2 : Nat} {bv : Int32} {xm' : SX} (hm : f_X7_dayNumber n2 xm (xs (i + 1)) (xs (i + 2)) (xs (i + 3)) = some (bv, xm')) (hth : xm'.1 0 0 = c0) (hab : c0 = 0 → rv = bv) (hw : Wd G (wL G ad qb cap x y bd xm qo o) A s H locs) (hl : lv_has ls 7 [(0, .ref b), (1, .ref (ad 0)), (2, .ref (bd 0)), (3, .ref qo), (4, .int (nI i))]) (hcs : cells + 1 ≤ 601024) (hss : slots + 6 ≤ 7293034) (kk : ∀ (o' : Nat → Int64) (H1 : Heap) (locs1 : List Loc) (ls1 : Array Slot), Wd G (wL G ad qb cap x y bd xm' qo o') A s H1 locs1 → lv_has ls1 7 [(0, .ref b), (1, .ref (ad 0)), (2, .ref (bd 0)), (3, .ref qo), (4, .int (nI i))] → W p l e room_1 s m #[Value.ref b] below meth c H1 locs1 (cells + 1) (slots + 6) Q (F0 m 2739 ls1 [])) : W p l e room_1 s m #[Value.ref b] below meth c H locs cells slots Q (F0 m 248 ls []) := by
  have hx := C.1.1
  have hb := C.1.2.1
  have hL := C.2.2.2.2.1
  have ho : c0 = 0 → (if k0 = 0 then vp_updL o 0 rv.toInt64 else o) ((0 : Int32).toNatClampNeg) = bv.toInt64 := fun z => by
    have hk0 : k0 = 0 := by
      rcases hc with ⟨h1, h2⟩ | ⟨h1, h2⟩
      · exact h1
      · rw [h2] at z; exact absurd z (by decide)
    rw [if_pos hk0, hab z, sb_cl0]
    exact pk_uLs
  refine lv_aload_n hx hb dL_law_248 rfl (lv_at hl 1 rfl) ?_
  refine lv_aload_n hx hb dL_law_249 rfl (lv_at hl 0 rfl) ?_
  refine lv_iload hx hb dL_law_250 (lv_at hl 4 rfl) ?_
  refine lv_iconst (v := 1) hx hb dL_law_252 (by decide) ?_
  refine lv_iadd hx hb dL_law_253 ?_
  refine k_sc C hw (j := i + 1) (nI_add i 1) (by omega) dL_law_254 ?_
  refine lv_aload_n hx hb dL_law_255 rfl (lv_at hl 0 rfl) ?_
  refine lv_iload hx hb dL_law_256 (lv_at hl 4 rfl) ?_
  refine lv_iconst (v := 2) hx hb dL_law_258 (by decide) ?_
  refine lv_iadd hx hb dL_law_259 ?_
  refine k_sc C hw (j := i + 2) (nI_add i 2) (by omega) dL_law_260 ?_
  refine lv_aload_n hx hb dL_law_261 rfl (lv_at hl 0 rfl) ?_
  refine lv_iload hx hb dL_law_262 (lv_at hl 4 rfl) ?_
  refine lv_iconst (v := 3) hx hb dL_law_264 (by decide) ?_
  refine lv_iadd hx hb dL_law_265 ?_
  refine k_sc C hw (j := i + 3) (nI_add i 3) (by omega) dL_law_266 ?_
  refine lv_aload_n hx hb dL_law_267 rfl (lv_at hl 3 rfl) ?_
  refine k_lw (rest := []) (As := [.ref (ad 0), .int (xs (i + 1)), .int (xs (i + 2)), .int (xs (i + 3)), .ref qo]) C (t_L_dayNumber C.2.2.2.2.2.1 hf hc) cw_L_dayNumber ml_L_149 hw rfl hl.1 rfl (Nat.le_of_ble_eq_true rfl) ⟨(Nat.le_of_ble_eq_true rfl), (Nat.le_of_ble_eq_true rfl)⟩ ⟨hcs, hss⟩ dL_law_268 (fun H locs hw => ?_)
  refine lv_istore (lv' := [(5, .int c0), (0, .ref b), (1, .ref (ad 0)), (2, .ref (bd 0)), (3, .ref qo), (4, .int (nI i))]) hx hb dL_law_271 hl (Nat.le_of_ble_eq_true rfl) rfl (fun ls hl => ?_)
  refine lv_aload_n hx hb dL_law_273 rfl (lv_at hl 3 rfl) ?_
  refine lv_aload_n hx hb dL_law_274 rfl (lv_at hl 1 rfl) ?_
  refine lv_iload hx hb dL_law_275 (lv_at hl 5 rfl) ?_
  refine lv_iconst (v := 1) hx hb dL_law_277 (by decide) ?_
  refine lv_iadd hx hb dL_law_278 ?_
  refine k_sc C hw (j := i + 1) (nI_add i 1) (by omega) dL_law_279 ?_
  refine lv_aload_n hx hb dL_law_280 rfl (lv_at hl 1 rfl) ?_
  refine lv_iload hx hb dL_law_281 (lv_at hl 5 rfl) ?_
  refine lv_iconst (v := 2) hx hb dL_law_283 (by decide) ?_
  refine lv_iadd hx hb dL_law_284 ?_
  refine k_sc C hw (j := i + 2) (nI_add i 2) (by omega) dL_law_285 ?_
  refine lv_aload_n hx hb dL_law_286 rfl (lv_at hl 1 rfl) ?_
  refine lv_iload hx hb dL_law_287 (lv_at hl 5 rfl) ?_
  refine lv_iconst (v := 3) hx hb dL_law_289 (by decide) ?_
  refine lv_iadd hx hb dL_law_290 ?_
  refine k_sc C hw (j := i + 3) (nI_add i 3) (by omega) dL_law_291 ?_
  refine k_lm (rest := []) (As := [.int (xs (i + 1)), .int (xs (i + 2)), .int (xs (i + 3))]) C (t_X7_dayNumber hm) cv_X7_dayNumber ml_L_154 hw rfl rfl rfl hl.1 rfl (Nat.le_of_ble_eq_true rfl) ⟨(Nat.le_of_ble_eq_true rfl), (Nat.le_of_ble_eq_true rfl)⟩ ⟨hcs, hss⟩ dL_law_292 (fun H locs hw => ?_)
  refine lv_istore (lv' := [(6, .int bv), (5, .int c0), (0, .ref b), (1, .ref (ad 0)), (2, .ref (bd 0)), (3, .ref qo), (4, .int (nI i))]) hx hb dL_law_295 hl (Nat.le_of_ble_eq_true rfl) rfl (fun ls hl => ?_)
  refine lv_aload_n hx hb dL_law_297 rfl (lv_at hl 4 rfl) ?_
  refine k_lm (rest := []) (As := []) C (t_X7_thrown (n := 0) (rv := c0) (congrArg some hth)) cv_X7_thrown ml_L_155 hw rfl rfl rfl hl.1 rfl (Nat.le_of_ble_eq_true rfl) ⟨(Nat.le_of_ble_eq_true rfl), (Nat.le_of_ble_eq_true rfl)⟩ ⟨hcs, hss⟩ dL_law_298 (fun H locs hw => ?_)
  refine lv_iload hx hb dL_law_301 (lv_at hl 1 rfl) ?_
  refine lv_icmp_eq (tgt := 308) hx hb dL_law_303 rfl (fun c9 => ?_) (fun c9 => absurd rfl c9)
  refine lv_iload hx hb dL_law_308 (lv_at hl 1 rfl) ?_
  refine lv_if_ne (tgt := 325) hx hb dL_law_310 rfl (fun c8 => ?_) (fun c8 => ?_)
  · refine lv_goto (tgt := 2739) hx hb dL_law_325 rfl ?_
    exact kk _ H locs ls hw (lv_sub hl [2, 3, 4, 5, 6] rfl)
  · refine lv_aload_n hx hb dL_law_313 rfl (lv_at hl 5 rfl) ?_
    refine lv_iconst (v := 0) hx hb dL_law_314 (by decide) ?_
    refine k_lld C.1 hw 64 rfl (by decide) dL_law_315 ?_
    rw [ho c8]
    refine lv_iload hx hb dL_law_316 (lv_at hl 0 rfl) ?_
    refine lv_i2l hx hb dL_law_318 rfl ?_
    refine W.lcmp hx hb dL_law_319 ?_
    rw [lg_same]
    refine lv_if_eq (tgt := 325) hx hb dL_law_320 rfl (fun c7 => ?_) (fun c7 => absurd rfl c7)
    refine lv_goto (tgt := 2739) hx hb dL_law_325 rfl ?_
    exact kk _ H locs ls hw (lv_sub hl [2, 3, 4, 5, 6] rfl)
set_option maxHeartbeats 4000000 in
set_option maxRecDepth 100000 in
theorem c_dayNumberByMonths (C : LC p l s m c b L xs A) {i : Nat} (hi : i + 5 ≤ L) {n : Nat} {k0 : Nat} {rv c0 : Int32} (hf : f_X6_dayNumberByMonths n x (xs (i + 1)) (xs (i + 2)) (xs (i + 3)) = some (k0, rv)) (hc : (k0 = 0 ∧ c0 = 0) ∨ (k0 = 1 ∧ c0 = 1)) {n2 : Nat} {bv : Int32} {xm' : SX} (hm : f_X7_dayNumberByMonths n2 xm (xs (i + 1)) (xs (i + 2)) (xs (i + 3)) = some (bv, xm')) (hth : xm'.1 0 0 = c0) (hab : c0 = 0 → rv = bv) (hw : Wd G (wL G ad qb cap x y bd xm qo o) A s H locs) (hl : lv_has ls 7 [(0, .ref b), (1, .ref (ad 0)), (2, .ref (bd 0)), (3, .ref qo), (4, .int (nI i))]) (hcs : cells + 1 ≤ 601024) (hss : slots + 6 ≤ 7293034) (kk : ∀ (o' : Nat → Int64) (H1 : Heap) (locs1 : List Loc) (ls1 : Array Slot), Wd G (wL G ad qb cap x y bd xm' qo o') A s H1 locs1 → lv_has ls1 7 [(0, .ref b), (1, .ref (ad 0)), (2, .ref (bd 0)), (3, .ref qo), (4, .int (nI i))] → W p l e room_1 s m #[Value.ref b] below meth c H1 locs1 (cells + 1) (slots + 6) Q (F0 m 2739 ls1 [])) : W p l e room_1 s m #[Value.ref b] below meth c H locs cells slots Q (F0 m 328 ls []) := by
  have hx := C.1.1
  have hb := C.1.2.1
  have hL := C.2.2.2.2.1
  have ho : c0 = 0 → (if k0 = 0 then vp_updL o 0 rv.toInt64 else o) ((0 : Int32).toNatClampNeg) = bv.toInt64 := fun z => by
    have hk0 : k0 = 0 := by
      rcases hc with ⟨h1, h2⟩ | ⟨h1, h2⟩
      · exact h1
      · rw [h2] at z; exact absurd z (by decide)
    rw [if_pos hk0, hab z, sb_cl0]
    exact pk_uLs
  refine lv_aload_n hx hb dL_law_328 rfl (lv_at hl 1 rfl) ?_
  refine lv_aload_n hx hb dL_law_329 rfl (lv_at hl 0 rfl) ?_
  refine lv_iload hx hb dL_law_330 (lv_at hl 4 rfl) ?_
  refine lv_iconst (v := 1) hx hb dL_law_332 (by decide) ?_
  refine lv_iadd hx hb dL_law_333 ?_
  refine k_sc C hw (j := i + 1) (nI_add i 1) (by omega) dL_law_334 ?_
  refine lv_aload_n hx hb dL_law_335 rfl (lv_at hl 0 rfl) ?_
  refine lv_iload hx hb dL_law_336 (lv_at hl 4 rfl) ?_
  refine lv_iconst (v := 2) hx hb dL_law_338 (by decide) ?_
  refine lv_iadd hx hb dL_law_339 ?_
  refine k_sc C hw (j := i + 2) (nI_add i 2) (by omega) dL_law_340 ?_
  refine lv_aload_n hx hb dL_law_341 rfl (lv_at hl 0 rfl) ?_
  refine lv_iload hx hb dL_law_342 (lv_at hl 4 rfl) ?_
  refine lv_iconst (v := 3) hx hb dL_law_344 (by decide) ?_
  refine lv_iadd hx hb dL_law_345 ?_
  refine k_sc C hw (j := i + 3) (nI_add i 3) (by omega) dL_law_346 ?_
  refine lv_aload_n hx hb dL_law_347 rfl (lv_at hl 3 rfl) ?_
  refine k_lw (rest := []) (As := [.ref (ad 0), .int (xs (i + 1)), .int (xs (i + 2)), .int (xs (i + 3)), .ref qo]) C (t_L_dayNumberByMonths C.2.2.2.2.2.1 hf hc) cw_L_dayNumberByMonths ml_L_158 hw rfl hl.1 rfl (Nat.le_of_ble_eq_true rfl) ⟨(Nat.le_of_ble_eq_true rfl), (Nat.le_of_ble_eq_true rfl)⟩ ⟨hcs, hss⟩ dL_law_348 (fun H locs hw => ?_)
  refine lv_istore (lv' := [(5, .int c0), (0, .ref b), (1, .ref (ad 0)), (2, .ref (bd 0)), (3, .ref qo), (4, .int (nI i))]) hx hb dL_law_351 hl (Nat.le_of_ble_eq_true rfl) rfl (fun ls hl => ?_)
  refine lv_aload_n hx hb dL_law_353 rfl (lv_at hl 3 rfl) ?_
  refine lv_aload_n hx hb dL_law_354 rfl (lv_at hl 1 rfl) ?_
  refine lv_iload hx hb dL_law_355 (lv_at hl 5 rfl) ?_
  refine lv_iconst (v := 1) hx hb dL_law_357 (by decide) ?_
  refine lv_iadd hx hb dL_law_358 ?_
  refine k_sc C hw (j := i + 1) (nI_add i 1) (by omega) dL_law_359 ?_
  refine lv_aload_n hx hb dL_law_360 rfl (lv_at hl 1 rfl) ?_
  refine lv_iload hx hb dL_law_361 (lv_at hl 5 rfl) ?_
  refine lv_iconst (v := 2) hx hb dL_law_363 (by decide) ?_
  refine lv_iadd hx hb dL_law_364 ?_
  refine k_sc C hw (j := i + 2) (nI_add i 2) (by omega) dL_law_365 ?_
  refine lv_aload_n hx hb dL_law_366 rfl (lv_at hl 1 rfl) ?_
  refine lv_iload hx hb dL_law_367 (lv_at hl 5 rfl) ?_
  refine lv_iconst (v := 3) hx hb dL_law_369 (by decide) ?_
  refine lv_iadd hx hb dL_law_370 ?_
  refine k_sc C hw (j := i + 3) (nI_add i 3) (by omega) dL_law_371 ?_
  refine k_lm (rest := []) (As := [.int (xs (i + 1)), .int (xs (i + 2)), .int (xs (i + 3))]) C (t_X7_dayNumberByMonths hm) cv_X7_dayNumberByMonths ml_L_160 hw rfl rfl rfl hl.1 rfl (Nat.le_of_ble_eq_true rfl) ⟨(Nat.le_of_ble_eq_true rfl), (Nat.le_of_ble_eq_true rfl)⟩ ⟨hcs, hss⟩ dL_law_372 (fun H locs hw => ?_)
  refine lv_istore (lv' := [(6, .int bv), (5, .int c0), (0, .ref b), (1, .ref (ad 0)), (2, .ref (bd 0)), (3, .ref qo), (4, .int (nI i))]) hx hb dL_law_375 hl (Nat.le_of_ble_eq_true rfl) rfl (fun ls hl => ?_)
  refine lv_aload_n hx hb dL_law_377 rfl (lv_at hl 4 rfl) ?_
  refine k_lm (rest := []) (As := []) C (t_X7_thrown (n := 0) (rv := c0) (congrArg some hth)) cv_X7_thrown ml_L_155 hw rfl rfl rfl hl.1 rfl (Nat.le_of_ble_eq_true rfl) ⟨(Nat.le_of_ble_eq_true rfl), (Nat.le_of_ble_eq_true rfl)⟩ ⟨hcs, hss⟩ dL_law_378 (fun H locs hw => ?_)
  refine lv_iload hx hb dL_law_381 (lv_at hl 1 rfl) ?_
  refine lv_icmp_eq (tgt := 388) hx hb dL_law_383 rfl (fun c9 => ?_) (fun c9 => absurd rfl c9)
  refine lv_iload hx hb dL_law_388 (lv_at hl 1 rfl) ?_
  refine lv_if_ne (tgt := 405) hx hb dL_law_390 rfl (fun c8 => ?_) (fun c8 => ?_)
  · refine lv_goto (tgt := 2739) hx hb dL_law_405 rfl ?_
    exact kk _ H locs ls hw (lv_sub hl [2, 3, 4, 5, 6] rfl)
  · refine lv_aload_n hx hb dL_law_393 rfl (lv_at hl 5 rfl) ?_
    refine lv_iconst (v := 0) hx hb dL_law_394 (by decide) ?_
    refine k_lld C.1 hw 64 rfl (by decide) dL_law_395 ?_
    rw [ho c8]
    refine lv_iload hx hb dL_law_396 (lv_at hl 0 rfl) ?_
    refine lv_i2l hx hb dL_law_398 rfl ?_
    refine W.lcmp hx hb dL_law_399 ?_
    rw [lg_same]
    refine lv_if_eq (tgt := 405) hx hb dL_law_400 rfl (fun c7 => ?_) (fun c7 => absurd rfl c7)
    refine lv_goto (tgt := 2739) hx hb dL_law_405 rfl ?_
    exact kk _ H locs ls hw (lv_sub hl [2, 3, 4, 5, 6] rfl)
set_option maxHeartbeats 4000000 in
set_option maxRecDepth 100000 in
theorem c_yearOf (C : LC p l s m c b L xs A) {i : Nat} (hi : i + 5 ≤ L) {n : Nat} {k0 : Nat} {rv c0 : Int32} (hf : f_X6_yearOf n x (xs (i + 1)) = some (k0, rv)) (hc : (k0 = 0 ∧ c0 = 0) ∨ (k0 = 1 ∧ c0 = 1)) {n2 : Nat} {bv : Int32} {xm' : SX} (hm : f_X7_yearOf n2 xm (xs (i + 1)) = some (bv, xm')) (hth : xm'.1 0 0 = c0) (hab : c0 = 0 → rv = bv) (hw : Wd G (wL G ad qb cap x y bd xm qo o) A s H locs) (hl : lv_has ls 7 [(0, .ref b), (1, .ref (ad 0)), (2, .ref (bd 0)), (3, .ref qo), (4, .int (nI i))]) (hcs : cells + 1 ≤ 601024) (hss : slots + 6 ≤ 7293034) (kk : ∀ (o' : Nat → Int64) (H1 : Heap) (locs1 : List Loc) (ls1 : Array Slot), Wd G (wL G ad qb cap x y bd xm' qo o') A s H1 locs1 → lv_has ls1 7 [(0, .ref b), (1, .ref (ad 0)), (2, .ref (bd 0)), (3, .ref qo), (4, .int (nI i))] → W p l e room_1 s m #[Value.ref b] below meth c H1 locs1 (cells + 1) (slots + 6) Q (F0 m 2739 ls1 [])) : W p l e room_1 s m #[Value.ref b] below meth c H locs cells slots Q (F0 m 408 ls []) := by
  have hx := C.1.1
  have hb := C.1.2.1
  have hL := C.2.2.2.2.1
  have ho : c0 = 0 → (if k0 = 0 then vp_updL o 0 rv.toInt64 else o) ((0 : Int32).toNatClampNeg) = bv.toInt64 := fun z => by
    have hk0 : k0 = 0 := by
      rcases hc with ⟨h1, h2⟩ | ⟨h1, h2⟩
      · exact h1
      · rw [h2] at z; exact absurd z (by decide)
    rw [if_pos hk0, hab z, sb_cl0]
    exact pk_uLs
  refine lv_aload_n hx hb dL_law_408 rfl (lv_at hl 1 rfl) ?_
  refine lv_aload_n hx hb dL_law_409 rfl (lv_at hl 0 rfl) ?_
  refine lv_iload hx hb dL_law_410 (lv_at hl 4 rfl) ?_
  refine lv_iconst (v := 1) hx hb dL_law_412 (by decide) ?_
  refine lv_iadd hx hb dL_law_413 ?_
  refine k_sc C hw (j := i + 1) (nI_add i 1) (by omega) dL_law_414 ?_
  refine lv_aload_n hx hb dL_law_415 rfl (lv_at hl 3 rfl) ?_
  refine k_lw (rest := []) (As := [.ref (ad 0), .int (xs (i + 1)), .ref qo]) C (t_L_yearOf C.2.2.2.2.2.1 hf hc) cw_L_yearOf ml_L_161 hw rfl hl.1 rfl (Nat.le_of_ble_eq_true rfl) ⟨(Nat.le_of_ble_eq_true rfl), (Nat.le_of_ble_eq_true rfl)⟩ ⟨hcs, hss⟩ dL_law_416 (fun H locs hw => ?_)
  refine lv_istore (lv' := [(5, .int c0), (0, .ref b), (1, .ref (ad 0)), (2, .ref (bd 0)), (3, .ref qo), (4, .int (nI i))]) hx hb dL_law_419 hl (Nat.le_of_ble_eq_true rfl) rfl (fun ls hl => ?_)
  refine lv_aload_n hx hb dL_law_421 rfl (lv_at hl 3 rfl) ?_
  refine lv_aload_n hx hb dL_law_422 rfl (lv_at hl 1 rfl) ?_
  refine lv_iload hx hb dL_law_423 (lv_at hl 5 rfl) ?_
  refine lv_iconst (v := 1) hx hb dL_law_425 (by decide) ?_
  refine lv_iadd hx hb dL_law_426 ?_
  refine k_sc C hw (j := i + 1) (nI_add i 1) (by omega) dL_law_427 ?_
  refine k_lm (rest := []) (As := [.int (xs (i + 1))]) C (t_X7_yearOf hm) cv_X7_yearOf ml_L_164 hw rfl rfl rfl hl.1 rfl (Nat.le_of_ble_eq_true rfl) ⟨(Nat.le_of_ble_eq_true rfl), (Nat.le_of_ble_eq_true rfl)⟩ ⟨hcs, hss⟩ dL_law_428 (fun H locs hw => ?_)
  refine lv_istore (lv' := [(6, .int bv), (5, .int c0), (0, .ref b), (1, .ref (ad 0)), (2, .ref (bd 0)), (3, .ref qo), (4, .int (nI i))]) hx hb dL_law_431 hl (Nat.le_of_ble_eq_true rfl) rfl (fun ls hl => ?_)
  refine lv_aload_n hx hb dL_law_433 rfl (lv_at hl 4 rfl) ?_
  refine k_lm (rest := []) (As := []) C (t_X7_thrown (n := 0) (rv := c0) (congrArg some hth)) cv_X7_thrown ml_L_155 hw rfl rfl rfl hl.1 rfl (Nat.le_of_ble_eq_true rfl) ⟨(Nat.le_of_ble_eq_true rfl), (Nat.le_of_ble_eq_true rfl)⟩ ⟨hcs, hss⟩ dL_law_434 (fun H locs hw => ?_)
  refine lv_iload hx hb dL_law_437 (lv_at hl 1 rfl) ?_
  refine lv_icmp_eq (tgt := 444) hx hb dL_law_439 rfl (fun c9 => ?_) (fun c9 => absurd rfl c9)
  refine lv_iload hx hb dL_law_444 (lv_at hl 1 rfl) ?_
  refine lv_if_ne (tgt := 461) hx hb dL_law_446 rfl (fun c8 => ?_) (fun c8 => ?_)
  · refine lv_goto (tgt := 2739) hx hb dL_law_461 rfl ?_
    exact kk _ H locs ls hw (lv_sub hl [2, 3, 4, 5, 6] rfl)
  · refine lv_aload_n hx hb dL_law_449 rfl (lv_at hl 5 rfl) ?_
    refine lv_iconst (v := 0) hx hb dL_law_450 (by decide) ?_
    refine k_lld C.1 hw 64 rfl (by decide) dL_law_451 ?_
    rw [ho c8]
    refine lv_iload hx hb dL_law_452 (lv_at hl 0 rfl) ?_
    refine lv_i2l hx hb dL_law_454 rfl ?_
    refine W.lcmp hx hb dL_law_455 ?_
    rw [lg_same]
    refine lv_if_eq (tgt := 461) hx hb dL_law_456 rfl (fun c7 => ?_) (fun c7 => absurd rfl c7)
    refine lv_goto (tgt := 2739) hx hb dL_law_461 rfl ?_
    exact kk _ H locs ls hw (lv_sub hl [2, 3, 4, 5, 6] rfl)
set_option maxHeartbeats 4000000 in
set_option maxRecDepth 100000 in
theorem c_monthOf (C : LC p l s m c b L xs A) {i : Nat} (hi : i + 5 ≤ L) {n : Nat} {k0 : Nat} {rv c0 : Int32} (hf : f_X6_monthOf n x (xs (i + 1)) = some (k0, rv)) (hc : (k0 = 0 ∧ c0 = 0) ∨ (k0 = 1 ∧ c0 = 1)) {n2 : Nat} {bv : Int32} {xm' : SX} (hm : f_X7_monthOf n2 xm (xs (i + 1)) = some (bv, xm')) (hth : xm'.1 0 0 = c0) (hab : c0 = 0 → rv = bv) (hw : Wd G (wL G ad qb cap x y bd xm qo o) A s H locs) (hl : lv_has ls 7 [(0, .ref b), (1, .ref (ad 0)), (2, .ref (bd 0)), (3, .ref qo), (4, .int (nI i))]) (hcs : cells + 1 ≤ 601024) (hss : slots + 6 ≤ 7293034) (kk : ∀ (o' : Nat → Int64) (H1 : Heap) (locs1 : List Loc) (ls1 : Array Slot), Wd G (wL G ad qb cap x y bd xm' qo o') A s H1 locs1 → lv_has ls1 7 [(0, .ref b), (1, .ref (ad 0)), (2, .ref (bd 0)), (3, .ref qo), (4, .int (nI i))] → W p l e room_1 s m #[Value.ref b] below meth c H1 locs1 (cells + 1) (slots + 6) Q (F0 m 2739 ls1 [])) : W p l e room_1 s m #[Value.ref b] below meth c H locs cells slots Q (F0 m 464 ls []) := by
  have hx := C.1.1
  have hb := C.1.2.1
  have hL := C.2.2.2.2.1
  have ho : c0 = 0 → (if k0 = 0 then vp_updL o 0 rv.toInt64 else o) ((0 : Int32).toNatClampNeg) = bv.toInt64 := fun z => by
    have hk0 : k0 = 0 := by
      rcases hc with ⟨h1, h2⟩ | ⟨h1, h2⟩
      · exact h1
      · rw [h2] at z; exact absurd z (by decide)
    rw [if_pos hk0, hab z, sb_cl0]
    exact pk_uLs
  refine lv_aload_n hx hb dL_law_464 rfl (lv_at hl 1 rfl) ?_
  refine lv_aload_n hx hb dL_law_465 rfl (lv_at hl 0 rfl) ?_
  refine lv_iload hx hb dL_law_466 (lv_at hl 4 rfl) ?_
  refine lv_iconst (v := 1) hx hb dL_law_468 (by decide) ?_
  refine lv_iadd hx hb dL_law_469 ?_
  refine k_sc C hw (j := i + 1) (nI_add i 1) (by omega) dL_law_470 ?_
  refine lv_aload_n hx hb dL_law_471 rfl (lv_at hl 3 rfl) ?_
  refine k_lw (rest := []) (As := [.ref (ad 0), .int (xs (i + 1)), .ref qo]) C (t_L_monthOf C.2.2.2.2.2.1 hf hc) cw_L_monthOf ml_L_165 hw rfl hl.1 rfl (Nat.le_of_ble_eq_true rfl) ⟨(Nat.le_of_ble_eq_true rfl), (Nat.le_of_ble_eq_true rfl)⟩ ⟨hcs, hss⟩ dL_law_472 (fun H locs hw => ?_)
  refine lv_istore (lv' := [(5, .int c0), (0, .ref b), (1, .ref (ad 0)), (2, .ref (bd 0)), (3, .ref qo), (4, .int (nI i))]) hx hb dL_law_475 hl (Nat.le_of_ble_eq_true rfl) rfl (fun ls hl => ?_)
  refine lv_aload_n hx hb dL_law_477 rfl (lv_at hl 3 rfl) ?_
  refine lv_aload_n hx hb dL_law_478 rfl (lv_at hl 1 rfl) ?_
  refine lv_iload hx hb dL_law_479 (lv_at hl 5 rfl) ?_
  refine lv_iconst (v := 1) hx hb dL_law_481 (by decide) ?_
  refine lv_iadd hx hb dL_law_482 ?_
  refine k_sc C hw (j := i + 1) (nI_add i 1) (by omega) dL_law_483 ?_
  refine k_lm (rest := []) (As := [.int (xs (i + 1))]) C (t_X7_monthOf hm) cv_X7_monthOf ml_L_167 hw rfl rfl rfl hl.1 rfl (Nat.le_of_ble_eq_true rfl) ⟨(Nat.le_of_ble_eq_true rfl), (Nat.le_of_ble_eq_true rfl)⟩ ⟨hcs, hss⟩ dL_law_484 (fun H locs hw => ?_)
  refine lv_istore (lv' := [(6, .int bv), (5, .int c0), (0, .ref b), (1, .ref (ad 0)), (2, .ref (bd 0)), (3, .ref qo), (4, .int (nI i))]) hx hb dL_law_487 hl (Nat.le_of_ble_eq_true rfl) rfl (fun ls hl => ?_)
  refine lv_aload_n hx hb dL_law_489 rfl (lv_at hl 4 rfl) ?_
  refine k_lm (rest := []) (As := []) C (t_X7_thrown (n := 0) (rv := c0) (congrArg some hth)) cv_X7_thrown ml_L_155 hw rfl rfl rfl hl.1 rfl (Nat.le_of_ble_eq_true rfl) ⟨(Nat.le_of_ble_eq_true rfl), (Nat.le_of_ble_eq_true rfl)⟩ ⟨hcs, hss⟩ dL_law_490 (fun H locs hw => ?_)
  refine lv_iload hx hb dL_law_493 (lv_at hl 1 rfl) ?_
  refine lv_icmp_eq (tgt := 500) hx hb dL_law_495 rfl (fun c9 => ?_) (fun c9 => absurd rfl c9)
  refine lv_iload hx hb dL_law_500 (lv_at hl 1 rfl) ?_
  refine lv_if_ne (tgt := 517) hx hb dL_law_502 rfl (fun c8 => ?_) (fun c8 => ?_)
  · refine lv_goto (tgt := 2739) hx hb dL_law_517 rfl ?_
    exact kk _ H locs ls hw (lv_sub hl [2, 3, 4, 5, 6] rfl)
  · refine lv_aload_n hx hb dL_law_505 rfl (lv_at hl 5 rfl) ?_
    refine lv_iconst (v := 0) hx hb dL_law_506 (by decide) ?_
    refine k_lld C.1 hw 64 rfl (by decide) dL_law_507 ?_
    rw [ho c8]
    refine lv_iload hx hb dL_law_508 (lv_at hl 0 rfl) ?_
    refine lv_i2l hx hb dL_law_510 rfl ?_
    refine W.lcmp hx hb dL_law_511 ?_
    rw [lg_same]
    refine lv_if_eq (tgt := 517) hx hb dL_law_512 rfl (fun c7 => ?_) (fun c7 => absurd rfl c7)
    refine lv_goto (tgt := 2739) hx hb dL_law_517 rfl ?_
    exact kk _ H locs ls hw (lv_sub hl [2, 3, 4, 5, 6] rfl)
set_option maxHeartbeats 4000000 in
set_option maxRecDepth 100000 in
theorem c_dayOfMonth (C : LC p l s m c b L xs A) {i : Nat} (hi : i + 5 ≤ L) {n : Nat} {k0 : Nat} {rv c0 : Int32} (hf : f_X6_dayOfMonth n x (xs (i + 1)) = some (k0, rv)) (hc : (k0 = 0 ∧ c0 = 0) ∨ (k0 = 1 ∧ c0 = 1)) {n2 : Nat} {bv : Int32} {xm' : SX} (hm : f_X7_dayOfMonth n2 xm (xs (i + 1)) = some (bv, xm')) (hth : xm'.1 0 0 = c0) (hab : c0 = 0 → rv = bv) (hw : Wd G (wL G ad qb cap x y bd xm qo o) A s H locs) (hl : lv_has ls 7 [(0, .ref b), (1, .ref (ad 0)), (2, .ref (bd 0)), (3, .ref qo), (4, .int (nI i))]) (hcs : cells + 1 ≤ 601024) (hss : slots + 6 ≤ 7293034) (kk : ∀ (o' : Nat → Int64) (H1 : Heap) (locs1 : List Loc) (ls1 : Array Slot), Wd G (wL G ad qb cap x y bd xm' qo o') A s H1 locs1 → lv_has ls1 7 [(0, .ref b), (1, .ref (ad 0)), (2, .ref (bd 0)), (3, .ref qo), (4, .int (nI i))] → W p l e room_1 s m #[Value.ref b] below meth c H1 locs1 (cells + 1) (slots + 6) Q (F0 m 2739 ls1 [])) : W p l e room_1 s m #[Value.ref b] below meth c H locs cells slots Q (F0 m 520 ls []) := by
  have hx := C.1.1
  have hb := C.1.2.1
  have hL := C.2.2.2.2.1
  have ho : c0 = 0 → (if k0 = 0 then vp_updL o 0 rv.toInt64 else o) ((0 : Int32).toNatClampNeg) = bv.toInt64 := fun z => by
    have hk0 : k0 = 0 := by
      rcases hc with ⟨h1, h2⟩ | ⟨h1, h2⟩
      · exact h1
      · rw [h2] at z; exact absurd z (by decide)
    rw [if_pos hk0, hab z, sb_cl0]
    exact pk_uLs
  refine lv_aload_n hx hb dL_law_520 rfl (lv_at hl 1 rfl) ?_
  refine lv_aload_n hx hb dL_law_521 rfl (lv_at hl 0 rfl) ?_
  refine lv_iload hx hb dL_law_522 (lv_at hl 4 rfl) ?_
  refine lv_iconst (v := 1) hx hb dL_law_524 (by decide) ?_
  refine lv_iadd hx hb dL_law_525 ?_
  refine k_sc C hw (j := i + 1) (nI_add i 1) (by omega) dL_law_526 ?_
  refine lv_aload_n hx hb dL_law_527 rfl (lv_at hl 3 rfl) ?_
  refine k_lw (rest := []) (As := [.ref (ad 0), .int (xs (i + 1)), .ref qo]) C (t_L_dayOfMonth C.2.2.2.2.2.1 hf hc) cw_L_dayOfMonth ml_L_168 hw rfl hl.1 rfl (Nat.le_of_ble_eq_true rfl) ⟨(Nat.le_of_ble_eq_true rfl), (Nat.le_of_ble_eq_true rfl)⟩ ⟨hcs, hss⟩ dL_law_528 (fun H locs hw => ?_)
  refine lv_istore (lv' := [(5, .int c0), (0, .ref b), (1, .ref (ad 0)), (2, .ref (bd 0)), (3, .ref qo), (4, .int (nI i))]) hx hb dL_law_531 hl (Nat.le_of_ble_eq_true rfl) rfl (fun ls hl => ?_)
  refine lv_aload_n hx hb dL_law_533 rfl (lv_at hl 3 rfl) ?_
  refine lv_aload_n hx hb dL_law_534 rfl (lv_at hl 1 rfl) ?_
  refine lv_iload hx hb dL_law_535 (lv_at hl 5 rfl) ?_
  refine lv_iconst (v := 1) hx hb dL_law_537 (by decide) ?_
  refine lv_iadd hx hb dL_law_538 ?_
  refine k_sc C hw (j := i + 1) (nI_add i 1) (by omega) dL_law_539 ?_
  refine k_lm (rest := []) (As := [.int (xs (i + 1))]) C (t_X7_dayOfMonth hm) cv_X7_dayOfMonth ml_L_170 hw rfl rfl rfl hl.1 rfl (Nat.le_of_ble_eq_true rfl) ⟨(Nat.le_of_ble_eq_true rfl), (Nat.le_of_ble_eq_true rfl)⟩ ⟨hcs, hss⟩ dL_law_540 (fun H locs hw => ?_)
  refine lv_istore (lv' := [(6, .int bv), (5, .int c0), (0, .ref b), (1, .ref (ad 0)), (2, .ref (bd 0)), (3, .ref qo), (4, .int (nI i))]) hx hb dL_law_543 hl (Nat.le_of_ble_eq_true rfl) rfl (fun ls hl => ?_)
  refine lv_aload_n hx hb dL_law_545 rfl (lv_at hl 4 rfl) ?_
  refine k_lm (rest := []) (As := []) C (t_X7_thrown (n := 0) (rv := c0) (congrArg some hth)) cv_X7_thrown ml_L_155 hw rfl rfl rfl hl.1 rfl (Nat.le_of_ble_eq_true rfl) ⟨(Nat.le_of_ble_eq_true rfl), (Nat.le_of_ble_eq_true rfl)⟩ ⟨hcs, hss⟩ dL_law_546 (fun H locs hw => ?_)
  refine lv_iload hx hb dL_law_549 (lv_at hl 1 rfl) ?_
  refine lv_icmp_eq (tgt := 556) hx hb dL_law_551 rfl (fun c9 => ?_) (fun c9 => absurd rfl c9)
  refine lv_iload hx hb dL_law_556 (lv_at hl 1 rfl) ?_
  refine lv_if_ne (tgt := 573) hx hb dL_law_558 rfl (fun c8 => ?_) (fun c8 => ?_)
  · refine lv_goto (tgt := 2739) hx hb dL_law_573 rfl ?_
    exact kk _ H locs ls hw (lv_sub hl [2, 3, 4, 5, 6] rfl)
  · refine lv_aload_n hx hb dL_law_561 rfl (lv_at hl 5 rfl) ?_
    refine lv_iconst (v := 0) hx hb dL_law_562 (by decide) ?_
    refine k_lld C.1 hw 64 rfl (by decide) dL_law_563 ?_
    rw [ho c8]
    refine lv_iload hx hb dL_law_564 (lv_at hl 0 rfl) ?_
    refine lv_i2l hx hb dL_law_566 rfl ?_
    refine W.lcmp hx hb dL_law_567 ?_
    rw [lg_same]
    refine lv_if_eq (tgt := 573) hx hb dL_law_568 rfl (fun c7 => ?_) (fun c7 => absurd rfl c7)
    refine lv_goto (tgt := 2739) hx hb dL_law_573 rfl ?_
    exact kk _ H locs ls hw (lv_sub hl [2, 3, 4, 5, 6] rfl)
set_option maxHeartbeats 4000000 in
set_option maxRecDepth 100000 in
theorem c_monthsAfter (C : LC p l s m c b L xs A) {i : Nat} (hi : i + 5 ≤ L) {n : Nat} {k0 : Nat} {rv c0 : Int32} (hf : f_X6_monthsAfter n x (xs (i + 1)) (xs (i + 2)) = some (k0, rv)) (hc : (k0 = 0 ∧ c0 = 0) ∨ (k0 = 1 ∧ c0 = 1)) {n2 : Nat} {bv : Int32} {xm' : SX} (hm : f_X7_monthsAfter n2 xm (xs (i + 1)) (xs (i + 2)) = some (bv, xm')) (hth : xm'.1 0 0 = c0) (hab : c0 = 0 → rv = bv) (hw : Wd G (wL G ad qb cap x y bd xm qo o) A s H locs) (hl : lv_has ls 7 [(0, .ref b), (1, .ref (ad 0)), (2, .ref (bd 0)), (3, .ref qo), (4, .int (nI i))]) (hcs : cells + 2 ≤ 601024) (hss : slots + 12 ≤ 7293034) (kk : ∀ (o' : Nat → Int64) (H1 : Heap) (locs1 : List Loc) (ls1 : Array Slot), Wd G (wL G ad qb cap x y bd xm' qo o') A s H1 locs1 → lv_has ls1 7 [(0, .ref b), (1, .ref (ad 0)), (2, .ref (bd 0)), (3, .ref qo), (4, .int (nI i))] → W p l e room_1 s m #[Value.ref b] below meth c H1 locs1 (cells + 2) (slots + 12) Q (F0 m 2739 ls1 [])) : W p l e room_1 s m #[Value.ref b] below meth c H locs cells slots Q (F0 m 576 ls []) := by
  have hx := C.1.1
  have hb := C.1.2.1
  have hL := C.2.2.2.2.1
  have ho : c0 = 0 → (if k0 = 0 then vp_updL o 0 rv.toInt64 else o) ((0 : Int32).toNatClampNeg) = bv.toInt64 := fun z => by
    have hk0 : k0 = 0 := by
      rcases hc with ⟨h1, h2⟩ | ⟨h1, h2⟩
      · exact h1
      · rw [h2] at z; exact absurd z (by decide)
    rw [if_pos hk0, hab z, sb_cl0]
    exact pk_uLs
  refine lv_aload_n hx hb dL_law_576 rfl (lv_at hl 1 rfl) ?_
  refine lv_aload_n hx hb dL_law_577 rfl (lv_at hl 0 rfl) ?_
  refine lv_iload hx hb dL_law_578 (lv_at hl 4 rfl) ?_
  refine lv_iconst (v := 1) hx hb dL_law_580 (by decide) ?_
  refine lv_iadd hx hb dL_law_581 ?_
  refine k_sc C hw (j := i + 1) (nI_add i 1) (by omega) dL_law_582 ?_
  refine lv_aload_n hx hb dL_law_583 rfl (lv_at hl 0 rfl) ?_
  refine lv_iload hx hb dL_law_584 (lv_at hl 4 rfl) ?_
  refine lv_iconst (v := 2) hx hb dL_law_586 (by decide) ?_
  refine lv_iadd hx hb dL_law_587 ?_
  refine k_sc C hw (j := i + 2) (nI_add i 2) (by omega) dL_law_588 ?_
  refine lv_aload_n hx hb dL_law_589 rfl (lv_at hl 3 rfl) ?_
  refine k_lw (rest := []) (As := [.ref (ad 0), .int (xs (i + 1)), .int (xs (i + 2)), .ref qo]) C (t_L_monthsAfter C.2.2.2.2.2.1 hf hc) cw_L_monthsAfter ml_L_171 hw rfl hl.1 rfl (Nat.le_of_ble_eq_true rfl) ⟨(Nat.le_of_ble_eq_true rfl), (Nat.le_of_ble_eq_true rfl)⟩ ⟨hcs, hss⟩ dL_law_590 (fun H locs hw => ?_)
  refine lv_istore (lv' := [(5, .int c0), (0, .ref b), (1, .ref (ad 0)), (2, .ref (bd 0)), (3, .ref qo), (4, .int (nI i))]) hx hb dL_law_593 hl (Nat.le_of_ble_eq_true rfl) rfl (fun ls hl => ?_)
  refine lv_aload_n hx hb dL_law_595 rfl (lv_at hl 3 rfl) ?_
  refine lv_aload_n hx hb dL_law_596 rfl (lv_at hl 1 rfl) ?_
  refine lv_iload hx hb dL_law_597 (lv_at hl 5 rfl) ?_
  refine lv_iconst (v := 1) hx hb dL_law_599 (by decide) ?_
  refine lv_iadd hx hb dL_law_600 ?_
  refine k_sc C hw (j := i + 1) (nI_add i 1) (by omega) dL_law_601 ?_
  refine lv_aload_n hx hb dL_law_602 rfl (lv_at hl 1 rfl) ?_
  refine lv_iload hx hb dL_law_603 (lv_at hl 5 rfl) ?_
  refine lv_iconst (v := 2) hx hb dL_law_605 (by decide) ?_
  refine lv_iadd hx hb dL_law_606 ?_
  refine k_sc C hw (j := i + 2) (nI_add i 2) (by omega) dL_law_607 ?_
  refine k_lm (rest := []) (As := [.int (xs (i + 1)), .int (xs (i + 2))]) C (t_X7_monthsAfter hm) cv_X7_monthsAfter ml_L_174 hw rfl rfl rfl hl.1 rfl (Nat.le_of_ble_eq_true rfl) ⟨(Nat.le_of_ble_eq_true rfl), (Nat.le_of_ble_eq_true rfl)⟩ ⟨hcs, hss⟩ dL_law_608 (fun H locs hw => ?_)
  refine lv_istore (lv' := [(6, .int bv), (5, .int c0), (0, .ref b), (1, .ref (ad 0)), (2, .ref (bd 0)), (3, .ref qo), (4, .int (nI i))]) hx hb dL_law_611 hl (Nat.le_of_ble_eq_true rfl) rfl (fun ls hl => ?_)
  refine lv_aload_n hx hb dL_law_613 rfl (lv_at hl 4 rfl) ?_
  refine k_lm (rest := []) (As := []) C (t_X7_thrown (n := 0) (rv := c0) (congrArg some hth)) cv_X7_thrown ml_L_155 hw rfl rfl rfl hl.1 rfl (Nat.le_of_ble_eq_true rfl) ⟨(Nat.le_of_ble_eq_true rfl), (Nat.le_of_ble_eq_true rfl)⟩ ⟨hcs, hss⟩ dL_law_614 (fun H locs hw => ?_)
  refine lv_iload hx hb dL_law_617 (lv_at hl 1 rfl) ?_
  refine lv_icmp_eq (tgt := 624) hx hb dL_law_619 rfl (fun c9 => ?_) (fun c9 => absurd rfl c9)
  refine lv_iload hx hb dL_law_624 (lv_at hl 1 rfl) ?_
  refine lv_if_ne (tgt := 641) hx hb dL_law_626 rfl (fun c8 => ?_) (fun c8 => ?_)
  · refine lv_goto (tgt := 2739) hx hb dL_law_641 rfl ?_
    exact kk _ H locs ls hw (lv_sub hl [2, 3, 4, 5, 6] rfl)
  · refine lv_aload_n hx hb dL_law_629 rfl (lv_at hl 5 rfl) ?_
    refine lv_iconst (v := 0) hx hb dL_law_630 (by decide) ?_
    refine k_lld C.1 hw 64 rfl (by decide) dL_law_631 ?_
    rw [ho c8]
    refine lv_iload hx hb dL_law_632 (lv_at hl 0 rfl) ?_
    refine lv_i2l hx hb dL_law_634 rfl ?_
    refine W.lcmp hx hb dL_law_635 ?_
    rw [lg_same]
    refine lv_if_eq (tgt := 641) hx hb dL_law_636 rfl (fun c7 => ?_) (fun c7 => absurd rfl c7)
    refine lv_goto (tgt := 2739) hx hb dL_law_641 rfl ?_
    exact kk _ H locs ls hw (lv_sub hl [2, 3, 4, 5, 6] rfl)
set_option maxHeartbeats 4000000 in
set_option maxRecDepth 100000 in
theorem c_today (C : LC p l s m c b L xs A) {i : Nat} (hi : i + 5 ≤ L) {n : Nat} {rv : Int32} (hf : f_X6_today n x = some rv) {n2 : Nat} {bv : Int32} {xm' : SX} (hm : f_X7_today n2 xm = some (bv, xm')) (hab : rv = bv) (hw : Wd G (wL G ad qb cap x y bd xm qo o) A s H locs) (hl : lv_has ls 7 [(0, .ref b), (1, .ref (ad 0)), (2, .ref (bd 0)), (3, .ref qo), (4, .int (nI i))]) (hcs : cells + 1 ≤ 601024) (hss : slots + 6 ≤ 7293034) (kk : ∀ (H1 : Heap) (locs1 : List Loc) (ls1 : Array Slot), Wd G (wL G ad qb cap x y bd xm' qo o) A s H1 locs1 → lv_has ls1 7 [(0, .ref b), (1, .ref (ad 0)), (2, .ref (bd 0)), (3, .ref qo), (4, .int (nI i))] → W p l e room_1 s m #[Value.ref b] below meth c H1 locs1 (cells + 1) (slots + 6) Q (F0 m 2739 ls1 [])) : W p l e room_1 s m #[Value.ref b] below meth c H locs cells slots Q (F0 m 644 ls []) := by
  have hx := C.1.1
  have hb := C.1.2.1
  refine W.widen (k := cells + 1) (n := slots + 6) (by omega) (by omega) ?_
  refine lv_aload_n hx hb dL_law_644 rfl (lv_at hl 1 rfl) ?_
  refine k_lx (rest := []) (As := []) C (t_X6_today hf) cv_X6_today ml_L_175 hw rfl rfl rfl hl.1 rfl (Nat.le_of_ble_eq_true rfl) ⟨(Nat.le_of_ble_eq_true rfl), (Nat.le_of_ble_eq_true rfl)⟩ ⟨hcs, hss⟩ dL_law_645 (fun H locs hw => ?_)
  refine lv_aload_n hx hb dL_law_648 rfl (lv_at hl 2 rfl) ?_
  refine k_lm (rest := [.int rv]) (As := []) C (t_X7_today hm) cv_X7_today ml_L_178 hw rfl rfl rfl hl.1 rfl (Nat.le_of_ble_eq_true rfl) ⟨(Nat.le_of_ble_eq_true rfl), (Nat.le_of_ble_eq_true rfl)⟩ ⟨hcs, hss⟩ dL_law_649 (fun H locs hw => ?_)
  refine lv_icmp_eq (tgt := 2739) hx hb dL_law_652 rfl (fun c9 => ?_) (fun c9 => absurd hab c9)
  exact kk H locs ls hw (lv_sub hl [0, 1, 2, 3, 4] rfl)
set_option maxHeartbeats 4000000 in
set_option maxRecDepth 100000 in
theorem c_advance (C : LC p l s m c b L xs A) {i : Nat} (hi : i + 5 ≤ L) {n : Nat} {xr : SX} {k0 : Nat} {rv c0 : Int32} (hf : f_X6_advance n x (xs (i + 1)) = some (k0, rv, xr)) (hc : (k0 = 0 ∧ c0 = 0) ∨ (k0 = 1 ∧ c0 = 1) ∨ (k0 = 2 ∧ c0 = 2)) {n2 : Nat} {bv : Int32} {xm' : SX} (hm : f_X7_advance n2 xm (xs (i + 1)) = some (bv, xm')) (hth : xm'.1 0 0 = c0) (hab : c0 = 0 → rv = bv) (hw : Wd G (wL G ad qb cap x y bd xm qo o) A s H locs) (hl : lv_has ls 7 [(0, .ref b), (1, .ref (ad 0)), (2, .ref (bd 0)), (3, .ref qo), (4, .int (nI i))]) (hcs : cells + 1 ≤ 601024) (hss : slots + 6 ≤ 7293034) (kk : ∀ (o' : Nat → Int64) (H1 : Heap) (locs1 : List Loc) (ls1 : Array Slot), Wd G (wL G ad qb cap xr y bd xm' qo o') A s H1 locs1 → lv_has ls1 7 [(0, .ref b), (1, .ref (ad 0)), (2, .ref (bd 0)), (3, .ref qo), (4, .int (nI i))] → W p l e room_1 s m #[Value.ref b] below meth c H1 locs1 (cells + 1) (slots + 6) Q (F0 m 2739 ls1 [])) : W p l e room_1 s m #[Value.ref b] below meth c H locs cells slots Q (F0 m 657 ls []) := by
  have hx := C.1.1
  have hb := C.1.2.1
  have hL := C.2.2.2.2.1
  have ho : c0 = 0 → (if k0 = 0 then vp_updL o 0 rv.toInt64 else o) ((0 : Int32).toNatClampNeg) = bv.toInt64 := fun z => by
    have hk0 : k0 = 0 := by
      rcases hc with ⟨h1, h2⟩ | ⟨h1, h2⟩ | ⟨h1, h2⟩
      · exact h1
      · rw [h2] at z; exact absurd z (by decide)
      · rw [h2] at z; exact absurd z (by decide)
    rw [if_pos hk0, hab z, sb_cl0]
    exact pk_uLs
  refine lv_aload_n hx hb dL_law_657 rfl (lv_at hl 1 rfl) ?_
  refine lv_aload_n hx hb dL_law_658 rfl (lv_at hl 0 rfl) ?_
  refine lv_iload hx hb dL_law_659 (lv_at hl 4 rfl) ?_
  refine lv_iconst (v := 1) hx hb dL_law_661 (by decide) ?_
  refine lv_iadd hx hb dL_law_662 ?_
  refine k_sc C hw (j := i + 1) (nI_add i 1) (by omega) dL_law_663 ?_
  refine lv_aload_n hx hb dL_law_664 rfl (lv_at hl 3 rfl) ?_
  refine k_lw (rest := []) (As := [.ref (ad 0), .int (xs (i + 1)), .ref qo]) C (t_L_advance C.2.2.2.2.2.1 hf hc) cw_L_advance ml_L_179 hw rfl hl.1 rfl (Nat.le_of_ble_eq_true rfl) ⟨(Nat.le_of_ble_eq_true rfl), (Nat.le_of_ble_eq_true rfl)⟩ ⟨hcs, hss⟩ dL_law_665 (fun H locs hw => ?_)
  refine lv_istore (lv' := [(5, .int c0), (0, .ref b), (1, .ref (ad 0)), (2, .ref (bd 0)), (3, .ref qo), (4, .int (nI i))]) hx hb dL_law_668 hl (Nat.le_of_ble_eq_true rfl) rfl (fun ls hl => ?_)
  refine lv_aload_n hx hb dL_law_670 rfl (lv_at hl 3 rfl) ?_
  refine lv_aload_n hx hb dL_law_671 rfl (lv_at hl 1 rfl) ?_
  refine lv_iload hx hb dL_law_672 (lv_at hl 5 rfl) ?_
  refine lv_iconst (v := 1) hx hb dL_law_674 (by decide) ?_
  refine lv_iadd hx hb dL_law_675 ?_
  refine k_sc C hw (j := i + 1) (nI_add i 1) (by omega) dL_law_676 ?_
  refine k_lm (rest := []) (As := [.int (xs (i + 1))]) C (t_X7_advance hm) cv_X7_advance ml_L_181 hw rfl rfl rfl hl.1 rfl (Nat.le_of_ble_eq_true rfl) ⟨(Nat.le_of_ble_eq_true rfl), (Nat.le_of_ble_eq_true rfl)⟩ ⟨hcs, hss⟩ dL_law_677 (fun H locs hw => ?_)
  refine lv_istore (lv' := [(6, .int bv), (5, .int c0), (0, .ref b), (1, .ref (ad 0)), (2, .ref (bd 0)), (3, .ref qo), (4, .int (nI i))]) hx hb dL_law_680 hl (Nat.le_of_ble_eq_true rfl) rfl (fun ls hl => ?_)
  refine lv_aload_n hx hb dL_law_682 rfl (lv_at hl 4 rfl) ?_
  refine k_lm (rest := []) (As := []) C (t_X7_thrown (n := 0) (rv := c0) (congrArg some hth)) cv_X7_thrown ml_L_155 hw rfl rfl rfl hl.1 rfl (Nat.le_of_ble_eq_true rfl) ⟨(Nat.le_of_ble_eq_true rfl), (Nat.le_of_ble_eq_true rfl)⟩ ⟨hcs, hss⟩ dL_law_683 (fun H locs hw => ?_)
  refine lv_iload hx hb dL_law_686 (lv_at hl 1 rfl) ?_
  refine lv_icmp_eq (tgt := 693) hx hb dL_law_688 rfl (fun c9 => ?_) (fun c9 => absurd rfl c9)
  refine lv_iload hx hb dL_law_693 (lv_at hl 1 rfl) ?_
  refine lv_if_ne (tgt := 710) hx hb dL_law_695 rfl (fun c8 => ?_) (fun c8 => ?_)
  · refine lv_goto (tgt := 2739) hx hb dL_law_710 rfl ?_
    exact kk _ H locs ls hw (lv_sub hl [2, 3, 4, 5, 6] rfl)
  · refine lv_aload_n hx hb dL_law_698 rfl (lv_at hl 5 rfl) ?_
    refine lv_iconst (v := 0) hx hb dL_law_699 (by decide) ?_
    refine k_lld C.1 hw 64 rfl (by decide) dL_law_700 ?_
    rw [ho c8]
    refine lv_iload hx hb dL_law_701 (lv_at hl 0 rfl) ?_
    refine lv_i2l hx hb dL_law_703 rfl ?_
    refine W.lcmp hx hb dL_law_704 ?_
    rw [lg_same]
    refine lv_if_eq (tgt := 710) hx hb dL_law_705 rfl (fun c7 => ?_) (fun c7 => absurd rfl c7)
    refine lv_goto (tgt := 2739) hx hb dL_law_710 rfl ?_
    exact kk _ H locs ls hw (lv_sub hl [2, 3, 4, 5, 6] rfl)
set_option maxHeartbeats 4000000 in
set_option maxRecDepth 100000 in
theorem c_impose (C : LC p l s m c b L xs A) {i : Nat} (hi : i + 5 ≤ L) {n : Nat} {xr : SX} {k0 : Nat} {rv c0 : Int32} (hf : f_X6_impose n x (xs (i + 1)) (xs (i + 2)) (xs (i + 3)) = some (k0, rv, xr)) (hc : (k0 = 0 ∧ c0 = 0) ∨ (k0 = 1 ∧ c0 = 1) ∨ (k0 = 2 ∧ c0 = 2)) {n2 : Nat} {bv : Int32} {xm' : SX} (hm : f_X7_impose n2 xm (xs (i + 1)) (xs (i + 2)) (xs (i + 3)) = some (bv, xm')) (hth : xm'.1 0 0 = c0) (hab : c0 = 0 → rv = bv) (hw : Wd G (wL G ad qb cap x y bd xm qo o) A s H locs) (hl : lv_has ls 7 [(0, .ref b), (1, .ref (ad 0)), (2, .ref (bd 0)), (3, .ref qo), (4, .int (nI i))]) (hcs : cells + 2 ≤ 601024) (hss : slots + 12 ≤ 7293034) (kk : ∀ (o' : Nat → Int64) (H1 : Heap) (locs1 : List Loc) (ls1 : Array Slot), Wd G (wL G ad qb cap xr y bd xm' qo o') A s H1 locs1 → lv_has ls1 7 [(0, .ref b), (1, .ref (ad 0)), (2, .ref (bd 0)), (3, .ref qo), (4, .int (nI i))] → W p l e room_1 s m #[Value.ref b] below meth c H1 locs1 (cells + 2) (slots + 12) Q (F0 m 2739 ls1 [])) : W p l e room_1 s m #[Value.ref b] below meth c H locs cells slots Q (F0 m 713 ls []) := by
  have hx := C.1.1
  have hb := C.1.2.1
  have hL := C.2.2.2.2.1
  have ho : c0 = 0 → (if k0 = 0 then vp_updL o 0 rv.toInt64 else o) ((0 : Int32).toNatClampNeg) = bv.toInt64 := fun z => by
    have hk0 : k0 = 0 := by
      rcases hc with ⟨h1, h2⟩ | ⟨h1, h2⟩ | ⟨h1, h2⟩
      · exact h1
      · rw [h2] at z; exact absurd z (by decide)
      · rw [h2] at z; exact absurd z (by decide)
    rw [if_pos hk0, hab z, sb_cl0]
    exact pk_uLs
  refine lv_aload_n hx hb dL_law_713 rfl (lv_at hl 1 rfl) ?_
  refine lv_aload_n hx hb dL_law_714 rfl (lv_at hl 0 rfl) ?_
  refine lv_iload hx hb dL_law_715 (lv_at hl 4 rfl) ?_
  refine lv_iconst (v := 1) hx hb dL_law_717 (by decide) ?_
  refine lv_iadd hx hb dL_law_718 ?_
  refine k_sc C hw (j := i + 1) (nI_add i 1) (by omega) dL_law_719 ?_
  refine lv_aload_n hx hb dL_law_720 rfl (lv_at hl 0 rfl) ?_
  refine lv_iload hx hb dL_law_721 (lv_at hl 4 rfl) ?_
  refine lv_iconst (v := 2) hx hb dL_law_723 (by decide) ?_
  refine lv_iadd hx hb dL_law_724 ?_
  refine k_sc C hw (j := i + 2) (nI_add i 2) (by omega) dL_law_725 ?_
  refine lv_aload_n hx hb dL_law_726 rfl (lv_at hl 0 rfl) ?_
  refine lv_iload hx hb dL_law_727 (lv_at hl 4 rfl) ?_
  refine lv_iconst (v := 3) hx hb dL_law_729 (by decide) ?_
  refine lv_iadd hx hb dL_law_730 ?_
  refine k_sc C hw (j := i + 3) (nI_add i 3) (by omega) dL_law_731 ?_
  refine lv_aload_n hx hb dL_law_732 rfl (lv_at hl 3 rfl) ?_
  refine k_lw (rest := []) (As := [.ref (ad 0), .int (xs (i + 1)), .int (xs (i + 2)), .int (xs (i + 3)), .ref qo]) C (t_L_impose C.2.2.2.2.2.1 hf hc) cw_L_impose ml_L_182 hw rfl hl.1 rfl (Nat.le_of_ble_eq_true rfl) ⟨(Nat.le_of_ble_eq_true rfl), (Nat.le_of_ble_eq_true rfl)⟩ ⟨hcs, hss⟩ dL_law_733 (fun H locs hw => ?_)
  refine lv_istore (lv' := [(5, .int c0), (0, .ref b), (1, .ref (ad 0)), (2, .ref (bd 0)), (3, .ref qo), (4, .int (nI i))]) hx hb dL_law_736 hl (Nat.le_of_ble_eq_true rfl) rfl (fun ls hl => ?_)
  refine lv_aload_n hx hb dL_law_738 rfl (lv_at hl 3 rfl) ?_
  refine lv_aload_n hx hb dL_law_739 rfl (lv_at hl 1 rfl) ?_
  refine lv_iload hx hb dL_law_740 (lv_at hl 5 rfl) ?_
  refine lv_iconst (v := 1) hx hb dL_law_742 (by decide) ?_
  refine lv_iadd hx hb dL_law_743 ?_
  refine k_sc C hw (j := i + 1) (nI_add i 1) (by omega) dL_law_744 ?_
  refine lv_aload_n hx hb dL_law_745 rfl (lv_at hl 1 rfl) ?_
  refine lv_iload hx hb dL_law_746 (lv_at hl 5 rfl) ?_
  refine lv_iconst (v := 2) hx hb dL_law_748 (by decide) ?_
  refine lv_iadd hx hb dL_law_749 ?_
  refine k_sc C hw (j := i + 2) (nI_add i 2) (by omega) dL_law_750 ?_
  refine lv_aload_n hx hb dL_law_751 rfl (lv_at hl 1 rfl) ?_
  refine lv_iload hx hb dL_law_752 (lv_at hl 5 rfl) ?_
  refine lv_iconst (v := 3) hx hb dL_law_754 (by decide) ?_
  refine lv_iadd hx hb dL_law_755 ?_
  refine k_sc C hw (j := i + 3) (nI_add i 3) (by omega) dL_law_756 ?_
  refine k_lm (rest := []) (As := [.int (xs (i + 1)), .int (xs (i + 2)), .int (xs (i + 3))]) C (t_X7_impose hm) cv_X7_impose ml_L_184 hw rfl rfl rfl hl.1 rfl (Nat.le_of_ble_eq_true rfl) ⟨(Nat.le_of_ble_eq_true rfl), (Nat.le_of_ble_eq_true rfl)⟩ ⟨hcs, hss⟩ dL_law_757 (fun H locs hw => ?_)
  refine lv_istore (lv' := [(6, .int bv), (5, .int c0), (0, .ref b), (1, .ref (ad 0)), (2, .ref (bd 0)), (3, .ref qo), (4, .int (nI i))]) hx hb dL_law_760 hl (Nat.le_of_ble_eq_true rfl) rfl (fun ls hl => ?_)
  refine lv_aload_n hx hb dL_law_762 rfl (lv_at hl 4 rfl) ?_
  refine k_lm (rest := []) (As := []) C (t_X7_thrown (n := 0) (rv := c0) (congrArg some hth)) cv_X7_thrown ml_L_155 hw rfl rfl rfl hl.1 rfl (Nat.le_of_ble_eq_true rfl) ⟨(Nat.le_of_ble_eq_true rfl), (Nat.le_of_ble_eq_true rfl)⟩ ⟨hcs, hss⟩ dL_law_763 (fun H locs hw => ?_)
  refine lv_iload hx hb dL_law_766 (lv_at hl 1 rfl) ?_
  refine lv_icmp_eq (tgt := 773) hx hb dL_law_768 rfl (fun c9 => ?_) (fun c9 => absurd rfl c9)
  refine lv_iload hx hb dL_law_773 (lv_at hl 1 rfl) ?_
  refine lv_if_ne (tgt := 790) hx hb dL_law_775 rfl (fun c8 => ?_) (fun c8 => ?_)
  · refine lv_goto (tgt := 2739) hx hb dL_law_790 rfl ?_
    exact kk _ H locs ls hw (lv_sub hl [2, 3, 4, 5, 6] rfl)
  · refine lv_aload_n hx hb dL_law_778 rfl (lv_at hl 5 rfl) ?_
    refine lv_iconst (v := 0) hx hb dL_law_779 (by decide) ?_
    refine k_lld C.1 hw 64 rfl (by decide) dL_law_780 ?_
    rw [ho c8]
    refine lv_iload hx hb dL_law_781 (lv_at hl 0 rfl) ?_
    refine lv_i2l hx hb dL_law_783 rfl ?_
    refine W.lcmp hx hb dL_law_784 ?_
    rw [lg_same]
    refine lv_if_eq (tgt := 790) hx hb dL_law_785 rfl (fun c7 => ?_) (fun c7 => absurd rfl c7)
    refine lv_goto (tgt := 2739) hx hb dL_law_790 rfl ?_
    exact kk _ H locs ls hw (lv_sub hl [2, 3, 4, 5, 6] rfl)
set_option maxHeartbeats 4000000 in
set_option maxRecDepth 100000 in
theorem c_imposeConsecutive (C : LC p l s m c b L xs A) {i : Nat} (hi : i + 5 ≤ L) {n : Nat} {xr : SX} {k0 : Nat} {rv c0 : Int32} (hf : f_X6_imposeConsecutive n x (xs (i + 1)) (xs (i + 2)) (xs (i + 3)) (xs (i + 4)) = some (k0, rv, xr)) (hc : (k0 = 0 ∧ c0 = 0) ∨ (k0 = 3 ∧ c0 = 1) ∨ (k0 = 1 ∧ c0 = 2) ∨ (k0 = 2 ∧ c0 = 3)) {n2 : Nat} {bv : Int32} {xm' : SX} (hm : f_X7_imposeConsecutive n2 xm (xs (i + 1)) (xs (i + 2)) (xs (i + 3)) (xs (i + 4)) = some (bv, xm')) (hth : xm'.1 0 0 = c0) (hab : c0 = 0 → rv = bv) (hw : Wd G (wL G ad qb cap x y bd xm qo o) A s H locs) (hl : lv_has ls 7 [(0, .ref b), (1, .ref (ad 0)), (2, .ref (bd 0)), (3, .ref qo), (4, .int (nI i))]) (hcs : cells + 4 ≤ 601024) (hss : slots + 24 ≤ 7293034) (kk : ∀ (o' : Nat → Int64) (H1 : Heap) (locs1 : List Loc) (ls1 : Array Slot), Wd G (wL G ad qb cap xr y bd xm' qo o') A s H1 locs1 → lv_has ls1 7 [(0, .ref b), (1, .ref (ad 0)), (2, .ref (bd 0)), (3, .ref qo), (4, .int (nI i))] → W p l e room_1 s m #[Value.ref b] below meth c H1 locs1 (cells + 4) (slots + 24) Q (F0 m 2739 ls1 [])) : W p l e room_1 s m #[Value.ref b] below meth c H locs cells slots Q (F0 m 793 ls []) := by
  have hx := C.1.1
  have hb := C.1.2.1
  have hL := C.2.2.2.2.1
  have ho : c0 = 0 → (if k0 = 0 then vp_updL o 0 rv.toInt64 else o) ((0 : Int32).toNatClampNeg) = bv.toInt64 := fun z => by
    have hk0 : k0 = 0 := by
      rcases hc with ⟨h1, h2⟩ | ⟨h1, h2⟩ | ⟨h1, h2⟩ | ⟨h1, h2⟩
      · exact h1
      · rw [h2] at z; exact absurd z (by decide)
      · rw [h2] at z; exact absurd z (by decide)
      · rw [h2] at z; exact absurd z (by decide)
    rw [if_pos hk0, hab z, sb_cl0]
    exact pk_uLs
  refine lv_aload_n hx hb dL_law_793 rfl (lv_at hl 1 rfl) ?_
  refine lv_aload_n hx hb dL_law_794 rfl (lv_at hl 0 rfl) ?_
  refine lv_iload hx hb dL_law_795 (lv_at hl 4 rfl) ?_
  refine lv_iconst (v := 1) hx hb dL_law_797 (by decide) ?_
  refine lv_iadd hx hb dL_law_798 ?_
  refine k_sc C hw (j := i + 1) (nI_add i 1) (by omega) dL_law_799 ?_
  refine lv_aload_n hx hb dL_law_800 rfl (lv_at hl 0 rfl) ?_
  refine lv_iload hx hb dL_law_801 (lv_at hl 4 rfl) ?_
  refine lv_iconst (v := 2) hx hb dL_law_803 (by decide) ?_
  refine lv_iadd hx hb dL_law_804 ?_
  refine k_sc C hw (j := i + 2) (nI_add i 2) (by omega) dL_law_805 ?_
  refine lv_aload_n hx hb dL_law_806 rfl (lv_at hl 0 rfl) ?_
  refine lv_iload hx hb dL_law_807 (lv_at hl 4 rfl) ?_
  refine lv_iconst (v := 3) hx hb dL_law_809 (by decide) ?_
  refine lv_iadd hx hb dL_law_810 ?_
  refine k_sc C hw (j := i + 3) (nI_add i 3) (by omega) dL_law_811 ?_
  refine lv_aload_n hx hb dL_law_812 rfl (lv_at hl 0 rfl) ?_
  refine lv_iload hx hb dL_law_813 (lv_at hl 4 rfl) ?_
  refine lv_iconst (v := 4) hx hb dL_law_815 (by decide) ?_
  refine lv_iadd hx hb dL_law_816 ?_
  refine k_sc C hw (j := i + 4) (nI_add i 4) (by omega) dL_law_817 ?_
  refine lv_aload_n hx hb dL_law_818 rfl (lv_at hl 3 rfl) ?_
  refine k_lw (rest := []) (As := [.ref (ad 0), .int (xs (i + 1)), .int (xs (i + 2)), .int (xs (i + 3)), .int (xs (i + 4)), .ref qo]) C (t_L_imposeConsecutive C.2.2.2.2.2.1 hf hc) cw_L_imposeConsecutive ml_L_185 hw rfl hl.1 rfl (Nat.le_of_ble_eq_true rfl) ⟨(Nat.le_of_ble_eq_true rfl), (Nat.le_of_ble_eq_true rfl)⟩ ⟨hcs, hss⟩ dL_law_819 (fun H locs hw => ?_)
  refine lv_istore (lv' := [(5, .int c0), (0, .ref b), (1, .ref (ad 0)), (2, .ref (bd 0)), (3, .ref qo), (4, .int (nI i))]) hx hb dL_law_822 hl (Nat.le_of_ble_eq_true rfl) rfl (fun ls hl => ?_)
  refine lv_aload_n hx hb dL_law_824 rfl (lv_at hl 3 rfl) ?_
  refine lv_aload_n hx hb dL_law_825 rfl (lv_at hl 1 rfl) ?_
  refine lv_iload hx hb dL_law_826 (lv_at hl 5 rfl) ?_
  refine lv_iconst (v := 1) hx hb dL_law_828 (by decide) ?_
  refine lv_iadd hx hb dL_law_829 ?_
  refine k_sc C hw (j := i + 1) (nI_add i 1) (by omega) dL_law_830 ?_
  refine lv_aload_n hx hb dL_law_831 rfl (lv_at hl 1 rfl) ?_
  refine lv_iload hx hb dL_law_832 (lv_at hl 5 rfl) ?_
  refine lv_iconst (v := 2) hx hb dL_law_834 (by decide) ?_
  refine lv_iadd hx hb dL_law_835 ?_
  refine k_sc C hw (j := i + 2) (nI_add i 2) (by omega) dL_law_836 ?_
  refine lv_aload_n hx hb dL_law_837 rfl (lv_at hl 1 rfl) ?_
  refine lv_iload hx hb dL_law_838 (lv_at hl 5 rfl) ?_
  refine lv_iconst (v := 3) hx hb dL_law_840 (by decide) ?_
  refine lv_iadd hx hb dL_law_841 ?_
  refine k_sc C hw (j := i + 3) (nI_add i 3) (by omega) dL_law_842 ?_
  refine lv_aload_n hx hb dL_law_843 rfl (lv_at hl 1 rfl) ?_
  refine lv_iload hx hb dL_law_844 (lv_at hl 5 rfl) ?_
  refine lv_iconst (v := 4) hx hb dL_law_846 (by decide) ?_
  refine lv_iadd hx hb dL_law_847 ?_
  refine k_sc C hw (j := i + 4) (nI_add i 4) (by omega) dL_law_848 ?_
  refine k_lm (rest := []) (As := [.int (xs (i + 1)), .int (xs (i + 2)), .int (xs (i + 3)), .int (xs (i + 4))]) C (t_X7_imposeConsecutive hm) cv_X7_imposeConsecutive ml_L_188 hw rfl rfl rfl hl.1 rfl (Nat.le_of_ble_eq_true rfl) ⟨(Nat.le_of_ble_eq_true rfl), (Nat.le_of_ble_eq_true rfl)⟩ ⟨hcs, hss⟩ dL_law_849 (fun H locs hw => ?_)
  refine lv_istore (lv' := [(6, .int bv), (5, .int c0), (0, .ref b), (1, .ref (ad 0)), (2, .ref (bd 0)), (3, .ref qo), (4, .int (nI i))]) hx hb dL_law_852 hl (Nat.le_of_ble_eq_true rfl) rfl (fun ls hl => ?_)
  refine lv_aload_n hx hb dL_law_854 rfl (lv_at hl 4 rfl) ?_
  refine k_lm (rest := []) (As := []) C (t_X7_thrown (n := 0) (rv := c0) (congrArg some hth)) cv_X7_thrown ml_L_155 hw rfl rfl rfl hl.1 rfl (Nat.le_of_ble_eq_true rfl) ⟨(Nat.le_of_ble_eq_true rfl), (Nat.le_of_ble_eq_true rfl)⟩ ⟨hcs, hss⟩ dL_law_855 (fun H locs hw => ?_)
  refine lv_iload hx hb dL_law_858 (lv_at hl 1 rfl) ?_
  refine lv_icmp_eq (tgt := 865) hx hb dL_law_860 rfl (fun c9 => ?_) (fun c9 => absurd rfl c9)
  refine lv_iload hx hb dL_law_865 (lv_at hl 1 rfl) ?_
  refine lv_if_ne (tgt := 882) hx hb dL_law_867 rfl (fun c8 => ?_) (fun c8 => ?_)
  · refine lv_goto (tgt := 2739) hx hb dL_law_882 rfl ?_
    exact kk _ H locs ls hw (lv_sub hl [2, 3, 4, 5, 6] rfl)
  · refine lv_aload_n hx hb dL_law_870 rfl (lv_at hl 5 rfl) ?_
    refine lv_iconst (v := 0) hx hb dL_law_871 (by decide) ?_
    refine k_lld C.1 hw 64 rfl (by decide) dL_law_872 ?_
    rw [ho c8]
    refine lv_iload hx hb dL_law_873 (lv_at hl 0 rfl) ?_
    refine lv_i2l hx hb dL_law_875 rfl ?_
    refine W.lcmp hx hb dL_law_876 ?_
    rw [lg_same]
    refine lv_if_eq (tgt := 882) hx hb dL_law_877 rfl (fun c7 => ?_) (fun c7 => absurd rfl c7)
    refine lv_goto (tgt := 2739) hx hb dL_law_882 rfl ?_
    exact kk _ H locs ls hw (lv_sub hl [2, 3, 4, 5, 6] rfl)
set_option maxHeartbeats 4000000 in
set_option maxRecDepth 100000 in
theorem c_addRemand (C : LC p l s m c b L xs A) {i : Nat} (hi : i + 5 ≤ L) {n : Nat} {xr : SX} {k0 : Nat} {rv c0 : Int32} (hf : f_X6_addRemand n x (xs (i + 1)) (xs (i + 2)) (xs (i + 3)) = some (k0, rv, xr)) (hc : (k0 = 0 ∧ c0 = 0) ∨ (k0 = 3 ∧ c0 = 1) ∨ (k0 = 1 ∧ c0 = 2) ∨ (k0 = 2 ∧ c0 = 3)) {n2 : Nat} {bv : Int32} {xm' : SX} (hm : f_X7_addRemand n2 xm (xs (i + 1)) (xs (i + 2)) (xs (i + 3)) = some (bv, xm')) (hth : xm'.1 0 0 = c0) (hab : c0 = 0 → rv = bv) (hw : Wd G (wL G ad qb cap x y bd xm qo o) A s H locs) (hl : lv_has ls 7 [(0, .ref b), (1, .ref (ad 0)), (2, .ref (bd 0)), (3, .ref qo), (4, .int (nI i))]) (hcs : cells + 2 ≤ 601024) (hss : slots + 12 ≤ 7293034) (kk : ∀ (o' : Nat → Int64) (H1 : Heap) (locs1 : List Loc) (ls1 : Array Slot), Wd G (wL G ad qb cap xr y bd xm' qo o') A s H1 locs1 → lv_has ls1 7 [(0, .ref b), (1, .ref (ad 0)), (2, .ref (bd 0)), (3, .ref qo), (4, .int (nI i))] → W p l e room_1 s m #[Value.ref b] below meth c H1 locs1 (cells + 2) (slots + 12) Q (F0 m 2739 ls1 [])) : W p l e room_1 s m #[Value.ref b] below meth c H locs cells slots Q (F0 m 885 ls []) := by
  have hx := C.1.1
  have hb := C.1.2.1
  have hL := C.2.2.2.2.1
  have ho : c0 = 0 → (if k0 = 0 then vp_updL o 0 rv.toInt64 else o) ((0 : Int32).toNatClampNeg) = bv.toInt64 := fun z => by
    have hk0 : k0 = 0 := by
      rcases hc with ⟨h1, h2⟩ | ⟨h1, h2⟩ | ⟨h1, h2⟩ | ⟨h1, h2⟩
      · exact h1
      · rw [h2] at z; exact absurd z (by decide)
      · rw [h2] at z; exact absurd z (by decide)
      · rw [h2] at z; exact absurd z (by decide)
    rw [if_pos hk0, hab z, sb_cl0]
    exact pk_uLs
  refine lv_aload_n hx hb dL_law_885 rfl (lv_at hl 1 rfl) ?_
  refine lv_aload_n hx hb dL_law_886 rfl (lv_at hl 0 rfl) ?_
  refine lv_iload hx hb dL_law_887 (lv_at hl 4 rfl) ?_
  refine lv_iconst (v := 1) hx hb dL_law_889 (by decide) ?_
  refine lv_iadd hx hb dL_law_890 ?_
  refine k_sc C hw (j := i + 1) (nI_add i 1) (by omega) dL_law_891 ?_
  refine lv_aload_n hx hb dL_law_892 rfl (lv_at hl 0 rfl) ?_
  refine lv_iload hx hb dL_law_893 (lv_at hl 4 rfl) ?_
  refine lv_iconst (v := 2) hx hb dL_law_895 (by decide) ?_
  refine lv_iadd hx hb dL_law_896 ?_
  refine k_sc C hw (j := i + 2) (nI_add i 2) (by omega) dL_law_897 ?_
  refine lv_aload_n hx hb dL_law_898 rfl (lv_at hl 0 rfl) ?_
  refine lv_iload hx hb dL_law_899 (lv_at hl 4 rfl) ?_
  refine lv_iconst (v := 3) hx hb dL_law_901 (by decide) ?_
  refine lv_iadd hx hb dL_law_902 ?_
  refine k_sc C hw (j := i + 3) (nI_add i 3) (by omega) dL_law_903 ?_
  refine lv_aload_n hx hb dL_law_904 rfl (lv_at hl 3 rfl) ?_
  refine k_lw (rest := []) (As := [.ref (ad 0), .int (xs (i + 1)), .int (xs (i + 2)), .int (xs (i + 3)), .ref qo]) C (t_L_addRemand C.2.2.2.2.2.1 hf hc) cw_L_addRemand ml_L_189 hw rfl hl.1 rfl (Nat.le_of_ble_eq_true rfl) ⟨(Nat.le_of_ble_eq_true rfl), (Nat.le_of_ble_eq_true rfl)⟩ ⟨hcs, hss⟩ dL_law_905 (fun H locs hw => ?_)
  refine lv_istore (lv' := [(5, .int c0), (0, .ref b), (1, .ref (ad 0)), (2, .ref (bd 0)), (3, .ref qo), (4, .int (nI i))]) hx hb dL_law_908 hl (Nat.le_of_ble_eq_true rfl) rfl (fun ls hl => ?_)
  refine lv_aload_n hx hb dL_law_910 rfl (lv_at hl 3 rfl) ?_
  refine lv_aload_n hx hb dL_law_911 rfl (lv_at hl 1 rfl) ?_
  refine lv_iload hx hb dL_law_912 (lv_at hl 5 rfl) ?_
  refine lv_iconst (v := 1) hx hb dL_law_914 (by decide) ?_
  refine lv_iadd hx hb dL_law_915 ?_
  refine k_sc C hw (j := i + 1) (nI_add i 1) (by omega) dL_law_916 ?_
  refine lv_aload_n hx hb dL_law_917 rfl (lv_at hl 1 rfl) ?_
  refine lv_iload hx hb dL_law_918 (lv_at hl 5 rfl) ?_
  refine lv_iconst (v := 2) hx hb dL_law_920 (by decide) ?_
  refine lv_iadd hx hb dL_law_921 ?_
  refine k_sc C hw (j := i + 2) (nI_add i 2) (by omega) dL_law_922 ?_
  refine lv_aload_n hx hb dL_law_923 rfl (lv_at hl 1 rfl) ?_
  refine lv_iload hx hb dL_law_924 (lv_at hl 5 rfl) ?_
  refine lv_iconst (v := 3) hx hb dL_law_926 (by decide) ?_
  refine lv_iadd hx hb dL_law_927 ?_
  refine k_sc C hw (j := i + 3) (nI_add i 3) (by omega) dL_law_928 ?_
  refine k_lm (rest := []) (As := [.int (xs (i + 1)), .int (xs (i + 2)), .int (xs (i + 3))]) C (t_X7_addRemand hm) cv_X7_addRemand ml_L_191 hw rfl rfl rfl hl.1 rfl (Nat.le_of_ble_eq_true rfl) ⟨(Nat.le_of_ble_eq_true rfl), (Nat.le_of_ble_eq_true rfl)⟩ ⟨hcs, hss⟩ dL_law_929 (fun H locs hw => ?_)
  refine lv_istore (lv' := [(6, .int bv), (5, .int c0), (0, .ref b), (1, .ref (ad 0)), (2, .ref (bd 0)), (3, .ref qo), (4, .int (nI i))]) hx hb dL_law_932 hl (Nat.le_of_ble_eq_true rfl) rfl (fun ls hl => ?_)
  refine lv_aload_n hx hb dL_law_934 rfl (lv_at hl 4 rfl) ?_
  refine k_lm (rest := []) (As := []) C (t_X7_thrown (n := 0) (rv := c0) (congrArg some hth)) cv_X7_thrown ml_L_155 hw rfl rfl rfl hl.1 rfl (Nat.le_of_ble_eq_true rfl) ⟨(Nat.le_of_ble_eq_true rfl), (Nat.le_of_ble_eq_true rfl)⟩ ⟨hcs, hss⟩ dL_law_935 (fun H locs hw => ?_)
  refine lv_iload hx hb dL_law_938 (lv_at hl 1 rfl) ?_
  refine lv_icmp_eq (tgt := 945) hx hb dL_law_940 rfl (fun c9 => ?_) (fun c9 => absurd rfl c9)
  refine lv_iload hx hb dL_law_945 (lv_at hl 1 rfl) ?_
  refine lv_if_ne (tgt := 962) hx hb dL_law_947 rfl (fun c8 => ?_) (fun c8 => ?_)
  · refine lv_goto (tgt := 2739) hx hb dL_law_962 rfl ?_
    exact kk _ H locs ls hw (lv_sub hl [2, 3, 4, 5, 6] rfl)
  · refine lv_aload_n hx hb dL_law_950 rfl (lv_at hl 5 rfl) ?_
    refine lv_iconst (v := 0) hx hb dL_law_951 (by decide) ?_
    refine k_lld C.1 hw 64 rfl (by decide) dL_law_952 ?_
    rw [ho c8]
    refine lv_iload hx hb dL_law_953 (lv_at hl 0 rfl) ?_
    refine lv_i2l hx hb dL_law_955 rfl ?_
    refine W.lcmp hx hb dL_law_956 ?_
    rw [lg_same]
    refine lv_if_eq (tgt := 962) hx hb dL_law_957 rfl (fun c7 => ?_) (fun c7 => absurd rfl c7)
    refine lv_goto (tgt := 2739) hx hb dL_law_962 rfl ?_
    exact kk _ H locs ls hw (lv_sub hl [2, 3, 4, 5, 6] rfl)
set_option maxHeartbeats 4000000 in
set_option maxRecDepth 100000 in
theorem c_quash (C : LC p l s m c b L xs A) {i : Nat} (hi : i + 5 ≤ L) {n : Nat} {xr : SX} {k0 : Nat} {rv c0 : Int32} (hf : f_X6_quash n x (xs (i + 1)) = some (k0, rv, xr)) (hc : (k0 = 0 ∧ c0 = 0) ∨ (k0 = 3 ∧ c0 = 1) ∨ (k0 = 2 ∧ c0 = 2)) {n2 : Nat} {bv : Int32} {xm' : SX} (hm : f_X7_quash n2 xm (xs (i + 1)) = some (bv, xm')) (hth : xm'.1 0 0 = c0) (hab : c0 = 0 → rv = bv) (hw : Wd G (wL G ad qb cap x y bd xm qo o) A s H locs) (hl : lv_has ls 7 [(0, .ref b), (1, .ref (ad 0)), (2, .ref (bd 0)), (3, .ref qo), (4, .int (nI i))]) (hcs : cells + 2 ≤ 601024) (hss : slots + 12 ≤ 7293034) (kk : ∀ (o' : Nat → Int64) (H1 : Heap) (locs1 : List Loc) (ls1 : Array Slot), Wd G (wL G ad qb cap xr y bd xm' qo o') A s H1 locs1 → lv_has ls1 7 [(0, .ref b), (1, .ref (ad 0)), (2, .ref (bd 0)), (3, .ref qo), (4, .int (nI i))] → W p l e room_1 s m #[Value.ref b] below meth c H1 locs1 (cells + 2) (slots + 12) Q (F0 m 2739 ls1 [])) : W p l e room_1 s m #[Value.ref b] below meth c H locs cells slots Q (F0 m 965 ls []) := by
  have hx := C.1.1
  have hb := C.1.2.1
  have hL := C.2.2.2.2.1
  have ho : c0 = 0 → (if k0 = 0 then vp_updL o 0 rv.toInt64 else o) ((0 : Int32).toNatClampNeg) = bv.toInt64 := fun z => by
    have hk0 : k0 = 0 := by
      rcases hc with ⟨h1, h2⟩ | ⟨h1, h2⟩ | ⟨h1, h2⟩
      · exact h1
      · rw [h2] at z; exact absurd z (by decide)
      · rw [h2] at z; exact absurd z (by decide)
    rw [if_pos hk0, hab z, sb_cl0]
    exact pk_uLs
  refine lv_aload_n hx hb dL_law_965 rfl (lv_at hl 1 rfl) ?_
  refine lv_aload_n hx hb dL_law_966 rfl (lv_at hl 0 rfl) ?_
  refine lv_iload hx hb dL_law_967 (lv_at hl 4 rfl) ?_
  refine lv_iconst (v := 1) hx hb dL_law_969 (by decide) ?_
  refine lv_iadd hx hb dL_law_970 ?_
  refine k_sc C hw (j := i + 1) (nI_add i 1) (by omega) dL_law_971 ?_
  refine lv_aload_n hx hb dL_law_972 rfl (lv_at hl 3 rfl) ?_
  refine k_lw (rest := []) (As := [.ref (ad 0), .int (xs (i + 1)), .ref qo]) C (t_L_quash C.2.2.2.2.2.1 hf hc) cw_L_quash ml_L_192 hw rfl hl.1 rfl (Nat.le_of_ble_eq_true rfl) ⟨(Nat.le_of_ble_eq_true rfl), (Nat.le_of_ble_eq_true rfl)⟩ ⟨hcs, hss⟩ dL_law_973 (fun H locs hw => ?_)
  refine lv_istore (lv' := [(5, .int c0), (0, .ref b), (1, .ref (ad 0)), (2, .ref (bd 0)), (3, .ref qo), (4, .int (nI i))]) hx hb dL_law_976 hl (Nat.le_of_ble_eq_true rfl) rfl (fun ls hl => ?_)
  refine lv_aload_n hx hb dL_law_978 rfl (lv_at hl 3 rfl) ?_
  refine lv_aload_n hx hb dL_law_979 rfl (lv_at hl 1 rfl) ?_
  refine lv_iload hx hb dL_law_980 (lv_at hl 5 rfl) ?_
  refine lv_iconst (v := 1) hx hb dL_law_982 (by decide) ?_
  refine lv_iadd hx hb dL_law_983 ?_
  refine k_sc C hw (j := i + 1) (nI_add i 1) (by omega) dL_law_984 ?_
  refine k_lm (rest := []) (As := [.int (xs (i + 1))]) C (t_X7_quash hm) cv_X7_quash ml_L_194 hw rfl rfl rfl hl.1 rfl (Nat.le_of_ble_eq_true rfl) ⟨(Nat.le_of_ble_eq_true rfl), (Nat.le_of_ble_eq_true rfl)⟩ ⟨hcs, hss⟩ dL_law_985 (fun H locs hw => ?_)
  refine lv_istore (lv' := [(6, .int bv), (5, .int c0), (0, .ref b), (1, .ref (ad 0)), (2, .ref (bd 0)), (3, .ref qo), (4, .int (nI i))]) hx hb dL_law_988 hl (Nat.le_of_ble_eq_true rfl) rfl (fun ls hl => ?_)
  refine lv_aload_n hx hb dL_law_990 rfl (lv_at hl 4 rfl) ?_
  refine k_lm (rest := []) (As := []) C (t_X7_thrown (n := 0) (rv := c0) (congrArg some hth)) cv_X7_thrown ml_L_155 hw rfl rfl rfl hl.1 rfl (Nat.le_of_ble_eq_true rfl) ⟨(Nat.le_of_ble_eq_true rfl), (Nat.le_of_ble_eq_true rfl)⟩ ⟨hcs, hss⟩ dL_law_991 (fun H locs hw => ?_)
  refine lv_iload hx hb dL_law_994 (lv_at hl 1 rfl) ?_
  refine lv_icmp_eq (tgt := 1001) hx hb dL_law_996 rfl (fun c9 => ?_) (fun c9 => absurd rfl c9)
  refine lv_iload hx hb dL_law_1001 (lv_at hl 1 rfl) ?_
  refine lv_if_ne (tgt := 1018) hx hb dL_law_1003 rfl (fun c8 => ?_) (fun c8 => ?_)
  · refine lv_goto (tgt := 2739) hx hb dL_law_1018 rfl ?_
    exact kk _ H locs ls hw (lv_sub hl [2, 3, 4, 5, 6] rfl)
  · refine lv_aload_n hx hb dL_law_1006 rfl (lv_at hl 5 rfl) ?_
    refine lv_iconst (v := 0) hx hb dL_law_1007 (by decide) ?_
    refine k_lld C.1 hw 64 rfl (by decide) dL_law_1008 ?_
    rw [ho c8]
    refine lv_iload hx hb dL_law_1009 (lv_at hl 0 rfl) ?_
    refine lv_i2l hx hb dL_law_1011 rfl ?_
    refine W.lcmp hx hb dL_law_1012 ?_
    rw [lg_same]
    refine lv_if_eq (tgt := 1018) hx hb dL_law_1013 rfl (fun c7 => ?_) (fun c7 => absurd rfl c7)
    refine lv_goto (tgt := 2739) hx hb dL_law_1018 rfl ?_
    exact kk _ H locs ls hw (lv_sub hl [2, 3, 4, 5, 6] rfl)
set_option maxHeartbeats 4000000 in
set_option maxRecDepth 100000 in
theorem c_award (C : LC p l s m c b L xs A) {i : Nat} (hi : i + 5 ≤ L) {n : Nat} {xr : SX} {k0 : Nat} {rv c0 : Int32} (hf : f_X6_award n x (xs (i + 1)) = some (k0, rv, xr)) (hc : (k0 = 0 ∧ c0 = 0) ∨ (k0 = 1 ∧ c0 = 1) ∨ (k0 = 2 ∧ c0 = 2)) {n2 : Nat} {bv : Int32} {xm' : SX} (hm : f_X7_award n2 xm (xs (i + 1)) = some (bv, xm')) (hth : xm'.1 0 0 = c0) (hab : c0 = 0 → rv = bv) (hw : Wd G (wL G ad qb cap x y bd xm qo o) A s H locs) (hl : lv_has ls 7 [(0, .ref b), (1, .ref (ad 0)), (2, .ref (bd 0)), (3, .ref qo), (4, .int (nI i))]) (hcs : cells + 2 ≤ 601024) (hss : slots + 12 ≤ 7293034) (kk : ∀ (o' : Nat → Int64) (H1 : Heap) (locs1 : List Loc) (ls1 : Array Slot), Wd G (wL G ad qb cap xr y bd xm' qo o') A s H1 locs1 → lv_has ls1 7 [(0, .ref b), (1, .ref (ad 0)), (2, .ref (bd 0)), (3, .ref qo), (4, .int (nI i))] → W p l e room_1 s m #[Value.ref b] below meth c H1 locs1 (cells + 2) (slots + 12) Q (F0 m 2739 ls1 [])) : W p l e room_1 s m #[Value.ref b] below meth c H locs cells slots Q (F0 m 1021 ls []) := by
  have hx := C.1.1
  have hb := C.1.2.1
  have hL := C.2.2.2.2.1
  have ho : c0 = 0 → (if k0 = 0 then vp_updL o 0 rv.toInt64 else o) ((0 : Int32).toNatClampNeg) = bv.toInt64 := fun z => by
    have hk0 : k0 = 0 := by
      rcases hc with ⟨h1, h2⟩ | ⟨h1, h2⟩ | ⟨h1, h2⟩
      · exact h1
      · rw [h2] at z; exact absurd z (by decide)
      · rw [h2] at z; exact absurd z (by decide)
    rw [if_pos hk0, hab z, sb_cl0]
    exact pk_uLs
  refine lv_aload_n hx hb dL_law_1021 rfl (lv_at hl 1 rfl) ?_
  refine lv_aload_n hx hb dL_law_1022 rfl (lv_at hl 0 rfl) ?_
  refine lv_iload hx hb dL_law_1023 (lv_at hl 4 rfl) ?_
  refine lv_iconst (v := 1) hx hb dL_law_1025 (by decide) ?_
  refine lv_iadd hx hb dL_law_1026 ?_
  refine k_sc C hw (j := i + 1) (nI_add i 1) (by omega) dL_law_1027 ?_
  refine lv_aload_n hx hb dL_law_1028 rfl (lv_at hl 3 rfl) ?_
  refine k_lw (rest := []) (As := [.ref (ad 0), .int (xs (i + 1)), .ref qo]) C (t_L_award C.2.2.2.2.2.1 hf hc) cw_L_award ml_L_195 hw rfl hl.1 rfl (Nat.le_of_ble_eq_true rfl) ⟨(Nat.le_of_ble_eq_true rfl), (Nat.le_of_ble_eq_true rfl)⟩ ⟨hcs, hss⟩ dL_law_1029 (fun H locs hw => ?_)
  refine lv_istore (lv' := [(5, .int c0), (0, .ref b), (1, .ref (ad 0)), (2, .ref (bd 0)), (3, .ref qo), (4, .int (nI i))]) hx hb dL_law_1032 hl (Nat.le_of_ble_eq_true rfl) rfl (fun ls hl => ?_)
  refine lv_aload_n hx hb dL_law_1034 rfl (lv_at hl 3 rfl) ?_
  refine lv_aload_n hx hb dL_law_1035 rfl (lv_at hl 1 rfl) ?_
  refine lv_iload hx hb dL_law_1036 (lv_at hl 5 rfl) ?_
  refine lv_iconst (v := 1) hx hb dL_law_1038 (by decide) ?_
  refine lv_iadd hx hb dL_law_1039 ?_
  refine k_sc C hw (j := i + 1) (nI_add i 1) (by omega) dL_law_1040 ?_
  refine k_lm (rest := []) (As := [.int (xs (i + 1))]) C (t_X7_award hm) cv_X7_award ml_L_197 hw rfl rfl rfl hl.1 rfl (Nat.le_of_ble_eq_true rfl) ⟨(Nat.le_of_ble_eq_true rfl), (Nat.le_of_ble_eq_true rfl)⟩ ⟨hcs, hss⟩ dL_law_1041 (fun H locs hw => ?_)
  refine lv_istore (lv' := [(6, .int bv), (5, .int c0), (0, .ref b), (1, .ref (ad 0)), (2, .ref (bd 0)), (3, .ref qo), (4, .int (nI i))]) hx hb dL_law_1044 hl (Nat.le_of_ble_eq_true rfl) rfl (fun ls hl => ?_)
  refine lv_aload_n hx hb dL_law_1046 rfl (lv_at hl 4 rfl) ?_
  refine k_lm (rest := []) (As := []) C (t_X7_thrown (n := 0) (rv := c0) (congrArg some hth)) cv_X7_thrown ml_L_155 hw rfl rfl rfl hl.1 rfl (Nat.le_of_ble_eq_true rfl) ⟨(Nat.le_of_ble_eq_true rfl), (Nat.le_of_ble_eq_true rfl)⟩ ⟨hcs, hss⟩ dL_law_1047 (fun H locs hw => ?_)
  refine lv_iload hx hb dL_law_1050 (lv_at hl 1 rfl) ?_
  refine lv_icmp_eq (tgt := 1057) hx hb dL_law_1052 rfl (fun c9 => ?_) (fun c9 => absurd rfl c9)
  refine lv_iload hx hb dL_law_1057 (lv_at hl 1 rfl) ?_
  refine lv_if_ne (tgt := 1074) hx hb dL_law_1059 rfl (fun c8 => ?_) (fun c8 => ?_)
  · refine lv_goto (tgt := 2739) hx hb dL_law_1074 rfl ?_
    exact kk _ H locs ls hw (lv_sub hl [2, 3, 4, 5, 6] rfl)
  · refine lv_aload_n hx hb dL_law_1062 rfl (lv_at hl 5 rfl) ?_
    refine lv_iconst (v := 0) hx hb dL_law_1063 (by decide) ?_
    refine k_lld C.1 hw 64 rfl (by decide) dL_law_1064 ?_
    rw [ho c8]
    refine lv_iload hx hb dL_law_1065 (lv_at hl 0 rfl) ?_
    refine lv_i2l hx hb dL_law_1067 rfl ?_
    refine W.lcmp hx hb dL_law_1068 ?_
    rw [lg_same]
    refine lv_if_eq (tgt := 1074) hx hb dL_law_1069 rfl (fun c7 => ?_) (fun c7 => absurd rfl c7)
    refine lv_goto (tgt := 2739) hx hb dL_law_1074 rfl ?_
    exact kk _ H locs ls hw (lv_sub hl [2, 3, 4, 5, 6] rfl)
set_option maxHeartbeats 4000000 in
set_option maxRecDepth 100000 in
theorem c_giveBack (C : LC p l s m c b L xs A) {i : Nat} (hi : i + 5 ≤ L) {n : Nat} {xr : SX} {k0 : Nat} {rv c0 : Int32} (hf : f_X6_giveBack n x (xs (i + 1)) (xs (i + 2)) = some (k0, rv, xr)) (hc : (k0 = 0 ∧ c0 = 0) ∨ (k0 = 3 ∧ c0 = 1) ∨ (k0 = 1 ∧ c0 = 2)) {n2 : Nat} {bv : Int32} {xm' : SX} (hm : f_X7_giveBack n2 xm (xs (i + 1)) (xs (i + 2)) = some (bv, xm')) (hth : xm'.1 0 0 = c0) (hab : c0 = 0 → rv = bv) (hw : Wd G (wL G ad qb cap x y bd xm qo o) A s H locs) (hl : lv_has ls 7 [(0, .ref b), (1, .ref (ad 0)), (2, .ref (bd 0)), (3, .ref qo), (4, .int (nI i))]) (hcs : cells + 2 ≤ 601024) (hss : slots + 12 ≤ 7293034) (kk : ∀ (o' : Nat → Int64) (H1 : Heap) (locs1 : List Loc) (ls1 : Array Slot), Wd G (wL G ad qb cap xr y bd xm' qo o') A s H1 locs1 → lv_has ls1 7 [(0, .ref b), (1, .ref (ad 0)), (2, .ref (bd 0)), (3, .ref qo), (4, .int (nI i))] → W p l e room_1 s m #[Value.ref b] below meth c H1 locs1 (cells + 2) (slots + 12) Q (F0 m 2739 ls1 [])) : W p l e room_1 s m #[Value.ref b] below meth c H locs cells slots Q (F0 m 1077 ls []) := by
  have hx := C.1.1
  have hb := C.1.2.1
  have hL := C.2.2.2.2.1
  have ho : c0 = 0 → (if k0 = 0 then vp_updL o 0 rv.toInt64 else o) ((0 : Int32).toNatClampNeg) = bv.toInt64 := fun z => by
    have hk0 : k0 = 0 := by
      rcases hc with ⟨h1, h2⟩ | ⟨h1, h2⟩ | ⟨h1, h2⟩
      · exact h1
      · rw [h2] at z; exact absurd z (by decide)
      · rw [h2] at z; exact absurd z (by decide)
    rw [if_pos hk0, hab z, sb_cl0]
    exact pk_uLs
  refine lv_aload_n hx hb dL_law_1077 rfl (lv_at hl 1 rfl) ?_
  refine lv_aload_n hx hb dL_law_1078 rfl (lv_at hl 0 rfl) ?_
  refine lv_iload hx hb dL_law_1079 (lv_at hl 4 rfl) ?_
  refine lv_iconst (v := 1) hx hb dL_law_1081 (by decide) ?_
  refine lv_iadd hx hb dL_law_1082 ?_
  refine k_sc C hw (j := i + 1) (nI_add i 1) (by omega) dL_law_1083 ?_
  refine lv_aload_n hx hb dL_law_1084 rfl (lv_at hl 0 rfl) ?_
  refine lv_iload hx hb dL_law_1085 (lv_at hl 4 rfl) ?_
  refine lv_iconst (v := 2) hx hb dL_law_1087 (by decide) ?_
  refine lv_iadd hx hb dL_law_1088 ?_
  refine k_sc C hw (j := i + 2) (nI_add i 2) (by omega) dL_law_1089 ?_
  refine lv_aload_n hx hb dL_law_1090 rfl (lv_at hl 3 rfl) ?_
  refine k_lw (rest := []) (As := [.ref (ad 0), .int (xs (i + 1)), .int (xs (i + 2)), .ref qo]) C (t_L_giveBack C.2.2.2.2.2.1 hf hc) cw_L_giveBack ml_L_198 hw rfl hl.1 rfl (Nat.le_of_ble_eq_true rfl) ⟨(Nat.le_of_ble_eq_true rfl), (Nat.le_of_ble_eq_true rfl)⟩ ⟨hcs, hss⟩ dL_law_1091 (fun H locs hw => ?_)
  refine lv_istore (lv' := [(5, .int c0), (0, .ref b), (1, .ref (ad 0)), (2, .ref (bd 0)), (3, .ref qo), (4, .int (nI i))]) hx hb dL_law_1094 hl (Nat.le_of_ble_eq_true rfl) rfl (fun ls hl => ?_)
  refine lv_aload_n hx hb dL_law_1096 rfl (lv_at hl 3 rfl) ?_
  refine lv_aload_n hx hb dL_law_1097 rfl (lv_at hl 1 rfl) ?_
  refine lv_iload hx hb dL_law_1098 (lv_at hl 5 rfl) ?_
  refine lv_iconst (v := 1) hx hb dL_law_1100 (by decide) ?_
  refine lv_iadd hx hb dL_law_1101 ?_
  refine k_sc C hw (j := i + 1) (nI_add i 1) (by omega) dL_law_1102 ?_
  refine lv_aload_n hx hb dL_law_1103 rfl (lv_at hl 1 rfl) ?_
  refine lv_iload hx hb dL_law_1104 (lv_at hl 5 rfl) ?_
  refine lv_iconst (v := 2) hx hb dL_law_1106 (by decide) ?_
  refine lv_iadd hx hb dL_law_1107 ?_
  refine k_sc C hw (j := i + 2) (nI_add i 2) (by omega) dL_law_1108 ?_
  refine k_lm (rest := []) (As := [.int (xs (i + 1)), .int (xs (i + 2))]) C (t_X7_giveBack hm) cv_X7_giveBack ml_L_200 hw rfl rfl rfl hl.1 rfl (Nat.le_of_ble_eq_true rfl) ⟨(Nat.le_of_ble_eq_true rfl), (Nat.le_of_ble_eq_true rfl)⟩ ⟨hcs, hss⟩ dL_law_1109 (fun H locs hw => ?_)
  refine lv_istore (lv' := [(6, .int bv), (5, .int c0), (0, .ref b), (1, .ref (ad 0)), (2, .ref (bd 0)), (3, .ref qo), (4, .int (nI i))]) hx hb dL_law_1112 hl (Nat.le_of_ble_eq_true rfl) rfl (fun ls hl => ?_)
  refine lv_aload_n hx hb dL_law_1114 rfl (lv_at hl 4 rfl) ?_
  refine k_lm (rest := []) (As := []) C (t_X7_thrown (n := 0) (rv := c0) (congrArg some hth)) cv_X7_thrown ml_L_155 hw rfl rfl rfl hl.1 rfl (Nat.le_of_ble_eq_true rfl) ⟨(Nat.le_of_ble_eq_true rfl), (Nat.le_of_ble_eq_true rfl)⟩ ⟨hcs, hss⟩ dL_law_1115 (fun H locs hw => ?_)
  refine lv_iload hx hb dL_law_1118 (lv_at hl 1 rfl) ?_
  refine lv_icmp_eq (tgt := 1125) hx hb dL_law_1120 rfl (fun c9 => ?_) (fun c9 => absurd rfl c9)
  refine lv_iload hx hb dL_law_1125 (lv_at hl 1 rfl) ?_
  refine lv_if_ne (tgt := 1142) hx hb dL_law_1127 rfl (fun c8 => ?_) (fun c8 => ?_)
  · refine lv_goto (tgt := 2739) hx hb dL_law_1142 rfl ?_
    exact kk _ H locs ls hw (lv_sub hl [2, 3, 4, 5, 6] rfl)
  · refine lv_aload_n hx hb dL_law_1130 rfl (lv_at hl 5 rfl) ?_
    refine lv_iconst (v := 0) hx hb dL_law_1131 (by decide) ?_
    refine k_lld C.1 hw 64 rfl (by decide) dL_law_1132 ?_
    rw [ho c8]
    refine lv_iload hx hb dL_law_1133 (lv_at hl 0 rfl) ?_
    refine lv_i2l hx hb dL_law_1135 rfl ?_
    refine W.lcmp hx hb dL_law_1136 ?_
    rw [lg_same]
    refine lv_if_eq (tgt := 1142) hx hb dL_law_1137 rfl (fun c7 => ?_) (fun c7 => absurd rfl c7)
    refine lv_goto (tgt := 2739) hx hb dL_law_1142 rfl ?_
    exact kk _ H locs ls hw (lv_sub hl [2, 3, 4, 5, 6] rfl)
set_option maxHeartbeats 4000000 in
set_option maxRecDepth 100000 in
theorem c_recall (C : LC p l s m c b L xs A) {i : Nat} (hi : i + 5 ≤ L) {n : Nat} {xr : SX} {k0 : Nat} {rv c0 : Int32} (hf : f_X6_recall n x (xs (i + 1)) = some (k0, rv, xr)) (hc : (k0 = 0 ∧ c0 = 0) ∨ (k0 = 1 ∧ c0 = 1) ∨ (k0 = 2 ∧ c0 = 2)) {n2 : Nat} {bv : Int32} {xm' : SX} (hm : f_X7_recall n2 xm (xs (i + 1)) = some (bv, xm')) (hth : xm'.1 0 0 = c0) (hab : c0 = 0 → rv = bv) (hw : Wd G (wL G ad qb cap x y bd xm qo o) A s H locs) (hl : lv_has ls 7 [(0, .ref b), (1, .ref (ad 0)), (2, .ref (bd 0)), (3, .ref qo), (4, .int (nI i))]) (hcs : cells + 1 ≤ 601024) (hss : slots + 6 ≤ 7293034) (kk : ∀ (o' : Nat → Int64) (H1 : Heap) (locs1 : List Loc) (ls1 : Array Slot), Wd G (wL G ad qb cap xr y bd xm' qo o') A s H1 locs1 → lv_has ls1 7 [(0, .ref b), (1, .ref (ad 0)), (2, .ref (bd 0)), (3, .ref qo), (4, .int (nI i))] → W p l e room_1 s m #[Value.ref b] below meth c H1 locs1 (cells + 1) (slots + 6) Q (F0 m 2739 ls1 [])) : W p l e room_1 s m #[Value.ref b] below meth c H locs cells slots Q (F0 m 1145 ls []) := by
  have hx := C.1.1
  have hb := C.1.2.1
  have hL := C.2.2.2.2.1
  have ho : c0 = 0 → (if k0 = 0 then vp_updL o 0 rv.toInt64 else o) ((0 : Int32).toNatClampNeg) = bv.toInt64 := fun z => by
    have hk0 : k0 = 0 := by
      rcases hc with ⟨h1, h2⟩ | ⟨h1, h2⟩ | ⟨h1, h2⟩
      · exact h1
      · rw [h2] at z; exact absurd z (by decide)
      · rw [h2] at z; exact absurd z (by decide)
    rw [if_pos hk0, hab z, sb_cl0]
    exact pk_uLs
  refine lv_aload_n hx hb dL_law_1145 rfl (lv_at hl 1 rfl) ?_
  refine lv_aload_n hx hb dL_law_1146 rfl (lv_at hl 0 rfl) ?_
  refine lv_iload hx hb dL_law_1147 (lv_at hl 4 rfl) ?_
  refine lv_iconst (v := 1) hx hb dL_law_1149 (by decide) ?_
  refine lv_iadd hx hb dL_law_1150 ?_
  refine k_sc C hw (j := i + 1) (nI_add i 1) (by omega) dL_law_1151 ?_
  refine lv_aload_n hx hb dL_law_1152 rfl (lv_at hl 3 rfl) ?_
  refine k_lw (rest := []) (As := [.ref (ad 0), .int (xs (i + 1)), .ref qo]) C (t_L_recall C.2.2.2.2.2.1 hf hc) cw_L_recall ml_L_201 hw rfl hl.1 rfl (Nat.le_of_ble_eq_true rfl) ⟨(Nat.le_of_ble_eq_true rfl), (Nat.le_of_ble_eq_true rfl)⟩ ⟨hcs, hss⟩ dL_law_1153 (fun H locs hw => ?_)
  refine lv_istore (lv' := [(5, .int c0), (0, .ref b), (1, .ref (ad 0)), (2, .ref (bd 0)), (3, .ref qo), (4, .int (nI i))]) hx hb dL_law_1156 hl (Nat.le_of_ble_eq_true rfl) rfl (fun ls hl => ?_)
  refine lv_aload_n hx hb dL_law_1158 rfl (lv_at hl 3 rfl) ?_
  refine lv_aload_n hx hb dL_law_1159 rfl (lv_at hl 1 rfl) ?_
  refine lv_iload hx hb dL_law_1160 (lv_at hl 5 rfl) ?_
  refine lv_iconst (v := 1) hx hb dL_law_1162 (by decide) ?_
  refine lv_iadd hx hb dL_law_1163 ?_
  refine k_sc C hw (j := i + 1) (nI_add i 1) (by omega) dL_law_1164 ?_
  refine k_lm (rest := []) (As := [.int (xs (i + 1))]) C (t_X7_recall hm) cv_X7_recall ml_L_203 hw rfl rfl rfl hl.1 rfl (Nat.le_of_ble_eq_true rfl) ⟨(Nat.le_of_ble_eq_true rfl), (Nat.le_of_ble_eq_true rfl)⟩ ⟨hcs, hss⟩ dL_law_1165 (fun H locs hw => ?_)
  refine lv_istore (lv' := [(6, .int bv), (5, .int c0), (0, .ref b), (1, .ref (ad 0)), (2, .ref (bd 0)), (3, .ref qo), (4, .int (nI i))]) hx hb dL_law_1168 hl (Nat.le_of_ble_eq_true rfl) rfl (fun ls hl => ?_)
  refine lv_aload_n hx hb dL_law_1170 rfl (lv_at hl 4 rfl) ?_
  refine k_lm (rest := []) (As := []) C (t_X7_thrown (n := 0) (rv := c0) (congrArg some hth)) cv_X7_thrown ml_L_155 hw rfl rfl rfl hl.1 rfl (Nat.le_of_ble_eq_true rfl) ⟨(Nat.le_of_ble_eq_true rfl), (Nat.le_of_ble_eq_true rfl)⟩ ⟨hcs, hss⟩ dL_law_1171 (fun H locs hw => ?_)
  refine lv_iload hx hb dL_law_1174 (lv_at hl 1 rfl) ?_
  refine lv_icmp_eq (tgt := 1181) hx hb dL_law_1176 rfl (fun c9 => ?_) (fun c9 => absurd rfl c9)
  refine lv_iload hx hb dL_law_1181 (lv_at hl 1 rfl) ?_
  refine lv_if_ne (tgt := 1198) hx hb dL_law_1183 rfl (fun c8 => ?_) (fun c8 => ?_)
  · refine lv_goto (tgt := 2739) hx hb dL_law_1198 rfl ?_
    exact kk _ H locs ls hw (lv_sub hl [2, 3, 4, 5, 6] rfl)
  · refine lv_aload_n hx hb dL_law_1186 rfl (lv_at hl 5 rfl) ?_
    refine lv_iconst (v := 0) hx hb dL_law_1187 (by decide) ?_
    refine k_lld C.1 hw 64 rfl (by decide) dL_law_1188 ?_
    rw [ho c8]
    refine lv_iload hx hb dL_law_1189 (lv_at hl 0 rfl) ?_
    refine lv_i2l hx hb dL_law_1191 rfl ?_
    refine W.lcmp hx hb dL_law_1192 ?_
    rw [lg_same]
    refine lv_if_eq (tgt := 1198) hx hb dL_law_1193 rfl (fun c7 => ?_) (fun c7 => absurd rfl c7)
    refine lv_goto (tgt := 2739) hx hb dL_law_1198 rfl ?_
    exact kk _ H locs ls hw (lv_sub hl [2, 3, 4, 5, 6] rfl)
set_option maxHeartbeats 4000000 in
set_option maxRecDepth 100000 in
theorem c_termCount (C : LC p l s m c b L xs A) {i : Nat} (hi : i + 5 ≤ L) {n : Nat} {rv : Int32} (hf : f_X6_termCount n x = some rv) {n2 : Nat} {bv : Int32} {xm' : SX} (hm : f_X7_termCount n2 xm = some (bv, xm')) (hab : rv = bv) (hw : Wd G (wL G ad qb cap x y bd xm qo o) A s H locs) (hl : lv_has ls 7 [(0, .ref b), (1, .ref (ad 0)), (2, .ref (bd 0)), (3, .ref qo), (4, .int (nI i))]) (hcs : cells + 1 ≤ 601024) (hss : slots + 6 ≤ 7293034) (kk : ∀ (H1 : Heap) (locs1 : List Loc) (ls1 : Array Slot), Wd G (wL G ad qb cap x y bd xm' qo o) A s H1 locs1 → lv_has ls1 7 [(0, .ref b), (1, .ref (ad 0)), (2, .ref (bd 0)), (3, .ref qo), (4, .int (nI i))] → W p l e room_1 s m #[Value.ref b] below meth c H1 locs1 (cells + 1) (slots + 6) Q (F0 m 2739 ls1 [])) : W p l e room_1 s m #[Value.ref b] below meth c H locs cells slots Q (F0 m 1201 ls []) := by
  have hx := C.1.1
  have hb := C.1.2.1
  refine W.widen (k := cells + 1) (n := slots + 6) (by omega) (by omega) ?_
  refine lv_aload_n hx hb dL_law_1201 rfl (lv_at hl 1 rfl) ?_
  refine k_lx (rest := []) (As := []) C (t_X6_termCount hf) cv_X6_termCount ml_L_204 hw rfl rfl rfl hl.1 rfl (Nat.le_of_ble_eq_true rfl) ⟨(Nat.le_of_ble_eq_true rfl), (Nat.le_of_ble_eq_true rfl)⟩ ⟨hcs, hss⟩ dL_law_1202 (fun H locs hw => ?_)
  refine lv_aload_n hx hb dL_law_1205 rfl (lv_at hl 2 rfl) ?_
  refine k_lm (rest := [.int rv]) (As := []) C (t_X7_termCount hm) cv_X7_termCount ml_L_207 hw rfl rfl rfl hl.1 rfl (Nat.le_of_ble_eq_true rfl) ⟨(Nat.le_of_ble_eq_true rfl), (Nat.le_of_ble_eq_true rfl)⟩ ⟨hcs, hss⟩ dL_law_1206 (fun H locs hw => ?_)
  refine lv_icmp_eq (tgt := 2739) hx hb dL_law_1209 rfl (fun c9 => ?_) (fun c9 => absurd hab c9)
  exact kk H locs ls hw (lv_sub hl [0, 1, 2, 3, 4] rfl)
set_option maxHeartbeats 4000000 in
set_option maxRecDepth 100000 in
theorem c_kindOf (C : LC p l s m c b L xs A) {i : Nat} (hi : i + 5 ≤ L) {n : Nat} {k0 : Nat} {rv c0 : Int32} (hf : f_X6_kindOf n x (xs (i + 1)) = some (k0, rv)) (hc : (k0 = 0 ∧ c0 = 0) ∨ (k0 = 3 ∧ c0 = 1)) {n2 : Nat} {bv : Int32} {xm' : SX} (hm : f_X7_kindOf n2 xm (xs (i + 1)) = some (bv, xm')) (hth : xm'.1 0 0 = c0) (hab : c0 = 0 → rv = bv) (hw : Wd G (wL G ad qb cap x y bd xm qo o) A s H locs) (hl : lv_has ls 7 [(0, .ref b), (1, .ref (ad 0)), (2, .ref (bd 0)), (3, .ref qo), (4, .int (nI i))]) (hcs : cells + 1 ≤ 601024) (hss : slots + 6 ≤ 7293034) (kk : ∀ (o' : Nat → Int64) (H1 : Heap) (locs1 : List Loc) (ls1 : Array Slot), Wd G (wL G ad qb cap x y bd xm' qo o') A s H1 locs1 → lv_has ls1 7 [(0, .ref b), (1, .ref (ad 0)), (2, .ref (bd 0)), (3, .ref qo), (4, .int (nI i))] → W p l e room_1 s m #[Value.ref b] below meth c H1 locs1 (cells + 1) (slots + 6) Q (F0 m 2739 ls1 [])) : W p l e room_1 s m #[Value.ref b] below meth c H locs cells slots Q (F0 m 1214 ls []) := by
  have hx := C.1.1
  have hb := C.1.2.1
  have hL := C.2.2.2.2.1
  have ho : c0 = 0 → (if k0 = 0 then vp_updL o 0 rv.toInt64 else o) ((0 : Int32).toNatClampNeg) = bv.toInt64 := fun z => by
    have hk0 : k0 = 0 := by
      rcases hc with ⟨h1, h2⟩ | ⟨h1, h2⟩
      · exact h1
      · rw [h2] at z; exact absurd z (by decide)
    rw [if_pos hk0, hab z, sb_cl0]
    exact pk_uLs
  refine lv_aload_n hx hb dL_law_1214 rfl (lv_at hl 1 rfl) ?_
  refine lv_aload_n hx hb dL_law_1215 rfl (lv_at hl 0 rfl) ?_
  refine lv_iload hx hb dL_law_1216 (lv_at hl 4 rfl) ?_
  refine lv_iconst (v := 1) hx hb dL_law_1218 (by decide) ?_
  refine lv_iadd hx hb dL_law_1219 ?_
  refine k_sc C hw (j := i + 1) (nI_add i 1) (by omega) dL_law_1220 ?_
  refine lv_aload_n hx hb dL_law_1221 rfl (lv_at hl 3 rfl) ?_
  refine k_lw (rest := []) (As := [.ref (ad 0), .int (xs (i + 1)), .ref qo]) C (t_L_kindOf C.2.2.2.2.2.1 hf hc) cw_L_kindOf ml_L_208 hw rfl hl.1 rfl (Nat.le_of_ble_eq_true rfl) ⟨(Nat.le_of_ble_eq_true rfl), (Nat.le_of_ble_eq_true rfl)⟩ ⟨hcs, hss⟩ dL_law_1222 (fun H locs hw => ?_)
  refine lv_istore (lv' := [(5, .int c0), (0, .ref b), (1, .ref (ad 0)), (2, .ref (bd 0)), (3, .ref qo), (4, .int (nI i))]) hx hb dL_law_1225 hl (Nat.le_of_ble_eq_true rfl) rfl (fun ls hl => ?_)
  refine lv_aload_n hx hb dL_law_1227 rfl (lv_at hl 3 rfl) ?_
  refine lv_aload_n hx hb dL_law_1228 rfl (lv_at hl 1 rfl) ?_
  refine lv_iload hx hb dL_law_1229 (lv_at hl 5 rfl) ?_
  refine lv_iconst (v := 1) hx hb dL_law_1231 (by decide) ?_
  refine lv_iadd hx hb dL_law_1232 ?_
  refine k_sc C hw (j := i + 1) (nI_add i 1) (by omega) dL_law_1233 ?_
  refine k_lm (rest := []) (As := [.int (xs (i + 1))]) C (t_X7_kindOf hm) cv_X7_kindOf ml_L_210 hw rfl rfl rfl hl.1 rfl (Nat.le_of_ble_eq_true rfl) ⟨(Nat.le_of_ble_eq_true rfl), (Nat.le_of_ble_eq_true rfl)⟩ ⟨hcs, hss⟩ dL_law_1234 (fun H locs hw => ?_)
  refine lv_istore (lv' := [(6, .int bv), (5, .int c0), (0, .ref b), (1, .ref (ad 0)), (2, .ref (bd 0)), (3, .ref qo), (4, .int (nI i))]) hx hb dL_law_1237 hl (Nat.le_of_ble_eq_true rfl) rfl (fun ls hl => ?_)
  refine lv_aload_n hx hb dL_law_1239 rfl (lv_at hl 4 rfl) ?_
  refine k_lm (rest := []) (As := []) C (t_X7_thrown (n := 0) (rv := c0) (congrArg some hth)) cv_X7_thrown ml_L_155 hw rfl rfl rfl hl.1 rfl (Nat.le_of_ble_eq_true rfl) ⟨(Nat.le_of_ble_eq_true rfl), (Nat.le_of_ble_eq_true rfl)⟩ ⟨hcs, hss⟩ dL_law_1240 (fun H locs hw => ?_)
  refine lv_iload hx hb dL_law_1243 (lv_at hl 1 rfl) ?_
  refine lv_icmp_eq (tgt := 1250) hx hb dL_law_1245 rfl (fun c9 => ?_) (fun c9 => absurd rfl c9)
  refine lv_iload hx hb dL_law_1250 (lv_at hl 1 rfl) ?_
  refine lv_if_ne (tgt := 1267) hx hb dL_law_1252 rfl (fun c8 => ?_) (fun c8 => ?_)
  · refine lv_goto (tgt := 2739) hx hb dL_law_1267 rfl ?_
    exact kk _ H locs ls hw (lv_sub hl [2, 3, 4, 5, 6] rfl)
  · refine lv_aload_n hx hb dL_law_1255 rfl (lv_at hl 5 rfl) ?_
    refine lv_iconst (v := 0) hx hb dL_law_1256 (by decide) ?_
    refine k_lld C.1 hw 64 rfl (by decide) dL_law_1257 ?_
    rw [ho c8]
    refine lv_iload hx hb dL_law_1258 (lv_at hl 0 rfl) ?_
    refine lv_i2l hx hb dL_law_1260 rfl ?_
    refine W.lcmp hx hb dL_law_1261 ?_
    rw [lg_same]
    refine lv_if_eq (tgt := 1267) hx hb dL_law_1262 rfl (fun c7 => ?_) (fun c7 => absurd rfl c7)
    refine lv_goto (tgt := 2739) hx hb dL_law_1267 rfl ?_
    exact kk _ H locs ls hw (lv_sub hl [2, 3, 4, 5, 6] rfl)
set_option maxHeartbeats 4000000 in
set_option maxRecDepth 100000 in
theorem c_isQuashed (C : LC p l s m c b L xs A) {i : Nat} (hi : i + 5 ≤ L) {n : Nat} {k0 : Nat} {rv c0 : Int32} (hf : f_X6_isQuashed n x (xs (i + 1)) = some (k0, rv)) (hbz : rv = 0 ∨ rv = 1) (hc : (k0 = 0 ∧ c0 = 0) ∨ (k0 = 3 ∧ c0 = 1)) {n2 : Nat} {bv : Int32} {xm' : SX} (hm : f_X7_isQuashed n2 xm (xs (i + 1)) = some (bv, xm')) (hth : xm'.1 0 0 = c0) (hab : c0 = 0 → rv = bv) (hw : Wd G (wL G ad qb cap x y bd xm qo o) A s H locs) (hl : lv_has ls 7 [(0, .ref b), (1, .ref (ad 0)), (2, .ref (bd 0)), (3, .ref qo), (4, .int (nI i))]) (hcs : cells + 1 ≤ 601024) (hss : slots + 6 ≤ 7293034) (kk : ∀ (o' : Nat → Int64) (H1 : Heap) (locs1 : List Loc) (ls1 : Array Slot), Wd G (wL G ad qb cap x y bd xm' qo o') A s H1 locs1 → lv_has ls1 7 [(0, .ref b), (1, .ref (ad 0)), (2, .ref (bd 0)), (3, .ref qo), (4, .int (nI i))] → W p l e room_1 s m #[Value.ref b] below meth c H1 locs1 (cells + 1) (slots + 6) Q (F0 m 2739 ls1 [])) : W p l e room_1 s m #[Value.ref b] below meth c H locs cells slots Q (F0 m 1270 ls []) := by
  have hx := C.1.1
  have hb := C.1.2.1
  have hL := C.2.2.2.2.1
  have ho : c0 = 0 → (if k0 = 0 then vp_updL o 0 rv.toInt64 else o) ((0 : Int32).toNatClampNeg) = bv.toInt64 := fun z => by
    have hk0 : k0 = 0 := by
      rcases hc with ⟨h1, h2⟩ | ⟨h1, h2⟩
      · exact h1
      · rw [h2] at z; exact absurd z (by decide)
    rw [if_pos hk0, hab z, sb_cl0]
    exact pk_uLs
  refine lv_aload_n hx hb dL_law_1270 rfl (lv_at hl 1 rfl) ?_
  refine lv_aload_n hx hb dL_law_1271 rfl (lv_at hl 0 rfl) ?_
  refine lv_iload hx hb dL_law_1272 (lv_at hl 4 rfl) ?_
  refine lv_iconst (v := 1) hx hb dL_law_1274 (by decide) ?_
  refine lv_iadd hx hb dL_law_1275 ?_
  refine k_sc C hw (j := i + 1) (nI_add i 1) (by omega) dL_law_1276 ?_
  refine lv_aload_n hx hb dL_law_1277 rfl (lv_at hl 3 rfl) ?_
  refine k_lw (rest := []) (As := [.ref (ad 0), .int (xs (i + 1)), .ref qo]) C (t_L_isQuashed C.2.2.2.2.2.1 hf hbz hc) cw_L_isQuashed ml_L_211 hw rfl hl.1 rfl (Nat.le_of_ble_eq_true rfl) ⟨(Nat.le_of_ble_eq_true rfl), (Nat.le_of_ble_eq_true rfl)⟩ ⟨hcs, hss⟩ dL_law_1278 (fun H locs hw => ?_)
  refine lv_istore (lv' := [(5, .int c0), (0, .ref b), (1, .ref (ad 0)), (2, .ref (bd 0)), (3, .ref qo), (4, .int (nI i))]) hx hb dL_law_1281 hl (Nat.le_of_ble_eq_true rfl) rfl (fun ls hl => ?_)
  refine lv_aload_n hx hb dL_law_1283 rfl (lv_at hl 3 rfl) ?_
  refine lv_aload_n hx hb dL_law_1284 rfl (lv_at hl 1 rfl) ?_
  refine lv_iload hx hb dL_law_1285 (lv_at hl 5 rfl) ?_
  refine lv_iconst (v := 1) hx hb dL_law_1287 (by decide) ?_
  refine lv_iadd hx hb dL_law_1288 ?_
  refine k_sc C hw (j := i + 1) (nI_add i 1) (by omega) dL_law_1289 ?_
  refine k_lm (rest := []) (As := [.int (xs (i + 1))]) C (t_X7_isQuashed hm) cv_X7_isQuashed ml_L_213 hw rfl rfl rfl hl.1 rfl (Nat.le_of_ble_eq_true rfl) ⟨(Nat.le_of_ble_eq_true rfl), (Nat.le_of_ble_eq_true rfl)⟩ ⟨hcs, hss⟩ dL_law_1290 (fun H locs hw => ?_)
  refine lv_istore (lv' := [(6, .int bv), (5, .int c0), (0, .ref b), (1, .ref (ad 0)), (2, .ref (bd 0)), (3, .ref qo), (4, .int (nI i))]) hx hb dL_law_1293 hl (Nat.le_of_ble_eq_true rfl) rfl (fun ls hl => ?_)
  refine lv_aload_n hx hb dL_law_1295 rfl (lv_at hl 4 rfl) ?_
  refine k_lm (rest := []) (As := []) C (t_X7_thrown (n := 0) (rv := c0) (congrArg some hth)) cv_X7_thrown ml_L_155 hw rfl rfl rfl hl.1 rfl (Nat.le_of_ble_eq_true rfl) ⟨(Nat.le_of_ble_eq_true rfl), (Nat.le_of_ble_eq_true rfl)⟩ ⟨hcs, hss⟩ dL_law_1296 (fun H locs hw => ?_)
  refine lv_iload hx hb dL_law_1299 (lv_at hl 1 rfl) ?_
  refine lv_icmp_eq (tgt := 1306) hx hb dL_law_1301 rfl (fun c9 => ?_) (fun c9 => absurd rfl c9)
  refine lv_iload hx hb dL_law_1306 (lv_at hl 1 rfl) ?_
  refine lv_if_ne (tgt := 1330) hx hb dL_law_1308 rfl (fun c8 => ?_) (fun c8 => ?_)
  · refine lv_goto (tgt := 2739) hx hb dL_law_1330 rfl ?_
    exact kk _ H locs ls hw (lv_sub hl [2, 3, 4, 5, 6] rfl)
  · refine lv_aload_n hx hb dL_law_1311 rfl (lv_at hl 5 rfl) ?_
    refine lv_iconst (v := 0) hx hb dL_law_1312 (by decide) ?_
    refine k_lld C.1 hw 64 rfl (by decide) dL_law_1313 ?_
    rw [ho c8]
    refine lv_iload hx hb dL_law_1314 (lv_at hl 0 rfl) ?_
    refine lv_if_eq (tgt := 1323) hx hb dL_law_1316 rfl (fun c7 => ?_) (fun c7 => ?_)
    · refine lv_lconst (v := 0) hx hb dL_law_1323 (by decide) ?_
      refine W.lcmp hx hb dL_law_1324 ?_
      rw [show bv.toInt64 = 0 by rw [c7]; rfl, lg_same]
      refine lv_if_eq (tgt := 1330) hx hb dL_law_1325 rfl (fun c6 => ?_) (fun c6 => absurd rfl c6)
      refine lv_goto (tgt := 2739) hx hb dL_law_1330 rfl ?_
      exact kk _ H locs ls hw (lv_sub hl [2, 3, 4, 5, 6] rfl)
    · have c5 : bv = 1 := (hab c8 ▸ hbz).resolve_left c7
      refine lv_lconst (v := 1) hx hb dL_law_1319 (by decide) ?_
      refine lv_goto (tgt := 1324) hx hb dL_law_1320 rfl ?_
      refine W.lcmp hx hb dL_law_1324 ?_
      rw [show bv.toInt64 = 1 by rw [c5]; rfl, lg_same]
      refine lv_if_eq (tgt := 1330) hx hb dL_law_1325 rfl (fun c6 => ?_) (fun c6 => absurd rfl c6)
      refine lv_goto (tgt := 2739) hx hb dL_law_1330 rfl ?_
      exact kk _ H locs ls hw (lv_sub hl [2, 3, 4, 5, 6] rfl)
set_option maxHeartbeats 4000000 in
set_option maxRecDepth 100000 in
theorem c_parentOf (C : LC p l s m c b L xs A) {i : Nat} (hi : i + 5 ≤ L) {n : Nat} {k0 : Nat} {rv c0 : Int32} (hf : f_X6_parentOf n x (xs (i + 1)) = some (k0, rv)) (hc : (k0 = 0 ∧ c0 = 0) ∨ (k0 = 3 ∧ c0 = 1) ∨ (k0 = 2 ∧ c0 = 2) ∨ (k0 = 4 ∧ c0 = 3)) {n2 : Nat} {bv : Int32} {xm' : SX} (hm : f_X7_parentOf n2 xm (xs (i + 1)) = some (bv, xm')) (hth : xm'.1 0 0 = c0) (hab : c0 = 0 → rv = bv) (hw : Wd G (wL G ad qb cap x y bd xm qo o) A s H locs) (hl : lv_has ls 7 [(0, .ref b), (1, .ref (ad 0)), (2, .ref (bd 0)), (3, .ref qo), (4, .int (nI i))]) (hcs : cells + 3 ≤ 601024) (hss : slots + 18 ≤ 7293034) (kk : ∀ (o' : Nat → Int64) (H1 : Heap) (locs1 : List Loc) (ls1 : Array Slot), Wd G (wL G ad qb cap x y bd xm' qo o') A s H1 locs1 → lv_has ls1 7 [(0, .ref b), (1, .ref (ad 0)), (2, .ref (bd 0)), (3, .ref qo), (4, .int (nI i))] → W p l e room_1 s m #[Value.ref b] below meth c H1 locs1 (cells + 3) (slots + 18) Q (F0 m 2739 ls1 [])) : W p l e room_1 s m #[Value.ref b] below meth c H locs cells slots Q (F0 m 1333 ls []) := by
  have hx := C.1.1
  have hb := C.1.2.1
  have hL := C.2.2.2.2.1
  have ho : c0 = 0 → (if k0 = 0 then vp_updL o 0 rv.toInt64 else o) ((0 : Int32).toNatClampNeg) = bv.toInt64 := fun z => by
    have hk0 : k0 = 0 := by
      rcases hc with ⟨h1, h2⟩ | ⟨h1, h2⟩ | ⟨h1, h2⟩ | ⟨h1, h2⟩
      · exact h1
      · rw [h2] at z; exact absurd z (by decide)
      · rw [h2] at z; exact absurd z (by decide)
      · rw [h2] at z; exact absurd z (by decide)
    rw [if_pos hk0, hab z, sb_cl0]
    exact pk_uLs
  refine lv_aload_n hx hb dL_law_1333 rfl (lv_at hl 1 rfl) ?_
  refine lv_aload_n hx hb dL_law_1334 rfl (lv_at hl 0 rfl) ?_
  refine lv_iload hx hb dL_law_1335 (lv_at hl 4 rfl) ?_
  refine lv_iconst (v := 1) hx hb dL_law_1337 (by decide) ?_
  refine lv_iadd hx hb dL_law_1338 ?_
  refine k_sc C hw (j := i + 1) (nI_add i 1) (by omega) dL_law_1339 ?_
  refine lv_aload_n hx hb dL_law_1340 rfl (lv_at hl 3 rfl) ?_
  refine k_lw (rest := []) (As := [.ref (ad 0), .int (xs (i + 1)), .ref qo]) C (t_L_parentOf C.2.2.2.2.2.1 hf hc) cw_L_parentOf ml_L_214 hw rfl hl.1 rfl (Nat.le_of_ble_eq_true rfl) ⟨(Nat.le_of_ble_eq_true rfl), (Nat.le_of_ble_eq_true rfl)⟩ ⟨hcs, hss⟩ dL_law_1341 (fun H locs hw => ?_)
  refine lv_istore (lv' := [(5, .int c0), (0, .ref b), (1, .ref (ad 0)), (2, .ref (bd 0)), (3, .ref qo), (4, .int (nI i))]) hx hb dL_law_1344 hl (Nat.le_of_ble_eq_true rfl) rfl (fun ls hl => ?_)
  refine lv_aload_n hx hb dL_law_1346 rfl (lv_at hl 3 rfl) ?_
  refine lv_aload_n hx hb dL_law_1347 rfl (lv_at hl 1 rfl) ?_
  refine lv_iload hx hb dL_law_1348 (lv_at hl 5 rfl) ?_
  refine lv_iconst (v := 1) hx hb dL_law_1350 (by decide) ?_
  refine lv_iadd hx hb dL_law_1351 ?_
  refine k_sc C hw (j := i + 1) (nI_add i 1) (by omega) dL_law_1352 ?_
  refine k_lm (rest := []) (As := [.int (xs (i + 1))]) C (t_X7_parentOf hm) cv_X7_parentOf ml_L_216 hw rfl rfl rfl hl.1 rfl (Nat.le_of_ble_eq_true rfl) ⟨(Nat.le_of_ble_eq_true rfl), (Nat.le_of_ble_eq_true rfl)⟩ ⟨hcs, hss⟩ dL_law_1353 (fun H locs hw => ?_)
  refine lv_istore (lv' := [(6, .int bv), (5, .int c0), (0, .ref b), (1, .ref (ad 0)), (2, .ref (bd 0)), (3, .ref qo), (4, .int (nI i))]) hx hb dL_law_1356 hl (Nat.le_of_ble_eq_true rfl) rfl (fun ls hl => ?_)
  refine lv_aload_n hx hb dL_law_1358 rfl (lv_at hl 4 rfl) ?_
  refine k_lm (rest := []) (As := []) C (t_X7_thrown (n := 0) (rv := c0) (congrArg some hth)) cv_X7_thrown ml_L_155 hw rfl rfl rfl hl.1 rfl (Nat.le_of_ble_eq_true rfl) ⟨(Nat.le_of_ble_eq_true rfl), (Nat.le_of_ble_eq_true rfl)⟩ ⟨hcs, hss⟩ dL_law_1359 (fun H locs hw => ?_)
  refine lv_iload hx hb dL_law_1362 (lv_at hl 1 rfl) ?_
  refine lv_icmp_eq (tgt := 1369) hx hb dL_law_1364 rfl (fun c9 => ?_) (fun c9 => absurd rfl c9)
  refine lv_iload hx hb dL_law_1369 (lv_at hl 1 rfl) ?_
  refine lv_if_ne (tgt := 1386) hx hb dL_law_1371 rfl (fun c8 => ?_) (fun c8 => ?_)
  · refine lv_goto (tgt := 2739) hx hb dL_law_1386 rfl ?_
    exact kk _ H locs ls hw (lv_sub hl [2, 3, 4, 5, 6] rfl)
  · refine lv_aload_n hx hb dL_law_1374 rfl (lv_at hl 5 rfl) ?_
    refine lv_iconst (v := 0) hx hb dL_law_1375 (by decide) ?_
    refine k_lld C.1 hw 64 rfl (by decide) dL_law_1376 ?_
    rw [ho c8]
    refine lv_iload hx hb dL_law_1377 (lv_at hl 0 rfl) ?_
    refine lv_i2l hx hb dL_law_1379 rfl ?_
    refine W.lcmp hx hb dL_law_1380 ?_
    rw [lg_same]
    refine lv_if_eq (tgt := 1386) hx hb dL_law_1381 rfl (fun c7 => ?_) (fun c7 => absurd rfl c7)
    refine lv_goto (tgt := 2739) hx hb dL_law_1386 rfl ?_
    exact kk _ H locs ls hw (lv_sub hl [2, 3, 4, 5, 6] rfl)
set_option maxHeartbeats 4000000 in
set_option maxRecDepth 100000 in
theorem c_chainLength (C : LC p l s m c b L xs A) {i : Nat} (hi : i + 5 ≤ L) {n : Nat} {k0 : Nat} {rv c0 : Int32} (hf : f_X6_chainLength n x (xs (i + 1)) = some (k0, rv)) (hc : (k0 = 0 ∧ c0 = 0) ∨ (k0 = 3 ∧ c0 = 1) ∨ (k0 = 2 ∧ c0 = 2)) {n2 : Nat} {bv : Int32} {xm' : SX} (hm : f_X7_chainLength n2 xm (xs (i + 1)) = some (bv, xm')) (hth : xm'.1 0 0 = c0) (hab : c0 = 0 → rv = bv) (hw : Wd G (wL G ad qb cap x y bd xm qo o) A s H locs) (hl : lv_has ls 7 [(0, .ref b), (1, .ref (ad 0)), (2, .ref (bd 0)), (3, .ref qo), (4, .int (nI i))]) (hcs : cells + 2 ≤ 601024) (hss : slots + 12 ≤ 7293034) (kk : ∀ (o' : Nat → Int64) (H1 : Heap) (locs1 : List Loc) (ls1 : Array Slot), Wd G (wL G ad qb cap x y bd xm' qo o') A s H1 locs1 → lv_has ls1 7 [(0, .ref b), (1, .ref (ad 0)), (2, .ref (bd 0)), (3, .ref qo), (4, .int (nI i))] → W p l e room_1 s m #[Value.ref b] below meth c H1 locs1 (cells + 2) (slots + 12) Q (F0 m 2739 ls1 [])) : W p l e room_1 s m #[Value.ref b] below meth c H locs cells slots Q (F0 m 1389 ls []) := by
  have hx := C.1.1
  have hb := C.1.2.1
  have hL := C.2.2.2.2.1
  have ho : c0 = 0 → (if k0 = 0 then vp_updL o 0 rv.toInt64 else o) ((0 : Int32).toNatClampNeg) = bv.toInt64 := fun z => by
    have hk0 : k0 = 0 := by
      rcases hc with ⟨h1, h2⟩ | ⟨h1, h2⟩ | ⟨h1, h2⟩
      · exact h1
      · rw [h2] at z; exact absurd z (by decide)
      · rw [h2] at z; exact absurd z (by decide)
    rw [if_pos hk0, hab z, sb_cl0]
    exact pk_uLs
  refine lv_aload_n hx hb dL_law_1389 rfl (lv_at hl 1 rfl) ?_
  refine lv_aload_n hx hb dL_law_1390 rfl (lv_at hl 0 rfl) ?_
  refine lv_iload hx hb dL_law_1391 (lv_at hl 4 rfl) ?_
  refine lv_iconst (v := 1) hx hb dL_law_1393 (by decide) ?_
  refine lv_iadd hx hb dL_law_1394 ?_
  refine k_sc C hw (j := i + 1) (nI_add i 1) (by omega) dL_law_1395 ?_
  refine lv_aload_n hx hb dL_law_1396 rfl (lv_at hl 3 rfl) ?_
  refine k_lw (rest := []) (As := [.ref (ad 0), .int (xs (i + 1)), .ref qo]) C (t_L_chainLength C.2.2.2.2.2.1 hf hc) cw_L_chainLength ml_L_217 hw rfl hl.1 rfl (Nat.le_of_ble_eq_true rfl) ⟨(Nat.le_of_ble_eq_true rfl), (Nat.le_of_ble_eq_true rfl)⟩ ⟨hcs, hss⟩ dL_law_1397 (fun H locs hw => ?_)
  refine lv_istore (lv' := [(5, .int c0), (0, .ref b), (1, .ref (ad 0)), (2, .ref (bd 0)), (3, .ref qo), (4, .int (nI i))]) hx hb dL_law_1400 hl (Nat.le_of_ble_eq_true rfl) rfl (fun ls hl => ?_)
  refine lv_aload_n hx hb dL_law_1402 rfl (lv_at hl 3 rfl) ?_
  refine lv_aload_n hx hb dL_law_1403 rfl (lv_at hl 1 rfl) ?_
  refine lv_iload hx hb dL_law_1404 (lv_at hl 5 rfl) ?_
  refine lv_iconst (v := 1) hx hb dL_law_1406 (by decide) ?_
  refine lv_iadd hx hb dL_law_1407 ?_
  refine k_sc C hw (j := i + 1) (nI_add i 1) (by omega) dL_law_1408 ?_
  refine k_lm (rest := []) (As := [.int (xs (i + 1))]) C (t_X7_chainLength hm) cv_X7_chainLength ml_L_219 hw rfl rfl rfl hl.1 rfl (Nat.le_of_ble_eq_true rfl) ⟨(Nat.le_of_ble_eq_true rfl), (Nat.le_of_ble_eq_true rfl)⟩ ⟨hcs, hss⟩ dL_law_1409 (fun H locs hw => ?_)
  refine lv_istore (lv' := [(6, .int bv), (5, .int c0), (0, .ref b), (1, .ref (ad 0)), (2, .ref (bd 0)), (3, .ref qo), (4, .int (nI i))]) hx hb dL_law_1412 hl (Nat.le_of_ble_eq_true rfl) rfl (fun ls hl => ?_)
  refine lv_aload_n hx hb dL_law_1414 rfl (lv_at hl 4 rfl) ?_
  refine k_lm (rest := []) (As := []) C (t_X7_thrown (n := 0) (rv := c0) (congrArg some hth)) cv_X7_thrown ml_L_155 hw rfl rfl rfl hl.1 rfl (Nat.le_of_ble_eq_true rfl) ⟨(Nat.le_of_ble_eq_true rfl), (Nat.le_of_ble_eq_true rfl)⟩ ⟨hcs, hss⟩ dL_law_1415 (fun H locs hw => ?_)
  refine lv_iload hx hb dL_law_1418 (lv_at hl 1 rfl) ?_
  refine lv_icmp_eq (tgt := 1425) hx hb dL_law_1420 rfl (fun c9 => ?_) (fun c9 => absurd rfl c9)
  refine lv_iload hx hb dL_law_1425 (lv_at hl 1 rfl) ?_
  refine lv_if_ne (tgt := 1442) hx hb dL_law_1427 rfl (fun c8 => ?_) (fun c8 => ?_)
  · refine lv_goto (tgt := 2739) hx hb dL_law_1442 rfl ?_
    exact kk _ H locs ls hw (lv_sub hl [2, 3, 4, 5, 6] rfl)
  · refine lv_aload_n hx hb dL_law_1430 rfl (lv_at hl 5 rfl) ?_
    refine lv_iconst (v := 0) hx hb dL_law_1431 (by decide) ?_
    refine k_lld C.1 hw 64 rfl (by decide) dL_law_1432 ?_
    rw [ho c8]
    refine lv_iload hx hb dL_law_1433 (lv_at hl 0 rfl) ?_
    refine lv_i2l hx hb dL_law_1435 rfl ?_
    refine W.lcmp hx hb dL_law_1436 ?_
    rw [lg_same]
    refine lv_if_eq (tgt := 1442) hx hb dL_law_1437 rfl (fun c7 => ?_) (fun c7 => absurd rfl c7)
    refine lv_goto (tgt := 2739) hx hb dL_law_1442 rfl ?_
    exact kk _ H locs ls hw (lv_sub hl [2, 3, 4, 5, 6] rfl)
set_option maxHeartbeats 4000000 in
set_option maxRecDepth 100000 in
theorem c_descendants (C : LC p l s m c b L xs A) {i : Nat} (hi : i + 5 ≤ L) {n : Nat} {k0 : Nat} {rv c0 : Int32} (hf : f_X6_descendants n x (xs (i + 1)) = some (k0, rv)) (hc : (k0 = 0 ∧ c0 = 0) ∨ (k0 = 3 ∧ c0 = 1) ∨ (k0 = 2 ∧ c0 = 2)) {n2 : Nat} {bv : Int32} {xm' : SX} (hm : f_X7_descendants n2 xm (xs (i + 1)) = some (bv, xm')) (hth : xm'.1 0 0 = c0) (hab : c0 = 0 → rv = bv) (hw : Wd G (wL G ad qb cap x y bd xm qo o) A s H locs) (hl : lv_has ls 7 [(0, .ref b), (1, .ref (ad 0)), (2, .ref (bd 0)), (3, .ref qo), (4, .int (nI i))]) (hcs : cells + 2 ≤ 601024) (hss : slots + 12 ≤ 7293034) (kk : ∀ (o' : Nat → Int64) (H1 : Heap) (locs1 : List Loc) (ls1 : Array Slot), Wd G (wL G ad qb cap x y bd xm' qo o') A s H1 locs1 → lv_has ls1 7 [(0, .ref b), (1, .ref (ad 0)), (2, .ref (bd 0)), (3, .ref qo), (4, .int (nI i))] → W p l e room_1 s m #[Value.ref b] below meth c H1 locs1 (cells + 2) (slots + 12) Q (F0 m 2739 ls1 [])) : W p l e room_1 s m #[Value.ref b] below meth c H locs cells slots Q (F0 m 1445 ls []) := by
  have hx := C.1.1
  have hb := C.1.2.1
  have hL := C.2.2.2.2.1
  have ho : c0 = 0 → (if k0 = 0 then vp_updL o 0 rv.toInt64 else o) ((0 : Int32).toNatClampNeg) = bv.toInt64 := fun z => by
    have hk0 : k0 = 0 := by
      rcases hc with ⟨h1, h2⟩ | ⟨h1, h2⟩ | ⟨h1, h2⟩
      · exact h1
      · rw [h2] at z; exact absurd z (by decide)
      · rw [h2] at z; exact absurd z (by decide)
    rw [if_pos hk0, hab z, sb_cl0]
    exact pk_uLs
  refine lv_aload_n hx hb dL_law_1445 rfl (lv_at hl 1 rfl) ?_
  refine lv_aload_n hx hb dL_law_1446 rfl (lv_at hl 0 rfl) ?_
  refine lv_iload hx hb dL_law_1447 (lv_at hl 4 rfl) ?_
  refine lv_iconst (v := 1) hx hb dL_law_1449 (by decide) ?_
  refine lv_iadd hx hb dL_law_1450 ?_
  refine k_sc C hw (j := i + 1) (nI_add i 1) (by omega) dL_law_1451 ?_
  refine lv_aload_n hx hb dL_law_1452 rfl (lv_at hl 3 rfl) ?_
  refine k_lw (rest := []) (As := [.ref (ad 0), .int (xs (i + 1)), .ref qo]) C (t_L_descendants C.2.2.2.2.2.1 hf hc) cw_L_descendants ml_L_220 hw rfl hl.1 rfl (Nat.le_of_ble_eq_true rfl) ⟨(Nat.le_of_ble_eq_true rfl), (Nat.le_of_ble_eq_true rfl)⟩ ⟨hcs, hss⟩ dL_law_1453 (fun H locs hw => ?_)
  refine lv_istore (lv' := [(5, .int c0), (0, .ref b), (1, .ref (ad 0)), (2, .ref (bd 0)), (3, .ref qo), (4, .int (nI i))]) hx hb dL_law_1456 hl (Nat.le_of_ble_eq_true rfl) rfl (fun ls hl => ?_)
  refine lv_aload_n hx hb dL_law_1458 rfl (lv_at hl 3 rfl) ?_
  refine lv_aload_n hx hb dL_law_1459 rfl (lv_at hl 1 rfl) ?_
  refine lv_iload hx hb dL_law_1460 (lv_at hl 5 rfl) ?_
  refine lv_iconst (v := 1) hx hb dL_law_1462 (by decide) ?_
  refine lv_iadd hx hb dL_law_1463 ?_
  refine k_sc C hw (j := i + 1) (nI_add i 1) (by omega) dL_law_1464 ?_
  refine k_lm (rest := []) (As := [.int (xs (i + 1))]) C (t_X7_descendants hm) cv_X7_descendants ml_L_222 hw rfl rfl rfl hl.1 rfl (Nat.le_of_ble_eq_true rfl) ⟨(Nat.le_of_ble_eq_true rfl), (Nat.le_of_ble_eq_true rfl)⟩ ⟨hcs, hss⟩ dL_law_1465 (fun H locs hw => ?_)
  refine lv_istore (lv' := [(6, .int bv), (5, .int c0), (0, .ref b), (1, .ref (ad 0)), (2, .ref (bd 0)), (3, .ref qo), (4, .int (nI i))]) hx hb dL_law_1468 hl (Nat.le_of_ble_eq_true rfl) rfl (fun ls hl => ?_)
  refine lv_aload_n hx hb dL_law_1470 rfl (lv_at hl 4 rfl) ?_
  refine k_lm (rest := []) (As := []) C (t_X7_thrown (n := 0) (rv := c0) (congrArg some hth)) cv_X7_thrown ml_L_155 hw rfl rfl rfl hl.1 rfl (Nat.le_of_ble_eq_true rfl) ⟨(Nat.le_of_ble_eq_true rfl), (Nat.le_of_ble_eq_true rfl)⟩ ⟨hcs, hss⟩ dL_law_1471 (fun H locs hw => ?_)
  refine lv_iload hx hb dL_law_1474 (lv_at hl 1 rfl) ?_
  refine lv_icmp_eq (tgt := 1481) hx hb dL_law_1476 rfl (fun c9 => ?_) (fun c9 => absurd rfl c9)
  refine lv_iload hx hb dL_law_1481 (lv_at hl 1 rfl) ?_
  refine lv_if_ne (tgt := 1498) hx hb dL_law_1483 rfl (fun c8 => ?_) (fun c8 => ?_)
  · refine lv_goto (tgt := 2739) hx hb dL_law_1498 rfl ?_
    exact kk _ H locs ls hw (lv_sub hl [2, 3, 4, 5, 6] rfl)
  · refine lv_aload_n hx hb dL_law_1486 rfl (lv_at hl 5 rfl) ?_
    refine lv_iconst (v := 0) hx hb dL_law_1487 (by decide) ?_
    refine k_lld C.1 hw 64 rfl (by decide) dL_law_1488 ?_
    rw [ho c8]
    refine lv_iload hx hb dL_law_1489 (lv_at hl 0 rfl) ?_
    refine lv_i2l hx hb dL_law_1491 rfl ?_
    refine W.lcmp hx hb dL_law_1492 ?_
    rw [lg_same]
    refine lv_if_eq (tgt := 1498) hx hb dL_law_1493 rfl (fun c7 => ?_) (fun c7 => absurd rfl c7)
    refine lv_goto (tgt := 2739) hx hb dL_law_1498 rfl ?_
    exact kk _ H locs ls hw (lv_sub hl [2, 3, 4, 5, 6] rfl)
set_option maxHeartbeats 4000000 in
set_option maxRecDepth 100000 in
theorem c_start (C : LC p l s m c b L xs A) {i : Nat} (hi : i + 5 ≤ L) {n : Nat} {k0 : Nat} {rv c0 : Int32} (hf : f_X6_start n x (xs (i + 1)) = some (k0, rv)) (hc : (k0 = 0 ∧ c0 = 0) ∨ (k0 = 3 ∧ c0 = 1) ∨ (k0 = 2 ∧ c0 = 2)) {n2 : Nat} {bv : Int32} {xm' : SX} (hm : f_X7_start n2 xm (xs (i + 1)) = some (bv, xm')) (hth : xm'.1 0 0 = c0) (hab : c0 = 0 → rv = bv) (hw : Wd G (wL G ad qb cap x y bd xm qo o) A s H locs) (hl : lv_has ls 7 [(0, .ref b), (1, .ref (ad 0)), (2, .ref (bd 0)), (3, .ref qo), (4, .int (nI i))]) (hcs : cells + 2 ≤ 601024) (hss : slots + 12 ≤ 7293034) (kk : ∀ (o' : Nat → Int64) (H1 : Heap) (locs1 : List Loc) (ls1 : Array Slot), Wd G (wL G ad qb cap x y bd xm' qo o') A s H1 locs1 → lv_has ls1 7 [(0, .ref b), (1, .ref (ad 0)), (2, .ref (bd 0)), (3, .ref qo), (4, .int (nI i))] → W p l e room_1 s m #[Value.ref b] below meth c H1 locs1 (cells + 2) (slots + 12) Q (F0 m 2739 ls1 [])) : W p l e room_1 s m #[Value.ref b] below meth c H locs cells slots Q (F0 m 1501 ls []) := by
  have hx := C.1.1
  have hb := C.1.2.1
  have hL := C.2.2.2.2.1
  have ho : c0 = 0 → (if k0 = 0 then vp_updL o 0 rv.toInt64 else o) ((0 : Int32).toNatClampNeg) = bv.toInt64 := fun z => by
    have hk0 : k0 = 0 := by
      rcases hc with ⟨h1, h2⟩ | ⟨h1, h2⟩ | ⟨h1, h2⟩
      · exact h1
      · rw [h2] at z; exact absurd z (by decide)
      · rw [h2] at z; exact absurd z (by decide)
    rw [if_pos hk0, hab z, sb_cl0]
    exact pk_uLs
  refine lv_aload_n hx hb dL_law_1501 rfl (lv_at hl 1 rfl) ?_
  refine lv_aload_n hx hb dL_law_1502 rfl (lv_at hl 0 rfl) ?_
  refine lv_iload hx hb dL_law_1503 (lv_at hl 4 rfl) ?_
  refine lv_iconst (v := 1) hx hb dL_law_1505 (by decide) ?_
  refine lv_iadd hx hb dL_law_1506 ?_
  refine k_sc C hw (j := i + 1) (nI_add i 1) (by omega) dL_law_1507 ?_
  refine lv_aload_n hx hb dL_law_1508 rfl (lv_at hl 3 rfl) ?_
  refine k_lw (rest := []) (As := [.ref (ad 0), .int (xs (i + 1)), .ref qo]) C (t_L_start C.2.2.2.2.2.1 hf hc) cw_L_start ml_L_223 hw rfl hl.1 rfl (Nat.le_of_ble_eq_true rfl) ⟨(Nat.le_of_ble_eq_true rfl), (Nat.le_of_ble_eq_true rfl)⟩ ⟨hcs, hss⟩ dL_law_1509 (fun H locs hw => ?_)
  refine lv_istore (lv' := [(5, .int c0), (0, .ref b), (1, .ref (ad 0)), (2, .ref (bd 0)), (3, .ref qo), (4, .int (nI i))]) hx hb dL_law_1512 hl (Nat.le_of_ble_eq_true rfl) rfl (fun ls hl => ?_)
  refine lv_aload_n hx hb dL_law_1514 rfl (lv_at hl 3 rfl) ?_
  refine lv_aload_n hx hb dL_law_1515 rfl (lv_at hl 1 rfl) ?_
  refine lv_iload hx hb dL_law_1516 (lv_at hl 5 rfl) ?_
  refine lv_iconst (v := 1) hx hb dL_law_1518 (by decide) ?_
  refine lv_iadd hx hb dL_law_1519 ?_
  refine k_sc C hw (j := i + 1) (nI_add i 1) (by omega) dL_law_1520 ?_
  refine k_lm (rest := []) (As := [.int (xs (i + 1))]) C (t_X7_start hm) cv_X7_start ml_L_225 hw rfl rfl rfl hl.1 rfl (Nat.le_of_ble_eq_true rfl) ⟨(Nat.le_of_ble_eq_true rfl), (Nat.le_of_ble_eq_true rfl)⟩ ⟨hcs, hss⟩ dL_law_1521 (fun H locs hw => ?_)
  refine lv_istore (lv' := [(6, .int bv), (5, .int c0), (0, .ref b), (1, .ref (ad 0)), (2, .ref (bd 0)), (3, .ref qo), (4, .int (nI i))]) hx hb dL_law_1524 hl (Nat.le_of_ble_eq_true rfl) rfl (fun ls hl => ?_)
  refine lv_aload_n hx hb dL_law_1526 rfl (lv_at hl 4 rfl) ?_
  refine k_lm (rest := []) (As := []) C (t_X7_thrown (n := 0) (rv := c0) (congrArg some hth)) cv_X7_thrown ml_L_155 hw rfl rfl rfl hl.1 rfl (Nat.le_of_ble_eq_true rfl) ⟨(Nat.le_of_ble_eq_true rfl), (Nat.le_of_ble_eq_true rfl)⟩ ⟨hcs, hss⟩ dL_law_1527 (fun H locs hw => ?_)
  refine lv_iload hx hb dL_law_1530 (lv_at hl 1 rfl) ?_
  refine lv_icmp_eq (tgt := 1537) hx hb dL_law_1532 rfl (fun c9 => ?_) (fun c9 => absurd rfl c9)
  refine lv_iload hx hb dL_law_1537 (lv_at hl 1 rfl) ?_
  refine lv_if_ne (tgt := 1554) hx hb dL_law_1539 rfl (fun c8 => ?_) (fun c8 => ?_)
  · refine lv_goto (tgt := 2739) hx hb dL_law_1554 rfl ?_
    exact kk _ H locs ls hw (lv_sub hl [2, 3, 4, 5, 6] rfl)
  · refine lv_aload_n hx hb dL_law_1542 rfl (lv_at hl 5 rfl) ?_
    refine lv_iconst (v := 0) hx hb dL_law_1543 (by decide) ?_
    refine k_lld C.1 hw 64 rfl (by decide) dL_law_1544 ?_
    rw [ho c8]
    refine lv_iload hx hb dL_law_1545 (lv_at hl 0 rfl) ?_
    refine lv_i2l hx hb dL_law_1547 rfl ?_
    refine W.lcmp hx hb dL_law_1548 ?_
    rw [lg_same]
    refine lv_if_eq (tgt := 1554) hx hb dL_law_1549 rfl (fun c7 => ?_) (fun c7 => absurd rfl c7)
    refine lv_goto (tgt := 2739) hx hb dL_law_1554 rfl ?_
    exact kk _ H locs ls hw (lv_sub hl [2, 3, 4, 5, 6] rfl)
set_option maxHeartbeats 4000000 in
set_option maxRecDepth 100000 in
theorem c_length (C : LC p l s m c b L xs A) {i : Nat} (hi : i + 5 ≤ L) {n : Nat} {k0 : Nat} {rv c0 : Int32} (hf : f_X6_length n x (xs (i + 1)) = some (k0, rv)) (hc : (k0 = 0 ∧ c0 = 0) ∨ (k0 = 3 ∧ c0 = 1) ∨ (k0 = 2 ∧ c0 = 2)) {n2 : Nat} {bv : Int32} {xm' : SX} (hm : f_X7_length n2 xm (xs (i + 1)) = some (bv, xm')) (hth : xm'.1 0 0 = c0) (hab : c0 = 0 → rv = bv) (hw : Wd G (wL G ad qb cap x y bd xm qo o) A s H locs) (hl : lv_has ls 7 [(0, .ref b), (1, .ref (ad 0)), (2, .ref (bd 0)), (3, .ref qo), (4, .int (nI i))]) (hcs : cells + 2 ≤ 601024) (hss : slots + 12 ≤ 7293034) (kk : ∀ (o' : Nat → Int64) (H1 : Heap) (locs1 : List Loc) (ls1 : Array Slot), Wd G (wL G ad qb cap x y bd xm' qo o') A s H1 locs1 → lv_has ls1 7 [(0, .ref b), (1, .ref (ad 0)), (2, .ref (bd 0)), (3, .ref qo), (4, .int (nI i))] → W p l e room_1 s m #[Value.ref b] below meth c H1 locs1 (cells + 2) (slots + 12) Q (F0 m 2739 ls1 [])) : W p l e room_1 s m #[Value.ref b] below meth c H locs cells slots Q (F0 m 1557 ls []) := by
  have hx := C.1.1
  have hb := C.1.2.1
  have hL := C.2.2.2.2.1
  have ho : c0 = 0 → (if k0 = 0 then vp_updL o 0 rv.toInt64 else o) ((0 : Int32).toNatClampNeg) = bv.toInt64 := fun z => by
    have hk0 : k0 = 0 := by
      rcases hc with ⟨h1, h2⟩ | ⟨h1, h2⟩ | ⟨h1, h2⟩
      · exact h1
      · rw [h2] at z; exact absurd z (by decide)
      · rw [h2] at z; exact absurd z (by decide)
    rw [if_pos hk0, hab z, sb_cl0]
    exact pk_uLs
  refine lv_aload_n hx hb dL_law_1557 rfl (lv_at hl 1 rfl) ?_
  refine lv_aload_n hx hb dL_law_1558 rfl (lv_at hl 0 rfl) ?_
  refine lv_iload hx hb dL_law_1559 (lv_at hl 4 rfl) ?_
  refine lv_iconst (v := 1) hx hb dL_law_1561 (by decide) ?_
  refine lv_iadd hx hb dL_law_1562 ?_
  refine k_sc C hw (j := i + 1) (nI_add i 1) (by omega) dL_law_1563 ?_
  refine lv_aload_n hx hb dL_law_1564 rfl (lv_at hl 3 rfl) ?_
  refine k_lw (rest := []) (As := [.ref (ad 0), .int (xs (i + 1)), .ref qo]) C (t_L_length C.2.2.2.2.2.1 hf hc) cw_L_length ml_L_226 hw rfl hl.1 rfl (Nat.le_of_ble_eq_true rfl) ⟨(Nat.le_of_ble_eq_true rfl), (Nat.le_of_ble_eq_true rfl)⟩ ⟨hcs, hss⟩ dL_law_1565 (fun H locs hw => ?_)
  refine lv_istore (lv' := [(5, .int c0), (0, .ref b), (1, .ref (ad 0)), (2, .ref (bd 0)), (3, .ref qo), (4, .int (nI i))]) hx hb dL_law_1568 hl (Nat.le_of_ble_eq_true rfl) rfl (fun ls hl => ?_)
  refine lv_aload_n hx hb dL_law_1570 rfl (lv_at hl 3 rfl) ?_
  refine lv_aload_n hx hb dL_law_1571 rfl (lv_at hl 1 rfl) ?_
  refine lv_iload hx hb dL_law_1572 (lv_at hl 5 rfl) ?_
  refine lv_iconst (v := 1) hx hb dL_law_1574 (by decide) ?_
  refine lv_iadd hx hb dL_law_1575 ?_
  refine k_sc C hw (j := i + 1) (nI_add i 1) (by omega) dL_law_1576 ?_
  refine k_lm (rest := []) (As := [.int (xs (i + 1))]) C (t_X7_length hm) cv_X7_length ml_L_228 hw rfl rfl rfl hl.1 rfl (Nat.le_of_ble_eq_true rfl) ⟨(Nat.le_of_ble_eq_true rfl), (Nat.le_of_ble_eq_true rfl)⟩ ⟨hcs, hss⟩ dL_law_1577 (fun H locs hw => ?_)
  refine lv_istore (lv' := [(6, .int bv), (5, .int c0), (0, .ref b), (1, .ref (ad 0)), (2, .ref (bd 0)), (3, .ref qo), (4, .int (nI i))]) hx hb dL_law_1580 hl (Nat.le_of_ble_eq_true rfl) rfl (fun ls hl => ?_)
  refine lv_aload_n hx hb dL_law_1582 rfl (lv_at hl 4 rfl) ?_
  refine k_lm (rest := []) (As := []) C (t_X7_thrown (n := 0) (rv := c0) (congrArg some hth)) cv_X7_thrown ml_L_155 hw rfl rfl rfl hl.1 rfl (Nat.le_of_ble_eq_true rfl) ⟨(Nat.le_of_ble_eq_true rfl), (Nat.le_of_ble_eq_true rfl)⟩ ⟨hcs, hss⟩ dL_law_1583 (fun H locs hw => ?_)
  refine lv_iload hx hb dL_law_1586 (lv_at hl 1 rfl) ?_
  refine lv_icmp_eq (tgt := 1593) hx hb dL_law_1588 rfl (fun c9 => ?_) (fun c9 => absurd rfl c9)
  refine lv_iload hx hb dL_law_1593 (lv_at hl 1 rfl) ?_
  refine lv_if_ne (tgt := 1610) hx hb dL_law_1595 rfl (fun c8 => ?_) (fun c8 => ?_)
  · refine lv_goto (tgt := 2739) hx hb dL_law_1610 rfl ?_
    exact kk _ H locs ls hw (lv_sub hl [2, 3, 4, 5, 6] rfl)
  · refine lv_aload_n hx hb dL_law_1598 rfl (lv_at hl 5 rfl) ?_
    refine lv_iconst (v := 0) hx hb dL_law_1599 (by decide) ?_
    refine k_lld C.1 hw 64 rfl (by decide) dL_law_1600 ?_
    rw [ho c8]
    refine lv_iload hx hb dL_law_1601 (lv_at hl 0 rfl) ?_
    refine lv_i2l hx hb dL_law_1603 rfl ?_
    refine W.lcmp hx hb dL_law_1604 ?_
    rw [lg_same]
    refine lv_if_eq (tgt := 1610) hx hb dL_law_1605 rfl (fun c7 => ?_) (fun c7 => absurd rfl c7)
    refine lv_goto (tgt := 2739) hx hb dL_law_1610 rfl ?_
    exact kk _ H locs ls hw (lv_sub hl [2, 3, 4, 5, 6] rfl)
set_option maxHeartbeats 4000000 in
set_option maxRecDepth 100000 in
theorem c_totalLength (C : LC p l s m c b L xs A) {i : Nat} (hi : i + 5 ≤ L) {n : Nat} {k0 : Nat} {rv c0 : Int32} (hf : f_X6_totalLength n x (xs (i + 1)) = some (k0, rv)) (hc : (k0 = 0 ∧ c0 = 0) ∨ (k0 = 3 ∧ c0 = 1) ∨ (k0 = 2 ∧ c0 = 2)) {n2 : Nat} {bv : Int32} {xm' : SX} (hm : f_X7_totalLength n2 xm (xs (i + 1)) = some (bv, xm')) (hth : xm'.1 0 0 = c0) (hab : c0 = 0 → rv = bv) (hw : Wd G (wL G ad qb cap x y bd xm qo o) A s H locs) (hl : lv_has ls 7 [(0, .ref b), (1, .ref (ad 0)), (2, .ref (bd 0)), (3, .ref qo), (4, .int (nI i))]) (hcs : cells + 2 ≤ 601024) (hss : slots + 12 ≤ 7293034) (kk : ∀ (o' : Nat → Int64) (H1 : Heap) (locs1 : List Loc) (ls1 : Array Slot), Wd G (wL G ad qb cap x y bd xm' qo o') A s H1 locs1 → lv_has ls1 7 [(0, .ref b), (1, .ref (ad 0)), (2, .ref (bd 0)), (3, .ref qo), (4, .int (nI i))] → W p l e room_1 s m #[Value.ref b] below meth c H1 locs1 (cells + 2) (slots + 12) Q (F0 m 2739 ls1 [])) : W p l e room_1 s m #[Value.ref b] below meth c H locs cells slots Q (F0 m 1613 ls []) := by
  have hx := C.1.1
  have hb := C.1.2.1
  have hL := C.2.2.2.2.1
  have ho : c0 = 0 → (if k0 = 0 then vp_updL o 0 rv.toInt64 else o) ((0 : Int32).toNatClampNeg) = bv.toInt64 := fun z => by
    have hk0 : k0 = 0 := by
      rcases hc with ⟨h1, h2⟩ | ⟨h1, h2⟩ | ⟨h1, h2⟩
      · exact h1
      · rw [h2] at z; exact absurd z (by decide)
      · rw [h2] at z; exact absurd z (by decide)
    rw [if_pos hk0, hab z, sb_cl0]
    exact pk_uLs
  refine lv_aload_n hx hb dL_law_1613 rfl (lv_at hl 1 rfl) ?_
  refine lv_aload_n hx hb dL_law_1614 rfl (lv_at hl 0 rfl) ?_
  refine lv_iload hx hb dL_law_1615 (lv_at hl 4 rfl) ?_
  refine lv_iconst (v := 1) hx hb dL_law_1617 (by decide) ?_
  refine lv_iadd hx hb dL_law_1618 ?_
  refine k_sc C hw (j := i + 1) (nI_add i 1) (by omega) dL_law_1619 ?_
  refine lv_aload_n hx hb dL_law_1620 rfl (lv_at hl 3 rfl) ?_
  refine k_lw (rest := []) (As := [.ref (ad 0), .int (xs (i + 1)), .ref qo]) C (t_L_totalLength C.2.2.2.2.2.1 hf hc) cw_L_totalLength ml_L_229 hw rfl hl.1 rfl (Nat.le_of_ble_eq_true rfl) ⟨(Nat.le_of_ble_eq_true rfl), (Nat.le_of_ble_eq_true rfl)⟩ ⟨hcs, hss⟩ dL_law_1621 (fun H locs hw => ?_)
  refine lv_istore (lv' := [(5, .int c0), (0, .ref b), (1, .ref (ad 0)), (2, .ref (bd 0)), (3, .ref qo), (4, .int (nI i))]) hx hb dL_law_1624 hl (Nat.le_of_ble_eq_true rfl) rfl (fun ls hl => ?_)
  refine lv_aload_n hx hb dL_law_1626 rfl (lv_at hl 3 rfl) ?_
  refine lv_aload_n hx hb dL_law_1627 rfl (lv_at hl 1 rfl) ?_
  refine lv_iload hx hb dL_law_1628 (lv_at hl 5 rfl) ?_
  refine lv_iconst (v := 1) hx hb dL_law_1630 (by decide) ?_
  refine lv_iadd hx hb dL_law_1631 ?_
  refine k_sc C hw (j := i + 1) (nI_add i 1) (by omega) dL_law_1632 ?_
  refine k_lm (rest := []) (As := [.int (xs (i + 1))]) C (t_X7_totalLength hm) cv_X7_totalLength ml_L_231 hw rfl rfl rfl hl.1 rfl (Nat.le_of_ble_eq_true rfl) ⟨(Nat.le_of_ble_eq_true rfl), (Nat.le_of_ble_eq_true rfl)⟩ ⟨hcs, hss⟩ dL_law_1633 (fun H locs hw => ?_)
  refine lv_istore (lv' := [(6, .int bv), (5, .int c0), (0, .ref b), (1, .ref (ad 0)), (2, .ref (bd 0)), (3, .ref qo), (4, .int (nI i))]) hx hb dL_law_1636 hl (Nat.le_of_ble_eq_true rfl) rfl (fun ls hl => ?_)
  refine lv_aload_n hx hb dL_law_1638 rfl (lv_at hl 4 rfl) ?_
  refine k_lm (rest := []) (As := []) C (t_X7_thrown (n := 0) (rv := c0) (congrArg some hth)) cv_X7_thrown ml_L_155 hw rfl rfl rfl hl.1 rfl (Nat.le_of_ble_eq_true rfl) ⟨(Nat.le_of_ble_eq_true rfl), (Nat.le_of_ble_eq_true rfl)⟩ ⟨hcs, hss⟩ dL_law_1639 (fun H locs hw => ?_)
  refine lv_iload hx hb dL_law_1642 (lv_at hl 1 rfl) ?_
  refine lv_icmp_eq (tgt := 1649) hx hb dL_law_1644 rfl (fun c9 => ?_) (fun c9 => absurd rfl c9)
  refine lv_iload hx hb dL_law_1649 (lv_at hl 1 rfl) ?_
  refine lv_if_ne (tgt := 1666) hx hb dL_law_1651 rfl (fun c8 => ?_) (fun c8 => ?_)
  · refine lv_goto (tgt := 2739) hx hb dL_law_1666 rfl ?_
    exact kk _ H locs ls hw (lv_sub hl [2, 3, 4, 5, 6] rfl)
  · refine lv_aload_n hx hb dL_law_1654 rfl (lv_at hl 5 rfl) ?_
    refine lv_iconst (v := 0) hx hb dL_law_1655 (by decide) ?_
    refine k_lld C.1 hw 64 rfl (by decide) dL_law_1656 ?_
    rw [ho c8]
    refine lv_iload hx hb dL_law_1657 (lv_at hl 0 rfl) ?_
    refine lv_i2l hx hb dL_law_1659 rfl ?_
    refine W.lcmp hx hb dL_law_1660 ?_
    rw [lg_same]
    refine lv_if_eq (tgt := 1666) hx hb dL_law_1661 rfl (fun c7 => ?_) (fun c7 => absurd rfl c7)
    refine lv_goto (tgt := 2739) hx hb dL_law_1666 rfl ?_
    exact kk _ H locs ls hw (lv_sub hl [2, 3, 4, 5, 6] rfl)
set_option maxHeartbeats 4000000 in
set_option maxRecDepth 100000 in
theorem c_custodialPart (C : LC p l s m c b L xs A) {i : Nat} (hi : i + 5 ≤ L) {n : Nat} {k0 : Nat} {rv c0 : Int32} (hf : f_X6_custodialPart n x (xs (i + 1)) = some (k0, rv)) (hc : (k0 = 0 ∧ c0 = 0) ∨ (k0 = 3 ∧ c0 = 1) ∨ (k0 = 2 ∧ c0 = 2)) {n2 : Nat} {bv : Int32} {xm' : SX} (hm : f_X7_custodialPart n2 xm (xs (i + 1)) = some (bv, xm')) (hth : xm'.1 0 0 = c0) (hab : c0 = 0 → rv = bv) (hw : Wd G (wL G ad qb cap x y bd xm qo o) A s H locs) (hl : lv_has ls 7 [(0, .ref b), (1, .ref (ad 0)), (2, .ref (bd 0)), (3, .ref qo), (4, .int (nI i))]) (hcs : cells + 2 ≤ 601024) (hss : slots + 12 ≤ 7293034) (kk : ∀ (o' : Nat → Int64) (H1 : Heap) (locs1 : List Loc) (ls1 : Array Slot), Wd G (wL G ad qb cap x y bd xm' qo o') A s H1 locs1 → lv_has ls1 7 [(0, .ref b), (1, .ref (ad 0)), (2, .ref (bd 0)), (3, .ref qo), (4, .int (nI i))] → W p l e room_1 s m #[Value.ref b] below meth c H1 locs1 (cells + 2) (slots + 12) Q (F0 m 2739 ls1 [])) : W p l e room_1 s m #[Value.ref b] below meth c H locs cells slots Q (F0 m 1669 ls []) := by
  have hx := C.1.1
  have hb := C.1.2.1
  have hL := C.2.2.2.2.1
  have ho : c0 = 0 → (if k0 = 0 then vp_updL o 0 rv.toInt64 else o) ((0 : Int32).toNatClampNeg) = bv.toInt64 := fun z => by
    have hk0 : k0 = 0 := by
      rcases hc with ⟨h1, h2⟩ | ⟨h1, h2⟩ | ⟨h1, h2⟩
      · exact h1
      · rw [h2] at z; exact absurd z (by decide)
      · rw [h2] at z; exact absurd z (by decide)
    rw [if_pos hk0, hab z, sb_cl0]
    exact pk_uLs
  refine lv_aload_n hx hb dL_law_1669 rfl (lv_at hl 1 rfl) ?_
  refine lv_aload_n hx hb dL_law_1670 rfl (lv_at hl 0 rfl) ?_
  refine lv_iload hx hb dL_law_1671 (lv_at hl 4 rfl) ?_
  refine lv_iconst (v := 1) hx hb dL_law_1673 (by decide) ?_
  refine lv_iadd hx hb dL_law_1674 ?_
  refine k_sc C hw (j := i + 1) (nI_add i 1) (by omega) dL_law_1675 ?_
  refine lv_aload_n hx hb dL_law_1676 rfl (lv_at hl 3 rfl) ?_
  refine k_lw (rest := []) (As := [.ref (ad 0), .int (xs (i + 1)), .ref qo]) C (t_L_custodialPart C.2.2.2.2.2.1 hf hc) cw_L_custodialPart ml_L_232 hw rfl hl.1 rfl (Nat.le_of_ble_eq_true rfl) ⟨(Nat.le_of_ble_eq_true rfl), (Nat.le_of_ble_eq_true rfl)⟩ ⟨hcs, hss⟩ dL_law_1677 (fun H locs hw => ?_)
  refine lv_istore (lv' := [(5, .int c0), (0, .ref b), (1, .ref (ad 0)), (2, .ref (bd 0)), (3, .ref qo), (4, .int (nI i))]) hx hb dL_law_1680 hl (Nat.le_of_ble_eq_true rfl) rfl (fun ls hl => ?_)
  refine lv_aload_n hx hb dL_law_1682 rfl (lv_at hl 3 rfl) ?_
  refine lv_aload_n hx hb dL_law_1683 rfl (lv_at hl 1 rfl) ?_
  refine lv_iload hx hb dL_law_1684 (lv_at hl 5 rfl) ?_
  refine lv_iconst (v := 1) hx hb dL_law_1686 (by decide) ?_
  refine lv_iadd hx hb dL_law_1687 ?_
  refine k_sc C hw (j := i + 1) (nI_add i 1) (by omega) dL_law_1688 ?_
  refine k_lm (rest := []) (As := [.int (xs (i + 1))]) C (t_X7_custodialPart hm) cv_X7_custodialPart ml_L_234 hw rfl rfl rfl hl.1 rfl (Nat.le_of_ble_eq_true rfl) ⟨(Nat.le_of_ble_eq_true rfl), (Nat.le_of_ble_eq_true rfl)⟩ ⟨hcs, hss⟩ dL_law_1689 (fun H locs hw => ?_)
  refine lv_istore (lv' := [(6, .int bv), (5, .int c0), (0, .ref b), (1, .ref (ad 0)), (2, .ref (bd 0)), (3, .ref qo), (4, .int (nI i))]) hx hb dL_law_1692 hl (Nat.le_of_ble_eq_true rfl) rfl (fun ls hl => ?_)
  refine lv_aload_n hx hb dL_law_1694 rfl (lv_at hl 4 rfl) ?_
  refine k_lm (rest := []) (As := []) C (t_X7_thrown (n := 0) (rv := c0) (congrArg some hth)) cv_X7_thrown ml_L_155 hw rfl rfl rfl hl.1 rfl (Nat.le_of_ble_eq_true rfl) ⟨(Nat.le_of_ble_eq_true rfl), (Nat.le_of_ble_eq_true rfl)⟩ ⟨hcs, hss⟩ dL_law_1695 (fun H locs hw => ?_)
  refine lv_iload hx hb dL_law_1698 (lv_at hl 1 rfl) ?_
  refine lv_icmp_eq (tgt := 1705) hx hb dL_law_1700 rfl (fun c9 => ?_) (fun c9 => absurd rfl c9)
  refine lv_iload hx hb dL_law_1705 (lv_at hl 1 rfl) ?_
  refine lv_if_ne (tgt := 1722) hx hb dL_law_1707 rfl (fun c8 => ?_) (fun c8 => ?_)
  · refine lv_goto (tgt := 2739) hx hb dL_law_1722 rfl ?_
    exact kk _ H locs ls hw (lv_sub hl [2, 3, 4, 5, 6] rfl)
  · refine lv_aload_n hx hb dL_law_1710 rfl (lv_at hl 5 rfl) ?_
    refine lv_iconst (v := 0) hx hb dL_law_1711 (by decide) ?_
    refine k_lld C.1 hw 64 rfl (by decide) dL_law_1712 ?_
    rw [ho c8]
    refine lv_iload hx hb dL_law_1713 (lv_at hl 0 rfl) ?_
    refine lv_i2l hx hb dL_law_1715 rfl ?_
    refine W.lcmp hx hb dL_law_1716 ?_
    rw [lg_same]
    refine lv_if_eq (tgt := 1722) hx hb dL_law_1717 rfl (fun c7 => ?_) (fun c7 => absurd rfl c7)
    refine lv_goto (tgt := 2739) hx hb dL_law_1722 rfl ?_
    exact kk _ H locs ls hw (lv_sub hl [2, 3, 4, 5, 6] rfl)
end LAW
