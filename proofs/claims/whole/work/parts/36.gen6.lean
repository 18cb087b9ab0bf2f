def f_X7_creditByMerging (n : Nat) (x : SX) (a1 : Int32) : Option (Int32 × SX) := (qbd2 (f_X7_credit n x a1) fun r1 x2 => some (r1, x2))
set_option maxHeartbeats 4000000 in
set_option maxRecDepth 100000 in
theorem t_X7_creditByMerging {G : gG} {l : Launch} {ad : Nat → Nat} {n : Nat} {x : SX} {a1 : Int32} {rv : Int32} {xr : SX} (hf : f_X7_creditByMerging n x a1 = some (rv, xr)) : MetI G l yX7_creditByMerging cX7_creditByMerging 2 (some .int) 4 0 0 85 [.ref (ad 0), .int a1] (wM G ad x) (wM G ad xr) rv := by
  refine k_ofI (by decide) (Nat.le_of_ble_eq_true rfl) ?_
  intro p e s m args below meth c ls A F hr hlk hl hw
  have hx := F.1
  have hb := F.2.1
  have hl : lv_has ls 2 [(0, .ref (ad 0)), (1, .int a1)] := hl
  unfold f_X7_creditByMerging at hf
  refine lv_aload_n hx hb dX7_creditByMerging_0 rfl (lv_at hl 0 rfl) ?_
  refine lv_iload_n hx hb dX7_creditByMerging_1 rfl (lv_at hl 1 rfl) ?_
  obtain ⟨r1, x2, h3, hf⟩ := qbd2_e hf
  refine k_callVi' (rest := []) (As := [.int a1]) F ws_in (t_X7_credit h3) cv_X7_credit ml_X7_248 hw 0 rfl rfl rfl hl.1 rfl (Nat.le_of_ble_eq_true rfl) ⟨Nat.le_of_ble_eq_true rfl, Nat.le_of_ble_eq_true rfl⟩ ⟨Nat.le_of_ble_eq_true rfl, Nat.le_of_ble_eq_true rfl⟩ dX7_creditByMerging_2 (fun H locs hw => ?_)
  obtain ⟨rfl, rfl⟩ := q_s2 hf
  exact k_iret F hr hlk hw (Nat.le_of_ble_eq_true rfl) (Nat.le_of_ble_eq_true rfl) dX7_creditByMerging_5
def f_X7_addedDays (n : Nat) (x : SX) (a1 : Int32) : Option (Int32 × SX) := (qbd2 (f_X7_failsFor n x a1) fun r1 x2 => (qbd (if r1 = 0 then (qgd (qin a1 10) (some (x2.1 47 a1.toNatClampNeg))) else some (0 : Int32)) fun v4 => some (v4, x2)))
set_option maxHeartbeats 4000000 in
set_option maxRecDepth 100000 in
theorem t_X7_addedDays {G : gG} {l : Launch} {ad : Nat → Nat} {n : Nat} {x : SX} {a1 : Int32} {rv : Int32} {xr : SX} (hf : f_X7_addedDays n x a1 = some (rv, xr)) : MetI G l yX7_addedDays cX7_addedDays 2 (some .int) 3 0 0 64 [.ref (ad 0), .int a1] (wM G ad x) (wM G ad xr) rv := by
  refine k_ofI (by decide) (Nat.le_of_ble_eq_true rfl) ?_
  intro p e s m args below meth c ls A F hr hlk hl hw
  have hx := F.1
  have hb := F.2.1
  have hl : lv_has ls 2 [(0, .ref (ad 0)), (1, .int a1)] := hl
  unfold f_X7_addedDays at hf
  refine lv_aload_n hx hb dX7_addedDays_0 rfl (lv_at hl 0 rfl) ?_
  refine lv_iload_n hx hb dX7_addedDays_1 rfl (lv_at hl 1 rfl) ?_
  obtain ⟨r1, x2, h3, hf⟩ := qbd2_e hf
  refine k_callVi' (rest := []) (As := [.int a1]) F ws_in (t_X7_failsFor h3) cv_X7_failsFor ml_X7_242 hw 0 rfl rfl rfl hl.1 rfl (Nat.le_of_ble_eq_true rfl) ⟨Nat.le_of_ble_eq_true rfl, Nat.le_of_ble_eq_true rfl⟩ ⟨Nat.le_of_ble_eq_true rfl, Nat.le_of_ble_eq_true rfl⟩ dX7_addedDays_2 (fun H locs hw => ?_)
  obtain ⟨v4, hq8, hf⟩ := qbd_e hf
  have J5 : ∀ (H : Heap) (locs : List Loc) (ls : Array Slot), Wd G (wM G ad x2) A s H locs → lv_has ls 2 [] → W p l e (rmk 3 0 0 64) s m args below meth c H locs 0 0 (KQI G below args s A (wM G ad xr) rv 0 0) (F0 m 18 ls [.int v4]) := by
    intro H locs ls hw hl
    obtain ⟨rfl, rfl⟩ := q_s2 hf
    exact k_iret F hr hlk hw (Nat.le_of_ble_eq_true rfl) (Nat.le_of_ble_eq_true rfl) dX7_addedDays_18
  have hf := hq8
  refine lv_if_eq (tgt := 12) hx hb dX7_addedDays_5 rfl (fun c6 => ?_) (fun c6 => ?_)
  · have hf := q_t c6 hf
    refine lv_aload_n hx hb dX7_addedDays_12 rfl (lv_at hl 0 rfl) ?_
    refine M_g_0_37 F ws_in hw fl_X7_78 dX7_addedDays_13 ?_
    refine lv_iload_n hx hb dX7_addedDays_16 rfl (lv_at hl 1 rfl) ?_
    obtain ⟨g7, hf⟩ := qgd_e hf
    refine M_l_47 F hw g7 dX7_addedDays_17 ?_
    obtain rfl := q_s hf
    exact J5 _ _ _ hw (lv_sub hl [] rfl)
  · have hf := q_f c6 hf
    refine lv_iconst (v := 0) hx hb dX7_addedDays_8 (by decide) ?_
    refine lv_goto (tgt := 18) hx hb dX7_addedDays_9 rfl ?_
    obtain rfl := q_s hf
    exact J5 _ _ _ hw (lv_sub hl [] rfl)
def f_X7_releaseDay (n : Nat) (x : SX) (a1 : Int32) : Option (Int32 × SX) := (qbd2 (f_X7_failsFor n x a1) fun r1 x2 => (qbd (if r1 = 0 then (qgd (qin a1 10) (some (x2.1 48 a1.toNatClampNeg))) else some (0 : Int32)) fun v4 => some (v4, x2)))
set_option maxHeartbeats 4000000 in
set_option maxRecDepth 100000 in
theorem t_X7_releaseDay {G : gG} {l : Launch} {ad : Nat → Nat} {n : Nat} {x : SX} {a1 : Int32} {rv : Int32} {xr : SX} (hf : f_X7_releaseDay n x a1 = some (rv, xr)) : MetI G l yX7_releaseDay cX7_releaseDay 2 (some .int) 3 0 0 64 [.ref (ad 0), .int a1] (wM G ad x) (wM G ad xr) rv := by
  refine k_ofI (by decide) (Nat.le_of_ble_eq_true rfl) ?_
  intro p e s m args below meth c ls A F hr hlk hl hw
  have hx := F.1
  have hb := F.2.1
  have hl : lv_has ls 2 [(0, .ref (ad 0)), (1, .int a1)] := hl
  unfold f_X7_releaseDay at hf
  refine lv_aload_n hx hb dX7_releaseDay_0 rfl (lv_at hl 0 rfl) ?_
  refine lv_iload_n hx hb dX7_releaseDay_1 rfl (lv_at hl 1 rfl) ?_
  obtain ⟨r1, x2, h3, hf⟩ := qbd2_e hf
  refine k_callVi' (rest := []) (As := [.int a1]) F ws_in (t_X7_failsFor h3) cv_X7_failsFor ml_X7_242 hw 0 rfl rfl rfl hl.1 rfl (Nat.le_of_ble_eq_true rfl) ⟨Nat.le_of_ble_eq_true rfl, Nat.le_of_ble_eq_true rfl⟩ ⟨Nat.le_of_ble_eq_true rfl, Nat.le_of_ble_eq_true rfl⟩ dX7_releaseDay_2 (fun H locs hw => ?_)
  obtain ⟨v4, hq8, hf⟩ := qbd_e hf
  have J5 : ∀ (H : Heap) (locs : List Loc) (ls : Array Slot), Wd G (wM G ad x2) A s H locs → lv_has ls 2 [] → W p l e (rmk 3 0 0 64) s m args below meth c H locs 0 0 (KQI G below args s A (wM G ad xr) rv 0 0) (F0 m 18 ls [.int v4]) := by
    intro H locs ls hw hl
    obtain ⟨rfl, rfl⟩ := q_s2 hf
    exact k_iret F hr hlk hw (Nat.le_of_ble_eq_true rfl) (Nat.le_of_ble_eq_true rfl) dX7_releaseDay_18
  have hf := hq8
  refine lv_if_eq (tgt := 12) hx hb dX7_releaseDay_5 rfl (fun c6 => ?_) (fun c6 => ?_)
  · have hf := q_t c6 hf
    refine lv_aload_n hx hb dX7_releaseDay_12 rfl (lv_at hl 0 rfl) ?_
    refine M_g_0_38 F ws_in hw fl_X7_81 dX7_releaseDay_13 ?_
    refine lv_iload_n hx hb dX7_releaseDay_16 rfl (lv_at hl 1 rfl) ?_
    obtain ⟨g7, hf⟩ := qgd_e hf
    refine M_l_48 F hw g7 dX7_releaseDay_17 ?_
    obtain rfl := q_s hf
    exact J5 _ _ _ hw (lv_sub hl [] rfl)
  · have hf := q_f c6 hf
    refine lv_iconst (v := 0) hx hb dX7_releaseDay_8 (by decide) ?_
    refine lv_goto (tgt := 18) hx hb dX7_releaseDay_9 rfl ?_
    obtain rfl := q_s hf
    exact J5 _ _ _ hw (lv_sub hl [] rfl)
def f_X7_releaseDayByServing (n : Nat) (x : SX) (a1 : Int32) : Option (Int32 × SX) := (qbd2 (f_X7_releaseDay n x a1) fun r1 x2 => some (r1, x2))
set_option maxHeartbeats 4000000 in
set_option maxRecDepth 100000 in
theorem t_X7_releaseDayByServing {G : gG} {l : Launch} {ad : Nat → Nat} {n : Nat} {x : SX} {a1 : Int32} {rv : Int32} {xr : SX} (hf : f_X7_releaseDayByServing n x a1 = some (rv, xr)) : MetI G l yX7_releaseDayByServing cX7_releaseDayByServing 2 (some .int) 4 0 0 85 [.ref (ad 0), .int a1] (wM G ad x) (wM G ad xr) rv := by
  refine k_ofI (by decide) (Nat.le_of_ble_eq_true rfl) ?_
  intro p e s m args below meth c ls A F hr hlk hl hw
  have hx := F.1
  have hb := F.2.1
  have hl : lv_has ls 2 [(0, .ref (ad 0)), (1, .int a1)] := hl
  unfold f_X7_releaseDayByServing at hf
  refine lv_aload_n hx hb dX7_releaseDayByServing_0 rfl (lv_at hl 0 rfl) ?_
  refine lv_iload_n hx hb dX7_releaseDayByServing_1 rfl (lv_at hl 1 rfl) ?_
  obtain ⟨r1, x2, h3, hf⟩ := qbd2_e hf
  refine k_callVi' (rest := []) (As := [.int a1]) F ws_in (t_X7_releaseDay h3) cv_X7_releaseDay ml_X7_251 hw 0 rfl rfl rfl hl.1 rfl (Nat.le_of_ble_eq_true rfl) ⟨Nat.le_of_ble_eq_true rfl, Nat.le_of_ble_eq_true rfl⟩ ⟨Nat.le_of_ble_eq_true rfl, Nat.le_of_ble_eq_true rfl⟩ dX7_releaseDayByServing_2 (fun H locs hw => ?_)
  obtain ⟨rfl, rfl⟩ := q_s2 hf
  exact k_iret F hr hlk hw (Nat.le_of_ble_eq_true rfl) (Nat.le_of_ble_eq_true rfl) dX7_releaseDayByServing_5
def f_X7_endDay (n : Nat) (x : SX) (a1 : Int32) : Option (Int32 × SX) := (qbd2 (f_X7_failsFor n x a1) fun r1 x2 => (qbd (if r1 = 0 then (qgd (qin a1 10) (some (x2.1 49 a1.toNatClampNeg))) else some (0 : Int32)) fun v4 => some (v4, x2)))
set_option maxHeartbeats 4000000 in
set_option maxRecDepth 100000 in
theorem t_X7_endDay {G : gG} {l : Launch} {ad : Nat → Nat} {n : Nat} {x : SX} {a1 : Int32} {rv : Int32} {xr : SX} (hf : f_X7_endDay n x a1 = some (rv, xr)) : MetI G l yX7_endDay cX7_endDay 2 (some .int) 3 0 0 64 [.ref (ad 0), .int a1] (wM G ad x) (wM G ad xr) rv := by
  refine k_ofI (by decide) (Nat.le_of_ble_eq_true rfl) ?_
  intro p e s m args below meth c ls A F hr hlk hl hw
  have hx := F.1
  have hb := F.2.1
  have hl : lv_has ls 2 [(0, .ref (ad 0)), (1, .int a1)] := hl
  unfold f_X7_endDay at hf
  refine lv_aload_n hx hb dX7_endDay_0 rfl (lv_at hl 0 rfl) ?_
  refine lv_iload_n hx hb dX7_endDay_1 rfl (lv_at hl 1 rfl) ?_
  obtain ⟨r1, x2, h3, hf⟩ := qbd2_e hf
  refine k_callVi' (rest := []) (As := [.int a1]) F ws_in (t_X7_failsFor h3) cv_X7_failsFor ml_X7_242 hw 0 rfl rfl rfl hl.1 rfl (Nat.le_of_ble_eq_true rfl) ⟨Nat.le_of_ble_eq_true rfl, Nat.le_of_ble_eq_true rfl⟩ ⟨Nat.le_of_ble_eq_true rfl, Nat.le_of_ble_eq_true rfl⟩ dX7_endDay_2 (fun H locs hw => ?_)
  obtain ⟨v4, hq8, hf⟩ := qbd_e hf
  have J5 : ∀ (H : Heap) (locs : List Loc) (ls : Array Slot), Wd G (wM G ad x2) A s H locs → lv_has ls 2 [] → W p l e (rmk 3 0 0 64) s m args below meth c H locs 0 0 (KQI G below args s A (wM G ad xr) rv 0 0) (F0 m 18 ls [.int v4]) := by
    intro H locs ls hw hl
    obtain ⟨rfl, rfl⟩ := q_s2 hf
    exact k_iret F hr hlk hw (Nat.le_of_ble_eq_true rfl) (Nat.le_of_ble_eq_true rfl) dX7_endDay_18
  have hf := hq8
  refine lv_if_eq (tgt := 12) hx hb dX7_endDay_5 rfl (fun c6 => ?_) (fun c6 => ?_)
  · have hf := q_t c6 hf
    refine lv_aload_n hx hb dX7_endDay_12 rfl (lv_at hl 0 rfl) ?_
    refine M_g_0_39 F ws_in hw fl_X7_84 dX7_endDay_13 ?_
    refine lv_iload_n hx hb dX7_endDay_16 rfl (lv_at hl 1 rfl) ?_
    obtain ⟨g7, hf⟩ := qgd_e hf
    refine M_l_49 F hw g7 dX7_endDay_17 ?_
    obtain rfl := q_s hf
    exact J5 _ _ _ hw (lv_sub hl [] rfl)
  · have hf := q_f c6 hf
    refine lv_iconst (v := 0) hx hb dX7_endDay_8 (by decide) ?_
    refine lv_goto (tgt := 18) hx hb dX7_endDay_9 rfl ?_
    obtain rfl := q_s hf
    exact J5 _ _ _ hw (lv_sub hl [] rfl)
def f_X7_status (n : Nat) (x : SX) : Option (Int32 × SX) := (qnm (si x 0 0 (0 : Int32)) fun x1 => (qbd (f_X7_statusNow n x1) fun r2 => some (r2, x1)))
set_option maxHeartbeats 4000000 in
set_option maxRecDepth 100000 in
theorem t_X7_status {G : gG} {l : Launch} {ad : Nat → Nat} {n : Nat} {x : SX} {rv : Int32} {xr : SX} (hf : f_X7_status n x = some (rv, xr)) : MetI G l yX7_status cX7_status 1 (some .int) 3 0 0 64 [.ref (ad 0)] (wM G ad x) (wM G ad xr) rv := by
  refine k_ofI (by decide) (Nat.le_of_ble_eq_true rfl) ?_
  intro p e s m args below meth c ls A F hr hlk hl hw
  have hx := F.1
  have hb := F.2.1
  have hl : lv_has ls 1 [(0, .ref (ad 0))] := hl
  unfold f_X7_status at hf
  refine lv_aload_n hx hb dX7_status_0 rfl (lv_at hl 0 rfl) ?_
  refine lv_iconst (v := 0) hx hb dX7_status_1 (by decide) ?_
  refine M_p_0_0 F ws_in hw fl_X7_93 dX7_status_2 (fun x1 ex1 H locs hw => ?_)
  have hf := qnm_k ex1 hf
  refine lv_aload_n hx hb dX7_status_5 rfl (lv_at hl 0 rfl) ?_
  obtain ⟨r2, h3, hf⟩ := qbd_e hf
  refine k_callVi' (rest := []) (As := []) F ws_in (t_X7_statusNow h3) cv_X7_statusNow ml_X7_234 hw 0 rfl rfl rfl hl.1 rfl (Nat.le_of_ble_eq_true rfl) ⟨Nat.le_of_ble_eq_true rfl, Nat.le_of_ble_eq_true rfl⟩ ⟨Nat.le_of_ble_eq_true rfl, Nat.le_of_ble_eq_true rfl⟩ dX7_status_6 (fun H locs hw => ?_)
  obtain ⟨rfl, rfl⟩ := q_s2 hf
  exact k_iret F hr hlk hw (Nat.le_of_ble_eq_true rfl) (Nat.le_of_ble_eq_true rfl) dX7_status_9
def f_X7_lastRelease (n : Nat) (x : SX) : Option (Int32 × SX) := (qbd (f_X7_isAny n x) fun r1 => (qbd (if r1 = 0 then some (1 : Int32) else some (0 : Int32)) fun v3 => (qbd2 (f_X7_fails n x v3) fun r5 x6 => (qbd (if r5 = 0 then (qbd (f_X7_releaseOfAll n x6) fun r11 => some r11) else some (0 : Int32)) fun v8 => some (v8, x6)))))
set_option maxHeartbeats 4000000 in
set_option maxRecDepth 100000 in
theorem t_X7_lastRelease {G : gG} {l : Launch} {ad : Nat → Nat} {n : Nat} {x : SX} {rv : Int32} {xr : SX} (hf : f_X7_lastRelease n x = some (rv, xr)) : MetI G l yX7_lastRelease cX7_lastRelease 1 (some .int) 2 0 0 44 [.ref (ad 0)] (wM G ad x) (wM G ad xr) rv := by
  refine k_ofI (by decide) (Nat.le_of_ble_eq_true rfl) ?_
  intro p e s m args below meth c ls A F hr hlk hl hw
  have hx := F.1
  have hb := F.2.1
  have hl : lv_has ls 1 [(0, .ref (ad 0))] := hl
  unfold f_X7_lastRelease at hf
  refine lv_aload_n hx hb dX7_lastRelease_0 rfl (lv_at hl 0 rfl) ?_
  refine lv_aload_n hx hb dX7_lastRelease_1 rfl (lv_at hl 0 rfl) ?_
  obtain ⟨r1, h2, hf⟩ := qbd_e hf
  refine k_callVi' (rest := [.ref (ad 0)]) (As := []) F ws_in (t_X7_isAny h2) cv_X7_isAny ml_X7_254 hw 0 rfl rfl rfl hl.1 rfl (Nat.le_of_ble_eq_true rfl) ⟨Nat.le_of_ble_eq_true rfl, Nat.le_of_ble_eq_true rfl⟩ ⟨Nat.le_of_ble_eq_true rfl, Nat.le_of_ble_eq_true rfl⟩ dX7_lastRelease_2 (fun H locs hw => ?_)
  obtain ⟨v3, hq15, hf⟩ := qbd_e hf
  have J4 : ∀ (H : Heap) (locs : List Loc) (ls : Array Slot), Wd G (wM G ad x) A s H locs → lv_has ls 1 [(0, .ref (ad 0))] → W p l e (rmk 2 0 0 44) s m args below meth c H locs 0 0 (KQI G below args s A (wM G ad xr) rv 0 0) (F0 m 13 ls [.int v3, .ref (ad 0)]) := by
    intro H locs ls hw hl
    obtain ⟨r5, x6, h7, hf⟩ := qbd2_e hf
    refine k_callVi' (rest := []) (As := [.int v3]) F ws_in (t_X7_fails h7) cv_X7_fails ml_X7_126 hw 0 rfl rfl rfl hl.1 rfl (Nat.le_of_ble_eq_true rfl) ⟨Nat.le_of_ble_eq_true rfl, Nat.le_of_ble_eq_true rfl⟩ ⟨Nat.le_of_ble_eq_true rfl, Nat.le_of_ble_eq_true rfl⟩ dX7_lastRelease_13 (fun H locs hw => ?_)
    obtain ⟨v8, hq13, hf⟩ := qbd_e hf
    have J9 : ∀ (H : Heap) (locs : List Loc) (ls : Array Slot), Wd G (wM G ad x6) A s H locs → lv_has ls 1 [] → W p l e (rmk 2 0 0 44) s m args below meth c H locs 0 0 (KQI G below args s A (wM G ad xr) rv 0 0) (F0 m 27 ls [.int v8]) := by
      intro H locs ls hw hl
      obtain ⟨rfl, rfl⟩ := q_s2 hf
      exact k_iret F hr hlk hw (Nat.le_of_ble_eq_true rfl) (Nat.le_of_ble_eq_true rfl) dX7_lastRelease_27
    have hf := hq13
    refine lv_if_eq (tgt := 23) hx hb dX7_lastRelease_16 rfl (fun c10 => ?_) (fun c10 => ?_)
    · have hf := q_t c10 hf
      refine lv_aload_n hx hb dX7_lastRelease_23 rfl (lv_at hl 0 rfl) ?_
      obtain ⟨r11, h12, hf⟩ := qbd_e hf
      refine k_callVi' (rest := []) (As := []) F ws_in (t_X7_releaseOfAll h12) cv_X7_releaseOfAll ml_X7_190 hw 0 rfl rfl rfl hl.1 rfl (Nat.le_of_ble_eq_true rfl) ⟨Nat.le_of_ble_eq_true rfl, Nat.le_of_ble_eq_true rfl⟩ ⟨Nat.le_of_ble_eq_true rfl, Nat.le_of_ble_eq_true rfl⟩ dX7_lastRelease_24 (fun H locs hw => ?_)
      obtain rfl := q_s hf
      exact J9 _ _ _ hw (lv_sub hl [] rfl)
    · have hf := q_f c10 hf
      refine lv_iconst (v := 0) hx hb dX7_lastRelease_19 (by decide) ?_
      refine lv_goto (tgt := 27) hx hb dX7_lastRelease_20 rfl ?_
      obtain rfl := q_s hf
      exact J9 _ _ _ hw (lv_sub hl [] rfl)
  have hf := hq15
  refine lv_if_eq (tgt := 12) hx hb dX7_lastRelease_5 rfl (fun c14 => ?_) (fun c14 => ?_)
  · have hf := q_t c14 hf
    refine lv_iconst (v := 1) hx hb dX7_lastRelease_12 (by decide) ?_
    obtain rfl := q_s hf
    exact J4 _ _ _ hw (lv_sub hl [0] rfl)
  · have hf := q_f c14 hf
    refine lv_iconst (v := 0) hx hb dX7_lastRelease_8 (by decide) ?_
    refine lv_goto (tgt := 13) hx hb dX7_lastRelease_9 rfl ?_
    obtain rfl := q_s hf
    exact J4 _ _ _ hw (lv_sub hl [0] rfl)
def f_X7_lastEnd (n : Nat) (x : SX) : Option (Int32 × SX) := (qbd (f_X7_isAny n x) fun r1 => (qbd (if r1 = 0 then some (1 : Int32) else some (0 : Int32)) fun v3 => (qbd2 (f_X7_fails n x v3) fun r5 x6 => (qbd (if r5 = 0 then (qbd (f_X7_endOfAll n x6) fun r11 => some r11) else some (0 : Int32)) fun v8 => some (v8, x6)))))
set_option maxHeartbeats 4000000 in
set_option maxRecDepth 100000 in
theorem t_X7_lastEnd {G : gG} {l : Launch} {ad : Nat → Nat} {n : Nat} {x : SX} {rv : Int32} {xr : SX} (hf : f_X7_lastEnd n x = some (rv, xr)) : MetI G l yX7_lastEnd cX7_lastEnd 1 (some .int) 2 0 0 44 [.ref (ad 0)] (wM G ad x) (wM G ad xr) rv := by
  refine k_ofI (by decide) (Nat.le_of_ble_eq_true rfl) ?_
  intro p e s m args below meth c ls A F hr hlk hl hw
  have hx := F.1
  have hb := F.2.1
  have hl : lv_has ls 1 [(0, .ref (ad 0))] := hl
  unfold f_X7_lastEnd at hf
  refine lv_aload_n hx hb dX7_lastEnd_0 rfl (lv_at hl 0 rfl) ?_
  refine lv_aload_n hx hb dX7_lastEnd_1 rfl (lv_at hl 0 rfl) ?_
  obtain ⟨r1, h2, hf⟩ := qbd_e hf
  refine k_callVi' (rest := [.ref (ad 0)]) (As := []) F ws_in (t_X7_isAny h2) cv_X7_isAny ml_X7_254 hw 0 rfl rfl rfl hl.1 rfl (Nat.le_of_ble_eq_true rfl) ⟨Nat.le_of_ble_eq_true rfl, Nat.le_of_ble_eq_true rfl⟩ ⟨Nat.le_of_ble_eq_true rfl, Nat.le_of_ble_eq_true rfl⟩ dX7_lastEnd_2 (fun H locs hw => ?_)
  obtain ⟨v3, hq15, hf⟩ := qbd_e hf
  have J4 : ∀ (H : Heap) (locs : List Loc) (ls : Array Slot), Wd G (wM G ad x) A s H locs → lv_has ls 1 [(0, .ref (ad 0))] → W p l e (rmk 2 0 0 44) s m args below meth c H locs 0 0 (KQI G below args s A (wM G ad xr) rv 0 0) (F0 m 13 ls [.int v3, .ref (ad 0)]) := by
    intro H locs ls hw hl
    obtain ⟨r5, x6, h7, hf⟩ := qbd2_e hf
    refine k_callVi' (rest := []) (As := [.int v3]) F ws_in (t_X7_fails h7) cv_X7_fails ml_X7_126 hw 0 rfl rfl rfl hl.1 rfl (Nat.le_of_ble_eq_true rfl) ⟨Nat.le_of_ble_eq_true rfl, Nat.le_of_ble_eq_true rfl⟩ ⟨Nat.le_of_ble_eq_true rfl, Nat.le_of_ble_eq_true rfl⟩ dX7_lastEnd_13 (fun H locs hw => ?_)
    obtain ⟨v8, hq13, hf⟩ := qbd_e hf
    have J9 : ∀ (H : Heap) (locs : List Loc) (ls : Array Slot), Wd G (wM G ad x6) A s H locs → lv_has ls 1 [] → W p l e (rmk 2 0 0 44) s m args below meth c H locs 0 0 (KQI G below args s A (wM G ad xr) rv 0 0) (F0 m 27 ls [.int v8]) := by
      intro H locs ls hw hl
      obtain ⟨rfl, rfl⟩ := q_s2 hf
      exact k_iret F hr hlk hw (Nat.le_of_ble_eq_true rfl) (Nat.le_of_ble_eq_true rfl) dX7_lastEnd_27
    have hf := hq13
    refine lv_if_eq (tgt := 23) hx hb dX7_lastEnd_16 rfl (fun c10 => ?_) (fun c10 => ?_)
    · have hf := q_t c10 hf
      refine lv_aload_n hx hb dX7_lastEnd_23 rfl (lv_at hl 0 rfl) ?_
      obtain ⟨r11, h12, hf⟩ := qbd_e hf
      refine k_callVi' (rest := []) (As := []) F ws_in (t_X7_endOfAll h12) cv_X7_endOfAll ml_X7_197 hw 0 rfl rfl rfl hl.1 rfl (Nat.le_of_ble_eq_true rfl) ⟨Nat.le_of_ble_eq_true rfl, Nat.le_of_ble_eq_true rfl⟩ ⟨Nat.le_of_ble_eq_true rfl, Nat.le_of_ble_eq_true rfl⟩ dX7_lastEnd_24 (fun H locs hw => ?_)
      obtain rfl := q_s hf
      exact J9 _ _ _ hw (lv_sub hl [] rfl)
    · have hf := q_f c10 hf
      refine lv_iconst (v := 0) hx hb dX7_lastEnd_19 (by decide) ?_
      refine lv_goto (tgt := 27) hx hb dX7_lastEnd_20 rfl ?_
      obtain rfl := q_s hf
      exact J9 _ _ _ hw (lv_sub hl [] rfl)
  have hf := hq15
  refine lv_if_eq (tgt := 12) hx hb dX7_lastEnd_5 rfl (fun c14 => ?_) (fun c14 => ?_)
  · have hf := q_t c14 hf
    refine lv_iconst (v := 1) hx hb dX7_lastEnd_12 (by decide) ?_
    obtain rfl := q_s hf
    exact J4 _ _ _ hw (lv_sub hl [0] rfl)
  · have hf := q_f c14 hf
    refine lv_iconst (v := 0) hx hb dX7_lastEnd_8 (by decide) ?_
    refine lv_goto (tgt := 13) hx hb dX7_lastEnd_9 rfl ?_
    obtain rfl := q_s hf
    exact J4 _ _ _ hw (lv_sub hl [0] rfl)
def f_X7_decidingTerm_l23 (n : Nat) (x6 : SX) : Nat → Int32 → Option (Int32 × SX)
  | 0, _ => none
  | m + 1, v9 => (qbd (f_X7_isIn n x6 v9) fun r11 => (if r11 = 0 then (qnm (v9 + (1 : Int32)) fun v14 => (f_X7_decidingTerm_l23 n x6 m) v14) else (qgd (qin v9 10) ((qbd (f_X7_releaseOfAll n x6) fun r16 => (if r16 ≤ (x6.1 48 v9.toNatClampNeg) then some (v9, x6) else (qnm (v9 + (1 : Int32)) fun v19 => (f_X7_decidingTerm_l23 n x6 m) v19)))))))
def f_X7_decidingTerm (n : Nat) (x : SX) : Option (Int32 × SX) := (qbd (f_X7_isAny n x) fun r1 => (qbd (if r1 = 0 then some (1 : Int32) else some (0 : Int32)) fun v3 => (qbd2 (f_X7_fails n x v3) fun r5 x6 => (if r5 = 0 then f_X7_decidingTerm_l23 n x6 n (0 : Int32) else some ((0 : Int32), x6)))))
set_option maxHeartbeats 4000000 in
set_option maxRecDepth 100000 in
theorem t_X7_decidingTerm {G : gG} {l : Launch} {ad : Nat → Nat} {n : Nat} {x : SX} {rv : Int32} {xr : SX} (hf : f_X7_decidingTerm n x = some (rv, xr)) : MetI G l yX7_decidingTerm cX7_decidingTerm 2 (some .int) 2 0 0 44 [.ref (ad 0)] (wM G ad x) (wM G ad xr) rv := by
  refine k_ofI (by decide) (Nat.le_of_ble_eq_true rfl) ?_
  intro p e s m args below meth c ls A F hr hlk hl hw
  have hx := F.1
  have hb := F.2.1
  have hl : lv_has ls 2 [(0, .ref (ad 0))] := hl
  unfold f_X7_decidingTerm at hf
  refine lv_aload_n hx hb dX7_decidingTerm_0 rfl (lv_at hl 0 rfl) ?_
  refine lv_aload_n hx hb dX7_decidingTerm_1 rfl (lv_at hl 0 rfl) ?_
  obtain ⟨r1, h2, hf⟩ := qbd_e hf
  refine k_callVi' (rest := [.ref (ad 0)]) (As := []) F ws_in (t_X7_isAny h2) cv_X7_isAny ml_X7_254 hw 0 rfl rfl rfl hl.1 rfl (Nat.le_of_ble_eq_true rfl) ⟨Nat.le_of_ble_eq_true rfl, Nat.le_of_ble_eq_true rfl⟩ ⟨Nat.le_of_ble_eq_true rfl, Nat.le_of_ble_eq_true rfl⟩ dX7_decidingTerm_2 (fun H locs hw => ?_)
  obtain ⟨v3, hq21, hf⟩ := qbd_e hf
  have J4 : ∀ (H : Heap) (locs : List Loc) (ls : Array Slot), Wd G (wM G ad x) A s H locs → lv_has ls 2 [(0, .ref (ad 0))] → W p l e (rmk 2 0 0 44) s m args below meth c H locs 0 0 (KQI G below args s A (wM G ad xr) rv 0 0) (F0 m 13 ls [.int v3, .ref (ad 0)]) := by
    intro H locs ls hw hl
    obtain ⟨r5, x6, h7, hf⟩ := qbd2_e hf
    refine k_callVi' (rest := []) (As := [.int v3]) F ws_in (t_X7_fails h7) cv_X7_fails ml_X7_126 hw 0 rfl rfl rfl hl.1 rfl (Nat.le_of_ble_eq_true rfl) ⟨Nat.le_of_ble_eq_true rfl, Nat.le_of_ble_eq_true rfl⟩ ⟨Nat.le_of_ble_eq_true rfl, Nat.le_of_ble_eq_true rfl⟩ dX7_decidingTerm_13 (fun H locs hw => ?_)
    refine lv_if_eq (tgt := 21) hx hb dX7_decidingTerm_16 rfl (fun c8 => ?_) (fun c8 => ?_)
    · have hf := q_t c8 hf
      refine lv_iconst (v := 0) hx hb dX7_decidingTerm_21 (by decide) ?_
      refine lv_istore_n (lv' := [(1, .int (0 : Int32)), (0, .ref (ad 0))]) hx hb dX7_decidingTerm_22 rfl hl (Nat.le_of_ble_eq_true rfl) rfl (fun ls hl => ?_)
      have L10 : ∀ (m0 : Nat) (v9 : Int32) (H : Heap) (locs : List Loc) (ls : Array Slot), Wd G (wM G ad x6) A s H locs → lv_has ls 2 [(0, .ref (ad 0)), (1, .int v9)] → f_X7_decidingTerm_l23 n x6 m0 v9 = some (rv, xr) → W p l e (rmk 2 0 0 44) s m args below meth c H locs 0 0 (KQI G below args s A (wM G ad xr) rv 0 0) (F0 m 23 ls []) := by
        intro m0
        induction m0 with
        | zero => intro v9 H locs ls hw hl hf; cases hf
        | succ mL10 ih10 =>
          intro v9 H locs ls hw hl hf
          unfold f_X7_decidingTerm_l23 at hf
          refine lv_aload_n hx hb dX7_decidingTerm_23 rfl (lv_at hl 0 rfl) ?_
          refine lv_iload_n hx hb dX7_decidingTerm_24 rfl (lv_at hl 1 rfl) ?_
          obtain ⟨r11, h12, hf⟩ := qbd_e hf
          refine k_callVi' (rest := []) (As := [.int v9]) F ws_in (t_X7_isIn h12) cv_X7_isIn ml_X7_165 hw 0 rfl rfl rfl hl.1 rfl (Nat.le_of_ble_eq_true rfl) ⟨Nat.le_of_ble_eq_true rfl, Nat.le_of_ble_eq_true rfl⟩ ⟨Nat.le_of_ble_eq_true rfl, Nat.le_of_ble_eq_true rfl⟩ dX7_decidingTerm_25 (fun H locs hw => ?_)
          refine lv_if_eq (tgt := 44) hx hb dX7_decidingTerm_28 rfl (fun c13 => ?_) (fun c13 => ?_)
          · have hf := q_t c13 hf
            obtain ⟨v14, ev14⟩ : ∃ y : Int32, y = v9 + (1 : Int32) := ⟨_, rfl⟩
            refine lv_iinc (v := v14) (lv' := [(1, .int v14), (0, .ref (ad 0))]) hx hb dX7_decidingTerm_44 hl (k := 1) rfl (by rw [ev14]; rfl) (Nat.le_of_ble_eq_true rfl) rfl (fun ls hl => ?_)
            have hf := qnm_k ev14 hf
            refine lv_goto (tgt := 23) hx hb dX7_decidingTerm_47 rfl ?_
            exact ih10 v14 _ _ _ hw (lv_sub hl [1, 0] rfl) hf
          · have hf := q_f c13 hf
            refine lv_aload_n hx hb dX7_decidingTerm_31 rfl (lv_at hl 0 rfl) ?_
            refine M_g_0_38 F ws_in hw fl_X7_81 dX7_decidingTerm_32 ?_
            refine lv_iload_n hx hb dX7_decidingTerm_35 rfl (lv_at hl 1 rfl) ?_
            obtain ⟨g15, hf⟩ := qgd_e hf
            refine M_l_48 F hw g15 dX7_decidingTerm_36 ?_
            refine lv_aload_n hx hb dX7_decidingTerm_37 rfl (lv_at hl 0 rfl) ?_
            obtain ⟨r16, h17, hf⟩ := qbd_e hf
            refine k_callVi' (rest := [.int (x6.1 48 v9.toNatClampNeg)]) (As := []) F ws_in (t_X7_releaseOfAll h17) cv_X7_releaseOfAll ml_X7_190 hw 0 rfl rfl rfl hl.1 rfl (Nat.le_of_ble_eq_true rfl) ⟨Nat.le_of_ble_eq_true rfl, Nat.le_of_ble_eq_true rfl⟩ ⟨Nat.le_of_ble_eq_true rfl, Nat.le_of_ble_eq_true rfl⟩ dX7_decidingTerm_38 (fun H locs hw => ?_)
            refine lv_icmp_ge (tgt := 50) hx hb dX7_decidingTerm_41 rfl (fun c18 => ?_) (fun c18 => ?_)
            · have hf := q_t c18 hf
              refine lv_iload_n hx hb dX7_decidingTerm_50 rfl (lv_at hl 1 rfl) ?_
              obtain ⟨rfl, rfl⟩ := q_s2 hf
              exact k_iret F hr hlk hw (Nat.le_of_ble_eq_true rfl) (Nat.le_of_ble_eq_true rfl) dX7_decidingTerm_51
            · have hf := q_f c18 hf
              obtain ⟨v19, ev19⟩ : ∃ y : Int32, y = v9 + (1 : Int32) := ⟨_, rfl⟩
              refine lv_iinc (v := v19) (lv' := [(1, .int v19), (0, .ref (ad 0))]) hx hb dX7_decidingTerm_44 hl (k := 1) rfl (by rw [ev19]; rfl) (Nat.le_of_ble_eq_true rfl) rfl (fun ls hl => ?_)
              have hf := qnm_k ev19 hf
              refine lv_goto (tgt := 23) hx hb dX7_decidingTerm_47 rfl ?_
              exact ih10 v19 _ _ _ hw (lv_sub hl [1, 0] rfl) hf
      exact L10 n (0 : Int32) _ _ _ hw (lv_sub hl [1, 0] rfl) hf
    · have hf := q_f c8 hf
      refine lv_iconst (v := 0) hx hb dX7_decidingTerm_19 (by decide) ?_
      obtain ⟨rfl, rfl⟩ := q_s2 hf
      exact k_iret F hr hlk hw (Nat.le_of_ble_eq_true rfl) (Nat.le_of_ble_eq_true rfl) dX7_decidingTerm_20
  have hf := hq21
  refine lv_if_eq (tgt := 12) hx hb dX7_decidingTerm_5 rfl (fun c20 => ?_) (fun c20 => ?_)
  · have hf := q_t c20 hf
    refine lv_iconst (v := 1) hx hb dX7_decidingTerm_12 (by decide) ?_
    obtain rfl := q_s hf
    exact J4 _ _ _ hw (lv_sub hl [0] rfl)
  · have hf := q_f c20 hf
    refine lv_iconst (v := 0) hx hb dX7_decidingTerm_8 (by decide) ?_
    refine lv_goto (tgt := 13) hx hb dX7_decidingTerm_9 rfl ?_
    obtain rfl := q_s hf
    exact J4 _ _ _ hw (lv_sub hl [0] rfl)
def f_X7_isAhead (n : Nat) (x : SX) (a1 : Int32) (a2 : Int32) : Option (Int32) := (qgd (qin a1 10) ((qgd (qin a2 10) ((qnm ((x.1 48 a1.toNatClampNeg) - (x.1 48 a2.toNatClampNeg)) fun v3 => (qbd (if v3 = 0 then some ((x.1 49 a1.toNatClampNeg) - (x.1 49 a2.toNatClampNeg)) else some v3) fun v4 => (qbd (if v4 < 0 then some (1 : Int32) else (if v4 = 0 then (if a2 ≤ a1 then some (0 : Int32) else some (1 : Int32)) else some (0 : Int32))) fun v6 => (qgd (qz v6) (some v6)))))))))
set_option maxHeartbeats 4000000 in
set_option maxRecDepth 100000 in
theorem t_X7_isAhead {G : gG} {l : Launch} {ad : Nat → Nat} {n : Nat} {x : SX} {a1 : Int32} {a2 : Int32} {rv : Int32} (hf : f_X7_isAhead n x a1 a2 = some rv) : MetI G l yX7_isAhead cX7_isAhead 4 (some .boolean) 0 0 0 0 [.ref (ad 0), .int a1, .int a2] (wM G ad x) (wM G ad x) rv := by
  refine k_ofI (by decide) (Nat.le_of_ble_eq_true rfl) ?_
  intro p e s m args below meth c ls A F hr hlk hl hw
  have hx := F.1
  have hb := F.2.1
  have hl : lv_has ls 4 [(0, .ref (ad 0)), (1, .int a1), (2, .int a2)] := hl
  unfold f_X7_isAhead at hf
  refine lv_aload_n hx hb dX7_isAhead_0 rfl (lv_at hl 0 rfl) ?_
  refine M_g_0_38 F ws_in hw fl_X7_81 dX7_isAhead_1 ?_
  refine lv_iload_n hx hb dX7_isAhead_4 rfl (lv_at hl 1 rfl) ?_
  obtain ⟨g1, hf⟩ := qgd_e hf
  refine M_l_48 F hw g1 dX7_isAhead_5 ?_
  refine lv_aload_n hx hb dX7_isAhead_6 rfl (lv_at hl 0 rfl) ?_
  refine M_g_0_38 F ws_in hw fl_X7_81 dX7_isAhead_7 ?_
  refine lv_iload_n hx hb dX7_isAhead_10 rfl (lv_at hl 2 rfl) ?_
  obtain ⟨g2, hf⟩ := qgd_e hf
  refine M_l_48 F hw g2 dX7_isAhead_11 ?_
  refine lv_isub hx hb dX7_isAhead_12 ?_
  refine lv_topi (fun v3 ev3 => ?_)
  have hf := qnm_k ev3 hf
  refine lv_istore_n (lv' := [(3, .int v3), (0, .ref (ad 0)), (1, .int a1), (2, .int a2)]) hx hb dX7_isAhead_13 rfl hl (Nat.le_of_ble_eq_true rfl) rfl (fun ls hl => ?_)
  refine lv_iload_n hx hb dX7_isAhead_14 rfl (lv_at hl 0 rfl) ?_
  obtain ⟨v4, hq14, hf⟩ := qbd_e hf
  have J5 : ∀ (H : Heap) (locs : List Loc) (ls : Array Slot), Wd G (wM G ad x) A s H locs → lv_has ls 4 [(1, .int a1), (2, .int a2)] → W p l e (rmk 0 0 0 0) s m args below meth c H locs 0 0 (KQI G below args s A (wM G ad x) rv 0 0) (F0 m 35 ls [.int v4]) := by
    intro H locs ls hw hl
    refine lv_istore_n (lv' := [(3, .int v4), (1, .int a1), (2, .int a2)]) hx hb dX7_isAhead_35 rfl hl (Nat.le_of_ble_eq_true rfl) rfl (fun ls hl => ?_)
    refine lv_iload_n hx hb dX7_isAhead_36 rfl (lv_at hl 0 rfl) ?_
    obtain ⟨v6, hq12, hf⟩ := qbd_e hf
    have J7 : ∀ (H : Heap) (locs : List Loc) (ls : Array Slot), Wd G (wM G ad x) A s H locs → lv_has ls 4 [] → W p l e (rmk 0 0 0 0) s m args below meth c H locs 0 0 (KQI G below args s A (wM G ad x) rv 0 0) (F0 m 54 ls [.int v6]) := by
      intro H locs ls hw hl
      obtain ⟨g8, hf⟩ := qgd_e hf
      obtain rfl := q_s hf
      exact k_zret F hr hlk hw (qz_n g8) (Nat.le_of_ble_eq_true rfl) (Nat.le_of_ble_eq_true rfl) dX7_isAhead_54
    have hf := hq12
    refine lv_if_lt (tgt := 49) hx hb dX7_isAhead_37 rfl (fun c9 => ?_) (fun c9 => ?_)
    · have hf := q_t c9 hf
      refine lv_iconst (v := 1) hx hb dX7_isAhead_49 (by decide) ?_
      refine lv_goto (tgt := 54) hx hb dX7_isAhead_50 rfl ?_
      obtain rfl := q_s hf
      exact J7 _ _ _ hw (lv_sub hl [] rfl)
    · have hf := q_f c9 hf
      refine lv_iload_n hx hb dX7_isAhead_40 rfl (lv_at hl 0 rfl) ?_
      refine lv_if_ne (tgt := 53) hx hb dX7_isAhead_41 rfl (fun c10 => ?_) (fun c10 => ?_)
      · have hf := q_f c10 hf
        refine lv_iconst (v := 0) hx hb dX7_isAhead_53 (by decide) ?_
        obtain rfl := q_s hf
        exact J7 _ _ _ hw (lv_sub hl [] rfl)
      · have hf := q_t c10 hf
        refine lv_iload_n hx hb dX7_isAhead_44 rfl (lv_at hl 1 rfl) ?_
        refine lv_iload_n hx hb dX7_isAhead_45 rfl (lv_at hl 2 rfl) ?_
        refine lv_icmp_ge (tgt := 53) hx hb dX7_isAhead_46 rfl (fun c11 => ?_) (fun c11 => ?_)
        · have hf := q_t c11 hf
          refine lv_iconst (v := 0) hx hb dX7_isAhead_53 (by decide) ?_
          obtain rfl := q_s hf
          exact J7 _ _ _ hw (lv_sub hl [] rfl)
        · have hf := q_f c11 hf
          refine lv_iconst (v := 1) hx hb dX7_isAhead_49 (by decide) ?_
          refine lv_goto (tgt := 54) hx hb dX7_isAhead_50 rfl ?_
          obtain rfl := q_s hf
          exact J7 _ _ _ hw (lv_sub hl [] rfl)
  have hf := hq14
  refine lv_if_ne (tgt := 34) hx hb dX7_isAhead_15 rfl (fun c13 => ?_) (fun c13 => ?_)
  · have hf := q_f c13 hf
    refine lv_iload_n hx hb dX7_isAhead_34 rfl (lv_at hl 0 rfl) ?_
    obtain rfl := q_s hf
    exact J5 _ _ _ hw (lv_sub hl [2, 3] rfl)
  · have hf := q_t c13 hf
    refine lv_aload_n hx hb dX7_isAhead_18 rfl (lv_at hl 1 rfl) ?_
    refine M_g_0_39 F ws_in hw fl_X7_84 dX7_isAhead_19 ?_
    refine lv_iload_n hx hb dX7_isAhead_22 rfl (lv_at hl 2 rfl) ?_
    refine M_l_49 F hw g1 dX7_isAhead_23 ?_
    refine lv_aload_n hx hb dX7_isAhead_24 rfl (lv_at hl 1 rfl) ?_
    refine M_g_0_39 F ws_in hw fl_X7_84 dX7_isAhead_25 ?_
    refine lv_iload_n hx hb dX7_isAhead_28 rfl (lv_at hl 3 rfl) ?_
    refine M_l_49 F hw g2 dX7_isAhead_29 ?_
    refine lv_isub hx hb dX7_isAhead_30 ?_
    refine lv_goto (tgt := 35) hx hb dX7_isAhead_31 rfl ?_
    obtain rfl := q_s hf
    exact J5 _ _ _ hw (lv_sub hl [2, 3] rfl)
def f_X7_rank_l4 (x : SX) (n : Nat) (a1 : Int32) : Nat → Int32 → Int32 → Option (Int32)
  | 0, _, _ => none
  | m + 1, v1, v2 => (if (x.1 0 6) ≤ v2 then some v1 else (qbd (f_X7_isIn n x v2) fun r5 => (qbd (if r5 = 0 then some (0 : Int32) else (qbd (f_X7_isAhead n x v2 a1) fun r12 => (if r12 = 0 then some (0 : Int32) else some (1 : Int32)))) fun v7 => (qnm (v1 + v7) fun v9 => (qnm (v2 + (1 : Int32)) fun v10 => (f_X7_rank_l4 x n a1 m) v9 v10)))))
def f_X7_rank (n : Nat) (x : SX) (a1 : Int32) : Option (Int32) := f_X7_rank_l4 x n a1 n (0 : Int32) (0 : Int32)
set_option maxHeartbeats 4000000 in
set_option maxRecDepth 100000 in
theorem t_X7_rank {G : gG} {l : Launch} {ad : Nat → Nat} {n : Nat} {x : SX} {a1 : Int32} {rv : Int32} (hf : f_X7_rank n x a1 = some rv) : MetI G l yX7_rank cX7_rank 4 (some .int) 1 0 0 23 [.ref (ad 0), .int a1] (wM G ad x) (wM G ad x) rv := by
  refine k_ofI (by decide) (Nat.le_of_ble_eq_true rfl) ?_
  intro p e s m args below meth c ls A F hr hlk hl hw
  have hx := F.1
  have hb := F.2.1
  have hl : lv_has ls 4 [(0, .ref (ad 0)), (1, .int a1)] := hl
  unfold f_X7_rank at hf
  refine lv_iconst (v := 0) hx hb dX7_rank_0 (by decide) ?_
  refine lv_istore_n (lv' := [(2, .int (0 : Int32)), (0, .ref (ad 0)), (1, .int a1)]) hx hb dX7_rank_1 rfl hl (Nat.le_of_ble_eq_true rfl) rfl (fun ls hl => ?_)
  refine lv_iconst (v := 0) hx hb dX7_rank_2 (by decide) ?_
  refine lv_istore_n (lv' := [(3, .int (0 : Int32)), (2, .int (0 : Int32)), (0, .ref (ad 0)), (1, .int a1)]) hx hb dX7_rank_3 rfl hl (Nat.le_of_ble_eq_true rfl) rfl (fun ls hl => ?_)
  have L3 : ∀ (m0 : Nat) (v1 : Int32) (v2 : Int32) (H : Heap) (locs : List Loc) (ls : Array Slot), Wd G (wM G ad x) A s H locs → lv_has ls 4 [(0, .ref (ad 0)), (1, .int a1), (2, .int v1), (3, .int v2)] → f_X7_rank_l4 x n a1 m0 v1 v2 = some rv → W p l e (rmk 1 0 0 23) s m args below meth c H locs 0 0 (KQI G below args s A (wM G ad x) rv 0 0) (F0 m 4 ls []) := by
    intro m0
    induction m0 with
    | zero => intro v1 v2 H locs ls hw hl hf; cases hf
    | succ mL3 ih3 =>
      intro v1 v2 H locs ls hw hl hf
      unfold f_X7_rank_l4 at hf
      refine lv_iload_n hx hb dX7_rank_4 rfl (lv_at hl 3 rfl) ?_
      refine lv_aload_n hx hb dX7_rank_5 rfl (lv_at hl 0 rfl) ?_
      refine M_g_0_6 F ws_in hw fl_X7_140 dX7_rank_6 ?_
      refine lv_icmp_ge (tgt := 43) hx hb dX7_rank_9 rfl (fun c4 => ?_) (fun c4 => ?_)
      · have hf := q_t c4 hf
        refine lv_iload_n hx hb dX7_rank_43 rfl (lv_at hl 2 rfl) ?_
        obtain rfl := q_s hf
        exact k_iret F hr hlk hw (Nat.le_of_ble_eq_true rfl) (Nat.le_of_ble_eq_true rfl) dX7_rank_44
      · have hf := q_f c4 hf
        refine lv_iload_n hx hb dX7_rank_12 rfl (lv_at hl 2 rfl) ?_
        refine lv_aload_n hx hb dX7_rank_13 rfl (lv_at hl 0 rfl) ?_
        refine lv_iload_n hx hb dX7_rank_14 rfl (lv_at hl 3 rfl) ?_
        obtain ⟨r5, h6, hf⟩ := qbd_e hf
        refine k_callVi' (rest := [.int v1]) (As := [.int v2]) F ws_in (t_X7_isIn h6) cv_X7_isIn ml_X7_165 hw 0 rfl rfl rfl hl.1 rfl (Nat.le_of_ble_eq_true rfl) ⟨Nat.le_of_ble_eq_true rfl, Nat.le_of_ble_eq_true rfl⟩ ⟨Nat.le_of_ble_eq_true rfl, Nat.le_of_ble_eq_true rfl⟩ dX7_rank_15 (fun H locs hw => ?_)
        obtain ⟨v7, hq15, hf⟩ := qbd_e hf
        have J8 : ∀ (H : Heap) (locs : List Loc) (ls : Array Slot), Wd G (wM G ad x) A s H locs → lv_has ls 4 [(0, .ref (ad 0)), (1, .int a1), (3, .int v2)] → W p l e (rmk 1 0 0 23) s m args below meth c H locs 0 0 (KQI G below args s A (wM G ad x) rv 0 0) (F0 m 35 ls [.int v7, .int v1]) := by
          intro H locs ls hw hl
          refine lv_iadd hx hb dX7_rank_35 ?_
          refine lv_topi (fun v9 ev9 => ?_)
          have hf := qnm_k ev9 hf
          refine lv_istore_n (lv' := [(2, .int v9), (0, .ref (ad 0)), (1, .int a1), (3, .int v2)]) hx hb dX7_rank_36 rfl hl (Nat.le_of_ble_eq_true rfl) rfl (fun ls hl => ?_)
          obtain ⟨v10, ev10⟩ : ∃ y : Int32, y = v2 + (1 : Int32) := ⟨_, rfl⟩
          refine lv_iinc (v := v10) (lv' := [(3, .int v10), (2, .int v9), (0, .ref (ad 0)), (1, .int a1)]) hx hb dX7_rank_37 hl (k := 3) rfl (by rw [ev10]; rfl) (Nat.le_of_ble_eq_true rfl) rfl (fun ls hl => ?_)
          have hf := qnm_k ev10 hf
          refine lv_goto (tgt := 4) hx hb dX7_rank_40 rfl ?_
          exact ih3 v9 v10 _ _ _ hw (lv_sub hl [2, 3, 1, 0] rfl) hf
        have hf := hq15
        refine lv_if_eq (tgt := 34) hx hb dX7_rank_18 rfl (fun c11 => ?_) (fun c11 => ?_)
        · have hf := q_t c11 hf
          refine lv_iconst (v := 0) hx hb dX7_rank_34 (by decide) ?_
          obtain rfl := q_s hf
          exact J8 _ _ _ hw (lv_sub hl [0, 1, 3] rfl)
        · have hf := q_f c11 hf
          refine lv_aload_n hx hb dX7_rank_21 rfl (lv_at hl 0 rfl) ?_
          refine lv_iload_n hx hb dX7_rank_22 rfl (lv_at hl 3 rfl) ?_
          refine lv_iload_n hx hb dX7_rank_23 rfl (lv_at hl 1 rfl) ?_
          obtain ⟨r12, h13, hf⟩ := qbd_e hf
          refine k_callVi' (rest := [.int v1]) (As := [.int v2, .int a1]) F ws_in (t_X7_isAhead h13) cv_X7_isAhead ml_X7_257 hw 0 rfl rfl rfl hl.1 rfl (Nat.le_of_ble_eq_true rfl) ⟨Nat.le_of_ble_eq_true rfl, Nat.le_of_ble_eq_true rfl⟩ ⟨Nat.le_of_ble_eq_true rfl, Nat.le_of_ble_eq_true rfl⟩ dX7_rank_24 (fun H locs hw => ?_)
          refine lv_if_eq (tgt := 34) hx hb dX7_rank_27 rfl (fun c14 => ?_) (fun c14 => ?_)
          · have hf := q_t c14 hf
            refine lv_iconst (v := 0) hx hb dX7_rank_34 (by decide) ?_
            obtain rfl := q_s hf
            exact J8 _ _ _ hw (lv_sub hl [0, 1, 3] rfl)
          · have hf := q_f c14 hf
            refine lv_iconst (v := 1) hx hb dX7_rank_30 (by decide) ?_
            refine lv_goto (tgt := 35) hx hb dX7_rank_31 rfl ?_
            obtain rfl := q_s hf
            exact J8 _ _ _ hw (lv_sub hl [0, 1, 3] rfl)
  exact L3 n (0 : Int32) (0 : Int32) _ _ _ hw (lv_sub hl [2, 3, 1, 0] rfl) hf
def f_X7_termByRelease_e45 (n : Nat) (x : SX) (v1 : Int32) : Option (Int32 × SX) := (qbd (if v1 = (-1 : Int32) then some (1 : Int32) else some (0 : Int32)) fun v2 => (qbd2 (f_X7_fails n x v2) fun r4 x5 => (qbd (if r4 = 0 then some v1 else some (0 : Int32)) fun v7 => some (v7, x5))))
def f_X7_termByRelease_l4 (x : SX) (n : Nat) (a1 : Int32) : Nat → Int32 → Int32 → Option (Int32 × SX)
  | 0, _, _ => none
  | m + 1, v14, v15 => (if (x.1 0 6) ≤ v15 then f_X7_termByRelease_e45 n x v14 else (if a1 < 0 then f_X7_termByRelease_e45 n x v14 else (qbd (f_X7_isIn n x v15) fun r19 => (qbd (if r19 = 0 then some v14 else (qbd (f_X7_rank n x v15) fun r25 => (if r25 = a1 then some v15 else some v14))) fun v21 => (qnm (v15 + (1 : Int32)) fun v23 => (f_X7_termByRelease_l4 x n a1 m) v21 v23)))))
def f_X7_termByRelease (n : Nat) (x : SX) (a1 : Int32) : Option (Int32 × SX) := f_X7_termByRelease_l4 x n a1 n (-1 : Int32) (0 : Int32)
set_option maxHeartbeats 4000000 in
set_option maxRecDepth 100000 in
theorem t_X7_termByRelease {G : gG} {l : Launch} {ad : Nat → Nat} {n : Nat} {x : SX} {a1 : Int32} {rv : Int32} {xr : SX} (hf : f_X7_termByRelease n x a1 = some (rv, xr)) : MetI G l yX7_termByRelease cX7_termByRelease 4 (some .int) 2 0 0 46 [.ref (ad 0), .int a1] (wM G ad x) (wM G ad xr) rv := by
  refine k_ofI (by decide) (Nat.le_of_ble_eq_true rfl) ?_
  intro p e s m args below meth c ls A F hr hlk hl hw
  have hx := F.1
  have hb := F.2.1
  have hl : lv_has ls 4 [(0, .ref (ad 0)), (1, .int a1)] := hl
  unfold f_X7_termByRelease at hf
  refine lv_iconst (v := -1) hx hb dX7_termByRelease_0 (by decide) ?_
  refine lv_istore_n (lv' := [(2, .int (-1 : Int32)), (0, .ref (ad 0)), (1, .int a1)]) hx hb dX7_termByRelease_1 rfl hl (Nat.le_of_ble_eq_true rfl) rfl (fun ls hl => ?_)
  refine lv_iconst (v := 0) hx hb dX7_termByRelease_2 (by decide) ?_
  refine lv_istore_n (lv' := [(3, .int (0 : Int32)), (2, .int (-1 : Int32)), (0, .ref (ad 0)), (1, .int a1)]) hx hb dX7_termByRelease_3 rfl hl (Nat.le_of_ble_eq_true rfl) rfl (fun ls hl => ?_)
  have E13 : ∀ (v1 : Int32) (H : Heap) (locs : List Loc) (ls : Array Slot), Wd G (wM G ad x) A s H locs → lv_has ls 4 [(0, .ref (ad 0)), (2, .int v1)] → f_X7_termByRelease_e45 n x v1 = some (rv, xr) → W p l e (rmk 2 0 0 46) s m args below meth c H locs 0 0 (KQI G below args s A (wM G ad xr) rv 0 0) (F0 m 45 ls []) := by
    intro v1 H locs ls hw hl hf
    unfold f_X7_termByRelease_e45 at hf
    refine lv_aload_n hx hb dX7_termByRelease_45 rfl (lv_at hl 0 rfl) ?_
    refine lv_iload_n hx hb dX7_termByRelease_46 rfl (lv_at hl 1 rfl) ?_
    refine lv_iconst (v := -1) hx hb dX7_termByRelease_47 (by decide) ?_
    obtain ⟨v2, hq12, hf⟩ := qbd_e hf
    have J3 : ∀ (H : Heap) (locs : List Loc) (ls : Array Slot), Wd G (wM G ad x) A s H locs → lv_has ls 4 [(2, .int v1)] → W p l e (rmk 2 0 0 46) s m args below meth c H locs 0 0 (KQI G below args s A (wM G ad xr) rv 0 0) (F0 m 56 ls [.int v2, .ref (ad 0)]) := by
      intro H locs ls hw hl
      obtain ⟨r4, x5, h6, hf⟩ := qbd2_e hf
      refine k_callVi' (rest := []) (As := [.int v2]) F ws_in (t_X7_fails h6) cv_X7_fails ml_X7_126 hw 0 rfl rfl rfl hl.1 rfl (Nat.le_of_ble_eq_true rfl) ⟨Nat.le_of_ble_eq_true rfl, Nat.le_of_ble_eq_true rfl⟩ ⟨Nat.le_of_ble_eq_true rfl, Nat.le_of_ble_eq_true rfl⟩ dX7_termByRelease_56 (fun H locs hw => ?_)
      obtain ⟨v7, hq10, hf⟩ := qbd_e hf
      have J8 : ∀ (H : Heap) (locs : List Loc) (ls : Array Slot), Wd G (wM G ad x5) A s H locs → lv_has ls 4 [] → W p l e (rmk 2 0 0 46) s m args below meth c H locs 0 0 (KQI G below args s A (wM G ad xr) rv 0 0) (F0 m 67 ls [.int v7]) := by
        intro H locs ls hw hl
        obtain ⟨rfl, rfl⟩ := q_s2 hf
        exact k_iret F hr hlk hw (Nat.le_of_ble_eq_true rfl) (Nat.le_of_ble_eq_true rfl) dX7_termByRelease_67
      have hf := hq10
      refine lv_if_eq (tgt := 66) hx hb dX7_termByRelease_59 rfl (fun c9 => ?_) (fun c9 => ?_)
      · have hf := q_t c9 hf
        refine lv_iload_n hx hb dX7_termByRelease_66 rfl (lv_at hl 0 rfl) ?_
        obtain rfl := q_s hf
        exact J8 _ _ _ hw (lv_sub hl [] rfl)
      · have hf := q_f c9 hf
        refine lv_iconst (v := 0) hx hb dX7_termByRelease_62 (by decide) ?_
        refine lv_goto (tgt := 67) hx hb dX7_termByRelease_63 rfl ?_
        obtain rfl := q_s hf
        exact J8 _ _ _ hw (lv_sub hl [] rfl)
    have hf := hq12
    refine lv_icmp_ne (tgt := 55) hx hb dX7_termByRelease_48 rfl (fun c11 => ?_) (fun c11 => ?_)
    · have hf := q_f c11 hf
      refine lv_iconst (v := 0) hx hb dX7_termByRelease_55 (by decide) ?_
      obtain rfl := q_s hf
      exact J3 _ _ _ hw (lv_sub hl [1] rfl)
    · have hf := q_t c11 hf
      refine lv_iconst (v := 1) hx hb dX7_termByRelease_51 (by decide) ?_
      refine lv_goto (tgt := 56) hx hb dX7_termByRelease_52 rfl ?_
      obtain rfl := q_s hf
      exact J3 _ _ _ hw (lv_sub hl [1] rfl)
  have L16 : ∀ (m0 : Nat) (v14 : Int32) (v15 : Int32) (H : Heap) (locs : List Loc) (ls : Array Slot), Wd G (wM G ad x) A s H locs → lv_has ls 4 [(0, .ref (ad 0)), (1, .int a1), (2, .int v14), (3, .int v15)] → f_X7_termByRelease_l4 x n a1 m0 v14 v15 = some (rv, xr) → W p l e (rmk 2 0 0 46) s m args below meth c H locs 0 0 (KQI G below args s A (wM G ad xr) rv 0 0) (F0 m 4 ls []) := by
    intro m0
    induction m0 with
    | zero => intro v14 v15 H locs ls hw hl hf; cases hf
    | succ mL16 ih16 =>
      intro v14 v15 H locs ls hw hl hf
      unfold f_X7_termByRelease_l4 at hf
      refine lv_iload_n hx hb dX7_termByRelease_4 rfl (lv_at hl 3 rfl) ?_
      refine lv_aload_n hx hb dX7_termByRelease_5 rfl (lv_at hl 0 rfl) ?_
      refine M_g_0_6 F ws_in hw fl_X7_140 dX7_termByRelease_6 ?_
      refine lv_icmp_ge (tgt := 45) hx hb dX7_termByRelease_9 rfl (fun c17 => ?_) (fun c17 => ?_)
      · have hf := q_t c17 hf
        exact E13 v14 _ _ _ hw (lv_sub hl [0, 2] rfl) hf
      · have hf := q_f c17 hf
        refine lv_iload_n hx hb dX7_termByRelease_12 rfl (lv_at hl 1 rfl) ?_
        refine lv_if_lt (tgt := 45) hx hb dX7_termByRelease_13 rfl (fun c18 => ?_) (fun c18 => ?_)
        · have hf := q_t c18 hf
          exact E13 v14 _ _ _ hw (lv_sub hl [0, 2] rfl) hf
        · have hf := q_f c18 hf
          refine lv_aload_n hx hb dX7_termByRelease_16 rfl (lv_at hl 0 rfl) ?_
          refine lv_iload_n hx hb dX7_termByRelease_17 rfl (lv_at hl 3 rfl) ?_
          obtain ⟨r19, h20, hf⟩ := qbd_e hf
          refine k_callVi' (rest := []) (As := [.int v15]) F ws_in (t_X7_isIn h20) cv_X7_isIn ml_X7_165 hw 0 rfl rfl rfl hl.1 rfl (Nat.le_of_ble_eq_true rfl) ⟨Nat.le_of_ble_eq_true rfl, Nat.le_of_ble_eq_true rfl⟩ ⟨Nat.le_of_ble_eq_true rfl, Nat.le_of_ble_eq_true rfl⟩ dX7_termByRelease_18 (fun H locs hw => ?_)
          obtain ⟨v21, hq28, hf⟩ := qbd_e hf
          have J22 : ∀ (H : Heap) (locs : List Loc) (ls : Array Slot), Wd G (wM G ad x) A s H locs → lv_has ls 4 [(0, .ref (ad 0)), (1, .int a1), (3, .int v15)] → W p l e (rmk 2 0 0 46) s m args below meth c H locs 0 0 (KQI G below args s A (wM G ad xr) rv 0 0) (F0 m 38 ls [.int v21]) := by
            intro H locs ls hw hl
            refine lv_istore_n (lv' := [(2, .int v21), (0, .ref (ad 0)), (1, .int a1), (3, .int v15)]) hx hb dX7_termByRelease_38 rfl hl (Nat.le_of_ble_eq_true rfl) rfl (fun ls hl => ?_)
            obtain ⟨v23, ev23⟩ : ∃ y : Int32, y = v15 + (1 : Int32) := ⟨_, rfl⟩
            refine lv_iinc (v := v23) (lv' := [(3, .int v23), (2, .int v21), (0, .ref (ad 0)), (1, .int a1)]) hx hb dX7_termByRelease_39 hl (k := 3) rfl (by rw [ev23]; rfl) (Nat.le_of_ble_eq_true rfl) rfl (fun ls hl => ?_)
            have hf := qnm_k ev23 hf
            refine lv_goto (tgt := 4) hx hb dX7_termByRelease_42 rfl ?_
            exact ih16 v21 v23 _ _ _ hw (lv_sub hl [2, 3, 1, 0] rfl) hf
          have hf := hq28
          refine lv_if_eq (tgt := 37) hx hb dX7_termByRelease_21 rfl (fun c24 => ?_) (fun c24 => ?_)
          · have hf := q_t c24 hf
            refine lv_iload_n hx hb dX7_termByRelease_37 rfl (lv_at hl 2 rfl) ?_
            obtain rfl := q_s hf
            exact J22 _ _ _ hw (lv_sub hl [0, 1, 3] rfl)
          · have hf := q_f c24 hf
            refine lv_aload_n hx hb dX7_termByRelease_24 rfl (lv_at hl 0 rfl) ?_
            refine lv_iload_n hx hb dX7_termByRelease_25 rfl (lv_at hl 3 rfl) ?_
            obtain ⟨r25, h26, hf⟩ := qbd_e hf
            refine k_callVi' (rest := []) (As := [.int v15]) F ws_in (t_X7_rank h26) cv_X7_rank ml_X7_260 hw 0 rfl rfl rfl hl.1 rfl (Nat.le_of_ble_eq_true rfl) ⟨Nat.le_of_ble_eq_true rfl, Nat.le_of_ble_eq_true rfl⟩ ⟨Nat.le_of_ble_eq_true rfl, Nat.le_of_ble_eq_true rfl⟩ dX7_termByRelease_26 (fun H locs hw => ?_)
            refine lv_iload_n hx hb dX7_termByRelease_29 rfl (lv_at hl 1 rfl) ?_
            refine lv_icmp_ne (tgt := 37) hx hb dX7_termByRelease_30 rfl (fun c27 => ?_) (fun c27 => ?_)
            · have hf := q_f c27 hf
              refine lv_iload_n hx hb dX7_termByRelease_37 rfl (lv_at hl 2 rfl) ?_
              obtain rfl := q_s hf
              exact J22 _ _ _ hw (lv_sub hl [0, 1, 3] rfl)
            · have hf := q_t c27 hf
              refine lv_iload_n hx hb dX7_termByRelease_33 rfl (lv_at hl 3 rfl) ?_
              refine lv_goto (tgt := 38) hx hb dX7_termByRelease_34 rfl ?_
              obtain rfl := q_s hf
              exact J22 _ _ _ hw (lv_sub hl [0, 1, 3] rfl)
  exact L16 n (-1 : Int32) (0 : Int32) _ _ _ hw (lv_sub hl [2, 3, 1, 0] rfl) hf
def f_X7_daysInCustodyLeft (n : Nat) (x : SX) : Option (Int32 × SX) := (qnm (si x 0 0 (0 : Int32)) fun x1 => (qbd (f_X7_releaseOfAll n x1) fun r2 => (qbd (f_X7_endOfRecall n x1) fun r4 => (qbd (if r2 ≤ r4 then some r4 else some r2) fun v6 => (qbd (if v6 ≤ (x1.1 0 1) then some (0 : Int32) else some (v6 - (x1.1 0 1))) fun v8 => some (v8, x1))))))
set_option maxHeartbeats 4000000 in
set_option maxRecDepth 100000 in
theorem t_X7_daysInCustodyLeft {G : gG} {l : Launch} {ad : Nat → Nat} {n : Nat} {x : SX} {rv : Int32} {xr : SX} (hf : f_X7_daysInCustodyLeft n x = some (rv, xr)) : MetI G l yX7_daysInCustodyLeft cX7_daysInCustodyLeft 4 (some .int) 2 0 0 44 [.ref (ad 0)] (wM G ad x) (wM G ad xr) rv := by
  refine k_ofI (by decide) (Nat.le_of_ble_eq_true rfl) ?_
  intro p e s m args below meth c ls A F hr hlk hl hw
  have hx := F.1
  have hb := F.2.1
  have hl : lv_has ls 4 [(0, .ref (ad 0))] := hl
  unfold f_X7_daysInCustodyLeft at hf
  refine lv_aload_n hx hb dX7_daysInCustodyLeft_0 rfl (lv_at hl 0 rfl) ?_
  refine lv_iconst (v := 0) hx hb dX7_daysInCustodyLeft_1 (by decide) ?_
  refine M_p_0_0 F ws_in hw fl_X7_93 dX7_daysInCustodyLeft_2 (fun x1 ex1 H locs hw => ?_)
  have hf := qnm_k ex1 hf
  refine lv_aload_n hx hb dX7_daysInCustodyLeft_5 rfl (lv_at hl 0 rfl) ?_
  obtain ⟨r2, h3, hf⟩ := qbd_e hf
  refine k_callVi' (rest := []) (As := []) F ws_in (t_X7_releaseOfAll h3) cv_X7_releaseOfAll ml_X7_190 hw 0 rfl rfl rfl hl.1 rfl (Nat.le_of_ble_eq_true rfl) ⟨Nat.le_of_ble_eq_true rfl, Nat.le_of_ble_eq_true rfl⟩ ⟨Nat.le_of_ble_eq_true rfl, Nat.le_of_ble_eq_true rfl⟩ dX7_daysInCustodyLeft_6 (fun H locs hw => ?_)
  refine lv_istore_n (lv' := [(1, .int r2), (0, .ref (ad 0))]) hx hb dX7_daysInCustodyLeft_9 rfl hl (Nat.le_of_ble_eq_true rfl) rfl (fun ls hl => ?_)
  refine lv_aload_n hx hb dX7_daysInCustodyLeft_10 rfl (lv_at hl 1 rfl) ?_
  obtain ⟨r4, h5, hf⟩ := qbd_e hf
  refine k_callVi' (rest := []) (As := []) F ws_in (t_X7_endOfRecall h5) cv_X7_endOfRecall ml_X7_183 hw 0 rfl rfl rfl hl.1 rfl (Nat.le_of_ble_eq_true rfl) ⟨Nat.le_of_ble_eq_true rfl, Nat.le_of_ble_eq_true rfl⟩ ⟨Nat.le_of_ble_eq_true rfl, Nat.le_of_ble_eq_true rfl⟩ dX7_daysInCustodyLeft_11 (fun H locs hw => ?_)
  refine lv_istore_n (lv' := [(2, .int r4), (1, .int r2), (0, .ref (ad 0))]) hx hb dX7_daysInCustodyLeft_14 rfl hl (Nat.le_of_ble_eq_true rfl) rfl (fun ls hl => ?_)
  refine lv_iload_n hx hb dX7_daysInCustodyLeft_15 rfl (lv_at hl 1 rfl) ?_
  refine lv_iload_n hx hb dX7_daysInCustodyLeft_16 rfl (lv_at hl 0 rfl) ?_
  obtain ⟨v6, hq13, hf⟩ := qbd_e hf
  have J7 : ∀ (H : Heap) (locs : List Loc) (ls : Array Slot), Wd G (wM G ad x1) A s H locs → lv_has ls 4 [(0, .ref (ad 0))] → W p l e (rmk 2 0 0 44) s m args below meth c H locs 0 0 (KQI G below args s A (wM G ad xr) rv 0 0) (F0 m 25 ls [.int v6]) := by
    intro H locs ls hw hl
    refine lv_istore_n (lv' := [(3, .int v6), (0, .ref (ad 0))]) hx hb dX7_daysInCustodyLeft_25 rfl hl (Nat.le_of_ble_eq_true rfl) rfl (fun ls hl => ?_)
    refine lv_iload_n hx hb dX7_daysInCustodyLeft_26 rfl (lv_at hl 0 rfl) ?_
    refine lv_aload_n hx hb dX7_daysInCustodyLeft_27 rfl (lv_at hl 1 rfl) ?_
    refine M_g_0_1 F ws_in hw fl_X7_187 dX7_daysInCustodyLeft_28 ?_
    obtain ⟨v8, hq11, hf⟩ := qbd_e hf
    have J9 : ∀ (H : Heap) (locs : List Loc) (ls : Array Slot), Wd G (wM G ad x1) A s H locs → lv_has ls 4 [] → W p l e (rmk 2 0 0 44) s m args below meth c H locs 0 0 (KQI G below args s A (wM G ad xr) rv 0 0) (F0 m 44 ls [.int v8]) := by
      intro H locs ls hw hl
      obtain ⟨rfl, rfl⟩ := q_s2 hf
      exact k_iret F hr hlk hw (Nat.le_of_ble_eq_true rfl) (Nat.le_of_ble_eq_true rfl) dX7_daysInCustodyLeft_44
    have hf := hq11
    refine lv_icmp_le (tgt := 43) hx hb dX7_daysInCustodyLeft_31 rfl (fun c10 => ?_) (fun c10 => ?_)
    · have hf := q_t c10 hf
      refine lv_iconst (v := 0) hx hb dX7_daysInCustodyLeft_43 (by decide) ?_
      obtain rfl := q_s hf
      exact J9 _ _ _ hw (lv_sub hl [] rfl)
    · have hf := q_f c10 hf
      refine lv_iload_n hx hb dX7_daysInCustodyLeft_34 rfl (lv_at hl 0 rfl) ?_
      refine lv_aload_n hx hb dX7_daysInCustodyLeft_35 rfl (lv_at hl 1 rfl) ?_
      refine M_g_0_1 F ws_in hw fl_X7_187 dX7_daysInCustodyLeft_36 ?_
      refine lv_isub hx hb dX7_daysInCustodyLeft_39 ?_
      refine lv_goto (tgt := 44) hx hb dX7_daysInCustodyLeft_40 rfl ?_
      obtain rfl := q_s hf
      exact J9 _ _ _ hw (lv_sub hl [] rfl)
  have hf := hq13
  refine lv_icmp_le (tgt := 24) hx hb dX7_daysInCustodyLeft_17 rfl (fun c12 => ?_) (fun c12 => ?_)
  · have hf := q_t c12 hf
    refine lv_iload_n hx hb dX7_daysInCustodyLeft_24 rfl (lv_at hl 0 rfl) ?_
    obtain rfl := q_s hf
    exact J7 _ _ _ hw (lv_sub hl [2] rfl)
  · have hf := q_f c12 hf
    refine lv_iload_n hx hb dX7_daysInCustodyLeft_20 rfl (lv_at hl 1 rfl) ?_
    refine lv_goto (tgt := 25) hx hb dX7_daysInCustodyLeft_21 rfl ?_
    obtain rfl := q_s hf
    exact J7 _ _ _ hw (lv_sub hl [2] rfl)
def f_X7_recallCount (n : Nat) (x : SX) : Option (Int32 × SX) := (qnm (si x 0 0 (0 : Int32)) fun x1 => some ((x1.1 0 22), x1))
set_option maxHeartbeats 4000000 in
set_option maxRecDepth 100000 in
theorem t_X7_recallCount {G : gG} {l : Launch} {ad : Nat → Nat} {n : Nat} {x : SX} {rv : Int32} {xr : SX} (hf : f_X7_recallCount n x = some (rv, xr)) : MetI G l yX7_recallCount cX7_recallCount 1 (some .int) 0 0 0 0 [.ref (ad 0)] (wM G ad x) (wM G ad xr) rv := by
  refine k_ofI (by decide) (Nat.le_of_ble_eq_true rfl) ?_
  intro p e s m args below meth c ls A F hr hlk hl hw
  have hx := F.1
  have hb := F.2.1
  have hl : lv_has ls 1 [(0, .ref (ad 0))] := hl
  unfold f_X7_recallCount at hf
  refine lv_aload_n hx hb dX7_recallCount_0 rfl (lv_at hl 0 rfl) ?_
  refine lv_iconst (v := 0) hx hb dX7_recallCount_1 (by decide) ?_
  refine M_p_0_0 F ws_in hw fl_X7_93 dX7_recallCount_2 (fun x1 ex1 H locs hw => ?_)
  have hf := qnm_k ex1 hf
  refine lv_aload_n hx hb dX7_recallCount_5 rfl (lv_at hl 0 rfl) ?_
  refine M_g_0_22 F ws_in hw fl_X7_171 dX7_recallCount_6 ?_
  obtain ⟨rfl, rfl⟩ := q_s2 hf
  exact k_iret F hr hlk hw (Nat.le_of_ble_eq_true rfl) (Nat.le_of_ble_eq_true rfl) dX7_recallCount_9
def f_X7_recallEnd (n : Nat) (x : SX) : Option (Int32 × SX) := (qbd (f_X7_isRecalled n x) fun r1 => (qbd (if r1 = 0 then some (1 : Int32) else some (0 : Int32)) fun v3 => (qbd2 (f_X7_fails n x v3) fun r5 x6 => (qbd (if r5 = 0 then (qbd (f_X7_endOfRecall n x6) fun r11 => some r11) else some (0 : Int32)) fun v8 => some (v8, x6)))))
set_option maxHeartbeats 4000000 in
set_option maxRecDepth 100000 in
theorem t_X7_recallEnd {G : gG} {l : Launch} {ad : Nat → Nat} {n : Nat} {x : SX} {rv : Int32} {xr : SX} (hf : f_X7_recallEnd n x = some (rv, xr)) : MetI G l yX7_recallEnd cX7_recallEnd 1 (some .int) 2 0 0 42 [.ref (ad 0)] (wM G ad x) (wM G ad xr) rv := by
  refine k_ofI (by decide) (Nat.le_of_ble_eq_true rfl) ?_
  intro p e s m args below meth c ls A F hr hlk hl hw
  have hx := F.1
  have hb := F.2.1
  have hl : lv_has ls 1 [(0, .ref (ad 0))] := hl
  unfold f_X7_recallEnd at hf
  refine lv_aload_n hx hb dX7_recallEnd_0 rfl (lv_at hl 0 rfl) ?_
  refine lv_aload_n hx hb dX7_recallEnd_1 rfl (lv_at hl 0 rfl) ?_
  obtain ⟨r1, h2, hf⟩ := qbd_e hf
  refine k_callVi' (rest := [.ref (ad 0)]) (As := []) F ws_in (t_X7_isRecalled h2) cv_X7_isRecalled ml_X7_193 hw 0 rfl rfl rfl hl.1 rfl (Nat.le_of_ble_eq_true rfl) ⟨Nat.le_of_ble_eq_true rfl, Nat.le_of_ble_eq_true rfl⟩ ⟨Nat.le_of_ble_eq_true rfl, Nat.le_of_ble_eq_true rfl⟩ dX7_recallEnd_2 (fun H locs hw => ?_)
  obtain ⟨v3, hq15, hf⟩ := qbd_e hf
  have J4 : ∀ (H : Heap) (locs : List Loc) (ls : Array Slot), Wd G (wM G ad x) A s H locs → lv_has ls 1 [(0, .ref (ad 0))] → W p l e (rmk 2 0 0 42) s m args below meth c H locs 0 0 (KQI G below args s A (wM G ad xr) rv 0 0) (F0 m 13 ls [.int v3, .ref (ad 0)]) := by
    intro H locs ls hw hl
    obtain ⟨r5, x6, h7, hf⟩ := qbd2_e hf
    refine k_callVi' (rest := []) (As := [.int v3]) F ws_in (t_X7_fails h7) cv_X7_fails ml_X7_126 hw 0 rfl rfl rfl hl.1 rfl (Nat.le_of_ble_eq_true rfl) ⟨Nat.le_of_ble_eq_true rfl, Nat.le_of_ble_eq_true rfl⟩ ⟨Nat.le_of_ble_eq_true rfl, Nat.le_of_ble_eq_true rfl⟩ dX7_recallEnd_13 (fun H locs hw => ?_)
    obtain ⟨v8, hq13, hf⟩ := qbd_e hf
    have J9 : ∀ (H : Heap) (locs : List Loc) (ls : Array Slot), Wd G (wM G ad x6) A s H locs → lv_has ls 1 [] → W p l e (rmk 2 0 0 42) s m args below meth c H locs 0 0 (KQI G below args s A (wM G ad xr) rv 0 0) (F0 m 27 ls [.int v8]) := by
      intro H locs ls hw hl
      obtain ⟨rfl, rfl⟩ := q_s2 hf
      exact k_iret F hr hlk hw (Nat.le_of_ble_eq_true rfl) (Nat.le_of_ble_eq_true rfl) dX7_recallEnd_27
    have hf := hq13
    refine lv_if_eq (tgt := 23) hx hb dX7_recallEnd_16 rfl (fun c10 => ?_) (fun c10 => ?_)
    · have hf := q_t c10 hf
      refine lv_aload_n hx hb dX7_recallEnd_23 rfl (lv_at hl 0 rfl) ?_
      obtain ⟨r11, h12, hf⟩ := qbd_e hf
      refine k_callVi' (rest := []) (As := []) F ws_in (t_X7_endOfRecall h12) cv_X7_endOfRecall ml_X7_183 hw 0 rfl rfl rfl hl.1 rfl (Nat.le_of_ble_eq_true rfl) ⟨Nat.le_of_ble_eq_true rfl, Nat.le_of_ble_eq_true rfl⟩ ⟨Nat.le_of_ble_eq_true rfl, Nat.le_of_ble_eq_true rfl⟩ dX7_recallEnd_24 (fun H locs hw => ?_)
      obtain rfl := q_s hf
      exact J9 _ _ _ hw (lv_sub hl [] rfl)
    · have hf := q_f c10 hf
      refine lv_iconst (v := 0) hx hb dX7_recallEnd_19 (by decide) ?_
      refine lv_goto (tgt := 27) hx hb dX7_recallEnd_20 rfl ?_
      obtain rfl := q_s hf
      exact J9 _ _ _ hw (lv_sub hl [] rfl)
  have hf := hq15
  refine lv_if_eq (tgt := 12) hx hb dX7_recallEnd_5 rfl (fun c14 => ?_) (fun c14 => ?_)
  · have hf := q_t c14 hf
    refine lv_iconst (v := 1) hx hb dX7_recallEnd_12 (by decide) ?_
    obtain rfl := q_s hf
    exact J4 _ _ _ hw (lv_sub hl [0] rfl)
  · have hf := q_f c14 hf
    refine lv_iconst (v := 0) hx hb dX7_recallEnd_8 (by decide) ?_
    refine lv_goto (tgt := 13) hx hb dX7_recallEnd_9 rfl ?_
    obtain rfl := q_s hf
    exact J4 _ _ _ hw (lv_sub hl [0] rfl)
def f_X7_awardDays (n : Nat) (x : SX) (a1 : Int32) : Option (Int32 × SX) := (qbd (f_X7_isAward n x a1) fun r1 => (qbd (if r1 = 0 then some (1 : Int32) else some (0 : Int32)) fun v3 => (qbd2 (f_X7_fails n x v3) fun r5 x6 => (qbd (if r5 = 0 then (qgd (qin a1 8) (some (x6.1 29 a1.toNatClampNeg))) else some (0 : Int32)) fun v8 => some (v8, x6)))))
set_option maxHeartbeats 4000000 in
set_option maxRecDepth 100000 in
theorem t_X7_awardDays {G : gG} {l : Launch} {ad : Nat → Nat} {n : Nat} {x : SX} {a1 : Int32} {rv : Int32} {xr : SX} (hf : f_X7_awardDays n x a1 = some (rv, xr)) : MetI G l yX7_awardDays cX7_awardDays 2 (some .int) 2 0 0 43 [.ref (ad 0), .int a1] (wM G ad x) (wM G ad xr) rv := by
  refine k_ofI (by decide) (Nat.le_of_ble_eq_true rfl) ?_
  intro p e s m args below meth c ls A F hr hlk hl hw
  have hx := F.1
  have hb := F.2.1
  have hl : lv_has ls 2 [(0, .ref (ad 0)), (1, .int a1)] := hl
  unfold f_X7_awardDays at hf
  refine lv_aload_n hx hb dX7_awardDays_0 rfl (lv_at hl 0 rfl) ?_
  refine lv_aload_n hx hb dX7_awardDays_1 rfl (lv_at hl 0 rfl) ?_
  refine lv_iload_n hx hb dX7_awardDays_2 rfl (lv_at hl 1 rfl) ?_
  obtain ⟨r1, h2, hf⟩ := qbd_e hf
  refine k_callVi' (rest := [.ref (ad 0)]) (As := [.int a1]) F ws_in (t_X7_isAward h2) cv_X7_isAward ml_X7_239 hw 0 rfl rfl rfl hl.1 rfl (Nat.le_of_ble_eq_true rfl) ⟨Nat.le_of_ble_eq_true rfl, Nat.le_of_ble_eq_true rfl⟩ ⟨Nat.le_of_ble_eq_true rfl, Nat.le_of_ble_eq_true rfl⟩ dX7_awardDays_3 (fun H locs hw => ?_)
  obtain ⟨v3, hq14, hf⟩ := qbd_e hf
  have J4 : ∀ (H : Heap) (locs : List Loc) (ls : Array Slot), Wd G (wM G ad x) A s H locs → lv_has ls 2 [(0, .ref (ad 0)), (1, .int a1)] → W p l e (rmk 2 0 0 43) s m args below meth c H locs 0 0 (KQI G below args s A (wM G ad xr) rv 0 0) (F0 m 14 ls [.int v3, .ref (ad 0)]) := by
    intro H locs ls hw hl
    obtain ⟨r5, x6, h7, hf⟩ := qbd2_e hf
    refine k_callVi' (rest := []) (As := [.int v3]) F ws_in (t_X7_fails h7) cv_X7_fails ml_X7_126 hw 0 rfl rfl rfl hl.1 rfl (Nat.le_of_ble_eq_true rfl) ⟨Nat.le_of_ble_eq_true rfl, Nat.le_of_ble_eq_true rfl⟩ ⟨Nat.le_of_ble_eq_true rfl, Nat.le_of_ble_eq_true rfl⟩ dX7_awardDays_14 (fun H locs hw => ?_)
    obtain ⟨v8, hq12, hf⟩ := qbd_e hf
    have J9 : ∀ (H : Heap) (locs : List Loc) (ls : Array Slot), Wd G (wM G ad x6) A s H locs → lv_has ls 2 [] → W p l e (rmk 2 0 0 43) s m args below meth c H locs 0 0 (KQI G below args s A (wM G ad xr) rv 0 0) (F0 m 30 ls [.int v8]) := by
      intro H locs ls hw hl
      obtain ⟨rfl, rfl⟩ := q_s2 hf
      exact k_iret F hr hlk hw (Nat.le_of_ble_eq_true rfl) (Nat.le_of_ble_eq_true rfl) dX7_awardDays_30
    have hf := hq12
    refine lv_if_eq (tgt := 24) hx hb dX7_awardDays_17 rfl (fun c10 => ?_) (fun c10 => ?_)
    · have hf := q_t c10 hf
      refine lv_aload_n hx hb dX7_awardDays_24 rfl (lv_at hl 0 rfl) ?_
      refine M_g_0_19 F ws_in hw fl_X7_48 dX7_awardDays_25 ?_
      refine lv_iload_n hx hb dX7_awardDays_28 rfl (lv_at hl 1 rfl) ?_
      obtain ⟨g11, hf⟩ := qgd_e hf
      refine M_l_29 F hw g11 dX7_awardDays_29 ?_
      obtain rfl := q_s hf
      exact J9 _ _ _ hw (lv_sub hl [] rfl)
    · have hf := q_f c10 hf
      refine lv_iconst (v := 0) hx hb dX7_awardDays_20 (by decide) ?_
      refine lv_goto (tgt := 30) hx hb dX7_awardDays_21 rfl ?_
      obtain rfl := q_s hf
      exact J9 _ _ _ hw (lv_sub hl [] rfl)
  have hf := hq14
  refine lv_if_eq (tgt := 13) hx hb dX7_awardDays_6 rfl (fun c13 => ?_) (fun c13 => ?_)
  · have hf := q_t c13 hf
    refine lv_iconst (v := 1) hx hb dX7_awardDays_13 (by decide) ?_
    obtain rfl := q_s hf
    exact J4 _ _ _ hw (lv_sub hl [0, 1] rfl)
  · have hf := q_f c13 hf
    refine lv_iconst (v := 0) hx hb dX7_awardDays_9 (by decide) ?_
    refine lv_goto (tgt := 14) hx hb dX7_awardDays_10 rfl ?_
    obtain rfl := q_s hf
    exact J4 _ _ _ hw (lv_sub hl [0, 1] rfl)
def f_X7_concerns (n : Nat) (x : SX) (a1 : Int32) (a2 : Int32) : Option (Int32 × SX) := (qbd (f_X7_isAward n x a1) fun r1 => (qbd (if r1 = 0 then some (1 : Int32) else (qbd (f_X7_isTerm n x a2) fun r16 => (if r16 = 0 then some (1 : Int32) else some (0 : Int32)))) fun v3 => (qbd2 (f_X7_fails n x v3) fun r5 x6 => (qbd (if r5 = 0 then (qgd (qin a1 8) ((if (((x6.1 30 a1.toNatClampNeg) >>> (a2 &&& 31)) &&& (1 : Int32)) = (1 : Int32) then some (1 : Int32) else some (0 : Int32)))) else some (0 : Int32)) fun v8 => (qgd (qz v8) (some (v8, x6)))))))
set_option maxHeartbeats 4000000 in
set_option maxRecDepth 100000 in
theorem t_X7_concerns {G : gG} {l : Launch} {ad : Nat → Nat} {n : Nat} {x : SX} {a1 : Int32} {a2 : Int32} {rv : Int32} {xr : SX} (hf : f_X7_concerns n x a1 a2 = some (rv, xr)) : MetI G l yX7_concerns cX7_concerns 3 (some .boolean) 2 0 0 43 [.ref (ad 0), .int a1, .int a2] (wM G ad x) (wM G ad xr) rv := by
  refine k_ofI (by decide) (Nat.le_of_ble_eq_true rfl) ?_
  intro p e s m args below meth c ls A F hr hlk hl hw
  have hx := F.1
  have hb := F.2.1
  have hl : lv_has ls 3 [(0, .ref (ad 0)), (1, .int a1), (2, .int a2)] := hl
  unfold f_X7_concerns at hf
  refine lv_aload_n hx hb dX7_concerns_0 rfl (lv_at hl 0 rfl) ?_
  refine lv_aload_n hx hb dX7_concerns_1 rfl (lv_at hl 0 rfl) ?_
  refine lv_iload_n hx hb dX7_concerns_2 rfl (lv_at hl 1 rfl) ?_
  obtain ⟨r1, h2, hf⟩ := qbd_e hf
  refine k_callVi' (rest := [.ref (ad 0)]) (As := [.int a1]) F ws_in (t_X7_isAward h2) cv_X7_isAward ml_X7_239 hw 0 rfl rfl rfl hl.1 rfl (Nat.le_of_ble_eq_true rfl) ⟨Nat.le_of_ble_eq_true rfl, Nat.le_of_ble_eq_true rfl⟩ ⟨Nat.le_of_ble_eq_true rfl, Nat.le_of_ble_eq_true rfl⟩ dX7_concerns_3 (fun H locs hw => ?_)
  obtain ⟨v3, hq19, hf⟩ := qbd_e hf
  have J4 : ∀ (H : Heap) (locs : List Loc) (ls : Array Slot), Wd G (wM G ad x) A s H locs → lv_has ls 3 [(0, .ref (ad 0)), (1, .int a1), (2, .int a2)] → W p l e (rmk 2 0 0 43) s m args below meth c H locs 0 0 (KQI G below args s A (wM G ad xr) rv 0 0) (F0 m 22 ls [.int v3, .ref (ad 0)]) := by
    intro H locs ls hw hl
    obtain ⟨r5, x6, h7, hf⟩ := qbd2_e hf
    refine k_callVi' (rest := []) (As := [.int v3]) F ws_in (t_X7_fails h7) cv_X7_fails ml_X7_126 hw 0 rfl rfl rfl hl.1 rfl (Nat.le_of_ble_eq_true rfl) ⟨Nat.le_of_ble_eq_true rfl, Nat.le_of_ble_eq_true rfl⟩ ⟨Nat.le_of_ble_eq_true rfl, Nat.le_of_ble_eq_true rfl⟩ dX7_concerns_22 (fun H locs hw => ?_)
    obtain ⟨v8, hq14, hf⟩ := qbd_e hf
    have J9 : ∀ (H : Heap) (locs : List Loc) (ls : Array Slot), Wd G (wM G ad x6) A s H locs → lv_has ls 3 [] → W p l e (rmk 2 0 0 43) s m args below meth c H locs 0 0 (KQI G below args s A (wM G ad xr) rv 0 0) (F0 m 47 ls [.int v8]) := by
      intro H locs ls hw hl
      obtain ⟨g10, hf⟩ := qgd_e hf
      obtain ⟨rfl, rfl⟩ := q_s2 hf
      exact k_zret F hr hlk hw (qz_n g10) (Nat.le_of_ble_eq_true rfl) (Nat.le_of_ble_eq_true rfl) dX7_concerns_47
    have hf := hq14
    refine lv_if_ne (tgt := 46) hx hb dX7_concerns_25 rfl (fun c11 => ?_) (fun c11 => ?_)
    · have hf := q_f c11 hf
      refine lv_iconst (v := 0) hx hb dX7_concerns_46 (by decide) ?_
      obtain rfl := q_s hf
      exact J9 _ _ _ hw (lv_sub hl [] rfl)
    · have hf := q_t c11 hf
      refine lv_aload_n hx hb dX7_concerns_28 rfl (lv_at hl 0 rfl) ?_
      refine M_g_0_20 F ws_in hw fl_X7_51 dX7_concerns_29 ?_
      refine lv_iload_n hx hb dX7_concerns_32 rfl (lv_at hl 1 rfl) ?_
      obtain ⟨g12, hf⟩ := qgd_e hf
      refine M_l_30 F hw g12 dX7_concerns_33 ?_
      refine lv_iload_n hx hb dX7_concerns_34 rfl (lv_at hl 2 rfl) ?_
      refine lv_ishr hx hb dX7_concerns_35 ?_
      refine lv_iconst (v := 1) hx hb dX7_concerns_36 (by decide) ?_
      refine lv_iand hx hb dX7_concerns_37 ?_
      refine lv_iconst (v := 1) hx hb dX7_concerns_38 (by decide) ?_
      refine lv_icmp_ne (tgt := 46) hx hb dX7_concerns_39 rfl (fun c13 => ?_) (fun c13 => ?_)
      · have hf := q_f c13 hf
        refine lv_iconst (v := 0) hx hb dX7_concerns_46 (by decide) ?_
        obtain rfl := q_s hf
        exact J9 _ _ _ hw (lv_sub hl [] rfl)
      · have hf := q_t c13 hf
        refine lv_iconst (v := 1) hx hb dX7_concerns_42 (by decide) ?_
        refine lv_goto (tgt := 47) hx hb dX7_concerns_43 rfl ?_
        obtain rfl := q_s hf
        exact J9 _ _ _ hw (lv_sub hl [] rfl)
  have hf := hq19
  refine lv_if_eq (tgt := 21) hx hb dX7_concerns_6 rfl (fun c15 => ?_) (fun c15 => ?_)
  · have hf := q_t c15 hf
    refine lv_iconst (v := 1) hx hb dX7_concerns_21 (by decide) ?_
    obtain rfl := q_s hf
    exact J4 _ _ _ hw (lv_sub hl [0, 1, 2] rfl)
  · have hf := q_f c15 hf
    refine lv_aload_n hx hb dX7_concerns_9 rfl (lv_at hl 0 rfl) ?_
    refine lv_iload_n hx hb dX7_concerns_10 rfl (lv_at hl 2 rfl) ?_
    obtain ⟨r16, h17, hf⟩ := qbd_e hf
    refine k_callVi' (rest := [.ref (ad 0)]) (As := [.int a2]) F ws_in (t_X7_isTerm h17) cv_X7_isTerm ml_X7_216 hw 0 rfl rfl rfl hl.1 rfl (Nat.le_of_ble_eq_true rfl) ⟨Nat.le_of_ble_eq_true rfl, Nat.le_of_ble_eq_true rfl⟩ ⟨Nat.le_of_ble_eq_true rfl, Nat.le_of_ble_eq_true rfl⟩ dX7_concerns_11 (fun H locs hw => ?_)
    refine lv_if_eq (tgt := 21) hx hb dX7_concerns_14 rfl (fun c18 => ?_) (fun c18 => ?_)
    · have hf := q_t c18 hf
      refine lv_iconst (v := 1) hx hb dX7_concerns_21 (by decide) ?_
      obtain rfl := q_s hf
      exact J4 _ _ _ hw (lv_sub hl [0, 1, 2] rfl)
    · have hf := q_f c18 hf
      refine lv_iconst (v := 0) hx hb dX7_concerns_17 (by decide) ?_
      refine lv_goto (tgt := 22) hx hb dX7_concerns_18 rfl ?_
      obtain rfl := q_s hf
      exact J4 _ _ _ hw (lv_sub hl [0, 1, 2] rfl)
def f_X7_lastReleaseWithAward_e146 (n : Nat) (x6 : SX) (v11 : Int32) (a1 : Int32) (v10 : Int32) (kb90 : Int32 → Int32 → Option (Int32 × SX)) (v14 : Int32) : Option (Int32 × SX) := (qbd (f_X7_isIn n x6 v11) fun r15 => (qbd (if r15 = 0 then some (0 : Int32) else (qgd (qin v11 10) ((qbd (if v14 = 0 then some (0 : Int32) else some a1) fun v34 => some ((x6.1 48 v11.toNatClampNeg) + v34))))) fun v17 => (qbd (f_X7_isIn n x6 v11) fun r19 => (qbd (if r19 = 0 then some v17 else (qgd (qin v11 10) ((if v17 ≤ (x6.1 49 v11.toNatClampNeg) then some v17 else some (x6.1 49 v11.toNatClampNeg))))) fun v21 => (qbd (if v21 ≤ v10 then some v10 else some v21) fun v23 => (qnm (v11 + (1 : Int32)) fun v25 => kb90 v23 v25))))))
def f_X7_lastReleaseWithAward_l106 (n : Nat) (x6 : SX) (v11 : Int32) (a1 : Int32) (v10 : Int32) (kb90 : Int32 → Int32 → Option (Int32 × SX)) (v9 : Int32) : Nat → Int32 → Int32 → Option (Int32 × SX)
  | 0, _, _ => none
  | m + 1, v40, v41 => (if v41 = (-1 : Int32) then f_X7_lastReleaseWithAward_e146 n x6 v11 a1 v10 kb90 v40 else (qbd (if v40 = 0 then (if ((v9 >>> (v41 &&& 31)) &&& (1 : Int32)) = (1 : Int32) then some (1 : Int32) else some (0 : Int32)) else some (1 : Int32)) fun v44 => (qgd (qin v41 10) ((qnm (x6.1 22 v41.toNatClampNeg) fun v47 => (f_X7_lastReleaseWithAward_l106 n x6 v11 a1 v10 kb90 v9 m) v44 v47)))))
def f_X7_lastReleaseWithAward_l90 (x6 : SX) (n : Nat) (a1 : Int32) (v9 : Int32) : Nat → Int32 → Int32 → Option (Int32 × SX)
  | 0, _, _ => none
  | m + 1, v10, v11 => (if (x6.1 0 6) ≤ v11 then some (v10, x6) else f_X7_lastReleaseWithAward_l106 n x6 v11 a1 v10 (f_X7_lastReleaseWithAward_l90 x6 n a1 v9 m) v9 n (0 : Int32) v11)
def f_X7_lastReleaseWithAward_e85 (x6 : SX) (n : Nat) (a1 : Int32) (v9 : Int32) : Option (Int32 × SX) := f_X7_lastReleaseWithAward_l90 x6 n a1 v9 n (0 : Int32) (0 : Int32)
def f_X7_lastReleaseWithAward_l40 (x6 : SX) (n : Nat) (a1 : Int32) : Nat → Int32 → Int32 → Option (Int32 × SX)
  | 0, _, _ => none
  | m + 1, v52, v53 => (if (x6.1 0 6) ≤ v53 then f_X7_lastReleaseWithAward_e85 x6 n a1 v52 else (qbd (f_X7_isIn n x6 v53) fun r56 => (qbd (if r56 = 0 then some (0 : Int32) else (qgd (qin v53 10) ((if (x6.1 48 v53.toNatClampNeg) ≤ (x6.1 0 1) then some (0 : Int32) else some ((1 : Int32) <<< (v53 &&& 31)))))) fun v58 => (qnm (v52 ||| v58) fun v60 => (qnm (v53 + (1 : Int32)) fun v61 => (f_X7_lastReleaseWithAward_l40 x6 n a1 m) v60 v61)))))
def f_X7_lastReleaseWithAward (n : Nat) (x : SX) (a1 : Int32) : Option (Int32 × SX) := (qbd (f_X7_in n a1 (1 : Int32) (42 : Int32)) fun r1 => (qbd (if r1 = 0 then some (1 : Int32) else (qbd (f_X7_statusNow n x) fun r67 => (if r67 = (2 : Int32) then some (0 : Int32) else some (2 : Int32)))) fun v3 => (qbd2 (f_X7_fails n x v3) fun r5 x6 => (if r5 = 0 then f_X7_lastReleaseWithAward_l40 x6 n a1 n (0 : Int32) (0 : Int32) else some ((0 : Int32), x6)))))
set_option maxHeartbeats 4000000 in
set_option maxRecDepth 100000 in
theorem t_X7_lastReleaseWithAward {G : gG} {l : Launch} {ad : Nat → Nat} {n : Nat} {x : SX} {a1 : Int32} {rv : Int32} {xr : SX} (hf : f_X7_lastReleaseWithAward n x a1 = some (rv, xr)) : MetI G l yX7_lastReleaseWithAward cX7_lastReleaseWithAward 7 (some .int) 3 0 0 64 [.ref (ad 0), .int a1] (wM G ad x) (wM G ad xr) rv := by
  refine k_ofI (by decide) (Nat.le_of_ble_eq_true rfl) ?_
  intro p e s m args below meth c ls A F hr hlk hl hw
  have hx := F.1
  have hb := F.2.1
  have hl : lv_has ls 7 [(0, .ref (ad 0)), (1, .int a1)] := hl
  unfold f_X7_lastReleaseWithAward at hf
  refine lv_aload_n hx hb dX7_lastReleaseWithAward_0 rfl (lv_at hl 0 rfl) ?_
  refine lv_iload_n hx hb dX7_lastReleaseWithAward_1 rfl (lv_at hl 1 rfl) ?_
  refine lv_iconst (v := 1) hx hb dX7_lastReleaseWithAward_2 (by decide) ?_
  refine lv_bipush (v := 42) hx hb dX7_lastReleaseWithAward_3 (by decide) ?_
  obtain ⟨r1, h2, hf⟩ := qbd_e hf
  refine k_callPi (rest := [.ref (ad 0)]) (As := [.int a1, .int (1 : Int32), .int (42 : Int32)]) F ws_in (t_X7_in h2) cs_X7_in ml_X7_122 hw rfl hl.1 rfl (Nat.le_of_ble_eq_true rfl) ⟨Nat.le_of_ble_eq_true rfl, Nat.le_of_ble_eq_true rfl⟩ ⟨Nat.le_of_ble_eq_true rfl, Nat.le_of_ble_eq_true rfl⟩ dX7_lastReleaseWithAward_5 (fun H locs hw => ?_)
  obtain ⟨v3, hq70, hf⟩ := qbd_e hf
  have J4 : ∀ (H : Heap) (locs : List Loc) (ls : Array Slot), Wd G (wM G ad x) A s H locs → lv_has ls 7 [(0, .ref (ad 0)), (1, .int a1)] → W p l e (rmk 3 0 0 64) s m args below meth c H locs 0 0 (KQI G below args s A (wM G ad xr) rv 0 0) (F0 m 28 ls [.int v3, .ref (ad 0)]) := by
    intro H locs ls hw hl
    obtain ⟨r5, x6, h7, hf⟩ := qbd2_e hf
    refine k_callVi' (rest := []) (As := [.int v3]) F ws_in (t_X7_fails h7) cv_X7_fails ml_X7_126 hw 0 rfl rfl rfl hl.1 rfl (Nat.le_of_ble_eq_true rfl) ⟨Nat.le_of_ble_eq_true rfl, Nat.le_of_ble_eq_true rfl⟩ ⟨Nat.le_of_ble_eq_true rfl, Nat.le_of_ble_eq_true rfl⟩ dX7_lastReleaseWithAward_28 (fun H locs hw => ?_)
    refine lv_if_eq (tgt := 36) hx hb dX7_lastReleaseWithAward_31 rfl (fun c8 => ?_) (fun c8 => ?_)
    · have hf := q_t c8 hf
      refine lv_iconst (v := 0) hx hb dX7_lastReleaseWithAward_36 (by decide) ?_
      refine lv_istore_n (lv' := [(2, .int (0 : Int32)), (0, .ref (ad 0)), (1, .int a1)]) hx hb dX7_lastReleaseWithAward_37 rfl hl (Nat.le_of_ble_eq_true rfl) rfl (fun ls hl => ?_)
      refine lv_iconst (v := 0) hx hb dX7_lastReleaseWithAward_38 (by decide) ?_
      refine lv_istore_n (lv' := [(3, .int (0 : Int32)), (2, .int (0 : Int32)), (0, .ref (ad 0)), (1, .int a1)]) hx hb dX7_lastReleaseWithAward_39 rfl hl (Nat.le_of_ble_eq_true rfl) rfl (fun ls hl => ?_)
      have E51 : ∀ (v9 : Int32) (H : Heap) (locs : List Loc) (ls : Array Slot), Wd G (wM G ad x6) A s H locs → lv_has ls 7 [(0, .ref (ad 0)), (1, .int a1), (2, .int v9)] → f_X7_lastReleaseWithAward_e85 x6 n a1 v9 = some (rv, xr) → W p l e (rmk 3 0 0 64) s m args below meth c H locs 0 0 (KQI G below args s A (wM G ad xr) rv 0 0) (F0 m 85 ls []) := by
        intro v9 H locs ls hw hl hf
        unfold f_X7_lastReleaseWithAward_e85 at hf
        refine lv_iconst (v := 0) hx hb dX7_lastReleaseWithAward_85 (by decide) ?_
        refine lv_istore_n (lv' := [(3, .int (0 : Int32)), (0, .ref (ad 0)), (1, .int a1), (2, .int v9)]) hx hb dX7_lastReleaseWithAward_86 rfl hl (Nat.le_of_ble_eq_true rfl) rfl (fun ls hl => ?_)
        refine lv_iconst (v := 0) hx hb dX7_lastReleaseWithAward_87 (by decide) ?_
        refine lv_istore (lv' := [(4, .int (0 : Int32)), (3, .int (0 : Int32)), (0, .ref (ad 0)), (1, .int a1), (2, .int v9)]) hx hb dX7_lastReleaseWithAward_88 hl (Nat.le_of_ble_eq_true rfl) rfl (fun ls hl => ?_)
        have L12 : ∀ (m0 : Nat) (v10 : Int32) (v11 : Int32) (H : Heap) (locs : List Loc) (ls : Array Slot), Wd G (wM G ad x6) A s H locs → lv_has ls 7 [(0, .ref (ad 0)), (1, .int a1), (2, .int v9), (3, .int v10), (4, .int v11)] → f_X7_lastReleaseWithAward_l90 x6 n a1 v9 m0 v10 v11 = some (rv, xr) → W p l e (rmk 3 0 0 64) s m args below meth c H locs 0 0 (KQI G below args s A (wM G ad xr) rv 0 0) (F0 m 90 ls []) := by
          intro m0
          induction m0 with
          | zero => intro v10 v11 H locs ls hw hl hf; cases hf
          | succ mL12 ih12 =>
            intro v10 v11 H locs ls hw hl hf
            unfold f_X7_lastReleaseWithAward_l90 at hf
            refine lv_iload hx hb dX7_lastReleaseWithAward_90 (lv_at hl 4 rfl) ?_
            refine lv_aload_n hx hb dX7_lastReleaseWithAward_92 rfl (lv_at hl 0 rfl) ?_
            refine M_g_0_6 F ws_in hw fl_X7_140 dX7_lastReleaseWithAward_93 ?_
            refine lv_icmp_ge (tgt := 233) hx hb dX7_lastReleaseWithAward_96 rfl (fun c13 => ?_) (fun c13 => ?_)
            · have hf := q_t c13 hf
              refine lv_iload_n hx hb dX7_lastReleaseWithAward_233 rfl (lv_at hl 3 rfl) ?_
              obtain ⟨rfl, rfl⟩ := q_s2 hf
              exact k_iret F hr hlk hw (Nat.le_of_ble_eq_true rfl) (Nat.le_of_ble_eq_true rfl) dX7_lastReleaseWithAward_234
            · have hf := q_f c13 hf
              refine lv_iconst (v := 0) hx hb dX7_lastReleaseWithAward_99 (by decide) ?_
              refine lv_istore (lv' := [(5, .int (0 : Int32)), (0, .ref (ad 0)), (1, .int a1), (2, .int v9), (3, .int v10), (4, .int v11)]) hx hb dX7_lastReleaseWithAward_100 hl (Nat.le_of_ble_eq_true rfl) rfl (fun ls hl => ?_)
              refine lv_iload hx hb dX7_lastReleaseWithAward_102 (lv_at hl 5 rfl) ?_
              refine lv_istore (lv' := [(6, .int v11), (5, .int (0 : Int32)), (0, .ref (ad 0)), (1, .int a1), (2, .int v9), (3, .int v10), (4, .int v11)]) hx hb dX7_lastReleaseWithAward_104 hl (Nat.le_of_ble_eq_true rfl) rfl (fun ls hl => ?_)
              have E39 : ∀ (v14 : Int32) (H : Heap) (locs : List Loc) (ls : Array Slot), Wd G (wM G ad x6) A s H locs → lv_has ls 7 [(0, .ref (ad 0)), (1, .int a1), (2, .int v9), (3, .int v10), (4, .int v11), (5, .int v14)] → f_X7_lastReleaseWithAward_e146 n x6 v11 a1 v10 (f_X7_lastReleaseWithAward_l90 x6 n a1 v9 mL12) v14 = some (rv, xr) → W p l e (rmk 3 0 0 64) s m args below meth c H locs 0 0 (KQI G below args s A (wM G ad xr) rv 0 0) (F0 m 146 ls []) := by
                intro v14 H locs ls hw hl hf
                unfold f_X7_lastReleaseWithAward_e146 at hf
                refine lv_aload_n hx hb dX7_lastReleaseWithAward_146 rfl (lv_at hl 0 rfl) ?_
                refine lv_iload hx hb dX7_lastReleaseWithAward_147 (lv_at hl 4 rfl) ?_
                obtain ⟨r15, h16, hf⟩ := qbd_e hf
                refine k_callVi' (rest := []) (As := [.int v11]) F ws_in (t_X7_isIn h16) cv_X7_isIn ml_X7_165 hw 0 rfl rfl rfl hl.1 rfl (Nat.le_of_ble_eq_true rfl) ⟨Nat.le_of_ble_eq_true rfl, Nat.le_of_ble_eq_true rfl⟩ ⟨Nat.le_of_ble_eq_true rfl, Nat.le_of_ble_eq_true rfl⟩ dX7_lastReleaseWithAward_149 (fun H locs hw => ?_)
                obtain ⟨v17, hq38, hf⟩ := qbd_e hf
                have J18 : ∀ (H : Heap) (locs : List Loc) (ls : Array Slot), Wd G (wM G ad x6) A s H locs → lv_has ls 7 [(0, .ref (ad 0)), (1, .int a1), (2, .int v9), (3, .int v10), (4, .int v11)] → W p l e (rmk 3 0 0 64) s m args below meth c H locs 0 0 (KQI G below args s A (wM G ad xr) rv 0 0) (F0 m 177 ls [.int v17]) := by
                  intro H locs ls hw hl
                  refine lv_istore (lv' := [(6, .int v17), (0, .ref (ad 0)), (1, .int a1), (2, .int v9), (3, .int v10), (4, .int v11)]) hx hb dX7_lastReleaseWithAward_177 hl (Nat.le_of_ble_eq_true rfl) rfl (fun ls hl => ?_)
                  refine lv_aload_n hx hb dX7_lastReleaseWithAward_179 rfl (lv_at hl 1 rfl) ?_
                  refine lv_iload hx hb dX7_lastReleaseWithAward_180 (lv_at hl 5 rfl) ?_
                  obtain ⟨r19, h20, hf⟩ := qbd_e hf
                  refine k_callVi' (rest := []) (As := [.int v11]) F ws_in (t_X7_isIn h20) cv_X7_isIn ml_X7_165 hw 0 rfl rfl rfl hl.1 rfl (Nat.le_of_ble_eq_true rfl) ⟨Nat.le_of_ble_eq_true rfl, Nat.le_of_ble_eq_true rfl⟩ ⟨Nat.le_of_ble_eq_true rfl, Nat.le_of_ble_eq_true rfl⟩ dX7_lastReleaseWithAward_182 (fun H locs hw => ?_)
                  obtain ⟨v21, hq31, hf⟩ := qbd_e hf
                  have J22 : ∀ (H : Heap) (locs : List Loc) (ls : Array Slot), Wd G (wM G ad x6) A s H locs → lv_has ls 7 [(0, .ref (ad 0)), (1, .int a1), (2, .int v9), (3, .int v10), (4, .int v11)] → W p l e (rmk 3 0 0 64) s m args below meth c H locs 0 0 (KQI G below args s A (wM G ad xr) rv 0 0) (F0 m 212 ls [.int v21]) := by
                    intro H locs ls hw hl
                    refine lv_istore (lv' := [(6, .int v21), (0, .ref (ad 0)), (1, .int a1), (2, .int v9), (3, .int v10), (4, .int v11)]) hx hb dX7_lastReleaseWithAward_212 hl (Nat.le_of_ble_eq_true rfl) rfl (fun ls hl => ?_)
                    refine lv_iload hx hb dX7_lastReleaseWithAward_214 (lv_at hl 0 rfl) ?_
                    refine lv_iload_n hx hb dX7_lastReleaseWithAward_216 rfl (lv_at hl 4 rfl) ?_
                    obtain ⟨v23, hq27, hf⟩ := qbd_e hf
                    have J24 : ∀ (H : Heap) (locs : List Loc) (ls : Array Slot), Wd G (wM G ad x6) A s H locs → lv_has ls 7 [(0, .ref (ad 0)), (1, .int a1), (2, .int v9), (4, .int v11)] → W p l e (rmk 3 0 0 64) s m args below meth c H locs 0 0 (KQI G below args s A (wM G ad xr) rv 0 0) (F0 m 226 ls [.int v23]) := by
                      intro H locs ls hw hl
                      refine lv_istore_n (lv' := [(3, .int v23), (0, .ref (ad 0)), (1, .int a1), (2, .int v9), (4, .int v11)]) hx hb dX7_lastReleaseWithAward_226 rfl hl (Nat.le_of_ble_eq_true rfl) rfl (fun ls hl => ?_)
                      obtain ⟨v25, ev25⟩ : ∃ y : Int32, y = v11 + (1 : Int32) := ⟨_, rfl⟩
                      refine lv_iinc (v := v25) (lv' := [(4, .int v25), (3, .int v23), (0, .ref (ad 0)), (1, .int a1), (2, .int v9)]) hx hb dX7_lastReleaseWithAward_227 hl (k := 4) rfl (by rw [ev25]; rfl) (Nat.le_of_ble_eq_true rfl) rfl (fun ls hl => ?_)
                      have hf := qnm_k ev25 hf
                      refine lv_goto (tgt := 90) hx hb dX7_lastReleaseWithAward_230 rfl ?_
                      exact ih12 v23 v25 _ _ _ hw (lv_sub hl [2, 3, 4, 1, 0] rfl) hf
                    have hf := hq27
                    refine lv_icmp_le (tgt := 225) hx hb dX7_lastReleaseWithAward_217 rfl (fun c26 => ?_) (fun c26 => ?_)
                    · have hf := q_t c26 hf
                      refine lv_iload_n hx hb dX7_lastReleaseWithAward_225 rfl (lv_at hl 4 rfl) ?_
                      obtain rfl := q_s hf
                      exact J24 _ _ _ hw (lv_sub hl [1, 2, 3, 5] rfl)
                    · have hf := q_f c26 hf
                      refine lv_iload hx hb dX7_lastReleaseWithAward_220 (lv_at hl 0 rfl) ?_
                      refine lv_goto (tgt := 226) hx hb dX7_lastReleaseWithAward_222 rfl ?_
                      obtain rfl := q_s hf
                      exact J24 _ _ _ hw (lv_sub hl [1, 2, 3, 5] rfl)
                  have hf := hq31
                  refine lv_if_eq (tgt := 210) hx hb dX7_lastReleaseWithAward_185 rfl (fun c28 => ?_) (fun c28 => ?_)
                  · have hf := q_t c28 hf
                    refine lv_iload hx hb dX7_lastReleaseWithAward_210 (lv_at hl 0 rfl) ?_
                    obtain rfl := q_s hf
                    exact J22 _ _ _ hw (lv_sub hl [1, 2, 3, 4, 5] rfl)
                  · have hf := q_f c28 hf
                    refine lv_iload hx hb dX7_lastReleaseWithAward_188 (lv_at hl 0 rfl) ?_
                    refine lv_aload_n hx hb dX7_lastReleaseWithAward_190 rfl (lv_at hl 1 rfl) ?_
                    refine M_g_0_39 F ws_in hw fl_X7_84 dX7_lastReleaseWithAward_191 ?_
                    refine lv_iload hx hb dX7_lastReleaseWithAward_194 (lv_at hl 5 rfl) ?_
                    obtain ⟨g29, hf⟩ := qgd_e hf
                    refine M_l_49 F hw g29 dX7_lastReleaseWithAward_196 ?_
                    refine lv_icmp_le (tgt := 210) hx hb dX7_lastReleaseWithAward_197 rfl (fun c30 => ?_) (fun c30 => ?_)
                    · have hf := q_t c30 hf
                      refine lv_iload hx hb dX7_lastReleaseWithAward_210 (lv_at hl 0 rfl) ?_
                      obtain rfl := q_s hf
                      exact J22 _ _ _ hw (lv_sub hl [1, 2, 3, 4, 5] rfl)
                    · have hf := q_f c30 hf
                      refine lv_aload_n hx hb dX7_lastReleaseWithAward_200 rfl (lv_at hl 1 rfl) ?_
                      refine M_g_0_39 F ws_in hw fl_X7_84 dX7_lastReleaseWithAward_201 ?_
                      refine lv_iload hx hb dX7_lastReleaseWithAward_204 (lv_at hl 5 rfl) ?_
                      refine M_l_49 F hw g29 dX7_lastReleaseWithAward_206 ?_
                      refine lv_goto (tgt := 212) hx hb dX7_lastReleaseWithAward_207 rfl ?_
                      obtain rfl := q_s hf
                      exact J22 _ _ _ hw (lv_sub hl [1, 2, 3, 4, 5] rfl)
                have hf := hq38
                refine lv_if_eq (tgt := 176) hx hb dX7_lastReleaseWithAward_152 rfl (fun c32 => ?_) (fun c32 => ?_)
                · have hf := q_t c32 hf
                  refine lv_iconst (v := 0) hx hb dX7_lastReleaseWithAward_176 (by decide) ?_
                  obtain rfl := q_s hf
                  exact J18 _ _ _ hw (lv_sub hl [0, 1, 2, 3, 4] rfl)
                · have hf := q_f c32 hf
                  refine lv_aload_n hx hb dX7_lastReleaseWithAward_155 rfl (lv_at hl 0 rfl) ?_
                  refine M_g_0_38 F ws_in hw fl_X7_81 dX7_lastReleaseWithAward_156 ?_
                  refine lv_iload hx hb dX7_lastReleaseWithAward_159 (lv_at hl 4 rfl) ?_
                  obtain ⟨g33, hf⟩ := qgd_e hf
                  refine M_l_48 F hw g33 dX7_lastReleaseWithAward_161 ?_
                  refine lv_iload hx hb dX7_lastReleaseWithAward_162 (lv_at hl 5 rfl) ?_
                  obtain ⟨v34, hq37, hf⟩ := qbd_e hf
                  have J35 : ∀ (H : Heap) (locs : List Loc) (ls : Array Slot), Wd G (wM G ad x6) A s H locs → lv_has ls 7 [(0, .ref (ad 0)), (1, .int a1), (2, .int v9), (3, .int v10), (4, .int v11)] → W p l e (rmk 3 0 0 64) s m args below meth c H locs 0 0 (KQI G below args s A (wM G ad xr) rv 0 0) (F0 m 172 ls [.int v34, .int (x6.1 48 v11.toNatClampNeg)]) := by
                    intro H locs ls hw hl
                    refine lv_iadd hx hb dX7_lastReleaseWithAward_172 ?_
                    refine lv_goto (tgt := 177) hx hb dX7_lastReleaseWithAward_173 rfl ?_
                    obtain rfl := q_s hf
                    exact J18 _ _ _ hw (lv_sub hl [0, 1, 2, 3, 4] rfl)
                  have hf := hq37
                  refine lv_if_eq (tgt := 171) hx hb dX7_lastReleaseWithAward_164 rfl (fun c36 => ?_) (fun c36 => ?_)
                  · have hf := q_t c36 hf
                    refine lv_iconst (v := 0) hx hb dX7_lastReleaseWithAward_171 (by decide) ?_
                    obtain rfl := q_s hf
                    exact J35 _ _ _ hw (lv_sub hl [0, 1, 2, 3, 4] rfl)
                  · have hf := q_f c36 hf
                    refine lv_iload_n hx hb dX7_lastReleaseWithAward_167 rfl (lv_at hl 1 rfl) ?_
                    refine lv_goto (tgt := 172) hx hb dX7_lastReleaseWithAward_168 rfl ?_
                    obtain rfl := q_s hf
                    exact J35 _ _ _ hw (lv_sub hl [0, 1, 2, 3, 4] rfl)
              have L42 : ∀ (m0 : Nat) (v40 : Int32) (v41 : Int32) (H : Heap) (locs : List Loc) (ls : Array Slot), Wd G (wM G ad x6) A s H locs → lv_has ls 7 [(0, .ref (ad 0)), (1, .int a1), (2, .int v9), (3, .int v10), (4, .int v11), (5, .int v40), (6, .int v41)] → f_X7_lastReleaseWithAward_l106 n x6 v11 a1 v10 (f_X7_lastReleaseWithAward_l90 x6 n a1 v9 mL12) v9 m0 v40 v41 = some (rv, xr) → W p l e (rmk 3 0 0 64) s m args below meth c H locs 0 0 (KQI G below args s A (wM G ad xr) rv 0 0) (F0 m 106 ls []) := by
                intro m0
                induction m0 with
                | zero => intro v40 v41 H locs ls hw hl hf; cases hf
                | succ mL42 ih42 =>
                  intro v40 v41 H locs ls hw hl hf
                  unfold f_X7_lastReleaseWithAward_l106 at hf
                  refine lv_iload hx hb dX7_lastReleaseWithAward_106 (lv_at hl 6 rfl) ?_
                  refine lv_iconst (v := -1) hx hb dX7_lastReleaseWithAward_108 (by decide) ?_
                  refine lv_icmp_eq (tgt := 146) hx hb dX7_lastReleaseWithAward_109 rfl (fun c43 => ?_) (fun c43 => ?_)
                  · have hf := q_t c43 hf
                    exact E39 v40 _ _ _ hw (lv_sub hl [0, 1, 2, 3, 4, 5] rfl) hf
                  · have hf := q_f c43 hf
                    refine lv_iload hx hb dX7_lastReleaseWithAward_112 (lv_at hl 5 rfl) ?_
                    obtain ⟨v44, hq50, hf⟩ := qbd_e hf
                    have J45 : ∀ (H : Heap) (locs : List Loc) (ls : Array Slot), Wd G (wM G ad x6) A s H locs → lv_has ls 7 [(0, .ref (ad 0)), (1, .int a1), (2, .int v9), (3, .int v10), (4, .int v11), (6, .int v41)] → W p l e (rmk 3 0 0 64) s m args below meth c H locs 0 0 (KQI G below args s A (wM G ad xr) rv 0 0) (F0 m 132 ls [.int v44]) := by
                      intro H locs ls hw hl
                      refine lv_istore (lv' := [(5, .int v44), (0, .ref (ad 0)), (1, .int a1), (2, .int v9), (3, .int v10), (4, .int v11), (6, .int v41)]) hx hb dX7_lastReleaseWithAward_132 hl (Nat.le_of_ble_eq_true rfl) rfl (fun ls hl => ?_)
                      refine lv_aload_n hx hb dX7_lastReleaseWithAward_134 rfl (lv_at hl 1 rfl) ?_
                      refine M_g_0_12 F ws_in hw fl_X7_32 dX7_lastReleaseWithAward_135 ?_
                      refine lv_iload hx hb dX7_lastReleaseWithAward_138 (lv_at hl 6 rfl) ?_
                      obtain ⟨g46, hf⟩ := qgd_e hf
                      refine M_l_22 F hw g46 dX7_lastReleaseWithAward_140 ?_
                      refine lv_topi (fun v47 ev47 => ?_)
                      have hf := qnm_k ev47 hf
                      refine lv_istore (lv' := [(6, .int v47), (5, .int v44), (0, .ref (ad 0)), (1, .int a1), (2, .int v9), (3, .int v10), (4, .int v11)]) hx hb dX7_lastReleaseWithAward_141 hl (Nat.le_of_ble_eq_true rfl) rfl (fun ls hl => ?_)
                      refine lv_goto (tgt := 106) hx hb dX7_lastReleaseWithAward_143 rfl ?_
                      exact ih42 v44 v47 _ _ _ hw (lv_sub hl [2, 3, 4, 5, 6, 1, 0] rfl) hf
                    have hf := hq50
                    refine lv_if_ne (tgt := 127) hx hb dX7_lastReleaseWithAward_114 rfl (fun c48 => ?_) (fun c48 => ?_)
                    · have hf := q_f c48 hf
                      refine lv_iconst (v := 1) hx hb dX7_lastReleaseWithAward_127 (by decide) ?_
                      refine lv_goto (tgt := 132) hx hb dX7_lastReleaseWithAward_128 rfl ?_
                      obtain rfl := q_s hf
                      exact J45 _ _ _ hw (lv_sub hl [0, 1, 2, 3, 4, 6] rfl)
                    · have hf := q_t c48 hf
                      refine lv_iload_n hx hb dX7_lastReleaseWithAward_117 rfl (lv_at hl 2 rfl) ?_
                      refine lv_iload hx hb dX7_lastReleaseWithAward_118 (lv_at hl 6 rfl) ?_
                      refine lv_ishr hx hb dX7_lastReleaseWithAward_120 ?_
                      refine lv_iconst (v := 1) hx hb dX7_lastReleaseWithAward_121 (by decide) ?_
                      refine lv_iand hx hb dX7_lastReleaseWithAward_122 ?_
                      refine lv_iconst (v := 1) hx hb dX7_lastReleaseWithAward_123 (by decide) ?_
                      refine lv_icmp_ne (tgt := 131) hx hb dX7_lastReleaseWithAward_124 rfl (fun c49 => ?_) (fun c49 => ?_)
                      · have hf := q_f c49 hf
                        refine lv_iconst (v := 0) hx hb dX7_lastReleaseWithAward_131 (by decide) ?_
                        obtain rfl := q_s hf
                        exact J45 _ _ _ hw (lv_sub hl [0, 1, 2, 3, 4, 6] rfl)
                      · have hf := q_t c49 hf
                        refine lv_iconst (v := 1) hx hb dX7_lastReleaseWithAward_127 (by decide) ?_
                        refine lv_goto (tgt := 132) hx hb dX7_lastReleaseWithAward_128 rfl ?_
                        obtain rfl := q_s hf
                        exact J45 _ _ _ hw (lv_sub hl [0, 1, 2, 3, 4, 6] rfl)
              exact L42 n (0 : Int32) v11 _ _ _ hw (lv_sub hl [2, 3, 4, 5, 6, 1, 0] rfl) hf
        exact L12 n (0 : Int32) (0 : Int32) _ _ _ hw (lv_sub hl [2, 3, 4, 1, 0] rfl) hf
      have L54 : ∀ (m0 : Nat) (v52 : Int32) (v53 : Int32) (H : Heap) (locs : List Loc) (ls : Array Slot), Wd G (wM G ad x6) A s H locs → lv_has ls 7 [(0, .ref (ad 0)), (1, .int a1), (2, .int v52), (3, .int v53)] → f_X7_lastReleaseWithAward_l40 x6 n a1 m0 v52 v53 = some (rv, xr) → W p l e (rmk 3 0 0 64) s m args below meth c H locs 0 0 (KQI G below args s A (wM G ad xr) rv 0 0) (F0 m 40 ls []) := by
        intro m0
        induction m0 with
        | zero => intro v52 v53 H locs ls hw hl hf; cases hf
        | succ mL54 ih54 =>
          intro v52 v53 H locs ls hw hl hf
          unfold f_X7_lastReleaseWithAward_l40 at hf
          refine lv_iload_n hx hb dX7_lastReleaseWithAward_40 rfl (lv_at hl 3 rfl) ?_
          refine lv_aload_n hx hb dX7_lastReleaseWithAward_41 rfl (lv_at hl 0 rfl) ?_
          refine M_g_0_6 F ws_in hw fl_X7_140 dX7_lastReleaseWithAward_42 ?_
          refine lv_icmp_ge (tgt := 85) hx hb dX7_lastReleaseWithAward_45 rfl (fun c55 => ?_) (fun c55 => ?_)
          · have hf := q_t c55 hf
            exact E51 v52 _ _ _ hw (lv_sub hl [0, 1, 2] rfl) hf
          · have hf := q_f c55 hf
            refine lv_iload_n hx hb dX7_lastReleaseWithAward_48 rfl (lv_at hl 2 rfl) ?_
            refine lv_aload_n hx hb dX7_lastReleaseWithAward_49 rfl (lv_at hl 0 rfl) ?_
            refine lv_iload_n hx hb dX7_lastReleaseWithAward_50 rfl (lv_at hl 3 rfl) ?_
            obtain ⟨r56, h57, hf⟩ := qbd_e hf
            refine k_callVi' (rest := [.int v52]) (As := [.int v53]) F ws_in (t_X7_isIn h57) cv_X7_isIn ml_X7_165 hw 0 rfl rfl rfl hl.1 rfl (Nat.le_of_ble_eq_true rfl) ⟨Nat.le_of_ble_eq_true rfl, Nat.le_of_ble_eq_true rfl⟩ ⟨Nat.le_of_ble_eq_true rfl, Nat.le_of_ble_eq_true rfl⟩ dX7_lastReleaseWithAward_51 (fun H locs hw => ?_)
            obtain ⟨v58, hq65, hf⟩ := qbd_e hf
            have J59 : ∀ (H : Heap) (locs : List Loc) (ls : Array Slot), Wd G (wM G ad x6) A s H locs → lv_has ls 7 [(0, .ref (ad 0)), (1, .int a1), (3, .int v53)] → W p l e (rmk 3 0 0 64) s m args below meth c H locs 0 0 (KQI G below args s A (wM G ad xr) rv 0 0) (F0 m 77 ls [.int v58, .int v52]) := by
              intro H locs ls hw hl
              refine lv_ior hx hb dX7_lastReleaseWithAward_77 ?_
              refine lv_topi (fun v60 ev60 => ?_)
              have hf := qnm_k ev60 hf
              refine lv_istore_n (lv' := [(2, .int v60), (0, .ref (ad 0)), (1, .int a1), (3, .int v53)]) hx hb dX7_lastReleaseWithAward_78 rfl hl (Nat.le_of_ble_eq_true rfl) rfl (fun ls hl => ?_)
              obtain ⟨v61, ev61⟩ : ∃ y : Int32, y = v53 + (1 : Int32) := ⟨_, rfl⟩
              refine lv_iinc (v := v61) (lv' := [(3, .int v61), (2, .int v60), (0, .ref (ad 0)), (1, .int a1)]) hx hb dX7_lastReleaseWithAward_79 hl (k := 3) rfl (by rw [ev61]; rfl) (Nat.le_of_ble_eq_true rfl) rfl (fun ls hl => ?_)
              have hf := qnm_k ev61 hf
              refine lv_goto (tgt := 40) hx hb dX7_lastReleaseWithAward_82 rfl ?_
              exact ih54 v60 v61 _ _ _ hw (lv_sub hl [2, 3, 1, 0] rfl) hf
            have hf := hq65
            refine lv_if_eq (tgt := 76) hx hb dX7_lastReleaseWithAward_54 rfl (fun c62 => ?_) (fun c62 => ?_)
            · have hf := q_t c62 hf
              refine lv_iconst (v := 0) hx hb dX7_lastReleaseWithAward_76 (by decide) ?_
              obtain rfl := q_s hf
              exact J59 _ _ _ hw (lv_sub hl [0, 1, 3] rfl)
            · have hf := q_f c62 hf
              refine lv_aload_n hx hb dX7_lastReleaseWithAward_57 rfl (lv_at hl 0 rfl) ?_
              refine M_g_0_38 F ws_in hw fl_X7_81 dX7_lastReleaseWithAward_58 ?_
              refine lv_iload_n hx hb dX7_lastReleaseWithAward_61 rfl (lv_at hl 3 rfl) ?_
              obtain ⟨g63, hf⟩ := qgd_e hf
              refine M_l_48 F hw g63 dX7_lastReleaseWithAward_62 ?_
              refine lv_aload_n hx hb dX7_lastReleaseWithAward_63 rfl (lv_at hl 0 rfl) ?_
              refine M_g_0_1 F ws_in hw fl_X7_187 dX7_lastReleaseWithAward_64 ?_
              refine lv_icmp_le (tgt := 76) hx hb dX7_lastReleaseWithAward_67 rfl (fun c64 => ?_) (fun c64 => ?_)
              · have hf := q_t c64 hf
                refine lv_iconst (v := 0) hx hb dX7_lastReleaseWithAward_76 (by decide) ?_
                obtain rfl := q_s hf
                exact J59 _ _ _ hw (lv_sub hl [0, 1, 3] rfl)
              · have hf := q_f c64 hf
                refine lv_iconst (v := 1) hx hb dX7_lastReleaseWithAward_70 (by decide) ?_
                refine lv_iload_n hx hb dX7_lastReleaseWithAward_71 rfl (lv_at hl 3 rfl) ?_
                refine lv_ishl hx hb dX7_lastReleaseWithAward_72 ?_
                refine lv_goto (tgt := 77) hx hb dX7_lastReleaseWithAward_73 rfl ?_
                obtain rfl := q_s hf
                exact J59 _ _ _ hw (lv_sub hl [0, 1, 3] rfl)
      exact L54 n (0 : Int32) (0 : Int32) _ _ _ hw (lv_sub hl [2, 3, 1, 0] rfl) hf
    · have hf := q_f c8 hf
      refine lv_iconst (v := 0) hx hb dX7_lastReleaseWithAward_34 (by decide) ?_
      obtain ⟨rfl, rfl⟩ := q_s2 hf
      exact k_iret F hr hlk hw (Nat.le_of_ble_eq_true rfl) (Nat.le_of_ble_eq_true rfl) dX7_lastReleaseWithAward_35
  have hf := hq70
  refine lv_if_ne (tgt := 15) hx hb dX7_lastReleaseWithAward_8 rfl (fun c66 => ?_) (fun c66 => ?_)
  · have hf := q_f c66 hf
    refine lv_aload_n hx hb dX7_lastReleaseWithAward_15 rfl (lv_at hl 0 rfl) ?_
    obtain ⟨r67, h68, hf⟩ := qbd_e hf
    refine k_callVi' (rest := [.ref (ad 0)]) (As := []) F ws_in (t_X7_statusNow h68) cv_X7_statusNow ml_X7_234 hw 0 rfl rfl rfl hl.1 rfl (Nat.le_of_ble_eq_true rfl) ⟨Nat.le_of_ble_eq_true rfl, Nat.le_of_ble_eq_true rfl⟩ ⟨Nat.le_of_ble_eq_true rfl, Nat.le_of_ble_eq_true rfl⟩ dX7_lastReleaseWithAward_16 (fun H locs hw => ?_)
    refine lv_iconst (v := 2) hx hb dX7_lastReleaseWithAward_19 (by decide) ?_
    refine lv_icmp_ne (tgt := 27) hx hb dX7_lastReleaseWithAward_20 rfl (fun c69 => ?_) (fun c69 => ?_)
    · have hf := q_f c69 hf
      refine lv_iconst (v := 2) hx hb dX7_lastReleaseWithAward_27 (by decide) ?_
      obtain rfl := q_s hf
      exact J4 _ _ _ hw (lv_sub hl [0, 1] rfl)
    · have hf := q_t c69 hf
      refine lv_iconst (v := 0) hx hb dX7_lastReleaseWithAward_23 (by decide) ?_
      refine lv_goto (tgt := 28) hx hb dX7_lastReleaseWithAward_24 rfl ?_
      obtain rfl := q_s hf
      exact J4 _ _ _ hw (lv_sub hl [0, 1] rfl)
  · have hf := q_t c66 hf
    refine lv_iconst (v := 1) hx hb dX7_lastReleaseWithAward_11 (by decide) ?_
    refine lv_goto (tgt := 28) hx hb dX7_lastReleaseWithAward_12 rfl ?_
    obtain rfl := q_s hf
    exact J4 _ _ _ hw (lv_sub hl [0, 1] rfl)
def f_X7_lastReleaseWithout_e116 (n : Nat) (r9 : Int32) (r11 : Int32) (x15 : SX) : Option (Int32 × SX) := (qbd (f_X7_works n x15) fun x16 => (qbd (if r9 = 0 then some (3 : Int32) else some (0 : Int32)) fun v18 => (qbd2 (f_X7_fails n x16 v18) fun r20 x21 => (qbd (if r20 = 0 then some r11 else some (0 : Int32)) fun v23 => some (v23, x21)))))
def f_X7_lastReleaseWithout_l75 (n : Nat) (r9 : Int32) (r11 : Int32) : Nat → Int32 → SX → Option (Int32 × SX)
  | 0, _, _ => none
  | m + 1, v30, x31 => (if (10 : Int32) ≤ v30 then f_X7_lastReleaseWithout_e116 n r9 r11 x31 else (qgd (qin v30 10) ((qnm (si x31 22 v30.toNatClampNeg (x31.1 50 v30.toNatClampNeg)) fun x35 => (qnm (si x35 21 v30.toNatClampNeg (x35.1 51 v30.toNatClampNeg)) fun x36 => (qnm (v30 + (1 : Int32)) fun v37 => (f_X7_lastReleaseWithout_l75 n r9 r11 m) v37 x36))))))
def f_X7_lastReleaseWithout_e48 (n : Nat) (a1 : Int32) (x5 : SX) : Option (Int32 × SX) := (qbd2 (f_X7_quashes n x5 a1) fun r6 x7 => (qbd (f_X7_isAny n x7) fun r9 => (qbd (f_X7_releaseOfAll n x7) fun r11 => (qgd (qin a1 10) ((qnm (si x7 23 a1.toNatClampNeg (0 : Int32)) fun x14 => f_X7_lastReleaseWithout_l75 n r9 r11 n (0 : Int32) x14))))))
def f_X7_lastReleaseWithout_l12 (n : Nat) (a1 : Int32) : Nat → Int32 → SX → Option (Int32 × SX)
  | 0, _, _ => none
  | m + 1, v39, x40 => (if (10 : Int32) ≤ v39 then f_X7_lastReleaseWithout_e48 n a1 x40 else (qgd (qin v39 10) ((qnm (si x40 50 v39.toNatClampNeg (x40.1 22 v39.toNatClampNeg)) fun x44 => (qnm (si x44 51 v39.toNatClampNeg (x44.1 21 v39.toNatClampNeg)) fun x45 => (qnm (v39 + (1 : Int32)) fun v46 => (f_X7_lastReleaseWithout_l12 n a1 m) v46 x45))))))
def f_X7_lastReleaseWithout (n : Nat) (x : SX) (a1 : Int32) : Option (Int32 × SX) := (qbd2 (f_X7_failsFor n x a1) fun r1 x2 => (if r1 = 0 then f_X7_lastReleaseWithout_l12 n a1 n (0 : Int32) x2 else some ((0 : Int32), x2)))
set_option maxHeartbeats 4000000 in
set_option maxRecDepth 100000 in
theorem t_X7_lastReleaseWithout {G : gG} {l : Launch} {ad : Nat → Nat} {n : Nat} {x : SX} {a1 : Int32} {rv : Int32} {xr : SX} (hf : f_X7_lastReleaseWithout n x a1 = some (rv, xr)) : MetI G l yX7_lastReleaseWithout cX7_lastReleaseWithout 6 (some .int) 7 0 0 160 [.ref (ad 0), .int a1] (wM G ad x) (wM G ad xr) rv := by
  refine k_ofI (by decide) (Nat.le_of_ble_eq_true rfl) ?_
  intro p e s m args below meth c ls A F hr hlk hl hw
  have hx := F.1
  have hb := F.2.1
  have hl : lv_has ls 6 [(0, .ref (ad 0)), (1, .int a1)] := hl
  unfold f_X7_lastReleaseWithout at hf
  refine lv_aload_n hx hb dX7_lastReleaseWithout_0 rfl (lv_at hl 0 rfl) ?_
  refine lv_iload_n hx hb dX7_lastReleaseWithout_1 rfl (lv_at hl 1 rfl) ?_
  obtain ⟨r1, x2, h3, hf⟩ := qbd2_e hf
  refine k_callVi' (rest := []) (As := [.int a1]) F ws_in (t_X7_failsFor h3) cv_X7_failsFor ml_X7_242 hw 0 rfl rfl rfl hl.1 rfl (Nat.le_of_ble_eq_true rfl) ⟨Nat.le_of_ble_eq_true rfl, Nat.le_of_ble_eq_true rfl⟩ ⟨Nat.le_of_ble_eq_true rfl, Nat.le_of_ble_eq_true rfl⟩ dX7_lastReleaseWithout_2 (fun H locs hw => ?_)
  refine lv_if_eq (tgt := 10) hx hb dX7_lastReleaseWithout_5 rfl (fun c4 => ?_) (fun c4 => ?_)
  · have hf := q_t c4 hf
    refine lv_iconst (v := 0) hx hb dX7_lastReleaseWithout_10 (by decide) ?_
    refine lv_istore_n (lv' := [(2, .int (0 : Int32)), (0, .ref (ad 0)), (1, .int a1)]) hx hb dX7_lastReleaseWithout_11 rfl hl (Nat.le_of_ble_eq_true rfl) rfl (fun ls hl => ?_)
    have E38 : ∀ (x5 : SX) (H : Heap) (locs : List Loc) (ls : Array Slot), Wd G (wM G ad x5) A s H locs → lv_has ls 6 [(0, .ref (ad 0)), (1, .int a1)] → f_X7_lastReleaseWithout_e48 n a1 x5 = some (rv, xr) → W p l e (rmk 7 0 0 160) s m args below meth c H locs 0 0 (KQI G below args s A (wM G ad xr) rv 0 0) (F0 m 48 ls []) := by
      intro x5 H locs ls hw hl hf
      unfold f_X7_lastReleaseWithout_e48 at hf
      refine lv_aload_n hx hb dX7_lastReleaseWithout_48 rfl (lv_at hl 0 rfl) ?_
      refine lv_iload_n hx hb dX7_lastReleaseWithout_49 rfl (lv_at hl 1 rfl) ?_
      obtain ⟨r6, x7, h8, hf⟩ := qbd2_e hf
      refine k_callVi' (rest := []) (As := [.int a1]) F ws_in (t_X7_quashes h8) cv_X7_quashes ml_X7_231 hw 0 rfl rfl rfl hl.1 rfl (Nat.le_of_ble_eq_true rfl) ⟨Nat.le_of_ble_eq_true rfl, Nat.le_of_ble_eq_true rfl⟩ ⟨Nat.le_of_ble_eq_true rfl, Nat.le_of_ble_eq_true rfl⟩ dX7_lastReleaseWithout_50 (fun H locs hw => ?_)
      refine lv_istore_n (lv' := [(2, .int r6), (0, .ref (ad 0)), (1, .int a1)]) hx hb dX7_lastReleaseWithout_53 rfl hl (Nat.le_of_ble_eq_true rfl) rfl (fun ls hl => ?_)
      refine lv_aload_n hx hb dX7_lastReleaseWithout_54 rfl (lv_at hl 1 rfl) ?_
      obtain ⟨r9, h10, hf⟩ := qbd_e hf
      refine k_callVi' (rest := []) (As := []) F ws_in (t_X7_isAny h10) cv_X7_isAny ml_X7_254 hw 0 rfl rfl rfl hl.1 rfl (Nat.le_of_ble_eq_true rfl) ⟨Nat.le_of_ble_eq_true rfl, Nat.le_of_ble_eq_true rfl⟩ ⟨Nat.le_of_ble_eq_true rfl, Nat.le_of_ble_eq_true rfl⟩ dX7_lastReleaseWithout_55 (fun H locs hw => ?_)
      refine lv_istore_n (lv' := [(3, .int r9), (2, .int r6), (0, .ref (ad 0)), (1, .int a1)]) hx hb dX7_lastReleaseWithout_58 rfl hl (Nat.le_of_ble_eq_true rfl) rfl (fun ls hl => ?_)
      refine lv_aload_n hx hb dX7_lastReleaseWithout_59 rfl (lv_at hl 2 rfl) ?_
      obtain ⟨r11, h12, hf⟩ := qbd_e hf
      refine k_callVi' (rest := []) (As := []) F ws_in (t_X7_releaseOfAll h12) cv_X7_releaseOfAll ml_X7_190 hw 0 rfl rfl rfl hl.1 rfl (Nat.le_of_ble_eq_true rfl) ⟨Nat.le_of_ble_eq_true rfl, Nat.le_of_ble_eq_true rfl⟩ ⟨Nat.le_of_ble_eq_true rfl, Nat.le_of_ble_eq_true rfl⟩ dX7_lastReleaseWithout_60 (fun H locs hw => ?_)
      refine lv_istore (lv' := [(4, .int r11), (3, .int r9), (2, .int r6), (0, .ref (ad 0)), (1, .int a1)]) hx hb dX7_lastReleaseWithout_63 hl (Nat.le_of_ble_eq_true rfl) rfl (fun ls hl => ?_)
      refine lv_aload_n hx hb dX7_lastReleaseWithout_65 rfl (lv_at hl 3 rfl) ?_
      refine M_g_0_13 F ws_in hw fl_X7_35 dX7_lastReleaseWithout_66 ?_
      refine lv_iload_n hx hb dX7_lastReleaseWithout_69 rfl (lv_at hl 4 rfl) ?_
      refine lv_iconst (v := 0) hx hb dX7_lastReleaseWithout_70 (by decide) ?_
      obtain ⟨g13, hf⟩ := qgd_e hf
      refine M_s_23 F hw g13 (by decide) dX7_lastReleaseWithout_71 (fun x14 ex14 H locs hw => ?_)
      have hf := qnm_k ex14 hf
      refine lv_iconst (v := 0) hx hb dX7_lastReleaseWithout_72 (by decide) ?_
      refine lv_istore (lv' := [(5, .int (0 : Int32)), (4, .int r11), (3, .int r9), (2, .int r6), (0, .ref (ad 0)), (1, .int a1)]) hx hb dX7_lastReleaseWithout_73 hl (Nat.le_of_ble_eq_true rfl) rfl (fun ls hl => ?_)
      have E29 : ∀ (x15 : SX) (H : Heap) (locs : List Loc) (ls : Array Slot), Wd G (wM G ad x15) A s H locs → lv_has ls 6 [(0, .ref (ad 0)), (3, .int r9), (4, .int r11)] → f_X7_lastReleaseWithout_e116 n r9 r11 x15 = some (rv, xr) → W p l e (rmk 7 0 0 160) s m args below meth c H locs 0 0 (KQI G below args s A (wM G ad xr) rv 0 0) (F0 m 116 ls []) := by
        intro x15 H locs ls hw hl hf
        unfold f_X7_lastReleaseWithout_e116 at hf
        refine lv_aload_n hx hb dX7_lastReleaseWithout_116 rfl (lv_at hl 0 rfl) ?_
        obtain ⟨x16, h17, hf⟩ := qbd_e hf
        refine k_callVv' (rest := []) (As := []) F ws_in (t_X7_works h17) cv_X7_works ml_X7_206 hw 0 rfl rfl rfl hl.1 rfl (Nat.le_of_ble_eq_true rfl) ⟨Nat.le_of_ble_eq_true rfl, Nat.le_of_ble_eq_true rfl⟩ ⟨Nat.le_of_ble_eq_true rfl, Nat.le_of_ble_eq_true rfl⟩ dX7_lastReleaseWithout_117 (fun H locs hw => ?_)
        refine lv_aload_n hx hb dX7_lastReleaseWithout_120 rfl (lv_at hl 0 rfl) ?_
        refine lv_iload_n hx hb dX7_lastReleaseWithout_121 rfl (lv_at hl 1 rfl) ?_
        obtain ⟨v18, hq28, hf⟩ := qbd_e hf
        have J19 : ∀ (H : Heap) (locs : List Loc) (ls : Array Slot), Wd G (wM G ad x16) A s H locs → lv_has ls 6 [(4, .int r11)] → W p l e (rmk 7 0 0 160) s m args below meth c H locs 0 0 (KQI G below args s A (wM G ad xr) rv 0 0) (F0 m 130 ls [.int v18, .ref (ad 0)]) := by
          intro H locs ls hw hl
          obtain ⟨r20, x21, h22, hf⟩ := qbd2_e hf
          refine k_callVi' (rest := []) (As := [.int v18]) F ws_in (t_X7_fails h22) cv_X7_fails ml_X7_126 hw 0 rfl rfl rfl hl.1 rfl (Nat.le_of_ble_eq_true rfl) ⟨Nat.le_of_ble_eq_true rfl, Nat.le_of_ble_eq_true rfl⟩ ⟨Nat.le_of_ble_eq_true rfl, Nat.le_of_ble_eq_true rfl⟩ dX7_lastReleaseWithout_130 (fun H locs hw => ?_)
          obtain ⟨v23, hq26, hf⟩ := qbd_e hf
          have J24 : ∀ (H : Heap) (locs : List Loc) (ls : Array Slot), Wd G (wM G ad x21) A s H locs → lv_has ls 6 [] → W p l e (rmk 7 0 0 160) s m args below meth c H locs 0 0 (KQI G below args s A (wM G ad xr) rv 0 0) (F0 m 142 ls [.int v23]) := by
            intro H locs ls hw hl
            obtain ⟨rfl, rfl⟩ := q_s2 hf
            exact k_iret F hr hlk hw (Nat.le_of_ble_eq_true rfl) (Nat.le_of_ble_eq_true rfl) dX7_lastReleaseWithout_142
          have hf := hq26
          refine lv_if_eq (tgt := 140) hx hb dX7_lastReleaseWithout_133 rfl (fun c25 => ?_) (fun c25 => ?_)
          · have hf := q_t c25 hf
            refine lv_iload hx hb dX7_lastReleaseWithout_140 (lv_at hl 0 rfl) ?_
            obtain rfl := q_s hf
            exact J24 _ _ _ hw (lv_sub hl [] rfl)
          · have hf := q_f c25 hf
            refine lv_iconst (v := 0) hx hb dX7_lastReleaseWithout_136 (by decide) ?_
            refine lv_goto (tgt := 142) hx hb dX7_lastReleaseWithout_137 rfl ?_
            obtain rfl := q_s hf
            exact J24 _ _ _ hw (lv_sub hl [] rfl)
        have hf := hq28
        refine lv_if_eq (tgt := 129) hx hb dX7_lastReleaseWithout_122 rfl (fun c27 => ?_) (fun c27 => ?_)
        · have hf := q_t c27 hf
          refine lv_iconst (v := 3) hx hb dX7_lastReleaseWithout_129 (by decide) ?_
          obtain rfl := q_s hf
          exact J19 _ _ _ hw (lv_sub hl [2] rfl)
        · have hf := q_f c27 hf
          refine lv_iconst (v := 0) hx hb dX7_lastReleaseWithout_125 (by decide) ?_
          refine lv_goto (tgt := 130) hx hb dX7_lastReleaseWithout_126 rfl ?_
          obtain rfl := q_s hf
          exact J19 _ _ _ hw (lv_sub hl [2] rfl)
      have L32 : ∀ (m0 : Nat) (v30 : Int32) (x31 : SX) (H : Heap) (locs : List Loc) (ls : Array Slot), Wd G (wM G ad x31) A s H locs → lv_has ls 6 [(0, .ref (ad 0)), (3, .int r9), (4, .int r11), (5, .int v30)] → f_X7_lastReleaseWithout_l75 n r9 r11 m0 v30 x31 = some (rv, xr) → W p l e (rmk 7 0 0 160) s m args below meth c H locs 0 0 (KQI G below args s A (wM G ad xr) rv 0 0) (F0 m 75 ls []) := by
        intro m0
        induction m0 with
        | zero => intro v30 x31 H locs ls hw hl hf; cases hf
        | succ mL32 ih32 =>
          intro v30 x31 H locs ls hw hl hf
          unfold f_X7_lastReleaseWithout_l75 at hf
          refine lv_iload hx hb dX7_lastReleaseWithout_75 (lv_at hl 3 rfl) ?_
          refine lv_bipush (v := 10) hx hb dX7_lastReleaseWithout_77 (by decide) ?_
          refine lv_icmp_ge (tgt := 116) hx hb dX7_lastReleaseWithout_79 rfl (fun c33 => ?_) (fun c33 => ?_)
          · have hf := q_t c33 hf
            exact E29 x31 _ _ _ hw (lv_sub hl [0, 1, 2] rfl) hf
          · have hf := q_f c33 hf
            refine lv_aload_n hx hb dX7_lastReleaseWithout_82 rfl (lv_at hl 0 rfl) ?_
            refine M_g_0_12 F ws_in hw fl_X7_32 dX7_lastReleaseWithout_83 ?_
            refine lv_iload hx hb dX7_lastReleaseWithout_86 (lv_at hl 3 rfl) ?_
            refine lv_aload_n hx hb dX7_lastReleaseWithout_88 rfl (lv_at hl 0 rfl) ?_
            refine M_g_0_40 F ws_in hw fl_X7_87 dX7_lastReleaseWithout_89 ?_
            refine lv_iload hx hb dX7_lastReleaseWithout_92 (lv_at hl 3 rfl) ?_
            obtain ⟨g34, hf⟩ := qgd_e hf
            refine M_l_50 F hw g34 dX7_lastReleaseWithout_94 ?_
            refine M_s_22 F hw g34 dX7_lastReleaseWithout_95 (fun x35 ex35 H locs hw => ?_)
            have hf := qnm_k ex35 hf
            refine lv_aload_n hx hb dX7_lastReleaseWithout_96 rfl (lv_at hl 0 rfl) ?_
            refine M_g_0_11 F ws_in hw fl_X7_29 dX7_lastReleaseWithout_97 ?_
            refine lv_iload hx hb dX7_lastReleaseWithout_100 (lv_at hl 3 rfl) ?_
            refine lv_aload_n hx hb dX7_lastReleaseWithout_102 rfl (lv_at hl 0 rfl) ?_
            refine M_g_0_41 F ws_in hw fl_X7_90 dX7_lastReleaseWithout_103 ?_
            refine lv_iload hx hb dX7_lastReleaseWithout_106 (lv_at hl 3 rfl) ?_
            refine M_l_51 F hw g34 dX7_lastReleaseWithout_108 ?_
            refine M_s_21 F hw g34 dX7_lastReleaseWithout_109 (fun x36 ex36 H locs hw => ?_)
            have hf := qnm_k ex36 hf
            obtain ⟨v37, ev37⟩ : ∃ y : Int32, y = v30 + (1 : Int32) := ⟨_, rfl⟩
            refine lv_iinc (v := v37) (lv' := [(5, .int v37), (0, .ref (ad 0)), (3, .int r9), (4, .int r11)]) hx hb dX7_lastReleaseWithout_110 hl (k := 3) rfl (by rw [ev37]; rfl) (Nat.le_of_ble_eq_true rfl) rfl (fun ls hl => ?_)
            have hf := qnm_k ev37 hf
            refine lv_goto (tgt := 75) hx hb dX7_lastReleaseWithout_113 rfl ?_
            exact ih32 v37 x36 _ _ _ hw (lv_sub hl [1, 2, 3, 0] rfl) hf
      exact L32 n (0 : Int32) x14 _ _ _ hw (lv_sub hl [4, 2, 1, 0] rfl) hf
    have L41 : ∀ (m0 : Nat) (v39 : Int32) (x40 : SX) (H : Heap) (locs : List Loc) (ls : Array Slot), Wd G (wM G ad x40) A s H locs → lv_has ls 6 [(0, .ref (ad 0)), (1, .int a1), (2, .int v39)] → f_X7_lastReleaseWithout_l12 n a1 m0 v39 x40 = some (rv, xr) → W p l e (rmk 7 0 0 160) s m args below meth c H locs 0 0 (KQI G below args s A (wM G ad xr) rv 0 0) (F0 m 12 ls []) := by
      intro m0
      induction m0 with
      | zero => intro v39 x40 H locs ls hw hl hf; cases hf
      | succ mL41 ih41 =>
        intro v39 x40 H locs ls hw hl hf
        unfold f_X7_lastReleaseWithout_l12 at hf
        refine lv_iload_n hx hb dX7_lastReleaseWithout_12 rfl (lv_at hl 2 rfl) ?_
        refine lv_bipush (v := 10) hx hb dX7_lastReleaseWithout_13 (by decide) ?_
        refine lv_icmp_ge (tgt := 48) hx hb dX7_lastReleaseWithout_15 rfl (fun c42 => ?_) (fun c42 => ?_)
        · have hf := q_t c42 hf
          exact E38 x40 _ _ _ hw (lv_sub hl [0, 1] rfl) hf
        · have hf := q_f c42 hf
          refine lv_aload_n hx hb dX7_lastReleaseWithout_18 rfl (lv_at hl 0 rfl) ?_
          refine M_g_0_40 F ws_in hw fl_X7_87 dX7_lastReleaseWithout_19 ?_
          refine lv_iload_n hx hb dX7_lastReleaseWithout_22 rfl (lv_at hl 2 rfl) ?_
          refine lv_aload_n hx hb dX7_lastReleaseWithout_23 rfl (lv_at hl 0 rfl) ?_
          refine M_g_0_12 F ws_in hw fl_X7_32 dX7_lastReleaseWithout_24 ?_
          refine lv_iload_n hx hb dX7_lastReleaseWithout_27 rfl (lv_at hl 2 rfl) ?_
          obtain ⟨g43, hf⟩ := qgd_e hf
          refine M_l_22 F hw g43 dX7_lastReleaseWithout_28 ?_
          refine M_s_50 F hw g43 dX7_lastReleaseWithout_29 (fun x44 ex44 H locs hw => ?_)
          have hf := qnm_k ex44 hf
          refine lv_aload_n hx hb dX7_lastReleaseWithout_30 rfl (lv_at hl 0 rfl) ?_
          refine M_g_0_41 F ws_in hw fl_X7_90 dX7_lastReleaseWithout_31 ?_
          refine lv_iload_n hx hb dX7_lastReleaseWithout_34 rfl (lv_at hl 2 rfl) ?_
          refine lv_aload_n hx hb dX7_lastReleaseWithout_35 rfl (lv_at hl 0 rfl) ?_
          refine M_g_0_11 F ws_in hw fl_X7_29 dX7_lastReleaseWithout_36 ?_
          refine lv_iload_n hx hb dX7_lastReleaseWithout_39 rfl (lv_at hl 2 rfl) ?_
          refine M_l_21 F hw g43 dX7_lastReleaseWithout_40 ?_
          refine M_s_51 F hw g43 dX7_lastReleaseWithout_41 (fun x45 ex45 H locs hw => ?_)
          have hf := qnm_k ex45 hf
          obtain ⟨v46, ev46⟩ : ∃ y : Int32, y = v39 + (1 : Int32) := ⟨_, rfl⟩
          refine lv_iinc (v := v46) (lv' := [(2, .int v46), (0, .ref (ad 0)), (1, .int a1)]) hx hb dX7_lastReleaseWithout_42 hl (k := 2) rfl (by rw [ev46]; rfl) (Nat.le_of_ble_eq_true rfl) rfl (fun ls hl => ?_)
          have hf := qnm_k ev46 hf
          refine lv_goto (tgt := 12) hx hb dX7_lastReleaseWithout_45 rfl ?_
          exact ih41 v46 x45 _ _ _ hw (lv_sub hl [1, 2, 0] rfl) hf
    exact L41 n (0 : Int32) x2 _ _ _ hw (lv_sub hl [1, 2, 0] rfl) hf
  · have hf := q_f c4 hf
    refine lv_iconst (v := 0) hx hb dX7_lastReleaseWithout_8 (by decide) ?_
    obtain ⟨rfl, rfl⟩ := q_s2 hf
    exact k_iret F hr hlk hw (Nat.le_of_ble_eq_true rfl) (Nat.le_of_ble_eq_true rfl) dX7_lastReleaseWithout_9
def f_X7_servedDays (n : Nat) (x : SX) : Option (Int32 × SX) := (qnm (si x 0 0 (0 : Int32)) fun x1 => some ((x1.1 0 4), x1))
set_option maxHeartbeats 4000000 in
set_option maxRecDepth 100000 in
theorem t_X7_servedDays {G : gG} {l : Launch} {ad : Nat → Nat} {n : Nat} {x : SX} {rv : Int32} {xr : SX} (hf : f_X7_servedDays n x = some (rv, xr)) : MetI G l yX7_servedDays cX7_servedDays 1 (some .int) 0 0 0 0 [.ref (ad 0)] (wM G ad x) (wM G ad xr) rv := by
  refine k_ofI (by decide) (Nat.le_of_ble_eq_true rfl) ?_
  intro p e s m args below meth c ls A F hr hlk hl hw
  have hx := F.1
  have hb := F.2.1
  have hl : lv_has ls 1 [(0, .ref (ad 0))] := hl
  unfold f_X7_servedDays at hf
  refine lv_aload_n hx hb dX7_servedDays_0 rfl (lv_at hl 0 rfl) ?_
  refine lv_iconst (v := 0) hx hb dX7_servedDays_1 (by decide) ?_
  refine M_p_0_0 F ws_in hw fl_X7_93 dX7_servedDays_2 (fun x1 ex1 H locs hw => ?_)
  have hf := qnm_k ex1 hf
  refine lv_aload_n hx hb dX7_servedDays_5 rfl (lv_at hl 0 rfl) ?_
  refine M_g_0_4 F ws_in hw fl_X7_203 dX7_servedDays_6 ?_
  obtain ⟨rfl, rfl⟩ := q_s2 hf
  exact k_iret F hr hlk hw (Nat.le_of_ble_eq_true rfl) (Nat.le_of_ble_eq_true rfl) dX7_servedDays_9
def f_X7_licenceDays (n : Nat) (x : SX) : Option (Int32 × SX) := (qnm (si x 0 0 (0 : Int32)) fun x1 => some ((x1.1 0 5), x1))
set_option maxHeartbeats 4000000 in
set_option maxRecDepth 100000 in
theorem t_X7_licenceDays {G : gG} {l : Launch} {ad : Nat → Nat} {n : Nat} {x : SX} {rv : Int32} {xr : SX} (hf : f_X7_licenceDays n x = some (rv, xr)) : MetI G l yX7_licenceDays cX7_licenceDays 1 (some .int) 0 0 0 0 [.ref (ad 0)] (wM G ad x) (wM G ad xr) rv := by
  refine k_ofI (by decide) (Nat.le_of_ble_eq_true rfl) ?_
  intro p e s m args below meth c ls A F hr hlk hl hw
  have hx := F.1
  have hb := F.2.1
  have hl : lv_has ls 1 [(0, .ref (ad 0))] := hl
  unfold f_X7_licenceDays at hf
  refine lv_aload_n hx hb dX7_licenceDays_0 rfl (lv_at hl 0 rfl) ?_
  refine lv_iconst (v := 0) hx hb dX7_licenceDays_1 (by decide) ?_
  refine M_p_0_0 F ws_in hw fl_X7_93 dX7_licenceDays_2 (fun x1 ex1 H locs hw => ?_)
  have hf := qnm_k ex1 hf
  refine lv_aload_n hx hb dX7_licenceDays_5 rfl (lv_at hl 0 rfl) ?_
  refine M_g_0_5 F ws_in hw fl_X7_200 dX7_licenceDays_6 ?_
  obtain ⟨rfl, rfl⟩ := q_s2 hf
  exact k_iret F hr hlk hw (Nat.le_of_ble_eq_true rfl) (Nat.le_of_ble_eq_true rfl) dX7_licenceDays_9
def f_X7_statusOn (n : Nat) (x : SX) (a1 : Int32) : Option (Int32 × SX) := (qbd (f_X7_in n a1 (0 : Int32) ((x.1 0 1) - (1 : Int32))) fun r1 => (qbd (if r1 = 0 then some (1 : Int32) else some (0 : Int32)) fun v3 => (qbd2 (f_X7_fails n x v3) fun r5 x6 => (qbd (if r5 = 0 then (qgd (qin a1 14610) (some (x6.1 12 a1.toNatClampNeg))) else some (0 : Int32)) fun v8 => some (v8, x6)))))
set_option maxHeartbeats 4000000 in
set_option maxRecDepth 100000 in
theorem t_X7_statusOn {G : gG} {l : Launch} {ad : Nat → Nat} {n : Nat} {x : SX} {a1 : Int32} {rv : Int32} {xr : SX} (hf : f_X7_statusOn n x a1 = some (rv, xr)) : MetI G l yX7_statusOn cX7_statusOn 2 (some .int) 1 0 0 22 [.ref (ad 0), .int a1] (wM G ad x) (wM G ad xr) rv := by
  refine k_ofI (by decide) (Nat.le_of_ble_eq_true rfl) ?_
  intro p e s m args below meth c ls A F hr hlk hl hw
  have hx := F.1
  have hb := F.2.1
  have hl : lv_has ls 2 [(0, .ref (ad 0)), (1, .int a1)] := hl
  unfold f_X7_statusOn at hf
  refine lv_aload_n hx hb dX7_statusOn_0 rfl (lv_at hl 0 rfl) ?_
  refine lv_iload_n hx hb dX7_statusOn_1 rfl (lv_at hl 1 rfl) ?_
  refine lv_iconst (v := 0) hx hb dX7_statusOn_2 (by decide) ?_
  refine lv_aload_n hx hb dX7_statusOn_3 rfl (lv_at hl 0 rfl) ?_
  refine M_g_0_1 F ws_in hw fl_X7_187 dX7_statusOn_4 ?_
  refine lv_iconst (v := 1) hx hb dX7_statusOn_7 (by decide) ?_
  refine lv_isub hx hb dX7_statusOn_8 ?_
  obtain ⟨r1, h2, hf⟩ := qbd_e hf
  refine k_callPi (rest := [.ref (ad 0)]) (As := [.int a1, .int (0 : Int32), .int ((x.1 0 1) - (1 : Int32))]) F ws_in (t_X7_in h2) cs_X7_in ml_X7_122 hw rfl hl.1 rfl (Nat.le_of_ble_eq_true rfl) ⟨Nat.le_of_ble_eq_true rfl, Nat.le_of_ble_eq_true rfl⟩ ⟨Nat.le_of_ble_eq_true rfl, Nat.le_of_ble_eq_true rfl⟩ dX7_statusOn_9 (fun H locs hw => ?_)
  obtain ⟨v3, hq14, hf⟩ := qbd_e hf
  have J4 : ∀ (H : Heap) (locs : List Loc) (ls : Array Slot), Wd G (wM G ad x) A s H locs → lv_has ls 2 [(0, .ref (ad 0)), (1, .int a1)] → W p l e (rmk 1 0 0 22) s m args below meth c H locs 0 0 (KQI G below args s A (wM G ad xr) rv 0 0) (F0 m 20 ls [.int v3, .ref (ad 0)]) := by
    intro H locs ls hw hl
    obtain ⟨r5, x6, h7, hf⟩ := qbd2_e hf
    refine k_callVi' (rest := []) (As := [.int v3]) F ws_in (t_X7_fails h7) cv_X7_fails ml_X7_126 hw 0 rfl rfl rfl hl.1 rfl (Nat.le_of_ble_eq_true rfl) ⟨Nat.le_of_ble_eq_true rfl, Nat.le_of_ble_eq_true rfl⟩ ⟨Nat.le_of_ble_eq_true rfl, Nat.le_of_ble_eq_true rfl⟩ dX7_statusOn_20 (fun H locs hw => ?_)
    obtain ⟨v8, hq12, hf⟩ := qbd_e hf
    have J9 : ∀ (H : Heap) (locs : List Loc) (ls : Array Slot), Wd G (wM G ad x6) A s H locs → lv_has ls 2 [] → W p l e (rmk 1 0 0 22) s m args below meth c H locs 0 0 (KQI G below args s A (wM G ad xr) rv 0 0) (F0 m 36 ls [.int v8]) := by
      intro H locs ls hw hl
      obtain ⟨rfl, rfl⟩ := q_s2 hf
      exact k_iret F hr hlk hw (Nat.le_of_ble_eq_true rfl) (Nat.le_of_ble_eq_true rfl) dX7_statusOn_36
    have hf := hq12
    refine lv_if_eq (tgt := 30) hx hb dX7_statusOn_23 rfl (fun c10 => ?_) (fun c10 => ?_)
    · have hf := q_t c10 hf
      refine lv_aload_n hx hb dX7_statusOn_30 rfl (lv_at hl 0 rfl) ?_
      refine M_g_0_2 F ws_in hw fl_X7_9 dX7_statusOn_31 ?_
      refine lv_iload_n hx hb dX7_statusOn_34 rfl (lv_at hl 1 rfl) ?_
      obtain ⟨g11, hf⟩ := qgd_e hf
      refine M_l_12 F hw g11 dX7_statusOn_35 ?_
      obtain rfl := q_s hf
      exact J9 _ _ _ hw (lv_sub hl [] rfl)
    · have hf := q_f c10 hf
      refine lv_iconst (v := 0) hx hb dX7_statusOn_26 (by decide) ?_
      refine lv_goto (tgt := 36) hx hb dX7_statusOn_27 rfl ?_
      obtain rfl := q_s hf
      exact J9 _ _ _ hw (lv_sub hl [] rfl)
  have hf := hq14
  refine lv_if_eq (tgt := 19) hx hb dX7_statusOn_12 rfl (fun c13 => ?_) (fun c13 => ?_)
  · have hf := q_t c13 hf
    refine lv_iconst (v := 1) hx hb dX7_statusOn_19 (by decide) ?_
    obtain rfl := q_s hf
    exact J4 _ _ _ hw (lv_sub hl [0, 1] rfl)
  · have hf := q_f c13 hf
    refine lv_iconst (v := 0) hx hb dX7_statusOn_15 (by decide) ?_
    refine lv_goto (tgt := 20) hx hb dX7_statusOn_16 rfl ?_
    obtain rfl := q_s hf
    exact J4 _ _ _ hw (lv_sub hl [0, 1] rfl)
def f_X7_figures_l4 : Nat → Int32 → Int32 → Option (Int32)
  | 0, _, _ => none
  | m + 1, v1, v2 => (if v2 ≤ (9 : Int32) then some v1 else (qnm (v1 + (1 : Int32)) fun v5 => (qnm (v2 / (10 : Int32)) fun v6 => (f_X7_figures_l4 m) v5 v6)))
def f_X7_figures (n : Nat) (a1 : Int32) : Option (Int32) := f_X7_figures_l4 n (1 : Int32) a1
set_option maxHeartbeats 4000000 in
set_option maxRecDepth 100000 in
theorem t_X7_figures {G : gG} {l : Launch} {n : Nat} {a1 : Int32} {rv : Int32} (hf : f_X7_figures n a1 = some rv) : MetI G l yX7_figures cX7_figures 3 (some .int) 0 0 0 0 [.int a1] (([] : va_W)) (([] : va_W)) rv := by
  refine k_ofI (by decide) (Nat.le_of_ble_eq_true rfl) ?_
  intro p e s m args below meth c ls A F hr hlk hl hw
  have hx := F.1
  have hb := F.2.1
  have hl : lv_has ls 3 [(0, .int a1)] := hl
  unfold f_X7_figures at hf
  refine lv_iconst (v := 1) hx hb dX7_figures_0 (by decide) ?_
  refine lv_istore_n (lv' := [(1, .int (1 : Int32)), (0, .int a1)]) hx hb dX7_figures_1 rfl hl (Nat.le_of_ble_eq_true rfl) rfl (fun ls hl => ?_)
  refine lv_iload_n hx hb dX7_figures_2 rfl (lv_at hl 1 rfl) ?_
  refine lv_istore_n (lv' := [(2, .int a1), (1, .int (1 : Int32)), (0, .int a1)]) hx hb dX7_figures_3 rfl hl (Nat.le_of_ble_eq_true rfl) rfl (fun ls hl => ?_)
  have L3 : ∀ (m0 : Nat) (v1 : Int32) (v2 : Int32) (H : Heap) (locs : List Loc) (ls : Array Slot), Wd G (([] : va_W)) A s H locs → lv_has ls 3 [(1, .int v1), (2, .int v2)] → f_X7_figures_l4 m0 v1 v2 = some rv → W p l e (rmk 0 0 0 0) s m args below meth c H locs 0 0 (KQI G below args s A (([] : va_W)) rv 0 0) (F0 m 4 ls []) := by
    intro m0
    induction m0 with
    | zero => intro v1 v2 H locs ls hw hl hf; cases hf
    | succ mL3 ih3 =>
      intro v1 v2 H locs ls hw hl hf
      unfold f_X7_figures_l4 at hf
      refine lv_iload_n hx hb dX7_figures_4 rfl (lv_at hl 1 rfl) ?_
      refine lv_bipush (v := 9) hx hb dX7_figures_5 (by decide) ?_
      refine lv_icmp_le (tgt := 21) hx hb dX7_figures_7 rfl (fun c4 => ?_) (fun c4 => ?_)
      · have hf := q_t c4 hf
        refine lv_iload_n hx hb dX7_figures_21 rfl (lv_at hl 0 rfl) ?_
        obtain rfl := q_s hf
        exact k_iret F hr hlk hw (Nat.le_of_ble_eq_true rfl) (Nat.le_of_ble_eq_true rfl) dX7_figures_22
      · have hf := q_f c4 hf
        obtain ⟨v5, ev5⟩ : ∃ y : Int32, y = v1 + (1 : Int32) := ⟨_, rfl⟩
        refine lv_iinc (v := v5) (lv' := [(1, .int v5), (2, .int v2)]) hx hb dX7_figures_10 hl (k := 0) rfl (by rw [ev5]; rfl) (Nat.le_of_ble_eq_true rfl) rfl (fun ls hl => ?_)
        have hf := qnm_k ev5 hf
        refine lv_iload_n hx hb dX7_figures_13 rfl (lv_at hl 1 rfl) ?_
        refine lv_bipush (v := 10) hx hb dX7_figures_14 (by decide) ?_
        refine lv_idiv hx hb dX7_figures_16 (by decide) ?_
        refine lv_topi (fun v6 ev6 => ?_)
        have hf := qnm_k ev6 hf
        refine lv_istore_n (lv' := [(2, .int v6), (1, .int v5)]) hx hb dX7_figures_17 rfl hl (Nat.le_of_ble_eq_true rfl) rfl (fun ls hl => ?_)
        refine lv_goto (tgt := 4) hx hb dX7_figures_18 rfl ?_
        exact ih3 v5 v6 _ _ _ hw (lv_sub hl [1, 0] rfl) hf
  exact L3 n (1 : Int32) a1 _ _ _ hw (lv_sub hl [1, 0] rfl) hf
def f_X7_runFrom_l2 (x : SX) (a1 : Int32) : Nat → Int32 → Option (Int32)
  | 0, _ => none
  | m + 1, v1 => (if (x.1 0 26) ≤ v1 then some (v1 - a1) else (qgd (qin v1 14610) ((qgd (qin a1 14610) ((if (x.1 12 v1.toNatClampNeg) = (x.1 12 a1.toNatClampNeg) then (qnm (v1 + (1 : Int32)) fun v7 => (f_X7_runFrom_l2 x a1 m) v7) else some (v1 - a1)))))))
def f_X7_runFrom (n : Nat) (x : SX) (a1 : Int32) : Option (Int32) := f_X7_runFrom_l2 x a1 n a1
set_option maxHeartbeats 4000000 in
set_option maxRecDepth 100000 in
theorem t_X7_runFrom {G : gG} {l : Launch} {ad : Nat → Nat} {n : Nat} {x : SX} {a1 : Int32} {rv : Int32} (hf : f_X7_runFrom n x a1 = some rv) : MetI G l yX7_runFrom cX7_runFrom 3 (some .int) 0 0 0 0 [.ref (ad 0), .int a1] (wM G ad x) (wM G ad x) rv := by
  refine k_ofI (by decide) (Nat.le_of_ble_eq_true rfl) ?_
  intro p e s m args below meth c ls A F hr hlk hl hw
  have hx := F.1
  have hb := F.2.1
  have hl : lv_has ls 3 [(0, .ref (ad 0)), (1, .int a1)] := hl
  unfold f_X7_runFrom at hf
  refine lv_iload_n hx hb dX7_runFrom_0 rfl (lv_at hl 1 rfl) ?_
  refine lv_istore_n (lv' := [(2, .int a1), (0, .ref (ad 0)), (1, .int a1)]) hx hb dX7_runFrom_1 rfl hl (Nat.le_of_ble_eq_true rfl) rfl (fun ls hl => ?_)
  have L2 : ∀ (m0 : Nat) (v1 : Int32) (H : Heap) (locs : List Loc) (ls : Array Slot), Wd G (wM G ad x) A s H locs → lv_has ls 3 [(0, .ref (ad 0)), (1, .int a1), (2, .int v1)] → f_X7_runFrom_l2 x a1 m0 v1 = some rv → W p l e (rmk 0 0 0 0) s m args below meth c H locs 0 0 (KQI G below args s A (wM G ad x) rv 0 0) (F0 m 2 ls []) := by
    intro m0
    induction m0 with
    | zero => intro v1 H locs ls hw hl hf; cases hf
    | succ mL2 ih2 =>
      intro v1 H locs ls hw hl hf
      unfold f_X7_runFrom_l2 at hf
      refine lv_iload_n hx hb dX7_runFrom_2 rfl (lv_at hl 2 rfl) ?_
      refine lv_aload_n hx hb dX7_runFrom_3 rfl (lv_at hl 0 rfl) ?_
      refine M_g_0_26 F ws_in hw fl_X7_263 dX7_runFrom_4 ?_
      refine lv_icmp_ge (tgt := 31) hx hb dX7_runFrom_7 rfl (fun c3 => ?_) (fun c3 => ?_)
      · have hf := q_t c3 hf
        refine lv_iload_n hx hb dX7_runFrom_31 rfl (lv_at hl 2 rfl) ?_
        refine lv_iload_n hx hb dX7_runFrom_32 rfl (lv_at hl 1 rfl) ?_
        refine lv_isub hx hb dX7_runFrom_33 ?_
        obtain rfl := q_s hf
        exact k_iret F hr hlk hw (Nat.le_of_ble_eq_true rfl) (Nat.le_of_ble_eq_true rfl) dX7_runFrom_34
      · have hf := q_f c3 hf
        refine lv_aload_n hx hb dX7_runFrom_10 rfl (lv_at hl 0 rfl) ?_
        refine M_g_0_2 F ws_in hw fl_X7_9 dX7_runFrom_11 ?_
        refine lv_iload_n hx hb dX7_runFrom_14 rfl (lv_at hl 2 rfl) ?_
        obtain ⟨g4, hf⟩ := qgd_e hf
        refine M_l_12 F hw g4 dX7_runFrom_15 ?_
        refine lv_aload_n hx hb dX7_runFrom_16 rfl (lv_at hl 0 rfl) ?_
        refine M_g_0_2 F ws_in hw fl_X7_9 dX7_runFrom_17 ?_
        refine lv_iload_n hx hb dX7_runFrom_20 rfl (lv_at hl 1 rfl) ?_
        obtain ⟨g5, hf⟩ := qgd_e hf
        refine M_l_12 F hw g5 dX7_runFrom_21 ?_
        refine lv_icmp_ne (tgt := 31) hx hb dX7_runFrom_22 rfl (fun c6 => ?_) (fun c6 => ?_)
        · have hf := q_f c6 hf
          refine lv_iload_n hx hb dX7_runFrom_31 rfl (lv_at hl 2 rfl) ?_
          refine lv_iload_n hx hb dX7_runFrom_32 rfl (lv_at hl 1 rfl) ?_
          refine lv_isub hx hb dX7_runFrom_33 ?_
          obtain rfl := q_s hf
          exact k_iret F hr hlk hw (Nat.le_of_ble_eq_true rfl) (Nat.le_of_ble_eq_true rfl) dX7_runFrom_34
        · have hf := q_t c6 hf
          obtain ⟨v7, ev7⟩ : ∃ y : Int32, y = v1 + (1 : Int32) := ⟨_, rfl⟩
          refine lv_iinc (v := v7) (lv' := [(2, .int v7), (0, .ref (ad 0)), (1, .int a1)]) hx hb dX7_runFrom_25 hl (k := 2) rfl (by rw [ev7]; rfl) (Nat.le_of_ble_eq_true rfl) rfl (fun ls hl => ?_)
          have hf := qnm_k ev7 hf
          refine lv_goto (tgt := 2) hx hb dX7_runFrom_28 rfl ?_
          exact ih2 v7 _ _ _ hw (lv_sub hl [1, 2, 0] rfl) hf
  exact L2 n a1 _ _ _ hw (lv_sub hl [1, 2, 0] rfl) hf
def f_X7_sizeToTold_l4 (x : SX) (n : Nat) : Nat → Int32 → Int32 → Option (Int32)
  | 0, _, _ => none
  | m + 1, v1, v2 => (if (x.1 0 26) ≤ v2 then some v1 else (qbd (f_X7_runFrom n x v2) fun r5 => (qbd (if v2 ≤ 0 then some (1 : Int32) else some (2 : Int32)) fun v7 => (qbd (f_X7_figures n r5) fun r9 => (qnm (v1 + (v7 + r9)) fun v11 => (qnm (v2 + r5) fun v12 => (f_X7_sizeToTold_l4 x n m) v11 v12))))))
def f_X7_sizeToTold (n : Nat) (x : SX) : Option (Int32) := f_X7_sizeToTold_l4 x n n (0 : Int32) (0 : Int32)
set_option maxHeartbeats 4000000 in
set_option maxRecDepth 100000 in
theorem t_X7_sizeToTold {G : gG} {l : Launch} {ad : Nat → Nat} {n : Nat} {x : SX} {rv : Int32} (hf : f_X7_sizeToTold n x = some rv) : MetI G l yX7_sizeToTold cX7_sizeToTold 4 (some .int) 1 0 0 22 [.ref (ad 0)] (wM G ad x) (wM G ad x) rv := by
  refine k_ofI (by decide) (Nat.le_of_ble_eq_true rfl) ?_
  intro p e s m args below meth c ls A F hr hlk hl hw
  have hx := F.1
  have hb := F.2.1
  have hl : lv_has ls 4 [(0, .ref (ad 0))] := hl
  unfold f_X7_sizeToTold at hf
  refine lv_iconst (v := 0) hx hb dX7_sizeToTold_0 (by decide) ?_
  refine lv_istore_n (lv' := [(1, .int (0 : Int32)), (0, .ref (ad 0))]) hx hb dX7_sizeToTold_1 rfl hl (Nat.le_of_ble_eq_true rfl) rfl (fun ls hl => ?_)
  refine lv_iconst (v := 0) hx hb dX7_sizeToTold_2 (by decide) ?_
  refine lv_istore_n (lv' := [(2, .int (0 : Int32)), (1, .int (0 : Int32)), (0, .ref (ad 0))]) hx hb dX7_sizeToTold_3 rfl hl (Nat.le_of_ble_eq_true rfl) rfl (fun ls hl => ?_)
  have L3 : ∀ (m0 : Nat) (v1 : Int32) (v2 : Int32) (H : Heap) (locs : List Loc) (ls : Array Slot), Wd G (wM G ad x) A s H locs → lv_has ls 4 [(0, .ref (ad 0)), (1, .int v1), (2, .int v2)] → f_X7_sizeToTold_l4 x n m0 v1 v2 = some rv → W p l e (rmk 1 0 0 22) s m args below meth c H locs 0 0 (KQI G below args s A (wM G ad x) rv 0 0) (F0 m 4 ls []) := by
    intro m0
    induction m0 with
    | zero => intro v1 v2 H locs ls hw hl hf; cases hf
    | succ mL3 ih3 =>
      intro v1 v2 H locs ls hw hl hf
      unfold f_X7_sizeToTold_l4 at hf
      refine lv_iload_n hx hb dX7_sizeToTold_4 rfl (lv_at hl 2 rfl) ?_
      refine lv_aload_n hx hb dX7_sizeToTold_5 rfl (lv_at hl 0 rfl) ?_
      refine M_g_0_26 F ws_in hw fl_X7_263 dX7_sizeToTold_6 ?_
      refine lv_icmp_ge (tgt := 42) hx hb dX7_sizeToTold_9 rfl (fun c4 => ?_) (fun c4 => ?_)
      · have hf := q_t c4 hf
        refine lv_iload_n hx hb dX7_sizeToTold_42 rfl (lv_at hl 1 rfl) ?_
        obtain rfl := q_s hf
        exact k_iret F hr hlk hw (Nat.le_of_ble_eq_true rfl) (Nat.le_of_ble_eq_true rfl) dX7_sizeToTold_43
      · have hf := q_f c4 hf
        refine lv_aload_n hx hb dX7_sizeToTold_12 rfl (lv_at hl 0 rfl) ?_
        refine lv_iload_n hx hb dX7_sizeToTold_13 rfl (lv_at hl 2 rfl) ?_
        obtain ⟨r5, h6, hf⟩ := qbd_e hf
        refine k_callVi' (rest := []) (As := [.int v2]) F ws_in (t_X7_runFrom h6) cv_X7_runFrom ml_X7_266 hw 0 rfl rfl rfl hl.1 rfl (Nat.le_of_ble_eq_true rfl) ⟨Nat.le_of_ble_eq_true rfl, Nat.le_of_ble_eq_true rfl⟩ ⟨Nat.le_of_ble_eq_true rfl, Nat.le_of_ble_eq_true rfl⟩ dX7_sizeToTold_14 (fun H locs hw => ?_)
        refine lv_istore_n (lv' := [(3, .int r5), (0, .ref (ad 0)), (1, .int v1), (2, .int v2)]) hx hb dX7_sizeToTold_17 rfl hl (Nat.le_of_ble_eq_true rfl) rfl (fun ls hl => ?_)
        refine lv_iload_n hx hb dX7_sizeToTold_18 rfl (lv_at hl 2 rfl) ?_
        refine lv_iload_n hx hb dX7_sizeToTold_19 rfl (lv_at hl 3 rfl) ?_
        obtain ⟨v7, hq14, hf⟩ := qbd_e hf
        have J8 : ∀ (H : Heap) (locs : List Loc) (ls : Array Slot), Wd G (wM G ad x) A s H locs → lv_has ls 4 [(0, .ref (ad 0)), (2, .int v2), (3, .int r5)] → W p l e (rmk 1 0 0 22) s m args below meth c H locs 0 0 (KQI G below args s A (wM G ad x) rv 0 0) (F0 m 28 ls [.int v7, .int v1]) := by
          intro H locs ls hw hl
          refine lv_iload_n hx hb dX7_sizeToTold_28 rfl (lv_at hl 2 rfl) ?_
          obtain ⟨r9, h10, hf⟩ := qbd_e hf
          refine k_callPi (rest := [.int v7, .int v1]) (As := [.int r5]) F ws_in (t_X7_figures h10) cs_X7_figures ml_X7_269 hw rfl hl.1 rfl (Nat.le_of_ble_eq_true rfl) ⟨Nat.le_of_ble_eq_true rfl, Nat.le_of_ble_eq_true rfl⟩ ⟨Nat.le_of_ble_eq_true rfl, Nat.le_of_ble_eq_true rfl⟩ dX7_sizeToTold_29 (fun H locs hw => ?_)
          refine lv_iadd hx hb dX7_sizeToTold_32 ?_
          refine lv_iadd hx hb dX7_sizeToTold_33 ?_
          refine lv_topi (fun v11 ev11 => ?_)
          have hf := qnm_k ev11 hf
          refine lv_istore_n (lv' := [(1, .int v11), (0, .ref (ad 0)), (2, .int v2), (3, .int r5)]) hx hb dX7_sizeToTold_34 rfl hl (Nat.le_of_ble_eq_true rfl) rfl (fun ls hl => ?_)
          refine lv_iload_n hx hb dX7_sizeToTold_35 rfl (lv_at hl 2 rfl) ?_
          refine lv_iload_n hx hb dX7_sizeToTold_36 rfl (lv_at hl 3 rfl) ?_
          refine lv_iadd hx hb dX7_sizeToTold_37 ?_
          refine lv_topi (fun v12 ev12 => ?_)
          have hf := qnm_k ev12 hf
          refine lv_istore_n (lv' := [(2, .int v12), (1, .int v11), (0, .ref (ad 0)), (3, .int r5)]) hx hb dX7_sizeToTold_38 rfl hl (Nat.le_of_ble_eq_true rfl) rfl (fun ls hl => ?_)
          refine lv_goto (tgt := 4) hx hb dX7_sizeToTold_39 rfl ?_
          exact ih3 v11 v12 _ _ _ hw (lv_sub hl [2, 1, 0] rfl) hf
        have hf := hq14
        refine lv_if_le (tgt := 27) hx hb dX7_sizeToTold_20 rfl (fun c13 => ?_) (fun c13 => ?_)
        · have hf := q_t c13 hf
          refine lv_iconst (v := 1) hx hb dX7_sizeToTold_27 (by decide) ?_
          obtain rfl := q_s hf
          exact J8 _ _ _ hw (lv_sub hl [1, 3, 0] rfl)
        · have hf := q_f c13 hf
          refine lv_iconst (v := 2) hx hb dX7_sizeToTold_23 (by decide) ?_
          refine lv_goto (tgt := 28) hx hb dX7_sizeToTold_24 rfl ?_
          obtain rfl := q_s hf
          exact J8 _ _ _ hw (lv_sub hl [1, 3, 0] rfl)
  exact L3 n (0 : Int32) (0 : Int32) _ _ _ hw (lv_sub hl [2, 1, 0] rfl) hf
def f_X7_writeHistory (n : Nat) (x : SX) : Option (Int32 × SX) := (qnm (si x 0 0 (0 : Int32)) fun x1 => (qnm (si x1 0 26 (x1.1 0 1)) fun x2 => (qbd (f_X7_sizeToTold n x2) fun r3 => some (r3, x2))))
set_option maxHeartbeats 4000000 in
set_option maxRecDepth 100000 in
theorem t_X7_writeHistory {G : gG} {l : Launch} {ad : Nat → Nat} {n : Nat} {x : SX} {rv : Int32} {xr : SX} (hf : f_X7_writeHistory n x = some (rv, xr)) : MetI G l yX7_writeHistory cX7_writeHistory 1 (some .int) 2 0 0 45 [.ref (ad 0)] (wM G ad x) (wM G ad xr) rv := by
  refine k_ofI (by decide) (Nat.le_of_ble_eq_true rfl) ?_
  intro p e s m args below meth c ls A F hr hlk hl hw
  have hx := F.1
  have hb := F.2.1
  have hl : lv_has ls 1 [(0, .ref (ad 0))] := hl
  unfold f_X7_writeHistory at hf
  refine lv_aload_n hx hb dX7_writeHistory_0 rfl (lv_at hl 0 rfl) ?_
  refine lv_iconst (v := 0) hx hb dX7_writeHistory_1 (by decide) ?_
  refine M_p_0_0 F ws_in hw fl_X7_93 dX7_writeHistory_2 (fun x1 ex1 H locs hw => ?_)
  have hf := qnm_k ex1 hf
  refine lv_aload_n hx hb dX7_writeHistory_5 rfl (lv_at hl 0 rfl) ?_
  refine lv_aload_n hx hb dX7_writeHistory_6 rfl (lv_at hl 0 rfl) ?_
  refine M_g_0_1 F ws_in hw fl_X7_187 dX7_writeHistory_7 ?_
  refine M_p_0_26 F ws_in hw fl_X7_263 dX7_writeHistory_10 (fun x2 ex2 H locs hw => ?_)
  have hf := qnm_k ex2 hf
  refine lv_aload_n hx hb dX7_writeHistory_13 rfl (lv_at hl 0 rfl) ?_
  obtain ⟨r3, h4, hf⟩ := qbd_e hf
  refine k_callVi' (rest := []) (As := []) F ws_in (t_X7_sizeToTold h4) cv_X7_sizeToTold ml_X7_272 hw 0 rfl rfl rfl hl.1 rfl (Nat.le_of_ble_eq_true rfl) ⟨Nat.le_of_ble_eq_true rfl, Nat.le_of_ble_eq_true rfl⟩ ⟨Nat.le_of_ble_eq_true rfl, Nat.le_of_ble_eq_true rfl⟩ dX7_writeHistory_14 (fun H locs hw => ?_)
  obtain ⟨rfl, rfl⟩ := q_s2 hf
  exact k_iret F hr hlk hw (Nat.le_of_ble_eq_true rfl) (Nat.le_of_ble_eq_true rfl) dX7_writeHistory_17
def f_X7_signOf_l52 (r1 : Int32) : Nat → Int32 → Int32 → Option (Int32)
  | 0, _, _ => none
  | m + 1, v12, v13 => (if r1 ≤ v13 then (qgd (qch ((((48 : Int32) + (v12 - v12 / (10 : Int32) * (10 : Int32))).toUInt32 % 65536).toInt32)) (some ((((48 : Int32) + (v12 - v12 / (10 : Int32) * (10 : Int32))).toUInt32 % 65536).toInt32))) else (qnm (v12 / (10 : Int32)) fun v17 => (qnm (v13 + (1 : Int32)) fun v18 => (f_X7_signOf_l52 r1 m) v17 v18)))
def f_X7_signOf (n : Nat) (a1 : Int32) (a2 : Int32) (a3 : Int32) : Option (Int32) := (qbd (f_X7_figures n a2) fun r1 => (if a3 = 0 then (qbd (if a3 ≤ 0 then (if a1 = (2 : Int32) then some (99 : Int32) else (if a1 = (1 : Int32) then some (108 : Int32) else some (102 : Int32))) else some (32 : Int32)) fun v4 => (qgd (qch v4) (some v4))) else (if a3 ≤ r1 then f_X7_signOf_l52 r1 n a2 a3 else (qbd (if a3 ≤ 0 then (if a1 = (2 : Int32) then some (99 : Int32) else (if a1 = (1 : Int32) then some (108 : Int32) else some (102 : Int32))) else some (32 : Int32)) fun v19 => (qgd (qch v19) (some v19))))))
set_option maxHeartbeats 4000000 in
set_option maxRecDepth 100000 in
theorem t_X7_signOf {G : gG} {l : Launch} {n : Nat} {a1 : Int32} {a2 : Int32} {a3 : Int32} {rv : Int32} (hf : f_X7_signOf n a1 a2 a3 = some rv) : MetI G l yX7_signOf cX7_signOf 6 (some .char) 1 0 0 22 [.int a1, .int a2, .int a3] (([] : va_W)) (([] : va_W)) rv := by
  refine k_ofI (by decide) (Nat.le_of_ble_eq_true rfl) ?_
  intro p e s m args below meth c ls A F hr hlk hl hw
  have hx := F.1
  have hb := F.2.1
  have hl : lv_has ls 6 [(0, .int a1), (1, .int a2), (2, .int a3)] := hl
  unfold f_X7_signOf at hf
  refine lv_iload_n hx hb dX7_signOf_0 rfl (lv_at hl 1 rfl) ?_
  obtain ⟨r1, h2, hf⟩ := qbd_e hf
  refine k_callPi (rest := []) (As := [.int a2]) F ws_in (t_X7_figures h2) cs_X7_figures ml_X7_269 hw rfl hl.1 rfl (Nat.le_of_ble_eq_true rfl) ⟨Nat.le_of_ble_eq_true rfl, Nat.le_of_ble_eq_true rfl⟩ ⟨Nat.le_of_ble_eq_true rfl, Nat.le_of_ble_eq_true rfl⟩ dX7_signOf_1 (fun H locs hw => ?_)
  refine lv_istore_n (lv' := [(3, .int r1), (0, .int a1), (1, .int a2), (2, .int a3)]) hx hb dX7_signOf_4 rfl hl (Nat.le_of_ble_eq_true rfl) rfl (fun ls hl => ?_)
  refine lv_iload_n hx hb dX7_signOf_5 rfl (lv_at hl 3 rfl) ?_
  refine lv_if_eq (tgt := 14) hx hb dX7_signOf_6 rfl (fun c3 => ?_) (fun c3 => ?_)
  · have hf := q_t c3 hf
    refine lv_iload_n hx hb dX7_signOf_14 rfl (lv_at hl 3 rfl) ?_
    obtain ⟨v4, hq10, hf⟩ := qbd_e hf
    have J5 : ∀ (H : Heap) (locs : List Loc) (ls : Array Slot), Wd G (([] : va_W)) A s H locs → lv_has ls 6 [] → W p l e (rmk 1 0 0 22) s m args below meth c H locs 0 0 (KQI G below args s A (([] : va_W)) rv 0 0) (F0 m 45 ls [.int v4]) := by
      intro H locs ls hw hl
      obtain ⟨g6, hf⟩ := qgd_e hf
      obtain rfl := q_s hf
      exact k_zret F hr hlk hw (qch_n g6) (Nat.le_of_ble_eq_true rfl) (Nat.le_of_ble_eq_true rfl) dX7_signOf_45
    have hf := hq10
    refine lv_if_le (tgt := 23) hx hb dX7_signOf_15 rfl (fun c7 => ?_) (fun c7 => ?_)
    · have hf := q_t c7 hf
      refine lv_iload_n hx hb dX7_signOf_23 rfl (lv_at hl 1 rfl) ?_
      refine lv_iconst (v := 2) hx hb dX7_signOf_24 (by decide) ?_
      refine lv_icmp_ne (tgt := 33) hx hb dX7_signOf_25 rfl (fun c8 => ?_) (fun c8 => ?_)
      · have hf := q_f c8 hf
        refine lv_iload_n hx hb dX7_signOf_33 rfl (lv_at hl 1 rfl) ?_
        refine lv_iconst (v := 1) hx hb dX7_signOf_34 (by decide) ?_
        refine lv_icmp_ne (tgt := 43) hx hb dX7_signOf_35 rfl (fun c9 => ?_) (fun c9 => ?_)
        · have hf := q_f c9 hf
          refine lv_bipush (v := 102) hx hb dX7_signOf_43 (by decide) ?_
          obtain rfl := q_s hf
          exact J5 _ _ _ hw (lv_sub hl [] rfl)
        · have hf := q_t c9 hf
          refine lv_bipush (v := 108) hx hb dX7_signOf_38 (by decide) ?_
          refine lv_goto (tgt := 45) hx hb dX7_signOf_40 rfl ?_
          obtain rfl := q_s hf
          exact J5 _ _ _ hw (lv_sub hl [] rfl)
      · have hf := q_t c8 hf
        refine lv_bipush (v := 99) hx hb dX7_signOf_28 (by decide) ?_
        refine lv_goto (tgt := 45) hx hb dX7_signOf_30 rfl ?_
        obtain rfl := q_s hf
        exact J5 _ _ _ hw (lv_sub hl [] rfl)
    · have hf := q_f c7 hf
      refine lv_bipush (v := 32) hx hb dX7_signOf_18 (by decide) ?_
      refine lv_goto (tgt := 45) hx hb dX7_signOf_20 rfl ?_
      obtain rfl := q_s hf
      exact J5 _ _ _ hw (lv_sub hl [] rfl)
  · have hf := q_f c3 hf
    refine lv_iload_n hx hb dX7_signOf_9 rfl (lv_at hl 3 rfl) ?_
    refine lv_iload_n hx hb dX7_signOf_10 rfl (lv_at hl 0 rfl) ?_
    refine lv_icmp_le (tgt := 46) hx hb dX7_signOf_11 rfl (fun c11 => ?_) (fun c11 => ?_)
    · have hf := q_t c11 hf
      refine lv_iload_n hx hb dX7_signOf_46 rfl (lv_at hl 2 rfl) ?_
      refine lv_istore (lv' := [(4, .int a2), (3, .int r1), (0, .int a1), (1, .int a2), (2, .int a3)]) hx hb dX7_signOf_47 hl (Nat.le_of_ble_eq_true rfl) rfl (fun ls hl => ?_)
      refine lv_iload_n hx hb dX7_signOf_49 rfl (lv_at hl 4 rfl) ?_
      refine lv_istore (lv' := [(5, .int a3), (4, .int a2), (3, .int r1), (0, .int a1), (1, .int a2), (2, .int a3)]) hx hb dX7_signOf_50 hl (Nat.le_of_ble_eq_true rfl) rfl (fun ls hl => ?_)
      have L14 : ∀ (m0 : Nat) (v12 : Int32) (v13 : Int32) (H : Heap) (locs : List Loc) (ls : Array Slot), Wd G (([] : va_W)) A s H locs → lv_has ls 6 [(3, .int r1), (4, .int v12), (5, .int v13)] → f_X7_signOf_l52 r1 m0 v12 v13 = some rv → W p l e (rmk 1 0 0 22) s m args below meth c H locs 0 0 (KQI G below args s A (([] : va_W)) rv 0 0) (F0 m 52 ls []) := by
        intro m0
        induction m0 with
        | zero => intro v12 v13 H locs ls hw hl hf; cases hf
        | succ mL14 ih14 =>
          intro v12 v13 H locs ls hw hl hf
          unfold f_X7_signOf_l52 at hf
          refine lv_iload hx hb dX7_signOf_52 (lv_at hl 2 rfl) ?_
          refine lv_iload_n hx hb dX7_signOf_54 rfl (lv_at hl 0 rfl) ?_
          refine lv_icmp_ge (tgt := 71) hx hb dX7_signOf_55 rfl (fun c15 => ?_) (fun c15 => ?_)
          · have hf := q_t c15 hf
            refine lv_bipush (v := 48) hx hb dX7_signOf_71 (by decide) ?_
            refine lv_iload hx hb dX7_signOf_73 (lv_at hl 1 rfl) ?_
            refine lv_bipush (v := 10) hx hb dX7_signOf_75 (by decide) ?_
            refine lv_irem hx hb dX7_signOf_77 (by decide) ?_
            refine lv_iadd hx hb dX7_signOf_78 ?_
            refine lv_i2c hx hb dX7_signOf_79 rfl ?_
            obtain ⟨g16, hf⟩ := qgd_e hf
            obtain rfl := q_s hf
            exact k_zret F hr hlk hw (qch_n g16) (Nat.le_of_ble_eq_true rfl) (Nat.le_of_ble_eq_true rfl) dX7_signOf_80
          · have hf := q_f c15 hf
            refine lv_iload hx hb dX7_signOf_58 (lv_at hl 1 rfl) ?_
            refine lv_bipush (v := 10) hx hb dX7_signOf_60 (by decide) ?_
            refine lv_idiv hx hb dX7_signOf_62 (by decide) ?_
            refine lv_topi (fun v17 ev17 => ?_)
            have hf := qnm_k ev17 hf
            refine lv_istore (lv' := [(4, .int v17), (3, .int r1), (5, .int v13)]) hx hb dX7_signOf_63 hl (Nat.le_of_ble_eq_true rfl) rfl (fun ls hl => ?_)
            obtain ⟨v18, ev18⟩ : ∃ y : Int32, y = v13 + (1 : Int32) := ⟨_, rfl⟩
            refine lv_iinc (v := v18) (lv' := [(5, .int v18), (4, .int v17), (3, .int r1)]) hx hb dX7_signOf_65 hl (k := 2) rfl (by rw [ev18]; rfl) (Nat.le_of_ble_eq_true rfl) rfl (fun ls hl => ?_)
            have hf := qnm_k ev18 hf
            refine lv_goto (tgt := 52) hx hb dX7_signOf_68 rfl ?_
            exact ih14 v17 v18 _ _ _ hw (lv_sub hl [2, 1, 0] rfl) hf
      exact L14 n a2 a3 _ _ _ hw (lv_sub hl [2, 1, 0] rfl) hf
    · have hf := q_f c11 hf
      refine lv_iload_n hx hb dX7_signOf_14 rfl (lv_at hl 3 rfl) ?_
      obtain ⟨v19, hq25, hf⟩ := qbd_e hf
      have J20 : ∀ (H : Heap) (locs : List Loc) (ls : Array Slot), Wd G (([] : va_W)) A s H locs → lv_has ls 6 [] → W p l e (rmk 1 0 0 22) s m args below meth c H locs 0 0 (KQI G below args s A (([] : va_W)) rv 0 0) (F0 m 45 ls [.int v19]) := by
        intro H locs ls hw hl
        obtain ⟨g21, hf⟩ := qgd_e hf
        obtain rfl := q_s hf
        exact k_zret F hr hlk hw (qch_n g21) (Nat.le_of_ble_eq_true rfl) (Nat.le_of_ble_eq_true rfl) dX7_signOf_45
      have hf := hq25
      refine lv_if_le (tgt := 23) hx hb dX7_signOf_15 rfl (fun c22 => ?_) (fun c22 => ?_)
      · have hf := q_t c22 hf
        refine lv_iload_n hx hb dX7_signOf_23 rfl (lv_at hl 1 rfl) ?_
        refine lv_iconst (v := 2) hx hb dX7_signOf_24 (by decide) ?_
        refine lv_icmp_ne (tgt := 33) hx hb dX7_signOf_25 rfl (fun c23 => ?_) (fun c23 => ?_)
        · have hf := q_f c23 hf
          refine lv_iload_n hx hb dX7_signOf_33 rfl (lv_at hl 1 rfl) ?_
          refine lv_iconst (v := 1) hx hb dX7_signOf_34 (by decide) ?_
          refine lv_icmp_ne (tgt := 43) hx hb dX7_signOf_35 rfl (fun c24 => ?_) (fun c24 => ?_)
          · have hf := q_f c24 hf
            refine lv_bipush (v := 102) hx hb dX7_signOf_43 (by decide) ?_
            obtain rfl := q_s hf
            exact J20 _ _ _ hw (lv_sub hl [] rfl)
          · have hf := q_t c24 hf
            refine lv_bipush (v := 108) hx hb dX7_signOf_38 (by decide) ?_
            refine lv_goto (tgt := 45) hx hb dX7_signOf_40 rfl ?_
            obtain rfl := q_s hf
            exact J20 _ _ _ hw (lv_sub hl [] rfl)
        · have hf := q_t c23 hf
          refine lv_bipush (v := 99) hx hb dX7_signOf_28 (by decide) ?_
          refine lv_goto (tgt := 45) hx hb dX7_signOf_30 rfl ?_
          obtain rfl := q_s hf
          exact J20 _ _ _ hw (lv_sub hl [] rfl)
      · have hf := q_f c22 hf
        refine lv_bipush (v := 32) hx hb dX7_signOf_18 (by decide) ?_
        refine lv_goto (tgt := 45) hx hb dX7_signOf_20 rfl ?_
        obtain rfl := q_s hf
        exact J20 _ _ _ hw (lv_sub hl [] rfl)
