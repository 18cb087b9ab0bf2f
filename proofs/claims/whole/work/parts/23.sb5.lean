/-! ===== the StringBuilder, 5: append(int) ===== -/
set_option maxHeartbeats 4000000 in
set_option maxRecDepth 100000 in
theorem t_apI5 {G : gG} {l : Launch} {ad : Nat → Nat} {qb cap mm nn : Nat} {x xg : SX} {a1 dg rg : Int32} (h0 : x.1 8 1 = 0) (h1 : (eX mm cap x).1 8 1 = 0) (hsz : f_J6_stringSize_0f7a4 nn a1 = some dg) (hcn : (x.1 8 3) + dg = nI mm) (hc : mm < 2 ^ 26) (hcap : cap < 2 ^ 26) (hfit : sb_Fit (x.1 9)) (hgc : f_J6_getChars_ba4f3 nn (sb_cap mm cap) (eX mm cap x) a1 ((x.1 8 3) + dg) = some (rg, xg)) : MetPR PrB G l yJ5_append_c97b9 cJ5_append_c97b9 4 (some (.object "java/lang/AbstractStringBuilder")) 5 ((sb_cap mm cap - cap)) ((2 * (sb_cap mm cap - cap))) 160 [.ref (ad 8), .int a1] (wB G ad qb cap x) (fun u => wB G ad (eQ mm cap qb u) (sb_cap mm cap) (si xg 8 3 ((x.1 8 3) + dg))) (fun _ => ad 8) := by
  refine k_ofPR (by decide) (Nat.le_of_ble_eq_true rfl) ?_
  intro p e s m args below meth c ls A F hr hlk hl hw hZ
  have hx := F.1
  have hb := F.2.1
  have hl : lv_has ls 4 [(0, .ref (ad 8)), (1, .int a1)] := hl
  refine lv_aload_n hx hb dJ5_append_c97b9_0 rfl (lv_at hl 0 rfl) ?_
  refine B_g_3 F ws_in hw fl_J5_79 dJ5_append_c97b9_1 ?_
  refine lv_istore_n (lv' := [(2, .int (x.1 8 3)), (0, .ref (ad 8)), (1, .int a1)]) hx hb dJ5_append_c97b9_4 rfl hl (Nat.le_of_ble_eq_true rfl) rfl (fun ls hl => ?_)
  refine lv_iload_n hx hb dJ5_append_c97b9_5 rfl (lv_at hl 0 rfl) ?_
  refine lv_iload_n hx hb dJ5_append_c97b9_6 rfl (lv_at hl 2 rfl) ?_
  refine k_callPi (rest := [.int (x.1 8 3)]) (As := [.int a1]) F ws_in (t_J6_stringSize_0f7a4 hsz) cs_J6_stringSize_0f7a4 ml_J5_245 hw rfl hl.1 rfl (Nat.le_of_ble_eq_true rfl) ⟨(Nat.le_of_ble_eq_true rfl), (Nat.le_of_ble_eq_true rfl)⟩ ⟨Nat.zero_le _, Nat.zero_le _⟩ dJ5_append_c97b9_7 (fun H locs hw => ?_)
  refine lv_iadd hx hb dJ5_append_c97b9_10 ?_
  refine lv_istore_n (lv' := [(3, .int ((x.1 8 3) + dg)), (2, .int (x.1 8 3)), (0, .ref (ad 8)), (1, .int a1)]) hx hb dJ5_append_c97b9_11 rfl hl (Nat.le_of_ble_eq_true rfl) rfl (fun ls hl => ?_)
  refine lv_aload_n hx hb dJ5_append_c97b9_12 rfl (lv_at hl 2 rfl) ?_
  refine lv_iload_n hx hb dJ5_append_c97b9_13 rfl (lv_at hl 0 rfl) ?_
  refine k_goU (wl := []) (w1 := (wB G ad qb cap x)) (wr := []) (rest := []) (va_runU (As := [.int ((x.1 8 3) + dg)]) (rest := []) F (t_ens h0 hcn hc hcap hfit _) (k_cwU (n := 1) F ws_in ml_J5_100 cu_J5_ensureCapacityInternal_d00df (va_Nw.use rfl hZ.2.2.2.2.1) (by decide) ⟨(Nat.le_of_ble_eq_true rfl), (Nat.le_of_ble_eq_true rfl)⟩) (k_preV (wl := []) (w1 := (wB G ad qb cap x)) (wr := []) prB_ok hw hZ 0 rfl rfl) rfl rfl hl.1 rfl (lv_room (Nat.le_of_ble_eq_true rfl)) dJ5_append_c97b9_14 ⟨by show 0 + 0 + (sb_cap mm cap - cap) ≤ (sb_cap mm cap - cap); omega, by show 0 + 0 + 2 * (sb_cap mm cap - cap) ≤ 2 * (sb_cap mm cap - cap); omega⟩) hw (fun u H locs hw => ?_)
  have hw : Wd G (wB G ad (eQ mm cap qb u) (sb_cap mm cap) (eX mm cap x)) A s H locs := hw
  refine lv_aload_n hx hb dJ5_append_c97b9_17 rfl (lv_at hl 2 rfl) ?_
  refine k_goI (wl := []) (w1 := (wB G ad (eQ mm cap qb u) (sb_cap mm cap) (eX mm cap x))) (wr := []) (rest := []) (va_runU (As := []) (rest := []) F (t_lat h1 _) (k_cwU (n := 0) F ws_in ml_J5_83 cu_J5_isLatin1_aae02 (F.2.2.2.2 _ (ws_in _ sel_lat)) (by decide) ⟨(Nat.le_of_ble_eq_true rfl), (Nat.le_of_ble_eq_true rfl)⟩) (k_preV (wl := []) (w1 := (wB G ad (eQ mm cap qb u) (sb_cap mm cap) (eX mm cap x))) (wr := []) prB_ok hw hZ 0 rfl rfl) rfl rfl hl.1 rfl (lv_room (Nat.le_of_ble_eq_true rfl)) dJ5_append_c97b9_18 ⟨by show 0 + 0 + (sb_cap mm cap - cap) + 0 ≤ (sb_cap mm cap - cap); omega, by show 0 + 0 + 2 * (sb_cap mm cap - cap) + 0 ≤ 2 * (sb_cap mm cap - cap); omega⟩) hw (fun H locs hw => ?_)
  have hw : Wd G (wB G ad (eQ mm cap qb u) (sb_cap mm cap) (eX mm cap x)) A s H locs := hw
  refine lv_if_eq (tgt := 37) hx hb dJ5_append_c97b9_21 rfl (fun c9 => absurd c9 (by decide)) (fun c9 => ?_)
  refine lv_iload_n hx hb dJ5_append_c97b9_24 rfl (lv_at hl 3 rfl) ?_
  refine lv_iload_n hx hb dJ5_append_c97b9_25 rfl (lv_at hl 0 rfl) ?_
  refine lv_aload_n hx hb dJ5_append_c97b9_26 rfl (lv_at hl 2 rfl) ?_
  refine B_g_0 F ws_in hw fl_J5_15 dJ5_append_c97b9_27 ?_
  refine k_goI (wl := []) (w1 := (wB G ad (eQ mm cap qb u) (sb_cap mm cap) (eX mm cap x))) (wr := []) (rest := []) (va_runS (As := [.int a1, .int ((x.1 8 3) + dg), .ref (eQ mm cap qb u)]) (rest := []) F (t_J6_getChars_ba4f3 hgc _) (k_cwS (rm := rmk 0 0 0 0) F.2.2.2.2 ws_in ml_J5_248 cs_J6_getChars_ba4f3 ⟨(Nat.le_of_ble_eq_true rfl), (Nat.le_of_ble_eq_true rfl)⟩) (k_preS (wl := []) (w1 := (wB G ad (eQ mm cap qb u) (sb_cap mm cap) (eX mm cap x))) (wr := []) prB_ok hw hZ) rfl rfl hl.1 rfl (lv_room (Nat.le_of_ble_eq_true rfl)) dJ5_append_c97b9_30 ⟨by show 0 + 0 + (sb_cap mm cap - cap) + 0 + 0 ≤ (sb_cap mm cap - cap); omega, by show 0 + 0 + 2 * (sb_cap mm cap - cap) + 0 + 0 ≤ 2 * (sb_cap mm cap - cap); omega⟩) hw (fun H locs hw => ?_)
  have hw : Wd G (wB G ad (eQ mm cap qb u) (sb_cap mm cap) xg) A s H locs := hw
  refine lv_pop hx hb dJ5_append_c97b9_33 rfl ?_
  refine lv_goto (tgt := 48) hx hb dJ5_append_c97b9_34 rfl ?_
  refine lv_aload_n hx hb dJ5_append_c97b9_48 rfl (lv_at hl 2 rfl) ?_
  refine lv_iload_n hx hb dJ5_append_c97b9_49 rfl (lv_at hl 0 rfl) ?_
  refine B_p_3 F ws_in hw fl_J5_79 dJ5_append_c97b9_50 (fun x1 ex1 H locs hw => ?_)
  refine lv_aload_n hx hb dJ5_append_c97b9_53 rfl (lv_at hl 2 rfl) ?_
  subst ex1
  exact k_rret (ra := fun _ => ad 8) F hr (Or.inl ⟨_, rfl⟩) hlk u hw (by show 0 + 0 + (sb_cap mm cap - cap) + 0 + 0 ≤ (sb_cap mm cap - cap); omega) (by show 0 + 0 + 2 * (sb_cap mm cap - cap) + 0 + 0 ≤ 2 * (sb_cap mm cap - cap); omega) dJ5_append_c97b9_54
set_option maxHeartbeats 4000000 in
set_option maxRecDepth 100000 in
theorem t_apI4 {G : gG} {l : Launch} {ad : Nat → Nat} {qb cap mm nn : Nat} {x xg : SX} {a1 dg rg : Int32} (h0 : x.1 8 1 = 0) (h1 : (eX mm cap x).1 8 1 = 0) (hsz : f_J6_stringSize_0f7a4 nn a1 = some dg) (hcn : (x.1 8 3) + dg = nI mm) (hc : mm < 2 ^ 26) (hcap : cap < 2 ^ 26) (hfit : sb_Fit (x.1 9)) (hgc : f_J6_getChars_ba4f3 nn (sb_cap mm cap) (eX mm cap x) a1 ((x.1 8 3) + dg) = some (rg, xg)) : MetPR PrB G l yJ4_append_bf812 cJ4_append_bf812 2 (some (.object "java/lang/StringBuilder")) 6 ((sb_cap mm cap - cap)) ((2 * (sb_cap mm cap - cap))) 190 [.ref (ad 8), .int a1] (wB G ad qb cap x) (fun u => wB G ad (eQ mm cap qb u) (sb_cap mm cap) (si xg 8 3 ((x.1 8 3) + dg))) (fun _ => ad 8) := by
  refine k_ofPR (by decide) (Nat.le_of_ble_eq_true rfl) ?_
  intro p e s m args below meth c ls A F hr hlk hl hw hZ
  have hx := F.1
  have hb := F.2.1
  have hl : lv_has ls 2 [(0, .ref (ad 8)), (1, .int a1)] := hl
  refine lv_aload_n hx hb dJ4_append_bf812_0 rfl (lv_at hl 0 rfl) ?_
  refine lv_iload_n hx hb dJ4_append_bf812_1 rfl (lv_at hl 1 rfl) ?_
  refine k_goR (wl := []) (w1 := (wB G ad qb cap x)) (wr := []) (rest := []) (va_runSU (As := [.int a1]) (rest := []) (hw.1.1 1 _ rfl).2 F (t_apI5 h0 h1 hsz hcn hc hcap hfit hgc _) (k_cwSU (n := 1) F ws_in ml_J4_53 sup_J4 cu_J5_append_c97b9 (by decide) ⟨(Nat.le_of_ble_eq_true rfl), (Nat.le_of_ble_eq_true rfl)⟩) (k_preV (wl := []) (w1 := (wB G ad qb cap x)) (wr := []) prB_ok hw hZ 0 rfl rfl) rfl rfl hl.1 rfl (lv_room (Nat.le_of_ble_eq_true rfl)) dJ4_append_bf812_2 ⟨by show 0 + (sb_cap mm cap - cap) ≤ (sb_cap mm cap - cap); omega, by show 0 + 2 * (sb_cap mm cap - cap) ≤ 2 * (sb_cap mm cap - cap); omega⟩) hw (fun u H locs hw => ?_)
  have hw : Wd G (wB G ad (eQ mm cap qb u) (sb_cap mm cap) (si xg 8 3 ((x.1 8 3) + dg))) A s H locs := hw
  refine lv_pop hx hb dJ4_append_bf812_5 rfl ?_
  refine lv_aload_n hx hb dJ4_append_bf812_6 rfl (lv_at hl 0 rfl) ?_
  exact k_rret (ra := fun _ => ad 8) F hr (Or.inl ⟨_, rfl⟩) hlk u hw (by show 0 + (sb_cap mm cap - cap) ≤ (sb_cap mm cap - cap); omega) (by show 0 + 2 * (sb_cap mm cap - cap) ≤ 2 * (sb_cap mm cap - cap); omega) dJ4_append_bf812_7
