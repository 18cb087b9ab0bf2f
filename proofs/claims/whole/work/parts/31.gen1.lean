def f_X5_releaseWith (n : Nat) (x : SX) (a1 : Int32) (a2 : Int32) : Option (Int32) := (qgd (qin a1 10) ((qnm (if ((x.1 23 a1.toNatClampNeg) - (x.1 24 a1.toNatClampNeg)) < (0 : Int32) then (0 : Int32) else ((x.1 23 a1.toNatClampNeg) - (x.1 24 a1.toNatClampNeg))) fun v2 => (qnm ((x.1 22 a1.toNatClampNeg) - (x.1 24 a1.toNatClampNeg)) fun v3 => some ((x.1 21 a1.toNatClampNeg) + (if (v2 + a2) < v3 then (v2 + a2) else v3))))))
set_option maxHeartbeats 4000000 in
set_option maxRecDepth 100000 in
theorem t_X5_releaseWith {G : gG} {l : Launch} {ad : Nat → Nat} {n : Nat} {x : SX} {a1 : Int32} {a2 : Int32} {rv : Int32} (hf : f_X5_releaseWith n x a1 a2 = some rv) : MetI G l yX5_releaseWith cX5_releaseWith 5 (some .int) 1 0 0 30 [.ref (ad 1), .int a1, .int a2] (wX G ad x) (wX G ad x) rv := by
  refine k_ofI (by decide) (Nat.le_of_ble_eq_true rfl) ?_
  intro p e s m args below meth c ls A F hr hlk hl hw
  have hx := F.1
  have hb := F.2.1
  have hl : lv_has ls 5 [(0, .ref (ad 1)), (1, .int a1), (2, .int a2)] := hl
  unfold f_X5_releaseWith at hf
  refine lv_aload_n hx hb dX5_releaseWith_0 rfl (lv_at hl 0 rfl) ?_
  refine X_g_1_13 F ws_in hw fl_X5_49 dX5_releaseWith_1 ?_
  refine lv_iload_n hx hb dX5_releaseWith_4 rfl (lv_at hl 1 rfl) ?_
  obtain ⟨g1, hf⟩ := qgd_e hf
  refine X_l_23 F hw g1 dX5_releaseWith_5 ?_
  refine lv_aload_n hx hb dX5_releaseWith_6 rfl (lv_at hl 0 rfl) ?_
  refine X_g_1_14 F ws_in hw fl_X5_52 dX5_releaseWith_7 ?_
  refine lv_iload_n hx hb dX5_releaseWith_10 rfl (lv_at hl 1 rfl) ?_
  refine X_l_24 F hw g1 dX5_releaseWith_11 ?_
  refine lv_isub hx hb dX5_releaseWith_12 ?_
  refine lv_iconst (v := 0) hx hb dX5_releaseWith_13 (by decide) ?_
  refine k_mmax F ws_in ml_X5_77 cm_max hl.1 ⟨Nat.le_of_ble_eq_true rfl, Nat.le_of_ble_eq_true rfl, Nat.le_of_ble_eq_true rfl, Nat.le_of_ble_eq_true rfl⟩ dX5_releaseWith_14 ?_
  refine lv_topi (fun v2 ev2 => ?_)
  have hf := qnm_k ev2 hf
  refine lv_istore_n (lv' := [(3, .int v2), (0, .ref (ad 1)), (1, .int a1), (2, .int a2)]) hx hb dX5_releaseWith_17 rfl hl (Nat.le_of_ble_eq_true rfl) rfl (fun ls hl => ?_)
  refine lv_aload_n hx hb dX5_releaseWith_18 rfl (lv_at hl 1 rfl) ?_
  refine X_g_1_12 F ws_in hw fl_X5_46 dX5_releaseWith_19 ?_
  refine lv_iload_n hx hb dX5_releaseWith_22 rfl (lv_at hl 2 rfl) ?_
  refine X_l_22 F hw g1 dX5_releaseWith_23 ?_
  refine lv_aload_n hx hb dX5_releaseWith_24 rfl (lv_at hl 1 rfl) ?_
  refine X_g_1_14 F ws_in hw fl_X5_52 dX5_releaseWith_25 ?_
  refine lv_iload_n hx hb dX5_releaseWith_28 rfl (lv_at hl 2 rfl) ?_
  refine X_l_24 F hw g1 dX5_releaseWith_29 ?_
  refine lv_isub hx hb dX5_releaseWith_30 ?_
  refine lv_topi (fun v3 ev3 => ?_)
  have hf := qnm_k ev3 hf
  refine lv_istore (lv' := [(4, .int v3), (3, .int v2), (0, .ref (ad 1)), (1, .int a1), (2, .int a2)]) hx hb dX5_releaseWith_31 hl (Nat.le_of_ble_eq_true rfl) rfl (fun ls hl => ?_)
  refine lv_aload_n hx hb dX5_releaseWith_33 rfl (lv_at hl 2 rfl) ?_
  refine X_g_1_11 F ws_in hw fl_X5_43 dX5_releaseWith_34 ?_
  refine lv_iload_n hx hb dX5_releaseWith_37 rfl (lv_at hl 3 rfl) ?_
  refine X_l_21 F hw g1 dX5_releaseWith_38 ?_
  refine lv_iload hx hb dX5_releaseWith_39 (lv_at hl 0 rfl) ?_
  refine lv_iload_n hx hb dX5_releaseWith_41 rfl (lv_at hl 1 rfl) ?_
  refine lv_iload_n hx hb dX5_releaseWith_42 rfl (lv_at hl 4 rfl) ?_
  refine lv_iadd hx hb dX5_releaseWith_43 ?_
  refine k_mmin F ws_in ml_X5_82 cm_min hl.1 ⟨Nat.le_of_ble_eq_true rfl, Nat.le_of_ble_eq_true rfl, Nat.le_of_ble_eq_true rfl, Nat.le_of_ble_eq_true rfl⟩ dX5_releaseWith_44 ?_
  refine lv_iadd hx hb dX5_releaseWith_47 ?_
  obtain rfl := q_s hf
  exact k_iret F hr hlk hw (Nat.le_of_ble_eq_true rfl) (Nat.le_of_ble_eq_true rfl) dX5_releaseWith_48
def f_X5_endOf (n : Nat) (x : SX) (a1 : Int32) : Option (Int32) := (qgd (qin a1 10) (some (((x.1 21 a1.toNatClampNeg) + (x.1 22 a1.toNatClampNeg)) - (x.1 24 a1.toNatClampNeg))))
set_option maxHeartbeats 4000000 in
set_option maxRecDepth 100000 in
theorem t_X5_endOf {G : gG} {l : Launch} {ad : Nat → Nat} {n : Nat} {x : SX} {a1 : Int32} {rv : Int32} (hf : f_X5_endOf n x a1 = some rv) : MetI G l yX5_endOf cX5_endOf 2 (some .int) 0 0 0 0 [.ref (ad 1), .int a1] (wX G ad x) (wX G ad x) rv := by
  refine k_ofI (by decide) (Nat.le_of_ble_eq_true rfl) ?_
  intro p e s m args below meth c ls A F hr hlk hl hw
  have hx := F.1
  have hb := F.2.1
  have hl : lv_has ls 2 [(0, .ref (ad 1)), (1, .int a1)] := hl
  unfold f_X5_endOf at hf
  refine lv_aload_n hx hb dX5_endOf_0 rfl (lv_at hl 0 rfl) ?_
  refine X_g_1_11 F ws_in hw fl_X5_43 dX5_endOf_1 ?_
  refine lv_iload_n hx hb dX5_endOf_4 rfl (lv_at hl 1 rfl) ?_
  obtain ⟨g1, hf⟩ := qgd_e hf
  refine X_l_21 F hw g1 dX5_endOf_5 ?_
  refine lv_aload_n hx hb dX5_endOf_6 rfl (lv_at hl 0 rfl) ?_
  refine X_g_1_12 F ws_in hw fl_X5_46 dX5_endOf_7 ?_
  refine lv_iload_n hx hb dX5_endOf_10 rfl (lv_at hl 1 rfl) ?_
  refine X_l_22 F hw g1 dX5_endOf_11 ?_
  refine lv_iadd hx hb dX5_endOf_12 ?_
  refine lv_aload_n hx hb dX5_endOf_13 rfl (lv_at hl 0 rfl) ?_
  refine X_g_1_14 F ws_in hw fl_X5_52 dX5_endOf_14 ?_
  refine lv_iload_n hx hb dX5_endOf_17 rfl (lv_at hl 1 rfl) ?_
  refine X_l_24 F hw g1 dX5_endOf_18 ?_
  refine lv_isub hx hb dX5_endOf_19 ?_
  obtain rfl := q_s hf
  exact k_iret F hr hlk hw (Nat.le_of_ble_eq_true rfl) (Nat.le_of_ble_eq_true rfl) dX5_endOf_20
def f_X6_checkDate (n : Nat) (a1 : Int32) (a2 : Int32) (a3 : Int32) : Option (Nat) := (qbd (f_X1_exists n a1 a2 a3) fun r1 => (if r1 = 0 then some 1 else some 0))
set_option maxHeartbeats 4000000 in
set_option maxRecDepth 100000 in
theorem t_X6_checkDate {G : gG} {l : Launch} (hlt : l.stackTraces = false) {n : Nat} {a1 : Int32} {a2 : Int32} {a3 : Int32} {k0 : Nat} (hf : f_X6_checkDate n a1 a2 a3 = some k0) : MetXV G l yX6_checkDate cX6_checkDate 3 none 6 1 6 100 [.int a1, .int a2, .int a3] (([] : va_W)) (([] : va_W)) k0 := by
  refine k_ofXV (by decide) (Nat.le_of_ble_eq_true rfl) ?_
  intro p e s m args below meth c ls A F hr hlk hout hl hw hZ
  have hx := F.1
  have hb := F.2.1
  have hl : lv_has ls 3 [(0, .int a1), (1, .int a2), (2, .int a3)] := hl
  unfold f_X6_checkDate at hf
  refine lv_iload_n hx hb dX6_checkDate_0 rfl (lv_at hl 0 rfl) ?_
  refine lv_iload_n hx hb dX6_checkDate_1 rfl (lv_at hl 1 rfl) ?_
  refine lv_iload_n hx hb dX6_checkDate_2 rfl (lv_at hl 2 rfl) ?_
  obtain ⟨r1, h2, hf⟩ := qbd_e hf
  refine k_callPi (rest := []) (As := [.int a1, .int a2, .int a3]) F ws_in (t_X1_exists h2) cs_X1_exists ml_X6_289 hw rfl hl.1 rfl (Nat.le_of_ble_eq_true rfl) ⟨Nat.le_of_ble_eq_true rfl, Nat.le_of_ble_eq_true rfl⟩ ⟨Nat.le_of_ble_eq_true rfl, Nat.le_of_ble_eq_true rfl⟩ dX6_checkDate_3 (fun H locs hw => ?_)
  refine lv_if_ne (tgt := 17) hx hb dX6_checkDate_6 rfl (fun c3 => ?_) (fun c3 => ?_)
  · have hf := q_f c3 hf
    obtain rfl := q_s hf
    exact k_xvret F hr hlk hw (Nat.le_of_ble_eq_true rfl) (Nat.le_of_ble_eq_true rfl) dX6_checkDate_17
  · have hf := q_t c3 hf
    obtain rfl := q_s hf
    exact k_throwV F hlt hlk hout ws_in hZ hw hl.1 (by decide) (by decide) thc_1 thi_1 tha_1 ⟨Nat.le_of_ble_eq_true rfl, Nat.le_of_ble_eq_true rfl, Nat.le_of_ble_eq_true rfl, Nat.le_of_ble_eq_true rfl⟩ (Nat.le_of_ble_eq_true rfl) (Nat.le_of_ble_eq_true rfl) dX6_checkDate_9 dX6_checkDate_12 dX6_checkDate_13 dX6_checkDate_16
def f_X6_dayNumber (n : Nat) (x : SX) (a1 : Int32) (a2 : Int32) (a3 : Int32) : Option (Nat × Int32) := (qxb (f_X6_checkDate n a1 a2 a3) ((0 : Int32)) ((qbd (f_X1_numberOf n a1 a2 a3) fun r3 => some (0, r3))))
set_option maxHeartbeats 4000000 in
set_option maxRecDepth 100000 in
theorem t_X6_dayNumber {G : gG} {l : Launch} (hlt : l.stackTraces = false) {ad : Nat → Nat} {n : Nat} {x : SX} {a1 : Int32} {a2 : Int32} {a3 : Int32} {k0 : Nat} {rv : Int32} (hf : f_X6_dayNumber n x a1 a2 a3 = some (k0, rv)) : MetXI G l yX6_dayNumber cX6_dayNumber 4 (some .int) 7 1 6 122 [.ref (ad 0), .int a1, .int a2, .int a3] (wX G ad x) (wX G ad x) k0 rv := by
  refine k_ofXI (by decide) (Nat.le_of_ble_eq_true rfl) ?_
  intro p e s m args below meth c ls A F hr hlk hout hl hw hZ
  have hx := F.1
  have hb := F.2.1
  have hl : lv_has ls 4 [(0, .ref (ad 0)), (1, .int a1), (2, .int a2), (3, .int a3)] := hl
  unfold f_X6_dayNumber at hf
  refine lv_iload_n hx hb dX6_dayNumber_0 rfl (lv_at hl 1 rfl) ?_
  refine lv_iload_n hx hb dX6_dayNumber_1 rfl (lv_at hl 2 rfl) ?_
  refine lv_iload_n hx hb dX6_dayNumber_2 rfl (lv_at hl 3 rfl) ?_
  obtain ⟨k1, h2, hk2, hn2⟩ := qxb_e hf
  refine k_xcallPv (rest := []) (As := [.int a1, .int a2, .int a3]) F ws_in (t_X6_checkDate hlt h2) cs_X6_checkDate ml_X6_57 hZ hw rfl hl.1 rfl (Nat.le_of_ble_eq_true rfl) ⟨Nat.le_of_ble_eq_true rfl, Nat.le_of_ble_eq_true rfl⟩ ⟨Nat.le_of_ble_eq_true rfl, Nat.le_of_ble_eq_true rfl⟩ dX6_dayNumber_3 (fun hk9 E ce q9 H locs hE hw g1 g2 g3 => ?_) (fun hk9 H locs hw => ?_)
  · cases hn2 hk9
    exact k_xoutI hlk hout hw hk9 hE g1 g2 g3 (Nat.le_of_ble_eq_true rfl) (Nat.le_of_ble_eq_true rfl)
  have hf := hk2 hk9
  refine lv_iload_n hx hb dX6_dayNumber_6 rfl (lv_at hl 1 rfl) ?_
  refine lv_iload_n hx hb dX6_dayNumber_7 rfl (lv_at hl 2 rfl) ?_
  refine lv_iload_n hx hb dX6_dayNumber_8 rfl (lv_at hl 3 rfl) ?_
  obtain ⟨r3, h4, hf⟩ := qbd_e hf
  refine k_callPi (rest := []) (As := [.int a1, .int a2, .int a3]) F ws_in (t_X1_numberOf h4) cs_X1_numberOf ml_X6_61 hw rfl hl.1 rfl (Nat.le_of_ble_eq_true rfl) ⟨Nat.le_of_ble_eq_true rfl, Nat.le_of_ble_eq_true rfl⟩ ⟨Nat.le_of_ble_eq_true rfl, Nat.le_of_ble_eq_true rfl⟩ dX6_dayNumber_9 (fun H locs hw => ?_)
  obtain ⟨rfl, rfl⟩ := q_s2 hf
  exact k_xiret F hr hlk hw rfl (Nat.le_of_ble_eq_true rfl) (Nat.le_of_ble_eq_true rfl) dX6_dayNumber_12
def f_X6_dayNumberByMonths (n : Nat) (x : SX) (a1 : Int32) (a2 : Int32) (a3 : Int32) : Option (Nat × Int32) := (qxb (f_X6_checkDate n a1 a2 a3) ((0 : Int32)) ((qbd (f_X1_numberByAdding n a1 a2 a3) fun r3 => some (0, r3))))
set_option maxHeartbeats 4000000 in
set_option maxRecDepth 100000 in
theorem t_X6_dayNumberByMonths {G : gG} {l : Launch} (hlt : l.stackTraces = false) {ad : Nat → Nat} {n : Nat} {x : SX} {a1 : Int32} {a2 : Int32} {a3 : Int32} {k0 : Nat} {rv : Int32} (hf : f_X6_dayNumberByMonths n x a1 a2 a3 = some (k0, rv)) : MetXI G l yX6_dayNumberByMonths cX6_dayNumberByMonths 4 (some .int) 7 1 6 122 [.ref (ad 0), .int a1, .int a2, .int a3] (wX G ad x) (wX G ad x) k0 rv := by
  refine k_ofXI (by decide) (Nat.le_of_ble_eq_true rfl) ?_
  intro p e s m args below meth c ls A F hr hlk hout hl hw hZ
  have hx := F.1
  have hb := F.2.1
  have hl : lv_has ls 4 [(0, .ref (ad 0)), (1, .int a1), (2, .int a2), (3, .int a3)] := hl
  unfold f_X6_dayNumberByMonths at hf
  refine lv_iload_n hx hb dX6_dayNumberByMonths_0 rfl (lv_at hl 1 rfl) ?_
  refine lv_iload_n hx hb dX6_dayNumberByMonths_1 rfl (lv_at hl 2 rfl) ?_
  refine lv_iload_n hx hb dX6_dayNumberByMonths_2 rfl (lv_at hl 3 rfl) ?_
  obtain ⟨k1, h2, hk2, hn2⟩ := qxb_e hf
  refine k_xcallPv (rest := []) (As := [.int a1, .int a2, .int a3]) F ws_in (t_X6_checkDate hlt h2) cs_X6_checkDate ml_X6_57 hZ hw rfl hl.1 rfl (Nat.le_of_ble_eq_true rfl) ⟨Nat.le_of_ble_eq_true rfl, Nat.le_of_ble_eq_true rfl⟩ ⟨Nat.le_of_ble_eq_true rfl, Nat.le_of_ble_eq_true rfl⟩ dX6_dayNumberByMonths_3 (fun hk9 E ce q9 H locs hE hw g1 g2 g3 => ?_) (fun hk9 H locs hw => ?_)
  · cases hn2 hk9
    exact k_xoutI hlk hout hw hk9 hE g1 g2 g3 (Nat.le_of_ble_eq_true rfl) (Nat.le_of_ble_eq_true rfl)
  have hf := hk2 hk9
  refine lv_iload_n hx hb dX6_dayNumberByMonths_6 rfl (lv_at hl 1 rfl) ?_
  refine lv_iload_n hx hb dX6_dayNumberByMonths_7 rfl (lv_at hl 2 rfl) ?_
  refine lv_iload_n hx hb dX6_dayNumberByMonths_8 rfl (lv_at hl 3 rfl) ?_
  obtain ⟨r3, h4, hf⟩ := qbd_e hf
  refine k_callPi (rest := []) (As := [.int a1, .int a2, .int a3]) F ws_in (t_X1_numberByAdding h4) cs_X1_numberByAdding ml_X6_67 hw rfl hl.1 rfl (Nat.le_of_ble_eq_true rfl) ⟨Nat.le_of_ble_eq_true rfl, Nat.le_of_ble_eq_true rfl⟩ ⟨Nat.le_of_ble_eq_true rfl, Nat.le_of_ble_eq_true rfl⟩ dX6_dayNumberByMonths_9 (fun H locs hw => ?_)
  obtain ⟨rfl, rfl⟩ := q_s2 hf
  exact k_xiret F hr hlk hw rfl (Nat.le_of_ble_eq_true rfl) (Nat.le_of_ble_eq_true rfl) dX6_dayNumberByMonths_12
def f_X6_checkDay (n : Nat) (a1 : Int32) : Option (Nat) := (if a1 < 0 then some 1 else (if a1 ≤ (36524 : Int32) then some 0 else some 1))
set_option maxHeartbeats 4000000 in
set_option maxRecDepth 100000 in
theorem t_X6_checkDay {G : gG} {l : Launch} (hlt : l.stackTraces = false) {n : Nat} {a1 : Int32} {k0 : Nat} (hf : f_X6_checkDay n a1 = some k0) : MetXV G l yX6_checkDay cX6_checkDay 1 none 6 1 6 100 [.int a1] (([] : va_W)) (([] : va_W)) k0 := by
  refine k_ofXV (by decide) (Nat.le_of_ble_eq_true rfl) ?_
  intro p e s m args below meth c ls A F hr hlk hout hl hw hZ
  have hx := F.1
  have hb := F.2.1
  have hl : lv_has ls 1 [(0, .int a1)] := hl
  unfold f_X6_checkDay at hf
  refine lv_iload_n hx hb dX6_checkDay_0 rfl (lv_at hl 0 rfl) ?_
  refine lv_if_lt (tgt := 10) hx hb dX6_checkDay_1 rfl (fun c1 => ?_) (fun c1 => ?_)
  · have hf := q_t c1 hf
    obtain rfl := q_s hf
    exact k_throwV F hlt hlk hout ws_in hZ hw hl.1 (by decide) (by decide) thc_1 thi_1 tha_1 ⟨Nat.le_of_ble_eq_true rfl, Nat.le_of_ble_eq_true rfl, Nat.le_of_ble_eq_true rfl, Nat.le_of_ble_eq_true rfl⟩ (Nat.le_of_ble_eq_true rfl) (Nat.le_of_ble_eq_true rfl) dX6_checkDay_10 dX6_checkDay_13 dX6_checkDay_14 dX6_checkDay_17
  · have hf := q_f c1 hf
    refine lv_iload_n hx hb dX6_checkDay_4 rfl (lv_at hl 0 rfl) ?_
    refine lv_ldc (v := (36524 : Int32)) hx hb F.2.2.2.1 (F.2.2.2.2 _ (ws_in _ ct_X6_91)) dX6_checkDay_5 ?_
    refine lv_icmp_le (tgt := 18) hx hb dX6_checkDay_7 rfl (fun c2 => ?_) (fun c2 => ?_)
    · have hf := q_t c2 hf
      obtain rfl := q_s hf
      exact k_xvret F hr hlk hw (Nat.le_of_ble_eq_true rfl) (Nat.le_of_ble_eq_true rfl) dX6_checkDay_18
    · have hf := q_f c2 hf
      obtain rfl := q_s hf
      exact k_throwV F hlt hlk hout ws_in hZ hw hl.1 (by decide) (by decide) thc_1 thi_1 tha_1 ⟨Nat.le_of_ble_eq_true rfl, Nat.le_of_ble_eq_true rfl, Nat.le_of_ble_eq_true rfl, Nat.le_of_ble_eq_true rfl⟩ (Nat.le_of_ble_eq_true rfl) (Nat.le_of_ble_eq_true rfl) dX6_checkDay_10 dX6_checkDay_13 dX6_checkDay_14 dX6_checkDay_17
def f_X6_yearOf (n : Nat) (x : SX) (a1 : Int32) : Option (Nat × Int32) := (qxb (f_X6_checkDay n a1) ((0 : Int32)) ((qbd (f_X1_yearAt n a1) fun r3 => some (0, r3))))
set_option maxHeartbeats 4000000 in
set_option maxRecDepth 100000 in
theorem t_X6_yearOf {G : gG} {l : Launch} (hlt : l.stackTraces = false) {ad : Nat → Nat} {n : Nat} {x : SX} {a1 : Int32} {k0 : Nat} {rv : Int32} (hf : f_X6_yearOf n x a1 = some (k0, rv)) : MetXI G l yX6_yearOf cX6_yearOf 2 (some .int) 7 1 6 120 [.ref (ad 0), .int a1] (wX G ad x) (wX G ad x) k0 rv := by
  refine k_ofXI (by decide) (Nat.le_of_ble_eq_true rfl) ?_
  intro p e s m args below meth c ls A F hr hlk hout hl hw hZ
  have hx := F.1
  have hb := F.2.1
  have hl : lv_has ls 2 [(0, .ref (ad 0)), (1, .int a1)] := hl
  unfold f_X6_yearOf at hf
  refine lv_iload_n hx hb dX6_yearOf_0 rfl (lv_at hl 1 rfl) ?_
  obtain ⟨k1, h2, hk2, hn2⟩ := qxb_e hf
  refine k_xcallPv (rest := []) (As := [.int a1]) F ws_in (t_X6_checkDay hlt h2) cs_X6_checkDay ml_X6_70 hZ hw rfl hl.1 rfl (Nat.le_of_ble_eq_true rfl) ⟨Nat.le_of_ble_eq_true rfl, Nat.le_of_ble_eq_true rfl⟩ ⟨Nat.le_of_ble_eq_true rfl, Nat.le_of_ble_eq_true rfl⟩ dX6_yearOf_1 (fun hk9 E ce q9 H locs hE hw g1 g2 g3 => ?_) (fun hk9 H locs hw => ?_)
  · cases hn2 hk9
    exact k_xoutI hlk hout hw hk9 hE g1 g2 g3 (Nat.le_of_ble_eq_true rfl) (Nat.le_of_ble_eq_true rfl)
  have hf := hk2 hk9
  refine lv_iload_n hx hb dX6_yearOf_4 rfl (lv_at hl 1 rfl) ?_
  obtain ⟨r3, h4, hf⟩ := qbd_e hf
  refine k_callPi (rest := []) (As := [.int a1]) F ws_in (t_X1_yearAt h4) cs_X1_yearAt ml_X6_74 hw rfl hl.1 rfl (Nat.le_of_ble_eq_true rfl) ⟨Nat.le_of_ble_eq_true rfl, Nat.le_of_ble_eq_true rfl⟩ ⟨Nat.le_of_ble_eq_true rfl, Nat.le_of_ble_eq_true rfl⟩ dX6_yearOf_5 (fun H locs hw => ?_)
  obtain ⟨rfl, rfl⟩ := q_s2 hf
  exact k_xiret F hr hlk hw rfl (Nat.le_of_ble_eq_true rfl) (Nat.le_of_ble_eq_true rfl) dX6_yearOf_8
def f_X6_monthOf (n : Nat) (x : SX) (a1 : Int32) : Option (Nat × Int32) := (qxb (f_X6_checkDay n a1) ((0 : Int32)) ((qbd (f_X1_monthAt n a1) fun r3 => some (0, r3))))
set_option maxHeartbeats 4000000 in
set_option maxRecDepth 100000 in
theorem t_X6_monthOf {G : gG} {l : Launch} (hlt : l.stackTraces = false) {ad : Nat → Nat} {n : Nat} {x : SX} {a1 : Int32} {k0 : Nat} {rv : Int32} (hf : f_X6_monthOf n x a1 = some (k0, rv)) : MetXI G l yX6_monthOf cX6_monthOf 2 (some .int) 7 1 6 120 [.ref (ad 0), .int a1] (wX G ad x) (wX G ad x) k0 rv := by
  refine k_ofXI (by decide) (Nat.le_of_ble_eq_true rfl) ?_
  intro p e s m args below meth c ls A F hr hlk hout hl hw hZ
  have hx := F.1
  have hb := F.2.1
  have hl : lv_has ls 2 [(0, .ref (ad 0)), (1, .int a1)] := hl
  unfold f_X6_monthOf at hf
  refine lv_iload_n hx hb dX6_monthOf_0 rfl (lv_at hl 1 rfl) ?_
  obtain ⟨k1, h2, hk2, hn2⟩ := qxb_e hf
  refine k_xcallPv (rest := []) (As := [.int a1]) F ws_in (t_X6_checkDay hlt h2) cs_X6_checkDay ml_X6_70 hZ hw rfl hl.1 rfl (Nat.le_of_ble_eq_true rfl) ⟨Nat.le_of_ble_eq_true rfl, Nat.le_of_ble_eq_true rfl⟩ ⟨Nat.le_of_ble_eq_true rfl, Nat.le_of_ble_eq_true rfl⟩ dX6_monthOf_1 (fun hk9 E ce q9 H locs hE hw g1 g2 g3 => ?_) (fun hk9 H locs hw => ?_)
  · cases hn2 hk9
    exact k_xoutI hlk hout hw hk9 hE g1 g2 g3 (Nat.le_of_ble_eq_true rfl) (Nat.le_of_ble_eq_true rfl)
  have hf := hk2 hk9
  refine lv_iload_n hx hb dX6_monthOf_4 rfl (lv_at hl 1 rfl) ?_
  obtain ⟨r3, h4, hf⟩ := qbd_e hf
  refine k_callPi (rest := []) (As := [.int a1]) F ws_in (t_X1_monthAt h4) cs_X1_monthAt ml_X6_78 hw rfl hl.1 rfl (Nat.le_of_ble_eq_true rfl) ⟨Nat.le_of_ble_eq_true rfl, Nat.le_of_ble_eq_true rfl⟩ ⟨Nat.le_of_ble_eq_true rfl, Nat.le_of_ble_eq_true rfl⟩ dX6_monthOf_5 (fun H locs hw => ?_)
  obtain ⟨rfl, rfl⟩ := q_s2 hf
  exact k_xiret F hr hlk hw rfl (Nat.le_of_ble_eq_true rfl) (Nat.le_of_ble_eq_true rfl) dX6_monthOf_8
def f_X6_dayOfMonth (n : Nat) (x : SX) (a1 : Int32) : Option (Nat × Int32) := (qxb (f_X6_checkDay n a1) ((0 : Int32)) ((qbd (f_X1_dayInMonthAt n a1) fun r3 => some (0, r3))))
set_option maxHeartbeats 4000000 in
set_option maxRecDepth 100000 in
theorem t_X6_dayOfMonth {G : gG} {l : Launch} (hlt : l.stackTraces = false) {ad : Nat → Nat} {n : Nat} {x : SX} {a1 : Int32} {k0 : Nat} {rv : Int32} (hf : f_X6_dayOfMonth n x a1 = some (k0, rv)) : MetXI G l yX6_dayOfMonth cX6_dayOfMonth 2 (some .int) 7 1 6 120 [.ref (ad 0), .int a1] (wX G ad x) (wX G ad x) k0 rv := by
  refine k_ofXI (by decide) (Nat.le_of_ble_eq_true rfl) ?_
  intro p e s m args below meth c ls A F hr hlk hout hl hw hZ
  have hx := F.1
  have hb := F.2.1
  have hl : lv_has ls 2 [(0, .ref (ad 0)), (1, .int a1)] := hl
  unfold f_X6_dayOfMonth at hf
  refine lv_iload_n hx hb dX6_dayOfMonth_0 rfl (lv_at hl 1 rfl) ?_
  obtain ⟨k1, h2, hk2, hn2⟩ := qxb_e hf
  refine k_xcallPv (rest := []) (As := [.int a1]) F ws_in (t_X6_checkDay hlt h2) cs_X6_checkDay ml_X6_70 hZ hw rfl hl.1 rfl (Nat.le_of_ble_eq_true rfl) ⟨Nat.le_of_ble_eq_true rfl, Nat.le_of_ble_eq_true rfl⟩ ⟨Nat.le_of_ble_eq_true rfl, Nat.le_of_ble_eq_true rfl⟩ dX6_dayOfMonth_1 (fun hk9 E ce q9 H locs hE hw g1 g2 g3 => ?_) (fun hk9 H locs hw => ?_)
  · cases hn2 hk9
    exact k_xoutI hlk hout hw hk9 hE g1 g2 g3 (Nat.le_of_ble_eq_true rfl) (Nat.le_of_ble_eq_true rfl)
  have hf := hk2 hk9
  refine lv_iload_n hx hb dX6_dayOfMonth_4 rfl (lv_at hl 1 rfl) ?_
  obtain ⟨r3, h4, hf⟩ := qbd_e hf
  refine k_callPi (rest := []) (As := [.int a1]) F ws_in (t_X1_dayInMonthAt h4) cs_X1_dayInMonthAt ml_X6_81 hw rfl hl.1 rfl (Nat.le_of_ble_eq_true rfl) ⟨Nat.le_of_ble_eq_true rfl, Nat.le_of_ble_eq_true rfl⟩ ⟨Nat.le_of_ble_eq_true rfl, Nat.le_of_ble_eq_true rfl⟩ dX6_dayOfMonth_5 (fun H locs hw => ?_)
  obtain ⟨rfl, rfl⟩ := q_s2 hf
  exact k_xiret F hr hlk hw rfl (Nat.le_of_ble_eq_true rfl) (Nat.le_of_ble_eq_true rfl) dX6_dayOfMonth_8
def f_X6_monthsAfter (n : Nat) (x : SX) (a1 : Int32) (a2 : Int32) : Option (Nat × Int32) := (qxb (f_X6_checkDay n a1) ((0 : Int32)) ((if a2 < 0 then some (1, (0 : Int32)) else (if a2 ≤ (60 : Int32) then (qbd (f_X1_later n a1 a2) fun r5 => (if r5 ≤ (36524 : Int32) then some (0, r5) else some (1, (0 : Int32)))) else some (1, (0 : Int32))))))
set_option maxHeartbeats 4000000 in
set_option maxRecDepth 100000 in
theorem t_X6_monthsAfter {G : gG} {l : Launch} (hlt : l.stackTraces = false) {ad : Nat → Nat} {n : Nat} {x : SX} {a1 : Int32} {a2 : Int32} {k0 : Nat} {rv : Int32} (hf : f_X6_monthsAfter n x a1 a2 = some (k0, rv)) : MetXI G l yX6_monthsAfter cX6_monthsAfter 4 (some .int) 7 2 12 120 [.ref (ad 0), .int a1, .int a2] (wX G ad x) (wX G ad x) k0 rv := by
  refine k_ofXI (by decide) (Nat.le_of_ble_eq_true rfl) ?_
  intro p e s m args below meth c ls A F hr hlk hout hl hw hZ
  have hx := F.1
  have hb := F.2.1
  have hl : lv_has ls 4 [(0, .ref (ad 0)), (1, .int a1), (2, .int a2)] := hl
  unfold f_X6_monthsAfter at hf
  refine lv_iload_n hx hb dX6_monthsAfter_0 rfl (lv_at hl 1 rfl) ?_
  obtain ⟨k1, h2, hk2, hn2⟩ := qxb_e hf
  refine k_xcallPv (rest := []) (As := [.int a1]) F ws_in (t_X6_checkDay hlt h2) cs_X6_checkDay ml_X6_70 hZ hw rfl hl.1 rfl (Nat.le_of_ble_eq_true rfl) ⟨Nat.le_of_ble_eq_true rfl, Nat.le_of_ble_eq_true rfl⟩ ⟨Nat.le_of_ble_eq_true rfl, Nat.le_of_ble_eq_true rfl⟩ dX6_monthsAfter_1 (fun hk9 E ce q9 H locs hE hw g1 g2 g3 => ?_) (fun hk9 H locs hw => ?_)
  · cases hn2 hk9
    exact k_xoutI hlk hout hw hk9 hE g1 g2 g3 (Nat.le_of_ble_eq_true rfl) (Nat.le_of_ble_eq_true rfl)
  have hf := hk2 hk9
  refine lv_iload_n hx hb dX6_monthsAfter_4 rfl (lv_at hl 2 rfl) ?_
  refine lv_if_lt (tgt := 14) hx hb dX6_monthsAfter_5 rfl (fun c3 => ?_) (fun c3 => ?_)
  · have hf := q_t c3 hf
    obtain ⟨rfl, rfl⟩ := q_s2 hf
    exact k_throwI F hlt hlk hout ws_in hZ hw hl.1 (by decide) (by decide) thc_1 thi_1 tha_1 ⟨Nat.le_of_ble_eq_true rfl, Nat.le_of_ble_eq_true rfl, Nat.le_of_ble_eq_true rfl, Nat.le_of_ble_eq_true rfl⟩ (Nat.le_of_ble_eq_true rfl) (Nat.le_of_ble_eq_true rfl) dX6_monthsAfter_14 dX6_monthsAfter_17 dX6_monthsAfter_18 dX6_monthsAfter_21
  · have hf := q_f c3 hf
    refine lv_iload_n hx hb dX6_monthsAfter_8 rfl (lv_at hl 2 rfl) ?_
    refine lv_bipush (v := 60) hx hb dX6_monthsAfter_9 (by decide) ?_
    refine lv_icmp_le (tgt := 22) hx hb dX6_monthsAfter_11 rfl (fun c4 => ?_) (fun c4 => ?_)
    · have hf := q_t c4 hf
      refine lv_iload_n hx hb dX6_monthsAfter_22 rfl (lv_at hl 1 rfl) ?_
      refine lv_iload_n hx hb dX6_monthsAfter_23 rfl (lv_at hl 2 rfl) ?_
      obtain ⟨r5, h6, hf⟩ := qbd_e hf
      refine k_callPi (rest := []) (As := [.int a1, .int a2]) F ws_in (t_X1_later h6) cs_X1_later ml_X6_87 hw rfl hl.1 rfl (Nat.le_of_ble_eq_true rfl) ⟨Nat.le_of_ble_eq_true rfl, Nat.le_of_ble_eq_true rfl⟩ ⟨Nat.le_of_ble_eq_true rfl, Nat.le_of_ble_eq_true rfl⟩ dX6_monthsAfter_24 (fun H locs hw => ?_)
      refine lv_istore_n (lv' := [(3, .int r5), (0, .ref (ad 0)), (1, .int a1), (2, .int a2)]) hx hb dX6_monthsAfter_27 rfl hl (Nat.le_of_ble_eq_true rfl) rfl (fun ls hl => ?_)
      refine lv_iload_n hx hb dX6_monthsAfter_28 rfl (lv_at hl 0 rfl) ?_
      refine lv_ldc (v := (36524 : Int32)) hx hb F.2.2.2.1 (F.2.2.2.2 _ (ws_in _ ct_X6_91)) dX6_monthsAfter_29 ?_
      refine lv_icmp_le (tgt := 42) hx hb dX6_monthsAfter_31 rfl (fun c7 => ?_) (fun c7 => ?_)
      · have hf := q_t c7 hf
        refine lv_iload_n hx hb dX6_monthsAfter_42 rfl (lv_at hl 0 rfl) ?_
        obtain ⟨rfl, rfl⟩ := q_s2 hf
        exact k_xiret F hr hlk hw rfl (Nat.le_of_ble_eq_true rfl) (Nat.le_of_ble_eq_true rfl) dX6_monthsAfter_43
      · have hf := q_f c7 hf
        obtain ⟨rfl, rfl⟩ := q_s2 hf
        exact k_throwI F hlt hlk hout ws_in hZ hw hl.1 (by decide) (by decide) thc_1 thi_1 tha_1 ⟨Nat.le_of_ble_eq_true rfl, Nat.le_of_ble_eq_true rfl, Nat.le_of_ble_eq_true rfl, Nat.le_of_ble_eq_true rfl⟩ (Nat.le_of_ble_eq_true rfl) (Nat.le_of_ble_eq_true rfl) dX6_monthsAfter_34 dX6_monthsAfter_37 dX6_monthsAfter_38 dX6_monthsAfter_41
    · have hf := q_f c4 hf
      obtain ⟨rfl, rfl⟩ := q_s2 hf
      exact k_throwI F hlt hlk hout ws_in hZ hw hl.1 (by decide) (by decide) thc_1 thi_1 tha_1 ⟨Nat.le_of_ble_eq_true rfl, Nat.le_of_ble_eq_true rfl, Nat.le_of_ble_eq_true rfl, Nat.le_of_ble_eq_true rfl⟩ (Nat.le_of_ble_eq_true rfl) (Nat.le_of_ble_eq_true rfl) dX6_monthsAfter_14 dX6_monthsAfter_17 dX6_monthsAfter_18 dX6_monthsAfter_21
def f_X6_today (n : Nat) (x : SX) : Option (Int32) := some (x.1 0 8)
set_option maxHeartbeats 4000000 in
set_option maxRecDepth 100000 in
theorem t_X6_today {G : gG} {l : Launch} {ad : Nat → Nat} {n : Nat} {x : SX} {rv : Int32} (hf : f_X6_today n x = some rv) : MetI G l yX6_today cX6_today 1 (some .int) 0 0 0 0 [.ref (ad 0)] (wX G ad x) (wX G ad x) rv := by
  refine k_ofI (by decide) (Nat.le_of_ble_eq_true rfl) ?_
  intro p e s m args below meth c ls A F hr hlk hl hw
  have hx := F.1
  have hb := F.2.1
  have hl : lv_has ls 1 [(0, .ref (ad 0))] := hl
  unfold f_X6_today at hf
  refine lv_aload_n hx hb dX6_today_0 rfl (lv_at hl 0 rfl) ?_
  refine X_g_0_8 F ws_in hw fl_X6_92 dX6_today_1 ?_
  obtain rfl := q_s hf
  exact k_iret F hr hlk hw (Nat.le_of_ble_eq_true rfl) (Nat.le_of_ble_eq_true rfl) dX6_today_4
def f_X6_recallsMade (n : Nat) (x : SX) : Option (Int32) := some ((x.1 4 0) + (1 : Int32))
set_option maxHeartbeats 4000000 in
set_option maxRecDepth 100000 in
theorem t_X6_recallsMade {G : gG} {l : Launch} {ad : Nat → Nat} {n : Nat} {x : SX} {rv : Int32} (hf : f_X6_recallsMade n x = some rv) : MetI G l yX6_recallsMade cX6_recallsMade 1 (some .int) 0 0 0 0 [.ref (ad 0)] (wX G ad x) (wX G ad x) rv := by
  refine k_ofI (by decide) (Nat.le_of_ble_eq_true rfl) ?_
  intro p e s m args below meth c ls A F hr hlk hl hw
  have hx := F.1
  have hb := F.2.1
  have hl : lv_has ls 1 [(0, .ref (ad 0))] := hl
  unfold f_X6_recallsMade at hf
  refine lv_aload_n hx hb dX6_recallsMade_0 rfl (lv_at hl 0 rfl) ?_
  refine X_g_0_3 F ws_in hw fl_X6_33 dX6_recallsMade_1 ?_
  refine X_g_4_0 F ws_in hw fl_X6_172 dX6_recallsMade_4 ?_
  refine lv_iconst (v := 1) hx hb dX6_recallsMade_7 (by decide) ?_
  refine lv_iadd hx hb dX6_recallsMade_8 ?_
  obtain rfl := q_s hf
  exact k_iret F hr hlk hw (Nat.le_of_ble_eq_true rfl) (Nat.le_of_ble_eq_true rfl) dX6_recallsMade_9
def f_X2_bitsWithin (n : Nat) (a1 : Int32) (a2 : Int32) (a3 : Int32) : Option (Int64) := (qnm (if (a2 - (a1 <<< ((6 : Int32) &&& 31))) < (0 : Int32) then (0 : Int32) else (a2 - (a1 <<< ((6 : Int32) &&& 31)))) fun v1 => (qnm (if (63 : Int32) < (a3 - (a1 <<< ((6 : Int32) &&& 31))) then (63 : Int32) else (a3 - (a1 <<< ((6 : Int32) &&& 31)))) fun v2 => (qbd (if v1 ≤ v2 then some (((-1 : Int64) <<< (v1.toInt64 &&& 63)) &&& (((-1 : Int64).toUInt64 >>> (((63 : Int32) - v2).toInt64.toUInt64 &&& Int64.toUInt64 63)).toInt64)) else some (0 : Int64)) fun v3 => some v3)))
set_option maxHeartbeats 4000000 in
set_option maxRecDepth 100000 in
theorem t_X2_bitsWithin {G : gG} {l : Launch} {n : Nat} {a1 : Int32} {a2 : Int32} {a3 : Int32} {rv : Int64} (hf : f_X2_bitsWithin n a1 a2 a3 = some rv) : MetJ G l yX2_bitsWithin cX2_bitsWithin 5 (some .long) 1 0 0 30 [.int a1, .int a2, .int a3] (([] : va_W)) (([] : va_W)) rv := by
  refine k_ofJ (by decide) (Nat.le_of_ble_eq_true rfl) ?_
  intro p e s m args below meth c ls A F hr hlk hl hw
  have hx := F.1
  have hb := F.2.1
  have hl : lv_has ls 5 [(0, .int a1), (1, .int a2), (2, .int a3)] := hl
  unfold f_X2_bitsWithin at hf
  refine lv_iload_n hx hb dX2_bitsWithin_0 rfl (lv_at hl 1 rfl) ?_
  refine lv_iload_n hx hb dX2_bitsWithin_1 rfl (lv_at hl 0 rfl) ?_
  refine lv_bipush (v := 6) hx hb dX2_bitsWithin_2 (by decide) ?_
  refine lv_ishl hx hb dX2_bitsWithin_4 ?_
  refine lv_isub hx hb dX2_bitsWithin_5 ?_
  refine lv_iconst (v := 0) hx hb dX2_bitsWithin_6 (by decide) ?_
  refine k_mmax F ws_in ml_X2_21 cm_max hl.1 ⟨Nat.le_of_ble_eq_true rfl, Nat.le_of_ble_eq_true rfl, Nat.le_of_ble_eq_true rfl, Nat.le_of_ble_eq_true rfl⟩ dX2_bitsWithin_7 ?_
  refine lv_topi (fun v1 ev1 => ?_)
  have hf := qnm_k ev1 hf
  refine lv_istore_n (lv' := [(3, .int v1), (0, .int a1), (1, .int a2), (2, .int a3)]) hx hb dX2_bitsWithin_10 rfl hl (Nat.le_of_ble_eq_true rfl) rfl (fun ls hl => ?_)
  refine lv_iload_n hx hb dX2_bitsWithin_11 rfl (lv_at hl 3 rfl) ?_
  refine lv_iload_n hx hb dX2_bitsWithin_12 rfl (lv_at hl 1 rfl) ?_
  refine lv_bipush (v := 6) hx hb dX2_bitsWithin_13 (by decide) ?_
  refine lv_ishl hx hb dX2_bitsWithin_15 ?_
  refine lv_isub hx hb dX2_bitsWithin_16 ?_
  refine lv_bipush (v := 63) hx hb dX2_bitsWithin_17 (by decide) ?_
  refine k_mmin F ws_in ml_X2_39 cm_min hl.1 ⟨Nat.le_of_ble_eq_true rfl, Nat.le_of_ble_eq_true rfl, Nat.le_of_ble_eq_true rfl, Nat.le_of_ble_eq_true rfl⟩ dX2_bitsWithin_19 ?_
  refine lv_topi (fun v2 ev2 => ?_)
  have hf := qnm_k ev2 hf
  refine lv_istore (lv' := [(4, .int v2), (3, .int v1), (0, .int a1), (1, .int a2), (2, .int a3)]) hx hb dX2_bitsWithin_22 hl (Nat.le_of_ble_eq_true rfl) rfl (fun ls hl => ?_)
  refine lv_iload_n hx hb dX2_bitsWithin_24 rfl (lv_at hl 1 rfl) ?_
  refine lv_iload hx hb dX2_bitsWithin_25 (lv_at hl 0 rfl) ?_
  obtain ⟨v3, hq6, hf⟩ := qbd_e hf
  have J4 : ∀ (H : Heap) (locs : List Loc) (ls : Array Slot), Wd G (([] : va_W)) A s H locs → lv_has ls 5 [] → W p l e (rmk 1 0 0 30) s m args below meth c H locs 0 0 (KQJ G below args s A (([] : va_W)) rv 0 0) (F0 m 49 ls [.long v3]) := by
    intro H locs ls hw hl
    obtain rfl := q_s hf
    exact k_lret F hr hlk hw (Nat.le_of_ble_eq_true rfl) (Nat.le_of_ble_eq_true rfl) dX2_bitsWithin_49
  have hf := hq6
  refine lv_icmp_le (tgt := 34) hx hb dX2_bitsWithin_27 rfl (fun c5 => ?_) (fun c5 => ?_)
  · have hf := q_t c5 hf
    refine lv_ldc2 (v := (-1 : Int64)) hx hb F.2.2.2.1 (F.2.2.2.2 _ (ws_in _ ct_X2_37)) dX2_bitsWithin_34 ?_
    refine lv_iload_n hx hb dX2_bitsWithin_37 rfl (lv_at hl 1 rfl) ?_
    refine lv_lshl hx hb dX2_bitsWithin_38 rfl ?_
    refine lv_ldc2 (v := (-1 : Int64)) hx hb F.2.2.2.1 (F.2.2.2.2 _ (ws_in _ ct_X2_37)) dX2_bitsWithin_39 ?_
    refine lv_bipush (v := 63) hx hb dX2_bitsWithin_42 (by decide) ?_
    refine lv_iload hx hb dX2_bitsWithin_44 (lv_at hl 0 rfl) ?_
    refine lv_isub hx hb dX2_bitsWithin_46 ?_
    refine lv_lushr hx hb dX2_bitsWithin_47 rfl ?_
    refine lv_land hx hb dX2_bitsWithin_48 ?_
    obtain rfl := q_s hf
    exact J4 _ _ _ hw (lv_sub hl [] rfl)
  · have hf := q_f c5 hf
    refine lv_lconst (v := 0) hx hb dX2_bitsWithin_30 (by decide) ?_
    refine lv_goto (tgt := 49) hx hb dX2_bitsWithin_31 rfl ?_
    obtain rfl := q_s hf
    exact J4 _ _ _ hw (lv_sub hl [] rfl)
def f_X6_latestRecallEnd (n : Nat) (x : SX) : Option (Int32) := (qbd (f_X0_daysForRecall n x (x.1 4 0)) fun r1 => (qbd (f_X3_endWith n x r1) fun r3 => some r3))
set_option maxHeartbeats 4000000 in
set_option maxRecDepth 100000 in
theorem t_X6_latestRecallEnd {G : gG} {l : Launch} {ad : Nat → Nat} {n : Nat} {x : SX} {rv : Int32} (hf : f_X6_latestRecallEnd n x = some rv) : MetI G l yX6_latestRecallEnd cX6_latestRecallEnd 1 (some .int) 2 0 0 51 [.ref (ad 0)] (wX G ad x) (wX G ad x) rv := by
  refine k_ofI (by decide) (Nat.le_of_ble_eq_true rfl) ?_
  intro p e s m args below meth c ls A F hr hlk hl hw
  have hx := F.1
  have hb := F.2.1
  have hl : lv_has ls 1 [(0, .ref (ad 0))] := hl
  unfold f_X6_latestRecallEnd at hf
  refine lv_aload_n hx hb dX6_latestRecallEnd_0 rfl (lv_at hl 0 rfl) ?_
  refine X_g_0_3 F ws_in hw fl_X6_33 dX6_latestRecallEnd_1 ?_
  refine lv_aload_n hx hb dX6_latestRecallEnd_4 rfl (lv_at hl 0 rfl) ?_
  refine X_g_0_2 F ws_in hw fl_X6_26 dX6_latestRecallEnd_5 ?_
  refine lv_aload_n hx hb dX6_latestRecallEnd_8 rfl (lv_at hl 0 rfl) ?_
  refine X_g_0_3 F ws_in hw fl_X6_33 dX6_latestRecallEnd_9 ?_
  refine X_g_4_0 F ws_in hw fl_X6_172 dX6_latestRecallEnd_12 ?_
  obtain ⟨r1, h2, hf⟩ := qbd_e hf
  refine k_callVi' (rest := [.ref (ad 4)]) (As := [.int (x.1 4 0)]) F ws_in (t_X0_daysForRecall h2) cv_X0_daysForRecall ml_X6_349 hw 3 rfl rfl rfl hl.1 rfl (Nat.le_of_ble_eq_true rfl) ⟨Nat.le_of_ble_eq_true rfl, Nat.le_of_ble_eq_true rfl⟩ ⟨Nat.le_of_ble_eq_true rfl, Nat.le_of_ble_eq_true rfl⟩ dX6_latestRecallEnd_15 (fun H locs hw => ?_)
  obtain ⟨r3, h4, hf⟩ := qbd_e hf
  refine k_callVi' (rest := []) (As := [.int r1]) F ws_in (t_X3_endWith h4) cv_X3_endWith ml_X6_352 hw 4 rfl rfl rfl hl.1 rfl (Nat.le_of_ble_eq_true rfl) ⟨Nat.le_of_ble_eq_true rfl, Nat.le_of_ble_eq_true rfl⟩ ⟨Nat.le_of_ble_eq_true rfl, Nat.le_of_ble_eq_true rfl⟩ dX6_latestRecallEnd_18 (fun H locs hw => ?_)
  obtain rfl := q_s hf
  exact k_iret F hr hlk hw (Nat.le_of_ble_eq_true rfl) (Nat.le_of_ble_eq_true rfl) dX6_latestRecallEnd_21
def f_X6_recallIsRunning (n : Nat) (x : SX) : Option (Int32) := (qbd (f_X6_recallsMade n x) fun r1 => (qbd (if r1 ≤ 0 then some (0 : Int32) else (qbd (f_X6_latestRecallEnd n x) fun r7 => (if r7 ≤ (x.1 0 8) then some (0 : Int32) else some (1 : Int32)))) fun v3 => (qgd (qz v3) (some v3))))
set_option maxHeartbeats 4000000 in
set_option maxRecDepth 100000 in
theorem t_X6_recallIsRunning {G : gG} {l : Launch} {ad : Nat → Nat} {n : Nat} {x : SX} {rv : Int32} (hf : f_X6_recallIsRunning n x = some rv) : MetI G l yX6_recallIsRunning cX6_recallIsRunning 1 (some .boolean) 3 0 0 71 [.ref (ad 0)] (wX G ad x) (wX G ad x) rv := by
  refine k_ofI (by decide) (Nat.le_of_ble_eq_true rfl) ?_
  intro p e s m args below meth c ls A F hr hlk hl hw
  have hx := F.1
  have hb := F.2.1
  have hl : lv_has ls 1 [(0, .ref (ad 0))] := hl
  unfold f_X6_recallIsRunning at hf
  refine lv_aload_n hx hb dX6_recallIsRunning_0 rfl (lv_at hl 0 rfl) ?_
  obtain ⟨r1, h2, hf⟩ := qbd_e hf
  refine k_callVi' (rest := []) (As := []) F ws_in (t_X6_recallsMade h2) cv_X6_recallsMade ml_X6_189 hw 0 rfl rfl rfl hl.1 rfl (Nat.le_of_ble_eq_true rfl) ⟨Nat.le_of_ble_eq_true rfl, Nat.le_of_ble_eq_true rfl⟩ ⟨Nat.le_of_ble_eq_true rfl, Nat.le_of_ble_eq_true rfl⟩ dX6_recallIsRunning_1 (fun H locs hw => ?_)
  obtain ⟨v3, hq10, hf⟩ := qbd_e hf
  have J4 : ∀ (H : Heap) (locs : List Loc) (ls : Array Slot), Wd G (wX G ad x) A s H locs → lv_has ls 1 [] → W p l e (rmk 3 0 0 71) s m args below meth c H locs 0 0 (KQI G below args s A (wX G ad x) rv 0 0) (F0 m 23 ls [.int v3]) := by
    intro H locs ls hw hl
    obtain ⟨g5, hf⟩ := qgd_e hf
    obtain rfl := q_s hf
    exact k_zret F hr hlk hw (qz_n g5) (Nat.le_of_ble_eq_true rfl) (Nat.le_of_ble_eq_true rfl) dX6_recallIsRunning_23
  have hf := hq10
  refine lv_if_le (tgt := 22) hx hb dX6_recallIsRunning_4 rfl (fun c6 => ?_) (fun c6 => ?_)
  · have hf := q_t c6 hf
    refine lv_iconst (v := 0) hx hb dX6_recallIsRunning_22 (by decide) ?_
    obtain rfl := q_s hf
    exact J4 _ _ _ hw (lv_sub hl [] rfl)
  · have hf := q_f c6 hf
    refine lv_aload_n hx hb dX6_recallIsRunning_7 rfl (lv_at hl 0 rfl) ?_
    obtain ⟨r7, h8, hf⟩ := qbd_e hf
    refine k_callVi' (rest := []) (As := []) F ws_in (t_X6_latestRecallEnd h8) cv_X6_latestRecallEnd ml_X6_195 hw 0 rfl rfl rfl hl.1 rfl (Nat.le_of_ble_eq_true rfl) ⟨Nat.le_of_ble_eq_true rfl, Nat.le_of_ble_eq_true rfl⟩ ⟨Nat.le_of_ble_eq_true rfl, Nat.le_of_ble_eq_true rfl⟩ dX6_recallIsRunning_8 (fun H locs hw => ?_)
    refine lv_aload_n hx hb dX6_recallIsRunning_11 rfl (lv_at hl 0 rfl) ?_
    refine X_g_0_8 F ws_in hw fl_X6_92 dX6_recallIsRunning_12 ?_
    refine lv_icmp_le (tgt := 22) hx hb dX6_recallIsRunning_15 rfl (fun c9 => ?_) (fun c9 => ?_)
    · have hf := q_t c9 hf
      refine lv_iconst (v := 0) hx hb dX6_recallIsRunning_22 (by decide) ?_
      obtain rfl := q_s hf
      exact J4 _ _ _ hw (lv_sub hl [] rfl)
    · have hf := q_f c9 hf
      refine lv_iconst (v := 1) hx hb dX6_recallIsRunning_18 (by decide) ?_
      refine lv_goto (tgt := 23) hx hb dX6_recallIsRunning_19 rfl ?_
      obtain rfl := q_s hf
      exact J4 _ _ _ hw (lv_sub hl [] rfl)
def f_X6_greatestRelease_l5 (x : SX) (a1 : Int32) (a2 : Int32) (n : Nat) : Nat → Int32 → Int32 → Option (Int32)
  | 0, _, _ => none
  | m + 1, v1, v2 => (if (x.1 1 7) ≤ v2 then some v1 else (qgd (qin v2 10) ((qbd (if (x.1 16 v2.toNatClampNeg) = 0 then (qbd (if ((x.1 18 v2.toNatClampNeg) &&& a1) = 0 then some (0 : Int32) else some a2) fun v10 => (qbd (f_X0_daysForChain n x (x.1 18 v2.toNatClampNeg)) fun r12 => (qnm (r12 + v10) fun v14 => (qbd (f_X5_releaseWith n x v2 v14) fun r15 => (qnm (if v1 < r15 then r15 else v1) fun v17 => some v17))))) else some v1) fun v6 => (qnm (v2 + (1 : Int32)) fun v8 => (f_X6_greatestRelease_l5 x a1 a2 n m) v6 v8)))))
def f_X6_greatestRelease (n : Nat) (x : SX) (a1 : Int32) (a2 : Int32) : Option (Int32) := f_X6_greatestRelease_l5 x a1 a2 n n (0 : Int32) (0 : Int32)
set_option maxHeartbeats 4000000 in
set_option maxRecDepth 100000 in
theorem t_X6_greatestRelease {G : gG} {l : Launch} {ad : Nat → Nat} {n : Nat} {x : SX} {a1 : Int32} {a2 : Int32} {rv : Int32} (hf : f_X6_greatestRelease n x a1 a2 = some rv) : MetI G l yX6_greatestRelease cX6_greatestRelease 7 (some .int) 2 0 0 54 [.ref (ad 0), .int a1, .int a2] (wX G ad x) (wX G ad x) rv := by
  refine k_ofI (by decide) (Nat.le_of_ble_eq_true rfl) ?_
  intro p e s m args below meth c ls A F hr hlk hl hw
  have hx := F.1
  have hb := F.2.1
  have hl : lv_has ls 7 [(0, .ref (ad 0)), (1, .int a1), (2, .int a2)] := hl
  unfold f_X6_greatestRelease at hf
  refine lv_iconst (v := 0) hx hb dX6_greatestRelease_0 (by decide) ?_
  refine lv_istore_n (lv' := [(3, .int (0 : Int32)), (0, .ref (ad 0)), (1, .int a1), (2, .int a2)]) hx hb dX6_greatestRelease_1 rfl hl (Nat.le_of_ble_eq_true rfl) rfl (fun ls hl => ?_)
  refine lv_iconst (v := 0) hx hb dX6_greatestRelease_2 (by decide) ?_
  refine lv_istore (lv' := [(4, .int (0 : Int32)), (3, .int (0 : Int32)), (0, .ref (ad 0)), (1, .int a1), (2, .int a2)]) hx hb dX6_greatestRelease_3 hl (Nat.le_of_ble_eq_true rfl) rfl (fun ls hl => ?_)
  have L3 : ∀ (m0 : Nat) (v1 : Int32) (v2 : Int32) (H : Heap) (locs : List Loc) (ls : Array Slot), Wd G (wX G ad x) A s H locs → lv_has ls 7 [(0, .ref (ad 0)), (1, .int a1), (2, .int a2), (3, .int v1), (4, .int v2)] → f_X6_greatestRelease_l5 x a1 a2 n m0 v1 v2 = some rv → W p l e (rmk 2 0 0 54) s m args below meth c H locs 0 0 (KQI G below args s A (wX G ad x) rv 0 0) (F0 m 5 ls []) := by
    intro m0
    induction m0 with
    | zero => intro v1 v2 H locs ls hw hl hf; cases hf
    | succ mL3 ih3 =>
      intro v1 v2 H locs ls hw hl hf
      unfold f_X6_greatestRelease_l5 at hf
      refine lv_iload hx hb dX6_greatestRelease_5 (lv_at hl 4 rfl) ?_
      refine lv_aload_n hx hb dX6_greatestRelease_7 rfl (lv_at hl 0 rfl) ?_
      refine X_g_0_0 F ws_in hw fl_X6_10 dX6_greatestRelease_8 ?_
      refine X_g_1_7 F ws_in hw fl_X6_198 dX6_greatestRelease_11 ?_
      refine lv_icmp_ge (tgt := 96) hx hb dX6_greatestRelease_14 rfl (fun c4 => ?_) (fun c4 => ?_)
      · have hf := q_t c4 hf
        refine lv_iload_n hx hb dX6_greatestRelease_96 rfl (lv_at hl 3 rfl) ?_
        obtain rfl := q_s hf
        exact k_iret F hr hlk hw (Nat.le_of_ble_eq_true rfl) (Nat.le_of_ble_eq_true rfl) dX6_greatestRelease_97
      · have hf := q_f c4 hf
        refine lv_aload_n hx hb dX6_greatestRelease_17 rfl (lv_at hl 0 rfl) ?_
        refine X_g_0_0 F ws_in hw fl_X6_10 dX6_greatestRelease_18 ?_
        refine X_g_1_6 F ws_in hw fl_X6_132 dX6_greatestRelease_21 ?_
        refine lv_iload hx hb dX6_greatestRelease_24 (lv_at hl 4 rfl) ?_
        obtain ⟨g5, hf⟩ := qgd_e hf
        refine X_l_16 F hw g5 dX6_greatestRelease_26 ?_
        obtain ⟨v6, hq20, hf⟩ := qbd_e hf
        have J7 : ∀ (H : Heap) (locs : List Loc) (ls : Array Slot), Wd G (wX G ad x) A s H locs → lv_has ls 7 [(0, .ref (ad 0)), (1, .int a1), (2, .int a2), (3, .int v6), (4, .int v2)] → W p l e (rmk 2 0 0 54) s m args below meth c H locs 0 0 (KQI G below args s A (wX G ad x) rv 0 0) (F0 m 90 ls []) := by
          intro H locs ls hw hl
          obtain ⟨v8, ev8⟩ : ∃ y : Int32, y = v2 + (1 : Int32) := ⟨_, rfl⟩
          refine lv_iinc (v := v8) (lv' := [(4, .int v8), (0, .ref (ad 0)), (1, .int a1), (2, .int a2), (3, .int v6)]) hx hb dX6_greatestRelease_90 hl (k := 4) rfl (by rw [ev8]; rfl) (Nat.le_of_ble_eq_true rfl) rfl (fun ls hl => ?_)
          have hf := qnm_k ev8 hf
          refine lv_goto (tgt := 5) hx hb dX6_greatestRelease_93 rfl ?_
          exact ih3 v6 v8 _ _ _ hw (lv_sub hl [1, 2, 3, 4, 0] rfl) hf
        have hf := hq20
        refine lv_if_ne (tgt := 90) hx hb dX6_greatestRelease_27 rfl (fun c9 => ?_) (fun c9 => ?_)
        · have hf := q_f c9 hf
          obtain rfl := q_s hf
          exact J7 _ _ _ hw (lv_sub hl [0, 1, 2, 3, 4] rfl)
        · have hf := q_t c9 hf
          refine lv_aload_n hx hb dX6_greatestRelease_30 rfl (lv_at hl 0 rfl) ?_
          refine X_g_0_0 F ws_in hw fl_X6_10 dX6_greatestRelease_31 ?_
          refine X_g_1_8 F ws_in hw fl_X6_208 dX6_greatestRelease_34 ?_
          refine lv_iload hx hb dX6_greatestRelease_37 (lv_at hl 4 rfl) ?_
          refine X_l_18 F hw g5 dX6_greatestRelease_39 ?_
          refine lv_iload_n hx hb dX6_greatestRelease_40 rfl (lv_at hl 1 rfl) ?_
          refine lv_iand hx hb dX6_greatestRelease_41 ?_
          obtain ⟨v10, hq19, hf⟩ := qbd_e hf
          have J11 : ∀ (H : Heap) (locs : List Loc) (ls : Array Slot), Wd G (wX G ad x) A s H locs → lv_has ls 7 [(0, .ref (ad 0)), (1, .int a1), (2, .int a2), (3, .int v1), (4, .int v2)] → W p l e (rmk 2 0 0 54) s m args below meth c H locs 0 0 (KQI G below args s A (wX G ad x) rv 0 0) (F0 m 50 ls [.int v10]) := by
            intro H locs ls hw hl
            refine lv_istore (lv' := [(5, .int v10), (0, .ref (ad 0)), (1, .int a1), (2, .int a2), (3, .int v1), (4, .int v2)]) hx hb dX6_greatestRelease_50 hl (Nat.le_of_ble_eq_true rfl) rfl (fun ls hl => ?_)
            refine lv_aload_n hx hb dX6_greatestRelease_52 rfl (lv_at hl 1 rfl) ?_
            refine X_g_0_2 F ws_in hw fl_X6_26 dX6_greatestRelease_53 ?_
            refine lv_aload_n hx hb dX6_greatestRelease_56 rfl (lv_at hl 1 rfl) ?_
            refine X_g_0_0 F ws_in hw fl_X6_10 dX6_greatestRelease_57 ?_
            refine X_g_1_8 F ws_in hw fl_X6_208 dX6_greatestRelease_60 ?_
            refine lv_iload hx hb dX6_greatestRelease_63 (lv_at hl 5 rfl) ?_
            refine X_l_18 F hw g5 dX6_greatestRelease_65 ?_
            obtain ⟨r12, h13, hf⟩ := qbd_e hf
            refine k_callVi' (rest := []) (As := [.int (x.1 18 v2.toNatClampNeg)]) F ws_in (t_X0_daysForChain h13) cv_X0_daysForChain ml_X6_231 hw 3 rfl rfl rfl hl.1 rfl (Nat.le_of_ble_eq_true rfl) ⟨Nat.le_of_ble_eq_true rfl, Nat.le_of_ble_eq_true rfl⟩ ⟨Nat.le_of_ble_eq_true rfl, Nat.le_of_ble_eq_true rfl⟩ dX6_greatestRelease_66 (fun H locs hw => ?_)
            refine lv_iload hx hb dX6_greatestRelease_69 (lv_at hl 0 rfl) ?_
            refine lv_iadd hx hb dX6_greatestRelease_71 ?_
            refine lv_topi (fun v14 ev14 => ?_)
            have hf := qnm_k ev14 hf
            refine lv_istore (lv' := [(6, .int v14), (5, .int v10), (0, .ref (ad 0)), (1, .int a1), (2, .int a2), (3, .int v1), (4, .int v2)]) hx hb dX6_greatestRelease_72 hl (Nat.le_of_ble_eq_true rfl) rfl (fun ls hl => ?_)
            refine lv_iload_n hx hb dX6_greatestRelease_74 rfl (lv_at hl 5 rfl) ?_
            refine lv_aload_n hx hb dX6_greatestRelease_75 rfl (lv_at hl 2 rfl) ?_
            refine X_g_0_0 F ws_in hw fl_X6_10 dX6_greatestRelease_76 ?_
            refine lv_iload hx hb dX6_greatestRelease_79 (lv_at hl 6 rfl) ?_
            refine lv_iload hx hb dX6_greatestRelease_81 (lv_at hl 0 rfl) ?_
            obtain ⟨r15, h16, hf⟩ := qbd_e hf
            refine k_callVi' (rest := [.int v1]) (As := [.int v2, .int v14]) F ws_in (t_X5_releaseWith h16) cv_X5_releaseWith ml_X6_337 hw 1 rfl rfl rfl hl.1 rfl (Nat.le_of_ble_eq_true rfl) ⟨Nat.le_of_ble_eq_true rfl, Nat.le_of_ble_eq_true rfl⟩ ⟨Nat.le_of_ble_eq_true rfl, Nat.le_of_ble_eq_true rfl⟩ dX6_greatestRelease_83 (fun H locs hw => ?_)
            refine k_mmax F ws_in ml_X6_252 cm_max hl.1 ⟨Nat.le_of_ble_eq_true rfl, Nat.le_of_ble_eq_true rfl, Nat.le_of_ble_eq_true rfl, Nat.le_of_ble_eq_true rfl⟩ dX6_greatestRelease_86 ?_
            refine lv_topi (fun v17 ev17 => ?_)
            have hf := qnm_k ev17 hf
            refine lv_istore_n (lv' := [(3, .int v17), (6, .int v14), (5, .int v10), (0, .ref (ad 0)), (1, .int a1), (2, .int a2), (4, .int v2)]) hx hb dX6_greatestRelease_89 rfl hl (Nat.le_of_ble_eq_true rfl) rfl (fun ls hl => ?_)
            obtain rfl := q_s hf
            exact J7 _ _ _ hw (lv_sub hl [3, 4, 5, 0, 6] rfl)
          have hf := hq19
          refine lv_if_eq (tgt := 49) hx hb dX6_greatestRelease_42 rfl (fun c18 => ?_) (fun c18 => ?_)
          · have hf := q_t c18 hf
            refine lv_iconst (v := 0) hx hb dX6_greatestRelease_49 (by decide) ?_
            obtain rfl := q_s hf
            exact J11 _ _ _ hw (lv_sub hl [0, 1, 2, 3, 4] rfl)
          · have hf := q_f c18 hf
            refine lv_iload_n hx hb dX6_greatestRelease_45 rfl (lv_at hl 2 rfl) ?_
            refine lv_goto (tgt := 50) hx hb dX6_greatestRelease_46 rfl ?_
            obtain rfl := q_s hf
            exact J11 _ _ _ hw (lv_sub hl [0, 1, 2, 3, 4] rfl)
  exact L3 n (0 : Int32) (0 : Int32) _ _ _ hw (lv_sub hl [2, 3, 4, 1, 0] rfl) hf
def f_X2_mark_6_l9 (a2 : Int32) (n : Nat) (a1 : Int32) : Nat → Int32 → SX → Option (SX)
  | 0, _, _ => none
  | m + 1, v2, x3 => (if (229 : Int32) ≤ v2 then some x3 else (if (a2 >>> ((6 : Int32) &&& 31)) < v2 then some x3 else (qgd (qin v2 229) ((qbd (f_X2_bitsWithin n v2 a1 a2) fun r8 => (qnm (sl x3 41 v2.toNatClampNeg ((x3.2 41 v2.toNatClampNeg) ||| r8)) fun x10 => (qnm (v2 + (1 : Int32)) fun v11 => (f_X2_mark_6_l9 a2 n a1 m) v11 x10)))))))
def f_X2_mark_6 (n : Nat) (x : SX) (a1 : Int32) (a2 : Int32) : Option (SX) := (qnm ((if a1 < (0 : Int32) then (0 : Int32) else a1) >>> ((6 : Int32) &&& 31)) fun v1 => f_X2_mark_6_l9 a2 n a1 n v1 x)
set_option maxHeartbeats 4000000 in
set_option maxRecDepth 100000 in
theorem t_X2_mark_6 {G : gG} {l : Launch} {ad : Nat → Nat} {n : Nat} {x : SX} {a1 : Int32} {a2 : Int32} {xr : SX} (hf : f_X2_mark_6 n x a1 a2 = some xr) : MetV G l yX2_mark cX2_mark 4 none 2 0 0 54 [.ref (ad 6), .int a1, .int a2] (wX G ad x) (wX G ad xr) := by
  refine k_ofV (by decide) (Nat.le_of_ble_eq_true rfl) ?_
  intro p e s m args below meth c ls A F hr hlk hl hw
  have hx := F.1
  have hb := F.2.1
  have hl : lv_has ls 4 [(0, .ref (ad 6)), (1, .int a1), (2, .int a2)] := hl
  unfold f_X2_mark_6 at hf
  refine lv_iload_n hx hb dX2_mark_0 rfl (lv_at hl 1 rfl) ?_
  refine lv_iconst (v := 0) hx hb dX2_mark_1 (by decide) ?_
  refine k_mmax F ws_in ml_X2_21 cm_max hl.1 ⟨Nat.le_of_ble_eq_true rfl, Nat.le_of_ble_eq_true rfl, Nat.le_of_ble_eq_true rfl, Nat.le_of_ble_eq_true rfl⟩ dX2_mark_2 ?_
  refine lv_bipush (v := 6) hx hb dX2_mark_5 (by decide) ?_
  refine lv_ishr hx hb dX2_mark_7 ?_
  refine lv_topi (fun v1 ev1 => ?_)
  have hf := qnm_k ev1 hf
  refine lv_istore_n (lv' := [(3, .int v1), (0, .ref (ad 6)), (1, .int a1), (2, .int a2)]) hx hb dX2_mark_8 rfl hl (Nat.le_of_ble_eq_true rfl) rfl (fun ls hl => ?_)
  have L4 : ∀ (m0 : Nat) (v2 : Int32) (x3 : SX) (H : Heap) (locs : List Loc) (ls : Array Slot), Wd G (wX G ad x3) A s H locs → lv_has ls 4 [(0, .ref (ad 6)), (1, .int a1), (2, .int a2), (3, .int v2)] → f_X2_mark_6_l9 a2 n a1 m0 v2 x3 = some xr → W p l e (rmk 2 0 0 54) s m args below meth c H locs 0 0 (KQV G below args s A (wX G ad xr) 0 0) (F0 m 9 ls []) := by
    intro m0
    induction m0 with
    | zero => intro v2 x3 H locs ls hw hl hf; cases hf
    | succ mL4 ih4 =>
      intro v2 x3 H locs ls hw hl hf
      unfold f_X2_mark_6_l9 at hf
      refine lv_iload_n hx hb dX2_mark_9 rfl (lv_at hl 3 rfl) ?_
      refine lv_sipush (v := 229) hx hb dX2_mark_10 (by decide) ?_
      refine lv_icmp_ge (tgt := 45) hx hb dX2_mark_13 rfl (fun c5 => ?_) (fun c5 => ?_)
      · have hf := q_t c5 hf
        obtain rfl := q_s hf
        exact k_vret F hr hlk hw (Nat.le_of_ble_eq_true rfl) (Nat.le_of_ble_eq_true rfl) dX2_mark_45
      · have hf := q_f c5 hf
        refine lv_iload_n hx hb dX2_mark_16 rfl (lv_at hl 3 rfl) ?_
        refine lv_iload_n hx hb dX2_mark_17 rfl (lv_at hl 2 rfl) ?_
        refine lv_bipush (v := 6) hx hb dX2_mark_18 (by decide) ?_
        refine lv_ishr hx hb dX2_mark_20 ?_
        refine lv_icmp_gt (tgt := 45) hx hb dX2_mark_21 rfl (fun c6 => ?_) (fun c6 => ?_)
        · have hf := q_t c6 hf
          obtain rfl := q_s hf
          exact k_vret F hr hlk hw (Nat.le_of_ble_eq_true rfl) (Nat.le_of_ble_eq_true rfl) dX2_mark_45
        · have hf := q_f c6 hf
          refine lv_aload_n hx hb dX2_mark_24 rfl (lv_at hl 0 rfl) ?_
          refine X_g_6_0 F ws_in hw fl_X2_11 dX2_mark_25 ?_
          refine lv_iload_n hx hb dX2_mark_28 rfl (lv_at hl 3 rfl) ?_
          refine lv_dup2_11 hx hb dX2_mark_29 rfl rfl ?_
          obtain ⟨g7, hf⟩ := qgd_e hf
          refine X_l_41 F hw g7 dX2_mark_30 ?_
          refine lv_iload_n hx hb dX2_mark_31 rfl (lv_at hl 3 rfl) ?_
          refine lv_iload_n hx hb dX2_mark_32 rfl (lv_at hl 1 rfl) ?_
          refine lv_iload_n hx hb dX2_mark_33 rfl (lv_at hl 2 rfl) ?_
          obtain ⟨r8, h9, hf⟩ := qbd_e hf
          refine k_callPj (rest := [.long (x3.2 41 v2.toNatClampNeg), .int v2, .ref (ad 41)]) (As := [.int v2, .int a1, .int a2]) F ws_in (t_X2_bitsWithin h9) cs_X2_bitsWithin ml_X2_27 hw rfl hl.1 rfl (Nat.le_of_ble_eq_true rfl) ⟨Nat.le_of_ble_eq_true rfl, Nat.le_of_ble_eq_true rfl⟩ ⟨Nat.le_of_ble_eq_true rfl, Nat.le_of_ble_eq_true rfl⟩ dX2_mark_34 (fun H locs hw => ?_)
          refine lv_lor hx hb dX2_mark_37 ?_
          refine X_s_41 F hw g7 dX2_mark_38 (fun x10 ex10 H locs hw => ?_)
          have hf := qnm_k ex10 hf
          obtain ⟨v11, ev11⟩ : ∃ y : Int32, y = v2 + (1 : Int32) := ⟨_, rfl⟩
          refine lv_iinc (v := v11) (lv' := [(3, .int v11), (0, .ref (ad 6)), (1, .int a1), (2, .int a2)]) hx hb dX2_mark_39 hl (k := 3) rfl (by rw [ev11]; rfl) (Nat.le_of_ble_eq_true rfl) rfl (fun ls hl => ?_)
          have hf := qnm_k ev11 hf
          refine lv_goto (tgt := 9) hx hb dX2_mark_42 rfl ?_
          exact ih4 v11 x10 _ _ _ hw (lv_sub hl [1, 2, 3, 0] rfl) hf
  exact L4 n v1 x _ _ _ hw (lv_sub hl [1, 2, 3, 0] rfl) hf
def f_X2_mark_5_l9 (a2 : Int32) (n : Nat) (a1 : Int32) : Nat → Int32 → SX → Option (SX)
  | 0, _, _ => none
  | m + 1, v2, x3 => (if (229 : Int32) ≤ v2 then some x3 else (if (a2 >>> ((6 : Int32) &&& 31)) < v2 then some x3 else (qgd (qin v2 229) ((qbd (f_X2_bitsWithin n v2 a1 a2) fun r8 => (qnm (sl x3 40 v2.toNatClampNeg ((x3.2 40 v2.toNatClampNeg) ||| r8)) fun x10 => (qnm (v2 + (1 : Int32)) fun v11 => (f_X2_mark_5_l9 a2 n a1 m) v11 x10)))))))
def f_X2_mark_5 (n : Nat) (x : SX) (a1 : Int32) (a2 : Int32) : Option (SX) := (qnm ((if a1 < (0 : Int32) then (0 : Int32) else a1) >>> ((6 : Int32) &&& 31)) fun v1 => f_X2_mark_5_l9 a2 n a1 n v1 x)
set_option maxHeartbeats 4000000 in
set_option maxRecDepth 100000 in
theorem t_X2_mark_5 {G : gG} {l : Launch} {ad : Nat → Nat} {n : Nat} {x : SX} {a1 : Int32} {a2 : Int32} {xr : SX} (hf : f_X2_mark_5 n x a1 a2 = some xr) : MetV G l yX2_mark cX2_mark 4 none 2 0 0 54 [.ref (ad 5), .int a1, .int a2] (wX G ad x) (wX G ad xr) := by
  refine k_ofV (by decide) (Nat.le_of_ble_eq_true rfl) ?_
  intro p e s m args below meth c ls A F hr hlk hl hw
  have hx := F.1
  have hb := F.2.1
  have hl : lv_has ls 4 [(0, .ref (ad 5)), (1, .int a1), (2, .int a2)] := hl
  unfold f_X2_mark_5 at hf
  refine lv_iload_n hx hb dX2_mark_0 rfl (lv_at hl 1 rfl) ?_
  refine lv_iconst (v := 0) hx hb dX2_mark_1 (by decide) ?_
  refine k_mmax F ws_in ml_X2_21 cm_max hl.1 ⟨Nat.le_of_ble_eq_true rfl, Nat.le_of_ble_eq_true rfl, Nat.le_of_ble_eq_true rfl, Nat.le_of_ble_eq_true rfl⟩ dX2_mark_2 ?_
  refine lv_bipush (v := 6) hx hb dX2_mark_5 (by decide) ?_
  refine lv_ishr hx hb dX2_mark_7 ?_
  refine lv_topi (fun v1 ev1 => ?_)
  have hf := qnm_k ev1 hf
  refine lv_istore_n (lv' := [(3, .int v1), (0, .ref (ad 5)), (1, .int a1), (2, .int a2)]) hx hb dX2_mark_8 rfl hl (Nat.le_of_ble_eq_true rfl) rfl (fun ls hl => ?_)
  have L4 : ∀ (m0 : Nat) (v2 : Int32) (x3 : SX) (H : Heap) (locs : List Loc) (ls : Array Slot), Wd G (wX G ad x3) A s H locs → lv_has ls 4 [(0, .ref (ad 5)), (1, .int a1), (2, .int a2), (3, .int v2)] → f_X2_mark_5_l9 a2 n a1 m0 v2 x3 = some xr → W p l e (rmk 2 0 0 54) s m args below meth c H locs 0 0 (KQV G below args s A (wX G ad xr) 0 0) (F0 m 9 ls []) := by
    intro m0
    induction m0 with
    | zero => intro v2 x3 H locs ls hw hl hf; cases hf
    | succ mL4 ih4 =>
      intro v2 x3 H locs ls hw hl hf
      unfold f_X2_mark_5_l9 at hf
      refine lv_iload_n hx hb dX2_mark_9 rfl (lv_at hl 3 rfl) ?_
      refine lv_sipush (v := 229) hx hb dX2_mark_10 (by decide) ?_
      refine lv_icmp_ge (tgt := 45) hx hb dX2_mark_13 rfl (fun c5 => ?_) (fun c5 => ?_)
      · have hf := q_t c5 hf
        obtain rfl := q_s hf
        exact k_vret F hr hlk hw (Nat.le_of_ble_eq_true rfl) (Nat.le_of_ble_eq_true rfl) dX2_mark_45
      · have hf := q_f c5 hf
        refine lv_iload_n hx hb dX2_mark_16 rfl (lv_at hl 3 rfl) ?_
        refine lv_iload_n hx hb dX2_mark_17 rfl (lv_at hl 2 rfl) ?_
        refine lv_bipush (v := 6) hx hb dX2_mark_18 (by decide) ?_
        refine lv_ishr hx hb dX2_mark_20 ?_
        refine lv_icmp_gt (tgt := 45) hx hb dX2_mark_21 rfl (fun c6 => ?_) (fun c6 => ?_)
        · have hf := q_t c6 hf
          obtain rfl := q_s hf
          exact k_vret F hr hlk hw (Nat.le_of_ble_eq_true rfl) (Nat.le_of_ble_eq_true rfl) dX2_mark_45
        · have hf := q_f c6 hf
          refine lv_aload_n hx hb dX2_mark_24 rfl (lv_at hl 0 rfl) ?_
          refine X_g_5_0 F ws_in hw fl_X2_11 dX2_mark_25 ?_
          refine lv_iload_n hx hb dX2_mark_28 rfl (lv_at hl 3 rfl) ?_
          refine lv_dup2_11 hx hb dX2_mark_29 rfl rfl ?_
          obtain ⟨g7, hf⟩ := qgd_e hf
          refine X_l_40 F hw g7 dX2_mark_30 ?_
          refine lv_iload_n hx hb dX2_mark_31 rfl (lv_at hl 3 rfl) ?_
          refine lv_iload_n hx hb dX2_mark_32 rfl (lv_at hl 1 rfl) ?_
          refine lv_iload_n hx hb dX2_mark_33 rfl (lv_at hl 2 rfl) ?_
          obtain ⟨r8, h9, hf⟩ := qbd_e hf
          refine k_callPj (rest := [.long (x3.2 40 v2.toNatClampNeg), .int v2, .ref (ad 40)]) (As := [.int v2, .int a1, .int a2]) F ws_in (t_X2_bitsWithin h9) cs_X2_bitsWithin ml_X2_27 hw rfl hl.1 rfl (Nat.le_of_ble_eq_true rfl) ⟨Nat.le_of_ble_eq_true rfl, Nat.le_of_ble_eq_true rfl⟩ ⟨Nat.le_of_ble_eq_true rfl, Nat.le_of_ble_eq_true rfl⟩ dX2_mark_34 (fun H locs hw => ?_)
          refine lv_lor hx hb dX2_mark_37 ?_
          refine X_s_40 F hw g7 dX2_mark_38 (fun x10 ex10 H locs hw => ?_)
          have hf := qnm_k ex10 hf
          obtain ⟨v11, ev11⟩ : ∃ y : Int32, y = v2 + (1 : Int32) := ⟨_, rfl⟩
          refine lv_iinc (v := v11) (lv' := [(3, .int v11), (0, .ref (ad 5)), (1, .int a1), (2, .int a2)]) hx hb dX2_mark_39 hl (k := 3) rfl (by rw [ev11]; rfl) (Nat.le_of_ble_eq_true rfl) rfl (fun ls hl => ?_)
          have hf := qnm_k ev11 hf
          refine lv_goto (tgt := 9) hx hb dX2_mark_42 rfl ?_
          exact ih4 v11 x10 _ _ _ hw (lv_sub hl [1, 2, 3, 0] rfl) hf
  exact L4 n v1 x _ _ _ hw (lv_sub hl [1, 2, 3, 0] rfl) hf
def f_X6_greatestEnd_l4 (x : SX) (n : Nat) : Nat → Int32 → Int32 → Option (Int32)
  | 0, _, _ => none
  | m + 1, v1, v2 => (if (x.1 1 7) ≤ v2 then some v1 else (qgd (qin v2 10) ((qbd (if (x.1 16 v2.toNatClampNeg) = 0 then (qbd (f_X5_endOf n x v2) fun r10 => (qnm (if v1 < r10 then r10 else v1) fun v12 => some v12)) else some v1) fun v6 => (qnm (v2 + (1 : Int32)) fun v8 => (f_X6_greatestEnd_l4 x n m) v6 v8)))))
def f_X6_greatestEnd (n : Nat) (x : SX) : Option (Int32) := f_X6_greatestEnd_l4 x n n (0 : Int32) (0 : Int32)
set_option maxHeartbeats 4000000 in
set_option maxRecDepth 100000 in
theorem t_X6_greatestEnd {G : gG} {l : Launch} {ad : Nat → Nat} {n : Nat} {x : SX} {rv : Int32} (hf : f_X6_greatestEnd n x = some rv) : MetI G l yX6_greatestEnd cX6_greatestEnd 3 (some .int) 1 0 0 30 [.ref (ad 0)] (wX G ad x) (wX G ad x) rv := by
  refine k_ofI (by decide) (Nat.le_of_ble_eq_true rfl) ?_
  intro p e s m args below meth c ls A F hr hlk hl hw
  have hx := F.1
  have hb := F.2.1
  have hl : lv_has ls 3 [(0, .ref (ad 0))] := hl
  unfold f_X6_greatestEnd at hf
  refine lv_iconst (v := 0) hx hb dX6_greatestEnd_0 (by decide) ?_
  refine lv_istore_n (lv' := [(1, .int (0 : Int32)), (0, .ref (ad 0))]) hx hb dX6_greatestEnd_1 rfl hl (Nat.le_of_ble_eq_true rfl) rfl (fun ls hl => ?_)
  refine lv_iconst (v := 0) hx hb dX6_greatestEnd_2 (by decide) ?_
  refine lv_istore_n (lv' := [(2, .int (0 : Int32)), (1, .int (0 : Int32)), (0, .ref (ad 0))]) hx hb dX6_greatestEnd_3 rfl hl (Nat.le_of_ble_eq_true rfl) rfl (fun ls hl => ?_)
  have L3 : ∀ (m0 : Nat) (v1 : Int32) (v2 : Int32) (H : Heap) (locs : List Loc) (ls : Array Slot), Wd G (wX G ad x) A s H locs → lv_has ls 3 [(0, .ref (ad 0)), (1, .int v1), (2, .int v2)] → f_X6_greatestEnd_l4 x n m0 v1 v2 = some rv → W p l e (rmk 1 0 0 30) s m args below meth c H locs 0 0 (KQI G below args s A (wX G ad x) rv 0 0) (F0 m 4 ls []) := by
    intro m0
    induction m0 with
    | zero => intro v1 v2 H locs ls hw hl hf; cases hf
    | succ mL3 ih3 =>
      intro v1 v2 H locs ls hw hl hf
      unfold f_X6_greatestEnd_l4 at hf
      refine lv_iload_n hx hb dX6_greatestEnd_4 rfl (lv_at hl 2 rfl) ?_
      refine lv_aload_n hx hb dX6_greatestEnd_5 rfl (lv_at hl 0 rfl) ?_
      refine X_g_0_0 F ws_in hw fl_X6_10 dX6_greatestEnd_6 ?_
      refine X_g_1_7 F ws_in hw fl_X6_198 dX6_greatestEnd_9 ?_
      refine lv_icmp_ge (tgt := 46) hx hb dX6_greatestEnd_12 rfl (fun c4 => ?_) (fun c4 => ?_)
      · have hf := q_t c4 hf
        refine lv_iload_n hx hb dX6_greatestEnd_46 rfl (lv_at hl 1 rfl) ?_
        obtain rfl := q_s hf
        exact k_iret F hr hlk hw (Nat.le_of_ble_eq_true rfl) (Nat.le_of_ble_eq_true rfl) dX6_greatestEnd_47
      · have hf := q_f c4 hf
        refine lv_aload_n hx hb dX6_greatestEnd_15 rfl (lv_at hl 0 rfl) ?_
        refine X_g_0_0 F ws_in hw fl_X6_10 dX6_greatestEnd_16 ?_
        refine X_g_1_6 F ws_in hw fl_X6_132 dX6_greatestEnd_19 ?_
        refine lv_iload_n hx hb dX6_greatestEnd_22 rfl (lv_at hl 2 rfl) ?_
        obtain ⟨g5, hf⟩ := qgd_e hf
        refine X_l_16 F hw g5 dX6_greatestEnd_23 ?_
        obtain ⟨v6, hq13, hf⟩ := qbd_e hf
        have J7 : ∀ (H : Heap) (locs : List Loc) (ls : Array Slot), Wd G (wX G ad x) A s H locs → lv_has ls 3 [(0, .ref (ad 0)), (1, .int v6), (2, .int v2)] → W p l e (rmk 1 0 0 30) s m args below meth c H locs 0 0 (KQI G below args s A (wX G ad x) rv 0 0) (F0 m 40 ls []) := by
          intro H locs ls hw hl
          obtain ⟨v8, ev8⟩ : ∃ y : Int32, y = v2 + (1 : Int32) := ⟨_, rfl⟩
          refine lv_iinc (v := v8) (lv' := [(2, .int v8), (0, .ref (ad 0)), (1, .int v6)]) hx hb dX6_greatestEnd_40 hl (k := 2) rfl (by rw [ev8]; rfl) (Nat.le_of_ble_eq_true rfl) rfl (fun ls hl => ?_)
          have hf := qnm_k ev8 hf
          refine lv_goto (tgt := 4) hx hb dX6_greatestEnd_43 rfl ?_
          exact ih3 v6 v8 _ _ _ hw (lv_sub hl [1, 2, 0] rfl) hf
        have hf := hq13
        refine lv_if_ne (tgt := 40) hx hb dX6_greatestEnd_24 rfl (fun c9 => ?_) (fun c9 => ?_)
        · have hf := q_f c9 hf
          obtain rfl := q_s hf
          exact J7 _ _ _ hw (lv_sub hl [0, 1, 2] rfl)
        · have hf := q_t c9 hf
          refine lv_iload_n hx hb dX6_greatestEnd_27 rfl (lv_at hl 1 rfl) ?_
          refine lv_aload_n hx hb dX6_greatestEnd_28 rfl (lv_at hl 0 rfl) ?_
          refine X_g_0_0 F ws_in hw fl_X6_10 dX6_greatestEnd_29 ?_
          refine lv_iload_n hx hb dX6_greatestEnd_32 rfl (lv_at hl 2 rfl) ?_
          obtain ⟨r10, h11, hf⟩ := qbd_e hf
          refine k_callVi' (rest := [.int v1]) (As := [.int v2]) F ws_in (t_X5_endOf h11) cv_X5_endOf ml_X6_237 hw 1 rfl rfl rfl hl.1 rfl (Nat.le_of_ble_eq_true rfl) ⟨Nat.le_of_ble_eq_true rfl, Nat.le_of_ble_eq_true rfl⟩ ⟨Nat.le_of_ble_eq_true rfl, Nat.le_of_ble_eq_true rfl⟩ dX6_greatestEnd_33 (fun H locs hw => ?_)
          refine k_mmax F ws_in ml_X6_252 cm_max hl.1 ⟨Nat.le_of_ble_eq_true rfl, Nat.le_of_ble_eq_true rfl, Nat.le_of_ble_eq_true rfl, Nat.le_of_ble_eq_true rfl⟩ dX6_greatestEnd_36 ?_
          refine lv_topi (fun v12 ev12 => ?_)
          have hf := qnm_k ev12 hf
          refine lv_istore_n (lv' := [(1, .int v12), (0, .ref (ad 0)), (2, .int v2)]) hx hb dX6_greatestEnd_39 rfl hl (Nat.le_of_ble_eq_true rfl) rfl (fun ls hl => ?_)
          obtain rfl := q_s hf
          exact J7 _ _ _ hw (lv_sub hl [1, 0, 2] rfl)
  exact L3 n (0 : Int32) (0 : Int32) _ _ _ hw (lv_sub hl [2, 1, 0] rfl) hf
def f_X6_within (n : Nat) (a1 : Int32) (a2 : Int32) (a3 : Int32) : Option (Int32) := some (if a3 < (if a2 < a1 then a1 else a2) then a3 else (if a2 < a1 then a1 else a2))
set_option maxHeartbeats 4000000 in
set_option maxRecDepth 100000 in
theorem t_X6_within {G : gG} {l : Launch} {n : Nat} {a1 : Int32} {a2 : Int32} {a3 : Int32} {rv : Int32} (hf : f_X6_within n a1 a2 a3 = some rv) : MetI G l yX6_within cX6_within 3 (some .int) 1 0 0 30 [.int a1, .int a2, .int a3] (([] : va_W)) (([] : va_W)) rv := by
  refine k_ofI (by decide) (Nat.le_of_ble_eq_true rfl) ?_
  intro p e s m args below meth c ls A F hr hlk hl hw
  have hx := F.1
  have hb := F.2.1
  have hl : lv_has ls 3 [(0, .int a1), (1, .int a2), (2, .int a3)] := hl
  unfold f_X6_within at hf
  refine lv_iload_n hx hb dX6_within_0 rfl (lv_at hl 1 rfl) ?_
  refine lv_iload_n hx hb dX6_within_1 rfl (lv_at hl 0 rfl) ?_
  refine k_mmax F ws_in ml_X6_252 cm_max hl.1 ⟨Nat.le_of_ble_eq_true rfl, Nat.le_of_ble_eq_true rfl, Nat.le_of_ble_eq_true rfl, Nat.le_of_ble_eq_true rfl⟩ dX6_within_2 ?_
  refine lv_iload_n hx hb dX6_within_5 rfl (lv_at hl 2 rfl) ?_
  refine k_mmin F ws_in ml_X6_293 cm_min hl.1 ⟨Nat.le_of_ble_eq_true rfl, Nat.le_of_ble_eq_true rfl, Nat.le_of_ble_eq_true rfl, Nat.le_of_ble_eq_true rfl⟩ dX6_within_6 ?_
  obtain rfl := q_s hf
  exact k_iret F hr hlk hw (Nat.le_of_ble_eq_true rfl) (Nat.le_of_ble_eq_true rfl) dX6_within_9
def f_X6_custodyEnd (n : Nat) (x : SX) : Option (Int32) := (qbd (f_X6_greatestRelease n x (0 : Int32) (0 : Int32)) fun r1 => (qbd (f_X6_recallIsRunning n x) fun r3 => (qbd (if r3 = 0 then some r1 else (qbd (f_X6_latestRecallEnd n x) fun r8 => some (if r1 < r8 then r8 else r1))) fun v5 => some v5)))
set_option maxHeartbeats 4000000 in
set_option maxRecDepth 100000 in
theorem t_X6_custodyEnd {G : gG} {l : Launch} {ad : Nat → Nat} {n : Nat} {x : SX} {rv : Int32} (hf : f_X6_custodyEnd n x = some rv) : MetI G l yX6_custodyEnd cX6_custodyEnd 2 (some .int) 4 0 0 91 [.ref (ad 0)] (wX G ad x) (wX G ad x) rv := by
  refine k_ofI (by decide) (Nat.le_of_ble_eq_true rfl) ?_
  intro p e s m args below meth c ls A F hr hlk hl hw
  have hx := F.1
  have hb := F.2.1
  have hl : lv_has ls 2 [(0, .ref (ad 0))] := hl
  unfold f_X6_custodyEnd at hf
  refine lv_aload_n hx hb dX6_custodyEnd_0 rfl (lv_at hl 0 rfl) ?_
  refine lv_iconst (v := 0) hx hb dX6_custodyEnd_1 (by decide) ?_
  refine lv_iconst (v := 0) hx hb dX6_custodyEnd_2 (by decide) ?_
  obtain ⟨r1, h2, hf⟩ := qbd_e hf
  refine k_callVi' (rest := []) (As := [.int (0 : Int32), .int (0 : Int32)]) F ws_in (t_X6_greatestRelease h2) cv_X6_greatestRelease ml_X6_243 hw 0 rfl rfl rfl hl.1 rfl (Nat.le_of_ble_eq_true rfl) ⟨Nat.le_of_ble_eq_true rfl, Nat.le_of_ble_eq_true rfl⟩ ⟨Nat.le_of_ble_eq_true rfl, Nat.le_of_ble_eq_true rfl⟩ dX6_custodyEnd_3 (fun H locs hw => ?_)
  refine lv_istore_n (lv' := [(1, .int r1), (0, .ref (ad 0))]) hx hb dX6_custodyEnd_6 rfl hl (Nat.le_of_ble_eq_true rfl) rfl (fun ls hl => ?_)
  refine lv_aload_n hx hb dX6_custodyEnd_7 rfl (lv_at hl 1 rfl) ?_
  obtain ⟨r3, h4, hf⟩ := qbd_e hf
  refine k_callVi' (rest := []) (As := []) F ws_in (t_X6_recallIsRunning h4) cv_X6_recallIsRunning ml_X6_168 hw 0 rfl rfl rfl hl.1 rfl (Nat.le_of_ble_eq_true rfl) ⟨Nat.le_of_ble_eq_true rfl, Nat.le_of_ble_eq_true rfl⟩ ⟨Nat.le_of_ble_eq_true rfl, Nat.le_of_ble_eq_true rfl⟩ dX6_custodyEnd_8 (fun H locs hw => ?_)
  obtain ⟨v5, hq10, hf⟩ := qbd_e hf
  have J6 : ∀ (H : Heap) (locs : List Loc) (ls : Array Slot), Wd G (wX G ad x) A s H locs → lv_has ls 2 [] → W p l e (rmk 4 0 0 91) s m args below meth c H locs 0 0 (KQI G below args s A (wX G ad x) rv 0 0) (F0 m 26 ls [.int v5]) := by
    intro H locs ls hw hl
    obtain rfl := q_s hf
    exact k_iret F hr hlk hw (Nat.le_of_ble_eq_true rfl) (Nat.le_of_ble_eq_true rfl) dX6_custodyEnd_26
  have hf := hq10
  refine lv_if_eq (tgt := 25) hx hb dX6_custodyEnd_11 rfl (fun c7 => ?_) (fun c7 => ?_)
  · have hf := q_t c7 hf
    refine lv_iload_n hx hb dX6_custodyEnd_25 rfl (lv_at hl 0 rfl) ?_
    obtain rfl := q_s hf
    exact J6 _ _ _ hw (lv_sub hl [] rfl)
  · have hf := q_f c7 hf
    refine lv_iload_n hx hb dX6_custodyEnd_14 rfl (lv_at hl 0 rfl) ?_
    refine lv_aload_n hx hb dX6_custodyEnd_15 rfl (lv_at hl 1 rfl) ?_
    obtain ⟨r8, h9, hf⟩ := qbd_e hf
    refine k_callVi' (rest := [.int r1]) (As := []) F ws_in (t_X6_latestRecallEnd h9) cv_X6_latestRecallEnd ml_X6_195 hw 0 rfl rfl rfl hl.1 rfl (Nat.le_of_ble_eq_true rfl) ⟨Nat.le_of_ble_eq_true rfl, Nat.le_of_ble_eq_true rfl⟩ ⟨Nat.le_of_ble_eq_true rfl, Nat.le_of_ble_eq_true rfl⟩ dX6_custodyEnd_16 (fun H locs hw => ?_)
    refine k_mmax F ws_in ml_X6_252 cm_max hl.1 ⟨Nat.le_of_ble_eq_true rfl, Nat.le_of_ble_eq_true rfl, Nat.le_of_ble_eq_true rfl, Nat.le_of_ble_eq_true rfl⟩ dX6_custodyEnd_19 ?_
    refine lv_goto (tgt := 26) hx hb dX6_custodyEnd_22 rfl ?_
    obtain rfl := q_s hf
    exact J6 _ _ _ hw (lv_sub hl [] rfl)
def f_X6_advance (n : Nat) (x : SX) (a1 : Int32) : Option (Nat × Int32 × SX) := (if a1 < (1 : Int32) then some (1, (0 : Int32), x) else (if a1 ≤ (400 : Int32) then (if ((x.1 0 8) + a1) ≤ (14609 : Int32) then (qnm ((x.1 0 8) + a1) fun v4 => (qbd (f_X6_custodyEnd n x) fun r5 => (qbd (f_X6_within n (x.1 0 8) r5 v4) fun r7 => (qbd (f_X6_greatestEnd n x) fun r9 => (qbd (f_X6_within n r7 r9 v4) fun r11 => (qbd (f_X2_mark_5 n x (x.1 0 8) (r7 - (1 : Int32))) fun x13 => (qbd (f_X2_mark_6 n x13 r7 (r11 - (1 : Int32))) fun x15 => (qnm (r7 - (x15.1 0 8)) fun v17 => (qnm (si x15 0 9 ((x15.1 0 9) + v17)) fun x18 => (qnm (si x18 0 10 ((x18.1 0 10) + (r11 - r7))) fun x19 => (qnm (si x19 0 8 v4) fun x20 => some (0, v17, x20)))))))))))) else some (2, (0 : Int32), x)) else some (1, (0 : Int32), x)))
set_option maxHeartbeats 4000000 in
set_option maxRecDepth 100000 in
theorem t_X6_advance {G : gG} {l : Launch} (hlt : l.stackTraces = false) {ad : Nat → Nat} {n : Nat} {x : SX} {a1 : Int32} {k0 : Nat} {rv : Int32} {xr : SX} (hf : f_X6_advance n x a1 = some (k0, rv, xr)) : MetXI G l yX6_advance cX6_advance 6 (some .int) 6 1 6 112 [.ref (ad 0), .int a1] (wX G ad x) (wX G ad xr) k0 rv := by
  refine k_ofXI (by decide) (Nat.le_of_ble_eq_true rfl) ?_
  intro p e s m args below meth c ls A F hr hlk hout hl hw hZ
  have hx := F.1
  have hb := F.2.1
  have hl : lv_has ls 6 [(0, .ref (ad 0)), (1, .int a1)] := hl
  unfold f_X6_advance at hf
  refine lv_iload_n hx hb dX6_advance_0 rfl (lv_at hl 1 rfl) ?_
  refine lv_iconst (v := 1) hx hb dX6_advance_1 (by decide) ?_
  refine lv_icmp_lt (tgt := 12) hx hb dX6_advance_2 rfl (fun c1 => ?_) (fun c1 => ?_)
  · have hf := q_t c1 hf
    obtain ⟨rfl, rfl, rfl⟩ := q_s3 hf
    exact k_throwI F hlt hlk hout ws_in hZ hw hl.1 (by decide) (by decide) thc_1 thi_1 tha_1 ⟨Nat.le_of_ble_eq_true rfl, Nat.le_of_ble_eq_true rfl, Nat.le_of_ble_eq_true rfl, Nat.le_of_ble_eq_true rfl⟩ (Nat.le_of_ble_eq_true rfl) (Nat.le_of_ble_eq_true rfl) dX6_advance_12 dX6_advance_15 dX6_advance_16 dX6_advance_19
  · have hf := q_f c1 hf
    refine lv_iload_n hx hb dX6_advance_5 rfl (lv_at hl 1 rfl) ?_
    refine lv_sipush (v := 400) hx hb dX6_advance_6 (by decide) ?_
    refine lv_icmp_le (tgt := 20) hx hb dX6_advance_9 rfl (fun c2 => ?_) (fun c2 => ?_)
    · have hf := q_t c2 hf
      refine lv_aload_n hx hb dX6_advance_20 rfl (lv_at hl 0 rfl) ?_
      refine X_g_0_8 F ws_in hw fl_X6_92 dX6_advance_21 ?_
      refine lv_iload_n hx hb dX6_advance_24 rfl (lv_at hl 1 rfl) ?_
      refine lv_iadd hx hb dX6_advance_25 ?_
      refine lv_sipush (v := 14609) hx hb dX6_advance_26 (by decide) ?_
      refine lv_icmp_le (tgt := 40) hx hb dX6_advance_29 rfl (fun c3 => ?_) (fun c3 => ?_)
      · have hf := q_t c3 hf
        refine lv_aload_n hx hb dX6_advance_40 rfl (lv_at hl 0 rfl) ?_
        refine X_g_0_8 F ws_in hw fl_X6_92 dX6_advance_41 ?_
        refine lv_iload_n hx hb dX6_advance_44 rfl (lv_at hl 1 rfl) ?_
        refine lv_iadd hx hb dX6_advance_45 ?_
        refine lv_topi (fun v4 ev4 => ?_)
        have hf := qnm_k ev4 hf
        refine lv_istore_n (lv' := [(2, .int v4), (0, .ref (ad 0)), (1, .int a1)]) hx hb dX6_advance_46 rfl hl (Nat.le_of_ble_eq_true rfl) rfl (fun ls hl => ?_)
        refine lv_aload_n hx hb dX6_advance_47 rfl (lv_at hl 1 rfl) ?_
        refine X_g_0_8 F ws_in hw fl_X6_92 dX6_advance_48 ?_
        refine lv_aload_n hx hb dX6_advance_51 rfl (lv_at hl 1 rfl) ?_
        obtain ⟨r5, h6, hf⟩ := qbd_e hf
        refine k_callVi' (rest := [.int (x.1 0 8)]) (As := []) F ws_in (t_X6_custodyEnd h6) cv_X6_custodyEnd ml_X6_99 hw 0 rfl rfl rfl hl.1 rfl (Nat.le_of_ble_eq_true rfl) ⟨Nat.le_of_ble_eq_true rfl, Nat.le_of_ble_eq_true rfl⟩ ⟨Nat.le_of_ble_eq_true rfl, Nat.le_of_ble_eq_true rfl⟩ dX6_advance_52 (fun H locs hw => ?_)
        refine lv_iload_n hx hb dX6_advance_55 rfl (lv_at hl 0 rfl) ?_
        obtain ⟨r7, h8, hf⟩ := qbd_e hf
        refine k_callPi (rest := []) (As := [.int (x.1 0 8), .int r5, .int v4]) F ws_in (t_X6_within h8) cs_X6_within ml_X6_103 hw rfl hl.1 rfl (Nat.le_of_ble_eq_true rfl) ⟨Nat.le_of_ble_eq_true rfl, Nat.le_of_ble_eq_true rfl⟩ ⟨Nat.le_of_ble_eq_true rfl, Nat.le_of_ble_eq_true rfl⟩ dX6_advance_56 (fun H locs hw => ?_)
        refine lv_istore_n (lv' := [(3, .int r7), (2, .int v4), (0, .ref (ad 0)), (1, .int a1)]) hx hb dX6_advance_59 rfl hl (Nat.le_of_ble_eq_true rfl) rfl (fun ls hl => ?_)
        refine lv_iload_n hx hb dX6_advance_60 rfl (lv_at hl 0 rfl) ?_
        refine lv_aload_n hx hb dX6_advance_61 rfl (lv_at hl 2 rfl) ?_
        obtain ⟨r9, h10, hf⟩ := qbd_e hf
        refine k_callVi' (rest := [.int r7]) (As := []) F ws_in (t_X6_greatestEnd h10) cv_X6_greatestEnd ml_X6_106 hw 0 rfl rfl rfl hl.1 rfl (Nat.le_of_ble_eq_true rfl) ⟨Nat.le_of_ble_eq_true rfl, Nat.le_of_ble_eq_true rfl⟩ ⟨Nat.le_of_ble_eq_true rfl, Nat.le_of_ble_eq_true rfl⟩ dX6_advance_62 (fun H locs hw => ?_)
        refine lv_iload_n hx hb dX6_advance_65 rfl (lv_at hl 1 rfl) ?_
        obtain ⟨r11, h12, hf⟩ := qbd_e hf
        refine k_callPi (rest := []) (As := [.int r7, .int r9, .int v4]) F ws_in (t_X6_within h12) cs_X6_within ml_X6_103 hw rfl hl.1 rfl (Nat.le_of_ble_eq_true rfl) ⟨Nat.le_of_ble_eq_true rfl, Nat.le_of_ble_eq_true rfl⟩ ⟨Nat.le_of_ble_eq_true rfl, Nat.le_of_ble_eq_true rfl⟩ dX6_advance_66 (fun H locs hw => ?_)
        refine lv_istore (lv' := [(4, .int r11), (3, .int r7), (2, .int v4), (0, .ref (ad 0)), (1, .int a1)]) hx hb dX6_advance_69 hl (Nat.le_of_ble_eq_true rfl) rfl (fun ls hl => ?_)
        refine lv_aload_n hx hb dX6_advance_71 rfl (lv_at hl 3 rfl) ?_
        refine X_g_0_4 F ws_in hw fl_X6_40 dX6_advance_72 ?_
        refine lv_aload_n hx hb dX6_advance_75 rfl (lv_at hl 3 rfl) ?_
        refine X_g_0_8 F ws_in hw fl_X6_92 dX6_advance_76 ?_
        refine lv_iload_n hx hb dX6_advance_79 rfl (lv_at hl 1 rfl) ?_
        refine lv_iconst (v := 1) hx hb dX6_advance_80 (by decide) ?_
        refine lv_isub hx hb dX6_advance_81 ?_
        obtain ⟨x13, h14, hf⟩ := qbd_e hf
        refine k_callVv' (rest := []) (As := [.int (x.1 0 8), .int (r7 - (1 : Int32))]) F ws_in (t_X2_mark_5 h14) cv_X2_mark ml_X6_109 hw 5 rfl rfl rfl hl.1 rfl (Nat.le_of_ble_eq_true rfl) ⟨Nat.le_of_ble_eq_true rfl, Nat.le_of_ble_eq_true rfl⟩ ⟨Nat.le_of_ble_eq_true rfl, Nat.le_of_ble_eq_true rfl⟩ dX6_advance_82 (fun H locs hw => ?_)
        refine lv_aload_n hx hb dX6_advance_85 rfl (lv_at hl 3 rfl) ?_
        refine X_g_0_5 F ws_in hw fl_X6_44 dX6_advance_86 ?_
        refine lv_iload_n hx hb dX6_advance_89 rfl (lv_at hl 1 rfl) ?_
        refine lv_iload hx hb dX6_advance_90 (lv_at hl 0 rfl) ?_
        refine lv_iconst (v := 1) hx hb dX6_advance_92 (by decide) ?_
        refine lv_isub hx hb dX6_advance_93 ?_
        obtain ⟨x15, h16, hf⟩ := qbd_e hf
        refine k_callVv' (rest := []) (As := [.int r7, .int (r11 - (1 : Int32))]) F ws_in (t_X2_mark_6 h16) cv_X2_mark ml_X6_109 hw 6 rfl rfl rfl hl.1 rfl (Nat.le_of_ble_eq_true rfl) ⟨Nat.le_of_ble_eq_true rfl, Nat.le_of_ble_eq_true rfl⟩ ⟨Nat.le_of_ble_eq_true rfl, Nat.le_of_ble_eq_true rfl⟩ dX6_advance_94 (fun H locs hw => ?_)
        refine lv_iload_n hx hb dX6_advance_97 rfl (lv_at hl 1 rfl) ?_
        refine lv_aload_n hx hb dX6_advance_98 rfl (lv_at hl 3 rfl) ?_
        refine X_g_0_8 F ws_in hw fl_X6_92 dX6_advance_99 ?_
        refine lv_isub hx hb dX6_advance_102 ?_
        refine lv_topi (fun v17 ev17 => ?_)
        have hf := qnm_k ev17 hf
        refine lv_istore (lv' := [(5, .int v17), (4, .int r11), (3, .int r7), (2, .int v4), (0, .ref (ad 0)), (1, .int a1)]) hx hb dX6_advance_103 hl (Nat.le_of_ble_eq_true rfl) rfl (fun ls hl => ?_)
        refine lv_aload_n hx hb dX6_advance_105 rfl (lv_at hl 4 rfl) ?_
        refine lv_dup hx hb dX6_advance_106 rfl ?_
        refine X_g_0_9 F ws_in hw fl_X6_113 dX6_advance_107 ?_
        refine lv_iload hx hb dX6_advance_110 (lv_at hl 0 rfl) ?_
        refine lv_iadd hx hb dX6_advance_112 ?_
        refine X_p_0_9 F ws_in hw fl_X6_113 dX6_advance_113 (fun x18 ex18 H locs hw => ?_)
        have hf := qnm_k ex18 hf
        refine lv_aload_n hx hb dX6_advance_116 rfl (lv_at hl 4 rfl) ?_
        refine lv_dup hx hb dX6_advance_117 rfl ?_
        refine X_g_0_10 F ws_in hw fl_X6_116 dX6_advance_118 ?_
        refine lv_iload hx hb dX6_advance_121 (lv_at hl 1 rfl) ?_
        refine lv_iload_n hx hb dX6_advance_123 rfl (lv_at hl 2 rfl) ?_
        refine lv_isub hx hb dX6_advance_124 ?_
        refine lv_iadd hx hb dX6_advance_125 ?_
        refine X_p_0_10 F ws_in hw fl_X6_116 dX6_advance_126 (fun x19 ex19 H locs hw => ?_)
        have hf := qnm_k ex19 hf
        refine lv_aload_n hx hb dX6_advance_129 rfl (lv_at hl 4 rfl) ?_
        refine lv_iload_n hx hb dX6_advance_130 rfl (lv_at hl 3 rfl) ?_
        refine X_p_0_8 F ws_in hw fl_X6_92 dX6_advance_131 (fun x20 ex20 H locs hw => ?_)
        have hf := qnm_k ex20 hf
        refine lv_iload hx hb dX6_advance_134 (lv_at hl 0 rfl) ?_
        obtain ⟨rfl, rfl, rfl⟩ := q_s3 hf
        exact k_xiret F hr hlk hw rfl (Nat.le_of_ble_eq_true rfl) (Nat.le_of_ble_eq_true rfl) dX6_advance_136
      · have hf := q_f c3 hf
        obtain ⟨rfl, rfl, rfl⟩ := q_s3 hf
        exact k_throwI F hlt hlk hout ws_in hZ hw hl.1 (by decide) (by decide) thc_2 thi_2 tha_2 ⟨Nat.le_of_ble_eq_true rfl, Nat.le_of_ble_eq_true rfl, Nat.le_of_ble_eq_true rfl, Nat.le_of_ble_eq_true rfl⟩ (Nat.le_of_ble_eq_true rfl) (Nat.le_of_ble_eq_true rfl) dX6_advance_32 dX6_advance_35 dX6_advance_36 dX6_advance_39
    · have hf := q_f c2 hf
      obtain ⟨rfl, rfl, rfl⟩ := q_s3 hf
      exact k_throwI F hlt hlk hout ws_in hZ hw hl.1 (by decide) (by decide) thc_1 thi_1 tha_1 ⟨Nat.le_of_ble_eq_true rfl, Nat.le_of_ble_eq_true rfl, Nat.le_of_ble_eq_true rfl, Nat.le_of_ble_eq_true rfl⟩ (Nat.le_of_ble_eq_true rfl) (Nat.le_of_ble_eq_true rfl) dX6_advance_12 dX6_advance_15 dX6_advance_16 dX6_advance_19
def f_J13_bitCount_95d88 (n : Nat) (a1 : Int64) : Option (Int32) := (qnm (a1 - (((a1.toUInt64 >>> ((1 : Int32).toInt64.toUInt64 &&& Int64.toUInt64 63)).toInt64) &&& (6148914691236517205 : Int64))) fun v1 => (qnm ((v1 &&& (3689348814741910323 : Int64)) + (((v1.toUInt64 >>> ((2 : Int32).toInt64.toUInt64 &&& Int64.toUInt64 63)).toInt64) &&& (3689348814741910323 : Int64))) fun v2 => (qnm ((v2 + ((v2.toUInt64 >>> ((4 : Int32).toInt64.toUInt64 &&& Int64.toUInt64 63)).toInt64)) &&& (1085102592571150095 : Int64)) fun v3 => (qnm (v3 + ((v3.toUInt64 >>> ((8 : Int32).toInt64.toUInt64 &&& Int64.toUInt64 63)).toInt64)) fun v4 => (qnm (v4 + ((v4.toUInt64 >>> ((16 : Int32).toInt64.toUInt64 &&& Int64.toUInt64 63)).toInt64)) fun v5 => (qnm (v5 + ((v5.toUInt64 >>> ((32 : Int32).toInt64.toUInt64 &&& Int64.toUInt64 63)).toInt64)) fun v6 => some (v6.toInt32 &&& (127 : Int32))))))))
set_option maxHeartbeats 4000000 in
set_option maxRecDepth 100000 in
theorem t_J13_bitCount_95d88 {G : gG} {l : Launch} {n : Nat} {a1 : Int64} {rv : Int32} (hf : f_J13_bitCount_95d88 n a1 = some rv) : MetI G l yJ13_bitCount_95d88 cJ13_bitCount_95d88 2 (some .int) 0 0 0 0 [.long a1] (([] : va_W)) (([] : va_W)) rv := by
  refine k_ofI (by decide) (Nat.le_of_ble_eq_true rfl) ?_
  intro p e s m args below meth c ls A F hr hlk hl hw
  have hx := F.1
  have hb := F.2.1
  have hl : lv_has ls 2 [(0, .long a1)] := hl
  unfold f_J13_bitCount_95d88 at hf
  refine lv_lload_n hx hb dJ13_bitCount_95d88_0 rfl (lv_at hl 0 rfl) ?_
  refine lv_lload_n hx hb dJ13_bitCount_95d88_1 rfl (lv_at hl 0 rfl) ?_
  refine lv_iconst (v := 1) hx hb dJ13_bitCount_95d88_2 (by decide) ?_
  refine lv_lushr hx hb dJ13_bitCount_95d88_3 rfl ?_
  refine lv_ldc2 (v := (6148914691236517205 : Int64)) hx hb F.2.2.2.1 (F.2.2.2.2 _ (ws_in _ ct_J13_314)) dJ13_bitCount_95d88_4 ?_
  refine lv_land hx hb dJ13_bitCount_95d88_7 ?_
  refine lv_lsub hx hb dJ13_bitCount_95d88_8 ?_
  refine lv_topl (fun v1 ev1 => ?_)
  have hf := qnm_k ev1 hf
  refine lv_lstore_n (lv' := [(0, .long v1)]) hx hb dJ13_bitCount_95d88_9 rfl hl (Nat.le_of_ble_eq_true rfl) rfl (fun ls hl => ?_)
  refine lv_lload_n hx hb dJ13_bitCount_95d88_10 rfl (lv_at hl 0 rfl) ?_
  refine lv_ldc2 (v := (3689348814741910323 : Int64)) hx hb F.2.2.2.1 (F.2.2.2.2 _ (ws_in _ ct_J13_316)) dJ13_bitCount_95d88_11 ?_
  refine lv_land hx hb dJ13_bitCount_95d88_14 ?_
  refine lv_lload_n hx hb dJ13_bitCount_95d88_15 rfl (lv_at hl 0 rfl) ?_
  refine lv_iconst (v := 2) hx hb dJ13_bitCount_95d88_16 (by decide) ?_
  refine lv_lushr hx hb dJ13_bitCount_95d88_17 rfl ?_
  refine lv_ldc2 (v := (3689348814741910323 : Int64)) hx hb F.2.2.2.1 (F.2.2.2.2 _ (ws_in _ ct_J13_316)) dJ13_bitCount_95d88_18 ?_
  refine lv_land hx hb dJ13_bitCount_95d88_21 ?_
  refine lv_ladd hx hb dJ13_bitCount_95d88_22 ?_
  refine lv_topl (fun v2 ev2 => ?_)
  have hf := qnm_k ev2 hf
  refine lv_lstore_n (lv' := [(0, .long v2)]) hx hb dJ13_bitCount_95d88_23 rfl hl (Nat.le_of_ble_eq_true rfl) rfl (fun ls hl => ?_)
  refine lv_lload_n hx hb dJ13_bitCount_95d88_24 rfl (lv_at hl 0 rfl) ?_
  refine lv_lload_n hx hb dJ13_bitCount_95d88_25 rfl (lv_at hl 0 rfl) ?_
  refine lv_iconst (v := 4) hx hb dJ13_bitCount_95d88_26 (by decide) ?_
  refine lv_lushr hx hb dJ13_bitCount_95d88_27 rfl ?_
  refine lv_ladd hx hb dJ13_bitCount_95d88_28 ?_
  refine lv_ldc2 (v := (1085102592571150095 : Int64)) hx hb F.2.2.2.1 (F.2.2.2.2 _ (ws_in _ ct_J13_318)) dJ13_bitCount_95d88_29 ?_
  refine lv_land hx hb dJ13_bitCount_95d88_32 ?_
  refine lv_topl (fun v3 ev3 => ?_)
  have hf := qnm_k ev3 hf
  refine lv_lstore_n (lv' := [(0, .long v3)]) hx hb dJ13_bitCount_95d88_33 rfl hl (Nat.le_of_ble_eq_true rfl) rfl (fun ls hl => ?_)
  refine lv_lload_n hx hb dJ13_bitCount_95d88_34 rfl (lv_at hl 0 rfl) ?_
  refine lv_lload_n hx hb dJ13_bitCount_95d88_35 rfl (lv_at hl 0 rfl) ?_
  refine lv_bipush (v := 8) hx hb dJ13_bitCount_95d88_36 (by decide) ?_
  refine lv_lushr hx hb dJ13_bitCount_95d88_38 rfl ?_
  refine lv_ladd hx hb dJ13_bitCount_95d88_39 ?_
  refine lv_topl (fun v4 ev4 => ?_)
  have hf := qnm_k ev4 hf
  refine lv_lstore_n (lv' := [(0, .long v4)]) hx hb dJ13_bitCount_95d88_40 rfl hl (Nat.le_of_ble_eq_true rfl) rfl (fun ls hl => ?_)
  refine lv_lload_n hx hb dJ13_bitCount_95d88_41 rfl (lv_at hl 0 rfl) ?_
  refine lv_lload_n hx hb dJ13_bitCount_95d88_42 rfl (lv_at hl 0 rfl) ?_
  refine lv_bipush (v := 16) hx hb dJ13_bitCount_95d88_43 (by decide) ?_
  refine lv_lushr hx hb dJ13_bitCount_95d88_45 rfl ?_
  refine lv_ladd hx hb dJ13_bitCount_95d88_46 ?_
  refine lv_topl (fun v5 ev5 => ?_)
  have hf := qnm_k ev5 hf
  refine lv_lstore_n (lv' := [(0, .long v5)]) hx hb dJ13_bitCount_95d88_47 rfl hl (Nat.le_of_ble_eq_true rfl) rfl (fun ls hl => ?_)
  refine lv_lload_n hx hb dJ13_bitCount_95d88_48 rfl (lv_at hl 0 rfl) ?_
  refine lv_lload_n hx hb dJ13_bitCount_95d88_49 rfl (lv_at hl 0 rfl) ?_
  refine lv_bipush (v := 32) hx hb dJ13_bitCount_95d88_50 (by decide) ?_
  refine lv_lushr hx hb dJ13_bitCount_95d88_52 rfl ?_
  refine lv_ladd hx hb dJ13_bitCount_95d88_53 ?_
  refine lv_topl (fun v6 ev6 => ?_)
  have hf := qnm_k ev6 hf
  refine lv_lstore_n (lv' := [(0, .long v6)]) hx hb dJ13_bitCount_95d88_54 rfl hl (Nat.le_of_ble_eq_true rfl) rfl (fun ls hl => ?_)
  refine lv_lload_n hx hb dJ13_bitCount_95d88_55 rfl (lv_at hl 0 rfl) ?_
  refine lv_l2i hx hb dJ13_bitCount_95d88_56 rfl ?_
  refine lv_bipush (v := 127) hx hb dJ13_bitCount_95d88_57 (by decide) ?_
  refine lv_iand hx hb dJ13_bitCount_95d88_59 ?_
  obtain rfl := q_s hf
  exact k_iret F hr hlk hw (Nat.le_of_ble_eq_true rfl) (Nat.le_of_ble_eq_true rfl) dJ13_bitCount_95d88_60
def f_J7_fill_d0a16_l6 (a2 : Int64) : Nat → Int32 → SX → Option (SX)
  | 0, _, _ => none
  | m + 1, v1, x2 => (if (229 : Int32) ≤ v1 then some x2 else (qgd (qin v1 229) ((qnm (sl x2 42 v1.toNatClampNeg a2) fun x6 => (qnm (v1 + (1 : Int32)) fun v7 => (f_J7_fill_d0a16_l6 a2 m) v7 x6)))))
def f_J7_fill_d0a16 (n : Nat) (x : SX) (a2 : Int64) : Option (SX) := f_J7_fill_d0a16_l6 a2 n (0 : Int32) x
set_option maxHeartbeats 4000000 in
set_option maxRecDepth 100000 in
theorem t_J7_fill_d0a16 {G : gG} {l : Launch} {ad : Nat → Nat} {n : Nat} {x : SX} {a2 : Int64} {xr : SX} (hf : f_J7_fill_d0a16 n x a2 = some xr) : MetV G l yJ7_fill_d0a16 cJ7_fill_d0a16 5 none 0 0 0 0 [.ref (ad 42), .long a2] (wX G ad x) (wX G ad xr) := by
  refine k_ofV (by decide) (Nat.le_of_ble_eq_true rfl) ?_
  intro p e s m args below meth c ls A F hr hlk hl hw
  have hx := F.1
  have hb := F.2.1
  have hl : lv_has ls 5 [(0, .ref (ad 42)), (1, .long a2)] := hl
  unfold f_J7_fill_d0a16 at hf
  refine lv_iconst (v := 0) hx hb dJ7_fill_d0a16_0 (by decide) ?_
  refine lv_istore_n (lv' := [(3, .int (0 : Int32)), (0, .ref (ad 42)), (1, .long a2)]) hx hb dJ7_fill_d0a16_1 rfl hl (Nat.le_of_ble_eq_true rfl) rfl (fun ls hl => ?_)
  refine lv_aload_n hx hb dJ7_fill_d0a16_2 rfl (lv_at hl 1 rfl) ?_
  refine va_alen hx hb hw.1 hw.2.1 33 1 (x := (229, .inr (.inl (x.2 42)))) rfl rfl (v := 229) rfl dJ7_fill_d0a16_3 ?_
  refine lv_istore (lv' := [(4, .int (229 : Int32)), (3, .int (0 : Int32)), (0, .ref (ad 42)), (1, .long a2)]) hx hb dJ7_fill_d0a16_4 hl (Nat.le_of_ble_eq_true rfl) rfl (fun ls hl => ?_)
  have L3 : ∀ (m0 : Nat) (v1 : Int32) (x2 : SX) (H : Heap) (locs : List Loc) (ls : Array Slot), Wd G (wX G ad x2) A s H locs → lv_has ls 5 [(0, .ref (ad 42)), (1, .long a2), (3, .int v1), (4, .int (229 : Int32))] → f_J7_fill_d0a16_l6 a2 m0 v1 x2 = some xr → W p l e (rmk 0 0 0 0) s m args below meth c H locs 0 0 (KQV G below args s A (wX G ad xr) 0 0) (F0 m 6 ls []) := by
    intro m0
    induction m0 with
    | zero => intro v1 x2 H locs ls hw hl hf; cases hf
    | succ mL3 ih3 =>
      intro v1 x2 H locs ls hw hl hf
      unfold f_J7_fill_d0a16_l6 at hf
      refine lv_iload_n hx hb dJ7_fill_d0a16_6 rfl (lv_at hl 2 rfl) ?_
      refine lv_iload hx hb dJ7_fill_d0a16_7 (lv_at hl 3 rfl) ?_
      refine lv_icmp_ge (tgt := 22) hx hb dJ7_fill_d0a16_9 rfl (fun c4 => ?_) (fun c4 => ?_)
      · have hf := q_t c4 hf
        obtain rfl := q_s hf
        exact k_vret F hr hlk hw (Nat.le_of_ble_eq_true rfl) (Nat.le_of_ble_eq_true rfl) dJ7_fill_d0a16_22
      · have hf := q_f c4 hf
        refine lv_aload_n hx hb dJ7_fill_d0a16_12 rfl (lv_at hl 0 rfl) ?_
        refine lv_iload_n hx hb dJ7_fill_d0a16_13 rfl (lv_at hl 2 rfl) ?_
        refine lv_lload_n hx hb dJ7_fill_d0a16_14 rfl (lv_at hl 1 rfl) ?_
        obtain ⟨g5, hf⟩ := qgd_e hf
        refine X_s_42 F hw g5 dJ7_fill_d0a16_15 (fun x6 ex6 H locs hw => ?_)
        have hf := qnm_k ex6 hf
        obtain ⟨v7, ev7⟩ : ∃ y : Int32, y = v1 + (1 : Int32) := ⟨_, rfl⟩
        refine lv_iinc (v := v7) (lv' := [(3, .int v7), (0, .ref (ad 42)), (1, .long a2), (4, .int (229 : Int32))]) hx hb dJ7_fill_d0a16_16 hl (k := 2) rfl (by rw [ev7]; rfl) (Nat.le_of_ble_eq_true rfl) rfl (fun ls hl => ?_)
        have hf := qnm_k ev7 hf
        refine lv_goto (tgt := 6) hx hb dJ7_fill_d0a16_19 rfl ?_
        exact ih3 v7 x6 _ _ _ hw (lv_sub hl [1, 2, 0, 3] rfl) hf
  exact L3 n (0 : Int32) x _ _ _ hw (lv_sub hl [2, 3, 1, 0] rfl) hf
def f_X2_mark_7_l9 (a2 : Int32) (n : Nat) (a1 : Int32) : Nat → Int32 → SX → Option (SX)
  | 0, _, _ => none
  | m + 1, v2, x3 => (if (229 : Int32) ≤ v2 then some x3 else (if (a2 >>> ((6 : Int32) &&& 31)) < v2 then some x3 else (qgd (qin v2 229) ((qbd (f_X2_bitsWithin n v2 a1 a2) fun r8 => (qnm (sl x3 42 v2.toNatClampNeg ((x3.2 42 v2.toNatClampNeg) ||| r8)) fun x10 => (qnm (v2 + (1 : Int32)) fun v11 => (f_X2_mark_7_l9 a2 n a1 m) v11 x10)))))))
def f_X2_mark_7 (n : Nat) (x : SX) (a1 : Int32) (a2 : Int32) : Option (SX) := (qnm ((if a1 < (0 : Int32) then (0 : Int32) else a1) >>> ((6 : Int32) &&& 31)) fun v1 => f_X2_mark_7_l9 a2 n a1 n v1 x)
set_option maxHeartbeats 4000000 in
set_option maxRecDepth 100000 in
theorem t_X2_mark_7 {G : gG} {l : Launch} {ad : Nat → Nat} {n : Nat} {x : SX} {a1 : Int32} {a2 : Int32} {xr : SX} (hf : f_X2_mark_7 n x a1 a2 = some xr) : MetV G l yX2_mark cX2_mark 4 none 2 0 0 54 [.ref (ad 7), .int a1, .int a2] (wX G ad x) (wX G ad xr) := by
  refine k_ofV (by decide) (Nat.le_of_ble_eq_true rfl) ?_
  intro p e s m args below meth c ls A F hr hlk hl hw
  have hx := F.1
  have hb := F.2.1
  have hl : lv_has ls 4 [(0, .ref (ad 7)), (1, .int a1), (2, .int a2)] := hl
  unfold f_X2_mark_7 at hf
  refine lv_iload_n hx hb dX2_mark_0 rfl (lv_at hl 1 rfl) ?_
  refine lv_iconst (v := 0) hx hb dX2_mark_1 (by decide) ?_
  refine k_mmax F ws_in ml_X2_21 cm_max hl.1 ⟨Nat.le_of_ble_eq_true rfl, Nat.le_of_ble_eq_true rfl, Nat.le_of_ble_eq_true rfl, Nat.le_of_ble_eq_true rfl⟩ dX2_mark_2 ?_
  refine lv_bipush (v := 6) hx hb dX2_mark_5 (by decide) ?_
  refine lv_ishr hx hb dX2_mark_7 ?_
  refine lv_topi (fun v1 ev1 => ?_)
  have hf := qnm_k ev1 hf
  refine lv_istore_n (lv' := [(3, .int v1), (0, .ref (ad 7)), (1, .int a1), (2, .int a2)]) hx hb dX2_mark_8 rfl hl (Nat.le_of_ble_eq_true rfl) rfl (fun ls hl => ?_)
  have L4 : ∀ (m0 : Nat) (v2 : Int32) (x3 : SX) (H : Heap) (locs : List Loc) (ls : Array Slot), Wd G (wX G ad x3) A s H locs → lv_has ls 4 [(0, .ref (ad 7)), (1, .int a1), (2, .int a2), (3, .int v2)] → f_X2_mark_7_l9 a2 n a1 m0 v2 x3 = some xr → W p l e (rmk 2 0 0 54) s m args below meth c H locs 0 0 (KQV G below args s A (wX G ad xr) 0 0) (F0 m 9 ls []) := by
    intro m0
    induction m0 with
    | zero => intro v2 x3 H locs ls hw hl hf; cases hf
    | succ mL4 ih4 =>
      intro v2 x3 H locs ls hw hl hf
      unfold f_X2_mark_7_l9 at hf
      refine lv_iload_n hx hb dX2_mark_9 rfl (lv_at hl 3 rfl) ?_
      refine lv_sipush (v := 229) hx hb dX2_mark_10 (by decide) ?_
      refine lv_icmp_ge (tgt := 45) hx hb dX2_mark_13 rfl (fun c5 => ?_) (fun c5 => ?_)
      · have hf := q_t c5 hf
        obtain rfl := q_s hf
        exact k_vret F hr hlk hw (Nat.le_of_ble_eq_true rfl) (Nat.le_of_ble_eq_true rfl) dX2_mark_45
      · have hf := q_f c5 hf
        refine lv_iload_n hx hb dX2_mark_16 rfl (lv_at hl 3 rfl) ?_
        refine lv_iload_n hx hb dX2_mark_17 rfl (lv_at hl 2 rfl) ?_
        refine lv_bipush (v := 6) hx hb dX2_mark_18 (by decide) ?_
        refine lv_ishr hx hb dX2_mark_20 ?_
        refine lv_icmp_gt (tgt := 45) hx hb dX2_mark_21 rfl (fun c6 => ?_) (fun c6 => ?_)
        · have hf := q_t c6 hf
          obtain rfl := q_s hf
          exact k_vret F hr hlk hw (Nat.le_of_ble_eq_true rfl) (Nat.le_of_ble_eq_true rfl) dX2_mark_45
        · have hf := q_f c6 hf
          refine lv_aload_n hx hb dX2_mark_24 rfl (lv_at hl 0 rfl) ?_
          refine X_g_7_0 F ws_in hw fl_X2_11 dX2_mark_25 ?_
          refine lv_iload_n hx hb dX2_mark_28 rfl (lv_at hl 3 rfl) ?_
          refine lv_dup2_11 hx hb dX2_mark_29 rfl rfl ?_
          obtain ⟨g7, hf⟩ := qgd_e hf
          refine X_l_42 F hw g7 dX2_mark_30 ?_
          refine lv_iload_n hx hb dX2_mark_31 rfl (lv_at hl 3 rfl) ?_
          refine lv_iload_n hx hb dX2_mark_32 rfl (lv_at hl 1 rfl) ?_
          refine lv_iload_n hx hb dX2_mark_33 rfl (lv_at hl 2 rfl) ?_
          obtain ⟨r8, h9, hf⟩ := qbd_e hf
          refine k_callPj (rest := [.long (x3.2 42 v2.toNatClampNeg), .int v2, .ref (ad 42)]) (As := [.int v2, .int a1, .int a2]) F ws_in (t_X2_bitsWithin h9) cs_X2_bitsWithin ml_X2_27 hw rfl hl.1 rfl (Nat.le_of_ble_eq_true rfl) ⟨Nat.le_of_ble_eq_true rfl, Nat.le_of_ble_eq_true rfl⟩ ⟨Nat.le_of_ble_eq_true rfl, Nat.le_of_ble_eq_true rfl⟩ dX2_mark_34 (fun H locs hw => ?_)
          refine lv_lor hx hb dX2_mark_37 ?_
          refine X_s_42 F hw g7 dX2_mark_38 (fun x10 ex10 H locs hw => ?_)
          have hf := qnm_k ex10 hf
          obtain ⟨v11, ev11⟩ : ∃ y : Int32, y = v2 + (1 : Int32) := ⟨_, rfl⟩
          refine lv_iinc (v := v11) (lv' := [(3, .int v11), (0, .ref (ad 7)), (1, .int a1), (2, .int a2)]) hx hb dX2_mark_39 hl (k := 3) rfl (by rw [ev11]; rfl) (Nat.le_of_ble_eq_true rfl) rfl (fun ls hl => ?_)
          have hf := qnm_k ev11 hf
          refine lv_goto (tgt := 9) hx hb dX2_mark_42 rfl ?_
          exact ih4 v11 x10 _ _ _ hw (lv_sub hl [1, 2, 3, 0] rfl) hf
  exact L4 n v1 x _ _ _ hw (lv_sub hl [1, 2, 3, 0] rfl) hf
def f_X2_sizeWithout_7_l4 (n : Nat) (x : SX) : Nat → Int32 → Int32 → Option (Int32)
  | 0, _, _ => none
  | m + 1, v1, v2 => (if (229 : Int32) ≤ v2 then some v1 else (qgd (qin v2 229) ((qbd (f_J13_bitCount_95d88 n ((x.2 42 v2.toNatClampNeg) &&& ((x.2 40 v2.toNatClampNeg) ^^^ (-1 : Int64)))) fun r6 => (qnm (v1 + r6) fun v8 => (qnm (v2 + (1 : Int32)) fun v9 => (f_X2_sizeWithout_7_l4 n x m) v8 v9))))))
def f_X2_sizeWithout_7 (n : Nat) (x : SX) : Option (Int32) := f_X2_sizeWithout_7_l4 n x n (0 : Int32) (0 : Int32)
set_option maxHeartbeats 4000000 in
set_option maxRecDepth 100000 in
theorem t_X2_sizeWithout_7 {G : gG} {l : Launch} {ad : Nat → Nat} {n : Nat} {x : SX} {rv : Int32} (hf : f_X2_sizeWithout_7 n x = some rv) : MetI G l yX2_sizeWithout cX2_sizeWithout 4 (some .int) 1 0 0 21 [.ref (ad 7), .ref (ad 5)] (wX G ad x) (wX G ad x) rv := by
  refine k_ofI (by decide) (Nat.le_of_ble_eq_true rfl) ?_
  intro p e s m args below meth c ls A F hr hlk hl hw
  have hx := F.1
  have hb := F.2.1
  have hl : lv_has ls 4 [(0, .ref (ad 7)), (1, .ref (ad 5))] := hl
  unfold f_X2_sizeWithout_7 at hf
  refine lv_iconst (v := 0) hx hb dX2_sizeWithout_0 (by decide) ?_
  refine lv_istore_n (lv' := [(2, .int (0 : Int32)), (0, .ref (ad 7)), (1, .ref (ad 5))]) hx hb dX2_sizeWithout_1 rfl hl (Nat.le_of_ble_eq_true rfl) rfl (fun ls hl => ?_)
  refine lv_iconst (v := 0) hx hb dX2_sizeWithout_2 (by decide) ?_
  refine lv_istore_n (lv' := [(3, .int (0 : Int32)), (2, .int (0 : Int32)), (0, .ref (ad 7)), (1, .ref (ad 5))]) hx hb dX2_sizeWithout_3 rfl hl (Nat.le_of_ble_eq_true rfl) rfl (fun ls hl => ?_)
  have L3 : ∀ (m0 : Nat) (v1 : Int32) (v2 : Int32) (H : Heap) (locs : List Loc) (ls : Array Slot), Wd G (wX G ad x) A s H locs → lv_has ls 4 [(0, .ref (ad 7)), (1, .ref (ad 5)), (2, .int v1), (3, .int v2)] → f_X2_sizeWithout_7_l4 n x m0 v1 v2 = some rv → W p l e (rmk 1 0 0 21) s m args below meth c H locs 0 0 (KQI G below args s A (wX G ad x) rv 0 0) (F0 m 4 ls []) := by
    intro m0
    induction m0 with
    | zero => intro v1 v2 H locs ls hw hl hf; cases hf
    | succ mL3 ih3 =>
      intro v1 v2 H locs ls hw hl hf
      unfold f_X2_sizeWithout_7_l4 at hf
      refine lv_iload_n hx hb dX2_sizeWithout_4 rfl (lv_at hl 3 rfl) ?_
      refine lv_sipush (v := 229) hx hb dX2_sizeWithout_5 (by decide) ?_
      refine lv_icmp_ge (tgt := 40) hx hb dX2_sizeWithout_8 rfl (fun c4 => ?_) (fun c4 => ?_)
      · have hf := q_t c4 hf
        refine lv_iload_n hx hb dX2_sizeWithout_40 rfl (lv_at hl 2 rfl) ?_
        obtain rfl := q_s hf
        exact k_iret F hr hlk hw (Nat.le_of_ble_eq_true rfl) (Nat.le_of_ble_eq_true rfl) dX2_sizeWithout_41
      · have hf := q_f c4 hf
        refine lv_iload_n hx hb dX2_sizeWithout_11 rfl (lv_at hl 2 rfl) ?_
        refine lv_aload_n hx hb dX2_sizeWithout_12 rfl (lv_at hl 0 rfl) ?_
        refine X_g_7_0 F ws_in hw fl_X2_11 dX2_sizeWithout_13 ?_
        refine lv_iload_n hx hb dX2_sizeWithout_16 rfl (lv_at hl 3 rfl) ?_
        obtain ⟨g5, hf⟩ := qgd_e hf
        refine X_l_42 F hw g5 dX2_sizeWithout_17 ?_
        refine lv_aload_n hx hb dX2_sizeWithout_18 rfl (lv_at hl 1 rfl) ?_
        refine X_g_5_0 F ws_in hw fl_X2_11 dX2_sizeWithout_19 ?_
        refine lv_iload_n hx hb dX2_sizeWithout_22 rfl (lv_at hl 3 rfl) ?_
        refine X_l_40 F hw g5 dX2_sizeWithout_23 ?_
        refine lv_ldc2 (v := (-1 : Int64)) hx hb F.2.2.2.1 (F.2.2.2.2 _ (ws_in _ ct_X2_37)) dX2_sizeWithout_24 ?_
        refine lv_lxor hx hb dX2_sizeWithout_27 ?_
        refine lv_land hx hb dX2_sizeWithout_28 ?_
        obtain ⟨r6, h7, hf⟩ := qbd_e hf
        refine k_callPi (rest := [.int v1]) (As := [.long ((x.2 42 v2.toNatClampNeg) &&& ((x.2 40 v2.toNatClampNeg) ^^^ (-1 : Int64)))]) F ws_in (t_J13_bitCount_95d88 h7) cs_J13_bitCount_95d88 ml_X2_31 hw rfl hl.1 rfl (Nat.le_of_ble_eq_true rfl) ⟨Nat.le_of_ble_eq_true rfl, Nat.le_of_ble_eq_true rfl⟩ ⟨Nat.le_of_ble_eq_true rfl, Nat.le_of_ble_eq_true rfl⟩ dX2_sizeWithout_29 (fun H locs hw => ?_)
        refine lv_iadd hx hb dX2_sizeWithout_32 ?_
        refine lv_topi (fun v8 ev8 => ?_)
        have hf := qnm_k ev8 hf
        refine lv_istore_n (lv' := [(2, .int v8), (0, .ref (ad 7)), (1, .ref (ad 5)), (3, .int v2)]) hx hb dX2_sizeWithout_33 rfl hl (Nat.le_of_ble_eq_true rfl) rfl (fun ls hl => ?_)
        obtain ⟨v9, ev9⟩ : ∃ y : Int32, y = v2 + (1 : Int32) := ⟨_, rfl⟩
        refine lv_iinc (v := v9) (lv' := [(3, .int v9), (2, .int v8), (0, .ref (ad 7)), (1, .ref (ad 5))]) hx hb dX2_sizeWithout_34 hl (k := 3) rfl (by rw [ev9]; rfl) (Nat.le_of_ble_eq_true rfl) rfl (fun ls hl => ?_)
        have hf := qnm_k ev9 hf
        refine lv_goto (tgt := 4) hx hb dX2_sizeWithout_37 rfl ?_
        exact ih3 v8 v9 _ _ _ hw (lv_sub hl [2, 3, 1, 0] rfl) hf
  exact L3 n (0 : Int32) (0 : Int32) _ _ _ hw (lv_sub hl [2, 3, 1, 0] rfl) hf
def f_X2_clear_7 (n : Nat) (x : SX) : Option (SX) := (qbd (f_J7_fill_d0a16 n x (0 : Int64)) fun x1 => some x1)
set_option maxHeartbeats 4000000 in
set_option maxRecDepth 100000 in
theorem t_X2_clear_7 {G : gG} {l : Launch} {ad : Nat → Nat} {n : Nat} {x : SX} {xr : SX} (hf : f_X2_clear_7 n x = some xr) : MetV G l yX2_clear cX2_clear 1 none 1 0 0 24 [.ref (ad 7)] (wX G ad x) (wX G ad xr) := by
  refine k_ofV (by decide) (Nat.le_of_ble_eq_true rfl) ?_
  intro p e s m args below meth c ls A F hr hlk hl hw
  have hx := F.1
  have hb := F.2.1
  have hl : lv_has ls 1 [(0, .ref (ad 7))] := hl
  unfold f_X2_clear_7 at hf
  refine lv_aload_n hx hb dX2_clear_0 rfl (lv_at hl 0 rfl) ?_
  refine X_g_7_0 F ws_in hw fl_X2_11 dX2_clear_1 ?_
  refine lv_lconst (v := 0) hx hb dX2_clear_4 (by decide) ?_
  obtain ⟨x1, h2, hf⟩ := qbd_e hf
  refine k_callSv' (rest := []) (As := [.ref (ad 42), .long (0 : Int64)]) F ws_in (t_J7_fill_d0a16 h2) cs_J7_fill_d0a16 ml_X2_15 hw rfl hl.1 rfl (Nat.le_of_ble_eq_true rfl) ⟨Nat.le_of_ble_eq_true rfl, Nat.le_of_ble_eq_true rfl⟩ ⟨Nat.le_of_ble_eq_true rfl, Nat.le_of_ble_eq_true rfl⟩ dX2_clear_5 (fun H locs hw => ?_)
  obtain rfl := q_s hf
  exact k_vret F hr hlk hw (Nat.le_of_ble_eq_true rfl) (Nat.le_of_ble_eq_true rfl) dX2_clear_8
def f_X6_markedCredit_e71 (n : Nat) (a1 : Int32) (x3 : SX) : Option (Int32 × SX) := (qbd (f_X2_sizeWithout_7 n x3) fun r4 => (qgd (qin a1 10) (some ((if (x3.1 22 a1.toNatClampNeg) < r4 then (x3.1 22 a1.toNatClampNeg) else r4), x3))))
def f_X6_markedCredit_l9 (n : Nat) (a1 : Int32) : Nat → Int32 → SX → Option (Int32 × SX)
  | 0, _, _ => none
  | m + 1, v8, x9 => (if (x9.1 2 5) ≤ v8 then f_X6_markedCredit_e71 n a1 x9 else (qgd (qin a1 10) ((qbd (f_X4_belongsTo n x9 (x9.1 18 a1.toNatClampNeg) v8) fun r13 => (qbd (if r13 = 0 then some x9 else (qgd (qin v8 8) ((qbd (f_X2_mark_7 n x9 (x9.1 31 v8.toNatClampNeg) (x9.1 32 v8.toNatClampNeg)) fun x20 => some x20)))) fun x15 => (qnm (v8 + (1 : Int32)) fun v17 => (f_X6_markedCredit_l9 n a1 m) v17 x15))))))
def f_X6_markedCredit (n : Nat) (x : SX) (a1 : Int32) : Option (Int32 × SX) := (qbd (f_X2_clear_7 n x) fun x1 => f_X6_markedCredit_l9 n a1 n (0 : Int32) x1)
set_option maxHeartbeats 4000000 in
set_option maxRecDepth 100000 in
theorem t_X6_markedCredit {G : gG} {l : Launch} {ad : Nat → Nat} {n : Nat} {x : SX} {a1 : Int32} {rv : Int32} {xr : SX} (hf : f_X6_markedCredit n x a1 = some (rv, xr)) : MetI G l yX6_markedCredit cX6_markedCredit 3 (some .int) 3 0 0 77 [.ref (ad 0), .int a1] (wX G ad x) (wX G ad xr) rv := by
  refine k_ofI (by decide) (Nat.le_of_ble_eq_true rfl) ?_
  intro p e s m args below meth c ls A F hr hlk hl hw
  have hx := F.1
  have hb := F.2.1
  have hl : lv_has ls 3 [(0, .ref (ad 0)), (1, .int a1)] := hl
  unfold f_X6_markedCredit at hf
  refine lv_aload_n hx hb dX6_markedCredit_0 rfl (lv_at hl 0 rfl) ?_
  refine X_g_0_6 F ws_in hw fl_X6_47 dX6_markedCredit_1 ?_
  obtain ⟨x1, h2, hf⟩ := qbd_e hf
  refine k_callVv' (rest := []) (As := []) F ws_in (t_X2_clear_7 h2) cv_X2_clear ml_X6_305 hw 7 rfl rfl rfl hl.1 rfl (Nat.le_of_ble_eq_true rfl) ⟨Nat.le_of_ble_eq_true rfl, Nat.le_of_ble_eq_true rfl⟩ ⟨Nat.le_of_ble_eq_true rfl, Nat.le_of_ble_eq_true rfl⟩ dX6_markedCredit_4 (fun H locs hw => ?_)
  refine lv_iconst (v := 0) hx hb dX6_markedCredit_7 (by decide) ?_
  refine lv_istore_n (lv' := [(2, .int (0 : Int32)), (0, .ref (ad 0)), (1, .int a1)]) hx hb dX6_markedCredit_8 rfl hl (Nat.le_of_ble_eq_true rfl) rfl (fun ls hl => ?_)
  have E7 : ∀ (x3 : SX) (H : Heap) (locs : List Loc) (ls : Array Slot), Wd G (wX G ad x3) A s H locs → lv_has ls 3 [(0, .ref (ad 0)), (1, .int a1)] → f_X6_markedCredit_e71 n a1 x3 = some (rv, xr) → W p l e (rmk 3 0 0 77) s m args below meth c H locs 0 0 (KQI G below args s A (wX G ad xr) rv 0 0) (F0 m 71 ls []) := by
    intro x3 H locs ls hw hl hf
    unfold f_X6_markedCredit_e71 at hf
    refine lv_aload_n hx hb dX6_markedCredit_71 rfl (lv_at hl 0 rfl) ?_
    refine X_g_0_6 F ws_in hw fl_X6_47 dX6_markedCredit_72 ?_
    refine lv_aload_n hx hb dX6_markedCredit_75 rfl (lv_at hl 0 rfl) ?_
    refine X_g_0_4 F ws_in hw fl_X6_40 dX6_markedCredit_76 ?_
    obtain ⟨r4, h5, hf⟩ := qbd_e hf
    refine k_callVi' (rest := []) (As := [.ref (ad 5)]) F ws_in (t_X2_sizeWithout_7 h5) cv_X2_sizeWithout ml_X6_318 hw 7 rfl rfl rfl hl.1 rfl (Nat.le_of_ble_eq_true rfl) ⟨Nat.le_of_ble_eq_true rfl, Nat.le_of_ble_eq_true rfl⟩ ⟨Nat.le_of_ble_eq_true rfl, Nat.le_of_ble_eq_true rfl⟩ dX6_markedCredit_79 (fun H locs hw => ?_)
    refine lv_aload_n hx hb dX6_markedCredit_82 rfl (lv_at hl 0 rfl) ?_
    refine X_g_0_0 F ws_in hw fl_X6_10 dX6_markedCredit_83 ?_
    refine X_g_1_12 F ws_in hw fl_X6_222 dX6_markedCredit_86 ?_
    refine lv_iload_n hx hb dX6_markedCredit_89 rfl (lv_at hl 1 rfl) ?_
    obtain ⟨g6, hf⟩ := qgd_e hf
    refine X_l_22 F hw g6 dX6_markedCredit_90 ?_
    refine k_mmin F ws_in ml_X6_293 cm_min hl.1 ⟨Nat.le_of_ble_eq_true rfl, Nat.le_of_ble_eq_true rfl, Nat.le_of_ble_eq_true rfl, Nat.le_of_ble_eq_true rfl⟩ dX6_markedCredit_91 ?_
    obtain ⟨rfl, rfl⟩ := q_s2 hf
    exact k_iret F hr hlk hw (Nat.le_of_ble_eq_true rfl) (Nat.le_of_ble_eq_true rfl) dX6_markedCredit_94
  have L10 : ∀ (m0 : Nat) (v8 : Int32) (x9 : SX) (H : Heap) (locs : List Loc) (ls : Array Slot), Wd G (wX G ad x9) A s H locs → lv_has ls 3 [(0, .ref (ad 0)), (1, .int a1), (2, .int v8)] → f_X6_markedCredit_l9 n a1 m0 v8 x9 = some (rv, xr) → W p l e (rmk 3 0 0 77) s m args below meth c H locs 0 0 (KQI G below args s A (wX G ad xr) rv 0 0) (F0 m 9 ls []) := by
    intro m0
    induction m0 with
    | zero => intro v8 x9 H locs ls hw hl hf; cases hf
    | succ mL10 ih10 =>
      intro v8 x9 H locs ls hw hl hf
      unfold f_X6_markedCredit_l9 at hf
      refine lv_iload_n hx hb dX6_markedCredit_9 rfl (lv_at hl 2 rfl) ?_
      refine lv_aload_n hx hb dX6_markedCredit_10 rfl (lv_at hl 0 rfl) ?_
      refine X_g_0_1 F ws_in hw fl_X6_19 dX6_markedCredit_11 ?_
      refine X_g_2_5 F ws_in hw fl_X6_143 dX6_markedCredit_14 ?_
      refine lv_icmp_ge (tgt := 71) hx hb dX6_markedCredit_17 rfl (fun c11 => ?_) (fun c11 => ?_)
      · have hf := q_t c11 hf
        exact E7 x9 _ _ _ hw (lv_sub hl [0, 1] rfl) hf
      · have hf := q_f c11 hf
        refine lv_aload_n hx hb dX6_markedCredit_20 rfl (lv_at hl 0 rfl) ?_
        refine X_g_0_1 F ws_in hw fl_X6_19 dX6_markedCredit_21 ?_
        refine lv_aload_n hx hb dX6_markedCredit_24 rfl (lv_at hl 0 rfl) ?_
        refine X_g_0_0 F ws_in hw fl_X6_10 dX6_markedCredit_25 ?_
        refine X_g_1_8 F ws_in hw fl_X6_208 dX6_markedCredit_28 ?_
        refine lv_iload_n hx hb dX6_markedCredit_31 rfl (lv_at hl 1 rfl) ?_
        obtain ⟨g12, hf⟩ := qgd_e hf
        refine X_l_18 F hw g12 dX6_markedCredit_32 ?_
        refine lv_iload_n hx hb dX6_markedCredit_33 rfl (lv_at hl 2 rfl) ?_
        obtain ⟨r13, h14, hf⟩ := qbd_e hf
        refine k_callVi' (rest := []) (As := [.int (x9.1 18 a1.toNatClampNeg), .int v8]) F ws_in (t_X4_belongsTo h14) cv_X4_belongsTo ml_X6_308 hw 2 rfl rfl rfl hl.1 rfl (Nat.le_of_ble_eq_true rfl) ⟨Nat.le_of_ble_eq_true rfl, Nat.le_of_ble_eq_true rfl⟩ ⟨Nat.le_of_ble_eq_true rfl, Nat.le_of_ble_eq_true rfl⟩ dX6_markedCredit_34 (fun H locs hw => ?_)
        obtain ⟨x15, hq22, hf⟩ := qbd_e hf
        have J16 : ∀ (H : Heap) (locs : List Loc) (ls : Array Slot), Wd G (wX G ad x15) A s H locs → lv_has ls 3 [(0, .ref (ad 0)), (1, .int a1), (2, .int v8)] → W p l e (rmk 3 0 0 77) s m args below meth c H locs 0 0 (KQI G below args s A (wX G ad xr) rv 0 0) (F0 m 65 ls []) := by
          intro H locs ls hw hl
          obtain ⟨v17, ev17⟩ : ∃ y : Int32, y = v8 + (1 : Int32) := ⟨_, rfl⟩
          refine lv_iinc (v := v17) (lv' := [(2, .int v17), (0, .ref (ad 0)), (1, .int a1)]) hx hb dX6_markedCredit_65 hl (k := 2) rfl (by rw [ev17]; rfl) (Nat.le_of_ble_eq_true rfl) rfl (fun ls hl => ?_)
          have hf := qnm_k ev17 hf
          refine lv_goto (tgt := 9) hx hb dX6_markedCredit_68 rfl ?_
          exact ih10 v17 x15 _ _ _ hw (lv_sub hl [1, 2, 0] rfl) hf
        have hf := hq22
        refine lv_if_eq (tgt := 65) hx hb dX6_markedCredit_37 rfl (fun c18 => ?_) (fun c18 => ?_)
        · have hf := q_t c18 hf
          obtain rfl := q_s hf
          exact J16 _ _ _ hw (lv_sub hl [0, 1, 2] rfl)
        · have hf := q_f c18 hf
          refine lv_aload_n hx hb dX6_markedCredit_40 rfl (lv_at hl 0 rfl) ?_
          refine X_g_0_6 F ws_in hw fl_X6_47 dX6_markedCredit_41 ?_
          refine lv_aload_n hx hb dX6_markedCredit_44 rfl (lv_at hl 0 rfl) ?_
          refine X_g_0_1 F ws_in hw fl_X6_19 dX6_markedCredit_45 ?_
          refine X_g_2_1 F ws_in hw fl_X6_312 dX6_markedCredit_48 ?_
          refine lv_iload_n hx hb dX6_markedCredit_51 rfl (lv_at hl 2 rfl) ?_
          obtain ⟨g19, hf⟩ := qgd_e hf
          refine X_l_31 F hw g19 dX6_markedCredit_52 ?_
          refine lv_aload_n hx hb dX6_markedCredit_53 rfl (lv_at hl 0 rfl) ?_
          refine X_g_0_1 F ws_in hw fl_X6_19 dX6_markedCredit_54 ?_
          refine X_g_2_2 F ws_in hw fl_X6_315 dX6_markedCredit_57 ?_
          refine lv_iload_n hx hb dX6_markedCredit_60 rfl (lv_at hl 2 rfl) ?_
          refine X_l_32 F hw g19 dX6_markedCredit_61 ?_
          obtain ⟨x20, h21, hf⟩ := qbd_e hf
          refine k_callVv' (rest := []) (As := [.int (x9.1 31 v8.toNatClampNeg), .int (x9.1 32 v8.toNatClampNeg)]) F ws_in (t_X2_mark_7 h21) cv_X2_mark ml_X6_109 hw 7 rfl rfl rfl hl.1 rfl (Nat.le_of_ble_eq_true rfl) ⟨Nat.le_of_ble_eq_true rfl, Nat.le_of_ble_eq_true rfl⟩ ⟨Nat.le_of_ble_eq_true rfl, Nat.le_of_ble_eq_true rfl⟩ dX6_markedCredit_62 (fun H locs hw => ?_)
          obtain rfl := q_s hf
          exact J16 _ _ _ hw (lv_sub hl [0, 1, 2] rfl)
  exact L10 n (0 : Int32) x1 _ _ _ hw (lv_sub hl [1, 2, 0] rfl) hf
def f_X6_settle_l2 (n : Nat) : Nat → Int32 → SX → Option (SX)
  | 0, _, _ => none
  | m + 1, v1, x2 => (if (x2.1 1 7) ≤ v1 then some x2 else (qgd (qin v1 10) ((qbd (if (x2.1 16 v1.toNatClampNeg) = 0 then (qbd (f_X5_settleChain n x2 v1) fun x10 => (qbd2 (f_X6_markedCredit n x10 v1) fun r12 x13 => (qnm (si x13 24 v1.toNatClampNeg r12) fun x15 => some x15))) else some x2) fun x6 => (qnm (v1 + (1 : Int32)) fun v8 => (f_X6_settle_l2 n m) v8 x6)))))
def f_X6_settle (n : Nat) (x : SX) : Option (SX) := f_X6_settle_l2 n n (0 : Int32) x
set_option maxHeartbeats 4000000 in
set_option maxRecDepth 100000 in
theorem t_X6_settle {G : gG} {l : Launch} {ad : Nat → Nat} {n : Nat} {x : SX} {xr : SX} (hf : f_X6_settle n x = some xr) : MetV G l yX6_settle cX6_settle 2 none 4 0 0 99 [.ref (ad 0)] (wX G ad x) (wX G ad xr) := by
  refine k_ofV (by decide) (Nat.le_of_ble_eq_true rfl) ?_
  intro p e s m args below meth c ls A F hr hlk hl hw
  have hx := F.1
  have hb := F.2.1
  have hl : lv_has ls 2 [(0, .ref (ad 0))] := hl
  unfold f_X6_settle at hf
  refine lv_iconst (v := 0) hx hb dX6_settle_0 (by decide) ?_
  refine lv_istore_n (lv' := [(1, .int (0 : Int32)), (0, .ref (ad 0))]) hx hb dX6_settle_1 rfl hl (Nat.le_of_ble_eq_true rfl) rfl (fun ls hl => ?_)
  have L3 : ∀ (m0 : Nat) (v1 : Int32) (x2 : SX) (H : Heap) (locs : List Loc) (ls : Array Slot), Wd G (wX G ad x2) A s H locs → lv_has ls 2 [(0, .ref (ad 0)), (1, .int v1)] → f_X6_settle_l2 n m0 v1 x2 = some xr → W p l e (rmk 4 0 0 99) s m args below meth c H locs 0 0 (KQV G below args s A (wX G ad xr) 0 0) (F0 m 2 ls []) := by
    intro m0
    induction m0 with
    | zero => intro v1 x2 H locs ls hw hl hf; cases hf
    | succ mL3 ih3 =>
      intro v1 x2 H locs ls hw hl hf
      unfold f_X6_settle_l2 at hf
      refine lv_iload_n hx hb dX6_settle_2 rfl (lv_at hl 1 rfl) ?_
      refine lv_aload_n hx hb dX6_settle_3 rfl (lv_at hl 0 rfl) ?_
      refine X_g_0_0 F ws_in hw fl_X6_10 dX6_settle_4 ?_
      refine X_g_1_7 F ws_in hw fl_X6_198 dX6_settle_7 ?_
      refine lv_icmp_ge (tgt := 53) hx hb dX6_settle_10 rfl (fun c4 => ?_) (fun c4 => ?_)
      · have hf := q_t c4 hf
        obtain rfl := q_s hf
        exact k_vret F hr hlk hw (Nat.le_of_ble_eq_true rfl) (Nat.le_of_ble_eq_true rfl) dX6_settle_53
      · have hf := q_f c4 hf
        refine lv_aload_n hx hb dX6_settle_13 rfl (lv_at hl 0 rfl) ?_
        refine X_g_0_0 F ws_in hw fl_X6_10 dX6_settle_14 ?_
        refine X_g_1_6 F ws_in hw fl_X6_132 dX6_settle_17 ?_
        refine lv_iload_n hx hb dX6_settle_20 rfl (lv_at hl 1 rfl) ?_
        obtain ⟨g5, hf⟩ := qgd_e hf
        refine X_l_16 F hw g5 dX6_settle_21 ?_
        obtain ⟨x6, hq16, hf⟩ := qbd_e hf
        have J7 : ∀ (H : Heap) (locs : List Loc) (ls : Array Slot), Wd G (wX G ad x6) A s H locs → lv_has ls 2 [(0, .ref (ad 0)), (1, .int v1)] → W p l e (rmk 4 0 0 99) s m args below meth c H locs 0 0 (KQV G below args s A (wX G ad xr) 0 0) (F0 m 47 ls []) := by
          intro H locs ls hw hl
          obtain ⟨v8, ev8⟩ : ∃ y : Int32, y = v1 + (1 : Int32) := ⟨_, rfl⟩
          refine lv_iinc (v := v8) (lv' := [(1, .int v8), (0, .ref (ad 0))]) hx hb dX6_settle_47 hl (k := 1) rfl (by rw [ev8]; rfl) (Nat.le_of_ble_eq_true rfl) rfl (fun ls hl => ?_)
          have hf := qnm_k ev8 hf
          refine lv_goto (tgt := 2) hx hb dX6_settle_50 rfl ?_
          exact ih3 v8 x6 _ _ _ hw (lv_sub hl [1, 0] rfl) hf
        have hf := hq16
        refine lv_if_ne (tgt := 47) hx hb dX6_settle_22 rfl (fun c9 => ?_) (fun c9 => ?_)
        · have hf := q_f c9 hf
          obtain rfl := q_s hf
          exact J7 _ _ _ hw (lv_sub hl [0, 1] rfl)
        · have hf := q_t c9 hf
          refine lv_aload_n hx hb dX6_settle_25 rfl (lv_at hl 0 rfl) ?_
          refine X_g_0_0 F ws_in hw fl_X6_10 dX6_settle_26 ?_
          refine lv_iload_n hx hb dX6_settle_29 rfl (lv_at hl 1 rfl) ?_
          obtain ⟨x10, h11, hf⟩ := qbd_e hf
          refine k_callVv' (rest := []) (As := [.int v1]) F ws_in (t_X5_settleChain h11) cv_X5_settleChain ml_X6_299 hw 1 rfl rfl rfl hl.1 rfl (Nat.le_of_ble_eq_true rfl) ⟨Nat.le_of_ble_eq_true rfl, Nat.le_of_ble_eq_true rfl⟩ ⟨Nat.le_of_ble_eq_true rfl, Nat.le_of_ble_eq_true rfl⟩ dX6_settle_30 (fun H locs hw => ?_)
          refine lv_aload_n hx hb dX6_settle_33 rfl (lv_at hl 0 rfl) ?_
          refine X_g_0_0 F ws_in hw fl_X6_10 dX6_settle_34 ?_
          refine X_g_1_14 F ws_in hw fl_X6_155 dX6_settle_37 ?_
          refine lv_iload_n hx hb dX6_settle_40 rfl (lv_at hl 1 rfl) ?_
          refine lv_aload_n hx hb dX6_settle_41 rfl (lv_at hl 0 rfl) ?_
          refine lv_iload_n hx hb dX6_settle_42 rfl (lv_at hl 1 rfl) ?_
          obtain ⟨r12, x13, h14, hf⟩ := qbd2_e hf
          refine k_callVi' (rest := [.int v1, .ref (ad 24)]) (As := [.int v1]) F ws_in (t_X6_markedCredit h14) cv_X6_markedCredit ml_X6_302 hw 0 rfl rfl rfl hl.1 rfl (Nat.le_of_ble_eq_true rfl) ⟨Nat.le_of_ble_eq_true rfl, Nat.le_of_ble_eq_true rfl⟩ ⟨Nat.le_of_ble_eq_true rfl, Nat.le_of_ble_eq_true rfl⟩ dX6_settle_43 (fun H locs hw => ?_)
          refine X_s_24 F hw g5 dX6_settle_46 (fun x15 ex15 H locs hw => ?_)
          have hf := qnm_k ex15 hf
          obtain rfl := q_s hf
          exact J7 _ _ _ hw (lv_sub hl [0, 1] rfl)
  exact L3 n (0 : Int32) x _ _ _ hw (lv_sub hl [1, 0] rfl) hf
def f_X6_addTerm (n : Nat) (x : SX) (a1 : Int32) (a2 : Int32) (a3 : Int32) (a4 : Int32) : Option (Int32 × SX) := (qbd2 (f_X5_add n x a1 a2 a3 a4 (x.1 0 8)) fun r1 x2 => (qbd (f_X6_settle n x2) fun x4 => some (r1, x4)))
set_option maxHeartbeats 4000000 in
set_option maxRecDepth 100000 in
theorem t_X6_addTerm {G : gG} {l : Launch} {ad : Nat → Nat} {n : Nat} {x : SX} {a1 : Int32} {a2 : Int32} {a3 : Int32} {a4 : Int32} {rv : Int32} {xr : SX} (hf : f_X6_addTerm n x a1 a2 a3 a4 = some (rv, xr)) : MetI G l yX6_addTerm cX6_addTerm 6 (some .int) 5 0 0 120 [.ref (ad 0), .int a1, .int a2, .int a3, .int a4] (wX G ad x) (wX G ad xr) rv := by
  refine k_ofI (by decide) (Nat.le_of_ble_eq_true rfl) ?_
  intro p e s m args below meth c ls A F hr hlk hl hw
  have hx := F.1
  have hb := F.2.1
  have hl : lv_has ls 6 [(0, .ref (ad 0)), (1, .int a1), (2, .int a2), (3, .int a3), (4, .int a4)] := hl
  unfold f_X6_addTerm at hf
  refine lv_aload_n hx hb dX6_addTerm_0 rfl (lv_at hl 0 rfl) ?_
  refine X_g_0_0 F ws_in hw fl_X6_10 dX6_addTerm_1 ?_
  refine lv_iload_n hx hb dX6_addTerm_4 rfl (lv_at hl 1 rfl) ?_
  refine lv_iload_n hx hb dX6_addTerm_5 rfl (lv_at hl 2 rfl) ?_
  refine lv_iload_n hx hb dX6_addTerm_6 rfl (lv_at hl 3 rfl) ?_
  refine lv_iload hx hb dX6_addTerm_7 (lv_at hl 4 rfl) ?_
  refine lv_aload_n hx hb dX6_addTerm_9 rfl (lv_at hl 0 rfl) ?_
  refine X_g_0_8 F ws_in hw fl_X6_92 dX6_addTerm_10 ?_
  obtain ⟨r1, x2, h3, hf⟩ := qbd2_e hf
  refine k_callVi' (rest := []) (As := [.int a1, .int a2, .int a3, .int a4, .int (x.1 0 8)]) F ws_in (t_X5_add h3) cv_X5_add ml_X6_296 hw 1 rfl rfl rfl hl.1 rfl (Nat.le_of_ble_eq_true rfl) ⟨Nat.le_of_ble_eq_true rfl, Nat.le_of_ble_eq_true rfl⟩ ⟨Nat.le_of_ble_eq_true rfl, Nat.le_of_ble_eq_true rfl⟩ dX6_addTerm_13 (fun H locs hw => ?_)
  refine lv_istore (lv' := [(5, .int r1), (0, .ref (ad 0)), (1, .int a1), (2, .int a2), (3, .int a3), (4, .int a4)]) hx hb dX6_addTerm_16 hl (Nat.le_of_ble_eq_true rfl) rfl (fun ls hl => ?_)
  refine lv_aload_n hx hb dX6_addTerm_18 rfl (lv_at hl 1 rfl) ?_
  obtain ⟨x4, h5, hf⟩ := qbd_e hf
  refine k_callVv' (rest := []) (As := []) F ws_in (t_X6_settle h5) cv_X6_settle ml_X6_149 hw 0 rfl rfl rfl hl.1 rfl (Nat.le_of_ble_eq_true rfl) ⟨Nat.le_of_ble_eq_true rfl, Nat.le_of_ble_eq_true rfl⟩ ⟨Nat.le_of_ble_eq_true rfl, Nat.le_of_ble_eq_true rfl⟩ dX6_addTerm_19 (fun H locs hw => ?_)
  refine lv_iload hx hb dX6_addTerm_22 (lv_at hl 0 rfl) ?_
  obtain ⟨rfl, rfl⟩ := q_s2 hf
  exact k_iret F hr hlk hw (Nat.le_of_ble_eq_true rfl) (Nat.le_of_ble_eq_true rfl) dX6_addTerm_24
def f_X6_checkRoomForTerm (n : Nat) (x : SX) : Option (Nat) := (if (x.1 1 7) < (10 : Int32) then some 0 else some 2)
set_option maxHeartbeats 4000000 in
set_option maxRecDepth 100000 in
theorem t_X6_checkRoomForTerm {G : gG} {l : Launch} (hlt : l.stackTraces = false) {ad : Nat → Nat} {n : Nat} {x : SX} {k0 : Nat} (hf : f_X6_checkRoomForTerm n x = some k0) : MetXV G l yX6_checkRoomForTerm cX6_checkRoomForTerm 1 none 6 1 6 100 [.ref (ad 0)] (wX G ad x) (wX G ad x) k0 := by
  refine k_ofXV (by decide) (Nat.le_of_ble_eq_true rfl) ?_
  intro p e s m args below meth c ls A F hr hlk hout hl hw hZ
  have hx := F.1
  have hb := F.2.1
  have hl : lv_has ls 1 [(0, .ref (ad 0))] := hl
  unfold f_X6_checkRoomForTerm at hf
  refine lv_aload_n hx hb dX6_checkRoomForTerm_0 rfl (lv_at hl 0 rfl) ?_
  refine X_g_0_0 F ws_in hw fl_X6_10 dX6_checkRoomForTerm_1 ?_
  refine X_g_1_7 F ws_in hw fl_X6_198 dX6_checkRoomForTerm_4 ?_
  refine lv_bipush (v := 10) hx hb dX6_checkRoomForTerm_7 (by decide) ?_
  refine lv_icmp_lt (tgt := 20) hx hb dX6_checkRoomForTerm_9 rfl (fun c1 => ?_) (fun c1 => ?_)
  · have hf := q_t c1 hf
    obtain rfl := q_s hf
    exact k_xvret F hr hlk hw (Nat.le_of_ble_eq_true rfl) (Nat.le_of_ble_eq_true rfl) dX6_checkRoomForTerm_20
  · have hf := q_f c1 hf
    obtain rfl := q_s hf
    exact k_throwV F hlt hlk hout ws_in hZ hw hl.1 (by decide) (by decide) thc_2 thi_2 tha_2 ⟨Nat.le_of_ble_eq_true rfl, Nat.le_of_ble_eq_true rfl, Nat.le_of_ble_eq_true rfl, Nat.le_of_ble_eq_true rfl⟩ (Nat.le_of_ble_eq_true rfl) (Nat.le_of_ble_eq_true rfl) dX6_checkRoomForTerm_12 dX6_checkRoomForTerm_15 dX6_checkRoomForTerm_16 dX6_checkRoomForTerm_19
def f_X6_checkSentence (n : Nat) (a1 : Int32) (a2 : Int32) (a3 : Int32) : Option (Nat) := (qbd (if a1 < 0 then some (0 : Int32) else (if (3 : Int32) < a1 then some (0 : Int32) else (if a2 < 0 then some (0 : Int32) else (if (60 : Int32) < a2 then some (0 : Int32) else (if a3 < 0 then some (0 : Int32) else (if (99 : Int32) < a3 then some (0 : Int32) else some (1 : Int32))))))) fun v1 => (if v1 = 0 then some 1 else (if a2 = 0 then (if a3 = 0 then some 1 else some 0) else some 0)))
set_option maxHeartbeats 4000000 in
set_option maxRecDepth 100000 in
theorem t_X6_checkSentence {G : gG} {l : Launch} (hlt : l.stackTraces = false) {n : Nat} {a1 : Int32} {a2 : Int32} {a3 : Int32} {k0 : Nat} (hf : f_X6_checkSentence n a1 a2 a3 = some k0) : MetXV G l yX6_checkSentence cX6_checkSentence 4 none 6 1 6 100 [.int a1, .int a2, .int a3] (([] : va_W)) (([] : va_W)) k0 := by
  refine k_ofXV (by decide) (Nat.le_of_ble_eq_true rfl) ?_
  intro p e s m args below meth c ls A F hr hlk hout hl hw hZ
  have hx := F.1
  have hb := F.2.1
  have hl : lv_has ls 4 [(0, .int a1), (1, .int a2), (2, .int a3)] := hl
  unfold f_X6_checkSentence at hf
  refine lv_iload_n hx hb dX6_checkSentence_0 rfl (lv_at hl 0 rfl) ?_
  obtain ⟨v1, hq12, hf⟩ := qbd_e hf
  have J2 : ∀ (H : Heap) (locs : List Loc) (ls : Array Slot), Wd G (([] : va_W)) A s H locs → lv_has ls 4 [(1, .int a2), (2, .int a3)] → W p l e (rmk 6 1 6 100) s m args below meth c H locs 0 0 (KQXV G below args s A (([] : va_W)) k0 1 6) (F0 m 34 ls [.int v1]) := by
    intro H locs ls hw hl
    refine lv_istore_n (lv' := [(3, .int v1), (1, .int a2), (2, .int a3)]) hx hb dX6_checkSentence_34 rfl hl (Nat.le_of_ble_eq_true rfl) rfl (fun ls hl => ?_)
    refine lv_iload_n hx hb dX6_checkSentence_35 rfl (lv_at hl 0 rfl) ?_
    refine lv_if_eq (tgt := 47) hx hb dX6_checkSentence_36 rfl (fun c3 => ?_) (fun c3 => ?_)
    · have hf := q_t c3 hf
      obtain rfl := q_s hf
      exact k_throwV F hlt hlk hout ws_in hZ hw hl.1 (by decide) (by decide) thc_1 thi_1 tha_1 ⟨Nat.le_of_ble_eq_true rfl, Nat.le_of_ble_eq_true rfl, Nat.le_of_ble_eq_true rfl, Nat.le_of_ble_eq_true rfl⟩ (Nat.le_of_ble_eq_true rfl) (Nat.le_of_ble_eq_true rfl) dX6_checkSentence_47 dX6_checkSentence_50 dX6_checkSentence_51 dX6_checkSentence_54
    · have hf := q_f c3 hf
      refine lv_iload_n hx hb dX6_checkSentence_39 rfl (lv_at hl 1 rfl) ?_
      refine lv_if_ne (tgt := 55) hx hb dX6_checkSentence_40 rfl (fun c4 => ?_) (fun c4 => ?_)
      · have hf := q_f c4 hf
        obtain rfl := q_s hf
        exact k_xvret F hr hlk hw (Nat.le_of_ble_eq_true rfl) (Nat.le_of_ble_eq_true rfl) dX6_checkSentence_55
      · have hf := q_t c4 hf
        refine lv_iload_n hx hb dX6_checkSentence_43 rfl (lv_at hl 2 rfl) ?_
        refine lv_if_ne (tgt := 55) hx hb dX6_checkSentence_44 rfl (fun c5 => ?_) (fun c5 => ?_)
        · have hf := q_f c5 hf
          obtain rfl := q_s hf
          exact k_xvret F hr hlk hw (Nat.le_of_ble_eq_true rfl) (Nat.le_of_ble_eq_true rfl) dX6_checkSentence_55
        · have hf := q_t c5 hf
          obtain rfl := q_s hf
          exact k_throwV F hlt hlk hout ws_in hZ hw hl.1 (by decide) (by decide) thc_1 thi_1 tha_1 ⟨Nat.le_of_ble_eq_true rfl, Nat.le_of_ble_eq_true rfl, Nat.le_of_ble_eq_true rfl, Nat.le_of_ble_eq_true rfl⟩ (Nat.le_of_ble_eq_true rfl) (Nat.le_of_ble_eq_true rfl) dX6_checkSentence_47 dX6_checkSentence_50 dX6_checkSentence_51 dX6_checkSentence_54
  have hf := hq12
  refine lv_if_lt (tgt := 33) hx hb dX6_checkSentence_1 rfl (fun c6 => ?_) (fun c6 => ?_)
  · have hf := q_t c6 hf
    refine lv_iconst (v := 0) hx hb dX6_checkSentence_33 (by decide) ?_
    obtain rfl := q_s hf
    exact J2 _ _ _ hw (lv_sub hl [1, 2] rfl)
  · have hf := q_f c6 hf
    refine lv_iload_n hx hb dX6_checkSentence_4 rfl (lv_at hl 0 rfl) ?_
    refine lv_iconst (v := 3) hx hb dX6_checkSentence_5 (by decide) ?_
    refine lv_icmp_gt (tgt := 33) hx hb dX6_checkSentence_6 rfl (fun c7 => ?_) (fun c7 => ?_)
    · have hf := q_t c7 hf
      refine lv_iconst (v := 0) hx hb dX6_checkSentence_33 (by decide) ?_
      obtain rfl := q_s hf
      exact J2 _ _ _ hw (lv_sub hl [1, 2] rfl)
    · have hf := q_f c7 hf
      refine lv_iload_n hx hb dX6_checkSentence_9 rfl (lv_at hl 1 rfl) ?_
      refine lv_if_lt (tgt := 33) hx hb dX6_checkSentence_10 rfl (fun c8 => ?_) (fun c8 => ?_)
      · have hf := q_t c8 hf
        refine lv_iconst (v := 0) hx hb dX6_checkSentence_33 (by decide) ?_
        obtain rfl := q_s hf
        exact J2 _ _ _ hw (lv_sub hl [1, 2] rfl)
      · have hf := q_f c8 hf
        refine lv_iload_n hx hb dX6_checkSentence_13 rfl (lv_at hl 1 rfl) ?_
        refine lv_bipush (v := 60) hx hb dX6_checkSentence_14 (by decide) ?_
        refine lv_icmp_gt (tgt := 33) hx hb dX6_checkSentence_16 rfl (fun c9 => ?_) (fun c9 => ?_)
        · have hf := q_t c9 hf
          refine lv_iconst (v := 0) hx hb dX6_checkSentence_33 (by decide) ?_
          obtain rfl := q_s hf
          exact J2 _ _ _ hw (lv_sub hl [1, 2] rfl)
        · have hf := q_f c9 hf
          refine lv_iload_n hx hb dX6_checkSentence_19 rfl (lv_at hl 2 rfl) ?_
          refine lv_if_lt (tgt := 33) hx hb dX6_checkSentence_20 rfl (fun c10 => ?_) (fun c10 => ?_)
          · have hf := q_t c10 hf
            refine lv_iconst (v := 0) hx hb dX6_checkSentence_33 (by decide) ?_
            obtain rfl := q_s hf
            exact J2 _ _ _ hw (lv_sub hl [1, 2] rfl)
          · have hf := q_f c10 hf
            refine lv_iload_n hx hb dX6_checkSentence_23 rfl (lv_at hl 2 rfl) ?_
            refine lv_bipush (v := 99) hx hb dX6_checkSentence_24 (by decide) ?_
            refine lv_icmp_gt (tgt := 33) hx hb dX6_checkSentence_26 rfl (fun c11 => ?_) (fun c11 => ?_)
            · have hf := q_t c11 hf
              refine lv_iconst (v := 0) hx hb dX6_checkSentence_33 (by decide) ?_
              obtain rfl := q_s hf
              exact J2 _ _ _ hw (lv_sub hl [1, 2] rfl)
            · have hf := q_f c11 hf
              refine lv_iconst (v := 1) hx hb dX6_checkSentence_29 (by decide) ?_
              refine lv_goto (tgt := 34) hx hb dX6_checkSentence_30 rfl ?_
              obtain rfl := q_s hf
              exact J2 _ _ _ hw (lv_sub hl [1, 2] rfl)
def f_X6_impose (n : Nat) (x : SX) (a1 : Int32) (a2 : Int32) (a3 : Int32) : Option (Nat × Int32 × SX) := (qxb (f_X6_checkSentence n a1 a2 a3) ((0 : Int32), x) ((qxb (f_X6_checkRoomForTerm n x) ((0 : Int32), x) ((qbd2 (f_X6_addTerm n x (-1 : Int32) a1 a2 a3) fun r5 x6 => some (0, r5, x6))))))
set_option maxHeartbeats 4000000 in
set_option maxRecDepth 100000 in
theorem t_X6_impose {G : gG} {l : Launch} (hlt : l.stackTraces = false) {ad : Nat → Nat} {n : Nat} {x : SX} {a1 : Int32} {a2 : Int32} {a3 : Int32} {k0 : Nat} {rv : Int32} {xr : SX} (hf : f_X6_impose n x a1 a2 a3 = some (k0, rv, xr)) : MetXI G l yX6_impose cX6_impose 4 (some .int) 7 2 12 145 [.ref (ad 0), .int a1, .int a2, .int a3] (wX G ad x) (wX G ad xr) k0 rv := by
  refine k_ofXI (by decide) (Nat.le_of_ble_eq_true rfl) ?_
  intro p e s m args below meth c ls A F hr hlk hout hl hw hZ
  have hx := F.1
  have hb := F.2.1
  have hl : lv_has ls 4 [(0, .ref (ad 0)), (1, .int a1), (2, .int a2), (3, .int a3)] := hl
  unfold f_X6_impose at hf
  refine lv_iload_n hx hb dX6_impose_0 rfl (lv_at hl 1 rfl) ?_
  refine lv_iload_n hx hb dX6_impose_1 rfl (lv_at hl 2 rfl) ?_
  refine lv_iload_n hx hb dX6_impose_2 rfl (lv_at hl 3 rfl) ?_
  obtain ⟨k1, h2, hk2, hn2⟩ := qxb_e hf
  refine k_xcallPv (rest := []) (As := [.int a1, .int a2, .int a3]) F ws_in (t_X6_checkSentence hlt h2) cs_X6_checkSentence ml_X6_119 hZ hw rfl hl.1 rfl (Nat.le_of_ble_eq_true rfl) ⟨Nat.le_of_ble_eq_true rfl, Nat.le_of_ble_eq_true rfl⟩ ⟨Nat.le_of_ble_eq_true rfl, Nat.le_of_ble_eq_true rfl⟩ dX6_impose_3 (fun hk9 E ce q9 H locs hE hw g1 g2 g3 => ?_) (fun hk9 H locs hw => ?_)
  · cases hn2 hk9
    exact k_xoutI hlk hout hw hk9 hE g1 g2 g3 (Nat.le_of_ble_eq_true rfl) (Nat.le_of_ble_eq_true rfl)
  have hf := hk2 hk9
  refine lv_aload_n hx hb dX6_impose_6 rfl (lv_at hl 0 rfl) ?_
  obtain ⟨k3, h4, hk4, hn4⟩ := qxb_e hf
  refine k_xcallVv' (rest := []) (As := []) F ws_in (t_X6_checkRoomForTerm hlt h4) cv_X6_checkRoomForTerm ml_X6_122 hZ hw 0 rfl rfl rfl hl.1 rfl (Nat.le_of_ble_eq_true rfl) ⟨Nat.le_of_ble_eq_true rfl, Nat.le_of_ble_eq_true rfl⟩ ⟨Nat.le_of_ble_eq_true rfl, Nat.le_of_ble_eq_true rfl⟩ dX6_impose_7 (fun hk9 E ce q9 H locs hE hw g1 g2 g3 => ?_) (fun hk9 H locs hw => ?_)
  · cases hn4 hk9
    exact k_xoutI hlk hout hw hk9 hE g1 g2 g3 (Nat.le_of_ble_eq_true rfl) (Nat.le_of_ble_eq_true rfl)
  have hf := hk4 hk9
  refine lv_aload_n hx hb dX6_impose_10 rfl (lv_at hl 0 rfl) ?_
  refine lv_iconst (v := -1) hx hb dX6_impose_11 (by decide) ?_
  refine lv_iload_n hx hb dX6_impose_12 rfl (lv_at hl 1 rfl) ?_
  refine lv_iload_n hx hb dX6_impose_13 rfl (lv_at hl 2 rfl) ?_
  refine lv_iload_n hx hb dX6_impose_14 rfl (lv_at hl 3 rfl) ?_
  obtain ⟨r5, x6, h7, hf⟩ := qbd2_e hf
  refine k_callVi' (rest := []) (As := [.int (-1 : Int32), .int a1, .int a2, .int a3]) F ws_in (t_X6_addTerm h7) cv_X6_addTerm ml_X6_125 hw 0 rfl rfl rfl hl.1 rfl (Nat.le_of_ble_eq_true rfl) ⟨Nat.le_of_ble_eq_true rfl, Nat.le_of_ble_eq_true rfl⟩ ⟨Nat.le_of_ble_eq_true rfl, Nat.le_of_ble_eq_true rfl⟩ dX6_impose_15 (fun H locs hw => ?_)
  obtain ⟨rfl, rfl, rfl⟩ := q_s3 hf
  exact k_xiret F hr hlk hw rfl (Nat.le_of_ble_eq_true rfl) (Nat.le_of_ble_eq_true rfl) dX6_impose_18
def f_X6_releaseIn (n : Nat) (x : SX) (a1 : Int32) : Option (Int32) := (qgd (qin a1 10) ((qbd (f_X0_daysForChain n x (x.1 18 a1.toNatClampNeg)) fun r2 => (qbd (f_X5_releaseWith n x a1 r2) fun r4 => some r4))))
set_option maxHeartbeats 4000000 in
set_option maxRecDepth 100000 in
theorem t_X6_releaseIn {G : gG} {l : Launch} {ad : Nat → Nat} {n : Nat} {x : SX} {a1 : Int32} {rv : Int32} (hf : f_X6_releaseIn n x a1 = some rv) : MetI G l yX6_releaseIn cX6_releaseIn 2 (some .int) 2 0 0 54 [.ref (ad 0), .int a1] (wX G ad x) (wX G ad x) rv := by
  refine k_ofI (by decide) (Nat.le_of_ble_eq_true rfl) ?_
  intro p e s m args below meth c ls A F hr hlk hl hw
  have hx := F.1
  have hb := F.2.1
  have hl : lv_has ls 2 [(0, .ref (ad 0)), (1, .int a1)] := hl
  unfold f_X6_releaseIn at hf
  refine lv_aload_n hx hb dX6_releaseIn_0 rfl (lv_at hl 0 rfl) ?_
  refine X_g_0_0 F ws_in hw fl_X6_10 dX6_releaseIn_1 ?_
  refine lv_iload_n hx hb dX6_releaseIn_4 rfl (lv_at hl 1 rfl) ?_
  refine lv_aload_n hx hb dX6_releaseIn_5 rfl (lv_at hl 0 rfl) ?_
  refine X_g_0_2 F ws_in hw fl_X6_26 dX6_releaseIn_6 ?_
  refine lv_aload_n hx hb dX6_releaseIn_9 rfl (lv_at hl 0 rfl) ?_
  refine X_g_0_0 F ws_in hw fl_X6_10 dX6_releaseIn_10 ?_
  refine X_g_1_8 F ws_in hw fl_X6_208 dX6_releaseIn_13 ?_
  refine lv_iload_n hx hb dX6_releaseIn_16 rfl (lv_at hl 1 rfl) ?_
  obtain ⟨g1, hf⟩ := qgd_e hf
  refine X_l_18 F hw g1 dX6_releaseIn_17 ?_
  obtain ⟨r2, h3, hf⟩ := qbd_e hf
  refine k_callVi' (rest := [.int a1, .ref (ad 1)]) (As := [.int (x.1 18 a1.toNatClampNeg)]) F ws_in (t_X0_daysForChain h3) cv_X0_daysForChain ml_X6_231 hw 3 rfl rfl rfl hl.1 rfl (Nat.le_of_ble_eq_true rfl) ⟨Nat.le_of_ble_eq_true rfl, Nat.le_of_ble_eq_true rfl⟩ ⟨Nat.le_of_ble_eq_true rfl, Nat.le_of_ble_eq_true rfl⟩ dX6_releaseIn_18 (fun H locs hw => ?_)
  obtain ⟨r4, h5, hf⟩ := qbd_e hf
  refine k_callVi' (rest := []) (As := [.int a1, .int r2]) F ws_in (t_X5_releaseWith h5) cv_X5_releaseWith ml_X6_337 hw 1 rfl rfl rfl hl.1 rfl (Nat.le_of_ble_eq_true rfl) ⟨Nat.le_of_ble_eq_true rfl, Nat.le_of_ble_eq_true rfl⟩ ⟨Nat.le_of_ble_eq_true rfl, Nat.le_of_ble_eq_true rfl⟩ dX6_releaseIn_21 (fun H locs hw => ?_)
  obtain rfl := q_s hf
  exact k_iret F hr hlk hw (Nat.le_of_ble_eq_true rfl) (Nat.le_of_ble_eq_true rfl) dX6_releaseIn_24
def f_X6_checkTerm (n : Nat) (x : SX) (a1 : Int32) : Option (Nat) := (if a1 < 0 then some 3 else (if a1 < (x.1 1 7) then some 0 else some 3))
set_option maxHeartbeats 4000000 in
set_option maxRecDepth 100000 in
theorem t_X6_checkTerm {G : gG} {l : Launch} (hlt : l.stackTraces = false) {ad : Nat → Nat} {n : Nat} {x : SX} {a1 : Int32} {k0 : Nat} (hf : f_X6_checkTerm n x a1 = some k0) : MetXV G l yX6_checkTerm cX6_checkTerm 2 none 6 1 6 100 [.ref (ad 0), .int a1] (wX G ad x) (wX G ad x) k0 := by
  refine k_ofXV (by decide) (Nat.le_of_ble_eq_true rfl) ?_
  intro p e s m args below meth c ls A F hr hlk hout hl hw hZ
  have hx := F.1
  have hb := F.2.1
  have hl : lv_has ls 2 [(0, .ref (ad 0)), (1, .int a1)] := hl
  unfold f_X6_checkTerm at hf
  refine lv_iload_n hx hb dX6_checkTerm_0 rfl (lv_at hl 1 rfl) ?_
  refine lv_if_lt (tgt := 15) hx hb dX6_checkTerm_1 rfl (fun c1 => ?_) (fun c1 => ?_)
  · have hf := q_t c1 hf
    obtain rfl := q_s hf
    exact k_throwV F hlt hlk hout ws_in hZ hw hl.1 (by decide) (by decide) thc_3 thi_3 tha_3 ⟨Nat.le_of_ble_eq_true rfl, Nat.le_of_ble_eq_true rfl, Nat.le_of_ble_eq_true rfl, Nat.le_of_ble_eq_true rfl⟩ (Nat.le_of_ble_eq_true rfl) (Nat.le_of_ble_eq_true rfl) dX6_checkTerm_15 dX6_checkTerm_18 dX6_checkTerm_19 dX6_checkTerm_22
  · have hf := q_f c1 hf
    refine lv_iload_n hx hb dX6_checkTerm_4 rfl (lv_at hl 1 rfl) ?_
    refine lv_aload_n hx hb dX6_checkTerm_5 rfl (lv_at hl 0 rfl) ?_
    refine X_g_0_0 F ws_in hw fl_X6_10 dX6_checkTerm_6 ?_
    refine X_g_1_7 F ws_in hw fl_X6_198 dX6_checkTerm_9 ?_
    refine lv_icmp_lt (tgt := 23) hx hb dX6_checkTerm_12 rfl (fun c2 => ?_) (fun c2 => ?_)
    · have hf := q_t c2 hf
      obtain rfl := q_s hf
      exact k_xvret F hr hlk hw (Nat.le_of_ble_eq_true rfl) (Nat.le_of_ble_eq_true rfl) dX6_checkTerm_23
    · have hf := q_f c2 hf
      obtain rfl := q_s hf
      exact k_throwV F hlt hlk hout ws_in hZ hw hl.1 (by decide) (by decide) thc_3 thi_3 tha_3 ⟨Nat.le_of_ble_eq_true rfl, Nat.le_of_ble_eq_true rfl, Nat.le_of_ble_eq_true rfl, Nat.le_of_ble_eq_true rfl⟩ (Nat.le_of_ble_eq_true rfl) (Nat.le_of_ble_eq_true rfl) dX6_checkTerm_15 dX6_checkTerm_18 dX6_checkTerm_19 dX6_checkTerm_22
def f_X6_imposeConsecutive (n : Nat) (x : SX) (a1 : Int32) (a2 : Int32) (a3 : Int32) (a4 : Int32) : Option (Nat × Int32 × SX) := (qxb (f_X6_checkTerm n x a1) ((0 : Int32), x) ((qxb (f_X6_checkSentence n a2 a3 a4) ((0 : Int32), x) ((qxb (f_X6_checkRoomForTerm n x) ((0 : Int32), x) ((qgd (qin a1 10) ((if (x.1 16 a1.toNatClampNeg) = 0 then (qbd (f_X6_releaseIn n x a1) fun r9 => (if (x.1 0 8) < r9 then (qbd2 (f_X6_addTerm n x a1 a2 a3 a4) fun r12 x13 => some (0, r12, x13)) else some (2, (0 : Int32), x))) else some (2, (0 : Int32), x))))))))))
set_option maxHeartbeats 4000000 in
set_option maxRecDepth 100000 in
theorem t_X6_imposeConsecutive {G : gG} {l : Launch} (hlt : l.stackTraces = false) {ad : Nat → Nat} {n : Nat} {x : SX} {a1 : Int32} {a2 : Int32} {a3 : Int32} {a4 : Int32} {k0 : Nat} {rv : Int32} {xr : SX} (hf : f_X6_imposeConsecutive n x a1 a2 a3 a4 = some (k0, rv, xr)) : MetXI G l yX6_imposeConsecutive cX6_imposeConsecutive 5 (some .int) 7 4 24 145 [.ref (ad 0), .int a1, .int a2, .int a3, .int a4] (wX G ad x) (wX G ad xr) k0 rv := by
  refine k_ofXI (by decide) (Nat.le_of_ble_eq_true rfl) ?_
  intro p e s m args below meth c ls A F hr hlk hout hl hw hZ
  have hx := F.1
  have hb := F.2.1
  have hl : lv_has ls 5 [(0, .ref (ad 0)), (1, .int a1), (2, .int a2), (3, .int a3), (4, .int a4)] := hl
  unfold f_X6_imposeConsecutive at hf
  refine lv_aload_n hx hb dX6_imposeConsecutive_0 rfl (lv_at hl 0 rfl) ?_
  refine lv_iload_n hx hb dX6_imposeConsecutive_1 rfl (lv_at hl 1 rfl) ?_
  obtain ⟨k1, h2, hk2, hn2⟩ := qxb_e hf
  refine k_xcallVv' (rest := []) (As := [.int a1]) F ws_in (t_X6_checkTerm hlt h2) cv_X6_checkTerm ml_X6_129 hZ hw 0 rfl rfl rfl hl.1 rfl (Nat.le_of_ble_eq_true rfl) ⟨Nat.le_of_ble_eq_true rfl, Nat.le_of_ble_eq_true rfl⟩ ⟨Nat.le_of_ble_eq_true rfl, Nat.le_of_ble_eq_true rfl⟩ dX6_imposeConsecutive_2 (fun hk9 E ce q9 H locs hE hw g1 g2 g3 => ?_) (fun hk9 H locs hw => ?_)
  · cases hn2 hk9
    exact k_xoutI hlk hout hw hk9 hE g1 g2 g3 (Nat.le_of_ble_eq_true rfl) (Nat.le_of_ble_eq_true rfl)
  have hf := hk2 hk9
  refine lv_iload_n hx hb dX6_imposeConsecutive_5 rfl (lv_at hl 2 rfl) ?_
  refine lv_iload_n hx hb dX6_imposeConsecutive_6 rfl (lv_at hl 3 rfl) ?_
  refine lv_iload hx hb dX6_imposeConsecutive_7 (lv_at hl 4 rfl) ?_
  obtain ⟨k3, h4, hk4, hn4⟩ := qxb_e hf
  refine k_xcallPv (rest := []) (As := [.int a2, .int a3, .int a4]) F ws_in (t_X6_checkSentence hlt h4) cs_X6_checkSentence ml_X6_119 hZ hw rfl hl.1 rfl (Nat.le_of_ble_eq_true rfl) ⟨Nat.le_of_ble_eq_true rfl, Nat.le_of_ble_eq_true rfl⟩ ⟨Nat.le_of_ble_eq_true rfl, Nat.le_of_ble_eq_true rfl⟩ dX6_imposeConsecutive_9 (fun hk9 E ce q9 H locs hE hw g1 g2 g3 => ?_) (fun hk9 H locs hw => ?_)
  · cases hn4 hk9
    exact k_xoutI hlk hout hw hk9 hE g1 g2 g3 (Nat.le_of_ble_eq_true rfl) (Nat.le_of_ble_eq_true rfl)
  have hf := hk4 hk9
  refine lv_aload_n hx hb dX6_imposeConsecutive_12 rfl (lv_at hl 0 rfl) ?_
  obtain ⟨k5, h6, hk6, hn6⟩ := qxb_e hf
  refine k_xcallVv' (rest := []) (As := []) F ws_in (t_X6_checkRoomForTerm hlt h6) cv_X6_checkRoomForTerm ml_X6_122 hZ hw 0 rfl rfl rfl hl.1 rfl (Nat.le_of_ble_eq_true rfl) ⟨Nat.le_of_ble_eq_true rfl, Nat.le_of_ble_eq_true rfl⟩ ⟨Nat.le_of_ble_eq_true rfl, Nat.le_of_ble_eq_true rfl⟩ dX6_imposeConsecutive_13 (fun hk9 E ce q9 H locs hE hw g1 g2 g3 => ?_) (fun hk9 H locs hw => ?_)
  · cases hn6 hk9
    exact k_xoutI hlk hout hw hk9 hE g1 g2 g3 (Nat.le_of_ble_eq_true rfl) (Nat.le_of_ble_eq_true rfl)
  have hf := hk6 hk9
  refine lv_aload_n hx hb dX6_imposeConsecutive_16 rfl (lv_at hl 0 rfl) ?_
  refine X_g_0_0 F ws_in hw fl_X6_10 dX6_imposeConsecutive_17 ?_
  refine X_g_1_6 F ws_in hw fl_X6_132 dX6_imposeConsecutive_20 ?_
  refine lv_iload_n hx hb dX6_imposeConsecutive_23 rfl (lv_at hl 1 rfl) ?_
  obtain ⟨g7, hf⟩ := qgd_e hf
  refine X_l_16 F hw g7 dX6_imposeConsecutive_24 ?_
  refine lv_if_ne (tgt := 40) hx hb dX6_imposeConsecutive_25 rfl (fun c8 => ?_) (fun c8 => ?_)
  · have hf := q_f c8 hf
    obtain ⟨rfl, rfl, rfl⟩ := q_s3 hf
    exact k_throwI F hlt hlk hout ws_in hZ hw hl.1 (by decide) (by decide) thc_2 thi_2 tha_2 ⟨Nat.le_of_ble_eq_true rfl, Nat.le_of_ble_eq_true rfl, Nat.le_of_ble_eq_true rfl, Nat.le_of_ble_eq_true rfl⟩ (Nat.le_of_ble_eq_true rfl) (Nat.le_of_ble_eq_true rfl) dX6_imposeConsecutive_40 dX6_imposeConsecutive_43 dX6_imposeConsecutive_44 dX6_imposeConsecutive_47
  · have hf := q_t c8 hf
    refine lv_aload_n hx hb dX6_imposeConsecutive_28 rfl (lv_at hl 0 rfl) ?_
    refine lv_iload_n hx hb dX6_imposeConsecutive_29 rfl (lv_at hl 1 rfl) ?_
    obtain ⟨r9, h10, hf⟩ := qbd_e hf
    refine k_callVi' (rest := []) (As := [.int a1]) F ws_in (t_X6_releaseIn h10) cv_X6_releaseIn ml_X6_136 hw 0 rfl rfl rfl hl.1 rfl (Nat.le_of_ble_eq_true rfl) ⟨Nat.le_of_ble_eq_true rfl, Nat.le_of_ble_eq_true rfl⟩ ⟨Nat.le_of_ble_eq_true rfl, Nat.le_of_ble_eq_true rfl⟩ dX6_imposeConsecutive_30 (fun H locs hw => ?_)
    refine lv_aload_n hx hb dX6_imposeConsecutive_33 rfl (lv_at hl 0 rfl) ?_
    refine X_g_0_8 F ws_in hw fl_X6_92 dX6_imposeConsecutive_34 ?_
    refine lv_icmp_gt (tgt := 48) hx hb dX6_imposeConsecutive_37 rfl (fun c11 => ?_) (fun c11 => ?_)
    · have hf := q_t c11 hf
      refine lv_aload_n hx hb dX6_imposeConsecutive_48 rfl (lv_at hl 0 rfl) ?_
      refine lv_iload_n hx hb dX6_imposeConsecutive_49 rfl (lv_at hl 1 rfl) ?_
      refine lv_iload_n hx hb dX6_imposeConsecutive_50 rfl (lv_at hl 2 rfl) ?_
      refine lv_iload_n hx hb dX6_imposeConsecutive_51 rfl (lv_at hl 3 rfl) ?_
      refine lv_iload hx hb dX6_imposeConsecutive_52 (lv_at hl 4 rfl) ?_
      obtain ⟨r12, x13, h14, hf⟩ := qbd2_e hf
      refine k_callVi' (rest := []) (As := [.int a1, .int a2, .int a3, .int a4]) F ws_in (t_X6_addTerm h14) cv_X6_addTerm ml_X6_125 hw 0 rfl rfl rfl hl.1 rfl (Nat.le_of_ble_eq_true rfl) ⟨Nat.le_of_ble_eq_true rfl, Nat.le_of_ble_eq_true rfl⟩ ⟨Nat.le_of_ble_eq_true rfl, Nat.le_of_ble_eq_true rfl⟩ dX6_imposeConsecutive_54 (fun H locs hw => ?_)
      obtain ⟨rfl, rfl, rfl⟩ := q_s3 hf
      exact k_xiret F hr hlk hw rfl (Nat.le_of_ble_eq_true rfl) (Nat.le_of_ble_eq_true rfl) dX6_imposeConsecutive_57
    · have hf := q_f c11 hf
      obtain ⟨rfl, rfl, rfl⟩ := q_s3 hf
      exact k_throwI F hlt hlk hout ws_in hZ hw hl.1 (by decide) (by decide) thc_2 thi_2 tha_2 ⟨Nat.le_of_ble_eq_true rfl, Nat.le_of_ble_eq_true rfl, Nat.le_of_ble_eq_true rfl, Nat.le_of_ble_eq_true rfl⟩ (Nat.le_of_ble_eq_true rfl) (Nat.le_of_ble_eq_true rfl) dX6_imposeConsecutive_40 dX6_imposeConsecutive_43 dX6_imposeConsecutive_44 dX6_imposeConsecutive_47
def f_X6_addRemand (n : Nat) (x : SX) (a1 : Int32) (a2 : Int32) (a3 : Int32) : Option (Nat × Int32 × SX) := (qxb (f_X6_checkTerm n x a1) ((0 : Int32), x) ((if a2 < 0 then some (1, (0 : Int32), x) else (if a3 < a2 then some (1, (0 : Int32), x) else (if a3 < (x.1 0 8) then (qgd (qin a1 10) ((if (x.1 16 a1.toNatClampNeg) = 0 then (if (x.1 13 a1.toNatClampNeg) = (x.1 0 8) then (if (x.1 2 5) < (8 : Int32) then (qbd (f_X4_add n x a1 a2 a3) fun x10 => (qbd (f_X6_settle n x10) fun x12 => (qbd (f_X6_greatestEnd n x12) fun r14 => (qbd (f_X3_lowerLimit n x12 r14) fun x16 => some (0, (x16.1 24 a1.toNatClampNeg), x16))))) else some (2, (0 : Int32), x)) else some (2, (0 : Int32), x)) else some (2, (0 : Int32), x)))) else some (1, (0 : Int32), x))))))
set_option maxHeartbeats 4000000 in
set_option maxRecDepth 100000 in
theorem t_X6_addRemand {G : gG} {l : Launch} (hlt : l.stackTraces = false) {ad : Nat → Nat} {n : Nat} {x : SX} {a1 : Int32} {a2 : Int32} {a3 : Int32} {k0 : Nat} {rv : Int32} {xr : SX} (hf : f_X6_addRemand n x a1 a2 a3 = some (k0, rv, xr)) : MetXI G l yX6_addRemand cX6_addRemand 4 (some .int) 7 2 12 121 [.ref (ad 0), .int a1, .int a2, .int a3] (wX G ad x) (wX G ad xr) k0 rv := by
  refine k_ofXI (by decide) (Nat.le_of_ble_eq_true rfl) ?_
  intro p e s m args below meth c ls A F hr hlk hout hl hw hZ
  have hx := F.1
  have hb := F.2.1
  have hl : lv_has ls 4 [(0, .ref (ad 0)), (1, .int a1), (2, .int a2), (3, .int a3)] := hl
  unfold f_X6_addRemand at hf
  refine lv_aload_n hx hb dX6_addRemand_0 rfl (lv_at hl 0 rfl) ?_
  refine lv_iload_n hx hb dX6_addRemand_1 rfl (lv_at hl 1 rfl) ?_
  obtain ⟨k1, h2, hk2, hn2⟩ := qxb_e hf
  refine k_xcallVv' (rest := []) (As := [.int a1]) F ws_in (t_X6_checkTerm hlt h2) cv_X6_checkTerm ml_X6_129 hZ hw 0 rfl rfl rfl hl.1 rfl (Nat.le_of_ble_eq_true rfl) ⟨Nat.le_of_ble_eq_true rfl, Nat.le_of_ble_eq_true rfl⟩ ⟨Nat.le_of_ble_eq_true rfl, Nat.le_of_ble_eq_true rfl⟩ dX6_addRemand_2 (fun hk9 E ce q9 H locs hE hw g1 g2 g3 => ?_) (fun hk9 H locs hw => ?_)
  · cases hn2 hk9
    exact k_xoutI hlk hout hw hk9 hE g1 g2 g3 (Nat.le_of_ble_eq_true rfl) (Nat.le_of_ble_eq_true rfl)
  have hf := hk2 hk9
  refine lv_iload_n hx hb dX6_addRemand_5 rfl (lv_at hl 2 rfl) ?_
  refine lv_if_lt (tgt := 22) hx hb dX6_addRemand_6 rfl (fun c3 => ?_) (fun c3 => ?_)
  · have hf := q_t c3 hf
    obtain ⟨rfl, rfl, rfl⟩ := q_s3 hf
    exact k_throwI F hlt hlk hout ws_in hZ hw hl.1 (by decide) (by decide) thc_1 thi_1 tha_1 ⟨Nat.le_of_ble_eq_true rfl, Nat.le_of_ble_eq_true rfl, Nat.le_of_ble_eq_true rfl, Nat.le_of_ble_eq_true rfl⟩ (Nat.le_of_ble_eq_true rfl) (Nat.le_of_ble_eq_true rfl) dX6_addRemand_22 dX6_addRemand_25 dX6_addRemand_26 dX6_addRemand_29
  · have hf := q_f c3 hf
    refine lv_iload_n hx hb dX6_addRemand_9 rfl (lv_at hl 3 rfl) ?_
    refine lv_iload_n hx hb dX6_addRemand_10 rfl (lv_at hl 2 rfl) ?_
    refine lv_icmp_lt (tgt := 22) hx hb dX6_addRemand_11 rfl (fun c4 => ?_) (fun c4 => ?_)
    · have hf := q_t c4 hf
      obtain ⟨rfl, rfl, rfl⟩ := q_s3 hf
      exact k_throwI F hlt hlk hout ws_in hZ hw hl.1 (by decide) (by decide) thc_1 thi_1 tha_1 ⟨Nat.le_of_ble_eq_true rfl, Nat.le_of_ble_eq_true rfl, Nat.le_of_ble_eq_true rfl, Nat.le_of_ble_eq_true rfl⟩ (Nat.le_of_ble_eq_true rfl) (Nat.le_of_ble_eq_true rfl) dX6_addRemand_22 dX6_addRemand_25 dX6_addRemand_26 dX6_addRemand_29
    · have hf := q_f c4 hf
      refine lv_iload_n hx hb dX6_addRemand_14 rfl (lv_at hl 3 rfl) ?_
      refine lv_aload_n hx hb dX6_addRemand_15 rfl (lv_at hl 0 rfl) ?_
      refine X_g_0_8 F ws_in hw fl_X6_92 dX6_addRemand_16 ?_
      refine lv_icmp_lt (tgt := 30) hx hb dX6_addRemand_19 rfl (fun c5 => ?_) (fun c5 => ?_)
      · have hf := q_t c5 hf
        refine lv_aload_n hx hb dX6_addRemand_30 rfl (lv_at hl 0 rfl) ?_
        refine X_g_0_0 F ws_in hw fl_X6_10 dX6_addRemand_31 ?_
        refine X_g_1_6 F ws_in hw fl_X6_132 dX6_addRemand_34 ?_
        refine lv_iload_n hx hb dX6_addRemand_37 rfl (lv_at hl 1 rfl) ?_
        obtain ⟨g6, hf⟩ := qgd_e hf
        refine X_l_16 F hw g6 dX6_addRemand_38 ?_
        refine lv_if_ne (tgt := 70) hx hb dX6_addRemand_39 rfl (fun c7 => ?_) (fun c7 => ?_)
        · have hf := q_f c7 hf
          obtain ⟨rfl, rfl, rfl⟩ := q_s3 hf
          exact k_throwI F hlt hlk hout ws_in hZ hw hl.1 (by decide) (by decide) thc_2 thi_2 tha_2 ⟨Nat.le_of_ble_eq_true rfl, Nat.le_of_ble_eq_true rfl, Nat.le_of_ble_eq_true rfl, Nat.le_of_ble_eq_true rfl⟩ (Nat.le_of_ble_eq_true rfl) (Nat.le_of_ble_eq_true rfl) dX6_addRemand_70 dX6_addRemand_73 dX6_addRemand_74 dX6_addRemand_77
        · have hf := q_t c7 hf
          refine lv_aload_n hx hb dX6_addRemand_42 rfl (lv_at hl 0 rfl) ?_
          refine X_g_0_0 F ws_in hw fl_X6_10 dX6_addRemand_43 ?_
          refine X_g_1_3 F ws_in hw fl_X6_139 dX6_addRemand_46 ?_
          refine lv_iload_n hx hb dX6_addRemand_49 rfl (lv_at hl 1 rfl) ?_
          refine X_l_13 F hw g6 dX6_addRemand_50 ?_
          refine lv_aload_n hx hb dX6_addRemand_51 rfl (lv_at hl 0 rfl) ?_
          refine X_g_0_8 F ws_in hw fl_X6_92 dX6_addRemand_52 ?_
          refine lv_icmp_ne (tgt := 70) hx hb dX6_addRemand_55 rfl (fun c8 => ?_) (fun c8 => ?_)
          · have hf := q_f c8 hf
            obtain ⟨rfl, rfl, rfl⟩ := q_s3 hf
            exact k_throwI F hlt hlk hout ws_in hZ hw hl.1 (by decide) (by decide) thc_2 thi_2 tha_2 ⟨Nat.le_of_ble_eq_true rfl, Nat.le_of_ble_eq_true rfl, Nat.le_of_ble_eq_true rfl, Nat.le_of_ble_eq_true rfl⟩ (Nat.le_of_ble_eq_true rfl) (Nat.le_of_ble_eq_true rfl) dX6_addRemand_70 dX6_addRemand_73 dX6_addRemand_74 dX6_addRemand_77
          · have hf := q_t c8 hf
            refine lv_aload_n hx hb dX6_addRemand_58 rfl (lv_at hl 0 rfl) ?_
            refine X_g_0_1 F ws_in hw fl_X6_19 dX6_addRemand_59 ?_
            refine X_g_2_5 F ws_in hw fl_X6_143 dX6_addRemand_62 ?_
            refine lv_bipush (v := 8) hx hb dX6_addRemand_65 (by decide) ?_
            refine lv_icmp_lt (tgt := 78) hx hb dX6_addRemand_67 rfl (fun c9 => ?_) (fun c9 => ?_)
            · have hf := q_t c9 hf
              refine lv_aload_n hx hb dX6_addRemand_78 rfl (lv_at hl 0 rfl) ?_
              refine X_g_0_1 F ws_in hw fl_X6_19 dX6_addRemand_79 ?_
              refine lv_iload_n hx hb dX6_addRemand_82 rfl (lv_at hl 1 rfl) ?_
              refine lv_iload_n hx hb dX6_addRemand_83 rfl (lv_at hl 2 rfl) ?_
              refine lv_iload_n hx hb dX6_addRemand_84 rfl (lv_at hl 3 rfl) ?_
              obtain ⟨x10, h11, hf⟩ := qbd_e hf
              refine k_callVv' (rest := []) (As := [.int a1, .int a2, .int a3]) F ws_in (t_X4_add h11) cv_X4_add ml_X6_146 hw 2 rfl rfl rfl hl.1 rfl (Nat.le_of_ble_eq_true rfl) ⟨Nat.le_of_ble_eq_true rfl, Nat.le_of_ble_eq_true rfl⟩ ⟨Nat.le_of_ble_eq_true rfl, Nat.le_of_ble_eq_true rfl⟩ dX6_addRemand_85 (fun H locs hw => ?_)
              refine lv_aload_n hx hb dX6_addRemand_88 rfl (lv_at hl 0 rfl) ?_
              obtain ⟨x12, h13, hf⟩ := qbd_e hf
              refine k_callVv' (rest := []) (As := []) F ws_in (t_X6_settle h13) cv_X6_settle ml_X6_149 hw 0 rfl rfl rfl hl.1 rfl (Nat.le_of_ble_eq_true rfl) ⟨Nat.le_of_ble_eq_true rfl, Nat.le_of_ble_eq_true rfl⟩ ⟨Nat.le_of_ble_eq_true rfl, Nat.le_of_ble_eq_true rfl⟩ dX6_addRemand_89 (fun H locs hw => ?_)
              refine lv_aload_n hx hb dX6_addRemand_92 rfl (lv_at hl 0 rfl) ?_
              refine X_g_0_3 F ws_in hw fl_X6_33 dX6_addRemand_93 ?_
              refine lv_aload_n hx hb dX6_addRemand_96 rfl (lv_at hl 0 rfl) ?_
              obtain ⟨r14, h15, hf⟩ := qbd_e hf
              refine k_callVi' (rest := [.ref (ad 4)]) (As := []) F ws_in (t_X6_greatestEnd h15) cv_X6_greatestEnd ml_X6_106 hw 0 rfl rfl rfl hl.1 rfl (Nat.le_of_ble_eq_true rfl) ⟨Nat.le_of_ble_eq_true rfl, Nat.le_of_ble_eq_true rfl⟩ ⟨Nat.le_of_ble_eq_true rfl, Nat.le_of_ble_eq_true rfl⟩ dX6_addRemand_97 (fun H locs hw => ?_)
              obtain ⟨x16, h17, hf⟩ := qbd_e hf
              refine k_callVv' (rest := []) (As := [.int r14]) F ws_in (t_X3_lowerLimit h17) cv_X3_lowerLimit ml_X6_152 hw 4 rfl rfl rfl hl.1 rfl (Nat.le_of_ble_eq_true rfl) ⟨Nat.le_of_ble_eq_true rfl, Nat.le_of_ble_eq_true rfl⟩ ⟨Nat.le_of_ble_eq_true rfl, Nat.le_of_ble_eq_true rfl⟩ dX6_addRemand_100 (fun H locs hw => ?_)
              refine lv_aload_n hx hb dX6_addRemand_103 rfl (lv_at hl 0 rfl) ?_
              refine X_g_0_0 F ws_in hw fl_X6_10 dX6_addRemand_104 ?_
              refine X_g_1_14 F ws_in hw fl_X6_155 dX6_addRemand_107 ?_
              refine lv_iload_n hx hb dX6_addRemand_110 rfl (lv_at hl 1 rfl) ?_
              refine X_l_24 F hw g6 dX6_addRemand_111 ?_
              obtain ⟨rfl, rfl, rfl⟩ := q_s3 hf
              exact k_xiret F hr hlk hw rfl (Nat.le_of_ble_eq_true rfl) (Nat.le_of_ble_eq_true rfl) dX6_addRemand_112
            · have hf := q_f c9 hf
              obtain ⟨rfl, rfl, rfl⟩ := q_s3 hf
              exact k_throwI F hlt hlk hout ws_in hZ hw hl.1 (by decide) (by decide) thc_2 thi_2 tha_2 ⟨Nat.le_of_ble_eq_true rfl, Nat.le_of_ble_eq_true rfl, Nat.le_of_ble_eq_true rfl, Nat.le_of_ble_eq_true rfl⟩ (Nat.le_of_ble_eq_true rfl) (Nat.le_of_ble_eq_true rfl) dX6_addRemand_70 dX6_addRemand_73 dX6_addRemand_74 dX6_addRemand_77
      · have hf := q_f c5 hf
        obtain ⟨rfl, rfl, rfl⟩ := q_s3 hf
        exact k_throwI F hlt hlk hout ws_in hZ hw hl.1 (by decide) (by decide) thc_1 thi_1 tha_1 ⟨Nat.le_of_ble_eq_true rfl, Nat.le_of_ble_eq_true rfl, Nat.le_of_ble_eq_true rfl, Nat.le_of_ble_eq_true rfl⟩ (Nat.le_of_ble_eq_true rfl) (Nat.le_of_ble_eq_true rfl) dX6_addRemand_22 dX6_addRemand_25 dX6_addRemand_26 dX6_addRemand_29
