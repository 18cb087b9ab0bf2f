/-! ===== the StringBuilder, 3: appends, setLength ===== -/
theorem sb_grow {nn m cap : Nat} (h : ¬ m ≤ cap) (hm : m < 2 ^ 26) (hc : cap < 2 ^ 26) : f_J8_newLength_cabcc nn (nI cap) (nI m - nI cap) (nI cap + 2) = some (nI (sb_cap m cap)) ∧ sb_cap m cap < 2 ^ 28 ∧ cap < sb_cap m cap ∧ sb_cap m cap ≤ 2 * (sb_cap m cap - cap) := by
  have hN : sb_cap m cap = cap + (if m - cap < cap + 2 then cap + 2 else m - cap) := by
    unfold sb_cap
    rw [if_neg h]
    split <;> split <;> omega
  have hb : sb_cap m cap < 2 ^ 28 := by rw [hN]; split <;> omega
  have e1 : nI m - nI cap = nI (m - cap) := pk_sub (by omega)
  have e2 : nI cap + 2 = nI (cap + 2) := nI_add cap 2
  have e3 : nI cap + (if nI (m - cap) < nI (cap + 2) then nI (cap + 2) else nI (m - cap)) = nI (sb_cap m cap) := by
    rw [hN]
    by_cases h2 : m - cap < cap + 2
    · rw [if_pos h2, if_pos ((nI_ltI (by omega) (by omega)).mpr h2)]; exact nI_add _ _
    · rw [if_neg h2, if_neg (fun q => h2 ((nI_ltI (by omega) (by omega)).mp q))]; exact nI_add _ _
  refine ⟨?_, hb, by rw [hN]; split <;> omega, by rw [hN]; split <;> omega⟩
  unfold f_J8_newLength_cabcc qnm
  rw [e1, e2, e3]
  show (if nI (sb_cap m cap) ≤ 0 then none else if 2147483639 < nI (sb_cap m cap) then none else some (nI (sb_cap m cap))) = some (nI (sb_cap m cap))
  rw [if_neg (nI_nle (by rw [hN]; split <;> omega) (by omega)), if_neg]
  exact fun q => absurd ((nI_ltI (a := 2147483639) (by decide) (by omega)).mp q) (by omega)
theorem t_ens {G : gG} {l : Launch} {ad : Nat → Nat} {qb cap m : Nat} {x : SX} {a1 : Int32} (h0 : x.1 8 1 = 0) (ha : a1 = nI m) (hm : m < 2 ^ 26) (hcap : cap < 2 ^ 26) (hfit : sb_Fit (x.1 9)) : MetPU PrB G l yJ5_ensureCapacityInternal_d00df cJ5_ensureCapacityInternal_d00df 3 none 4 (sb_cap m cap - cap) (2 * (sb_cap m cap - cap)) 130 [.ref (ad 8), .int a1] (wB G ad qb cap x) (fun u => wB G ad (eQ m cap qb u) (sb_cap m cap) (eX m cap x)) := by
  subst ha
  have e1 : (nI m - nI cap).toInt = (m : Int) - cap := pk_sub_toInt (by omega) (by omega)
  by_cases h : m ≤ cap
  · have e : (fun u => wB G ad (eQ m cap qb u) (sb_cap m cap) (eX m cap x)) = fun _ => wB G ad qb cap x := by
      funext u
      rw [eQ, eX, sb_cap, if_pos h, if_pos h, if_pos h]
    rw [e]
    refine t_ensN ?_
    rw [h0, sb_shr0, Int32.le_iff_toInt_le, e1, Int32.toInt_zero]
    omega
  · have e : (fun u => wB G ad (eQ m cap qb u) (sb_cap m cap) (eX m cap x)) = fun u => wB G ad u (sb_cap m cap) (sr x 9 (va_cpy (x.1 9) (fun _ => 0) 0 0 cap)) := by
      funext u
      rw [eQ, eX, if_neg h, if_neg h]
    rw [e]
    obtain ⟨g1, g2, g3, g4⟩ := sb_grow (nn := 0) h hm hcap
    have e2 : (2 : Int32) <<< ((0 : Int32) &&& 31) = 2 := sb_shl0 2
    have eA : (nI (sb_cap m cap) >>> (x.1 8 1 &&& 31)) <<< (x.1 8 1 &&& 31) = nI (sb_cap m cap) := by rw [h0, sb_shr0, sb_shl0]
    refine t_ensG (nn := 0) (r := nI (sb_cap m cap)) ?_ ?_ ?_ ?_ ?_ ?_ ?_ ?_ (by omega) (by omega) hfit (by omega) g4
    · rw [h0, sb_shr0, Int32.le_iff_toInt_le, e1, Int32.toInt_zero]
      omega
    · rw [h0, sb_shl0, e2]
      exact g1
    · exact fun q => by
        have := (nI_eq (a := sb_cap m cap) (b := 2147483647) (by omega) (by decide)).mp q
        omega
    · rw [eA]
      exact fun q => by
        have := (nI_eq (by omega) (by omega)).mp q
        omega
    · rw [eA]; exact nI_pos (by omega)
    · rw [eA]; exact nI_clamp (by omega)
    · show _ * 1 ≤ _
      omega
    · rw [eA, if_neg]
      exact nI_ge (by omega) (by omega) |> fun q => fun z => absurd ((nI_ltI (by omega) (by omega)).mp z) (by omega)
/-- a sign put behind the kc signs -/
def apC (kc cap : Nat) (x : SX) (a1 : Int32) : SX := si (si (eX (kc + 1) cap x) 8 3 ((eX (kc + 1) cap x).1 8 3 + 1)) 9 ((eX (kc + 1) cap x).1 8 3).toNatClampNeg (a1.toInt8.toInt32)
set_option maxHeartbeats 4000000 in
set_option maxRecDepth 100000 in
theorem t_apC5 {G : gG} {l : Launch} {ad : Nat → Nat} {qb cap kc nn : Nat} {x : SX} {a1 : Int32} (h0 : x.1 8 1 = 0) (h1 : (eX (kc + 1) cap x).1 8 1 = 0) (hcn : (x.1 8 3) + 1 = nI (kc + 1)) (hc : kc + 1 < 2 ^ 26) (hcap : cap < 2 ^ 26) (hfit : sb_Fit (x.1 9)) (hce : f_J1_canEncode_fc78d nn a1 = some 1) (hin : qin ((eX (kc + 1) cap x).1 8 3) (sb_cap (kc + 1) cap) = true) : MetPR PrB G l yJ5_append_3fe6f cJ5_append_3fe6f 2 (some (.object "java/lang/AbstractStringBuilder")) 5 ((sb_cap (kc + 1) cap - cap)) ((2 * (sb_cap (kc + 1) cap - cap))) 160 [.ref (ad 8), .int a1] (wB G ad qb cap x) (fun u => wB G ad (eQ (kc + 1) cap qb u) (sb_cap (kc + 1) cap) (apC kc cap x a1)) (fun _ => ad 8) := by
  refine k_ofPR (by decide) (Nat.le_of_ble_eq_true rfl) ?_
  intro p e s m args below meth c ls A F hr hlk hl hw hZ
  have hx := F.1
  have hb := F.2.1
  have hl : lv_has ls 2 [(0, .ref (ad 8)), (1, .int a1)] := hl
  refine lv_aload_n hx hb dJ5_append_3fe6f_0 rfl (lv_at hl 0 rfl) ?_
  refine lv_aload_n hx hb dJ5_append_3fe6f_1 rfl (lv_at hl 0 rfl) ?_
  refine B_g_3 F ws_in hw fl_J5_79 dJ5_append_3fe6f_2 ?_
  refine lv_iconst (v := 1) hx hb dJ5_append_3fe6f_5 (by decide) ?_
  refine lv_iadd hx hb dJ5_append_3fe6f_6 ?_
  refine k_goU (wl := []) (w1 := (wB G ad qb cap x)) (wr := []) (rest := []) (va_runU (As := [.int ((x.1 8 3) + (1 : Int32))]) (rest := []) F (t_ens h0 hcn hc hcap hfit _) (k_cwU (n := 1) F ws_in ml_J5_100 cu_J5_ensureCapacityInternal_d00df (va_Nw.use rfl hZ.2.2.2.2.1) (by decide) ⟨(Nat.le_of_ble_eq_true rfl), (Nat.le_of_ble_eq_true rfl)⟩) (k_preV (wl := []) (w1 := (wB G ad qb cap x)) (wr := []) prB_ok hw hZ 0 rfl rfl) rfl rfl hl.1 rfl (lv_room (Nat.le_of_ble_eq_true rfl)) dJ5_append_3fe6f_7 ⟨by show 0 + (sb_cap (kc + 1) cap - cap) ≤ (sb_cap (kc + 1) cap - cap); omega, by show 0 + 2 * (sb_cap (kc + 1) cap - cap) ≤ 2 * (sb_cap (kc + 1) cap - cap); omega⟩) hw (fun u H locs hw => ?_)
  have hw : Wd G (wB G ad (eQ (kc + 1) cap qb u) (sb_cap (kc + 1) cap) (eX (kc + 1) cap x)) A s H locs := hw
  refine lv_aload_n hx hb dJ5_append_3fe6f_10 rfl (lv_at hl 0 rfl) ?_
  refine k_goI (wl := []) (w1 := (wB G ad (eQ (kc + 1) cap qb u) (sb_cap (kc + 1) cap) (eX (kc + 1) cap x))) (wr := []) (rest := []) (va_runU (As := []) (rest := []) F (t_lat h1 _) (k_cwU (n := 0) F ws_in ml_J5_83 cu_J5_isLatin1_aae02 (F.2.2.2.2 _ (ws_in _ sel_lat)) (by decide) ⟨(Nat.le_of_ble_eq_true rfl), (Nat.le_of_ble_eq_true rfl)⟩) (k_preV (wl := []) (w1 := (wB G ad (eQ (kc + 1) cap qb u) (sb_cap (kc + 1) cap) (eX (kc + 1) cap x))) (wr := []) prB_ok hw hZ 0 rfl rfl) rfl rfl hl.1 rfl (lv_room (Nat.le_of_ble_eq_true rfl)) dJ5_append_3fe6f_11 ⟨by show 0 + (sb_cap (kc + 1) cap - cap) + 0 ≤ (sb_cap (kc + 1) cap - cap); omega, by show 0 + (2 * (sb_cap (kc + 1) cap - cap)) + 0 ≤ (2 * (sb_cap (kc + 1) cap - cap)); omega⟩) hw (fun H locs hw => ?_)
  have hw : Wd G (wB G ad (eQ (kc + 1) cap qb u) (sb_cap (kc + 1) cap) (eX (kc + 1) cap x)) A s H locs := hw
  refine lv_if_eq (tgt := 45) hx hb dJ5_append_3fe6f_14 rfl (fun c9 => absurd c9 (by decide)) (fun c9 => ?_)
  refine lv_iload_n hx hb dJ5_append_3fe6f_17 rfl (lv_at hl 1 rfl) ?_
  refine k_callPi (rest := []) (As := [.int a1]) F ws_in (t_J1_canEncode_fc78d hce) cs_J1_canEncode_fc78d ml_J5_191 hw rfl hl.1 rfl (Nat.le_of_ble_eq_true rfl) ⟨(Nat.le_of_ble_eq_true rfl), (Nat.le_of_ble_eq_true rfl)⟩ ⟨by show 0 + (sb_cap (kc + 1) cap - cap) + 0 + 0 ≤ (sb_cap (kc + 1) cap - cap); omega, by show 0 + (2 * (sb_cap (kc + 1) cap - cap)) + 0 + 0 ≤ (2 * (sb_cap (kc + 1) cap - cap)); omega⟩ dJ5_append_3fe6f_18 (fun H locs hw => ?_)
  refine lv_if_eq (tgt := 45) hx hb dJ5_append_3fe6f_21 rfl (fun c9 => absurd c9 (by decide)) (fun c9 => ?_)
  refine lv_aload_n hx hb dJ5_append_3fe6f_24 rfl (lv_at hl 0 rfl) ?_
  refine B_g_0 F ws_in hw fl_J5_15 dJ5_append_3fe6f_25 ?_
  refine lv_aload_n hx hb dJ5_append_3fe6f_28 rfl (lv_at hl 0 rfl) ?_
  refine lv_dup hx hb dJ5_append_3fe6f_29 rfl ?_
  refine B_g_3 F ws_in hw fl_J5_79 dJ5_append_3fe6f_30 ?_
  refine lv_dup_x1 hx hb dJ5_append_3fe6f_33 rfl rfl ?_
  refine lv_iconst (v := 1) hx hb dJ5_append_3fe6f_34 (by decide) ?_
  refine lv_iadd hx hb dJ5_append_3fe6f_35 ?_
  refine B_p_3 F ws_in hw fl_J5_79 dJ5_append_3fe6f_36 (fun x1 ex1 H locs hw => ?_)
  refine lv_iload_n hx hb dJ5_append_3fe6f_39 rfl (lv_at hl 1 rfl) ?_
  refine lv_i2b hx hb dJ5_append_3fe6f_40 rfl ?_
  refine B_s F hw hin (pk_vb _) dJ5_append_3fe6f_41 (fun x2 ex2 H locs hw => ?_)
  refine lv_goto (tgt := 75) hx hb dJ5_append_3fe6f_42 rfl ?_
  refine lv_aload_n hx hb dJ5_append_3fe6f_75 rfl (lv_at hl 0 rfl) ?_
  have ex : x2 = apC kc cap x a1 := by rw [ex2, ex1]; rfl
  rw [ex] at hw
  exact k_rret (ra := fun _ => ad 8) F hr (Or.inl ⟨_, rfl⟩) hlk u hw (by show 0 + (sb_cap (kc + 1) cap - cap) + 0 + 0 ≤ (sb_cap (kc + 1) cap - cap); omega) (by show 0 + (2 * (sb_cap (kc + 1) cap - cap)) + 0 + 0 ≤ (2 * (sb_cap (kc + 1) cap - cap)); omega) dJ5_append_3fe6f_76
set_option maxHeartbeats 4000000 in
set_option maxRecDepth 100000 in
theorem t_apC4 {G : gG} {l : Launch} {ad : Nat → Nat} {qb cap kc nn : Nat} {x : SX} {a1 : Int32} (h0 : x.1 8 1 = 0) (h1 : (eX (kc + 1) cap x).1 8 1 = 0) (hcn : (x.1 8 3) + 1 = nI (kc + 1)) (hc : kc + 1 < 2 ^ 26) (hcap : cap < 2 ^ 26) (hfit : sb_Fit (x.1 9)) (hce : f_J1_canEncode_fc78d nn a1 = some 1) (hin : qin ((eX (kc + 1) cap x).1 8 3) (sb_cap (kc + 1) cap) = true) : MetPR PrB G l yJ4_append_cf468 cJ4_append_cf468 2 (some (.object "java/lang/StringBuilder")) 6 ((sb_cap (kc + 1) cap - cap)) ((2 * (sb_cap (kc + 1) cap - cap))) 190 [.ref (ad 8), .int a1] (wB G ad qb cap x) (fun u => wB G ad (eQ (kc + 1) cap qb u) (sb_cap (kc + 1) cap) (apC kc cap x a1)) (fun _ => ad 8) := by
  refine k_ofPR (by decide) (Nat.le_of_ble_eq_true rfl) ?_
  intro p e s m args below meth c ls A F hr hlk hl hw hZ
  have hx := F.1
  have hb := F.2.1
  have hl : lv_has ls 2 [(0, .ref (ad 8)), (1, .int a1)] := hl
  refine lv_aload_n hx hb dJ4_append_cf468_0 rfl (lv_at hl 0 rfl) ?_
  refine lv_iload_n hx hb dJ4_append_cf468_1 rfl (lv_at hl 1 rfl) ?_
  refine k_goR (wl := []) (w1 := (wB G ad qb cap x)) (wr := []) (rest := []) (va_runSU (As := [.int a1]) (rest := []) (hw.1.1 1 _ rfl).2 F (t_apC5 h0 h1 hcn hc hcap hfit hce hin _) (k_cwSU (n := 1) F ws_in ml_J4_50 sup_J4 cu_J5_append_3fe6f (by decide) ⟨(Nat.le_of_ble_eq_true rfl), (Nat.le_of_ble_eq_true rfl)⟩) (k_preV (wl := []) (w1 := (wB G ad qb cap x)) (wr := []) prB_ok hw hZ 0 rfl rfl) rfl rfl hl.1 rfl (lv_room (Nat.le_of_ble_eq_true rfl)) dJ4_append_cf468_2 ⟨by show 0 + (sb_cap (kc + 1) cap - cap) ≤ (sb_cap (kc + 1) cap - cap); omega, by show 0 + (2 * (sb_cap (kc + 1) cap - cap)) ≤ (2 * (sb_cap (kc + 1) cap - cap)); omega⟩) hw (fun u H locs hw => ?_)
  have hw : Wd G (wB G ad (eQ (kc + 1) cap qb u) (sb_cap (kc + 1) cap) (apC kc cap x a1)) A s H locs := hw
  refine lv_pop hx hb dJ4_append_cf468_5 rfl ?_
  refine lv_aload_n hx hb dJ4_append_cf468_6 rfl (lv_at hl 0 rfl) ?_
  exact k_rret (ra := fun _ => ad 8) F hr (Or.inl ⟨_, rfl⟩) hlk u hw (by show 0 + (sb_cap (kc + 1) cap - cap) ≤ (sb_cap (kc + 1) cap - cap); omega) (by show 0 + (2 * (sb_cap (kc + 1) cap - cap)) ≤ (2 * (sb_cap (kc + 1) cap - cap)); omega) dJ4_append_cf468_7
set_option maxHeartbeats 4000000 in
set_option maxRecDepth 100000 in
theorem t_set05 {G : gG} {l : Launch} {ad : Nat → Nat} {qb cap : Nat} {x : SX} (h0 : x.1 8 1 = 0) (hpos : 0 ≤ x.1 8 3) (hz : x.1 8 3 ≤ 0) (hcap : cap < 2 ^ 26) (hfit : sb_Fit (x.1 9)) : MetPU PrB G l yJ5_setLength_d00df cJ5_setLength_d00df 2 none 5 0 0 160 [.ref (ad 8), .int 0] (wB G ad qb cap x) (fun _ => wB G ad qb cap (si x 8 3 0)) := by
  refine k_ofPU (by decide) (Nat.le_of_ble_eq_true rfl) ?_
  intro p e s m args below meth c ls A F hr hlk hl hw hZ
  have hx := F.1
  have hb := F.2.1
  have hl : lv_has ls 2 [(0, .ref (ad 8)), (1, .int 0)] := hl
  have eE : ∀ u, wB G ad (eQ 0 cap qb u) (sb_cap 0 cap) (eX 0 cap x) = wB G ad qb cap x := fun u => by rw [eQ, eX, sb_cap, if_pos (Nat.zero_le _), if_pos (Nat.zero_le _), if_pos (Nat.zero_le _)]
  have e0 : sb_cap 0 cap = cap := by unfold sb_cap; rw [if_pos (Nat.zero_le _)]
  refine lv_iload_n hx hb dJ5_setLength_d00df_0 rfl (lv_at hl 1 rfl) ?_
  refine lv_if_ge (tgt := 13) hx hb dJ5_setLength_d00df_1 rfl (fun c9 => ?_) (fun c9 => absurd (by decide) c9)
  refine lv_aload_n hx hb dJ5_setLength_d00df_13 rfl (lv_at hl 0 rfl) ?_
  refine lv_iload_n hx hb dJ5_setLength_d00df_14 rfl (lv_at hl 1 rfl) ?_
  refine k_goU (wl := []) (w1 := (wB G ad qb cap x)) (wr := []) (rest := []) (va_runU (As := [.int (0 : Int32)]) (rest := []) F (t_ens (m := 0) h0 rfl (by decide) hcap hfit _) (k_cwU (n := 1) F ws_in ml_J5_100 cu_J5_ensureCapacityInternal_d00df (va_Nw.use rfl hZ.2.2.2.2.1) (by decide) ⟨(Nat.le_of_ble_eq_true rfl), (Nat.le_of_ble_eq_true rfl)⟩) (k_preV (wl := []) (w1 := (wB G ad qb cap x)) (wr := []) prB_ok hw hZ 0 rfl rfl) rfl rfl hl.1 rfl (lv_room (Nat.le_of_ble_eq_true rfl)) dJ5_setLength_d00df_15 ⟨by show 0 + (sb_cap 0 cap - cap) ≤ 0; rw [e0]; omega, by show 0 + 2 * (sb_cap 0 cap - cap) ≤ 0; rw [e0]; omega⟩) hw (fun u H locs hw => ?_)
  have hw : Wd G (wB G ad qb cap x) A s H locs := by have h := hw; rw [eE] at h; exact h
  refine lv_aload_n hx hb dJ5_setLength_d00df_18 rfl (lv_at hl 0 rfl) ?_
  refine B_g_3 F ws_in hw fl_J5_79 dJ5_setLength_d00df_19 ?_
  refine lv_iload_n hx hb dJ5_setLength_d00df_22 rfl (lv_at hl 1 rfl) ?_
  refine lv_icmp_ge (tgt := 63) hx hb dJ5_setLength_d00df_23 rfl (fun c9 => ?_) (fun c9 => absurd hpos c9)
  refine lv_aload_n hx hb dJ5_setLength_d00df_63 rfl (lv_at hl 0 rfl) ?_
  refine B_g_3 F ws_in hw fl_J5_79 dJ5_setLength_d00df_64 ?_
  refine lv_iload_n hx hb dJ5_setLength_d00df_67 rfl (lv_at hl 1 rfl) ?_
  refine lv_icmp_le (tgt := 76) hx hb dJ5_setLength_d00df_68 rfl (fun c9 => ?_) (fun c9 => absurd hz c9)
  refine lv_aload_n hx hb dJ5_setLength_d00df_76 rfl (lv_at hl 0 rfl) ?_
  refine lv_iload_n hx hb dJ5_setLength_d00df_77 rfl (lv_at hl 1 rfl) ?_
  refine B_p_3 F ws_in hw fl_J5_79 dJ5_setLength_d00df_78 (fun x1 ex1 H locs hw => ?_)
  subst ex1
  refine W.widen (k := 0) (n := 0) (by show 0 + (sb_cap 0 cap - cap) ≤ 0; rw [e0]; omega) (by show 0 + 2 * (sb_cap 0 cap - cap) ≤ 0; rw [e0]; omega) ?_
  exact k_uret F hr hlk 0 hw (Nat.le_of_ble_eq_true rfl) (Nat.le_of_ble_eq_true rfl) dJ5_setLength_d00df_81
set_option maxHeartbeats 4000000 in
set_option maxRecDepth 100000 in
theorem t_set04 {G : gG} {l : Launch} {ad : Nat → Nat} {qb cap : Nat} {x : SX} (h0 : x.1 8 1 = 0) (hpos : 0 ≤ x.1 8 3) (hz : x.1 8 3 ≤ 0) (hcap : cap < 2 ^ 26) (hfit : sb_Fit (x.1 9)) : MetPU PrB G l yJ4_setLength_d00df cJ4_setLength_d00df 2 none 6 0 0 190 [.ref (ad 8), .int 0] (wB G ad qb cap x) (fun _ => wB G ad qb cap (si x 8 3 0)) := by
  refine k_ofPU (by decide) (Nat.le_of_ble_eq_true rfl) ?_
  intro p e s m args below meth c ls A F hr hlk hl hw hZ
  have hx := F.1
  have hb := F.2.1
  have hl : lv_has ls 2 [(0, .ref (ad 8)), (1, .int 0)] := hl
  refine lv_aload_n hx hb dJ4_setLength_d00df_0 rfl (lv_at hl 0 rfl) ?_
  refine lv_iload_n hx hb dJ4_setLength_d00df_1 rfl (lv_at hl 1 rfl) ?_
  refine k_goU (wl := []) (w1 := (wB G ad qb cap x)) (wr := []) (rest := []) (va_runSU (As := [.int 0]) (rest := []) (hw.1.1 1 _ rfl).2 F (t_set05 h0 hpos hz hcap hfit _) (k_cwSU (n := 1) F ws_in ml_J4_333 sup_J4 cu_J5_setLength_d00df (by decide) ⟨(Nat.le_of_ble_eq_true rfl), (Nat.le_of_ble_eq_true rfl)⟩) (k_preV (wl := []) (w1 := (wB G ad qb cap x)) (wr := []) prB_ok hw hZ 0 rfl rfl) rfl rfl hl.1 rfl (lv_room (Nat.le_of_ble_eq_true rfl)) dJ4_setLength_d00df_2 ⟨(Nat.le_of_ble_eq_true rfl), (Nat.le_of_ble_eq_true rfl)⟩) hw (fun u H locs hw => ?_)
  have hw : Wd G (wB G ad qb cap (si x 8 3 0)) A s H locs := hw
  exact k_uret F hr hlk 0 hw (Nat.le_of_ble_eq_true rfl) (Nat.le_of_ble_eq_true rfl) dJ4_setLength_d00df_5
set_option maxHeartbeats 4000000 in
set_option maxRecDepth 100000 in
theorem t_setP5 {G : gG} {l : Launch} {ad : Nat → Nat} {qb cap : Nat} {x : SX} (h0 : x.1 8 1 = 0) (hpos : 0 ≤ x.1 8 3) (hz : ¬ x.1 8 3 ≤ 0) (hcap : cap < 2 ^ 26) (hfit : sb_Fit (x.1 9)) : MetPU PrB G l yJ5_setLength_d00df cJ5_setLength_d00df 2 none 5 0 0 160 [.ref (ad 8), .int 0] (wB G ad qb cap x) (fun _ => wB G ad qb cap (si (si x 8 2 1) 8 3 0)) := by
  refine k_ofPU (by decide) (Nat.le_of_ble_eq_true rfl) ?_
  intro p e s m args below meth c ls A F hr hlk hl hw hZ
  have hx := F.1
  have hb := F.2.1
  have hl : lv_has ls 2 [(0, .ref (ad 8)), (1, .int 0)] := hl
  have eE : ∀ u, wB G ad (eQ 0 cap qb u) (sb_cap 0 cap) (eX 0 cap x) = wB G ad qb cap x := fun u => by rw [eQ, eX, sb_cap, if_pos (Nat.zero_le _), if_pos (Nat.zero_le _), if_pos (Nat.zero_le _)]
  have e0 : sb_cap 0 cap = cap := by unfold sb_cap; rw [if_pos (Nat.zero_le _)]
  refine lv_iload_n hx hb dJ5_setLength_d00df_0 rfl (lv_at hl 1 rfl) ?_
  refine lv_if_ge (tgt := 13) hx hb dJ5_setLength_d00df_1 rfl (fun c9 => ?_) (fun c9 => absurd (by decide) c9)
  refine lv_aload_n hx hb dJ5_setLength_d00df_13 rfl (lv_at hl 0 rfl) ?_
  refine lv_iload_n hx hb dJ5_setLength_d00df_14 rfl (lv_at hl 1 rfl) ?_
  refine k_goU (wl := []) (w1 := (wB G ad qb cap x)) (wr := []) (rest := []) (va_runU (As := [.int (0 : Int32)]) (rest := []) F (t_ens (m := 0) h0 rfl (by decide) hcap hfit _) (k_cwU (n := 1) F ws_in ml_J5_100 cu_J5_ensureCapacityInternal_d00df (va_Nw.use rfl hZ.2.2.2.2.1) (by decide) ⟨(Nat.le_of_ble_eq_true rfl), (Nat.le_of_ble_eq_true rfl)⟩) (k_preV (wl := []) (w1 := (wB G ad qb cap x)) (wr := []) prB_ok hw hZ 0 rfl rfl) rfl rfl hl.1 rfl (lv_room (Nat.le_of_ble_eq_true rfl)) dJ5_setLength_d00df_15 ⟨by show 0 + (sb_cap 0 cap - cap) ≤ 0; rw [e0]; omega, by show 0 + 2 * (sb_cap 0 cap - cap) ≤ 0; rw [e0]; omega⟩) hw (fun u H locs hw => ?_)
  have hw : Wd G (wB G ad qb cap x) A s H locs := by have h := hw; rw [eE] at h; exact h
  refine lv_aload_n hx hb dJ5_setLength_d00df_18 rfl (lv_at hl 0 rfl) ?_
  refine B_g_3 F ws_in hw fl_J5_79 dJ5_setLength_d00df_19 ?_
  refine lv_iload_n hx hb dJ5_setLength_d00df_22 rfl (lv_at hl 1 rfl) ?_
  refine lv_icmp_ge (tgt := 63) hx hb dJ5_setLength_d00df_23 rfl (fun c9 => ?_) (fun c9 => absurd hpos c9)
  refine lv_aload_n hx hb dJ5_setLength_d00df_63 rfl (lv_at hl 0 rfl) ?_
  refine B_g_3 F ws_in hw fl_J5_79 dJ5_setLength_d00df_64 ?_
  refine lv_iload_n hx hb dJ5_setLength_d00df_67 rfl (lv_at hl 1 rfl) ?_
  refine lv_icmp_le (tgt := 76) hx hb dJ5_setLength_d00df_68 rfl (fun c9 => absurd c9 hz) (fun c9 => ?_)
  refine lv_aload_n hx hb dJ5_setLength_d00df_71 rfl (lv_at hl 0 rfl) ?_
  refine lv_iconst (v := 1) hx hb dJ5_setLength_d00df_72 (by decide) ?_
  refine B_p_2 F ws_in hw fl_J5_73 dJ5_setLength_d00df_73 (fun x0 ex0 H locs hw => ?_)
  refine lv_aload_n hx hb dJ5_setLength_d00df_76 rfl (lv_at hl 0 rfl) ?_
  refine lv_iload_n hx hb dJ5_setLength_d00df_77 rfl (lv_at hl 1 rfl) ?_
  refine B_p_3 F ws_in hw fl_J5_79 dJ5_setLength_d00df_78 (fun x1 ex1 H locs hw => ?_)
  subst ex1; subst ex0
  refine W.widen (k := 0) (n := 0) (by show 0 + (sb_cap 0 cap - cap) ≤ 0; rw [e0]; omega) (by show 0 + 2 * (sb_cap 0 cap - cap) ≤ 0; rw [e0]; omega) ?_
  exact k_uret F hr hlk 0 hw (Nat.le_of_ble_eq_true rfl) (Nat.le_of_ble_eq_true rfl) dJ5_setLength_d00df_81
set_option maxHeartbeats 4000000 in
set_option maxRecDepth 100000 in
theorem t_setP4 {G : gG} {l : Launch} {ad : Nat → Nat} {qb cap : Nat} {x : SX} (h0 : x.1 8 1 = 0) (hpos : 0 ≤ x.1 8 3) (hz : ¬ x.1 8 3 ≤ 0) (hcap : cap < 2 ^ 26) (hfit : sb_Fit (x.1 9)) : MetPU PrB G l yJ4_setLength_d00df cJ4_setLength_d00df 2 none 6 0 0 190 [.ref (ad 8), .int 0] (wB G ad qb cap x) (fun _ => wB G ad qb cap (si (si x 8 2 1) 8 3 0)) := by
  refine k_ofPU (by decide) (Nat.le_of_ble_eq_true rfl) ?_
  intro p e s m args below meth c ls A F hr hlk hl hw hZ
  have hx := F.1
  have hb := F.2.1
  have hl : lv_has ls 2 [(0, .ref (ad 8)), (1, .int 0)] := hl
  refine lv_aload_n hx hb dJ4_setLength_d00df_0 rfl (lv_at hl 0 rfl) ?_
  refine lv_iload_n hx hb dJ4_setLength_d00df_1 rfl (lv_at hl 1 rfl) ?_
  refine k_goU (wl := []) (w1 := (wB G ad qb cap x)) (wr := []) (rest := []) (va_runSU (As := [.int 0]) (rest := []) (hw.1.1 1 _ rfl).2 F (t_setP5 h0 hpos hz hcap hfit _) (k_cwSU (n := 1) F ws_in ml_J4_333 sup_J4 cu_J5_setLength_d00df (by decide) ⟨(Nat.le_of_ble_eq_true rfl), (Nat.le_of_ble_eq_true rfl)⟩) (k_preV (wl := []) (w1 := (wB G ad qb cap x)) (wr := []) prB_ok hw hZ 0 rfl rfl) rfl rfl hl.1 rfl (lv_room (Nat.le_of_ble_eq_true rfl)) dJ4_setLength_d00df_2 ⟨(Nat.le_of_ble_eq_true rfl), (Nat.le_of_ble_eq_true rfl)⟩) hw (fun u H locs hw => ?_)
  have hw : Wd G (wB G ad qb cap (si (si x 8 2 1) 8 3 0)) A s H locs := hw
  exact k_uret F hr hlk 0 hw (Nat.le_of_ble_eq_true rfl) (Nat.le_of_ble_eq_true rfl) dJ4_setLength_d00df_5
