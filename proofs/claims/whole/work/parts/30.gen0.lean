def f_X1_daysIn (n : Nat) (a1 : Int32) (a2 : Int32) : Option (Int32) := (if a2 = (2 : Int32) then (qbd (if (a1 - a1 / (4 : Int32) * (4 : Int32)) = 0 then some (29 : Int32) else some (28 : Int32)) fun v9 => some v9) else (qbd (if a2 = (4 : Int32) then some (30 : Int32) else (if a2 = (6 : Int32) then some (30 : Int32) else (if a2 = (9 : Int32) then some (30 : Int32) else (if a2 = (11 : Int32) then some (30 : Int32) else some (31 : Int32))))) fun v2 => some v2))
set_option maxHeartbeats 4000000 in
set_option maxRecDepth 100000 in
theorem t_X1_daysIn {G : gG} {l : Launch} {n : Nat} {a1 : Int32} {a2 : Int32} {rv : Int32} (hf : f_X1_daysIn n a1 a2 = some rv) : MetI G l yX1_daysIn cX1_daysIn 2 (some .int) 0 0 0 0 [.int a1, .int a2] (([] : va_W)) (([] : va_W)) rv := by
  refine k_ofI (by decide) (Nat.le_of_ble_eq_true rfl) ?_
  intro p e s m args below meth c ls A F hr hlk hl hw
  have hx := F.1
  have hb := F.2.1
  have hl : lv_has ls 2 [(0, .int a1), (1, .int a2)] := hl
  unfold f_X1_daysIn at hf
  refine lv_iload_n hx hb dX1_daysIn_0 rfl (lv_at hl 1 rfl) ?_
  refine lv_iconst (v := 2) hx hb dX1_daysIn_1 (by decide) ?_
  refine lv_icmp_ne (tgt := 19) hx hb dX1_daysIn_2 rfl (fun c1 => ?_) (fun c1 => ?_)
  · have hf := q_f c1 hf
    refine lv_iload_n hx hb dX1_daysIn_19 rfl (lv_at hl 1 rfl) ?_
    refine lv_iconst (v := 4) hx hb dX1_daysIn_20 (by decide) ?_
    obtain ⟨v2, hq8, hf⟩ := qbd_e hf
    have J3 : ∀ (H : Heap) (locs : List Loc) (ls : Array Slot), Wd G (([] : va_W)) A s H locs → lv_has ls 2 [] → W p l e (rmk 0 0 0 0) s m args below meth c H locs 0 0 (KQI G below args s A (([] : va_W)) rv 0 0) (F0 m 49 ls [.int v2]) := by
      intro H locs ls hw hl
      obtain rfl := q_s hf
      exact k_iret F hr hlk hw (Nat.le_of_ble_eq_true rfl) (Nat.le_of_ble_eq_true rfl) dX1_daysIn_49
    have hf := hq8
    refine lv_icmp_eq (tgt := 42) hx hb dX1_daysIn_21 rfl (fun c4 => ?_) (fun c4 => ?_)
    · have hf := q_t c4 hf
      refine lv_bipush (v := 30) hx hb dX1_daysIn_42 (by decide) ?_
      refine lv_goto (tgt := 49) hx hb dX1_daysIn_44 rfl ?_
      obtain rfl := q_s hf
      exact J3 _ _ _ hw (lv_sub hl [] rfl)
    · have hf := q_f c4 hf
      refine lv_iload_n hx hb dX1_daysIn_24 rfl (lv_at hl 1 rfl) ?_
      refine lv_bipush (v := 6) hx hb dX1_daysIn_25 (by decide) ?_
      refine lv_icmp_eq (tgt := 42) hx hb dX1_daysIn_27 rfl (fun c5 => ?_) (fun c5 => ?_)
      · have hf := q_t c5 hf
        refine lv_bipush (v := 30) hx hb dX1_daysIn_42 (by decide) ?_
        refine lv_goto (tgt := 49) hx hb dX1_daysIn_44 rfl ?_
        obtain rfl := q_s hf
        exact J3 _ _ _ hw (lv_sub hl [] rfl)
      · have hf := q_f c5 hf
        refine lv_iload_n hx hb dX1_daysIn_30 rfl (lv_at hl 1 rfl) ?_
        refine lv_bipush (v := 9) hx hb dX1_daysIn_31 (by decide) ?_
        refine lv_icmp_eq (tgt := 42) hx hb dX1_daysIn_33 rfl (fun c6 => ?_) (fun c6 => ?_)
        · have hf := q_t c6 hf
          refine lv_bipush (v := 30) hx hb dX1_daysIn_42 (by decide) ?_
          refine lv_goto (tgt := 49) hx hb dX1_daysIn_44 rfl ?_
          obtain rfl := q_s hf
          exact J3 _ _ _ hw (lv_sub hl [] rfl)
        · have hf := q_f c6 hf
          refine lv_iload_n hx hb dX1_daysIn_36 rfl (lv_at hl 1 rfl) ?_
          refine lv_bipush (v := 11) hx hb dX1_daysIn_37 (by decide) ?_
          refine lv_icmp_ne (tgt := 47) hx hb dX1_daysIn_39 rfl (fun c7 => ?_) (fun c7 => ?_)
          · have hf := q_f c7 hf
            refine lv_bipush (v := 31) hx hb dX1_daysIn_47 (by decide) ?_
            obtain rfl := q_s hf
            exact J3 _ _ _ hw (lv_sub hl [] rfl)
          · have hf := q_t c7 hf
            refine lv_bipush (v := 30) hx hb dX1_daysIn_42 (by decide) ?_
            refine lv_goto (tgt := 49) hx hb dX1_daysIn_44 rfl ?_
            obtain rfl := q_s hf
            exact J3 _ _ _ hw (lv_sub hl [] rfl)
  · have hf := q_t c1 hf
    refine lv_iload_n hx hb dX1_daysIn_5 rfl (lv_at hl 0 rfl) ?_
    refine lv_iconst (v := 4) hx hb dX1_daysIn_6 (by decide) ?_
    refine lv_irem hx hb dX1_daysIn_7 (by decide) ?_
    obtain ⟨v9, hq12, hf⟩ := qbd_e hf
    have J10 : ∀ (H : Heap) (locs : List Loc) (ls : Array Slot), Wd G (([] : va_W)) A s H locs → lv_has ls 2 [] → W p l e (rmk 0 0 0 0) s m args below meth c H locs 0 0 (KQI G below args s A (([] : va_W)) rv 0 0) (F0 m 18 ls [.int v9]) := by
      intro H locs ls hw hl
      obtain rfl := q_s hf
      exact k_iret F hr hlk hw (Nat.le_of_ble_eq_true rfl) (Nat.le_of_ble_eq_true rfl) dX1_daysIn_18
    have hf := hq12
    refine lv_if_ne (tgt := 16) hx hb dX1_daysIn_8 rfl (fun c11 => ?_) (fun c11 => ?_)
    · have hf := q_f c11 hf
      refine lv_bipush (v := 28) hx hb dX1_daysIn_16 (by decide) ?_
      obtain rfl := q_s hf
      exact J10 _ _ _ hw (lv_sub hl [] rfl)
    · have hf := q_t c11 hf
      refine lv_bipush (v := 29) hx hb dX1_daysIn_11 (by decide) ?_
      refine lv_goto (tgt := 18) hx hb dX1_daysIn_13 rfl ?_
      obtain rfl := q_s hf
      exact J10 _ _ _ hw (lv_sub hl [] rfl)
def f_X1_exists (n : Nat) (a1 : Int32) (a2 : Int32) (a3 : Int32) : Option (Int32) := (qbd (if a1 < (2000 : Int32) then some (0 : Int32) else (if (2099 : Int32) < a1 then some (0 : Int32) else (if a2 < (1 : Int32) then some (0 : Int32) else (if (12 : Int32) < a2 then some (0 : Int32) else (if a3 < (1 : Int32) then some (0 : Int32) else (qbd (f_X1_daysIn n a1 a2) fun r9 => (if r9 < a3 then some (0 : Int32) else some (1 : Int32)))))))) fun v1 => (qgd (qz v1) (some v1)))
set_option maxHeartbeats 4000000 in
set_option maxRecDepth 100000 in
theorem t_X1_exists {G : gG} {l : Launch} {n : Nat} {a1 : Int32} {a2 : Int32} {a3 : Int32} {rv : Int32} (hf : f_X1_exists n a1 a2 a3 = some rv) : MetI G l yX1_exists cX1_exists 3 (some .boolean) 1 0 0 21 [.int a1, .int a2, .int a3] (([] : va_W)) (([] : va_W)) rv := by
  refine k_ofI (by decide) (Nat.le_of_ble_eq_true rfl) ?_
  intro p e s m args below meth c ls A F hr hlk hl hw
  have hx := F.1
  have hb := F.2.1
  have hl : lv_has ls 3 [(0, .int a1), (1, .int a2), (2, .int a3)] := hl
  unfold f_X1_exists at hf
  refine lv_iload_n hx hb dX1_exists_0 rfl (lv_at hl 0 rfl) ?_
  refine lv_sipush (v := 2000) hx hb dX1_exists_1 (by decide) ?_
  obtain ⟨v1, hq12, hf⟩ := qbd_e hf
  have J2 : ∀ (H : Heap) (locs : List Loc) (ls : Array Slot), Wd G (([] : va_W)) A s H locs → lv_has ls 3 [] → W p l e (rmk 1 0 0 21) s m args below meth c H locs 0 0 (KQI G below args s A (([] : va_W)) rv 0 0) (F0 m 44 ls [.int v1]) := by
    intro H locs ls hw hl
    obtain ⟨g3, hf⟩ := qgd_e hf
    obtain rfl := q_s hf
    exact k_zret F hr hlk hw (qz_n g3) (Nat.le_of_ble_eq_true rfl) (Nat.le_of_ble_eq_true rfl) dX1_exists_44
  have hf := hq12
  refine lv_icmp_lt (tgt := 43) hx hb dX1_exists_4 rfl (fun c4 => ?_) (fun c4 => ?_)
  · have hf := q_t c4 hf
    refine lv_iconst (v := 0) hx hb dX1_exists_43 (by decide) ?_
    obtain rfl := q_s hf
    exact J2 _ _ _ hw (lv_sub hl [] rfl)
  · have hf := q_f c4 hf
    refine lv_iload_n hx hb dX1_exists_7 rfl (lv_at hl 0 rfl) ?_
    refine lv_sipush (v := 2099) hx hb dX1_exists_8 (by decide) ?_
    refine lv_icmp_gt (tgt := 43) hx hb dX1_exists_11 rfl (fun c5 => ?_) (fun c5 => ?_)
    · have hf := q_t c5 hf
      refine lv_iconst (v := 0) hx hb dX1_exists_43 (by decide) ?_
      obtain rfl := q_s hf
      exact J2 _ _ _ hw (lv_sub hl [] rfl)
    · have hf := q_f c5 hf
      refine lv_iload_n hx hb dX1_exists_14 rfl (lv_at hl 1 rfl) ?_
      refine lv_iconst (v := 1) hx hb dX1_exists_15 (by decide) ?_
      refine lv_icmp_lt (tgt := 43) hx hb dX1_exists_16 rfl (fun c6 => ?_) (fun c6 => ?_)
      · have hf := q_t c6 hf
        refine lv_iconst (v := 0) hx hb dX1_exists_43 (by decide) ?_
        obtain rfl := q_s hf
        exact J2 _ _ _ hw (lv_sub hl [] rfl)
      · have hf := q_f c6 hf
        refine lv_iload_n hx hb dX1_exists_19 rfl (lv_at hl 1 rfl) ?_
        refine lv_bipush (v := 12) hx hb dX1_exists_20 (by decide) ?_
        refine lv_icmp_gt (tgt := 43) hx hb dX1_exists_22 rfl (fun c7 => ?_) (fun c7 => ?_)
        · have hf := q_t c7 hf
          refine lv_iconst (v := 0) hx hb dX1_exists_43 (by decide) ?_
          obtain rfl := q_s hf
          exact J2 _ _ _ hw (lv_sub hl [] rfl)
        · have hf := q_f c7 hf
          refine lv_iload_n hx hb dX1_exists_25 rfl (lv_at hl 2 rfl) ?_
          refine lv_iconst (v := 1) hx hb dX1_exists_26 (by decide) ?_
          refine lv_icmp_lt (tgt := 43) hx hb dX1_exists_27 rfl (fun c8 => ?_) (fun c8 => ?_)
          · have hf := q_t c8 hf
            refine lv_iconst (v := 0) hx hb dX1_exists_43 (by decide) ?_
            obtain rfl := q_s hf
            exact J2 _ _ _ hw (lv_sub hl [] rfl)
          · have hf := q_f c8 hf
            refine lv_iload_n hx hb dX1_exists_30 rfl (lv_at hl 2 rfl) ?_
            refine lv_iload_n hx hb dX1_exists_31 rfl (lv_at hl 0 rfl) ?_
            refine lv_iload_n hx hb dX1_exists_32 rfl (lv_at hl 1 rfl) ?_
            obtain ⟨r9, h10, hf⟩ := qbd_e hf
            refine k_callPi (rest := [.int a3]) (As := [.int a1, .int a2]) F ws_in (t_X1_daysIn h10) cs_X1_daysIn ml_X1_9 hw rfl hl.1 rfl (Nat.le_of_ble_eq_true rfl) ⟨Nat.le_of_ble_eq_true rfl, Nat.le_of_ble_eq_true rfl⟩ ⟨Nat.le_of_ble_eq_true rfl, Nat.le_of_ble_eq_true rfl⟩ dX1_exists_33 (fun H locs hw => ?_)
            refine lv_icmp_gt (tgt := 43) hx hb dX1_exists_36 rfl (fun c11 => ?_) (fun c11 => ?_)
            · have hf := q_t c11 hf
              refine lv_iconst (v := 0) hx hb dX1_exists_43 (by decide) ?_
              obtain rfl := q_s hf
              exact J2 _ _ _ hw (lv_sub hl [] rfl)
            · have hf := q_f c11 hf
              refine lv_iconst (v := 1) hx hb dX1_exists_39 (by decide) ?_
              refine lv_goto (tgt := 44) hx hb dX1_exists_40 rfl ?_
              obtain rfl := q_s hf
              exact J2 _ _ _ hw (lv_sub hl [] rfl)
def f_X1_daysBefore (n : Nat) (a1 : Int32) (a2 : Int32) : Option (Int32) := (qnm ((((367 : Int32) * a2) - (362 : Int32)) / (12 : Int32)) fun v1 => (if (2 : Int32) < a2 then (qbd (if (a1 - a1 / (4 : Int32) * (4 : Int32)) = 0 then some (1 : Int32) else some (2 : Int32)) fun v3 => some (v1 - v3)) else some v1))
set_option maxHeartbeats 4000000 in
set_option maxRecDepth 100000 in
theorem t_X1_daysBefore {G : gG} {l : Launch} {n : Nat} {a1 : Int32} {a2 : Int32} {rv : Int32} (hf : f_X1_daysBefore n a1 a2 = some rv) : MetI G l yX1_daysBefore cX1_daysBefore 3 (some .int) 0 0 0 0 [.int a1, .int a2] (([] : va_W)) (([] : va_W)) rv := by
  refine k_ofI (by decide) (Nat.le_of_ble_eq_true rfl) ?_
  intro p e s m args below meth c ls A F hr hlk hl hw
  have hx := F.1
  have hb := F.2.1
  have hl : lv_has ls 3 [(0, .int a1), (1, .int a2)] := hl
  unfold f_X1_daysBefore at hf
  refine lv_sipush (v := 367) hx hb dX1_daysBefore_0 (by decide) ?_
  refine lv_iload_n hx hb dX1_daysBefore_3 rfl (lv_at hl 1 rfl) ?_
  refine lv_imul hx hb dX1_daysBefore_4 ?_
  refine lv_sipush (v := 362) hx hb dX1_daysBefore_5 (by decide) ?_
  refine lv_isub hx hb dX1_daysBefore_8 ?_
  refine lv_bipush (v := 12) hx hb dX1_daysBefore_9 (by decide) ?_
  refine lv_idiv hx hb dX1_daysBefore_11 (by decide) ?_
  refine lv_topi (fun v1 ev1 => ?_)
  have hf := qnm_k ev1 hf
  refine lv_istore_n (lv' := [(2, .int v1), (0, .int a1), (1, .int a2)]) hx hb dX1_daysBefore_12 rfl hl (Nat.le_of_ble_eq_true rfl) rfl (fun ls hl => ?_)
  refine lv_iload_n hx hb dX1_daysBefore_13 rfl (lv_at hl 2 rfl) ?_
  refine lv_iconst (v := 2) hx hb dX1_daysBefore_14 (by decide) ?_
  refine lv_icmp_gt (tgt := 20) hx hb dX1_daysBefore_15 rfl (fun c2 => ?_) (fun c2 => ?_)
  · have hf := q_t c2 hf
    refine lv_iload_n hx hb dX1_daysBefore_20 rfl (lv_at hl 0 rfl) ?_
    refine lv_iload_n hx hb dX1_daysBefore_21 rfl (lv_at hl 1 rfl) ?_
    refine lv_iconst (v := 4) hx hb dX1_daysBefore_22 (by decide) ?_
    refine lv_irem hx hb dX1_daysBefore_23 (by decide) ?_
    obtain ⟨v3, hq6, hf⟩ := qbd_e hf
    have J4 : ∀ (H : Heap) (locs : List Loc) (ls : Array Slot), Wd G (([] : va_W)) A s H locs → lv_has ls 3 [] → W p l e (rmk 0 0 0 0) s m args below meth c H locs 0 0 (KQI G below args s A (([] : va_W)) rv 0 0) (F0 m 32 ls [.int v3, .int v1]) := by
      intro H locs ls hw hl
      refine lv_isub hx hb dX1_daysBefore_32 ?_
      obtain rfl := q_s hf
      exact k_iret F hr hlk hw (Nat.le_of_ble_eq_true rfl) (Nat.le_of_ble_eq_true rfl) dX1_daysBefore_33
    have hf := hq6
    refine lv_if_ne (tgt := 31) hx hb dX1_daysBefore_24 rfl (fun c5 => ?_) (fun c5 => ?_)
    · have hf := q_f c5 hf
      refine lv_iconst (v := 2) hx hb dX1_daysBefore_31 (by decide) ?_
      obtain rfl := q_s hf
      exact J4 _ _ _ hw (lv_sub hl [] rfl)
    · have hf := q_t c5 hf
      refine lv_iconst (v := 1) hx hb dX1_daysBefore_27 (by decide) ?_
      refine lv_goto (tgt := 32) hx hb dX1_daysBefore_28 rfl ?_
      obtain rfl := q_s hf
      exact J4 _ _ _ hw (lv_sub hl [] rfl)
  · have hf := q_f c2 hf
    refine lv_iload_n hx hb dX1_daysBefore_18 rfl (lv_at hl 0 rfl) ?_
    obtain rfl := q_s hf
    exact k_iret F hr hlk hw (Nat.le_of_ble_eq_true rfl) (Nat.le_of_ble_eq_true rfl) dX1_daysBefore_19
def f_X1_yearStart (n : Nat) (a1 : Int32) : Option (Int32) := (qnm (a1 - (2000 : Int32)) fun v1 => some (((365 : Int32) * v1) + ((v1 + (3 : Int32)) / (4 : Int32))))
set_option maxHeartbeats 4000000 in
set_option maxRecDepth 100000 in
theorem t_X1_yearStart {G : gG} {l : Launch} {n : Nat} {a1 : Int32} {rv : Int32} (hf : f_X1_yearStart n a1 = some rv) : MetI G l yX1_yearStart cX1_yearStart 2 (some .int) 0 0 0 0 [.int a1] (([] : va_W)) (([] : va_W)) rv := by
  refine k_ofI (by decide) (Nat.le_of_ble_eq_true rfl) ?_
  intro p e s m args below meth c ls A F hr hlk hl hw
  have hx := F.1
  have hb := F.2.1
  have hl : lv_has ls 2 [(0, .int a1)] := hl
  unfold f_X1_yearStart at hf
  refine lv_iload_n hx hb dX1_yearStart_0 rfl (lv_at hl 0 rfl) ?_
  refine lv_sipush (v := 2000) hx hb dX1_yearStart_1 (by decide) ?_
  refine lv_isub hx hb dX1_yearStart_4 ?_
  refine lv_topi (fun v1 ev1 => ?_)
  have hf := qnm_k ev1 hf
  refine lv_istore_n (lv' := [(1, .int v1), (0, .int a1)]) hx hb dX1_yearStart_5 rfl hl (Nat.le_of_ble_eq_true rfl) rfl (fun ls hl => ?_)
  refine lv_sipush (v := 365) hx hb dX1_yearStart_6 (by decide) ?_
  refine lv_iload_n hx hb dX1_yearStart_9 rfl (lv_at hl 0 rfl) ?_
  refine lv_imul hx hb dX1_yearStart_10 ?_
  refine lv_iload_n hx hb dX1_yearStart_11 rfl (lv_at hl 0 rfl) ?_
  refine lv_iconst (v := 3) hx hb dX1_yearStart_12 (by decide) ?_
  refine lv_iadd hx hb dX1_yearStart_13 ?_
  refine lv_iconst (v := 4) hx hb dX1_yearStart_14 (by decide) ?_
  refine lv_idiv hx hb dX1_yearStart_15 (by decide) ?_
  refine lv_iadd hx hb dX1_yearStart_16 ?_
  obtain rfl := q_s hf
  exact k_iret F hr hlk hw (Nat.le_of_ble_eq_true rfl) (Nat.le_of_ble_eq_true rfl) dX1_yearStart_17
def f_X1_numberOf (n : Nat) (a1 : Int32) (a2 : Int32) (a3 : Int32) : Option (Int32) := (qbd (f_X1_yearStart n a1) fun r1 => (qbd (f_X1_daysBefore n a1 a2) fun r3 => some (((r1 + r3) + a3) - (1 : Int32))))
set_option maxHeartbeats 4000000 in
set_option maxRecDepth 100000 in
theorem t_X1_numberOf {G : gG} {l : Launch} {n : Nat} {a1 : Int32} {a2 : Int32} {a3 : Int32} {rv : Int32} (hf : f_X1_numberOf n a1 a2 a3 = some rv) : MetI G l yX1_numberOf cX1_numberOf 3 (some .int) 1 0 0 22 [.int a1, .int a2, .int a3] (([] : va_W)) (([] : va_W)) rv := by
  refine k_ofI (by decide) (Nat.le_of_ble_eq_true rfl) ?_
  intro p e s m args below meth c ls A F hr hlk hl hw
  have hx := F.1
  have hb := F.2.1
  have hl : lv_has ls 3 [(0, .int a1), (1, .int a2), (2, .int a3)] := hl
  unfold f_X1_numberOf at hf
  refine lv_iload_n hx hb dX1_numberOf_0 rfl (lv_at hl 0 rfl) ?_
  obtain ⟨r1, h2, hf⟩ := qbd_e hf
  refine k_callPi (rest := []) (As := [.int a1]) F ws_in (t_X1_yearStart h2) cs_X1_yearStart ml_X1_13 hw rfl hl.1 rfl (Nat.le_of_ble_eq_true rfl) ⟨Nat.le_of_ble_eq_true rfl, Nat.le_of_ble_eq_true rfl⟩ ⟨Nat.le_of_ble_eq_true rfl, Nat.le_of_ble_eq_true rfl⟩ dX1_numberOf_1 (fun H locs hw => ?_)
  refine lv_iload_n hx hb dX1_numberOf_4 rfl (lv_at hl 0 rfl) ?_
  refine lv_iload_n hx hb dX1_numberOf_5 rfl (lv_at hl 1 rfl) ?_
  obtain ⟨r3, h4, hf⟩ := qbd_e hf
  refine k_callPi (rest := [.int r1]) (As := [.int a1, .int a2]) F ws_in (t_X1_daysBefore h4) cs_X1_daysBefore ml_X1_17 hw rfl hl.1 rfl (Nat.le_of_ble_eq_true rfl) ⟨Nat.le_of_ble_eq_true rfl, Nat.le_of_ble_eq_true rfl⟩ ⟨Nat.le_of_ble_eq_true rfl, Nat.le_of_ble_eq_true rfl⟩ dX1_numberOf_6 (fun H locs hw => ?_)
  refine lv_iadd hx hb dX1_numberOf_9 ?_
  refine lv_iload_n hx hb dX1_numberOf_10 rfl (lv_at hl 2 rfl) ?_
  refine lv_iadd hx hb dX1_numberOf_11 ?_
  refine lv_iconst (v := 1) hx hb dX1_numberOf_12 (by decide) ?_
  refine lv_isub hx hb dX1_numberOf_13 ?_
  obtain rfl := q_s hf
  exact k_iret F hr hlk hw (Nat.le_of_ble_eq_true rfl) (Nat.le_of_ble_eq_true rfl) dX1_numberOf_14
def f_X1_numberByAdding_l34 (v6 : Int32) (v3 : Int32) (kb9 : Int32 → Int32 → Option (Int32)) (n : Nat) : Nat → Int32 → Int32 → Option (Int32)
  | 0, _, _ => none
  | m + 1, v8, v9 => (if v6 < v9 then (qnm (v3 + (1 : Int32)) fun v12 => kb9 v8 v12) else (qbd (f_X1_daysIn n v3 v9) fun r13 => (qnm (v8 + r13) fun v15 => (qnm (v9 + (1 : Int32)) fun v16 => (f_X1_numberByAdding_l34 v6 v3 kb9 n m) v15 v16))))
def f_X1_numberByAdding_l9 (a1 : Int32) (a2 : Int32) (n : Nat) : Nat → Int32 → Int32 → Option (Int32)
  | 0, _, _ => none
  | m + 1, v2, v3 => (if a1 < v3 then some v2 else (qbd (if a1 ≤ v3 then some (a2 - (1 : Int32)) else some (12 : Int32)) fun v6 => f_X1_numberByAdding_l34 v6 v3 (f_X1_numberByAdding_l9 a1 a2 n m) n n v2 (1 : Int32)))
def f_X1_numberByAdding (n : Nat) (a1 : Int32) (a2 : Int32) (a3 : Int32) : Option (Int32) := (qnm (a3 - (1 : Int32)) fun v1 => f_X1_numberByAdding_l9 a1 a2 n n v1 (2000 : Int32))
set_option maxHeartbeats 4000000 in
set_option maxRecDepth 100000 in
theorem t_X1_numberByAdding {G : gG} {l : Launch} {n : Nat} {a1 : Int32} {a2 : Int32} {a3 : Int32} {rv : Int32} (hf : f_X1_numberByAdding n a1 a2 a3 = some rv) : MetI G l yX1_numberByAdding cX1_numberByAdding 7 (some .int) 1 0 0 21 [.int a1, .int a2, .int a3] (([] : va_W)) (([] : va_W)) rv := by
  refine k_ofI (by decide) (Nat.le_of_ble_eq_true rfl) ?_
  intro p e s m args below meth c ls A F hr hlk hl hw
  have hx := F.1
  have hb := F.2.1
  have hl : lv_has ls 7 [(0, .int a1), (1, .int a2), (2, .int a3)] := hl
  unfold f_X1_numberByAdding at hf
  refine lv_iload_n hx hb dX1_numberByAdding_0 rfl (lv_at hl 2 rfl) ?_
  refine lv_iconst (v := 1) hx hb dX1_numberByAdding_1 (by decide) ?_
  refine lv_isub hx hb dX1_numberByAdding_2 ?_
  refine lv_topi (fun v1 ev1 => ?_)
  have hf := qnm_k ev1 hf
  refine lv_istore_n (lv' := [(3, .int v1), (0, .int a1), (1, .int a2), (2, .int a3)]) hx hb dX1_numberByAdding_3 rfl hl (Nat.le_of_ble_eq_true rfl) rfl (fun ls hl => ?_)
  refine lv_sipush (v := 2000) hx hb dX1_numberByAdding_4 (by decide) ?_
  refine lv_istore (lv' := [(4, .int (2000 : Int32)), (3, .int v1), (0, .int a1), (1, .int a2), (2, .int a3)]) hx hb dX1_numberByAdding_7 hl (Nat.le_of_ble_eq_true rfl) rfl (fun ls hl => ?_)
  have L4 : ∀ (m0 : Nat) (v2 : Int32) (v3 : Int32) (H : Heap) (locs : List Loc) (ls : Array Slot), Wd G (([] : va_W)) A s H locs → lv_has ls 7 [(0, .int a1), (1, .int a2), (3, .int v2), (4, .int v3)] → f_X1_numberByAdding_l9 a1 a2 n m0 v2 v3 = some rv → W p l e (rmk 1 0 0 21) s m args below meth c H locs 0 0 (KQI G below args s A (([] : va_W)) rv 0 0) (F0 m 9 ls []) := by
    intro m0
    induction m0 with
    | zero => intro v2 v3 H locs ls hw hl hf; cases hf
    | succ mL4 ih4 =>
      intro v2 v3 H locs ls hw hl hf
      unfold f_X1_numberByAdding_l9 at hf
      refine lv_iload hx hb dX1_numberByAdding_9 (lv_at hl 3 rfl) ?_
      refine lv_iload_n hx hb dX1_numberByAdding_11 rfl (lv_at hl 0 rfl) ?_
      refine lv_icmp_gt (tgt := 63) hx hb dX1_numberByAdding_12 rfl (fun c5 => ?_) (fun c5 => ?_)
      · have hf := q_t c5 hf
        refine lv_iload_n hx hb dX1_numberByAdding_63 rfl (lv_at hl 2 rfl) ?_
        obtain rfl := q_s hf
        exact k_iret F hr hlk hw (Nat.le_of_ble_eq_true rfl) (Nat.le_of_ble_eq_true rfl) dX1_numberByAdding_64
      · have hf := q_f c5 hf
        refine lv_iload hx hb dX1_numberByAdding_15 (lv_at hl 3 rfl) ?_
        refine lv_iload_n hx hb dX1_numberByAdding_17 rfl (lv_at hl 0 rfl) ?_
        obtain ⟨v6, hq18, hf⟩ := qbd_e hf
        have J7 : ∀ (H : Heap) (locs : List Loc) (ls : Array Slot), Wd G (([] : va_W)) A s H locs → lv_has ls 7 [(0, .int a1), (1, .int a2), (3, .int v2), (4, .int v3)] → W p l e (rmk 1 0 0 21) s m args below meth c H locs 0 0 (KQI G below args s A (([] : va_W)) rv 0 0) (F0 m 29 ls [.int v6]) := by
          intro H locs ls hw hl
          refine lv_istore (lv' := [(5, .int v6), (0, .int a1), (1, .int a2), (3, .int v2), (4, .int v3)]) hx hb dX1_numberByAdding_29 hl (Nat.le_of_ble_eq_true rfl) rfl (fun ls hl => ?_)
          refine lv_iconst (v := 1) hx hb dX1_numberByAdding_31 (by decide) ?_
          refine lv_istore (lv' := [(6, .int (1 : Int32)), (5, .int v6), (0, .int a1), (1, .int a2), (3, .int v2), (4, .int v3)]) hx hb dX1_numberByAdding_32 hl (Nat.le_of_ble_eq_true rfl) rfl (fun ls hl => ?_)
          have L10 : ∀ (m0 : Nat) (v8 : Int32) (v9 : Int32) (H : Heap) (locs : List Loc) (ls : Array Slot), Wd G (([] : va_W)) A s H locs → lv_has ls 7 [(0, .int a1), (1, .int a2), (3, .int v8), (4, .int v3), (5, .int v6), (6, .int v9)] → f_X1_numberByAdding_l34 v6 v3 (f_X1_numberByAdding_l9 a1 a2 n mL4) n m0 v8 v9 = some rv → W p l e (rmk 1 0 0 21) s m args below meth c H locs 0 0 (KQI G below args s A (([] : va_W)) rv 0 0) (F0 m 34 ls []) := by
            intro m0
            induction m0 with
            | zero => intro v8 v9 H locs ls hw hl hf; cases hf
            | succ mL10 ih10 =>
              intro v8 v9 H locs ls hw hl hf
              unfold f_X1_numberByAdding_l34 at hf
              refine lv_iload hx hb dX1_numberByAdding_34 (lv_at hl 5 rfl) ?_
              refine lv_iload hx hb dX1_numberByAdding_36 (lv_at hl 4 rfl) ?_
              refine lv_icmp_gt (tgt := 57) hx hb dX1_numberByAdding_38 rfl (fun c11 => ?_) (fun c11 => ?_)
              · have hf := q_t c11 hf
                obtain ⟨v12, ev12⟩ : ∃ y : Int32, y = v3 + (1 : Int32) := ⟨_, rfl⟩
                refine lv_iinc (v := v12) (lv' := [(4, .int v12), (0, .int a1), (1, .int a2), (3, .int v8), (5, .int v6), (6, .int v9)]) hx hb dX1_numberByAdding_57 hl (k := 3) rfl (by rw [ev12]; rfl) (Nat.le_of_ble_eq_true rfl) rfl (fun ls hl => ?_)
                have hf := qnm_k ev12 hf
                refine lv_goto (tgt := 9) hx hb dX1_numberByAdding_60 rfl ?_
                exact ih4 v8 v12 _ _ _ hw (lv_sub hl [1, 2, 3, 0] rfl) hf
              · have hf := q_f c11 hf
                refine lv_iload_n hx hb dX1_numberByAdding_41 rfl (lv_at hl 2 rfl) ?_
                refine lv_iload hx hb dX1_numberByAdding_42 (lv_at hl 3 rfl) ?_
                refine lv_iload hx hb dX1_numberByAdding_44 (lv_at hl 5 rfl) ?_
                obtain ⟨r13, h14, hf⟩ := qbd_e hf
                refine k_callPi (rest := [.int v8]) (As := [.int v3, .int v9]) F ws_in (t_X1_daysIn h14) cs_X1_daysIn ml_X1_9 hw rfl hl.1 rfl (Nat.le_of_ble_eq_true rfl) ⟨Nat.le_of_ble_eq_true rfl, Nat.le_of_ble_eq_true rfl⟩ ⟨Nat.le_of_ble_eq_true rfl, Nat.le_of_ble_eq_true rfl⟩ dX1_numberByAdding_46 (fun H locs hw => ?_)
                refine lv_iadd hx hb dX1_numberByAdding_49 ?_
                refine lv_topi (fun v15 ev15 => ?_)
                have hf := qnm_k ev15 hf
                refine lv_istore_n (lv' := [(3, .int v15), (0, .int a1), (1, .int a2), (4, .int v3), (5, .int v6), (6, .int v9)]) hx hb dX1_numberByAdding_50 rfl hl (Nat.le_of_ble_eq_true rfl) rfl (fun ls hl => ?_)
                obtain ⟨v16, ev16⟩ : ∃ y : Int32, y = v9 + (1 : Int32) := ⟨_, rfl⟩
                refine lv_iinc (v := v16) (lv' := [(6, .int v16), (3, .int v15), (0, .int a1), (1, .int a2), (4, .int v3), (5, .int v6)]) hx hb dX1_numberByAdding_51 hl (k := 5) rfl (by rw [ev16]; rfl) (Nat.le_of_ble_eq_true rfl) rfl (fun ls hl => ?_)
                have hf := qnm_k ev16 hf
                refine lv_goto (tgt := 34) hx hb dX1_numberByAdding_54 rfl ?_
                exact ih10 v15 v16 _ _ _ hw (lv_sub hl [2, 3, 1, 4, 5, 0] rfl) hf
          exact L10 n v2 (1 : Int32) _ _ _ hw (lv_sub hl [2, 3, 4, 5, 1, 0] rfl) hf
        have hf := hq18
        refine lv_icmp_ge (tgt := 26) hx hb dX1_numberByAdding_18 rfl (fun c17 => ?_) (fun c17 => ?_)
        · have hf := q_t c17 hf
          refine lv_iload_n hx hb dX1_numberByAdding_26 rfl (lv_at hl 1 rfl) ?_
          refine lv_iconst (v := 1) hx hb dX1_numberByAdding_27 (by decide) ?_
          refine lv_isub hx hb dX1_numberByAdding_28 ?_
          obtain rfl := q_s hf
          exact J7 _ _ _ hw (lv_sub hl [0, 1, 2, 3] rfl)
        · have hf := q_f c17 hf
          refine lv_bipush (v := 12) hx hb dX1_numberByAdding_21 (by decide) ?_
          refine lv_goto (tgt := 29) hx hb dX1_numberByAdding_23 rfl ?_
          obtain rfl := q_s hf
          exact J7 _ _ _ hw (lv_sub hl [0, 1, 2, 3] rfl)
  exact L4 n v1 (2000 : Int32) _ _ _ hw (lv_sub hl [2, 3, 1, 0] rfl) hf
def f_X1_yearAt (n : Nat) (a1 : Int32) : Option (Int32) := (qnm (a1 - a1 / (1461 : Int32) * (1461 : Int32)) fun v1 => (qbd (if (366 : Int32) ≤ v1 then some ((1 : Int32) + ((v1 - (366 : Int32)) / (365 : Int32))) else some (0 : Int32)) fun v2 => some (((2000 : Int32) + ((4 : Int32) * (a1 / (1461 : Int32)))) + v2)))
set_option maxHeartbeats 4000000 in
set_option maxRecDepth 100000 in
theorem t_X1_yearAt {G : gG} {l : Launch} {n : Nat} {a1 : Int32} {rv : Int32} (hf : f_X1_yearAt n a1 = some rv) : MetI G l yX1_yearAt cX1_yearAt 3 (some .int) 0 0 0 0 [.int a1] (([] : va_W)) (([] : va_W)) rv := by
  refine k_ofI (by decide) (Nat.le_of_ble_eq_true rfl) ?_
  intro p e s m args below meth c ls A F hr hlk hl hw
  have hx := F.1
  have hb := F.2.1
  have hl : lv_has ls 3 [(0, .int a1)] := hl
  unfold f_X1_yearAt at hf
  refine lv_iload_n hx hb dX1_yearAt_0 rfl (lv_at hl 0 rfl) ?_
  refine lv_sipush (v := 1461) hx hb dX1_yearAt_1 (by decide) ?_
  refine lv_irem hx hb dX1_yearAt_4 (by decide) ?_
  refine lv_topi (fun v1 ev1 => ?_)
  have hf := qnm_k ev1 hf
  refine lv_istore_n (lv' := [(1, .int v1), (0, .int a1)]) hx hb dX1_yearAt_5 rfl hl (Nat.le_of_ble_eq_true rfl) rfl (fun ls hl => ?_)
  refine lv_iload_n hx hb dX1_yearAt_6 rfl (lv_at hl 0 rfl) ?_
  refine lv_sipush (v := 366) hx hb dX1_yearAt_7 (by decide) ?_
  obtain ⟨v2, hq5, hf⟩ := qbd_e hf
  have J3 : ∀ (H : Heap) (locs : List Loc) (ls : Array Slot), Wd G (([] : va_W)) A s H locs → lv_has ls 3 [(0, .int a1)] → W p l e (rmk 0 0 0 0) s m args below meth c H locs 0 0 (KQI G below args s A (([] : va_W)) rv 0 0) (F0 m 28 ls [.int v2]) := by
    intro H locs ls hw hl
    refine lv_istore_n (lv' := [(2, .int v2), (0, .int a1)]) hx hb dX1_yearAt_28 rfl hl (Nat.le_of_ble_eq_true rfl) rfl (fun ls hl => ?_)
    refine lv_sipush (v := 2000) hx hb dX1_yearAt_29 (by decide) ?_
    refine lv_iconst (v := 4) hx hb dX1_yearAt_32 (by decide) ?_
    refine lv_iload_n hx hb dX1_yearAt_33 rfl (lv_at hl 1 rfl) ?_
    refine lv_sipush (v := 1461) hx hb dX1_yearAt_34 (by decide) ?_
    refine lv_idiv hx hb dX1_yearAt_37 (by decide) ?_
    refine lv_imul hx hb dX1_yearAt_38 ?_
    refine lv_iadd hx hb dX1_yearAt_39 ?_
    refine lv_iload_n hx hb dX1_yearAt_40 rfl (lv_at hl 0 rfl) ?_
    refine lv_iadd hx hb dX1_yearAt_41 ?_
    obtain rfl := q_s hf
    exact k_iret F hr hlk hw (Nat.le_of_ble_eq_true rfl) (Nat.le_of_ble_eq_true rfl) dX1_yearAt_42
  have hf := hq5
  refine lv_icmp_ge (tgt := 17) hx hb dX1_yearAt_10 rfl (fun c4 => ?_) (fun c4 => ?_)
  · have hf := q_t c4 hf
    refine lv_iconst (v := 1) hx hb dX1_yearAt_17 (by decide) ?_
    refine lv_iload_n hx hb dX1_yearAt_18 rfl (lv_at hl 0 rfl) ?_
    refine lv_sipush (v := 366) hx hb dX1_yearAt_19 (by decide) ?_
    refine lv_isub hx hb dX1_yearAt_22 ?_
    refine lv_sipush (v := 365) hx hb dX1_yearAt_23 (by decide) ?_
    refine lv_idiv hx hb dX1_yearAt_26 (by decide) ?_
    refine lv_iadd hx hb dX1_yearAt_27 ?_
    obtain rfl := q_s hf
    exact J3 _ _ _ hw (lv_sub hl [1] rfl)
  · have hf := q_f c4 hf
    refine lv_iconst (v := 0) hx hb dX1_yearAt_13 (by decide) ?_
    refine lv_goto (tgt := 28) hx hb dX1_yearAt_14 rfl ?_
    obtain rfl := q_s hf
    exact J3 _ _ _ hw (lv_sub hl [1] rfl)
def f_X1_monthAt_l14 (n : Nat) (r1 : Int32) (v5 : Int32) : Nat → Int32 → Option (Int32)
  | 0, _ => none
  | m + 1, v6 => (if (12 : Int32) ≤ v6 then some v6 else (qbd (f_X1_daysBefore n r1 (v6 + (1 : Int32))) fun r9 => (if v5 < r9 then some v6 else (qnm (v6 + (1 : Int32)) fun v12 => (f_X1_monthAt_l14 n r1 v5 m) v12))))
def f_X1_monthAt (n : Nat) (a1 : Int32) : Option (Int32) := (qbd (f_X1_yearAt n a1) fun r1 => (qbd (f_X1_yearStart n r1) fun r3 => (qnm (a1 - r3) fun v5 => f_X1_monthAt_l14 n r1 v5 n (1 : Int32))))
set_option maxHeartbeats 4000000 in
set_option maxRecDepth 100000 in
theorem t_X1_monthAt {G : gG} {l : Launch} {n : Nat} {a1 : Int32} {rv : Int32} (hf : f_X1_monthAt n a1 = some rv) : MetI G l yX1_monthAt cX1_monthAt 4 (some .int) 1 0 0 22 [.int a1] (([] : va_W)) (([] : va_W)) rv := by
  refine k_ofI (by decide) (Nat.le_of_ble_eq_true rfl) ?_
  intro p e s m args below meth c ls A F hr hlk hl hw
  have hx := F.1
  have hb := F.2.1
  have hl : lv_has ls 4 [(0, .int a1)] := hl
  unfold f_X1_monthAt at hf
  refine lv_iload_n hx hb dX1_monthAt_0 rfl (lv_at hl 0 rfl) ?_
  obtain ⟨r1, h2, hf⟩ := qbd_e hf
  refine k_callPi (rest := []) (As := [.int a1]) F ws_in (t_X1_yearAt h2) cs_X1_yearAt ml_X1_20 hw rfl hl.1 rfl (Nat.le_of_ble_eq_true rfl) ⟨Nat.le_of_ble_eq_true rfl, Nat.le_of_ble_eq_true rfl⟩ ⟨Nat.le_of_ble_eq_true rfl, Nat.le_of_ble_eq_true rfl⟩ dX1_monthAt_1 (fun H locs hw => ?_)
  refine lv_istore_n (lv' := [(1, .int r1), (0, .int a1)]) hx hb dX1_monthAt_4 rfl hl (Nat.le_of_ble_eq_true rfl) rfl (fun ls hl => ?_)
  refine lv_iload_n hx hb dX1_monthAt_5 rfl (lv_at hl 1 rfl) ?_
  refine lv_iload_n hx hb dX1_monthAt_6 rfl (lv_at hl 0 rfl) ?_
  obtain ⟨r3, h4, hf⟩ := qbd_e hf
  refine k_callPi (rest := [.int a1]) (As := [.int r1]) F ws_in (t_X1_yearStart h4) cs_X1_yearStart ml_X1_13 hw rfl hl.1 rfl (Nat.le_of_ble_eq_true rfl) ⟨Nat.le_of_ble_eq_true rfl, Nat.le_of_ble_eq_true rfl⟩ ⟨Nat.le_of_ble_eq_true rfl, Nat.le_of_ble_eq_true rfl⟩ dX1_monthAt_7 (fun H locs hw => ?_)
  refine lv_isub hx hb dX1_monthAt_10 ?_
  refine lv_topi (fun v5 ev5 => ?_)
  have hf := qnm_k ev5 hf
  refine lv_istore_n (lv' := [(2, .int v5), (1, .int r1), (0, .int a1)]) hx hb dX1_monthAt_11 rfl hl (Nat.le_of_ble_eq_true rfl) rfl (fun ls hl => ?_)
  refine lv_iconst (v := 1) hx hb dX1_monthAt_12 (by decide) ?_
  refine lv_istore_n (lv' := [(3, .int (1 : Int32)), (2, .int v5), (1, .int r1), (0, .int a1)]) hx hb dX1_monthAt_13 rfl hl (Nat.le_of_ble_eq_true rfl) rfl (fun ls hl => ?_)
  have L7 : ∀ (m0 : Nat) (v6 : Int32) (H : Heap) (locs : List Loc) (ls : Array Slot), Wd G (([] : va_W)) A s H locs → lv_has ls 4 [(1, .int r1), (2, .int v5), (3, .int v6)] → f_X1_monthAt_l14 n r1 v5 m0 v6 = some rv → W p l e (rmk 1 0 0 22) s m args below meth c H locs 0 0 (KQI G below args s A (([] : va_W)) rv 0 0) (F0 m 14 ls []) := by
    intro m0
    induction m0 with
    | zero => intro v6 H locs ls hw hl hf; cases hf
    | succ mL7 ih7 =>
      intro v6 H locs ls hw hl hf
      unfold f_X1_monthAt_l14 at hf
      refine lv_iload_n hx hb dX1_monthAt_14 rfl (lv_at hl 2 rfl) ?_
      refine lv_bipush (v := 12) hx hb dX1_monthAt_15 (by decide) ?_
      refine lv_icmp_ge (tgt := 37) hx hb dX1_monthAt_17 rfl (fun c8 => ?_) (fun c8 => ?_)
      · have hf := q_t c8 hf
        refine lv_iload_n hx hb dX1_monthAt_37 rfl (lv_at hl 2 rfl) ?_
        obtain rfl := q_s hf
        exact k_iret F hr hlk hw (Nat.le_of_ble_eq_true rfl) (Nat.le_of_ble_eq_true rfl) dX1_monthAt_38
      · have hf := q_f c8 hf
        refine lv_iload_n hx hb dX1_monthAt_20 rfl (lv_at hl 0 rfl) ?_
        refine lv_iload_n hx hb dX1_monthAt_21 rfl (lv_at hl 2 rfl) ?_
        refine lv_iconst (v := 1) hx hb dX1_monthAt_22 (by decide) ?_
        refine lv_iadd hx hb dX1_monthAt_23 ?_
        obtain ⟨r9, h10, hf⟩ := qbd_e hf
        refine k_callPi (rest := []) (As := [.int r1, .int (v6 + (1 : Int32))]) F ws_in (t_X1_daysBefore h10) cs_X1_daysBefore ml_X1_17 hw rfl hl.1 rfl (Nat.le_of_ble_eq_true rfl) ⟨Nat.le_of_ble_eq_true rfl, Nat.le_of_ble_eq_true rfl⟩ ⟨Nat.le_of_ble_eq_true rfl, Nat.le_of_ble_eq_true rfl⟩ dX1_monthAt_24 (fun H locs hw => ?_)
        refine lv_iload_n hx hb dX1_monthAt_27 rfl (lv_at hl 1 rfl) ?_
        refine lv_icmp_gt (tgt := 37) hx hb dX1_monthAt_28 rfl (fun c11 => ?_) (fun c11 => ?_)
        · have hf := q_t c11 hf
          refine lv_iload_n hx hb dX1_monthAt_37 rfl (lv_at hl 2 rfl) ?_
          obtain rfl := q_s hf
          exact k_iret F hr hlk hw (Nat.le_of_ble_eq_true rfl) (Nat.le_of_ble_eq_true rfl) dX1_monthAt_38
        · have hf := q_f c11 hf
          obtain ⟨v12, ev12⟩ : ∃ y : Int32, y = v6 + (1 : Int32) := ⟨_, rfl⟩
          refine lv_iinc (v := v12) (lv' := [(3, .int v12), (1, .int r1), (2, .int v5)]) hx hb dX1_monthAt_31 hl (k := 2) rfl (by rw [ev12]; rfl) (Nat.le_of_ble_eq_true rfl) rfl (fun ls hl => ?_)
          have hf := qnm_k ev12 hf
          refine lv_goto (tgt := 14) hx hb dX1_monthAt_34 rfl ?_
          exact ih7 v12 _ _ _ hw (lv_sub hl [1, 2, 0] rfl) hf
  exact L7 n (1 : Int32) _ _ _ hw (lv_sub hl [2, 1, 0] rfl) hf
def f_X1_dayInMonthAt (n : Nat) (a1 : Int32) : Option (Int32) := (qbd (f_X1_yearAt n a1) fun r1 => (qbd (f_X1_monthAt n a1) fun r3 => (qbd (f_X1_numberOf n r1 r3 (1 : Int32)) fun r5 => some ((a1 - r5) + (1 : Int32)))))
set_option maxHeartbeats 4000000 in
set_option maxRecDepth 100000 in
theorem t_X1_dayInMonthAt {G : gG} {l : Launch} {n : Nat} {a1 : Int32} {rv : Int32} (hf : f_X1_dayInMonthAt n a1 = some rv) : MetI G l yX1_dayInMonthAt cX1_dayInMonthAt 1 (some .int) 2 0 0 45 [.int a1] (([] : va_W)) (([] : va_W)) rv := by
  refine k_ofI (by decide) (Nat.le_of_ble_eq_true rfl) ?_
  intro p e s m args below meth c ls A F hr hlk hl hw
  have hx := F.1
  have hb := F.2.1
  have hl : lv_has ls 1 [(0, .int a1)] := hl
  unfold f_X1_dayInMonthAt at hf
  refine lv_iload_n hx hb dX1_dayInMonthAt_0 rfl (lv_at hl 0 rfl) ?_
  refine lv_iload_n hx hb dX1_dayInMonthAt_1 rfl (lv_at hl 0 rfl) ?_
  obtain ⟨r1, h2, hf⟩ := qbd_e hf
  refine k_callPi (rest := [.int a1]) (As := [.int a1]) F ws_in (t_X1_yearAt h2) cs_X1_yearAt ml_X1_20 hw rfl hl.1 rfl (Nat.le_of_ble_eq_true rfl) ⟨Nat.le_of_ble_eq_true rfl, Nat.le_of_ble_eq_true rfl⟩ ⟨Nat.le_of_ble_eq_true rfl, Nat.le_of_ble_eq_true rfl⟩ dX1_dayInMonthAt_2 (fun H locs hw => ?_)
  refine lv_iload_n hx hb dX1_dayInMonthAt_5 rfl (lv_at hl 0 rfl) ?_
  obtain ⟨r3, h4, hf⟩ := qbd_e hf
  refine k_callPi (rest := [.int r1, .int a1]) (As := [.int a1]) F ws_in (t_X1_monthAt h4) cs_X1_monthAt ml_X1_23 hw rfl hl.1 rfl (Nat.le_of_ble_eq_true rfl) ⟨Nat.le_of_ble_eq_true rfl, Nat.le_of_ble_eq_true rfl⟩ ⟨Nat.le_of_ble_eq_true rfl, Nat.le_of_ble_eq_true rfl⟩ dX1_dayInMonthAt_6 (fun H locs hw => ?_)
  refine lv_iconst (v := 1) hx hb dX1_dayInMonthAt_9 (by decide) ?_
  obtain ⟨r5, h6, hf⟩ := qbd_e hf
  refine k_callPi (rest := [.int a1]) (As := [.int r1, .int r3, .int (1 : Int32)]) F ws_in (t_X1_numberOf h6) cs_X1_numberOf ml_X1_26 hw rfl hl.1 rfl (Nat.le_of_ble_eq_true rfl) ⟨Nat.le_of_ble_eq_true rfl, Nat.le_of_ble_eq_true rfl⟩ ⟨Nat.le_of_ble_eq_true rfl, Nat.le_of_ble_eq_true rfl⟩ dX1_dayInMonthAt_10 (fun H locs hw => ?_)
  refine lv_isub hx hb dX1_dayInMonthAt_13 ?_
  refine lv_iconst (v := 1) hx hb dX1_dayInMonthAt_14 (by decide) ?_
  refine lv_iadd hx hb dX1_dayInMonthAt_15 ?_
  obtain rfl := q_s hf
  exact k_iret F hr hlk hw (Nat.le_of_ble_eq_true rfl) (Nat.le_of_ble_eq_true rfl) dX1_dayInMonthAt_16
def f_X1_later (n : Nat) (a1 : Int32) (a2 : Int32) : Option (Int32) := (qbd (f_X1_yearAt n a1) fun r1 => (qbd (f_X1_monthAt n a1) fun r3 => (qbd (f_X1_numberOf n r1 r3 (1 : Int32)) fun r5 => (qbd (f_X1_monthAt n a1) fun r7 => (qnm ((r7 - (1 : Int32)) + a2) fun v9 => (qbd (f_X1_yearAt n a1) fun r10 => (qnm (r10 + (v9 / (12 : Int32))) fun v12 => (qnm ((v9 - v9 / (12 : Int32) * (12 : Int32)) + (1 : Int32)) fun v13 => (qbd (f_X1_daysIn n v12 v13) fun r14 => (qbd (f_X1_numberOf n v12 v13 (if r14 < ((a1 - r5) + (1 : Int32)) then r14 else ((a1 - r5) + (1 : Int32)))) fun r16 => some r16))))))))))
set_option maxHeartbeats 4000000 in
set_option maxRecDepth 100000 in
theorem t_X1_later {G : gG} {l : Launch} {n : Nat} {a1 : Int32} {a2 : Int32} {rv : Int32} (hf : f_X1_later n a1 a2 = some rv) : MetI G l yX1_later cX1_later 6 (some .int) 2 0 0 45 [.int a1, .int a2] (([] : va_W)) (([] : va_W)) rv := by
  refine k_ofI (by decide) (Nat.le_of_ble_eq_true rfl) ?_
  intro p e s m args below meth c ls A F hr hlk hl hw
  have hx := F.1
  have hb := F.2.1
  have hl : lv_has ls 6 [(0, .int a1), (1, .int a2)] := hl
  unfold f_X1_later at hf
  refine lv_iload_n hx hb dX1_later_0 rfl (lv_at hl 0 rfl) ?_
  obtain ⟨r1, h2, hf⟩ := qbd_e hf
  refine k_callPi (rest := []) (As := [.int a1]) F ws_in (t_X1_yearAt h2) cs_X1_yearAt ml_X1_20 hw rfl hl.1 rfl (Nat.le_of_ble_eq_true rfl) ⟨Nat.le_of_ble_eq_true rfl, Nat.le_of_ble_eq_true rfl⟩ ⟨Nat.le_of_ble_eq_true rfl, Nat.le_of_ble_eq_true rfl⟩ dX1_later_1 (fun H locs hw => ?_)
  refine lv_iload_n hx hb dX1_later_4 rfl (lv_at hl 0 rfl) ?_
  obtain ⟨r3, h4, hf⟩ := qbd_e hf
  refine k_callPi (rest := [.int r1]) (As := [.int a1]) F ws_in (t_X1_monthAt h4) cs_X1_monthAt ml_X1_23 hw rfl hl.1 rfl (Nat.le_of_ble_eq_true rfl) ⟨Nat.le_of_ble_eq_true rfl, Nat.le_of_ble_eq_true rfl⟩ ⟨Nat.le_of_ble_eq_true rfl, Nat.le_of_ble_eq_true rfl⟩ dX1_later_5 (fun H locs hw => ?_)
  refine lv_iconst (v := 1) hx hb dX1_later_8 (by decide) ?_
  obtain ⟨r5, h6, hf⟩ := qbd_e hf
  refine k_callPi (rest := []) (As := [.int r1, .int r3, .int (1 : Int32)]) F ws_in (t_X1_numberOf h6) cs_X1_numberOf ml_X1_26 hw rfl hl.1 rfl (Nat.le_of_ble_eq_true rfl) ⟨Nat.le_of_ble_eq_true rfl, Nat.le_of_ble_eq_true rfl⟩ ⟨Nat.le_of_ble_eq_true rfl, Nat.le_of_ble_eq_true rfl⟩ dX1_later_9 (fun H locs hw => ?_)
  refine lv_istore_n (lv' := [(2, .int r5), (0, .int a1), (1, .int a2)]) hx hb dX1_later_12 rfl hl (Nat.le_of_ble_eq_true rfl) rfl (fun ls hl => ?_)
  refine lv_iload_n hx hb dX1_later_13 rfl (lv_at hl 1 rfl) ?_
  obtain ⟨r7, h8, hf⟩ := qbd_e hf
  refine k_callPi (rest := []) (As := [.int a1]) F ws_in (t_X1_monthAt h8) cs_X1_monthAt ml_X1_23 hw rfl hl.1 rfl (Nat.le_of_ble_eq_true rfl) ⟨Nat.le_of_ble_eq_true rfl, Nat.le_of_ble_eq_true rfl⟩ ⟨Nat.le_of_ble_eq_true rfl, Nat.le_of_ble_eq_true rfl⟩ dX1_later_14 (fun H locs hw => ?_)
  refine lv_iconst (v := 1) hx hb dX1_later_17 (by decide) ?_
  refine lv_isub hx hb dX1_later_18 ?_
  refine lv_iload_n hx hb dX1_later_19 rfl (lv_at hl 2 rfl) ?_
  refine lv_iadd hx hb dX1_later_20 ?_
  refine lv_topi (fun v9 ev9 => ?_)
  have hf := qnm_k ev9 hf
  refine lv_istore_n (lv' := [(3, .int v9), (2, .int r5), (0, .int a1), (1, .int a2)]) hx hb dX1_later_21 rfl hl (Nat.le_of_ble_eq_true rfl) rfl (fun ls hl => ?_)
  refine lv_iload_n hx hb dX1_later_22 rfl (lv_at hl 2 rfl) ?_
  obtain ⟨r10, h11, hf⟩ := qbd_e hf
  refine k_callPi (rest := []) (As := [.int a1]) F ws_in (t_X1_yearAt h11) cs_X1_yearAt ml_X1_20 hw rfl hl.1 rfl (Nat.le_of_ble_eq_true rfl) ⟨Nat.le_of_ble_eq_true rfl, Nat.le_of_ble_eq_true rfl⟩ ⟨Nat.le_of_ble_eq_true rfl, Nat.le_of_ble_eq_true rfl⟩ dX1_later_23 (fun H locs hw => ?_)
  refine lv_iload_n hx hb dX1_later_26 rfl (lv_at hl 0 rfl) ?_
  refine lv_bipush (v := 12) hx hb dX1_later_27 (by decide) ?_
  refine lv_idiv hx hb dX1_later_29 (by decide) ?_
  refine lv_iadd hx hb dX1_later_30 ?_
  refine lv_topi (fun v12 ev12 => ?_)
  have hf := qnm_k ev12 hf
  refine lv_istore (lv' := [(4, .int v12), (3, .int v9), (2, .int r5), (0, .int a1), (1, .int a2)]) hx hb dX1_later_31 hl (Nat.le_of_ble_eq_true rfl) rfl (fun ls hl => ?_)
  refine lv_iload_n hx hb dX1_later_33 rfl (lv_at hl 1 rfl) ?_
  refine lv_bipush (v := 12) hx hb dX1_later_34 (by decide) ?_
  refine lv_irem hx hb dX1_later_36 (by decide) ?_
  refine lv_iconst (v := 1) hx hb dX1_later_37 (by decide) ?_
  refine lv_iadd hx hb dX1_later_38 ?_
  refine lv_topi (fun v13 ev13 => ?_)
  have hf := qnm_k ev13 hf
  refine lv_istore (lv' := [(5, .int v13), (4, .int v12), (3, .int v9), (2, .int r5), (0, .int a1), (1, .int a2)]) hx hb dX1_later_39 hl (Nat.le_of_ble_eq_true rfl) rfl (fun ls hl => ?_)
  refine lv_iload hx hb dX1_later_41 (lv_at hl 1 rfl) ?_
  refine lv_iload hx hb dX1_later_43 (lv_at hl 0 rfl) ?_
  refine lv_iload_n hx hb dX1_later_45 rfl (lv_at hl 4 rfl) ?_
  refine lv_iload_n hx hb dX1_later_46 rfl (lv_at hl 3 rfl) ?_
  refine lv_isub hx hb dX1_later_47 ?_
  refine lv_iconst (v := 1) hx hb dX1_later_48 (by decide) ?_
  refine lv_iadd hx hb dX1_later_49 ?_
  refine lv_iload hx hb dX1_later_50 (lv_at hl 1 rfl) ?_
  refine lv_iload hx hb dX1_later_52 (lv_at hl 0 rfl) ?_
  obtain ⟨r14, h15, hf⟩ := qbd_e hf
  refine k_callPi (rest := [.int ((a1 - r5) + (1 : Int32)), .int v13, .int v12]) (As := [.int v12, .int v13]) F ws_in (t_X1_daysIn h15) cs_X1_daysIn ml_X1_9 hw rfl hl.1 rfl (Nat.le_of_ble_eq_true rfl) ⟨Nat.le_of_ble_eq_true rfl, Nat.le_of_ble_eq_true rfl⟩ ⟨Nat.le_of_ble_eq_true rfl, Nat.le_of_ble_eq_true rfl⟩ dX1_later_54 (fun H locs hw => ?_)
  refine k_mmin F ws_in ml_X1_30 cm_min hl.1 ⟨Nat.le_of_ble_eq_true rfl, Nat.le_of_ble_eq_true rfl, Nat.le_of_ble_eq_true rfl, Nat.le_of_ble_eq_true rfl⟩ dX1_later_57 ?_
  obtain ⟨r16, h17, hf⟩ := qbd_e hf
  refine k_callPi (rest := []) (As := [.int v12, .int v13, .int (if r14 < ((a1 - r5) + (1 : Int32)) then r14 else ((a1 - r5) + (1 : Int32)))]) F ws_in (t_X1_numberOf h17) cs_X1_numberOf ml_X1_26 hw rfl hl.1 rfl (Nat.le_of_ble_eq_true rfl) ⟨Nat.le_of_ble_eq_true rfl, Nat.le_of_ble_eq_true rfl⟩ ⟨Nat.le_of_ble_eq_true rfl, Nat.le_of_ble_eq_true rfl⟩ dX1_later_60 (fun H locs hw => ?_)
  obtain rfl := q_s hf
  exact k_iret F hr hlk hw (Nat.le_of_ble_eq_true rfl) (Nat.le_of_ble_eq_true rfl) dX1_later_63
def f_X0_add (n : Nat) (x : SX) (a1 : Int32) (a2 : Int32) (a3 : Int32) : Option (Int32 × SX) := (qgd (qin (x.1 3 3) 8) ((qnm (si x 35 (x.1 3 3).toNatClampNeg a1) fun x2 => (qgd (qin (x2.1 3 3) 8) ((qnm (si x2 36 (x2.1 3 3).toNatClampNeg a2) fun x4 => (qgd (qin (x4.1 3 3) 8) ((qnm (si x4 37 (x4.1 3 3).toNatClampNeg a3) fun x6 => (qnm (si x6 3 3 ((x6.1 3 3) + (1 : Int32))) fun x7 => some (((x7.1 3 3) - (1 : Int32)), x7)))))))))))
set_option maxHeartbeats 4000000 in
set_option maxRecDepth 100000 in
theorem t_X0_add {G : gG} {l : Launch} {ad : Nat → Nat} {n : Nat} {x : SX} {a1 : Int32} {a2 : Int32} {a3 : Int32} {rv : Int32} {xr : SX} (hf : f_X0_add n x a1 a2 a3 = some (rv, xr)) : MetI G l yX0_add cX0_add 4 (some .int) 0 0 0 0 [.ref (ad 3), .int a1, .int a2, .int a3] (wX G ad x) (wX G ad xr) rv := by
  refine k_ofI (by decide) (Nat.le_of_ble_eq_true rfl) ?_
  intro p e s m args below meth c ls A F hr hlk hl hw
  have hx := F.1
  have hb := F.2.1
  have hl : lv_has ls 4 [(0, .ref (ad 3)), (1, .int a1), (2, .int a2), (3, .int a3)] := hl
  unfold f_X0_add at hf
  refine lv_aload_n hx hb dX0_add_0 rfl (lv_at hl 0 rfl) ?_
  refine X_g_3_0 F ws_in hw fl_X0_9 dX0_add_1 ?_
  refine lv_aload_n hx hb dX0_add_4 rfl (lv_at hl 0 rfl) ?_
  refine X_g_3_3 F ws_in hw fl_X0_21 dX0_add_5 ?_
  refine lv_iload_n hx hb dX0_add_8 rfl (lv_at hl 1 rfl) ?_
  obtain ⟨g1, hf⟩ := qgd_e hf
  refine X_s_35 F hw g1 dX0_add_9 (fun x2 ex2 H locs hw => ?_)
  have hf := qnm_k ex2 hf
  refine lv_aload_n hx hb dX0_add_10 rfl (lv_at hl 0 rfl) ?_
  refine X_g_3_1 F ws_in hw fl_X0_15 dX0_add_11 ?_
  refine lv_aload_n hx hb dX0_add_14 rfl (lv_at hl 0 rfl) ?_
  refine X_g_3_3 F ws_in hw fl_X0_21 dX0_add_15 ?_
  refine lv_iload_n hx hb dX0_add_18 rfl (lv_at hl 2 rfl) ?_
  obtain ⟨g3, hf⟩ := qgd_e hf
  refine X_s_36 F hw g3 dX0_add_19 (fun x4 ex4 H locs hw => ?_)
  have hf := qnm_k ex4 hf
  refine lv_aload_n hx hb dX0_add_20 rfl (lv_at hl 0 rfl) ?_
  refine X_g_3_2 F ws_in hw fl_X0_18 dX0_add_21 ?_
  refine lv_aload_n hx hb dX0_add_24 rfl (lv_at hl 0 rfl) ?_
  refine X_g_3_3 F ws_in hw fl_X0_21 dX0_add_25 ?_
  refine lv_iload_n hx hb dX0_add_28 rfl (lv_at hl 3 rfl) ?_
  obtain ⟨g5, hf⟩ := qgd_e hf
  refine X_s_37 F hw g5 dX0_add_29 (fun x6 ex6 H locs hw => ?_)
  have hf := qnm_k ex6 hf
  refine lv_aload_n hx hb dX0_add_30 rfl (lv_at hl 0 rfl) ?_
  refine lv_dup hx hb dX0_add_31 rfl ?_
  refine X_g_3_3 F ws_in hw fl_X0_21 dX0_add_32 ?_
  refine lv_iconst (v := 1) hx hb dX0_add_35 (by decide) ?_
  refine lv_iadd hx hb dX0_add_36 ?_
  refine X_p_3_3 F ws_in hw fl_X0_21 dX0_add_37 (fun x7 ex7 H locs hw => ?_)
  have hf := qnm_k ex7 hf
  refine lv_aload_n hx hb dX0_add_40 rfl (lv_at hl 0 rfl) ?_
  refine X_g_3_3 F ws_in hw fl_X0_21 dX0_add_41 ?_
  refine lv_iconst (v := 1) hx hb dX0_add_44 (by decide) ?_
  refine lv_isub hx hb dX0_add_45 ?_
  obtain ⟨rfl, rfl⟩ := q_s2 hf
  exact k_iret F hr hlk hw (Nat.le_of_ble_eq_true rfl) (Nat.le_of_ble_eq_true rfl) dX0_add_46
def f_X0_daysForChain_l4 (x : SX) (a1 : Int32) : Nat → Int32 → Int32 → Option (Int32)
  | 0, _, _ => none
  | m + 1, v1, v2 => (if (x.1 3 3) ≤ v2 then some v1 else (qgd (qin v2 8) ((qbd (if ((x.1 36 v2.toNatClampNeg) &&& a1) = 0 then some v1 else (qnm (v1 + (x.1 35 v2.toNatClampNeg)) fun v10 => some v10)) fun v6 => (qnm (v2 + (1 : Int32)) fun v8 => (f_X0_daysForChain_l4 x a1 m) v6 v8)))))
def f_X0_daysForChain (n : Nat) (x : SX) (a1 : Int32) : Option (Int32) := f_X0_daysForChain_l4 x a1 n (0 : Int32) (0 : Int32)
set_option maxHeartbeats 4000000 in
set_option maxRecDepth 100000 in
theorem t_X0_daysForChain {G : gG} {l : Launch} {ad : Nat → Nat} {n : Nat} {x : SX} {a1 : Int32} {rv : Int32} (hf : f_X0_daysForChain n x a1 = some rv) : MetI G l yX0_daysForChain cX0_daysForChain 4 (some .int) 0 0 0 0 [.ref (ad 3), .int a1] (wX G ad x) (wX G ad x) rv := by
  refine k_ofI (by decide) (Nat.le_of_ble_eq_true rfl) ?_
  intro p e s m args below meth c ls A F hr hlk hl hw
  have hx := F.1
  have hb := F.2.1
  have hl : lv_has ls 4 [(0, .ref (ad 3)), (1, .int a1)] := hl
  unfold f_X0_daysForChain at hf
  refine lv_iconst (v := 0) hx hb dX0_daysForChain_0 (by decide) ?_
  refine lv_istore_n (lv' := [(2, .int (0 : Int32)), (0, .ref (ad 3)), (1, .int a1)]) hx hb dX0_daysForChain_1 rfl hl (Nat.le_of_ble_eq_true rfl) rfl (fun ls hl => ?_)
  refine lv_iconst (v := 0) hx hb dX0_daysForChain_2 (by decide) ?_
  refine lv_istore_n (lv' := [(3, .int (0 : Int32)), (2, .int (0 : Int32)), (0, .ref (ad 3)), (1, .int a1)]) hx hb dX0_daysForChain_3 rfl hl (Nat.le_of_ble_eq_true rfl) rfl (fun ls hl => ?_)
  have L3 : ∀ (m0 : Nat) (v1 : Int32) (v2 : Int32) (H : Heap) (locs : List Loc) (ls : Array Slot), Wd G (wX G ad x) A s H locs → lv_has ls 4 [(0, .ref (ad 3)), (1, .int a1), (2, .int v1), (3, .int v2)] → f_X0_daysForChain_l4 x a1 m0 v1 v2 = some rv → W p l e (rmk 0 0 0 0) s m args below meth c H locs 0 0 (KQI G below args s A (wX G ad x) rv 0 0) (F0 m 4 ls []) := by
    intro m0
    induction m0 with
    | zero => intro v1 v2 H locs ls hw hl hf; cases hf
    | succ mL3 ih3 =>
      intro v1 v2 H locs ls hw hl hf
      unfold f_X0_daysForChain_l4 at hf
      refine lv_iload_n hx hb dX0_daysForChain_4 rfl (lv_at hl 3 rfl) ?_
      refine lv_aload_n hx hb dX0_daysForChain_5 rfl (lv_at hl 0 rfl) ?_
      refine X_g_3_3 F ws_in hw fl_X0_21 dX0_daysForChain_6 ?_
      refine lv_icmp_ge (tgt := 38) hx hb dX0_daysForChain_9 rfl (fun c4 => ?_) (fun c4 => ?_)
      · have hf := q_t c4 hf
        refine lv_iload_n hx hb dX0_daysForChain_38 rfl (lv_at hl 2 rfl) ?_
        obtain rfl := q_s hf
        exact k_iret F hr hlk hw (Nat.le_of_ble_eq_true rfl) (Nat.le_of_ble_eq_true rfl) dX0_daysForChain_39
      · have hf := q_f c4 hf
        refine lv_aload_n hx hb dX0_daysForChain_12 rfl (lv_at hl 0 rfl) ?_
        refine X_g_3_1 F ws_in hw fl_X0_15 dX0_daysForChain_13 ?_
        refine lv_iload_n hx hb dX0_daysForChain_16 rfl (lv_at hl 3 rfl) ?_
        obtain ⟨g5, hf⟩ := qgd_e hf
        refine X_l_36 F hw g5 dX0_daysForChain_17 ?_
        refine lv_iload_n hx hb dX0_daysForChain_18 rfl (lv_at hl 1 rfl) ?_
        refine lv_iand hx hb dX0_daysForChain_19 ?_
        obtain ⟨v6, hq11, hf⟩ := qbd_e hf
        have J7 : ∀ (H : Heap) (locs : List Loc) (ls : Array Slot), Wd G (wX G ad x) A s H locs → lv_has ls 4 [(0, .ref (ad 3)), (1, .int a1), (2, .int v6), (3, .int v2)] → W p l e (rmk 0 0 0 0) s m args below meth c H locs 0 0 (KQI G below args s A (wX G ad x) rv 0 0) (F0 m 32 ls []) := by
          intro H locs ls hw hl
          obtain ⟨v8, ev8⟩ : ∃ y : Int32, y = v2 + (1 : Int32) := ⟨_, rfl⟩
          refine lv_iinc (v := v8) (lv' := [(3, .int v8), (0, .ref (ad 3)), (1, .int a1), (2, .int v6)]) hx hb dX0_daysForChain_32 hl (k := 3) rfl (by rw [ev8]; rfl) (Nat.le_of_ble_eq_true rfl) rfl (fun ls hl => ?_)
          have hf := qnm_k ev8 hf
          refine lv_goto (tgt := 4) hx hb dX0_daysForChain_35 rfl ?_
          exact ih3 v6 v8 _ _ _ hw (lv_sub hl [1, 2, 3, 0] rfl) hf
        have hf := hq11
        refine lv_if_eq (tgt := 32) hx hb dX0_daysForChain_20 rfl (fun c9 => ?_) (fun c9 => ?_)
        · have hf := q_t c9 hf
          obtain rfl := q_s hf
          exact J7 _ _ _ hw (lv_sub hl [0, 1, 2, 3] rfl)
        · have hf := q_f c9 hf
          refine lv_iload_n hx hb dX0_daysForChain_23 rfl (lv_at hl 2 rfl) ?_
          refine lv_aload_n hx hb dX0_daysForChain_24 rfl (lv_at hl 0 rfl) ?_
          refine X_g_3_0 F ws_in hw fl_X0_9 dX0_daysForChain_25 ?_
          refine lv_iload_n hx hb dX0_daysForChain_28 rfl (lv_at hl 3 rfl) ?_
          refine X_l_35 F hw g5 dX0_daysForChain_29 ?_
          refine lv_iadd hx hb dX0_daysForChain_30 ?_
          refine lv_topi (fun v10 ev10 => ?_)
          have hf := qnm_k ev10 hf
          refine lv_istore_n (lv' := [(2, .int v10), (0, .ref (ad 3)), (1, .int a1), (3, .int v2)]) hx hb dX0_daysForChain_31 rfl hl (Nat.le_of_ble_eq_true rfl) rfl (fun ls hl => ?_)
          obtain rfl := q_s hf
          exact J7 _ _ _ hw (lv_sub hl [1, 2, 0, 3] rfl)
  exact L3 n (0 : Int32) (0 : Int32) _ _ _ hw (lv_sub hl [2, 3, 1, 0] rfl) hf
def f_X0_daysForRecall_l4 (x : SX) (a1 : Int32) : Nat → Int32 → Int32 → Option (Int32)
  | 0, _, _ => none
  | m + 1, v1, v2 => (if (x.1 3 3) ≤ v2 then some v1 else (qgd (qin v2 8) ((qbd (if (x.1 37 v2.toNatClampNeg) = a1 then (qnm (v1 + (x.1 35 v2.toNatClampNeg)) fun v10 => some v10) else some v1) fun v6 => (qnm (v2 + (1 : Int32)) fun v8 => (f_X0_daysForRecall_l4 x a1 m) v6 v8)))))
def f_X0_daysForRecall (n : Nat) (x : SX) (a1 : Int32) : Option (Int32) := f_X0_daysForRecall_l4 x a1 n (0 : Int32) (0 : Int32)
set_option maxHeartbeats 4000000 in
set_option maxRecDepth 100000 in
theorem t_X0_daysForRecall {G : gG} {l : Launch} {ad : Nat → Nat} {n : Nat} {x : SX} {a1 : Int32} {rv : Int32} (hf : f_X0_daysForRecall n x a1 = some rv) : MetI G l yX0_daysForRecall cX0_daysForRecall 4 (some .int) 0 0 0 0 [.ref (ad 3), .int a1] (wX G ad x) (wX G ad x) rv := by
  refine k_ofI (by decide) (Nat.le_of_ble_eq_true rfl) ?_
  intro p e s m args below meth c ls A F hr hlk hl hw
  have hx := F.1
  have hb := F.2.1
  have hl : lv_has ls 4 [(0, .ref (ad 3)), (1, .int a1)] := hl
  unfold f_X0_daysForRecall at hf
  refine lv_iconst (v := 0) hx hb dX0_daysForRecall_0 (by decide) ?_
  refine lv_istore_n (lv' := [(2, .int (0 : Int32)), (0, .ref (ad 3)), (1, .int a1)]) hx hb dX0_daysForRecall_1 rfl hl (Nat.le_of_ble_eq_true rfl) rfl (fun ls hl => ?_)
  refine lv_iconst (v := 0) hx hb dX0_daysForRecall_2 (by decide) ?_
  refine lv_istore_n (lv' := [(3, .int (0 : Int32)), (2, .int (0 : Int32)), (0, .ref (ad 3)), (1, .int a1)]) hx hb dX0_daysForRecall_3 rfl hl (Nat.le_of_ble_eq_true rfl) rfl (fun ls hl => ?_)
  have L3 : ∀ (m0 : Nat) (v1 : Int32) (v2 : Int32) (H : Heap) (locs : List Loc) (ls : Array Slot), Wd G (wX G ad x) A s H locs → lv_has ls 4 [(0, .ref (ad 3)), (1, .int a1), (2, .int v1), (3, .int v2)] → f_X0_daysForRecall_l4 x a1 m0 v1 v2 = some rv → W p l e (rmk 0 0 0 0) s m args below meth c H locs 0 0 (KQI G below args s A (wX G ad x) rv 0 0) (F0 m 4 ls []) := by
    intro m0
    induction m0 with
    | zero => intro v1 v2 H locs ls hw hl hf; cases hf
    | succ mL3 ih3 =>
      intro v1 v2 H locs ls hw hl hf
      unfold f_X0_daysForRecall_l4 at hf
      refine lv_iload_n hx hb dX0_daysForRecall_4 rfl (lv_at hl 3 rfl) ?_
      refine lv_aload_n hx hb dX0_daysForRecall_5 rfl (lv_at hl 0 rfl) ?_
      refine X_g_3_3 F ws_in hw fl_X0_21 dX0_daysForRecall_6 ?_
      refine lv_icmp_ge (tgt := 37) hx hb dX0_daysForRecall_9 rfl (fun c4 => ?_) (fun c4 => ?_)
      · have hf := q_t c4 hf
        refine lv_iload_n hx hb dX0_daysForRecall_37 rfl (lv_at hl 2 rfl) ?_
        obtain rfl := q_s hf
        exact k_iret F hr hlk hw (Nat.le_of_ble_eq_true rfl) (Nat.le_of_ble_eq_true rfl) dX0_daysForRecall_38
      · have hf := q_f c4 hf
        refine lv_aload_n hx hb dX0_daysForRecall_12 rfl (lv_at hl 0 rfl) ?_
        refine X_g_3_2 F ws_in hw fl_X0_18 dX0_daysForRecall_13 ?_
        refine lv_iload_n hx hb dX0_daysForRecall_16 rfl (lv_at hl 3 rfl) ?_
        obtain ⟨g5, hf⟩ := qgd_e hf
        refine X_l_37 F hw g5 dX0_daysForRecall_17 ?_
        refine lv_iload_n hx hb dX0_daysForRecall_18 rfl (lv_at hl 1 rfl) ?_
        obtain ⟨v6, hq11, hf⟩ := qbd_e hf
        have J7 : ∀ (H : Heap) (locs : List Loc) (ls : Array Slot), Wd G (wX G ad x) A s H locs → lv_has ls 4 [(0, .ref (ad 3)), (1, .int a1), (2, .int v6), (3, .int v2)] → W p l e (rmk 0 0 0 0) s m args below meth c H locs 0 0 (KQI G below args s A (wX G ad x) rv 0 0) (F0 m 31 ls []) := by
          intro H locs ls hw hl
          obtain ⟨v8, ev8⟩ : ∃ y : Int32, y = v2 + (1 : Int32) := ⟨_, rfl⟩
          refine lv_iinc (v := v8) (lv' := [(3, .int v8), (0, .ref (ad 3)), (1, .int a1), (2, .int v6)]) hx hb dX0_daysForRecall_31 hl (k := 3) rfl (by rw [ev8]; rfl) (Nat.le_of_ble_eq_true rfl) rfl (fun ls hl => ?_)
          have hf := qnm_k ev8 hf
          refine lv_goto (tgt := 4) hx hb dX0_daysForRecall_34 rfl ?_
          exact ih3 v6 v8 _ _ _ hw (lv_sub hl [1, 2, 3, 0] rfl) hf
        have hf := hq11
        refine lv_icmp_ne (tgt := 31) hx hb dX0_daysForRecall_19 rfl (fun c9 => ?_) (fun c9 => ?_)
        · have hf := q_f c9 hf
          obtain rfl := q_s hf
          exact J7 _ _ _ hw (lv_sub hl [0, 1, 2, 3] rfl)
        · have hf := q_t c9 hf
          refine lv_iload_n hx hb dX0_daysForRecall_22 rfl (lv_at hl 2 rfl) ?_
          refine lv_aload_n hx hb dX0_daysForRecall_23 rfl (lv_at hl 0 rfl) ?_
          refine X_g_3_0 F ws_in hw fl_X0_9 dX0_daysForRecall_24 ?_
          refine lv_iload_n hx hb dX0_daysForRecall_27 rfl (lv_at hl 3 rfl) ?_
          refine X_l_35 F hw g5 dX0_daysForRecall_28 ?_
          refine lv_iadd hx hb dX0_daysForRecall_29 ?_
          refine lv_topi (fun v10 ev10 => ?_)
          have hf := qnm_k ev10 hf
          refine lv_istore_n (lv' := [(2, .int v10), (0, .ref (ad 3)), (1, .int a1), (3, .int v2)]) hx hb dX0_daysForRecall_30 rfl hl (Nat.le_of_ble_eq_true rfl) rfl (fun ls hl => ?_)
          obtain rfl := q_s hf
          exact J7 _ _ _ hw (lv_sub hl [1, 2, 0, 3] rfl)
  exact L3 n (0 : Int32) (0 : Int32) _ _ _ hw (lv_sub hl [2, 3, 1, 0] rfl) hf
def f_X3_replace (n : Nat) (x : SX) (a1 : Int32) (a2 : Int32) (a3 : Int32) : Option (SX) := (qnm (si x 4 0 ((x.1 4 0) + (1 : Int32))) fun x1 => (qnm (si x1 4 1 a1) fun x2 => (qnm (si x2 4 2 a2) fun x3 => (qnm (si x3 4 3 a3) fun x4 => some x4))))
set_option maxHeartbeats 4000000 in
set_option maxRecDepth 100000 in
theorem t_X3_replace {G : gG} {l : Launch} {ad : Nat → Nat} {n : Nat} {x : SX} {a1 : Int32} {a2 : Int32} {a3 : Int32} {xr : SX} (hf : f_X3_replace n x a1 a2 a3 = some xr) : MetV G l yX3_replace cX3_replace 4 none 0 0 0 0 [.ref (ad 4), .int a1, .int a2, .int a3] (wX G ad x) (wX G ad xr) := by
  refine k_ofV (by decide) (Nat.le_of_ble_eq_true rfl) ?_
  intro p e s m args below meth c ls A F hr hlk hl hw
  have hx := F.1
  have hb := F.2.1
  have hl : lv_has ls 4 [(0, .ref (ad 4)), (1, .int a1), (2, .int a2), (3, .int a3)] := hl
  unfold f_X3_replace at hf
  refine lv_aload_n hx hb dX3_replace_0 rfl (lv_at hl 0 rfl) ?_
  refine lv_dup hx hb dX3_replace_1 rfl ?_
  refine X_g_4_0 F ws_in hw fl_X3_9 dX3_replace_2 ?_
  refine lv_iconst (v := 1) hx hb dX3_replace_5 (by decide) ?_
  refine lv_iadd hx hb dX3_replace_6 ?_
  refine X_p_4_0 F ws_in hw fl_X3_9 dX3_replace_7 (fun x1 ex1 H locs hw => ?_)
  have hf := qnm_k ex1 hf
  refine lv_aload_n hx hb dX3_replace_10 rfl (lv_at hl 0 rfl) ?_
  refine lv_iload_n hx hb dX3_replace_11 rfl (lv_at hl 1 rfl) ?_
  refine X_p_4_1 F ws_in hw fl_X3_15 dX3_replace_12 (fun x2 ex2 H locs hw => ?_)
  have hf := qnm_k ex2 hf
  refine lv_aload_n hx hb dX3_replace_15 rfl (lv_at hl 0 rfl) ?_
  refine lv_iload_n hx hb dX3_replace_16 rfl (lv_at hl 2 rfl) ?_
  refine X_p_4_2 F ws_in hw fl_X3_18 dX3_replace_17 (fun x3 ex3 H locs hw => ?_)
  have hf := qnm_k ex3 hf
  refine lv_aload_n hx hb dX3_replace_20 rfl (lv_at hl 0 rfl) ?_
  refine lv_iload_n hx hb dX3_replace_21 rfl (lv_at hl 3 rfl) ?_
  refine X_p_4_3 F ws_in hw fl_X3_21 dX3_replace_22 (fun x4 ex4 H locs hw => ?_)
  have hf := qnm_k ex4 hf
  obtain rfl := q_s hf
  exact k_vret F hr hlk hw (Nat.le_of_ble_eq_true rfl) (Nat.le_of_ble_eq_true rfl) dX3_replace_25
def f_X3_lowerLimit (n : Nat) (x : SX) (a1 : Int32) : Option (SX) := (qnm (si x 4 3 (if a1 < (x.1 4 3) then a1 else (x.1 4 3))) fun x1 => some x1)
set_option maxHeartbeats 4000000 in
set_option maxRecDepth 100000 in
theorem t_X3_lowerLimit {G : gG} {l : Launch} {ad : Nat → Nat} {n : Nat} {x : SX} {a1 : Int32} {xr : SX} (hf : f_X3_lowerLimit n x a1 = some xr) : MetV G l yX3_lowerLimit cX3_lowerLimit 2 none 1 0 0 30 [.ref (ad 4), .int a1] (wX G ad x) (wX G ad xr) := by
  refine k_ofV (by decide) (Nat.le_of_ble_eq_true rfl) ?_
  intro p e s m args below meth c ls A F hr hlk hl hw
  have hx := F.1
  have hb := F.2.1
  have hl : lv_has ls 2 [(0, .ref (ad 4)), (1, .int a1)] := hl
  unfold f_X3_lowerLimit at hf
  refine lv_aload_n hx hb dX3_lowerLimit_0 rfl (lv_at hl 0 rfl) ?_
  refine lv_aload_n hx hb dX3_lowerLimit_1 rfl (lv_at hl 0 rfl) ?_
  refine X_g_4_3 F ws_in hw fl_X3_21 dX3_lowerLimit_2 ?_
  refine lv_iload_n hx hb dX3_lowerLimit_5 rfl (lv_at hl 1 rfl) ?_
  refine k_mmin F ws_in ml_X3_24 cm_min hl.1 ⟨Nat.le_of_ble_eq_true rfl, Nat.le_of_ble_eq_true rfl, Nat.le_of_ble_eq_true rfl, Nat.le_of_ble_eq_true rfl⟩ dX3_lowerLimit_6 ?_
  refine X_p_4_3 F ws_in hw fl_X3_21 dX3_lowerLimit_9 (fun x1 ex1 H locs hw => ?_)
  have hf := qnm_k ex1 hf
  obtain rfl := q_s hf
  exact k_vret F hr hlk hw (Nat.le_of_ble_eq_true rfl) (Nat.le_of_ble_eq_true rfl) dX3_lowerLimit_12
def f_X3_endWith (n : Nat) (x : SX) (a1 : Int32) : Option (Int32) := (qbd (if (x.1 4 2) = 0 then some (x.1 4 3) else some (if (((x.1 4 1) + (x.1 4 2)) + a1) < (x.1 4 3) then (((x.1 4 1) + (x.1 4 2)) + a1) else (x.1 4 3))) fun v1 => some v1)
set_option maxHeartbeats 4000000 in
set_option maxRecDepth 100000 in
theorem t_X3_endWith {G : gG} {l : Launch} {ad : Nat → Nat} {n : Nat} {x : SX} {a1 : Int32} {rv : Int32} (hf : f_X3_endWith n x a1 = some rv) : MetI G l yX3_endWith cX3_endWith 2 (some .int) 1 0 0 30 [.ref (ad 4), .int a1] (wX G ad x) (wX G ad x) rv := by
  refine k_ofI (by decide) (Nat.le_of_ble_eq_true rfl) ?_
  intro p e s m args below meth c ls A F hr hlk hl hw
  have hx := F.1
  have hb := F.2.1
  have hl : lv_has ls 2 [(0, .ref (ad 4)), (1, .int a1)] := hl
  unfold f_X3_endWith at hf
  refine lv_aload_n hx hb dX3_endWith_0 rfl (lv_at hl 0 rfl) ?_
  refine X_g_4_2 F ws_in hw fl_X3_18 dX3_endWith_1 ?_
  obtain ⟨v1, hq4, hf⟩ := qbd_e hf
  have J2 : ∀ (H : Heap) (locs : List Loc) (ls : Array Slot), Wd G (wX G ad x) A s H locs → lv_has ls 2 [] → W p l e (rmk 1 0 0 30) s m args below meth c H locs 0 0 (KQI G below args s A (wX G ad x) rv 0 0) (F0 m 32 ls [.int v1]) := by
    intro H locs ls hw hl
    obtain rfl := q_s hf
    exact k_iret F hr hlk hw (Nat.le_of_ble_eq_true rfl) (Nat.le_of_ble_eq_true rfl) dX3_endWith_32
  have hf := hq4
  refine lv_if_ne (tgt := 14) hx hb dX3_endWith_4 rfl (fun c3 => ?_) (fun c3 => ?_)
  · have hf := q_f c3 hf
    refine lv_aload_n hx hb dX3_endWith_14 rfl (lv_at hl 0 rfl) ?_
    refine X_g_4_3 F ws_in hw fl_X3_21 dX3_endWith_15 ?_
    refine lv_aload_n hx hb dX3_endWith_18 rfl (lv_at hl 0 rfl) ?_
    refine X_g_4_1 F ws_in hw fl_X3_15 dX3_endWith_19 ?_
    refine lv_aload_n hx hb dX3_endWith_22 rfl (lv_at hl 0 rfl) ?_
    refine X_g_4_2 F ws_in hw fl_X3_18 dX3_endWith_23 ?_
    refine lv_iadd hx hb dX3_endWith_26 ?_
    refine lv_iload_n hx hb dX3_endWith_27 rfl (lv_at hl 1 rfl) ?_
    refine lv_iadd hx hb dX3_endWith_28 ?_
    refine k_mmin F ws_in ml_X3_24 cm_min hl.1 ⟨Nat.le_of_ble_eq_true rfl, Nat.le_of_ble_eq_true rfl, Nat.le_of_ble_eq_true rfl, Nat.le_of_ble_eq_true rfl⟩ dX3_endWith_29 ?_
    obtain rfl := q_s hf
    exact J2 _ _ _ hw (lv_sub hl [] rfl)
  · have hf := q_t c3 hf
    refine lv_aload_n hx hb dX3_endWith_7 rfl (lv_at hl 0 rfl) ?_
    refine X_g_4_3 F ws_in hw fl_X3_21 dX3_endWith_8 ?_
    refine lv_goto (tgt := 32) hx hb dX3_endWith_11 rfl ?_
    obtain rfl := q_s hf
    exact J2 _ _ _ hw (lv_sub hl [] rfl)
def f_X4_add (n : Nat) (x : SX) (a1 : Int32) (a2 : Int32) (a3 : Int32) : Option (SX) := (qgd (qin (x.1 2 5) 8) ((qnm (si x 30 (x.1 2 5).toNatClampNeg a1) fun x2 => (qgd (qin (x2.1 2 5) 8) ((qnm (si x2 31 (x2.1 2 5).toNatClampNeg a2) fun x4 => (qgd (qin (x4.1 2 5) 8) ((qnm (si x4 32 (x4.1 2 5).toNatClampNeg a3) fun x6 => (qnm (si x6 2 5 ((x6.1 2 5) + (1 : Int32))) fun x7 => some x7))))))))))
set_option maxHeartbeats 4000000 in
set_option maxRecDepth 100000 in
theorem t_X4_add {G : gG} {l : Launch} {ad : Nat → Nat} {n : Nat} {x : SX} {a1 : Int32} {a2 : Int32} {a3 : Int32} {xr : SX} (hf : f_X4_add n x a1 a2 a3 = some xr) : MetV G l yX4_add cX4_add 4 none 0 0 0 0 [.ref (ad 2), .int a1, .int a2, .int a3] (wX G ad x) (wX G ad xr) := by
  refine k_ofV (by decide) (Nat.le_of_ble_eq_true rfl) ?_
  intro p e s m args below meth c ls A F hr hlk hl hw
  have hx := F.1
  have hb := F.2.1
  have hl : lv_has ls 4 [(0, .ref (ad 2)), (1, .int a1), (2, .int a2), (3, .int a3)] := hl
  unfold f_X4_add at hf
  refine lv_aload_n hx hb dX4_add_0 rfl (lv_at hl 0 rfl) ?_
  refine X_g_2_0 F ws_in hw fl_X4_9 dX4_add_1 ?_
  refine lv_aload_n hx hb dX4_add_4 rfl (lv_at hl 0 rfl) ?_
  refine X_g_2_5 F ws_in hw fl_X4_27 dX4_add_5 ?_
  refine lv_iload_n hx hb dX4_add_8 rfl (lv_at hl 1 rfl) ?_
  obtain ⟨g1, hf⟩ := qgd_e hf
  refine X_s_30 F hw g1 dX4_add_9 (fun x2 ex2 H locs hw => ?_)
  have hf := qnm_k ex2 hf
  refine lv_aload_n hx hb dX4_add_10 rfl (lv_at hl 0 rfl) ?_
  refine X_g_2_1 F ws_in hw fl_X4_15 dX4_add_11 ?_
  refine lv_aload_n hx hb dX4_add_14 rfl (lv_at hl 0 rfl) ?_
  refine X_g_2_5 F ws_in hw fl_X4_27 dX4_add_15 ?_
  refine lv_iload_n hx hb dX4_add_18 rfl (lv_at hl 2 rfl) ?_
  obtain ⟨g3, hf⟩ := qgd_e hf
  refine X_s_31 F hw g3 dX4_add_19 (fun x4 ex4 H locs hw => ?_)
  have hf := qnm_k ex4 hf
  refine lv_aload_n hx hb dX4_add_20 rfl (lv_at hl 0 rfl) ?_
  refine X_g_2_2 F ws_in hw fl_X4_18 dX4_add_21 ?_
  refine lv_aload_n hx hb dX4_add_24 rfl (lv_at hl 0 rfl) ?_
  refine X_g_2_5 F ws_in hw fl_X4_27 dX4_add_25 ?_
  refine lv_iload_n hx hb dX4_add_28 rfl (lv_at hl 3 rfl) ?_
  obtain ⟨g5, hf⟩ := qgd_e hf
  refine X_s_32 F hw g5 dX4_add_29 (fun x6 ex6 H locs hw => ?_)
  have hf := qnm_k ex6 hf
  refine lv_aload_n hx hb dX4_add_30 rfl (lv_at hl 0 rfl) ?_
  refine lv_dup hx hb dX4_add_31 rfl ?_
  refine X_g_2_5 F ws_in hw fl_X4_27 dX4_add_32 ?_
  refine lv_iconst (v := 1) hx hb dX4_add_35 (by decide) ?_
  refine lv_iadd hx hb dX4_add_36 ?_
  refine X_p_2_5 F ws_in hw fl_X4_27 dX4_add_37 (fun x7 ex7 H locs hw => ?_)
  have hf := qnm_k ex7 hf
  obtain rfl := q_s hf
  exact k_vret F hr hlk hw (Nat.le_of_ble_eq_true rfl) (Nat.le_of_ble_eq_true rfl) dX4_add_40
def f_X4_belongsTo (n : Nat) (x : SX) (a1 : Int32) (a2 : Int32) : Option (Int32) := (qgd (qin a2 8) ((qbd (if (a1 &&& ((1 : Int32) <<< ((x.1 30 a2.toNatClampNeg) &&& 31))) = 0 then some (0 : Int32) else some (1 : Int32)) fun v2 => (qgd (qz v2) (some v2)))))
set_option maxHeartbeats 4000000 in
set_option maxRecDepth 100000 in
theorem t_X4_belongsTo {G : gG} {l : Launch} {ad : Nat → Nat} {n : Nat} {x : SX} {a1 : Int32} {a2 : Int32} {rv : Int32} (hf : f_X4_belongsTo n x a1 a2 = some rv) : MetI G l yX4_belongsTo cX4_belongsTo 3 (some .boolean) 0 0 0 0 [.ref (ad 2), .int a1, .int a2] (wX G ad x) (wX G ad x) rv := by
  refine k_ofI (by decide) (Nat.le_of_ble_eq_true rfl) ?_
  intro p e s m args below meth c ls A F hr hlk hl hw
  have hx := F.1
  have hb := F.2.1
  have hl : lv_has ls 3 [(0, .ref (ad 2)), (1, .int a1), (2, .int a2)] := hl
  unfold f_X4_belongsTo at hf
  refine lv_iload_n hx hb dX4_belongsTo_0 rfl (lv_at hl 1 rfl) ?_
  refine lv_iconst (v := 1) hx hb dX4_belongsTo_1 (by decide) ?_
  refine lv_aload_n hx hb dX4_belongsTo_2 rfl (lv_at hl 0 rfl) ?_
  refine X_g_2_0 F ws_in hw fl_X4_9 dX4_belongsTo_3 ?_
  refine lv_iload_n hx hb dX4_belongsTo_6 rfl (lv_at hl 2 rfl) ?_
  obtain ⟨g1, hf⟩ := qgd_e hf
  refine X_l_30 F hw g1 dX4_belongsTo_7 ?_
  refine lv_ishl hx hb dX4_belongsTo_8 ?_
  refine lv_iand hx hb dX4_belongsTo_9 ?_
  obtain ⟨v2, hq6, hf⟩ := qbd_e hf
  have J3 : ∀ (H : Heap) (locs : List Loc) (ls : Array Slot), Wd G (wX G ad x) A s H locs → lv_has ls 3 [] → W p l e (rmk 0 0 0 0) s m args below meth c H locs 0 0 (KQI G below args s A (wX G ad x) rv 0 0) (F0 m 18 ls [.int v2]) := by
    intro H locs ls hw hl
    obtain ⟨g4, hf⟩ := qgd_e hf
    obtain rfl := q_s hf
    exact k_zret F hr hlk hw (qz_n g4) (Nat.le_of_ble_eq_true rfl) (Nat.le_of_ble_eq_true rfl) dX4_belongsTo_18
  have hf := hq6
  refine lv_if_eq (tgt := 17) hx hb dX4_belongsTo_10 rfl (fun c5 => ?_) (fun c5 => ?_)
  · have hf := q_t c5 hf
    refine lv_iconst (v := 0) hx hb dX4_belongsTo_17 (by decide) ?_
    obtain rfl := q_s hf
    exact J3 _ _ _ hw (lv_sub hl [] rfl)
  · have hf := q_f c5 hf
    refine lv_iconst (v := 1) hx hb dX4_belongsTo_13 (by decide) ?_
    refine lv_goto (tgt := 18) hx hb dX4_belongsTo_14 rfl ?_
    obtain rfl := q_s hf
    exact J3 _ _ _ hw (lv_sub hl [] rfl)
def f_X4_insert_l3 (a2 : Int32) (a3 : Int32) : Nat → Int32 → SX → Option (SX)
  | 0, _, _ => none
  | m + 1, v1, x2 => (if v1 ≤ 0 then (qgd (qin v1 8) ((qnm (si x2 33 v1.toNatClampNeg a2) fun x6 => (qnm (si x6 34 v1.toNatClampNeg a3) fun x7 => some x7)))) else (qgd (qin (v1 - (1 : Int32)) 8) ((if (x2.1 33 (v1 - (1 : Int32)).toNatClampNeg) ≤ a2 then (qgd (qin v1 8) ((qnm (si x2 33 v1.toNatClampNeg a2) fun x11 => (qnm (si x11 34 v1.toNatClampNeg a3) fun x12 => some x12)))) else (qgd (qin v1 8) ((qnm (si x2 33 v1.toNatClampNeg (x2.1 33 (v1 - (1 : Int32)).toNatClampNeg)) fun x14 => (qnm (si x14 34 v1.toNatClampNeg (x14.1 34 (v1 - (1 : Int32)).toNatClampNeg)) fun x15 => (qnm (v1 + (-1 : Int32)) fun v16 => (f_X4_insert_l3 a2 a3 m) v16 x15)))))))))
def f_X4_insert (n : Nat) (x : SX) (a1 : Int32) (a2 : Int32) (a3 : Int32) : Option (SX) := f_X4_insert_l3 a2 a3 n a1 x
set_option maxHeartbeats 4000000 in
set_option maxRecDepth 100000 in
theorem t_X4_insert {G : gG} {l : Launch} {ad : Nat → Nat} {n : Nat} {x : SX} {a1 : Int32} {a2 : Int32} {a3 : Int32} {xr : SX} (hf : f_X4_insert n x a1 a2 a3 = some xr) : MetV G l yX4_insert cX4_insert 5 none 0 0 0 0 [.ref (ad 2), .int a1, .int a2, .int a3] (wX G ad x) (wX G ad xr) := by
  refine k_ofV (by decide) (Nat.le_of_ble_eq_true rfl) ?_
  intro p e s m args below meth c ls A F hr hlk hl hw
  have hx := F.1
  have hb := F.2.1
  have hl : lv_has ls 5 [(0, .ref (ad 2)), (1, .int a1), (2, .int a2), (3, .int a3)] := hl
  unfold f_X4_insert at hf
  refine lv_iload_n hx hb dX4_insert_0 rfl (lv_at hl 1 rfl) ?_
  refine lv_istore (lv' := [(4, .int a1), (0, .ref (ad 2)), (1, .int a1), (2, .int a2), (3, .int a3)]) hx hb dX4_insert_1 hl (Nat.le_of_ble_eq_true rfl) rfl (fun ls hl => ?_)
  have L3 : ∀ (m0 : Nat) (v1 : Int32) (x2 : SX) (H : Heap) (locs : List Loc) (ls : Array Slot), Wd G (wX G ad x2) A s H locs → lv_has ls 5 [(0, .ref (ad 2)), (2, .int a2), (3, .int a3), (4, .int v1)] → f_X4_insert_l3 a2 a3 m0 v1 x2 = some xr → W p l e (rmk 0 0 0 0) s m args below meth c H locs 0 0 (KQV G below args s A (wX G ad xr) 0 0) (F0 m 3 ls []) := by
    intro m0
    induction m0 with
    | zero => intro v1 x2 H locs ls hw hl hf; cases hf
    | succ mL3 ih3 =>
      intro v1 x2 H locs ls hw hl hf
      unfold f_X4_insert_l3 at hf
      refine lv_iload hx hb dX4_insert_3 (lv_at hl 3 rfl) ?_
      refine lv_if_le (tgt := 59) hx hb dX4_insert_5 rfl (fun c4 => ?_) (fun c4 => ?_)
      · have hf := q_t c4 hf
        refine lv_aload_n hx hb dX4_insert_59 rfl (lv_at hl 0 rfl) ?_
        refine X_g_2_3 F ws_in hw fl_X4_21 dX4_insert_60 ?_
        refine lv_iload hx hb dX4_insert_63 (lv_at hl 3 rfl) ?_
        refine lv_iload_n hx hb dX4_insert_65 rfl (lv_at hl 1 rfl) ?_
        obtain ⟨g5, hf⟩ := qgd_e hf
        refine X_s_33 F hw g5 dX4_insert_66 (fun x6 ex6 H locs hw => ?_)
        have hf := qnm_k ex6 hf
        refine lv_aload_n hx hb dX4_insert_67 rfl (lv_at hl 0 rfl) ?_
        refine X_g_2_4 F ws_in hw fl_X4_24 dX4_insert_68 ?_
        refine lv_iload hx hb dX4_insert_71 (lv_at hl 3 rfl) ?_
        refine lv_iload_n hx hb dX4_insert_73 rfl (lv_at hl 2 rfl) ?_
        refine X_s_34 F hw g5 dX4_insert_74 (fun x7 ex7 H locs hw => ?_)
        have hf := qnm_k ex7 hf
        obtain rfl := q_s hf
        exact k_vret F hr hlk hw (Nat.le_of_ble_eq_true rfl) (Nat.le_of_ble_eq_true rfl) dX4_insert_75
      · have hf := q_f c4 hf
        refine lv_aload_n hx hb dX4_insert_8 rfl (lv_at hl 0 rfl) ?_
        refine X_g_2_3 F ws_in hw fl_X4_21 dX4_insert_9 ?_
        refine lv_iload hx hb dX4_insert_12 (lv_at hl 3 rfl) ?_
        refine lv_iconst (v := 1) hx hb dX4_insert_14 (by decide) ?_
        refine lv_isub hx hb dX4_insert_15 ?_
        obtain ⟨g8, hf⟩ := qgd_e hf
        refine X_l_33 F hw g8 dX4_insert_16 ?_
        refine lv_iload_n hx hb dX4_insert_17 rfl (lv_at hl 1 rfl) ?_
        refine lv_icmp_le (tgt := 59) hx hb dX4_insert_18 rfl (fun c9 => ?_) (fun c9 => ?_)
        · have hf := q_t c9 hf
          refine lv_aload_n hx hb dX4_insert_59 rfl (lv_at hl 0 rfl) ?_
          refine X_g_2_3 F ws_in hw fl_X4_21 dX4_insert_60 ?_
          refine lv_iload hx hb dX4_insert_63 (lv_at hl 3 rfl) ?_
          refine lv_iload_n hx hb dX4_insert_65 rfl (lv_at hl 1 rfl) ?_
          obtain ⟨g10, hf⟩ := qgd_e hf
          refine X_s_33 F hw g10 dX4_insert_66 (fun x11 ex11 H locs hw => ?_)
          have hf := qnm_k ex11 hf
          refine lv_aload_n hx hb dX4_insert_67 rfl (lv_at hl 0 rfl) ?_
          refine X_g_2_4 F ws_in hw fl_X4_24 dX4_insert_68 ?_
          refine lv_iload hx hb dX4_insert_71 (lv_at hl 3 rfl) ?_
          refine lv_iload_n hx hb dX4_insert_73 rfl (lv_at hl 2 rfl) ?_
          refine X_s_34 F hw g10 dX4_insert_74 (fun x12 ex12 H locs hw => ?_)
          have hf := qnm_k ex12 hf
          obtain rfl := q_s hf
          exact k_vret F hr hlk hw (Nat.le_of_ble_eq_true rfl) (Nat.le_of_ble_eq_true rfl) dX4_insert_75
        · have hf := q_f c9 hf
          refine lv_aload_n hx hb dX4_insert_21 rfl (lv_at hl 0 rfl) ?_
          refine X_g_2_3 F ws_in hw fl_X4_21 dX4_insert_22 ?_
          refine lv_iload hx hb dX4_insert_25 (lv_at hl 3 rfl) ?_
          refine lv_aload_n hx hb dX4_insert_27 rfl (lv_at hl 0 rfl) ?_
          refine X_g_2_3 F ws_in hw fl_X4_21 dX4_insert_28 ?_
          refine lv_iload hx hb dX4_insert_31 (lv_at hl 3 rfl) ?_
          refine lv_iconst (v := 1) hx hb dX4_insert_33 (by decide) ?_
          refine lv_isub hx hb dX4_insert_34 ?_
          refine X_l_33 F hw g8 dX4_insert_35 ?_
          obtain ⟨g13, hf⟩ := qgd_e hf
          refine X_s_33 F hw g13 dX4_insert_36 (fun x14 ex14 H locs hw => ?_)
          have hf := qnm_k ex14 hf
          refine lv_aload_n hx hb dX4_insert_37 rfl (lv_at hl 0 rfl) ?_
          refine X_g_2_4 F ws_in hw fl_X4_24 dX4_insert_38 ?_
          refine lv_iload hx hb dX4_insert_41 (lv_at hl 3 rfl) ?_
          refine lv_aload_n hx hb dX4_insert_43 rfl (lv_at hl 0 rfl) ?_
          refine X_g_2_4 F ws_in hw fl_X4_24 dX4_insert_44 ?_
          refine lv_iload hx hb dX4_insert_47 (lv_at hl 3 rfl) ?_
          refine lv_iconst (v := 1) hx hb dX4_insert_49 (by decide) ?_
          refine lv_isub hx hb dX4_insert_50 ?_
          refine X_l_34 F hw g8 dX4_insert_51 ?_
          refine X_s_34 F hw g13 dX4_insert_52 (fun x15 ex15 H locs hw => ?_)
          have hf := qnm_k ex15 hf
          obtain ⟨v16, ev16⟩ : ∃ y : Int32, y = v1 + (-1 : Int32) := ⟨_, rfl⟩
          refine lv_iinc (v := v16) (lv' := [(4, .int v16), (0, .ref (ad 2)), (2, .int a2), (3, .int a3)]) hx hb dX4_insert_53 hl (k := 3) rfl (by rw [ev16]; rfl) (Nat.le_of_ble_eq_true rfl) rfl (fun ls hl => ?_)
          have hf := qnm_k ev16 hf
          refine lv_goto (tgt := 3) hx hb dX4_insert_56 rfl ?_
          exact ih3 v16 x15 _ _ _ hw (lv_sub hl [1, 2, 3, 0] rfl) hf
  exact L3 n a1 x _ _ _ hw (lv_sub hl [1, 3, 4, 0] rfl) hf
def f_X4_sort_l4 (n : Nat) (a1 : Int32) : Nat → Int32 → Int32 → SX → Option (Int32 × SX)
  | 0, _, _, _ => none
  | m + 1, v1, v2, x3 => (if (x3.1 2 5) ≤ v2 then some (v1, x3) else (qbd (f_X4_belongsTo n x3 a1 v2) fun r6 => (qbd2 (if r6 = 0 then some (v1, x3) else (qgd (qin v2 8) ((qbd (f_X4_insert n x3 v1 (x3.1 31 v2.toNatClampNeg) (x3.1 32 v2.toNatClampNeg)) fun x14 => (qnm (v1 + (1 : Int32)) fun v16 => some (v16, x14)))))) fun v8 x9 => (qnm (v2 + (1 : Int32)) fun v11 => (f_X4_sort_l4 n a1 m) v8 v11 x9))))
def f_X4_sort (n : Nat) (x : SX) (a1 : Int32) : Option (Int32 × SX) := f_X4_sort_l4 n a1 n (0 : Int32) (0 : Int32) x
set_option maxHeartbeats 4000000 in
set_option maxRecDepth 100000 in
theorem t_X4_sort {G : gG} {l : Launch} {ad : Nat → Nat} {n : Nat} {x : SX} {a1 : Int32} {rv : Int32} {xr : SX} (hf : f_X4_sort n x a1 = some (rv, xr)) : MetI G l yX4_sort cX4_sort 4 (some .int) 1 0 0 24 [.ref (ad 2), .int a1] (wX G ad x) (wX G ad xr) rv := by
  refine k_ofI (by decide) (Nat.le_of_ble_eq_true rfl) ?_
  intro p e s m args below meth c ls A F hr hlk hl hw
  have hx := F.1
  have hb := F.2.1
  have hl : lv_has ls 4 [(0, .ref (ad 2)), (1, .int a1)] := hl
  unfold f_X4_sort at hf
  refine lv_iconst (v := 0) hx hb dX4_sort_0 (by decide) ?_
  refine lv_istore_n (lv' := [(2, .int (0 : Int32)), (0, .ref (ad 2)), (1, .int a1)]) hx hb dX4_sort_1 rfl hl (Nat.le_of_ble_eq_true rfl) rfl (fun ls hl => ?_)
  refine lv_iconst (v := 0) hx hb dX4_sort_2 (by decide) ?_
  refine lv_istore_n (lv' := [(3, .int (0 : Int32)), (2, .int (0 : Int32)), (0, .ref (ad 2)), (1, .int a1)]) hx hb dX4_sort_3 rfl hl (Nat.le_of_ble_eq_true rfl) rfl (fun ls hl => ?_)
  have L4 : ∀ (m0 : Nat) (v1 : Int32) (v2 : Int32) (x3 : SX) (H : Heap) (locs : List Loc) (ls : Array Slot), Wd G (wX G ad x3) A s H locs → lv_has ls 4 [(0, .ref (ad 2)), (1, .int a1), (2, .int v1), (3, .int v2)] → f_X4_sort_l4 n a1 m0 v1 v2 x3 = some (rv, xr) → W p l e (rmk 1 0 0 24) s m args below meth c H locs 0 0 (KQI G below args s A (wX G ad xr) rv 0 0) (F0 m 4 ls []) := by
    intro m0
    induction m0 with
    | zero => intro v1 v2 x3 H locs ls hw hl hf; cases hf
    | succ mL4 ih4 =>
      intro v1 v2 x3 H locs ls hw hl hf
      unfold f_X4_sort_l4 at hf
      refine lv_iload_n hx hb dX4_sort_4 rfl (lv_at hl 3 rfl) ?_
      refine lv_aload_n hx hb dX4_sort_5 rfl (lv_at hl 0 rfl) ?_
      refine X_g_2_5 F ws_in hw fl_X4_27 dX4_sort_6 ?_
      refine lv_icmp_ge (tgt := 47) hx hb dX4_sort_9 rfl (fun c5 => ?_) (fun c5 => ?_)
      · have hf := q_t c5 hf
        refine lv_iload_n hx hb dX4_sort_47 rfl (lv_at hl 2 rfl) ?_
        obtain ⟨rfl, rfl⟩ := q_s2 hf
        exact k_iret F hr hlk hw (Nat.le_of_ble_eq_true rfl) (Nat.le_of_ble_eq_true rfl) dX4_sort_48
      · have hf := q_f c5 hf
        refine lv_aload_n hx hb dX4_sort_12 rfl (lv_at hl 0 rfl) ?_
        refine lv_iload_n hx hb dX4_sort_13 rfl (lv_at hl 1 rfl) ?_
        refine lv_iload_n hx hb dX4_sort_14 rfl (lv_at hl 3 rfl) ?_
        obtain ⟨r6, h7, hf⟩ := qbd_e hf
        refine k_callVi' (rest := []) (As := [.int a1, .int v2]) F ws_in (t_X4_belongsTo h7) cv_X4_belongsTo ml_X4_31 hw 2 rfl rfl rfl hl.1 rfl (Nat.le_of_ble_eq_true rfl) ⟨Nat.le_of_ble_eq_true rfl, Nat.le_of_ble_eq_true rfl⟩ ⟨Nat.le_of_ble_eq_true rfl, Nat.le_of_ble_eq_true rfl⟩ dX4_sort_15 (fun H locs hw => ?_)
        obtain ⟨v8, x9, hq17, hf⟩ := qbd2_e hf
        have J10 : ∀ (H : Heap) (locs : List Loc) (ls : Array Slot), Wd G (wX G ad x9) A s H locs → lv_has ls 4 [(0, .ref (ad 2)), (1, .int a1), (2, .int v8), (3, .int v2)] → W p l e (rmk 1 0 0 24) s m args below meth c H locs 0 0 (KQI G below args s A (wX G ad xr) rv 0 0) (F0 m 41 ls []) := by
          intro H locs ls hw hl
          obtain ⟨v11, ev11⟩ : ∃ y : Int32, y = v2 + (1 : Int32) := ⟨_, rfl⟩
          refine lv_iinc (v := v11) (lv' := [(3, .int v11), (0, .ref (ad 2)), (1, .int a1), (2, .int v8)]) hx hb dX4_sort_41 hl (k := 3) rfl (by rw [ev11]; rfl) (Nat.le_of_ble_eq_true rfl) rfl (fun ls hl => ?_)
          have hf := qnm_k ev11 hf
          refine lv_goto (tgt := 4) hx hb dX4_sort_44 rfl ?_
          exact ih4 v8 v11 x9 _ _ _ hw (lv_sub hl [1, 2, 3, 0] rfl) hf
        have hf := hq17
        refine lv_if_eq (tgt := 41) hx hb dX4_sort_18 rfl (fun c12 => ?_) (fun c12 => ?_)
        · have hf := q_t c12 hf
          obtain ⟨rfl, rfl⟩ := q_s2 hf
          exact J10 _ _ _ hw (lv_sub hl [0, 1, 2, 3] rfl)
        · have hf := q_f c12 hf
          refine lv_aload_n hx hb dX4_sort_21 rfl (lv_at hl 0 rfl) ?_
          refine lv_iload_n hx hb dX4_sort_22 rfl (lv_at hl 2 rfl) ?_
          refine lv_aload_n hx hb dX4_sort_23 rfl (lv_at hl 0 rfl) ?_
          refine X_g_2_1 F ws_in hw fl_X4_15 dX4_sort_24 ?_
          refine lv_iload_n hx hb dX4_sort_27 rfl (lv_at hl 3 rfl) ?_
          obtain ⟨g13, hf⟩ := qgd_e hf
          refine X_l_31 F hw g13 dX4_sort_28 ?_
          refine lv_aload_n hx hb dX4_sort_29 rfl (lv_at hl 0 rfl) ?_
          refine X_g_2_2 F ws_in hw fl_X4_18 dX4_sort_30 ?_
          refine lv_iload_n hx hb dX4_sort_33 rfl (lv_at hl 3 rfl) ?_
          refine X_l_32 F hw g13 dX4_sort_34 ?_
          obtain ⟨x14, h15, hf⟩ := qbd_e hf
          refine k_callVv' (rest := []) (As := [.int v1, .int (x3.1 31 v2.toNatClampNeg), .int (x3.1 32 v2.toNatClampNeg)]) F ws_in (t_X4_insert h15) cv_X4_insert ml_X4_35 hw 2 rfl rfl rfl hl.1 rfl (Nat.le_of_ble_eq_true rfl) ⟨Nat.le_of_ble_eq_true rfl, Nat.le_of_ble_eq_true rfl⟩ ⟨Nat.le_of_ble_eq_true rfl, Nat.le_of_ble_eq_true rfl⟩ dX4_sort_35 (fun H locs hw => ?_)
          obtain ⟨v16, ev16⟩ : ∃ y : Int32, y = v1 + (1 : Int32) := ⟨_, rfl⟩
          refine lv_iinc (v := v16) (lv' := [(2, .int v16), (0, .ref (ad 2)), (1, .int a1), (3, .int v2)]) hx hb dX4_sort_38 hl (k := 2) rfl (by rw [ev16]; rfl) (Nat.le_of_ble_eq_true rfl) rfl (fun ls hl => ?_)
          have hf := qnm_k ev16 hf
          obtain ⟨rfl, rfl⟩ := q_s2 hf
          exact J10 _ _ _ hw (lv_sub hl [1, 2, 0, 3] rfl)
  exact L4 n (0 : Int32) (0 : Int32) x _ _ _ hw (lv_sub hl [2, 3, 1, 0] rfl) hf
def f_X5_add (n : Nat) (x : SX) (a1 : Int32) (a2 : Int32) (a3 : Int32) (a4 : Int32) (a5 : Int32) : Option (Int32 × SX) := (qgd (qin (x.1 1 7) 10) ((qnm (si x 10 (x.1 1 7).toNatClampNeg a2) fun x2 => (qgd (qin (x2.1 1 7) 10) ((qnm (si x2 11 (x2.1 1 7).toNatClampNeg a3) fun x4 => (qgd (qin (x4.1 1 7) 10) ((qnm (si x4 12 (x4.1 1 7).toNatClampNeg a4) fun x6 => (qgd (qin (x6.1 1 7) 10) ((qnm (si x6 13 (x6.1 1 7).toNatClampNeg a5) fun x8 => (qgd (qin (x8.1 1 7) 10) ((qnm (si x8 14 (x8.1 1 7).toNatClampNeg a1) fun x10 => (qgd (qin (x10.1 1 7) 10) ((qnm (si x10 15 (x10.1 1 7).toNatClampNeg a5) fun x12 => (qnm (si x12 1 7 ((x12.1 1 7) + (1 : Int32))) fun x13 => some (((x13.1 1 7) - (1 : Int32)), x13))))))))))))))))))))
set_option maxHeartbeats 4000000 in
set_option maxRecDepth 100000 in
theorem t_X5_add {G : gG} {l : Launch} {ad : Nat → Nat} {n : Nat} {x : SX} {a1 : Int32} {a2 : Int32} {a3 : Int32} {a4 : Int32} {a5 : Int32} {rv : Int32} {xr : SX} (hf : f_X5_add n x a1 a2 a3 a4 a5 = some (rv, xr)) : MetI G l yX5_add cX5_add 6 (some .int) 0 0 0 0 [.ref (ad 1), .int a1, .int a2, .int a3, .int a4, .int a5] (wX G ad x) (wX G ad xr) rv := by
  refine k_ofI (by decide) (Nat.le_of_ble_eq_true rfl) ?_
  intro p e s m args below meth c ls A F hr hlk hl hw
  have hx := F.1
  have hb := F.2.1
  have hl : lv_has ls 6 [(0, .ref (ad 1)), (1, .int a1), (2, .int a2), (3, .int a3), (4, .int a4), (5, .int a5)] := hl
  unfold f_X5_add at hf
  refine lv_aload_n hx hb dX5_add_0 rfl (lv_at hl 0 rfl) ?_
  refine X_g_1_0 F ws_in hw fl_X5_9 dX5_add_1 ?_
  refine lv_aload_n hx hb dX5_add_4 rfl (lv_at hl 0 rfl) ?_
  refine X_g_1_7 F ws_in hw fl_X5_58 dX5_add_5 ?_
  refine lv_iload_n hx hb dX5_add_8 rfl (lv_at hl 2 rfl) ?_
  obtain ⟨g1, hf⟩ := qgd_e hf
  refine X_s_10 F hw g1 dX5_add_9 (fun x2 ex2 H locs hw => ?_)
  have hf := qnm_k ex2 hf
  refine lv_aload_n hx hb dX5_add_10 rfl (lv_at hl 0 rfl) ?_
  refine X_g_1_1 F ws_in hw fl_X5_15 dX5_add_11 ?_
  refine lv_aload_n hx hb dX5_add_14 rfl (lv_at hl 0 rfl) ?_
  refine X_g_1_7 F ws_in hw fl_X5_58 dX5_add_15 ?_
  refine lv_iload_n hx hb dX5_add_18 rfl (lv_at hl 3 rfl) ?_
  obtain ⟨g3, hf⟩ := qgd_e hf
  refine X_s_11 F hw g3 dX5_add_19 (fun x4 ex4 H locs hw => ?_)
  have hf := qnm_k ex4 hf
  refine lv_aload_n hx hb dX5_add_20 rfl (lv_at hl 0 rfl) ?_
  refine X_g_1_2 F ws_in hw fl_X5_18 dX5_add_21 ?_
  refine lv_aload_n hx hb dX5_add_24 rfl (lv_at hl 0 rfl) ?_
  refine X_g_1_7 F ws_in hw fl_X5_58 dX5_add_25 ?_
  refine lv_iload hx hb dX5_add_28 (lv_at hl 4 rfl) ?_
  obtain ⟨g5, hf⟩ := qgd_e hf
  refine X_s_12 F hw g5 dX5_add_30 (fun x6 ex6 H locs hw => ?_)
  have hf := qnm_k ex6 hf
  refine lv_aload_n hx hb dX5_add_31 rfl (lv_at hl 0 rfl) ?_
  refine X_g_1_3 F ws_in hw fl_X5_21 dX5_add_32 ?_
  refine lv_aload_n hx hb dX5_add_35 rfl (lv_at hl 0 rfl) ?_
  refine X_g_1_7 F ws_in hw fl_X5_58 dX5_add_36 ?_
  refine lv_iload hx hb dX5_add_39 (lv_at hl 5 rfl) ?_
  obtain ⟨g7, hf⟩ := qgd_e hf
  refine X_s_13 F hw g7 dX5_add_41 (fun x8 ex8 H locs hw => ?_)
  have hf := qnm_k ex8 hf
  refine lv_aload_n hx hb dX5_add_42 rfl (lv_at hl 0 rfl) ?_
  refine X_g_1_4 F ws_in hw fl_X5_24 dX5_add_43 ?_
  refine lv_aload_n hx hb dX5_add_46 rfl (lv_at hl 0 rfl) ?_
  refine X_g_1_7 F ws_in hw fl_X5_58 dX5_add_47 ?_
  refine lv_iload_n hx hb dX5_add_50 rfl (lv_at hl 1 rfl) ?_
  obtain ⟨g9, hf⟩ := qgd_e hf
  refine X_s_14 F hw g9 dX5_add_51 (fun x10 ex10 H locs hw => ?_)
  have hf := qnm_k ex10 hf
  refine lv_aload_n hx hb dX5_add_52 rfl (lv_at hl 0 rfl) ?_
  refine X_g_1_5 F ws_in hw fl_X5_27 dX5_add_53 ?_
  refine lv_aload_n hx hb dX5_add_56 rfl (lv_at hl 0 rfl) ?_
  refine X_g_1_7 F ws_in hw fl_X5_58 dX5_add_57 ?_
  refine lv_iload hx hb dX5_add_60 (lv_at hl 5 rfl) ?_
  obtain ⟨g11, hf⟩ := qgd_e hf
  refine X_s_15 F hw g11 dX5_add_62 (fun x12 ex12 H locs hw => ?_)
  have hf := qnm_k ex12 hf
  refine lv_aload_n hx hb dX5_add_63 rfl (lv_at hl 0 rfl) ?_
  refine lv_dup hx hb dX5_add_64 rfl ?_
  refine X_g_1_7 F ws_in hw fl_X5_58 dX5_add_65 ?_
  refine lv_iconst (v := 1) hx hb dX5_add_68 (by decide) ?_
  refine lv_iadd hx hb dX5_add_69 ?_
  refine X_p_1_7 F ws_in hw fl_X5_58 dX5_add_70 (fun x13 ex13 H locs hw => ?_)
  have hf := qnm_k ex13 hf
  refine lv_aload_n hx hb dX5_add_73 rfl (lv_at hl 0 rfl) ?_
  refine X_g_1_7 F ws_in hw fl_X5_58 dX5_add_74 ?_
  refine lv_iconst (v := 1) hx hb dX5_add_77 (by decide) ?_
  refine lv_isub hx hb dX5_add_78 ?_
  obtain ⟨rfl, rfl⟩ := q_s2 hf
  exact k_iret F hr hlk hw (Nat.le_of_ble_eq_true rfl) (Nat.le_of_ble_eq_true rfl) dX5_add_79
def f_X5_standing_l4 (x : SX) : Nat → Int32 → Int32 → Option (Int32)
  | 0, _, _ => none
  | m + 1, v1, v2 => (if (x.1 1 7) ≤ v2 then some v1 else (qgd (qin v2 10) ((qbd (if (x.1 16 v2.toNatClampNeg) = 0 then (qnm (v1 + (1 : Int32)) fun v10 => some v10) else some v1) fun v6 => (qnm (v2 + (1 : Int32)) fun v8 => (f_X5_standing_l4 x m) v6 v8)))))
def f_X5_standing (n : Nat) (x : SX) : Option (Int32) := f_X5_standing_l4 x n (0 : Int32) (0 : Int32)
set_option maxHeartbeats 4000000 in
set_option maxRecDepth 100000 in
theorem t_X5_standing {G : gG} {l : Launch} {ad : Nat → Nat} {n : Nat} {x : SX} {rv : Int32} (hf : f_X5_standing n x = some rv) : MetI G l yX5_standing cX5_standing 3 (some .int) 0 0 0 0 [.ref (ad 1)] (wX G ad x) (wX G ad x) rv := by
  refine k_ofI (by decide) (Nat.le_of_ble_eq_true rfl) ?_
  intro p e s m args below meth c ls A F hr hlk hl hw
  have hx := F.1
  have hb := F.2.1
  have hl : lv_has ls 3 [(0, .ref (ad 1))] := hl
  unfold f_X5_standing at hf
  refine lv_iconst (v := 0) hx hb dX5_standing_0 (by decide) ?_
  refine lv_istore_n (lv' := [(1, .int (0 : Int32)), (0, .ref (ad 1))]) hx hb dX5_standing_1 rfl hl (Nat.le_of_ble_eq_true rfl) rfl (fun ls hl => ?_)
  refine lv_iconst (v := 0) hx hb dX5_standing_2 (by decide) ?_
  refine lv_istore_n (lv' := [(2, .int (0 : Int32)), (1, .int (0 : Int32)), (0, .ref (ad 1))]) hx hb dX5_standing_3 rfl hl (Nat.le_of_ble_eq_true rfl) rfl (fun ls hl => ?_)
  have L3 : ∀ (m0 : Nat) (v1 : Int32) (v2 : Int32) (H : Heap) (locs : List Loc) (ls : Array Slot), Wd G (wX G ad x) A s H locs → lv_has ls 3 [(0, .ref (ad 1)), (1, .int v1), (2, .int v2)] → f_X5_standing_l4 x m0 v1 v2 = some rv → W p l e (rmk 0 0 0 0) s m args below meth c H locs 0 0 (KQI G below args s A (wX G ad x) rv 0 0) (F0 m 4 ls []) := by
    intro m0
    induction m0 with
    | zero => intro v1 v2 H locs ls hw hl hf; cases hf
    | succ mL3 ih3 =>
      intro v1 v2 H locs ls hw hl hf
      unfold f_X5_standing_l4 at hf
      refine lv_iload_n hx hb dX5_standing_4 rfl (lv_at hl 2 rfl) ?_
      refine lv_aload_n hx hb dX5_standing_5 rfl (lv_at hl 0 rfl) ?_
      refine X_g_1_7 F ws_in hw fl_X5_58 dX5_standing_6 ?_
      refine lv_icmp_ge (tgt := 30) hx hb dX5_standing_9 rfl (fun c4 => ?_) (fun c4 => ?_)
      · have hf := q_t c4 hf
        refine lv_iload_n hx hb dX5_standing_30 rfl (lv_at hl 1 rfl) ?_
        obtain rfl := q_s hf
        exact k_iret F hr hlk hw (Nat.le_of_ble_eq_true rfl) (Nat.le_of_ble_eq_true rfl) dX5_standing_31
      · have hf := q_f c4 hf
        refine lv_aload_n hx hb dX5_standing_12 rfl (lv_at hl 0 rfl) ?_
        refine X_g_1_6 F ws_in hw fl_X5_30 dX5_standing_13 ?_
        refine lv_iload_n hx hb dX5_standing_16 rfl (lv_at hl 2 rfl) ?_
        obtain ⟨g5, hf⟩ := qgd_e hf
        refine X_l_16 F hw g5 dX5_standing_17 ?_
        obtain ⟨v6, hq11, hf⟩ := qbd_e hf
        have J7 : ∀ (H : Heap) (locs : List Loc) (ls : Array Slot), Wd G (wX G ad x) A s H locs → lv_has ls 3 [(0, .ref (ad 1)), (1, .int v6), (2, .int v2)] → W p l e (rmk 0 0 0 0) s m args below meth c H locs 0 0 (KQI G below args s A (wX G ad x) rv 0 0) (F0 m 24 ls []) := by
          intro H locs ls hw hl
          obtain ⟨v8, ev8⟩ : ∃ y : Int32, y = v2 + (1 : Int32) := ⟨_, rfl⟩
          refine lv_iinc (v := v8) (lv' := [(2, .int v8), (0, .ref (ad 1)), (1, .int v6)]) hx hb dX5_standing_24 hl (k := 2) rfl (by rw [ev8]; rfl) (Nat.le_of_ble_eq_true rfl) rfl (fun ls hl => ?_)
          have hf := qnm_k ev8 hf
          refine lv_goto (tgt := 4) hx hb dX5_standing_27 rfl ?_
          exact ih3 v6 v8 _ _ _ hw (lv_sub hl [1, 2, 0] rfl) hf
        have hf := hq11
        refine lv_if_ne (tgt := 24) hx hb dX5_standing_18 rfl (fun c9 => ?_) (fun c9 => ?_)
        · have hf := q_f c9 hf
          obtain rfl := q_s hf
          exact J7 _ _ _ hw (lv_sub hl [0, 1, 2] rfl)
        · have hf := q_t c9 hf
          obtain ⟨v10, ev10⟩ : ∃ y : Int32, y = v1 + (1 : Int32) := ⟨_, rfl⟩
          refine lv_iinc (v := v10) (lv' := [(1, .int v10), (0, .ref (ad 1)), (2, .int v2)]) hx hb dX5_standing_21 hl (k := 1) rfl (by rw [ev10]; rfl) (Nat.le_of_ble_eq_true rfl) rfl (fun ls hl => ?_)
          have hf := qnm_k ev10 hf
          obtain rfl := q_s hf
          exact J7 _ _ _ hw (lv_sub hl [1, 0, 2] rfl)
  exact L3 n (0 : Int32) (0 : Int32) _ _ _ hw (lv_sub hl [2, 1, 0] rfl) hf
def f_X5_remove_l4 (a1 : Int32) : Nat → Int32 → Int32 → SX → Option (Int32 × SX)
  | 0, _, _, _ => none
  | m + 1, v1, v2, x3 => (if (x3.1 1 7) ≤ v2 then (qgd (qin a1 10) ((qnm (si x3 16 a1.toNatClampNeg (1 : Int32)) fun x7 => some (v1, x7)))) else (qgd (qin v2 10) ((qbd2 (if (x3.1 16 v2.toNatClampNeg) = 0 then (if (x3.1 14 v2.toNatClampNeg) = a1 then (qgd (qin a1 10) ((qnm (si x3 14 v2.toNatClampNeg (x3.1 14 a1.toNatClampNeg)) fun x16 => (qnm (si x16 15 v2.toNatClampNeg (x16.1 15 a1.toNatClampNeg)) fun x17 => (qnm (v1 + (1 : Int32)) fun v18 => some (v18, x17)))))) else some (v1, x3)) else some (v1, x3)) fun v9 x10 => (qnm (v2 + (1 : Int32)) fun v12 => (f_X5_remove_l4 a1 m) v9 v12 x10)))))
def f_X5_remove (n : Nat) (x : SX) (a1 : Int32) : Option (Int32 × SX) := f_X5_remove_l4 a1 n (0 : Int32) (0 : Int32) x
set_option maxHeartbeats 4000000 in
set_option maxRecDepth 100000 in
theorem t_X5_remove {G : gG} {l : Launch} {ad : Nat → Nat} {n : Nat} {x : SX} {a1 : Int32} {rv : Int32} {xr : SX} (hf : f_X5_remove n x a1 = some (rv, xr)) : MetI G l yX5_remove cX5_remove 4 (some .int) 0 0 0 0 [.ref (ad 1), .int a1] (wX G ad x) (wX G ad xr) rv := by
  refine k_ofI (by decide) (Nat.le_of_ble_eq_true rfl) ?_
  intro p e s m args below meth c ls A F hr hlk hl hw
  have hx := F.1
  have hb := F.2.1
  have hl : lv_has ls 4 [(0, .ref (ad 1)), (1, .int a1)] := hl
  unfold f_X5_remove at hf
  refine lv_iconst (v := 0) hx hb dX5_remove_0 (by decide) ?_
  refine lv_istore_n (lv' := [(2, .int (0 : Int32)), (0, .ref (ad 1)), (1, .int a1)]) hx hb dX5_remove_1 rfl hl (Nat.le_of_ble_eq_true rfl) rfl (fun ls hl => ?_)
  refine lv_iconst (v := 0) hx hb dX5_remove_2 (by decide) ?_
  refine lv_istore_n (lv' := [(3, .int (0 : Int32)), (2, .int (0 : Int32)), (0, .ref (ad 1)), (1, .int a1)]) hx hb dX5_remove_3 rfl hl (Nat.le_of_ble_eq_true rfl) rfl (fun ls hl => ?_)
  have L4 : ∀ (m0 : Nat) (v1 : Int32) (v2 : Int32) (x3 : SX) (H : Heap) (locs : List Loc) (ls : Array Slot), Wd G (wX G ad x3) A s H locs → lv_has ls 4 [(0, .ref (ad 1)), (1, .int a1), (2, .int v1), (3, .int v2)] → f_X5_remove_l4 a1 m0 v1 v2 x3 = some (rv, xr) → W p l e (rmk 0 0 0 0) s m args below meth c H locs 0 0 (KQI G below args s A (wX G ad xr) rv 0 0) (F0 m 4 ls []) := by
    intro m0
    induction m0 with
    | zero => intro v1 v2 x3 H locs ls hw hl hf; cases hf
    | succ mL4 ih4 =>
      intro v1 v2 x3 H locs ls hw hl hf
      unfold f_X5_remove_l4 at hf
      refine lv_iload_n hx hb dX5_remove_4 rfl (lv_at hl 3 rfl) ?_
      refine lv_aload_n hx hb dX5_remove_5 rfl (lv_at hl 0 rfl) ?_
      refine X_g_1_7 F ws_in hw fl_X5_58 dX5_remove_6 ?_
      refine lv_icmp_ge (tgt := 64) hx hb dX5_remove_9 rfl (fun c5 => ?_) (fun c5 => ?_)
      · have hf := q_t c5 hf
        refine lv_aload_n hx hb dX5_remove_64 rfl (lv_at hl 0 rfl) ?_
        refine X_g_1_6 F ws_in hw fl_X5_30 dX5_remove_65 ?_
        refine lv_iload_n hx hb dX5_remove_68 rfl (lv_at hl 1 rfl) ?_
        refine lv_iconst (v := 1) hx hb dX5_remove_69 (by decide) ?_
        obtain ⟨g6, hf⟩ := qgd_e hf
        refine X_s_16 F hw g6 (by decide) dX5_remove_70 (fun x7 ex7 H locs hw => ?_)
        have hf := qnm_k ex7 hf
        refine lv_iload_n hx hb dX5_remove_71 rfl (lv_at hl 2 rfl) ?_
        obtain ⟨rfl, rfl⟩ := q_s2 hf
        exact k_iret F hr hlk hw (Nat.le_of_ble_eq_true rfl) (Nat.le_of_ble_eq_true rfl) dX5_remove_72
      · have hf := q_f c5 hf
        refine lv_aload_n hx hb dX5_remove_12 rfl (lv_at hl 0 rfl) ?_
        refine X_g_1_6 F ws_in hw fl_X5_30 dX5_remove_13 ?_
        refine lv_iload_n hx hb dX5_remove_16 rfl (lv_at hl 3 rfl) ?_
        obtain ⟨g8, hf⟩ := qgd_e hf
        refine X_l_16 F hw g8 dX5_remove_17 ?_
        obtain ⟨v9, x10, hq19, hf⟩ := qbd2_e hf
        have J11 : ∀ (H : Heap) (locs : List Loc) (ls : Array Slot), Wd G (wX G ad x10) A s H locs → lv_has ls 4 [(0, .ref (ad 1)), (1, .int a1), (2, .int v9), (3, .int v2)] → W p l e (rmk 0 0 0 0) s m args below meth c H locs 0 0 (KQI G below args s A (wX G ad xr) rv 0 0) (F0 m 58 ls []) := by
          intro H locs ls hw hl
          obtain ⟨v12, ev12⟩ : ∃ y : Int32, y = v2 + (1 : Int32) := ⟨_, rfl⟩
          refine lv_iinc (v := v12) (lv' := [(3, .int v12), (0, .ref (ad 1)), (1, .int a1), (2, .int v9)]) hx hb dX5_remove_58 hl (k := 3) rfl (by rw [ev12]; rfl) (Nat.le_of_ble_eq_true rfl) rfl (fun ls hl => ?_)
          have hf := qnm_k ev12 hf
          refine lv_goto (tgt := 4) hx hb dX5_remove_61 rfl ?_
          exact ih4 v9 v12 x10 _ _ _ hw (lv_sub hl [1, 2, 3, 0] rfl) hf
        have hf := hq19
        refine lv_if_ne (tgt := 58) hx hb dX5_remove_18 rfl (fun c13 => ?_) (fun c13 => ?_)
        · have hf := q_f c13 hf
          obtain ⟨rfl, rfl⟩ := q_s2 hf
          exact J11 _ _ _ hw (lv_sub hl [0, 1, 2, 3] rfl)
        · have hf := q_t c13 hf
          refine lv_aload_n hx hb dX5_remove_21 rfl (lv_at hl 0 rfl) ?_
          refine X_g_1_4 F ws_in hw fl_X5_24 dX5_remove_22 ?_
          refine lv_iload_n hx hb dX5_remove_25 rfl (lv_at hl 3 rfl) ?_
          refine X_l_14 F hw g8 dX5_remove_26 ?_
          refine lv_iload_n hx hb dX5_remove_27 rfl (lv_at hl 1 rfl) ?_
          refine lv_icmp_ne (tgt := 58) hx hb dX5_remove_28 rfl (fun c14 => ?_) (fun c14 => ?_)
          · have hf := q_f c14 hf
            obtain ⟨rfl, rfl⟩ := q_s2 hf
            exact J11 _ _ _ hw (lv_sub hl [0, 1, 2, 3] rfl)
          · have hf := q_t c14 hf
            refine lv_aload_n hx hb dX5_remove_31 rfl (lv_at hl 0 rfl) ?_
            refine X_g_1_4 F ws_in hw fl_X5_24 dX5_remove_32 ?_
            refine lv_iload_n hx hb dX5_remove_35 rfl (lv_at hl 3 rfl) ?_
            refine lv_aload_n hx hb dX5_remove_36 rfl (lv_at hl 0 rfl) ?_
            refine X_g_1_4 F ws_in hw fl_X5_24 dX5_remove_37 ?_
            refine lv_iload_n hx hb dX5_remove_40 rfl (lv_at hl 1 rfl) ?_
            obtain ⟨g15, hf⟩ := qgd_e hf
            refine X_l_14 F hw g15 dX5_remove_41 ?_
            refine X_s_14 F hw g8 dX5_remove_42 (fun x16 ex16 H locs hw => ?_)
            have hf := qnm_k ex16 hf
            refine lv_aload_n hx hb dX5_remove_43 rfl (lv_at hl 0 rfl) ?_
            refine X_g_1_5 F ws_in hw fl_X5_27 dX5_remove_44 ?_
            refine lv_iload_n hx hb dX5_remove_47 rfl (lv_at hl 3 rfl) ?_
            refine lv_aload_n hx hb dX5_remove_48 rfl (lv_at hl 0 rfl) ?_
            refine X_g_1_5 F ws_in hw fl_X5_27 dX5_remove_49 ?_
            refine lv_iload_n hx hb dX5_remove_52 rfl (lv_at hl 1 rfl) ?_
            refine X_l_15 F hw g15 dX5_remove_53 ?_
            refine X_s_15 F hw g8 dX5_remove_54 (fun x17 ex17 H locs hw => ?_)
            have hf := qnm_k ex17 hf
            obtain ⟨v18, ev18⟩ : ∃ y : Int32, y = v1 + (1 : Int32) := ⟨_, rfl⟩
            refine lv_iinc (v := v18) (lv' := [(2, .int v18), (0, .ref (ad 1)), (1, .int a1), (3, .int v2)]) hx hb dX5_remove_55 hl (k := 2) rfl (by rw [ev18]; rfl) (Nat.le_of_ble_eq_true rfl) rfl (fun ls hl => ?_)
            have hf := qnm_k ev18 hf
            obtain ⟨rfl, rfl⟩ := q_s2 hf
            exact J11 _ _ _ hw (lv_sub hl [1, 2, 0, 3] rfl)
  exact L4 n (0 : Int32) (0 : Int32) x _ _ _ hw (lv_sub hl [2, 3, 1, 0] rfl) hf
def f_X5_remember (n : Nat) (x : SX) : Option (SX) := (qnm (sr x 25 (va_cpy (x.1 14) (x.1 25) (0 : Int32).toNatClampNeg (0 : Int32).toNatClampNeg (10 : Int32).toNatClampNeg)) fun x1 => some x1)
set_option maxHeartbeats 4000000 in
set_option maxRecDepth 100000 in
theorem t_X5_remember {G : gG} {l : Launch} {ad : Nat → Nat} {n : Nat} {x : SX} {xr : SX} (hf : f_X5_remember n x = some xr) : MetV G l yX5_remember cX5_remember 1 none 2 0 0 60 [.ref (ad 1)] (wX G ad x) (wX G ad xr) := by
  refine k_ofV (by decide) (Nat.le_of_ble_eq_true rfl) ?_
  intro p e s m args below meth c ls A F hr hlk hl hw
  have hx := F.1
  have hb := F.2.1
  have hl : lv_has ls 1 [(0, .ref (ad 1))] := hl
  unfold f_X5_remember at hf
  refine lv_aload_n hx hb dX5_remember_0 rfl (lv_at hl 0 rfl) ?_
  refine X_g_1_4 F ws_in hw fl_X5_24 dX5_remember_1 ?_
  refine lv_iconst (v := 0) hx hb dX5_remember_4 (by decide) ?_
  refine lv_aload_n hx hb dX5_remember_5 rfl (lv_at hl 0 rfl) ?_
  refine X_g_1_15 F ws_in hw fl_X5_55 dX5_remember_6 ?_
  refine lv_iconst (v := 0) hx hb dX5_remember_9 (by decide) ?_
  refine lv_bipush (v := 10) hx hb dX5_remember_10 (by decide) ?_
  refine k_copyi F ws_in hw ml_X5_62 cm_copy hl.1 12 22 rfl rfl (by decide) (by decide) (by decide) (by decide) (by decide) ⟨Nat.le_of_ble_eq_true rfl, Nat.le_of_ble_eq_true rfl⟩ rfl dX5_remember_12 (fun x1 ex1 H locs hw => ?_)
  have hf := qnm_k ex1 hf
  obtain rfl := q_s hf
  exact k_vret F hr hlk hw (Nat.le_of_ble_eq_true rfl) (Nat.le_of_ble_eq_true rfl) dX5_remember_15
def f_X5_bringBack (n : Nat) (x : SX) (a1 : Int32) : Option (SX) := (qnm (sr x 14 (va_cpy (x.1 25) (x.1 14) (0 : Int32).toNatClampNeg (0 : Int32).toNatClampNeg (10 : Int32).toNatClampNeg)) fun x1 => (qgd (qin a1 10) ((qnm (si x1 16 a1.toNatClampNeg (0 : Int32)) fun x3 => some x3))))
set_option maxHeartbeats 4000000 in
set_option maxRecDepth 100000 in
theorem t_X5_bringBack {G : gG} {l : Launch} {ad : Nat → Nat} {n : Nat} {x : SX} {a1 : Int32} {xr : SX} (hf : f_X5_bringBack n x a1 = some xr) : MetV G l yX5_bringBack cX5_bringBack 2 none 2 0 0 60 [.ref (ad 1), .int a1] (wX G ad x) (wX G ad xr) := by
  refine k_ofV (by decide) (Nat.le_of_ble_eq_true rfl) ?_
  intro p e s m args below meth c ls A F hr hlk hl hw
  have hx := F.1
  have hb := F.2.1
  have hl : lv_has ls 2 [(0, .ref (ad 1)), (1, .int a1)] := hl
  unfold f_X5_bringBack at hf
  refine lv_aload_n hx hb dX5_bringBack_0 rfl (lv_at hl 0 rfl) ?_
  refine X_g_1_15 F ws_in hw fl_X5_55 dX5_bringBack_1 ?_
  refine lv_iconst (v := 0) hx hb dX5_bringBack_4 (by decide) ?_
  refine lv_aload_n hx hb dX5_bringBack_5 rfl (lv_at hl 0 rfl) ?_
  refine X_g_1_4 F ws_in hw fl_X5_24 dX5_bringBack_6 ?_
  refine lv_iconst (v := 0) hx hb dX5_bringBack_9 (by decide) ?_
  refine lv_bipush (v := 10) hx hb dX5_bringBack_10 (by decide) ?_
  refine k_copyi F ws_in hw ml_X5_62 cm_copy hl.1 22 12 rfl rfl (by decide) (by decide) (by decide) (by decide) (by decide) ⟨Nat.le_of_ble_eq_true rfl, Nat.le_of_ble_eq_true rfl⟩ rfl dX5_bringBack_12 (fun x1 ex1 H locs hw => ?_)
  have hf := qnm_k ex1 hf
  refine lv_aload_n hx hb dX5_bringBack_15 rfl (lv_at hl 0 rfl) ?_
  refine X_g_1_6 F ws_in hw fl_X5_30 dX5_bringBack_16 ?_
  refine lv_iload_n hx hb dX5_bringBack_19 rfl (lv_at hl 1 rfl) ?_
  refine lv_iconst (v := 0) hx hb dX5_bringBack_20 (by decide) ?_
  obtain ⟨g2, hf⟩ := qgd_e hf
  refine X_s_16 F hw g2 (by decide) dX5_bringBack_21 (fun x3 ex3 H locs hw => ?_)
  have hf := qnm_k ex3 hf
  obtain rfl := q_s hf
  exact k_vret F hr hlk hw (Nat.le_of_ble_eq_true rfl) (Nat.le_of_ble_eq_true rfl) dX5_bringBack_22
def f_X5_custodyOf (n : Nat) (a1 : Int32) (a2 : Int32) : Option (Int32) := (if a1 = 0 then some ((a2 + (1 : Int32)) / (2 : Int32)) else (if a1 = 1 then some ((((2 : Int32) * a2) + (2 : Int32)) / (3 : Int32)) else (if a1 = 2 then some a2 else (if a1 = 3 then some (if a2 < (if ((a2 + (1 : Int32)) / (2 : Int32)) < (30 : Int32) then (30 : Int32) else ((a2 + (1 : Int32)) / (2 : Int32))) then a2 else (if ((a2 + (1 : Int32)) / (2 : Int32)) < (30 : Int32) then (30 : Int32) else ((a2 + (1 : Int32)) / (2 : Int32)))) else some a2))))
set_option maxHeartbeats 4000000 in
set_option maxRecDepth 100000 in
theorem t_X5_custodyOf {G : gG} {l : Launch} {n : Nat} {a1 : Int32} {a2 : Int32} {rv : Int32} (hf : f_X5_custodyOf n a1 a2 = some rv) : MetI G l yX5_custodyOf cX5_custodyOf 2 (some .int) 1 0 0 30 [.int a1, .int a2] (([] : va_W)) (([] : va_W)) rv := by
  refine k_ofI (by decide) (Nat.le_of_ble_eq_true rfl) ?_
  intro p e s m args below meth c ls A F hr hlk hl hw
  have hx := F.1
  have hb := F.2.1
  have hl : lv_has ls 2 [(0, .int a1), (1, .int a2)] := hl
  unfold f_X5_custodyOf at hf
  refine lv_iload_n hx hb dX5_custodyOf_0 rfl (lv_at hl 0 rfl) ?_
  by_cases c1 : a1 = 0
  · have hf := q_t c1 hf
    refine lv_tableIn (tgt := 32) (off := 31) hx hb dX5_custodyOf_1 (by rw [c1]; decide) (by rw [c1]; decide) (by rw [c1]; rfl) rfl ?_
    refine lv_iload_n hx hb dX5_custodyOf_32 rfl (lv_at hl 1 rfl) ?_
    refine lv_iconst (v := 1) hx hb dX5_custodyOf_33 (by decide) ?_
    refine lv_iadd hx hb dX5_custodyOf_34 ?_
    refine lv_iconst (v := 2) hx hb dX5_custodyOf_35 (by decide) ?_
    refine lv_idiv hx hb dX5_custodyOf_36 (by decide) ?_
    obtain rfl := q_s hf
    exact k_iret F hr hlk hw (Nat.le_of_ble_eq_true rfl) (Nat.le_of_ble_eq_true rfl) dX5_custodyOf_37
  have hf := q_f c1 hf
  by_cases c2 : a1 = 1
  · have hf := q_t c2 hf
    refine lv_tableIn (tgt := 38) (off := 37) hx hb dX5_custodyOf_1 (by rw [c2]; decide) (by rw [c2]; decide) (by rw [c2]; rfl) rfl ?_
    refine lv_iconst (v := 2) hx hb dX5_custodyOf_38 (by decide) ?_
    refine lv_iload_n hx hb dX5_custodyOf_39 rfl (lv_at hl 1 rfl) ?_
    refine lv_imul hx hb dX5_custodyOf_40 ?_
    refine lv_iconst (v := 2) hx hb dX5_custodyOf_41 (by decide) ?_
    refine lv_iadd hx hb dX5_custodyOf_42 ?_
    refine lv_iconst (v := 3) hx hb dX5_custodyOf_43 (by decide) ?_
    refine lv_idiv hx hb dX5_custodyOf_44 (by decide) ?_
    obtain rfl := q_s hf
    exact k_iret F hr hlk hw (Nat.le_of_ble_eq_true rfl) (Nat.le_of_ble_eq_true rfl) dX5_custodyOf_45
  have hf := q_f c2 hf
  by_cases c3 : a1 = 2
  · have hf := q_t c3 hf
    refine lv_tableIn (tgt := 61) (off := 60) hx hb dX5_custodyOf_1 (by rw [c3]; decide) (by rw [c3]; decide) (by rw [c3]; rfl) rfl ?_
    refine lv_iload_n hx hb dX5_custodyOf_61 rfl (lv_at hl 1 rfl) ?_
    obtain rfl := q_s hf
    exact k_iret F hr hlk hw (Nat.le_of_ble_eq_true rfl) (Nat.le_of_ble_eq_true rfl) dX5_custodyOf_62
  have hf := q_f c3 hf
  by_cases c4 : a1 = 3
  · have hf := q_t c4 hf
    refine lv_tableIn (tgt := 46) (off := 45) hx hb dX5_custodyOf_1 (by rw [c4]; decide) (by rw [c4]; decide) (by rw [c4]; rfl) rfl ?_
    refine lv_iload_n hx hb dX5_custodyOf_46 rfl (lv_at hl 1 rfl) ?_
    refine lv_iconst (v := 1) hx hb dX5_custodyOf_47 (by decide) ?_
    refine lv_iadd hx hb dX5_custodyOf_48 ?_
    refine lv_iconst (v := 2) hx hb dX5_custodyOf_49 (by decide) ?_
    refine lv_idiv hx hb dX5_custodyOf_50 (by decide) ?_
    refine lv_bipush (v := 30) hx hb dX5_custodyOf_51 (by decide) ?_
    refine k_mmax F ws_in ml_X5_77 cm_max hl.1 ⟨Nat.le_of_ble_eq_true rfl, Nat.le_of_ble_eq_true rfl, Nat.le_of_ble_eq_true rfl, Nat.le_of_ble_eq_true rfl⟩ dX5_custodyOf_53 ?_
    refine lv_iload_n hx hb dX5_custodyOf_56 rfl (lv_at hl 1 rfl) ?_
    refine k_mmin F ws_in ml_X5_82 cm_min hl.1 ⟨Nat.le_of_ble_eq_true rfl, Nat.le_of_ble_eq_true rfl, Nat.le_of_ble_eq_true rfl, Nat.le_of_ble_eq_true rfl⟩ dX5_custodyOf_57 ?_
    obtain rfl := q_s hf
    exact k_iret F hr hlk hw (Nat.le_of_ble_eq_true rfl) (Nat.le_of_ble_eq_true rfl) dX5_custodyOf_60
  have hf := q_f c4 hf
  refine lv_tableOut (tgt := 61) hx hb dX5_custodyOf_1 (by have z0 : ¬ a1.toInt = 0 := lv_neT c1 rfl; have z1 : ¬ a1.toInt = 1 := lv_neT c2 rfl; have z2 : ¬ a1.toInt = 2 := lv_neT c3 rfl; have z3 : ¬ a1.toInt = 3 := lv_neT c4 rfl; omega) rfl ?_
  refine lv_iload_n hx hb dX5_custodyOf_61 rfl (lv_at hl 1 rfl) ?_
  obtain rfl := q_s hf
  exact k_iret F hr hlk hw (Nat.le_of_ble_eq_true rfl) (Nat.le_of_ble_eq_true rfl) dX5_custodyOf_62
def f_X5_settleChain (n : Nat) (x : SX) (a1 : Int32) : Option (SX) := (qgd (qin a1 10) ((qnm (x.1 14 a1.toNatClampNeg) fun v2 => (qbd (if v2 < 0 then some (0 : Int32) else (if a1 ≤ v2 then some (0 : Int32) else some (1 : Int32))) fun v3 => (qbd (if v3 = 0 then some (x.1 15 a1.toNatClampNeg) else (qgd (qin v2 10) (some ((x.1 19 v2.toNatClampNeg) + (x.1 20 v2.toNatClampNeg))))) fun v5 => (qnm (si x 19 a1.toNatClampNeg v5) fun x7 => (qbd (f_X1_later n (x7.1 19 a1.toNatClampNeg) (x7.1 11 a1.toNatClampNeg)) fun r8 => (qnm (si x7 20 a1.toNatClampNeg ((r8 - (x7.1 19 a1.toNatClampNeg)) + (x7.1 12 a1.toNatClampNeg))) fun x10 => (qbd (f_X5_custodyOf n (x10.1 10 a1.toNatClampNeg) (x10.1 20 a1.toNatClampNeg)) fun r11 => (qbd (if v3 = 0 then some (0 : Int32) else (qgd (qin v2 10) (some (x10.1 18 v2.toNatClampNeg)))) fun v13 => (qnm (si x10 18 a1.toNatClampNeg (((1 : Int32) <<< (a1 &&& 31)) ||| v13)) fun x15 => (qbd (if v3 = 0 then some (x15.1 19 a1.toNatClampNeg) else (qgd (qin v2 10) (some (x15.1 21 v2.toNatClampNeg)))) fun v16 => (qnm (si x15 21 a1.toNatClampNeg v16) fun x18 => (qbd (if v3 = 0 then some (0 : Int32) else (qgd (qin v2 10) (some (x18.1 22 v2.toNatClampNeg)))) fun v19 => (qnm (si x18 22 a1.toNatClampNeg ((x18.1 20 a1.toNatClampNeg) + v19)) fun x21 => (qbd (if v3 = 0 then some (0 : Int32) else (qgd (qin v2 10) (some (x21.1 23 v2.toNatClampNeg)))) fun v22 => (qnm (si x21 23 a1.toNatClampNeg (r11 + v22)) fun x24 => some x24)))))))))))))))))
set_option maxHeartbeats 4000000 in
set_option maxRecDepth 100000 in
theorem t_X5_settleChain {G : gG} {l : Launch} {ad : Nat → Nat} {n : Nat} {x : SX} {a1 : Int32} {xr : SX} (hf : f_X5_settleChain n x a1 = some xr) : MetV G l yX5_settleChain cX5_settleChain 5 none 3 0 0 70 [.ref (ad 1), .int a1] (wX G ad x) (wX G ad xr) := by
  refine k_ofV (by decide) (Nat.le_of_ble_eq_true rfl) ?_
  intro p e s m args below meth c ls A F hr hlk hl hw
  have hx := F.1
  have hb := F.2.1
  have hl : lv_has ls 5 [(0, .ref (ad 1)), (1, .int a1)] := hl
  unfold f_X5_settleChain at hf
  refine lv_aload_n hx hb dX5_settleChain_0 rfl (lv_at hl 0 rfl) ?_
  refine X_g_1_4 F ws_in hw fl_X5_24 dX5_settleChain_1 ?_
  refine lv_iload_n hx hb dX5_settleChain_4 rfl (lv_at hl 1 rfl) ?_
  obtain ⟨g1, hf⟩ := qgd_e hf
  refine X_l_14 F hw g1 dX5_settleChain_5 ?_
  refine lv_topi (fun v2 ev2 => ?_)
  have hf := qnm_k ev2 hf
  refine lv_istore_n (lv' := [(2, .int v2), (0, .ref (ad 1)), (1, .int a1)]) hx hb dX5_settleChain_6 rfl hl (Nat.le_of_ble_eq_true rfl) rfl (fun ls hl => ?_)
  refine lv_iload_n hx hb dX5_settleChain_7 rfl (lv_at hl 0 rfl) ?_
  obtain ⟨v3, hq42, hf⟩ := qbd_e hf
  have J4 : ∀ (H : Heap) (locs : List Loc) (ls : Array Slot), Wd G (wX G ad x) A s H locs → lv_has ls 5 [(0, .ref (ad 1)), (1, .int a1), (2, .int v2)] → W p l e (rmk 3 0 0 70) s m args below meth c H locs 0 0 (KQV G below args s A (wX G ad xr) 0 0) (F0 m 21 ls [.int v3]) := by
    intro H locs ls hw hl
    refine lv_istore_n (lv' := [(3, .int v3), (0, .ref (ad 1)), (1, .int a1), (2, .int v2)]) hx hb dX5_settleChain_21 rfl hl (Nat.le_of_ble_eq_true rfl) rfl (fun ls hl => ?_)
    refine lv_aload_n hx hb dX5_settleChain_22 rfl (lv_at hl 1 rfl) ?_
    refine X_g_1_9 F ws_in hw fl_X5_37 dX5_settleChain_23 ?_
    refine lv_iload_n hx hb dX5_settleChain_26 rfl (lv_at hl 2 rfl) ?_
    refine lv_iload_n hx hb dX5_settleChain_27 rfl (lv_at hl 0 rfl) ?_
    obtain ⟨v5, hq39, hf⟩ := qbd_e hf
    have J6 : ∀ (H : Heap) (locs : List Loc) (ls : Array Slot), Wd G (wX G ad x) A s H locs → lv_has ls 5 [(0, .ref (ad 1)), (1, .int a1), (2, .int v2), (3, .int v3)] → W p l e (rmk 3 0 0 70) s m args below meth c H locs 0 0 (KQV G below args s A (wX G ad xr) 0 0) (F0 m 53 ls [.int v5, .int a1, .ref (ad 19)]) := by
      intro H locs ls hw hl
      refine X_s_19 F hw g1 dX5_settleChain_53 (fun x7 ex7 H locs hw => ?_)
      have hf := qnm_k ex7 hf
      refine lv_aload_n hx hb dX5_settleChain_54 rfl (lv_at hl 0 rfl) ?_
      refine X_g_1_10 F ws_in hw fl_X5_40 dX5_settleChain_55 ?_
      refine lv_iload_n hx hb dX5_settleChain_58 rfl (lv_at hl 1 rfl) ?_
      refine lv_aload_n hx hb dX5_settleChain_59 rfl (lv_at hl 0 rfl) ?_
      refine X_g_1_9 F ws_in hw fl_X5_37 dX5_settleChain_60 ?_
      refine lv_iload_n hx hb dX5_settleChain_63 rfl (lv_at hl 1 rfl) ?_
      refine X_l_19 F hw g1 dX5_settleChain_64 ?_
      refine lv_aload_n hx hb dX5_settleChain_65 rfl (lv_at hl 0 rfl) ?_
      refine X_g_1_1 F ws_in hw fl_X5_15 dX5_settleChain_66 ?_
      refine lv_iload_n hx hb dX5_settleChain_69 rfl (lv_at hl 1 rfl) ?_
      refine X_l_11 F hw g1 dX5_settleChain_70 ?_
      obtain ⟨r8, h9, hf⟩ := qbd_e hf
      refine k_callPi (rest := [.int a1, .ref (ad 20)]) (As := [.int (x7.1 19 a1.toNatClampNeg), .int (x7.1 11 a1.toNatClampNeg)]) F ws_in (t_X1_later h9) cs_X1_later ml_X5_68 hw rfl hl.1 rfl (Nat.le_of_ble_eq_true rfl) ⟨Nat.le_of_ble_eq_true rfl, Nat.le_of_ble_eq_true rfl⟩ ⟨Nat.le_of_ble_eq_true rfl, Nat.le_of_ble_eq_true rfl⟩ dX5_settleChain_71 (fun H locs hw => ?_)
      refine lv_aload_n hx hb dX5_settleChain_74 rfl (lv_at hl 0 rfl) ?_
      refine X_g_1_9 F ws_in hw fl_X5_37 dX5_settleChain_75 ?_
      refine lv_iload_n hx hb dX5_settleChain_78 rfl (lv_at hl 1 rfl) ?_
      refine X_l_19 F hw g1 dX5_settleChain_79 ?_
      refine lv_isub hx hb dX5_settleChain_80 ?_
      refine lv_aload_n hx hb dX5_settleChain_81 rfl (lv_at hl 0 rfl) ?_
      refine X_g_1_2 F ws_in hw fl_X5_18 dX5_settleChain_82 ?_
      refine lv_iload_n hx hb dX5_settleChain_85 rfl (lv_at hl 1 rfl) ?_
      refine X_l_12 F hw g1 dX5_settleChain_86 ?_
      refine lv_iadd hx hb dX5_settleChain_87 ?_
      refine X_s_20 F hw g1 dX5_settleChain_88 (fun x10 ex10 H locs hw => ?_)
      have hf := qnm_k ex10 hf
      refine lv_aload_n hx hb dX5_settleChain_89 rfl (lv_at hl 0 rfl) ?_
      refine X_g_1_0 F ws_in hw fl_X5_9 dX5_settleChain_90 ?_
      refine lv_iload_n hx hb dX5_settleChain_93 rfl (lv_at hl 1 rfl) ?_
      refine X_l_10 F hw g1 dX5_settleChain_94 ?_
      refine lv_aload_n hx hb dX5_settleChain_95 rfl (lv_at hl 0 rfl) ?_
      refine X_g_1_10 F ws_in hw fl_X5_40 dX5_settleChain_96 ?_
      refine lv_iload_n hx hb dX5_settleChain_99 rfl (lv_at hl 1 rfl) ?_
      refine X_l_20 F hw g1 dX5_settleChain_100 ?_
      obtain ⟨r11, h12, hf⟩ := qbd_e hf
      refine k_callPi (rest := []) (As := [.int (x10.1 10 a1.toNatClampNeg), .int (x10.1 20 a1.toNatClampNeg)]) F ws_in (t_X5_custodyOf h12) cs_X5_custodyOf ml_X5_74 hw rfl hl.1 rfl (Nat.le_of_ble_eq_true rfl) ⟨Nat.le_of_ble_eq_true rfl, Nat.le_of_ble_eq_true rfl⟩ ⟨Nat.le_of_ble_eq_true rfl, Nat.le_of_ble_eq_true rfl⟩ dX5_settleChain_101 (fun H locs hw => ?_)
      refine lv_istore (lv' := [(4, .int r11), (0, .ref (ad 1)), (1, .int a1), (2, .int v2), (3, .int v3)]) hx hb dX5_settleChain_104 hl (Nat.le_of_ble_eq_true rfl) rfl (fun ls hl => ?_)
      refine lv_aload_n hx hb dX5_settleChain_106 rfl (lv_at hl 1 rfl) ?_
      refine X_g_1_8 F ws_in hw fl_X5_34 dX5_settleChain_107 ?_
      refine lv_iload_n hx hb dX5_settleChain_110 rfl (lv_at hl 2 rfl) ?_
      refine lv_iconst (v := 1) hx hb dX5_settleChain_111 (by decide) ?_
      refine lv_iload_n hx hb dX5_settleChain_112 rfl (lv_at hl 2 rfl) ?_
      refine lv_ishl hx hb dX5_settleChain_113 ?_
      refine lv_iload_n hx hb dX5_settleChain_114 rfl (lv_at hl 4 rfl) ?_
      obtain ⟨v13, hq36, hf⟩ := qbd_e hf
      have J14 : ∀ (H : Heap) (locs : List Loc) (ls : Array Slot), Wd G (wX G ad x10) A s H locs → lv_has ls 5 [(0, .ref (ad 1)), (1, .int a1), (2, .int v2), (3, .int v3), (4, .int r11)] → W p l e (rmk 3 0 0 70) s m args below meth c H locs 0 0 (KQV G below args s A (wX G ad xr) 0 0) (F0 m 128 ls [.int v13, .int ((1 : Int32) <<< (a1 &&& 31)), .int a1, .ref (ad 18)]) := by
        intro H locs ls hw hl
        refine lv_ior hx hb dX5_settleChain_128 ?_
        refine X_s_18 F hw g1 dX5_settleChain_129 (fun x15 ex15 H locs hw => ?_)
        have hf := qnm_k ex15 hf
        refine lv_aload_n hx hb dX5_settleChain_130 rfl (lv_at hl 0 rfl) ?_
        refine X_g_1_11 F ws_in hw fl_X5_43 dX5_settleChain_131 ?_
        refine lv_iload_n hx hb dX5_settleChain_134 rfl (lv_at hl 1 rfl) ?_
        refine lv_iload_n hx hb dX5_settleChain_135 rfl (lv_at hl 3 rfl) ?_
        obtain ⟨v16, hq33, hf⟩ := qbd_e hf
        have J17 : ∀ (H : Heap) (locs : List Loc) (ls : Array Slot), Wd G (wX G ad x15) A s H locs → lv_has ls 5 [(0, .ref (ad 1)), (1, .int a1), (2, .int v2), (3, .int v3), (4, .int r11)] → W p l e (rmk 3 0 0 70) s m args below meth c H locs 0 0 (KQV G below args s A (wX G ad xr) 0 0) (F0 m 154 ls [.int v16, .int a1, .ref (ad 21)]) := by
          intro H locs ls hw hl
          refine X_s_21 F hw g1 dX5_settleChain_154 (fun x18 ex18 H locs hw => ?_)
          have hf := qnm_k ex18 hf
          refine lv_aload_n hx hb dX5_settleChain_155 rfl (lv_at hl 0 rfl) ?_
          refine X_g_1_12 F ws_in hw fl_X5_46 dX5_settleChain_156 ?_
          refine lv_iload_n hx hb dX5_settleChain_159 rfl (lv_at hl 1 rfl) ?_
          refine lv_aload_n hx hb dX5_settleChain_160 rfl (lv_at hl 0 rfl) ?_
          refine X_g_1_10 F ws_in hw fl_X5_40 dX5_settleChain_161 ?_
          refine lv_iload_n hx hb dX5_settleChain_164 rfl (lv_at hl 1 rfl) ?_
          refine X_l_20 F hw g1 dX5_settleChain_165 ?_
          refine lv_iload_n hx hb dX5_settleChain_166 rfl (lv_at hl 3 rfl) ?_
          obtain ⟨v19, hq30, hf⟩ := qbd_e hf
          have J20 : ∀ (H : Heap) (locs : List Loc) (ls : Array Slot), Wd G (wX G ad x18) A s H locs → lv_has ls 5 [(0, .ref (ad 1)), (1, .int a1), (2, .int v2), (3, .int v3), (4, .int r11)] → W p l e (rmk 3 0 0 70) s m args below meth c H locs 0 0 (KQV G below args s A (wX G ad xr) 0 0) (F0 m 180 ls [.int v19, .int (x18.1 20 a1.toNatClampNeg), .int a1, .ref (ad 22)]) := by
            intro H locs ls hw hl
            refine lv_iadd hx hb dX5_settleChain_180 ?_
            refine X_s_22 F hw g1 dX5_settleChain_181 (fun x21 ex21 H locs hw => ?_)
            have hf := qnm_k ex21 hf
            refine lv_aload_n hx hb dX5_settleChain_182 rfl (lv_at hl 0 rfl) ?_
            refine X_g_1_13 F ws_in hw fl_X5_49 dX5_settleChain_183 ?_
            refine lv_iload_n hx hb dX5_settleChain_186 rfl (lv_at hl 1 rfl) ?_
            refine lv_iload hx hb dX5_settleChain_187 (lv_at hl 4 rfl) ?_
            refine lv_iload_n hx hb dX5_settleChain_189 rfl (lv_at hl 3 rfl) ?_
            obtain ⟨v22, hq27, hf⟩ := qbd_e hf
            have J23 : ∀ (H : Heap) (locs : List Loc) (ls : Array Slot), Wd G (wX G ad x21) A s H locs → lv_has ls 5 [] → W p l e (rmk 3 0 0 70) s m args below meth c H locs 0 0 (KQV G below args s A (wX G ad xr) 0 0) (F0 m 203 ls [.int v22, .int r11, .int a1, .ref (ad 23)]) := by
              intro H locs ls hw hl
              refine lv_iadd hx hb dX5_settleChain_203 ?_
              refine X_s_23 F hw g1 dX5_settleChain_204 (fun x24 ex24 H locs hw => ?_)
              have hf := qnm_k ex24 hf
              obtain rfl := q_s hf
              exact k_vret F hr hlk hw (Nat.le_of_ble_eq_true rfl) (Nat.le_of_ble_eq_true rfl) dX5_settleChain_205
            have hf := hq27
            refine lv_if_eq (tgt := 202) hx hb dX5_settleChain_190 rfl (fun c25 => ?_) (fun c25 => ?_)
            · have hf := q_t c25 hf
              refine lv_iconst (v := 0) hx hb dX5_settleChain_202 (by decide) ?_
              obtain rfl := q_s hf
              exact J23 _ _ _ hw (lv_sub hl [] rfl)
            · have hf := q_f c25 hf
              refine lv_aload_n hx hb dX5_settleChain_193 rfl (lv_at hl 0 rfl) ?_
              refine X_g_1_13 F ws_in hw fl_X5_49 dX5_settleChain_194 ?_
              refine lv_iload_n hx hb dX5_settleChain_197 rfl (lv_at hl 2 rfl) ?_
              obtain ⟨g26, hf⟩ := qgd_e hf
              refine X_l_23 F hw g26 dX5_settleChain_198 ?_
              refine lv_goto (tgt := 203) hx hb dX5_settleChain_199 rfl ?_
              obtain rfl := q_s hf
              exact J23 _ _ _ hw (lv_sub hl [] rfl)
          have hf := hq30
          refine lv_if_eq (tgt := 179) hx hb dX5_settleChain_167 rfl (fun c28 => ?_) (fun c28 => ?_)
          · have hf := q_t c28 hf
            refine lv_iconst (v := 0) hx hb dX5_settleChain_179 (by decide) ?_
            obtain rfl := q_s hf
            exact J20 _ _ _ hw (lv_sub hl [0, 1, 2, 3, 4] rfl)
          · have hf := q_f c28 hf
            refine lv_aload_n hx hb dX5_settleChain_170 rfl (lv_at hl 0 rfl) ?_
            refine X_g_1_12 F ws_in hw fl_X5_46 dX5_settleChain_171 ?_
            refine lv_iload_n hx hb dX5_settleChain_174 rfl (lv_at hl 2 rfl) ?_
            obtain ⟨g29, hf⟩ := qgd_e hf
            refine X_l_22 F hw g29 dX5_settleChain_175 ?_
            refine lv_goto (tgt := 180) hx hb dX5_settleChain_176 rfl ?_
            obtain rfl := q_s hf
            exact J20 _ _ _ hw (lv_sub hl [0, 1, 2, 3, 4] rfl)
        have hf := hq33
        refine lv_if_eq (tgt := 148) hx hb dX5_settleChain_136 rfl (fun c31 => ?_) (fun c31 => ?_)
        · have hf := q_t c31 hf
          refine lv_aload_n hx hb dX5_settleChain_148 rfl (lv_at hl 0 rfl) ?_
          refine X_g_1_9 F ws_in hw fl_X5_37 dX5_settleChain_149 ?_
          refine lv_iload_n hx hb dX5_settleChain_152 rfl (lv_at hl 1 rfl) ?_
          refine X_l_19 F hw g1 dX5_settleChain_153 ?_
          obtain rfl := q_s hf
          exact J17 _ _ _ hw (lv_sub hl [0, 1, 2, 3, 4] rfl)
        · have hf := q_f c31 hf
          refine lv_aload_n hx hb dX5_settleChain_139 rfl (lv_at hl 0 rfl) ?_
          refine X_g_1_11 F ws_in hw fl_X5_43 dX5_settleChain_140 ?_
          refine lv_iload_n hx hb dX5_settleChain_143 rfl (lv_at hl 2 rfl) ?_
          obtain ⟨g32, hf⟩ := qgd_e hf
          refine X_l_21 F hw g32 dX5_settleChain_144 ?_
          refine lv_goto (tgt := 154) hx hb dX5_settleChain_145 rfl ?_
          obtain rfl := q_s hf
          exact J17 _ _ _ hw (lv_sub hl [0, 1, 2, 3, 4] rfl)
      have hf := hq36
      refine lv_if_eq (tgt := 127) hx hb dX5_settleChain_115 rfl (fun c34 => ?_) (fun c34 => ?_)
      · have hf := q_t c34 hf
        refine lv_iconst (v := 0) hx hb dX5_settleChain_127 (by decide) ?_
        obtain rfl := q_s hf
        exact J14 _ _ _ hw (lv_sub hl [1, 2, 3, 4, 0] rfl)
      · have hf := q_f c34 hf
        refine lv_aload_n hx hb dX5_settleChain_118 rfl (lv_at hl 1 rfl) ?_
        refine X_g_1_8 F ws_in hw fl_X5_34 dX5_settleChain_119 ?_
        refine lv_iload_n hx hb dX5_settleChain_122 rfl (lv_at hl 3 rfl) ?_
        obtain ⟨g35, hf⟩ := qgd_e hf
        refine X_l_18 F hw g35 dX5_settleChain_123 ?_
        refine lv_goto (tgt := 128) hx hb dX5_settleChain_124 rfl ?_
        obtain rfl := q_s hf
        exact J14 _ _ _ hw (lv_sub hl [1, 2, 3, 4, 0] rfl)
    have hf := hq39
    refine lv_if_eq (tgt := 47) hx hb dX5_settleChain_28 rfl (fun c37 => ?_) (fun c37 => ?_)
    · have hf := q_t c37 hf
      refine lv_aload_n hx hb dX5_settleChain_47 rfl (lv_at hl 1 rfl) ?_
      refine X_g_1_5 F ws_in hw fl_X5_27 dX5_settleChain_48 ?_
      refine lv_iload_n hx hb dX5_settleChain_51 rfl (lv_at hl 2 rfl) ?_
      refine X_l_15 F hw g1 dX5_settleChain_52 ?_
      obtain rfl := q_s hf
      exact J6 _ _ _ hw (lv_sub hl [1, 2, 3, 0] rfl)
    · have hf := q_f c37 hf
      refine lv_aload_n hx hb dX5_settleChain_31 rfl (lv_at hl 1 rfl) ?_
      refine X_g_1_9 F ws_in hw fl_X5_37 dX5_settleChain_32 ?_
      refine lv_iload_n hx hb dX5_settleChain_35 rfl (lv_at hl 3 rfl) ?_
      obtain ⟨g38, hf⟩ := qgd_e hf
      refine X_l_19 F hw g38 dX5_settleChain_36 ?_
      refine lv_aload_n hx hb dX5_settleChain_37 rfl (lv_at hl 1 rfl) ?_
      refine X_g_1_10 F ws_in hw fl_X5_40 dX5_settleChain_38 ?_
      refine lv_iload_n hx hb dX5_settleChain_41 rfl (lv_at hl 3 rfl) ?_
      refine X_l_20 F hw g38 dX5_settleChain_42 ?_
      refine lv_iadd hx hb dX5_settleChain_43 ?_
      refine lv_goto (tgt := 53) hx hb dX5_settleChain_44 rfl ?_
      obtain rfl := q_s hf
      exact J6 _ _ _ hw (lv_sub hl [1, 2, 3, 0] rfl)
  have hf := hq42
  refine lv_if_lt (tgt := 20) hx hb dX5_settleChain_8 rfl (fun c40 => ?_) (fun c40 => ?_)
  · have hf := q_t c40 hf
    refine lv_iconst (v := 0) hx hb dX5_settleChain_20 (by decide) ?_
    obtain rfl := q_s hf
    exact J4 _ _ _ hw (lv_sub hl [1, 2, 0] rfl)
  · have hf := q_f c40 hf
    refine lv_iload_n hx hb dX5_settleChain_11 rfl (lv_at hl 0 rfl) ?_
    refine lv_iload_n hx hb dX5_settleChain_12 rfl (lv_at hl 2 rfl) ?_
    refine lv_icmp_ge (tgt := 20) hx hb dX5_settleChain_13 rfl (fun c41 => ?_) (fun c41 => ?_)
    · have hf := q_t c41 hf
      refine lv_iconst (v := 0) hx hb dX5_settleChain_20 (by decide) ?_
      obtain rfl := q_s hf
      exact J4 _ _ _ hw (lv_sub hl [1, 2, 0] rfl)
    · have hf := q_f c41 hf
      refine lv_iconst (v := 1) hx hb dX5_settleChain_16 (by decide) ?_
      refine lv_goto (tgt := 21) hx hb dX5_settleChain_17 rfl ?_
      obtain rfl := q_s hf
      exact J4 _ _ _ hw (lv_sub hl [1, 2, 0] rfl)
