def f_J6_stringSize_0f7a4_l16 (v2 : Int32) (v1 : Int32) : Nat → Int32 → Int32 → Option (Int32)
  | 0, _, _ => none
  | m + 1, v4, v5 => (if (10 : Int32) ≤ v5 then some ((10 : Int32) + v2) else (if v1 ≤ v4 then (qnm ((10 : Int32) * v4) fun v9 => (qnm (v5 + (1 : Int32)) fun v10 => (f_J6_stringSize_0f7a4_l16 v2 v1 m) v9 v10)) else some (v5 + v2)))
def f_J6_stringSize_0f7a4 (n : Nat) (a1 : Int32) : Option (Int32) := (qbd2 (if a1 < 0 then some (a1, (1 : Int32)) else (qnm (-a1) fun v12 => some (v12, (0 : Int32)))) fun v1 v2 => f_J6_stringSize_0f7a4_l16 v2 v1 n (-10 : Int32) (1 : Int32))
set_option maxHeartbeats 4000000 in
set_option maxRecDepth 100000 in
theorem t_J6_stringSize_0f7a4 {G : gG} {l : Launch} {n : Nat} {a1 : Int32} {rv : Int32} (hf : f_J6_stringSize_0f7a4 n a1 = some rv) : MetI G l yJ6_stringSize_0f7a4 cJ6_stringSize_0f7a4 4 (some .int) 0 0 0 0 [.int a1] (([] : va_W)) (([] : va_W)) rv := by
  refine k_ofI (by decide) (Nat.le_of_ble_eq_true rfl) ?_
  intro p e s m args below meth c ls A F hr hlk hl hw
  have hx := F.1
  have hb := F.2.1
  have hl : lv_has ls 4 [(0, .int a1)] := hl
  unfold f_J6_stringSize_0f7a4 at hf
  refine lv_iconst (v := 1) hx hb dJ6_stringSize_0f7a4_0 (by decide) ?_
  refine lv_istore_n (lv' := [(1, .int (1 : Int32)), (0, .int a1)]) hx hb dJ6_stringSize_0f7a4_1 rfl hl (Nat.le_of_ble_eq_true rfl) rfl (fun ls hl => ?_)
  refine lv_iload_n hx hb dJ6_stringSize_0f7a4_2 rfl (lv_at hl 1 rfl) ?_
  obtain ⟨v1, v2, hq13, hf⟩ := qbd2_e hf
  have J3 : ∀ (H : Heap) (locs : List Loc) (ls : Array Slot), Wd G (([] : va_W)) A s H locs → lv_has ls 4 [(0, .int v1), (1, .int v2)] → W p l e (rmk 0 0 0 0) s m args below meth c H locs 0 0 (KQI G below args s A (([] : va_W)) rv 0 0) (F0 m 11 ls []) := by
    intro H locs ls hw hl
    refine lv_bipush (v := -10) hx hb dJ6_stringSize_0f7a4_11 (by decide) ?_
    refine lv_istore_n (lv' := [(2, .int (-10 : Int32)), (0, .int v1), (1, .int v2)]) hx hb dJ6_stringSize_0f7a4_13 rfl hl (Nat.le_of_ble_eq_true rfl) rfl (fun ls hl => ?_)
    refine lv_iconst (v := 1) hx hb dJ6_stringSize_0f7a4_14 (by decide) ?_
    refine lv_istore_n (lv' := [(3, .int (1 : Int32)), (2, .int (-10 : Int32)), (0, .int v1), (1, .int v2)]) hx hb dJ6_stringSize_0f7a4_15 rfl hl (Nat.le_of_ble_eq_true rfl) rfl (fun ls hl => ?_)
    have L6 : ∀ (m0 : Nat) (v4 : Int32) (v5 : Int32) (H : Heap) (locs : List Loc) (ls : Array Slot), Wd G (([] : va_W)) A s H locs → lv_has ls 4 [(0, .int v1), (1, .int v2), (2, .int v4), (3, .int v5)] → f_J6_stringSize_0f7a4_l16 v2 v1 m0 v4 v5 = some rv → W p l e (rmk 0 0 0 0) s m args below meth c H locs 0 0 (KQI G below args s A (([] : va_W)) rv 0 0) (F0 m 16 ls []) := by
      intro m0
      induction m0 with
      | zero => intro v4 v5 H locs ls hw hl hf; cases hf
      | succ mL6 ih6 =>
        intro v4 v5 H locs ls hw hl hf
        unfold f_J6_stringSize_0f7a4_l16 at hf
        refine lv_iload_n hx hb dJ6_stringSize_0f7a4_16 rfl (lv_at hl 3 rfl) ?_
        refine lv_bipush (v := 10) hx hb dJ6_stringSize_0f7a4_17 (by decide) ?_
        refine lv_icmp_ge (tgt := 42) hx hb dJ6_stringSize_0f7a4_19 rfl (fun c7 => ?_) (fun c7 => ?_)
        · have hf := q_t c7 hf
          refine lv_bipush (v := 10) hx hb dJ6_stringSize_0f7a4_42 (by decide) ?_
          refine lv_iload_n hx hb dJ6_stringSize_0f7a4_44 rfl (lv_at hl 1 rfl) ?_
          refine lv_iadd hx hb dJ6_stringSize_0f7a4_45 ?_
          obtain rfl := q_s hf
          exact k_iret F hr hlk hw (Nat.le_of_ble_eq_true rfl) (Nat.le_of_ble_eq_true rfl) dJ6_stringSize_0f7a4_46
        · have hf := q_f c7 hf
          refine lv_iload_n hx hb dJ6_stringSize_0f7a4_22 rfl (lv_at hl 0 rfl) ?_
          refine lv_iload_n hx hb dJ6_stringSize_0f7a4_23 rfl (lv_at hl 2 rfl) ?_
          refine lv_icmp_le (tgt := 31) hx hb dJ6_stringSize_0f7a4_24 rfl (fun c8 => ?_) (fun c8 => ?_)
          · have hf := q_t c8 hf
            refine lv_bipush (v := 10) hx hb dJ6_stringSize_0f7a4_31 (by decide) ?_
            refine lv_iload_n hx hb dJ6_stringSize_0f7a4_33 rfl (lv_at hl 2 rfl) ?_
            refine lv_imul hx hb dJ6_stringSize_0f7a4_34 ?_
            refine lv_topi (fun v9 ev9 => ?_)
            have hf := qnm_k ev9 hf
            refine lv_istore_n (lv' := [(2, .int v9), (0, .int v1), (1, .int v2), (3, .int v5)]) hx hb dJ6_stringSize_0f7a4_35 rfl hl (Nat.le_of_ble_eq_true rfl) rfl (fun ls hl => ?_)
            obtain ⟨v10, ev10⟩ : ∃ y : Int32, y = v5 + (1 : Int32) := ⟨_, rfl⟩
            refine lv_iinc (v := v10) (lv' := [(3, .int v10), (2, .int v9), (0, .int v1), (1, .int v2)]) hx hb dJ6_stringSize_0f7a4_36 hl (k := 3) rfl (by rw [ev10]; rfl) (Nat.le_of_ble_eq_true rfl) rfl (fun ls hl => ?_)
            have hf := qnm_k ev10 hf
            refine lv_goto (tgt := 16) hx hb dJ6_stringSize_0f7a4_39 rfl ?_
            exact ih6 v9 v10 _ _ _ hw (lv_sub hl [2, 3, 1, 0] rfl) hf
          · have hf := q_f c8 hf
            refine lv_iload_n hx hb dJ6_stringSize_0f7a4_27 rfl (lv_at hl 3 rfl) ?_
            refine lv_iload_n hx hb dJ6_stringSize_0f7a4_28 rfl (lv_at hl 1 rfl) ?_
            refine lv_iadd hx hb dJ6_stringSize_0f7a4_29 ?_
            obtain rfl := q_s hf
            exact k_iret F hr hlk hw (Nat.le_of_ble_eq_true rfl) (Nat.le_of_ble_eq_true rfl) dJ6_stringSize_0f7a4_30
    exact L6 n (-10 : Int32) (1 : Int32) _ _ _ hw (lv_sub hl [2, 3, 1, 0] rfl) hf
  have hf := hq13
  refine lv_if_lt (tgt := 11) hx hb dJ6_stringSize_0f7a4_3 rfl (fun c11 => ?_) (fun c11 => ?_)
  · have hf := q_t c11 hf
    obtain ⟨rfl, rfl⟩ := q_s2 hf
    exact J3 _ _ _ hw (lv_sub hl [1, 0] rfl)
  · have hf := q_f c11 hf
    refine lv_iconst (v := 0) hx hb dJ6_stringSize_0f7a4_6 (by decide) ?_
    refine lv_istore_n (lv' := [(1, .int (0 : Int32)), (0, .int a1)]) hx hb dJ6_stringSize_0f7a4_7 rfl hl (Nat.le_of_ble_eq_true rfl) rfl (fun ls hl => ?_)
    refine lv_iload_n hx hb dJ6_stringSize_0f7a4_8 rfl (lv_at hl 1 rfl) ?_
    refine lv_ineg hx hb dJ6_stringSize_0f7a4_9 ?_
    refine lv_topi (fun v12 ev12 => ?_)
    have hf := qnm_k ev12 hf
    refine lv_istore_n (lv' := [(0, .int v12), (1, .int (0 : Int32))]) hx hb dJ6_stringSize_0f7a4_10 rfl hl (Nat.le_of_ble_eq_true rfl) rfl (fun ls hl => ?_)
    obtain ⟨rfl, rfl⟩ := q_s2 hf
    exact J3 _ _ _ hw (lv_sub hl [0, 1] rfl)
def f_J8_newLength_cabcc (n : Nat) (a1 : Int32) (a2 : Int32) (a3 : Int32) : Option (Int32) := (qnm (a1 + (if a2 < a3 then a3 else a2)) fun v1 => (if v1 ≤ (0 : Int32) then none else (if (2147483639 : Int32) < v1 then none else some v1)))
set_option maxHeartbeats 4000000 in
set_option maxRecDepth 100000 in
theorem t_J8_newLength_cabcc {G : gG} {l : Launch} {n : Nat} {a1 : Int32} {a2 : Int32} {a3 : Int32} {rv : Int32} (hf : f_J8_newLength_cabcc n a1 a2 a3 = some rv) : MetI G l yJ8_newLength_cabcc cJ8_newLength_cabcc 4 (some .int) 1 0 0 30 [.int a1, .int a2, .int a3] (([] : va_W)) (([] : va_W)) rv := by
  refine k_ofI (by decide) (Nat.le_of_ble_eq_true rfl) ?_
  intro p e s m args below meth c ls A F hr hlk hl hw
  have hx := F.1
  have hb := F.2.1
  have hl : lv_has ls 4 [(0, .int a1), (1, .int a2), (2, .int a3)] := hl
  unfold f_J8_newLength_cabcc at hf
  refine lv_iload_n hx hb dJ8_newLength_cabcc_0 rfl (lv_at hl 0 rfl) ?_
  refine lv_iload_n hx hb dJ8_newLength_cabcc_1 rfl (lv_at hl 1 rfl) ?_
  refine lv_iload_n hx hb dJ8_newLength_cabcc_2 rfl (lv_at hl 2 rfl) ?_
  refine k_mmax F ws_in ml_J8_194 cm_max hl.1 ⟨Nat.le_of_ble_eq_true rfl, Nat.le_of_ble_eq_true rfl, Nat.le_of_ble_eq_true rfl, Nat.le_of_ble_eq_true rfl⟩ dJ8_newLength_cabcc_3 ?_
  refine lv_iadd hx hb dJ8_newLength_cabcc_6 ?_
  refine lv_topi (fun v1 ev1 => ?_)
  have hf := qnm_k ev1 hf
  refine lv_istore_n (lv' := [(3, .int v1), (0, .int a1), (1, .int a2), (2, .int a3)]) hx hb dJ8_newLength_cabcc_7 rfl hl (Nat.le_of_ble_eq_true rfl) rfl (fun ls hl => ?_)
  refine lv_iconst (v := 0) hx hb dJ8_newLength_cabcc_8 (by decide) ?_
  refine lv_iload_n hx hb dJ8_newLength_cabcc_9 rfl (lv_at hl 0 rfl) ?_
  refine lv_icmp_ge (tgt := 21) hx hb dJ8_newLength_cabcc_10 rfl (fun c2 => ?_) (fun c2 => ?_)
  · have hf := q_t c2 hf
    refine lv_iload_n hx hb dJ8_newLength_cabcc_21 rfl (lv_at hl 1 rfl) ?_
    refine lv_iload_n hx hb dJ8_newLength_cabcc_22 rfl (lv_at hl 2 rfl) ?_
    exact k_cut hf
  · have hf := q_f c2 hf
    refine lv_iload_n hx hb dJ8_newLength_cabcc_13 rfl (lv_at hl 0 rfl) ?_
    refine lv_ldc (v := (2147483639 : Int32)) hx hb F.2.2.2.1 (F.2.2.2.2 _ (ws_in _ ct_J8_200)) dJ8_newLength_cabcc_14 ?_
    refine lv_icmp_gt (tgt := 21) hx hb dJ8_newLength_cabcc_16 rfl (fun c3 => ?_) (fun c3 => ?_)
    · have hf := q_t c3 hf
      refine lv_iload_n hx hb dJ8_newLength_cabcc_21 rfl (lv_at hl 1 rfl) ?_
      refine lv_iload_n hx hb dJ8_newLength_cabcc_22 rfl (lv_at hl 2 rfl) ?_
      exact k_cut hf
    · have hf := q_f c3 hf
      refine lv_iload_n hx hb dJ8_newLength_cabcc_19 rfl (lv_at hl 0 rfl) ?_
      obtain rfl := q_s hf
      exact k_iret F hr hlk hw (Nat.le_of_ble_eq_true rfl) (Nat.le_of_ble_eq_true rfl) dJ8_newLength_cabcc_20
def f_J1_canEncode_fc78d (n : Nat) (a1 : Int32) : Option (Int32) := (qbd (if (255 : Int32) < a1 then some (0 : Int32) else some (1 : Int32)) fun v1 => (qgd (qz v1) (some v1)))
set_option maxHeartbeats 4000000 in
set_option maxRecDepth 100000 in
theorem t_J1_canEncode_fc78d {G : gG} {l : Launch} {n : Nat} {a1 : Int32} {rv : Int32} (hf : f_J1_canEncode_fc78d n a1 = some rv) : MetI G l yJ1_canEncode_fc78d cJ1_canEncode_fc78d 1 (some .boolean) 0 0 0 0 [.int a1] (([] : va_W)) (([] : va_W)) rv := by
  refine k_ofI (by decide) (Nat.le_of_ble_eq_true rfl) ?_
  intro p e s m args below meth c ls A F hr hlk hl hw
  have hx := F.1
  have hb := F.2.1
  have hl : lv_has ls 1 [(0, .int a1)] := hl
  unfold f_J1_canEncode_fc78d at hf
  refine lv_iload_n hx hb dJ1_canEncode_fc78d_0 rfl (lv_at hl 0 rfl) ?_
  refine lv_sipush (v := 255) hx hb dJ1_canEncode_fc78d_1 (by decide) ?_
  obtain ⟨v1, hq5, hf⟩ := qbd_e hf
  have J2 : ∀ (H : Heap) (locs : List Loc) (ls : Array Slot), Wd G (([] : va_W)) A s H locs → lv_has ls 1 [] → W p l e (rmk 0 0 0 0) s m args below meth c H locs 0 0 (KQI G below args s A (([] : va_W)) rv 0 0) (F0 m 12 ls [.int v1]) := by
    intro H locs ls hw hl
    obtain ⟨g3, hf⟩ := qgd_e hf
    obtain rfl := q_s hf
    exact k_zret F hr hlk hw (qz_n g3) (Nat.le_of_ble_eq_true rfl) (Nat.le_of_ble_eq_true rfl) dJ1_canEncode_fc78d_12
  have hf := hq5
  refine lv_icmp_gt (tgt := 11) hx hb dJ1_canEncode_fc78d_4 rfl (fun c4 => ?_) (fun c4 => ?_)
  · have hf := q_t c4 hf
    refine lv_iconst (v := 0) hx hb dJ1_canEncode_fc78d_11 (by decide) ?_
    obtain rfl := q_s hf
    exact J2 _ _ _ hw (lv_sub hl [] rfl)
  · have hf := q_f c4 hf
    refine lv_iconst (v := 1) hx hb dJ1_canEncode_fc78d_7 (by decide) ?_
    refine lv_goto (tgt := 12) hx hb dJ1_canEncode_fc78d_8 rfl ?_
    obtain rfl := q_s hf
    exact J2 _ _ _ hw (lv_sub hl [] rfl)
